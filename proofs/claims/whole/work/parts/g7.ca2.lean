/-! ===== lose, isOpen, size, out, pending, expiry, isSession as calls ===== -/
section CA2
variable {x j i : Nat} {e0 : Int32} {h h' : Hp} {r r' : RS}
theorem SB.le (z : ∀ i', i' < 8 → iN (r'.2.1 5 i') ≤ iN (r.2.1 5 i')) : SB r' ≤ SB r := by
  have q0 := z 0 (by omega)
  have q1 := z 1 (by omega)
  have q2 := z 2 (by omega)
  have q3 := z 3 (by omega)
  have q4 := z 4 (by omega)
  have q5 := z 5 (by omega)
  have q6 := z 6 (by omega)
  have q7 := z 7 (by omega)
  unfold SB
  omega
theorem Iv.gl (t : Nat) (t1 : r.1 66 = nn t) (t2 : t ≤ 4000 * j) (cn : Cn r (320 * j)) (k1 : (hcs h).1 + WN r + 60 * SB r ≤ 130 + 1000 * j) (k2 : (hcs h).2 + 6 * WN r + 700 * SB r ≤ 375602 + 12000 * j) (O : Okr x e0 h' r') (G : GL x h h' r r') (P : Pd h h' r r') : Iv x (j + 1) h' r' := by
  have q := SB.le (r := r) (r' := r') (fun i' g => G.five O.1 g)
  have p1 := P.1
  have p2 := P.2
  obtain ⟨a, b, d, h1, h2, h3, h4, h5, h6⟩ := cn
  exact ⟨e0, O, ⟨t, by rw [G.2.1.gI (by decide)]; exact t1, by omega⟩, ⟨a, b, d, by rw [G.2.1.gI (by decide)]; exact h1, by rw [G.2.1.gI (by decide)]; exact h2, by rw [G.2.1.gI (by decide)]; exact h3, by omega, by omega, by omega⟩, by omega, by omega⟩
theorem call_lose (v : Int32) : OkX (Iv x) (fun e => if e = 0 then some 1 else if e = 2 then some 2 else none) (C_X11_lose x v) (R_lose v) (fun _ _ => True) := by
  intro j h r hj I
  have I0 := I
  obtain ⟨e0, O, ⟨t, t1, t2⟩, cn, k1, k2⟩ := I0
  have T := O.1.st
  have kx := T.2.1.1
  have m26 : ∀ v s1 : Int32, s1 ≠ 0 → R_lose_J26 v s1 r = some ((), sI r 0 s1) := fun v s1 z => by
    unfold R_lose_J26
    rw [e_bd (m_ref s1 r), if_neg z, if_neg (by decide)]
    rfl
  by_cases hv : inCon v
  · obtain ⟨n1, n2⟩ := hv.nat
    obtain ⟨i, hi, ev⟩ : ∃ i, i < 8 ∧ v = nn i := ⟨v.toNatClampNeg, n1, nn_ofp n2⟩
    subst ev
    obtain ⟨c1, _⟩ := T.pk hi
    have CA := (O.1.2.2.2.1 i hi).1.1
    have e1 : hfi h (100 * 2 + 1) (cA x i) = r.2.1 1 i := CA.1
    unfold C_X11_lose R_lose
    rw [call_in T hi, e_bd (m_con hi), if_neg (show ¬ (1 : Int32) = 0 by decide), e_gI c1, e1, x_rA mL_1 hi (by omega)]
    rcases CA.2 with z | z
    · rw [z, if_pos rfl, if_pos rfl]
      exact ⟨.inl 2, hsk h 6, (), sI r 0 2, rfl, m26 _ 2 (by decide), I.thr, 2, rfl, by decide, rfl⟩
    · rw [z, if_neg (by decide), if_neg (by decide), e_Cv (c := 13) kx]
      have O1 : Okr x e0 h (sI r 0 0) := O.z0
      obtain ⟨_, h1, _, r1, q1, q2, R1, G1, _, z1, P1⟩ := sim_lost (ec' := 8) O1.1 hi (fun i' _ _ z => z)
      obtain ⟨_, h2, _, r2, q3, q4, R2, G2, s2, P2⟩ := sim_settle R1
      unfold R_lose_J26
      rw [e_bd q1, e_Cv (c := 13) R1.st.2.1.1, e_bd q3, e_bd (m_ref 0 r), if_pos rfl, if_pos rfl, e_bd q2, e_bd q4]
      have G := G1.tr G2
      refine ⟨.inr (), h2, (), r2, rfl, rfl, ?_, ?_, trivial⟩
      · exact Iv.gl (r := sI r 0 0) t t1 t2 cn k1 k2 ⟨R2, s2⟩ G (P1.tr P2)
      · rw [G.2.1.gI (by decide)]
        rfl
  · unfold C_X11_lose R_lose
    rw [callC_out kx hv, e_bd (m_isCon v r), if_neg (show ¬ (¬ v < 0 ∧ v < 8) from hv), if_pos rfl]
    exact ⟨.inl 0, hsk h 6, (), sI r 0 1, rfl, m26 _ 1 (by decide), I.thr, 1, rfl, by decide, rfl⟩
theorem call_isOpen (v : Int32) : OkX (Iv x) (fun e => if e = 0 then some 1 else none) (C_X11_isOpen x v) (R_isOpen v) (fun a b => (if a = 0 then (0 : Int64) else 1) = if b = 0 then 0 else 1) := by
  intro j h r hj I
  have I0 := I
  obtain ⟨e0, O, _⟩ := I0
  have T := O.1.st
  have kx := T.2.1.1
  by_cases hv : inCon v
  · obtain ⟨n1, n2⟩ := hv.nat
    obtain ⟨i, hi, ev⟩ : ∃ i, i < 8 ∧ v = nn i := ⟨v.toNatClampNeg, n1, nn_ofp n2⟩
    subst ev
    obtain ⟨c1, _⟩ := T.pk hi
    have CA := (O.1.2.2.2.1 i hi).1.1
    have e1 : hfi h (100 * 2 + 1) (cA x i) = r.2.1 1 i := CA.1
    unfold C_X11_isOpen R_isOpen R_isOpen_J13
    rw [call_in T hi, e_bd (m_con hi), if_neg (show ¬ (1 : Int32) = 0 by decide), e_gI c1, e1, e_bd (m_ref 0 r), if_pos rfl, if_pos rfl, x_rA mL_1 hi (by omega)]
    have e2 : (sI r 0 0).2.1 1 i = r.2.1 1 i := rfl
    rw [e2]
    rcases CA.2 with z | z
    · rw [z, if_pos rfl]
      exact ⟨.inr 0, h, 0, sI r 0 0, rfl, rfl, I.z0, rfl, rfl⟩
    · rw [z, if_neg (by decide)]
      exact ⟨.inr 1, h, 1, sI r 0 0, rfl, rfl, I.z0, rfl, rfl⟩
  · unfold C_X11_isOpen R_isOpen R_isOpen_J13
    rw [callC_out kx hv, e_bd (m_isCon v r), if_neg (show ¬ (¬ v < 0 ∧ v < 8) from hv), if_pos rfl, e_bd (m_ref 1 r), if_neg (by decide)]
    exact ⟨.inl 0, hsk h 6, 0, sI r 0 1, rfl, rfl, I.thr, 1, rfl, by decide, rfl⟩
theorem call_size (v : Int32) : OkX (Iv x) (fun e => if e = 0 then some 1 else none) (C_X11_size x v) (R_size v) (fun a b => a.toInt64 = b.toInt64) := by
  intro j h r hj I
  have I0 := I
  obtain ⟨e0, O, _⟩ := I0
  have T := O.1.st
  have kx := T.2.1.1
  by_cases hv : inCon v
  · obtain ⟨n1, n2⟩ := hv.nat
    obtain ⟨i, hi, ev⟩ : ∃ i, i < 8 ∧ v = nn i := ⟨v.toNatClampNeg, n1, nn_ofp n2⟩
    subst ev
    obtain ⟨c1, _⟩ := T.pk hi
    obtain ⟨os, o1, o2⟩ := (O.1.2.2.2.1 i hi).2.1
    have e1 : hfi h (100 * 2 + 4) (cA x i) = nn os.length := o1.1
    have e2 : (sI r 0 0).2.1 3 i = nn os.length := o2.1
    unfold C_X11_size R_size R_size_J13
    rw [call_in T hi, e_bd (m_con hi), if_neg (show ¬ (1 : Int32) = 0 by decide), e_gI c1, e1, e_bd (m_ref 0 r), if_pos rfl, if_pos rfl, x_rA mL_3 hi (by omega), e2]
    exact ⟨.inr (nn os.length), h, nn os.length, sI r 0 0, rfl, rfl, I.z0, rfl, rfl⟩
  · unfold C_X11_size R_size R_size_J13
    rw [callC_out kx hv, e_bd (m_isCon v r), if_neg (show ¬ (¬ v < 0 ∧ v < 8) from hv), if_pos rfl, e_bd (m_ref 1 r), if_neg (by decide)]
    exact ⟨.inl 0, hsk h 6, 0, sI r 0 1, rfl, rfl, I.thr, 1, rfl, by decide, rfl⟩
theorem call_pending (v : Int32) : OkX (Iv x) (fun e => if e = 0 then some 1 else none) (C_X11_pending x v) (R_pending v) (fun a b => a.toInt64 = b.toInt64) := by
  intro j h r hj I
  have I0 := I
  obtain ⟨e0, O, _⟩ := I0
  have T := O.1.st
  have kx := T.2.1.1
  by_cases hv : inCon v
  · obtain ⟨n1, n2⟩ := hv.nat
    obtain ⟨i, hi, ev⟩ : ∃ i, i < 8 ∧ v = nn i := ⟨v.toNatClampNeg, n1, nn_ofp n2⟩
    subst ev
    obtain ⟨c1, _⟩ := T.pk hi
    obtain ⟨bs, o1, o2, _⟩ := (O.1.2.2.2.1 i hi).2.2.2 (by omega)
    have e1 : hfi h (100 * 2 + 8) (cA x i) = nn bs.length := o1
    have e2 : (sI r 0 0).2.1 5 i = nn bs.length := o2
    unfold C_X11_pending R_pending R_pending_J13
    rw [call_in T hi, e_bd (m_con hi), if_neg (show ¬ (1 : Int32) = 0 by decide), e_gI c1, e1, e_bd (m_ref 0 r), if_pos rfl, if_pos rfl, x_rA mL_5 hi (by omega), e2]
    exact ⟨.inr (nn bs.length), h, nn bs.length, sI r 0 0, rfl, rfl, I.z0, rfl, rfl⟩
  · unfold C_X11_pending R_pending R_pending_J13
    rw [callC_out kx hv, e_bd (m_isCon v r), if_neg (show ¬ (¬ v < 0 ∧ v < 8) from hv), if_pos rfl, e_bd (m_ref 1 r), if_neg (by decide)]
    exact ⟨.inl 0, hsk h 6, 0, sI r 0 1, rfl, rfl, I.thr, 1, rfl, by decide, rfl⟩
theorem call_out (v l : Int32) : OkX (Iv x) (fun e => if e = 0 then some 1 else none) (C_X11_out x v l) (R_out v l) (fun a b => a.toInt64 = b.toInt64) := by
  intro j h r hj I
  have I0 := I
  obtain ⟨e0, O, _⟩ := I0
  have T := O.1.st
  have kx := T.2.1.1
  by_cases hv : inCon v
  · obtain ⟨n1, n2⟩ := hv.nat
    obtain ⟨i, hi, ev⟩ : ∃ i, i < 8 ∧ v = nn i := ⟨v.toNatClampNeg, n1, nn_ofp n2⟩
    subst ev
    obtain ⟨c1, _⟩ := T.pk hi
    obtain ⟨_, _, _, a4, a5, a6, _⟩ := T.2.2.2.2.2.2 i hi
    have a4' : hfr h (100 * 2 + 3) (cA x i) = some (cA x i + 1) := a4
    obtain ⟨os, o1, o2⟩ := (O.1.2.2.2.1 i hi).2.1
    have e1 : hfi h (100 * 2 + 4) (cA x i) = nn os.length := o1.1
    have e2 : (sI r 0 0).2.1 3 i = nn os.length := o2.1
    have ol := o1.2.1
    unfold C_X11_out R_out R_out_J13
    rw [call_in T hi, e_bd (m_con hi), if_neg (show ¬ (1 : Int32) = 0 by decide), e_bd (m_ref 0 r), if_pos rfl, if_pos rfl]
    by_cases g : l < 0
    · rw [if_pos g, if_pos g]
      exact ⟨.inr (-1), h, -1, sI r 0 0, rfl, rfl, I.z0, rfl, rfl⟩
    · rw [if_neg g, if_neg g, e_gI c1, e1, x_rA mL_3 hi (by omega), e2]
      by_cases g2 : nn os.length ≤ l
      · rw [if_pos g2, if_pos g2]
        exact ⟨.inr (-1), h, -1, sI r 0 0, rfl, rfl, I.z0, rfl, rfl⟩
      · rw [if_neg g2, if_neg g2]
        obtain ⟨k, ek⟩ : ∃ k, k = l.toNatClampNeg := ⟨_, rfl⟩
        have el : l = nn k := by
          rw [ek]
          exact nn_ofp (Int32.not_lt.mp g)
        have hk31 : k < 2147483648 := by
          rw [ek]
          have := Int32.toInt_lt l
          have e : l.toNatClampNeg = l.toInt.toNat := rfl
          omega
        subst el
        have hk : k < os.length := by
          rw [nn_le (by omega) (by omega)] at g2
          omega
        have b1 : hai h (cA x i + 1) k = nn (os.getD k 0) := by
          have := o1.2.2.1 k hk
          rw [Nat.zero_add] at this
          exact this
        have b2 : (sI r 0 0).2.1 4 (2000 * i + k) = sb (os.getD k 0) := o2.2.2.1 k hk
        rw [e_gR c1, a4', e_Ai a5 (nn_inr (by omega) (by omega)), nn_N (by omega), b1, show (2000 : Int32) = nn 2000 from rfl, nn_mul, nn_add, x_rA mL_4 (by omega) (by omega), b2, (type_or _ (o1.2.2.2.at k)).2.2]
        exact ⟨.inr (nn (os.getD k 0)), h, nn (os.getD k 0), sI r 0 0, rfl, rfl, I.z0, rfl, rfl⟩
  · unfold C_X11_out R_out R_out_J13
    rw [callC_out kx hv, e_bd (m_isCon v r), if_neg (show ¬ (¬ v < 0 ∧ v < 8) from hv), if_pos rfl, e_bd (m_ref 1 r), if_neg (by decide)]
    exact ⟨.inl 0, hsk h 6, 0, sI r 0 1, rfl, rfl, I.thr, 1, rfl, by decide, rfl⟩
end CA2
