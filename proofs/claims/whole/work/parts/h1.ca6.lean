/-! ===== take as a call ===== -/
section CA6
variable {x j i m n : Nat} {e0 : Int32} {h h' : Hp} {r r' : RS} {os : List Nat}
/-- the model's bytes come down -/
theorem take_loop (hi : i < 8) (hn : n ≤ 2000) (B : ∀ q, m ≤ q → q < n → ∃ b, b < 256 ∧ r.2.1 4 (2000 * i + q) = sb b) {ke : Int32 → Int32 → RS → Option (Int32 × RS)} : ∀ (c q f : Nat) (r1 : RS), q + c = n → m ≤ q → c < f → r.2.1 3 i = nn n → Ro [4] r r1 → r1.2.2 = r.2.2 → (∀ p, r1.2.1 4 p = if 2000 * i ≤ p ∧ p < 2000 * i + (q - m) then r.2.1 4 (p + m) else r.2.1 4 p) →
    ∃ r2, R_take_L43 ke f (nn i) (nn m) (nn q) r1 = ke (nn i) (nn m) r2 ∧ Ro [4] r r2 ∧ r2.2.2 = r.2.2 ∧ ∀ p, r2.2.1 4 p = if 2000 * i ≤ p ∧ p < 2000 * i + (n - m) then r.2.1 4 (p + m) else r.2.1 4 p := by
  intro c
  induction c with
  | zero =>
    intro q f r1 hq hm hf h3 w1 l1 e1
    obtain ⟨f', rfl⟩ : ∃ z, f = z + 1 := ⟨f - 1, by omega⟩
    have eq : q = n := by omega
    subst eq
    refine ⟨r1, ?_, w1, l1, e1⟩
    show R_take_B43 _ ke (nn i) (nn m) (nn q) r1 = _
    unfold R_take_B43
    rw [x_rA mL_3 hi (by omega), w1.gA (by decide), h3, if_pos (Int32.le_refl _)]
  | succ c ih =>
    intro q f r1 hq hm hf h3 w1 l1 e1
    obtain ⟨f', rfl⟩ : ∃ z, f = z + 1 := ⟨f - 1, by omega⟩
    obtain ⟨b, hb, eb⟩ := B q hm (by omega)
    have er : r1.2.1 4 (2000 * i + q) = sb b := by
      rw [e1, if_neg (by omega)]
      exact eb
    obtain ⟨r2, q1, q2, q4, q3⟩ := ih (q + 1) f' (sA r1 4 (2000 * i + q - m) (sb b)) (by omega) (by omega) (by omega) h3 (w1.a (by decide)) l1 (fun p => by
      rw [sA_2]
      by_cases g : p = 2000 * i + q - m
      · rw [if_pos ⟨rfl, g⟩, if_pos (by omega), g, show 2000 * i + q - m + m = 2000 * i + q by omega]
        exact eb.symm
      · rw [if_neg (fun z => g z.2), e1]
        by_cases g2 : 2000 * i ≤ p ∧ p < 2000 * i + (q - m)
        · rw [if_pos g2, if_pos (by omega)]
        · rw [if_neg g2, if_neg (by omega)])
    refine ⟨r2, ?_, q2, q4, q3⟩
    rw [← q1]
    show R_take_B43 _ ke (nn i) (nn m) (nn q) r1 = _
    unfold R_take_B43
    rw [x_rA mL_3 hi (by omega), w1.gA (by decide), h3, if_neg (by rw [nn_le (by omega) (by omega)]; omega), show (2000 : Int32) = nn 2000 from rfl, nn_mul, nn_add, x_rA mL_4 (by omega) (by omega), er, nn_sub (by omega), x_wA mL_4 (by omega) (by omega), nar_sb hb, show nn q + 1 = nn (q + 1) from nn_add]
def dpH (x i m n : Nat) (h : Hp) : Hp := sai (sfi h 204 (cA x i) (nn (n - m))) (cA x i + 1) (va_cpy (hai h (cA x i + 1)) (hai h (cA x i + 1)) m 0 (n - m))
theorem drop_ev (T : Stat x h) (hi : i < 8) (h4 : hfi h 204 (cA x i) = nn n) (hn : n ≤ 2000) (hm : m ≤ n) : C_X0_drop (cA x i) (nn m) h = some ((), dpH x i m n h) := by
  obtain ⟨c1, _⟩ := T.pk hi
  obtain ⟨_, _, _, a4, a5, a6, _⟩ := T.2.2.2.2.2.2 i hi
  have a4' : hfr (sfi h (100 * 2 + 4) (cA x i) (nn (n - m))) (100 * 2 + 3) (cA x i) = some (cA x i + 1) := a4
  have h4' : hfi h (100 * 2 + 4) (cA x i) = nn n := h4
  have h4s : hfi (sfi h (100 * 2 + 4) (cA x i) (nn (n - m))) (100 * 2 + 4) (cA x i) = nn (n - m) := by
    rw [hfi_sfi, if_pos ⟨rfl, rfl⟩]
  unfold C_X0_drop
  rw [e_gI c1, h4', nn_sub hm, e_pI c1, e_gR (by exact c1), a4', e_gR (by exact c1), a4', e_gI (by exact c1), h4s, show (0 : Int32) = nn 0 from rfl, e_Cpn (by exact a5) (by exact a5) (by show m + (n - m) ≤ hln h (cA x i + 1); omega) (by show 0 + (n - m) ≤ hln h (cA x i + 1); omega) (by omega) (by omega) (by omega)]
  rfl
theorem getD_drop' {bs : List Nat} {k q : Nat} : (bs.drop k).getD q 0 = bs.getD (k + q) 0 := by
  rw [List.getD_eq_getElem?_getD, List.getD_eq_getElem?_getD, List.getElem?_drop]
theorem Okr.drop (O : Okr x e0 h r) (hi : i < 8) (oC : OutC x h i os) (oM : OutM r i os) (hm : m ≤ os.length) {r2 : RS} (w2 : Ro [4] r r2) (l2 : r2.2.2 = r.2.2) (e2 : ∀ p, r2.2.1 4 p = if 2000 * i ≤ p ∧ p < 2000 * i + (os.length - m) then r.2.1 4 (p + m) else r.2.1 4 p) : Okr x e0 (dpH x i m os.length h) (sA r2 3 i (nn (os.length - m))) := by
  have R := O.1
  have T := R.st
  have hx := T.1
  have cdef : cA x i = x + 2 + 4 * i := rfl
  have ol := oC.2.1
  have nz : ¬ Fz x h (cA x i + 1) := fun z => by
    have := z.1
    omega
  have p : Fm x [204] (fun a => a = cA x i + 1) h (dpH x i m os.length h) := Fm.ai (Fm.fi Fm.rf (Or.inl (by decide)) (Or.inl (by decide))) (Or.inl rfl) nz
  have px : Hx x (hnx h) i h (dpH x i m os.length h) := Hx.ai (Hx.fi Hx.rf (Or.inl (Or.inr (Or.inl ⟨hi, rfl⟩))) (Or.inl (by decide))) (Or.inl (Or.inr (Or.inl ⟨hi, by omega, by omega⟩))) nz
  have w : Ro [3, 4] r (sA r2 3 i (nn (os.length - m))) := (w2.sub (by decide)).a (by decide)
  have wx2 : Ho 12 i r r2 := ⟨⟨w2.gI (by decide), w2.gI (by decide)⟩, fun k q hq => by
    by_cases g : k = 4
    · subst g
      refine ⟨?_, by rw [l2]⟩
      rw [e2, if_neg (fun z => hq (Or.inl ⟨by omega, by omega, by
        show q / 2000 = i
        omega⟩))]
    · have : k ∉ [4] := by
        simp only [List.mem_cons, List.not_mem_nil, or_false]
        exact g
      exact ⟨by rw [w2.gA this], by rw [w2.gL this]⟩⟩
  have wx : Ho 12 i r (sA r2 3 i (nn (os.length - m))) := wx2.a (Or.inl ⟨by omega, by omega, rfl⟩)
  obtain ⟨c1, _, c3, c4⟩ := R.2.2.2.1 i hi
  have dl : (os.drop m).length = os.length - m := List.length_drop ..
  have B' : By (os.drop m) := fun z hz => oC.2.2.2 z (List.mem_of_mem_drop hz)
  have cO : CoO x (dpH x i m os.length h) (sA r2 3 i (nn (os.length - m))) i := by
    refine ⟨os.drop m, ⟨?_, by omega, fun q hq => ?_, B'⟩, ⟨?_, by omega, fun q hq => ?_, B'⟩⟩
    · show hfi (sfi h 204 (cA x i) (nn (os.length - m))) 204 (cA x i) = _
      rw [hfi_sfi, if_pos ⟨rfl, rfl⟩, dl]
    · show hai (sai (sfi h 204 (cA x i) (nn (os.length - m))) (cA x i + 1) (va_cpy (hai h (cA x i + 1)) (hai h (cA x i + 1)) m 0 (os.length - m))) (cA x i + 1) (0 + q) = _
      rw [hai_sai, if_pos rfl, Nat.zero_add]
      rw [dl] at hq
      have e := oC.2.2.1 (m + q) (by omega)
      rw [Nat.zero_add] at e
      unfold va_cpy
      rw [if_pos (by omega), getD_drop', ← e]
      congr 1
    · rw [sA_2, if_pos ⟨rfl, rfl⟩, dl]
    · rw [dl] at hq
      rw [sA_o (by decide), e2, if_pos (by omega), getD_drop', show 2000 * i + q + m = 2000 * i + (m + q) by omega]
      exact oM.2.2.1 (m + q) (by omega)
  refine ⟨R.cnn (i := i) px wx rfl (R.2.1.fm T p w (by decide) (by decide)) (by rw [sSum.fm T p (by decide), w.gI (by decide)]; exact R.2.2.1) (w.gI (by decide)) (fun i' _ _ z => z) (fun _ s' _ z => by rw [w.gA (by decide)]; exact z) (fun d hd => ⟨p.gr (by decide) hd, fun f hf => p.gi (by simp only [List.mem_cons, List.not_mem_nil, or_false] at hf ⊢; omega) hd⟩) (fun u hu f hf => p.gi (by simp only [List.mem_cons, List.not_mem_nil, or_false] at hf ⊢; omega) hu) (fun _ => ⟨c1.fm T hi p w (by decide) (by omega) (by decide), cO, c3.fm T hi p w (by omega) (by decide), fun z => (c4 z).fm T hi p w (by decide) (by omega) (by decide)⟩), fun i' g => ?_⟩
  rw [w.gA (by decide)]
  exact O.2 i' g
theorem call_take (v l : Int32) : OkX (Iv x) (fun e => if e = 0 then some 1 else if e = 1 then some 2 else none) (C_X11_take x v l) (R_take v l) (fun a b => a.toInt64 = b.toInt64) := by
  intro j h r hj I
  have I0 := I
  obtain ⟨e0, O, ⟨t, t1, t2⟩, cn, k1, k2⟩ := I0
  have T := O.1.st
  have kx := T.2.1.1
  have mj : ∀ s1 : Int32, s1 ≠ 0 → R_take_J21 v l s1 r = some (0, sI r 0 s1) := fun s1 z => by
    unfold R_take_J21
    rw [e_bd (m_ref s1 r), if_neg z, if_neg (by decide)]
    rfl
  by_cases hv : inCon v
  · obtain ⟨n1, n2⟩ := hv.nat
    obtain ⟨i, hi, ev⟩ : ∃ i, i < 8 ∧ v = nn i := ⟨v.toNatClampNeg, n1, nn_ofp n2⟩
    subst ev
    obtain ⟨c1, _⟩ := T.pk hi
    unfold C_X11_take R_take
    rw [call_in T hi, e_bd (m_con hi), if_neg (show ¬ (1 : Int32) = 0 by decide)]
    by_cases g : 0 ≤ l
    · obtain ⟨os, oC, oM⟩ := (O.1.2.2.2.1 i hi).2.1
      have ol := oC.2.1
      obtain ⟨k, ek, k31⟩ := nn_ex (Int32.not_lt.mpr g)
      obtain ⟨m, em⟩ : ∃ m, m = min k os.length := ⟨_, rfl⟩
      have e4 : hfi h (100 * 2 + 4) (cA x i) = nn os.length := oC.1
      have O1 : Okr x e0 h (sI r 0 0) := O.z0
      have oM1 : OutM (sI r 0 0) i os := oM
      have im : imin l (nn os.length) = nn m := by
        rw [ek, imin_nn k31 (by omega), em]
      obtain ⟨r2, q1, w2, l2, e2⟩ := take_loop (m := m) (r := sI r 0 0) (ke := fun l1 l3 => R_take_J88 l1 l3) hi ol (fun q _ hq => ⟨os.getD q 0, oM1.2.2.2.at q, oM1.2.2.1 q hq⟩) (os.length - m) m fu (sI r 0 0) (by omega) (Nat.le_refl _) (by unfold fu; omega) oM1.1 Ro.rf rfl (fun p => by rw [if_neg (by omega)])
      have O2 := O1.drop hi oC oM1 (m := m) (by omega) w2 l2 e2
      have e4' : hfi (dpH x i m os.length h) (100 * 2 + 4) (cA x i) = nn (os.length - m) := by
        show hfi (sfi h 204 (cA x i) (nn (os.length - m))) 204 (cA x i) = _
        rw [hfi_sfi, if_pos ⟨rfl, rfl⟩]
      have e3 : r2.2.1 3 i = nn os.length := by
        rw [w2.gA (by decide)]
        exact oM1.1
      have eM : R_take_J21 (nn i) l 0 r = some (nn (os.length - m), sA r2 3 i (nn (os.length - m))) := by
        unfold R_take_J21 lq
        rw [e_bd (m_ref 0 r), if_pos rfl, if_pos rfl, x_rA mL_3 hi (by omega), show (sI r 0 0).2.1 3 i = nn os.length from oM1.1]
        dsimp only
        rw [im, q1]
        unfold R_take_J88
        rw [x_rA mL_3 hi (by omega), e3, nn_sub (by omega), x_wA mL_3 hi (by omega), x_rA mL_3 hi (by omega), sA_2, if_pos ⟨rfl, rfl⟩]
        rfl
      have w3 : Ro [3, 4] (sI r 0 0) (sA r2 3 i (nn (os.length - m))) := (w2.sub (by decide)).a (by decide)
      rw [if_pos g, if_pos g, e_gI c1, e4, im, e_Cv (c := 2) c1, e_bd (drop_ev T hi oC.1 ol (by omega)), e_gI (by exact c1), e4']
      refine ⟨.inr (nn (os.length - m)), dpH x i m os.length h, nn (os.length - m), _, rfl, eM, ?_, ?_, rfl⟩
      · have wn := w3.wn (by decide) (by decide) (by decide) (by decide)
        have c2 : WN (sI r 0 0) = WN r := rfl
        have c3 : SB (sA r2 3 i (nn (os.length - m))) = SB r := by
          unfold SB
          rw [w3.gA (by decide)]
          rfl
        have c4 : hcs (dpH x i m os.length h) = hcs h := rfl
        obtain ⟨a, b, dd, h1, h2, h3', h4, h5, h6⟩ := cn
        refine ⟨e0, O2, ⟨t, by rw [w3.gI (by decide)]; exact t1, by omega⟩, ⟨a, b, dd, by rw [w3.gI (by decide)]; exact h1, by rw [w3.gI (by decide)]; exact h2, by rw [w3.gI (by decide)]; exact h3', by omega, by omega, by omega⟩, ?_, ?_⟩
        · rw [c3, c4]
          omega
        · rw [c3, c4]
          omega
      · rw [w3.gI (by decide)]
        rfl
    · rw [if_neg g, if_neg g]
      exact ⟨.inl 1, hsk h 6, 0, sI r 0 2, rfl, mj 2 (by decide), I.thr, 2, rfl, by decide, rfl⟩
  · unfold C_X11_take R_take
    rw [callC_out kx hv, e_bd (m_isCon v r), if_neg (show ¬ (¬ v < 0 ∧ v < 8) from hv), if_pos rfl]
    exact ⟨.inl 0, hsk h 6, 0, sI r 0 1, rfl, mj 1 (by decide), I.thr, 1, rfl, by decide, rfl⟩
end CA6
