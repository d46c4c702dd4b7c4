/-! ===== open as a call ===== -/
section OPN
variable {x j i : Nat} {e0 : Int32} {h : Hp} {r : RS}
def opH (x i : Nat) (h : Hp) : Hp := sfi (sfi h 201 (cA x i) 1) 204 (cA x i) 0
def opM (i : Nat) (r : RS) : RS := al4 (sA (sA (sA (sA (sA r 1 i 1) 2 i 0) 3 i 0) 5 i 0) 7 i (-1)) i
theorem op_c (T : Stat x h) (hi : i < 8) : C_X0_begin (cA x i) h = some ((), opH x i h) := by
  obtain ⟨c1, _⟩ := T.pk hi
  unfold C_X0_begin
  rw [e_pZ (Or.inr rfl) c1, e_pI (by exact c1)]
  rfl
theorem op_al {ke : RS → Option (Unit × RS)} (hi : i < 8) : R_open_L70 ke fu (nn i) 0 r = ke (al4 r i) := by
  obtain ⟨n2, hn2⟩ : ∃ z, fu = z + 5 := ⟨4995, rfl⟩
  rw [hn2]
  have st : ∀ (n k : Nat) (r : RS), k < 4 → R_open_L70 ke (n + 1) (nn i) (nn k) r = R_open_L70 ke n (nn i) (nn (k + 1)) (sA r 9 (4 * i + k) 0) := by
    intro n k r hk
    show R_open_B70 _ ke (nn i) (nn k) r = _
    unfold R_open_B70
    rw [if_neg (by rw [show (4 : Int32) = nn 4 from rfl, nn_le (by omega) (by omega)]; omega), show (4 : Int32) = nn 4 from rfl, nn_mul, nn_add, x_wA mL_9 (by omega) (by omega), show nn k + 1 = nn (k + 1) from nn_add]
  have s0 := st (n2 + 4) 0 r (by omega)
  have s1 := st (n2 + 3) 1 (sA r 9 (4 * i + 0) 0) (by omega)
  have s2 := st (n2 + 2) 2 (sA (sA r 9 (4 * i + 0) 0) 9 (4 * i + 1) 0) (by omega)
  have s3 := st (n2 + 1) 3 (sA (sA (sA r 9 (4 * i + 0) 0) 9 (4 * i + 1) 0) 9 (4 * i + 2) 0) (by omega)
  refine s0.trans (s1.trans (s2.trans (s3.trans ?_)))
  show R_open_B70 _ ke (nn i) (nn 4) _ = _
  unfold R_open_B70
  rw [if_pos (by decide)]
  rfl
theorem op_m (hi : i < 8) : R_open_J26 (nn i) 0 r = some ((), opM i (sI r 0 0)) := by
  unfold R_open_J26
  rw [e_bd (m_ref 0 r), if_pos rfl, if_pos rfl, x_wA mL_1 hi (by omega), x_wA mL_2 hi (by omega), x_wA mL_3 hi (by omega), x_wA mL_5 hi (by omega), x_wA mL_7 hi (by omega), op_al hi]
  rfl
theorem opM.ro : Ro [1, 2, 3, 5, 7, 9] r (opM i r) := Ro.tr (Ro.a (Ro.a (Ro.a (Ro.a (Ro.a Ro.rf (by decide)) (by decide)) (by decide)) (by decide)) (by decide)) (al4.ro.sub (by decide))
theorem opM.ho : Ho 12 i r (opM i r) := by
  unfold opM
  refine Ho.tr (Ho.a (Ho.a (Ho.a (Ho.a (Ho.a Ho.rf ?_) ?_) ?_) ?_) ?_) al4.ho
  · exact Or.inl ⟨by omega, by omega, rfl⟩
  · exact Or.inl ⟨by omega, by omega, rfl⟩
  · exact Or.inl ⟨by omega, by omega, rfl⟩
  · exact Or.inl ⟨by omega, by omega, rfl⟩
  · exact Or.inl ⟨by omega, by omega, rfl⟩
theorem opM.rd : (opM i r).2.1 1 i = 1 ∧ (opM i r).2.1 2 i = 0 ∧ (opM i r).2.1 3 i = 0 ∧ (opM i r).2.1 5 i = 0 ∧ (opM i r).2.1 7 i = -1 ∧ ∀ k, k < 4 → (opM i r).2.1 9 (4 * i + k) = 0 := by
  unfold opM
  refine ⟨?_, ?_, ?_, ?_, ?_, fun k hk => al4.z hk⟩
  · rw [al4.ro.gA (by decide), sA_o (by decide), sA_o (by decide), sA_o (by decide), sA_o (by decide), sA_2, if_pos ⟨rfl, rfl⟩]
  · rw [al4.ro.gA (by decide), sA_o (by decide), sA_o (by decide), sA_o (by decide), sA_2, if_pos ⟨rfl, rfl⟩]
  · rw [al4.ro.gA (by decide), sA_o (by decide), sA_o (by decide), sA_2, if_pos ⟨rfl, rfl⟩]
  · rw [al4.ro.gA (by decide), sA_o (by decide), sA_2, if_pos ⟨rfl, rfl⟩]
  · rw [al4.ro.gA (by decide), sA_2, if_pos ⟨rfl, rfl⟩]
theorem opM.ot {i' : Nat} (hi : i' ≠ i) : (opM i r).2.1 2 i' = r.2.1 2 i' ∧ (opM i r).2.1 5 i' = r.2.1 5 i' := by
  have w := opM.ho (i := i) (r := r)
  exact ⟨(w.2 2 i' (pm_c (by omega) (by omega) rfl hi)).1, (w.2 5 i' (pm_c (by omega) (by omega) rfl hi)).1⟩
theorem Okr.opn (O : Okr x e0 h r) (hi : i < 8) (hc : r.2.1 1 i = 0) : Okr x e0 (opH x i h) (opM i r) := by
  have R := O.1
  have T := R.st
  have hx := T.1
  have hcl := T.cl hi
  have cdef : cA x i = x + 2 + 4 * i := rfl
  have p : Fm x [201, 204] (fun _ => False) h (opH x i h) := Fm.fi (Fm.fi Fm.rf (Or.inl (by decide)) (Or.inl (by decide))) (Or.inl (by decide)) (Or.inl (by decide))
  have px : Hx x (hnx h) i h (opH x i h) := Hx.fi (Hx.fi Hx.rf (Or.inl (Or.inr (Or.inl ⟨hi, rfl⟩))) (Or.inl (by decide))) (Or.inl (Or.inr (Or.inl ⟨hi, rfl⟩))) (Or.inl (by decide))
  have w := opM.ro (i := i) (r := r)
  have wx := opM.ho (i := i) (r := r)
  obtain ⟨d1, d2, d3, d4, d5, d6⟩ := opM.rd (i := i) (r := r)
  obtain ⟨c1, c2, c3, c4⟩ := R.2.2.2.1 i hi
  obtain ⟨⟨a1, a2⟩, ⟨a3, a4, a5⟩, a6, a7⟩ := c1
  have h7 : r.2.1 7 i = -1 ∧ hfr h 202 (cA x i) = none := by
    rcases a7 with z | ⟨s, b, z1, z2, z3, _⟩
    · exact z
    · rw [hc] at z3
      exact absurd z3 (by decide)
  have h2 : r.2.1 2 i = 0 := O.2 i hi
  obtain ⟨bs, b1, b2, b3, b4, b5, b6, b7, b8⟩ := c4 (by omega)
  have e0' := b7 hc
  subst e0'
  refine ⟨R.cnn (i := i) px wx rfl (R.2.1.fm T p w (by decide) (by decide)) (by rw [sSum.fm T p (by decide), w.gI (by decide)]; exact R.2.2.1) (w.gI (by decide)) (fun i' _ _ z => z) (fun _ s' hs' z => ?_) (fun d hd => ⟨p.gr (by decide) hd, fun f hf => p.gi (by simp only [List.mem_cons, List.not_mem_nil, or_false] at hf ⊢; omega) hd⟩) (fun u hu f hf => p.gi (by simp only [List.mem_cons, List.not_mem_nil, or_false] at hf ⊢; omega) hu) (fun _ => ⟨⟨⟨?_, ?_⟩, ⟨?_, ?_, ?_⟩, ?_, Or.inl ⟨d5, ?_⟩⟩, ⟨[], ⟨?_, by decide, Cg.nil, By.nil⟩, ⟨?_, by decide, Mg.nil, By.nil⟩⟩, fun k hk => Or.inl ⟨?_, d6 k hk⟩, fun _ => ⟨[], ?_, ?_, by decide, By.nil, Cg.nil, Mg.nil, fun _ => rfl, Or.inl rfl⟩⟩), fun i' g => ?_⟩
  · rw [h7.1] at z
    exact absurd z.symm (nn_neg (by omega))
  · rw [d1]
    show hfi (sfi (sfi h 201 (cA x i) 1) 204 (cA x i) 0) 201 (cA x i) = 1
    rw [hfi_sfi, if_neg (by omega), hfi_sfi, if_pos ⟨rfl, rfl⟩]
  · exact Or.inr d1
  · rw [d2, p.gi (by decide) (by omega), a3, h2]
  · exact Or.inl d2
  · intro _
    exact d1
  · rw [p.gi (by decide) (by omega), w.gA (by decide), w.gI (by decide)]
    exact a6
  · rw [p.gr (by decide) (by omega)]
    exact h7.2
  · show hfi (sfi (sfi h 201 (cA x i) 1) 204 (cA x i) 0) 204 (cA x i) = nn 0
    rw [hfi_sfi, if_pos ⟨rfl, rfl⟩]
    rfl
  · rw [d3]
    rfl
  · rw [(p.2.2 (cA x i + 3) (by omega) (fun z => z)).2.1]
    rcases c3 k hk with z | ⟨a, bs, _, _, _, _, _, z⟩
    · exact z.1
    · rw [hc] at z
      exact absurd z (by decide)
  · rw [p.gi (by decide) (by omega)]
    exact b1
  · rw [d4]
    rfl
  · by_cases y : i' = i
    · rw [y]
      exact d2
    · rw [(opM.ot y).1]
      exact O.2 i' g
theorem call_open (v : Int32) : OkX (Iv x) (fun e => if e = 0 then some 1 else if e = 2 then some 2 else none) (C_X11_open x v) (R_open v) (fun _ _ => True) := by
  intro j h r hj I
  have I0 := I
  obtain ⟨e0, O, ⟨t, t1, t2⟩, cn, k1, k2⟩ := I0
  have T := O.1.st
  have kx := T.2.1.1
  have m26 : ∀ v s1 : Int32, s1 ≠ 0 → R_open_J26 v s1 r = some ((), sI r 0 s1) := fun v s1 z => by
    unfold R_open_J26
    rw [e_bd (m_ref s1 r), if_neg z, if_neg (by decide)]
    rfl
  by_cases hv : inCon v
  · obtain ⟨n1, n2⟩ := hv.nat
    obtain ⟨i, hi, ev⟩ : ∃ i, i < 8 ∧ v = nn i := ⟨v.toNatClampNeg, n1, nn_ofp n2⟩
    subst ev
    obtain ⟨c1, _⟩ := T.pk hi
    have CA := (O.1.2.2.2.1 i hi).1.1
    have e1 : hfi h (100 * 2 + 1) (cA x i) = r.2.1 1 i := CA.1
    unfold C_X11_open R_open
    rw [call_in T hi, e_bd (m_con hi), if_neg (show ¬ (1 : Int32) = 0 by decide), e_gI c1, e1, x_rA mL_1 hi (by omega)]
    rcases CA.2 with z | z
    · rw [z, if_pos rfl, if_pos rfl, e_Cv c1, e_bd (op_c T hi), op_m hi]
      have O1 : Okr x e0 h (sI r 0 0) := O.z0
      have O2 := O1.opn hi z
      have w := opM.ro (i := i) (r := sI r 0 0)
      have wn := w.wn (by decide) (by decide) (by decide) (by decide)
      have hc : hcs (opH x i h) = hcs h := rfl
      have q : SB (opM i (sI r 0 0)) ≤ SB r := SB.le (fun i' g => by
        by_cases y : i' = i
        · rw [y, opM.rd.2.2.2.1]
          exact Nat.zero_le _
        · rw [(opM.ot y).2]
          exact Nat.le_refl _)
      have wn' : WN (opM i (sI r 0 0)) ≤ WN r := wn
      obtain ⟨a, b, d, h1, h2, h3, h4, h5, h6⟩ := cn
      refine ⟨.inr (), opH x i h, (), opM i (sI r 0 0), rfl, rfl, ⟨e0, O2, ⟨t, by rw [w.gI (by decide)]; exact t1, by omega⟩, ⟨a, b, d, by rw [w.gI (by decide)]; exact h1, by rw [w.gI (by decide)]; exact h2, by rw [w.gI (by decide)]; exact h3, by omega, by omega, by omega⟩, by rw [hc]; omega, by rw [hc]; omega⟩, ?_, trivial⟩
      rw [w.gI (by decide)]
      rfl
    · rw [z, if_neg (show ¬ (1 : Int32) = 0 by decide), if_neg (show ¬ (1 : Int32) = 0 by decide)]
      exact ⟨.inl 2, hsk h 6, (), sI r 0 2, rfl, m26 _ 2 (by decide), I.thr, 2, rfl, by decide, rfl⟩
  · unfold C_X11_open R_open
    rw [callC_out kx hv, e_bd (m_isCon v r), if_neg (show ¬ (¬ v < 0 ∧ v < 8) from hv), if_pos rfl]
    exact ⟨.inl 0, hsk h 6, (), sI r 0 1, rfl, m26 _ 1 (by decide), I.thr, 1, rfl, by decide, rfl⟩
end OPN
