/-! ===== told as a call ===== -/
section CA7
variable {x j i : Nat} {e0 : Int32} {h h' : Hp} {r r' : RS}
theorem Okr.purge (O : Okr x e0 h r) : ∃ r', R_purge r = some ((), r') ∧ Okr x e0 h r' ∧ Ro [64, 65] r r' ∧ KL r' (kpt r') := by
  obtain ⟨ks, K, _⟩ := Kep.kl O.1.2.2.2.2.2.2.2.2.1
  obtain ⟨_, r', e, w, K'⟩ := qm_purge K
  rw [← K.kp] at K'
  obtain ⟨R', ek⟩ := O.1.purge w K'
  exact ⟨r', e, ⟨R', fun i g => by rw [w.gA (by decide)]; exact O.2 i g⟩, w, by rw [ek]; exact K'⟩
theorem Iv.pur (I : Iv x j h r) : ∃ e0 r', R_purge (sI r 0 0) = some ((), r') ∧ Okr x e0 h r' ∧ Iv x (j + 1) h r' ∧ r'.1 0 = 0 ∧ KL r' (kpt r') := by
  obtain ⟨e0, O, ⟨t, t1, t2⟩, cn, k1, k2⟩ := I
  obtain ⟨r', e, O', w, K⟩ := (O.z0 (v := 0)).purge
  have wn := w.wn (by decide) (by decide) (by decide) (by decide)
  have c2 : WN (sI r 0 0) = WN r := rfl
  have c3 : SB r' = SB r := by
    unfold SB
    rw [w.gA (by decide)]
    rfl
  obtain ⟨a, b, dd, h1, h2, h3', h4, h5, h6⟩ := cn
  refine ⟨e0, r', e, O', ⟨e0, O', ⟨t, by rw [w.gI (by decide)]; exact t1, by omega⟩, ⟨a, b, dd, by rw [w.gI (by decide)]; exact h1, by rw [w.gI (by decide)]; exact h2, by rw [w.gI (by decide)]; exact h3', by omega, by omega, by omega⟩, ?_, ?_⟩, by rw [w.gI (by decide)]; rfl, K⟩
  · rw [c3]
    omega
  · rw [c3]
    omega
def csn (r : RS) : Nat → Nat
  | 0 => 0
  | q + 1 => csn r q + (if r.2.1 11 q = 0 then 0 else 1)
theorem csn_le : ∀ q, csn r q ≤ q := by
  intro q
  induction q with
  | zero => exact Nat.le_refl _
  | succ q ih =>
    show csn r q + (if r.2.1 11 q = 0 then 0 else 1) ≤ q + 1
    split <;> omega
theorem told_loop {ke : Int32 → Int32 → RS → Option (Int32 × RS)} {l1 : Int32} : ∀ (c q f : Nat), q + c = 12 → c < f → R_told_L32 ke f l1 (nn (csn r q)) (nn q) r = ke l1 (nn (csn r 12)) r := by
  intro c
  induction c with
  | zero =>
    intro q f hq hf
    obtain ⟨f', rfl⟩ : ∃ z, f = z + 1 := ⟨f - 1, by omega⟩
    have : q = 12 := by omega
    subst this
    show R_told_B32 _ ke l1 (nn (csn r 12)) (nn 12) r = _
    unfold R_told_B32
    rw [if_pos (by decide)]
  | succ c ih =>
    intro q f hq hf
    obtain ⟨f', rfl⟩ : ∃ z, f = z + 1 := ⟨f - 1, by omega⟩
    rw [← ih (q + 1) f' (by omega) (by omega)]
    show R_told_B32 _ ke l1 (nn (csn r q)) (nn q) r = R_told_L32 ke f' l1 (nn (csn r q + (if r.2.1 11 q = 0 then 0 else 1))) (nn (q + 1)) r
    unfold R_told_B32 R_told_J53 lq
    rw [if_neg (by rw [show (12 : Int32) = nn 12 from rfl, nn_le (by omega) (by omega)]; omega), x_rA mL_11 (by omega) (by omega)]
    by_cases g : r.2.1 11 q = 0
    · rw [if_pos g, if_pos g, Int32.add_zero, show nn q + 1 = nn (q + 1) from nn_add]
      rfl
    · rw [if_neg g, if_neg g, show nn (csn r q) + 1 = nn (csn r q + 1) from nn_add, show nn q + 1 = nn (q + 1) from nn_add]
theorem cnt_loop {ec es ew : Nat} (R : Rel x ec es ew e0 h r) {ke : Int32 → Hp → Option (Int32 × Hp)} : ∀ (c q f : Nat), q + c = 12 → c < f → C_X11_countSessions_L4 x ke f (nn (csn r q)) (nn q) h = ke (nn (csn r 12)) h := by
  have T := R.st
  have kx := T.2.1.1
  have k1 : hfr h (100 * 13 + 1) x = some (x + 34) := T.2.1.2.2.1
  obtain ⟨_, _, a3, a4, _⟩ := T.2.2.1
  intro c
  induction c with
  | zero =>
    intro q f hq hf
    obtain ⟨f', rfl⟩ : ∃ z, f = z + 1 := ⟨f - 1, by omega⟩
    have : q = 12 := by omega
    subst this
    show C_X11_countSessions_B4 x _ ke (nn (csn r 12)) (nn 12) h = _
    unfold C_X11_countSessions_B4
    rw [if_pos (by decide)]
  | succ c ih =>
    intro q f hq hf
    obtain ⟨f', rfl⟩ : ∃ z, f = z + 1 := ⟨f - 1, by omega⟩
    rw [← ih (q + 1) f' (by omega) (by omega)]
    show C_X11_countSessions_B4 x _ ke (nn (csn r q)) (nn q) h = C_X11_countSessions_L4 x ke f' (nn (csn r q + (if r.2.1 11 q = 0 then 0 else 1))) (nn (q + 1)) h
    unfold C_X11_countSessions_B4
    rw [if_neg (by rw [show (12 : Int32) = nn 12 from rfl, nn_le (by omega) (by omega)]; omega), e_gR (c := 13) kx, k1, e_Ar (t := 5) a3 (nn_inr (by omega) (by omega)), nn_N (by omega)]
    rcases R.2.2.2.2.1 q (by omega) with ⟨z1, z2⟩ | ⟨z1, b, z2, _⟩
    · rw [z2, if_pos rfl, z1, if_pos rfl, show nn q + 1 = nn (q + 1) from nn_add]
      rfl
    · rw [z2, if_neg (by simp), z1, if_neg (by decide), show nn (csn r q) + 1 = nn (csn r q + 1) from nn_add, show nn q + 1 = nn (q + 1) from nn_add]
def ssn (x : Nat) (h : Hp) : Nat → Int32
  | 0 => 0
  | q + 1 => ssn x h q + hfi h 206 (cA x q)
theorem sent_loop (T : Stat x h) {ke : Int32 → Hp → Option (Int32 × Hp)} : ∀ (c q f : Nat), q + c = 8 → c < f → C_X11_countSent_L4 x ke f (ssn x h q) (nn q) h = ke (ssn x h 8) h := by
  have kx := T.2.1.1
  have k0 : hfr h (100 * 13 + 0) x = some (x + 1) := T.2.1.2.1
  obtain ⟨a1, a2, _⟩ := T.2.2.1
  intro c
  induction c with
  | zero =>
    intro q f hq hf
    obtain ⟨f', rfl⟩ : ∃ z, f = z + 1 := ⟨f - 1, by omega⟩
    have : q = 8 := by omega
    subst this
    show C_X11_countSent_B4 x _ ke (ssn x h 8) (nn 8) h = _
    unfold C_X11_countSent_B4
    rw [if_pos (by decide)]
  | succ c ih =>
    intro q f hq hf
    obtain ⟨f', rfl⟩ : ∃ z, f = z + 1 := ⟨f - 1, by omega⟩
    rw [← ih (q + 1) f' (by omega) (by omega)]
    show C_X11_countSent_B4 x _ ke (ssn x h q) (nn q) h = C_X11_countSent_L4 x ke f' (ssn x h q + hfi h 206 (cA x q)) (nn (q + 1)) h
    unfold C_X11_countSent_B4 lq
    rw [if_neg (by rw [show (8 : Int32) = nn 8 from rfl, nn_le (by omega) (by omega)]; omega), e_gR (c := 13) kx, k0, e_Ar (t := 4) a1 (nn_inr (by omega) (by omega)), nn_N (by omega), (T.2.2.2.2.2.2 q (by omega)).1, e_gI (T.pk (by omega)).1, show nn q + 1 = nn (q + 1) from nn_add]
theorem call_told (w : Int32) : OkX (Iv x) (fun e => if e = 1 then some 1 else none) (C_X11_told x w) (R_told w) (fun a b => a.toInt64 = b.toInt64) := by
  intro j h r hj I
  have mj : R_told_J16 w 1 r = some (0, sI r 0 1) := by
    unfold R_told_J16
    rw [e_bd (m_ref 1 r), if_neg (by decide)]
    rfl
  obtain ⟨e0, r1, ep, O, I1, z0, K⟩ := I.pur
  have R := O.1
  have T := R.st
  have kx := T.2.1.1
  have G := R.2.1
  have m0 : R_told_J16 w 0 r = R_told_J61 w (nn (csn r1 12)) r1 := by
    unfold R_told_J16
    rw [e_bd (m_ref 0 r), if_pos rfl, if_pos rfl, e_bd ep]
    exact told_loop (r := r1) 12 0 fu (by omega) (by unfold fu; omega)
  have k2 : hfr h (100 * 13 + 2) x = some (x + 35) := T.2.1.2.2.2.1
  have k35 : hkd h (x + 35) = 8 + 1 := T.2.2.1.2.2.2.2.1
  have e801 : hfi h (100 * 8 + 1) (x + 35) = r1.1 65 := (R.2.2.2.2.2.2.2.2.1.2.1).trans K.1.symm
  unfold C_X11_told R_told R_told_J11
  by_cases g : w < 0
  · rw [if_pos g]
    have q : ∀ k : Int32, 0 ≤ k → w ≠ k := fun k hk e => by
      rw [e] at g
      exact absurd g (Int32.not_lt.mpr hk)
    rw [if_neg (q 0 (by decide)), if_neg (q 1 (by decide)), if_neg (q 2 (by decide)), if_neg (q 3 (by decide)), if_neg (q 4 (by decide)), if_neg (q 5 (by decide)), if_neg (q 6 (by decide)), if_neg (q 7 (by decide))]
    exact ⟨.inl 1, hsk h 6, 0, sI r 0 1, rfl, mj, I.thr, 1, rfl, by decide, rfl⟩
  · rw [if_neg g]
    obtain ⟨k, ek, k31⟩ := nn_ex g
    by_cases g7 : w ≤ 7
    · rw [if_pos g7, m0]
      have k7 : k ≤ 7 := by
        rw [ek, show (7 : Int32) = nn 7 from rfl, nn_le (by omega) (by omega)] at g7
        exact g7
      have cs : C_X11_countSessions x h = some (nn (csn r1 12), h) := cnt_loop (r := r1) R 12 0 fu (by omega) (by unfold fu; omega)
      have sn : C_X11_countSent x h = some (r1.1 68, h) := by
        have e := sent_loop T (ke := fun l1 => C_X11_countSent_J28 x l1) 8 0 fu (by omega) (by unfold fu; omega)
        have e2 : C_X11_countSent x h = some (ssn x h 8, h) := e
        rw [e2, R.2.2.1]
        rfl
      have tt : k = 0 ∨ k = 1 ∨ k = 2 ∨ k = 3 ∨ k = 4 ∨ k = 5 ∨ k = 6 ∨ k = 7 := by omega
      unfold R_told_J61
      rcases tt with rfl | rfl | rfl | rfl | rfl | rfl | rfl | rfl <;> subst ek
      · exact ⟨.inr (nn (csn r1 12)), h, nn (csn r1 12), r1, by rw [if_pos (by decide), e_Cv (c := 13) kx, e_bd cs]; rfl, by rw [if_pos (by decide)]; rfl, I1, z0, rfl⟩
      · exact ⟨.inr (r1.1 65), h, r1.1 65, r1, by rw [if_neg (by decide), if_pos (by decide), e_gR kx, k2, e_gI k35, e801]; rfl, by rw [if_neg (by decide), if_pos (by decide)]; rfl, I1, z0, rfl⟩
      · exact ⟨.inr (r1.1 67), h, r1.1 67, r1, by rw [if_neg (by decide), if_neg (by decide), if_pos (by decide), e_gI kx, show hfi h (100 * 13 + 10) x = r1.1 67 from G.2.2.1]; rfl, by rw [if_neg (by decide), if_neg (by decide), if_pos (by decide)]; rfl, I1, z0, rfl⟩
      · exact ⟨.inr (r1.1 68), h, r1.1 68, r1, by rw [if_neg (by decide), if_neg (by decide), if_neg (by decide), if_pos (by decide), e_Cv (c := 13) kx, e_bd sn]; rfl, by rw [if_neg (by decide), if_neg (by decide), if_neg (by decide), if_pos (by decide)]; rfl, I1, z0, rfl⟩
      · exact ⟨.inr (r1.1 69), h, r1.1 69, r1, by rw [if_neg (by decide), if_neg (by decide), if_neg (by decide), if_neg (by decide), if_pos (by decide), e_gI kx, show hfi h (100 * 13 + 11) x = r1.1 69 from G.2.2.2.1]; rfl, by rw [if_neg (by decide), if_neg (by decide), if_neg (by decide), if_neg (by decide), if_pos (by decide)]; rfl, I1, z0, rfl⟩
      · exact ⟨.inr (r1.1 70), h, r1.1 70, r1, by rw [if_neg (by decide), if_neg (by decide), if_neg (by decide), if_neg (by decide), if_neg (by decide), if_pos (by decide), e_gI kx, show hfi h (100 * 13 + 12) x = r1.1 70 from G.2.2.2.2.1]; rfl, by rw [if_neg (by decide), if_neg (by decide), if_neg (by decide), if_neg (by decide), if_neg (by decide), if_pos (by decide)]; rfl, I1, z0, rfl⟩
      · exact ⟨.inr (r1.1 66), h, r1.1 66, r1, by rw [if_neg (by decide), if_neg (by decide), if_neg (by decide), if_neg (by decide), if_neg (by decide), if_neg (by decide), if_pos (by decide), e_gI kx, show hfi h (100 * 13 + 9) x = r1.1 66 from G.2.1]; rfl, by rw [if_neg (by decide), if_neg (by decide), if_neg (by decide), if_neg (by decide), if_neg (by decide), if_neg (by decide), if_pos (by decide)]; rfl, I1, z0, rfl⟩
      · exact ⟨.inr (r1.1 72), h, r1.1 72, r1, by rw [if_neg (by decide), if_neg (by decide), if_neg (by decide), if_neg (by decide), if_neg (by decide), if_neg (by decide), if_neg (by decide), if_pos (by decide), e_gI kx, show hfi h (100 * 13 + 14) x = r1.1 72 from G.2.2.2.2.2.1]; rfl, by rw [if_neg (by decide), if_neg (by decide), if_neg (by decide), if_neg (by decide), if_neg (by decide), if_neg (by decide), if_neg (by decide)]; rfl, I1, z0, rfl⟩
    · rw [if_neg g7]
      have q : ∀ m : Nat, m ≤ 7 → w ≠ nn m := fun m hm e => by
        rw [e, show (7 : Int32) = nn 7 from rfl, nn_le (by omega) (by omega)] at g7
        omega
      rw [if_neg (show ¬ w = (0 : Int32) from q 0 (by omega)), if_neg (show ¬ w = (1 : Int32) from q 1 (by omega)), if_neg (show ¬ w = (2 : Int32) from q 2 (by omega)), if_neg (show ¬ w = (3 : Int32) from q 3 (by omega)), if_neg (show ¬ w = (4 : Int32) from q 4 (by omega)), if_neg (show ¬ w = (5 : Int32) from q 5 (by omega)), if_neg (show ¬ w = (6 : Int32) from q 6 (by omega)), if_neg (show ¬ w = (7 : Int32) from q 7 (by omega))]
      exact ⟨.inl 1, hsk h 6, 0, sI r 0 1, rfl, mj, I.thr, 1, rfl, by decide, rfl⟩
end CA7
