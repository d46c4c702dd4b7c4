/-! ===== times of events ===== -/
theorem n6_add {a b : Nat} : n6 a + n6 b = n6 (a + b) := (Int64.ofNat_add a b).symm
theorem n6_mul {a b : Nat} : n6 a * n6 b = n6 (a * b) := (Int64.ofNat_mul a b).symm
theorem n6_div2 {a : Nat} (h : a < 9223372036854775808) : n6 a / (2 : Int64) = n6 (a / 2) := by
  apply Int64.toInt_inj.mp
  rw [Int64.toInt_div_of_ne_right _ _ (by decide), n6_I h, n6_I (by omega)]
  show Int.tdiv (a : Int) 2 = _
  rw [show (2 : Int) = ((2 : Nat) : Int) from rfl, ← Int.ofNat_tdiv]
theorem cmp_gt {x y : Int64} : 0 < lg_cmp x y ↔ y < x := by
  rw [← Int32.not_le, cmp_le, Int64.not_le]
/-- never -/
abbrev bigT : Nat := 1099511627776
section EVT
variable {x ec es ew s b i : Nat} {e0 : Int32} {h : Hp} {r : RS}
theorem qc_quiet (R : Rel x ec es ew e0 h r) (hi : i < 8) : ∃ q, C_X0_quietUntil (cA x i) h = some (n6 q, h) ∧ q ≤ bigT ∧ ((r.2.1 7 i = -1 ∧ hfr h 202 (cA x i) = none ∧ q = bigT) ∨ ∃ s b, s < 12 ∧ r.2.1 7 i = nn s ∧ r.2.1 1 i = 1 ∧ har h (x + 34) s = some b ∧ hfr h 202 (cA x i) = some b ∧ ((r.2.1 19 s = 0 ∧ q = bigT) ∨ ∃ k l, r.2.1 19 s = nn k ∧ 1 ≤ k ∧ k ≤ 65535 ∧ r.2.1 8 i = nn l ∧ l ≤ iN (r.1 66) ∧ q = l + k * 3 / 2)) := by
  have T := R.st
  have c1 := (T.2.2.2.2.2.2 i hi).2.1
  have A := (R.2.2.2.1 i hi).1
  have g66 := R.2.1.1
  suffices hh : ∃ q, wp (C_X0_quietUntil (cA x i)) h (fun v h' => v = n6 q ∧ h' = h) ∧ q ≤ bigT ∧ ((r.2.1 7 i = -1 ∧ hfr h 202 (cA x i) = none ∧ q = bigT) ∨ ∃ s b, s < 12 ∧ r.2.1 7 i = nn s ∧ r.2.1 1 i = 1 ∧ har h (x + 34) s = some b ∧ hfr h 202 (cA x i) = some b ∧ ((r.2.1 19 s = 0 ∧ q = bigT) ∨ ∃ k l, r.2.1 19 s = nn k ∧ 1 ≤ k ∧ k ≤ 65535 ∧ r.2.1 8 i = nn l ∧ l ≤ iN (r.1 66) ∧ q = l + k * 3 / 2)) by
    obtain ⟨q, ⟨v, h', e1, e2, e3⟩, q2⟩ := hh
    exact ⟨q, by rw [e1, e2, e3], q2⟩
  unfold C_X0_quietUntil C_X0_quietUntil_J17
  rcases A.2.2.2 with ⟨a1, a2⟩ | ⟨s, b, a0, a1, a2, a3, a4, a5, a6⟩
  · refine ⟨bigT, ?_, Nat.le_refl _, Or.inl ⟨a1, a2, rfl⟩⟩
    have a2' : hfr h (100 * 2 + 2) (cA x i) = none := a2
    rw [wp_gR c1, a2', wp_pos rfl, wp_rt]
    exact ⟨rfl, rfl⟩
  · have a6' : hfr h (100 * 2 + 2) (cA x i) = some b := a6
    have Sb := R.ses a0 a5
    obtain ⟨v1, k, v2, v3⟩ := Sb.2.2.1.2.2.2.1
    have e16 : hfi h (100 * 10 + 16) b = nn k := v1.trans v3
    obtain ⟨w1, l, w2, w3⟩ := A.2.2.1
    have e12 : hfi h (100 * 2 + 12) (cA x i) = nn l := w1.trans w3
    have hl : l ≤ 1073741823 := by
      obtain ⟨t, t1, t2⟩ := g66
      rw [t2, iN_nn (by omega)] at w2
      omega
    by_cases g : k = 0
    · refine ⟨bigT, ?_, Nat.le_refl _, Or.inr ⟨s, b, a0, a1, a2, a5, a6, Or.inl ⟨by rw [v3, g]; rfl, rfl⟩⟩⟩
      rw [wp_gR c1, a6', wp_neg (by simp), wp_gR c1, a6', wp_gI Sb.1.1, e16, g, wp_pos (show nn 0 = (0 : Int32) from rfl), wp_rt]
      exact ⟨rfl, rfl⟩
    · refine ⟨l + k * 3 / 2, ?_, by unfold bigT; omega, Or.inr ⟨s, b, a0, a1, a2, a5, a6, Or.inr ⟨k, l, v3, by omega, v2, w3, w2, rfl⟩⟩⟩
      rw [wp_gR c1, a6', wp_neg (by simp), wp_gR c1, a6', wp_gI Sb.1.1, e16, wp_neg (fun z : nn k = (0 : Int32) => g (nn_inj (b := 0) (by omega) (by omega) z)), wp_gI c1, e12, wp_gR c1, a6', wp_gI Sb.1.1, e16, wp_rt]
      refine ⟨?_, rfl⟩
      rw [n6_nn (by omega), n6_nn (by omega), show (3 : Int64) = n6 3 from rfl, n6_mul, n6_div2 (by omega), n6_add]
theorem qc_willTime (R : Rel x ec 12 ew e0 h r) (hs : s < 12) (hb : har h (x + 34) s = some b) : ∃ n, C_X8_willTime b h = some (n6 n, h) ∧ n ≤ bigT ∧ ((n = bigT ∧ (r.2.1 15 s ≠ -1 ∨ r.2.1 20 s = -1)) ∨ (r.2.1 15 s = -1 ∧ 0 ≤ r.2.1 20 s ∧ r.2.2 22 s = n6 n)) := by
  have Sb := R.ses hs hb
  have Z := ((R.2.2.2.2.1 s hs).at hb).2.2 (by omega)
  obtain ⟨t0, u1, u2⟩ := R.2.1.1
  suffices hh : ∃ n, wp (C_X8_willTime b) h (fun v h' => v = n6 n ∧ h' = h) ∧ n ≤ bigT ∧ ((n = bigT ∧ (r.2.1 15 s ≠ -1 ∨ r.2.1 20 s = -1)) ∨ (r.2.1 15 s = -1 ∧ 0 ≤ r.2.1 20 s ∧ r.2.2 22 s = n6 n)) by
    obtain ⟨q, ⟨v, h', e1, e2, e3⟩, q2⟩ := hh
    exact ⟨q, by rw [e1, e2, e3], q2⟩
  unfold C_X8_willTime C_X8_willTime_J14
  rcases Sb.2.2.1.2.2.2.2 with ⟨a1, a2⟩ | ⟨i, a0, a1, a2, a3⟩
  · have a1' : hfr h (100 * 10 + 2) b = none := a1
    obtain ⟨z1, ⟨t, z2, z3⟩, z4, z5⟩ := Z a2
    rcases Sb.2.2.2.1 with ⟨y1, y2⟩ | ⟨m, j, y1, y2, y3, y4, y5⟩
    · have y1' : hfr h (100 * 10 + 11) b = none := y1
      refine ⟨bigT, ?_, Nat.le_refl _, Or.inl ⟨rfl, Or.inr y2⟩⟩
      rw [wp_gR Sb.1.1, a1', wp_pos rfl, wp_gR Sb.1.1, y1', wp_pos rfl, wp_rt]
      exact ⟨rfl, rfl⟩
    · have y1' : hfr h (100 * 10 + 11) b = some m := y1
      obtain ⟨V, v1, v2, v3⟩ := y3
      have hj := v2.1
      have h20 : 0 ≤ r.2.1 20 s := by rw [y2]; exact nn_ge (by omega)
      obtain ⟨e, e1, e2⟩ := y5
      have e17 : hfi h (100 * 10 + 17) b = nn t := z3
      have e12 : hfl h (100 * 10 + 12) b = n6 e := y4.trans e2
      rw [u2, iN_nn (by omega)] at z2
      refine ⟨t + e, ?_, by unfold bigT; omega, Or.inr ⟨a2, h20, ?_⟩⟩
      · rw [wp_gR Sb.1.1, a1', wp_pos rfl, wp_gR Sb.1.1, y1', wp_neg (by simp), wp_gI Sb.1.1, e17, wp_gL Sb.1.1, e12, wp_rt, n6_nn (by omega), n6_add]
        exact ⟨rfl, rfl⟩
      · rw [(z4 h20).1, z3, e2, n6_nn (by omega), n6_add]
  · have a1' : hfr h (100 * 10 + 2) b = some (cA x i) := a1
    refine ⟨bigT, ?_, Nat.le_refl _, Or.inl ⟨rfl, Or.inl (by rw [a2]; exact fun z => neg_nn (by omega) z.symm)⟩⟩
    rw [wp_gR Sb.1.1, a1', wp_neg (by simp), wp_rt]
    exact ⟨rfl, rfl⟩
theorem qc_endTime (R : Rel x ec 12 ew e0 h r) (hs : s < 12) (hb : har h (x + 34) s = some b) : ∃ n, C_X8_endTime b h = some (n6 n, h) ∧ n ≤ bigT ∧ ((n = bigT ∧ (r.2.1 15 s ≠ -1 ∨ r.2.2 23 s = -1)) ∨ (r.2.1 15 s = -1 ∧ r.2.2 23 s = n6 n)) := by
  have Sb := R.ses hs hb
  have Z := ((R.2.2.2.2.1 s hs).at hb).2.2 (by omega)
  obtain ⟨t0, u1, u2⟩ := R.2.1.1
  suffices hh : ∃ n, wp (C_X8_endTime b) h (fun v h' => v = n6 n ∧ h' = h) ∧ n ≤ bigT ∧ ((n = bigT ∧ (r.2.1 15 s ≠ -1 ∨ r.2.2 23 s = -1)) ∨ (r.2.1 15 s = -1 ∧ r.2.2 23 s = n6 n)) by
    obtain ⟨q, ⟨v, h', e1, e2, e3⟩, q2⟩ := hh
    exact ⟨q, by rw [e1, e2, e3], q2⟩
  unfold C_X8_endTime C_X8_endTime_J18
  obtain ⟨⟨l1, e, l2, l3⟩, _⟩ := Sb.2.2.1
  have e13 : hfl h (100 * 10 + 13) b = n6 e := l1.trans l3
  rcases Sb.2.2.1.2.2.2.2 with ⟨a1, a2⟩ | ⟨i, a0, a1, a2, a3⟩
  · have a1' : hfr h (100 * 10 + 2) b = none := a1
    obtain ⟨z1, ⟨t, z2, z3⟩, z4, z5⟩ := Z a2
    have e17 : hfi h (100 * 10 + 17) b = nn t := z3
    rw [u2, iN_nn (by omega)] at z2
    by_cases g : e = 4294967295
    · have ge : n6 e = (4294967295 : Int64) := by rw [g]; rfl
      refine ⟨bigT, ?_, Nat.le_refl _, Or.inl ⟨rfl, Or.inr ?_⟩⟩
      · rw [wp_gR Sb.1.1, a1', wp_pos rfl, wp_gL Sb.1.1, e13, ge, wp_pos (by decide), wp_rt]
        exact ⟨rfl, rfl⟩
      · rw [z5, if_pos (by rw [l3, ge])]
    · have ge : ¬ n6 e = (4294967295 : Int64) := fun z => g ((n6_eq (b := 4294967295) (by omega) (by omega)).mp z)
      refine ⟨t + e, ?_, by unfold bigT; omega, Or.inr ⟨a2, ?_⟩⟩
      · rw [wp_gR Sb.1.1, a1', wp_pos rfl, wp_gL Sb.1.1, e13, wp_neg (fun z => ge (cmp_eq.mp z)), wp_gI Sb.1.1, e17, wp_gL Sb.1.1, e13, wp_rt, n6_nn (by omega), n6_add]
        exact ⟨rfl, rfl⟩
      · rw [z5, if_neg (by rw [l3]; exact ge), z3, l3, n6_nn (by omega), n6_add]
  · have a1' : hfr h (100 * 10 + 2) b = some (cA x i) := a1
    refine ⟨bigT, ?_, Nat.le_refl _, Or.inl ⟨rfl, Or.inl (by rw [a2]; exact fun z => neg_nn (by omega) z.symm)⟩⟩
    rw [wp_gR Sb.1.1, a1', wp_neg (by simp), wp_rt]
    exact ⟨rfl, rfl⟩
end EVT
