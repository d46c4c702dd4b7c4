/-! ===== gone, may go, numbers ===== -/
theorem php : ∀ (n : Nat) (g : Nat → Nat), ¬ ∀ l, l < n + 1 → ∃ k, k < n ∧ g k = l := by
  intro n
  induction n with
  | zero =>
    intro g hg
    obtain ⟨k, hk, _⟩ := hg 0 (by omega)
    omega
  | succ n ih =>
    intro g hg
    obtain ⟨k0, h0, e0⟩ := hg (n + 1) (by omega)
    refine ih (fun k => if k = k0 then g n else g k) (fun l hl => ?_)
    obtain ⟨k, hk, ek⟩ := hg l (by omega)
    have hne : k ≠ k0 := fun e => by rw [e, e0] at ek; omega
    by_cases hn : k = n
    · refine ⟨k0, by omega, ?_⟩
      show (if k0 = k0 then g n else g k0) = l
      rw [if_pos rfl, ← hn]
      exact ek
    · refine ⟨k, by omega, ?_⟩
      show (if k = k0 then g n else g k) = l
      rw [if_neg hne]
      exact ek
/-- the least number that is free -/
theorem least_free (n : Nat) (hn : n < 16) (g : Nat → Nat) : ∃ num, 1 ≤ num ∧ num ≤ 16 ∧ (∀ k, k < n → g k ≠ num) ∧ ∀ l, 1 ≤ l → l < num → ∃ k, k < n ∧ g k = l := by
  have : ∃ l, 1 ≤ l ∧ l ≤ 16 ∧ ∀ k, k < n → g k ≠ l := Classical.byContradiction (fun hc => php 15 (fun k => if k < n then g k - 1 else 16) (fun l hl => by
    have : ∃ k, k < n ∧ g k = l + 1 := Classical.byContradiction (fun hk => hc ⟨l + 1, by omega, by omega, fun k h1 h2 => hk ⟨k, h1, h2⟩⟩)
    obtain ⟨k, h1, h2⟩ := this
    refine ⟨k, by omega, ?_⟩
    show (if k < n then g k - 1 else 16) = l
    rw [if_pos h1, h2]
    omega))
  obtain ⟨l, hl⟩ := this
  have key : ∀ m, ∀ l, l ≤ m → (1 ≤ l ∧ l ≤ 16 ∧ ∀ k, k < n → g k ≠ l) → ∃ num, 1 ≤ num ∧ num ≤ 16 ∧ (∀ k, k < n → g k ≠ num) ∧ ∀ l, 1 ≤ l → l < num → ∃ k, k < n ∧ g k = l := by
    intro m
    induction m with
    | zero => intro l h1 h2; omega
    | succ m ih =>
      intro l h1 h2
      by_cases hs : ∃ l', 1 ≤ l' ∧ l' < l ∧ ∀ k, k < n → g k ≠ l'
      · obtain ⟨l', a1, a2, a3⟩ := hs
        exact ih l' (by omega) ⟨a1, by omega, a3⟩
      · refine ⟨l, h2.1, h2.2.1, h2.2.2, fun l' b1 b2 => Classical.byContradiction (fun hk => hs ⟨l', b1, b2, fun k h1 h2 => hk ⟨k, h1, h2⟩⟩)⟩
  exact key l l (Nat.le_refl _) hl
/-- gone by its LIFE: the class and the model say the same -/
theorem gone_iff {V : MV} (hV : Vok V) {t c : Nat} (hc : c ≤ t) (ht : t ≤ 1073741823) : (V.2.2.2.2.2.2.2 ≠ -1 ∧ lft V.2.2.2.2.2.2.2 (nn t) (nn c) = 0) ↔ (0 ≤ V.2.2.2.2.2.2.2 ∧ V.2.2.2.2.2.2.2 ≤ (nn t - nn c).toInt64) := by
  rw [nn_sub hc, n6_nn (by omega)]
  have e0 : (0 : Int64) = n6 0 := rfl
  rcases hV.2.2.2.2.1 with h | ⟨k, hk, h⟩
  · rw [h]
    exact ⟨fun z => absurd rfl z.1, fun z => absurd z.1 (by decide)⟩
  · unfold lft
    rw [h, nn_sub hc, n6_nn (by omega)]
    have hb : (n6 k - n6 (t - c)).toInt = (k : Int) - ((t - c : Nat) : Int) := by
      rw [Int64.toInt_sub, n6_I (by omega), n6_I (by omega), Int.bmod_def]
      have h64 : ((2 ^ 64 : Nat) : Int) = 18446744073709551616 := rfl
      rw [h64]
      split <;> omega
    have hz : n6 k - n6 (t - c) ≤ 0 ↔ k ≤ t - c := by
      rw [Int64.le_iff_toInt_le, hb]
      have : (0 : Int64).toInt = 0 := rfl
      rw [this]
      omega
    constructor
    · rintro ⟨_, z⟩
      refine ⟨n6_nneg (by omega), (n6_le (by omega) (by omega)).mpr ?_⟩
      by_cases g : n6 k - n6 (t - c) ≤ 0
      · exact hz.mp g
      · rw [if_neg g] at z
        exact absurd (by rw [z]; exact Int64.le_refl _) g
    · rintro ⟨_, z⟩
      refine ⟨n6_ne (by omega), ?_⟩
      rw [if_pos (hz.mpr ((n6_le (by omega) (by omega)).mp z))]
section GON
variable {x m j : Nat} {h : Hp} {r : RS}
theorem qm_gone (hj : j < 640) : R_gone (nn j) r = some (if gon r j = true then 1 else 0, r) := by
  have e : wp (R_gone (nn j)) r (fun v r' => v = (if gon r j = true then 1 else 0) ∧ r' = r) := by
    unfold R_gone
    rw [wr_50 hj]
    unfold gon
    by_cases h1 : r.2.2 50 j < 0
    · rw [wp_pos (cmp_lt.mpr h1), wp_zt]
      have : ¬ (0 ≤ r.2.2 50 j ∧ r.2.2 50 j ≤ (r.1 66 - r.2.1 51 j).toInt64) := fun z => absurd h1 (Int64.not_lt.mpr z.1)
      rw [decide_eq_false this]
      exact ⟨Or.inl rfl, rfl, rfl⟩
    · rw [wp_neg (fun z => h1 (cmp_lt.mp z)), wp_rI, wr_51 hj, wr_50 hj]
      by_cases h2 : (r.1 66 - r.2.1 51 j).toInt64 < r.2.2 50 j
      · rw [wp_pos (cmp_lt.mpr h2), wp_zt]
        have : ¬ (0 ≤ r.2.2 50 j ∧ r.2.2 50 j ≤ (r.1 66 - r.2.1 51 j).toInt64) := fun z => absurd h2 (Int64.not_lt.mpr z.2)
        rw [decide_eq_false this]
        exact ⟨Or.inl rfl, rfl, rfl⟩
      · rw [wp_neg (fun z => h2 (cmp_lt.mp z)), wp_zt]
        have : (0 ≤ r.2.2 50 j ∧ r.2.2 50 j ≤ (r.1 66 - r.2.1 51 j).toInt64) := ⟨Int64.not_lt.mp h1, Int64.not_lt.mp h2⟩
        rw [decide_eq_true this]
        exact ⟨Or.inr rfl, rfl, rfl⟩
  obtain ⟨v, r', e1, e2, e3⟩ := e
  rw [e1, e2, e3]
theorem qc_gone {tm : Int32} (M : MpT x h r m j) (ht : ∃ t, t ≤ 1073741823 ∧ r.1 66 = nn t) (et : tm = r.1 66) : C_X3_isGone m tm h = some (if gon r j = true then 1 else 0, h) := by
  obtain ⟨⟨V, v1, v2, v3⟩, v4, c, hc, ec⟩ := M
  obtain ⟨t, ht, e66⟩ := ht
  rw [e66, iN_nn (by omega)] at hc
  have m1 := v1.1
  have m6 : hfl h 507 m = V.2.2.2.2.2.2.2 := v1.2.2.2.2.2.2.2.2.2.2
  have n6' : r.2.2 50 j = V.2.2.2.2.2.2.2 := v2.2.2.2.2.2.2.2.2
  have G := gone_iff v3 hc ht
  have e : wp (C_X3_isGone m tm) h (fun v h' => v = (if gon r j = true then 1 else 0) ∧ h' = h) := by
    unfold C_X3_isGone gon
    rw [wp_gL m1]
    show wp (if lg_cmp (hfl h 507 m) (-1) = 0 then _ else _) h _
    rw [m6, n6', e66, ec]
    by_cases h1 : V.2.2.2.2.2.2.2 = -1
    · rw [wp_pos (cmp_eq.mpr h1), wp_zt, decide_eq_false (fun z => (G.mpr z).1 h1)]
      exact ⟨Or.inl rfl, rfl, rfl⟩
    · rw [wp_neg (fun z => h1 (cmp_eq.mp z)), wp_Cv m1]
      refine wp.get (qc_left v1) ?_
      rw [v4, ec, et, e66]
      by_cases h2 : lft V.2.2.2.2.2.2.2 (nn t) (nn c) = 0
      · rw [wp_pos (cmp_eq.mpr h2), wp_zt, decide_eq_true (G.mp ⟨h1, h2⟩)]
        exact ⟨Or.inr rfl, rfl, rfl⟩
      · rw [wp_neg (fun z => h2 (cmp_eq.mp z)), wp_zt, decide_eq_false (fun z => h2 (G.mpr z).2)]
        exact ⟨Or.inl rfl, rfl, rfl⟩
  obtain ⟨v, h', e1, e2, e3⟩ := e
  rw [e1, e2, e3]
end GON
/-- may something more be sent to session s -/
def may (r : RS) (s : Nat) : Prop := ¬ r.2.1 15 s < 0 ∧ ¬ imin (r.2.1 17 s) 16 ≤ r.2.1 31 s
section MAY
variable {x s b : Nat} {h : Hp} {r : RS}
theorem qm_may (hs : s < 12) : R_mayGo (nn s) r = some (@ite _ (may r s) (Classical.propDecidable _) 1 0, r) := by
  have e : wp (R_mayGo (nn s)) r (fun v r' => v = (@ite _ (may r s) (Classical.propDecidable _) 1 0) ∧ r' = r) := by
    unfold R_mayGo
    rw [wr_15 hs]
    by_cases h1 : r.2.1 15 s < 0
    · rw [wp_pos h1, wp_zt, if_neg (fun z => z.1 h1)]
      exact ⟨Or.inl rfl, rfl, rfl⟩
    · rw [wp_neg h1, wr_31 hs, wr_17 hs]
      by_cases h2 : imin (r.2.1 17 s) 16 ≤ r.2.1 31 s
      · rw [wp_pos h2, wp_zt, if_neg (fun z => z.2 h2)]
        exact ⟨Or.inl rfl, rfl, rfl⟩
      · rw [wp_neg h2, wp_zt, if_pos ⟨h1, h2⟩]
        exact ⟨Or.inr rfl, rfl, rfl⟩
  obtain ⟨v, r', e1, e2, e3⟩ := e
  rw [e1, e2, e3]
theorem qc_may (T : SesT x h s b) (V : SesV x h r s b) (Y : SesY x h r s b) : C_X8_maySend b h = some (@ite _ (may r s) (Classical.propDecidable _) 1 0, h) := by
  obtain ⟨n, y1, y2, y3, y4, y5⟩ := Y
  have e : wp (C_X8_maySend b) h (fun v h' => v = (@ite _ (may r s) (Classical.propDecidable _) 1 0) ∧ h' = h) := by
    unfold C_X8_maySend
    rw [wp_gR T.1]
    show wp (if hfr h 1002 b = none then _ else _) h _
    rcases V.2.2.2.2 with ⟨z1, z2⟩ | ⟨i, z0, z1, z2, z3⟩
    · rw [wp_pos z1, wp_zt, if_neg (fun z => z.1 (by rw [z2]; decide))]
      exact ⟨Or.inl rfl, rfl, rfl⟩
    · rw [wp_neg (by rw [z1]; exact fun q => by cases q), wp_gI T.1, wp_gI T.1]
      show wp (if imin (hfi h 1015 b) 16 ≤ hfi h 1006 b then _ else _) h _
      rw [V.2.1.1, y2, ← y3]
      have h1 : ¬ r.2.1 15 s < 0 := by rw [z2]; exact nn_nlt0 (by omega)
      by_cases h2 : imin (r.2.1 17 s) 16 ≤ r.2.1 31 s
      · rw [wp_pos h2, wp_zt, if_neg (fun z => z.2 h2)]
        exact ⟨Or.inl rfl, rfl, rfl⟩
      · rw [wp_neg h2, wp_zt, if_pos ⟨h1, h2⟩]
        exact ⟨Or.inr rfl, rfl, rfl⟩
  obtain ⟨v, h', e1, e2, e3⟩ := e
  rw [e1, e2, e3]
theorem may.lt (hm : may r s) (V : SesV x h r s b) {n : Nat} (hn : r.2.1 31 s = nn n) (h16 : n ≤ 16) : n < 16 ∧ ∃ i, i < 8 ∧ hfr h 1002 b = some (cA x i) ∧ r.2.1 15 s = nn i ∧ r.2.1 7 i = nn s := by
  obtain ⟨m1, m2⟩ := hm
  refine ⟨?_, ?_⟩
  · obtain ⟨k, k1, k2, k3⟩ := V.2.1.2
    rw [k3, hn, l_16] at m2
    unfold imin at m2
    by_cases g : nn 16 < nn k
    · rw [if_pos g, nn_le (by omega) (by omega)] at m2
      omega
    · rw [if_neg g, nn_le (by omega) (by omega)] at m2
      rw [nn_lt (by omega) (by omega)] at g
      omega
  · rcases V.2.2.2.2 with ⟨z1, z2⟩ | z
    · exact absurd (by rw [z2]; decide) m1
    · exact z
end MAY
