/-! ===== the model marks what is held ===== -/
def Used (r : RS) (j : Nat) : Prop := (∃ k, k < iN (r.1 65) ∧ r.2.1 64 k = nn j) ∨ ∃ s, s < 12 ∧ r.2.1 11 s = 1 ∧ (r.2.1 20 s = nn j ∨ (∃ k, k < iN (r.2.1 31 s) ∧ r.2.1 33 (16 * s + k) = nn j) ∨ ∃ k, k < iN (r.2.1 38 s) ∧ r.2.1 39 (24 * s + k) = nn j)
/-- only marks differ, and P is marked -/
def Mk (r r1 : RS) (P : Nat → Prop) : Prop := Ro [63] r r1 ∧ ∀ j, j < 640 → (r1.2.1 63 j = 0 ∧ ¬ P j) ∨ (r1.2.1 63 j = 1 ∧ P j)
section MRK
variable {x ec es ew s b j m n : Nat} {e0 : Int32} {h : Hp} {r r1 : RS} {P : Nat → Prop} {l1 l2 l3 l4 : Int32}
theorem Mk.add (M : Mk r r1 P) (hj : j < 640) : Mk r (sA r1 63 j 1) (fun q => P q ∨ q = j) := by
  refine ⟨M.1.a (by decide), fun q hq => ?_⟩
  rw [sA_2]
  by_cases g : q = j
  · rw [if_pos ⟨rfl, g⟩]
    exact Or.inr ⟨rfl, Or.inr g⟩
  · rw [if_neg (fun z => g z.2)]
    rcases M.2 q hq with ⟨a, c⟩ | ⟨a, c⟩
    · exact Or.inl ⟨a, fun z => z.elim c g⟩
    · exact Or.inr ⟨a, Or.inl c⟩
theorem Mk.iff {Q : Nat → Prop} (M : Mk r r1 P) (e : ∀ q, q < 640 → (P q ↔ Q q)) : Mk r r1 Q := ⟨M.1, fun q hq => by
  rcases M.2 q hq with ⟨a, c⟩ | ⟨a, c⟩
  · exact Or.inl ⟨a, fun z => c ((e q hq).mpr z)⟩
  · exact Or.inr ⟨a, (e q hq).mp c⟩⟩
theorem nn_iff {a q : Nat} (ha : a < 640) (hq : q < 640) : nn a = nn q ↔ q = a := ⟨fun z => (nn_inj (by omega) (by omega) z).symm, fun z => by rw [z]⟩
/-- nothing is marked -/
theorem mark_0 : ∃ r1, R_message l1 l2 l3 l4 r = R_message_J25 l1 l2 l3 l4 r1 ∧ Mk r r1 (fun _ => False) := by
  have key : ∀ (c i f : Nat) (r1 : RS), i + c = 640 → c < f → Ro [63] r r1 → (∀ q, q < i → r1.2.1 63 q = 0) → ∃ r2, R_message_L3 (fun l1 l2 l3 l4 => R_message_J25 l1 l2 l3 l4) f l1 l2 l3 l4 (nn i) r1 = R_message_J25 l1 l2 l3 l4 r2 ∧ Mk r r2 (fun _ => False) := by
    intro c
    induction c with
    | zero =>
      intro i f r1 hi hf w hz
      obtain ⟨f', rfl⟩ : ∃ z, f = z + 1 := ⟨f - 1, by omega⟩
      refine ⟨r1, ?_, w, fun q hq => Or.inl ⟨hz q (by omega), fun z => z⟩⟩
      show R_message_B3 _ _ l1 l2 l3 l4 (nn i) r1 = _
      unfold R_message_B3
      rw [if_pos (by rw [l_640, nn_le (by omega) (by omega)]; omega)]
    | succ c ih =>
      intro i f r1 hi hf w hz
      obtain ⟨f', rfl⟩ : ∃ z, f = z + 1 := ⟨f - 1, by omega⟩
      obtain ⟨r2, e1, e2⟩ := ih (i + 1) f' (sA r1 63 i 0) (by omega) (by omega) (w.a (by decide)) (fun q hq => by
        rw [sA_2]
        by_cases g : q = i
        · rw [if_pos ⟨rfl, g⟩]
        · rw [if_neg (by omega)]
          exact hz q (by omega))
      refine ⟨r2, ?_, e2⟩
      rw [← e1]
      show R_message_B3 _ _ l1 l2 l3 l4 (nn i) r1 = _
      unfold R_message_B3
      rw [if_neg (by rw [l_640, nn_le (by omega) (by omega)]; omega), x_wA mL_63 (by omega) (by omega), l_1, nn_add]
      rfl
  exact key 640 0 fu r (by omega) (by unfold fu; omega) Ro.rf (fun q hq => by omega)
/-- what is kept is marked -/
theorem mark_1 (hn : r.1 65 = nn n) (hn2 : n ≤ 16) (hk : ∀ k, k < n → ∃ j, j < 640 ∧ r.2.1 64 k = nn j) (M : Mk r r1 P) : ∃ r2, R_message_J25 l1 l2 l3 l4 r1 = R_message_J56 l1 l2 l3 l4 r2 ∧ Mk r r2 (fun q => P q ∨ ∃ k, k < n ∧ r.2.1 64 k = nn q) := by
  unfold R_message_J25
  have key : ∀ (c i f : Nat) (r1 : RS), i + c = n → c < f → Mk r r1 (fun q => P q ∨ ∃ k, k < i ∧ r.2.1 64 k = nn q) → ∃ r2, R_message_L28 (fun l1 l2 l3 l4 => R_message_J56 l1 l2 l3 l4) f l1 l2 l3 l4 (nn i) r1 = R_message_J56 l1 l2 l3 l4 r2 ∧ Mk r r2 (fun q => P q ∨ ∃ k, k < n ∧ r.2.1 64 k = nn q) := by
    intro c
    induction c with
    | zero =>
      intro i f r1 hi hf M
      obtain ⟨f', rfl⟩ : ∃ z, f = z + 1 := ⟨f - 1, by omega⟩
      have : i = n := by omega
      subst this
      refine ⟨r1, ?_, M⟩
      show R_message_B28 _ _ l1 l2 l3 l4 (nn i) r1 = _
      unfold R_message_B28
      rw [x_rI, M.1.gI (by decide), hn, if_pos (by rw [nn_le (by omega) (by omega)]; omega)]
    | succ c ih =>
      intro i f r1 hi hf M
      obtain ⟨f', rfl⟩ : ∃ z, f = z + 1 := ⟨f - 1, by omega⟩
      obtain ⟨j, j1, j2⟩ := hk i (by omega)
      obtain ⟨r2, e1, e2⟩ := ih (i + 1) f' (sA r1 63 j 1) (by omega) (by omega) ((M.add j1).iff (fun q hq => by
        constructor
        · rintro ((z | ⟨k, k1, k2⟩) | z)
          · exact Or.inl z
          · exact Or.inr ⟨k, by omega, k2⟩
          · exact Or.inr ⟨i, by omega, by rw [j2, z]⟩
        · rintro (z | ⟨k, k1, k2⟩)
          · exact Or.inl (Or.inl z)
          · by_cases g : k = i
            · rw [g, j2] at k2
              exact Or.inr ((nn_iff j1 hq).mp k2)
            · exact Or.inl (Or.inr ⟨k, by omega, k2⟩)))
      refine ⟨r2, ?_, e2⟩
      rw [← e1]
      show R_message_B28 _ _ l1 l2 l3 l4 (nn i) r1 = _
      unfold R_message_B28
      rw [x_rI, M.1.gI (by decide), hn, if_neg (by rw [nn_le (by omega) (by omega)]; omega), x_rA mL_64 (by omega) (by omega), M.1.gA (by decide), j2, x_wA mL_63 j1 (by omega), l_1, nn_add]
      rfl
  exact key n 0 fu r1 (by omega) (by unfold fu; omega) (M.iff (fun q _ => ⟨Or.inl, fun z => z.elim id (fun ⟨k, k1, _⟩ => by omega)⟩))
/-- what waits for session s is marked -/
theorem mark_q {kb : Int32 → Int32 → Int32 → Int32 → Int32 → RS → Option (Int32 × RS)} {ke : Int32 → Int32 → Int32 → Int32 → RS → Option (Int32 × RS)} (hs : s < 12) (hn : r.2.1 38 s = nn n) (hn2 : n ≤ 24) (hk : ∀ k, k < n → ∃ j, j < 640 ∧ r.2.1 39 (24 * s + k) = nn j) (M : Mk r r1 P) : ∃ r2, R_message_J142 kb ke l1 l2 l3 l4 (nn s) r1 = kb l1 l2 l3 l4 (nn (s + 1)) r2 ∧ Mk r r2 (fun q => P q ∨ ∃ k, k < n ∧ r.2.1 39 (24 * s + k) = nn q) := by
  unfold R_message_J142
  have key : ∀ (c i f : Nat) (r1 : RS), i + c = n → c < f → Mk r r1 (fun q => P q ∨ ∃ k, k < i ∧ r.2.1 39 (24 * s + k) = nn q) → ∃ r2, R_message_L145 (fun l1 l2 l3 l4 l5 => R_message_J182 kb ke l1 l2 l3 l4 l5) f l1 l2 l3 l4 (nn s) (nn i) r1 = kb l1 l2 l3 l4 (nn (s + 1)) r2 ∧ Mk r r2 (fun q => P q ∨ ∃ k, k < n ∧ r.2.1 39 (24 * s + k) = nn q) := by
    intro c
    induction c with
    | zero =>
      intro i f r1 hi hf M
      obtain ⟨f', rfl⟩ : ∃ z, f = z + 1 := ⟨f - 1, by omega⟩
      have : i = n := by omega
      subst this
      refine ⟨r1, ?_, M⟩
      show R_message_B145 _ _ l1 l2 l3 l4 (nn s) (nn i) r1 = _
      unfold R_message_B145 R_message_J182
      rw [x_rA mL_38 hs (by omega), M.1.gA (by decide), hn, if_pos (by rw [nn_le (by omega) (by omega)]; omega), l_1]
      show kb l1 l2 l3 l4 (nn s + nn 1) r1 = _
      rw [nn_add]
    | succ c ih =>
      intro i f r1 hi hf M
      obtain ⟨f', rfl⟩ : ∃ z, f = z + 1 := ⟨f - 1, by omega⟩
      obtain ⟨j, j1, j2⟩ := hk i (by omega)
      obtain ⟨r2, e1, e2⟩ := ih (i + 1) f' (sA r1 63 j 1) (by omega) (by omega) ((M.add j1).iff (fun q hq => by
        constructor
        · rintro ((z | ⟨k, k1, k2⟩) | z)
          · exact Or.inl z
          · exact Or.inr ⟨k, by omega, k2⟩
          · exact Or.inr ⟨i, by omega, by rw [j2, z]⟩
        · rintro (z | ⟨k, k1, k2⟩)
          · exact Or.inl (Or.inl z)
          · by_cases g : k = i
            · rw [g, j2] at k2
              exact Or.inr ((nn_iff j1 hq).mp k2)
            · exact Or.inl (Or.inr ⟨k, by omega, k2⟩)))
      refine ⟨r2, ?_, e2⟩
      rw [← e1]
      show R_message_B145 _ _ l1 l2 l3 l4 (nn s) (nn i) r1 = _
      unfold R_message_B145
      rw [x_rA mL_38 hs (by omega), M.1.gA (by decide), hn, if_neg (by rw [nn_le (by omega) (by omega)]; omega), l_24, nn_mul, nn_add, x_rA mL_39 (by omega) (by omega), M.1.gA (by decide), j2, x_wA mL_63 j1 (by omega), l_1, nn_add]
      rfl
  exact key n 0 fu r1 (by omega) (by unfold fu; omega) (M.iff (fun q _ => ⟨Or.inl, fun z => z.elim id (fun ⟨k, k1, _⟩ => by omega)⟩))
/-- what is on the way to session s is marked -/
theorem mark_y {kb : Int32 → Int32 → Int32 → Int32 → Int32 → RS → Option (Int32 × RS)} {ke : Int32 → Int32 → Int32 → Int32 → RS → Option (Int32 × RS)} (hs : s < 12) (hn : r.2.1 31 s = nn n) (hn2 : n ≤ 16) (hk : ∀ k, k < n → ∃ j, j < 640 ∧ r.2.1 33 (16 * s + k) = nn j) (M : Mk r r1 P) : ∃ r2, R_message_J102 kb ke l1 l2 l3 l4 (nn s) r1 = R_message_J142 kb ke l1 l2 l3 l4 (nn s) r2 ∧ Mk r r2 (fun q => P q ∨ ∃ k, k < n ∧ r.2.1 33 (16 * s + k) = nn q) := by
  unfold R_message_J102
  have key : ∀ (c i f : Nat) (r1 : RS), i + c = n → c < f → Mk r r1 (fun q => P q ∨ ∃ k, k < i ∧ r.2.1 33 (16 * s + k) = nn q) → ∃ r2, R_message_L105 (fun l1 l2 l3 l4 l5 => R_message_J142 kb ke l1 l2 l3 l4 l5) f l1 l2 l3 l4 (nn s) (nn i) r1 = R_message_J142 kb ke l1 l2 l3 l4 (nn s) r2 ∧ Mk r r2 (fun q => P q ∨ ∃ k, k < n ∧ r.2.1 33 (16 * s + k) = nn q) := by
    intro c
    induction c with
    | zero =>
      intro i f r1 hi hf M
      obtain ⟨f', rfl⟩ : ∃ z, f = z + 1 := ⟨f - 1, by omega⟩
      have : i = n := by omega
      subst this
      refine ⟨r1, ?_, M⟩
      show R_message_B105 _ _ l1 l2 l3 l4 (nn s) (nn i) r1 = _
      unfold R_message_B105
      rw [x_rA mL_31 hs (by omega), M.1.gA (by decide), hn, if_pos (by rw [nn_le (by omega) (by omega)]; omega)]
    | succ c ih =>
      intro i f r1 hi hf M
      obtain ⟨f', rfl⟩ : ∃ z, f = z + 1 := ⟨f - 1, by omega⟩
      obtain ⟨j, j1, j2⟩ := hk i (by omega)
      obtain ⟨r2, e1, e2⟩ := ih (i + 1) f' (sA r1 63 j 1) (by omega) (by omega) ((M.add j1).iff (fun q hq => by
        constructor
        · rintro ((z | ⟨k, k1, k2⟩) | z)
          · exact Or.inl z
          · exact Or.inr ⟨k, by omega, k2⟩
          · exact Or.inr ⟨i, by omega, by rw [j2, z]⟩
        · rintro (z | ⟨k, k1, k2⟩)
          · exact Or.inl (Or.inl z)
          · by_cases g : k = i
            · rw [g, j2] at k2
              exact Or.inr ((nn_iff j1 hq).mp k2)
            · exact Or.inl (Or.inr ⟨k, by omega, k2⟩)))
      refine ⟨r2, ?_, e2⟩
      rw [← e1]
      show R_message_B105 _ _ l1 l2 l3 l4 (nn s) (nn i) r1 = _
      unfold R_message_B105
      rw [x_rA mL_31 hs (by omega), M.1.gA (by decide), hn, if_neg (by rw [nn_le (by omega) (by omega)]; omega), l_16, nn_mul, nn_add, x_rA mL_33 (by omega) (by omega), M.1.gA (by decide), j2, x_wA mL_63 j1 (by omega), l_1, nn_add]
      rfl
  exact key n 0 fu r1 (by omega) (by unfold fu; omega) (M.iff (fun q _ => ⟨Or.inl, fun z => z.elim id (fun ⟨k, k1, _⟩ => by omega)⟩))
/-- what session s holds -/
def UsS (r : RS) (s q : Nat) : Prop := r.2.1 11 s = 1 ∧ (r.2.1 20 s = nn q ∨ (∃ k, k < iN (r.2.1 31 s) ∧ r.2.1 33 (16 * s + k) = nn q) ∨ ∃ k, k < iN (r.2.1 38 s) ∧ r.2.1 39 (24 * s + k) = nn q)
theorem mark_s (R : Rel x ec es ew e0 h r) {ke : Int32 → Int32 → Int32 → Int32 → RS → Option (Int32 × RS)} : ∀ (c i f : Nat) (r1 : RS) (P : Nat → Prop), i + c = 12 → c < f → Mk r r1 P → ∃ r2, R_message_L59 ke f l1 l2 l3 l4 (nn i) r1 = ke l1 l2 l3 l4 r2 ∧ Mk r r2 (fun q => P q ∨ ∃ s, i ≤ s ∧ s < 12 ∧ UsS r s q) := by
  intro c
  induction c with
  | zero =>
    intro i f r1 P hi hf M
    obtain ⟨f', rfl⟩ : ∃ z, f = z + 1 := ⟨f - 1, by omega⟩
    refine ⟨r1, ?_, M.iff (fun q _ => ⟨Or.inl, fun z => z.elim id (fun ⟨s, s1, s2, _⟩ => by omega)⟩)⟩
    show R_message_B59 _ _ l1 l2 l3 l4 (nn i) r1 = _
    unfold R_message_B59
    rw [if_pos (by rw [l_12, nn_le (by omega) (by omega)]; omega)]
  | succ c ih =>
    intro i f r1 P hi hf M
    obtain ⟨f', rfl⟩ : ∃ z, f = z + 1 := ⟨f - 1, by omega⟩
    have i12 : i < 12 := by omega
    have hd : ∀ (Q : Nat → Prop) (r2 : RS), Mk r r2 Q → (∀ q, q < 640 → (Q q ↔ P q ∨ UsS r i q)) → R_message_L59 ke (f' + 1) l1 l2 l3 l4 (nn i) r1 = R_message_L59 ke f' l1 l2 l3 l4 (nn (i + 1)) r2 → ∃ r2, R_message_L59 ke (f' + 1) l1 l2 l3 l4 (nn i) r1 = ke l1 l2 l3 l4 r2 ∧ Mk r r2 (fun q => P q ∨ ∃ s, i ≤ s ∧ s < 12 ∧ UsS r s q) := by
      intro Q r2 M2 hQ e
      obtain ⟨r3, e1, e2⟩ := ih (i + 1) f' r2 Q (by omega) (by omega) M2
      refine ⟨r3, by rw [e, e1], e2.iff (fun q hq => ?_)⟩
      constructor
      · rintro (z | ⟨s, s1, s2, s3⟩)
        · rcases (hQ q hq).mp z with y | y
          · exact Or.inl y
          · exact Or.inr ⟨i, Nat.le_refl _, i12, y⟩
        · exact Or.inr ⟨s, by omega, s2, s3⟩
      · rintro (z | ⟨s, s1, s2, s3⟩)
        · exact Or.inl ((hQ q hq).mpr (Or.inl z))
        · by_cases g : s = i
          · rw [g] at s3
            exact Or.inl ((hQ q hq).mpr (Or.inr s3))
          · exact Or.inr ⟨s, by omega, s2, s3⟩
    have e0' : R_message_L59 ke (f' + 1) l1 l2 l3 l4 (nn i) r1 = R_message_B59 (fun l1 l2 l3 l4 l5 => R_message_L59 ke f' l1 l2 l3 l4 l5) ke l1 l2 l3 l4 (nn i) r1 := rfl
    rcases R.2.2.2.2.1 i i12 with ⟨c1, c2⟩ | ⟨c1, b, c2, c3, c4⟩
    · refine hd P r1 M (fun q _ => ⟨Or.inl, fun z => z.elim id (fun y => by
        have := y.1
        rw [c1] at this
        exact absurd this (by decide))⟩) ?_
      rw [e0']
      unfold R_message_B59 R_message_J182
      rw [if_neg (by rw [l_12, nn_le (by omega) (by omega)]; omega), x_rA mL_11 i12 (by omega), M.1.gA (by decide), c1, if_pos rfl, l_1, nn_add]
    · obtain ⟨ny, y1, y2, y3, y4, y5⟩ := c3.2.2.2.2.2.1
      obtain ⟨nq, q1, q2, q3, q4⟩ := c3.2.2.2.2.2.2.1
      have hy : ∀ k, k < ny → ∃ j, j < 640 ∧ r.2.1 33 (16 * i + k) = nn j := fun k hk => by
        obtain ⟨d, d1, m, j, ql, fl, id, num, a1, a2, a3, a4, _⟩ := y4 k hk
        obtain ⟨V, v1, v2, v3⟩ := a4.1
        exact ⟨j, v2.1, a3⟩
      have hq : ∀ k, k < nq → ∃ j, j < 640 ∧ r.2.1 39 (24 * i + k) = nn j := fun k hk => by
        obtain ⟨d, d1, m, j, ql, fl, id, a1, a2, a3, a4, _⟩ := q4 k hk
        obtain ⟨V, v1, v2, v3⟩ := a4.1
        exact ⟨j, v2.1, a3⟩
      rcases c3.2.2.2.1 with ⟨z1, z2⟩ | ⟨m, j, z1, z2, z3, _⟩
      · obtain ⟨r2, a1, a2⟩ := mark_y (kb := fun l1 l2 l3 l4 l5 => R_message_L59 ke f' l1 l2 l3 l4 l5) (ke := ke) (l1 := l1) (l2 := l2) (l3 := l3) (l4 := l4) i12 y3 y1 hy M
        obtain ⟨r3, b1, b2⟩ := mark_q (kb := fun l1 l2 l3 l4 l5 => R_message_L59 ke f' l1 l2 l3 l4 l5) (ke := ke) (l1 := l1) (l2 := l2) (l3 := l3) (l4 := l4) i12 q3 q1 hq a2
        refine hd _ r3 b2 (fun q hq' => ?_) ?_
        · unfold UsS
          rw [c1, z2, y3, q3, iN_nn (by omega), iN_nn (by omega)]
          constructor
          · rintro ((z | z) | z)
            · exact Or.inl z
            · exact Or.inr ⟨rfl, Or.inr (Or.inl z)⟩
            · exact Or.inr ⟨rfl, Or.inr (Or.inr z)⟩
          · rintro (z | ⟨_, z | z | z⟩)
            · exact Or.inl (Or.inl z)
            · exact absurd z (neg_nn (by omega))
            · exact Or.inl (Or.inr z)
            · exact Or.inr z
        · rw [e0', ← b1, ← a1]
          unfold R_message_B59
          rw [if_neg (by rw [l_12, nn_le (by omega) (by omega)]; omega), x_rA mL_11 i12 (by omega), M.1.gA (by decide), c1, if_neg (by decide), x_rA mL_20 i12 (by omega), M.1.gA (by decide), z2, if_pos (by decide)]
      · have hj : j < 640 := by
          obtain ⟨V, v1, v2, v3⟩ := z3
          exact v2.1
        obtain ⟨r2, a1, a2⟩ := mark_y (kb := fun l1 l2 l3 l4 l5 => R_message_L59 ke f' l1 l2 l3 l4 l5) (ke := ke) (l1 := l1) (l2 := l2) (l3 := l3) (l4 := l4) i12 y3 y1 hy (M.add hj)
        obtain ⟨r3, b1, b2⟩ := mark_q (kb := fun l1 l2 l3 l4 l5 => R_message_L59 ke f' l1 l2 l3 l4 l5) (ke := ke) (l1 := l1) (l2 := l2) (l3 := l3) (l4 := l4) i12 q3 q1 hq a2
        refine hd _ r3 b2 (fun q hq' => ?_) ?_
        · unfold UsS
          rw [c1, z2, y3, q3, iN_nn (by omega), iN_nn (by omega)]
          constructor
          · rintro (((z | z) | z) | z)
            · exact Or.inl z
            · exact Or.inr ⟨rfl, Or.inl (by rw [z])⟩
            · exact Or.inr ⟨rfl, Or.inr (Or.inl z)⟩
            · exact Or.inr ⟨rfl, Or.inr (Or.inr z)⟩
          · rintro (z | ⟨_, z | z | z⟩)
            · exact Or.inl (Or.inl (Or.inl z))
            · exact Or.inl (Or.inl (Or.inr ((nn_iff hj hq').mp z)))
            · exact Or.inl (Or.inr z)
            · exact Or.inr z
        · rw [e0', ← b1, ← a1]
          unfold R_message_B59
          rw [if_neg (by rw [l_12, nn_le (by omega) (by omega)]; omega), x_rA mL_11 i12 (by omega), M.1.gA (by decide), c1, if_neg (by decide), x_rA mL_20 i12 (by omega), M.1.gA (by decide), z2, if_neg (nn_nlt0 (by omega)), x_rA mL_20 i12 (by omega), M.1.gA (by decide), z2, x_wA mL_63 hj (by omega)]
          rfl
/-- the model finds a slot that nobody holds -/
theorem mark_free (R : Rel x ec es ew e0 h r) : ∃ j r1, j < 509 ∧ R_message l1 l2 l3 l4 r = R_message_J207 l1 l2 l3 l4 (nn j) r1 ∧ Ro [63] r r1 ∧ Unu r j := by
  obtain ⟨r1, a1, M1⟩ := mark_0 (r := r) (l1 := l1) (l2 := l2) (l3 := l3) (l4 := l4)
  obtain ⟨⟨n, n1, n2, n3⟩, _⟩ := R.2.2.2.2.2.2.2.2.1
  obtain ⟨r2, a2, M2⟩ := mark_1 (l1 := l1) (l2 := l2) (l3 := l3) (l4 := l4) n2 n1 (fun k hk => by
    obtain ⟨j, j1, j2, _⟩ := n3 k hk
    exact ⟨j, j1, j2⟩) M1
  obtain ⟨r3, a3, M3⟩ := mark_s (l1 := l1) (l2 := l2) (l3 := l3) (l4 := l4) R (ke := fun l1 l2 l3 l4 => R_message_J188 l1 l2 l3 l4) 12 0 fu r2 _ (by omega) (by unfold fu; omega) M2
  have a3' : R_message_J56 l1 l2 l3 l4 r2 = R_message_J188 l1 l2 l3 l4 r3 := a3
  -- marked is held
  have mh : ∀ q, q < 640 → r3.2.1 63 q ≠ 0 → ∃ i, i < 508 ∧ held r i = q := by
    intro q hq hz
    rcases M3.2 q hq with ⟨y1, y2⟩ | ⟨y1, y2⟩
    · exact absurd y1 hz
    · unfold held
      rcases y2 with (z | ⟨k, k1, k2⟩) | ⟨s, _, s2, s3, s4⟩
      · exact z.elim
      · exact ⟨k, by omega, by rw [if_pos (by omega), k2, iN_nn (by omega)]⟩
      · have Ss : ∃ b, har h (x + 34) s = some b := by
          rcases R.2.2.2.2.1 s s2 with ⟨c1, _⟩ | ⟨c1, b, c2, _⟩
          · rw [c1] at s3
            exact absurd s3 (by decide)
          · exact ⟨b, c2⟩
        obtain ⟨b, hb⟩ := Ss
        obtain ⟨ny, w1, w2, w3, _⟩ := (R.ses s2 hb).2.2.2.2.2.1
        obtain ⟨nq, u1, u2, u3, _⟩ := (R.ses s2 hb).2.2.2.2.2.2.1
        rw [w3, u3, iN_nn (by omega), iN_nn (by omega)] at s4
        rcases s4 with z | ⟨k, k1, k2⟩ | ⟨k, k1, k2⟩
        · exact ⟨16 + s, by omega, by rw [if_neg (by omega), if_pos (by omega), show 16 + s - 16 = s by omega, z, iN_nn (by omega)]⟩
        · exact ⟨28 + (16 * s + k), by omega, by rw [if_neg (by omega), if_neg (by omega), if_pos (by omega), show 28 + (16 * s + k) - 28 = 16 * s + k by omega, k2, iN_nn (by omega)]⟩
        · exact ⟨220 + (24 * s + k), by omega, by rw [if_neg (by omega), if_neg (by omega), if_neg (by omega), show 220 + (24 * s + k) - 220 = 24 * s + k by omega, k2, iN_nn (by omega)]⟩
  obtain ⟨j0, j1, j2⟩ := free_slot r
  have z0 : r3.2.1 63 j0 = 0 := Classical.byContradiction (fun z => by
    obtain ⟨i, i1, i2⟩ := mh j0 (by omega) z
    exact j2 i i1 i2)
  obtain ⟨j, g1, g2, g3⟩ := first_or j0 (fun q => r3.2.1 63 q = 0)
  have zj : r3.2.1 63 j = 0 := by
    by_cases g : j < j0
    · exact g3 g
    · have : j = j0 := by omega
      rw [this]
      exact z0
  have lp : ∀ (c i f : Nat), i + c = j → c < f → R_message_L191 (fun l1 l2 l3 l4 l5 => R_message_J207 l1 l2 l3 l4 l5) f l1 l2 l3 l4 (nn i) r3 = R_message_J207 l1 l2 l3 l4 (nn j) r3 := by
    intro c
    induction c with
    | zero =>
      intro i f hi hf
      obtain ⟨f', rfl⟩ : ∃ z, f = z + 1 := ⟨f - 1, by omega⟩
      have : i = j := by omega
      subst this
      show R_message_B191 _ _ l1 l2 l3 l4 (nn i) r3 = _
      unfold R_message_B191
      rw [x_rA mL_63 (by omega) (by omega), zj, if_pos rfl]
    | succ c ih =>
      intro i f hi hf
      obtain ⟨f', rfl⟩ : ∃ z, f = z + 1 := ⟨f - 1, by omega⟩
      show R_message_B191 _ _ l1 l2 l3 l4 (nn i) r3 = _
      unfold R_message_B191
      rw [x_rA mL_63 (by omega) (by omega), if_neg (g2 i (by omega)), l_1, nn_add]
      exact ih (i + 1) f' (by omega) (by omega)
  refine ⟨j, r3, by omega, ?_, M3.1, ?_⟩
  · rw [a1, a2, a3']
    unfold R_message_J188
    exact lp j 0 fu (by omega) (by unfold fu; omega)
  · have nu : ¬ ((False ∨ ∃ k, k < n ∧ r.2.1 64 k = nn j) ∨ ∃ s, 0 ≤ s ∧ s < 12 ∧ UsS r s j) := by
      rcases M3.2 j (by omega) with ⟨y1, y2⟩ | ⟨y1, y2⟩
      · exact y2
      · rw [zj] at y1
        exact absurd y1 (by decide)
    refine ⟨fun k hk z => nu (Or.inl (Or.inr ⟨k, by rw [n2, iN_nn (by omega)] at hk; exact hk, z⟩)), fun s hs h11 => ⟨fun z => nu (Or.inr ⟨s, Nat.zero_le _, hs, h11, Or.inl z⟩), fun k hk z => nu (Or.inr ⟨s, Nat.zero_le _, hs, h11, Or.inr (Or.inl ⟨k, hk, z⟩)⟩), fun k hk z => nu (Or.inr ⟨s, Nat.zero_le _, hs, h11, Or.inr (Or.inr ⟨k, hk, z⟩)⟩)⟩⟩
end MRK
