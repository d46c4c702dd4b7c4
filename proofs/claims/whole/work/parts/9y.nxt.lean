/-! ===== the next event ===== -/
theorem lmin_n6 {a b : Nat} (ha : a < 9223372036854775808) (hb : b < 9223372036854775808) : lmin (n6 a) (n6 b) = n6 (min a b) := by
  unfold lmin
  by_cases g : n6 a < n6 b
  · have := (n6_lt ha hb).mp g
    first
      | rw [if_pos g, Nat.min_eq_left (by omega)]
      | rw [if_neg (by rw [n6_lt hb ha]; omega), Nat.min_eq_left (by omega)]
      | rw [if_pos (by rw [n6_le ha hb]; omega), Nat.min_eq_left (by omega)]
  · have : b ≤ a := by
      rw [n6_lt ha hb] at g
      omega
    by_cases g2 : a = b
    · subst g2
      rw [Nat.min_self]
      split <;> rfl
    · first
        | rw [if_neg g, Nat.min_eq_right this]
        | rw [if_pos (by rw [n6_lt hb ha]; omega), Nat.min_eq_right this]
theorem lmax_n6 {a b : Nat} (ha : a < 9223372036854775808) (hb : b < 9223372036854775808) : lmax (n6 a) (n6 b) = n6 (max a b) := by
  unfold lmax
  by_cases g2 : a = b
  · subst g2
    rw [Nat.max_self]
    split <;> rfl
  · by_cases g : a < b
    · first
        | rw [if_pos (by rw [n6_lt ha hb]; omega), Nat.max_eq_right (by omega)]
        | rw [if_neg (by rw [n6_lt hb ha]; omega), Nat.max_eq_right (by omega)]
    · first
        | rw [if_neg (by rw [n6_lt ha hb]; omega), Nat.max_eq_left (by omega)]
        | rw [if_pos (by rw [n6_lt hb ha]; omega), Nat.max_eq_left (by omega)]
def QuC (r : RS) (τ i : Nat) : Prop := ∀ s, s < 12 → r.2.1 7 i = nn s → r.2.1 19 s = 0 ∨ ∃ k l, r.2.1 19 s = nn k ∧ k ≤ 65535 ∧ 1 ≤ k ∧ r.2.1 8 i = nn l ∧ l ≤ τ ∧ 2 * (τ - l) ≤ 3 * k
def QuS (r : RS) (τ s : Nat) : Prop := r.2.1 11 s = 1 → r.2.1 15 s = -1 → (0 ≤ r.2.1 20 s → ∃ n, r.2.2 22 s = n6 n ∧ τ < n ∧ n ≤ bigT) ∧ (r.2.2 23 s = -1 ∨ ∃ n, r.2.2 23 s = n6 n ∧ τ < n ∧ n ≤ bigT)
def Quiet (r : RS) (τ : Nat) : Prop := (∀ i, i < 8 → QuC r τ i) ∧ ∀ s, s < 12 → QuS r τ s
section NXT
variable {x ec ew s b i t : Nat} {e0 : Int32} {h : Hp} {r : RS}
theorem qc_next (R : Rel x ec 12 ew e0 h r) (ht : r.1 66 = nn t) (ht2 : t ≤ 1073741823) : ∃ N, C_X11_nextEvent x h = some (n6 N, h) ∧ t + 1 ≤ N ∧ N ≤ bigT ∧ ∀ τ, t < τ → τ < N → Quiet r τ := by
  have T := R.st
  have hx := T.1
  suffices hh : wp (C_X11_nextEvent x) h (fun v h' => ∃ N, v = n6 N ∧ h' = h ∧ t + 1 ≤ N ∧ N ≤ bigT ∧ ∀ τ, t < τ → τ < N → Quiet r τ) by
    obtain ⟨v, h', e1, N, e2, e3, e4⟩ := hh
    exact ⟨N, by rw [e1, e2, e3], e4⟩
  unfold C_X11_nextEvent
  have k2 : ∀ (c s f m : Nat), s + c = 12 → c < f → m ≤ bigT → (∀ τ, t < τ → τ < m → (∀ i, i < 8 → QuC r τ i) ∧ ∀ s', s' < s → QuS r τ s') → wp (C_X11_nextEvent_L36 x (fun l1 => C_X11_nextEvent_J79 x l1) f (n6 m) (nn s)) h (fun v h' => ∃ N, v = n6 N ∧ h' = h ∧ t + 1 ≤ N ∧ N ≤ bigT ∧ ∀ τ, t < τ → τ < N → Quiet r τ) := by
    intro c
    induction c with
    | zero =>
      intro s f m hs hf hm hq
      obtain ⟨f', rfl⟩ : ∃ z, f = z + 1 := ⟨f - 1, by omega⟩
      have : s = 12 := by omega
      subst this
      show wp (C_X11_nextEvent_B36 x _ _ (n6 m) (nn 12)) h _
      unfold C_X11_nextEvent_B36 C_X11_nextEvent_J79
      have g9 : hfi h (100 * 13 + 9) x = nn t := R.2.1.2.1.trans ht
      rw [wp_pos (by decide)]
      dsimp only
      rw [wp_gI T.2.1.1, g9, wp_rt, l_1, nn_add, n6_nn (by omega), lmax_n6 (by unfold bigT at hm; omega) (by omega)]
      refine ⟨max m (t + 1), rfl, rfl, by omega, by unfold bigT at hm ⊢; omega, fun τ h1 h2 => ?_⟩
      have := hq τ h1 (by omega)
      exact ⟨this.1, fun s' hs' => this.2 s' hs'⟩
    | succ c ih =>
      intro s f m hs hf hm hq
      obtain ⟨f', rfl⟩ : ∃ z, f = z + 1 := ⟨f - 1, by omega⟩
      show wp (C_X11_nextEvent_B36 x _ _ (n6 m) (nn s)) h _
      unfold C_X11_nextEvent_B36
      have e1 : hfr h (100 * 13 + 1) x = some (x + 34) := T.2.1.2.2.1
      have hs12 : s < 12 := by omega
      rw [wp_neg (by rw [show (12 : Int32) = nn 12 from rfl, nn_le (by omega) (by omega)]; omega), wp_gR T.2.1.1, e1, wn_Ar T.2.2.1.2.2.1 (by rw [T.2.2.1.2.2.2.1]; exact hs12) (by omega)]
      rcases R.2.2.2.2.1 s hs12 with ⟨c1, c2⟩ | ⟨c1, b, c2, c3, c4⟩
      · rw [c2, wp_pos rfl, l_1, nn_add]
        refine ih (s + 1) f' m (by omega) (by omega) hm (fun τ h1 h2 => ⟨(hq τ h1 h2).1, fun s' hs' => ?_⟩)
        by_cases g : s' = s
        · subst g
          intro z
          rw [c1] at z
          exact absurd z (by decide)
        · exact (hq τ h1 h2).2 s' (by omega)
      · obtain ⟨nw, w1, w2, w3⟩ := qc_willTime R hs12 c2
        obtain ⟨ne, v1, v2, v3⟩ := qc_endTime R hs12 c2
        rw [c2, wp_neg (by simp), wp_Cv c3.1.1]
        refine wp.get w1 ?_
        rw [wp_Cv c3.1.1]
        refine wp.get v1 ?_
        unfold bigT at w2 v2 hm
        rw [wp_lq, lmin_n6 (by omega) (by omega), lmin_n6 (by omega) (by omega), l_1, nn_add]
        refine ih (s + 1) f' (min m (min nw ne)) (by omega) (by omega) (by unfold bigT; omega) (fun τ h1 h2 => ⟨(hq τ h1 (by omega)).1, fun s' hs' => ?_⟩)
        by_cases g : s' = s
        · subst g
          intro z1 z2
          refine ⟨fun z3 => ?_, ?_⟩
          · rcases w3 with ⟨y1, y2⟩ | ⟨y1, y2, y3⟩
            · rcases y2 with y2 | y2
              · exact absurd z2 y2
              · rw [y2] at z3; exact absurd z3 (by decide)
            · exact ⟨nw, y3, by omega, w2⟩
          · rcases v3 with ⟨y1, y2⟩ | ⟨y1, y2⟩
            · rcases y2 with y2 | y2
              · exact absurd z2 y2
              · exact Or.inl y2
            · exact Or.inr ⟨ne, y2, by omega, v2⟩
        · exact (hq τ h1 (by omega)).2 s' (by omega)
  have k1 : ∀ (c i f m : Nat), i + c = 8 → c < f → m ≤ bigT → (∀ τ, t < τ → τ < m → ∀ i', i' < i → QuC r τ i') → wp (C_X11_nextEvent_L6 x (fun l1 => C_X11_nextEvent_J34 x l1) f (n6 m) (nn i)) h (fun v h' => ∃ N, v = n6 N ∧ h' = h ∧ t + 1 ≤ N ∧ N ≤ bigT ∧ ∀ τ, t < τ → τ < N → Quiet r τ) := by
    intro c
    induction c with
    | zero =>
      intro i f m hi hf hm hq
      obtain ⟨f', rfl⟩ : ∃ z, f = z + 1 := ⟨f - 1, by omega⟩
      have : i = 8 := by omega
      subst this
      show wp (C_X11_nextEvent_B6 x _ _ (n6 m) (nn 8)) h _
      unfold C_X11_nextEvent_B6 C_X11_nextEvent_J34
      rw [wp_pos (by decide)]
      exact k2 12 0 fu m (by omega) (by unfold fu; omega) hm (fun τ h1 h2 => ⟨hq τ h1 h2, fun s' hs' => by omega⟩)
    | succ c ih =>
      intro i f m hi hf hm hq
      obtain ⟨f', rfl⟩ : ∃ z, f = z + 1 := ⟨f - 1, by omega⟩
      show wp (C_X11_nextEvent_B6 x _ _ (n6 m) (nn i)) h _
      unfold C_X11_nextEvent_B6
      have e0 : hfr h (100 * 13 + 0) x = some (x + 1) := T.2.1.2.1
      have hi8 : i < 8 := by omega
      obtain ⟨t1, t2, _⟩ := T.2.2.2.2.2.2 i hi8
      obtain ⟨q, q1, q2, q3⟩ := qc_quiet R hi8
      rw [wp_neg (by rw [show (8 : Int32) = nn 8 from rfl, nn_le (by omega) (by omega)]; omega), wp_gR T.2.1.1, e0, wn_Ar T.2.2.1.1 (by rw [T.2.2.1.2.1]; exact hi8) (by omega), t1, wp_Cv t2]
      refine wp.get q1 ?_
      unfold bigT at q2 hm
      rw [wp_lq, show (1 : Int64) = n6 1 from rfl, n6_add, lmin_n6 (by omega) (by omega), l_1, nn_add]
      refine ih (i + 1) f' (min m (q + 1)) (by omega) (by omega) (by unfold bigT; omega) (fun τ h1 h2 i' hi' => ?_)
      by_cases g : i' = i
      · subst g
        intro s hs h7
        rcases q3 with ⟨y1, _⟩ | ⟨s2, b2, y0, y1, y2, y3, y4, y5⟩
        · rw [y1] at h7
          exact absurd h7 (neg_nn (by omega))
        · have : s2 = s := nn_inj (by omega) (by omega) (y1.symm.trans h7)
          subst this
          rcases y5 with ⟨y5, _⟩ | ⟨k, l, z1, z2, z3, z4, z5, z6⟩
          · exact Or.inl y5
          · rw [ht, iN_nn (by omega)] at z5
            exact Or.inr ⟨k, l, z1, z3, z2, z4, by omega, by omega⟩
      · exact hq τ h1 (by omega) i' (by omega)
  exact k1 8 0 fu bigT (by omega) (by unfold fu; omega) (Nat.le_refl _) (fun τ h1 h2 i' hi' => by omega)
end NXT
