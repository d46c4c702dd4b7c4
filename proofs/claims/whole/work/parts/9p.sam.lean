/-! ===== a session that stays, with no more than it had ===== -/
section SAM
variable {x ec es ew ec' es' s i b : Nat} {e0 e0' : Int32} {h h' : Hp} {r r' : RS}
theorem Rel.same (R : Rel x ec es ew e0 h r) (p : Hx x b i h h') (w : Ho s i r r') (hs : s < 12) (hb : har h (x + 34) s = some b) (e34 : har h' (x + 34) = har h (x + 34))
    (hG : Glo x h' r' e0') (hsum : r'.1 68 = sSum x h') (h73 : r'.1 73 = r.1 73)
    (hec : ∀ i', i' < 8 → i' ≠ i → i' ≠ ec' → i' ≠ ec) (hes : ∀ s', s' < 12 → s' ≠ s → s' ≠ es' → s' ≠ es)
    (h7 : i < 8 → ∀ s', s' < 12 → s' ≠ s → r.2.1 7 i = nn s' → r'.2.1 7 i = nn s')
    (h11 : r'.2.1 11 s = r.2.1 11 s) (h12 : r'.2.1 12 s = r.2.1 12 s) (h15 : ∀ i', i' < 8 → i' ≠ i → r.2.1 7 i' = nn s → r'.2.1 15 s = r.2.1 15 s)
    (hD : ∀ d, d < hnx h → (∃ k, k < 40 ∧ act r s k ∧ dl h b k = some d) ∨ (hfr h' 300 d = hfr h 300 d ∧ ∀ f ∈ [301, 302, 303, 304, 305], hfi h' f d = hfi h f d))
    (hU : ∀ u, u < hnx h → (∃ k, k < iN (r.2.1 24 s) ∧ har h (b + 1) k = some u) ∨ ∀ f ∈ [1102, 1103, 1104, 1105], hfi h' f u = hfi h f u)
    (cI : i < 8 → CoA x h' r' i ∧ CoO x h' r' i ∧ CoL x h' r' i ∧ (i ≠ ec' → CoI x h' r' i))
    (cS : Ses x h' r' ew s b) (cZ : s ≠ es' → SesZ h' r' s b)
    (hdS : ∀ k d, k < 40 → act r' s k → dl h' b k = some d → (∃ k0, k0 < 40 ∧ act r s k0 ∧ dl h b k0 = some d) ∧ hfr h' 300 d = hfr h 300 d)
    (hdI : ∀ k k' d, k < 40 → k' < 40 → act r' s k → act r' s k' → dl h' b k = some d → dl h' b k' = some d → k = k')
    (huS : ∀ k u, k < iN (r'.2.1 24 s) → har h' (b + 1) k = some u → hnx h ≤ u ∨ ∃ k0, k0 < iN (r.2.1 24 s) ∧ har h (b + 1) k0 = some u)
    (huI : ∀ k k' u, k < iN (r'.2.1 24 s) → k' < iN (r'.2.1 24 s) → har h' (b + 1) k = some u → har h' (b + 1) k' = some u → k = k')
    (hw1 : hfr h' 1011 b = hfr h 1011 b) (hw2 : r'.2.1 20 s = r.2.1 20 s)
    (hy : ∀ k, k < iN (r'.2.1 31 s) → (∃ k0, k0 < iN (r.2.1 31 s) ∧ r'.2.1 33 (16 * s + k) = r.2.1 33 (16 * s + k0)) ∨ ∃ k0, k0 < iN (r.2.1 38 s) ∧ r'.2.1 33 (16 * s + k) = r.2.1 39 (24 * s + k0))
    (hq : ∀ k, k < iN (r'.2.1 38 s) → (∃ k0, k0 < iN (r.2.1 31 s) ∧ r'.2.1 39 (24 * s + k) = r.2.1 33 (16 * s + k0)) ∨ ∃ k0, k0 < iN (r.2.1 38 s) ∧ r'.2.1 39 (24 * s + k) = r.2.1 39 (24 * s + k0)) :
    Rel x ec' es' ew e0' h' r' := by
  have R0 := R
  obtain ⟨T, G, sm, C, SS, U1, U2, U3, K, U4, f0, bs0, W⟩ := R0
  have c11 := ((SS s hs).at hb).1
  refine R.one p w (Or.inr ⟨hs, hb⟩) (fun s' _ => by rw [e34]) hG hsum (Or.inl h73) hec hes h7 (fun i' h1 h2 h3 _ => ⟨h11, h15 i' h1 h2 h3, by rw [e34]⟩) ?_ ?_ cI (fun _ => Or.inr ⟨h11.trans c11, b, by rw [e34]; exact hb, cS, cZ⟩) ?_ ?_ ?_ ?_ ?_ ?_ ?_ (fun _ z => absurd (z.symm.trans (h11.trans c11)) (by decide))
  · intro s' b' k d h1 h2 h3 h4 h5 h6
    have ld := act.lt ((SS s' h1).at h3).2.1 h5 h4 h6
    rcases hD d ld with ⟨k0, z1, z2, z3⟩ | z
    · exact absurd (U1 s' s b' b k k0 d h1 hs h3 hb h4 z1 h5 z2 h6 z3).1 h2
    · exact z
  · intro s' b' k u h1 h2 h3 h4 h5
    obtain ⟨n, c1, c2, c3, c4, _⟩ := ((SS s' h1).at h3).2.1.2.2.2.2.1
    have hk : k < n := by rw [c3, iN_nn (by omega)] at h4; exact h4
    obtain ⟨u', u1, bs, st, o, id, d1, _⟩ := c4 k hk
    rw [h5] at u1
    cases u1
    rcases hU u d1.1.2.2 with ⟨k0, z1, z2⟩ | z
    · exact absurd (U2 s' s b' b k k0 u h1 hs h3 hb h4 z1 h5 z2).1 h2
    · exact z
  · intro b1 k k' d _ h1 h2 h3 h4 h5 h6 h7'
    rw [e34, hb] at h1
    cases h1
    exact hdI k k' d h2 h3 h4 h5 h6 h7'
  · intro b1 k d _ h1 h2 h3 h4 s' b' k' g1 g2 g3 g4 g5 g6
    rw [e34, hb] at h1
    cases h1
    obtain ⟨⟨k0, z1, z2, z3⟩, _⟩ := hdS k d h2 h3 h4
    exact g2 (U1 s' s b' b k' k0 d g1 hs g3 hb g4 z1 g5 z2 g6 z3).1
  · intro b1 k k' u _ h1 h2 h3 h4 h5
    rw [e34, hb] at h1
    cases h1
    exact huI k k' u h2 h3 h4 h5
  · intro b1 k u _ h1 h2 h3 s' b' k' g1 g2 g3 g4 g5
    rw [e34, hb] at h1
    cases h1
    rcases huS k u h2 h3 with z | ⟨k0, z1, z2⟩
    · obtain ⟨n, c1, c2, c3, c4, _⟩ := ((SS s' g1).at g3).2.1.2.2.2.2.1
      have hk : k' < n := by rw [c3, iN_nn (by omega)] at g4; exact g4
      obtain ⟨u', u1, bs, st, o, id, d1, _⟩ := c4 k' hk
      rw [g5] at u1
      cases u1
      have := d1.1.2.2
      omega
    · exact g2 (U2 s' s b' b k' k0 u g1 hs g3 hb g4 z1 g5 z2).1
  · intro _ h1 s' h2 h3 h4 h5
    obtain ⟨_, S0, _⟩ := (SS s hs).at hb
    obtain ⟨y1, y2⟩ := S0.2.1.eq cS.2.1 (by have := S0.1.2.2.1; omega) p.1
    rw [h12] at h5
    refine h3 (U3.1 s' s h2 hs h4 c11 ?_)
    rcases h5 with z | ⟨z1, z2⟩
    · exact Or.inl z
    · rw [y1] at z1
      refine Or.inr ⟨z1, fun k k1 k2 => ?_⟩
      rw [z2 k k1 k2, y2 k k1 (by rw [← z1]; exact k2)]
  · intro s' b' m j h1 h2 h3 h4 h5 _
    obtain ⟨q1, q2, q3, q4, q5, q6⟩ := U4 s' b' m j h1 h3 h4 h5
    refine ⟨fun b1 g => ?_, fun _ => ⟨fun k hk => ?_, fun k hk => ?_⟩⟩
    · rw [e34, hb] at g
      cases g
      refine ⟨by rw [hw1, hw2]; exact q1 s b hs (fun e => h2 e.symm) hb, fun k d g1 g2 g3 => ?_⟩
      obtain ⟨⟨k0, z1, z2, z3⟩, z4⟩ := hdS k d g1 g2 g3
      rw [z4]
      exact q2 s b k0 d hs hb z1 z2 z3
    · rcases hy k hk with ⟨k0, z1, z2⟩ | ⟨k0, z1, z2⟩
      · rw [z2]; exact q3 s k0 hs c11 z1
      · rw [z2]; exact q4 s k0 hs c11 z1
    · rcases hq k hk with ⟨k0, z1, z2⟩ | ⟨k0, z1, z2⟩
      · rw [z2]; exact q3 s k0 hs c11 z1
      · rw [z2]; exact q4 s k0 hs c11 z1
  · intro _ b1 m j h1 h2 h3
    rw [e34, hb] at h1
    cases h1
    rw [hw1] at h2
    rw [hw2] at h3
    obtain ⟨q1, q2, q3, q4, q5, q6⟩ := U4 s b m j hs hb h2 h3
    refine ⟨fun s' b' g1 g2 g3 => q1 s' b' g1 g2 g3, fun s' b' k d g1 g2 g3 g4 g5 g6 => q2 s' b' k d g1 g3 g4 g5 g6, fun s' k g1 g2 g3 g4 => q3 s' k g1 g3 g4, fun s' k g1 g2 g3 g4 => q4 s' k g1 g3 g4, q5, q6, fun k d g1 g2 g3 => ?_, fun _ => ⟨fun k hk => ?_, fun k hk => ?_⟩⟩
    · obtain ⟨⟨k0, z1, z2, z3⟩, z4⟩ := hdS k d g1 g2 g3
      rw [z4]
      exact q2 s b k0 d hs hb z1 z2 z3
    · rcases hy k hk with ⟨k0, z1, z2⟩ | ⟨k0, z1, z2⟩
      · rw [z2]; exact q3 s k0 hs c11 z1
      · rw [z2]; exact q4 s k0 hs c11 z1
    · rcases hq k hk with ⟨k0, z1, z2⟩ | ⟨k0, z1, z2⟩
      · rw [z2]; exact q3 s k0 hs c11 z1
      · rw [z2]; exact q4 s k0 hs c11 z1
/-- only a connection changes -/
theorem Rel.cnn (R : Rel x ec es ew e0 h r) (p : Hx x (hnx h) i h h') (w : Ho 12 i r r') (e34 : har h' (x + 34) = har h (x + 34))
    (hG : Glo x h' r' e0') (hsum : r'.1 68 = sSum x h') (h73 : r'.1 73 = r.1 73)
    (hec : ∀ i', i' < 8 → i' ≠ i → i' ≠ ec' → i' ≠ ec)
    (h7 : i < 8 → ∀ s', s' < 12 → r.2.1 7 i = nn s' → r'.2.1 7 i = nn s')
    (hD : ∀ d, d < hnx h → hfr h' 300 d = hfr h 300 d ∧ ∀ f ∈ [301, 302, 303, 304, 305], hfi h' f d = hfi h f d)
    (hU : ∀ u, u < hnx h → ∀ f ∈ [1102, 1103, 1104, 1105], hfi h' f u = hfi h f u)
    (cI : i < 8 → CoA x h' r' i ∧ CoO x h' r' i ∧ CoL x h' r' i ∧ (i ≠ ec' → CoI x h' r' i)) :
    Rel x ec' es ew e0' h' r' := by
  have SS := R.2.2.2.2.1
  refine R.one p w (Or.inl (Nat.le_refl _)) (fun s' _ => by rw [e34]) hG hsum (Or.inl h73) hec (fun s' _ _ z => z) (fun hi s' h1 _ => h7 hi s' h1) (fun _ _ _ _ z => by omega) ?_ ?_ cI (fun z => by omega) (fun _ _ _ _ z => by omega) (fun _ _ _ z => by omega) (fun _ _ _ _ z => by omega) (fun _ _ _ z => by omega) (fun z => by omega) (fun _ _ _ _ _ _ _ _ _ z => by omega) (fun z => by omega) (fun z => by omega)
  · intro s' b' k d h1 h2 h3 h4 h5 h6
    exact hD d (act.lt ((SS s' h1).at h3).2.1 h5 h4 h6)
  · intro s' b' k u h1 h2 h3 h4 h5
    obtain ⟨n, c1, c2, c3, c4, _⟩ := ((SS s' h1).at h3).2.1.2.2.2.2.1
    have hk : k < n := by rw [c3, iN_nn (by omega)] at h4; exact h4
    obtain ⟨u', u1, bs, st, o, id, d1, _⟩ := c4 k hk
    rw [h5] at u1
    cases u1
    exact hU u d1.1.2.2
end SAM
