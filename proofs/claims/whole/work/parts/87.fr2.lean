/-! ===== what stays: places, kept messages, wills ===== -/
section FRU
variable {x i s b : Nat} {F S : List Nat} {A : Nat → Prop} {h h' : Hp} {r r' : RS} {es ew : Nat}
theorem SesA.at (c : SesA x h r ew es s) (hb : har h (x + 34) s = some b) : r.2.1 11 s = 1 ∧ Ses x h r ew s b ∧ (s ≠ es → SesZ h r s b) := by
  rcases c with ⟨c1, c2⟩ | ⟨c1, b', c2, c3, c4⟩
  · rw [c2] at hb; cases hb
  · rw [c2] at hb
    cases hb
    exact ⟨c1, c3, c4⟩
theorem SesA.lt (c : ∀ s, s < 12 → SesA x h r ew es s) (hs : s < 12) (hb : har h (x + 34) s = some b) : b + 4 < hnx h := ((c s hs).at hb).2.1.1.2.2.1
theorem UqD.fm (c : UqD x h r) (T : Stat x h) (C : ∀ s, s < 12 → SesA x h r ew es s) (p : Fm x F A h h') (w : Ro S r r') (hA : ¬ A (x + 34)) (hA2 : ∀ s b, s < 12 → har h (x + 34) s = some b → ¬ A (b + 2) ∧ ¬ A (b + 3)) (hS : ∀ k ∈ [31, 38], k ∉ S) : UqD x h' r' := by
  intro s s' b b' k k' d h1 h2 h3 h4 h5 h6 h7 h8 h9 h10
  have e34 := (p.2.2 (x + 34) (by have := T.1; omega) hA).2.1
  rw [e34] at h3 h4
  have l1 := SesA.lt C h1 h3
  have l2 := SesA.lt C h2 h4
  unfold act at h7 h8
  rw [w.gA (hS 31 (by decide)), w.gA (hS 38 (by decide))] at h7 h8
  unfold dl at h9 h10
  rw [(p.2.2 (b + 2) (by omega) (hA2 s b h1 h3).1).2.1, (p.2.2 (b + 3) (by omega) (hA2 s b h1 h3).2).2.1] at h9
  rw [(p.2.2 (b' + 2) (by omega) (hA2 s' b' h2 h4).1).2.1, (p.2.2 (b' + 3) (by omega) (hA2 s' b' h2 h4).2).2.1] at h10
  exact c s s' b b' k k' d h1 h2 h3 h4 h5 h6 h7 h8 h9 h10
theorem UqS.fm (c : UqS x h r) (T : Stat x h) (C : ∀ s, s < 12 → SesA x h r ew es s) (p : Fm x F A h h') (w : Ro S r r') (hA : ¬ A (x + 34)) (hA2 : ∀ s b, s < 12 → har h (x + 34) s = some b → ¬ A (b + 1)) (hS : 24 ∉ S) : UqS x h' r' := by
  intro s s' b b' k k' d h1 h2 h3 h4 h5 h6 h7 h8
  have e34 := (p.2.2 (x + 34) (by have := T.1; omega) hA).2.1
  rw [e34] at h3 h4
  have l1 := SesA.lt C h1 h3
  have l2 := SesA.lt C h2 h4
  rw [w.gA hS] at h5 h6
  rw [(p.2.2 (b + 1) (by omega) (hA2 s b h1 h3)).2.1] at h7
  rw [(p.2.2 (b' + 1) (by omega) (hA2 s' b' h2 h4)).2.1] at h8
  exact c s s' b b' k k' d h1 h2 h3 h4 h5 h6 h7 h8
theorem UqB.fm (c : UqB r) (w : Ro S r r') (hS : ∀ k ∈ [11, 12, 13, 14, 24, 31, 38, 43], k ∉ S) : UqB r' := by
  unfold UqB SId Zr
  rw [w.gA (hS 11 (by decide)), w.gA (hS 12 (by decide)), w.gA (hS 13 (by decide)), w.gA (hS 14 (by decide)), w.gA (hS 24 (by decide)), w.gA (hS 31 (by decide)), w.gA (hS 38 (by decide)), w.gA (hS 43 (by decide))]
  exact c
theorem UqB.fm1 {s : Nat} (c : UqB r) (w : Ro S r r') (h11 : r.2.1 11 s = 1) (hS : ∀ k ∈ [11, 12, 13, 14], k ∉ S) (ho : ∀ s', s' ≠ s → r'.2.1 24 s' = r.2.1 24 s' ∧ r'.2.1 31 s' = r.2.1 31 s' ∧ r'.2.1 38 s' = r.2.1 38 s' ∧ r'.2.1 43 s' = r.2.1 43 s') : UqB r' := by
  unfold UqB SId
  rw [w.gA (hS 11 (by decide)), w.gA (hS 12 (by decide)), w.gA (hS 13 (by decide)), w.gA (hS 14 (by decide))]
  refine ⟨c.1, fun s' h1 h2 => ?_⟩
  obtain ⟨z1, z2, z3, z4⟩ := c.2 s' h1 h2
  obtain ⟨y1, y2, y3, y4⟩ := ho s' (fun e => by
    rw [e, h11] at h2
    exact absurd h2 (by decide))
  exact ⟨y1.trans z1, y2.trans z2, y3.trans z3, y4.trans z4⟩
theorem kpt.fm (w : Ro S r r') (hS : ∀ k ∈ [50, 51, 64, 65, 66], k ∉ S) : kpt r' = kpt r := by
  have e : gon r' = gon r := by
    funext j
    unfold gon
    rw [w.gL (hS 50 (by decide)), w.gA (hS 51 (by decide)), w.gI (hS 66 (by decide))]
  unfold kpt
  rw [e, w.gI (hS 65 (by decide)), w.gA (hS 64 (by decide))]
theorem Kep.fm (c : Kep x h r) (T : Stat x h) (p : Fm x F A h h') (w : Ro S r r') (hF : ∀ f ∈ [508, 801], f ∉ F) (hA : ¬ A (x + 36)) (hS : ∀ k ∈ [45, 46, 47, 48, 49, 50, 51, 52, 53, 54, 55, 56, 57, 58, 59, 60, 61, 64, 65, 66], k ∉ S) : Kep x h' r' := by
  have hx := T.1
  have ek : kpt r' = kpt r := kpt.fm w (fun k hk => hS k (by
    simp only [List.mem_cons, List.not_mem_nil, or_false] at hk ⊢
    omega))
  unfold Kep
  rw [ek, p.gi (hF 801 (by decide)) (by omega), (p.2.2 (x + 36) (by omega) hA).2.1, w.gI (hS 65 (by decide)), w.gA (hS 64 (by decide)), w.gA (hS 51 (by decide)), w.gI (hS 66 (by decide))]
  refine ⟨c.1, c.2.1, fun k hk => ?_⟩
  obtain ⟨m, m1, m2⟩ := c.2.2 k hk
  refine ⟨m, m1, m2.to p w (hF 508 (by decide)) (fun k hk => hS k ?_)⟩
  simp only [List.mem_cons, List.not_mem_nil, or_false] at hk ⊢
  omega
theorem act.lt {k : Nat} (c : Ses x h r ew s b) (ha : act r s k) (hk : k < 40) {d : Nat} (hd : dl h b k = some d) : d < hnx h := by
  obtain ⟨n, y1, y2, y3, y4, y5⟩ := c.2.2.2.2.2.1
  obtain ⟨n', z1, z2, z3, z4⟩ := c.2.2.2.2.2.2.1
  unfold act at ha
  unfold dl at hd
  by_cases h16 : k < 16
  · rw [if_pos h16] at ha hd
    rw [y3, iN_nn (by omega)] at ha
    obtain ⟨d', d1, d2⟩ := y4 k ha
    rw [d1] at hd
    cases hd
    obtain ⟨_, _, _, _, _, _, d3, _⟩ := d2
    exact d3.2.2
  · rw [if_neg h16] at ha hd
    rw [z3, iN_nn (by omega)] at ha
    obtain ⟨d', d1, d2⟩ := z4 _ ha
    rw [d1] at hd
    cases hd
    obtain ⟨_, _, _, _, _, d3, _⟩ := d2
    exact d3.2.2
theorem UqW.fm (c : UqW x h r) (T : Stat x h) (C : ∀ s, s < 12 → SesA x h r ew es s) (p : Fm x F A h h') (w : Ro S r r') (hF : ∀ f ∈ [300, 801, 1011], f ∉ F) (hA : ¬ A (x + 34) ∧ ¬ A (x + 36)) (hA2 : ∀ s b, s < 12 → har h (x + 34) s = some b → ¬ A (b + 2) ∧ ¬ A (b + 3)) (hS : ∀ k ∈ [11, 20, 31, 33, 38, 39, 64, 65], k ∉ S) : UqW x h' r' := by
  intro s b m j h1 h2 h3 h4
  have hx := T.1
  have e34 := (p.2.2 (x + 34) (by omega) hA.1).2.1
  have e36 := (p.2.2 (x + 36) (by omega) hA.2).2.1
  rw [e34] at h2
  have l1 := SesA.lt C h1 h2
  rw [p.gr (hF 1011 (by decide)) (by omega)] at h3
  rw [w.gA (hS 20 (by decide))] at h4
  obtain ⟨q1, q2, q3, q4, q5, q6⟩ := c s b m j h1 h2 h3 h4
  rw [e34, e36, p.gi (hF 801 (by decide)) (by omega), w.gA (hS 11 (by decide)), w.gA (hS 20 (by decide)), w.gA (hS 31 (by decide)), w.gA (hS 33 (by decide)), w.gA (hS 38 (by decide)), w.gA (hS 39 (by decide)), w.gA (hS 64 (by decide)), w.gI (hS 65 (by decide))]
  refine ⟨fun s' b' g1 g2 g3 => ?_, fun s' b' k d g1 g2 g3 g4 g5 => ?_, q3, q4, q5, q6⟩
  · have l2 := SesA.lt C g1 g3
    rw [p.gr (hF 1011 (by decide)) (by omega)]
    exact q1 s' b' g1 g2 g3
  · have l2 := SesA.lt C g1 g2
    unfold act at g4
    rw [w.gA (hS 31 (by decide)), w.gA (hS 38 (by decide))] at g4
    unfold dl at g5
    rw [(p.2.2 (b' + 2) (by omega) (hA2 s' b' g1 g2).1).2.1, (p.2.2 (b' + 3) (by omega) (hA2 s' b' g1 g2).2).2.1] at g5
    have ld := act.lt ((C s' g1).at g2).2.1 g4 g3 g5
    rw [p.gr (hF 300 (by decide)) ld]
    exact q2 s' b' k d g1 g2 g3 g4 g5
end FRU
/-! ===== a packet is sent, by both ===== -/
def outA (x i : Nat) : Nat → Prop := fun a => a = cA x i + 1
theorem Rel.out {x ec es ew i : Nat} {e0 : Int32} {h h' : Hp} {r r' : RS} (R : Rel x ec es ew e0 h r) (hi : i < 8) (P : Po x i h h') (w : Ro [2, 3, 4, 68] r r') (hO : CoO x h' r' i) (h2 : hfi h' 205 (cA x i) = r'.2.1 2 i ∧ (r'.2.1 2 i = 0 ∨ r'.2.1 2 i = 1)) (ho : r.2.1 1 i = 1) (h2o : ∀ j, j ≠ i → r'.2.1 2 j = r.2.1 2 j) (h3o : ∀ j, j ≠ i → r'.2.1 3 j = r.2.1 3 j) (h4o : ∀ p, p < 2000 * i ∨ 2000 * i + 2000 ≤ p → r'.2.1 4 p = r.2.1 4 p) (hs : (r'.1 68 = r.1 68 ∧ hfi h' 206 (cA x i) = hfi h 206 (cA x i)) ∨ (r'.1 68 = r.1 68 + 1 ∧ hfi h' 206 (cA x i) = hfi h 206 (cA x i) + 1)) : Rel x ec es ew e0 h' r' := by
  obtain ⟨T, G, sm, C, SS, U1, U2, U3, K, U4, f, bs, W⟩ := R
  have hx := T.1
  have p := P.fm hi
  obtain ⟨x1, x2, x3, x4, x5, x6, x7, x8, x9, x10⟩ := P
  have cne : ∀ j, j ≠ i → cA x j ≠ cA x i := fun j hj => by show x + 2 + 4 * j ≠ x + 2 + 4 * i; omega
  refine ⟨T.sto p.1, ?_, ?_, fun j hj => ?_, fun s hs' => ?_, U1.fm T SS p w (by show ¬ _ = x + 2 + 4 * i + 1; omega) (fun s b h1 h2 => ?_) (by decide), U2.fm T SS p w (by show ¬ _ = x + 2 + 4 * i + 1; omega) (fun s b h1 h2 => ?_) (by decide), U3.fm w (by decide), K.fm T p w (by decide) (by show ¬ _ = x + 2 + 4 * i + 1; omega) (by decide), U4.fm T SS p w (by decide) ⟨by show ¬ _ = x + 2 + 4 * i + 1; omega, by show ¬ _ = x + 2 + 4 * i + 1; omega⟩ (fun s b h1 h2 => ?_) (by decide), f, bs, ?_⟩
  · unfold Glo
    rw [p.gi (f := 1309) (by decide) (by omega), p.gi (f := 1310) (by decide) (by omega), p.gi (f := 1311) (by decide) (by omega), p.gi (f := 1312) (by decide) (by omega), p.gi (f := 1313) (by decide) (by omega), p.gi (f := 1314) (by decide) (by omega), p.gi (f := 1315) (by decide) (by omega), w.gI (k := 66) (by decide), w.gI (k := 67) (by decide), w.gI (k := 69) (by decide), w.gI (k := 70) (by decide), w.gI (k := 71) (by decide), w.gI (k := 72) (by decide), w.gI (k := 74) (by decide)]
    exact G
  · have e : ∀ j, j ≠ i → hfi h' 206 (cA x j) = hfi h 206 (cA x j) := fun j hj => x9 206 (cA x j) (fun z => cne j hj z.1)
    rcases hs with ⟨z1, z2⟩ | ⟨z1, z2⟩
    · have e2 : ∀ j, hfi h' 206 (cA x j) = hfi h 206 (cA x j) := fun j => by
        by_cases g : j = i
        · rw [g]; exact z2
        · exact e j g
      unfold sSum
      rw [z1, sm, e2, e2, e2, e2, e2, e2, e2, e2]
      rfl
    · rw [z1, sm]
      unfold sSum
      have hc : i = 0 ∨ i = 1 ∨ i = 2 ∨ i = 3 ∨ i = 4 ∨ i = 5 ∨ i = 6 ∨ i = 7 := by omega
      rcases hc with rfl | rfl | rfl | rfl | rfl | rfl | rfl | rfl
      · rw [z2, e 1 (by omega), e 2 (by omega), e 3 (by omega), e 4 (by omega), e 5 (by omega), e 6 (by omega), e 7 (by omega)]; ac_rfl
      · rw [z2, e 0 (by omega), e 2 (by omega), e 3 (by omega), e 4 (by omega), e 5 (by omega), e 6 (by omega), e 7 (by omega)]; ac_rfl
      · rw [z2, e 0 (by omega), e 1 (by omega), e 3 (by omega), e 4 (by omega), e 5 (by omega), e 6 (by omega), e 7 (by omega)]; ac_rfl
      · rw [z2, e 0 (by omega), e 1 (by omega), e 2 (by omega), e 4 (by omega), e 5 (by omega), e 6 (by omega), e 7 (by omega)]; ac_rfl
      · rw [z2, e 0 (by omega), e 1 (by omega), e 2 (by omega), e 3 (by omega), e 5 (by omega), e 6 (by omega), e 7 (by omega)]; ac_rfl
      · rw [z2, e 0 (by omega), e 1 (by omega), e 2 (by omega), e 3 (by omega), e 4 (by omega), e 6 (by omega), e 7 (by omega)]; ac_rfl
      · rw [z2, e 0 (by omega), e 1 (by omega), e 2 (by omega), e 3 (by omega), e 4 (by omega), e 5 (by omega), e 7 (by omega)]; ac_rfl
      · rw [z2, e 0 (by omega), e 1 (by omega), e 2 (by omega), e 3 (by omega), e 4 (by omega), e 5 (by omega), e 6 (by omega)]; ac_rfl
  · obtain ⟨c1, c2, c3, c4⟩ := C j hj
    refine ⟨?_, ?_, c3.fm T hj p w (by show ¬ x + 2 + 4 * j + 3 = x + 2 + 4 * i + 1; omega) (by decide), fun hec => (c4 hec).fm T hj p w (by decide) (by show ¬ x + 2 + 4 * j + 2 = x + 2 + 4 * i + 1; omega) (by decide)⟩
    · have hcl := T.cl hj
      unfold CoA
      rw [p.gi (f := 201) (by decide) (by omega), p.gi (f := 212) (by decide) (by omega), p.gr (f := 202) (by decide) (by omega), w.gA (k := 1) (by decide), w.gA (k := 7) (by decide), w.gA (k := 8) (by decide), w.gA (k := 11) (by decide), w.gA (k := 15) (by decide), w.gI (k := 66) (by decide), x7]
      by_cases g : j = i
      · subst g
        exact ⟨c1.1, ⟨h2.1, h2.2, fun _ => ho⟩, c1.2.2⟩
      · rw [x9 205 (cA x j) (fun z => cne j g z.1), h2o j g]
        exact c1
    · by_cases g : j = i
      · rw [g]; exact hO
      · obtain ⟨os, o1, o2⟩ := c2
        refine ⟨os, ?_, ?_⟩
        · unfold OutC
          rw [x9 204 (cA x j) (fun z => cne j g z.1), x10 (cA x j + 1) (by show x + 2 + 4 * j + 1 ≠ x + 2 + 4 * i + 1; omega)]
          exact o1
        · obtain ⟨q1, q2, q3, q4⟩ := o2
          refine ⟨by rw [h3o j g]; exact q1, q2, q3.of (fun k hk => h4o _ (by omega)), q4⟩
  · rcases SS s hs' with c | ⟨c1, b, c2, c3, c4⟩
    · exact Or.inl (by rw [w.gA (k := 11) (by decide), x7]; exact c)
    · have hb := c3.1.2.2.1
      have hb2 := c3.1.2.1
      refine Or.inr ⟨by rw [w.gA (k := 11) (by decide)]; exact c1, b, by rw [x7]; exact c2, ⟨c3.1.sto p.1, c3.2.1.fm (by omega) p.1 w (by decide), c3.2.2.1.fm (by omega) p w (by decide) (by decide), c3.2.2.2.1.fm (by omega) p w (by decide) (by decide), c3.2.2.2.2.1.fm hb p w (by decide) (by show ¬ b + 1 = x + 2 + 4 * i + 1; omega) (by decide), c3.2.2.2.2.2.1.fm hb p w (by decide) (by show ¬ b + 2 = x + 2 + 4 * i + 1; omega) (by decide), c3.2.2.2.2.2.2.1.fm hb p w (by decide) (by show ¬ b + 3 = x + 2 + 4 * i + 1; omega) (by decide), c3.2.2.2.2.2.2.2.1.fm hb p w (by decide) (by show ¬ b + 4 = x + 2 + 4 * i + 1; omega) (by decide), c3.2.2.2.2.2.2.2.2.fm w (by decide)⟩, fun g => (c4 g).fm (by omega) p w (by decide) (by decide)⟩
  · have := ((SS s h1).at h2).2.1.1.2.1
    exact ⟨by show ¬ b + 2 = x + 2 + 4 * i + 1; omega, by show ¬ b + 3 = x + 2 + 4 * i + 1; omega⟩
  · have := ((SS s h1).at h2).2.1.1.2.1
    show ¬ b + 1 = x + 2 + 4 * i + 1; omega
  · have := ((SS s h1).at h2).2.1.1.2.1
    exact ⟨by show ¬ b + 2 = x + 2 + 4 * i + 1; omega, by show ¬ b + 3 = x + 2 + 4 * i + 1; omega⟩
  · obtain ⟨⟨a1, a2, a3, a4⟩, a5, a6, a7, a8, a9⟩ := W
    refine ⟨⟨by rw [x2]; exact a1, by rw [x5]; exact a2, by rw [x2]; exact a3, by rw [x3]; exact a4⟩, ?_, ?_, ?_, a8, a9⟩
    · rw [p.gi (f := 1200) (by decide) (by omega)]; exact a5
    · rw [p.gi (f := 1202) (by decide) (by omega)]; exact a6
    · rw [x10 (x + 46 + 1) (by show x + 46 + 1 ≠ x + 2 + 4 * i + 1; omega)]; exact a7
