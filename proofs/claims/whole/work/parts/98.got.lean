/-! ===== a subscription gets a message ===== -/
theorem sfi_self {h : Hp} {f a : Nat} : sfi h f a (hfi h f a) = h := by
  unfold sfi
  have e : u2 h.2.2.2.1 f a (hfi h f a) = h.2.2.2.1 := by
    funext y z
    show (if y = f ∧ z = a then hfi h f a else _) = _
    by_cases e : y = f ∧ z = a
    · rw [if_pos e, e.1, e.2]; rfl
    · rw [if_neg e]
  rw [e]
section GOT
variable {x ec es ew s b k u : Nat} {e0 : Int32} {h : Hp} {r : RS}
/-- changes of subscriptions alone -/
theorem Rel.subs {ew' : Nat} {h' : Hp} {r' : RS} (R : Rel x ec es ew e0 h r) (p : Fm x [1102, 1103, 1104, 1105] (fun _ => False) h h') (w : Ro [27, 28, 29, 30] r r') (hU : ∀ s b, s < 12 → har h (x + 34) s = some b → SesU x h' r' ew' s b) (hR : hkd h' = hkd h ∧ hai h' = hai h) : Rel x ec es ew' e0 h' r' := by
  obtain ⟨T, G, sm, C, SS, U1, U2, U3, K, U4, f0, bs0, W⟩ := R
  have hx := T.1
  have e34 : har h' (x + 34) = har h (x + 34) := (p.2.2 (x + 34) (by omega) (fun z => z)).2.1
  refine ⟨T.sto p.1, ?_, ?_, fun i hi => ?_, fun s' hs' => ?_, U1.fm T SS p w (fun z => z) (fun _ _ _ _ => ⟨fun z => z, fun z => z⟩) (by decide), U2.fm T SS p w (fun z => z) (fun _ _ _ _ z => z) (by decide), U3.fm w (by decide), K.fm T p w (by decide) (fun z => z) (by decide), U4.fm T SS p w (by decide) ⟨fun z => z, fun z => z⟩ (fun _ _ _ _ => ⟨fun z => z, fun z => z⟩) (by decide), f0, bs0, ?_⟩
  · unfold Glo
    rw [p.gi (f := 1309) (by decide) (by omega), p.gi (f := 1310) (by decide) (by omega), p.gi (f := 1311) (by decide) (by omega), p.gi (f := 1312) (by decide) (by omega), p.gi (f := 1313) (by decide) (by omega), p.gi (f := 1314) (by decide) (by omega), p.gi (f := 1315) (by decide) (by omega), w.gI (k := 66) (by decide), w.gI (k := 67) (by decide), w.gI (k := 69) (by decide), w.gI (k := 70) (by decide), w.gI (k := 71) (by decide), w.gI (k := 72) (by decide), w.gI (k := 74) (by decide)]
    exact G
  · have e2 : ∀ j', j' < 8 → hfi h' 206 (cA x j') = hfi h 206 (cA x j') := fun j' hj => p.gi (by decide) (by have := T.cl hj; omega)
    unfold sSum
    rw [w.gI (k := 68) (by decide), sm, e2 0 (by omega), e2 1 (by omega), e2 2 (by omega), e2 3 (by omega), e2 4 (by omega), e2 5 (by omega), e2 6 (by omega), e2 7 (by omega)]
    rfl
  · obtain ⟨c1, c2, c3, c4⟩ := C i hi
    exact ⟨c1.fm T hi p w (by decide) (fun z => z) (by decide), c2.fm T hi p w (by decide) (fun z => z) (by decide), c3.fm T hi p w (fun z => z) (by decide), fun hec => (c4 hec).fm T hi p w (by decide) (fun z => z) (by decide)⟩
  · rcases SS s' hs' with c | ⟨c1, b', c2, c3, c4⟩
    · exact Or.inl (by rw [w.gA (k := 11) (by decide), e34]; exact c)
    · have hb' := c3.1.2.2.1
      refine Or.inr ⟨by rw [w.gA (k := 11) (by decide)]; exact c1, b', by rw [e34]; exact c2, ⟨c3.1.sto p.1, c3.2.1.fm (by omega) p.1 w (by decide), c3.2.2.1.fm (by omega) p w (by decide) (by decide), c3.2.2.2.1.fm (by omega) p w (by decide) (by decide), hU s' b' hs' c2, c3.2.2.2.2.2.1.fm hb' p w (by decide) (fun z => z) (by decide), c3.2.2.2.2.2.2.1.fm hb' p w (by decide) (fun z => z) (by decide), c3.2.2.2.2.2.2.2.1.fm hb' p w (by decide) (fun z => z) (by decide), c3.2.2.2.2.2.2.2.2.fm w (by decide)⟩, fun g => (c4 g).fm (by omega) p w (by decide) (by decide)⟩
  · obtain ⟨⟨a1, a2, a3, a4⟩, a5, a6, a7, a8, a9⟩ := W
    refine ⟨⟨by rw [hR.1]; exact a1, ?_, by rw [hR.1]; exact a3, ?_⟩, ?_, ?_, by rw [hR.2]; exact a7, a8, a9⟩
    · rw [p.gr (by decide) (by omega)]; exact a2
    · rw [(p.1.2.1 _ (by omega)).2]; exact a4
    · rw [p.gi (f := 1200) (by decide) (by omega)]; exact a5
    · rw [p.gi (f := 1202) (by decide) (by omega)]; exact a6
theorem SesU.get (U : SesU x h r ew s b) {n : Nat} (hn : r.2.1 24 s = nn n) (hn2 : n ≤ 8) (hk : k < n) : ∃ u, har h (b + 1) k = some u ∧ Sub x h r ew (8 * s + k) u := by
  obtain ⟨n', c1, c2, c3, c4, c5⟩ := U
  have e : n' = n := nn_inj (by omega) (by omega) (c3.symm.trans hn)
  subst e
  exact c4 k hk
theorem Rel.got {n : Nat} {v : Int32} (R : Rel x ec es 96 e0 h r) (hs : s < 12) (hb : har h (x + 34) s = some b) (hn : r.2.1 24 s = nn n) (hn2 : n ≤ 8) (hk : k < n) (hu : har h (b + 1) k = some u) : Rel x ec es (8 * s + k) e0 (sfi (sfi h 1104 u (hfi h 1104 u + 1)) 1105 u v) (sA r 29 (8 * s + k) (r.2.1 29 (8 * s + k) + 1)) := by
  have p : Fm x [1102, 1103, 1104, 1105] (fun _ => False) h (sfi (sfi h 1104 u (hfi h 1104 u + 1)) 1105 u v) := by
    refine Fm.fi (Fm.fi Fm.rf ?_ ?_) ?_ ?_
    · exact Or.inl (by decide)
    · exact Or.inl (by decide)
    · exact Or.inl (by decide)
    · exact Or.inl (by decide)
  have w : Ro [27, 28, 29, 30] r (sA r 29 (8 * s + k) (r.2.1 29 (8 * s + k) + 1)) := Ro.rf.a (by decide)
  have SS := R.2.2.2.2.1
  have U2 := R.2.2.2.2.2.2.1
  refine R.subs p w (fun s' b' hs' hb' => ?_) ⟨rfl, rfl⟩
  obtain ⟨n', c1, c2, c3, c4, c5⟩ := ((SS s' hs').at hb').2.1.2.2.2.2.1
  refine ⟨n', c1, by rw [p.gi (by decide) (by have := SesA.lt SS hs' hb'; omega)]; exact c2, c3, fun k' hk' => ?_, fun k1 k2 u1 u2 bs st st' h1 h2 h3 h4 h5 h6 => ?_⟩
  · obtain ⟨u', u1, bs, st, o, id, d1, d2, d3, d4, d5, d6⟩ := c4 k' hk'
    have d1' := d1.sto p.1
    by_cases g : s' = s ∧ k' = k
    · obtain ⟨rfl, rfl⟩ := g
      rw [hb] at hb'
      cases hb'
      rw [hu] at u1
      cases u1
      refine ⟨u, hu, bs, st, o, id, d1', ?_, ?_, ?_, ?_, fun _ hne => absurd rfl hne⟩
      · rw [sA_o (by decide), sA_o (by decide)]; exact d2
      · rw [hfi_sfi, if_neg (by omega), hfi_sfi, if_neg (by omega), sA_o (by decide)]; exact d3
      · rw [hfi_sfi, if_neg (by omega), hfi_sfi, if_neg (by omega), sA_o (by decide)]; exact d4
      · rw [hfi_sfi, if_neg (by omega), hfi_sfi, if_pos ⟨rfl, rfl⟩, sA_2, if_pos ⟨rfl, rfl⟩, d5]
    · have hne : u' ≠ u := fun e => g (U2 s' s b' b k' k u hs' hs hb' hb (by rw [c3, iN_nn (by omega)]; exact hk') (by rw [hn, iN_nn (by omega)]; exact hk) (by rw [u1, e]) hu)
      have hw : 8 * s' + k' ≠ 8 * s + k := fun e => g (by omega)
      refine ⟨u', u1, bs, st, o, id, d1', ?_, ?_, ?_, ?_, fun h0 _ => ?_⟩
      · rw [sA_o (by decide), sA_o (by decide)]; exact d2
      · rw [hfi_sfi, if_neg (by omega), hfi_sfi, if_neg (by omega), sA_o (by decide)]; exact d3
      · rw [hfi_sfi, if_neg (by omega), hfi_sfi, if_neg (by omega), sA_o (by decide)]; exact d4
      · rw [hfi_sfi, if_neg (by omega), hfi_sfi, if_neg (fun z => hne z.2), sA_2, if_neg (fun z => hw z.2)]; exact d5
      · rw [hfi_sfi, if_neg (fun z => hne z.2), hfi_sfi, if_neg (by omega), sA_o (by decide)]
        exact d6 h0 (by omega)
  · obtain ⟨v1, y1, bs1, st1, _, _, g1, _⟩ := c4 k1 h1
    obtain ⟨v2, y2, bs2, st2, _, _, g2, _⟩ := c4 k2 h2
    have h3' : har h (b' + 1) k1 = some u1 := h3
    have h4' : har h (b' + 1) k2 = some u2 := h4
    rw [h3'] at y1
    cases y1
    rw [h4'] at y2
    cases y2
    have e1 := (g1.sto p.1).inj h5
    have e2 := (g2.sto p.1).inj h6
    subst e1
    exact c5 k1 k2 u1 u2 bs1 st1 st2 h1 h2 h3' h4' g1 (by rw [← e2]; exact g2)
/-- the model notes the turn; or there is none to note -/
theorem Rel.turn {n : Nat} (R : Rel x ec es (8 * s + k) e0 h r) (hs : s < 12) (hb : har h (x + 34) s = some b) (hn : r.2.1 24 s = nn n) (hn2 : n ≤ 8) (hk : k < n) (hu : har h (b + 1) k = some u) (hv : hfi h 1105 u = r.1 69) : Rel x ec es 96 e0 h (sA r 30 (8 * s + k) (r.1 69)) := by
  have p : Fm x [1102, 1103, 1104, 1105] (fun _ => False) h h := Fm.rf
  have w : Ro [27, 28, 29, 30] r (sA r 30 (8 * s + k) (r.1 69)) := Ro.rf.a (by decide)
  have SS := R.2.2.2.2.1
  refine R.subs p w (fun s' b' hs' hb' => ?_) ⟨rfl, rfl⟩
  obtain ⟨n', c1, c2, c3, c4, c5⟩ := ((SS s' hs').at hb').2.1.2.2.2.2.1
  refine ⟨n', c1, c2, c3, fun k' hk' => ?_, c5⟩
  obtain ⟨u', u1, bs, st, o, id, d1, d2, d3, d4, d5, d6⟩ := c4 k' hk'
  refine ⟨u', u1, bs, st, o, id, d1, ?_, ?_, ?_, ?_, fun h0 _ => ?_⟩
  · rw [sA_o (by decide), sA_o (by decide)]; exact d2
  · rw [sA_o (by decide)]; exact d3
  · rw [sA_o (by decide)]; exact d4
  · rw [sA_o (by decide)]; exact d5
  · rw [sA_2]
    by_cases g : 8 * s' + k' = 8 * s + k
    · rw [if_pos ⟨rfl, g⟩]
      have gs : s' = s := by omega
      have gk : k' = k := by omega
      subst gs
      subst gk
      rw [hb] at hb'
      cases hb'
      rw [hu] at u1
      cases u1
      exact hv
    · rw [if_neg (fun z => g z.2)]
      exact d6 h0 g
theorem Rel.noturn {n : Nat} {bs0 : List Nat} (R : Rel x ec es (8 * s + k) e0 h r) (hs : s < 12) (hb : har h (x + 34) s = some b) (hn : r.2.1 24 s = nn n) (hn2 : n ≤ 8) (hk : k < n) (hu : har h (b + 1) k = some u) (h0 : SubT x h u bs0 0) : Rel x ec es 96 e0 h r := by
  have p : Fm x [1102, 1103, 1104, 1105] (fun _ => False) h h := Fm.rf
  have w : Ro [27, 28, 29, 30] r r := Ro.rf
  have SS := R.2.2.2.2.1
  refine R.subs p w (fun s' b' hs' hb' => ?_) ⟨rfl, rfl⟩
  obtain ⟨n', c1, c2, c3, c4, c5⟩ := ((SS s' hs').at hb').2.1.2.2.2.2.1
  refine ⟨n', c1, c2, c3, fun k' hk' => ?_, c5⟩
  obtain ⟨u', u1, bs, st, o, id, d1, d2, d3, d4, d5, d6⟩ := c4 k' hk'
  refine ⟨u', u1, bs, st, o, id, d1, d2, d3, d4, d5, fun hst _ => ?_⟩
  by_cases g : 8 * s' + k' = 8 * s + k
  · have gs : s' = s := by omega
    have gk : k' = k := by omega
    subst gs
    subst gk
    rw [hb] at hb'
    cases hb'
    rw [hu] at u1
    cases u1
    have e := h0.2.2.2
    rw [d1.2.2.2] at e
    have : st < 2147483648 := by
      have hb1 := d1.2.2.1
      unfold fstart at hb1
      split at hb1
      · cases hb1
      · split at hb1
        · split at hb1
          · cases hb1
            rename_i q
            omega
          · cases hb1
        · cases hb1
    have := nn_inj (by omega) (by omega) e
    omega
  · exact d6 hst g
end GOT
