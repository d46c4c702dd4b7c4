/-! ===== a will comes ===== -/
theorem Glo.fm {x : Nat} {F S : List Nat} {A : Nat → Prop} {h h' : Hp} {r r' : RS} {e0 : Int32} (G : Glo x h r e0) (T : Stat x h) (p : Fm x F A h h') (w : Ro S r r') (hF : ∀ f ∈ [1309, 1310, 1311, 1312, 1313, 1314, 1315], f ∉ F) (hS : ∀ k ∈ [66, 67, 69, 70, 71, 72, 74], k ∉ S) : Glo x h' r' e0 := by
  have hx := T.1
  unfold Glo
  rw [p.gi (hF 1309 (by decide)) (by omega), p.gi (hF 1310 (by decide)) (by omega), p.gi (hF 1311 (by decide)) (by omega), p.gi (hF 1312 (by decide)) (by omega), p.gi (hF 1313 (by decide)) (by omega), p.gi (hF 1314 (by decide)) (by omega), p.gi (hF 1315 (by decide)) (by omega), w.gI (hS 66 (by decide)), w.gI (hS 67 (by decide)), w.gI (hS 69 (by decide)), w.gI (hS 70 (by decide)), w.gI (hS 71 (by decide)), w.gI (hS 72 (by decide)), w.gI (hS 74 (by decide))]
  exact G
theorem sSum.fm {x : Nat} {F : List Nat} {A : Nat → Prop} {h h' : Hp} (T : Stat x h) (p : Fm x F A h h') (hF : 206 ∉ F) : sSum x h' = sSum x h := by
  have e2 : ∀ j', j' < 8 → hfi h' 206 (cA x j') = hfi h 206 (cA x j') := fun j' hj => p.gi hF (by have := T.cl hj; omega)
  unfold sSum
  rw [e2 0 (by omega), e2 1 (by omega), e2 2 (by omega), e2 3 (by omega), e2 4 (by omega), e2 5 (by omega), e2 6 (by omega), e2 7 (by omega)]
theorem WR.fmx {x : Nat} {F : List Nat} {A : Nat → Prop} {h h' : Hp} {f : Int32} {bs : List Nat} (W : WR (x + 46) h f bs) (T : Stat x h) (p : Fm x F A h h') (hF : ∀ f ∈ [1200, 1202], f ∉ F) (hA : ¬ A (x + 47)) : WR (x + 46) h' f bs := by
  have hx := T.1
  obtain ⟨⟨a1, a2, a3, a4⟩, a5, a6, a7, a8, a9⟩ := W
  refine ⟨⟨?_, ?_, ?_, ?_⟩, ?_, ?_, ?_, a8, a9⟩
  · rw [(p.1.2.1 (x + 46) (by omega)).1]; exact a1
  · rw [(p.1.2.2.1 (x + 46) (by omega)).1 1201 (by decide)]; exact a2
  · rw [(p.1.2.1 (x + 46 + 1) (by omega)).1]; exact a3
  · rw [(p.1.2.1 (x + 46 + 1) (by omega)).2]; exact a4
  · rw [p.gi (hF 1200 (by decide)) (by omega)]; exact a5
  · rw [p.gi (hF 1202 (by decide)) (by omega)]; exact a6
  · rw [(p.2.2 (x + 46 + 1) (by omega) hA).1]; exact a7
section WIL
variable {x ec es ew s b m j : Nat} {e0 : Int32} {h : Hp} {r : RS}
theorem MpT.other {m' j' : Nat} {v u : Int32} (c : MpT x h r m' j') (hm : m' ≠ m) (hj : j' ≠ j) : MpT x (sfi h 508 m v) (sA r 51 j u) m' j' := by
  obtain ⟨⟨V, v1, v2, v3⟩, c2, c3⟩ := c
  have p : Fm x [508] (fun _ => False) h (sfi h 508 m v) := Fm.fi Fm.rf (Or.inl (by decide)) (Or.inl (by decide))
  have w : Ro [51] r (sA r 51 j u) := Ro.rf.a (by decide)
  refine ⟨⟨V, v1.sto p.1, v2.sj v3.1.2 (w.sj (by decide)), v3⟩, ?_, ?_⟩
  · rw [hfi_sfi, if_neg (fun z => hm z.2), sA_2, if_neg (fun z => hj z.2)]
    exact c2
  · rw [sA_2, if_neg (fun z => hj z.2)]
    exact c3
/-- a message that nobody has gets its time -/
theorem Rel.came (R : Rel x ec es ew e0 h r) (v : Int32)
    (hd : ∀ s' b' k d, s' < 12 → har h (x + 34) s' = some b' → k < 40 → act r s' k → dl h b' k = some d → hfr h 300 d ≠ some m)
    (hy : ∀ s' k, s' < 12 → r.2.1 11 s' = 1 → k < iN (r.2.1 31 s') → r.2.1 33 (16 * s' + k) ≠ nn j)
    (hq : ∀ s' k, s' < 12 → r.2.1 11 s' = 1 → k < iN (r.2.1 38 s') → r.2.1 39 (24 * s' + k) ≠ nn j)
    (hk : ∀ k, k < iN (hfi h 801 (x + 35)) → har h (x + 36) k ≠ some m) (hk2 : ∀ k, k < iN (r.1 65) → r.2.1 64 k ≠ nn j) : Rel x ec es ew e0 (sfi h 508 m v) (sA r 51 j v) := by
  obtain ⟨T, G, sm, C, SS, U1, U2, U3, K, U4, f0, bs0, W⟩ := R
  have p : Fm x [508] (fun _ => False) h (sfi h 508 m v) := Fm.fi Fm.rf (Or.inl (by decide)) (Or.inl (by decide))
  have w : Ro [51] r (sA r 51 j v) := Ro.rf.a (by decide)
  refine ⟨T.sto p.1, G.fm T p w (by decide) (by decide), ?_, fun i hi => ?_, fun s' hs' => ?_, U1.fm T SS p w (fun z => z) (fun _ _ _ _ => ⟨fun z => z, fun z => z⟩) (by decide), U2.fm T SS p w (fun z => z) (fun _ _ _ _ z => z) (by decide), U3.fm w (by decide), ?_, U4.fm T SS p w (by decide) ⟨fun z => z, fun z => z⟩ (fun _ _ _ _ => ⟨fun z => z, fun z => z⟩) (by decide), f0, bs0, W.fmx T p (by decide) (fun z => z)⟩
  · rw [sSum.fm T p (by decide)]
    exact sm
  · obtain ⟨c1, c2, c3, c4⟩ := C i hi
    exact ⟨c1.fm T hi p w (by decide) (fun z => z) (by decide), c2.fm T hi p w (by decide) (fun z => z) (by decide), c3.fm T hi p w (fun z => z) (by decide), fun hec => (c4 hec).fm T hi p w (by decide) (fun z => z) (by decide)⟩
  · rcases SS s' hs' with c | ⟨c1, b', c2, c3, c4⟩
    · exact Or.inl (by rw [sA_o (by decide)]; exact c)
    · have hb' := c3.1.2.2.1
      refine Or.inr ⟨by rw [sA_o (by decide)]; exact c1, b', c2, ⟨c3.1.sto p.1, c3.2.1.fm (by omega) p.1 w (by decide), c3.2.2.1.fm (by omega) p w (by decide) (by decide), c3.2.2.2.1.fm (by omega) p w (by decide) (by decide), c3.2.2.2.2.1.fm hb' p w (by decide) (fun z => z) (by decide), ?_, ?_, c3.2.2.2.2.2.2.2.1.fm hb' p w (by decide) (fun z => z) (by decide), c3.2.2.2.2.2.2.2.2.fm w (by decide)⟩, fun g => (c4 g).fm (by omega) p w (by decide) (by decide)⟩
      · obtain ⟨n, y1, y2, y3, y4, y5⟩ := c3.2.2.2.2.2.1
        refine ⟨n, y1, by rw [p.gi (by decide) (by omega)]; exact y2, by rw [sA_o (by decide)]; exact y3, fun k hk => ?_, fun k k' h1 h2 h3 => y5 k k' h1 h2 (by rw [sA_o (by decide)] at h3; exact h3)⟩
        obtain ⟨d, d1, m', j', q, fl, id, num, e1, e2, e3, e4, e5⟩ := y4 k hk
        have l1 : d < hnx h := e1.2.2
        have nm := hd s' b' k d hs' c2 (by omega) (by
          unfold act
          rw [if_pos (by omega), y3, iN_nn (by omega)]
          exact hk) (by
          unfold dl
          rw [if_pos (by omega)]
          exact d1)
        have nj := hy s' k hs' c1 (by rw [y3, iN_nn (by omega)]; exact hk)
        refine ⟨d, d1, m', j', q, fl, id, num, e1, e2, by rw [sA_o (by decide)]; exact e3, e4.other (fun e => nm (by rw [e2, e])) (fun e => nj (by rw [e3, e])), ?_⟩
        rw [p.gi (f := 301) (by decide) l1, p.gi (f := 302) (by decide) l1, p.gi (f := 303) (by decide) l1, p.gi (f := 304) (by decide) l1, p.gi (f := 305) (by decide) l1, sA_o (j := 32) (by decide), sA_o (j := 34) (by decide), sA_o (j := 35) (by decide), sA_o (j := 36) (by decide), sA_o (j := 37) (by decide)]
        exact e5
      · obtain ⟨n, y1, y2, y3, y4⟩ := c3.2.2.2.2.2.2.1
        refine ⟨n, y1, by rw [p.gi (by decide) (by omega)]; exact y2, by rw [sA_o (by decide)]; exact y3, fun k hk => ?_⟩
        obtain ⟨d, d1, m', j', q, fl, id, e1, e2, e3, e4, e5⟩ := y4 k hk
        have l1 : d < hnx h := e1.2.2
        have nm := hd s' b' (k + 16) d hs' c2 (by omega) (by
          unfold act
          rw [if_neg (by omega), y3, iN_nn (by omega)]
          omega) (by
          unfold dl
          rw [if_neg (by omega), Nat.add_sub_cancel]
          exact d1)
        have nj := hq s' k hs' c1 (by rw [y3, iN_nn (by omega)]; exact hk)
        refine ⟨d, d1, m', j', q, fl, id, e1, e2, by rw [sA_o (by decide)]; exact e3, e4.other (fun e => nm (by rw [e2, e])) (fun e => nj (by rw [e3, e])), ?_⟩
        rw [p.gi (f := 301) (by decide) l1, p.gi (f := 302) (by decide) l1, p.gi (f := 303) (by decide) l1, p.gi (f := 305) (by decide) l1, sA_o (j := 40) (by decide), sA_o (j := 41) (by decide), sA_o (j := 42) (by decide)]
        exact e5
  · obtain ⟨⟨n, n1, n2, n3⟩, k1, k2⟩ := K
    have hkl : KL r ((List.range n).map (fun k => iN (r.2.1 64 k))) := by
      refine ⟨by rw [List.length_map, List.length_range]; exact n2, by simpa using n1, fun k hk => ?_⟩
      have hk' : k < n := by simpa using hk
      obtain ⟨j', j1, j2, _⟩ := n3 k hk'
      have e : ((List.range n).map (fun k => iN (r.2.1 64 k))).getD k 0 = j' := by
        rw [List.getD_eq_getElem?_getD, List.getElem?_map, List.getElem?_range hk']
        show iN (r.2.1 64 k) = j'
        rw [j2, iN_nn (by omega)]
      rw [e]
      exact ⟨j2, j1⟩
    have hne : ∀ q ∈ (List.range n).map (fun k => iN (r.2.1 64 k)), q ≠ j := fun q hq' => by
      obtain ⟨k, q1, q2⟩ := getD_of_mem hq'
      have := hk2 k (by rw [hkl.1, iN_nn (by have := hkl.2.1; omega)]; exact q1)
      rw [(hkl.2.2 k q1).1, q2] at this
      exact fun e => this (by rw [e])
    have ek : kpt (sA r 51 j v) = kpt r := by
      have hkl' : KL (sA r 51 j v) ((List.range n).map (fun k => iN (r.2.1 64 k))) := ⟨hkl.1, hkl.2.1, fun k hk => by rw [sA_o (by decide)]; exact hkl.2.2 k hk⟩
      rw [hkl.kp, hkl'.kp]
      refine List.filter_congr (fun q hq' => ?_)
      have : gon (sA r 51 j v) q = gon r q := by
        unfold gon
        rw [sA_2, if_neg (fun z => hne q hq' z.2), sA_3, sA_1]
      rw [this]
    refine ⟨⟨n, n1, n2, fun k hk => ?_⟩, by rw [ek]; exact k1, fun k hk' => ?_⟩
    · obtain ⟨j', j1, j2, j3⟩ := n3 k hk
      have := hk2 k (by rw [n2, iN_nn (by omega)]; exact hk)
      refine ⟨j', j1, by rw [sA_o (by decide)]; exact j2, ?_⟩
      rw [sA_2, if_neg (fun z => this (by rw [j2, z.2]))]
      exact j3
    rw [ek] at hk' ⊢
    obtain ⟨m', m1, m2⟩ := k2 k hk'
    refine ⟨m', m1, m2.other (fun e => hk k (by rw [k1, iN_nn (by rw [hkl.kp] at hk' ⊢; have := List.length_filter_le (fun j => !gon r j) ((List.range n).map (fun k => iN (r.2.1 64 k))); have := hkl.2.1; omega)]; exact hk') (by rw [m1, e])) ?_⟩
    have hmem := mem_getD hk'
    rw [hkl.kp] at hmem ⊢
    exact hne _ (List.mem_filter.mp hmem).1
theorem Rel.will {v : Int32} (R : Rel x ec es ew e0 h r) (hs : s < 12) (hb : har h (x + 34) s = some b) (hm : hfr h 1011 b = some m) (hj : r.2.1 20 s = nn j) (hMp : Mp x h r m j) :
    Rel x ec es ew e0 (sfi (sfr h 1011 b none) 508 m (r.1 66)) (sA (sA (sA (sL (sA r 20 s (-1)) 22 s (-1)) 63 j v) 51 j (r.1 66)) 62 j (r.2.1 12 s)) ∧ Msg x (sfi (sfr h 1011 b none) 508 m (r.1 66)) (sA (sA (sA (sL (sA r 20 s (-1)) 22 s (-1)) 63 j v) 51 j (r.1 66)) 62 j (r.2.1 12 s)) m j ∧ Frm x (sfi (sfr h 1011 b none) 508 m (r.1 66)) (sA (sA (sA (sL (sA r 20 s (-1)) 22 s (-1)) 63 j v) 51 j (r.1 66)) 62 j (r.2.1 12 s)) j b := by
  have R0 := R
  obtain ⟨T, G, sm, C, SS, U1, U2, U3, K, U4, f0, bs0, W⟩ := R0
  have hx := T.1
  obtain ⟨c11, S0, Z0⟩ := (SS s hs).at hb
  have hbl := S0.1.2.2.1
  have hbx := S0.1.2.1
  obtain ⟨q1, q2, q3, q4, q5, q6⟩ := U4 s b m j hs hb hm hj
  obtain ⟨t, t1, t2⟩ := G.1
  obtain ⟨r1, hr1⟩ : ∃ z, z = sA (sL (sA r 20 s (-1)) 22 s (-1)) 63 j v := ⟨_, rfl⟩
  have p : Fm x [1011] (fun _ => False) h (sfr h 1011 b none) := Fm.fr Fm.rf (Or.inl (by decide)) (Or.inl (by decide))
  have w : Ro [20, 22, 63] r r1 := by
    rw [hr1]
    exact ((Ro.rf.a (by decide)).l (by decide)).a (by decide)
  have px : Hx x b 8 h (sfr h 1011 b none) := Hx.fr Hx.rf (Or.inl (Or.inl ⟨rfl, by omega, by omega⟩)) (Or.inl (by decide))
  have wx : Ho s 8 r r1 := by
    rw [hr1]
    exact Ho.a (Ho.l (Ho.a Ho.rf (Or.inr (Or.inl ⟨by omega, by omega, rfl⟩))) (Or.inr (Or.inl ⟨by omega, by omega, rfl⟩))) (Or.inr (Or.inr (Or.inr (Or.inr (Or.inl rfl)))))
  have e20 : ∀ s', r1.2.1 20 s' = if s' = s then -1 else r.2.1 20 s' := fun s' => by
    rw [hr1, sA_o (by decide), sL_2, sA_2]
    by_cases g : s' = s
    · rw [if_pos ⟨rfl, g⟩, if_pos g]
    · rw [if_neg (fun z => g z.2), if_neg g]
  have e10 : ∀ b', hfr (sfr h 1011 b none) 1011 b' = if b' = b then none else hfr h 1011 b' := fun b' => by
    rw [hfr_sfr]
    by_cases g : b' = b
    · rw [if_pos ⟨rfl, g⟩, if_pos g]
    · rw [if_neg (fun z => g z.2), if_neg g]
  have R1 : Rel x ec es ew e0 (sfr h 1011 b none) r1 := by
    refine R.one px wx (Or.inr ⟨hs, hb⟩) (fun _ _ => rfl) (G.fm T p w (by decide) (by decide)) (by rw [sSum.fm T p (by decide), w.gI (by decide)]; exact sm) (Or.inl (w.gI (by decide))) (fun _ _ _ z => z) (fun _ _ _ z => z) (fun z => by omega) (fun i' h1 h2 h3 _ => ⟨by rw [w.gA (by decide)], by rw [w.gA (by decide)], rfl⟩) (fun _ _ _ _ _ _ _ _ _ _ => ⟨rfl, fun _ _ => rfl⟩) (fun _ _ _ _ _ _ _ _ _ _ _ => rfl) (fun z => by omega) (fun _ => Or.inr ⟨by rw [w.gA (by decide)]; exact c11, b, hb, ⟨S0.1.sto p.1, S0.2.1.fm (by omega) p.1 w (by decide), S0.2.2.1.fm (by omega) p w (by decide) (by decide), Or.inl ⟨by rw [e10, if_pos rfl], by rw [e20, if_pos rfl]⟩, S0.2.2.2.2.1.fm hbl p w (by decide) (fun z => z) (by decide), S0.2.2.2.2.2.1.fm hbl p w (by decide) (fun z => z) (by decide), S0.2.2.2.2.2.2.1.fm hbl p w (by decide) (fun z => z) (by decide), S0.2.2.2.2.2.2.2.1.fm hbl p w (by decide) (fun z => z) (by decide), S0.2.2.2.2.2.2.2.2.fm w (by decide)⟩, fun g g15 => ?_⟩) ?_ ?_ ?_ ?_ ?_ ?_ ?_ (fun _ z => absurd (z.symm.trans (show r1.2.1 11 s = 1 by rw [w.gA (by decide)]; exact c11)) (by decide))
    · rw [w.gA (by decide)] at g15
      obtain ⟨z1, z2, z3, z4⟩ := Z0 g g15
      refine ⟨by rw [w.gL (by decide)]; exact z1, by rw [w.gI (by decide)]; exact z2, fun h0 => ?_, by rw [w.gL (by decide), w.gL (by decide)]; exact z4⟩
      rw [e20, if_pos rfl] at h0
      exact absurd h0 (by decide)
    · intro b1 k k' d _ h1 h2 h3 h4 h5 h6 h7
      unfold act at h4 h5
      rw [w.gA (by decide), w.gA (by decide)] at h4 h5
      exact (U1 s s b1 b1 k k' d hs hs h1 h1 h2 h3 h4 h5 h6 h7).2
    · intro b1 k d _ h1 h2 h3 h4 s' b' k' g1 g2 g3 g4 g5 g6
      unfold act at h3
      rw [w.gA (by decide), w.gA (by decide)] at h3
      exact g2 (U1 s' s b' b1 k' k d g1 hs g3 h1 g4 h2 g5 h3 g6 h4).1
    · intro b1 k k' u _ h1 h2 h3 h4 h5
      rw [w.gA (by decide)] at h2 h3
      exact (U2 s s b1 b1 k k' u hs hs h1 h1 h2 h3 h4 h5).2
    · intro b1 k u _ h1 h2 h3 s' b' k' g1 g2 g3 g4 g5
      rw [w.gA (by decide)] at h2
      exact g2 (U2 s' s b' b1 k' k u g1 hs g3 h1 g4 h2 g5 h3).1
    · intro _ h1 s' g1 g2 g3 g4
      unfold SId at g4
      rw [w.gA (k := 12) (by decide), w.gA (k := 13) (by decide), w.gA (k := 14) (by decide)] at g4
      exact g2 (U3.1 s' s g1 hs g3 c11 g4)
    · intro s' b' m' j' g1 g2 g3 g4 g5 _
      obtain ⟨y1, y2, y3, y4, y5, y6⟩ := U4 s' b' m' j' g1 g3 g4 g5
      have hj' : (-1 : Int32) ≠ nn j' := fun e => by
        have h1 := ((SS s' g1).at g3).2.1.2.2.2.1
        rcases h1 with z | ⟨_, j2, _, z2, z3, _⟩
        · rw [g4] at z; exact absurd z.1 (by simp)
        · obtain ⟨V, _, v2, _⟩ := z3
          have hj2 := v2.1
          rw [g5] at z2
          rw [z2] at e
          have : nn j2 < 0 := by rw [← e]; decide
          have h0 : 0 ≤ nn j2 := nn_ge (by omega)
          exact absurd (show (0 : Int32) ≤ -1 by rw [e]; exact h0) (by decide)
      refine ⟨fun b1 g => ?_, fun _ => ⟨fun k hk => ?_, fun k hk => ?_⟩⟩
      · have g' : har h (x + 34) s = some b1 := g
        rw [hb] at g'
        cases g'
        refine ⟨⟨by rw [e10, if_pos rfl]; simp, by rw [e20, if_pos rfl]; exact hj'⟩, fun k d z1 z2 z3 => ?_⟩
        unfold act at z2
        rw [w.gA (by decide), w.gA (by decide)] at z2
        exact y2 s b k d hs hb z1 z2 z3
      · rw [w.gA (by decide)] at hk ⊢
        exact y3 s k hs c11 hk
      · rw [w.gA (by decide)] at hk ⊢
        exact y4 s k hs c11 hk
    · intro _ b1 m' j' g1 g2 g3
      have g' : har h (x + 34) s = some b1 := g1
      rw [hb] at g'
      cases g'
      rw [e10, if_pos rfl] at g2
      cases g2
  have R2 := R1.came (m := m) (j := j) (r.1 66) (fun s' b' k d g1 g2 g3 g4 g5 => by
    unfold act at g4
    rw [w.gA (by decide), w.gA (by decide)] at g4
    exact q2 s' b' k d g1 g2 g3 g4 g5) (fun s' k g1 g2 g3 => by
    rw [w.gA (by decide)] at g2 g3 ⊢
    exact q3 s' k g1 g2 g3) (fun s' k g1 g2 g3 => by
    rw [w.gA (by decide)] at g2 g3 ⊢
    exact q4 s' k g1 g2 g3) q5 (fun k hk => by
    rw [w.gI (by decide)] at hk
    rw [w.gA (by decide)]
    exact q6 k hk)
  have w2 : Ro scS (sA r1 51 j (r.1 66)) (sA (sA r1 51 j (r.1 66)) 62 j (r.2.1 12 s)) := Ro.rf.a (by decide)
  have R3 := R2.scr (Fm.rf (F := scF) (A := scA x)) w2 R2.wr
  rw [← hr1]
  refine ⟨R3, ⟨⟨?_, ?_, t, ?_, ?_⟩, ?_, fun s' b' g1 g2 => ?_⟩, s, hs, hb, ?_⟩
  · obtain ⟨V, v1, v2, v3⟩ := hMp
    have pp : Fm x [508, 1011] (fun _ => False) h (sfi (sfr h 1011 b none) 508 m (r.1 66)) := Fm.fi (p.sub (by decide) (fun _ z => z)) (Or.inl (by decide)) (Or.inl (by decide))
    have ww : Ro [20, 22, 51, 62, 63] r (sA (sA r1 51 j (r.1 66)) 62 j (r.2.1 12 s)) := ((w.sub (by decide)).a (by decide)).a (by decide)
    exact ⟨V, v1.sto pp.1, v2.sj v3.1.2 (ww.sj (by decide)), v3⟩
  · rw [hfi_sfi, if_pos ⟨rfl, rfl⟩, sA_o (by decide), sA_2, if_pos ⟨rfl, rfl⟩]
  · rw [sA_1, sA_1, w.gI (by decide), t2, iN_nn (by omega)]
    exact Nat.le_refl _
  · rw [sA_o (by decide), sA_2, if_pos ⟨rfl, rfl⟩, t2]
  · obtain ⟨V, v1, v2, v3⟩ := hMp
    exact v2.1
  · have g2' : har h (x + 34) s' = some b' := g2
    show hfr (sfr h 1011 b none) 1011 b' ≠ some m ∧ _
    rw [sA_o (by decide), sA_o (by decide), e10, e20]
    by_cases g : s' = s
    · subst g
      rw [hb] at g2'
      cases g2'
      rw [if_pos rfl, if_pos rfl]
      refine ⟨by simp, fun e => ?_⟩
      obtain ⟨V, v1, v2, v3⟩ := hMp
      have hj2 := v2.1
      have h0 : 0 ≤ nn j := nn_ge (by omega)
      exact absurd (show (0 : Int32) ≤ -1 by rw [e]; exact h0) (by decide)
    · have gb : b' ≠ b := fun e => by
        subst e
        exact g (((SS s' g1).at g2').2.1.1.inj S0.1 g1 hs)
      rw [if_neg gb, if_neg g]
      exact q1 s' b' g1 g g2'
  · rw [sA_2, if_pos ⟨rfl, rfl⟩, sA_o (by decide), sA_o (by decide), w.gA (by decide)]
end WIL
