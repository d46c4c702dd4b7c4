/-! ===== a new session, with its connection ===== -/
section NSA
variable {x ec es ew s b i sf a nb : Nat} {e0 : Int32} {h h' h1 : Hp} {r r' rN : RS} {l6 lw dw l9 : Int64} {l8 lk : Int32} {ys : List Nat}
theorem Hx.up (p : Hx x b 8 h h') : Hx x b i h h' := by
  refine ⟨p.1, fun f q hq hp => p.2.1 f q hq (fun z => hp ?_), fun q hq hA => p.2.2 q hq (fun z => hA ?_)⟩
  · rcases z with z | z | z
    · exact Or.inl z
    · omega
    · exact Or.inr (Or.inr z)
  · rcases z with z | z | z
    · exact Or.inl z
    · omega
    · exact Or.inr (Or.inr z)
theorem Ho.up (p : Ho s 8 r r') (hs : ∀ k n, 1 ≤ k → k ≤ 10 → r'.2.1 k n = r.2.1 k n ∧ r'.2.2 k n = r.2.2 k n) : Ho s i r r' := by
  refine ⟨p.1, fun k n hk => ?_⟩
  by_cases g : 1 ≤ k ∧ k ≤ 10
  · exact hs k n g.1 g.2
  · exact p.2 k n (fun z => hk (by
      rcases z with z | z
      · exact absurd ⟨z.1, z.2.1⟩ g
      · exact Or.inr z))
theorem Rel.nsn (R : Rel x i 12 96 e0 h r) (hi : i < 8) (ho : r.2.1 1 i = 1) (h7 : r.2.1 7 i = -1) (hs : sf < 12) (h11 : r.2.1 11 sf = 0) (W : Rw x h a ys) (hl : 1 ≤ ys.length ∧ ys.length ≤ 20) (fresh : ∀ s, s < 12 → r.2.1 11 s = 1 → ¬ IdOf r s ys) (P : nsP x sf a h h1)
    (w0 : Ho sf 8 r rN) (wr : Ro [11, 12, 13, 14, 73, 90] r rN) (n11 : rN.2.1 11 sf = 1) (n12 : rN.2.1 12 sf = nn (nb + 1)) (n73 : rN.1 73 = nn (nb + 1)) (h73 : r.1 73 = nn nb) (hnb : nb < 1000000000) (nid : IdOf rN sf ys)
    (v6 : ∃ e, e ≤ 4294967295 ∧ l6 = n6 e) (v8 : ∃ k, 1 ≤ k ∧ k ≤ 65535 ∧ l8 = nn k) (v9 : (lw = -1 ∧ l9 = 9223372036854775807) ∨ ∃ z, 1 ≤ z ∧ z ≤ 4294967295 ∧ lw = n6 z ∧ l9 = n6 z) (vk : ∃ k, k ≤ 65535 ∧ lk = nn k) :
    Rel x i 12 96 e0 (atB x i (hnx h) l6 l8 lw lk dw (sfr h1 1011 (hnx h) none)) (atM (sA rN 20 sf (-1)) sf i l6 l8 l9 lk) ∧ ∀ m, NR x h r m → NR x (atB x i (hnx h) l6 l8 lw lk dw (sfr h1 1011 (hnx h) none)) (atM (sA rN 20 sf (-1)) sf i l6 l8 l9 lk) m := by
  have R0 := R
  obtain ⟨T, G, sm, C, SS, U1, U2, U3, K, U4, f0, bs0, Wr⟩ := R0
  have hx := T.1
  have hcl := T.cl hi
  have cdef : cA x i = x + 2 + 4 * i := rfl
  obtain ⟨p1, p2, p3, p4, p5, p6, p7, p8, ⟨q1, q2, q3, q4⟩, _, _⟩ := P
  obtain ⟨b, eb⟩ : ∃ z, z = hnx h := ⟨_, rfl⟩
  rw [← eb] at p3 p5 p6 p7 p8 q1 q2 q3 q4
  rw [← eb]
  have pB := atB.fm (x := x) (i := i) (b := b) (l6 := l6) (l8 := l8) (lw := lw) (lk := lk) (dw := dw) (h := sfr h1 1011 b none)
  have pxB := atB.hx (x := x) (i := i) (b := b) (l6 := l6) (l8 := l8) (lw := lw) (lk := lk) (dw := dw) (h := sfr h1 1011 b none) hi
  have pw : Fm x [1011] (fun _ => False) h1 (sfr h1 1011 b none) := Fm.fr Fm.rf (Or.inl (by decide)) (Or.inl (by decide))
  have pxw : Hx x b i h1 (sfr h1 1011 b none) := Hx.fr Hx.rf (Or.inl (Or.inl ⟨rfl, by omega, by omega⟩)) (Or.inl (by decide))
  obtain ⟨h2, eh2⟩ : ∃ z, z = atB x i b l6 l8 lw lk dw (sfr h1 1011 b none) := ⟨_, rfl⟩
  rw [← eh2] at pB pxB ⊢
  have p12 : Fm x [202, 1002, 1011, 1012, 1013, 1014, 1015, 1016] (fun _ => False) h1 h2 := (pw.sub (by decide) (fun _ z => z)).tr (pB.sub (by decide) (fun _ z => z))
  have p : Fm x [202, 1002, 1011, 1012, 1013, 1014, 1015, 1016] (fun q => q = x + 34) h h2 := (p2.sub (by decide) (fun _ z => z)).tr (p12.sub (by decide) (fun _ z => z.elim))
  have px : Hx x b i h h2 := (Hx.up p3).tr (pxw.tr pxB)
  have w1 := atM.ro (r := sA rN 20 sf (-1)) (s := sf) (i := i) (l6 := l6) (l8 := l8) (l9 := l9) (lk := lk)
  have wx1 := atM.ho (r := sA rN 20 sf (-1)) (s := sf) (i := i) (l6 := l6) (l8 := l8) (l9 := l9) (lk := lk)
  obtain ⟨r2, er2⟩ : ∃ z, z = atM (sA rN 20 sf (-1)) sf i l6 l8 l9 lk := ⟨_, rfl⟩
  rw [← er2] at w1 wx1 ⊢
  have w12 : Ro [7, 15, 16, 17, 18, 19, 20, 22, 23] rN r2 := ((Ro.rf (S := [7, 15, 16, 17, 18, 19, 20, 22, 23])).a (by decide)).tr (w1.sub (by decide))
  have w : Ro [7, 11, 12, 13, 14, 15, 16, 17, 18, 19, 20, 22, 23, 73, 90] r r2 := (wr.sub (by decide)).tr (w12.sub (by decide))
  have wx : Ho sf i r r2 := ((Ho.up w0 (fun k n h1 h2 => ⟨by rw [wr.gA (by simp only [List.mem_cons, List.not_mem_nil, or_false]; omega)], by rw [wr.gL (by simp only [List.mem_cons, List.not_mem_nil, or_false]; omega)]⟩)).a (Or.inr (Or.inl ⟨by omega, by omega, rfl⟩))).tr wx1
  obtain ⟨z24, z31, z38, z43⟩ := U3.2 sf hs h11
  have y24 : r2.2.1 24 sf = 0 := by rw [w.gA (by decide)]; exact z24
  have y31 : r2.2.1 31 sf = 0 := by rw [w.gA (by decide)]; exact z31
  have y38 : r2.2.1 38 sf = 0 := by rw [w.gA (by decide)]; exact z38
  have y43 : r2.2.1 43 sf = 0 := by rw [w.gA (by decide)]; exact z43
  have i0 : iN (0 : Int32) = 0 := rfl
  have noact : ∀ k, ¬ act r2 sf k := fun k hk => by
    unfold act at hk
    rw [y31, y38, i0] at hk
    by_cases g : k < 16
    · rw [if_pos g] at hk; omega
    · rw [if_neg g] at hk; omega
  have d15 : r2.2.1 15 sf = nn i := by
    rw [er2]; unfold atM
    rw [sA_o (by decide), sL_2, sA_o (by decide), sL_2, sA_o (by decide), sA_2, if_pos ⟨rfl, rfl⟩]
  have d7 : r2.2.1 7 i = nn sf := by
    rw [er2]; unfold atM
    rw [sA_o (by decide), sL_2, sA_o (by decide), sL_2, sA_2, if_pos ⟨rfl, rfl⟩]
  have d16 : r2.2.2 16 sf = l6 := by
    rw [er2]; unfold atM
    rw [sA_3, sL_3, if_neg (by omega), sA_3, sL_3, if_pos ⟨rfl, rfl⟩]
  have d17 : r2.2.1 17 sf = l8 := by
    rw [er2]; unfold atM
    rw [sA_o (by decide), sL_2, sA_2, if_pos ⟨rfl, rfl⟩]
  have d18 : r2.2.2 18 sf = l9 := by
    rw [er2]; unfold atM
    rw [sA_3, sL_3, if_pos ⟨rfl, rfl⟩]
  have d19 : r2.2.1 19 sf = lk := by
    rw [er2]; unfold atM
    rw [sA_2, if_pos ⟨rfl, rfl⟩]
  have d20 : r2.2.1 20 sf = -1 := by
    rw [w1.gA (by decide), sA_2, if_pos ⟨rfl, rfl⟩]
  have d11 : r2.2.1 11 sf = 1 := by rw [w12.gA (by decide)]; exact n11
  have d12 : r2.2.1 12 sf = nn (nb + 1) := by rw [w12.gA (by decide)]; exact n12
  have d73 : r2.1 73 = nn (nb + 1) := by rw [w12.gI (by decide)]; exact n73
  have did : IdOf r2 sf ys := by
    unfold IdOf
    rw [w12.gA (k := 13) (by decide), w12.gA (k := 14) (by decide)]
    exact nid
  have hnb1 : b < hnx h1 := by omega
  have f1013 : hfl h2 1013 b = l6 := by
    rw [eh2]; unfold atB
    show hfl (sfl (sfi (sfl (sfi (sfl (sfr h1 1011 b none) 1013 b l6) 1015 b l8) 1014 b lw) 1016 b lk) 1012 b dw) 1013 b = l6
    rw [hfl_sfl, if_neg (by omega), hfl_sfi, hfl_sfl, if_neg (by omega), hfl_sfi, hfl_sfl, if_pos ⟨rfl, rfl⟩]
  have f1014 : hfl h2 1014 b = lw := by
    rw [eh2]; unfold atB
    show hfl (sfl (sfi (sfl (sfi (sfl (sfr h1 1011 b none) 1013 b l6) 1015 b l8) 1014 b lw) 1016 b lk) 1012 b dw) 1014 b = lw
    rw [hfl_sfl, if_neg (by omega), hfl_sfi, hfl_sfl, if_pos ⟨rfl, rfl⟩]
  have f1015 : hfi h2 1015 b = l8 := by
    rw [eh2]; unfold atB
    show hfi (sfl (sfi (sfl (sfi (sfl (sfr h1 1011 b none) 1013 b l6) 1015 b l8) 1014 b lw) 1016 b lk) 1012 b dw) 1015 b = l8
    rw [hfi_sfl, hfi_sfi, if_neg (by omega), hfi_sfl, hfi_sfi, if_pos ⟨rfl, rfl⟩]
  have f1016 : hfi h2 1016 b = lk := by
    rw [eh2]; unfold atB
    show hfi (sfl (sfi (sfl (sfi (sfl (sfr h1 1011 b none) 1013 b l6) 1015 b l8) 1014 b lw) 1016 b lk) 1012 b dw) 1016 b = lk
    rw [hfi_sfl, hfi_sfi, if_pos ⟨rfl, rfl⟩]
  have f1002 : hfr h2 1002 b = some (cA x i) := by
    rw [eh2]; unfold atB
    rw [hfr_sfr, if_neg (by omega), hfr_sfr, if_pos ⟨rfl, rfl⟩]
  have f202 : hfr h2 202 (cA x i) = some b := by
    rw [eh2]; unfold atB
    rw [hfr_sfr, if_pos ⟨rfl, rfl⟩]
  have f1011 : hfr h2 1011 b = none := by
    rw [pB.gr (by decide) (show b < hnx (sfr h1 1011 b none) from hnb1), hfr_sfr, if_pos ⟨rfl, rfl⟩]
  have e34 : ∀ s', har h2 (x + 34) s' = har h1 (x + 34) s' := fun s' => by
    rw [(p12.2.2 (x + 34) (by omega) (fun z => z)).2.1]
  have g34 : har h2 (x + 34) sf = some b := by rw [e34]; exact p5
  have nr : ∀ m, NR x h r m → NR x h2 r2 m := fun m hN => by
    have old : ∀ s' b', s' ≠ sf → har h2 (x + 34) s' = some b' → s' < 12 → har h (x + 34) s' = some b' := fun s' b' g g2 _ => by
      rw [e34, p4 s' g] at g2
      exact g2
    refine ⟨fun s' b' g1 g2 => ?_, fun s' b' k d g1 g2 g3 g4 g5 => ?_, fun k hk => ?_⟩
    · by_cases g : s' = sf
      · rw [g, g34] at g2
        cases g2
        rw [f1011]
        simp
      · have g2' := old s' b' g g2 g1
        have Tb := ((SS s' g1).at g2').2.1.1
        have hb' := Tb.2.2.1
        have hbx' := Tb.2.1
        rw [(px.2.1 1011 b' (by omega) (by
          rintro (z | z | z | z | z)
          · omega
          · omega
          · omega
          · omega
          · omega)).2.2]
        exact hN.1 s' b' g1 g2'
    · by_cases g : s' = sf
      · rw [g] at g4
        exact absurd g4 (noact k)
      · have g2' := old s' b' g g2 g1
        have Sb' := ((SS s' g1).at g2').2.1
        have hb' := Sb'.1.2.2.1
        have hbx' := Sb'.1.2.1
        have g4' : act r s' k := by
          unfold act at g4 ⊢
          rw [w.gA (by decide), w.gA (by decide)] at g4
          exact g4
        have g5' : dl h b' k = some d := by
          unfold dl at g5 ⊢
          rw [(p.2.2 (b' + 2) (by omega) (by omega)).2.1, (p.2.2 (b' + 3) (by omega) (by omega)).2.1] at g5
          exact g5
        rw [p.gr (by decide) (act.lt Sb' g4' g3 g5')]
        exact hN.2.1 s' b' k d g1 g2' g3 g4' g5'
    · rw [p.gi (by decide) (by omega)] at hk
      rw [(p.2.2 (x + 36) (by omega) (by omega)).2.1]
      exact hN.2.2 k hk
  obtain ⟨k1, k2, k3, k4⟩ := C i hi
  obtain ⟨⟨a1, a2⟩, ⟨a3, a4, a5⟩, a6, a7⟩ := k1
  refine ⟨?_, nr⟩
  refine R.one (b := b) (s := sf) (i := i) (ec' := i) (es' := 12) px wx (Or.inl (by omega)) (fun s' g => by rw [e34, p4 s' g]) (G.fm T p w (by decide) (by decide)) (by rw [sSum.fm T p (by decide), w.gI (by decide)]; exact sm) (Or.inr ⟨nb, nb + 1, h73, d73, by omega, by omega⟩) (fun _ _ _ z => z) (fun _ _ _ z => z) (fun _ s' hs' _ z => absurd (h7.symm.trans z) (neg_nn (by omega))) (fun i' h1 h2 h3 _ => ?_) (fun s' b' k d g1 g2 g3 g4 g5 g6 => ?_) (fun s' b' k u g1 g2 g3 g4 g5 => ?_) (fun _ => ⟨⟨⟨?_, ?_⟩, ⟨?_, ?_, ?_⟩, ?_, Or.inr ⟨sf, b, hs, d7, ?_, d11, d15, g34, f202⟩⟩, k2.fm T hi p w (by decide) (by omega) (by decide), k3.fm T hi p w (by omega) (by decide), fun z => absurd rfl z⟩) (fun _ => Or.inr ⟨d11, b, g34, ⟨p6.sto p12.1, ⟨a, ys, ?_, ?_, hl, did.1, did.2⟩, ⟨⟨?_, ?_⟩, ⟨?_, ?_⟩, ?_, ⟨?_, ?_⟩, Or.inr ⟨i, hi, f1002, d15, d7⟩⟩, Or.inl ⟨f1011, d20⟩, ⟨0, by omega, ?_, y24, fun k hk => by omega, fun k k' u u' bs st st' hk => by omega⟩, ⟨0, by omega, ?_, y31, fun k hk => by omega, fun k k' hk => by omega⟩, ⟨0, by omega, ?_, y38, fun k hk => by omega⟩, ⟨[], [], by decide, List.Perm.refl _, List.nodup_nil, fun v hv => by simp at hv, ?_, y43, fun k hk => by simp at hk, fun k hk => by simp at hk⟩, ⟨nb + 1, nb + 1, d12, d73, by omega, by omega, by omega⟩⟩, fun _ z => absurd (d15.symm.trans z) (nn_neg (by omega))⟩) (fun b1 k k' d _ _ _ _ z => absurd z (noact k)) (fun b1 k d _ _ _ z => absurd z (noact k)) (fun b1 k k' u _ _ z => by rw [y24, i0] at z; omega) (fun b1 k u _ _ z => by rw [y24, i0] at z; omega) (fun _ _ s' g1 g2 g3 z => ?_) (fun s' b' m j g1 g2 g3 g4 g5 _ => ?_) (fun _ b1 m j z1 z2 z3 => ?_) (fun _ z => absurd (z.symm.trans d11) (by decide))
  · rcases (C i' h1).1.2.2.2 with z | ⟨s2, b2, z1, z2, z3, z4, z5, z6, z7⟩
    · rw [z.1] at h3
      exact absurd h3 (neg_nn (by omega))
    · have : s2 = sf := nn_inj (by omega) (by omega) (z2.symm.trans h3)
      subst this
      rw [h11] at z4
      exact absurd z4 (by decide)
  · have hd := act.lt ((SS s' g1).at g3).2.1 g5 g4 g6
    exact ⟨p.gr (by decide) hd, fun f hf => p.gi (by simp only [List.mem_cons, List.not_mem_nil, or_false] at hf ⊢; omega) hd⟩
  · obtain ⟨n, c1, c2, c3, c4, _⟩ := ((SS s' g1).at g3).2.1.2.2.2.2.1
    have hk : k < n := by rw [c3, iN_nn (by omega)] at g4; exact g4
    obtain ⟨u', u1, bs, st, o, id, d1, _⟩ := c4 k hk
    rw [g5] at u1
    cases u1
    exact fun f hf => p.gi (by simp only [List.mem_cons, List.not_mem_nil, or_false] at hf ⊢; omega) d1.1.2.2
  · rw [p.gi (by decide) (by omega), w.gA (by decide)]; exact a1
  · rw [w.gA (by decide)]; exact a2
  · rw [p.gi (by decide) (by omega), w.gA (by decide)]; exact a3
  · rw [w.gA (by decide)]; exact a4
  · rw [w.gA (by decide), w.gA (by decide)]; exact a5
  · rw [p.gi (by decide) (by omega), w.gA (by decide), w.gI (by decide)]; exact a6
  · rw [w.gA (by decide)]; exact ho
  · rw [p12.gr (by decide) (by omega)]; exact p7
  · exact W.stp p.1
  · rw [f1013, d16]
  · rw [d16]; exact v6
  · rw [f1015, d17]
  · rw [d17]; exact v8
  · rw [f1014, d18]; exact v9
  · rw [f1016, d19]
  · rw [d19]; exact vk
  · rw [p12.gi (by decide) (by omega)]; exact q1
  · rw [p12.gi (by decide) (by omega)]; exact q2
  · rw [p12.gi (by decide) (by omega)]; exact q3
  · rw [p12.gi (by decide) (by omega)]; exact q4
  · rcases SS s' g1 with ⟨y, _⟩ | ⟨_, b', _, Sb', _⟩
    · rw [g3] at y
      exact absurd y (by decide)
    · rcases z with z | ⟨z1, z2⟩
      · obtain ⟨k, nb', c1, c2, c3, c4, c5⟩ := Sb'.2.2.2.2.2.2.2.2
        rw [c1, d12] at z
        have e1 := nn_inj (by omega) (by omega) z
        rw [h73] at c2
        have e2 := nn_inj (by omega) (by omega) c2
        omega
      · refine fresh s' g1 g3 ⟨z1.trans did.1, fun k hk => ?_⟩
        have z1' : r.2.1 13 s' = nn ys.length := z1.trans did.1
        rw [z2 k (by omega) (by rw [z1', iN_nn (by omega)]; exact hk)]
        exact did.2 k hk
  · have hj' : (-1 : Int32) ≠ nn j := by
      rcases ((SS s' g1).at g3).2.1.2.2.2.1 with y | ⟨_, j2, _, y2, ⟨V, _, y3, _⟩, _⟩
      · rw [g4] at y; exact absurd y.1 (by simp)
      · rw [g5] at y2
        rw [y2]
        exact neg_nn (by have := y3.1; omega)
    refine ⟨fun b1 z1 => ?_, fun _ => ⟨fun k hk => ?_, fun k hk => ?_⟩⟩
    · rw [g34] at z1
      cases z1
      refine ⟨⟨?_, ?_⟩, fun k d _ h2 _ => absurd h2 (noact k)⟩
      · rw [f1011]; simp
      · rw [d20]; exact hj'
    · rw [y31, i0] at hk; omega
    · rw [y38, i0] at hk; omega
  · rw [g34] at z1
    cases z1
    rw [f1011] at z2
    cases z2
end NSA
