/-! ===== subscriptions of a session change ===== -/
section SBS
variable {x ec es ew s b n k u w w' o t st id e : Nat} {e0 : Int32} {h h' : Hp} {r r' : RS} {ys bs : List Nat}
theorem Rel.sbs (R : Rel x ec es ew e0 h r) (hs : s < 12) (hb : har h (x + 34) s = some b) (p : Fm x [1004, 1102, 1103] (fun a => a = b + 1) h h') (px : Hx x b 8 h h') (w : Ro [24, 25, 26, 27, 28, 29, 30, 92, 93, 94, 95, 96] r r') (wx : Ho s 8 r r') (hUu : SesU x h' r' ew s b)
    (hU : ∀ u, u < hnx h → (∃ k, k < iN (r.2.1 24 s) ∧ har h (b + 1) k = some u) ∨ ∀ f ∈ [1102, 1103, 1104, 1105], hfi h' f u = hfi h f u)
    (huS : ∀ k u, k < iN (r'.2.1 24 s) → har h' (b + 1) k = some u → hnx h ≤ u ∨ ∃ k0, k0 < iN (r.2.1 24 s) ∧ har h (b + 1) k0 = some u)
    (huI : ∀ k k' u, k < iN (r'.2.1 24 s) → k' < iN (r'.2.1 24 s) → har h' (b + 1) k = some u → har h' (b + 1) k' = some u → k = k') : Rel x ec es ew e0 h' r' := by
  have T := R.st
  have hx := T.1
  have Sb := R.ses hs hb
  have hb2 := Sb.1.2.1
  have hb4 := Sb.1.2.2.1
  have UD := R.2.2.2.2.2.1
  have e34 : har h' (x + 34) = har h (x + 34) := (p.2.2 (x + 34) (by omega) (by omega)).2.1
  have actE : ∀ q, act r' s q ↔ act r s q := fun q => by
    unfold act
    rw [w.gA (by decide), w.gA (by decide)]
  have dlE : ∀ q, dl h' b q = dl h b q := fun q => by
    unfold dl
    rw [(p.2.2 (b + 2) (by omega) (by omega)).2.1, (p.2.2 (b + 3) (by omega) (by omega)).2.1]
  refine R.same (i := 8) px wx hs hb e34 (R.2.1.fm T p w (by decide) (by decide)) (by rw [sSum.fm T p (by decide), w.gI (by decide)]; exact R.2.2.1) (w.gI (by decide)) (fun _ _ _ z => z) (fun _ _ _ z => z) (fun z => by omega) (by rw [w.gA (by decide)]) (by rw [w.gA (by decide)]) (fun _ _ _ _ => by rw [w.gA (by decide)]) (fun d hd => Or.inr ⟨p.gr (by decide) hd, fun f hf => p.gi ?_ hd⟩) hU (fun z => by omega) ?_ ?_ ?_ ?_ huS huI (p.gr (by decide) (by omega)) (by rw [w.gA (by decide)]) ?_ ?_
  · simp only [List.mem_cons, List.not_mem_nil, or_false] at hf ⊢
    omega
  · exact ⟨Sb.1.sto p.1, Sb.2.1.fm (by omega) p.1 w (by decide), Sb.2.2.1.fm (by omega) p w (by decide) (by decide), Sb.2.2.2.1.fm (by omega) p w (by decide) (by decide), hUu, Sb.2.2.2.2.2.1.fm hb4 p w (by decide) (by omega) (by decide), Sb.2.2.2.2.2.2.1.fm hb4 p w (by decide) (by omega) (by decide), Sb.2.2.2.2.2.2.2.1.fm hb4 p w (by decide) (by omega) (by decide), Sb.2.2.2.2.2.2.2.2.fm w (by decide)⟩
  · intro g
    exact (((R.2.2.2.2.1 s hs).at hb).2.2 g).fm (by omega) p w (by decide) (by decide)
  · intro q d hq hac hd
    rw [dlE] at hd
    exact ⟨⟨q, hq, (actE q).mp hac, hd⟩, p.gr (by decide) (act.lt Sb ((actE q).mp hac) hq hd)⟩
  · intro q q' d hq1 hq2 hac hac' hd1 hd2
    rw [dlE] at hd1 hd2
    exact (UD s s b b q q' d hs hs hb hb hq1 hq2 ((actE q).mp hac) ((actE q').mp hac') hd1 hd2).2
  · intro q hq1
    rw [w.gA (by decide)] at hq1
    exact Or.inl ⟨q, hq1, by rw [w.gA (by decide)]⟩
  · intro q hq1
    rw [w.gA (by decide)] at hq1
    exact Or.inr ⟨q, hq1, by rw [w.gA (by decide)]⟩
theorem Sub.mvd (c : Sub x h r 96 w u) (hw : w < 96) (p : Sto x h h') (hi : ∀ f ∈ [1102, 1103, 1104, 1105], hfi h' f u = hfi h f u) (hr : ∀ f ∈ [25, 27, 28, 29, 30], r'.2.1 f w' = r.2.1 f w) (h26 : ∀ q, q < 64 → r'.2.1 26 (64 * w' + q) = r.2.1 26 (64 * w + q)) : Sub x h' r' 96 w' u := by
  obtain ⟨bs, st, o, id, c1, ⟨c2, c3⟩, c4, c5, c6, c7⟩ := c
  have hl := (fstart_lt c1.2.2.1).2.1
  refine ⟨bs, st, o, id, c1.sto p, ⟨by rw [hr 25 (by decide)]; exact c2, fun q hq => ?_⟩, ⟨by rw [hi 1102 (by decide)]; exact c4.1, by rw [hr 27 (by decide)]; exact c4.2.1, c4.2.2⟩, ⟨by rw [hi 1103 (by decide)]; exact c5.1, by rw [hr 28 (by decide)]; exact c5.2.1, c5.2.2⟩, by rw [hi 1104 (by decide), hr 29 (by decide)]; exact c6, fun z _ => ?_⟩
  · rw [h26 q (by omega)]
    exact c3 q hq
  · rw [hi 1105 (by decide), hr 30 (by decide)]
    exact c7 z (by omega)
/-- a subscription's options change -/
theorem Rel.sbo (R : Rel x ec es 96 e0 h r) (hs : s < 12) (hb : har h (x + 34) s = some b) (hn : r.2.1 24 s = nn n) (hn2 : n ≤ 8) (hk : k < n) (hu : har h (b + 1) k = some u) (ho : o < 64) (ho2 : o % 4 ≤ 2) (hid : id < 268435456) : Rel x ec es 96 e0 (sfi (sfi h 1102 u (nn o)) 1103 u (nn id)) (sA (sA r 27 (8 * s + k) (nn o)) 28 (8 * s + k) (nn id)) := by
  have T := R.st
  have hx := T.1
  have Sb := R.ses hs hb
  have hb2 := Sb.1.2.1
  have hb4 := Sb.1.2.2.1
  have US := R.2.2.2.2.2.2.1
  obtain ⟨n', q1, q2, q3, q4, q5⟩ := Sb.2.2.2.2.1
  have en : n' = n := nn_inj (by omega) (by omega) (q3.symm.trans hn)
  subst en
  obtain ⟨h1, eh1⟩ : ∃ z, z = sfi (sfi h 1102 u (nn o)) 1103 u (nn id) := ⟨_, rfl⟩
  obtain ⟨r1, er1⟩ : ∃ z, z = sA (sA r 27 (8 * s + k) (nn o)) 28 (8 * s + k) (nn id) := ⟨_, rfl⟩
  have p : Fm x [1004, 1102, 1103] (fun a => a = b + 1) h h1 := by
    rw [eh1]
    exact (Fm.rf.fi (Or.inl (by decide)) (Or.inl (by decide))).fi (Or.inl (by decide)) (Or.inl (by decide))
  have px : Hx x b 8 h h1 := by
    rw [eh1]
    exact (Hx.rf.fi (Or.inl (Or.inr (Or.inr (Or.inr (Or.inl ⟨by omega, by omega⟩))))) (Or.inl (by decide))).fi (Or.inl (Or.inr (Or.inr (Or.inr (Or.inl ⟨by omega, by omega⟩))))) (Or.inl (by decide))
  have wr : Ro [24, 25, 26, 27, 28, 29, 30, 92, 93, 94, 95, 96] r r1 := by
    rw [er1]
    exact (Ro.rf.a (by decide)).a (by decide)
  have wx : Ho s 8 r r1 := by
    rw [er1]
    refine (Ho.rf.a (Or.inr (Or.inl ⟨by omega, by omega, ?_⟩))).a (Or.inr (Or.inl ⟨by omega, by omega, ?_⟩)) <;>
    · unfold ow
      rw [if_neg (by omega), if_neg (by omega), if_pos (by omega)]
      omega
  have e24 : r1.2.1 24 = r.2.1 24 := by rw [er1, sA_o (by decide), sA_o (by decide)]
  have eb1 : har h1 (b + 1) = har h (b + 1) := by rw [eh1]; rfl
  have hun : u < hnx h := by
    obtain ⟨u', c1, c2⟩ := q4 k hk
    rw [hu] at c1
    cases c1
    obtain ⟨_, _, _, _, c3, _⟩ := c2
    exact c3.1.2.2
  rw [← eh1, ← er1]
  refine R.sbs hs hb p px wr wx ⟨n', q1, ?_, by rw [e24]; exact q3, fun k' hk' => ?_, ?_⟩ (fun u' hu' => ?_) (fun k' u' h1 h2 => ?_) (fun k1 k2 u' h1 h2 h3 h4 => ?_)
  · rw [eh1, hfi_sfi, if_neg (by omega), hfi_sfi, if_neg (by omega)]
    exact q2
  · obtain ⟨u', c1, c2⟩ := q4 k' hk'
    refine ⟨u', by rw [eb1]; exact c1, ?_⟩
    by_cases z : k' = k
    · subst z
      rw [hu] at c1
      cases c1
      obtain ⟨bs, st, o', id', d1, d2, d3, d4, d5, d6⟩ := c2
      refine ⟨bs, st, o, id, d1.sto p.1, ?_, ⟨?_, ?_, ho, ho2⟩, ⟨?_, ?_, hid⟩, ?_, fun y y2 => ?_⟩
      · rw [er1, sA_o (by decide), sA_o (by decide), sA_o (by decide), sA_o (by decide)]
        exact d2
      · rw [eh1, hfi_sfi, if_neg (by omega), hfi_sfi, if_pos ⟨rfl, rfl⟩]
      · rw [er1, sA_o (by decide), sA_2, if_pos ⟨rfl, rfl⟩]
      · rw [eh1, hfi_sfi, if_pos ⟨rfl, rfl⟩]
      · rw [er1, sA_2, if_pos ⟨rfl, rfl⟩]
      · rw [eh1, hfi_sfi, if_neg (by omega), hfi_sfi, if_neg (by omega), er1, sA_o (by decide), sA_o (by decide)]
        exact d5
      · rw [eh1, hfi_sfi, if_neg (by omega), hfi_sfi, if_neg (by omega), er1, sA_o (by decide), sA_o (by decide)]
        exact d6 y y2
    · have hne : u' ≠ u := fun y => by
        subst y
        exact z (US s s b b k' k u' hs hs hb hb (by rw [hn, iN_nn (by omega)]; exact hk') (by rw [hn, iN_nn (by omega)]; exact hk) c1 hu).2
      refine c2.mvd (by omega) p.1 (fun f hf => ?_) (fun f hf => ?_) (fun q hq => ?_)
      · rw [eh1, hfi_sfi, if_neg (fun y => hne y.2), hfi_sfi, if_neg (fun y => hne y.2)]
      · rw [er1, sA_2, if_neg (fun y => by omega), sA_2, if_neg (fun y => by omega)]
      · rw [er1, sA_o (by decide), sA_o (by decide)]
  · intro k1 k2 u1 u2 bs st st' h1 h2 h3 h4 h5 h6
    rw [eb1] at h3 h4
    obtain ⟨u1', c1, bs1, st1, _, _, d1, _⟩ := q4 k1 h1
    obtain ⟨u2', c2, bs2, st2, _, _, d2, _⟩ := q4 k2 h2
    rw [h3] at c1
    cases c1
    rw [h4] at c2
    cases c2
    have e1 := (d1.sto p.1).inj h5
    have e2 := (d2.sto p.1).inj h6
    rw [e1] at d1
    rw [e2] at d2
    exact q5 k1 k2 u1 u2 bs st1 st2 h1 h2 h3 h4 d1 d2
  · by_cases z : u' = u
    · exact Or.inl ⟨k, by rw [hn, iN_nn (by omega)]; exact hk, by rw [z]; exact hu⟩
    · exact Or.inr (fun f hf => by rw [eh1, hfi_sfi, if_neg (fun y => z y.2), hfi_sfi, if_neg (fun y => z y.2)])
  · rw [e24] at h1
    rw [eb1] at h2
    exact Or.inr ⟨k', h1, h2⟩
  · rw [e24] at h1 h2
    rw [eb1] at h3 h4
    exact (US s s b b k1 k2 u' hs hs hb hb h1 h2 h3 h4).2
end SBS
