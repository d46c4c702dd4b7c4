/-! ===== what stays when other fields change ===== -/
section FRS
variable {x i a b s m j u d ew : Nat} {F S : List Nat} {A : Nat → Prop} {h h' : Hp} {r r' : RS}
theorem Fm.gi {f : Nat} (p : Fm x F A h h') (hf : f ∉ F) (ha : a < hnx h) : hfi h' f a = hfi h f a := (p.2.1 f hf a ha).1
theorem Fm.gl {f : Nat} (p : Fm x F A h h') (hf : f ∉ F) (ha : a < hnx h) : hfl h' f a = hfl h f a := (p.2.1 f hf a ha).2.1
theorem Fm.gr {f : Nat} (p : Fm x F A h h') (hf : f ∉ F) (ha : a < hnx h) : hfr h' f a = hfr h f a := (p.2.1 f hf a ha).2.2
theorem Ro.gI {k : Nat} (w : Ro S r r') (hk : k ∉ S) : r'.1 k = r.1 k := (w k hk).1
theorem Ro.gA {k : Nat} (w : Ro S r r') (hk : k ∉ S) : r'.2.1 k = r.2.1 k := (w k hk).2.1
theorem Ro.gL {k : Nat} (w : Ro S r r') (hk : k ∉ S) : r'.2.2 k = r.2.2 k := (w k hk).2.2
theorem Stat.cl (T : Stat x h) (hi : i < 8) : cA x i + 3 < hnx h := by
  have := T.1
  show x + 2 + 4 * i + 3 < hnx h
  omega
theorem CoA.fm (c : CoA x h r i) (T : Stat x h) (hi : i < 8) (p : Fm x F A h h') (w : Ro S r r') (hF : ∀ f ∈ [201, 205, 212, 202], f ∉ F) (hA : ¬ A (x + 34)) (hS : ∀ k ∈ [1, 2, 7, 8, 11, 15, 66], k ∉ S) : CoA x h' r' i := by
  have hc := T.cl hi
  have hx := T.1
  unfold CoA
  rw [p.gi (hF 201 (by decide)) (by omega), p.gi (hF 205 (by decide)) (by omega), p.gi (hF 212 (by decide)) (by omega), p.gr (hF 202 (by decide)) (by omega), w.gA (hS 1 (by decide)), w.gA (hS 2 (by decide)), w.gA (hS 7 (by decide)), w.gA (hS 8 (by decide)), w.gA (hS 11 (by decide)), w.gA (hS 15 (by decide)), w.gI (hS 66 (by decide)), (p.2.2 (x + 34) (by omega) hA).2.1]
  exact c
theorem CoO.fm (c : CoO x h r i) (T : Stat x h) (hi : i < 8) (p : Fm x F A h h') (w : Ro S r r') (hF : 204 ∉ F) (hA : ¬ A (cA x i + 1)) (hS : ∀ k ∈ [3, 4], k ∉ S) : CoO x h' r' i := by
  have hc := T.cl hi
  unfold CoO OutC OutM
  rw [p.gi hF (by omega), (p.2.2 (cA x i + 1) (by omega) hA).1, w.gA (hS 3 (by decide)), w.gA (hS 4 (by decide))]
  exact c
theorem CoL.fm (c : CoL x h r i) (T : Stat x h) (hi : i < 8) (p : Fm x F A h h') (w : Ro S r r') (hA : ¬ A (cA x i + 3)) (hS : ∀ k ∈ [1, 9, 10], k ∉ S) : CoL x h' r' i := by
  have hc := T.cl hi
  intro k hk
  rw [(p.2.2 (cA x i + 3) (by omega) hA).2.1, w.gA (hS 1 (by decide)), w.gA (hS 9 (by decide)), w.gA (hS 10 (by decide))]
  rcases c k hk with z | ⟨a, bs, z1, z2, z3⟩
  · exact Or.inl z
  · exact Or.inr ⟨a, bs, z1, z2.stp p.1, z3⟩
theorem CoI.fm (c : CoI x h r i) (T : Stat x h) (hi : i < 8) (p : Fm x F A h h') (w : Ro S r r') (hF : ∀ f ∈ [208, 209, 210], f ∉ F) (hA : ¬ A (cA x i + 2)) (hS : ∀ k ∈ [1, 5, 6], k ∉ S) : CoI x h' r' i := by
  have hc := T.cl hi
  unfold CoI
  rw [p.gi (hF 208 (by decide)) (by omega), p.gi (hF 209 (by decide)) (by omega), p.gi (hF 210 (by decide)) (by omega), (p.2.2 (cA x i + 2) (by omega) hA).1, w.gA (hS 1 (by decide)), w.gA (hS 5 (by decide)), w.gA (hS 6 (by decide))]
  exact c
theorem Mp.to (c : Mp x h r m j) (p : Sto x h h') (w : Sj r r' j) : Mp x h' r' m j := by
  obtain ⟨V, v1, v2, v3⟩ := c
  exact ⟨V, v1.sto p, v2.sj v3.1.2 w, v3⟩
theorem MpT.to (c : MpT x h r m j) (p : Fm x F A h h') (w : Ro S r r') (hF : 508 ∉ F) (hS : ∀ k ∈ [45, 46, 47, 48, 49, 50, 51, 52, 53, 54, 55, 56, 57, 58, 59, 60, 61, 66], k ∉ S) : MpT x h' r' m j := by
  obtain ⟨c1, c2⟩ := c
  have hm : m < hnx h := by
    obtain ⟨V, v1, _⟩ := c1
    exact v1.2.2.1
  refine ⟨c1.to p.1 (w.sj (fun k hk => hS k ?_)), ?_⟩
  · simp only [List.mem_cons, List.not_mem_nil, or_false] at hk ⊢
    omega
  · rw [p.gi hF hm, w.gA (hS 51 (by decide)), w.gI (hS 66 (by decide))]
    exact c2
theorem Wy.fm {k : Nat} (c : Wy x h r k d) (p : Fm x F A h h') (w : Ro S r r') (hF : ∀ f ∈ [300, 301, 302, 303, 304, 305, 508], f ∉ F) (hS : ∀ k ∈ [32, 33, 34, 35, 36, 37, 45, 46, 47, 48, 49, 50, 51, 52, 53, 54, 55, 56, 57, 58, 59, 60, 61, 66], k ∉ S) : Wy x h' r' k d := by
  obtain ⟨m, j, q, fl, id, num, ⟨c1, c2, c3⟩, c4, c5, c6, c7⟩ := c
  refine ⟨m, j, q, fl, id, num, ⟨by rw [(p.1.2.1 d c3).1]; exact c1, c2, Nat.lt_of_lt_of_le c3 p.1.1⟩, by rw [p.gr (hF 300 (by decide)) c3]; exact c4, by rw [w.gA (hS 33 (by decide))]; exact c5, c6.to p w (hF 508 (by decide)) (fun k hk => hS k ?_), ?_⟩
  · simp only [List.mem_cons, List.not_mem_nil, or_false] at hk ⊢
    omega
  · rw [p.gi (hF 301 (by decide)) c3, p.gi (hF 302 (by decide)) c3, p.gi (hF 303 (by decide)) c3, p.gi (hF 304 (by decide)) c3, p.gi (hF 305 (by decide)) c3, w.gA (hS 32 (by decide)), w.gA (hS 34 (by decide)), w.gA (hS 35 (by decide)), w.gA (hS 36 (by decide)), w.gA (hS 37 (by decide))]
    exact c7
theorem Wt.fm {k : Nat} (c : Wt x h r k d) (p : Fm x F A h h') (w : Ro S r r') (hF : ∀ f ∈ [300, 301, 302, 303, 305, 508], f ∉ F) (hS : ∀ k ∈ [39, 40, 41, 42, 45, 46, 47, 48, 49, 50, 51, 52, 53, 54, 55, 56, 57, 58, 59, 60, 61, 66], k ∉ S) : Wt x h' r' k d := by
  obtain ⟨m, j, q, fl, id, ⟨c1, c2, c3⟩, c4, c5, c6, c7⟩ := c
  refine ⟨m, j, q, fl, id, ⟨by rw [(p.1.2.1 d c3).1]; exact c1, c2, Nat.lt_of_lt_of_le c3 p.1.1⟩, by rw [p.gr (hF 300 (by decide)) c3]; exact c4, by rw [w.gA (hS 39 (by decide))]; exact c5, c6.to p w (hF 508 (by decide)) (fun k hk => hS k ?_), ?_⟩
  · simp only [List.mem_cons, List.not_mem_nil, or_false] at hk ⊢
    omega
  · rw [p.gi (hF 301 (by decide)) c3, p.gi (hF 302 (by decide)) c3, p.gi (hF 303 (by decide)) c3, p.gi (hF 305 (by decide)) c3, w.gA (hS 40 (by decide)), w.gA (hS 41 (by decide)), w.gA (hS 42 (by decide))]
    exact c7
theorem SubT.sto {bs : List Nat} {st : Nat} (c : SubT x h u bs st) (p : Sto x h h') : SubT x h' u bs st := by
  obtain ⟨⟨c1, c2, c3⟩, ⟨t, c4, c5⟩, c6, c7⟩ := c
  exact ⟨⟨by rw [(p.2.1 u c3).1]; exact c1, c2, Nat.lt_of_lt_of_le c3 p.1⟩, ⟨t, by rw [(p.2.2.1 u c3).1 1100 (by decide)]; exact c4, c5.stp p⟩, c6, by rw [(p.2.2.1 u c3).2.1 1101 (by decide)]; exact c7⟩
theorem Sub.fm {k : Nat} (c : Sub x h r ew k u) (p : Fm x F A h h') (w : Ro S r r') (hF : ∀ f ∈ [1102, 1103, 1104, 1105], f ∉ F) (hS : ∀ k ∈ [25, 26, 27, 28, 29, 30], k ∉ S) : Sub x h' r' ew k u := by
  obtain ⟨bs, st, o, id, c1, c2⟩ := c
  have hu := c1.1.2.2
  refine ⟨bs, st, o, id, c1.sto p.1, ?_⟩
  rw [p.gi (hF 1102 (by decide)) hu, p.gi (hF 1103 (by decide)) hu, p.gi (hF 1104 (by decide)) hu, p.gi (hF 1105 (by decide)) hu, w.gA (hS 25 (by decide)), w.gA (hS 26 (by decide)), w.gA (hS 27 (by decide)), w.gA (hS 28 (by decide)), w.gA (hS 29 (by decide)), w.gA (hS 30 (by decide))]
  exact c2
theorem SesT.sto (c : SesT x h s b) (p : Sto x h h') : SesT x h' s b := by
  obtain ⟨c1, c2, c3, c4, c5, c6, c7, c8⟩ := c
  have k : ∀ e, e ≤ 4 → hkd h' (b + e) = hkd h (b + e) := fun e he => (p.2.1 _ (by omega)).1
  have l : ∀ e, e ≤ 4 → hln h' (b + e) = hln h (b + e) := fun e he => (p.2.1 _ (by omega)).2
  have f := p.2.2.1 b (by omega)
  have k0 : hkd h' b = hkd h b := k 0 (by omega)
  unfold SesT
  rw [k0, f.2.1 1000 (by decide), f.1 1003 (by decide), f.1 1005 (by decide), f.1 1007 (by decide), f.1 1009 (by decide), k 1 (by omega), k 2 (by omega), k 3 (by omega), k 4 (by omega), l 1 (by omega), l 2 (by omega), l 3 (by omega), l 4 (by omega)]
  exact ⟨c1, c2, Nat.lt_of_lt_of_le c3 p.1, c4, c5, c6, c7, c8⟩
theorem SesI.fm (c : SesI x h r s b) (hb : b < hnx h) (p : Sto x h h') (w : Ro S r r') (hS : ∀ k ∈ [13, 14], k ∉ S) : SesI x h' r' s b := by
  obtain ⟨i, bs, c1, c2, c3⟩ := c
  refine ⟨i, bs, by rw [(p.2.2.1 b hb).1 1001 (by decide)]; exact c1, c2.stp p, ?_⟩
  rw [w.gA (hS 13 (by decide)), w.gA (hS 14 (by decide))]
  exact c3
theorem SesV.fm (c : SesV x h r s b) (hb : b < hnx h) (p : Fm x F A h h') (w : Ro S r r') (hF : ∀ f ∈ [1002, 1013, 1014, 1015, 1016], f ∉ F) (hS : ∀ k ∈ [7, 15, 16, 17, 18, 19], k ∉ S) : SesV x h' r' s b := by
  unfold SesV
  rw [p.gl (hF 1013 (by decide)) hb, p.gl (hF 1014 (by decide)) hb, p.gi (hF 1015 (by decide)) hb, p.gi (hF 1016 (by decide)) hb, p.gr (hF 1002 (by decide)) hb, w.gA (hS 7 (by decide)), w.gA (hS 15 (by decide)), w.gL (hS 16 (by decide)), w.gA (hS 17 (by decide)), w.gL (hS 18 (by decide)), w.gA (hS 19 (by decide))]
  exact c
theorem SesW.fm (c : SesW x h r s b) (hb : b < hnx h) (p : Fm x F A h h') (w : Ro S r r') (hF : ∀ f ∈ [1011, 1012], f ∉ F) (hS : ∀ k ∈ [20, 21, 45, 46, 47, 48, 49, 50, 52, 53, 54, 55, 56, 57, 58, 59, 60, 61], k ∉ S) : SesW x h' r' s b := by
  unfold SesW
  rw [p.gr (hF 1011 (by decide)) hb, p.gl (hF 1012 (by decide)) hb, w.gA (hS 20 (by decide)), w.gL (hS 21 (by decide))]
  rcases c with c | ⟨m, j, c1, c2, c3, c4⟩
  · exact Or.inl c
  · refine Or.inr ⟨m, j, c1, c2, c3.to p.1 (w.sj (fun k hk => hS k ?_)), c4⟩
    simp only [List.mem_cons, List.not_mem_nil, or_false] at hk ⊢
    omega
theorem Rw.inj {t : Nat} {bs bs2 : List Nat} (c5 : Rw x h t bs) (d5 : Rw x h t bs2) : bs = bs2 := by
  obtain ⟨_, _, b1, y, r4, r5, r6, r7, r8, r9⟩ := c5
  obtain ⟨_, _, b2, y2, q4, q5, q6, q7, q8, q9⟩ := d5
  rw [r4] at q4
  cases q4
  have hl : bs.length = bs2.length := r7.symm.trans q7
  apply List.ext_getElem hl
  intro i h1 h2
  have e1 := r8 i h1
  have e2 := q8 i h2
  have e3 : nn (bs.getD i 0) = nn (bs2.getD i 0) := e1.symm.trans e2
  have e4 := nn_inj (by have := b1.at i; omega) (by have := b2.at i; omega) e3
  rw [List.getD_eq_getElem?_getD, List.getD_eq_getElem?_getD, List.getElem?_eq_getElem h1, List.getElem?_eq_getElem h2] at e4
  exact e4
/-- a session's name stays -/
theorem SesI.eq (c : SesI x h r s b) (c' : SesI x h' r' s b) (hb : b < hnx h) (p : Sto x h h') : r'.2.1 13 s = r.2.1 13 s ∧ ∀ k, k < 20 → k < iN (r.2.1 13 s) → r'.2.1 14 (20 * s + k) = r.2.1 14 (20 * s + k) := by
  obtain ⟨i, bs, c1, c2, c3, c4, c5⟩ := c
  obtain ⟨i', bs', d1, d2, d3, d4, d5⟩ := c'
  rw [(p.2.2.1 b hb).1 1001 (by decide), c1] at d1
  cases d1
  have e := (c2.stp p).inj d2
  subst e
  refine ⟨d4.trans c4.symm, fun k _ hk => ?_⟩
  rw [c4, iN_nn (by omega)] at hk
  exact (d5 k hk).trans (c5 k hk).symm
theorem SubT.inj {bs bs2 : List Nat} {st st2 : Nat} (c : SubT x h u bs st) (c2 : SubT x h u bs2 st2) : bs = bs2 := by
  obtain ⟨_, ⟨t, c4, c5⟩, _⟩ := c
  obtain ⟨_, ⟨t2, d4, d5⟩, _⟩ := c2
  rw [c4] at d4
  cases d4
  obtain ⟨_, _, b1, y, r4, r5, r6, r7, r8, r9⟩ := c5
  obtain ⟨_, _, b2, y2, q4, q5, q6, q7, q8, q9⟩ := d5
  rw [r4] at q4
  cases q4
  have hl : bs.length = bs2.length := r7.symm.trans q7
  apply List.ext_getElem hl
  intro i h1 h2
  have e1 := r8 i h1
  have e2 := q8 i h2
  have e3 : nn (bs.getD i 0) = nn (bs2.getD i 0) := e1.symm.trans e2
  have e4 := nn_inj (by have := b1.at i; omega) (by have := b2.at i; omega) e3
  rw [List.getD_eq_getElem?_getD, List.getD_eq_getElem?_getD, List.getElem?_eq_getElem h1, List.getElem?_eq_getElem h2] at e4
  exact e4
theorem SesU.fm (c : SesU x h r ew s b) (hb : b + 4 < hnx h) (p : Fm x F A h h') (w : Ro S r r') (hF : ∀ f ∈ [1004, 1102, 1103, 1104, 1105], f ∉ F) (hA : ¬ A (b + 1)) (hS : ∀ k ∈ [24, 25, 26, 27, 28, 29, 30], k ∉ S) : SesU x h' r' ew s b := by
  obtain ⟨n, c1, c2, c3, c4, c5⟩ := c
  have e := (p.2.2 (b + 1) (by omega) hA).2.1
  refine ⟨n, c1, by rw [p.gi (hF 1004 (by decide)) (by omega)]; exact c2, by rw [w.gA (hS 24 (by decide))]; exact c3, fun k hk => ?_, fun k k' u u' bs st st' h1 h2 h3 h4 h5 h6 => ?_⟩
  · obtain ⟨u, u1, u2⟩ := c4 k hk
    refine ⟨u, by rw [e]; exact u1, u2.fm p w (fun f hf => hF f ?_) (fun k hk => hS k ?_)⟩
    · simp only [List.mem_cons, List.not_mem_nil, or_false] at hf ⊢
      omega
    · simp only [List.mem_cons, List.not_mem_nil, or_false] at hk ⊢
      omega
  · rw [e] at h3 h4
    obtain ⟨v, v1, v2⟩ := c4 k h1
    obtain ⟨v', v1', v2'⟩ := c4 k' h2
    rw [h3] at v1
    cases v1
    rw [h4] at v1'
    cases v1'
    obtain ⟨bs1, st1, _, _, g1, _⟩ := v2
    obtain ⟨bs2, st2, _, _, g2, _⟩ := v2'
    have e1 := (g1.sto p.1).inj h5
    have e2 := (g2.sto p.1).inj h6
    subst e1
    exact c5 k k' u u' bs1 st1 st2 h1 h2 h3 h4 g1 (by rw [← e2]; exact g2)
theorem SesY.fm (c : SesY x h r s b) (hb : b + 4 < hnx h) (p : Fm x F A h h') (w : Ro S r r') (hF : ∀ f ∈ [300, 301, 302, 303, 304, 305, 508, 1006], f ∉ F) (hA : ¬ A (b + 2)) (hS : ∀ k ∈ [31, 32, 33, 34, 35, 36, 37, 45, 46, 47, 48, 49, 50, 51, 52, 53, 54, 55, 56, 57, 58, 59, 60, 61, 66], k ∉ S) : SesY x h' r' s b := by
  obtain ⟨n, c1, c2, c3, c4, c5⟩ := c
  refine ⟨n, c1, by rw [p.gi (hF 1006 (by decide)) (by omega)]; exact c2, by rw [w.gA (hS 31 (by decide))]; exact c3, fun k hk => ?_, ?_⟩
  · obtain ⟨d, d1, d2⟩ := c4 k hk
    refine ⟨d, by rw [(p.2.2 (b + 2) (by omega) hA).2.1]; exact d1, d2.fm p w (fun f hf => hF f ?_) (fun k hk => hS k ?_)⟩
    · simp only [List.mem_cons, List.not_mem_nil, or_false] at hf ⊢
      omega
    · simp only [List.mem_cons, List.not_mem_nil, or_false] at hk ⊢
      omega
  · rw [w.gA (hS 32 (by decide))]
    exact c5
theorem SesQ.fm (c : SesQ x h r s b) (hb : b + 4 < hnx h) (p : Fm x F A h h') (w : Ro S r r') (hF : ∀ f ∈ [300, 301, 302, 303, 305, 508, 1008], f ∉ F) (hA : ¬ A (b + 3)) (hS : ∀ k ∈ [38, 39, 40, 41, 42, 45, 46, 47, 48, 49, 50, 51, 52, 53, 54, 55, 56, 57, 58, 59, 60, 61, 66], k ∉ S) : SesQ x h' r' s b := by
  obtain ⟨n, c1, c2, c3, c4⟩ := c
  refine ⟨n, c1, by rw [p.gi (hF 1008 (by decide)) (by omega)]; exact c2, by rw [w.gA (hS 38 (by decide))]; exact c3, fun k hk => ?_⟩
  obtain ⟨d, d1, d2⟩ := c4 k hk
  refine ⟨d, by rw [(p.2.2 (b + 3) (by omega) hA).2.1]; exact d1, d2.fm p w (fun f hf => hF f ?_) (fun k hk => hS k ?_)⟩
  · simp only [List.mem_cons, List.not_mem_nil, or_false] at hf ⊢
    omega
  · simp only [List.mem_cons, List.not_mem_nil, or_false] at hk ⊢
    omega
theorem SesH.fm (c : SesH h r s b) (hb : b + 4 < hnx h) (p : Fm x F A h h') (w : Ro S r r') (hF : 1010 ∉ F) (hA : ¬ A (b + 4)) (hS : ∀ k ∈ [43, 44], k ∉ S) : SesH h' r' s b := by
  unfold SesH
  rw [p.gi hF (by omega), (p.2.2 (b + 4) (by omega) hA).1, w.gA (hS 43 (by decide)), w.gA (hS 44 (by decide))]
  exact c
theorem SesB.fm (c : SesB r s) (w : Ro S r r') (hS : ∀ k ∈ [12, 73], k ∉ S) : SesB r' s := by
  unfold SesB
  rw [w.gA (hS 12 (by decide)), w.gI (hS 73 (by decide))]
  exact c
theorem SesZ.fm (c : SesZ h r s b) (hb : b < hnx h) (p : Fm x F A h h') (w : Ro S r r') (hF : 1017 ∉ F) (hS : ∀ k ∈ [15, 16, 20, 21, 22, 23, 66], k ∉ S) : SesZ h' r' s b := by
  unfold SesZ
  rw [p.gi hF hb, w.gA (hS 15 (by decide)), w.gL (hS 16 (by decide)), w.gA (hS 20 (by decide)), w.gL (hS 21 (by decide)), w.gL (hS 22 (by decide)), w.gL (hS 23 (by decide)), w.gI (hS 66 (by decide))]
  exact c
end FRS
