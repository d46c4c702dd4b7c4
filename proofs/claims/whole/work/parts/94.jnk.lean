/-! ===== what no place holds may change ===== -/
section JNK
variable {x ec es ew s b a0 : Nat} {e0 : Int32} {h h' : Hp} {r : RS}
theorem Rel.junk (R : Rel x ec es ew e0 h r) (hs : s < 12) (hb : har h (x + 34) s = some b) (st : Sto x h h')
    (hL : ∀ s' b' k', s' < 12 → har h (x + 34) s' = some b' → k' < 40 → act r s' k' → dl h b' k' ≠ some a0)
    (hf : ∀ f a, a < hnx h → (a ≠ a0 ∨ f ∉ [300, 301, 302, 303, 304, 305]) → hfi h' f a = hfi h f a ∧ hfl h' f a = hfl h f a ∧ hfr h' f a = hfr h f a)
    (hA : ∀ a, a < hnx h → hai h' a = hai h a ∧ hal h' a = hal h a ∧ (a ≠ b + 2 → har h' a = har h a)) (hW : ∀ k, k < iN (r.2.1 31 s) → har h' (b + 2) k = har h (b + 2) k) : Rel x ec es ew e0 h' r := by
  obtain ⟨T, G, sm, C, SS, U1, U2, U3, K, U4, f0, bs0, W⟩ := R
  have hx := T.1
  have S0 := ((SS s hs).at hb).2.1
  have T0 := S0.1
  have hb2 := T0.2.1
  have p : Fm x [300, 301, 302, 303, 304, 305] (fun a => a = b + 2) h h' := ⟨st, fun f hf' a ha => hf f a ha (Or.inr hf'), fun a ha hA' => ⟨(hA a ha).1, (hA a ha).2.2 hA', (hA a ha).2.1⟩⟩
  have w : Ro [] r r := Ro.rf
  have e34 : har h' (x + 34) = har h (x + 34) := (p.2.2 (x + 34) (by omega) (by omega)).2.1
  have hMp2 : ∀ m' j', MpT x h r m' j' → MpT x h' r m' j' := fun m' j' z => z.to p w (by decide) (by decide)
  have edl : ∀ s' b' k, s' < 12 → har h (x + 34) s' = some b' → act r s' k → k < 40 → dl h' b' k = dl h b' k := by
    intro s' b' k h1 h2 h3 h4
    have l1 := SesA.lt SS h1 h2
    have T' := ((SS s' h1).at h2).2.1.1
    have n1 := T0.ne T' 1 (by omega) (by omega)
    have n2 := T'.ne T0 1 (by omega) (by omega)
    unfold dl
    unfold act at h3
    by_cases h16 : k < 16
    · rw [if_pos h16] at h3
      rw [if_pos h16, if_pos h16]
      by_cases g : b' = b
      · have es' : s' = s := T'.inj (by rw [g]; exact T0) h1 hs
        rw [g]
        rw [es'] at h3
        exact hW k h3
      · rw [(hA (b' + 2) (by omega)).2.2 (by omega)]
    · rw [if_neg h16, if_neg h16, (hA (b' + 3) (by omega)).2.2 (by omega)]
  have ld : ∀ s' b' k d, s' < 12 → har h (x + 34) s' = some b' → act r s' k → k < 40 → dl h b' k = some d → d < hnx h ∧ d ≠ a0 := fun s' b' k d h1 h2 h3 h4 h5 => ⟨act.lt ((SS s' h1).at h2).2.1 h3 h4 h5, fun e => hL s' b' k h1 h2 h4 h3 (by rw [h5, e])⟩
  refine ⟨T.sto p.1, ?_, ?_, fun i hi => ?_, fun s' hs' => ?_, ?_, U2.fm T SS p w (by omega) (fun s' b' h1 h2 => ?_) (by decide), U3, K.fm T p w (by decide) (by omega) (by decide), ?_, f0, bs0, ?_⟩
  · unfold Glo
    rw [p.gi (f := 1309) (by decide) (by omega), p.gi (f := 1310) (by decide) (by omega), p.gi (f := 1311) (by decide) (by omega), p.gi (f := 1312) (by decide) (by omega), p.gi (f := 1313) (by decide) (by omega), p.gi (f := 1314) (by decide) (by omega), p.gi (f := 1315) (by decide) (by omega)]
    exact G
  · have e2 : ∀ j', j' < 8 → hfi h' 206 (cA x j') = hfi h 206 (cA x j') := fun j' hj => p.gi (by decide) (by have := T.cl hj; omega)
    unfold sSum
    rw [sm, e2 0 (by omega), e2 1 (by omega), e2 2 (by omega), e2 3 (by omega), e2 4 (by omega), e2 5 (by omega), e2 6 (by omega), e2 7 (by omega)]
    rfl
  · obtain ⟨c1, c2, c3, c4⟩ := C i hi
    exact ⟨c1.fm T hi p w (by decide) (by omega) (by decide), c2.fm T hi p w (by decide) (by show ¬ x + 2 + 4 * i + 1 = b + 2; omega) (by decide), c3.fm T hi p w (by show ¬ x + 2 + 4 * i + 3 = b + 2; omega) (by decide), fun hec => (c4 hec).fm T hi p w (by decide) (by show ¬ x + 2 + 4 * i + 2 = b + 2; omega) (by decide)⟩
  · rcases SS s' hs' with c | ⟨c1, b', c2, c3, c4⟩
    · exact Or.inl (by rw [e34]; exact c)
    · have hb' := c3.1.2.2.1
      have n1 := T0.ne c3.1 1 (by omega) (by omega)
      have n2 := c3.1.ne T0 1 (by omega) (by omega)
      have n3 := c3.1.ne T0 2 (by omega) (by omega)
      refine Or.inr ⟨c1, b', by rw [e34]; exact c2, ⟨c3.1.sto p.1, c3.2.1.fm (by omega) p.1 w (by decide), c3.2.2.1.fm (by omega) p w (by decide) (by decide), c3.2.2.2.1.fm (by omega) p w (by decide) (by decide), c3.2.2.2.2.1.fm hb' p w (by decide) (by omega) (by decide), ?_, ?_, c3.2.2.2.2.2.2.2.1.fm hb' p w (by decide) (by omega) (by decide), c3.2.2.2.2.2.2.2.2.fm w (by decide)⟩, fun g => (c4 g).fm (by omega) p w (by decide) (by decide)⟩
      · obtain ⟨n', y1, y2, y3, y4, y5⟩ := c3.2.2.2.2.2.1
        refine ⟨n', y1, by rw [p.gi (f := 1006) (by decide) (by omega)]; exact y2, y3, fun k hk => ?_, y5⟩
        obtain ⟨d', d1, d2⟩ := y4 k hk
        have ha : act r s' k := by
          unfold act
          rw [if_pos (by omega), y3, iN_nn (by omega)]
          exact hk
        have hd : dl h b' k = some d' := by
          unfold dl
          rw [if_pos (by omega)]
          exact d1
        have hd2 := edl s' b' k hs' c2 ha (by omega)
        have l := ld s' b' k d' hs' c2 ha (by omega) hd
        refine ⟨d', ?_, d2.chg p.1 (hf 300 d' l.1 (Or.inl l.2)).2.2 (fun f _ => (hf f d' l.1 (Or.inl l.2)).1) (fun _ _ => rfl) hMp2⟩
        rw [hd] at hd2
        unfold dl at hd2
        rw [if_pos (by omega)] at hd2
        exact hd2
      · obtain ⟨n', y1, y2, y3, y4⟩ := c3.2.2.2.2.2.2.1
        refine ⟨n', y1, by rw [p.gi (f := 1008) (by decide) (by omega)]; exact y2, y3, fun k hk => ?_⟩
        obtain ⟨d', d1, d2⟩ := y4 k hk
        have ha : act r s' (k + 16) := by
          unfold act
          rw [if_neg (by omega), y3, iN_nn (by omega)]
          omega
        have hd : dl h b' (k + 16) = some d' := by
          unfold dl
          rw [if_neg (by omega), Nat.add_sub_cancel]
          exact d1
        have l := ld s' b' (k + 16) d' hs' c2 ha (by omega) hd
        refine ⟨d', ?_, d2.chg p.1 (hf 300 d' l.1 (Or.inl l.2)).2.2 (fun f _ => (hf f d' l.1 (Or.inl l.2)).1) (fun _ _ => rfl) hMp2⟩
        rw [(hA (b' + 3) (by omega)).2.2 (by omega)]
        exact d1
  · intro s1 s2 b1 b2 k1 k2 d' h1 h2 h3 h4 h5 h6 h7 h8 h9 h10
    rw [e34] at h3 h4
    rw [edl s1 b1 k1 h1 h3 h7 h5] at h9
    rw [edl s2 b2 k2 h2 h4 h8 h6] at h10
    exact U1 s1 s2 b1 b2 k1 k2 d' h1 h2 h3 h4 h5 h6 h7 h8 h9 h10
  · have T' := ((SS s' h1).at h2).2.1.1
    have n1 := T0.ne T' 1 (by omega) (by omega)
    omega
  · intro s1 b1 m1 j1 h1 h2 h3 h4
    rw [e34] at h2
    have l1 := SesA.lt SS h1 h2
    rw [p.gr (by decide) (by omega)] at h3
    obtain ⟨q1, q2, q3, q4, q5, q6⟩ := U4 s1 b1 m1 j1 h1 h2 h3 h4
    rw [e34, (p.2.2 (x + 36) (by omega) (by omega)).2.1, p.gi (f := 801) (by decide) (by omega)]
    refine ⟨fun s2 b2 g1 g2 g3 => ?_, fun s2 b2 k d' g1 g2 g3 g4 g5 => ?_, q3, q4, q5, q6⟩
    · have l2 := SesA.lt SS g1 g3
      rw [p.gr (by decide) (by omega)]
      exact q1 s2 b2 g1 g2 g3
    · rw [edl s2 b2 k g1 g2 g4 g3] at g5
      have l := ld s2 b2 k d' g1 g2 g4 g3 g5
      rw [(hf 300 d' l.1 (Or.inl l.2)).2.2]
      exact q2 s2 b2 k d' g1 g2 g3 g4 g5
  · obtain ⟨⟨a1, a2, a3, a4⟩, a5, a6, a7, a8, a9⟩ := W
    refine ⟨⟨?_, ?_, ?_, ?_⟩, ?_, ?_, ?_, a8, a9⟩
    · rw [(st.2.1 (x + 46) (by omega)).1]; exact a1
    · rw [p.gr (by decide) (by omega)]; exact a2
    · rw [(st.2.1 (x + 46 + 1) (by omega)).1]; exact a3
    · rw [(st.2.1 (x + 46 + 1) (by omega)).2]; exact a4
    · rw [p.gi (f := 1200) (by decide) (by omega)]; exact a5
    · rw [p.gi (f := 1202) (by decide) (by omega)]; exact a6
    · rw [(p.2.2 (x + 46 + 1) (by omega) (by omega)).1]; exact a7
/-- the count of what is dropped goes up, in both -/
theorem Rel.drop (R : Rel x ec es ew e0 h r) : Rel x ec es ew e0 (sfi h 1312 x (hfi h 1312 x + 1)) (sI r 70 (r.1 70 + 1)) := by
  obtain ⟨T, G, sm, C, SS, U1, U2, U3, K, U4, f0, bs0, W⟩ := R
  have hx := T.1
  have p : Fm x [1312] (fun _ => False) h (sfi h 1312 x (hfi h 1312 x + 1)) := Fm.fi Fm.rf (Or.inl (by decide)) (Or.inl (by decide))
  have w : Ro [70] r (sI r 70 (r.1 70 + 1)) := Ro.rf.i (by decide)
  refine ⟨T.sto p.1, ?_, ?_, fun i hi => ?_, fun s' hs' => ?_, U1.fm T SS p w (fun z => z) (fun _ _ _ _ => ⟨fun z => z, fun z => z⟩) (by decide), U2.fm T SS p w (fun z => z) (fun _ _ _ _ z => z) (by decide), U3.fm w (by decide), K.fm T p w (by decide) (fun z => z) (by decide), U4.fm T SS p w (by decide) ⟨fun z => z, fun z => z⟩ (fun _ _ _ _ => ⟨fun z => z, fun z => z⟩) (by decide), f0, bs0, ?_⟩
  · obtain ⟨g1, g2, g3, g4, g5, g6, g7, g8⟩ := G
    refine ⟨g1, ?_, ?_, ?_, ?_, ?_, ?_, ?_⟩
    · rw [p.gi (f := 1309) (by decide) (by omega)]; exact g2
    · rw [p.gi (f := 1310) (by decide) (by omega)]; exact g3
    · rw [p.gi (f := 1311) (by decide) (by omega)]; exact g4
    · rw [hfi_sfi, if_pos ⟨rfl, rfl⟩, sI_1, if_pos rfl, g5]
    · rw [p.gi (f := 1314) (by decide) (by omega)]; exact g6
    · rw [p.gi (f := 1315) (by decide) (by omega)]; exact g7
    · rw [p.gi (f := 1313) (by decide) (by omega)]; exact g8
  · have e2 : ∀ j', j' < 8 → hfi (sfi h 1312 x (hfi h 1312 x + 1)) 206 (cA x j') = hfi h 206 (cA x j') := fun j' hj => p.gi (by decide) (by have := T.cl hj; omega)
    unfold sSum
    rw [w.gI (k := 68) (by decide), sm, e2 0 (by omega), e2 1 (by omega), e2 2 (by omega), e2 3 (by omega), e2 4 (by omega), e2 5 (by omega), e2 6 (by omega), e2 7 (by omega)]
    rfl
  · obtain ⟨c1, c2, c3, c4⟩ := C i hi
    exact ⟨c1.fm T hi p w (by decide) (fun z => z) (by decide), c2.fm T hi p w (by decide) (fun z => z) (by decide), c3.fm T hi p w (fun z => z) (by decide), fun hec => (c4 hec).fm T hi p w (by decide) (fun z => z) (by decide)⟩
  · rcases SS s' hs' with c | ⟨c1, b', c2, c3, c4⟩
    · exact Or.inl c
    · have hb' := c3.1.2.2.1
      refine Or.inr ⟨c1, b', c2, ⟨c3.1.sto p.1, c3.2.1.fm (by omega) p.1 w (by decide), c3.2.2.1.fm (by omega) p w (by decide) (by decide), c3.2.2.2.1.fm (by omega) p w (by decide) (by decide), c3.2.2.2.2.1.fm hb' p w (by decide) (fun z => z) (by decide), c3.2.2.2.2.2.1.fm hb' p w (by decide) (fun z => z) (by decide), c3.2.2.2.2.2.2.1.fm hb' p w (by decide) (fun z => z) (by decide), c3.2.2.2.2.2.2.2.1.fm hb' p w (by decide) (fun z => z) (by decide), c3.2.2.2.2.2.2.2.2.fm w (by decide)⟩, fun g => (c4 g).fm (by omega) p w (by decide) (by decide)⟩
  · obtain ⟨⟨a1, a2, a3, a4⟩, a5, a6, a7, a8, a9⟩ := W
    refine ⟨⟨a1, a2, a3, a4⟩, ?_, ?_, a7, a8, a9⟩
    · rw [p.gi (f := 1200) (by decide) (by omega)]; exact a5
    · rw [p.gi (f := 1202) (by decide) (by omega)]; exact a6
end JNK
