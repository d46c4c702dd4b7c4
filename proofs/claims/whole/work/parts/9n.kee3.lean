section KEN
variable {x ec es ew m j : Nat} {e0 : Int32} {h h' : Hp} {r r' : RS} {K ks : List Nat}
/-- the store with one more, or another, at place a -/
theorem Rel.in1 {a c : Nat} {F : Nat → Option Nat} {K' : List Nat} (R : Rel x ec es ew e0 h r) (hK : KL r K) (hc : hfi h 801 (x + 35) = nn K.length) (he : ∀ k, k < K.length → ∃ m, har h (x + 36) k = some m ∧ MpT x h r m (K.getD k 0)) (M : Msg x h r m j) (w : Ro [64, 65] r r') (hK' : KL r' ks) (hKC : KC r' ks) (hks : ks.filter (fun j => !gon r' j) = K') (hc' : c = K'.length) (hF : ∀ k, k < c → (F k = some m ∧ K'.getD k 0 = j) ∨ (k < K.length ∧ F k = har h (x + 36) k ∧ K'.getD k 0 = K.getD k 0)) (hq : ∀ q ∈ ks, q ∈ K ∨ q = j) :
    Rel x ec es ew e0 (sfi (sar h (x + 36) F) 801 (x + 35) (nn c)) r' ∧ Fm x [801] (fun a => a = x + 36) h (sfi (sar h (x + 36) F) 801 (x + 35) (nn c)) := by
  have hx := R.st.1
  have hl := hK.2.1
  have p : Fm x [801] (fun a => a = x + 36) h (sfi (sar h (x + 36) F) 801 (x + 35) (nn c)) := by
    refine Fm.fi (Fm.ar Fm.rf (Or.inl rfl) (by omega)) ?_ ?_
    · exact Or.inl (by decide)
    · exact Or.inl (by decide)
  have hc16 : c ≤ 16 := by
    rw [hc', ← hks]
    exact Nat.le_trans (List.length_filter_le _ _) hK'.2.1
  refine ⟨R.store p w (Kep.mk hK' hKC hks ?_ (fun k hk => ?_)) rfl rfl (fun s b m2 j2 h1 h2 h3 h4 => ?_), p⟩
  · rw [hfi_sfi, if_pos ⟨rfl, rfl⟩, hc']
  · rw [har_sfi, har_sar, if_pos rfl]
    rcases hF k (by omega) with ⟨z1, z2⟩ | ⟨z0, z1, z2⟩
    · exact ⟨m, z1, by rw [z2]; exact M.1.to p w (by decide) (by decide)⟩
    · obtain ⟨m', a1, a2⟩ := he k z0
      exact ⟨m', by rw [z1]; exact a1, by rw [z2]; exact a2.to p w (by decide) (by decide)⟩
  · obtain ⟨_, _, _, _, q5, q6⟩ := R.2.2.2.2.2.2.2.2.2.1 s b m2 j2 h1 h2 h3 h4
    rw [hc, iN_nn (by omega)] at q5
    rw [hK.1, iN_nn (by omega)] at q6
    have hm := M.2.2 s b h1 h2
    refine ⟨fun k hk => ?_, fun k hk => ?_⟩
    · rw [hfi_sfi, if_pos ⟨rfl, rfl⟩, iN_nn (by omega)] at hk
      rw [har_sfi, har_sar, if_pos rfl]
      rcases hF k hk with ⟨z1, _⟩ | ⟨z0, z1, _⟩
      · rw [z1]
        intro e
        cases e
        exact hm.1 h3
      · rw [z1]
        exact q5 k z0
    · rw [hK'.1, iN_nn (by have := hK'.2.1; omega)] at hk
      rw [(hK'.2.2 k hk).1]
      rcases hq _ (mem_getD hk) with z | z
      · obtain ⟨k0, z1, z2⟩ := getD_of_mem z
        have := q6 k0 z1
        rw [(hK.2.2 k0 z1).1, z2] at this
        exact this
      · intro e
        exact hm.2 (by rw [h4, ← e, z])
theorem sar_sfi {h : Hp} {a f b : Nat} {F : Nat → Option Nat} {v : Int32} : sfi (sar h a F) f b v = sar (sfi h f b v) a F := rfl
theorem gD_set (l : List Nat) (a k v : Nat) (ha : a < l.length) : (l.set a v).getD k 0 = if k = a then v else l.getD k 0 := by
  rw [List.getD_eq_getElem?_getD, List.getD_eq_getElem?_getD, List.getElem?_set]
  by_cases g : a = k
  · rw [if_pos g, if_pos g.symm, if_pos (by omega)]
    rfl
  · rw [if_neg g, if_neg (fun z => g z.symm)]
theorem filter_set {p : Nat → Bool} {l : List Nat} {a v : Nat} (ha : a < l.length) (hv : p v = false) (hl : ∀ q ∈ l, p q = true) : (l.set a v).filter p = l.eraseIdx a := by
  induction l generalizing a with
  | nil => simp at ha
  | cons b t ih =>
    cases a with
    | zero =>
      rw [List.set_cons_zero, List.filter_cons_of_neg (by rw [hv]; decide), List.eraseIdx_zero, List.tail_cons]
      exact filter_all (fun q hq => hl q (List.mem_cons_of_mem _ hq))
    | succ a =>
      rw [List.set_cons_succ, List.filter_cons_of_pos (hl b List.mem_cons_self), List.eraseIdx_cons_succ]
      rw [ih (by simp at ha; omega) (fun q hq => hl q (List.mem_cons_of_mem _ hq))]
theorem sim_keep (R : Rel x ec es ew e0 h r) (M : Msg x h r m j) {tm : Int32} (htm : tm = r.1 66) :
    Sim (C_X6_keep (x + 35) (some m) tm) h (R_keep (nn j)) r (fun v h' w r' => v = w ∧ (v = 0 ∨ v = 1) ∧ Rel x ec es ew e0 h' r' ∧ Fm x [801] (fun a => a = x + 36) h h' ∧ Ro [64, 65] r r' ∧ hcs h' = hcs h ∧ hnx h' = hnx h) := by
  obtain ⟨ks0, hks0, hkc0⟩ := R.2.2.2.2.2.2.2.2.1.kl
  unfold R_keep
  refine Sim.seqR (qm_purge hks0) (fun _ r1 z1 => ?_)
  obtain ⟨w1, K1⟩ := z1
  rw [← hks0.kp] at K1
  obtain ⟨R1, ek1⟩ := R.purge w1 K1
  obtain ⟨K, hKd⟩ : ∃ K, K = kpt r := ⟨_, rfl⟩
  rw [← hKd] at K1 ek1
  have KC1 : KC r1 K := fun q hq => by
    rw [hKd, hks0.kp] at hq
    exact (hkc0.ro w1 (by decide) (by decide)) q (List.mem_filter.mp hq).1
  have hx := R.st.1
  have hl := K1.2.1
  have KK := R1.2.2.2.2.2.2.2.2.1
  have hc : hfi h 801 (x + 35) = nn K.length := by rw [← ek1]; exact KK.2.1
  have he : ∀ k, k < K.length → ∃ m, har h (x + 36) k = some m ∧ MpT x h r1 m (K.getD k 0) := by rw [← ek1]; exact KK.2.2
  have hg : ∀ q ∈ K, gon r1 q = false := fun q hq => by
    rw [← ek1, K1.kp] at hq
    have := (List.mem_filter.mp hq).2
    simpa using this
  have M1 : Msg x h r1 m j := ⟨M.1.to (Fm.rf (F := []) (A := fun _ => False)) w1 (by simp) (by decide), M.2.1, fun s' b' a1 a2 => by rw [w1.gA (by decide)]; exact M.2.2 s' b' a1 a2⟩
  have hj := M.2.1
  obtain ⟨V, v1, v2, v3⟩ := M1.1.1
  obtain ⟨tt, t1, t2⟩ := v1.2.2.2.1
  obtain ⟨pp, p1, p2⟩ := v1.2.2.2.2.1
  have t1' : hfr h (100 * 5 + 0) m = some tt := t1
  have p1' : hfr h (100 * 5 + 1) m = some pp := p1
  have hv1 := v3.1
  have hv2 := v3.2.1
  have hT := v2.2.1
  obtain ⟨po, s1, s2, _⟩ := v2.2.2.1
  obtain ⟨q1, q2, q3, q4⟩ := R.st.sto'
  have hc' : hfi h (100 * 8 + 1) (x + 35) = nn K.length := hc
  -- the place
  obtain ⟨a, a1, a2, a3⟩ := first_or K.length (fun i => ∃ mi Vi, har h (x + 36) i = some mi ∧ MsC x h mi Vi ∧ Vi.1 = V.1)
  have look : ∀ i, i < K.length → ∃ mi Vi ti, har h (x + 36) i = some mi ∧ MsC x h mi Vi ∧ MsM r1 (K.getD i 0) Vi ∧ Vok Vi ∧ hfr h (100 * 5 + 0) mi = some ti ∧ Rw x h ti Vi.1 ∧ (i = a ↔ (Vi.1 = V.1 ∧ i ≤ a)) := fun i hi => by
    obtain ⟨mi, b1, b2⟩ := he i hi
    obtain ⟨Vi, c1, c2, c3⟩ := b2.1
    obtain ⟨ti, d1, d2⟩ := c1.2.2.2.1
    refine ⟨mi, Vi, ti, b1, c1, c2, c3, d1, d2, ⟨fun e => ⟨?_, by omega⟩, fun z => ?_⟩⟩
    · subst e
      obtain ⟨mi', Vi', e1, e2, e3⟩ := a3 hi
      rw [b1] at e1
      cases e1
      obtain ⟨t', f1, f2⟩ := e2.2.2.2.1
      have f1' : hfr h (100 * 5 + 0) mi = some t' := f1
      have d1' : hfr h (100 * 5 + 0) mi = some ti := d1
      rw [f1'] at d1'
      cases d1'
      have q := qc_same d2 f2 (by have := c3.1; omega) (by rw [e3]; omega)
      have q' := qc_same d2 d2 (by have := c3.1; omega) (by have := c3.1; omega)
      rw [q'] at q
      rw [if_pos rfl] at q
      by_cases g : Vi.1 = Vi'.1
      · rw [g, e3]
      · rw [if_neg g] at q
        cases q
    · by_cases g : i = a
      · exact g
      · exact absurd ⟨mi, Vi, b1, c1, z.1⟩ (a2 i (by omega))
  have cl : ∀ Q : Int32 → Hp → Prop, wp (C_X6_keep_J35 (x + 35) (some m) tm (nn a)) h Q → wp (C_X6_keep (x + 35) (some m) tm) h Q := by
    intro Q hQ
    unfold C_X6_keep
    have key : ∀ (c i f : Nat), i + c = a → c < f → wp (C_X6_keep_L2 (x + 35) (fun l1 l2 l3 => C_X6_keep_J35 (x + 35) l1 l2 l3) f (some m) tm (nn i)) h Q := by
      intro c
      induction c with
      | zero =>
        intro i f hi hf
        obtain ⟨f', rfl⟩ : ∃ z, f = z + 1 := ⟨f - 1, by omega⟩
        have ei : i = a := by omega
        subst ei
        show wp (C_X6_keep_B2 (x + 35) _ _ (some m) tm (nn i)) h Q
        unfold C_X6_keep_B2
        rw [wp_gI q1, hc']
        by_cases g : K.length ≤ i
        · rw [wp_pos (by rw [nn_le (by omega) (by omega)]; exact g)]
          exact hQ
        · obtain ⟨mi, Vi, ti, b1, b2, b3, b4, b5, b6, b7⟩ := look i (by omega)
          rw [wp_neg (by rw [nn_le (by omega) (by omega)]; exact g), wp_gR q1, q2, wn_Ar q3 (by rw [q4]; omega) (by omega), b1, wp_gR b2.1, b5, wp_gR v1.1, t1', wp_Cv b6.1]
          refine wp.get (qc_same b6 t2 (by have := b4.1; omega) (by omega)) ?_
          rw [if_pos (b7.mp rfl).1, wp_neg (by decide)]
          exact hQ
      | succ c ih =>
        intro i f hi hf
        obtain ⟨f', rfl⟩ : ∃ z, f = z + 1 := ⟨f - 1, by omega⟩
        show wp (C_X6_keep_B2 (x + 35) _ _ (some m) tm (nn i)) h Q
        unfold C_X6_keep_B2
        obtain ⟨mi, Vi, ti, b1, b2, b3, b4, b5, b6, b7⟩ := look i (by omega)
        rw [wp_gI q1, hc', wp_neg (by rw [nn_le (by omega) (by omega)]; omega), wp_gR q1, q2, wn_Ar q3 (by rw [q4]; omega) (by omega), b1, wp_gR b2.1, b5, wp_gR v1.1, t1', wp_Cv b6.1]
        refine wp.get (qc_same b6 t2 (by have := b4.1; omega) (by omega)) ?_
        rw [if_neg (show ¬ Vi.1 = V.1 from fun z => by have := b7.mpr ⟨z, by omega⟩; omega), wp_pos rfl]
        show wp (C_X6_keep_L2 (x + 35) _ f' (some m) tm (nn i + 1)) h Q
        rw [l_1, nn_add]
        exact ih (i + 1) f' (by omega) (by omega)
    exact key a 0 fu (by omega) (by unfold fu; omega)
  have ml : ∀ Q : Int32 → RS → Prop, wp (R_keep_J34 (nn j) (nn a)) r1 Q → wp (R_keep_L6 (fun l1 l2 => R_keep_J34 l1 l2) fu (nn j) (0 : Int32)) r1 Q := by
    intro Q hQ
    have key : ∀ (c i f : Nat), i + c = a → c < f → wp (R_keep_L6 (fun l1 l2 => R_keep_J34 l1 l2) f (nn j) (nn i)) r1 Q := by
      intro c
      induction c with
      | zero =>
        intro i f hi hf
        obtain ⟨f', rfl⟩ : ∃ z, f = z + 1 := ⟨f - 1, by omega⟩
        have ei : i = a := by omega
        subst ei
        show wp (R_keep_B6 _ _ (nn j) (nn i)) r1 Q
        unfold R_keep_B6
        rw [wp_rI, K1.1]
        by_cases g : K.length ≤ i
        · rw [wp_pos (by rw [nn_le (by omega) (by omega)]; exact g)]
          exact hQ
        · obtain ⟨mi, Vi, ti, b1, b2, b3, b4, b5, b6, b7⟩ := look i (by omega)
          rw [wp_neg (by rw [nn_le (by omega) (by omega)]; exact g), wr_64 (by omega), (K1.2.2 i (by omega)).1, wp_bd]
          refine wp.get (qm_sameTopic b3.1 hj b3.2.1.1 b3.2.1.2 b4.2.2.2.2.2.1 b4.1.2 hT.1 hT.2 v3.2.2.2.2.2.1 hv1.2) ?_
          rw [if_pos (b7.mp rfl).1, wp_neg (by decide)]
          exact hQ
      | succ c ih =>
        intro i f hi hf
        obtain ⟨f', rfl⟩ : ∃ z, f = z + 1 := ⟨f - 1, by omega⟩
        show wp (R_keep_B6 _ _ (nn j) (nn i)) r1 Q
        unfold R_keep_B6
        obtain ⟨mi, Vi, ti, b1, b2, b3, b4, b5, b6, b7⟩ := look i (by omega)
        rw [wp_rI, K1.1, wp_neg (by rw [nn_le (by omega) (by omega)]; omega), wr_64 (by omega), (K1.2.2 i (by omega)).1, wp_bd]
        refine wp.get (qm_sameTopic b3.1 hj b3.2.1.1 b3.2.1.2 b4.2.2.2.2.2.1 b4.1.2 hT.1 hT.2 v3.2.2.2.2.2.1 hv1.2) ?_
        rw [if_neg (show ¬ Vi.1 = V.1 from fun z => by have := b7.mpr ⟨z, by omega⟩; omega), wp_pos rfl]
        show wp (R_keep_L6 _ f' (nn j) (nn i + 1)) r1 Q
        rw [l_1, nn_add]
        exact ih (i + 1) f' (by omega) (by omega)
    exact key a 0 fu (by omega) (by unfold fu; omega)
  refine Sim.left (cl _ ?_)
  have hpl : V.2.1.length ≤ 400 := by omega
  have hK6 : ∀ k, k < K.length → ∃ e, har h (x + 36) k = some e ∧ hkd h e = 6 := fun k hk => by
    obtain ⟨mi, b1, b2⟩ := he k hk
    obtain ⟨Vi, c1, _⟩ := b2.1
    exact ⟨mi, b1, c1.1⟩
  unfold C_X6_keep_J35
  rw [wp_gR v1.1, p1', wp_Cv p2.1]
  refine wp.get (qc_count p2) ?_
  by_cases gp : V.2.1.length = 0
  · rw [gp, wp_pos (show nn 0 = 0 from rfl), wp_Cv q1]
    by_cases ga : a < K.length
    · refine (qc_discard R.st hc hl ga hK6).mono (fun _ h2 e2 => ?_)
      subst e2
      rw [wp_zt]
      refine ⟨Or.inr rfl, ml _ ?_⟩
      unfold R_keep_J34
      rw [wr_48 hj, s2, gp, wp_pos (show nn 0 = 0 from rfl), wp_rI, K1.1, wp_neg (by rw [nn_le (by omega) (by omega)]; omega)]
      refine (qm_shift K1 ga).mono (fun v r2 z => ?_)
      obtain ⟨z1, z2, z3⟩ := z
      have eg : gon r2 = gon r1 := by
        funext q
        unfold gon
        rw [z2.gL (by decide), z2.gA (by decide), z2.gI (by decide)]
      obtain ⟨R2, p2'⟩ := R1.out1 K1 hg hc he ga z2 z3 (fun q hq => (KC1.ro z2 (by decide) (by decide)) q (mem_erase hq)) (filter_all (fun q hq => by rw [eg, hg q (mem_erase hq)]; rfl)) (fun q hq => Or.inl (mem_erase hq))
      exact ⟨z1.symm, Or.inr rfl, R2, p2', w1.tr z2, rfl, rfl⟩
    · have ea : a = K.length := by omega
      have ed : C_X6_discard (x + 35) (nn a) h = some ((), h) := by
        have : wp (C_X6_discard (x + 35) (nn a)) h (fun _ h' => h' = h) := by
          unfold C_X6_discard
          rw [wp_gI q1, hc', wp_neg (by rw [nn_lt (by omega) (by omega)]; exact ga), wp_rt]
        obtain ⟨v, h', e1, e2⟩ := this
        rw [e1, e2]
      refine wp.get ed ?_
      rw [wp_zt]
      refine ⟨Or.inr rfl, ml _ ?_⟩
      unfold R_keep_J34
      rw [wr_48 hj, s2, gp, wp_pos (show nn 0 = 0 from rfl), wp_rI, K1.1, wp_pos (by rw [nn_le (by omega) (by omega)]; omega), wp_zt]
      exact ⟨Or.inr rfl, rfl, Or.inr rfl, R1, Fm.rf, w1, rfl, rfl⟩
  · rw [wp_neg (fun z : nn V.2.1.length = (0 : Int32) => gp (nn_inj (b := 0) (by omega) (by omega) z))]
    by_cases g16 : a = 16
    · rw [g16, wp_pos (show nn 16 = (16 : Int32) from rfl), wp_zt]
      refine ⟨Or.inl rfl, ml _ ?_⟩
      unfold R_keep_J34
      rw [wr_48 hj, s2, wp_neg (fun z : nn V.2.1.length = (0 : Int32) => gp (nn_inj (b := 0) (by omega) (by omega) z)), g16, wp_pos (show nn 16 = (16 : Int32) from rfl), wp_zt]
      exact ⟨Or.inl rfl, rfl, Or.inl rfl, R1, Fm.rf, w1, rfl, rfl⟩
    · have n16 : ¬ nn a = (16 : Int32) := fun z => g16 (nn_inj (b := 16) (by omega) (by omega) z)
      -- the model
      obtain ⟨r2, hr2⟩ : ∃ z, z = if a = K.length then sI (sA r1 64 a (nn j)) 65 (nn (K.length + 1)) else sA r1 64 a (nn j) := ⟨_, rfl⟩
      have w2 : Ro [64, 65] r1 r2 := by
        rw [hr2]
        split
        · exact (Ro.rf.a (by decide)).i (by decide)
        · exact Ro.rf.a (by decide)
      have eg : gon r2 = gon r1 := by
        funext q
        unfold gon
        rw [w2.gL (by decide), w2.gA (by decide), w2.gI (by decide)]
      have mm2 : wp (R_keep_J34 (nn j) (nn a)) r1 (fun w r' => w = 1 ∧ r' = r2) := by
        unfold R_keep_J34
        rw [wr_48 hj, s2, wp_neg (fun z : nn V.2.1.length = (0 : Int32) => gp (nn_inj (b := 0) (by omega) (by omega) z)), wp_neg n16, ww_64 (by omega), wp_rI, sA_1, K1.1]
        by_cases ga : a = K.length
        · rw [wp_pos (by rw [ga]), wp_rI, sA_1, K1.1, wp_wI, wp_zt, l_1, nn_add]
          exact ⟨Or.inr rfl, rfl, by rw [hr2, if_pos ga]⟩
        · rw [wp_neg (fun z => ga (nn_inj (by omega) (by omega) z)), wp_zt]
          exact ⟨Or.inr rfl, rfl, by rw [hr2, if_neg ga]⟩
      obtain ⟨ks, hks⟩ : ∃ z, z = if a = K.length then K ++ [j] else K.set a j := ⟨_, rfl⟩
      have kl2 : KL r2 ks := by
        by_cases ga : a = K.length
        · rw [hr2, hks, if_pos ga, if_pos ga]
          refine ⟨?_, ?_, fun k hk => ?_⟩
          · rw [sI_1, if_pos rfl, List.length_append]
            rfl
          · rw [List.length_append]
            show K.length + 1 ≤ 16
            omega
          · rw [List.length_append] at hk
            have hk2 : k < K.length + 1 := hk
            rw [sI_2, sA_2, gD_app]
            by_cases gk : k = a
            · rw [if_pos ⟨rfl, gk⟩, if_neg (by omega), show k - K.length = 0 by omega]
              exact ⟨rfl, hj⟩
            · rw [if_neg (fun z => gk z.2), if_pos (by omega)]
              exact K1.2.2 k (by omega)
        · rw [hr2, hks, if_neg ga, if_neg ga]
          refine ⟨?_, ?_, fun k hk => ?_⟩
          · rw [sA_1, List.length_set]
            exact K1.1
          · rw [List.length_set]
            exact hl
          · rw [List.length_set] at hk
            rw [sA_2, gD_set _ _ _ _ (by omega)]
            by_cases gk : k = a
            · rw [if_pos ⟨rfl, gk⟩, if_pos gk]
              exact ⟨rfl, hj⟩
            · rw [if_neg (fun z => gk z.2), if_neg gk]
              exact K1.2.2 k hk
      have hq : ∀ q ∈ ks, q ∈ K ∨ q = j := fun q hq => by
        rw [hks] at hq
        split at hq
        · rcases List.mem_append.mp hq with z | z
          · exact Or.inl z
          · exact Or.inr (List.mem_singleton.mp z)
        · exact List.mem_or_eq_of_mem_set hq
      have kc2 : KC r2 ks := fun q hqq => by
        rcases hq q hqq with z | z
        · exact (KC1.ro w2 (by decide) (by decide)) q z
        · rw [z, w2.gI (by decide), w2.gA (by decide)]
          exact M1.1.2.2
      obtain ⟨c, hcd⟩ : ∃ z, z = if a = K.length then K.length + 1 else K.length := ⟨_, rfl⟩
      have ec : imax (nn K.length) (nn a + 1) = nn c := by
        rw [l_1, nn_add]
        unfold imax
        rw [hcd]
        by_cases ga : a = K.length
        · rw [if_pos ga]
          split
          · rw [ga]
          · next z => exact absurd (show nn K.length < nn (a + 1) from by rw [nn_lt (by omega) (by omega)]; omega) z
        · rw [if_neg ga]
          split
          · next z =>
            rw [nn_lt (by omega) (by omega)] at z
            omega
          · rfl
      rw [wp_neg n16, wp_gR q1, q2, wn_Wr1 q3 (by rw [q4]; omega) (by omega) v1.1, wp_gI (by exact q1)]
      have e5 : hfi (sar h (x + 36) (va_up (har h (x + 36)) a (some m))) (100 * 8 + 1) (x + 35) = nn K.length := hc'
      rw [e5, wp_pI (by exact q1), ec, wp_Cv (by exact v1.1)]
      have eF : ∀ k, va_up (har h (x + 36)) a (some m) k = if k = a then some m else har h (x + 36) k := fun k => rfl
      have pp2 : Fm x [801] (fun a => a = x + 36) h (sfi (sar h (x + 36) (va_up (har h (x + 36)) a (some m))) 801 (x + 35) (nn c)) := by
        refine Fm.fi (Fm.ar Fm.rf (Or.inl rfl) (by omega)) ?_ ?_
        · exact Or.inl (by decide)
        · exact Or.inl (by decide)
      have M2 := M1.1.to pp2 (Ro.rf (S := [])) (by decide) (by decide)
      refine wp.get (qc_gone M2 R1.2.1.1 (htm.trans (w1.gI (by decide)).symm)) ?_
      by_cases gj : gon r1 j = true
      · rw [if_pos gj, wp_neg (by decide), wp_Cv (by exact q1)]
        have T2 := R.st.sto pp2.1
        have hm2 : ∀ k, k < c → ∃ e, har (sfi (sar h (x + 36) (va_up (har h (x + 36)) a (some m))) 801 (x + 35) (nn c)) (x + 36) k = some e ∧ hkd (sfi (sar h (x + 36) (va_up (har h (x + 36)) a (some m))) 801 (x + 35) (nn c)) e = 6 := fun k hk => by
          rw [har_sfi, har_sar, if_pos rfl, eF]
          by_cases gk : k = a
          · rw [if_pos gk]
            exact ⟨m, rfl, v1.1⟩
          · rw [if_neg gk]
            refine hK6 k ?_
            rw [hcd] at hk
            split at hk <;> omega
        have hac : a < c := by rw [hcd]; split <;> omega
        have hc16 : c ≤ 16 := by rw [hcd]; split <;> omega
        refine (qc_discard T2 (by rw [hfi_sfi, if_pos ⟨rfl, rfl⟩]) hc16 hac hm2).mono (fun _ h3 e3 => ?_)
        rw [har_sfi, har_sar, if_pos rfl] at e3
        rw [wp_zt]
        refine ⟨Or.inr rfl, ml _ (mm2.mono (fun w r' z => ?_))⟩
        obtain ⟨z1, z2⟩ := z
        rw [z2]
        have gj2 : (!gon r2 j) = false := by rw [eg, gj]; rfl
        have hgK : ∀ q ∈ K, (!gon r2 q) = true := fun q hq => by rw [eg, hg q hq]; rfl
        have ef2 : ∀ (F G : Nat → Option Nat) (u v : Int32), sar (sfi (sfi (sar h (x + 36) F) 801 (x + 35) u) 801 (x + 35) v) (x + 36) G = sar (sfi h 801 (x + 35) v) (x + 36) G := fun F G u v => by
          rw [sfi_sfi, sar_sfi, sar_sar]
        rw [ef2] at e3
        have hcs3 : hcs h3 = hcs h := by rw [e3]; rfl
        have hnx3 : hnx h3 = hnx h := by rw [e3]; rfl
        by_cases ga : a = K.length
        · have eF2 : ∀ k, k < K.length → va_up (disF (va_up (har h (x + 36)) a (some m)) a (c - 1)) (c - 1) none k = har h (x + 36) k := fun k hk => by
            show (if k = c - 1 then none else disF (va_up (har h (x + 36)) a (some m)) a (c - 1) k) = _
            rw [hcd, if_pos ga, if_neg (by omega)]
            unfold disF
            rw [if_neg (by omega), eF, if_neg (by omega)]
          have ec1 : c - 1 = K.length := by rw [hcd, if_pos ga]; omega
          have ek : ks.filter (fun j => !gon r2 j) = K := by
            rw [hks, if_pos ga, List.filter_append, filter_all hgK, List.filter_cons_of_neg (by rw [gj2]; decide), List.filter_nil, List.append_nil]
          obtain ⟨R3, p3⟩ := R1.in1 (a := a) (c := c - 1) (F := va_up (disF (va_up (har h (x + 36)) a (some m)) a (c - 1)) (c - 1) none) K1 hc he M1 w2 kl2 kc2 ek ec1 (fun k hk => Or.inr ⟨by omega, eF2 k (by omega), rfl⟩) hq
          rw [sar_sfi, ← e3] at R3 p3
          exact ⟨z1.symm, Or.inr rfl, R3, p3, w1.tr w2, hcs3, hnx3⟩
        · have ecK : c = K.length := by rw [hcd, if_neg ga]
          have eG : va_up (disF (va_up (har h (x + 36)) a (some m)) a (K.length - 1)) (K.length - 1) none = va_up (disF (har h (x + 36)) a (K.length - 1)) (K.length - 1) none := by
            funext k
            show (if k = K.length - 1 then none else disF (va_up (har h (x + 36)) a (some m)) a (K.length - 1) k) = if k = K.length - 1 then none else disF (har h (x + 36)) a (K.length - 1) k
            by_cases gk : k = K.length - 1
            · rw [if_pos gk, if_pos gk]
            · rw [if_neg gk, if_neg gk]
              unfold disF
              by_cases g2 : a ≤ k ∧ k < K.length - 1
              · rw [if_pos g2, if_pos g2, eF, if_neg (by omega)]
              · rw [if_neg g2, if_neg g2, eF, if_neg (by omega)]
          have ek : ks.filter (fun j => !gon r2 j) = K.eraseIdx a := by
            rw [hks, if_neg ga]
            exact filter_set (p := fun j => !gon r2 j) (by omega) gj2 hgK
          obtain ⟨R3, p3⟩ := R1.out1 K1 hg hc he (by omega : a < K.length) w2 kl2 kc2 ek (fun q hqq => by
            rcases hq q hqq with z | z
            · exact Or.inl z
            · exact Or.inr (fun s' b' g1 g2 => by rw [z]; exact (M1.2.2 s' b' g1 g2).2))
          rw [ecK, eG] at e3
          rw [← e3] at R3 p3
          exact ⟨z1.symm, Or.inr rfl, R3, p3, w1.tr w2, hcs3, hnx3⟩
      · rw [if_neg gj, wp_pos rfl, wp_zt]
        refine ⟨Or.inr rfl, ml _ (mm2.mono (fun w r' z => ?_))⟩
        obtain ⟨z1, z2⟩ := z
        rw [z2]
        have gj' : gon r1 j = false := by simpa using gj
        obtain ⟨R3, p3⟩ := R1.in1 (a := a) (c := c) (F := va_up (har h (x + 36)) a (some m)) K1 hc he M1 w2 kl2 kc2 (filter_all (fun q hqq => by
          rw [eg]
          rcases hq q hqq with z | z
          · rw [hg q z]; rfl
          · rw [z, gj']; rfl)) (by
          rw [hcd, hks]
          by_cases ga : a = K.length
          · rw [if_pos ga, if_pos ga, List.length_append]; rfl
          · rw [if_neg ga, if_neg ga, List.length_set]) (fun k hk => by
          rw [eF]
          rw [hks]
          by_cases ga : a = K.length
          · rw [hcd, if_pos ga] at hk
            rw [if_pos ga, gD_app]
            by_cases gk : k = a
            · rw [if_pos gk, if_neg (by omega), show k - K.length = 0 by omega]
              exact Or.inl ⟨rfl, rfl⟩
            · rw [if_neg gk, if_pos (by omega)]
              exact Or.inr ⟨by omega, rfl, rfl⟩
          · rw [hcd, if_neg ga] at hk
            rw [if_neg ga, gD_set _ _ _ _ (by omega)]
            by_cases gk : k = a
            · rw [if_pos gk, if_pos gk]
              exact Or.inl ⟨rfl, rfl⟩
            · rw [if_neg gk, if_neg gk]
              exact Or.inr ⟨hk, rfl, rfl⟩) hq
        exact ⟨z1.symm, Or.inr rfl, R3, p3, w1.tr w2, rfl, rfl⟩
end KEN
