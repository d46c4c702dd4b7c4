/-! ===== time goes on ===== -/
section TIM
variable {x ec es ew s b d k w m j i n t t' : Nat} {e0 : Int32} {h h' : Hp} {r : RS} {v : Int32} {K : List Nat}
theorem MpT.tm (c : MpT x h r m j) (hv : iN (r.1 66) ≤ iN v) : MpT x h (sI r 66 v) m j := by
  obtain ⟨c1, c2, c, c3, c4⟩ := c
  refine ⟨c1, c2, c, ?_, c4⟩
  rw [sI_1, if_pos rfl]
  omega
theorem Wy.tm (c : Wy x h r w d) (hv : iN (r.1 66) ≤ iN v) : Wy x h (sI r 66 v) w d := by
  obtain ⟨m, j, q, fl, id, num, c1, c2, c3, c4, c5⟩ := c
  exact ⟨m, j, q, fl, id, num, c1, c2, c3, c4.tm hv, c5⟩
theorem Wt.tm (c : Wt x h r w d) (hv : iN (r.1 66) ≤ iN v) : Wt x h (sI r 66 v) w d := by
  obtain ⟨m, j, q, fl, id, c1, c2, c3, c4, c5⟩ := c
  exact ⟨m, j, q, fl, id, c1, c2, c3, c4.tm hv, c5⟩
theorem SesY.tm (c : SesY x h r s b) (hv : iN (r.1 66) ≤ iN v) : SesY x h (sI r 66 v) s b := by
  obtain ⟨n, c1, c2, c3, c4, c5⟩ := c
  refine ⟨n, c1, c2, c3, fun k hk => ?_, c5⟩
  obtain ⟨d, d1, d2⟩ := c4 k hk
  exact ⟨d, d1, d2.tm hv⟩
theorem SesQ.tm (c : SesQ x h r s b) (hv : iN (r.1 66) ≤ iN v) : SesQ x h (sI r 66 v) s b := by
  obtain ⟨n, c1, c2, c3, c4⟩ := c
  refine ⟨n, c1, c2, c3, fun k hk => ?_⟩
  obtain ⟨d, d1, d2⟩ := c4 k hk
  exact ⟨d, d1, d2.tm hv⟩
theorem SesZ.tm (c : SesZ h r s b) (hv : iN (r.1 66) ≤ iN v) : SesZ h (sI r 66 v) s b := by
  intro g
  obtain ⟨c1, ⟨t, c2, c3⟩, c4⟩ := c g
  refine ⟨c1, ⟨t, ?_, c3⟩, c4⟩
  rw [sI_1, if_pos rfl]
  omega
theorem CoA.tm (c : CoA x h r i) (hv : iN (r.1 66) ≤ iN v) : CoA x h (sI r 66 v) i := by
  obtain ⟨c1, c2, ⟨c3, t, c4, c5⟩, c6⟩ := c
  refine ⟨c1, c2, ⟨c3, t, ?_, c5⟩, c6⟩
  rw [sI_1, if_pos rfl]
  omega
theorem Rel.time (R : Rel x ec es ew e0 h r) (p : Fm x [801, 1309] (fun a => a = x + 36) h h') (ht : v = nn t') (ht2 : t' ≤ 1073741823) (hv : iN (r.1 66) ≤ iN v) (h9 : hfi h' 1309 x = v) (K' : Kep x h' (sI r 66 v)) (hk : hkd h' = hkd h) (ha : hai h' = hai h)
    (hW : ∀ k, k < iN (hfi h' 801 (x + 35)) → ∃ k', k' < iN (hfi h 801 (x + 35)) ∧ har h' (x + 36) k = har h (x + 36) k') : Rel x ec es ew e0 h' (sI r 66 v) := by
  obtain ⟨T, G, sm, C, SS, U1, U2, U3, K, U4, f0, bs0, W⟩ := R
  have hx := T.1
  have w : Ro [66] r (sI r 66 v) := Ro.rf.i (by decide)
  have w0 : Ro [] (sI r 66 v) (sI r 66 v) := Ro.rf
  have e34 : har h' (x + 34) = har h (x + 34) := (p.2.2 (x + 34) (by omega) (by omega)).2.1
  have nd : ∀ s b, s < 12 → har h (x + 34) s = some b → ∀ e, ¬ b + e = x + 36 := fun s b h1 h2 e => by
    have := ((SS s h1).at h2).2.1.1.2.1
    omega
  refine ⟨T.sto p.1, ?_, ?_, fun i hi => ?_, fun s' hs' => ?_, U1.fm T SS p w (by omega) (fun s b h1 h2 => ⟨nd s b h1 h2 2, nd s b h1 h2 3⟩) (by decide), U2.fm T SS p w (by omega) (fun s b h1 h2 => nd s b h1 h2 1) (by decide), U3.fm w (by decide), K', ?_, f0, bs0, ?_⟩
  · unfold Glo
    rw [h9, p.gi (f := 1310) (by decide) (by omega), p.gi (f := 1311) (by decide) (by omega), p.gi (f := 1312) (by decide) (by omega), p.gi (f := 1313) (by decide) (by omega), p.gi (f := 1314) (by decide) (by omega), p.gi (f := 1315) (by decide) (by omega), w.gI (k := 67) (by decide), w.gI (k := 69) (by decide), w.gI (k := 70) (by decide), w.gI (k := 71) (by decide), w.gI (k := 72) (by decide), w.gI (k := 74) (by decide)]
    have e66 : (sI r 66 v).1 66 = v := by rw [sI_1, if_pos rfl]
    rw [e66]
    exact ⟨⟨t', ht2, ht⟩, rfl, G.2.2⟩
  · have e2 : ∀ j', j' < 8 → hfi h' 206 (cA x j') = hfi h 206 (cA x j') := fun j' hj => p.gi (by decide) (by have := T.cl hj; omega)
    unfold sSum
    rw [w.gI (k := 68) (by decide), sm, e2 0 (by omega), e2 1 (by omega), e2 2 (by omega), e2 3 (by omega), e2 4 (by omega), e2 5 (by omega), e2 6 (by omega), e2 7 (by omega)]
    rfl
  · obtain ⟨c1, c2, c3, c4⟩ := C i hi
    exact ⟨(c1.tm hv).fm T hi p w0 (by decide) (by omega) (by decide), c2.fm T hi p w (by decide) (by show ¬ x + 2 + 4 * i + 1 = x + 36; omega) (by decide), c3.fm T hi p w (by show ¬ x + 2 + 4 * i + 3 = x + 36; omega) (by decide), fun hec => (c4 hec).fm T hi p w (by decide) (by show ¬ x + 2 + 4 * i + 2 = x + 36; omega) (by decide)⟩
  · rcases SS s' hs' with c | ⟨c1, b', c2, c3, c4⟩
    · exact Or.inl (by rw [w.gA (k := 11) (by decide), e34]; exact c)
    · have hb' := c3.1.2.2.1
      have nb := nd s' b' hs' c2
      refine Or.inr ⟨by rw [w.gA (k := 11) (by decide)]; exact c1, b', by rw [e34]; exact c2, ⟨c3.1.sto p.1, c3.2.1.fm (by omega) p.1 w (by decide), c3.2.2.1.fm (by omega) p w (by decide) (by decide), c3.2.2.2.1.fm (by omega) p w (by decide) (by decide), c3.2.2.2.2.1.fm hb' p w (by decide) (nb 1) (by decide), (c3.2.2.2.2.2.1.tm hv).fm hb' p w0 (by decide) (nb 2) (by decide), (c3.2.2.2.2.2.2.1.tm hv).fm hb' p w0 (by decide) (nb 3) (by decide), c3.2.2.2.2.2.2.2.1.fm hb' p w (by decide) (nb 4) (by decide), c3.2.2.2.2.2.2.2.2.fm w (by decide)⟩, fun g => ((c4 g).tm hv).fm (by omega) p w0 (by decide) (by decide)⟩
  · intro s b m j h1 h2 h3 h4
    rw [e34] at h2
    have l1 := SesA.lt SS h1 h2
    rw [p.gr (by decide) (by omega)] at h3
    rw [w.gA (k := 20) (by decide)] at h4
    obtain ⟨q1, q2, q3, q4, q5, q6⟩ := U4 s b m j h1 h2 h3 h4
    rw [e34, w.gA (k := 11) (by decide), w.gA (k := 20) (by decide), w.gA (k := 31) (by decide), w.gA (k := 33) (by decide), w.gA (k := 38) (by decide), w.gA (k := 39) (by decide)]
    refine ⟨fun s' b' g1 g2 g3 => ?_, fun s' b' k d g1 g2 g3 g4 g5 => ?_, q3, q4, fun k hk => ?_, fun k hk => ?_⟩
    · have l2 := SesA.lt SS g1 g3
      rw [p.gr (by decide) (by omega)]
      exact q1 s' b' g1 g2 g3
    · have l2 := SesA.lt SS g1 g2
      unfold act at g4
      rw [w.gA (k := 31) (by decide), w.gA (k := 38) (by decide)] at g4
      unfold dl at g5
      rw [(p.2.2 (b' + 2) (by omega) (nd s' b' g1 g2 2)).2.1, (p.2.2 (b' + 3) (by omega) (nd s' b' g1 g2 3)).2.1] at g5
      have ld := act.lt ((SS s' g1).at g2).2.1 g4 g3 g5
      rw [p.gr (by decide) ld]
      exact q2 s' b' k d g1 g2 g3 g4 g5
    · obtain ⟨k', k1, k2⟩ := hW k hk
      rw [k2]
      exact q5 k' k1
    · rw [w.gI (k := 65) (by decide)] at hk
      rw [w.gA (k := 64) (by decide)]
      exact q6 k hk
  · obtain ⟨⟨a1, a2, a3, a4⟩, a5, a6, a7, a8, a9⟩ := W
    refine ⟨⟨by rw [hk]; exact a1, ?_, by rw [hk]; exact a3, ?_⟩, ?_, ?_, by rw [ha]; exact a7, a8, a9⟩
    · rw [p.gr (by decide) (by omega)]; exact a2
    · rw [(p.1.2.1 _ (by omega)).2]; exact a4
    · rw [p.gi (f := 1200) (by decide) (by omega)]; exact a5
    · rw [p.gi (f := 1202) (by decide) (by omega)]; exact a6
/-- the class's store is purged -/
theorem qc_purge {g : Nat → Bool} {tm : Int32} (T : Stat x h) (hn : hfi h 801 (x + 35) = nn K.length) (hn2 : K.length ≤ 16) (hk : ∀ k, k < K.length → ∃ m, har h (x + 36) k = some m ∧ hkd h m = 6 ∧ ∀ F, C_X3_isGone m tm (sar h (x + 36) F) = some (if g (K.getD k 0) = true then 1 else 0, sar h (x + 36) F)) : wp (C_X6_purge (x + 35) tm) h (fun _ h' => ∃ F, h' = sfi (sar h (x + 36) F) 801 (x + 35) (nn (K.filter (fun j => !g j)).length) ∧ ∀ i, i < (K.filter (fun j => !g j)).length → ∃ k, k < K.length ∧ F i = har h (x + 36) k ∧ (K.filter (fun j => !g j)).getD i 0 = K.getD k 0) := by
  obtain ⟨t1, t2, t3, t4⟩ := T.sto'
  have hn' : hfi h (100 * 8 + 1) (x + 35) = nn K.length := hn
  unfold C_X6_purge
  have key : ∀ (c k f : Nat) (F : Nat → Option Nat), k + c = K.length → c < f → (∀ i, i < ((K.take k).filter (fun j => !g j)).length → ∃ k', k' < K.length ∧ F i = har h (x + 36) k' ∧ ((K.take k).filter (fun j => !g j)).getD i 0 = K.getD k' 0) → (∀ i, k ≤ i → F i = har h (x + 36) i) → wp (C_X6_purge_L4 (x + 35) (fun l2 => C_X6_purge_J46 (x + 35) l2) f tm (nn ((K.take k).filter (fun j => !g j)).length) (nn k)) (sar h (x + 36) F) (fun _ h' => ∃ F, h' = sfi (sar h (x + 36) F) 801 (x + 35) (nn (K.filter (fun j => !g j)).length) ∧ ∀ i, i < (K.filter (fun j => !g j)).length → ∃ k, k < K.length ∧ F i = har h (x + 36) k ∧ (K.filter (fun j => !g j)).getD i 0 = K.getD k 0) := by
    intro c
    induction c with
    | zero =>
      intro k f F hk1 hf h1 h2
      obtain ⟨f', rfl⟩ : ∃ z, f = z + 1 := ⟨f - 1, by omega⟩
      have ek : k = K.length := by omega
      subst ek
      rw [List.take_length] at h1 ⊢
      show wp (C_X6_purge_B4 (x + 35) _ _ tm _ (nn K.length)) _ _
      unfold C_X6_purge_B4
      rw [wp_gI (by exact t1), hfi_sar, hn', wp_pos (by rw [nn_le (by omega) (by omega)]; omega)]
      unfold C_X6_purge_J46
      dsimp only
      rw [wp_pI (by exact t1), wp_rt]
      exact ⟨F, rfl, h1⟩
    | succ c ih =>
      intro k f F hk1 hf h1 h2
      obtain ⟨f', rfl⟩ : ∃ z, f = z + 1 := ⟨f - 1, by omega⟩
      have hkl : k < K.length := by omega
      obtain ⟨m, m1, m2, m3⟩ := hk k hkl
      have hfl := filter_take_len (p := fun j => !g j) K k
      have et : K.take (k + 1) = K.take k ++ [K.getD k 0] := take_snoc hkl
      have eA : har (sar h (x + 36) F) (x + 36) = F := by rw [har_sar, if_pos rfl]
      have eF : F k = some m := (h2 k (by omega)).trans m1
      have t2' : hfr (sar h (x + 36) F) (100 * 8 + 0) (x + 35) = some (x + 36) := t2
      show wp (C_X6_purge_B4 (x + 35) _ _ tm _ (nn k)) _ _
      unfold C_X6_purge_B4
      rw [wp_gI (by exact t1), hfi_sar, hn', wp_neg (by rw [nn_le (by omega) (by omega)]; omega), wp_gR (by exact t1), t2', wn_Ar (by exact t3) (by show k < hln h (x + 36); rw [t4]; omega) (by omega), eA, eF, wp_Cv (by exact m2)]
      refine wp.get (m3 F) ?_
      by_cases gg : g (K.getD k 0) = true
      · rw [if_pos gg, wp_neg (by decide), l_1, nn_add]
        have ef : (K.take (k + 1)).filter (fun j => !g j) = (K.take k).filter (fun j => !g j) := by
          rw [et, List.filter_append, List.filter_cons_of_neg (by rw [gg]; decide), List.filter_nil, List.append_nil]
        have := ih (k + 1) f' F (by omega) (by omega) (by rw [ef]; exact h1) (fun i hi => h2 i (by omega))
        rw [ef] at this
        exact this
      · rw [if_neg gg, wp_pos rfl, wp_gR (by exact t1), wp_gR (by exact t1), t2', wn_Ar (by exact t3) (by show k < hln h (x + 36); rw [t4]; omega) (by omega), eA, eF, wn_Wr1 (by exact t3) (by show _ < hln h (x + 36); rw [t4]; omega) (by omega) (by exact m2), eA, sar_sar, l_1, nn_add, nn_add]
        have ef : (K.take (k + 1)).filter (fun j => !g j) = (K.take k).filter (fun j => !g j) ++ [K.getD k 0] := by
          simp only [Bool.not_eq_true] at gg
          rw [et, List.filter_append, List.filter_cons_of_pos (by rw [gg]; rfl), List.filter_nil]
        have := ih (k + 1) f' (va_up F ((K.take k).filter (fun j => !g j)).length (some m)) (by omega) (by omega) (fun i hi => ?_) (fun i hi => ?_)
        · rw [ef, List.length_append] at this
          exact this
        · rw [ef, List.length_append] at hi
          have hi2 : i < ((K.take k).filter (fun j => !g j)).length + 1 := hi
          rw [ef, gD_app]
          by_cases gi : i < ((K.take k).filter (fun j => !g j)).length
          · obtain ⟨k', q1, q2, q3⟩ := h1 i gi
            refine ⟨k', q1, ?_, ?_⟩
            · show (if i = _ then some m else F i) = _
              rw [if_neg (by omega)]
              exact q2
            · rw [if_pos gi]
              exact q3
          · refine ⟨k, hkl, ?_, ?_⟩
            · show (if i = _ then some m else F i) = _
              rw [if_pos (by omega), m1]
            · rw [if_neg gi, show i - ((K.take k).filter (fun j => !g j)).length = 0 by omega]
              rfl
        · show (if i = _ then some m else F i) = _
          rw [if_neg (by omega)]
          exact h2 i (by omega)
  have := key K.length 0 fu (har h (x + 36)) (by omega) (by unfold fu; omega) (fun i hi => by simp at hi) (fun i _ => rfl)
  rw [List.take_zero, sar_self] at this
  exact this
theorem gon_mono {c : Nat} (hr : r.1 66 = nn t) (hct : c ≤ t) (htt : t ≤ t') (ht2 : t' ≤ 1073741823) (hc : r.2.1 51 j = nn c) (g : gon r j = true) : gon (sI r 66 (nn t')) j = true := by
  unfold gon at g ⊢
  rw [decide_eq_true_iff] at g ⊢
  rw [sI_1, if_pos rfl]
  show 0 ≤ r.2.2 50 j ∧ r.2.2 50 j ≤ (nn t' - r.2.1 51 j).toInt64
  rw [hr, hc, nn_sub hct, n6_nn (by omega)] at g
  rw [hc, nn_sub (by omega), n6_nn (by omega)]
  refine ⟨g.1, Int64.le_trans g.2 ((n6_le (by omega) (by omega)).mpr (by omega))⟩
/-- the class sets its clock to t' and purges its store -/
theorem sim_clock (R : Rel x ec es ew e0 h r) (hr : r.1 66 = nn t) (htt : t ≤ t') (ht2 : t' ≤ 1073741823) : wp (C_X6_purge (x + 35) (nn t')) (sfi h 1309 x (nn t')) (fun _ h' => Rel x ec es ew e0 h' (sI r 66 (nn t')) ∧ Fm x [801, 1309] (fun a => a = x + 36) h h' ∧ hcs h' = hcs h ∧ hnx h' = hnx h) := by
  have T := R.st
  have hx := T.1
  have K := R.2.2.2.2.2.2.2.2.1
  obtain ⟨ks, hks, hkc⟩ := K.kl
  have ek := hks.kp
  have hv : iN (r.1 66) ≤ iN (nn t') := by rw [hr, iN_nn (by omega), iN_nn (by omega)]; exact htt
  have p1 : Fm x [801, 1309] (fun a => a = x + 36) h (sfi h 1309 x (nn t')) := Fm.rf.fi (Or.inl (by decide)) (Or.inl (by decide))
  have T1 : Stat x (sfi h 1309 x (nn t')) := T.sto p1.1
  have hl : (kpt r).length ≤ 16 := by
    rw [ek]
    exact Nat.le_trans (List.length_filter_le _ _) hks.2.1
  have e66 : (sI r 66 (nn t')).1 66 = nn t' := by rw [sI_1, if_pos rfl]
  have q : wp (C_X6_purge (x + 35) (nn t')) (sfi h 1309 x (nn t')) _ := qc_purge (K := kpt r) (g := gon (sI r 66 (nn t'))) T1 (by rw [hfi_sfi, if_neg (by omega)]; exact K.2.1) hl (fun k hk => ?_)
  · refine wp.mono q (fun _ h' z => ?_)
    obtain ⟨F, z1, z2⟩ := z
    have p2 : Fm x [801, 1309] (fun a => a = x + 36) h h' := by
      rw [z1]
      exact (p1.ar (Or.inl rfl) (by omega)).fi (Or.inl (by decide)) (Or.inl (by decide))
    have ec : hfi h' 801 (x + 35) = nn ((kpt r).filter (fun j => !gon (sI r 66 (nn t')) j)).length := by
      rw [z1, hfi_sfi, if_pos ⟨rfl, rfl⟩]
    have ef : har h' (x + 36) = F := by
      rw [z1, har_sfi, har_sar, if_pos rfl]
    have hl2 := List.length_filter_le (fun j => !gon (sI r 66 (nn t')) j) (kpt r)
    refine ⟨R.time p2 rfl ht2 hv ?_ (Kep.mk (ks := ks) (K := (kpt r).filter (fun j => !gon (sI r 66 (nn t')) j)) hks (fun q hq => ?_) ?_ ec (fun k hk => ?_)) (by rw [z1]; rfl) (by rw [z1]; rfl) (fun k hk => ?_), p2, by rw [z1]; rfl, by rw [z1]; rfl⟩
    · rw [z1, hfi_sfi, if_neg (by omega), hfi_sar, hfi_sfi, if_pos ⟨rfl, rfl⟩]
    · obtain ⟨c, c1, c2⟩ := hkc q hq
      exact ⟨c, by rw [e66]; omega, c2⟩
    · rw [ek, List.filter_filter]
      refine List.filter_congr (fun q hq => ?_)
      obtain ⟨c, c1, c2⟩ := hkc q hq
      rw [hr, iN_nn (by omega)] at c1
      by_cases g : gon r q = true
      · rw [gon_mono hr c1 htt ht2 c2 g]
        rfl
      · simp only [Bool.not_eq_true] at g
        rw [g]
        simp
    · obtain ⟨k', y1, y2, y3⟩ := z2 k hk
      obtain ⟨m, m1, m2⟩ := K.2.2 k' y1
      refine ⟨m, by rw [ef, y2]; exact m1, ?_⟩
      rw [y3]
      exact (m2.tm hv).to p2 Ro.rf (S := []) (by decide) (by decide)
    · rw [ec, iN_nn (by omega)] at hk
      obtain ⟨k', y1, y2, y3⟩ := z2 k hk
      exact ⟨k', by rw [K.2.1, iN_nn (by omega)]; exact y1, by rw [ef, y2]; rfl⟩
  · obtain ⟨m, m1, m2⟩ := K.2.2 k hk
    obtain ⟨V, v1, v2, v3⟩ := m2.1
    refine ⟨m, m1, v1.1, fun F => ?_⟩
    have p3 : Fm x [801, 1309] (fun a => a = x + 36) h (sar (sfi h 1309 x (nn t')) (x + 36) F) := p1.ar (Or.inl rfl) (by omega)
    exact qc_gone ((m2.tm hv).to p3 Ro.rf (S := []) (by decide) (by decide)) ⟨t', ht2, e66⟩ e66.symm
end TIM
