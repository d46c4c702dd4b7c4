/-! ===== one more is on the way ===== -/
theorem SesT.ne {x s s' b b' : Nat} {h : Hp} (T : SesT x h s b) (T' : SesT x h s' b') : ∀ e, 1 ≤ e → e ≤ 4 → b' ≠ b + e := by
  intro e h1 h2 he
  obtain ⟨t1, t2, t3, t4, t5, t6, t7, t8⟩ := T
  have k := T'.1
  rw [he] at k
  have hc : e = 1 ∨ e = 2 ∨ e = 3 ∨ e = 4 := by omega
  rcases hc with rfl | rfl | rfl | rfl
  · rw [t5.2.1] at k; omega
  · rw [t6.2.1] at k; omega
  · rw [t7.2.1] at k; omega
  · rw [t8.2.1] at k; omega
theorem SesT.inj {x s s' b : Nat} {h : Hp} (T : SesT x h s b) (T' : SesT x h s' b) (hs : s < 12) (hs' : s' < 12) : s = s' := nn_inj (by omega) (by omega) (T.2.2.2.1.symm.trans T'.2.2.2.1)
section WYC
variable {x k d : Nat} {h h' : Hp} {r r' : RS}
theorem Wy.chg {k' : Nat} (c : Wy x h r k d) (p : Sto x h h') (h0 : hfr h' 300 d = hfr h 300 d) (hi : ∀ f ∈ [301, 302, 303, 304, 305], hfi h' f d = hfi h f d) (hr : ∀ f ∈ [32, 33, 34, 35, 36, 37], r'.2.1 f k' = r.2.1 f k) (hM : ∀ m j, MpT x h r m j → MpT x h' r' m j) : Wy x h' r' k' d := by
  obtain ⟨m, j, q, fl, id, num, ⟨c1, c2, c3⟩, c4, c5, c6, c7⟩ := c
  refine ⟨m, j, q, fl, id, num, ⟨by rw [(p.2.1 d c3).1]; exact c1, c2, Nat.lt_of_lt_of_le c3 p.1⟩, by rw [h0]; exact c4, by rw [hr 33 (by decide)]; exact c5, hM m j c6, ?_⟩
  rw [hi 301 (by decide), hi 302 (by decide), hi 303 (by decide), hi 304 (by decide), hi 305 (by decide), hr 32 (by decide), hr 34 (by decide), hr 35 (by decide), hr 36 (by decide), hr 37 (by decide)]
  exact c7
theorem Wt.chg {k' : Nat} (c : Wt x h r k d) (p : Sto x h h') (h0 : hfr h' 300 d = hfr h 300 d) (hi : ∀ f ∈ [301, 302, 303, 305], hfi h' f d = hfi h f d) (hr : ∀ f ∈ [39, 40, 41, 42], r'.2.1 f k' = r.2.1 f k) (hM : ∀ m j, MpT x h r m j → MpT x h' r' m j) : Wt x h' r' k' d := by
  obtain ⟨m, j, q, fl, id, ⟨c1, c2, c3⟩, c4, c5, c6, c7⟩ := c
  refine ⟨m, j, q, fl, id, ⟨by rw [(p.2.1 d c3).1]; exact c1, c2, Nat.lt_of_lt_of_le c3 p.1⟩, by rw [h0]; exact c4, by rw [hr 39 (by decide)]; exact c5, hM m j c6, ?_⟩
  rw [hi 301 (by decide), hi 302 (by decide), hi 303 (by decide), hi 305 (by decide), hr 40 (by decide), hr 41 (by decide), hr 42 (by decide)]
  exact c7
end WYC
def dep (h : Hp) (b d n num : Nat) : Hp := sfi (sar (sfi h 304 d (nn num)) (b + 2) (va_up (har h (b + 2)) n (some d))) 1006 b (nn (n + 1))
def appM (r : RS) (s n j q fl id num : Nat) : RS := sA (sA (sA (sA (sA (sA (sA r 31 s (nn (n + 1))) 32 (16 * s + n) (nn num)) 33 (16 * s + n) (nn j)) 34 (16 * s + n) (nn q)) 35 (16 * s + n) (nn fl)) 36 (16 * s + n) (nn id)) 37 (16 * s + n) 0
theorem appM.ro {r : RS} {s n j q fl id num : Nat} : Ro [31, 32, 33, 34, 35, 36, 37] r (appM r s n j q fl id num) := ((((((Ro.rf.a (by decide)).a (by decide)).a (by decide)).a (by decide)).a (by decide)).a (by decide)).a (by decide)
theorem appM.rd {r : RS} {s n j q fl id num w : Nat} (hw : w ≠ 16 * s + n) : ∀ f ∈ [32, 33, 34, 35, 36, 37], (appM r s n j q fl id num).2.1 f w = r.2.1 f w := by
  intro f hf
  unfold appM
  simp only [List.mem_cons, List.not_mem_nil, or_false] at hf
  simp only [sA_2]
  rcases hf with rfl | rfl | rfl | rfl | rfl | rfl <;> simp [hw]
section APP
variable {x ec es ew s b d n m j q fl id num : Nat} {e0 : Int32} {h : Hp} {r : RS}
theorem dep.fm (T : SesT x h s b) (hd : x + 130 ≤ d) : Fm x [304, 1006] (fun a => a = b + 2) h (dep h b d n num) := by
  have t2 := T.2.1
  unfold dep
  refine Fm.fi (Fm.ar (Fm.fi Fm.rf ?_ ?_) (Or.inl rfl) (by omega)) ?_ ?_
  · exact Or.inl (by decide)
  · exact Or.inl (by decide)
  · exact Or.inl (by decide)
  · exact Or.inl (by decide)
theorem Rel.app (R : Rel x ec es ew e0 h r) (hs : s < 12) (hb : har h (x + 34) s = some b) (hn : r.2.1 31 s = nn n) (hn2 : n < 16) (hd : hkd h d = 4 ∧ x + 130 ≤ d ∧ d < hnx h)
    (hL : ∀ s' b' k', s' < 12 → har h (x + 34) s' = some b' → k' < 40 → act r s' k' → dl h b' k' ≠ some d) (hm : hfr h 300 d = some m) (hM : MpT x h r m j) (hj : j < 640)
    (hq : hfi h 301 d = nn q ∧ 1 ≤ q ∧ q ≤ 2) (hfl : hfi h 302 d = nn fl ∧ fl ≤ 1) (hid : hfi h 303 d = nn id ∧ id < 268435456) (h305 : hfi h 305 d = 0) (hnum : 1 ≤ num ∧ num ≤ 16) (hf : ∀ k, k < n → wnum r s k ≠ num)
    (hW : ∀ s' b', s' < 12 → har h (x + 34) s' = some b' → hfr h 1011 b' ≠ some m ∧ r.2.1 20 s' ≠ nn j) : Rel x ec es ew e0 (dep h b d n num) (appM r s n j q fl id num) := by
  obtain ⟨T, G, sm, C, SS, U1, U2, U3, K, U4, f0, bs0, W⟩ := R
  have hx := T.1
  have S0 := ((SS s hs).at hb).2.1
  have T0 := S0.1
  have p : Fm x [304, 1006] (fun a => a = b + 2) h (dep h b d n num) := dep.fm T0 hd.2.1
  have w : Ro [31, 32, 33, 34, 35, 36, 37] r (appM r s n j q fl id num) := appM.ro
  have hb2 := T0.2.1
  have hdb : d ≠ b := fun e => by have := hd.1; rw [e, T0.1] at this; omega
  have e34 : har (dep h b d n num) (x + 34) = har h (x + 34) := (p.2.2 (x + 34) (by omega) (by omega)).2.1
  have hMp : ∀ m j, MpT x h r m j → MpT x (dep h b d n num) (appM r s n j q fl id num) m j := fun m' j' z => z.to p (by exact appM.ro) (by decide) (by decide)
  have hMp2 : ∀ m' j', MpT x h r m' j' → MpT x (dep h b d n num) (appM r s n j q fl id num) m' j' := fun m' j' z => z.to p w (by decide) (by decide)
  have ea : ∀ s' k, act (appM r s n j q fl id num) s' k ↔ (act r s' k ∨ (s' = s ∧ k = n)) := by
    intro s' k
    unfold act
    rw [w.gA (k := 38) (by decide)]
    have e31 : (appM r s n j q fl id num).2.1 31 s' = if s' = s then nn (n + 1) else r.2.1 31 s' := by
      unfold appM
      simp only [sA_2]
      simp
    by_cases h16 : k < 16
    · rw [if_pos h16, if_pos h16, e31]
      by_cases g : s' = s
      · rw [if_pos g, g, hn, iN_nn (by omega), iN_nn (by omega)]
        omega
      · rw [if_neg g]
        exact ⟨Or.inl, fun z => z.elim (fun y => y) (fun z => absurd z.1 g)⟩
    · rw [if_neg h16, if_neg h16]
      exact ⟨Or.inl, fun z => z.elim (fun y => y) (fun z => by omega)⟩
  have edl : ∀ s' b' k, s' < 12 → har h (x + 34) s' = some b' → dl (dep h b d n num) b' k = if b' = b ∧ k = n then some d else dl h b' k := by
    intro s' b' k h1 h2
    have T' := ((SS s' h1).at h2).2.1.1
    have n1 := T0.ne T' 1 (by omega) (by omega)
    have n2 := T'.ne T0 1 (by omega) (by omega)
    unfold dl dep
    simp only [hnx_sfi, hkd_sfi, hln_sfi, hfi_sfi, hfl_sfi, hfr_sfi, hai_sfi, hal_sfi, har_sfi, hcs_sfi, hnx_sfl, hkd_sfl, hln_sfl, hfi_sfl, hfl_sfl, hfr_sfl, hai_sfl, hal_sfl, har_sfl, hcs_sfl, hnx_sfr, hkd_sfr, hln_sfr, hfi_sfr, hfl_sfr, hfr_sfr, hai_sfr, hal_sfr, har_sfr, hcs_sfr, hnx_sai, hkd_sai, hln_sai, hfi_sai, hfl_sai, hfr_sai, hai_sai, hal_sai, har_sai, hcs_sai, hnx_sal, hkd_sal, hln_sal, hfi_sal, hfl_sal, hfr_sal, hai_sal, hal_sal, har_sal, hcs_sal, hnx_sar, hkd_sar, hln_sar, hfi_sar, hfl_sar, hfr_sar, hai_sar, hal_sar, har_sar, hcs_sar, hnx_hob, hkd_hob, hln_hob, hfi_hob, hfl_hob, hfr_hob, hai_hob, hal_hob, har_hob, hc1_hob, hc2_hob, hnx_hay, hkd_hay, hln_hay, hfi_hay, hfl_hay, hfr_hay, hai_hay, hal_hay, har_hay, hc1_hay, hc2_hay, hnx_hsk, hkd_hsk, hln_hsk, hfi_hsk, hfl_hsk, hfr_hsk, hai_hsk, hal_hsk, har_hsk, hc1_hsk, hc2_hsk]
    by_cases h16 : k < 16
    · rw [if_pos h16, if_pos h16]
      by_cases g : b' = b
      · rw [if_pos (by omega)]
        show (if k = n then some d else har h (b + 2) k) = _
        by_cases g2 : k = n
        · rw [if_pos g2, if_pos ⟨g, g2⟩]
        · rw [if_neg g2, if_neg (fun z => g2 z.2), g]
      · rw [if_neg (by omega), if_neg (fun z => g z.1)]
    · rw [if_neg h16, if_neg h16, if_neg (by omega), if_neg (by omega)]
  have ebb : ∀ s', s' < 12 → har h (x + 34) s' = some b → s' = s := fun s' h1 h2 => (((SS s' h1).at h2).2.1.1).inj T0 h1 hs
  refine ⟨T.sto p.1, ?_, ?_, fun i hi => ?_, fun s' hs' => ?_, ?_, U2.fm T SS p w (by omega) (fun s' b' h1 h2 => ?_) (by decide), U3.fm1 (s := s) w ((SS s hs).at hb).1 (by decide) (fun s' g => ⟨by rw [w.gA (by decide)], by unfold appM; rw [sA_o (by decide), sA_o (by decide), sA_o (by decide), sA_o (by decide), sA_o (by decide), sA_o (by decide), sA_2, if_neg (fun z => g z.2)], by rw [w.gA (by decide)], by rw [w.gA (by decide)]⟩), K.fm T p w (by decide) (by omega) (by decide), ?_, f0, bs0, ?_⟩
  · unfold Glo
    rw [p.gi (f := 1309) (by decide) (by omega), p.gi (f := 1310) (by decide) (by omega), p.gi (f := 1311) (by decide) (by omega), p.gi (f := 1312) (by decide) (by omega), p.gi (f := 1313) (by decide) (by omega), p.gi (f := 1314) (by decide) (by omega), p.gi (f := 1315) (by decide) (by omega), w.gI (k := 66) (by decide), w.gI (k := 67) (by decide), w.gI (k := 69) (by decide), w.gI (k := 70) (by decide), w.gI (k := 71) (by decide), w.gI (k := 72) (by decide), w.gI (k := 74) (by decide)]
    exact G
  · have e2 : ∀ j', j' < 8 → hfi (dep h b d n num) 206 (cA x j') = hfi h 206 (cA x j') := fun j' hj => p.gi (by decide) (by have := T.cl hj; omega)
    unfold sSum
    rw [w.gI (k := 68) (by decide), sm, e2 0 (by omega), e2 1 (by omega), e2 2 (by omega), e2 3 (by omega), e2 4 (by omega), e2 5 (by omega), e2 6 (by omega), e2 7 (by omega)]
    rfl
  · obtain ⟨c1, c2, c3, c4⟩ := C i hi
    exact ⟨c1.fm T hi p w (by decide) (by omega) (by decide), c2.fm T hi p w (by decide) (by show ¬ x + 2 + 4 * i + 1 = b + 2; omega) (by decide), c3.fm T hi p w (by show ¬ x + 2 + 4 * i + 3 = b + 2; omega) (by decide), fun hec => (c4 hec).fm T hi p w (by decide) (by show ¬ x + 2 + 4 * i + 2 = b + 2; omega) (by decide)⟩
  · rcases SS s' hs' with c | ⟨c1, b', c2, c3, c4⟩
    · exact Or.inl (by rw [w.gA (k := 11) (by decide), e34]; exact c)
    · have hb' := c3.1.2.2.1
      have n1 := T0.ne c3.1 1 (by omega) (by omega)
      have n2 := c3.1.ne T0 1 (by omega) (by omega)
      have n3 := c3.1.ne T0 2 (by omega) (by omega)
      refine Or.inr ⟨by rw [w.gA (k := 11) (by decide)]; exact c1, b', by rw [e34]; exact c2, ⟨c3.1.sto p.1, c3.2.1.fm (by omega) p.1 w (by decide), c3.2.2.1.fm (by omega) p w (by decide) (by decide), c3.2.2.2.1.fm (by omega) p w (by decide) (by decide), c3.2.2.2.2.1.fm hb' p w (by decide) (by omega) (by decide), ?_, c3.2.2.2.2.2.2.1.fm hb' p w (by decide) (by omega) (by decide), c3.2.2.2.2.2.2.2.1.fm hb' p w (by decide) (by omega) (by decide), c3.2.2.2.2.2.2.2.2.fm w (by decide)⟩, fun g => (c4 g).fm (by omega) p w (by decide) (by decide)⟩
      obtain ⟨n', y1, y2, y3, y4, y5⟩ := c3.2.2.2.2.2.1
      have hdl : ∀ k, k < n' → ∀ d', har h (b' + 2) k = some d' → d' ≠ d := fun k hk d' e1 e2 => by
        refine hL s' b' k hs' c2 (by omega) ?_ ?_
        · unfold act
          rw [if_pos (by omega), y3, iN_nn (by omega)]
          exact hk
        · unfold dl
          rw [if_pos (by omega), e1, e2]
      by_cases g : s' = s
      · subst g
        rw [hb] at c2
        cases c2
        have en : n' = n := nn_inj (by omega) (by omega) (y3.symm.trans hn)
        subst en
        have eh2 : har (dep h b d n' num) (b + 2) = va_up (har h (b + 2)) n' (some d) := by
          unfold dep
          rw [har_sfi, har_sar, if_pos rfl]
        refine ⟨n' + 1, by omega, ?_, ?_, fun k hk => ?_, fun k k' hk hk' he => ?_⟩
        · unfold dep
          rw [hfi_sfi, if_pos ⟨rfl, rfl⟩]
        · unfold appM
          simp only [sA_2]
          simp
        · rw [eh2]
          by_cases g2 : k = n'
          · subst g2
            refine ⟨d, ?_, m, j, q, fl, id, num, ⟨by rw [(p.1.2.1 d hd.2.2).1]; exact hd.1, hd.2.1, Nat.lt_of_lt_of_le hd.2.2 p.1.1⟩, ?_, ?_, hMp2 m j hM, ?_⟩
            · show (if k = k then some d else _) = _
              rw [if_pos rfl]
            · rw [p.gr (by decide) hd.2.2]; exact hm
            · unfold appM
              simp only [sA_2]
              simp
            · rw [p.gi (f := 301) (by decide) hd.2.2, p.gi (f := 302) (by decide) hd.2.2, p.gi (f := 303) (by decide) hd.2.2, p.gi (f := 305) (by decide) hd.2.2]
              have e304 : hfi (dep h b d k num) 304 d = nn num := by
                unfold dep
                rw [hfi_sfi, if_neg (by omega), hfi_sar, hfi_sfi, if_pos ⟨rfl, rfl⟩]
              rw [e304]
              unfold appM
              simp only [sA_2]
              simp
              refine ⟨⟨hq.1, hq.2⟩, hfl, hid, hnum, h305⟩
          · obtain ⟨d', d1, d2⟩ := y4 k (by omega)
            have hne := hdl k (by omega) d' d1
            refine ⟨d', ?_, d2.chg p.1 (p.gr (by decide) ?_) (fun f hf => ?_) (appM.rd (by omega)) hMp2⟩
            · show (if k = n' then some d else _) = _
              rw [if_neg g2]
              exact d1
            · obtain ⟨_, _, _, _, _, _, d3, _⟩ := d2
              exact d3.2.2
            · unfold dep
              simp only [hnx_sfi, hkd_sfi, hln_sfi, hfi_sfi, hfl_sfi, hfr_sfi, hai_sfi, hal_sfi, har_sfi, hcs_sfi, hnx_sfl, hkd_sfl, hln_sfl, hfi_sfl, hfl_sfl, hfr_sfl, hai_sfl, hal_sfl, har_sfl, hcs_sfl, hnx_sfr, hkd_sfr, hln_sfr, hfi_sfr, hfl_sfr, hfr_sfr, hai_sfr, hal_sfr, har_sfr, hcs_sfr, hnx_sai, hkd_sai, hln_sai, hfi_sai, hfl_sai, hfr_sai, hai_sai, hal_sai, har_sai, hcs_sai, hnx_sal, hkd_sal, hln_sal, hfi_sal, hfl_sal, hfr_sal, hai_sal, hal_sal, har_sal, hcs_sal, hnx_sar, hkd_sar, hln_sar, hfi_sar, hfl_sar, hfr_sar, hai_sar, hal_sar, har_sar, hcs_sar, hnx_hob, hkd_hob, hln_hob, hfi_hob, hfl_hob, hfr_hob, hai_hob, hal_hob, har_hob, hc1_hob, hc2_hob, hnx_hay, hkd_hay, hln_hay, hfi_hay, hfl_hay, hfr_hay, hai_hay, hal_hay, har_hay, hc1_hay, hc2_hay, hnx_hsk, hkd_hsk, hln_hsk, hfi_hsk, hfl_hsk, hfr_hsk, hai_hsk, hal_hsk, har_hsk, hc1_hsk, hc2_hsk]
              simp only [List.mem_cons, List.not_mem_nil, or_false] at hf
              rw [if_neg (by omega), if_neg (fun z => hne z.2)]
        · have ew : ∀ k, k < n' + 1 → (appM r s' n' j q fl id num).2.1 32 (16 * s' + k) = if k = n' then nn num else r.2.1 32 (16 * s' + k) := by
            intro k hk
            unfold appM
            simp only [sA_2]
            simp
          rw [ew k hk, ew k' hk'] at he
          have hwn : ∀ k, k < n' → r.2.1 32 (16 * s' + k) = nn (wnum r s' k) ∧ wnum r s' k ≤ 16 := fun k hk => by
            obtain ⟨_, _, _, _, z1, _, z2⟩ := S0.2.2.2.2.2.1.num hn (by omega) hk
            exact ⟨z1, z2⟩
          by_cases g1 : k = n'
          · by_cases g2 : k' = n'
            · omega
            · rw [if_pos g1, if_neg g2, (hwn k' (by omega)).1] at he
              exact absurd (nn_inj (by omega) (by have := (hwn k' (by omega)).2; omega) he).symm (hf k' (by omega))
          · by_cases g2 : k' = n'
            · rw [if_neg g1, if_pos g2, (hwn k (by omega)).1] at he
              exact absurd (nn_inj (by have := (hwn k (by omega)).2; omega) (by omega) he) (hf k (by omega))
            · rw [if_neg g1, if_neg g2] at he
              exact y5 k k' (by omega) (by omega) he
      · have hbb : b' ≠ b := fun e => g (ebb s' hs' (by rw [← e]; exact c2))
        have e31 : (appM r s n j q fl id num).2.1 31 s' = r.2.1 31 s' := by
          unfold appM
          simp only [sA_2]
          simp [g]
        have hw16 : ∀ k, k < 16 → 16 * s' + k ≠ 16 * s + n := fun k hk => by omega
        refine ⟨n', y1, ?_, by rw [e31]; exact y3, fun k hk => ?_, fun k k' hk hk' he => ?_⟩
        · unfold dep
          rw [hfi_sfi, if_neg (fun z => hbb z.2), hfi_sar, hfi_sfi, if_neg (by omega)]
          exact y2
        · obtain ⟨d', d1, d2⟩ := y4 k hk
          have hne := hdl k hk d' d1
          refine ⟨d', ?_, d2.chg p.1 (p.gr (by decide) ?_) (fun f hf => ?_) (appM.rd (hw16 k (by omega))) hMp2⟩
          · rw [(p.2.2 (b' + 2) (by omega) (by omega)).2.1]
            exact d1
          · obtain ⟨_, _, _, _, _, _, d3, _⟩ := d2
            exact d3.2.2
          · unfold dep
            simp only [hnx_sfi, hkd_sfi, hln_sfi, hfi_sfi, hfl_sfi, hfr_sfi, hai_sfi, hal_sfi, har_sfi, hcs_sfi, hnx_sfl, hkd_sfl, hln_sfl, hfi_sfl, hfl_sfl, hfr_sfl, hai_sfl, hal_sfl, har_sfl, hcs_sfl, hnx_sfr, hkd_sfr, hln_sfr, hfi_sfr, hfl_sfr, hfr_sfr, hai_sfr, hal_sfr, har_sfr, hcs_sfr, hnx_sai, hkd_sai, hln_sai, hfi_sai, hfl_sai, hfr_sai, hai_sai, hal_sai, har_sai, hcs_sai, hnx_sal, hkd_sal, hln_sal, hfi_sal, hfl_sal, hfr_sal, hai_sal, hal_sal, har_sal, hcs_sal, hnx_sar, hkd_sar, hln_sar, hfi_sar, hfl_sar, hfr_sar, hai_sar, hal_sar, har_sar, hcs_sar, hnx_hob, hkd_hob, hln_hob, hfi_hob, hfl_hob, hfr_hob, hai_hob, hal_hob, har_hob, hc1_hob, hc2_hob, hnx_hay, hkd_hay, hln_hay, hfi_hay, hfl_hay, hfr_hay, hai_hay, hal_hay, har_hay, hc1_hay, hc2_hay, hnx_hsk, hkd_hsk, hln_hsk, hfi_hsk, hfl_hsk, hfr_hsk, hai_hsk, hal_hsk, har_hsk, hc1_hsk, hc2_hsk]
            simp only [List.mem_cons, List.not_mem_nil, or_false] at hf
            rw [if_neg (by omega), if_neg (fun z => hne z.2)]
        · rw [appM.rd (hw16 k (by omega)) 32 (by decide), appM.rd (hw16 k' (by omega)) 32 (by decide)] at he
          exact y5 k k' hk hk' he
  · intro s1 s2 b1 b2 k1 k2 d' h1 h2 h3 h4 h5 h6 h7 h8 h9 h10
    rw [e34] at h3 h4
    rw [edl s1 b1 k1 h1 h3] at h9
    rw [edl s2 b2 k2 h2 h4] at h10
    rw [ea] at h7 h8
    have live : ∀ s1 b1 k1, s1 < 12 → har h (x + 34) s1 = some b1 → ¬ (b1 = b ∧ k1 = n) → (act r s1 k1 ∨ s1 = s ∧ k1 = n) → act r s1 k1 := by
      intro s1 b1 k1 g1 g3 g4 g5
      rcases g5 with g5 | ⟨g5, g6⟩
      · exact g5
      · subst g5
        rw [hb] at g3
        cases g3
        exact absurd ⟨rfl, g6⟩ g4
    by_cases g1 : b1 = b ∧ k1 = n
    · by_cases g2 : b2 = b ∧ k2 = n
      · exact ⟨(ebb s1 h1 (by rw [← g1.1]; exact h3)).trans (ebb s2 h2 (by rw [← g2.1]; exact h4)).symm, g1.2.trans g2.2.symm⟩
      · rw [if_pos g1] at h9
        rw [if_neg g2] at h10
        cases h9
        exact absurd h10 (hL s2 b2 k2 h2 h4 h6 (live s2 b2 k2 h2 h4 g2 h8))
    · by_cases g2 : b2 = b ∧ k2 = n
      · rw [if_neg g1] at h9
        rw [if_pos g2] at h10
        cases h10
        exact absurd h9 (hL s1 b1 k1 h1 h3 h5 (live s1 b1 k1 h1 h3 g1 h7))
      · rw [if_neg g1] at h9
        rw [if_neg g2] at h10
        exact U1 s1 s2 b1 b2 k1 k2 d' h1 h2 h3 h4 h5 h6 (live s1 b1 k1 h1 h3 g1 h7) (live s2 b2 k2 h2 h4 g2 h8) h9 h10
  · have T' := ((SS s' h1).at h2).2.1.1
    have n1 := T0.ne T' 1 (by omega) (by omega)
    omega
  · intro s1 b1 m1 j1 h1 h2 h3 h4
    rw [e34] at h2
    have l1 := SesA.lt SS h1 h2
    rw [p.gr (by decide) (by omega)] at h3
    rw [w.gA (k := 20) (by decide)] at h4
    obtain ⟨q1, q2, q3, q4, q5, q6⟩ := U4 s1 b1 m1 j1 h1 h2 h3 h4
    have hw1 := hW s1 b1 h1 h2
    rw [e34, (p.2.2 (x + 36) (by omega) (by omega)).2.1, p.gi (f := 801) (by decide) (by omega), w.gA (k := 11) (by decide), w.gA (k := 20) (by decide), w.gA (k := 38) (by decide), w.gA (k := 39) (by decide), w.gA (k := 64) (by decide), w.gI (k := 65) (by decide)]
    refine ⟨fun s2 b2 g1 g2 g3 => ?_, fun s2 b2 k d' g1 g2 g3 g4 g5 => ?_, fun s2 k g1 g2 g3 => ?_, q4, q5, q6⟩
    · have l2 := SesA.lt SS g1 g3
      rw [p.gr (by decide) (by omega)]
      exact q1 s2 b2 g1 g2 g3
    · rw [edl s2 b2 k g1 g2] at g5
      rw [ea] at g4
      by_cases gg : b2 = b ∧ k = n
      · rw [if_pos gg] at g5
        cases g5
        rw [p.gr (by decide) hd.2.2, hm]
        intro e
        cases e
        exact hw1.1 h3
      · rw [if_neg gg] at g5
        have ga : act r s2 k := by
          rcases g4 with g4 | ⟨g4, g6⟩
          · exact g4
          · subst g4
            rw [hb] at g2
            cases g2
            exact absurd ⟨rfl, g6⟩ gg
        have ld := act.lt ((SS s2 g1).at g2).2.1 ga g3 g5
        rw [p.gr (by decide) ld]
        exact q2 s2 b2 k d' g1 g2 g3 ga g5
    · by_cases gg : s2 = s ∧ k = n
      · have e33 : (appM r s n j q fl id num).2.1 33 (16 * s2 + k) = nn j := by
          rw [gg.1, gg.2]
          unfold appM
          simp only [sA_2]
          simp
        rw [e33]
        intro e
        exact hw1.2 (by rw [h4, e])
      · have e31 : (appM r s n j q fl id num).2.1 31 s2 = if s2 = s then nn (n + 1) else r.2.1 31 s2 := by
          unfold appM
          simp only [sA_2]
          simp
        rw [e31] at g3
        have hY : ∃ b', SesY x h r s2 b' := by
          rcases SS s2 g1 with c | ⟨c1, b', c2, c3, c4⟩
          · rw [c.1] at g2; exact absurd g2 (by decide)
          · exact ⟨_, c3.2.2.2.2.2.1⟩
        obtain ⟨b', n', y1, y2, y3, y4, y5⟩ := hY
        have hk : k < iN (r.2.1 31 s2) ∧ k < 16 := by
          by_cases ge : s2 = s
          · rw [if_pos ge, iN_nn (by omega)] at g3
            rw [ge, hn, iN_nn (by omega)]
            omega
          · rw [if_neg ge, y3, iN_nn (by omega)] at g3
            rw [y3, iN_nn (by omega)]
            omega
        rw [appM.rd (by omega) 33 (by decide)]
        exact q3 s2 k g1 g2 hk.1
  · obtain ⟨⟨a1, a2, a3, a4⟩, a5, a6, a7, a8, a9⟩ := W
    refine ⟨⟨a1, ?_, a3, a4⟩, ?_, ?_, ?_, a8, a9⟩
    · rw [p.gr (by decide) (by omega)]; exact a2
    · rw [p.gi (f := 1200) (by decide) (by omega)]; exact a5
    · rw [p.gi (f := 1202) (by decide) (by omega)]; exact a6
    · rw [(p.2.2 (x + 46 + 1) (by omega) (by omega)).1]; exact a7
end APP
