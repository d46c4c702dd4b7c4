/-! ===== subscriptions: matched, shared, the same; by both ===== -/
section TAK
variable {x ew s b k u w w' j o n : Nat} {h : Hp} {r : RS} {bs bs' F T : List Nat} {st : Nat}
theorem qm_matches (hF : Mg (r.2.1 26) o F) (hbF : By F) (hoF : o + F.length ≤ 6144) (hT : Mg (r.2.1 45) (480 * j) T) (hbT : By T) (hj : j < 640) (hlT : T.length ≤ 64) (h1T : 1 ≤ T.length) (hsz : r.2.1 46 j = nn T.length) (hlF : F.length ≤ 64) (h1F : 1 ≤ F.length) (hlv : lv true F = true) : R_matches (nn o) (nn F.length) (nn j) r = some (if mtc F T = true then 1 else 0, r) := by
  have e : wp (R_matches (nn o) (nn F.length) (nn j)) r (fun v r' => r' = r ∧ v = if mtc F T = true then 1 else 0) := by
    unfold R_matches
    rw [l_480, nn_mul, wp_lq, wr_46 hj, hsz, wr_45 (by omega)]
    have q0 := hT 0 (by omega)
    have f0 := hF 0 (by omega)
    rw [Nat.add_zero] at q0 f0
    have run : mtc F T = mc F T → wp (R_matches_J51 (nn o) (nn F.length) (nn (480 * j)) (nn T.length)) r (fun v r' => r' = r ∧ v = if mtc F T = true then 1 else 0) := fun em => by
      unfold R_matches_J51
      rw [em]
      have := qm_mat_loop hF hbF hoF hT hbT hj hlT hlF hlv F.length 0 0 fu (by omega) (by omega) (by unfold fu; omega) (by omega) rfl
      rw [List.drop_zero, List.drop_zero] at this
      exact this
    rw [q0]
    by_cases g36 : T.getD 0 0 = 36
    · rw [l_36, wp_pos ((sb_nn (hbT.at 0) (by omega)).mpr g36), wr_26 (by omega), f0]
      by_cases g43 : F.getD 0 0 = 43
      · rw [l_43, wp_pos ((sb_nn (hbF.at 0) (by omega)).mpr g43), wp_zt]
        have em : mtc F T = false := by unfold mtc; rw [if_pos ⟨g36, Or.inl g43⟩]
        rw [em]
        exact ⟨Or.inl rfl, rfl, rfl⟩
      · rw [l_43, wp_neg (fun e => g43 ((sb_nn (hbF.at 0) (by omega)).mp e)), wr_26 (by omega), f0]
        by_cases g35 : F.getD 0 0 = 35
        · rw [l_35, wp_pos ((sb_nn (hbF.at 0) (by omega)).mpr g35), wp_zt]
          have em : mtc F T = false := by unfold mtc; rw [if_pos ⟨g36, Or.inr g35⟩]
          rw [em]
          exact ⟨Or.inl rfl, rfl, rfl⟩
        · rw [l_35, wp_neg (fun e => g35 ((sb_nn (hbF.at 0) (by omega)).mp e))]
          exact run (by unfold mtc; rw [if_neg (fun z => z.2.elim g43 g35)])
    · rw [l_36, wp_neg (fun e => g36 ((sb_nn (hbT.at 0) (by omega)).mp e))]
      exact run (by unfold mtc; rw [if_neg (fun z => g36 z.1)])
  obtain ⟨v, r', e1, e2, e3⟩ := e
  rw [e1, e2, e3]
theorem shA_of (hst : fstart bs = some st) : shA bs = st := by
  unfold shA
  rw [hst]
  rfl
theorem qm_takes (hw : w < 96) (hz : r.2.1 25 w = nn bs.length) (hm : Mg (r.2.1 26) (64 * w) bs) (hb : By bs) (hst : fstart bs = some st) (hT : Mg (r.2.1 45) (480 * j) T) (hbT : By T) (hj : j < 640) (hlT : T.length ≤ 64) (h1T : 1 ≤ T.length) (hsz : r.2.1 46 j = nn T.length) : R_takes (nn w) (nn j) r = some (if mtc (bs.drop st) T = true then 1 else 0, r) := by
  obtain ⟨f1, f2, f3⟩ := fstart_lt hst
  have e : wp (R_takes (nn w) (nn j)) r (fun v r' => r' = r ∧ v = if mtc (bs.drop st) T = true then 1 else 0) := by
    unfold R_takes
    have qs := qm_shareAt (r := r) (f0 := 26) hm hb (by rw [mL_26]; omega) (by omega)
    rw [shA_of hst] at qs
    rw [wr_25 hw, hz, l_64, nn_mul, wp_bd]
    refine wp.get qs ?_
    have ld : (bs.drop st).length = bs.length - st := List.length_drop ..
    have qm := qm_matches (o := 64 * w + st) (j := j) (hm.drop st (by omega)) (hb.drop st) (by rw [ld]; omega) hT hbT hj hlT h1T hsz (by rw [ld]; omega) (by rw [ld]; omega) f3
    rw [wr_25 hw, hz, nn_add, nn_sub (by omega), wp_bd, ← ld]
    refine wp.get qm ?_
    rw [wp_zt]
    refine ⟨?_, rfl, rfl⟩
    split
    · exact Or.inr rfl
    · exact Or.inl rfl
  obtain ⟨v, r', e1, e2, e3⟩ := e
  rw [e1, e2, e3]
theorem qm_isShared (hw : w < 96) (hz : r.2.1 25 w = nn bs.length) (hm : Mg (r.2.1 26) (64 * w) bs) (hb : By bs) (hst : fstart bs = some st) : R_isShared (nn w) r = some (if 0 < st then 1 else 0, r) := by
  obtain ⟨f1, f2, f3⟩ := fstart_lt hst
  have e : wp (R_isShared (nn w)) r (fun v r' => r' = r ∧ v = if 0 < st then 1 else 0) := by
    unfold R_isShared
    have qs := qm_shareAt (r := r) (f0 := 26) hm hb (by rw [mL_26]; omega) (by omega)
    rw [shA_of hst] at qs
    rw [wr_25 hw, hz, l_64, nn_mul, wp_bd]
    refine wp.get qs ?_
    by_cases g : 0 < st
    · rw [wp_neg (by rw [show (0 : Int32) = nn 0 from rfl, nn_le (by omega) (by omega)]; omega), wp_zt, if_pos g]
      exact ⟨Or.inr rfl, rfl, rfl⟩
    · rw [wp_pos (by rw [show (0 : Int32) = nn 0 from rfl, nn_le (by omega) (by omega)]; omega), wp_zt, if_neg g]
      exact ⟨Or.inl rfl, rfl, rfl⟩
  obtain ⟨v, r', e1, e2, e3⟩ := e
  rw [e1, e2, e3]
theorem qm_sameFilter (hw : w < 96) (hw' : w' < 96) (hz : r.2.1 25 w = nn bs.length) (hm : Mg (r.2.1 26) (64 * w) bs) (hb : By bs) (hl : bs.length ≤ 64) (hz' : r.2.1 25 w' = nn bs'.length) (hm' : Mg (r.2.1 26) (64 * w') bs') (hb' : By bs') (hl' : bs'.length ≤ 64) : R_sameFilter (nn w) (nn w') r = some (if bs = bs' then 1 else 0, r) := by
  have e : wp (R_sameFilter (nn w) (nn w')) r (fun v r' => r' = r ∧ v = if bs = bs' then 1 else 0) := by
    unfold R_sameFilter
    rw [wr_25 hw, hz, wr_25 hw', hz']
    by_cases g : bs.length = bs'.length
    · rw [wp_pos (by rw [g])]
      unfold R_sameFilter_J20
      have key : ∀ (m i n : Nat), i + m = bs.length → m < n → (∀ k, k < i → bs.getD k 0 = bs'.getD k 0) → wp (R_sameFilter_L24 (fun l3 => R_sameFilter_J78 l3) n (nn w) (nn w') (1 : Int32) (nn i)) r (fun v r' => r' = r ∧ v = if bs = bs' then 1 else 0) := by
        intro m
        induction m with
        | zero =>
          intro i n hi hn hk
          obtain ⟨n', rfl⟩ : ∃ z, n = z + 1 := ⟨n - 1, by omega⟩
          show wp (R_sameFilter_B24 _ _ (nn w) (nn w') 1 (nn i)) r _
          unfold R_sameFilter_B24
          rw [wr_25 hw, hz, wp_pos (by rw [nn_le (by omega) (by omega)]; omega)]
          unfold R_sameFilter_J78
          dsimp only
          rw [wp_zt, if_pos (list_ext0 g (fun q hq => hk q (by omega)))]
          exact ⟨Or.inr rfl, rfl, rfl⟩
        | succ m ih =>
          intro i n hi hn hk
          obtain ⟨n', rfl⟩ : ∃ z, n = z + 1 := ⟨n - 1, by omega⟩
          show wp (R_sameFilter_B24 _ _ (nn w) (nn w') 1 (nn i)) r _
          unfold R_sameFilter_B24
          rw [wr_25 hw, hz, wp_neg (by rw [nn_le (by omega) (by omega)]; omega), wp_neg (by decide), l_64, nn_mul, nn_add, wr_26 (by omega), nn_mul, nn_add, wr_26 (by omega), hm i (by omega), hm' i (by omega)]
          unfold R_sameFilter_J71
          by_cases q : bs.getD i 0 = bs'.getD i 0
          · rw [wp_pos (by rw [q])]
            show wp (R_sameFilter_L24 _ n' (nn w) (nn w') 1 (nn i + 1)) r _
            rw [l_1, nn_add]
            exact ih (i + 1) n' (by omega) (by omega) (fun k hk' => by
              by_cases e : k = i
              · rw [e]; exact q
              · exact hk k (by omega))
          · rw [wp_neg (fun e => q ((sb_inj (hb.at i) (hb'.at i)).mp e))]
            obtain ⟨n2, rfl⟩ : ∃ z, n' = z + 1 := ⟨n' - 1, by omega⟩
            show wp (R_sameFilter_B24 _ _ (nn w) (nn w') 0 (nn i + 1)) r _
            unfold R_sameFilter_B24
            rw [wr_25 hw, hz, if_neg (show ¬ bs = bs' from fun e => q (by rw [e]))]
            have z : wp (R_sameFilter_J78 (0 : Int32)) r (fun v r' => r' = r ∧ v = 0) := by
              unfold R_sameFilter_J78
              rw [wp_zt]
              exact ⟨Or.inl rfl, rfl, rfl⟩
            rw [l_1, nn_add]
            by_cases gl : bs.length ≤ i + 1
            · rw [wp_pos (by rw [nn_le (by omega) (by omega)]; exact gl)]
              exact z
            · rw [wp_neg (by rw [nn_le (by omega) (by omega)]; exact gl), wp_pos rfl]
              exact z
      exact key bs.length 0 fu (by omega) (by unfold fu; omega) (fun k hk => by omega)
    · rw [wp_neg (fun e => g (nn_inj (by omega) (by omega) e))]
      unfold R_sameFilter_J20
      obtain ⟨n2, hn2⟩ : ∃ z, fu = z + 1 := ⟨4999, rfl⟩
      rw [hn2]
      show wp (R_sameFilter_B24 _ _ (nn w) (nn w') 0 0) r _
      unfold R_sameFilter_B24
      rw [wr_25 hw, hz, if_neg (show ¬ bs = bs' from fun e => g (by rw [e]))]
      have z : wp (R_sameFilter_J78 (0 : Int32)) r (fun v r' => r' = r ∧ v = 0) := by
        unfold R_sameFilter_J78
        rw [wp_zt]
        exact ⟨Or.inl rfl, rfl, rfl⟩
      by_cases gl : bs.length ≤ 0
      · rw [wp_pos (by rw [show (0 : Int32) = nn 0 from rfl, nn_le (by omega) (by omega)]; exact gl)]
        exact z
      · rw [wp_neg (by rw [show (0 : Int32) = nn 0 from rfl, nn_le (by omega) (by omega)]; exact gl), wp_pos rfl]
        exact z
  obtain ⟨v, r', e1, e2, e3⟩ := e
  rw [e1, e2, e3]
/-- the class looks a subscription up by what was told -/
theorem qc_indexOf {t : Nat} (S : SesT x h s b) (U : SesU x h r ew s b) (hn : r.2.1 24 s = nn n) (hn2 : n ≤ 8) (R : Rw x h t bs') (hl : bs'.length < 4000) : ∃ v, C_X8_indexOf b (some t) h = some (v, h) ∧ ((∃ k u st, k < n ∧ v = nn k ∧ har h (b + 1) k = some u ∧ SubT x h u bs' st) ∨ (v = -1 ∧ ∀ k u st, k < n → har h (b + 1) k = some u → ¬ SubT x h u bs' st)) := by
  have y2 : hfi h 1004 b = nn n := by
    obtain ⟨n', y1, y2, y3, y4, y5⟩ := U
    rw [y2, ← y3]; exact hn
  have e : wp (C_X8_indexOf b (some t)) h (fun v h' => h' = h ∧ ((∃ k u st, k < n ∧ v = nn k ∧ har h (b + 1) k = some u ∧ SubT x h u bs' st) ∨ (v = -1 ∧ ∀ k u st, k < n → har h (b + 1) k = some u → ¬ SubT x h u bs' st))) := by
    unfold C_X8_indexOf
    refine up_loop (L := fun f i => C_X8_indexOf_L2 b (fun l2 => C_X8_indexOf_J26 b l2) (C_X8_indexOf_J34 b) f (some t) i) (fun i h' => h' = h ∧ ∀ k u st, k < i → har h (b + 1) k = some u → ¬ SubT x h u bs' st) n ?_ ?_ n 0 fu h (by omega) (by unfold fu; omega) ⟨rfl, fun k u st hk => by omega⟩
    · rintro f i h' hi ⟨rfl, hz⟩ kk
      show wp (C_X8_indexOf_B2 b _ _ _ (some t) (nn i)) h' _
      unfold C_X8_indexOf_B2
      obtain ⟨u, u1, bs, st, o, id, d1, _⟩ := U.get hn hn2 hi
      obtain ⟨t1, t2, t3, t4, t5, t6, t7, t8⟩ := S
      have f64 := (fstart_lt d1.2.2.1).2.1
      have d1' := d1
      obtain ⟨⟨k12, _, _⟩, ⟨tr, c4, c5⟩, _⟩ := d1
      have c4' : hfr h' (100 * 11 + 0) u = some tr := c4
      rw [wp_gI t1]
      show wp (if hfi h' 1004 b ≤ nn i then _ else _) h' _
      rw [y2, wp_neg (by rw [nn_le (by omega) (by omega)]; omega), wp_gR t1]
      show wp (hAr 6 (hfr h' 1003 b) (nn i) _) h' _
      rw [t5.1, wn_Ar t5.2.1 (by rw [t5.2.2]; omega) (by omega), u1, wp_gR k12, c4', wp_Cv c5.1]
      refine wp.get (qc_same c5 R (by omega) hl) ?_
      by_cases g : bs = bs'
      · rw [if_pos g, wp_neg (by decide)]
        unfold C_X8_indexOf_J26
        dsimp only
        rw [wp_rt]
        exact ⟨rfl, Or.inl ⟨i, u, st, hi, rfl, u1, by rw [← g]; exact d1'⟩⟩
      · rw [if_neg g, wp_pos rfl]
        show wp (C_X8_indexOf_L2 b _ _ f (some t) (nn i + 1)) h' _
        rw [l_1, nn_add]
        exact kk h' ⟨rfl, fun k u' st' hk hu' hS => by
          by_cases e : k = i
          · rw [e, u1] at hu'
            cases hu'
            exact g (d1'.inj hS)
          · exact hz k u' st' (by omega) hu' hS⟩
    · rintro f h' ⟨rfl, hz⟩
      show wp (C_X8_indexOf_B2 b _ _ _ (some t) (nn n)) h' _
      unfold C_X8_indexOf_B2
      rw [wp_gI S.1]
      show wp (if hfi h' 1004 b ≤ nn n then _ else _) h' _
      rw [y2, wp_pos (by rw [nn_le (by omega) (by omega)]; omega)]
      unfold C_X8_indexOf_J34
      rw [wp_rt]
      exact ⟨rfl, Or.inr ⟨rfl, hz⟩⟩
  obtain ⟨v, h', e1, e2, e3⟩ := e
  exact ⟨v, by rw [e1, e2], e3⟩
end TAK
