section BEH
variable {x ec es ew s b d n m j q fl id : Nat} {e0 : Int32} {h : Hp} {r : RS}
theorem Rel.ses (R : Rel x ec es ew e0 h r) (hs : s < 12) (hb : har h (x + 34) s = some b) : Ses x h r ew s b := ((R.2.2.2.2.1 s hs).at hb).2.1
theorem Rel.con {i : Nat} (R : Rel x ec es ew e0 h r) (hi : i < 8) : CoA x h r i ∧ CoO x h r i ∧ CoL x h r i ∧ (i ≠ ec → CoI x h r i) := R.2.2.2.1 i hi
theorem Stat.con {i : Nat} (T : Stat x h) (hi : i < 8) : ConT x h i := by
  have t7 := T.2.2.2.2.2.2 i hi
  exact ⟨t7.2.1, t7.2.2.2.1, t7.2.2.2.2.1, t7.2.2.2.2.2.1⟩
/-- a session that is online: its connection is -/
theorem Rel.onl {i : Nat} (R : Rel x ec es ew e0 h r) (hs : s < 12) (hi : i < 8) (h1 : r.2.1 7 i = nn s) : r.2.1 1 i = 1 := by
  obtain ⟨⟨_, _, _, c4⟩, _⟩ := R.con hi
  rcases c4 with ⟨z, _⟩ | ⟨s', b', z1, z2, z3, _⟩
  · rw [h1] at z
    exact absurd z (nn_neg (by omega))
  · exact z3
theorem MpT.mv (hM : MpT x h r m j) : ∃ V, MsC x h m V ∧ MsM r j V ∧ Vok V := hM.1
theorem n6_max {L : Nat} (hL : L ≤ 2000) : n6 L ≤ (9223372036854775807 : Int64) := by
  rw [Int64.le_iff_toInt_le, n6_I (by omega)]
  have : (9223372036854775807 : Int64).toInt = 9223372036854775807 := rfl
  rw [this]
  omega
/-- too long for the client: the class and the model say the same -/
theorem SesV.fit {L : Nat} (V : SesV x h r s b) (hL : L ≤ 2000) : (hfl h 1014 b = -1 ∨ n6 L ≤ hfl h 1014 b) ↔ n6 L ≤ r.2.2 18 s := by
  rcases V.2.2.1 with ⟨z1, z2⟩ | ⟨z, z1, z2, z3, z4⟩
  · rw [z1, z2]
    exact ⟨fun _ => n6_max hL, fun _ => Or.inl rfl⟩
  · rw [z3, z4]
    exact ⟨fun q => q.elim (fun q => absurd q (n6_ne (by omega))) (fun q => q), Or.inr⟩
theorem sim_begin (R : Rel x ec es ew e0 h r) (hs : s < 12) (hb : har h (x + 34) s = some b) (hn : r.2.1 31 s = nn n) (hn16 : n ≤ 16) (hmay : may r s) (hd : hkd h d = 4 ∧ x + 130 ≤ d ∧ d < hnx h)
    (hL : ∀ s' b' k', s' < 12 → har h (x + 34) s' = some b' → k' < 40 → act r s' k' → dl h b' k' ≠ some d) (hm : hfr h 300 d = some m) (hM : MpT x h r m j) (hj : j < 640)
    (hq : hfi h 301 d = nn q ∧ 1 ≤ q ∧ q ≤ 2) (hrt : hfi h 302 d = nn fl ∧ fl ≤ 1) (hid : hfi h 303 d = nn id ∧ id < 268435456) (h305 : hfi h 305 d = 0)
    (hW : ∀ s' b', s' < 12 → har h (x + 34) s' = some b' → hfr h 1011 b' ≠ some m ∧ r.2.1 20 s' ≠ nn j) (hg : gon r j = false) :
    ∃ h1 h' r', C_X8_depart b (some d) h = some ((), h1) ∧ C_X11_deliver x (some b) (some d) 0 h1 = some ((), h') ∧ R_begin (nn s) (nn j) (nn q) (nn fl) (nn id) r = some ((), r') ∧ Rel x ec es ew e0 h' r' ∧ GF x h h' r r' ∧ hcs h' = hcs h ∧ hnx h' = hnx h := by
  have S0 := R.ses hs hb
  have T0 := S0.1
  have V0 := S0.2.2.1
  have Y0 := S0.2.2.2.2.2.1
  have T := R.st
  have hx := T.1
  have hb2 := T0.2.1
  have hb4 := T0.2.2.1
  obtain ⟨hn2, i, hi, c1, c2, c3⟩ := hmay.lt V0 hn hn16
  obtain ⟨num, u1, u2, u3, u4⟩ := least_free n hn2 (wnum r s)
  have hwn : ∀ k, k < n → r.2.1 32 (16 * s + k) = nn (wnum r s k) ∧ wnum r s k ≤ 16 := fun k hk => by
    obtain ⟨_, _, _, _, z1, _, z2⟩ := Y0.num hn hn16 hk
    exact ⟨z1, z2⟩
  have e1 : C_X8_depart b (some d) h = some ((), dep h b d n num) := by
    obtain ⟨v, h1, e, q'⟩ := qc_depart (Q := fun _ h' => h' = dep h b d n num) T0 Y0 hn hn2 u1 u2 u3 u4 hd.1 rfl
    rw [e, q']
  have R1 := R.app hs hb hn hn2 hd hL hm hM hj hq hrt hid h305 ⟨u1, u2⟩ u3 hW
  have p1 : Fm x [304, 1006] (fun a => a = b + 2) h (dep h b d n num) := dep.fm T0 hd.2.1
  have n1 : hnx (dep h b d n num) = hnx h := rfl
  have cs1 : hcs (dep h b d n num) = hcs h := rfl
  have T1 := T.sto p1.1
  have S1 := T0.sto p1.1
  obtain ⟨f0, bs0, W1⟩ := R1.wr
  obtain ⟨V, v1, v2, v3⟩ := hM.1
  have hdb : d ≠ b := fun e => by have := hd.1; rw [e, T0.1] at this; omega
  have D1 : DlC x (dep h b d n num) d m q fl id num := by
    refine ⟨by rw [(p1.1.2.1 d hd.2.2).1]; exact hd.1, by rw [p1.gr (by decide) hd.2.2]; exact hm, by rw [p1.gi (by decide) hd.2.2]; exact hq.1, by rw [p1.gi (by decide) hd.2.2]; exact hrt.1, by rw [p1.gi (by decide) hd.2.2]; exact hid.1, fun _ => ?_, by omega⟩
    unfold dep
    rw [hfi_sfi, if_neg (by omega), hfi_sar, hfi_sfi, if_pos ⟨rfl, rfl⟩]
  have M1 := v1.sto p1.1
  have et : hfi (dep h b d n num) 1309 x = r.1 66 := by rw [p1.gi (by decide) (by omega)]; exact R.2.1.2.1
  have ec' : hfi (dep h b d n num) 508 m = r.2.1 51 j := by rw [p1.gi (by decide) v1.2.2.1]; exact hM.2.1
  have e14 : hfl (dep h b d n num) 1014 b = hfl h 1014 b := p1.gl (by decide) (by omega)
  have ho := R.onl hs hi c3
  have key : wp (C_X11_deliver x (some b) (some d) (nn 0)) (dep h b d n num) (fun _ h' => wp (R_begin (nn s) (nn j) (nn q) (nn fl) (nn id)) r (fun _ r' => Rel x ec es ew e0 h' r' ∧ GF x h h' r r' ∧ hcs h' = hcs h ∧ hnx h' = hnx h)) := by
    have hB := pubB_len v3 q num id (lft V.2.2.2.2.2.2.2 (r.1 66) (r.2.1 51 j))
    have hwd := wd_le (pubB V q num id (lft V.2.2.2.2.2.2.2 (r.1 66) (r.2.1 51 j))).length
    have hvb := wd_vb (k := (pubB V q num id (lft V.2.2.2.2.2.2.2 (r.1 66) (r.2.1 51 j))).length) (by omega)
    have model : ∀ (Q : Unit → RS → Prop), (∀ r2, PK r2 ((48 + 8 * 0 + 2 * q + fl) :: (vb 4 (pubB V q num id (lft V.2.2.2.2.2.2.2 (r.1 66) (r.2.1 51 j))).length ++ pubB V q num id (lft V.2.2.2.2.2.2.2 (r.1 66) (r.2.1 51 j)))) → Ro [88, 89, 90, 91] r r2 → wp (pubT s) r2 (fun v r3 => wp (if v = 0 then rt () else (rA 31 (nn s) fun v2 => wA 31 (nn s) (v2 + (1 : Int32)) <| lq (((16 : Int32) * nn s) + v2) fun x3 => wA 32 x3 (nn num) <| wA 33 x3 (nn j) <| wA 34 x3 (nn q) <| wA 35 x3 (nn fl) <| wA 36 x3 (nn id) <| wA 37 x3 (vp_nar .boolean (0 : Int32)) <| rt ())) r3 Q)) → wp (R_begin (nn s) (nn j) (nn q) (nn fl) (nn id)) r Q := by
      intro Q kq
      unfold R_begin
      rw [wp_bd]
      refine wp.get (qm_gone hj) ?_
      rw [hg, show (if false = true then (1 : Int32) else 0) = 0 from rfl, wp_pos rfl]
      refine qm_begin_num hs hn hn2 hwn u1 u2 u3 u4 ?_
      unfold R_begin_J28
      rw [wp_bd]
      exact qm_pub (ag := 0) hj v2 v3 hid.2 (by omega) hq.2.2 hrt.2 (by omega) (fun r2 y1 y2 => kq r2 y1 y2)
    refine qc_deliver (ag := 0) T1 f0 bs0 W1 S1 D1 M1 v3 hid.2 (by omega) hq.2.2 hrt.2 (by omega) (fun h2 z1 z2 z3 => ?_) (fun h2 z2 z1 z3 z4 => ?_)
    · rw [et, ec', e14] at z3
      rw [et, ec'] at z1
      have fit := (V0.fit (by omega)).mp z3
      refine Sim.toLeft (Sim.right ?_)
      refine model _ (fun r2 y1 y2 => ?_)
      have e89 : r2.1 89 = nn (1 + wd (pubB V q num id (lft V.2.2.2.2.2.2.2 (r.1 66) (r.2.1 51 j))).length + (pubB V q num id (lft V.2.2.2.2.2.2.2 (r.1 66) (r.2.1 51 j))).length) := by
        rw [y1.1, List.length_cons, List.length_append, hvb.1]
        congr 1
        omega
      refine pubT_ev hs e89 (by omega) (fun _ => ?_) (fun z => ?_)
      · rw [wr_15 hs, y2.gA (by decide), c2, wp_bd]
        obtain ⟨⟨_, k2, _, _⟩, ⟨os, o1, o2⟩, _⟩ := R1.con hi
        have W2 := z2
        obtain ⟨x1, x2, x3, x4, x5, x6, x7, x8, x9, x10⟩ := z2
        have cne : cA x i ≠ x + 46 := by show x + 2 + 4 * i ≠ x + 46; omega
        have wr2 : Ro [88, 89, 90, 91] (appM r s n j q fl id num) (appM r2 s n j q fl id num) := y2.capp
        have R2 : Rel x ec es ew e0 h2 (appM r2 s n j q fl id num) := R1.scr W2.sc (wr2.sub (by decide)) ⟨_, _, z1⟩
        obtain ⟨⟨_, k2, _, _⟩, ⟨os, o1, o2⟩, _⟩ := R2.con hi
        have ea : ∀ r', Ro [31, 32, 33, 34, 35, 36, 37] r' (appM r' s n j q fl id num) := fun r' => appM.ro
        have o2' : OutM r2 i os := by
          unfold OutM at o2 ⊢
          rw [(ea r2).gA (by decide), (ea r2).gA (by decide)] at o2
          exact o2
        obtain ⟨h3, r3, g1, g2, g3, g4, g5, g6, g7, g8, g9, g10⟩ := send_facts hi z1 ((T1.sto W2.sc.1).con hi) o1 o2' y1 (by omega) (by rw [y2.gA (by decide)]; exact ho) (by rw [k2.1, (ea r2).gA (by decide)]) (by
          have := k2.2.1
          rwa [(ea r2).gA (by decide)] at this)
        refine wp.get g2 ?_
        rw [wp_zt]
        refine ⟨Or.inr rfl, ?_⟩
        have w3 : Ro [2, 3, 4, 68, 88, 89, 90, 91] r r3 := (y2.sub (by decide)).tr (g4.sub (by decide))
        have e31 : r3.2.1 31 s = nn n := by rw [w3.gA (by decide)]; exact hn
        rw [wp_neg (by decide), wr_31 hs, e31, l_1, nn_add, ww_31 hs, l_16, nn_mul, nn_add, wp_lq, ww_32 (by omega), ww_33 (by omega), ww_34 (by omega), ww_35 (by omega), ww_36 (by omega), ww_37 (by omega), nar_z0, wp_rt]
        show wp (C_X11_deliver_J58 x (some b)) h2 (fun _ h' => Rel x ec es ew e0 h' (appM r3 s n j q fl id num) ∧ GF x h h' r (appM r3 s n j q fl id num) ∧ hcs h' = hcs h ∧ hnx h' = hnx h)
        have kb : hkd h2 b = 11 := by rw [x2]; exact S1.1
        have c1' : hfr h2 1002 b = some (cA x i) := by rw [x5, p1.gr (by decide) (by omega)]; exact c1
        obtain ⟨k1, k2', k3, k4⟩ := wref T1 W2
        unfold C_X11_deliver_J58
        rw [wp_gR kb]
        show wp (if hfr h2 1002 b = none then _ else _) h2 _
        rw [c1', wp_neg (fun z => by cases z), wp_gR kb]
        show wp (hgR 13 5 (some x) fun v3 => hCv 2 (hfr h2 1002 b) (fun a => C_X0_put a v3) fun _ => rt ()) h2 _
        rw [c1', wp_gR k1, k2', wp_Cv (k4 i hi)]
        refine wp.get g1 ?_
        rw [wp_rt]
        have R3 : Rel x ec es ew e0 h3 (appM r3 s n j q fl id num) := by
          refine R2.out hi g3 g4.capp ?_ ?_ ?_ (fun j' hj' => ?_) (fun j' hj' => ?_) (fun p hp => ?_) ?_
          · obtain ⟨os3, w1, w2⟩ := g5
            refine ⟨os3, w1, ?_⟩
            unfold OutM at w2 ⊢
            rw [(ea r3).gA (by decide), (ea r3).gA (by decide)]
            exact w2
          · rw [(ea r3).gA (by decide)]
            exact g6
          · rw [(ea r2).gA (by decide), y2.gA (by decide)]
            exact ho
          · rw [(ea r3).gA (by decide), (ea r2).gA (by decide)]
            exact g7 j' hj'
          · rw [(ea r3).gA (by decide), (ea r2).gA (by decide)]
            exact g8 j' hj'
          · rw [(ea r3).gA (by decide), (ea r2).gA (by decide)]
            exact g9 p hp
          · rw [(ea r3).gI (by decide), (ea r2).gI (by decide)]
            exact g10
        refine ⟨R3, ⟨((p1.sub (by decide) (fun a ha => ?_)).tr (W2.oo.fm.sub (by decide) (fun a ha => ?_))).tr ((g3.oo hi).fm.sub (by decide) (fun a ha => ?_)), (w3.sub (by decide)).tr ((ea r3).sub (by decide)), ?_⟩, ?_, ?_⟩
        · exact Or.inr (Or.inr ⟨s, b, hs, hb, Or.inl ha⟩)
        · exact ha.elim Or.inl (fun z => Or.inr (Or.inl z))
        · exact ha.elim Or.inl (fun z => Or.inr (Or.inl z))
        · rw [g3.2.2.2.2.2.2.1, x7]
          exact (p1.2.2 (x + 34) (by omega) (by omega)).2.1
        · rw [g3.2.2.2.2.2.2.2.1, x8]; exact cs1
        · rw [g3.1, x1]; exact n1
      · exfalso
        rw [y2.gL (by decide)] at z
        exact z fit
    · rw [et, ec', e14] at z4
      rw [e14] at z3
      have nfit : ¬ n6 (1 + wd (pubB V q num id (lft V.2.2.2.2.2.2.2 (r.1 66) (r.2.1 51 j))).length + (pubB V q num id (lft V.2.2.2.2.2.2.2 (r.1 66) (r.2.1 51 j))).length) ≤ r.2.2 18 s := fun z => by
        rcases (V0.fit (by omega)).mpr z with q1 | q1
        · exact z3 q1
        · exact z4 q1
      have W2 := z2
      obtain ⟨x1, x2, x3, x4, x5, x6, x7, x8, x9, x10⟩ := z2
      have eh2 : har h2 (b + 2) = va_up (har h (b + 2)) n (some d) := by
        rw [x7]
        unfold dep
        rw [har_sfi, har_sar, if_pos rfl]
      have sS : SesT x (sfi h2 1312 x (hfi (dep h b d n num) 1312 x + 1)) s b := (S1.sto W2.sc.1).sto (Sto.rf.fi (Or.inl (by decide)))
      have e6 : hfi (sfi h2 1312 x (hfi (dep h b d n num) 1312 x + 1)) 1006 b = nn (n + 1) := by
        rw [hfi_sfi, if_neg (by omega), x9 1006 b (fun e => by omega)]
        unfold dep
        rw [hfi_sfi, if_pos ⟨rfl, rfl⟩]
      have hlv : ∀ k, k < n → ∃ e, har h (b + 2) k = some e ∧ hkd h e = 4 ∧ e ≠ d := fun k hk => by
        obtain ⟨e, q1, q2, _⟩ := Y0.num hn hn16 hk
        refine ⟨e, q1, q2, fun z => hL s b k hs hb (by omega) ?_ ?_⟩
        · unfold act
          rw [if_pos (by omega), hn, iN_nn (by omega)]
          exact hk
        · unfold dl
          rw [if_pos (by omega), q1, z]
      refine (qc_arrive (n := n + 1) (k0 := n) sS e6 (by omega) (fun k hk => ?_) (by omega) (fun _ => ?_) (fun k hk hne => ?_)).mono (fun _ h4 q4 => ?_)
      · rw [har_sfi, eh2]
        show ∃ e, (if k = n then some d else har h (b + 2) k) = some e ∧ hkd h2 e = 4
        rw [x2]
        by_cases g : k = n
        · rw [if_pos g]
          exact ⟨d, rfl, hd.1⟩
        · rw [if_neg g]
          obtain ⟨e, q1, q2, q3⟩ := hlv k (by omega)
          exact ⟨e, q1, q2⟩
      · rw [har_sfi, eh2]
        show (if n = n then some d else _) = _
        rw [if_pos rfl]
      · rw [har_sfi, eh2]
        show (if k = n then some d else har h (b + 2) k) ≠ some d
        rw [if_neg hne]
        obtain ⟨e, q1, q2, q3⟩ := hlv k (by omega)
        rw [q1]
        intro z
        cases z
        exact q3 rfl
      · rw [if_pos (by omega), Nat.add_sub_cancel, har_sfi, eh2] at q4
        have eF : ∀ o, arF (va_up (har h (b + 2)) n (some d)) n (n + 1) o = va_up (har h (b + 2)) n (some d) o := fun o => by
          unfold arF
          rw [if_neg (by omega)]
        have eF' : arF (va_up (har h (b + 2)) n (some d)) n (n + 1) = va_up (har h (b + 2)) n (some d) := funext eF
        rw [eF'] at q4
        refine model _ (fun r2 y1 y2 => ?_)
        have e89 : r2.1 89 = nn (1 + wd (pubB V q num id (lft V.2.2.2.2.2.2.2 (r.1 66) (r.2.1 51 j))).length + (pubB V q num id (lft V.2.2.2.2.2.2.2 (r.1 66) (r.2.1 51 j))).length) := by
          rw [y1.1, List.length_cons, List.length_append, hvb.1]
          congr 1
          omega
        refine pubT_ev hs e89 (by omega) (fun z => ?_) (fun _ => ?_)
        · exfalso
          rw [y2.gL (by decide)] at z
          exact nfit z
        · rw [wp_pos rfl, wp_rt]
          have y6 : hfi h 1006 b = nn n := by
            obtain ⟨n', a1, a2, a3, a4, a5⟩ := Y0
            rw [a2, ← a3]; exact hn
          have RJ : Rel x ec es ew e0 (sfi (sar (sfi h 304 d (nn num)) (b + 2) (va_up (har h (b + 2)) n (some d))) 1006 b (nn n)) r := by
            refine R.junk (a0 := d) hs hb ?_ hL (fun f a ha hfa => ?_) (fun a ha => ⟨rfl, rfl, fun hne => ?_⟩) (fun k hk => ?_)
            · exact Sto.fi (Sto.ar (Sto.fi Sto.rf (Or.inl (by decide))) (by omega)) (Or.inl (by decide))
            · refine ⟨?_, rfl, rfl⟩
              rw [hfi_sfi, hfi_sar, hfi_sfi]
              by_cases g1 : f = 1006 ∧ a = b
              · rw [if_pos g1, g1.1, g1.2]; exact y6.symm
              · rw [if_neg g1, if_neg]
                rintro ⟨rfl, rfl⟩
                rcases hfa with z | z
                · exact z rfl
                · exact z (by decide)
            · rw [har_sfi, har_sar, if_neg hne]; rfl
            · rw [hn, iN_nn (by omega)] at hk
              rw [har_sfi, har_sar, if_pos rfl]
              show (if k = n then some d else har h (b + 2) k) = _
              rw [if_neg (by omega)]
          have RD := RJ.drop
          have e12 : hfi (dep h b d n num) 1312 x = hfi h 1312 x := p1.gi (by decide) (by omega)
          have e12' : hfi (sfi (sar (sfi h 304 d (nn num)) (b + 2) (va_up (har h (b + 2)) n (some d))) 1006 b (nn n)) 1312 x = hfi h 1312 x := by
            rw [hfi_sfi, if_neg (by omega), hfi_sar, hfi_sfi, if_neg (by omega)]
          rw [e12'] at RD
          rw [e12] at q4
          have hfi2 : ∀ f a, f ∉ [1200, 1202] → hfi h2 f a = hfi (dep h b d n num) f a := fun f a hf => x9 f a (fun _ => by
            simp only [List.mem_cons, List.not_mem_nil, or_false] at hf
            omega)
          have nx4 : hnx h4 = hnx h := by rw [q4]; show hnx h2 = hnx h; rw [x1]; rfl
          have FJ : Fm x scF (scA x) (sfi (sfi (sar (sfi h 304 d (nn num)) (b + 2) (va_up (har h (b + 2)) n (some d))) 1006 b (nn n)) 1312 x (hfi h 1312 x + 1)) h4 := by
            have kd4 : hkd h4 = hkd h := by rw [q4]; show hkd h2 = hkd h; rw [x2]; rfl
            have ln4 : hln h4 = hln h := by rw [q4]; show hln h2 = hln h; rw [x3]; rfl
            have fr4 : hfr h4 = hfr h := by rw [q4]; show hfr h2 = hfr h; rw [x5]; rfl
            have fl4 : hfl h4 = hfl h := by rw [q4]; show hfl h2 = hfl h; rw [x4]; rfl
            have al4 : hal h4 = hal h := by rw [q4]; show hal h2 = hal h; rw [x6]; rfl
            have fi4 : ∀ f a, f ∉ [1200, 1202] → hfi h4 f a = hfi (sfi (sfi (sar (sfi h 304 d (nn num)) (b + 2) (va_up (har h (b + 2)) n (some d))) 1006 b (nn n)) 1312 x (hfi h 1312 x + 1)) f a := by
              intro f a hf
              rw [q4]
              simp only [hfi_sfi, hfi_sar]
              rw [hfi2 f a hf]
              unfold dep
              simp only [hfi_sfi, hfi_sar]
              by_cases g1 : f = 1006 ∧ a = b
              · rw [if_pos g1, if_neg (by omega), if_pos g1]
              · rw [if_neg g1, if_neg g1, if_neg g1]
            have ar4 : har h4 = har (sfi (sfi (sar (sfi h 304 d (nn num)) (b + 2) (va_up (har h (b + 2)) n (some d))) 1006 b (nn n)) 1312 x (hfi h 1312 x + 1)) := by
              rw [q4]
              funext a
              simp only [har_sfi, har_sar]
              by_cases g1 : a = b + 2
              · rw [if_pos g1, if_pos g1]
              · rw [if_neg g1, if_neg g1, x7]
                unfold dep
                rw [har_sfi, har_sar, if_neg g1]; rfl
            have ai4 : ∀ a, a ≠ x + 47 → hai h4 a = hai h a := fun a ha => by
              rw [q4]
              show hai h2 a = _
              rw [x10 a ha]; rfl
            refine ⟨⟨by rw [nx4]; exact Nat.le_refl _, fun a _ => by rw [kd4, ln4]; exact ⟨rfl, rfl⟩, fun a _ => ⟨fun f _ => by rw [fr4]; rfl, fun f hf => fi4 f a ?_, by rw [fl4]; rfl⟩, fun y z => ai4 y ?_, by rw [ar4]⟩, fun f hf a _ => ⟨fi4 f a ?_, by rw [fl4]; rfl, by rw [fr4]; rfl⟩, fun a _ hA => ⟨ai4 a (fun e => hA (Or.inr (Or.inl e))), by rw [ar4], by rw [al4]; rfl⟩⟩
            · simp only [finI, List.mem_cons, List.not_mem_nil, or_false] at hf ⊢
              omega
            · have := z.1; omega
            · simp only [scF, List.mem_cons, List.not_mem_nil, or_false] at hf ⊢
              omega
          have w3 : Ro scS (sI r 70 (r.1 70 + 1)) (sI r2 70 (r2.1 70 + 1)) := fun k hk => by
            have hk2 : k ∉ [88, 89, 90, 91] := fun z => hk (by
              simp only [List.mem_cons, List.not_mem_nil, or_false] at z
              simp only [scS, List.mem_cons, List.not_mem_nil, or_false]
              omega)
            obtain ⟨a1, a2, a3⟩ := y2 k hk2
            refine ⟨?_, a2, a3⟩
            rw [sI_1, sI_1, a1, y2.gI (by decide)]
          have W4 : ∃ f bs, WR (x + 46) h4 f bs := by
            obtain ⟨f', bs', ⟨a1, a2, a3, a4⟩, a5, a6, a7, a8, a9⟩ := z1
            refine ⟨f', bs', ⟨by rw [q4]; exact a1, by rw [q4]; exact a2, by rw [q4]; exact a3, by rw [q4]; exact a4⟩, ?_, ?_, by rw [q4]; exact a7, a8, a9⟩
            · rw [q4, hfi_sfi, if_neg (by omega), hfi_sar, hfi_sfi, if_neg (by omega)]; exact a5
            · rw [q4, hfi_sfi, if_neg (by omega), hfi_sar, hfi_sfi, if_neg (by omega)]; exact a6
          refine ⟨RD.scr FJ w3 W4, ⟨?_, ?_, ?_⟩, ?_, nx4⟩
          · have q1 : Fm x gF (gA x h) h (dep h b d n num) := p1.sub (by decide) (fun a ha => Or.inr (Or.inr ⟨s, b, hs, hb, Or.inl ha⟩))
            have q2 : Fm x gF (gA x h) (dep h b d n num) h2 := W2.oo.fm.sub (by decide) (fun a ha => ha.elim Or.inl (fun z => Or.inr (Or.inl z)))
            have q3 := q1.tr q2
            rw [q4]
            refine Fm.fi (Fm.ar (Fm.fi q3 ?_ ?_) ?_ (by omega)) ?_ ?_
            · exact Or.inl (by decide)
            · exact Or.inl (by decide)
            · exact Or.inl (Or.inr (Or.inr ⟨s, b, hs, hb, Or.inl rfl⟩))
            · exact Or.inl (by decide)
            · exact Or.inl (by decide)
          · exact ((y2.sub (by decide)).i (by decide))
          · rw [q4, har_sfi, har_sar, if_neg (by omega), har_sfi, x7]
            exact (p1.2.2 (x + 34) (by omega) (by omega)).2.1
          · rw [q4]
            show hcs h2 = _
            rw [x8]; rfl
  obtain ⟨v, h', k1, v', r', k2, k3, k4, k5, k6⟩ := key
  exact ⟨_, h', r', e1, k1, k2, k3, k4, k5, k6⟩
end BEH
