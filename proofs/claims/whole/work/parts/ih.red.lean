/-! ===== what is on the way is sent again ===== -/
section RED
variable {x ec es ew s b d n k i : Nat} {e0 : Int32} {h : Hp} {r : RS}
/-- what a session's place on the way is -/
theorem Rel.way (R : Rel x ec es ew e0 h r) (hs : s < 12) (hb : har h (x + 34) s = some b) (hn : r.2.1 31 s = nn n) (hn2 : n ≤ 16) (hk : k < n) : ∃ d, har h (b + 2) k = some d ∧ Wy x h r (16 * s + k) d := by
  obtain ⟨n', c1, c2, c3, c4, _⟩ := (R.ses hs hb).2.2.2.2.2.1
  have : n' = n := nn_inj (by omega) (by omega) (c3.symm.trans hn)
  subst this
  exact c4 k hk
/-- a delivery that was not released is sent once more; or it is too long now, and it goes -/
theorem sim_redo (R : Rel x ec es ew e0 h r) (hs : s < 12) (hb : har h (x + 34) s = some b) (hn : r.2.1 31 s = nn n) (hn2 : n ≤ 16) (hk : k < n) (hd : har h (b + 2) k = some d) (hi : i < 8) (c1 : hfr h 1002 b = some (cA x i)) (c2 : r.2.1 15 s = nn i) (c3 : r.2.1 7 i = nn s) (h37 : r.2.1 37 (16 * s + k) = 0) :
    ∃ v h' r', C_X11_deliver x (some b) (some d) 1 h = some ((), h') ∧ R_sendPublish (nn s) (r.2.1 33 (16 * s + k)) (r.2.1 34 (16 * s + k)) (r.2.1 35 (16 * s + k)) (r.2.1 36 (16 * s + k)) (r.2.1 32 (16 * s + k)) 1 r = some (v, r') ∧ Ro (70 :: oS) r r' ∧ hcs h' = hcs h ∧ GF x h h' r r' ∧ har h' (x + 34) = har h (x + 34) ∧ ((v = 1 ∧ Rel x ec es ew e0 h' r' ∧ har h' (b + 2) = har h (b + 2) ∧ hfi h' 1006 b = hfi h 1006 b) ∨ (v = 0 ∧ ∃ h2, Rel x ec es ew e0 h2 r' ∧ h' = leaH h2 b n k ∧ har h2 (x + 34) = har h (x + 34) ∧ har h2 (b + 2) = har h (b + 2))) := by
  have S0 := R.ses hs hb
  have T0 := S0.1
  have V0 := S0.2.2.1
  have Y0 := S0.2.2.2.2.2.1
  have T := R.st
  have hx := T.1
  have hb2 := T0.2.1
  have hb4 := T0.2.2.1
  obtain ⟨d', e', m, j, q, fl, id, num, ⟨y1, y2, y3⟩, y4, y5, y6, ⟨y7, y8, y9, y10⟩, ⟨y11, y12, y13⟩, ⟨y14, y15, y16⟩, ⟨y17, y18, y19, y20⟩, y21, y22⟩ := R.way hs hb hn hn2 hk
  rw [hd] at e'
  cases e'
  obtain ⟨V, v1, v2, v3⟩ := y6.1
  have hj : j < 640 := v2.1
  have D1 : DlC x h d m q fl id num := ⟨y1, y4, y7, y11, y14, fun _ => y17, by omega⟩
  have et : hfi h 1309 x = r.1 66 := R.2.1.2.1
  have ec' : hfi h 508 m = r.2.1 51 j := y6.2.1
  have ho := R.onl hs hi c3
  obtain ⟨f0, bs0, W1⟩ := R.wr
  rw [y5, y8, y12, y15, y18]
  have hB := pubB_len v3 q num id (lft V.2.2.2.2.2.2.2 (r.1 66) (r.2.1 51 j))
  have hwd := wd_le (pubB V q num id (lft V.2.2.2.2.2.2.2 (r.1 66) (r.2.1 51 j))).length
  have hvb := wd_vb (k := (pubB V q num id (lft V.2.2.2.2.2.2.2 (r.1 66) (r.2.1 51 j))).length) (by omega)
  suffices hh : wp (C_X11_deliver x (some b) (some d) (nn 1)) h (fun _ h' => wp (R_sendPublish (nn s) (nn j) (nn q) (nn fl) (nn id) (nn num) (nn 1)) r (fun v r' => Ro (70 :: oS) r r' ∧ hcs h' = hcs h ∧ GF x h h' r r' ∧ har h' (x + 34) = har h (x + 34) ∧ ((v = 1 ∧ Rel x ec es ew e0 h' r' ∧ har h' (b + 2) = har h (b + 2) ∧ hfi h' 1006 b = hfi h 1006 b) ∨ (v = 0 ∧ ∃ h2, Rel x ec es ew e0 h2 r' ∧ h' = leaH h2 b n k ∧ har h2 (x + 34) = har h (x + 34) ∧ har h2 (b + 2) = har h (b + 2))))) by
    obtain ⟨_, h', p1, v, r', p2, p3⟩ := hh
    exact ⟨v, h', r', p1, p2, p3⟩
  refine qc_deliver (ag := 1) T f0 bs0 W1 T0 D1 v1 v3 y16 (by omega) y10 y13 (by omega) (fun h2 z1 z2 z3 => ?_) (fun h2 z2 z1 z3 z4 => ?_)
  · rw [et, ec'] at z1 z3
    have fit := (V0.fit (by omega)).mp z3
    refine Sim.toLeft (Sim.right ?_)
    refine qm_pub (ag := 1) hj v2 v3 y16 (by omega) y10 y13 (by omega) (fun r2 w1 w2 => ?_)
    have e89 : r2.1 89 = nn (1 + wd (pubB V q num id (lft V.2.2.2.2.2.2.2 (r.1 66) (r.2.1 51 j))).length + (pubB V q num id (lft V.2.2.2.2.2.2.2 (r.1 66) (r.2.1 51 j))).length) := by
      rw [w1.1, List.length_cons, List.length_append, hvb.1]
      congr 1
      omega
    refine pubT_ev hs e89 (by omega) (fun _ => ?_) (fun z => ?_)
    · rw [wr_15 hs, w2.gA (by decide), c2, wp_bd]
      have R2 : Rel x ec es ew e0 h2 r2 := R.scr z2.sc (w2.sub (by decide)) ⟨_, _, z1⟩
      obtain ⟨_, h3, _, r3, g1, g2, g3, g4, g5⟩ := sim_send R2 hi z1 w1 (by omega) (by rw [w2.gA (by decide)]; exact ho)
      refine wp.get g2 ?_
      rw [wp_zt]
      refine ⟨Or.inr rfl, ?_⟩
      have kb : hkd h2 b = 11 := by rw [z2.2.1]; exact T0.1
      have c1' : hfr h2 1002 b = some (cA x i) := by rw [z2.2.2.2.2.1]; exact c1
      obtain ⟨k1, k2', k3, k4⟩ := wref T z2
      unfold C_X11_deliver_J58
      rw [wp_gR kb]
      show wp (if hfr h2 1002 b = none then _ else _) h2 _
      rw [c1', wp_neg (fun z => by cases z), wp_gR kb]
      show wp (hgR 13 5 (some x) fun v3 => hCv 2 (hfr h2 1002 b) (fun a => C_X0_put a v3) fun _ => rt ()) h2 _
      rw [c1', wp_gR k1, k2', wp_Cv (k4 i hi)]
      refine wp.get g1 ?_
      rw [wp_rt]
      have oo : Oo x h h3 := z2.oo.tr (g4.oo hi)
      have w3 : Ro oS r r3 := (w2.sub (by decide)).tr (g5.sub (by decide))
      have gf := oo.gf w3
      refine ⟨w3.sub (by decide), by rw [oo.1.2.2.2.2.2.2.2], gf, gf.2.2, Or.inl ⟨rfl, g3, by rw [oo.1.2.2.2.2.2.2.1], oo.fm.gi (by decide) (by omega)⟩⟩
    · exfalso
      rw [w2.gL (by decide)] at z
      exact z fit
  · rw [et, ec'] at z4
    have nfit : ¬ n6 (1 + wd (pubB V q num id (lft V.2.2.2.2.2.2.2 (r.1 66) (r.2.1 51 j))).length + (pubB V q num id (lft V.2.2.2.2.2.2.2 (r.1 66) (r.2.1 51 j))).length) ≤ r.2.2 18 s := fun z => by
      rcases (V0.fit (by omega)).mpr z with q1 | q1
      · exact z3 q1
      · exact z4 q1
    have R2 : Rel x ec es ew e0 h2 r := R.scr z2.sc (Ro.rf.sub (S := []) (by decide)) z1
    have e12 : hfi h 1312 x = hfi h2 1312 x := (z2.2.2.2.2.2.2.2.2.1 1312 x (by omega)).symm
    rw [e12]
    have R3 := R2.drop
    obtain ⟨h3, eh3⟩ : ∃ z, z = sfi h2 1312 x (hfi h2 1312 x + 1) := ⟨_, rfl⟩
    rw [← eh3] at R3 ⊢
    have hb3 : har h3 (x + 34) s = some b := by rw [eh3, har_sfi, z2.2.2.2.2.2.2.1]; exact hb
    have S3 := R3.ses hs hb3
    have e2 : har h3 (b + 2) = har h (b + 2) := by rw [eh3, har_sfi, z2.2.2.2.2.2.2.1]
    obtain ⟨n', a1, a2, a3, a4, _⟩ := S3.2.2.2.2.2.1
    have en : n' = n := nn_inj (by omega) (by omega) (a3.symm.trans (by rw [sI_2]; exact hn))
    subst en
    have ea := qc_arriveK (k := k) (d := d) S3.1 a2 a1 hk (fun q hq => by
      obtain ⟨e, p1, p2⟩ := a4 q hq
      obtain ⟨_, _, _, _, _, _, p3, _⟩ := p2
      exact ⟨e, p1, p3.1⟩) (by rw [e2]; exact hd) (fun q hq hqd => by
      have U1 := R3.2.2.2.2.2.1
      have aq : ∀ t, t < n' → act (sI r 70 (r.1 70 + 1)) s t := fun t ht => by
        unfold act
        rw [if_pos (by omega), sI_2, hn, iN_nn (by omega)]
        exact ht
      have dq : ∀ t, t < n' → har h3 (b + 2) t = some d → dl h3 b t = some d := fun t ht z => by
        unfold dl
        rw [if_pos (by omega)]
        exact z
      exact (U1 s s b b q k d hs hs hb3 hb3 (by omega) (by omega) (aq q hq) (aq k hk) (dq q hq hqd) (dq k hk (by rw [e2]; exact hd))).2)
    refine wp.get ea ?_
    refine qm_pub (ag := 1) hj v2 v3 y16 (by omega) y10 y13 (by omega) (fun r2 w1 w2 => ?_)
    have e89 : r2.1 89 = nn (1 + wd (pubB V q num id (lft V.2.2.2.2.2.2.2 (r.1 66) (r.2.1 51 j))).length + (pubB V q num id (lft V.2.2.2.2.2.2.2 (r.1 66) (r.2.1 51 j))).length) := by
      rw [w1.1, List.length_cons, List.length_append, hvb.1]
      congr 1
      omega
    refine pubT_ev hs e89 (by omega) (fun z => ?_) (fun _ => ?_)
    · exfalso
      rw [w2.gL (by decide)] at z
      exact nfit z
    · have w3 : Ro (70 :: oS) r (sI r2 70 (r2.1 70 + 1)) := (w2.sub (by decide)).i (by decide)
      have R4 : Rel x ec es ew e0 h3 (sI r2 70 (r2.1 70 + 1)) := by
        obtain ⟨f, bs, Wr⟩ := R3.wr
        have wc : Ro [88, 89, 90, 91] (sI r 70 (r.1 70 + 1)) (sI r2 70 (r2.1 70 + 1)) := fun q hq => by
          refine ⟨?_, (w2 q hq).2.1, (w2 q hq).2.2⟩
          rw [sI_1, sI_1, w2.gI (k := 70) (by decide)]
          by_cases y : q = 70
          · rw [if_pos y, if_pos y]
          · rw [if_neg y, if_neg y]
            exact (w2 q hq).1
        exact R3.scr Fm.rf (wc.sub (by decide)) ⟨f, bs, Wr⟩
      have oo : Fm x [1200, 1202, 1312, 1006] (fun a => a = x + 47 ∨ a = b + 2) h (leaH h3 b n' k) := by
        refine ((z2.fm.sub (by decide) (fun _ z => Or.inl z)).tr ?_).tr ((leaH.fm hb2).sub (by decide) (fun _ z => Or.inr z))
        rw [eh3]
        exact Fm.fi Fm.rf (Or.inl (by decide)) (Or.inl (by decide))
      have e34 : har (leaH h3 b n' k) (x + 34) = har h (x + 34) := (oo.2.2 (x + 34) (by omega) (by omega)).2.1
      refine ⟨w3, ?_, ⟨oo.sub (by decide) (fun a z => ?_), w3.sub (by decide), e34⟩, e34, Or.inr ⟨rfl, h3, R4, rfl, by rw [eh3, har_sfi, z2.2.2.2.2.2.2.1], e2⟩⟩
      · show hcs h3 = _
        rw [eh3]
        show hcs h2 = _
        exact z2.2.2.2.2.2.2.2.1
      · rcases z with z | z
        · exact Or.inl z
        · exact Or.inr (Or.inr ⟨s, b, hs, hb, Or.inl z⟩)
end RED
