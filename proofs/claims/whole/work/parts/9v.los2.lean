section LOT
variable {x ec ec' s b i : Nat} {e0 : Int32} {h : Hp} {r : RS}
theorem remM.ro : Ro [11, 24, 31, 38, 43, 74] r (remM r s) := Ro.i (Ro.a (Ro.a (Ro.a (Ro.a (Ro.a Ro.rf (by decide)) (by decide)) (by decide)) (by decide)) (by decide)) (by decide)
theorem remH.fm : Fm x [1313] (fun a => a = x + 34) h (remH h x s) := by
  unfold remH
  refine Fm.fi (Fm.ar Fm.rf (Or.inl rfl) (by omega)) ?_ ?_
  · exact Or.inl (by decide)
  · exact Or.inl (by decide)
theorem rem.gl (T : Stat x h) : GL x h (remH h x s) r (remM r s) := by
  have hx := T.1
  refine ⟨remH.fm.sub (by decide) (fun a z => Or.inr (Or.inl z)), remM.ro.sub (by decide), fun s' => ?_, fun s' => ?_, fun i hi => Or.inr ?_⟩
  · have : har (remH h x s) (x + 34) s' = if s' = s then none else har h (x + 34) s' := by
      unfold remH
      rw [har_sfi, har_sar, if_pos rfl]
      rfl
    rw [this]
    split
    · exact Or.inr rfl
    · exact Or.inl rfl
  · have : (remM r s).2.1 11 s' = if s' = s then 0 else r.2.1 11 s' := by
      unfold remM
      rw [sI_2, sA_o (by decide), sA_o (by decide), sA_o (by decide), sA_o (by decide), sA_2]
      by_cases g : s' = s
      · rw [if_pos ⟨rfl, g⟩, if_pos g]
      · rw [if_neg (fun z => g z.2), if_neg g]
    rw [this]
    split
    · exact Or.inr rfl
    · exact Or.inl rfl
  · exact ⟨by rw [remM.ro.gA (by decide)], by rw [remM.ro.gA (by decide)], by rw [remM.ro.gA (by decide)], remH.fm.gi (x := x) (by decide) (by have := T.cl hi; omega)⟩
theorem rem.wn : WN (remM r s) ≤ WN r := WN.le (fun s' _ => by
  by_cases g : s' = s
  · have : (remM r s).2.1 11 s' = 0 := by
      unfold remM
      rw [sI_2, sA_o (by decide), sA_o (by decide), sA_o (by decide), sA_o (by decide), sA_2, if_pos ⟨rfl, g⟩]
    unfold wl
    rw [this, if_neg (by decide)]
    exact Nat.zero_le _
  · have e : ∀ k, (remM r s).2.1 k s' = r.2.1 k s' := fun k => by
      unfold remM
      rw [sI_2, sA_2, if_neg (fun z => g z.2), sA_2, if_neg (fun z => g z.2), sA_2, if_neg (fun z => g z.2), sA_2, if_neg (fun z => g z.2), sA_2, if_neg (fun z => g z.2)]
    unfold wl
    rw [e, e, e, e]
    exact Nat.le_refl _)
theorem qm_ends0 (hs : s < 12) (hw : r.2.1 20 s = -1) : R_ends (nn s) r = some ((), remM r s) := by
  have : wp (R_ends (nn s)) r (fun _ r' => r' = remM r s) := by
    unfold R_ends
    rw [wr_20 hs, hw, wp_pos (by decide)]
    exact wp.get (qm_rem hs) rfl
  obtain ⟨v, r', e1, e2⟩ := this
  rw [e1, e2]
theorem ends1 {j : Nat} (hs : s < 12) (hw : r.2.1 20 s = nn j) (hj : j < 640) : R_ends (nn s) r = (bd (R_comes (nn s)) fun _ => R_ends_J14 (nn s)) r := by
  unfold R_ends rA
  have nj : ¬ nn j < (0 : Int32) := fun z => by
    have h0 : 0 ≤ nn j := nn_ge (by omega)
    exact absurd z (by rw [Int32.not_lt]; exact h0)
  rw [if_pos (nn_inr (by rw [mL_20]; exact hs) (by omega)), nn_N (by omega), hw]
  dsimp only
  rw [if_neg nj]
theorem Sim.bdr {α β γ : Type} {h : Hp} {r : RS} {Φ : α → Hp → β → RS → Prop} {P : Hp → Option (α × Hp)} {y y' : RS → Option (γ × RS)} {g : γ → RS → Option (β × RS)} (e : y r = y' r) : Sim P h (bd y g) r Φ ↔ Sim P h (bd y' g) r Φ := Sim_r (by unfold bd; rw [e])
theorem bd_assoc {S α β γ : Type} {x : S → Option (α × S)} {f : α → S → Option (β × S)} {g : β → S → Option (γ × S)} : bd (bd x f) g = bd x (fun v => bd (f v) g) := by
  funext σ
  unfold bd
  cases x σ with
  | none => rfl
  | some p => rfl
/-- a session without a will ends or waits -/
theorem sim_lost_end {hb' : Hp} {rb : RS} (R : Rel x ec s 96 e0 h r) (hs : s < 12) (hb : har h (x + 34) s = some b) (hw : hfr h 1011 b = none ∧ r.2.1 20 s = -1) (h15 : r.2.1 15 s = -1) (h17 : hfi h 1017 b = r.1 66) (G : GL x hb' h rb r) :
    Sim (C_X11_lost_J50 x (some b)) h (R_lost_J126 (nn s)) r (fun _ h' _ r' => Rel x ec 12 96 e0 h' r' ∧ GL x hb' h' rb r' ∧ (∀ i, i < 8 → Cu x i h h' r r') ∧ Pd h h' r r') := by
  have T := R.st
  have Sb := R.ses hs hb
  have hbl := Sb.1.2.2.1
  have hx := T.1
  have v1 := Sb.2.2.1.1
  have v1' : hfl h (100 * 10 + 13) b = r.2.2 16 s := v1.1
  unfold C_X11_lost_J50 R_lost_J126
  rw [sl_gL Sb.1.1, v1', sr_r16 hs]
  by_cases g : r.2.2 16 s = 0
  · rw [sl_pos (by rw [g]; decide), sr_pos (by rw [g]; decide), sl_Cv T.2.1.1, Sim_l (e_bd (qc_remove T Sb.1 hs))]
    rw [Sim_r (e_bd (qm_ends0 hs hw.2))]
    refine Sim.ret ⟨R.rem hs hb h15 (fun s' _ h1 _ => h1), G.tr (rem.gl T), fun i hi => ?_, Pd.mk rfl rem.wn⟩
    exact ⟨by rw [remM.ro.gA (by decide)], by rw [remM.ro.gA (by decide)], by rw [remM.ro.gA (by decide)], remH.fm.gi (x := x) (by decide) (by have := T.cl hi; omega)⟩
  · have gc : ¬ lg_cmp (r.2.2 16 s) 0 = 0 := fun z => g (cmp_eq.mp z)
    rw [sl_neg gc, sr_neg gc, sr_r16 hs]
    have key : ∀ u : Int64, u = (if r.2.2 16 s = 4294967295 then -1 else (hfi h 1017 b).toInt64 + r.2.2 16 s) → Sim (rt ()) h (R_lost_J181 (nn s) u) r (fun _ h' _ r' => Rel x ec 12 96 e0 h' r' ∧ GL x hb' h' rb r' ∧ (∀ i, i < 8 → Cu x i h h' r r') ∧ Pd h h' r r') := by
      intro u hu
      unfold R_lost_J181
      rw [sr_w23 hs]
      have w : Ro [22, 23] r (sL r 23 s u) := Ro.rf.l (by decide)
      have wx : Ho s 8 r (sL r 23 s u) := Ho.l Ho.rf (Or.inr (Or.inl ⟨by omega, by omega, rfl⟩))
      refine Sim.ret ⟨R.zset hs hb w wx (fun s' _ h1 _ => h1) (fun _ _ => ⟨g, ?_, fun h0 => ?_, ?_⟩), G.tr ⟨Fm.rf, w.sub (by decide), fun _ => Or.inl rfl, fun _ => Or.inl rfl, fun _ _ => Or.inr Cu.rf⟩, fun i hi => Cu.rf, Pd.mk rfl (Ro.wn w (by decide) (by decide) (by decide) (by decide))⟩
      · obtain ⟨t, t1, t2⟩ := R.2.1.1
        exact ⟨t, by rw [w.gI (by decide), t2, iN_nn (by omega)]; exact Nat.le_refl _, by rw [h17, t2]⟩
      · rw [w.gA (by decide), hw.2] at h0
        exact absurd h0 (by decide)
      · have e16 : (sL r 23 s u).2.2 16 s = r.2.2 16 s := by rw [sL_3, if_neg (by simp)]
        have e23 : (sL r 23 s u).2.2 23 s = u := by rw [sL_3, if_pos ⟨rfl, rfl⟩]
        rw [e23, e16]
        exact hu
    by_cases g2 : r.2.2 16 s = 4294967295
    · rw [sr_pos (cmp_eq.mpr g2)]
      exact key _ (by rw [if_pos g2])
    · rw [sr_neg (fun z => g2 (cmp_eq.mp z)), sr_rI, sr_r16 hs]
      exact key _ (by rw [if_neg g2, h17])
theorem sim_lost (R : Rel x ec 12 96 e0 h r) (hi : i < 8) (hec : ∀ i', i' < 8 → i' ≠ i → i' ≠ ec' → i' ≠ ec) :
    Sim (C_X11_lost x (some (cA x i))) h (R_lost (nn i)) r (fun _ h' _ r' => Rel x ec' 12 96 e0 h' r' ∧ GL x h h' r r' ∧ (∀ i', i' < 8 → i' ≠ i → Cu x i' h h' r r') ∧ r'.2.1 1 i = 0 ∧ Pd h h' r r') := by
  have T := R.st
  have hx := T.1
  have t1 := T.2.1.1
  have c1 := (T.2.2.2.2.2.2 i hi).2.1
  have hcl := T.cl hi
  unfold C_X11_lost R_lost
  rw [sl_gR c1, sr_w1 hi, sr_w2 hi, sr_w5 hi, sl_Cv c1]
  refine Sim.seqL (qc_close T hi) (fun _ h1 z => ?_)
  obtain ⟨F, hF, eh1⟩ := z
  refine Sim.right (qm_al hi (Sim.toRight ?_))
  unfold R_lost_J45
  rw [sr_r7 hi, sr_w7 hi]
  obtain ⟨r0, hr0⟩ : ∃ z, z = cloM r i := ⟨_, rfl⟩
  have em : sA (al4 (sA (sA (sA r 1 i (vp_nar .boolean (0 : Int32))) 2 i (vp_nar .boolean (0 : Int32))) 5 i (0 : Int32)) i) 7 i (-1 : Int32) = r0 := by rw [hr0]; rfl
  have e7 : (al4 (sA (sA (sA r 1 i (vp_nar .boolean (0 : Int32))) 2 i (vp_nar .boolean (0 : Int32))) 5 i (0 : Int32)) i).2.1 7 i = r.2.1 7 i := by
    rw [al4.ro.gA (by decide), sA_o (by decide), sA_o (by decide), sA_o (by decide)]
  rw [em, e7]
  have p0 : Fm x [201, 202, 205, 208] (fun a => a = cA x i + 3) h h1 := by rw [eh1]; exact cloH.fm
  have w0 : Ro [1, 2, 5, 7, 9] r r0 := by rw [hr0]; exact cloM.ro
  have o0 : ∀ i', i' < 8 → i' ≠ i → Cu x i' h h1 r r0 := fun i' h8 hne => by
    obtain ⟨a1, a2, a3, _⟩ := cloM.ot (r := r) hne
    refine ⟨by rw [hr0]; exact a1, by rw [hr0]; exact a2, by rw [hr0]; exact a3, ?_⟩
    rw [eh1]
    show hfi (sfi (sfi (sfr (sfi h 201 (cA x i) 0) 202 (cA x i) none) 205 (cA x i) 0) 208 (cA x i) 0) 208 (cA x i') = _
    rw [hfi_sfi, if_neg (by simp only [cA]; omega), hfi_sfi, if_neg (by omega), hfi_sfr, hfi_sfi, if_neg (by omega)]
  have z1 : r0.2.1 1 i = 0 := by rw [hr0]; exact cloM.rd.1
  have G0 : GL x h h1 r r0 := ⟨p0.sub (by decide) (fun a z => Or.inr (Or.inr ⟨i, hi, z⟩)), w0.sub (by decide), fun s' => Or.inl (by rw [(p0.2.2 (x + 34) (by omega) (by simp only [cA]; omega)).2.1]), fun s' => Or.inl (by rw [w0.gA (by decide)]), fun i' h8 => by
    by_cases g : i' = i
    · subst g; exact Or.inl z1
    · exact Or.inr (o0 i' h8 g)⟩
  have cs1 : hcs h1 = hcs h := by rw [eh1]; rfl
  have k1 : hkd h1 x = 13 + 1 := by rw [eh1]; exact t1
  rcases (R.2.2.2.1 i hi).1.2.2.2 with ⟨a1, a2⟩ | ⟨s, b, hs, a1, a2, a3, a4, a5, a6⟩
  · have a2' : hfr h (100 * 2 + 2) (cA x i) = none := a2
    rw [a2', a1, sl_pos rfl, sr_neg (by decide)]
    refine Sim.ret ⟨?_, G0, o0, z1, Pd.mk cs1 (w0.wn (by decide) (by decide) (by decide) (by decide))⟩
    rw [eh1, hr0]
    exact R.clo0 hi hF a1 hec
  · have a6' : hfr h (100 * 2 + 2) (cA x i) = some b := a6
    have Sb := R.ses hs a5
    have hbl := Sb.1.2.2.1
    have kb : hkd h1 b = 10 + 1 := by rw [eh1]; exact Sb.1.1
    have g9 : hfi h1 (100 * 13 + 9) x = r.1 66 := by
      rw [p0.gi (by decide) (by omega)]
      exact R.2.1.2.1
    rw [a6', a1, sl_neg (by simp), sl_pR kb, sl_gI (by exact k1)]
    have g9' : hfi (sfr h1 (100 * 10 + 2) b none) (100 * 13 + 9) x = r.1 66 := g9
    rw [g9', sl_pI (by exact kb), sr_pos (nn_ge (by omega)), sr_w15 hs]
    have R2 := R.cloS (F := F) hi hF hs a5 a1 a4 hec (fun s' h0 _ => by omega) (r.1 66)
    rw [← eh1, ← hr0] at R2
    obtain ⟨h2, hh2⟩ : ∃ z, z = sfi (sfr h1 (100 * 10 + 2) b none) (100 * 10 + 17) b (r.1 66) := ⟨_, rfl⟩
    obtain ⟨r2, hr2⟩ : ∃ z, z = sA r0 15 s (-1) := ⟨_, rfl⟩
    rw [← hh2, ← hr2]
    have R2 : Rel x ec' s 96 e0 h2 r2 := by rw [hh2, hr2]; exact R2
    have p1 : Fm x [1002, 1017] (fun _ => False) h1 h2 := by
      rw [hh2]
      exact Fm.fi (Fm.fr Fm.rf (Or.inl (by decide)) (Or.inl (by decide))) (Or.inl (by decide)) (Or.inl (by decide))
    have w1 : Ro [15] r0 r2 := by rw [hr2]; exact Ro.rf.a (by decide)
    have n1 : hnx h1 = hnx h := by rw [eh1]; rfl
    have n2 : hnx h2 = hnx h := by rw [hh2]; exact n1
    have cu1 : ∀ i', i' < 8 → Cu x i' h1 h2 r0 r2 := fun i' h8 => ⟨by rw [w1.gA (by decide)], by rw [w1.gA (by decide)], by rw [w1.gA (by decide)], p1.gi (by decide) (by rw [n1]; have := T.cl h8; omega)⟩
    have G1 : GL x h1 h2 r0 r2 := ⟨p1.sub (by decide) (fun _ z => z.elim), w1.sub (by decide), fun s' => Or.inl (by rw [hh2]; rfl), fun s' => Or.inl (by rw [w1.gA (by decide)]), fun i' h8 => Or.inr (cu1 i' h8)⟩
    have G2 := G0.tr G1
    have o2 : ∀ i', i' < 8 → i' ≠ i → Cu x i' h h2 r r2 := fun i' h8 hne => (o0 i' h8 hne).tr (cu1 i' h8)
    have z2 : r2.2.1 1 i = 0 := by rw [w1.gA (by decide)]; exact z1
    have cs2 : hcs h2 = hcs h := by rw [hh2]; exact cs1
    have hb2 : har h2 (x + 34) s = some b := by
      rw [hh2]
      show har h1 (x + 34) s = some b
      rw [(p0.2.2 (x + 34) (by omega) (by simp only [cA]; omega)).2.1]
      exact a5
    have h15 : r2.2.1 15 s = -1 := by rw [hr2, sA_2, if_pos ⟨rfl, rfl⟩]
    have e66 : r2.1 66 = r.1 66 := by rw [w1.gI (by decide), w0.gI (by decide)]
    have h17 : hfi h2 1017 b = r2.1 66 := by rw [hh2, e66, show 100 * 10 + 17 = 1017 from rfl, hfi_sfi, if_pos ⟨rfl, rfl⟩]
    have S2 := R2.ses hs hb2
    have T2 := R2.st
    have k2 : hkd h2 x = 13 + 1 := T2.2.1.1
    have kb2 : hkd h2 b = 10 + 1 := S2.1.1
    have l16 : hfl h2 (100 * 10 + 13) b = r2.2.2 16 s := S2.2.2.1.1.1
    have pd2 : Pd h h2 r r2 := Pd.mk cs2 (WN.le (fun s' _ => by
      have w01 := (w0.sub (T := [1, 2, 5, 7, 9, 15]) (by decide)).tr (w1.sub (by decide))
      unfold wl
      rw [w01.gA (k := 11) (by decide), w01.gA (k := 20) (by decide), w01.gA (k := 38) (by decide)]
      by_cases g : s' = s
      · subst g
        rw [h15, if_pos (show (-1 : Int32) = -1 from rfl), a4, if_neg (show ¬ nn i = (-1 : Int32) from fun z => neg_nn (by omega) z.symm)]
        by_cases y11 : r.2.1 11 s' = 1
        · rw [if_pos y11, if_pos y11]
          omega
        · rw [if_neg y11, if_neg y11]
          exact Nat.le_refl _
      · have : r2.2.1 15 s' = r.2.1 15 s' := by
          rw [hr2, sA_2, if_neg (fun z => g z.2), w0.gA (by decide)]
        rw [this]
        exact Nat.le_refl _))
    obtain ⟨Φ, hΦ⟩ : ∃ Z : Unit → Hp → Unit → RS → Prop, Z = fun _ h' _ r' => Rel x ec' 12 96 e0 h' r' ∧ GL x h h' r r' ∧ (∀ i', i' < 8 → i' ≠ i → Cu x i' h h' r r') ∧ r'.2.1 1 i = 0 ∧ Pd h h' r r' := ⟨_, rfl⟩
    rw [← hΦ]
    -- without a will
    have fin : ∀ h3 r3, Rel x ec' s 96 e0 h3 r3 → har h3 (x + 34) s = some b → hfr h3 1011 b = none → r3.2.1 20 s = -1 → r3.2.1 15 s = -1 → hfi h3 1017 b = r3.1 66 → GL x h h3 r r3 → (∀ i', i' < 8 → i' ≠ i → Cu x i' h h3 r r3) → r3.2.1 1 i = 0 → Pd h h3 r r3 → Sim (C_X11_lost_J50 x (some b)) h3 (R_lost_J126 (nn s)) r3 Φ := by
      intro h3 r3 R3 q1 q2 q3 q4 q5 q6 q7 q8 q9
      refine (sim_lost_end R3 hs q1 ⟨q2, q3⟩ q4 q5 q6).mono (fun _ h4 _ r4 z => ?_)
      obtain ⟨y1, y2, y3, y4⟩ := z
      rw [hΦ]
      exact ⟨y1, y2, fun i' h8 hne => (q7 i' h8 hne).tr (y3 i' h8), by rw [(y3 i hi).1]; exact q8, q9.tr y4⟩
    rcases S2.2.2.2.1 with ⟨y1, y2⟩ | ⟨m, j, y1, y2, y3, y4, y5⟩
    · -- no will
      have f45 : Sim (C_X11_lost_J45 x (some b)) h2 (R_lost_J126 (nn s)) r2 Φ := by
        unfold C_X11_lost_J45
        rw [sl_Cv k2, Sim_l (e_bd (qc_comes0 S2.1 y1))]
        exact fin h2 r2 R2 hb2 y1 y2 h15 h17 G2 o2 z2 pd2
      have f50 := fin h2 r2 R2 hb2 y1 y2 h15 h17 G2 o2 z2 pd2
      have fm : ∀ P : Hp → Option (Unit × Hp), Sim P h2 (R_lost_J126 (nn s)) r2 Φ → Sim P h2 (rA 20 (nn s) fun v10 => if v10 < 0 then (R_lost_J99 (nn s)) else (rL 21 (nn s) fun v11 => if (lg_cmp v11 (0 : Int64)) = 0 then (bd (R_comes (nn s)) fun r12 => R_lost_J126 (nn s)) else (R_lost_J99 (nn s)))) r2 Φ := by
        intro P hP
        unfold R_lost_J99
        rw [sr_r20 hs, y2, sr_pos (by decide), sr_r20 hs, y2, sr_pos (by decide)]
        exact hP
      refine fm _ ?_
      rw [sl_gL kb2]
      by_cases g1 : lg_cmp (hfl h2 (100 * 10 + 12) b) 0 = 0
      · rw [sl_pos g1]
        exact f45
      · rw [sl_neg g1, sl_gL kb2]
        by_cases g2 : lg_cmp (hfl h2 (100 * 10 + 13) b) 0 = 0
        · rw [sl_pos g2]
          exact f45
        · rw [sl_neg g2]
          exact f50
    · -- a will
      obtain ⟨V, vv1, vv2, vv3⟩ := y3
      have hj6 := vv2.1
      have y4' : hfl h2 (100 * 10 + 12) b = r2.2.2 21 s := y4
      have nj : ¬ nn j < (0 : Int32) := fun z => by
        have h0 : 0 ≤ nn j := nn_ge (by omega)
        exact absurd z (by rw [Int32.not_lt]; exact h0)
      have back : ∀ h3 r3, Rel x ec' s 96 e0 h3 r3 → GW x h2 h3 r2 r3 → r3.2.1 20 s = -1 → hfr h3 1011 b = none → Pd h2 h3 r2 r3 → Sim (C_X11_lost_J50 x (some b)) h3 (R_lost_J126 (nn s)) r3 Φ := by
        intro h3 r3 R3 G3 q1 q2 q3
        refine fin h3 r3 R3 (by rw [G3.2.2]; exact hb2) q2 q1 (by rw [G3.2.1.gA (by decide)]; exact h15) (by rw [G3.1.gi (by decide) (by rw [n2]; omega), G3.2.1.gI (by decide)]; exact h17) (G2.tr (G3.gl T2)) (fun i' h8 hne => (o2 i' h8 hne).tr (G3.cu T2 h8)) (by rw [G3.2.1.gA (by decide)]; exact z2) (pd2.tr q3)
      rw [sr_r20 hs, y2, sr_neg nj, sr_r21 hs, sl_gL kb2, y4']
      by_cases g1 : r2.2.2 21 s = 0
      · rw [sl_pos (cmp_eq.mpr g1), sr_pos (cmp_eq.mpr g1)]
        unfold C_X11_lost_J45
        rw [sl_Cv k2]
        refine Sim.seq (sim_comes R2 hs hb2 y1 y2 ⟨V, vv1, vv2, vv3⟩) (fun _ h3 _ r3 z => ?_)
        obtain ⟨q1, q2, q3, q4, q5⟩ := z
        exact back h3 r3 q1 q2 q3 q4 q5
      · have gc : ¬ lg_cmp (r2.2.2 21 s) 0 = 0 := fun z => g1 (cmp_eq.mp z)
        rw [sl_neg gc, sr_neg gc, sl_gL kb2, l16]
        unfold R_lost_J99
        rw [sr_r20 hs, y2, sr_neg nj, sr_rI, sr_r21 hs, sr_w22 hs]
        obtain ⟨r3, hr3⟩ : ∃ z, z = sL r2 22 s ((r2.1 66).toInt64 + r2.2.2 21 s) := ⟨_, rfl⟩
        rw [← hr3]
        have w3 : Ro [22, 23] r2 r3 := by rw [hr3]; exact Ro.rf.l (by decide)
        have wx3 : Ho s 8 r2 r3 := by rw [hr3]; exact Ho.l Ho.rf (Or.inr (Or.inl ⟨by omega, by omega, rfl⟩))
        have R3 : Rel x ec' s 96 e0 h2 r3 := R2.zset hs hb2 w3 wx3 (fun _ _ z _ => z) (fun z => absurd rfl z)
        unfold R_lost_J126
        rw [sr_r16 hs, w3.gL (k := 16) (by decide)]
        by_cases g2 : r2.2.2 16 s = 0
        · rw [sl_pos (cmp_eq.mpr g2), sr_pos (cmp_eq.mpr g2)]
          unfold C_X11_lost_J45
          rw [sl_Cv k2, Sim.bdr (ends1 hs ((w3.gA (k := 20) (by decide) ▸ y2 : r3.2.1 20 s = nn j)) hj6), bd_assoc]
          refine Sim.seq (sim_comes R3 hs hb2 y1 (w3.gA (k := 20) (by decide) ▸ y2) ⟨V, vv1, vv2.sj vv3.1.2 (w3.sj (by decide)), vv3⟩) (fun _ h4 _ r4 z => ?_)
          obtain ⟨q1, q2, q3, q4, q5⟩ := z
          have hb4 : har h4 (x + 34) s = some b := by rw [q2.2.2]; exact hb2
          have S4 := q1.ses hs hb4
          have T4 := q1.st
          have e16 : hfl h4 (100 * 10 + 13) b = 0 := by
            rw [q2.1.gl (by decide) (by rw [n2]; omega), l16]
            exact g2
          have h15' : r4.2.1 15 s = -1 := by rw [q2.2.1.gA (by decide), w3.gA (by decide)]; exact h15
          unfold C_X11_lost_J50
          rw [sl_gL S4.1.1, e16, sl_pos (by decide), sl_Cv T4.2.1.1, Sim_l (e_bd (qc_remove T4 S4.1 hs)), Sim_r (e_bd (qm_rem hs))]
          have G3 : GL x h2 h2 r2 r3 := ⟨Fm.rf, w3.sub (by decide), fun _ => Or.inl rfl, fun _ => Or.inl (by rw [w3.gA (by decide)]), fun i' h8 => Or.inr ⟨by rw [w3.gA (by decide)], by rw [w3.gA (by decide)], by rw [w3.gA (by decide)], rfl⟩⟩
          have cu4 : ∀ i', i' < 8 → Cu x i' h2 (remH h4 x s) r2 (remM r4 s) := fun i' h8 => by
            have q := q2.cu T2 h8
            refine ⟨by rw [remM.ro.gA (by decide), q.1, w3.gA (by decide)], by rw [remM.ro.gA (by decide), q.2.1, w3.gA (by decide)], by rw [remM.ro.gA (by decide), q.2.2.1, w3.gA (by decide)], ?_⟩
            rw [remH.fm.gi (x := x) (by decide) (by have := T4.cl h8; omega), q.2.2.2]
          refine Sim.ret ?_
          rw [hΦ]
          refine ⟨q1.rem hs hb4 h15' (fun _ _ z _ => z), G2.tr (G3.tr ((q2.gl T2).tr (rem.gl T4))), fun i' h8 hne => (o2 i' h8 hne).tr (cu4 i' h8), by rw [(cu4 i hi).1]; exact z2, pd2.tr ((Pd.mk rfl (w3.wn (by decide) (by decide) (by decide) (by decide))).tr (q5.tr (Pd.mk rfl rem.wn)))⟩
        · have gc2 : ¬ lg_cmp (r2.2.2 16 s) 0 = 0 := fun z => g2 (cmp_eq.mp z)
          rw [sl_neg gc2, sr_neg gc2, sr_r16 hs, w3.gL (k := 16) (by decide)]
          unfold C_X11_lost_J50
          rw [sl_gL kb2, l16, sl_neg gc2]
          have key : ∀ u : Int64, u = (if r2.2.2 16 s = 4294967295 then -1 else (hfi h2 1017 b).toInt64 + r2.2.2 16 s) → Sim (rt ()) h2 (R_lost_J181 (nn s) u) r3 Φ := by
            intro u hu
            unfold R_lost_J181
            rw [sr_w23 hs]
            have w4 : Ro [22, 23] r3 (sL r3 23 s u) := Ro.rf.l (by decide)
            have w5 := w3.tr w4
            have wx : Ho s 8 r3 (sL r3 23 s u) := Ho.l Ho.rf (Or.inr (Or.inl ⟨by omega, by omega, rfl⟩))
            have G5 : GL x h2 h2 r2 (sL r3 23 s u) := ⟨Fm.rf, w5.sub (by decide), fun _ => Or.inl rfl, fun _ => Or.inl (by rw [w5.gA (by decide)]), fun i' h8 => Or.inr ⟨by rw [w5.gA (by decide)], by rw [w5.gA (by decide)], by rw [w5.gA (by decide)], rfl⟩⟩
            refine Sim.ret ?_
            rw [hΦ]
            refine ⟨R3.zset hs hb2 w4 wx (fun s' _ h1 _ => h1) (fun _ _ => ⟨?_, ?_, fun h0 => ?_, ?_⟩), G2.tr G5, fun i' h8 hne => (o2 i' h8 hne).tr ⟨by rw [w5.gA (by decide)], by rw [w5.gA (by decide)], by rw [w5.gA (by decide)], rfl⟩, by rw [w5.gA (by decide)]; exact z2, pd2.tr (Pd.mk rfl (w5.wn (by decide) (by decide) (by decide) (by decide)))⟩
            · rw [w5.gL (by decide)]
              exact g2
            · obtain ⟨t, t1, t2⟩ := R2.2.1.1
              exact ⟨t, by rw [w5.gI (by decide), t2, iN_nn (by omega)]; exact Nat.le_refl _, by rw [h17, t2]⟩
            · rw [w5.gL (k := 21) (by decide)]
              refine ⟨?_, g1⟩
              rw [sL_3, if_neg (by simp), hr3, sL_3, if_pos ⟨rfl, rfl⟩, h17]
            · have e23 : (sL r3 23 s u).2.2 23 s = u := by rw [sL_3, if_pos ⟨rfl, rfl⟩]
              rw [w5.gL (k := 16) (by decide), e23]
              exact hu
          by_cases g3 : r2.2.2 16 s = 4294967295
          · rw [sr_pos (cmp_eq.mpr g3)]
            exact key _ (by rw [if_pos g3])
          · rw [sr_neg (fun z => g3 (cmp_eq.mp z)), sr_rI, sr_r16 hs, w3.gL (k := 16) (by decide), w3.gI (k := 66) (by decide)]
            exact key _ (by rw [if_neg g3, h17])
end LOT
