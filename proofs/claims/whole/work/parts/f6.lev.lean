/-! ===== DISCONNECT ===== -/
section LEV
variable {x ec es ew i p s b f : Nat} {e0 : Int32} {h : Hp} {r : RS} {bs : List Nat}
/-- the expiry of a session that is online -/
theorem Rel.exp {e : Nat} (R : Rel x ec es ew e0 h r) (hs : s < 12) (hb : har h (x + 34) s = some b) (h15 : r.2.1 15 s ≠ -1) (he : e ≤ 4294967295) : Rel x ec es ew e0 (sfl h 1013 b (n6 e)) (sL r 16 s (n6 e)) := by
  have T := R.st
  have hx := T.1
  have Sb := R.ses hs hb
  have hbl := Sb.1.2.2.1
  have hbx := Sb.1.2.1
  have p : Fm x [1013] (fun _ => False) h (sfl h 1013 b (n6 e)) := Fm.fl Fm.rf (Or.inl (by decide)) (Or.inl (by decide))
  have w : Ro [16] r (sL r 16 s (n6 e)) := Ro.rf.l (by decide)
  have px : Hx x b 8 h (sfl h 1013 b (n6 e)) := Hx.fl Hx.rf (Or.inl (Or.inl ⟨rfl, by omega, by omega⟩)) (Or.inl (by decide))
  have wx : Ho s 8 r (sL r 16 s (n6 e)) := Ho.l Ho.rf (Or.inr (Or.inl ⟨by omega, by omega, rfl⟩))
  have eac : ∀ k, act (sL r 16 s (n6 e)) s k ↔ act r s k := fun k => by
    unfold act
    rw [w.gA (by decide), w.gA (by decide)]
  have SV : SesV x (sfl h 1013 b (n6 e)) (sL r 16 s (n6 e)) s b := by
    obtain ⟨v1, v2, v3, v4, v5⟩ := Sb.2.2.1
    refine ⟨⟨?_, e, he, ?_⟩, ?_, ?_, ?_, ?_⟩
    · rw [hfl_sfl, if_pos ⟨rfl, rfl⟩, sL_3, if_pos ⟨rfl, rfl⟩]
    · rw [sL_3, if_pos ⟨rfl, rfl⟩]
    · exact v2
    · rw [w.gL (by decide), p.gl (by decide) (by omega)]
      exact v3
    · exact v4
    · exact v5
  refine R.same (i := 8) (b := b) px wx hs hb rfl (R.2.1.fm T p w (by decide) (by decide)) (by rw [sSum.fm T p (by decide), w.gI (by decide)]; exact R.2.2.1) (w.gI (by decide)) (fun _ _ _ z => z) (fun _ _ _ z => z) (fun z => by omega) (by rw [w.gA (by decide)]) (by rw [w.gA (by decide)]) (fun i' h1 h2 h3 => by rw [w.gA (by decide)]) (fun d hd => Or.inr ⟨rfl, fun f hf => rfl⟩) (fun u hu => Or.inr (fun f hf => rfl)) (fun z => by omega) ⟨Sb.1.sto p.1, Sb.2.1.fm (by omega) p.1 w (by decide), SV, Sb.2.2.2.1.fm (by omega) p w (by decide) (by decide), Sb.2.2.2.2.1.fm hbl p w (by decide) (fun z => z) (by decide), Sb.2.2.2.2.2.1.fm hbl p w (by decide) (fun z => z) (by decide), Sb.2.2.2.2.2.2.1.fm hbl p w (by decide) (fun z => z) (by decide), Sb.2.2.2.2.2.2.2.1.fm hbl p w (by decide) (fun z => z) (by decide), Sb.2.2.2.2.2.2.2.2.fm w (by decide)⟩ (fun _ z => absurd z h15) (fun k d g1 g2 g3 => ⟨⟨k, g1, (eac k).mp g2, g3⟩, rfl⟩) (fun k k' d g1 g2 g3 g4 g5 g6 => (R.2.2.2.2.2.1 s s b b k k' d hs hs hb hb g1 g2 ((eac k).mp g3) ((eac k').mp g4) g5 g6).2) (fun k u g1 g2 => Or.inr ⟨k, by rw [w.gA (by decide)] at g1; exact g1, g2⟩) (fun k k' u g1 g2 g3 g4 => ?_) rfl (by rw [w.gA (by decide)]) (fun k hk => Or.inl ⟨k, ?_, by rw [w.gA (by decide)]⟩) (fun k hk => Or.inr ⟨k, ?_, by rw [w.gA (by decide)]⟩)
  · rw [w.gA (by decide)] at g1 g2
    exact (R.2.2.2.2.2.2.1 s s b b k k' u hs hs hb hb g1 g2 g3 g4).2
  · rw [w.gA (by decide)] at hk; exact hk
  · rw [w.gA (by decide)] at hk; exact hk
/-- a session's will is taken back -/
theorem Rel.wno (R : Rel x ec es ew e0 h r) (hs : s < 12) (hb : har h (x + 34) s = some b) : Rel x ec es ew e0 (sfr h 1011 b none) (sA r 20 s (-1)) := by
  have R0 := R
  obtain ⟨T, G, sm, C, SS, U1, U2, U3, K, U4, f0, bs0, W⟩ := R0
  have hx := T.1
  obtain ⟨c11, S0, Z0⟩ := (SS s hs).at hb
  have hbl := S0.1.2.2.1
  have hbx := S0.1.2.1
  obtain ⟨r1, hr1⟩ : ∃ z, z = sA r 20 s (-1) := ⟨_, rfl⟩
  rw [← hr1]
  have p : Fm x [1011] (fun _ => False) h (sfr h 1011 b none) := Fm.fr Fm.rf (Or.inl (by decide)) (Or.inl (by decide))
  have w : Ro [20] r r1 := by
    rw [hr1]
    exact Ro.rf.a (by decide)
  have px : Hx x b 8 h (sfr h 1011 b none) := Hx.fr Hx.rf (Or.inl (Or.inl ⟨rfl, by omega, by omega⟩)) (Or.inl (by decide))
  have wx : Ho s 8 r r1 := by
    rw [hr1]
    exact Ho.a Ho.rf (Or.inr (Or.inl ⟨by omega, by omega, rfl⟩))
  have e20 : ∀ s', r1.2.1 20 s' = if s' = s then -1 else r.2.1 20 s' := fun s' => by
    rw [hr1, sA_2]
    by_cases g : s' = s
    · rw [if_pos ⟨rfl, g⟩, if_pos g]
    · rw [if_neg (fun z => g z.2), if_neg g]
  have e10 : ∀ b', hfr (sfr h 1011 b none) 1011 b' = if b' = b then none else hfr h 1011 b' := fun b' => by
    rw [hfr_sfr]
    by_cases g : b' = b
    · rw [if_pos ⟨rfl, g⟩, if_pos g]
    · rw [if_neg (fun z => g z.2), if_neg g]
  refine R.one px wx (Or.inr ⟨hs, hb⟩) (fun _ _ => rfl) (G.fm T p w (by decide) (by decide)) (by rw [sSum.fm T p (by decide), w.gI (by decide)]; exact sm) (Or.inl (w.gI (by decide))) (fun _ _ _ z => z) (fun _ _ _ z => z) (fun z => by omega) (fun i' h1 h2 h3 _ => ⟨by rw [w.gA (by decide)], by rw [w.gA (by decide)], rfl⟩) (fun _ _ _ _ _ _ _ _ _ _ => ⟨rfl, fun _ _ => rfl⟩) (fun _ _ _ _ _ _ _ _ _ _ _ => rfl) (fun z => by omega) (fun _ => Or.inr ⟨by rw [w.gA (by decide)]; exact c11, b, hb, ⟨S0.1.sto p.1, S0.2.1.fm (by omega) p.1 w (by decide), S0.2.2.1.fm (by omega) p w (by decide) (by decide), Or.inl ⟨by rw [e10, if_pos rfl], by rw [e20, if_pos rfl]⟩, S0.2.2.2.2.1.fm hbl p w (by decide) (fun z => z) (by decide), S0.2.2.2.2.2.1.fm hbl p w (by decide) (fun z => z) (by decide), S0.2.2.2.2.2.2.1.fm hbl p w (by decide) (fun z => z) (by decide), S0.2.2.2.2.2.2.2.1.fm hbl p w (by decide) (fun z => z) (by decide), S0.2.2.2.2.2.2.2.2.fm w (by decide)⟩, fun g g15 => ?_⟩) ?_ ?_ ?_ ?_ ?_ ?_ ?_ (fun _ z => absurd (z.symm.trans (show r1.2.1 11 s = 1 by rw [w.gA (by decide)]; exact c11)) (by decide))
  · rw [w.gA (by decide)] at g15
    obtain ⟨z1, z2, z3, z4⟩ := Z0 g g15
    refine ⟨by rw [w.gL (by decide)]; exact z1, by rw [w.gI (by decide)]; exact z2, fun h0 => ?_, by rw [w.gL (by decide), w.gL (by decide)]; exact z4⟩
    rw [e20, if_pos rfl] at h0
    exact absurd h0 (by decide)
  · intro b1 k k' d _ h1 h2 h3 h4 h5 h6 h7
    unfold act at h4 h5
    rw [w.gA (by decide), w.gA (by decide)] at h4 h5
    exact (U1 s s b1 b1 k k' d hs hs h1 h1 h2 h3 h4 h5 h6 h7).2
  · intro b1 k d _ h1 h2 h3 h4 s' b' k' g1 g2 g3 g4 g5 g6
    unfold act at h3
    rw [w.gA (by decide), w.gA (by decide)] at h3
    exact g2 (U1 s' s b' b1 k' k d g1 hs g3 h1 g4 h2 g5 h3 g6 h4).1
  · intro b1 k k' u _ h1 h2 h3 h4 h5
    rw [w.gA (by decide)] at h2 h3
    exact (U2 s s b1 b1 k k' u hs hs h1 h1 h2 h3 h4 h5).2
  · intro b1 k u _ h1 h2 h3 s' b' k' g1 g2 g3 g4 g5
    rw [w.gA (by decide)] at h2
    exact g2 (U2 s' s b' b1 k' k u g1 hs g3 h1 g4 h2 g5 h3).1
  · intro _ h1 s' g1 g2 g3 g4
    unfold SId at g4
    rw [w.gA (k := 12) (by decide), w.gA (k := 13) (by decide), w.gA (k := 14) (by decide)] at g4
    exact g2 (U3.1 s' s g1 hs g3 c11 g4)
  · intro s' b' m' j' g1 g2 g3 g4 g5 _
    obtain ⟨y1, y2, y3, y4, y5, y6⟩ := U4 s' b' m' j' g1 g3 g4 g5
    have hj' : (-1 : Int32) ≠ nn j' := fun e => by
      have h1 := ((SS s' g1).at g3).2.1.2.2.2.1
      rcases h1 with z | ⟨_, j2, _, z2, z3, _⟩
      · rw [g4] at z; exact absurd z.1 (by simp)
      · obtain ⟨V, _, v2, _⟩ := z3
        have hj2 := v2.1
        rw [g5] at z2
        rw [z2] at e
        exact absurd e (neg_nn (by omega))
    refine ⟨fun b1 g => ?_, fun _ => ⟨fun k hk => ?_, fun k hk => ?_⟩⟩
    · have g' : har h (x + 34) s = some b1 := g
      rw [hb] at g'
      cases g'
      refine ⟨⟨by rw [e10, if_pos rfl]; simp, by rw [e20, if_pos rfl]; exact hj'⟩, fun k d z1 z2 z3 => ?_⟩
      unfold act at z2
      rw [w.gA (by decide), w.gA (by decide)] at z2
      exact y2 s b k d hs hb z1 z2 z3
    · rw [w.gA (by decide)] at hk ⊢
      exact y3 s k hs c11 hk
    · rw [w.gA (by decide)] at hk ⊢
      exact y4 s k hs c11 hk
  · intro _ b1 m' j' g1 g2 g3
    have g' : har h (x + 34) s = some b1 := g1
    rw [hb] at g'
    cases g'
    rw [e10, if_pos rfl] at g2
    cases g2
theorem WN.wno : WN (sA r 20 s (-1)) ≤ WN r := WN.le (fun s' _ => by
  have w : Ro [20] r (sA r 20 s (-1)) := Ro.rf.a (by decide)
  have e20 : (sA r 20 s (-1)).2.1 20 s' = if s' = s then -1 else r.2.1 20 s' := by
    rw [sA_2]
    by_cases g : s' = s
    · rw [if_pos ⟨rfl, g⟩, if_pos g]
    · rw [if_neg (fun z => g z.2), if_neg g]
  unfold wl
  rw [w.gA (k := 11) (by decide), w.gA (k := 15) (by decide), w.gA (k := 38) (by decide), e20]
  by_cases g : s' = s
  · rw [if_pos g]
    have : ¬ (0 : Int32) ≤ -1 := by decide
    rw [if_neg this]
    split <;> omega
  · rw [if_neg g]
    exact Nat.le_refl _)
theorem WN.ex {v : Int64} : WN (sL r 16 s v) = WN r := rfl
/-- a fault that the class still has to see to its end -/
theorem lev108_f (T : Stat x h) (F : Fa x f h) {l1 : Option Nat} {l3 : Int32} {l4 : Int64} : C_X11_leave_J108 x l1 l3 l4 h = some (nn f, h) := by
  obtain ⟨k1, k2, _⟩ := T.in3
  have e : hfi h (100 * 7 + 4) (x + 37) = nn f := F.1
  unfold C_X11_leave_J108
  rw [e_gR k1, k2, e_gI T.rd, e, if_neg (nn_ne0 (by have := F.2.2; omega) F.2.1), e_gR k1, k2, e_gI T.rd, e]
  rfl
theorem lev60_f {M : Nat} (T : Stat x h) (F : Fa x f h) (hk : hkd h b = 10 + 1) (hM : hfl h 600 (x + 40) = n6 M) (hM2 : M < 1099511627776) {l3 : Int32} : C_X11_leave_J60 x (some b) l3 h = some (nn f, h) := by
  obtain ⟨k1, k2, k3⟩ := T.in3
  obtain ⟨⟨p1, p2, p3⟩, _⟩ := T.pra
  have ep := qc_phas (k := 17) T hM hM2 (by omega)
  obtain ⟨v, ev⟩ : ∃ v, C_X4_get (x + 40) (nn 17) (hfl h (100 * 10 + 13) b) h = some (v, h) := by
    unfold C_X4_get
    rw [e_Cv T.pr, e_bd ep]
    by_cases g : M.testBit 17 = true
    · rw [if_pos g, if_neg (by decide), e_gR T.pr, p1, e_Al p2 (nn_inr (by omega) (by omega))]
      exact ⟨_, rfl⟩
    · rw [if_neg g, if_pos rfl]
      exact ⟨_, rfl⟩
  unfold C_X11_leave_J60
  rw [e_gR k1, k2, e_Cv T.rd, e_bd (qc_finish_f T F), e_gR k1, k3, e_gL hk, e_Cv T.pr, show (17 : Int32) = nn 17 from rfl, e_bd ev]
  by_cases g : lg_cmp v (0 : Int64) = 0
  · rw [if_pos g, lev108_f T F]
  · rw [if_neg g, e_gL hk]
    by_cases g2 : lg_cmp (hfl h (100 * 10 + 13) b) (0 : Int64) = 0
    · rw [if_pos g2, e_gR k1, k2, e_Cv T.rd, e_bd (qc_fail_f T F), lev108_f T F]
    · rw [if_neg g2, lev108_f T F]
theorem lev36_f {M : Nat} (T : Stat x h) (F : Fa x f h) (hk : hkd h b = 10 + 1) (hM : hfl h 600 (x + 40) = n6 M) (hM2 : M < 1099511627776) {l3 : Int32} : C_X11_leave_J36 x (some b) l3 h = some (nn f, h) := by
  obtain ⟨k1, k2, k3⟩ := T.in3
  unfold C_X11_leave_J36
  rw [e_gR k1, k2, e_Cv T.rd, e_bd (qc_left_f T F), if_pos (by decide), lev60_f T F hk hM hM2]
/-- flags that may not stand -/
theorem lev_bad (D : Rd x i bs p bs.length 0 h r) (T : Stat x h) (hk : hkd h b = 10 + 1) {fl : Int32} (hfg : fl ≠ 0) : ∃ h', C_X11_leave x (some b) fl h = some (nn 129, h') ∧ Sw x 0 0 h h' r (sI r 79 (nn 129)) := by
  have D1 := D.fl (v := 129) (by omega) (by omega)
  have s1 : Sc x 0 0 h (sfi h 704 (x + 37) (nn 129)) r (sI r 79 (nn 129)) := Sc.fl
  have T1 := s1.st T
  obtain ⟨k1, k2, _⟩ := T.in3
  obtain ⟨j1, j2, j3⟩ := T1.in3
  obtain ⟨h1, eh1⟩ : ∃ z, z = sfi h 704 (x + 37) (nn 129) := ⟨_, rfl⟩
  rw [← eh1] at D1 s1 T1 j1 j2 j3
  obtain ⟨h2, eh2⟩ : ∃ z, z = sfr (sfi (sfl h1 600 (x + 40) 0) 605 (x + 40) 0) 607 (x + 40) none := ⟨_, rfl⟩
  have p2 : Fm x [600, 605, 607] (fun _ => False) h1 h2 := by
    rw [eh2]
    exact ((Fm.rf.fl (Or.inl (by decide)) (Or.inl (by decide))).fi (Or.inl (by decide)) (Or.inl (by decide))).fr (Or.inl (by decide)) (Or.inl (by decide))
  have T2 : Stat x h2 := T1.sto p2.1
  obtain ⟨m1, m2, m3⟩ := T2.in3
  have D2 : Rd x i bs p bs.length 129 h2 (sI r 79 (nn 129)) := D1.fm T1 p2 (Ro.rf (S := [])) (by decide) (fun z => z) (by decide)
  have s2 : Sw x 0 0 h1 h2 (sI r 79 (nn 129)) (sI r 79 (nn 129)) := ⟨p2.sub (by decide) (fun _ z => z.elim), Ro.rf, by rw [eh2]; exact Nat.le_refl _, by rw [eh2]; exact Nat.le_refl _⟩
  refine ⟨h2, ?_, s1.sw.tr s2⟩
  have F2 := D2.fa (by omega)
  have hM : hfl h2 600 (x + 40) = n6 0 := by
    rw [eh2]
    show hfl (sfl h1 600 (x + 40) 0) 600 (x + 40) = _
    rw [hfl_sfl, if_pos ⟨rfl, rfl⟩]
    rfl
  have hk2 : hkd h2 b = 10 + 1 := by
    rw [eh2, eh1]
    exact hk
  unfold C_X11_leave
  rw [e_gR k1, k2, e_Cv T.rd, e_bd (exp_bad D T hfg), ← eh1, e_gR j1, j3, e_Cv T1.pr, e_bd (qc_clear T1), ← eh2, e_gR m1, m2, e_Cv T2.rd, e_bd (qc_left_f T2 F2), if_pos (by decide), lev36_f T2 F2 hk2 hM (by omega)]
end LEV
