section PR4
variable {x i p L f n c e a q k M A s ps : Nat} {h h' : Hp} {r r' : RS} {bs U : List Nat}
def clrH (x : Nat) (h : Hp) (o : Option Nat) : Hp := sfr (sfr (sfi (sfl h 600 (x + 40) 0) 605 (x + 40) 0) 607 (x + 40) none) 606 (x + 40) o
theorem qc_clear (T : Stat x h) : C_X4_clear (x + 40) h = some ((), sfr (sfi (sfl h 600 (x + 40) 0) 605 (x + 40) 0) 607 (x + 40) none) := by
  have hh : wp (C_X4_clear (x + 40)) h (fun _ h' => h' = sfr (sfi (sfl h 600 (x + 40) 0) 605 (x + 40) 0) 607 (x + 40) none) := by
    unfold C_X4_clear
    rw [wp_pL T.pr, wp_pI (by exact T.pr), wp_pR (by exact T.pr), wp_rt]
  obtain ⟨_, h', e1, e2⟩ := hh
  rw [e1, e2]
theorem qm_clear : ∃ r1, R_properties (n6 A) r = R_properties_J21 (n6 A) r1 ∧ Ro [82] r r1 ∧ ∀ k, k < 64 → r1.2.1 82 k = 0 := by
  have key : ∀ (c k f : Nat) (r0 : RS), k + c = 64 → c < f → Ro [82] r r0 → (∀ k', k' < k → r0.2.1 82 k' = 0) → ∃ r1, R_properties_L2 (fun l1 => R_properties_J21 l1) f (n6 A) (nn k) r0 = R_properties_J21 (n6 A) r1 ∧ Ro [82] r r1 ∧ ∀ k, k < 64 → r1.2.1 82 k = 0 := by
    intro c
    induction c with
    | zero =>
      intro k f r0 hk hf w hz
      obtain ⟨f', rfl⟩ : ∃ z, f = z + 1 := ⟨f - 1, by omega⟩
      refine ⟨r0, ?_, w, fun k' hk' => hz k' (by omega)⟩
      show R_properties_B2 _ _ (n6 A) (nn k) r0 = _
      unfold R_properties_B2
      rw [if_pos (by rw [l_64, nn_le (by omega) (by omega)]; omega)]
    | succ c ih =>
      intro k f r0 hk hf w hz
      obtain ⟨f', rfl⟩ : ∃ z, f = z + 1 := ⟨f - 1, by omega⟩
      obtain ⟨r1, e1, e2, e3⟩ := ih (k + 1) f' (sA r0 82 k 0) (by omega) (by omega) (w.a (by decide)) (fun k' hk' => by
        rw [sA_2]
        by_cases g : k' = k
        · rw [if_pos ⟨rfl, g⟩]
        · rw [if_neg (by omega)]
          exact hz k' (by omega))
      refine ⟨r1, ?_, e2, e3⟩
      rw [← e1]
      show R_properties_B2 _ _ (n6 A) (nn k) r0 = _
      unfold R_properties_B2
      rw [if_neg (by rw [l_64, nn_le (by omega) (by omega)]; omega)]
      unfold wA
      rw [if_pos (nn_inr (by rw [mL_82]; omega) (by omega)), nn_N (by omega), l_1, nn_add]
      rfl
  obtain ⟨r1, e⟩ := key 64 0 fu r (by omega) (by unfold fu; omega) Ro.rf (fun k' hk' => by omega)
  exact ⟨r1, e⟩
theorem sim_props (hA : A < 1099511627776) (hAK : ∀ k, A.testBit k = true → k ∈ K0) (D : Rd x i bs p bs.length 0 h r) (T : Stat x h) (hps : bs.length < p + 400) : Sim (C_X4_read (x + 40) (some (x + 37)) (n6 A)) h (R_properties (n6 A)) r (fun _ h' _ r' => PsP x i bs p A h r h' r') := by
  have hx := T.1
  have hi := D.2.2.1.1
  have hbl := D.2.2.1.2.2.1
  obtain ⟨r1, m1, m2, m3⟩ := qm_clear (A := A) (r := r)
  rw [Sim_r m1]
  have p1 : Fm x [600, 605, 607] (fun _ => False) h (sfr (sfi (sfl h 600 (x + 40) 0) 605 (x + 40) 0) 607 (x + 40) none) := ((Fm.rf.fl (Or.inl (by decide)) (Or.inl (by decide))).fi (Or.inl (by decide)) (Or.inl (by decide))).fr (Or.inl (by decide)) (Or.inl (by decide))
  have T1 : Stat x (sfr (sfi (sfl h 600 (x + 40) 0) 605 (x + 40) 0) 607 (x + 40) none) := T.sto p1.1
  have e701 : hfr (sfr (sfi (sfl h 600 (x + 40) 0) 605 (x + 40) 0) 607 (x + 40) none) (100 * 7 + 1) (x + 37) = some (cA x i + 2) := by
    rw [p1.gr (by decide) (by omega)]
    exact D.1.1
  unfold C_X4_read R_properties_J21
  rw [sl_Cv T.pr, Sim_l (e_bd (qc_clear T)), sl_gR T1.rd, e701, sl_pR T1.pr, sr_wI]
  show Sim (hCv 7 (some (x + 37)) _ _) (clrH x h (some (cA x i + 2))) _ _ _
  have p2 : Fm x [600, 605, 606, 607] (fun _ => False) h (clrH x h (some (cA x i + 2))) := (p1.sub (by decide) (fun _ z => z)).fr (Or.inl (by decide)) (Or.inl (by decide))
  have T2 : Stat x (clrH x h (some (cA x i + 2))) := T.sto p2.1
  have w2 : Ro [82, 87] r (sI r1 87 0) := (m2.sub (by decide)).i (by decide)
  have D2 : Rd x i bs p bs.length 0 (clrH x h (some (cA x i + 2))) (sI r1 87 0) := D.fm T p2 w2 (by decide) (fun z => z) (by decide)
  have s2 : Sw x 0 0 h (clrH x h (some (cA x i + 2))) r (sI r1 87 0) := ⟨p2.sub (by decide) (fun _ z => z.elim), w2.sub (by decide), Nat.le_refl _, Nat.le_refl _⟩
  have P2 : Pp x i bs 0 [] (clrH x h (some (cA x i + 2))) (sI r1 87 0) := by
    refine ⟨⟨?_, by omega, fun k hk => ?_⟩, fun k _ _ g => ?_, ⟨?_, ?_, by decide, By.nil, Cg.nil, Mg.nil⟩, ?_, Or.inl ⟨Nat.zero_testBit 8, ?_⟩⟩
    · unfold clrH
      rw [hfl_sfr, hfl_sfr, hfl_sfi, hfl_sfl, if_pos ⟨rfl, rfl⟩]
      rfl
    · rw [sI_2, m3 k hk, Nat.zero_testBit, if_neg (by decide)]
    · rw [Nat.zero_testBit] at g
      cases g
    · unfold clrH
      rw [hfi_sfr, hfi_sfr, hfi_sfi, if_pos ⟨rfl, rfl⟩]
      rfl
    · rw [sI_1, if_pos rfl]
      rfl
    · unfold clrH
      rw [hfr_sfr, if_pos ⟨rfl, rfl⟩]
    · unfold clrH
      rw [hfr_sfr, if_neg (by omega), hfr_sfr, if_pos ⟨rfl, rfl⟩]
  have t2 : Tot x (clrH x h (some (cA x i + 2))) 0 = 0 := by
    unfold Tot tk
    rw [Nat.zero_testBit, Nat.zero_testBit, Nat.zero_testBit, Nat.zero_testBit, if_neg (by decide), if_neg (by decide), if_neg (by decide), if_neg (by decide)]
  rw [sl_Cv T2.rd]
  refine Sim.seq (sim_variable D2 T2) (fun v h3 w r3 z => ?_)
  obtain ⟨k, z0, z1, z2, s3, p', z4, z5, z6⟩ := z
  have T3 := s3.st T2
  have s3' := (s2.tr s3.sw).le (show 0 + 0 ≤ p' - p by omega) (show 0 + 0 ≤ p' - p by omega)
  rw [sl_Cv T3.rd, sr_rI]
  rcases z6 with ⟨g1, D3⟩ | ⟨g1, D3⟩
  · have hd3 := D3.2.2.2 rfl
    have x79 : r3.1 79 = 0 := D3.2.1.2.2.1
    rw [z0, z1, x79, sr_pos rfl, sr_rI, hd3.2.1, sr_rI, D3.2.1.2.1, n6_nn (by omega), n6_nn (by omega), n6_add]
    by_cases gk : p' + k ≤ bs.length
    · rw [Sim_l (e_bd (D3.has1 T3 gk)), sl_neg (by decide), sr_pos (by rw [cmp_le, n6_le (by omega) (by omega)]; omega), sr_rI, hd3.2.1, n6_nn (by omega), n6_add, n6_32 (by omega), sr_wI]
      have x703 : hfi h3 (100 * 7 + 3) (x + 37) = nn bs.length := hd3.1
      have x702 : hfi h3 (100 * 7 + 2) (x + 37) = nn p' := D3.1.2.1
      rw [sl_gI T3.rd, x703, sl_gI T3.rd, x702, sl_pI T3.rd, nn_add]
      obtain ⟨P3, t3⟩ := P2.fm T2 s3.1 s3.2.1 (by decide) (fun _ _ _ z => z) (by decide)
      have D4 := D3.lim (L' := p' + k) (by omega) gk
      rw [show 410 * i + (p' + k) = 410 * i + p' + k by omega] at D4
      have s4 : Sw x 0 0 h3 (sfi h3 703 (x + 37) (nn (p' + k))) r3 (sI r3 78 (nn (410 * i + p' + k))) := Sw.lim
      obtain ⟨P4, t4⟩ := P3.fm (h' := sfi h3 703 (x + 37) (nn (p' + k))) (r' := sI r3 78 (nn (410 * i + p' + k))) (F := [703]) (S := [78]) (Q := fun _ => False) T3 (Fm.rf.fi (Or.inl (by decide)) (Or.inl (by decide))) (Ro.rf.i (by decide)) (by decide) (fun _ _ _ z => z) (by decide)
      exact sim_ploop (L := p' + k) (ps := p) hA hAK hps k p' 0 fu fu 0 [] _ _ (by omega) (by unfold fu; omega) (by unfold fu; omega) (by omega) (by omega) (s4.st T3) D4 P4 (fun k hk => by rw [Nat.zero_testBit] at hk; cases hk) (by
        rw [t4, t3, t2]
        show 0 + 0 ≤ _
        omega) ((s3'.tr s4).le (by omega) (by omega))
    · rw [Sim_l (e_bd (D3.has0 T3 (by omega) (by omega))), sl_pos rfl, sr_neg (by rw [cmp_le, n6_le (by omega) (by omega)]; omega), Sim_r (e_bd (qm_fails x79))]
      have D4 := D3.fl (v := 129) (by omega) (by omega)
      exact Sim.ret ⟨p', z4, z5, (s3'.tr Sc.fl.sw).le (by omega) (by omega), Or.inr ⟨129, by omega, D4, ((P2.fm T2 s3.1 s3.2.1 (by decide) (fun _ _ _ z => z) (by decide)).1.fx hbl).fm (F := [704]) (Q := fun _ => False) T3 (Fm.rf.fi (Or.inl (by decide)) (Or.inl (by decide))) (by decide) (by decide)⟩⟩
  · have x79 : r3.1 79 = nn 129 := D3.2.1.2.2.1
    rw [x79, sr_neg (by decide), Sim_l (e_bd (qc_has_f T3 (D3.fa (by omega)))), sl_pos rfl]
    exact Sim.ret ⟨p', z4, z5, s3', Or.inr ⟨129, by omega, D3, (P2.fm T2 s3.1 s3.2.1 (by decide) (fun _ _ _ z => z) (by decide)).1.fx hbl⟩⟩
/-- after a fault the class reads no properties -/
theorem qc_props_f (T : Stat x h) (F : Fa x f h) {v : Int64} : ∃ h', C_X4_read (x + 40) (some (x + 37)) v h = some ((), h') ∧ Fm x [600, 605, 606, 607] (fun _ => False) h h' ∧ hcs h' = hcs h ∧ Fa x f h' ∧ hfl h' 600 (x + 40) = 0 ∧ hfr h' 607 (x + 40) = none := by
  have hx := T.1
  have p1 : Fm x [600, 605, 607] (fun _ => False) h (sfr (sfi (sfl h 600 (x + 40) 0) 605 (x + 40) 0) 607 (x + 40) none) := ((Fm.rf.fl (Or.inl (by decide)) (Or.inl (by decide))).fi (Or.inl (by decide)) (Or.inl (by decide))).fr (Or.inl (by decide)) (Or.inl (by decide))
  have T1 : Stat x (sfr (sfi (sfl h 600 (x + 40) 0) 605 (x + 40) 0) 607 (x + 40) none) := T.sto p1.1
  obtain ⟨o, eo⟩ : ∃ o, o = hfr (sfr (sfi (sfl h 600 (x + 40) 0) 605 (x + 40) 0) 607 (x + 40) none) (100 * 7 + 1) (x + 37) := ⟨_, rfl⟩
  have p2 : Fm x [600, 605, 606, 607] (fun _ => False) h (clrH x h o) := (p1.sub (by decide) (fun _ z => z)).fr (Or.inl (by decide)) (Or.inl (by decide))
  have T2 : Stat x (clrH x h o) := T.sto p2.1
  have F2 : Fa x f (clrH x h o) := ⟨by rw [p2.gi (by decide) (by omega)]; exact F.1, F.2⟩
  refine ⟨clrH x h o, ?_, p2, rfl, F2, ?_, ?_⟩
  · have hh : wp (C_X4_read (x + 40) (some (x + 37)) v) h (fun _ h' => h' = clrH x h o) := by
      unfold C_X4_read
      rw [wp_Cv T.pr]
      refine wp.get (qc_clear T) ?_
      rw [wp_gR T1.rd, ← eo, wp_pR T1.pr]
      show wp _ (clrH x h o) _
      rw [wp_Cv T2.rd]
      refine wp.get (qc_variable_f T2 F2) ?_
      rw [wp_Cv T2.rd]
      refine wp.get (qc_has_f T2 F2) ?_
      rw [wp_pos rfl, wp_rt]
    obtain ⟨_, h', e1, e2⟩ := hh
    rw [e1, e2]
  · unfold clrH
    rw [hfl_sfr, hfl_sfr, hfl_sfi, hfl_sfl, if_pos ⟨rfl, rfl⟩]
  · unfold clrH
    rw [hfr_sfr, if_neg (by omega), hfr_sfr, if_pos ⟨rfl, rfl⟩]
end PR4
