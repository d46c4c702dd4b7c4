/-! ===== CONNECT: the greeting, read by both: from its beginning ===== -/
section GRT
variable {x i p L f n s b M k fl ka ps : Nat} {e0 : Int32} {h h' h0 : Hp} {r r' r0 : RS} {bs U : List Nat} {s1 : Int32}
variable {α β : Type} {Kc : Hp → Option (α × Hp)} {Km : RS → Option (β × RS)} {Φ : α → Hp → β → RS → Prop}
theorem gr85 (ok : GrOk x i bs h0 r0 Kc Km Φ fl) (no : GrNo x (bs.length + 7) (bs.length + 420) h0 r0 Kc Km Φ) (T : Stat x h) (s : Sg x p p h0 h r0 r) (D : Rd x i bs p bs.length 0 h r) (hl : bs.length < p + 400) (hfb : fl < 256) (hq : fl / 8 % 4 ≤ 2) (hs1 : s1 = (if fl / 2 % 2 = 0 then 0 else 1)) :
    Sim (bd (C_X2_read_J85 (x + 48) (some (x + 37)) (some (x + 40)) (nn fl) (some (x + 48)) s1) fun _ => Kc) h (bd (R_connect_J178 (nn fl) (if fl / 4 % 2 = 0 then 0 else 1) (nn (fl / 8 % 4))) fun _ => Km) r Φ := by
  have hx := T.1
  have hbl := D.2.2.1.2.2.1
  have hs2 : s1 = 0 ∨ s1 = 1 := by
    rw [hs1]
    by_cases z : fl / 2 % 2 = 0
    · rw [if_pos z]; exact Or.inl rfl
    · rw [if_neg z]; exact Or.inr rfl
  obtain ⟨h1, eh1⟩ : ∃ z, z = sfi h 401 (x + 48) s1 := ⟨_, rfl⟩
  have F1 : Fm x [401] (fun _ => False) h h1 := by
    rw [eh1]
    exact Fm.fi Fm.rf (Or.inl (by decide)) (Or.inl (by decide))
  have T1 := T.sto F1.1
  have D1 : Rd x i bs p bs.length 0 h1 r := D.fm T F1 (Ro.rf (S := [])) (by decide) (fun z => z) (by decide)
  have sA : Sg x p p h0 h1 r0 r := (s.tr (show Sg x 0 0 h h1 r r from ⟨F1.sub (by decide) (fun _ z => z.elim), Ro.rf, by rw [eh1]; exact Nat.le_refl _, by rw [eh1]; exact Nat.le_refl _⟩)).le (by omega) (by omega)
  have f401 : hfi h1 401 (x + 48) = (if fl / 2 % 2 = 0 then 0 else 1) := by
    rw [eh1, hfi_sfi, if_pos ⟨rfl, rfl⟩, hs1]
  have e1 := g85_ev (l5 := nn fl) T hs2
  rw [← eh1] at e1
  have m1 : R_connect_J178 (nn fl) (if fl / 4 % 2 = 0 then 0 else 1) (nn (fl / 8 % 4)) r = (bd R_two fun r102 => rI 79 fun v103 => if v103 = 0 then (bd (R_properties (n6 850451890176)) fun _ => rI 79 fun v114 => if v114 = 0 then (mTl (nn fl) (if fl / 4 % 2 = 0 then 0 else 1) (nn (fl / 8 % 4)) r102) else (R_connect_J327 (nn fl) (if fl / 4 % 2 = 0 then 0 else 1) (nn (fl / 8 % 4)) r102)) else (rt ())) r := by
    unfold R_connect_J178 mTl
    simp only [bd_bit, bit_con]
  rw [Sim_l (bd_l e1), Sim_r (bd_l m1), bd_assoc, bd_assoc]
  refine Sim.seq (sim_two D1 T1) (fun v h2 w r2 y => ?_)
  obtain ⟨y0, y1, y2⟩ := y
  subst y0
  have T2 := y1.st T1
  have s2 := sA.tr y1.sg
  rcases y2 with ⟨g1, g2, D2⟩ | ⟨g2, D2⟩
  · have hv := D.by.two p
    have z79 : r2.1 79 = 0 := D2.2.1.2.2.1
    obtain ⟨h3, eh3⟩ : ∃ z, z = sfi h2 402 (x + 48) w := ⟨_, rfl⟩
    have F3 : Fm x [402] (fun _ => False) h2 h3 := by
      rw [eh3]
      exact Fm.fi Fm.rf (Or.inl (by decide)) (Or.inl (by decide))
    have T3 := T2.sto F3.1
    have hx2 := T2.1
    have D3 : Rd x i bs (p + 2) bs.length 0 h3 r2 := D2.fm T2 F3 (Ro.rf (S := [])) (by decide) (fun z => z) (by decide)
    have s3 : Sg x (p + 2) (p + 2) h0 h3 r0 r2 := (s2.tr (show Sg x 0 0 h2 h3 r2 r2 from ⟨F3.sub (by decide) (fun _ z => z.elim), Ro.rf, by rw [eh3]; exact Nat.le_refl _, by rw [eh3]; exact Nat.le_refl _⟩)).le (by omega) (by omega)
    have f4013 : hfi h3 401 (x + 48) = (if fl / 2 % 2 = 0 then 0 else 1) := by
      have hx1 := T1.1
      rw [F3.gi (by decide) (by omega), y1.1.gi (by decide) (by omega)]
      exact f401
    have f402 : hfi h3 402 (x + 48) = nn (b2 bs p) := by
      rw [eh3, hfi_sfi, if_pos ⟨rfl, rfl⟩, g2]
    have e2 : gr85b x (nn fl) w h2 = (bd (C_X4_read (x + 40) (some (x + 37)) (n6 850451890176)) fun _ => grP x (nn fl)) h3 := by
      unfold gr85b
      rw [e_pI T2.gr.2]
      show (hCv 6 (some (x + 40)) (fun a => C_X4_read a (some (x + 37)) (850451890176 : Int64)) fun _ => grP x (nn fl)) (sfi h2 402 (x + 48) w) = _
      rw [← eh3, e_Cv T3.pr]
      rfl
    have m2 : (rI 79 fun v103 => if v103 = 0 then (bd (R_properties (n6 850451890176)) fun _ => rI 79 fun v114 => if v114 = 0 then (mTl (nn fl) (if fl / 4 % 2 = 0 then 0 else 1) (nn (fl / 8 % 4)) w) else (R_connect_J327 (nn fl) (if fl / 4 % 2 = 0 then 0 else 1) (nn (fl / 8 % 4)) w)) else (rt ())) r2 = (bd (R_properties (n6 850451890176)) fun _ => rI 79 fun v114 => if v114 = 0 then (mTl (nn fl) (if fl / 4 % 2 = 0 then 0 else 1) (nn (fl / 8 % 4)) w) else (R_connect_J327 (nn fl) (if fl / 4 % 2 = 0 then 0 else 1) (nn (fl / 8 % 4)) w)) r2 := by
      rw [x_rI, z79, if_pos rfl]
    rw [Sim_l (bd_l e2), Sim_r (bd_l m2), bd_assoc, bd_assoc]
    refine Sim.seq (sim_props (A := 850451890176) (by omega) mask_con D3 T3 (by omega)) (fun _ h4 _ r4 z => ?_)
    obtain ⟨p', y1', y2', y3', y4'⟩ := z
    have s4 : Sg x p' p' h0 h4 r0 r4 := (s3.tr y3'.sg).le (by omega) (by omega)
    have T4 := y3'.st T3
    have hx3 := T3.1
    rcases y4' with ⟨M, U, D4, P4, hMA, hTU⟩ | ⟨f, hf, D4, X4⟩
    · have z794 : r4.1 79 = 0 := D4.2.1.2.2.1
      have m3 : (rI 79 fun v114 => if v114 = 0 then (mTl (nn fl) (if fl / 4 % 2 = 0 then 0 else 1) (nn (fl / 8 % 4)) w) else (R_connect_J327 (nn fl) (if fl / 4 % 2 = 0 then 0 else 1) (nn (fl / 8 % 4)) w)) r4 = mTl (nn fl) (if fl / 4 % 2 = 0 then 0 else 1) (nn (fl / 8 % 4)) (nn (b2 bs p)) r4 := by
        rw [x_rI, z794, if_pos rfl, g2]
      rw [Sim_r (bd_l m3)]
      exact grTl ok no T4 s4 D4 (by omega) P4 hfb hq (by rw [y3'.1.gi (by decide) (by omega)]; exact f4013) (by rw [y3'.1.gi (by decide) (by omega)]; exact f402) hv
    · have hf2 := D4.2.2.1.2.2.2.2.1
      refine gr_no no hf D4 s4 (by omega) (by omega) (grP_f ⟨T4, D4.fa hf, X4.1⟩) ?_
      rw [x_rI, D4.2.1.2.2.1, if_neg (nn_ne0 (by omega) hf)]
      exact mc327_f D4.2.1.2.2.1 hf hf2.1
  · have hp2 := D2.2.2.1.2.2.2.1
    refine gr_no no (by omega) D2 s2 (by omega) (by omega) (g85b_f T2 (D2.fa (by omega))) ?_
    rw [x_rI, D2.2.1.2.2.1, if_neg (by decide)]
    rfl
/-- the flags, looked at by both -/
def fbad (fl : Nat) : Bool := fl % 2 = 1 || (if fl / 4 % 2 = 0 then fl / 8 % 8 ≠ 0 else fl / 8 % 4 = 3)
theorem fl_c : ∀ fl, fl < 256 → ((if (nn fl &&& (4 : Int32)) = 0 then (if (nn fl &&& (56 : Int32)) = 0 then ¬ (nn fl &&& (1 : Int32)) = 0 else True) else (if (nn fl &&& (24 : Int32)) = (24 : Int32) then True else ¬ (nn fl &&& (1 : Int32)) = 0)) ↔ fbad fl = true) := by decide +kernel
theorem fl_m : ∀ fl, fl < 256 → ((if (nn fl &&& (1 : Int32)) = 0 then (if nn (fl / 8 % 4) = (3 : Int32) then True else (if (if fl / 4 % 2 = 0 then (0 : Int32) else 1) = 0 then (if nn (fl / 8 % 4) = 0 then (if (nn fl &&& (32 : Int32)) = 0 then False else True) else True) else False)) else True) ↔ fbad fl = true) := by decide +kernel
theorem fl_ok : ∀ fl, fl < 256 → fbad fl = false → fl / 8 % 4 ≤ 2 := by decide +kernel
theorem cf_ev (T : Stat x h) (hfb : fl < 256) : C_X2_checkFlags (x + 48) (some (x + 37)) (nn fl) h = if fbad fl = true then (bd (C_X5_fail (x + 37) (129 : Int32)) fun _ => rt ()) h else some ((), h) := by
  have fc := fl_c fl hfb
  have j46 : C_X2_checkFlags_J46 (x + 48) (some (x + 37)) h = (bd (C_X5_fail (x + 37) (129 : Int32)) fun _ => rt ()) h := by
    unfold C_X2_checkFlags_J46
    rw [e_Cv T.rd]
  have j0 : C_X2_checkFlags_J35 (x + 48) (some (x + 37)) (nn fl) 0 h = if (nn fl &&& (1 : Int32)) = 0 then some ((), h) else (bd (C_X5_fail (x + 37) (129 : Int32)) fun _ => rt ()) h := by
    unfold C_X2_checkFlags_J35
    by_cases z : (nn fl &&& (1 : Int32)) = 0
    · rw [if_pos z, if_pos z, if_pos rfl]
      rfl
    · rw [if_neg z, if_neg z, j46]
  have j1 : C_X2_checkFlags_J35 (x + 48) (some (x + 37)) (nn fl) 1 h = (bd (C_X5_fail (x + 37) (129 : Int32)) fun _ => rt ()) h := by
    unfold C_X2_checkFlags_J35
    by_cases z : (nn fl &&& (1 : Int32)) = 0
    · rw [if_pos z, if_neg (by decide), j46]
    · rw [if_neg z, j46]
  unfold C_X2_checkFlags
  by_cases z4 : (nn fl &&& (4 : Int32)) = 0
  · rw [if_pos z4] at fc ⊢
    by_cases z56 : (nn fl &&& (56 : Int32)) = 0
    · rw [if_pos z56] at fc ⊢
      rw [j0]
      by_cases z1 : (nn fl &&& (1 : Int32)) = 0
      · rw [if_pos z1, if_neg (fun w => (fc.mpr w) z1)]
      · rw [if_neg z1, if_pos (fc.mp z1)]
    · rw [if_neg z56] at fc ⊢
      rw [j1, if_pos (fc.mp trivial)]
  · rw [if_neg z4] at fc ⊢
    by_cases z24 : (nn fl &&& (24 : Int32)) = (24 : Int32)
    · rw [if_pos z24] at fc ⊢
      rw [j1, if_pos (fc.mp trivial)]
    · rw [if_neg z24] at fc ⊢
      rw [j0]
      by_cases z1 : (nn fl &&& (1 : Int32)) = 0
      · rw [if_pos z1, if_neg (fun w => (fc.mpr w) z1)]
      · rw [if_neg z1, if_pos (fc.mp z1)]
theorem mf_ev (z79 : r.1 79 = 0) (hfb : fl < 256) : R_connect_J128 (nn fl) (if fl / 4 % 2 = 0 then 0 else 1) r = (if fbad fl = true then R_connect_J171 (nn fl) (if fl / 4 % 2 = 0 then 0 else 1) (nn (fl / 8 % 4)) else R_connect_J178 (nn fl) (if fl / 4 % 2 = 0 then 0 else 1) (nn (fl / 8 % 4))) r := by
  have fm := fl_m fl hfb
  unfold R_connect_J128 lq
  rw [fl_38 fl hfb]
  dsimp only
  rw [x_rI, z79, if_pos rfl]
  by_cases z1 : (nn fl &&& (1 : Int32)) = 0
  · rw [if_pos z1] at fm ⊢
    by_cases z3 : nn (fl / 8 % 4) = (3 : Int32)
    · rw [if_pos z3] at fm ⊢
      rw [if_pos (fm.mp trivial)]
    · rw [if_neg z3] at fm ⊢
      by_cases z4 : (if fl / 4 % 2 = 0 then (0 : Int32) else 1) = 0
      · rw [if_pos z4] at fm ⊢
        by_cases z0 : nn (fl / 8 % 4) = 0
        · rw [if_pos z0] at fm ⊢
          by_cases z32 : (nn fl &&& (32 : Int32)) = 0
          · rw [if_pos z32] at fm ⊢
            rw [if_neg (fun w => fm.mpr w)]
          · rw [if_neg z32] at fm ⊢
            rw [if_pos (fm.mp trivial)]
        · rw [if_neg z0] at fm ⊢
          rw [if_pos (fm.mp trivial)]
      · rw [if_neg z4] at fm ⊢
        rw [if_neg (fun w => fm.mpr w)]
  · rw [if_neg z1] at fm ⊢
    rw [if_pos (fm.mp trivial)]
/-- flags -/
theorem gr59 (ok : ∀ fl, fl < 256 → GrOk x i bs h0 r0 Kc Km Φ fl) (no : GrNo x (bs.length + 7) (bs.length + 420) h0 r0 Kc Km Φ) (T : Stat x h) (s : Sg x p p h0 h r0 r) (D : Rd x i bs p bs.length 0 h r) (hl : bs.length < p + 400) :
    Sim (bd (C_X2_read_J59 (x + 48) (some (x + 37)) (some (x + 40))) fun _ => Kc) h (bd R_connect_J112 fun _ => Km) r Φ := by
  have hx := T.1
  have hbl := D.2.2.1.2.2.1
  obtain ⟨Kr, hKr⟩ : ∃ z : Int32 → Hp → Option (Unit × Hp), z = fun r20 => hCv 4 (some (x + 48)) (fun a => C_X2_checkFlags a (some (x + 37)) r20) fun _ => if (r20 &&& (2 : Int32)) = 0 then (C_X2_read_J85 (x + 48) (some (x + 37)) (some (x + 40)) r20 (some (x + 48)) (0 : Int32)) else (C_X2_read_J85 (x + 48) (some (x + 37)) (some (x + 40)) r20 (some (x + 48)) (1 : Int32)) := ⟨_, rfl⟩
  have e1 : ∀ h, Stat x h → C_X2_read_J59 (x + 48) (some (x + 37)) (some (x + 40)) h = (bd (C_X5_one (x + 37)) Kr) h := fun h T => by
    rw [hKr]
    unfold C_X2_read_J59
    rw [e_Cv T.rd]
  have m1 : R_connect_J112 r = (bd R_one fun r120 => if (r120 &&& (4 : Int32)) = 0 then (R_connect_J128 r120 (0 : Int32)) else (R_connect_J128 r120 (1 : Int32))) r := rfl
  rw [Sim_l (bd_l (e1 h T)), Sim_r (bd_l m1), bd_assoc, bd_assoc]
  refine Sim.seq (sim_one D T) (fun v h1 w r1 y => ?_)
  obtain ⟨y0, y1, y2⟩ := y
  subst y0
  have T1 := y1.st T
  have s1 := s.tr y1.sg
  rcases y2 with ⟨g1, g2, D1⟩ | ⟨g2, D1⟩
  · obtain ⟨fl, efl⟩ : ∃ z, z = bs.getD p 0 := ⟨_, rfl⟩
    have hfb : fl < 256 := by rw [efl]; exact D.by.at p
    have z79 : r1.1 79 = 0 := D1.2.1.2.2.1
    rw [← efl] at g2
    rw [g2]
    have m2 : (if (nn fl &&& (4 : Int32)) = 0 then (R_connect_J128 (nn fl) (0 : Int32)) else (R_connect_J128 (nn fl) (1 : Int32))) r1 = (if fbad fl = true then R_connect_J171 (nn fl) (if fl / 4 % 2 = 0 then 0 else 1) (nn (fl / 8 % 4)) else R_connect_J178 (nn fl) (if fl / 4 % 2 = 0 then 0 else 1) (nn (fl / 8 % 4))) r1 := by
      rw [← mf_ev z79 hfb]
      by_cases z : fl / 4 % 2 = 0
      · rw [if_pos ((fl_4 fl hfb).mpr z), if_pos z]
      · rw [if_neg (fun w => z ((fl_4 fl hfb).mp w)), if_neg z]
    have e85 : ∀ h2, (if (nn fl &&& (2 : Int32)) = 0 then (C_X2_read_J85 (x + 48) (some (x + 37)) (some (x + 40)) (nn fl) (some (x + 48)) (0 : Int32)) else (C_X2_read_J85 (x + 48) (some (x + 37)) (some (x + 40)) (nn fl) (some (x + 48)) (1 : Int32))) h2 = C_X2_read_J85 (x + 48) (some (x + 37)) (some (x + 40)) (nn fl) (some (x + 48)) (if fl / 2 % 2 = 0 then 0 else 1) h2 := fun h2 => by
      by_cases z : fl / 2 % 2 = 0
      · rw [if_pos ((fl_2 fl hfb).mpr z), if_pos z]
      · rw [if_neg (fun w => z ((fl_2 fl hfb).mp w)), if_neg z]
    rw [Sim_r (bd_l m2)]
    by_cases fb : fbad fl = true
    · have D2 := D1.fl (v := 129) (by omega) (by omega)
      have sf : Sc x 0 0 h1 (sfi h1 704 (x + 37) (nn 129)) r1 (sI r1 79 (nn 129)) := Sc.fl
      have T2 := sf.st T1
      have e2 : Kr (nn fl) h1 = C_X2_read_J85 (x + 48) (some (x + 37)) (some (x + 40)) (nn fl) (some (x + 48)) (if fl / 2 % 2 = 0 then 0 else 1) (sfi h1 704 (x + 37) (nn 129)) := by
        rw [hKr]
        show hCv 4 (some (x + 48)) (fun a => C_X2_checkFlags a (some (x + 37)) (nn fl)) _ h1 = _
        rw [e_Cv T1.gr.2, e_bd (show C_X2_checkFlags (x + 48) (some (x + 37)) (nn fl) h1 = some ((), sfi h1 704 (x + 37) (nn 129)) from by rw [cf_ev T1 hfb, if_pos fb, e_bd (qc_fail T1 D1.1.2.2.1)]; rfl), e85]
      have m3 : (if fbad fl = true then R_connect_J171 (nn fl) (if fl / 4 % 2 = 0 then 0 else 1) (nn (fl / 8 % 4)) else R_connect_J178 (nn fl) (if fl / 4 % 2 = 0 then 0 else 1) (nn (fl / 8 % 4))) r1 = R_connect_J178 (nn fl) (if fl / 4 % 2 = 0 then 0 else 1) (nn (fl / 8 % 4)) (sI r1 79 (nn 129)) := by
        rw [if_pos fb]
        unfold R_connect_J171
        rw [e_bd (qm_fails z79)]
        rfl
      rw [Sim_l (bd_l e2), Sim_r (bd_l m3)]
      have hp1 := D1.2.2.1.2.2.2.1
      refine gr_no no (by omega) D2 (s1.tr sf.sg) (by omega) (by omega) (g85_f T2 (D2.fa (by omega)) ?_) (mc178_f (f := 129) D2.2.1.2.2.1 (by omega) (by omega))
      by_cases z : fl / 2 % 2 = 0
      · rw [if_pos z]; exact Or.inl rfl
      · rw [if_neg z]; exact Or.inr rfl
    · have e2 : Kr (nn fl) h1 = C_X2_read_J85 (x + 48) (some (x + 37)) (some (x + 40)) (nn fl) (some (x + 48)) (if fl / 2 % 2 = 0 then 0 else 1) h1 := by
        rw [hKr]
        show hCv 4 (some (x + 48)) (fun a => C_X2_checkFlags a (some (x + 37)) (nn fl)) _ h1 = _
        rw [e_Cv T1.gr.2, e_bd (show C_X2_checkFlags (x + 48) (some (x + 37)) (nn fl) h1 = some ((), h1) from by rw [cf_ev T1 hfb, if_neg fb]), e85]
      rw [Sim_l (bd_l e2), if_neg fb]
      exact gr85 (ok fl hfb) no T1 (s1.le (show p + 0 ≤ p + 1 by omega) (show p + 0 ≤ p + 1 by omega)) D1 (by omega) hfb (fl_ok fl hfb (by simpa using fb)) rfl
  · have F := D1.fa (by omega)
    have hp1 := D1.2.2.1.2.2.2.1
    obtain ⟨h2, e2, s2, F2⟩ := g59_f (r := r1) T1 F
    rw [e1 h1 T1, e_bd (qc_one_f T1 F)] at e2
    rw [g2]
    refine gr_no no (by omega) D1 s1 (by omega) (by omega) ⟨h2, e2, s2, F2⟩ ?_
    rw [if_pos (by decide)]
    exact mc128_f D1.2.1.2.2.1 (by omega) (by omega)
/-- version -/
theorem gr44 (ok : ∀ fl, fl < 256 → GrOk x i bs h0 r0 Kc Km Φ fl) (no : GrNo x (bs.length + 7) (bs.length + 420) h0 r0 Kc Km Φ) (T : Stat x h) (s : Sg x p p h0 h r0 r) (D : Rd x i bs p bs.length 0 h r) (hl : bs.length < p + 400) :
    Sim (bd (C_X2_read_J44 (x + 48) (some (x + 37)) (some (x + 40))) fun _ => Kc) h (bd R_connect_J88 fun _ => Km) r Φ := by
  have hx := T.1
  have hbl := D.2.2.1.2.2.1
  obtain ⟨Kr, hKr⟩ : ∃ z : Int32 → Hp → Option (Unit × Hp), z = fun r22 => if r22 = (5 : Int32) then (C_X2_read_J59 (x + 48) (some (x + 37)) (some (x + 40))) else (hCv 7 (some (x + 37)) (fun a => C_X5_fail a (132 : Int32)) fun _ => C_X2_read_J59 (x + 48) (some (x + 37)) (some (x + 40))) := ⟨_, rfl⟩
  have e1 : ∀ h, Stat x h → C_X2_read_J44 (x + 48) (some (x + 37)) (some (x + 40)) h = (bd (C_X5_one (x + 37)) Kr) h := fun h T => by
    rw [hKr]
    unfold C_X2_read_J44
    rw [e_Cv T.rd]
  have m1 : R_connect_J88 r = (bd R_one fun r121 => rI 79 fun v122 => if v122 = 0 then (if r121 = (5 : Int32) then (R_connect_J112) else (bd (R_fails (132 : Int32)) fun _ => R_connect_J112)) else (R_connect_J112)) r := rfl
  rw [Sim_l (bd_l (e1 h T)), Sim_r (bd_l m1), bd_assoc, bd_assoc]
  refine Sim.seq (sim_one D T) (fun v h1 w r1 y => ?_)
  obtain ⟨y0, y1, y2⟩ := y
  subst y0
  have T1 := y1.st T
  have s1 := s.tr y1.sg
  rcases y2 with ⟨g1, g2, D1⟩ | ⟨g2, D1⟩
  · have z79 : r1.1 79 = 0 := D1.2.1.2.2.1
    have m2 : (rI 79 fun v122 => if v122 = 0 then (if w = (5 : Int32) then (R_connect_J112) else (bd (R_fails (132 : Int32)) fun _ => R_connect_J112)) else (R_connect_J112)) r1 = (if w = (5 : Int32) then (R_connect_J112) else (bd (R_fails (132 : Int32)) fun _ => R_connect_J112)) r1 := by
      rw [x_rI, z79, if_pos rfl]
    rw [Sim_r (bd_l m2), hKr]
    by_cases z : w = (5 : Int32)
    · show Sim (bd (if w = (5 : Int32) then _ else _) fun _ => Kc) h1 _ r1 Φ
      rw [if_pos z, if_pos z]
      exact gr59 ok no T1 (s1.le (show p + 0 ≤ p + 1 by omega) (show p + 0 ≤ p + 1 by omega)) D1 (by omega)
    · have D2 := D1.fl (v := 132) (by omega) (by omega)
      have sf : Sc x 0 0 h1 (sfi h1 704 (x + 37) (nn 132)) r1 (sI r1 79 (nn 132)) := Sc.fl
      have T2 := sf.st T1
      show Sim (bd (if w = (5 : Int32) then _ else _) fun _ => Kc) h1 _ r1 Φ
      rw [if_neg z, if_neg z]
      have e2 : (hCv 7 (some (x + 37)) (fun a => C_X5_fail a (132 : Int32)) fun _ => C_X2_read_J59 (x + 48) (some (x + 37)) (some (x + 40))) h1 = C_X2_read_J59 (x + 48) (some (x + 37)) (some (x + 40)) (sfi h1 704 (x + 37) (nn 132)) := by
        rw [e_Cv T1.rd, e_bd (qc_fail T1 D1.1.2.2.1)]
        rfl
      have m3 : (bd (R_fails (132 : Int32)) fun _ => R_connect_J112) r1 = R_connect_J112 (sI r1 79 (nn 132)) := by
        rw [e_bd (qm_fails z79)]
        rfl
      have hp1 := D1.2.2.1.2.2.2.1
      rw [Sim_l (bd_l e2), Sim_r (bd_l m3)]
      exact gr_no no (by omega) D2 (s1.tr sf.sg) (by omega) (by omega) (g59_f T2 (D2.fa (by omega))) (mc112_f (f := 132) D2.2.1.2.2.1 (by omega) (by omega))
  · have F := D1.fa (by omega)
    have hp1 := D1.2.2.1.2.2.2.1
    obtain ⟨h2, e2, s2, F2⟩ := g44_f (r := r1) T1 F
    rw [e1 h1 T1, e_bd (qc_one_f T1 F)] at e2
    rw [g2]
    refine gr_no no (by omega) D1 s1 (by omega) (by omega) ⟨h2, e2, s2, F2⟩ ?_
    rw [x_rI, D1.2.1.2.2.1, if_neg (by decide)]
    exact mc112_f D1.2.1.2.2.1 (by omega) (by omega)
def mqtt : List Nat := [77, 81, 84, 84]
/-- the model's look at the protocol's name -/
theorem m_pname {o : Nat} {ys : List Nat} (z79 : r.1 79 = 0) (h80 : r.1 80 = nn o) (h81 : r.1 81 = nn ys.length) (h6 : Mg (r.2.1 6) o ys) (B : By ys) (ho : o + ys.length ≤ 3280) :
    (rI 79 fun v126 => if v126 = 0 then (rI 81 fun v127 => if v127 = (4 : Int32) then (rI 80 fun v128 => rA 6 v128 fun v129 => if v129 = (77 : Int32) then (rI 80 fun v130 => rA 6 (v130 + (1 : Int32)) fun v131 => if v131 = (81 : Int32) then (rI 80 fun v132 => rA 6 (v132 + (2 : Int32)) fun v133 => if v133 = (84 : Int32) then (rI 80 fun v134 => rA 6 (v134 + (3 : Int32)) fun v135 => if v135 = (84 : Int32) then (R_connect_J88) else (R_connect_J81)) else (R_connect_J81)) else (R_connect_J81)) else (R_connect_J81)) else (R_connect_J81)) else (R_connect_J88)) r = (if ys = mqtt then R_connect_J88 else R_connect_J81) r := by
  rw [x_rI, z79, if_pos rfl, x_rI, h81]
  by_cases z4 : ys.length = 4
  · match ys, z4, h6, B, ho with
    | [a, b, c, d], _, h6, B, ho =>
      have ho' : o + 4 ≤ 3280 := ho
      have q : ∀ k, k < 4 → r.2.1 6 (o + k) = sb ([a, b, c, d].getD k 0) := fun k hk => h6 k hk
      have sbe : ∀ u t, u < 256 → t < 128 → (sb u = nn t ↔ u = t) := fun u t hu ht => sb_nn hu ht
      have ba : a < 256 := B.at 0
      have bb : b < 256 := B.at 1
      have bc : c < 256 := B.at 2
      have bd' : d < 256 := B.at 3
      have q0 : r.2.1 6 o = sb a := q 0 (by omega)
      have q1 : r.2.1 6 (o + 1) = sb b := q 1 (by omega)
      have q2 : r.2.1 6 (o + 2) = sb c := q 2 (by omega)
      have q3 : r.2.1 6 (o + 3) = sb d := q 3 (by omega)
      rw [if_pos (show nn [a, b, c, d].length = (4 : Int32) from rfl), x_rI, h80, x_rA mL_6 (by omega) (by omega), q0, show (77 : Int32) = nn 77 from rfl, show (81 : Int32) = nn 81 from rfl, show (84 : Int32) = nn 84 from rfl]
      by_cases z0 : a = 77
      · rw [if_pos ((sbe a 77 ba (by omega)).mpr z0), x_rI, h80, show nn o + (1 : Int32) = nn (o + 1) from nn_add, x_rA mL_6 (by omega) (by omega), q1]
        by_cases z1 : b = 81
        · rw [if_pos ((sbe b 81 bb (by omega)).mpr z1), x_rI, h80, show nn o + (2 : Int32) = nn (o + 2) from nn_add, x_rA mL_6 (by omega) (by omega), q2]
          by_cases z2 : c = 84
          · rw [if_pos ((sbe c 84 bc (by omega)).mpr z2), x_rI, h80, show nn o + (3 : Int32) = nn (o + 3) from nn_add, x_rA mL_6 (by omega) (by omega), q3]
            by_cases z3 : d = 84
            · rw [if_pos ((sbe d 84 bd' (by omega)).mpr z3), if_pos (by rw [z0, z1, z2, z3]; rfl)]
            · rw [if_neg (fun w => z3 ((sbe d 84 bd' (by omega)).mp w)), if_neg (fun w => z3 (by unfold mqtt at w; simp only [List.cons.injEq] at w; exact w.2.2.2.1))]
          · rw [if_neg (fun w => z2 ((sbe c 84 bc (by omega)).mp w)), if_neg (fun w => z2 (by unfold mqtt at w; simp only [List.cons.injEq] at w; exact w.2.2.1))]
        · rw [if_neg (fun w => z1 ((sbe b 81 bb (by omega)).mp w)), if_neg (fun w => z1 (by unfold mqtt at w; simp only [List.cons.injEq] at w; exact w.2.1))]
      · rw [if_neg (fun w => z0 ((sbe a 77 ba (by omega)).mp w)), if_neg (fun w => z0 (by unfold mqtt at w; simp only [List.cons.injEq] at w; exact w.1))]
  · rw [if_neg (fun w : nn ys.length = (4 : Int32) => z4 (nn_inj (b := 4) (by omega) (by omega) w)), if_neg (fun w => z4 (by rw [w]; rfl))]
/-- a greeting is read by both -/
theorem sim_greet (ok : p + 6 ≤ bs.length → ∀ fl, fl < 256 → GrOk x i bs h r Kc Km Φ fl) (no : GrNo x (bs.length + 7) (bs.length + 420) h r Kc Km Φ) (T : Stat x h) (D : Rd x i bs p bs.length 0 h r) (hl : bs.length ≤ p + 400) :
    Sim (bd (C_X2_read (x + 48) (some (x + 37)) (some (x + 40)) 0) fun _ => Kc) h (bd R_connect fun _ => Km) r Φ := by
  have hx := T.1
  have hi := D.2.2.1.1
  have hbl := D.2.2.1.2.2.1
  obtain ⟨Kr, hKr⟩ : ∃ z : Option Nat → Hp → Option (Unit × Hp), z = fun r26 => hCv 9 r26 (fun a => C_X7_count a) fun r27 => sLn 1 fun v28 => if r27 = v28 then (hCv 9 r26 (fun a => C_X7_begins a (0 : Int32) 1) fun r29 => if r29 = 0 then (C_X2_read_J37 (x + 48) (some (x + 37)) (some (x + 40))) else (C_X2_read_J44 (x + 48) (some (x + 37)) (some (x + 40)))) else (C_X2_read_J37 (x + 48) (some (x + 37)) (some (x + 40))) := ⟨_, rfl⟩
  have e1 : C_X2_read (x + 48) (some (x + 37)) (some (x + 40)) 0 h = (bd (C_X5_row (x + 37) 1) Kr) h := by
    rw [hKr]
    unfold C_X2_read C_X5_expect
    rw [e_Cv T.rd, if_pos rfl, e_bd (show rt () h = some ((), h) from rfl), e_Cv T.rd]
  unfold R_connect
  rw [Sim_l (bd_l e1), bd_assoc, bd_assoc]
  refine Sim.seq (sim_str D T) (fun v h1 _ r1 y => ?_)
  obtain ⟨⟨p', y1, y2, y3, y4⟩, _⟩ := y
  have T1 := y1.st T
  have hp0 := D.2.2.1.2.2.2.2.2
  have s1 : Sg x p' p' h h1 r r1 := y1.sg.le (by omega) (by omega)
  rcases y4 with ⟨g1, g2, g3, g4, g5, g6, g7, D1⟩ | ⟨g1, D1⟩
  · have hp1 := D1.2.2.1.2.2.2.1
    obtain ⟨ys, hys⟩ : ∃ z, z = sl bs (p + 2) (b2 bs p) := ⟨_, rfl⟩
    have yl : ys.length = b2 bs p := by rw [hys]; exact sl_len (by omega)
    rw [← hys] at g5
    have h6 : Mg (r1.2.1 6) (410 * i + (p + 2)) ys := by rw [hys]; exact D1.2.1.2.2.2.slc (by omega)
    have z79 : r1.1 79 = 0 := D1.2.1.2.2.1
    rw [Sim_r (bd_l (m_pname z79 g6 (by rw [g7, yl]) h6 g5.2.2.1 (by omega)))]
    have e2 : Kr v h1 = (if ys = mqtt then C_X2_read_J44 (x + 48) (some (x + 37)) (some (x + 40)) else C_X2_read_J37 (x + 48) (some (x + 37)) (some (x + 40))) h1 := by
      rw [hKr, g1]
      show (hCv 9 (some (hnx h)) (fun a => C_X7_count a) fun r27 => sLn 1 fun v28 => if r27 = v28 then (hCv 9 (some (hnx h)) (fun a => C_X7_begins a (0 : Int32) 1) fun r29 => if r29 = 0 then (C_X2_read_J37 (x + 48) (some (x + 37)) (some (x + 40))) else (C_X2_read_J44 (x + 48) (some (x + 37)) (some (x + 40)))) else (C_X2_read_J37 (x + 48) (some (x + 37)) (some (x + 40)))) h1 = _
      rw [e_Cv (c := 9) g5.1, e_bd (qc_count g5)]
      rw [e_sLn]
      by_cases z4 : ys.length = 4
      · rw [if_pos (show nn ys.length = nn (slen 1) by rw [z4]; rfl), e_Cv (c := 9) g5.1]
        rcases qc_begins (S := mqtt) (j := 1) (p := 0) g5 (by omega) (by omega) rfl (by decide) (by unfold By; decide) (by decide) with ⟨w1, w2⟩ | ⟨w1, w2⟩
        · have ey : ys = mqtt := by
            apply List.ext_getElem (by rw [z4]; rfl)
            intro k k1 k2
            have := (w1 k k2).2
            rw [Nat.zero_add] at this
            rw [List.getD_eq_getElem?_getD, List.getD_eq_getElem?_getD, List.getElem?_eq_getElem k1, List.getElem?_eq_getElem k2] at this
            exact this
          rw [e_bd (show C_X7_begins (hnx h) 0 1 h1 = some (1, h1) from w2), if_neg (show ¬ (1 : Int32) = 0 by decide), if_pos ey]
        · have ey : ys ≠ mqtt := fun w => w1 (fun k hk => by
            rw [w, Nat.zero_add]
            exact ⟨hk, rfl⟩)
          rw [e_bd (show C_X7_begins (hnx h) 0 1 h1 = some (0, h1) from w2), if_pos rfl, if_neg ey]
      · rw [if_neg (show ¬ nn ys.length = nn (slen 1) from fun w => z4 (nn_inj (b := 4) (by omega) (by omega) w)), if_neg (fun w => z4 (by rw [w]; rfl))]
    rw [Sim_l (bd_l e2)]
    by_cases ey : ys = mqtt
    · rw [if_pos ey, if_pos ey]
      have y4 : ys.length = 4 := by rw [ey]; rfl
      exact gr44 (ok (by omega)) no T1 s1 D1 (by omega)
    · rw [if_neg ey, if_neg ey]
      have D2 := D1.fl (v := 132) (by omega) (by omega)
      have sf : Sc x 0 0 h1 (sfi h1 704 (x + 37) (nn 132)) r1 (sI r1 79 (nn 132)) := Sc.fl
      have T2 := sf.st T1
      have e3 : C_X2_read_J37 (x + 48) (some (x + 37)) (some (x + 40)) h1 = C_X2_read_J44 (x + 48) (some (x + 37)) (some (x + 40)) (sfi h1 704 (x + 37) (nn 132)) := by
        unfold C_X2_read_J37
        rw [e_Cv T1.rd, e_bd (qc_fail T1 D1.1.2.2.1)]
        rfl
      have m3 : R_connect_J81 r1 = R_connect_J88 (sI r1 79 (nn 132)) := by
        unfold R_connect_J81
        rw [e_bd (qm_fails z79)]
        rfl
      rw [Sim_l (bd_l e3), Sim_r (bd_l m3)]
      exact gr_no no (by omega) D2 (s1.tr sf.sg) (by omega) (by omega) (g44_f T2 (D2.fa (by omega))) (mc88_f (f := 132) D2.2.1.2.2.1 (by omega) (by omega))
  · have F := D1.fa (by omega)
    have hp1 := D1.2.2.1.2.2.2.1
    obtain ⟨h2, e2, s2, F2⟩ := g37_f (r := r1) T1 F
    have e3 : Kr v h1 = some ((), h2) := by
      rw [hKr, g1]
      show (hCv 9 (some (x + 38)) (fun a => C_X7_count a) fun r27 => sLn 1 fun v28 => if r27 = v28 then (hCv 9 (some (x + 38)) (fun a => C_X7_begins a (0 : Int32) 1) fun r29 => if r29 = 0 then (C_X2_read_J37 (x + 48) (some (x + 37)) (some (x + 40))) else (C_X2_read_J44 (x + 48) (some (x + 37)) (some (x + 40)))) else (C_X2_read_J37 (x + 48) (some (x + 37)) (some (x + 40)))) h1 = _
      rw [e_Cv (c := 9) T1.nil.1, e_bd (qc_count T1.nil)]
      rw [e_sLn, if_neg (show ¬ nn ([] : List Nat).length = nn (slen 1) by decide)]
      exact e2
    refine gr_no no (by omega) D1 s1 (by omega) (by omega) ⟨h2, e3, s2, F2⟩ ?_
    rw [x_rI, D1.2.1.2.2.1, if_neg (by decide)]
    exact mc88_f D1.2.1.2.2.1 (by omega) (by omega)
end GRT
