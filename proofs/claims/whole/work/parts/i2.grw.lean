/-! ===== CONNECT: the greeting, read by both: will, name, properties, flags ===== -/
section GRW
variable {x i p L f n s b M k fl ka oi ni q : Nat} {e0 : Int32} {h h' h0 : Hp} {r r' r0 : RS} {bs U : List Nat} {l6 l9 : Int64} {l8 l3 l4 l11 l12 : Int32}
variable {α β : Type} {Kc : Hp → Option (α × Hp)} {Km : RS → Option (β × RS)} {Φ : α → Hp → β → RS → Prop}
theorem mask_wil : ∀ k, (274894684942 : Nat).testBit k = true → k ∈ K0 := mask_ok (by omega) (by decide +kernel)
theorem mask_con : ∀ k, (850451890176 : Nat).testBit k = true → k ∈ K0 := mask_ok (by omega) (by decide +kernel)
theorem bit_wil : ((((((lshl6 (1 : Int64) (1 : Int32) ||| lshl6 (1 : Int64) (2 : Int32)) ||| lshl6 (1 : Int64) (3 : Int32)) ||| lshl6 (1 : Int64) (8 : Int32)) ||| lshl6 (1 : Int64) (9 : Int32)) ||| lshl6 (1 : Int64) (24 : Int32)) ||| lshl6 (1 : Int64) (38 : Int32)) = n6 274894684942 := by decide +kernel
theorem bit_con : ((((((((lshl6 (1 : Int64) (17 : Int32) ||| lshl6 (1 : Int64) (21 : Int32)) ||| lshl6 (1 : Int64) (22 : Int32)) ||| lshl6 (1 : Int64) (23 : Int32)) ||| lshl6 (1 : Int64) (25 : Int32)) ||| lshl6 (1 : Int64) (33 : Int32)) ||| lshl6 (1 : Int64) (34 : Int32)) ||| lshl6 (1 : Int64) (38 : Int32)) ||| lshl6 (1 : Int64) (39 : Int32)) = n6 850451890176 := by decide +kernel
theorem fl_38 : ∀ fl, fl < 256 → ((nn fl >>> ((3 : Int32) &&& 31)) &&& (3 : Int32)) = nn (fl / 8 % 4) := by decide +kernel
theorem fl_32 : ∀ fl, fl < 256 → ((nn fl &&& (32 : Int32)) = 0 ↔ fl / 32 % 2 = 0) := by decide +kernel
theorem fl_4 : ∀ fl, fl < 256 → ((nn fl &&& (4 : Int32)) = 0 ↔ fl / 4 % 2 = 0) := by decide +kernel
theorem fl_2 : ∀ fl, fl < 256 → ((nn fl &&& (2 : Int32)) = 0 ↔ fl / 2 % 2 = 0) := by decide +kernel
/-- no will's reading changed anything: what a fault leaves -/
theorem gr_f {c' e' : Nat} {Pc : Hp → Option (Unit × Hp)} {Pm' : RS → Option (Unit × RS)} {a : Nat} {ys : List Nat} (N : GrNo x (bs.length + 7) (bs.length + 420) h0 r0 Kc Km Φ) (hf : f ≠ 0) (D : Rd x i bs p L f h r) (s : Sg x c' e' h0 h r0 r) (l1 : c' ≤ bs.length + 7) (l2 : e' ≤ bs.length + 420) (T : Stat x h) (ha : hfr h 400 (x + 48) = some a) (W : Rw x h a ys) (hc : ∃ h', Pc h = some ((), h') ∧ Fm x [407] (fun _ => False) h h' ∧ hcs h' = hcs h ∧ Fa x f h') (hm : Pm' r = some ((), r)) {l5 l6' : Int32} : Sim (bd Pc fun _ => bd (C_X2_read_J221 (x + 48) (some (x + 37)) l5 l6') fun _ => Kc) h (bd Pm' fun _ => Km) r Φ := by
  obtain ⟨h1, e1, F1, c1, Fa1⟩ := hc
  have T1 := T.sto F1.1
  have hx := T.1
  have a1 : hfr h1 400 (x + 48) = some a := by rw [F1.gr (by decide) (by omega)]; exact ha
  have e2 : (bd Pc fun _ => C_X2_read_J221 (x + 48) (some (x + 37)) l5 l6') h = some ((), h1) := by
    rw [e_bd e1]
    exact g221_f T1 Fa1 a1 (W.stp F1.1)
  rw [← bd_assoc]
  exact gr_no N hf D s l1 l2 ⟨h1, e2, ⟨F1.sub (by decide) (fun _ z => z.elim), Ro.rf, by rw [c1]; omega, by rw [c1]; omega⟩, Fa1⟩ hm
/-- a will's payload, and its message -/
theorem grW46 {ot nt tA : Nat} (ok : GrOk x i bs h0 r0 Kc Km Φ fl) (no : GrNo x (bs.length + 7) (bs.length + 420) h0 r0 Kc Km Φ) (T : Stat x h) (s : Sg x p p h0 h r0 r) (D : Rd x i bs p bs.length 0 h r) (G : GrD x bs h fl ka oi ni l6 l8 l9) (hfb : fl < 256) (hq : fl / 8 % 4 ≤ 2) (P : Pp x i bs M U h r) (hsum : Tot x h M + U.length + (bs.length - p) ≤ 400) (hd14 : ot + nt ≤ bs.length) (nt1 : 1 ≤ nt) (nt2 : nt ≤ 64) (Wt : Rw x h tA (sl bs ot nt)) (h407 : hfl h 407 (x + 48) = (if M.testBit 24 = true then r.2.2 83 24 else 0)) (hM24 : M.testBit 24 = true → ∃ n, n ≤ 4294967295 ∧ r.2.2 83 24 = n6 n) :
    Sim (bd (C_X2_readWill_J46 (x + 48) (some (x + 37)) (some (x + 40)) (nn fl) (some tA)) fun _ => bd (C_X2_read_J221 (x + 48) (some (x + 37)) (nn fl) l11) fun _ => Kc) h (bd (R_connect_J598 (nn fl) 1 (nn (fl / 8 % 4)) (nn ka) l6 l8 l9 l11 (nn (410 * i + oi)) (nn ni) (nn (410 * i + ot)) (nn nt)) fun _ => Km) r Φ := by
  have hx := T.1
  have hi := D.2.2.1.1
  have hbl := D.2.2.1.2.2.1
  have z79 : r.1 79 = 0 := D.2.1.2.2.1
  have e1 : C_X2_readWill_J46 (x + 48) (some (x + 37)) (some (x + 40)) (nn fl) (some tA) h = (bd (C_X5_row (x + 37) 0) fun r2 => hgI 7 4 (some (x + 37)) fun v3 => if v3 = 0 then (if (nn fl &&& (32 : Int32)) = 0 then (C_X2_readWill_J83 (x + 48) (some (x + 48)) (some (x + 40)) (some tA) r2 ((nn fl >>> ((3 : Int32) &&& 31)) &&& (3 : Int32)) (0 : Int32)) else (C_X2_readWill_J83 (x + 48) (some (x + 48)) (some (x + 40)) (some tA) r2 ((nn fl >>> ((3 : Int32) &&& 31)) &&& (3 : Int32)) (1 : Int32))) else (rt ())) h := by
    unfold C_X2_readWill_J46
    rw [e_Cv T.rd]
  have m1 : R_connect_J598 (nn fl) 1 (nn (fl / 8 % 4)) (nn ka) l6 l8 l9 l11 (nn (410 * i + oi)) (nn ni) (nn (410 * i + ot)) (nn nt) r = (bd R_row fun _ => R_connect_J609 (nn fl) 1 (nn (fl / 8 % 4)) (nn ka) l6 l8 l9 l11 (nn (410 * i + oi)) (nn ni) (nn (410 * i + ot)) (nn nt)) r := by
    unfold R_connect_J598
    rw [x_rI, z79, if_pos rfl]
  rw [Sim_l (bd_l e1), Sim_r (bd_l m1), bd_assoc, bd_assoc]
  refine Sim.seq (sim_row D T) (fun v h1 _ r1 y => ?_)
  obtain ⟨p', y1, y2, y3, y4⟩ := y
  have T1 := y1.st T
  have G1 := G.fm T y1.1 (by decide)
  have s1 := (s.tr y1.sg).le (show p + (p' - p) ≤ p' by omega) (show p + (p' - p) ≤ p' by omega)
  obtain ⟨P1, t1⟩ := P.fm T y1.1 y1.2.1 (by decide) (fun _ _ _ z => z) (by decide)
  rcases y4 with ⟨g1, g2, g3, g4, g5, g6, g7, D1⟩ | ⟨g1, D1⟩
  · have hp1 := D1.2.2.1.2.2.2.1
    have e704 : hfi h1 (100 * 7 + 4) (x + 37) = 0 := D1.1.2.2.1
    obtain ⟨rn, hrn⟩ : ∃ z, z = fl / 32 % 2 := ⟨_, rfl⟩
    have hrn1 : rn ≤ 1 := by omega
    obtain ⟨h2, e2, C2, N2, K2⟩ := qc_message (q := fl / 8 % 4) (rn := rn) (tA := tA) (pA := hnx h) (TP := sl bs ot nt) (PL := sl bs (p + 2) (b2 bs p)) T1 P1 hi D1.by D1.1.2.2.2 hbl (Wt.stp y1.1.1) g5 hrn1 (by rw [t1]; omega)
    have ec : (hgI 7 4 (some (x + 37)) fun v3 => if v3 = 0 then (if (nn fl &&& (32 : Int32)) = 0 then (C_X2_readWill_J83 (x + 48) (some (x + 48)) (some (x + 40)) (some tA) v ((nn fl >>> ((3 : Int32) &&& 31)) &&& (3 : Int32)) (0 : Int32)) else (C_X2_readWill_J83 (x + 48) (some (x + 48)) (some (x + 40)) (some tA) v ((nn fl >>> ((3 : Int32) &&& 31)) &&& (3 : Int32)) (1 : Int32))) else (rt ())) h1 = some ((), sfr h2 406 (x + 48) (some (hnx h1))) := by
      have j83 : C_X2_readWill_J83 (x + 48) (some (x + 48)) (some (x + 40)) (some tA) v (nn (fl / 8 % 4)) (nn rn) h1 = some ((), sfr h2 406 (x + 48) (some (hnx h1))) := by
        unfold C_X2_readWill_J83
        rw [e_Cv T1.pr, g1, e_bd e2, e_pR (T1.sto N2.1.1).gr.2]
        rfl
      rw [e_gI T1.rd, e704, if_pos rfl, fl_38 fl hfb]
      by_cases z : fl / 32 % 2 = 0
      · rw [if_pos ((fl_32 fl hfb).mpr z)]
        rw [hrn, z] at j83
        exact j83
      · rw [if_neg (fun y => z ((fl_32 fl hfb).mp y))]
        rw [hrn, show fl / 32 % 2 = 1 by omega] at j83
        exact j83
    have m2 : R_connect_J609 (nn fl) 1 (nn (fl / 8 % 4)) (nn ka) l6 l8 l9 l11 (nn (410 * i + oi)) (nn ni) (nn (410 * i + ot)) (nn nt) r1 = R_connect_J621 (nn fl) 1 (nn (fl / 8 % 4)) (nn ka) l6 l8 l9 l11 (nn (410 * i + oi)) (nn ni) (nn (410 * i + ot)) (nn nt) (nn (410 * i + (p + 2))) (nn (b2 bs p)) r1 := by
      unfold R_connect_J609
      rw [x_rI, x_rI, g6, g7]
    rw [Sim_l (e_bd ec), Sim_r (bd_l m2)]
    have F2 : Fm x [406] (fun _ => False) h1 (sfr h2 406 (x + 48) (some (hnx h1))) := Fm.fr (N2.1.sub (by decide) (fun _ z => z)) (Or.inl (by decide)) (Or.inl (by decide))
    have F3 : Fm x [406] (fun _ => False) h2 (sfr h2 406 (x + 48) (some (hnx h1))) := Fm.fr Fm.rf (Or.inl (by decide)) (Or.inl (by decide))
    have T3 := T1.sto F2.1
    have D3 : Rd x i bs p' bs.length 0 (sfr h2 406 (x + 48) (some (hnx h1))) r1 := D1.fm T1 F2 (Ro.rf (S := [])) (by decide) (fun z => z) (by decide)
    have G3 := G1.fm T1 F2 (by decide)
    obtain ⟨P3, t3⟩ := P1.fm T1 F2 (Ro.rf (S := [])) (by decide) (fun _ _ _ z => z) (by decide)
    have hUl : U.length < 400 := P.2.2.1.2.2.1
    have s3 : Sg x (p' + 7) (p' + 60 * 7) h0 (sfr h2 406 (x + 48) (some (hnx h1))) r0 r1 := by
      refine (s1.tr (show Sg x 7 420 h1 (sfr h2 406 (x + 48) (some (hnx h1))) r1 r1 from ⟨F2.sub (by decide) (fun _ z => z.elim), Ro.rf, ?_, ?_⟩)).le (by omega) (by omega)
      · show (hcs h2).1 ≤ _
        exact Nat.le_of_eq N2.2.2.1
      · show (hcs h2).2 ≤ _
        rw [N2.2.2.2, t1]
        omega
    refine gr221 (d := 7) (by omega) ok no T3 s3 D3 (show hkd h2 (hnx h2 - 1) ≠ 108 by rw [K2]; decide) G3 (Or.inr ⟨rfl, M, U, hnx h1, ot, nt, p + 2, b2 bs p, fl / 8 % 4, P3, rfl, rfl, rfl, rfl, rfl, hd14, by omega, nt1, nt2, by rw [t3, t1]; omega, hq, ?_, ?_, ?_, ?_, ?_⟩)
    · rw [hfr_sfr, if_pos ⟨rfl, rfl⟩]
    · exact s1.1.1.1
    · rw [rwK.fm F2 T1 (fun z => z) (fun z => z), rwK.fm F2 T1 (fun z => z) (fun z => z), rwK.fm F2 T1 (fun z => z) (fun z => z), rwK.fm F2 T1 (fun z => z) (fun z => z), ← hrn]
      exact C2.sto F3.1
    · have hx1 := T1.1
      rw [F2.gl (by decide) (by omega), y1.1.gl (by decide) (by omega), y1.2.1.gL (by decide)]
      exact h407
    · rw [y1.2.1.gL (by decide)]
      exact hM24
  · have e704 : hfi h1 (100 * 7 + 4) (x + 37) = nn 129 := D1.1.2.2.1
    obtain ⟨⟨a, a1, a2⟩, _⟩ := id G1
    have hp1 := D1.2.2.1.2.2.2.1
    refine gr_f no (by omega) D1 s1 (by omega) (by omega) T1 a1 a2 ⟨h1, ?_, Fm.rf, rfl, D1.fa (by omega)⟩ ?_
    · rw [e_gI T1.rd, e704, if_neg (by decide)]
      rfl
    · unfold R_connect_J609
      rw [x_rI, x_rI]
      exact mc621_f D1.2.1.2.2.1 (by omega) (by omega)
/-- a will's topic -/
theorem grW3 (ok : GrOk x i bs h0 r0 Kc Km Φ fl) (no : GrNo x (bs.length + 7) (bs.length + 420) h0 r0 Kc Km Φ) (T : Stat x h) (s : Sg x p p h0 h r0 r) (D : Rd x i bs p bs.length 0 h r) (G : GrD x bs h fl ka oi ni l6 l8 l9) (hfb : fl < 256) (hq : fl / 8 % 4 ≤ 2) (P : Pp x i bs M U h r) (hsum : Tot x h M + U.length + (bs.length - p) ≤ 400) (h407 : hfl h 407 (x + 48) = (if M.testBit 24 = true then r.2.2 83 24 else 0)) (hM24 : M.testBit 24 = true → ∃ n, n ≤ 4294967295 ∧ r.2.2 83 24 = n6 n) :
    Sim (bd (wR3 x (nn fl)) fun _ => bd (C_X2_read_J221 (x + 48) (some (x + 37)) (nn fl) l11) fun _ => Kc) h (bd (R_connect_J547 (nn fl) 1 (nn (fl / 8 % 4)) (nn ka) l6 l8 l9 l11 (nn (410 * i + oi)) (nn ni)) fun _ => Km) r Φ := by
  have hx := T.1
  have hi := D.2.2.1.1
  have hbl := D.2.2.1.2.2.1
  have z79 : r.1 79 = 0 := D.2.1.2.2.1
  have e1 : wR3 x (nn fl) h = (bd (C_X5_row (x + 37) 1) fun r7 => hCv 9 r7 (fun a => C_X7_isTopic a) fun r8 => if r8 = 0 then (hCv 7 (some (x + 37)) (fun a => C_X5_fail a (144 : Int32)) fun _ => C_X2_readWill_J46 (x + 48) (some (x + 37)) (some (x + 40)) (nn fl) r7) else (C_X2_readWill_J46 (x + 48) (some (x + 37)) (some (x + 40)) (nn fl) r7)) h := by
    unfold wR3
    rw [e_Cv T.rd]
  have m1 : R_connect_J547 (nn fl) 1 (nn (fl / 8 % 4)) (nn ka) l6 l8 l9 l11 (nn (410 * i + oi)) (nn ni) r = (bd R_string fun _ => R_connect_J558 (nn fl) 1 (nn (fl / 8 % 4)) (nn ka) l6 l8 l9 l11 (nn (410 * i + oi)) (nn ni)) r := by
    unfold R_connect_J547
    rw [x_rI, z79, if_pos rfl]
  rw [Sim_l (bd_l e1), Sim_r (bd_l m1), bd_assoc, bd_assoc]
  refine Sim.seq (sim_str D T) (fun v h1 _ r1 y => ?_)
  obtain ⟨⟨p', y1, y2, y3, y4⟩, _⟩ := y
  have T1 := y1.st T
  have G1 := G.fm T y1.1 (by decide)
  have s1 := (s.tr y1.sg).le (show p + (p' - p) ≤ p' by omega) (show p + (p' - p) ≤ p' by omega)
  obtain ⟨P1, t1⟩ := P.fm T y1.1 y1.2.1 (by decide) (fun _ _ _ z => z) (by decide)
  have h4071 : hfl h1 407 (x + 48) = (if M.testBit 24 = true then r1.2.2 83 24 else 0) := by
    rw [y1.1.gl (by decide) (by omega), y1.2.1.gL (by decide)]
    exact h407
  have hM241 : M.testBit 24 = true → ∃ n, n ≤ 4294967295 ∧ r1.2.2 83 24 = n6 n := by
    rw [y1.2.1.gL (by decide)]
    exact hM24
  rcases y4 with ⟨g1, g2, g3, g4, g5, g6, g7, D1⟩ | ⟨g1, D1⟩
  · have hp1 := D1.2.2.1.2.2.2.1
    have z791 : r1.1 79 = 0 := D1.2.1.2.2.1
    have ll : (sl bs (p + 2) (b2 bs p)).length = b2 bs p := sl_len (by omega)
    have h6 : Mg (r1.2.1 6) (410 * i + (p + 2)) (sl bs (p + 2) (b2 bs p)) := D1.2.1.2.2.2.slc (by omega)
    have et := qc_isTopic g5 (by omega)
    have mt := qm_isTopic (r := r1) h6 g5.2.2.1 (by omega) (by omega)
    rw [ll] at mt
    have m2 : R_connect_J558 (nn fl) 1 (nn (fl / 8 % 4)) (nn ka) l6 l8 l9 l11 (nn (410 * i + oi)) (nn ni) r1 = (if (if tpc (sl bs (p + 2) (b2 bs p)) = true then (1 : Int32) else 0) = 0 then (bd (R_fails (144 : Int32)) fun _ => R_connect_J598 (nn fl) 1 (nn (fl / 8 % 4)) (nn ka) l6 l8 l9 l11 (nn (410 * i + oi)) (nn ni) (nn (410 * i + (p + 2))) (nn (b2 bs p))) else (R_connect_J598 (nn fl) 1 (nn (fl / 8 % 4)) (nn ka) l6 l8 l9 l11 (nn (410 * i + oi)) (nn ni) (nn (410 * i + (p + 2))) (nn (b2 bs p)))) r1 := by
      unfold R_connect_J558
      rw [x_rI, x_rI, x_rI, z791, if_pos rfl, g6, g7, e_bd mt]
    have e2 : (hCv 9 v (fun a => C_X7_isTopic a) fun r8 => if r8 = 0 then (hCv 7 (some (x + 37)) (fun a => C_X5_fail a (144 : Int32)) fun _ => C_X2_readWill_J46 (x + 48) (some (x + 37)) (some (x + 40)) (nn fl) v) else (C_X2_readWill_J46 (x + 48) (some (x + 37)) (some (x + 40)) (nn fl) v)) h1 = (if (if tpc (sl bs (p + 2) (b2 bs p)) = true then (1 : Int32) else 0) = 0 then (hCv 7 (some (x + 37)) (fun a => C_X5_fail a (144 : Int32)) fun _ => C_X2_readWill_J46 (x + 48) (some (x + 37)) (some (x + 40)) (nn fl) v) else (C_X2_readWill_J46 (x + 48) (some (x + 37)) (some (x + 40)) (nn fl) v)) h1 := by
      rw [g1, e_Cv (c := 9) g5.1, e_bd et]
    rw [Sim_l (bd_l e2), Sim_r (bd_l m2)]
    by_cases gt : tpc (sl bs (p + 2) (b2 bs p)) = true
    · have tl := tpc_len gt
      rw [if_pos gt, if_neg (show ¬ (1 : Int32) = 0 by decide), if_neg (show ¬ (1 : Int32) = 0 by decide), g1]
      exact grW46 ok no T1 s1 D1 G1 hfb hq P1 (by rw [t1]; omega) (by omega) (by omega) (by omega) g5 h4071 hM241
    · have D2 := D1.fl (v := 144) (by omega) (by omega)
      have sf : Sc x 0 0 h1 (sfi h1 704 (x + 37) (nn 144)) r1 (sI r1 79 (nn 144)) := Sc.fl
      have s2 := s1.tr sf.sg
      have T2 := sf.st T1
      obtain ⟨⟨a, a1, a2⟩, _⟩ := G1.fm T1 sf.1 (by decide)
      rw [if_neg gt, if_pos rfl, if_pos rfl]
      have e3 : (hCv 7 (some (x + 37)) (fun a => C_X5_fail a (144 : Int32)) fun _ => C_X2_readWill_J46 (x + 48) (some (x + 37)) (some (x + 40)) (nn fl) v) h1 = C_X2_readWill_J46 (x + 48) (some (x + 37)) (some (x + 40)) (nn fl) v (sfi h1 704 (x + 37) (nn 144)) := by
        rw [e_Cv T1.rd, e_bd (qc_fail T1 D1.1.2.2.1)]
        rfl
      have m3 : (bd (R_fails (144 : Int32)) fun _ => R_connect_J598 (nn fl) 1 (nn (fl / 8 % 4)) (nn ka) l6 l8 l9 l11 (nn (410 * i + oi)) (nn ni) (nn (410 * i + (p + 2))) (nn (b2 bs p))) r1 = R_connect_J598 (nn fl) 1 (nn (fl / 8 % 4)) (nn ka) l6 l8 l9 l11 (nn (410 * i + oi)) (nn ni) (nn (410 * i + (p + 2))) (nn (b2 bs p)) (sI r1 79 (nn 144)) := by
        rw [e_bd (qm_fails z791)]
        rfl
      rw [Sim_l (bd_l e3), Sim_r (bd_l m3)]
      exact gr_f no (by omega) D2 s2 (by omega) (by omega) T2 a1 a2 ⟨_, gWJ_f T2 (D2.fa (by omega)), Fm.rf, rfl, D2.fa (by omega)⟩ (mc598_f (f := 144) D2.2.1.2.2.1 (by omega) (by omega))
  · have hp1 := D1.2.2.1.2.2.2.1
    obtain ⟨⟨a, a1, a2⟩, _⟩ := id G1
    have F := D1.fa (by omega)
    refine gr_f no (by omega) D1 s1 (by omega) (by omega) T1 a1 a2 ⟨h1, ?_, Fm.rf, rfl, F⟩ ?_
    · rw [g1, e_Cv (c := 9) T1.nil.1, e_bd (qc_isTopic T1.nil (by decide)), if_pos (show (if tpc [] = true then (1 : Int32) else 0) = 0 by decide), e_Cv T1.rd, e_bd (qc_fail_f T1 F), gWJ_f T1 F]
    · unfold R_connect_J558
      rw [x_rI, x_rI, x_rI, D1.2.1.2.2.1, if_neg (by decide)]
      exact mc598_f D1.2.1.2.2.1 (by omega) (by omega)
/-- a will -/
theorem grWill (ok : GrOk x i bs h0 r0 Kc Km Φ fl) (no : GrNo x (bs.length + 7) (bs.length + 420) h0 r0 Kc Km Φ) (T : Stat x h) (s : Sg x p p h0 h r0 r) (D : Rd x i bs p bs.length 0 h r) (hl : bs.length < p + 400) (G : GrD x bs h fl ka oi ni l6 l8 l9) (hfb : fl < 256) (hq : fl / 8 % 4 ≤ 2) :
    Sim (bd (C_X2_readWill (x + 48) (some (x + 37)) (some (x + 40)) (nn fl)) fun _ => bd (C_X2_read_J221 (x + 48) (some (x + 37)) (nn fl) l11) fun _ => Kc) h (bd (bd (R_properties (n6 274894684942)) fun _ => mRsp (R_connect_J547 (nn fl) 1 (nn (fl / 8 % 4)) (nn ka) l6 l8 l9 l11 (nn (410 * i + oi)) (nn ni))) fun _ => Km) r Φ := by
  have hx := T.1
  have hi := D.2.2.1.1
  have hbl := D.2.2.1.2.2.1
  have e1 : C_X2_readWill (x + 48) (some (x + 37)) (some (x + 40)) (nn fl) h = (bd (C_X4_read (x + 40) (some (x + 37)) (n6 274894684942)) fun _ => wR1 x (nn fl)) h := by
    unfold C_X2_readWill
    rw [e_Cv T.pr]
    rfl
  rw [Sim_l (bd_l e1), bd_assoc, bd_assoc]
  refine Sim.seq (sim_props (A := 274894684942) (by omega) mask_wil D T hl) (fun _ h1 _ r1 z => ?_)
  obtain ⟨p', y1, y2, y3, y4⟩ := z
  have s1 : Sg x p' p' h0 h1 r0 r1 := (s.tr y3.sg).le (by omega) (by omega)
  have T1 := y3.st T
  have G1 := G.fm T y3.1 (by decide)
  obtain ⟨⟨a, a1, a2⟩, _⟩ := id G1
  rcases y4 with ⟨M, U, D1, P1, hMA, hTU⟩ | ⟨f, hf, D1, X1⟩
  · rcases resp_or (β := Unit) D1 P1 T1 with ⟨b1, b2⟩ | ⟨b1, b2⟩
    · have e2 : wR1 x (nn fl) h1 = wR2 x (nn fl) h1 := by
        unfold wR1
        rw [e_Cv T1.pr, e_bd b1]
      obtain ⟨c1, c2⟩ := qc_get (k := 24) (v := 0) T1 P1 (by decide) (by decide) (by decide)
      obtain ⟨v, hv⟩ : ∃ z, z = if M.testBit 24 = true then r1.2.2 83 24 else 0 := ⟨_, rfl⟩
      rw [← hv] at c1
      have e3 : wR2 x (nn fl) h1 = wR3 x (nn fl) (sfl h1 407 (x + 48) v) := by
        unfold wR2
        rw [e_Cv T1.pr, show (24 : Int32) = nn 24 from rfl, e_bd c1, e_pL T1.gr.2]
      have F2 : Fm x [407] (fun _ => False) h1 (sfl h1 407 (x + 48) v) := Fm.fl Fm.rf (Or.inl (by decide)) (Or.inl (by decide))
      have s2 : Sg x p' p' h0 (sfl h1 407 (x + 48) v) r0 r1 := (s1.tr (show Sg x 0 0 h1 (sfl h1 407 (x + 48) v) r1 r1 from ⟨F2.sub (by decide) (fun _ z => z.elim), Ro.rf, Nat.le_refl _, Nat.le_refl _⟩)).le (by omega) (by omega)
      have T2 := T1.sto F2.1
      have D2 : Rd x i bs p' bs.length 0 (sfl h1 407 (x + 48) v) r1 := D1.fm T1 F2 (Ro.rf (S := [])) (by decide) (fun z => z) (by decide)
      obtain ⟨P2, t2⟩ := P1.fm T1 F2 (Ro.rf (S := [])) (by decide) (fun _ _ _ z => z) (by decide)
      rw [Sim_l (bd_l (e2.trans e3)), Sim_r (bd_l (b2 _))]
      refine grW3 ok no T2 s2 D2 (G1.fm T1 F2 (by decide)) hfb hq P2 (by rw [t2]; omega) ?_ (fun z => ?_)
      · rw [hfl_sfl, if_pos ⟨rfl, rfl⟩, hv]
      · exact c2 z
    · have D2 := D1.fl (v := 130) (by omega) (by omega)
      have sf : Sc x 0 0 h1 (sfi h1 704 (x + 37) (nn 130)) r1 (sI r1 79 (nn 130)) := Sc.fl
      have s2 := s1.tr sf.sg
      have T2 := sf.st T1
      obtain ⟨⟨a', a1', a2'⟩, _⟩ := G1.fm T1 sf.1 (by decide)
      have e2 : wR1 x (nn fl) h1 = wR2 x (nn fl) (sfi h1 704 (x + 37) (nn 130)) := by
        unfold wR1
        rw [e_Cv T1.pr, e_bd b1]
      rw [Sim_l (bd_l e2), Sim_r (bd_l (b2 _))]
      exact gr_f no (by omega) D2 s2 (by omega) (by omega) T2 a1' a2' (wR2_f ⟨T2, D2.fa (by omega), M, P1.1.2.1, P1.1.1⟩) (mc547_f (f := 130) D2.2.1.2.2.1 (by omega) (by omega))
  · have hf2 := D1.2.2.1.2.2.2.2.1
    rw [Sim_r (bd_l (mRsp_f _ D1.2.1.2.2.1 hf hf2.1))]
    exact gr_f no hf D1 s1 (by omega) (by omega) T1 a1 a2 (wR1_f ⟨T1, D1.fa hf, X1.1⟩ X1) (mc547_f D1.2.1.2.2.1 hf hf2.1)
end GRW
