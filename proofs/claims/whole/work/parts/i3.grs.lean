/-! ===== CONNECT: the greeting, read by both: whole ===== -/
section GRS
variable {x i p L f n s b M k fl ka oi ni q ps : Nat} {e0 : Int32} {h h' h0 : Hp} {r r' r0 : RS} {bs U : List Nat} {l6 l9 : Int64} {l8 l3 l4 l11 l12 s1 : Int32}
variable {α β : Type} {Kc : Hp → Option (α × Hp)} {Km : RS → Option (β × RS)} {Φ : α → Hp → β → RS → Prop}
theorem bd_bit {γ : Type} {k : Int32} {f : Int64 → RS → Option (γ × RS)} : bd (R_bit k) f = f (lshl6 (1 : Int64) k) := rfl
/-- the client's name; then its will, if it has one -/
theorem gr187 (ok : GrOk x i bs h0 r0 Kc Km Φ fl) (no : GrNo x (bs.length + 7) (bs.length + 420) h0 r0 Kc Km Φ) (T : Stat x h) (s : Sg x p p h0 h r0 r) (D : Rd x i bs p bs.length 0 h r) (hl : bs.length < p + 400) (G : GrE x h fl ka l6 l8 l9) (hfb : fl < 256) (hq : fl / 8 % 4 ≤ 2) (h21 : r.2.1 82 21 = l11) :
    Sim (bd (C_X2_read_J187 (x + 48) (some (x + 37)) (some (x + 40)) (nn fl) l11) fun _ => Kc) h (bd (R_connect_J407 (nn fl) (if fl / 4 % 2 = 0 then 0 else 1) (nn (fl / 8 % 4)) (nn ka) l6 l8 l9) fun _ => Km) r Φ := by
  have hx := T.1
  have hi := D.2.2.1.1
  have hbl := D.2.2.1.2.2.1
  obtain ⟨Kr, hKr⟩ : ∃ z : Option Nat → Hp → Option (Unit × Hp), z = fun r8 => hpR 4 0 (some (x + 48)) r8 <| hpR 4 6 (some (x + 48)) none <| hpL 4 7 (some (x + 48)) (0 : Int64) <| if (nn fl &&& (4 : Int32)) = 0 then (C_X2_read_J221 (x + 48) (some (x + 37)) (nn fl) l11) else (hCv 4 (some (x + 48)) (fun a => C_X2_readWill a (some (x + 37)) (some (x + 40)) (nn fl)) fun _ => C_X2_read_J221 (x + 48) (some (x + 37)) (nn fl) l11) := ⟨_, rfl⟩
  have e1 : ∀ h, Stat x h → C_X2_read_J187 (x + 48) (some (x + 37)) (some (x + 40)) (nn fl) l11 h = (bd (C_X5_row (x + 37) 1) Kr) h := fun h T => by
    rw [hKr]
    unfold C_X2_read_J187
    rw [e_Cv T.rd]
  have m1 : R_connect_J407 (nn fl) (if fl / 4 % 2 = 0 then 0 else 1) (nn (fl / 8 % 4)) (nn ka) l6 l8 l9 r = (bd R_string fun _ => rI 80 fun v73 => rI 81 fun v74 => if (if fl / 4 % 2 = 0 then (0 : Int32) else 1) = 0 then (R_connect_J621 (nn fl) (if fl / 4 % 2 = 0 then 0 else 1) (nn (fl / 8 % 4)) (nn ka) l6 l8 l9 l11 v73 v74 (0 : Int32) (0 : Int32) (0 : Int32) (0 : Int32)) else (rI 79 fun v75 => if v75 = 0 then (bd (R_properties (n6 274894684942)) fun _ => mRsp (R_connect_J547 (nn fl) (if fl / 4 % 2 = 0 then 0 else 1) (nn (fl / 8 % 4)) (nn ka) l6 l8 l9 l11 v73 v74)) else (R_connect_J621 (nn fl) (if fl / 4 % 2 = 0 then 0 else 1) (nn (fl / 8 % 4)) (nn ka) l6 l8 l9 l11 v73 v74 (0 : Int32) (0 : Int32) (0 : Int32) (0 : Int32)))) r := by
    unfold R_connect_J407 mRsp
    rw [show (21 : Int32) = nn 21 from rfl, x_rA mL_82 (by omega) (by omega), h21]
    simp only [bd_bit, bit_wil]
  rw [Sim_l (bd_l (e1 h T)), Sim_r (bd_l m1), bd_assoc, bd_assoc]
  refine Sim.seq (sim_str D T) (fun v h1 _ r1 y => ?_)
  obtain ⟨⟨p', y1, y2, y3, y4⟩, _⟩ := y
  have T1 := y1.st T
  have s1 := (s.tr y1.sg).le (show p + (p' - p) ≤ p' by omega) (show p + (p' - p) ≤ p' by omega)
  have G1 := G.fm T y1.1 (by decide)
  rcases y4 with ⟨g1, g2, g3, g4, g5, g6, g7, D1⟩ | ⟨g1, D1⟩
  · have hp1 := D1.2.2.1.2.2.2.1
    have z791 : r1.1 79 = 0 := D1.2.1.2.2.1
    have k4 := T1.gr.2
    obtain ⟨h2, eh2⟩ : ∃ z, z = sfl (sfr (sfr h1 400 (x + 48) (some (hnx h))) 406 (x + 48) none) 407 (x + 48) 0 := ⟨_, rfl⟩
    have F2 : Fm x [400, 406, 407] (fun _ => False) h1 h2 := by
      rw [eh2]
      exact Fm.fl (Fm.fr (Fm.fr Fm.rf (Or.inl (by decide)) (Or.inl (by decide))) (Or.inl (by decide)) (Or.inl (by decide))) (Or.inl (by decide)) (Or.inl (by decide))
    have T2 := T1.sto F2.1
    have s2 : Sg x p' p' h0 h2 r0 r1 := (s1.tr (show Sg x 0 0 h1 h2 r1 r1 from ⟨F2.sub (by decide) (fun _ z => z.elim), Ro.rf, by rw [eh2]; exact Nat.le_refl _, by rw [eh2]; exact Nat.le_refl _⟩)).le (by omega) (by omega)
    have D2 : Rd x i bs p' bs.length 0 h2 r1 := D1.fm T1 F2 (Ro.rf (S := [])) (by decide) (fun z => z) (by decide)
    have a400 : hfr h2 400 (x + 48) = some (hnx h) := by
      rw [eh2]
      show hfr (sfr (sfr h1 400 (x + 48) (some (hnx h))) 406 (x + 48) none) 400 (x + 48) = _
      rw [hfr_sfr, if_neg (by omega), hfr_sfr, if_pos ⟨rfl, rfl⟩]
    have a406 : hfr h2 406 (x + 48) = none := by
      rw [eh2]
      show hfr (sfr (sfr h1 400 (x + 48) (some (hnx h))) 406 (x + 48) none) 406 (x + 48) = _
      rw [hfr_sfr, if_pos ⟨rfl, rfl⟩]
    have G2 : GrD x bs h2 fl ka (p + 2) (b2 bs p) l6 l8 l9 := ⟨⟨hnx h, a400, g5.stp F2.1⟩, by omega, G1.fm T1 F2 (by decide)⟩
    have e2 : Kr v h1 = (if (nn fl &&& (4 : Int32)) = 0 then (C_X2_read_J221 (x + 48) (some (x + 37)) (nn fl) l11) else (bd (C_X2_readWill (x + 48) (some (x + 37)) (some (x + 40)) (nn fl)) fun _ => C_X2_read_J221 (x + 48) (some (x + 37)) (nn fl) l11)) h2 := by
      rw [hKr, g1]
      show (hpR 4 0 (some (x + 48)) (some (hnx h)) <| hpR 4 6 (some (x + 48)) none <| hpL 4 7 (some (x + 48)) (0 : Int64) <| if (nn fl &&& (4 : Int32)) = 0 then (C_X2_read_J221 (x + 48) (some (x + 37)) (nn fl) l11) else (hCv 4 (some (x + 48)) (fun a => C_X2_readWill a (some (x + 37)) (some (x + 40)) (nn fl)) fun _ => C_X2_read_J221 (x + 48) (some (x + 37)) (nn fl) l11)) h1 = _
      rw [e_pR k4, e_pR (by exact k4), e_pL (by exact k4)]
      show (if (nn fl &&& (4 : Int32)) = 0 then (C_X2_read_J221 (x + 48) (some (x + 37)) (nn fl) l11) else (hCv 4 (some (x + 48)) (fun a => C_X2_readWill a (some (x + 37)) (some (x + 40)) (nn fl)) fun _ => C_X2_read_J221 (x + 48) (some (x + 37)) (nn fl) l11)) (sfl (sfr (sfr h1 400 (x + 48) (some (hnx h))) 406 (x + 48) none) 407 (x + 48) 0) = _
      rw [← eh2]
      by_cases z : (nn fl &&& (4 : Int32)) = 0
      · rw [if_pos z, if_pos z]
      · rw [if_neg z, if_neg z, e_Cv T2.gr.2]
    rw [Sim_l (bd_l e2)]
    by_cases z : fl / 4 % 2 = 0
    · rw [if_pos ((fl_4 fl hfb).mpr z)]
      have m2 : (rI 80 fun v73 => rI 81 fun v74 => if (if fl / 4 % 2 = 0 then (0 : Int32) else 1) = 0 then (R_connect_J621 (nn fl) (if fl / 4 % 2 = 0 then 0 else 1) (nn (fl / 8 % 4)) (nn ka) l6 l8 l9 l11 v73 v74 (0 : Int32) (0 : Int32) (0 : Int32) (0 : Int32)) else (rI 79 fun v75 => if v75 = 0 then (bd (R_properties (n6 274894684942)) fun _ => mRsp (R_connect_J547 (nn fl) (if fl / 4 % 2 = 0 then 0 else 1) (nn (fl / 8 % 4)) (nn ka) l6 l8 l9 l11 v73 v74)) else (R_connect_J621 (nn fl) (if fl / 4 % 2 = 0 then 0 else 1) (nn (fl / 8 % 4)) (nn ka) l6 l8 l9 l11 v73 v74 (0 : Int32) (0 : Int32) (0 : Int32) (0 : Int32)))) r1 = R_connect_J621 (nn fl) 0 (nn (fl / 8 % 4)) (nn ka) l6 l8 l9 l11 (nn (410 * i + (p + 2))) (nn (b2 bs p)) 0 0 0 0 r1 := by
        rw [x_rI, x_rI, g6, g7, if_pos z, if_pos rfl]
      rw [Sim_r (bd_l m2)]
      exact gr221 (d := 0) (by omega) ok no T2 s2 D2 (by rw [eh2]; show hkd h1 (hnx h1 - 1) ≠ 108; rw [g2, show hnx h + 2 - 1 = hnx h + 1 by omega, g3]; decide) G2 (Or.inl ⟨rfl, a406⟩)
    · rw [if_neg (fun y => z ((fl_4 fl hfb).mp y))]
      have m2 : (rI 80 fun v73 => rI 81 fun v74 => if (if fl / 4 % 2 = 0 then (0 : Int32) else 1) = 0 then (R_connect_J621 (nn fl) (if fl / 4 % 2 = 0 then 0 else 1) (nn (fl / 8 % 4)) (nn ka) l6 l8 l9 l11 v73 v74 (0 : Int32) (0 : Int32) (0 : Int32) (0 : Int32)) else (rI 79 fun v75 => if v75 = 0 then (bd (R_properties (n6 274894684942)) fun _ => mRsp (R_connect_J547 (nn fl) (if fl / 4 % 2 = 0 then 0 else 1) (nn (fl / 8 % 4)) (nn ka) l6 l8 l9 l11 v73 v74)) else (R_connect_J621 (nn fl) (if fl / 4 % 2 = 0 then 0 else 1) (nn (fl / 8 % 4)) (nn ka) l6 l8 l9 l11 v73 v74 (0 : Int32) (0 : Int32) (0 : Int32) (0 : Int32)))) r1 = (bd (R_properties (n6 274894684942)) fun _ => mRsp (R_connect_J547 (nn fl) 1 (nn (fl / 8 % 4)) (nn ka) l6 l8 l9 l11 (nn (410 * i + (p + 2))) (nn (b2 bs p)))) r1 := by
        rw [x_rI, x_rI, g6, g7, if_neg z, if_neg (by decide), x_rI, z791, if_pos rfl]
      rw [Sim_r (bd_l m2), bd_assoc]
      exact grWill ok no T2 s2 D2 (by omega) G2 hfb hq
  · have hp1 := D1.2.2.1.2.2.2.1
    have F := D1.fa (by omega)
    obtain ⟨h2, e2, s2, F2⟩ := g187_f (r := r1) (l5 := nn fl) (l6 := l11) T1 F
    rw [e1 h1 T1, e_bd (qc_row_f T1 F)] at e2
    rw [g1]
    refine gr_no no (by omega) D1 s1 (by omega) (by omega) ⟨h2, e2, s2, F2⟩ ?_
    have j := mc621_f (r := r1) (l2 := nn fl) (l3 := if fl / 4 % 2 = 0 then 0 else 1) (l4 := nn (fl / 8 % 4)) (l5 := nn ka) (l6 := l6) (l8 := l8) (l9 := l9) (l11 := l11) (l12 := r1.1 80) (l13 := r1.1 81) (l14 := 0) (l15 := 0) (l16 := 0) (l17 := 0) D1.2.1.2.2.1 (by omega) (by omega)
    rw [x_rI, x_rI]
    by_cases z : (if fl / 4 % 2 = 0 then (0 : Int32) else 1) = 0
    · rw [if_pos z]
      exact j
    · rw [if_neg z, x_rI, D1.2.1.2.2.1, if_neg (by decide)]
      exact j
/-- the model behind the properties -/
def mTl (l2 l3 l4 l5 : Int32) : RS → Option (Unit × RS) := rA 82 (33 : Int32) fun v115 => if v115 = 0 then (R_connect_J278 l2 l3 l4 l5) else (rL 83 (33 : Int32) fun v116 => if (lg_cmp v116 (0 : Int64)) = 0 then (R_connect_J320 l2 l3 l4 l5) else (R_connect_J278 l2 l3 l4 l5))
abbrev badP (M : Nat) (r : RS) : Prop := (M.testBit 33 = true ∧ r.2.2 83 33 = 0) ∨ (M.testBit 39 = true ∧ r.2.2 83 39 = 0) ∨ (M.testBit 22 = true ∧ M.testBit 21 = false)
theorem mTl_ev {l2 l3 l4 l5 : Int32} (P : Pp x i bs M U h r) : (badP M r → mTl l2 l3 l4 l5 r = R_connect_J320 l2 l3 l4 l5 r) ∧ (¬ badP M r → mTl l2 l3 l4 l5 r = R_connect_J327 l2 l3 l4 l5 r) := by
  have b : ∀ k, k < 64 → r.2.1 82 k = if M.testBit k = true then 1 else 0 := P.1.2.2
  have j300 : R_connect_J300 l2 l3 l4 l5 r = (if M.testBit 22 = true ∧ M.testBit 21 = false then R_connect_J320 l2 l3 l4 l5 else R_connect_J327 l2 l3 l4 l5) r := by
    unfold R_connect_J300
    rw [show (22 : Int32) = nn 22 from rfl, x_rA mL_82 (by omega) (by omega), b 22 (by omega)]
    by_cases z : M.testBit 22 = true
    · rw [if_pos z, if_neg (by decide), show (21 : Int32) = nn 21 from rfl, x_rA mL_82 (by omega) (by omega), b 21 (by omega)]
      by_cases y : M.testBit 21 = true
      · rw [if_pos y, if_neg (by decide), if_neg (fun w => by rw [y] at w; exact absurd w.2 (by decide))]
      · rw [if_neg y, if_pos rfl, if_pos ⟨z, by simpa using y⟩]
    · rw [if_neg z, if_pos rfl, if_neg (fun w => z w.1)]
  have j278 : R_connect_J278 l2 l3 l4 l5 r = (if (M.testBit 39 = true ∧ r.2.2 83 39 = 0) ∨ (M.testBit 22 = true ∧ M.testBit 21 = false) then R_connect_J320 l2 l3 l4 l5 else R_connect_J327 l2 l3 l4 l5) r := by
    unfold R_connect_J278
    rw [show (39 : Int32) = nn 39 from rfl, x_rA mL_82 (by omega) (by omega), b 39 (by omega)]
    by_cases z : M.testBit 39 = true
    · rw [if_pos z, if_neg (by decide), x_rL mL_83 (by omega) (by omega)]
      by_cases y : r.2.2 83 39 = 0
      · rw [if_pos (cmp_eq.mpr y), if_pos (Or.inl ⟨z, y⟩)]
      · rw [if_neg (fun w => y (cmp_eq.mp w)), j300]
        by_cases u : M.testBit 22 = true ∧ M.testBit 21 = false
        · rw [if_pos u, if_pos (Or.inr u)]
        · rw [if_neg u, if_neg (fun w => by rcases w with w | w; exact y w.2; exact u w)]
    · rw [if_neg z, if_pos rfl, j300]
      by_cases u : M.testBit 22 = true ∧ M.testBit 21 = false
      · rw [if_pos u, if_pos (Or.inr u)]
      · rw [if_neg u, if_neg (fun w => by rcases w with w | w; exact z w.1; exact u w)]
  have key : mTl l2 l3 l4 l5 r = (if badP M r then R_connect_J320 l2 l3 l4 l5 else R_connect_J327 l2 l3 l4 l5) r := by
    unfold mTl
    rw [show (33 : Int32) = nn 33 from rfl, x_rA mL_82 (by omega) (by omega), b 33 (by omega)]
    by_cases z : M.testBit 33 = true
    · rw [if_pos z, if_neg (by decide), x_rL mL_83 (by omega) (by omega)]
      by_cases y : r.2.2 83 33 = 0
      · rw [if_pos (cmp_eq.mpr y), if_pos (Or.inl ⟨z, y⟩)]
      · rw [if_neg (fun w => y (cmp_eq.mp w)), j278]
        by_cases u : (M.testBit 39 = true ∧ r.2.2 83 39 = 0) ∨ (M.testBit 22 = true ∧ M.testBit 21 = false)
        · rw [if_pos u, if_pos (Or.inr u)]
        · rw [if_neg u, if_neg (fun w => by rcases w with w | w; exact y w.2; exact u w)]
    · rw [if_neg z, if_pos rfl, j278]
      by_cases u : (M.testBit 39 = true ∧ r.2.2 83 39 = 0) ∨ (M.testBit 22 = true ∧ M.testBit 21 = false)
      · rw [if_pos u, if_pos (Or.inr u)]
      · rw [if_neg u, if_neg (fun w => by rcases w with w | w; exact z w.1; exact u w)]
  exact ⟨fun z => by rw [key, if_pos z], fun z => by rw [key, if_neg z]⟩
def v17 (M : Nat) (r : RS) : Int64 := if M.testBit 17 = true then r.2.2 83 17 else 0
def v33 (M : Nat) (r : RS) : Int64 := if M.testBit 33 = true then r.2.2 83 33 else 65535
def v39 (M : Nat) (r : RS) (d : Int64) : Int64 := if M.testBit 39 = true then r.2.2 83 39 else d
theorem m327_ev {l2 l3 l4 l5 : Int32} (P : Pp x i bs M U h r) (z79 : r.1 79 = 0) : R_connect_J327 l2 l3 l4 l5 r = R_connect_J407 l2 l3 l4 l5 (v17 M r) (v33 M r).toInt32 (v39 M r 9223372036854775807) r := by
  have b : ∀ k, k < 64 → r.2.1 82 k = if M.testBit k = true then 1 else 0 := P.1.2.2
  have j382 : ∀ a c, R_connect_J382 l2 l3 l4 l5 a c r = R_connect_J407 l2 l3 l4 l5 a c (v39 M r 9223372036854775807) r := fun a c => by
    unfold R_connect_J382 v39
    rw [show (39 : Int32) = nn 39 from rfl, x_rA mL_82 (by omega) (by omega), b 39 (by omega)]
    by_cases z : M.testBit 39 = true
    · rw [if_pos z, if_pos z, if_neg (by decide), x_rL mL_83 (by omega) (by omega)]
    · rw [if_neg z, if_neg z, if_pos rfl]
  have j356 : ∀ a, R_connect_J356 l2 l3 l4 l5 a r = R_connect_J407 l2 l3 l4 l5 a (v33 M r).toInt32 (v39 M r 9223372036854775807) r := fun a => by
    unfold R_connect_J356 v33
    rw [show (33 : Int32) = nn 33 from rfl, x_rA mL_82 (by omega) (by omega), b 33 (by omega)]
    by_cases z : M.testBit 33 = true
    · rw [if_pos z, if_pos z, if_neg (by decide), x_rL mL_83 (by omega) (by omega), j382]
    · rw [if_neg z, if_neg z, if_pos rfl, j382, show (65535 : Int64).toInt32 = 65535 from by decide]
  unfold R_connect_J327
  rw [x_rI, z79, if_pos rfl, show (17 : Int32) = nn 17 from rfl, x_rA mL_82 (by omega) (by omega), b 17 (by omega)]
  unfold v17
  by_cases z : M.testBit 17 = true
  · rw [if_pos z, if_pos z, if_neg (by decide), x_rL mL_83 (by omega) (by omega), j356]
  · rw [if_neg z, if_neg z, if_pos rfl, j356]
/-- what the properties say, taken over by both -/
theorem grTl (ok : GrOk x i bs h0 r0 Kc Km Φ fl) (no : GrNo x (bs.length + 7) (bs.length + 420) h0 r0 Kc Km Φ) (T : Stat x h) (s : Sg x p p h0 h r0 r) (D : Rd x i bs p bs.length 0 h r) (hl : bs.length < p + 400) (P : Pp x i bs M U h r) (hfb : fl < 256) (hq : fl / 8 % 4 ≤ 2) (h401 : hfi h 401 (x + 48) = (if fl / 2 % 2 = 0 then 0 else 1)) (h402 : hfi h 402 (x + 48) = nn ka) (hka : ka < 65536) :
    Sim (bd (grP x (nn fl)) fun _ => Kc) h (bd (mTl (nn fl) (if fl / 4 % 2 = 0 then 0 else 1) (nn (fl / 8 % 4)) (nn ka)) fun _ => Km) r Φ := by
  have hx := T.1
  have hbl := D.2.2.1.2.2.1
  have hpl := D.2.2.1.2.2.2.1
  have k4 := T.gr.2
  have z79 : r.1 79 = 0 := D.2.1.2.2.1
  have b82 : ∀ k, k < 64 → r.2.1 82 k = if M.testBit k = true then 1 else 0 := P.1.2.2
  have e1 := qc_phas (k := 21) T P.1.1 P.1.2.1 (by omega)
  obtain ⟨e2, n17⟩ := qc_get (k := 17) (v := 0) T P (by decide) (by decide) (by decide)
  have F1 : Fm x [403] (fun _ => False) h (sfl h 403 (x + 48) (v17 M r)) := Fm.fl Fm.rf (Or.inl (by decide)) (Or.inl (by decide))
  have T1 := T.sto F1.1
  obtain ⟨P1, _⟩ := P.fm T F1 (Ro.rf (S := [])) (by decide) (fun _ _ _ z => z) (by decide)
  obtain ⟨e3, n33⟩ := qc_get (k := 33) (v := 65535) T1 P1 (by decide) (by decide) (by decide)
  have F2 : Fm x [404] (fun _ => False) (sfl h 403 (x + 48) (v17 M r)) (sfi (sfl h 403 (x + 48) (v17 M r)) 404 (x + 48) (v33 M r).toInt32) := Fm.fi Fm.rf (Or.inl (by decide)) (Or.inl (by decide))
  have T2 := T1.sto F2.1
  obtain ⟨P2, _⟩ := P1.fm T1 F2 (Ro.rf (S := [])) (by decide) (fun _ _ _ z => z) (by decide)
  obtain ⟨e4, n39⟩ := qc_get (k := 39) (v := -1) T2 P2 (by decide) (by decide) (by decide)
  obtain ⟨h3, eh3⟩ : ∃ z, z = sfl (sfi (sfl h 403 (x + 48) (v17 M r)) 404 (x + 48) (v33 M r).toInt32) 405 (x + 48) (v39 M r (-1)) := ⟨_, rfl⟩
  have F3 : Fm x [405] (fun _ => False) (sfi (sfl h 403 (x + 48) (v17 M r)) 404 (x + 48) (v33 M r).toInt32) h3 := by
    rw [eh3]
    exact Fm.fl Fm.rf (Or.inl (by decide)) (Or.inl (by decide))
  have F : Fm x [403, 404, 405] (fun _ => False) h h3 := ((F1.sub (by decide) (fun _ z => z)).tr (F2.sub (by decide) (fun _ z => z))).tr (F3.sub (by decide) (fun _ z => z))
  have T3 := T.sto F.1
  obtain ⟨P3, _⟩ := P2.fm T2 F3 (Ro.rf (S := [])) (by decide) (fun _ _ _ z => z) (by decide)
  have e5 := qc_phas (k := 22) T3 P3.1.1 P3.1.2.1 (by omega)
  have s3 : Sg x p p h0 h3 r0 r := (s.tr (show Sg x 0 0 h h3 r r from ⟨F.sub (by decide) (fun _ z => z.elim), Ro.rf, by rw [eh3]; exact Nat.le_refl _, by rw [eh3]; exact Nat.le_refl _⟩)).le (by omega) (by omega)
  have D3 : Rd x i bs p bs.length 0 h3 r := D.fm T F (Ro.rf (S := [])) (by decide) (fun z => z) (by decide)
  have f403 : hfl h3 403 (x + 48) = v17 M r := by
    rw [eh3, hfl_sfl, if_neg (by omega)]
    show hfl (sfl h 403 (x + 48) (v17 M r)) 403 (x + 48) = _
    rw [hfl_sfl, if_pos ⟨rfl, rfl⟩]
  have f404 : hfi h3 404 (x + 48) = (v33 M r).toInt32 := by
    rw [eh3]
    show hfi (sfi (sfl h 403 (x + 48) (v17 M r)) 404 (x + 48) (v33 M r).toInt32) 404 (x + 48) = _
    rw [hfi_sfi, if_pos ⟨rfl, rfl⟩]
  have f405 : hfl h3 405 (x + 48) = v39 M r (-1) := by
    rw [eh3, hfl_sfl, if_pos ⟨rfl, rfl⟩]
  -- the values
  have q33 : ∃ k, k ≤ 65535 ∧ v33 M r = n6 k ∧ (M.testBit 33 = true → r.2.2 83 33 = n6 k) ∧ (M.testBit 33 = false → k = 65535) := by
    unfold v33
    by_cases z : M.testBit 33 = true
    · obtain ⟨k, k1, k2⟩ := n33 z
      exact ⟨k, k1, by rw [if_pos z]; exact k2, fun _ => k2, fun w => by rw [z] at w; cases w⟩
    · exact ⟨65535, by omega, by rw [if_neg z]; rfl, fun w => absurd w z, fun _ => rfl⟩
  obtain ⟨k, k1, k2, k3, k3'⟩ := q33
  have t33 : (v33 M r).toInt32 = nn k := by rw [k2, n6_32 (by omega)]
  have z33 : (v33 M r).toInt32 = 0 ↔ (M.testBit 33 = true ∧ r.2.2 83 33 = 0) := by
    rw [t33]
    constructor
    · intro w
      have k0 : k = 0 := nn_inj (b := 0) (by omega) (by omega) w
      by_cases z : M.testBit 33 = true
      · exact ⟨z, by rw [k3 z, k0]; rfl⟩
      · have := k3' (by simpa using z)
        omega
    · rintro ⟨w1, w2⟩
      rw [k3 w1] at w2
      have : k = 0 := (n6_eq (by omega) (by omega)).mp (w2.trans (show (0 : Int64) = n6 0 from rfl))
      rw [this]
      rfl
  have z39 : v39 M r (-1) = 0 ↔ (M.testBit 39 = true ∧ r.2.2 83 39 = 0) := by
    unfold v39
    by_cases z : M.testBit 39 = true
    · rw [if_pos z]
      exact ⟨fun w => ⟨z, w⟩, fun w => w.2⟩
    · rw [if_neg z]
      exact ⟨fun w => absurd w (by decide), fun w => absurd w.1 z⟩
  -- the class
  have c1 : grP x (nn fl) h = (if badP M r then C_X2_read_J180 (x + 48) (some (x + 37)) (some (x + 40)) (nn fl) (if M.testBit 21 = true then 1 else 0) else C_X2_read_J187 (x + 48) (some (x + 37)) (some (x + 40)) (nn fl) (if M.testBit 21 = true then 1 else 0)) h3 := by
    unfold grP
    rw [e_Cv T.pr, show (21 : Int32) = nn 21 from rfl, e_bd e1, e_Cv T.pr, show (17 : Int32) = nn 17 from rfl, e_bd e2, e_pL k4]
    show (hCv 6 (some (x + 40)) (fun a => C_X4_get a (33 : Int32) (65535 : Int64)) _) (sfl h 403 (x + 48) (v17 M r)) = _
    rw [e_Cv T1.pr, show (33 : Int32) = nn 33 from rfl, e_bd e3, e_pI T1.gr.2]
    show (hCv 6 (some (x + 40)) (fun a => C_X4_get a (39 : Int32) (-1 : Int64)) _) (sfi (sfl h 403 (x + 48) (v17 M r)) 404 (x + 48) (v33 M r).toInt32) = _
    rw [e_Cv T2.pr, show (39 : Int32) = nn 39 from rfl, e_bd e4, e_pL T2.gr.2]
    show (hgI 4 4 (some (x + 48)) _) (sfl (sfi (sfl h 403 (x + 48) (v17 M r)) 404 (x + 48) (v33 M r).toInt32) 405 (x + 48) (v39 M r (-1))) = _
    rw [← eh3, e_gI T3.gr.2, show hfi h3 (100 * 4 + 4) (x + 48) = (v33 M r).toInt32 from f404]
    by_cases y1 : (v33 M r).toInt32 = 0
    · rw [if_pos y1, if_pos (Or.inl (z33.mp y1))]
    · rw [if_neg y1, e_gL T3.gr.2, show hfl h3 (100 * 4 + 5) (x + 48) = v39 M r (-1) from f405]
      have n1 := fun w => y1 (z33.mpr w)
      by_cases y2 : v39 M r (-1) = 0
      · rw [if_pos (cmp_eq.mpr y2), if_pos (Or.inr (Or.inl (z39.mp y2)))]
      · have n2 := fun w => y2 (z39.mpr w)
        rw [if_neg (fun w => y2 (cmp_eq.mp w)), e_Cv T3.pr, show (22 : Int32) = nn 22 from rfl, e_bd e5]
        by_cases y3 : M.testBit 22 = true
        · rw [if_pos y3, if_neg (show ¬ (1 : Int32) = 0 by decide)]
          by_cases y4 : M.testBit 21 = true
          · rw [if_pos y4, if_neg (show ¬ (1 : Int32) = 0 by decide), if_neg]
            rintro (w | w | w)
            · exact n1 w
            · exact n2 w
            · rw [y4] at w
              exact absurd w.2 (by decide)
          · rw [if_neg y4, if_pos rfl, if_pos (Or.inr (Or.inr ⟨y3, by simpa using y4⟩))]
        · have nb : ¬ badP M r := by
            rintro (w | w | w)
            · exact n1 w
            · exact n2 w
            · exact y3 w.1
          rw [if_neg y3, if_pos rfl, if_neg nb]
  obtain ⟨mb, mg⟩ := mTl_ev (l2 := nn fl) (l3 := if fl / 4 % 2 = 0 then 0 else 1) (l4 := nn (fl / 8 % 4)) (l5 := nn ka) P
  by_cases bd' : badP M r
  · have D4 := D3.fl (v := 130) (by omega) (by omega)
    have sf : Sc x 0 0 h3 (sfi h3 704 (x + 37) (nn 130)) r (sI r 79 (nn 130)) := Sc.fl
    have T4 := sf.st T3
    have e6 : grP x (nn fl) h = C_X2_read_J187 (x + 48) (some (x + 37)) (some (x + 40)) (nn fl) (if M.testBit 21 = true then 1 else 0) (sfi h3 704 (x + 37) (nn 130)) := by
      rw [c1, if_pos bd']
      unfold C_X2_read_J180
      rw [e_Cv T3.rd, e_bd (qc_fail T3 D3.1.2.2.1)]
      rfl
    have m6 : mTl (nn fl) (if fl / 4 % 2 = 0 then 0 else 1) (nn (fl / 8 % 4)) (nn ka) r = R_connect_J327 (nn fl) (if fl / 4 % 2 = 0 then 0 else 1) (nn (fl / 8 % 4)) (nn ka) (sI r 79 (nn 130)) := by
      rw [mb bd']
      unfold R_connect_J320
      rw [e_bd (qm_fails z79)]
      rfl
    rw [Sim_l (bd_l e6), Sim_r (bd_l m6)]
    exact gr_no no (by omega) D4 (s3.tr sf.sg) (by omega) (by omega) (g187_f T4 (D4.fa (by omega))) (mc327_f (f := 130) D4.2.1.2.2.1 (by omega) (by omega))
  · have hk0 : k ≠ 0 := fun w => by
      refine bd' (Or.inl (z33.mp ?_))
      rw [t33, w]
      rfl
    rw [if_neg bd'] at c1
    rw [Sim_l (bd_l c1), Sim_r (bd_l ((mg bd').trans (m327_ev P z79)))]
    refine gr187 ok no T3 s3 D3 hl ⟨by rw [F.gi (by decide) (by omega)]; exact h401, ⟨by rw [F.gi (by decide) (by omega)]; exact h402, hka⟩, ⟨f403, ?_⟩, ⟨f404, k, by omega, k1, t33⟩, ?_⟩ hfb hq (b82 21 (by omega))
    · unfold v17
      by_cases z : M.testBit 17 = true
      · obtain ⟨n, n1, n2⟩ := n17 z
        exact ⟨n, n1, by rw [if_pos z]; exact n2⟩
      · exact ⟨0, by omega, by rw [if_neg z]; rfl⟩
    · rw [f405]
      unfold v39
      by_cases z : M.testBit 39 = true
      · obtain ⟨n, n1, n2⟩ := n39 z
        refine Or.inr ⟨n, ?_, n1, by rw [if_pos z]; exact n2, by rw [if_pos z]; exact n2⟩
        rcases Nat.eq_zero_or_pos n with w | w
        · exact absurd (Or.inr (Or.inl ⟨z, by rw [n2, w]; rfl⟩)) bd'
        · exact w
      · exact Or.inl ⟨by rw [if_neg z], by rw [if_neg z]⟩
end GRS
