section UN2
variable {x i s b num p0 cnt e p n f ps M v : Nat} {e0 : Int32} {h h' h0 : Hp} {r r' r0 : RS} {bs ys U : List Nat} {l1 l2 : Option Nat} {l4 l5 l6 : Int32}
def unI (x i s b num p0 : Nat) (e0 : Int32) (bs : List Nat) (h0 : Hp) (r0 : RS) (C E : Nat) (h : Hp) (r : RS) (e : Nat) : Prop :=
  Rel x i 12 96 e0 h r ∧ har h (x + 34) s = some b ∧ (∃ q, Rd x i bs (pu bs p0 e) bs.length 0 h q) ∧ (∃ rs : List Nat, rs.length = e ∧ WR (x + 46) h (nn 176) (num / 256 :: num % 256 :: 0 :: rs) ∧ ∀ e', e' < e → r.2.1 92 e' = nn (rs.getD e' 0)) ∧ Kp x i h0 h r0 r ∧ r.1 79 = 0 ∧ (hcs h).1 + WN r ≤ (hcs h0).1 + WN r0 + C + 2 * e ∧ (hcs h).2 + 6 * WN r ≤ (hcs h0).2 + 6 * WN r0 + E + (pu bs p0 e - p0) + e
theorem un_ar {a4 a1 a a0 w5 w w0 E p p0 n e : Nat} (h1 : a4 = a1) (h2 : a1 ≤ a + (n + 1)) (h4 : w5 ≤ w) (h5 : a + 6 * w ≤ a0 + 6 * w0 + E + (p - p0) + e) (h6 : p0 ≤ p) : a4 + 6 * w5 ≤ a0 + 6 * w0 + E + (p + 2 + n - p0) + (e + 1) := by omega
theorem un_ar1 {a4 a1 a a0 w5 w w0 C e : Nat} (h1 : a4 = a1) (h2 : a1 ≤ a + 2) (h4 : w5 ≤ w) (h5 : a + w ≤ a0 + w0 + C + 2 * e) : a4 + w5 ≤ a0 + w0 + C + 2 * (e + 1) := by omega
theorem sim_unB {Φ : Int32 → Hp → Unit → RS → Prop} {C E : Nat} (hi : i < 8) (hs : s < 12) (hcnt : cnt ≤ 200) (hbl : bs.length ≤ 405) (hEnt : ∀ e', e' < cnt → EntU bs (pu bs p0 e')) (h6 : Mg (r0.2.1 6) (410 * i) bs)
    (kend : ∀ h r, unI x i s b num p0 e0 bs h0 r0 C E h r cnt → Sim (C_X11_unsubscribe_J187 x (some (cA x i))) h (R_unsubscribe_J270 (nn num) (nn cnt)) r Φ) :
    ∀ (c e f g : Nat) (h : Hp) (r : RS), e + c = cnt → c < f → c < g → unI x i s b num p0 e0 bs h0 r0 C E h r e → (∀ e', e' < cnt → eU i bs r e' (pu bs p0 e')) → Sim (C_X11_unsubscribe_L155 x (fun l1 => C_X11_unsubscribe_J187 x l1) f (some (cA x i)) (some b) (nn cnt) (nn e)) h (R_unsubscribe_L136 (fun l2 l3 => R_unsubscribe_J270 l2 l3) g (nn s) (nn num) (nn cnt) (nn e)) r Φ := by
  intro c
  induction c with
  | zero =>
    intro e f g h r he hf hg I hA
    obtain ⟨f', rfl⟩ : ∃ z, f = z + 1 := ⟨f - 1, by omega⟩
    obtain ⟨g', rfl⟩ : ∃ z, g = z + 1 := ⟨g - 1, by omega⟩
    have : e = cnt := by omega
    subst this
    show Sim (C_X11_unsubscribe_B155 x _ _ (some (cA x i)) (some b) (nn e) (nn e)) h (R_unsubscribe_B136 _ _ (nn s) (nn num) (nn e) (nn e)) r Φ
    unfold C_X11_unsubscribe_B155 R_unsubscribe_B136
    rw [sl_pos (Int32.le_refl _), sr_pos (Int32.le_refl _)]
    exact kend h r I
  | succ c ih =>
    intro e f g h r he hf hg I hA
    obtain ⟨f', rfl⟩ : ∃ z, f = z + 1 := ⟨f - 1, by omega⟩
    obtain ⟨g', rfl⟩ : ∃ z, g = z + 1 := ⟨g - 1, by omega⟩
    obtain ⟨R, hb, ⟨q, D⟩, ⟨rs, rl, W, r92⟩, K, h79, cc1, cc2⟩ := I
    have T := R.st
    have hx := T.1
    obtain ⟨k1, k2, k3⟩ := T.in3
    have B := D.by
    have hE := hEnt e (by omega)
    obtain ⟨a1, a2⟩ := hA e (by omega)
    have hpz := pu_le (bs := bs) (p0 := p0) (e := e)
    obtain ⟨p, ep⟩ : ∃ p, p = pu bs p0 e := ⟨_, rfl⟩
    rw [← ep] at D hE a1 a2 cc2 hpz
    obtain ⟨n1, n2⟩ := hE
    obtain ⟨ys, ey⟩ : ∃ z, z = sl bs (p + 2) (b2 bs p) := ⟨_, rfl⟩
    have yl : ys.length = b2 bs p := by rw [ey]; exact sl_len (by omega)
    obtain ⟨G, hG, e1⟩ := D.row T 1 (Or.inr rfl) (by omega) (by omega)
    rw [if_pos (Or.inr n2)] at e1
    obtain ⟨s1, W1, D1, nx1, _⟩ := D.rowok T (by omega) (by omega) hG
    obtain ⟨h1, eh1⟩ : ∃ z, z = sfi (nRow (sfi h 702 (x + 37) (nn (p + 2))) (b2 bs p) G) 702 (x + 37) (nn (p + 2 + b2 bs p)) := ⟨_, rfl⟩
    rw [← eh1] at e1 s1 W1 D1 nx1
    rw [← ey] at W1
    have T1 := s1.st T
    have F1 : Fm x vF (vA x) h h1 := s1.1.sub (by decide) (fun _ z => z.elim)
    have R1 := R.cls F1
    have e34 : har h1 (x + 34) = har h (x + 34) := (s1.1.2.2 (x + 34) (by omega) (fun z => z)).2.1
    have hb1 : har h1 (x + 34) s = some b := by rw [e34]; exact hb
    have Sb1 := R1.ses hs hb1
    have hbb := Sb1.1.2.1
    have h6' : Mg (r.2.1 6) (410 * i + (p + 2)) ys := by
      have e6 : r.2.1 6 = r0.2.1 6 := K.1.2.2.1
      rw [e6, ey]
      exact h6.slc (by omega)
    obtain ⟨re, h4, r4, c1, c2, re256, R4, F4, w4, r92e, r92o, cs4⟩ := sim_uns1 (kb := fun l1 l2 l3 l4 => R_unsubscribe_L136 (fun l2 l3 => R_unsubscribe_J270 l2 l3) g' l1 l2 l3 l4) (ke := fun l2 l3 => R_unsubscribe_J270 l2 l3) (a2 := nn num) (a3 := nn cnt) (c := cnt) (oo := 410 * i + (p + 2)) (e := e) R1 hs hb1 W1 (by omega) h6' (by omega) (by omega) a1 (by rw [yl]; exact a2) rfl (by omega) (by omega)
    have T4 := R4.st
    have W4 : WR (x + 46) h4 (nn 176) (num / 256 :: num % 256 :: 0 :: rs) := (W.fmx T F1 (by decide) (fun z => by rcases z with z | z <;> omega)).fmx T1 F4 (by decide) (by omega)
    have wl : (num / 256 :: num % 256 :: 0 :: rs).length = e + 3 := by
      rw [List.length_cons, List.length_cons, List.length_cons, rl]
    obtain ⟨_, h5, e5, W5, Wo5⟩ := qc_one (v := nn re) W4 (by rw [wl]; omega)
    have elo : lo8 (nn re) = re := by rw [lo8_nn (by omega)]; omega
    rw [elo] at W5
    have F5 := Wo5.fm
    have R5 : Rel x i 12 96 e0 h5 r4 := R4.scr Wo5.sc Ro.rf ⟨_, _, W5⟩
    have e24 : har h4 (x + 34) = har h1 (x + 34) := (F4.2.2 (x + 34) (by have := T1.1; omega) (by omega)).2.1
    have e25 : har h5 = har h4 := Wo5.2.2.2.2.2.2.1
    have hb5 : har h5 (x + 34) s = some b := by rw [e25, e24]; exact hb1
    have pus : pu bs p0 (e + 1) = p + 2 + b2 bs p := by
      show pu bs p0 e + 2 + b2 bs (pu bs p0 e) = _
      rw [← ep]
    have ca : cA x i + 2 = x + 2 + 4 * i + 2 := rfl
    have Kz : Kp x i h h5 r r4 := ((Kp.of F1 (Ro.rf (S := [])) T hi (by decide) (fun z => by rcases z with z | z <;> omega) (by decide)).tr (Kp.of F4 w4 T1 hi (by decide) (by omega) (by decide))).tr (Kp.of F5 (Ro.rf (S := [])) T4 hi (by decide) (by omega) (by decide))
    have D5 : Rd x i bs (pu bs p0 (e + 1)) bs.length 0 h5 (rwM q i (p + 2) (b2 bs p)) := by
      rw [pus]
      exact (D1.fm T1 F4 (Ro.rf (S := [])) (by decide) (by omega) (by decide)).fm T4 F5 (Ro.rf (S := [])) (by decide) (by omega) (by decide)
    have wn4 := w4.wn (by decide) (by decide) (by decide) (by decide)
    have cs5 : hcs h5 = hcs h1 := by rw [Wo5.2.2.2.2.2.2.2.1, cs4]
    have cs1 := s1.2.2
    have I5 : unI x i s b num p0 e0 bs h0 r0 C E h5 r4 (e + 1) := by
      refine ⟨R5, hb5, ⟨_, D5⟩, ⟨rs ++ [re], by rw [List.length_append, rl]; rfl, W5, fun e' he' => ?_⟩, K.tr Kz, ?_, ?_, ?_⟩
      · rw [gD_app, rl]
        by_cases z : e' = e
        · subst z
          rw [if_neg (by omega), Nat.sub_self, r92e]
          rfl
        · rw [if_pos (by omega), r92o e' z, r92 e' (by omega)]
      · rw [w4.gI (by decide)]
        exact h79
      · exact un_ar1 (by rw [cs5]) cs1.1 wn4 cc1
      · rw [pus]
        exact un_ar (by rw [cs5]) cs1.2 wn4 cc2 hpz
    have hA5 : ∀ e', e' < cnt → eU i bs r4 e' (pu bs p0 e') := by
      intro e' he'
      obtain ⟨y1, y2⟩ := hA e' he'
      exact ⟨by rw [w4.gA (by decide)]; exact y1, by rw [w4.gA (by decide)]; exact y2⟩
    have go := ih (e + 1) f' g' h5 r4 (by omega) (by omega) (by omega) I5 hA5
    have e135 : hfr h (100 * 13 + 5) x = some (x + 46) := T.2.1.2.2.2.2.2.2.1
    have cl : C_X11_unsubscribe_L155 x (fun l1 => C_X11_unsubscribe_J187 x l1) (f' + 1) (some (cA x i)) (some b) (nn cnt) (nn e) h = C_X11_unsubscribe_L155 x (fun l1 => C_X11_unsubscribe_J187 x l1) f' (some (cA x i)) (some b) (nn cnt) (nn (e + 1)) h5 := by
      show C_X11_unsubscribe_B155 x _ _ (some (cA x i)) (some b) (nn cnt) (nn e) h = _
      unfold C_X11_unsubscribe_B155
      rw [if_neg (by rw [nn_le (by omega) (by omega)]; omega), e_gR k1, e135, e_gR k1, k2, e_Cv T.rd, e_bd e1, e_Cv (c := 10) Sb1.1.1, e_bd c1, e_Cv (c := 12) W4.1.1, e_bd e5, l_1, nn_add]
    have ml : R_unsubscribe_L136 (fun l2 l3 => R_unsubscribe_J270 l2 l3) (g' + 1) (nn s) (nn num) (nn cnt) (nn e) r = R_unsubscribe_L136 (fun l2 l3 => R_unsubscribe_J270 l2 l3) g' (nn s) (nn num) (nn cnt) (nn (e + 1)) r4 := c2
    rw [Sim_l cl, Sim_r ml]
    exact go
theorem uns98_f (T : Stat x h) (F : Fa x f h) : C_X11_unsubscribe_J98 x l1 l2 l4 l5 l6 h = some (nn f, h) := by
  obtain ⟨k1, k2, _⟩ := T.in3
  have e74 : hfi h (100 * 7 + 4) (x + 37) = nn f := F.1
  unfold C_X11_unsubscribe_J98
  rw [e_gR k1, k2, e_gI T.rd, e74, if_neg (nn_ne0 (by have := F.2.2; omega) F.2.1), e_gR k1, k2, e_gI T.rd, e74]
  rfl
theorem uns83_f (T : Stat x h) (F : Fa x f h) : C_X11_unsubscribe_J83 x l1 l2 l4 l5 l6 h = some (nn f, h) := by
  obtain ⟨k1, k2, _⟩ := T.in3
  unfold C_X11_unsubscribe_J83
  by_cases z : l6 = 0
  · rw [if_pos z, e_gR k1, k2, e_Cv T.rd, e_bd (qc_fail_f T F), uns98_f T F]
  · rw [if_neg z, uns98_f T F]
/-- behind the properties -/
def unsP (x : Nat) (l1 l2 : Option Nat) (r28 : Int32) : Hp → Option (Int32 × Hp) := hgR 13 3 (some x) fun v32 => hgI 7 2 v32 fun v33 => C_X11_unsubscribe_L47 x (fun l1 l2 l4 l5 l6 => C_X11_unsubscribe_J83 x l1 l2 l4 l5 l6) fu l1 l2 r28 v33 (0 : Int32) (0 : Int32)
theorem unsP_f (T : Stat x h) (F : Fa x f h) : unsP x l1 l2 l4 h = some (nn f, h) := by
  obtain ⟨k1, k2, _⟩ := T.in3
  unfold unsP
  rw [e_gR k1, k2, e_gI T.rd]
  show C_X11_unsubscribe_L47 x (fun l1 l2 l4 l5 l6 => C_X11_unsubscribe_J83 x l1 l2 l4 l5 l6) (4999 + 1) l1 l2 l4 _ 0 0 h = _
  rw [uchkF T F, uns83_f T F]
def unsN (x : Nat) (l1 l2 : Option Nat) (r28 : Int32) : Hp → Option (Int32 × Hp) := hgR 13 4 (some x) fun v29 => hgR 13 3 (some x) fun v30 => hCv 6 v29 (fun a => C_X4_read a v30 (274877906944 : Int64)) fun _ => unsP x l1 l2 r28
theorem unsN_f (T : Stat x h) (F : Fa x f h) : ∃ h', unsN x l1 l2 l4 h = some (nn f, h') ∧ Sw x 0 0 h h' r r := by
  obtain ⟨k1, k2, k3⟩ := T.in3
  obtain ⟨h1, e1, F1, c1, Fa1, m1, q1⟩ := qc_props_f (v := (274877906944 : Int64)) T F
  have s1 : Sw x 0 0 h h1 r r := ⟨F1.sub (by decide) (fun _ z => z.elim), Ro.rf, by rw [c1]; omega, by rw [c1]; omega⟩
  refine ⟨h1, ?_, s1⟩
  unfold unsN
  rw [e_gR k1, k3, e_gR k1, k2, e_Cv T.pr, e_bd e1, unsP_f (s1.st T) Fa1]
theorem uns_eq (T : Stat x h) {fl : Int32} : C_X11_unsubscribe x l1 l2 fl h = (bd (C_X5_expect (x + 37) fl (2 : Int32)) fun _ => hgR 13 3 (some x) fun v27 => hCv 7 v27 (fun a => C_X5_number a) fun r28 => unsN x l1 l2 r28) h := by
  obtain ⟨k1, k2, k3⟩ := T.in3
  unfold C_X11_unsubscribe
  rw [e_gR k1, k2, e_Cv T.rd]
  rfl
theorem uns_bad (D : Rd x i bs p bs.length 0 h r) (T : Stat x h) {fl : Int32} (hfl : fl ≠ 2) : ∃ h', C_X11_unsubscribe x l1 l2 fl h = some (nn 129, h') ∧ Sw x 0 0 h h' r (sI r 79 (nn 129)) := by
  have D1 := D.fl (v := 129) (by omega) (by omega)
  have s1 : Sc x 0 0 h (sfi h 704 (x + 37) (nn 129)) r (sI r 79 (nn 129)) := Sc.fl
  have T1 := s1.st T
  obtain ⟨j1, j2, j3⟩ := T1.in3
  obtain ⟨h', e1, s2⟩ := unsN_f (r := sI r 79 (nn 129)) (l1 := l1) (l2 := l2) (l4 := 0) T1 (D1.fa (by omega))
  refine ⟨h', ?_, s1.sw.tr s2⟩
  have ee : C_X5_expect (x + 37) fl (2 : Int32) h = some ((), sfi h 704 (x + 37) (nn 129)) := by
    unfold C_X5_expect
    rw [if_neg hfl, e_Cv (c := 7) T.rd, e_bd (qc_fail T D.1.2.2.1)]
    rfl
  rw [uns_eq T, e_bd ee, e_gR j1, j2, e_Cv T1.rd, e_bd (qc_number_f T1 (D1.fa (by omega)))]
  exact e1
theorem muns125_f {a1 a2 a3 : Int32} (hf : r.1 79 = nn f) (h1 : f ≠ 0) (h2 : f < 256) : R_unsubscribe_J125 a1 a2 a3 r = some ((), r) := by
  unfold R_unsubscribe_J125
  rw [x_rI, hf, if_neg (nn_ne0 (by omega) h1)]
  rfl
theorem muns77_f {a1 a2 a3 : Int32} (hf : r.1 79 = nn f) (h1 : f ≠ 0) (h2 : f < 256) : R_unsubscribe_L77 (fun l1 l2 l3 => R_unsubscribe_J125 l1 l2 l3) fu a1 a2 a3 r = some ((), r) := by
  show R_unsubscribe_L77 (fun l1 l2 l3 => R_unsubscribe_J125 l1 l2 l3) (4999 + 1) a1 a2 a3 r = _
  rw [umchkF hf h1 h2, muns125_f hf h1 h2]
theorem sim_unsP (R0 : Rel x i 12 96 e0 h0 r0) (s0 : Sw x (p0 - ps) (p0 - ps) h0 h r0 r) (D : Rd x i bs p0 bs.length 0 h r) (hs : s < 12) (hb : har h0 (x + 34) s = some b) (ho : r0.2.1 1 i = 1) (hn : num < 65536) (hl : bs.length ≤ p0 + 398) (hps : 2 ≤ ps ∧ ps ≤ p0) :
    Sim (unsP x (some (cA x i)) (some b) (nn num)) h (rI 76 fun v29 => rI 77 fun v30 => if v29 = v30 then (bd (R_fails (130 : Int32)) fun _ => R_unsubscribe_L77 (fun l1 l2 l3 => R_unsubscribe_J125 l1 l2 l3) fu (nn s) (nn num) (0 : Int32)) else (R_unsubscribe_L77 (fun l1 l2 l3 => R_unsubscribe_J125 l1 l2 l3) fu (nn s) (nn num) (0 : Int32))) r (fun w h' _ r' => HP x i e0 bs.length h0 r0 w h' r') := by
  have hi := D.2.2.1.1
  have hbl := D.2.2.1.2.2.1
  have hpl := D.2.2.1.2.2.2.1
  have hp1 := D.2.2.1.2.2.2.2.2
  have B := D.by
  have R := s0.rel R0
  have T := R.st
  have hx := T.1
  have hd := D.2.2.2 rfl
  obtain ⟨k1, k2, k3⟩ := T.in3
  have x79 : r.1 79 = 0 := D.2.1.2.2.1
  have e72 : hfi h (100 * 7 + 2) (x + 37) = nn p0 := D.1.2.1
  unfold unsP
  rw [sl_gR k1, k2, sl_gI T.rd, e72, sr_rI, hd.2.1, sr_rI, D.2.1.2.1]
  by_cases g0 : p0 = bs.length
  · rw [sr_pos (by rw [g0]), Sim_r (e_bd (qm_fails x79))]
    have D1 := D.fl (v := 130) (by omega) (by omega)
    have s1 := s0.tr (Sc.fl (h := h) (r := r) (v := nn 130) (w := nn 130)).sw
    have T1 := s1.st R0.st
    have ec : C_X11_unsubscribe_L47 x (fun l1 l2 l4 l5 l6 => C_X11_unsubscribe_J83 x l1 l2 l4 l5 l6) fu (some (cA x i)) (some b) (nn num) (nn p0) (0 : Int32) (0 : Int32) h = some (nn 130, sfi h 704 (x + 37) (nn 130)) := by
      show C_X11_unsubscribe_B47 x _ _ (some (cA x i)) (some b) (nn num) (nn p0) 0 0 h = _
      unfold C_X11_unsubscribe_B47
      rw [if_neg (by decide), e_gR k1, k2, e_Cv T.rd, e_bd (D.left T), if_pos (by rw [g0, Nat.sub_self]; decide)]
      unfold C_X11_unsubscribe_J83
      dsimp only
      rw [if_pos rfl, e_gR k1, k2, e_Cv T.rd, e_bd (qc_fail T D.1.2.2.1)]
      exact uns98_f T1 (D1.fa (by omega))
    rw [Sim_l (P' := rt (nn 130)) ec, Sim_r (M' := rt ()) (muns77_f (f := 130) (by rw [sI_1, if_pos rfl]; rfl) (by omega) (by omega))]
    exact Sim.ret (HP.of R0 s1 hi D1 (by omega) (by omega))
  · rw [sr_neg (fun z => g0 (by have := nn_inj (by omega) (by omega) z; omega))]
    obtain ⟨v, h1, r1, q1, q2, p', q3, q4, q5, q6⟩ := uchk_loop (ke := fun l1 l2 l4 l5 l6 => C_X11_unsubscribe_J83 x l1 l2 l4 l5 l6) (km := fun l1 l2 l3 => R_unsubscribe_J125 l1 l2 l3) (l1 := some (cA x i)) (l2 := some b) (l4 := nn num) (l5 := nn p0) (a1 := nn s) (a2 := nn num) (p0 := p0) (by omega) bs.length 0 fu fu h r (by show bs.length - p0 ≤ bs.length; omega) (by unfold fu; omega) (by unfold fu; omega) T D (fun e' he' => absurd he' (Nat.not_lt_zero e')) (Nat.le_refl _)
    have q3' : p0 ≤ p' := q3
    have q5' : Sy x (p' - p0) (p' - p0) h h1 r r1 := q5
    have s1 : Sy x (p' - ps) (p' - ps) h0 h1 r0 r1 := (s0.sy.tr q5').le (by omega) (by omega)
    have T1 := s1.st R0.st
    obtain ⟨j1, j2, j3⟩ := T1.in3
    have q1' : C_X11_unsubscribe_L47 x (fun l1 l2 l4 l5 l6 => C_X11_unsubscribe_J83 x l1 l2 l4 l5 l6) fu (some (cA x i)) (some b) (nn num) (nn p0) (0 : Int32) (0 : Int32) h = C_X11_unsubscribe_J83 x (some (cA x i)) (some b) (nn num) (nn p0) v h1 := q1
    have q2' : R_unsubscribe_L77 (fun l1 l2 l3 => R_unsubscribe_J125 l1 l2 l3) fu (nn s) (nn num) 0 r = R_unsubscribe_J125 (nn s) (nn num) v r1 := q2
    rw [Sim_l q1', Sim_r q2']
    rcases q6 with ⟨cnt, a1, a4, a5, a6, D1, hE⟩ | ⟨fa, hfa, hv, D1⟩
    · have cnt0 : cnt ≠ 0 := fun z => by
        rw [z] at a4
        exact g0 a4
      have e74 : hfi h1 (100 * 7 + 4) (x + 37) = 0 := D1.1.2.2.1
      have x791 : r1.1 79 = 0 := D1.2.1.2.2.1
      unfold C_X11_unsubscribe_J83 C_X11_unsubscribe_J98
      rw [a1, sl_neg (nn_ne0 (by omega) cnt0), sl_gR j1, j2, sl_gI T1.rd, e74, sl_pos rfl, sl_gR j1, j2, sl_pI T1.rd]
      have D2 := D1.mv (p' := p0) (by omega) hp1
      obtain ⟨h2, eh2⟩ : ∃ z, z = sfi h1 702 (x + 37) (nn p0) := ⟨_, rfl⟩
      show Sim (hgR 13 5 (some x) _) (sfi h1 702 (x + 37) (nn p0)) _ _ _
      rw [← eh2] at D2 ⊢
      have F12 : Fm x vF (vA x) h1 h2 := by
        rw [eh2]
        exact Fm.rf.fi (Or.inl (by decide)) (Or.inl (by decide))
      have R1 := s1.rel R0
      have R2 := R1.cls F12
      have T2 := R2.st
      obtain ⟨f0, b0, W0⟩ := R2.wr
      obtain ⟨m1, m2, m3, m4⟩ := wref T2 (Wo.rf (h := h2))
      rw [sl_gR m1, m2, sl_Cv m3]
      refine Sim.seqL (qc_wbegin (v := (176 : Int32)) W0) (fun _ h3 z3 => ?_)
      obtain ⟨m1, m2, m3, m4⟩ := wref T2 z3.2
      rw [sl_gR m1, m2, sl_Cv m3]
      refine Sim.seqL (qc_two z3.1 hn (by decide)) (fun _ h4 z4 => ?_)
      have W24 := z3.2.tr z4.2
      obtain ⟨m1, m2, m3, m4⟩ := wref T2 W24
      rw [sl_gR m1, m2, sl_Cv m3]
      refine Sim.seqL (qc_one (v := (0 : Int32)) z4.1 (by simp)) (fun _ h5 z5 => ?_)
      have W25 := W24.tr z5.2
      have Wn : WR (x + 46) h5 (nn 176) (num / 256 :: num % 256 :: 0 :: []) := z5.1
      have F25 := W25.fm
      have R5 : Rel x i 12 96 e0 h5 r1 := R2.scr W25.sc Ro.rf ⟨_, _, z5.1⟩
      have cs5 : hcs h5 = hcs h1 := by rw [W25.2.2.2.2.2.2.2.1, eh2, hcs_sfi]
      have ca : cA x i + 2 = x + 2 + 4 * i + 2 := rfl
      have D5 : Rd x i bs p0 bs.length 0 h5 (sI r1 76 (nn (410 * i + p0))) := D2.fm T2 F25 (Ro.rf (S := [])) (by decide) (by omega) (by decide)
      have e34 : har h5 (x + 34) = har h0 (x + 34) := by
        rw [W25.2.2.2.2.2.2.1, eh2, har_sfi]
        have := R0.st.1
        exact (s1.1.2.2 (x + 34) (by omega) (fun z => by rcases z with z | z <;> omega)).2.1
      have K5 : Kp x i h0 h5 r0 r1 := ((s1.kp R0.st hi).tr (Kp.of F12 (Ro.rf (S := [])) T1 hi (by decide) (fun z => by rcases z with z | z <;> omega) (by decide))).tr (Kp.of F25 (Ro.rf (S := [])) T2 hi (by decide) (by omega) (by decide))
      have wn1 := s1.wn
      have c1 := s1.2.2.1
      have c2 := s1.2.2.2
      have h60 : Mg (r0.2.1 6) (410 * i) bs := by
        have : r1.2.1 6 = r0.2.1 6 := s1.2.1.gA (by decide)
        rw [← this]
        exact D1.2.1.2.2.2
      have I0 : unI x i s b num p0 e0 bs h0 r0 (p' - ps) (p' - ps) h5 r1 0 := ⟨R5, by rw [e34]; exact hb, ⟨_, D5⟩, ⟨[], rfl, Wn, fun e' he' => absurd he' (Nat.not_lt_zero e')⟩, K5, x791, by rw [cs5]; omega, by rw [cs5]; omega⟩
      have hcn : cnt ≤ 200 := by omega
      unfold R_unsubscribe_J125
      rw [sr_rI, x791, sr_pos rfl]
      refine sim_unB (C := p' - ps) (E := p' - ps) (h0 := h0) (r0 := r0) (p0 := p0) hi hs hcn hbl (fun e' he' => (hE e' he').1) h60 (fun h6 r6 I6 => ?_) cnt 0 fu fu h5 r1 (by omega) (by unfold fu; omega) (by unfold fu; omega) I0 (fun e' he' => (hE e' he').2)
      obtain ⟨R6, hb6, _, ⟨rs, rl, W6, r92⟩, K6, x796, cc1, cc2⟩ := I6
      have T6 := R6.st
      have hby : By rs := fun a ha => W6.2.2.2.2.1 a (List.mem_cons_of_mem _ (List.mem_cons_of_mem _ (List.mem_cons_of_mem _ ha)))
      obtain ⟨r7, e7, B7, w7⟩ := body_3 (r := r6) (num := num) (K := R_unsubscribe_L296 (R_unsubscribe_J319) fu (nn cnt) (0 : Int32)) hn
      obtain ⟨r8, e8, B8, w8⟩ := body_loop (r := r7) (cnt := cnt) (rs := rs) (pr := [num / 256, num % 256, 0]) (L := fun f v => R_unsubscribe_L296 (R_unsubscribe_J319) f (nn cnt) v) (E := R_unsubscribe_J319) (fun f v => rfl) B7 (fun e' he' => by rw [w7.gA (by decide)]; exact r92 e' he') rl (by omega) (by simp) hby
      have o6 : r6.2.1 1 i = 1 := by rw [K6.1.1]; exact ho
      have c6 : r6.1 75 = nn i := by rw [K6.1.2.2.2.2, ← s0.2.1.gI (by decide)]; exact D.2.1.1
      have blen : ([num / 256, num % 256, 0] ++ rs).length = cnt + 3 := by
        rw [List.length_append, rl]
        show 3 + cnt = _
        omega
      obtain ⟨r9, e9, P9, w9⟩ := sendB (i := i) (g := 176) (K := rt ()) B8 (by rw [blen]; omega) (by omega)
      have w69 : Ro [88, 89, 90, 91] r6 r9 := ((w7.sub (by decide)).tr (w8.sub (by decide))).tr (w9.sub (by decide))
      have ml : R_unsubscribe_J270 (nn num) (nn cnt) r6 = (bd (R_send (nn i)) fun _ => rt ()) r9 := by
        refine Eq.trans (show R_unsubscribe_J270 (nn num) (nn cnt) r6 = _ from e7) (Eq.trans e8 ?_)
        unfold R_unsubscribe_J319
        rw [x_rI, w8.gI (by decide), w7.gI (by decide), c6]
        exact e9
      rw [Sim_r ml]
      obtain ⟨u1, u2, u3, u4⟩ := wref T6 (Wo.rf (h := h6))
      unfold C_X11_unsubscribe_J187
      rw [sl_gR u1, u2, sl_Cv (u4 i hi)]
      refine Sim.seq (sim_mk (f := 176) R6 hi o6 Wo.rf W6 w69 P9 (by omega)) (fun _ h10 _ r10 z => Sim.ret ?_)
      obtain ⟨R10, O10, w10⟩ := z
      have cs10 : hcs h10 = hcs h6 := O10.1.2.2.2.2.2.2.2
      have wn10 := w10.wn (by decide) (by decide) (by decide) (by decide)
      rw [a4] at cc2
      exact ⟨R10, K6.tr (O10.kp w10 R6 hi), ⟨0, by rw [w10.gI (by decide)]; exact x796, rfl, by omega, Or.inl rfl⟩, by rw [cs10]; omega, by rw [cs10]; omega⟩
    · have hf2 := D1.2.2.1.2.2.2.2.1
      rw [Sim_l (P' := rt (nn fa)) (uns83_f T1 (D1.fa hfa)), Sim_r (M' := rt ()) (muns125_f D1.2.1.2.2.1 hfa hf2.1)]
      exact Sim.ret (s1.hp R0 hi D1 (by omega) (by omega))
theorem bit_uns : lshl6 (1 : Int64) (38 : Int32) = n6 274877906944 := by decide +kernel
theorem mask_uns : ∀ k, (274877906944 : Nat).testBit k = true → k ∈ K0 := mask_ok (by omega) (by decide +kernel)
theorem sim_unsubscribe (R : Rel x i 12 96 e0 h r) (D : Rd x i bs p bs.length 0 h r) (hs : s < 12) (h7 : r.2.1 7 i = nn s) (hb : har h (x + 34) s = some b) (ho : r.2.1 1 i = 1) (hl : bs.length ≤ p + 400) (hp2 : 2 ≤ p) :
    Sim (C_X11_unsubscribe x (some (cA x i)) (some b) (2 : Int32)) h (R_unsubscribe) r (fun w h' _ r' => HP x i e0 bs.length h r w h' r') := by
  have T := R.st
  have hi := D.2.2.1.1
  have hpl := D.2.2.1.2.2.2.1
  have B := D.by
  obtain ⟨k1, k2, k3⟩ := T.in3
  have ee : C_X5_expect (x + 37) (2 : Int32) (2 : Int32) h = some ((), h) := by
    unfold C_X5_expect
    rw [if_pos rfl]
    rfl
  rw [Sim_l (uns_eq T), Sim_l (e_bd ee), sl_gR k1, k2, sl_Cv T.rd]
  unfold R_unsubscribe
  rw [sr_rI, D.2.1.1, sr_r7 hi, h7]
  refine sim_num (Kc := fun r28 => unsN x (some (cA x i)) (some b) r28) (Km := fun v => R_unsubscribe_J33 (nn s) v) D T (fun g2 g0 h1 r1 D1 s1 => ?_) (fun v h1 r1 p' f hf D1 s1 => ?_)
  · obtain ⟨num, en⟩ : ∃ z, z = b2 bs p := ⟨_, rfl⟩
    have hnum : num < 65536 := by rw [en]; exact B.two p
    rw [← en]
    have T1 := s1.st T
    obtain ⟨j1, j2, j3⟩ := T1.in3
    have z79 : r1.1 79 = 0 := D1.2.1.2.2.1
    unfold unsN R_unsubscribe_J33 R_bit
    rw [sl_gR j1, j3, sl_gR j1, j2, sl_Cv T1.pr, sr_rI, z79, sr_pos rfl, Sim_r x_rt, bit_uns, show (274877906944 : Int64) = n6 274877906944 from rfl]
    refine Sim.seq (sim_props (A := 274877906944) (by omega) mask_uns D1 T1 (by omega)) (fun _ h2 _ r2 z => ?_)
    obtain ⟨p', y1, y2, y3, y4⟩ := z
    have s2 : Sw x (p' - p) (p' - p) h h2 r r2 := (s1.sw.tr y3).le (by omega) (by omega)
    have T2 := s2.st T
    rw [sr_rI]
    rcases y4 with ⟨M, U, D2, P2, hMA, hTU⟩ | ⟨f, hf, D2, X2⟩
    · have z792 : r2.1 79 = 0 := D2.2.1.2.2.1
      rw [z792, sr_pos rfl]
      exact sim_unsP R s2 D2 hs hb ho hnum (by omega) ⟨hp2, by omega⟩
    · have hf2 := D2.2.2.1.2.2.2.2.1
      rw [D2.2.1.2.2.1, sr_neg (nn_ne0 (by omega) hf), Sim_l (P' := rt (nn f)) (unsP_f T2 (D2.fa hf)), Sim_r (M' := rt ()) (muns77_f D2.2.1.2.2.1 hf hf2.1)]
      exact Sim.ret (HP.of R s2 hi D2 (by omega) (by omega))
  · have T1 := s1.st T
    have hf2 := D1.2.2.1.2.2.2.2.1
    have hm : R_unsubscribe_J33 (nn s) v r1 = some ((), r1) := by
      unfold R_unsubscribe_J33
      rw [x_rI, D1.2.1.2.2.1, if_neg (nn_ne0 (by omega) hf)]
      rfl
    exact sim_flt R s1.sw hi D1 hf (by omega) (by omega) (unsN_f (l1 := some (cA x i)) (l2 := some b) (l4 := v) T1 (D1.fa hf)) hm
end UN2
