/-! ===== DISCONNECT by both ===== -/
section LE2
variable {x i p s b f re c e n : Nat} {e0 : Int32} {h h0 : Hp} {r r0 : RS} {bs : List Nat}
/-- how a DISCONNECT ends: the class tells 4 and has still to lose the connection, or a fault -/
def LvP (x i : Nat) (e0 : Int32) (len : Nat) (h0 : Hp) (r0 : RS) (P : Option (Int32 × Hp)) (M : Option (Unit × RS)) : Prop := ∃ w h1 r1, P = some (w, h1) ∧ ((w = 4 ∧ M = (bd (R_lost (nn i)) fun _ => rt ()) r1 ∧ Rel x i 12 96 e0 h1 r1 ∧ Kp x i h0 h1 r0 r1 ∧ (hcs h1).1 + WN r1 ≤ (hcs h0).1 + WN r0 + 60 * len ∧ (hcs h1).2 + 6 * WN r1 ≤ (hcs h0).2 + 6 * WN r0 + 700 * len) ∨ (M = some ((), r1) ∧ HP x i e0 len h0 r0 w h1 r1))
theorem sL_same {k : Nat} {v : Int64} (e : r.2.2 k n = v) : sL r k n v = r := by
  have q : (sL r k n v).2.2 = r.2.2 := by
    funext a c
    rw [sL_3]
    by_cases g : a = k ∧ c = n
    · rw [if_pos g, g.1, g.2, e]
    · rw [if_neg g]
  show (r.1, r.2.1, (sL r k n v).2.2) = r
  rw [q]
theorem mlev160_f (hf : r.1 79 = nn f) (h1 : f ≠ 0) (h2 : f < 256) {a b c : Int32} : R_disconnect_J160 a b c r = some ((), r) := by
  unfold R_disconnect_J160
  rw [x_rI, hf, if_neg (nn_ne0 (by omega) h1)]
  rfl
theorem mlev116_f (hf : r.1 79 = nn f) (h1 : f ≠ 0) (h2 : f < 256) {a b c : Int32} : R_disconnect_J116 a b c r = some ((), r) := by
  unfold R_disconnect_J116
  rw [x_rI, hf, if_neg (nn_ne0 (by omega) h1), mlev160_f hf h1 h2]
theorem mlev97_f (hf : r.1 79 = nn f) (h1 : f ≠ 0) (h2 : f < 256) {a b c : Int32} : R_disconnect_J97 a b c r = some ((), r) := by
  unfold R_disconnect_J97 R_disconnect_J115
  by_cases g : c = 0
  · rw [if_pos g, mlev116_f hf h1 h2]
  · rw [if_neg g, show (17 : Int32) = nn 17 from rfl, x_rA mL_82 (by omega) (by omega)]
    by_cases g2 : r.2.1 82 17 = 0
    · rw [if_pos g2, mlev116_f hf h1 h2]
    · rw [if_neg g2, mlev116_f hf h1 h2]
theorem mlev72_f (hf : r.1 79 = nn f) (h1 : f ≠ 0) (h2 : f < 256) {a b c : Int32} : R_disconnect_J72 a b c r = some ((), r) := by
  unfold R_disconnect_J72
  rw [x_rI, hf, if_neg (nn_ne0 (by omega) h1), mlev97_f hf h1 h2]
theorem lev_end (R0 : Rel x i 12 96 e0 h0 r0) (s0 : Sw x c c h0 h r0 r) (hc : c ≤ bs.length) (D : Rd x i bs p bs.length 0 h r) (hs : s < 12) (hb : har h0 (x + 34) s = some b) (h7 : r0.2.1 7 i = nn s) (he : e ≤ 4294967295) (hre : re < 256) : LvP x i e0 bs.length h0 r0 (C_X11_leave_J108 x (some b) (nn re) (n6 e) h) (R_disconnect_J186 (nn s) (nn re) (sL r 16 s (n6 e))) := by
  have hi := D.2.2.1.1
  have R := s0.rel R0
  have T := R.st
  have T0 := R0.st
  have hx0 := T0.1
  have e34 : har h (x + 34) = har h0 (x + 34) := (s0.1.2.2 (x + 34) (by omega) (fun z => by rcases z with z | z <;> omega)).2.1
  have hb1 : har h (x + 34) s = some b := by rw [e34]; exact hb
  have K0 := s0.kp T0 hi
  have h71 : r.2.1 7 i = nn s := by rw [K0.1.2.2.2.1]; exact h7
  obtain ⟨b', _, _, _, q15⟩ := R.at hi hs h71
  have h15 : r.2.1 15 s ≠ -1 := fun z => neg_nn (k := i) (by omega) (by rw [← z]; exact q15)
  have R1 := R.exp hs hb1 h15 he
  have R2 := R1.wno hs hb1
  have kb : hkd h b = 10 + 1 := (R.ses hs hb1).1.1
  have e4 : hfi h (100 * 7 + 4) (x + 37) = 0 := D.1.2.2.1
  have e75 : r.1 75 = nn i := D.2.1.1
  obtain ⟨k1, k2, k3⟩ := T.in3
  have c1 := s0.2.2.1
  have c2 := s0.2.2.2
  have w0 := s0.wn
  have p1 : Fm x [1011, 1013] (fun _ => False) h (sfl h 1013 b (n6 e)) := Fm.fl Fm.rf (Or.inl (by decide)) (Or.inl (by decide))
  have p2 : Fm x [1011, 1013] (fun _ => False) h (sfr (sfl h 1013 b (n6 e)) 1011 b none) := p1.fr (Or.inl (by decide)) (Or.inl (by decide))
  have w1 : Ro [16, 20] r (sL r 16 s (n6 e)) := Ro.rf.l (by decide)
  have w2 : Ro [16, 20] r (sA (sL r 16 s (n6 e)) 20 s (-1)) := w1.a (by decide)
  have K1 : Kp x i h0 (sfl h 1013 b (n6 e)) r0 (sL r 16 s (n6 e)) := K0.tr (Kp.of p1 w1 T hi (by decide) (fun z => z) (by decide))
  have K2 : Kp x i h0 (sfr (sfl h 1013 b (n6 e)) 1011 b none) r0 (sA (sL r 16 s (n6 e)) 20 s (-1)) := K0.tr (Kp.of p2 w2 T hi (by decide) (fun z => z) (by decide))
  have x1 : hcs (sfl h 1013 b (n6 e)) = hcs h := rfl
  have x2 : hcs (sfr (sfl h 1013 b (n6 e)) 1011 b none) = hcs h := rfl
  have y1 : WN (sL r 16 s (n6 e)) = WN r := rfl
  have y2 : WN (sA (sL r 16 s (n6 e)) 20 s (-1)) ≤ WN r := WN.wno
  unfold C_X11_leave_J108 R_disconnect_J186 R_disconnect_J197
  rw [e_gR k1, k2, e_gI T.rd, e4, if_pos rfl, e_pL kb]
  by_cases g : re = 0
  · rw [if_pos (show nn re = 0 by rw [g]; rfl), if_pos (show nn re = 0 by rw [g]; rfl), e_pR (by exact kb), x_wA mL_20 hs (by omega), x_rI]
    refine ⟨4, _, sA (sL r 16 s (n6 e)) 20 s (-1), rfl, Or.inl ⟨rfl, ?_, R2, K2, ?_, ?_⟩⟩
    · rw [show (sA (sL r 16 s (n6 e)) 20 s (-1)).1 75 = nn i from e75]
    · show (hcs (sfr (sfl h 1013 b (n6 e)) 1011 b none)).1 + _ ≤ _
      rw [x2]
      omega
    · show (hcs (sfr (sfl h 1013 b (n6 e)) 1011 b none)).2 + _ ≤ _
      rw [x2]
      omega
  · rw [if_neg (nn_ne0 (by omega) g), if_neg (nn_ne0 (by omega) g), x_rI]
    refine ⟨4, _, sL r 16 s (n6 e), rfl, Or.inl ⟨rfl, ?_, R1, K1, ?_, ?_⟩⟩
    · rw [show (sL r 16 s (n6 e)).1 75 = nn i from e75]
    · show (hcs (sfl h 1013 b (n6 e))).1 + _ ≤ _
      rw [x1, y1]
      omega
    · show (hcs (sfl h 1013 b (n6 e))).2 + _ ≤ _
      rw [x1, y1]
      omega
theorem LvP.flt {len q L : Nat} {M : Option (Unit × RS)} {P : Option (Int32 × Hp)} {c1 c2 : Nat} (R0 : Rel x i 12 96 e0 h0 r0) (s0 : Sw x c1 c2 h0 h r0 r) (hi : i < 8) (D : Rd x i bs q L f h r) (h1 : c1 ≤ 60 * len) (h2 : c2 ≤ 700 * len) (hP : P = some (nn f, h)) (hM : M = some ((), r)) : LvP x i e0 len h0 r0 P M := ⟨nn f, h, r, hP, Or.inr ⟨hM, HP.of R0 s0 hi D h1 h2⟩⟩
def levK (x : Nat) (l1 : Option Nat) (l3 : Int32) : Hp → Option (Int32 × Hp) := hgR 13 4 (some x) fun v7 => hgL 10 13 l1 fun v8 => hCv 6 v7 (fun a => C_X4_get a (17 : Int32) v8) fun r9 => if (lg_cmp r9 (0 : Int64)) = 0 then (C_X11_leave_J108 x l1 l3 r9) else (hgL 10 13 l1 fun v10 => if (lg_cmp v10 (0 : Int64)) = 0 then (hgR 13 3 (some x) fun v11 => hCv 7 v11 (fun a => C_X5_fail a (130 : Int32)) fun r12 => C_X11_leave_J108 x l1 l3 r9) else (C_X11_leave_J108 x l1 l3 r9))
theorem lev60_eq {l1 : Option Nat} {l3 : Int32} : C_X11_leave_J60 x l1 l3 = hgR 13 3 (some x) fun v5 => hCv 7 v5 (fun a => C_X5_finish a) fun _ => levK x l1 l3 := rfl
/-- behind the properties -/
theorem lev72 (R0 : Rel x i 12 96 e0 h0 r0) (s0 : Sw x c c h0 h r0 r) (hc : c ≤ bs.length) (D : Rd x i bs p bs.length 0 h r) (hs : s < 12) (hb : har h0 (x + 34) s = some b) (h7 : r0.2.1 7 i = nn s) (hre : re < 256) {l3 : Int32} (hP : (l3 = 0 ∧ hfl h 600 (x + 40) = 0) ∨ (l3 = 1 ∧ ∃ M U, Pp x i bs M U h r)) : LvP x i e0 bs.length h0 r0 (C_X11_leave_J60 x (some b) (nn re) h) (R_disconnect_J72 (nn s) (nn re) l3 r) := by
  have hi := D.2.2.1.1
  have hbl := D.2.2.1.2.2.1
  have hd := D.2.2.2 rfl
  have R := s0.rel R0
  have T := R.st
  have T0 := R0.st
  have hx0 := T0.1
  have e34 : har h (x + 34) = har h0 (x + 34) := (s0.1.2.2 (x + 34) (by omega) (fun z => by rcases z with z | z <;> omega)).2.1
  have hb1 : har h (x + 34) s = some b := by rw [e34]; exact hb
  have kb : hkd h b = 10 + 1 := (R.ses hs hb1).1.1
  obtain ⟨v1, ⟨ce, hce, ece⟩⟩ := (R.ses hs hb1).2.2.1.1
  have e13 : hfl h (100 * 10 + 13) b = n6 ce := v1.trans ece
  have x79 : r.1 79 = 0 := D.2.1.2.2.1
  obtain ⟨k1, k2, k3⟩ := T.in3
  unfold R_disconnect_J72
  rw [x_rI, x79, if_pos rfl, x_rI, hd.2.1, x_rI, D.2.1.2.1]
  by_cases g : p < bs.length
  · rw [if_neg (by rw [nn_le (by omega) (by omega)]; omega), e_bd (qm_fails x79)]
    have D1 := D.fl (v := 129) (by omega) (by omega)
    have s1 : Sc x 0 0 h (sfi h 704 (x + 37) (nn 129)) r (sI r 79 (nn 129)) := Sc.fl
    have T1 := s1.st T
    obtain ⟨j1, j2, j3⟩ := T1.in3
    have F1 := D1.fa (by omega)
    have ej : C_X11_leave_J60 x (some b) (nn re) h = C_X11_leave_J60 x (some b) (nn re) (sfi h 704 (x + 37) (nn 129)) := by
      have a1 : C_X11_leave_J60 x (some b) (nn re) h = levK x (some b) (nn re) (sfi h 704 (x + 37) (nn 129)) := by
        rw [lev60_eq, e_gR k1, k2, e_Cv T.rd, e_bd (D.finish T), if_pos g]
      have a2 : C_X11_leave_J60 x (some b) (nn re) (sfi h 704 (x + 37) (nn 129)) = levK x (some b) (nn re) (sfi h 704 (x + 37) (nn 129)) := by
        rw [lev60_eq, e_gR j1, j2, e_Cv T1.rd, e_bd (qc_finish_f T1 F1)]
      rw [a1, a2]
    obtain ⟨M, hM, hM2⟩ : ∃ M, hfl h 600 (x + 40) = n6 M ∧ M < 1099511627776 := by
      rcases hP with ⟨_, z⟩ | ⟨_, M, U, P⟩
      · exact ⟨0, z, by omega⟩
      · exact ⟨M, P.1.1, P.1.2.1⟩
    refine LvP.flt R0 (s0.tr s1.sw) hi D1 (by omega) (by omega) ?_ ?_
    · rw [ej, lev60_f T1 F1 (by exact kb) (by exact hM) hM2]
    · exact mlev97_f (f := 129) (by rw [sI_1, if_pos rfl]; rfl) (by omega) (by omega)
  · rw [if_pos (by rw [nn_le (by omega) (by omega)]; omega)]
    have ef := D.finish T
    rw [if_neg g] at ef
    have E := fun (e : Nat) (he : e ≤ 4294967295) => lev_end (e := e) (re := re) R0 s0 hc D hs hb h7 he hre
    have same : ∀ v : Int64, v = n6 ce → C_X4_get (x + 40) (nn 17) (n6 ce) h = some (v, h) → LvP x i e0 bs.length h0 r0 (C_X11_leave_J60 x (some b) (nn re) h) (R_disconnect_J116 (nn s) (nn re) 0 r) := fun v ev eg => by
      unfold C_X11_leave_J60 R_disconnect_J116 R_disconnect_J160
      rw [e_gR k1, k2, e_Cv T.rd, e_bd ef, e_gR k1, k3, e_gL kb, e13, e_Cv T.pr, show (17 : Int32) = nn 17 from rfl, e_bd eg, ev, x_rI, x79, if_pos rfl, if_pos rfl, x_rI, x79, if_pos rfl, if_pos rfl]
      have Ez := E ce hce
      rw [sL_same ece] at Ez
      by_cases gz : lg_cmp (n6 ce) (0 : Int64) = 0
      · rw [if_pos gz]
        exact Ez
      · rw [if_neg gz, e_gL kb, e13, if_neg gz]
        exact Ez
    unfold R_disconnect_J97 R_disconnect_J115
    rcases hP with ⟨l3e, z⟩ | ⟨l3e, M, U, P⟩
    · rw [l3e, if_pos rfl]
      exact same (n6 ce) rfl (qc_get0 (k := 17) T z (by omega)).1
    · rw [l3e, if_neg (by decide), show (17 : Int32) = nn 17 from rfl, x_rA mL_82 (by omega) (by omega), P.1.2.2 17 (by omega)]
      obtain ⟨eg, hg⟩ := qc_get (k := 17) (v := n6 ce) T P (by decide) (by decide) (by decide)
      by_cases g17 : M.testBit 17 = true
      · rw [if_pos g17] at eg
        obtain ⟨v, v1, v2⟩ := hg g17
        have v1' : v ≤ 4294967295 := v1
        rw [if_pos g17, if_neg (by decide)]
        unfold C_X11_leave_J60 R_disconnect_J116
        rw [x_rI, x79, if_pos rfl, if_neg (show ¬ (1 : Int32) = 0 by decide), show (17 : Int32) = nn 17 from rfl, x_rL mL_83 (by omega) (by omega), v2, e_gR k1, k2, e_Cv T.rd, e_bd ef, e_gR k1, k3, e_gL kb, e13, e_Cv T.pr, e_bd eg, v2]
        have fin : R_disconnect_J160 (nn s) (nn re) 1 r = R_disconnect_J186 (nn s) (nn re) (sL r 16 s (n6 v)) := by
          unfold R_disconnect_J160
          rw [x_rI, x79, if_pos rfl, if_neg (by decide), show (17 : Int32) = nn 17 from rfl, x_rL mL_83 (by omega) (by omega), v2, x_wL mL_16 hs (by omega)]
        by_cases gz : lg_cmp (n6 v) (0 : Int64) = 0
        · rw [if_pos gz, if_pos gz, fin]
          exact E v v1'
        · rw [if_neg gz, if_neg gz, e_gL kb, e13, x_rL mL_16 hs (by omega), ece]
          by_cases gc : lg_cmp (n6 ce) (0 : Int64) = 0
          · rw [if_pos gc, if_pos gc, e_gR k1, k2, e_Cv T.rd, e_bd (qc_fail T D.1.2.2.1), e_bd (qm_fails x79)]
            have D1 := D.fl (v := 130) (by omega) (by omega)
            have s1 : Sc x 0 0 h (sfi h 704 (x + 37) (nn 130)) r (sI r 79 (nn 130)) := Sc.fl
            exact LvP.flt R0 (s0.tr s1.sw) hi D1 (by omega) (by omega) (lev108_f (s1.st T) (D1.fa (by omega))) (mlev160_f (f := 130) (by rw [sI_1, if_pos rfl]; rfl) (by omega) (by omega))
          · rw [if_neg gc, if_neg gc, fin]
            exact E v v1'
      · rw [if_neg g17] at eg
        rw [if_neg g17, if_pos rfl]
        exact same (n6 ce) rfl eg
theorem bit_lev : (lshl6 (1 : Int64) (17 : Int32) ||| lshl6 (1 : Int64) (31 : Int32)) ||| lshl6 (1 : Int64) (38 : Int32) = n6 277025521664 := by decide +kernel
theorem mask_lev : ∀ k, (277025521664 : Nat).testBit k = true → k ∈ K0 := mask_ok (by omega) (by decide +kernel)
/-- behind the reason -/
theorem lev29 (R0 : Rel x i 12 96 e0 h0 r0) (s0 : Sw x c c h0 h r0 r) (hc : c ≤ p) (D : Rd x i bs p bs.length 0 h r) (hs : s < 12) (hb : har h0 (x + 34) s = some b) (h7 : r0.2.1 7 i = nn s) (hre : re < 256) (hl : bs.length < p + 400) (z600 : hfl h 600 (x + 40) = 0) : LvP x i e0 bs.length h0 r0 (C_X11_leave_J36 x (some b) (nn re) h) (R_disconnect_J29 (nn s) (nn re) r) := by
  have hi := D.2.2.1.1
  have hbl := D.2.2.1.2.2.1
  have hpl := D.2.2.1.2.2.2.1
  have hd := D.2.2.2 rfl
  have R := s0.rel R0
  have T := R.st
  have T0 := R0.st
  have hx0 := T0.1
  have e34 : har h (x + 34) = har h0 (x + 34) := (s0.1.2.2 (x + 34) (by omega) (fun z => by rcases z with z | z <;> omega)).2.1
  have hb1 : har h (x + 34) s = some b := by rw [e34]; exact hb
  obtain ⟨k1, k2, k3⟩ := T.in3
  unfold C_X11_leave_J36 R_disconnect_J29 R_disconnect_J46
  rw [e_gR k1, k2, e_Cv T.rd, e_bd (D.left T), x_rI, hd.2.1, x_rI, D.2.1.2.1]
  by_cases g : p < bs.length
  · rw [if_neg (by rw [show (0 : Int32) = nn 0 from rfl, nn_le (by omega) (by omega)]; omega), if_neg (by rw [nn_le (by omega) (by omega)]; omega), if_neg (by decide), e_gR k1, k3, e_gR k1, k2, e_Cv T.pr]
    unfold R_bit
    rw [x_rt, x_rt, x_rt, bit_lev, show (277025521664 : Int64) = n6 277025521664 from rfl]
    obtain ⟨_, h1, _, r1, q1, q2, p', y1, y2, y3, y4⟩ := sim_props (A := 277025521664) (by omega) mask_lev D T hl
    rw [e_bd q1, e_bd q2]
    have s1 : Sw x p' p' h0 h1 r0 r1 := (s0.tr y3).le (by omega) (by omega)
    rcases y4 with ⟨M, U, D1, P1, _⟩ | ⟨f, hf, D1, X1⟩
    · exact lev72 R0 s1 y2 D1 hs hb h7 hre (Or.inr ⟨rfl, M, U, P1⟩)
    · have T1 := s1.st T0
      have hf2 := D1.2.2.1.2.2.2.2.1
      obtain ⟨M, x1, x2⟩ := X1.1
      have kb1 : hkd h1 b = 10 + 1 := by
        have R1 := s1.rel R0
        have e34' : har h1 (x + 34) = har h0 (x + 34) := (s1.1.2.2 (x + 34) (by omega) (fun z => by rcases z with z | z <;> omega)).2.1
        exact (R1.ses hs (by rw [e34']; exact hb)).1.1
      exact LvP.flt R0 s1 hi D1 (by omega) (by omega) (lev60_f T1 (D1.fa hf) kb1 x2 x1) (mlev72_f D1.2.1.2.2.1 hf hf2.1)
  · rw [if_pos (by rw [show bs.length - p = 0 by omega]; decide), if_pos (by rw [nn_le (by omega) (by omega)]; omega), if_pos rfl]
    exact lev72 R0 s0 (by omega) D hs hb h7 hre (Or.inl ⟨rfl, z600⟩)
theorem sim_disc (R : Rel x i 12 96 e0 h r) (D : Rd x i bs p bs.length 0 h r) (hs : s < 12) (h7 : r.2.1 7 i = nn s) (hb : har h (x + 34) s = some b) (hl : bs.length ≤ p + 400) (hl2 : bs.length < p + 400 ∨ p < bs.length) : LvP x i e0 bs.length h r (C_X11_leave x (some b) (0 : Int32) h) (R_disconnect r) := by
  have hi := D.2.2.1.1
  have hbl := D.2.2.1.2.2.1
  have hpl := D.2.2.1.2.2.2.1
  have B := D.by
  have hd := D.2.2.2 rfl
  have T := R.st
  obtain ⟨k1, k2, k3⟩ := T.in3
  obtain ⟨h2, eh2⟩ : ∃ z, z = sfr (sfi (sfl h 600 (x + 40) 0) 605 (x + 40) 0) 607 (x + 40) none := ⟨_, rfl⟩
  have p2 : Fm x [600, 605, 607] (fun _ => False) h h2 := by
    rw [eh2]
    exact ((Fm.rf.fl (Or.inl (by decide)) (Or.inl (by decide))).fi (Or.inl (by decide)) (Or.inl (by decide))).fr (Or.inl (by decide)) (Or.inl (by decide))
  have T2 : Stat x h2 := T.sto p2.1
  obtain ⟨m1, m2, m3⟩ := T2.in3
  have D2 : Rd x i bs p bs.length 0 h2 r := D.fm T p2 (Ro.rf (S := [])) (by decide) (fun z => z) (by decide)
  have s2 : Sw x 0 0 h h2 r r := ⟨p2.sub (by decide) (fun _ z => z.elim), Ro.rf, by rw [eh2]; exact Nat.le_refl _, by rw [eh2]; exact Nat.le_refl _⟩
  have z600 : hfl h2 600 (x + 40) = 0 := by
    rw [eh2]
    show hfl (sfl h 600 (x + 40) 0) 600 (x + 40) = _
    rw [hfl_sfl, if_pos ⟨rfl, rfl⟩]
  unfold C_X11_leave R_disconnect
  rw [e_gR k1, k2, e_Cv T.rd, e_bd exp_ok, e_gR k1, k3, e_Cv T.pr, e_bd (qc_clear T), ← eh2, e_gR m1, m2, e_Cv T2.rd, e_bd (D2.left T2), x_rI, D.2.1.1, x_rA mL_7 hi (by omega), h7, x_rI, hd.2.1, x_rI, D.2.1.2.1]
  by_cases g : p < bs.length
  · rw [if_neg (by rw [show (0 : Int32) = nn 0 from rfl, nn_le (by omega) (by omega)]; omega), if_neg (by rw [nn_le (by omega) (by omega)]; omega), e_gR m1, m2, e_Cv T2.rd]
    obtain ⟨o1, o2⟩ := D2.one T2 g
    rw [e_bd o1, e_bd o2]
    have D3 := D2.mv (p' := p + 1) (by omega) (by omega)
    have s3 : Sc x 0 0 h2 (sfi h2 702 (x + 37) (nn (p + 1))) r (sI r 76 (nn (410 * i + (p + 1)))) := Sc.mv
    exact lev29 (c := 0) R (s2.tr s3.sw) (by omega) D3 hs hb h7 (B.at p) (by omega) z600
  · rw [if_pos (by rw [show bs.length - p = 0 by omega]; decide), if_pos (by rw [nn_le (by omega) (by omega)]; omega)]
    exact lev29 (c := 0) (re := 0) R s2 (by omega) D2 hs hb h7 (by omega) (by omega) z600
end LE2
