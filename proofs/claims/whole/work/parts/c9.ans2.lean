section AN2
variable {x i p L f n s b t v re len : Nat} {e0 : Int32} {h : Hp} {r : RS} {bs : List Nat}
/-- the end: nothing may be left, then it is done -/
theorem sim_ans75 {h0 : Hp} {r0 : RS} (R0 : Rel x i 12 96 e0 h0 r0) (s0 : Sw x (p - len) (p - len) h0 h r0 r) (D : Rd x i bs p bs.length 0 h r) (hs : s < 12) (h7 : r0.2.1 7 i = nn s) (ht : t = 4 ∨ t = 5 ∨ t = 6 ∨ t = 7) (hv : v < 65536) (hre : re < 256) (hb : har h0 (x + 34) s = some b) (ho : r0.2.1 1 i = 1) :
    Sim (C_X11_answered_J75 x (some (cA x i)) (some b) (nn t) (nn v) (nn re)) h (R_answered_J94 (nn t) (nn s) (nn v) (nn re)) r (fun w h' _ r' => HP x i e0 bs.length h0 r0 w h' r') := by
  have T0 := R0.st
  have R := s0.rel R0
  have T := R.st
  have hx0 := T0.1
  have hi := D.2.2.1.1
  have hbl := D.2.2.1.2.2.1
  have hd := D.2.2.2 rfl
  obtain ⟨k1, k2, _⟩ := T.in3
  have x79 : r.1 79 = 0 := D.2.1.2.2.1
  unfold C_X11_answered_J75 R_answered_J94
  rw [sl_gR k1, k2, sl_Cv T.rd, Sim_l (e_bd (D.finish T)), sr_rI, x79, sr_pos rfl, sr_rI, hd.2.1, sr_rI, D.2.1.2.1]
  by_cases g : p < bs.length
  · rw [if_pos g, sr_neg (by rw [nn_le (by omega) (by omega)]; omega), Sim_r (e_bd (qm_fails x79))]
    have D1 := D.fl (v := 129) (by omega) (by omega)
    have s1 : Sc x 0 0 h (sfi h 704 (x + 37) (nn 129)) r (sI r 79 (nn 129)) := Sc.fl
    have T1 := s1.st T
    have k2' : hfr (sfi h 704 (x + 37) (nn 129)) (100 * 13 + 3) x = some (x + 37) := k2
    have e4 : hfi (sfi h 704 (x + 37) (nn 129)) (100 * 7 + 4) (x + 37) = nn 129 := D1.1.2.2.1
    have em : R_answered_J119 (nn t) (nn s) (nn v) (nn re) (sI r 79 (129 : Int32)) = some ((), sI r 79 (nn 129)) := ans119_f (f := 129) (by rw [sI_1, if_pos rfl]; rfl) (by omega) (by omega)
    rw [sl_gR (by exact k1), k2', sl_gI (by exact T.rd), e4, sl_neg (by decide), sl_gR (by exact k1), k2', sl_gI (by exact T.rd), e4, Sim_r (M' := rt ()) (r' := sI r 79 (nn 129)) em]
    exact Sim.ret (HP.of R0 (s0.tr s1.sw) hi D1 (by omega) (by omega))
  · rw [if_neg g, sr_pos (by rw [nn_le (by omega) (by omega)]; omega)]
    have e4 : hfi h (100 * 7 + 4) (x + 37) = 0 := D.1.2.2.1
    have e34 : har h (x + 34) = har h0 (x + 34) := (s0.1.2.2 (x + 34) (by omega) (fun z => by rcases z with z | z <;> omega)).2.1
    rw [sl_gR k1, k2, sl_gI T.rd, e4, sl_pos rfl]
    have K0 := s0.kp T0 hi
    refine (sim_ansD (e0 := e0) R hi hs (by rw [e34]; exact hb) (by rw [K0.1.1]; exact ho) D.2.1.1 x79 ht hv hre).mono (fun w h' _ r' z => ?_)
    obtain ⟨z1, z2, z3, z4, z5, z6⟩ := z
    refine HP.tr R0 s0 hi z2 z3 ⟨0, z4, z1, by omega, Or.inl rfl⟩ ?_ ?_
    · rw [z5]
      omega
    · rw [z5]
      omega
theorem bit_31_38 : lshl6 (1 : Int64) (31 : Int32) ||| lshl6 (1 : Int64) (38 : Int32) = n6 277025390592 := by decide +kernel
/-- the properties, if there are any -/
theorem sim_ans51 {h0 : Hp} {r0 : RS} (R0 : Rel x i 12 96 e0 h0 r0) (hlen : len ≤ p) (hl2 : bs.length < p + 400) (s0 : Sw x (p - len) (p - len) h0 h r0 r) (D : Rd x i bs p bs.length 0 h r) (hs : s < 12) (h7 : r0.2.1 7 i = nn s) (ht : t = 4 ∨ t = 5 ∨ t = 6 ∨ t = 7) (hv : v < 65536) (hre : re < 256) (hb : har h0 (x + 34) s = some b) (ho : r0.2.1 1 i = 1) :
    Sim (C_X11_answered_J51 x (some (cA x i)) (some b) (nn t) (nn v) (nn re)) h (R_answered_J59 (nn t) (nn s) (nn v) (nn re)) r (fun w h' _ r' => HP x i e0 bs.length h0 r0 w h' r') := by
  have T0 := R0.st
  have R := s0.rel R0
  have T := R.st
  have hi := D.2.2.1.1
  have hbl := D.2.2.1.2.2.1
  have hd := D.2.2.2 rfl
  obtain ⟨k1, k2, k3⟩ := T.in3
  have x79 : r.1 79 = 0 := D.2.1.2.2.1
  unfold C_X11_answered_J51 R_answered_J59
  rw [sl_gR k1, k2, sl_Cv T.rd, Sim_l (e_bd (D.left T)), sr_rI, x79, sr_pos rfl, sr_rI, hd.2.1, sr_rI, D.2.1.2.1]
  by_cases g : p < bs.length
  · rw [sl_neg (by rw [show (0 : Int32) = nn 0 from rfl, nn_le (by omega) (by omega)]; omega), sr_neg (by rw [nn_le (by omega) (by omega)]; omega), sl_gR k1, k3, sl_gR k1, k2, sl_Cv T.pr]
    unfold R_bit
    rw [Sim_r x_rt, Sim_r x_rt, bit_31_38, show (277025390592 : Int64) = n6 277025390592 from rfl]
    have hA : ∀ k, (277025390592 : Nat).testBit k = true → k ∈ K0 := fun k hk => by
      rw [show (277025390592 : Nat) = 2 ^ 31 ||| 2 ^ 38 by decide, Nat.testBit_or, Nat.testBit_two_pow, Nat.testBit_two_pow, Bool.or_eq_true, decide_eq_true_iff, decide_eq_true_iff] at hk
      rcases hk with z | z <;> subst z <;> decide
    refine Sim.seq (sim_props (A := 277025390592) (by omega) hA D T hl2) (fun _ h1 _ r1 z => ?_)
    obtain ⟨p', y1, y2, y3, y4⟩ := z
    have s1 : Sw x (p' - len) (p' - len) h0 h1 r0 r1 := (s0.tr y3).le (by omega) (by omega)
    rcases y4 with ⟨M, U, D1, _⟩ | ⟨f, hf, D1, _⟩
    · exact sim_ans75 R0 s1 D1 hs h7 ht hv hre hb ho
    · have T1 := s1.st T0
      have hf2 := D1.2.2.1.2.2.2.2.1
      rw [Sim_l (P' := rt (nn f)) (ans75_f T1 (D1.fa hf)), Sim_r (M' := rt ()) (ans94_f D1.2.1.2.2.1 hf hf2.1)]
      exact Sim.ret (HP.of R0 s1 hi D1 (by omega) (by omega))
  · rw [sl_pos (by rw [show bs.length - p = 0 by omega]; decide), sr_pos (by rw [nn_le (by omega) (by omega)]; omega)]
    exact sim_ans75 R0 s0 D hs h7 ht hv hre hb ho
theorem sim_answered (R : Rel x i 12 96 e0 h r) (D : Rd x i bs p bs.length 0 h r) (hs : s < 12) (h7 : r.2.1 7 i = nn s) (hb : har h (x + 34) s = some b) (ho : r.2.1 1 i = 1) (ht : t = 4 ∨ t = 5 ∨ t = 6 ∨ t = 7) (hl2 : bs.length ≤ p + 400) :
    Sim (C_X11_answered x (some (cA x i)) (some b) (nn t) (if t = 6 then 2 else 0)) h (R_answered (nn t)) r (fun w h' _ r' => HP x i e0 bs.length h r w h' r') := by
  have T := R.st
  have hi := D.2.2.1.1
  have hbl := D.2.2.1.2.2.1
  have hd := D.2.2.2 rfl
  have B := D.by
  obtain ⟨k1, k2, k3⟩ := T.in3
  have x79 : r.1 79 = 0 := D.2.1.2.2.1
  have c17 : C_X11_answered x (some (cA x i)) (some b) (nn t) (if t = 6 then 2 else 0) h = bd (C_X5_number (x + 37)) (fun r21 => ansN x (some (cA x i)) (some b) (nn t) r21) h := by
    have j17 : ∀ w : Int32, C_X11_answered_J17 x (some (cA x i)) (some b) (nn t) (some (x + 37)) w w h = bd (C_X5_number (x + 37)) (fun r21 => ansN x (some (cA x i)) (some b) (nn t) r21) h := fun w => by
      unfold C_X11_answered_J17
      rw [e_Cv (c := 7) T.rd]
      have ee : C_X5_expect (x + 37) w w h = some ((), h) := by
        unfold C_X5_expect
        rw [if_pos rfl]
        rfl
      rw [e_bd ee, e_gR (c := 13) k1, k2, e_Cv (c := 7) T.rd]
      rfl
    unfold C_X11_answered
    rw [e_gR (c := 13) k1, k2]
    by_cases g : t = 6
    · rw [if_pos (by rw [g]; rfl), if_pos g, j17]
    · rw [if_neg (fun z : nn t = (6 : Int32) => g (nn_inj (b := 6) (by omega) (by omega) z)), if_neg g, j17]
  rw [Sim_l c17]
  unfold R_answered
  rw [sr_rI, D.2.1.1, sr_r7 hi, h7]
  by_cases g2 : p + 2 ≤ bs.length
  · obtain ⟨e1, e2⟩ := D.two T g2
    have hv := B.two p
    have D1 := D.mv (p' := p + 2) g2 (by omega)
    have s1 : Sc x 0 0 h (sfi h 702 (x + 37) (nn (p + 2))) r (sI r 76 (nn (410 * i + (p + 2)))) := Sc.mv
    have T1 := s1.st T
    have z79 : (sI r 76 (nn (410 * i + (p + 2)))).1 79 = 0 := D1.2.1.2.2.1
    rw [Sim_r (e_bd e2), sr_rI, z79, sr_pos rfl]
    by_cases g0 : b2 bs p = 0
    · have en : C_X5_number (x + 37) h = some (nn (b2 bs p), sfi (sfi h 702 (x + 37) (nn (p + 2))) 704 (x + 37) (nn 130)) := by
        unfold C_X5_number
        rw [e_Cv (c := 7) T.rd, e_bd e1, if_pos (by rw [g0]; rfl), e_Cv (c := 7) T1.rd, e_bd (qc_fail T1 D1.1.2.2.1)]
        rfl
      have D2 := D1.fl (v := 130) (by omega) (by omega)
      have s2 := s1.tr (Sc.fl (h := sfi h 702 (x + 37) (nn (p + 2))) (r := sI r 76 (nn (410 * i + (p + 2)))) (v := nn 130) (w := nn 130))
      have em : R_answered_J33 (nn t) (nn s) (nn (b2 bs p)) (sI (sI r 76 (nn (410 * i + (p + 2)))) 79 (130 : Int32)) = some ((), sI (sI r 76 (nn (410 * i + (p + 2)))) 79 (nn 130)) := ans33_f (f := 130) (by rw [sI_1, if_pos rfl]; rfl) (by omega) (by omega)
      rw [Sim_l (e_bd en), sr_pos (by rw [g0]; rfl), Sim_r (e_bd (qm_fails z79)), Sim_l (P' := rt (nn 130)) (ansN_f (s2.st T) (D2.fa (by omega))), Sim_r (M' := rt ()) (r' := sI (sI r 76 (nn (410 * i + (p + 2)))) 79 (nn 130)) em]
      exact Sim.ret (HP.of R s2.sw hi D2 (by omega) (by omega))
    · have en : C_X5_number (x + 37) h = some (nn (b2 bs p), sfi h 702 (x + 37) (nn (p + 2))) := by
        unfold C_X5_number
        rw [e_Cv (c := 7) T.rd, e_bd e1, if_neg (nn_ne0 (by omega) g0)]
        rfl
      rw [Sim_l (e_bd en), sr_neg (nn_ne0 (by omega) g0)]
      obtain ⟨q1, q2, _⟩ := T1.in3
      unfold ansN R_answered_J33 R_answered_J58
      rw [sl_gR q1, q2, sl_Cv T1.rd, Sim_l (e_bd (D1.left T1)), sr_rI, z79, sr_pos rfl, sr_rI]
      have hd1 := D1.2.2.2 rfl
      rw [hd1.2.1, sr_rI, D1.2.1.2.1]
      by_cases g3 : p + 2 < bs.length
      · obtain ⟨f1, f2⟩ := D1.one T1 g3
        have D2 := D1.mv (p' := p + 2 + 1) (by omega) (by omega)
        have s2 := s1.tr (Sc.mv (h := sfi h 702 (x + 37) (nn (p + 2))) (r := sI r 76 (nn (410 * i + (p + 2)))) (v := nn (p + 2 + 1)) (w := nn (410 * i + (p + 2 + 1))))
        rw [sl_neg (by rw [show (0 : Int32) = nn 0 from rfl, nn_le (by omega) (by omega)]; omega), sl_gR q1, q2, sl_Cv T1.rd, Sim_l (e_bd f1), sr_neg (by rw [nn_le (by omega) (by omega)]; omega), Sim_r (e_bd f2)]
        exact sim_ans51 (len := p) R (by omega) (by omega) (s2.sw.le (by omega) (by omega)) D2 hs h7 ht hv (B.at (p + 2)) hb ho
      · rw [sl_pos (by rw [show bs.length - (p + 2) = 0 by omega]; decide), sr_pos (by rw [nn_le (by omega) (by omega)]; omega)]
        exact sim_ans51 (len := p) (re := 0) R (by omega) (by omega) (s1.sw.le (by omega) (by omega)) D1 hs h7 ht hv (by omega) hb ho
  · obtain ⟨e1, e2⟩ := D.two0 T (by omega)
    have D1 := D.fl (v := 129) (by omega) (by omega)
    have s1 : Sc x 0 0 h (sfi h 704 (x + 37) (nn 129)) r (sI r 79 (nn 129)) := Sc.fl
    have T1 := s1.st T
    have en : C_X5_number (x + 37) h = some (0, sfi h 704 (x + 37) (nn 129)) := by
      unfold C_X5_number
      rw [e_Cv (c := 7) T.rd, e_bd e1, if_pos rfl, e_Cv (c := 7) T1.rd, e_bd (qc_fail_f T1 (D1.fa (by omega)))]
      rfl
    have z79 : (sI r 79 (nn 129)).1 79 = nn 129 := by rw [sI_1, if_pos rfl]
    rw [Sim_l (e_bd en), Sim_r (e_bd e2), sr_rI, z79, sr_neg (by decide), Sim_l (P' := rt (nn 129)) (ansN_f T1 (D1.fa (by omega))), Sim_r (M' := rt ()) (r' := sI r 79 (nn 129)) (ans33_f (f := 129) z79 (by omega) (by omega))]
    exact Sim.ret (HP.of R s1.sw hi D1 (by omega) (by omega))
end AN2
