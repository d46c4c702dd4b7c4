section PU3
variable {x i p L f n s b M fl q num ps pp av o tA tB : Nat} {e0 : Int32} {h h' h0 : Hp} {r r' r0 : RS} {bs U TP ys : List Nat}
theorem qc_resp_f (T : Stat x h) (F : Fa x f h) (X : FPx x h) : C_X4_checkResponse (x + 40) (some (x + 37)) h = some ((), h) := by
  unfold C_X4_checkResponse
  rw [e_gR T.pr]
  rcases X.2 with z | ⟨a, ys, z1, z2, z3⟩
  · rw [show hfr h (100 * 6 + 7) (x + 40) = none from z, if_pos rfl]
    rfl
  · rw [show hfr h (100 * 6 + 7) (x + 40) = some a from z1, if_neg (fun z => by cases z), e_gR T.pr, show hfr h (100 * 6 + 7) (x + 40) = some a from z1, e_Cv (c := 9) z2.1, e_bd (qc_isTopic z2 z3)]
    by_cases g : tpc ys = true
    · rw [if_pos g, if_neg (by decide)]
      rfl
    · rw [if_neg g, if_pos rfl, e_Cv (c := 7) T.rd, e_bd (qc_fail_f T F)]
      rfl
theorem pubR_f {l1 l2 l5 : Option Nat} {l3 l4 l6 : Int32} (T : Stat x h) (F : Fa x f h) (X : FPx x h) : pubR x l1 l2 l3 l4 l5 l6 h = some (nn f, h) := by
  obtain ⟨k1, k2, k3⟩ := T.in3
  obtain ⟨M, m1, m2⟩ := X.1
  unfold pubR
  rw [e_gR k1, k3, e_gR k1, k2, e_Cv T.pr, e_bd (qc_resp_f T F X), pubA_f T F m2 m1]
theorem bit_pub : ((((((lshl6 (1 : Int64) (1 : Int32) ||| lshl6 (1 : Int64) (2 : Int32)) ||| lshl6 (1 : Int64) (3 : Int32)) ||| lshl6 (1 : Int64) (8 : Int32)) ||| lshl6 (1 : Int64) (9 : Int32)) ||| lshl6 (1 : Int64) (35 : Int32)) ||| lshl6 (1 : Int64) (38 : Int32)) = n6 309237646094 := by decide +kernel
theorem mask_pub : ∀ k, (309237646094 : Nat).testBit k = true → k ∈ K0 := mask_ok (by omega) (by decide +kernel)
theorem sim_pubP (R0 : Rel x i 12 96 e0 h0 r0) (s0 : Sw x (p - ps) (p - ps) h0 h r0 r) (D : Rd x i bs p bs.length 0 h r) (hs : s < 12) (h7 : r0.2.1 7 i = nn s) (hb : har h0 (x + 34) s = some b) (ho : r0.2.1 1 i = 1) (W : Rw x h tA ys) (hoo : o + ys.length ≤ 3280) (h6 : Mg (r.2.1 6) o ys) (hys : ys = [] ∨ tpc ys = true) (hq : q ≤ 2) (hfl : fl < 16) (hn : num < 65536) (hl : bs.length < p + 400) (hps : 2 ≤ ps ∧ ps ≤ p) :
    Sim (C_X11_publish_J86 x (some (cA x i)) (some b) (nn fl) (nn q) (some tA) (nn num)) h (R_publish_J91 (nn q) (nn (fl % 2)) (nn s) (nn o) (nn ys.length) (nn num)) r (fun w h' _ r' => HP x i e0 bs.length h0 r0 w h' r') := by
  have hi := D.2.2.1.1
  have R := s0.rel R0
  have T := R.st
  obtain ⟨k1, k2, k3⟩ := T.in3
  have z79 : r.1 79 = 0 := D.2.1.2.2.1
  unfold R_publish_J91 R_bit
  rw [sr_rI, z79, sr_pos rfl, Sim_r x_rt, Sim_r x_rt, Sim_r x_rt, Sim_r x_rt, Sim_r x_rt, Sim_r x_rt, Sim_r x_rt, bit_pub]
  have cl : C_X11_publish_J86 x (some (cA x i)) (some b) (nn fl) (nn q) (some tA) (nn num) h = (bd (C_X4_read (x + 40) (some (x + 37)) (n6 309237646094)) fun _ => pubR x (some (cA x i)) (some b) (nn fl) (nn q) (some tA) (nn num)) h := by
    unfold C_X11_publish_J86
    rw [e_gR k1, k3, e_gR k1, k2, e_Cv T.pr]
    rfl
  rw [Sim_l cl]
  refine Sim.seq (sim_props (A := 309237646094) (by omega) mask_pub D T hl) (fun _ h1 _ r1 z => ?_)
  obtain ⟨p', y1, y2, y3, y4⟩ := z
  show Sim _ h1 (mRsp (R_publish_J189 (nn q) (nn (fl % 2)) (nn s) (nn o) (nn ys.length) (nn num))) r1 _
  have s1 : Sw x (p' - ps) (p' - ps) h0 h1 r0 r1 := (s0.tr y3).le (by omega) (by omega)
  have T1 := s1.st R0.st
  rcases y4 with ⟨M, U, D1, P1, hMA, hTU⟩ | ⟨f, hf, D1, X1⟩
  · have W1 : Rw x h1 tA ys := W.stp y3.1.1
    have h61 : Mg (r1.2.1 6) o ys := by rw [y3.2.1.gA (by decide)]; exact h6
    obtain ⟨j1, j2, j3⟩ := T1.in3
    unfold pubR
    rw [sl_gR j1, j3, sl_gR j1, j2, sl_Cv T1.pr]
    rcases resp_or (β := Unit) D1 P1 T1 with ⟨a1, a2⟩ | ⟨a1, a2⟩
    · rw [Sim_l (e_bd a1), Sim_r (a2 _)]
      exact sim_pubA R0 s1 D1 P1 hs h7 hb ho W1 hoo h61 hys hq hfl hn (by omega) ⟨hps.1, by omega⟩
    · rw [Sim_l (e_bd a1), Sim_r (a2 _)]
      have D2 := D1.fl (v := 130) (by omega) (by omega)
      have s2 := s1.tr (Sc.fl (h := h1) (r := r1) (v := nn 130) (w := nn 130)).sw
      have T2 := s2.st R0.st
      rw [Sim_l (P' := rt (nn 130)) (pubA_f (M := M) T2 (D2.fa (by omega)) P1.1.1 P1.1.2.1), Sim_r (M' := rt ()) (mpub189_f (f := 130) (by rw [sI_1, if_pos rfl]) (by omega) (by omega))]
      exact Sim.ret (HP.of R0 s2 hi D2 (by omega) (by omega))
  · have hf2 := D1.2.2.1.2.2.2.2.1
    rw [Sim_l (P' := rt (nn f)) (pubR_f T1 (D1.fa hf) X1), Sim_r (mRsp_f _ D1.2.1.2.2.1 hf hf2.1), Sim_r (M' := rt ()) (mpub189_f D1.2.1.2.2.1 hf hf2.1)]
    exact Sim.ret (HP.of R0 s1 hi D1 (by omega) (by omega))
/-- the number, if there is one -/
theorem sim_pubN (R0 : Rel x i 12 96 e0 h0 r0) (s0 : Sw x (p - ps) (p - ps) h0 h r0 r) (D : Rd x i bs p bs.length 0 h r) (hs : s < 12) (h7 : r0.2.1 7 i = nn s) (hb : har h0 (x + 34) s = some b) (ho : r0.2.1 1 i = 1) (W : Rw x h tA ys) (hoo : o + ys.length ≤ 3280) (h6 : Mg (r.2.1 6) o ys) (hys : ys = [] ∨ tpc ys = true) (hq : q ≤ 2) (hfl : fl < 16) (hl : bs.length < p + 400) (hps : 2 ≤ ps ∧ ps ≤ p) :
    Sim (C_X11_publish_J70 x (some (cA x i)) (some b) (nn fl) (nn q) (some tA)) h (R_publish_J59 (nn q) (nn (fl % 2)) (nn s) (nn o) (nn ys.length)) r (fun w h' _ r' => HP x i e0 bs.length h0 r0 w h' r') := by
  have hi := D.2.2.1.1
  have R := s0.rel R0
  have T := R.st
  obtain ⟨k1, k2, k3⟩ := T.in3
  unfold C_X11_publish_J70 R_publish_J59
  by_cases z : q = 0
  · subst z
    rw [sl_pos (by decide), sr_pos (by decide)]
    exact sim_pubP (num := 0) R0 s0 D hs h7 hb ho W hoo h6 hys hq hfl (by omega) hl hps
  · rw [sl_neg (by rw [l_0, nn_le (by omega) (by omega)]; omega), sr_neg (by rw [l_0, nn_le (by omega) (by omega)]; omega), sl_gR k1, k2, sl_Cv T.rd]
    refine sim_num (Kc := fun r32 => C_X11_publish_J86 x (some (cA x i)) (some b) (nn fl) (nn q) (some tA) r32) (Km := fun v => R_publish_J91 (nn q) (nn (fl % 2)) (nn s) (nn o) (nn ys.length) v) D T (fun g2 g0 h1 r1 D1 s1 => ?_) (fun v h1 r1 p' f hf D1 s1 => ?_)
    · have s2 := (s0.tr s1.sw).le (show p - ps + 0 ≤ p + 2 - ps by omega) (show p - ps + 0 ≤ p + 2 - ps by omega)
      exact sim_pubP R0 s2 D1 hs h7 hb ho (W.stp s1.1.1) hoo (by rw [s1.2.1.gA (by decide)]; exact h6) hys hq hfl (D.by.two p) (by omega) ⟨hps.1, by omega⟩
    · have s2 := (s0.tr s1.sw)
      have T1 := s2.st R0.st
      have hf2 := D1.2.2.1.2.2.2.2.1
      have hpl := D.2.2.1.2.2.2.1
      obtain ⟨h2, e2, s3⟩ := pub86_f (r := r1) (l1 := some (cA x i)) (l2 := some b) (l3 := nn fl) (l4 := nn q) (l5 := some tA) (l6 := v) T1 (D1.fa hf)
      rw [Sim_l (P' := rt (nn f)) e2, Sim_r (M' := rt ()) (mpub91_f D1.2.1.2.2.1 hf hf2.1)]
      have s4 := s2.tr s3
      exact Sim.ret ⟨s4.rel R0, s4.kp R0.st hi, ⟨f, D1.2.1.2.2.1, rfl, hf2⟩, by have := s4.2.2.1; have := s4.wn; omega, by have := s4.2.2.2; have := s4.wn; omega⟩
/-- a fault that was there at the beginning -/
theorem sim_pubF (R0 : Rel x i 12 96 e0 h0 r0) (s0 : Sw x (p - ps) (p - ps) h0 h r0 r) (hi : i < 8) (D : Rd x i bs p bs.length f h r) (hf : f ≠ 0) {Pc : Hp → Option (Int32 × Hp)} {Pm' : RS → Option (Unit × RS)} (hc : ∃ h', Pc h = some (nn f, h') ∧ Sw x 0 0 h h' r r) (hm : Pm' r = some ((), r)) : Sim Pc h Pm' r (fun w h' _ r' => HP x i e0 bs.length h0 r0 w h' r') := by
  have hf2 := D.2.2.1.2.2.2.2.1
  have hpl := D.2.2.1.2.2.2.1
  obtain ⟨h2, e2, s3⟩ := hc
  rw [Sim_l (P' := rt (nn f)) e2, Sim_r (M' := rt ()) hm]
  have s4 := s0.tr s3
  exact Sim.ret ⟨s4.rel R0, s4.kp R0.st hi, ⟨f, D.2.1.2.2.1, rfl, hf2⟩, by have := s4.2.2.1; have := s4.wn; omega, by have := s4.2.2.2; have := s4.wn; omega⟩
theorem sim_publish (R : Rel x i 12 96 e0 h r) (D : Rd x i bs p bs.length 0 h r) (hs : s < 12) (h7 : r.2.1 7 i = nn s) (hb : har h (x + 34) s = some b) (ho : r.2.1 1 i = 1) (hfl : fl < 16) (hq : fl / 2 % 4 ≠ 3) (hq8 : ¬ (8 ≤ fl ∧ fl / 2 % 4 = 0)) (hl : bs.length ≤ p + 400) (hp2 : 2 ≤ p) :
    Sim (C_X11_publish x (some (cA x i)) (some b) (nn fl)) h (R_publish (nn (fl / 2 % 4)) (nn (fl % 2))) r (fun w h' _ r' => HP x i e0 bs.length h r w h' r') := by
  have T := R.st
  have hi := D.2.2.1.1
  have hbl := D.2.2.1.2.2.1
  have hp1 := D.2.2.1.2.2.2.2.2
  have B := D.by
  obtain ⟨k1, k2, k3⟩ := T.in3
  obtain ⟨q, hqq⟩ : ∃ q, q = fl / 2 % 4 := ⟨_, rfl⟩
  have cl : C_X11_publish x (some (cA x i)) (some b) (nn fl) h = C_X11_publish_J34 x (some (cA x i)) (some b) (nn fl) (nn q) h := by
    unfold C_X11_publish lq
    rw [fl_q fl hfl, ← hqq]
    dsimp only
    rw [if_neg (fun z : nn q = (3 : Int32) => hq (by rw [← hqq]; exact nn_inj (b := 3) (by omega) (by omega) z))]
    by_cases g : fl < 8
    · rw [if_pos (by rw [l_8, nn_lt (by omega) (by omega)]; exact g)]
    · rw [if_neg (by rw [l_8, nn_lt (by omega) (by omega)]; exact g), if_neg (nn_ne0 (by omega) (by omega))]
  rw [Sim_l cl, ← hqq]
  unfold C_X11_publish_J34 R_publish
  rw [sl_gR k1, k2, sl_Cv T.rd, sr_rI, D.2.1.1, sr_r7 hi, h7]
  refine Sim.seq (sim_str D T) (fun v h1 _ r1 z => ?_)
  obtain ⟨⟨p', z2, z3, z4, z5⟩, _⟩ := z
  have T1 := z2.st T
  obtain ⟨j1, j2, j3⟩ := T1.in3
  have s1 : Sw x (p' - p) (p' - p) h h1 r r1 := z2.sw
  rw [sr_rI, sr_rI, sr_rI]
  rcases z5 with ⟨g1, g2, g3, g4, g5, g6, g7, D1⟩ | ⟨g2, D1⟩
  · obtain ⟨ys, hys⟩ : ∃ z, z = sl bs (p + 2) (b2 bs p) := ⟨_, rfl⟩
    have yl : ys.length = b2 bs p := by rw [hys]; exact sl_len (by omega)
    rw [← hys] at g5
    have h6 : Mg (r1.2.1 6) (410 * i + (p + 2)) ys := by rw [hys]; exact D1.2.1.2.2.2.slc (by omega)
    have z79 : r1.1 79 = 0 := D1.2.1.2.2.1
    rw [g1, sl_Cv (c := 9) g5.1, Sim_l (e_bd (qc_count g5)), z79, sr_pos rfl, g6, g7, ← yl]
    by_cases y0 : ys.length = 0
    · rw [sl_pos (by rw [y0]; decide), sr_pos (by rw [y0]; decide)]
      exact sim_pubN R s1 D1 hs h7 hb ho g5 (by omega) h6 (Or.inl (List.eq_nil_of_length_eq_zero y0)) (by omega) hfl (by omega) ⟨hp2, by omega⟩
    · have e1 := qc_isTopic g5 (by omega)
      have e2 := qm_isTopic (r := r1) h6 g5.2.2.1 (by omega) (by omega)
      rw [sl_neg (by rw [l_0, nn_le (by omega) (by omega)]; omega), sr_neg (by rw [l_0, nn_le (by omega) (by omega)]; omega), sl_Cv (c := 9) g5.1, Sim_l (e_bd e1), Sim_r (e_bd e2)]
      by_cases gt : tpc ys = true
      · rw [if_pos gt, sl_neg (by decide), sr_neg (by decide)]
        exact sim_pubN R s1 D1 hs h7 hb ho g5 (by omega) h6 (Or.inr gt) (by omega) hfl (by omega) ⟨hp2, by omega⟩
      · rw [if_neg gt, sl_pos rfl, sr_pos rfl, sl_gR j1, j2, sl_Cv T1.rd, Sim_l (e_bd (qc_fail T1 D1.1.2.2.1)), Sim_r (e_bd (qm_fails z79))]
        have D2 := D1.fl (v := 144) (by omega) (by omega)
        have s2 := s1.tr (Sc.fl (h := h1) (r := r1) (v := nn 144) (w := nn 144)).sw
        exact sim_pubF R s2 hi D2 (by omega) (pub70_f (s2.st T) (D2.fa (by omega))) (mpub59_f (f := 144) (by rw [sI_1, if_pos rfl]) (by omega) (by omega))
  · have z79 : r1.1 79 = nn 129 := D1.2.1.2.2.1
    rw [g2, sl_Cv (c := 9) T1.nil.1, Sim_l (e_bd (qc_count T1.nil)), sl_pos (by decide), z79, sr_neg (by decide)]
    exact sim_pubF R s1 hi D1 (by omega) (pub70_f T1 (D1.fa (by omega))) (mpub59_f z79 (by omega) (by omega))
/-- flags that may not stand: the class reads on and tells the fault -/
theorem pub_bad (D : Rd x i bs p bs.length 0 h r) (T : Stat x h) (hfl : fl < 16) (hq : fl / 2 % 4 = 3 ∨ (8 ≤ fl ∧ fl / 2 % 4 = 0)) {l1 l2 : Option Nat} : ∃ h', C_X11_publish x l1 l2 (nn fl) h = some (nn 129, h') ∧ Sw x 0 0 h h' r (sI r 79 (nn 129)) := by
  obtain ⟨k1, k2, k3⟩ := T.in3
  have D1 := D.fl (v := 129) (by omega) (by omega)
  have s1 : Sc x 0 0 h (sfi h 704 (x + 37) (nn 129)) r (sI r 79 (nn 129)) := Sc.fl
  have T1 := s1.st T
  obtain ⟨h', e1, s2⟩ := pub34_f (r := sI r 79 (nn 129)) (l1 := l1) (l2 := l2) (l3 := nn fl) (l4 := nn (fl / 2 % 4)) T1 (D1.fa (by omega))
  refine ⟨h', ?_, s1.sw.tr s2⟩
  have e24 : C_X11_publish_J24 x l1 l2 (nn fl) (nn (fl / 2 % 4)) h = some (nn 129, h') := by
    unfold C_X11_publish_J24
    rw [e_gR k1, k2, e_Cv T.rd, e_bd (qc_fail T D.1.2.2.1)]
    exact e1
  unfold C_X11_publish lq
  rw [fl_q fl hfl]
  dsimp only
  by_cases g3 : fl / 2 % 4 = 3
  · rw [if_pos (by rw [g3]; rfl), e24]
  · rw [if_neg (fun z : nn (fl / 2 % 4) = (3 : Int32) => g3 (nn_inj (b := 3) (by omega) (by omega) z)), if_neg (by rw [l_8, nn_lt (by omega) (by omega)]; omega), if_pos (by rw [show fl / 2 % 4 = 0 by omega]; rfl), e24]
end PU3
