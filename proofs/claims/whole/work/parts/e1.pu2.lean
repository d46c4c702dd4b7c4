/-! ===== PUBLISH, by both ===== -/
section PU2
variable {x i p L f n s b M fl q num ps pp av o tA tB : Nat} {e0 : Int32} {h h' h0 : Hp} {r r' r0 : RS} {bs U TP ys : List Nat}
/-- what has been spent since h0 -/
def Sp (x i : Nat) (e0 : Int32) (c : Nat) (h0 h : Hp) (r0 r : RS) : Prop := Rel x i 12 96 e0 h r ∧ Kp x i h0 h r0 r ∧ (hcs h).1 + WN r ≤ (hcs h0).1 + WN r0 + c ∧ (hcs h).2 + 6 * WN r ≤ (hcs h0).2 + 6 * WN r0 + c
theorem Sw.sp {c : Nat} (w : Sw x c c h0 h r0 r) (R : Rel x i 12 96 e0 h0 r0) (hi : i < 8) : Sp x i e0 c h0 h r0 r := by
  have := w.wn
  have := w.2.2.1
  have := w.2.2.2
  exact ⟨w.rel R, w.kp R.st hi, by omega, by omega⟩
theorem sim_pubM (S : Sp x i e0 (p - ps) h0 h r0 r) (D : Rd x i bs p bs.length 0 h r) (P : Pp x i bs M U h r) (hs : s < 12) (h7 : r.2.1 7 i = nn s) (hb : har h (x + 34) s = some b) (ho : r.2.1 1 i = 1) (W : Rw x h tB TP) (hT : tpc TP = true) (h98 : r.1 98 = nn TP.length) (h97 : Mg (r.2.1 97) 0 TP) (hq : q ≤ 2) (hfl : fl < 16) (hn : num < 65536) (h8 : q = 2 → r.2.1 43 s ≠ nn 8 ∧ ∀ k, k < iN (r.2.1 43 s) → r.2.1 44 (8 * s + k) ≠ nn num) (hsum : Tot x h M + U.length + (bs.length - p) ≤ 400) (hps : 2 ≤ ps ∧ ps ≤ p) :
    Sim (C_X11_publish_J259 x (some (cA x i)) (some b) (nn fl) (nn q) (some tB) (nn num)) h (R_publish_J488 (nn q) (nn (fl % 2)) (nn s) (nn num)) r (fun w h' _ r' => HP x i e0 bs.length h0 r0 w h' r') := by
  obtain ⟨R, K0', cc1, cc2⟩ := S
  have T := R.st
  have hi := D.2.2.1.1
  have hbl := D.2.2.1.2.2.1
  have hpl := D.2.2.1.2.2.2.1
  have B := D.by
  have hd := D.2.2.2 rfl
  have hx := T.1
  obtain ⟨k1, k2, k3⟩ := T.in3
  obtain ⟨G, e1, hG⟩ := qc_rest D T
  obtain ⟨h1, eh1⟩ : ∃ z, z = nRow h (bs.length - p) G := ⟨_, rfl⟩
  rw [← eh1] at e1
  have F1 : Fm x [] (fun _ => False) h h1 := by rw [eh1]; exact nRow.fm hx
  have W1 : Rw x h1 (hnx h) (sl bs p (bs.length - p)) := by rw [eh1]; exact nRow.rw hx (sl_by B) (by rw [sl_len (by omega)]) hG
  have cs1 := nRow.cs (h := h) (n := bs.length - p) (G := G)
  rw [← eh1] at cs1
  have R1 := R.new F1
  have T1 := R1.st
  have D1 : Rd x i bs p bs.length 0 h1 r := D.fm T F1 (Ro.rf (S := [])) (by decide) (fun z => z) (by decide)
  obtain ⟨P1, t1⟩ := P.fm T F1 (Ro.rf (S := [])) (by decide) (fun _ _ _ z => z) (by decide)
  have tl := tpc_len hT
  obtain ⟨j, h2, r2, e2, e3, N2, F2, hu, hj, km, hqm, hrm, hMp, Rn, hMsg, horig, h61, h60⟩ := sim_message (q := q) (rn := fl % 2) (tA := tB) (p := p) (n := bs.length - p) R1 P1 hi B hbl D1.1.2.2.2 D1.2.1.2.2.2 D1.2.1.1 h98 h97 (W.stp F1.1) tl W1 (by omega) hq (by omega) (by rw [t1]; exact hsum)
  obtain ⟨m, hm⟩ : ∃ m, m = hnx h1 := ⟨_, rfl⟩
  rw [← hm] at e2 km hqm hrm hMp Rn hMsg
  obtain ⟨h3, eh3⟩ : ∃ z, z = sfi h2 508 m (r.1 66) := ⟨_, rfl⟩
  have R3 := Rn (r.1 66)
  rw [← eh3] at R3 hMsg
  have w2 := F2.1
  have F3 : Fm x [] (fun _ => False) h h3 := by
    rw [eh3]
    exact (F1.tr N2.1).fi (Or.inr (by have := F1.1.1; omega)) (Or.inr (by have := F1.1.1; omega))
  have hb3 : har h3 (x + 34) s = some b := by rw [(F3.2.2 (x + 34) (by omega) (fun z => z)).2.1]; exact hb
  have Fo : Frm x h3 r2 j b := ⟨s, hs, hb3, by rw [horig s hs h7, w2.gA (by decide)]⟩
  have ho3 : r2.2.1 1 i = 1 := by rw [w2.gA (by decide)]; exact ho
  have hc3 : r2.1 75 = nn i := by rw [w2.gI (by decide)]; exact D.2.1.1
  have q3 : hfi h3 502 m = nn q := by rw [eh3, hfi_sfi, if_neg (by omega)]; exact hqm
  have rt3 : hfi h3 503 m = nn (fl % 2) := by rw [eh3, hfi_sfi, if_neg (by omega)]; exact hrm
  have sc := sim_carry (num := num) R3 hi hs hb3 ho3 hc3 hMsg Fo q3 rt3 h60 hq (by omega) hn (fun z => by rw [w2.gA (by decide), w2.gA (by decide)]; exact h8 z)
  have e9 : hfi h2 (100 * 13 + 9) x = r.1 66 := by
    have : hfi h2 1309 x = hfi h 1309 x := (F1.tr N2.1).gi (by decide) (by omega)
    exact this.trans R.2.1.2.1
  have kx2 : hkd h2 x = 13 + 1 := by rw [((F1.tr N2.1).1.2.1 x (by omega)).1]; exact k1
  have kx3 : hkd h3 x = 13 + 1 := by rw [eh3]; exact kx2
  have c286 : ∀ v, v = nn (fl % 2) → C_X11_publish_J286 x (some (cA x i)) (some b) (nn num) (some (x + 40)) (some tB) (some (hnx h)) (nn q) v h1 = (bd (C_X11_carry x (some (cA x i)) (some b) (some m) (nn num)) fun _ => rt (0 : Int32)) h3 := fun v hv => by
    rw [hv]
    unfold C_X11_publish_J286
    rw [e_Cv T1.pr, e_bd e2, e_gI kx2, e9, e_pI km]
    show hCv 13 (some x) _ _ (sfi h2 508 m (r.1 66)) = _
    rw [← eh3, e_Cv kx3]
  have cl : C_X11_publish_J259 x (some (cA x i)) (some b) (nn fl) (nn q) (some tB) (nn num) h = (bd (C_X11_carry x (some (cA x i)) (some b) (some m) (nn num)) fun _ => rt (0 : Int32)) h3 := by
    unfold C_X11_publish_J259
    rw [e_gR k1, k3, e_gR k1, k2, e_Cv T.rd, e_bd e1]
    by_cases z : fl % 2 = 1
    · rw [if_pos ((fl_1 fl hfl).mpr z), c286 1 (by rw [z]; rfl)]
    · rw [if_neg (fun y => z ((fl_1 fl hfl).mp y)), c286 0 (by rw [show fl % 2 = 0 by omega]; rfl)]
  rw [Sim_l cl, pubTl_eq, sr_rI, sr_rI, sr_rI, hd.2.1, D.2.1.2.1, nn_sub (by omega), show 410 * i + bs.length - (410 * i + p) = bs.length - p by omega, Sim_r (e_bd e3)]
  have sc2 : Sim (bd (C_X11_carry x (some (cA x i)) (some b) (some m) (nn num)) fun _ => rt (0 : Int32)) h3 (bd (pubTl (nn q) (nn (fl % 2)) (nn s) (nn num) (nn j)) fun v => rt v) r2 (fun w h' _ r' => HP x i e0 bs.length h0 r0 w h' r') := by
    refine Sim.seq sc (fun _ h4 _ r4 L4 => Sim.ret ?_)
    obtain ⟨a1, a2, a3, a4, a5⟩ := L4
    have wn2 := w2.wn (by decide) (by decide) (by decide) (by decide)
    have cs3 : hcs h3 = hcs h2 := by rw [eh3]; rfl
    have n1 := N2.2.2.1
    have n2 := N2.2.2.2
    rw [t1] at n2
    have hq64 : (if q = 0 then 0 else 64) ≤ 64 := by split <;> omega
    rw [cs3] at a4 a5
    have hcp : hai h3 (cA x i + 2) = hai h (cA x i + 2) ∧ hfi h3 208 (cA x i) = hfi h 208 (cA x i) := ⟨(F3.2.2 _ (by have := T.cl hi; omega) (fun z => z)).1, F3.gi (by decide) (by have := T.cl hi; omega)⟩
    have Kp3 : Kp x i h h3 r r2 := ⟨⟨w2.gA (by decide), w2.gA (by decide), w2.gA (by decide), w2.gA (by decide), w2.gI (by decide)⟩, hcp.1, hcp.2, fun k hk => w2.gI (by simp only [List.mem_cons, List.not_mem_nil, or_false] at hk; rcases hk with rfl | rfl | rfl | rfl | rfl | rfl <;> decide)⟩
    refine ⟨a1, K0'.tr (Kp3.tr a2), ⟨0, ?_, rfl, by omega, Or.inl rfl⟩, ?_, ?_⟩
    · rw [a3, w2.gI (by decide)]
      exact D.2.1.2.2.1
    · omega
    · omega
  have eqb : bd (pubTl (nn q) (nn (fl % 2)) (nn s) (nn num) (nn j)) (fun v => rt v) = pubTl (nn q) (nn (fl % 2)) (nn s) (nn num) (nn j) := by
    funext z
    unfold bd
    cases pubTl (nn q) (nn (fl % 2)) (nn s) (nn num) (nn j) z with
    | none => rfl
    | some v => rfl
  rw [eqb] at sc2
  exact sc2
theorem sim_pubE (S : Sp x i e0 (p - ps) h0 h r0 r) (D : Rd x i bs p bs.length 0 h r) (P : Pp x i bs M U h r) (hs : s < 12) (h7 : r.2.1 7 i = nn s) (hb : har h (x + 34) s = some b) (ho : r.2.1 1 i = 1) (W : Rw x h tB TP) (hT : tpc TP = true) (h98 : r.1 98 = nn TP.length) (h97 : Mg (r.2.1 97) 0 TP) (hq : q ≤ 2) (hfl : fl < 16) (hn : num < 65536) (hsum : Tot x h M + U.length + (bs.length - p) ≤ 400) (hps : 2 ≤ ps ∧ ps ≤ p) :
    Sim (C_X11_publish_J195 x (some (cA x i)) (some b) (nn fl) (nn q) (some tB) (nn num)) h (R_publish_J439 (nn q) (nn (fl % 2)) (nn s) (nn num)) r (fun w h' _ r' => HP x i e0 bs.length h0 r0 w h' r') := by
  obtain ⟨R, K0', cc1, cc2⟩ := S
  have T := R.st
  have hi := D.2.2.1.1
  have hpl := D.2.2.1.2.2.2.1
  obtain ⟨k1, k2, k3⟩ := T.in3
  have z79 : r.1 79 = 0 := D.2.1.2.2.1
  have e74 : hfi h (100 * 7 + 4) (x + 37) = 0 := D.1.2.2.1
  have Sb := R.ses hs hb
  unfold C_X11_publish_J195 R_publish_J439
  rw [sl_gR k1, k2, sl_gI T.rd, e74, sl_pos rfl]
  by_cases z2 : q = 2
  · subst z2
    rw [sl_pos (by decide), sr_pos (by decide), sl_Cv Sb.1.1]
    rcases holds_or R hs hb hn with ⟨a1, k, a2, a3⟩ | ⟨a1, a2, a3⟩
    · rw [Sim_l (e_bd a1), Sim_r (e_bd a3), sl_neg (by decide), sr_neg (nn_nlt0 (by omega)), sl_Cv k1]
      refine Sim.seq (sim_answer (f := 80) (num := num) (v := 0) R hi ho D.2.1.1 (by omega) hn (by omega)) (fun _ h1 _ r1 ⟨q1, q2, q3⟩ => Sim.ret ?_)
      have c1 : hcs h1 = hcs h := q2.1.2.2.2.2.2.2.2
      have wn := q3.wn (by decide) (by decide) (by decide) (by decide)
      exact ⟨q1, K0'.tr (q2.kp q3 R hi), ⟨0, by rw [q3.gI (by decide)]; exact z79, rfl, by omega, Or.inl rfl⟩, by rw [c1]; omega, by rw [c1]; omega⟩
    · rw [Sim_l (e_bd a1), Sim_r (e_bd a2), sl_pos rfl, sr_pos (by decide)]
      unfold C_X11_publish_J240 R_publish_J464
      obtain ⟨lc, lm, l1, l2, l3, l4, l5, l6, l7, l8⟩ := Sb.2.2.2.2.2.2.2.1
      have ll : lc.length = lm.length := l2.length_eq
      have e10 : hfi h (100 * 10 + 10) b = nn lm.length := by rw [← ll]; exact l5
      rw [sl_pos (by decide), sr_pos (by decide), sl_gI Sb.1.1, e10, sr_r43 hs, l6]
      by_cases g8 : lm.length = 8
      · rw [sl_pos (by rw [g8]; rfl), sr_pos (by rw [g8]; rfl), Sim_r (e_bd (show R_fails (147 : Int32) r = some ((), sI r 79 (nn 147)) from qm_fails z79))]
        have D1 := D.fl (v := 147) (by omega) (by omega)
        have R1 : Rel x i 12 96 e0 h (sI r 79 (nn 147)) := by
          obtain ⟨f, bs, Wr⟩ := R.wr
          exact R.scr Fm.rf (Ro.rf.i (k := 79) (S := scS) (by decide)) ⟨f, bs, Wr⟩
        have w1 : Ro [79] r (sI r 79 (nn 147)) := Ro.rf.i (by decide)
        have wn := w1.wn (by decide) (by decide) (by decide) (by decide)
        exact Sim.ret ⟨R1, K0'.tr ⟨⟨rfl, rfl, rfl, rfl, rfl⟩, rfl, rfl, fun k hk => by simp only [List.mem_cons, List.not_mem_nil, or_false] at hk; rcases hk with rfl | rfl | rfl | rfl | rfl | rfl <;> rfl⟩, ⟨147, by rw [sI_1, if_pos rfl], rfl, by omega, Or.inr (by omega)⟩, by omega, by omega⟩
      · rw [sl_neg (fun z : nn lm.length = (8 : Int32) => g8 (nn_inj (b := 8) (by omega) (by omega) z)), sr_neg (fun z : nn lm.length = (8 : Int32) => g8 (nn_inj (b := 8) (by omega) (by omega) z))]
        exact sim_pubM (q := 2) ⟨R, K0', cc1, cc2⟩ D P hs h7 hb ho W hT h98 h97 hq hfl hn (fun _ => ⟨fun z => g8 (nn_inj (by omega) (by omega) (l6.symm.trans z)), a3⟩) hsum hps
  · have nq2 : ¬ nn q = (2 : Int32) := fun z => z2 (nn_inj (b := 2) (by omega) (by omega) z)
    rw [sl_neg nq2, sr_neg nq2]
    unfold C_X11_publish_J240 R_publish_J464
    rw [sl_neg nq2, sr_neg nq2]
    exact sim_pubM ⟨R, K0', cc1, cc2⟩ D P hs h7 hb ho W hT h98 h97 hq hfl hn (fun z => absurd z z2) hsum hps
/-- the topic that is meant -/
theorem sim_pubT (R0 : Rel x i 12 96 e0 h0 r0) (s0 : Sw x (p - ps) (p - ps) h0 h r0 r) (D : Rd x i bs p bs.length 0 h r) (P : Pp x i bs M U h r) (hs : s < 12) (h7 : r0.2.1 7 i = nn s) (hb : har h0 (x + 34) s = some b) (ho : r0.2.1 1 i = 1) (W : Rw x h tA ys) (hoo : o + ys.length ≤ 3280) (h6 : Mg (r.2.1 6) o ys) (hys : ys = [] ∨ tpc ys = true) (hq : q ≤ 2) (hfl : fl < 16) (hn : num < 65536) (hsum : Tot x h M + U.length + (bs.length - p) ≤ 400) (hps : 2 ≤ ps ∧ ps ≤ p) {s1 : Int32} (ha : (av = 0 ∧ s1 = -1) ∨ (1 ≤ av ∧ av ≤ 4 ∧ s1 = nn (4 * i + (av - 1)))) :
    Sim (C_X11_publish_J160 x (some (cA x i)) (some b) (nn fl) (nn q) (some tA) (nn num) (nn av)) h (R_publish_J278 (nn q) (nn (fl % 2)) (nn s) (nn o) (nn ys.length) (nn num) s1) r (fun w h' _ r' => HP x i e0 bs.length h0 r0 w h' r') := by
  have hi := D.2.2.1.1
  have S := s0.sp R0 hi
  have R := S.1
  have T := R.st
  have hx := T.1
  have hpl := D.2.2.1.2.2.2.1
  obtain ⟨k1, k2, k3⟩ := T.in3
  have z79 : r.1 79 = 0 := D.2.1.2.2.1
  have e74 : hfi h (100 * 7 + 4) (x + 37) = 0 := D.1.2.2.1
  have kc := (T.2.2.2.2.2.2 i hi).2.1
  unfold C_X11_publish_J160
  rw [sl_gR k1, k2, sl_gI T.rd, e74, sl_pos rfl, sl_Cv kc]
  rcases topic_or (l1 := nn q) (l2 := nn (fl % 2)) (l3 := nn s) (l6 := nn num) R (by rw [S.2.1.1.1]; exact ho) hi W hoo h6 hys ha z79 with ⟨a1, a2⟩ | ⟨tB, TP, h1, r1, a1, a2, R1, F1, w1, c1, n1, W1, tp1, e98, e97⟩
  · have D1 := D.fl (v := 130) (by omega) (by omega)
    have s1' := s0.tr (Sc.fl (h := h) (r := r) (v := nn 130) (w := nn 130)).sw
    have T1 := s1'.st R0.st
    rw [Sim_l (e_bd a1), Sim_r (M' := rt ()) a2]
    have cl : C_X11_publish_J180 x (some (cA x i)) (some b) (nn fl) (nn q) none (nn num) h = some (nn 130, sfi h 704 (x + 37) (nn 130)) := by
      unfold C_X11_publish_J180
      rw [if_pos rfl, e_gR k1, k2, e_Cv T.rd, e_bd (qc_fail T D.1.2.2.1)]
      exact pub195_f T1 (D1.fa (by omega))
    rw [Sim_l (P' := rt (nn 130)) cl]
    exact Sim.ret (HP.of R0 s1' hi D1 (by omega) (by omega))
  · rw [Sim_l (e_bd a1), Sim_r a2]
    unfold C_X11_publish_J180
    rw [sl_neg (fun z => by cases z)]
    have ca : cA x i = x + 2 + 4 * i := rfl
    have D1 : Rd x i bs p bs.length 0 h1 r1 := D.fm T F1 w1 (by decide) (by omega) (by decide)
    obtain ⟨P1, t1⟩ := P.fm T F1 w1 (by decide) (fun a z1 z2 z => by omega) (by decide)
    have wn := w1.wn (by decide) (by decide) (by decide) (by decide)
    have K1 : Kp x i h h1 r r1 := Kp.of F1 w1 T hi (by decide) (by omega) (by decide)
    have e34 : har h1 (x + 34) = har h0 (x + 34) := by
      rw [(F1.2.2 (x + 34) (by omega) (by omega)).2.1]
      have := R0.st.1
      exact (s0.1.2.2 (x + 34) (by omega) (fun z => by rcases z with z | z <;> omega)).2.1
    refine sim_pubE ⟨R1, S.2.1.tr K1, by rw [c1]; have := S.2.2.1; omega, by rw [c1]; have := S.2.2.2; omega⟩ D1 P1 hs ?_ (by rw [e34]; exact hb) ?_ W1 tp1 e98 e97 hq hfl hn (by rw [t1]; exact hsum) hps
    · rw [w1.gA (by decide), s0.2.1.gA (by decide)]; exact h7
    · rw [w1.gA (by decide), s0.2.1.gA (by decide)]; exact ho
/-- the alias -/
theorem sim_pubA (R0 : Rel x i 12 96 e0 h0 r0) (s0 : Sw x (p - ps) (p - ps) h0 h r0 r) (D : Rd x i bs p bs.length 0 h r) (P : Pp x i bs M U h r) (hs : s < 12) (h7 : r0.2.1 7 i = nn s) (hb : har h0 (x + 34) s = some b) (ho : r0.2.1 1 i = 1) (W : Rw x h tA ys) (hoo : o + ys.length ≤ 3280) (h6 : Mg (r.2.1 6) o ys) (hys : ys = [] ∨ tpc ys = true) (hq : q ≤ 2) (hfl : fl < 16) (hn : num < 65536) (hsum : Tot x h M + U.length + (bs.length - p) ≤ 400) (hps : 2 ≤ ps ∧ ps ≤ p) :
    Sim (pubA x (some (cA x i)) (some b) (nn fl) (nn q) (some tA) (nn num)) h (R_publish_J189 (nn q) (nn (fl % 2)) (nn s) (nn o) (nn ys.length) (nn num)) r (fun w h' _ r' => HP x i e0 bs.length h0 r0 w h' r') := by
  have hi := D.2.2.1.1
  have hpl := D.2.2.1.2.2.2.1
  have R := s0.rel R0
  have T := R.st
  obtain ⟨k1, k2, k3⟩ := T.in3
  have z79 : r.1 79 = 0 := D.2.1.2.2.1
  obtain ⟨eg, hg⟩ := qc_get (k := 35) (v := (0 : Int64)) T P (by decide) (by decide) (by decide)
  have ep := qc_phas (k := 35) T P.1.1 P.1.2.1 (by omega)
  have m35 := P.1.2.2 35 (by omega)
  unfold pubA R_publish_J189
  rw [sl_gR k1, k3, sl_Cv T.pr, l_35, Sim_l (e_bd eg), sl_gR k1, k3, sl_Cv T.pr, Sim_l (e_bd ep), sr_rI, z79, sr_pos rfl, sr_r82 (by omega), m35]
  by_cases g : M.testBit 35 = true
  · obtain ⟨v, v1, v2⟩ := hg g
    have v1' : v ≤ 65535 := v1
    rw [if_pos g, if_pos g, sl_neg (by decide), sr_neg (by decide), sr_r83 (by omega), v2, n6_32 (by omega)]
    have bad : (v = 0 ∨ 4 < v) → Sim (C_X11_publish_J150 x (some (cA x i)) (some b) (nn fl) (nn q) (some tA) (nn num) (nn v)) h (R_publish_J232 (nn q) (nn (fl % 2)) (nn s) (nn o) (nn ys.length) (nn num)) r (fun w h' _ r' => HP x i e0 bs.length h0 r0 w h' r') := fun _ => by
      have D1 := D.fl (v := 148) (by omega) (by omega)
      have s1' := s0.tr (Sc.fl (h := h) (r := r) (v := nn 148) (w := nn 148)).sw
      have T1 := s1'.st R0.st
      have cl : C_X11_publish_J150 x (some (cA x i)) (some b) (nn fl) (nn q) (some tA) (nn num) (nn v) h = some (nn 148, sfi h 704 (x + 37) (nn 148)) := by
        unfold C_X11_publish_J150
        rw [e_gR k1, k2, e_Cv T.rd, e_bd (qc_fail T D.1.2.2.1)]
        exact pub160_f T1 (D1.fa (by omega))
      have ml : R_publish_J232 (nn q) (nn (fl % 2)) (nn s) (nn o) (nn ys.length) (nn num) r = some ((), sI r 79 (nn 148)) := by
        unfold R_publish_J232
        rw [e_bd (qm_fails z79)]
        exact mpub239_f (f := 148) (by rw [sI_1, if_pos rfl]; rfl) (by omega) (by omega)
      rw [Sim_l (P' := rt (nn 148)) cl, Sim_r (M' := rt ()) ml]
      exact Sim.ret (HP.of R0 s1' hi D1 (by omega) (by omega))
    by_cases g0 : v = 0
    · rw [sl_pos (by rw [g0]; decide), sr_pos (by rw [g0]; decide)]
      exact bad (Or.inl g0)
    · rw [sl_neg (by rw [l_1, nn_lt (by omega) (by omega)]; omega), sr_neg (fun z : lg_cmp (n6 v) (0 : Int64) = 0 => g0 ((n6_eq (b := 0) (by omega) (by omega)).mp (cmp_eq.mp z))), sr_r83 (by omega), v2]
      by_cases g4 : v ≤ 4
      · rw [sl_pos (by rw [l_4, nn_le (by omega) (by omega)]; exact g4), sr_pos (show lg_cmp (n6 v) (4 : Int64) ≤ 0 from cmp_le.mpr ((n6_le (b := 4) (by omega) (by omega)).mpr g4))]
        unfold R_publish_J239
        rw [sr_rI, z79, sr_pos rfl, l_35, sr_r82 (by omega), m35, if_pos g, sr_neg (by decide), sr_rI, D.2.1.1, sr_r83 (by omega), v2, n6_32 (by omega), l_4, nn_mul, nn_add, l_1, nn_sub (by omega)]
        exact sim_pubT R0 s0 D P hs h7 hb ho W hoo h6 hys hq hfl hn hsum hps (Or.inr ⟨by omega, g4, by congr 1; omega⟩)
      · rw [sl_neg (by rw [l_4, nn_le (by omega) (by omega)]; exact g4), sr_neg (fun z : lg_cmp (n6 v) (4 : Int64) ≤ 0 => g4 ((n6_le (b := 4) (by omega) (by omega)).mp (cmp_le.mp z)))]
        exact bad (Or.inr (by omega))
  · rw [if_neg g, if_neg g, sl_pos rfl, sr_pos rfl]
    unfold R_publish_J239
    rw [sr_rI, z79, sr_pos rfl, l_35, sr_r82 (by omega), m35, if_neg g, sr_pos rfl]
    exact sim_pubT (av := 0) R0 s0 D P hs h7 hb ho W hoo h6 hys hq hfl hn hsum hps (Or.inl ⟨rfl, rfl⟩)
end PU2
