/-! ===== PUBACK, PUBREC, PUBREL, PUBCOMP ===== -/
section ANS
variable {x i p L f n s b t v re len : Nat} {e0 : Int32} {h : Hp} {r : RS} {bs : List Nat}
theorem Stat.in3 (T : Stat x h) : hkd h x = 13 + 1 ∧ hfr h (100 * 13 + 3) x = some (x + 37) ∧ hfr h (100 * 13 + 4) x = some (x + 40) := ⟨T.2.1.1, T.2.1.2.2.2.2.1, T.2.1.2.2.2.2.2.1⟩
theorem ans75_f (T : Stat x h) (F : Fa x f h) {l1 l2 : Option Nat} {l3 l5 l6 : Int32} : C_X11_answered_J75 x l1 l2 l3 l5 l6 h = some (nn f, h) := by
  obtain ⟨k1, k2, _⟩ := T.in3
  have e : hfi h (100 * 7 + 4) (x + 37) = nn f := F.1
  have hh : wp (C_X11_answered_J75 x l1 l2 l3 l5 l6) h (fun w h' => w = nn f ∧ h' = h) := by
    unfold C_X11_answered_J75
    rw [wp_gR k1, k2, wp_Cv T.rd]
    refine wp.get (qc_finish_f T F) ?_
    rw [wp_gR k1, k2, wp_gI T.rd, e, wp_neg (nn_ne0 (by have := F.2.2; omega) F.2.1), wp_gR k1, k2, wp_gI T.rd, e, wp_rt]
    exact ⟨rfl, rfl⟩
  obtain ⟨_, h', e1, e2, e3⟩ := hh
  rw [e1, e2, e3]
theorem ans51_f (T : Stat x h) (F : Fa x f h) {l1 l2 : Option Nat} {l3 l5 l6 : Int32} : C_X11_answered_J51 x l1 l2 l3 l5 l6 h = some (nn f, h) := by
  obtain ⟨k1, k2, _⟩ := T.in3
  have hh : wp (C_X11_answered_J51 x l1 l2 l3 l5 l6) h (fun w h' => w = nn f ∧ h' = h) := by
    unfold C_X11_answered_J51
    rw [wp_gR k1, k2, wp_Cv T.rd]
    refine wp.get (qc_left_f T F) ?_
    rw [wp_pos (by decide)]
    exact wp.get (ans75_f T F) ⟨rfl, rfl⟩
  obtain ⟨_, h', e1, e2, e3⟩ := hh
  rw [e1, e2, e3]
/-- behind the number -/
def ansN (x : Nat) (l1 l2 : Option Nat) (l3 r21 : Int32) : Hp → Option (Int32 × Hp) :=
  hgR 13 3 (some x) fun v22 => hCv 7 v22 (fun a => C_X5_left a) fun r23 => if r23 ≤ 0 then C_X11_answered_J51 x l1 l2 l3 r21 (0 : Int32) else hgR 13 3 (some x) fun v24 => hCv 7 v24 (fun a => C_X5_one a) fun r25 => C_X11_answered_J51 x l1 l2 l3 r21 r25
theorem ansN_f (T : Stat x h) (F : Fa x f h) {l1 l2 : Option Nat} {l3 l5 : Int32} : ansN x l1 l2 l3 l5 h = some (nn f, h) := by
  obtain ⟨k1, k2, _⟩ := T.in3
  have hh : wp (ansN x l1 l2 l3 l5) h (fun w h' => w = nn f ∧ h' = h) := by
    unfold ansN
    rw [wp_gR k1, k2, wp_Cv T.rd]
    refine wp.get (qc_left_f T F) ?_
    rw [wp_pos (by decide)]
    exact wp.get (ans51_f T F) ⟨rfl, rfl⟩
  obtain ⟨_, h', e1, e2, e3⟩ := hh
  rw [e1, e2, e3]
theorem ans119_f (hf : r.1 79 = nn f) (h1 : f ≠ 0) (h2 : f < 256) {l1 l2 l3 l4 : Int32} : R_answered_J119 l1 l2 l3 l4 r = some ((), r) := by
  unfold R_answered_J119
  rw [x_rI, hf, if_neg (nn_ne0 (by omega) h1)]
  rfl
theorem ans94_f (hf : r.1 79 = nn f) (h1 : f ≠ 0) (h2 : f < 256) {l1 l2 l3 l4 : Int32} : R_answered_J94 l1 l2 l3 l4 r = some ((), r) := by
  unfold R_answered_J94
  rw [x_rI, hf, if_neg (nn_ne0 (by omega) h1), ans119_f hf h1 h2]
theorem ans59_f (hf : r.1 79 = nn f) (h1 : f ≠ 0) (h2 : f < 256) {l1 l2 l3 l4 : Int32} : R_answered_J59 l1 l2 l3 l4 r = some ((), r) := by
  unfold R_answered_J59
  rw [x_rI, hf, if_neg (nn_ne0 (by omega) h1), ans94_f hf h1 h2]
theorem ans33_f (hf : r.1 79 = nn f) (h1 : f ≠ 0) (h2 : f < 256) {l1 l2 l3 : Int32} : R_answered_J33 l1 l2 l3 r = some ((), r) := by
  unfold R_answered_J33 R_answered_J58
  rw [x_rI, hf, if_neg (nn_ne0 (by omega) h1), ans59_f hf h1 h2]
/-- what is done when nothing was wrong -/
def ansD (x : Nat) (l1 l2 : Option Nat) (l3 l5 l6 : Int32) : Hp → Option (Int32 × Hp) :=
  if l3 = (5 : Int32) then (
      hCv 13 (some x) (fun a => C_X11_received a l1 l2 l5 l6) fun r11 =>
      rt ((0 : Int32))
    ) else (
      if l3 = (6 : Int32) then (
        hCv 10 l2 (fun a => C_X8_letGo a l5) fun r10 =>
        if r10 = 0 then (
          C_X11_answered_J146 x (some x) l1 (112 : Int32) l5 (146 : Int32)
        ) else (
          C_X11_answered_J146 x (some x) l1 (112 : Int32) l5 (0 : Int32)
        )
      ) else (
        if l3 = (4 : Int32) then (
          C_X11_answered_J165 x l2 l3 l2 l5 (1 : Int32)
        ) else (
          C_X11_answered_J165 x l2 l3 l2 l5 (2 : Int32)
        )
      )
    )
theorem sim_ansD (R : Rel x i 12 96 e0 h r) (hi : i < 8) (hs : s < 12) (hb : har h (x + 34) s = some b) (ho : r.2.1 1 i = 1) (hc : r.1 75 = nn i) (h79 : r.1 79 = 0) (ht : t = 4 ∨ t = 5 ∨ t = 6 ∨ t = 7) (hv : v < 65536) (hre : re < 256) :
    Sim (ansD x (some (cA x i)) (some b) (nn t) (nn v) (nn re)) h (R_answered_J119 (nn t) (nn s) (nn v) (nn re)) r (fun w h' _ r' => w = 0 ∧ Rel x i 12 96 e0 h' r' ∧ Kp x i h h' r r' ∧ r'.1 79 = 0 ∧ hcs h' = hcs h ∧ WN r' ≤ WN r) := by
  have T := R.st
  have kx : hkd h x = 13 + 1 := T.2.1.1
  have Sb := R.ses hs hb
  obtain ⟨n, n1, n2, n3, n4, n5⟩ := Sb.2.2.2.2.2.1
  have oS79 : ∀ {r1 r2 : RS}, Ro oS r1 r2 → r2.1 79 = r1.1 79 := fun w => w.gI (by decide)
  -- an answer at the end
  have ans : ∀ (h1 : Hp) (r1 : RS) (g w : Nat), Rel x i 12 96 e0 h1 r1 → Kp x i h h1 r r1 → r1.1 79 = 0 → hcs h1 = hcs h → WN r1 ≤ WN r → g < 256 → w < 256 → ∃ h' r', C_X11_answer x (some (cA x i)) (nn g) (nn v) (nn w) h1 = some ((), h') ∧ R_answer (nn g) (nn v) (nn w) r1 = some ((), r') ∧ Rel x i 12 96 e0 h' r' ∧ Kp x i h h' r r' ∧ r'.1 79 = 0 ∧ hcs h' = hcs h ∧ WN r' ≤ WN r := by
    intro h1 r1 g w R1 K1 z79 c1 wn1 hg hw
    obtain ⟨_, h', _, r', e1, e2, q1, q2, q3⟩ := sim_answer (f := g) (num := v) (v := w) R1 hi (by rw [K1.1.1]; exact ho) (by rw [K1.1.2.2.2.2]; exact hc) hg hv hw
    refine ⟨h', r', e1, e2, q1, K1.tr (q2.kp q3 R1 hi), by rw [oS79 q3]; exact z79, q2.1.2.2.2.2.2.2.2.trans c1, Nat.le_trans (q3.wn (by decide) (by decide) (by decide) (by decide)) wn1⟩
  -- one leaves
  have lea : ∀ k d, k < n → har h (b + 2) k = some d → ∃ h1 h' r', C_X8_arrive b (some d) h = some ((), h1) ∧ hkd h1 x = 13 + 1 ∧ C_X11_goOn x (some b) h1 = some ((), h') ∧ R_leave (nn s) (nn k) r = some ((), r') ∧ Rel x i 12 96 e0 h' r' ∧ Kp x i h h' r r' ∧ r'.1 79 = 0 ∧ hcs h' = hcs h ∧ WN r' ≤ WN r := by
    intro k d hk hd
    obtain ⟨h1, h', r', e1, e2, e3, e4, q1, q2, q3, q4⟩ := sim_leave R hs hb n3 n1 hk hd
    exact ⟨h1, h', r', e1, e2, e3, e4, q1, q2.kp R hi, by rw [q2.2.1.gI (by decide)]; exact h79, q3, q4⟩
  have uq : ∀ k k', k < n → k' < n → r.2.1 32 (16 * s + k) = nn v → r.2.1 32 (16 * s + k') = nn v → k = k' := fun k k' g1 g2 g3 g4 => n5 k k' g1 g2 (g3.trans g4.symm)
  unfold ansD R_answered_J119
  rw [sr_rI, h79, sr_pos rfl]
  rcases ht with ht | ht | ht | ht <;> subst ht
  · -- PUBACK
    rw [sl_neg (by decide), sl_neg (by decide), sl_pos (show nn 4 = (4 : Int32) from rfl)]
    unfold C_X11_answered_J165 C_X11_answered_J188
    rw [sl_Cv Sb.1.1]
    rcases qc_onTheWay (num := v) (q := 1) R hs hb n3 n1 hv (by omega) with ⟨k, d, a1, a2, a3, a4, a5⟩ | ⟨a1, a2⟩
    · have a5' : C_X8_onTheWay b (nn v) (1 : Int32) h = some (some d, h) := a5
      rw [Sim_l (e_bd a5'), sl_neg (fun z => by cases z), sl_pos (show nn 4 = (4 : Int32) from rfl)]
      rcases qm_way R hs hb n3 n1 hv with ⟨k', c1, c2, c3⟩ | ⟨c1, c2⟩
      · have ek := uq k' k c1 a1 c2 a2
        subst ek
        obtain ⟨h1, h', r', e1, e2, e3, e4, q⟩ := lea k' d a1 a4
        rw [Sim_r (e_bd c3), sr_lq, sr_pos (show nn 4 = (4 : Int32) from rfl), sr_neg (nn_nlt0 (by omega)), l_16, nn_mul, nn_add, sr_r34 (by omega), a3, sr_pos (show nn 1 = (1 : Int32) from rfl), sl_Cv Sb.1.1, Sim_l (e_bd e1), sl_Cv e2, Sim_l (e_bd e3), Sim_r (e_bd e4)]
        exact Sim.ret ⟨rfl, q⟩
      · exact absurd a2 (c1 k a1)
    · have a2' : C_X8_onTheWay b (nn v) (1 : Int32) h = some (none, h) := a2
      rw [Sim_l (e_bd a2'), sl_pos rfl]
      rcases qm_way R hs hb n3 n1 hv with ⟨k', c1, c2, c3⟩ | ⟨c1, c2⟩
      · have : r.2.1 34 (16 * s + k') ≠ (1 : Int32) := a1 k' c1 c2
        rw [Sim_r (e_bd c3), sr_lq, sr_pos (show nn 4 = (4 : Int32) from rfl), sr_neg (nn_nlt0 (by omega)), l_16, nn_mul, nn_add, sr_r34 (by omega), sr_neg this]
        exact Sim.ret ⟨rfl, R, Kp.rf, h79, rfl, Nat.le_refl _⟩
      · rw [Sim_r (e_bd c2), sr_lq, sr_pos (show nn 4 = (4 : Int32) from rfl), sr_pos (by decide)]
        exact Sim.ret ⟨rfl, R, Kp.rf, h79, rfl, Nat.le_refl _⟩
  · -- PUBREC
    rw [sl_pos (show nn 5 = (5 : Int32) from rfl), sl_Cv kx]
    unfold C_X11_received
    -- nobody waits for it
    have no2 : (∀ k, k < n → r.2.1 32 (16 * s + k) = nn v → r.2.1 34 (16 * s + k) ≠ nn 2) → C_X8_onTheWay b (nn v) (2 : Int32) h = some (none, h) → Sim (bd (hCv 10 (some b) (fun a => C_X8_onTheWay a (nn v) (2 : Int32)) fun r1 => if r1 = none then (hCv 13 (some x) (fun a => C_X11_answer a (some (cA x i)) (98 : Int32) (nn v) (146 : Int32)) fun r5 => rt ()) else (if nn re < (128 : Int32) then (hpZ 3 5 r1 (1 : Int32) <| hCv 13 (some x) (fun a => C_X11_answer a (some (cA x i)) (98 : Int32) (nn v) (0 : Int32)) fun r2 => rt ()) else (hCv 10 (some b) (fun a => C_X8_arrive a r1) fun r3 => hCv 13 (some x) (fun a => C_X11_goOn a (some b)) fun r4 => rt ()))) fun _ => rt (0 : Int32)) h (bd (R_wayOf (nn s) (nn v)) fun r8 => lq (((16 : Int32) * nn s) + r8) fun x9 => if nn 5 = (4 : Int32) then (if r8 < 0 then (rt ()) else (rA 34 x9 fun v14 => if v14 = (1 : Int32) then (bd (R_leave (nn s) r8) fun r15 => rt ()) else (rt ()))) else (if nn 5 = (5 : Int32) then (if r8 < 0 then (R_answered_J200 (nn s) (nn v) (nn re) r8 x9) else (rA 34 x9 fun v13 => if v13 = (2 : Int32) then (R_answered_J201 (nn s) (nn v) (nn re) r8 x9 (1 : Int32)) else (R_answered_J200 (nn s) (nn v) (nn re) r8 x9))) else (if nn 5 = (7 : Int32) then (if r8 < 0 then (rt ()) else (rA 37 x9 fun v11 => if v11 = 0 then (rt ()) else (bd (R_leave (nn s) r8) fun r12 => rt ()))) else (bd (R_holds (nn s) (nn v)) fun r10 => if r10 < 0 then (R_answered_J364 (nn v) r10) else (R_answered_L309 (fun l2 l3 l7 => R_answered_J354 l2 l3 l7) fu (nn s) (nn v) r10 r10))))) r (fun w h' _ r' => w = 0 ∧ Rel x i 12 96 e0 h' r' ∧ Kp x i h h' r r' ∧ r'.1 79 = 0 ∧ hcs h' = hcs h ∧ WN r' ≤ WN r) := by
      intro a1 a2
      obtain ⟨h', r', e1, e2, q⟩ := ans h r 98 146 R Kp.rf h79 rfl (Nat.le_refl _) (by omega) (by omega)
      have e1' : C_X11_answer x (some (cA x i)) (98 : Int32) (nn v) (146 : Int32) h = some ((), h') := e1
      have e2' : R_answer (98 : Int32) (nn v) (146 : Int32) r = some ((), r') := e2
      have cl : (hCv 10 (some b) (fun a => C_X8_onTheWay a (nn v) (2 : Int32)) fun r1 => if r1 = none then (hCv 13 (some x) (fun a => C_X11_answer a (some (cA x i)) (98 : Int32) (nn v) (146 : Int32)) fun r5 => rt ()) else (if nn re < (128 : Int32) then (hpZ 3 5 r1 (1 : Int32) <| hCv 13 (some x) (fun a => C_X11_answer a (some (cA x i)) (98 : Int32) (nn v) (0 : Int32)) fun r2 => rt ()) else (hCv 10 (some b) (fun a => C_X8_arrive a r1) fun r3 => hCv 13 (some x) (fun a => C_X11_goOn a (some b)) fun r4 => rt ()))) h = some ((), h') := by
        rw [e_Cv (c := 10) Sb.1.1, e_bd a2, if_pos rfl, e_Cv (c := 13) kx, e_bd e1']
        rfl
      rw [Sim_l (e_bd cl)]
      have fin : Sim (rt (0 : Int32)) h' (rt ()) r' (fun w h' _ r' => w = 0 ∧ Rel x i 12 96 e0 h' r' ∧ Kp x i h h' r r' ∧ r'.1 79 = 0 ∧ hcs h' = hcs h ∧ WN r' ≤ WN r) := Sim.ret ⟨rfl, q⟩
      have m200 : ∀ k' x9, R_answered_J200 (nn s) (nn v) (nn re) k' x9 r = some ((), r') := fun k' x9 => by
        unfold R_answered_J200 R_answered_J201 R_answered_J226 R_answered_J239 R_answered_J255
        rw [if_pos rfl, if_pos rfl, if_pos rfl, e_bd e2']
        rfl
      rcases qm_way R hs hb n3 n1 hv with ⟨k', c1, c2, c3⟩ | ⟨c1, c2⟩
      · rw [Sim_r (e_bd c3), sr_lq, sr_neg (by decide), sr_pos (show nn 5 = (5 : Int32) from rfl), sr_neg (nn_nlt0 (by omega)), l_16, nn_mul, nn_add, sr_r34 (by omega), sr_neg (show r.2.1 34 (16 * s + k') ≠ (2 : Int32) from a1 k' c1 c2), Sim_r (M' := rt ()) (m200 _ _)]
        exact fin
      · rw [Sim_r (e_bd c2), sr_lq, sr_neg (by decide), sr_pos (show nn 5 = (5 : Int32) from rfl), sr_pos (by decide), Sim_r (M' := rt ()) (m200 _ _)]
        exact fin
    rcases qc_onTheWay (num := v) (q := 2) R hs hb n3 n1 hv (by omega) with ⟨k, d, a1, a2, a3, a4, a5⟩ | ⟨a1, a2⟩
    · have a5' : C_X8_onTheWay b (nn v) (2 : Int32) h = some (some d, h) := a5
      have hdk : hkd h d = 4 := by
        obtain ⟨d', d1, m, j, ql, fl, id, num, c1, _⟩ := n4 k a1
        rw [a4] at d1
        cases d1
        exact c1.1
      rcases qm_way R hs hb n3 n1 hv with ⟨k', c1, c2, c3⟩ | ⟨c1, c2⟩
      · have ek := uq k' k c1 a1 c2 a2
        subst ek
        rw [Sim_r (e_bd c3), sr_lq, sr_neg (by decide), sr_pos (show nn 5 = (5 : Int32) from rfl), sr_neg (nn_nlt0 (by omega)), l_16, nn_mul, nn_add, sr_r34 (by omega), a3, sr_pos (show nn 2 = (2 : Int32) from rfl)]
        unfold R_answered_J201 R_answered_J226
        rw [sr_neg (by decide)]
        by_cases g128 : re < 128
        · have R1 := R.rls hs hb n3 n1 a1 a4 a3
          have K1 : Kp x i h (sfi h 305 d 1) r (sA r 37 (16 * s + k') 1) := Kp.of (F := [305]) (A := fun _ => False) (S := [37]) (Fm.rf.fi (Or.inl (by decide)) (Or.inl (by decide))) (Ro.rf.a (by decide)) T hi (by decide) (fun z => z) (by decide)
          obtain ⟨h', r', e1, e2, q⟩ := ans (sfi h 305 d 1) (sA r 37 (16 * s + k') 1) 98 0 R1 K1 h79 rfl (Ro.wn (Ro.rf.a (S := [37]) (by decide)) (by decide) (by decide) (by decide) (by decide)) (by omega) (by omega)
          have e1' : C_X11_answer x (some (cA x i)) (98 : Int32) (nn v) (0 : Int32) (sfi h 305 d 1) = some ((), h') := e1
          have e2' : R_answer (98 : Int32) (nn v) (0 : Int32) (sA r 37 (16 * s + k') 1) = some ((), r') := e2
          rw [sr_pos (by rw [l_128, nn_lt (by omega) (by omega)]; exact g128), sr_neg (by decide), sr_w37 (by omega)]
          have cl : (hCv 10 (some b) (fun a => C_X8_onTheWay a (nn v) (2 : Int32)) fun r1 => if r1 = none then (hCv 13 (some x) (fun a => C_X11_answer a (some (cA x i)) (98 : Int32) (nn v) (146 : Int32)) fun r5 => rt ()) else (if nn re < (128 : Int32) then (hpZ 3 5 r1 (1 : Int32) <| hCv 13 (some x) (fun a => C_X11_answer a (some (cA x i)) (98 : Int32) (nn v) (0 : Int32)) fun r2 => rt ()) else (hCv 10 (some b) (fun a => C_X8_arrive a r1) fun r3 => hCv 13 (some x) (fun a => C_X11_goOn a (some b)) fun r4 => rt ()))) h = some ((), h') := by
            rw [e_Cv (c := 10) Sb.1.1, e_bd a5', if_neg (fun z => by cases z), if_pos (by rw [l_128, nn_lt (by omega) (by omega)]; exact g128), e_pZ (c := 3) (Or.inr rfl) hdk, e_Cv (c := 13) (by exact kx)]
            show bd (C_X11_answer x (some (cA x i)) 98 (nn v) 0) _ (sfi h 305 d 1) = _
            rw [e_bd e1']
            rfl
          rw [Sim_l (e_bd cl)]
          show Sim _ _ (R_answered_J239 (nn v) 1) (sA r 37 (16 * s + k') 1) _
          unfold R_answered_J239 R_answered_J255
          rw [sr_neg (by decide), Sim_r (e_bd e2')]
          exact Sim.ret ⟨rfl, q⟩
        · rw [sr_neg (by rw [l_128, nn_lt (by omega) (by omega)]; exact g128)]
          obtain ⟨h1, h', r', e1, e2, e3, e4, q⟩ := lea k' d a1 a4
          have cl : (hCv 10 (some b) (fun a => C_X8_onTheWay a (nn v) (2 : Int32)) fun r1 => if r1 = none then (hCv 13 (some x) (fun a => C_X11_answer a (some (cA x i)) (98 : Int32) (nn v) (146 : Int32)) fun r5 => rt ()) else (if nn re < (128 : Int32) then (hpZ 3 5 r1 (1 : Int32) <| hCv 13 (some x) (fun a => C_X11_answer a (some (cA x i)) (98 : Int32) (nn v) (0 : Int32)) fun r2 => rt ()) else (hCv 10 (some b) (fun a => C_X8_arrive a r1) fun r3 => hCv 13 (some x) (fun a => C_X11_goOn a (some b)) fun r4 => rt ()))) h = some ((), h') := by
            rw [e_Cv (c := 10) Sb.1.1, e_bd a5', if_neg (fun z => by cases z), if_neg (by rw [l_128, nn_lt (by omega) (by omega)]; exact g128), e_Cv (c := 10) Sb.1.1, e_bd e1, e_Cv (c := 13) e2, e_bd e3]
            rfl
          rw [Sim_l (e_bd cl), Sim_r (e_bd e4)]
          exact Sim.ret ⟨rfl, q⟩
      · exact absurd a2 (c1 k a1)
    · exact no2 a1 a2
  · -- PUBREL
    rw [sl_neg (by decide), sl_pos (show nn 6 = (6 : Int32) from rfl), sl_Cv Sb.1.1]
    unfold C_X11_answered_J146
    obtain ⟨w0, ew0⟩ : ∃ w0, R_wayOf (nn s) (nn v) r = some (w0, r) := by
      rcases qm_way R hs hb n3 n1 hv with ⟨k', c1, c2, c3⟩ | ⟨c1, c2⟩
      · exact ⟨_, c3⟩
      · exact ⟨_, c2⟩
    rw [Sim_r (e_bd ew0), sr_lq, sr_neg (by decide), sr_neg (by decide), sr_neg (by decide)]
    rcases sim_letGo R hs hb hv with ⟨a1, a2⟩ | ⟨k, h1, r1, a0, a1, a2, a3, R1, p1, w1, cs1⟩
    · obtain ⟨h', r', e1, e2, q⟩ := ans h r 112 146 R Kp.rf h79 rfl (Nat.le_refl _) (by omega) (by omega)
      have e1' : C_X11_answer x (some (cA x i)) (112 : Int32) (nn v) (146 : Int32) h = some ((), h') := e1
      have e2' : R_answer (112 : Int32) (nn v) (146 : Int32) r = some ((), r') := e2
      rw [Sim_l (e_bd a1), sl_pos rfl, Sim_r (e_bd a2), sr_pos (by decide), sl_Cv kx, Sim_l (e_bd e1')]
      unfold R_answered_J364 R_answered_J380
      rw [sr_pos (by decide), Sim_r (e_bd e2')]
      exact Sim.ret ⟨rfl, q⟩
    · have K1 : Kp x i h h1 r r1 := Kp.of p1 w1 T hi (by decide) (by
        have := Sb.1.2.1
        show ¬ x + 2 + 4 * i + 2 = b + 4
        omega) (by decide)
      obtain ⟨h', r', e1, e2, q⟩ := ans h1 r1 112 0 R1 K1 (by rw [w1.gI (by decide)]; exact h79) cs1 (w1.wn (by decide) (by decide) (by decide) (by decide)) (by omega) (by omega)
      have e1' : C_X11_answer x (some (cA x i)) (112 : Int32) (nn v) (0 : Int32) h1 = some ((), h') := e1
      have e2' : R_answer (112 : Int32) (nn v) (0 : Int32) r1 = some ((), r') := e2
      rw [Sim_l (e_bd a1), sl_neg (by decide), Sim_r (e_bd a2), sr_neg (nn_nlt0 (by omega)), Sim_r a3, sl_Cv R1.st.2.1.1, Sim_l (e_bd e1')]
      unfold R_answered_J364 R_answered_J380
      rw [sr_neg (nn_nlt0 (by omega)), Sim_r (e_bd e2')]
      exact Sim.ret ⟨rfl, q⟩
  · -- PUBCOMP
    rw [sl_neg (by decide), sl_neg (by decide), sl_neg (by decide)]
    unfold C_X11_answered_J165 C_X11_answered_J188
    rw [sl_Cv Sb.1.1]
    rcases qc_onTheWay (num := v) (q := 2) R hs hb n3 n1 hv (by omega) with ⟨k, d, a1, a2, a3, a4, a5⟩ | ⟨a1, a2⟩
    · have a5' : C_X8_onTheWay b (nn v) (2 : Int32) h = some (some d, h) := a5
      obtain ⟨d', d1, m, j, ql, fl, id, num, c1, c2, c3, c4, c5, c6, c7, c8, c9, c10⟩ := n4 k a1
      rw [a4] at d1
      cases d1
      have e305 : hfi h (100 * 3 + 5) d = r.2.1 37 (16 * s + k) := c9
      rw [Sim_l (e_bd a5'), sl_neg (fun z => by cases z), sl_neg (by decide), sl_gI c1.1, e305]
      rcases qm_way R hs hb n3 n1 hv with ⟨k', y1, y2, y3⟩ | ⟨y1, y2⟩
      · have ek := uq k' k y1 a1 y2 a2
        subst ek
        rw [Sim_r (e_bd y3), sr_lq, sr_neg (by decide), sr_neg (by decide), sr_pos (show nn 7 = (7 : Int32) from rfl), sr_neg (nn_nlt0 (by omega)), l_16, nn_mul, nn_add, sr_r37 (by omega)]
        by_cases g : r.2.1 37 (16 * s + k') = 0
        · rw [sl_pos g, sr_pos g]
          exact Sim.ret ⟨rfl, R, Kp.rf, h79, rfl, Nat.le_refl _⟩
        · obtain ⟨h1, h', r', e1, e2, e3, e4, q⟩ := lea k' d a1 a4
          rw [sl_neg g, sr_neg g, sl_Cv Sb.1.1, Sim_l (e_bd e1), sl_Cv e2, Sim_l (e_bd e3), Sim_r (e_bd e4)]
          exact Sim.ret ⟨rfl, q⟩
      · exact absurd a2 (y1 k a1)
    · have a2' : C_X8_onTheWay b (nn v) (2 : Int32) h = some (none, h) := a2
      rw [Sim_l (e_bd a2'), sl_pos rfl]
      rcases qm_way R hs hb n3 n1 hv with ⟨k', y1, y2, y3⟩ | ⟨y1, y2⟩
      · obtain ⟨d', d1, m, j, ql, fl, id, num, c1, c2, c3, c4, c5, c6, c7, c8, c9, c10⟩ := n4 k' y1
        have z37 : r.2.1 37 (16 * s + k') = 0 := by
          rcases c10 with z | ⟨z1, z2⟩
          · exact z
          · exfalso
            refine a1 k' y1 y2 ?_
            rw [c5.2.1, z2]
        rw [Sim_r (e_bd y3), sr_lq, sr_neg (by decide), sr_neg (by decide), sr_pos (show nn 7 = (7 : Int32) from rfl), sr_neg (nn_nlt0 (by omega)), l_16, nn_mul, nn_add, sr_r37 (by omega), sr_pos z37]
        exact Sim.ret ⟨rfl, R, Kp.rf, h79, rfl, Nat.le_refl _⟩
      · rw [Sim_r (e_bd y2), sr_lq, sr_neg (by decide), sr_neg (by decide), sr_pos (show nn 7 = (7 : Int32) from rfl), sr_pos (by decide)]
        exact Sim.ret ⟨rfl, R, Kp.rf, h79, rfl, Nat.le_refl _⟩
end ANS
