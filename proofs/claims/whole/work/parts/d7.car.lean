/-! ===== a message is carried on, by both ===== -/
section CAR
variable {x i s b q rn j m num w : Nat} {e0 : Int32} {h h' : Hp} {r r' : RS}
/-- the answer, if one is due -/
def ansQ (q num w : Int32) : RS → Option (Unit × RS) := if q ≤ 0 then rt () else if q = 1 then bd (R_answer (64 : Int32) num w) (fun _ => rt ()) else bd (R_answer (80 : Int32) num w) (fun _ => rt ())
/-- what such a step leaves -/
def Lv (x i : Nat) (e0 : Int32) (h : Hp) (r : RS) (c : Nat) (h' : Hp) (r' : RS) : Prop := Rel x i 12 96 e0 h' r' ∧ Kp x i h h' r r' ∧ r'.1 79 = r.1 79 ∧ (hcs h').1 + WN r' ≤ (hcs h).1 + WN r + c ∧ (hcs h').2 + 6 * WN r' ≤ (hcs h).2 + 6 * WN r + 6 * c
theorem Lv.tr {c c' : Nat} {h1 : Hp} {r1 : RS} (p : Lv x i e0 h r c h1 r1) (q : Lv x i e0 h1 r1 c' h' r') : Lv x i e0 h r (c + c') h' r' := by
  obtain ⟨p1, p2, p3, p4, p5⟩ := p
  obtain ⟨q1, q2, q3, q4, q5⟩ := q
  exact ⟨q1, p2.tr q2, q3.trans p3, by omega, by omega⟩
theorem sim_c58 (R : Rel x i 12 96 e0 h r) (hi : i < 8) (ho : r.2.1 1 i = 1) (hc : r.1 75 = nn i) (hm : hkd h m = 5 + 1) (hqm : hfi h 502 m = nn q) (hq : q ≤ 2) (hn : num < 65536) (hw : w < 256) :
    Sim (C_X11_carry_J58 x (some (cA x i)) (some m) (nn num) (nn w)) h (ansQ (nn q) (nn num) (nn w)) r (fun _ h' _ r' => Lv x i e0 h r 0 h' r') := by
  have kx : hkd h x = 13 + 1 := R.st.2.1.1
  have e2 : hfi h (100 * 5 + 2) m = nn q := hqm
  have ans : ∀ g, g < 256 → Sim (bd (C_X11_answer x (some (cA x i)) (nn g) (nn num) (nn w)) (fun _ => rt ())) h (bd (R_answer (nn g) (nn num) (nn w)) (fun _ => rt ())) r (fun _ h' _ r' => Lv x i e0 h r 0 h' r') := fun g hg => by
    refine Sim.seq (sim_answer R hi ho hc hg hn hw) (fun _ h1 _ r1 ⟨q1, q2, q3⟩ => Sim.ret ?_)
    have hcs1 : hcs h1 = hcs h := q2.1.2.2.2.2.2.2.2
    have hwn := q3.wn (by decide) (by decide) (by decide) (by decide)
    exact ⟨q1, q2.kp q3 R hi, q3.gI (by decide), by rw [hcs1]; omega, by rw [hcs1]; omega⟩
  unfold C_X11_carry_J58 C_X11_carry_J82 ansQ
  rw [sl_gI hm, e2]
  rcases (show q = 0 ∨ q = 1 ∨ q = 2 by omega) with z | z | z <;> subst z
  · rw [sl_pos (by decide), sr_pos (by decide)]
    exact Sim.ret ⟨R, Kp.rf, rfl, Nat.le_refl _, Nat.le_refl _⟩
  · rw [sl_neg (by decide), sr_neg (by decide), sl_gI hm, e2, sl_pos (by decide), sr_pos (by decide), sl_Cv kx]
    exact ans 64 (by omega)
  · rw [sl_neg (by decide), sr_neg (by decide), sl_gI hm, e2, sl_neg (by decide), sr_neg (by decide), sl_Cv kx]
    exact ans 80 (by omega)
/-- the model's way with a message -/
def pubTl (l1 l2 l3 l6 r8 : Int32) : RS → Option (Unit × RS) := if l2 = (1 : Int32) then (bd (R_keep r8) fun r9 => if r9 = 0 then ansQ l1 l6 (151 : Int32) else R_publish_J549 l1 l3 l6 r8) else R_publish_J549 l1 l3 l6 r8
theorem pubTl_eq {l1 l2 l3 l6 : Int32} : R_publish_J488 l1 l2 l3 l6 = (rI 76 fun v5 => rI 77 fun v6 => rI 76 fun v7 => bd (R_message v5 (v6 - v7) l1 l2) fun r8 => pubTl l1 l2 l3 l6 r8) := rfl
theorem j585_eq {l1 l6 l9 : Int32} : R_publish_J585 l1 l6 l9 = ansQ l1 l6 (if l9 = 0 then (16 : Int32) else 0) := by
  unfold R_publish_J585 R_publish_J602 R_publish_J615 ansQ
  by_cases z : l9 = 0
  · simp only [if_pos z]
  · simp only [if_neg z]
/-- distribute, hold, answer -/
theorem sim_c27 (R : Rel x i 12 96 e0 h r) (hi : i < 8) (hs : s < 12) (hb : har h (x + 34) s = some b) (ho : r.2.1 1 i = 1) (hc : r.1 75 = nn i) (M : Msg x h r m j) (Fo : Frm x h r j b) (hqm : hfi h 502 m = nn q) (h60 : r.2.1 60 j = nn q) (hq : q ≤ 2) (hn : num < 65536) (h8 : q = 2 → r.2.1 43 s ≠ nn 8 ∧ ∀ k, k < iN (r.2.1 43 s) → r.2.1 44 (8 * s + k) ≠ nn num) :
    Sim (C_X11_carry_J27 x (some (cA x i)) (some b) (some m) (nn num)) h (R_publish_J549 (nn q) (nn s) (nn num) (nn j)) r (fun _ h' _ r' => Lv x i e0 h r (if q = 0 then 0 else 64) h' r') := by
  have kx : hkd h x = 13 + 1 := R.st.2.1.1
  obtain ⟨Vm, cm, _⟩ := M.1.1
  have hmlt : m < hnx h := cm.2.2.1
  have hx := R.st.1
  unfold C_X11_carry_J27 R_publish_J549
  rw [sl_Cv kx]
  refine Sim.seq (sim_distribute R M Fo) ?_
  rintro v h1 v' r1 ⟨rfl, hv01, R1, G1, c1, c2⟩
  have hoz : oz r j = if q = 0 then 0 else 64 := by
    unfold oz
    rw [h60]
    by_cases z : q = 0
    · rw [z, if_pos (show nn 0 = (0 : Int32) from rfl), if_pos rfl]
    · rw [if_neg (nn_ne0 (by omega) z), if_neg z]
  rw [hoz] at c1 c2
  have L1 : Lv x i e0 h r (if q = 0 then 0 else 64) h1 r1 := ⟨R1, G1.kp R hi, G1.2.1.gI (by decide), c1, c2⟩
  have km1 : hkd h1 m = 5 + 1 := by rw [(G1.1.1.2.1 m hmlt).1]; exact cm.1
  have q1 : hfi h1 502 m = nn q := by rw [G1.1.gi (by decide) hmlt]; exact hqm
  have ho1 : r1.2.1 1 i = 1 := by rw [G1.2.1.gA (by decide)]; exact ho
  have hc1 : r1.1 75 = nn i := by rw [G1.2.1.gI (by decide)]; exact hc
  have hb1 : har h1 (x + 34) s = some b := by rw [G1.2.2]; exact hb
  have Sb1 := R1.ses hs hb1
  obtain ⟨wv, hwv, e1⟩ : ∃ wv, wv < 256 ∧ ∀ {α : Type} {f : Int32 → Hp → Option (α × Hp)}, (if v = 0 then f (16 : Int32) else f (0 : Int32)) = f (nn wv) ∧ (if v = 0 then (16 : Int32) else 0) = nn wv := by
    rcases hv01 with z | z
    · exact ⟨16, by omega, fun {α f} => ⟨by rw [if_pos z]; rfl, by rw [if_pos z]; rfl⟩⟩
    · exact ⟨0, by omega, fun {α f} => ⟨by rw [if_neg (by rw [z]; decide)]; rfl, by rw [if_neg (by rw [z]; decide)]; rfl⟩⟩
  rw [(e1 (α := Unit) (f := fun w => C_X11_carry_J42 x (some (cA x i)) (some b) (some m) (nn num) w)).1]
  simp only [j585_eq, (e1 (α := Unit) (f := fun w => C_X11_carry_J42 x (some (cA x i)) (some b) (some m) (nn num) w)).2]
  unfold C_X11_carry_J42
  rw [sl_gI km1, show hfi h1 (100 * 5 + 2) m = nn q from q1]
  by_cases z2 : q = 2
  · subst z2
    obtain ⟨g1, g2⟩ := h8 rfl
    obtain ⟨n, h2, a1, a2, a3, a4, a5, a6⟩ := sim_hold R1 hs hb1 hn (by rw [G1.2.1.gA (by decide)]; exact g1) (by rw [G1.2.1.gA (by decide), G1.2.1.gA (by decide)]; exact g2)
    rw [sl_pos (by decide), sl_Cv Sb1.1.1, Sim_l (e_bd a3), sr_pos (by decide), sr_r43 hs, a1, l_1, nn_add, sr_w43 hs, l_8, nn_mul, nn_add, sr_w44 (by omega)]
    have w2 : Ro [43, 44] r1 (sA (sA r1 43 s (nn (n + 1))) 44 (8 * s + n) (nn num)) := (Ro.rf.a (by decide)).a (by decide)
    have hb4 := Sb1.1.2.2.1
    have hb2 := Sb1.1.2.1
    have L2 : Lv x i e0 h1 r1 0 h2 (sA (sA r1 43 s (nn (n + 1))) 44 (8 * s + n) (nn num)) := by
      have hwn := w2.wn (by decide) (by decide) (by decide) (by decide)
      refine ⟨a4, Kp.of a5 w2 R1.st hi (by decide) (fun z => ?_) (by decide), rfl, by rw [a6]; omega, by rw [a6]; omega⟩
      have : cA x i + 2 = x + 2 + 4 * i + 2 := rfl
      omega
    have hmlt1 : m < hnx h1 := Nat.lt_of_lt_of_le hmlt G1.1.1.1
    refine (sim_c58 (q := 2) a4 hi (by rw [w2.gA (by decide)]; exact ho1) hc1 (by rw [(a5.1.2.1 m hmlt1).1]; exact km1) (by rw [a5.gi (by decide) hmlt1]; exact q1) (by omega) hn hwv).mono (fun _ h' _ r' L3 => ?_)
    have := (L1.tr L2).tr L3
    exact this
  · have nq2 : ¬ nn q = (2 : Int32) := fun z => z2 (nn_inj (b := 2) (by omega) (by omega) z)
    rw [sl_neg nq2, sr_neg nq2]
    refine (sim_c58 R1 hi ho1 hc1 km1 q1 hq hn hwv).mono (fun _ h' _ r' L3 => ?_)
    exact L1.tr L3
theorem sim_carry (R : Rel x i 12 96 e0 h r) (hi : i < 8) (hs : s < 12) (hb : har h (x + 34) s = some b) (ho : r.2.1 1 i = 1) (hc : r.1 75 = nn i) (M : Msg x h r m j) (Fo : Frm x h r j b) (hqm : hfi h 502 m = nn q) (hrm : hfi h 503 m = nn rn) (h60 : r.2.1 60 j = nn q) (hq : q ≤ 2) (hrt : rn ≤ 1) (hn : num < 65536) (h8 : q = 2 → r.2.1 43 s ≠ nn 8 ∧ ∀ k, k < iN (r.2.1 43 s) → r.2.1 44 (8 * s + k) ≠ nn num) :
    Sim (C_X11_carry x (some (cA x i)) (some b) (some m) (nn num)) h (pubTl (nn q) (nn rn) (nn s) (nn num) (nn j)) r (fun _ h' _ r' => Lv x i e0 h r (if q = 0 then 0 else 64) h' r') := by
  have T := R.st
  have kx : hkd h x = 13 + 1 := T.2.1.1
  obtain ⟨Vm, cm, _⟩ := M.1.1
  have hmlt : m < hnx h := cm.2.2.1
  have hx := T.1
  unfold C_X11_carry pubTl
  rw [sl_gI (c := 5) cm.1, show hfi h (100 * 5 + 3) m = nn rn from hrm]
  rcases (show rn = 0 ∨ rn = 1 by omega) with z | z <;> subst z
  · rw [sl_pos (by decide), sr_neg (by decide)]
    exact sim_c27 R hi hs hb ho hc M Fo hqm h60 hq hn h8
  · rw [sl_neg (by decide), sr_pos (by decide), sl_gR kx, show hfr h (100 * 13 + 2) x = some (x + 35) from T.2.1.2.2.2.1, sl_gI kx, sl_Cv (c := 8) T.2.2.1.2.2.2.2.1]
    refine Sim.seq (sim_keep R M (tm := hfi h (100 * 13 + 9) x) R.2.1.2.1) ?_
    rintro v h1 v' r1 ⟨rfl, hv01, R1, F1, w1, c1, n1⟩
    have hwn := w1.wn (by decide) (by decide) (by decide) (by decide)
    have L1 : Lv x i e0 h r 0 h1 r1 := by
      refine ⟨R1, Kp.of F1 w1 T hi (by decide) (fun z => ?_) (by decide), w1.gI (by decide), by rw [c1]; omega, by rw [c1]; omega⟩
      have : cA x i + 2 = x + 2 + 4 * i + 2 := rfl
      omega
    have km1 : hkd h1 m = 5 + 1 := by rw [(F1.1.2.1 m hmlt).1]; exact cm.1
    have q1 : hfi h1 502 m = nn q := by rw [F1.gi (by decide) hmlt]; exact hqm
    have ho1 : r1.2.1 1 i = 1 := by rw [w1.gA (by decide)]; exact ho
    have hc1 : r1.1 75 = nn i := by rw [w1.gI (by decide)]; exact hc
    have e34 : har h1 (x + 34) = har h (x + 34) := (F1.2.2 (x + 34) (by omega) (by omega)).2.1
    rcases hv01 with z | z <;> subst z
    · rw [sl_pos rfl, sr_pos rfl]
      refine (sim_c58 (w := 151) R1 hi ho1 hc1 km1 q1 hq hn (by omega)).mono (fun _ h' _ r' L2 => ?_)
      obtain ⟨b1, b2, b3, b4, b5⟩ := L1.tr L2
      exact ⟨b1, b2, b3, by omega, by omega⟩
    · rw [sl_neg (by decide), sr_neg (by decide)]
      have M1 : Msg x h1 r1 m j := by
        refine ⟨M.1.to F1 w1 (by decide) (by decide), M.2.1, fun s' b' hs' hb' => ?_⟩
        rw [e34] at hb'
        have hb4 := (R.ses hs' hb').1.2.2.1
        rw [F1.gr (by decide) (by omega), w1.gA (by decide)]
        exact M.2.2 s' b' hs' hb'
      have Fo1 : Frm x h1 r1 j b := by
        obtain ⟨f, f1, f2, f3⟩ := Fo
        exact ⟨f, f1, by rw [e34]; exact f2, by rw [w1.gA (by decide), w1.gA (by decide)]; exact f3⟩
      refine (sim_c27 R1 hi hs (by rw [e34]; exact hb) ho1 hc1 M1 Fo1 q1 (by rw [w1.gA (by decide)]; exact h60) hq hn (fun z => by rw [w1.gA (by decide), w1.gA (by decide)]; exact h8 z)).mono (fun _ h' _ r' L2 => ?_)
      obtain ⟨b1, b2, b3, b4, b5⟩ := L1.tr L2
      exact ⟨b1, b2, b3, by omega, by omega⟩
end CAR
