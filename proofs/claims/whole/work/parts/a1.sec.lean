/-! ===== one second, side by side ===== -/
section SEC
variable {x ec s b i t : Nat} {e0 : Int32} {h : Hp} {r : RS}
/-- what holds when all has settled -/
def Aft (x ec : Nat) (e0 : Int32) (h : Hp) (r : RS) (h' : Hp) (r' : RS) : Prop := hkd h' x = 13 + 1 ∧ wp (C_X11_settle x) h' (fun _ h2 => Rel x ec 12 96 e0 h2 r' ∧ GL x h h2 r r' ∧ (∀ i, i < 8 → r'.2.1 2 i = 0) ∧ Pd h h2 r r')
theorem sim_tk3 : ∀ (c s f g : Nat) (h1 : Hp) (r1 : RS), s + c = 12 → c < f → c < g → Rel x ec 12 96 e0 h1 r1 → GL x h h1 r r1 → Pd h h1 r r1 → Sim (C_X11_tick_L110 x (C_X11_tick_J151 x) f (nn s)) h1 (R_second_L172 (R_second_J233) g (nn s)) r1 (fun _ h' _ r' => Aft x ec e0 h r h' r') := by
  intro c
  induction c with
  | zero =>
    intro s f g h1 r1 hs hf hg R1 G1 P1
    obtain ⟨f', rfl⟩ : ∃ z, f = z + 1 := ⟨f - 1, by omega⟩
    obtain ⟨g', rfl⟩ : ∃ z, g = z + 1 := ⟨g - 1, by omega⟩
    have : s = 12 := by omega
    subst this
    show Sim (C_X11_tick_B110 x _ _ (nn 12)) h1 (R_second_B172 _ _ (nn 12)) r1 _
    unfold C_X11_tick_B110 R_second_B172 C_X11_tick_J151 R_second_J233
    rw [sl_pos (by decide), sr_pos (by decide)]
    obtain ⟨v, h2, w, r2, e1, e2, q1, q2, q3, q4⟩ := sim_settle R1
    rw [Sim_r (e_bd e2)]
    exact Sim.ret ⟨R1.st.2.1.1, v, h2, e1, q1, G1.tr q2, q3, P1.tr q4⟩
  | succ c ih =>
    intro s f g h1 r1 hs hf hg R1 G1 P1
    obtain ⟨f', rfl⟩ : ∃ z, f = z + 1 := ⟨f - 1, by omega⟩
    obtain ⟨g', rfl⟩ : ∃ z, g = z + 1 := ⟨g - 1, by omega⟩
    have hs12 : s < 12 := by omega
    have T := R1.st
    obtain ⟨t, t1, t2⟩ := R1.2.1.1
    have g9 : hfi h1 (100 * 13 + 9) x = nn t := R1.2.1.2.1.trans t2
    have er : hfr h1 (100 * 13 + 1) x = some (x + 34) := T.2.1.2.2.1
    show Sim (C_X11_tick_B110 x _ _ (nn s)) h1 (R_second_B172 _ _ (nn s)) r1 _
    unfold C_X11_tick_B110 R_second_B172
    have nxt := ih (s + 1) f' g' h1 r1 (by omega) (by omega) (by omega) R1 G1 P1
    rw [sl_neg (by rw [show (12 : Int32) = nn 12 from rfl, nn_le (by omega) (by omega)]; omega), sr_neg (by rw [show (12 : Int32) = nn 12 from rfl, nn_le (by omega) (by omega)]; omega), sl_gR T.2.1.1, er, sl_Ar T.2.2.1.2.2.1 (by rw [T.2.2.1.2.2.2.1]; exact hs12) (by omega), sr_r11 hs12, l_1, nn_add]
    rcases R1.2.2.2.2.1 s hs12 with ⟨c1, c2⟩ | ⟨c1, b, c2, c3, c4⟩
    · rw [c2, sl_pos rfl, sr_pos c1]
      exact nxt
    · obtain ⟨n, n1, n2, n3⟩ := qc_endTime R1 hs12 c2
      unfold bigT at n2 n3
      rw [c2, sl_neg (by simp), sr_neg (by rw [c1]; decide), sl_Cv c3.1.1, Sim_l (e_bd n1), sl_gI T.2.1.1, g9, sr_r15 hs12]
      have hcond : 0 < lg_cmp (n6 n) (nn t).toInt64 ↔ t < n := by rw [n6_nn (by omega), cmp_gt, n6_lt (by omega) (by omega)]
      rcases c3.2.2.1.2.2.2.2 with ⟨a1, a2⟩ | ⟨i, a0, a1, a2, a3⟩
      · rw [sr_neg (by rw [a2]; decide), sr_r23 hs12]
        rcases n3 with ⟨y1, y2⟩ | ⟨y1, y2⟩
        · have y3 : r1.2.2 23 s = -1 := y2.resolve_left (fun z => z a2)
          rw [sl_pos (hcond.mpr (by omega)), sr_pos (by rw [y3, cmp_lt]; decide)]
          exact nxt
        · rw [sr_neg (by rw [y2, cmp_lt, show (0 : Int64) = n6 0 from rfl, n6_lt (by omega) (by omega)]; omega), sr_r23 hs12, sr_rI, t2, y2]
          by_cases gt : t < n
          · rw [sl_pos (hcond.mpr gt), sr_pos (hcond.mpr gt)]
            exact nxt
          · rw [sl_neg (fun z => gt (hcond.mp z)), sr_neg (fun z => gt (hcond.mp z)), sl_Cv T.2.1.1]
            refine Sim.seq (sim_ends R1 hs12 c2 a2) (fun _ h2 _ r2 z => ?_)
            exact ih (s + 1) f' g' h2 r2 (by omega) (by omega) (by omega) z.1 (G1.tr z.2.1) (P1.tr z.2.2.2.2)
      · have hn : n = 1099511627776 := by
          rcases n3 with ⟨y1, _⟩ | ⟨y1, _⟩
          · exact y1
          · rw [a2] at y1; exact absurd y1.symm (neg_nn (by omega))
        rw [sl_pos (hcond.mpr (by omega)), sr_pos (by rw [a2]; exact nn_ge (by omega))]
        exact nxt
theorem sim_tk2 : ∀ (c s f g : Nat) (h1 : Hp) (r1 : RS), s + c = 12 → c < f → c < g → Rel x ec 12 96 e0 h1 r1 → GL x h h1 r r1 → Pd h h1 r r1 → Sim (C_X11_tick_L67 x (C_X11_tick_J108 x) f (nn s)) h1 (R_second_L111 (R_second_J170) g (nn s)) r1 (fun _ h' _ r' => Aft x ec e0 h r h' r') := by
  intro c
  induction c with
  | zero =>
    intro s f g h1 r1 hs hf hg R1 G1 P1
    obtain ⟨f', rfl⟩ : ∃ z, f = z + 1 := ⟨f - 1, by omega⟩
    obtain ⟨g', rfl⟩ : ∃ z, g = z + 1 := ⟨g - 1, by omega⟩
    have : s = 12 := by omega
    subst this
    show Sim (C_X11_tick_B67 x _ _ (nn 12)) h1 (R_second_B111 _ _ (nn 12)) r1 _
    unfold C_X11_tick_B67 R_second_B111 C_X11_tick_J108 R_second_J170
    rw [sl_pos (by decide), sr_pos (by decide)]
    exact sim_tk3 12 0 fu fu h1 r1 (by omega) (by unfold fu; omega) (by unfold fu; omega) R1 G1 P1
  | succ c ih =>
    intro s f g h1 r1 hs hf hg R1 G1 P1
    obtain ⟨f', rfl⟩ : ∃ z, f = z + 1 := ⟨f - 1, by omega⟩
    obtain ⟨g', rfl⟩ : ∃ z, g = z + 1 := ⟨g - 1, by omega⟩
    have hs12 : s < 12 := by omega
    have T := R1.st
    obtain ⟨t, t1, t2⟩ := R1.2.1.1
    have g9 : hfi h1 (100 * 13 + 9) x = nn t := R1.2.1.2.1.trans t2
    have er : hfr h1 (100 * 13 + 1) x = some (x + 34) := T.2.1.2.2.1
    show Sim (C_X11_tick_B67 x _ _ (nn s)) h1 (R_second_B111 _ _ (nn s)) r1 _
    unfold C_X11_tick_B67 R_second_B111
    have nxt := ih (s + 1) f' g' h1 r1 (by omega) (by omega) (by omega) R1 G1 P1
    rw [sl_neg (by rw [show (12 : Int32) = nn 12 from rfl, nn_le (by omega) (by omega)]; omega), sr_neg (by rw [show (12 : Int32) = nn 12 from rfl, nn_le (by omega) (by omega)]; omega), sl_gR T.2.1.1, er, sl_Ar T.2.2.1.2.2.1 (by rw [T.2.2.1.2.2.2.1]; exact hs12) (by omega), sr_r11 hs12, l_1, nn_add]
    rcases R1.2.2.2.2.1 s hs12 with ⟨c1, c2⟩ | ⟨c1, b, c2, c3, c4⟩
    · rw [c2, sl_pos rfl, sr_pos c1]
      exact nxt
    · obtain ⟨n, n1, n2, n3⟩ := qc_willTime R1 hs12 c2
      unfold bigT at n2 n3
      rw [c2, sl_neg (by simp), sr_neg (by rw [c1]; decide), sl_Cv c3.1.1, Sim_l (e_bd n1), sl_gI T.2.1.1, g9, sr_r15 hs12]
      have hcond : 0 < lg_cmp (n6 n) (nn t).toInt64 ↔ t < n := by rw [n6_nn (by omega), cmp_gt, n6_lt (by omega) (by omega)]
      rcases c3.2.2.1.2.2.2.2 with ⟨a1, a2⟩ | ⟨i, a0, a1, a2, a3⟩
      · rw [sr_neg (by rw [a2]; decide), sr_r20 hs12]
        rcases n3 with ⟨y1, y2⟩ | ⟨y1, y2, y3⟩
        · have y3 : r1.2.1 20 s = -1 := y2.resolve_left (fun z => z a2)
          rw [sl_pos (hcond.mpr (by omega)), sr_pos (by rw [y3]; decide)]
          exact nxt
        · rw [sr_neg (Int32.not_lt.mpr y2), sr_r22 hs12, sr_rI, t2, y3]
          by_cases gt : t < n
          · rw [sl_pos (hcond.mpr gt), sr_pos (hcond.mpr gt)]
            exact nxt
          · rw [sl_neg (fun z => gt (hcond.mp z)), sr_neg (fun z => gt (hcond.mp z)), sl_Cv T.2.1.1]
            rcases c3.2.2.2.1 with ⟨w1, w2⟩ | ⟨m, j, w1, w2, w3, w4⟩
            · rw [w2] at y2
              exact absurd y2 (by decide)
            · refine Sim.seq (sim_comes R1 hs12 c2 w1 w2 w3) (fun _ h2 _ r2 z => ?_)
              exact ih (s + 1) f' g' h2 r2 (by omega) (by omega) (by omega) z.1 (G1.tr (z.2.1.gl T)) (P1.tr z.2.2.2.2)
      · have hn : n = 1099511627776 := by
          rcases n3 with ⟨y1, _⟩ | ⟨y1, _⟩
          · exact y1
          · rw [a2] at y1; exact absurd y1.symm (neg_nn (by omega))
        rw [sl_pos (hcond.mpr (by omega)), sr_pos (by rw [a2]; exact nn_ge (by omega))]
        exact nxt
theorem sim_tk1 : ∀ (c i f g : Nat) (h1 : Hp) (r1 : RS), i + c = 8 → c < f → c < g → Rel x ec 12 96 e0 h1 r1 → GL x h h1 r r1 → Pd h h1 r r1 → Sim (C_X11_tick_L13 x (C_X11_tick_J65 x) f (nn i)) h1 (R_second_L12 (R_second_J109) g (nn i)) r1 (fun _ h' _ r' => Aft x ec e0 h r h' r') := by
  intro c
  induction c with
  | zero =>
    intro i f g h1 r1 hs hf hg R1 G1 P1
    obtain ⟨f', rfl⟩ : ∃ z, f = z + 1 := ⟨f - 1, by omega⟩
    obtain ⟨g', rfl⟩ : ∃ z, g = z + 1 := ⟨g - 1, by omega⟩
    have : i = 8 := by omega
    subst this
    show Sim (C_X11_tick_B13 x _ _ (nn 8)) h1 (R_second_B12 _ _ (nn 8)) r1 _
    unfold C_X11_tick_B13 R_second_B12 C_X11_tick_J65 R_second_J109
    rw [sl_pos (by decide), sr_pos (by decide)]
    exact sim_tk2 12 0 fu fu h1 r1 (by omega) (by unfold fu; omega) (by unfold fu; omega) R1 G1 P1
  | succ c ih =>
    intro i f g h1 r1 hs hf hg R1 G1 P1
    obtain ⟨f', rfl⟩ : ∃ z, f = z + 1 := ⟨f - 1, by omega⟩
    obtain ⟨g', rfl⟩ : ∃ z, g = z + 1 := ⟨g - 1, by omega⟩
    have hi8 : i < 8 := by omega
    have T := R1.st
    obtain ⟨t, t1, t2⟩ := R1.2.1.1
    have g9 : hfi h1 (100 * 13 + 9) x = nn t := R1.2.1.2.1.trans t2
    have er : hfr h1 (100 * 13 + 0) x = some (x + 1) := T.2.1.2.1
    obtain ⟨u1, u2, _⟩ := T.2.2.2.2.2.2 i hi8
    show Sim (C_X11_tick_B13 x _ _ (nn i)) h1 (R_second_B12 _ _ (nn i)) r1 _
    unfold C_X11_tick_B13 R_second_B12
    have nxt := ih (i + 1) f' g' h1 r1 (by omega) (by omega) (by omega) R1 G1 P1
    rw [sl_neg (by rw [show (8 : Int32) = nn 8 from rfl, nn_le (by omega) (by omega)]; omega), sr_neg (by rw [show (8 : Int32) = nn 8 from rfl, nn_le (by omega) (by omega)]; omega), sl_gR T.2.1.1, er, sl_Ar T.2.2.1.1 (by rw [T.2.2.1.2.1]; exact hi8) (by omega), u1, sl_gR u2, sr_r1 hi8, l_1, nn_add]
    obtain ⟨q, q1, q2, q3⟩ := qc_quiet R1 hi8
    unfold bigT at q2 q3
    rcases q3 with ⟨y1, y2, y3⟩ | ⟨s, b, y0, y1, y2, y3, y4, y5⟩
    · have y2' : hfr h1 (100 * 2 + 2) (cA x i) = none := y2
      rw [y2', sl_pos rfl]
      by_cases g1 : r1.2.1 1 i = 0
      · rw [sr_pos g1]
        exact nxt
      · rw [sr_neg g1, sr_r7 hi8, sr_neg (by rw [y1]; decide)]
        exact nxt
    · have y4' : hfr h1 (100 * 2 + 2) (cA x i) = some b := y4
      have hcond : 0 ≤ lg_cmp (n6 q) (nn t).toInt64 ↔ t ≤ q := by rw [n6_nn (by omega), cmp_ge, n6_le (by omega) (by omega)]
      rw [y4', sl_neg (by simp), sl_Cv u2, Sim_l (e_bd q1), sl_gI T.2.1.1, g9, sr_neg (by rw [y2]; decide), sr_r7 hi8, sr_pos (by rw [y1]; exact nn_ge (by omega)), sr_r7 hi8, y1, sr_r19 y0]
      rcases y5 with ⟨y5, y6⟩ | ⟨k, l, z1, z2, z3, z4, z5, z6⟩
      · rw [sl_pos (hcond.mpr (by omega)), sr_pos y5]
        exact nxt
      · rw [t2, iN_nn (by omega)] at z5
        have hc2 : 0 < lg_cmp ((2 : Int64) * (nn t - nn l).toInt64) ((3 : Int64) * (nn k).toInt64) ↔ q < t := by
          rw [nn_sub (by omega), n6_nn (by omega), n6_nn (by omega), show (2 : Int64) = n6 2 from rfl, show (3 : Int64) = n6 3 from rfl, n6_mul, n6_mul, cmp_gt, n6_lt (by omega) (by omega)]
          omega
        rw [z1, sr_neg (fun y : nn k = (0 : Int32) => by have := nn_inj (b := 0) (by omega) (by omega) y; omega), sr_rI, t2, sr_r8 hi8, z4]
        by_cases gt : q < t
        · rw [sl_neg (fun z => by have := hcond.mp z; omega), sr_pos (hc2.mpr gt), sl_Cv T.2.1.1]
          refine Sim.seq (sim_bye (v := 141) R1 hi8 y2 (by omega)) (fun _ h2 _ r2 z => ?_)
          rw [sl_Cv z.1.st.2.1.1]
          refine Sim.seq (sim_lost (ec' := ec) z.1 hi8 (fun _ _ _ z => z)) (fun _ h3 _ r3 z' => ?_)
          exact ih (i + 1) f' g' h3 r3 (by omega) (by omega) (by omega) z'.1 ((G1.tr ((z.2.1.gw z.2.2).gl T)).tr z'.2.1) ((P1.tr (z.2.1.pd z.2.2)).tr z'.2.2.2.2)
        · rw [sl_pos (hcond.mpr (by omega)), sr_neg (fun z => gt (hc2.mp z))]
          exact nxt
end SEC
