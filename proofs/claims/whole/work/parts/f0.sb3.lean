section SB3
variable {x i s b num p0 id cnt e p n f : Nat} {e0 : Int32} {h h' h0 : Hp} {r r' r0 : RS} {bs ys : List Nat}
theorem sh43n : ∀ o, o < 64 → ((nn o >>> ((4 : Int32) &&& 31)) &&& (3 : Int32)) = nn (o / 16) := by decide +kernel
theorem gA.n50 {ec es ew : Nat} (R : Rel x ec es ew e0 h r) : ¬ gA x h (x + 50) := fun z => by
  have hx := R.st.1
  rcases z with z | ⟨i', hi', z⟩ | ⟨s', b', h1', h2', z⟩
  · omega
  · have : cA x i' + 1 = x + 2 + 4 * i' + 1 := rfl
    omega
  · have := (R.ses h1' h2').1.2.1
    omega
/-- what the model does about entry e -/
theorem show_or {ec es : Nat} (R : Rel x ec es 96 e0 h r) (hs : s < 12) (hb : har h (x + 34) s = some b) (hi : i < 8) (he : e < 410) (hbl : bs.length ≤ 405) (B : By bs) (hE : Ent bs p) (h6 : Mg (r.2.1 6) (410 * i) bs) (hA : eA i bs r e p) (hD : Dc x s bs h r e p) :
    ((hai h (x + 50) e = -1 ∨ hai h (x + 50) e = nn 8) ∧ R_show (nn s) (nn e) r = some ((), r)) ∨ ∃ k, k < 8 ∧ hai h (x + 50) e = nn k ∧ Pl x h r (sl bs (p + 2) (b2 bs p)) s k ∧ fstart (sl bs (p + 2) (b2 bs p)) = some 0 ∧ R_show (nn s) (nn e) r = (bd R_purge fun _ => R_show_L93 (R_show_J138) fu (nn (8 * s + k)) (0 : Int32)) r := by
  obtain ⟨a1, a2, a3⟩ := hA
  obtain ⟨n1, n2, n3, n4⟩ := hE
  obtain ⟨re, d1, d2, d3⟩ := hD
  obtain ⟨ys, ey⟩ : ∃ z, z = sl bs (p + 2) (b2 bs p) := ⟨_, rfl⟩
  obtain ⟨o, eo⟩ : ∃ o, o = bs.getD (p + 2 + b2 bs p) 0 := ⟨_, rfl⟩
  have yl : ys.length = b2 bs p := by rw [ey]; exact sl_len (by omega)
  have By' : By ys := by rw [ey]; exact sl_by B
  have M6 : Mg (r.2.1 6) (410 * i + (p + 2)) ys := by rw [ey]; exact h6.slc (by omega)
  rw [← eo] at a3 n3 d3
  rw [← ey] at d3 ⊢
  have ms := qm_shareAt (f0 := 6) (r := r) M6 By' (by rw [mL_6]; omega) (by omega)
  rw [yl] at ms
  have e0' : R_show (nn s) (nn e) r = (if (2 : Int32) < nn re then (rt ()) else (if 0 < nn (shA ys) then (rt ()) else (if nn (o / 16) = 0 then (R_show_J62 (nn s) (nn e)) else (if nn (o / 16) = (1 : Int32) then (rA 96 (nn e) fun v17 => if v17 = 0 then (rt ()) else (R_show_J62 (nn s) (nn e))) else (rt ()))))) r := by
    unfold R_show lq
    rw [x_rA mL_95 he (by omega), a3, sh43n o n3]
    dsimp only
    rw [x_rA mL_92 he (by omega), d1]
    by_cases g : (2 : Int32) < nn re
    · rw [if_pos g, if_pos g]
    · rw [if_neg g, if_neg g, x_rA mL_93 he (by omega), a1, x_rA mL_94 he (by omega), a2, e_bd ms]
  rw [e0']
  have shl : shA ys < 1000 := by
    unfold shA
    cases hf : fstart ys with
    | none => exact Nat.zero_lt_succ _
    | some st =>
      have := fstart_lt hf
      show st < 1000
      omega
  rcases d3 with ⟨y1, y2⟩ | ⟨k, y1, y2, y3, y4, y5, y6⟩
  · refine Or.inl ⟨y1, ?_⟩
    by_cases g : (2 : Int32) < nn re
    · rw [if_pos g]
      rfl
    · rw [if_neg g]
      have g' : ¬ 2 < re := fun z => g (by rw [l_2, nn_lt (by omega) (by omega)]; exact z)
      by_cases g2 : 0 < shA ys
      · rw [if_pos (show (0 : Int32) < nn (shA ys) by rw [l_0, nn_lt (by omega) (by omega)]; exact g2)]
        rfl
      · rw [if_neg (show ¬ (0 : Int32) < nn (shA ys) by rw [l_0, nn_lt (by omega) (by omega)]; exact g2)]
        have y3 : ¬ (o / 16 = 0 ∨ (o / 16 = 1 ∧ r.2.1 96 e ≠ 0)) := by
          rcases y2 with z | z | z
          · exact absurd z g'
          · exact absurd z g2
          · exact z
        rw [if_neg (nn_ne0 (by omega) (fun z => y3 (Or.inl z)))]
        by_cases g1 : o / 16 = 1
        · have z96 : r.2.1 96 e = 0 := by
            by_cases w : r.2.1 96 e = 0
            · exact w
            · exact absurd (Or.inr ⟨g1, w⟩) y3
          rw [if_pos (show nn (o / 16) = (1 : Int32) by rw [g1]; rfl), x_rA mL_96 he (by omega), z96, if_pos rfl]
          rfl
        · rw [if_neg (fun z : nn (o / 16) = (1 : Int32) => g1 (nn_inj (b := 1) (by omega) (by omega) z))]
          rfl
  · refine Or.inr ⟨k, y1, y2, y3, y5, ?_⟩
    have g2 : ¬ 0 < shA ys := by rw [shA_of y5]; omega
    rw [if_neg (show ¬ (2 : Int32) < nn re by rw [l_2, nn_lt (by omega) (by omega)]; omega), if_neg (show ¬ (0 : Int32) < nn (shA ys) by rw [l_0, nn_lt (by omega) (by omega)]; exact g2)]
    obtain ⟨v, w1, w2⟩ := qm_subOf R hs hb M6 By' (by omega) (by omega)
    have ev : v = nn k := by
      rcases w2 with ⟨k', j1, j2, j3⟩ | ⟨j1, j2⟩
      · rw [j2, Pl.uq R hs j3 y3]
      · exact absurd y3 (j2 k)
    rw [ev, yl] at w1
    have j62 : R_show_J62 (nn s) (nn e) r = (bd R_purge fun _ => R_show_L93 (R_show_J138) fu (nn (8 * s + k)) (0 : Int32)) r := by
      unfold R_show_J62 lq
      rw [x_rA mL_93 he (by omega), a1, x_rA mL_94 he (by omega), a2, e_bd w1, l_8, nn_mul, nn_add]
    rcases y6 with z | ⟨z1, z2⟩
    · rw [if_pos (show nn (o / 16) = (0 : Int32) by rw [z]; rfl), j62]
    · rw [if_neg (nn_ne0 (by omega) (by omega)), if_pos (show nn (o / 16) = (1 : Int32) by rw [z1]; rfl), x_rA mL_96 he (by omega), if_neg z2, j62]
/-- what is kept is shown to each -/
theorem sim_sbD {C E : Nat} (hi : i < 8) (hs : s < 12) (hcnt : cnt ≤ 133) (hbl : bs.length ≤ 405) (B : By bs) (hEnt : ∀ e', e' < cnt → Ent bs (pz bs p0 e')) (h6 : Mg (r0.2.1 6) (410 * i) bs) :
    ∀ (c e f g : Nat) (h : Hp) (r : RS), e + c = cnt → c < f → c < g → Rel x i 12 96 e0 h r → har h (x + 34) s = some b → (∀ e', e' < cnt → Dc x s bs h r e' (pz bs p0 e')) → (∀ e', e' < cnt → eA i bs r e' (pz bs p0 e')) → Kp x i h0 h r0 r → r.1 79 = 0 → (hcs h).1 + WN r ≤ (hcs h0).1 + WN r0 + C + 16 * e → (hcs h).2 + 6 * WN r ≤ (hcs h0).2 + 6 * WN r0 + E + 96 * e →
    Sim (C_X11_subscribe_L219 x (C_X11_subscribe_J273 x) f (some b) (nn cnt) (nn e)) h (R_subscribe_L398 (R_subscribe_J418) g (nn s) (nn cnt) (nn e)) r (fun w h' _ r' => w = 0 ∧ Rel x i 12 96 e0 h' r' ∧ Kp x i h0 h' r0 r' ∧ r'.1 79 = 0 ∧ (hcs h').1 + WN r' ≤ (hcs h0).1 + WN r0 + C + 16 * cnt ∧ (hcs h').2 + 6 * WN r' ≤ (hcs h0).2 + 6 * WN r0 + E + 96 * cnt) := by
  intro c
  induction c with
  | zero =>
    intro e f g h r he hf hg R hb hD hA K h79 c1 c2
    obtain ⟨f', rfl⟩ : ∃ z, f = z + 1 := ⟨f - 1, by omega⟩
    obtain ⟨g', rfl⟩ : ∃ z, g = z + 1 := ⟨g - 1, by omega⟩
    have : e = cnt := by omega
    subst this
    show Sim (C_X11_subscribe_B219 x _ _ (some b) (nn e) (nn e)) h (R_subscribe_B398 _ _ (nn s) (nn e) (nn e)) r _
    unfold C_X11_subscribe_B219 R_subscribe_B398 C_X11_subscribe_J273 R_subscribe_J418
    rw [sl_pos (Int32.le_refl _), sr_pos (Int32.le_refl _)]
    exact Sim.ret ⟨rfl, R, K, h79, c1, c2⟩
  | succ c ih =>
    intro e f g h r he hf hg R hb hD hA K h79 c1 c2
    obtain ⟨f', rfl⟩ : ∃ z, f = z + 1 := ⟨f - 1, by omega⟩
    obtain ⟨g', rfl⟩ : ∃ z, g = z + 1 := ⟨g - 1, by omega⟩
    have T := R.st
    have hx := T.1
    have Sb := R.ses hs hb
    have hb4 := Sb.1.2.2.1
    have hb2 := Sb.1.2.1
    have sb1 := Sb.1.2.2.2.2.1
    obtain ⟨n, q1, q2, q3, q4, q5⟩ := Sb.2.2.2.2.1
    have t6 := T.2.2.2.2.2.1
    have e8 : hfr h (100 * 13 + 8) x = some (x + 50) := T.2.1.2.2.2.2.2.2.2.2.2
    have e4 : hfi h (100 * 10 + 4) b = nn n := q2
    have h6' : Mg (r.2.1 6) (410 * i) bs := by rw [show r.2.1 6 = r0.2.1 6 from K.1.2.2.1]; exact h6
    show Sim (C_X11_subscribe_B219 x _ _ (some b) (nn cnt) (nn e)) h (R_subscribe_B398 _ _ (nn s) (nn cnt) (nn e)) r _
    unfold C_X11_subscribe_B219 R_subscribe_B398
    rw [sl_neg (by rw [nn_le (by omega) (by omega)]; omega), sr_neg (by rw [nn_le (by omega) (by omega)]; omega), sl_gR T.2.1.1, e8, sl_Ai t6.2.2.2.2.2.2.1 (by rw [t6.2.2.2.2.2.2.2.1]; omega) (by omega)]
    rcases show_or R hs hb hi (show e < 410 by omega) hbl B (hEnt e (by omega)) h6' (hA e (by omega)) (hD e (by omega)) with ⟨y1, y2⟩ | ⟨k, y1, y2, y3, y4, y5⟩
    · rw [Sim_r (e_bd y2)]
      have go := ih (e + 1) f' g' h r (by omega) (by omega) (by omega) R hb hD hA K h79 (by omega) (by omega)
      rcases y1 with z | z
      · rw [z, sl_pos (by decide), l_1, nn_add]
        exact go
      · rw [z, sl_neg (by decide), sl_gR T.2.1.1, e8, sl_Ai t6.2.2.2.2.2.2.1 (by rw [t6.2.2.2.2.2.2.2.1]; omega) (by omega), z, sl_gI (c := 10) Sb.1.1, e4, sl_pos (by rw [nn_le (by omega) (by omega)]; omega), l_1, nn_add]
        exact go
    · obtain ⟨b', n', u, st, p1, p2, p3, p4, p5, p6⟩ := y3
      rw [hb] at p1
      cases p1
      have en : n' = n := nn_inj (by omega) (by omega) (p2.symm.trans q3)
      subst en
      have st0 : st = 0 := Option.some.inj (p6.2.2.1.symm.trans y4)
      subst st0
      rw [sr_bd y5, y2, sl_neg (nn_nlt0 (by omega)), sl_gR T.2.1.1, e8, sl_Ai t6.2.2.2.2.2.2.1 (by rw [t6.2.2.2.2.2.2.2.1]; omega) (by omega), y2, sl_gI (c := 10) Sb.1.1, e4, sl_neg (by rw [nn_le (by omega) (by omega)]; omega), sl_gR (c := 10) Sb.1.1, show hfr h (100 * 10 + 3) b = some (b + 1) from sb1.1, sl_gR T.2.1.1, e8, sl_Ai t6.2.2.2.2.2.2.1 (by rw [t6.2.2.2.2.2.2.2.1]; omega) (by omega), y2, sl_Ar (t := 6) sb1.2.1 (by rw [sb1.2.2]; omega) (by omega), p5, sl_Cv T.2.1.1]
      refine Sim.seq (sim_giveR R hs hb q3 q1 p4 p5 p6) (fun _ h1 _ r1 z => ?_)
      obtain ⟨R1, G1, z3, z4⟩ := z
      have hb1 : har h1 (x + 34) s = some b := by rw [G1.2.2]; exact hb
      have eb1 : har h1 (b + 1) = har h (b + 1) := (G1.1.2.2 (b + 1) (by omega) (gA.nb1 R hs hb rfl)).2.1
      have hP : ∀ zs k, Pl x h r zs s k → Pl x h1 r1 zs s k := fun zs k z => z.to T hb (by omega) G1.1.1 G1.2.2 (by rw [G1.2.1.gA (by decide)]) eb1
      have K1 : Kp x i h h1 r r1 := Kp.of G1.1 G1.2.1 T hi (by decide) (gA.ne R hi) (by decide)
      rw [l_1, nn_add]
      refine ih (e + 1) f' g' h1 r1 (by omega) (by omega) (by omega) R1 hb1 (fun e' he' => (hD e' he').to (by rw [G1.2.1.gA (by decide)]) (by rw [G1.2.1.gA (by decide)]) (by rw [(G1.1.2.2 (x + 50) (by omega) (gA.n50 R)).1]) hP) (fun e' he' => ?_) (K.tr K1) (by rw [G1.2.1.gI (by decide)]; exact h79) (by omega) (by omega)
      obtain ⟨a1, a2, a3⟩ := hA e' he'
      exact ⟨by rw [G1.2.1.gA (by decide)]; exact a1, by rw [G1.2.1.gA (by decide)]; exact a2, by rw [G1.2.1.gA (by decide)]; exact a3⟩
/-- reasons go into the model's body -/
theorem body_loop {L : Nat → Int32 → RS → Option (Unit × RS)} {E : RS → Option (Unit × RS)} {pr rs : List Nat} (hL : ∀ f v, L (f + 1) v = if nn cnt ≤ v then E else (rA 92 v fun v4 => bd (R_byteOf v4) fun _ => L f (v + 1))) (hB : BD r pr) (r92 : ∀ e, e < cnt → r.2.1 92 e = nn (rs.getD e 0)) (hl : rs.length = cnt) (hc : cnt ≤ 405) (hpr : pr.length ≤ 10) (hby : By rs) : ∃ r', L fu 0 r = E r' ∧ BD r' (pr ++ rs) ∧ Ro [90, 91] r r' := by
  have key : ∀ (c q f : Nat) (r1 : RS), q + c = cnt → c < f → BD r1 (pr ++ rs.take q) → Ro [90, 91] r r1 → ∃ r', L f (nn q) r1 = E r' ∧ BD r' (pr ++ rs) ∧ Ro [90, 91] r r' := by
    intro c
    induction c with
    | zero =>
      intro q f r1 hq hf B1 w1
      obtain ⟨f', rfl⟩ : ∃ z, f = z + 1 := ⟨f - 1, by omega⟩
      refine ⟨r1, ?_, ?_, w1⟩
      · rw [hL, if_pos (by rw [nn_le (by omega) (by omega)]; omega)]
      · rw [show q = rs.length by omega, List.take_length] at B1
        exact B1
    | succ c ih =>
      intro q f r1 hq hf B1 w1
      obtain ⟨f', rfl⟩ : ∃ z, f = z + 1 := ⟨f - 1, by omega⟩
      have hql : q < rs.length := by omega
      have b256 := hby.at q
      have tl : (rs.take q).length = q := by rw [List.length_take]; omega
      obtain ⟨_, r2, e2, B2, w2⟩ := qm_byte (v := nn (rs.getD q 0)) B1 (by rw [List.length_append, tl]; omega)
      have elo : lo8 (nn (rs.getD q 0)) = rs.getD q 0 := by rw [lo8_nn (by omega)]; omega
      rw [elo, List.append_assoc, ← take_s hql] at B2
      obtain ⟨r3, e3, B3, w3⟩ := ih (q + 1) f' r2 (by omega) (by omega) B2 (w1.tr w2)
      refine ⟨r3, ?_, B3, w3⟩
      rw [hL, if_neg (by rw [nn_le (by omega) (by omega)]; omega), x_rA mL_92 (by omega) (by omega), w1.gA (by decide), r92 q (by omega), e_bd e2, l_1, nn_add]
      exact e3
  exact key cnt 0 fu r (by omega) (by unfold fu; omega) (by rw [List.take_zero, List.append_nil]; exact hB) Ro.rf
/-- the beginning of such a body -/
theorem body_3 {K : RS → Option (Unit × RS)} (hn : num < 65536) : ∃ r', (wI 91 ((0 : Int32)) <| bd (R_byteOf (nn num >>> ((8 : Int32) &&& 31))) fun _ => bd (R_byteOf (nn num)) fun _ => bd (R_byteOf (0 : Int32)) fun _ => K) r = K r' ∧ BD r' [num / 256, num % 256, 0] ∧ Ro [90, 91] r r' := by
  obtain ⟨_, r1, e1, B1, w1⟩ := qm_byte (r := sI r 91 0) (bs := []) (v := nn (num / 256)) BD.zero (by decide)
  obtain ⟨_, r2, e2, B2, w2⟩ := qm_byte (v := nn num) B1 (by simp)
  obtain ⟨_, r3, e3, B3, w3⟩ := qm_byte (v := (0 : Int32)) B2 (by simp)
  have en1 : lo8 (nn (num / 256)) = num / 256 := by rw [lo8_nn (by omega)]; omega
  have en2 : lo8 (nn num) = num % 256 := by rw [lo8_nn (by omega)]
  have en3 : lo8 (0 : Int32) = 0 := by decide
  rw [en1, en2, en3] at B3
  refine ⟨r3, ?_, B3, (((Ro.rf.i (k := 91) (S := [90, 91]) (by decide)).tr w1).tr w2).tr w3⟩
  show (bd (R_byteOf (nn num >>> ((8 : Int32) &&& 31))) fun _ => bd (R_byteOf (nn num)) fun _ => bd (R_byteOf (0 : Int32)) fun _ => K) (sI r 91 0) = _
  rw [shr8 (by omega), e_bd e1, e_bd e2, e_bd e3]
/-- a body is sent -/
theorem sendB {K : RS → Option (Unit × RS)} {L : List Nat} {g : Nat} (hB : BD r L) (hl : L.length ≤ 1000) (hg : g < 256) : ∃ r', (bd (R_sendBody (nn i) (nn g)) fun _ => K) r = (bd (R_send (nn i)) fun _ => K) r' ∧ PK r' (g :: (vb 4 L.length ++ L)) ∧ Ro [88, 89] r r' := by
  obtain ⟨_, r1, e1, P1, w1⟩ := qm_wrap (v := nn g) hB hl
  have eg : lo8 (nn g) = g := by rw [lo8_nn (by omega)]; omega
  rw [eg] at P1
  refine ⟨r1, ?_, P1, w1⟩
  unfold R_sendBody
  rw [bd_assoc, e_bd e1, bd_assoc]
  rfl
/-- a fault that was there at the beginning -/
theorem sim_flt {c c' q L : Nat} (R0 : Rel x i 12 96 e0 h0 r0) (s0 : Sw x c c' h0 h r0 r) (hi : i < 8) (D : Rd x i bs q L f h r) (hf : f ≠ 0) (hc : c ≤ 60 * n) (hc' : c' ≤ 700 * n) {Pc : Hp → Option (Int32 × Hp)} {Pm' : RS → Option (Unit × RS)} (hP : ∃ h', Pc h = some (nn f, h') ∧ Sw x 0 0 h h' r r) (hm : Pm' r = some ((), r)) : Sim Pc h Pm' r (fun w h' _ r' => HP x i e0 n h0 r0 w h' r') := by
  have hf2 := D.2.2.1.2.2.2.2.1
  obtain ⟨h2, e2, s3⟩ := hP
  rw [Sim_l (P' := rt (nn f)) e2, Sim_r (M' := rt ()) hm]
  have s4 := s0.tr s3
  exact Sim.ret ⟨s4.rel R0, s4.kp R0.st hi, ⟨f, D.2.1.2.2.1, rfl, hf2⟩, by have := s4.2.2.1; have := s4.wn; omega, by have := s4.2.2.2; have := s4.wn; omega⟩
end SB3
