/-! ===== CONNECT: the session is taken up: the will, the welcome, what was under way ===== -/
section ENT
variable {x i s b a g au fl n0 : Nat} {e0 : Int32} {h h1 : Hp} {r r1 r' : RS} {bs ys : List Nat} {l3 l4 l14 l15 l16 l17 : Int32}
theorem sfr_eta {f a : Nat} {v : Option Nat} (e : hfr h f a = v) : sfr h f a v = h := by
  unfold sfr
  have e2 : u2 h.2.2.2.2.2.1 f a v = h.2.2.2.2.2.1 := by
    funext g y
    show (if g = f ∧ y = a then v else _) = _
    by_cases z : g = f ∧ y = a
    · rw [if_pos z, z.1, z.2, ← e]
      rfl
    · rw [if_neg z]
  rw [e2]
theorem sL_eta {k n : Nat} {v : Int64} (e : r.2.2 k n = v) : sL r k n v = r := by
  refine Prod.ext rfl (Prod.ext rfl ?_)
  funext j
  funext q
  rw [sL_3]
  by_cases z : j = k ∧ q = n
  · rw [if_pos z, z.1, z.2, e]
  · rw [if_neg z]
theorem WN.up1 {d : Nat} (hs : s < 12) (ho : ∀ t, t < 12 → t ≠ s → wl r' t ≤ wl r t) (h1 : wl r' s ≤ wl r s + d) : WN r' ≤ WN r + d := by
  have q : ∀ t, t < 12 → wl r' t ≤ wl r t + if t = s then d else 0 := fun t ht => by
    by_cases z : t = s
    · rw [if_pos z, z]; exact h1
    · rw [if_neg z]; exact ho t ht z
  have q0 := q 0 (by omega)
  have q1 := q 1 (by omega)
  have q2 := q 2 (by omega)
  have q3 := q 3 (by omega)
  have q4 := q 4 (by omega)
  have q5 := q 5 (by omega)
  have q6 := q 6 (by omega)
  have q7 := q 7 (by omega)
  have q8 := q 8 (by omega)
  have q9 := q 9 (by omega)
  have q10 := q 10 (by omega)
  have q11 := q 11 (by omega)
  unfold WN
  rcases (by omega : s = 0 ∨ s = 1 ∨ s = 2 ∨ s = 3 ∨ s = 4 ∨ s = 5 ∨ s = 6 ∨ s = 7 ∨ s = 8 ∨ s = 9 ∨ s = 10 ∨ s = 11) with z | z | z | z | z | z | z | z | z | z | z | z <;> subst z <;> simp at * <;> omega
/-- a session that has no will: the will's delay says nothing -/
theorem Rel.w21 {ec es ew : Nat} {dw : Int64} (R : Rel x ec es ew e0 h r) (hs : s < 12) (hb : har h (x + 34) s = some b) (h15 : r.2.1 15 s ≠ -1) (n11 : hfr h 1011 b = none) (n20 : r.2.1 20 s = -1) : Rel x ec es ew e0 h (sL r 21 s dw) := by
  have T := R.st
  obtain ⟨c11, Sb, Z0⟩ := (R.2.2.2.2.1 s hs).at hb
  have hbl := Sb.1.2.2.1
  have p : Fm x [] (fun _ => False) h h := Fm.rf
  have w : Ro [21] r (sL r 21 s dw) := Ro.rf.l (by decide)
  have wx : Ho s 8 r (sL r 21 s dw) := Ho.rf.l (Or.inr (Or.inl ⟨by omega, by omega, rfl⟩))
  have eac : ∀ k, act (sL r 21 s dw) s k ↔ act r s k := fun k => by
    unfold act
    rw [w.gA (by decide), w.gA (by decide)]
  refine R.same (i := 8) (b := b) Hx.rf wx hs hb rfl (R.2.1.fm T p w (by decide) (by decide)) (by rw [w.gI (by decide)]; exact R.2.2.1) (w.gI (by decide)) (fun _ _ _ z => z) (fun _ _ _ z => z) (fun z => by omega) (by rw [w.gA (by decide)]) (by rw [w.gA (by decide)]) (fun i' h1 h2 h3 => by rw [w.gA (by decide)]) (fun d hd => Or.inr ⟨rfl, fun f hf => rfl⟩) (fun u hu => Or.inr (fun f hf => rfl)) (fun z => by omega) ⟨Sb.1, Sb.2.1.fm (by omega) p.1 w (by decide), Sb.2.2.1.fm (by omega) p w (by decide) (by decide), Or.inl ⟨n11, by rw [w.gA (by decide)]; exact n20⟩, Sb.2.2.2.2.1.fm hbl p w (by decide) (fun z => z) (by decide), Sb.2.2.2.2.2.1.fm hbl p w (by decide) (fun z => z) (by decide), Sb.2.2.2.2.2.2.1.fm hbl p w (by decide) (fun z => z) (by decide), Sb.2.2.2.2.2.2.2.1.fm hbl p w (by decide) (fun z => z) (by decide), Sb.2.2.2.2.2.2.2.2.fm w (by decide)⟩ (fun _ z => absurd (by rw [w.gA (by decide)] at z; exact z) h15) (fun k d g1 g2 g3 => ⟨⟨k, g1, (eac k).mp g2, g3⟩, rfl⟩) (fun k k' d g1 g2 g3 g4 g5 g6 => (R.2.2.2.2.2.1 s s b b k k' d hs hs hb hb g1 g2 ((eac k).mp g3) ((eac k').mp g4) g5 g6).2) (fun k u g1 g2 => Or.inr ⟨k, by rw [w.gA (by decide)] at g1; exact g1, g2⟩) (fun k k' u g1 g2 g3 g4 => ?_) rfl (by rw [w.gA (by decide)]) (fun k hk => Or.inl ⟨k, ?_, by rw [w.gA (by decide)]⟩) (fun k hk => Or.inr ⟨k, ?_, by rw [w.gA (by decide)]⟩)
  · rw [w.gA (by decide)] at g1 g2
    exact (R.2.2.2.2.2.2.1 s s b b k k' u hs hs hb hb g1 g2 g3 g4).2
  · rw [w.gA (by decide)] at hk; exact hk
  · rw [w.gA (by decide)] at hk; exact hk
def tlC (x i b a g au : Nat) : Hp → Option (Unit × Hp) := hCv 13 (some x) (fun a' => C_X11_welcome a' (some (cA x i)) (nn g) (nn au) (some a)) fun _ => hCv 13 (some x) (fun a' => C_X11_sendAgain a' (some b) (some (cA x i))) fun _ => hCv 13 (some x) (fun a' => C_X11_goOn a' (some b)) fun _ => rt ()
theorem ent_tail (R : Rel x i 12 96 e0 h r) (hi : i < 8) (h75 : r.1 75 = nn i) (hg : g ≤ 1) (ha : au ≤ 1) (hs : s < 12) (hb : har h (x + 34) s = some b) (c1 : hfr h 1002 b = some (cA x i)) (c2 : r.2.1 15 s = nn i) (c3 : r.2.1 7 i = nn s) (W : Rw x h a ys) (hl : ys.length ≤ 20) (hid : IdOf r s ys) :
    Sim (tlC x i b a g au) h (R_connect_J1165 (nn s) (nn au) (nn g)) r (fun _ h' _ r' => Rel x i 12 96 e0 h' r' ∧ GH x h h' r r' ∧ hcs h' = hcs h ∧ WN r' ≤ WN r) := by
  have ho := R.onl hs hi c3
  have hbl := (R.ses hs hb).1.2.2.1
  unfold tlC
  rw [sl_Cv R.st.2.1.1]
  refine sim_wel R hi ho h75 hg ha hs W hl hid (fun h1 r1 R1 O1 w1 => ?_)
  have G1 := O1.gf w1
  have hb1 : har h1 (x + 34) s = some b := by rw [G1.2.2]; exact hb
  rw [sl_Cv R1.st.2.1.1]
  refine Sim.seq (sim_again R1 hs hb1 hi (by rw [G1.1.gr (by decide) (by omega)]; exact c1) (by rw [w1.gA (by decide)]; exact c2) (by rw [w1.gA (by decide)]; exact c3)) (fun _ h2 _ r2 z => ?_)
  obtain ⟨R2, G2, k2⟩ := z
  have G12 := G1.tr G2
  have hb2 : har h2 (x + 34) s = some b := by rw [G12.2.2]; exact hb
  rw [sl_Cv R2.st.2.1.1]
  refine Sim.seq (sim_pump R2 hs hb2) (fun _ h3 _ r3 z => ?_)
  obtain ⟨R3, G3, k3, n3⟩ := z
  have nw : WN r2 ≤ WN r := G12.2.1.wn (by decide) (by decide) (by decide) (by decide)
  exact Sim.ret ⟨R3, G12.gh.tr G3, k3.trans (k2.trans (by rw [O1.1.2.2.2.2.2.2.2])), Nat.le_trans n3 nw⟩
/-- the model lays the will's topic ready -/
theorem top_loop {o : Nat} {TP : List Nat} {ke : Int32 → Int32 → Int32 → Int32 → Int32 → Int32 → Int32 → Int32 → RS → Option (Unit × RS)} {a2 a4 a16 a17 a18 a19 a20 : Int32} (hT : TP.length ≤ 64) (B : By TP) (ho : o + TP.length ≤ 3280) (h6 : Mg (r.2.1 6) o TP) : ∃ r', R_connect_L1100 ke fu a2 a4 (nn o) (nn TP.length) a16 a17 a18 a19 a20 0 r = ke a2 a4 (nn TP.length) a16 a17 a18 a19 a20 r' ∧ Ro [97] r r' ∧ Mg (r'.2.1 97) 0 TP := by
  have key : ∀ (c k f : Nat) (rr : RS), k + c = TP.length → c < f → Ro [97] r rr → (∀ q, q < k → rr.2.1 97 q = sb (TP.getD q 0)) → ∃ r', R_connect_L1100 ke f a2 a4 (nn o) (nn TP.length) a16 a17 a18 a19 a20 (nn k) rr = ke a2 a4 (nn TP.length) a16 a17 a18 a19 a20 r' ∧ Ro [97] r r' ∧ Mg (r'.2.1 97) 0 TP := by
    intro c
    induction c with
    | zero =>
      intro k f rr hk hf w g
      obtain ⟨f', rfl⟩ : ∃ z, f = z + 1 := ⟨f - 1, by omega⟩
      have : k = TP.length := by omega
      subst this
      refine ⟨rr, ?_, w, fun q hq => by rw [Nat.zero_add]; exact g q hq⟩
      show R_connect_B1100 _ ke a2 a4 (nn o) (nn TP.length) a16 a17 a18 a19 a20 (nn TP.length) rr = _
      unfold R_connect_B1100
      rw [if_pos (Int32.le_refl _)]
    | succ c ih =>
      intro k f rr hk hf w g
      obtain ⟨f', rfl⟩ : ∃ z, f = z + 1 := ⟨f - 1, by omega⟩
      obtain ⟨r', e1, e2, e3⟩ := ih (k + 1) f' (sA rr 97 k (sb (TP.getD k 0))) (by omega) (by omega) (w.a (by decide)) (fun q hq => by
        rw [sA_2]
        by_cases y : q = k
        · rw [if_pos ⟨rfl, y⟩, y]
        · rw [if_neg (fun z => y z.2)]
          exact g q (by omega))
      refine ⟨r', ?_, e2, e3⟩
      rw [← e1]
      show R_connect_B1100 _ ke a2 a4 (nn o) (nn TP.length) a16 a17 a18 a19 a20 (nn k) rr = _
      unfold R_connect_B1100
      have e6 : rr.2.1 6 (o + k) = sb (TP.getD k 0) := by rw [w.gA (by decide)]; exact h6 k (by omega)
      rw [if_neg (by rw [nn_le (by omega) (by omega)]; omega), nn_add, x_rA mL_6 (by omega) (by omega), e6, x_wA mL_97 (by omega) (by omega), nar_sb (B.at k), show nn k + 1 = nn (k + 1) from nn_add]
  exact key TP.length 0 fu r (by omega) (by unfold fu; omega) Ro.rf (fun q hq => by omega)
def enS : List Nat := 20 :: 21 :: 97 :: 98 :: (slS ++ hS)
/-- behind the change of hands -/
def mFn (fl : Nat) (l3 l4 l14 l15 l16 l17 : Int32) (s au g : Nat) : RS → Option (Unit × RS) := if l3 = 0 then (R_connect_J1165 (nn s) (nn au) (nn g)) else (rA 82 (24 : Int32) fun v31 => if v31 = 0 then (R_connect_J1096 (nn fl) l4 l14 l15 l16 l17 (nn s) (nn au) (nn g) (nn s) (0 : Int64)) else (rL 83 (24 : Int32) fun v32 => R_connect_J1096 (nn fl) l4 l14 l15 l16 l17 (nn s) (nn au) (nn g) (nn s) v32))
theorem ent_fin {mw : Option Nat} (R1 : Rel x i 12 96 e0 h1 r1) (hi : i < 8) (h75 : r1.1 75 = nn i) (hg : g ≤ 1) (ha : au ≤ 1) (hs : s < 12) (hb : har h1 (x + 34) s = some b) (c1 : hfr h1 1002 b = some (cA x i)) (c2 : r1.2.1 15 s = nn i) (c3 : r1.2.1 7 i = nn s) (n11 : hfr h1 1011 b = none) (n20 : r1.2.1 20 s = -1) (n12 : hfl h1 1012 b = hfl h1 407 (x + 48)) (W : Rw x h1 a ys) (hl : ys.length ≤ 20) (hid : IdOf r1 s ys) (GW : GrW x i bs n0 h1 r1 fl l3 l4 l14 l15 l16 l17) (hmw : hfr h1 406 (x + 48) = mw) (hN : ∀ m, mw = some m → NR x h1 r1 m) (hfb : fl < 256) (B : By bs) (hbl : bs.length ≤ 405) (h6 : Mg (r1.2.1 6) (410 * i) bs) :
    Sim (tlC x i b a g au) (sfr h1 1011 b mw) (mFn fl l3 l4 l14 l15 l16 l17 s au g) r1 (fun _ h' _ r' => Rel x i 12 96 e0 h' r' ∧ Fm x (1011 :: hF) (gA x h1) h1 h' ∧ Ro enS r1 r' ∧ hcs h' = hcs h1 ∧ WN r' ≤ WN r1 + 96) := by
  have hbb := (R1.ses hs hb).1.2.2.1
  have hbx := (R1.ses hs hb).1.2.1
  have T := R1.st
  have hx := T.1
  have h15 : r1.2.1 15 s ≠ -1 := by rw [c2]; exact nn_neg (by omega)
  rcases GW with ⟨g1, g2⟩ | ⟨g1, M, U, m, ot, nt, op, np, q, P, d1, d2, d3, d4, d5, d6, d7, d8, d9, d10, d11, d12, _, d13, d14, d15⟩
  · rw [g2] at hmw
    subst hmw
    rw [sfr_eta n11]
    unfold mFn
    rw [if_pos g1]
    refine (ent_tail R1 hi h75 hg ha hs hb c1 c2 c3 W hl hid).mono (fun _ h' _ r' z => ?_)
    obtain ⟨z1, z2, z3, z4⟩ := z
    exact ⟨z1, z2.1.sub (by decide) (fun _ z => z), z2.2.1.sub (by decide), z3, by omega⟩
  · rw [d12] at hmw
    subst hmw
    have hNm := hN m rfl
    obtain ⟨dw, hdw⟩ : ∃ z, z = if M.testBit 24 = true then r1.2.2 83 24 else 0 := ⟨_, rfl⟩
    rw [← hdw] at d14
    have vd : ∃ e, e ≤ 4294967295 ∧ dw = n6 e := by
      rw [hdw]
      by_cases z : M.testBit 24 = true
      · rw [if_pos z]; exact d15 z
      · rw [if_neg z]; exact ⟨0, by omega, rfl⟩
    have b24 := P.1.2.2 24 (by omega)
    have m1 : mFn fl l3 l4 l14 l15 l16 l17 s au g r1 = R_connect_J1096 (nn fl) l4 l14 l15 l16 l17 (nn s) (nn au) (nn g) (nn s) dw r1 := by
      unfold mFn
      rw [if_neg (by rw [g1]; decide), show (24 : Int32) = nn 24 from rfl, x_rA mL_82 (by omega) (by omega), b24, hdw]
      by_cases z : M.testBit 24 = true
      · rw [if_pos z, if_pos z, if_neg (by decide), x_rL mL_83 (by omega) (by omega)]
      · rw [if_neg z, if_neg z, if_pos rfl]
    have R2 : Rel x i 12 96 e0 h1 (sL r1 21 s dw) := R1.w21 hs hb h15 n11 n20
    obtain ⟨r2, er2⟩ : ∃ z, z = sL r1 21 s dw := ⟨_, rfl⟩
    rw [← er2] at R2
    have w2 : Ro [21] r1 r2 := by rw [er2]; exact Ro.rf.l (by decide)
    have tl : (sl bs ot nt).length = nt := sl_len d6
    have tb : By (sl bs ot nt) := sl_by B
    have h6' : Mg (r2.2.1 6) (410 * i + ot) (sl bs ot nt) := by rw [w2.gA (by decide)]; exact h6.slc d6
    obtain ⟨r3, e3, w3, m97⟩ := top_loop (r := r2) (o := 410 * i + ot) (TP := sl bs ot nt) (ke := fun l2 l4 l15 l16 l17 l18 l19 l20 => R_connect_J1130 l2 l4 l15 l16 l17 l18 l19 l20) (a2 := nn fl) (a4 := l4) (a16 := l16) (a17 := l17) (a18 := nn s) (a19 := nn au) (a20 := nn g) (by omega) tb (by omega) h6'
    rw [tl] at e3
    obtain ⟨r4, er4⟩ : ∃ z, z = sI r3 98 (nn nt) := ⟨_, rfl⟩
    have w4 : Ro [97, 98] r2 r4 := by rw [er4]; exact (w3.sub (by decide)).i (by decide)
    have w14 : Ro [21, 97, 98] r1 r4 := (w2.sub (by decide)).tr (w4.sub (by decide))
    have R4 : Rel x i 12 96 e0 h1 r4 := by
      obtain ⟨f, bs', Wr⟩ := R2.wr
      exact R2.scr Fm.rf (w4.sub (by decide)) ⟨f, bs', Wr⟩
    obtain ⟨P4, _⟩ := P.fm T (Fm.rf (F := []) (A := fun _ => False)) w14 (by decide) (fun _ _ _ z => z) (by decide)
    have e98 : r4.1 98 = nn (sl bs ot nt).length := by rw [er4, sI_1, if_pos rfl, tl]
    have m97' : Mg (r4.2.1 97) 0 (sl bs ot nt) := by rw [er4, sI_2]; exact m97
    obtain ⟨rn, hrn⟩ : ∃ z, z = fl / 32 % 2 := ⟨_, rfl⟩
    obtain ⟨j, r5, e5, hj, hu, F5, C5, t5, o5⟩ := qm_message (p := op) (n := np) (q := q) (rt := rn) R4 P4 hi B hbl (by rw [w14.gA (by decide)]; exact h6) (by rw [w14.gI (by decide)]; exact h75) e98 m97' tb (by rw [tl]; exact ⟨d8, d9⟩) d7 d11 (by omega) d10
    have m2 : R_connect_J1096 (nn fl) l4 l14 l15 l16 l17 (nn s) (nn au) (nn g) (nn s) dw r1 = R_connect_J1165 (nn s) (nn au) (nn g) (sA r5 20 s (nn j)) := by
      unfold R_connect_J1096
      rw [x_wL mL_21 hs (by omega), ← er2, d2, d3, e3]
      have j1 : ∀ s6 : Int32, s6 = nn rn → R_connect_J1161 (nn s) (nn au) (nn g) (nn s) l16 l17 l4 s6 r4 = R_connect_J1165 (nn s) (nn au) (nn g) (sA r5 20 s (nn j)) := fun s6 hs6 => by
        unfold R_connect_J1161
        rw [d1, d4, d5, hs6, e_bd e5, x_wA mL_20 hs (by omega)]
      unfold R_connect_J1130
      rw [x_wI, ← er4]
      by_cases z : fl / 32 % 2 = 0
      · rw [if_pos ((fl_32 fl hfb).mpr z)]
        exact j1 _ (by rw [hrn, z]; rfl)
      · rw [if_neg (fun y => z ((fl_32 fl hfb).mp y))]
        exact j1 _ (by rw [hrn, show fl / 32 % 2 = 1 by omega]; rfl)
    have R5 : Rel x i 12 96 e0 h1 r5 := R4.slot F5.1 (fun j' _ hne => F5.sj hne) hu
    have w5 := F5.1
    have eL : lifeK M r4 = lifeK M r1 := by
      unfold lifeK
      rw [w14.gL (by decide)]
    have hTot := Tot.eq P B hbl
    have hV : Vok (sl bs ot nt, sl bs op np, rwK x bs M h1 1, rwK x bs M h1 3 ++ (rwK x bs M h1 8 ++ rwK x bs M h1 9), U, q, rn, lifeK M r4) := by
      refine ⟨⟨by show 1 ≤ (sl bs ot nt).length; omega, by show (sl bs ot nt).length ≤ 64; omega⟩, ?_, d11, by show rn ≤ 1; omega, ?_, tb, sl_by B, rwK.by B, (rwK.by B).app ((rwK.by B).app (rwK.by B)), P.2.2.1.2.2.2.1⟩
      · show (sl bs op np).length + (rwK x bs M h1 1).length + (rwK x bs M h1 3 ++ (rwK x bs M h1 8 ++ rwK x bs M h1 9)).length + U.length ≤ 400
        rw [sl_len d7, List.length_append, List.length_append]
        omega
      · show lifeK M r4 = -1 ∨ ∃ k, k ≤ 4294967295 ∧ lifeK M r4 = n6 k
        rw [eL]
        unfold lifeK
        by_cases z : M.testBit 2 = true
        · obtain ⟨_, _, _, _, _, _, _, _, a7, _⟩ := P.2.1 2 (by decide) (by decide) z
          obtain ⟨v, v1, v2, v3, _⟩ := a7 (by decide)
          rw [if_pos z]
          exact Or.inr ⟨v, v1, v3⟩
        · rw [if_neg z]
          exact Or.inl rfl
    have hM : Mp x h1 r5 m j := by
      refine ⟨_, ?_, C5, hV⟩
      rw [eL, hrn]
      exact d13
    have w15 : Ro (21 :: 97 :: 98 :: slS) r1 r5 := (w14.sub (by decide)).tr (w5.sub (by decide))
    have hN5 : NR x h1 r5 m := by
      refine ⟨hNm.1, fun s' b' k d g1 g2 g3 g4 g5 => hNm.2.1 s' b' k d g1 g2 g3 ?_ g5, hNm.2.2⟩
      unfold act at g4 ⊢
      rw [w15.gA (by decide), w15.gA (by decide)] at g4
      exact g4
    have hU5 : Unu r5 j := by
      unfold Unu
      rw [w5.gI (k := 65) (by decide), w5.gA (k := 64) (by decide), w5.gA (k := 11) (by decide), w5.gA (k := 20) (by decide), w5.gA (k := 31) (by decide), w5.gA (k := 33) (by decide), w5.gA (k := 38) (by decide), w5.gA (k := 39) (by decide)]
      exact hu
    have R6 := R5.wput (dw := dw) hs hb (by rw [w15.gA (by decide)]; exact h15) hM hN5 hU5 (by rw [n12]; exact d14) vd
    have e21 : r5.2.2 21 s = dw := by
      rw [w5.gL (by decide), w4.gL (by decide), er2, sL_3, if_pos ⟨rfl, rfl⟩]
    rw [sL_eta e21] at R6
    have p6 : Fm x [1011] (fun _ => False) h1 (sfr h1 1011 b (some m)) := Fm.fr Fm.rf (Or.inl (by decide)) (Or.inl (by decide))
    have w16 : Ro (20 :: 21 :: 97 :: 98 :: slS) r1 (sA r5 20 s (nn j)) := (w15.sub (by decide)).a (by decide)
    have id6 : IdOf (sA r5 20 s (nn j)) s ys := by
      unfold IdOf
      rw [w16.gA (k := 13) (by decide), w16.gA (k := 14) (by decide)]
      exact hid
    have nw : WN (sA r5 20 s (nn j)) ≤ WN r1 + 96 := by
      refine WN.up1 hs (fun t _ ht => ?_) ?_
      · unfold wl
        have e20 : (sA r5 20 s (nn j)).2.1 20 t = r1.2.1 20 t := by rw [sA_2, if_neg (fun z => ht z.2), w15.gA (by decide)]
        rw [w16.gA (k := 11) (by decide), e20, w16.gA (k := 15) (by decide), w16.gA (k := 38) (by decide)]
        exact Nat.le_refl _
      · unfold wl
        rw [w16.gA (k := 11) (by decide), w16.gA (k := 15) (by decide), w16.gA (k := 38) (by decide), n20, if_neg (show ¬ (0 : Int32) ≤ -1 by decide)]
        have le : (if 0 ≤ (sA r5 20 s (nn j)).2.1 20 s then 96 else 0) ≤ 96 := by split <;> omega
        by_cases z : r1.2.1 11 s = 1
        · rw [if_pos z, if_pos z]
          omega
        · rw [if_neg z, if_neg z]
          omega
    rw [Sim_r (m1.trans m2)]
    refine (ent_tail R6 hi (by rw [w16.gI (by decide)]; exact h75) hg ha hs hb (by rw [p6.gr (by decide) (by omega)]; exact c1) (by rw [w16.gA (by decide)]; exact c2) (by rw [w16.gA (by decide)]; exact c3) (W.stp p6.1) hl id6).mono (fun _ h' _ r' z => ?_)
    obtain ⟨z1, z2, z3, z4⟩ := z
    exact ⟨z1, (p6.sub (by decide) (fun _ z => z.elim)).tr (z2.1.sub (by decide) (fun _ z => z)), (w16.sub (by decide)).tr (z2.2.1.sub (by decide)), z3, by omega⟩
end ENT
