/-! ===== SUBSCRIBE, by both ===== -/
section SUB
variable {x i s b num p0 id cnt e p n f ps M v : Nat} {e0 : Int32} {h h' h0 : Hp} {r r' r0 : RS} {bs ys U : List Nat} {l1 l2 : Option Nat} {l4 l5 : Int32}
theorem sub72_f (T : Stat x h) (F : Fa x f h) : C_X11_subscribe_J72 x l1 l2 l4 l5 h = some (nn f, h) := by
  obtain ⟨k1, k2, _⟩ := T.in3
  have e74 : hfi h (100 * 7 + 4) (x + 37) = nn f := F.1
  have ec : C_X11_checkEntries x h = some (0, h) := by
    unfold C_X11_checkEntries
    show C_X11_checkEntries_L4 x (fun l1 => C_X11_checkEntries_J125 x l1) (4999 + 1) 0 0 h = _
    rw [chkF T F]
    unfold C_X11_checkEntries_J125
    rw [if_pos rfl, e_gR k1, k2, e_Cv T.rd, e_bd (qc_fail_f T F)]
    rfl
  unfold C_X11_subscribe_J72
  rw [e_gR k1, k2, e_gI T.rd, e_Cv k1, e_bd ec, e_gR k1, k2, e_gI T.rd, e74, if_neg (nn_ne0 (by have := F.2.2; omega) F.2.1), e_gR k1, k2, e_gI T.rd, e74]
  rfl
/-- behind the properties -/
def subP (x : Nat) (l1 l2 : Option Nat) (r39 : Int32) : Hp → Option (Int32 × Hp) := hgR 13 4 (some x) fun v43 => hCv 6 v43 (fun a => C_X4_get a (11 : Int32) (0 : Int64)) fun r44 => hgR 13 4 (some x) fun v45 => hCv 6 v45 (fun a => C_X4_has a (11 : Int32)) fun r46 => if r46 = 0 then (C_X11_subscribe_J72 x l1 l2 r39 r44.toInt32) else (if r44.toInt32 = 0 then (hgR 13 3 (some x) fun v47 => hCv 7 v47 (fun a => C_X5_fail a (130 : Int32)) fun r48 => C_X11_subscribe_J72 x l1 l2 r39 r44.toInt32) else (C_X11_subscribe_J72 x l1 l2 r39 r44.toInt32))
theorem subP_f (T : Stat x h) (F : Fa x f h) (hM : hfl h 600 (x + 40) = n6 M) (hM2 : M < 1099511627776) : subP x l1 l2 l4 h = some (nn f, h) := by
  obtain ⟨k1, k2, k3⟩ := T.in3
  obtain ⟨⟨p1, p2, p3⟩, _⟩ := T.pra
  have ep := qc_phas (k := 11) T hM hM2 (by omega)
  obtain ⟨v, ev⟩ : ∃ v, C_X4_get (x + 40) (nn 11) (0 : Int64) h = some (v, h) := by
    unfold C_X4_get
    rw [e_Cv T.pr, e_bd ep]
    by_cases g : M.testBit 11 = true
    · rw [if_pos g, if_neg (by decide), e_gR T.pr, p1, e_Al p2 (nn_inr (by omega) (by omega))]
      exact ⟨_, rfl⟩
    · rw [if_neg g, if_pos rfl]
      exact ⟨_, rfl⟩
  unfold subP
  rw [e_gR k1, k3, e_Cv T.pr, l_11, e_bd ev, e_gR k1, k3, e_Cv T.pr, e_bd ep]
  by_cases g : M.testBit 11 = true
  · rw [if_pos g, if_neg (by decide)]
    by_cases g2 : v.toInt32 = 0
    · rw [if_pos g2, e_gR k1, k2, e_Cv T.rd, e_bd (qc_fail_f T F), sub72_f T F]
    · rw [if_neg g2, sub72_f T F]
  · rw [if_neg g, if_pos rfl, sub72_f T F]
/-- behind the number -/
def subN (x : Nat) (l1 l2 : Option Nat) (r39 : Int32) : Hp → Option (Int32 × Hp) := hgR 13 4 (some x) fun v40 => hgR 13 3 (some x) fun v41 => hCv 6 v40 (fun a => C_X4_read a v41 (274877908992 : Int64)) fun _ => subP x l1 l2 r39
theorem subN_f (T : Stat x h) (F : Fa x f h) : ∃ h', subN x l1 l2 l4 h = some (nn f, h') ∧ Sw x 0 0 h h' r r := by
  obtain ⟨k1, k2, k3⟩ := T.in3
  obtain ⟨h1, e1, F1, c1, Fa1, m1, q1⟩ := qc_props_f (v := (274877908992 : Int64)) T F
  have s1 : Sw x 0 0 h h1 r r := ⟨F1.sub (by decide) (fun _ z => z.elim), Ro.rf, by rw [c1]; omega, by rw [c1]; omega⟩
  refine ⟨h1, ?_, s1⟩
  unfold subN
  rw [e_gR k1, k3, e_gR k1, k2, e_Cv T.pr, e_bd e1, subP_f (M := 0) (s1.st T) Fa1 m1 (by omega)]
theorem sub_eq (T : Stat x h) {fl : Int32} : C_X11_subscribe x l1 l2 fl h = (bd (C_X5_expect (x + 37) fl (2 : Int32)) fun _ => hgR 13 3 (some x) fun v38 => hCv 7 v38 (fun a => C_X5_number a) fun r39 => subN x l1 l2 r39) h := by
  obtain ⟨k1, k2, k3⟩ := T.in3
  unfold C_X11_subscribe
  rw [e_gR k1, k2, e_Cv T.rd]
  rfl
/-- flags that may not stand -/
theorem sub_bad (D : Rd x i bs p bs.length 0 h r) (T : Stat x h) {fl : Int32} (hfl : fl ≠ 2) : ∃ h', C_X11_subscribe x l1 l2 fl h = some (nn 129, h') ∧ Sw x 0 0 h h' r (sI r 79 (nn 129)) := by
  have D1 := D.fl (v := 129) (by omega) (by omega)
  have s1 : Sc x 0 0 h (sfi h 704 (x + 37) (nn 129)) r (sI r 79 (nn 129)) := Sc.fl
  have T1 := s1.st T
  obtain ⟨j1, j2, j3⟩ := T1.in3
  obtain ⟨h', e1, s2⟩ := subN_f (r := sI r 79 (nn 129)) (l1 := l1) (l2 := l2) (l4 := 0) T1 (D1.fa (by omega))
  refine ⟨h', ?_, s1.sw.tr s2⟩
  have ee : C_X5_expect (x + 37) fl (2 : Int32) h = some ((), sfi h 704 (x + 37) (nn 129)) := by
    unfold C_X5_expect
    rw [if_neg hfl, e_Cv (c := 7) T.rd, e_bd (qc_fail T D.1.2.2.1)]
    rfl
  rw [sub_eq T, e_bd ee, e_gR j1, j2, e_Cv T1.rd, e_bd (qc_number_f T1 (D1.fa (by omega)))]
  exact e1
theorem msub295_f {a1 a2 a3 a4 : Int32} (hf : r.1 79 = nn f) (h1 : f ≠ 0) (h2 : f < 256) : R_subscribe_J295 a1 a2 a3 a4 r = some ((), r) := by
  unfold R_subscribe_J295
  rw [x_rI, hf, if_neg (nn_ne0 (by omega) h1)]
  rfl
theorem msub143_f {a1 a2 a3 a4 : Int32} (hf : r.1 79 = nn f) (h1 : f ≠ 0) (h2 : f < 256) : R_subscribe_L143 (fun l1 l2 l3 l4 => R_subscribe_J295 l1 l2 l3 l4) fu a1 a2 a3 a4 r = some ((), r) := by
  show R_subscribe_L143 (fun l1 l2 l3 l4 => R_subscribe_J295 l1 l2 l3 l4) (4999 + 1) a1 a2 a3 a4 r = _
  rw [mchkF hf h1 h2, msub295_f hf h1 h2]
theorem msub92_f {a1 a2 : Int32} (hf : r.1 79 = nn f) (h1 : f ≠ 0) (h2 : f < 256) : R_subscribe_J92 a1 a2 r = some ((), r) := by
  have j114 : ∀ s0 : Int32, R_subscribe_J114 a1 a2 s0 r = some ((), r) := fun s0 => by
    unfold R_subscribe_J114
    rw [x_rI, hf, if_neg (nn_ne0 (by omega) h1), msub143_f hf h1 h2]
  unfold R_subscribe_J92
  rw [l_11, x_rA mL_82 (by omega) (by omega)]
  by_cases g : r.2.1 82 11 = 0
  · rw [if_pos g, j114]
  · rw [if_neg g, x_rL mL_83 (by omega) (by omega), j114]
/-- the entries, and all that follows -/
theorem sim_sub72 (R0 : Rel x i 12 96 e0 h0 r0) (s0 : Sw x (p0 - ps) (p0 - ps) h0 h r0 r) (D : Rd x i bs p0 bs.length 0 h r) (hs : s < 12) (hb : har h0 (x + 34) s = some b) (ho : r0.2.1 1 i = 1) (hn : num < 65536) (hid : id < 268435456) (hl : bs.length ≤ p0 + 398) (hps : 2 ≤ ps ∧ ps ≤ p0) :
    Sim (C_X11_subscribe_J72 x (some (cA x i)) (some b) (nn num) (nn id)) h (R_subscribe_J114 (nn s) (nn num) (nn id)) r (fun w h' _ r' => HP x i e0 bs.length h0 r0 w h' r') := by
  have hi := D.2.2.1.1
  have hbl := D.2.2.1.2.2.1
  have hpl := D.2.2.1.2.2.2.1
  have hp1 := D.2.2.1.2.2.2.2.2
  have B := D.by
  have R := s0.rel R0
  have T := R.st
  have hx := T.1
  have hd := D.2.2.2 rfl
  obtain ⟨k1, k2, k3⟩ := T.in3
  have x79 : r.1 79 = 0 := D.2.1.2.2.1
  have e72 : hfi h (100 * 7 + 2) (x + 37) = nn p0 := D.1.2.1
  unfold C_X11_subscribe_J72 R_subscribe_J114
  rw [sl_gR k1, k2, sl_gI T.rd, e72, sl_Cv k1, sr_rI, x79, sr_pos rfl, sr_rI, hd.2.1, sr_rI, D.2.1.2.1]
  by_cases g0 : p0 = bs.length
  · -- none
    rw [sr_pos (by rw [g0]), Sim_r (e_bd (qm_fails x79))]
    have D1 := D.fl (v := 130) (by omega) (by omega)
    have s1 := s0.tr (Sc.fl (h := h) (r := r) (v := nn 130) (w := nn 130)).sw
    have T1 := s1.st R0.st
    obtain ⟨j1, j2, j3⟩ := T1.in3
    have ec : C_X11_checkEntries x h = some (0, sfi h 704 (x + 37) (nn 130)) := by
      unfold C_X11_checkEntries
      show C_X11_checkEntries_B4 x _ _ 0 0 h = _
      unfold C_X11_checkEntries_B4
      rw [if_neg (by decide), e_gR k1, k2, e_Cv T.rd, e_bd (D.left T), if_pos (by rw [g0, Nat.sub_self]; decide)]
      unfold C_X11_checkEntries_J125
      dsimp only
      rw [if_pos rfl, e_gR k1, k2, e_Cv T.rd, e_bd (qc_fail T D.1.2.2.1)]
      rfl
    have e74 : hfi (sfi h 704 (x + 37) (nn 130)) (100 * 7 + 4) (x + 37) = nn 130 := D1.1.2.2.1
    rw [Sim_l (e_bd ec), sl_gR j1, j2, sl_gI T1.rd, e74, sl_neg (by decide), sl_gR j1, j2, sl_gI T1.rd, e74, Sim_r (M' := rt ()) (msub143_f (f := 130) (by rw [sI_1, if_pos rfl]; rfl) (by omega) (by omega))]
    exact Sim.ret (HP.of R0 s1 hi D1 (by omega) (by omega))
  · rw [sr_neg (fun z => g0 (by have := nn_inj (by omega) (by omega) z; omega))]
    obtain ⟨v, w, h1, r1, q1, q2, p', q3, q4, q5, q6⟩ := chk_loop (ke := fun l1 l2 l3 l4 => R_subscribe_J295 l1 l2 l3 l4) (l1 := nn s) (l2 := nn num) (l3 := nn id) hl bs.length 0 fu fu h r (by show bs.length - p0 ≤ bs.length; omega) (by unfold fu; omega) (by unfold fu; omega) T D (fun e' he' => absurd he' (Nat.not_lt_zero e')) (Nat.le_refl _)
    have q3' : p0 ≤ p' := q3
    have q5' : Sy x (p' - p0) (p' - p0) h h1 r r1 := q5
    have s1 : Sy x (p' - ps) (p' - ps) h0 h1 r0 r1 := (s0.sy.tr q5').le (by omega) (by omega)
    have T1 := s1.st R0.st
    obtain ⟨j1, j2, j3⟩ := T1.in3
    have q2' : R_subscribe_L143 (fun l1 l2 l3 l4 => R_subscribe_J295 l1 l2 l3 l4) fu (nn s) (nn num) (nn id) 0 r = R_subscribe_J295 (nn s) (nn num) (nn id) w r1 := q2
    rw [Sim_r q2']
    rcases q6 with ⟨cnt, a1, a2, a3, a4, a5, a6, D1, hE⟩ | ⟨fa, hfa, hv, D1⟩
    · have cnt0 : cnt ≠ 0 := fun z => by
        rw [z] at a4
        exact g0 a4
      have ec : C_X11_checkEntries x h = some (nn cnt, h1) := by
        unfold C_X11_checkEntries
        refine Eq.trans q1 ?_
        unfold C_X11_checkEntries_J125
        rw [a1, if_neg (nn_ne0 (by omega) cnt0)]
        rfl
      have e74 : hfi h1 (100 * 7 + 4) (x + 37) = 0 := D1.1.2.2.1
      have x791 : r1.1 79 = 0 := D1.2.1.2.2.1
      rw [Sim_l (e_bd ec), sl_gR j1, j2, sl_gI T1.rd, e74, sl_pos rfl, sl_gR j1, j2, sl_pI T1.rd, a2]
      have D2 := D1.mv (p' := p0) (by omega) hp1
      obtain ⟨h2, eh2⟩ : ∃ z, z = sfi h1 702 (x + 37) (nn p0) := ⟨_, rfl⟩
      show Sim (hgR 13 5 (some x) _) (sfi h1 702 (x + 37) (nn p0)) _ _ _
      rw [← eh2] at D2 ⊢
      have F12 : Fm x vF (vA x) h1 h2 := by
        rw [eh2]
        exact Fm.rf.fi (Or.inl (by decide)) (Or.inl (by decide))
      have R1 := s1.rel R0
      have R2 := R1.cls F12
      have T2 := R2.st
      obtain ⟨f0, b0, W0⟩ := R2.wr
      obtain ⟨m1, m2, m3, m4⟩ := wref T2 (Wo.rf (h := h2))
      rw [sl_gR m1, m2, sl_Cv m3]
      refine Sim.seqL (qc_wbegin (v := (144 : Int32)) W0) (fun _ h3 z3 => ?_)
      obtain ⟨m1, m2, m3, m4⟩ := wref T2 z3.2
      rw [sl_gR m1, m2, sl_Cv m3]
      refine Sim.seqL (qc_two z3.1 hn (by decide)) (fun _ h4 z4 => ?_)
      have W24 := z3.2.tr z4.2
      obtain ⟨m1, m2, m3, m4⟩ := wref T2 W24
      rw [sl_gR m1, m2, sl_Cv m3]
      refine Sim.seqL (qc_one (v := (0 : Int32)) z4.1 (by simp)) (fun _ h5 z5 => ?_)
      have W25 := W24.tr z5.2
      have Wn : WR (x + 46) h5 (nn 144) (num / 256 :: num % 256 :: 0 :: []) := z5.1
      have F25 := W25.fm
      have R5 : Rel x i 12 96 e0 h5 r1 := R2.scr W25.sc Ro.rf ⟨_, _, z5.1⟩
      have cs5 : hcs h5 = hcs h1 := by rw [W25.2.2.2.2.2.2.2.1, eh2, hcs_sfi]
      have ca : cA x i + 2 = x + 2 + 4 * i + 2 := rfl
      have D5 : Rd x i bs p0 bs.length 0 h5 (sI r1 76 (nn (410 * i + p0))) := D2.fm T2 F25 (Ro.rf (S := [])) (by decide) (by omega) (by decide)
      have e34 : har h5 (x + 34) = har h0 (x + 34) := by
        rw [W25.2.2.2.2.2.2.1, eh2, har_sfi]
        have := R0.st.1
        exact (s1.1.2.2 (x + 34) (by omega) (fun z => by rcases z with z | z <;> omega)).2.1
      have K5 : Kp x i h0 h5 r0 r1 := ((s1.kp R0.st hi).tr (Kp.of F12 (Ro.rf (S := [])) T1 hi (by decide) (fun z => by rcases z with z | z <;> omega) (by decide))).tr (Kp.of F25 (Ro.rf (S := [])) T2 hi (by decide) (by omega) (by decide))
      have wn1 := s1.wn
      have c1 := s1.2.2.1
      have c2 := s1.2.2.2
      have h60 : Mg (r0.2.1 6) (410 * i) bs := by
        have : r1.2.1 6 = r0.2.1 6 := s1.2.1.gA (by decide)
        rw [← this]
        exact D1.2.1.2.2.2
      have I0 : sbI x i s b num p0 e0 bs h0 r0 (p' - ps) (p' - ps) h5 r1 0 := ⟨R5, by rw [e34]; exact hb, ⟨_, D5⟩, ⟨[], rfl, Wn, fun e' he' => absurd he' (Nat.not_lt_zero e')⟩, fun e' he' => absurd he' (Nat.not_lt_zero e'), K5, x791, by rw [cs5]; omega, by rw [cs5]; omega⟩
      have hcn : cnt ≤ 133 := by omega
      unfold R_subscribe_J295
      rw [sr_rI, x791, sr_pos rfl]
      refine sim_sbB (C := p' - ps) (E := p' - ps) (h0 := h0) (r0 := r0) (p0 := p0) hi hs hid hcn hbl (fun e' he' => (hE e' he').1) h60 (fun h6 r6 I6 hA6 => ?_) cnt 0 fu fu h5 r1 (by omega) (by unfold fu; omega) (by unfold fu; omega) I0 (fun e' he' => (hE e' he').2)
      -- the answer, and what is kept
      obtain ⟨R6, hb6, _, ⟨rs, rl, W6, r92⟩, hDc, K6, x796, cc1, cc2⟩ := I6
      have T6 := R6.st
      have hby : By rs := fun a ha => W6.2.2.2.2.1 a (List.mem_cons_of_mem _ (List.mem_cons_of_mem _ (List.mem_cons_of_mem _ ha)))
      obtain ⟨r7, e7, B7, w7⟩ := body_3 (r := r6) (num := num) (K := R_subscribe_L360 (fun l1 l4 => R_subscribe_J384 l1 l4) fu (nn s) (nn cnt) (0 : Int32)) hn
      obtain ⟨r8, e8, B8, w8⟩ := body_loop (r := r7) (cnt := cnt) (rs := rs) (pr := [num / 256, num % 256, 0]) (L := fun f v => R_subscribe_L360 (fun l1 l4 => R_subscribe_J384 l1 l4) f (nn s) (nn cnt) v) (E := R_subscribe_J384 (nn s) (nn cnt)) (fun f v => rfl) B7 (fun e' he' => by rw [w7.gA (by decide)]; exact r92 e' he') rl (by omega) (by simp) hby
      have o6 : r6.2.1 1 i = 1 := by rw [K6.1.1]; exact ho
      have c6 : r6.1 75 = nn i := by rw [K6.1.2.2.2.2, ← s0.2.1.gI (by decide)]; exact D.2.1.1
      have blen : ([num / 256, num % 256, 0] ++ rs).length = cnt + 3 := by
        rw [List.length_append, rl]
        show 3 + cnt = _
        omega
      obtain ⟨r9, e9, P9, w9⟩ := sendB (i := i) (g := 144) (K := R_subscribe_L398 (R_subscribe_J418) fu (nn s) (nn cnt) (0 : Int32)) B8 (by rw [blen]; omega) (by omega)
      have w69 : Ro [88, 89, 90, 91] r6 r9 := ((w7.sub (by decide)).tr (w8.sub (by decide))).tr (w9.sub (by decide))
      have ml : R_subscribe_J334 (nn s) (nn num) (nn cnt) r6 = (bd (R_send (nn i)) fun _ => R_subscribe_L398 (R_subscribe_J418) fu (nn s) (nn cnt) (0 : Int32)) r9 := by
        refine Eq.trans (show R_subscribe_J334 (nn s) (nn num) (nn cnt) r6 = _ from e7) (Eq.trans e8 ?_)
        unfold R_subscribe_J384
        rw [x_rI, w8.gI (by decide), w7.gI (by decide), c6]
        exact e9
      rw [Sim_r ml]
      obtain ⟨u1, u2, u3, u4⟩ := wref T6 (Wo.rf (h := h6))
      unfold C_X11_subscribe_J208
      rw [sl_gR u1, u2, sl_Cv (u4 i hi)]
      refine Sim.seq (sim_mk (f := 144) R6 hi o6 Wo.rf W6 w69 P9 (by omega)) (fun _ h10 _ r10 z => ?_)
      obtain ⟨R10, O10, w10⟩ := z
      have e34' : har h10 = har h6 := O10.1.2.2.2.2.2.2.1
      have cs10 : hcs h10 = hcs h6 := O10.1.2.2.2.2.2.2.2
      have wn10 := w10.wn (by decide) (by decide) (by decide) (by decide)
      have F10 := O10.fm
      have hx6 := T6.1
      have n50 : hai h10 (x + 50) = hai h6 (x + 50) := (F10.2.2 (x + 50) (by omega) (fun z => by
        rcases z with z | ⟨i', hi', z⟩
        · omega
        · have : cA x i' + 1 = x + 2 + 4 * i' + 1 := rfl
          omega)).1
      have hP : ∀ zs k, Pl x h6 r6 zs s k → Pl x h10 r10 zs s k := fun zs k z => z.to T6 hb6 (by have := (R6.ses hs hb6).1.2.2.1; omega) F10.1 (by rw [e34']) (by rw [w10.gA (by decide)]) (by rw [e34'])
      have hz := pz_le (bs := bs) (p0 := p0) (e := cnt)
      refine (sim_sbD (C := p' - ps + 3 * cnt) (E := p' - ps + (bs.length - p0) + 7 * cnt) (h0 := h0) (r0 := r0) (p0 := p0) hi hs hcn hbl B (fun e' he' => (hE e' he').1) h60 cnt 0 fu fu h10 r10 (by omega) (by unfold fu; omega) (by unfold fu; omega) R10 (by rw [e34']; exact hb6) (fun e' he' => (hDc e' he').to (by rw [w10.gA (by decide)]) (by rw [w10.gA (by decide)]) (by rw [n50]) hP) (fun e' he' => ?_) (K6.tr (O10.kp w10 R6 hi)) (by rw [w10.gI (by decide)]; exact x796) (by rw [cs10]; omega) (by rw [cs10]; rw [a4] at cc2; omega)).mono (fun w' h' _ r' z => ?_)
      · obtain ⟨y1, y2, y3⟩ := hA6 e' he'
        exact ⟨by rw [w10.gA (by decide)]; exact y1, by rw [w10.gA (by decide)]; exact y2, by rw [w10.gA (by decide)]; exact y3⟩
      · obtain ⟨y1, y2, y3, y4, y5, y6⟩ := z
        exact ⟨y2, y3, ⟨0, y4, y1, by omega, Or.inl rfl⟩, by omega, by omega⟩
    · have hf2 := D1.2.2.1.2.2.2.2.1
      have ec : C_X11_checkEntries x h = some (v, h1) := by
        unfold C_X11_checkEntries
        refine Eq.trans q1 ?_
        unfold C_X11_checkEntries_J125
        rw [if_neg hv]
        rfl
      have e74 : hfi h1 (100 * 7 + 4) (x + 37) = nn fa := D1.1.2.2.1
      rw [Sim_l (e_bd ec), sl_gR j1, j2, sl_gI T1.rd, e74, sl_neg (nn_ne0 (by omega) hfa), sl_gR j1, j2, sl_gI T1.rd, e74, Sim_r (M' := rt ()) (msub295_f D1.2.1.2.2.1 hfa hf2.1)]
      exact Sim.ret (s1.hp R0 hi D1 (by omega) (by omega))
theorem bit_sub : lshl6 (1 : Int64) (11 : Int32) ||| lshl6 (1 : Int64) (38 : Int32) = n6 274877908992 := by decide +kernel
theorem mask_sub : ∀ k, (274877908992 : Nat).testBit k = true → k ∈ K0 := mask_ok (by omega) (by decide +kernel)
theorem sim_subscribe (R : Rel x i 12 96 e0 h r) (D : Rd x i bs p bs.length 0 h r) (hs : s < 12) (h7 : r.2.1 7 i = nn s) (hb : har h (x + 34) s = some b) (ho : r.2.1 1 i = 1) (hl : bs.length ≤ p + 400) (hp2 : 2 ≤ p) :
    Sim (C_X11_subscribe x (some (cA x i)) (some b) (2 : Int32)) h (R_subscribe) r (fun w h' _ r' => HP x i e0 bs.length h r w h' r') := by
  have T := R.st
  have hi := D.2.2.1.1
  have hpl := D.2.2.1.2.2.2.1
  have B := D.by
  obtain ⟨k1, k2, k3⟩ := T.in3
  have ee : C_X5_expect (x + 37) (2 : Int32) (2 : Int32) h = some ((), h) := by
    unfold C_X5_expect
    rw [if_pos rfl]
    rfl
  rw [Sim_l (sub_eq T), Sim_l (e_bd ee), sl_gR k1, k2, sl_Cv T.rd]
  unfold R_subscribe
  rw [sr_rI, D.2.1.1, sr_r7 hi, h7]
  refine sim_num (Kc := fun r39 => subN x (some (cA x i)) (some b) r39) (Km := fun v => R_subscribe_J33 (nn s) v) D T (fun g2 g0 h1 r1 D1 s1 => ?_) (fun v h1 r1 p' f hf D1 s1 => ?_)
  · obtain ⟨num, en⟩ : ∃ z, z = b2 bs p := ⟨_, rfl⟩
    have hnum : num < 65536 := by rw [en]; exact B.two p
    rw [← en]
    have T1 := s1.st T
    obtain ⟨j1, j2, j3⟩ := T1.in3
    have z79 : r1.1 79 = 0 := D1.2.1.2.2.1
    unfold subN R_subscribe_J33 R_bit
    rw [sl_gR j1, j3, sl_gR j1, j2, sl_Cv T1.pr, sr_rI, z79, sr_pos rfl, Sim_r x_rt, Sim_r x_rt, bit_sub, show (274877908992 : Int64) = n6 274877908992 from rfl]
    refine Sim.seq (sim_props (A := 274877908992) (by omega) mask_sub D1 T1 (by omega)) (fun _ h2 _ r2 z => ?_)
    obtain ⟨p', y1, y2, y3, y4⟩ := z
    have s2 : Sw x (p' - p) (p' - p) h h2 r r2 := (s1.sw.tr y3).le (by omega) (by omega)
    have T2 := s2.st T
    obtain ⟨m1, m2, m3⟩ := T2.in3
    rw [sr_rI]
    rcases y4 with ⟨M, U, D2, P2, hMA, hTU⟩ | ⟨f, hf, D2, X2⟩
    · have z792 : r2.1 79 = 0 := D2.2.1.2.2.1
      obtain ⟨eg, hg⟩ := qc_get (k := 11) (v := (0 : Int64)) T2 P2 (by decide) (by decide) (by decide)
      have ep := qc_phas (k := 11) T2 P2.1.1 P2.1.2.1 (by omega)
      have m11 := P2.1.2.2 11 (by omega)
      unfold subP
      rw [sl_gR m1, m3, sl_Cv T2.pr, l_11, Sim_l (e_bd eg), sl_gR m1, m3, sl_Cv T2.pr, Sim_l (e_bd ep), z792, sr_pos rfl, sr_r82 (by omega), m11]
      by_cases g : M.testBit 11 = true
      · obtain ⟨v, v1, v2⟩ := hg g
        have v1' : v ≤ 268435455 := v1
        rw [if_pos g, if_pos g, sl_neg (by decide), sr_neg (by decide), sr_r83 (by omega), v2, n6_32 (by omega)]
        by_cases gv : v = 0
        · rw [sl_pos (by rw [gv]; rfl), sr_pos (show lg_cmp (n6 v) (0 : Int64) = 0 by rw [gv]; decide), sl_gR m1, m2, sl_Cv T2.rd, Sim_l (e_bd (qc_fail T2 D2.1.2.2.1)), Sim_r (e_bd (qm_fails z792))]
          have D3 := D2.fl (v := 130) (by omega) (by omega)
          have s3 := s2.tr (Sc.fl (h := h2) (r := r2) (v := nn 130) (w := nn 130)).sw
          have T3 := s3.st T
          show Sim (C_X11_subscribe_J72 x (some (cA x i)) (some b) (nn num) (nn v)) (sfi h2 704 (x + 37) (nn 130)) (R_subscribe_J92 (nn s) (nn num)) (sI r2 79 (nn 130)) _
          rw [Sim_l (P' := rt (nn 130)) (sub72_f T3 (D3.fa (by omega))), Sim_r (M' := rt ()) (msub92_f (f := 130) (by rw [sI_1, if_pos rfl]) (by omega) (by omega))]
          exact Sim.ret (HP.of R s3 hi D3 (by omega) (by omega))
        · rw [sl_neg (nn_ne0 (by omega) gv), sr_neg (fun z : lg_cmp (n6 v) (0 : Int64) = 0 => gv ((n6_eq (b := 0) (by omega) (by omega)).mp (cmp_eq.mp z)))]
          unfold R_subscribe_J92
          rw [l_11, sr_r82 (by omega), m11, if_pos g, sr_neg (by decide), sr_r83 (by omega), v2, n6_32 (by omega)]
          exact sim_sub72 R s2 D2 hs hb ho hnum (by omega) (by omega) ⟨hp2, by omega⟩
      · rw [if_neg g, if_neg g, sl_pos rfl, sr_pos rfl]
        unfold R_subscribe_J92
        rw [l_11, sr_r82 (by omega), m11, if_neg g, sr_pos rfl]
        exact sim_sub72 (id := 0) R s2 D2 hs hb ho hnum (by omega) (by omega) ⟨hp2, by omega⟩
    · have hf2 := D2.2.2.1.2.2.2.2.1
      obtain ⟨M, x1, x2⟩ := X2.1
      rw [D2.2.1.2.2.1, sr_neg (nn_ne0 (by omega) hf), Sim_l (P' := rt (nn f)) (subP_f T2 (D2.fa hf) x2 x1), Sim_r (M' := rt ()) (msub92_f D2.2.1.2.2.1 hf hf2.1)]
      exact Sim.ret (HP.of R s2 hi D2 (by omega) (by omega))
  · have T1 := s1.st T
    have hf2 := D1.2.2.1.2.2.2.2.1
    have hm : R_subscribe_J33 (nn s) v r1 = some ((), r1) := by
      unfold R_subscribe_J33
      rw [x_rI, D1.2.1.2.2.1, if_neg (nn_ne0 (by omega) hf)]
      rfl
    exact sim_flt R s1.sw hi D1 hf (by omega) (by omega) (subN_f (l1 := some (cA x i)) (l2 := some b) (l4 := v) T1 (D1.fa hf)) hm
end SUB
