/-! ===== CONNECT: the class reads on after a fault ===== -/
section GRF
variable {x i p L f n s b M k : Nat} {e0 : Int32} {h h' h0 : Hp} {r r' r0 : RS} {bs U : List Nat} {l5 l6 s1 : Int32}
theorem Stat.gr (T : Stat x h) : hfr h (100 * 13 + 6) x = some (x + 48) ∧ hkd h (x + 48) = 4 + 1 := ⟨T.2.1.2.2.2.2.2.2.2.1, T.2.2.2.2.2.1.2.2.2.2.1⟩
/-- what reading a greeting may change -/
def ggF : List Nat := [400, 401, 402, 403, 404, 405, 406, 407, 600, 605, 606, 607, 701, 702, 703, 704]
def Sg (x c e : Nat) (h h' : Hp) (r r' : RS) : Prop := Fm x ggF (vA x) h h' ∧ Ro vS r r' ∧ (hcs h').1 ≤ (hcs h).1 + c ∧ (hcs h').2 ≤ (hcs h).2 + e
theorem Sg.tr {c e c' e' : Nat} {h1 h2 : Hp} {r1 r2 : RS} (p : Sg x c e h h1 r r1) (q : Sg x c' e' h1 h2 r1 r2) : Sg x (c + c') (e + e') h h2 r r2 := ⟨p.1.tr q.1, p.2.1.tr q.2.1, by have := p.2.2.1; have := q.2.2.1; omega, by have := p.2.2.2; have := q.2.2.2; omega⟩
theorem Sg.le {c e c' e' : Nat} {h1 : Hp} {r1 : RS} (p : Sg x c e h h1 r r1) (l1 : c ≤ c') (l2 : e ≤ e') : Sg x c' e' h h1 r r1 := ⟨p.1, p.2.1, by have := p.2.2.1; omega, by have := p.2.2.2; omega⟩
theorem Sw.sg {c e : Nat} {h1 : Hp} {r1 : RS} (p : Sw x c e h h1 r r1) : Sg x c e h h1 r r1 := ⟨p.1.sub (by decide) (fun _ z => z), p.2⟩
theorem Sc.sg {c e : Nat} {h1 : Hp} {r1 : RS} (p : Sc x c e h h1 r r1) : Sg x c e h h1 r r1 := p.sw.sg
theorem Sg.st {c e : Nat} {h1 : Hp} {r1 : RS} (p : Sg x c e h h1 r r1) (T : Stat x h) : Stat x h1 := T.sto p.1.1
theorem Sg.kp {c e : Nat} (p : Sg x c e h h' r r') (T : Stat x h) (hi : i < 8) : Kp x i h h' r r' := Kp.of p.1 p.2.1 T hi (by decide) (fun z => by
  have : cA x i + 2 = x + 2 + 4 * i + 2 := rfl
  rcases z with z | z <;> omega) (by decide)
theorem Sg.rel {c e ec es ew : Nat} (p : Sg x c e h h' r r') (R : Rel x ec es ew e0 h r) : Rel x ec es ew e0 h' r' := by
  obtain ⟨f, bs, W⟩ := R.wr
  refine R.scr (p.1.sub (by decide) (fun a ha => ?_)) (p.2.1.sub (by decide)) ⟨f, bs, W.fmx R.st p.1 (by decide) (fun z => ?_)⟩
  · rcases ha with z | z
    · exact Or.inl z
    · exact Or.inr (Or.inr z)
  · rcases z with z | z <;> omega
theorem Sg.wn {c e : Nat} (p : Sg x c e h h' r r') : WN r' ≤ WN r := p.2.1.wn (by decide) (by decide) (by decide) (by decide)
/-- a fault stands, and the class's set of properties is a set -/
def Gq (x f : Nat) (h : Hp) : Prop := Stat x h ∧ Fa x f h ∧ ∃ M, M < 1099511627776 ∧ hfl h 600 (x + 40) = n6 M
theorem Gq.sw (G : Gq x f h) {F : List Nat} {A : Nat → Prop} (q : Fm x F A h h') (h1 : 704 ∉ F) (h2 : 600 ∉ F) : Gq x f h' := by
  obtain ⟨T, ⟨a1, a2, a3⟩, M, m1, m2⟩ := G
  have hx := T.1
  exact ⟨T.sto q.1, ⟨by rw [q.gi h1 (by omega)]; exact a1, a2, a3⟩, M, m1, by rw [q.gl h2 (by omega)]; exact m2⟩
theorem get_any (G : Gq x f h) (hk : k < 40) {d : Int64} : ∃ v, C_X4_get (x + 40) (nn k) d h = some (v, h) := by
  obtain ⟨T, _, M, m1, m2⟩ := G
  obtain ⟨⟨p1, p2, p3⟩, _⟩ := T.pra
  have ep := qc_phas (k := k) T m2 m1 hk
  unfold C_X4_get
  rw [e_Cv T.pr, e_bd ep]
  by_cases g : M.testBit k = true
  · rw [if_pos g, if_neg (by decide), e_gR T.pr, p1, e_Al p2 (nn_inr (by omega) (by omega))]
    exact ⟨_, rfl⟩
  · rw [if_neg g, if_pos rfl]
    exact ⟨_, rfl⟩
theorem has_any (G : Gq x f h) (hk : k < 40) : ∃ v, C_X4_has (x + 40) (nn k) h = some (v, h) := by
  obtain ⟨T, _, M, m1, m2⟩ := G
  exact ⟨_, qc_phas (k := k) T m2 m1 hk⟩
theorem g266_f {a : Nat} {ys : List Nat} (T : Stat x h) (F : Fa x f h) (ha : hfr h 400 (x + 48) = some a) (W : Rw x h a ys) : C_X2_read_J266 (x + 48) (some (x + 37)) h = some ((), h) := by
  have ha' : hfr h (100 * 4 + 0) (x + 48) = some a := ha
  unfold C_X2_read_J266
  rw [e_gR T.gr.2, ha', e_Cv (c := 9) W.1, e_bd (qc_count W)]
  by_cases z : nn ys.length ≤ (20 : Int32)
  · rw [if_pos z]
    rfl
  · rw [if_neg z, e_Cv T.rd, e_bd (qc_fail_f T F)]
    rfl
theorem g250_f {a : Nat} {ys : List Nat} (T : Stat x h) (F : Fa x f h) (ha : hfr h 400 (x + 48) = some a) (W : Rw x h a ys) : C_X2_read_J250 (x + 48) (some (x + 37)) l6 h = some ((), h) := by
  unfold C_X2_read_J250
  rw [e_Cv T.rd, e_bd (qc_finish_f T F)]
  by_cases z : l6 = 0
  · rw [if_pos z, g266_f T F ha W]
  · rw [if_neg z, e_Cv T.rd, e_bd (qc_fail_f T F), g266_f T F ha W]
theorem g236_f {a : Nat} {ys : List Nat} (T : Stat x h) (F : Fa x f h) (ha : hfr h 400 (x + 48) = some a) (W : Rw x h a ys) : C_X2_read_J236 (x + 48) (some (x + 37)) l5 l6 h = some ((), h) := by
  unfold C_X2_read_J236
  by_cases z : (l5 &&& (64 : Int32)) = 0
  · rw [if_pos z, g250_f T F ha W]
  · rw [if_neg z, e_Cv T.rd, e_bd (qc_row_f T F), g250_f T F ha W]
theorem g221_f {a : Nat} {ys : List Nat} (T : Stat x h) (F : Fa x f h) (ha : hfr h 400 (x + 48) = some a) (W : Rw x h a ys) : C_X2_read_J221 (x + 48) (some (x + 37)) l5 l6 h = some ((), h) := by
  unfold C_X2_read_J221
  by_cases z : (l5 &&& (128 : Int32)) = 0
  · rw [if_pos z, g236_f T F ha W]
  · rw [if_neg z, e_Cv T.rd, e_bd (qc_row_f T F), g236_f T F ha W]
/-- what a will's reading does after a fault -/
theorem gWJ_f (T : Stat x h) (F : Fa x f h) {l4 : Option Nat} : C_X2_readWill_J46 (x + 48) (some (x + 37)) (some (x + 40)) l5 l4 h = some ((), h) := by
  have e : hfi h (100 * 7 + 4) (x + 37) = nn f := F.1
  unfold C_X2_readWill_J46
  rw [e_Cv T.rd, e_bd (qc_row_f T F), e_gI T.rd, e, if_neg (nn_ne0 (by have := F.2.2; omega) F.2.1)]
  rfl
/-- a will behind its properties, behind the look at its answer's topic, at its topic -/
def wR3 (x : Nat) (l5 : Int32) : Hp → Option (Unit × Hp) := hCv 7 (some (x + 37)) (fun a => C_X5_row a (1 : Int32)) fun r7 => hCv 9 r7 (fun a => C_X7_isTopic a) fun r8 => if r8 = 0 then (hCv 7 (some (x + 37)) (fun a => C_X5_fail a (144 : Int32)) fun _ => C_X2_readWill_J46 (x + 48) (some (x + 37)) (some (x + 40)) l5 r7) else (C_X2_readWill_J46 (x + 48) (some (x + 37)) (some (x + 40)) l5 r7)
def wR2 (x : Nat) (l5 : Int32) : Hp → Option (Unit × Hp) := hCv 6 (some (x + 40)) (fun a => C_X4_get a (24 : Int32) (0 : Int64)) fun r6 => hpL 4 7 (some (x + 48)) r6 <| wR3 x l5
def wR1 (x : Nat) (l5 : Int32) : Hp → Option (Unit × Hp) := hCv 6 (some (x + 40)) (fun a => C_X4_checkResponse a (some (x + 37))) fun _ => wR2 x l5
theorem wR3_f (T : Stat x h) (F : Fa x f h) : wR3 x l5 h = some ((), h) := by
  unfold wR3
  rw [e_Cv T.rd, e_bd (qc_row_f T F), e_Cv (c := 9) T.nil.1, e_bd (qc_isTopic T.nil (by decide)), if_pos (show (if tpc [] = true then (1 : Int32) else 0) = 0 by decide), e_Cv T.rd, e_bd (qc_fail_f T F), gWJ_f T F]
theorem wR2_f (G : Gq x f h) : ∃ h', wR2 x l5 h = some ((), h') ∧ Fm x [407] (fun _ => False) h h' ∧ hcs h' = hcs h ∧ Fa x f h' := by
  obtain ⟨v, ev⟩ := get_any (k := 24) (d := 0) G (by omega)
  have F2 : Fm x [407] (fun _ => False) h (sfl h 407 (x + 48) v) := Fm.fl Fm.rf (Or.inl (by decide)) (Or.inl (by decide))
  have G2 : Gq x f (sfl h 407 (x + 48) v) := G.sw F2 (by decide) (by decide)
  refine ⟨sfl h 407 (x + 48) v, ?_, F2, rfl, G2.2.1⟩
  unfold wR2
  rw [e_Cv G.1.pr, show (24 : Int32) = nn 24 from rfl, e_bd ev, e_pL G.1.gr.2]
  exact wR3_f G2.1 G2.2.1
theorem wR1_f (G : Gq x f h) (X : FPx x h) : ∃ h', wR1 x l5 h = some ((), h') ∧ Fm x [407] (fun _ => False) h h' ∧ hcs h' = hcs h ∧ Fa x f h' := by
  unfold wR1
  rw [e_Cv G.1.pr, e_bd (qc_resp_f G.1 G.2.1 X)]
  exact wR2_f G
theorem gW_f (T : Stat x h) (F : Fa x f h) : ∃ h', C_X2_readWill (x + 48) (some (x + 37)) (some (x + 40)) l5 h = some ((), h') ∧ Fm x [407, 600, 605, 606, 607] (fun _ => False) h h' ∧ hcs h' = hcs h ∧ Fa x f h' := by
  obtain ⟨h1, e1, F1, c1, Fa1, m1, q1⟩ := qc_props_f (v := (274894684942 : Int64)) T F
  have T1 := T.sto F1.1
  obtain ⟨h2, e2, F2, c2, Fa2⟩ := wR1_f (l5 := l5) ⟨T1, Fa1, 0, by omega, m1⟩ ⟨⟨0, by omega, m1⟩, Or.inl q1⟩
  refine ⟨h2, ?_, (F1.sub (by decide) (fun _ z => z)).tr (F2.sub (by decide) (fun _ z => z)), c2.trans c1, Fa2⟩
  unfold C_X2_readWill
  rw [e_Cv T.pr, e_bd e1]
  exact e2
theorem g187_f (T : Stat x h) (F : Fa x f h) : ∃ h', C_X2_read_J187 (x + 48) (some (x + 37)) (some (x + 40)) l5 l6 h = some ((), h') ∧ Sg x 0 0 h h' r r ∧ Fa x f h' := by
  have k4 := T.gr.2
  obtain ⟨h1, eh1⟩ : ∃ z, z = sfl (sfr (sfr h 400 (x + 48) (some (x + 38))) 406 (x + 48) none) 407 (x + 48) 0 := ⟨_, rfl⟩
  have F1 : Fm x [400, 406, 407] (fun _ => False) h h1 := by
    rw [eh1]
    exact Fm.fl (Fm.fr (Fm.fr Fm.rf (Or.inl (by decide)) (Or.inl (by decide))) (Or.inl (by decide)) (Or.inl (by decide))) (Or.inl (by decide)) (Or.inl (by decide))
  have T1 := T.sto F1.1
  have hx := T.1
  have Fa1 : Fa x f h1 := ⟨by rw [F1.gi (by decide) (by omega)]; exact F.1, F.2⟩
  have a1 : hfr h1 400 (x + 48) = some (x + 38) := by
    rw [eh1]
    show hfr (sfr (sfr h 400 (x + 48) (some (x + 38))) 406 (x + 48) none) 400 (x + 48) = _
    rw [hfr_sfr, if_neg (by omega), hfr_sfr, if_pos ⟨rfl, rfl⟩]
  have c1 : hcs h1 = hcs h := by rw [eh1]; rfl
  unfold C_X2_read_J187
  rw [e_Cv T.rd, e_bd (qc_row_f T F), e_pR k4, e_pR (by exact k4), e_pL (by exact k4)]
  by_cases z : (l5 &&& (4 : Int32)) = 0
  · rw [if_pos z]
    refine ⟨h1, ?_, ⟨F1.sub (by decide) (fun _ z => z.elim), Ro.rf, by rw [c1]; omega, by rw [c1]; omega⟩, Fa1⟩
    show C_X2_read_J221 (x + 48) (some (x + 37)) l5 l6 (sfl (sfr (sfr h 400 (x + 48) (some (x + 38))) 406 (x + 48) none) 407 (x + 48) 0) = _
    rw [← eh1]
    exact g221_f T1 Fa1 a1 T1.nil
  · rw [if_neg z]
    obtain ⟨h2, e2, F2, c2, Fa2⟩ := gW_f (l5 := l5) T1 Fa1
    have T2 := T1.sto F2.1
    have a2 : hfr h2 400 (x + 48) = some (x + 38) := by rw [F2.gr (by decide) (by have := T1.1; omega)]; exact a1
    refine ⟨h2, ?_, ⟨(F1.sub (by decide) (fun _ z => z.elim)).tr (F2.sub (by decide) (fun _ z => z.elim)), Ro.rf, by rw [c2, c1]; omega, by rw [c2, c1]; omega⟩, Fa2⟩
    show hCv 4 (some (x + 48)) (fun a => C_X2_readWill a (some (x + 37)) (some (x + 40)) l5) (fun _ => C_X2_read_J221 (x + 48) (some (x + 37)) l5 l6) (sfl (sfr (sfr h 400 (x + 48) (some (x + 38))) 406 (x + 48) none) 407 (x + 48) 0) = _
    rw [← eh1, e_Cv T1.gr.2, e_bd e2]
    exact g221_f T2 Fa2 a2 T2.nil
theorem g180_f (T : Stat x h) (F : Fa x f h) : ∃ h', C_X2_read_J180 (x + 48) (some (x + 37)) (some (x + 40)) l5 l6 h = some ((), h') ∧ Sg x 0 0 h h' r r ∧ Fa x f h' := by
  unfold C_X2_read_J180
  rw [e_Cv T.rd, e_bd (qc_fail_f T F)]
  exact g187_f T F
/-- behind the properties -/
def grP (x : Nat) (l5 : Int32) : Hp → Option (Unit × Hp) := hCv 6 (some (x + 40)) (fun a => C_X4_has a (21 : Int32)) fun r13 => hCv 6 (some (x + 40)) (fun a => C_X4_get a (17 : Int32) (0 : Int64)) fun r14 => hpL 4 3 (some (x + 48)) r14 <| hCv 6 (some (x + 40)) (fun a => C_X4_get a (33 : Int32) (65535 : Int64)) fun r15 => hpI 4 4 (some (x + 48)) r15.toInt32 <| hCv 6 (some (x + 40)) (fun a => C_X4_get a (39 : Int32) (-1 : Int64)) fun r16 => hpL 4 5 (some (x + 48)) r16 <| hgI 4 4 (some (x + 48)) fun v17 => if v17 = 0 then (C_X2_read_J180 (x + 48) (some (x + 37)) (some (x + 40)) l5 r13) else (hgL 4 5 (some (x + 48)) fun v18 => if (lg_cmp v18 (0 : Int64)) = 0 then (C_X2_read_J180 (x + 48) (some (x + 37)) (some (x + 40)) l5 r13) else (hCv 6 (some (x + 40)) (fun a => C_X4_has a (22 : Int32)) fun r19 => if r19 = 0 then (C_X2_read_J187 (x + 48) (some (x + 37)) (some (x + 40)) l5 r13) else (if r13 = 0 then (C_X2_read_J180 (x + 48) (some (x + 37)) (some (x + 40)) l5 r13) else (C_X2_read_J187 (x + 48) (some (x + 37)) (some (x + 40)) l5 r13))))
theorem grP_f (G : Gq x f h) : ∃ h', grP x l5 h = some ((), h') ∧ Sg x 0 0 h h' r r ∧ Fa x f h' := by
  obtain ⟨v1, e1⟩ := has_any (k := 21) G (by omega)
  obtain ⟨v2, e2⟩ := get_any (k := 17) (d := 0) G (by omega)
  have k4 := G.1.gr.2
  have F1 : Fm x [403] (fun _ => False) h (sfl h 403 (x + 48) v2) := Fm.fl Fm.rf (Or.inl (by decide)) (Or.inl (by decide))
  have G1 := G.sw F1 (by decide) (by decide)
  obtain ⟨v3, e3⟩ := get_any (k := 33) (d := 65535) G1 (by omega)
  have F2 : Fm x [404] (fun _ => False) (sfl h 403 (x + 48) v2) (sfi (sfl h 403 (x + 48) v2) 404 (x + 48) v3.toInt32) := Fm.fi Fm.rf (Or.inl (by decide)) (Or.inl (by decide))
  have G2 := G1.sw F2 (by decide) (by decide)
  obtain ⟨v4, e4⟩ := get_any (k := 39) (d := -1) G2 (by omega)
  obtain ⟨h3, eh3⟩ : ∃ z, z = sfl (sfi (sfl h 403 (x + 48) v2) 404 (x + 48) v3.toInt32) 405 (x + 48) v4 := ⟨_, rfl⟩
  have F3 : Fm x [405] (fun _ => False) (sfi (sfl h 403 (x + 48) v2) 404 (x + 48) v3.toInt32) h3 := by
    rw [eh3]
    exact Fm.fl Fm.rf (Or.inl (by decide)) (Or.inl (by decide))
  have G3 := G2.sw F3 (by decide) (by decide)
  obtain ⟨v5, e5⟩ := has_any (k := 22) G3 (by omega)
  have s3 : Sg x 0 0 h h3 r r := ⟨((F1.sub (by decide) (fun _ z => z.elim)).tr (F2.sub (by decide) (fun _ z => z.elim))).tr (F3.sub (by decide) (fun _ z => z.elim)), Ro.rf, by rw [eh3]; exact Nat.le_refl _, by rw [eh3]; exact Nat.le_refl _⟩
  have j187 : ∀ v, ∃ h', C_X2_read_J187 (x + 48) (some (x + 37)) (some (x + 40)) l5 v h3 = some ((), h') ∧ Sg x 0 0 h h' r r ∧ Fa x f h' := fun v => by
    obtain ⟨h', a1, a2, a3⟩ := g187_f (r := r) (l5 := l5) (l6 := v) G3.1 G3.2.1
    exact ⟨h', a1, s3.tr a2, a3⟩
  have j180 : ∀ v, ∃ h', C_X2_read_J180 (x + 48) (some (x + 37)) (some (x + 40)) l5 v h3 = some ((), h') ∧ Sg x 0 0 h h' r r ∧ Fa x f h' := fun v => by
    obtain ⟨h', a1, a2, a3⟩ := g180_f (r := r) (l5 := l5) (l6 := v) G3.1 G3.2.1
    exact ⟨h', a1, s3.tr a2, a3⟩
  unfold grP
  rw [e_Cv G.1.pr, show (21 : Int32) = nn 21 from rfl, e_bd e1, e_Cv G.1.pr, show (17 : Int32) = nn 17 from rfl, e_bd e2, e_pL k4, e_Cv (by exact G.1.pr), show (33 : Int32) = nn 33 from rfl, e_bd (by exact e3), e_pI (by exact k4), e_Cv (by exact G.1.pr), show (39 : Int32) = nn 39 from rfl, e_bd (by exact e4), e_pL (by exact k4)]
  show ∃ h', (hgI 4 4 (some (x + 48)) _) (sfl (sfi (sfl h 403 (x + 48) v2) 404 (x + 48) v3.toInt32) 405 (x + 48) v4) = _ ∧ _
  rw [← eh3, e_gI G3.1.gr.2]
  by_cases z1 : hfi h3 (100 * 4 + 4) (x + 48) = 0
  · rw [if_pos z1]
    exact j180 _
  · rw [if_neg z1, e_gL G3.1.gr.2]
    by_cases z2 : lg_cmp (hfl h3 (100 * 4 + 5) (x + 48)) (0 : Int64) = 0
    · rw [if_pos z2]
      exact j180 _
    · rw [if_neg z2, e_Cv G3.1.pr, show (22 : Int32) = nn 22 from rfl, e_bd e5]
      by_cases z3 : v5 = 0
      · rw [if_pos z3]
        exact j187 _
      · rw [if_neg z3]
        by_cases z4 : v1 = 0
        · rw [if_pos z4]
          exact j180 _
        · rw [if_neg z4]
          exact j187 _
/-- behind the seconds of silence -/
def gr85b (x : Nat) (l5 r11 : Int32) : Hp → Option (Unit × Hp) := hpI 4 2 (some (x + 48)) r11 <| hCv 6 (some (x + 40)) (fun a => C_X4_read a (some (x + 37)) (850451890176 : Int64)) fun _ => grP x l5
theorem g85b_f {v : Int32} (T : Stat x h) (F : Fa x f h) : ∃ h', gr85b x l5 v h = some ((), h') ∧ Sg x 0 0 h h' r r ∧ Fa x f h' := by
  have k4 := T.gr.2
  have hx := T.1
  obtain ⟨h1, eh1⟩ : ∃ z, z = sfi h 402 (x + 48) v := ⟨_, rfl⟩
  have F1 : Fm x [402] (fun _ => False) h h1 := by
    rw [eh1]
    exact Fm.fi Fm.rf (Or.inl (by decide)) (Or.inl (by decide))
  have T1 := T.sto F1.1
  have Fa1 : Fa x f h1 := ⟨by rw [F1.gi (by decide) (by omega)]; exact F.1, F.2⟩
  have c1 : hcs h1 = hcs h := by rw [eh1]; rfl
  obtain ⟨h2, e2, F2, c2, Fa2, m2, q2⟩ := qc_props_f (v := (850451890176 : Int64)) T1 Fa1
  have T2 := T1.sto F2.1
  have G2 : Gq x f h2 := ⟨T2, Fa2, 0, by omega, m2⟩
  obtain ⟨h3, e3, s3, Fa3⟩ := grP_f (r := r) (l5 := l5) G2
  refine ⟨h3, ?_, (show Sg x 0 0 h h2 r r from ⟨(F1.sub (by decide) (fun _ z => z.elim)).tr (F2.sub (by decide) (fun _ z => z.elim)), Ro.rf, by rw [c2, c1]; omega, by rw [c2, c1]; omega⟩).tr s3, Fa3⟩
  unfold gr85b
  rw [e_pI k4]
  show (hCv 6 (some (x + 40)) (fun a => C_X4_read a (some (x + 37)) (850451890176 : Int64)) fun _ => grP x l5) (sfi h 402 (x + 48) v) = _
  rw [← eh1, e_Cv T1.pr, e_bd e2, e3]
theorem g85_ev (T : Stat x h) (hs : s1 = 0 ∨ s1 = 1) : C_X2_read_J85 (x + 48) (some (x + 37)) (some (x + 40)) l5 (some (x + 48)) s1 h = (bd (C_X5_two (x + 37)) fun r11 => gr85b x l5 r11) (sfi h 401 (x + 48) s1) := by
  unfold C_X2_read_J85
  rw [e_pZ hs T.gr.2, e_Cv (by exact T.rd)]
  rfl
theorem g85_f (T : Stat x h) (F : Fa x f h) (hs : s1 = 0 ∨ s1 = 1) : ∃ h', C_X2_read_J85 (x + 48) (some (x + 37)) (some (x + 40)) l5 (some (x + 48)) s1 h = some ((), h') ∧ Sg x 0 0 h h' r r ∧ Fa x f h' := by
  have hx := T.1
  have Fb : Fm x [401] (fun _ => False) h (sfi h 401 (x + 48) s1) := Fm.fi Fm.rf (Or.inl (by decide)) (Or.inl (by decide))
  have Tb := T.sto Fb.1
  have Fab : Fa x f (sfi h 401 (x + 48) s1) := ⟨by rw [Fb.gi (by decide) (by omega)]; exact F.1, F.2⟩
  obtain ⟨h3, e3, s3, Fa3⟩ := g85b_f (r := r) (l5 := l5) (v := 0) Tb Fab
  refine ⟨h3, ?_, (show Sg x 0 0 h _ r r from ⟨Fb.sub (by decide) (fun _ z => z.elim), Ro.rf, Nat.le_refl _, Nat.le_refl _⟩).tr s3, Fa3⟩
  rw [g85_ev T hs, e_bd (qc_two_f Tb Fab), e3]
theorem gcf_f (T : Stat x h) (F : Fa x f h) : C_X2_checkFlags (x + 48) (some (x + 37)) l5 h = some ((), h) := by
  have j46 : C_X2_checkFlags_J46 (x + 48) (some (x + 37)) h = some ((), h) := by
    unfold C_X2_checkFlags_J46
    rw [e_Cv T.rd, e_bd (qc_fail_f T F)]
    rfl
  have j35 : ∀ s, C_X2_checkFlags_J35 (x + 48) (some (x + 37)) l5 s h = some ((), h) := fun s => by
    unfold C_X2_checkFlags_J35
    (repeat' split) <;> first | exact j46 | rfl
  unfold C_X2_checkFlags
  (repeat' split) <;> exact j35 _
theorem g59_f (T : Stat x h) (F : Fa x f h) : ∃ h', C_X2_read_J59 (x + 48) (some (x + 37)) (some (x + 40)) h = some ((), h') ∧ Sg x 0 0 h h' r r ∧ Fa x f h' := by
  unfold C_X2_read_J59
  rw [e_Cv T.rd, e_bd (qc_one_f T F), e_Cv T.gr.2, e_bd (gcf_f T F), if_pos (by decide)]
  exact g85_f T F (Or.inl rfl)
theorem g44_f (T : Stat x h) (F : Fa x f h) : ∃ h', C_X2_read_J44 (x + 48) (some (x + 37)) (some (x + 40)) h = some ((), h') ∧ Sg x 0 0 h h' r r ∧ Fa x f h' := by
  unfold C_X2_read_J44
  rw [e_Cv T.rd, e_bd (qc_one_f T F), if_neg (by decide), e_Cv T.rd, e_bd (qc_fail_f T F)]
  exact g59_f T F
theorem g37_f (T : Stat x h) (F : Fa x f h) : ∃ h', C_X2_read_J37 (x + 48) (some (x + 37)) (some (x + 40)) h = some ((), h') ∧ Sg x 0 0 h h' r r ∧ Fa x f h' := by
  unfold C_X2_read_J37
  rw [e_Cv T.rd, e_bd (qc_fail_f T F)]
  exact g44_f T F
/-- the model after a fault -/
theorem mc178_f {l2 l3 l4 : Int32} (hf : r.1 79 = nn f) (h1 : f ≠ 0) (h2 : f < 256) : R_connect_J178 l2 l3 l4 r = some ((), r) := by
  unfold R_connect_J178
  rw [e_bd (qm_two_f hf h1 h2), x_rI, hf, if_neg (nn_ne0 (by omega) h1)]
  rfl
theorem mc128_f {l2 s0 : Int32} (hf : r.1 79 = nn f) (h1 : f ≠ 0) (h2 : f < 256) : R_connect_J128 l2 s0 r = some ((), r) := by
  unfold R_connect_J128 lq
  dsimp only
  rw [x_rI, hf, if_neg (nn_ne0 (by omega) h1), mc178_f hf h1 h2]
theorem mc112_f (hf : r.1 79 = nn f) (h1 : f ≠ 0) (h2 : f < 256) : R_connect_J112 r = some ((), r) := by
  unfold R_connect_J112
  rw [e_bd (qm_one_f hf h1 h2), if_pos (by decide), mc128_f hf h1 h2]
theorem mc88_f (hf : r.1 79 = nn f) (h1 : f ≠ 0) (h2 : f < 256) : R_connect_J88 r = some ((), r) := by
  unfold R_connect_J88
  rw [e_bd (qm_one_f hf h1 h2), x_rI, hf, if_neg (nn_ne0 (by omega) h1), mc112_f hf h1 h2]
theorem mc327_f {l2 l3 l4 l5 : Int32} (hf : r.1 79 = nn f) (h1 : f ≠ 0) (h2 : f < 256) : R_connect_J327 l2 l3 l4 l5 r = some ((), r) := by
  unfold R_connect_J327
  rw [x_rI, hf, if_neg (nn_ne0 (by omega) h1)]
  rfl
theorem mc723_f {l2 l3 l4 l5 l8 l12 l13 l14 l15 l16 l17 : Int32} {l6 l9 : Int64} (hf : r.1 79 = nn f) (h1 : f ≠ 0) (h2 : f < 256) : R_connect_J723 l2 l3 l4 l5 l6 l8 l9 l12 l13 l14 l15 l16 l17 r = some ((), r) := by
  unfold R_connect_J723
  rw [x_rI, hf, if_neg (nn_ne0 (by omega) h1)]
  rfl
theorem mc683_f {l2 l3 l4 l5 l8 l11 l12 l13 l14 l15 l16 l17 : Int32} {l6 l9 : Int64} (hf : r.1 79 = nn f) (h1 : f ≠ 0) (h2 : f < 256) : R_connect_J683 l2 l3 l4 l5 l6 l8 l9 l11 l12 l13 l14 l15 l16 l17 r = some ((), r) := by
  unfold R_connect_J683 R_connect_J702
  rw [x_rI, hf, if_neg (nn_ne0 (by omega) h1), x_rI, hf, if_neg (nn_ne0 (by omega) h1), mc723_f hf h1 h2]
theorem mc658_f {l2 l3 l4 l5 l8 l11 l12 l13 l14 l15 l16 l17 : Int32} {l6 l9 : Int64} (hf : r.1 79 = nn f) (h1 : f ≠ 0) (h2 : f < 256) : R_connect_J658 l2 l3 l4 l5 l6 l8 l9 l11 l12 l13 l14 l15 l16 l17 r = some ((), r) := by
  unfold R_connect_J658
  rw [x_rI, hf, if_neg (nn_ne0 (by omega) h1), mc683_f hf h1 h2]
theorem mc640_f {l2 l3 l4 l5 l8 l11 l12 l13 l14 l15 l16 l17 : Int32} {l6 l9 : Int64} (hf : r.1 79 = nn f) (h1 : f ≠ 0) (h2 : f < 256) : R_connect_J640 l2 l3 l4 l5 l6 l8 l9 l11 l12 l13 l14 l15 l16 l17 r = some ((), r) := by
  unfold R_connect_J640
  by_cases z : (l2 &&& (64 : Int32)) = 0
  · rw [if_pos z, mc658_f hf h1 h2]
  · rw [if_neg z, x_rI, hf, if_neg (nn_ne0 (by omega) h1), mc658_f hf h1 h2]
theorem mc621_f {l2 l3 l4 l5 l8 l11 l12 l13 l14 l15 l16 l17 : Int32} {l6 l9 : Int64} (hf : r.1 79 = nn f) (h1 : f ≠ 0) (h2 : f < 256) : R_connect_J621 l2 l3 l4 l5 l6 l8 l9 l11 l12 l13 l14 l15 l16 l17 r = some ((), r) := by
  unfold R_connect_J621
  by_cases z : (l2 &&& (128 : Int32)) = 0
  · rw [if_pos z, mc640_f hf h1 h2]
  · rw [if_neg z, x_rI, hf, if_neg (nn_ne0 (by omega) h1), mc640_f hf h1 h2]
theorem mc598_f {l2 l3 l4 l5 l8 l11 l12 l13 l14 l15 : Int32} {l6 l9 : Int64} (hf : r.1 79 = nn f) (h1 : f ≠ 0) (h2 : f < 256) : R_connect_J598 l2 l3 l4 l5 l6 l8 l9 l11 l12 l13 l14 l15 r = some ((), r) := by
  unfold R_connect_J598 R_connect_J609
  rw [x_rI, hf, if_neg (nn_ne0 (by omega) h1), x_rI, x_rI, mc621_f hf h1 h2]
theorem mc547_f {l2 l3 l4 l5 l8 l11 l12 l13 : Int32} {l6 l9 : Int64} (hf : r.1 79 = nn f) (h1 : f ≠ 0) (h2 : f < 256) : R_connect_J547 l2 l3 l4 l5 l6 l8 l9 l11 l12 l13 r = some ((), r) := by
  unfold R_connect_J547 R_connect_J558
  rw [x_rI, hf, if_neg (nn_ne0 (by omega) h1), x_rI, x_rI, x_rI, hf, if_neg (nn_ne0 (by omega) h1), mc598_f hf h1 h2]
end GRF
