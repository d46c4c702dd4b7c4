/-! ===== aliases of topics ===== -/
/-- bytes are laid at place l of row K, nothing else changes -/
def Cpk (K : Nat) (r r' : RS) (l : Nat) (ys : List Nat) : Prop := (r'.1 = r.1 ∧ r'.2.2 = r.2.2 ∧ ∀ k, k ≠ K → r'.2.1 k = r.2.1 k) ∧ Mg (r'.2.1 K) l ys ∧ ∀ q, (q < l ∨ l + ys.length ≤ q) → r'.2.1 K q = r.2.1 K q
section ALI
variable {x i s p n K l al av o tA tB : Nat} {e0 : Int32} {h h' : Hp} {r r' r1 : RS} {bs ys TP : List Nat}
theorem Cpk.ro (c : Cpk K r r1 l ys) : Ro [K] r r1 := fun k hk => ⟨by rw [c.1.1], c.1.2.2 k (fun z => hk (List.mem_singleton.mpr z)), by rw [c.1.2.1]⟩
theorem Cpk.step {v : Nat} (c : Cpk K r r1 l ys) : Cpk K r (sA r1 K (l + ys.length) (sb v)) l (ys ++ [v]) := by
  refine ⟨⟨c.1.1, c.1.2.1, fun k hk => ?_⟩, ?_, fun q hq => ?_⟩
  · rw [sA_o hk]
    exact c.1.2.2 k hk
  · refine Mg.app (Mg.of c.2.1 (fun q hq => ?_)) (Mg.one ?_)
    · rw [sA_2, if_neg (by omega)]
    · rw [sA_2, if_pos ⟨rfl, rfl⟩]
  · rw [List.length_append, List.length_singleton] at hq
    rw [sA_2, if_neg (by omega)]
    exact c.2.2 q (by omega)
theorem Cpk.nil : Cpk K r r l [] := ⟨⟨rfl, rfl, fun _ _ => rfl⟩, Mg.nil, fun _ _ => rfl⟩
theorem Cpk.ho (c : Cpk K r r1 l ys) (hP : ∀ q, l ≤ q → q < l + ys.length → Pm s i K q) : Ho s i r r1 := by
  refine ⟨⟨by rw [c.1.1], by rw [c.1.1]⟩, fun k q hq => ⟨?_, by rw [c.1.2.1]⟩⟩
  by_cases z : k = K
  · subst z
    refine c.2.2 q ?_
    rcases Nat.lt_or_ge q l with y | y
    · exact Or.inl y
    · rcases Nat.lt_or_ge q (l + ys.length) with y2 | y2
      · exact absurd (hP q y y2) hq
      · exact Or.inr y2
  · rw [c.1.2.2 k z]
theorem cp_loop {ρ : Type} {L : Nat → Int32 → RS → Option (ρ × RS)} {E : RS → Option (ρ × RS)} (hs : ∀ f q r1, q < ys.length → Cpk K r r1 l (ys.take q) → L (f + 1) (nn q) r1 = L f (nn (q + 1)) (sA r1 K (l + q) (sb (ys.getD q 0)))) (he : ∀ f r1, Cpk K r r1 l ys → L (f + 1) (nn ys.length) r1 = E r1) (hl : ys.length < 4000) : ∃ r', L fu (nn 0) r = E r' ∧ Cpk K r r' l ys := by
  have key : ∀ (c q f : Nat) (r1 : RS), q + c = ys.length → c < f → Cpk K r r1 l (ys.take q) → ∃ r', L f (nn q) r1 = E r' ∧ Cpk K r r' l ys := by
    intro c
    induction c with
    | zero =>
      intro q f r1 hq hf C
      obtain ⟨f', rfl⟩ : ∃ z, f = z + 1 := ⟨f - 1, by omega⟩
      have : q = ys.length := by omega
      subst this
      rw [List.take_length] at C
      exact ⟨r1, he f' r1 C, C⟩
    | succ c ih =>
      intro q f r1 hq hf C
      obtain ⟨f', rfl⟩ : ∃ z, f = z + 1 := ⟨f - 1, by omega⟩
      have hql : q < ys.length := by omega
      have lt : (ys.take q).length = q := by rw [List.length_take]; omega
      have C2 := C.step (v := ys.getD q 0)
      rw [← take_s hql, lt] at C2
      obtain ⟨r2, e1, e2⟩ := ih (q + 1) f' _ (by omega) (by omega) C2
      exact ⟨r2, by rw [hs f' q r1 hql C]; exact e1, e2⟩
  exact key ys.length 0 fu r (by omega) (by unfold fu; omega) (by rw [List.take_zero]; exact Cpk.nil)
theorem tpc_len (h : tpc ys = true) : 1 ≤ ys.length ∧ ys.length ≤ 64 := by
  unfold tpc at h
  rw [Bool.and_eq_true] at h
  exact of_decide_eq_true h.1
/-- a topic gets an alias -/
theorem Rel.ali (R : Rel x i 12 96 e0 h r) (h1o : r.2.1 1 i = 1) (hi : i < 8) (hal : al < 4) (W : Rw x h tA TP) (ht : tpc TP = true) (w : Ro [9, 10, 97, 98] r r') (wx : Ho 12 i r r') (e9 : ∀ q, r'.2.1 9 q = if q = 4 * i + al then nn TP.length else r.2.1 9 q) (e10 : Mg (r'.2.1 10) (64 * (4 * i + al)) TP) (o10 : ∀ q, (q < 64 * (4 * i + al) ∨ 64 * (4 * i + al) + TP.length ≤ q) → r'.2.1 10 q = r.2.1 10 q) :
    Rel x i 12 96 e0 (sar h (cA x i + 3) (va_up (har h (cA x i + 3)) (al + 1) (some tA))) r' := by
  have T := R.st
  have hx := T.1
  have hcl := T.cl hi
  have tl := tpc_len ht
  have ca : cA x i = x + 2 + 4 * i := rfl
  obtain ⟨h1, eh1⟩ : ∃ z, z = sar h (cA x i + 3) (va_up (har h (cA x i + 3)) (al + 1) (some tA)) := ⟨_, rfl⟩
  rw [← eh1]
  have p : Fm x [] (fun a => a = cA x i + 3) h h1 := by
    rw [eh1]
    exact Fm.rf.ar (Or.inl rfl) (by omega)
  have px : Hx x (hnx h) i h h1 := by
    rw [eh1]
    exact Hx.rf.ar (Or.inl (Or.inr (Or.inl ⟨hi, by omega, Nat.le_refl _⟩))) (by omega)
  obtain ⟨c1, c2, c3, _⟩ := R.2.2.2.1 i hi
  refine R.cnn px wx (p.2.2 _ (by omega) (by omega)).2.1 (R.2.1.fm T p w (by decide) (by decide)) (by rw [w.gI (by decide), sSum.fm T p (by decide)]; exact R.2.2.1) (w.gI (by decide)) (fun i' _ h1 _ => h1) (fun _ s' _ z => by rw [w.gA (by decide)]; exact z) (fun d hd => ⟨p.gr (by decide) hd, fun f hf => p.gi (by exact List.not_mem_nil) hd⟩) (fun u hu f hf => p.gi (by exact List.not_mem_nil) hu) (fun _ => ⟨c1.fm T hi p w (by decide) (by omega) (by decide), c2.fm T hi p w (by decide) (by omega) (by decide), fun k hk => ?_, fun z => absurd rfl z⟩)
  have ea : ∀ k, har h1 (cA x i + 3) k = if k = al + 1 then some tA else har h (cA x i + 3) k := fun k => by
    rw [eh1, har_sar, if_pos rfl]
    rfl
  by_cases z : k = al
  · subst z
    exact Or.inr ⟨tA, TP, by rw [ea, if_pos rfl], W.stp p.1, ht, by rw [e9, if_pos rfl], e10, by rw [w.gA (by decide)]; exact h1o⟩
  · rw [ea, if_neg (by omega), e9, if_neg (by omega)]
    rcases c3 k hk with ⟨a1, a2⟩ | ⟨a, bs, a1, a2, a3, a4, a5, a6⟩
    · exact Or.inl ⟨a1, a2⟩
    · have tl2 := tpc_len a3
      exact Or.inr ⟨a, bs, a1, a2.stp p.1, a3, a4, a5.of (fun q hq => o10 _ (by omega)), by rw [w.gA (by decide)]; exact h1o⟩
/-- the model lays the topic ready -/
theorem qm_top {ke : Int32 → Int32 → Int32 → Int32 → Int32 → RS → Option (Unit × RS)} {l1 l2 l3 l4 l5 l6 l7 : Int32} (hn : r.1 98 = nn TP.length) (hl : TP.length ≤ 64) (B : By TP) (hsrc : (l5 = 0 ∧ al < 32 ∧ l7 = nn al ∧ Mg (r.2.1 10) (64 * al) TP) ∨ (l5 ≠ 0 ∧ l4 = nn o ∧ o + TP.length ≤ 3280 ∧ Mg (r.2.1 6) o TP)) :
    ∃ r', R_publish_L332 ke fu l1 l2 l3 l4 l5 l6 l7 0 r = ke l1 l2 l3 l6 l7 r' ∧ Cpk 97 r r' 0 TP := by
  refine cp_loop (L := fun f v => R_publish_L332 ke f l1 l2 l3 l4 l5 l6 l7 v) (E := ke l1 l2 l3 l6 l7) (fun f q r1 hq C => ?_) (fun f r1 C => ?_) (by omega)
  · have b256 := B.at q
    show R_publish_B332 _ ke l1 l2 l3 l4 l5 l6 l7 (nn q) r1 = _
    unfold R_publish_B332 R_publish_J378
    rw [x_rI, C.ro.gI (by decide), hn, if_neg (by rw [nn_le (by omega) (by omega)]; omega), Nat.zero_add]
    rcases hsrc with ⟨z1, z2, z3, z4⟩ | ⟨z1, z2, z3, z4⟩
    · rw [if_pos z1, z3, l_64, nn_mul, nn_add, x_rA mL_10 (by omega) (by omega), C.ro.gA (by decide), z4 q hq, x_wA mL_97 (by omega) (by omega), nar_sb b256, l_1, nn_add]
    · rw [if_neg z1, z2, nn_add, x_rA mL_6 (by omega) (by omega), C.ro.gA (by decide), z4 q hq, x_wA mL_97 (by omega) (by omega), nar_sb b256, l_1, nn_add]
  · show R_publish_B332 _ ke l1 l2 l3 l4 l5 l6 l7 (nn TP.length) r1 = _
    unfold R_publish_B332
    rw [x_rI, C.ro.gI (by decide), hn, if_pos (Int32.le_refl _)]
theorem qm_ali {ke : Int32 → Int32 → Int32 → Int32 → RS → Option (Unit × RS)} {l1 l2 l3 l6 : Int32} (hn : r.1 98 = nn TP.length) (hl : TP.length ≤ 64) (B : By TP) (hal : al < 32) (h97 : Mg (r.2.1 97) 0 TP) :
    ∃ r', R_publish_L404 ke fu l1 l2 l3 l6 (nn al) 0 r = ke l1 l2 l3 l6 r' ∧ Cpk 10 r r' (64 * al) TP := by
  refine cp_loop (L := fun f v => R_publish_L404 ke f l1 l2 l3 l6 (nn al) v) (E := ke l1 l2 l3 l6) (fun f q r1 hq C => ?_) (fun f r1 C => ?_) (by omega)
  · have b256 := B.at q
    have e97 := h97 q hq
    rw [Nat.zero_add] at e97
    show R_publish_B404 _ ke l1 l2 l3 l6 (nn al) (nn q) r1 = _
    unfold R_publish_B404
    rw [x_rI, C.ro.gI (by decide), hn, if_neg (by rw [nn_le (by omega) (by omega)]; omega), x_rA mL_97 (by omega) (by omega), C.ro.gA (by decide), e97, l_64, nn_mul, nn_add, x_wA mL_10 (by omega) (by omega), nar_sb b256, l_1, nn_add]
  · show R_publish_B404 _ ke l1 l2 l3 l6 (nn al) (nn TP.length) r1 = _
    unfold R_publish_B404
    rw [x_rI, C.ro.gI (by decide), hn, if_pos (Int32.le_refl _)]
/-- the topic that is meant: none, or one and the same for both -/
theorem topic_or {s0 l1 l2 l3 l6 : Int32} (R : Rel x i 12 96 e0 h r) (h1o : r.2.1 1 i = 1) (hi : i < 8) (W : Rw x h tA ys) (ho : o + ys.length ≤ 3280) (h6 : Mg (r.2.1 6) o ys) (hys : ys = [] ∨ tpc ys = true) (ha : (av = 0 ∧ s0 = -1) ∨ (1 ≤ av ∧ av ≤ 4 ∧ s0 = nn (4 * i + (av - 1)))) (h79 : r.1 79 = 0) :
    (C_X0_resolve (cA x i) (some tA) (nn av) h = some (none, h) ∧ R_publish_J278 l1 l2 l3 (nn o) (nn ys.length) l6 s0 r = some ((), sI r 79 (nn 130))) ∨
    ∃ tB TP h' r', C_X0_resolve (cA x i) (some tA) (nn av) h = some (some tB, h') ∧ R_publish_J278 l1 l2 l3 (nn o) (nn ys.length) l6 s0 r = R_publish_J439 l1 l2 l3 l6 r' ∧ Rel x i 12 96 e0 h' r' ∧ Fm x [] (fun a => a = cA x i + 3) h h' ∧ Ro [9, 10, 97, 98] r r' ∧ hcs h' = hcs h ∧ hnx h' = hnx h ∧ Rw x h' tB TP ∧ tpc TP = true ∧ r'.1 98 = nn TP.length ∧ Mg (r'.2.1 97) 0 TP := by
  have T := R.st
  have hx := T.1
  have hcl := T.cl hi
  have ca : cA x i = x + 2 + 4 * i := rfl
  obtain ⟨t1, t2, t3, t4, t5, t6, t7, t8, t9, t10, t11, t12⟩ := T.2.2.2.2.2.2 i hi
  have e211 : hfr h (100 * 2 + 11) (cA x i) = some (cA x i + 3) := t10
  have ec := qc_count W
  have yl : ys.length ≤ 64 := by
    rcases hys with z | z
    · rw [z]; exact Nat.zero_le _
    · exact (tpc_len z).2
  -- the class
  have cl0 : C_X0_resolve (cA x i) (some tA) (nn 0) h = some (if ys.length = 0 then none else some tA, h) := by
    unfold C_X0_resolve C_X0_resolve_J13 C_X0_resolve_J14 C_X0_resolve_J48
    rw [if_pos (by decide), e_Cv (c := 9) W.1, e_bd ec]
    by_cases z : ys.length = 0
    · rw [z, if_pos rfl, if_pos rfl, if_pos rfl]
      rfl
    · rw [if_neg (nn_ne0 (by omega) z), if_pos rfl, if_neg z]
      rfl
  have cl1 : 1 ≤ av → av ≤ 4 → C_X0_resolve (cA x i) (some tA) (nn av) h = if ys.length = 0 then some (har h (cA x i + 3) av, h) else some (some tA, sar h (cA x i + 3) (va_up (har h (cA x i + 3)) av (some tA))) := fun g1 g4 => by
    unfold C_X0_resolve C_X0_resolve_J14 C_X0_resolve_J48
    rw [if_neg (by rw [l_0, nn_le (by omega) (by omega)]; omega), if_neg (by rw [l_4, nn_lt (by omega) (by omega)]; omega), e_Cv (c := 9) W.1, e_bd ec]
    by_cases z : ys.length = 0
    · rw [z, if_pos rfl, if_pos (show nn 0 = (0 : Int32) from rfl), if_neg (by decide), e_gR (c := 2) t2, e211, e_Ar (t := 8) t11 (nn_inr (by omega) (by omega)), nn_N (by omega)]
      rfl
    · rw [if_neg (nn_ne0 (by omega) z), if_neg (by decide), if_neg z, e_gR (c := 2) t2, e211, e_Wr (t := 8) (c := 9) t11 (nn_inr (by omega) (by omega)) (by show (hkd h tA == 9 + 1) = true; rw [W.1]; rfl), nn_N (by omega)]
      rfl
  -- the model, once the topic is known
  have m326 : ∀ (al : Nat) (TP : List Nat) (s1 l7 : Int32), s1 = nn TP.length → TP.length ≤ 64 → By TP → (((nn ys.length : Int32) = 0 ∧ al < 32 ∧ l7 = nn al ∧ Mg (r.2.1 10) (64 * al) TP) ∨ ((nn ys.length : Int32) ≠ 0 ∧ nn o = nn o ∧ o + TP.length ≤ 3280 ∧ Mg (r.2.1 6) o TP)) → ∃ r1, R_publish_J326 l1 l2 l3 (nn o) (nn ys.length) l6 l7 s1 r = R_publish_J385 l1 l2 l3 l6 l7 r1 ∧ Cpk 97 (sI r 98 s1) r1 0 TP := by
    intro al TP s1 l7 e1 hl B hsrc
    obtain ⟨r1, e2, C⟩ := qm_top (r := sI r 98 s1) (TP := TP) (al := al) (o := o) (ke := fun l1 l2 l3 l6 l7 => R_publish_J385 l1 l2 l3 l6 l7) (l1 := l1) (l2 := l2) (l3 := l3) (l4 := nn o) (l5 := nn ys.length) (l6 := l6) (l7 := l7) (by rw [sI_1, if_pos rfl, e1]) hl B (by rw [sI_2]; exact hsrc)
    exact ⟨r1, e2, C⟩
  -- an alias is laid
  have m385 : ∀ (al : Nat) (TP : List Nat) (r1 : RS), al < 32 → TP.length ≤ 64 → By TP → Cpk 97 (sI r 98 (nn TP.length)) r1 0 TP → ∃ r2, R_publish_J385 l1 l2 l3 l6 (nn al) r1 = R_publish_J439 l1 l2 l3 l6 r2 ∧ Cpk 10 (sA r1 9 al (nn TP.length)) r2 (64 * al) TP := by
    intro al TP r1 hal hl B C
    have e98 : r1.1 98 = nn TP.length := by rw [C.ro.gI (by decide), sI_1, if_pos rfl]
    obtain ⟨r2, e2, C2⟩ := qm_ali (r := sA r1 9 al (nn TP.length)) (TP := TP) (al := al) (ke := fun l1 l2 l3 l6 => R_publish_J439 l1 l2 l3 l6) (l1 := l1) (l2 := l2) (l3 := l3) (l6 := l6) (by rw [sA_1]; exact e98) hl B hal (by rw [sA_o (by decide)]; exact C.2.1)
    refine ⟨r2, ?_, C2⟩
    unfold R_publish_J385
    rw [if_neg (nn_nlt0 (by omega)), x_rI, e98, x_wA mL_9 (by omega) (by omega)]
    exact e2
  rcases ha with ⟨a0, a1⟩ | ⟨a1, a4, as0⟩
  · -- no alias
    subst a0
    subst a1
    by_cases z : ys.length = 0
    · refine Or.inl ⟨by rw [cl0, if_pos z], ?_⟩
      unfold R_publish_J278 R_publish_J300
      rw [if_pos (by rw [z]; rfl), if_pos (by decide), e_bd (qm_fails h79)]
      rfl
    · have tp : tpc ys = true := by
        rcases hys with y | y
        · rw [y] at z
          exact absurd rfl z
        · exact y
      obtain ⟨r1, e1, C⟩ := m326 0 ys (nn ys.length) (-1) rfl yl W.2.2.1 (Or.inr ⟨nn_ne0 (by omega) z, rfl, ho, h6⟩)
      refine Or.inr ⟨tA, ys, h, r1, by rw [cl0, if_neg z], ?_, ?_, Fm.rf, ?_, rfl, rfl, W, tp, ?_, C.2.1⟩
      · unfold R_publish_J278 R_publish_J308
        rw [if_neg (nn_ne0 (by omega) z), if_neg (nn_ne0 (by omega) z), e1]
        unfold R_publish_J385
        rw [if_pos (by decide)]
      · obtain ⟨f, bs, Wr⟩ := R.wr
        exact R.scr Fm.rf ((Ro.rf.i (k := 98) (S := scS) (by decide)).tr (C.ro.sub (by decide))) ⟨f, bs, Wr⟩
      · exact (Ro.rf.i (k := 98) (S := [9, 10, 97, 98]) (by decide)).tr (C.ro.sub (by decide))
      · rw [C.ro.gI (by decide), sI_1, if_pos rfl]
  · subst as0
    obtain ⟨k, hk⟩ : ∃ k, k = av - 1 := ⟨_, rfl⟩
    rw [← hk]
    have hk4 : k < 4 := by omega
    have hav : av = k + 1 := by omega
    subst hav
    have cl1' := cl1 a1 a4
    by_cases z : ys.length = 0
    · rw [if_pos z] at cl1'
      have mz : R_publish_J278 l1 l2 l3 (nn o) (nn ys.length) l6 (nn (4 * i + k)) r = (if r.2.1 9 (4 * i + k) = 0 then R_publish_J300 else R_publish_J308 l1 l2 l3 (nn o) (nn ys.length) l6 (nn (4 * i + k))) r := by
        unfold R_publish_J278
        rw [if_pos (by rw [z]; rfl), if_neg (nn_nlt0 (by omega)), x_rA mL_9 (by omega) (by omega)]
      rcases (R.2.2.2.1 i hi).2.2.1 k hk4 with ⟨b1, b2⟩ | ⟨a, TP, b1, b2, b3, b4, b5, b6⟩
      · refine Or.inl ⟨by rw [cl1', b1], ?_⟩
        unfold R_publish_J300 at mz
        rw [mz, if_pos b2, e_bd (qm_fails h79)]
        rfl
      · have tl := tpc_len b3
        obtain ⟨r1, e1, C⟩ := m326 (4 * i + k) TP (r.2.1 9 (4 * i + k)) (nn (4 * i + k)) b4 tl.2 b2.2.2.1 (Or.inl ⟨by rw [z]; rfl, by omega, rfl, b5⟩)
        rw [b4] at C
        obtain ⟨r2, e2, C2⟩ := m385 (4 * i + k) TP r1 (by omega) tl.2 b2.2.2.1 C
        have wA : Ro [9, 10, 97, 98] r r2 := ((Ro.rf.i (k := 98) (S := [9, 10, 97, 98]) (by decide)).tr (C.ro.sub (by decide))).tr ((Ro.rf.a (k := 9) (S := [9, 10, 97, 98]) (by decide)).tr (C2.ro.sub (by decide)))
        have wx : Ho 12 i r r2 := by
          refine ((Ho.rf.ii (k := 98) (by decide) (by decide)).tr (C.ho (fun q _ _ => Or.inr (Or.inr (Or.inr (Or.inr (Or.inr (by omega)))))))).tr ((Ho.rf.a (Or.inl ⟨by omega, by omega, ?_⟩)).tr (C2.ho (fun q q1 q2 => Or.inl ⟨by omega, by omega, ?_⟩)))
          · unfold oc
            rw [if_neg (by omega), if_neg (by omega), if_pos rfl]
            omega
          · unfold oc
            rw [if_neg (by omega), if_neg (by omega), if_neg (by omega), if_pos rfl]
            omega
        have r110 : r1.2.1 10 = r.2.1 10 := by rw [C.ro.gA (by decide), sI_2]
        have r19 : r1.2.1 9 = r.2.1 9 := by rw [C.ro.gA (by decide), sI_2]
        have e9' : ∀ q, r2.2.1 9 q = if q = 4 * i + k then nn TP.length else r.2.1 9 q := fun q => by
          rw [C2.ro.gA (by decide), sA_2, r19]
          by_cases y : q = 4 * i + k
          · rw [if_pos ⟨rfl, y⟩, if_pos y]
          · rw [if_neg (fun u => y u.2), if_neg y]
        have Ra := R.ali (al := k) (tA := a) h1o hi hk4 b2 b3 wA wx e9' C2.2.1 (fun q hq => by rw [C2.2.2 q hq, sA_o (by decide), r110])
        have hsame : sar h (cA x i + 3) (va_up (har h (cA x i + 3)) (k + 1) (some a)) = h := by
          have : va_up (har h (cA x i + 3)) (k + 1) (some a) = har h (cA x i + 3) := by
            funext q
            show (if q = k + 1 then some a else har h (cA x i + 3) q) = _
            by_cases y : q = k + 1
            · rw [if_pos y, y, b1]
            · rw [if_neg y]
          rw [this, sar_self]
        rw [hsame] at Ra
        refine Or.inr ⟨a, TP, h, r2, by rw [cl1', b1], ?_, Ra, Fm.rf, wA, rfl, rfl, b2, b3, ?_, ?_⟩
        · rw [mz, if_neg (by rw [b4]; exact nn_ne0 (by omega) (by omega))]
          unfold R_publish_J308
          rw [if_pos (by rw [z]; rfl), x_rA mL_9 (by omega) (by omega), e1, e2]
        · rw [C2.ro.gI (by decide), sA_1, C.ro.gI (by decide), sI_1, if_pos rfl]
        · rw [C2.ro.gA (by decide), sA_o (by decide)]
          exact C.2.1
    · rw [if_neg z] at cl1'
      have tp : tpc ys = true := by
        rcases hys with y | y
        · rw [y] at z
          exact absurd rfl z
        · exact y
      obtain ⟨r1, e1, C⟩ := m326 0 ys (nn ys.length) (nn (4 * i + k)) rfl yl W.2.2.1 (Or.inr ⟨nn_ne0 (by omega) z, rfl, ho, h6⟩)
      obtain ⟨r2, e2, C2⟩ := m385 (4 * i + k) ys r1 (by omega) yl W.2.2.1 C
      have wA : Ro [9, 10, 97, 98] r r2 := ((Ro.rf.i (k := 98) (S := [9, 10, 97, 98]) (by decide)).tr (C.ro.sub (by decide))).tr ((Ro.rf.a (k := 9) (S := [9, 10, 97, 98]) (by decide)).tr (C2.ro.sub (by decide)))
      have wx : Ho 12 i r r2 := by
        refine ((Ho.rf.ii (k := 98) (by decide) (by decide)).tr (C.ho (fun q _ _ => Or.inr (Or.inr (Or.inr (Or.inr (Or.inr (by omega)))))))).tr ((Ho.rf.a (Or.inl ⟨by omega, by omega, ?_⟩)).tr (C2.ho (fun q q1 q2 => Or.inl ⟨by omega, by omega, ?_⟩)))
        · unfold oc
          rw [if_neg (by omega), if_neg (by omega), if_pos rfl]
          omega
        · unfold oc
          rw [if_neg (by omega), if_neg (by omega), if_neg (by omega), if_pos rfl]
          omega
      have r110 : r1.2.1 10 = r.2.1 10 := by rw [C.ro.gA (by decide), sI_2]
      have r19 : r1.2.1 9 = r.2.1 9 := by rw [C.ro.gA (by decide), sI_2]
      have e9' : ∀ q, r2.2.1 9 q = if q = 4 * i + k then nn ys.length else r.2.1 9 q := fun q => by
        rw [C2.ro.gA (by decide), sA_2, r19]
        by_cases y : q = 4 * i + k
        · rw [if_pos ⟨rfl, y⟩, if_pos y]
        · rw [if_neg (fun u => y u.2), if_neg y]
      have Ra := R.ali (al := k) (tA := tA) h1o hi hk4 W tp wA wx e9' C2.2.1 (fun q hq => by rw [C2.2.2 q hq, sA_o (by decide), r110])
      have p : Fm x [] (fun a => a = cA x i + 3) h (sar h (cA x i + 3) (va_up (har h (cA x i + 3)) (k + 1) (some tA))) := Fm.rf.ar (Or.inl rfl) (by omega)
      refine Or.inr ⟨tA, ys, _, r2, cl1', ?_, Ra, p, wA, rfl, rfl, W.stp p.1, tp, ?_, ?_⟩
      · unfold R_publish_J278 R_publish_J308
        rw [if_neg (nn_ne0 (by omega) z), if_neg (nn_ne0 (by omega) z), e1, e2]
      · rw [C2.ro.gI (by decide), sA_1, C.ro.gI (by decide), sI_1, if_pos rfl]
      · rw [C2.ro.gA (by decide), sA_o (by decide)]
        exact C.2.1
end ALI
