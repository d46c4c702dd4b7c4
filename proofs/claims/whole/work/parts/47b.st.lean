theorem tb_31 : Cond.classLink "TopicBrokerLaw" 8 "TopicBroker" ∈ TB := TB_t (tq_1 (List.mem_of_getElem? (i := 31) rfl)) rfl
theorem tb_32 : Cond.instantiable "TopicBroker" 16 ∈ TB := TB_t (tq_1 (List.mem_of_getElem? (i := 32) rfl)) rfl
theorem tb_33 : Cond.methodLink "TopicBrokerLaw" 70 ⟨"TopicBroker", "<init>", "()V"⟩ ∈ TB := TB_t (tq_1 (List.mem_of_getElem? (i := 33) rfl)) rfl
theorem tb_34 : Cond.instanceMethod ⟨"TopicBroker", "<init>", "()V"⟩ ∈ TB := TB_t (tq_1 (List.mem_of_getElem? (i := 34) rfl)) rfl
theorem tb_35 : Cond.code ⟨"TopicBroker", "<init>", "()V"⟩ prog_1_method_1_code 2 none ∈ TB := TB_t (tq_1 (List.mem_of_getElem? (i := 35) rfl)) rfl
theorem tb_191 : Cond.arrayClass .long ∈ TB := TB_t (tq_1 (List.mem_of_getElem? (i := 191) rfl)) rfl
theorem tb_1563 : Cond.classLink "TopicBrokerLaw" 71 "TopicBrokerModel" ∈ TB := TB_t (tq_7 (List.mem_of_getElem? (i := 123) rfl)) rfl
theorem tb_1564 : Cond.instantiable "TopicBrokerModel" 99 ∈ TB := TB_t (tq_7 (List.mem_of_getElem? (i := 124) rfl)) rfl
theorem tb_1565 : Cond.methodLink "TopicBrokerLaw" 73 ⟨"TopicBrokerModel", "<init>", "()V"⟩ ∈ TB := TB_t (tq_7 (List.mem_of_getElem? (i := 125) rfl)) rfl
theorem tb_1566 : Cond.instanceMethod ⟨"TopicBrokerModel", "<init>", "()V"⟩ ∈ TB := TB_t (tq_7 (List.mem_of_getElem? (i := 126) rfl)) rfl
theorem tb_1567 : Cond.code ⟨"TopicBrokerModel", "<init>", "()V"⟩ prog_14_method_2_code 2 none ∈ TB := TB_t (tq_7 (List.mem_of_getElem? (i := 127) rfl)) rfl
theorem cc_X11_init : Cond.code yX11_init cX11_init 2 none ∈ TB := tb_35
theorem cn_X11_init : Cond.instanceMethod yX11_init ∈ TB := tb_34
theorem cd_X11_init : yX11_init.cls ≠ "java/lang/invoke/MethodHandle" ∧ yX11_init.cls ≠ "java/lang/invoke/VarHandle" ∧ (parseMethodDescriptor yX11_init.desc).map (fun d => d.parameters.length) = some 0 := by decide +kernel
theorem cc_X12_init : Cond.code yX12_init cX12_init 2 none ∈ TB := tb_1567
theorem cn_X12_init : Cond.instanceMethod yX12_init ∈ TB := tb_1566
theorem cd_X12_init : yX12_init.cls ≠ "java/lang/invoke/MethodHandle" ∧ yX12_init.cls ≠ "java/lang/invoke/VarHandle" ∧ (parseMethodDescriptor yX12_init.desc).map (fun d => d.parameters.length) = some 0 := by decide +kernel
theorem dfX11 : ∀ k, k < 16 → defaultValue (tyX11 k) = if fty 13 k = 1 then Value.long 0 else if fty 13 k = 2 then Value.null else Value.int 0 := by decide +kernel
theorem dfX12 : ∀ k, k < 99 → defaultValue (tyX12 k) = if fty 14 k = 1 then Value.long 0 else if fty 14 k = 2 then Value.null else Value.int 0 := by decide +kernel
/-! ===== the model's state behind its constructor ===== -/
def rs0 : RS := (fun _ => 0, fun k _ => if k = 7 then -1 else 0, fun _ _ => 0)
def okM (m0 : Nat) (h : Hp) : Prop := hkd h m0 = 15 ∧ m0 + 77 < hnx h ∧ (∀ k, k < 99 → mK k = 0 → hfi h (1400 + k) m0 = 0) ∧ ∀ k, k < 99 → mK k ≠ 0 → hfr h (1400 + k) m0 = some (m0 + mO k) ∧ hkd h (m0 + mO k) = 101 + (mK k - 1) ∧ hln h (m0 + mO k) = mL k ∧ (mK k = 4 → ∀ j, j < mL k → hal h (m0 + mO k) j = 0) ∧ (mK k ≠ 4 → ∀ j, j < mL k → hai h (m0 + mO k) j = rs0.2.1 k j)
def clr (m0 : Nat) (h : Hp) : Hp := (h.1, fun a => if m0 ≤ a ∧ a ≤ m0 + 77 then 0 else h.2.1 a, h.2.2)
theorem arrV_ext {c : ClassId} {n : Nat} {f g : Nat → Value} (h : ∀ j, j < n → f j = g j) : arrV c n f = arrV c n g := by
  unfold arrV
  have e : (fun j : Fin n => f j.val) = fun j : Fin n => g j.val := funext fun j => h j.val j.isLt
  rw [e]
theorem m_kinds : ∀ k, k < 99 → (mK k = 0 → fty 14 k ≠ 1 ∧ fty 14 k ≠ 2) ∧ (mK k ≠ 0 → fty 14 k = 2 ∧ mK k ≤ 4) := by decide +kernel
theorem Rc.toR {w w2 : Wd} {h : Hp} {H : Heap} {m0 : Nat} (e1 : w2.1 = w.1) (e2 : w2.2.1 = w.2.1) (e3 : w2.2.2.2.2.2 = m0) (hR : Rc w h H) (hM : okM m0 h) : Rr (wR w2) rs0 H := by
  obtain ⟨k1, -, k3, k4⟩ := hM
  subst e3
  refine ⟨?_, fun k hk hm => ?_, fun q z1 z2 => ⟨z1, z2⟩⟩
  · obtain ⟨r, q1, q2⟩ := (hR.2.2.2 w2.2.2.2.2.2).1 14 (by decide) k1
    cases q1
    show t_OB w2.2.2.2.2.2 (w2.1.1 14) 99 (w2.1.2 14) H (mV w2.2.2.2.2.2 rs0)
    rw [e1]
    refine t_OB.to q2 (fun k hk => ?_)
    have z := m_kinds k hk
    unfold fV mV
    by_cases hz : mK k = 0
    · rw [if_neg (z.1 hz).1, if_neg (z.1 hz).2, if_pos hz, k3 k hk hz]
      rfl
    · rw [(z.2 hz).1, if_neg hz, (k4 k hk hz).1]
      rfl
  · obtain ⟨-, q2, q3, q4, q5⟩ := k4 k hk hm
    have z := (hR.2.2.2 (w2.2.2.2.2.2 + mO k)).2 (mK k - 1) q2
    show H[w2.2.2.2.2.2 + mO k]? = some (mA w2.2.1 rs0 k)
    rw [z, e2]
    unfold aV mA
    rw [q3]
    by_cases h4 : mK k = 4
    · rw [if_pos h4, if_pos (by omega)]
      exact congrArg some (arrV_ext fun j hj => by rw [q4 h4 j hj]; rfl)
    · have z4 := (m_kinds k hk).2 hm
      rw [if_neg h4, if_neg (by omega), if_pos (by omega)]
      exact congrArg some (arrV_ext fun j hj => by rw [q5 h4 j hj])
theorem Rc.toC {w w2 : Wd} {h : Hp} {H : Heap} {m0 : Nat} (e1 : w2.1 = w.1) (e2 : w2.2.1 = w.2.1) (e3 : w2.2.2.2.2.2 = m0) (e4 : w2.2.2.2.1 = w.2.2.2.1) (hR : Rc w h H) (hM : m0 + 77 < hnx h) : Rc (wC w2) (clr m0 h) H := by
  subst e3
  have hk : ∀ a, hkd (clr w2.2.2.2.2.2 h) a = if w2.2.2.2.2.2 ≤ a ∧ a ≤ w2.2.2.2.2.2 + 77 then 0 else hkd h a := fun a => rfl
  refine ⟨hR.1, fun a ha => ?_, fun q hq => ⟨by rw [e4]; exact hR.2.2.1 q hq, fun z => ?_⟩, fun a => ?_⟩
  · rw [hk] at ha
    by_cases z : w2.2.2.2.2.2 ≤ a ∧ a ≤ w2.2.2.2.2.2 + 77
    · rw [if_pos z] at ha; exact absurd rfl ha
    · rw [if_neg z] at ha
      have y := hR.2.1 a ha
      exact ⟨⟨by rw [e4]; exact y.1, z⟩, y.2⟩
  · have y : hnx h ≤ q := hq
    have x : q ≤ w2.2.2.2.2.2 + 77 := z.2
    omega
  · by_cases z : w2.2.2.2.2.2 ≤ a ∧ a ≤ w2.2.2.2.2.2 + 77
    · have e : hkd (clr w2.2.2.2.2.2 h) a = 0 := by rw [hk, if_pos z]
      exact ⟨fun c _ hc => absurd (e.symm.trans hc) (by omega), fun t ht => absurd (e.symm.trans ht) (by omega)⟩
    · have e : hkd (clr w2.2.2.2.2.2 h) a = hkd h a := by rw [hk, if_neg z]
      have y := hR.2.2.2 a
      refine ⟨fun c hc hk1 => ?_, fun t ht => ?_⟩
      · obtain ⟨r, q1, q2⟩ := y.1 c hc (e.symm.trans hk1)
        refine ⟨r, q1, ?_⟩
        show t_OB a (w2.1.1 c) r.2.2 (w2.1.2 c) H (fV h c a)
        rw [e1]; exact q2
      · rw [y.2 t (e.symm.trans ht)]
        show some (aV w h a t) = some (aV (wC w2) h a t)
        unfold aV
        show _ = some (if t = 3 then arrV (w2.2.1 3) _ _ else if t < 3 then arrV (w2.2.1 t) _ _ else arrV (w2.2.1 t) _ _)
        rw [e2]
/-! ===== from the entry to the loop ===== -/
noncomputable def SW (n0 L : Nat) (xs : Nat → Int32) (o1 o2 o3 : Option Nat) : Hp → Option (Unit × Hp) := fun h => match o2 with
  | none => none
  | some m0 => @ite _ (n0 ≤ m0 ∧ okM m0 h) (Classical.propDecidable _) (match LAW L xs o1 o3 (clr m0 h, rs0) with
    | some q => some ((), q.2.1)
    | none => none) none
noncomputable def START (n0 L : Nat) (xs : Nat → Int32) : Hp → Option (Unit × Hp) :=
  hNw 13 16 fun o1 =>
  hCi o1 (fun a => C_X11_init a) fun _ =>
  hNw 14 99 fun o2 =>
  hCi o2 (fun a => C_X12_init a) fun _ =>
  hNa 3 (1 : Int32) fun o3 =>
  SW n0 L xs o1 o2 o3
def h00 (n : Nat) : Hp := (n, fun _ => 0, fun _ => 0, fun _ _ => 0, fun _ _ => 0, fun _ _ => none, fun _ _ => 0, fun _ _ => 0, fun _ _ => none, 0, 0)
theorem whole_of {p : Program} {e : Env} {s : State} {m : MethodId} {below : List Frame} {meth : Method} {c : Code} (l : Launch) (hlt : l.stackTraces = false) {b L : Nat} {xs : Nat → Int32} (C0 : lw_At p s m meth c b L xs)
    (pure : ∃ σ', START s.heap.size L xs (h00 s.heap.size) = some ((), σ') ∧ (hcs σ').1 ≤ 601024 ∧ (hcs σ').2 ≤ 7293034) : W p l e room_1 s m #[Value.ref b] below meth c s.heap [] 0 0 (lw_Z below #[Value.ref b] s) (entryFrame m ([Value.ref b] : List Value).toArray 8) := by
  obtain ⟨hx, hb, hr, hml, hown, hts, hX, hbl, hlocks, hgv⟩ := id C0
  obtain ⟨D, hD⟩ := start_K hts
  obtain ⟨cA0, hA0⟩ := start_A hts
  obtain ⟨cA, hcA, hGE⟩ := start_GE l cA0 hts hgv
  have hTB : ∀ w ∈ TB, w.before #[Value.ref b] s = true := fun w h => hts w (List.mem_filter.mp h).1
  have hK : va_K D vwCl (tyl cA) s := ⟨hD, fun k q hk => by
    have hk2 : k < 10 := by
      have z := (List.getElem?_eq_some_iff.mp hk).1
      simpa [tyl] using z
    have e : q = (cA k, aty.getD k .int) := by
      simp [tyl, hk2] at hk
      exact hk.symm
    subst e
    have z := hA0 k hk2
    rw [← hcA k hk2] at z
    exact z⟩
  let A0 : Nat → Prop := fun q => s.heap.size ≤ q
  let w1 : Wd := wG D cA A0 l A0 0
  have hw1 : Wc w1 := wG.wc (fun q h => h)
  let g1 : Gm Hp Unit := (w1, p, e, room_1, s, m, #[Value.ref b], below, meth, c, Rc w1, hcs, (0, 0), fun _ _ => lw_Z below #[Value.ref b] s)
  have B : Bc g1 code 8 RL voV none 2048 84000 := ⟨⟨hx, hb, hml, hown, hTB, hlocks, ⟨hK, hGE⟩, hw1.1⟩, ⟨rfl, rfl⟩, rfl, rfl⟩
  have KSW : ∀ o1 o2 o3 : Option Nat, Sm g1 8 20 [(3, va_rf o3), (2, va_rf o2), (1, va_rf o1), (0, .ref b)] [] (SW s.heap.size L xs o1 o2 o3) := by
    intro o1 o2 o3
    cases o2 with
    | none => exact ⟨fun σ r σ' h => (by cases h), fun σ r σ' H locs ls h => (by cases h)⟩
    | some m0 =>
      let w2 : Wd := wG D cA A0 l A0 m0
      have K : ∀ hM : m0 + 77 < m0 + 78, (∀ q, inM w2 q → A0 q) → Sm ((w2, p, e, room_1, s, m, #[Value.ref b], below, meth, c, Rl w2, lcs, ((0, 0) : Nat × Nat), fun _ _ => lw_Z below #[Value.ref b] s) : Gm Lz Unit) 8 20 [(0, .ref b), (1, va_rf o1), (2, .ref m0), (3, va_rf o3)] [] (LAW L xs o1 o3) := by
        intro _ hin
        refine law_20 (g := (w2, p, e, room_1, s, m, #[Value.ref b], below, meth, c, Rl w2, lcs, ((0, 0) : Nat × Nat), fun _ _ => lw_Z below #[Value.ref b] s)) (b := b) ⟨⟨hx, hb, hml, hown, hTB, hlocks, ⟨hK, hGE⟩, wG.ok (fun q h => h)⟩, ⟨rfl, rfl⟩, rfl, rfl, ⟨wG.wc (A := fun q => A0 q ∧ ¬ inM w2 q) (fun q h => h.1), wG.wz hlt (A := fun q => A0 q ∧ ¬ inM w2 q) (fun q h => h.1), wG.wn⟩, ⟨wG.ok (A := inM w2) hin, hin⟩, ⟨hX, hbl, fun q h => h⟩, rfl, rfl, hr, rfl⟩ o1 o3
      have hsw : ∀ (σ : Hp) (r : Unit) (σ' : Hp), SW s.heap.size L xs o1 (some m0) o3 σ = some (r, σ') → (s.heap.size ≤ m0 ∧ okM m0 σ) ∧ ∃ q : Lz, LAW L xs o1 o3 (clr m0 σ, rs0) = some ((), q) ∧ q.1 = σ' := by
        intro σ r σ' h
        unfold SW at h
        dsimp only at h
        by_cases hM : s.heap.size ≤ m0 ∧ okM m0 σ
        · rw [if_pos hM] at h
          refine ⟨hM, ?_⟩
          cases hl : LAW L xs o1 o3 (clr m0 σ, rs0) with
          | none => rw [hl] at h; cases h
          | some q => rw [hl] at h; cases h; exact ⟨q.2, rfl, rfl⟩
        · rw [if_neg hM] at h; cases h
      have hin : s.heap.size ≤ m0 → ∀ q, inM w2 q → A0 q := fun h q hq => Nat.le_trans h hq.1
      refine ⟨fun σ r σ' h => ?_, fun σ r σ' H locs ls h hR hS hl b1 b2 b3 b4 => ?_⟩
      · obtain ⟨hM, q, h1, rfl⟩ := hsw σ r σ' h
        exact (K (by omega) (hin hM.1)).1 _ _ _ h1
      · obtain ⟨hM, q, h1, rfl⟩ := hsw σ r σ' h
        exact (K (by omega) (hin hM.1)).2 (clr m0 σ, rs0) () q H locs ls h1 ⟨Rc.toC (w := w1) rfl rfl rfl rfl hR hM.2.2.1, Rc.toR (w := w1) rfl rfl rfl hR hM.2, hin hM.1⟩ hS (lv_sub hl [3, 2, 1, 0] rfl) b1 b2 b3 b4
  have KST : Sm g1 8 0 [(0, .ref b)] [] (START s.heap.size L xs) := by
    unfold START
    refine hp_Nw B 13 rfl (by decide) inX11 tyX11 tyX11_ok dfX11 tb_31 tb_32 ci_X11 dL_law_0 (fun o1 => ?_)
    refine s_dup B.1 dL_law_3 (va_rf_cat _) ?_
    refine hp_cI (As := []) (st := [va_rf o1]) B (fun a => mC_X11_init hw1 a) cc_X11_init tb_33 cn_X11_init ci_X11 rfl cd_X11_init (by decide) rfl (by simp [va_rf_cat]) dL_law_4 (fun _ => ?_)
    refine s_rstore_n (i := 1) (lv' := [(1, va_rf o1), (0, .ref b)]) B.1 dL_law_7 rfl (by decide) (by simp [cat_r]) ?_
    refine hp_Nw B 14 rfl (by decide) inX12 tyX12 tyX12_ok dfX12 tb_1563 tb_1564 ci_X12 dL_law_8 (fun o2 => ?_)
    refine s_dup B.1 dL_law_11 (va_rf_cat _) ?_
    refine hp_cI (As := []) (st := [va_rf o2]) B (fun a => mC_X12_init hw1 a) cc_X12_init tb_1565 cn_X12_init ci_X12 rfl cd_X12_init (by decide) rfl (by simp [va_rf_cat]) dL_law_12 (fun _ => ?_)
    refine s_rstore_n (i := 2) (lv' := [(2, va_rf o2), (1, va_rf o1), (0, .ref b)]) B.1 dL_law_15 rfl (by decide) (by simp [cat_r, va_rf_cat]) ?_
    refine s_iconst (v := 1) B.1 dL_law_16 (by decide) ?_
    refine hp_Na (atype := .long) B 3 rfl (by decide) tb_191 (fun _ => rfl) (fun _ _ => rfl) rfl (by decide) dL_law_17 (fun o3 => ?_)
    refine s_rstore_n (i := 3) (lv' := [(3, va_rf o3), (2, va_rf o2), (1, va_rf o1), (0, .ref b)]) B.1 dL_law_19 rfl (by decide) (by simp [cat_r, va_rf_cat]) ?_
    exact KSW o1 o2 o3
  obtain ⟨σ', hP, hc1, hc2⟩ := pure
  have hl := lv_entry ([.ref b]) (n := 8) (Nat.le_of_ble_eq_true rfl)
  rw [lg_entry_eq]
  have hR0 : Rc w1 (h00 s.heap.size) s.heap := ⟨rfl, fun a h => absurd rfl h, fun q h => h, fun a => ⟨fun c _ h => absurd h (by show ¬ 0 = c + 1; omega), fun t h => absurd h (by show ¬ 0 = 101 + t; omega)⟩⟩
  exact KST.2 (h00 s.heap.size) () σ' s.heap [] _ hP hR0 va_S.rf hl (Nat.le_refl _) (Nat.le_refl _) (by show _ ≤ 0 + 601024; omega) (by show _ ≤ 0 + 7293034; omega)
