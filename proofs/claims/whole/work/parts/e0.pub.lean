/-! ===== PUBLISH: after a fault ===== -/
section PUF
variable {x i p L f n s b M fl q num ps pp : Nat} {e0 : Int32} {h h' h0 : Hp} {r r' r0 : RS} {bs U TP : List Nat} {l1 l2 l5 : Option Nat} {l3 l4 l6 l7 : Int32}
theorem mask_ok {A : Nat} (hA : A < 1099511627776) (h : ∀ k, k < 40 → A.testBit k = true → k ∈ K0) : ∀ k, A.testBit k = true → k ∈ K0 := fun k hk => by
  rcases Nat.lt_or_ge k 40 with z | z
  · exact h k z hk
  · have : A < 2 ^ k := Nat.lt_of_lt_of_le (show A < 2 ^ 40 by omega) (Nat.pow_le_pow_right (by omega) z)
    rw [Nat.testBit_lt_two_pow this] at hk
    cases hk
theorem pub195_f (T : Stat x h) (F : Fa x f h) : C_X11_publish_J195 x l1 l2 l3 l4 l5 l6 h = some (nn f, h) := by
  obtain ⟨k1, k2, _⟩ := T.in3
  have e : hfi h (100 * 7 + 4) (x + 37) = nn f := F.1
  unfold C_X11_publish_J195
  rw [e_gR k1, k2, e_gI T.rd, e, if_neg (nn_ne0 (by have := F.2.2; omega) F.2.1), e_gR k1, k2, e_gI T.rd, e]
  rfl
theorem pub180_f (T : Stat x h) (F : Fa x f h) : C_X11_publish_J180 x l1 l2 l3 l4 l5 l6 h = some (nn f, h) := by
  obtain ⟨k1, k2, _⟩ := T.in3
  unfold C_X11_publish_J180
  by_cases z : l5 = none
  · rw [if_pos z, e_gR k1, k2, e_Cv T.rd, e_bd (qc_fail_f T F), pub195_f T F]
  · rw [if_neg z, pub195_f T F]
theorem pub160_f (T : Stat x h) (F : Fa x f h) : C_X11_publish_J160 x l1 l2 l3 l4 l5 l6 l7 h = some (nn f, h) := by
  obtain ⟨k1, k2, _⟩ := T.in3
  have e : hfi h (100 * 7 + 4) (x + 37) = nn f := F.1
  unfold C_X11_publish_J160
  rw [e_gR k1, k2, e_gI T.rd, e, if_neg (nn_ne0 (by have := F.2.2; omega) F.2.1), pub180_f T F]
theorem pub150_f (T : Stat x h) (F : Fa x f h) : C_X11_publish_J150 x l1 l2 l3 l4 l5 l6 l7 h = some (nn f, h) := by
  obtain ⟨k1, k2, _⟩ := T.in3
  unfold C_X11_publish_J150
  rw [e_gR k1, k2, e_Cv T.rd, e_bd (qc_fail_f T F), pub160_f T F]
/-- behind the properties -/
def pubA (x : Nat) (l1 l2 : Option Nat) (l3 l4 : Int32) (l5 : Option Nat) (s0 : Int32) : Hp → Option (Int32 × Hp) := hgR 13 4 (some x) fun v27 => hCv 6 v27 (fun a => C_X4_get a (35 : Int32) (0 : Int64)) fun r28 => hgR 13 4 (some x) fun v29 => hCv 6 v29 (fun a => C_X4_has a (35 : Int32)) fun r30 => if r30 = 0 then (C_X11_publish_J160 x l1 l2 l3 l4 l5 s0 r28.toInt32) else (if r28.toInt32 < (1 : Int32) then (C_X11_publish_J150 x l1 l2 l3 l4 l5 s0 r28.toInt32) else (if r28.toInt32 ≤ (4 : Int32) then (C_X11_publish_J160 x l1 l2 l3 l4 l5 s0 r28.toInt32) else (C_X11_publish_J150 x l1 l2 l3 l4 l5 s0 r28.toInt32)))
def pubR (x : Nat) (l1 l2 : Option Nat) (l3 l4 : Int32) (l5 : Option Nat) (s0 : Int32) : Hp → Option (Int32 × Hp) := hgR 13 4 (some x) fun v24 => hgR 13 3 (some x) fun v25 => hCv 6 v24 (fun a => C_X4_checkResponse a v25) fun _ => pubA x l1 l2 l3 l4 l5 s0
theorem pubA_f (T : Stat x h) (F : Fa x f h) (hM : hfl h 600 (x + 40) = n6 M) (hM2 : M < 1099511627776) : pubA x l1 l2 l3 l4 l5 l6 h = some (nn f, h) := by
  obtain ⟨k1, k2, k3⟩ := T.in3
  obtain ⟨⟨p1, p2, p3⟩, _⟩ := T.pra
  have ep := qc_phas (k := 35) T hM hM2 (by omega)
  obtain ⟨v, ev⟩ : ∃ v, C_X4_get (x + 40) (nn 35) (0 : Int64) h = some (v, h) := by
    unfold C_X4_get
    rw [e_Cv T.pr, e_bd ep]
    by_cases g : M.testBit 35 = true
    · rw [if_pos g, if_neg (by decide), e_gR T.pr, p1, e_Al p2 (nn_inr (by omega) (by omega))]
      exact ⟨_, rfl⟩
    · rw [if_neg g, if_pos rfl]
      exact ⟨_, rfl⟩
  unfold pubA
  rw [e_gR k1, k3, e_Cv T.pr, l_35, e_bd ev, e_gR k1, k3, e_Cv T.pr, e_bd ep]
  (repeat' split) <;> first | exact pub160_f T F | exact pub150_f T F
theorem pub86_f (T : Stat x h) (F : Fa x f h) : ∃ h', C_X11_publish_J86 x l1 l2 l3 l4 l5 l6 h = some (nn f, h') ∧ Sw x 0 0 h h' r r := by
  obtain ⟨k1, k2, k3⟩ := T.in3
  obtain ⟨h1, e1, F1, c1, Fa1, m1, q1⟩ := qc_props_f (v := (309237646094 : Int64)) T F
  have s1 : Sw x 0 0 h h1 r r := ⟨F1.sub (by decide) (fun _ z => z.elim), Ro.rf, by rw [c1]; omega, by rw [c1]; omega⟩
  have T1 := s1.st T
  obtain ⟨j1, j2, j3⟩ := T1.in3
  refine ⟨h1, ?_, s1⟩
  have ea : C_X11_publish_J86 x l1 l2 l3 l4 l5 l6 h = pubR x l1 l2 l3 l4 l5 l6 h1 := by
    unfold C_X11_publish_J86
    rw [e_gR k1, k3, e_gR k1, k2, e_Cv T.pr, e_bd e1]
    rfl
  rw [ea]
  unfold pubR
  rw [e_gR j1, j3, e_gR j1, j2, e_Cv T1.pr, e_bd (qc_resp0 T1 q1), pubA_f (M := 0) T1 Fa1 m1 (by omega)]
theorem pub70_f (T : Stat x h) (F : Fa x f h) : ∃ h', C_X11_publish_J70 x l1 l2 l3 l4 l5 h = some (nn f, h') ∧ Sw x 0 0 h h' r r := by
  obtain ⟨k1, k2, k3⟩ := T.in3
  unfold C_X11_publish_J70
  by_cases z : l4 ≤ 0
  · rw [if_pos z]
    exact pub86_f T F
  · rw [if_neg z, e_gR k1, k2, e_Cv T.rd, e_bd (qc_number_f T F)]
    exact pub86_f T F
theorem pub34_f (T : Stat x h) (F : Fa x f h) : ∃ h', C_X11_publish_J34 x l1 l2 l3 l4 h = some (nn f, h') ∧ Sw x 0 0 h h' r r := by
  obtain ⟨k1, k2, k3⟩ := T.in3
  unfold C_X11_publish_J34
  rw [e_gR k1, k2, e_Cv T.rd, e_bd (qc_row_f T F), e_Cv (c := 9) T.nil.1, e_bd (qc_count T.nil), if_pos (by decide)]
  exact pub70_f T F
/-- the model after a fault -/
theorem mpub239_f {l1 l2 l3 l4 l5 l6 : Int32} (hf : r.1 79 = nn f) (h1 : f ≠ 0) (h2 : f < 256) : R_publish_J239 l1 l2 l3 l4 l5 l6 r = some ((), r) := by
  unfold R_publish_J239
  rw [x_rI, hf, if_neg (nn_ne0 (by omega) h1)]
  rfl
theorem mpub189_f {l1 l2 l3 l4 l5 l6 : Int32} (hf : r.1 79 = nn f) (h1 : f ≠ 0) (h2 : f < 256) : R_publish_J189 l1 l2 l3 l4 l5 l6 r = some ((), r) := by
  unfold R_publish_J189
  rw [x_rI, hf, if_neg (nn_ne0 (by omega) h1), mpub239_f hf h1 h2]
theorem mpub91_f {l1 l2 l3 l4 l5 l6 : Int32} (hf : r.1 79 = nn f) (h1 : f ≠ 0) (h2 : f < 256) : R_publish_J91 l1 l2 l3 l4 l5 l6 r = some ((), r) := by
  unfold R_publish_J91
  rw [x_rI, hf, if_neg (nn_ne0 (by omega) h1)]
  rfl
theorem mpub59_f {l1 l2 l3 l4 l5 : Int32} (hf : r.1 79 = nn f) (h1 : f ≠ 0) (h2 : f < 256) : R_publish_J59 l1 l2 l3 l4 l5 r = some ((), r) := by
  unfold R_publish_J59
  by_cases z : l1 ≤ 0
  · rw [if_pos z, mpub91_f hf h1 h2]
  · rw [if_neg z, e_bd (qm_two_f hf h1 h2), x_rI, hf, if_neg (nn_ne0 (by omega) h1), mpub91_f hf h1 h2]
theorem fl_q : ∀ fl, fl < 16 → ((nn fl >>> ((1 : Int32) &&& 31)) &&& (3 : Int32)) = nn (fl / 2 % 4) := by decide +kernel
theorem fl_1 : ∀ fl, fl < 16 → ((nn fl &&& (1 : Int32)) = (1 : Int32) ↔ fl % 2 = 1) := by decide +kernel
/-- is a number held? -/
theorem holds_or {ec es ew v : Nat} (R : Rel x ec es ew e0 h r) (hs : s < 12) (hb : har h (x + 34) s = some b) (hv : v < 65536) :
    (C_X8_holds b (nn v) h = some (1, h) ∧ ∃ k, k < 8 ∧ R_holds (nn s) (nn v) r = some (nn k, r)) ∨ (C_X8_holds b (nn v) h = some (0, h) ∧ R_holds (nn s) (nn v) r = some (-1, r) ∧ ∀ k, k < iN (r.2.1 43 s) → r.2.1 44 (8 * s + k) ≠ nn v) := by
  have Sb := R.ses hs hb
  obtain ⟨lc, lm, l1, l2, l3, l4, l5, l6, l7, l8⟩ := Sb.2.2.2.2.2.2.2.1
  have ll : lc.length = lm.length := l2.length_eq
  have lb : ∀ v ∈ lc, v < 65536 := fun w hw => l4 w (l2.mem_iff.mp hw)
  have qf := qc_find (v := v) (L := fun f i => C_X8_holds_L2 b (C_X8_holds_J20 b) (C_X8_holds_J28 b) f (nn v) i) (K1 := fun _ => C_X8_holds_J20 b) (K0 := C_X8_holds_J28 b) Sb.1 l1 l5 l7 lb hv (fun f i => rfl)
  have qh := qm_holds (v := v) hs (by omega) l6 l8 l4 hv
  rcases first_at lm v with ⟨A', B', em, nm⟩ | nm
  · have hvc : v ∈ lc := l2.mem_iff.mpr (by rw [em]; exact List.mem_append_right _ (List.mem_cons_self ..))
    rcases first_at lc v with ⟨A, B, ec', nc⟩ | nc
    · have lenA' : A'.length < lm.length := by rw [em, List.length_append, List.length_cons]; omega
      refine Or.inl ⟨?_, A'.length, by omega, qh.1 A' B' em nm⟩
      unfold C_X8_holds
      have := qf.1 A B ec' nc
      rw [show (0 : Int32) = 0 from rfl]
      refine this.trans ?_
      rfl
    · exact absurd hvc nc
  · refine Or.inr ⟨?_, qh.2 nm, fun k hk z => ?_⟩
    · unfold C_X8_holds
      refine (qf.2 (fun z => nm (l2.mem_iff.mp z))).trans ?_
      rfl
    · rw [l6, iN_nn (by omega)] at hk
      rw [l8 k hk] at z
      have hmem := mem_getD hk
      have := l4 _ hmem
      have := nn_inj (by omega) (by omega) z
      rw [this] at hmem
      exact nm hmem
/-- what is left is the payload -/
theorem qc_rest (D : Rd x i bs p bs.length 0 h r) (T : Stat x h) : ∃ G, C_X5_rest (x + 37) h = some (some (hnx h), nRow h (bs.length - p) G) ∧ Cg G 0 (sl bs p (bs.length - p)) := by
  have hi := D.2.2.1.1
  have hbl := D.2.2.1.2.2.1
  have hp1 := D.2.2.1.2.2.2.2.2
  have hpl := D.2.2.1.2.2.2.1
  have hx := T.1
  have hcl := T.cl hi
  obtain ⟨y1, y2⟩ := D.pk T
  have F1 : Fm x [] (fun _ => False) h (hob h 9 1) := Fm.rf.ob
  have T1 : Stat x (hob h 9 1) := T.sto F1.1
  have D1 : Rd x i bs p bs.length 0 (hob h 9 1) r := D.fm T F1 (Ro.rf (S := [])) (by decide) (fun z => z) (by decide)
  obtain ⟨z1, z2⟩ := D1.pk T1
  obtain ⟨G, e1, hG⟩ := qc_copy (h := hob h 9 1) (a := cA x i + 2) (q := p) (n := bs.length - p) z1 (by rw [hnx_hob]; omega) hp1 (by rw [z2]; omega) (by rw [z2]; omega)
  rw [hnx_hob] at e1
  refine ⟨G, ?_, fun k hk => ?_⟩
  · have kk : hkd (sai (hay (hob h 9 1) 0 (bs.length - p)) (hnx h + 1) G) (hnx h) = 9 + 1 := by
      rw [hkd_sai, hkd_hay, hnx_hob, if_neg (by omega), hkd_hob, if_pos rfl]
    have e2 : C_X7_init (hnx h) (some (hnx h + 1)) (sai (hay (hob h 9 1) 0 (bs.length - p)) (hnx h + 1) G) = some ((), nRow h (bs.length - p) G) := by
      unfold C_X7_init
      show hpR 9 0 (some (hnx h)) (some (hnx h + 1)) (rt ()) _ = _
      rw [e_pR kk]
      rfl
    unfold C_X5_rest
    rw [e_Nw, e_gR T1.rd, show hfr (hob h 9 1) (100 * 7 + 1) (x + 37) = some (cA x i + 2) from D1.1.1, e_gI T1.rd, show hfi (hob h 9 1) (100 * 7 + 2) (x + 37) = nn p from D1.1.2.1, e_gI T1.rd, show hfi (hob h 9 1) (100 * 7 + 2) (x + 37) = nn p from D1.1.2.1, e_Cv T1.rd, e_bd (D1.left T1), nn_add, e_bd e1, e_Ci, e_bd e2]
    rfl
  · rw [sl_len (by omega)] at hk
    rw [Nat.zero_add, sl_at hk (by omega), hG k hk, hai_hob]
    have := D.1.2.2.2 (p + k) (by omega)
    rw [Nat.zero_add] at this
    exact this
end PUF
