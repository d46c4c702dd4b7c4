/-! ===== PINGREQ; a packet refused ===== -/
section PNG
variable {x ec i p L f s b v : Nat} {e0 : Int32} {h : Hp} {r : RS} {bs : List Nat} {l1 : Option Nat}
theorem exp_ok {a : Nat} {w : Int32} {h : Hp} : C_X5_expect a w w h = some ((), h) := by
  unfold C_X5_expect
  rw [if_pos rfl]
  rfl
theorem exp_bad (D : Rd x i bs p L 0 h r) (T : Stat x h) {u w : Int32} (hu : u ≠ w) : C_X5_expect (x + 37) u w h = some ((), sfi h 704 (x + 37) (nn 129)) := by
  unfold C_X5_expect
  rw [if_neg hu, e_Cv (c := 7) T.rd, e_bd (qc_fail T D.1.2.2.1)]
  rfl
theorem bd_rt {σ : Type} {M : σ → Option (Unit × σ)} {s : σ} : bd M (fun _ => rt ()) s = M s := by
  unfold bd
  cases e : M s with
  | none => rfl
  | some z => rfl
theorem sim_pingP (R : Rel x i 12 96 e0 h r) (D : Rd x i bs p bs.length 0 h r) (ho : r.2.1 1 i = 1) : Sim (C_X11_ping x (some (cA x i)) (0 : Int32)) h (R_ping) r (fun w h' _ r' => HP x i e0 bs.length h r w h' r') := by
  have T := R.st
  have hi := D.2.2.1.1
  have hbl := D.2.2.1.2.2.1
  have hpl := D.2.2.1.2.2.2.1
  have hd := D.2.2.2 rfl
  obtain ⟨k1, k2, _⟩ := T.in3
  have x79 : r.1 79 = 0 := D.2.1.2.2.1
  unfold C_X11_ping R_ping
  rw [sl_gR k1, k2, sl_Cv T.rd, Sim_l (e_bd exp_ok), sl_gR k1, k2, sl_Cv T.rd, Sim_l (e_bd (D.finish T)), sr_rI, hd.2.1, sr_rI, D.2.1.2.1]
  by_cases g : p < bs.length
  · rw [if_pos g, sr_neg (by rw [nn_le (by omega) (by omega)]; omega), Sim_r (e_bd (qm_fails x79))]
    have D1 := D.fl (v := 129) (by omega) (by omega)
    have s1 : Sc x 0 0 h (sfi h 704 (x + 37) (nn 129)) r (sI r 79 (nn 129)) := Sc.fl
    have k2' : hfr (sfi h 704 (x + 37) (nn 129)) (100 * 13 + 3) x = some (x + 37) := k2
    have e4 : hfi (sfi h 704 (x + 37) (nn 129)) (100 * 7 + 4) (x + 37) = nn 129 := D1.1.2.2.1
    have em : R_ping_J18 (sI r 79 (129 : Int32)) = some ((), sI r 79 (nn 129)) := by
      unfold R_ping_J18
      rw [x_rI, sI_1, if_pos rfl, if_neg (by decide)]
      rfl
    rw [sl_gR (by exact k1), k2', sl_gI (by exact T.rd), e4, sl_neg (by decide), sl_gR (by exact k1), k2', sl_gI (by exact T.rd), e4, Sim_r (M' := rt ()) (r' := sI r 79 (nn 129)) em]
    exact Sim.ret (HP.of R s1.sw hi D1 (by omega) (by omega))
  · rw [if_neg g, sr_pos (by rw [nn_le (by omega) (by omega)]; omega)]
    have e4 : hfi h (100 * 7 + 4) (x + 37) = 0 := D.1.2.2.1
    unfold R_ping_J18
    rw [sl_gR k1, k2, sl_gI T.rd, e4, sl_pos rfl, sr_rI, x79, sr_pos rfl, sr_rI, D.2.1.1, Sim_r bd_rt]
    obtain ⟨f0, b0, W0⟩ := R.wr
    obtain ⟨k1, k2, k3, k4⟩ := wref T (Wo.rf (h := h))
    rw [sl_gR k1, k2, sl_Cv k3]
    refine Sim.seqL (qc_wbegin W0) (fun _ h1 z1 => ?_)
    obtain ⟨k1, k2, k3, k4⟩ := wref T z1.2
    rw [sl_gR k1, k2, sl_Cv (k4 i hi)]
    refine sim_ping R hi ho z1.2 z1.1 (fun h' r' R' P' w' => Sim.ret ⟨R', P'.kp w' R hi, ⟨0, ?_, rfl, by omega, Or.inl rfl⟩, ?_, ?_⟩)
    · rw [w'.gI (by decide), x79]
      rfl
    · have := w'.wn (by decide) (by decide) (by decide) (by decide)
      rw [P'.1.2.2.2.2.2.2.2]
      omega
    · have := w'.wn (by decide) (by decide) (by decide) (by decide)
      rw [P'.1.2.2.2.2.2.2.2]
      omega
/-- flags that may not stand -/
theorem ping_bad (D : Rd x i bs p bs.length 0 h r) (T : Stat x h) {fl : Int32} (hfl : fl ≠ 0) : ∃ h', C_X11_ping x l1 fl h = some (nn 129, h') ∧ Sw x 0 0 h h' r (sI r 79 (nn 129)) := by
  have D1 := D.fl (v := 129) (by omega) (by omega)
  have s1 : Sc x 0 0 h (sfi h 704 (x + 37) (nn 129)) r (sI r 79 (nn 129)) := Sc.fl
  have T1 := s1.st T
  obtain ⟨k1, k2, _⟩ := T.in3
  obtain ⟨j1, j2, _⟩ := T1.in3
  refine ⟨_, ?_, s1.sw⟩
  have e4 : hfi (sfi h 704 (x + 37) (nn 129)) (100 * 7 + 4) (x + 37) = nn 129 := D1.1.2.2.1
  unfold C_X11_ping
  rw [e_gR k1, k2, e_Cv T.rd, e_bd (exp_bad D T hfl), e_gR j1, j2, e_Cv T1.rd, e_bd (qc_finish_f T1 (D1.fa (by omega))), e_gR j1, j2, e_gI T1.rd, e4, if_neg (by decide), e_gR j1, j2, e_gI T1.rd, e4]
  rfl
theorem ans_bad (D : Rd x i bs p bs.length 0 h r) (T : Stat x h) {fl : Int32} {t : Nat} (ht : t < 256) (hfl : fl ≠ if t = 6 then 2 else 0) {l1 l2 : Option Nat} : ∃ h', C_X11_answered x l1 l2 (nn t) fl h = some (nn 129, h') ∧ Sw x 0 0 h h' r (sI r 79 (nn 129)) := by
  have D1 := D.fl (v := 129) (by omega) (by omega)
  have s1 : Sc x 0 0 h (sfi h 704 (x + 37) (nn 129)) r (sI r 79 (nn 129)) := Sc.fl
  have T1 := s1.st T
  obtain ⟨k1, k2, _⟩ := T.in3
  obtain ⟨j1, j2, _⟩ := T1.in3
  refine ⟨_, ?_, s1.sw⟩
  have j17 : ∀ w : Int32, fl ≠ w → C_X11_answered_J17 x l1 l2 (nn t) (some (x + 37)) fl w h = some (nn 129, sfi h 704 (x + 37) (nn 129)) := fun w hw => by
    unfold C_X11_answered_J17
    rw [e_Cv (c := 7) T.rd, e_bd (exp_bad D T hw), e_gR (c := 13) j1, j2, e_Cv (c := 7) T1.rd, e_bd (qc_number_f T1 (D1.fa (by omega)))]
    exact ansN_f T1 (D1.fa (by omega))
  unfold C_X11_answered
  rw [e_gR (c := 13) k1, k2]
  by_cases g : t = 6
  · rw [if_pos g] at hfl
    rw [if_pos (by rw [g]; rfl), j17 _ hfl]
  · rw [if_neg g] at hfl
    rw [if_neg (fun z : nn t = (6 : Int32) => g (nn_inj (b := 6) (by omega) (by omega) z)), j17 _ hfl]
theorem type_or : ∀ b, b < 256 → (nn b >>> ((4 : Int32) &&& 31) = nn (b / 16) ∧ ((sb b >>> ((4 : Int32) &&& 31)) &&& (15 : Int32)) = nn (b / 16)) ∧ (nn b &&& (15 : Int32) = nn (b % 16) ∧ sb b &&& (255 : Int32) = nn b) := by decide +kernel
theorem Stat.pk (T : Stat x h) (hi : i < 8) : hkd h (cA x i) = 2 + 1 ∧ hfr h (100 * 2 + 7) (cA x i) = some (cA x i + 2) ∧ hkd h (cA x i + 2) = 101 ∧ hln h (cA x i + 2) = 405 := by
  obtain ⟨a1, a2, a3, a4, a5, a6, a7, a8, a9, a10⟩ := T.2.2.2.2.2.2 i hi
  exact ⟨a2, a7, a8, a9⟩
theorem qc_type (T : Stat x h) (hi : i < 8) (hv : v < 256) (h0 : hai h (cA x i + 2) 0 = nn v) : C_X0_type (cA x i) h = some (nn (v / 16), h) := by
  obtain ⟨a1, a2, a3, a4⟩ := T.pk hi
  unfold C_X0_type
  rw [e_gR a1, a2, show (0 : Int32) = nn 0 from rfl, e_Ai a3 (nn_inr (by omega) (by omega)), nn_N (by omega), h0]
  show some (nn v >>> ((4 : Int32) &&& 31), h) = _
  rw [(type_or v hv).1.1]
/-- a packet is refused: told by what the connection may hear, then the connection is lost -/
theorem sim_refuse {b0 : Nat} (R : Rel x i 12 96 e0 h r) (hi : i < 8) (ho : r.2.1 1 i = 1) (hv : v < 256) (hb : b0 < 256) (h0 : hai h (cA x i + 2) 0 = nn b0) (m0 : r.2.1 6 (410 * i) = sb b0) :
    Sim (C_X11_refuse x (some (cA x i)) (nn v)) h (R_fail (nn i) (nn v)) r (fun _ h' _ r' => Rel x 8 12 96 e0 h' r' ∧ r'.2.1 1 i = 0 ∧ r'.1 67 = r.1 67 ∧ Pd h h' r r' ∧ (∀ i', i' < 8 → i' ≠ i → r'.2.1 5 i' = r.2.1 5 i') ∧ ∀ k ∈ [0, 66, 71, 72, 73], r'.1 k = r.1 k) := by
  have T := R.st
  obtain ⟨c1, _⟩ := T.pk hi
  have tl : ∀ h1 r1, Rel x i 12 96 e0 h1 r1 → r1.1 67 = r.1 67 → r1.2.1 5 = r.2.1 5 → (∀ k ∈ [0, 66, 71, 72, 73], r1.1 k = r.1 k) → Pd h h1 r r1 → Sim (C_X11_refuse_J65 x (some (cA x i))) h1 (R_fail_J51 (nn i)) r1 (fun _ h' _ r' => Rel x 8 12 96 e0 h' r' ∧ r'.2.1 1 i = 0 ∧ r'.1 67 = r.1 67 ∧ Pd h h' r r' ∧ (∀ i', i' < 8 → i' ≠ i → r'.2.1 5 i' = r.2.1 5 i') ∧ ∀ k ∈ [0, 66, 71, 72, 73], r'.1 k = r.1 k) := fun h1 r1 R1 e67 e5 e7 P1 => by
    unfold C_X11_refuse_J65 R_fail_J51
    rw [sl_Cv R1.st.2.1.1]
    refine Sim.seq (sim_lost (ec' := 8) R1 hi (fun i' _ h2 _ => h2)) (fun _ h2 _ r2 z => Sim.ret ?_)
    exact ⟨z.1, z.2.2.2.1, by rw [z.2.1.2.1.gI (by decide)]; exact e67, P1.tr z.2.2.2.2, fun i' g1 g2 => by rw [(z.2.2.1 i' g1 g2).2.1, e5], fun k hk => (z.2.1.2.1.gI (by simp only [List.mem_cons, List.not_mem_nil, or_false] at hk; rcases hk with rfl | rfl | rfl | rfl | rfl <;> decide)).trans (e7 k hk)⟩
  have pd : ∀ h1 r1, Oo x h h1 → Ro oS r r1 → Pd h h1 r r1 := fun h1 r1 P w => Pd.mk P.1.2.2.2.2.2.2.2 (w.wn (by decide) (by decide) (by decide) (by decide))
  unfold C_X11_refuse R_fail lq
  rw [show (410 : Int32) = nn 410 from rfl, nn_mul, sr_r6 (by omega), m0, sl_gR c1]
  dsimp only
  rw [sr_r7 hi, (type_or b0 hb).1.2]
  have hc := (R.2.2.2.1 i hi).1.2.2.2
  rcases hc with ⟨a1, a2⟩ | ⟨s, b, hs, a1, a2, a3, a4, a5, a6⟩
  · have a2' : hfr h (100 * 2 + 2) (cA x i) = none := a2
    rw [a2', a1, sl_pos rfl, sr_pos (by decide), sl_Cv c1, Sim_l (e_bd (qc_type T hi hb h0))]
    by_cases g : b0 / 16 = 1
    · rw [g, sl_pos (by decide), sr_pos (by decide)]
      obtain ⟨f0, w0, W0⟩ := R.wr
      obtain ⟨k1, k2, k3, k4⟩ := wref T (Wo.rf (h := h))
      rw [sl_gR k1, k2, sl_Cv k3]
      refine Sim.seqL (qc_wbegin W0) (fun _ h1 z1 => ?_)
      obtain ⟨k1, k2, k3, k4⟩ := wref T z1.2
      rw [sl_gR k1, k2, sl_Cv k3]
      refine Sim.seqL (qc_one z1.1 (by simp)) (fun _ h2 z2 => ?_)
      have W2 := z1.2.tr z2.2
      obtain ⟨k1, k2, k3, k4⟩ := wref T W2
      rw [sl_gR k1, k2, sl_Cv k3]
      refine Sim.seqL (qc_one z2.1 (by simp)) (fun _ h3 z3 => ?_)
      have W3 := W2.tr z3.2
      obtain ⟨k1, k2, k3, k4⟩ := wref T W3
      rw [sl_gR k1, k2, sl_Cv k3]
      refine Sim.seqL (qc_one z3.1 (by simp)) (fun _ h4 z4 => ?_)
      have W4 := W3.tr z4.2
      obtain ⟨k1, k2, k3, k4⟩ := wref T W4
      rw [sl_gR k1, k2, sl_Cv (k4 i hi)]
      unfold R_connackFault
      have y0 : Ro [88, 89] r (sI r 89 (0 : Int32)) := Ro.rf.i (by decide)
      refine (Sim_r (M' := bd (bd (R_put (32 : Int32)) fun _ => bd (R_put (3 : Int32)) fun _ => bd (R_put (0 : Int32)) fun _ => bd (R_put (nn v)) fun _ => bd (R_put (0 : Int32)) fun _ => bd (R_send (nn i)) fun _ => rt ()) fun _ => R_fail_J51 (nn i)) (r' := sI r 89 (0 : Int32)) rfl).mpr ?_
      simp only [bd_assoc]
      refine Sim.seqR (qm_put (bs := []) PK.zero (by simp)) (fun _ r1 y1 => ?_)
      refine Sim.seqR (qm_put y1.1 (by simp)) (fun _ r2 y2 => ?_)
      refine Sim.seqR (qm_put y2.1 (by simp)) (fun _ r3 y3 => ?_)
      refine Sim.seqR (qm_put y3.1 (by simp)) (fun _ r4 y4 => ?_)
      refine Sim.seqR (qm_put y4.1 (by simp)) (fun _ r5 y5 => ?_)
      have w5 := ((((y0.tr y1.2).tr y2.2).tr y3.2).tr y4.2).tr y5.2
      have ev : lo8 (nn v) = v := by rw [lo8_nn (by omega)]; omega
      have P5 := y5.1
      have H4 := z4.1
      have e1 : lo8 (32 : Int32) = 32 := by decide
      have e2 : lo8 (3 : Int32) = 3 := by decide
      have e3 : lo8 (0 : Int32) = 0 := by decide
      rw [e1, e2, ev, e3] at P5
      rw [ev, e3] at H4
      refine Sim.seq (sim_mk R hi ho W4 (f := 32) (bs := [0, v, 0]) H4 (w5.sub (by decide)) P5 (by omega)) (fun _ h' _ r' q => ?_)
      rw [Sim_r x_rt]
      exact tl h' r' q.1 (q.2.2.gI (by decide)) (q.2.2.gA (by decide)) (fun k hk => q.2.2.gI (by simp only [List.mem_cons, List.not_mem_nil, or_false] at hk; rcases hk with rfl | rfl | rfl | rfl | rfl <;> decide)) (pd h' r' q.2.1 q.2.2)
    · have gn : nn (b0 / 16) ≠ (1 : Int32) := fun z => g (nn_inj (b := 1) (by omega) (by omega) z)
      rw [sl_neg gn, sr_neg gn]
      exact tl h r R rfl rfl (fun _ _ => rfl) Pd.rf
  · have a6' : hfr h (100 * 2 + 2) (cA x i) = some b := a6
    rw [a6', a1, sl_neg (by simp), sr_neg (by rw [show (0 : Int32) = nn 0 from rfl, nn_lt (by omega) (by omega)]; omega), sl_Cv T.2.1.1]
    refine Sim.seq (sim_bye R hi ho hv) (fun _ h1 _ r1 z => ?_)
    exact tl h1 r1 z.1 (z.2.2.gI (by decide)) (z.2.2.gA (by decide)) (fun k hk => z.2.2.gI (by simp only [List.mem_cons, List.not_mem_nil, or_false] at hk; rcases hk with rfl | rfl | rfl | rfl | rfl <;> decide)) (pd h1 r1 z.2.1 z.2.2)
end PNG
