/-! ===== numbers, answers' topics: read by both ===== -/
section HLP
variable {x i p L f n M k : Nat} {h h' : Hp} {r r' : RS} {bs U : List Nat} {α β : Type} {Φ : α → Hp → β → RS → Prop}
theorem sim_num {Kc : Int32 → Hp → Option (α × Hp)} {Km : Int32 → RS → Option (β × RS)} (D : Rd x i bs p L 0 h r) (T : Stat x h)
    (ok : p + 2 ≤ L → b2 bs p ≠ 0 → ∀ h' r', Rd x i bs (p + 2) L 0 h' r' → Sc x 0 0 h h' r r' → Sim (Kc (nn (b2 bs p))) h' (Km (nn (b2 bs p))) r' Φ)
    (bad : ∀ v h' r' p' f, f ≠ 0 → Rd x i bs p' L f h' r' → Sc x 0 0 h h' r r' → Sim (Kc v) h' (Km v) r' Φ) :
    Sim (bd (C_X5_number (x + 37)) Kc) h (bd R_two fun r47 => rI 79 fun v48 => if v48 = 0 then (if r47 = 0 then (bd (R_fails (130 : Int32)) fun _ => Km r47) else Km r47) else Km r47) r Φ := by
  have hbl := D.2.2.1.2.2.1
  have B := D.by
  by_cases g2 : p + 2 ≤ L
  · obtain ⟨e1, e2⟩ := D.two T g2
    have hv := B.two p
    have D1 := D.mv (p' := p + 2) g2 (by omega)
    have s1 : Sc x 0 0 h (sfi h 702 (x + 37) (nn (p + 2))) r (sI r 76 (nn (410 * i + (p + 2)))) := Sc.mv
    have T1 := s1.st T
    have z79 : (sI r 76 (nn (410 * i + (p + 2)))).1 79 = 0 := D1.2.1.2.2.1
    rw [Sim_r (e_bd e2), sr_rI, z79, sr_pos rfl]
    by_cases g0 : b2 bs p = 0
    · have en : C_X5_number (x + 37) h = some (nn (b2 bs p), sfi (sfi h 702 (x + 37) (nn (p + 2))) 704 (x + 37) (nn 130)) := by
        unfold C_X5_number
        rw [e_Cv (c := 7) T.rd, e_bd e1, if_pos (by rw [g0]; rfl), e_Cv (c := 7) T1.rd, e_bd (qc_fail T1 D1.1.2.2.1)]
        rfl
      have D2 := D1.fl (v := 130) (by omega) (by omega)
      have s2 := s1.tr (Sc.fl (h := sfi h 702 (x + 37) (nn (p + 2))) (r := sI r 76 (nn (410 * i + (p + 2)))) (v := nn 130) (w := nn 130))
      rw [Sim_l (e_bd en), sr_pos (by rw [g0]; rfl), Sim_r (e_bd (qm_fails z79))]
      exact bad _ _ _ _ 130 (by omega) D2 s2
    · have en : C_X5_number (x + 37) h = some (nn (b2 bs p), sfi h 702 (x + 37) (nn (p + 2))) := by
        unfold C_X5_number
        rw [e_Cv (c := 7) T.rd, e_bd e1, if_neg (nn_ne0 (by omega) g0)]
        rfl
      rw [Sim_l (e_bd en), sr_neg (nn_ne0 (by omega) g0)]
      exact ok g2 g0 _ _ D1 s1
  · obtain ⟨e1, e2⟩ := D.two0 T (by omega)
    have D1 := D.fl (v := 129) (by omega) (by omega)
    have s1 : Sc x 0 0 h (sfi h 704 (x + 37) (nn 129)) r (sI r 79 (nn 129)) := Sc.fl
    have T1 := s1.st T
    have en : C_X5_number (x + 37) h = some (0, sfi h 704 (x + 37) (nn 129)) := by
      unfold C_X5_number
      rw [e_Cv (c := 7) T.rd, e_bd e1, if_pos rfl, e_Cv (c := 7) T1.rd, e_bd (qc_fail_f T1 (D1.fa (by omega)))]
      rfl
    have z79 : (sI r 79 (nn 129)).1 79 = nn 129 := by rw [sI_1, if_pos rfl]
    rw [Sim_l (e_bd en), Sim_r (e_bd e2), sr_rI, z79, sr_neg (by decide)]
    exact bad _ _ _ _ 129 (by omega) D1 s1
/-- the model's look at an answer's topic -/
def mRsp (Km : RS → Option (β × RS)) : RS → Option (β × RS) := rI 79 fun v41 => if v41 = 0 then (rA 82 (8 : Int32) fun v42 => if v42 = 0 then Km else (rA 84 (8 : Int32) fun v43 => rA 85 (8 : Int32) fun v44 => bd (R_isTopic 6 v43 v44) fun r45 => if r45 = 0 then (bd (R_fails (130 : Int32)) fun _ => Km) else Km)) else Km
theorem resp_or (D : Rd x i bs p L 0 h r) (P : Pp x i bs M U h r) (T : Stat x h) :
    (C_X4_checkResponse (x + 40) (some (x + 37)) h = some ((), h) ∧ ∀ Km : RS → Option (β × RS), mRsp Km r = Km r) ∨ (C_X4_checkResponse (x + 40) (some (x + 37)) h = some ((), sfi h 704 (x + 37) (nn 130)) ∧ ∀ Km : RS → Option (β × RS), mRsp Km r = Km (sI r 79 (nn 130))) := by
  have hi := D.2.2.1.1
  have hbl := D.2.2.1.2.2.1
  have B := D.by
  have z79 : r.1 79 = 0 := D.2.1.2.2.1
  have h6 := D.2.1.2.2.2
  have m8 : ∀ Km : RS → Option (β × RS), mRsp Km r = (if r.2.1 82 8 = 0 then Km else (rA 84 (8 : Int32) fun v43 => rA 85 (8 : Int32) fun v44 => bd (R_isTopic 6 v43 v44) fun r45 => if r45 = 0 then (bd (R_fails (130 : Int32)) fun _ => Km) else Km)) r := fun Km => by
    unfold mRsp
    rw [x_rI, z79, if_pos rfl, l_8, x_rA mL_82 (by omega) (by omega)]
  have b8 := P.1.2.2 8 (by omega)
  rcases P.2.2.2.2 with ⟨q1, q2⟩ | ⟨q1, a, s, q2, q3, q4, q5, q6⟩
  · refine Or.inl ⟨?_, fun Km => ?_⟩
    · unfold C_X4_checkResponse
      rw [e_gR T.pr, show hfr h (100 * 6 + 7) (x + 40) = none from q2, if_pos rfl]
      rfl
    · rw [m8, if_pos (by rw [b8, q1]; rfl)]
  · obtain ⟨s', e, c1, c2, c3, c4, c5, c6, c7, c8⟩ := P.2.1 8 (by decide) (by decide) q1
    obtain ⟨d1, d2, d3⟩ := c8 (by decide)
    have es : s' = s := nn_inj (by omega) (by omega) (c1.symm.trans q3)
    subst es
    have sll := sl_len (bs := bs) (q := s' + 3) (n := b2 bs (s' + 1)) q6
    have ei := qc_isTopic q5 (by omega)
    have em := qm_isTopic (r := r) (o := 410 * i + (s' + 3)) (ys := sl bs (s' + 3) (b2 bs (s' + 1))) (h6.slc q6) (sl_by B) (by omega) (by omega)
    rw [sll] at em
    have mm : ∀ Km : RS → Option (β × RS), mRsp Km r = (if (if tpc (sl bs (s' + 3) (b2 bs (s' + 1))) = true then (1 : Int32) else 0) = 0 then (bd (R_fails (130 : Int32)) fun _ => Km) else Km) r := fun Km => by
      rw [m8, if_neg (by rw [b8, q1]; decide), l_8, x_rA mL_84 (by omega) (by omega), d2, x_rA mL_85 (by omega) (by omega), d3, e_bd em]
    have cc : C_X4_checkResponse (x + 40) (some (x + 37)) h = (if (if tpc (sl bs (s' + 3) (b2 bs (s' + 1))) = true then (1 : Int32) else 0) = 0 then (hCv 7 (some (x + 37)) (fun a => C_X5_fail a (130 : Int32)) fun _ => rt ()) else rt ()) h := by
      unfold C_X4_checkResponse
      rw [e_gR T.pr, show hfr h (100 * 6 + 7) (x + 40) = some a from q2, if_neg (fun z => by cases z), e_gR T.pr, show hfr h (100 * 6 + 7) (x + 40) = some a from q2, e_Cv (c := 9) q5.1, e_bd ei]
    by_cases g : tpc (sl bs (s' + 3) (b2 bs (s' + 1))) = true
    · refine Or.inl ⟨?_, fun Km => ?_⟩
      · rw [cc, if_pos g, if_neg (by decide)]
        rfl
      · rw [mm, if_pos g, if_neg (by decide)]
    · refine Or.inr ⟨?_, fun Km => ?_⟩
      · rw [cc, if_neg g, if_pos rfl, e_Cv (c := 7) T.rd, e_bd (qc_fail T D.1.2.2.1)]
        rfl
      · rw [mm, if_neg g, if_pos rfl, e_bd (qm_fails z79)]
        rfl
/-- after a fault -/
theorem mRsp_f (Km : RS → Option (β × RS)) (hf : r.1 79 = nn f) (h1 : f ≠ 0) (h2 : f < 256) : mRsp Km r = Km r := by
  unfold mRsp
  rw [x_rI, hf, if_neg (nn_ne0 (by omega) h1)]
theorem qc_resp0 (T : Stat x h) (h607 : hfr h 607 (x + 40) = none) {l : Option Nat} : C_X4_checkResponse (x + 40) l h = some ((), h) := by
  unfold C_X4_checkResponse
  rw [e_gR T.pr, show hfr h (100 * 6 + 7) (x + 40) = none from h607, if_pos rfl]
  rfl
/-- a number among the properties -/
theorem qc_get (T : Stat x h) (P : Pp x i bs M U h r) (hk : k ∈ kN) (hk0 : k ∈ K0) (h38 : k ≠ 38) {v : Int64} : C_X4_get (x + 40) (nn k) v h = some (if M.testBit k = true then r.2.2 83 k else v, h) ∧ (M.testBit k = true → ∃ n, n ≤ bnd k ∧ r.2.2 83 k = n6 n) := by
  have k40 := K0.lt hk0
  obtain ⟨⟨p1, p2, p3⟩, _⟩ := T.pra
  by_cases g : M.testBit k = true
  · obtain ⟨s, e, _, _, _, _, _, _, a7, _⟩ := P.2.1 k hk0 h38 g
    obtain ⟨v, v1, v2, v3, _⟩ := a7 hk
    refine ⟨?_, fun _ => ⟨v, v1, v3⟩⟩
    unfold C_X4_get
    rw [e_Cv T.pr, e_bd (qc_phas T P.1.1 P.1.2.1 k40), if_pos g, if_pos g, if_neg (by decide), e_gR T.pr, p1, e_Al p2 (nn_inr (by omega) (by omega)), nn_N (by omega), v2, v3]
    rfl
  · refine ⟨?_, fun z => absurd z g⟩
    unfold C_X4_get
    rw [e_Cv T.pr, e_bd (qc_phas T P.1.1 P.1.2.1 k40), if_neg g, if_neg g, if_pos rfl]
    rfl
/-- after a fault before the properties: none are there -/
theorem qc_get0 (T : Stat x h) (h600 : hfl h 600 (x + 40) = 0) (hk : k < 40) {v : Int64} : C_X4_get (x + 40) (nn k) v h = some (v, h) ∧ C_X4_has (x + 40) (nn k) h = some (0, h) := by
  have e := qc_phas (M := 0) (k := k) T h600 (by omega) hk
  rw [if_neg (by rw [Nat.zero_testBit]; decide)] at e
  refine ⟨?_, e⟩
  unfold C_X4_get
  rw [e_Cv T.pr, e_bd e, if_pos rfl]
  rfl
end HLP
