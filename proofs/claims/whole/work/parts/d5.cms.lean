section CMS
variable {x i k j a n M tA pA q rn : Nat} {h h1 h' : Hp} {r r1 : RS} {bs U ys TP PL : List Nat}
/-- kinds, lengths, rows' arrays stay -/
def Wk (h h' : Hp) : Prop := hnx h ≤ hnx h' ∧ ∀ a, a < hnx h → hkd h' a = hkd h a ∧ hln h' a = hln h a ∧ hfr h' 900 a = hfr h 900 a ∧ hai h' a = hai h a
theorem Wk.tr {h2 : Hp} (p : Wk h h1) (q : Wk h1 h2) : Wk h h2 := by
  refine ⟨Nat.le_trans p.1 q.1, fun a ha => ?_⟩
  obtain ⟨a1, a2, a3, a4⟩ := p.2 a ha
  obtain ⟨b1, b2, b3, b4⟩ := q.2 a (Nat.lt_of_lt_of_le ha p.1)
  exact ⟨b1.trans a1, b2.trans a2, b3.trans a3, b4.trans a4⟩
theorem RwN.wk {c e : Nat} (p : RwN x h c e h') : Wk h h' := ⟨p.1.1.1, fun a ha => ⟨(p.1.1.2.1 a ha).1, (p.1.1.2.1 a ha).2, p.1.gr (by decide) ha, (p.1.2.2 a ha (fun z => z)).1⟩⟩
theorem Rw.wk (W : Rw x h a ys) (p : Wk h h') : Rw x h' a ys := by
  obtain ⟨w1, w2, w3, y, w4, w5, w6, w7, w8, w9⟩ := W
  have hn := p.1
  obtain ⟨a1, a2, a3, a4⟩ := p.2 a w2
  obtain ⟨b1, b2, b3, b4⟩ := p.2 y w5
  refine ⟨a1.trans w1, by omega, w3, y, a3.trans w4, by omega, b1.trans w6, b2.trans w7, by rw [b4]; exact w8, ?_⟩
  rcases w9 with z | ⟨z1, z2, z3, z4⟩
  · exact Or.inl z
  · refine Or.inr ⟨z1, by omega, b1.trans z3, ?_⟩
    rw [(p.2 (y - 1) (by omega)).1]
    exact z4
theorem rwK.fm {F : List Nat} {A : Nat → Prop} (p : Fm x F A h h') (T : Stat x h) (h42 : ¬ A (x + 42)) (h43 : ¬ A (x + 43)) : rwK x bs M h' k = rwK x bs M h k := by
  have := T.1
  unfold rwK
  rw [(p.2.2 (x + 42) (by omega) h42).1, (p.2.2 (x + 43) (by omega) h43).1]
theorem qc_copyOf (T : Stat x h) (C : Cg (hai h (x + 44)) 0 U) (hU : U.length < 400) : ∃ G, C_J7_copyOf_59c91 (some (x + 44)) (nn U.length) h = some (some (hnx h), sai (hay h 0 U.length) (hnx h) G) ∧ Cg G 0 U := by
  obtain ⟨_, _, _, _, p2, p3⟩ := T.pra
  have hx := T.1
  have hk : hkd (hay h 0 U.length) (x + 44) = 101 := by rw [hkd_hay, if_neg (by omega)]; exact p2
  have hl : hln (hay h 0 U.length) (x + 44) = 400 := by rw [hln_hay, if_neg (by omega)]; exact p3
  refine ⟨va_cpy (hai (hay h 0 U.length) (x + 44)) (hai (hay h 0 U.length) (hnx h)) 0 0 U.length, ?_, fun i hi => ?_⟩
  · have em : imin (nn 400) (nn U.length) = nn U.length := by
      unfold imin
      rw [if_pos (by rw [nn_lt (by omega) (by omega)]; exact hU)]
    unfold C_J7_copyOf_59c91
    rw [e_Ln (t := 0) p2, p3, if_neg (show ¬ nn U.length = Int32.ofNat 400 from fun z => by have := nn_inj (by omega) (by omega) z; omega), e_Na ⟨nn_ge (by omega), by rw [nn_N (by omega)]; omega⟩, nn_N (by omega), e_Ln (t := 0) hk, hl, show Int32.ofNat 400 = nn 400 from rfl, em]
    show hCp (some (x + 44)) (nn 0) (some (hnx h)) (nn 0) (nn U.length) _ _ = _
    rw [e_Cpn hk (by rw [hkd_hay, if_pos rfl]) (by rw [hl]; omega) (by rw [hln_hay, if_pos rfl]; omega) (by omega) (by omega) (by omega)]
    rfl
  · unfold va_cpy
    rw [if_pos (by omega), hai_hay, if_neg (by omega), show 0 + (0 + i - 0) = 0 + i by omega]
    exact C i hi
theorem qc_message (T : Stat x h) (P : Pp x i bs M U h r) (hi : i < 8) (B : By bs) (hC : Cg (hai h (cA x i + 2)) 0 bs) (hbl : bs.length ≤ 405) (ht : Rw x h tA TP) (hpl : Rw x h pA PL) (hrt : rn ≤ 1) (hsum : Tot x h M ≤ 400) :
    ∃ h', C_X4_message (x + 40) (some tA) (some pA) (nn q) (nn rn) h = some (some (hnx h), h') ∧ MsC x h' (hnx h) (TP, PL, rwK x bs M h 1, rwK x bs M h 3 ++ (rwK x bs M h 8 ++ rwK x bs M h 9), U, q, rn, lifeK M r) ∧ RwN x h 7 (12 + Tot x h M + U.length) h' ∧ hkd h' (hnx h' - 1) = 101 := by
  have hx := T.1
  have hTot := Tot.eq P B hbl
  obtain ⟨m, hm⟩ : ∃ m, m = hnx h := ⟨_, rfl⟩
  -- the object
  have k1 : hkd (hob h 5 9) m = 5 + 1 := by rw [hkd_hob, hm, if_pos rfl]
  obtain ⟨h2, eh2⟩ : ∃ z, z = sfi (sfi (sfr (sfr (hob h 5 9) 500 m (some tA)) 501 m (some pA)) 502 m (nn q)) 503 m (nn rn) := ⟨_, rfl⟩
  have e2 : C_X3_init m (some tA) (some pA) (nn q) (nn rn) (hob h 5 9) = some ((), h2) := by
    unfold C_X3_init
    show hpR 5 0 (some m) (some tA) _ (hob h 5 9) = _
    rw [e_pR k1, e_pR (by exact k1), e_pI (by exact k1), e_pZ (by
      rcases (show rn = 0 ∨ rn = 1 by omega) with z | z
      · left; rw [z]; rfl
      · right; rw [z]; rfl) (by exact k1), eh2]
    rfl
  have F2 : Fm x [] (fun _ => False) h h2 := by
    rw [eh2]
    exact (((Fm.rf.ob.fr (Or.inr (by omega)) (Or.inr (by omega))).fr (Or.inr (by omega)) (Or.inr (by omega))).fi (Or.inr (by omega)) (Or.inr (by omega))).fi (Or.inr (by omega)) (Or.inr (by omega))
  have n2 : hnx h2 = m + 1 := by rw [eh2, hm]; rfl
  have T2 : Stat x h2 := T.sto F2.1
  have P2 := (P.fm T F2 (Ro.rf (S := [])) (by decide) (fun _ _ _ z => z) (by decide)).1
  have C2 : Cg (hai h2 (cA x i + 2)) 0 bs := by rw [(F2.2.2 _ (by have := T.cl hi; omega) (fun z => z)).1]; exact hC
  have km2 : hkd h2 m = 6 := by rw [eh2]; exact k1
  have r2 : ∀ k, rwK x bs M h2 k = rwK x bs M h k := fun k => rwK.fm F2 T (fun z => z) (fun z => z)
  have s2 : hcs h2 = ((hcs h).1 + 1, (hcs h).2 + 9) := by rw [eh2]; rfl
  -- before LIFE
  obtain ⟨h3, e3, N3, W3, L3⟩ := qc_raw0 T2 P2 hi B C2 hbl (by rw [n2, Nat.add_sub_cancel, km2]; decide)
  rw [r2 1] at N3 W3
  rw [n2] at e3 W3 L3
  have n3 : hnx h3 = m + 3 := by rw [N3.2.1, n2]
  have k3 : hkd h3 m = 5 + 1 := by rw [(N3.1.1.2.1 m (by omega)).1, km2]
  obtain ⟨h4, eh4⟩ : ∃ z, z = sfr h3 504 m (some (m + 1 + 1)) := ⟨_, rfl⟩
  have F4 : Fm x [] (fun _ => False) h h4 := by
    rw [eh4]
    exact (F2.tr N3.1).fr (Or.inr (by omega)) (Or.inr (by omega))
  have n4 : hnx h4 = m + 3 := by rw [eh4]; exact n3
  have T4 : Stat x h4 := T.sto F4.1
  have P4 := (P.fm T F4 (Ro.rf (S := [])) (by decide) (fun _ _ _ z => z) (by decide)).1
  have C4 : Cg (hai h4 (cA x i + 2)) 0 bs := by rw [(F4.2.2 _ (by have := T.cl hi; omega) (fun z => z)).1]; exact hC
  have r4 : ∀ k, rwK x bs M h4 k = rwK x bs M h k := fun k => rwK.fm F4 T (fun z => z) (fun z => z)
  -- behind LIFE
  obtain ⟨h5, e5, N5, W5, L5⟩ := qc_raw1 T4 P4 hi B C4 hbl (by
    rw [n4, show m + 3 - 1 = m + 1 + 1 by omega, eh4, hkd_sfr, L3]
    decide) (by rw [r4 3, r4 8, r4 9]; omega)
  rw [r4 3, r4 8, r4 9] at N5 W5
  rw [n4] at e5 W5 L5
  have n5 : hnx h5 = m + 5 := by rw [N5.2.1, n4]
  have k5 : hkd h5 m = 5 + 1 := by
    rw [(N5.1.1.2.1 m (by omega)).1, eh4]
    exact k3
  obtain ⟨h6, eh6⟩ : ∃ z, z = sfr h5 505 m (some (m + 3 + 1)) := ⟨_, rfl⟩
  have F6 : Fm x [] (fun _ => False) h h6 := by
    rw [eh6]
    exact (F4.tr N5.1).fr (Or.inr (by omega)) (Or.inr (by omega))
  have n6' : hnx h6 = m + 5 := by rw [eh6]; exact n5
  -- the user's
  obtain ⟨h7, eh7⟩ : ∃ z, z = hob h6 9 1 := ⟨_, rfl⟩
  have F7 : Fm x [] (fun _ => False) h h7 := by
    rw [eh7]
    exact F6.ob
  have T7 : Stat x h7 := T.sto F7.1
  have n7 : hnx h7 = m + 6 := by rw [eh7, hnx_hob, n6']
  have P7 := (P.fm T F7 (Ro.rf (S := [])) (by decide) (fun _ _ _ z => z) (by decide)).1
  obtain ⟨G, e8, hG⟩ := qc_copyOf T7 P7.2.2.1.2.2.2.2.1 P7.2.2.1.2.2.1
  rw [n7] at e8
  obtain ⟨h8, eh8⟩ : ∃ z, z = sai (hay h7 0 U.length) (m + 6) G := ⟨_, rfl⟩
  rw [← eh8] at e8
  have k8 : hkd h8 (m + 5) = 9 + 1 := by
    rw [eh8, hkd_sai, hkd_hay, n7, if_neg (by omega), eh7, hkd_hob, n6', if_pos rfl]
  obtain ⟨h9, eh9⟩ : ∃ z, z = sfr h8 900 (m + 5) (some (m + 6)) := ⟨_, rfl⟩
  have e9 : C_X7_init (m + 5) (some (m + 6)) h8 = some ((), h9) := by
    unfold C_X7_init
    show hpR 9 0 (some (m + 5)) (some (m + 6)) (rt ()) h8 = _
    rw [e_pR k8, eh9]
    rfl
  have k9 : hkd h9 m = 5 + 1 := by
    rw [eh9, hkd_sfr, eh8, hkd_sai, hkd_hay, n7, if_neg (by omega), eh7, hkd_hob, n6', if_neg (by omega), eh6]
    exact k5
  have F9 : Fm x [] (fun _ => False) h h9 := by
    rw [eh9, eh8]
    exact ((F7.ay (by omega)).ai (Or.inr (by omega)) (fun z => by have := z.2.1; omega)).fr (Or.inr (by omega)) (Or.inr (by omega))
  obtain ⟨ha, eha⟩ : ∃ z, z = sfr h9 506 m (some (m + 5)) := ⟨_, rfl⟩
  have Fa : Fm x [] (fun _ => False) h ha := by
    rw [eha]
    exact F9.fr (Or.inr (by omega)) (Or.inr (by omega))
  have Ta : Stat x ha := T.sto Fa.1
  have Pa := (P.fm T Fa (Ro.rf (S := [])) (by decide) (fun _ _ _ z => z) (by decide)).1
  -- LIFE
  have ea : C_X4_get (x + 40) (2 : Int32) (-1 : Int64) ha = some (lifeK M r, ha) := by
    obtain ⟨⟨p1, p2, p3⟩, _⟩ := Ta.pra
    unfold C_X4_get lifeK
    rw [e_Cv Ta.pr, l_2, e_bd (qc_phas Ta Pa.1.1 Pa.1.2.1 (by omega))]
    by_cases g : M.testBit 2 = true
    · obtain ⟨s, e, _, _, _, _, _, _, a7, _⟩ := Pa.2.1 2 (by decide) (by decide) g
      obtain ⟨v, v1, v2, v3, _⟩ := a7 (by decide)
      rw [if_pos g, if_pos g, if_neg (by decide), e_gR Ta.pr, p1, e_Al p2 (nn_inr (by omega) (by omega)), nn_N (by omega), v2, v3]
      rfl
    · rw [if_neg g, if_neg g, if_pos rfl]
      rfl
  obtain ⟨hb, ehb⟩ : ∃ z, z = sfl ha 507 m (lifeK M r) := ⟨_, rfl⟩
  have Fb : Fm x [] (fun _ => False) h hb := by
    rw [ehb]
    exact Fa.fl (Or.inr (by omega)) (Or.inr (by omega))
  have ka : hkd ha m = 5 + 1 := by rw [eha]; exact k9
  have nb : hnx hb = m + 7 := by
    rw [ehb, hnx_sfl, eha, hnx_sfr, eh9, hnx_sfr, eh8, hnx_sai, hnx_hay, n7]
  have ev : C_X4_message (x + 40) (some tA) (some pA) (nn q) (nn rn) h = some (some m, hb) := by
    unfold C_X4_message
    rw [e_Nw, ← hm, e_Ci, e_bd e2, e_Cv T2.pr, e_bd e3, e_pR k3]
    show hCv 6 (some (x + 40)) _ _ (sfr h3 504 m (some (m + 1 + 1))) = _
    rw [← eh4, e_Cv T4.pr, e_bd e5, e_pR k5]
    show hNw 9 1 _ (sfr h5 505 m (some (m + 3 + 1))) = _
    rw [← eh6, e_Nw, ← eh7, n6', e_gR T7.pr, T7.pra.2.2.2.1, e_gI T7.pr, show hfi h7 (100 * 6 + 5) (x + 40) = nn U.length from P7.2.2.1.1, e_bd e8, e_Ci, e_bd e9, e_pR k9]
    show hCv 6 (some (x + 40)) _ _ (sfr h9 506 m (some (m + 5))) = _
    rw [← eha, e_Cv Ta.pr, e_bd ea, e_pL ka]
    show some (some m, sfl ha 507 m (lifeK M r)) = _
    rw [← ehb]
  have hg : ∀ f, f ≠ 506 → f ≠ 900 → hfr hb f m = hfr h6 f m := fun f z1 z2 => by
    rw [ehb, hfr_sfl, eha, hfr_sfr, if_neg (fun z => z1 z.1), eh9, hfr_sfr, if_neg (fun z => z2 z.1), eh8, hfr_sai, hfr_hay, eh7, hfr_hob, n6', if_neg (by omega)]
  have hgi : ∀ f, hfi hb f m = hfi h6 f m := fun f => by
    rw [ehb, hfi_sfl, eha, hfi_sfr, eh9, hfi_sfr, eh8, hfi_sai, hfi_hay, eh7, hfi_hob, n6', if_neg (by omega)]
  have h65 : ∀ f, f ≠ 505 → hfr h6 f m = hfr h4 f m := fun f z => by
    rw [eh6, hfr_sfr, if_neg (fun y => z y.1)]
    exact (N5.1.2.1 f (by exact List.not_mem_nil) m (by omega)).2.2
  have h65i : ∀ f, hfi h6 f m = hfi h2 f m := fun f => by
    rw [eh6, hfi_sfr, (N5.1.2.1 f (by exact List.not_mem_nil) m (by omega)).1, eh4, hfi_sfr]
    exact (N3.1.2.1 f (by exact List.not_mem_nil) m (by omega)).1
  have h42 : ∀ f, f ≠ 504 → hfr h4 f m = hfr h2 f m := fun f z => by
    rw [eh4, hfr_sfr, if_neg (fun y => z y.1)]
    exact (N3.1.2.1 f (by exact List.not_mem_nil) m (by omega)).2.2
  have wk6 : Wk h6 hb := by
    refine ⟨by omega, fun a ha' => ?_⟩
    rw [n6'] at ha'
    refine ⟨?_, ?_, ?_, ?_⟩
    · rw [ehb, hkd_sfl, eha, hkd_sfr, eh9, hkd_sfr, eh8, hkd_sai, hkd_hay, n7, if_neg (by omega), eh7, hkd_hob, n6', if_neg (by omega)]
    · rw [ehb, hln_sfl, eha, hln_sfr, eh9, hln_sfr, eh8, hln_sai, hln_hay, n7, if_neg (by omega), eh7, hln_hob]
    · rw [ehb, hfr_sfl, eha, hfr_sfr, if_neg (by omega), eh9, hfr_sfr, if_neg (by omega), eh8, hfr_sai, hfr_hay, eh7, hfr_hob, n6', if_neg (by omega)]
    · rw [ehb, hai_sfl, eha, hai_sfr, eh9, hai_sfr, eh8, hai_sai, if_neg (by omega), hai_hay, n7, if_neg (by omega), eh7, hai_hob]
  have wk5 : Wk h5 h6 := by
    rw [eh6]
    exact ⟨Nat.le_refl _, fun a _ => ⟨rfl, rfl, by rw [hfr_sfr, if_neg (by omega)], rfl⟩⟩
  have wk4 : Wk h3 h4 := by
    rw [eh4]
    exact ⟨Nat.le_refl _, fun a _ => ⟨rfl, rfl, by rw [hfr_sfr, if_neg (by omega)], rfl⟩⟩
  have wk5b : Wk h5 hb := wk5.tr wk6
  have wk3b : Wk h3 hb := wk4.tr (N5.wk.tr wk5b)
  rw [hm] at ev
  refine ⟨hb, ev, ?_, ⟨Fb, by rw [nb, hm], ?_, ?_⟩, ?_⟩
  · rw [← hm]
    refine ⟨?_, by omega, by omega, ⟨tA, ?_, ht.stp Fb.1⟩, ⟨pA, ?_, hpl.stp Fb.1⟩, ⟨m + 1 + 1, ?_, W3.wk wk3b⟩, ⟨m + 3 + 1, ?_, W5.wk wk5b⟩, ⟨m + 5, ?_, ?_, ?_, P.2.2.1.2.2.2.1, m + 6, ?_, ?_, ?_, ?_, ?_, ?_⟩, ?_, ?_, ?_⟩
    · rw [ehb]; exact ka
    · rw [hg 500 (by decide) (by decide), h65 500 (by decide), h42 500 (by decide), eh2, hfr_sfi, hfr_sfi, hfr_sfr, if_neg (by omega), hfr_sfr, if_pos ⟨rfl, rfl⟩]
    · rw [hg 501 (by decide) (by decide), h65 501 (by decide), h42 501 (by decide), eh2, hfr_sfi, hfr_sfi, hfr_sfr, if_pos ⟨rfl, rfl⟩]
    · rw [hg 504 (by decide) (by decide), h65 504 (by decide), eh4, hfr_sfr, if_pos ⟨rfl, rfl⟩]
    · rw [hg 505 (by decide) (by decide), eh6, hfr_sfr, if_pos ⟨rfl, rfl⟩]
    · rw [ehb, hfr_sfl, eha, hfr_sfr, if_pos ⟨rfl, rfl⟩]
    · rw [ehb, hkd_sfl, eha, hkd_sfr, eh9, hkd_sfr]; exact k8
    · omega
    · rw [ehb, hfr_sfl, eha, hfr_sfr, if_neg (by omega), eh9, hfr_sfr, if_pos ⟨rfl, rfl⟩]
    · omega
    · rw [ehb, hkd_sfl, eha, hkd_sfr, eh9, hkd_sfr, eh8, hkd_sai, hkd_hay, n7, if_pos rfl]
    · rw [ehb, hln_sfl, eha, hln_sfr, eh9, hln_sfr, eh8, hln_sai, hln_hay, n7, if_pos rfl]
    · rw [ehb, hai_sfl, eha, hai_sfr, eh9, hai_sfr, eh8, hai_sai, if_pos rfl]; exact hG
    · refine Or.inr ⟨by omega, by omega, ?_, ?_⟩
      · rw [ehb, hkd_sfl, eha, hkd_sfr, eh9, hkd_sfr, eh8, hkd_sai, hkd_hay, n7, if_pos rfl]
      · rw [show m + 6 - 1 = m + 5 by omega, ehb, hkd_sfl, eha, hkd_sfr, eh9, hkd_sfr, k8]; decide
    · rw [hgi, h65i, eh2, hfi_sfi, if_neg (by omega), hfi_sfi, if_pos ⟨rfl, rfl⟩]
    · rw [hgi, h65i, eh2, hfi_sfi, if_pos ⟨rfl, rfl⟩]
    · rw [ehb, hfl_sfl, if_pos ⟨rfl, rfl⟩]
  · rw [ehb, hcs_sfl, eha, hcs_sfr, eh9, hcs_sfr, eh8, hcs_sai, hc1_hay, eh7, hc1_hob, eh6, hcs_sfr, N5.2.2.1, eh4, hcs_sfr, N3.2.2.1, s2]
  · rw [ehb, hcs_sfl, eha, hcs_sfr, eh9, hcs_sfr, eh8, hcs_sai, hc2_hay, eh7, hc2_hob, eh6, hcs_sfr, N5.2.2.2, eh4, hcs_sfr, N3.2.2.2, s2, List.length_append, List.length_append]
    show (hcs h).2 + 9 + _ + _ + 1 + _ = _
    omega
  · rw [nb, show m + 7 - 1 = m + 6 by omega, ehb, hkd_sfl, eha, hkd_sfr, eh9, hkd_sfr, eh8, hkd_sai, hkd_hay, n7, if_pos rfl]
end CMS
