/-! ===== CONNECT, whole ===== -/
section CON
variable {x i p f fl ka oi ni c e a : Nat} {e0 : Int32} {h h' h0 : Hp} {r r' r0 : RS} {bs ys : List Nat} {l3 l4 l14 l15 l16 l17 l8 : Int32} {l6 l9 : Int64}
variable {kb : Int64 → Int64 → Int32 → Option Nat → Int32 → Int32 → Hp → Option ((Nat ⊕ Int32) × Hp)} {ke : Int32 → Hp → Option ((Nat ⊕ Int32) × Hp)} {y2 y4 : Int64} {y6 y8 y9 : Int32} {Φ : Nat ⊕ Int32 → Hp → Int32 → RS → Prop}
theorem Fm.gok {F : List Nat} {A : Nat → Prop} {m : Nat} (p : Fm x F A h0 h) (hm : hnx h0 ≤ m) : Fm x F A h0 (gk m h) := by
  refine ⟨⟨p.1.1, fun a ha => ⟨?_, (p.1.2.1 a ha).2⟩, p.1.2.2⟩, p.2⟩
  rw [kd_gk, if_neg (by omega)]
  exact (p.1.2.1 a ha).1
theorem Sg.gho (s : Sg x c e h0 h r0 r) (R : Rel x i 12 96 e0 h0 r0) (W : GrW x i bs (hnx h0) h r fl l3 l4 l14 l15 l16 l17) : Gho x i e0 h r := by
  intro m hm
  rcases W with ⟨_, c2⟩ | ⟨_, M, U, m', ot, nt, op, np, q, P, d1, d2, d3, d4, d5, d6, d7, d8, d9, d10, d11, d12, d12n, d13, d14, d15⟩
  · rw [c2] at hm
    cases hm
  · rw [d12] at hm
    cases hm
    exact ⟨Sg.rel (c := c) (e := e) ⟨s.1.gok d12n, s.2⟩ R, d13.2.2.1⟩
theorem grt_f (T : Stat x h) (F : Fa x f h) : C_X11_greeted x h = some (nn f, h) := by
  obtain ⟨k1, k2, k3⟩ := T.in3
  have e : hfi h (100 * 7 + 4) (x + 37) = nn f := F.1
  have z : ¬ nn f = 0 := nn_ne0 (by have := F.2.2; omega) F.2.1
  unfold C_X11_greeted C_X11_greeted_J43
  rw [e_gR k1, k2, e_gI T.rd, e, if_neg z, e_gR k1, k2, e_gI T.rd, e, if_neg z, e_gR k1, k2, e_gI T.rd, e]
  rfl
theorem grt_3 (T : Stat x h) (z : hfi h 704 (x + 37) = 0) : C_X11_greeted_J43 x h = some (3, h) := by
  obtain ⟨k1, k2, k3⟩ := T.in3
  have e : hfi h (100 * 7 + 4) (x + 37) = 0 := z
  unfold C_X11_greeted_J43
  rw [e_gR k1, k2, e_gI T.rd, e, if_pos rfl]
  rfl
/-- the greeting is good: is there room? -/
theorem grt_ok (R : Rel x i 12 96 e0 h r) (z : hfi h 704 (x + 37) = 0) (ha : hfr h 400 (x + 48) = some a) (W : Rw x h a ys) (hl : ys.length ≤ 405) :
    ((∀ s, s < 12 → r.2.1 11 s = 1) ∧ (∀ s, s < 12 → r.2.1 11 s = 1 → ¬ IdOf r s ys) ∧ C_X11_greeted x h = some (nn 151, sfi h 704 (x + 37) (nn 151))) ∨ (((∃ s, s < 12 ∧ r.2.1 11 s = 0) ∨ ∃ s, s < 12 ∧ r.2.1 11 s = 1 ∧ IdOf r s ys) ∧ C_X11_greeted x h = some (3, h)) := by
  have T := R.st
  obtain ⟨k1, k2, k3⟩ := T.in3
  have e : hfi h (100 * 7 + 4) (x + 37) = 0 := z
  have ha' : hfr h (100 * 4 + 0) (x + 48) = some a := ha
  have cl := csn_le (r := r) 12
  by_cases full : ∀ s, s < 12 → r.2.1 11 s = 1
  · have c12 : csn r 12 = 12 := (csn_full 12).mpr (fun s hs => by rw [full s hs]; decide)
    rcases qc_fnd R W hl with ⟨s, b, y1, y2, y3, _, y5⟩ | ⟨y1, y2⟩
    · refine Or.inr ⟨Or.inr ⟨s, y1, full s y1, y3⟩, ?_⟩
      unfold C_X11_greeted
      rw [e_gR k1, k2, e_gI T.rd, e, if_pos rfl, e_Cv k1, e_bd (qc_csn R), c12, if_pos (by decide), e_gR k1, T.gr.1, e_gR T.gr.2, ha', e_Cv k1, e_bd y5, if_neg (by simp)]
      exact grt_3 T z
    · refine Or.inl ⟨full, y1, ?_⟩
      have T1 : Stat x (sfi h 704 (x + 37) (nn 151)) := T.sto (Fm.fi (F := [704]) (A := fun _ => False) Fm.rf (Or.inl (by decide)) (Or.inl (by decide))).1
      have q : hfi (sfi h 704 (x + 37) (nn 151)) (100 * 7 + 4) (x + 37) = nn 151 := by
        show hfi (sfi h 704 (x + 37) (nn 151)) 704 (x + 37) = nn 151
        rw [hfi_sfi, if_pos ⟨rfl, rfl⟩]
      obtain ⟨j1, j2, j3⟩ := T1.in3
      unfold C_X11_greeted C_X11_greeted_J43
      rw [e_gR k1, k2, e_gI T.rd, e, if_pos rfl, e_Cv k1, e_bd (qc_csn R), c12, if_pos (by decide), e_gR k1, T.gr.1, e_gR T.gr.2, ha', e_Cv k1, e_bd y2, if_pos rfl, e_gR k1, k2, e_Cv T.rd, e_bd (qc_fail T z), show (151 : Int32) = nn 151 from rfl, e_gR j1, j2, e_gI T1.rd, q, if_neg (by decide), e_gR j1, j2, e_gI T1.rd, q]
      rfl
  · have fr : ∃ s, s < 12 ∧ r.2.1 11 s = 0 := by
      rcases free_or R.m11 with ⟨s, q1, q2, _⟩ | ⟨q, _⟩
      · exact ⟨s, q1, q2⟩
      · exact absurd q full
    have c12 : ¬ nn (csn r 12) = (12 : Int32) := fun w => by
      have w2 : csn r 12 = 12 := nn_inj (b := 12) (by omega) (by omega) w
      obtain ⟨s, q1, q2⟩ := fr
      exact (csn_full 12).mp w2 s q1 q2
    refine Or.inr ⟨Or.inl fr, ?_⟩
    unfold C_X11_greeted
    rw [e_gR k1, k2, e_gI T.rd, e, if_pos rfl, e_Cv k1, e_bd (qc_csn R), if_neg c12]
    exact grt_3 T z
def gKc (x i : Nat) (kb : Int64 → Int64 → Int32 → Option Nat → Int32 → Int32 → Hp → Option ((Nat ⊕ Int32) × Hp)) (ke : Int32 → Hp → Option ((Nat ⊕ Int32) × Hp)) (y2 y4 : Int64) (y6 y8 y9 : Int32) : Hp → Option ((Nat ⊕ Int32) × Hp) := bd (hCv 13 (some x) (fun a => C_X11_greeted a) fun r24 => rt (r24)) fun w => C_X11_feed_J126 x kb ke y2 y4 y6 (some (cA x i)) y8 y9 w
theorem gKc_ev {v : Int32} (T : Stat x h) (ev : C_X11_greeted x h = some (v, h')) : gKc x i kb ke y2 y4 y6 y8 y9 h = C_X11_feed_J126 x kb ke y2 y4 y6 (some (cA x i)) y8 y9 v h' := by
  unfold gKc
  rw [e_bd (show (hCv 13 (some x) (fun a => C_X11_greeted a) fun r24 => rt (r24)) h = some (v, h') from by rw [e_Cv T.in3.1, e_bd ev]; rfl)]
/-- a fault in a CONNECT -/
theorem con_hp (R : Rel x i 12 96 e0 h0 r0) (D : Rd x i bs p bs.length 0 h0 r0) (ho : r0.2.1 1 i = 1) (h208 : hfi h0 208 (cA x i) = 0) (hl2 : 2 ≤ bs.length) (s : Sg x (bs.length + 7) (bs.length + 420) h0 h r0 r) (f1 : f < 256) (f2 : 129 ≤ f) (e79 : r.1 79 = nn f)
    (kk : ∀ h' r', PE x i e0 bs.length h0 r0 h' r' → Sim (C_X11_feed_J169 x kb ke y2 y4 y6 (some (cA x i)) y8 y9) h' (R_look_J239 (nn i)) r' Φ) : Sim (C_X11_feed_J126 x kb ke y2 y4 y6 (some (cA x i)) y8 y9 (nn f)) h (mEnd i) r Φ := by
  have hi := D.2.2.1.1
  have c0 : hai h0 (cA x i + 2) 0 = nn (bs.getD 0 0) := by
    have := D.1.2.2.2 0 (by omega)
    rw [Nat.zero_add] at this
    exact this
  have m0 : r0.2.1 6 (410 * i) = sb (bs.getD 0 0) := D.2.1.2.2.2 0 (by omega)
  have wn := s.wn
  have s3 := s.2.2.1
  have s4 := s.2.2.2
  exact hp_end (h0 := h0) (r0 := r0) ⟨s.rel R, s.kp R.st hi, ⟨f, e79, rfl, f1, Or.inr f2⟩, by omega, by omega⟩ hi ho h208 (D.by.at 0) c0 m0 kk
theorem con_no (R : Rel x i 12 96 e0 h0 r0) (D : Rd x i bs p bs.length 0 h0 r0) (ho : r0.2.1 1 i = 1) (h208 : hfi h0 208 (cA x i) = 0) (hl2 : 2 ≤ bs.length)
    (kk : ∀ h' r', PE x i e0 bs.length h0 r0 h' r' → Sim (C_X11_feed_J169 x kb ke y2 y4 y6 (some (cA x i)) y8 y9) h' (R_look_J239 (nn i)) r' Φ) : GrNo x (bs.length + 7) (bs.length + 420) h0 r0 (gKc x i kb ke y2 y4 y6 y8 y9) (mEnd i) Φ := by
  intro h r f f0 f1 f2 s e704 e79
  have T := s.st R.st
  rw [Sim_l (gKc_ev T (grt_f T ⟨e704, f0, f1⟩))]
  exact con_hp R D ho h208 hl2 s f1 f2 e79 kk
theorem con_pe (R : Rel x i 12 96 e0 h0 r0) (hi : i < 8) (h208 : hfi h0 208 (cA x i) = 0) (hl8 : 8 ≤ bs.length) (s : Sg x (bs.length + 7) (bs.length + 420) h0 h r0 r) (E : EP x i e0 170 1100 15 h r h' r') : PE x i e0 bs.length h0 r0 h' r' := by
  have K := s.kp R.st hi
  have k4 := K.2.2.2
  have wn := s.wn
  have s3 := s.2.2.1
  have s4 := s.2.2.2
  obtain ⟨p1, p2, p3, p4, p5, p6, p7, p8⟩ := E
  refine ⟨p1, by rw [p2, K.2.2.1]; exact h208, (p3 67 (by decide)).trans (k4 67 (by decide)), by omega, by omega, fun i' g1 g2 => ?_, fun c hc => ?_, (p3 66 (by decide)).trans (k4 66 (by decide)), (p3 0 (by decide)).trans (k4 0 (by decide))⟩
  · have := p5 i' g1 g2
    rw [K.1.2.1] at this
    exact this
  · obtain ⟨a, b, d, q1, q2, q3, q4, q5, q6⟩ := hc
    exact (p6 c ⟨a, b, d, by rw [k4 71 (by decide)]; exact q1, by rw [k4 72 (by decide)]; exact q2, by rw [k4 73 (by decide)]; exact q3, q4, q5, q6⟩).le (by omega)
theorem sl_nil : sl bs oi 0 = [] := List.take_zero
/-- the class enters; the model goes on -/
theorem con_ent (R : Rel x i 12 96 e0 h r) (D : Rd x i bs bs.length bs.length 0 h r) (ho : r.2.1 1 i = 1) (h7 : r.2.1 7 i = -1) (hcn : Cn r 1000000) (G : GrD x bs h fl ka oi ni l6 l8 l9) (W : GrW x i bs (hnx h0) h r fl l3 l4 l14 l15 l16 l17) (g : Gho x i e0 h r) (hni : ni ≤ 20) (hK : hkd h (hnx h - 1) ≠ 108) (hfb : fl < 256) (room : (∃ s, s < 12 ∧ r.2.1 11 s = 0) ∨ ∃ s, s < 12 ∧ r.2.1 11 s = 1 ∧ IdOf r s (sl bs oi ni)) :
    Sim (C_X11_enter x (some (cA x i))) h (R_connect_J723 (nn fl) l3 l4 (nn ka) l6 l8 l9 (nn (410 * i + oi)) (nn ni) l14 l15 l16 l17) r (fun _ h' _ r' => EP x i e0 170 1100 15 h r h' r') := by
  have T := R.st
  have hi := D.2.2.1.1
  have hbl := D.2.2.1.2.2.1
  have z79 : r.1 79 = 0 := D.2.1.2.2.1
  obtain ⟨k1, k2, k3⟩ := T.in3
  obtain ⟨⟨a, a1, a2⟩, g2, GE⟩ := G
  have a1' : hfr h (100 * 4 + 0) (x + 48) = some a := a1
  have ll : (sl bs oi ni).length = ni := sl_len g2
  have ce : C_X11_enter x (some (cA x i)) h = (if nn ni = 0 then C_X11_enter_J18 x (some (cA x i)) (1 : Int32) else C_X11_enter_J18 x (some (cA x i)) (0 : Int32)) h := by
    unfold C_X11_enter
    rw [e_gR k1, T.gr.1, e_gR T.gr.2, a1', e_Cv (c := 9) a2.1, e_bd (qc_count a2), ll]
  have me : R_connect_J723 (nn fl) l3 l4 (nn ka) l6 l8 l9 (nn (410 * i + oi)) (nn ni) l14 l15 l16 l17 r = (if nn ni = 0 then (R_connect_J752 (nn fl) l3 l4 (nn ka) l6 l8 l9 (nn (410 * i + oi)) (nn ni) l14 l15 l16 l17 (-1 : Int32)) else (bd (R_client 6 (nn (410 * i + oi)) (nn ni)) fun r47 => R_connect_J752 (nn fl) l3 l4 (nn ka) l6 l8 l9 (nn (410 * i + oi)) (nn ni) l14 l15 l16 l17 r47)) r := by
    unfold R_connect_J723
    rw [x_rI, z79, if_pos rfl]
  have mn : (∃ s, s < 12 ∧ r.2.1 11 s = 0) → R_connect_J752 (nn fl) l3 l4 (nn ka) l6 l8 l9 (nn (410 * i + oi)) (nn ni) l14 l15 l16 l17 (-1 : Int32) r = R_connect_J774 (nn fl) l3 l4 (nn ka) l6 l8 l9 (nn (410 * i + oi)) (nn ni) l14 l15 l16 l17 (-1 : Int32) r := fun ⟨s, w1, w2⟩ => by
    rcases free_or R.m11 with ⟨s', q1, q2, _, q4⟩ | ⟨q, _⟩
    · unfold R_connect_J752
      rw [if_neg (by decide), e_bd q4, if_pos (nn_ge (by omega))]
    · rw [q s w1] at w2
      exact absurd w2 (by decide)
  rw [Sim_l ce, Sim_r me]
  by_cases z : ni = 0
  · subst z
    have nm : sl bs oi 0 = [] := sl_nil
    have fr : ∃ s, s < 12 ∧ r.2.1 11 s = 0 := by
      rcases room with q | ⟨s, q1, q2, q3⟩
      · exact q
      · rw [nm] at q3
        exact absurd q3 (id_ne R q1 q2)
    have m2 : R_connect_J774 (nn fl) l3 l4 (nn ka) l6 l8 l9 (nn (410 * i + oi)) (nn 0) l14 l15 l16 l17 (-1 : Int32) r = R_connect_J877 (nn fl) l3 l4 (nn ka) l6 l8 l9 (nn (410 * i + oi)) (nn 0) l14 l15 l16 l17 (-1 : Int32) (nn 1) r := by
      unfold R_connect_J774 R_connect_J784 R_connect_J831 R_connect_J858
      rw [if_pos (by decide), if_pos (by decide), if_pos (by decide), if_pos (by decide)]
      rfl
    rw [if_pos (show nn 0 = (0 : Int32) by decide), if_pos (show nn 0 = (0 : Int32) by decide), Sim_r ((mn fr).trans m2)]
    exact ent_auto R D ho h7 (hcn.le (by omega)) fr GE W g hfb hK
  · have zn : ¬ nn ni = (0 : Int32) := nn_ne0 (by omega) z
    have c2 : C_X11_enter_J18 x (some (cA x i)) (0 : Int32) h = C_X11_enter_J37 x (some (cA x i)) (nn 0) (some a) h := by
      unfold C_X11_enter_J18
      rw [if_pos rfl, e_gR k1, T.gr.1, e_gR T.gr.2, a1']
      rfl
    have m2 : ∀ s0, R_connect_J774 (nn fl) l3 l4 (nn ka) l6 l8 l9 (nn (410 * i + oi)) (nn ni) l14 l15 l16 l17 s0 r = R_connect_J784 (nn fl) l3 l4 (nn ka) l6 l8 l9 (nn (410 * i + oi)) (nn ni) l14 l15 l16 l17 s0 (nn 0) r := fun s0 => by
      unfold R_connect_J774
      rw [if_neg zn]
      rfl
    have mc := qm_cli (l1 := 6) (L := 3280) (o := 410 * i + oi) (ys := sl bs oi ni) R.m11 mL_6 (by omega) (by omega) (by omega) (D.2.1.2.2.2.slc g2)
    rw [ll] at mc
    rw [if_neg zn, if_neg zn, Sim_l c2]
    rcases mc with ⟨s, q1, q2, q3, _, q5⟩ | ⟨q1, q2⟩
    · have m3 : (bd (R_client 6 (nn (410 * i + oi)) (nn ni)) fun r47 => R_connect_J752 (nn fl) l3 l4 (nn ka) l6 l8 l9 (nn (410 * i + oi)) (nn ni) l14 l15 l16 l17 r47) r = R_connect_J784 (nn fl) l3 l4 (nn ka) l6 l8 l9 (nn (410 * i + oi)) (nn ni) l14 l15 l16 l17 (nn s) (nn 0) r := by
        rw [e_bd q5]
        unfold R_connect_J752
        rw [if_pos (nn_ge (by omega)), m2]
      rw [Sim_r m3]
      exact (ent_nm R D ho h7 (hcn.le (by omega)) GE W g hfb a2 ⟨by omega, hni⟩ g2 (Or.inr ⟨s, q1, rfl, q2, q3⟩)).mono (fun _ _ _ _ z => z.le (by omega) (by omega) (by omega))
    · have fr : ∃ s, s < 12 ∧ r.2.1 11 s = 0 := by
        rcases room with q | ⟨s, w1, w2, w3⟩
        · exact q
        · exact absurd w3 (q1 s w1 w2)
      have m3 : (bd (R_client 6 (nn (410 * i + oi)) (nn ni)) fun r47 => R_connect_J752 (nn fl) l3 l4 (nn ka) l6 l8 l9 (nn (410 * i + oi)) (nn ni) l14 l15 l16 l17 r47) r = R_connect_J784 (nn fl) l3 l4 (nn ka) l6 l8 l9 (nn (410 * i + oi)) (nn ni) l14 l15 l16 l17 (-1) (nn 0) r := by
        rw [e_bd q2, mn fr, m2]
      rw [Sim_r m3]
      exact (ent_nm R D ho h7 (hcn.le (by omega)) GE W g hfb a2 ⟨by omega, hni⟩ g2 (Or.inl ⟨rfl, q1, fr⟩)).mono (fun _ _ _ _ z => z.le (by omega) (by omega) (by omega))
theorem con_ok (R : Rel x i 12 96 e0 h0 r0) (D0 : Rd x i bs p bs.length 0 h0 r0) (ho : r0.2.1 1 i = 1) (h7 : r0.2.1 7 i = -1) (h208 : hfi h0 208 (cA x i) = 0) (hcn : Cn r0 1000000) (hl8 : 8 ≤ bs.length) (hfb : fl < 256)
    (kk : ∀ h' r', PE x i e0 bs.length h0 r0 h' r' → Sim (C_X11_feed_J169 x kb ke y2 y4 y6 (some (cA x i)) y8 y9) h' (R_look_J239 (nn i)) r' Φ) : GrOk x i bs h0 r0 (gKc x i kb ke y2 y4 y6 y8 y9) (mEnd i) Φ fl := by
  intro h r ka oi ni l6 l8 l9 l3 l4 l14 l15 l16 l17 s D G W hni hK
  have R1 := s.rel R
  have T := R1.st
  have hi := D.2.2.1.1
  have hbl := D.2.2.1.2.2.1
  have K := s.kp R.st hi
  have k4 := K.2.2.2
  have ho1 : r.2.1 1 i = 1 := by rw [K.1.1]; exact ho
  have h71 : r.2.1 7 i = -1 := by rw [K.1.2.2.2.1]; exact h7
  have hcn1 : Cn r 1000000 := by
    obtain ⟨a, b, d, q1, q2, q3, q4, q5, q6⟩ := hcn
    exact ⟨a, b, d, by rw [k4 71 (by decide)]; exact q1, by rw [k4 72 (by decide)]; exact q2, by rw [k4 73 (by decide)]; exact q3, q4, q5, q6⟩
  have g := s.gho R W
  have z79 : r.1 79 = 0 := D.2.1.2.2.1
  have z704 : hfi h 704 (x + 37) = 0 := D.1.2.2.1
  obtain ⟨⟨a, a1, a2⟩, g2, GE⟩ := id G
  have ll : (sl bs oi ni).length = ni := sl_len g2
  rcases grt_ok R1 z704 a1 a2 (by omega) with ⟨f1, f2, f3⟩ | ⟨f1, f2⟩
  · have mn : R_connect_J752 (nn fl) l3 l4 (nn ka) l6 l8 l9 (nn (410 * i + oi)) (nn ni) l14 l15 l16 l17 (-1 : Int32) r = some ((), sI r 79 (nn 151)) := by
      rcases free_or R1.m11 with ⟨s', q1, q2, _, q4⟩ | ⟨_, q⟩
      · rw [f1 s' q1] at q2
        exact absurd q2 (by decide)
      · unfold R_connect_J752
        rw [if_neg (by decide), e_bd q, if_neg (by decide), e_bd (qm_fails z79)]
        rfl
    have me : R_connect_J723 (nn fl) l3 l4 (nn ka) l6 l8 l9 (nn (410 * i + oi)) (nn ni) l14 l15 l16 l17 r = some ((), sI r 79 (nn 151)) := by
      unfold R_connect_J723
      rw [x_rI, z79, if_pos rfl]
      by_cases z : ni = 0
      · rw [if_pos (by rw [z]; decide)]
        exact mn
      · have mc := qm_cli (l1 := 6) (L := 3280) (o := 410 * i + oi) (ys := sl bs oi ni) R1.m11 mL_6 (by omega) (by omega) (by omega) (D.2.1.2.2.2.slc g2)
        rw [ll] at mc
        rcases mc with ⟨s', q1, q2, q3, _, q5⟩ | ⟨q1, q2⟩
        · exact absurd q3 (f2 s' q1 q2)
        · rw [if_neg (nn_ne0 (by omega) z), e_bd q2]
          exact mn
    rw [Sim_l (gKc_ev T f3), Sim_r (e_bd me)]
    exact con_hp R D0 ho h208 (by omega) ((s.tr (Sc.fl (x := x) (h := h) (r := r) (v := nn 151) (w := nn 151)).sg).le (by omega) (by omega)) (by omega) (by omega) (by rw [sI_1, if_pos rfl]) kk
  · rw [Sim_l (gKc_ev T f2)]
    unfold C_X11_feed_J126
    rw [sl_pos rfl, sl_Cv T.in3.1]
    refine Sim.seq (con_ent R1 D ho1 h71 hcn1 G W g hni hK hfb f1) (fun _ h' _ r' E => ?_)
    unfold mEnd
    rw [sr_r1 hi, E.2.2.2.1, ho1, sr_neg (by decide), sr_rI, E.2.2.1 79 (by decide), z79, sr_pos rfl]
    exact kk h' r' (con_pe R hi h208 hl8 s E)
theorem con_all : ConP x := by
  intro i p e0 h r bs ke y2 y4 y6 y8 y9 Φ R D ho h7 h208 hl hp2 ht hcn kk
  have T := R.st
  have hi := D.2.2.1.1
  have hpl := D.2.2.1.2.2.2.1
  have hb := D.by.at 0
  obtain ⟨k1, k2, k3⟩ := T.in3
  obtain ⟨fl, efl⟩ : ∃ z, z = bs.getD 0 0 % 16 := ⟨_, rfl⟩
  have hfl16 : fl < 16 := by omega
  rw [← efl]
  have e1 : conK x (nn fl) h = (bd (C_X2_read (x + 48) (some (x + 37)) (some (x + 40)) (nn fl)) fun _ => hCv 13 (some x) (fun a => C_X11_greeted a) fun r24 => rt (r24)) h := by
    unfold conK
    rw [e_gR k1, T.gr.1, e_gR k1, k2, e_gR k1, k3, e_Cv T.gr.2]
  have no := con_no R D ho h208 (by omega) kk
  have z79 : r.1 79 = 0 := D.2.1.2.2.1
  have m1 : R_take__J53 (nn 1) (nn fl) r = (if nn fl = 0 then (bd R_connect fun _ => rt ()) else R_take__J189) r := by
    unfold R_take__J53 R_take__J107 R_take__J108 R_take__J133 R_take__J199 lq
    rw [if_neg (by decide), if_neg (by decide), if_neg (by decide), if_neg (by decide), if_neg (by decide), if_neg (by decide), if_pos (by decide), x_rI, D.2.1.1, x_rA mL_7 hi (by omega), h7, if_pos (by decide), if_neg (by decide), if_neg (by decide), if_neg (by decide)]
    dsimp only
    rw [if_pos rfl, if_neg (by decide), if_pos (show nn 1 = (1 : Int32) by decide)]
  rw [Sim_l (bd_l e1), Sim_r (bd_l m1), bd_assoc]
  by_cases z : fl = 0
  · subst z
    have m2 : (if nn 0 = 0 then (bd R_connect fun _ => rt ()) else R_take__J189) r = (bd R_connect fun _ => rt ()) r := by
      rw [if_pos (by decide)]
    rw [Sim_r (bd_l m2), bd_assoc]
    have q := sim_greet (p := p) (h := h) (r := r) (fun h6 fl hfb => con_ok R D ho h7 h208 hcn (by omega) hfb kk) no T D hl
    exact q
  · have zn : ¬ nn fl = (0 : Int32) := nn_ne0 (by omega) z
    have D1 := D.fl (v := 129) (by omega) (by omega)
    have sf : Sc x 0 0 h (sfi h 704 (x + 37) (nn 129)) r (sI r 79 (nn 129)) := Sc.fl
    have T1 := sf.st T
    have F := D1.fa (by omega)
    have m2 : (if nn fl = 0 then (bd R_connect fun _ => rt ()) else R_take__J189) r = some ((), sI r 79 (nn 129)) := by
      rw [if_neg zn]
      unfold R_take__J189
      rw [e_bd (qm_fails z79)]
      rfl
    obtain ⟨h2, e2, s2, F2⟩ := g37_f (r := sI r 79 (nn 129)) T1 F
    have e3 : C_X2_read (x + 48) (some (x + 37)) (some (x + 40)) (nn fl) h = some ((), h2) := by
      unfold C_X2_read C_X5_expect
      rw [e_Cv T.rd, if_neg zn, e_bd (show (hCv 7 (some (x + 37)) (fun a => C_X5_fail a (129 : Int32)) fun _ => rt ()) h = some ((), sfi h 704 (x + 37) (nn 129)) from by rw [e_Cv T.rd, e_bd (qc_fail T D.1.2.2.1)]; rfl), e_Cv T1.rd, e_bd (qc_row_f T1 F), e_Cv (c := 9) T1.nil.1, e_bd (qc_count T1.nil), e_sLn, if_neg (show ¬ nn ([] : List Nat).length = nn (slen 1) by decide)]
      exact e2
    rw [Sim_l (e_bd e3), Sim_r (e_bd m2)]
    exact no h2 _ 129 (by omega) (by omega) (by omega) ((sf.sg.tr s2).le (by omega) (by omega)) F2.1 D1.2.1.2.2.1
end CON
