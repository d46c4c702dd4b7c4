/-! ===== CONNECT: an old session and a new one change hands ===== -/
section EN2
variable {x i s b a g au fl ka oi ni n0 sf nb : Nat} {e0 : Int32} {h h1 : Hp} {r r1 r' rN : RS} {bs ys : List Nat} {l3 l4 l14 l15 l16 l17 l8 : Int32} {l6 l9 : Int64}
theorem app_ev (T : Stat x h) (kb : hkd h b = 10 + 1) (hbx : x + 130 ≤ b) : C_X2_applyTo (x + 48) (some b) h = some ((), sfl (sfr (sfi (sfl (sfi (sfl h 1013 b (hfl h 403 (x + 48))) 1015 b (hfi h 404 (x + 48))) 1014 b (hfl h 405 (x + 48))) 1016 b (hfi h 402 (x + 48))) 1011 b (hfr h 406 (x + 48))) 1012 b (hfl h 407 (x + 48))) := by
  have k4 := T.gr.2
  have e5 : hfl (sfi (sfl h 1013 b (hfl h 403 (x + 48))) 1015 b (hfi h 404 (x + 48))) 405 (x + 48) = hfl h 405 (x + 48) := by
    rw [hfl_sfi, hfl_sfl, if_neg (by omega)]
  have e2 : hfi (sfl (sfi (sfl h 1013 b (hfl h 403 (x + 48))) 1015 b (hfi h 404 (x + 48))) 1014 b (hfl h 405 (x + 48))) 402 (x + 48) = hfi h 402 (x + 48) := by
    rw [hfi_sfl, hfi_sfi, if_neg (by omega), hfi_sfl]
  have e7 : hfl (sfr (sfi (sfl (sfi (sfl h 1013 b (hfl h 403 (x + 48))) 1015 b (hfi h 404 (x + 48))) 1014 b (hfl h 405 (x + 48))) 1016 b (hfi h 402 (x + 48))) 1011 b (hfr h 406 (x + 48))) 407 (x + 48) = hfl h 407 (x + 48) := by
    rw [hfl_sfr, hfl_sfi, hfl_sfl, if_neg (by omega), hfl_sfi, hfl_sfl, if_neg (by omega)]
  unfold C_X2_applyTo
  rw [e_gL k4, e_pL (c := 10) kb, e_gI (by exact k4), e_pI (c := 10) (by exact kb), e_gL (by exact k4), e_pL (c := 10) (by exact kb), e_gI (by exact k4), e_pI (c := 10) (by exact kb), e_gR (by exact k4), e_pR (c := 10) (by exact kb), e_gL (by exact k4), e_pL (c := 10) (by exact kb)]
  show some ((), sfl (sfr (sfi (sfl (sfi (sfl h 1013 b (hfl h 403 (x + 48))) 1015 b (hfi h 404 (x + 48))) 1014 b (hfl (sfi (sfl h 1013 b (hfl h 403 (x + 48))) 1015 b (hfi h 404 (x + 48))) 405 (x + 48))) 1016 b (hfi (sfl (sfi (sfl h 1013 b (hfl h 403 (x + 48))) 1015 b (hfi h 404 (x + 48))) 1014 b (hfl (sfi (sfl h 1013 b (hfl h 403 (x + 48))) 1015 b (hfi h 404 (x + 48))) 405 (x + 48))) 402 (x + 48))) 1011 b (hfr h 406 (x + 48))) 1012 b (hfl (sfr (sfi (sfl (sfi (sfl h 1013 b (hfl h 403 (x + 48))) 1015 b (hfi h 404 (x + 48))) 1014 b (hfl (sfi (sfl h 1013 b (hfl h 403 (x + 48))) 1015 b (hfi h 404 (x + 48))) 405 (x + 48))) 1016 b (hfi (sfl (sfi (sfl h 1013 b (hfl h 403 (x + 48))) 1015 b (hfi h 404 (x + 48))) 1014 b (hfl (sfi (sfl h 1013 b (hfl h 403 (x + 48))) 1015 b (hfi h 404 (x + 48))) 405 (x + 48))) 402 (x + 48))) 1011 b (hfr h 406 (x + 48))) 407 (x + 48))) = _
  rw [e5, e2, e7]
theorem j134_ev (T : Stat x h) (hi : i < 8) (kb : hkd h b = 10 + 1) (hbx : x + 130 ≤ b) : C_X11_enter_J134 x (some (cA x i)) (nn au) (some a) (some b) (nn g) h = tlC x i b a g au (sfr (atB x i b (hfl h 403 (x + 48)) (hfi h 404 (x + 48)) (hfl h 405 (x + 48)) (hfi h 402 (x + 48)) (hfl h 407 (x + 48)) h) 1011 b (hfr h 406 (x + 48))) := by
  obtain ⟨c1, _⟩ := T.pk hi
  unfold C_X11_enter_J134
  rw [if_neg (by simp), e_gR (c := 13) T.2.1.1, T.gr.1, e_Cv T.gr.2, e_bd (app_ev T kb hbx), e_pR (c := 10) (by exact kb), e_pR (c := 2) (by exact c1)]
  have e : sfr (sfr (sfl (sfr (sfi (sfl (sfi (sfl h 1013 b (hfl h 403 (x + 48))) 1015 b (hfi h 404 (x + 48))) 1014 b (hfl h 405 (x + 48))) 1016 b (hfi h 402 (x + 48))) 1011 b (hfr h 406 (x + 48))) 1012 b (hfl h 407 (x + 48))) 1002 b (some (cA x i))) 202 (cA x i) (some b) = sfr (atB x i b (hfl h 403 (x + 48)) (hfi h 404 (x + 48)) (hfl h 405 (x + 48)) (hfi h 402 (x + 48)) (hfl h 407 (x + 48)) h) 1011 b (hfr h 406 (x + 48)) := by
    unfold atB
    rw [sfr_comm (f := 202) (f' := 1011) (by decide), sfr_comm (f := 1002) (f' := 1011) (by decide)]
    rfl
  show tlC x i b a g au (sfr (sfr (sfl (sfr (sfi (sfl (sfi (sfl h 1013 b (hfl h 403 (x + 48))) 1015 b (hfi h 404 (x + 48))) 1014 b (hfl h 405 (x + 48))) 1016 b (hfi h 402 (x + 48))) 1011 b (hfr h 406 (x + 48))) 1012 b (hfl h 407 (x + 48))) 1002 b (some (cA x i))) 202 (cA x i) (some b)) = _
  rw [e]
theorem m979_ev (hs : s < 12) (hi : i < 8) (h75 : r.1 75 = nn i) : R_connect_J979 (nn fl) l3 l4 (nn ka) l6 l8 l9 l14 l15 l16 l17 (nn s) (nn au) (nn g) r = mFn fl l3 l4 l14 l15 l16 l17 s au g (atM (sA r 20 s (-1)) s i l6 l8 l9 (nn ka)) := by
  unfold R_connect_J979
  rw [x_wA mL_20 hs (by omega), x_wL mL_22 hs (by omega), x_wL mL_23 hs (by omega), x_rI, show (sL (sL (sA r 20 s (-1)) 22 s (-1)) 23 s (-1)).1 75 = nn i from h75, x_wA mL_15 hs (by omega), x_rI, show (sA (sL (sL (sA r 20 s (-1)) 22 s (-1)) 23 s (-1)) 15 s (nn i)).1 75 = nn i from h75, x_wA mL_7 hi (by omega), x_wL mL_16 hs (by omega), x_wA mL_17 hs (by omega), x_wL mL_18 hs (by omega), x_wA mL_19 hs (by omega)]
  rfl
/-- what a CONNECT leaves, so far -/
def EP (x i : Nat) (e0 : Int32) (c e n : Nat) (h : Hp) (r : RS) (h' : Hp) (r' : RS) : Prop := Rel x i 12 96 e0 h' r' ∧ hfi h' 208 (cA x i) = hfi h 208 (cA x i) ∧ (∀ k ∈ [0, 66, 67, 79], r'.1 k = r.1 k) ∧ r'.2.1 1 i = r.2.1 1 i ∧ (∀ i', i' < 8 → i' ≠ i → iN (r'.2.1 5 i') ≤ iN (r.2.1 5 i')) ∧ (∀ c, Cn r c → Cn r' (c + n)) ∧ (hcs h').1 + WN r' ≤ (hcs h).1 + WN r + c ∧ (hcs h').2 + 6 * WN r' ≤ (hcs h).2 + 6 * WN r + e
theorem EP.tr {c e n c' e' n' : Nat} {h h1 h2 : Hp} {r r1 r2 : RS} (p : EP x i e0 c e n h r h1 r1) (q : EP x i e0 c' e' n' h1 r1 h2 r2) : EP x i e0 (c + c') (e + e') (n + n') h r h2 r2 := by
  obtain ⟨p1, p2, p3, p4, p5, p6, p7, p8⟩ := p
  obtain ⟨q1, q2, q3, q4, q5, q6, q7, q8⟩ := q
  refine ⟨q1, q2.trans p2, fun k hk => (q3 k hk).trans (p3 k hk), q4.trans p4, fun i' g1 g2 => Nat.le_trans (q5 i' g1 g2) (p5 i' g1 g2), fun c hc => ?_, by omega, by omega⟩
  have := q6 _ (p6 c hc)
  rw [Nat.add_assoc] at this
  exact this
theorem EP.le {c e n c' e' n' : Nat} {h h1 : Hp} {r r1 : RS} (p : EP x i e0 c e n h r h1 r1) (l1 : c ≤ c') (l2 : e ≤ e') (l3 : n ≤ n') : EP x i e0 c' e' n' h r h1 r1 := by
  obtain ⟨p1, p2, p3, p4, p5, p6, p7, p8⟩ := p
  exact ⟨p1, p2, p3, p4, p5, fun c hc => (p6 c hc).le (by omega), by omega, by omega⟩
/-- the class's greeting and the model's locals -/
theorem GrE.vals (G : GrE x h fl ka l6 l8 l9) : hfl h 403 (x + 48) = l6 ∧ hfi h 404 (x + 48) = l8 ∧ hfi h 402 (x + 48) = nn ka ∧ (∃ e, e ≤ 4294967295 ∧ l6 = n6 e) ∧ (∃ k, 1 ≤ k ∧ k ≤ 65535 ∧ l8 = nn k) ∧ ((hfl h 405 (x + 48) = -1 ∧ l9 = 9223372036854775807) ∨ ∃ z, 1 ≤ z ∧ z ≤ 4294967295 ∧ hfl h 405 (x + 48) = n6 z ∧ l9 = n6 z) ∧ ∃ k, k ≤ 65535 ∧ nn ka = nn k := by
  obtain ⟨_, ⟨g2, g3⟩, ⟨g4, g5⟩, ⟨g6, g7⟩, g8⟩ := G
  exact ⟨g4, g6, g2, g5, g7, g8, ka, by omega, rfl⟩
/-- an old session, offline: taken up -/
theorem ent_old (R : Rel x i 12 96 e0 h r) (D : Rd x i bs bs.length bs.length 0 h r) (ho : r.2.1 1 i = 1) (h7 : r.2.1 7 i = -1) (hs : s < 12) (hb : har h (x + 34) s = some b) (h15 : r.2.1 15 s = -1) (G : GrE x h fl ka l6 l8 l9) (GW : GrW x i bs n0 h r fl l3 l4 l14 l15 l16 l17) (hN : ∀ m, hfr h 406 (x + 48) = some m → Rel x i 12 96 e0 (gk m h) r) (hfb : fl < 256) (W : Rw x h a ys) (hl : ys.length ≤ 20) (hid : IdOf r s ys) :
    Sim (C_X11_enter_J134 x (some (cA x i)) (nn 0) (some a) (some b) (nn 1)) h (R_connect_J979 (nn fl) l3 l4 (nn ka) l6 l8 l9 l14 l15 l16 l17 (nn s) (nn 0) (nn 1)) r (fun _ h' _ r' => EP x i e0 130 800 0 h r h' r') := by
  have T := R.st
  have hx := T.1
  have hi := D.2.2.1.1
  have hcl := T.cl hi
  have Sb := R.ses hs hb
  have hbx := Sb.1.2.1
  have hbl4 := Sb.1.2.2.1
  have cdef : cA x i = x + 2 + 4 * i := rfl
  obtain ⟨u1, u2, u3, u4, u5, u6, u7⟩ := G.vals
  rw [Sim_l (j134_ev T hi Sb.1.1 hbx), Sim_r (m979_ev hs hi D.2.1.1), u1, u2, u3]
  have R1 := R.att (l9 := l9) (dw := hfl h 407 (x + 48)) hi ho h7 hs hb h15 (Or.inr rfl) u4 u5 u6 u7
  have p0 : Fm x [1011] (fun _ => False) h (sfr h 1011 b none) := Fm.fr Fm.rf (Or.inl (by decide)) (Or.inl (by decide))
  have p1 := atB.fm (x := x) (i := i) (b := b) (l6 := l6) (l8 := l8) (lw := hfl h 405 (x + 48)) (lk := nn ka) (dw := hfl h 407 (x + 48)) (h := sfr h 1011 b none)
  have hNr : ∀ m, hfr h 406 (x + 48) = some m → NR x (atB x i b l6 l8 (hfl h 405 (x + 48)) (nn ka) (hfl h 407 (x + 48)) (sfr h 1011 b none)) (atM (sA r 20 s (-1)) s i l6 l8 l9 (nn ka)) m := fun m hm => by
    have Rg := (hN m hm).att (l9 := l9) (dw := hfl h 407 (x + 48)) (lw := hfl h 405 (x + 48)) hi ho h7 hs (show har (gk m h) (x + 34) s = some b from hb) h15 (Or.inr rfl) u4 u5 u6 u7
    exact NR.of (m := m) Rg
  have hF : sfr (atB x i b l6 l8 (hfl h 405 (x + 48)) (nn ka) (hfl h 407 (x + 48)) h) 1011 b (hfr h 406 (x + 48)) = sfr (atB x i b l6 l8 (hfl h 405 (x + 48)) (nn ka) (hfl h 407 (x + 48)) (sfr h 1011 b none)) 1011 b (hfr h 406 (x + 48)) := by
    rw [atB_w, sfr_sfr]
  rw [hF]
  obtain ⟨h1, eh1⟩ : ∃ z, z = atB x i b l6 l8 (hfl h 405 (x + 48)) (nn ka) (hfl h 407 (x + 48)) (sfr h 1011 b none) := ⟨_, rfl⟩
  obtain ⟨r1, er1⟩ : ∃ z, z = atM (sA r 20 s (-1)) s i l6 l8 l9 (nn ka) := ⟨_, rfl⟩
  rw [← eh1, ← er1] at R1
  rw [← eh1, ← er1]
  simp only [← eh1, ← er1] at hNr
  rw [← eh1] at p1
  have p : Fm x [202, 1002, 1011, 1012, 1013, 1014, 1015, 1016] (fun _ => False) h h1 := (p0.sub (by decide) (fun _ z => z)).tr (p1.sub (by decide) (fun _ z => z))
  have w1 : Ro [7, 15, 16, 17, 18, 19, 20, 22, 23] r r1 := by
    rw [er1]
    exact ((Ro.rf (S := [7, 15, 16, 17, 18, 19, 20, 22, 23])).a (by decide)).tr (atM.ro.sub (by decide))
  have d15 : r1.2.1 15 s = nn i := by
    rw [er1]; unfold atM
    rw [sA_o (by decide), sL_2, sA_o (by decide), sL_2, sA_o (by decide), sA_2, if_pos ⟨rfl, rfl⟩]
  have d7 : r1.2.1 7 i = nn s := by
    rw [er1]; unfold atM
    rw [sA_o (by decide), sL_2, sA_o (by decide), sL_2, sA_2, if_pos ⟨rfl, rfl⟩]
  have d20 : r1.2.1 20 s = -1 := by
    rw [er1, atM.ro.gA (by decide), sA_2, if_pos ⟨rfl, rfl⟩]
  have f1002 : hfr h1 1002 b = some (cA x i) := by
    rw [eh1]; unfold atB
    rw [hfr_sfr, if_neg (by omega), hfr_sfr, if_pos ⟨rfl, rfl⟩]
  have f1011 : hfr h1 1011 b = none := by
    rw [p1.gr (by decide) (show b < hnx (sfr h 1011 b none) by show b < hnx h; omega), hfr_sfr, if_pos ⟨rfl, rfl⟩]
  have f1012 : hfl h1 1012 b = hfl h 407 (x + 48) := by
    rw [eh1]; unfold atB
    show hfl (sfl (sfi (sfl (sfi (sfl (sfr h 1011 b none) 1013 b l6) 1015 b l8) 1014 b (hfl h 405 (x + 48))) 1016 b (nn ka)) 1012 b (hfl h 407 (x + 48))) 1012 b = _
    rw [hfl_sfl, if_pos ⟨rfl, rfl⟩]
  have e34 : har h1 (x + 34) s = some b := by rw [(p.2.2 (x + 34) (by omega) (fun z => z)).2.1]; exact hb
  have GW1 := GW.fm T p w1 (by decide) (fun _ _ _ z => z) (by decide)
  have id1 : IdOf r1 s ys := by
    unfold IdOf
    rw [w1.gA (k := 13) (by decide), w1.gA (k := 14) (by decide)]
    exact hid
  refine (ent_fin (mw := hfr h 406 (x + 48)) R1 hi (by rw [w1.gI (by decide)]; exact D.2.1.1) (by omega) (by omega) hs e34 f1002 d15 d7 f1011 d20 (by rw [f1012, p.gl (by decide) (by omega)]) (W.stp p.1) hl id1 GW1 (p.gr (by decide) (by omega)) hNr hfb D.by D.2.2.1.2.2.1 (by rw [w1.gA (by decide)]; exact D.2.1.2.2.2)).mono (fun _ h' _ r' z => ?_)
  obtain ⟨z1, z2, z3, z4, z5⟩ := z
  have hx1 := R1.st.1
  have hcl1 := R1.st.cl hi
  have c1' : hcs h1 = hcs h := by rw [eh1]; rfl
  have wz : Ro ([7, 15, 16, 17, 18, 19, 22, 23] ++ enS) r r' := (w1.sub (by decide)).tr (z3.sub (by decide))
  have nw : WN r1 ≤ WN r + 24 := by
    refine WN.up1 hs (fun t _ ht => ?_) ?_
    · have e20 : r1.2.1 20 t = r.2.1 20 t := by rw [er1, atM.ro.gA (by decide), sA_2, if_neg (fun z => ht z.2)]
      have e15 : r1.2.1 15 t = r.2.1 15 t := by
        rw [er1]; unfold atM
        rw [sA_o (by decide), sL_2, sA_o (by decide), sL_2, sA_o (by decide), sA_2, if_neg (fun z => ht z.2), sL_2, sL_2, sA_o (by decide)]
      unfold wl
      rw [w1.gA (k := 11) (by decide), e20, e15, w1.gA (k := 38) (by decide)]
      exact Nat.le_refl _
    · unfold wl
      rw [w1.gA (k := 11) (by decide), d20, if_neg (show ¬ (0 : Int32) ≤ -1 by decide), d15, if_neg (nn_neg (by omega))]
      by_cases z : r.2.1 11 s = 1
      · rw [if_pos z, if_pos z]
        omega
      · rw [if_neg z, if_neg z]
        omega
  refine ⟨z1, ?_, fun k hk => ?_, by rw [wz.gA (by decide)], fun i' _ _ => by rw [wz.gA (by decide)]; exact Nat.le_refl _, fun c hc => ?_, by rw [z4, c1']; omega, by rw [z4, c1']; omega⟩
  · rw [z2.gi (by decide) (by omega), p.gi (by decide) (by omega)]
  · refine wz.gI ?_
    simp only [List.mem_cons, List.not_mem_nil, or_false] at hk
    rcases hk with rfl | rfl | rfl | rfl <;> decide
  · obtain ⟨a', b', d', q1, q2, q3, q4, q5, q6⟩ := hc
    exact ⟨a', b', d', by rw [wz.gI (by decide)]; exact q1, by rw [wz.gI (by decide)]; exact q2, by rw [wz.gI (by decide)]; exact q3, by omega, by omega, by omega⟩
/-- a new session -/
theorem ent_ns (R : Rel x i 12 96 e0 h r) (D : Rd x i bs bs.length bs.length 0 h r) (ho : r.2.1 1 i = 1) (h7 : r.2.1 7 i = -1) (hau : au ≤ 1) (hs : sf < 12) (h11 : r.2.1 11 sf = 0) (hlt : ∀ s', s' < sf → r.2.1 11 s' = 1) (G : GrE x h fl ka l6 l8 l9) (GW : GrW x i bs n0 h r fl l3 l4 l14 l15 l16 l17) (hN : ∀ m, hfr h 406 (x + 48) = some m → NR x h r m) (hfb : fl < 256) (W : Rw x h a ys) (hl : 1 ≤ ys.length ∧ ys.length ≤ 20) (fresh : ∀ s, s < 12 → r.2.1 11 s = 1 → ¬ IdOf r s ys)
    (w0 : Ho sf 8 r rN) (wr : Ro [11, 12, 13, 14, 73, 90] r rN) (n11 : rN.2.1 11 sf = 1) (n12 : rN.2.1 12 sf = nn (nb + 1)) (n73 : rN.1 73 = nn (nb + 1)) (h73 : r.1 73 = nn nb) (hnb : nb < 1000000000) (nid : IdOf rN sf ys) :
    Sim (bd (C_X11_makeSession x (some a)) fun r6 => C_X11_enter_J134 x (some (cA x i)) (nn au) (some a) r6 (nn 0)) h (R_connect_J979 (nn fl) l3 l4 (nn ka) l6 l8 l9 l14 l15 l16 l17 (nn sf) (nn au) (nn 0)) rN (fun _ h' _ r' => EP x i e0 140 900 1 h r h' r') := by
  have T := R.st
  have hx := T.1
  have hi := D.2.2.1.1
  have hcl := T.cl hi
  have cdef : cA x i = x + 2 + 4 * i := rfl
  obtain ⟨em, P⟩ := qc_make (a := a) R hs h11 hlt
  obtain ⟨hB, ehB⟩ : ∃ z, z = nsH x h sf a := ⟨_, rfl⟩
  rw [← ehB] at em P
  have P0 := P
  obtain ⟨q1, q2, q3, q4, q5, q6, q7, q8, q9, q10, q11⟩ := P0
  obtain ⟨b, eb⟩ : ∃ z, z = hnx h := ⟨_, rfl⟩
  rw [← eb] at q5 q6
  have TB := T.sto q2.1
  have hxB := TB.1
  have e75 : rN.1 75 = nn i := by rw [wr.gI (by decide)]; exact D.2.1.1
  have GB := G.fm T q2 (by decide)
  have gF : ∀ f, f ∈ [406] → hfr hB f (x + 48) = hfr h f (x + 48) := fun f _ => q2.gr (by exact List.not_mem_nil) (by omega)
  obtain ⟨u1, u2, u3, u4, u5, u6, u7⟩ := GB.vals
  have f406 : hfr hB 406 (x + 48) = hfr h 406 (x + 48) := q2.gr (by exact List.not_mem_nil) (by omega)
  rw [Sim_l (e_bd em), ← eb, Sim_l (j134_ev TB hi q6.1 (by omega)), Sim_r (m979_ev hs hi e75), u1, u2, u3, f406]
  obtain ⟨R1, nr1⟩ := R.nsn (dw := hfl hB 407 (x + 48)) (lw := hfl hB 405 (x + 48)) (l6 := l6) (l8 := l8) (l9 := l9) (lk := nn ka) hi ho h7 hs h11 W hl fresh P w0 wr n11 n12 n73 h73 hnb nid u4 u5 u6 u7
  rw [← eb] at R1 nr1
  have p0 : Fm x [1011] (fun _ => False) hB (sfr hB 1011 b none) := Fm.fr Fm.rf (Or.inl (by decide)) (Or.inl (by decide))
  have p1 := atB.fm (x := x) (i := i) (b := b) (l6 := l6) (l8 := l8) (lw := hfl hB 405 (x + 48)) (lk := nn ka) (dw := hfl hB 407 (x + 48)) (h := sfr hB 1011 b none)
  have hF : sfr (atB x i b l6 l8 (hfl hB 405 (x + 48)) (nn ka) (hfl hB 407 (x + 48)) hB) 1011 b (hfr h 406 (x + 48)) = sfr (atB x i b l6 l8 (hfl hB 405 (x + 48)) (nn ka) (hfl hB 407 (x + 48)) (sfr hB 1011 b none)) 1011 b (hfr h 406 (x + 48)) := by
    rw [atB_w, sfr_sfr]
  rw [hF]
  obtain ⟨h1, eh1⟩ : ∃ z, z = atB x i b l6 l8 (hfl hB 405 (x + 48)) (nn ka) (hfl hB 407 (x + 48)) (sfr hB 1011 b none) := ⟨_, rfl⟩
  obtain ⟨r1, er1⟩ : ∃ z, z = atM (sA rN 20 sf (-1)) sf i l6 l8 l9 (nn ka) := ⟨_, rfl⟩
  rw [← eh1, ← er1] at R1 nr1
  rw [← eh1, ← er1]
  rw [← eh1] at p1
  have pB : Fm x [202, 1002, 1011, 1012, 1013, 1014, 1015, 1016] (fun _ => False) hB h1 := (p0.sub (by decide) (fun _ z => z)).tr (p1.sub (by decide) (fun _ z => z))
  have p : Fm x [202, 1002, 1011, 1012, 1013, 1014, 1015, 1016] (fun q => q = x + 34) h h1 := (q2.sub (by decide) (fun _ z => z)).tr (pB.sub (by decide) (fun _ z => z.elim))
  have wN : Ro [7, 15, 16, 17, 18, 19, 20, 22, 23] rN r1 := by
    rw [er1]
    exact ((Ro.rf (S := [7, 15, 16, 17, 18, 19, 20, 22, 23])).a (by decide)).tr (atM.ro.sub (by decide))
  have w1 : Ro [7, 11, 12, 13, 14, 15, 16, 17, 18, 19, 20, 22, 23, 73, 90] r r1 := (wr.sub (by decide)).tr (wN.sub (by decide))
  have d15 : r1.2.1 15 sf = nn i := by
    rw [er1]; unfold atM
    rw [sA_o (by decide), sL_2, sA_o (by decide), sL_2, sA_o (by decide), sA_2, if_pos ⟨rfl, rfl⟩]
  have d7 : r1.2.1 7 i = nn sf := by
    rw [er1]; unfold atM
    rw [sA_o (by decide), sL_2, sA_o (by decide), sL_2, sA_2, if_pos ⟨rfl, rfl⟩]
  have d20 : r1.2.1 20 sf = -1 := by
    rw [er1, atM.ro.gA (by decide), sA_2, if_pos ⟨rfl, rfl⟩]
  have hbB : b < hnx hB := by omega
  have f1002 : hfr h1 1002 b = some (cA x i) := by
    rw [eh1]; unfold atB
    rw [hfr_sfr, if_neg (by omega), hfr_sfr, if_pos ⟨rfl, rfl⟩]
  have f1011 : hfr h1 1011 b = none := by
    rw [p1.gr (by decide) (show b < hnx (sfr hB 1011 b none) from hbB), hfr_sfr, if_pos ⟨rfl, rfl⟩]
  have f1012 : hfl h1 1012 b = hfl hB 407 (x + 48) := by
    rw [eh1]; unfold atB
    show hfl (sfl (sfi (sfl (sfi (sfl (sfr hB 1011 b none) 1013 b l6) 1015 b l8) 1014 b (hfl hB 405 (x + 48))) 1016 b (nn ka)) 1012 b (hfl hB 407 (x + 48))) 1012 b = _
    rw [hfl_sfl, if_pos ⟨rfl, rfl⟩]
  have e34 : har h1 (x + 34) sf = some b := by rw [(pB.2.2 (x + 34) (by omega) (fun z => z)).2.1]; exact q5
  have GW1 := GW.fm T p w1 (by decide) (fun q h1 h2 z => by omega) (by decide)
  have id1 : IdOf r1 sf ys := by
    unfold IdOf
    rw [wN.gA (k := 13) (by decide), wN.gA (k := 14) (by decide)]
    exact nid
  refine (ent_fin (mw := hfr h 406 (x + 48)) R1 hi (by rw [w1.gI (by decide)]; exact D.2.1.1) (by omega) hau hs e34 f1002 d15 d7 f1011 d20 (by rw [f1012, pB.gl (by decide) (by omega)]) (W.stp p.1) hl.2 id1 GW1 (p.gr (by decide) (by omega)) (fun m hm => nr1 m (hN m hm)) hfb D.by D.2.2.1.2.2.1 (by rw [w1.gA (by decide)]; exact D.2.1.2.2.2)).mono (fun _ h' _ r' z => ?_)
  obtain ⟨z1, z2, z3, z4, z5⟩ := z
  have hx1 := R1.st.1
  have hcl1 := R1.st.cl hi
  have c1' : hcs h1 = hcs hB := by rw [eh1]; rfl
  have wz : Ro ([7, 11, 12, 13, 14, 15, 16, 17, 18, 19, 22, 23, 73, 90] ++ enS) r r' := (w1.sub (by decide)).tr (z3.sub (by decide))
  have nw : WN r1 ≤ WN r + 24 := by
    refine WN.up1 hs (fun t ht12 ht => ?_) ?_
    · have hN' : ∀ k, k ∈ [11, 20, 15, 38] → rN.2.1 k t = r.2.1 k t := fun k hk => by
        refine (w0.2 k t (fun z => ?_)).1
        simp only [List.mem_cons, List.not_mem_nil, or_false] at hk
        rcases z with z | z | z | z | z | z
        · omega
        · have : ow k t = t := by
            unfold ow
            rw [if_neg (by omega), if_neg (by omega), if_neg (by omega), if_neg (by omega), if_neg (by omega)]
          omega
        · omega
        · omega
        · omega
        · omega
      have e20 : r1.2.1 20 t = r.2.1 20 t := by rw [er1, atM.ro.gA (by decide), sA_2, if_neg (fun z => ht z.2)]; exact hN' 20 (by decide)
      have e15 : r1.2.1 15 t = r.2.1 15 t := by
        rw [er1]; unfold atM
        rw [sA_o (by decide), sL_2, sA_o (by decide), sL_2, sA_o (by decide), sA_2, if_neg (fun z => ht z.2), sL_2, sL_2, sA_o (by decide)]
        exact hN' 15 (by decide)
      unfold wl
      rw [wN.gA (k := 11) (by decide), hN' 11 (by decide), e20, e15, wN.gA (k := 38) (by decide), hN' 38 (by decide)]
      exact Nat.le_refl _
    · unfold wl
      rw [h11, if_neg (show ¬ (0 : Int32) = 1 by decide), d20, if_neg (show ¬ (0 : Int32) ≤ -1 by decide), d15, if_neg (nn_neg (by omega))]
      by_cases z : r1.2.1 11 sf = 1
      · rw [if_pos z]; omega
      · rw [if_neg z]; omega
  have z79 : r'.1 73 = nn (nb + 1) := by rw [z3.gI (by decide), wN.gI (by decide)]; exact n73
  refine ⟨z1, ?_, fun k hk => ?_, by rw [wz.gA (by decide)], fun i' _ _ => by rw [wz.gA (by decide)]; exact Nat.le_refl _, fun c hc => ?_, by rw [z4, c1', q10]; omega, by rw [z4, c1', q11]; omega⟩
  · rw [z2.gi (by decide) (by omega), p.gi (by decide) (by omega)]
  · refine wz.gI ?_
    simp only [List.mem_cons, List.not_mem_nil, or_false] at hk
    rcases hk with rfl | rfl | rfl | rfl <;> decide
  · obtain ⟨a', b', d', s1, s2, s3, s4, s5, s6⟩ := hc
    refine ⟨a', b', nb + 1, by rw [wz.gI (by decide)]; exact s1, by rw [wz.gI (by decide)]; exact s2, z79, by omega, by omega, ?_⟩
    rw [h73] at s3
    by_cases q : d' < 2147483648
    · have := nn_inj (by omega) q s3
      omega
    · omega
end EN2
