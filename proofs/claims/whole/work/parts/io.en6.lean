/-! ===== CONNECT: entering under a given name ===== -/
section EN6
variable {x i a fl ka oi ni n0 s b k : Nat} {e0 : Int32} {h h' h1 : Hp} {r r' r1 : RS} {bs ys : List Nat} {l3 l4 l12 l13 l14 l15 l16 l17 l18 l8 : Int32} {l6 l9 : Int64}
theorem EP.mono0 {c e n : Nat} {h h1 h2 : Hp} {r r1 r2 : RS} (p : EP x i e0 0 0 0 h r h1 r1) (q : EP x i e0 c e n h1 r1 h2 r2) : EP x i e0 c e n h r h2 r2 := (p.tr q).le (by omega) (by omega) (by omega)
theorem Cn.gl {c : Nat} (hc : Cn r c) (G : GL x h h1 r r1) : Cn r1 c := by
  obtain ⟨a, b, d, q1, q2, q3, q4, q5, q6⟩ := hc
  exact ⟨a, b, d, by rw [G.2.1.gI (by decide)]; exact q1, by rw [G.2.1.gI (by decide)]; exact q2, by rw [G.2.1.gI (by decide)]; exact q3, q4, q5, q6⟩
theorem IdOf.gl (G : GL x h h1 r r1) : IdOf r1 s ys ↔ IdOf r s ys := by
  unfold IdOf
  rw [G.2.1.gA (k := 13) (by decide), G.2.1.gA (k := 14) (by decide)]
/-- the session is gone: a new one -/
theorem ent_gone (R : Rel x i 12 96 e0 h r) (D : Rd x i bs bs.length bs.length 0 h r) (ho : r.2.1 1 i = 1) (h7 : r.2.1 7 i = -1) (hcn : Cn r 900000000) (hs : s < 12) (h11 : r.2.1 11 s = 0) (G : GrE x h fl ka l6 l8 l9) (GW : GrW x i bs n0 h r fl l3 l4 l14 l15 l16 l17) (g : Gho x i e0 h r) (hfb : fl < 256) (W : Rw x h a (sl bs oi ni)) (hl : 1 ≤ ni ∧ ni ≤ 20) (hon : oi + ni ≤ bs.length) (fresh : ∀ s, s < 12 → r.2.1 11 s = 1 → ¬ IdOf r s (sl bs oi ni)) :
    Sim (C_X11_enter_J86 x (some (cA x i)) (nn 0) (some a) none) h (R_connect_J831 (nn fl) l3 l4 (nn ka) l6 l8 l9 (nn (410 * i + oi)) (nn ni) l14 l15 l16 l17 (nn s) (nn 0)) r (fun _ h' _ r' => EP x i e0 140 900 1 h r h' r') := by
  have n0s : ¬ nn s < (0 : Int32) := fun z => by
    have h0 : 0 ≤ nn s := nn_ge (by omega)
    exact absurd z (by rw [Int32.not_lt]; exact h0)
  have cl : C_X11_enter_J86 x (some (cA x i)) (nn 0) (some a) none h = C_X11_enter_J120 x (some (cA x i)) (nn 0) (some a) none (nn 0) h := by
    unfold C_X11_enter_J86 C_X11_enter_J110
    rw [if_pos rfl, if_pos rfl]
    rfl
  have ml : R_connect_J831 (nn fl) l3 l4 (nn ka) l6 l8 l9 (nn (410 * i + oi)) (nn ni) l14 l15 l16 l17 (nn s) (nn 0) r = R_connect_J877 (nn fl) l3 l4 (nn ka) l6 l8 l9 (nn (410 * i + oi)) (nn ni) l14 l15 l16 l17 (nn s) (nn 0) r := by
    unfold R_connect_J831 R_connect_J858
    rw [if_neg n0s, x_rA mL_11 hs (by omega), h11, if_pos rfl, if_neg n0s, x_rA mL_11 hs (by omega), h11, if_pos rfl]
  rw [Sim_l cl, Sim_r ml]
  exact ent_nam R D ho h7 hcn ⟨s, hs, h11⟩ G GW g hfb W hl hon fresh
/-- the session is there, and offline -/
theorem ent_there (R : Rel x i 12 96 e0 h r) (D : Rd x i bs bs.length bs.length 0 h r) (ho : r.2.1 1 i = 1) (h7 : r.2.1 7 i = -1) (hcn : Cn r 900000000) (hs : s < 12) (hb : har h (x + 34) s = some b) (h15 : r.2.1 15 s = -1) (G : GrE x h fl ka l6 l8 l9) (GW : GrW x i bs n0 h r fl l3 l4 l14 l15 l16 l17) (g : Gho x i e0 h r) (hfb : fl < 256) (W : Rw x h a (sl bs oi ni)) (hl : 1 ≤ ni ∧ ni ≤ 20) (hon : oi + ni ≤ bs.length) (hid : IdOf r s (sl bs oi ni)) :
    Sim (C_X11_enter_J86 x (some (cA x i)) (nn 0) (some a) (some b)) h (R_connect_J831 (nn fl) l3 l4 (nn ka) l6 l8 l9 (nn (410 * i + oi)) (nn ni) l14 l15 l16 l17 (nn s) (nn 0)) r (fun _ h' _ r' => EP x i e0 140 900 1 h r h' r') := by
  have T := R.st
  have hi := D.2.2.1.1
  have kx := T.2.1.1
  have ll : (sl bs oi ni).length = ni := sl_len hon
  have h11 := ((R.2.2.2.2.1 s hs).at hb).1
  have n0s : ¬ nn s < (0 : Int32) := fun z => by
    have h0 : 0 ≤ nn s := nn_ge (by omega)
    exact absurd z (by rw [Int32.not_lt]; exact h0)
  have e401 : hfi h (100 * 4 + 1) (x + 48) = (if fl / 2 % 2 = 0 then 0 else 1) := G.1
  by_cases z : fl / 2 % 2 = 0
  · have cl : C_X11_enter_J86 x (some (cA x i)) (nn 0) (some a) (some b) h = C_X11_enter_J134 x (some (cA x i)) (nn 0) (some a) (some b) (nn 1) h := by
      unfold C_X11_enter_J86 C_X11_enter_J110 C_X11_enter_J120
      rw [if_neg (by simp), e_gR (c := 13) kx, T.gr.1, e_gI T.gr.2, e401, if_pos z, if_pos rfl, if_neg (by simp), if_neg (by simp)]
      rfl
    have ml : R_connect_J831 (nn fl) l3 l4 (nn ka) l6 l8 l9 (nn (410 * i + oi)) (nn ni) l14 l15 l16 l17 (nn s) (nn 0) r = R_connect_J979 (nn fl) l3 l4 (nn ka) l6 l8 l9 l14 l15 l16 l17 (nn s) (nn 0) (nn 1) r := by
      unfold R_connect_J831 R_connect_J858 R_connect_J878
      rw [if_neg n0s, x_rA mL_11 hs (by omega), h11, if_neg (by decide), if_pos ((fl_2 fl hfb).mpr z), if_neg n0s, x_rA mL_11 hs (by omega), h11, if_neg (by decide), if_neg (by decide)]
      rfl
    rw [Sim_l cl, Sim_r ml]
    exact (ent_old R D ho h7 hs hb h15 G GW (fun m hm => (g m hm).1) hfb W (by omega) hid).mono (fun _ _ _ _ z => z.le (by omega) (by omega) (by omega))
  · obtain ⟨h1, r1, a1, a2, R1, G1, U1, e11, P1, g1⟩ := edg R g hi hs hb h15
    have E1 := EP.gl R1 G1 U1 P1
    have cl : C_X11_enter_J86 x (some (cA x i)) (nn 0) (some a) (some b) h = C_X11_enter_J120 x (some (cA x i)) (nn 0) (some a) none (nn 0) h1 := by
      unfold C_X11_enter_J86 C_X11_enter_J110
      rw [if_neg (by simp), e_gR (c := 13) kx, T.gr.1, e_gI T.gr.2, e401, if_neg z, if_neg (by decide), e_Cv (c := 13) kx, e_bd a1, if_pos rfl]
      rfl
    have ml : R_connect_J831 (nn fl) l3 l4 (nn ka) l6 l8 l9 (nn (410 * i + oi)) (nn ni) l14 l15 l16 l17 (nn s) (nn 0) r = R_connect_J877 (nn fl) l3 l4 (nn ka) l6 l8 l9 (nn (410 * i + oi)) (nn ni) l14 l15 l16 l17 (nn s) (nn 0) r1 := by
      unfold R_connect_J831 R_connect_J858
      rw [if_neg n0s, x_rA mL_11 hs (by omega), h11, if_neg (by decide), if_neg (fun w => z ((fl_2 fl hfb).mp w)), e_bd a2, if_neg n0s, x_rA mL_11 hs (by omega), e11, if_pos rfl]
    rw [Sim_l cl, Sim_r ml]
    refine (ent_nam R1 (D.gl R G1) (U1.1.trans ho) (U1.2.2.1.trans h7) (hcn.gl G1) ⟨s, hs, e11⟩ (G.fm T G1.1 (by decide)) (GW.gl R G1) g1 hfb (W.stp G1.1.1) hl hon (fun s' q1 q2 q3 => ?_)).mono (fun _ _ _ _ z => E1.mono0 z)
    have q4 : r.2.1 11 s' = 1 := by
      rcases G1.2.2.2.1 s' with y | y
      · rw [← y]; exact q2
      · rw [y] at q2; exact absurd q2 (by decide)
    have := id_one R q1 hs q4 h11 ((IdOf.gl G1).mp q3) hid (by omega)
    rw [this, e11] at q2
    exact absurd q2 (by decide)
/-- under a given name -/
theorem ent_nm (R : Rel x i 12 96 e0 h r) (D : Rd x i bs bs.length bs.length 0 h r) (ho : r.2.1 1 i = 1) (h7 : r.2.1 7 i = -1) (hcn : Cn r 900000000) (G : GrE x h fl ka l6 l8 l9) (GW : GrW x i bs n0 h r fl l3 l4 l14 l15 l16 l17) (g : Gho x i e0 h r) (hfb : fl < 256) (W : Rw x h a (sl bs oi ni)) (hl : 1 ≤ ni ∧ ni ≤ 20) (hon : oi + ni ≤ bs.length)
    (hc : (l18 = -1 ∧ (∀ s, s < 12 → r.2.1 11 s = 1 → ¬ IdOf r s (sl bs oi ni)) ∧ ∃ s, s < 12 ∧ r.2.1 11 s = 0) ∨ ∃ s, s < 12 ∧ l18 = nn s ∧ r.2.1 11 s = 1 ∧ IdOf r s (sl bs oi ni)) :
    Sim (C_X11_enter_J37 x (some (cA x i)) (nn 0) (some a)) h (R_connect_J784 (nn fl) l3 l4 (nn ka) l6 l8 l9 (nn (410 * i + oi)) (nn ni) l14 l15 l16 l17 l18 (nn 0)) r (fun _ h' _ r' => EP x i e0 140 900 1 h r h' r') := by
  have T := R.st
  have hx := T.1
  have hi := D.2.2.1.1
  have kx := T.2.1.1
  have ll : (sl bs oi ni).length = ni := sl_len hon
  have fnd : ∀ h' r' a', Rel x i 12 96 e0 h' r' → Rw x h' a' (sl bs oi ni) → (∀ s, s < 12 → r'.2.1 11 s = 1 → ¬ IdOf r' s (sl bs oi ni)) → C_X11_find x (some a') h' = some (none, h') := fun h' r' a' R' W' q => by
    rcases qc_fnd R' W' (by omega) with ⟨s, b, y1, y2, y3, _⟩ | ⟨_, y⟩
    · exact absurd y3 (q s y1 ((R'.2.2.2.2.1 s y1).at y2).1)
    · exact y
  have fns : ∀ h' r' a' s b, Rel x i 12 96 e0 h' r' → Rw x h' a' (sl bs oi ni) → s < 12 → har h' (x + 34) s = some b → IdOf r' s (sl bs oi ni) → C_X11_find x (some a') h' = some (some b, h') := fun h' r' a' s b R' W' q1 q2 q3 => by
    have q4 := ((R'.2.2.2.2.1 s q1).at q2).1
    rcases qc_fnd R' W' (by omega) with ⟨s', b', y1, y2, y3, _, y5⟩ | ⟨y, _⟩
    · have := id_one R' y1 q1 ((R'.2.2.2.2.1 s' y1).at y2).1 q4 y3 q3 (by omega)
      rw [this, q2] at y2
      cases y2
      exact y5
    · exact absurd q3 (y s q1 q4)
  rcases hc with ⟨c1, c2, c3⟩ | ⟨s, hs, c1, c2, c3⟩
  · have cl : C_X11_enter_J37 x (some (cA x i)) (nn 0) (some a) h = C_X11_enter_J120 x (some (cA x i)) (nn 0) (some a) none (nn 0) h := by
      unfold C_X11_enter_J37 C_X11_enter_J86 C_X11_enter_J110
      rw [e_Cv (c := 13) kx, e_bd (fnd h r a R W c2), if_pos rfl, if_pos rfl, if_pos rfl]
      rfl
    have ml : R_connect_J784 (nn fl) l3 l4 (nn ka) l6 l8 l9 (nn (410 * i + oi)) (nn ni) l14 l15 l16 l17 l18 (nn 0) r = R_connect_J877 (nn fl) l3 l4 (nn ka) l6 l8 l9 (nn (410 * i + oi)) (nn ni) l14 l15 l16 l17 (-1) (nn 0) r := by
      rw [c1]
      unfold R_connect_J784 R_connect_J831 R_connect_J858
      rw [if_pos (by decide), if_pos (by decide), if_pos (by decide)]
    rw [Sim_l cl, Sim_r ml]
    exact ent_nam R D ho h7 hcn c3 G GW g hfb W hl hon c2
  · subst c1
    have n0s : ¬ nn s < (0 : Int32) := fun z => by
      have h0 : 0 ≤ nn s := nn_ge (by omega)
      exact absurd z (by rw [Int32.not_lt]; exact h0)
    obtain ⟨b, hb⟩ : ∃ b, har h (x + 34) s = some b := by
      rcases R.2.2.2.2.1 s hs with ⟨y, _⟩ | ⟨_, b, y, _⟩
      · rw [c2] at y; exact absurd y (by decide)
      · exact ⟨b, y⟩
    have Sb := R.ses hs hb
    have ef := fns h r a s b R W hs hb c3
    rcases Sb.2.2.1.2.2.2.2 with ⟨o1, o2⟩ | ⟨k, hk, o1, o2, o3⟩
    · have cl : C_X11_enter_J37 x (some (cA x i)) (nn 0) (some a) h = C_X11_enter_J86 x (some (cA x i)) (nn 0) (some a) (some b) h := by
        unfold C_X11_enter_J37
        rw [e_Cv (c := 13) kx, e_bd ef, if_neg (by simp), e_gR (c := 10) Sb.1.1, show hfr h (100 * 10 + 2) b = none from o1, if_pos rfl]
      have ml : R_connect_J784 (nn fl) l3 l4 (nn ka) l6 l8 l9 (nn (410 * i + oi)) (nn ni) l14 l15 l16 l17 (nn s) (nn 0) r = R_connect_J831 (nn fl) l3 l4 (nn ka) l6 l8 l9 (nn (410 * i + oi)) (nn ni) l14 l15 l16 l17 (nn s) (nn 0) r := by
        unfold R_connect_J784
        rw [if_neg n0s, x_rA mL_15 hs (by omega), o2, if_pos (by decide)]
      rw [Sim_l cl, Sim_r ml]
      exact ent_there R D ho h7 hcn hs hb o2 G GW g hfb W hl hon c3
    · have hki : k ≠ i := fun z => by
        rw [z, h7] at o3
        exact absurd o3 (neg_nn (by omega))
      have hok := R.onl hs hk o3
      obtain ⟨h1, h2, r1, r2, a1, a2, a3, a4, R2, G2, U2, P2, g2, e1002, ekd, e7, e1k⟩ := tko R g hi hk hki hok
      have E2 := EP.gl R2 G2 U2 P2
      have n0k : ¬ nn k < (0 : Int32) := fun z => by
        have h0 : 0 ≤ nn k := nn_ge (by omega)
        exact absurd z (by rw [Int32.not_lt]; exact h0)
      have ml : R_connect_J784 (nn fl) l3 l4 (nn ka) l6 l8 l9 (nn (410 * i + oi)) (nn ni) l14 l15 l16 l17 (nn s) (nn 0) r = R_connect_J831 (nn fl) l3 l4 (nn ka) l6 l8 l9 (nn (410 * i + oi)) (nn ni) l14 l15 l16 l17 (nn s) (nn 0) r2 := by
        unfold R_connect_J784
        rw [if_neg n0s, x_rA mL_15 hs (by omega), o2, if_neg n0k, x_rA mL_15 hs (by omega), o2, e_bd a2, e_bd a4]
      have W2 := W.stp G2.1.1
      have cl : ∀ v, C_X11_find x (some a) h2 = some (v, h2) → C_X11_enter_J37 x (some (cA x i)) (nn 0) (some a) h = C_X11_enter_J86 x (some (cA x i)) (nn 0) (some a) v h2 := fun v ev => by
        unfold C_X11_enter_J37
        rw [e_Cv (c := 13) kx, e_bd ef, if_neg (by simp), e_gR (c := 10) Sb.1.1, show hfr h (100 * 10 + 2) b = some (cA x k) from o1, if_neg (by simp), e_gR (c := 10) Sb.1.1, show hfr h (100 * 10 + 2) b = some (cA x k) from o1, e_Cv (c := 13) kx, e_bd a1, e_gR (c := 10) (by rw [ekd]; exact Sb.1.1), show hfr h1 (100 * 10 + 2) b = some (cA x k) from by rw [show hfr h1 (100 * 10 + 2) = hfr h 1002 from e1002]; exact o1, e_Cv (c := 13) (by rw [ekd]; exact kx), e_bd a3, e_Cv (c := 13) R2.st.2.1.1, e_bd ev]
      rw [Sim_r ml]
      have hcn2 := hcn.gl G2
      rcases R2.2.2.2.2.1 s hs with ⟨y1, y2⟩ | ⟨y1, b2, y2, Sb2, _⟩
      · have fresh2 : ∀ s', s' < 12 → r2.2.1 11 s' = 1 → ¬ IdOf r2 s' (sl bs oi ni) := fun s' q1 q2 q3 => by
          have q4 : r.2.1 11 s' = 1 := by
            rcases G2.2.2.2.1 s' with y | y
            · rw [← y]; exact q2
            · rw [y] at q2; exact absurd q2 (by decide)
          have := id_one R q1 hs q4 c2 ((IdOf.gl G2).mp q3) c3 (by omega)
          rw [this, y1] at q2
          exact absurd q2 (by decide)
        rw [Sim_l (cl none (fnd h2 r2 a R2 W2 fresh2))]
        exact (ent_gone R2 (D.gl R G2) (U2.1.trans ho) (U2.2.2.1.trans h7) hcn2 hs y1 (G.fm T G2.1 (by decide)) (GW.gl R G2) g2 hfb W2 hl hon fresh2).mono (fun _ _ _ _ z => E2.mono0 z)
      · have id2 : IdOf r2 s (sl bs oi ni) := (IdOf.gl G2).mpr c3
        have off : r2.2.1 15 s = -1 := by
          rcases Sb2.2.2.1.2.2.2.2 with ⟨_, z⟩ | ⟨i', q1, _, _, q4⟩
          · exact z
          · exfalso
            by_cases q : i' = k
            · rw [q] at q4
              have := R2.onl hs hk q4
              rw [e1k] at this
              exact absurd this (by decide)
            · rw [e7 i' q1 q] at q4
              rcases (R.2.2.2.1 i' q1).1.2.2.2 with w | ⟨s2, _, w1, w2, _, _, w5, _⟩
              · rw [w.1] at q4
                exact absurd q4 (neg_nn (by omega))
              · have : s2 = s := nn_inj (by omega) (by omega) (w2.symm.trans q4)
                subst this
                exact q (nn_inj (by omega) (by omega) (w5.symm.trans o2))
        rw [Sim_l (cl (some b2) (fns h2 r2 a s b2 R2 W2 hs y2 id2))]
        exact (ent_there R2 (D.gl R G2) (U2.1.trans ho) (U2.2.2.1.trans h7) hcn2 hs y2 off (G.fm T G2.1 (by decide)) (GW.gl R G2) g2 hfb W2 hl hon id2).mono (fun _ _ _ _ z => E2.mono0 z)
end EN6
