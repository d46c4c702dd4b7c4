/-! ===== the welcome ===== -/
section WEL
variable {x ec es ew s b i a : Nat} {e0 : Int32} {h h' : Hp} {r r' : RS} {ys : List Nat}
variable {α : Type} {Kc : Unit → Hp → Option (α × Hp)} {Φ : α → Hp → Unit → RS → Prop}
theorem vb_1 {n : Nat} (hn : n < 128) : vb 4 n = [n] := by
  show (if n < 128 then [n] else _) = _
  rw [if_pos hn]
theorem f4_403 : f4 (403 : Int64) = [0, 0, 1, 147] := by decide +kernel
def wlB (g n : Nat) (id : List Nat) : List Nat := [g, 0, n, 33, 0, 8, 39, 0, 0, 1, 147, 34, 0, 4] ++ id
/-- the bytes that the class writes before the name -/
theorem wel_a {g : Nat} {f : Int32} {h0 : Hp} {Q : Hp → Option (Unit × Hp)} {M : RS → Option (Unit × RS)} {g' : Int32} (T : Stat x h0) (W0 : Wo (x + 46) h0 h) (H0 : WR (x + 46) h f []) (eg : lo8 g' = g) (hQ : ∀ h', Wo (x + 46) h0 h' → WR (x + 46) h' f [g, 0] → Sim (bd Q Kc) h' M r Φ) :
    Sim (bd (hCv 12 (some (x + 46)) (fun a => C_X10_one a g') fun _ => hgR 13 5 (some x) fun v24 => hCv 12 v24 (fun a => C_X10_one a (0 : Int32)) fun _ => Q) Kc) h M r Φ := by
  obtain ⟨k1, k2, k3, k4⟩ := wref T W0
  rw [Sim_l (bd_l (e_Cv k3)), bd_assoc]
  refine Sim.seqL (qc_one H0 (by simp)) (fun _ h1 z1 => ?_)
  have W1 := W0.tr z1.2
  obtain ⟨k1, k2, k3, k4⟩ := wref T W1
  rw [Sim_l (bd_l (e_gR k1)), k2, Sim_l (bd_l (e_Cv k3)), bd_assoc]
  refine Sim.seqL (qc_one z1.1 (by simp)) (fun _ h2 z2 => ?_)
  have W2 := W1.tr z2.2
  have H := z2.1
  rw [eg, show lo8 (0 : Int32) = 0 by decide] at H
  exact hQ h2 W2 H
theorem wel_b {g n : Nat} {f : Int32} {h0 : Hp} {Q : Hp → Option (Unit × Hp)} {M : RS → Option (Unit × RS)} (T : Stat x h0) (W0 : Wo (x + 46) h0 h) (H0 : WR (x + 46) h f [g, 0]) (hn : n < 128) (hQ : ∀ h', Wo (x + 46) h0 h' → WR (x + 46) h' f (wlB g n []) → Sim (bd Q Kc) h' M r Φ) :
    Sim (bd (hCv 12 (some (x + 46)) (fun a => C_X10_variable a (nn n)) fun _ => hgR 13 5 (some x) fun v4 => hCv 12 v4 (fun a => C_X10_one a (33 : Int32)) fun _ => hgR 13 5 (some x) fun v6 => hCv 12 v6 (fun a => C_X10_two a (8 : Int32)) fun _ => hgR 13 5 (some x) fun v8 => hCv 12 v8 (fun a => C_X10_one a (39 : Int32)) fun _ => hgR 13 5 (some x) fun v10 => hCv 12 v10 (fun a => C_X10_four a (403 : Int64)) fun _ => hgR 13 5 (some x) fun v12 => hCv 12 v12 (fun a => C_X10_one a (34 : Int32)) fun _ => hgR 13 5 (some x) fun v14 => hCv 12 v14 (fun a => C_X10_two a (4 : Int32)) fun _ => Q) Kc) h M r Φ := by
  have lf : ∀ v, (f4 v).length = 4 := fun v => rfl
  obtain ⟨k1, k2, k3, k4⟩ := wref T W0
  rw [Sim_l (bd_l (e_Cv k3)), bd_assoc]
  refine Sim.seqL (qc_var (k := n) H0 (by omega) (by simp)) (fun _ h1 z1 => ?_)
  have W1 := W0.tr z1.2
  obtain ⟨k1, k2, k3, k4⟩ := wref T W1
  rw [Sim_l (bd_l (e_gR k1)), k2, Sim_l (bd_l (e_Cv k3)), bd_assoc]
  refine Sim.seqL (qc_one z1.1 (by simp [vb_1 hn, lf])) (fun _ h2 z2 => ?_)
  have W2 := W1.tr z2.2
  obtain ⟨k1, k2, k3, k4⟩ := wref T W2
  rw [Sim_l (bd_l (e_gR k1)), k2, Sim_l (bd_l (e_Cv k3)), bd_assoc]
  refine Sim.seqL (qc_two (k := 8) z2.1 (by omega) (by simp [vb_1 hn, lf])) (fun _ h3 z3 => ?_)
  have W3 := W2.tr z3.2
  obtain ⟨k1, k2, k3, k4⟩ := wref T W3
  rw [Sim_l (bd_l (e_gR k1)), k2, Sim_l (bd_l (e_Cv k3)), bd_assoc]
  refine Sim.seqL (qc_one z3.1 (by simp [vb_1 hn, lf])) (fun _ h4 z4 => ?_)
  have W4 := W3.tr z4.2
  obtain ⟨k1, k2, k3, k4⟩ := wref T W4
  rw [Sim_l (bd_l (e_gR k1)), k2, Sim_l (bd_l (e_Cv k3)), bd_assoc]
  refine Sim.seqL (qc_four z4.1 (by simp [vb_1 hn, lf])) (fun _ h5 z5 => ?_)
  have W5 := W4.tr z5.2
  obtain ⟨k1, k2, k3, k4⟩ := wref T W5
  rw [Sim_l (bd_l (e_gR k1)), k2, Sim_l (bd_l (e_Cv k3)), bd_assoc]
  refine Sim.seqL (qc_one z5.1 (by simp [vb_1 hn, lf])) (fun _ h6 z6 => ?_)
  have W6 := W5.tr z6.2
  obtain ⟨k1, k2, k3, k4⟩ := wref T W6
  rw [Sim_l (bd_l (e_gR k1)), k2, Sim_l (bd_l (e_Cv k3)), bd_assoc]
  refine Sim.seqL (qc_two (k := 4) z6.1 (by omega) (by simp [vb_1 hn, lf])) (fun _ h7 z7 => ?_)
  have W7 := W6.tr z7.2
  have H := z7.1
  rw [vb_1 hn, f4_403, show lo8 (33 : Int32) = 33 by decide, show lo8 (39 : Int32) = 39 by decide, show lo8 (34 : Int32) = 34 by decide] at H
  exact hQ h7 W7 H
theorem wel_m {g n : Nat} {P : Hp → Option (α × Hp)} {M : RS → Option (Unit × RS)} {g' n' : Int32} (eg : lo8 g' = g) (en : lo8 n' = n) (hM : ∀ r', Ro [90, 91] r r' → BD r' (wlB g n []) → Sim P h M r' Φ) :
    Sim P h (wI 91 ((0 : Int32)) <| bd (R_byteOf g') fun _ => bd (R_byteOf (0 : Int32)) fun _ => bd (R_byteOf n') fun _ => bd (R_byteOf (33 : Int32)) fun _ => bd (R_byteOf (0 : Int32)) fun _ => bd (R_byteOf (8 : Int32)) fun _ => bd (R_byteOf (39 : Int32)) fun _ => bd (R_byteOf (0 : Int32)) fun _ => bd (R_byteOf (0 : Int32)) fun _ => bd (R_byteOf (1 : Int32)) fun _ => bd (R_byteOf (147 : Int32)) fun _ => bd (R_byteOf (34 : Int32)) fun _ => bd (R_byteOf (0 : Int32)) fun _ => bd (R_byteOf (4 : Int32)) fun _ => M) r Φ := by
  rw [sr_wI]
  have w0 : Ro [90, 91] r (sI r 91 (0 : Int32)) := Ro.rf.i (by decide)
  refine Sim.seqR (qm_byte (bs := []) BD.zero (by simp)) (fun _ r1 y1 => ?_)
  refine Sim.seqR (qm_byte y1.1 (by simp)) (fun _ r2 y2 => ?_)
  refine Sim.seqR (qm_byte y2.1 (by simp)) (fun _ r3 y3 => ?_)
  refine Sim.seqR (qm_byte y3.1 (by simp)) (fun _ r4 y4 => ?_)
  refine Sim.seqR (qm_byte y4.1 (by simp)) (fun _ r5 y5 => ?_)
  refine Sim.seqR (qm_byte y5.1 (by simp)) (fun _ r6 y6 => ?_)
  refine Sim.seqR (qm_byte y6.1 (by simp)) (fun _ r7 y7 => ?_)
  refine Sim.seqR (qm_byte y7.1 (by simp)) (fun _ r8 y8 => ?_)
  refine Sim.seqR (qm_byte y8.1 (by simp)) (fun _ r9 y9 => ?_)
  refine Sim.seqR (qm_byte y9.1 (by simp)) (fun _ r10 y10 => ?_)
  refine Sim.seqR (qm_byte y10.1 (by simp)) (fun _ r11 y11 => ?_)
  refine Sim.seqR (qm_byte y11.1 (by simp)) (fun _ r12 y12 => ?_)
  refine Sim.seqR (qm_byte y12.1 (by simp)) (fun _ r13 y13 => ?_)
  refine Sim.seqR (qm_byte y13.1 (by simp)) (fun _ r14 y14 => ?_)
  have w := (((((((((((((w0.tr y1.2).tr y2.2).tr y3.2).tr y4.2).tr y5.2).tr y6.2).tr y7.2).tr y8.2).tr y9.2).tr y10.2).tr y11.2).tr y12.2).tr y13.2).tr y14.2
  have H := y14.1
  rw [eg, en, show lo8 (0 : Int32) = 0 by decide, show lo8 (33 : Int32) = 33 by decide, show lo8 (8 : Int32) = 8 by decide, show lo8 (39 : Int32) = 39 by decide, show lo8 (1 : Int32) = 1 by decide, show lo8 (147 : Int32) = 147 by decide, show lo8 (34 : Int32) = 34 by decide, show lo8 (4 : Int32) = 4 by decide] at H
  exact hM r14 w H
theorem wel_m2 {g n : Nat} {P : Hp → Option (α × Hp)} {M : RS → Option (Unit × RS)} {n' : Int32} (en : lo8 n' = n) (H0 : BD r [g, 0]) (hM : ∀ r', Ro [90, 91] r r' → BD r' (wlB g n []) → Sim P h M r' Φ) :
    Sim P h (bd (R_byteOf n') fun _ => bd (R_byteOf (33 : Int32)) fun _ => bd (R_byteOf (0 : Int32)) fun _ => bd (R_byteOf (8 : Int32)) fun _ => bd (R_byteOf (39 : Int32)) fun _ => bd (R_byteOf (0 : Int32)) fun _ => bd (R_byteOf (0 : Int32)) fun _ => bd (R_byteOf (1 : Int32)) fun _ => bd (R_byteOf (147 : Int32)) fun _ => bd (R_byteOf (34 : Int32)) fun _ => bd (R_byteOf (0 : Int32)) fun _ => bd (R_byteOf (4 : Int32)) fun _ => M) r Φ := by
  refine Sim.seqR (qm_byte H0 (by simp)) (fun _ r1 y1 => ?_)
  refine Sim.seqR (qm_byte y1.1 (by simp)) (fun _ r2 y2 => ?_)
  refine Sim.seqR (qm_byte y2.1 (by simp)) (fun _ r3 y3 => ?_)
  refine Sim.seqR (qm_byte y3.1 (by simp)) (fun _ r4 y4 => ?_)
  refine Sim.seqR (qm_byte y4.1 (by simp)) (fun _ r5 y5 => ?_)
  refine Sim.seqR (qm_byte y5.1 (by simp)) (fun _ r6 y6 => ?_)
  refine Sim.seqR (qm_byte y6.1 (by simp)) (fun _ r7 y7 => ?_)
  refine Sim.seqR (qm_byte y7.1 (by simp)) (fun _ r8 y8 => ?_)
  refine Sim.seqR (qm_byte y8.1 (by simp)) (fun _ r9 y9 => ?_)
  refine Sim.seqR (qm_byte y9.1 (by simp)) (fun _ r10 y10 => ?_)
  refine Sim.seqR (qm_byte y10.1 (by simp)) (fun _ r11 y11 => ?_)
  refine Sim.seqR (qm_byte y11.1 (by simp)) (fun _ r12 y12 => ?_)
  have w := ((((((((((y1.2.tr y2.2).tr y3.2).tr y4.2).tr y5.2).tr y6.2).tr y7.2).tr y8.2).tr y9.2).tr y10.2).tr y11.2).tr y12.2
  have H := y12.1
  rw [en, show lo8 (0 : Int32) = 0 by decide, show lo8 (33 : Int32) = 33 by decide, show lo8 (8 : Int32) = 8 by decide, show lo8 (39 : Int32) = 39 by decide, show lo8 (1 : Int32) = 1 by decide, show lo8 (147 : Int32) = 147 by decide, show lo8 (34 : Int32) = 34 by decide, show lo8 (4 : Int32) = 4 by decide] at H
  exact hM r12 w H
/-- a loop that ends goes on as it is told -/
theorem wel_lp {ke : Int32 → RS → Option (Unit × RS)} : ∀ {f : Nat} {k : Int32} {u : Unit} {r r' : RS}, R_connect_L1305 (fun _ => rt ()) f (nn s) k r = some (u, r') → R_connect_L1305 ke f (nn s) k r = ke (nn s) r' := by
  intro f
  induction f with
  | zero =>
    intro k u r r' e
    cases e
  | succ f ih =>
    intro k u r r' e
    have e' : R_connect_B1305 (fun l18 l21 => R_connect_L1305 (fun _ => rt ()) f l18 l21) (fun _ => rt ()) (nn s) k r = some (u, r') := e
    show R_connect_B1305 (fun l18 l21 => R_connect_L1305 ke f l18 l21) ke (nn s) k r = _
    unfold R_connect_B1305 at e' ⊢
    unfold rA at e' ⊢
    by_cases z : inr (nn s) (mL 13)
    · rw [if_pos z] at e' ⊢
      dsimp only at e' ⊢
      by_cases y : r.2.1 13 (nn s).toNatClampNeg ≤ k
      · rw [if_pos y] at e' ⊢
        cases e'
        rfl
      · rw [if_neg y] at e' ⊢
        by_cases v : inr ((20 : Int32) * nn s + k) (mL 14)
        · rw [if_pos v] at e' ⊢
          cases q : R_byteOf (r.2.1 14 ((20 : Int32) * nn s + k).toNatClampNeg) r with
          | none =>
            rw [show bd (R_byteOf (r.2.1 14 ((20 : Int32) * nn s + k).toNatClampNeg)) (fun _ => R_connect_L1305 (fun _ => rt ()) f (nn s) (k + 1)) r = none by unfold bd; rw [q]] at e'
            cases e'
          | some p =>
            obtain ⟨p1, p2⟩ := p
            rw [e_bd q] at e' ⊢
            exact ih e'
        · rw [if_neg v] at e'
          cases e'
    · rw [if_neg z] at e'
      cases e'
/-- the model writes the name -/
theorem wel_id {n : Nat} {ps : List Nat} (hs : s < 12) (hid : IdOf r s ys) (hl : ys.length ≤ 20) (B : By ys) (hb : BD r ps) (hp : ps.length ≤ 1000) : wp (R_connect_L1305 (fun _ => rt ()) fu (nn s) (0 : Int32)) r (fun _ r' => BD r' (ps ++ ys) ∧ Ro [90, 91] r r') := by
  have key : ∀ (c k f : Nat) (rr : RS), k + c = ys.length → c < f → Ro [90, 91] r rr → BD rr (ps ++ ys.take k) → wp (R_connect_L1305 (fun _ => rt ()) f (nn s) (nn k)) rr (fun _ r' => BD r' (ps ++ ys) ∧ Ro [90, 91] r r') := by
    intro c
    induction c with
    | zero =>
      intro k f rr hk hf w g
      obtain ⟨f', rfl⟩ : ∃ z, f = z + 1 := ⟨f - 1, by omega⟩
      have : k = ys.length := by omega
      subst this
      have e13 : rr.2.1 13 s = nn ys.length := by rw [w.gA (by decide)]; exact hid.1
      refine ⟨(), rr, ?_, by rw [List.take_length] at g; exact g, w⟩
      show R_connect_B1305 _ _ (nn s) (nn ys.length) rr = _
      unfold R_connect_B1305
      rw [x_rA mL_13 hs (by omega), e13, if_pos (Int32.le_refl _)]
      rfl
    | succ c ih =>
      intro k f rr hk hf w g
      obtain ⟨f', rfl⟩ : ∃ z, f = z + 1 := ⟨f - 1, by omega⟩
      have e13 : rr.2.1 13 s = nn ys.length := by rw [w.gA (by decide)]; exact hid.1
      have e14 : rr.2.1 14 (20 * s + k) = sb (ys.getD k 0) := by rw [w.gA (by decide)]; exact hid.2 k (by omega)
      have bk := B.at k
      have st : R_connect_L1305 (fun _ => rt ()) (f' + 1) (nn s) (nn k) rr = (bd (R_byteOf (sb (ys.getD k 0))) fun _ => R_connect_L1305 (fun _ => rt ()) f' (nn s) (nn (k + 1))) rr := by
        show R_connect_B1305 _ _ (nn s) (nn k) rr = _
        unfold R_connect_B1305
        rw [x_rA mL_13 hs (by omega), e13, if_neg (by rw [nn_le (by omega) (by omega)]; omega), show (20 : Int32) = nn 20 from rfl, nn_mul, nn_add, x_rA mL_14 (by omega) (by omega), e14, show nn k + 1 = nn (k + 1) from nn_add]
      have q := qm_byte (v := sb (ys.getD k 0)) g (by rw [List.length_append, List.length_take]; omega)
      obtain ⟨u, r2, e2, q2⟩ := q
      have g2 : BD r2 (ps ++ ys.take (k + 1)) := by
        have := q2.1
        rw [lo8_sb bk, List.append_assoc] at this
        have tk : ys.take (k + 1) = ys.take k ++ [ys.getD k 0] := by
          rw [List.take_add_one, List.getD_eq_getElem?_getD, List.getElem?_eq_getElem (by omega)]
          rfl
        rw [tk]
        exact this
      obtain ⟨u3, r3, e3, q3⟩ := ih (k + 1) f' r2 (by omega) (by omega) (w.tr q2.2) g2
      exact ⟨u3, r3, by rw [st, e_bd e2]; exact e3, q3⟩
  exact key ys.length 0 fu r (by omega) (by unfold fu; omega) Ro.rf (by rw [List.take_zero, List.append_nil]; exact hb)
/-- the welcome, by both -/
theorem sim_wel {g au : Nat} (R : Rel x i es ew e0 h r) (hi : i < 8) (ho : r.2.1 1 i = 1) (h75 : r.1 75 = nn i) (hg : g ≤ 1) (ha : au ≤ 1) (hs : s < 12) (W : Rw x h a ys) (hl : ys.length ≤ 20) (hid : IdOf r s ys)
    (kk : ∀ h' r', Rel x i es ew e0 h' r' → Oo x h h' → Ro oS r r' → Sim (Kc ()) h' (bd (R_again (nn s)) fun _ => bd (R_pump (nn s)) fun _ => rt ()) r' Φ) :
    Sim (bd (C_X11_welcome x (some (cA x i)) (nn g) (nn au) (some a)) Kc) h (R_connect_J1165 (nn s) (nn au) (nn g)) r Φ := by
  have T := R.st
  have hx := T.1
  have B := W.2.2.1
  obtain ⟨f0, b0, W0⟩ := R.wr
  obtain ⟨k1, k2, k3, k4⟩ := wref T (Wo.rf (h := h))
  have eg : lo8 (nn g) = g := by rw [lo8_nn (by omega)]; omega
  -- the end of it
  have fin : ∀ (id : List Nat) h' r', Wo (x + 46) h h' → WR (x + 46) h' (nn 32) (wlB g (11 + id.length) id) → Ro [90, 91] r r' → BD r' (wlB g (11 + id.length) id) → id.length ≤ 23 → Sim (bd (C_X11_welcome_J145 x (some (cA x i))) Kc) h' (R_connect_J1340 (nn s)) r' Φ := fun id h' r' Wh Hh wr Hb hlen => by
    obtain ⟨k1, k2, k3, k4⟩ := wref T Wh
    have e75 : r'.1 75 = nn i := by rw [wr.gI (by decide)]; exact h75
    unfold R_connect_J1340 R_sendBody
    have cl : C_X11_welcome_J145 x (some (cA x i)) h' = (bd (C_X0_put (cA x i) (some (x + 46))) fun _ => rt ()) h' := by
      unfold C_X11_welcome_J145
      rw [e_gR k1, k2, e_Cv (k4 i hi)]
    rw [sr_rI, e75, Sim_l (bd_l cl), bd_assoc, bd_assoc]
    refine Sim.seqR (qm_wrap (v := 32) Hb (by unfold wlB; rw [List.length_append]; show 14 + id.length ≤ 1000; omega)) (fun _ r2 y2 => ?_)
    have P2 := y2.1
    rw [show lo8 (32 : Int32) = 32 by decide] at P2
    rw [bd_assoc]
    refine Sim.seq (sim_mk R hi ho Wh (f := 32) Hh ((wr.sub (by decide)).tr (y2.2.sub (by decide))) P2 (by omega)) (fun _ h3 _ r3 q => ?_)
    exact kk h3 r3 q.1 q.2.1 q.2.2
  have cl : C_X11_welcome x (some (cA x i)) (nn g) (nn au) (some a) h = (bd (C_X10_begin (x + 46) (32 : Int32)) fun _ => hgR 13 5 (some x) fun v30 => C_X11_welcome_J22 x (some (cA x i)) (nn au) (some a) v30 (nn g)) h := by
    unfold C_X11_welcome
    rw [e_gR k1, k2, e_Cv k3]
    rcases (show g = 0 ∨ g = 1 by omega) with z | z <;> subst z <;> rfl
  rw [Sim_l (bd_l cl), bd_assoc]
  refine Sim.seqL (qc_wbegin W0) (fun _ h1 z1 => ?_)
  have W1 := z1.2
  obtain ⟨k1, k2, k3, k4⟩ := wref T W1
  rw [Sim_l (bd_l (e_gR k1)), k2]
  unfold C_X11_welcome_J22
  have mg : R_connect_J1165 (nn s) (nn au) (nn g) = wI 91 ((0 : Int32)) (R_connect_J1181 (nn s) (nn au) (nn g)) := by
    unfold R_connect_J1165
    rcases (show g = 0 ∨ g = 1 by omega) with z | z <;> subst z <;> rfl
  rw [mg]
  refine wel_a T W1 z1.1 eg (fun h2 W2 H2 => ?_)
  obtain ⟨k1, k2, k3, k4⟩ := wref T W2
  rw [Sim_l (bd_l (e_gR k1)), k2]
  rcases (show au = 0 ∨ au = 1 by omega) with ea | ea
  · subst ea
    rw [if_pos (show nn 0 = 0 from rfl)]
    unfold C_X11_welcome_J54
    refine wel_b (n := 11) T W2 H2 (by omega) (fun h3 W3 H3 => ?_)
    rw [if_pos (show nn 0 = 0 from rfl)]
    refine wel_m (g' := nn g) (n' := (11 : Int32) + (0 : Int32)) (g := g) (n := 11) eg (by decide) (fun r2 w2 H4 => ?_)
    rw [if_pos (show nn 0 = 0 from rfl)]
    exact fin [] h3 r2 W3 H3 w2 H4 (by decide)
  · subst ea
    have ec := qc_count (W.stp (W2.fm (x := x)).1)
    rw [if_neg (show ¬ nn 1 = 0 by decide), Sim_l (bd_l (e_Cv (c := 9) (W.stp (W2.fm (x := x)).1).1)), Sim_l (bd_l (e_bd ec)), show (14 : Int32) + nn ys.length = nn (14 + ys.length) from nn_add]
    unfold C_X11_welcome_J54
    refine wel_b (n := 14 + ys.length) T W2 H2 (by omega) (fun h3 W3 H3 => ?_)
    have W3r := W.stp (W3.fm (x := x)).1
    obtain ⟨k1, k2, k3, k4⟩ := wref T W3
    rw [if_neg (show ¬ nn 1 = 0 by decide), Sim_l (bd_l (e_gR k1)), k2, Sim_l (bd_l (e_Cv k3)), bd_assoc]
    have l14 : (wlB g (14 + ys.length) []).length = 14 := rfl
    refine Sim.seqL (qc_one H3 (by rw [l14]; omega)) (fun _ h4 z4 => ?_)
    have W4 := W3.tr z4.2
    have W4r := W.stp (W4.fm (x := x)).1
    obtain ⟨k1, k2, k3, k4⟩ := wref T W4
    rw [Sim_l (bd_l (e_gR k1)), k2, Sim_l (bd_l (e_Cv (c := 9) W4r.1)), Sim_l (bd_l (e_bd (qc_count W4r))), Sim_l (bd_l (e_Cv k3)), bd_assoc]
    refine Sim.seqL (qc_two (k := ys.length) z4.1 (by omega) (by rw [List.length_append, l14]; show 14 + 1 + 2 ≤ 600; omega)) (fun _ h5 z5 => ?_)
    have W5 := W4.tr z5.2
    have W5r := W.stp (W5.fm (x := x)).1
    obtain ⟨k1, k2, k3, k4⟩ := wref T W5
    rw [Sim_l (bd_l (e_gR k1)), k2, Sim_l (bd_l (e_Cv k3)), bd_assoc]
    refine Sim.seqL (qc_raw z5.1 W5r (by rw [List.length_append, List.length_append, l14]; show 14 + 1 + 2 + ys.length ≤ 600; omega)) (fun _ h6 z6 => ?_)
    have W6 := W5.tr z6.2
    have H6 := z6.1
    rw [show lo8 (18 : Int32) = 18 by decide] at H6
    have mn : R_connect_J1181 (nn s) (nn 1) (nn g) = (bd (R_byteOf (nn g)) fun _ => bd (R_byteOf (0 : Int32)) fun _ => rA 13 (nn s) fun v26 => R_connect_J1210 (nn s) (nn 1) (11 : Int32) ((3 : Int32) + v26)) := rfl
    rw [mn, sr_wI]
    have w0 : Ro [90, 91] r (sI r 91 (0 : Int32)) := Ro.rf.i (by decide)
    refine Sim.seqR (qm_byte (bs := []) BD.zero (by simp)) (fun _ r1 y1 => ?_)
    refine Sim.seqR (qm_byte y1.1 (by simp)) (fun _ r2 y2 => ?_)
    have w2 := (w0.tr y1.2).tr y2.2
    have e13 : r2.2.1 13 s = nn ys.length := by rw [w2.gA (by decide)]; exact hid.1
    rw [Sim_r (x_rA mL_13 hs (by omega)), e13]
    unfold R_connect_J1210
    have en : lo8 ((11 : Int32) + ((3 : Int32) + nn ys.length)) = 14 + ys.length := by
      rw [show (3 : Int32) + nn ys.length = nn (3 + ys.length) from nn_add, show (11 : Int32) + nn (3 + ys.length) = nn (11 + (3 + ys.length)) from nn_add, lo8_nn (by omega)]
      omega
    have H2' := y2.1
    rw [eg, show lo8 (0 : Int32) = 0 by decide] at H2'
    refine wel_m2 en H2' (fun r3 w3 H7 => ?_)
    rw [if_neg (show ¬ nn 1 = 0 by decide)]
    refine Sim.seqR (qm_byte H7 (by rw [l14]; omega)) (fun _ r4 y4 => ?_)
    refine Sim.seqR (qm_byte y4.1 (by rw [List.length_append, l14]; show 14 + 1 < 1200; omega)) (fun _ r5 y5 => ?_)
    have w5 := ((w2.tr w3).tr y4.2).tr y5.2
    have e13' : r5.2.1 13 s = nn ys.length := by rw [w5.gA (by decide)]; exact hid.1
    rw [Sim_r (x_rA mL_13 hs (by omega)), e13']
    refine Sim.seqR (qm_byte y5.1 (by rw [List.length_append, List.length_append, l14]; show 14 + 1 + 1 < 1200; omega)) (fun _ r6 y6 => ?_)
    have w6 := w5.tr y6.2
    have H8 := y6.1
    rw [show lo8 (18 : Int32) = 18 by decide, show lo8 (0 : Int32) = 0 by decide, lo8_nn (by omega), Nat.mod_eq_of_lt (by omega)] at H8
    have id6 : IdOf r6 s ys := by
      unfold IdOf
      rw [w6.gA (k := 13) (by decide), w6.gA (k := 14) (by decide)]
      exact hid
    obtain ⟨u7, r7, e7, q7⟩ := wel_id (n := 0) hs id6 hl B H8 (by rw [List.length_append, List.length_append, List.length_append, l14]; show 14 + 1 + 1 + 1 ≤ 1000; omega)
    have lp : R_connect_L1305 (fun l18 => R_connect_J1340 l18) fu (nn s) (0 : Int32) r6 = R_connect_J1340 (nn s) r7 := wel_lp e7
    rw [Sim_r lp]
    refine fin (18 :: 0 :: ys.length :: ys) h6 r7 W6 ?_ (w6.tr q7.2) ?_ (by show ys.length + 3 ≤ 23; omega)
    · have : wlB g (14 + ys.length) [] ++ [18] ++ [ys.length / 256, ys.length % 256] ++ ys = wlB g (11 + (18 :: 0 :: ys.length :: ys).length) (18 :: 0 :: ys.length :: ys) := by
        rw [Nat.div_eq_of_lt (by omega), Nat.mod_eq_of_lt (by omega), show (18 :: 0 :: ys.length :: ys).length = ys.length + 3 from rfl, show 11 + (ys.length + 3) = 14 + ys.length by omega]
        unfold wlB
        simp
      rw [← this]
      exact H6
    · have : wlB g (14 + ys.length) [] ++ [18] ++ [0] ++ [ys.length] ++ ys = wlB g (11 + (18 :: 0 :: ys.length :: ys).length) (18 :: 0 :: ys.length :: ys) := by
        rw [show (18 :: 0 :: ys.length :: ys).length = ys.length + 3 from rfl, show 11 + (ys.length + 3) = 14 + ys.length by omega]
        unfold wlB
        simp
      rw [← this]
      exact q7.1
end WEL
