/-! ===== session, subscription, filter as calls ===== -/
section CA4
variable {x j i s b : Nat} {e0 : Int32} {h h' : Hp} {r r' : RS}
theorem nn_ex {l : Int32} (g : ¬ l < 0) : ∃ k, l = nn k ∧ k < 2147483648 := by
  refine ⟨l.toNatClampNeg, nn_ofp (Int32.not_lt.mp g), ?_⟩
  have := Int32.toInt_lt l
  have e : l.toNatClampNeg = l.toInt.toNat := rfl
  omega
theorem sub_of (R : Rel x 8 12 96 e0 h r) (v l : Int32) : (∃ s k u, s < 12 ∧ v = nn s ∧ l = nn k ∧ k < 8 ∧ Sub x h r 96 (8 * s + k) u ∧ C_X11_subscriptionOf x v l h = some (.inr (some u), h) ∧ ∀ r1 : RS, r1.2.1 = r.2.1 → R_hasSub v l r1 = some (1, r1)) ∨ (C_X11_subscriptionOf x v l h = some (.inl 0, hsk h 6) ∧ ∀ r1 : RS, r1.2.1 = r.2.1 → R_hasSub v l r1 = some (0, r1)) := by
  have T := R.st
  unfold C_X11_subscriptionOf R_hasSub
  rcases ses_of R v with ⟨s, b, hs, ev, hb, z4, _, z6⟩ | ⟨z4, _, z6⟩
  · have Sb := R.ses hs hb
    rw [cses_in T z4]
    by_cases g : l < 0
    · rw [if_pos g]
      refine Or.inr ⟨rfl, fun r1 e => ?_⟩
      rw [e_bd (z6 r1 e), if_neg (by decide), if_pos g]
      rfl
    · obtain ⟨k, ek, k31⟩ := nn_ex g
      obtain ⟨n, n1, n2, n3, n4, _⟩ := Sb.2.2.2.2.1
      have n2' : hfi h (100 * 10 + 4) b = nn n := n2
      have a1 : hfr h (100 * 10 + 3) b = some (b + 1) := Sb.1.2.2.2.2.1.1
      have a2 := Sb.1.2.2.2.2.1.2.1
      have a3 := Sb.1.2.2.2.2.1.2.2
      rw [if_neg g, e_gI Sb.1.1, n2', ek]
      by_cases g2 : k < n
      · obtain ⟨u, u1, u2⟩ := n4 k g2
        rw [if_pos (by rw [nn_lt (by omega) (by omega)]; exact g2), e_gR Sb.1.1, a1, e_Ar (t := 6) a2 (nn_inr (by omega) (by omega)), nn_N (by omega), u1]
        refine Or.inl ⟨s, k, u, hs, ev, rfl, by omega, u2, rfl, fun r1 e => ?_⟩
        rw [e_bd (z6 r1 e), if_neg (by decide), if_neg (by rw [← ek]; exact g), ev, x_rA mL_24 hs (by omega), e, n3, if_neg (by rw [nn_le (by omega) (by omega)]; omega)]
        rfl
      · rw [if_neg (by rw [nn_lt (by omega) (by omega)]; exact g2)]
        refine Or.inr ⟨rfl, fun r1 e => ?_⟩
        rw [e_bd (z6 r1 e), if_neg (by decide), if_neg (by rw [← ek]; exact g), ev, x_rA mL_24 hs (by omega), e, n3, if_pos (by rw [nn_le (by omega) (by omega)]; omega)]
        rfl
  · rw [cses_out T z4]
    refine Or.inr ⟨rfl, fun r1 e => ?_⟩
    rw [e_bd (z6 r1 e), if_pos rfl]
    rfl
theorem qc_cnt {a : Nat} {bs : List Nat} (W : Rw x h a bs) : C_X7_count a h = some (nn bs.length, h) := by
  obtain ⟨w1, w2, w3, y, w4, w5, w6, w7, w8, _⟩ := W
  have w1' : hkd h a = 9 + 1 := w1
  have w4' : hfr h (100 * 9 + 0) a = some y := w4
  unfold C_X7_count
  rw [e_gR w1', w4', e_Ln (t := 0) w6, w7]
  rfl
theorem call_subscription (v l w : Int32) : OkX (Iv x) (fun e => if e = 0 then some 1 else if e = 1 then some 2 else none) (C_X11_subscription x v l w) (R_subscription v l w) (fun a b => a.toInt64 = b.toInt64) := by
  intro j h r hj I
  have I0 := I
  obtain ⟨e0, O, _⟩ := I0
  have T := O.1.st
  have kx := T.2.1.1
  have mj : ∀ s1 : Int32, s1 ≠ 0 → R_subscription_J28 v l w s1 r = some (0, sI r 0 s1) := fun s1 z => by
    unfold R_subscription_J28
    rw [e_bd (m_ref s1 r), if_neg z, if_neg (by decide)]
    rfl
  unfold C_X11_subscription R_subscription R_subscription_J23
  rcases sub_of O.1 v l with ⟨s, k, u, hs, ev, el, hk, ⟨bs, st, o, id, d1, d2, d3, d4, d5, _⟩, z4, z6⟩ | ⟨z4, z6⟩
  · obtain ⟨⟨u1, u2, u3⟩, ⟨t, t1, t2⟩, _⟩ := d1
    have u1' : hkd h u = 11 + 1 := u1
    have q0 : hfi h (100 * 11 + 2) u = nn o := d3.1
    have q1 : hfi h (100 * 11 + 3) u = nn id := d4.1
    have q3 : hfi h (100 * 11 + 4) u = r.2.1 29 (8 * s + k) := d5
    have q2 : hfr h (100 * 11 + 0) u = some t := t1
    have kt : hkd h t = 9 + 1 := t2.1
    rw [e_Cx (c := 13) kx, e_bxR z4, e_bd (z6 r rfl), if_neg (show ¬ (1 : Int32) = 0 by decide)]
    have m0 : R_subscription_J28 v l w 0 r = (if w = 0 then (rA 27 (nn (8 * s + k)) fun v6 => rt (v6)) else (if w = (1 : Int32) then (rA 28 (nn (8 * s + k)) fun v5 => rt (v5)) else (if w = (2 : Int32) then (rA 25 (nn (8 * s + k)) fun v4 => rt (v4)) else (rA 29 (nn (8 * s + k)) fun v3 => rt (v3))))) (sI r 0 0) := by
      unfold R_subscription_J28 lq
      rw [e_bd (m_ref 0 r), if_pos rfl, if_pos rfl, ev, el, show (8 : Int32) = nn 8 from rfl, nn_mul, nn_add]
    have wb : 8 * s + k < 96 := by omega
    by_cases w0 : w = 0
    · subst w0
      rw [if_pos rfl, e_gI u1', q0, if_neg (by decide), if_pos (by decide), m0, if_pos rfl, x_rA mL_27 wb (by omega)]
      exact ⟨.inr (nn o), h, nn o, sI r 0 0, rfl, by rw [show (sI r 0 0).2.1 27 (8 * s + k) = nn o from d3.2.1]; rfl, I.z0, rfl, rfl⟩
    · by_cases w1 : w = 1
      · subst w1
        rw [if_neg (by decide), if_pos rfl, e_gI u1', q1, if_neg (by decide), if_pos (by decide), m0, if_neg (by decide), if_pos rfl, x_rA mL_28 wb (by omega)]
        exact ⟨.inr (nn id), h, nn id, sI r 0 0, rfl, by rw [show (sI r 0 0).2.1 28 (8 * s + k) = nn id from d4.2.1]; rfl, I.z0, rfl, rfl⟩
      · by_cases w2 : w = 2
        · subst w2
          rw [if_neg (by decide), if_neg (by decide), if_pos rfl, e_gR u1', q2, e_Cv (c := 9) kt, e_bd (qc_cnt t2), if_neg (by decide), if_pos (by decide), m0, if_neg (by decide), if_neg (by decide), if_pos rfl, x_rA mL_25 wb (by omega)]
          exact ⟨.inr (nn bs.length), h, nn bs.length, sI r 0 0, rfl, by rw [show (sI r 0 0).2.1 25 (8 * s + k) = nn bs.length from d2.1]; rfl, I.z0, rfl, rfl⟩
        · by_cases w3 : w = 3
          · subst w3
            rw [if_neg (by decide), if_neg (by decide), if_neg (by decide), if_pos rfl, e_gI u1', q3, if_neg (by decide), if_pos (by decide), m0, if_neg (by decide), if_neg (by decide), if_neg (by decide), x_rA mL_29 wb (by omega)]
            exact ⟨.inr (r.2.1 29 (8 * s + k)), h, r.2.1 29 (8 * s + k), sI r 0 0, rfl, rfl, I.z0, rfl, rfl⟩
          · rw [if_neg w0, if_neg w1, if_neg w2, if_neg w3]
            have bad : (if w < 0 then R_subscription_J28 v l w 2 else if w ≤ (3 : Int32) then R_subscription_J28 v l w 0 else R_subscription_J28 v l w 2) r = some (0, sI r 0 2) := by
              by_cases g : w < 0
              · rw [if_pos g, mj 2 (by decide)]
              · rw [if_neg g]
                by_cases g2 : w ≤ 3
                · obtain ⟨m, em, m31⟩ := nn_ex g
                  rw [em, show (3 : Int32) = nn 3 from rfl, nn_le (by omega) (by omega)] at g2
                  have : m = 0 ∨ m = 1 ∨ m = 2 ∨ m = 3 := by omega
                  rcases this with rfl | rfl | rfl | rfl
                  · exact absurd em w0
                  · exact absurd em w1
                  · exact absurd em w2
                  · exact absurd em w3
                · rw [if_neg g2, mj 2 (by decide)]
            exact ⟨.inl 1, hsk h 6, 0, sI r 0 2, rfl, bad, I.thr, 2, rfl, by decide, rfl⟩
  · rw [e_Cx (c := 13) kx, e_bxL z4, e_bd (z6 r rfl), if_pos rfl]
    exact ⟨.inl 0, hsk h 6, 0, sI r 0 1, rfl, mj 1 (by decide), I.thr, 1, rfl, by decide, rfl⟩
theorem call_filter (v l w : Int32) : OkX (Iv x) (fun e => if e = 0 then some 1 else none) (C_X11_filter x v l w) (R_filter v l w) (fun a b => a.toInt64 = b.toInt64) := by
  intro j h r hj I
  have I0 := I
  obtain ⟨e0, O, _⟩ := I0
  have T := O.1.st
  have kx := T.2.1.1
  unfold C_X11_filter R_filter R_filter_J15
  rcases sub_of O.1 v l with ⟨s, k, u, hs, ev, el, hk, ⟨bs, st, o, id, d1, d2, d3, d4, d5, _⟩, z4, z6⟩ | ⟨z4, z6⟩
  · obtain ⟨⟨u1, u2, u3⟩, ⟨t, t1, t2⟩, fs, _⟩ := d1
    have u1' : hkd h u = 11 + 1 := u1
    have q2 : hfr h (100 * 11 + 0) u = some t := t1
    have kt : hkd h t = 9 + 1 := t2.1
    have bl : bs.length ≤ 64 := (fstart_lt fs).2.1
    have wb : 8 * s + k < 96 := by omega
    rw [e_Cx (c := 13) kx, e_bxR z4, e_gR u1', q2, e_Cv (c := 9) kt, e_bd (z6 r rfl), if_neg (show ¬ (1 : Int32) = 0 by decide), e_bd (m_ref 0 r), if_pos rfl, if_pos rfl]
    unfold lq
    rw [ev, el, show (8 : Int32) = nn 8 from rfl, nn_mul, nn_add]
    dsimp only
    by_cases g : w < 0
    · rw [e_bd (qc_at0 g), if_pos g]
      exact ⟨.inr (-1), h, -1, sI r 0 0, rfl, rfl, I.z0, rfl, rfl⟩
    · obtain ⟨m, em, m31⟩ := nn_ex g
      have e25 : (sI r 0 0).2.1 25 (8 * s + k) = nn bs.length := d2.1
      rw [if_neg g, em, e_bd (qc_rat t2 (by omega) m31), x_rA mL_25 wb (by omega), e25]
      by_cases g2 : m < bs.length
      · have e26 : (sI r 0 0).2.1 26 (64 * (8 * s + k) + m) = sb (bs.getD m 0) := d2.2 m g2
        rw [if_pos g2, if_neg (by rw [nn_le (by omega) (by omega)]; omega), show (64 : Int32) = nn 64 from rfl, nn_mul, nn_add, x_rA mL_26 (by omega) (by omega), e26, (type_or _ (t2.2.2.1.at m)).2.2]
        exact ⟨.inr (nn (bs.getD m 0)), h, nn (bs.getD m 0), sI r 0 0, rfl, rfl, I.z0, rfl, rfl⟩
      · rw [if_neg g2, if_pos (by rw [nn_le (by omega) (by omega)]; omega)]
        exact ⟨.inr (-1), h, -1, sI r 0 0, rfl, rfl, I.z0, rfl, rfl⟩
  · rw [e_Cx (c := 13) kx, e_bxL z4, e_bd (z6 r rfl), if_pos rfl, e_bd (m_ref 1 r), if_neg (by decide)]
    exact ⟨.inl 0, hsk h 6, 0, sI r 0 1, rfl, rfl, I.thr, 1, rfl, by decide, rfl⟩
theorem call_session (v w : Int32) : OkX (Iv x) (fun e => if e = 0 then some 1 else if e = 1 then some 2 else none) (C_X11_session x v w) (R_session v w) (fun a b => a.toInt64 = b.toInt64) := by
  intro j h r hj I
  have I0 := I
  obtain ⟨e0, O, _⟩ := I0
  have T := O.1.st
  have kx := T.2.1.1
  have mj : ∀ s1 : Int32, s1 ≠ 0 → R_session_J28 v w s1 r = some (0, sI r 0 s1) := fun s1 z => by
    unfold R_session_J28
    rw [e_bd (m_ref s1 r), if_neg z, if_neg (by decide)]
    rfl
  unfold C_X11_session R_session R_session_J23
  rcases ses_of O.1 v with ⟨s, b, hs, ev, hb, z4, _, z6⟩ | ⟨z4, _, z6⟩
  · have Sb := O.1.ses hs hb
    have kb := Sb.1.1
    obtain ⟨⟨_, _⟩, ⟨s17, _⟩, _, ⟨s19, _⟩, s15⟩ := Sb.2.2.1
    obtain ⟨nu, _, u1, u2, _⟩ := Sb.2.2.2.2.1
    obtain ⟨ny, _, y1, y2, _⟩ := Sb.2.2.2.2.2.1
    obtain ⟨nq, _, q1, q2, _⟩ := Sb.2.2.2.2.2.2.1
    obtain ⟨lc, lm, _, pe, _, _, h1, h2, _⟩ := Sb.2.2.2.2.2.2.2.1
    obtain ⟨a, bs, i1, i2, i3, i4, i5⟩ := Sb.2.1
    have SW := Sb.2.2.2.1
    rw [cses_in T z4, e_bd (z6 r rfl), if_neg (show ¬ (1 : Int32) = 0 by decide)]
    by_cases w0 : w = 0
    · subst w0
      have em : ∀ c : Int32, (rA 15 (nn s) fun v => rt v) (sI r 0 0) = some (c, sI r 0 0) → (if (0 : Int32) < 0 then R_session_J28 v 0 2 else if (0 : Int32) ≤ 8 then R_session_J28 v 0 0 else R_session_J28 v 0 2) r = some (c, sI r 0 0) := fun c e => by
        unfold R_session_J28
        rw [if_neg (by decide), if_pos (by decide), e_bd (m_ref 0 r), if_pos rfl, if_pos rfl, if_pos rfl, ev]
        exact e
      rcases s15 with ⟨a1, a2⟩ | ⟨i, hi, a1, a2, _⟩
      · have a1' : hfr h (100 * 10 + 2) b = none := a1
        refine ⟨.inr (-1), h, (-1), sI r 0 0, ?_, em _ ?_, I.z0, rfl, rfl⟩
        · rw [if_pos rfl, e_gR kb, a1', if_pos rfl]
          rfl
        · rw [x_rA mL_15 hs (by omega), show (sI r 0 0).2.1 15 s = -1 from a2]
          rfl
      · have a1' : hfr h (100 * 10 + 2) b = some (cA x i) := a1
        have a3 : hfi h (100 * 2 + 0) (cA x i) = nn i := (T.2.2.2.2.2.2 i hi).2.2.1
        refine ⟨.inr (nn i), h, (nn i), sI r 0 0, ?_, em _ ?_, I.z0, rfl, rfl⟩
        · rw [if_pos rfl, e_gR kb, a1', if_neg (by simp), e_gR kb, a1', e_gI (T.pk hi).1, a3]
          rfl
        · rw [x_rA mL_15 hs (by omega), show (sI r 0 0).2.1 15 s = nn i from a2]
          rfl
    · skip
      by_cases w1 : w = 1
      · subst w1
        have em : ∀ c : Int32, (rA 24 (nn s) fun v => rt v) (sI r 0 0) = some (c, sI r 0 0) → (if (1 : Int32) < 0 then R_session_J28 v 1 2 else if (1 : Int32) ≤ 8 then R_session_J28 v 1 0 else R_session_J28 v 1 2) r = some (c, sI r 0 0) := fun c e => by
          unfold R_session_J28
          rw [if_neg (by decide), if_pos (by decide), e_bd (m_ref 0 r), if_pos rfl, if_pos rfl, if_neg (by decide), if_pos rfl, ev]
          exact e
        have a1 : hfi h (100 * 10 + 4) b = nn nu := u1
        have a2 : (sI r 0 0).2.1 24 s = nn nu := u2
        refine ⟨.inr (nn nu), h, (nn nu), sI r 0 0, ?_, em _ ?_, I.z0, rfl, rfl⟩
        · rw [if_neg (by decide), if_pos rfl, e_gI kb, a1]
          rfl
        · rw [x_rA mL_24 hs (by omega), a2]
          rfl
      · skip
        by_cases w2 : w = 2
        · subst w2
          have em : ∀ c : Int32, (rA 31 (nn s) fun v => rt v) (sI r 0 0) = some (c, sI r 0 0) → (if (2 : Int32) < 0 then R_session_J28 v 2 2 else if (2 : Int32) ≤ 8 then R_session_J28 v 2 0 else R_session_J28 v 2 2) r = some (c, sI r 0 0) := fun c e => by
            unfold R_session_J28
            rw [if_neg (by decide), if_pos (by decide), e_bd (m_ref 0 r), if_pos rfl, if_pos rfl, if_neg (by decide), if_neg (by decide), if_pos rfl, ev]
            exact e
          have a1 : hfi h (100 * 10 + 6) b = nn ny := y1
          have a2 : (sI r 0 0).2.1 31 s = nn ny := y2
          refine ⟨.inr (nn ny), h, (nn ny), sI r 0 0, ?_, em _ ?_, I.z0, rfl, rfl⟩
          · rw [if_neg (by decide), if_neg (by decide), if_pos rfl, e_gI kb, a1]
            rfl
          · rw [x_rA mL_31 hs (by omega), a2]
            rfl
        · skip
          by_cases w3 : w = 3
          · subst w3
            have em : ∀ c : Int32, (rA 38 (nn s) fun v => rt v) (sI r 0 0) = some (c, sI r 0 0) → (if (3 : Int32) < 0 then R_session_J28 v 3 2 else if (3 : Int32) ≤ 8 then R_session_J28 v 3 0 else R_session_J28 v 3 2) r = some (c, sI r 0 0) := fun c e => by
              unfold R_session_J28
              rw [if_neg (by decide), if_pos (by decide), e_bd (m_ref 0 r), if_pos rfl, if_pos rfl, if_neg (by decide), if_neg (by decide), if_neg (by decide), if_pos rfl, ev]
              exact e
            have a1 : hfi h (100 * 10 + 8) b = nn nq := q1
            have a2 : (sI r 0 0).2.1 38 s = nn nq := q2
            refine ⟨.inr (nn nq), h, (nn nq), sI r 0 0, ?_, em _ ?_, I.z0, rfl, rfl⟩
            · rw [if_neg (by decide), if_neg (by decide), if_neg (by decide), if_pos rfl, e_gI kb, a1]
              rfl
            · rw [x_rA mL_38 hs (by omega), a2]
              rfl
          · skip
            by_cases w4 : w = 4
            · subst w4
              have em : ∀ c : Int32, (rA 43 (nn s) fun v => rt v) (sI r 0 0) = some (c, sI r 0 0) → (if (4 : Int32) < 0 then R_session_J28 v 4 2 else if (4 : Int32) ≤ 8 then R_session_J28 v 4 0 else R_session_J28 v 4 2) r = some (c, sI r 0 0) := fun c e => by
                unfold R_session_J28
                rw [if_neg (by decide), if_pos (by decide), e_bd (m_ref 0 r), if_pos rfl, if_pos rfl, if_neg (by decide), if_neg (by decide), if_neg (by decide), if_neg (by decide), if_pos rfl, ev]
                exact e
              have a1 : hfi h (100 * 10 + 10) b = nn lc.length := h1
              have a2 : (sI r 0 0).2.1 43 s = nn lc.length := (by rw [pe.length_eq]; exact h2)
              refine ⟨.inr (nn lc.length), h, (nn lc.length), sI r 0 0, ?_, em _ ?_, I.z0, rfl, rfl⟩
              · rw [if_neg (by decide), if_neg (by decide), if_neg (by decide), if_neg (by decide), if_pos rfl, e_gI kb, a1]
                rfl
              · rw [x_rA mL_43 hs (by omega), a2]
                rfl
            · skip
              by_cases w5 : w = 5
              · subst w5
                have em : ∀ c : Int32, (rA 20 (nn s) fun v7 => if v7 < 0 then (rt ((0 : Int32))) else (rt ((1 : Int32)))) (sI r 0 0) = some (c, sI r 0 0) → (if (5 : Int32) < 0 then R_session_J28 v 5 2 else if (5 : Int32) ≤ 8 then R_session_J28 v 5 0 else R_session_J28 v 5 2) r = some (c, sI r 0 0) := fun c e => by
                  unfold R_session_J28
                  rw [if_neg (by decide), if_pos (by decide), e_bd (m_ref 0 r), if_pos rfl, if_pos rfl, if_neg (by decide), if_neg (by decide), if_neg (by decide), if_neg (by decide), if_neg (by decide), if_pos rfl, ev]
                  exact e
                rcases SW with ⟨a1, a2⟩ | ⟨m, jj, a1, a2, mp, _⟩
                · have a1' : hfr h (100 * 10 + 11) b = none := a1
                  refine ⟨.inr 0, h, 0, sI r 0 0, ?_, em _ ?_, I.z0, rfl, rfl⟩
                  · rw [if_neg (by decide), if_neg (by decide), if_neg (by decide), if_neg (by decide), if_neg (by decide), if_pos rfl, e_gR kb, a1', if_pos rfl]
                    rfl
                  · rw [x_rA mL_20 hs (by omega), show (sI r 0 0).2.1 20 s = -1 from a2, if_pos (by decide)]
                    rfl
                · have a1' : hfr h (100 * 10 + 11) b = some m := a1
                  have jl : jj < 640 := by
                    obtain ⟨V, _, v2, _⟩ := mp
                    exact v2.1
                  refine ⟨.inr 1, h, 1, sI r 0 0, ?_, em _ ?_, I.z0, rfl, rfl⟩
                  · rw [if_neg (by decide), if_neg (by decide), if_neg (by decide), if_neg (by decide), if_neg (by decide), if_pos rfl, e_gR kb, a1', if_neg (by simp)]
                    rfl
                  · rw [x_rA mL_20 hs (by omega), show (sI r 0 0).2.1 20 s = nn jj from a2, if_neg (by rw [show (0 : Int32) = nn 0 from rfl, nn_lt (by omega) (by omega)]; omega)]
                    rfl
              · skip
                by_cases w6 : w = 6
                · subst w6
                  have em : ∀ c : Int32, (rA 13 (nn s) fun v => rt v) (sI r 0 0) = some (c, sI r 0 0) → (if (6 : Int32) < 0 then R_session_J28 v 6 2 else if (6 : Int32) ≤ 8 then R_session_J28 v 6 0 else R_session_J28 v 6 2) r = some (c, sI r 0 0) := fun c e => by
                    unfold R_session_J28
                    rw [if_neg (by decide), if_pos (by decide), e_bd (m_ref 0 r), if_pos rfl, if_pos rfl, if_neg (by decide), if_neg (by decide), if_neg (by decide), if_neg (by decide), if_neg (by decide), if_neg (by decide), if_pos rfl, ev]
                    exact e
                  have a1 : hfr h (100 * 10 + 1) b = some a := i1
                  have ka : hkd h a = 9 + 1 := i2.1
                  refine ⟨.inr (nn bs.length), h, (nn bs.length), sI r 0 0, ?_, em _ ?_, I.z0, rfl, rfl⟩
                  · rw [if_neg (by decide), if_neg (by decide), if_neg (by decide), if_neg (by decide), if_neg (by decide), if_neg (by decide), if_pos rfl, e_gR kb, a1, e_Cv (c := 9) ka, e_bd (qc_cnt i2)]
                    rfl
                  · rw [x_rA mL_13 hs (by omega), show (sI r 0 0).2.1 13 s = nn bs.length from i4]
                    rfl
                · skip
                  by_cases w7 : w = 7
                  · subst w7
                    have em : ∀ c : Int32, (rA 19 (nn s) fun v => rt v) (sI r 0 0) = some (c, sI r 0 0) → (if (7 : Int32) < 0 then R_session_J28 v 7 2 else if (7 : Int32) ≤ 8 then R_session_J28 v 7 0 else R_session_J28 v 7 2) r = some (c, sI r 0 0) := fun c e => by
                      unfold R_session_J28
                      rw [if_neg (by decide), if_pos (by decide), e_bd (m_ref 0 r), if_pos rfl, if_pos rfl, if_neg (by decide), if_neg (by decide), if_neg (by decide), if_neg (by decide), if_neg (by decide), if_neg (by decide), if_neg (by decide), if_pos rfl, ev]
                      exact e
                    have a1 : hfi h (100 * 10 + 16) b = r.2.1 19 s := s19
                    refine ⟨.inr (r.2.1 19 s), h, (r.2.1 19 s), sI r 0 0, ?_, em _ ?_, I.z0, rfl, rfl⟩
                    · rw [if_neg (by decide), if_neg (by decide), if_neg (by decide), if_neg (by decide), if_neg (by decide), if_neg (by decide), if_neg (by decide), if_pos rfl, e_gI kb, a1]
                      rfl
                    · rw [x_rA mL_19 hs (by omega)]
                      rfl
                  · skip
                    by_cases w8 : w = 8
                    · subst w8
                      have em : ∀ c : Int32, (rA 17 (nn s) fun v => rt v) (sI r 0 0) = some (c, sI r 0 0) → (if (8 : Int32) < 0 then R_session_J28 v 8 2 else if (8 : Int32) ≤ 8 then R_session_J28 v 8 0 else R_session_J28 v 8 2) r = some (c, sI r 0 0) := fun c e => by
                        unfold R_session_J28
                        rw [if_neg (by decide), if_pos (by decide), e_bd (m_ref 0 r), if_pos rfl, if_pos rfl, if_neg (by decide), if_neg (by decide), if_neg (by decide), if_neg (by decide), if_neg (by decide), if_neg (by decide), if_neg (by decide), if_neg (by decide), ev]
                        exact e
                      have a1 : hfi h (100 * 10 + 15) b = r.2.1 17 s := s17
                      refine ⟨.inr (r.2.1 17 s), h, (r.2.1 17 s), sI r 0 0, ?_, em _ ?_, I.z0, rfl, rfl⟩
                      · rw [if_neg (by decide), if_neg (by decide), if_neg (by decide), if_neg (by decide), if_neg (by decide), if_neg (by decide), if_neg (by decide), if_neg (by decide), if_pos rfl, e_gI kb, a1]
                        rfl
                      · rw [x_rA mL_17 hs (by omega)]
                        rfl
                    · skip
                      rw [if_neg w0, if_neg w1, if_neg w2, if_neg w3, if_neg w4, if_neg w5, if_neg w6, if_neg w7, if_neg w8]
                      have bad : (if w < 0 then R_session_J28 v w 2 else if w ≤ (8 : Int32) then R_session_J28 v w 0 else R_session_J28 v w 2) r = some (0, sI r 0 2) := by
                        by_cases g : w < 0
                        · rw [if_pos g, mj 2 (by decide)]
                        · rw [if_neg g]
                          by_cases g2 : w ≤ 8
                          · obtain ⟨m, em, m31⟩ := nn_ex g
                            rw [em, show (8 : Int32) = nn 8 from rfl, nn_le (by omega) (by omega)] at g2
                            have : m = 0 ∨ m = 1 ∨ m = 2 ∨ m = 3 ∨ m = 4 ∨ m = 5 ∨ m = 6 ∨ m = 7 ∨ m = 8 := by omega
                            rcases this with rfl | rfl | rfl | rfl | rfl | rfl | rfl | rfl | rfl
                            · exact absurd em w0
                            · exact absurd em w1
                            · exact absurd em w2
                            · exact absurd em w3
                            · exact absurd em w4
                            · exact absurd em w5
                            · exact absurd em w6
                            · exact absurd em w7
                            · exact absurd em w8
                          · rw [if_neg g2, mj 2 (by decide)]
                      exact ⟨.inl 1, hsk h 6, 0, sI r 0 2, rfl, bad, I.thr, 2, rfl, by decide, rfl⟩
  · rw [cses_out T z4, e_bd (z6 r rfl), if_pos rfl]
    exact ⟨.inl 0, hsk h 6, 0, sI r 0 1, rfl, mj 1 (by decide), I.thr, 1, rfl, by decide, rfl⟩
end CA4
