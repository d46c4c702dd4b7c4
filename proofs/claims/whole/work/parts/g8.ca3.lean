/-! ===== isSession, session, expiry, id, subscription, filter as calls ===== -/
section CA3
variable {x j i s b : Nat} {e0 : Int32} {h h' : Hp} {r r' : RS}
/-- the session that is asked for: there, or not -/
theorem ses_of (R : Rel x 8 12 96 e0 h r) (v : Int32) : (∃ s b, s < 12 ∧ v = nn s ∧ har h (x + 34) s = some b ∧ C_X11_sessionOf x v h = some (.inr (some b), h) ∧ C_X11_isSession x v h = some (1, h) ∧ ∀ r1 : RS, r1.2.1 = r.2.1 → R_hasSession v r1 = some (1, r1)) ∨ (C_X11_sessionOf x v h = some (.inl 0, hsk h 6) ∧ C_X11_isSession x v h = some (0, h) ∧ ∀ r1 : RS, r1.2.1 = r.2.1 → R_hasSession v r1 = some (0, r1)) := by
  have T := R.st
  have kx := T.2.1.1
  have k1 : hfr h (100 * 13 + 1) x = some (x + 34) := T.2.1.2.2.1
  obtain ⟨_, _, a3, a4, _⟩ := T.2.2.1
  unfold C_X11_sessionOf C_X11_isSession R_hasSession
  by_cases g0 : v < 0
  · rw [if_pos g0, if_pos g0]
    exact Or.inr ⟨rfl, rfl, fun r1 _ => by rw [if_pos g0]; rfl⟩
  · rw [if_neg g0, if_neg g0]
    by_cases g1 : (12 : Int32) ≤ v
    · rw [if_pos g1, if_pos g1]
      exact Or.inr ⟨rfl, rfl, fun r1 _ => by rw [if_neg g0, if_pos g1]; rfl⟩
    · rw [if_neg g1, if_neg g1]
      have v0 : 0 ≤ v := Int32.not_lt.mp g0
      obtain ⟨s, es⟩ : ∃ s, s = v.toNatClampNeg := ⟨_, rfl⟩
      have ev : v = nn s := by
        rw [es]
        exact nn_ofp v0
      have s31 : s < 2147483648 := by
        rw [es]
        have := Int32.toInt_lt v
        have e : v.toNatClampNeg = v.toInt.toNat := rfl
        omega
      have hs : s < 12 := by
        rw [ev, show (12 : Int32) = nn 12 from rfl, nn_le (by omega) (by omega)] at g1
        omega
      rw [ev] at g0 g1 ⊢
      rw [e_gR (c := 13) kx, k1, e_Ar (t := 5) a3 (nn_inr (by omega) (by omega)), nn_N (by omega), e_gR (c := 13) kx, k1, e_Ar (t := 5) a3 (nn_inr (by omega) (by omega)), nn_N (by omega)]
      rcases R.2.2.2.2.1 s hs with ⟨z1, z2⟩ | ⟨z1, b, z2, _⟩
      · rw [z2, if_pos rfl, if_pos rfl]
        refine Or.inr ⟨rfl, rfl, fun r1 e => ?_⟩
        rw [if_neg g0, if_neg g1, x_rA mL_11 hs (by omega), e, z1, if_pos rfl]
        rfl
      · rw [z2, if_neg (by simp), if_neg (by simp), e_gR (c := 13) kx, k1, e_Ar (t := 5) a3 (nn_inr (by omega) (by omega)), nn_N (by omega), z2]
        refine Or.inl ⟨s, b, hs, rfl, z2, rfl, rfl, fun r1 e => ?_⟩
        rw [if_neg g0, if_neg g1, x_rA mL_11 hs (by omega), e, z1, if_neg (by decide)]
        rfl
theorem call_isSession (v : Int32) : OkN (Iv x) (C_X11_isSession x v) (R_isSession v) (fun a b => a = b) := by
  intro j h r hj I
  have I0 := I
  obtain ⟨e0, O, _⟩ := I0
  unfold R_isSession
  rcases ses_of O.1 v with ⟨s, b, _, _, _, _, z5, z6⟩ | ⟨_, z5, z6⟩
  · exact ⟨1, h, 1, sI r 0 0, z5, by rw [x_wI, e_bd (z6 (sI r 0 0) rfl)]; rfl, I.z0, rfl⟩
  · exact ⟨0, h, 0, sI r 0 0, z5, by rw [x_wI, e_bd (z6 (sI r 0 0) rfl)]; rfl, I.z0, rfl⟩
theorem cses_in {α : Type} {v : Int32} {f : Option Nat → Hp → Option ((Nat ⊕ α) × Hp)} (T : Stat x h) (z : C_X11_sessionOf x v h = some (.inr (some b), h)) : hCx 13 (some x) (fun a => C_X11_sessionOf a v) f h = f (some b) h := by
  rw [e_Cx (c := 13) T.2.1.1]
  exact e_bxR z
theorem cses_out {α : Type} {v : Int32} {f : Option Nat → Hp → Option ((Nat ⊕ α) × Hp)} (T : Stat x h) (z : C_X11_sessionOf x v h = some (.inl 0, hsk h 6)) : hCx 13 (some x) (fun a => C_X11_sessionOf a v) f h = some (.inl 0, hsk h 6) := by
  rw [e_Cx (c := 13) T.2.1.1]
  exact e_bxL z
theorem call_expiry (v : Int32) : OkX (Iv x) (fun e => if e = 0 then some 1 else none) (C_X11_expiry x v) (R_expiry v) (fun a b => a = b) := by
  intro j h r hj I
  have I0 := I
  obtain ⟨e0, O, _⟩ := I0
  have T := O.1.st
  unfold C_X11_expiry R_expiry R_expiry_J14
  rcases ses_of O.1 v with ⟨s, b, hs, ev, hb, z4, _, z6⟩ | ⟨z4, _, z6⟩
  · have Sb := O.1.ses hs hb
    have e1 : hfl h (100 * 10 + 13) b = r.2.2 16 s := Sb.2.2.1.1.1
    rw [cses_in T z4, e_gL Sb.1.1, e1, e_bd (z6 r rfl), if_neg (show ¬ (1 : Int32) = 0 by decide), e_bd (m_ref 0 r), if_pos rfl, if_pos rfl, ev, x_rL mL_16 hs (by omega)]
    exact ⟨.inr (r.2.2 16 s), h, r.2.2 16 s, sI r 0 0, rfl, rfl, I.z0, rfl, rfl⟩
  · rw [cses_out T z4, e_bd (z6 r rfl), if_pos rfl, e_bd (m_ref 1 r), if_neg (by decide)]
    exact ⟨.inl 0, hsk h 6, 0, sI r 0 1, rfl, rfl, I.thr, 1, rfl, by decide, rfl⟩
/-- a byte of a row -/
theorem qc_rat {a k : Nat} {bs : List Nat} (W : Rw x h a bs) (hl : bs.length < 2147483648) (hk : k < 2147483648) : C_X7_at a (nn k) h = some (if k < bs.length then nn (bs.getD k 0) else -1, h) := by
  obtain ⟨w1, w2, w3, y, w4, w5, w6, w7, w8, _⟩ := W
  have w1' : hkd h a = 9 + 1 := w1
  have w4' : hfr h (100 * 9 + 0) a = some y := w4
  unfold C_X7_at
  rw [if_neg (by rw [show (0 : Int32) = nn 0 from rfl, nn_lt (by omega) (by omega)]; omega), e_gR w1', w4', e_Ln (t := 0) w6, w7]
  rw [show Int32.ofNat bs.length = nn bs.length from rfl]
  by_cases g : k < bs.length
  · rw [if_neg (by rw [nn_le (by omega) (by omega)]; omega), if_pos g, e_gR w1', w4', e_Ai w6 (nn_inr (by omega) (by omega)), nn_N (by omega)]
    have := w8 k g
    rw [Nat.zero_add] at this
    rw [this]
    rfl
  · rw [if_pos (by rw [nn_le (by omega) (by omega)]; omega), if_neg g]
    rfl
theorem qc_at0 {a : Nat} {l : Int32} (g : l < 0) : C_X7_at a l h = some (-1, h) := by
  unfold C_X7_at
  rw [if_pos g]
  rfl
theorem call_id (v l : Int32) : OkX (Iv x) (fun e => if e = 0 then some 1 else none) (C_X11_id x v l) (R_id v l) (fun a b => a.toInt64 = b.toInt64) := by
  intro j h r hj I
  have I0 := I
  obtain ⟨e0, O, _⟩ := I0
  have T := O.1.st
  unfold C_X11_id R_id R_id_J14
  rcases ses_of O.1 v with ⟨s, b, hs, ev, hb, z4, _, z6⟩ | ⟨z4, _, z6⟩
  · have Sb := O.1.ses hs hb
    obtain ⟨a, bs, i1, i2, i3, i4, i5⟩ := Sb.2.1
    have i1' : hfr h (100 * 10 + 1) b = some a := i1
    have ka : hkd h a = 9 + 1 := i2.1
    rw [cses_in T z4, e_gR Sb.1.1, i1', e_Cv (c := 9) ka, e_bd (z6 r rfl), if_neg (show ¬ (1 : Int32) = 0 by decide), e_bd (m_ref 0 r), if_pos rfl, if_pos rfl]
    by_cases g : l < 0
    · rw [e_bd (qc_at0 g), if_pos g]
      exact ⟨.inr (-1), h, -1, sI r 0 0, rfl, rfl, I.z0, rfl, rfl⟩
    · obtain ⟨k, ek⟩ : ∃ k, k = l.toNatClampNeg := ⟨_, rfl⟩
      have el : l = nn k := by
        rw [ek]
        exact nn_ofp (Int32.not_lt.mp g)
      have hk31 : k < 2147483648 := by
        rw [ek]
        have := Int32.toInt_lt l
        have e : l.toNatClampNeg = l.toInt.toNat := rfl
        omega
      have e13 : (sI r 0 0).2.1 13 s = nn bs.length := i4
      rw [if_neg g, el, e_bd (qc_rat i2 (by omega) hk31), ev, x_rA mL_13 hs (by omega), e13]
      by_cases g2 : k < bs.length
      · have e14 : (sI r 0 0).2.1 14 (20 * s + k) = sb (bs.getD k 0) := i5 k g2
        rw [if_pos g2, if_neg (by rw [nn_le (by omega) (by omega)]; omega), show (20 : Int32) = nn 20 from rfl, nn_mul, nn_add, x_rA mL_14 (by omega) (by omega), e14, (type_or _ (i2.2.2.1.at k)).2.2]
        exact ⟨.inr (nn (bs.getD k 0)), h, nn (bs.getD k 0), sI r 0 0, rfl, rfl, I.z0, rfl, rfl⟩
      · rw [if_neg g2, if_pos (by rw [nn_le (by omega) (by omega)]; omega)]
        exact ⟨.inr (-1), h, -1, sI r 0 0, rfl, rfl, I.z0, rfl, rfl⟩
  · rw [cses_out T z4, e_bd (z6 r rfl), if_pos rfl, e_bd (m_ref 1 r), if_neg (by decide)]
    exact ⟨.inl 0, hsk h 6, 0, sI r 0 1, rfl, rfl, I.thr, 1, rfl, by decide, rfl⟩
end CA3
