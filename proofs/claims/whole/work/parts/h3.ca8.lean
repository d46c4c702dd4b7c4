/-! ===== kept as a call ===== -/
section CA8
variable {x j i : Nat} {e0 : Int32} {h h' : Hp} {r r' : RS}
theorem kep_of (R : Rel x 8 12 96 e0 h r) (K : KL r (kpt r)) (l : Int32) : (∃ k m q, l = nn k ∧ k < 16 ∧ q < 640 ∧ C_X6_get (x + 35) l h = some (some m, h) ∧ MpT x h r m q ∧ r.2.1 64 k = nn q ∧ ¬ l < 0 ∧ l < r.1 65 ∧ gon r q = false) ∨ (C_X6_get (x + 35) l h = some (none, h) ∧ (l < 0 ∨ (¬ l < 0 ∧ ¬ l < r.1 65))) := by
  have T := R.st
  have hk := R.2.2.2.2.2.2.2.2.1
  obtain ⟨_, _, _, _, a5, a6, a7, a8⟩ := T.2.2.1
  have k35 : hkd h (x + 35) = 8 + 1 := a5
  have e801 : hfi h (100 * 8 + 1) (x + 35) = nn (kpt r).length := hk.2.1
  have e800 : hfr h (100 * 8 + 0) (x + 35) = some (x + 36) := a6
  have kl := K.2.1
  unfold C_X6_get C_X6_get_J21
  by_cases g : l < 0
  · rw [if_pos g]
    exact Or.inr ⟨rfl, Or.inl g⟩
  · obtain ⟨k, ek, k31⟩ := nn_ex g
    rw [if_neg g, e_gI k35, e801, K.1, ek]
    by_cases g2 : k < (kpt r).length
    · obtain ⟨m, m1, m2⟩ := hk.2.2 k g2
      rw [if_neg (by rw [nn_le (by omega) (by omega)]; omega), e_gR k35, e800, e_Ar (t := 9) a7 (nn_inr (by omega) (by omega)), nn_N (by omega), m1]
      exact Or.inl ⟨k, m, (kpt r).getD k 0, rfl, by omega, (K.2.2 k g2).2, rfl, m2, (K.2.2 k g2).1, by rw [← ek]; exact g, by rw [nn_lt (by omega) (by omega)]; exact g2, by
        have hm := mem_getD g2
        unfold kpt at hm ⊢
        have h2 := (List.mem_filter.mp hm).2
        simpa using h2⟩
    · rw [if_pos (by rw [nn_le (by omega) (by omega)]; omega)]
      exact Or.inr ⟨rfl, Or.inr ⟨by rw [← ek]; exact g, by rw [nn_lt (by omega) (by omega)]; exact g2⟩⟩
theorem row_at {t : Nat} {bs : List Nat} (W : Rw x h t bs) (hl : bs.length ≤ 480) (l3 : Int32) : ∃ c, C_X7_at t l3 h = some (c, h) ∧ ∀ (o : Nat) (r1 : RS), Mg (r1.2.1 45) o bs → o + bs.length ≤ 307200 → (if l3 < 0 then rt (-1 : Int32) else if l3 < nn bs.length then R_kept_J92 l3 (nn o) else rt (-1 : Int32)) r1 = some (c, r1) := by
  by_cases g : l3 < 0
  · exact ⟨-1, qc_at0 g, fun o r1 _ _ => by rw [if_pos g]; rfl⟩
  · obtain ⟨k, ek, k31⟩ := nn_ex g
    refine ⟨_, by rw [ek]; exact qc_rat W (by omega) k31, fun o r1 M ho => ?_⟩
    rw [if_neg g, ek]
    by_cases g2 : k < bs.length
    · rw [if_pos (by rw [nn_lt (by omega) (by omega)]; exact g2), if_pos g2]
      unfold R_kept_J92
      rw [nn_add, x_rA mL_45 (by omega) (by omega), M k g2, (type_or _ (W.2.2.1.at k)).2.2]
      rfl
    · rw [if_neg (by rw [nn_lt (by omega) (by omega)]; exact g2), if_neg g2]
      rfl
theorem call_kept (l p w : Int32) (hp : p = 0 ∨ p = 1) : OkN (Iv x) (C_X11_kept x l p w) (R_kept l p w) (fun a b => a = b) := by
  intro j h r hj I
  obtain ⟨e0, r1, ep, O, I1, z0, K⟩ := I.pur
  have R := O.1
  have T := R.st
  have kx := T.2.1.1
  have k2 : hfr h (100 * 13 + 2) x = some (x + 35) := T.2.1.2.2.2.1
  have k35 : hkd h (x + 35) = 8 + 1 := T.2.2.1.2.2.2.2.1
  unfold C_X11_kept R_kept
  rw [e_gR kx, k2, e_Cv k35, x_wI, e_bd ep]
  rcases kep_of R K l with ⟨k, m, q, el, k16, q640, eg, ⟨⟨V, mc, mm, vk⟩, _⟩, e64, g0, g1, gg⟩ | ⟨eg, z⟩
  · rw [e_bd eg, if_neg (by simp), if_neg g0, x_rI, if_pos g1, el, x_rA mL_64 k16 (by omega), e64]
    obtain ⟨m1, m2, m3, ⟨t0, t01, t02⟩, ⟨t1, t11, t12⟩, _⟩ := mc
    have m1' : hkd h m = 5 + 1 := m1
    obtain ⟨_, ⟨v46, v45⟩, ⟨o, o1, o2, o3, o4, o5⟩, _⟩ := mm
    rcases hp with rfl | rfl
    · have t01' : hfr h (100 * 5 + 0) m = some t0 := t01
      have kt : hkd h t0 = 9 + 1 := t02.1
      obtain ⟨c, c1, c2⟩ := row_at t02 (by have := vk.1.2; omega) w
      have c3 := c2 (480 * q) r1 v45 (by have := vk.1.2; omega)
      rw [if_pos rfl, e_gR m1', t01', e_Cv (c := 9) kt, e_bd c1, if_pos rfl, x_rA mL_46 q640 (by omega), v46]
      have eJ : R_kept_J52 0 w (nn q) (nn V.1.length) r1 = some (c, r1) := by
        rw [← c3]
        unfold R_kept_J52
        rw [if_pos rfl, show (480 : Int32) = nn 480 from rfl, nn_mul]
      exact ⟨c, h, c, r1, rfl, eJ, I1, rfl⟩
    · have t11' : hfr h (100 * 5 + 1) m = some t1 := t11
      have kt : hkd h t1 = 9 + 1 := t12.1
      obtain ⟨c, c1, c2⟩ := row_at t12 (by omega) w
      have c3 := c2 o r1 o3 (by omega)
      rw [if_neg (by decide), e_gR m1', t11', e_Cv (c := 9) kt, e_bd c1, if_neg (by decide), x_rA mL_48 q640 (by omega), o2]
      have eJ : R_kept_J52 1 w (nn q) (nn V.2.1.length) r1 = some (c, r1) := by
        rw [← c3]
        unfold R_kept_J52
        by_cases h1 : w < 0
        · rw [if_pos h1, if_pos h1]
        · rw [if_neg h1, if_neg h1]
          by_cases h2 : w < nn V.2.1.length
          · rw [if_pos h2, if_pos h2, if_neg (by decide), x_rA mL_47 q640 (by omega), o1]
          · rw [if_neg h2, if_neg h2]
      exact ⟨c, h, c, r1, rfl, eJ, I1, rfl⟩
  · rw [e_bd eg, if_pos rfl]
    refine ⟨-1, h, -1, r1, rfl, ?_, I1, rfl⟩
    rcases z with z | ⟨z1, z2⟩
    · rw [if_pos z]
      rfl
    · rw [if_neg z1, x_rI, if_neg z2]
      rfl
end CA8
