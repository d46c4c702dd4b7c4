/-! ===== one on the way arrives ===== -/
section LEA
variable {x ec es ew s b n k : Nat} {e0 : Int32} {h : Hp} {r r' : RS}
def leaH (h : Hp) (b n k : Nat) : Hp := sfi (sar h (b + 2) (disF (har h (b + 2)) k (n - 1))) 1006 b (nn (n - 1))
theorem leaH.fm (hb : x + 130 ≤ b) : Fm x [1006] (fun a => a = b + 2) h (leaH h b n k) := by
  unfold leaH
  refine Fm.fi (Fm.ar Fm.rf (Or.inl rfl) (by omega)) (Or.inl (by decide)) (Or.inl (by decide))
theorem leaH.hx (hb : x + 130 ≤ b) : Hx x b 8 h (leaH h b n k) := by
  unfold leaH
  refine Hx.fi (Hx.ar Hx.rf (Or.inl (Or.inl ⟨by omega, by omega⟩)) (by omega)) (Or.inl (Or.inl ⟨rfl, by omega, by omega⟩)) (Or.inl (by decide))
theorem qc_arriveK {d : Nat} (T : SesT x h s b) (hn : hfi h 1006 b = nn n) (hn2 : n ≤ 16) (hk : k < n) (hd : ∀ i, i < n → ∃ e, har h (b + 2) i = some e ∧ hkd h e = 4) (hkd0 : har h (b + 2) k = some d) (hu : ∀ i, i < n → har h (b + 2) i = some d → i = k) : C_X8_arrive b (some d) h = some ((), leaH h b n k) := by
  obtain ⟨t1, t2, t3, t4, t5, ⟨t6, t7, t8⟩, t9⟩ := T
  have e6 : hfi h (100 * 10 + 6) b = nn n := hn
  have hh : wp (C_X8_arrive b (some d)) h (fun _ h' => h' = leaH h b n k) := by
    unfold C_X8_arrive
    -- F: what the row holds when i places have been looked at
    have key : ∀ (c i f : Nat), i + c = n → c < f → wp (C_X8_arrive_L4 b (fun l2 => C_X8_arrive_J43 b l2) f (some d) (nn (if i ≤ k then i else i - 1)) (nn i)) (sar h (b + 2) (disF (har h (b + 2)) k (i - 1))) (fun _ h' => h' = leaH h b n k) := by
      intro c
      induction c with
      | zero =>
        intro i f hi hf
        obtain ⟨f', rfl⟩ : ∃ z, f = z + 1 := ⟨f - 1, by omega⟩
        have ei : i = n := by omega
        subst ei
        show wp (C_X8_arrive_B4 b _ _ (some d) _ (nn i)) _ _
        unfold C_X8_arrive_B4 C_X8_arrive_J43
        rw [wp_gI (by exact t1), hfi_sar, e6, wp_pos (by rw [nn_le (by omega) (by omega)]; omega)]
        dsimp only
        rw [wp_pI (by exact t1), wp_rt, if_neg (by omega)]
        rfl
      | succ c ih =>
        intro i f hi hf
        obtain ⟨f', rfl⟩ : ∃ z, f = z + 1 := ⟨f - 1, by omega⟩
        obtain ⟨e, e1, e2⟩ := hd i (by omega)
        have eA : har (sar h (b + 2) (disF (har h (b + 2)) k (i - 1))) (b + 2) = disF (har h (b + 2)) k (i - 1) := by rw [har_sar, if_pos rfl]
        have eF : disF (har h (b + 2)) k (i - 1) i = some e := by
          unfold disF
          rw [if_neg (by omega)]
          exact e1
        have t6' : hfr (sar h (b + 2) (disF (har h (b + 2)) k (i - 1))) (100 * 10 + 5) b = some (b + 2) := t6
        show wp (C_X8_arrive_B4 b _ _ (some d) _ (nn i)) _ _
        unfold C_X8_arrive_B4
        rw [wp_gI (by exact t1), hfi_sar, e6, wp_neg (by rw [nn_le (by omega) (by omega)]; omega), wp_gR (by exact t1), t6', wn_Ar (t := 7) (by exact t7) (by show i < hln h (b + 2); rw [t8]; omega) (by omega), eA, eF]
        have nx := ih (i + 1) f' (by omega) (by omega)
        rw [show i + 1 - 1 = i by omega] at nx
        by_cases g : e = d
        · have gi : i = k := hu i (by omega) (by rw [e1, g])
          rw [wp_pos (by rw [g]), l_1, nn_add]
          rw [if_neg (show ¬ i + 1 ≤ k by omega)] at nx
          rw [if_pos (show i ≤ k by omega)]
          have ed : disF (har h (b + 2)) k (i - 1) = disF (har h (b + 2)) k i := by
            funext o
            unfold disF
            rw [if_neg (by omega), if_neg (by omega)]
          rw [ed]
          exact nx
        · rw [wp_neg (fun z => g (Option.some.inj z)), wp_gR (by exact t1), wp_gR (by exact t1), t6', wn_Ar (t := 7) (by exact t7) (by show i < hln h (b + 2); rw [t8]; omega) (by omega), eA, eF, wn_Wr1 (by exact t7) (by show _ < hln h (b + 2); rw [t8]; split <;> omega) (by split <;> omega) (by exact e2), eA, sar_sar, l_1, nn_add, nn_add]
          have gi : i ≠ k := fun z => by
            rw [z] at e1
            rw [hkd0] at e1
            exact g (Option.some.inj e1.symm)
          by_cases gk : i < k
          · rw [if_pos (show i ≤ k by omega)]
            rw [if_pos (show i + 1 ≤ k by omega)] at nx
            have ed : va_up (disF (har h (b + 2)) k (i - 1)) i (some e) = disF (har h (b + 2)) k i := by
              funext o
              show (if o = i then some e else disF (har h (b + 2)) k (i - 1) o) = _
              unfold disF
              by_cases z : o = i
              · rw [if_pos z, if_neg (by omega), z, e1]
              · rw [if_neg z, if_neg (by omega), if_neg (by omega)]
            rw [ed]
            exact nx
          · rw [if_neg (show ¬ i ≤ k by omega)]
            rw [if_neg (show ¬ i + 1 ≤ k by omega)] at nx
            rw [show i - 1 + 1 = i by omega]
            have ed : va_up (disF (har h (b + 2)) k (i - 1)) (i - 1) (some e) = disF (har h (b + 2)) k i := by
              funext o
              show (if o = i - 1 then some e else disF (har h (b + 2)) k (i - 1) o) = _
              unfold disF
              by_cases z : o = i - 1
              · rw [if_pos z, if_pos (by omega), z, show i - 1 + 1 = i by omega, e1]
              · rw [if_neg z]
                by_cases y : k ≤ o ∧ o < i - 1
                · rw [if_pos y, if_pos (by omega)]
                · rw [if_neg y, if_neg (by omega)]
            rw [ed]
            exact nx
    have := key n 0 fu (by omega) (by unfold fu; omega)
    have e0 : disF (har h (b + 2)) k (0 - 1) = har h (b + 2) := by
      funext o
      unfold disF
      rw [if_neg (by omega)]
    rw [e0, sar_self, if_pos (Nat.zero_le _)] at this
    exact this
  obtain ⟨v, h', e1, e2⟩ := hh
  rw [e1, e2]
/-- what the model's moving leaves -/
def LeM (s n k : Nat) (r r' : RS) : Prop := Ho s 8 r r' ∧ Ro [31, 32, 33, 34, 35, 36, 37] r r' ∧ r'.2.1 31 s = nn (n - 1) ∧ ∀ q, q < n - 1 → ∀ f ∈ [32, 33, 34, 35, 36, 37], r'.2.1 f (16 * s + q) = r.2.1 f (16 * s + (if q < k then q else q + 1))
theorem qm_move {q : Nat} (hs : s < 12) (hq : q + 1 < 16) (h37 : r.2.1 37 (16 * s + q + 1) = 0 ∨ r.2.1 37 (16 * s + q + 1) = 1) : R_moveWay (nn (16 * s + q + 1)) (nn (16 * s + q)) r = some ((), sA (sA (sA (sA (sA (sA r 32 (16 * s + q) (r.2.1 32 (16 * s + q + 1))) 33 (16 * s + q) (r.2.1 33 (16 * s + q + 1))) 34 (16 * s + q) (r.2.1 34 (16 * s + q + 1))) 35 (16 * s + q) (r.2.1 35 (16 * s + q + 1))) 36 (16 * s + q) (r.2.1 36 (16 * s + q + 1))) 37 (16 * s + q) (r.2.1 37 (16 * s + q + 1))) := by
  unfold R_moveWay
  rw [x_rA mL_32 (by omega) (by omega), x_wA mL_32 (by omega) (by omega), x_rA mL_33 (by omega) (by omega), x_wA mL_33 (by omega) (by omega), x_rA mL_34 (by omega) (by omega), x_wA mL_34 (by omega) (by omega), x_rA mL_35 (by omega) (by omega), x_wA mL_35 (by omega) (by omega), x_rA mL_36 (by omega) (by omega), x_wA mL_36 (by omega) (by omega), x_rA mL_37 (by omega) (by omega), x_wA mL_37 (by omega) (by omega)]
  rw [sA_o (by decide), sA_o (by decide), sA_o (by decide), sA_o (by decide), sA_o (by decide), sA_o (by decide), sA_o (by decide), sA_o (by decide), sA_o (by decide), sA_o (by decide), sA_o (by decide), sA_o (by decide), sA_o (by decide), sA_o (by decide), sA_o (by decide)]
  have : vp_nar .boolean (r.2.1 37 (16 * s + q + 1)) = r.2.1 37 (16 * s + q + 1) := by
    rcases h37 with z | z <;> rw [z] <;> rfl
  rw [this]
  rfl
end LEA
