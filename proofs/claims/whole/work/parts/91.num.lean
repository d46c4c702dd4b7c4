/-! ===== the number of what is sent ===== -/
section NUM
variable {x s b d : Nat} {h : Hp} {r : RS}
/-- the numbers on the way, as the model has them -/
def wnum (r : RS) (s k : Nat) : Nat := iN (r.2.1 32 (16 * s + k))
theorem SesY.num {n k : Nat} (Y : SesY x h r s b) (hn : r.2.1 31 s = nn n) (hn2 : n ≤ 16) (hk : k < n) : ∃ d, har h (b + 2) k = some d ∧ hkd h d = 4 ∧ hfi h 304 d = nn (wnum r s k) ∧ r.2.1 32 (16 * s + k) = nn (wnum r s k) ∧ 1 ≤ wnum r s k ∧ wnum r s k ≤ 16 := by
  obtain ⟨n', y1, y2, y3, y4, y5⟩ := Y
  have e : n' = n := nn_inj (by omega) (by omega) (y3.symm.trans hn)
  subst e
  obtain ⟨d, d1, m, j, q, fl, id, num, c1, c2, c3, c4, c5, c6, c7, c8, c9⟩ := y4 k hk
  have ew : wnum r s k = num := by
    unfold wnum
    rw [c8.2.1, iN_nn (by omega)]
  rw [ew]
  exact ⟨d, d1, c1.1, c8.1, c8.2.1, c8.2.2.1, c8.2.2.2⟩
theorem qc_used {n l : Nat} (T : SesT x h s b) (Y : SesY x h r s b) (hn : r.2.1 31 s = nn n) (hn2 : n ≤ 16) (hl : l ≤ 100) : C_X8_isUsed b (nn l) h = some (@ite _ (∃ k, k < n ∧ wnum r s k = l) (Classical.propDecidable _) 1 0, h) := by
  have y2 : hfi h 1006 b = nn n := by
    obtain ⟨n', y1, y2, y3, y4, y5⟩ := Y
    rw [y2, ← y3]; exact hn
  have e : wp (C_X8_isUsed b (nn l)) h (fun v h' => v = (@ite _ (∃ k, k < n ∧ wnum r s k = l) (Classical.propDecidable _) 1 0) ∧ h' = h) := by
    unfold C_X8_isUsed
    refine up_loop (L := fun f i => C_X8_isUsed_L2 b (C_X8_isUsed_J23 b) (C_X8_isUsed_J31 b) f (nn l) i) (fun i h' => h' = h ∧ ∀ k, k < i → wnum r s k ≠ l) n ?_ ?_ n 0 fu h (by omega) (by unfold fu; omega) ⟨rfl, fun k hk => by omega⟩
    · rintro f i h' hi ⟨rfl, hz⟩ kk
      show wp (C_X8_isUsed_B2 b _ _ _ (nn l) (nn i)) h' _
      unfold C_X8_isUsed_B2
      obtain ⟨d, d1, d2, d3, d4, d5, d6⟩ := Y.num hn hn2 hi
      obtain ⟨t1, t2, t3, t4, t5, t6, t7, t8⟩ := T
      rw [wp_gI t1]
      show wp (if hfi h' 1006 b ≤ nn i then _ else _) h' _
      rw [y2, wp_neg (by rw [nn_le (by omega) (by omega)]; omega), wp_gR t1]
      show wp (hAr 7 (hfr h' 1005 b) (nn i) _) h' _
      rw [t6.1, wn_Ar t6.2.1 (by rw [t6.2.2]; omega) (by omega), d1, wp_gI d2]
      show wp (if hfi h' 304 d = nn l then _ else _) h' _
      rw [d3]
      by_cases g : wnum r s i = l
      · rw [wp_pos (by rw [g])]
        unfold C_X8_isUsed_J23
        rw [wp_zt, if_pos ⟨i, hi, g⟩]
        exact ⟨Or.inr rfl, rfl, rfl⟩
      · rw [wp_neg (fun z => g (nn_inj (by omega) (by omega) z))]
        show wp (C_X8_isUsed_L2 b _ _ f (nn l) (nn i + 1)) h' _
        rw [l_1, nn_add]
        exact kk h' ⟨rfl, fun k hk => by
          by_cases e : k = i
          · rw [e]; exact g
          · exact hz k (by omega)⟩
    · rintro f h' ⟨rfl, hz⟩
      show wp (C_X8_isUsed_B2 b _ _ _ (nn l) (nn n)) h' _
      unfold C_X8_isUsed_B2
      rw [wp_gI T.1]
      show wp (if hfi h' 1006 b ≤ nn n then _ else _) h' _
      rw [y2, wp_pos (by rw [nn_le (by omega) (by omega)]; omega)]
      unfold C_X8_isUsed_J31
      rw [wp_zt, if_neg (fun ⟨k, k1, k2⟩ => hz k k1 k2)]
      exact ⟨Or.inl rfl, rfl, rfl⟩
  obtain ⟨v, h', e1, e2, e3⟩ := e
  rw [e1, e2, e3]
/-- the model looks a number up: its place, or -1 -/
theorem qm_wayOf {n l : Nat} (hs : s < 12) (hn : r.2.1 31 s = nn n) (hn2 : n ≤ 16) (hw : ∀ k, k < n → r.2.1 32 (16 * s + k) = nn (wnum r s k) ∧ wnum r s k ≤ 16) (hl : l < 65536) : ∃ v, R_wayOf (nn s) (nn l) r = some (v, r) ∧ ((∃ k, k < n ∧ v = nn k ∧ wnum r s k = l ∧ ∀ k', k' < k → wnum r s k' ≠ l) ∨ (v = -1 ∧ ∀ k, k < n → wnum r s k ≠ l)) := by
  have e : wp (R_wayOf (nn s) (nn l)) r (fun v r' => r' = r ∧ ((∃ k, k < n ∧ v = nn k ∧ wnum r s k = l ∧ ∀ k', k' < k → wnum r s k' ≠ l) ∨ (v = -1 ∧ ∀ k, k < n → wnum r s k ≠ l))) := by
    unfold R_wayOf
    refine up_loop (L := fun f i => R_wayOf_L2 (fun l3 => R_wayOf_J27 l3) (R_wayOf_J35) f (nn s) (nn l) i) (fun i r' => r' = r ∧ ∀ k, k < i → wnum r s k ≠ l) n ?_ ?_ n 0 fu r (by omega) (by unfold fu; omega) ⟨rfl, fun k hk => by omega⟩
    · rintro f i r' hi ⟨rfl, hz⟩ kk
      show wp (R_wayOf_B2 _ _ _ (nn s) (nn l) (nn i)) r' _
      unfold R_wayOf_B2
      rw [wr_31 hs, hn, wp_neg (by rw [nn_le (by omega) (by omega)]; omega), l_16, nn_mul, nn_add, wr_32 (by omega), (hw i hi).1]
      have := (hw i hi).2
      by_cases g : wnum r' s i = l
      · rw [wp_pos (by rw [g])]
        unfold R_wayOf_J27
        dsimp only
        rw [wp_rt]
        exact ⟨rfl, Or.inl ⟨i, hi, rfl, g, hz⟩⟩
      · rw [wp_neg (fun z => g (nn_inj (by omega) (by omega) z))]
        show wp (R_wayOf_L2 _ _ f (nn s) (nn l) (nn i + 1)) r' _
        rw [l_1, nn_add]
        exact kk r' ⟨rfl, fun k hk => by
          by_cases e : k = i
          · rw [e]; exact g
          · exact hz k (by omega)⟩
    · rintro f r' ⟨rfl, hz⟩
      show wp (R_wayOf_B2 _ _ _ (nn s) (nn l) (nn n)) r' _
      unfold R_wayOf_B2
      rw [wr_31 hs, hn, wp_pos (by rw [nn_le (by omega) (by omega)]; omega)]
      unfold R_wayOf_J35
      rw [wp_rt]
      exact ⟨rfl, Or.inr ⟨rfl, hz⟩⟩
  obtain ⟨v, r', e1, e2, e3⟩ := e
  exact ⟨v, by rw [e1, e2], e3⟩
/-- the class departs with the least number that is free -/
theorem qc_depart {n num : Nat} {Q : Unit → Hp → Prop} (T : SesT x h s b) (Y : SesY x h r s b) (hn : r.2.1 31 s = nn n) (hn2 : n < 16) (h1 : 1 ≤ num) (h16 : num ≤ 16) (hf : ∀ k, k < n → wnum r s k ≠ num) (hu : ∀ l, 1 ≤ l → l < num → ∃ k, k < n ∧ wnum r s k = l) (hd : hkd h d = 4)
    (kk : Q () (sfi (sar (sfi h 304 d (nn num)) (b + 2) (va_up (har h (b + 2)) n (some d))) 1006 b (nn (n + 1)))) : wp (C_X8_depart b (some d)) h Q := by
  have y2 : hfi h 1006 b = nn n := by
    obtain ⟨n', y1, y2, y3, y4, y5⟩ := Y
    rw [y2, ← y3]; exact hn
  have hT := T
  obtain ⟨t1, t2, t3, t4, t5, t6, t7, t8⟩ := T
  unfold C_X8_depart
  have key : ∀ (m l f : Nat), l + m = num → 1 ≤ l → m < f → wp (C_X8_depart_L2 b (fun l1 l2 => C_X8_depart_J22 b l1 l2) f (some d) (nn l)) h Q := by
    intro m
    induction m with
    | zero =>
      intro l f hl hl1 hf'
      obtain ⟨f', rfl⟩ : ∃ z, f = z + 1 := ⟨f - 1, by omega⟩
      have el : l = num := by omega
      subst el
      show wp (C_X8_depart_B2 b _ _ (some d) (nn l)) h Q
      unfold C_X8_depart_B2
      rw [l_16, wp_neg (by rw [nn_lt (by omega) (by omega)]; omega), wp_Cv t1]
      refine wp.get (qc_used hT Y hn (by omega) (by omega)) ?_
      rw [show (@ite Int32 (∃ k, k < n ∧ wnum r s k = l) (Classical.propDecidable _) 1 0) = 0 from if_neg (fun ⟨k, k1, k2⟩ => hf k k1 k2), wp_pos rfl]
      unfold C_X8_depart_J22
      have hdb : d ≠ b := fun e => by rw [e, t1] at hd; exact absurd hd (by decide)
      have e6 : hfi (sfi h 304 d (nn l)) 1006 b = nn n := by rw [hfi_sfi, if_neg (by omega)]; exact y2
      rw [wp_pI hd, wp_gI (by exact t1)]
      show wp (if (16 : Int32) ≤ hfi (sfi h 304 d (nn l)) 1006 b then _ else _) _ Q
      rw [e6, l_16, wp_neg (by rw [nn_le (by omega) (by omega)]; omega), wp_gR (by exact t1), wp_gI (by exact t1)]
      show wp (hWr 7 3 (hfr (sfi h 304 d (nn l)) 1005 b) (hfi (sfi h 304 d (nn l)) 1006 b) (some d) _) _ Q
      rw [e6, hfr_sfi, t6.1, wn_Wr1 (by exact t6.2.1) (by show n < hln h (b + 2); rw [t6.2.2]; omega) (by omega) (by exact hd), wp_gI (by exact t1)]
      show wp (hpI 10 6 (some b) (hfi (sfi h 304 d (nn l)) 1006 b + 1) _) _ Q
      rw [e6, l_1, nn_add, wp_pI (by exact t1), wp_rt]
      exact kk
    | succ m ih =>
      intro l f hl hl1 hf'
      obtain ⟨f', rfl⟩ : ∃ z, f = z + 1 := ⟨f - 1, by omega⟩
      show wp (C_X8_depart_B2 b _ _ (some d) (nn l)) h Q
      unfold C_X8_depart_B2
      rw [l_16, wp_neg (by rw [nn_lt (by omega) (by omega)]; omega), wp_Cv t1]
      refine wp.get (qc_used hT Y hn (by omega) (by omega)) ?_
      rw [if_pos (hu l hl1 (by omega)), wp_neg (by decide)]
      show wp (C_X8_depart_L2 b _ f' (some d) (nn l + 1)) h Q
      rw [l_1, nn_add]
      exact ih (l + 1) f' (by omega) (by omega) (by omega)
  have := key (num - 1) 1 fu (by omega) (by omega) (by unfold fu; omega)
  exact this
/-- the model looks for it -/
theorem qm_begin_num {n num j q fl id : Nat} {Q : Unit → RS → Prop} {ke : Int32 → Int32 → Int32 → Int32 → Int32 → Int32 → RS → Option (Unit × RS)} (hs : s < 12) (hn : r.2.1 31 s = nn n) (hn2 : n < 16) (hw : ∀ k, k < n → r.2.1 32 (16 * s + k) = nn (wnum r s k) ∧ wnum r s k ≤ 16) (h1 : 1 ≤ num) (h16 : num ≤ 16) (hf : ∀ k, k < n → wnum r s k ≠ num) (hu : ∀ l, 1 ≤ l → l < num → ∃ k, k < n ∧ wnum r s k = l)
    (kk : wp (ke (nn s) (nn j) (nn q) (nn fl) (nn id) (nn num)) r Q) : wp (R_begin_L12 ke fu (nn s) (nn j) (nn q) (nn fl) (nn id) (1 : Int32)) r Q := by
  have key : ∀ (m l f : Nat), l + m = num → 1 ≤ l → m < f → wp (R_begin_L12 ke f (nn s) (nn j) (nn q) (nn fl) (nn id) (nn l)) r Q := by
    intro m
    induction m with
    | zero =>
      intro l f hl hl1 hf'
      obtain ⟨f', rfl⟩ : ∃ z, f = z + 1 := ⟨f - 1, by omega⟩
      have el : l = num := by omega
      subst el
      show wp (R_begin_B12 _ _ (nn s) (nn j) (nn q) (nn fl) (nn id) (nn l)) r Q
      unfold R_begin_B12
      obtain ⟨v, e1, e2⟩ := qm_wayOf (l := l) hs hn (by omega) hw (by omega)
      rw [wp_bd]
      refine wp.get e1 ?_
      rcases e2 with ⟨k, k1, k2, k3, k4⟩ | ⟨k1, k2⟩
      · exact absurd k3 (hf k k1)
      · rw [k1, wp_pos (by decide)]
        exact kk
    | succ m ih =>
      intro l f hl hl1 hf'
      obtain ⟨f', rfl⟩ : ∃ z, f = z + 1 := ⟨f - 1, by omega⟩
      show wp (R_begin_B12 _ _ (nn s) (nn j) (nn q) (nn fl) (nn id) (nn l)) r Q
      unfold R_begin_B12
      obtain ⟨v, e1, e2⟩ := qm_wayOf (l := l) hs hn (by omega) hw (by omega)
      rw [wp_bd]
      refine wp.get e1 ?_
      rcases e2 with ⟨k, k1, k2, k3, k4⟩ | ⟨k1, k2⟩
      · rw [k2, wp_neg (nn_nlt0 (by omega))]
        show wp (R_begin_L12 _ f' (nn s) (nn j) (nn q) (nn fl) (nn id) (nn l + 1)) r Q
        rw [l_1, nn_add]
        exact ih (l + 1) f' (by omega) (by omega) (by omega)
      · obtain ⟨k, q1, q2⟩ := hu l hl1 (by omega)
        exact absurd q2 (k2 k q1)
  have := key (num - 1) 1 fu (by omega) (by omega) (by unfold fu; omega)
  exact this
end NUM
