/-! ===== the class's packets: numbers, rows ===== -/
theorem and255n (v : Int32) : v &&& nn 255 = nn (lo8 v) := and255 v
theorem sfi_sfi {h : Hp} {f a : Nat} {v w : Int32} : sfi (sfi h f a v) f a w = sfi h f a w := by
  unfold sfi
  simp only [Prod.mk.injEq, true_and, and_true]
  funext x y
  show (if x = f ∧ y = a then w else if x = f ∧ y = a then v else _) = if x = f ∧ y = a then w else _
  by_cases e : x = f ∧ y = a
  · rw [if_pos e, if_pos e]
  · rw [if_neg e, if_neg e, if_neg e]
theorem shr8 {k : Nat} (hk : k < 2147483648) : nn k >>> ((8 : Int32) &&& 31) = nn (k / 256) := by
  apply Int32.toBitVec.inj
  apply BitVec.eq_of_toInt_eq
  have e1 : (nn k >>> ((8 : Int32) &&& 31)).toBitVec = (nn k).toBitVec.sshiftRight 8 := rfl
  rw [e1, BitVec.toInt_sshiftRight]
  have e2 : (nn k).toBitVec.toInt = (k : Int) := nn_I hk
  have e3 : (nn (k / 256)).toBitVec.toInt = ((k / 256 : Nat) : Int) := nn_I (by omega)
  rw [e2, e3]
  rw [Int.shiftRight_eq_div_pow]
  rfl
theorem shr7 {k : Nat} (hk : k < 2147483648) : nn k >>> ((7 : Int32) &&& 31) = nn (k / 128) := by
  apply Int32.toBitVec.inj
  apply BitVec.eq_of_toInt_eq
  have e1 : (nn k >>> ((7 : Int32) &&& 31)).toBitVec = (nn k).toBitVec.sshiftRight 7 := rfl
  rw [e1, BitVec.toInt_sshiftRight]
  have e2 : (nn k).toBitVec.toInt = (k : Int) := nn_I hk
  have e3 : (nn (k / 128)).toBitVec.toInt = ((k / 128 : Nat) : Int) := nn_I (by omega)
  rw [e2, e3]
  rw [Int.shiftRight_eq_div_pow]
  rfl
theorem and127 {k : Nat} (hk : k < 2147483648) : nn k &&& (127 : Int32) = nn (k % 128) := by
  apply Int32.toBitVec.inj
  apply BitVec.eq_of_toNat_eq
  have e1 : (nn k &&& (127 : Int32)).toBitVec.toNat = (k % 2 ^ 32) &&& 127 := rfl
  have e2 : (k % 2 ^ 32) &&& 127 = (k % 2 ^ 32) % 128 := Nat.and_two_pow_sub_one_eq_mod _ 7
  have e3 : (nn (k % 128)).toBitVec.toNat = (k % 128) % 2 ^ 32 := rfl
  rw [e1, e2, e3]
  omega
theorem or128 : ∀ a, a < 128 → nn a ||| (128 : Int32) = nn (a + 128) := by decide +kernel
theorem and127n {k : Nat} (hk : k < 2147483648) : nn k &&& nn 127 = nn (k % 128) := and127 hk
theorem or128n {k : Nat} : nn (k % 128) ||| nn 128 = nn (k % 128 + 128) := or128 (k % 128) (by omega)
theorem WR.of {w : Nat} {h h' : Hp} {f : Int32} {bs bs' : List Nat} (H : WR w h f bs) (hW : Wo w h h') (h1 : hfi h' 1200 w = f) (h2 : hfi h' 1202 w = nn (bs.length + bs'.length)) (h3 : ∀ i, i < bs.length → hai h' (w + 1) i = hai h (w + 1) i) (h4 : Cg (hai h' (w + 1)) bs.length bs') (h5 : By bs') (h6 : bs.length + bs'.length ≤ 600) : WR w h' f (bs ++ bs') := by
  obtain ⟨⟨a1, a2, a3, a4⟩, a5, a6, a7, a8, a9⟩ := H
  obtain ⟨x1, x2, x3, x4, x5, x6, x7, x8, x9, x10⟩ := hW
  refine ⟨⟨by rw [x2]; exact a1, by rw [x5]; exact a2, by rw [x2]; exact a3, by rw [x3]; exact a4⟩, h1, by rw [List.length_append]; exact h2, (a7.of (fun i hi => ?_)).app (by rw [Nat.zero_add]; exact h4), a8.app h5, by rw [List.length_append]; exact h6⟩
  rw [Nat.zero_add]
  exact h3 i hi
theorem qc_two {w k : Nat} {h : Hp} {f : Int32} {bs : List Nat} (H : WR w h f bs) (hk : k < 65536) (hl : bs.length + 2 ≤ 600) : wp (C_X10_two w (nn k)) h (fun _ h' => WR w h' f (bs ++ [k / 256, k % 256]) ∧ Wo w h h') := by
  have H' := H
  obtain ⟨⟨a1, a2, a3, a4⟩, a5, a6, a7, a8, a9⟩ := H
  unfold C_X10_two
  have e1 : lo8 (nn (k / 256)) = k / 256 := by rw [lo8_nn (by omega)]; omega
  have e2 : lo8 (nn k) = k % 256 := by rw [lo8_nn (by omega)]
  rw [shr8 (by omega)]
  simp (disch := first | omega | (simp only [hnx_sfi, hkd_sfi, hln_sfi, hfi_sfi, hfl_sfi, hfr_sfi, hai_sfi, hal_sfi, har_sfi, hcs_sfi, hnx_sfl, hkd_sfl, hln_sfl, hfi_sfl, hfl_sfl, hfr_sfl, hai_sfl, hal_sfl, har_sfl, hcs_sfl, hnx_sfr, hkd_sfr, hln_sfr, hfi_sfr, hfl_sfr, hfr_sfr, hai_sfr, hal_sfr, har_sfr, hcs_sfr, hnx_sai, hkd_sai, hln_sai, hfi_sai, hfl_sai, hfr_sai, hai_sai, hal_sai, har_sai, hcs_sai, hnx_sal, hkd_sal, hln_sal, hfi_sal, hfl_sal, hfr_sal, hai_sal, hal_sal, har_sal, hcs_sal, hnx_sar, hkd_sar, hln_sar, hfi_sar, hfl_sar, hfr_sar, hai_sar, hal_sar, har_sar, hcs_sar, hnx_hob, hkd_hob, hln_hob, hfi_hob, hfl_hob, hfr_hob, hai_hob, hal_hob, har_hob, hc1_hob, hc2_hob, hnx_hay, hkd_hay, hln_hay, hfi_hay, hfl_hay, hfr_hay, hai_hay, hal_hay, har_hay, hc1_hay, hc2_hay, hnx_hsk, hkd_hsk, hln_hsk, hfi_hsk, hfl_hsk, hfr_hsk, hai_hsk, hal_hsk, har_hsk, hc1_hsk, hc2_hsk]; omega)) only [wp_rt, wp_bd, wp_lq, wp_gI, wp_gL, wp_gR, wp_pI, wp_pL, wp_pR, wp_Cv, wp_Nw, wp_Ci, wp_Oi, wp_Nn, Nat.reduceMul, Nat.reduceAdd, wn_Ai, wn_Al, wn_Ar, wn_Wi, wn_Wl, wn_Wr0, wn_Wr1, wn_Ln, wn_Na, wn_Cp, wp_pos, wp_neg, hnx_sfi, hkd_sfi, hln_sfi, hfi_sfi, hfl_sfi, hfr_sfi, hai_sfi, hal_sfi, har_sfi, hcs_sfi, hnx_sfl, hkd_sfl, hln_sfl, hfi_sfl, hfl_sfl, hfr_sfl, hai_sfl, hal_sfl, har_sfl, hcs_sfl, hnx_sfr, hkd_sfr, hln_sfr, hfi_sfr, hfl_sfr, hfr_sfr, hai_sfr, hal_sfr, har_sfr, hcs_sfr, hnx_sai, hkd_sai, hln_sai, hfi_sai, hfl_sai, hfr_sai, hai_sai, hal_sai, har_sai, hcs_sai, hnx_sal, hkd_sal, hln_sal, hfi_sal, hfl_sal, hfr_sal, hai_sal, hal_sal, har_sal, hcs_sal, hnx_sar, hkd_sar, hln_sar, hfi_sar, hfl_sar, hfr_sar, hai_sar, hal_sar, har_sar, hcs_sar, hnx_hob, hkd_hob, hln_hob, hfi_hob, hfl_hob, hfr_hob, hai_hob, hal_hob, har_hob, hc1_hob, hc2_hob, hnx_hay, hkd_hay, hln_hay, hfi_hay, hfl_hay, hfr_hay, hai_hay, hal_hay, har_hay, hc1_hay, hc2_hay, hnx_hsk, hkd_hsk, hln_hsk, hfi_hsk, hfl_hsk, hfr_hsk, hai_hsk, hal_hsk, har_hsk, hc1_hsk, hc2_hsk, l_0, l_1, l_2, l_3, l_4, l_5, l_6, l_7, l_8, l_9, l_10, l_11, l_12, l_13, l_14, l_15, l_16, l_17, l_18, l_19, l_20, l_21, l_22, l_23, l_24, l_25, l_26, l_27, l_28, l_29, l_30, l_31, l_32, l_33, l_34, l_35, l_38, l_39, l_45, l_48, l_56, l_60, l_63, l_64, l_80, l_96, l_98, l_112, l_127, l_128, l_129, l_130, l_132, l_133, l_140, l_141, l_142, l_143, l_144, l_146, l_147, l_148, l_149, l_151, l_160, l_176, l_191, l_192, l_194, l_208, l_224, l_240, l_244, l_245, l_255, l_400, l_403, l_404, l_405, l_410, l_480, l_600, l_640, l_2000, l_2047, l_2048, l_4000, l_65535, nn_add, nn_mul, nn_sub, nn_lt, nn_le, nn_eq, nn_div, nn_mod, a2, a6, and255n, e1, e2, if_true]
  have W : Wo w h (sfi (sai (sai h (w + 1) (upd (hai h (w + 1)) bs.length (nn (k / 256)))) (w + 1) (upd (upd (hai h (w + 1)) bs.length (nn (k / 256))) (bs.length + 1) (nn (k % 256)))) 1202 w (nn (bs.length + 2))) := (Wo.ai.tr Wo.ai).tr (Wo.fi (Or.inr rfl))
  refine ⟨H'.of W ?_ ?_ (fun i hi => ?_) (fun i hi => ?_) ?_ hl, W⟩
  · simp only [hfi_sfi, hfi_sai]; rw [if_neg (by omega)]; exact a5
  · rw [hfi_sfi, if_pos ⟨rfl, rfl⟩]; rfl
  · simp only [hai_sfi, hai_sai, if_true, upd]
    rw [if_neg (by omega), if_neg (by omega)]
  · simp only [hai_sfi, hai_sai, if_true, upd]
    have hi' : i < 2 := hi
    by_cases h0 : i = 0
    · subst h0
      rw [if_neg (by omega), if_pos (by omega)]; rfl
    · have h1 : i = 1 := by omega
      subst h1
      rw [if_pos (by omega)]; rfl
  · intro b hb
    simp only [List.mem_cons, List.not_mem_nil, or_false] at hb
    omega
/-- one byte more, as the loops of the writer put it -/
def wpush (w : Nat) (h : Hp) (n b : Nat) : Hp := sfi (sai h (w + 1) (upd (hai h (w + 1)) n (nn b))) 1202 w (nn (n + 1))
def f4 (v : Int64) : List Nat := [lo8 ((lshr6 v 24).toInt32), lo8 ((lshr6 v 16).toInt32), lo8 ((lshr6 v 8).toInt32), lo8 ((lshr6 v 0).toInt32)]
theorem qc_four_step {w : Nat} {h : Hp} {f : Int32} {bs : List Nat} {v : Int64} {l : Int32} {n : Nat} {ke : Hp → Option (Unit × Hp)} {Q : Unit → Hp → Prop} (H : WR w h f bs) (hl : bs.length < 600) (h0 : ¬ l < 0) (k : ∀ h', WR w h' f (bs ++ [lo8 ((lshr6 v l).toInt32)]) → Wo w h h' → wp (C_X10_four_L3 w ke n v (l + (-8))) h' Q) : wp (C_X10_four_L3 w ke (n + 1) v l) h Q := by
  have P := H.push (b := lo8 ((lshr6 v l).toInt32)) (lo8_lt _) hl
  obtain ⟨⟨a1, a2, a3, a4⟩, a5, a6, a7, a8, a9⟩ := H
  show wp (C_X10_four_B3 w _ ke v l) h Q
  unfold C_X10_four_B3
  rw [wp_neg h0]
  simp (disch := first | omega | (simp only [hnx_sfi, hkd_sfi, hln_sfi, hfi_sfi, hfl_sfi, hfr_sfi, hai_sfi, hal_sfi, har_sfi, hcs_sfi, hnx_sfl, hkd_sfl, hln_sfl, hfi_sfl, hfl_sfl, hfr_sfl, hai_sfl, hal_sfl, har_sfl, hcs_sfl, hnx_sfr, hkd_sfr, hln_sfr, hfi_sfr, hfl_sfr, hfr_sfr, hai_sfr, hal_sfr, har_sfr, hcs_sfr, hnx_sai, hkd_sai, hln_sai, hfi_sai, hfl_sai, hfr_sai, hai_sai, hal_sai, har_sai, hcs_sai, hnx_sal, hkd_sal, hln_sal, hfi_sal, hfl_sal, hfr_sal, hai_sal, hal_sal, har_sal, hcs_sal, hnx_sar, hkd_sar, hln_sar, hfi_sar, hfl_sar, hfr_sar, hai_sar, hal_sar, har_sar, hcs_sar, hnx_hob, hkd_hob, hln_hob, hfi_hob, hfl_hob, hfr_hob, hai_hob, hal_hob, har_hob, hc1_hob, hc2_hob, hnx_hay, hkd_hay, hln_hay, hfi_hay, hfl_hay, hfr_hay, hai_hay, hal_hay, har_hay, hc1_hay, hc2_hay, hnx_hsk, hkd_hsk, hln_hsk, hfi_hsk, hfl_hsk, hfr_hsk, hai_hsk, hal_hsk, har_hsk, hc1_hsk, hc2_hsk]; omega)) only [wp_rt, wp_bd, wp_lq, wp_gI, wp_gL, wp_gR, wp_pI, wp_pL, wp_pR, wp_Cv, wp_Nw, wp_Ci, wp_Oi, wp_Nn, Nat.reduceMul, Nat.reduceAdd, wn_Ai, wn_Al, wn_Ar, wn_Wi, wn_Wl, wn_Wr0, wn_Wr1, wn_Ln, wn_Na, wn_Cp, wp_pos, wp_neg, hnx_sfi, hkd_sfi, hln_sfi, hfi_sfi, hfl_sfi, hfr_sfi, hai_sfi, hal_sfi, har_sfi, hcs_sfi, hnx_sfl, hkd_sfl, hln_sfl, hfi_sfl, hfl_sfl, hfr_sfl, hai_sfl, hal_sfl, har_sfl, hcs_sfl, hnx_sfr, hkd_sfr, hln_sfr, hfi_sfr, hfl_sfr, hfr_sfr, hai_sfr, hal_sfr, har_sfr, hcs_sfr, hnx_sai, hkd_sai, hln_sai, hfi_sai, hfl_sai, hfr_sai, hai_sai, hal_sai, har_sai, hcs_sai, hnx_sal, hkd_sal, hln_sal, hfi_sal, hfl_sal, hfr_sal, hai_sal, hal_sal, har_sal, hcs_sal, hnx_sar, hkd_sar, hln_sar, hfi_sar, hfl_sar, hfr_sar, hai_sar, hal_sar, har_sar, hcs_sar, hnx_hob, hkd_hob, hln_hob, hfi_hob, hfl_hob, hfr_hob, hai_hob, hal_hob, har_hob, hc1_hob, hc2_hob, hnx_hay, hkd_hay, hln_hay, hfi_hay, hfl_hay, hfr_hay, hai_hay, hal_hay, har_hay, hc1_hay, hc2_hay, hnx_hsk, hkd_hsk, hln_hsk, hfi_hsk, hfl_hsk, hfr_hsk, hai_hsk, hal_hsk, har_hsk, hc1_hsk, hc2_hsk, l_0, l_1, l_2, l_3, l_4, l_5, l_6, l_7, l_8, l_9, l_10, l_11, l_12, l_13, l_14, l_15, l_16, l_17, l_18, l_19, l_20, l_21, l_22, l_23, l_24, l_25, l_26, l_27, l_28, l_29, l_30, l_31, l_32, l_33, l_34, l_35, l_38, l_39, l_45, l_48, l_56, l_60, l_63, l_64, l_80, l_96, l_98, l_112, l_127, l_128, l_129, l_130, l_132, l_133, l_140, l_141, l_142, l_143, l_144, l_146, l_147, l_148, l_149, l_151, l_160, l_176, l_191, l_192, l_194, l_208, l_224, l_240, l_244, l_245, l_255, l_400, l_403, l_404, l_405, l_410, l_480, l_600, l_640, l_2000, l_2047, l_2048, l_4000, l_65535, nn_add, nn_mul, nn_sub, nn_lt, nn_le, nn_eq, nn_div, nn_mod, a2, a6, and255n]
  exact k _ P.1 P.2
theorem qc_four {w : Nat} {h : Hp} {f : Int32} {bs : List Nat} {v : Int64} (H : WR w h f bs) (hl : bs.length + 4 ≤ 600) : wp (C_X10_four w v) h (fun _ h' => WR w h' f (bs ++ f4 v) ∧ Wo w h h') := by
  unfold C_X10_four
  have e : fu = 4995 + 5 := rfl
  rw [e]
  refine qc_four_step H (by omega) (by decide) (fun h1 p1 w1 => ?_)
  refine qc_four_step p1 (by simp; omega) (by decide) (fun h2 p2 w2 => ?_)
  refine qc_four_step p2 (by simp; omega) (by decide) (fun h3 p3 w3 => ?_)
  refine qc_four_step p3 (by simp; omega) (by decide) (fun h4 p4 w4 => ?_)
  show wp (C_X10_four_B3 w _ _ v _) h4 _
  unfold C_X10_four_B3
  rw [wp_pos (by decide)]
  unfold C_X10_four_J50
  rw [wp_rt]
  refine ⟨?_, ((w1.tr w2).tr w3).tr w4⟩
  simp only [List.append_assoc] at p4
  exact p4
/-- a VARIABLE -/
def vb : Nat → Nat → List Nat
  | 0, _ => []
  | n + 1, k => if k < 128 then [k] else (k % 128 + 128) :: vb n (k / 128)
theorem vb_len (n k : Nat) : (vb n k).length ≤ n := by
  induction n generalizing k with
  | zero => exact Nat.le_refl _
  | succ n ih =>
    unfold vb
    split
    · simp
    · have := ih (k / 128)
      simp
      omega
theorem qc_var_loop {w : Nat} {f : Int32} {Q : Unit → Hp → Prop} : ∀ (m : Nat) (i k n : Nat) (h : Hp) (bs : List Nat), i + m = 4 → m < n → k < 128 ^ m → WR w h f bs → bs.length + m ≤ 600 → (∀ h', WR w h' f (bs ++ vb m k) → Wo w h h' → Q () h') → wp (C_X10_variable_L4 w (C_X10_variable_J66 w) (C_X10_variable_J73 w) n (nn k) (nn i)) h Q := by
  intro m
  induction m with
  | zero =>
    intro i k n h bs hi hn hk H hl kk
    obtain ⟨n', rfl⟩ : ∃ z, n = z + 1 := ⟨n - 1, by omega⟩
    show wp (C_X10_variable_B4 w _ _ _ (nn k) (nn i)) h Q
    unfold C_X10_variable_B4
    rw [wp_pos (by rw [l_4, nn_le (by omega) (by omega)]; omega)]
    unfold C_X10_variable_J73
    rw [wp_rt]
    exact kk h (by rw [show vb 0 k = [] from rfl, List.append_nil]; exact H) Wo.rf
  | succ m ih =>
    intro i k n h bs hi hn hk H hl kk
    obtain ⟨n', rfl⟩ : ∃ z, n = z + 1 := ⟨n - 1, by omega⟩
    have hk31 : k < 2147483648 := by
      have : 128 ^ (m + 1) ≤ 128 ^ 4 := Nat.pow_le_pow_right (by decide) (by omega)
      have e4 : (128 : Nat) ^ 4 = 268435456 := by decide
      omega
    show wp (C_X10_variable_B4 w _ _ _ (nn k) (nn i)) h Q
    unfold C_X10_variable_B4
    have H' := H
    obtain ⟨⟨a1, a2, a3, a4⟩, a5, a6, a7, a8, a9⟩ := H
    by_cases h128 : k < 128
    · have P := H'.push (b := k) (by omega) (by omega)
      unfold C_X10_variable_J46
      rw [shr7 hk31]
      simp (disch := first | omega | (simp only [hnx_sfi, hkd_sfi, hln_sfi, hfi_sfi, hfl_sfi, hfr_sfi, hai_sfi, hal_sfi, har_sfi, hcs_sfi, hnx_sfl, hkd_sfl, hln_sfl, hfi_sfl, hfl_sfl, hfr_sfl, hai_sfl, hal_sfl, har_sfl, hcs_sfl, hnx_sfr, hkd_sfr, hln_sfr, hfi_sfr, hfl_sfr, hfr_sfr, hai_sfr, hal_sfr, har_sfr, hcs_sfr, hnx_sai, hkd_sai, hln_sai, hfi_sai, hfl_sai, hfr_sai, hai_sai, hal_sai, har_sai, hcs_sai, hnx_sal, hkd_sal, hln_sal, hfi_sal, hfl_sal, hfr_sal, hai_sal, hal_sal, har_sal, hcs_sal, hnx_sar, hkd_sar, hln_sar, hfi_sar, hfl_sar, hfr_sar, hai_sar, hal_sar, har_sar, hcs_sar, hnx_hob, hkd_hob, hln_hob, hfi_hob, hfl_hob, hfr_hob, hai_hob, hal_hob, har_hob, hc1_hob, hc2_hob, hnx_hay, hkd_hay, hln_hay, hfi_hay, hfl_hay, hfr_hay, hai_hay, hal_hay, har_hay, hc1_hay, hc2_hay, hnx_hsk, hkd_hsk, hln_hsk, hfi_hsk, hfl_hsk, hfr_hsk, hai_hsk, hal_hsk, har_hsk, hc1_hsk, hc2_hsk]; omega)) only [wp_rt, wp_bd, wp_lq, wp_gI, wp_gL, wp_gR, wp_pI, wp_pL, wp_pR, wp_Cv, wp_Nw, wp_Ci, wp_Oi, wp_Nn, Nat.reduceMul, Nat.reduceAdd, wn_Ai, wn_Al, wn_Ar, wn_Wi, wn_Wl, wn_Wr0, wn_Wr1, wn_Ln, wn_Na, wn_Cp, wp_pos, wp_neg, hnx_sfi, hkd_sfi, hln_sfi, hfi_sfi, hfl_sfi, hfr_sfi, hai_sfi, hal_sfi, har_sfi, hcs_sfi, hnx_sfl, hkd_sfl, hln_sfl, hfi_sfl, hfl_sfl, hfr_sfl, hai_sfl, hal_sfl, har_sfl, hcs_sfl, hnx_sfr, hkd_sfr, hln_sfr, hfi_sfr, hfl_sfr, hfr_sfr, hai_sfr, hal_sfr, har_sfr, hcs_sfr, hnx_sai, hkd_sai, hln_sai, hfi_sai, hfl_sai, hfr_sai, hai_sai, hal_sai, har_sai, hcs_sai, hnx_sal, hkd_sal, hln_sal, hfi_sal, hfl_sal, hfr_sal, hai_sal, hal_sal, har_sal, hcs_sal, hnx_sar, hkd_sar, hln_sar, hfi_sar, hfl_sar, hfr_sar, hai_sar, hal_sar, har_sar, hcs_sar, hnx_hob, hkd_hob, hln_hob, hfi_hob, hfl_hob, hfr_hob, hai_hob, hal_hob, har_hob, hc1_hob, hc2_hob, hnx_hay, hkd_hay, hln_hay, hfi_hay, hfl_hay, hfr_hay, hai_hay, hal_hay, har_hay, hc1_hay, hc2_hay, hnx_hsk, hkd_hsk, hln_hsk, hfi_hsk, hfl_hsk, hfr_hsk, hai_hsk, hal_hsk, har_hsk, hc1_hsk, hc2_hsk, l_0, l_1, l_2, l_3, l_4, l_5, l_6, l_7, l_8, l_9, l_10, l_11, l_12, l_13, l_14, l_15, l_16, l_17, l_18, l_19, l_20, l_21, l_22, l_23, l_24, l_25, l_26, l_27, l_28, l_29, l_30, l_31, l_32, l_33, l_34, l_35, l_38, l_39, l_45, l_48, l_56, l_60, l_63, l_64, l_80, l_96, l_98, l_112, l_127, l_128, l_129, l_130, l_132, l_133, l_140, l_141, l_142, l_143, l_144, l_146, l_147, l_148, l_149, l_151, l_160, l_176, l_191, l_192, l_194, l_208, l_224, l_240, l_244, l_245, l_255, l_400, l_403, l_404, l_405, l_410, l_480, l_600, l_640, l_2000, l_2047, l_2048, l_4000, l_65535, nn_add, nn_mul, nn_sub, nn_lt, nn_le, nn_eq, nn_div, nn_mod, a2, a6]
      unfold C_X10_variable_J66
      rw [wp_rt]
      refine kk _ ?_ P.2
      have e : vb (m + 1) k = [k] := by unfold vb; rw [if_pos h128]
      rw [e]
      exact P.1
    · have P := H'.push (b := k % 128 + 128) (by omega) (by omega)
      unfold C_X10_variable_J46
      rw [shr7 hk31, and127 hk31, or128 _ (by omega)]
      simp (disch := first | omega | (simp only [hnx_sfi, hkd_sfi, hln_sfi, hfi_sfi, hfl_sfi, hfr_sfi, hai_sfi, hal_sfi, har_sfi, hcs_sfi, hnx_sfl, hkd_sfl, hln_sfl, hfi_sfl, hfl_sfl, hfr_sfl, hai_sfl, hal_sfl, har_sfl, hcs_sfl, hnx_sfr, hkd_sfr, hln_sfr, hfi_sfr, hfl_sfr, hfr_sfr, hai_sfr, hal_sfr, har_sfr, hcs_sfr, hnx_sai, hkd_sai, hln_sai, hfi_sai, hfl_sai, hfr_sai, hai_sai, hal_sai, har_sai, hcs_sai, hnx_sal, hkd_sal, hln_sal, hfi_sal, hfl_sal, hfr_sal, hai_sal, hal_sal, har_sal, hcs_sal, hnx_sar, hkd_sar, hln_sar, hfi_sar, hfl_sar, hfr_sar, hai_sar, hal_sar, har_sar, hcs_sar, hnx_hob, hkd_hob, hln_hob, hfi_hob, hfl_hob, hfr_hob, hai_hob, hal_hob, har_hob, hc1_hob, hc2_hob, hnx_hay, hkd_hay, hln_hay, hfi_hay, hfl_hay, hfr_hay, hai_hay, hal_hay, har_hay, hc1_hay, hc2_hay, hnx_hsk, hkd_hsk, hln_hsk, hfi_hsk, hfl_hsk, hfr_hsk, hai_hsk, hal_hsk, har_hsk, hc1_hsk, hc2_hsk]; omega)) only [wp_rt, wp_bd, wp_lq, wp_gI, wp_gL, wp_gR, wp_pI, wp_pL, wp_pR, wp_Cv, wp_Nw, wp_Ci, wp_Oi, wp_Nn, Nat.reduceMul, Nat.reduceAdd, wn_Ai, wn_Al, wn_Ar, wn_Wi, wn_Wl, wn_Wr0, wn_Wr1, wn_Ln, wn_Na, wn_Cp, wp_pos, wp_neg, hnx_sfi, hkd_sfi, hln_sfi, hfi_sfi, hfl_sfi, hfr_sfi, hai_sfi, hal_sfi, har_sfi, hcs_sfi, hnx_sfl, hkd_sfl, hln_sfl, hfi_sfl, hfl_sfl, hfr_sfl, hai_sfl, hal_sfl, har_sfl, hcs_sfl, hnx_sfr, hkd_sfr, hln_sfr, hfi_sfr, hfl_sfr, hfr_sfr, hai_sfr, hal_sfr, har_sfr, hcs_sfr, hnx_sai, hkd_sai, hln_sai, hfi_sai, hfl_sai, hfr_sai, hai_sai, hal_sai, har_sai, hcs_sai, hnx_sal, hkd_sal, hln_sal, hfi_sal, hfl_sal, hfr_sal, hai_sal, hal_sal, har_sal, hcs_sal, hnx_sar, hkd_sar, hln_sar, hfi_sar, hfl_sar, hfr_sar, hai_sar, hal_sar, har_sar, hcs_sar, hnx_hob, hkd_hob, hln_hob, hfi_hob, hfl_hob, hfr_hob, hai_hob, hal_hob, har_hob, hc1_hob, hc2_hob, hnx_hay, hkd_hay, hln_hay, hfi_hay, hfl_hay, hfr_hay, hai_hay, hal_hay, har_hay, hc1_hay, hc2_hay, hnx_hsk, hkd_hsk, hln_hsk, hfi_hsk, hfl_hsk, hfr_hsk, hai_hsk, hal_hsk, har_hsk, hc1_hsk, hc2_hsk, l_0, l_1, l_2, l_3, l_4, l_5, l_6, l_7, l_8, l_9, l_10, l_11, l_12, l_13, l_14, l_15, l_16, l_17, l_18, l_19, l_20, l_21, l_22, l_23, l_24, l_25, l_26, l_27, l_28, l_29, l_30, l_31, l_32, l_33, l_34, l_35, l_38, l_39, l_45, l_48, l_56, l_60, l_63, l_64, l_80, l_96, l_98, l_112, l_127, l_128, l_129, l_130, l_132, l_133, l_140, l_141, l_142, l_143, l_144, l_146, l_147, l_148, l_149, l_151, l_160, l_176, l_191, l_192, l_194, l_208, l_224, l_240, l_244, l_245, l_255, l_400, l_403, l_404, l_405, l_410, l_480, l_600, l_640, l_2000, l_2047, l_2048, l_4000, l_65535, nn_add, nn_mul, nn_sub, nn_lt, nn_le, nn_eq, nn_div, nn_mod, a2, a6]
      refine ih (i + 1) (k / 128) n' _ _ (by omega) (by omega) ?_ P.1 (by simp; omega) (fun h' p' w' => ?_)
      · rw [Nat.pow_succ] at hk
        omega
      · refine kk h' ?_ (P.2.tr w')
        have e : vb (m + 1) k = (k % 128 + 128) :: vb m (k / 128) := by
          rw [vb, if_neg h128]
        rw [e]
        simpa using p'
theorem qc_var {w k : Nat} {h : Hp} {f : Int32} {bs : List Nat} (H : WR w h f bs) (hk : k < 268435456) (hl : bs.length + 4 ≤ 600) : wp (C_X10_variable w (nn k)) h (fun _ h' => WR w h' f (bs ++ vb 4 k) ∧ Wo w h h') := by
  unfold C_X10_variable
  exact qc_var_loop 4 0 k fu h bs rfl (by unfold fu; omega) (by omega) H hl (fun h' p w' => ⟨p, w'⟩)
