/-! ===== longs: small numbers, comparisons ===== -/
def n6 (k : Nat) : Int64 := Int64.ofNat k
theorem cmp_le {x y : Int64} : lg_cmp x y ≤ 0 ↔ x ≤ y := by
  unfold lg_cmp
  by_cases h : x > y
  · rw [if_pos h]
    exact ⟨fun z => absurd z (by decide), fun z => absurd h (Int64.not_lt.mpr z)⟩
  · rw [if_neg h]
    refine ⟨fun _ => Int64.not_lt.mp h, fun _ => ?_⟩
    by_cases h2 : x = y
    · rw [if_pos h2]; decide
    · rw [if_neg h2]; decide
theorem cmp_eq {x y : Int64} : lg_cmp x y = 0 ↔ x = y := by
  unfold lg_cmp
  by_cases h : x > y
  · rw [if_pos h]
    exact ⟨fun z => absurd z (by decide), fun z => by subst z; exact absurd h Int64.lt_irrefl⟩
  · rw [if_neg h]
    by_cases h2 : x = y
    · rw [if_pos h2]; exact ⟨fun _ => h2, fun _ => rfl⟩
    · rw [if_neg h2]; exact ⟨fun z => absurd z (by decide), fun z => absurd z h2⟩
theorem cmp_lt {x y : Int64} : lg_cmp x y < 0 ↔ x < y := by
  unfold lg_cmp
  by_cases h : x > y
  · rw [if_pos h]
    exact ⟨fun z => absurd z (by decide), fun z => absurd (Int64.lt_trans h z) Int64.lt_irrefl⟩
  · rw [if_neg h]
    by_cases h2 : x = y
    · rw [if_pos h2]; exact ⟨fun z => absurd z (by decide), fun z => by subst h2; exact absurd z Int64.lt_irrefl⟩
    · rw [if_neg h2]; exact ⟨fun _ => Int64.lt_of_le_of_ne (Int64.not_lt.mp h) h2, fun _ => by decide⟩
theorem cmp_ge {x y : Int64} : 0 ≤ lg_cmp x y ↔ y ≤ x := by
  rw [← Int32.not_lt, cmp_lt, Int64.not_lt]
section N6S
variable {a b k : Nat}
theorem n6_I (h : k < 9223372036854775808) : (n6 k).toInt = (k : Int) := Int64.toInt_ofNat_of_lt h
theorem n6_le (ha : a < 9223372036854775808) (hb : b < 9223372036854775808) : n6 a ≤ n6 b ↔ a ≤ b := Int64.ofNat_le_iff_le ha hb
theorem n6_lt (ha : a < 9223372036854775808) (hb : b < 9223372036854775808) : n6 a < n6 b ↔ a < b := Int64.ofNat_lt_iff_lt ha hb
theorem n6_eq (ha : a < 9223372036854775808) (hb : b < 9223372036854775808) : n6 a = n6 b ↔ a = b := ⟨fun e => by
  have := congrArg Int64.toInt e
  rw [n6_I ha, n6_I hb] at this
  omega, fun e => by rw [e]⟩
theorem l6_127 : (127 : Int64) = n6 127 := rfl
theorem n6_nn (h : k < 2147483648) : (nn k).toInt64 = n6 k := by
  apply Int64.toInt_inj.mp
  rw [Int32.toInt_toInt64, nn_I h, n6_I (by omega)]
theorem n6_32 (h : k < 2147483648) : (n6 k).toInt32 = nn k := by
  apply Int32.toInt_inj.mp
  rw [Int64.toInt_toInt32, n6_I (by omega), nn_I h, Int.bmod_def]
  have h32 : ((2 ^ 32 : Nat) : Int) = 4294967296 := rfl
  rw [h32]
  split <;> omega
theorem n6_and127 (hk : k < 9223372036854775808) : n6 k &&& (127 : Int64) = n6 (k % 128) := by
  apply Int64.toBitVec.inj
  apply BitVec.eq_of_toNat_eq
  have e1 : (n6 k &&& (127 : Int64)).toBitVec.toNat = (k % 2 ^ 64) &&& 127 := rfl
  have e2 : (k % 2 ^ 64) &&& 127 = (k % 2 ^ 64) % 128 := Nat.and_two_pow_sub_one_eq_mod _ 7
  have e3 : (n6 (k % 128)).toBitVec.toNat = (k % 128) % 2 ^ 64 := rfl
  rw [e1, e2, e3]
  omega
theorem n6_shr7 (hk : k < 9223372036854775808) : lshr6 (n6 k) (7 : Int32) = n6 (k / 128) := by
  apply Int64.toBitVec.inj
  apply BitVec.eq_of_toInt_eq
  have e1 : (lshr6 (n6 k) (7 : Int32)).toBitVec = (n6 k).toBitVec.sshiftRight 7 := rfl
  rw [e1, BitVec.toInt_sshiftRight]
  have e2 : (n6 k).toBitVec.toInt = (k : Int) := n6_I hk
  have e3 : (n6 (k / 128)).toBitVec.toInt = ((k / 128 : Nat) : Int) := n6_I (by omega)
  rw [e2, e3]
  rw [Int.shiftRight_eq_div_pow]
  rfl
end N6S
/-! ===== the model's packets ===== -/
def BD (r : RS) (bs : List Nat) : Prop := r.1 91 = nn bs.length ∧ Mg (r.2.1 90) 0 bs ∧ By bs
theorem qm_byte {r : RS} {bs : List Nat} {v : Int32} (h : BD r bs) (hl : bs.length < 1200) : wp (R_byteOf v) r (fun _ r' => BD r' (bs ++ [lo8 v]) ∧ Ro [90, 91] r r') := by
  unfold R_byteOf
  rw [wp_rI, wp_wI, h.1, ww_90 hl, wp_rt, nar8]
  refine ⟨⟨?_, ?_, h.2.2.app (By.one (lo8_lt v))⟩, (Ro.rf.i (by decide)).a (by decide)⟩
  · rw [sA_1, sI_1, if_pos rfl, List.length_append]
    exact nn_add
  · refine h.2.1.snoc ?_ (fun i hi => ?_)
    · rw [sA_2, if_pos ⟨rfl, by omega⟩]
    · rw [sA_2, if_neg (by omega), sI_2]
theorem qm_var_loop {Q : Unit → RS → Prop} : ∀ (m k n : Nat) (r : RS) (bs : List Nat), m < n → k < 128 ^ (m + 1) → m < 4 → BD r bs → bs.length + m + 1 ≤ 1200 → (∀ r', BD r' (bs ++ vb 4 k) → Ro [90, 91] r r' → Q () r') → wp (R_variableOf_L2 (fun l3 => R_variableOf_J32 l3) n (n6 k)) r Q := by
  intro m
  induction m with
  | zero =>
    intro k n r bs hn hk _ H hl kk
    obtain ⟨n', rfl⟩ : ∃ z, n = z + 1 := ⟨n - 1, by omega⟩
    have hk' : k < 128 := by simpa using hk
    show wp (R_variableOf_B2 _ _ (n6 k)) r Q
    unfold R_variableOf_B2
    rw [wp_pos (by rw [cmp_le, l6_127]; exact (n6_le (by omega) (by omega)).mpr (by omega))]
    unfold R_variableOf_J32
    dsimp only
    rw [n6_32 (by omega), wp_bd]
    refine (qm_byte H (by omega)).mono (fun _ r1 z => ?_)
    rw [wp_rt]
    refine kk r1 ?_ z.2
    rw [vb, if_pos hk']
    have e : lo8 (nn k) = k := by rw [lo8_nn (by omega)]; omega
    rw [← e]
    rw [e]
    have := z.1
    rwa [e] at this
  | succ m ih =>
    intro k n r bs hn hk hm H hl kk
    obtain ⟨n', rfl⟩ : ∃ z, n = z + 1 := ⟨n - 1, by omega⟩
    have hk31 : k < 2147483648 := by
      have : 128 ^ (m + 1 + 1) ≤ 128 ^ 4 := Nat.pow_le_pow_right (by decide) (by omega)
      have e4 : (128 : Nat) ^ 4 = 268435456 := by decide
      omega
    by_cases h128 : k < 128
    · refine ih k (n' + 1) r bs (by omega) ?_ (by omega) H (by omega) kk
      have : 128 ^ 1 ≤ 128 ^ (m + 1) := Nat.pow_le_pow_right (by decide) (by omega)
      omega
    · show wp (R_variableOf_B2 _ _ (n6 k)) r Q
      unfold R_variableOf_B2
      rw [wp_neg (by rw [cmp_le, l6_127]; exact fun z => absurd ((n6_le (by omega) (by omega)).mp z) (by omega)), n6_and127 (by omega), n6_32 (by omega), or128 _ (by omega), n6_shr7 (by omega), wp_bd]
      refine (qm_byte H (by omega)).mono (fun _ r1 z => ?_)
      rw [wp_lq]
      have e : lo8 (nn (k % 128 + 128)) = k % 128 + 128 := by rw [lo8_nn (by omega)]; omega
      have z1 := z.1
      rw [e] at z1
      refine ih (k / 128) n' r1 _ (by omega) ?_ (by omega) z1 (by simp; omega) (fun r' p' w' => ?_)
      · rw [Nat.pow_succ] at hk
        omega
      · refine kk r' ?_ (z.2.tr w')
        have e5 : ∀ j, k / 128 < 128 ^ (j + 1) → j < 3 → vb 4 (k / 128) = vb 3 (k / 128) := by
          intro j hj hj3
          have h3 : k / 128 < 128 ^ 3 := by
            have : 128 ^ (j + 1) ≤ 128 ^ 3 := Nat.pow_le_pow_right (by decide) (by omega)
            omega
          have c3 : (128 : Nat) ^ 3 = 2097152 := by decide
          rw [c3] at h3
          generalize k / 128 = q at h3
          by_cases g1 : q < 128
          · simp only [vb, if_pos g1]
          · by_cases g2 : q / 128 < 128
            · simp only [vb, if_neg g1, if_pos g2]
            · simp only [vb, if_neg g1, if_neg g2, if_pos (show q / 128 / 128 < 128 by omega)]
        have e6 : vb 4 k = (k % 128 + 128) :: vb 3 (k / 128) := by
          rw [vb, if_neg h128]
        rw [e6, ← e5 m (by rw [Nat.pow_succ] at hk; omega) (by omega)]
        simpa using p'
theorem qm_var {r : RS} {bs : List Nat} {k : Nat} (H : BD r bs) (hk : k < 268435456) (hl : bs.length + 4 ≤ 1200) : wp (R_variableOf (n6 k)) r (fun _ r' => BD r' (bs ++ vb 4 k) ∧ Ro [90, 91] r r') := by
  unfold R_variableOf
  exact qm_var_loop 3 k fu r bs (by unfold fu; omega) (by omega) (by omega) H (by omega) (fun r' p w' => ⟨p, w'⟩)
