/-! ===== texts and topics in a packet ===== -/
theorem and63 {k : Nat} (hk : k < 2147483648) : nn k &&& (63 : Int32) = nn (k % 64) := by
  apply Int32.toBitVec.inj
  apply BitVec.eq_of_toNat_eq
  have e1 : (nn k &&& (63 : Int32)).toBitVec.toNat = (k % 2 ^ 32) &&& 63 := rfl
  have e2 : (k % 2 ^ 32) &&& 63 = (k % 2 ^ 32) % 64 := Nat.and_two_pow_sub_one_eq_mod _ 6
  have e3 : (nn (k % 64)).toBitVec.toNat = (k % 64) % 2 ^ 32 := rfl
  rw [e1, e2, e3]
  omega
theorem and31 {k : Nat} (hk : k < 2147483648) : nn k &&& (31 : Int32) = nn (k % 32) := by
  apply Int32.toBitVec.inj
  apply BitVec.eq_of_toNat_eq
  have e1 : (nn k &&& (31 : Int32)).toBitVec.toNat = (k % 2 ^ 32) &&& 31 := rfl
  have e2 : (k % 2 ^ 32) &&& 31 = (k % 2 ^ 32) % 32 := Nat.and_two_pow_sub_one_eq_mod _ 5
  have e3 : (nn (k % 32)).toBitVec.toNat = (k % 32) % 2 ^ 32 := rfl
  rw [e1, e2, e3]
  omega
theorem and15 {k : Nat} (hk : k < 2147483648) : nn k &&& (15 : Int32) = nn (k % 16) := by
  apply Int32.toBitVec.inj
  apply BitVec.eq_of_toNat_eq
  have e1 : (nn k &&& (15 : Int32)).toBitVec.toNat = (k % 2 ^ 32) &&& 15 := rfl
  have e2 : (k % 2 ^ 32) &&& 15 = (k % 2 ^ 32) % 16 := Nat.and_two_pow_sub_one_eq_mod _ 4
  have e3 : (nn (k % 16)).toBitVec.toNat = (k % 16) % 2 ^ 32 := rfl
  rw [e1, e2, e3]
  omega
theorem and7 {k : Nat} (hk : k < 2147483648) : nn k &&& (7 : Int32) = nn (k % 8) := by
  apply Int32.toBitVec.inj
  apply BitVec.eq_of_toNat_eq
  have e1 : (nn k &&& (7 : Int32)).toBitVec.toNat = (k % 2 ^ 32) &&& 7 := rfl
  have e2 : (k % 2 ^ 32) &&& 7 = (k % 2 ^ 32) % 8 := Nat.and_two_pow_sub_one_eq_mod _ 3
  have e3 : (nn (k % 8)).toBitVec.toNat = (k % 8) % 2 ^ 32 := rfl
  rw [e1, e2, e3]
  omega
theorem nn_shl6 {a : Nat} (ha : a < 8388608) : nn a <<< ((6 : Int32) &&& 31) = nn (2 ^ 6 * a) := by
  apply Int32.toBitVec.inj
  apply BitVec.eq_of_toNat_eq
  have e1 : (nn a <<< ((6 : Int32) &&& 31)).toBitVec.toNat = ((a % 2 ^ 32) <<< 6) % 2 ^ 32 := rfl
  have e3 : (nn (2 ^ 6 * a)).toBitVec.toNat = (2 ^ 6 * a) % 2 ^ 32 := rfl
  rw [e1, e3, Nat.shiftLeft_eq]
  omega
theorem nn_dec {k : Nat} (hk : 1 ≤ k) : nn k + (-1) = nn (k - 1) := by
  rw [show nn k + (-1 : Int32) = nn k - 1 from (Int32.sub_eq_add_neg _ _).symm, l_1, nn_sub hk]
section TXT
variable {x a o : Nat} {h : Hp} {r : RS} {ys : List Nat}
theorem u8c_c (b : Nat) (t : List Nat) (more lo hi : Nat) : u8c (b :: t) more lo hi = if 0 < more then (if b < lo ∨ hi < b then false else u8c t (more - 1) 128 191)
    else if b = 0 ∨ (128 ≤ b ∧ b < 194) ∨ 244 < b then false
    else if 128 ≤ b then u8c t (if b < 224 then 1 else if b < 240 then 2 else 3) (if b = 224 then 160 else if b = 240 then 144 else 128) (if b = 237 then 159 else if b = 244 then 143 else 191)
    else u8c t more lo hi := rfl
theorem qc_utf8 (W : Rw x h a ys) (hl : ys.length ≤ 405) : C_X7_isUtf8 a h = some (if u8c ys 0 128 191 = true then 1 else 0, h) := by
  have hk := W.1
  have B := W.2.2.1
  obtain ⟨y, y1, y2, y3, y4⟩ := W.at
  have hh : wp (C_X7_isUtf8 a) h (fun v h' => v = (if u8c ys 0 128 191 = true then 1 else 0) ∧ h' = h) := by
    unfold C_X7_isUtf8
    have key : ∀ (c k f more lo hi : Nat), k + c = ys.length → c < f → more ≤ 3 → lo < 256 → hi < 256 → wp (C_X7_isUtf8_L9 a (C_X7_isUtf8_J44 a) (C_X7_isUtf8_J89 a) (fun l1 => C_X7_isUtf8_J195 a l1) f (nn more) (nn lo) (nn hi) (nn k)) h (fun v h' => v = (if u8c (ys.drop k) more lo hi = true then 1 else 0) ∧ h' = h) := by
      intro c
      induction c with
      | zero =>
        intro k f more lo hi hk1 hf h1 h2 h3
        obtain ⟨f', rfl⟩ : ∃ z, f = z + 1 := ⟨f - 1, by omega⟩
        show wp (C_X7_isUtf8_B9 a _ _ _ _ (nn more) (nn lo) (nn hi) (nn k)) h _
        unfold C_X7_isUtf8_B9
        have y1' : hfr h (100 * 9 + 0) a = some y := y1
        rw [wp_gR hk, y1', wn_Ln y2, y3, wp_pos (by rw [nn_le (by omega) (by omega)]; omega), drop_all (by omega)]
        unfold C_X7_isUtf8_J195
        show wp (if nn more = 0 then _ else _) h _
        by_cases g : more = 0
        · subst g
          rw [wp_pos (show nn 0 = (0 : Int32) from rfl), wp_zt]
          exact ⟨Or.inr rfl, rfl, rfl⟩
        · rw [wp_neg (nn_ne0 (by omega) g), wp_zt]
          refine ⟨Or.inl rfl, ?_, rfl⟩
          show (0 : Int32) = if decide (more = 0) = true then 1 else 0
          rw [if_neg (by rw [decide_eq_true_iff]; exact g)]
      | succ c ih =>
        intro k f more lo hi hk1 hf h1 h2 h3
        obtain ⟨f', rfl⟩ : ∃ z, f = z + 1 := ⟨f - 1, by omega⟩
        show wp (C_X7_isUtf8_B9 a _ _ _ _ (nn more) (nn lo) (nn hi) (nn k)) h _
        unfold C_X7_isUtf8_B9
        have y1' : hfr h (100 * 9 + 0) a = some y := y1
        have hb := y4 k (by omega)
        have b256 := B.at k
        have J44 : wp (C_X7_isUtf8_J44 a) h (fun v h' => v = 0 ∧ h' = h) := by
          unfold C_X7_isUtf8_J44
          rw [wp_zt]
          exact ⟨Or.inl rfl, rfl, rfl⟩
        have J89 : wp (C_X7_isUtf8_J89 a) h (fun v h' => v = 0 ∧ h' = h) := by
          unfold C_X7_isUtf8_J89
          rw [wp_zt]
          exact ⟨Or.inl rfl, rfl, rfl⟩
        rw [wp_gR hk, y1', wn_Ln y2, y3, wp_neg (by rw [nn_le (by omega) (by omega)]; omega), wp_gR hk, y1', wn_Ai y2 (by omega) (by omega), hb, drop_cons (show k < ys.length by omega), u8c_c]
        obtain ⟨b, eb⟩ : ∃ b, b = ys.getD k 0 := ⟨_, rfl⟩
        rw [← eb] at b256 ⊢
        by_cases gm : more = 0
        · subst gm
          rw [wp_pos (by decide), if_neg (show ¬ 0 < 0 by omega)]
          by_cases g0 : b = 0
          · rw [wp_pos (by rw [g0]; rfl), if_pos (Or.inl g0)]
            exact J89
          · rw [wp_neg (nn_ne0 (by omega) g0), l_128, l_194]
            have j81 : 194 ≤ b ∨ b < 128 → wp (C_X7_isUtf8_J81 a (fun l1 l2 l3 l4 => C_X7_isUtf8_L9 a (C_X7_isUtf8_J44 a) (C_X7_isUtf8_J89 a) (fun l1 => C_X7_isUtf8_J195 a l1) f' l1 l2 l3 l4) (C_X7_isUtf8_J44 a) (C_X7_isUtf8_J89 a) (fun l1 => C_X7_isUtf8_J195 a l1) (nn 0) (nn lo) (nn hi) (nn k) (nn b)) h (fun v h' => v = (if (if b = 0 ∨ (128 ≤ b ∧ b < 194) ∨ 244 < b then false else if 128 ≤ b then u8c (ys.drop (k + 1)) (if b < 224 then 1 else if b < 240 then 2 else 3) (if b = 224 then 160 else if b = 240 then 144 else 128) (if b = 237 then 159 else if b = 244 then 143 else 191) else u8c (ys.drop (k + 1)) 0 lo hi) = true then 1 else 0) ∧ h' = h) := by
              intro hbb
              unfold C_X7_isUtf8_J81
              rw [l_244]
              by_cases g4 : b ≤ 244
              · rw [wp_pos (by rw [nn_le (by omega) (by omega)]; exact g4), if_neg (show ¬ (b = 0 ∨ (128 ≤ b ∧ b < 194) ∨ 244 < b) by omega), l_128]
                by_cases g1 : b < 128
                · rw [wp_pos (by rw [nn_lt (by omega) (by omega)]; exact g1), if_neg (show ¬ 128 ≤ b by omega), l_1, nn_add]
                  exact ih (k + 1) f' 0 lo hi (by omega) (by omega) (by omega) h2 h3
                · rw [wp_neg (by rw [nn_lt (by omega) (by omega)]; exact g1), if_pos (show 128 ≤ b by omega)]
                  have j124 : ∀ q, q ≤ 3 → wp (C_X7_isUtf8_J124 a (fun l1 l2 l3 l4 => C_X7_isUtf8_L9 a (C_X7_isUtf8_J44 a) (C_X7_isUtf8_J89 a) (fun l1 => C_X7_isUtf8_J195 a l1) f' l1 l2 l3 l4) (C_X7_isUtf8_J44 a) (C_X7_isUtf8_J89 a) (fun l1 => C_X7_isUtf8_J195 a l1) (nn k) (nn b) (nn q)) h (fun v h' => v = (if u8c (ys.drop (k + 1)) q (if b = 224 then 160 else if b = 240 then 144 else 128) (if b = 237 then 159 else if b = 244 then 143 else 191) = true then 1 else 0) ∧ h' = h) := by
                    intro q hq
                    have j156 : ∀ lo', lo' < 256 → wp (C_X7_isUtf8_J156 a (fun l1 l2 l3 l4 => C_X7_isUtf8_L9 a (C_X7_isUtf8_J44 a) (C_X7_isUtf8_J89 a) (fun l1 => C_X7_isUtf8_J195 a l1) f' l1 l2 l3 l4) (C_X7_isUtf8_J44 a) (C_X7_isUtf8_J89 a) (fun l1 => C_X7_isUtf8_J195 a l1) (nn q) (nn k) (nn b) (nn lo')) h (fun v h' => v = (if u8c (ys.drop (k + 1)) q lo' (if b = 237 then 159 else if b = 244 then 143 else 191) = true then 1 else 0) ∧ h' = h) := by
                      intro lo' hlo
                      unfold C_X7_isUtf8_J156 C_X7_isUtf8_J188
                      dsimp only
                      rw [l_1, nn_add]
                      by_cases g7 : b = 237
                      · rw [wp_pos (by rw [g7]; rfl), if_pos g7]
                        exact ih (k + 1) f' q lo' 159 (by omega) (by omega) hq hlo (by omega)
                      · rw [wp_neg (fun z : nn b = (237 : Int32) => g7 (nn_inj (b := 237) (by omega) (by omega) z)), if_neg g7]
                        by_cases g8 : b = 244
                        · rw [wp_pos (by rw [g8]; rfl), if_pos g8]
                          exact ih (k + 1) f' q lo' 143 (by omega) (by omega) hq hlo (by omega)
                        · rw [wp_neg (fun z : nn b = (244 : Int32) => g8 (nn_inj (b := 244) (by omega) (by omega) z)), if_neg g8]
                          exact ih (k + 1) f' q lo' 191 (by omega) (by omega) hq hlo (by omega)
                    unfold C_X7_isUtf8_J124
                    by_cases g7 : b = 224
                    · rw [wp_pos (by rw [g7]; rfl), if_pos g7]
                      exact j156 160 (by omega)
                    · rw [wp_neg (fun z : nn b = (224 : Int32) => g7 (nn_inj (b := 224) (by omega) (by omega) z)), if_neg g7]
                      by_cases g8 : b = 240
                      · rw [wp_pos (by rw [g8]; rfl), if_pos g8]
                        exact j156 144 (by omega)
                      · rw [wp_neg (fun z : nn b = (240 : Int32) => g8 (nn_inj (b := 240) (by omega) (by omega) z)), if_neg g8]
                        exact j156 128 (by omega)
                  by_cases g5 : b < 224
                  · rw [wp_neg (by rw [show (224 : Int32) = nn 224 from rfl, nn_le (by omega) (by omega)]; omega), if_pos g5]
                    exact j124 1 (by omega)
                  · rw [wp_pos (by rw [show (224 : Int32) = nn 224 from rfl, nn_le (by omega) (by omega)]; omega), if_neg g5]
                    by_cases g6 : b < 240
                    · rw [wp_neg (by rw [show (240 : Int32) = nn 240 from rfl, nn_le (by omega) (by omega)]; omega), if_pos g6]
                      exact j124 2 (by omega)
                    · rw [wp_pos (by rw [show (240 : Int32) = nn 240 from rfl, nn_le (by omega) (by omega)]; omega), if_neg g6]
                      exact j124 3 (by omega)
              · rw [wp_neg (by rw [nn_le (by omega) (by omega)]; exact g4), if_pos (show b = 0 ∨ (128 ≤ b ∧ b < 194) ∨ 244 < b by omega)]
                exact J89
            by_cases g1 : b < 128
            · rw [wp_pos (by rw [nn_lt (by omega) (by omega)]; exact g1)]
              exact j81 (Or.inr g1)
            · rw [wp_neg (by rw [nn_lt (by omega) (by omega)]; exact g1)]
              by_cases g2 : b < 194
              · rw [wp_pos (by rw [nn_lt (by omega) (by omega)]; exact g2), if_pos (show b = 0 ∨ (128 ≤ b ∧ b < 194) ∨ 244 < b by omega)]
                exact J89
              · rw [wp_neg (by rw [nn_lt (by omega) (by omega)]; exact g2)]
                exact j81 (Or.inl (by omega))
        · rw [wp_neg (by rw [show (0 : Int32) = nn 0 from rfl, nn_le (by omega) (by omega)]; omega), if_pos (show 0 < more by omega)]
          by_cases g1 : b < lo
          · rw [wp_pos (by rw [nn_lt (by omega) (by omega)]; exact g1), if_pos (Or.inl g1)]
            exact J44
          · rw [wp_neg (by rw [nn_lt (by omega) (by omega)]; exact g1)]
            by_cases g2 : b ≤ hi
            · rw [wp_pos (by rw [nn_le (by omega) (by omega)]; exact g2), if_neg (show ¬ (b < lo ∨ hi < b) by omega), show nn more + (-1) = nn (more - 1) from nn_dec (by omega), l_1, nn_add]
              exact ih (k + 1) f' (more - 1) 128 191 (by omega) (by omega) (by omega) (by omega) (by omega)
            · rw [wp_neg (by rw [nn_le (by omega) (by omega)]; exact g2), if_pos (Or.inr (by omega))]
              exact J44
    have := key ys.length 0 fu 0 0 0 (by omega) (by unfold fu; omega) (by omega) (by omega) (by omega)
    rw [List.drop_zero, u8c_m0 ys 0 0 128 191] at this
    exact this
  obtain ⟨_, h', e1, e2, e3⟩ := hh
  rw [e1, e2, e3]
end TXT
