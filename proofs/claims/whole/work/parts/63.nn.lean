/-! ===== small numbers as ints ===== -/
def nn (k : Nat) : Int32 := Int32.ofNat k
section NNS
variable {a b k n : Nat}
theorem l_0 : (0 : Int32) = nn 0 := rfl
theorem l_1 : (1 : Int32) = nn 1 := rfl
theorem l_2 : (2 : Int32) = nn 2 := rfl
theorem l_3 : (3 : Int32) = nn 3 := rfl
theorem l_4 : (4 : Int32) = nn 4 := rfl
theorem l_5 : (5 : Int32) = nn 5 := rfl
theorem l_6 : (6 : Int32) = nn 6 := rfl
theorem l_7 : (7 : Int32) = nn 7 := rfl
theorem l_8 : (8 : Int32) = nn 8 := rfl
theorem l_9 : (9 : Int32) = nn 9 := rfl
theorem l_10 : (10 : Int32) = nn 10 := rfl
theorem l_11 : (11 : Int32) = nn 11 := rfl
theorem l_12 : (12 : Int32) = nn 12 := rfl
theorem l_13 : (13 : Int32) = nn 13 := rfl
theorem l_14 : (14 : Int32) = nn 14 := rfl
theorem l_15 : (15 : Int32) = nn 15 := rfl
theorem l_16 : (16 : Int32) = nn 16 := rfl
theorem l_17 : (17 : Int32) = nn 17 := rfl
theorem l_18 : (18 : Int32) = nn 18 := rfl
theorem l_19 : (19 : Int32) = nn 19 := rfl
theorem l_20 : (20 : Int32) = nn 20 := rfl
theorem l_21 : (21 : Int32) = nn 21 := rfl
theorem l_22 : (22 : Int32) = nn 22 := rfl
theorem l_23 : (23 : Int32) = nn 23 := rfl
theorem l_24 : (24 : Int32) = nn 24 := rfl
theorem l_25 : (25 : Int32) = nn 25 := rfl
theorem l_26 : (26 : Int32) = nn 26 := rfl
theorem l_27 : (27 : Int32) = nn 27 := rfl
theorem l_28 : (28 : Int32) = nn 28 := rfl
theorem l_29 : (29 : Int32) = nn 29 := rfl
theorem l_30 : (30 : Int32) = nn 30 := rfl
theorem l_31 : (31 : Int32) = nn 31 := rfl
theorem l_32 : (32 : Int32) = nn 32 := rfl
theorem l_33 : (33 : Int32) = nn 33 := rfl
theorem l_34 : (34 : Int32) = nn 34 := rfl
theorem l_35 : (35 : Int32) = nn 35 := rfl
theorem l_38 : (38 : Int32) = nn 38 := rfl
theorem l_39 : (39 : Int32) = nn 39 := rfl
theorem l_45 : (45 : Int32) = nn 45 := rfl
theorem l_48 : (48 : Int32) = nn 48 := rfl
theorem l_56 : (56 : Int32) = nn 56 := rfl
theorem l_60 : (60 : Int32) = nn 60 := rfl
theorem l_63 : (63 : Int32) = nn 63 := rfl
theorem l_64 : (64 : Int32) = nn 64 := rfl
theorem l_80 : (80 : Int32) = nn 80 := rfl
theorem l_96 : (96 : Int32) = nn 96 := rfl
theorem l_98 : (98 : Int32) = nn 98 := rfl
theorem l_112 : (112 : Int32) = nn 112 := rfl
theorem l_127 : (127 : Int32) = nn 127 := rfl
theorem l_128 : (128 : Int32) = nn 128 := rfl
theorem l_129 : (129 : Int32) = nn 129 := rfl
theorem l_130 : (130 : Int32) = nn 130 := rfl
theorem l_132 : (132 : Int32) = nn 132 := rfl
theorem l_133 : (133 : Int32) = nn 133 := rfl
theorem l_140 : (140 : Int32) = nn 140 := rfl
theorem l_141 : (141 : Int32) = nn 141 := rfl
theorem l_142 : (142 : Int32) = nn 142 := rfl
theorem l_143 : (143 : Int32) = nn 143 := rfl
theorem l_144 : (144 : Int32) = nn 144 := rfl
theorem l_146 : (146 : Int32) = nn 146 := rfl
theorem l_147 : (147 : Int32) = nn 147 := rfl
theorem l_148 : (148 : Int32) = nn 148 := rfl
theorem l_149 : (149 : Int32) = nn 149 := rfl
theorem l_151 : (151 : Int32) = nn 151 := rfl
theorem l_160 : (160 : Int32) = nn 160 := rfl
theorem l_176 : (176 : Int32) = nn 176 := rfl
theorem l_191 : (191 : Int32) = nn 191 := rfl
theorem l_192 : (192 : Int32) = nn 192 := rfl
theorem l_194 : (194 : Int32) = nn 194 := rfl
theorem l_208 : (208 : Int32) = nn 208 := rfl
theorem l_224 : (224 : Int32) = nn 224 := rfl
theorem l_240 : (240 : Int32) = nn 240 := rfl
theorem l_244 : (244 : Int32) = nn 244 := rfl
theorem l_245 : (245 : Int32) = nn 245 := rfl
theorem l_255 : (255 : Int32) = nn 255 := rfl
theorem l_400 : (400 : Int32) = nn 400 := rfl
theorem l_403 : (403 : Int32) = nn 403 := rfl
theorem l_404 : (404 : Int32) = nn 404 := rfl
theorem l_405 : (405 : Int32) = nn 405 := rfl
theorem l_410 : (410 : Int32) = nn 410 := rfl
theorem l_480 : (480 : Int32) = nn 480 := rfl
theorem l_600 : (600 : Int32) = nn 600 := rfl
theorem l_640 : (640 : Int32) = nn 640 := rfl
theorem l_2000 : (2000 : Int32) = nn 2000 := rfl
theorem l_2047 : (2047 : Int32) = nn 2047 := rfl
theorem l_2048 : (2048 : Int32) = nn 2048 := rfl
theorem l_4000 : (4000 : Int32) = nn 4000 := rfl
theorem l_65535 : (65535 : Int32) = nn 65535 := rfl
theorem nn_add : nn a + nn b = nn (a + b) := (Int32.ofNat_add a b).symm
theorem nn_mul : nn a * nn b = nn (a * b) := (Int32.ofNat_mul a b).symm
theorem nn_sub (h : b ≤ a) : nn a - nn b = nn (a - b) := (Int32.ofNat_sub a b h).symm
theorem nn_N (h : k < 2147483648) : (nn k).toNatClampNeg = k := Int32.toNatClampNeg_ofNat_of_lt h
theorem nn_I (h : k < 2147483648) : (nn k).toInt = (k : Int) := Int32.toInt_ofNat_of_lt h
theorem nn_ge (h : k < 2147483648) : (0 : Int32) ≤ nn k := Int32.zero_le_ofNat_of_lt h
theorem nn_lt (ha : a < 2147483648) (hb : b < 2147483648) : nn a < nn b ↔ a < b := Int32.ofNat_lt_iff_lt ha hb
theorem nn_le (ha : a < 2147483648) (hb : b < 2147483648) : nn a ≤ nn b ↔ a ≤ b := Int32.ofNat_le_iff_le ha hb
theorem nn_eq (ha : a < 2147483648) (hb : b < 2147483648) : nn a = nn b ↔ a = b := ⟨fun e => by
  have := congrArg Int32.toNatClampNeg e
  rwa [nn_N ha, nn_N hb] at this, fun e => by rw [e]⟩
theorem nn_inr (h : k < n) (hn : k < 2147483648) : inr (nn k) n := ⟨nn_ge hn, by rw [nn_N hn]; exact h⟩
theorem nn_div (ha : a < 2147483648) (hb : b < 2147483648) : nn a / nn b = nn (a / b) := (Int32.ofNat_div ha hb).symm
theorem nn_mod (ha : a < 2147483648) (hb : b < 2147483648) : nn a % nn b = nn (a % b) := (Int32.ofNat_mod ha hb).symm
theorem nn_of (v : Int32) (h : 0 ≤ v) : v = nn v.toNatClampNeg := (Int32.ofNat_toNatClampNeg v h).symm
theorem nn_neg (h : k < 2147483648) : nn k ≠ -1 := fun e => by
  have := congrArg Int32.toInt e
  rw [nn_I h] at this
  have e2 : (-1 : Int32).toInt = -1 := rfl
  rw [e2] at this
  omega
theorem nn_nlt0 (h : k < 2147483648) : ¬ nn k < 0 := fun e => absurd (nn_ge h) (Int32.not_le.mpr e)
end NNS
