/-! ===== the model's arrays, at small numbers ===== -/
section MAR
variable {ρ : Type} {r : RS} {Q : ρ → RS → Prop} {i : Nat} {v : Int32} {u : Int64} {f : Int32 → RS → Option (ρ × RS)} {g : Int64 → RS → Option (ρ × RS)} {P : RS → Option (ρ × RS)}
theorem mL_1 : mL 1 = 8 := rfl
theorem wr_1 (h : i < 8) : wp (rA 1 (nn i) f) r Q ↔ wp (f (r.2.1 1 i)) r Q := by rw [wp_rA (nn_inr (by rw [mL_1]; exact h) (by omega)), nn_N (by omega)]
theorem ww_1 (h : i < 8) : wp (wA 1 (nn i) v P) r Q ↔ wp P (sA r 1 i v) Q := by rw [wp_wA (nn_inr (by rw [mL_1]; exact h) (by omega)), nn_N (by omega)]
theorem mL_2 : mL 2 = 8 := rfl
theorem wr_2 (h : i < 8) : wp (rA 2 (nn i) f) r Q ↔ wp (f (r.2.1 2 i)) r Q := by rw [wp_rA (nn_inr (by rw [mL_2]; exact h) (by omega)), nn_N (by omega)]
theorem ww_2 (h : i < 8) : wp (wA 2 (nn i) v P) r Q ↔ wp P (sA r 2 i v) Q := by rw [wp_wA (nn_inr (by rw [mL_2]; exact h) (by omega)), nn_N (by omega)]
theorem mL_3 : mL 3 = 8 := rfl
theorem wr_3 (h : i < 8) : wp (rA 3 (nn i) f) r Q ↔ wp (f (r.2.1 3 i)) r Q := by rw [wp_rA (nn_inr (by rw [mL_3]; exact h) (by omega)), nn_N (by omega)]
theorem ww_3 (h : i < 8) : wp (wA 3 (nn i) v P) r Q ↔ wp P (sA r 3 i v) Q := by rw [wp_wA (nn_inr (by rw [mL_3]; exact h) (by omega)), nn_N (by omega)]
theorem mL_4 : mL 4 = 16000 := rfl
theorem wr_4 (h : i < 16000) : wp (rA 4 (nn i) f) r Q ↔ wp (f (r.2.1 4 i)) r Q := by rw [wp_rA (nn_inr (by rw [mL_4]; exact h) (by omega)), nn_N (by omega)]
theorem ww_4 (h : i < 16000) : wp (wA 4 (nn i) v P) r Q ↔ wp P (sA r 4 i v) Q := by rw [wp_wA (nn_inr (by rw [mL_4]; exact h) (by omega)), nn_N (by omega)]
theorem mL_5 : mL 5 = 8 := rfl
theorem wr_5 (h : i < 8) : wp (rA 5 (nn i) f) r Q ↔ wp (f (r.2.1 5 i)) r Q := by rw [wp_rA (nn_inr (by rw [mL_5]; exact h) (by omega)), nn_N (by omega)]
theorem ww_5 (h : i < 8) : wp (wA 5 (nn i) v P) r Q ↔ wp P (sA r 5 i v) Q := by rw [wp_wA (nn_inr (by rw [mL_5]; exact h) (by omega)), nn_N (by omega)]
theorem mL_6 : mL 6 = 3280 := rfl
theorem wr_6 (h : i < 3280) : wp (rA 6 (nn i) f) r Q ↔ wp (f (r.2.1 6 i)) r Q := by rw [wp_rA (nn_inr (by rw [mL_6]; exact h) (by omega)), nn_N (by omega)]
theorem ww_6 (h : i < 3280) : wp (wA 6 (nn i) v P) r Q ↔ wp P (sA r 6 i v) Q := by rw [wp_wA (nn_inr (by rw [mL_6]; exact h) (by omega)), nn_N (by omega)]
theorem mL_7 : mL 7 = 8 := rfl
theorem wr_7 (h : i < 8) : wp (rA 7 (nn i) f) r Q ↔ wp (f (r.2.1 7 i)) r Q := by rw [wp_rA (nn_inr (by rw [mL_7]; exact h) (by omega)), nn_N (by omega)]
theorem ww_7 (h : i < 8) : wp (wA 7 (nn i) v P) r Q ↔ wp P (sA r 7 i v) Q := by rw [wp_wA (nn_inr (by rw [mL_7]; exact h) (by omega)), nn_N (by omega)]
theorem mL_8 : mL 8 = 8 := rfl
theorem wr_8 (h : i < 8) : wp (rA 8 (nn i) f) r Q ↔ wp (f (r.2.1 8 i)) r Q := by rw [wp_rA (nn_inr (by rw [mL_8]; exact h) (by omega)), nn_N (by omega)]
theorem ww_8 (h : i < 8) : wp (wA 8 (nn i) v P) r Q ↔ wp P (sA r 8 i v) Q := by rw [wp_wA (nn_inr (by rw [mL_8]; exact h) (by omega)), nn_N (by omega)]
theorem mL_9 : mL 9 = 32 := rfl
theorem wr_9 (h : i < 32) : wp (rA 9 (nn i) f) r Q ↔ wp (f (r.2.1 9 i)) r Q := by rw [wp_rA (nn_inr (by rw [mL_9]; exact h) (by omega)), nn_N (by omega)]
theorem ww_9 (h : i < 32) : wp (wA 9 (nn i) v P) r Q ↔ wp P (sA r 9 i v) Q := by rw [wp_wA (nn_inr (by rw [mL_9]; exact h) (by omega)), nn_N (by omega)]
theorem mL_10 : mL 10 = 2048 := rfl
theorem wr_10 (h : i < 2048) : wp (rA 10 (nn i) f) r Q ↔ wp (f (r.2.1 10 i)) r Q := by rw [wp_rA (nn_inr (by rw [mL_10]; exact h) (by omega)), nn_N (by omega)]
theorem ww_10 (h : i < 2048) : wp (wA 10 (nn i) v P) r Q ↔ wp P (sA r 10 i v) Q := by rw [wp_wA (nn_inr (by rw [mL_10]; exact h) (by omega)), nn_N (by omega)]
theorem mL_11 : mL 11 = 12 := rfl
theorem wr_11 (h : i < 12) : wp (rA 11 (nn i) f) r Q ↔ wp (f (r.2.1 11 i)) r Q := by rw [wp_rA (nn_inr (by rw [mL_11]; exact h) (by omega)), nn_N (by omega)]
theorem ww_11 (h : i < 12) : wp (wA 11 (nn i) v P) r Q ↔ wp P (sA r 11 i v) Q := by rw [wp_wA (nn_inr (by rw [mL_11]; exact h) (by omega)), nn_N (by omega)]
theorem mL_12 : mL 12 = 12 := rfl
theorem wr_12 (h : i < 12) : wp (rA 12 (nn i) f) r Q ↔ wp (f (r.2.1 12 i)) r Q := by rw [wp_rA (nn_inr (by rw [mL_12]; exact h) (by omega)), nn_N (by omega)]
theorem ww_12 (h : i < 12) : wp (wA 12 (nn i) v P) r Q ↔ wp P (sA r 12 i v) Q := by rw [wp_wA (nn_inr (by rw [mL_12]; exact h) (by omega)), nn_N (by omega)]
theorem mL_13 : mL 13 = 12 := rfl
theorem wr_13 (h : i < 12) : wp (rA 13 (nn i) f) r Q ↔ wp (f (r.2.1 13 i)) r Q := by rw [wp_rA (nn_inr (by rw [mL_13]; exact h) (by omega)), nn_N (by omega)]
theorem ww_13 (h : i < 12) : wp (wA 13 (nn i) v P) r Q ↔ wp P (sA r 13 i v) Q := by rw [wp_wA (nn_inr (by rw [mL_13]; exact h) (by omega)), nn_N (by omega)]
theorem mL_14 : mL 14 = 240 := rfl
theorem wr_14 (h : i < 240) : wp (rA 14 (nn i) f) r Q ↔ wp (f (r.2.1 14 i)) r Q := by rw [wp_rA (nn_inr (by rw [mL_14]; exact h) (by omega)), nn_N (by omega)]
theorem ww_14 (h : i < 240) : wp (wA 14 (nn i) v P) r Q ↔ wp P (sA r 14 i v) Q := by rw [wp_wA (nn_inr (by rw [mL_14]; exact h) (by omega)), nn_N (by omega)]
theorem mL_15 : mL 15 = 12 := rfl
theorem wr_15 (h : i < 12) : wp (rA 15 (nn i) f) r Q ↔ wp (f (r.2.1 15 i)) r Q := by rw [wp_rA (nn_inr (by rw [mL_15]; exact h) (by omega)), nn_N (by omega)]
theorem ww_15 (h : i < 12) : wp (wA 15 (nn i) v P) r Q ↔ wp P (sA r 15 i v) Q := by rw [wp_wA (nn_inr (by rw [mL_15]; exact h) (by omega)), nn_N (by omega)]
theorem mL_16 : mL 16 = 12 := rfl
theorem wr_16 (h : i < 12) : wp (rL 16 (nn i) g) r Q ↔ wp (g (r.2.2 16 i)) r Q := by rw [wp_rL (nn_inr (by rw [mL_16]; exact h) (by omega)), nn_N (by omega)]
theorem ww_16 (h : i < 12) : wp (wL 16 (nn i) u P) r Q ↔ wp P (sL r 16 i u) Q := by rw [wp_wL (nn_inr (by rw [mL_16]; exact h) (by omega)), nn_N (by omega)]
theorem mL_17 : mL 17 = 12 := rfl
theorem wr_17 (h : i < 12) : wp (rA 17 (nn i) f) r Q ↔ wp (f (r.2.1 17 i)) r Q := by rw [wp_rA (nn_inr (by rw [mL_17]; exact h) (by omega)), nn_N (by omega)]
theorem ww_17 (h : i < 12) : wp (wA 17 (nn i) v P) r Q ↔ wp P (sA r 17 i v) Q := by rw [wp_wA (nn_inr (by rw [mL_17]; exact h) (by omega)), nn_N (by omega)]
theorem mL_18 : mL 18 = 12 := rfl
theorem wr_18 (h : i < 12) : wp (rL 18 (nn i) g) r Q ↔ wp (g (r.2.2 18 i)) r Q := by rw [wp_rL (nn_inr (by rw [mL_18]; exact h) (by omega)), nn_N (by omega)]
theorem ww_18 (h : i < 12) : wp (wL 18 (nn i) u P) r Q ↔ wp P (sL r 18 i u) Q := by rw [wp_wL (nn_inr (by rw [mL_18]; exact h) (by omega)), nn_N (by omega)]
theorem mL_19 : mL 19 = 12 := rfl
theorem wr_19 (h : i < 12) : wp (rA 19 (nn i) f) r Q ↔ wp (f (r.2.1 19 i)) r Q := by rw [wp_rA (nn_inr (by rw [mL_19]; exact h) (by omega)), nn_N (by omega)]
theorem ww_19 (h : i < 12) : wp (wA 19 (nn i) v P) r Q ↔ wp P (sA r 19 i v) Q := by rw [wp_wA (nn_inr (by rw [mL_19]; exact h) (by omega)), nn_N (by omega)]
theorem mL_20 : mL 20 = 12 := rfl
theorem wr_20 (h : i < 12) : wp (rA 20 (nn i) f) r Q ↔ wp (f (r.2.1 20 i)) r Q := by rw [wp_rA (nn_inr (by rw [mL_20]; exact h) (by omega)), nn_N (by omega)]
theorem ww_20 (h : i < 12) : wp (wA 20 (nn i) v P) r Q ↔ wp P (sA r 20 i v) Q := by rw [wp_wA (nn_inr (by rw [mL_20]; exact h) (by omega)), nn_N (by omega)]
theorem mL_21 : mL 21 = 12 := rfl
theorem wr_21 (h : i < 12) : wp (rL 21 (nn i) g) r Q ↔ wp (g (r.2.2 21 i)) r Q := by rw [wp_rL (nn_inr (by rw [mL_21]; exact h) (by omega)), nn_N (by omega)]
theorem ww_21 (h : i < 12) : wp (wL 21 (nn i) u P) r Q ↔ wp P (sL r 21 i u) Q := by rw [wp_wL (nn_inr (by rw [mL_21]; exact h) (by omega)), nn_N (by omega)]
theorem mL_22 : mL 22 = 12 := rfl
theorem wr_22 (h : i < 12) : wp (rL 22 (nn i) g) r Q ↔ wp (g (r.2.2 22 i)) r Q := by rw [wp_rL (nn_inr (by rw [mL_22]; exact h) (by omega)), nn_N (by omega)]
theorem ww_22 (h : i < 12) : wp (wL 22 (nn i) u P) r Q ↔ wp P (sL r 22 i u) Q := by rw [wp_wL (nn_inr (by rw [mL_22]; exact h) (by omega)), nn_N (by omega)]
theorem mL_23 : mL 23 = 12 := rfl
theorem wr_23 (h : i < 12) : wp (rL 23 (nn i) g) r Q ↔ wp (g (r.2.2 23 i)) r Q := by rw [wp_rL (nn_inr (by rw [mL_23]; exact h) (by omega)), nn_N (by omega)]
theorem ww_23 (h : i < 12) : wp (wL 23 (nn i) u P) r Q ↔ wp P (sL r 23 i u) Q := by rw [wp_wL (nn_inr (by rw [mL_23]; exact h) (by omega)), nn_N (by omega)]
theorem mL_24 : mL 24 = 12 := rfl
theorem wr_24 (h : i < 12) : wp (rA 24 (nn i) f) r Q ↔ wp (f (r.2.1 24 i)) r Q := by rw [wp_rA (nn_inr (by rw [mL_24]; exact h) (by omega)), nn_N (by omega)]
theorem ww_24 (h : i < 12) : wp (wA 24 (nn i) v P) r Q ↔ wp P (sA r 24 i v) Q := by rw [wp_wA (nn_inr (by rw [mL_24]; exact h) (by omega)), nn_N (by omega)]
theorem mL_25 : mL 25 = 96 := rfl
theorem wr_25 (h : i < 96) : wp (rA 25 (nn i) f) r Q ↔ wp (f (r.2.1 25 i)) r Q := by rw [wp_rA (nn_inr (by rw [mL_25]; exact h) (by omega)), nn_N (by omega)]
theorem ww_25 (h : i < 96) : wp (wA 25 (nn i) v P) r Q ↔ wp P (sA r 25 i v) Q := by rw [wp_wA (nn_inr (by rw [mL_25]; exact h) (by omega)), nn_N (by omega)]
theorem mL_26 : mL 26 = 6144 := rfl
theorem wr_26 (h : i < 6144) : wp (rA 26 (nn i) f) r Q ↔ wp (f (r.2.1 26 i)) r Q := by rw [wp_rA (nn_inr (by rw [mL_26]; exact h) (by omega)), nn_N (by omega)]
theorem ww_26 (h : i < 6144) : wp (wA 26 (nn i) v P) r Q ↔ wp P (sA r 26 i v) Q := by rw [wp_wA (nn_inr (by rw [mL_26]; exact h) (by omega)), nn_N (by omega)]
theorem mL_27 : mL 27 = 96 := rfl
theorem wr_27 (h : i < 96) : wp (rA 27 (nn i) f) r Q ↔ wp (f (r.2.1 27 i)) r Q := by rw [wp_rA (nn_inr (by rw [mL_27]; exact h) (by omega)), nn_N (by omega)]
theorem ww_27 (h : i < 96) : wp (wA 27 (nn i) v P) r Q ↔ wp P (sA r 27 i v) Q := by rw [wp_wA (nn_inr (by rw [mL_27]; exact h) (by omega)), nn_N (by omega)]
theorem mL_28 : mL 28 = 96 := rfl
theorem wr_28 (h : i < 96) : wp (rA 28 (nn i) f) r Q ↔ wp (f (r.2.1 28 i)) r Q := by rw [wp_rA (nn_inr (by rw [mL_28]; exact h) (by omega)), nn_N (by omega)]
theorem ww_28 (h : i < 96) : wp (wA 28 (nn i) v P) r Q ↔ wp P (sA r 28 i v) Q := by rw [wp_wA (nn_inr (by rw [mL_28]; exact h) (by omega)), nn_N (by omega)]
theorem mL_29 : mL 29 = 96 := rfl
theorem wr_29 (h : i < 96) : wp (rA 29 (nn i) f) r Q ↔ wp (f (r.2.1 29 i)) r Q := by rw [wp_rA (nn_inr (by rw [mL_29]; exact h) (by omega)), nn_N (by omega)]
theorem ww_29 (h : i < 96) : wp (wA 29 (nn i) v P) r Q ↔ wp P (sA r 29 i v) Q := by rw [wp_wA (nn_inr (by rw [mL_29]; exact h) (by omega)), nn_N (by omega)]
theorem mL_30 : mL 30 = 96 := rfl
theorem wr_30 (h : i < 96) : wp (rA 30 (nn i) f) r Q ↔ wp (f (r.2.1 30 i)) r Q := by rw [wp_rA (nn_inr (by rw [mL_30]; exact h) (by omega)), nn_N (by omega)]
theorem ww_30 (h : i < 96) : wp (wA 30 (nn i) v P) r Q ↔ wp P (sA r 30 i v) Q := by rw [wp_wA (nn_inr (by rw [mL_30]; exact h) (by omega)), nn_N (by omega)]
theorem mL_31 : mL 31 = 12 := rfl
theorem wr_31 (h : i < 12) : wp (rA 31 (nn i) f) r Q ↔ wp (f (r.2.1 31 i)) r Q := by rw [wp_rA (nn_inr (by rw [mL_31]; exact h) (by omega)), nn_N (by omega)]
theorem ww_31 (h : i < 12) : wp (wA 31 (nn i) v P) r Q ↔ wp P (sA r 31 i v) Q := by rw [wp_wA (nn_inr (by rw [mL_31]; exact h) (by omega)), nn_N (by omega)]
theorem mL_32 : mL 32 = 192 := rfl
theorem wr_32 (h : i < 192) : wp (rA 32 (nn i) f) r Q ↔ wp (f (r.2.1 32 i)) r Q := by rw [wp_rA (nn_inr (by rw [mL_32]; exact h) (by omega)), nn_N (by omega)]
theorem ww_32 (h : i < 192) : wp (wA 32 (nn i) v P) r Q ↔ wp P (sA r 32 i v) Q := by rw [wp_wA (nn_inr (by rw [mL_32]; exact h) (by omega)), nn_N (by omega)]
theorem mL_33 : mL 33 = 192 := rfl
theorem wr_33 (h : i < 192) : wp (rA 33 (nn i) f) r Q ↔ wp (f (r.2.1 33 i)) r Q := by rw [wp_rA (nn_inr (by rw [mL_33]; exact h) (by omega)), nn_N (by omega)]
theorem ww_33 (h : i < 192) : wp (wA 33 (nn i) v P) r Q ↔ wp P (sA r 33 i v) Q := by rw [wp_wA (nn_inr (by rw [mL_33]; exact h) (by omega)), nn_N (by omega)]
theorem mL_34 : mL 34 = 192 := rfl
theorem wr_34 (h : i < 192) : wp (rA 34 (nn i) f) r Q ↔ wp (f (r.2.1 34 i)) r Q := by rw [wp_rA (nn_inr (by rw [mL_34]; exact h) (by omega)), nn_N (by omega)]
theorem ww_34 (h : i < 192) : wp (wA 34 (nn i) v P) r Q ↔ wp P (sA r 34 i v) Q := by rw [wp_wA (nn_inr (by rw [mL_34]; exact h) (by omega)), nn_N (by omega)]
theorem mL_35 : mL 35 = 192 := rfl
theorem wr_35 (h : i < 192) : wp (rA 35 (nn i) f) r Q ↔ wp (f (r.2.1 35 i)) r Q := by rw [wp_rA (nn_inr (by rw [mL_35]; exact h) (by omega)), nn_N (by omega)]
theorem ww_35 (h : i < 192) : wp (wA 35 (nn i) v P) r Q ↔ wp P (sA r 35 i v) Q := by rw [wp_wA (nn_inr (by rw [mL_35]; exact h) (by omega)), nn_N (by omega)]
theorem mL_36 : mL 36 = 192 := rfl
theorem wr_36 (h : i < 192) : wp (rA 36 (nn i) f) r Q ↔ wp (f (r.2.1 36 i)) r Q := by rw [wp_rA (nn_inr (by rw [mL_36]; exact h) (by omega)), nn_N (by omega)]
theorem ww_36 (h : i < 192) : wp (wA 36 (nn i) v P) r Q ↔ wp P (sA r 36 i v) Q := by rw [wp_wA (nn_inr (by rw [mL_36]; exact h) (by omega)), nn_N (by omega)]
theorem mL_37 : mL 37 = 192 := rfl
theorem wr_37 (h : i < 192) : wp (rA 37 (nn i) f) r Q ↔ wp (f (r.2.1 37 i)) r Q := by rw [wp_rA (nn_inr (by rw [mL_37]; exact h) (by omega)), nn_N (by omega)]
theorem ww_37 (h : i < 192) : wp (wA 37 (nn i) v P) r Q ↔ wp P (sA r 37 i v) Q := by rw [wp_wA (nn_inr (by rw [mL_37]; exact h) (by omega)), nn_N (by omega)]
theorem mL_38 : mL 38 = 12 := rfl
theorem wr_38 (h : i < 12) : wp (rA 38 (nn i) f) r Q ↔ wp (f (r.2.1 38 i)) r Q := by rw [wp_rA (nn_inr (by rw [mL_38]; exact h) (by omega)), nn_N (by omega)]
theorem ww_38 (h : i < 12) : wp (wA 38 (nn i) v P) r Q ↔ wp P (sA r 38 i v) Q := by rw [wp_wA (nn_inr (by rw [mL_38]; exact h) (by omega)), nn_N (by omega)]
theorem mL_39 : mL 39 = 288 := rfl
theorem wr_39 (h : i < 288) : wp (rA 39 (nn i) f) r Q ↔ wp (f (r.2.1 39 i)) r Q := by rw [wp_rA (nn_inr (by rw [mL_39]; exact h) (by omega)), nn_N (by omega)]
theorem ww_39 (h : i < 288) : wp (wA 39 (nn i) v P) r Q ↔ wp P (sA r 39 i v) Q := by rw [wp_wA (nn_inr (by rw [mL_39]; exact h) (by omega)), nn_N (by omega)]
theorem mL_40 : mL 40 = 288 := rfl
theorem wr_40 (h : i < 288) : wp (rA 40 (nn i) f) r Q ↔ wp (f (r.2.1 40 i)) r Q := by rw [wp_rA (nn_inr (by rw [mL_40]; exact h) (by omega)), nn_N (by omega)]
theorem ww_40 (h : i < 288) : wp (wA 40 (nn i) v P) r Q ↔ wp P (sA r 40 i v) Q := by rw [wp_wA (nn_inr (by rw [mL_40]; exact h) (by omega)), nn_N (by omega)]
theorem mL_41 : mL 41 = 288 := rfl
theorem wr_41 (h : i < 288) : wp (rA 41 (nn i) f) r Q ↔ wp (f (r.2.1 41 i)) r Q := by rw [wp_rA (nn_inr (by rw [mL_41]; exact h) (by omega)), nn_N (by omega)]
theorem ww_41 (h : i < 288) : wp (wA 41 (nn i) v P) r Q ↔ wp P (sA r 41 i v) Q := by rw [wp_wA (nn_inr (by rw [mL_41]; exact h) (by omega)), nn_N (by omega)]
theorem mL_42 : mL 42 = 288 := rfl
theorem wr_42 (h : i < 288) : wp (rA 42 (nn i) f) r Q ↔ wp (f (r.2.1 42 i)) r Q := by rw [wp_rA (nn_inr (by rw [mL_42]; exact h) (by omega)), nn_N (by omega)]
theorem ww_42 (h : i < 288) : wp (wA 42 (nn i) v P) r Q ↔ wp P (sA r 42 i v) Q := by rw [wp_wA (nn_inr (by rw [mL_42]; exact h) (by omega)), nn_N (by omega)]
theorem mL_43 : mL 43 = 12 := rfl
theorem wr_43 (h : i < 12) : wp (rA 43 (nn i) f) r Q ↔ wp (f (r.2.1 43 i)) r Q := by rw [wp_rA (nn_inr (by rw [mL_43]; exact h) (by omega)), nn_N (by omega)]
theorem ww_43 (h : i < 12) : wp (wA 43 (nn i) v P) r Q ↔ wp P (sA r 43 i v) Q := by rw [wp_wA (nn_inr (by rw [mL_43]; exact h) (by omega)), nn_N (by omega)]
theorem mL_44 : mL 44 = 96 := rfl
theorem wr_44 (h : i < 96) : wp (rA 44 (nn i) f) r Q ↔ wp (f (r.2.1 44 i)) r Q := by rw [wp_rA (nn_inr (by rw [mL_44]; exact h) (by omega)), nn_N (by omega)]
theorem ww_44 (h : i < 96) : wp (wA 44 (nn i) v P) r Q ↔ wp P (sA r 44 i v) Q := by rw [wp_wA (nn_inr (by rw [mL_44]; exact h) (by omega)), nn_N (by omega)]
theorem mL_45 : mL 45 = 307200 := rfl
theorem wr_45 (h : i < 307200) : wp (rA 45 (nn i) f) r Q ↔ wp (f (r.2.1 45 i)) r Q := by rw [wp_rA (nn_inr (by rw [mL_45]; exact h) (by omega)), nn_N (by omega)]
theorem ww_45 (h : i < 307200) : wp (wA 45 (nn i) v P) r Q ↔ wp P (sA r 45 i v) Q := by rw [wp_wA (nn_inr (by rw [mL_45]; exact h) (by omega)), nn_N (by omega)]
theorem mL_46 : mL 46 = 640 := rfl
theorem wr_46 (h : i < 640) : wp (rA 46 (nn i) f) r Q ↔ wp (f (r.2.1 46 i)) r Q := by rw [wp_rA (nn_inr (by rw [mL_46]; exact h) (by omega)), nn_N (by omega)]
theorem ww_46 (h : i < 640) : wp (wA 46 (nn i) v P) r Q ↔ wp P (sA r 46 i v) Q := by rw [wp_wA (nn_inr (by rw [mL_46]; exact h) (by omega)), nn_N (by omega)]
theorem mL_47 : mL 47 = 640 := rfl
theorem wr_47 (h : i < 640) : wp (rA 47 (nn i) f) r Q ↔ wp (f (r.2.1 47 i)) r Q := by rw [wp_rA (nn_inr (by rw [mL_47]; exact h) (by omega)), nn_N (by omega)]
theorem ww_47 (h : i < 640) : wp (wA 47 (nn i) v P) r Q ↔ wp P (sA r 47 i v) Q := by rw [wp_wA (nn_inr (by rw [mL_47]; exact h) (by omega)), nn_N (by omega)]
theorem mL_48 : mL 48 = 640 := rfl
theorem wr_48 (h : i < 640) : wp (rA 48 (nn i) f) r Q ↔ wp (f (r.2.1 48 i)) r Q := by rw [wp_rA (nn_inr (by rw [mL_48]; exact h) (by omega)), nn_N (by omega)]
theorem ww_48 (h : i < 640) : wp (wA 48 (nn i) v P) r Q ↔ wp P (sA r 48 i v) Q := by rw [wp_wA (nn_inr (by rw [mL_48]; exact h) (by omega)), nn_N (by omega)]
theorem mL_49 : mL 49 = 640 := rfl
theorem wr_49 (h : i < 640) : wp (rA 49 (nn i) f) r Q ↔ wp (f (r.2.1 49 i)) r Q := by rw [wp_rA (nn_inr (by rw [mL_49]; exact h) (by omega)), nn_N (by omega)]
theorem ww_49 (h : i < 640) : wp (wA 49 (nn i) v P) r Q ↔ wp P (sA r 49 i v) Q := by rw [wp_wA (nn_inr (by rw [mL_49]; exact h) (by omega)), nn_N (by omega)]
theorem mL_50 : mL 50 = 640 := rfl
theorem wr_50 (h : i < 640) : wp (rL 50 (nn i) g) r Q ↔ wp (g (r.2.2 50 i)) r Q := by rw [wp_rL (nn_inr (by rw [mL_50]; exact h) (by omega)), nn_N (by omega)]
theorem ww_50 (h : i < 640) : wp (wL 50 (nn i) u P) r Q ↔ wp P (sL r 50 i u) Q := by rw [wp_wL (nn_inr (by rw [mL_50]; exact h) (by omega)), nn_N (by omega)]
theorem mL_51 : mL 51 = 640 := rfl
theorem wr_51 (h : i < 640) : wp (rA 51 (nn i) f) r Q ↔ wp (f (r.2.1 51 i)) r Q := by rw [wp_rA (nn_inr (by rw [mL_51]; exact h) (by omega)), nn_N (by omega)]
theorem ww_51 (h : i < 640) : wp (wA 51 (nn i) v P) r Q ↔ wp P (sA r 51 i v) Q := by rw [wp_wA (nn_inr (by rw [mL_51]; exact h) (by omega)), nn_N (by omega)]
theorem mL_52 : mL 52 = 640 := rfl
theorem wr_52 (h : i < 640) : wp (rA 52 (nn i) f) r Q ↔ wp (f (r.2.1 52 i)) r Q := by rw [wp_rA (nn_inr (by rw [mL_52]; exact h) (by omega)), nn_N (by omega)]
theorem ww_52 (h : i < 640) : wp (wA 52 (nn i) v P) r Q ↔ wp P (sA r 52 i v) Q := by rw [wp_wA (nn_inr (by rw [mL_52]; exact h) (by omega)), nn_N (by omega)]
theorem mL_53 : mL 53 = 640 := rfl
theorem wr_53 (h : i < 640) : wp (rA 53 (nn i) f) r Q ↔ wp (f (r.2.1 53 i)) r Q := by rw [wp_rA (nn_inr (by rw [mL_53]; exact h) (by omega)), nn_N (by omega)]
theorem ww_53 (h : i < 640) : wp (wA 53 (nn i) v P) r Q ↔ wp P (sA r 53 i v) Q := by rw [wp_wA (nn_inr (by rw [mL_53]; exact h) (by omega)), nn_N (by omega)]
theorem mL_54 : mL 54 = 640 := rfl
theorem wr_54 (h : i < 640) : wp (rA 54 (nn i) f) r Q ↔ wp (f (r.2.1 54 i)) r Q := by rw [wp_rA (nn_inr (by rw [mL_54]; exact h) (by omega)), nn_N (by omega)]
theorem ww_54 (h : i < 640) : wp (wA 54 (nn i) v P) r Q ↔ wp P (sA r 54 i v) Q := by rw [wp_wA (nn_inr (by rw [mL_54]; exact h) (by omega)), nn_N (by omega)]
theorem mL_55 : mL 55 = 640 := rfl
theorem wr_55 (h : i < 640) : wp (rA 55 (nn i) f) r Q ↔ wp (f (r.2.1 55 i)) r Q := by rw [wp_rA (nn_inr (by rw [mL_55]; exact h) (by omega)), nn_N (by omega)]
theorem ww_55 (h : i < 640) : wp (wA 55 (nn i) v P) r Q ↔ wp P (sA r 55 i v) Q := by rw [wp_wA (nn_inr (by rw [mL_55]; exact h) (by omega)), nn_N (by omega)]
theorem mL_56 : mL 56 = 640 := rfl
theorem wr_56 (h : i < 640) : wp (rA 56 (nn i) f) r Q ↔ wp (f (r.2.1 56 i)) r Q := by rw [wp_rA (nn_inr (by rw [mL_56]; exact h) (by omega)), nn_N (by omega)]
theorem ww_56 (h : i < 640) : wp (wA 56 (nn i) v P) r Q ↔ wp P (sA r 56 i v) Q := by rw [wp_wA (nn_inr (by rw [mL_56]; exact h) (by omega)), nn_N (by omega)]
theorem mL_57 : mL 57 = 640 := rfl
theorem wr_57 (h : i < 640) : wp (rA 57 (nn i) f) r Q ↔ wp (f (r.2.1 57 i)) r Q := by rw [wp_rA (nn_inr (by rw [mL_57]; exact h) (by omega)), nn_N (by omega)]
theorem ww_57 (h : i < 640) : wp (wA 57 (nn i) v P) r Q ↔ wp P (sA r 57 i v) Q := by rw [wp_wA (nn_inr (by rw [mL_57]; exact h) (by omega)), nn_N (by omega)]
theorem mL_58 : mL 58 = 640 := rfl
theorem wr_58 (h : i < 640) : wp (rA 58 (nn i) f) r Q ↔ wp (f (r.2.1 58 i)) r Q := by rw [wp_rA (nn_inr (by rw [mL_58]; exact h) (by omega)), nn_N (by omega)]
theorem ww_58 (h : i < 640) : wp (wA 58 (nn i) v P) r Q ↔ wp P (sA r 58 i v) Q := by rw [wp_wA (nn_inr (by rw [mL_58]; exact h) (by omega)), nn_N (by omega)]
theorem mL_59 : mL 59 = 640 := rfl
theorem wr_59 (h : i < 640) : wp (rA 59 (nn i) f) r Q ↔ wp (f (r.2.1 59 i)) r Q := by rw [wp_rA (nn_inr (by rw [mL_59]; exact h) (by omega)), nn_N (by omega)]
theorem ww_59 (h : i < 640) : wp (wA 59 (nn i) v P) r Q ↔ wp P (sA r 59 i v) Q := by rw [wp_wA (nn_inr (by rw [mL_59]; exact h) (by omega)), nn_N (by omega)]
theorem mL_60 : mL 60 = 640 := rfl
theorem wr_60 (h : i < 640) : wp (rA 60 (nn i) f) r Q ↔ wp (f (r.2.1 60 i)) r Q := by rw [wp_rA (nn_inr (by rw [mL_60]; exact h) (by omega)), nn_N (by omega)]
theorem ww_60 (h : i < 640) : wp (wA 60 (nn i) v P) r Q ↔ wp P (sA r 60 i v) Q := by rw [wp_wA (nn_inr (by rw [mL_60]; exact h) (by omega)), nn_N (by omega)]
theorem mL_61 : mL 61 = 640 := rfl
theorem wr_61 (h : i < 640) : wp (rA 61 (nn i) f) r Q ↔ wp (f (r.2.1 61 i)) r Q := by rw [wp_rA (nn_inr (by rw [mL_61]; exact h) (by omega)), nn_N (by omega)]
theorem ww_61 (h : i < 640) : wp (wA 61 (nn i) v P) r Q ↔ wp P (sA r 61 i v) Q := by rw [wp_wA (nn_inr (by rw [mL_61]; exact h) (by omega)), nn_N (by omega)]
theorem mL_62 : mL 62 = 640 := rfl
theorem wr_62 (h : i < 640) : wp (rA 62 (nn i) f) r Q ↔ wp (f (r.2.1 62 i)) r Q := by rw [wp_rA (nn_inr (by rw [mL_62]; exact h) (by omega)), nn_N (by omega)]
theorem ww_62 (h : i < 640) : wp (wA 62 (nn i) v P) r Q ↔ wp P (sA r 62 i v) Q := by rw [wp_wA (nn_inr (by rw [mL_62]; exact h) (by omega)), nn_N (by omega)]
theorem mL_63 : mL 63 = 640 := rfl
theorem wr_63 (h : i < 640) : wp (rA 63 (nn i) f) r Q ↔ wp (f (r.2.1 63 i)) r Q := by rw [wp_rA (nn_inr (by rw [mL_63]; exact h) (by omega)), nn_N (by omega)]
theorem ww_63 (h : i < 640) : wp (wA 63 (nn i) v P) r Q ↔ wp P (sA r 63 i v) Q := by rw [wp_wA (nn_inr (by rw [mL_63]; exact h) (by omega)), nn_N (by omega)]
theorem mL_64 : mL 64 = 16 := rfl
theorem wr_64 (h : i < 16) : wp (rA 64 (nn i) f) r Q ↔ wp (f (r.2.1 64 i)) r Q := by rw [wp_rA (nn_inr (by rw [mL_64]; exact h) (by omega)), nn_N (by omega)]
theorem ww_64 (h : i < 16) : wp (wA 64 (nn i) v P) r Q ↔ wp P (sA r 64 i v) Q := by rw [wp_wA (nn_inr (by rw [mL_64]; exact h) (by omega)), nn_N (by omega)]
theorem mL_82 : mL 82 = 64 := rfl
theorem wr_82 (h : i < 64) : wp (rA 82 (nn i) f) r Q ↔ wp (f (r.2.1 82 i)) r Q := by rw [wp_rA (nn_inr (by rw [mL_82]; exact h) (by omega)), nn_N (by omega)]
theorem ww_82 (h : i < 64) : wp (wA 82 (nn i) v P) r Q ↔ wp P (sA r 82 i v) Q := by rw [wp_wA (nn_inr (by rw [mL_82]; exact h) (by omega)), nn_N (by omega)]
theorem mL_83 : mL 83 = 64 := rfl
theorem wr_83 (h : i < 64) : wp (rL 83 (nn i) g) r Q ↔ wp (g (r.2.2 83 i)) r Q := by rw [wp_rL (nn_inr (by rw [mL_83]; exact h) (by omega)), nn_N (by omega)]
theorem ww_83 (h : i < 64) : wp (wL 83 (nn i) u P) r Q ↔ wp P (sL r 83 i u) Q := by rw [wp_wL (nn_inr (by rw [mL_83]; exact h) (by omega)), nn_N (by omega)]
theorem mL_84 : mL 84 = 64 := rfl
theorem wr_84 (h : i < 64) : wp (rA 84 (nn i) f) r Q ↔ wp (f (r.2.1 84 i)) r Q := by rw [wp_rA (nn_inr (by rw [mL_84]; exact h) (by omega)), nn_N (by omega)]
theorem ww_84 (h : i < 64) : wp (wA 84 (nn i) v P) r Q ↔ wp P (sA r 84 i v) Q := by rw [wp_wA (nn_inr (by rw [mL_84]; exact h) (by omega)), nn_N (by omega)]
theorem mL_85 : mL 85 = 64 := rfl
theorem wr_85 (h : i < 64) : wp (rA 85 (nn i) f) r Q ↔ wp (f (r.2.1 85 i)) r Q := by rw [wp_rA (nn_inr (by rw [mL_85]; exact h) (by omega)), nn_N (by omega)]
theorem ww_85 (h : i < 64) : wp (wA 85 (nn i) v P) r Q ↔ wp P (sA r 85 i v) Q := by rw [wp_wA (nn_inr (by rw [mL_85]; exact h) (by omega)), nn_N (by omega)]
theorem mL_86 : mL 86 = 410 := rfl
theorem wr_86 (h : i < 410) : wp (rA 86 (nn i) f) r Q ↔ wp (f (r.2.1 86 i)) r Q := by rw [wp_rA (nn_inr (by rw [mL_86]; exact h) (by omega)), nn_N (by omega)]
theorem ww_86 (h : i < 410) : wp (wA 86 (nn i) v P) r Q ↔ wp P (sA r 86 i v) Q := by rw [wp_wA (nn_inr (by rw [mL_86]; exact h) (by omega)), nn_N (by omega)]
theorem mL_88 : mL 88 = 1200 := rfl
theorem wr_88 (h : i < 1200) : wp (rA 88 (nn i) f) r Q ↔ wp (f (r.2.1 88 i)) r Q := by rw [wp_rA (nn_inr (by rw [mL_88]; exact h) (by omega)), nn_N (by omega)]
theorem ww_88 (h : i < 1200) : wp (wA 88 (nn i) v P) r Q ↔ wp P (sA r 88 i v) Q := by rw [wp_wA (nn_inr (by rw [mL_88]; exact h) (by omega)), nn_N (by omega)]
theorem mL_90 : mL 90 = 1200 := rfl
theorem wr_90 (h : i < 1200) : wp (rA 90 (nn i) f) r Q ↔ wp (f (r.2.1 90 i)) r Q := by rw [wp_rA (nn_inr (by rw [mL_90]; exact h) (by omega)), nn_N (by omega)]
theorem ww_90 (h : i < 1200) : wp (wA 90 (nn i) v P) r Q ↔ wp P (sA r 90 i v) Q := by rw [wp_wA (nn_inr (by rw [mL_90]; exact h) (by omega)), nn_N (by omega)]
theorem mL_92 : mL 92 = 410 := rfl
theorem wr_92 (h : i < 410) : wp (rA 92 (nn i) f) r Q ↔ wp (f (r.2.1 92 i)) r Q := by rw [wp_rA (nn_inr (by rw [mL_92]; exact h) (by omega)), nn_N (by omega)]
theorem ww_92 (h : i < 410) : wp (wA 92 (nn i) v P) r Q ↔ wp P (sA r 92 i v) Q := by rw [wp_wA (nn_inr (by rw [mL_92]; exact h) (by omega)), nn_N (by omega)]
theorem mL_93 : mL 93 = 410 := rfl
theorem wr_93 (h : i < 410) : wp (rA 93 (nn i) f) r Q ↔ wp (f (r.2.1 93 i)) r Q := by rw [wp_rA (nn_inr (by rw [mL_93]; exact h) (by omega)), nn_N (by omega)]
theorem ww_93 (h : i < 410) : wp (wA 93 (nn i) v P) r Q ↔ wp P (sA r 93 i v) Q := by rw [wp_wA (nn_inr (by rw [mL_93]; exact h) (by omega)), nn_N (by omega)]
theorem mL_94 : mL 94 = 410 := rfl
theorem wr_94 (h : i < 410) : wp (rA 94 (nn i) f) r Q ↔ wp (f (r.2.1 94 i)) r Q := by rw [wp_rA (nn_inr (by rw [mL_94]; exact h) (by omega)), nn_N (by omega)]
theorem ww_94 (h : i < 410) : wp (wA 94 (nn i) v P) r Q ↔ wp P (sA r 94 i v) Q := by rw [wp_wA (nn_inr (by rw [mL_94]; exact h) (by omega)), nn_N (by omega)]
theorem mL_95 : mL 95 = 410 := rfl
theorem wr_95 (h : i < 410) : wp (rA 95 (nn i) f) r Q ↔ wp (f (r.2.1 95 i)) r Q := by rw [wp_rA (nn_inr (by rw [mL_95]; exact h) (by omega)), nn_N (by omega)]
theorem ww_95 (h : i < 410) : wp (wA 95 (nn i) v P) r Q ↔ wp P (sA r 95 i v) Q := by rw [wp_wA (nn_inr (by rw [mL_95]; exact h) (by omega)), nn_N (by omega)]
theorem mL_96 : mL 96 = 410 := rfl
theorem wr_96 (h : i < 410) : wp (rA 96 (nn i) f) r Q ↔ wp (f (r.2.1 96 i)) r Q := by rw [wp_rA (nn_inr (by rw [mL_96]; exact h) (by omega)), nn_N (by omega)]
theorem ww_96 (h : i < 410) : wp (wA 96 (nn i) v P) r Q ↔ wp P (sA r 96 i v) Q := by rw [wp_wA (nn_inr (by rw [mL_96]; exact h) (by omega)), nn_N (by omega)]
theorem mL_97 : mL 97 = 64 := rfl
theorem wr_97 (h : i < 64) : wp (rA 97 (nn i) f) r Q ↔ wp (f (r.2.1 97 i)) r Q := by rw [wp_rA (nn_inr (by rw [mL_97]; exact h) (by omega)), nn_N (by omega)]
theorem ww_97 (h : i < 64) : wp (wA 97 (nn i) v P) r Q ↔ wp P (sA r 97 i v) Q := by rw [wp_wA (nn_inr (by rw [mL_97]; exact h) (by omega)), nn_N (by omega)]
end MAR
