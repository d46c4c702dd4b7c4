/-! ===== the model: the packet of a message ===== -/
theorem qm_cp31 {r : RS} {s j q fl id num ag o : Nat} {ps bs : List Nat} {Q : Int32 → RS → Prop} {ke : Int32 → Int32 → Int32 → Int32 → Int32 → Int32 → Int32 → RS → Option (Int32 × RS)} (hj : j < 640) (hp : BD r ps) (h46 : r.2.1 46 j = nn bs.length) (ho480 : o = 480 * j) (hm : Mg (r.2.1 45) o bs) (hy : By bs) (ho : o + bs.length ≤ 307200) (hl : ps.length + bs.length ≤ 1200) (kk0 : ∀ r', BD r' (ps ++ bs) → Ro [90, 91] r r' → wp (ke (nn s) (nn j) (nn q) (nn fl) (nn id) (nn num) (nn ag)) r' Q) : wp (R_sendPublish_L31 ke fu (nn s) (nn j) (nn q) (nn fl) (nn id) (nn num) (nn ag) (0 : Int32)) r Q := by
  refine up_loop (L := fun n l => R_sendPublish_L31 ke n (nn s) (nn j) (nn q) (nn fl) (nn id) (nn num) (nn ag) l) (fun i r' => BD r' (ps ++ bs.take i) ∧ Ro [90, 91] r r') bs.length ?_ ?_ bs.length 0 fu r (by omega) (by unfold fu; omega) ⟨by rw [List.take_zero, List.append_nil]; exact hp, Ro.rf⟩
  · intro n i r' hi ⟨p, w⟩ kk
    show wp (R_sendPublish_B31 _ ke (nn s) (nn j) (nn q) (nn fl) (nn id) (nn num) (nn ag) (nn i)) r' _
    unfold R_sendPublish_B31
    have e45 : r'.2.1 45 (o + i) = sb (bs.getD i 0) := by
      rw [(w 45 (by decide)).2.1]
      exact hm i hi
    have e46 : r'.2.1 46 j = nn bs.length := by rw [(w 46 (by decide)).2.1]; exact h46
    rw [wr_46 hj, e46, wp_neg (by rw [nn_le (by omega) (by omega)]; omega), l_480, nn_mul, nn_add, ← ho480, wr_45 (by omega), e45, wp_bd]
    refine (qm_byte p (by rw [List.length_append, List.length_take]; omega)).mono (fun _ r1 z => ?_)
    show wp (R_sendPublish_L31 ke n (nn s) (nn j) (nn q) (nn fl) (nn id) (nn num) (nn ag) (nn i + 1)) _ _
    rw [l_1, nn_add]
    refine kk _ ⟨?_, w.tr z.2⟩
    have z1 := z.1
    rw [lo8_sb (hy.at i)] at z1
    rw [take_snoc hi, ← List.append_assoc]
    exact z1
  · intro n r' ⟨p, w⟩
    show wp (R_sendPublish_B31 _ ke (nn s) (nn j) (nn q) (nn fl) (nn id) (nn num) (nn ag) (nn bs.length)) r' _
    unfold R_sendPublish_B31
    have e46 : r'.2.1 46 j = nn bs.length := by rw [(w 46 (by decide)).2.1]; exact h46
    rw [wr_46 hj, e46, wp_pos (by rw [nn_le (by omega) (by omega)]; omega)]
    rw [List.take_length] at p
    exact kk0 r' p w
theorem qm_cp416 {r : RS} {s j q fl ag o : Nat} {ps bs : List Nat} {Q : Int32 → RS → Prop} {ke : Int32 → Int32 → Int32 → Int32 → Int32 → RS → Option (Int32 × RS)} (hj : j < 640) (hp : BD r ps) (h58 : r.2.1 58 j = nn o) (hm : Mg (r.2.1 45) o bs) (hy : By bs) (ho : o + bs.length ≤ 307200) (hl : ps.length + bs.length ≤ 1200) (kk0 : ∀ r', BD r' (ps ++ bs) → Ro [90, 91] r r' → wp (ke (nn s) (nn j) (nn q) (nn fl) (nn ag)) r' Q) : wp (R_sendPublish_L416 ke fu (nn s) (nn j) (nn q) (nn fl) (nn ag) (nn bs.length) (0 : Int32)) r Q := by
  refine up_loop (L := fun n l => R_sendPublish_L416 ke n (nn s) (nn j) (nn q) (nn fl) (nn ag) (nn bs.length) l) (fun i r' => BD r' (ps ++ bs.take i) ∧ Ro [90, 91] r r') bs.length ?_ ?_ bs.length 0 fu r (by omega) (by unfold fu; omega) ⟨by rw [List.take_zero, List.append_nil]; exact hp, Ro.rf⟩
  · intro n i r' hi ⟨p, w⟩ kk
    show wp (R_sendPublish_B416 _ ke (nn s) (nn j) (nn q) (nn fl) (nn ag) (nn bs.length) (nn i)) r' _
    unfold R_sendPublish_B416
    have e45 : r'.2.1 45 (o + i) = sb (bs.getD i 0) := by
      rw [(w 45 (by decide)).2.1]
      exact hm i hi
    have e58 : r'.2.1 58 j = nn o := by rw [(w 58 (by decide)).2.1]; exact h58
    rw [wp_neg (by rw [nn_le (by omega) (by omega)]; omega), wr_58 hj, e58, nn_add, wr_45 (by omega), e45, wp_bd]
    refine (qm_byte p (by rw [List.length_append, List.length_take]; omega)).mono (fun _ r1 z => ?_)
    show wp (R_sendPublish_L416 ke n (nn s) (nn j) (nn q) (nn fl) (nn ag) (nn bs.length) (nn i + 1)) _ _
    rw [l_1, nn_add]
    refine kk _ ⟨?_, w.tr z.2⟩
    have z1 := z.1
    rw [lo8_sb (hy.at i)] at z1
    rw [take_snoc hi, ← List.append_assoc]
    exact z1
  · intro n r' ⟨p, w⟩
    show wp (R_sendPublish_B416 _ ke (nn s) (nn j) (nn q) (nn fl) (nn ag) (nn bs.length) (nn bs.length)) r' _
    unfold R_sendPublish_B416
    have e58 : r'.2.1 58 j = nn o := by rw [(w 58 (by decide)).2.1]; exact h58
    rw [wp_pos (by rw [nn_le (by omega) (by omega)]; omega)]
    rw [List.take_length] at p
    exact kk0 r' p w
theorem qm_cp450 {r : RS} {s j q fl ag o : Nat} {ps bs : List Nat} {Q : Int32 → RS → Prop} {ke : Int32 → Int32 → Int32 → Int32 → RS → Option (Int32 × RS)} (hj : j < 640) (hp : BD r ps) (h47 : r.2.1 47 j = nn o) (h48 : r.2.1 48 j = nn bs.length) (hm : Mg (r.2.1 45) o bs) (hy : By bs) (ho : o + bs.length ≤ 307200) (hl : ps.length + bs.length ≤ 1200) (kk0 : ∀ r', BD r' (ps ++ bs) → Ro [90, 91] r r' → wp (ke (nn s) (nn q) (nn fl) (nn ag)) r' Q) : wp (R_sendPublish_L450 ke fu (nn s) (nn j) (nn q) (nn fl) (nn ag) (0 : Int32)) r Q := by
  refine up_loop (L := fun n l => R_sendPublish_L450 ke n (nn s) (nn j) (nn q) (nn fl) (nn ag) l) (fun i r' => BD r' (ps ++ bs.take i) ∧ Ro [90, 91] r r') bs.length ?_ ?_ bs.length 0 fu r (by omega) (by unfold fu; omega) ⟨by rw [List.take_zero, List.append_nil]; exact hp, Ro.rf⟩
  · intro n i r' hi ⟨p, w⟩ kk
    show wp (R_sendPublish_B450 _ ke (nn s) (nn j) (nn q) (nn fl) (nn ag) (nn i)) r' _
    unfold R_sendPublish_B450
    have e45 : r'.2.1 45 (o + i) = sb (bs.getD i 0) := by
      rw [(w 45 (by decide)).2.1]
      exact hm i hi
    have e48 : r'.2.1 48 j = nn bs.length := by rw [(w 48 (by decide)).2.1]; exact h48
    have e47 : r'.2.1 47 j = nn o := by rw [(w 47 (by decide)).2.1]; exact h47
    rw [wr_48 hj, e48, wp_neg (by rw [nn_le (by omega) (by omega)]; omega), wr_47 hj, e47, nn_add, wr_45 (by omega), e45, wp_bd]
    refine (qm_byte p (by rw [List.length_append, List.length_take]; omega)).mono (fun _ r1 z => ?_)
    show wp (R_sendPublish_L450 ke n (nn s) (nn j) (nn q) (nn fl) (nn ag) (nn i + 1)) _ _
    rw [l_1, nn_add]
    refine kk _ ⟨?_, w.tr z.2⟩
    have z1 := z.1
    rw [lo8_sb (hy.at i)] at z1
    rw [take_snoc hi, ← List.append_assoc]
    exact z1
  · intro n r' ⟨p, w⟩
    show wp (R_sendPublish_B450 _ ke (nn s) (nn j) (nn q) (nn fl) (nn ag) (nn bs.length)) r' _
    unfold R_sendPublish_B450
    have e48 : r'.2.1 48 j = nn bs.length := by rw [(w 48 (by decide)).2.1]; exact h48
    have e47 : r'.2.1 47 j = nn o := by rw [(w 47 (by decide)).2.1]; exact h47
    rw [wr_48 hj, e48, wp_pos (by rw [nn_le (by omega) (by omega)]; omega)]
    rw [List.take_length] at p
    exact kk0 r' p w
