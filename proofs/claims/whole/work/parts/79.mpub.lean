/-! ===== the model: a packet is wrapped; a message's packet ===== -/
theorem qm_wrap_body {r : RS} {ps bs : List Nat} (hp : PK r ps) (hb : BD r bs) (hl : ps.length + bs.length ≤ 1200) : wp (R_wrap_L48 (R_wrap_J84) fu (0 : Int32)) r (fun _ r' => PK r' (ps ++ bs) ∧ Ro [88, 89] r r') := by
  refine up_loop (L := fun n l => R_wrap_L48 (R_wrap_J84) n l) (fun i r' => PK r' (ps ++ bs.take i) ∧ Ro [88, 89] r r') bs.length ?_ ?_ bs.length 0 fu r (by omega) (by unfold fu; omega) ⟨by rw [List.take_zero, List.append_nil]; exact hp, Ro.rf⟩
  · intro n i r' hi ⟨p, w⟩ kk
    show wp (R_wrap_B48 _ _ (nn i)) r' _
    unfold R_wrap_B48
    have e91 : r'.1 91 = nn bs.length := (w 91 (by decide)).1.trans hb.1
    have e90 : r'.2.1 90 i = sb (bs.getD i 0) := by
      rw [(w 90 (by decide)).2.1]
      have := hb.2.1 i hi
      rwa [Nat.zero_add] at this
    have hlen : (ps ++ bs.take i).length = ps.length + i := by rw [List.length_append, List.length_take]; omega
    have p1 := p.1
    rw [hlen] at p1
    rw [wp_rI, e91, wp_neg (by rw [nn_le (by omega) (by omega)]; omega), wp_rI, wp_wI, p1, wr_90 (by omega), ww_88 (by omega)]
    show wp (R_wrap_L48 _ n (nn i + 1)) _ _
    rw [l_1, nn_add]
    refine kk _ ⟨⟨?_, ?_, ?_⟩, (w.i (by decide)).a (by decide)⟩
    · rw [sA_1, sI_1, if_pos rfl, nn_add, List.length_append, List.length_take]
      congr 1
      omega
    · rw [take_snoc hi, ← List.append_assoc]
      refine p.2.1.snoc ?_ (fun k hk => ?_)
      · rw [sA_2, if_pos ⟨rfl, by omega⟩, sI_2, e90, nar_sb (hb.2.2.at i)]
      · rw [sA_2, if_neg (by omega), sI_2]
    · rw [take_snoc hi, ← List.append_assoc]
      exact p.2.2.app (By.one (hb.2.2.at i))
  · intro n r' ⟨p, w⟩
    show wp (R_wrap_B48 _ _ (nn bs.length)) r' _
    unfold R_wrap_B48
    have e91 : r'.1 91 = nn bs.length := (w 91 (by decide)).1.trans hb.1
    rw [wp_rI, e91, wp_pos (by rw [nn_le (by omega) (by omega)]; omega)]
    unfold R_wrap_J84
    rw [wp_rt]
    rw [List.take_length] at p
    exact ⟨p, w⟩
theorem PK.zero {r : RS} : PK (sI r 89 (0 : Int32)) [] := ⟨by rw [sI_1, if_pos rfl]; rfl, Mg.nil, By.nil⟩
theorem BD.zero {r : RS} : BD (sI r 91 (0 : Int32)) [] := ⟨by rw [sI_1, if_pos rfl]; rfl, Mg.nil, By.nil⟩
theorem BD.ro {S : List Nat} {r r' : RS} {bs : List Nat} (b : BD r bs) (w : Ro S r r') (h1 : 90 ∉ S) (h2 : 91 ∉ S) : BD r' bs := ⟨(w 91 h2).1.trans b.1, by rw [(w 90 h1).2.1]; exact b.2.1, b.2.2⟩
theorem PK.ro {S : List Nat} {r r' : RS} {bs : List Nat} (b : PK r bs) (w : Ro S r r') (h1 : 88 ∉ S) (h2 : 89 ∉ S) : PK r' bs := ⟨(w 89 h2).1.trans b.1, by rw [(w 88 h1).2.1]; exact b.2.1, b.2.2⟩
theorem qm_wrap {r : RS} {bs : List Nat} {v : Int32} (hb : BD r bs) (hl : bs.length ≤ 1000) : wp (R_wrap v) r (fun _ r' => PK r' (lo8 v :: (vb 4 bs.length ++ bs)) ∧ Ro [88, 89] r r') := by
  unfold R_wrap
  have w0 : Ro [88, 89] r (sI r 89 (0 : Int32)) := Ro.rf.i (by decide)
  rw [wp_wI, wp_bd]
  refine (qm_put (bs := []) PK.zero (by simp)).mono (fun _ r1 z1 => ?_)
  have w1 : Ro [88, 89] r r1 := w0.tr z1.2
  have b1 : BD r1 bs := hb.ro w1 (by decide) (by decide)
  rw [wp_rI, b1.1]
  obtain ⟨fl, hfl⟩ : ∃ n, fu = n + 2 := ⟨4998, rfl⟩
  rw [hfl]
  show wp (R_wrap_B15 _ _ (nn bs.length)) r1 _
  unfold R_wrap_B15
  by_cases h1 : bs.length < 128
  · rw [l_127, wp_pos (by rw [nn_le (by omega) (by omega)]; omega)]
    unfold R_wrap_J41
    dsimp only
    rw [wp_bd]
    refine (qm_put z1.1 (by simp)).mono (fun _ r2 z2 => ?_)
    have e : lo8 (nn bs.length) = bs.length := by rw [lo8_nn (by omega)]; omega
    have z2' := z2.1
    rw [e] at z2'
    have w2 := w1.tr z2.2
    refine (qm_wrap_body z2' (hb.ro w2 (by decide) (by decide)) (by simp; omega)).mono (fun _ r3 z3 => ⟨?_, w2.tr z3.2⟩)
    rw [vb, if_pos h1]
    simpa using z3.1
  · rw [l_127, wp_neg (by rw [nn_le (by omega) (by omega)]; omega), ← l_127, and127 (by omega), or128 _ (by omega), shr7 (by omega), wp_bd]
    refine (qm_put z1.1 (by simp)).mono (fun _ r2 z2 => ?_)
    have e : lo8 (nn (bs.length % 128 + 128)) = bs.length % 128 + 128 := by rw [lo8_nn (by omega)]; omega
    have z2' := z2.1
    rw [e] at z2'
    rw [wp_lq]
    show wp (R_wrap_B15 _ _ (nn (bs.length / 128))) r2 _
    unfold R_wrap_B15
    rw [l_127, wp_pos (by rw [nn_le (by omega) (by omega)]; omega)]
    unfold R_wrap_J41
    dsimp only
    rw [wp_bd]
    refine (qm_put z2' (by simp)).mono (fun _ r3 z3 => ?_)
    have e3 : lo8 (nn (bs.length / 128)) = bs.length / 128 := by rw [lo8_nn (by omega)]; omega
    have z3' := z3.1
    rw [e3] at z3'
    have w3 := (w1.tr z2.2).tr z3.2
    refine (qm_wrap_body z3' (hb.ro w3 (by decide) (by decide)) (by simp; omega)).mono (fun _ r4 z4 => ⟨?_, w3.tr z4.2⟩)
    rw [vb, if_neg h1, vb, if_pos (by omega)]
    simpa using z4.1
/-- bytes of the store go into the body -/
theorem qm_part_loop {r : RS} {o : Nat} {ps bs : List Nat} (hp : BD r ps) (hm : Mg (r.2.1 45) o bs) (hy : By bs) (ho : o + bs.length ≤ 307200) (hl : ps.length + bs.length ≤ 1200) : wp (R_part_L26 (R_part_J51) fu (nn o) (nn bs.length) (0 : Int32)) r (fun _ r' => BD r' (ps ++ bs) ∧ Ro [90, 91] r r') := by
  refine up_loop (L := fun n l => R_part_L26 (R_part_J51) n (nn o) (nn bs.length) l) (fun i r' => BD r' (ps ++ bs.take i) ∧ Ro [90, 91] r r') bs.length ?_ ?_ bs.length 0 fu r (by omega) (by unfold fu; omega) ⟨by rw [List.take_zero, List.append_nil]; exact hp, Ro.rf⟩
  · intro n i r' hi ⟨p, w⟩ kk
    show wp (R_part_B26 _ _ (nn o) (nn bs.length) (nn i)) r' _
    unfold R_part_B26
    have e45 : r'.2.1 45 (o + i) = sb (bs.getD i 0) := by
      rw [(w 45 (by decide)).2.1]
      exact hm i hi
    rw [wp_neg (by rw [nn_le (by omega) (by omega)]; omega), nn_add, wr_45 (by omega), e45, wp_bd]
    refine (qm_byte p (by rw [List.length_append, List.length_take]; omega)).mono (fun _ r1 z => ?_)
    show wp (R_part_L26 _ n (nn o) (nn bs.length) (nn i + 1)) _ _
    rw [l_1, nn_add]
    refine kk _ ⟨?_, w.tr z.2⟩
    have z1 := z.1
    rw [lo8_sb (hy.at i)] at z1
    rw [take_snoc hi, ← List.append_assoc]
    exact z1
  · intro n r' ⟨p, w⟩
    show wp (R_part_B26 _ _ (nn o) (nn bs.length) (nn bs.length)) r' _
    unfold R_part_B26
    rw [wp_pos (by rw [nn_le (by omega) (by omega)]; omega)]
    unfold R_part_J51
    rw [wp_rt]
    rw [List.take_length] at p
    exact ⟨p, w⟩
theorem qm_part {r : RS} {j key fa fs : Nat} {l ps : List Nat} (hj : j < 640) (hk : key < 128) (hp : BD r ps) (hx : Prt r j key fa fs l) (hy : By l) (hl : ps.length + l.length ≤ 1200) : ∀ v, v = r.2.1 fa j → wp (R_part (nn key) v (r.2.1 fs j)) r (fun _ r' => BD r' (ps ++ l) ∧ Ro [90, 91] r r') := by
  intro v hv
  unfold R_part
  rcases hx with ⟨h1, h2⟩ | ⟨bs, ⟨o, l1, l2, l3, l4, l5⟩, hb, h2⟩
  · rw [h1, wp_neg (by decide), wp_rt, h2, List.append_nil]
    exact ⟨hp, Ro.rf⟩
  · rw [hv, l1, l2, wp_pos (nn_ge (by omega)), shr8 (by omega), wp_bd]
    rw [h2] at hl
    simp only [List.length_cons] at hl
    refine (qm_byte hp (by omega)).mono (fun _ r1 z1 => ?_)
    rw [wp_bd]
    refine (qm_byte z1.1 (by simp; omega)).mono (fun _ r2 z2 => ?_)
    rw [wp_bd]
    refine (qm_byte z2.1 (by simp; omega)).mono (fun _ r3 z3 => ?_)
    have w3 := (z1.2.tr z2.2).tr z3.2
    have hyb : By bs := fun b hb => hy b (by rw [h2]; simp [hb])
    refine (qm_part_loop z3.1 (o := o) (bs := bs) (by rw [(w3 45 (by decide)).2.1]; exact l3) hyb (by omega) (by simp; omega)).mono (fun _ r4 z4 => ⟨?_, w3.tr z4.2⟩)
    have e1 : lo8 (nn key) = key := by rw [lo8_nn (by omega)]; omega
    have e2 : lo8 (nn (bs.length / 256)) = bs.length / 256 := by rw [lo8_nn (by omega)]; omega
    have e3 : lo8 (nn bs.length) = bs.length % 256 := by rw [lo8_nn (by omega)]
    have z4' := z4.1
    rw [e1, e2, e3] at z4'
    rw [h2]
    simpa using z4'
