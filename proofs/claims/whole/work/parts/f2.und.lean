/-! ===== a subscription is taken out ===== -/
section UND
variable {x ec es s b n k u w w' q : Nat} {e0 : Int32} {h h' : Hp} {r r' r1 : RS} {ys bs : List Nat}
theorem Sub.mv2 (c : Sub x h r 96 w u) (hw : w < 96) (S : SubT x h u ys k) (p : Sto x h h') (hi : ∀ f ∈ [1102, 1103, 1104, 1105], hfi h' f u = hfi h f u) (hr : ∀ f ∈ [25, 27, 28, 29, 30], r'.2.1 f w' = r.2.1 f w) (h26 : Mg (r'.2.1 26) (64 * w') ys) : Sub x h' r' 96 w' u := by
  obtain ⟨bs, st, o, id, c1, ⟨c2, c3⟩, c4, c5, c6, c7⟩ := c
  have eb := c1.inj S
  refine ⟨bs, st, o, id, c1.sto p, ⟨by rw [hr 25 (by decide)]; exact c2, by rw [eb]; exact h26⟩, ⟨by rw [hi 1102 (by decide)]; exact c4.1, by rw [hr 27 (by decide)]; exact c4.2.1, c4.2.2⟩, ⟨by rw [hi 1103 (by decide)]; exact c5.1, by rw [hr 28 (by decide)]; exact c5.2.1, c5.2.2⟩, by rw [hi 1104 (by decide), hr 29 (by decide)]; exact c6, fun z _ => ?_⟩
  rw [hi 1105 (by decide), hr 30 (by decide)]
  exact c7 z (by omega)
/-- where the place q of now was -/
def sg (k q : Nat) : Nat := if q < k then q else q + 1
def uF : List Nat := [25, 27, 28, 29, 30]
/-- the model's shift, up to place q -/
def UsI (s n k q : Nat) (W : Nat → List Nat) (r r1 : RS) : Prop := Ho s 8 r r1 ∧ Ro [25, 26, 27, 28, 29, 30] r r1 ∧ (∀ z, z < q → (∀ f ∈ uF, r1.2.1 f (8 * s + z) = r.2.1 f (8 * s + sg k z)) ∧ Mg (r1.2.1 26) (64 * (8 * s + z)) (W (sg k z))) ∧ ∀ z, q ≤ z → z < n → (∀ f ∈ uF, r1.2.1 f (8 * s + z) = r.2.1 f (8 * s + z)) ∧ Mg (r1.2.1 26) (64 * (8 * s + z)) (W z)
theorem ow8 {f z : Nat} (hf : f ∈ uF) (hz : z < 8) : Pm s 8 f (8 * s + z) := by
  simp only [uF, List.mem_cons, List.not_mem_nil, or_false] at hf
  refine Or.inr (Or.inl ⟨by omega, by omega, ?_⟩)
  unfold ow
  rw [if_neg (by omega), if_neg (by omega), if_pos (by omega)]
  omega
theorem qm_undo {W : Nat → List Nat} (hs : s < 12) (hn : r.2.1 24 s = nn n) (hn2 : n ≤ 8) (hk : k < n) (hW : ∀ z, z < n → r.2.1 25 (8 * s + z) = nn (W z).length ∧ Mg (r.2.1 26) (64 * (8 * s + z)) (W z) ∧ By (W z) ∧ (W z).length ≤ 64) :
    ∃ r', R_unsubscribeOne (nn s) (nn k) r = some ((), r') ∧ Ho s 8 r r' ∧ Ro [24, 25, 26, 27, 28, 29, 30] r r' ∧ r'.2.1 24 s = nn (n - 1) ∧ ∀ z, z < n - 1 → (∀ f ∈ uF, r'.2.1 f (8 * s + z) = r.2.1 f (8 * s + sg k z)) ∧ Mg (r'.2.1 26) (64 * (8 * s + z)) (W (sg k z)) := by
  have key : ∀ (c q f : Nat) (r1 : RS), q + c = n - 1 → c < f → k ≤ q → UsI s n k q W r r1 → ∃ r2, R_unsubscribeOne_L2 (fun l1 => R_unsubscribeOne_J157 l1) f (nn s) (nn q) r1 = R_unsubscribeOne_J157 (nn s) r2 ∧ UsI s n k (n - 1) W r r2 := by
    intro c
    induction c with
    | zero =>
      intro q f r1 hq hf hkq I
      obtain ⟨f', rfl⟩ : ∃ z, f = z + 1 := ⟨f - 1, by omega⟩
      refine ⟨r1, ?_, by rw [← show q = n - 1 by omega]; exact I⟩
      show R_unsubscribeOne_B2 _ _ (nn s) (nn q) r1 = _
      unfold R_unsubscribeOne_B2
      rw [x_rA mL_24 hs (by omega), I.2.1.gA (by decide), hn, l_1, nn_add, if_pos (by rw [nn_le (by omega) (by omega)]; omega)]
    | succ c ih =>
      intro q f r1 hq hf hkq I
      obtain ⟨f', rfl⟩ : ∃ z, f = z + 1 := ⟨f - 1, by omega⟩
      obtain ⟨i1, i2, i3, i4⟩ := I
      obtain ⟨j1, j2⟩ := i4 (q + 1) (by omega) (by omega)
      obtain ⟨w1, w2, w3, w4⟩ := hW (q + 1) (by omega)
      have e25 : r1.2.1 25 (8 * s + q + 1) = nn (W (q + 1)).length := by
        rw [show 8 * s + q + 1 = 8 * s + (q + 1) by omega, j1 25 (by decide)]
        exact w1
      obtain ⟨ra, era⟩ : ∃ z, z = sA r1 25 (8 * s + q) (nn (W (q + 1)).length) := ⟨_, rfl⟩
      have ja : Mg (ra.2.1 26) (64 * (8 * s + q + 1)) (W (q + 1)) := by
        rw [era, sA_o (by decide), show 8 * s + q + 1 = 8 * s + (q + 1) by omega]
        exact j2
      obtain ⟨rb, eb, Cb⟩ := cp_loop (K := 26) (r := ra) (l := 64 * (8 * s + q)) (ys := W (q + 1)) (L := fun f v => R_unsubscribeOne_L41 (fun l1 l3 l4 => R_unsubscribeOne_J87 (fun l1 l3 => R_unsubscribeOne_L2 (fun l1 => R_unsubscribeOne_J157 l1) f' l1 l3) (fun l1 => R_unsubscribeOne_J157 l1) l1 l3 l4) f (nn s) (nn q) (nn (8 * s + q)) v) (E := R_unsubscribeOne_J87 (fun l1 l3 => R_unsubscribeOne_L2 (fun l1 => R_unsubscribeOne_J157 l1) f' l1 l3) (fun l1 => R_unsubscribeOne_J157 l1) (nn s) (nn q) (nn (8 * s + q))) (fun f z r2 hz C => by
        have b256 := w3.at z
        show R_unsubscribeOne_B41 _ _ (nn s) (nn q) (nn (8 * s + q)) (nn z) r2 = _
        unfold R_unsubscribeOne_B41
        have c25 : r2.2.1 25 (8 * s + q) = nn (W (q + 1)).length := by rw [C.ro.gA (by decide), era, sA_2, if_pos ⟨rfl, rfl⟩]
        have c26 : r2.2.1 26 (64 * (8 * s + q + 1) + z) = sb ((W (q + 1)).getD z 0) := by
          rw [C.2.2 _ (Or.inr (by rw [List.length_take]; omega))]
          exact ja z hz
        rw [x_rA mL_25 (by omega) (by omega), c25, if_neg (by rw [nn_le (by omega) (by omega)]; omega), l_1, nn_add, l_64, nn_mul, nn_add, x_rA mL_26 (by omega) (by omega), c26, nn_mul, nn_add, x_wA mL_26 (by omega) (by omega), nar_sb b256, nn_add]) (fun f r2 C => by
        show R_unsubscribeOne_B41 _ _ (nn s) (nn q) (nn (8 * s + q)) (nn (W (q + 1)).length) r2 = _
        unfold R_unsubscribeOne_B41
        have c25 : r2.2.1 25 (8 * s + q) = nn (W (q + 1)).length := by rw [C.ro.gA (by decide), era, sA_2, if_pos ⟨rfl, rfl⟩]
        rw [x_rA mL_25 (by omega) (by omega), c25, if_pos (Int32.le_refl _)]) (by omega)
      obtain ⟨rc, erc⟩ : ∃ z, z = sA (sA (sA (sA rb 27 (8 * s + q) (rb.2.1 27 (8 * s + q + 1))) 28 (8 * s + q) (rb.2.1 28 (8 * s + q + 1))) 29 (8 * s + q) (rb.2.1 29 (8 * s + q + 1))) 30 (8 * s + q) (rb.2.1 30 (8 * s + q + 1)) := ⟨_, rfl⟩
      have st0 : R_unsubscribeOne_L2 (fun l1 => R_unsubscribeOne_J157 l1) (f' + 1) (nn s) (nn q) r1 = R_unsubscribeOne_L2 (fun l1 => R_unsubscribeOne_J157 l1) f' (nn s) (nn (q + 1)) rc := by
        show R_unsubscribeOne_B2 _ _ (nn s) (nn q) r1 = _
        unfold R_unsubscribeOne_B2 lq
        rw [x_rA mL_24 hs (by omega), i2.gA (by decide), hn, l_1, nn_add, if_neg (by rw [nn_le (by omega) (by omega)]; omega), l_8, nn_mul, nn_add]
        dsimp only
        rw [nn_add, x_rA mL_25 (by omega) (by omega), e25, x_wA mL_25 (by omega) (by omega), ← era]
        refine Eq.trans eb ?_
        unfold R_unsubscribeOne_J87
        rw [l_1, nn_add, x_rA mL_27 (by omega) (by omega), x_wA mL_27 (by omega) (by omega), x_rA mL_28 (by omega) (by omega), sA_o (by decide), x_wA mL_28 (by omega) (by omega), x_rA mL_29 (by omega) (by omega), sA_o (by decide), sA_o (by decide), x_wA mL_29 (by omega) (by omega), x_rA mL_30 (by omega) (by omega), sA_o (by decide), sA_o (by decide), sA_o (by decide), x_wA mL_30 (by omega) (by omega), ← erc, nn_add]
      rw [st0]
      have ho : Ho s 8 r1 rc := by
        have h1 : Ho s 8 r1 ra := by
          rw [era]
          exact Ho.rf.a (ow8 (by decide) (by omega))
        have h2 : Ho s 8 ra rb := Cb.ho (fun z y1 y2 => Or.inr (Or.inl ⟨by omega, by omega, by
          unfold ow
          rw [if_neg (by omega), if_pos rfl]
          omega⟩))
        have h3 : Ho s 8 rb rc := by
          rw [erc]
          exact (((Ho.rf.a (ow8 (by decide) (by omega))).a (ow8 (by decide) (by omega))).a (ow8 (by decide) (by omega))).a (ow8 (by decide) (by omega))
        exact h1.tr (h2.tr h3)
      have ro : Ro [25, 26, 27, 28, 29, 30] r1 rc := by
        have h1 : Ro [25, 26, 27, 28, 29, 30] r1 ra := by
          rw [era]
          exact Ro.rf.a (by decide)
        have h3 : Ro [25, 26, 27, 28, 29, 30] rb rc := by
          rw [erc]
          exact (((Ro.rf.a (by decide)).a (by decide)).a (by decide)).a (by decide)
        exact h1.tr ((Cb.ro.sub (by decide)).tr h3)
      -- other places
      have oth : ∀ f, f ∈ uF → ∀ z, z ≠ q → rc.2.1 f (8 * s + z) = r1.2.1 f (8 * s + z) := by
        intro f hf z hz
        have f26 : f ≠ 26 := by
          simp only [uF, List.mem_cons, List.not_mem_nil, or_false] at hf
          omega
        rw [erc, sA_2, if_neg (by omega), sA_2, if_neg (by omega), sA_2, if_neg (by omega), sA_2, if_neg (by omega), Cb.1.2.2 f f26, era, sA_2, if_neg (by omega)]
      have oth26 : ∀ z y, z ≠ q → y < 64 → rc.2.1 26 (64 * (8 * s + z) + y) = r1.2.1 26 (64 * (8 * s + z) + y) := by
        intro z y hz hy
        rw [erc, sA_o (by decide), sA_o (by decide), sA_o (by decide), sA_o (by decide), Cb.2.2 _ (by omega), era, sA_o (by decide)]
      have own : ∀ f, f ∈ uF → rc.2.1 f (8 * s + q) = r1.2.1 f (8 * s + (q + 1)) := by
        intro f hf
        have eq1 : 8 * s + (q + 1) = 8 * s + q + 1 := by omega
        have rbo : ∀ g, g ≠ 25 → g ≠ 26 → rb.2.1 g = r1.2.1 g := fun g h1 h2 => by rw [Cb.1.2.2 g h2, era, sA_o h1]
        simp only [uF, List.mem_cons, List.not_mem_nil, or_false] at hf
        rcases hf with z | z | z | z | z <;> subst z
        · rw [erc, sA_o (by decide), sA_o (by decide), sA_o (by decide), sA_o (by decide), Cb.1.2.2 25 (by decide), era, sA_2, if_pos ⟨rfl, rfl⟩, eq1, e25]
        · rw [erc, sA_o (by decide), sA_o (by decide), sA_o (by decide), sA_2, if_pos ⟨rfl, rfl⟩, rbo 27 (by decide) (by decide), eq1]
        · rw [erc, sA_o (by decide), sA_o (by decide), sA_2, if_pos ⟨rfl, rfl⟩, rbo 28 (by decide) (by decide), eq1]
        · rw [erc, sA_o (by decide), sA_2, if_pos ⟨rfl, rfl⟩, rbo 29 (by decide) (by decide), eq1]
        · rw [erc, sA_2, if_pos ⟨rfl, rfl⟩, rbo 30 (by decide) (by decide), eq1]
      refine ih (q + 1) f' rc (by omega) (by omega) (by omega) ⟨i1.tr ho, i2.tr ro, fun z hz => ?_, fun z hz1 hz2 => ?_⟩
      · by_cases y : z = q
        · subst y
          have esg : sg k z = z + 1 := by
            unfold sg
            rw [if_neg (by omega)]
          rw [esg]
          refine ⟨fun f hf => by rw [own f hf, j1 f hf], ?_⟩
          rw [erc, sA_o (by decide), sA_o (by decide), sA_o (by decide), sA_o (by decide)]
          exact Cb.2.1
        · obtain ⟨y1, y2⟩ := i3 z (by omega)
          have wl : (W (sg k z)).length ≤ 64 := by
            refine (hW (sg k z) ?_).2.2.2
            unfold sg
            split <;> omega
          exact ⟨fun f hf => by rw [oth f hf z y, y1 f hf], y2.of (fun y3 hy3 => oth26 z y3 y (by omega))⟩
      · obtain ⟨y1, y2⟩ := i4 z (by omega) hz2
        have wl := (hW z hz2).2.2.2
        exact ⟨fun f hf => by rw [oth f hf z (by omega), y1 f hf], y2.of (fun y3 hy3 => oth26 z y3 (by omega) (by omega))⟩
  obtain ⟨r2, e2, i1, i2, i3, i4⟩ := key (n - 1 - k) k fu r (by omega) (by unfold fu; omega) (Nat.le_refl _) ⟨Ho.rf, Ro.rf, fun z hz => by
    have esg : sg k z = z := by
      unfold sg
      rw [if_pos hz]
    rw [esg]
    exact ⟨fun _ _ => rfl, (hW z (by omega)).2.1⟩, fun z h1 h2 => ⟨fun _ _ => rfl, (hW z h2).2.1⟩⟩
  refine ⟨sA r2 24 s (nn (n - 1)), ?_, ?_, (i2.sub (by decide)).a (by decide), by rw [sA_2, if_pos ⟨rfl, rfl⟩], fun z hz => ?_⟩
  · refine Eq.trans e2 ?_
    unfold R_unsubscribeOne_J157
    rw [x_rA mL_24 hs (by omega), i2.gA (by decide), hn, l_1, nn_sub (by omega), x_wA mL_24 hs (by omega)]
    rfl
  · refine i1.a (Or.inr (Or.inl ⟨by omega, by omega, ?_⟩))
    unfold ow
    rw [if_neg (by omega), if_neg (by omega), if_neg (by omega), if_neg (by omega), if_neg (by omega)]
  · obtain ⟨y1, y2⟩ := i3 z hz
    exact ⟨fun f hf => by
      have : f ≠ 24 := by
        simp only [uF, List.mem_cons, List.not_mem_nil, or_false] at hf
        omega
      rw [sA_o this, y1 f hf], by rw [sA_o (by decide)]; exact y2⟩
/-- the class's shift -/
def udH (h : Hp) (b n k : Nat) : Hp := sar (sfi h 1004 b (nn (n - 1))) (b + 1) (va_up (disF (har h (b + 1)) k (n - 1)) (n - 1) none)
theorem qc_undo (T : SesT x h s b) (hn : hfi h 1004 b = nn n) (hn2 : n ≤ 8) (hk : k < n) (hu : ∀ q, q < n → ∃ u, har h (b + 1) q = some u ∧ hkd h u = 12) : (hgI 10 4 (some b) fun v9 => hpI 10 4 (some b) (v9 - (1 : Int32)) <| C_X8_unsubscribe_L38 b (C_X8_unsubscribe_J66 b) fu (nn k)) h = some (0, udH h b n k) := by
  have sb1 := T.2.2.2.2.1
  have e3 : hfr h (100 * 10 + 3) b = some (b + 1) := sb1.1
  have key : ∀ (c q f : Nat), q + c = n - 1 → c < f → k ≤ q → C_X8_unsubscribe_L38 b (C_X8_unsubscribe_J66 b) f (nn q) (sar (sfi h 1004 b (nn (n - 1))) (b + 1) (disF (har h (b + 1)) k q)) = some (0, udH h b n k) := by
    intro c
    induction c with
    | zero =>
      intro q f hq hf hkq
      obtain ⟨f', rfl⟩ : ∃ z, f = z + 1 := ⟨f - 1, by omega⟩
      have eq1 : q = n - 1 := by omega
      subst eq1
      show C_X8_unsubscribe_B38 b _ _ (nn (n - 1)) _ = _
      unfold C_X8_unsubscribe_B38 C_X8_unsubscribe_J66
      have e4 : hfi (sar (sfi h 1004 b (nn (n - 1))) (b + 1) (disF (har h (b + 1)) k (n - 1))) (100 * 10 + 4) b = nn (n - 1) := by
        rw [hfi_sar, hfi_sfi, if_pos ⟨rfl, rfl⟩]
      rw [e_gI (c := 10) (by exact T.1), e4, if_pos (Int32.le_refl _), e_gR (c := 10) (by exact T.1), show hfr (sar (sfi h 1004 b (nn (n - 1))) (b + 1) (disF (har h (b + 1)) k (n - 1))) (100 * 10 + 3) b = some (b + 1) from e3, e_gI (c := 10) (by exact T.1), e4, e_Wr (t := 6) (c := 11) (by exact sb1.2.1) (nn_inr (by show n - 1 < hln h (b + 1); rw [sb1.2.2]; omega) (by omega)) rfl, nn_N (by omega), har_sar, if_pos rfl, sar_sar]
      rfl
    | succ c ih =>
      intro q f hq hf hkq
      obtain ⟨f', rfl⟩ : ∃ z, f = z + 1 := ⟨f - 1, by omega⟩
      have e4 : hfi (sar (sfi h 1004 b (nn (n - 1))) (b + 1) (disF (har h (b + 1)) k q)) (100 * 10 + 4) b = nn (n - 1) := by
        rw [hfi_sar, hfi_sfi, if_pos ⟨rfl, rfl⟩]
      obtain ⟨u, hu1, hu2⟩ := hu (q + 1) (by omega)
      have ea : har (sar (sfi h 1004 b (nn (n - 1))) (b + 1) (disF (har h (b + 1)) k q)) (b + 1) (q + 1) = some u := by
        rw [har_sar, if_pos rfl]
        unfold disF
        rw [if_neg (by omega)]
        exact hu1
      have es : va_up (disF (har h (b + 1)) k q) q (some u) = disF (har h (b + 1)) k (q + 1) := by
        funext o
        show (if o = q then some u else disF (har h (b + 1)) k q o) = _
        unfold disF
        by_cases g : o = q
        · rw [if_pos g, if_pos (by omega), g, hu1]
        · rw [if_neg g]
          by_cases g2 : k ≤ o ∧ o < q
          · rw [if_pos g2, if_pos (by omega)]
          · rw [if_neg g2, if_neg (by omega)]
      show C_X8_unsubscribe_B38 b _ _ (nn q) _ = _
      unfold C_X8_unsubscribe_B38
      rw [e_gI (c := 10) (by exact T.1), e4, if_neg (by rw [nn_le (by omega) (by omega)]; omega), e_gR (c := 10) (by exact T.1), show hfr (sar (sfi h 1004 b (nn (n - 1))) (b + 1) (disF (har h (b + 1)) k q)) (100 * 10 + 3) b = some (b + 1) from e3, e_gR (c := 10) (by exact T.1), show hfr (sar (sfi h 1004 b (nn (n - 1))) (b + 1) (disF (har h (b + 1)) k q)) (100 * 10 + 3) b = some (b + 1) from e3, l_1, nn_add, e_Ar (t := 6) (by exact sb1.2.1) (nn_inr (by show q + 1 < hln h (b + 1); rw [sb1.2.2]; omega) (by omega)), nn_N (by omega), ea, e_Wr (t := 6) (c := 11) (by exact sb1.2.1) (nn_inr (by show q < hln h (b + 1); rw [sb1.2.2]; omega) (by omega)) (by show (hkd h u == 11 + 1) = true; rw [hu2]; rfl), nn_N (by omega), har_sar, if_pos rfl, sar_sar, es]
      exact ih (q + 1) f' (by omega) (by omega) (by omega)
  have d0 : disF (har h (b + 1)) k k = har h (b + 1) := by
    funext o
    unfold disF
    rw [if_neg (by omega)]
  rw [e_gI (c := 10) T.1, show hfi h (100 * 10 + 4) b = nn n from hn, l_1, nn_sub (by omega), e_pI (c := 10) T.1]
  have := key (n - 1 - k) k fu (by omega) (by unfold fu; omega) (Nat.le_refl _)
  rw [d0] at this
  have es : sar (sfi h 1004 b (nn (n - 1))) (b + 1) (har h (b + 1)) = sfi h 1004 b (nn (n - 1)) := sar_self (h := sfi h 1004 b (nn (n - 1)))
  rw [es] at this
  exact this
/-- the relation after it -/
theorem Rel.sbd {W : Nat → List Nat} (R : Rel x ec es 96 e0 h r) (hs : s < 12) (hb : har h (x + 34) s = some b) (hn : r.2.1 24 s = nn n) (hn2 : n ≤ 8) (hk : k < n) (hW : ∀ z, z < n → ∃ u st, har h (b + 1) z = some u ∧ SubT x h u (W z) st) (wx : Ho s 8 r r') (wr : Ro [24, 25, 26, 27, 28, 29, 30] r r') (m24 : r'.2.1 24 s = nn (n - 1)) (hz : ∀ z, z < n - 1 → (∀ f ∈ uF, r'.2.1 f (8 * s + z) = r.2.1 f (8 * s + sg k z)) ∧ Mg (r'.2.1 26) (64 * (8 * s + z)) (W (sg k z))) : Rel x ec es 96 e0 (udH h b n k) r' ∧ Fm x [1004] (fun a => a = b + 1) h (udH h b n k) := by
  have T := R.st
  have hx := T.1
  have Sb := R.ses hs hb
  have hb2 := Sb.1.2.1
  have hb4 := Sb.1.2.2.1
  have US := R.2.2.2.2.2.2.1
  obtain ⟨n', q1, q2, q3, q4, q5⟩ := Sb.2.2.2.2.1
  have en : n' = n := nn_inj (by omega) (by omega) (q3.symm.trans hn)
  subst en
  obtain ⟨h1, eh1⟩ : ∃ z, z = udH h b n' k := ⟨_, rfl⟩
  rw [← eh1]
  have p0 : Fm x [1004] (fun a => a = b + 1) h h1 := by
    rw [eh1]
    unfold udH
    exact Fm.ar (Fm.fi Fm.rf (Or.inl (by decide)) (Or.inl (by decide))) (Or.inl rfl) (by omega)
  have p : Fm x [1004, 1102, 1103] (fun a => a = b + 1) h h1 := p0.sub (by decide) (fun _ z => z)
  have px : Hx x b 8 h h1 := by
    rw [eh1]
    unfold udH
    exact Hx.ar (Hx.fi Hx.rf (Or.inl (Or.inl ⟨rfl, by omega, by omega⟩)) (Or.inl (by decide))) (Or.inl (Or.inl ⟨by omega, by omega⟩)) (by omega)
  have sgl : ∀ z, z < n' - 1 → sg k z < n' := fun z hz' => by
    unfold sg
    split <;> omega
  have sgi : ∀ z z', sg k z = sg k z' → z = z' := fun z z' hh => by
    unfold sg at hh
    split at hh <;> split at hh <;> omega
  have eb1 : ∀ z, z < n' - 1 → har h1 (b + 1) z = har h (b + 1) (sg k z) := fun z hz' => by
    rw [eh1]
    unfold udH
    rw [har_sar, if_pos rfl]
    show (if z = n' - 1 then none else disF (har h (b + 1)) k (n' - 1) z) = _
    rw [if_neg (by omega)]
    unfold disF sg
    by_cases g : z < k
    · rw [if_neg (by omega), if_pos g]
    · rw [if_pos (by omega), if_neg g]
  have fi1 : ∀ f, f ≠ 1004 → ∀ u, hfi h1 f u = hfi h f u := fun f hf u => by
    rw [eh1]
    unfold udH
    rw [hfi_sar, hfi_sfi, if_neg (fun z => hf z.1)]
  refine ⟨R.sbs hs hb p px (wr.sub (by decide)) wx ⟨n' - 1, by omega, ?_, m24, fun k' hk' => ?_, ?_⟩ (fun u' hu' => Or.inr (fun f hf => fi1 f (fun y => by subst y; exact absurd hf (by decide)) u')) (fun k' u' g1 g2 => ?_) (fun k1 k2 u' g1 g2 g3 g4 => ?_), p0⟩
  · rw [eh1]
    unfold udH
    rw [hfi_sar, hfi_sfi, if_pos ⟨rfl, rfl⟩]
  · obtain ⟨u', c1, c2⟩ := q4 (sg k k') (sgl k' hk')
    obtain ⟨u2, st2, d1, d2⟩ := hW (sg k k') (sgl k' hk')
    have eu : u2 = u' := Option.some.inj (d1.symm.trans c1)
    subst eu
    obtain ⟨y1, y2⟩ := hz k' hk'
    have := sgl k' hk'
    exact ⟨u2, by rw [eb1 k' hk']; exact c1, c2.mv2 (by omega) d2 p.1 (fun f hf => fi1 f (fun y => by subst y; exact absurd hf (by decide)) u2) y1 y2⟩
  · intro k1 k2 u1 u2 bs st1 st2 a1 a2 a3 a4 a5 a6
    rw [eb1 k1 a1] at a3
    rw [eb1 k2 a2] at a4
    have bk : ∀ z u' st', z < n' → har h (b + 1) z = some u' → SubT x h1 u' bs st' → ∃ st0, SubT x h u' bs st0 := by
      intro z u' st' y1 y2 y3
      obtain ⟨u3, st3, d1, d2⟩ := hW z y1
      have eu : u3 = u' := Option.some.inj (d1.symm.trans y2)
      subst eu
      have := (d2.sto p.1).inj y3
      exact ⟨st3, by rw [← this]; exact d2⟩
    obtain ⟨s1, d1⟩ := bk _ u1 st1 (sgl k1 a1) a3 a5
    obtain ⟨s2, d2⟩ := bk _ u2 st2 (sgl k2 a2) a4 a6
    exact sgi k1 k2 (q5 _ _ u1 u2 bs s1 s2 (sgl k1 a1) (sgl k2 a2) a3 a4 d1 d2)
  · rw [m24, iN_nn (by omega)] at g1
    rw [eb1 k' g1] at g2
    exact Or.inr ⟨sg k k', by rw [hn, iN_nn (by omega)]; exact sgl k' g1, g2⟩
  · rw [m24, iN_nn (by omega)] at g1 g2
    rw [eb1 k1 g1] at g3
    rw [eb1 k2 g2] at g4
    exact sgi k1 k2 (US s s b b _ _ u' hs hs hb hb (by rw [hn, iN_nn (by omega)]; exact sgl k1 g1) (by rw [hn, iN_nn (by omega)]; exact sgl k2 g2) g3 g4).2
end UND
