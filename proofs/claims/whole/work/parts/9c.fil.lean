/-! ===== filters: the model ===== -/
theorem wr_g {ρ : Type} {r : RS} {Q : ρ → RS → Prop} {f0 p : Nat} {f : Int32 → RS → Option (ρ × RS)} (h : p < mL f0) (h2 : p < 2147483648) : wp (rA f0 (nn p) f) r Q ↔ wp (f (r.2.1 f0 p)) r Q := by
  rw [wp_rA (nn_inr h h2), nn_N h2]
theorem pre_iff {bs : List Nat} : pre bs = true ↔ (7 ≤ bs.length ∧ bs.getD 0 0 = 36 ∧ bs.getD 1 0 = 115 ∧ bs.getD 2 0 = 104 ∧ bs.getD 3 0 = 97 ∧ bs.getD 4 0 = 114 ∧ bs.getD 5 0 = 101 ∧ bs.getD 6 0 = 47) := by
  unfold pre
  rw [decide_eq_true_eq]
  constructor
  · intro e
    have hl : (bs.take 7).length = 7 := by rw [e]; rfl
    rw [List.length_take] at hl
    have g : ∀ i, i < 7 → bs.getD i 0 = shr.getD i 0 := fun i hi => by
      rw [← e, List.getD_eq_getElem?_getD, List.getD_eq_getElem?_getD, List.getElem?_take, if_pos hi]
    exact ⟨by omega, g 0 (by omega), g 1 (by omega), g 2 (by omega), g 3 (by omega), g 4 (by omega), g 5 (by omega), g 6 (by omega)⟩
  · rintro ⟨h0, h1, h2, h3, h4, h5, h6, h7⟩
    refine list_ext0 (by rw [List.length_take]; show min 7 bs.length = 7; omega) (fun i hi => ?_)
    rw [List.length_take] at hi
    have e : (bs.take 7).getD i 0 = bs.getD i 0 := by
      rw [List.getD_eq_getElem?_getD, List.getD_eq_getElem?_getD, List.getElem?_take, if_pos (by omega)]
    rw [e]
    have hc : i = 0 ∨ i = 1 ∨ i = 2 ∨ i = 3 ∨ i = 4 ∨ i = 5 ∨ i = 6 := by omega
    rcases hc with rfl | rfl | rfl | rfl | rfl | rfl | rfl
    · exact h1
    · exact h2
    · exact h3
    · exact h4
    · exact h5
    · exact h6
    · exact h7
section FIL
variable {r : RS} {f0 o : Nat} {bs : List Nat}
theorem qm_isShare (hm : Mg (r.2.1 f0) o bs) (hb : By bs) (ho : o + bs.length ≤ mL f0) (ho2 : o + bs.length < 2147483648) : R_isShare f0 (nn o) (nn bs.length) r = some (if pre bs = true then 1 else 0, r) := by
  have e : wp (R_isShare f0 (nn o) (nn bs.length)) r (fun v r' => r' = r ∧ v = if pre bs = true then 1 else 0) := by
    unfold R_isShare
    by_cases h7 : bs.length < 7
    · rw [wp_pos (by rw [l_7, nn_lt (by omega) (by omega)]; exact h7), wp_zt, if_neg (fun z => by have := (pre_iff.mp z).1; omega)]
      exact ⟨Or.inl rfl, rfl, rfl⟩
    · have rd : ∀ i, i < 7 → r.2.1 f0 (o + i) = sb (bs.getD i 0) := fun i hi => hm i (by omega)
      have q : ∀ i c, c < 128 → i < 7 → (r.2.1 f0 (o + i) = nn c ↔ bs.getD i 0 = c) := fun i c hc hi => by
        rw [rd i hi]
        exact sb_nn (hb.at i) hc
      have no0 : ∀ i c, c < 128 → i < 7 → (pre bs = true → bs.getD i 0 = c) → ¬ bs.getD i 0 = c → wp (zt (0 : Int32)) r (fun v r' => r' = r ∧ v = if pre bs = true then 1 else 0) := fun i c hc hi hp hne => by
        rw [wp_zt, if_neg (fun z => hne (hp z))]
        exact ⟨Or.inl rfl, rfl, rfl⟩
      have c115 : (115 : Int32) = nn 115 := rfl
      have c104 : (104 : Int32) = nn 104 := rfl
      have c97 : (97 : Int32) = nn 97 := rfl
      have c114 : (114 : Int32) = nn 114 := rfl
      have c101 : (101 : Int32) = nn 101 := rfl
      rw [wp_neg (by rw [l_7, nn_lt (by omega) (by omega)]; exact h7), wr_g (by omega) (by omega)]
      have q0 := q 0 36 (by omega) (by omega)
      rw [Nat.add_zero] at q0
      by_cases g0 : bs.getD 0 0 = 36
      · rw [l_36, wp_pos (q0.mpr g0), l_1, nn_add, wr_g (by omega) (by omega)]
        by_cases g1 : bs.getD 1 0 = 115
        · rw [c115, wp_pos ((q 1 115 (by omega) (by omega)).mpr g1), l_2, nn_add, wr_g (by omega) (by omega)]
          by_cases g2 : bs.getD 2 0 = 104
          · rw [c104, wp_pos ((q 2 104 (by omega) (by omega)).mpr g2), l_3, nn_add, wr_g (by omega) (by omega)]
            by_cases g3 : bs.getD 3 0 = 97
            · rw [c97, wp_pos ((q 3 97 (by omega) (by omega)).mpr g3), l_4, nn_add, wr_g (by omega) (by omega)]
              by_cases g4 : bs.getD 4 0 = 114
              · rw [c114, wp_pos ((q 4 114 (by omega) (by omega)).mpr g4), l_5, nn_add, wr_g (by omega) (by omega)]
                by_cases g5 : bs.getD 5 0 = 101
                · rw [c101, wp_pos ((q 5 101 (by omega) (by omega)).mpr g5), l_6, nn_add, wr_g (by omega) (by omega)]
                  by_cases g6 : bs.getD 6 0 = 47
                  · rw [l_47, wp_pos ((q 6 47 (by omega) (by omega)).mpr g6), wp_zt, if_pos (pre_iff.mpr ⟨by omega, g0, g1, g2, g3, g4, g5, g6⟩)]
                    exact ⟨Or.inr rfl, rfl, rfl⟩
                  · rw [l_47, wp_neg (fun z => g6 ((q 6 47 (by omega) (by omega)).mp z))]
                    exact no0 6 47 (by omega) (by omega) (fun z => (pre_iff.mp z).2.2.2.2.2.2.2) g6
                · rw [c101, wp_neg (fun z => g5 ((q 5 101 (by omega) (by omega)).mp z))]
                  exact no0 5 101 (by omega) (by omega) (fun z => (pre_iff.mp z).2.2.2.2.2.2.1) g5
              · rw [c114, wp_neg (fun z => g4 ((q 4 114 (by omega) (by omega)).mp z))]
                exact no0 4 114 (by omega) (by omega) (fun z => (pre_iff.mp z).2.2.2.2.2.1) g4
            · rw [c97, wp_neg (fun z => g3 ((q 3 97 (by omega) (by omega)).mp z))]
              exact no0 3 97 (by omega) (by omega) (fun z => (pre_iff.mp z).2.2.2.2.1) g3
          · rw [c104, wp_neg (fun z => g2 ((q 2 104 (by omega) (by omega)).mp z))]
            exact no0 2 104 (by omega) (by omega) (fun z => (pre_iff.mp z).2.2.2.1) g2
        · rw [c115, wp_neg (fun z => g1 ((q 1 115 (by omega) (by omega)).mp z))]
          exact no0 1 115 (by omega) (by omega) (fun z => (pre_iff.mp z).2.2.1) g1
      · rw [l_36, wp_neg (fun z => g0 (q0.mp z))]
        exact no0 0 36 (by omega) (by omega) (fun z => (pre_iff.mp z).2.1) g0
  obtain ⟨v, r', e1, e2, e3⟩ := e
  rw [e1, e2, e3]
/-- a level begins at place k -/
def lvb (bs : List Nat) (k : Nat) : Bool := decide (k = 0 ∨ bs.getD (k - 1) 0 = 47)
theorem head_drop {k : Nat} {c : Nat} : (bs.drop k).head? = some c ↔ (k < bs.length ∧ bs.getD k 0 = c) := by
  by_cases g : k < bs.length
  · rw [drop_cons g]
    simp [g]
  · rw [drop_all (by omega)]
    simp [g]
theorem nil_drop {k : Nat} : bs.drop k = [] ↔ bs.length ≤ k := List.drop_eq_nil_iff
theorem qm_lev (hm : Mg (r.2.1 f0) o bs) (hb : By bs) (ho : o + bs.length ≤ mL f0) (ho2 : o + bs.length < 2147483648) : ∀ (m k n : Nat), k + m = bs.length → m < n → wp (R_isFilter_L24 f0 (R_isFilter_J121 f0) (R_isFilter_J129 f0) n (nn o) (nn bs.length) (nn k)) r (fun v r' => r' = r ∧ v = if lv (lvb bs k) (bs.drop k) = true then 1 else 0) := by
  intro m
  induction m with
  | zero =>
    intro k n hk hn
    obtain ⟨n', rfl⟩ : ∃ z, n = z + 1 := ⟨n - 1, by omega⟩
    show wp (R_isFilter_B24 f0 _ _ _ (nn o) (nn bs.length) (nn k)) r _
    unfold R_isFilter_B24
    rw [wp_pos (by rw [nn_le (by omega) (by omega)]; omega)]
    unfold R_isFilter_J129
    rw [wp_zt, drop_all (show bs.length ≤ k by omega)]
    exact ⟨Or.inr rfl, rfl, rfl⟩
  | succ m ih =>
    intro k n hk hn
    obtain ⟨n', rfl⟩ : ∃ z, n = z + 1 := ⟨n - 1, by omega⟩
    have ihn := ih (k + 1) n' (by omega) (by omega)
    have dc := drop_cons (l := bs) (i := k) (by omega)
    have rdk : r.2.1 f0 (o + k) = sb (bs.getD k 0) := hm k (by omega)
    have hbk := hb.at k
    generalize hw : bs.getD k 0 = w at *
    have elv : lv (lvb bs k) (bs.drop k) = ((if w = 43 then lvb bs k && (decide (bs.drop (k + 1) = []) || decide ((bs.drop (k + 1)).head? = some 47)) else if w = 35 then lvb bs k && decide (bs.drop (k + 1) = []) else true) && lv (lvb bs (k + 1)) (bs.drop (k + 1))) := by
      rw [dc, lv]
      have : lvb bs (k + 1) = decide (w = 47) := by
        unfold lvb
        rw [Nat.add_sub_cancel, hw]
        simp
      rw [this]
    rw [elv]
    -- continue, or no
    have go : ∀ c : Bool, c = true → wp (R_isFilter_L24 f0 (R_isFilter_J121 f0) (R_isFilter_J129 f0) n' (nn o) (nn bs.length) (nn k + 1)) r (fun v r' => r' = r ∧ v = if (c && lv (lvb bs (k + 1)) (bs.drop (k + 1))) = true then 1 else 0) := fun c hc => by
      rw [l_1, nn_add, hc, Bool.true_and]
      exact ihn
    have stop : ∀ c : Bool, c = false → wp (R_isFilter_J121 f0) r (fun v r' => r' = r ∧ v = if (c && lv (lvb bs (k + 1)) (bs.drop (k + 1))) = true then 1 else 0) := fun c hc => by
      unfold R_isFilter_J121
      rw [wp_zt, hc, Bool.false_and]
      exact ⟨Or.inl rfl, rfl, rfl⟩
    have c43 : ∀ c, c < 128 → (sb w = nn c ↔ w = c) := fun c hc => sb_nn hbk hc
    have em1 : nn bs.length - (1 : Int32) = nn (bs.length - 1) := by rw [l_1, nn_sub (by omega)]
    have ek1 : nn k = nn (bs.length - 1) ↔ bs.length ≤ k + 1 := by
      rw [nn_eq (by omega) (by omega)]
      omega
    -- first: whether a level begins; last: whether it ends here
    have J102 : ∀ first : Bool, first = lvb bs k → (w = 43 → lvb bs k = true ∧ (bs.drop (k + 1) = [] ∨ (bs.drop (k + 1)).head? = some 47)) → wp (R_isFilter_J102 f0 (fun l1 l2 l3 => R_isFilter_L24 f0 (R_isFilter_J121 f0) (R_isFilter_J129 f0) n' l1 l2 l3) (R_isFilter_J121 f0) (R_isFilter_J129 f0) (nn o) (nn bs.length) (nn k) (sb w) (if first = true then 1 else 0)) r (fun v r' => r' = r ∧ v = if ((if w = 43 then lvb bs k && (decide (bs.drop (k + 1) = []) || decide ((bs.drop (k + 1)).head? = some 47)) else if w = 35 then lvb bs k && decide (bs.drop (k + 1) = []) else true) && lv (lvb bs (k + 1)) (bs.drop (k + 1))) = true then 1 else 0) := by
      intro first ef h43
      unfold R_isFilter_J102
      by_cases g35 : w = 35
      · rw [l_35, wp_pos ((c43 35 (by omega)).mpr g35)]
        have n43 : ¬ w = 43 := by omega
        by_cases gf : first = true
        · rw [if_pos gf, wp_neg (by decide), em1]
          rw [ef] at gf
          by_cases gl : bs.length ≤ k + 1
          · rw [wp_pos (ek1.mpr gl)]
            refine go _ ?_
            rw [if_neg n43, if_pos g35, gf, decide_eq_true (nil_drop.mpr gl)]
            rfl
          · rw [wp_neg (fun e => gl (ek1.mp e))]
            refine stop _ ?_
            rw [if_neg n43, if_pos g35, decide_eq_false (fun e => gl (nil_drop.mp e)), Bool.and_false]
        · rw [if_neg gf, wp_pos rfl]
          refine stop _ ?_
          rw [ef] at gf
          rw [if_neg n43, if_pos g35]
          simp only [Bool.not_eq_true] at gf
          rw [gf, Bool.false_and]
      · rw [l_35, wp_neg (fun e => g35 ((c43 35 (by omega)).mp e))]
        refine go _ ?_
        by_cases g43 : w = 43
        · rw [if_pos g43, (h43 g43).1]
          rcases (h43 g43).2 with q | q
          · rw [decide_eq_true q]; rfl
          · rw [decide_eq_true q, Bool.or_true]; rfl
        · rw [if_neg g43, if_neg g35]
    have J83 : ∀ (first last : Bool), first = lvb bs k → (last = true ↔ (bs.drop (k + 1) = [] ∨ (bs.drop (k + 1)).head? = some 47)) → wp (R_isFilter_J83 f0 (fun l1 l2 l3 => R_isFilter_L24 f0 (R_isFilter_J121 f0) (R_isFilter_J129 f0) n' l1 l2 l3) (R_isFilter_J121 f0) (R_isFilter_J129 f0) (nn o) (nn bs.length) (nn k) (sb w) (if first = true then 1 else 0) (if last = true then 1 else 0)) r (fun v r' => r' = r ∧ v = if ((if w = 43 then lvb bs k && (decide (bs.drop (k + 1) = []) || decide ((bs.drop (k + 1)).head? = some 47)) else if w = 35 then lvb bs k && decide (bs.drop (k + 1) = []) else true) && lv (lvb bs (k + 1)) (bs.drop (k + 1))) = true then 1 else 0) := by
      intro first last ef el
      unfold R_isFilter_J83
      by_cases g43 : w = 43
      · rw [l_43, wp_pos ((c43 43 (by omega)).mpr g43)]
        by_cases gf : first = true
        · rw [if_pos gf, wp_neg (by decide)]
          by_cases gl : last = true
          · rw [if_pos gl, wp_neg (by decide)]
            have := J102 first ef (fun _ => ⟨by rw [← ef]; exact gf, el.mp gl⟩)
            rw [if_pos gf] at this
            exact this
          · rw [if_neg gl, wp_pos rfl]
            refine stop _ ?_
            have nn1 : ¬ (bs.drop (k + 1) = [] ∨ (bs.drop (k + 1)).head? = some 47) := fun z => gl (el.mpr z)
            rw [if_pos g43, decide_eq_false (fun z => nn1 (Or.inl z)), decide_eq_false (fun z => nn1 (Or.inr z)), Bool.or_false, Bool.and_false]
        · rw [if_neg gf, wp_pos rfl]
          refine stop _ ?_
          rw [ef] at gf
          simp only [Bool.not_eq_true] at gf
          rw [if_pos g43, gf, Bool.false_and]
      · rw [l_43, wp_neg (fun e => g43 ((c43 43 (by omega)).mp e))]
        exact J102 first ef (fun z => absurd z g43)
    have J57 : ∀ first : Bool, first = lvb bs k → wp (R_isFilter_J57 f0 (fun l1 l2 l3 => R_isFilter_L24 f0 (R_isFilter_J121 f0) (R_isFilter_J129 f0) n' l1 l2 l3) (R_isFilter_J121 f0) (R_isFilter_J129 f0) (nn o) (nn bs.length) (nn k) (sb w) (if first = true then 1 else 0)) r (fun v r' => r' = r ∧ v = if ((if w = 43 then lvb bs k && (decide (bs.drop (k + 1) = []) || decide ((bs.drop (k + 1)).head? = some 47)) else if w = 35 then lvb bs k && decide (bs.drop (k + 1) = []) else true) && lv (lvb bs (k + 1)) (bs.drop (k + 1))) = true then 1 else 0) := by
      intro first ef
      unfold R_isFilter_J57
      rw [em1]
      by_cases gl : bs.length ≤ k + 1
      · rw [wp_pos (ek1.mpr gl)]
        unfold R_isFilter_J78
        exact J83 first true ef ⟨fun _ => Or.inl (nil_drop.mpr gl), fun _ => rfl⟩
      · rw [wp_neg (fun e => gl (ek1.mp e)), nn_add, l_1, nn_add, wr_g (by omega) (by omega)]
        have rd1 : r.2.1 f0 (o + k + 1) = sb (bs.getD (k + 1) 0) := by
          have := hm (k + 1) (by omega)
          rwa [← Nat.add_assoc] at this
        rw [rd1]
        by_cases g47 : bs.getD (k + 1) 0 = 47
        · rw [l_47, wp_pos ((sb_nn (hb.at (k + 1)) (by omega)).mpr g47)]
          unfold R_isFilter_J78
          exact J83 first true ef ⟨fun _ => Or.inr (head_drop.mpr ⟨by omega, g47⟩), fun _ => rfl⟩
        · rw [l_47, wp_neg (fun e => g47 ((sb_nn (hb.at (k + 1)) (by omega)).mp e))]
          refine J83 first false ef ⟨fun z => (by cases z), fun z => ?_⟩
          rcases z with z | z
          · exact absurd (nil_drop.mp z) gl
          · exact absurd (head_drop.mp z).2 g47
    show wp (R_isFilter_B24 f0 _ _ _ (nn o) (nn bs.length) (nn k)) r _
    unfold R_isFilter_B24
    rw [wp_neg (by rw [nn_le (by omega) (by omega)]; omega), nn_add, wr_g (by omega) (by omega), rdk]
    by_cases g0 : k = 0
    · rw [wp_pos (by rw [g0]; rfl)]
      unfold R_isFilter_J52
      exact J57 true (by unfold lvb; rw [decide_eq_true (Or.inl g0)])
    · rw [wp_neg (show ¬ nn k = (0 : Int32) from fun e => g0 (nn_inj (by omega) (by omega) e)), l_1, nn_sub (by omega), wr_g (by omega) (by omega)]
      have rd0 : r.2.1 f0 (o + k - 1) = sb (bs.getD (k - 1) 0) := by
        have := hm (k - 1) (by omega)
        rwa [show o + (k - 1) = o + k - 1 by omega] at this
      rw [rd0]
      by_cases g47 : bs.getD (k - 1) 0 = 47
      · rw [l_47, wp_pos ((sb_nn (hb.at (k - 1)) (by omega)).mpr g47)]
        unfold R_isFilter_J52
        exact J57 true (by unfold lvb; rw [decide_eq_true (Or.inr g47)])
      · rw [l_47, wp_neg (fun e => g47 ((sb_nn (hb.at (k - 1)) (by omega)).mp e))]
        exact J57 false (by unfold lvb; rw [decide_eq_false (fun z => z.elim g0 g47)])
/-- the model's filters: not shared ones -/
def isF (bs : List Nat) : Bool := decide (1 ≤ bs.length ∧ bs.length ≤ 64) && !pre bs && lv true bs
theorem qm_isFilter (hm : Mg (r.2.1 f0) o bs) (hb : By bs) (ho : o + bs.length ≤ mL f0) (ho2 : o + bs.length < 2147483648) : R_isFilter f0 (nn o) (nn bs.length) r = some (if isF bs = true then 1 else 0, r) := by
  have e : wp (R_isFilter f0 (nn o) (nn bs.length)) r (fun v r' => r' = r ∧ v = if isF bs = true then 1 else 0) := by
    unfold R_isFilter
    by_cases h1 : bs.length < 1
    · rw [wp_pos (by rw [l_1, nn_lt (by omega) (by omega)]; exact h1), wp_zt]
      have : isF bs = false := by
        unfold isF
        rw [decide_eq_false (by omega)]; rfl
      rw [this]
      exact ⟨Or.inl rfl, rfl, rfl⟩
    · rw [wp_neg (by rw [l_1, nn_lt (by omega) (by omega)]; exact h1)]
      by_cases h64 : 64 < bs.length
      · rw [wp_pos (by rw [l_64, nn_lt (by omega) (by omega)]; exact h64), wp_zt]
        have : isF bs = false := by
          unfold isF
          rw [decide_eq_false (by omega)]; rfl
        rw [this]
        exact ⟨Or.inl rfl, rfl, rfl⟩
      · rw [wp_neg (by rw [l_64, nn_lt (by omega) (by omega)]; exact h64), wp_bd]
        refine wp.get (qm_isShare hm hb ho ho2) ?_
        by_cases hp : pre bs = true
        · rw [if_pos hp, wp_neg (by decide), wp_zt]
          have : isF bs = false := by
            unfold isF
            rw [hp]
            simp
          rw [this]
          exact ⟨Or.inl rfl, rfl, rfl⟩
        · rw [if_neg hp, wp_pos rfl]
          have : isF bs = lv true bs := by
            unfold isF
            rw [decide_eq_true (show 1 ≤ bs.length ∧ bs.length ≤ 64 by omega)]
            simp only [Bool.not_eq_true] at hp
            rw [hp]
            rfl
          rw [this]
          have h4 := qm_lev hm hb ho ho2 bs.length 0 fu (by omega) (by unfold fu; omega)
          rw [List.drop_zero, show lvb bs 0 = true from rfl] at h4
          exact h4
  obtain ⟨v, r', e1, e2, e3⟩ := e
  rw [e1, e2, e3]
/-- where the filter begins, as the model finds it: 0 if it isn't shared, or none -/
def shA (bs : List Nat) : Nat := (fstart bs).getD 0
theorem Mg.drop {f : Nat → Int32} (hm : Mg f o bs) (k : Nat) (hk : k ≤ bs.length) : Mg f (o + k) (bs.drop k) := fun i hi => by
  rw [List.length_drop] at hi
  rw [getD_drop, Nat.add_assoc]
  exact hm (k + i) (by omega)
theorem By.drop (hb : By bs) (k : Nat) : By (bs.drop k) := fun b hm => hb b (List.mem_of_mem_drop hm)
theorem qm_shareAt (hm : Mg (r.2.1 f0) o bs) (hb : By bs) (ho : o + bs.length ≤ mL f0) (ho2 : o + bs.length < 2147483648) : R_shareAt f0 (nn o) (nn bs.length) r = some (nn (shA bs), r) := by
  have e : wp (R_shareAt f0 (nn o) (nn bs.length)) r (fun v r' => r' = r ∧ v = nn (shA bs)) := by
    unfold R_shareAt
    rw [wp_bd]
    refine wp.get (qm_isShare hm hb ho ho2) ?_
    by_cases hp : pre bs = true
    · rw [if_pos hp, wp_neg (by decide)]
      have h7 := (pre_iff.mp hp).1
      by_cases h64 : bs.length ≤ 64
      · rw [wp_pos (by rw [l_64, nn_le (by omega) (by omega)]; exact h64)]
        have esh : ∀ i, fst0 bs = some i → shA bs = if lv true (bs.drop i) = true ∧ i < bs.length then i else 0 := fun i ei => by
          unfold shA fstart
          rw [if_neg (by omega), ei]
          dsimp only
          split <;> rfl
        have esn : fst0 bs = none → shA bs = 0 := fun ei => by
          unfold shA fstart
          rw [if_neg (by omega), ei]
          rfl
        have ef0 : fst0 bs = nmx 7 (bs.drop 7) := by
          unfold fst0
          rw [if_pos hp]
        have key : ∀ (m k n : Nat), k + m = bs.length → 7 ≤ k → m < n → fst0 bs = nmx k (bs.drop k) → wp (R_shareAt_L20 f0 (R_shareAt_J55 f0) (fun l1 l2 l3 => R_shareAt_J63 f0 l1 l2 l3) n (nn o) (nn bs.length) (nn k)) r (fun v r' => r' = r ∧ v = nn (shA bs)) := by
          intro m
          induction m with
          | zero =>
            intro k n hk h7k hn en
            obtain ⟨n', rfl⟩ : ∃ z, n = z + 1 := ⟨n - 1, by omega⟩
            show wp (R_shareAt_B20 f0 _ _ _ (nn o) (nn bs.length) (nn k)) r _
            unfold R_shareAt_B20
            rw [wp_pos (by rw [nn_le (by omega) (by omega)]; omega)]
            unfold R_shareAt_J63
            dsimp only
            rw [drop_all (show bs.length ≤ k by omega)] at en
            by_cases g7 : k ≤ 7
            · rw [wp_pos (by rw [l_7, nn_le (by omega) (by omega)]; exact g7), wp_rt, esn en]
              exact ⟨rfl, rfl⟩
            · rw [wp_neg (by rw [l_7, nn_le (by omega) (by omega)]; exact g7), wp_pos (by rw [nn_le (by omega) (by omega)]; omega), wp_rt, esn en]
              exact ⟨rfl, rfl⟩
          | succ m ih =>
            intro k n hk h7k hn en
            obtain ⟨n', rfl⟩ : ∃ z, n = z + 1 := ⟨n - 1, by omega⟩
            have dc := drop_cons (l := bs) (i := k) (by omega)
            have rdk : r.2.1 f0 (o + k) = sb (bs.getD k 0) := hm k (by omega)
            have hbk := hb.at k
            rw [dc, nmx] at en
            show wp (R_shareAt_B20 f0 _ _ _ (nn o) (nn bs.length) (nn k)) r _
            unfold R_shareAt_B20
            rw [wp_neg (by rw [nn_le (by omega) (by omega)]; omega), nn_add, wr_g (by omega) (by omega), rdk]
            by_cases g47 : bs.getD k 0 = 47
            · rw [l_47, wp_pos ((sb_nn hbk (by omega)).mpr g47)]
              rw [if_pos g47] at en
              unfold R_shareAt_J63
              dsimp only
              by_cases g7 : k ≤ 7
              · rw [wp_pos (by rw [l_7, nn_le (by omega) (by omega)]; exact g7), wp_rt]
                rw [if_pos (Or.inl (by omega))] at en
                rw [esn en]
                exact ⟨rfl, rfl⟩
              · have md := hm.drop (k + 1) (by omega)
                have bd' := hb.drop (k + 1)
                have ld : (bs.drop (k + 1)).length = bs.length - k - 1 := by rw [List.length_drop]; omega
                have qf := qm_isFilter (r := r) (f0 := f0) md bd' (by rw [ld]; omega) (by rw [ld]; omega)
                rw [wp_neg (by rw [l_7, nn_le (by omega) (by omega)]; exact g7), wp_neg (by rw [nn_le (by omega) (by omega)]; omega), nn_add, l_1, nn_add, nn_sub (by omega), nn_sub (by omega), wp_bd, ← ld, Nat.add_assoc]
                refine wp.get qf ?_
                have isf : isF (bs.drop (k + 1)) = (decide (k + 1 < bs.length) && !pre (bs.drop (k + 1)) && lv true (bs.drop (k + 1))) := by
                  unfold isF
                  rw [ld]
                  congr 2
                  by_cases g : k + 1 < bs.length
                  · rw [decide_eq_true g, decide_eq_true (by omega)]
                  · rw [decide_eq_false g, decide_eq_false (by omega)]
                by_cases gp : pre (bs.drop (k + 1)) = true
                · rw [if_pos (Or.inr gp)] at en
                  have z : isF (bs.drop (k + 1)) = false := by rw [isf, gp]; simp
                  rw [z, wp_pos (by decide), wp_rt, esn en]
                  exact ⟨rfl, rfl⟩
                · rw [if_neg (fun z => z.elim (fun z => by omega) gp)] at en
                  rw [esh _ en]
                  simp only [Bool.not_eq_true] at gp
                  by_cases gl : lv true (bs.drop (k + 1)) = true ∧ k + 1 < bs.length
                  · have z : isF (bs.drop (k + 1)) = true := by rw [isf, gp, gl.1, decide_eq_true gl.2]; rfl
                    rw [z, wp_neg (by decide), if_pos gl, nn_add, wp_rt]
                    exact ⟨rfl, rfl⟩
                  · have z : isF (bs.drop (k + 1)) = false := by
                      rw [isf, gp]
                      by_cases g : k + 1 < bs.length
                      · rw [decide_eq_true g]
                        have : ¬ lv true (bs.drop (k + 1)) = true := fun q => gl ⟨q, g⟩
                        simp only [Bool.not_eq_true] at this
                        rw [this]; rfl
                      · rw [decide_eq_false g]; rfl
                    rw [z, wp_pos (by decide), if_neg gl, wp_rt]
                    exact ⟨rfl, rfl⟩
            · rw [if_neg g47] at en
              rw [l_47, wp_neg (fun e => g47 ((sb_nn hbk (by omega)).mp e)), wr_g (by omega) (by omega), rdk]
              by_cases g43 : bs.getD k 0 = 43
              · rw [l_43, wp_pos ((sb_nn hbk (by omega)).mpr g43)]
                rw [if_pos (Or.inl g43)] at en
                unfold R_shareAt_J55
                rw [wp_rt, esn en]
                exact ⟨rfl, rfl⟩
              · rw [l_43, wp_neg (fun e => g43 ((sb_nn hbk (by omega)).mp e)), wr_g (by omega) (by omega), rdk]
                by_cases g35 : bs.getD k 0 = 35
                · rw [l_35, wp_pos ((sb_nn hbk (by omega)).mpr g35)]
                  rw [if_pos (Or.inr g35)] at en
                  unfold R_shareAt_J55
                  rw [wp_rt, esn en]
                  exact ⟨rfl, rfl⟩
                · rw [l_35, wp_neg (fun e => g35 ((sb_nn hbk (by omega)).mp e))]
                  rw [if_neg (fun z => z.elim g43 g35)] at en
                  show wp (R_shareAt_L20 f0 _ _ n' (nn o) (nn bs.length) (nn k + 1)) r _
                  rw [l_1, nn_add]
                  exact ih (k + 1) n' (by omega) (by omega) (by omega) en
        exact key (bs.length - 7) 7 fu (by omega) (by omega) (by unfold fu; omega) ef0
      · rw [wp_neg (by rw [l_64, nn_le (by omega) (by omega)]; exact h64), wp_rt]
        have : shA bs = 0 := by
          unfold shA fstart
          rw [if_pos (by omega)]
          rfl
        rw [this]
        exact ⟨rfl, rfl⟩
    · rw [if_neg hp, wp_pos rfl, wp_rt]
      have : shA bs = 0 := by
        unfold shA fstart fst0
        rw [if_neg hp]
        split
        · rfl
        · dsimp only
          split <;> rfl
      rw [this]
      exact ⟨rfl, rfl⟩
  obtain ⟨v, r', e1, e2, e3⟩ := e
  rw [e1, e2, e3]
end FIL
