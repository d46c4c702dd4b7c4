/-! ===== rows of bytes: at, same; what a filter matches: the class ===== -/
theorem drop_cons {l : List Nat} {i : Nat} (h : i < l.length) : l.drop i = l.getD i 0 :: l.drop (i + 1) := by
  rw [List.getD_eq_getElem?_getD, List.getElem?_eq_getElem h]
  exact List.drop_eq_getElem_cons h
theorem drop_all {l : List Nat} {i : Nat} (h : l.length ≤ i) : l.drop i = [] := List.drop_eq_nil_of_le h
theorem list_ext0 {a b : List Nat} (hl : a.length = b.length) (h : ∀ i, i < a.length → a.getD i 0 = b.getD i 0) : a = b := by
  apply List.ext_getElem hl
  intro i h1 h2
  have := h i h1
  rw [List.getD_eq_getElem?_getD, List.getD_eq_getElem?_getD, List.getElem?_eq_getElem h1, List.getElem?_eq_getElem h2] at this
  exact this
theorem l_47 : (47 : Int32) = nn 47 := rfl
theorem l_43 : (43 : Int32) = nn 43 := rfl
theorem l_36 : (36 : Int32) = nn 36 := rfl
def atv (bs : List Nat) (i : Nat) : Int32 := if i < bs.length then nn (bs.getD i 0) else -1
section MAT
variable {x a a' u : Nat} {h : Hp} {bs bs' tp : List Nat}
theorem qc_at {i : Nat} (R : Rw x h a bs) (hi : i < 2147483648) (hl : bs.length < 2147483648) : C_X7_at a (nn i) h = some (atv bs i, h) := by
  obtain ⟨y, y1, y2, y3, y4⟩ := R.at
  have k := R.1
  unfold C_X7_at atv
  rw [if_neg (nn_nlt0 hi), e_gR (c := 9) k]
  show hLn 0 (hfr h 900 a) _ h = _
  rw [y1, e_Ln (t := 0) y2, y3]
  by_cases g : i < bs.length
  · rw [if_neg (by show ¬ nn bs.length ≤ nn i; rw [nn_le hl hi]; omega), if_pos g, e_gR (c := 9) k]
    show hAi (hfr h 900 a) (nn i) _ h = _
    rw [y1, e_Ai y2 (nn_inr (by rw [y3]; exact g) hi), nn_N hi, y4 i g]
    rfl
  · rw [if_pos (by show nn bs.length ≤ nn i; rw [nn_le hl hi]; omega), if_neg g]
    rfl
theorem qc_same (R : Rw x h a bs) (R' : Rw x h a' bs') (hl : bs.length < 4000) (hl' : bs'.length < 4000) : C_X7_same a (some a') h = some (if bs = bs' then 1 else 0, h) := by
  obtain ⟨y, y1, y2, y3, y4⟩ := R.at
  obtain ⟨z, z1, z2, z3, z4⟩ := R'.at
  have k := R.1
  have k' := R'.1
  have b1 := R.2.2.1
  have b2 := R'.2.2.1
  have e : wp (C_X7_same a (some a')) h (fun v h' => v = (if bs = bs' then 1 else 0) ∧ h' = h) := by
    unfold C_X7_same
    rw [wp_gR k]
    show wp (hLn 0 (hfr h 900 a) _) h _
    rw [y1, wn_Ln (t := 0) y2, y3, wp_gR k']
    show wp (hLn 0 (hfr h 900 a') _) h _
    rw [z1, wn_Ln (t := 0) z2, z3]
    by_cases g : bs.length = bs'.length
    · rw [wp_pos (by rw [g])]
      refine up_loop (L := fun f i => C_X7_same_L17 a (C_X7_same_J41 a) (C_X7_same_J49 a) f (some a') i) (fun i h' => h' = h ∧ ∀ k, k < i → bs.getD k 0 = bs'.getD k 0) bs.length ?_ ?_ bs.length 0 fu h (by omega) (by unfold fu; omega) ⟨rfl, fun k hk => by omega⟩
      · rintro f i h' hi ⟨rfl, hz⟩ kk
        show wp (C_X7_same_B17 a _ _ _ (some a') (nn i)) h' _
        unfold C_X7_same_B17
        rw [wp_gR k]
        show wp (hLn 0 (hfr h' 900 a) _) h' _
        rw [y1, wn_Ln (t := 0) y2, y3, wp_neg (by rw [nn_le (by omega) (by omega)]; omega), wp_gR k]
        show wp (hAi (hfr h' 900 a) (nn i) _) h' _
        rw [y1, wn_Ai y2 (by rw [y3]; exact hi) (by omega), y4 i hi, wp_gR k']
        show wp (hAi (hfr h' 900 a') (nn i) _) h' _
        rw [z1, wn_Ai z2 (by rw [z3]; omega) (by omega), z4 i (by omega)]
        by_cases q : bs.getD i 0 = bs'.getD i 0
        · rw [wp_pos (by rw [q])]
          show wp (C_X7_same_L17 a _ _ f (some a') (nn i + 1)) h' _
          rw [l_1, nn_add]
          exact kk h' ⟨rfl, fun k hk => by
            by_cases e : k = i
            · rw [e]; exact q
            · exact hz k (by omega)⟩
        · rw [wp_neg (fun e => q (nn_inj (by have := b1.at i; omega) (by have := b2.at i; omega) e))]
          unfold C_X7_same_J41
          rw [wp_zt, if_neg (fun e => q (by rw [e]))]
          exact ⟨Or.inl rfl, rfl, rfl⟩
      · rintro f h' ⟨rfl, hz⟩
        show wp (C_X7_same_B17 a _ _ _ (some a') (nn bs.length)) h' _
        unfold C_X7_same_B17
        rw [wp_gR k]
        show wp (hLn 0 (hfr h' 900 a) _) h' _
        rw [y1, wn_Ln (t := 0) y2, y3, wp_pos (by rw [nn_le (by omega) (by omega)]; omega)]
        unfold C_X7_same_J49
        rw [wp_zt, if_pos (list_ext0 g hz)]
        exact ⟨Or.inr rfl, rfl, rfl⟩
    · rw [wp_neg (fun e => g (nn_inj (by omega) (by omega) e)), wp_zt, if_neg (fun e => g (by rw [e]))]
      exact ⟨Or.inl rfl, rfl, rfl⟩
  obtain ⟨v, h', e1, e2, e3⟩ := e
  rw [e1, e2, e3]
theorem atv_eq {i c : Nat} (hb : By bs) (hc : c < 256) : atv bs i = nn c ↔ (i < bs.length ∧ bs.getD i 0 = c) := by
  unfold atv
  by_cases g : i < bs.length
  · rw [if_pos g]
    exact ⟨fun e => ⟨g, nn_inj (by have := hb.at i; omega) (by omega) e⟩, fun e => by rw [e.2]⟩
  · rw [if_neg g]
    exact ⟨fun e => absurd e.symm (nn_neg (by omega)), fun e => absurd e.1 g⟩
/-- the class: the topic's level is skipped -/
theorem qc_skip {Q : Int32 → Hp → Prop} {ke : Option Nat → Int32 → Int32 → Hp → Option (Int32 × Hp)} (R : Rw x h a tp) (hl : tp.length < 4000) {l4 : Int32} : ∀ (m t f : Nat), t + m = tp.length → m < f → (∀ t', t' ≤ tp.length → tp.drop t' = (tp.drop t).dropWhile (fun c => decide (c ≠ 47)) → wp (ke (some a) (nn t') l4) h Q) → wp (C_X9_matches_L83 u ke f (some a) (nn t) l4) h Q := by
  intro m
  induction m with
  | zero =>
    intro t f ht hf kk
    obtain ⟨f', rfl⟩ : ∃ z, f = z + 1 := ⟨f - 1, by omega⟩
    show wp (C_X9_matches_B83 u _ ke (some a) (nn t) l4) h Q
    unfold C_X9_matches_B83
    rw [wp_Cv R.1]
    refine wp.get (qc_count R) ?_
    rw [wp_pos (by rw [nn_le (by omega) (by omega)]; omega)]
    exact kk t (by omega) (by rw [drop_all (by omega)]; rfl)
  | succ m ih =>
    intro t f ht hf kk
    obtain ⟨f', rfl⟩ : ∃ z, f = z + 1 := ⟨f - 1, by omega⟩
    show wp (C_X9_matches_B83 u _ ke (some a) (nn t) l4) h Q
    unfold C_X9_matches_B83
    rw [wp_Cv R.1]
    refine wp.get (qc_count R) ?_
    rw [wp_neg (by rw [nn_le (by omega) (by omega)]; omega), wp_Cv R.1]
    refine wp.get (qc_at R (by omega) (by omega)) ?_
    have dc := drop_cons (l := tp) (i := t) (by omega)
    by_cases g : tp.getD t 0 = 47
    · rw [wp_pos (by rw [l_47]; exact (atv_eq R.2.2.1 (by omega)).mpr ⟨by omega, g⟩)]
      refine kk t (by omega) ?_
      rw [dc, List.dropWhile_cons, if_neg (by rw [g]; decide)]
    · rw [wp_neg (by rw [l_47]; exact fun e => g ((atv_eq R.2.2.1 (by omega)).mp e).2)]
      show wp (C_X9_matches_L83 u ke f' (some a) (nn t + 1) l4) h Q
      rw [l_1, nn_add]
      refine ih (t + 1) f' (by omega) (by omega) (fun t' h1 h2 => kk t' h1 ?_)
      rw [h2, dc, List.dropWhile_cons, if_pos (decide_eq_true g)]
theorem qc_mat_loop {st : Nat} (S : SubT x h u bs st) (R : Rw x h a tp) (hl : tp.length < 4000) (hl2 : bs.length < 4000) : ∀ (m f t n : Nat), f + m = bs.length → m < n → t ≤ tp.length → wp (C_X9_matches_L44 u (C_X9_matches_J74 u) (fun l1 l3 l4 l5 => C_X9_matches_J123 u l1 l3 l4 l5) (fun l1 l3 => C_X9_matches_J166 u l1 l3) n (some a) (nn t) (nn f)) h (fun v h' => h' = h ∧ v = if mc (bs.drop f) (tp.drop t) = true then 1 else 0) := by
  obtain ⟨⟨k12, _, _⟩, ⟨tr, c4, c5⟩, _⟩ := S
  have c4' : hfr h (100 * 11 + 0) u = some tr := c4
  intro m
  induction m with
  | zero =>
    intro f t n hf hn ht
    obtain ⟨n', rfl⟩ : ∃ z, n = z + 1 := ⟨n - 1, by omega⟩
    show wp (C_X9_matches_B44 u _ _ _ _ (some a) (nn t) (nn f)) h _
    unfold C_X9_matches_B44
    rw [wp_gR k12, c4', wp_Cv c5.1]
    refine wp.get (qc_count c5) ?_
    rw [wp_pos (by rw [nn_le (by omega) (by omega)]; omega)]
    unfold C_X9_matches_J166
    dsimp only
    rw [wp_Cv R.1]
    refine wp.get (qc_count R) ?_
    rw [drop_all (show bs.length ≤ f by omega)]
    by_cases g : t = tp.length
    · rw [wp_pos (by rw [g]), wp_zt, g, drop_all (Nat.le_refl _)]
      exact ⟨Or.inr rfl, rfl, rfl⟩
    · rw [wp_neg (fun e => g (nn_inj (by omega) (by omega) e)), wp_zt, drop_cons (show t < tp.length by omega)]
      exact ⟨Or.inl rfl, rfl, rfl⟩
  | succ m ih =>
    intro f t n hf hn ht
    obtain ⟨n', rfl⟩ : ∃ z, n = z + 1 := ⟨n - 1, by omega⟩
    have dc := drop_cons (l := bs) (i := f) (by omega)
    have hbf := c5.2.2.1.at f
    show wp (C_X9_matches_B44 u _ _ _ _ (some a) (nn t) (nn f)) h _
    unfold C_X9_matches_B44
    rw [wp_gR k12, c4', wp_Cv c5.1]
    refine wp.get (qc_count c5) ?_
    rw [wp_neg (by rw [nn_le (by omega) (by omega)]; omega), wp_gR k12, c4', wp_Cv c5.1]
    refine wp.get (qc_at c5 (by omega) (by omega)) ?_
    have eat : atv bs f = nn (bs.getD f 0) := by
      unfold atv
      rw [if_pos (by omega)]
    rw [eat, dc]
    generalize hw : bs.getD f 0 = w at *
    have next : ∀ t', t' ≤ tp.length → mc (w :: bs.drop (f + 1)) (tp.drop t) = mc (bs.drop (f + 1)) (tp.drop t') → wp (C_X9_matches_J160 u (fun l1 l3 l4 => C_X9_matches_L44 u (C_X9_matches_J74 u) (fun l1 l3 l4 l5 => C_X9_matches_J123 u l1 l3 l4 l5) (fun l1 l3 => C_X9_matches_J166 u l1 l3) n' l1 l3 l4) (C_X9_matches_J74 u) (fun l1 l3 l4 l5 => C_X9_matches_J123 u l1 l3 l4 l5) (fun l1 l3 => C_X9_matches_J166 u l1 l3) (some a) (nn t') (nn f)) h (fun v h' => h' = h ∧ v = if mc (w :: bs.drop (f + 1)) (tp.drop t) = true then 1 else 0) := by
      intro t' h1 h2
      unfold C_X9_matches_J160
      dsimp only
      rw [l_1, nn_add, h2]
      exact ih (f + 1) t' n' (by omega) (by omega) h1
    by_cases g35 : w = 35
    · rw [wp_pos (by rw [g35]; rfl)]
      unfold C_X9_matches_J74
      rw [wp_zt, g35]
      exact ⟨Or.inr rfl, rfl, rfl⟩
    · rw [wp_neg (show ¬ nn w = (35 : Int32) from fun e => g35 (nn_inj (by omega) (by omega) e))]
      by_cases g43 : w = 43
      · rw [wp_pos (by rw [g43]; rfl)]
        refine qc_skip R hl (tp.length - t) t fu (by omega) (by unfold fu; omega) (fun t' h1 h2 => ?_)
        refine next t' h1 ?_
        rw [h2, g43]
        show (if 43 = 35 then true else if 43 = 43 then _ else _) = _
        rw [if_neg (by decide), if_pos rfl]
      · rw [wp_neg (show ¬ nn w = (43 : Int32) from fun e => g43 (nn_inj (by omega) (by omega) e)), wp_Cv R.1]
        refine wp.get (qc_at R (by omega) (by omega)) ?_
        by_cases gt : t < tp.length
        · have dt := drop_cons (l := tp) (i := t) gt
          have hbt := R.2.2.1.at t
          have eat2 : atv tp t = nn (tp.getD t 0) := by
            unfold atv
            rw [if_pos gt]
          rw [eat2]
          have emc : mc (w :: bs.drop (f + 1)) (tp.drop t) = if w = tp.getD t 0 then mc (bs.drop (f + 1)) (tp.drop (t + 1)) else false := by
            rw [dt]
            show (if w = 35 then true else if w = 43 then _ else _) = _
            rw [if_neg g35, if_neg g43]
          by_cases ge : w = tp.getD t 0
          · rw [wp_pos (by rw [ge]), l_1, nn_add]
            exact next (t + 1) (by omega) (by rw [emc, if_pos ge])
          · rw [wp_neg (fun e => ge (nn_inj (by omega) (by omega) e)), emc, if_neg ge]
            unfold C_X9_matches_J123
            dsimp only
            rw [wp_Cv R.1]
            refine wp.get (qc_count R) ?_
            rw [wp_neg (fun e => by have := nn_inj (by omega) (by omega) e; omega), wp_zt]
            exact ⟨Or.inl rfl, rfl, rfl⟩
        · have et : t = tp.length := by omega
          have eat2 : atv tp t = -1 := by
            unfold atv
            rw [if_neg gt]
          rw [eat2, wp_neg (nn_neg (by omega))]
          unfold C_X9_matches_J123
          dsimp only
          rw [wp_Cv R.1]
          refine wp.get (qc_count R) ?_
          rw [wp_pos (by rw [et]), drop_all (show tp.length ≤ t by omega)]
          have emc : mc (w :: bs.drop (f + 1)) [] = decide (w = 47 ∧ (bs.drop (f + 1)).head? = some 35) := by
            show (if w = 35 then true else if w = 43 then _ else _) = _
            rw [if_neg g35, if_neg g43]
          rw [emc]
          by_cases g47 : w = 47
          · rw [wp_pos (by rw [g47]; rfl), wp_gR k12, c4', l_1, nn_add, wp_Cv c5.1]
            refine wp.get (qc_at c5 (by omega) (by omega)) ?_
            have eh : (bs.drop (f + 1)).head? = some 35 ↔ (f + 1 < bs.length ∧ bs.getD (f + 1) 0 = 35) := by
              by_cases gl : f + 1 < bs.length
              · rw [drop_cons gl]
                simp [gl]
              · rw [drop_all (by omega)]
                simp [gl]
            by_cases gh : f + 1 < bs.length ∧ bs.getD (f + 1) 0 = 35
            · rw [wp_pos (by rw [l_35]; exact (atv_eq c5.2.2.1 (by omega)).mpr gh), wp_zt, decide_eq_true ⟨g47, eh.mpr gh⟩]
              exact ⟨Or.inr rfl, rfl, rfl⟩
            · rw [wp_neg (by rw [l_35]; exact fun e => gh ((atv_eq c5.2.2.1 (by omega)).mp e)), wp_zt, decide_eq_false (fun e => gh (eh.mp e.2))]
              exact ⟨Or.inl rfl, rfl, rfl⟩
          · rw [wp_neg (show ¬ nn w = (47 : Int32) from fun e => g47 (nn_inj (by omega) (by omega) e)), wp_zt, decide_eq_false (fun e => g47 e.1)]
            exact ⟨Or.inl rfl, rfl, rfl⟩
/-- whether a filter F matches a topic T -/
def mtc (F T : List Nat) : Bool := if T.getD 0 0 = 36 ∧ (F.getD 0 0 = 43 ∨ F.getD 0 0 = 35) then false else mc F T
theorem fstart_lt {st : Nat} (hst : fstart bs = some st) : st < bs.length ∧ bs.length ≤ 64 ∧ lv true (bs.drop st) = true := by
  unfold fstart at hst
  split at hst
  · cases hst
  · split at hst
    · split at hst
      · cases hst
        rename_i q
        exact ⟨q.2, by omega, q.1⟩
      · cases hst
    · cases hst
theorem getD_drop (l : List Nat) (i k : Nat) : (l.drop i).getD k 0 = l.getD (i + k) 0 := by
  rw [List.getD_eq_getElem?_getD, List.getD_eq_getElem?_getD, List.getElem?_drop]
theorem qc_matches {st : Nat} (S : SubT x h u bs st) (R : Rw x h a tp) (hl : tp.length < 4000) (hl0 : 1 ≤ tp.length) : C_X9_matches u (some a) h = some (if mtc (bs.drop st) tp = true then 1 else 0, h) := by
  obtain ⟨f1, f2, f3⟩ := fstart_lt S.2.2.1
  have S' := S
  obtain ⟨⟨k12, _, _⟩, ⟨tr, c4, c5⟩, c6, c7⟩ := S
  have c4' : hfr h (100 * 11 + 0) u = some tr := c4
  have c7' : hfi h (100 * 11 + 1) u = nn st := c7
  have e : wp (C_X9_matches u (some a)) h (fun v h' => h' = h ∧ v = if mtc (bs.drop st) tp = true then 1 else 0) := by
    unfold C_X9_matches
    rw [wp_gR k12, c4', wp_gI k12, c7', wp_Cv c5.1]
    refine wp.get (qc_at c5 (by omega) (by omega)) ?_
    rw [wp_Cv R.1]
    have q0 := qc_at (i := 0) R (by omega) (by omega)
    refine wp.get q0 ?_
    have hd : (bs.drop st).getD 0 0 = bs.getD st 0 := getD_drop bs st 0
    have run : mtc (bs.drop st) tp = mc (bs.drop st) tp → wp (C_X9_matches_J36 u (some a)) h (fun v h' => h' = h ∧ v = if mtc (bs.drop st) tp = true then 1 else 0) := by
      intro em
      unfold C_X9_matches_J36
      rw [wp_gI k12, c7', em]
      have := qc_mat_loop S' R hl (by omega) (bs.length - st) st 0 fu (by omega) (by unfold fu; omega) (by omega)
      rw [List.drop_zero] at this
      exact this
    have c43 : ∀ c, c < 256 → (atv bs st = nn c ↔ (bs.drop st).getD 0 0 = c) := fun c hc => by
      rw [atv_eq c5.2.2.1 hc, hd]
      exact ⟨fun z => z.2, fun z => ⟨f1, z⟩⟩
    have c36 : atv tp 0 = nn 36 ↔ tp.getD 0 0 = 36 := by
      rw [atv_eq R.2.2.1 (by omega)]
      exact ⟨fun z => z.2, fun z => ⟨by omega, z⟩⟩
    by_cases g36 : tp.getD 0 0 = 36
    · rw [wp_pos (show atv tp 0 = (36 : Int32) from c36.mpr g36)]
      by_cases g43 : (bs.drop st).getD 0 0 = 43
      · rw [wp_pos (show atv bs st = (43 : Int32) from (c43 43 (by omega)).mpr g43), wp_zt]
        have em : mtc (bs.drop st) tp = false := by unfold mtc; rw [if_pos ⟨g36, Or.inl g43⟩]
        rw [em]
        exact ⟨Or.inl rfl, rfl, rfl⟩
      · rw [wp_neg (show ¬ atv bs st = (43 : Int32) from fun e => g43 ((c43 43 (by omega)).mp e))]
        by_cases g35 : (bs.drop st).getD 0 0 = 35
        · rw [wp_pos (show atv bs st = (35 : Int32) from (c43 35 (by omega)).mpr g35), wp_zt]
          have em : mtc (bs.drop st) tp = false := by unfold mtc; rw [if_pos ⟨g36, Or.inr g35⟩]
          rw [em]
          exact ⟨Or.inl rfl, rfl, rfl⟩
        · rw [wp_neg (show ¬ atv bs st = (35 : Int32) from fun e => g35 ((c43 35 (by omega)).mp e))]
          exact run (by unfold mtc; rw [if_neg (fun z => z.2.elim g43 g35)])
    · rw [wp_neg (show ¬ atv tp 0 = (36 : Int32) from fun e => g36 (c36.mp e))]
      exact run (by unfold mtc; rw [if_neg (fun z => g36 z.1)])
  obtain ⟨v, h', e1, e2, e3⟩ := e
  rw [e1, e2, e3]
end MAT
