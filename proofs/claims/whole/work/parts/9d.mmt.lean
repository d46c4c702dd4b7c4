/-! ===== what a filter matches: the model ===== -/
theorem mc_step {F T : List Nat} (hl : lv true F = true) (hne : F ≠ []) : mc F T = if F = [35] then true else if F.head? = some 43 then mme mc F.tail (T.dropWhile (fun c => decide (c ≠ 47))) else mme mc (sp F T).1 (sp F T).2 := by
  cases F with
  | nil => exact absurd rfl hne
  | cons b F =>
    have hl' := hl
    unfold lv at hl'
    rw [Bool.and_eq_true] at hl'
    by_cases h35 : b = 35
    · subst h35
      have e : F = [] := by simpa using hl'.1
      subst e
      rw [if_pos rfl]
      rfl
    · rw [if_neg (fun z => h35 (by cases z; rfl))]
      by_cases h43 : b = 43
      · subst h43
        rw [if_pos (show (43 :: F).head? = some 43 from rfl)]
        have e : mc (43 :: F) T = mc F (T.dropWhile (fun c => decide (c ≠ 47))) := by
          show (if 43 = 35 then true else if 43 = 43 then _ else _) = _
          rw [if_neg (by decide), if_pos rfl]
        rw [e]
        have hF : F = [] ∨ F.head? = some 47 := by
          have := hl'.1
          rw [if_pos rfl] at this
          simpa using this
        refine mme_eq hF (dw_head T) ?_ (fun F2 e1 T2 _ hne2 => rfl)
        have := hl'.2
        rwa [decide_eq_false (by decide)] at this
      · rw [if_neg (fun z => h43 (by simpa using z))]
        exact sp_eq (b :: F) T true hl (Or.inr ⟨fun z => h43 (by simpa using z), fun z => h35 (by simpa using z)⟩) (fun F2 T2 hlt hl2 hne2 => rfl)
theorem lv_drop {F : List Nat} (hl : lv true F = true) : ∀ i, i ≤ F.length → lv (lvb F i) (F.drop i) = true := by
  intro i
  induction i with
  | zero => intro _; rw [List.drop_zero]; exact hl
  | succ i ih =>
    intro hi
    have := ih (by omega)
    rw [drop_cons (show i < F.length by omega), lv, Bool.and_eq_true] at this
    have e : lvb F (i + 1) = decide (F.getD i 0 = 47) := by
      unfold lvb
      rw [Nat.add_sub_cancel]
      simp
    rw [e]
    exact this.2
section MMT
variable {r : RS} {o j : Nat} {F T : List Nat}
theorem qm_mat_loop (hF : Mg (r.2.1 26) o F) (hbF : By F) (hoF : o + F.length ≤ 6144) (hT : Mg (r.2.1 45) (480 * j) T) (hbT : By T) (hj : j < 640) (hlT : T.length ≤ 64) (hlF : F.length ≤ 64) (hlv : lv true F = true) : ∀ (m i t n : Nat), i + m = F.length → i < F.length → m < n → t ≤ T.length → lvb F i = true →
    wp (R_matches_L57 (R_matches_J100) (R_matches_J277) (fun l1 l2 l6 => R_matches_J286 l1 l2 l6) (R_matches_J328) (fun l5 l7 => R_matches_J342 l5 l7) n (nn o) (nn F.length) (nn (480 * j)) (nn T.length) (nn i) (nn t)) r (fun v r' => r' = r ∧ v = if mc (F.drop i) (T.drop t) = true then 1 else 0) := by
  have rF : ∀ i, i < F.length → r.2.1 26 (o + i) = sb (F.getD i 0) := fun i hi => hF i hi
  have rT : ∀ i, i < T.length → r.2.1 45 (480 * j + i) = sb (T.getD i 0) := fun i hi => hT i hi
  have cF : ∀ i c, i < F.length → c < 128 → (r.2.1 26 (o + i) = nn c ↔ F.getD i 0 = c) := fun i c hi hc => by rw [rF i hi]; exact sb_nn (hbF.at i) hc
  have cT : ∀ i c, i < T.length → c < 128 → (r.2.1 45 (480 * j + i) = nn c ↔ T.getD i 0 = c) := fun i c hi hc => by rw [rT i hi]; exact sb_nn (hbT.at i) hc
  intro m
  induction m using Nat.strongRecOn with
  | _ m ih =>
  intro i t n hi hiF hn ht hlb
  obtain ⟨n', rfl⟩ : ∃ z, n = z + 1 := ⟨n - 1, by omega⟩
  have hld := lv_drop hlv i (by omega)
  rw [hlb] at hld
  have dF := drop_cons (l := F) (i := i) hiF
  have hne : F.drop i ≠ [] := by rw [dF]; exact fun z => by cases z
  have step := mc_step (T := T.drop t) hld hne
  rw [step]
  -- the end of a level
  have J211 : ∀ i' t' (f : Bool → Bool), i' ≤ F.length → i ≤ i' → t' ≤ T.length → wp (R_matches_J211 (fun l1 l2 l4 l5 l6 l7 => R_matches_L57 (R_matches_J100) (R_matches_J277) (fun l1 l2 l6 => R_matches_J286 l1 l2 l6) (R_matches_J328) (fun l5 l7 => R_matches_J342 l5 l7) n' l1 l2 l4 l5 l6 l7) (R_matches_J100) (R_matches_J277) (fun l1 l2 l6 => R_matches_J286 l1 l2 l6) (R_matches_J328) (fun l5 l7 => R_matches_J342 l5 l7) (nn o) (nn F.length) (nn (480 * j)) (nn T.length) (nn i') (nn t')) r (fun v r' => r' = r ∧ v = if mme mc (F.drop i') (T.drop t') = true then 1 else 0) := by
    intro i' t' _ h1 h2 h3
    have fin : ∀ fe te : Bool, (fe = true ↔ (F.drop i' = [] ∨ (F.drop i').head? = some 47)) → (te = true ↔ (T.drop t' = [] ∨ (T.drop t').head? = some 47)) → wp (R_matches_J265 (fun l1 l2 l4 l5 l6 l7 => R_matches_L57 (R_matches_J100) (R_matches_J277) (fun l1 l2 l6 => R_matches_J286 l1 l2 l6) (R_matches_J328) (fun l5 l7 => R_matches_J342 l5 l7) n' l1 l2 l4 l5 l6 l7) (R_matches_J100) (R_matches_J277) (fun l1 l2 l6 => R_matches_J286 l1 l2 l6) (R_matches_J328) (fun l5 l7 => R_matches_J342 l5 l7) (nn o) (nn F.length) (nn (480 * j)) (nn T.length) (nn i') (nn t') (if fe = true then 1 else 0) (if te = true then 1 else 0)) r (fun v r' => r' = r ∧ v = if mme mc (F.drop i') (T.drop t') = true then 1 else 0) := by
      intro fe te efe ete
      unfold R_matches_J265
      by_cases gf : fe = true
      · rw [if_pos gf, wp_neg (by decide)]
        by_cases gt : te = true
        · rw [if_pos gt, wp_neg (by decide)]
          have emme : mme mc (F.drop i') (T.drop t') = if T.drop t' = [] then decide (F.drop i' = [] ∨ F.drop i' = [47, 35]) else if F.drop i' = [] then false else if (F.drop i').tail = [] then decide ((T.drop t').tail = []) else mc (F.drop i').tail (T.drop t').tail := by
            unfold mme
            rw [if_pos ⟨efe.mp gf, ete.mp gt⟩]
          rw [emme]
          by_cases g1 : t' = T.length
          · rw [wp_pos (by rw [g1]), if_pos (nil_drop.mpr (by omega))]
            unfold R_matches_J286
            dsimp only
            by_cases g2 : i' = F.length
            · rw [wp_pos (by rw [g2]), wp_zt, decide_eq_true (Or.inl (nil_drop.mpr (by omega)))]
              exact ⟨Or.inr rfl, rfl, rfl⟩
            · have n47 : F.getD i' 0 = 47 := by
                rcases efe.mp gf with z | z
                · exact absurd (nil_drop.mp z) (by omega)
                · exact (head_drop.mp z).2
              rw [wp_neg (fun e => g2 (nn_inj (by omega) (by omega) e))]
              have d1 := drop_cons (l := F) (i := i') (by omega)
              by_cases g3 : F.length = i' + 2
              · rw [wp_pos (by rw [l_2, nn_sub (by omega)]; congr 1; omega), nn_add, l_1, nn_add, wr_26 (by omega), Nat.add_assoc]
                have d2 := drop_cons (l := F) (i := i' + 1) (by omega)
                have d3 := drop_all (l := F) (i := i' + 1 + 1) (by omega)
                by_cases g4 : F.getD (i' + 1) 0 = 35
                · rw [l_35, wp_pos ((cF (i' + 1) 35 (by omega) (by omega)).mpr g4), wp_zt, decide_eq_true (Or.inr (by rw [d1, d2, d3, n47, g4]))]
                  exact ⟨Or.inr rfl, rfl, rfl⟩
                · rw [l_35, wp_neg (fun e => g4 ((cF (i' + 1) 35 (by omega) (by omega)).mp e)), wp_zt, decide_eq_false (fun z => by
                    rcases z with z | z
                    · rw [d1] at z; cases z
                    · rw [d1, d2, d3] at z
                      exact g4 (by injection z with z1 z2; injection z2))]
                  exact ⟨Or.inl rfl, rfl, rfl⟩
              · rw [wp_neg (fun e => g3 (by
                  by_cases q : 2 ≤ F.length
                  · rw [l_2, nn_sub q] at e
                    have := nn_inj (by omega) (by omega) e
                    omega
                  · exfalso
                    have q1 : F.length = 1 := by omega
                    have q2 : i' = 0 := by omega
                    rw [q1, q2] at e
                    exact absurd e (by decide))), wp_zt, decide_eq_false (fun z => by
                    rcases z with z | z
                    · rw [d1] at z; cases z
                    · have := congrArg List.length z
                      rw [List.length_drop] at this
                      have e2 : ([47, 35] : List Nat).length = 2 := rfl
                      omega)]
                exact ⟨Or.inl rfl, rfl, rfl⟩
          · rw [wp_neg (fun e => g1 (nn_inj (by omega) (by omega) e)), if_neg (show ¬ T.drop t' = [] from fun z => by have := nil_drop.mp z; omega)]
            by_cases g2 : i' = F.length
            · rw [wp_pos (by rw [g2]), if_pos (show F.drop i' = [] from nil_drop.mpr (by omega))]
              unfold R_matches_J328
              rw [wp_zt]
              exact ⟨Or.inl rfl, rfl, rfl⟩
            · rw [wp_neg (fun e => g2 (nn_inj (by omega) (by omega) e)), if_neg (show ¬ F.drop i' = [] from fun z => by have := nil_drop.mp z; omega), l_1, nn_add, nn_add]
              have tF : (F.drop i').tail = F.drop (i' + 1) := by rw [drop_cons (show i' < F.length by omega)]; rfl
              have tT : (T.drop t').tail = T.drop (t' + 1) := by rw [drop_cons (show t' < T.length by omega)]; rfl
              have n47 : F.getD i' 0 = 47 := by
                rcases efe.mp gf with z | z
                · exact absurd (nil_drop.mp z) (by omega)
                · exact (head_drop.mp z).2
              rw [tF, tT]
              by_cases g3 : i' + 1 = F.length
              · rw [wp_pos (by rw [g3]), if_pos (show F.drop (i' + 1) = [] from nil_drop.mpr (by omega))]
                unfold R_matches_J342
                dsimp only
                by_cases g4 : t' + 1 = T.length
                · rw [wp_pos (by rw [g4]), wp_zt, decide_eq_true (nil_drop.mpr (by omega))]
                  exact ⟨Or.inr rfl, rfl, rfl⟩
                · rw [wp_neg (fun e => g4 (nn_inj (by omega) (by omega) e)), wp_zt, decide_eq_false (fun z => by have := nil_drop.mp z; omega)]
                  exact ⟨Or.inl rfl, rfl, rfl⟩
              · rw [wp_neg (fun e => g3 (nn_inj (by omega) (by omega) e)), if_neg (show ¬ F.drop (i' + 1) = [] from fun z => by have := nil_drop.mp z; omega)]
                refine ih (F.length - (i' + 1)) (by omega) (i' + 1) (t' + 1) n' (by omega) (by omega) (by omega) (by omega) ?_
                unfold lvb
                rw [Nat.add_sub_cancel, decide_eq_true (Or.inr n47)]
        · rw [if_neg gt, wp_pos rfl]
          unfold R_matches_J277
          rw [wp_zt, mme_no (fun z => gt (ete.mpr z.2))]
          exact ⟨Or.inl rfl, rfl, rfl⟩
      · rw [if_neg gf, wp_pos rfl]
        unfold R_matches_J277
        rw [wp_zt, mme_no (fun z => gf (efe.mpr z.1))]
        exact ⟨Or.inl rfl, rfl, rfl⟩
    have J236 : ∀ fe : Bool, (fe = true ↔ (F.drop i' = [] ∨ (F.drop i').head? = some 47)) → wp (R_matches_J236 (fun l1 l2 l4 l5 l6 l7 => R_matches_L57 (R_matches_J100) (R_matches_J277) (fun l1 l2 l6 => R_matches_J286 l1 l2 l6) (R_matches_J328) (fun l5 l7 => R_matches_J342 l5 l7) n' l1 l2 l4 l5 l6 l7) (R_matches_J100) (R_matches_J277) (fun l1 l2 l6 => R_matches_J286 l1 l2 l6) (R_matches_J328) (fun l5 l7 => R_matches_J342 l5 l7) (nn o) (nn F.length) (nn (480 * j)) (nn T.length) (nn i') (nn t') (if fe = true then 1 else 0)) r (fun v r' => r' = r ∧ v = if mme mc (F.drop i') (T.drop t') = true then 1 else 0) := by
      intro fe efe
      unfold R_matches_J236
      by_cases g1 : t' = T.length
      · rw [wp_pos (by rw [g1])]
        unfold R_matches_J260
        exact fin fe true efe ⟨fun _ => Or.inl (nil_drop.mpr (by omega)), fun _ => rfl⟩
      · rw [wp_neg (fun e => g1 (nn_inj (by omega) (by omega) e)), nn_add, wr_45 (by omega)]
        by_cases g2 : T.getD t' 0 = 47
        · rw [l_47, wp_pos ((cT t' 47 (by omega) (by omega)).mpr g2)]
          unfold R_matches_J260
          exact fin fe true efe ⟨fun _ => Or.inr (head_drop.mpr ⟨by omega, g2⟩), fun _ => rfl⟩
        · rw [l_47, wp_neg (fun e => g2 ((cT t' 47 (by omega) (by omega)).mp e))]
          refine fin fe false efe ⟨fun z => (by cases z), fun z => ?_⟩
          rcases z with z | z
          · exact absurd (nil_drop.mp z) (by omega)
          · exact absurd (head_drop.mp z).2 g2
    unfold R_matches_J211
    by_cases g1 : i' = F.length
    · rw [wp_pos (by rw [g1])]
      unfold R_matches_J231
      exact J236 true ⟨fun _ => Or.inl (nil_drop.mpr (by omega)), fun _ => rfl⟩
    · rw [wp_neg (fun e => g1 (nn_inj (by omega) (by omega) e)), nn_add, wr_26 (by omega)]
      by_cases g2 : F.getD i' 0 = 47
      · rw [l_47, wp_pos ((cF i' 47 (by omega) (by omega)).mpr g2)]
        unfold R_matches_J231
        exact J236 true ⟨fun _ => Or.inr (head_drop.mpr ⟨by omega, g2⟩), fun _ => rfl⟩
      · rw [l_47, wp_neg (fun e => g2 ((cF i' 47 (by omega) (by omega)).mp e))]
        refine J236 false ⟨fun z => (by cases z), fun z => ?_⟩
        rcases z with z | z
        · exact absurd (nil_drop.mp z) (by omega)
        · exact absurd (head_drop.mp z).2 g2
  -- the topic's level is skipped
  have skip : ∀ (m2 t' n2 : Nat), t' + m2 = T.length → m2 < n2 → wp (R_matches_L125 (fun l1 l2 l4 l5 l6 l7 => R_matches_J211 (fun l1 l2 l4 l5 l6 l7 => R_matches_L57 (R_matches_J100) (R_matches_J277) (fun l1 l2 l6 => R_matches_J286 l1 l2 l6) (R_matches_J328) (fun l5 l7 => R_matches_J342 l5 l7) n' l1 l2 l4 l5 l6 l7) (R_matches_J100) (R_matches_J277) (fun l1 l2 l6 => R_matches_J286 l1 l2 l6) (R_matches_J328) (fun l5 l7 => R_matches_J342 l5 l7) l1 l2 l4 l5 l6 l7) n2 (nn o) (nn F.length) (nn (480 * j)) (nn T.length) (nn (i + 1)) (nn t')) r (fun v r' => r' = r ∧ v = if mme mc (F.drop (i + 1)) ((T.drop t').dropWhile (fun c => decide (c ≠ 47))) = true then 1 else 0) := by
    intro m2
    induction m2 with
    | zero =>
      intro t' n2 h1 h2
      obtain ⟨n3, rfl⟩ : ∃ z, n2 = z + 1 := ⟨n2 - 1, by omega⟩
      show wp (R_matches_B125 _ _ (nn o) (nn F.length) (nn (480 * j)) (nn T.length) (nn (i + 1)) (nn t')) r _
      unfold R_matches_B125
      rw [wp_pos (by rw [nn_le (by omega) (by omega)]; omega)]
      have e : (T.drop t').dropWhile (fun c => decide (c ≠ 47)) = T.drop t' := by rw [drop_all (show T.length ≤ t' by omega)]; rfl
      rw [e]
      exact J211 (i + 1) t' (fun b => b) (by omega) (by omega) (by omega)
    | succ m2 ih2 =>
      intro t' n2 h1 h2
      obtain ⟨n3, rfl⟩ : ∃ z, n2 = z + 1 := ⟨n2 - 1, by omega⟩
      have dt := drop_cons (l := T) (i := t') (by omega)
      show wp (R_matches_B125 _ _ (nn o) (nn F.length) (nn (480 * j)) (nn T.length) (nn (i + 1)) (nn t')) r _
      unfold R_matches_B125
      rw [wp_neg (by rw [nn_le (by omega) (by omega)]; omega), nn_add, wr_45 (by omega)]
      by_cases g : T.getD t' 0 = 47
      · rw [l_47, wp_pos ((cT t' 47 (by omega) (by omega)).mpr g)]
        have e : (T.drop t').dropWhile (fun c => decide (c ≠ 47)) = T.drop t' := by rw [dt, List.dropWhile_cons, if_neg (by rw [g]; decide)]
        rw [e]
        exact J211 (i + 1) t' (fun b => b) (by omega) (by omega) (by omega)
      · rw [l_47, wp_neg (fun e => g ((cT t' 47 (by omega) (by omega)).mp e))]
        have e : (T.drop t').dropWhile (fun c => decide (c ≠ 47)) = (T.drop (t' + 1)).dropWhile (fun c => decide (c ≠ 47)) := by rw [dt, List.dropWhile_cons, if_pos (decide_eq_true g)]
        rw [e]
        show wp (R_matches_L125 _ n3 (nn o) (nn F.length) (nn (480 * j)) (nn T.length) (nn (i + 1)) (nn t' + 1)) r _
        rw [l_1, nn_add]
        exact ih2 (t' + 1) n3 (by omega) (by omega)
  -- the same bytes are skipped
  have strip : ∀ (m2 i' t' n2 : Nat), i' + m2 = F.length → i ≤ i' → t' ≤ T.length → m2 < n2 → wp (R_matches_L153 (fun l1 l2 l4 l5 l6 l7 => R_matches_J211 (fun l1 l2 l4 l5 l6 l7 => R_matches_L57 (R_matches_J100) (R_matches_J277) (fun l1 l2 l6 => R_matches_J286 l1 l2 l6) (R_matches_J328) (fun l5 l7 => R_matches_J342 l5 l7) n' l1 l2 l4 l5 l6 l7) (R_matches_J100) (R_matches_J277) (fun l1 l2 l6 => R_matches_J286 l1 l2 l6) (R_matches_J328) (fun l5 l7 => R_matches_J342 l5 l7) l1 l2 l4 l5 l6 l7) n2 (nn o) (nn F.length) (nn (480 * j)) (nn T.length) (nn i') (nn t')) r (fun v r' => r' = r ∧ v = if mme mc (sp (F.drop i') (T.drop t')).1 (sp (F.drop i') (T.drop t')).2 = true then 1 else 0) := by
    intro m2
    induction m2 with
    | zero =>
      intro i' t' n2 h1 h2 h3 h4
      obtain ⟨n3, rfl⟩ : ∃ z, n2 = z + 1 := ⟨n2 - 1, by omega⟩
      show wp (R_matches_B153 _ _ (nn o) (nn F.length) (nn (480 * j)) (nn T.length) (nn i') (nn t')) r _
      unfold R_matches_B153
      rw [wp_pos (by rw [nn_le (by omega) (by omega)]; omega)]
      have e : sp (F.drop i') (T.drop t') = (F.drop i', T.drop t') := by
        rw [drop_all (show F.length ≤ i' by omega)]
        cases T.drop t' <;> rfl
      rw [e]
      exact J211 i' t' (fun b => b) (by omega) h2 h3
    | succ m2 ih2 =>
      intro i' t' n2 h1 h2 h3 h4
      obtain ⟨n3, rfl⟩ : ∃ z, n2 = z + 1 := ⟨n2 - 1, by omega⟩
      have d1 := drop_cons (l := F) (i := i') (by omega)
      show wp (R_matches_B153 _ _ (nn o) (nn F.length) (nn (480 * j)) (nn T.length) (nn i') (nn t')) r _
      unfold R_matches_B153
      rw [wp_neg (by rw [nn_le (by omega) (by omega)]; omega), nn_add, wr_26 (by omega)]
      by_cases g47 : F.getD i' 0 = 47
      · rw [l_47, wp_pos ((cF i' 47 (by omega) (by omega)).mpr g47)]
        have e : sp (F.drop i') (T.drop t') = (F.drop i', T.drop t') := by
          rw [d1]
          cases hT' : T.drop t' with
          | nil => rfl
          | cons c T2 =>
            show (if F.getD i' 0 ≠ 47 ∧ c = F.getD i' 0 then _ else _) = _
            rw [if_neg (fun z => z.1 g47)]
        rw [e]
        exact J211 i' t' (fun b => b) (by omega) h2 h3
      · rw [l_47, wp_neg (fun e => g47 ((cF i' 47 (by omega) (by omega)).mp e))]
        by_cases gt : t' = T.length
        · rw [wp_pos (by rw [nn_le (by omega) (by omega)]; omega)]
          have e : sp (F.drop i') (T.drop t') = (F.drop i', T.drop t') := by
            rw [drop_all (show T.length ≤ t' by omega), d1]
            rfl
          rw [e]
          exact J211 i' t' (fun b => b) (by omega) h2 h3
        · have dt := drop_cons (l := T) (i := t') (by omega)
          rw [wp_neg (by rw [nn_le (by omega) (by omega)]; omega), nn_add, wr_45 (by omega), wr_26 (by omega), rT t' (by omega), rF i' (by omega)]
          by_cases ge : T.getD t' 0 = F.getD i' 0
          · rw [wp_pos (by rw [ge])]
            have e : sp (F.drop i') (T.drop t') = sp (F.drop (i' + 1)) (T.drop (t' + 1)) := by
              rw [d1, dt]
              show (if F.getD i' 0 ≠ 47 ∧ T.getD t' 0 = F.getD i' 0 then _ else _) = _
              rw [if_pos ⟨g47, ge⟩]
            rw [e]
            show wp (R_matches_L153 _ n3 (nn o) (nn F.length) (nn (480 * j)) (nn T.length) (nn i' + 1) (nn t' + 1)) r _
            rw [l_1, nn_add, nn_add]
            exact ih2 (i' + 1) (t' + 1) n3 (by omega) (by omega) (by omega) (by omega)
          · rw [wp_neg (fun e => ge ((sb_inj (hbT.at t') (hbF.at i')).mp e))]
            have e : sp (F.drop i') (T.drop t') = (F.drop i', T.drop t') := by
              rw [d1, dt]
              show (if F.getD i' 0 ≠ 47 ∧ T.getD t' 0 = F.getD i' 0 then _ else _) = _
              rw [if_neg (fun z => ge z.2)]
            rw [e]
            exact J211 i' t' (fun b => b) (by omega) h2 h3
  have J102 : F.getD i 0 ≠ 35 → wp (R_matches_J102 (fun l1 l2 l4 l5 l6 l7 => R_matches_L57 (R_matches_J100) (R_matches_J277) (fun l1 l2 l6 => R_matches_J286 l1 l2 l6) (R_matches_J328) (fun l5 l7 => R_matches_J342 l5 l7) n' l1 l2 l4 l5 l6 l7) (R_matches_J100) (R_matches_J277) (fun l1 l2 l6 => R_matches_J286 l1 l2 l6) (R_matches_J328) (fun l5 l7 => R_matches_J342 l5 l7) (nn o) (nn F.length) (nn (480 * j)) (nn T.length) (nn i) (nn t)) r (fun v r' => r' = r ∧ v = if (if F.drop i = [35] then true else if (F.drop i).head? = some 43 then mme mc (F.drop i).tail ((T.drop t).dropWhile (fun c => decide (c ≠ 47))) else mme mc (sp (F.drop i) (T.drop t)).1 (sp (F.drop i) (T.drop t)).2) = true then 1 else 0) := by
    intro g35
    unfold R_matches_J102
    rw [wp_neg (by rw [nn_le (by omega) (by omega)]; omega), nn_add, wr_26 (by omega), if_neg (show ¬ F.drop i = [35] from fun z => g35 (by rw [dF] at z; injection z))]
    by_cases g43 : F.getD i 0 = 43
    · rw [l_43, wp_pos ((cF i 43 hiF (by omega)).mpr g43), l_1, nn_add, if_pos (show (F.drop i).head? = some 43 from head_drop.mpr ⟨hiF, g43⟩)]
      have e : (F.drop i).tail = F.drop (i + 1) := by rw [dF]; rfl
      rw [e]
      exact skip (T.length - t) t fu (by omega) (by unfold fu; omega)
    · rw [l_43, wp_neg (fun e => g43 ((cF i 43 hiF (by omega)).mp e)), if_neg (show ¬ (F.drop i).head? = some 43 from fun z => g43 (head_drop.mp z).2)]
      exact strip m i t fu hi (by omega) ht (by unfold fu; omega)
  show wp (R_matches_B57 _ _ _ _ _ _ (nn o) (nn F.length) (nn (480 * j)) (nn T.length) (nn i) (nn t)) r _
  unfold R_matches_B57
  rw [nn_add, wr_26 (by omega)]
  by_cases g35 : F.getD i 0 = 35
  · have eF : F.drop i = [35] := (lv_hash hld).mp (head_drop.mpr ⟨hiF, g35⟩)
    have en : F.length = i + 1 := by
      have := congrArg List.length eF
      rw [List.length_drop] at this
      have e2 : ([35] : List Nat).length = 1 := rfl
      omega
    rw [l_35, wp_pos ((cF i 35 hiF (by omega)).mpr g35), wp_pos (by rw [l_1, nn_sub (by omega)]; congr 1; omega)]
    have yes : wp (R_matches_J100) r (fun v r' => r' = r ∧ v = if (if F.drop i = [35] then true else if (F.drop i).head? = some 43 then mme mc (F.drop i).tail ((T.drop t).dropWhile (fun c => decide (c ≠ 47))) else mme mc (sp (F.drop i) (T.drop t)).1 (sp (F.drop i) (T.drop t)).2) = true then 1 else 0) := by
      unfold R_matches_J100
      rw [wp_zt, if_pos eF]
      exact ⟨Or.inr rfl, rfl, rfl⟩
    by_cases g0 : i = 0
    · rw [wp_pos (by rw [g0]; rfl)]
      exact yes
    · rw [wp_neg (show ¬ nn i = (0 : Int32) from fun e => g0 (nn_inj (by omega) (by omega) e)), l_1, nn_sub (by omega), wr_26 (by omega)]
      have n47 : F.getD (i - 1) 0 = 47 := by
        unfold lvb at hlb
        rcases of_decide_eq_true hlb with z | z
        · exact absurd z g0
        · exact z
      rw [show o + i - 1 = o + (i - 1) by omega, l_47, wp_pos ((cF (i - 1) 47 (by omega) (by omega)).mpr n47)]
      exact yes
  · rw [l_35, wp_neg (fun e => g35 ((cF i 35 hiF (by omega)).mp e))]
    exact J102 g35
end MMT
