section LET
variable {x ec es ew s b n k v : Nat} {e0 : Int32} {h h' : Hp} {r r' : RS}
/-- the class looks for a number -/
theorem qc_find {l : List Nat} {α : Type} {L : Nat → Int32 → Hp → Option (α × Hp)} {K1 : Int32 → Hp → Option (α × Hp)} {K0 : Hp → Option (α × Hp)} (T : SesT x h s b) (hl : l.length ≤ 8) (hn : hfi h 1010 b = nn l.length) (ha : ∀ i, i < l.length → hai h (b + 4) i = nn (l.getD i 0)) (hb : ∀ v ∈ l, v < 65536) (hv : v < 65536)
    (hL : ∀ f i, L (f + 1) i = hgI 10 10 (some b) fun v6 => if v6 ≤ i then K0 else hgR 10 9 (some b) fun v7 => hAi v7 i fun v8 => if v8 = nn v then K1 i else L f (i + 1)) : (∀ A B, l = A ++ v :: B → v ∉ A → L fu 0 h = K1 (nn A.length) h) ∧ (v ∉ l → L fu 0 h = K0 h) := by
  obtain ⟨t1, _, _, _, _, _, _, ⟨t9, t10, t11⟩⟩ := T
  have e10 : hfi h (100 * 10 + 10) b = nn l.length := hn
  have t9' : hfr h (100 * 10 + 9) b = some (b + 4) := t9
  have key : ∀ (c i f : Nat), i + c = l.length → c < f → (∀ q, q < i → l.getD q 0 ≠ v) → (∀ A B, l = A ++ v :: B → v ∉ A → L f (nn i) h = K1 (nn A.length) h) ∧ (v ∉ l → L f (nn i) h = K0 h) := by
    intro c
    induction c with
    | zero =>
      intro i f hi hf hz
      obtain ⟨f', rfl⟩ : ∃ z, f = z + 1 := ⟨f - 1, by omega⟩
      refine ⟨fun A B e hn => ?_, fun hn => ?_⟩
      · exfalso
        refine hz A.length (by rw [e] at hi; rw [List.length_append, List.length_cons] at hi; omega) ?_
        rw [e, gD_app, if_neg (by omega), Nat.sub_self]
        rfl
      · rw [hL, e_gI (c := 10) t1, e10, if_pos (by rw [nn_le (by omega) (by omega)]; omega)]
    | succ c ih =>
      intro i f hi hf hz
      obtain ⟨f', rfl⟩ : ∃ z, f = z + 1 := ⟨f - 1, by omega⟩
      have e44 := ha i (by omega)
      have lb := hb (l.getD i 0) (mem_getD (by omega))
      have st : L (f' + 1) (nn i) h = if l.getD i 0 = v then K1 (nn i) h else L f' (nn (i + 1)) h := by
        rw [hL, e_gI (c := 10) t1, e10, if_neg (by rw [nn_le (by omega) (by omega)]; omega), e_gR (c := 10) t1, t9', e_Ai t10 (nn_inr (by rw [t11]; omega) (by omega)), nn_N (by omega), e44, l_1, nn_add]
        by_cases g : l.getD i 0 = v
        · rw [if_pos (by rw [g]), if_pos g]
        · rw [if_neg (fun z => g (nn_inj (by omega) (by omega) z)), if_neg g]
      rw [st]
      by_cases g : l.getD i 0 = v
      · rw [if_pos g]
        refine ⟨fun A B e hn => ?_, fun hn => absurd (by rw [← g]; exact mem_getD (by omega)) hn⟩
        have : A.length = i := by
          by_cases g1 : A.length < i
          · exfalso
            refine hz A.length g1 ?_
            rw [e, gD_app, if_neg (by omega), Nat.sub_self]
            rfl
          · by_cases g2 : i < A.length
            · exfalso
              rw [e, gD_app, if_pos g2] at g
              exact hn (by rw [← g]; exact mem_getD g2)
            · omega
        rw [this]
      · rw [if_neg g]
        exact ih (i + 1) f' (by omega) (by omega) (fun q hq => by
          by_cases z : q = i
          · rw [z]; exact g
          · exact hz q (by omega))
  exact key l.length 0 fu (by omega) (by unfold fu; omega) (fun q hq => by omega)
theorem qm_hshift (hs : s < 12) (hn : r.2.1 43 s = nn n) (hn2 : n ≤ 8) (hk : k < n) {ke : Int32 → Int32 → Int32 → RS → Option (Unit × RS)} {l3 l7 : Int32} : ∃ r', R_answered_L309 ke fu (nn s) l3 l7 (nn k) r = ke (nn s) l3 l7 r' ∧ Ho s 8 r r' ∧ Ro [44] r r' ∧ ∀ q, q < n - 1 → r'.2.1 44 (8 * s + q) = r.2.1 44 (8 * s + (if q < k then q else q + 1)) := by
  have key : ∀ (c q f : Nat) (r1 : RS), q + c = n - 1 → k ≤ q → c < f → Ho s 8 r r1 → Ro [44] r r1 → (∀ p, p < q → r1.2.1 44 (8 * s + p) = r.2.1 44 (8 * s + (if p < k then p else p + 1))) → (∀ p, q ≤ p → r1.2.1 44 (8 * s + p) = r.2.1 44 (8 * s + p)) → ∃ r', R_answered_L309 ke f (nn s) l3 l7 (nn q) r1 = ke (nn s) l3 l7 r' ∧ Ho s 8 r r' ∧ Ro [44] r r' ∧ ∀ q, q < n - 1 → r'.2.1 44 (8 * s + q) = r.2.1 44 (8 * s + (if q < k then q else q + 1)) := by
    intro c
    induction c with
    | zero =>
      intro q f r1 hq hkq hf w1 w2 h1 h2
      obtain ⟨f', rfl⟩ : ∃ z, f = z + 1 := ⟨f - 1, by omega⟩
      refine ⟨r1, ?_, w1, w2, fun p hp => h1 p (by omega)⟩
      show R_answered_B309 _ _ (nn s) l3 l7 (nn q) r1 = _
      unfold R_answered_B309
      rw [x_rA mL_43 hs (by omega), w2.gA (by decide), hn, l_1, nn_add, if_pos (by rw [nn_le (by omega) (by omega)]; omega)]
    | succ c ih =>
      intro q f r1 hq hkq hf w1 w2 h1 h2
      obtain ⟨f', rfl⟩ : ∃ z, f = z + 1 := ⟨f - 1, by omega⟩
      have e1 : R_answered_L309 ke (f' + 1) (nn s) l3 l7 (nn q) r1 = R_answered_L309 ke f' (nn s) l3 l7 (nn (q + 1)) (sA r1 44 (8 * s + q) (r1.2.1 44 (8 * s + q + 1))) := by
        show R_answered_B309 _ _ (nn s) l3 l7 (nn q) r1 = _
        unfold R_answered_B309
        rw [x_rA mL_43 hs (by omega), w2.gA (by decide), hn, l_1, nn_add, if_neg (by rw [nn_le (by omega) (by omega)]; omega), l_8, nn_mul, nn_add, nn_add, x_rA mL_44 (by omega) (by omega), x_wA mL_44 (by omega) (by omega)]
      rw [e1]
      refine ih (q + 1) f' _ (by omega) (by omega) (by omega) (w1.a (Or.inr (Or.inl ⟨by omega, by omega, by
        unfold ow
        rw [if_neg (by omega), if_neg (by omega), if_pos (by omega)]
        omega⟩))) (w2.a (by decide)) (fun p hp => ?_) (fun p hp => ?_)
      · rw [sA_2]
        by_cases z : p = q
        · rw [if_pos ⟨rfl, by omega⟩, z, if_neg (by omega), show 8 * s + q + 1 = 8 * s + (q + 1) by omega]
          exact h2 (q + 1) (by omega)
        · rw [if_neg (by omega)]
          exact h1 p (by omega)
      · rw [sA_2, if_neg (by omega)]
        exact h2 p (by omega)
  exact key (n - 1 - k) k fu r (by omega) (Nat.le_refl _) (by unfold fu; omega) Ho.rf Ro.rf (fun p hp => by rw [if_pos hp]) (fun p _ => rfl)
theorem perm_mid {A B A' B' : List Nat} (hp : (A ++ v :: B).Perm (A' ++ v :: B')) : (A ++ B).Perm (A' ++ B') := ((List.perm_middle.symm.trans hp).trans List.perm_middle).cons_inv
/-- the class's list when the last takes the place of one -/
theorem swap_del (A B : List Nat) : ∃ l' : List Nat, l'.length + 1 = (A ++ v :: B).length ∧ l'.Perm (A ++ B) ∧ ∀ j, j < l'.length → l'.getD j 0 = if j = A.length then (A ++ v :: B).getD l'.length 0 else (A ++ v :: B).getD j 0 := by
  rcases List.eq_nil_or_concat B with e | ⟨B', z, e⟩
  · subst e
    refine ⟨A, by rw [List.length_append]; rfl, by rw [List.append_nil], fun j hj => ?_⟩
    rw [if_neg (by omega), gD_app, if_pos hj]
  · rw [List.concat_eq_append] at e
    subst e
    refine ⟨A ++ z :: B', by simp only [List.length_append, List.length_cons, List.length_nil]; omega, ?_, fun j hj => ?_⟩
    · refine List.Perm.append_left A ?_
      exact (List.perm_append_singleton z B').symm
    · have hl : (A ++ z :: B').length = A.length + (B'.length + 1) := by rw [List.length_append, List.length_cons]
      rw [hl] at hj ⊢
      by_cases g : j = A.length
      · rw [if_pos g, gD_app, if_neg (by omega), gD_app, if_neg (by omega), show A.length + (B'.length + 1) - A.length = B'.length + 1 by omega, show j - A.length = 0 by omega]
        show z = (B' ++ [z]).getD B'.length 0
        rw [gD_app, if_neg (by omega), Nat.sub_self]
        rfl
      · rw [if_neg g, gD_app, gD_app]
        by_cases g2 : j < A.length
        · rw [if_pos g2, if_pos g2]
        · rw [if_neg g2, if_neg g2]
          obtain ⟨q, hq⟩ : ∃ q, j - A.length = q + 1 := ⟨j - A.length - 1, by omega⟩
          rw [hq]
          show B'.getD q 0 = (B' ++ [z]).getD q 0
          rw [gD_app, if_pos (by omega)]
theorem nodup_mid {A B : List Nat} (h : (A ++ v :: B).Nodup) : (A ++ B).Nodup := by
  have := (List.perm_middle (a := v) (l₁ := A) (l₂ := B)).nodup_iff.mp h
  exact (List.nodup_cons.mp this).2
theorem sim_letGo (R : Rel x ec es ew e0 h r) (hs : s < 12) (hb : har h (x + 34) s = some b) (hv : v < 65536) :
    (C_X8_letGo b (nn v) h = some (0, h) ∧ R_holds (nn s) (nn v) r = some (-1, r)) ∨ ∃ k h' r', k < 8 ∧ C_X8_letGo b (nn v) h = some (1, h') ∧ R_holds (nn s) (nn v) r = some (nn k, r) ∧ R_answered_L309 (fun l2 l3 l7 => R_answered_J354 l2 l3 l7) fu (nn s) (nn v) (nn k) (nn k) r = R_answered_J364 (nn v) (nn k) r' ∧ Rel x ec es ew e0 h' r' ∧ Fm x [1010] (fun a => a = b + 4) h h' ∧ Ro [43, 44] r r' ∧ hcs h' = hcs h := by
  have Sb := R.ses hs hb
  have hb2 := Sb.1.2.1
  have hb4 := Sb.1.2.2.1
  have hx := R.st.1
  obtain ⟨lc, lm, l1, l2, l3, l4, l5, l6, l7, l8⟩ := Sb.2.2.2.2.2.2.2.1
  have ll : lc.length = lm.length := l2.length_eq
  have lb : ∀ v ∈ lc, v < 65536 := fun w hw => l4 w (l2.mem_iff.mp hw)
  have qf := qc_find (v := v) (L := fun f i => C_X8_letGo_L2 b (fun l2 => C_X8_letGo_J20 b l2) (C_X8_letGo_J53 b) f (nn v) i) (K1 := fun i => C_X8_letGo_J20 b i) (K0 := C_X8_letGo_J53 b) Sb.1 l1 l5 l7 lb hv (fun f i => rfl)
  have qh := qm_holds (v := v) hs (by omega) l6 l8 l4 hv
  rcases first_at lm v with ⟨A', B', em, nm⟩ | nm
  · refine Or.inr ?_
    have hvc : v ∈ lc := l2.mem_iff.mpr (by rw [em]; exact List.mem_append_right _ (List.mem_cons_self ..))
    rcases first_at lc v with ⟨A, B, ec', nc⟩ | nc
    · have lenA : A.length < lc.length := by rw [ec', List.length_append, List.length_cons]; omega
      have lenA' : A'.length < lm.length := by rw [em, List.length_append, List.length_cons]; omega
      obtain ⟨r1, e1, w1, w2, w3⟩ := qm_hshift (r := r) (s := s) (n := lm.length) (k := A'.length) hs l6 (by omega) lenA' (ke := fun l2 l3 l7 => R_answered_J354 l2 l3 l7) (l3 := nn v) (l7 := nn A'.length)
      obtain ⟨l', s1, s2, s3⟩ := swap_del (v := v) A B
      rw [← ec'] at s1 s3
      obtain ⟨h', eh'⟩ : ∃ z, z = sai (sfi h 1010 b (nn (lc.length - 1))) (b + 4) (upd (hai h (b + 4)) A.length (hai h (b + 4) (lc.length - 1))) := ⟨_, rfl⟩
      have p : Fm x [1010] (fun a => a = b + 4) h h' := by
        rw [eh']
        exact Fm.ai (Fm.fi Fm.rf (Or.inl (by decide)) (Or.inl (by decide))) (Or.inl rfl) (nFz Sb.1)
      have px : Hx x b 8 h h' := by
        rw [eh']
        exact Hx.ai (Hx.fi Hx.rf (Or.inl (Or.inl ⟨rfl, by omega, by omega⟩)) (Or.inl (by decide))) (Or.inl (Or.inl ⟨by omega, by omega⟩)) (nFz Sb.1)
      have wr : Ro [43, 44] r (sA r1 43 s (nn (lm.length - 1))) := (w2.sub (by decide)).a (by decide)
      have wx : Ho s 8 r (sA r1 43 s (nn (lm.length - 1))) := w1.a (Or.inr (Or.inl ⟨by omega, by omega, by
        unfold ow
        rw [if_neg (by omega), if_neg (by omega), if_neg (by omega), if_neg (by omega), if_neg (by omega)]⟩))
      have hn1010 : hfi h' 1010 b = nn l'.length := by
        rw [eh', hfi_sai, hfi_sfi, if_pos ⟨rfl, rfl⟩]
        congr 1
        omega
      have hH : SesH h' (sA r1 43 s (nn (lm.length - 1))) s b := by
        have lAB : (A' ++ B').length + 1 = lm.length := by
          rw [em]
          simp only [List.length_append, List.length_cons]
          omega
        refine ⟨l', A' ++ B', by omega, s2.trans (perm_mid (by rw [← ec', ← em]; exact l2)), nodup_mid (by rw [← em]; exact l3), fun w hw => l4 w ?_, hn1010, ?_, fun j hj => ?_, fun j hj => ?_⟩
        · rw [em]
          rcases List.mem_append.mp hw with z | z
          · exact List.mem_append_left _ z
          · exact List.mem_append_right _ (List.mem_cons_of_mem _ z)
        · rw [sA_2, if_pos ⟨rfl, rfl⟩]
          congr 1
          omega
        · rw [eh', hai_sai, if_pos rfl, s3 j hj]
          show (if j = A.length then hai h (b + 4) (lc.length - 1) else hai h (b + 4) j) = _
          by_cases z : j = A.length
          · rw [if_pos z, if_pos z, l7 _ (by omega), show lc.length - 1 = l'.length by omega]
          · rw [if_neg z, if_neg z, l7 _ (by omega)]
        · rw [sA_o (by decide), w3 j (by omega)]
          rw [gD_app]
          by_cases z : j < A'.length
          · rw [if_pos z, if_pos z, l8 j (by omega), em, gD_app, if_pos z]
          · rw [if_neg z, if_neg z, l8 (j + 1) (by omega), em, gD_app, if_neg (by omega), show j + 1 - A'.length = j - A'.length + 1 by omega]
            rfl
      refine ⟨A'.length, h', sA r1 43 s (nn (lm.length - 1)), by omega, ?_, qh.1 A' B' em nm, ?_, R.hld hs hb p px wr wx hH (by rw [eh']; rfl), p, wr, by rw [eh']; rfl⟩
      · unfold C_X8_letGo
        rw [qf.1 A B ec' nc]
        unfold C_X8_letGo_J20
        obtain ⟨t1, _, _, _, _, _, _, ⟨t9, t10, t11⟩⟩ := Sb.1
        have e10 : hfi h (100 * 10 + 10) b = nn lc.length := l5
        have hh : wp (hgI 10 10 (some b) fun v1 => hpI 10 10 (some b) (v1 - (1 : Int32)) <| hgR 10 9 (some b) fun v2 => hgR 10 9 (some b) fun v3 => hgI 10 10 (some b) fun v4 => hAi v3 v4 fun v5 => hWi v2 (nn A.length) v5 <| zt ((1 : Int32))) h (fun v h2 => v = 1 ∧ h2 = h') := by
          have e9 : hfr (sfi h (100 * 10 + 10) b (nn (lc.length - 1))) (100 * 10 + 9) b = some (b + 4) := t9
          have e10' : hfi (sfi h (100 * 10 + 10) b (nn (lc.length - 1))) (100 * 10 + 10) b = nn (lc.length - 1) := by rw [hfi_sfi, if_pos ⟨rfl, rfl⟩]
          rw [wp_gI t1, e10, l_1, nn_sub (by omega), wp_pI t1, wp_gR (by exact t1), wp_gR (by exact t1), e9, wp_gI (by exact t1), e10', wn_Ai (by exact t10) (by show lc.length - 1 < hln h (b + 4); rw [t11]; omega) (by omega), wn_Wi (by exact t10) (by show A.length < hln h (b + 4); rw [t11]; omega) (by omega), ← l_1, wp_zt]
          exact ⟨Or.inr rfl, rfl, by rw [eh']; rfl⟩
        obtain ⟨v', h2, g1, g2, g3⟩ := hh
        rw [g1, g2, g3]
      · rw [e1]
        unfold R_answered_J354
        rw [x_rA mL_43 hs (by omega), w2.gA (by decide), l6, l_1, nn_sub (by omega), x_wA mL_43 hs (by omega)]
    · exact absurd hvc nc
  · refine Or.inl ⟨?_, qh.2 nm⟩
    unfold C_X8_letGo
    rw [qf.2 (fun z => nm (l2.mem_iff.mp z))]
    unfold C_X8_letGo_J53
    have hh : wp (zt (0 : Int32)) h (fun v h2 => v = 0 ∧ h2 = h) := by
      rw [wp_zt]
      exact ⟨Or.inl rfl, rfl, rfl⟩
    obtain ⟨v', h2, g1, g2, g3⟩ := hh
    rw [g1, g2, g3]
end LET
