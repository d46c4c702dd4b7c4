/-! ===== a new subscription; the model's place of one ===== -/
section SBN
variable {x ec es ew s b n k u w o t st id e i : Nat} {e0 : Int32} {h h' : Hp} {r r' r1 : RS} {ys bs bs' : List Nat}
theorem Pl.to (P : Pl x h r ys s k) (T : Stat x h) (hb : har h (x + 34) s = some b) (hb4 : b + 1 < hnx h) (p : Sto x h h') (e34 : har h' (x + 34) = har h (x + 34)) (e24 : r'.2.1 24 s = r.2.1 24 s) (e1 : har h' (b + 1) = har h (b + 1)) : Pl x h' r' ys s k := by
  obtain ⟨b', n, u, st, p1, p2, p3, p4, p5, p6⟩ := P
  rw [hb] at p1
  cases p1
  exact ⟨b, n, u, st, by rw [e34]; exact hb, by rw [e24]; exact p2, p3, p4, by rw [e1]; exact p5, p6.sto p⟩
/-- the new subscription of the class -/
def sbH (h : Hp) (b n t st : Nat) : Hp := sfi (sar (sfi (sfr (hob h 11 6) 1100 (hnx h) (some t)) 1101 (hnx h) (nn st)) (b + 1) (va_up (har h (b + 1)) n (some (hnx h)))) 1004 b (nn (n + 1))
/-- what the model does for it -/
def sbM (s n o' id : Nat) (ys : List Nat) (r r' : RS) : Prop := Ho s 8 r r' ∧ Ro [24, 25, 26, 27, 28, 29, 30, 92, 93, 94, 95, 96] r r' ∧ r'.2.1 24 s = nn (n + 1) ∧ r'.2.1 25 (8 * s + n) = nn ys.length ∧ Mg (r'.2.1 26) (64 * (8 * s + n)) ys ∧ r'.2.1 27 (8 * s + n) = nn o' ∧ r'.2.1 28 (8 * s + n) = nn id ∧ r'.2.1 29 (8 * s + n) = 0 ∧ r'.2.1 30 (8 * s + n) = 0 ∧ (∀ f ∈ [25, 27, 28, 29, 30], ∀ q, q ≠ 8 * s + n → r'.2.1 f q = r.2.1 f q) ∧ ∀ q, (q < 64 * (8 * s + n) ∨ 64 * (8 * s + n) + 64 ≤ q) → r'.2.1 26 q = r.2.1 26 q
theorem Rel.sbn (R : Rel x ec es 96 e0 h r) (hs : s < 12) (hb : har h (x + 34) s = some b) (hn : r.2.1 24 s = nn n) (hn2 : n < 8) (W : Rw x h t ys) (hst : fstart ys = some st) (hnew : ∀ k, ¬ Pl x h r ys s k) (ho : o < 64) (ho2 : o % 4 ≤ 2) (hid : id < 268435456) (M : sbM s n o id ys r r') : Rel x ec es 96 e0 (sfi (sfi (sbH h b n t st) 1102 (hnx h) (nn o)) 1103 (hnx h) (nn id)) r' ∧ Fm x [1004] (fun a => a = b + 1) h (sfi (sfi (sbH h b n t st) 1102 (hnx h) (nn o)) 1103 (hnx h) (nn id)) ∧ Pl x (sfi (sfi (sbH h b n t st) 1102 (hnx h) (nn o)) 1103 (hnx h) (nn id)) r' ys s n := by
  have T := R.st
  have hx := T.1
  have Sb := R.ses hs hb
  have hb2 := Sb.1.2.1
  have hb4 := Sb.1.2.2.1
  have US := R.2.2.2.2.2.2.1
  obtain ⟨n', q1, q2, q3, q4, q5⟩ := Sb.2.2.2.2.1
  have en : n' = n := nn_inj (by omega) (by omega) (q3.symm.trans hn)
  subst en
  obtain ⟨wx, wr, m24, m25, m26, m27, m28, m29, m30, mo, mo26⟩ := M
  obtain ⟨u, hu⟩ : ∃ u, u = hnx h := ⟨_, rfl⟩
  obtain ⟨h1, eh1⟩ : ∃ z, z = sfi (sfi (sbH h b n' t st) 1102 (hnx h) (nn o)) 1103 (hnx h) (nn id) := ⟨_, rfl⟩
  rw [← eh1]
  have hl := fstart_lt hst
  have le := Nat.le_refl (hnx h)
  obtain ⟨hA, ehA⟩ : ∃ z, z = sfr (hob h 11 6) 1100 (hnx h) (some t) := ⟨_, rfl⟩
  obtain ⟨hB, ehB⟩ : ∃ z, z = sfi hA 1101 (hnx h) (nn st) := ⟨_, rfl⟩
  obtain ⟨hC, ehC⟩ : ∃ z, z = sar hB (b + 1) (va_up (har h (b + 1)) n' (some (hnx h))) := ⟨_, rfl⟩
  obtain ⟨hD, ehD⟩ : ∃ z, z = sfi hC 1004 b (nn (n' + 1)) := ⟨_, rfl⟩
  obtain ⟨hE, ehE⟩ : ∃ z, z = sfi hD 1102 (hnx h) (nn o) := ⟨_, rfl⟩
  have eh1' : h1 = sfi hE 1103 (hnx h) (nn id) := by rw [eh1, ehE, ehD, ehC, ehB, ehA]; rfl
  have pA : Fm x [1004] (fun a => a = b + 1) h hA := by rw [ehA]; exact Fm.fr Fm.rf.ob (Or.inr le) (Or.inr le)
  have pB : Fm x [1004] (fun a => a = b + 1) h hB := by rw [ehB]; exact Fm.fi pA (Or.inr le) (Or.inr le)
  have pC : Fm x [1004] (fun a => a = b + 1) h hC := by rw [ehC]; exact Fm.ar pB (Or.inl rfl) (by omega)
  have pD : Fm x [1004] (fun a => a = b + 1) h hD := by rw [ehD]; exact Fm.fi pC (Or.inl (by decide)) (Or.inl (by decide))
  have pE : Fm x [1004] (fun a => a = b + 1) h hE := by rw [ehE]; exact Fm.fi pD (Or.inr le) (Or.inr le)
  have p0 : Fm x [1004] (fun a => a = b + 1) h h1 := by rw [eh1']; exact Fm.fi pE (Or.inr le) (Or.inr le)
  have p : Fm x [1004, 1102, 1103] (fun a => a = b + 1) h h1 := p0.sub (by decide) (fun _ z => z)
  have x0 : Hx x b 8 h (hob h 11 6) := ⟨Sto.rf.ob, fun f a ha _ => by rw [hfi_hob, hfl_hob, hfr_hob, if_neg (by omega), if_neg (by omega), if_neg (by omega)]; exact ⟨rfl, rfl, rfl⟩, fun a _ _ => ⟨rfl, rfl, rfl⟩⟩
  have xA : Hx x b 8 h hA := by rw [ehA]; exact Hx.fr x0 (Or.inr le) (Or.inr le)
  have xB : Hx x b 8 h hB := by rw [ehB]; exact Hx.fi xA (Or.inr le) (Or.inr le)
  have xC : Hx x b 8 h hC := by rw [ehC]; exact Hx.ar xB (Or.inl (Or.inl ⟨by omega, by omega⟩)) (by omega)
  have xD : Hx x b 8 h hD := by rw [ehD]; exact Hx.fi xC (Or.inl (Or.inl ⟨rfl, by omega, by omega⟩)) (Or.inl (by decide))
  have xE : Hx x b 8 h hE := by rw [ehE]; exact Hx.fi xD (Or.inr le) (Or.inr le)
  have px : Hx x b 8 h h1 := by rw [eh1']; exact Hx.fi xE (Or.inr le) (Or.inr le)
  have eb1 : ∀ q, har h1 (b + 1) q = if q = n' then some u else har h (b + 1) q := fun q => by
    rw [eh1]
    unfold sbH
    rw [har_sfi, har_sfi, har_sfi, har_sar, if_pos rfl, hu]
    rfl
  have e34 : har h1 (x + 34) = har h (x + 34) := (p.2.2 (x + 34) (by omega) (by omega)).2.1
  have nx1 : hnx h1 = u + 1 := by rw [eh1, hu]; rfl
  have old : ∀ q u', q < n' → har h (b + 1) q = some u' → u' < hnx h := fun q u' hq hq' => by
    obtain ⟨u2, c1, _, _, _, _, c3, _⟩ := q4 q hq
    rw [hq'] at c1
    cases c1
    exact c3.1.2.2
  have fi1 : ∀ f a, a < hnx h → f ≠ 1004 → hfi h1 f a = hfi h f a := fun f a ha hf => p0.gi (fun z => hf (List.mem_singleton.mp z)) ha
  have ST : SubT x h1 u ys st := by
    refine ⟨⟨?_, by omega, by omega⟩, ⟨t, ?_, W.stp p.1⟩, hst, ?_⟩
    · rw [eh1]
      unfold sbH
      rw [hkd_sfi, hkd_sfi, hkd_sfi, hkd_sar, hkd_sfi, hkd_sfr, hkd_hob, hu, if_pos rfl]
    · rw [eh1]
      unfold sbH
      rw [hfr_sfi, hfr_sfi, hfr_sfi, hfr_sar, hfr_sfi, hfr_sfr, hu, if_pos ⟨rfl, rfl⟩]
    · rw [eh1]
      unfold sbH
      rw [hfi_sfi, if_neg (by omega), hfi_sfi, if_neg (by omega), hfi_sfi, if_neg (by omega), hfi_sar, hfi_sfi, hu, if_pos ⟨rfl, rfl⟩]
  have newS : ∀ k' u' bs' st', k' < n' → har h (b + 1) k' = some u' → SubT x h u' bs' st' → bs' ≠ ys := fun k' u' bs' st' h1 h2 h3 z => by
    subst z
    exact hnew k' ⟨b, n', u', st', hb, hn, by omega, h1, h2, h3⟩
  refine ⟨R.sbs hs hb p px wr wx ⟨n' + 1, by omega, ?_, m24, fun k' hk' => ?_, ?_⟩ (fun u' hu' => ?_) (fun k' u' h1 h2 => ?_) (fun k1 k2 u' h1 h2 h3 h4 => ?_), p0, ⟨b, n' + 1, u, st, by rw [e34]; exact hb, m24, by omega, by omega, by rw [eb1, if_pos rfl], ST⟩⟩
  · rw [eh1]
    unfold sbH
    rw [hfi_sfi, if_neg (by omega), hfi_sfi, if_neg (by omega), hfi_sfi, if_pos ⟨rfl, rfl⟩]
  · by_cases z : k' = n'
    · subst z
      refine ⟨u, by rw [eb1, if_pos rfl], ys, st, o, id, ST, ⟨m25, m26⟩, ⟨?_, m27, ho, ho2⟩, ⟨?_, m28, hid⟩, ?_, fun _ _ => ?_⟩
      · rw [eh1, hfi_sfi, if_neg (by omega), hfi_sfi, hu, if_pos ⟨rfl, rfl⟩]
      · rw [eh1, hfi_sfi, hu, if_pos ⟨rfl, rfl⟩]
      · rw [m29, eh1]
        unfold sbH
        rw [hfi_sfi, if_neg (by omega), hfi_sfi, if_neg (by omega), hfi_sfi, if_neg (by omega), hfi_sar, hfi_sfi, if_neg (by omega), hfi_sfr, hfi_hob, hu, if_pos rfl]
      · rw [m30, eh1]
        unfold sbH
        rw [hfi_sfi, if_neg (by omega), hfi_sfi, if_neg (by omega), hfi_sfi, if_neg (by omega), hfi_sar, hfi_sfi, if_neg (by omega), hfi_sfr, hfi_hob, hu, if_pos rfl]
    · obtain ⟨u', c1, c2⟩ := q4 k' (by omega)
      have hu' := old k' u' (by omega) c1
      refine ⟨u', by rw [eb1, if_neg z]; exact c1, c2.mvd (by omega) p.1 (fun f hf => fi1 f u' hu' (fun y => ?_)) (fun f hf => mo f hf _ (by omega)) (fun q hq => mo26 _ (by omega))⟩
      subst y
      exact absurd hf (by decide)
  · intro k1 k2 u1 u2 bs st1 st2 a1 a2 a3 a4 a5 a6
    rw [eb1] at a3 a4
    have back : ∀ k' u' st', k' < n' + 1 → (if k' = n' then some u else har h (b + 1) k') = some u' → SubT x h1 u' bs st' → (k' = n' ∧ bs = ys) ∨ (k' < n' ∧ har h (b + 1) k' = some u' ∧ ∃ st0, SubT x h u' bs st0) := by
      intro k' u' st' y1 y2 y3
      by_cases z : k' = n'
      · rw [if_pos z] at y2
        cases y2
        exact Or.inl ⟨z, y3.inj ST⟩
      · rw [if_neg z] at y2
        obtain ⟨u2, c1, bs2, st2, _, _, c3, _⟩ := q4 k' (by omega)
        rw [y2] at c1
        cases c1
        have := (c3.sto p.1).inj y3
        exact Or.inr ⟨by omega, y2, st2, by rw [← this]; exact c3⟩
    rcases back k1 u1 st1 a1 a3 a5 with ⟨b1, b2⟩ | ⟨b1, b2, st3, b3⟩
    · rcases back k2 u2 st2 a2 a4 a6 with ⟨c1, c2⟩ | ⟨c1, c2, st4, c3⟩
      · omega
      · exact absurd b2 (newS k2 u2 bs st4 c1 c2 c3)
    · rcases back k2 u2 st2 a2 a4 a6 with ⟨c1, c2⟩ | ⟨c1, c2, st4, c3⟩
      · exact absurd c2 (newS k1 u1 bs st3 b1 b2 b3)
      · exact q5 k1 k2 u1 u2 bs st3 st4 b1 c1 b2 c2 b3 c3
  · exact Or.inr (fun f hf => fi1 f u' hu' (fun y => by subst y; exact absurd hf (by decide)))
  · rw [m24, iN_nn (by omega)] at h1
    rw [eb1] at h2
    by_cases z : k' = n'
    · rw [if_pos z] at h2
      cases h2
      exact Or.inl (by omega)
    · rw [if_neg z] at h2
      exact Or.inr ⟨k', by rw [hn, iN_nn (by omega)]; omega, h2⟩
  · rw [m24, iN_nn (by omega)] at h1 h2
    rw [eb1] at h3 h4
    by_cases z1 : k1 = n'
    · by_cases z2 : k2 = n'
      · omega
      · rw [if_pos z1] at h3
        rw [if_neg z2] at h4
        cases h3
        have := old k2 u (by omega) h4
        omega
    · by_cases z2 : k2 = n'
      · rw [if_neg z1] at h3
        rw [if_pos z2] at h4
        cases h4
        have := old k1 u (by omega) h3
        omega
      · rw [if_neg z1] at h3
        rw [if_neg z2] at h4
        exact (US s s b b k1 k2 u' hs hs hb hb (by rw [hn, iN_nn (by omega)]; omega) (by rw [hn, iN_nn (by omega)]; omega) h3 h4).2
/-- the model compares what was told -/
theorem sub_cmp {ke : Int32 → Int32 → Int32 → Int32 → Int32 → RS → Option (Int32 × RS)} {l1 l4 : Int32} (hM : Mg (r.2.1 26) (64 * w) bs') (hM6 : Mg (r.2.1 6) o ys) (B' : By bs') (B : By ys) (hl : bs'.length = ys.length) (hl2 : ys.length ≤ 64) (hw : w < 96) (ho : o + ys.length ≤ 3280) : ∀ (c q f : Nat), q + c = ys.length → c < f → bs'.take q = ys.take q → R_subscriptionOf_L44 ke f l1 (nn o) (nn ys.length) l4 (nn w) 1 (nn q) r = ke l1 (nn o) (nn ys.length) l4 (if bs' = ys then 1 else 0) r := by
  intro c
  induction c with
  | zero =>
    intro q f hq hf ht
    obtain ⟨f', rfl⟩ : ∃ z, f = z + 1 := ⟨f - 1, by omega⟩
    have e : bs' = ys := by
      rw [← List.take_length (l := bs'), ← List.take_length (l := ys), hl, ← show q = ys.length by omega]
      exact ht
    show R_subscriptionOf_B44 _ ke l1 (nn o) (nn ys.length) l4 (nn w) 1 (nn q) r = _
    unfold R_subscriptionOf_B44
    rw [if_pos (by rw [nn_le (by omega) (by omega)]; omega), if_pos e]
  | succ c ih =>
    intro q f hq hf ht
    obtain ⟨f', rfl⟩ : ∃ z, f = z + 1 := ⟨f - 1, by omega⟩
    obtain ⟨f'', rfl⟩ : ∃ z, f' = z + 1 := ⟨f' - 1, by omega⟩
    have hql : q < ys.length := by omega
    have b1 := B.at q
    have b2 := B'.at q
    show R_subscriptionOf_B44 _ ke l1 (nn o) (nn ys.length) l4 (nn w) 1 (nn q) r = _
    unfold R_subscriptionOf_B44 R_subscriptionOf_J85
    rw [if_neg (by rw [nn_le (by omega) (by omega)]; omega), if_neg (by decide), l_64, nn_mul, nn_add, x_rA mL_26 (by omega) (by omega), hM q (by omega), nn_add, x_rA mL_6 (by omega) (by omega), hM6 q hql]
    by_cases g : bs'.getD q 0 = ys.getD q 0
    · rw [if_pos ((sb_inj b2 b1).mpr g)]
      show R_subscriptionOf_L44 ke (f'' + 1) l1 (nn o) (nn ys.length) l4 (nn w) 1 (nn q + nn 1) r = _
      rw [nn_add]
      exact ih (q + 1) (f'' + 1) (by omega) (by omega) (by rw [take_s (by omega), take_s hql, ht, g])
    · have e : ¬ bs' = ys := fun z => g (by rw [z])
      rw [if_neg (fun z => g ((sb_inj b2 b1).mp z)), if_neg e]
      show R_subscriptionOf_B44 _ ke l1 (nn o) (nn ys.length) l4 (nn w) 0 (nn q + 1) r = _
      unfold R_subscriptionOf_B44
      by_cases y : nn ys.length ≤ nn q + 1
      · rw [if_pos y]
      · rw [if_neg y, if_pos rfl]
theorem qm_subOf (R : Rel x ec es ew e0 h r) (hs : s < 12) (hb : har h (x + 34) s = some b) (hM6 : Mg (r.2.1 6) o ys) (B : By ys) (ho : o + ys.length ≤ 3280) (hyl : ys.length ≤ 405) : ∃ v, R_subscriptionOf (nn s) (nn o) (nn ys.length) r = some (v, r) ∧ ((∃ k, k < 8 ∧ v = nn k ∧ Pl x h r ys s k) ∨ (v = -1 ∧ ∀ k, ¬ Pl x h r ys s k)) := by
  have Sb := R.ses hs hb
  obtain ⟨n, q1, q2, q3, q4, q5⟩ := Sb.2.2.2.2.1
  have inj : ∀ k u' bs' st', k < n → har h (b + 1) k = some u' → SubT x h u' bs' st' → Pl x h r ys s k → bs' = ys := by
    intro k u' bs' st' h1 h2 h3 h4
    obtain ⟨b', n', u2, st2, p1, p2, p3, p4, p5, p6⟩ := h4
    rw [hb] at p1
    cases p1
    rw [h2] at p5
    cases p5
    exact h3.inj p6
  have key : ∀ (c k f : Nat), k + c = n → c < f → (∀ j, j < k → ¬ Pl x h r ys s j) → ∃ v, R_subscriptionOf_L3 (fun l4 => R_subscriptionOf_J98 l4) (R_subscriptionOf_J107) f (nn s) (nn o) (nn ys.length) (nn k) r = some (v, r) ∧ ((∃ k, k < 8 ∧ v = nn k ∧ Pl x h r ys s k) ∨ (v = -1 ∧ ∀ k, ¬ Pl x h r ys s k)) := by
    intro c
    induction c with
    | zero =>
      intro k f hk hf hj
      obtain ⟨f', rfl⟩ : ∃ z, f = z + 1 := ⟨f - 1, by omega⟩
      refine ⟨-1, ?_, Or.inr ⟨rfl, fun j z => ?_⟩⟩
      · show R_subscriptionOf_B3 _ _ _ (nn s) (nn o) (nn ys.length) (nn k) r = _
        unfold R_subscriptionOf_B3 R_subscriptionOf_J107
        rw [x_rA mL_24 hs (by omega), q3, if_pos (by rw [nn_le (by omega) (by omega)]; omega)]
        rfl
      · have z' := z
        obtain ⟨b', n', u2, st2, p1, p2, p3, p4, p5, p6⟩ := z'
        have : n' = n := nn_inj (by omega) (by omega) (p2.symm.trans q3)
        exact hj j (by omega) z
    | succ c ih =>
      intro k f hk hf hj
      obtain ⟨f', rfl⟩ : ∃ z, f = z + 1 := ⟨f - 1, by omega⟩
      obtain ⟨u', c1, bs', st', o', id', c2, ⟨c3, c4⟩, _⟩ := q4 k (by omega)
      have hl' := (fstart_lt c2.2.2.1).2.1
      have By' : By bs' := by
        obtain ⟨t, _, t2⟩ := c2.2.1
        exact t2.2.2.1
      have st0 : R_subscriptionOf_L3 (fun l4 => R_subscriptionOf_J98 l4) (R_subscriptionOf_J107) (f' + 1) (nn s) (nn o) (nn ys.length) (nn k) r = (if bs' = ys then R_subscriptionOf_J98 (nn k) else R_subscriptionOf_L3 (fun l4 => R_subscriptionOf_J98 l4) (R_subscriptionOf_J107) f' (nn s) (nn o) (nn ys.length) (nn (k + 1))) r := by
        show R_subscriptionOf_B3 _ _ _ (nn s) (nn o) (nn ys.length) (nn k) r = _
        unfold R_subscriptionOf_B3 lq
        rw [x_rA mL_24 hs (by omega), q3, if_neg (by rw [nn_le (by omega) (by omega)]; omega), l_8, nn_mul, nn_add]
        dsimp only
        rw [x_rA mL_25 (by omega) (by omega), c3]
        by_cases gl : bs'.length = ys.length
        · rw [if_pos (by rw [gl])]
          unfold R_subscriptionOf_J39
          show R_subscriptionOf_L44 _ fu (nn s) (nn o) (nn ys.length) (nn k) (nn (8 * s + k)) 1 (nn 0) r = _
          rw [sub_cmp (w := 8 * s + k) c4 hM6 By' B gl (by omega) (by omega) ho ys.length 0 fu (by omega) (by unfold fu; omega) rfl]
          unfold R_subscriptionOf_J93
          by_cases g : bs' = ys
          · rw [if_pos g, if_pos g, if_neg (by decide)]
          · rw [if_neg g, if_neg g, if_pos rfl]
            show R_subscriptionOf_L3 _ _ f' (nn s) (nn o) (nn ys.length) (nn k + nn 1) r = _
            rw [nn_add]
        · have g : ¬ bs' = ys := fun z => gl (by rw [z])
          rw [if_neg (fun z => gl (nn_inj (by omega) (by omega) z)), if_neg g]
          unfold R_subscriptionOf_J39
          show R_subscriptionOf_B44 _ _ (nn s) (nn o) (nn ys.length) (nn k) (nn (8 * s + k)) 0 0 r = _
          unfold R_subscriptionOf_B44 R_subscriptionOf_J93
          have last : (if (0 : Int32) = 0 then R_subscriptionOf_L3 (fun l4 => R_subscriptionOf_J98 l4) (R_subscriptionOf_J107) f' (nn s) (nn o) (nn ys.length) (nn k + 1) else R_subscriptionOf_J98 (nn k)) r = R_subscriptionOf_L3 (fun l4 => R_subscriptionOf_J98 l4) (R_subscriptionOf_J107) f' (nn s) (nn o) (nn ys.length) (nn (k + 1)) r := by
            rw [if_pos rfl, l_1, nn_add]
          by_cases y : nn ys.length ≤ (0 : Int32)
          · rw [if_pos y]
            exact last
          · rw [if_neg y, if_pos rfl]
            exact last
      rw [st0]
      by_cases g : bs' = ys
      · rw [if_pos g]
        refine ⟨nn k, rfl, Or.inl ⟨k, by omega, rfl, b, n, u', st', hb, q3, q1, by omega, c1, by rw [← g]; exact c2⟩⟩
      · rw [if_neg g]
        refine ih (k + 1) f' (by omega) (by omega) (fun j hj' => ?_)
        by_cases z : j = k
        · rw [z]
          exact fun y => g (inj k u' bs' st' (by omega) c1 c2 y)
        · exact hj j (by omega)
  exact key n 0 fu (by omega) (by unfold fu; omega) (fun j hj => absurd hj (Nat.not_lt_zero j))
end SBN
