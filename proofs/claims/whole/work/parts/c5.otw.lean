/-! ===== deliveries by number ===== -/
section OTW
variable {x ec es ew s b n k num q : Nat} {e0 : Int32} {h : Hp} {r : RS}
theorem qc_onTheWay (R : Rel x ec es ew e0 h r) (hs : s < 12) (hb : har h (x + 34) s = some b) (hn : r.2.1 31 s = nn n) (hn2 : n ≤ 16) (hnum : num < 65536) (hq : q ≤ 2) :
    (∃ k d, k < n ∧ r.2.1 32 (16 * s + k) = nn num ∧ r.2.1 34 (16 * s + k) = nn q ∧ har h (b + 2) k = some d ∧ C_X8_onTheWay b (nn num) (nn q) h = some (some d, h)) ∨ ((∀ k, k < n → r.2.1 32 (16 * s + k) = nn num → r.2.1 34 (16 * s + k) ≠ nn q) ∧ C_X8_onTheWay b (nn num) (nn q) h = some (none, h)) := by
  have Sb := R.ses hs hb
  obtain ⟨n', q1, q2, q3, q4, q5⟩ := Sb.2.2.2.2.2.1
  have en : n' = n := nn_inj (by omega) (by omega) (q3.symm.trans hn)
  subst en
  obtain ⟨t1, t2, t3, t4, t5, ⟨t6, t7, t8⟩, t9⟩ := Sb.1
  have e6 : hfi h (100 * 10 + 6) b = nn n' := q2
  have t6' : hfr h (100 * 10 + 5) b = some (b + 2) := t6
  have key : ∀ (c i f : Nat), i + c = n' → c < f → (∀ k, k < i → r.2.1 32 (16 * s + k) = nn num → r.2.1 34 (16 * s + k) ≠ nn q) → (∃ k d, k < n' ∧ r.2.1 32 (16 * s + k) = nn num ∧ r.2.1 34 (16 * s + k) = nn q ∧ har h (b + 2) k = some d ∧ wp (C_X8_onTheWay_L2 b (fun l3 => C_X8_onTheWay_J36 b l3) (C_X8_onTheWay_J49 b) f (nn num) (nn q) (nn i)) h (fun v h' => v = some d ∧ h' = h)) ∨ ((∀ k, k < n' → r.2.1 32 (16 * s + k) = nn num → r.2.1 34 (16 * s + k) ≠ nn q) ∧ wp (C_X8_onTheWay_L2 b (fun l3 => C_X8_onTheWay_J36 b l3) (C_X8_onTheWay_J49 b) f (nn num) (nn q) (nn i)) h (fun v h' => v = none ∧ h' = h)) := by
    intro c
    induction c with
    | zero =>
      intro i f hi hf hz
      obtain ⟨f', rfl⟩ : ∃ z, f = z + 1 := ⟨f - 1, by omega⟩
      refine Or.inr ⟨fun k hk => hz k (by omega), ?_⟩
      show wp (C_X8_onTheWay_B2 b _ _ _ (nn num) (nn q) (nn i)) h _
      unfold C_X8_onTheWay_B2 C_X8_onTheWay_J49
      rw [wp_gI t1, e6, wp_pos (by rw [nn_le (by omega) (by omega)]; omega), wp_rt]
      exact ⟨rfl, rfl⟩
    | succ c ih =>
      intro i f hi hf hz
      obtain ⟨f', rfl⟩ : ∃ z, f = z + 1 := ⟨f - 1, by omega⟩
      obtain ⟨d, d1, m, j, ql, fl, id, nu, c1, c2, c3, c4, c5, c6, c7, c8, c9, c10⟩ := q4 i (by omega)
      have e4 : hfi h (100 * 3 + 4) d = nn nu := c8.1
      have e1 : hfi h (100 * 3 + 1) d = nn ql := c5.1
      have st : ∀ Q : Option Nat → Hp → Prop, (nu = num → ql = q → Q (some d) h) → (¬ (nu = num ∧ ql = q) → wp (C_X8_onTheWay_L2 b (fun l3 => C_X8_onTheWay_J36 b l3) (C_X8_onTheWay_J49 b) f' (nn num) (nn q) (nn (i + 1))) h Q) → wp (C_X8_onTheWay_L2 b (fun l3 => C_X8_onTheWay_J36 b l3) (C_X8_onTheWay_J49 b) (f' + 1) (nn num) (nn q) (nn i)) h Q := by
        intro Q g1 g2
        show wp (C_X8_onTheWay_B2 b _ _ _ (nn num) (nn q) (nn i)) h Q
        unfold C_X8_onTheWay_B2 C_X8_onTheWay_J36
        dsimp only
        rw [wp_gI t1, e6, wp_neg (by rw [nn_le (by omega) (by omega)]; omega), wp_gR t1, t6', wn_Ar (t := 7) t7 (by rw [t8]; omega) (by omega), d1, wp_gI c1.1, e4, l_1, nn_add]
        by_cases z1 : nu = num
        · rw [wp_pos (by rw [z1]), wp_gR t1, t6', wn_Ar (t := 7) t7 (by rw [t8]; omega) (by omega), d1, wp_gI c1.1, e1]
          by_cases z2 : ql = q
          · rw [wp_pos (by rw [z2]), wp_gR t1, t6', wn_Ar (t := 7) t7 (by rw [t8]; omega) (by omega), d1, wp_rt]
            exact g1 z1 z2
          · rw [wp_neg (fun y => z2 (nn_inj (by omega) (by omega) y))]
            exact g2 (fun y => z2 y.2)
        · rw [wp_neg (fun y => z1 (nn_inj (by omega) (by omega) y))]
          exact g2 (fun y => z1 y.1)
      by_cases z : nu = num ∧ ql = q
      · exact Or.inl ⟨i, d, by omega, by rw [c8.2.1, z.1], by rw [c5.2.1, z.2], d1, st _ (fun _ _ => ⟨rfl, rfl⟩) (fun y => absurd z y)⟩
      · have hz' : ∀ k, k < i + 1 → r.2.1 32 (16 * s + k) = nn num → r.2.1 34 (16 * s + k) ≠ nn q := fun k hk y1 y2 => by
          by_cases e : k = i
          · rw [e] at y1 y2
            exact z ⟨nn_inj (by omega) (by omega) (c8.2.1.symm.trans y1), nn_inj (by omega) (by omega) (c5.2.1.symm.trans y2)⟩
          · exact hz k (by omega) y1 y2
        rcases ih (i + 1) f' (by omega) (by omega) hz' with ⟨k, d', a1, a2, a3, a4, a5⟩ | ⟨a1, a2⟩
        · exact Or.inl ⟨k, d', a1, a2, a3, a4, st _ (fun y1 y2 => absurd ⟨y1, y2⟩ z) (fun _ => a5)⟩
        · exact Or.inr ⟨a1, st _ (fun y1 y2 => absurd ⟨y1, y2⟩ z) (fun _ => a2)⟩
  unfold C_X8_onTheWay
  rcases key n' 0 fu (by omega) (by unfold fu; omega) (fun k hk => by omega) with ⟨k, d, a1, a2, a3, a4, v, h', b1, b2, b3⟩ | ⟨a1, v, h', b1, b2, b3⟩
  · refine Or.inl ⟨k, d, a1, a2, a3, a4, ?_⟩
    rw [← b2, ← b3]
    rw [b3] at b1 ⊢
    exact b1
  · refine Or.inr ⟨a1, ?_⟩
    rw [← b2, ← b3]
    rw [b3] at b1 ⊢
    exact b1
/-- the model's place of a number -/
theorem qm_way (R : Rel x ec es ew e0 h r) (hs : s < 12) (hb : har h (x + 34) s = some b) (hn : r.2.1 31 s = nn n) (hn2 : n ≤ 16) (hnum : num < 65536) : (∃ k, k < n ∧ r.2.1 32 (16 * s + k) = nn num ∧ R_wayOf (nn s) (nn num) r = some (nn k, r)) ∨ ((∀ k, k < n → r.2.1 32 (16 * s + k) ≠ nn num) ∧ R_wayOf (nn s) (nn num) r = some (-1, r)) := by
  have Y := (R.ses hs hb).2.2.2.2.2.1
  have hw : ∀ k, k < n → r.2.1 32 (16 * s + k) = nn (wnum r s k) ∧ wnum r s k ≤ 16 := fun k hk => by
    obtain ⟨_, _, _, _, z1, _, z2⟩ := Y.num hn hn2 hk
    exact ⟨z1, z2⟩
  obtain ⟨v, e1, e2⟩ := qm_wayOf (l := num) hs hn hn2 hw hnum
  rcases e2 with ⟨k, k1, k2, k3, _⟩ | ⟨k1, k2⟩
  · exact Or.inl ⟨k, k1, by rw [(hw k k1).1, k3], by rw [e1, k2]⟩
  · refine Or.inr ⟨fun k hk z => k2 k hk ?_, by rw [e1, k1]⟩
    exact nn_inj (by have := (hw k hk).2; omega) (by omega) ((hw k hk).1.symm.trans z)
/-- one on the way is released -/
theorem Rel.rls {d : Nat} (R : Rel x ec es ew e0 h r) (hs : s < 12) (hb : har h (x + 34) s = some b) (hn : r.2.1 31 s = nn n) (hn2 : n ≤ 16) (hk : k < n) (hd : har h (b + 2) k = some d) (hq : r.2.1 34 (16 * s + k) = nn 2) : Rel x ec es ew e0 (sfi h 305 d 1) (sA r 37 (16 * s + k) 1) := by
  have T := R.st
  have hx := T.1
  have Sb := R.ses hs hb
  have hb2 := Sb.1.2.1
  have hb4 := Sb.1.2.2.1
  have p : Fm x [305] (fun _ => False) h (sfi h 305 d 1) := Fm.rf.fi (Or.inl (by decide)) (Or.inl (by decide))
  have w : Ro [37] r (sA r 37 (16 * s + k) 1) := Ro.rf.a (by decide)
  obtain ⟨n', q1, q2, q3, q4, q5⟩ := Sb.2.2.2.2.2.1
  have en : n' = n := nn_inj (by omega) (by omega) (q3.symm.trans hn)
  subst en
  have ak : act r s k := by
    unfold act
    rw [if_pos (by omega), hn, iN_nn (by omega)]
    exact hk
  have dk : dl h b k = some d := by
    unfold dl
    rw [if_pos (by omega)]
    exact hd
  have UD := R.2.2.2.2.2.1
  have actE : ∀ q, act (sA r 37 (16 * s + k) 1) s q ↔ act r s q := fun q => by
    unfold act
    rw [sA_o (by decide), sA_o (by decide)]
  refine R.same (i := 8) (Hx.rf.fi (Or.inl (Or.inr (Or.inr (Or.inl ⟨by omega, by omega⟩)))) (Or.inl (by decide))) (Ho.rf.a (Or.inr (Or.inl ⟨by omega, by omega, by unfold ow; rw [if_neg (by omega), if_neg (by omega), if_neg (by omega), if_pos (by omega)]; omega⟩))) hs hb rfl (R.2.1.fm T p w (by decide) (by decide)) (by rw [sSum.fm T p (by decide), w.gI (by decide)]; exact R.2.2.1) (w.gI (by decide)) (fun _ _ _ z => z) (fun _ _ _ z => z) (fun z => by omega) (by rw [w.gA (by decide)]) (by rw [w.gA (by decide)]) (fun _ _ _ _ => by rw [w.gA (by decide)]) (fun d' hd' => ?_) (fun u hu => Or.inr (fun f hf => p.gi ?_ hu)) (fun z => by omega) ?_ ?_ ?_ ?_ ?_ ?_ rfl (by rw [w.gA (by decide)]) ?_ ?_
  · by_cases g : d' = d
    · exact Or.inl ⟨k, by omega, ak, by rw [g]; exact dk⟩
    · refine Or.inr ⟨rfl, fun f hf => ?_⟩
      rw [hfi_sfi, if_neg (fun z => g z.2)]
  · simp only [List.mem_cons, List.not_mem_nil, or_false] at hf ⊢
    omega
  · refine ⟨Sb.1.sto p.1, Sb.2.1.fm (by omega) p.1 w (by decide), Sb.2.2.1.fm (by omega) p w (by decide) (by decide), Sb.2.2.2.1.fm (by omega) p w (by decide) (by decide), Sb.2.2.2.2.1.fm hb4 p w (by decide) (fun z => z) (by decide), ?_, ?_, Sb.2.2.2.2.2.2.2.1.fm hb4 p w (by decide) (fun z => z) (by decide), Sb.2.2.2.2.2.2.2.2.fm w (by decide)⟩
    · refine ⟨n', q1, by rw [p.gi (by decide) (by omega)]; exact q2, by rw [w.gA (by decide)]; exact q3, fun q hq' => ?_, by rw [w.gA (by decide)]; exact q5⟩
      obtain ⟨e, d1, m, j, ql, fl, id, num, c1, c2, c3, c4, c5, c6, c7, c8, c9, c10⟩ := q4 q hq'
      refine ⟨e, d1, m, j, ql, fl, id, num, c1, c2, by rw [w.gA (by decide)]; exact c3, c4.to p w (by decide) (by decide), by rw [p.gi (by decide) c1.2.2, w.gA (by decide)]; exact c5, by rw [p.gi (by decide) c1.2.2, w.gA (by decide)]; exact c6, by rw [p.gi (by decide) c1.2.2, w.gA (by decide)]; exact c7, by rw [p.gi (by decide) c1.2.2, w.gA (by decide)]; exact c8, ?_, ?_⟩
      · rw [hfi_sfi, sA_2]
        by_cases g : q = k
        · have ed : e = d := by
            rw [g, hd] at d1
            exact (Option.some.inj d1).symm
          rw [if_pos ⟨rfl, ed⟩, if_pos ⟨rfl, by omega⟩]
        · have ne : e ≠ d := fun z => by
            have := (UD s s b b q k d hs hs hb hb (by omega) (by omega) (by unfold act; rw [if_pos (by omega), hn, iN_nn (by omega)]; exact hq') ak (by unfold dl; rw [if_pos (by omega), d1, z]) dk).2
            exact g this
          rw [if_neg (fun z => ne z.2), if_neg (by omega)]
          exact c9
      · rw [sA_2]
        by_cases g : q = k
        · rw [if_pos ⟨rfl, by omega⟩]
          refine Or.inr ⟨rfl, ?_⟩
          rw [g] at c5
          exact nn_inj (by omega) (by omega) (c5.2.1.symm.trans hq)
        · rw [if_neg (by omega)]
          exact c10
    · obtain ⟨nq, y1, y2, y3, y4⟩ := Sb.2.2.2.2.2.2.1
      refine ⟨nq, y1, by rw [p.gi (by decide) (by omega)]; exact y2, by rw [w.gA (by decide)]; exact y3, fun q hq' => ?_⟩
      obtain ⟨e, d1, m, j, ql, fl, id, c1, c2, c3, c4, c5, c6, c7, c8⟩ := y4 q hq'
      have ne : e ≠ d := fun z => by
        have := (UD s s b b (q + 16) k d hs hs hb hb (by omega) (by omega) (by unfold act; rw [if_neg (by omega), y3, iN_nn (by omega)]; omega) ak (by unfold dl; rw [if_neg (by omega), show q + 16 - 16 = q by omega, d1, z]) dk).2
        omega
      refine ⟨e, d1, m, j, ql, fl, id, c1, c2, by rw [w.gA (by decide)]; exact c3, c4.to p w (by decide) (by decide), by rw [p.gi (by decide) c1.2.2, w.gA (by decide)]; exact c5, by rw [p.gi (by decide) c1.2.2, w.gA (by decide)]; exact c6, by rw [p.gi (by decide) c1.2.2, w.gA (by decide)]; exact c7, ?_⟩
      rw [hfi_sfi, if_neg (fun z => ne z.2)]
      exact c8
  · intro g
    exact (((R.2.2.2.2.1 s hs).at hb).2.2 g).fm (by omega) p w (by decide) (by decide)
  · intro q d' hq' ha hd'
    exact ⟨⟨q, hq', (actE q).mp ha, hd'⟩, rfl⟩
  · intro q q' d' hq1 hq2 ha ha' hd1 hd2
    exact (UD s s b b q q' d' hs hs hb hb hq1 hq2 ((actE q).mp ha) ((actE q').mp ha') hd1 hd2).2
  · intro q u hq1 hu
    rw [w.gA (by decide)] at hq1
    exact Or.inr ⟨q, hq1, hu⟩
  · intro q q' u hq1 hq2 hu hu'
    rw [w.gA (by decide)] at hq1 hq2
    exact (R.2.2.2.2.2.2.1 s s b b q q' u hs hs hb hb hq1 hq2 hu hu').2
  · intro q hq1
    rw [w.gA (by decide)] at hq1
    exact Or.inl ⟨q, hq1, by rw [w.gA (by decide)]⟩
  · intro q hq1
    rw [w.gA (by decide)] at hq1
    exact Or.inr ⟨q, hq1, by rw [w.gA (by decide)]⟩
end OTW
