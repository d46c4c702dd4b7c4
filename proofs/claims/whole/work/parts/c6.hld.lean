/-! ===== numbers that are held ===== -/
section HLD
variable {x ec es ew s b n k v : Nat} {e0 : Int32} {h h' : Hp} {r r' : RS}
theorem Rel.hld (R : Rel x ec es ew e0 h r) (hs : s < 12) (hb : har h (x + 34) s = some b) (p : Fm x [1010] (fun a => a = b + 4) h h') (px : Hx x b 8 h h') (w : Ro [43, 44] r r') (wx : Ho s 8 r r') (hH : SesH h' r' s b) (ha : har h' = har h) : Rel x ec es ew e0 h' r' := by
  have T := R.st
  have hx := T.1
  have Sb := R.ses hs hb
  have hb2 := Sb.1.2.1
  have hb4 := Sb.1.2.2.1
  have UD := R.2.2.2.2.2.1
  have actE : ∀ q, act r' s q ↔ act r s q := fun q => by
    unfold act
    rw [w.gA (by decide), w.gA (by decide)]
  have dlE : ∀ q, dl h' b q = dl h b q := fun q => by
    unfold dl
    rw [ha]
  refine R.same (i := 8) px wx hs hb (by rw [ha]) (R.2.1.fm T p w (by decide) (by decide)) (by rw [sSum.fm T p (by decide), w.gI (by decide)]; exact R.2.2.1) (w.gI (by decide)) (fun _ _ _ z => z) (fun _ _ _ z => z) (fun z => by omega) (by rw [w.gA (by decide)]) (by rw [w.gA (by decide)]) (fun _ _ _ _ => by rw [w.gA (by decide)]) (fun d hd => Or.inr ⟨p.gr (by decide) hd, fun f hf => p.gi ?_ hd⟩) (fun u hu => Or.inr (fun f hf => p.gi ?_ hu)) (fun z => by omega) ?_ ?_ ?_ ?_ ?_ ?_ (p.gr (by decide) (by omega)) (by rw [w.gA (by decide)]) ?_ ?_
  · simp only [List.mem_cons, List.not_mem_nil, or_false] at hf ⊢
    omega
  · simp only [List.mem_cons, List.not_mem_nil, or_false] at hf ⊢
    omega
  · exact ⟨Sb.1.sto p.1, Sb.2.1.fm (by omega) p.1 w (by decide), Sb.2.2.1.fm (by omega) p w (by decide) (by decide), Sb.2.2.2.1.fm (by omega) p w (by decide) (by decide), Sb.2.2.2.2.1.fm hb4 p w (by decide) (by omega) (by decide), Sb.2.2.2.2.2.1.fm hb4 p w (by decide) (by omega) (by decide), Sb.2.2.2.2.2.2.1.fm hb4 p w (by decide) (by omega) (by decide), hH, Sb.2.2.2.2.2.2.2.2.fm w (by decide)⟩
  · intro g
    exact (((R.2.2.2.2.1 s hs).at hb).2.2 g).fm (by omega) p w (by decide) (by decide)
  · intro q d hq hac hd
    rw [dlE] at hd
    exact ⟨⟨q, hq, (actE q).mp hac, hd⟩, p.gr (by decide) (act.lt Sb ((actE q).mp hac) hq hd)⟩
  · intro q q' d hq1 hq2 hac hac' hd1 hd2
    rw [dlE] at hd1 hd2
    exact (UD s s b b q q' d hs hs hb hb hq1 hq2 ((actE q).mp hac) ((actE q').mp hac') hd1 hd2).2
  · intro q u hq1 hu
    rw [w.gA (by decide)] at hq1
    rw [ha] at hu
    exact Or.inr ⟨q, hq1, hu⟩
  · intro q q' u hq1 hq2 hu hu'
    rw [w.gA (by decide)] at hq1 hq2
    rw [ha] at hu hu'
    exact (R.2.2.2.2.2.2.1 s s b b q q' u hs hs hb hb hq1 hq2 hu hu').2
  · intro q hq1
    rw [w.gA (by decide)] at hq1
    exact Or.inl ⟨q, hq1, by rw [w.gA (by decide)]⟩
  · intro q hq1
    rw [w.gA (by decide)] at hq1
    exact Or.inr ⟨q, hq1, by rw [w.gA (by decide)]⟩
theorem nFz (T : SesT x h s b) : ¬ Fz x h (b + 4) := fun z => by
  have := z.2.2.2
  rw [show b + 4 - 1 = b + 3 by omega] at this
  exact this T.2.2.2.2.2.2.1.2.1
/-- a list and the first place of a number -/
theorem first_at (l : List Nat) (v : Nat) : (∃ A B, l = A ++ v :: B ∧ v ∉ A) ∨ v ∉ l := by
  induction l with
  | nil => exact Or.inr (List.not_mem_nil)
  | cons a t ih =>
    by_cases g : a = v
    · exact Or.inl ⟨[], t, by rw [g]; rfl, List.not_mem_nil⟩
    · rcases ih with ⟨A, B, e, hn⟩ | hn
      · exact Or.inl ⟨a :: A, B, by rw [e]; rfl, fun z => by
          rcases List.mem_cons.mp z with y | y
          · exact g y.symm
          · exact hn y⟩
      · exact Or.inr (fun z => by
          rcases List.mem_cons.mp z with y | y
          · exact g y.symm
          · exact hn y)
theorem qm_holds {l : List Nat} (hs : s < 12) (hl : l.length ≤ 8) (h43 : r.2.1 43 s = nn l.length) (h44 : ∀ i, i < l.length → r.2.1 44 (8 * s + i) = nn (l.getD i 0)) (hb : ∀ v ∈ l, v < 65536) (hv : v < 65536) : (∀ A B, l = A ++ v :: B → v ∉ A → R_holds (nn s) (nn v) r = some (nn A.length, r)) ∧ (v ∉ l → R_holds (nn s) (nn v) r = some (-1, r)) := by
  have key : ∀ (c i f : Nat), i + c = l.length → c < f → (∀ q, q < i → l.getD q 0 ≠ v) → (∀ A B, l = A ++ v :: B → v ∉ A → R_holds_L2 (fun l3 => R_holds_J27 l3) (R_holds_J35) f (nn s) (nn v) (nn i) r = some (nn A.length, r)) ∧ (v ∉ l → R_holds_L2 (fun l3 => R_holds_J27 l3) (R_holds_J35) f (nn s) (nn v) (nn i) r = some (-1, r)) := by
    intro c
    induction c with
    | zero =>
      intro i f hi hf hz
      obtain ⟨f', rfl⟩ : ∃ z, f = z + 1 := ⟨f - 1, by omega⟩
      refine ⟨fun A B e hn => ?_, fun hn => ?_⟩
      · exfalso
        refine hz A.length (by rw [e] at hi; rw [List.length_append, List.length_cons] at hi; omega) ?_
        rw [e, gD_app, if_neg (by omega), Nat.sub_self]
        rfl
      · show R_holds_B2 _ _ _ (nn s) (nn v) (nn i) r = _
        unfold R_holds_B2 R_holds_J35
        rw [x_rA mL_43 hs (by omega), h43, if_pos (by rw [nn_le (by omega) (by omega)]; omega)]
        rfl
    | succ c ih =>
      intro i f hi hf hz
      obtain ⟨f', rfl⟩ : ∃ z, f = z + 1 := ⟨f - 1, by omega⟩
      have e44 := h44 i (by omega)
      have lb := hb (l.getD i 0) (mem_getD (by omega))
      have st : R_holds_L2 (fun l3 => R_holds_J27 l3) (R_holds_J35) (f' + 1) (nn s) (nn v) (nn i) r = if l.getD i 0 = v then some (nn i, r) else R_holds_L2 (fun l3 => R_holds_J27 l3) (R_holds_J35) f' (nn s) (nn v) (nn (i + 1)) r := by
        show R_holds_B2 _ _ _ (nn s) (nn v) (nn i) r = _
        unfold R_holds_B2 R_holds_J27
        rw [x_rA mL_43 hs (by omega), h43, if_neg (by rw [nn_le (by omega) (by omega)]; omega), l_8, nn_mul, nn_add, x_rA mL_44 (by omega) (by omega), e44, l_1, nn_add]
        by_cases g : l.getD i 0 = v
        · rw [if_pos (by rw [g]), if_pos g]
          rfl
        · rw [if_neg (fun z => g (nn_inj (by omega) (by omega) z)), if_neg g]
      rw [st]
      by_cases g : l.getD i 0 = v
      · rw [if_pos g]
        refine ⟨fun A B e hn => ?_, fun hn => absurd (by rw [← g]; exact mem_getD (by omega)) hn⟩
        have : A.length = i := by
          by_cases g1 : A.length < i
          · exfalso
            refine hz A.length g1 ?_
            rw [e, gD_app, if_neg (by omega), Nat.sub_self]
            rfl
          · by_cases g2 : i < A.length
            · exfalso
              rw [e, gD_app, if_pos g2] at g
              exact hn (by rw [← g]; exact mem_getD g2)
            · omega
        rw [this]
      · rw [if_neg g]
        exact ih (i + 1) f' (by omega) (by omega) (fun q hq => by
          by_cases z : q = i
          · rw [z]; exact g
          · exact hz q (by omega))
  exact key l.length 0 fu (by omega) (by unfold fu; omega) (fun q hq => by omega)
end HLD
