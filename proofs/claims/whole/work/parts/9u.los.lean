/-! ===== a connection is lost ===== -/
theorem Sim.toRight {α β : Type} {h : Hp} {r : RS} {Φ : α → Hp → β → RS → Prop} {P : Hp → Option (α × Hp)} {M : RS → Option (β × RS)} (s : Sim P h M r Φ) : wp M r (fun w r' => wp P h (fun v h' => Φ v h' w r')) := by
  obtain ⟨v, h', w, r', e1, e2, q⟩ := s
  exact ⟨w, r', e2, v, h', e1, q⟩
def lF : List Nat := [201, 202, 205, 208, 1002, 1017, 1313] ++ wF
def lS : List Nat := [1, 2, 5, 7, 9, 11, 15, 23, 24, 31, 38, 43, 74] ++ wS
def lAr (x : Nat) (h : Hp) : Nat → Prop := fun a => wAr x h a ∨ a = x + 34 ∨ ∃ i, i < 8 ∧ a = cA x i + 3
/-- a connection that was not touched -/
def Cu (x i : Nat) (h h' : Hp) (r r' : RS) : Prop := r'.2.1 1 i = r.2.1 1 i ∧ r'.2.1 5 i = r.2.1 5 i ∧ r'.2.1 7 i = r.2.1 7 i ∧ hfi h' 208 (cA x i) = hfi h 208 (cA x i)
theorem Cu.rf {x i : Nat} {h : Hp} {r : RS} : Cu x i h h r r := ⟨rfl, rfl, rfl, rfl⟩
theorem Cu.tr {x i : Nat} {h h1 h2 : Hp} {r r1 r2 : RS} (p : Cu x i h h1 r r1) (q : Cu x i h1 h2 r1 r2) : Cu x i h h2 r r2 := ⟨q.1.trans p.1, q.2.1.trans p.2.1, q.2.2.1.trans p.2.2.1, q.2.2.2.trans p.2.2.2⟩
def GL (x : Nat) (h h' : Hp) (r r' : RS) : Prop := Fm x lF (lAr x h) h h' ∧ Ro lS r r' ∧ (∀ s, har h' (x + 34) s = har h (x + 34) s ∨ har h' (x + 34) s = none) ∧ (∀ s, r'.2.1 11 s = r.2.1 11 s ∨ r'.2.1 11 s = 0) ∧ ∀ i, i < 8 → r'.2.1 1 i = 0 ∨ Cu x i h h' r r'
theorem GL.rf {x : Nat} {h : Hp} {r : RS} : GL x h h r r := ⟨Fm.rf, Ro.rf, fun _ => Or.inl rfl, fun _ => Or.inl rfl, fun _ _ => Or.inr Cu.rf⟩
theorem GL.tr {x : Nat} {h h1 h2 : Hp} {r r1 r2 : RS} (p : GL x h h1 r r1) (q : GL x h1 h2 r1 r2) : GL x h h2 r r2 := by
  have e : ∀ a, lAr x h1 a → lAr x h a := by
    rintro a ((z | z) | z)
    · rcases z with z | z | ⟨s, b, z1, z2, z3⟩
      · exact Or.inl (Or.inl (Or.inl z))
      · exact Or.inl (Or.inl (Or.inr (Or.inl z)))
      · rcases p.2.2.1 s with y | y
        · exact Or.inl (Or.inl (Or.inr (Or.inr ⟨s, b, z1, by rw [← y]; exact z2, z3⟩)))
        · rw [y] at z2; cases z2
    · exact Or.inl (Or.inr z)
    · exact Or.inr z
  refine ⟨p.1.tr (q.1.sub (fun _ z => z) e), p.2.1.tr q.2.1, fun s => ?_, fun s => ?_, fun i hi => ?_⟩
  · rcases q.2.2.1 s with z | z
    · rw [z]; exact p.2.2.1 s
    · exact Or.inr z
  · rcases q.2.2.2.1 s with z | z
    · rw [z]; exact p.2.2.2.1 s
    · exact Or.inr z
  · rcases q.2.2.2.2 i hi with z | z
    · exact Or.inl z
    · rcases p.2.2.2.2 i hi with y | y
      · exact Or.inl (by rw [z.1]; exact y)
      · exact Or.inr (y.tr z)
theorem GW.cu {x i : Nat} {h h' : Hp} {r r' : RS} (p : GW x h h' r r') (T : Stat x h) (hi : i < 8) : Cu x i h h' r r' := ⟨by rw [p.2.1.gA (by decide)], by rw [p.2.1.gA (by decide)], by rw [p.2.1.gA (by decide)], p.1.gi (by decide) (by have := T.cl hi; omega)⟩
theorem GW.gl {x : Nat} {h h' : Hp} {r r' : RS} (p : GW x h h' r r') (T : Stat x h) : GL x h h' r r' := ⟨p.1.sub (by decide) (fun _ z => Or.inl z), p.2.1.sub (by decide), fun s => Or.inl (by rw [p.2.2]), fun s => Or.inl (by rw [p.2.1.gA (by decide)]), fun i hi => Or.inr (p.cu T hi)⟩
section LOS
variable {x ec ec' es es' ew s b i : Nat} {e0 : Int32} {h : Hp} {r : RS}
theorem neg_nn {k : Nat} (hk : k < 2147483648) : (-1 : Int32) ≠ nn k := fun e => by
  have h0 : 0 ≤ nn k := nn_ge hk
  exact absurd (show (0 : Int32) ≤ -1 by rw [e]; exact h0) (by decide)
theorem Rel.clo0 {F : Nat → Option Nat} (R : Rel x ec es ew e0 h r) (hi : i < 8) (hF : ∀ o, o < 5 → F o = none) (h7 : r.2.1 7 i = -1) (hec : ∀ i', i' < 8 → i' ≠ i → i' ≠ ec' → i' ≠ ec) : Rel x ec' es ew e0 (cloH h (cA x i) F) (cloM r i) := by
  have T := R.st
  have p : Fm x [201, 202, 205, 208] (fun a => a = cA x i + 3) h (cloH h (cA x i) F) := cloH.fm
  have w := cloM.ro (r := r) (i := i)
  have hx := T.1
  refine R.cnn (i := i) (cloH.hx hi) cloM.ho (p.2.2 (x + 34) (by omega) (by simp only [cA]; omega)).2.1 (R.2.1.fm T p w (by decide) (by decide)) (by rw [sSum.fm T p (by decide), w.gI (by decide)]; exact R.2.2.1) (w.gI (by decide)) hec (fun _ s' hs' z => ?_) (fun d hd => ⟨p.gr (by decide) hd, fun f hf => p.gi ?_ hd⟩) (fun u hu f hf => p.gi ?_ hu) (fun _ => clo_con R hi hF (Fm.rf (F := []) (A := fun _ => False)) (Ro.rf (S := [])) (by decide) ⟨fun z => z, fun z => z, fun z => z⟩ (by decide))
  · rw [h7] at z
    exact absurd z (neg_nn (by omega))
  · simp only [List.mem_cons, List.not_mem_nil, or_false] at hf ⊢
    omega
  · simp only [List.mem_cons, List.not_mem_nil, or_false] at hf ⊢
    omega
theorem Rel.cloS {F : Nat → Option Nat} (R : Rel x ec es ew e0 h r) (hi : i < 8) (hF : ∀ o, o < 5 → F o = none) (hs : s < 12) (hb : har h (x + 34) s = some b) (h7 : r.2.1 7 i = nn s) (h15 : r.2.1 15 s = nn i) (hec : ∀ i', i' < 8 → i' ≠ i → i' ≠ ec' → i' ≠ ec) (hes : ∀ s', s' < 12 → s' ≠ s → s' ≠ es) (v : Int32) :
    Rel x ec' s ew e0 (sfi (sfr (cloH h (cA x i) F) 1002 b none) 1017 b v) (sA (cloM r i) 15 s (-1)) := by
  have T := R.st
  have hx := T.1
  have Sb := R.ses hs hb
  have hbl := Sb.1.2.2.1
  have hbx := Sb.1.2.1
  have p1 : Fm x [1002, 1017] (fun _ => False) (cloH h (cA x i) F) (sfi (sfr (cloH h (cA x i) F) 1002 b none) 1017 b v) := Fm.fi (Fm.fr Fm.rf (Or.inl (by decide)) (Or.inl (by decide))) (Or.inl (by decide)) (Or.inl (by decide))
  have p0 : Fm x [201, 202, 205, 208] (fun a => a = cA x i + 3) h (cloH h (cA x i) F) := cloH.fm
  have p : Fm x [201, 202, 205, 208, 1002, 1017] (fun a => a = cA x i + 3) h (sfi (sfr (cloH h (cA x i) F) 1002 b none) 1017 b v) := (p0.sub (by decide) (fun _ z => z)).tr (p1.sub (by decide) (fun _ z => z.elim))
  have w1 : Ro [15] (cloM r i) (sA (cloM r i) 15 s (-1)) := Ro.rf.a (by decide)
  have w : Ro [1, 2, 5, 7, 9, 15] r (sA (cloM r i) 15 s (-1)) := (cloM.ro.sub (by decide)).tr (w1.sub (by decide))
  have px : Hx x b i h (sfi (sfr (cloH h (cA x i) F) 1002 b none) 1017 b v) := by
    refine Hx.fi (Hx.fr (cloH.hx hi) ?_ ?_) ?_ ?_
    · exact Or.inl (Or.inl ⟨rfl, by omega, by omega⟩)
    · exact Or.inl (by decide)
    · exact Or.inl (Or.inl ⟨rfl, by omega, by omega⟩)
    · exact Or.inl (by decide)
  have wx : Ho s i r (sA (cloM r i) 15 s (-1)) := Ho.a cloM.ho (Or.inr (Or.inl ⟨by omega, by omega, rfl⟩))
  have e34 : har (sfi (sfr (cloH h (cA x i) F) 1002 b none) 1017 b v) (x + 34) = har h (x + 34) := (p.2.2 (x + 34) (by omega) (by simp only [cA]; omega)).2.1
  have nA : ∀ e, ¬ b + e = cA x i + 3 := fun e => by simp only [cA]; omega
  have edl : ∀ k, dl (sfi (sfr (cloH h (cA x i) F) 1002 b none) 1017 b v) b k = dl h b k := fun k => by
    unfold dl
    rw [(p.2.2 (b + 2) (by omega) (nA 2)).2.1, (p.2.2 (b + 3) (by omega) (nA 3)).2.1]
  have eac : ∀ k, act (sA (cloM r i) 15 s (-1)) s k ↔ act r s k := fun k => by
    unfold act
    rw [w.gA (by decide), w.gA (by decide)]
  have e1 : har (sfi (sfr (cloH h (cA x i) F) 1002 b none) 1017 b v) (b + 1) = har h (b + 1) := (p.2.2 (b + 1) (by omega) (nA 1)).2.1
  refine R.same (i := i) px wx hs hb e34 (R.2.1.fm T p w (by decide) (by decide)) (by rw [sSum.fm T p (by decide), w.gI (by decide)]; exact R.2.2.1) (w.gI (by decide)) hec (fun s' h0 h1 _ => hes s' h0 h1) (fun _ s' hs' h1 z => ?_) (by rw [w.gA (by decide)]) (by rw [w.gA (by decide)]) (fun i' h1 h2 h3 => ?_) (fun d hd => Or.inr ⟨p.gr (by decide) hd, fun f hf => p.gi ?_ hd⟩) (fun u hu => Or.inr (fun f hf => p.gi ?_ hu)) (fun _ => clo_con R hi hF p1 w1 (by decide) ⟨fun z => z, fun z => z, fun z => z⟩ (by decide)) ⟨Sb.1.sto p.1, Sb.2.1.fm (by omega) p.1 w (by decide), ?_, Sb.2.2.2.1.fm (by omega) p w (by decide) (by decide), Sb.2.2.2.2.1.fm hbl p w (by decide) (nA 1) (by decide), Sb.2.2.2.2.2.1.fm hbl p w (by decide) (nA 2) (by decide), Sb.2.2.2.2.2.2.1.fm hbl p w (by decide) (nA 3) (by decide), Sb.2.2.2.2.2.2.2.1.fm hbl p w (by decide) (nA 4) (by decide), Sb.2.2.2.2.2.2.2.2.fm w (by decide)⟩ (fun z => absurd rfl z) (fun k d g1 g2 g3 => ?_) (fun k k' d g1 g2 g3 g4 g5 g6 => ?_) (fun k u g1 g2 => ?_) (fun k k' u g1 g2 g3 g4 => ?_) (p.gr (by decide) (by omega)) (by rw [w.gA (by decide)]) (fun k hk => Or.inl ⟨k, ?_, by rw [w.gA (by decide)]⟩) (fun k hk => Or.inr ⟨k, ?_, by rw [w.gA (by decide)]⟩)
  · have : s' = s := nn_inj (by omega) (by omega) (z.symm.trans h7)
    exact absurd this h1
  · have hA := (R.2.2.2.1 i' h1).1.2.2.2
    rcases hA with z | ⟨s2, b2, z1, z2, z3, z4, z5, z6, z7⟩
    · rw [z.1] at h3; exact absurd h3 (neg_nn (by omega))
    · have : s2 = s := nn_inj (by omega) (by omega) (z2.symm.trans h3)
      subst this
      exact absurd (nn_inj (by omega) (by omega) (z5.symm.trans h15)) h2
  · simp only [List.mem_cons, List.not_mem_nil, or_false] at hf ⊢
    omega
  · simp only [List.mem_cons, List.not_mem_nil, or_false] at hf ⊢
    omega
  · obtain ⟨v1, v2, v3, v4, v5⟩ := Sb.2.2.1
    refine ⟨?_, ?_, ?_, ?_, Or.inl ⟨?_, ?_⟩⟩
    · rw [p.gl (by decide) (by omega), w.gL (by decide)]; exact v1
    · rw [p.gi (by decide) (by omega), w.gA (by decide)]; exact v2
    · rw [p.gl (by decide) (by omega), w.gL (by decide)]; exact v3
    · rw [p.gi (by decide) (by omega), w.gA (by decide)]; exact v4
    · rw [hfr_sfi, hfr_sfr, if_pos ⟨rfl, rfl⟩]
    · rw [sA_2, if_pos ⟨rfl, rfl⟩]
  · rw [edl] at g3
    exact ⟨⟨k, g1, (eac k).mp g2, g3⟩, p.gr (by decide) (act.lt Sb ((eac k).mp g2) g1 g3)⟩
  · rw [edl] at g5 g6
    exact (R.2.2.2.2.2.1 s s b b k k' d hs hs hb hb g1 g2 ((eac k).mp g3) ((eac k').mp g4) g5 g6).2
  · rw [w.gA (by decide)] at g1
    rw [e1] at g2
    exact Or.inr ⟨k, g1, g2⟩
  · rw [w.gA (by decide)] at g1 g2
    rw [e1] at g3 g4
    exact (R.2.2.2.2.2.2.1 s s b b k k' u hs hs hb hb g1 g2 g3 g4).2
  · rw [w.gA (by decide)] at hk; exact hk
  · rw [w.gA (by decide)] at hk; exact hk
/-- the model notes the times -/
theorem Rel.zset {r' : RS} (R : Rel x ec es ew e0 h r) (hs : s < 12) (hb : har h (x + 34) s = some b) (w : Ro [22, 23] r r') (wx : Ho s 8 r r') (hes : ∀ s', s' < 12 → s' ≠ s → s' ≠ es' → s' ≠ es) (hZ : s ≠ es' → SesZ h r' s b) : Rel x ec es' ew e0 h r' := by
  have T := R.st
  have Sb := R.ses hs hb
  have hbl := Sb.1.2.2.1
  have p : Fm x [] (fun _ => False) h h := Fm.rf
  have eac : ∀ k, act r' s k ↔ act r s k := fun k => by
    unfold act
    rw [w.gA (by decide), w.gA (by decide)]
  refine R.same (i := 8) (b := b) Hx.rf wx hs hb rfl (R.2.1.fm T p w (by decide) (by decide)) (by rw [w.gI (by decide)]; exact R.2.2.1) (w.gI (by decide)) (fun _ _ _ z => z) hes (fun z => by omega) (by rw [w.gA (by decide)]) (by rw [w.gA (by decide)]) (fun i' h1 h2 h3 => by rw [w.gA (by decide)]) (fun d hd => Or.inr ⟨rfl, fun f hf => rfl⟩) (fun u hu => Or.inr (fun f hf => rfl)) (fun z => by omega) ⟨Sb.1, Sb.2.1.fm (by omega) p.1 w (by decide), Sb.2.2.1.fm (by omega) p w (by decide) (by decide), Sb.2.2.2.1.fm (by omega) p w (by decide) (by decide), Sb.2.2.2.2.1.fm hbl p w (by decide) (fun z => z) (by decide), Sb.2.2.2.2.2.1.fm hbl p w (by decide) (fun z => z) (by decide), Sb.2.2.2.2.2.2.1.fm hbl p w (by decide) (fun z => z) (by decide), Sb.2.2.2.2.2.2.2.1.fm hbl p w (by decide) (fun z => z) (by decide), Sb.2.2.2.2.2.2.2.2.fm w (by decide)⟩ hZ (fun k d g1 g2 g3 => ⟨⟨k, g1, (eac k).mp g2, g3⟩, rfl⟩) (fun k k' d g1 g2 g3 g4 g5 g6 => (R.2.2.2.2.2.1 s s b b k k' d hs hs hb hb g1 g2 ((eac k).mp g3) ((eac k').mp g4) g5 g6).2) (fun k u g1 g2 => Or.inr ⟨k, by rw [w.gA (by decide)] at g1; exact g1, g2⟩) (fun k k' u g1 g2 g3 g4 => ?_) rfl (by rw [w.gA (by decide)]) (fun k hk => Or.inl ⟨k, ?_, by rw [w.gA (by decide)]⟩) (fun k hk => Or.inr ⟨k, ?_, by rw [w.gA (by decide)]⟩)
  · rw [w.gA (by decide)] at g1 g2
    exact (R.2.2.2.2.2.2.1 s s b b k k' u hs hs hb hb g1 g2 g3 g4).2
  · rw [w.gA (by decide)] at hk; exact hk
  · rw [w.gA (by decide)] at hk; exact hk
end LOS
