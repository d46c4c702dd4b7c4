/-! ===== a connection takes a session over ===== -/
section ATT
variable {x ec es ew s b i m j : Nat} {e0 : Int32} {h h' : Hp} {r r' : RS} {l6 lw dw : Int64} {l8 lk : Int32}
theorem sfr_comm {f f' a a' : Nat} {v v' : Option Nat} (hf : f ≠ f') : sfr (sfr h f a v) f' a' v' = sfr (sfr h f' a' v') f a v := by
  unfold sfr
  simp only [Prod.mk.injEq, true_and, and_true]
  funext g y
  show (if g = f' ∧ y = a' then v' else if g = f ∧ y = a then v else _) = if g = f ∧ y = a then v else if g = f' ∧ y = a' then v' else _
  by_cases e : g = f' ∧ y = a'
  · rw [if_pos e, if_neg (fun z => hf (z.1.symm.trans e.1)), if_pos e]
  · rw [if_neg e, if_neg e]
theorem sfr_sfr {f a : Nat} {v v' : Option Nat} : sfr (sfr h f a v) f a v' = sfr h f a v' := by
  unfold sfr
  simp only [Prod.mk.injEq, true_and, and_true]
  funext g y
  show (if g = f ∧ y = a then v' else if g = f ∧ y = a then v else _) = if g = f ∧ y = a then v' else _
  by_cases e : g = f ∧ y = a
  · rw [if_pos e, if_pos e]
  · rw [if_neg e, if_neg e, if_neg e]
/-- what the class writes, its will apart -/
def atB (x i b : Nat) (l6 : Int64) (l8 : Int32) (lw : Int64) (lk : Int32) (dw : Int64) (h : Hp) : Hp := sfr (sfr (sfl (sfi (sfl (sfi (sfl h 1013 b l6) 1015 b l8) 1014 b lw) 1016 b lk) 1012 b dw) 1002 b (some (cA x i))) 202 (cA x i) (some b)
def atM (r : RS) (s i : Nat) (l6 : Int64) (l8 : Int32) (l9 : Int64) (lk : Int32) : RS := sA (sL (sA (sL (sA (sA (sL (sL r 22 s (-1)) 23 s (-1)) 15 s (nn i)) 7 i (nn s)) 16 s l6) 17 s l8) 18 s l9) 19 s lk
theorem atB_w {w : Option Nat} : atB x i b l6 l8 lw lk dw (sfr h 1011 b w) = sfr (atB x i b l6 l8 lw lk dw h) 1011 b w := by
  unfold atB
  rw [sfr_comm (f := 202) (f' := 1011) (by decide), sfr_comm (f := 1002) (f' := 1011) (by decide)]
  rfl
theorem atB.fm : Fm x [202, 1002, 1012, 1013, 1014, 1015, 1016] (fun _ => False) h (atB x i b l6 l8 lw lk dw h) := by
  unfold atB
  exact Fm.fr (Fm.fr (Fm.fl (Fm.fi (Fm.fl (Fm.fi (Fm.fl Fm.rf (Or.inl (by decide)) (Or.inl (by decide))) (Or.inl (by decide)) (Or.inl (by decide))) (Or.inl (by decide)) (Or.inl (by decide))) (Or.inl (by decide)) (Or.inl (by decide))) (Or.inl (by decide)) (Or.inl (by decide))) (Or.inl (by decide)) (Or.inl (by decide))) (Or.inl (by decide)) (Or.inl (by decide))
theorem atB.hx (hi : i < 8) : Hx x b i h (atB x i b l6 l8 lw lk dw h) := by
  unfold atB
  have p : ∀ f, 1002 ≤ f → f ≤ 1017 → Px x b i f b ∨ hnx h ≤ b := fun f h1 h2 => Or.inl (Or.inl ⟨rfl, h1, h2⟩)
  exact Hx.fr (Hx.fr (Hx.fl (Hx.fi (Hx.fl (Hx.fi (Hx.fl Hx.rf (p _ (by omega) (by omega)) (Or.inl (by decide))) (p _ (by omega) (by omega)) (Or.inl (by decide))) (p _ (by omega) (by omega)) (Or.inl (by decide))) (p _ (by omega) (by omega)) (Or.inl (by decide))) (p _ (by omega) (by omega)) (Or.inl (by decide))) (p _ (by omega) (by omega)) (Or.inl (by decide))) (Or.inl (Or.inr (Or.inl ⟨hi, rfl⟩))) (Or.inl (by decide))
theorem atM.ro {l9 : Int64} : Ro [7, 15, 16, 17, 18, 19, 22, 23] r (atM r s i l6 l8 l9 lk) := by
  unfold atM
  exact ((((((((Ro.rf.l (by decide)).l (by decide)).a (by decide)).a (by decide)).l (by decide)).a (by decide)).l (by decide)).a (by decide))
theorem atM.ho {l9 : Int64} : Ho s i r (atM r s i l6 l8 l9 lk) := by
  unfold atM
  have p : ∀ k, k ∈ [15, 16, 17, 18, 19, 22, 23] → Pm s i k s := fun k hk => Or.inr (Or.inl ⟨by simp only [List.mem_cons, List.not_mem_nil, or_false] at hk; omega, by simp only [List.mem_cons, List.not_mem_nil, or_false] at hk; omega, by
    simp only [List.mem_cons, List.not_mem_nil, or_false] at hk
    unfold ow
    rw [if_neg (by omega), if_neg (by omega), if_neg (by omega), if_neg (by omega), if_neg (by omega)]⟩)
  exact (((((((((Ho.rf.l (p 22 (by decide))).l (p 23 (by decide))).a (p 15 (by decide))).a (Or.inl ⟨by omega, by omega, rfl⟩)).l (p 16 (by decide))).a (p 17 (by decide))).l (p 18 (by decide))).a (p 19 (by decide))))
/-- session s at b, whose connection was none, gets connection i; it has no will now -/
theorem Rel.att {l9 : Int64} (R : Rel x i es 96 e0 h r) (hi : i < 8) (ho : r.2.1 1 i = 1) (h7 : r.2.1 7 i = -1) (hs : s < 12) (hb : har h (x + 34) s = some b) (h15 : r.2.1 15 s = -1) (hes : es = s ∨ es = 12)
    (v6 : ∃ e, e ≤ 4294967295 ∧ l6 = n6 e) (v8 : ∃ k, 1 ≤ k ∧ k ≤ 65535 ∧ l8 = nn k) (v9 : (lw = -1 ∧ l9 = 9223372036854775807) ∨ ∃ z, 1 ≤ z ∧ z ≤ 4294967295 ∧ lw = n6 z ∧ l9 = n6 z) (vk : ∃ k, k ≤ 65535 ∧ lk = nn k) :
    Rel x i 12 96 e0 (atB x i b l6 l8 lw lk dw (sfr h 1011 b none)) (atM (sA r 20 s (-1)) s i l6 l8 l9 lk) := by
  have R1 := R.wno hs hb
  obtain ⟨h1, eh1⟩ : ∃ z, z = sfr h 1011 b none := ⟨_, rfl⟩
  obtain ⟨r1, er1⟩ : ∃ z, z = sA r 20 s (-1) := ⟨_, rfl⟩
  rw [← eh1, ← er1] at R1
  rw [← eh1, ← er1]
  have hb1 : har h1 (x + 34) s = some b := by rw [eh1]; exact hb
  have ho1 : r1.2.1 1 i = 1 := by rw [er1, sA_o (by decide)]; exact ho
  have h71 : r1.2.1 7 i = -1 := by rw [er1, sA_o (by decide)]; exact h7
  have h151 : r1.2.1 15 s = -1 := by rw [er1, sA_o (by decide)]; exact h15
  have n11 : hfr h1 1011 b = none := by rw [eh1, hfr_sfr, if_pos ⟨rfl, rfl⟩]
  have n20 : r1.2.1 20 s = -1 := by rw [er1, sA_2, if_pos ⟨rfl, rfl⟩]
  clear R eh1 er1 hb ho h7 h15
  have T := R1.st
  have hx := T.1
  have hcl := T.cl hi
  have cdef : cA x i = x + 2 + 4 * i := rfl
  obtain ⟨c11, Sb, _⟩ := (R1.2.2.2.2.1 s hs).at hb1
  have hbl := Sb.1.2.2.1
  have hbx := Sb.1.2.1
  have p := atB.fm (x := x) (i := i) (b := b) (l6 := l6) (l8 := l8) (lw := lw) (lk := lk) (dw := dw) (h := h1)
  have px := atB.hx (x := x) (i := i) (b := b) (l6 := l6) (l8 := l8) (lw := lw) (lk := lk) (dw := dw) (h := h1) hi
  have w := atM.ro (r := r1) (s := s) (i := i) (l6 := l6) (l8 := l8) (l9 := l9) (lk := lk)
  have wx := atM.ho (r := r1) (s := s) (i := i) (l6 := l6) (l8 := l8) (l9 := l9) (lk := lk)
  obtain ⟨h2, eh2⟩ : ∃ z, z = atB x i b l6 l8 lw lk dw h1 := ⟨_, rfl⟩
  obtain ⟨r2, er2⟩ : ∃ z, z = atM r1 s i l6 l8 l9 lk := ⟨_, rfl⟩
  rw [← eh2] at p px ⊢
  rw [← er2] at w wx ⊢
  have d15 : r2.2.1 15 s = nn i := by
    rw [er2]; unfold atM
    rw [sA_o (by decide), sL_2, sA_o (by decide), sL_2, sA_o (by decide), sA_2, if_pos ⟨rfl, rfl⟩]
  have d7 : r2.2.1 7 i = nn s := by
    rw [er2]; unfold atM
    rw [sA_o (by decide), sL_2, sA_o (by decide), sL_2, sA_2, if_pos ⟨rfl, rfl⟩]
  have d16 : r2.2.2 16 s = l6 := by
    rw [er2]; unfold atM
    rw [sA_3, sL_3, if_neg (by omega), sA_3, sL_3, if_pos ⟨rfl, rfl⟩]
  have d17 : r2.2.1 17 s = l8 := by
    rw [er2]; unfold atM
    rw [sA_o (by decide), sL_2, sA_2, if_pos ⟨rfl, rfl⟩]
  have d18 : r2.2.2 18 s = l9 := by
    rw [er2]; unfold atM
    rw [sA_3, sL_3, if_pos ⟨rfl, rfl⟩]
  have d19 : r2.2.1 19 s = lk := by
    rw [er2]; unfold atM
    rw [sA_2, if_pos ⟨rfl, rfl⟩]
  have nb : b ≠ cA x i := by omega
  have f1013 : hfl h2 1013 b = l6 := by
    rw [eh2]; unfold atB
    show hfl (sfl (sfi (sfl (sfi (sfl h1 1013 b l6) 1015 b l8) 1014 b lw) 1016 b lk) 1012 b dw) 1013 b = l6
    rw [hfl_sfl, if_neg (by omega), hfl_sfi, hfl_sfl, if_neg (by omega), hfl_sfi, hfl_sfl, if_pos ⟨rfl, rfl⟩]
  have f1014 : hfl h2 1014 b = lw := by
    rw [eh2]; unfold atB
    show hfl (sfl (sfi (sfl (sfi (sfl h1 1013 b l6) 1015 b l8) 1014 b lw) 1016 b lk) 1012 b dw) 1014 b = lw
    rw [hfl_sfl, if_neg (by omega), hfl_sfi, hfl_sfl, if_pos ⟨rfl, rfl⟩]
  have f1015 : hfi h2 1015 b = l8 := by
    rw [eh2]; unfold atB
    show hfi (sfl (sfi (sfl (sfi (sfl h1 1013 b l6) 1015 b l8) 1014 b lw) 1016 b lk) 1012 b dw) 1015 b = l8
    rw [hfi_sfl, hfi_sfi, if_neg (by omega), hfi_sfl, hfi_sfi, if_pos ⟨rfl, rfl⟩]
  have f1016 : hfi h2 1016 b = lk := by
    rw [eh2]; unfold atB
    show hfi (sfl (sfi (sfl (sfi (sfl h1 1013 b l6) 1015 b l8) 1014 b lw) 1016 b lk) 1012 b dw) 1016 b = lk
    rw [hfi_sfl, hfi_sfi, if_pos ⟨rfl, rfl⟩]
  have f1002 : hfr h2 1002 b = some (cA x i) := by
    rw [eh2]; unfold atB
    rw [hfr_sfr, if_neg (by omega), hfr_sfr, if_pos ⟨rfl, rfl⟩]
  have f202 : hfr h2 202 (cA x i) = some b := by
    rw [eh2]; unfold atB
    rw [hfr_sfr, if_pos ⟨rfl, rfl⟩]
  have e34 : har h2 (x + 34) = har h1 (x + 34) := (p.2.2 (x + 34) (by omega) (fun z => z)).2.1
  have edl : ∀ k, dl h2 b k = dl h1 b k := fun k => by
    unfold dl
    rw [(p.2.2 (b + 2) (by omega) (fun z => z)).2.1, (p.2.2 (b + 3) (by omega) (fun z => z)).2.1]
  have eac : ∀ k, act r2 s k ↔ act r1 s k := fun k => by
    unfold act
    rw [w.gA (by decide), w.gA (by decide)]
  have e1 : har h2 (b + 1) = har h1 (b + 1) := (p.2.2 (b + 1) (by omega) (fun z => z)).2.1
  obtain ⟨k1, k2, k3, k4⟩ := R1.2.2.2.1 i hi
  obtain ⟨⟨a1, a2⟩, ⟨a3, a4, a5⟩, a6, a7⟩ := k1
  refine R1.same (i := i) (ec' := i) (es' := 12) px wx hs hb1 e34 (R1.2.1.fm T p w (by decide) (by decide)) (by rw [sSum.fm T p (by decide), w.gI (by decide)]; exact R1.2.2.1) (w.gI (by decide)) (fun _ _ _ z => z) (fun s' h0 h1 h2 => by rcases hes with z | z <;> omega) (fun _ s' hs' h1 z => absurd (h71.symm.trans z) (neg_nn (by omega))) (by rw [w.gA (by decide)]) (by rw [w.gA (by decide)]) (fun i' h1 h2 h3 => ?_) (fun d hd => Or.inr ⟨p.gr (by decide) hd, fun f hf => p.gi ?_ hd⟩) (fun u hu => Or.inr (fun f hf => p.gi ?_ hu)) (fun _ => ⟨⟨⟨?_, ?_⟩, ⟨?_, ?_, ?_⟩, ?_, Or.inr ⟨s, b, hs, d7, ?_, ?_, d15, ?_, f202⟩⟩, k2.fm T hi p w (by decide) (fun z => z) (by decide), k3.fm T hi p w (fun z => z) (by decide), fun z => absurd rfl z⟩) ⟨Sb.1.sto p.1, Sb.2.1.fm (by omega) p.1 w (by decide), ⟨⟨?_, ?_⟩, ⟨?_, ?_⟩, ?_, ⟨?_, ?_⟩, Or.inr ⟨i, hi, f1002, d15, d7⟩⟩, Or.inl ⟨by rw [p.gr (by decide) (by omega)]; exact n11, by rw [w.gA (by decide)]; exact n20⟩, Sb.2.2.2.2.1.fm hbl p w (by decide) (fun z => z) (by decide), Sb.2.2.2.2.2.1.fm hbl p w (by decide) (fun z => z) (by decide), Sb.2.2.2.2.2.2.1.fm hbl p w (by decide) (fun z => z) (by decide), Sb.2.2.2.2.2.2.2.1.fm hbl p w (by decide) (fun z => z) (by decide), Sb.2.2.2.2.2.2.2.2.fm w (by decide)⟩ (fun _ z => absurd (d15.symm.trans z) (nn_neg (by omega))) (fun k d g1 g2 g3 => ?_) (fun k k' d g1 g2 g3 g4 g5 g6 => ?_) (fun k u g1 g2 => ?_) (fun k k' u g1 g2 g3 g4 => ?_) (p.gr (by decide) (by omega)) (by rw [w.gA (by decide)]) (fun k hk => Or.inl ⟨k, ?_, by rw [w.gA (by decide)]⟩) (fun k hk => Or.inr ⟨k, ?_, by rw [w.gA (by decide)]⟩)
  · rcases (R1.2.2.2.1 i' h1).1.2.2.2 with z | ⟨s2, b2, z1, z2, z3, z4, z5, z6, z7⟩
    · rw [z.1] at h3
      exact absurd h3 (neg_nn (by omega))
    · have : s2 = s := nn_inj (by omega) (by omega) (z2.symm.trans h3)
      subst this
      exact absurd (h151.symm.trans z5) (neg_nn (by omega))
  · simp only [List.mem_cons, List.not_mem_nil, or_false] at hf ⊢
    omega
  · simp only [List.mem_cons, List.not_mem_nil, or_false] at hf ⊢
    omega
  · rw [p.gi (by decide) (by omega), w.gA (by decide)]; exact a1
  · rw [w.gA (by decide)]; exact a2
  · rw [p.gi (by decide) (by omega), w.gA (by decide)]; exact a3
  · rw [w.gA (by decide)]; exact a4
  · rw [w.gA (by decide), w.gA (by decide)]; exact a5
  · rw [p.gi (by decide) (by omega), w.gA (by decide), w.gI (by decide)]; exact a6
  · rw [w.gA (by decide)]; exact ho1
  · rw [w.gA (by decide)]; exact c11
  · rw [e34]; exact hb1
  · rw [f1013, d16]
  · rw [d16]; exact v6
  · rw [f1015, d17]
  · rw [d17]; exact v8
  · rw [f1014, d18]; exact v9
  · rw [f1016, d19]
  · rw [d19]; exact vk
  · rw [edl] at g3
    exact ⟨⟨k, g1, (eac k).mp g2, g3⟩, p.gr (by decide) (act.lt Sb ((eac k).mp g2) g1 g3)⟩
  · rw [edl] at g5 g6
    exact (R1.2.2.2.2.2.1 s s b b k k' d hs hs hb1 hb1 g1 g2 ((eac k).mp g3) ((eac k').mp g4) g5 g6).2
  · rw [w.gA (by decide)] at g1
    rw [e1] at g2
    exact Or.inr ⟨k, g1, g2⟩
  · rw [w.gA (by decide)] at g1 g2
    rw [e1] at g3 g4
    exact (R1.2.2.2.2.2.2.1 s s b b k k' u hs hs hb1 hb1 g1 g2 g3 g4).2
  · rw [w.gA (by decide)] at hk; exact hk
  · rw [w.gA (by decide)] at hk; exact hk
/-- nobody has message m -/
def NR (x : Nat) (h : Hp) (r : RS) (m : Nat) : Prop := (∀ s b, s < 12 → har h (x + 34) s = some b → hfr h 1011 b ≠ some m) ∧ (∀ s b k d, s < 12 → har h (x + 34) s = some b → k < 40 → act r s k → dl h b k = some d → hfr h 300 d ≠ some m) ∧ ∀ k, k < iN (hfi h 801 (x + 35)) → har h (x + 36) k ≠ some m
/-- a message's kind, where a delivery or a place has it -/
theorem act.kd (c : Ses x h r ew s b) {k d : Nat} (ha : act r s k) (hk : k < 40) (hd : dl h b k = some d) : ∃ m, hfr h 300 d = some m ∧ hkd h m = 6 := by
  unfold act at ha
  unfold dl at hd
  by_cases h16 : k < 16
  · rw [if_pos h16] at ha hd
    obtain ⟨n, n1, n2, n3, n4, _⟩ := c.2.2.2.2.2.1
    rw [n3, iN_nn (by omega)] at ha
    obtain ⟨d', d1, m, j, _, _, _, _, _, d2, _, ⟨⟨V, d3, _⟩, _⟩, _⟩ := n4 k ha
    rw [hd] at d1
    cases d1
    exact ⟨m, d2, d3.1⟩
  · rw [if_neg h16] at ha hd
    obtain ⟨n, n1, n2, n3, n4⟩ := c.2.2.2.2.2.2.1
    rw [n3, iN_nn (by omega)] at ha
    obtain ⟨d', d1, m, j, _, _, _, _, d2, _, ⟨⟨V, d3, _⟩, _⟩, _⟩ := n4 (k - 16) ha
    rw [hd] at d1
    cases d1
    exact ⟨m, d2, d3.1⟩
theorem NR.of (R : Rel x ec es ew e0 (gk m h) r) : NR x h r m := by
  have k66 : hkd (gk m h) m = 66 := by rw [kd_gk, if_pos rfl]
  refine ⟨fun s b hs hb z => ?_, fun s b k d hs hb hk ha hd z => ?_, fun k hk z => ?_⟩
  · have hb' : har (gk m h) (x + 34) s = some b := hb
    rcases (R.ses hs hb').2.2.2.1 with ⟨c1, _⟩ | ⟨m', j', c1, _, ⟨V, c2, _⟩, _⟩
    · rw [show hfr (gk m h) 1011 b = some m from z] at c1
      cases c1
    · rw [show hfr (gk m h) 1011 b = some m from z] at c1
      cases c1
      have := c2.1
      rw [k66] at this
      exact absurd this (by decide)
  · have hb' : har (gk m h) (x + 34) s = some b := hb
    obtain ⟨m', c1, c2⟩ := act.kd (R.ses hs hb') ha hk (show dl (gk m h) b k = some d from hd)
    rw [show hfr (gk m h) 300 d = some m from z] at c1
    cases c1
    rw [k66] at c2
    exact absurd c2 (by decide)
  · obtain ⟨⟨n, n1, n2, n3⟩, n4, n5⟩ := R.2.2.2.2.2.2.2.2.1
    have ln : (kpt r).length ≤ 16 := by
      unfold kpt
      refine Nat.le_trans (List.length_filter_le _ _) ?_
      rw [List.length_map, List.length_range, n2, iN_nn (by omega)]
      exact n1
    have e801 : hfi h 801 (x + 35) = nn (kpt r).length := n4
    rw [e801, iN_nn (by omega)] at hk
    obtain ⟨m', c1, ⟨⟨V, c2, _⟩, _⟩⟩ := n5 k hk
    rw [show har (gk m h) (x + 36) k = some m from z] at c1
    cases c1
    have := c2.1
    rw [k66] at this
    exact absurd this (by decide)
/-- a session gets its will -/
theorem Rel.wput (R : Rel x ec es ew e0 h r) (hs : s < 12) (hb : har h (x + 34) s = some b) (h15 : r.2.1 15 s ≠ -1) (hM : Mp x h r m j) (hN : NR x h r m) (hU : Unu r j) (hdw : hfl h 1012 b = dw) (vd : ∃ e, e ≤ 4294967295 ∧ dw = n6 e) : Rel x ec es ew e0 (sfr h 1011 b (some m)) (sA (sL r 21 s dw) 20 s (nn j)) := by
  have R0 := R
  obtain ⟨T, G, sm, C, SS, U1, U2, U3, K, U4, f0, bs0, W⟩ := R0
  have hx := T.1
  obtain ⟨c11, S0, Z0⟩ := (SS s hs).at hb
  have hbl := S0.1.2.2.1
  have hbx := S0.1.2.1
  have hj : j < 640 := by
    obtain ⟨V, _, v2, _⟩ := hM
    exact v2.1
  obtain ⟨r1, hr1⟩ : ∃ z, z = sA (sL r 21 s dw) 20 s (nn j) := ⟨_, rfl⟩
  rw [← hr1]
  have p : Fm x [1011] (fun _ => False) h (sfr h 1011 b (some m)) := Fm.fr Fm.rf (Or.inl (by decide)) (Or.inl (by decide))
  have w : Ro [20, 21] r r1 := by
    rw [hr1]
    exact (Ro.rf.l (by decide)).a (by decide)
  have px : Hx x b 8 h (sfr h 1011 b (some m)) := Hx.fr Hx.rf (Or.inl (Or.inl ⟨rfl, by omega, by omega⟩)) (Or.inl (by decide))
  have wx : Ho s 8 r r1 := by
    rw [hr1]
    exact Ho.a (Ho.l Ho.rf (Or.inr (Or.inl ⟨by omega, by omega, rfl⟩))) (Or.inr (Or.inl ⟨by omega, by omega, rfl⟩))
  have e20 : ∀ s', r1.2.1 20 s' = if s' = s then nn j else r.2.1 20 s' := fun s' => by
    rw [hr1, sA_2]
    by_cases g : s' = s
    · rw [if_pos ⟨rfl, g⟩, if_pos g]
    · rw [if_neg (fun z => g z.2), if_neg g, sL_2]
  have e21 : r1.2.2 21 s = dw := by
    rw [hr1, sA_3, sL_3, if_pos ⟨rfl, rfl⟩]
  have e10 : ∀ b', hfr (sfr h 1011 b (some m)) 1011 b' = if b' = b then some m else hfr h 1011 b' := fun b' => by
    rw [hfr_sfr]
    by_cases g : b' = b
    · rw [if_pos ⟨rfl, g⟩, if_pos g]
    · rw [if_neg (fun z => g z.2), if_neg g]
  refine R.one px wx (Or.inr ⟨hs, hb⟩) (fun _ _ => rfl) (G.fm T p w (by decide) (by decide)) (by rw [sSum.fm T p (by decide), w.gI (by decide)]; exact sm) (Or.inl (w.gI (by decide))) (fun _ _ _ z => z) (fun _ _ _ z => z) (fun z => by omega) (fun i' h1 h2 h3 _ => ⟨by rw [w.gA (by decide)], by rw [w.gA (by decide)], rfl⟩) (fun _ _ _ _ _ _ _ _ _ _ => ⟨rfl, fun _ _ => rfl⟩) (fun _ _ _ _ _ _ _ _ _ _ _ => rfl) (fun z => by omega) (fun _ => Or.inr ⟨by rw [w.gA (by decide)]; exact c11, b, hb, ⟨S0.1.sto p.1, S0.2.1.fm (by omega) p.1 w (by decide), S0.2.2.1.fm (by omega) p w (by decide) (by decide), Or.inr ⟨m, j, by rw [e10, if_pos rfl], by rw [e20, if_pos rfl], hM.to p.1 (w.sj (by decide)), ?_, ?_⟩, S0.2.2.2.2.1.fm hbl p w (by decide) (fun z => z) (by decide), S0.2.2.2.2.2.1.fm hbl p w (by decide) (fun z => z) (by decide), S0.2.2.2.2.2.2.1.fm hbl p w (by decide) (fun z => z) (by decide), S0.2.2.2.2.2.2.2.1.fm hbl p w (by decide) (fun z => z) (by decide), S0.2.2.2.2.2.2.2.2.fm w (by decide)⟩, fun g g15 => ?_⟩) ?_ ?_ ?_ ?_ ?_ ?_ ?_ (fun _ z => absurd (z.symm.trans (show r1.2.1 11 s = 1 by rw [w.gA (by decide)]; exact c11)) (by decide))
  · rw [p.gl (by decide) (by omega), hdw, e21]
  · rw [e21]; exact vd
  · rw [w.gA (by decide)] at g15
    exact absurd g15 h15
  · intro b1 k k' d _ h1 h2 h3 h4 h5 h6 h7
    unfold act at h4 h5
    rw [w.gA (by decide), w.gA (by decide)] at h4 h5
    exact (U1 s s b1 b1 k k' d hs hs h1 h1 h2 h3 h4 h5 h6 h7).2
  · intro b1 k d _ h1 h2 h3 h4 s' b' k' g1 g2 g3 g4 g5 g6
    unfold act at h3
    rw [w.gA (by decide), w.gA (by decide)] at h3
    exact g2 (U1 s' s b' b1 k' k d g1 hs g3 h1 g4 h2 g5 h3 g6 h4).1
  · intro b1 k k' u _ h1 h2 h3 h4 h5
    rw [w.gA (by decide)] at h2 h3
    exact (U2 s s b1 b1 k k' u hs hs h1 h1 h2 h3 h4 h5).2
  · intro b1 k u _ h1 h2 h3 s' b' k' g1 g2 g3 g4 g5
    rw [w.gA (by decide)] at h2
    exact g2 (U2 s' s b' b1 k' k u g1 hs g3 h1 g4 h2 g5 h3).1
  · intro _ h1 s' g1 g2 g3 g4
    unfold SId at g4
    rw [w.gA (k := 12) (by decide), w.gA (k := 13) (by decide), w.gA (k := 14) (by decide)] at g4
    exact g2 (U3.1 s' s g1 hs g3 c11 g4)
  · intro s' b' m' j' g1 g2 g3 g4 g5 _
    obtain ⟨y1, y2, y3, y4, y5, y6⟩ := U4 s' b' m' j' g1 g3 g4 g5
    have a11 := ((SS s' g1).at g3).1
    have hmm : m ≠ m' := fun e => hN.1 s' b' g1 g3 (by rw [g4, e])
    have hjj : nn j ≠ nn j' := fun e => (hU.2 s' g1 a11).1 (by rw [g5, e])
    refine ⟨fun b1 z1 => ?_, fun _ => ⟨fun k hk => ?_, fun k hk => ?_⟩⟩
    · have eb : b1 = b := by
        have : har h (x + 34) s = some b1 := z1
        rw [hb] at this
        cases this
        rfl
      subst eb
      refine ⟨⟨?_, ?_⟩, fun k d h1 h2 h3 => ?_⟩
      · rw [e10, if_pos rfl]
        intro e
        cases e
        exact hmm rfl
      · rw [e20, if_pos rfl]
        exact hjj
      · unfold act at h2
        rw [w.gA (by decide), w.gA (by decide)] at h2
        rw [p.gr (by decide) (act.lt S0 h2 h1 h3)]
        exact y2 s b1 k d hs hb h1 h2 h3
    · rw [w.gA (by decide)] at hk ⊢
      exact y3 s k hs c11 hk
    · rw [w.gA (by decide)] at hk ⊢
      exact y4 s k hs c11 hk
  · intro _ b1 m' j' z1 z2 z3
    have eb : b1 = b := by
      have : har h (x + 34) s = some b1 := z1
      rw [hb] at this
      cases this
      rfl
    subst eb
    rw [e10, if_pos rfl] at z2
    cases z2
    rw [e20, if_pos rfl] at z3
    rw [← z3]
    refine ⟨fun s' b' g1 g2 g3 => ⟨hN.1 s' b' g1 g3, (hU.2 s' g1 ((SS s' g1).at g3).1).1⟩, fun s' b' k d g1 g2 g3 g4 g5 g6 => hN.2.1 s' b' k d g1 g3 g4 g5 g6, fun s' k g1 g2 g3 g4 => (hU.2 s' g1 g3).2.1 k g4, fun s' k g1 g2 g3 g4 => (hU.2 s' g1 g3).2.2 k g4, hN.2.2, hU.1, fun k d h1 h2 h3 => ?_, fun _ => ⟨fun k hk => ?_, fun k hk => ?_⟩⟩
    · unfold act at h2
      rw [w.gA (by decide), w.gA (by decide)] at h2
      rw [p.gr (by decide) (act.lt S0 h2 h1 h3)]
      exact hN.2.1 s b1 k d hs hb h1 h2 h3
    · rw [w.gA (by decide)] at hk ⊢
      exact (hU.2 s hs c11).2.1 k hk
    · rw [w.gA (by decide)] at hk ⊢
      exact (hU.2 s hs c11).2.2 k hk
end ATT
