/-! ===== a slot of the model's store that nobody holds ===== -/
def slS : List Nat := [45, 46, 47, 48, 49, 50, 51, 52, 53, 54, 55, 56, 57, 58, 59, 60, 61, 62, 63]
def Unu (r : RS) (j : Nat) : Prop := (∀ k, k < iN (r.1 65) → r.2.1 64 k ≠ nn j) ∧ ∀ s, s < 12 → r.2.1 11 s = 1 → r.2.1 20 s ≠ nn j ∧ (∀ k, k < iN (r.2.1 31 s) → r.2.1 33 (16 * s + k) ≠ nn j) ∧ ∀ k, k < iN (r.2.1 38 s) → r.2.1 39 (24 * s + k) ≠ nn j
section SLT
variable {x ec es ew s b j m n : Nat} {e0 : Int32} {h : Hp} {r r' : RS}
theorem Rel.slot (R : Rel x ec es ew e0 h r) (w : Ro slS r r') (hj : ∀ j', j' < 640 → j' ≠ j → Sj r r' j' ∧ r'.2.1 51 j' = r.2.1 51 j') (hu : Unu r j) : Rel x ec es ew e0 h r' := by
  obtain ⟨T, G, sm, C, SS, U1, U2, U3, K, U4, f0, bs0, W⟩ := R
  have hx := T.1
  have p : Fm x [] (fun _ => False) h h := Fm.rf
  have hMp : ∀ m j', j' < 640 → j' ≠ j → Mp x h r m j' → Mp x h r' m j' := fun m j' h1 h2 z => z.to Sto.rf (hj j' h1 h2).1
  have hMpT : ∀ m j', j' < 640 → j' ≠ j → MpT x h r m j' → MpT x h r' m j' := fun m j' h1 h2 z => by
    obtain ⟨z1, z2, z3⟩ := z
    refine ⟨hMp m j' h1 h2 z1, ?_, ?_⟩
    · rw [(hj j' h1 h2).2]; exact z2
    · rw [(hj j' h1 h2).2, w.gI (by decide)]; exact z3
  have lt : ∀ m j', Mp x h r m j' → j' < 640 := fun m j' z => by
    obtain ⟨V, v1, v2, v3⟩ := z
    exact v2.1
  refine ⟨T, ?_, ?_, fun i hi => ?_, fun s' hs' => ?_, U1.fm T SS p w (fun z => z) (fun _ _ _ _ => ⟨fun z => z, fun z => z⟩) (by decide), U2.fm T SS p w (fun z => z) (fun _ _ _ _ z => z) (by decide), U3.fm w (by decide), ?_, ?_, f0, bs0, W⟩
  · exact G.fm T p w (by decide) (by decide)
  · rw [w.gI (by decide)]
    exact sm
  · obtain ⟨c1, c2, c3, c4⟩ := C i hi
    exact ⟨c1.fm T hi p w (by decide) (fun z => z) (by decide), c2.fm T hi p w (by decide) (fun z => z) (by decide), c3.fm T hi p w (fun z => z) (by decide), fun hec => (c4 hec).fm T hi p w (by decide) (fun z => z) (by decide)⟩
  · rcases SS s' hs' with c | ⟨c1, b', c2, c3, c4⟩
    · exact Or.inl (by rw [w.gA (k := 11) (by decide)]; exact c)
    · have hb' := c3.1.2.2.1
      obtain ⟨hu1, hu2, hu3⟩ := hu.2 s' hs' c1
      refine Or.inr ⟨by rw [w.gA (k := 11) (by decide)]; exact c1, b', c2, ⟨c3.1, c3.2.1.fm (by omega) p.1 w (by decide), c3.2.2.1.fm (by omega) p w (by decide) (by decide), ?_, c3.2.2.2.2.1.fm hb' p w (by decide) (fun z => z) (by decide), ?_, ?_, c3.2.2.2.2.2.2.2.1.fm hb' p w (by decide) (fun z => z) (by decide), c3.2.2.2.2.2.2.2.2.fm w (by decide)⟩, fun g => (c4 g).fm (by omega) p w (by decide) (by decide)⟩
      · rcases c3.2.2.2.1 with ⟨y1, y2⟩ | ⟨m, j', y1, y2, y3, y4, y5⟩
        · exact Or.inl ⟨y1, by rw [w.gA (by decide)]; exact y2⟩
        · refine Or.inr ⟨m, j', y1, by rw [w.gA (by decide)]; exact y2, hMp m j' (lt m j' y3) (fun z => hu1 (by rw [y2, z])) y3, by rw [w.gL (by decide)]; exact y4, by rw [w.gL (by decide)]; exact y5⟩
      · obtain ⟨n', q1, q2, q3, q4, q5⟩ := c3.2.2.2.2.2.1
        refine ⟨n', q1, q2, by rw [w.gA (by decide)]; exact q3, fun k hk => ?_, by rw [w.gA (by decide)]; exact q5⟩
        obtain ⟨d, d1, m, j', ql, fl, id, num, y1, y2, y3, y4, y5⟩ := q4 k hk
        have ne : j' ≠ j := fun z => hu2 k (by rw [q3, iN_nn (by omega)]; exact hk) (by rw [y3, z])
        refine ⟨d, d1, m, j', ql, fl, id, num, y1, y2, by rw [w.gA (by decide)]; exact y3, hMpT m j' (lt m j' y4.1) ne y4, ?_⟩
        rw [w.gA (k := 34) (by decide), w.gA (k := 35) (by decide), w.gA (k := 36) (by decide), w.gA (k := 32) (by decide), w.gA (k := 37) (by decide)]
        exact y5
      · obtain ⟨n', q1, q2, q3, q4⟩ := c3.2.2.2.2.2.2.1
        refine ⟨n', q1, q2, by rw [w.gA (by decide)]; exact q3, fun k hk => ?_⟩
        obtain ⟨d, d1, m, j', ql, fl, id, y1, y2, y3, y4, y5⟩ := q4 k hk
        have ne : j' ≠ j := fun z => hu3 k (by rw [q3, iN_nn (by omega)]; exact hk) (by rw [y3, z])
        refine ⟨d, d1, m, j', ql, fl, id, y1, y2, by rw [w.gA (by decide)]; exact y3, hMpT m j' (lt m j' y4.1) ne y4, ?_⟩
        rw [w.gA (k := 40) (by decide), w.gA (k := 41) (by decide), w.gA (k := 42) (by decide)]
        exact y5
  · obtain ⟨ks, hks, hkc⟩ := K.kl
    have ne : ∀ q ∈ ks, q ≠ j ∧ q < 640 := fun q hq => by
      obtain ⟨k, k1, k2⟩ := getD_of_mem hq
      obtain ⟨a1, a2⟩ := hks.2.2 k k1
      rw [k2] at a1 a2
      exact ⟨fun z => hu.1 k (by rw [hks.1, iN_nn (by have := hks.2.1; omega)]; exact k1) (by rw [a1, z]), a2⟩
    have eg : ∀ q ∈ ks, gon r' q = gon r q := fun q hq => by
      obtain ⟨n1, n2⟩ := ne q hq
      obtain ⟨a1, a2⟩ := hj q n2 n1
      unfold gon
      rw [a1.2.1, a2, w.gI (by decide)]
    have hks' : KL r' ks := ⟨by rw [w.gI (by decide)]; exact hks.1, hks.2.1, fun k hk => by rw [w.gA (by decide)]; exact hks.2.2 k hk⟩
    have hkc' : KC r' ks := fun q hq => by
      obtain ⟨n1, n2⟩ := ne q hq
      rw [(hj q n2 n1).2, w.gI (by decide)]
      exact hkc q hq
    have ef : ks.filter (fun j => !gon r' j) = kpt r := by
      rw [hks.kp]
      exact List.filter_congr (fun q hq => by rw [eg q hq])
    refine Kep.mk hks' hkc' ef K.2.1 (fun k hk => ?_)
    obtain ⟨m, m1, m2⟩ := K.2.2 k hk
    have hin : (kpt r).getD k 0 ∈ ks := by
      have h1 : (kpt r).getD k 0 ∈ kpt r := mem_getD hk
      rw [hks.kp] at h1 ⊢
      exact (List.mem_filter.mp h1).1
    obtain ⟨n1, n2⟩ := ne _ hin
    exact ⟨m, m1, hMpT m _ n2 n1 m2⟩
  · exact U4.fm T SS p w (by decide) ⟨fun z => z, fun z => z⟩ (fun _ _ _ _ => ⟨fun z => z, fun z => z⟩) (by decide)
/-- what is held: at most 508 slots -/
def held (r : RS) (i : Nat) : Nat :=
  if i < 16 then iN (r.2.1 64 i) else if i < 28 then iN (r.2.1 20 (i - 16)) else if i < 220 then iN (r.2.1 33 (i - 28)) else iN (r.2.1 39 (i - 220))
theorem free_slot (r : RS) : ∃ j, j < 509 ∧ ∀ i, i < 508 → held r i ≠ j := by
  have := php 508 (held r)
  refine Classical.byContradiction (fun z => this (fun l hl => Classical.byContradiction (fun y => z ⟨l, hl, fun i hi e => y ⟨i, hi, e⟩⟩)))
end SLT
