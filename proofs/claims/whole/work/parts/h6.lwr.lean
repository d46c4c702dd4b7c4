/-! ===== the law's own row ===== -/
def lwA (x : Nat) : Nat → Prop := fun a => a = x + 129
theorem Rel.lwr {x ec es ew : Nat} {e0 : Int32} {h h' : Hp} {r r' : RS} (R : Rel x ec es ew e0 h r) (p : Fm x [] (lwA x) h h') (w : Ro [] r r') (W' : ∃ f bs, WR (x + 46) h' f bs) : Rel x ec es ew e0 h' r' := by
  obtain ⟨T, G, sm, C, SS, U1, U2, U3, K, U4, -⟩ := R
  have hx := T.1
  have n34 : ¬ lwA x (x + 34) := by unfold lwA; omega
  have n36 : ¬ lwA x (x + 36) := by unfold lwA; omega
  have nd : ∀ s b, s < 12 → har h (x + 34) s = some b → ∀ e, ¬ lwA x (b + e) := fun s b h1 h2 e => by
    have := ((SS s h1).at h2).2.1.1.2.1
    unfold lwA
    omega
  refine ⟨T.sto p.1, ?_, ?_, fun j hj => ?_, fun s hs' => ?_, U1.fm T SS p w n34 (fun s b h1 h2 => ⟨nd s b h1 h2 2, nd s b h1 h2 3⟩) (by decide), U2.fm T SS p w n34 (fun s b h1 h2 => nd s b h1 h2 1) (by decide), U3.fm w (by decide), K.fm T p w (by decide) n36 (by decide), U4.fm T SS p w (by decide) ⟨n34, n36⟩ (fun s b h1 h2 => ⟨nd s b h1 h2 2, nd s b h1 h2 3⟩) (by decide), W'⟩
  · unfold Glo
    rw [p.gi (f := 1309) (by decide) (by omega), p.gi (f := 1310) (by decide) (by omega), p.gi (f := 1311) (by decide) (by omega), p.gi (f := 1312) (by decide) (by omega), p.gi (f := 1313) (by decide) (by omega), p.gi (f := 1314) (by decide) (by omega), p.gi (f := 1315) (by decide) (by omega), w.gI (k := 66) (by decide), w.gI (k := 67) (by decide), w.gI (k := 69) (by decide), w.gI (k := 70) (by decide), w.gI (k := 71) (by decide), w.gI (k := 72) (by decide), w.gI (k := 74) (by decide)]
    exact G
  · have e2 : ∀ j, j < 8 → hfi h' 206 (cA x j) = hfi h 206 (cA x j) := fun j hj => p.gi (by decide) (by have := T.cl hj; omega)
    unfold sSum
    rw [w.gI (k := 68) (by decide), sm, e2 0 (by omega), e2 1 (by omega), e2 2 (by omega), e2 3 (by omega), e2 4 (by omega), e2 5 (by omega), e2 6 (by omega), e2 7 (by omega)]
    rfl
  · obtain ⟨c1, c2, c3, c4⟩ := C j hj
    have na : ∀ e, e < 4 → ¬ lwA x (cA x j + e) := fun e he => by
      unfold lwA
      show ¬ (x + 2 + 4 * j + e = x + 129)
      omega
    exact ⟨c1.fm T hj p w (by decide) n34 (by decide), c2.fm T hj p w (by decide) (na 1 (by omega)) (by decide), c3.fm T hj p w (na 3 (by omega)) (by decide), fun hec => (c4 hec).fm T hj p w (by decide) (na 2 (by omega)) (by decide)⟩
  · have e34 := (p.2.2 (x + 34) (by omega) n34).2.1
    rcases SS s hs' with c | ⟨c1, b, c2, c3, c4⟩
    · exact Or.inl (by rw [w.gA (k := 11) (by decide), e34]; exact c)
    · have hb := c3.1.2.2.1
      have nb := nd s b hs' c2
      refine Or.inr ⟨by rw [w.gA (k := 11) (by decide)]; exact c1, b, by rw [e34]; exact c2, ⟨c3.1.sto p.1, c3.2.1.fm (by omega) p.1 w (by decide), c3.2.2.1.fm (by omega) p w (by decide) (by decide), c3.2.2.2.1.fm (by omega) p w (by decide) (by decide), c3.2.2.2.2.1.fm hb p w (by decide) (nb 1) (by decide), c3.2.2.2.2.2.1.fm hb p w (by decide) (nb 2) (by decide), c3.2.2.2.2.2.2.1.fm hb p w (by decide) (nb 3) (by decide), c3.2.2.2.2.2.2.2.1.fm hb p w (by decide) (nb 4) (by decide), c3.2.2.2.2.2.2.2.2.fm w (by decide)⟩, fun g => (c4 g).fm (by omega) p w (by decide) (by decide)⟩
section LWR
variable {x i : Nat} {h : Hp} {r : RS}
theorem lw_fm {f : Nat → Int64} : Fm x [] (lwA x) h (sal h (x + 129) f) := Fm.al Fm.rf (show lwA x (x + 129) from rfl)
theorem Iv.law {f : Nat → Int64} (I : Iv x i h r) : Iv x i (sal h (x + 129) f) r := by
  obtain ⟨e0, O, z⟩ := I
  have T := O.1.st
  obtain ⟨g, bs, W⟩ := O.1.wr
  have p : Fm x [] (lwA x) h (sal h (x + 129) f) := lw_fm
  exact ⟨e0, ⟨O.1.lwr p Ro.rf ⟨g, bs, W.fmx T p (by decide) (by unfold lwA; omega)⟩, O.2⟩, z⟩
theorem seat_of : Seat x (Iv x) := ⟨fun _ _ _ I => I.seat, fun _ _ _ _ I => I.law, fun _ _ _ I => I.up⟩
end LWR
