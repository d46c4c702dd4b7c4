/-! ===== scratch: what no call shows ===== -/
def scF : List Nat := [400, 401, 402, 403, 404, 405, 406, 407, 600, 605, 606, 607, 701, 702, 703, 704, 1200, 1202]
def scA (x : Nat) : Nat → Prop := fun a => (x + 41 ≤ a ∧ a ≤ x + 44) ∨ a = x + 47 ∨ a = x + 50
def scS : List Nat := [0, 62, 63, 75, 76, 77, 78, 79, 80, 81, 82, 83, 84, 85, 86, 87, 88, 89, 90, 91, 92, 93, 94, 95, 96, 97, 98]
theorem Rel.scr {x ec es ew : Nat} {e0 : Int32} {h h' : Hp} {r r' : RS} (R : Rel x ec es ew e0 h r) (p : Fm x scF (scA x) h h') (w : Ro scS r r') (W' : ∃ f bs, WR (x + 46) h' f bs) : Rel x ec es ew e0 h' r' := by
  obtain ⟨T, G, sm, C, SS, U1, U2, U3, K, U4, -⟩ := R
  have hx := T.1
  have n34 : ¬ scA x (x + 34) := by unfold scA; omega
  have n36 : ¬ scA x (x + 36) := by unfold scA; omega
  have nd : ∀ s b, s < 12 → har h (x + 34) s = some b → ∀ e, ¬ scA x (b + e) := fun s b h1 h2 e => by
    have := ((SS s h1).at h2).2.1.1.2.1
    unfold scA
    omega
  refine ⟨T.sto p.1, ?_, ?_, fun j hj => ?_, fun s hs' => ?_, U1.fm T SS p w n34 (fun s b h1 h2 => ⟨nd s b h1 h2 2, nd s b h1 h2 3⟩) (by decide), U2.fm T SS p w n34 (fun s b h1 h2 => nd s b h1 h2 1) (by decide), U3.fm w (by decide), K.fm T p w (by decide) n36 (by decide), U4.fm T SS p w (by decide) ⟨n34, n36⟩ (fun s b h1 h2 => ⟨nd s b h1 h2 2, nd s b h1 h2 3⟩) (by decide), W'⟩
  · unfold Glo
    rw [p.gi (f := 1309) (by decide) (by omega), p.gi (f := 1310) (by decide) (by omega), p.gi (f := 1311) (by decide) (by omega), p.gi (f := 1312) (by decide) (by omega), p.gi (f := 1313) (by decide) (by omega), p.gi (f := 1314) (by decide) (by omega), p.gi (f := 1315) (by decide) (by omega), w.gI (k := 66) (by decide), w.gI (k := 67) (by decide), w.gI (k := 69) (by decide), w.gI (k := 70) (by decide), w.gI (k := 71) (by decide), w.gI (k := 72) (by decide), w.gI (k := 74) (by decide)]
    exact G
  · have e2 : ∀ j, j < 8 → hfi h' 206 (cA x j) = hfi h 206 (cA x j) := fun j hj => p.gi (by decide) (by have := T.cl hj; omega)
    unfold sSum
    rw [w.gI (k := 68) (by decide), sm, e2 0 (by omega), e2 1 (by omega), e2 2 (by omega), e2 3 (by omega), e2 4 (by omega), e2 5 (by omega), e2 6 (by omega), e2 7 (by omega)]
    rfl
  · obtain ⟨c1, c2, c3, c4⟩ := C j hj
    have na : ∀ e, e < 4 → ¬ scA x (cA x j + e) := fun e he => by
      unfold scA
      show ¬ ((x + 41 ≤ x + 2 + 4 * j + e ∧ x + 2 + 4 * j + e ≤ x + 44) ∨ x + 2 + 4 * j + e = x + 47 ∨ x + 2 + 4 * j + e = x + 50)
      omega
    exact ⟨c1.fm T hj p w (by decide) n34 (by decide), c2.fm T hj p w (by decide) (na 1 (by omega)) (by decide), c3.fm T hj p w (na 3 (by omega)) (by decide), fun hec => (c4 hec).fm T hj p w (by decide) (na 2 (by omega)) (by decide)⟩
  · have e34 := (p.2.2 (x + 34) (by omega) n34).2.1
    rcases SS s hs' with c | ⟨c1, b, c2, c3, c4⟩
    · exact Or.inl (by rw [w.gA (k := 11) (by decide), e34]; exact c)
    · have hb := c3.1.2.2.1
      have nb := nd s b hs' c2
      refine Or.inr ⟨by rw [w.gA (k := 11) (by decide)]; exact c1, b, by rw [e34]; exact c2, ⟨c3.1.sto p.1, c3.2.1.fm (by omega) p.1 w (by decide), c3.2.2.1.fm (by omega) p w (by decide) (by decide), c3.2.2.2.1.fm (by omega) p w (by decide) (by decide), c3.2.2.2.2.1.fm hb p w (by decide) (nb 1) (by decide), c3.2.2.2.2.2.1.fm hb p w (by decide) (nb 2) (by decide), c3.2.2.2.2.2.2.1.fm hb p w (by decide) (nb 3) (by decide), c3.2.2.2.2.2.2.2.1.fm hb p w (by decide) (nb 4) (by decide), c3.2.2.2.2.2.2.2.2.fm w (by decide)⟩, fun g => (c4 g).fm (by omega) p w (by decide) (by decide)⟩
theorem Wo.sc {x : Nat} {h h' : Hp} (W : Wo (x + 46) h h') : Fm x scF (scA x) h h' := W.fm.sub (by decide) (fun a ha => Or.inr (Or.inl ha))
/-- the same packet, made by both, is sent by both -/
theorem sim_send {x ec es ew i f : Nat} {e0 : Int32} {h : Hp} {r : RS} {bs : List Nat} (R : Rel x ec es ew e0 h r) (hi : i < 8) (H : WR (x + 46) h (nn f) bs) (P : PK r (f :: (vb 4 bs.length ++ bs))) (hf : f < 256) (ho : r.2.1 1 i = 1) :
    Sim (C_X0_put (cA x i) (some (x + 46))) h (R_send (nn i)) r (fun _ h' _ r' => Rel x ec es ew e0 h' r' ∧ Po x i h h' ∧ Ro [2, 3, 4, 68] r r') := by
  have R0 := R
  obtain ⟨T, G, sm, C, SS, U1, U2, U3, K, U4, W⟩ := R
  obtain ⟨⟨c1, c2, c3, c4⟩, ⟨os, o1, o2⟩, c5⟩ := C i hi
  have t7 := T.2.2.2.2.2.2 i hi
  have hT : ConT x h i := ⟨t7.2.1, t7.2.2.2.1, t7.2.2.2.2.1, t7.2.2.2.2.2.1⟩
  have hl6 := H.2.2.2.2.2
  have hw := wd_vb (k := bs.length) (by omega)
  have hpl : (f :: (vb 4 bs.length ++ bs)).length = 1 + wd bs.length + bs.length := by
    rw [List.length_cons, List.length_append, hw.1]
    omega
  obtain ⟨v, h', e1, P1, q1⟩ := qc_put hi H hT o1 hf
  obtain ⟨v2, r', e2, P2, q2⟩ := qm_send hi P o2 (by rw [hpl]; omega)
  refine ⟨v, h', v2, r', e1, e2, ?_, P1, P2⟩
  rw [hpl] at q2
  have e205 := c2.1
  by_cases hb : r.2.1 2 i = 0
  · by_cases hs : 2000 < os.length + (1 + wd bs.length + bs.length)
    · rw [if_pos (Or.inr hs)] at q1
      rw [if_neg (fun z => by rcases z with z | z; · rw [ho] at z; exact absurd z (by decide)
                              · exact z hb), if_pos hs] at q2
      subst q1
      subst q2
      refine R0.out hi P1 P2 ?_ ?_ ho (fun j hj => ?_) (fun j hj => ?_) (fun p hp => ?_) (Or.inl ⟨rfl, ?_⟩)
      · refine ⟨os, ?_, ?_⟩
        · unfold OutC
          rw [hfi_sfi, if_neg (by omega), hai_sfi]
          exact o1
        · unfold OutM
          rw [sA_o (by decide), sA_o (by decide)]
          exact o2
      · rw [hfi_sfi, if_pos ⟨rfl, rfl⟩, sA_2, if_pos ⟨rfl, rfl⟩]
        exact ⟨rfl, Or.inr rfl⟩
      · rw [sA_2, if_neg (fun z => hj z.2)]
      · rw [sA_o (by decide)]
      · rw [sA_o (by decide)]
      · rw [hfi_sfi, if_neg (by omega)]
    · rw [if_neg (fun z => by rcases z with z | z; · exact z (by rw [e205]; exact hb)
                              · exact hs z)] at q1
      rw [if_neg (fun z => by rcases z with z | z; · rw [ho] at z; exact absurd z (by decide)
                              · exact z hb), if_neg hs] at q2
      obtain ⟨q3, q4, q5, q6, q7⟩ := q2
      obtain ⟨p3, p4, p5⟩ := q1
      refine R0.out hi P1 P2 ⟨_, p3, q3⟩ ?_ ho (fun j hj => ?_) q5 q6 (Or.inr ⟨q7, p5⟩)
      · rw [p4, q4, e205]
        exact ⟨rfl, c2.2.1⟩
      · rw [q4]
  · rw [if_pos (Or.inl (by rw [e205]; exact hb))] at q1
    rw [if_pos (Or.inr hb)] at q2
    subst q1
    subst q2
    have hb1 : r'.2.1 2 i = 1 := by
      rcases c2.2.1 with z | z
      · exact absurd z hb
      · exact z
    refine R0.out hi P1 P2 ?_ ?_ ho (fun j hj => rfl) (fun j hj => rfl) (fun p hp => rfl) (Or.inl ⟨rfl, ?_⟩)
    · refine ⟨os, ?_, o2⟩
      unfold OutC
      rw [hfi_sfi, if_neg (by omega), hai_sfi]
      exact o1
    · rw [hfi_sfi, if_pos ⟨rfl, rfl⟩, hb1]
      exact ⟨rfl, Or.inr rfl⟩
    · rw [hfi_sfi, if_neg (by omega)]
