section RO2
variable {x i p L f n c e a q : Nat} {h h' : Hp} {r r' : RS} {bs ys : List Nat} {G : Nat → Int32}
/-- the class reads a row; t: it must be a text -/
theorem Rd.row (D : Rd x i bs p L 0 h r) (T : Stat x h) (t : Int32) (ht : t = 0 ∨ t = 1) (h2 : p + 2 ≤ L) (hn : p + 2 + b2 bs p ≤ L) :
    ∃ G, Cg G 0 (sl bs (p + 2) (b2 bs p)) ∧ C_X5_row (x + 37) t h = some (if t = 0 ∨ u8c (sl bs (p + 2) (b2 bs p)) 0 128 191 = true then (some (hnx h), sfi (nRow (sfi h 702 (x + 37) (nn (p + 2))) (b2 bs p) G) 702 (x + 37) (nn (p + 2 + b2 bs p))) else (some (x + 38), sfi (sfi (nRow (sfi h 702 (x + 37) (nn (p + 2))) (b2 bs p) G) 702 (x + 37) (nn (p + 2 + b2 bs p))) 704 (x + 37) (nn 129))) := by
  have D0 := D
  have B := D.by
  have hB2 := B.two p
  obtain ⟨k1, k2⟩ := D.pk T
  have hx := T.1
  have hci := T.cl D.2.2.1.1
  have D1 := D.mv (p' := p + 2) h2 (by omega)
  have T1 : Stat x (sfi h 702 (x + 37) (nn (p + 2))) := (Sc.mv (r := r) (w := 0)).st T
  obtain ⟨⟨a1, a2, a3, a4⟩, ⟨b1, b2', b3, b4⟩, ⟨c1, c2, c3, c4, c5, c6⟩, d⟩ := D
  obtain ⟨d1, d2, d3, d4, d5⟩ := d rfl
  have e2 : hfi h (100 * 7 + 2) (x + 37) = nn p := a2
  have e1 : hfr h (100 * 7 + 1) (x + 37) = some (cA x i + 2) := a1
  obtain ⟨h1, eh1⟩ : ∃ z, z = sfi h 702 (x + 37) (nn (p + 2)) := ⟨_, rfl⟩
  rw [← eh1] at D1 T1
  have kc : hkd (hob h1 9 1) (cA x i + 2) = 101 := by
    rw [hkd_hob, if_neg (by rw [eh1, hnx_sfi]; omega), eh1]
    exact k1
  have lc : hln (hob h1 9 1) (cA x i + 2) = 405 := by
    rw [eh1]
    exact k2
  obtain ⟨G, g1, g2⟩ := qc_copy (h := hob h1 9 1) (n := b2 bs p) (q := p + 2) kc (by rw [hnx_hob, eh1, hnx_sfi]; omega) (by omega) (by rw [lc]; omega) (by rw [lc]; omega)
  have hnx1 : hnx h1 = hnx h := by rw [eh1, hnx_sfi]
  have hG : Cg G 0 (sl bs (p + 2) (b2 bs p)) := fun k hk => by
    rw [sl_len (by omega)] at hk
    rw [Nat.zero_add, g2 k hk, sl_at hk (by omega)]
    have := a4 (p + 2 + k) (by omega)
    rw [Nat.zero_add] at this
    rw [hai_hob, eh1]
    exact this
  refine ⟨G, hG, ?_⟩
  have W : Rw x (nRow h1 (b2 bs p) G) (hnx h1) (sl bs (p + 2) (b2 bs p)) := nRow.rw (by omega) (sl_by B) (sl_len (by omega)).symm hG
  have p2 : Fm x [] (fun _ => False) h1 (nRow h1 (b2 bs p) G) := nRow.fm (by omega)
  have T2 : Stat x (nRow h1 (b2 bs p) G) := T1.sto p2.1
  have e702 : hfi (nRow h1 (b2 bs p) G) (100 * 7 + 2) (x + 37) = nn (p + 2) := by
    rw [p2.gi (by decide) (by omega)]
    exact D1.1.2.1
  obtain ⟨h3, eh3⟩ : ∃ z, z = sfi (nRow h1 (b2 bs p) G) 702 (x + 37) (nn (p + 2 + b2 bs p)) := ⟨_, rfl⟩
  have p3 : Fm x [702] (fun _ => False) (nRow h1 (b2 bs p) G) h3 := by
    rw [eh3]
    exact Fm.rf.fi (Or.inl (by decide)) (Or.inl (by decide))
  have T3 : Stat x h3 := T2.sto p3.1
  have W3 : Rw x h3 (hnx h1) (sl bs (p + 2) (b2 bs p)) := W.stp p3.1
  have e704 : hfi h3 704 (x + 37) = 0 := by
    rw [p3.gi (by decide) (by have := T2.1; omega), p2.gi (by decide) (by omega)]
    exact D1.1.2.2.1
  have hh : wp (C_X5_row (x + 37) t) h (fun v h' => (v, h') = if t = 0 ∨ u8c (sl bs (p + 2) (b2 bs p)) 0 128 191 = true then (some (hnx h), h3) else (some (x + 38), sfi h3 704 (x + 37) (nn 129))) := by
    unfold C_X5_row
    rw [wp_Cv T.rd]
    refine wp.get (D0.has1 T (n := 2) h2) ?_
    rw [wp_neg (by decide), wp_gR T.rd, e1, wp_gI T.rd, e2, D0.byte T (by omega) rfl rfl rfl, wp_gR T.rd, e1, wp_gI T.rd, e2, l_1, nn_add, D0.byte T (by omega) rfl rfl rfl, wp_lq, two_nn (B.at p) (B.at (p + 1)), wp_gI T.rd, e2, wp_pI T.rd, l_2, nn_add, wp_Cv (by exact T.rd)]
    show wp (C_X5_has (x + 37) (nn (b2 bs p))) (sfi h 702 (x + 37) (nn (p + 2))) _
    rw [← eh1]
    refine wp.get (D1.has1 T1 hn) ?_
    have x701 : hfr (hob h1 9 1) (100 * 7 + 1) (x + 37) = some (cA x i + 2) := by
      rw [hfr_hob, if_neg (by omega)]
      exact D1.1.1
    have x702 : hfi (hob h1 9 1) (100 * 7 + 2) (x + 37) = nn (p + 2) := by
      rw [hfi_hob, if_neg (by omega)]
      exact D1.1.2.1
    have kr : hkd (hob h1 9 1) (x + 37) = 7 + 1 := by
      rw [hkd_hob, if_neg (by omega)]
      exact T1.rd
    rw [wp_neg (by decide), wp_Nw, wp_gR kr, x701, wp_gI kr, x702, wp_gI kr, x702, nn_add, wp_bd]
    refine wp.get g1 ?_
    rw [wp_Ci]
    unfold C_X7_init
    rw [wp_Oi, wp_pR (by rw [hkd_sai, hkd_hay, if_neg (by rw [hnx_hob]; omega), hkd_hob, if_pos rfl]), wp_rt]
    show wp (hgI 7 2 (some (x + 37)) _) (nRow h1 (b2 bs p) G) _
    rw [wp_gI T2.rd, e702, wp_pI T2.rd, nn_add]
    show wp _ (sfi (nRow h1 (b2 bs p) G) 702 (x + 37) (nn (p + 2 + b2 bs p))) _
    rw [← eh3]
    unfold C_X5_row_J119
    rcases ht with ht | ht
    · subst ht
      rw [wp_pos rfl, wp_rt, if_pos (Or.inl rfl), hnx1]
    · subst ht
      rw [wp_neg (by decide), wp_Cv W3.1]
      have hsl := sl_len (bs := bs) (q := p + 2) (n := b2 bs p) (by omega)
      refine wp.get (qc_utf8 W3 (by omega)) ?_
      by_cases g : u8c (sl bs (p + 2) (b2 bs p)) 0 128 191 = true
      · rw [if_pos g, wp_neg (by decide), wp_rt, if_pos (Or.inr g), hnx1]
      · rw [if_neg g, wp_pos rfl, wp_Cv T3.rd]
        refine wp.get (qc_fail T3 e704) ?_
        have e700 : hfr (sfi h3 704 (x + 37) 129) (100 * 7 + 0) (x + 37) = some (x + 38) := T3.2.2.2.1.2.1
        rw [wp_gR (by exact T3.rd), e700, wp_rt, if_neg (fun z => z.elim (by decide) g)]
        rfl
  obtain ⟨v, h', f1, f2⟩ := hh
  rw [f1, f2, eh3, eh1]
theorem Rd.row0 (D : Rd x i bs p L 0 h r) (T : Stat x h) (t : Int32) (h2 : L < p + 2) : C_X5_row (x + 37) t h = some (some (x + 38), sfi h 704 (x + 37) (nn 129)) := by
  have hh : wp (C_X5_row (x + 37) t) h (fun v h' => v = some (x + 38) ∧ h' = sfi h 704 (x + 37) (nn 129)) := by
    unfold C_X5_row
    rw [wp_Cv T.rd]
    refine wp.get (D.has0 T (n := 2) h2 (by omega)) ?_
    have e700 : hfr (sfi h 704 (x + 37) (nn 129)) (100 * 7 + 0) (x + 37) = some (x + 38) := T.2.2.2.1.2.1
    rw [wp_pos rfl, wp_gR (by exact T.rd), e700, wp_rt]
    exact ⟨rfl, rfl⟩
  obtain ⟨_, h', e1, e2, e3⟩ := hh
  rw [e1, e2, e3]
theorem Rd.row1 (D : Rd x i bs p L 0 h r) (T : Stat x h) (t : Int32) (h2 : p + 2 ≤ L) (hn : L < p + 2 + b2 bs p) : C_X5_row (x + 37) t h = some (some (x + 38), sfi (sfi h 702 (x + 37) (nn (p + 2))) 704 (x + 37) (nn 129)) := by
  have D0 := D
  have B := D.by
  have hB2 := B.two p
  have D1 := D.mv (p' := p + 2) h2 (by omega)
  have T1 : Stat x (sfi h 702 (x + 37) (nn (p + 2))) := (Sc.mv (r := r) (w := 0)).st T
  obtain ⟨⟨a1, a2, a3, a4⟩, ⟨b1, b2', b3, b4⟩, ⟨c1, c2, c3, c4, c5, c6⟩, d⟩ := D
  obtain ⟨d1, d2, d3, d4, d5⟩ := d rfl
  have e2 : hfi h (100 * 7 + 2) (x + 37) = nn p := a2
  have e1 : hfr h (100 * 7 + 1) (x + 37) = some (cA x i + 2) := a1
  have hh : wp (C_X5_row (x + 37) t) h (fun v h' => v = some (x + 38) ∧ h' = sfi (sfi h 702 (x + 37) (nn (p + 2))) 704 (x + 37) (nn 129)) := by
    unfold C_X5_row
    rw [wp_Cv T.rd]
    refine wp.get (D0.has1 T (n := 2) h2) ?_
    rw [wp_neg (by decide), wp_gR T.rd, e1, wp_gI T.rd, e2, D0.byte T (by omega) rfl rfl rfl, wp_gR T.rd, e1, wp_gI T.rd, e2, l_1, nn_add, D0.byte T (by omega) rfl rfl rfl, wp_lq, two_nn (B.at p) (B.at (p + 1)), wp_gI T.rd, e2, wp_pI T.rd, l_2, nn_add, wp_Cv (by exact T.rd)]
    show wp (C_X5_has (x + 37) (nn (b2 bs p))) (sfi h 702 (x + 37) (nn (p + 2))) _
    refine wp.get (D1.has0 T1 hn (by omega)) ?_
    have e700 : hfr (sfi (sfi h 702 (x + 37) (nn (p + 2))) 704 (x + 37) (nn 129)) (100 * 7 + 0) (x + 37) = some (x + 38) := T.2.2.2.1.2.1
    rw [wp_pos rfl, wp_gR (by exact T.rd), e700, wp_rt]
    exact ⟨rfl, rfl⟩
  obtain ⟨_, h', e1, e2, e3⟩ := hh
  rw [e1, e2, e3]
/-- the model after a row -/
def rwM (r : RS) (i q n : Nat) : RS := sI (sI (sI (sI r 76 (nn (410 * i + q))) 80 (nn (410 * i + q))) 81 (nn n)) 76 (nn (410 * i + (q + n)))
theorem Rd.rowm (D : Rd x i bs p L 0 h r) (T : Stat x h) (g2 : p + 2 ≤ L) (gn : p + 2 + b2 bs p ≤ L) : R_row r = some ((), rwM r i (p + 2) (b2 bs p)) := by
  have B := D.by
  have hB2 := B.two p
  have hd := D.2.2.2 rfl
  have hL := D.2.2.1.2.2.1
  have hi := D.2.2.1.1
  have m1 := (D.two T g2).2
  have D1 := D.mv (p' := p + 2) g2 (by omega)
  have d1 := D1.2.2.2 rfl
  have m2 : wp R_row r (fun _ r' => r' = rwM r i (p + 2) (b2 bs p)) := by
    unfold R_row R_row_J32 rwM
    rw [wp_bd]
    refine wp.get m1 ?_
    have x79 : (sI r 76 (nn (410 * i + (p + 2)))).1 79 = 0 := D1.2.1.2.2.1
    rw [wp_rI, x79, wp_pos rfl, wp_rI, d1.2.1, wp_rI, d1.2.2.1, nn_add, wp_pos (by rw [nn_le (by omega) (by omega)]; omega), wp_rI, x79, wp_pos rfl, wp_rI, d1.2.1, wp_wI, wp_wI, wp_rI]
    have x76 : (sI (sI (sI r 76 (nn (410 * i + (p + 2)))) 80 (nn (410 * i + (p + 2)))) 81 (nn (b2 bs p))).1 76 = nn (410 * i + (p + 2)) := d1.2.1
    rw [x76, nn_add, wp_wI, wp_rt, show 410 * i + (p + 2) + b2 bs p = 410 * i + (p + 2 + b2 bs p) by omega]
  obtain ⟨_, r2, e3, e4⟩ := m2
  rw [e3, e4]
theorem Rd.rowm1 (D : Rd x i bs p L 0 h r) (T : Stat x h) (g2 : p + 2 ≤ L) (gn : L < p + 2 + b2 bs p) : R_row r = some ((), sI (sI r 76 (nn (410 * i + (p + 2)))) 79 (nn 129)) := by
  have B := D.by
  have hB2 := B.two p
  have hd := D.2.2.2 rfl
  have hL := D.2.2.1.2.2.1
  have hi := D.2.2.1.1
  have m1 := (D.two T g2).2
  have D1 := D.mv (p' := p + 2) g2 (by omega)
  have d1 := D1.2.2.2 rfl
  have m2 : wp R_row r (fun _ r' => r' = sI (sI r 76 (nn (410 * i + (p + 2)))) 79 (nn 129)) := by
    unfold R_row R_row_J32
    rw [wp_bd]
    refine wp.get m1 ?_
    have x79 : (sI r 76 (nn (410 * i + (p + 2)))).1 79 = 0 := D1.2.1.2.2.1
    rw [wp_rI, x79, wp_pos rfl, wp_rI, d1.2.1, wp_rI, d1.2.2.1, nn_add, wp_neg (by rw [nn_le (by omega) (by omega)]; omega), wp_bd]
    refine wp.get (qm_fails x79) ?_
    have y79 : (sI (sI r 76 (nn (410 * i + (p + 2)))) 79 (129 : Int32)).1 79 = 129 := by rw [sI_1, if_pos rfl]
    rw [wp_rI, y79, wp_neg (by decide), wp_rt]
    rfl
  obtain ⟨_, r2, e3, e4⟩ := m2
  rw [e3, e4]
theorem Rd.rowm0 (D : Rd x i bs p L 0 h r) (T : Stat x h) (g2 : L < p + 2) : R_row r = some ((), sI r 79 (nn 129)) := by
  have m1 := (D.two0 T g2).2
  have m2 : wp R_row r (fun _ r' => r' = sI r 79 (nn 129)) := by
    unfold R_row R_row_J32
    rw [wp_bd]
    refine wp.get m1 ?_
    have y79 : (sI r 79 (nn 129)).1 79 = nn 129 := by rw [sI_1, if_pos rfl]
    rw [wp_rI, y79, wp_neg (by decide), wp_rI, y79, wp_neg (by decide), wp_rt]
  obtain ⟨_, r2, e3, e4⟩ := m2
  rw [e3, e4]
/-- what holds after a row of both: it is there, or the fault 129 -/
def RwP (x i : Nat) (bs : List Nat) (p L : Nat) (h : Hp) (r : RS) (v : Option Nat) (h' : Hp) (r' : RS) : Prop := ∃ p', Sc x (p' - p) (p' - p) h h' r r' ∧ p ≤ p' ∧ p' ≤ L ∧ ((v = some (hnx h) ∧ hnx h' = hnx h + 2 ∧ hkd h' (hnx h + 1) = 101 ∧ p' = p + 2 + b2 bs p ∧ Rw x h' (hnx h) (sl bs (p + 2) (b2 bs p)) ∧ r'.1 80 = nn (410 * i + (p + 2)) ∧ r'.1 81 = nn (b2 bs p) ∧ Rd x i bs p' L 0 h' r') ∨ (v = some (x + 38) ∧ Rd x i bs p' L 129 h' r'))
theorem Rd.rowok (D : Rd x i bs p L 0 h r) (T : Stat x h) (g2 : p + 2 ≤ L) (gn : p + 2 + b2 bs p ≤ L) (hG : Cg G 0 (sl bs (p + 2) (b2 bs p))) : (Sc x 2 (b2 bs p + 1) h (sfi (nRow (sfi h 702 (x + 37) (nn (p + 2))) (b2 bs p) G) 702 (x + 37) (nn (p + 2 + b2 bs p))) r (rwM r i (p + 2) (b2 bs p))) ∧ Rw x (sfi (nRow (sfi h 702 (x + 37) (nn (p + 2))) (b2 bs p) G) 702 (x + 37) (nn (p + 2 + b2 bs p))) (hnx h) (sl bs (p + 2) (b2 bs p)) ∧ Rd x i bs (p + 2 + b2 bs p) L 0 (sfi (nRow (sfi h 702 (x + 37) (nn (p + 2))) (b2 bs p) G) 702 (x + 37) (nn (p + 2 + b2 bs p))) (rwM r i (p + 2) (b2 bs p)) ∧ hnx (sfi (nRow (sfi h 702 (x + 37) (nn (p + 2))) (b2 bs p) G) 702 (x + 37) (nn (p + 2 + b2 bs p))) = hnx h + 2 ∧ hkd (sfi (nRow (sfi h 702 (x + 37) (nn (p + 2))) (b2 bs p) G) 702 (x + 37) (nn (p + 2 + b2 bs p))) (hnx h + 1) = 101 := by
  have B := D.by
  have hx := T.1
  have hd := D.2.2.2 rfl
  have D1 := D.mv (p' := p + 2) g2 (by omega)
  have T1 : Stat x (sfi h 702 (x + 37) (nn (p + 2))) := (Sc.mv (r := r) (w := 0)).st T
  have s1 : Sc x 0 0 h (sfi h 702 (x + 37) (nn (p + 2))) r (sI r 76 (nn (410 * i + (p + 2)))) := Sc.mv
  have p2 : Fm x [] (fun _ => False) (sfi h 702 (x + 37) (nn (p + 2))) (nRow (sfi h 702 (x + 37) (nn (p + 2))) (b2 bs p) G) := nRow.fm (by rw [hnx_sfi]; omega)
  have W : Rw x (nRow (sfi h 702 (x + 37) (nn (p + 2))) (b2 bs p) G) (hnx h) (sl bs (p + 2) (b2 bs p)) := nRow.rw (h := sfi h 702 (x + 37) (nn (p + 2))) (by rw [hnx_sfi]; omega) (sl_by B) (sl_len (by omega)).symm hG
  have p3 : Fm x [702] (fun _ => False) (nRow (sfi h 702 (x + 37) (nn (p + 2))) (b2 bs p) G) (sfi (nRow (sfi h 702 (x + 37) (nn (p + 2))) (b2 bs p) G) 702 (x + 37) (nn (p + 2 + b2 bs p))) := Fm.rf.fi (Or.inl (by decide)) (Or.inl (by decide))
  have w2 : Ro [80, 81] (sI r 76 (nn (410 * i + (p + 2)))) (sI (sI (sI r 76 (nn (410 * i + (p + 2)))) 80 (nn (410 * i + (p + 2)))) 81 (nn (b2 bs p))) := (Ro.rf.i (by decide)).i (by decide)
  have D2 := (D1.fm T1 p2 w2 (by decide) (fun z => z) (by decide)).mv (p' := p + 2 + b2 bs p) gn (by omega)
  obtain ⟨n1, n2, n3⟩ := nRow.cs (h := sfi h 702 (x + 37) (nn (p + 2))) (n := b2 bs p) (G := G)
  refine ⟨⟨s1.1.tr ((p2.sub (by decide) (fun _ z => z.elim)).tr (p3.sub (by decide) (fun _ z => z.elim))), s1.2.1.tr ((w2.sub (by decide)).i (by decide)), ?_, ?_⟩, W.stp p3.1, D2, ?_, ?_⟩
  · show (hcs (nRow _ _ _)).1 ≤ _
    rw [n2]
    exact Nat.le_refl _
  · show (hcs (nRow _ _ _)).2 ≤ _
    rw [n3]
    exact Nat.le_refl _
  · rw [hnx_sfi, n1]; rfl
  · rw [hkd_sfi]
    unfold nRow
    rw [hkd_sfr, hkd_sai, hkd_hay, if_pos (show hnx h + 1 = hnx (hob (sfi h 702 (x + 37) (nn (p + 2))) 9 1) from rfl)]
theorem sim_row (D : Rd x i bs p L 0 h r) (T : Stat x h) : Sim (C_X5_row (x + 37) 0) h (R_row) r (fun v h' _ r' => RwP x i bs p L h r v h' r') := by
  have hd := D.2.2.2 rfl
  by_cases g2 : p + 2 ≤ L
  · by_cases gn : p + 2 + b2 bs p ≤ L
    · obtain ⟨G, hG, ec⟩ := D.row T 0 (Or.inl rfl) g2 gn
      rw [if_pos (Or.inl rfl)] at ec
      obtain ⟨q1, q2, q3, q4, q5⟩ := D.rowok T g2 gn hG
      exact ⟨_, _, _, _, ec, D.rowm T g2 gn, p + 2 + b2 bs p, q1.le (by omega) (by omega), by omega, gn, Or.inl ⟨rfl, q4, q5, rfl, q2, rfl, rfl, q3⟩⟩
    · have s1 : Sc x 0 0 h (sfi h 702 (x + 37) (nn (p + 2))) r (sI r 76 (nn (410 * i + (p + 2)))) := Sc.mv
      exact ⟨_, _, _, _, D.row1 T 0 g2 (by omega), D.rowm1 T g2 (by omega), p + 2, (s1.tr Sc.fl).le (by omega) (by omega), by omega, g2, Or.inr ⟨rfl, (D.mv (p' := p + 2) g2 (by omega)).fl (by omega) (by omega)⟩⟩
  · exact ⟨_, _, _, _, D.row0 T 0 (by omega), D.rowm0 T (by omega), p, Sc.fl.le (by omega) (by omega), by omega, hd.2.2.2.1, Or.inr ⟨rfl, D.fl (by omega) (by omega)⟩⟩
/-- the same of a text; the text is one -/
theorem sim_str (D : Rd x i bs p L 0 h r) (T : Stat x h) : Sim (C_X5_row (x + 37) 1) h (R_string) r (fun v h' _ r' => RwP x i bs p L h r v h' r' ∧ (v = some (hnx h) → u8c (sl bs (p + 2) (b2 bs p)) 0 128 191 = true)) := by
  have hd := D.2.2.2 rfl
  have hL := D.2.2.1.2.2.1
  have hi := D.2.2.1.1
  have hx := T.1
  have B := D.by
  have hbad : ∀ r1 : RS, r1.1 79 = nn 129 → R_row r = some ((), r1) → R_string r = some ((), r1) := fun r1 h1 h2 => by
    have m2 : wp R_string r (fun _ r' => r' = r1) := by
      unfold R_string
      rw [wp_bd]
      refine wp.get h2 ?_
      rw [wp_rI, h1, wp_neg (by decide), wp_rt]
    obtain ⟨_, r2, e3, e4⟩ := m2
    rw [e3, e4]
  by_cases g2 : p + 2 ≤ L
  · by_cases gn : p + 2 + b2 bs p ≤ L
    · obtain ⟨G, hG, ec⟩ := D.row T 1 (Or.inr rfl) g2 gn
      obtain ⟨q1, q2, q3, q4, q5⟩ := D.rowok T g2 gn hG
      have hsl := sl_len (bs := bs) (q := p + 2) (n := b2 bs p) (by omega)
      have et : R_isText (nn (410 * i + (p + 2))) (nn (b2 bs p)) (rwM r i (p + 2) (b2 bs p)) = some (if u8c (sl bs (p + 2) (b2 bs p)) 0 128 191 = true then 1 else 0, rwM r i (p + 2) (b2 bs p)) := by
        have := qm_isText (r := rwM r i (p + 2) (b2 bs p)) (o := 410 * i + (p + 2)) (ys := sl bs (p + 2) (b2 bs p)) (q3.2.1.2.2.2.slc (by omega)) (sl_by B) (by omega) (by omega)
        rw [hsl] at this
        exact this
      have m2 : wp R_string r (fun _ r' => r' = if u8c (sl bs (p + 2) (b2 bs p)) 0 128 191 = true then rwM r i (p + 2) (b2 bs p) else sI (rwM r i (p + 2) (b2 bs p)) 79 (nn 129)) := by
        unfold R_string
        rw [wp_bd]
        refine wp.get (D.rowm T g2 gn) ?_
        have x79 : (rwM r i (p + 2) (b2 bs p)).1 79 = 0 := q3.2.1.2.2.1
        have x80 : (rwM r i (p + 2) (b2 bs p)).1 80 = nn (410 * i + (p + 2)) := rfl
        have x81 : (rwM r i (p + 2) (b2 bs p)).1 81 = nn (b2 bs p) := rfl
        rw [wp_rI, x79, wp_pos rfl, wp_rI, x80, wp_rI, x81, wp_bd]
        refine wp.get et ?_
        by_cases g : u8c (sl bs (p + 2) (b2 bs p)) 0 128 191 = true
        · rw [if_pos g, wp_neg (by decide), wp_rt, if_pos g]
        · rw [if_neg g, wp_pos rfl, wp_bd]
          refine wp.get (qm_fails x79) ?_
          rw [wp_rt, if_neg g]
          rfl
      obtain ⟨_, r2, e3, e4⟩ := m2
      by_cases g : u8c (sl bs (p + 2) (b2 bs p)) 0 128 191 = true
      · rw [if_pos (Or.inr g)] at ec
        rw [if_pos g] at e4
        rw [e4] at e3
        exact ⟨_, _, _, _, ec, e3, ⟨p + 2 + b2 bs p, q1.le (by omega) (by omega), by omega, gn, Or.inl ⟨rfl, q4, q5, rfl, q2, rfl, rfl, q3⟩⟩, fun _ => g⟩
      · rw [if_neg (fun z => z.elim (by decide) g)] at ec
        rw [if_neg g] at e4
        rw [e4] at e3
        refine ⟨_, _, _, _, ec, e3, ⟨p + 2 + b2 bs p, (q1.tr Sc.fl).le (by omega) (by omega), by omega, gn, Or.inr ⟨rfl, q3.fl (by omega) (by omega)⟩⟩, fun z => ?_⟩
        have z2 : x + 38 = hnx h := Option.some.inj z
        omega
    · have s1 : Sc x 0 0 h (sfi h 702 (x + 37) (nn (p + 2))) r (sI r 76 (nn (410 * i + (p + 2)))) := Sc.mv
      refine ⟨_, _, _, _, D.row1 T 1 g2 (by omega), hbad _ (by rw [sI_1, if_pos rfl]) (D.rowm1 T g2 (by omega)), ⟨p + 2, (s1.tr Sc.fl).le (by omega) (by omega), by omega, g2, Or.inr ⟨rfl, (D.mv (p' := p + 2) g2 (by omega)).fl (by omega) (by omega)⟩⟩, fun z => ?_⟩
      have z2 : x + 38 = hnx h := Option.some.inj z
      omega
  · refine ⟨_, _, _, _, D.row0 T 1 (by omega), hbad _ (by rw [sI_1, if_pos rfl]) (D.rowm0 T (by omega)), ⟨p, Sc.fl.le (by omega) (by omega), by omega, hd.2.2.2.1, Or.inr ⟨rfl, D.fl (by omega) (by omega)⟩⟩, fun z => ?_⟩
    have z2 : x + 38 = hnx h := Option.some.inj z
    omega
end RO2
