/-! ===== properties: the user's, the loop ===== -/
section PR2
variable {x i p L f n c e a q k M A s : Nat} {h h' : Hp} {r r' : RS} {bs U : List Nat}
theorem qm_two_f (hf : r.1 79 = nn f) (h1 : f ≠ 0) (h2 : f < 256) : R_two r = some (0, r) := by
  have hh : wp R_two r (fun w r' => w = 0 ∧ r' = r) := by
    unfold R_two R_two_J27
    rw [wp_rI, hf, wp_neg (nn_ne0 (by omega) h1), wp_bd]
    refine wp.get (qm_one_f hf h1 h2) ?_
    rw [wp_bd]
    refine wp.get (qm_one_f hf h1 h2) ?_
    rw [wp_rt]
    exact ⟨rfl, rfl⟩
  obtain ⟨_, h', e1, e2, e3⟩ := hh
  rw [e1, e2, e3]
theorem qm_string_f (hf : r.1 79 = nn f) (h1 : f ≠ 0) (h2 : f < 256) : R_string r = some ((), r) := by
  have hh : wp R_string r (fun _ r' => r' = r) := by
    unfold R_string R_row R_row_J32
    rw [wp_bd, wp_bd]
    refine wp.get (qm_two_f hf h1 h2) ?_
    rw [wp_rI, hf, wp_neg (nn_ne0 (by omega) h1), wp_rI, hf, wp_neg (nn_ne0 (by omega) h1), wp_rt, wp_rI, hf, wp_neg (nn_ne0 (by omega) h1), wp_rt]
  obtain ⟨_, h', e1, e2⟩ := hh
  rw [e1, e2]
def Ru (r r' : RS) : Prop := Ro [76, 79, 80, 81, 84, 85, 86, 87] r r' ∧ ∀ k', k' ≠ 38 → r'.2.1 84 k' = r.2.1 84 k' ∧ r'.2.1 85 k' = r.2.1 85 k'
theorem Ru.end (hS : Ro [76, 79, 80, 81, 86, 87] r r') : Ru r (sA (sA r' 84 38 (r'.1 80)) 85 38 (r'.1 81)) := by
  refine ⟨((hS.sub (by decide)).a (by decide)).a (by decide), fun k' hk' => ⟨?_, ?_⟩⟩
  · rw [sA_2, if_neg (by omega), sA_2, if_neg (by omega), hS.gA (by decide)]
  · rw [sA_2, if_neg (by omega), sA_o (by decide), hS.gA (by decide)]
theorem sim_v38 (D : Rd x i bs (s + 1) L 0 h r) (T : Stat x h) (hU : r.1 87 = nn U.length) (hUm : Mg (r.2.1 86) 0 U) (hUl : U.length + (L - s) < 400) : Sim (C_X4_value (x + 40) (some (x + 37)) (nn 38)) h (mQ (nn (410 * i + s)) 38) r (fun v h' _ r' => ∃ p' f, s + 1 ≤ p' ∧ p' ≤ L ∧ Rd x i bs p' L f h' r' ∧ Fm x [702, 704] (fun _ => False) h h' ∧ Ru r r' ∧ ((hcs h').1 ≤ (hcs h).1 + (p' - (s + 1)) ∧ (hcs h').2 ≤ (hcs h).2 + (p' - (s + 1))) ∧ (f = 0 → s + 2 < p' ∧ r'.1 87 = nn (U.length + (p' - s)) ∧ Mg (r'.2.1 86) 0 (U ++ sl bs s (p' - s)))) := by
  have hx := T.1
  have hd := D.2.2.2 rfl
  show Sim (hCv 7 (some (x + 37)) (fun a => C_X5_row a (1 : Int32)) fun r9 => hCv 7 (some (x + 37)) (fun a => C_X5_row a (1 : Int32)) fun r10 => rt (0 : Int64)) h (bd (R_string) fun _ => bd (R_string) fun _ => R_property_L267 (fun l4 => R_property_J312 l4) fu (nn 38) (nn (410 * i + s))) r _
  -- the end of a fault
  have fend : ∀ (h1 : Hp) (r1 : RS) (p' f : Nat), f ≠ 0 → s + 1 ≤ p' → p' ≤ L → Rd x i bs p' L f h1 r1 → Sc x (p' - (s + 1)) (p' - (s + 1)) h h1 r r1 → Sim (rt (0 : Int64)) h1 (R_property_L267 (fun l4 => R_property_J312 l4) fu (nn 38) (nn (410 * i + s))) r1 (fun v h' _ r' => ∃ p' f, s + 1 ≤ p' ∧ p' ≤ L ∧ Rd x i bs p' L f h' r' ∧ Fm x [702, 704] (fun _ => False) h h' ∧ Ru r r' ∧ ((hcs h').1 ≤ (hcs h).1 + (p' - (s + 1)) ∧ (hcs h').2 ≤ (hcs h).2 + (p' - (s + 1))) ∧ (f = 0 → s + 2 < p' ∧ r'.1 87 = nn (U.length + (p' - s)) ∧ Mg (r'.2.1 86) 0 (U ++ sl bs s (p' - s)))) := by
    intro h1 r1 p' f hf g1 g2 D1 s1
    have hh : wp (R_property_L267 (fun l4 => R_property_J312 l4) fu (nn 38) (nn (410 * i + s))) r1 (fun _ r' => r' = sA (sA r1 84 38 (r1.1 80)) 85 38 (r1.1 81)) := by
      show wp (R_property_B267 _ _ (nn 38) (nn (410 * i + s))) r1 _
      unfold R_property_B267 R_property_J312
      dsimp only
      rw [wp_rI]
      by_cases g : r1.1 76 ≤ nn (410 * i + s)
      · rw [wp_pos g]
        exact wp.get (qm_327 (by omega)) rfl
      · rw [wp_neg g, wp_rI, wp_neg (by rw [D1.2.1.2.2.1]; exact nn_ne0 (by have := D1.2.2.1.2.2.2.2.1; omega) hf)]
        exact wp.get (qm_327 (by omega)) rfl
    obtain ⟨_, r3, e3, e4⟩ := hh
    rw [e4] at e3
    rw [Sim_r (M' := rt ()) e3]
    exact Sim.ret ⟨p', f, g1, g2, D1.e2 (s1.st T), s1.1, Ru.end (s1.2.1.sub (by decide)), s1.2.2, fun z => absurd z hf⟩
  rw [sl_Cv T.rd]
  refine Sim.seq (sim_str D T) (fun v h1 w r1 z => ?_)
  obtain ⟨⟨p1, z2, z3, z4, z5⟩, _⟩ := z
  have T1 := z2.st T
  rw [sl_Cv T1.rd]
  rcases z5 with ⟨g1, g2, g3, g4, g5, g6, g7, D1⟩ | ⟨g2, D1⟩
  · refine Sim.seq (sim_str D1 T1) (fun v2 h2 w2 r2 z => ?_)
    obtain ⟨⟨p2, y2, y3, y4, y5⟩, _⟩ := z
    have T2 := y2.st T1
    have s2 := (z2.tr y2).le (show p1 - (s + 1) + (p2 - p1) ≤ p2 - (s + 1) by omega) (show p1 - (s + 1) + (p2 - p1) ≤ p2 - (s + 1) by omega)
    rcases y5 with ⟨q1, q2, q3, q4, q5, q6, q7, D2⟩ | ⟨q2, D2⟩
    · have hd2 := D2.2.2.2 rfl
      have wS := s2.2.1
      have hu := qm_users (U := U) (s := s) (p := p2) D2.2.1.2.2.2 D2.2.2.1.1 hd2.2.1 D2.2.2.1.2.2.2.1 D2.2.2.1.2.2.1 D2.2.1.2.2.1 (by omega) (by rw [wS.gI (by decide)]; exact hU) (by rw [wS.gA (by decide)]; exact hUm) (by omega) D2.by
      obtain ⟨_, r3, e3, r4, e4, w4, e87, e86⟩ := hu
      rw [Sim_r (M' := rt ()) e3, e4]
      have D3 : Rd x i bs p2 L 0 h2 r4 := D2.fm T2 (Fm.rf (F := []) (A := fun _ => False)) w4 (by decide) (fun z => z) (by decide)
      refine Sim.ret ⟨p2, 0, by omega, y4, D3.e2 T2, s2.1, Ru.end ((wS.sub (by decide)).tr (w4.sub (by decide))), s2.2.2, fun _ => ⟨by omega, ?_, ?_⟩⟩
      · exact e87
      · rw [sA_o (by decide), sA_o (by decide)]
        exact e86
    · exact fend h2 r2 p2 129 (by omega) (by omega) y4 D2 s2
  · have F1 := D1.fa (by omega)
    rw [Sim_l (e_bd (qc_row_f T1 F1)), Sim_r (e_bd (qm_string_f D1.2.1.2.2.1 (by omega) (by omega)))]
    exact fend h1 r1 p1 129 (by omega) (by omega) z4 D1 z2
/-- the class adds the bytes of a user's property -/
theorem qc_addUser {u p' : Nat} (T : Stat x h) (hi : i < 8) (hu : hfi h 605 (x + 40) = nn u) (hu2 : u ≤ 400) (h606 : hfr h 606 (x + 40) = some (cA x i + 2)) (hs : s ≤ p') (hp : p' ≤ 405) : C_X4_addUser (x + 40) (nn s) (nn p') h = some ((), sfi (sai h (x + 44) (va_cpy (hai h (cA x i + 2)) (hai h (x + 44)) s u (min (p' - s) (400 - u)))) 605 (x + 40) (nn (u + min (p' - s) (400 - u)))) := by
  have t5 := T.2.2.2.2.1
  have e604 : hfr h (100 * 6 + 4) (x + 40) = some (x + 44) := t5.2.2.2.2.1
  have k44 : hkd h (x + 44) = 101 := t5.2.2.2.2.2.2.2.2.2.2.2.1
  have l44 : hln h (x + 44) = 400 := t5.2.2.2.2.2.2.2.2.2.2.2.2
  have e605 : hfi h (100 * 6 + 5) (x + 40) = nn u := hu
  have e606 : hfr h (100 * 6 + 6) (x + 40) = some (cA x i + 2) := h606
  have kc := (T.2.2.2.2.2.2 i hi).2.2.2.2.2.2.2.1
  have lc := (T.2.2.2.2.2.2 i hi).2.2.2.2.2.2.2.2.1
  obtain ⟨m, hm⟩ : ∃ m, m = min (p' - s) (400 - u) := ⟨_, rfl⟩
  have hh : wp (C_X4_addUser (x + 40) (nn s) (nn p')) h (fun _ h' => h' = sfi (sai h (x + 44) (va_cpy (hai h (cA x i + 2)) (hai h (x + 44)) s u m)) 605 (x + 40) (nn (u + m))) := by
    unfold C_X4_addUser
    rw [wp_gR T.pr, e604, wn_Ln (t := 0) k44, l44, wp_gI T.pr, e605, wp_lq, nn_sub hs, nn_sub hu2, imin_nn (by omega) (by omega), ← hm, wp_gR T.pr, e606, wp_gR T.pr, e604, wp_gI T.pr, e605, wn_Cp kc k44 (by rw [lc]; omega) (by rw [l44]; omega) (by omega) (by omega), wp_gI (by exact T.pr)]
    show wp (hpI 6 5 (some (x + 40)) (hfi h (100 * 6 + 5) (x + 40) + nn m) _) _ _
    rw [e605, wp_pI (by exact T.pr), nn_add, wp_rt]
  obtain ⟨_, h', e1, e2⟩ := hh
  rw [e1, e2, hm]
/-- a user's property: what it leaves -/
theorem Pp.user {hb : Hp} {rb : RS} {v : Int64} {p' : Nat} (P : Pp x i bs M U h r) (T : Stat x h) (hi : i < 8) (B : By bs) (hC : Cg (hai h (cA x i + 2)) 0 bs)
    (hF : Fm x [702, 704] (fun _ => False) (ppA x h M 38 s) hb) (hR : Ru (sA r 82 38 1) rb) (hp' : s + 2 < p') (hp2 : p' ≤ bs.length) (hbl : bs.length ≤ 405) (hUl : U.length + (p' - s) < 400)
    (h87 : rb.1 87 = nn (U.length + (p' - s))) (h86 : Mg (rb.2.1 86) 0 (U ++ sl bs s (p' - s))) :
    Pp x i bs (M ||| 2 ^ 38) (U ++ sl bs s (p' - s)) (sfi (sai (ppC x hb 38 p' v) (x + 44) (va_cpy (hai (ppC x hb 38 p' v) (cA x i + 2)) (hai (ppC x hb 38 p' v) (x + 44)) s U.length (p' - s))) 605 (x + 40) (nn (U.length + (p' - s)))) rb ∧ Tot x (sfi (sai (ppC x hb 38 p' v) (x + 44) (va_cpy (hai (ppC x hb 38 p' v) (cA x i + 2)) (hai (ppC x hb 38 p' v) (x + 44)) s U.length (p' - s))) 605 (x + 40) (nn (U.length + (p' - s)))) (M ||| 2 ^ 38) = Tot x h M := by
  have hx := T.1
  obtain ⟨⟨m1, m2, m3⟩, pk, ⟨u1, u2, u3, u4, u5, u6⟩, p606, pq⟩ := P
  have pA := ppA.fm (M := M) (k := 38) (p := s) T
  have TA : Stat x (ppA x h M 38 s) := T.sto pA.1
  have Tb : Stat x hb := TA.sto hF.1
  have pC := ppC.fm (v := v) (k := 38) (p' := p') Tb
  have TC : Stat x (ppC x hb 38 p' v) := Tb.sto pC.1
  have hxb := Tb.1
  have hxa := TA.1
  have hxc := TC.1
  have hci := T.cl hi
  have ci0 : cA x i + 3 < x + 34 := by show x + 2 + 4 * i + 3 < x + 34; omega
  have ln := sl_len (bs := bs) (q := s) (n := p' - s) (by omega)
  have pD : Fm x [605] (fun a => a = x + 44) (ppC x hb 38 p' v) (sfi (sai (ppC x hb 38 p' v) (x + 44) (va_cpy (hai (ppC x hb 38 p' v) (cA x i + 2)) (hai (ppC x hb 38 p' v) (x + 44)) s U.length (p' - s))) 605 (x + 40) (nn (U.length + (p' - s)))) := by
    refine Fm.fi (Fm.ai Fm.rf (Or.inl rfl) (fun z => ?_)) (Or.inl (by decide)) (Or.inl (by decide))
    have := z.1
    omega
  obtain ⟨hd, ehd⟩ : ∃ z, z = sfi (sai (ppC x hb 38 p' v) (x + 44) (va_cpy (hai (ppC x hb 38 p' v) (cA x i + 2)) (hai (ppC x hb 38 p' v) (x + 44)) s U.length (p' - s))) 605 (x + 40) (nn (U.length + (p' - s))) := ⟨_, rfl⟩
  rw [← ehd] at pD ⊢
  have a42 : hai hd (x + 42) = upd (hai h (x + 42)) 38 (nn s) := by
    rw [(pD.2.2 (x + 42) (by omega) (by omega)).1, (pC.2.2 (x + 42) (by omega) (by omega)).1, (hF.2.2 (x + 42) (by omega) (fun z => z)).1]
    unfold ppA
    rw [hai_sai, if_pos rfl]
  have a43 : hai hd (x + 43) = upd (hai h (x + 43)) 38 (nn p') := by
    rw [(pD.2.2 (x + 43) (by omega) (by omega)).1]
    unfold ppC
    rw [hai_sai, if_pos rfl, (hF.2.2 (x + 43) (by omega) (fun z => z)).1, (pA.2.2 (x + 43) (by omega) (by omega)).1]
  have a41 : hal hd (x + 41) = vp_updL (hal h (x + 41)) 38 v := by
    rw [(pD.2.2 (x + 41) (by omega) (by omega)).2.2]
    unfold ppC
    rw [hal_sai, hal_sal, if_pos rfl, (hF.2.2 (x + 41) (by omega) (fun z => z)).2.2, (pA.2.2 (x + 41) (by omega) (by omega)).2.2]
  have c44 : hai (ppC x hb 38 p' v) (x + 44) = hai h (x + 44) := by
    rw [(pC.2.2 (x + 44) (by omega) (by omega)).1, (hF.2.2 (x + 44) (by omega) (fun z => z)).1, (pA.2.2 (x + 44) (by omega) (by omega)).1]
  have cc : hai (ppC x hb 38 p' v) (cA x i + 2) = hai h (cA x i + 2) := by
    rw [(pC.2.2 (cA x i + 2) (by omega) (by omega)).1, (hF.2.2 (cA x i + 2) (by omega) (fun z => z)).1, (pA.2.2 (cA x i + 2) (by omega) (by omega)).1]
  have a44 : hai hd (x + 44) = va_cpy (hai h (cA x i + 2)) (hai h (x + 44)) s U.length (p' - s) := by
    rw [ehd, hai_sfi, hai_sai, if_pos rfl, c44, cc]
  have u_n : ∀ (g : Nat → Int32) (w : Int32) k', k' ≠ 38 → upd g 38 w k' = g k' := fun g w k' hk' => if_neg hk'
  have l_n : ∀ (g : Nat → Int64) (w : Int64) k', k' ≠ 38 → vp_updL g 38 w k' = g k' := fun g w k' hk' => if_neg hk'
  have wR := hR.1
  refine ⟨⟨⟨?_, or_lt40 m2 (by omega), fun k' hk' => ?_⟩, fun k' g1 g2 g3 => ?_, ⟨?_, ?_, ?_, u4.app (sl_by B), ?_, h86⟩, ?_, ?_⟩, ?_⟩
  · rw [pD.gl (by decide) (by omega), pC.gl (by decide) (by omega), hF.gl (by decide) (by omega)]
    unfold ppA
    rw [hfl_sai, hfl_sfl, if_pos ⟨rfl, rfl⟩]
  · rw [wR.gA (by decide), sA_2]
    by_cases g : k' = 38
    · rw [if_pos ⟨rfl, g⟩, if_pos (tb_or.mpr (Or.inr g.symm))]
    · rw [if_neg (by omega), tb_orn (fun z => g z.symm)]
      exact m3 k' hk'
  · have g3' : M.testBit k' = true := by
      rw [tb_orn (fun z => g2 z.symm)] at g3
      exact g3
    obtain ⟨s', e, b1, b2, b3, b4, b5, b6, b7, b8⟩ := pk k' g1 g2 g3'
    obtain ⟨q2, q3⟩ := hR.2 k' g2
    have q1' : rb.2.2 83 k' = r.2.2 83 k' := by rw [wR.gL (by decide)]; rfl
    have q2' : rb.2.1 84 k' = r.2.1 84 k' := by rw [q2, sA_o (by decide)]
    have q3' : rb.2.1 85 k' = r.2.1 85 k' := by rw [q3, sA_o (by decide)]
    refine ⟨s', e, by rw [a42, u_n _ _ _ g2]; exact b1, by rw [a43, u_n _ _ _ g2]; exact b2, b3, b4, b5, b6, fun z => ?_, fun z => ?_⟩
    · obtain ⟨n, n1, n2, n3, n4⟩ := b7 z
      exact ⟨n, n1, by rw [a41, l_n _ _ _ g2]; exact n2, by rw [q1']; exact n3, n4⟩
    · rw [q2', q3']
      exact b8 z
  · rw [ehd, hfi_sfi, if_pos ⟨rfl, rfl⟩, List.length_append, ln]
  · rw [List.length_append, ln]
    exact h87
  · rw [List.length_append, ln]
    exact hUl
  · refine Cg.app (Cg.of u5 (fun q hq => ?_)) (fun q hq => ?_)
    · rw [a44]
      unfold va_cpy
      rw [if_neg (by omega)]
    · rw [ln] at hq
      rw [a44, sl_at hq (by omega)]
      unfold va_cpy
      rw [if_pos (by omega), show s + (0 + U.length + q - U.length) = s + q by omega]
      have := hC (s + q) (by omega)
      rw [Nat.zero_add] at this
      exact this
  · rw [pD.gr (by decide) (by omega), pC.gr (by decide) (by omega), hF.gr (by decide) (by omega), pA.gr (by decide) (by omega)]
    exact p606
  · have e607 : hfr hd 607 (x + 40) = hfr h 607 (x + 40) := by
      rw [pD.gr (by decide) (by omega), pC.gr (by decide) (by omega), hF.gr (by decide) (by omega), pA.gr (by decide) (by omega)]
    rcases pq with ⟨y1, y2⟩ | ⟨y1, a, s', y2, y3, y4, y5, y6⟩
    · exact Or.inl ⟨by rw [tb_orn (by omega)]; exact y1, by rw [e607]; exact y2⟩
    · exact Or.inr ⟨by rw [tb_orn (by omega)]; exact y1, a, s', by rw [e607]; exact y2, by rw [a42, u_n _ _ _ (by omega)]; exact y3, y4, y5.stp (((pA.1.tr hF.1).tr pC.1).tr pD.1), y6⟩
  · have tks : ∀ k', k' ≠ 38 → tk x hd (M ||| 2 ^ 38) k' = tk x h M k' := fun k' hk' => by
      unfold tk
      rw [tb_orn (fun z => hk' z.symm), a42, a43, u_n _ _ _ hk', u_n _ _ _ hk']
    unfold Tot
    rw [tks 1 (by omega), tks 3 (by omega), tks 8 (by omega), tks 9 (by omega)]
end PR2
