/-! ===== what waits goes on, by both ===== -/
section PMP
variable {x ec es ew s b n : Nat} {e0 : Int32} {h : Hp} {r r' : RS}
theorem Rel.unq (R : Rel x ec es ew e0 h r) (hs : s < 12) (hb : har h (x + 34) s = some b) (hn : r.2.1 38 s = nn n) (hn1 : 1 ≤ n) (hn2 : n ≤ 24) (U : UnM s n r r') : Rel x ec es ew e0 (unqH h b n) r' := by
  have T := R.st
  have hx := T.1
  have Sb := R.ses hs hb
  have hb2 := Sb.1.2.1
  have hb4 := Sb.1.2.2.1
  have p := unqH.fm (x := x) (h := h) (b := b) (n := n) hb2
  obtain ⟨w1, w2, h38, hsh⟩ := U
  have e34 : har (unqH h b n) (x + 34) = har h (x + 34) := (p.2.2 (x + 34) (by omega) (by omega)).2.1
  have a3 : har (unqH h b n) (b + 3) = disF (har h (b + 3)) 0 (n - 1) := by
    unfold unqH
    rw [har_sar, if_pos rfl]
  have a2 : har (unqH h b n) (b + 2) = har h (b + 2) := (p.2.2 (b + 2) (by omega) (by omega)).2.1
  have a1 : har (unqH h b n) (b + 1) = har h (b + 1) := (p.2.2 (b + 1) (by omega) (by omega)).2.1
  have sh : ∀ k, k < n - 1 → har (unqH h b n) (b + 3) k = har h (b + 3) (k + 1) := fun k hk => by
    rw [a3]
    unfold disF
    rw [if_pos (by omega)]
  have e31 : r'.2.1 31 = r.2.1 31 := w2.gA (by decide)
  have e24 : r'.2.1 24 = r.2.1 24 := w2.gA (by decide)
  -- a place of now, and where it was
  have was : ∀ k d, k < 40 → act r' s k → dl (unqH h b n) b k = some d → act r s (if k < 16 then k else k + 1) ∧ dl h b (if k < 16 then k else k + 1) = some d ∧ (if k < 16 then k else k + 1) < 40 := by
    intro k d hk ha hd
    unfold act at ha ⊢
    unfold dl at hd ⊢
    by_cases g : k < 16
    · rw [if_pos g] at ha hd
      rw [if_pos g, if_pos g, if_pos g]
      rw [e31] at ha
      rw [a2] at hd
      exact ⟨ha, hd, hk⟩
    · rw [if_neg g] at ha hd
      rw [h38, iN_nn (by omega)] at ha
      rw [sh _ ha] at hd
      rw [if_neg g, if_neg (by omega), if_neg (by omega), hn, iN_nn (by omega)]
      exact ⟨by omega, by rw [show k + 1 - 16 = k - 16 + 1 by omega]; exact hd, by omega⟩
  refine R.same (i := 8) (unqH.hx hb2) w1 hs hb e34 (R.2.1.fm T p w2 (by decide) (by decide)) (by rw [sSum.fm T p (by decide), w2.gI (by decide)]; exact R.2.2.1) (w2.gI (by decide)) (fun _ _ _ z => z) (fun _ _ _ z => z) (fun z => by omega) (by rw [w2.gA (by decide)]) (by rw [w2.gA (by decide)]) (fun _ _ _ _ => by rw [w2.gA (by decide)]) (fun d hd => Or.inr ⟨p.gr (by decide) hd, fun f hf => p.gi ?_ hd⟩) (fun u hu => Or.inr (fun f hf => p.gi ?_ hu)) (fun z => by omega) ?_ ?_ ?_ ?_ ?_ ?_ (p.gr (by decide) (by omega)) (by rw [w2.gA (by decide)]) ?_ ?_
  · simp only [List.mem_cons, List.not_mem_nil, or_false] at hf ⊢
    omega
  · simp only [List.mem_cons, List.not_mem_nil, or_false] at hf ⊢
    omega
  · refine ⟨Sb.1.sto p.1, Sb.2.1.fm (by omega) p.1 w2 (by decide), Sb.2.2.1.fm (by omega) p w2 (by decide) (by decide), Sb.2.2.2.1.fm (by omega) p w2 (by decide) (by decide), Sb.2.2.2.2.1.fm hb4 p w2 (by decide) (by omega) (by decide), Sb.2.2.2.2.2.1.fm hb4 p w2 (by decide) (by omega) (by decide), ?_, Sb.2.2.2.2.2.2.2.1.fm hb4 p w2 (by decide) (by omega) (by decide), Sb.2.2.2.2.2.2.2.2.fm w2 (by decide)⟩
    obtain ⟨n', q1, q2, q3, q4⟩ := Sb.2.2.2.2.2.2.1
    have en : n' = n := nn_inj (by omega) (by omega) (q3.symm.trans hn)
    subst en
    refine ⟨n' - 1, by omega, ?_, h38, fun k hk => ?_⟩
    · unfold unqH
      rw [hfi_sar, hfi_sfi, if_pos ⟨rfl, rfl⟩]
    · obtain ⟨d, d1, m, j, q, fl, id, c1, c2, c3, c4, c5, c6, c7, c8⟩ := q4 (k + 1) (by omega)
      refine ⟨d, by rw [sh k hk]; exact d1, m, j, q, fl, id, ⟨by rw [(p.1.2.1 d c1.2.2).1]; exact c1.1, c1.2.1, Nat.lt_of_lt_of_le c1.2.2 p.1.1⟩, by rw [p.gr (by decide) c1.2.2]; exact c2, by rw [hsh k hk 39 (by decide)]; exact c3, c4.to p w2 (by decide) (by decide), ⟨by rw [p.gi (by decide) c1.2.2]; exact c5.1, by rw [hsh k hk 40 (by decide)]; exact c5.2.1, c5.2.2⟩, ⟨by rw [p.gi (by decide) c1.2.2]; exact c6.1, by rw [hsh k hk 41 (by decide)]; exact c6.2.1, c6.2.2⟩, ⟨by rw [p.gi (by decide) c1.2.2]; exact c7.1, by rw [hsh k hk 42 (by decide)]; exact c7.2.1, c7.2.2⟩, by rw [p.gi (by decide) c1.2.2]; exact c8⟩
  · intro g
    exact (((R.2.2.2.2.1 s hs).at hb).2.2 g).fm (by omega) p w2 (by decide) (by decide)
  · intro k d hk ha hd
    obtain ⟨g1, g2, g3⟩ := was k d hk ha hd
    exact ⟨⟨_, g3, g1, g2⟩, p.gr (by decide) (act.lt Sb g1 g3 g2)⟩
  · intro k k' d hk hk' ha ha' hd hd'
    obtain ⟨g1, g2, g3⟩ := was k d hk ha hd
    obtain ⟨y1, y2, y3⟩ := was k' d hk' ha' hd'
    have := (R.2.2.2.2.2.1 s s b b _ _ d hs hs hb hb g3 y3 g1 y1 g2 y2).2
    split at this <;> split at this <;> omega
  · intro k u hk hu
    rw [e24] at hk
    rw [a1] at hu
    exact Or.inr ⟨k, hk, hu⟩
  · intro k k' u hk hk' hu hu'
    rw [e24] at hk hk'
    rw [a1] at hu hu'
    exact (R.2.2.2.2.2.2.1 s s b b k k' u hs hs hb hb hk hk' hu hu').2
  · intro k hk
    rw [e31] at hk
    exact Or.inl ⟨k, hk, by rw [w2.gA (by decide)]⟩
  · intro k hk
    rw [h38, iN_nn (by omega)] at hk
    exact Or.inr ⟨k + 1, by rw [hn, iN_nn (by omega)]; omega, hsh k hk 39 (by decide)⟩
theorem UnM.wn (U : UnM s n r r') (hon : r.2.1 15 s ≠ -1) : WN r' ≤ WN r := WN.le (fun s' hs' => by
  obtain ⟨w1, w2, h38, _⟩ := U
  unfold wl
  rw [w2.gA (k := 11) (by decide), w2.gA (k := 20) (by decide), w2.gA (k := 15) (by decide)]
  by_cases g : s' = s
  · rw [g, if_neg hon, if_neg hon]
    exact Nat.le_refl _
  · have : r'.2.1 38 s' = r.2.1 38 s' := (w1.2 38 s' (fun z => by
      rcases z with z | z | z | z | z | z
      · omega
      · unfold ow at z
        rw [if_neg (by omega), if_neg (by omega), if_neg (by omega), if_neg (by omega), if_neg (by omega)] at z
        omega
      · omega
      · omega
      · omega
      · omega)).1
    rw [this]
    exact Nat.le_refl _)
theorem qm_begin_g {j : Nat} {v2 v3 v4 : Int32} (hj : j < 640) (hg : gon r j = true) : R_begin (nn s) (nn j) v2 v3 v4 r = some ((), r) := by
  have hh : wp (R_begin (nn s) (nn j) v2 v3 v4) r (fun _ r' => r' = r) := by
    unfold R_begin
    rw [wp_bd]
    refine wp.get (qm_gone hj) ?_
    rw [if_pos hg, wp_neg (by decide), wp_rt]
  obtain ⟨_, r', e1, e2⟩ := hh
  rw [e1, e2]
theorem sim_pump (R : Rel x ec es ew e0 h r) (hs : s < 12) (hb : har h (x + 34) s = some b) : Sim (C_X11_goOn x (some b)) h (R_pump (nn s)) r (fun _ h' _ r' => Rel x ec es ew e0 h' r' ∧ GH x h h' r r' ∧ hcs h' = hcs h ∧ WN r' ≤ WN r) := by
  unfold C_X11_goOn R_pump
  have key : ∀ (n l f g : Nat) (h1 : Hp) (r1 : RS), l + n ≤ 24 → n < f → n < g → Rel x ec es ew e0 h1 r1 → har h1 (x + 34) s = some b → r1.2.1 38 s = nn n → GH x h h1 r r1 → hcs h1 = hcs h → WN r1 ≤ WN r → Sim (C_X11_goOn_L2 x (C_X11_goOn_J63 x) f (some b) (nn l)) h1 (R_pump_L0 (R_pump_J173) g (nn s)) r1 (fun _ h' _ r' => Rel x ec es ew e0 h' r' ∧ GH x h h' r r' ∧ hcs h' = hcs h ∧ WN r' ≤ WN r) := by
    intro n
    induction n with
    | zero =>
      intro l f g h1 r1 hl hf hg R1 hb1 h38 G1 c1 wn1
      obtain ⟨f', rfl⟩ : ∃ z, f = z + 1 := ⟨f - 1, by omega⟩
      obtain ⟨g', rfl⟩ : ∃ z, g = z + 1 := ⟨g - 1, by omega⟩
      have Sb := R1.ses hs hb1
      have c11 := ((R1.2.2.2.2.1 s hs).at hb1).1
      have e8 : hfi h1 (100 * 10 + 8) b = nn 0 := by
        obtain ⟨n', q1, q2, q3, q4⟩ := Sb.2.2.2.2.2.2.1
        exact q2.trans (q3.symm.trans h38)
      have fin : Sim (C_X11_goOn_J63 x) h1 (R_pump_J173) r1 (fun _ h' _ r' => Rel x ec es ew e0 h' r' ∧ GH x h h' r r' ∧ hcs h' = hcs h ∧ WN r' ≤ WN r) := by
        unfold C_X11_goOn_J63 R_pump_J173
        exact Sim.ret ⟨R1, G1, c1, wn1⟩
      show Sim (C_X11_goOn_B2 x _ _ (some b) (nn l)) h1 (R_pump_B0 _ _ (nn s)) r1 _
      unfold C_X11_goOn_B2 R_pump_B0
      rw [sr_r11 hs, c11, sr_neg (by decide), sr_r38 hs, h38, sr_pos (by decide)]
      by_cases g24 : (24 : Int32) ≤ nn l
      · rw [sl_pos g24]
        exact fin
      · rw [sl_neg g24, sl_gI Sb.1.1, e8, sl_pos (by decide)]
        exact fin
    | succ n ih =>
      intro l f g h1 r1 hl hf hg R1 hb1 h38 G1 c1 wn1
      obtain ⟨f', rfl⟩ : ∃ z, f = z + 1 := ⟨f - 1, by omega⟩
      obtain ⟨g', rfl⟩ : ∃ z, g = z + 1 := ⟨g - 1, by omega⟩
      have T := R1.st
      have hx := T.1
      have Sb := R1.ses hs hb1
      have hb2 := Sb.1.2.1
      have hb4 := Sb.1.2.2.1
      have c11 := ((R1.2.2.2.2.1 s hs).at hb1).1
      obtain ⟨n', q1, q2, q3, q4⟩ := Sb.2.2.2.2.2.2.1
      have en : n' = n + 1 := nn_inj (by omega) (by omega) (q3.symm.trans h38)
      subst en
      have e8 : hfi h1 (100 * 10 + 8) b = nn (n + 1) := q2
      have qc := qc_may Sb.1 Sb.2.2.1 Sb.2.2.2.2.2.1
      have qm := qm_may (r := r1) hs
      show Sim (C_X11_goOn_B2 x _ _ (some b) (nn l)) h1 (R_pump_B0 _ _ (nn s)) r1 _
      unfold C_X11_goOn_B2 R_pump_B0
      rw [sl_neg (by rw [l_24, nn_le (by omega) (by omega)]; omega), sl_gI Sb.1.1, e8, sl_neg (by rw [show (0 : Int32) = nn 0 from rfl, nn_le (by omega) (by omega)]; omega), sl_Cv Sb.1.1, Sim_l (e_bd qc), sr_r11 hs, c11, sr_neg (by decide), sr_r38 hs, h38, sr_neg (by rw [show (0 : Int32) = nn 0 from rfl, nn_le (by omega) (by omega)]; omega), Sim_r (e_bd qm)]
      by_cases hma : may r1 s
      · rw [if_pos hma, sl_neg (by decide), sr_neg (by decide), sl_Cv Sb.1.1]
        have hkk : ∀ k, k < n + 1 → ∃ d, har h1 (b + 3) k = some d ∧ hkd h1 d = 4 := fun k hk => by
          obtain ⟨d, d1, m, j, q, fl, id, c1, _⟩ := q4 k hk
          exact ⟨d, d1, c1.1⟩
        obtain ⟨d, d1, m, j, q, fl, id, y1, y2, y3, y4, y5, y6, y7, y8⟩ := q4 0 (by omega)
        rw [Nat.add_zero] at y3 y5 y6 y7
        have hj : j < 640 := by
          obtain ⟨V, v1, v2, v3⟩ := y4.1
          exact v2.1
        obtain ⟨r2, e2, U2⟩ := qm_unq (r := r1) (s := s) (n := n + 1) hs (by omega) q1 (ke := fun l1 l3 l4 l5 l6 => R_pump_J158 (fun l1 => R_pump_L0 (R_pump_J173) g' l1) (R_pump_J173) l1 l3 l4 l5 l6) (v1 := nn j) (v2 := nn q) (v3 := nn fl) (v4 := nn id)
        have R2 := R1.unq hs hb1 h38 (by omega) q1 U2
        have p2 := unqH.fm (x := x) (h := h1) (b := b) (n := n + 1) hb2
        have w2 := U2.2.1
        have T2 := R2.st
        have e34 : har (unqH h1 b (n + 1)) (x + 34) = har h1 (x + 34) := (p2.2.2 (x + 34) (by omega) (by omega)).2.1
        have hb2' : har (unqH h1 b (n + 1)) (x + 34) s = some b := by rw [e34]; exact hb1
        have S2 := R2.ses hs hb2'
        obtain ⟨ny, ny1, ny2, ny3, _⟩ := Sb.2.2.2.2.2.1
        have hon : r1.2.1 15 s ≠ -1 := by
          obtain ⟨_, i0, i1, i2, i3, i4⟩ := hma.lt Sb.2.2.1 ny3 ny1
          rw [i3]
          exact fun z => neg_nn (by omega) z.symm
        have wn2 := U2.wn hon
        have G2 : GH x h1 (unqH h1 b (n + 1)) r1 r2 := ⟨p2.sub (by decide) (fun a ha => Or.inr (Or.inr ⟨s, b, hs, hb1, Or.inr ha⟩)), w2.sub (by decide), e34⟩
        have M2 : MpT x (unqH h1 b (n + 1)) r2 m j := y4.to p2 w2 (by decide) (by decide)
        have d2 : hfr (unqH h1 b (n + 1)) (100 * 3 + 0) d = some m := by
          rw [p2.gr (by decide) y1.2.2]
          exact y2
        have kd2 : hkd (unqH h1 b (n + 1)) d = 4 := by
          rw [(p2.1.2.1 d y1.2.2).1]
          exact y1.1
        have t9 : hfi (unqH h1 b (n + 1)) (100 * 13 + 9) x = r2.1 66 := R2.2.1.2.1
        have km : hkd (unqH h1 b (n + 1)) m = 5 + 1 := by
          obtain ⟨V, v1, _⟩ := M2.1
          exact v1.1
        rw [Sim_l (e_bd (qc_unqueue Sb.1 q2 (by omega) q1 hkk)), d1, sl_neg (fun z => by cases z), sl_gR kd2, d2, sl_gI T2.2.1.1, t9, sl_Cv km, Sim_l (e_bd (qc_gone M2 R2.2.1.1 rfl))]
        rw [sr_lq, l_24, nn_mul, sr_r39 (by omega), y3, sr_r40 (by omega), y5.2.1, sr_r41 (by omega), y6.2.1, sr_r42 (by omega), y7.2.1, sr_r38 hs, h38, l_1, nn_sub (by omega), sr_w38 hs, Sim_r e2]
        dsimp only
        unfold R_pump_J158
        have n38 : r2.2.1 38 s = nn n := U2.2.2.1
        by_cases hg2 : gon r2 j = true
        · rw [if_pos hg2, sl_neg (by decide), Sim_r (e_bd (qm_begin_g hj hg2)), nn_add]
          exact ih (l + 1) f' g' _ r2 (by omega) (by omega) (by omega) R2 hb2' n38 (G1.tr G2) c1 (by omega)
        · have hg3 : gon r2 j = false := by simpa using hg2
          rw [if_neg hg2, sl_pos rfl, sl_Cv S2.1.1]
          have hma2 : may r2 s := by
            unfold may at hma ⊢
            rw [w2.gA (k := 15) (by decide), w2.gA (k := 31) (by decide), w2.gA (k := 17) (by decide)]
            exact hma
          have U4 := R1.2.2.2.2.2.2.2.2.2.1
          have hact : act r1 s 16 := by
            unfold act
            rw [if_neg (by omega), h38, iN_nn (by omega)]
            omega
          have hdl : dl h1 b 16 = some d := by
            unfold dl
            rw [if_neg (by omega)]
            exact d1
          obtain ⟨h3, h4, r4, k1, k2, k3, k4, k5, k6, k7⟩ := sim_begin R2 hs hb2' (n := ny) (d := d) (m := m) (j := j) (q := q) (fl := fl) (id := id) (by rw [w2.gA (by decide)]; exact ny3) ny1 hma2 ⟨kd2, y1.2.1, Nat.lt_of_lt_of_le y1.2.2 p2.1.1⟩ (fun s' b' k' g1 g2 g3 g4 g5 => by
              rw [e34] at g2
              by_cases es' : s' = s
              · subst es'
                rw [hb1] at g2
                cases g2
                unfold act at g4
                unfold dl at g5
                by_cases g : k' < 16
                · rw [if_pos g] at g4 g5
                  rw [w2.gA (by decide)] at g4
                  rw [(p2.2.2 (b + 2) (by omega) (by omega)).2.1] at g5
                  have := (R1.2.2.2.2.2.1 s' s' b b k' 16 d hs hs hb1 hb1 (by omega) (by omega) (by unfold act; rw [if_pos g]; exact g4) hact (by unfold dl; rw [if_pos g]; exact g5) hdl).2
                  omega
                · rw [if_neg g] at g4 g5
                  rw [n38, iN_nn (by omega)] at g4
                  have e3 : har (unqH h1 b (n + 1)) (b + 3) (k' - 16) = har h1 (b + 3) (k' - 16 + 1) := by
                    unfold unqH
                    rw [har_sar, if_pos rfl]
                    unfold disF
                    rw [if_pos (by omega)]
                  rw [e3] at g5
                  have := (R1.2.2.2.2.2.1 s' s' b b (k' + 1) 16 d hs hs hb1 hb1 (by omega) (by omega) (by unfold act; rw [if_neg (by omega), h38, iN_nn (by omega)]; omega) hact (by unfold dl; rw [if_neg (by omega), show k' + 1 - 16 = k' - 16 + 1 by omega]; exact g5) hdl).2
                  omega
              · have T' := (R1.ses g1 g2).1
                have n1 := T'.ne Sb.1 1 (by omega) (by omega)
                have n2 := Sb.1.ne T' 1 (by omega) (by omega)
                have l1 := T'.2.2.1
                have ea : act r1 s' k' := by
                  unfold act at g4 ⊢
                  by_cases g : k' < 16
                  · rw [if_pos g] at g4 ⊢
                    rw [w2.gA (by decide)] at g4
                    exact g4
                  · rw [if_neg g] at g4 ⊢
                    have e38 : r2.2.1 38 s' = r1.2.1 38 s' := (U2.1.2 38 s' (fun z => by
                      rcases z with z | z | z | z | z | z
                      · omega
                      · unfold ow at z
                        rw [if_neg (by omega), if_neg (by omega), if_neg (by omega), if_neg (by omega), if_neg (by omega)] at z
                        omega
                      · omega
                      · omega
                      · omega
                      · omega)).1
                    rw [e38] at g4
                    exact g4
                have ed : dl h1 b' k' = some d := by
                  unfold dl at g5 ⊢
                  by_cases g : k' < 16
                  · rw [if_pos g] at g5 ⊢
                    rw [(p2.2.2 (b' + 2) (by omega) (by omega)).2.1] at g5
                    exact g5
                  · rw [if_neg g] at g5 ⊢
                    rw [(p2.2.2 (b' + 3) (by omega) (by
                      intro z
                      have : b' = b := by omega
                      rw [this] at g2
                      exact es' (T'.inj (by rw [this]; exact Sb.1) g1 hs))).2.1] at g5
                    exact g5
                exact es' (R1.2.2.2.2.2.1 s' s b' b k' 16 d g1 hs g2 hb1 g3 (by omega) ea hact ed hdl).1) d2 M2 hj ⟨by rw [p2.gi (by decide) y1.2.2]; exact y5.1, y5.2.2⟩ ⟨by rw [p2.gi (by decide) y1.2.2]; exact y6.1, y6.2.2⟩ ⟨by rw [p2.gi (by decide) y1.2.2]; exact y7.1, y7.2.2⟩ (by rw [p2.gi (by decide) y1.2.2]; exact y8) (fun s' b' g1 g2 => by
              rw [e34] at g2
              have l1 := (R1.ses g1 g2).1.2.2.1
              rw [p2.gr (by decide) (by omega), w2.gA (by decide)]
              rcases (R1.ses g1 g2).2.2.2.1 with ⟨z1, z2⟩ | ⟨m', j', z1, z2, _⟩
              · rw [z1, z2]
                exact ⟨(fun z => by cases z), neg_nn (by omega)⟩
              · have := U4 s' b' m' j' g1 g2 z1 z2
                refine ⟨fun z => ?_, fun z => ?_⟩
                · rw [z1] at z
                  cases z
                  exact this.2.1 s b 16 d hs hb1 (by omega) hact hdl y2
                · rw [z2] at z
                  refine this.2.2.2.1 s 0 hs c11 (by rw [h38, iN_nn (by omega)]; omega) ?_
                  rw [Nat.add_zero, y3, z]) hg3
          have T4 := k4.st
          rw [Sim_l (e_bd k1)]
          have kx3 : hkd h3 x = 13 + 1 := by
            by_cases hk : hkd h3 x = 13 + 1
            · exact hk
            · exfalso
              unfold C_X11_deliver at k2
              unfold hgR at k2
              dsimp only at k2
              rw [if_neg hk] at k2
              cases k2
          rw [sl_Cv kx3, Sim_l (e_bd k2), Sim_r (e_bd k3), nn_add]
          have w4 : WN r4 ≤ WN r2 := Ro.wn k5.2.1 (by decide) (by decide) (by decide) (by decide)
          refine ih (l + 1) f' g' h4 r4 (by omega) (by omega) (by omega) k4 (by rw [k5.2.2]; exact hb2') ?_ ((G1.tr G2).tr k5.gh) ?_ (by omega)
          · rw [k5.2.1.gA (by decide)]
            exact n38
          · rw [k6]
            exact c1
      · rw [if_neg hma, sl_pos rfl, sr_pos rfl]
        unfold C_X11_goOn_J63 R_pump_J173
        exact Sim.ret ⟨R1, G1, c1, wn1⟩
  obtain ⟨n, q1, q2, q3, q4⟩ := (R.ses hs hb).2.2.2.2.2.2.1
  exact key n 0 fu fu h r (by omega) (by unfold fu; omega) (by unfold fu; omega) R hb q3 GH.rf rfl (Nat.le_refl _)
end PMP
