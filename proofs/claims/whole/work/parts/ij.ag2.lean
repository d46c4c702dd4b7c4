/-! ===== sending again: the loop ===== -/
section AG2
variable {x ec es ew s b i n0 : Nat} {e0 : Int32} {h : Hp} {r : RS}
theorem tw_ro {A : Nat → Nat → Int32} {S : List Nat} {r r' : RS} (w : Ro S (tw A r) (tw A r')) (k : ∀ k, 31 ≤ k → k ≤ 37 → r'.2.1 k = r.2.1 k) : Ro S r r' := fun f hf => by
  obtain ⟨w1, w2, w3⟩ := w f hf
  refine ⟨w1, ?_, w3⟩
  by_cases z : 31 ≤ f ∧ f ≤ 37
  · exact k f z.1 z.2
  · rw [tw_o z, tw_o z] at w2
    exact w2
theorem AgI.ro {l2 l4 : Nat} {A : Nat → Nat → Int32} {r r' : RS} (I : AgI s n0 l2 l4 A r) (k : ∀ k, 31 ≤ k → k ≤ 37 → r'.2.1 k = r.2.1 k) : AgI s n0 l2 l4 A r' := by
  obtain ⟨a1, a2, a3, a4⟩ := I
  refine ⟨a1, by rw [k 31 (by omega) (by omega)]; exact a2, fun s' g => by rw [k 31 (by omega) (by omega)]; exact a3 s' g, fun f hf => ?_⟩
  have fb := fw_b hf
  rw [k f fb.1 fb.2]
  exact a4 f hf
theorem sim_again (R : Rel x ec es ew e0 h r) (hs : s < 12) (hb : har h (x + 34) s = some b) (hi : i < 8) (c1 : hfr h 1002 b = some (cA x i)) (c2 : r.2.1 15 s = nn i) (c3 : r.2.1 7 i = nn s) :
    Sim (C_X11_sendAgain x (some b) (some (cA x i))) h (R_again (nn s)) r (fun _ h' _ r' => Rel x ec es ew e0 h' r' ∧ GF x h h' r r' ∧ hcs h' = hcs h) := by
  have ho := R.onl hs hi c3
  obtain ⟨n0, q1, q2, q3, _⟩ := (R.ses hs hb).2.2.2.2.2.1
  have hbx := (R.ses hs hb).1.2.1
  have hbl := (R.ses hs hb).1.2.2.1
  unfold C_X11_sendAgain R_again
  rw [Sim_r (x_rA mL_31 hs (by omega)), q3]
  have key : ∀ (c l2 l4 f g : Nat) (A : Nat → Nat → Int32) (h1 : Hp) (r1 : RS), l4 + c = n0 → l2 ≤ l4 → c < f → c < g → Rel x ec es ew e0 h1 (tw A r1) → AgI s n0 l2 l4 A r1 → GF x h h1 r r1 → hcs h1 = hcs h →
      Sim (C_X11_sendAgain_L5 x (C_X11_sendAgain_J88 x) f (some b) (some (cA x i)) (nn l2) (nn l4)) h1 (R_again_L12 (fun l1 l2 => R_again_J143 l1 l2) g (nn s) (nn l2) (nn n0) (nn l4)) r1 (fun _ h' _ r' => Rel x ec es ew e0 h' r' ∧ GF x h h' r r' ∧ hcs h' = hcs h) := by
    intro c
    induction c with
    | zero =>
      intro l2 l4 f g A h1 r1 hc hl hf hg R1 I G1 cs
      obtain ⟨f', rfl⟩ : ∃ z, f = z + 1 := ⟨f - 1, by omega⟩
      obtain ⟨g', rfl⟩ : ∃ z, g = z + 1 := ⟨g - 1, by omega⟩
      have e4 : l4 = n0 := by omega
      subst e4
      have hb1 : har h1 (x + 34) s = some b := by rw [G1.2.2]; exact hb
      have S1 := R1.ses hs hb1
      obtain ⟨a1, a2, a3, a4⟩ := I
      rw [Nat.sub_self, Nat.add_zero] at a1
      obtain ⟨n', d1, d2, d3, _⟩ := S1.2.2.2.2.2.1
      rw [tw_i (by omega), a1] at d3
      have en : l2 = n' := nn_inj (by omega) (by omega) d3
      subst en
      have cl : C_X11_sendAgain_L5 x (C_X11_sendAgain_J88 x) (f' + 1) (some b) (some (cA x i)) (nn l2) (nn l4) h1 = rt () h1 := by
        show C_X11_sendAgain_B5 x _ _ (some b) (some (cA x i)) (nn l2) (nn l4) h1 = _
        unfold C_X11_sendAgain_B5
        by_cases z : (16 : Int32) ≤ nn l4
        · rw [if_pos z]
          rfl
        · rw [if_neg z, e_gI (c := 10) S1.1.1, show hfi h1 (100 * 10 + 6) b = nn l2 from d2, if_pos (Int32.le_refl _)]
          rfl
      have ml : R_again_L12 (fun l1 l2 => R_again_J143 l1 l2) (g' + 1) (nn s) (nn l2) (nn l4) (nn l4) r1 = some ((), sA r1 31 s (nn l2)) := by
        show R_again_B12 _ _ (nn s) (nn l2) (nn l4) (nn l4) r1 = _
        unfold R_again_B12 R_again_J143
        rw [if_pos (Int32.le_refl _)]
        dsimp only
        rw [x_wA mL_31 hs (by omega)]
        rfl
      rw [Sim_l cl, Sim_r (M' := rt ()) ml]
      refine Sim.ret ⟨R1.wyq (n := l2) hs hb1 (by rw [tw_i (by omega)]; exact a1) (by omega) ?_ ?_ ?_, ⟨G1.1, (G1.2.1).tr (Ro.rf.a (by decide)), G1.2.2⟩, cs⟩
      · intro f hf
        refine ⟨rfl, ?_, rfl⟩
        by_cases z : f = 31
        · subst z
          funext s'
          rw [tw_i (by omega), sA_2]
          by_cases y : s' = s
          · rw [if_pos ⟨rfl, y⟩, y, a1]
          · rw [if_neg (fun w => y w.2), a3 s' y]
        · rw [sA_o (fun y => z y), tw_o (fun y => hf (by simp only [List.mem_cons, List.not_mem_nil, or_false]; omega))]
      · refine ⟨⟨rfl, rfl⟩, fun f p hp => ⟨?_, rfl⟩⟩
        by_cases z : f = 31
        · subst z
          have y : p ≠ s := fun y => hp (Or.inr (Or.inl ⟨by omega, by omega, y⟩))
          rw [tw_i (by omega), sA_2, if_neg (fun w => y w.2), a3 p y]
        · rw [sA_o (fun y => z y)]
          by_cases y : 31 ≤ f ∧ f ≤ 37
          · have hf : f ∈ [32, 33, 34, 35, 36, 37] := by
              simp only [List.mem_cons, List.not_mem_nil, or_false]
              omega
            rw [tw_i y]
            refine ((a4 f hf).2.2 p (fun w => hp (Or.inr (Or.inl ⟨by omega, by omega, ?_⟩)))).symm
            unfold ow
            rw [if_neg (by omega), if_neg (by omega), if_neg (by omega), if_pos (by omega)]
            exact w
          · rw [tw_o y]
      · intro q hq f hf
        have fb := fw_b hf
        have f31 : f ≠ 31 := fun z => by rw [z] at hf; exact absurd hf (by decide)
        rw [sA_o f31, tw_i fb]
        exact ((a4 f hf).1 q hq).symm
    | succ c ih =>
      intro l2 l4 f g A h1 r1 hc hl hf hg R1 I G1 cs
      obtain ⟨f', rfl⟩ : ∃ z, f = z + 1 := ⟨f - 1, by omega⟩
      obtain ⟨g', rfl⟩ : ∃ z, g = z + 1 := ⟨g - 1, by omega⟩
      have I0 := I
      obtain ⟨a1, a2, a3, a4⟩ := I
      have hx := R1.st.1
      have kx := R1.st.2.1.1
      have hb1 : har h1 (x + 34) s = some b := by rw [G1.2.2]; exact hb
      have S1 := R1.ses hs hb1
      obtain ⟨n, hn⟩ : ∃ z, z = l2 + (n0 - l4) := ⟨_, rfl⟩
      rw [← hn] at a1
      have hnT : (tw A r1).2.1 31 s = nn n := by rw [tw_i (by omega)]; exact a1
      obtain ⟨n', d1, d2, d3, _⟩ := S1.2.2.2.2.2.1
      have en : n' = n := nn_inj (by omega) (by omega) (d3.symm.trans hnT)
      subst en
      have hk : l2 < n' := by omega
      obtain ⟨d, dd, m, j, q, fl, id, num, ⟨y1, y2, y3⟩, y4, y5, y6, y7, y8, y9, ⟨y17, y18, y19, y20⟩, y21, y22⟩ := R1.way hs hb1 hnT d1 hk
      have v : ∀ f ∈ [32, 33, 34, 35, 36, 37], (tw A r1).2.1 f (16 * s + l2) = r1.2.1 f (16 * s + l4) := fun f hf => by
        rw [tw_i (fw_b hf)]
        have := (a4 f hf).2.1 0 (by omega)
        rw [Nat.add_zero, Nat.add_zero] at this
        exact this
      have c1' : hfr h1 1002 b = some (cA x i) := by rw [G1.1.gr (by decide) (by omega)]; exact c1
      have c2' : (tw A r1).2.1 15 s = nn i := by rw [tw_o (by omega), G1.2.1.gA (by decide)]; exact c2
      have c3' : (tw A r1).2.1 7 i = nn s := by rw [tw_o (by omega), G1.2.1.gA (by decide)]; exact c3
      have ho' : (tw A r1).2.1 1 i = 1 := by rw [tw_o (by omega), G1.2.1.gA (by decide)]; exact ho
      have kb : hkd h1 b = 10 + 1 := S1.1.1
      obtain ⟨_, _, _, _, _, ⟨s5, s6, s7⟩, _⟩ := S1.1
      have cl : C_X11_sendAgain_L5 x (C_X11_sendAgain_J88 x) (f' + 1) (some b) (some (cA x i)) (nn l2) (nn l4) h1 = (if hfi h1 305 d = 0 then (bd (C_X11_deliver x (some b) (some d) (1 : Int32)) fun _ => C_X11_sendAgain_J60 x (fun l1 l2 l3 l4 => C_X11_sendAgain_L5 x (C_X11_sendAgain_J88 x) f' l1 l2 l3 l4) (C_X11_sendAgain_J88 x) (some b) (some (cA x i)) (nn l2) (nn l4) (some d)) else (bd (C_X11_answer x (some (cA x i)) (98 : Int32) (nn num) (0 : Int32)) fun _ => C_X11_sendAgain_J60 x (fun l1 l2 l3 l4 => C_X11_sendAgain_L5 x (C_X11_sendAgain_J88 x) f' l1 l2 l3 l4) (C_X11_sendAgain_J88 x) (some b) (some (cA x i)) (nn l2) (nn l4) (some d))) h1 := by
        show C_X11_sendAgain_B5 x _ _ (some b) (some (cA x i)) (nn l2) (nn l4) h1 = _
        unfold C_X11_sendAgain_B5
        rw [if_neg (by rw [show (16 : Int32) = nn 16 from rfl, nn_le (by omega) (by omega)]; omega), e_gI (c := 10) kb, show hfi h1 (100 * 10 + 6) b = nn n' from d2, if_neg (by rw [nn_le (by omega) (by omega)]; omega), e_gR (c := 10) kb, show hfr h1 (100 * 10 + 5) b = some (b + 2) from s5, e_Ar (t := 7) s6 (nn_inr (by rw [s7]; omega) (by omega)), nn_N (by omega), dd, e_gI (c := 3) y1]
        rw [show hfi h1 (100 * 3 + 5) d = hfi h1 305 d from rfl]
        by_cases z : hfi h1 305 d = 0
        · rw [if_pos z, if_pos z, e_Cv (c := 13) kx]
        · rw [if_neg z, if_neg z, e_gI (c := 3) y1, show hfi h1 (100 * 3 + 4) d = nn num from y17, e_Cv (c := 13) kx]
      have ml : R_again_L12 (fun l1 l2 => R_again_J143 l1 l2) (g' + 1) (nn s) (nn l2) (nn n0) (nn l4) r1 = (if r1.2.1 37 (16 * s + l4) = 0 then (bd (R_sendPublish (nn s) (r1.2.1 33 (16 * s + l4)) (r1.2.1 34 (16 * s + l4)) (r1.2.1 35 (16 * s + l4)) (r1.2.1 36 (16 * s + l4)) (r1.2.1 32 (16 * s + l4)) (1 : Int32)) fun r9 => R_again_J117 (fun l1 l2 l3 l4 => R_again_L12 (fun l1 l2 => R_again_J143 l1 l2) g' l1 l2 l3 l4) (fun l1 l2 => R_again_J143 l1 l2) (nn s) (nn l2) (nn n0) (nn l4) (nn (16 * s + l4)) r9) else (bd (R_short4 (nn i) (98 : Int32) (2 : Int32) (nn num >>> ((8 : Int32) &&& 31)) (nn num) (4 : Int32)) fun _ => R_again_J117 (fun l1 l2 l3 l4 => R_again_L12 (fun l1 l2 => R_again_J143 l1 l2) g' l1 l2 l3 l4) (fun l1 l2 => R_again_J143 l1 l2) (nn s) (nn l2) (nn n0) (nn l4) (nn (16 * s + l4)) (1 : Int32))) r1 := by
        have e15 : r1.2.1 15 s = nn i := by rw [← c2', tw_o (by omega)]
        have e32 : r1.2.1 32 (16 * s + l4) = nn num := by rw [← v 32 (by decide)]; exact y18
        show R_again_B12 _ _ (nn s) (nn l2) (nn n0) (nn l4) r1 = _
        unfold R_again_B12 lq
        rw [if_neg (by rw [nn_le (by omega) (by omega)]; omega), show (16 : Int32) * nn s + nn l4 = nn (16 * s + l4) from by rw [show (16 : Int32) = nn 16 from rfl, nn_mul, nn_add]]
        dsimp only
        rw [x_rA mL_37 (by omega) (by omega)]
        by_cases z : r1.2.1 37 (16 * s + l4) = 0
        · rw [if_pos z, if_pos z, x_rA mL_33 (by omega) (by omega), x_rA mL_34 (by omega) (by omega), x_rA mL_35 (by omega) (by omega), x_rA mL_36 (by omega) (by omega), x_rA mL_32 (by omega) (by omega)]
        · rw [if_neg z, if_neg z, x_rA mL_15 hs (by omega), e15, x_rA mL_32 (by omega) (by omega), x_rA mL_32 (by omega) (by omega), e32]
      have e37 : r1.2.1 37 (16 * s + l4) = hfi h1 305 d := by rw [← v 37 (by decide)]; exact y21.symm
      have b37 : r1.2.1 37 (16 * s + l4) = 0 ∨ r1.2.1 37 (16 * s + l4) = 1 := by
        rw [← v 37 (by decide)]
        rcases y22 with z | z
        · exact Or.inl z
        · exact Or.inr z.1
      rw [Sim_l cl, Sim_r ml, e37]
      -- kept: the model moves it, the class goes on
      have kept : ∀ h2 r2, Rel x ec es ew e0 h2 (tw A r2) → AgI s n0 l2 l4 A r2 → r2.2.1 37 (16 * s + l4) = r1.2.1 37 (16 * s + l4) → GF x h h2 r r2 → hcs h2 = hcs h → har h2 (b + 2) = har h1 (b + 2) → hfi h2 1006 b = hfi h1 1006 b → Sim (C_X11_sendAgain_J60 x (fun l1 l2 l3 l4 => C_X11_sendAgain_L5 x (C_X11_sendAgain_J88 x) f' l1 l2 l3 l4) (C_X11_sendAgain_J88 x) (some b) (some (cA x i)) (nn l2) (nn l4) (some d)) h2 (R_again_J117 (fun l1 l2 l3 l4 => R_again_L12 (fun l1 l2 => R_again_J143 l1 l2) g' l1 l2 l3 l4) (fun l1 l2 => R_again_J143 l1 l2) (nn s) (nn l2) (nn n0) (nn l4) (nn (16 * s + l4)) (1 : Int32)) r2 (fun _ h' _ r' => Rel x ec es ew e0 h' r' ∧ GF x h h' r r' ∧ hcs h' = hcs h) := fun h2 r2 R2 I2 k37 G2 cs2 e2 e6 => by
        have hb2 : har h2 (x + 34) s = some b := by rw [G2.2.2]; exact hb
        have S2 := R2.ses hs hb2
        obtain ⟨_, _, _, _, _, ⟨t5, t6, t7⟩, _⟩ := S2.1
        have cj : C_X11_sendAgain_J60 x (fun l1 l2 l3 l4 => C_X11_sendAgain_L5 x (C_X11_sendAgain_J88 x) f' l1 l2 l3 l4) (C_X11_sendAgain_J88 x) (some b) (some (cA x i)) (nn l2) (nn l4) (some d) h2 = C_X11_sendAgain_L5 x (C_X11_sendAgain_J88 x) f' (some b) (some (cA x i)) (nn (l2 + 1)) (nn (l4 + 1)) h2 := by
          unfold C_X11_sendAgain_J60
          rw [e_gI (c := 10) S2.1.1, show hfi h2 (100 * 10 + 6) b = nn n' from e6.trans d2, if_neg (by rw [nn_le (by omega) (by omega)]; omega), e_gR (c := 10) S2.1.1, show hfr h2 (100 * 10 + 5) b = some (b + 2) from t5, e_Ar (t := 7) t6 (nn_inr (by rw [t7]; omega) (by omega)), nn_N (by omega), e2, dd, if_pos rfl, show nn l2 + 1 = nn (l2 + 1) from nn_add, show nn l4 + 1 = nn (l4 + 1) from nn_add]
        have mj : R_again_J117 (fun l1 l2 l3 l4 => R_again_L12 (fun l1 l2 => R_again_J143 l1 l2) g' l1 l2 l3 l4) (fun l1 l2 => R_again_J143 l1 l2) (nn s) (nn l2) (nn n0) (nn l4) (nn (16 * s + l4)) (1 : Int32) r2 = R_again_L12 (fun l1 l2 => R_again_J143 l1 l2) g' (nn s) (nn (l2 + 1)) (nn n0) (nn (l4 + 1)) (mvW r2 (16 * s + l4) (16 * s + l2)) := by
          unfold R_again_J117
          rw [if_neg (by decide), show (16 : Int32) * nn s + nn l2 = nn (16 * s + l2) from by rw [show (16 : Int32) = nn 16 from rfl, nn_mul, nn_add], e_bd (mvW.ev (by omega) (by omega) (by rw [k37]; exact b37)), show nn l2 + 1 = nn (l2 + 1) from nn_add, show nn l4 + 1 = nn (l4 + 1) from nn_add]
        rw [Sim_l cj, Sim_r mj]
        have et : tw A (mvW r2 (16 * s + l4) (16 * s + l2)) = tw A r2 := tw_eq rfl (fun k hk => mvW.ro.gA (by simp only [List.mem_cons, List.not_mem_nil, or_false]; omega)) rfl
        exact ih (l2 + 1) (l4 + 1) f' g' A h2 _ (by omega) (by omega) (by omega) (by omega) (by rw [et]; exact R2) (I2.mv (by omega) (by omega) q1) ⟨G2.1, G2.2.1.tr (mvW.ro.sub (by decide)), G2.2.2⟩ cs2
      by_cases z : hfi h1 305 d = 0
      · rw [if_pos z, if_pos z]
        obtain ⟨vv, h2, x2, p1, p2, p3, p4, p5, p6, p7⟩ := sim_redo R1 hs hb1 hnT d1 hk dd hi c1' c2' c3' (by rw [v 37 (by decide), e37]; exact z)
        rw [v 33 (by decide), v 34 (by decide), v 35 (by decide), v 36 (by decide), v 32 (by decide)] at p2
        obtain ⟨r2, er2, p2', keep⟩ := gm_R_sendPublish r1 vv x2 p2
        subst er2
        have w2 : Ro (70 :: oS) r1 r2 := tw_ro p3 keep
        have I2 := I0.ro keep
        have G2 : GF x h h2 r r2 := by
          have g5 : Fm x gF (gA x h1) h1 h2 := p5.1
          refine ⟨G1.1.tr (g5.sub (fun _ z => z) (fun a za => ?_)), G1.2.1.tr (w2.sub (by decide)), p6.trans G1.2.2⟩
          unfold gA at za ⊢
          rw [G1.2.2] at za
          exact za
        rw [Sim_l (e_bd p1), Sim_r (e_bd p2')]
        rcases p7 with ⟨g1, g2, g3, g4⟩ | ⟨g1, h3, g2, g3, g4, g5⟩
        · rw [g1]
          exact kept h2 r2 g2 I2 (by rw [keep 37 (by omega) (by omega)]) G2 (p4.trans cs) g3 g4
        · rw [g1]
          have hnT2 : (tw A r2).2.1 31 s = nn n' := by rw [tw_i (by omega)]; exact a1
          have hb3 : har h3 (x + 34) s = some b := by rw [g4]; exact hb1
          have R3 := g2.lea hs hb3 hnT2 d1 hk (rmA.le (r := r2) (A := A) (k := l2) hs d1)
          rw [← g3] at R3
          have hb2 : har h2 (x + 34) s = some b := by rw [G2.2.2]; exact hb
          have S2 := R3.ses hs hb2
          obtain ⟨_, _, _, _, _, ⟨t5, t6, t7⟩, _⟩ := S2.1
          have e6 : hfi h2 1006 b = nn (n' - 1) := by
            rw [g3]
            unfold leaH
            rw [hfi_sfi, if_pos ⟨rfl, rfl⟩]
          have e2 : har h2 (b + 2) = disF (har h1 (b + 2)) l2 (n' - 1) := by
            rw [g3]
            unfold leaH
            rw [har_sfi, har_sar, if_pos rfl, g5]
          have cj : C_X11_sendAgain_J60 x (fun l1 l2 l3 l4 => C_X11_sendAgain_L5 x (C_X11_sendAgain_J88 x) f' l1 l2 l3 l4) (C_X11_sendAgain_J88 x) (some b) (some (cA x i)) (nn l2) (nn l4) (some d) h2 = C_X11_sendAgain_L5 x (C_X11_sendAgain_J88 x) f' (some b) (some (cA x i)) (nn l2) (nn (l4 + 1)) h2 := by
            unfold C_X11_sendAgain_J60
            rw [e_gI (c := 10) S2.1.1, show hfi h2 (100 * 10 + 6) b = nn (n' - 1) from e6, show nn l4 + 1 = nn (l4 + 1) from nn_add]
            by_cases y : n' - 1 ≤ l2
            · rw [if_pos (by rw [nn_le (by omega) (by omega)]; exact y)]
            · rw [if_neg (by rw [nn_le (by omega) (by omega)]; exact y), e_gR (c := 10) S2.1.1, show hfr h2 (100 * 10 + 5) b = some (b + 2) from t5, e_Ar (t := 7) t6 (nn_inr (by rw [t7]; omega) (by omega)), nn_N (by omega), e2]
              have ne : disF (har h1 (b + 2)) l2 (n' - 1) l2 ≠ some d := fun w => by
                unfold disF at w
                rw [if_pos (by omega)] at w
                have U1 := R1.2.2.2.2.2.1
                have aq : ∀ t, t < n' → act (tw A r1) s t := fun t ht => by
                  unfold act
                  rw [if_pos (by omega), hnT, iN_nn (by omega)]
                  exact ht
                have dq : ∀ t, t < n' → har h1 (b + 2) t = some d → dl h1 b t = some d := fun t ht z => by
                  unfold dl
                  rw [if_pos (by omega)]
                  exact z
                have := (U1 s s b b (l2 + 1) l2 d hs hs hb1 hb1 (by omega) (by omega) (aq _ (by omega)) (aq _ hk) (dq _ (by omega) w) (dq _ hk dd)).2
                omega
              rw [if_neg ne]
          have mj : R_again_J117 (fun l1 l2 l3 l4 => R_again_L12 (fun l1 l2 => R_again_J143 l1 l2) g' l1 l2 l3 l4) (fun l1 l2 => R_again_J143 l1 l2) (nn s) (nn l2) (nn n0) (nn l4) (nn (16 * s + l4)) (0 : Int32) r2 = R_again_L12 (fun l1 l2 => R_again_J143 l1 l2) g' (nn s) (nn l2) (nn n0) (nn (l4 + 1)) r2 := by
            unfold R_again_J117
            rw [if_pos rfl, show nn l4 + 1 = nn (l4 + 1) from nn_add]
          rw [Sim_l cj, Sim_r mj]
          have I3 := I2.rm (by omega) (by omega) q1
          rw [← hn] at I3
          exact ih l2 (l4 + 1) f' g' _ h2 r2 (by omega) (by omega) (by omega) (by omega) R3 I3 G2 (p4.trans cs)
      · rw [if_neg z, if_neg z]
        obtain ⟨_, h2, _, x2, p1, p2, p3, p4, p5⟩ := sim_rel (num := num) R1 hi ho' (by omega)
        obtain ⟨r2, er2, p2', keep⟩ := gm_R_short4 r1 _ x2 p2
        subst er2
        have w2 : Ro oS r1 r2 := tw_ro p5 keep
        have gf := p4.gf w2
        have G2 : GF x h h2 r r2 := by
          refine ⟨G1.1.tr (gf.1.sub (fun _ z => z) (fun a za => ?_)), G1.2.1.tr (w2.sub (by decide)), gf.2.2.trans G1.2.2⟩
          unfold gA at za ⊢
          rw [G1.2.2] at za
          exact za
        rw [Sim_l (e_bd p1), Sim_r (e_bd p2')]
        exact kept h2 r2 p3 (I0.ro keep) (by rw [keep 37 (by omega) (by omega)]) G2 (by rw [p4.1.2.2.2.2.2.2.2]; exact cs) (by rw [p4.1.2.2.2.2.2.2.1]) (p4.fm.gi (by decide) (by omega))
  have st : tw r.2.1 r = r := by
    refine Prod.ext rfl (Prod.ext ?_ rfl)
    funext k
    show (if 31 ≤ k ∧ k ≤ 37 then r.2.1 k else r.2.1 k) = r.2.1 k
    split <;> rfl
  refine key n0 0 0 fu fu r.2.1 h r (by omega) (by omega) (by unfold fu; omega) (by unfold fu; omega) (by rw [st]; exact R) ⟨by rw [Nat.sub_zero, Nat.zero_add]; exact q3, q3, fun _ _ => rfl, fun f hf => ⟨fun _ _ => rfl, fun q hq => rfl, fun _ _ => rfl⟩⟩ ⟨Fm.rf, Ro.rf, rfl⟩ rfl
end AG2
