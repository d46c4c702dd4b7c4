/-! ===== time passes, side by side ===== -/
section PAS
variable {x ec t T0 d : Nat} {e0 : Int32} {h : Hp} {r : RS}
/-- connections: lost, or with what had come -/
def C5 (r r' : RS) : Prop := ∀ i, i < 8 → r'.2.1 1 i = 0 ∨ (r'.2.1 1 i = r.2.1 1 i ∧ r'.2.1 5 i = r.2.1 5 i)
theorem C5.rf {r : RS} : C5 r r := fun _ _ => Or.inr ⟨rfl, rfl⟩
theorem C5.tr {r r1 r2 : RS} (p : C5 r r1) (q : C5 r1 r2) : C5 r r2 := fun i hi => by
  rcases q i hi with z | ⟨z1, z2⟩
  · exact Or.inl z
  · rcases p i hi with y | ⟨y1, y2⟩
    · exact Or.inl (z1.trans y)
    · exact Or.inr ⟨z1.trans y1, z2.trans y2⟩
theorem GL.c5 {x : Nat} {h h' : Hp} {r r' : RS} (G : GL x h h' r r') : C5 r r' := fun i hi => by
  rcases G.2.2.2.2 i hi with z | z
  · exact Or.inl z
  · exact Or.inr ⟨z.1, z.2.1⟩
/-- one turn of the class, as many seconds of the model -/
theorem sim_turn {N : Nat} (R : Rel x ec 12 96 e0 h r) (hr : r.1 66 = nn t) (htt : t < N) (hN : N ≤ 1073741823) : Sim (C_X11_tick x) (sfi h 1309 x (nn N)) (R_second) (sI r 66 (nn (N - 1))) (fun _ h' _ r' => hkd h' x = 13 + 1 ∧ wp (C_X11_settle x) h' (fun _ h2 => Rel x ec 12 96 e0 h2 r' ∧ r'.1 66 = nn N ∧ (∀ i, i < 8 → r'.2.1 2 i = 0) ∧ Pd h h2 r r' ∧ Ro (66 :: lS) r r' ∧ C5 r r')) := by
  have T := R.st
  have er : hfr (sfi h 1309 x (nn N)) (100 * 13 + 2) x = some (x + 35) := by
    rw [hfr_sfi]
    exact T.2.1.2.2.2.1
  have e9 : hfi (sfi h 1309 x (nn N)) (100 * 13 + 9) x = nn N := by rw [hfi_sfi, if_pos ⟨rfl, rfl⟩]
  have t1 := T.sto'.1
  obtain ⟨v, h1, e1, R1, p1, c1, c2⟩ := sim_clock R hr (Nat.le_of_lt htt) hN
  unfold C_X11_tick R_second
  rw [sl_gR (by exact T.2.1.1), er, sl_gI (by exact T.2.1.1), e9, sl_Cv (by exact t1), Sim_l (e_bd e1), sr_rI, sr_wI, sI_sI, sI_1, if_pos rfl, l_1, nn_add, show N - 1 + 1 = N by omega]
  refine Sim.mono (sim_tk1 (h := h1) (r := sI r 66 (nn N)) 8 0 fu fu h1 (sI r 66 (nn N)) (by omega) (by unfold fu; omega) (by unfold fu; omega) R1 GL.rf Pd.rf) (fun _ h2 _ r2 z => ?_)
  refine ⟨z.1, wp.mono z.2 (fun _ h3 z => ?_)⟩
  refine ⟨z.1, ?_, z.2.2.1, ?_, ?_, fun i hi => z.2.1.c5 i hi⟩
  · rw [z.2.1.2.1.gI (by decide), sI_1, if_pos rfl]
  · have hp : Pd h h1 r (sI r 66 (nn N)) := Pd.mk c1 (Nat.le_of_eq rfl)
    exact hp.tr z.2.2.2
  · exact (Ro.rf.i (by decide)).tr (z.2.1.2.1.sub (fun k hk => List.mem_cons_of_mem _ hk))
theorem sim_passL {l4 : Int32} : ∀ (c t k1 k2 f g : Nat) (h1 : Hp) (r1 : RS), t + c = T0 → k2 + c = d → k1 ≤ k2 → c < f → c < g → d ≤ 4000 → T0 ≤ 1073741823 → Rel x ec 12 96 e0 h1 r1 → r1.1 66 = nn t → (∀ i, i < 8 → r1.2.1 2 i = 0) → Pd h h1 r r1 → Ro (66 :: lS) r r1 → C5 r r1 →
    Sim (C_X11_pass_L33 x (C_X11_pass_J74 x) f (nn d) (nn T0) (nn k1)) h1 (R_pass_L32 (fun l2 => R_pass_J47 l2) g (nn d) l4 (nn k2)) r1 (fun v h' w r' => Rel x ec 12 96 e0 h' r' ∧ v = .inr (r'.1 74 - e0) ∧ w = r'.1 74 - l4 ∧ r'.1 66 = nn T0 ∧ (∀ i, i < 8 → r'.2.1 2 i = 0) ∧ Pd h h' r r' ∧ Ro (66 :: lS) r r' ∧ C5 r r') := by
  intro c
  induction c using Nat.strongRecOn with
  | ind c ih =>
    intro t k1 k2 f g h1 r1 ht hk hkk hf hg hd hT R1 h66 hn P1 w1 v1
    obtain ⟨f', rfl⟩ : ∃ z, f = z + 1 := ⟨f - 1, by omega⟩
    have T := R1.st
    have g9 : hfi h1 (100 * 13 + 9) x = nn t := R1.2.1.2.1.trans h66
    have kx : hkd h1 x = 13 + 1 := T.2.1.1
    by_cases c0 : c = 0
    · obtain ⟨g', rfl⟩ : ∃ z, g = z + 1 := ⟨g - 1, by omega⟩
      have e1 : Sim (C_X11_pass_J74 x) h1 (R_pass_J47 l4) r1 (fun v h' w r' => Rel x ec 12 96 e0 h' r' ∧ v = .inr (r'.1 74 - e0) ∧ w = r'.1 74 - l4 ∧ r'.1 66 = nn T0 ∧ (∀ i, i < 8 → r'.2.1 2 i = 0) ∧ Pd h h' r r' ∧ Ro (66 :: lS) r r' ∧ C5 r r') := by
        unfold C_X11_pass_J74 R_pass_J47
        rw [sl_gI kx, sr_rI]
        refine Sim.ret ⟨R1, ?_, rfl, by rw [h66]; congr 1; omega, hn, P1, w1, v1⟩
        have e74 : r1.1 74 = hfi h1 1313 x + e0 := R1.2.1.2.2.2.2.2.2.2
        rw [e74, Int32.add_sub_cancel]
      show Sim (C_X11_pass_B33 x _ _ (nn d) (nn T0) (nn k1)) h1 (R_pass_B32 _ _ (nn d) l4 (nn k2)) r1 _
      unfold C_X11_pass_B33 R_pass_B32
      rw [sr_pos (by rw [nn_le (by omega) (by omega)]; omega)]
      by_cases gd : d ≤ k1
      · rw [sl_pos (by rw [nn_le (by omega) (by omega)]; exact gd)]
        exact e1
      · rw [sl_neg (by rw [nn_le (by omega) (by omega)]; exact gd), sl_gI kx, g9, sl_pos (by rw [nn_le (by omega) (by omega)]; omega)]
        exact e1
    · obtain ⟨N, n1, n2, n3, n4⟩ := qc_next R1 h66 (by omega)
      unfold bigT at n3
      show Sim (C_X11_pass_B33 x _ _ (nn d) (nn T0) (nn k1)) h1 _ r1 _
      unfold C_X11_pass_B33
      rw [sl_neg (by rw [nn_le (by omega) (by omega)]; omega), sl_gI kx, g9, sl_neg (by rw [nn_le (by omega) (by omega)]; omega), sl_Cv kx, Sim_l (e_bd n1), n6_nn (by omega), lmin_n6 (by omega) (by omega)]
      obtain ⟨N', hN'⟩ : ∃ z, z = min T0 N := ⟨_, rfl⟩
      rw [← hN', show (n6 N').toInt32 = nn N' from n6_32 (by omega), sl_pI kx]
      -- the quiet seconds of the model
      have qs : ∀ (q τ : Nat), τ + q + 1 = N' → t ≤ τ → ∀ {α : Type} (P : Hp → Option (α × Hp)) (h0 : Hp) (g2 : Nat) (Φ : α → Hp → Int32 → RS → Prop), Sim P h0 (R_pass_L32 (fun l2 => R_pass_J47 l2) g2 (nn d) l4 (nn (k2 + (N' - 1 - t)))) (sI r1 66 (nn (N' - 1))) Φ → Sim P h0 (R_pass_L32 (fun l2 => R_pass_J47 l2) (g2 + q) (nn d) l4 (nn (k2 + (τ - t)))) (sI r1 66 (nn τ)) Φ := by
        intro q
        induction q with
        | zero =>
          intro τ h1 h2 α P h0 g2 Φ hS
          have : τ = N' - 1 := by omega
          rw [this]
          exact hS
        | succ q ihq =>
          intro τ h1 h2 α P h0 g2 Φ hS
          show Sim P h0 (R_pass_B32 _ _ (nn d) l4 (nn (k2 + (τ - t)))) _ Φ
          unfold R_pass_B32
          have eq := qm_quiet (τ := τ + 1) R1 (n4 (τ + 1) (by omega) (by omega)) hn (by omega) (by omega)
          rw [show τ + 1 - 1 = τ by omega] at eq
          rw [sr_neg (by rw [nn_le (by omega) (by omega)]; omega), Sim_r (e_bd eq), l_1, nn_add, show k2 + (τ - t) + 1 = k2 + (τ + 1 - t) by omega]
          exact ihq (τ + 1) (by omega) (by omega) P h0 g2 Φ hS
      obtain ⟨g2, hg2⟩ : ∃ z, g = (z + 1) + (N' - 1 - t) := ⟨g - 1 - (N' - 1 - t), by omega⟩
      have er1 : sI r1 66 (nn t) = r1 := by
        refine Prod.ext (funext fun j => ?_) rfl
        rw [sI_1]
        split
        · next e => rw [e, h66]
        · rfl
      have := qs (N' - 1 - t) t (by omega) (Nat.le_refl _) (hCv 13 (some x) (fun a => C_X11_tick a) fun r4 => hCv 13 (some x) (fun a => C_X11_settle a) fun r5 => C_X11_pass_L33 x (C_X11_pass_J74 x) f' (nn d) (nn T0) (nn k1 + 1)) (sfi h1 (100 * 13 + 9) x (nn N')) (g2 + 1) (fun v h' w r' => Rel x ec 12 96 e0 h' r' ∧ v = .inr (r'.1 74 - e0) ∧ w = r'.1 74 - l4 ∧ r'.1 66 = nn T0 ∧ (∀ i, i < 8 → r'.2.1 2 i = 0) ∧ Pd h h' r r' ∧ Ro (66 :: lS) r r' ∧ C5 r r') ?_
      · rw [er1, Nat.sub_self, Nat.add_zero, ← hg2] at this
        exact this
      · show Sim _ _ (R_pass_B32 _ _ (nn d) l4 (nn (k2 + (N' - 1 - t)))) _ _
        unfold R_pass_B32
        rw [sr_neg (by rw [nn_le (by omega) (by omega)]; omega), sl_Cv (by exact kx)]
        refine Sim.seq (sim_turn R1 h66 (N := N') (by omega) (by omega)) (fun _ h2 _ r2 z => ?_)
        obtain ⟨kx2, v3, h3, e3, R3, m66, hn3, P3, w3, u3⟩ := z
        rw [sl_Cv kx2, Sim_l (e_bd e3), l_1, nn_add, nn_add]
        exact ih (T0 - N') (by omega) N' (k1 + 1) (k2 + (N' - 1 - t) + 1) f' g2 h3 r2 (by omega) (by omega) (by omega) (by omega) (by omega) hd hT R3 m66 hn3 (P1.tr P3) (w1.tr w3) (v1.tr u3)
end PAS
