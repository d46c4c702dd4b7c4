/-! ===== which packet it is ===== -/
section DSP
variable {x i p s b t fl f : Nat} {e0 : Int32} {h h0 : Hp} {r r0 : RS} {bs : List Nat}
theorem bd_rv {σ α : Type} {M : σ → Option (α × σ)} {s : σ} : bd M (fun v => rt v) s = M s := by
  unfold bd
  cases e : M s with
  | none => rfl
  | some z => rfl
theorem LvP.of {α : Type} {len : Nat} {P : Hp → Option (Int32 × Hp)} {M : RS → Option (Unit × RS)} (z : Sim P h M r (fun w h' _ r' => HP x i e0 len h0 r0 w h' r')) : LvP x i e0 len h0 r0 (P h) (M r) := by
  obtain ⟨w, h1, _, r1, e1, e2, H⟩ := z
  exact ⟨w, h1, r1, e1, Or.inr ⟨e2, H⟩⟩
theorem HP.sw {len : Nat} {h' : Hp} {r' : RS} (R : Rel x i 12 96 e0 h r) (z : Sw x 0 0 h h' r r') (hi : i < 8) (h79 : r'.1 79 = nn f) (hf : f < 256 ∧ (f = 0 ∨ 129 ≤ f)) : HP x i e0 len h r (nn f) h' r' := by
  refine ⟨z.rel R, z.kp R.st hi, ⟨f, h79, rfl, hf⟩, ?_, ?_⟩
  · have := z.2.2.1
    have := z.wn
    omega
  · have := z.2.2.2
    have := z.wn
    omega
theorem Sw.s79 {v : Int32} : Sw x 0 0 h h r (sI r 79 v) := ⟨Fm.rf, Ro.rf.i (by decide), Nat.le_refl _, Nat.le_refl _⟩
theorem LvP.bad {len : Nat} (R : Rel x i 12 96 e0 h r) (hi : i < 8) {P : Option (Int32 × Hp)} {M : Option (Unit × RS)} (hP : ∃ h', P = some (nn 129, h') ∧ Sw x 0 0 h h' r (sI r 79 (nn 129))) (hM : M = some ((), sI r 79 (nn 129))) : LvP x i e0 len h r P M := by
  obtain ⟨h', e1, z⟩ := hP
  exact ⟨nn 129, h', _, e1, Or.inr ⟨hM, HP.sw R z hi (by rw [sI_1, if_pos rfl]) ⟨by omega, Or.inr (by omega)⟩⟩⟩
theorem LvP.non {len : Nat} (R : Rel x i 12 96 e0 h r) (hi : i < 8) {P : Option (Int32 × Hp)} {M : Option (Unit × RS)} (hP : P = some (nn 130, h)) (hM : M = some ((), sI r 79 (nn 130))) : LvP x i e0 len h r P M := ⟨nn 130, h, _, hP, Or.inr ⟨hM, HP.sw R Sw.s79 hi (by rw [sI_1, if_pos rfl]) ⟨by omega, Or.inr (by omega)⟩⟩⟩
theorem m133_n (h79 : r.1 79 = 0) {a b s0 : Int32} : R_take__J133 a b 1 s0 r = some ((), sI r 79 (nn 130)) := by
  unfold R_take__J133 lq
  dsimp only
  rw [if_neg (by decide), e_bd (qm_fails h79)]
  rfl
theorem m103 (h79 : r.1 79 = 0) {a b : Int32} : R_take__J103 a b r = some ((), sI r 79 (nn 130)) := by
  unfold R_take__J103 R_take__J108 R_take__J128
  by_cases g1 : a = 6
  · rw [if_pos g1, m133_n h79]
  · rw [if_neg g1]
    by_cases g2 : a = 8
    · rw [if_pos g2, m133_n h79]
    · rw [if_neg g2]
      by_cases g3 : a = 10
      · rw [if_pos g3, m133_n h79]
      · rw [if_neg g3, m133_n h79]
theorem m189 (h79 : r.1 79 = 0) : R_take__J189 r = some ((), sI r 79 (nn 129)) := by
  unfold R_take__J189
  rw [e_bd (qm_fails h79)]
  rfl
theorem m133_bad (h79 : r.1 79 = 0) {a b s0 : Int32} (ha : a ≠ 3) (hb : b ≠ s0) : R_take__J133 a b 0 s0 r = some ((), sI r 79 (nn 129)) := by
  unfold R_take__J133 lq
  dsimp only
  rw [if_pos rfl, if_neg ha, if_neg hb, m189 h79]
theorem m133_ok {a s0 : Int32} (ha : a ≠ 3) : R_take__J133 a s0 0 s0 r = R_take__J199 a s0 ((s0 >>> ((1 : Int32) &&& 31)) &&& (3 : Int32)) r := by
  unfold R_take__J133 lq
  dsimp only
  rw [if_pos rfl, if_neg ha, if_pos rfl]
theorem flg_or : ∀ k, k < 16 → ((nn k >>> ((1 : Int32) &&& 31)) &&& (3 : Int32)) = nn (k / 2 % 4) ∧ (nn k &&& (1 : Int32)) = nn (k % 2) ∧ ((nn k &&& (8 : Int32)) = 0 ↔ k < 8) := by decide +kernel
/-- a packet on a connection that has a session -/
theorem sim_dsp (R : Rel x i 12 96 e0 h r) (D : Rd x i bs p bs.length 0 h r) (hs : s < 12) (h7 : r.2.1 7 i = nn s) (hb : har h (x + 34) s = some b) (ho : r.2.1 1 i = 1) (hl : bs.length ≤ p + 400) (hp2 : 2 ≤ p) (ht : t < 16) (hfg : fl < 16) : LvP x i e0 bs.length h r (C_X11_obey_J85 x (some (cA x i)) (nn t) (nn fl) h) (R_take__J53 (nn t) (nn fl) r) := by
  have T := R.st
  have hi := D.2.2.1.1
  obtain ⟨c1, _⟩ := T.pk hi
  obtain ⟨b', q1, q2, _, _⟩ := R.at hi hs h7
  have ebb : b' = b := by
    rw [hb] at q1
    cases q1
    rfl
  subst ebb
  have e202 : hfr h (100 * 2 + 2) (cA x i) = some b' := q2
  have kx := T.2.1.1
  have x79 : r.1 79 = 0 := D.2.1.2.2.1
  have e75 : r.1 75 = nn i := D.2.1.1
  have kb : hkd h b' = 10 + 1 := (R.ses hs hb).1.1
  have hsn : ¬ nn s < 0 := by
    rw [show (0 : Int32) = nn 0 from rfl, nn_lt (by omega) (by omega)]
    omega
  have kC : ∀ (a : Int32), C_X11_obey_J85 x (some (cA x i)) a (nn fl) h = _ := fun a => by
    unfold C_X11_obey_J85
    rw [e_gR c1, e202, if_neg (by simp)]
  rw [kC]
  unfold R_take__J53
  have tt : t = 0 ∨ t = 1 ∨ t = 2 ∨ t = 3 ∨ t = 4 ∨ t = 5 ∨ t = 6 ∨ t = 7 ∨ t = 8 ∨ t = 9 ∨ t = 10 ∨ t = 11 ∨ t = 12 ∨ t = 13 ∨ t = 14 ∨ t = 15 := by omega
  have en2 : ∀ k, k < 16 → nn fl = nn k → fl = k := fun k hk z => nn_inj (by omega) (by omega) z
  rcases tt with rfl | rfl | rfl | rfl | rfl | rfl | rfl | rfl | rfl | rfl | rfl | rfl | rfl | rfl | rfl | rfl
  · refine LvP.non R hi ?_ ?_
    · rw [if_neg (by decide), if_neg (by decide), if_neg (by decide), if_neg (by decide), if_neg (by decide), if_neg (by decide), if_neg (by decide), if_neg (by decide), if_neg (by decide), if_neg (by decide), if_neg (by decide), if_neg (by decide)]
      rfl
    · rw [if_pos (by decide), m103 x79]
  · refine LvP.non R hi ?_ ?_
    · rw [if_neg (by decide), if_neg (by decide), if_neg (by decide), if_neg (by decide), if_neg (by decide), if_neg (by decide), if_neg (by decide), if_neg (by decide), if_neg (by decide), if_neg (by decide), if_neg (by decide), if_neg (by decide)]
      rfl
    · rw [if_neg (by decide), if_neg (by decide), if_neg (by decide), if_neg (by decide), if_neg (by decide), if_neg (by decide), if_pos (by decide), x_rI, e75, x_rA mL_7 hi (by omega), h7, if_neg hsn, m103 x79]
  · refine LvP.non R hi ?_ ?_
    · rw [if_neg (by decide), if_neg (by decide), if_neg (by decide), if_neg (by decide), if_neg (by decide), if_neg (by decide), if_neg (by decide), if_neg (by decide), if_neg (by decide), if_neg (by decide), if_neg (by decide), if_neg (by decide)]
      rfl
    · rw [if_neg (by decide), if_pos (by decide), m103 x79]
  · have eM : R_take__J107 (nn 3) (nn fl) r = R_take__J133 (nn 3) (nn fl) 0 0 r := by
      unfold R_take__J107 R_take__J108 R_take__J128
      rw [if_neg (by decide), if_neg (by decide), if_neg (by decide)]
    rw [if_pos (by decide)]
    rw [e_Cv kx, bd_rv, if_neg (by decide), if_neg (by decide), if_neg (by decide), if_neg (by decide), if_neg (by decide), if_neg (by decide), if_neg (by decide), eM]
    unfold R_take__J133 lq
    dsimp only
    obtain ⟨f1, f2, f3⟩ := flg_or fl hfg
    rw [if_pos rfl, if_pos (by decide), f1]
    have go : fl / 2 % 4 ≠ 3 → ¬ (8 ≤ fl ∧ fl / 2 % 4 = 0) → LvP x i e0 bs.length h r (C_X11_publish x (some (cA x i)) (some b') (nn fl) h) (R_take__J199 (nn 3) (nn fl) (nn (fl / 2 % 4)) r) := fun g1 g2 => by
      unfold R_take__J199
      rw [if_neg (by decide), if_pos (by decide), bd_rt, f2]
      exact LvP.of (α := Unit) (sim_publish R D hs h7 hb ho hfg g1 g2 hl hp2)
    by_cases g1 : fl / 2 % 4 = 3
    · rw [if_pos (by rw [g1]; decide), m189 x79]
      exact LvP.bad R hi (pub_bad D T hfg (Or.inl g1)) rfl
    · rw [if_neg (fun z : nn (fl / 2 % 4) = (3 : Int32) => g1 (nn_inj (b := 3) (by omega) (by omega) z))]
      by_cases g2 : fl / 2 % 4 = 0
      · rw [if_pos (show nn (fl / 2 % 4) = 0 by rw [g2]; rfl)]
        by_cases g3 : fl < 8
        · rw [if_pos (f3.mpr g3)]
          exact go g1 (fun z => by omega)
        · rw [if_neg (fun z => g3 (f3.mp z)), m189 x79]
          exact LvP.bad R hi (pub_bad D T hfg (Or.inr ⟨by omega, g2⟩)) rfl
      · rw [if_neg (nn_ne0 (by omega) g2)]
        exact go g1 (fun z => g2 z.2)
  · have eM : R_take__J107 (nn 4) (nn fl) r = R_take__J133 (nn 4) (nn fl) 0 0 r := by
      unfold R_take__J107 R_take__J108 R_take__J128
      rw [if_neg (by decide), if_neg (by decide), if_neg (by decide)]
    rw [if_neg (by decide), if_pos (by decide)]
    unfold C_X11_obey_J173
    rw [e_Cv kx, bd_rv, if_neg (by decide), if_neg (by decide), if_neg (by decide), if_neg (by decide), if_neg (by decide), if_neg (by decide), if_neg (by decide), eM]
    by_cases g : fl = 0
    · have ef : nn fl = (0 : Int32) := by rw [g]; rfl
      rw [ef, m133_ok (by decide)]
      unfold R_take__J199
      rw [if_neg (by decide), if_neg (by decide), if_neg (by decide), bd_rt]
      exact LvP.of (α := Unit) (sim_answered (t := 4) R D hs h7 hb ho (by omega) hl)
    · have gn : nn fl ≠ (0 : Int32) := fun z => g (en2 0 (by omega) z)
      exact LvP.bad R hi (ans_bad (t := 4) D T (by omega) (by rw [if_neg (by decide)]; exact gn)) (m133_bad x79 (by decide) gn)
  · have eM : R_take__J107 (nn 5) (nn fl) r = R_take__J133 (nn 5) (nn fl) 0 0 r := by
      unfold R_take__J107 R_take__J108 R_take__J128
      rw [if_neg (by decide), if_neg (by decide), if_neg (by decide)]
    rw [if_neg (by decide), if_neg (by decide), if_pos (by decide)]
    unfold C_X11_obey_J173
    rw [e_Cv kx, bd_rv, if_neg (by decide), if_neg (by decide), if_neg (by decide), if_neg (by decide), if_neg (by decide), if_neg (by decide), if_neg (by decide), eM]
    by_cases g : fl = 0
    · have ef : nn fl = (0 : Int32) := by rw [g]; rfl
      rw [ef, m133_ok (by decide)]
      unfold R_take__J199
      rw [if_neg (by decide), if_neg (by decide), if_neg (by decide), bd_rt]
      exact LvP.of (α := Unit) (sim_answered (t := 5) R D hs h7 hb ho (by omega) hl)
    · have gn : nn fl ≠ (0 : Int32) := fun z => g (en2 0 (by omega) z)
      exact LvP.bad R hi (ans_bad (t := 5) D T (by omega) (by rw [if_neg (by decide)]; exact gn)) (m133_bad x79 (by decide) gn)
  · have eM : R_take__J107 (nn 6) (nn fl) r = R_take__J133 (nn 6) (nn fl) 0 2 r := by
      unfold R_take__J107 R_take__J108 R_take__J128
      rw [if_pos (by decide)]
    rw [if_neg (by decide), if_neg (by decide), if_neg (by decide), if_pos (by decide)]
    unfold C_X11_obey_J173
    rw [e_Cv kx, bd_rv, if_neg (by decide), if_neg (by decide), if_neg (by decide), if_neg (by decide), if_neg (by decide), if_neg (by decide), if_neg (by decide), eM]
    by_cases g : fl = 2
    · have ef : nn fl = (2 : Int32) := by rw [g]; rfl
      rw [ef, m133_ok (by decide)]
      unfold R_take__J199
      rw [if_neg (by decide), if_neg (by decide), if_neg (by decide), bd_rt]
      exact LvP.of (α := Unit) (sim_answered (t := 6) R D hs h7 hb ho (by omega) hl)
    · have gn : nn fl ≠ (2 : Int32) := fun z => g (en2 2 (by omega) z)
      exact LvP.bad R hi (ans_bad (t := 6) D T (by omega) (by rw [if_pos rfl]; exact gn)) (m133_bad x79 (by decide) gn)
  · have eM : R_take__J107 (nn 7) (nn fl) r = R_take__J133 (nn 7) (nn fl) 0 0 r := by
      unfold R_take__J107 R_take__J108 R_take__J128
      rw [if_neg (by decide), if_neg (by decide), if_neg (by decide)]
    rw [if_neg (by decide), if_neg (by decide), if_neg (by decide), if_neg (by decide), if_pos (by decide)]
    unfold C_X11_obey_J173
    rw [e_Cv kx, bd_rv, if_neg (by decide), if_neg (by decide), if_neg (by decide), if_neg (by decide), if_neg (by decide), if_neg (by decide), if_neg (by decide), eM]
    by_cases g : fl = 0
    · have ef : nn fl = (0 : Int32) := by rw [g]; rfl
      rw [ef, m133_ok (by decide)]
      unfold R_take__J199
      rw [if_neg (by decide), if_neg (by decide), if_neg (by decide), bd_rt]
      exact LvP.of (α := Unit) (sim_answered (t := 7) R D hs h7 hb ho (by omega) hl)
    · have gn : nn fl ≠ (0 : Int32) := fun z => g (en2 0 (by omega) z)
      exact LvP.bad R hi (ans_bad (t := 7) D T (by omega) (by rw [if_neg (by decide)]; exact gn)) (m133_bad x79 (by decide) gn)
  · have eM : R_take__J107 (nn 8) (nn fl) r = R_take__J133 (nn 8) (nn fl) 0 2 r := by
      unfold R_take__J107 R_take__J108 R_take__J128
      rw [if_neg (by decide), if_pos (by decide)]
    rw [if_neg (by decide), if_neg (by decide), if_neg (by decide), if_neg (by decide), if_neg (by decide), if_pos (by decide)]
    rw [e_Cv kx, bd_rv, if_neg (by decide), if_neg (by decide), if_neg (by decide), if_neg (by decide), if_neg (by decide), if_neg (by decide), if_neg (by decide), eM]
    by_cases g : fl = 2
    · have ef : nn fl = (2 : Int32) := by rw [g]; rfl
      rw [ef, m133_ok (by decide)]
      unfold R_take__J199
      rw [if_neg (by decide), if_neg (by decide), if_pos (by decide), if_pos (by decide), bd_rt]
      exact LvP.of (α := Unit) (sim_subscribe R D hs h7 hb ho hl hp2)
    · have gn : nn fl ≠ (2 : Int32) := fun z => g (en2 2 (by omega) z)
      exact LvP.bad R hi (sub_bad D T gn) (m133_bad x79 (by decide) gn)
  · refine LvP.non R hi ?_ ?_
    · rw [if_neg (by decide), if_neg (by decide), if_neg (by decide), if_neg (by decide), if_neg (by decide), if_neg (by decide), if_pos (by decide)]
      rfl
    · rw [if_neg (by decide), if_neg (by decide), if_pos (by decide), m103 x79]
  · have eM : R_take__J107 (nn 10) (nn fl) r = R_take__J133 (nn 10) (nn fl) 0 2 r := by
      unfold R_take__J107 R_take__J108 R_take__J128
      rw [if_neg (by decide), if_neg (by decide), if_pos (by decide)]
    rw [if_neg (by decide), if_neg (by decide), if_neg (by decide), if_neg (by decide), if_neg (by decide), if_neg (by decide), if_neg (by decide), if_pos (by decide)]
    rw [e_Cv kx, bd_rv, if_neg (by decide), if_neg (by decide), if_neg (by decide), if_neg (by decide), if_neg (by decide), if_neg (by decide), if_neg (by decide), eM]
    by_cases g : fl = 2
    · have ef : nn fl = (2 : Int32) := by rw [g]; rfl
      rw [ef, m133_ok (by decide)]
      unfold R_take__J199
      rw [if_neg (by decide), if_neg (by decide), if_pos (by decide), if_neg (by decide), if_pos (by decide), bd_rt]
      exact LvP.of (α := Unit) (sim_unsubscribe R D hs h7 hb ho hl hp2)
    · have gn : nn fl ≠ (2 : Int32) := fun z => g (en2 2 (by omega) z)
      exact LvP.bad R hi (uns_bad D T gn) (m133_bad x79 (by decide) gn)
  · refine LvP.non R hi ?_ ?_
    · rw [if_neg (by decide), if_neg (by decide), if_neg (by decide), if_neg (by decide), if_neg (by decide), if_neg (by decide), if_neg (by decide), if_neg (by decide), if_pos (by decide)]
      rfl
    · rw [if_neg (by decide), if_neg (by decide), if_neg (by decide), if_pos (by decide), m103 x79]
  · have eM : R_take__J107 (nn 12) (nn fl) r = R_take__J133 (nn 12) (nn fl) 0 0 r := by
      unfold R_take__J107 R_take__J108 R_take__J128
      rw [if_neg (by decide), if_neg (by decide), if_neg (by decide)]
    rw [if_neg (by decide), if_neg (by decide), if_neg (by decide), if_neg (by decide), if_neg (by decide), if_neg (by decide), if_neg (by decide), if_neg (by decide), if_neg (by decide), if_pos (by decide)]
    rw [e_Cv kx, bd_rv, if_neg (by decide), if_neg (by decide), if_neg (by decide), if_neg (by decide), if_neg (by decide), if_neg (by decide), if_neg (by decide), eM]
    by_cases g : fl = 0
    · have ef : nn fl = (0 : Int32) := by rw [g]; rfl
      rw [ef, m133_ok (by decide)]
      unfold R_take__J199
      rw [if_neg (by decide), if_neg (by decide), if_pos (by decide), if_neg (by decide), if_neg (by decide), if_pos (by decide), bd_rt]
      exact LvP.of (α := Unit) (sim_pingP R D ho)
    · have gn : nn fl ≠ (0 : Int32) := fun z => g (en2 0 (by omega) z)
      exact LvP.bad R hi (ping_bad D T gn) (m133_bad x79 (by decide) gn)
  · refine LvP.non R hi ?_ ?_
    · rw [if_neg (by decide), if_neg (by decide), if_neg (by decide), if_neg (by decide), if_neg (by decide), if_neg (by decide), if_neg (by decide), if_neg (by decide), if_neg (by decide), if_neg (by decide), if_pos (by decide)]
      rfl
    · rw [if_neg (by decide), if_neg (by decide), if_neg (by decide), if_neg (by decide), if_pos (by decide), m103 x79]
  · have eM : R_take__J107 (nn 14) (nn fl) r = R_take__J133 (nn 14) (nn fl) 0 0 r := by
      unfold R_take__J107 R_take__J108 R_take__J128
      rw [if_neg (by decide), if_neg (by decide), if_neg (by decide)]
    rw [if_neg (by decide), if_neg (by decide), if_neg (by decide), if_neg (by decide), if_neg (by decide), if_neg (by decide), if_neg (by decide), if_neg (by decide), if_neg (by decide), if_neg (by decide), if_neg (by decide), if_pos (by decide)]
    rw [e_Cv kx, bd_rv, if_neg (by decide), if_neg (by decide), if_neg (by decide), if_neg (by decide), if_neg (by decide), if_neg (by decide), if_neg (by decide), eM]
    by_cases g : fl = 0
    · have ef : nn fl = (0 : Int32) := by rw [g]; rfl
      rw [ef, m133_ok (by decide)]
      unfold R_take__J199
      rw [if_neg (by decide), if_neg (by decide), if_pos (by decide), if_neg (by decide), if_neg (by decide), if_neg (by decide), bd_rt]
      exact sim_disc R D hs h7 hb hl (by omega)
    · have gn : nn fl ≠ (0 : Int32) := fun z => g (en2 0 (by omega) z)
      exact LvP.bad R hi (lev_bad D T kb gn) (m133_bad x79 (by decide) gn)
  · refine LvP.non R hi ?_ ?_
    · rw [if_neg (by decide), if_neg (by decide), if_neg (by decide), if_neg (by decide), if_neg (by decide), if_neg (by decide), if_neg (by decide), if_neg (by decide), if_neg (by decide), if_neg (by decide), if_neg (by decide), if_neg (by decide)]
      rfl
    · rw [if_neg (by decide), if_neg (by decide), if_neg (by decide), if_neg (by decide), if_neg (by decide), if_pos (by decide), m103 x79]
end DSP
