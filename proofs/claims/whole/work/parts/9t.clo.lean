/-! ===== a connection is closed ===== -/
section CLO
variable {x ec ec' es ew s b i : Nat} {e0 : Int32} {h : Hp} {r : RS}
def cloH (h : Hp) (c : Nat) (F : Nat → Option Nat) : Hp := sar (sfi (sfi (sfr (sfi h 201 c 0) 202 c none) 205 c 0) 208 c 0) (c + 3) F
theorem qc_close (T : Stat x h) (hi : i < 8) : wp (C_X0_close (cA x i)) h (fun _ h' => ∃ F, (∀ o, o < 5 → F o = none) ∧ h' = cloH h (cA x i) F) := by
  obtain ⟨t1, t2, t3, t4, t5, t6, t7, t8, t9, t10, t11, t12⟩ := T.2.2.2.2.2.2 i hi
  unfold C_X0_close
  rw [wp_pZ (Or.inl rfl) t2, wp_pR (by exact t2), wp_pZ (Or.inl rfl) (by exact t2), wp_pI (by exact t2)]
  have key : ∀ (c k f : Nat) (F : Nat → Option Nat), k + c = 5 → c < f → (∀ o, o < k → F o = none) → wp (C_X0_close_L22 (cA x i) (C_X0_close_J40 (cA x i)) f (nn k)) (cloH h (cA x i) F) (fun _ h' => ∃ F, (∀ o, o < 5 → F o = none) ∧ h' = cloH h (cA x i) F) := by
    intro c
    induction c with
    | zero =>
      intro k f F hk hf hF
      obtain ⟨f', rfl⟩ : ∃ z, f = z + 1 := ⟨f - 1, by omega⟩
      have ek : k = 5 := by omega
      subst ek
      show wp (C_X0_close_B22 (cA x i) _ _ (nn 5)) _ _
      unfold C_X0_close_B22 C_X0_close_J40
      rw [wp_pos (by decide), wp_rt]
      exact ⟨F, hF, rfl⟩
    | succ c ih =>
      intro k f F hk hf hF
      obtain ⟨f', rfl⟩ : ∃ z, f = z + 1 := ⟨f - 1, by omega⟩
      show wp (C_X0_close_B22 (cA x i) _ _ (nn k)) _ _
      unfold C_X0_close_B22
      have e1 : hfr (cloH h (cA x i) F) (100 * 2 + 11) (cA x i) = some (cA x i + 3) := by
        show hfr (sfr (sfi h 201 (cA x i) 0) 202 (cA x i) none) 211 (cA x i) = _
        rw [hfr_sfr, if_neg (by omega)]
        exact t10
      rw [wp_neg (by rw [show (4 : Int32) = nn 4 from rfl, nn_lt (by omega) (by omega)]; omega), wp_gR (by exact t2), e1, wn_Wr0 (by exact t11) (by show k < hln h (cA x i + 3); rw [t12]; omega) (by omega)]
      show wp (C_X0_close_L22 (cA x i) _ f' (nn k + 1)) _ _
      rw [l_1, nn_add]
      have e2 : sar (cloH h (cA x i) F) (cA x i + 3) (va_up (har (cloH h (cA x i) F) (cA x i + 3)) k none) = cloH h (cA x i) (va_up F k none) := by
        unfold cloH
        rw [har_sar, if_pos rfl, sar_sar]
      rw [e2]
      refine ih (k + 1) f' _ (by omega) (by omega) (fun o ho => ?_)
      show (if o = k then none else F o) = none
      by_cases g : o = k
      · rw [if_pos g]
      · rw [if_neg g]
        exact hF o (by omega)
  have e0' : cloH h (cA x i) (har h (cA x i + 3)) = sfi (sfi (sfr (sfi h 201 (cA x i) 0) 202 (cA x i) none) 205 (cA x i) 0) 208 (cA x i) 0 := by
    unfold cloH
    have : har h (cA x i + 3) = har (sfi (sfi (sfr (sfi h 201 (cA x i) 0) 202 (cA x i) none) 205 (cA x i) 0) 208 (cA x i) 0) (cA x i + 3) := rfl
    rw [this]
    exact sar_self
  have := key 5 0 fu (har h (cA x i + 3)) (by omega) (by unfold fu; omega) (fun o ho => by omega)
  rw [e0'] at this
  exact this
def al4 (r : RS) (i : Nat) : RS := sA (sA (sA (sA r 9 (4 * i + 0) 0) 9 (4 * i + 1) 0) 9 (4 * i + 2) 0) 9 (4 * i + 3) 0
theorem qm_al {Q : Unit → RS → Prop} {ke : Int32 → RS → Option (Unit × RS)} (hi : i < 8) (hQ : wp (ke (nn i)) (al4 r i) Q) : wp (R_lost_L23 ke fu (nn i) 0) r Q := by
  obtain ⟨n2, hn2⟩ : ∃ z, fu = z + 5 := ⟨4995, rfl⟩
  rw [hn2]
  have st : ∀ (n k : Nat) (r : RS), k < 4 → wp (R_lost_L23 ke n (nn i) (nn (k + 1))) (sA r 9 (4 * i + k) 0) Q → wp (R_lost_L23 ke (n + 1) (nn i) (nn k)) r Q := by
    intro n k r hk hw
    show wp (R_lost_B23 _ ke (nn i) (nn k)) r Q
    unfold R_lost_B23
    rw [wp_neg (by rw [show (4 : Int32) = nn 4 from rfl, nn_le (by omega) (by omega)]; omega), show (4 : Int32) = nn 4 from rfl, nn_mul, nn_add, ww_9 (by omega), l_1, nn_add]
    exact hw
  refine st (n2 + 4) 0 r (by omega) (st (n2 + 3) 1 _ (by omega) (st (n2 + 2) 2 _ (by omega) (st (n2 + 1) 3 _ (by omega) ?_)))
  show wp (R_lost_B23 _ ke (nn i) (nn 4)) _ Q
  unfold R_lost_B23
  rw [wp_pos (by decide)]
  exact hQ
theorem al4.ho : Ho s i r (al4 r i) := by
  unfold al4
  refine Ho.a (Ho.a (Ho.a (Ho.a Ho.rf ?_) ?_) ?_) ?_
  · exact Or.inl ⟨by omega, by omega, show (4 * i + 0) / 4 = i by omega⟩
  · exact Or.inl ⟨by omega, by omega, show (4 * i + 1) / 4 = i by omega⟩
  · exact Or.inl ⟨by omega, by omega, show (4 * i + 2) / 4 = i by omega⟩
  · exact Or.inl ⟨by omega, by omega, show (4 * i + 3) / 4 = i by omega⟩
theorem al4.ro : Ro [9] r (al4 r i) := (((Ro.rf.a (by decide)).a (by decide)).a (by decide)).a (by decide)
theorem al4.z {k : Nat} (hk : k < 4) : (al4 r i).2.1 9 (4 * i + k) = 0 := by
  unfold al4
  rw [sA_2, sA_2, sA_2, sA_2]
  rcases (by omega : k = 0 ∨ k = 1 ∨ k = 2 ∨ k = 3) with g | g | g | g <;> subst g <;> simp
def cloM (r : RS) (i : Nat) : RS := sA (al4 (sA (sA (sA r 1 i 0) 2 i 0) 5 i 0) i) 7 i (-1)
theorem cloM.ho : Ho s i r (cloM r i) := by
  unfold cloM
  refine Ho.a (Ho.tr (Ho.a (Ho.a (Ho.a Ho.rf ?_) ?_) ?_) al4.ho) ?_
  · exact Or.inl ⟨by omega, by omega, rfl⟩
  · exact Or.inl ⟨by omega, by omega, rfl⟩
  · exact Or.inl ⟨by omega, by omega, rfl⟩
  · exact Or.inl ⟨by omega, by omega, rfl⟩
theorem cloM.ro : Ro [1, 2, 5, 7, 9] r (cloM r i) := Ro.a (Ro.tr (Ro.a (Ro.a (Ro.a Ro.rf (by decide)) (by decide)) (by decide)) (al4.ro.sub (by decide))) (by decide)
theorem cloM.rd : (cloM r i).2.1 1 i = 0 ∧ (cloM r i).2.1 2 i = 0 ∧ (cloM r i).2.1 5 i = 0 ∧ (cloM r i).2.1 7 i = -1 ∧ ∀ k, k < 4 → (cloM r i).2.1 9 (4 * i + k) = 0 := by
  unfold cloM
  refine ⟨?_, ?_, ?_, ?_, fun k hk => ?_⟩
  · rw [sA_o (by decide), al4.ro.gA (by decide), sA_o (by decide), sA_o (by decide), sA_2, if_pos ⟨rfl, rfl⟩]
  · rw [sA_o (by decide), al4.ro.gA (by decide), sA_o (by decide), sA_2, if_pos ⟨rfl, rfl⟩]
  · rw [sA_o (by decide), al4.ro.gA (by decide), sA_2, if_pos ⟨rfl, rfl⟩]
  · rw [sA_2, if_pos ⟨rfl, rfl⟩]
  · rw [sA_o (by decide)]
    exact al4.z hk
theorem cloM.ot {i' : Nat} (hi : i' ≠ i) : (cloM r i).2.1 1 i' = r.2.1 1 i' ∧ (cloM r i).2.1 5 i' = r.2.1 5 i' ∧ (cloM r i).2.1 7 i' = r.2.1 7 i' ∧ (cloM r i).2.1 2 i' = r.2.1 2 i' := by
  have w := cloM.ho (s := 12) (i := i) (r := r)
  exact ⟨(w.2 1 i' (pm_c (by omega) (by omega) rfl hi)).1, (w.2 5 i' (pm_c (by omega) (by omega) rfl hi)).1, (w.2 7 i' (pm_c (by omega) (by omega) rfl hi)).1, (w.2 2 i' (pm_c (by omega) (by omega) rfl hi)).1⟩
theorem cloH.hx {F : Nat → Option Nat} (hi : i < 8) : Hx x b i h (cloH h (cA x i) F) := by
  unfold cloH
  refine Hx.ar (Hx.fi (Hx.fi (Hx.fr (Hx.fi Hx.rf ?_ ?_) ?_ ?_) ?_ ?_) ?_ ?_) ?_ ?_
  · exact Or.inl (Or.inr (Or.inl ⟨hi, rfl⟩))
  · exact Or.inl (by decide)
  · exact Or.inl (Or.inr (Or.inl ⟨hi, rfl⟩))
  · exact Or.inl (by decide)
  · exact Or.inl (Or.inr (Or.inl ⟨hi, rfl⟩))
  · exact Or.inl (by decide)
  · exact Or.inl (Or.inr (Or.inl ⟨hi, rfl⟩))
  · exact Or.inl (by decide)
  · exact Or.inl (Or.inr (Or.inl ⟨hi, by omega, by omega⟩))
  · simp only [cA]; omega
theorem cloH.fm {F : Nat → Option Nat} : Fm x [201, 202, 205, 208] (fun a => a = cA x i + 3) h (cloH h (cA x i) F) := by
  unfold cloH
  refine Fm.ar (Fm.fi (Fm.fi (Fm.fr (Fm.fi Fm.rf ?_ ?_) ?_ ?_) ?_ ?_) ?_ ?_) (Or.inl rfl) (by simp only [cA]; omega)
  · exact Or.inl (by decide)
  · exact Or.inl (by decide)
  · exact Or.inl (by decide)
  · exact Or.inl (by decide)
  · exact Or.inl (by decide)
  · exact Or.inl (by decide)
  · exact Or.inl (by decide)
  · exact Or.inl (by decide)
/-- what a closed connection is: for both -/
theorem clo_con {F : Nat → Option Nat} {h1 : Hp} {r1 : RS} {Fl Sl : List Nat} {A : Nat → Prop} (R : Rel x ec es ew e0 h r) (hi : i < 8) (hF : ∀ o, o < 5 → F o = none) (p : Fm x Fl A (cloH h (cA x i) F) h1) (w : Ro Sl (cloM r i) r1) (hf : ∀ f ∈ [201, 202, 204, 205, 208, 209, 210, 212], f ∉ Fl) (hA : ¬ A (cA x i + 1) ∧ ¬ A (cA x i + 2) ∧ ¬ A (cA x i + 3)) (hS : ∀ k ∈ [1, 2, 3, 4, 5, 6, 7, 8, 9, 10, 66], k ∉ Sl) :
    CoA x h1 r1 i ∧ CoO x h1 r1 i ∧ CoL x h1 r1 i ∧ (i ≠ ec' → CoI x h1 r1 i) := by
  have T := R.st
  have hcl := T.cl hi
  obtain ⟨c1, c2, c3, c4⟩ := R.2.2.2.1 i hi
  obtain ⟨d1, d2, d3, d4, d5⟩ := cloM.rd (r := r) (i := i)
  have hn : hnx (cloH h (cA x i) F) = hnx h := rfl
  have f201 : hfi (cloH h (cA x i) F) 201 (cA x i) = 0 := by
    show hfi (sfi (sfi (sfr (sfi h 201 (cA x i) 0) 202 (cA x i) none) 205 (cA x i) 0) 208 (cA x i) 0) 201 (cA x i) = 0
    rw [hfi_sfi, if_neg (by omega), hfi_sfi, if_neg (by omega), hfi_sfr, hfi_sfi, if_pos ⟨rfl, rfl⟩]
  have f205 : hfi (cloH h (cA x i) F) 205 (cA x i) = 0 := by
    show hfi (sfi (sfi (sfr (sfi h 201 (cA x i) 0) 202 (cA x i) none) 205 (cA x i) 0) 208 (cA x i) 0) 205 (cA x i) = 0
    rw [hfi_sfi, if_neg (by omega), hfi_sfi, if_pos ⟨rfl, rfl⟩]
  have f208 : hfi (cloH h (cA x i) F) 208 (cA x i) = 0 := by
    show hfi (sfi (sfi (sfr (sfi h 201 (cA x i) 0) 202 (cA x i) none) 205 (cA x i) 0) 208 (cA x i) 0) 208 (cA x i) = 0
    rw [hfi_sfi, if_pos ⟨rfl, rfl⟩]
  have f202 : hfr (cloH h (cA x i) F) 202 (cA x i) = none := by
    show hfr (sfr (sfi h 201 (cA x i) 0) 202 (cA x i) none) 202 (cA x i) = none
    rw [hfr_sfr, if_pos ⟨rfl, rfl⟩]
  have p0 : Fm x [201, 202, 205, 208] (fun a => a = cA x i + 3) h (cloH h (cA x i) F) := cloH.fm
  have w0 := cloM.ro (r := r) (i := i)
  refine ⟨⟨⟨?_, ?_⟩, ⟨?_, ?_, ?_⟩, ?_, Or.inl ⟨?_, ?_⟩⟩, ?_, ?_, fun _ => ⟨[], ?_, ?_, by decide, ?_, ?_, ?_, fun _ => rfl, Or.inl rfl⟩⟩
  · rw [p.gi (hf 201 (by decide)) (by rw [hn]; omega), w.gA (hS 1 (by decide)), f201, d1]
  · rw [w.gA (hS 1 (by decide)), d1]; exact Or.inl rfl
  · rw [p.gi (hf 205 (by decide)) (by rw [hn]; omega), w.gA (hS 2 (by decide)), f205, d2]
  · rw [w.gA (hS 2 (by decide)), d2]; exact Or.inl rfl
  · rw [w.gA (hS 2 (by decide)), d2]; intro z; exact absurd z (by decide)
  · rw [p.gi (hf 212 (by decide)) (by rw [hn]; omega), p0.gi (by decide) (by omega), w.gA (hS 8 (by decide)), w0.gA (by decide), w.gI (hS 66 (by decide)), w0.gI (by decide)]
    exact c1.2.2.1
  · rw [w.gA (hS 7 (by decide)), d4]
  · rw [p.gr (hf 202 (by decide)) (by rw [hn]; omega), f202]
  · unfold CoO OutC OutM
    rw [p.gi (hf 204 (by decide)) (by rw [hn]; omega), p0.gi (by decide) (by omega), (p.2.2 (cA x i + 1) (by rw [hn]; omega) hA.1).1, (p0.2.2 (cA x i + 1) (by omega) (by omega)).1, w.gA (hS 3 (by decide)), w0.gA (by decide), w.gA (hS 4 (by decide)), w0.gA (by decide)]
    exact c2
  · intro k hk
    refine Or.inl ⟨?_, ?_⟩
    · rw [(p.2.2 (cA x i + 3) (by rw [hn]; omega) hA.2.2).2.1]
      unfold cloH
      rw [har_sar, if_pos rfl]
      exact hF _ (by omega)
    · rw [w.gA (hS 9 (by decide))]
      exact d5 k hk
  · rw [p.gi (hf 208 (by decide)) (by rw [hn]; omega), f208]
    rfl
  · rw [w.gA (hS 5 (by decide)), d3]
    rfl
  · exact fun v hv => by simp at hv
  · exact fun k hk => by simp at hk
  · exact fun k hk => by simp at hk
end CLO
