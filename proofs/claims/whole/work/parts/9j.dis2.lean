section DIT
variable {x ec es m j bf : Nat} {e0 : Int32}
theorem sim_dis_out : ∀ (c i f g : Nat) (h : Hp) (r : RS) (got : Int32), i + c = 12 → c < f → c < g → (got = 0 ∨ got = 1) → Rel x ec es 96 e0 h r → Msg x h r m j → Frm x h r j bf → ∀ D, Dv x h r D (8 * i) →
    Sim (C_X11_distribute_L15 x (fun l3 => C_X11_distribute_J162 x l3) f (some m) (some bf) got (nn i)) h (R_distribute_L14 (fun l2 => R_distribute_J198 l2) g (nn j) got (nn i)) r (fun v h' w r' => v = w ∧ (v = 0 ∨ v = 1) ∧ Rel x ec es 96 e0 h' r' ∧ GH x h h' r r' ∧ ∃ D', Dv x h' r' D' 96 ∧ (hcs h').1 + WN r' + D.length ≤ (hcs h).1 + WN r + D'.length ∧ (hcs h').2 + 6 * WN r' + 6 * D.length ≤ (hcs h).2 + 6 * WN r + 6 * D'.length ∧ (r.2.1 60 j = 0 → D' = D)) := by
  intro c
  induction c with
  | zero =>
    intro i f g h r got hi hf hg hgot R M Fo D dv
    obtain ⟨f', rfl⟩ : ∃ z, f = z + 1 := ⟨f - 1, by omega⟩
    obtain ⟨g', rfl⟩ : ∃ z, g = z + 1 := ⟨g - 1, by omega⟩
    show Sim (C_X11_distribute_B15 x _ _ (some m) (some bf) got (nn i)) h (R_distribute_B14 _ _ (nn j) got (nn i)) r _
    unfold C_X11_distribute_B15 R_distribute_B14
    rw [l_12, sl_pos (by rw [nn_le (by omega) (by omega)]; omega), sr_pos (by rw [nn_le (by omega) (by omega)]; omega)]
    unfold C_X11_distribute_J162 R_distribute_J198 zt
    dsimp only
    rw [sl_gd hgot, Sim_r (show gd (got = 0 ∨ got = 1) (rt got) r = rt got r from if_pos hgot)]
    exact Sim.ret ⟨rfl, hgot, R, GH.rf, D, dv.mono (by omega), by omega, by omega, fun _ => rfl⟩
  | succ c ih =>
    intro i f g h r got hi hf hg hgot R M Fo D dv
    obtain ⟨f', rfl⟩ : ∃ z, f = z + 1 := ⟨f - 1, by omega⟩
    obtain ⟨g', rfl⟩ : ∃ z, g = z + 1 := ⟨g - 1, by omega⟩
    obtain ⟨t1, t2, t3, t4⟩ := R.st.tab
    have i12 : i < 12 := by omega
    have ei : nn i + 1 = nn (i + 1) := nn_add
    -- the next session
    have next : ∀ h' r' got' D', (got' = 0 ∨ got' = 1) → Rel x ec es 96 e0 h' r' → GH x h h' r r' → Dv x h' r' D' (8 * (i + 1)) → (hcs h').1 + WN r' + D.length ≤ (hcs h).1 + WN r + D'.length → (hcs h').2 + 6 * WN r' + 6 * D.length ≤ (hcs h).2 + 6 * WN r + 6 * D'.length → (r.2.1 60 j = 0 → D' = D) → Sim (C_X11_distribute_J156 x (fun l1 l2 l3 l4 => C_X11_distribute_L15 x (fun l3 => C_X11_distribute_J162 x l3) f' l1 l2 l3 l4) (fun l3 => C_X11_distribute_J162 x l3) (some m) (some bf) got' (nn i)) h' (R_distribute_J192 (fun l1 l2 l3 => R_distribute_L14 (fun l2 => R_distribute_J198 l2) g' l1 l2 l3) (fun l2 => R_distribute_J198 l2) (nn j) got' (nn i)) r' (fun v h2 w r2 => v = w ∧ (v = 0 ∨ v = 1) ∧ Rel x ec es 96 e0 h2 r2 ∧ GH x h h2 r r2 ∧ ∃ D2, Dv x h2 r2 D2 96 ∧ (hcs h2).1 + WN r2 + D.length ≤ (hcs h).1 + WN r + D2.length ∧ (hcs h2).2 + 6 * WN r2 + 6 * D.length ≤ (hcs h).2 + 6 * WN r + 6 * D2.length ∧ (r.2.1 60 j = 0 → D2 = D)) := by
      intro h' r' got' D' hg' R' G' dv' y1 y2 y3
      unfold C_X11_distribute_J156 R_distribute_J192
      dsimp only
      rw [ei]
      refine (ih (i + 1) f' g' h' r' got' (by omega) (by omega) (by omega) hg' R' (M.gh R G') (Fo.gh G') D' dv').mono (fun v h2 w r2 z => ?_)
      obtain ⟨z1, z2, z3, z4, D2, z5, z6, z7, z8⟩ := z
      exact ⟨z1, z2, z3, G'.tr z4, D2, z5, by omega, by omega, fun y => (z8 (by rw [G'.2.1.gA (by decide)]; exact y)).trans (y3 y)⟩
    show Sim (C_X11_distribute_B15 x _ _ (some m) (some bf) got (nn i)) h (R_distribute_B14 _ _ (nn j) got (nn i)) r _
    unfold C_X11_distribute_B15 R_distribute_B14
    rw [l_12, sl_neg (by rw [nn_le (by omega) (by omega)]; omega), sr_neg (by rw [nn_le (by omega) (by omega)]; omega), sl_gR t1, t2, sl_Ar t3 (by rw [t4]; exact i12) (by omega)]
    cases hbi : har h (x + 34) i with
    | none =>
      obtain ⟨f2, hf2⟩ : ∃ z, fu = z + 1 := ⟨4999, rfl⟩
      rw [hf2]
      show Sim (C_X11_distribute_B34 x _ _ (some m) (some bf) got (nn i) none (nn 0)) h (R_distribute_B23 _ _ (nn j) got (nn i) (nn 0)) r _
      unfold C_X11_distribute_B34 R_distribute_B23
      have c0 : r.2.1 11 i = 0 := by
        rcases R.2.2.2.2.1 i i12 with ⟨c1, c2⟩ | ⟨c1, b, c2, _⟩
        · exact c1
        · rw [hbi] at c2; cases c2
      rw [sl_pos rfl, sr_r11 i12, c0, sr_pos rfl]
      exact next h r got D hgot R GH.rf (dv.mono (by omega)) (by omega) (by omega) (fun _ => rfl)
    | some bi =>
      obtain ⟨n, d1, d2, d3, d4, d5⟩ := (R.ses i12 hbi).2.2.2.2.1
      refine sim_dis_in (kb := fun l1 l2 l3 l4 => C_X11_distribute_J156 x (fun l1 l2 l3 l4 => C_X11_distribute_L15 x (fun l3 => C_X11_distribute_J162 x l3) f' l1 l2 l3 l4) (fun l3 => C_X11_distribute_J162 x l3) l1 l2 l3 l4) (kb' := fun l1 l2 l3 => R_distribute_J192 (fun l1 l2 l3 => R_distribute_L14 (fun l2 => R_distribute_J198 l2) g' l1 l2 l3) (fun l2 => R_distribute_J198 l2) l1 l2 l3) i12 n 0 fu fu h r got bi n (by omega) d1 (by unfold fu; omega) (by unfold fu; omega) R M Fo hbi d3 D dv (fun h' r' got' D' a1 a2 a3 a4 a5 a6 a7 => ?_)
      refine next h' r' got' D' ?_ a2 a3 a4 a5 a6 a7
      rcases a1 with a1 | a1
      · rw [a1]; exact hgot
      · exact Or.inr a1
/-- what a distribution may cost beyond what is paid for -/
def oz (r : RS) (j : Nat) : Nat := if r.2.1 60 j = 0 then 0 else 64
/-- a message is distributed: the same answer, the relation goes on -/
theorem sim_distribute {h : Hp} {r : RS} (R : Rel x ec es 96 e0 h r) (M : Msg x h r m j) (Fo : Frm x h r j bf) :
    Sim (C_X11_distribute x (some m) (some bf)) h (R_distribute (nn j)) r (fun v h' w r' => v = w ∧ (v = 0 ∨ v = 1) ∧ Rel x ec es 96 e0 h' r' ∧ GD x h h' r r' ∧ (hcs h').1 + WN r' ≤ (hcs h).1 + WN r + oz r j ∧ (hcs h').2 + 6 * WN r' ≤ (hcs h).2 + 6 * WN r + 6 * oz r j) := by
  have t1 := R.st.2.1.1
  have hx := R.st.1
  unfold C_X11_distribute R_distribute
  rw [sl_gI t1, sl_pI t1, sr_rI, sr_wI]
  have e : hfi h (100 * 13 + 11) x = r.1 69 := R.2.1.2.2.2.1
  rw [e]
  have R1 := R.dst (v := r.1 69 + 1)
  have p : Fm x [1311] (fun _ => False) h (sfi h 1311 x (r.1 69 + 1)) := Fm.fi Fm.rf (Or.inl (by decide)) (Or.inl (by decide))
  have w : Ro [69] r (sI r 69 (r.1 69 + 1)) := Ro.rf.i (by decide)
  have M1 : Msg x (sfi h 1311 x (r.1 69 + 1)) (sI r 69 (r.1 69 + 1)) m j := ⟨M.1.to p w (by decide) (by decide), M.2.1, M.2.2⟩
  have G1 : GD x h (sfi h 1311 x (r.1 69 + 1)) r (sI r 69 (r.1 69 + 1)) := ⟨p.sub (by decide) (fun a ha => ha.elim), w.sub (by decide), rfl⟩
  refine (sim_dis_out 12 0 fu fu _ _ 0 (by omega) (by unfold fu; omega) (by unfold fu; omega) (Or.inl rfl) R1 M1 Fo [] ⟨List.nodup_nil, fun c hc => absurd hc (List.not_mem_nil)⟩).mono (fun v h' w' r' z => ?_)
  obtain ⟨z1, z2, z3, z4, D', z5, z6, z7, z8⟩ := z
  have wn1 : WN (sI r 69 (r.1 69 + 1)) ≤ WN r := Ro.wn w (by decide) (by decide) (by decide) (by decide)
  have hc1 : (hcs (sfi h 1311 x (r.1 69 + 1))).1 = (hcs h).1 := rfl
  have hc2 : (hcs (sfi h 1311 x (r.1 69 + 1))).2 = (hcs h).2 := rfl
  have hD : D'.length ≤ oz r j := by
    unfold oz
    by_cases y : r.2.1 60 j = 0
    · rw [if_pos y, z8 y]
      exact Nat.le_refl _
    · rw [if_neg y]
      exact nodup_lt 64 D' z5.1 (fun c hc => (z5.2 c hc).1)
  have hn : ([] : List Nat).length = 0 := rfl
  exact ⟨z1, z2, z3, G1.tr z4.gd, by omega, by omega⟩
end DIT
