/-! ===== properties: the value of a key ===== -/
def K0 : List Nat := [1, 2, 3, 8, 9, 11, 17, 21, 22, 23, 24, 25, 31, 33, 34, 35, 38, 39]
/-- the model's part behind the mark of the key -/
def mQ (l3 : Int32) (k : Nat) : RS → Option (Unit × RS) := match k with
  | 1 => R_property_J91 (nn 1)
  | 23 => R_property_J91 (nn 23)
  | 25 => R_property_J91 (nn 25)
  | 2 => R_property_J159 (nn 2)
  | 17 => R_property_J159 (nn 17)
  | 24 => R_property_J159 (nn 24)
  | 39 => R_property_J159 (nn 39)
  | 3 => R_property_J200 (nn 3)
  | 8 => R_property_J200 (nn 8)
  | 21 => R_property_J200 (nn 21)
  | 31 => R_property_J200 (nn 31)
  | 9 => R_property_J221 (nn 9)
  | 22 => R_property_J221 (nn 22)
  | 11 => bd (R_variable) fun r17 => wL 83 (nn 11) r17 <| R_property_J327 (nn 11)
  | 38 => bd (R_string) fun _ => bd (R_string) fun _ => R_property_L267 (fun l4 => R_property_J312 l4) fu (nn 38) l3
  | n => bd (R_two) fun r14 => wL 83 (nn n) r14.toInt64 <| R_property_J327 (nn n)
theorem j63 {l3 : Int32} {k : Nat} (hk : k ∈ K0) : R_property_J63 l3 (nn k) = wA 82 (nn k) (vp_nar .boolean (1 : Int32)) (mQ l3 k) := by
  simp only [K0, List.mem_cons, List.not_mem_nil, or_false] at hk
  rcases hk with hk | hk | hk | hk | hk | hk | hk | hk | hk | hk | hk | hk | hk | hk | hk | hk | hk | hk <;> subst hk <;> rfl
section VA2
variable {x i p L f n c e a q k : Nat} {h h' : Hp} {r r' : RS} {bs ys : List Nat}
theorem sim_val {l3 : Int32} (D : Rd x i bs p L 0 h r) (T : Stat x h) (hk : k ∈ K0) (h38 : k ≠ 38) : Sim (C_X4_value (x + 40) (some (x + 37)) (nn k)) h (mQ l3 k) r (fun v h' _ r' => VP x i bs p L k h r v h' r') := by
  have hs : Sim (C_X5_row (x + 37) 1) h (R_string) r (fun v h' _ r' => RwP x i bs p L h r v h' r') := (sim_str D T).mono (fun _ _ _ _ z => z.1)
  simp only [K0, List.mem_cons, List.not_mem_nil, or_false] at hk
  rcases hk with hk | hk | hk | hk | hk | hk | hk | hk | hk | hk | hk | hk | hk | hk | hk | hk | hk | hk <;> subst hk
  · show Sim (C_X4_value_J172 (x + 40) (some (x + 37))) h (R_property_J91 (nn 1)) r _
    exact sim_v1 D T (Or.inl rfl)
  · show Sim (C_X4_value_J192 (x + 40) (some (x + 37))) h (R_property_J159 (nn 2)) r _
    exact sim_v4 D T (Or.inl rfl)
  · show Sim (C_X4_value_J242 (x + 40) (some (x + 37))) h (R_property_J200 (nn 3)) r _
    exact sim_vr D T hs (by decide) (by decide)
  · show Sim (hCv 7 (some (x + 37)) (fun a => C_X5_row a (1 : Int32)) fun r7 => hpR 6 7 (some (x + 40)) r7 <| rt (0 : Int64)) h (R_property_J200 (nn 8)) r _
    exact sim_v8 D T
  · show Sim (C_X4_value_J220 (x + 40) (some (x + 37))) h (R_property_J221 (nn 9)) r _
    exact sim_vr D T (sim_row D T) (by decide) (by decide)
  · exact sim_vv D T
  · show Sim (C_X4_value_J192 (x + 40) (some (x + 37))) h (R_property_J159 (nn 17)) r _
    exact sim_v4 D T (Or.inr (Or.inl rfl))
  · show Sim (C_X4_value_J242 (x + 40) (some (x + 37))) h (R_property_J200 (nn 21)) r _
    exact sim_vr D T hs (by decide) (by decide)
  · show Sim (C_X4_value_J220 (x + 40) (some (x + 37))) h (R_property_J221 (nn 22)) r _
    exact sim_vr D T (sim_row D T) (by decide) (by decide)
  · show Sim (C_X4_value_J172 (x + 40) (some (x + 37))) h (R_property_J91 (nn 23)) r _
    exact sim_v1 D T (Or.inr (Or.inl rfl))
  · show Sim (C_X4_value_J192 (x + 40) (some (x + 37))) h (R_property_J159 (nn 24)) r _
    exact sim_v4 D T (Or.inr (Or.inr (Or.inl rfl)))
  · show Sim (C_X4_value_J172 (x + 40) (some (x + 37))) h (R_property_J91 (nn 25)) r _
    exact sim_v1 D T (Or.inr (Or.inr rfl))
  · show Sim (C_X4_value_J242 (x + 40) (some (x + 37))) h (R_property_J200 (nn 31)) r _
    exact sim_vr D T hs (by decide) (by decide)
  · exact sim_v2 D T (Or.inl rfl)
  · exact sim_v2 D T (Or.inr (Or.inl rfl))
  · exact sim_v2 D T (Or.inr (Or.inr rfl))
  · exact absurd rfl h38
  · show Sim (C_X4_value_J192 (x + 40) (some (x + 37))) h (R_property_J159 (nn 39)) r _
    exact sim_v4 D T (Or.inr (Or.inr (Or.inr rfl)))
theorem Stat.nil (T : Stat x h) : Rw x h (x + 38) [] := by
  obtain ⟨_, _, t1, t2, t3, t4⟩ := T.2.2.2.1
  have := T.1
  exact ⟨t1, by omega, By.nil, x + 39, t2, by omega, t3, t4, Cg.nil, Or.inl rfl⟩
/-- the answer's topic is as it was, or a row -/
def Ex (x : Nat) (h h' : Hp) : Prop := hfr h' 607 (x + 40) = hfr h 607 (x + 40) ∨ ∃ a ys, hfr h' 607 (x + 40) = some a ∧ Rw x h' a ys ∧ ys.length ≤ 405
theorem sl_le {q n : Nat} : (sl bs q n).length ≤ bs.length := by
  unfold sl
  rw [List.length_take, List.length_drop]
  omega
theorem sim_v8x (D : Rd x i bs p L 0 h r) (T : Stat x h) : Sim (hCv 7 (some (x + 37)) (fun a => C_X5_row a (1 : Int32)) fun r7 => hpR 6 7 (some (x + 40)) r7 <| rt (0 : Int64)) h (R_property_J200 (nn 8)) r (fun v h' _ r' => VP x i bs p L 8 h r v h' r' ∧ Ex x h h') := by
  have hx := T.1
  have hd := D.2.2.2 rfl
  have hbl := D.2.2.1.2.2.1
  unfold R_property_J200
  rw [sl_Cv T.rd]
  refine Sim.seq (sim_str D T) (fun v h1 w r1 z => ?_)
  obtain ⟨⟨p', z2, z3, z4, z5⟩, _⟩ := z
  have T1 := z2.st T
  rw [Sim_r (M' := rt ()) (qm_327 (by omega)), sl_pR T1.2.2.2.2.1.1]
  have pf : Fm x [607] (fun _ => False) h1 (sfr h1 607 (x + 40) v) := Fm.rf.fr (Or.inl (by decide)) (Or.inl (by decide))
  have T2 : Stat x (sfr h1 607 (x + 40) v) := T1.sto pf.1
  have pf2 : Fm x [702, 704, 607] (fun _ => False) h (sfr h1 607 (x + 40) v) := z2.wf.tr (pf.sub (by decide) (fun _ z => z))
  have e607 : hfr (sfr h1 607 (x + 40) v) 607 (x + 40) = v := by rw [hfr_sfr, if_pos ⟨rfl, rfl⟩]
  rcases z5 with ⟨g1, g2, g3, g4, g5, g6, g7, D1⟩ | ⟨g2, D1⟩
  · have D2 := D1.fm T1 pf (Ro.rf (S := [])) (by decide) (fun z => z) (by decide)
    refine Sim.ret ⟨⟨p', 0, z3, z4, D2.e2 T2, pf2, Rk.end0 z2.2.1, ⟨z2.2.2.1, z2.2.2.2⟩, fun z => absurd rfl z, fun _ => ⟨by omega, fun z => absurd z (by decide), fun _ => ⟨g4, e84.1.trans g6, e84.2.trans g7⟩, fun _ => ⟨hnx h, ?_, g5.stp pf.1⟩⟩⟩, Or.inr ⟨hnx h, _, ?_, g5.stp pf.1, Nat.le_trans sl_le hbl⟩⟩
    · show hfr (sfr h1 607 (x + 40) v) 607 (x + 40) = _
      rw [e607, g1]
    · show hfr (sfr h1 607 (x + 40) v) 607 (x + 40) = _
      rw [e607, g1]
  · have D2 := D1.fm T1 pf (Ro.rf (S := [])) (by decide) (fun z => z) (by decide)
    refine Sim.ret ⟨⟨p', 129, z3, z4, D2.e2 T2, pf2, Rk.end0 z2.2.1, ⟨z2.2.2.1, z2.2.2.2⟩, fun z => absurd rfl z, fun z => by omega⟩, Or.inr ⟨x + 38, [], ?_, T2.nil, by decide⟩⟩
    show hfr (sfr h1 607 (x + 40) v) 607 (x + 40) = _
    rw [e607, g2]
theorem sim_val2 {l3 : Int32} (D : Rd x i bs p L 0 h r) (T : Stat x h) (hk : k ∈ K0) (h38 : k ≠ 38) : Sim (C_X4_value (x + 40) (some (x + 37)) (nn k)) h (mQ l3 k) r (fun v h' _ r' => VP x i bs p L k h r v h' r' ∧ Ex x h h') := by
  by_cases g : k = 8
  · subst g
    show Sim (hCv 7 (some (x + 37)) (fun a => C_X5_row a (1 : Int32)) fun r7 => hpR 6 7 (some (x + 40)) r7 <| rt (0 : Int64)) h (R_property_J200 (nn 8)) r _
    exact sim_v8x D T
  · refine (sim_val D T hk h38).mono (fun v h' _ r' z => ⟨z, ?_⟩)
    obtain ⟨_, _, _, _, _, _, _, _, z7, _⟩ := z
    exact Or.inl (z7 g)
/-- user properties: what the model adds -/
theorem qm_users {U : List Nat} {s : Nat} (hM : Mg (r.2.1 6) (410 * i) bs) (hi : i < 8) (hp : r.1 76 = nn (410 * i + p)) (hp2 : p ≤ bs.length) (hbl : bs.length ≤ 405) (hf : r.1 79 = 0) (hsp : s ≤ p) (hU : r.1 87 = nn U.length) (hUm : Mg (r.2.1 86) 0 U) (hUl : U.length + (p - s) < 400) (B : By bs) : wp (R_property_L267 (fun l4 => R_property_J312 l4) fu (nn 38) (nn (410 * i + s))) r (fun _ r' => ∃ r2, r' = sA (sA r2 84 38 (r2.1 80)) 85 38 (r2.1 81) ∧ Ro [86, 87] r r2 ∧ r2.1 87 = nn (U.length + (p - s)) ∧ Mg (r2.2.1 86) 0 (U ++ sl bs s (p - s))) := by
  have key : ∀ (c s' f : Nat) (r1 : RS), s' + c = p → s ≤ s' → c < f → Ro [86, 87] r r1 → r1.1 87 = nn (U.length + (s' - s)) → Mg (r1.2.1 86) 0 (U ++ sl bs s (s' - s)) → wp (R_property_L267 (fun l4 => R_property_J312 l4) f (nn 38) (nn (410 * i + s'))) r1 (fun _ r' => ∃ r2, r' = sA (sA r2 84 38 (r2.1 80)) 85 38 (r2.1 81) ∧ Ro [86, 87] r r2 ∧ r2.1 87 = nn (U.length + (p - s)) ∧ Mg (r2.2.1 86) 0 (U ++ sl bs s (p - s))) := by
    intro c
    induction c with
    | zero =>
      intro s' f r1 hs hss hf' w h87 h86
      obtain ⟨f', rfl⟩ : ∃ z, f = z + 1 := ⟨f - 1, by omega⟩
      have : s' = p := by omega
      subst this
      show wp (R_property_B267 _ _ (nn 38) (nn (410 * i + s'))) r1 _
      unfold R_property_B267 R_property_J312
      dsimp only
      rw [wp_rI, w.gI (by decide), hp, wp_pos (by rw [nn_le (by omega) (by omega)]; omega)]
      exact wp.get (qm_327 (by omega)) ⟨r1, rfl, w, h87, h86⟩
    | succ c ih =>
      intro s' f r1 hs hss hf' w h87 h86
      obtain ⟨f', rfl⟩ : ∃ z, f = z + 1 := ⟨f - 1, by omega⟩
      have b256 := B.at s'
      have hb : r1.2.1 6 (410 * i + s') = sb (bs.getD s' 0) := by
        rw [w.gA (by decide)]
        exact hM s' (by omega)
      show wp (R_property_B267 _ _ (nn 38) (nn (410 * i + s'))) r1 _
      unfold R_property_B267
      rw [wp_rI, w.gI (by decide), hp, wp_neg (by rw [nn_le (by omega) (by omega)]; omega), wp_rI, w.gI (by decide), hf, wp_pos rfl, wp_rI, h87, wp_wI, wr_6 (by omega), sI_2, hb, nar_sb b256, ww_86 (by omega), l_1, nn_add, nn_add]
      refine ih (s' + 1) f' _ (by omega) (by omega) (by omega) ((w.i (by decide)).a (by decide)) ?_ ?_
      · rw [sA_1, sI_1, if_pos rfl]
        congr 1
        omega
      · have el : sl bs s (s' + 1 - s) = sl bs s (s' - s) ++ [bs.getD s' 0] := by
          refine list_ext0 ?_ (fun q hq => ?_)
          · rw [sl_len (by omega), List.length_append, sl_len (by omega), List.length_singleton]
            omega
          · rw [sl_len (by omega)] at hq
            rw [sl_at (by omega) (by omega), gD_app, sl_len (by omega)]
            by_cases g : q < s' - s
            · rw [if_pos g, sl_at g (by omega)]
            · rw [if_neg g, show q - (s' - s) = 0 by omega, show s + q = s' by omega]
              rfl
        rw [el, ← List.append_assoc]
        refine Mg.app (Mg.of h86 (fun q hq => ?_)) (Mg.one ?_)
        · rw [List.length_append, sl_len (by omega)] at hq
          rw [sA_2, if_neg (by omega), sI_2]
        · rw [List.length_append, sl_len (by omega), sA_2, if_pos ⟨rfl, by omega⟩]
  exact key (p - s) s fu r (by omega) (Nat.le_refl _) (by unfold fu; omega) Ro.rf (by rw [Nat.sub_self]; exact hU) (by rw [Nat.sub_self]; unfold sl; rw [List.take_zero, List.append_nil]; exact hUm)
end VA2
