section LE2
variable {x ec es ew s b n k : Nat} {e0 : Int32} {h : Hp} {r r' : RS}
theorem qm_leave (hs : s < 12) (hn : r.2.1 31 s = nn n) (hn2 : n ≤ 16) (hk : k < n) (h37 : ∀ p, p < n → r.2.1 37 (16 * s + p) = 0 ∨ r.2.1 37 (16 * s + p) = 1) : ∃ r', R_leave (nn s) (nn k) r = bd (R_pump (nn s)) (fun _ => rt ()) r' ∧ LeM s n k r r' := by
  unfold R_leave
  have key : ∀ (c q f : Nat) (r1 : RS), q + c = n - 1 → k ≤ q → c < f → Ho s 8 r r1 → Ro [31, 32, 33, 34, 35, 36, 37] r r1 → r1.2.1 31 s = nn n → (∀ p, p < q → ∀ f ∈ [32, 33, 34, 35, 36, 37], r1.2.1 f (16 * s + p) = r.2.1 f (16 * s + (if p < k then p else p + 1))) → (∀ p, q ≤ p → ∀ f ∈ [32, 33, 34, 35, 36, 37], r1.2.1 f (16 * s + p) = r.2.1 f (16 * s + p)) → ∃ r', R_leave_L2 (fun l1 => R_leave_J38 l1) f (nn s) (nn q) r1 = bd (R_pump (nn s)) (fun _ => rt ()) r' ∧ LeM s n k r r' := by
    intro c
    induction c with
    | zero =>
      intro q f r1 hq hkq hf w1 w2 h31 h1 h2
      obtain ⟨f', rfl⟩ : ∃ z, f = z + 1 := ⟨f - 1, by omega⟩
      refine ⟨sA r1 31 s (nn (n - 1)), ?_, w1.a (Or.inr (Or.inl ⟨by omega, by omega, by unfold ow; rw [if_neg (by omega), if_neg (by omega), if_neg (by omega), if_neg (by omega), if_neg (by omega)]⟩)), w2.a (by decide), by rw [sA_2, if_pos ⟨rfl, rfl⟩], fun p hp f hf => ?_⟩
      · show R_leave_B2 _ _ (nn s) (nn q) r1 = _
        unfold R_leave_B2 R_leave_J38
        rw [x_rA mL_31 hs (by omega), h31, l_1, nn_add, if_pos (by rw [nn_le (by omega) (by omega)]; omega)]
        dsimp only
        rw [x_rA mL_31 hs (by omega), h31, nn_sub (by omega), x_wA mL_31 hs (by omega)]
      · have hf' := hf
        simp only [List.mem_cons, List.not_mem_nil, or_false] at hf'
        rw [sA_o (by omega)]
        exact h1 p (by omega) f hf
    | succ c ih =>
      intro q f r1 hq hkq hf w1 w2 h31 h1 h2
      obtain ⟨f', rfl⟩ : ∃ z, f = z + 1 := ⟨f - 1, by omega⟩
      have z37 : r1.2.1 37 (16 * s + q + 1) = 0 ∨ r1.2.1 37 (16 * s + q + 1) = 1 := by
        rw [show 16 * s + q + 1 = 16 * s + (q + 1) by omega, h2 (q + 1) (by omega) 37 (by decide)]
        exact h37 (q + 1) (by omega)
      have em := qm_move (r := r1) hs (show q + 1 < 16 by omega) z37
      obtain ⟨r2, e2⟩ : ∃ z, z = sA (sA (sA (sA (sA (sA r1 32 (16 * s + q) (r1.2.1 32 (16 * s + q + 1))) 33 (16 * s + q) (r1.2.1 33 (16 * s + q + 1))) 34 (16 * s + q) (r1.2.1 34 (16 * s + q + 1))) 35 (16 * s + q) (r1.2.1 35 (16 * s + q + 1))) 36 (16 * s + q) (r1.2.1 36 (16 * s + q + 1))) 37 (16 * s + q) (r1.2.1 37 (16 * s + q + 1)) := ⟨_, rfl⟩
      rw [← e2] at em
      have pm : ∀ f, 32 ≤ f → f ≤ 37 → Pm s 8 f (16 * s + q) := fun f g1 g2 => Or.inr (Or.inl ⟨by omega, by omega, by
        unfold ow
        rw [if_neg (by omega), if_neg (by omega), if_neg (by omega), if_pos (by omega)]
        omega⟩)
      have rd : ∀ f ∈ [32, 33, 34, 35, 36, 37], ∀ p, r2.2.1 f p = if p = 16 * s + q then r1.2.1 f (16 * s + q + 1) else r1.2.1 f p := by
        intro f hf p
        simp only [List.mem_cons, List.not_mem_nil, or_false] at hf
        rw [e2]
        by_cases z : p = 16 * s + q
        · rw [if_pos z]
          rcases hf with g | g | g | g | g | g <;> subst g
          · rw [sA_o (by decide), sA_o (by decide), sA_o (by decide), sA_o (by decide), sA_o (by decide), sA_2, if_pos ⟨rfl, z⟩]
          · rw [sA_o (by decide), sA_o (by decide), sA_o (by decide), sA_o (by decide), sA_2, if_pos ⟨rfl, z⟩]
          · rw [sA_o (by decide), sA_o (by decide), sA_o (by decide), sA_2, if_pos ⟨rfl, z⟩]
          · rw [sA_o (by decide), sA_o (by decide), sA_2, if_pos ⟨rfl, z⟩]
          · rw [sA_o (by decide), sA_2, if_pos ⟨rfl, z⟩]
          · rw [sA_2, if_pos ⟨rfl, z⟩]
        · rw [if_neg z, sA_2, if_neg (fun y => z y.2), sA_2, if_neg (fun y => z y.2), sA_2, if_neg (fun y => z y.2), sA_2, if_neg (fun y => z y.2), sA_2, if_neg (fun y => z y.2), sA_2, if_neg (fun y => z y.2)]
      have e1 : R_leave_L2 (fun l1 => R_leave_J38 l1) (f' + 1) (nn s) (nn q) r1 = R_leave_L2 (fun l1 => R_leave_J38 l1) f' (nn s) (nn (q + 1)) r2 := by
        show R_leave_B2 _ _ (nn s) (nn q) r1 = _
        unfold R_leave_B2
        rw [x_rA mL_31 hs (by omega), h31, l_1, nn_add, if_neg (by rw [nn_le (by omega) (by omega)]; omega), l_16, nn_mul, nn_add, nn_add, e_bd em]
      rw [e1]
      refine ih (q + 1) f' r2 (by omega) (by omega) (by omega) ?_ ?_ ?_ ?_ ?_
      · rw [e2]
        exact (((((w1.a (pm 32 (by omega) (by omega))).a (pm 33 (by omega) (by omega))).a (pm 34 (by omega) (by omega))).a (pm 35 (by omega) (by omega))).a (pm 36 (by omega) (by omega))).a (pm 37 (by omega) (by omega))
      · rw [e2]
        exact (((((w2.a (by decide)).a (by decide)).a (by decide)).a (by decide)).a (by decide)).a (by decide)
      · rw [e2, sA_o (by decide), sA_o (by decide), sA_o (by decide), sA_o (by decide), sA_o (by decide), sA_o (by decide)]
        exact h31
      · intro p hp f hf
        rw [rd f hf]
        by_cases z : p = q
        · rw [if_pos (by omega), z, if_neg (by omega), show 16 * s + q + 1 = 16 * s + (q + 1) by omega]
          exact h2 (q + 1) (by omega) f hf
        · rw [if_neg (by omega)]
          exact h1 p (by omega) f hf
      · intro p hp f hf
        rw [rd f hf, if_neg (by omega)]
        exact h2 p (by omega) f hf
  -- the places before k stay
  refine key (n - 1 - k) k fu r (by omega) (Nat.le_refl _) (by unfold fu; omega) Ho.rf Ro.rf hn (fun p hp f hf => by rw [if_pos hp]) (fun p _ f hf => rfl)
theorem Rel.lea (R : Rel x ec es ew e0 h r) (hs : s < 12) (hb : har h (x + 34) s = some b) (hn : r.2.1 31 s = nn n) (hn2 : n ≤ 16) (hk : k < n) (U : LeM s n k r r') : Rel x ec es ew e0 (leaH h b n k) r' := by
  have T := R.st
  have hx := T.1
  have Sb := R.ses hs hb
  have hb2 := Sb.1.2.1
  have hb4 := Sb.1.2.2.1
  have p := leaH.fm (x := x) (h := h) (b := b) (n := n) (k := k) hb2
  obtain ⟨w1, w2, h31, hsh⟩ := U
  have e34 : har (leaH h b n k) (x + 34) = har h (x + 34) := (p.2.2 (x + 34) (by omega) (by omega)).2.1
  have a2 : har (leaH h b n k) (b + 2) = disF (har h (b + 2)) k (n - 1) := by
    unfold leaH
    rw [har_sfi, har_sar, if_pos rfl]
  have a3 : har (leaH h b n k) (b + 3) = har h (b + 3) := (p.2.2 (b + 3) (by omega) (by omega)).2.1
  have a1 : har (leaH h b n k) (b + 1) = har h (b + 1) := (p.2.2 (b + 1) (by omega) (by omega)).2.1
  have sh : ∀ q, q < n - 1 → har (leaH h b n k) (b + 2) q = har h (b + 2) (if q < k then q else q + 1) := fun q hq => by
    rw [a2]
    unfold disF
    by_cases g : q < k
    · rw [if_neg (by omega), if_pos g]
    · rw [if_pos (by omega), if_neg g]
  have e38 : r'.2.1 38 = r.2.1 38 := w2.gA (by decide)
  have e24 : r'.2.1 24 = r.2.1 24 := w2.gA (by decide)
  have was : ∀ q d, q < 40 → act r' s q → dl (leaH h b n k) b q = some d → act r s (if k ≤ q ∧ q < 16 then q + 1 else q) ∧ dl h b (if k ≤ q ∧ q < 16 then q + 1 else q) = some d ∧ (if k ≤ q ∧ q < 16 then q + 1 else q) < 40 := by
    intro q d hq ha hd
    unfold act at ha
    unfold dl at hd
    by_cases g : q < 16
    · rw [if_pos g] at ha hd
      rw [h31, iN_nn (by omega)] at ha
      rw [sh _ ha] at hd
      by_cases gk : k ≤ q
      · rw [if_neg (by omega)] at hd
        rw [if_pos ⟨gk, g⟩]
        unfold act dl
        rw [if_pos (by omega), if_pos (by omega), hn, iN_nn (by omega)]
        exact ⟨by omega, hd, by omega⟩
      · rw [if_pos (by omega)] at hd
        rw [if_neg (by omega)]
        unfold act dl
        rw [if_pos g, if_pos g, hn, iN_nn (by omega)]
        exact ⟨by omega, hd, by omega⟩
    · rw [if_neg g] at ha hd
      rw [e38] at ha
      rw [a3] at hd
      rw [if_neg (by omega)]
      unfold act dl
      rw [if_neg g, if_neg g]
      exact ⟨ha, hd, hq⟩
  refine R.same (i := 8) (leaH.hx hb2) w1 hs hb e34 (R.2.1.fm T p w2 (by decide) (by decide)) (by rw [sSum.fm T p (by decide), w2.gI (by decide)]; exact R.2.2.1) (w2.gI (by decide)) (fun _ _ _ z => z) (fun _ _ _ z => z) (fun z => by omega) (by rw [w2.gA (by decide)]) (by rw [w2.gA (by decide)]) (fun _ _ _ _ => by rw [w2.gA (by decide)]) (fun d hd => Or.inr ⟨p.gr (by decide) hd, fun f hf => p.gi ?_ hd⟩) (fun u hu => Or.inr (fun f hf => p.gi ?_ hu)) (fun z => by omega) ?_ ?_ ?_ ?_ ?_ ?_ (p.gr (by decide) (by omega)) (by rw [w2.gA (by decide)]) ?_ ?_
  · simp only [List.mem_cons, List.not_mem_nil, or_false] at hf ⊢
    omega
  · simp only [List.mem_cons, List.not_mem_nil, or_false] at hf ⊢
    omega
  · refine ⟨Sb.1.sto p.1, Sb.2.1.fm (by omega) p.1 w2 (by decide), Sb.2.2.1.fm (by omega) p w2 (by decide) (by decide), Sb.2.2.2.1.fm (by omega) p w2 (by decide) (by decide), Sb.2.2.2.2.1.fm hb4 p w2 (by decide) (by omega) (by decide), ?_, Sb.2.2.2.2.2.2.1.fm hb4 p w2 (by decide) (by omega) (by decide), Sb.2.2.2.2.2.2.2.1.fm hb4 p w2 (by decide) (by omega) (by decide), Sb.2.2.2.2.2.2.2.2.fm w2 (by decide)⟩
    obtain ⟨n', q1, q2, q3, q4, q5⟩ := Sb.2.2.2.2.2.1
    have en : n' = n := nn_inj (by omega) (by omega) (q3.symm.trans hn)
    subst en
    refine ⟨n' - 1, by omega, ?_, h31, fun q hq => ?_, fun q q' hq hq' he => ?_⟩
    · unfold leaH
      rw [hfi_sfi, if_pos ⟨rfl, rfl⟩]
    · obtain ⟨q0, hq0⟩ : ∃ z, z = (if q < k then q else q + 1) := ⟨_, rfl⟩
      have lq0 : q0 < n' := by rw [hq0]; split <;> omega
      obtain ⟨d, d1, m, j, ql, fl, id, num, c1, c2, c3, c4, c5, c6, c7, c8, c9, c10⟩ := q4 q0 lq0
      have hshq : ∀ f ∈ [32, 33, 34, 35, 36, 37], r'.2.1 f (16 * s + q) = r.2.1 f (16 * s + q0) := fun f hf => by
        rw [hq0]
        exact hsh q hq f hf
      refine ⟨d, by rw [sh q hq, ← hq0]; exact d1, m, j, ql, fl, id, num, ⟨by rw [(p.1.2.1 d c1.2.2).1]; exact c1.1, c1.2.1, Nat.lt_of_lt_of_le c1.2.2 p.1.1⟩, by rw [p.gr (by decide) c1.2.2]; exact c2, by rw [hshq 33 (by decide)]; exact c3, c4.to p w2 (by decide) (by decide), ⟨by rw [p.gi (by decide) c1.2.2]; exact c5.1, by rw [hshq 34 (by decide)]; exact c5.2.1, c5.2.2⟩, ⟨by rw [p.gi (by decide) c1.2.2]; exact c6.1, by rw [hshq 35 (by decide)]; exact c6.2.1, c6.2.2⟩, ⟨by rw [p.gi (by decide) c1.2.2]; exact c7.1, by rw [hshq 36 (by decide)]; exact c7.2.1, c7.2.2⟩, ⟨by rw [p.gi (by decide) c1.2.2]; exact c8.1, by rw [hshq 32 (by decide)]; exact c8.2.1, c8.2.2⟩, by rw [p.gi (by decide) c1.2.2, hshq 37 (by decide)]; exact c9, by rw [hshq 37 (by decide)]; exact c10⟩
    · rw [hsh q hq 32 (by decide), hsh q' hq' 32 (by decide)] at he
      have := q5 _ _ (by split <;> omega) (by split <;> omega) he
      split at this <;> split at this <;> omega
  · intro g
    exact (((R.2.2.2.2.1 s hs).at hb).2.2 g).fm (by omega) p w2 (by decide) (by decide)
  · intro q d hq ha hd
    obtain ⟨g1, g2, g3⟩ := was q d hq ha hd
    exact ⟨⟨_, g3, g1, g2⟩, p.gr (by decide) (act.lt Sb g1 g3 g2)⟩
  · intro q q' d hq hq' ha ha' hd hd'
    obtain ⟨g1, g2, g3⟩ := was q d hq ha hd
    obtain ⟨y1, y2, y3⟩ := was q' d hq' ha' hd'
    have := (R.2.2.2.2.2.1 s s b b _ _ d hs hs hb hb g3 y3 g1 y1 g2 y2).2
    have l1 : q < 16 → q < n - 1 := fun z => by
      unfold act at ha
      rw [if_pos z, h31, iN_nn (by omega)] at ha
      exact ha
    have l2 : q' < 16 → q' < n - 1 := fun z => by
      unfold act at ha'
      rw [if_pos z, h31, iN_nn (by omega)] at ha'
      exact ha'
    split at this <;> split at this <;> omega
  · intro q u hq hu
    rw [e24] at hq
    rw [a1] at hu
    exact Or.inr ⟨q, hq, hu⟩
  · intro q q' u hq hq' hu hu'
    rw [e24] at hq hq'
    rw [a1] at hu hu'
    exact (R.2.2.2.2.2.2.1 s s b b q q' u hs hs hb hb hq hq' hu hu').2
  · intro q hq
    rw [h31, iN_nn (by omega)] at hq
    exact Or.inl ⟨_, by rw [hn, iN_nn (by omega)]; split <;> omega, hsh q hq 33 (by decide)⟩
  · intro q hq
    rw [e38] at hq
    exact Or.inr ⟨q, hq, by rw [w2.gA (by decide)]⟩
/-- one on the way arrives, and what waits goes on -/
theorem sim_leave {d : Nat} (R : Rel x ec es ew e0 h r) (hs : s < 12) (hb : har h (x + 34) s = some b) (hn : r.2.1 31 s = nn n) (hn2 : n ≤ 16) (hk : k < n) (hd : har h (b + 2) k = some d) :
    ∃ h1 h' r', C_X8_arrive b (some d) h = some ((), h1) ∧ hkd h1 x = 13 + 1 ∧ C_X11_goOn x (some b) h1 = some ((), h') ∧ R_leave (nn s) (nn k) r = some ((), r') ∧ Rel x ec es ew e0 h' r' ∧ GH x h h' r r' ∧ hcs h' = hcs h ∧ WN r' ≤ WN r := by
  have T := R.st
  have hx := T.1
  have Sb := R.ses hs hb
  have hb2 := Sb.1.2.1
  have hb4 := Sb.1.2.2.1
  obtain ⟨n', q1, q2, q3, q4, q5⟩ := Sb.2.2.2.2.2.1
  have en : n' = n := nn_inj (by omega) (by omega) (q3.symm.trans hn)
  subst en
  have hact : ∀ q, q < n' → act r s q := fun q hq => by
    unfold act
    rw [if_pos (by omega), hn, iN_nn (by omega)]
    exact hq
  have e1 := qc_arriveK (d := d) (k := k) Sb.1 q2 q1 hk (fun q hq => by
    obtain ⟨e, d1, m, j, ql, fl, id, num, c1, _⟩ := q4 q hq
    exact ⟨e, d1, c1.1⟩) hd (fun q hq hq2 => (R.2.2.2.2.2.1 s s b b q k d hs hs hb hb (by omega) (by omega) (hact q hq) (hact k hk) (by unfold dl; rw [if_pos (by omega)]; exact hq2) (by unfold dl; rw [if_pos (by omega)]; exact hd)).2)
  obtain ⟨r1, e2, U⟩ := qm_leave (k := k) hs hn q1 hk (fun q hq => by
    obtain ⟨e, d1, m, j, ql, fl, id, num, c1, c2, c3, c4, c5, c6, c7, c8, c9, c10⟩ := q4 q hq
    rcases c10 with z | z
    · exact Or.inl z
    · exact Or.inr z.1)
  have R1 := R.lea hs hb hn q1 hk U
  have p := leaH.fm (x := x) (h := h) (b := b) (n := n') (k := k) hb2
  have e34 : har (leaH h b n' k) (x + 34) = har h (x + 34) := (p.2.2 (x + 34) (by omega) (by omega)).2.1
  have G1 : GH x h (leaH h b n' k) r r1 := ⟨p.sub (by decide) (fun a ha => Or.inr (Or.inr ⟨s, b, hs, hb, Or.inl ha⟩)), U.2.1.sub (by decide), e34⟩
  obtain ⟨_, h', _, r', e3, e4, z1, z2, z3, z4⟩ := sim_pump R1 hs (by rw [e34]; exact hb)
  refine ⟨_, h', r', e1, R1.st.2.1.1, e3, ?_, z1, G1.tr z2, z3, Nat.le_trans z4 (Ro.wn U.2.1 (by decide) (by decide) (by decide) (by decide))⟩
  rw [e2, e_bd e4]
  rfl
end LE2
