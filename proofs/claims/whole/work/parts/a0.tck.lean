/-! ===== one second ===== -/
theorem Oo.gw {x : Nat} {h h' : Hp} {r r' : RS} (p : Oo x h h') (w : Ro oS r r') : GW x h h' r r' := ⟨p.fm.sub (by decide) (fun a ha => Or.inl (ha.elim Or.inl (fun z => Or.inr (Or.inl z)))), w.sub (by decide), by rw [p.1.2.2.2.2.2.2.1]⟩
theorem Oo.pd {x : Nat} {h h' : Hp} {r r' : RS} (p : Oo x h h') (w : Ro oS r r') : Pd h h' r r' := Pd.mk p.1.2.2.2.2.2.2.2 (w.wn (by decide) (by decide) (by decide) (by decide))
theorem Rel.glo {x ec es ew f : Nat} {e0 e0' v : Int32} {h : Hp} {r r' : RS} (R : Rel x ec es ew e0 h r) (hf : 1310 ≤ f) (hf2 : f ∉ finI) (hG : Glo x (sfi h f x v) r' e0') (w : Ho 12 8 r r') (h68 : r'.1 68 = r.1 68) (h73 : r'.1 73 = r.1 73) : Rel x ec es ew e0' (sfi h f x v) r' := by
  have T := R.st
  refine R.cnn (i := 8) (Hx.rf.fi (Or.inl (Or.inr (Or.inr (Or.inr (Or.inr ⟨rfl, by omega⟩))))) (Or.inl hf2)) w (by rw [har_sfi]) hG ?_ h73 (fun i' h1 _ h3 => h3) (fun z => by omega) (fun d _ => ⟨by rw [hfr_sfi], fun f' hf' => ?_⟩) (fun u _ f' hf' => ?_) (fun z => by omega)
  · rw [h68, R.2.2.1]
    unfold sSum
    simp only [hfi_sfi]
    rw [if_neg (by omega), if_neg (by omega), if_neg (by omega), if_neg (by omega), if_neg (by omega), if_neg (by omega), if_neg (by omega), if_neg (by omega)]
  · simp only [List.mem_cons, List.not_mem_nil, or_false] at hf'
    rw [hfi_sfi, if_neg (by omega)]
  · simp only [List.mem_cons, List.not_mem_nil, or_false] at hf'
    rw [hfi_sfi, if_neg (by omega)]
section TCK
variable {x ec s b i t τ : Nat} {e0 : Int32} {h : Hp} {r : RS}
theorem qm_settle0 (h : Hp) (hn : ∀ i, i < 8 → r.2.1 2 i = 0) : R_settle r = some ((), r) := by
  have : Sim (rt () : Hp → Option (Unit × Hp)) h (R_settle) r (fun _ _ _ r' => r' = r) := by
    unfold R_settle
    obtain ⟨g, hg⟩ : ∃ g, fu = (g + 1) + 8 := ⟨4991, rfl⟩
    rw [hg]
    refine set_wm (a := 8) (g := g + 1) (Nat.le_refl _) hn ?_ 8 0 (by omega)
    show Sim _ h (R_settle_B2 _ _ (nn 8)) r _
    unfold R_settle_B2 R_settle_J42
    rw [sr_pos (by decide)]
    exact Sim.ret rfl
  obtain ⟨v, h', w, r', _, e2, e3⟩ := this
  rw [e2, e3]
theorem sI_sI {k : Nat} {a c : Int32} : sI (sI r k a) k c = sI r k c := by
  refine Prod.ext (funext fun j => ?_) rfl
  rw [sI_1, sI_1, sI_1]
  split <;> rfl
/-- a second in which nothing happens -/
theorem qm_quiet (R : Rel x ec 12 96 e0 h r) (hq : Quiet r τ) (hn : ∀ i, i < 8 → r.2.1 2 i = 0) (h1 : 1 ≤ τ) (h2 : τ ≤ 1073741823) : R_second (sI r 66 (nn (τ - 1))) = some ((), sI r 66 (nn τ)) := by
  suffices hh : wp R_second (sI r 66 (nn (τ - 1))) (fun _ r' => r' = sI r 66 (nn τ)) by
    obtain ⟨v, r', e1, e2⟩ := hh
    rw [e1, e2]
  unfold R_second
  rw [wp_rI, wp_wI, sI_sI, sI_1, if_pos rfl, l_1, nn_add, show τ - 1 + 1 = τ by omega]
  have e66 : (sI r 66 (nn τ)).1 66 = nn τ := by rw [sI_1, if_pos rfl]
  have k3 : ∀ (c s f : Nat), s + c = 12 → c < f → wp (R_second_L172 (R_second_J233) f (nn s)) (sI r 66 (nn τ)) (fun _ r' => r' = sI r 66 (nn τ)) := by
    intro c
    induction c with
    | zero =>
      intro s f hs hf
      obtain ⟨f', rfl⟩ : ∃ z, f = z + 1 := ⟨f - 1, by omega⟩
      have : s = 12 := by omega
      subst this
      show wp (R_second_B172 _ _ (nn 12)) _ _
      unfold R_second_B172 R_second_J233
      rw [wp_pos (by decide), wp_bd]
      refine wp.get (qm_settle0 (r := sI r 66 (nn τ)) h hn) ?_
      rw [wp_rt]
    | succ c ih =>
      intro s f hs hf
      obtain ⟨f', rfl⟩ : ∃ z, f = z + 1 := ⟨f - 1, by omega⟩
      have hs12 : s < 12 := by omega
      show wp (R_second_B172 _ _ (nn s)) _ _
      unfold R_second_B172
      rw [wp_neg (by rw [show (12 : Int32) = nn 12 from rfl, nn_le (by omega) (by omega)]; omega), wr_11 hs12]
      show wp (if r.2.1 11 s = 0 then _ else _) _ _
      have nxt := ih (s + 1) f' (by omega) (by omega)
      rw [l_1, nn_add]
      rcases R.2.2.2.2.1 s hs12 with ⟨c1, c2⟩ | ⟨c1, b, c2, c3, c4⟩
      · rw [wp_pos c1]
        exact nxt
      · rw [wp_neg (by rw [c1]; decide), wr_15 hs12]
        show wp (if 0 ≤ r.2.1 15 s then _ else _) _ _
        rcases c3.2.2.1.2.2.2.2 with ⟨a1, a2⟩ | ⟨i, a0, a1, a2, a3⟩
        · rw [wp_neg (by rw [a2]; decide), wr_23 hs12]
          show wp (if lg_cmp (r.2.2 23 s) 0 < 0 then _ else _) _ _
          rcases (hq.2 s hs12 c1 a2).2 with z | ⟨n, z1, z2, z3⟩
          · rw [wp_pos (by rw [z, cmp_lt]; decide)]
            exact nxt
          · unfold bigT at z3
            rw [wp_neg (by rw [z1, cmp_lt, show (0 : Int64) = n6 0 from rfl, n6_lt (by omega) (by omega)]; omega), wr_23 hs12, wp_rI, e66]
            rw [wp_pos (by show 0 < lg_cmp (r.2.2 23 s) _; rw [z1, n6_nn (by omega), cmp_gt, n6_lt (by omega) (by omega)]; exact z2)]
            exact nxt
        · rw [wp_pos (by rw [a2]; exact nn_ge (by omega))]
          exact nxt
  have k2 : ∀ (c s f : Nat), s + c = 12 → c < f → wp (R_second_L111 (R_second_J170) f (nn s)) (sI r 66 (nn τ)) (fun _ r' => r' = sI r 66 (nn τ)) := by
    intro c
    induction c with
    | zero =>
      intro s f hs hf
      obtain ⟨f', rfl⟩ : ∃ z, f = z + 1 := ⟨f - 1, by omega⟩
      have : s = 12 := by omega
      subst this
      show wp (R_second_B111 _ _ (nn 12)) _ _
      unfold R_second_B111 R_second_J170
      rw [wp_pos (by decide)]
      exact k3 12 0 fu (by omega) (by unfold fu; omega)
    | succ c ih =>
      intro s f hs hf
      obtain ⟨f', rfl⟩ : ∃ z, f = z + 1 := ⟨f - 1, by omega⟩
      have hs12 : s < 12 := by omega
      show wp (R_second_B111 _ _ (nn s)) _ _
      unfold R_second_B111
      rw [wp_neg (by rw [show (12 : Int32) = nn 12 from rfl, nn_le (by omega) (by omega)]; omega), wr_11 hs12]
      show wp (if r.2.1 11 s = 0 then _ else _) _ _
      have nxt := ih (s + 1) f' (by omega) (by omega)
      rw [l_1, nn_add]
      rcases R.2.2.2.2.1 s hs12 with ⟨c1, c2⟩ | ⟨c1, b, c2, c3, c4⟩
      · rw [wp_pos c1]
        exact nxt
      · rw [wp_neg (by rw [c1]; decide), wr_15 hs12]
        show wp (if 0 ≤ r.2.1 15 s then _ else _) _ _
        rcases c3.2.2.1.2.2.2.2 with ⟨a1, a2⟩ | ⟨i, a0, a1, a2, a3⟩
        · rw [wp_neg (by rw [a2]; decide), wr_20 hs12]
          show wp (if r.2.1 20 s < 0 then _ else _) _ _
          by_cases g : r.2.1 20 s < 0
          · rw [wp_pos g]
            exact nxt
          · obtain ⟨n, z1, z2, z3⟩ := (hq.2 s hs12 c1 a2).1 (Int32.not_lt.mp g)
            unfold bigT at z3
            rw [wp_neg g, wr_22 hs12, wp_rI, e66]
            rw [wp_pos (by show 0 < lg_cmp (r.2.2 22 s) _; rw [z1, n6_nn (by omega), cmp_gt, n6_lt (by omega) (by omega)]; exact z2)]
            exact nxt
        · rw [wp_pos (by rw [a2]; exact nn_ge (by omega))]
          exact nxt
  have k1 : ∀ (c i f : Nat), i + c = 8 → c < f → wp (R_second_L12 (R_second_J109) f (nn i)) (sI r 66 (nn τ)) (fun _ r' => r' = sI r 66 (nn τ)) := by
    intro c
    induction c with
    | zero =>
      intro i f hi hf
      obtain ⟨f', rfl⟩ : ∃ z, f = z + 1 := ⟨f - 1, by omega⟩
      have : i = 8 := by omega
      subst this
      show wp (R_second_B12 _ _ (nn 8)) _ _
      unfold R_second_B12 R_second_J109
      rw [wp_pos (by decide)]
      exact k2 12 0 fu (by omega) (by unfold fu; omega)
    | succ c ih =>
      intro i f hi hf
      obtain ⟨f', rfl⟩ : ∃ z, f = z + 1 := ⟨f - 1, by omega⟩
      have hi8 : i < 8 := by omega
      show wp (R_second_B12 _ _ (nn i)) _ _
      unfold R_second_B12
      have nxt := ih (i + 1) f' (by omega) (by omega)
      rw [wp_neg (by rw [show (8 : Int32) = nn 8 from rfl, nn_le (by omega) (by omega)]; omega), wr_1 hi8]
      show wp (if r.2.1 1 i = 0 then _ else _) _ _
      rw [l_1, nn_add]
      by_cases g1 : r.2.1 1 i = 0
      · rw [wp_pos g1]
        exact nxt
      · rw [wp_neg g1, wr_7 hi8]
        show wp (if 0 ≤ r.2.1 7 i then _ else _) _ _
        rcases (R.2.2.2.1 i hi8).1.2.2.2 with ⟨a1, a2⟩ | ⟨s, b, a0, a1, a2, _⟩
        · rw [wp_neg (by rw [a1]; decide)]
          exact nxt
        · have e7 : (sI r 66 (nn τ)).2.1 7 i = nn s := a1
          rw [wp_pos (by rw [a1]; exact nn_ge (by omega)), wr_7 hi8, e7, wr_19 a0]
          show wp (if r.2.1 19 s = 0 then _ else _) _ _
          rcases hq.1 i hi8 s a0 a1 with z | ⟨k, l, z1, z2, z3, z4, z5, z6⟩
          · rw [wp_pos z]
            exact nxt
          · have e19 : (sI r 66 (nn τ)).2.1 19 s = nn k := z1
            have e8 : (sI r 66 (nn τ)).2.1 8 i = nn l := z4
            rw [wp_neg (by rw [z1]; exact fun y => by have := nn_inj (b := 0) (by omega) (by omega) y; omega), wp_rI, e66, wr_8 hi8, e8, e19]
            rw [wp_neg (by rw [nn_sub (by omega), n6_nn (by omega), n6_nn (by omega), show (2 : Int64) = n6 2 from rfl, show (3 : Int64) = n6 3 from rfl, n6_mul, n6_mul, cmp_gt, n6_lt (by omega) (by omega)]; omega)]
            exact nxt
  exact k1 8 0 fu (by omega) (by unfold fu; omega)
end TCK
