/-! ===== the first that waits is taken out ===== -/
section UNQ
variable {x ec es ew s b n : Nat} {e0 : Int32} {h : Hp} {r : RS}
def unqH (h : Hp) (b n : Nat) : Hp := sar (sfi h 1008 b (nn (n - 1))) (b + 3) (disF (har h (b + 3)) 0 (n - 1))
theorem unqH.fm (hb : x + 130 ≤ b) : Fm x [1008] (fun a => a = b + 3) h (unqH h b n) := (Fm.rf.fi (Or.inl (by decide)) (Or.inl (by decide))).ar (Or.inl rfl) (by omega)
theorem unqH.hx (hb : x + 130 ≤ b) : Hx x b 8 h (unqH h b n) := (Hx.rf.fi (Or.inl (Or.inl ⟨rfl, by omega, by omega⟩)) (Or.inl (by decide))).ar (Or.inl (Or.inl ⟨by omega, by omega⟩)) (by omega)
theorem qc_unqueue (T : SesT x h s b) (hn : hfi h 1008 b = nn n) (hn1 : 1 ≤ n) (hn2 : n ≤ 24) (hk : ∀ k, k < n → ∃ d, har h (b + 3) k = some d ∧ hkd h d = 4) : C_X8_unqueue b h = some (har h (b + 3) 0, unqH h b n) := by
  obtain ⟨t1, t2, t3, t4, t5, t6, ⟨t7, t8, t9⟩, t10⟩ := T
  have e8 : hfi h (100 * 10 + 8) b = nn n := hn
  have t7' : hfr h (100 * 10 + 7) b = some (b + 3) := t7
  have hh : wp (C_X8_unqueue b) h (fun v h' => v = har h (b + 3) 0 ∧ h' = unqH h b n) := by
    unfold C_X8_unqueue
    rw [wp_gI t1, e8, wp_neg (nn_ne0 (by omega) (by omega)), wp_gR t1, t7', show (0 : Int32) = nn 0 from rfl, wn_Ar (t := 7) t8 (by rw [t9]; omega) (by omega), wp_gI t1, e8, wp_pI t1, l_1, nn_sub hn1]
    have key : ∀ (c i f : Nat), i + c = n - 1 → c < f → wp (C_X8_unqueue_L28 b (fun l1 => C_X8_unqueue_J56 b l1) f (har h (b + 3) 0) (nn i)) (sar (sfi h 1008 b (nn (n - 1))) (b + 3) (disF (har h (b + 3)) 0 i)) (fun v h' => v = har h (b + 3) 0 ∧ h' = unqH h b n) := by
      intro c
      induction c with
      | zero =>
        intro i f hi hf
        obtain ⟨f', rfl⟩ : ∃ z, f = z + 1 := ⟨f - 1, by omega⟩
        have ei : i = n - 1 := by omega
        subst ei
        show wp (C_X8_unqueue_B28 b _ _ _ (nn (n - 1))) _ _
        unfold C_X8_unqueue_B28 C_X8_unqueue_J56
        have e1 : hfi (sar (sfi h 1008 b (nn (n - 1))) (b + 3) (disF (har h (b + 3)) 0 (n - 1))) (100 * 10 + 8) b = nn (n - 1) := by
          rw [hfi_sar, show 100 * 10 + 8 = 1008 from rfl, hfi_sfi, if_pos ⟨rfl, rfl⟩]
        rw [wp_gI (by exact t1), e1, wp_pos (by rw [nn_le (by omega) (by omega)]; omega)]
        dsimp only
        rw [wp_rt]
        exact ⟨rfl, rfl⟩
      | succ c ih =>
        intro i f hi hf
        obtain ⟨f', rfl⟩ : ∃ z, f = z + 1 := ⟨f - 1, by omega⟩
        obtain ⟨e, e1, e2⟩ := hk (i + 1) (by omega)
        have eA : har (sar (sfi h 1008 b (nn (n - 1))) (b + 3) (disF (har h (b + 3)) 0 i)) (b + 3) = disF (har h (b + 3)) 0 i := by rw [har_sar, if_pos rfl]
        have eF : disF (har h (b + 3)) 0 i (i + 1) = some e := by
          unfold disF
          rw [if_neg (by omega)]
          exact e1
        show wp (C_X8_unqueue_B28 b _ _ _ (nn i)) _ _
        unfold C_X8_unqueue_B28
        have e3 : hfi (sar (sfi h 1008 b (nn (n - 1))) (b + 3) (disF (har h (b + 3)) 0 i)) (100 * 10 + 8) b = nn (n - 1) := by
          rw [hfi_sar, show 100 * 10 + 8 = 1008 from rfl, hfi_sfi, if_pos ⟨rfl, rfl⟩]
        have e7 : hfr (sar (sfi h 1008 b (nn (n - 1))) (b + 3) (disF (har h (b + 3)) 0 i)) (100 * 10 + 7) b = some (b + 3) := t7
        rw [wp_gI (by exact t1), e3, wp_neg (by rw [nn_le (by omega) (by omega)]; omega), wp_gR (by exact t1), wp_gR (by exact t1), e7, l_1, nn_add, wn_Ar (t := 7) (by exact t8) (by show i + 1 < hln h (b + 3); rw [t9]; omega) (by omega), eA, eF, wn_Wr1 (by exact t8) (by show i < hln h (b + 3); rw [t9]; omega) (by omega) (by exact e2), eA, sar_sar]
        have eq2 : disF (har h (b + 3)) 0 (i + 1) = va_up (disF (har h (b + 3)) 0 i) i (some e) := by
          funext o
          show _ = if o = i then some e else disF (har h (b + 3)) 0 i o
          unfold disF
          by_cases g : o = i
          · rw [if_pos g, if_pos (by omega), g]
            exact e1
          · rw [if_neg g]
            by_cases g2 : 0 ≤ o ∧ o < i
            · rw [if_pos (by omega), if_pos g2]
            · rw [if_neg (by omega), if_neg g2]
        rw [← eq2]
        exact ih (i + 1) f' (by omega) (by omega)
    have e0 : disF (har h (b + 3)) 0 0 = har h (b + 3) := by
      funext o
      unfold disF
      rw [if_neg (by omega)]
    have := key (n - 1) 0 fu (by omega) (by unfold fu; omega)
    rw [e0] at this
    have es' : sar (sfi h 1008 b (nn (n - 1))) (b + 3) (har h (b + 3)) = sfi h 1008 b (nn (n - 1)) := by
      have : har h (b + 3) = har (sfi h 1008 b (nn (n - 1))) (b + 3) := rfl
      rw [this]
      exact sar_self
    rw [es'] at this
    exact this
  obtain ⟨v, h', e1, e2, e3⟩ := hh
  rw [e1, e2, e3]
theorem x_rA {α : Type} {k i L : Nat} {g : Int32 → RS → Option (α × RS)} (hm : mL k = L) (hi : i < L) (hb : i < 2147483648) : rA k (nn i) g r = g (r.2.1 k i) r := by
  unfold rA
  rw [if_pos (nn_inr (by rw [hm]; exact hi) hb), nn_N hb]
theorem x_wA {α : Type} {k i L : Nat} {v : Int32} {P : RS → Option (α × RS)} (hm : mL k = L) (hi : i < L) (hb : i < 2147483648) : wA k (nn i) v P r = P (sA r k i v) := by
  unfold wA
  rw [if_pos (nn_inr (by rw [hm]; exact hi) hb), nn_N hb]
/-- what the model's shift leaves -/
def UnM (s n : Nat) (r r' : RS) : Prop := Ho s 8 r r' ∧ Ro [38, 39, 40, 41, 42] r r' ∧ r'.2.1 38 s = nn (n - 1) ∧ ∀ k, k < n - 1 → ∀ f ∈ [39, 40, 41, 42], r'.2.1 f (24 * s + k) = r.2.1 f (24 * s + (k + 1))
theorem qm_unq (hs : s < 12) (hn1 : 1 ≤ n) (hn2 : n ≤ 24) {ke : Int32 → Int32 → Int32 → Int32 → Int32 → RS → Option (Unit × RS)} {v1 v2 v3 v4 : Int32} : ∃ r', R_pump_L75 ke fu (nn s) (nn (24 * s)) v1 v2 v3 v4 (nn (24 * s)) (sA r 38 s (nn (n - 1))) = ke (nn s) v1 v2 v3 v4 r' ∧ UnM s n r r' := by
  have key : ∀ (c k f : Nat) (r1 : RS), k + c = n - 1 → c < f → Ho s 8 r r1 → Ro [38, 39, 40, 41, 42] r r1 → r1.2.1 38 s = nn (n - 1) → (∀ k', k' < k → ∀ f ∈ [39, 40, 41, 42], r1.2.1 f (24 * s + k') = r.2.1 f (24 * s + (k' + 1))) → (∀ k', k ≤ k' → ∀ f ∈ [39, 40, 41, 42], r1.2.1 f (24 * s + k') = r.2.1 f (24 * s + k')) → ∃ r', R_pump_L75 ke f (nn s) (nn (24 * s)) v1 v2 v3 v4 (nn (24 * s + k)) r1 = ke (nn s) v1 v2 v3 v4 r' ∧ UnM s n r r' := by
    intro c
    induction c with
    | zero =>
      intro k f r1 hk hf w1 w2 h38 h1 h2
      obtain ⟨f', rfl⟩ : ∃ z, f = z + 1 := ⟨f - 1, by omega⟩
      refine ⟨r1, ?_, w1, w2, h38, fun k' hk' => h1 k' (by omega)⟩
      show R_pump_B75 _ ke (nn s) (nn (24 * s)) v1 v2 v3 v4 (nn (24 * s + k)) r1 = _
      unfold R_pump_B75
      rw [x_rA mL_38 hs (by omega), h38, nn_add, if_pos (by rw [nn_le (by omega) (by omega)]; omega)]
    | succ c ih =>
      intro k f r1 hk hf w1 w2 h38 h1 h2
      obtain ⟨f', rfl⟩ : ∃ z, f = z + 1 := ⟨f - 1, by omega⟩
      have e : ∃ r2, R_pump_L75 ke (f' + 1) (nn s) (nn (24 * s)) v1 v2 v3 v4 (nn (24 * s + k)) r1 = R_pump_L75 ke f' (nn s) (nn (24 * s)) v1 v2 v3 v4 (nn (24 * s + (k + 1))) r2 ∧ r2 = sA (sA (sA (sA r1 39 (24 * s + k) (r1.2.1 39 (24 * s + k + 1))) 40 (24 * s + k) (r1.2.1 40 (24 * s + k + 1))) 41 (24 * s + k) (r1.2.1 41 (24 * s + k + 1))) 42 (24 * s + k) (r1.2.1 42 (24 * s + k + 1)) := by
        refine ⟨_, ?_, rfl⟩
        show R_pump_B75 _ ke (nn s) (nn (24 * s)) v1 v2 v3 v4 (nn (24 * s + k)) r1 = _
        unfold R_pump_B75
        rw [x_rA mL_38 hs (by omega), h38, nn_add, if_neg (by rw [nn_le (by omega) (by omega)]; omega), l_1, nn_add, x_rA mL_39 (by omega) (by omega), x_wA mL_39 (by omega) (by omega), x_rA mL_40 (by omega) (by omega), x_wA mL_40 (by omega) (by omega), x_rA mL_41 (by omega) (by omega), x_wA mL_41 (by omega) (by omega), x_rA mL_42 (by omega) (by omega), x_wA mL_42 (by omega) (by omega), sA_o (by decide), sA_o (by decide), sA_o (by decide), sA_o (by decide), sA_o (by decide), sA_o (by decide)]
        rfl
      obtain ⟨r2, e1, e2⟩ := e
      rw [e1]
      have pm : ∀ f, 39 ≤ f → f ≤ 42 → Pm s 8 f (24 * s + k) := fun f g1 g2 => Or.inr (Or.inl ⟨by omega, by omega, by
        unfold ow
        rw [if_neg (by omega), if_neg (by omega), if_neg (by omega), if_neg (by omega), if_pos (by omega)]
        omega⟩)
      have rd : ∀ f ∈ [39, 40, 41, 42], ∀ q, r2.2.1 f q = if q = 24 * s + k then r1.2.1 f (24 * s + k + 1) else r1.2.1 f q := by
        intro f hf q
        simp only [List.mem_cons, List.not_mem_nil, or_false] at hf
        rw [e2]
        rcases hf with g | g | g | g <;> subst g
        · rw [sA_o (by decide), sA_o (by decide), sA_o (by decide), sA_2]
          by_cases z : q = 24 * s + k
          · rw [if_pos ⟨rfl, z⟩, if_pos z]
          · rw [if_neg (fun y => z y.2), if_neg z]
        · rw [sA_o (by decide), sA_o (by decide), sA_2]
          by_cases z : q = 24 * s + k
          · rw [if_pos ⟨rfl, z⟩, if_pos z]
          · rw [if_neg (fun y => z y.2), if_neg z, sA_o (by decide)]
        · rw [sA_o (by decide), sA_2]
          by_cases z : q = 24 * s + k
          · rw [if_pos ⟨rfl, z⟩, if_pos z]
          · rw [if_neg (fun y => z y.2), if_neg z, sA_o (by decide), sA_o (by decide)]
        · rw [sA_2]
          by_cases z : q = 24 * s + k
          · rw [if_pos ⟨rfl, z⟩, if_pos z]
          · rw [if_neg (fun y => z y.2), if_neg z, sA_o (by decide), sA_o (by decide), sA_o (by decide)]
      refine ih (k + 1) f' r2 (by omega) (by omega) ?_ ?_ ?_ ?_ ?_
      · rw [e2]
        exact (((w1.a (pm 39 (by omega) (by omega))).a (pm 40 (by omega) (by omega))).a (pm 41 (by omega) (by omega))).a (pm 42 (by omega) (by omega))
      · rw [e2]
        exact (((w2.a (by decide)).a (by decide)).a (by decide)).a (by decide)
      · rw [e2, sA_o (by decide), sA_o (by decide), sA_o (by decide), sA_o (by decide)]
        exact h38
      · intro k' hk' f hf
        rw [rd f hf]
        by_cases z : k' = k
        · rw [if_pos (by omega), z]
          exact h2 (k + 1) (by omega) f hf
        · rw [if_neg (by omega)]
          exact h1 k' (by omega) f hf
      · intro k' hk' f hf
        rw [rd f hf, if_neg (by omega)]
        exact h2 k' (by omega) f hf
  have := key (n - 1) 0 fu (sA r 38 s (nn (n - 1))) (by omega) (by unfold fu; omega) (Ho.rf.a (Or.inr (Or.inl ⟨by omega, by omega, by unfold ow; rw [if_neg (by omega), if_neg (by omega), if_neg (by omega), if_neg (by omega), if_neg (by omega)]⟩))) (Ro.rf.a (by decide)) (by rw [sA_2, if_pos ⟨rfl, rfl⟩]) (fun k' hk' => by omega) (fun k' _ f hf => by
    simp only [List.mem_cons, List.not_mem_nil, or_false] at hf
    rw [sA_o (by omega)])
  exact this
end UNQ
