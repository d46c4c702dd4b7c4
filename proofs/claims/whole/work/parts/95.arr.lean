/-! ===== something is no more on the way: the class ===== -/
theorem sar_sar {h : Hp} {a : Nat} {F G : Nat → Option Nat} : sar (sar h a F) a G = sar h a G := by
  unfold sar
  simp only [Prod.mk.injEq, true_and, and_true]
  funext y
  show (if y = a then G else if y = a then F else _) = if y = a then G else _
  by_cases e : y = a
  · rw [if_pos e, if_pos e]
  · rw [if_neg e, if_neg e, if_neg e]
theorem sar_self {h : Hp} {a : Nat} : sar h a (har h a) = h := by
  unfold sar
  have e : u1 h.2.2.2.2.2.2.2.2.1 a (har h a) = h.2.2.2.2.2.2.2.2.1 := by
    funext y
    show (if y = a then har h a else _) = _
    by_cases e : y = a
    · rw [if_pos e, e]; rfl
    · rw [if_neg e]
  rw [e]
def arF (f : Nat → Option Nat) (k0 i : Nat) : Nat → Option Nat := fun o => if k0 < i ∧ k0 ≤ o ∧ o + 1 < i then f (o + 1) else f o
section ARR
variable {x s b d : Nat} {h : Hp}
theorem qc_arrive {n k0 : Nat} (T : SesT x h s b) (hn : hfi h 1006 b = nn n) (hn2 : n ≤ 16) (hk : ∀ k, k < n → ∃ e, har h (b + 2) k = some e ∧ hkd h e = 4) (h0 : k0 ≤ n) (h1 : k0 < n → har h (b + 2) k0 = some d) (h2 : ∀ k, k < n → k ≠ k0 → har h (b + 2) k ≠ some d) :
    wp (C_X8_arrive b (some d)) h (fun _ h' => h' = sfi (sar h (b + 2) (arF (har h (b + 2)) k0 n)) 1006 b (nn (if k0 < n then n - 1 else n))) := by
  obtain ⟨t1, t2, t3, t4, t5, t6, t7, t8⟩ := T
  unfold C_X8_arrive
  have key : ∀ (m i f : Nat), i + m = n → m < f → wp (C_X8_arrive_L4 b (fun l2 => C_X8_arrive_J43 b l2) f (some d) (nn (if k0 < i then i - 1 else i)) (nn i)) (sar h (b + 2) (arF (har h (b + 2)) k0 i)) (fun _ h' => h' = sfi (sar h (b + 2) (arF (har h (b + 2)) k0 n)) 1006 b (nn (if k0 < n then n - 1 else n))) := by
    intro m
    induction m with
    | zero =>
      intro i f hi hf
      obtain ⟨f', rfl⟩ : ∃ z, f = z + 1 := ⟨f - 1, by omega⟩
      have e : i = n := by omega
      subst e
      show wp (C_X8_arrive_B4 b _ _ (some d) _ (nn i)) _ _
      unfold C_X8_arrive_B4
      rw [wp_gI (by exact t1)]
      show wp (if hfi h 1006 b ≤ nn i then _ else _) _ _
      rw [hn, wp_pos (by rw [nn_le (by omega) (by omega)]; omega)]
      unfold C_X8_arrive_J43
      dsimp only
      rw [wp_pI (by exact t1), wp_rt]
    | succ m ih =>
      intro i f hi hf
      obtain ⟨f', rfl⟩ : ∃ z, f = z + 1 := ⟨f - 1, by omega⟩
      obtain ⟨e, e1, e2⟩ := hk i (by omega)
      have eF : arF (har h (b + 2)) k0 i i = some e := by
        unfold arF
        rw [if_neg (by omega)]
        exact e1
      have eA : har (sar h (b + 2) (arF (har h (b + 2)) k0 i)) (b + 2) = arF (har h (b + 2)) k0 i := by rw [har_sar, if_pos rfl]
      show wp (C_X8_arrive_B4 b _ _ (some d) _ (nn i)) _ _
      unfold C_X8_arrive_B4
      rw [wp_gI (by exact t1)]
      show wp (if hfi h 1006 b ≤ nn i then _ else _) _ _
      rw [hn, wp_neg (by rw [nn_le (by omega) (by omega)]; omega), wp_gR (by exact t1)]
      show wp (hAr 7 (hfr h 1005 b) (nn i) _) _ _
      rw [t6.1, wn_Ar (by exact t6.2.1) (by show i < hln h (b + 2); rw [t6.2.2]; omega) (by omega), eA, eF]
      by_cases g : i = k0
      · have hd : some e = some d := by rw [← e1, g]; exact h1 (by omega)
        rw [wp_pos hd]
        show wp (C_X8_arrive_L4 b _ f' (some d) _ (nn i + 1)) _ _
        rw [l_1, nn_add]
        have ih' := ih (i + 1) f' (by omega) (by omega)
        have eq1 : (if k0 < i + 1 then i + 1 - 1 else i + 1) = (if k0 < i then i - 1 else i) := by
          rw [if_pos (by omega), if_neg (by omega)]
          omega
        have eq2 : arF (har h (b + 2)) k0 (i + 1) = arF (har h (b + 2)) k0 i := by
          funext o
          unfold arF
          rw [if_neg (by omega), if_neg (by omega)]
        rw [eq1, eq2] at ih'
        exact ih'
      · rw [wp_neg (fun z => h2 i (by omega) g (by rw [e1]; exact z)), wp_gR (by exact t1), wp_gR (by exact t1)]
        show wp (hAr 7 (hfr h 1005 b) (nn i) (fun v6 => hWr 7 3 (hfr h 1005 b) (nn (if k0 < i then i - 1 else i)) v6 <| _)) _ _
        rw [t6.1, wn_Ar (by exact t6.2.1) (by show i < hln h (b + 2); rw [t6.2.2]; omega) (by omega), eA, eF, wn_Wr1 (by exact t6.2.1) (by show _ < hln h (b + 2); rw [t6.2.2]; split <;> omega) (by split <;> omega) (by exact e2), eA, sar_sar]
        show wp (C_X8_arrive_L4 b _ f' (some d) (nn (if k0 < i then i - 1 else i) + 1) (nn i + 1)) _ _
        rw [l_1, nn_add, nn_add]
        have ih' := ih (i + 1) f' (by omega) (by omega)
        have eq1 : (if k0 < i + 1 then i + 1 - 1 else i + 1) = (if k0 < i then i - 1 else i) + 1 := by
          by_cases g2 : k0 < i
          · rw [if_pos (by omega), if_pos g2]; omega
          · rw [if_neg (by omega), if_neg g2]
        have eq2 : arF (har h (b + 2)) k0 (i + 1) = va_up (arF (har h (b + 2)) k0 i) (if k0 < i then i - 1 else i) (some e) := by
          funext o
          show _ = if o = (if k0 < i then i - 1 else i) then some e else arF (har h (b + 2)) k0 i o
          by_cases g2 : k0 < i
          · rw [if_pos g2]
            by_cases g3 : o = i - 1
            · rw [if_pos g3]
              unfold arF
              rw [if_pos (by omega), g3, Nat.sub_add_cancel (by omega)]
              exact e1
            · rw [if_neg g3]
              unfold arF
              by_cases g4 : k0 ≤ o ∧ o + 1 < i
              · rw [if_pos (by omega), if_pos (by omega)]
              · rw [if_neg (by omega), if_neg (by omega)]
          · rw [if_neg g2]
            by_cases g3 : o = i
            · rw [if_pos g3]
              unfold arF
              rw [if_neg (by omega), g3]
              exact e1
            · rw [if_neg g3]
              unfold arF
              rw [if_neg (by omega), if_neg (by omega)]
        rw [eq1, eq2] at ih'
        exact ih'
  have k := key n 0 fu (by omega) (by unfold fu; omega)
  have e0 : arF (har h (b + 2)) k0 0 = har h (b + 2) := by
    funext o
    unfold arF
    rw [if_neg (by omega)]
  rw [e0, sar_self, if_neg (by omega)] at k
  exact k
end ARR
