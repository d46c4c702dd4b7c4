/-! ===== a byte comes ===== -/
section ACC
variable {x i p n s b f ec es ew len b0 : Nat} {e0 : Int32} {h h0 : Hp} {r r0 : RS} {bs : List Nat}
def fv : Nat → Nat → List Nat → Nat
  | _, a, [] => a
  | k, a, b :: t => fv (k + 1) (a + (b % 128) * 128 ^ k) t
theorem vr_app : ∀ (t : List Nat) (k a : Nat), By t → b < 256 → vr k a t = none → vr k a (t ++ [b]) = if b < 128 then some (k + t.length + 1, fv k a (t ++ [b])) else none := by
  intro t
  induction t with
  | nil =>
    intro k a _ hb _
    show (if b < 128 then some (k + 1, a + b * 128 ^ k) else vr (k + 1) (a + (b - 128) * 128 ^ k) []) = _
    by_cases g : b < 128
    · rw [if_pos g, if_pos g]
      show _ = some (k + 0 + 1, a + (b % 128) * 128 ^ k)
      rw [Nat.mod_eq_of_lt g]
      rfl
    · rw [if_neg g, if_neg g]
      rfl
  | cons c t ih =>
    intro k a B hb hn
    have hc : c < 256 := B c (List.mem_cons_self ..)
    have B' : By t := fun z hz => B z (List.mem_cons_of_mem _ hz)
    have hn' : (if c < 128 then some (k + 1, a + c * 128 ^ k) else vr (k + 1) (a + (c - 128) * 128 ^ k) t) = none := hn
    by_cases g : c < 128
    · rw [if_pos g] at hn'
      cases hn'
    · rw [if_neg g] at hn'
      show (if c < 128 then some (k + 1, a + c * 128 ^ k) else vr (k + 1) (a + (c - 128) * 128 ^ k) (t ++ [b])) = _
      rw [if_neg g, ih (k + 1) _ B' hb hn']
      have e : fv k a (c :: t ++ [b]) = fv (k + 1) (a + (c - 128) * 128 ^ k) (t ++ [b]) := by
        show fv (k + 1) (a + (c % 128) * 128 ^ k) (t ++ [b]) = _
        rw [show c % 128 = c - 128 by omega]
      rw [e, List.length_cons, show k + 1 + t.length + 1 = k + (t.length + 1) + 1 by omega]
theorem vr_app2 {z : Nat × Nat} : ∀ (t : List Nat) (k a : Nat), vr k a t = some z → vr k a (t ++ [b]) = some z := by
  intro t
  induction t with
  | nil =>
    intro k a hn
    cases hn
  | cons c t ih =>
    intro k a hn
    have hn' : (if c < 128 then some (k + 1, a + c * 128 ^ k) else vr (k + 1) (a + (c - 128) * 128 ^ k) t) = some z := hn
    show (if c < 128 then some (k + 1, a + c * 128 ^ k) else vr (k + 1) (a + (c - 128) * 128 ^ k) (t ++ [b])) = some z
    by_cases g : c < 128
    · rw [if_pos g] at hn' ⊢
      exact hn'
    · rw [if_neg g] at hn' ⊢
      exact ih _ _ hn'
theorem vr_lt {v fo : Nat} : ∀ (t : List Nat) (k a : Nat), vr k a t = some (v, fo) → k < v ∧ v ≤ k + t.length := by
  intro t
  induction t with
  | nil =>
    intro k a hn
    cases hn
  | cons c t ih =>
    intro k a hn
    have hn' : (if c < 128 then some (k + 1, a + c * 128 ^ k) else vr (k + 1) (a + (c - 128) * 128 ^ k) t) = some (v, fo) := hn
    rw [List.length_cons]
    by_cases g : c < 128
    · rw [if_pos g] at hn'
      cases hn'
      omega
    · rw [if_neg g] at hn'
      have := ih _ _ hn'
      omega
theorem p7 {k : Nat} : 128 ^ k = 2 ^ (7 * k) := by
  rw [Nat.pow_mul]
theorem vst {k a c : Nat} (hk : k < 4) (ha : a < 128 ^ k) : a + (c % 128) * 128 ^ k < 128 ^ (k + 1) ∧ 128 ^ (k + 1) ≤ 268435456 := by
  rw [p7] at ha
  rw [p7, p7, Nat.mul_comm (c % 128)]
  exact vstep hk (by omega) ha
/-- the class's value of the bytes behind the first -/
theorem fo_loop (T : Stat x h) (hi : i < 8) : ∀ (t : List Nat) (k a m : Nat), hfi h 208 (cA x i) = nn (1 + k + t.length) → k + t.length ≤ 4 → a < 128 ^ k → Cg (hai h (cA x i + 2)) (1 + k) t → t.length < m → C_X0_following_L4 (cA x i) (fun l1 => C_X0_following_J42 (cA x i) l1) m (nn a) (nn (1 + k)) h = some (nn (fv k a t), h) := by
  obtain ⟨c1, c2, c3, c4⟩ := T.pk hi
  intro t
  induction t with
  | nil =>
    intro k a m h8 _ _ _ hm
    obtain ⟨m', rfl⟩ : ∃ z, m = z + 1 := ⟨m - 1, by omega⟩
    have h8' : hfi h (100 * 2 + 8) (cA x i) = nn (1 + k) := h8
    show C_X0_following_B4 (cA x i) _ _ (nn a) (nn (1 + k)) h = _
    unfold C_X0_following_B4
    rw [e_gI c1, h8', if_pos (Int32.le_refl _)]
    rfl
  | cons c t ih =>
    intro k a m h8 hk ha hC hm
    rw [List.length_cons] at h8 hk hm
    obtain ⟨m', rfl⟩ : ∃ z, m = z + 1 := ⟨m - 1, by omega⟩
    have h8' : hfi h (100 * 2 + 8) (cA x i) = nn (1 + k + (t.length + 1)) := h8
    have hc : hai h (cA x i + 2) (1 + k) = nn c := hC 0 (by rw [List.length_cons]; omega)
    have q1 := vst (c := c) (show k < 4 by omega) ha
    have ha' := ha
    rw [p7] at ha'
    have es : nn (1 + k) - (1 : Int32) = nn k := by
      rw [show (1 : Int32) = nn 1 from rfl, nn_sub (by omega), Nat.add_sub_cancel_left]
    sorry
end ACC
