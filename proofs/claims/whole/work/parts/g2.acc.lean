/-! ===== a byte comes ===== -/
section ACC
variable {x i p n s b f ec es ew len b0 : Nat} {e0 : Int32} {h h0 : Hp} {r r0 : RS} {bs : List Nat}
def fv : Nat → Nat → List Nat → Nat
  | _, a, [] => a
  | k, a, b :: t => fv (k + 1) (a + (b % 128) * 128 ^ k) t
theorem vr_app : ∀ (t : List Nat) (k a : Nat), By t → b < 256 → vr k a t = none → vr k a (t ++ [b]) = if b < 128 then some (k + t.length + 1, fv k a (t ++ [b])) else none := by
  intro t
  induction t with
  | nil =>
    intro k a _ hb _
    show (if b < 128 then some (k + 1, a + b * 128 ^ k) else vr (k + 1) (a + (b - 128) * 128 ^ k) []) = _
    by_cases g : b < 128
    · rw [if_pos g, if_pos g]
      show _ = some (k + 0 + 1, a + (b % 128) * 128 ^ k)
      rw [Nat.mod_eq_of_lt g]
    · rw [if_neg g, if_neg g]
      rfl
  | cons c t ih =>
    intro k a B hb hn
    have hc : c < 256 := B c (List.mem_cons_self ..)
    have B' : By t := fun z hz => B z (List.mem_cons_of_mem _ hz)
    have hn' : (if c < 128 then some (k + 1, a + c * 128 ^ k) else vr (k + 1) (a + (c - 128) * 128 ^ k) t) = none := hn
    by_cases g : c < 128
    · rw [if_pos g] at hn'
      cases hn'
    · rw [if_neg g] at hn'
      show (if c < 128 then some (k + 1, a + c * 128 ^ k) else vr (k + 1) (a + (c - 128) * 128 ^ k) (t ++ [b])) = _
      rw [if_neg g, ih (k + 1) _ B' hb hn']
      have e : fv k a (c :: t ++ [b]) = fv (k + 1) (a + (c - 128) * 128 ^ k) (t ++ [b]) := by
        show fv (k + 1) (a + (c % 128) * 128 ^ k) (t ++ [b]) = _
        rw [show c % 128 = c - 128 by omega]
      rw [e, List.length_cons, show k + 1 + t.length + 1 = k + (t.length + 1) + 1 by omega]
theorem vr_app2 {z : Nat × Nat} : ∀ (t : List Nat) (k a : Nat), vr k a t = some z → vr k a (t ++ [b]) = some z := by
  intro t
  induction t with
  | nil =>
    intro k a hn
    cases hn
  | cons c t ih =>
    intro k a hn
    have hn' : (if c < 128 then some (k + 1, a + c * 128 ^ k) else vr (k + 1) (a + (c - 128) * 128 ^ k) t) = some z := hn
    show (if c < 128 then some (k + 1, a + c * 128 ^ k) else vr (k + 1) (a + (c - 128) * 128 ^ k) (t ++ [b])) = some z
    by_cases g : c < 128
    · rw [if_pos g] at hn' ⊢
      exact hn'
    · rw [if_neg g] at hn' ⊢
      exact ih _ _ hn'
theorem vr_lt {v fo : Nat} : ∀ (t : List Nat) (k a : Nat), vr k a t = some (v, fo) → k < v ∧ v ≤ k + t.length := by
  intro t
  induction t with
  | nil =>
    intro k a hn
    cases hn
  | cons c t ih =>
    intro k a hn
    have hn' : (if c < 128 then some (k + 1, a + c * 128 ^ k) else vr (k + 1) (a + (c - 128) * 128 ^ k) t) = some (v, fo) := hn
    rw [List.length_cons]
    by_cases g : c < 128
    · rw [if_pos g] at hn'
      cases hn'
      omega
    · rw [if_neg g] at hn'
      have := ih _ _ hn'
      omega
theorem p7 {k : Nat} : 128 ^ k = 2 ^ (7 * k) := by
  rw [Nat.pow_mul]
theorem vst {k a c : Nat} (hk : k < 4) (ha : a < 128 ^ k) : a + (c % 128) * 128 ^ k < 128 ^ (k + 1) ∧ 128 ^ (k + 1) ≤ 268435456 := by
  rw [p7] at ha
  rw [p7, p7, Nat.mul_comm (c % 128)]
  exact vstep hk (by omega) ha
/-- the class's value of the bytes behind the first -/
theorem fo_loop (T : Stat x h) (hi : i < 8) : ∀ (t : List Nat) (k a m : Nat), hfi h 208 (cA x i) = nn (1 + k + t.length) → k + t.length ≤ 4 → a < 128 ^ k → Cg (hai h (cA x i + 2)) (1 + k) t → (∀ z ∈ t, z < 2147483648) → t.length < m → C_X0_following_L4 (cA x i) (fun l1 => C_X0_following_J42 (cA x i) l1) m (nn a) (nn (1 + k)) h = some (nn (fv k a t), h) := by
  obtain ⟨c1, c2, c3, c4⟩ := T.pk hi
  intro t
  induction t with
  | nil =>
    intro k a m h8 _ _ _ _ hm
    obtain ⟨m', rfl⟩ : ∃ z, m = z + 1 := ⟨m - 1, by omega⟩
    have h8' : hfi h (100 * 2 + 8) (cA x i) = nn (1 + k) := h8
    show C_X0_following_B4 (cA x i) _ _ (nn a) (nn (1 + k)) h = _
    unfold C_X0_following_B4
    rw [e_gI c1, h8', if_pos (Int32.le_refl _)]
    rfl
  | cons c t ih =>
    intro k a m h8 hk ha hC hcb hm
    rw [List.length_cons] at h8 hk hm
    obtain ⟨m', rfl⟩ : ∃ z, m = z + 1 := ⟨m - 1, by omega⟩
    have h8' : hfi h (100 * 2 + 8) (cA x i) = nn (1 + k + (t.length + 1)) := h8
    have hc : hai h (cA x i + 2) (1 + k) = nn c := hC 0 (by rw [List.length_cons]; omega)
    have q1 := vst (c := c) (show k < 4 by omega) ha
    have ha' := ha
    rw [p7] at ha'
    have es : nn (1 + k) - (1 : Int32) = nn k := by
      rw [show (1 : Int32) = nn 1 from rfl, nn_sub (by omega), Nat.add_sub_cancel_left]
    have l1 : ¬ nn (1 + k + (t.length + 1)) ≤ nn (1 + k) := by
      rw [nn_le (by omega) (by omega)]
      omega
    have l2 : ¬ (5 : Int32) ≤ nn (1 + k) := by
      rw [show (5 : Int32) = nn 5 from rfl, nn_le (by omega) (by omega)]
      omega
    show C_X0_following_B4 (cA x i) _ _ (nn a) (nn (1 + k)) h = _
    unfold C_X0_following_B4 lq
    rw [e_gI c1, h8', if_neg l1, if_neg l2, e_gR c1, c2, e_Ai c3 (nn_inr (by omega) (by omega)), nn_N (by omega), hc]
    dsimp only
    have ev : nn a ||| ((nn c &&& (127 : Int32)) <<< (((7 : Int32) * (nn (1 + k) - (1 : Int32))) &&& 31)) = nn (a + (c % 128) * 128 ^ k) := by
      rw [es, and127 (hcb c (List.mem_cons_self ..)), nn_shl7 (by omega) (by omega), nn_ro _ ha' (by rw [Nat.add_comm]; have := vstep (a := c % 128) (show k < 4 by omega) (by omega) ha'; omega), Nat.mul_comm, p7]
    rw [ev, show (1 : Int32) = nn 1 from rfl, nn_add, show 1 + k + 1 = 1 + (k + 1) by omega]
    refine ih (k + 1) _ m' (by rw [h8]; congr 1; omega) (by omega) q1.1 (fun j hj => ?_) (fun z hz => hcb z (List.mem_cons_of_mem _ hz)) (by omega)
    have := hC (j + 1) (by rw [List.length_cons]; omega)
    rw [show 1 + k + (j + 1) = 1 + (k + 1) + j by omega] at this
    exact this
theorem vr_l {v fo c : Nat} {t : List Nat} {k a : Nat} (z : vr k a (c :: t) = some (v, fo)) (g : c < 128) : v = k + 1 ∧ fo = a + c * 128 ^ k := by
  have z' : (if c < 128 then some (k + 1, a + c * 128 ^ k) else vr (k + 1) (a + (c - 128) * 128 ^ k) t) = some (v, fo) := z
  rw [if_pos g] at z'
  cases z'
  exact ⟨rfl, rfl⟩
/-- the model's look at the bytes behind the first -/
theorem look_loop {ke : Int32 → Int32 → Int64 → Int32 → Int32 → RS → Option (Int32 × RS)} (hi : i < 8) : ∀ (t : List Nat) (k a m : Nat), r.2.1 5 i = nn (1 + k + t.length) → k + t.length ≤ 405 → a < 128 ^ k → Mg (r.2.1 6) (410 * i + 1 + k) t → By t → t.length + 1 < m →
    (vr k a t = none → k + t.length ≤ 4 → ∃ a', R_look_L14 ke m (nn i) (nn (410 * i)) (n6 a) (nn k) 0 r = ke (nn i) (nn (410 * i)) (n6 a') (nn (k + t.length)) 0 r) ∧ (∀ v fo, vr k a t = some (v, fo) → v ≤ 4 → R_look_L14 ke m (nn i) (nn (410 * i)) (n6 a) (nn k) 0 r = ke (nn i) (nn (410 * i)) (n6 fo) (nn v) 1 r) := by
  intro t
  induction t with
  | nil =>
    intro k a m h5 _ _ _ _ hm
    obtain ⟨m', rfl⟩ : ∃ z, m = z + 1 := ⟨m - 1, by omega⟩
    refine ⟨fun _ hk => ⟨a, ?_⟩, fun v fo z => by cases z⟩
    have h5' : r.2.1 5 i = nn (1 + k) := h5
    show R_look_B14 _ ke (nn i) (nn (410 * i)) (n6 a) (nn k) 0 r = _
    unfold R_look_B14
    by_cases g : k = 4
    · rw [if_pos (by rw [g]; decide)]
      rfl
    · rw [if_neg (by rw [show (4 : Int32) = nn 4 from rfl, nn_le (by omega) (by omega)]; omega), x_rA mL_5 hi (by omega), h5', show (1 : Int32) = nn 1 from rfl, nn_add, if_pos (Int32.le_refl _)]
      rfl
  | cons c t ih =>
    intro k a m h5 hk ha hM B hm
    rw [List.length_cons] at h5 hk hm
    obtain ⟨m', rfl⟩ : ∃ z, m = z + 1 := ⟨m - 1, by omega⟩
    have hc : c < 256 := B c (List.mem_cons_self ..)
    have B' : By t := fun z hz => B z (List.mem_cons_of_mem _ hz)
    have hcm : r.2.1 6 (410 * i + 1 + k) = sb c := hM 0 (by rw [List.length_cons]; omega)
    have step : k < 4 → R_look_L14 ke (m' + 1) (nn i) (nn (410 * i)) (n6 a) (nn k) 0 r = (if c < 128 then R_look_L14 ke m' (nn i) (nn (410 * i)) (n6 (a + (c % 128) * 128 ^ k)) (nn (k + 1)) 1 r else R_look_L14 ke m' (nn i) (nn (410 * i)) (n6 (a + (c % 128) * 128 ^ k)) (nn (k + 1)) 0 r) := fun k4 => by
      have ha' := ha
      rw [p7] at ha'
      show R_look_B14 _ ke (nn i) (nn (410 * i)) (n6 a) (nn k) 0 r = _
      unfold R_look_B14 R_look_J86 lq
      have ev : n6 a ||| (lshl6 ((nn c &&& (127 : Int32)).toInt64) ((7 : Int32) * nn k)) = n6 (a + (c % 128) * 128 ^ k) := by
        rw [and127 (by omega), n6_nn (by omega), n6_shl7 (by omega) k4, n6_ro _ ha' (by rw [Nat.add_comm]; have := vstep (a := c % 128) k4 (by omega) ha'; omega), Nat.mul_comm, p7]
      rw [if_neg (by rw [show (4 : Int32) = nn 4 from rfl, nn_le (by omega) (by omega)]; omega), x_rA mL_5 hi (by omega), h5, show (1 : Int32) = nn 1 from rfl, nn_add, if_neg (by rw [nn_le (by omega) (by omega)]; omega), if_pos rfl, nn_add, nn_add, x_rA mL_6 (by omega) (by omega), hcm]
      dsimp only
      rw [(type_or c hc).2.2, ev, nn_add]
      by_cases g : c < 128
      · rw [if_neg (by rw [show (128 : Int32) = nn 128 from rfl, nn_le (by omega) (by omega)]; omega), if_pos g]
      · rw [if_pos (by rw [show (128 : Int32) = nn 128 from rfl, nn_le (by omega) (by omega)]; omega), if_neg g]
    have stop : ∀ a' : Nat, R_look_L14 ke m' (nn i) (nn (410 * i)) (n6 a') (nn (k + 1)) 1 r = ke (nn i) (nn (410 * i)) (n6 a') (nn (k + 1)) 1 r := fun a' => by
      obtain ⟨m2, rfl⟩ : ∃ z, m' = z + 1 := ⟨m' - 1, by omega⟩
      show R_look_B14 _ ke (nn i) (nn (410 * i)) (n6 a') (nn (k + 1)) 1 r = _
      unfold R_look_B14
      by_cases g : (4 : Int32) ≤ nn (k + 1)
      · rw [if_pos g]
      · rw [if_neg g, x_rA mL_5 hi (by omega)]
        by_cases g2 : r.2.1 5 i ≤ (1 : Int32) + nn (k + 1)
        · rw [if_pos g2]
        · rw [if_neg g2, if_neg (by decide)]
    have hM' : Mg (r.2.1 6) (410 * i + 1 + (k + 1)) t := fun j hj => by
      have := hM (j + 1) (by rw [List.length_cons]; omega)
      rw [show 410 * i + 1 + k + (j + 1) = 410 * i + 1 + (k + 1) + j by omega] at this
      exact this
    have go := fun (k4 : k < 4) => ih (k + 1) (a + (c % 128) * 128 ^ k) m' (by rw [h5]; congr 1; omega) (by omega) (vst k4 ha).1 hM' B' (by omega)
    have vg : ¬ c < 128 → vr k a (c :: t) = vr (k + 1) (a + (c % 128) * 128 ^ k) t := fun g => by
      show (if c < 128 then some (k + 1, a + c * 128 ^ k) else vr (k + 1) (a + (c - 128) * 128 ^ k) t) = _
      rw [if_neg g, show c % 128 = c - 128 by omega]
    refine ⟨fun z hl => ?_, fun v fo z hv => ?_⟩
    · rw [List.length_cons] at hl
      have k4 : k < 4 := by omega
      by_cases g : c < 128
      · have z' : (if c < 128 then some (k + 1, a + c * 128 ^ k) else vr (k + 1) (a + (c - 128) * 128 ^ k) t) = none := z
        rw [if_pos g] at z'
        cases z'
      · rw [vg g] at z
        obtain ⟨a', e⟩ := (go k4).1 z (by omega)
        refine ⟨a', ?_⟩
        rw [step k4, if_neg g, e, List.length_cons, show k + 1 + t.length = k + (t.length + 1) by omega]
    · have k4 : k < 4 := by
        have := (vr_lt _ _ _ z).1
        omega
      by_cases g : c < 128
      · obtain ⟨e1, e2⟩ := vr_l z g
        rw [step k4, if_pos g, stop, e1, e2, Nat.mod_eq_of_lt g]
      · rw [vg g] at z
        rw [step k4, if_neg g, (go k4).2 v fo z hv]
end ACC
