/-! ===== who a name belongs to; a free place ===== -/
section IDN
variable {x ec es ew s b a o L l1 : Nat} {e0 : Int32} {h h' : Hp} {r r' : RS} {bs ys : List Nat}
def IdOf (r : RS) (s : Nat) (ys : List Nat) : Prop := r.2.1 13 s = nn ys.length ∧ Mg (r.2.1 14) (20 * s) ys
theorem id_iff (c1 : r.2.1 13 s = nn bs.length) (c2 : Mg (r.2.1 14) (20 * s) bs) (B : By bs) (hl : bs.length < 2147483648) (B' : By ys) (hl' : ys.length < 2147483648) : bs = ys ↔ IdOf r s ys := by
  constructor
  · intro e
    rw [← e]
    exact ⟨c1, c2⟩
  · rintro ⟨d1, d2⟩
    have el : bs.length = ys.length := nn_inj hl hl' (c1.symm.trans d1)
    apply List.ext_getElem el
    intro k k1 k2
    have e1 := c2 k k1
    have e2 := d2 k k2
    have e3 := (sb_inj (B.at k) (B'.at k)).mp (e1.symm.trans e2)
    rw [List.getD_eq_getElem?_getD, List.getD_eq_getElem?_getD, List.getElem?_eq_getElem k1, List.getElem?_eq_getElem k2] at e3
    exact e3
theorem qc_fnd (R : Rel x ec es ew e0 h r) (W : Rw x h a ys) (hl : ys.length ≤ 405) :
    (∃ s b, s < 12 ∧ har h (x + 34) s = some b ∧ IdOf r s ys ∧ (∀ s', s' < s → r.2.1 11 s' = 1 → ¬ IdOf r s' ys) ∧ C_X11_find x (some a) h = some (some b, h)) ∨ ((∀ s, s < 12 → r.2.1 11 s = 1 → ¬ IdOf r s ys) ∧ C_X11_find x (some a) h = some (none, h)) := by
  have T := R.st
  have kx := T.2.1.1
  have k1 : hfr h (100 * 13 + 1) x = some (x + 34) := T.2.1.2.2.1
  obtain ⟨_, _, a3, a4, _⟩ := T.2.2.1
  have key : ∀ (c q f : Nat), q + c = 12 → c < f → (∀ s', s' < q → r.2.1 11 s' = 1 → ¬ IdOf r s' ys) → (∃ s b, s < 12 ∧ har h (x + 34) s = some b ∧ IdOf r s ys ∧ (∀ s', s' < s → r.2.1 11 s' = 1 → ¬ IdOf r s' ys) ∧ C_X11_find_L2 x (fun l3 => C_X11_find_J30 x l3) (C_X11_find_J38 x) f (some a) (nn q) h = some (some b, h)) ∨ ((∀ s, s < 12 → r.2.1 11 s = 1 → ¬ IdOf r s ys) ∧ C_X11_find_L2 x (fun l3 => C_X11_find_J30 x l3) (C_X11_find_J38 x) f (some a) (nn q) h = some (none, h)) := by
    intro c
    induction c with
    | zero =>
      intro q f hq hf hn
      obtain ⟨f', rfl⟩ : ∃ z, f = z + 1 := ⟨f - 1, by omega⟩
      have : q = 12 := by omega
      subst this
      refine Or.inr ⟨hn, ?_⟩
      show C_X11_find_B2 x _ _ _ (some a) (nn 12) h = _
      unfold C_X11_find_B2
      rw [if_pos (by decide)]
      rfl
    | succ c ih =>
      intro q f hq hf hn
      obtain ⟨f', rfl⟩ : ∃ z, f = z + 1 := ⟨f - 1, by omega⟩
      have st : C_X11_find_L2 x (fun l3 => C_X11_find_J30 x l3) (C_X11_find_J38 x) (f' + 1) (some a) (nn q) h = (if har h (x + 34) q = none then (C_X11_find_L2 x (fun l3 => C_X11_find_J30 x l3) (C_X11_find_J38 x) f' (some a) (nn (q + 1))) else (hgR 10 1 (har h (x + 34) q) fun v3 => hCv 9 v3 (fun a' => C_X7_same a' (some a)) fun r4 => if r4 = 0 then (C_X11_find_L2 x (fun l3 => C_X11_find_J30 x l3) (C_X11_find_J38 x) f' (some a) (nn (q + 1))) else (C_X11_find_J30 x (har h (x + 34) q)))) h := by
        show C_X11_find_B2 x _ _ _ (some a) (nn q) h = _
        unfold C_X11_find_B2
        rw [if_neg (by rw [show (12 : Int32) = nn 12 from rfl, nn_le (by omega) (by omega)]; omega), e_gR (c := 13) kx, k1, e_Ar (t := 5) a3 (nn_inr (by omega) (by omega)), nn_N (by omega), show nn q + 1 = nn (q + 1) from nn_add]
      rw [st]
      rcases R.2.2.2.2.1 q (by omega) with ⟨z1, z2⟩ | ⟨z1, b, z2, z3, _⟩
      · rw [z2, if_pos rfl]
        refine ih (q + 1) f' (by omega) (by omega) (fun s' hs' h11 => ?_)
        by_cases y : s' = q
        · rw [y, z1] at h11
          exact absurd h11 (by decide)
        · exact hn s' (by omega) h11
      · obtain ⟨i, bs, c1, c2, c3, c4, c5⟩ := z3.2.1
        rw [z2, if_neg (by simp), e_gR (c := 10) z3.1.1, show hfr h (100 * 10 + 1) b = some i from c1, e_Cv (c := 9) c2.1, e_bd (qc_same c2 W (by omega) (by omega))]
        have iff := id_iff (ys := ys) c4 c5 c2.2.2.1 (by omega) W.2.2.1 (by omega)
        by_cases g : bs = ys
        · rw [if_pos g, if_neg (by decide)]
          exact Or.inl ⟨q, b, by omega, z2, iff.mp g, hn, rfl⟩
        · rw [if_neg g, if_pos rfl]
          refine ih (q + 1) f' (by omega) (by omega) (fun s' hs' h11 => ?_)
          by_cases y : s' = q
          · rw [y]
            exact fun w => g (iff.mpr w)
          · exact hn s' (by omega) h11
  exact key 12 0 fu (by omega) (by unfold fu; omega) (fun s' hs' => by omega)
/-- a session has a name -/
theorem id_ne (R : Rel x ec es ew e0 h r) (hs : s < 12) (h11 : r.2.1 11 s = 1) : ¬ IdOf r s [] := by
  rcases R.2.2.2.2.1 s hs with ⟨z1, _⟩ | ⟨_, b, z2, z3, _⟩
  · rw [z1] at h11
    exact absurd h11 (by decide)
  · obtain ⟨i, bs, c1, c2, c3, c4, c5⟩ := z3.2.1
    rintro ⟨d1, _⟩
    have : bs.length = 0 := nn_inj (b := 0) (by omega) (by omega) (c4.symm.trans d1)
    omega
/-- the model's look -/
theorem qm_cmp {kb : Int32 → Int32 → Int32 → RS → Option (Int32 × RS)} {ke92 : Int32 → RS → Option (Int32 × RS)} {ke101 : RS → Option (Int32 × RS)} (hm : mL l1 = L) (hs : s < 12) (ho : o + ys.length ≤ L) (hL : L < 2147483648) (hl : ys.length ≤ 20) (hM : Mg (r.2.1 l1) o ys) :
    ∀ (c k f : Nat), k + c = ys.length → c + 1 < f → (∀ q, q < k → r.2.1 14 (20 * s + q) = sb (ys.getD q 0)) → (Mg (r.2.1 14) (20 * s) ys → R_client_L41 l1 (fun l2 l3 l4 l5 => R_client_J87 l1 kb ke92 ke101 l2 l3 l4 l5) f (nn o) (nn ys.length) (nn s) 1 (nn k) r = ke92 (nn s) r) ∧ (¬ Mg (r.2.1 14) (20 * s) ys → R_client_L41 l1 (fun l2 l3 l4 l5 => R_client_J87 l1 kb ke92 ke101 l2 l3 l4 l5) f (nn o) (nn ys.length) (nn s) 1 (nn k) r = kb (nn o) (nn ys.length) (nn (s + 1)) r) := by
  intro c
  induction c with
  | zero =>
    intro k f hk hf hq
    obtain ⟨f', rfl⟩ : ∃ z, f = z + 1 := ⟨f - 1, by omega⟩
    have : k = ys.length := by omega
    subst this
    refine ⟨fun _ => ?_, fun w => absurd (show Mg (r.2.1 14) (20 * s) ys from hq) w⟩
    show R_client_B41 l1 _ _ (nn o) (nn ys.length) (nn s) 1 (nn ys.length) r = _
    unfold R_client_B41
    rw [if_pos (Int32.le_refl _)]
    unfold R_client_J87
    dsimp only
    rw [if_neg (show ¬ (1 : Int32) = 0 by decide)]
  | succ c ih =>
    intro k f hk hf hq
    obtain ⟨f', rfl⟩ : ∃ z, f = z + 1 := ⟨f - 1, by omega⟩
    obtain ⟨ke87, hke⟩ : ∃ z, z = fun l2 l3 l4 l5 => R_client_J87 l1 kb ke92 ke101 l2 l3 l4 l5 := ⟨_, rfl⟩
    have st : R_client_L41 l1 ke87 (f' + 1) (nn o) (nn ys.length) (nn s) 1 (nn k) r = (if r.2.1 14 (20 * s + k) = sb (ys.getD k 0) then R_client_L41 l1 ke87 f' (nn o) (nn ys.length) (nn s) 1 (nn (k + 1)) else R_client_L41 l1 ke87 f' (nn o) (nn ys.length) (nn s) 0 (nn (k + 1))) r := by
      show R_client_B41 l1 _ _ (nn o) (nn ys.length) (nn s) 1 (nn k) r = _
      unfold R_client_B41 R_client_J79
      rw [if_neg (by rw [nn_le (by omega) (by omega)]; omega), if_neg (by decide), show (20 : Int32) = nn 20 from rfl, nn_mul, nn_add, x_rA mL_14 (by omega) (by omega), nn_add, x_rA hm (by omega) (by omega), hM k (by omega), show nn k + 1 = nn (k + 1) from nn_add]
    rw [← hke, st]
    by_cases z : r.2.1 14 (20 * s + k) = sb (ys.getD k 0)
    · rw [if_pos z, hke]
      refine ih (k + 1) f' (by omega) (by omega) (fun q hq' => ?_)
      by_cases y : q = k
      · rw [y]; exact z
      · exact hq q (by omega)
    · rw [if_neg z]
      refine ⟨fun w => absurd (w k (by omega)) z, fun _ => ?_⟩
      obtain ⟨f2, rfl⟩ : ∃ z, f' = z + 1 := ⟨f' - 1, by omega⟩
      have j87 : ke87 (nn o) (nn ys.length) (nn s) 0 r = kb (nn o) (nn ys.length) (nn (s + 1)) r := by
        rw [hke]
        show R_client_J87 l1 kb ke92 ke101 (nn o) (nn ys.length) (nn s) 0 r = _
        unfold R_client_J87
        rw [if_pos rfl, show nn s + 1 = nn (s + 1) from nn_add]
      show R_client_B41 l1 _ _ (nn o) (nn ys.length) (nn s) 0 (nn (k + 1)) r = _
      unfold R_client_B41
      by_cases y : nn ys.length ≤ nn (k + 1)
      · rw [if_pos y, j87]
      · rw [if_neg y, if_pos rfl, j87]
theorem qm_cli (h11 : ∀ s, s < 12 → r.2.1 11 s = 0 ∨ r.2.1 11 s = 1) (hm : mL l1 = L) (ho : o + ys.length ≤ L) (hL : L < 2147483648) (hl : ys.length ≤ 20) (hM : Mg (r.2.1 l1) o ys) :
    (∃ s, s < 12 ∧ r.2.1 11 s = 1 ∧ IdOf r s ys ∧ (∀ s', s' < s → r.2.1 11 s' = 1 → ¬ IdOf r s' ys) ∧ R_client l1 (nn o) (nn ys.length) r = some (nn s, r)) ∨ ((∀ s, s < 12 → r.2.1 11 s = 1 → ¬ IdOf r s ys) ∧ R_client l1 (nn o) (nn ys.length) r = some (-1, r)) := by
  have key : ∀ (c q f : Nat), q + c = 12 → c < f → (∀ s', s' < q → r.2.1 11 s' = 1 → ¬ IdOf r s' ys) → (∃ s, s < 12 ∧ r.2.1 11 s = 1 ∧ IdOf r s ys ∧ (∀ s', s' < s → r.2.1 11 s' = 1 → ¬ IdOf r s' ys) ∧ R_client_L3 l1 (fun l4 => R_client_J92 l1 l4) (R_client_J101 l1) f (nn o) (nn ys.length) (nn q) r = some (nn s, r)) ∨ ((∀ s, s < 12 → r.2.1 11 s = 1 → ¬ IdOf r s ys) ∧ R_client_L3 l1 (fun l4 => R_client_J92 l1 l4) (R_client_J101 l1) f (nn o) (nn ys.length) (nn q) r = some (-1, r)) := by
    intro c
    induction c with
    | zero =>
      intro q f hq hf hn
      obtain ⟨f', rfl⟩ : ∃ z, f = z + 1 := ⟨f - 1, by omega⟩
      have : q = 12 := by omega
      subst this
      refine Or.inr ⟨hn, ?_⟩
      show R_client_B3 l1 _ _ _ (nn o) (nn ys.length) (nn 12) r = _
      unfold R_client_B3
      rw [if_pos (by decide)]
      rfl
    | succ c ih =>
      intro q f hq hf hn
      obtain ⟨f', rfl⟩ : ∃ z, f = z + 1 := ⟨f - 1, by omega⟩
      obtain ⟨kb, hkb⟩ : ∃ z, z = fun l2 l3 l4 => R_client_L3 l1 (fun l4 => R_client_J92 l1 l4) (R_client_J101 l1) f' l2 l3 l4 := ⟨_, rfl⟩
      have j35 : R_client_J35 l1 kb (fun l4 => R_client_J92 l1 l4) (R_client_J101 l1) (nn o) (nn ys.length) (nn q) r = kb (nn o) (nn ys.length) (nn (q + 1)) r := by
        unfold R_client_J35 R_client_J36
        obtain ⟨n2, hn2⟩ : ∃ z, fu = z + 1 := ⟨4999, rfl⟩
        rw [hn2]
        have j87 : R_client_J87 l1 kb (fun l4 => R_client_J92 l1 l4) (R_client_J101 l1) (nn o) (nn ys.length) (nn q) 0 r = kb (nn o) (nn ys.length) (nn (q + 1)) r := by
          unfold R_client_J87
          rw [if_pos rfl, show nn q + 1 = nn (q + 1) from nn_add]
        show R_client_B41 l1 _ _ (nn o) (nn ys.length) (nn q) 0 0 r = _
        unfold R_client_B41
        by_cases y : nn ys.length ≤ 0
        · rw [if_pos y]
          exact j87
        · rw [if_neg y, if_pos rfl]
          exact j87
      have st : ∃ bb : Bool, (bb = true ↔ r.2.1 11 q = 1 ∧ IdOf r q ys) ∧ R_client_L3 l1 (fun l4 => R_client_J92 l1 l4) (R_client_J101 l1) (f' + 1) (nn o) (nn ys.length) (nn q) r = (if bb = true then R_client_J92 l1 (nn q) else kb (nn o) (nn ys.length) (nn (q + 1))) r := by
        show ∃ bb : Bool, _ ∧ R_client_B3 l1 _ _ _ (nn o) (nn ys.length) (nn q) r = _
        unfold R_client_B3
        rw [← hkb, if_neg (by rw [show (12 : Int32) = nn 12 from rfl, nn_le (by omega) (by omega)]; omega), x_rA mL_11 (by omega) (by omega)]
        rcases h11 q (by omega) with z | z
        · refine ⟨false, ⟨fun w => absurd w (by decide), fun w => absurd (z.symm.trans w.1) (by decide)⟩, ?_⟩
          rw [z, if_pos rfl, j35, if_neg (by decide)]
        · rw [z, if_neg (by decide), x_rA mL_13 (by omega) (by omega)]
          by_cases y : r.2.1 13 q = nn ys.length
          · rw [if_pos y]
            unfold R_client_J36
            have cm := qm_cmp (kb := kb) (ke92 := fun l4 => R_client_J92 l1 l4) (ke101 := R_client_J101 l1) (s := q) hm (by omega) ho hL hl hM ys.length 0 fu (by omega) (by unfold fu; omega) (fun q hq => by omega)
            by_cases w : Mg (r.2.1 14) (20 * q) ys
            · exact ⟨true, ⟨fun _ => ⟨rfl, y, w⟩, fun _ => rfl⟩, cm.1 w⟩
            · exact ⟨false, ⟨fun u => absurd u (by decide), fun u => absurd u.2.2 w⟩, cm.2 w⟩
          · refine ⟨false, ⟨fun u => absurd u (by decide), fun u => absurd u.2.1 y⟩, ?_⟩
            rw [if_neg y, j35, if_neg (by decide)]
      obtain ⟨bb, hb1, hb2⟩ := st
      rw [hb2]
      by_cases w : bb = true
      · rw [if_pos w]
        exact Or.inl ⟨q, by omega, (hb1.mp w).1, (hb1.mp w).2, hn, rfl⟩
      · rw [if_neg w, hkb]
        refine ih (q + 1) f' (by omega) (by omega) (fun s' hs' y => ?_)
        by_cases u : s' = q
        · rw [u] at y ⊢
          exact fun v => w (hb1.mpr ⟨y, v⟩)
        · exact hn s' (by omega) y
  exact key 12 0 fu (by omega) (by unfold fu; omega) (fun s' hs' => by omega)
theorem Rel.m11 (R : Rel x ec es ew e0 h r) : ∀ s, s < 12 → r.2.1 11 s = 0 ∨ r.2.1 11 s = 1 := fun s hs => by
  rcases R.2.2.2.2.1 s hs with ⟨z, _⟩ | ⟨z, _⟩
  · exact Or.inl z
  · exact Or.inr z
/-- a free place -/
theorem free_or (h11 : ∀ s, s < 12 → r.2.1 11 s = 0 ∨ r.2.1 11 s = 1) : (∃ s, s < 12 ∧ r.2.1 11 s = 0 ∧ (∀ s', s' < s → r.2.1 11 s' = 1) ∧ R_free r = some (nn s, r)) ∨ ((∀ s, s < 12 → r.2.1 11 s = 1) ∧ R_free r = some (-1, r)) := by
  have key : ∀ (c q f : Nat), q + c = 12 → c < f → (∀ s', s' < q → r.2.1 11 s' = 1) → (∃ s, s < 12 ∧ r.2.1 11 s = 0 ∧ (∀ s', s' < s → r.2.1 11 s' = 1) ∧ R_free_L2 (fun l1 => R_free_J17 l1) R_free_J25 f (nn q) r = some (nn s, r)) ∨ ((∀ s, s < 12 → r.2.1 11 s = 1) ∧ R_free_L2 (fun l1 => R_free_J17 l1) R_free_J25 f (nn q) r = some (-1, r)) := by
    intro c
    induction c with
    | zero =>
      intro q f hq hf hn
      obtain ⟨f', rfl⟩ : ∃ z, f = z + 1 := ⟨f - 1, by omega⟩
      have : q = 12 := by omega
      subst this
      refine Or.inr ⟨hn, ?_⟩
      show R_free_B2 _ _ _ (nn 12) r = _
      unfold R_free_B2
      rw [if_pos (by decide)]
      rfl
    | succ c ih =>
      intro q f hq hf hn
      obtain ⟨f', rfl⟩ : ∃ z, f = z + 1 := ⟨f - 1, by omega⟩
      have st : R_free_L2 (fun l1 => R_free_J17 l1) R_free_J25 (f' + 1) (nn q) r = (if r.2.1 11 q = 0 then R_free_J17 (nn q) else R_free_L2 (fun l1 => R_free_J17 l1) R_free_J25 f' (nn (q + 1))) r := by
        show R_free_B2 _ _ _ (nn q) r = _
        unfold R_free_B2
        rw [if_neg (by rw [show (12 : Int32) = nn 12 from rfl, nn_le (by omega) (by omega)]; omega), x_rA mL_11 (by omega) (by omega), show nn q + 1 = nn (q + 1) from nn_add]
      rw [st]
      rcases h11 q (by omega) with z | z
      · rw [if_pos z]
        exact Or.inl ⟨q, by omega, z, hn, rfl⟩
      · rw [if_neg (by rw [z]; decide)]
        refine ih (q + 1) f' (by omega) (by omega) (fun s' hs' => ?_)
        by_cases u : s' = q
        · rw [u]; exact z
        · exact hn s' (by omega)
  exact key 12 0 fu (by omega) (by unfold fu; omega) (fun s' hs' => by omega)
theorem csn_full : ∀ q, csn r q = q ↔ ∀ s, s < q → r.2.1 11 s ≠ 0 := by
  intro q
  induction q with
  | zero => exact ⟨fun _ s hs => by omega, fun _ => rfl⟩
  | succ q ih =>
    have le := csn_le (r := r) q
    show csn r q + (if r.2.1 11 q = 0 then 0 else 1) = q + 1 ↔ _
    by_cases z : r.2.1 11 q = 0
    · rw [if_pos z]
      exact ⟨fun w => by omega, fun w => absurd z (w q (by omega))⟩
    · rw [if_neg z]
      constructor
      · intro w s hs
        by_cases y : s = q
        · rw [y]; exact z
        · exact ih.mp (by omega) s (by omega)
      · intro w
        have := ih.mpr (fun s hs => w s (by omega))
        omega
theorem qc_csn (R : Rel x ec es ew e0 h r) : C_X11_countSessions x h = some (nn (csn r 12), h) := by
  unfold C_X11_countSessions
  have := cnt_loop R (ke := fun l1 => C_X11_countSessions_J28 x l1) 12 0 fu (by omega) (by unfold fu; omega)
  exact this
/-- what two active sessions of one name are: one -/
theorem id_one (R : Rel x ec es ew e0 h r) {s' : Nat} (hs : s < 12) (hs' : s' < 12) (a1 : r.2.1 11 s = 1) (a2 : r.2.1 11 s' = 1) (i1 : IdOf r s ys) (i2 : IdOf r s' ys) (hl : ys.length ≤ 405) : s = s' := by
  refine R.2.2.2.2.2.2.2.1.1 s s' hs hs' a1 a2 (Or.inr ⟨i1.1.trans i2.1.symm, fun k _ hk => ?_⟩)
  rw [i1.1, iN_nn (by omega)] at hk
  exact (i1.2 k hk).trans (i2.2 k hk).symm
end IDN
