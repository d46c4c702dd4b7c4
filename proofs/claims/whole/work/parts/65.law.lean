/-! ===== the law's loop, over an invariant that every call keeps ===== -/
theorem sLD_nn {S ρ : Type} {L k : Nat} {xs : Nat → Int32} {f : Int32 → S → Option (ρ × S)} (h : k < L) (h2 : k < 2147483648) : sLD L xs (nn k) f = f (xs k) := by
  funext σ
  unfold sLD gd
  rw [if_pos (nn_inr h h2), nn_N h2]
theorem e_lC {α : Type} {P : Hp → Option (α × Hp)} {h h' : Hp} {r : RS} {v : α} (e : P h = some (v, h')) : lC P (h, r) = some (v, (h', r)) := by
  unfold lC
  dsimp only
  rw [e]
theorem e_lM {α : Type} {P : RS → Option (α × RS)} {h : Hp} {r r' : RS} {v : α} (e : P r = some (v, r')) : lM P (h, r) = some (v, (h, r')) := by
  unfold lM
  dsimp only
  rw [e]
theorem e_lAl {ρ : Type} {a : Nat} {f : Int64 → Lz → Option (ρ × Lz)} {h : Hp} {r : RS} (hk : hkd h a = 104) (hl : hln h a = 1) : lAl (some a) (0 : Int32) f (h, r) = f (hal h a 0) (h, r) := by
  unfold lAl
  dsimp only
  rw [if_pos ⟨hk, by rw [hl]; decide⟩]
  rfl
theorem e_lCv {ρ α : Type} {c a : Nat} {P : Nat → Hp → Option (α × Hp)} {f : α → Lz → Option (ρ × Lz)} {h h' : Hp} {r : RS} {v : α} (hk : hkd h a = c + 1) (e : P a h = some (v, h')) : lCv c (some a) P f (h, r) = f v (h', r) := by
  unfold lCv
  dsimp only
  rw [if_pos hk]
  exact e_bd (e_lC e)
theorem cmp_rfl (v : Int64) : lg_cmp v v = 0 := by
  unfold lg_cmp
  rw [if_neg (by exact Int64.lt_irrefl), if_pos rfl]
/-- what a call that may throw does: the class's answer is the model's, or both refuse alike -/
def OkX {α β : Type} (Inv : Nat → Hp → RS → Prop) (em : Nat → Option Int32) (PC : Hp → Option ((Nat ⊕ α) × Hp)) (M : RS → Option (β × RS)) (eq : α → β → Prop) : Prop :=
  ∀ i h r, i < 512 → Inv i h r → ∃ v h' b r', PC h = some (v, h') ∧ M r = some (b, r') ∧ Inv (i + 1) h' r' ∧ match v with
    | .inr c => r'.1 0 = 0 ∧ eq c b
    | .inl e => ∃ k, em e = some k ∧ k ≠ 0 ∧ r'.1 0 = k
def OkN {α β : Type} (Inv : Nat → Hp → RS → Prop) (PC : Hp → Option (α × Hp)) (M : RS → Option (β × RS)) (eq : α → β → Prop) : Prop :=
  ∀ i h r, i < 512 → Inv i h r → ∃ v h' b r', PC h = some (v, h') ∧ M r = some (b, r') ∧ Inv (i + 1) h' r' ∧ eq v b
/-- the place of the broker and of the law's row of one long -/
def Seat (x : Nat) (Inv : Nat → Hp → RS → Prop) : Prop := (∀ i h r, Inv i h r → hkd h x = 14 ∧ hkd h (x + 129) = 104 ∧ hln h (x + 129) = 1) ∧ (∀ i h r f, Inv i h r → Inv i (sal h (x + 129) f) r) ∧ ∀ i h r, Inv i h r → Inv (i + 1) h r
section LCS
variable {x : Nat} {Inv : Nat → Hp → RS → Prop} {i : Nat} {h : Hp} {r : RS} {K : Lz → Option (Unit × Lz)}
theorem lcase {α β : Type} {em : Nat → Option Int32} {PC : Nat → Hp → Option ((Nat ⊕ α) × Hp)} {M : RS → Option (β × RS)} {va : α → Int64} {vb : β → Int64} (S : Seat x Inv) (O : OkX Inv em (PC x) M (fun a b => va a = vb b)) (hj : i < 512) (hi : Inv i h r) :
    ∃ h' r', Inv (i + 1) h' r' ∧ (bd (lC (hTry 13 (some x) PC em fun r1 => hWl (some (x + 129)) (0 : Int32) (va r1) <| rt (0 : Int32))) fun k => bd (lM M) fun b => bd (lM R_thrown) fun t => if t = k then (if k = 0 then (lAl (some (x + 129)) (0 : Int32) fun v => if (lg_cmp v (vb b)) = 0 then K else no) else K) else no) (h, r) = K (h', r') := by
  obtain ⟨v, h1, b, r1, e1, e2, i1, hv⟩ := O i h r hj hi
  obtain ⟨s1, s2, s3⟩ := S.1 i h r hi
  obtain ⟨t1, t2, t3⟩ := S.1 _ h1 r1 i1
  cases v with
  | inl e =>
    obtain ⟨k, k1, k2, k3⟩ := hv
    refine ⟨h1, r1, i1, ?_⟩
    rw [e_bd (e_lC (e_TryL (c := 13) s1 e1 k1)), e_bd (e_lM e2), e_bd (e_lM (m_thr r1)), if_pos k3, if_neg k2]
  | inr c =>
    obtain ⟨k1, k2⟩ := hv
    refine ⟨sal h1 (x + 129) (vp_updL (hal h1 (x + 129)) 0 (va c)), r1, S.2.1 _ h1 r1 _ i1, ?_⟩
    have e3 : hTry 13 (some x) PC em (fun r1 => hWl (some (x + 129)) (0 : Int32) (va r1) <| rt (0 : Int32)) h = some (0, sal h1 (x + 129) (vp_updL (hal h1 (x + 129)) 0 (va c))) := by
      rw [e_TryR (c := 13) s1 e1, e_Wl t2 (by rw [t3]; decide)]
      rfl
    rw [e_bd (e_lC e3), e_bd (e_lM e2), e_bd (e_lM (m_thr r1)), if_pos k1, if_pos rfl, e_lAl (h := sal h1 (x + 129) (vp_updL (hal h1 (x + 129)) 0 (va c))) t2 t3]
    have e4 : hal (sal h1 (x + 129) (vp_updL (hal h1 (x + 129)) 0 (va c))) (x + 129) 0 = va c := by
      rw [hal_sal, if_pos rfl]
      rfl
    rw [e4, k2, if_pos (cmp_rfl _)]
theorem lcase0 {α β : Type} {em : Nat → Option Int32} {PC : Nat → Hp → Option ((Nat ⊕ α) × Hp)} {M : RS → Option (β × RS)} (S : Seat x Inv) (O : OkX Inv em (PC x) M (fun _ _ => True)) (hj : i < 512) (hi : Inv i h r) :
    ∃ h' r', Inv (i + 1) h' r' ∧ (bd (lC (hTry 13 (some x) PC em fun _ => rt (0 : Int32))) fun k => bd (lM M) fun _ => bd (lM R_thrown) fun t => if t = k then K else no) (h, r) = K (h', r') := by
  obtain ⟨v, h1, b, r1, e1, e2, i1, hv⟩ := O i h r hj hi
  obtain ⟨s1, s2, s3⟩ := S.1 i h r hi
  refine ⟨h1, r1, i1, ?_⟩
  cases v with
  | inl e =>
    obtain ⟨k, k1, k2, k3⟩ := hv
    rw [e_bd (e_lC (e_TryL (c := 13) s1 e1 k1)), e_bd (e_lM e2), e_bd (e_lM (m_thr r1)), if_pos k3]
  | inr c =>
    have e3 : hTry 13 (some x) PC em (fun _ => rt (0 : Int32)) h = some (0, h1) := by
      rw [e_TryR (c := 13) s1 e1]
      rfl
    rw [e_bd (e_lC e3), e_bd (e_lM e2), e_bd (e_lM (m_thr r1)), if_pos hv.1]
theorem lcaseN {PC : Nat → Hp → Option (Int32 × Hp)} {M : RS → Option (Int32 × RS)} (S : Seat x Inv) (O : OkN Inv (PC x) M (fun a b => a = b)) (hj : i < 512) (hi : Inv i h r) :
    ∃ h' r', Inv (i + 1) h' r' ∧ (lCv 13 (some x) PC fun a => bd (lM M) fun b => if a = b then K else no) (h, r) = K (h', r') := by
  obtain ⟨v, h1, b, r1, e1, e2, i1, hv⟩ := O i h r hj hi
  obtain ⟨s1, s2, s3⟩ := S.1 i h r hi
  refine ⟨h1, r1, i1, ?_⟩
  rw [e_lCv (c := 13) s1 e1, e_bd (e_lM e2), if_pos hv]
end LCS
/-- every call of the face, as the law does it -/
def Calls (x : Nat) (Inv : Nat → Hp → RS → Prop) : Prop :=
  (∀ v, OkX Inv (fun e => if e = 0 then some 1 else if e = 2 then some 2 else none) (C_X11_open x v) (R_open v) (fun _ _ => True)) ∧
  (∀ v a b n, OkX Inv (fun e => if e = 0 then some 1 else if e = 1 then some 2 else if e = 2 then some 3 else none) (C_X11_feed x v a b n) (R_feed v a b n) (fun a b => a.toInt64 = b.toInt64)) ∧
  (∀ v, OkX Inv (fun e => if e = 0 then some 1 else if e = 2 then some 2 else none) (C_X11_lose x v) (R_lose v) (fun _ _ => True)) ∧
  (∀ v, OkX Inv (fun e => if e = 0 then some 1 else none) (C_X11_isOpen x v) (R_isOpen v) (fun a b => (if a = 0 then (0 : Int64) else 1) = if b = 0 then 0 else 1)) ∧
  (∀ v, OkX Inv (fun e => if e = 0 then some 1 else none) (C_X11_size x v) (R_size v) (fun a b => a.toInt64 = b.toInt64)) ∧
  (∀ v i, OkX Inv (fun e => if e = 0 then some 1 else none) (C_X11_out x v i) (R_out v i) (fun a b => a.toInt64 = b.toInt64)) ∧
  (∀ v n, OkX Inv (fun e => if e = 0 then some 1 else if e = 1 then some 2 else none) (C_X11_take x v n) (R_take v n) (fun a b => a.toInt64 = b.toInt64)) ∧
  (∀ v, OkX Inv (fun e => if e = 0 then some 1 else none) (C_X11_pending x v) (R_pending v) (fun a b => a.toInt64 = b.toInt64)) ∧
  (∀ n, OkX Inv (fun e => if e = 1 then some 1 else none) (C_X11_pass x n) (R_pass n) (fun a b => a.toInt64 = b.toInt64)) ∧
  (∀ s, OkN Inv (C_X11_isSession x s) (R_isSession s) (fun a b => a = b)) ∧
  (∀ s w, OkX Inv (fun e => if e = 0 then some 1 else if e = 1 then some 2 else none) (C_X11_session x s w) (R_session s w) (fun a b => a.toInt64 = b.toInt64)) ∧
  (∀ s, OkX Inv (fun e => if e = 0 then some 1 else none) (C_X11_expiry x s) (R_expiry s) (fun a b => a = b)) ∧
  (∀ s i, OkX Inv (fun e => if e = 0 then some 1 else none) (C_X11_id x s i) (R_id s i) (fun a b => a.toInt64 = b.toInt64)) ∧
  (∀ s k w, OkX Inv (fun e => if e = 0 then some 1 else if e = 1 then some 2 else none) (C_X11_subscription x s k w) (R_subscription s k w) (fun a b => a.toInt64 = b.toInt64)) ∧
  (∀ s k i, OkX Inv (fun e => if e = 0 then some 1 else none) (C_X11_filter x s k i) (R_filter s k i) (fun a b => a.toInt64 = b.toInt64)) ∧
  (∀ i w, OkX Inv (fun e => if e = 1 then some 1 else none) (C_X11_retained x i w) (R_retained i w) (fun a b => a.toInt64 = b.toInt64)) ∧
  (∀ i p k, p = 0 ∨ p = 1 → OkN Inv (C_X11_kept x i p k) (R_kept i p k) (fun a b => a = b)) ∧
  (∀ w, OkX Inv (fun e => if e = 1 then some 1 else none) (C_X11_told x w) (R_told w) (fun a b => a.toInt64 = b.toInt64))
section LST
variable {x : Nat} {Inv : Nat → Hp → RS → Prop} {j L : Nat} {xs : Nat → Int32} {h : Hp} {r : RS} {kb : Option Nat → Option Nat → Int32 → Lz → Option (Unit × Lz)} {ke : Lz → Option (Unit × Lz)}
theorem w_isOpen (x : Nat) (v : Int32) : C_L_isOpen (some x) v (some (x + 129)) = hTry 13 (some x) (fun a => C_X11_isOpen a v) (fun e => if e = 0 then some 1 else none) fun r1 => hWl (some (x + 129)) (0 : Int32) (if r1 = 0 then (0 : Int64) else 1) <| rt (0 : Int32) := by
  unfold C_L_isOpen
  congr 1
  funext r1
  by_cases q : r1 = 0
  · rw [if_pos q, if_pos q]; rfl
  · rw [if_neg q, if_neg q]; rfl
theorem law_step (S : Seat x Inv) (A : Calls x Inv) (hL : L ≤ 3584) (hj : 7 * j + 7 ≤ L) (hi : Inv j h r) :
    ∃ h' r', Inv (j + 1) h' r' ∧ C_L_law_B23 L xs kb ke (some x) (some (x + 129)) (nn (7 * j)) (h, r) = kb (some x) (some (x + 129)) (nn (7 * j + 7)) (h', r') := by
  have j5 : j < 512 := by omega
  obtain ⟨A0, A1, A2, A3, A4, A5, A6, A7, A8, A9, A10, A11, A12, A13, A14, A15, A16, A17⟩ := A
  have e0 : ¬ (Int32.ofNat L - (7 : Int32)) < nn (7 * j) := by
    show ¬ (nn L - nn 7) < nn (7 * j)
    rw [nn_sub (by omega), nn_lt (by omega) (by omega)]
    omega
  have a1 : nn (7 * j) + (1 : Int32) = nn (7 * j + 1) := nn_add
  have a2 : nn (7 * j) + (2 : Int32) = nn (7 * j + 2) := nn_add
  have a3 : nn (7 * j) + (3 : Int32) = nn (7 * j + 3) := nn_add
  have a4 : nn (7 * j) + (4 : Int32) = nn (7 * j + 4) := nn_add
  have a5 : nn (7 * j) + (5 : Int32) = nn (7 * j + 5) := nn_add
  have a6 : nn (7 * j) + (6 : Int32) = nn (7 * j + 6) := nn_add
  have a7 : nn (7 * j) + (7 : Int32) = nn (7 * j + 7) := nn_add
  have b1 : ∀ {f : Int32 → Lz → Option (Unit × Lz)}, sLD L xs (nn (7 * j + 1)) f = f (xs (7 * j + 1)) := sLD_nn (by omega) (by omega)
  have b2 : ∀ {f : Int32 → Lz → Option (Unit × Lz)}, sLD L xs (nn (7 * j + 2)) f = f (xs (7 * j + 2)) := sLD_nn (by omega) (by omega)
  have b3 : ∀ {f : Int32 → Lz → Option (Unit × Lz)}, sLD L xs (nn (7 * j + 3)) f = f (xs (7 * j + 3)) := sLD_nn (by omega) (by omega)
  have b4 : ∀ {f : Int32 → Lz → Option (Unit × Lz)}, sLD L xs (nn (7 * j + 4)) f = f (xs (7 * j + 4)) := sLD_nn (by omega) (by omega)
  have b5 : ∀ {f : Int32 → Lz → Option (Unit × Lz)}, sLD L xs (nn (7 * j + 5)) f = f (xs (7 * j + 5)) := sLD_nn (by omega) (by omega)
  have b6 : ∀ {f : Int32 → Lz → Option (Unit × Lz)}, sLD L xs (nn (7 * j + 6)) f = f (xs (7 * j + 6)) := sLD_nn (by omega) (by omega)
  unfold C_L_law_B23
  rw [if_neg e0, sLD_nn (by omega) (by omega)]
  simp only [a1, a2, a3, a4, a5, a6, a7, b1, b2, b3, b4, b5, b6]
  generalize xs (7 * j) &&& (31 : Int32) = w
  by_cases c0 : w = 0
  · rw [if_pos c0]
    exact lcase0 (PC := fun a => C_X11_open a (xs (7 * j + 1))) (K := kb (some x) (some (x + 129)) (nn (7 * j + 7))) S (A0 _) j5 hi
  rw [if_neg c0]
  by_cases c1 : w = 1
  · rw [if_pos c1]
    exact lcase (PC := fun a => C_X11_feed a (xs (7 * j + 1)) _ _ _) (va := Int32.toInt64) (vb := Int32.toInt64) (K := kb (some x) (some (x + 129)) (nn (7 * j + 7))) S (A1 _ _ _ _) j5 hi
  rw [if_neg c1]
  by_cases c2 : w = 2
  · rw [if_pos c2]
    exact lcase0 (PC := fun a => C_X11_lose a (xs (7 * j + 1))) (K := kb (some x) (some (x + 129)) (nn (7 * j + 7))) S (A2 _) j5 hi
  rw [if_neg c2]
  by_cases c3 : w = 3
  · rw [if_pos c3, w_isOpen]
    obtain ⟨h', r', q1, q2⟩ := lcase (PC := fun a => C_X11_isOpen a (xs (7 * j + 1))) (va := fun a => if a = 0 then (0 : Int64) else 1) (vb := fun a => if a = 0 then (0 : Int64) else 1) (K := kb (some x) (some (x + 129)) (nn (7 * j + 7))) S (A3 _) j5 hi
    refine ⟨h', r', q1, ?_⟩
    rw [← q2]
    congr 1
    funext k
    congr 1
    funext b
    congr 1
    funext t
    by_cases z1 : t = k
    · rw [if_pos z1, if_pos z1]
      by_cases z2 : k = 0
      · rw [if_pos z2, if_pos z2]
        congr 1
        funext v
        by_cases z3 : b = 0
        · rw [if_pos z3]
          rw [if_pos z3]
          unfold C_L_law_J412
          rw [a7]
        · rw [if_neg z3]
          rw [if_neg z3]
          unfold C_L_law_J412
          rw [a7]
      · rw [if_neg z2, if_neg z2]
    · rw [if_neg z1, if_neg z1]
  rw [if_neg c3]
  by_cases c4 : w = 4
  · rw [if_pos c4]
    exact lcase (PC := fun a => C_X11_size a (xs (7 * j + 1))) (va := Int32.toInt64) (vb := Int32.toInt64) (K := kb (some x) (some (x + 129)) (nn (7 * j + 7))) S (A4 _) j5 hi
  rw [if_neg c4]
  by_cases c5 : w = 5
  · rw [if_pos c5]
    exact lcase (PC := fun a => C_X11_out a (xs (7 * j + 1)) _) (va := Int32.toInt64) (vb := Int32.toInt64) (K := kb (some x) (some (x + 129)) (nn (7 * j + 7))) S (A5 _ _) j5 hi
  rw [if_neg c5]
  by_cases c6 : w = 6
  · rw [if_pos c6]
    exact lcase (PC := fun a => C_X11_take a (xs (7 * j + 1)) _) (va := Int32.toInt64) (vb := Int32.toInt64) (K := kb (some x) (some (x + 129)) (nn (7 * j + 7))) S (A6 _ _) j5 hi
  rw [if_neg c6]
  by_cases c7 : w = 7
  · rw [if_pos c7]
    exact lcase (PC := fun a => C_X11_pending a (xs (7 * j + 1))) (va := Int32.toInt64) (vb := Int32.toInt64) (K := kb (some x) (some (x + 129)) (nn (7 * j + 7))) S (A7 _) j5 hi
  rw [if_neg c7]
  by_cases c8 : w = 8
  · rw [if_pos c8]
    exact lcase (PC := fun a => C_X11_pass a (xs (7 * j + 1))) (va := Int32.toInt64) (vb := Int32.toInt64) (K := kb (some x) (some (x + 129)) (nn (7 * j + 7))) S (A8 _) j5 hi
  rw [if_neg c8]
  by_cases c9 : w = 9
  · rw [if_pos c9]
    exact lcaseN (PC := fun a => C_X11_isSession a (xs (7 * j + 1))) (K := kb (some x) (some (x + 129)) (nn (7 * j + 7))) S (A9 _) j5 hi
  rw [if_neg c9]
  by_cases c10 : w = 10
  · rw [if_pos c10]
    exact lcase (PC := fun a => C_X11_session a (xs (7 * j + 1)) _) (va := Int32.toInt64) (vb := Int32.toInt64) (K := kb (some x) (some (x + 129)) (nn (7 * j + 7))) S (A10 _ _) j5 hi
  rw [if_neg c10]
  by_cases c11 : w = 11
  · rw [if_pos c11]
    exact lcase (PC := fun a => C_X11_expiry a (xs (7 * j + 1))) (va := fun a => a) (vb := fun a => a) (K := kb (some x) (some (x + 129)) (nn (7 * j + 7))) S (A11 _) j5 hi
  rw [if_neg c11]
  by_cases c12 : w = 12
  · rw [if_pos c12]
    exact lcase (PC := fun a => C_X11_id a (xs (7 * j + 1)) _) (va := Int32.toInt64) (vb := Int32.toInt64) (K := kb (some x) (some (x + 129)) (nn (7 * j + 7))) S (A12 _ _) j5 hi
  rw [if_neg c12]
  by_cases c13 : w = 13
  · rw [if_pos c13]
    exact lcase (PC := fun a => C_X11_subscription a (xs (7 * j + 1)) _ _) (va := Int32.toInt64) (vb := Int32.toInt64) (K := kb (some x) (some (x + 129)) (nn (7 * j + 7))) S (A13 _ _ _) j5 hi
  rw [if_neg c13]
  by_cases c14 : w = 14
  · rw [if_pos c14]
    exact lcase (PC := fun a => C_X11_filter a (xs (7 * j + 1)) _ _) (va := Int32.toInt64) (vb := Int32.toInt64) (K := kb (some x) (some (x + 129)) (nn (7 * j + 7))) S (A14 _ _ _) j5 hi
  rw [if_neg c14]
  by_cases c15 : w = 15
  · rw [if_pos c15]
    exact lcase (PC := fun a => C_X11_retained a (xs (7 * j + 1)) _) (va := Int32.toInt64) (vb := Int32.toInt64) (K := kb (some x) (some (x + 129)) (nn (7 * j + 7))) S (A15 _ _) j5 hi
  rw [if_neg c15]
  by_cases c16 : w = 16
  · rw [if_pos c16]
    by_cases z : xs (7 * j + 2) = 0
    · rw [if_pos z]
      unfold C_L_law_J1190 C_L_law_J1220
      simp only [a1, a2, a3, a7, b1, b2, b3, if_pos z]
      exact lcaseN (PC := fun a => C_X11_kept a (xs (7 * j + 1)) _ _) (K := kb (some x) (some (x + 129)) (nn (7 * j + 7))) S (A16 _ _ _ (Or.inl rfl)) j5 hi
    · rw [if_neg z]
      unfold C_L_law_J1190 C_L_law_J1220
      simp only [a1, a2, a3, a7, b1, b2, b3, if_neg z]
      exact lcaseN (PC := fun a => C_X11_kept a (xs (7 * j + 1)) _ _) (K := kb (some x) (some (x + 129)) (nn (7 * j + 7))) S (A16 _ _ _ (Or.inr rfl)) j5 hi
  rw [if_neg c16]
  by_cases c17 : w = 17
  · rw [if_pos c17]
    exact lcase (PC := fun a => C_X11_told a (xs (7 * j + 1))) (va := Int32.toInt64) (vb := Int32.toInt64) (K := kb (some x) (some (x + 129)) (nn (7 * j + 7))) S (A17 _) j5 hi
  rw [if_neg c17]
  exact ⟨h, r, S.2.2 _ _ _ hi, rfl⟩
theorem seven : ∀ L, L < 7 → (Int32.ofNat L - (7 : Int32)) < 0 := by decide +kernel
theorem law_loop (S : Seat x Inv) (A : Calls x Inv) (hL : L ≤ 3584) : ∀ (n j : Nat) (h : Hp) (r : RS) (fl : Nat) (l : Int32), j + n = L / 7 → n < fl → Inv j h r → l = nn (7 * j) →
    ∃ j' h' r', j' ≤ L / 7 ∧ Inv j' h' r' ∧ C_L_law_L23 L xs ke fl (some x) (some (x + 129)) l (h, r) = ke (h', r') := by
  intro n
  induction n with
  | zero =>
    intro j h r fl l hj hf hi el
    subst el
    obtain ⟨fl', rfl⟩ : ∃ m, fl = m + 1 := ⟨fl - 1, by omega⟩
    refine ⟨j, h, r, by omega, hi, ?_⟩
    show C_L_law_B23 L xs _ ke _ _ _ (h, r) = _
    unfold C_L_law_B23
    rw [if_pos]
    by_cases h7 : L < 7
    · have e : j = 0 := by omega
      subst e
      exact seven L h7
    · show (nn L - nn 7) < nn (7 * j)
      rw [nn_sub (by omega), nn_lt (by omega) (by omega)]
      omega
  | succ n ih =>
    intro j h r fl l hj hf hi el
    subst el
    obtain ⟨fl', rfl⟩ : ∃ m, fl = m + 1 := ⟨fl - 1, by omega⟩
    obtain ⟨h1, r1, i1, e1⟩ := law_step (L := L) (xs := xs) (kb := fun l1 l3 l4 => C_L_law_L23 L xs ke fl' l1 l3 l4) (ke := ke) S A hL (by omega) hi
    obtain ⟨j', h', r', q1, q2, q3⟩ := ih (j + 1) h1 r1 fl' (nn (7 * j + 7)) (by omega) (by omega) i1 rfl
    refine ⟨j', h', r', q1, q2, ?_⟩
    show C_L_law_B23 L xs _ ke _ _ _ (h, r) = _
    rw [e1]
    exact q3
theorem law_inv (S : Seat x Inv) (A : Calls x Inv) (hL : L ≤ 3584) (hi : Inv 0 h r) : ∃ j h' r', j ≤ 512 ∧ Inv j h' r' ∧ LAW L xs (some x) (some (x + 129)) (h, r) = some ((), (h', r')) := by
  obtain ⟨j', h', r', q1, q2, q3⟩ := law_loop (L := L) (xs := xs) (ke := C_L_law_J1296 L xs) S A hL (L / 7) 0 h r fu 0 (by omega) (by unfold fu; omega) hi rfl
  refine ⟨j', h', r', by omega, q2, ?_⟩
  unfold LAW
  rw [q3]
  unfold C_L_law_J1296 gd
  rw [if_pos rfl]
  rfl
end LST
/-- the whole claim's question, from an invariant -/
theorem ask_of {n L : Nat} {xs : Nat → Int32} {Inv : Nat → Hp → RS → Prop} (hL : L ≤ 3584) (S : Seat n Inv) (A : Calls n Inv) (h0 : ∀ h, Fresh h n → NewA h (n + 129) 3 1 → hnx h = n + 130 → (hcs h).1 = 130 → (hcs h).2 = 375602 → Inv 0 h rs0) (hc : ∀ i h r, i ≤ 512 → Inv i h r → (hcs h).1 ≤ 601024 ∧ (hcs h).2 ≤ 7293034) :
    ∃ σ', START n L xs (h00 n) = some ((), σ') ∧ (hcs σ').1 ≤ 601024 ∧ (hcs σ').2 ≤ 7293034 := by
  obtain ⟨h, e, f1, f2, f3, f4, f5⟩ := start_ev n L xs
  obtain ⟨j, h', r', q1, q2, q3⟩ := law_inv (L := L) (xs := xs) S A hL (h0 h f1 f2 f3 f4 f5)
  refine ⟨h', ?_, hc j h' r' q1 q2⟩
  rw [e, q3]
  rfl
