/-! ===== UTF-8, as the class looks and as the model looks ===== -/
def u8c : List Nat → Nat → Nat → Nat → Bool
  | [], more, _, _ => decide (more = 0)
  | b :: t, more, lo, hi => if 0 < more then (if b < lo ∨ hi < b then false else u8c t (more - 1) 128 191)
    else if b = 0 ∨ (128 ≤ b ∧ b < 194) ∨ 244 < b then false
    else if 128 ≤ b then u8c t (if b < 224 then 1 else if b < 240 then 2 else 3) (if b = 224 then 160 else if b = 240 then 144 else 128) (if b = 237 then 159 else if b = 244 then 143 else 191)
    else u8c t more lo hi
def u8n (b : Nat) : Nat := if b < 128 then 0 else if 194 ≤ b ∧ b < 224 then 1 else if 224 ≤ b ∧ b < 240 then 2 else if 240 ≤ b ∧ b < 245 then 3 else 4
def u8k (y : Nat) : Bool := decide (128 ≤ y ∧ y ≤ 191)
def u8m : Nat → List Nat → Bool
  | 0, _ => false
  | _ + 1, [] => true
  | n + 1, x :: t => if x = 0 ∨ u8n x = 4 then false
    else if u8n x = 0 then u8m n t
    else if u8n x = 1 then (match t with
      | y :: t1 => u8k y && u8m n t1
      | _ => false)
    else if u8n x = 2 then (match t with
      | y :: z :: t1 => u8k y && u8k z && (let v := ((x - 224) * 64 + (y - 128)) * 64 + (z - 128); !(decide (v < 2048) || decide (55296 ≤ v ∧ v ≤ 57343))) && u8m n t1
      | _ => false)
    else (match t with
      | y :: z :: w :: t1 => u8k y && u8k z && u8k w && (let v := (((x - 240) * 64 + (y - 128)) * 64 + (z - 128)) * 64 + (w - 128); !(decide (v < 65536) || decide (1114111 < v))) && u8m n t1
      | _ => false)
theorem u8c_s (b : Nat) (t : List Nat) (lo hi more : Nat) (hm : 0 < more) : u8c (b :: t) more lo hi = if b < lo ∨ hi < b then false else u8c t (more - 1) 128 191 := by
  rw [u8c, if_pos hm]
theorem u8c_m0 (t : List Nat) (lo hi lo' hi' : Nat) : u8c t 0 lo hi = u8c t 0 lo' hi' := by
  induction t generalizing lo hi lo' hi' with
  | nil => rfl
  | cons b t ih =>
    unfold u8c
    simp only [Nat.lt_irrefl, if_false]
    split
    · rfl
    · split
      · rfl
      · exact ih ..
theorem u8c_1 (t : List Nat) (lo hi : Nat) : u8c t 1 lo hi = match t with
    | y :: t1 => decide (lo ≤ y ∧ y ≤ hi) && u8c t1 0 128 191
    | _ => false := by
  cases t with
  | nil => rfl
  | cons y t1 =>
    rw [u8c_s _ _ _ _ _ (by omega)]
    dsimp only
    by_cases h : y < lo ∨ hi < y
    · rw [if_pos h]
      have : ¬ (lo ≤ y ∧ y ≤ hi) := by omega
      simp [this]
    · rw [if_neg h]
      have : lo ≤ y ∧ y ≤ hi := by omega
      simp [this]
theorem u8c_2 (t : List Nat) (lo hi : Nat) : u8c t 2 lo hi = match t with
    | y :: z :: t1 => decide (lo ≤ y ∧ y ≤ hi) && u8k z && u8c t1 0 128 191
    | _ => false := by
  cases t with
  | nil => rfl
  | cons y t1 =>
    rw [u8c_s _ _ _ _ _ (by omega)]
    show (if y < lo ∨ hi < y then false else u8c t1 1 128 191) = _
    rw [u8c_1]
    by_cases h : y < lo ∨ hi < y
    · rw [if_pos h]
      have : ¬ (lo ≤ y ∧ y ≤ hi) := by omega
      cases t1 <;> simp [this]
    · rw [if_neg h]
      have : lo ≤ y ∧ y ≤ hi := by omega
      cases t1 <;> simp [this, u8k]
theorem u8c_3 (t : List Nat) (lo hi : Nat) : u8c t 3 lo hi = match t with
    | y :: z :: w :: t1 => decide (lo ≤ y ∧ y ≤ hi) && u8k z && u8k w && u8c t1 0 128 191
    | _ => false := by
  cases t with
  | nil => rfl
  | cons y t1 =>
    rw [u8c_s _ _ _ _ _ (by omega)]
    show (if y < lo ∨ hi < y then false else u8c t1 2 128 191) = _
    rw [u8c_2]
    by_cases h : y < lo ∨ hi < y
    · rw [if_pos h]
      have : ¬ (lo ≤ y ∧ y ≤ hi) := by omega
      cases t1 with
      | nil => rfl
      | cons z t2 => cases t2 <;> simp [this]
    · rw [if_neg h]
      have : lo ≤ y ∧ y ≤ hi := by omega
      cases t1 with
      | nil => rfl
      | cons z t2 => cases t2 <;> simp [this, u8k]
theorem u8_eq : ∀ (n : Nat) (t : List Nat), t.length < n → u8c t 0 128 191 = u8m n t := by
  intro n
  induction n with
  | zero => intro t h; omega
  | succ n ih =>
    intro t h
    cases t with
    | nil => rfl
    | cons x t =>
      have hl : t.length < n := by
        have : t.length + 1 < n + 1 := h
        omega
      unfold u8c u8m
      rw [if_neg (by omega)]
      by_cases b1 : x = 0 ∨ (128 ≤ x ∧ x < 194) ∨ 244 < x
      · rw [if_pos b1, if_pos (by unfold u8n; split <;> (try split) <;> (try split) <;> (try split) <;> omega)]
      · rw [if_neg b1]
        by_cases b2 : 128 ≤ x
        · rw [if_pos b2]
          by_cases c1 : x < 224
          · have e : u8n x = 1 := by unfold u8n; rw [if_neg (by omega), if_pos (by omega)]
            rw [if_pos c1, if_neg (by omega : ¬ x = 224), if_neg (by omega : ¬ x = 240), if_neg (by omega : ¬ x = 237), if_neg (by omega : ¬ x = 244), u8c_1, e]
            simp only [if_neg (by omega : ¬ (x = 0 ∨ 1 = 4)), if_neg (by omega : ¬ (1 = 0)), if_true]
            cases t with
            | nil => rfl
            | cons y t1 =>
              dsimp only
              rw [ih t1 (by simp at hl; omega)]; rfl
          · by_cases c2 : x < 240
            · have e : u8n x = 2 := by unfold u8n; rw [if_neg (by omega), if_neg (by omega), if_pos (by omega)]
              rw [if_neg c1, if_pos c2, u8c_2, e]
              simp only [if_neg (by omega : ¬ (x = 0 ∨ 2 = 4)), if_neg (by omega : ¬ (2 = 0)), if_neg (by omega : ¬ (2 = 1)), if_true]
              cases t with
              | nil => rfl
              | cons y t1 =>
                cases t1 with
                | nil => rfl
                | cons z t2 =>
                  dsimp only
                  rw [ih t2 (by simp at hl; omega)]
                  congr 1
                  rw [Bool.eq_iff_iff]
                  simp only [u8k, Bool.and_eq_true, decide_eq_true_eq, Bool.not_eq_true', Bool.or_eq_false_iff, decide_eq_false_iff_not]
                  rw [if_neg (by omega : ¬ x = 240), if_neg (by omega : ¬ x = 244)]
                  constructor
                  · rintro ⟨⟨p1, p2⟩, p3, p4⟩
                    refine ⟨⟨⟨?_, ?_⟩, p3, p4⟩, ?_, ?_⟩
                    · split at p1 <;> omega
                    · split at p2 <;> omega
                    · split at p1 <;> omega
                    · split at p2 <;> omega
                  · rintro ⟨⟨⟨p1, p2⟩, p3, p4⟩, p5, p6⟩
                    refine ⟨⟨?_, ?_⟩, p3, p4⟩
                    · split <;> omega
                    · split <;> omega
            · have e : u8n x = 3 := by unfold u8n; rw [if_neg (by omega), if_neg (by omega), if_neg (by omega), if_pos (by omega)]
              rw [if_neg c1, if_neg c2, u8c_3, e]
              simp only [if_neg (by omega : ¬ (x = 0 ∨ 3 = 4)), if_neg (by omega : ¬ (3 = 0)), if_neg (by omega : ¬ (3 = 1)), if_neg (by omega : ¬ (3 = 2))]
              cases t with
              | nil => rfl
              | cons y t1 =>
                cases t1 with
                | nil => rfl
                | cons z t2 =>
                  cases t2 with
                  | nil => rfl
                  | cons w t3 =>
                    dsimp only
                    rw [ih t3 (by simp at hl; omega)]
                    congr 1
                    rw [Bool.eq_iff_iff]
                    simp only [u8k, Bool.and_eq_true, decide_eq_true_eq, Bool.not_eq_true', Bool.or_eq_false_iff, decide_eq_false_iff_not]
                    rw [if_neg (by omega : ¬ x = 224), if_neg (by omega : ¬ x = 237)]
                    constructor
                    · rintro ⟨⟨⟨p1, p2⟩, p3, p4⟩, p5, p6⟩
                      refine ⟨⟨⟨⟨?_, ?_⟩, p3, p4⟩, p5, p6⟩, ?_, ?_⟩
                      · split at p1 <;> omega
                      · split at p2 <;> omega
                      · split at p1 <;> omega
                      · split at p2 <;> omega
                    · rintro ⟨⟨⟨⟨p1, p2⟩, p3, p4⟩, p5, p6⟩, p7, p8⟩
                      refine ⟨⟨⟨?_, ?_⟩, p3, p4⟩, p5, p6⟩
                      · split <;> omega
                      · split <;> omega
        · have e : u8n x = 0 := by unfold u8n; rw [if_pos (by omega)]
          rw [if_neg b2, e]
          simp only [if_neg (by omega : ¬ (x = 0 ∨ 0 = 4)), if_true]
          exact ih t hl
