/-! ===== topics and filters, on rows of bytes ===== -/
def tpc (bs : List Nat) : Bool := decide (1 ≤ bs.length ∧ bs.length ≤ 64) && bs.all (fun b => decide (b ≠ 43 ∧ b ≠ 35))
/-- wildcards stand alone in their levels; # at the end alone; p: a level begins -/
def lv : Bool → List Nat → Bool
  | _, [] => true
  | p, b :: t => (if b = 43 then p && (decide (t = []) || decide (t.head? = some 47)) else if b = 35 then p && decide (t = []) else true) && lv (decide (b = 47)) t
/-- the class's way to match -/
def mc : List Nat → List Nat → Bool
  | [], T => decide (T = [])
  | b :: F, T => if b = 35 then true else if b = 43 then mc F (T.dropWhile (fun c => decide (c ≠ 47))) else (match T with
    | c :: T2 => if b = c then mc F T2 else false
    | [] => decide (b = 47 ∧ F.head? = some 35))
/-- the model's way, level by level -/
def sp : List Nat → List Nat → List Nat × List Nat
  | b :: F, c :: T => if b ≠ 47 ∧ c = b then sp F T else (b :: F, c :: T)
  | F, T => (F, T)
def mme (g : List Nat → List Nat → Bool) (F T : List Nat) : Bool :=
  if (F = [] ∨ F.head? = some 47) ∧ (T = [] ∨ T.head? = some 47) then (if T = [] then decide (F = [] ∨ F = [47, 35]) else if F = [] then false else if F.tail = [] then decide (T.tail = []) else g F.tail T.tail) else false
def mm : Nat → List Nat → List Nat → Bool
  | 0, _, _ => false
  | n + 1, F, T => if F = [35] then true else if F.head? = some 43 then mme (mm n) F.tail (T.dropWhile (fun c => decide (c ≠ 47))) else mme (mm n) (sp F T).1 (sp F T).2
theorem dw_head (T : List Nat) : T.dropWhile (fun c => decide (c ≠ 47)) = [] ∨ (T.dropWhile (fun c => decide (c ≠ 47))).head? = some 47 := by
  induction T with
  | nil => exact Or.inl rfl
  | cons c T ih =>
    rw [List.dropWhile_cons]
    by_cases h : c = 47
    · subst h
      exact Or.inr rfl
    · rw [if_pos (by simpa using h)]
      exact ih
theorem lv_slash {p : Bool} {F : List Nat} (h : lv p (47 :: F) = true) : lv true F = true := by
  unfold lv at h
  simpa using h
theorem lv_hash {F : List Nat} (h : lv true F = true) : F.head? = some 35 ↔ F = [35] := by
  constructor
  · intro e
    cases F with
    | nil => cases e
    | cons b t =>
      have eb : b = 35 := by simpa using e
      subst eb
      unfold lv at h
      simp at h
      rw [h.1]
  · intro e
    rw [e]; rfl
/-- at the end of a level both go on alike -/
theorem mme_eq {g : List Nat → List Nat → Bool} {F T : List Nat} (hF : F = [] ∨ F.head? = some 47) (hT : T = [] ∨ T.head? = some 47) (hl : lv false F = true) (hg : ∀ F2, F = 47 :: F2 → ∀ T2, T = 47 :: T2 → F2 ≠ [] → mc F2 T2 = g F2 T2) : mc F T = mme g F T := by
  unfold mme
  rw [if_pos ⟨hF, hT⟩]
  cases F with
  | nil =>
    unfold mc
    by_cases h : T = []
    · simp [h]
    · simp [h]
  | cons b F2 =>
    have eb : b = 47 := by simpa using hF
    subst eb
    unfold mc
    rw [if_neg (by decide), if_neg (by decide)]
    cases T with
    | nil =>
      have := lv_hash (lv_slash hl)
      simp [this]
    | cons c T2 =>
      have ec : c = 47 := by simpa using hT
      subst ec
      rw [if_neg (fun z => by cases z), if_neg (fun z => by cases z)]
      dsimp only
      rw [if_pos rfl]
      by_cases h : F2 = []
      · rw [if_pos (show (47 :: F2).tail = [] from h), h]
        have e1 : mc [] T2 = decide (T2 = []) := rfl
        rw [e1]
        cases T2 <;> rfl
      · rw [if_neg (show ¬ (47 :: F2).tail = [] from h)]
        exact hg F2 rfl T2 rfl h
theorem mme_no {g : List Nat → List Nat → Bool} {F T : List Nat} (h : ¬ ((F = [] ∨ F.head? = some 47) ∧ (T = [] ∨ T.head? = some 47))) : mme g F T = false := by
  unfold mme
  rw [if_neg h]
/-- a level without wildcards -/
theorem sp_eq {g : List Nat → List Nat → Bool} : ∀ (F T : List Nat) (p : Bool), lv p F = true → (p = false ∨ (F.head? ≠ some 43 ∧ F.head? ≠ some 35)) → (∀ F2 T2, F2.length < F.length → lv true F2 = true → F2 ≠ [] → mc F2 T2 = g F2 T2) → mc F T = mme g (sp F T).1 (sp F T).2 := by
  intro F
  induction F with
  | nil =>
    intro T p _ _ _
    show mc [] T = mme g [] T
    by_cases hT : T = [] ∨ T.head? = some 47
    · exact mme_eq (Or.inl rfl) hT rfl (fun F2 e => by cases e)
    · rw [mme_no (fun z => hT z.2)]
      unfold mc
      have : T ≠ [] := fun z => hT (Or.inl z)
      simp [this]
  | cons b F ih =>
    intro T p hl hp hg
    have hl' := hl
    unfold lv at hl'
    rw [Bool.and_eq_true] at hl'
    have hb : b ≠ 43 ∧ b ≠ 35 := by
      rcases hp with hp | hp
      · subst hp
        constructor
        · intro e; subst e; simp at hl'
        · intro e; subst e; simp at hl'
      · constructor
        · intro e; subst e; exact hp.1 rfl
        · intro e; subst e; exact hp.2 rfl
    cases T with
    | nil =>
      show mc (b :: F) [] = mme g (b :: F) []
      by_cases h47 : b = 47
      · subst h47
        exact mme_eq (Or.inr rfl) (Or.inl rfl) (by unfold lv; simpa using hl') (fun F2 _ T2 e => by cases e)
      · rw [mme_no (fun z => by
          rcases z.1 with z1 | z1
          · cases z1
          · exact h47 (by simpa using z1))]
        unfold mc
        rw [if_neg hb.2, if_neg hb.1]
        simp [h47]
    | cons c T =>
      by_cases h : b ≠ 47 ∧ c = b
      · have e : sp (b :: F) (c :: T) = sp F T := by
          show (if b ≠ 47 ∧ c = b then sp F T else _) = _
          rw [if_pos h]
        rw [e]
        have e2 : mc (b :: F) (c :: T) = mc F T := by
          show (if b = 35 then true else if b = 43 then _ else if b = c then mc F T else false) = _
          rw [if_neg hb.2, if_neg hb.1, if_pos h.2.symm]
        rw [e2]
        refine ih T false ?_ (Or.inl rfl) (fun F2 T2 hlen => hg F2 T2 (by simp; omega))
        have := hl'.2
        rwa [decide_eq_false h.1] at this
      · have e : sp (b :: F) (c :: T) = (b :: F, c :: T) := by
          show (if b ≠ 47 ∧ c = b then sp F T else _) = _
          rw [if_neg h]
        rw [e]
        by_cases h47 : b = 47
        · subst h47
          by_cases hc : c = 47
          · subst hc
            refine mme_eq (Or.inr rfl) (Or.inr rfl) (by unfold lv; simpa using hl') (fun F2 e1 T2 e3 hne => ?_)
            cases e1
            cases e3
            exact hg F T (by simp) (lv_slash hl) hne
          · rw [mme_no (fun z => by
              rcases z.2 with z1 | z1
              · cases z1
              · exact hc (by simpa using z1))]
            show (if 47 = 35 then true else if 47 = 43 then _ else if 47 = c then mc F T else false) = _
            rw [if_neg (by decide), if_neg (by decide), if_neg (fun z => hc z.symm)]
        · rw [mme_no (fun z => by
            rcases z.1 with z1 | z1
            · cases z1
            · exact h47 (by simpa using z1))]
          show (if b = 35 then true else if b = 43 then _ else if b = c then mc F T else false) = _
          rw [if_neg hb.2, if_neg hb.1, if_neg (fun z => h ⟨h47, z.symm⟩)]
theorem mm_eq : ∀ (n : Nat) (F T : List Nat), F.length < n → lv true F = true → F ≠ [] → mc F T = mm n F T := by
  intro n
  induction n with
  | zero => intro F T h; omega
  | succ n ih =>
    intro F T h hl hne
    unfold mm
    cases F with
    | nil => exact absurd rfl hne
    | cons b F =>
      have hlen : F.length < n := by
        have : F.length + 1 < n + 1 := h
        omega
      have hl' := hl
      unfold lv at hl'
      rw [Bool.and_eq_true] at hl'
      by_cases h35 : b = 35
      · subst h35
        have e : F = [] := by simpa using hl'.1
        subst e
        rw [if_pos rfl]
        rfl
      · rw [if_neg (fun z => h35 (by cases z; rfl))]
        by_cases h43 : b = 43
        · subst h43
          rw [if_pos (show (43 :: F).head? = some 43 from rfl)]
          have e : mc (43 :: F) T = mc F (T.dropWhile (fun c => decide (c ≠ 47))) := by
            show (if 43 = 35 then true else if 43 = 43 then _ else _) = _
            rw [if_neg (by decide), if_pos rfl]
          rw [e]
          have hF : F = [] ∨ F.head? = some 47 := by
            have := hl'.1
            rw [if_pos rfl] at this
            simpa using this
          refine mme_eq hF (dw_head T) ?_ (fun F2 e1 T2 _ hne2 => ?_)
          · have := hl'.2
            rwa [decide_eq_false (by decide)] at this
          · refine ih F2 T2 ?_ ?_ hne2
            · rw [e1] at hlen
              simp at hlen
              omega
            · have := hl'.2
              rw [e1] at this
              exact lv_slash this
        · rw [if_neg (fun z => h43 (by simpa using z))]
          refine sp_eq (b :: F) T true hl (Or.inr ⟨fun z => h43 (by simpa using z), fun z => h35 (by simpa using z)⟩) (fun F2 T2 hlt hl2 hne2 => ih F2 T2 (by simp at hlt; omega) hl2 hne2)
/-- the filter's start: 0, or behind the name of a shared one -/
def shr : List Nat := [36, 115, 104, 97, 114, 101, 47]
def pre (bs : List Nat) : Bool := decide (bs.take 7 = shr)
def nmx : Nat → List Nat → Option Nat
  | _, [] => none
  | i, b :: t => if b = 47 then (if i = 7 ∨ pre t = true then none else some (i + 1)) else if b = 43 ∨ b = 35 then none else nmx (i + 1) t
def fst0 (bs : List Nat) : Option Nat := if pre bs = true then nmx 7 (bs.drop 7) else some 0
def fstart (bs : List Nat) : Option Nat := if 64 < bs.length then none else (match fst0 bs with
  | some i => if lv true (bs.drop i) = true ∧ i < bs.length then some i else none
  | none => none)
