/-! ===== pure: weakest preconditions ===== -/
def wp {S ρ : Type} (P : S → Option (ρ × S)) (σ : S) (Q : ρ → S → Prop) : Prop := ∃ v σ', P σ = some (v, σ') ∧ Q v σ'
section WPG
variable {S ρ α : Type} {σ σ' : S} {Q : ρ → S → Prop}
theorem wp_eq {P P' : S → Option (ρ × S)} (e : P σ = P' σ') : wp P σ Q ↔ wp P' σ' Q := by
  unfold wp
  rw [e]
theorem wp_rt {v : ρ} : wp (rt v) σ Q ↔ Q v σ := ⟨fun ⟨v', σ', e, q⟩ => by
  have e' : some (v, σ) = some (v', σ') := e
  cases e'
  exact q, fun q => ⟨v, σ, rfl, q⟩⟩
theorem wp_bd {x : S → Option (α × S)} {f : α → S → Option (ρ × S)} : wp (bd x f) σ Q ↔ wp x σ (fun v σ1 => wp (f v) σ1 Q) := by
  unfold wp bd
  constructor
  · rintro ⟨v, σ', e, q⟩
    cases hx : x σ with
    | none => rw [hx] at e; cases e
    | some p =>
      obtain ⟨a, σ1⟩ := p
      rw [hx] at e
      exact ⟨a, σ1, rfl, v, σ', e, q⟩
  · rintro ⟨a, σ1, hx, v, σ', e, q⟩
    exact ⟨v, σ', by rw [hx]; exact e, q⟩
theorem wp_gd {q : Prop} [Decidable q] {P : S → Option (ρ × S)} : wp (gd q P) σ Q ↔ q ∧ wp P σ Q := by
  unfold wp gd
  by_cases hq : q
  · simp only [hq, if_true, true_and]
  · simp only [hq, if_false, false_and]
    exact ⟨fun ⟨_, _, e, _⟩ => (by cases e), fun z => z.elim⟩
theorem wp_lq {v : α} {f : α → S → Option (ρ × S)} : wp (lq v f) σ Q ↔ wp (f v) σ Q := Iff.rfl
theorem wp_ite {q : Prop} [Decidable q] {P P' : S → Option (ρ × S)} : wp (if q then P else P') σ Q ↔ (q → wp P σ Q) ∧ (¬ q → wp P' σ Q) := by
  by_cases hq : q
  · rw [if_pos hq]; exact ⟨fun z => ⟨fun _ => z, fun n => absurd hq n⟩, fun z => z.1 hq⟩
  · rw [if_neg hq]; exact ⟨fun z => ⟨fun n => absurd n hq, fun _ => z⟩, fun z => z.2 hq⟩
theorem wp_pos {q : Prop} [Decidable q] {P P' : S → Option (ρ × S)} (hq : q) : wp (if q then P else P') σ Q ↔ wp P σ Q := by rw [if_pos hq]
theorem wp_neg {q : Prop} [Decidable q] {P P' : S → Option (ρ × S)} (hq : ¬ q) : wp (if q then P else P') σ Q ↔ wp P' σ Q := by rw [if_neg hq]
theorem wp.mono {P : S → Option (ρ × S)} {Q' : ρ → S → Prop} (h : wp P σ Q) (hm : ∀ v σ', Q v σ' → Q' v σ') : wp P σ Q' := by
  obtain ⟨v, σ', e, q⟩ := h
  exact ⟨v, σ', e, hm v σ' q⟩
theorem wp.seq {x : S → Option (α × S)} {f : α → S → Option (ρ × S)} {Q1 : α → S → Prop} (h : wp x σ Q1) (hf : ∀ v σ1, Q1 v σ1 → wp (f v) σ1 Q) : wp (bd x f) σ Q := wp_bd.mpr (h.mono hf)
theorem wp_zt {v : Int32} {Q : Int32 → S → Prop} : wp (zt v) σ Q ↔ (v = 0 ∨ v = 1) ∧ Q v σ := by
  unfold zt
  rw [wp_gd, wp_rt]
theorem wp.get {P : S → Option (ρ × S)} {v : ρ} (e : P σ = some (v, σ')) (q : Q v σ') : wp P σ Q := ⟨v, σ', e, q⟩
end WPG
/-! ===== the model's steps ===== -/
section WPM
variable {ρ : Type} {r : RS} {Q : ρ → RS → Prop} {k : Nat} {i : Int32}
theorem wp_rI {f : Int32 → RS → Option (ρ × RS)} : wp (rI k f) r Q ↔ wp (f (r.1 k)) r Q := Iff.rfl
theorem wp_wI {v : Int32} {P : RS → Option (ρ × RS)} : wp (wI k v P) r Q ↔ wp P (sI r k v) Q := Iff.rfl
theorem wp_rA {f : Int32 → RS → Option (ρ × RS)} (hi : inr i (mL k)) : wp (rA k i f) r Q ↔ wp (f (r.2.1 k i.toNatClampNeg)) r Q := wp_eq (if_pos hi)
theorem wp_rL {f : Int64 → RS → Option (ρ × RS)} (hi : inr i (mL k)) : wp (rL k i f) r Q ↔ wp (f (r.2.2 k i.toNatClampNeg)) r Q := wp_eq (if_pos hi)
theorem wp_wA {v : Int32} {P : RS → Option (ρ × RS)} (hi : inr i (mL k)) : wp (wA k i v P) r Q ↔ wp P (sA r k i.toNatClampNeg v) Q := wp_eq (if_pos hi)
theorem wp_wL {v : Int64} {P : RS → Option (ρ × RS)} (hi : inr i (mL k)) : wp (wL k i v P) r Q ↔ wp P (sL r k i.toNatClampNeg v) Q := wp_eq (if_pos hi)
end WPM
section RDM
variable {r : RS} {k j i n : Nat} {v : Int32} {w : Int64}
theorem sI_1 : (sI r k v).1 j = if j = k then v else r.1 j := rfl
theorem sI_2 : (sI r k v).2 = r.2 := rfl
theorem sA_1 : (sA r k i v).1 = r.1 := rfl
theorem sA_2 : (sA r k i v).2.1 j n = if j = k ∧ n = i then v else r.2.1 j n := by
  show (if j = k then upd (r.2.1 j) i v else r.2.1 j) n = _
  by_cases h : j = k
  · rw [if_pos h]
    show (if n = i then v else r.2.1 j n) = _
    by_cases h2 : n = i
    · rw [if_pos h2, if_pos ⟨h, h2⟩]
    · rw [if_neg h2, if_neg (fun z => h2 z.2)]
  · rw [if_neg h, if_neg (fun z => h z.1)]
theorem sA_3 : (sA r k i v).2.2 = r.2.2 := rfl
theorem sL_1 : (sL r k i w).1 = r.1 := rfl
theorem sL_2 : (sL r k i w).2.1 = r.2.1 := rfl
theorem sL_3 : (sL r k i w).2.2 j n = if j = k ∧ n = i then w else r.2.2 j n := by
  show (if j = k then vp_updL (r.2.2 j) i w else r.2.2 j) n = _
  by_cases h : j = k
  · rw [if_pos h]
    show (if n = i then w else r.2.2 j n) = _
    by_cases h2 : n = i
    · rw [if_pos h2, if_pos ⟨h, h2⟩]
    · rw [if_neg h2, if_neg (fun z => h2 z.2)]
  · rw [if_neg h, if_neg (fun z => h z.1)]
theorem sA_o (h : j ≠ k) : (sA r k i v).2.1 j = r.2.1 j := if_neg h
theorem sL_o (h : j ≠ k) : (sL r k i w).2.2 j = r.2.2 j := if_neg h
end RDM
/-! ===== the class's steps ===== -/
section WPH
variable {ρ α : Type} {h : Hp} {a : Nat} {Q : ρ → Hp → Prop}
theorem wp_gI {c k : Nat} {f : Int32 → Hp → Option (ρ × Hp)} (hk : hkd h a = c + 1) : wp (hgI c k (some a) f) h Q ↔ wp (f (hfi h (100 * c + k) a)) h Q := wp_eq (e_gI hk)
theorem wp_gL {c k : Nat} {f : Int64 → Hp → Option (ρ × Hp)} (hk : hkd h a = c + 1) : wp (hgL c k (some a) f) h Q ↔ wp (f (hfl h (100 * c + k) a)) h Q := wp_eq (e_gL hk)
theorem wp_gR {c k : Nat} {f : Option Nat → Hp → Option (ρ × Hp)} (hk : hkd h a = c + 1) : wp (hgR c k (some a) f) h Q ↔ wp (f (hfr h (100 * c + k) a)) h Q := wp_eq (e_gR hk)
theorem wp_pI {c k : Nat} {v : Int32} {P : Hp → Option (ρ × Hp)} (hk : hkd h a = c + 1) : wp (hpI c k (some a) v P) h Q ↔ wp P (sfi h (100 * c + k) a v) Q := wp_eq (e_pI hk)
theorem wp_pL {c k : Nat} {v : Int64} {P : Hp → Option (ρ × Hp)} (hk : hkd h a = c + 1) : wp (hpL c k (some a) v P) h Q ↔ wp P (sfl h (100 * c + k) a v) Q := wp_eq (e_pL hk)
theorem wp_pR {c k : Nat} {v : Option Nat} {P : Hp → Option (ρ × Hp)} (hk : hkd h a = c + 1) : wp (hpR c k (some a) v P) h Q ↔ wp P (sfr h (100 * c + k) a v) Q := wp_eq (e_pR hk)
theorem wp_pZ {c k : Nat} {v : Int32} {P : Hp → Option (ρ × Hp)} (hv : v = 0 ∨ v = 1) (hk : hkd h a = c + 1) : wp (hpZ c k (some a) v P) h Q ↔ wp P (sfi h (100 * c + k) a v) Q := wp_eq (e_pZ hv hk)
theorem wp_Ai {i : Int32} {f : Int32 → Hp → Option (ρ × Hp)} (hk : hkd h a = 101) (hi : inr i (hln h a)) : wp (hAi (some a) i f) h Q ↔ wp (f (hai h a i.toNatClampNeg)) h Q := wp_eq (e_Ai hk hi)
theorem wp_Al {i : Int32} {f : Int64 → Hp → Option (ρ × Hp)} (hk : hkd h a = 104) (hi : inr i (hln h a)) : wp (hAl (some a) i f) h Q ↔ wp (f (hal h a i.toNatClampNeg)) h Q := wp_eq (e_Al hk hi)
theorem wp_Ar {t : Nat} {i : Int32} {f : Option Nat → Hp → Option (ρ × Hp)} (hk : hkd h a = 101 + t) (hi : inr i (hln h a)) : wp (hAr t (some a) i f) h Q ↔ wp (f (har h a i.toNatClampNeg)) h Q := wp_eq (e_Ar hk hi)
theorem wp_Wi {i v : Int32} {P : Hp → Option (ρ × Hp)} (hk : hkd h a = 101) (hi : inr i (hln h a)) : wp (hWi (some a) i v P) h Q ↔ wp P (sai h a (upd (hai h a) i.toNatClampNeg v)) Q := wp_eq (e_Wi hk hi)
theorem wp_Wl {i : Int32} {v : Int64} {P : Hp → Option (ρ × Hp)} (hk : hkd h a = 104) (hi : inr i (hln h a)) : wp (hWl (some a) i v P) h Q ↔ wp P (sal h a (vp_updL (hal h a) i.toNatClampNeg v)) Q := wp_eq (e_Wl hk hi)
theorem wp_Wr {t c : Nat} {i : Int32} {v : Option Nat} {P : Hp → Option (ρ × Hp)} (hk : hkd h a = 101 + t) (hi : inr i (hln h a)) (ho : okr h c v = true) : wp (hWr t c (some a) i v P) h Q ↔ wp P (sar h a (va_up (har h a) i.toNatClampNeg v)) Q := wp_eq (e_Wr hk hi ho)
theorem wp_Ln {t : Nat} {f : Int32 → Hp → Option (ρ × Hp)} (hk : hkd h a = 101 + t) : wp (hLn t (some a) f) h Q ↔ wp (f (Int32.ofNat (hln h a))) h Q := wp_eq (e_Ln hk)
theorem wp_Cv {c : Nat} {P : Nat → Hp → Option (α × Hp)} {f : α → Hp → Option (ρ × Hp)} (hk : hkd h a = c + 1) : wp (hCv c (some a) P f) h Q ↔ wp (P a) h (fun v h1 => wp (f v) h1 Q) := (wp_eq (e_Cv hk)).trans wp_bd
theorem wp_Na {t : Nat} {n : Int32} {f : Option Nat → Hp → Option (ρ × Hp)} (hn : 0 ≤ n ∧ n.toNatClampNeg ≤ 1000000) : wp (hNa t n f) h Q ↔ wp (f (some (hnx h))) (hay h t n.toNatClampNeg) Q := wp_eq (e_Na hn)
theorem wp_Nw {c n : Nat} {f : Option Nat → Hp → Option (ρ × Hp)} : wp (hNw c n f) h Q ↔ wp (f (some (hnx h))) (hob h c n) Q := Iff.rfl
theorem wp_Ci {P : Nat → Hp → Option (α × Hp)} {f : α → Hp → Option (ρ × Hp)} : wp (hCi (some a) P f) h Q ↔ wp (P a) h (fun v h1 => wp (f v) h1 Q) := wp_bd
theorem wp_Oi {P : Hp → Option (ρ × Hp)} : wp (hOi (some a) P) h Q ↔ wp P h Q := Iff.rfl
theorem wp_Nn {f : Nat → Hp → Option (ρ × Hp)} : wp (hNn (some a) f) h Q ↔ wp (f a) h Q := Iff.rfl
theorem wp_Cp {a0 : Nat} {sp dp n : Int32} {P : Hp → Option (ρ × Hp)} (hq : hkd h a0 = 101 ∧ hkd h a = 101 ∧ 0 ≤ sp ∧ 0 ≤ dp ∧ 0 ≤ n ∧ sp.toNatClampNeg + n.toNatClampNeg ≤ hln h a0 ∧ dp.toNatClampNeg + n.toNatClampNeg ≤ hln h a) : wp (hCp (some a0) sp (some a) dp n P) h Q ↔ wp P (sai h a (va_cpy (hai h a0) (hai h a) sp.toNatClampNeg dp.toNatClampNeg n.toNatClampNeg)) Q := wp_eq (if_pos hq)
theorem wp_Th {e : Nat} {Q : (Nat ⊕ ρ) → Hp → Prop} : wp (hTh (α := ρ) e) h Q ↔ Q (.inl e) (hsk h 6) := ⟨fun ⟨v', σ', e', q⟩ => by
  have e2 : some ((Sum.inl e : Nat ⊕ ρ), hsk h 6) = some (v', σ') := e'
  cases e2
  exact q, fun q => ⟨_, _, rfl, q⟩⟩
theorem wp_bx {S : Type} {σ : S} {x : S → Option ((Nat ⊕ α) × S)} {f : α → S → Option ((Nat ⊕ ρ) × S)} {Q : (Nat ⊕ ρ) → S → Prop} : wp (bx x f) σ Q ↔ wp x σ (fun v σ1 => match v with
    | .inr a => wp (f a) σ1 Q
    | .inl e => Q (.inl e) σ1) := by
  unfold wp bx
  constructor
  · rintro ⟨v, σ', e, q⟩
    cases hx : x σ with
    | none => rw [hx] at e; cases e
    | some p =>
      obtain ⟨b, σ1⟩ := p
      rw [hx] at e
      cases b with
      | inl b => cases e; exact ⟨_, _, rfl, q⟩
      | inr b => exact ⟨_, _, rfl, v, σ', e, q⟩
  · rintro ⟨b, σ1, hx, q⟩
    cases b with
    | inl b => exact ⟨_, _, by rw [hx], q⟩
    | inr b =>
      obtain ⟨v, σ', e, q⟩ := q
      exact ⟨v, σ', by rw [hx]; exact e, q⟩
theorem wp_Cx {c : Nat} {P : Nat → Hp → Option ((Nat ⊕ α) × Hp)} {f : α → Hp → Option ((Nat ⊕ ρ) × Hp)} {Q : (Nat ⊕ ρ) → Hp → Prop} (hk : hkd h a = c + 1) : wp (hCx c (some a) P f) h Q ↔ wp (P a) h (fun v h1 => match v with
    | .inr a => wp (f a) h1 Q
    | .inl e => Q (.inl e) h1) := (wp_eq (e_Cx hk)).trans wp_bx
end WPH
