/-! ===== the way's rows make no difference to what only sends ===== -/
section GM0
variable {A : Nat → Nat → Int32} {α ρ : Type} {k : Nat} {r : RS}
def tw (A : Nat → Nat → Int32) (r : RS) : RS := (r.1, fun k => if 31 ≤ k ∧ k ≤ 37 then A k else r.2.1 k, r.2.2)
theorem tw_o (hk : ¬ (31 ≤ k ∧ k ≤ 37)) : (tw A r).2.1 k = r.2.1 k := if_neg hk
theorem tw_i (hk : 31 ≤ k ∧ k ≤ 37) : (tw A r).2.1 k = A k := if_pos hk
theorem tw_sA {n : Nat} {v : Int32} (hk : ¬ (31 ≤ k ∧ k ≤ 37)) : sA (tw A r) k n v = tw A (sA r k n v) := by
  refine Prod.ext rfl (Prod.ext ?_ rfl)
  funext j
  show (if j = k then upd ((tw A r).2.1 j) n v else (tw A r).2.1 j) = if 31 ≤ j ∧ j ≤ 37 then A j else if j = k then upd (r.2.1 j) n v else r.2.1 j
  by_cases e : j = k
  · rw [if_pos e, e, tw_o hk, if_neg hk, if_pos rfl]
  · rw [if_neg e, if_neg e]
    rfl
def Gw (A : Nat → Nat → Int32) (P : RS → Option (α × RS)) : Prop := ∀ r v x, P (tw A r) = some (v, x) → ∃ r', x = tw A r' ∧ P r = some (v, r') ∧ ∀ k, 31 ≤ k → k ≤ 37 → r'.2.1 k = r.2.1 k
theorem gm_rt {v : α} : Gw A (rt v) := by
  intro r w x e
  cases e
  exact ⟨r, rfl, rfl, fun _ _ _ => rfl⟩
theorem gm_no : Gw A (no (α := α)) := by
  intro r w x e
  cases e
theorem gm_gd {q : Prop} [Decidable q] {P : RS → Option (α × RS)} (hP : Gw A P) : Gw A (gd q P) := by
  intro r w x e
  have e' : (if q then P (tw A r) else none) = some (w, x) := e
  by_cases z : q
  · rw [if_pos z] at e'
    obtain ⟨r', q1, q2, q3⟩ := hP r w x e'
    exact ⟨r', q1, by show (if q then P r else none) = _; rw [if_pos z]; exact q2, q3⟩
  · rw [if_neg z] at e'
    cases e'
theorem gm_zt {v : Int32} : Gw A (zt v) := gm_gd gm_rt
theorem gm_bd {P : RS → Option (α × RS)} {f : α → RS → Option (ρ × RS)} (hP : Gw A P) (hf : ∀ v, Gw A (f v)) : Gw A (bd P f) := by
  intro r w x e
  cases z : P (tw A r) with
  | none =>
    rw [show bd P f (tw A r) = none by unfold bd; rw [z]] at e
    cases e
  | some q =>
    obtain ⟨v, x2⟩ := q
    rw [e_bd z] at e
    obtain ⟨r3, q1, q2, q3⟩ := hP r v x2 z
    rw [q1] at e
    obtain ⟨r', p1, p2, p3⟩ := hf v r3 w x e
    exact ⟨r', p1, by rw [e_bd q2]; exact p2, fun k h1 h2 => (p3 k h1 h2).trans (q3 k h1 h2)⟩
theorem gm_if {q : Prop} [Decidable q] {P Q : RS → Option (α × RS)} (hP : Gw A P) (hQ : Gw A Q) : Gw A (if q then P else Q) := by
  by_cases z : q
  · rw [if_pos z]; exact hP
  · rw [if_neg z]; exact hQ
theorem gm_lq {β : Type} {v : β} {f : β → RS → Option (ρ × RS)} (hf : ∀ v, Gw A (f v)) : Gw A (lq v f) := hf v
theorem gm_rI {f : Int32 → RS → Option (ρ × RS)} (hf : ∀ v, Gw A (f v)) : Gw A (rI k f) := fun r w x e => hf (r.1 k) r w x e
theorem gm_wI {v : Int32} {P : RS → Option (ρ × RS)} (hP : Gw A P) : Gw A (wI k v P) := fun r w x e => hP (sI r k v) w x e
theorem gm_rA {i : Int32} {f : Int32 → RS → Option (ρ × RS)} (hk : ¬ (31 ≤ k ∧ k ≤ 37)) (hf : ∀ v, Gw A (f v)) : Gw A (rA k i f) := by
  intro r w x e
  have e' : (if inr i (mL k) then f ((tw A r).2.1 k i.toNatClampNeg) (tw A r) else none) = some (w, x) := e
  by_cases z : inr i (mL k)
  · rw [if_pos z] at e'
    rw [tw_o hk] at e'
    obtain ⟨r', q1, q2, q3⟩ := hf _ r w x e'
    exact ⟨r', q1, by show (if inr i (mL k) then f (r.2.1 k i.toNatClampNeg) r else none) = _; rw [if_pos z]; exact q2, q3⟩
  · rw [if_neg z] at e'
    cases e'
theorem gm_rL {i : Int32} {f : Int64 → RS → Option (ρ × RS)} (hf : ∀ v, Gw A (f v)) : Gw A (rL k i f) := by
  intro r w x e
  have e' : (if inr i (mL k) then f (r.2.2 k i.toNatClampNeg) (tw A r) else none) = some (w, x) := e
  by_cases z : inr i (mL k)
  · rw [if_pos z] at e'
    obtain ⟨r', q1, q2, q3⟩ := hf _ r w x e'
    exact ⟨r', q1, by show (if inr i (mL k) then f (r.2.2 k i.toNatClampNeg) r else none) = _; rw [if_pos z]; exact q2, q3⟩
  · rw [if_neg z] at e'
    cases e'
theorem gm_wA {i v : Int32} {P : RS → Option (ρ × RS)} (hk : ¬ (31 ≤ k ∧ k ≤ 37)) (hP : Gw A P) : Gw A (wA k i v P) := by
  intro r w x e
  have e' : (if inr i (mL k) then P (sA (tw A r) k i.toNatClampNeg v) else none) = some (w, x) := e
  by_cases z : inr i (mL k)
  · rw [if_pos z, tw_sA hk] at e'
    obtain ⟨r', q1, q2, q3⟩ := hP _ w x e'
    refine ⟨r', q1, by show (if inr i (mL k) then P (sA r k i.toNatClampNeg v) else none) = _; rw [if_pos z]; exact q2, fun j h1 h2 => ?_⟩
    rw [q3 j h1 h2]
    show (if j = k then _ else _) = _
    rw [if_neg (fun y => hk (by rw [← y]; exact ⟨h1, h2⟩))]
  · rw [if_neg z] at e'
    cases e'
end GM0
