/-! ===== an object that a program doesn't touch may as well be of no kind ===== -/
section GHK
variable {m c k t n : Nat} {α ρ : Type} {o o2 : Option Nat} {h : Hp}
def gk (m : Nat) (h : Hp) : Hp := (h.1, u1 h.2.1 m 66, h.2.2)
theorem kd_gk {a : Nat} : hkd (gk m h) a = if a = m then 66 else hkd h a := rfl
theorem kd_of {a q : Nat} (z : hkd (gk m h) a = q) (hq : q ≠ 66) : hkd h a = q := by
  rw [kd_gk] at z
  by_cases y : a = m
  · rw [if_pos y] at z
    exact absurd z.symm hq
  · rw [if_neg y] at z
    exact z
theorem gk_ob (hm : m < hnx h) : hob (gk m h) c n = gk m (hob h c n) := by
  have e : u1 (u1 h.2.1 m 66) (hnx h) (c + 1) = u1 (u1 h.2.1 (hnx h) (c + 1)) m 66 := by
    funext a
    show (if a = hnx h then c + 1 else if a = m then 66 else h.2.1 a) = if a = m then 66 else if a = hnx h then c + 1 else h.2.1 a
    by_cases y : a = m
    · rw [if_neg (by omega), if_pos y, if_pos y]
    · rw [if_neg y, if_neg y]
  show (_, u1 (u1 h.2.1 m 66) (hnx h) (c + 1), _) = (_, u1 (u1 h.2.1 (hnx h) (c + 1)) m 66, _)
  rw [e]
  rfl
def Gk (m : Nat) (P : Hp → Option (α × Hp)) : Prop := ∀ h, m < hnx h → ∀ v h1, P (gk m h) = some (v, h1) → ∃ h', h1 = gk m h' ∧ P h = some (v, h') ∧ m < hnx h'
theorem gk_rt {v : α} : Gk m (rt v) := by
  intro h hm w h1 e
  cases e
  exact ⟨h, rfl, rfl, hm⟩
theorem gk_no : Gk m (no (α := α)) := by
  intro h hm w h1 e
  cases e
theorem gk_gd {q : Prop} [Decidable q] {P : Hp → Option (α × Hp)} (hP : Gk m P) : Gk m (gd q P) := by
  intro h hm w h1 e
  have e' : (if q then P (gk m h) else none) = some (w, h1) := e
  by_cases z : q
  · rw [if_pos z] at e'
    obtain ⟨h', q1, q2, q3⟩ := hP h hm w h1 e'
    exact ⟨h', q1, by show (if q then P h else none) = _; rw [if_pos z]; exact q2, q3⟩
  · rw [if_neg z] at e'
    cases e'
theorem gk_zt {v : Int32} : Gk m (zt v) := gk_gd gk_rt
theorem gk_bd {P : Hp → Option (α × Hp)} {f : α → Hp → Option (ρ × Hp)} (hP : Gk m P) (hf : ∀ v, Gk m (f v)) : Gk m (bd P f) := by
  intro h hm w h1 e
  cases z : P (gk m h) with
  | none =>
    rw [show bd P f (gk m h) = none by unfold bd; rw [z]] at e
    cases e
  | some q =>
    obtain ⟨v, h2⟩ := q
    rw [e_bd z] at e
    obtain ⟨h3, q1, q2, q3⟩ := hP h hm v h2 z
    rw [q1] at e
    obtain ⟨h', p1, p2, p3⟩ := hf v h3 q3 w h1 e
    exact ⟨h', p1, by rw [e_bd q2]; exact p2, p3⟩
theorem gk_if {q : Prop} [Decidable q] {P Q : Hp → Option (α × Hp)} (hP : Gk m P) (hQ : Gk m Q) : Gk m (if q then P else Q) := by
  by_cases z : q
  · rw [if_pos z]; exact hP
  · rw [if_neg z]; exact hQ
theorem gk_lq {β : Type} {v : β} {f : β → Hp → Option (ρ × Hp)} (hf : ∀ v, Gk m (f v)) : Gk m (lq v f) := hf v
/-- a step that looks at something first -/
theorem gk_ck {q q' : Prop} [Decidable q] [Decidable q'] {x y : Option (ρ × Hp)} {w : ρ} {h1 : Hp} (e : (if q then x else none) = some (w, h1)) (hq : q → q') (k : q → x = some (w, h1) → ∃ h', h1 = gk m h' ∧ y = some (w, h') ∧ m < hnx h') : ∃ h', h1 = gk m h' ∧ (if q' then y else none) = some (w, h') ∧ m < hnx h' := by
  by_cases z : q
  · rw [if_pos z] at e
    rw [if_pos (hq z)]
    exact k z e
  · rw [if_neg z] at e
    cases e
theorem gk_gI {f : Int32 → Hp → Option (ρ × Hp)} (hc : c + 1 ≠ 66) (hf : ∀ v, Gk m (f v)) : Gk m (hgI c k o f) := by
  intro h hm w h1 e
  cases o with
  | none => cases e
  | some a => exact gk_ck (q := hkd (gk m h) a = c + 1) (q' := hkd h a = c + 1) e (fun z => kd_of z hc) (fun _ e' => hf _ h hm w h1 e')
theorem gk_gL {f : Int64 → Hp → Option (ρ × Hp)} (hc : c + 1 ≠ 66) (hf : ∀ v, Gk m (f v)) : Gk m (hgL c k o f) := by
  intro h hm w h1 e
  cases o with
  | none => cases e
  | some a => exact gk_ck (q := hkd (gk m h) a = c + 1) (q' := hkd h a = c + 1) e (fun z => kd_of z hc) (fun _ e' => hf _ h hm w h1 e')
theorem gk_gR {f : Option Nat → Hp → Option (ρ × Hp)} (hc : c + 1 ≠ 66) (hf : ∀ v, Gk m (f v)) : Gk m (hgR c k o f) := by
  intro h hm w h1 e
  cases o with
  | none => cases e
  | some a => exact gk_ck (q := hkd (gk m h) a = c + 1) (q' := hkd h a = c + 1) e (fun z => kd_of z hc) (fun _ e' => hf _ h hm w h1 e')
theorem gk_pI {v : Int32} {P : Hp → Option (ρ × Hp)} (hc : c + 1 ≠ 66) (hP : Gk m P) : Gk m (hpI c k o v P) := by
  intro h hm w h1 e
  cases o with
  | none => cases e
  | some a => exact gk_ck (q := hkd (gk m h) a = c + 1) (q' := hkd h a = c + 1) e (fun z => kd_of z hc) (fun _ e' => hP (sfi h (100 * c + k) a v) hm w h1 e')
theorem gk_pZ {v : Int32} {P : Hp → Option (ρ × Hp)} (hc : c + 1 ≠ 66) (hP : Gk m P) : Gk m (hpZ c k o v P) := gk_gd (gk_pI hc hP)
theorem gk_pR {v : Option Nat} {P : Hp → Option (ρ × Hp)} (hc : c + 1 ≠ 66) (hP : Gk m P) : Gk m (hpR c k o v P) := by
  intro h hm w h1 e
  cases o with
  | none => cases e
  | some a => exact gk_ck (q := hkd (gk m h) a = c + 1) (q' := hkd h a = c + 1) e (fun z => kd_of z hc) (fun _ e' => hP (sfr h (100 * c + k) a v) hm w h1 e')
theorem gk_Ai {i : Int32} {f : Int32 → Hp → Option (ρ × Hp)} (hf : ∀ v, Gk m (f v)) : Gk m (hAi o i f) := by
  intro h hm w h1 e
  cases o with
  | none => cases e
  | some a => exact gk_ck (q := hkd (gk m h) a = 101 ∧ inr i (hln h a)) (q' := hkd h a = 101 ∧ inr i (hln h a)) e (fun z => ⟨kd_of z.1 (by decide), z.2⟩) (fun _ e' => hf _ h hm w h1 e')
theorem gk_Ar {i : Int32} {f : Option Nat → Hp → Option (ρ × Hp)} (hf : ∀ v, Gk m (f v)) : Gk m (hAr t o i f) := by
  intro h hm w h1 e
  cases o with
  | none => cases e
  | some a => exact gk_ck (q := hkd (gk m h) a = 101 + t ∧ inr i (hln h a)) (q' := hkd h a = 101 + t ∧ inr i (hln h a)) e (fun z => ⟨kd_of z.1 (by omega), z.2⟩) (fun _ e' => hf _ h hm w h1 e')
theorem gk_Ln {f : Int32 → Hp → Option (ρ × Hp)} (hf : ∀ v, Gk m (f v)) : Gk m (hLn t o f) := by
  intro h hm w h1 e
  cases o with
  | none => cases e
  | some a => exact gk_ck (q := hkd (gk m h) a = 101 + t) (q' := hkd h a = 101 + t) e (fun z => kd_of z (by omega)) (fun _ e' => hf _ h hm w h1 e')
theorem gk_Wi {i v : Int32} {P : Hp → Option (ρ × Hp)} (hP : Gk m P) : Gk m (hWi o i v P) := by
  intro h hm w h1 e
  cases o with
  | none => cases e
  | some a => exact gk_ck (q := hkd (gk m h) a = 101 ∧ inr i (hln h a)) (q' := hkd h a = 101 ∧ inr i (hln h a)) e (fun z => ⟨kd_of z.1 (by decide), z.2⟩) (fun _ e' => hP (sai h a (upd (hai h a) i.toNatClampNeg v)) hm w h1 e')
theorem gk_okr {v : Option Nat} (hc : c + 1 ≠ 66) (z : okr (gk m h) c v = true) : okr h c v = true := by
  cases v with
  | none => rfl
  | some a =>
    have z' : (hkd (gk m h) a == c + 1) = true := z
    show (hkd h a == c + 1) = true
    rw [beq_iff_eq] at z' ⊢
    exact kd_of z' hc
theorem gk_Wr {i : Int32} {v : Option Nat} {P : Hp → Option (ρ × Hp)} (hc : c + 1 ≠ 66) (hP : Gk m P) : Gk m (hWr t c o i v P) := by
  intro h hm w h1 e
  cases o with
  | none => cases e
  | some a => exact gk_ck (q := hkd (gk m h) a = 101 + t ∧ inr i (hln h a) ∧ okr (gk m h) c v = true) (q' := hkd h a = 101 + t ∧ inr i (hln h a) ∧ okr h c v = true) e (fun z => ⟨kd_of z.1 (by omega), z.2.1, gk_okr hc z.2.2⟩) (fun _ e' => hP (sar h a (va_up (har h a) i.toNatClampNeg v)) hm w h1 e')
theorem gk_Nw {f : Option Nat → Hp → Option (ρ × Hp)} (hf : ∀ v, Gk m (f v)) : Gk m (hNw c n f) := by
  intro h hm w h1 e
  have e' : f (some (hnx h)) (hob (gk m h) c n) = some (w, h1) := e
  rw [gk_ob hm] at e'
  exact hf _ (hob h c n) (by show m < hnx h + 1; omega) w h1 e'
theorem gk_Cv {P : Nat → Hp → Option (α × Hp)} {f : α → Hp → Option (ρ × Hp)} (hc : c + 1 ≠ 66) (hP : ∀ a, Gk m (P a)) (hf : ∀ v, Gk m (f v)) : Gk m (hCv c o P f) := by
  intro h hm w h1 e
  cases o with
  | none => cases e
  | some a => exact gk_ck (q := hkd (gk m h) a = c + 1) (q' := hkd h a = c + 1) e (fun z => kd_of z hc) (fun _ e' => gk_bd (hP a) hf h hm w h1 e')
theorem gk_Ci {P : Nat → Hp → Option (α × Hp)} {f : α → Hp → Option (ρ × Hp)} (hP : ∀ a, Gk m (P a)) (hf : ∀ v, Gk m (f v)) : Gk m (hCi o P f) := by
  cases o with
  | none => exact gk_no
  | some a => exact gk_bd (hP a) hf
theorem gk_Oi {P : Hp → Option (ρ × Hp)} (hP : Gk m P) : Gk m (hOi o P) := by
  cases o with
  | none => exact gk_no
  | some a => exact hP
theorem gk_Cp {sp dp n : Int32} {P : Hp → Option (ρ × Hp)} (hP : Gk m P) : Gk m (hCp o sp o2 dp n P) := by
  intro h hm w h1 e
  cases o with
  | none => cases e
  | some a0 =>
    cases o2 with
    | none => cases e
    | some a => exact gk_ck (q := hkd (gk m h) a0 = 101 ∧ hkd (gk m h) a = 101 ∧ 0 ≤ sp ∧ 0 ≤ dp ∧ 0 ≤ n ∧ sp.toNatClampNeg + n.toNatClampNeg ≤ hln h a0 ∧ dp.toNatClampNeg + n.toNatClampNeg ≤ hln h a) (q' := hkd h a0 = 101 ∧ hkd h a = 101 ∧ 0 ≤ sp ∧ 0 ≤ dp ∧ 0 ≤ n ∧ sp.toNatClampNeg + n.toNatClampNeg ≤ hln h a0 ∧ dp.toNatClampNeg + n.toNatClampNeg ≤ hln h a) e (fun z => ⟨kd_of z.1 (by decide), kd_of z.2.1 (by decide), z.2.2⟩) (fun _ e' => hP (sai h a (va_cpy (hai h a0) (hai h a) sp.toNatClampNeg dp.toNatClampNeg n.toNatClampNeg)) hm w h1 e')
end GHK
