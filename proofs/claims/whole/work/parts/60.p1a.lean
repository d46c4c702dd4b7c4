/-! ===== a single call on a new broker: the class's side ===== -/
theorem e_TryR {α ρ : Type} {c a : Nat} {Pk : Nat → Hp → Option ((Nat ⊕ α) × Hp)} {rs : Nat → Option ρ} {f : α → Hp → Option (ρ × Hp)} {h h1 : Hp} {v : α} (hk : hkd h a = c + 1) (hp : Pk a h = some (.inr v, h1)) : hTry c (some a) Pk rs f h = f v h1 := by
  unfold hTry
  dsimp only
  rw [if_pos hk, hp]
theorem e_TryL {α ρ : Type} {c a e : Nat} {Pk : Nat → Hp → Option ((Nat ⊕ α) × Hp)} {rs : Nat → Option ρ} {f : α → Hp → Option (ρ × Hp)} {h h1 : Hp} {k : ρ} (hk : hkd h a = c + 1) (hp : Pk a h = some (.inl e, h1)) (hr : rs e = some k) : hTry c (some a) Pk rs f h = some (k, h1) := by
  unfold hTry
  dsimp only
  rw [if_pos hk, hp]
  dsimp only
  rw [hr]
def inCon (v : Int32) : Prop := ¬ v < 0 ∧ v < 8
theorem inCon.nat {v : Int32} (h : inCon v) : v.toNatClampNeg < 8 ∧ 0 ≤ v := by
  obtain ⟨h1, h2⟩ := h
  refine ⟨?_, Int32.not_lt.mp h1⟩
  have e1 : v.toInt < 8 := Int32.lt_iff_toInt_lt.mp h2
  show v.toInt.toNat < 8
  omega
theorem conOf_in {h : Hp} {x k : Nat} {v : Int32} (hC : CoK h x 8) (hv : inCon v) (hk : v.toNatClampNeg = k) : C_X11_connectionOf x v h = some (.inr (some (x + 2 + 4 * k)), h) := by
  obtain ⟨n1, n2⟩ := hv.nat
  obtain ⟨c1, c2, c3, c4, c5, c6⟩ := hC
  unfold C_X11_connectionOf
  rw [if_neg hv.1, if_pos hv.2, e_gR (c := 13) c1]
  show hAr 4 (hfr h 1300 x) v _ h = _
  rw [c2, e_Ar (t := 4) c3 (by rw [c4]; exact ⟨n2, n1⟩), hk, (c6 k (by omega)).1]
  rfl
theorem conOf_out {h : Hp} {x : Nat} {v : Int32} (hv : ¬ inCon v) : C_X11_connectionOf x v h = some (.inl 0, hsk h 6) := by
  unfold C_X11_connectionOf
  by_cases h1 : v < 0
  · rw [if_pos h1]; rfl
  · rw [if_neg h1, if_neg (fun z => hv ⟨h1, z⟩)]; rfl
/-- a call that begins with the connection: in range, or IndexOutOfBounds -/
theorem callC_out {α : Type} {h : Hp} {x : Nat} {v : Int32} {f : Option Nat → Hp → Option ((Nat ⊕ α) × Hp)} (hx : hkd h x = 14) (hv : ¬ inCon v) : hCx 13 (some x) (fun a => C_X11_connectionOf a v) f h = some (.inl 0, hsk h 6) := by
  rw [e_Cx (c := 13) hx]
  exact e_bxL (conOf_out hv)
theorem callC_in {α : Type} {h : Hp} {x k : Nat} {v : Int32} {f : Option Nat → Hp → Option ((Nat ⊕ α) × Hp)} (hC : CoK h x 8) (hv : inCon v) (hk : v.toNatClampNeg = k) : hCx 13 (some x) (fun a => C_X11_connectionOf a v) f h = f (some (x + 2 + 4 * k)) h := by
  rw [e_Cx (c := 13) hC.1]
  exact e_bxR (conOf_in hC hv hk)
/-- the model's side of the same -/
theorem m_isCon (v : Int32) (r : RS) : R_isConnection v r = some (if ¬ v < 0 ∧ v < 8 then 1 else 0, r) := by
  unfold R_isConnection
  by_cases h1 : v < 0
  · rw [if_pos h1, if_neg (fun z => z.1 h1)]; rfl
  · rw [if_neg h1]
    by_cases h2 : (8 : Int32) ≤ v
    · rw [if_pos h2, if_neg (fun z => absurd z.2 (Int32.not_lt.mpr h2))]; rfl
    · rw [if_neg h2, if_pos ⟨h1, Int32.not_le.mp h2⟩]; rfl
theorem m_ref (v : Int32) (r : RS) : R_refuses v r = some (if v = 0 then 0 else 1, sI r 0 v) := by
  unfold R_refuses
  show (if v = 0 then zt (0 : Int32) else zt (1 : Int32)) (sI r 0 v) = _
  by_cases h : v = 0
  · rw [if_pos h, if_pos h]; rfl
  · rw [if_neg h, if_neg h]; rfl
theorem m_thr (r : RS) : R_thrown r = some (r.1 0, r) := rfl
