/-! ===== pure: steps of the class's programs, evaluated ===== -/
section EVH
variable {ρ α : Type} {h : Hp} {a : Nat}
theorem e_gI {c k : Nat} {f : Int32 → Hp → Option (ρ × Hp)} (hk : hkd h a = c + 1) : hgI c k (some a) f h = f (hfi h (100 * c + k) a) h := if_pos hk
theorem e_gL {c k : Nat} {f : Int64 → Hp → Option (ρ × Hp)} (hk : hkd h a = c + 1) : hgL c k (some a) f h = f (hfl h (100 * c + k) a) h := if_pos hk
theorem e_gR {c k : Nat} {f : Option Nat → Hp → Option (ρ × Hp)} (hk : hkd h a = c + 1) : hgR c k (some a) f h = f (hfr h (100 * c + k) a) h := if_pos hk
theorem e_pI {c k : Nat} {v : Int32} {P : Hp → Option (ρ × Hp)} (hk : hkd h a = c + 1) : hpI c k (some a) v P h = P (sfi h (100 * c + k) a v) := if_pos hk
theorem e_pL {c k : Nat} {v : Int64} {P : Hp → Option (ρ × Hp)} (hk : hkd h a = c + 1) : hpL c k (some a) v P h = P (sfl h (100 * c + k) a v) := if_pos hk
theorem e_pR {c k : Nat} {v : Option Nat} {P : Hp → Option (ρ × Hp)} (hk : hkd h a = c + 1) : hpR c k (some a) v P h = P (sfr h (100 * c + k) a v) := if_pos hk
theorem e_gd {q : Prop} [Decidable q] {P : Hp → Option (ρ × Hp)} (hq : q) : gd q P h = P h := if_pos hq
theorem e_pZ {c k : Nat} {v : Int32} {P : Hp → Option (ρ × Hp)} (hv : v = 0 ∨ v = 1) (hk : hkd h a = c + 1) : hpZ c k (some a) v P h = P (sfi h (100 * c + k) a v) := (e_gd hv).trans (e_pI hk)
theorem e_Ai {i : Int32} {f : Int32 → Hp → Option (ρ × Hp)} (hk : hkd h a = 101) (hi : inr i (hln h a)) : hAi (some a) i f h = f (hai h a i.toNatClampNeg) h := if_pos ⟨hk, hi⟩
theorem e_Al {i : Int32} {f : Int64 → Hp → Option (ρ × Hp)} (hk : hkd h a = 104) (hi : inr i (hln h a)) : hAl (some a) i f h = f (hal h a i.toNatClampNeg) h := if_pos ⟨hk, hi⟩
theorem e_Ar {t : Nat} {i : Int32} {f : Option Nat → Hp → Option (ρ × Hp)} (hk : hkd h a = 101 + t) (hi : inr i (hln h a)) : hAr t (some a) i f h = f (har h a i.toNatClampNeg) h := if_pos ⟨hk, hi⟩
theorem e_Wi {i v : Int32} {P : Hp → Option (ρ × Hp)} (hk : hkd h a = 101) (hi : inr i (hln h a)) : hWi (some a) i v P h = P (sai h a (upd (hai h a) i.toNatClampNeg v)) := if_pos ⟨hk, hi⟩
theorem e_Wl {i : Int32} {v : Int64} {P : Hp → Option (ρ × Hp)} (hk : hkd h a = 104) (hi : inr i (hln h a)) : hWl (some a) i v P h = P (sal h a (vp_updL (hal h a) i.toNatClampNeg v)) := if_pos ⟨hk, hi⟩
theorem e_Wr {t c : Nat} {i : Int32} {v : Option Nat} {P : Hp → Option (ρ × Hp)} (hk : hkd h a = 101 + t) (hi : inr i (hln h a)) (ho : okr h c v = true) : hWr t c (some a) i v P h = P (sar h a (va_up (har h a) i.toNatClampNeg v)) := if_pos ⟨hk, hi, ho⟩
theorem e_Ln {t : Nat} {f : Int32 → Hp → Option (ρ × Hp)} (hk : hkd h a = 101 + t) : hLn t (some a) f h = f (Int32.ofNat (hln h a)) h := if_pos hk
theorem e_Cv {c : Nat} {P : Nat → Hp → Option (α × Hp)} {f : α → Hp → Option (ρ × Hp)} (hk : hkd h a = c + 1) : hCv c (some a) P f h = bd (P a) f h := if_pos hk
theorem e_Cx {c : Nat} {P : Nat → Hp → Option ((Nat ⊕ α) × Hp)} {f : α → Hp → Option ((Nat ⊕ ρ) × Hp)} (hk : hkd h a = c + 1) : hCx c (some a) P f h = bx (P a) f h := if_pos hk
theorem e_Na {t : Nat} {n : Int32} {f : Option Nat → Hp → Option (ρ × Hp)} (hn : 0 ≤ n ∧ n.toNatClampNeg ≤ 1000000) : hNa t n f h = f (some (hnx h)) (hay h t n.toNatClampNeg) := if_pos hn
theorem e_bd {S β : Type} {x : S → Option (α × S)} {f : α → S → Option (β × S)} {σ σ1 : S} {v : α} (hx : x σ = some (v, σ1)) : bd x f σ = f v σ1 := by
  unfold bd
  rw [hx]
theorem e_bxR {S β : Type} {x : S → Option ((Nat ⊕ α) × S)} {f : α → S → Option ((Nat ⊕ β) × S)} {σ σ1 : S} {v : α} (hx : x σ = some (.inr v, σ1)) : bx x f σ = f v σ1 := by
  unfold bx
  rw [hx]
theorem e_bxL {S β : Type} {x : S → Option ((Nat ⊕ α) × S)} {f : α → S → Option ((Nat ⊕ β) × S)} {σ σ1 : S} {e : Nat} (hx : x σ = some (.inl e, σ1)) : bx x f σ = some (.inl e, σ1) := by
  unfold bx
  rw [hx]
end EVH
/-! ===== what was there stays ===== -/
def Same (h h' : Hp) (b : Nat) : Prop := hkd h' b = hkd h b ∧ hln h' b = hln h b ∧ (∀ f, hfi h' f b = hfi h f b) ∧ (∀ f, hfl h' f b = hfl h f b) ∧ (∀ f, hfr h' f b = hfr h f b) ∧ hai h' b = hai h b ∧ hal h' b = hal h b ∧ har h' b = har h b
def Keep (h h' : Hp) : Prop := hnx h ≤ hnx h' ∧ ∀ b, b < hnx h → Same h h' b
theorem Same.rf (h : Hp) (b : Nat) : Same h h b := ⟨rfl, rfl, fun _ => rfl, fun _ => rfl, fun _ => rfl, rfl, rfl, rfl⟩
theorem Same.tr {h h1 h2 : Hp} {b : Nat} (x : Same h h1 b) (y : Same h1 h2 b) : Same h h2 b :=
  ⟨y.1.trans x.1, y.2.1.trans x.2.1, fun f => (y.2.2.1 f).trans (x.2.2.1 f), fun f => (y.2.2.2.1 f).trans (x.2.2.2.1 f), fun f => (y.2.2.2.2.1 f).trans (x.2.2.2.2.1 f), y.2.2.2.2.2.1.trans x.2.2.2.2.2.1, y.2.2.2.2.2.2.1.trans x.2.2.2.2.2.2.1, y.2.2.2.2.2.2.2.trans x.2.2.2.2.2.2.2⟩
theorem Keep.rf (h : Hp) : Keep h h := ⟨Nat.le_refl _, fun b _ => Same.rf h b⟩
theorem Keep.tr {h h1 h2 : Hp} (x : Keep h h1) (y : Keep h1 h2) : Keep h h2 := ⟨Nat.le_trans x.1 y.1, fun b hb => (x.2 b hb).tr (y.2 b (Nat.lt_of_lt_of_le hb x.1))⟩
theorem Keep.ob (h : Hp) (c n : Nat) : Keep h (hob h c n) := ⟨Nat.le_succ _, fun b hb => by
  have e : b ≠ hnx h := Nat.ne_of_lt hb
  refine ⟨?_, rfl, fun f => ?_, fun f => ?_, fun f => ?_, rfl, rfl, rfl⟩
  · show (if b = hnx h then _ else _) = _
    rw [if_neg e]
  · show (if b = hnx h then _ else _) = _
    rw [if_neg e]
  · show (if b = hnx h then _ else _) = _
    rw [if_neg e]
  · show (if b = hnx h then _ else _) = _
    rw [if_neg e]⟩
theorem Keep.ay (h : Hp) (t n : Nat) : Keep h (hay h t n) := ⟨Nat.le_succ _, fun b hb => by
  have e : b ≠ hnx h := Nat.ne_of_lt hb
  refine ⟨?_, ?_, fun f => rfl, fun f => rfl, fun f => rfl, ?_, ?_, ?_⟩
  · show (if b = hnx h then _ else _) = _
    rw [if_neg e]
  · show (if b = hnx h then _ else _) = _
    rw [if_neg e]
  · show (if b = hnx h then _ else _) = _
    rw [if_neg e]
  · show (if b = hnx h then _ else _) = _
    rw [if_neg e]
  · show (if b = hnx h then _ else _) = _
    rw [if_neg e]⟩
theorem Keep.sk (h : Hp) (n : Nat) : Keep h (hsk h n) := ⟨Nat.le_succ _, fun b hb => by
  have e : b ≠ hnx h := Nat.ne_of_lt hb
  refine ⟨?_, rfl, fun f => rfl, fun f => rfl, fun f => rfl, rfl, rfl, rfl⟩
  show (if b = hnx h then _ else _) = _
  rw [if_neg e]⟩
/-- writes at a change nothing elsewhere -/
theorem Same.fi {h : Hp} {f a b : Nat} {v : Int32} (e : b ≠ a) : Same h (sfi h f a v) b := ⟨rfl, rfl, fun g => by
  show (if g = f ∧ b = a then _ else _) = _
  rw [if_neg (fun z => e z.2)]; rfl, fun _ => rfl, fun _ => rfl, rfl, rfl, rfl⟩
theorem Same.fl {h : Hp} {f a b : Nat} {v : Int64} (e : b ≠ a) : Same h (sfl h f a v) b := ⟨rfl, rfl, fun _ => rfl, fun g => by
  show (if g = f ∧ b = a then _ else _) = _
  rw [if_neg (fun z => e z.2)]; rfl, fun _ => rfl, rfl, rfl, rfl⟩
theorem Same.fr {h : Hp} {f a b : Nat} {v : Option Nat} (e : b ≠ a) : Same h (sfr h f a v) b := ⟨rfl, rfl, fun _ => rfl, fun _ => rfl, fun g => by
  show (if g = f ∧ b = a then _ else _) = _
  rw [if_neg (fun z => e z.2)]; rfl, rfl, rfl, rfl⟩
theorem Same.ai {h : Hp} {a b : Nat} {v : Nat → Int32} (e : b ≠ a) : Same h (sai h a v) b := ⟨rfl, rfl, fun _ => rfl, fun _ => rfl, fun _ => rfl, by
  show (if b = a then _ else _) = _
  rw [if_neg e]; rfl, rfl, rfl⟩
theorem Same.al {h : Hp} {a b : Nat} {v : Nat → Int64} (e : b ≠ a) : Same h (sal h a v) b := ⟨rfl, rfl, fun _ => rfl, fun _ => rfl, fun _ => rfl, rfl, by
  show (if b = a then _ else _) = _
  rw [if_neg e]; rfl, rfl⟩
theorem Same.ar {h : Hp} {a b : Nat} {v : Nat → Option Nat} (e : b ≠ a) : Same h (sar h a v) b := ⟨rfl, rfl, fun _ => rfl, fun _ => rfl, fun _ => rfl, rfl, rfl, by
  show (if b = a then _ else _) = _
  rw [if_neg e]; rfl⟩
/-- a write into a cell that is new since h keeps h's -/
theorem Keep.fi {h h' : Hp} {f a : Nat} {v : Int32} (k : Keep h h') (ha : hnx h ≤ a) : Keep h (sfi h' f a v) := ⟨k.1, fun b hb => (k.2 b hb).tr (Same.fi (by omega))⟩
theorem Keep.fl {h h' : Hp} {f a : Nat} {v : Int64} (k : Keep h h') (ha : hnx h ≤ a) : Keep h (sfl h' f a v) := ⟨k.1, fun b hb => (k.2 b hb).tr (Same.fl (by omega))⟩
theorem Keep.fr {h h' : Hp} {f a : Nat} {v : Option Nat} (k : Keep h h') (ha : hnx h ≤ a) : Keep h (sfr h' f a v) := ⟨k.1, fun b hb => (k.2 b hb).tr (Same.fr (by omega))⟩
theorem Keep.ai {h h' : Hp} {a : Nat} {v : Nat → Int32} (k : Keep h h') (ha : hnx h ≤ a) : Keep h (sai h' a v) := ⟨k.1, fun b hb => (k.2 b hb).tr (Same.ai (by omega))⟩
theorem Keep.ar {h h' : Hp} {a : Nat} {v : Nat → Option Nat} (k : Keep h h') (ha : hnx h ≤ a) : Keep h (sar h' a v) := ⟨k.1, fun b hb => (k.2 b hb).tr (Same.ar (by omega))⟩
