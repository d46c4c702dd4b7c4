/-! ===== the class's heap: the next address, kinds, lengths, fields by (class and field) and address, elements by address and place, cells and slots made ===== -/
abbrev Hp : Type := Nat × (Nat → Nat) × (Nat → Nat) × (Nat → Nat → Int32) × (Nat → Nat → Int64) × (Nat → Nat → Option Nat) × (Nat → Nat → Int32) × (Nat → Nat → Int64) × (Nat → Nat → Option Nat) × Nat × Nat
def hnx (h : Hp) : Nat := h.1
def hkd (h : Hp) : Nat → Nat := h.2.1
def hln (h : Hp) : Nat → Nat := h.2.2.1
def hfi (h : Hp) : Nat → Nat → Int32 := h.2.2.2.1
def hfl (h : Hp) : Nat → Nat → Int64 := h.2.2.2.2.1
def hfr (h : Hp) : Nat → Nat → Option Nat := h.2.2.2.2.2.1
def hai (h : Hp) : Nat → Nat → Int32 := h.2.2.2.2.2.2.1
def hal (h : Hp) : Nat → Nat → Int64 := h.2.2.2.2.2.2.2.1
def har (h : Hp) : Nat → Nat → Option Nat := h.2.2.2.2.2.2.2.2.1
def hcs (h : Hp) : Nat × Nat := h.2.2.2.2.2.2.2.2.2
def u2 {α : Type} (f : Nat → Nat → α) (x y : Nat) (v : α) : Nat → Nat → α := fun a b => if a = x ∧ b = y then v else f a b
def u1 {α : Type} (f : Nat → α) (x : Nat) (v : α) : Nat → α := fun a => if a = x then v else f a
def sfi (h : Hp) (f a : Nat) (v : Int32) : Hp := (h.1, h.2.1, h.2.2.1, u2 h.2.2.2.1 f a v, h.2.2.2.2)
def sfl (h : Hp) (f a : Nat) (v : Int64) : Hp := (h.1, h.2.1, h.2.2.1, h.2.2.2.1, u2 h.2.2.2.2.1 f a v, h.2.2.2.2.2)
def sfr (h : Hp) (f a : Nat) (v : Option Nat) : Hp := (h.1, h.2.1, h.2.2.1, h.2.2.2.1, h.2.2.2.2.1, u2 h.2.2.2.2.2.1 f a v, h.2.2.2.2.2.2)
def sai (h : Hp) (a : Nat) (v : Nat → Int32) : Hp := (h.1, h.2.1, h.2.2.1, h.2.2.2.1, h.2.2.2.2.1, h.2.2.2.2.2.1, u1 h.2.2.2.2.2.2.1 a v, h.2.2.2.2.2.2.2)
def sal (h : Hp) (a : Nat) (v : Nat → Int64) : Hp := (h.1, h.2.1, h.2.2.1, h.2.2.2.1, h.2.2.2.2.1, h.2.2.2.2.2.1, h.2.2.2.2.2.2.1, u1 h.2.2.2.2.2.2.2.1 a v, h.2.2.2.2.2.2.2.2)
def sar (h : Hp) (a : Nat) (v : Nat → Option Nat) : Hp := (h.1, h.2.1, h.2.2.1, h.2.2.2.1, h.2.2.2.2.1, h.2.2.2.2.2.1, h.2.2.2.2.2.2.1, h.2.2.2.2.2.2.2.1, u1 h.2.2.2.2.2.2.2.2.1 a v, h.2.2.2.2.2.2.2.2.2)
/-- a new object of kind c, of n fields; a new array of kind t, of length n; a cell of which nothing is told -/
def hob (h : Hp) (c n : Nat) : Hp := (hnx h + 1, u1 (hkd h) (hnx h) (c + 1), hln h, fun f a => if a = hnx h then 0 else hfi h f a, fun f a => if a = hnx h then 0 else hfl h f a, fun f a => if a = hnx h then none else hfr h f a, hai h, hal h, har h, (hcs h).1 + 1, (hcs h).2 + n)
def hay (h : Hp) (t n : Nat) : Hp := (hnx h + 1, u1 (hkd h) (hnx h) (101 + t), u1 (hln h) (hnx h) n, hfi h, hfl h, hfr h, u1 (hai h) (hnx h) (fun _ => 0), u1 (hal h) (hnx h) (fun _ => 0), u1 (har h) (hnx h) (fun _ => none), (hcs h).1 + 1, (hcs h).2 + n)
def hsk (h : Hp) (n : Nat) : Hp := (hnx h + 1, u1 (hkd h) (hnx h) 0, hln h, hfi h, hfl h, hfr h, hai h, hal h, har h, (hcs h).1 + 1, (hcs h).2 + n)
def ftT : List (List Nat) := [[2, 0, 0, 3], [2, 0, 3, 0], [0, 3, 2, 2, 0, 3, 0, 2, 0, 0, 0, 2, 0], [2, 0, 3, 0, 0, 3], [2, 3, 0, 1, 0, 1, 2, 1], [2, 2, 0, 3, 2, 2, 2, 1, 0], [1, 2, 2, 2, 2, 0, 2, 2], [2, 2, 0, 0, 0], [2, 0], [2], [0, 2, 2, 2, 0, 2, 0, 2, 0, 2, 0, 2, 1, 1, 1, 0, 0, 0], [2, 0, 0, 0, 0, 0], [0, 2, 0], [2, 2, 2, 2, 2, 2, 2, 2, 2, 0, 0, 0, 0, 0, 0, 0], [0, 2, 2, 2, 2, 2, 2, 2, 2, 2, 2, 2, 2, 2, 2, 2, 2, 2, 2, 2, 2, 2, 2, 2, 2, 2, 2, 2, 2, 2, 2, 2, 2, 2, 2, 2, 2, 2, 2, 2, 2, 2, 2, 2, 2, 2, 2, 2, 2, 2, 2, 2, 2, 2, 2, 2, 2, 2, 2, 2, 2, 2, 2, 2, 2, 0, 0, 0, 0, 0, 0, 0, 0, 0, 0, 0, 0, 0, 0, 0, 0, 0, 2, 2, 2, 2, 2, 0, 2, 0, 2, 0, 2, 2, 2, 2, 2, 2, 0]]
def fty (c k : Nat) : Nat := (ftT.getD c []).getD k 0
def fV (h : Hp) (c a k : Nat) : Value := if fty c k = 1 then .long (hfl h (100 * c + k) a) else if fty c k = 2 then va_rf (hfr h (100 * c + k) a) else .int (hfi h (100 * c + k) a)
def aV (w : Wd) (h : Hp) (a t : Nat) : Cell := if t = 3 then arrV (w.2.1 3) (hln h a) (fun j => .long (hal h a j)) else if t < 3 then arrV (w.2.1 t) (hln h a) (fun j => .int (hai h a j)) else arrV (w.2.1 t) (hln h a) (fun j => va_rf (har h a j))
def cel (w : Wd) (h : Hp) (a : Nat) (H : Heap) : Prop :=
  (∀ c, c < 100 → hkd h a = c + 1 → ∃ r : vw_C, vwCl[c]? = some r ∧ t_OB a (w.1.1 c) r.2.2 (w.1.2 c) H (fV h c a)) ∧ ∀ t, hkd h a = 101 + t → H[a]? = some (aV w h a t)
def Rc (w : Wd) (h : Hp) (H : Heap) : Prop := H.size = hnx h ∧ (∀ a, hkd h a ≠ 0 → w.2.2.2.1 a ∧ a < hnx h) ∧ (∀ q, hnx h ≤ q → w.2.2.2.1 q) ∧ ∀ a, cel w h a H
theorem cel.kept {w : Wd} {h h' : Hp} {a : Nat} {H H' : Heap} (hc : cel w h a H) (hH : H'[a]? = H[a]?) (e1 : hkd h' a = hkd h a) (e2 : ∀ c k, fV h' c a k = fV h c a k) (e3 : ∀ t, aV w h' a t = aV w h a t) : cel w h' a H' := by
  refine ⟨fun c hc1 hk => ?_, fun t hk => ?_⟩
  · obtain ⟨r, h1, h2⟩ := hc.1 c hc1 (by rw [← e1]; exact hk)
    exact ⟨r, h1, t_OB.to (t_OB.kept h2 hH) (fun k _ => (e2 c k).symm)⟩
  · rw [hH, hc.2 t (by rw [← e1]; exact hk), e3]
/-- the class's own steps -/
def hgI {ρ : Type} (c k : Nat) (r : Option Nat) (f : Int32 → Hp → Option (ρ × Hp)) : Hp → Option (ρ × Hp) := fun h => match r with
  | some a => if hkd h a = c + 1 then f (hfi h (100 * c + k) a) h else none
  | none => none
def hgL {ρ : Type} (c k : Nat) (r : Option Nat) (f : Int64 → Hp → Option (ρ × Hp)) : Hp → Option (ρ × Hp) := fun h => match r with
  | some a => if hkd h a = c + 1 then f (hfl h (100 * c + k) a) h else none
  | none => none
def hgR {ρ : Type} (c k : Nat) (r : Option Nat) (f : Option Nat → Hp → Option (ρ × Hp)) : Hp → Option (ρ × Hp) := fun h => match r with
  | some a => if hkd h a = c + 1 then f (hfr h (100 * c + k) a) h else none
  | none => none
def hpI {ρ : Type} (c k : Nat) (r : Option Nat) (v : Int32) (P : Hp → Option (ρ × Hp)) : Hp → Option (ρ × Hp) := fun h => match r with
  | some a => if hkd h a = c + 1 then P (sfi h (100 * c + k) a v) else none
  | none => none
def hpL {ρ : Type} (c k : Nat) (r : Option Nat) (v : Int64) (P : Hp → Option (ρ × Hp)) : Hp → Option (ρ × Hp) := fun h => match r with
  | some a => if hkd h a = c + 1 then P (sfl h (100 * c + k) a v) else none
  | none => none
def hpR {ρ : Type} (c k : Nat) (r : Option Nat) (v : Option Nat) (P : Hp → Option (ρ × Hp)) : Hp → Option (ρ × Hp) := fun h => match r with
  | some a => if hkd h a = c + 1 then P (sfr h (100 * c + k) a v) else none
  | none => none
def hpZ {ρ : Type} (c k : Nat) (r : Option Nat) (v : Int32) (P : Hp → Option (ρ × Hp)) : Hp → Option (ρ × Hp) := gd (v = 0 ∨ v = 1) (hpI c k r v P)
def hAi {ρ : Type} (r : Option Nat) (i : Int32) (f : Int32 → Hp → Option (ρ × Hp)) : Hp → Option (ρ × Hp) := fun h => match r with
  | some a => if hkd h a = 101 ∧ inr i (hln h a) then f (hai h a i.toNatClampNeg) h else none
  | none => none
def hAl {ρ : Type} (r : Option Nat) (i : Int32) (f : Int64 → Hp → Option (ρ × Hp)) : Hp → Option (ρ × Hp) := fun h => match r with
  | some a => if hkd h a = 104 ∧ inr i (hln h a) then f (hal h a i.toNatClampNeg) h else none
  | none => none
def hAr {ρ : Type} (t : Nat) (r : Option Nat) (i : Int32) (f : Option Nat → Hp → Option (ρ × Hp)) : Hp → Option (ρ × Hp) := fun h => match r with
  | some a => if hkd h a = 101 + t ∧ inr i (hln h a) then f (har h a i.toNatClampNeg) h else none
  | none => none
def hWi {ρ : Type} (r : Option Nat) (i v : Int32) (P : Hp → Option (ρ × Hp)) : Hp → Option (ρ × Hp) := fun h => match r with
  | some a => if hkd h a = 101 ∧ inr i (hln h a) then P (sai h a (upd (hai h a) i.toNatClampNeg v)) else none
  | none => none
def hWl {ρ : Type} (r : Option Nat) (i : Int32) (v : Int64) (P : Hp → Option (ρ × Hp)) : Hp → Option (ρ × Hp) := fun h => match r with
  | some a => if hkd h a = 104 ∧ inr i (hln h a) then P (sal h a (vp_updL (hal h a) i.toNatClampNeg v)) else none
  | none => none
def okr (h : Hp) (c : Nat) (v : Option Nat) : Bool := match v with
  | some x => hkd h x == c + 1
  | none => true
/-- into an array of references: null, or an object of its kind -/
def hWr {ρ : Type} (t c : Nat) (r : Option Nat) (i : Int32) (v : Option Nat) (P : Hp → Option (ρ × Hp)) : Hp → Option (ρ × Hp) := fun h => match r with
  | some a => if hkd h a = 101 + t ∧ inr i (hln h a) ∧ okr h c v = true then P (sar h a (va_up (har h a) i.toNatClampNeg v)) else none
  | none => none
def hLn {ρ : Type} (t : Nat) (r : Option Nat) (f : Int32 → Hp → Option (ρ × Hp)) : Hp → Option (ρ × Hp) := fun h => match r with
  | some a => if hkd h a = 101 + t then f (Int32.ofNat (hln h a)) h else none
  | none => none
def hNw {ρ : Type} (c n : Nat) (f : Option Nat → Hp → Option (ρ × Hp)) : Hp → Option (ρ × Hp) := fun h => f (some (hnx h)) (hob h c n)
def hNa {ρ : Type} (t : Nat) (n : Int32) (f : Option Nat → Hp → Option (ρ × Hp)) : Hp → Option (ρ × Hp) := fun h => if 0 ≤ n ∧ n.toNatClampNeg ≤ 1000000 then f (some (hnx h)) (hay h t n.toNatClampNeg) else none
/-- a reference that isn't null -/
def hNn {ρ : Type} (r : Option Nat) (f : Nat → Hp → Option (ρ × Hp)) : Hp → Option (ρ × Hp) := match r with
  | some a => f a
  | none => no
/-- a method of an object of kind c -/
def hCv {ρ α : Type} (c : Nat) (r : Option Nat) (P : Nat → Hp → Option (α × Hp)) (f : α → Hp → Option (ρ × Hp)) : Hp → Option (ρ × Hp) := fun h => match r with
  | some a => if hkd h a = c + 1 then bd (P a) f h else none
  | none => none
def hCp {ρ : Type} (r1 : Option Nat) (sp : Int32) (r2 : Option Nat) (dp n : Int32) (P : Hp → Option (ρ × Hp)) : Hp → Option (ρ × Hp) := fun h => match r1, r2 with
  | some a0, some a => if hkd h a0 = 101 ∧ hkd h a = 101 ∧ 0 ≤ sp ∧ 0 ≤ dp ∧ 0 ≤ n ∧ sp.toNatClampNeg + n.toNatClampNeg ≤ hln h a0 ∧ dp.toNatClampNeg + n.toNatClampNeg ≤ hln h a then P (sai h a (va_cpy (hai h a0) (hai h a) sp.toNatClampNeg dp.toNatClampNeg n.toNatClampNeg)) else none
  | _, _ => none

/-! ===== rows of references ===== -/
abbrev voR : Option Nat → Option Value := fun r => some (va_rf r)
theorem va_rf_cat (r : Option Nat) : (va_rf r).category = 1 := by cases r <;> rfl
section RFR
variable {S ρ : Type} {g : Gm S ρ} {cc : ByteArray} {nL pc : Nat} {own : String} {lv lv' : List (Nat × Value)} {st : List Value} {P P1 P2 : S → Option (ρ × S)}
theorem s_rload_n (X : Cx g cc nL own) (j : Nat) {n : Fin 4} {i : Nat} {x : Option Nat} (d : decode cc pc = .ok (.aload_n n, 1)) (hi : (n : Nat) = i) (hj : lv[j]? = some (i, va_rf x)) (k : Sm g nL (pc + 1) lv (va_rf x :: st) P) : Sm g nL pc lv st P := by
  cases x with
  | none => exact Sm.stp X (fun _ _ _ _ _ _ _ _ _ _ _ _ _ _ _ ls hx hb hown hts hl k => lv_aload_nN hx hb d hi (lv_at hl j hj) (k ls hl)) k
  | some a => exact s_aload_n X j d hi hj k
theorem s_rload (X : Cx g cc nL own) (j : Nat) {i : Nat} {x : Option Nat} (d : decode cc pc = .ok (.aload i, 2)) (hj : lv[j]? = some (i, va_rf x)) (k : Sm g nL (pc + 2) lv (va_rf x :: st) P) : Sm g nL pc lv st P := by
  cases x with
  | none => exact Sm.stp X (fun _ _ _ _ _ _ _ _ _ _ _ _ _ _ _ ls hx hb hown hts hl k => lv_aloadN hx hb d (lv_at hl j hj) (k ls hl)) k
  | some a => exact s_aload X j d hj k
theorem s_rstore_n (X : Cx g cc nL own) {n : Fin 4} {i : Nat} {x : Option Nat} (d : decode cc pc = .ok (.astore_n n, 1)) (hi : (n : Nat) = i) (hn : i < nL) (hl : (i, va_rf x) :: lv.filter (fun q => !(q.1 == i) && !(q.1 + 1 == i && q.2.category == 2)) = lv') (k : Sm g nL (pc + 1) lv' st P) : Sm g nL pc lv (va_rf x :: st) P := by
  cases x with
  | none => exact Sm.stp X (fun _ _ _ _ _ _ _ _ _ _ _ _ _ _ _ ls hx hb hown hts hl2 k => lv_astore_nN hx hb d hi hl2 hn hl k) k
  | some a => exact s_astore_n X d hi hn hl k
theorem s_rstore (X : Cx g cc nL own) {i : Nat} {x : Option Nat} (d : decode cc pc = .ok (.astore i, 2)) (hn : i < nL) (hl : (i, va_rf x) :: lv.filter (fun q => !(q.1 == i) && !(q.1 + 1 == i && q.2.category == 2)) = lv') (k : Sm g nL (pc + 2) lv' st P) : Sm g nL pc lv (va_rf x :: st) P := by
  cases x with
  | none => exact Sm.stp X (fun _ _ _ _ _ _ _ _ _ _ _ _ _ _ _ ls hx hb hown hts hl2 k => lv_astoreN hx hb d hl2 hn hl k) k
  | some a => exact s_astore X d hn hl k
theorem s_null (X : Cx g cc nL own) (d : decode cc pc = .ok (.aconst_null, 1)) (k : Sm g nL (pc + 1) lv (va_rf none :: st) P) : Sm g nL pc lv st P := Sm.stp X (fun _ _ _ _ _ _ _ _ _ _ _ _ _ _ _ ls hx hb hown hts hl k => lv_null hx hb d (k ls hl)) k
theorem s_ifnull (X : Cx g cc nL own) {r : Option Nat} {off : Int} (tgt : Nat) (d : decode cc pc = .ok (.ifnull off, 3)) (ht : (pc : Int) + off = (tgt : Int)) (k1 : Sm g nL tgt lv st P1) (k2 : Sm g nL (pc + 3) lv st P2) : Sm g nL pc lv (va_rf r :: st) (if r = none then P1 else P2) := by
  cases r with
  | none => exact Sm.stp X (fun _ _ _ _ _ _ _ _ _ _ _ _ _ _ _ ls hx hb hown hts hl k => lv_ifnullN hx hb d ht (k ls hl)) k1
  | some a => exact Sm.stp X (fun _ _ _ _ _ _ _ _ _ _ _ _ _ _ _ ls hx hb hown hts hl k => lv_ifnull hx hb d (k ls hl)) k2
theorem s_ifnonnull (X : Cx g cc nL own) {r : Option Nat} {off : Int} (tgt : Nat) (d : decode cc pc = .ok (.ifnonnull off, 3)) (ht : (pc : Int) + off = (tgt : Int)) (k1 : Sm g nL tgt lv st P1) (k2 : Sm g nL (pc + 3) lv st P2) : Sm g nL pc lv (va_rf r :: st) (if r = none then P2 else P1) := by
  cases r with
  | none => exact Sm.stp X (fun _ _ _ _ _ _ _ _ _ _ _ _ _ _ _ ls hx hb hown hts hl k => lv_ifnonnullN hx hb d (k ls hl)) k2
  | some a => exact Sm.stp X (fun _ _ _ _ _ _ _ _ _ _ _ _ _ _ _ ls hx hb hown hts hl k => lv_ifnonnull hx hb d ht (k ls hl)) k1
theorem s_acmp_eq (X : Cx g cc nL own) {r q : Option Nat} {off : Int} (tgt : Nat) (d : decode cc pc = .ok (.if_acmp .eq off, 3)) (ht : (pc : Int) + off = (tgt : Int)) (k1 : Sm g nL tgt lv st P1) (k2 : Sm g nL (pc + 3) lv st P2) : Sm g nL pc lv (va_rf q :: va_rf r :: st) (if r = q then P1 else P2) := Sm.br X (fun _ _ _ _ _ _ _ _ _ _ _ _ _ _ _ ls hx hb k1 k2 => lv_acmp_eq hx hb d ht k1 k2) k1 k2
theorem s_acmp_ne (X : Cx g cc nL own) {r q : Option Nat} {off : Int} (tgt : Nat) (d : decode cc pc = .ok (.if_acmp .ne off, 3)) (ht : (pc : Int) + off = (tgt : Int)) (k1 : Sm g nL tgt lv st P1) (k2 : Sm g nL (pc + 3) lv st P2) : Sm g nL pc lv (va_rf q :: va_rf r :: st) (if r = q then P2 else P1) := Sm.br X (fun _ _ _ _ _ _ _ _ _ _ _ _ _ _ _ ls hx hb k1 k2 => lv_acmp_ne hx hb d ht k2 k1) k2 k1
theorem s_aret {g : Gm S (Option Nat)} {fr lo : Nat} {rty : FieldType} (X : Cx g cc nL own) (Y : Rx g voR (some rty) fr lo) (hrt : (∃ n, rty = .object n) ∨ ∃ t, rty = .array t) {v : Option Nat} (d : decode cc pc = .ok (.areturn, 1)) : Sm g nL pc lv [va_rf v] (rt v) := by
  obtain ⟨w, p, e, R, s, m, args, below, meth, c, Rl, cs, b, Qf⟩ := g
  obtain ⟨hx, hb, hml, hown, hts, hlocks, -⟩ := X
  obtain ⟨rfl, hr, -⟩ := Y
  refine ⟨fun σ r σ' h => by cases h; exact ⟨Nat.le_refl _, Nat.le_refl _⟩, fun σ r σ' H locs ls hP hR hS hl h1 h2 h3 h4 => ?_⟩
  cases hP
  exact W.aret hx hb hr hrt (by cases v with | none => exact Or.inl rfl | some a => exact Or.inr ⟨a, rfl⟩) (fun t ht hW => ⟨⟨rfl, by rw [ht]; exact hR⟩, hS.F ht⟩) hS.2.2 d
theorem s_lqr {v : Option Nat} {f : Option Nat → S → Option (ρ × S)} (k : ∀ x, Sm g nL pc lv (va_rf x :: st) (f x)) : Sm g nL pc lv (va_rf v :: st) (lq v f) := k v
end RFR
