/-! ===== programs: a state goes to an answer and a state, or nowhere ===== -/
def bd {S α β : Type} (x : S → Option (α × S)) (f : α → S → Option (β × S)) : S → Option (β × S) := fun h => match x h with
  | some q => f q.1 q.2
  | none => none
def rt {S α : Type} (a : α) : S → Option (α × S) := fun h => some (a, h)
def gd {S α : Type} (q : Prop) [Decidable q] (P : S → Option (α × S)) : S → Option (α × S) := fun h => if q then P h else none
def no {S α : Type} : S → Option (α × S) := fun _ => none
theorem bd_some {S α β : Type} {x : S → Option (α × S)} {f : α → S → Option (β × S)} {h h2 : S} {b : β} (hp : bd x f h = some (b, h2)) : ∃ a h1, x h = some (a, h1) ∧ f a h1 = some (b, h2) := by
  unfold bd at hp
  cases hx : x h with
  | none => rw [hx] at hp; cases hp
  | some q => rw [hx] at hp; exact ⟨q.1, q.2, rfl, hp⟩
theorem gd_some {S α : Type} {q : Prop} [Decidable q] {P : S → Option (α × S)} {h h2 : S} {b : α} (hp : gd q P h = some (b, h2)) : q ∧ P h = some (b, h2) := by
  unfold gd at hp
  by_cases hq : q
  · rw [if_pos hq] at hp; exact ⟨hq, hp⟩
  · rw [if_neg hq] at hp; cases hp
/-! ===== the words that every method takes: those of the tables that stay ===== -/
def TB : List Cond := lw_tbl.filter goodWord
theorem TB_in {w : Cond} (h : w ∈ lw_tbl) (g : goodWord w = true) : w ∈ TB := List.mem_filter.mpr ⟨h, g⟩
theorem TB_good : GoodIn TB TB := fun w h => ⟨h, good_of_word (List.mem_filter.mp h).2⟩
theorem TB_t {w : Cond} (h : w ∈ tables_1) (g : goodWord w = true) : w ∈ TB := TB_in (List.mem_append_right _ h) g
/-! ===== the world's parameters: places of the classes' fields, array kinds, what else is known, which cells may change, the launch, an address ===== -/
abbrev Wd : Type := va_G × (Nat → ClassId) × (State → Prop) × (Nat → Prop) × Launch × Nat
def aty : List FieldType := [.int, .byte, .boolean, .long, .object RX0, .object RX8, .object RX9, .object RX1, .object RX7, .object RX3]
def tyl (cA : Nat → ClassId) : List (ClassId × FieldType) := (List.range 10).map fun k => (cA k, aty.getD k .int)
def GK (w : Wd) (U : State) : Prop := va_K w.1 vwCl (tyl w.2.1) U ∧ w.2.2.1 U
/-- what else is known stays, while only cells of the kind change; and a call's frame doesn't matter -/
def Wok (w : Wd) : Prop := (∀ (u U : State) (locs : List Loc), w.2.2.1 u → u.WarmedH U.vm → va_S w.2.2.2.1 u.heap U.heap locs → w.2.2.1 U) ∧ ∀ (U : State) (g : JFrame) (mk : MethodId) (a : Array Value), w.2.2.1 U → w.2.2.1 (U.calling g mk a)
theorem GK.moved {w : Wd} (hw : Wok w) {u U : State} {locs : List Loc} (h : GK w u) (hW : u.WarmedH U.vm) (hS : va_S w.2.2.2.1 u.heap U.heap locs) : GK w U := ⟨va_K.moved hW.alike h.1, hw.1 u U locs h.2 hW hS⟩
theorem GK.calling {w : Wd} (hw : Wok w) {U : State} (g : JFrame) (mk : MethodId) (a : Array Value) (h : GK w U) : GK w (U.calling g mk a) := ⟨va_K.moved (u := U) (U := U.calling g mk a) (Vm.Alike.refl U.vm) h.1, hw.2 U g mk a h.2⟩
/-! ===== the judgement ===== -/
abbrev Gm (S ρ : Type) : Type := Wd × Program × Env × Room × State × MethodId × Array Value × List Frame × Method × Code × (S → Heap → Prop) × (S → Nat × Nat) × (Nat × Nat) × (ρ → S → State → Prop)
def Sm {S ρ : Type} (g : Gm S ρ) (nL : Nat) (pc : Nat) (lv : List (Nat × Value)) (st : List Value) (P : S → Option (ρ × S)) : Prop := match g with
  | (w, p, e, R, s, m, args, below, meth, c, Rl, cs, b, Qf) =>
    (∀ σ r σ', P σ = some (r, σ') → (cs σ).1 ≤ (cs σ').1 ∧ (cs σ).2 ≤ (cs σ').2) ∧
    ∀ (σ : S) (r : ρ) (σ' : S) (H : Heap) (locs : List Loc) (ls : Array Slot), P σ = some (r, σ') → Rl σ H → va_S w.2.2.2.1 s.heap H locs → lv_has ls nL lv → b.1 ≤ (cs σ).1 → b.2 ≤ (cs σ).2 → (cs σ').1 ≤ b.1 + R.cells → (cs σ').2 ≤ b.2 + R.slots →
      W p w.2.2.2.2.1 e R s m args below meth c H locs ((cs σ).1 - b.1) ((cs σ).2 - b.2) (Qf r σ') (F0 m pc ls st)
def Cx {S ρ : Type} (g : Gm S ρ) (cc : ByteArray) (nL : Nat) (own : String) : Prop := match g with
  | (w, p, e, R, s, m, args, below, meth, c, Rl, cs, b, Qf) =>
    p.tables.exec = Jvm.exec ∧ c.code = cc ∧ c.maxLocals = nL ∧ s.vm.findClass own = some m.cls ∧ (∀ w ∈ TB, w.before args s = true) ∧ meth.locks = false ∧ GK w s ∧ Wok w
/-- what a method's end says -/
def Qo {S ρ : Type} (Rl : S → Heap → Prop) (A : Nat → Prop) (vo : ρ → Option Value) (r : ρ) (σ : S) : Array Value → State → Outcome → State → Prop := fun _ st o t => (o = .returned (vo r) ∧ Rl σ t.heap) ∧ va_F A st t
/-- the method ends by a return: of its kind; its room -/
def Rx {S ρ : Type} (g : Gm S ρ) (vo : ρ → Option Value) (ret : Option FieldType) (fr lo : Nat) : Prop := match g with
  | (w, p, e, R, s, m, args, below, meth, c, Rl, cs, b, Qf) =>
    Qf = (fun r σ' => MQ below (Qo Rl w.2.2.2.1 vo r σ') args s ((cs σ').1 - b.1) ((cs σ').2 - b.2) w.2.2.2.1) ∧ meth.sig.returnType = ret ∧ R.frames = fr ∧ R.locals = lo
def Fx {S ρ : Type} (g : Gm S ρ) (fr lo : Nat) : Prop := match g with
  | (w, p, e, R, s, m, args, below, meth, c, Rl, cs, b, Qf) => R.frames = fr ∧ R.locals = lo
theorem Rx.fx {S ρ : Type} {g : Gm S ρ} {vo : ρ → Option Value} {ret : Option FieldType} {fr lo : Nat} (Y : Rx g vo ret fr lo) : Fx g fr lo := by
  obtain ⟨w, p, e, R, s, m, args, below, meth, c, Rl, cs, b, Qf⟩ := g
  exact Y.2.2
/-- a method's contract by a program -/
def MC {S ρ : Type} (w : Wd) (Rl : S → Heap → Prop) (cs : S → Nat × Nat) (y : MethodName) (cc : ByteArray) (nL : Nat) (ret : Option FieldType) (fr lo : Nat) (vo : ρ → Option Value) (av : List Value) (P : S → Option (ρ × S)) : Prop :=
  (∀ σ r σ', P σ = some (r, σ') → (cs σ).1 ≤ (cs σ').1 ∧ (cs σ).2 ≤ (cs σ').2) ∧
  ∀ (σ : S) (r : ρ) (σ' : S), P σ = some (r, σ') → Met w.2.2.2.2.1 y (.code y cc nL ret :: TB) { frames := fr, cells := (cs σ').1 - (cs σ).1, slots := (cs σ').2 - (cs σ).2, locals := lo } (va_Pc av (fun U => Rl σ U.heap ∧ GK w U)) (Qo Rl w.2.2.2.1 vo r σ') ((cs σ').1 - (cs σ).1) ((cs σ').2 - (cs σ).2) w.2.2.2.1
theorem MC.of {S ρ : Type} {w : Wd} {Rl : S → Heap → Prop} {cs : S → Nat × Nat} {y : MethodName} {cc : ByteArray} {nL : Nat} {ret : Option FieldType} {fr lo : Nat} {vo : ρ → Option Value} {av : List Value} {P : S → Option (ρ × S)}
    (hw : Wok w) (hy : plainName y.cls = true) (hn : (lg_sl av).length ≤ nL)
    (hmono : ∀ σ r σ', P σ = some (r, σ') → (cs σ).1 ≤ (cs σ').1 ∧ (cs σ).2 ≤ (cs σ').2)
    (h : ∀ g : Gm S ρ, g.1 = w → g.2.2.2.2.2.2.2.2.2.2.1 = Rl → g.2.2.2.2.2.2.2.2.2.2.2.1 = cs → Cx g cc nL y.cls → Rx g vo ret fr lo → Sm g nL 0 (lv_args 0 av) [] P) : MC w Rl cs y cc nL ret fr lo vo av P := by
  refine ⟨hmono, fun σ r σ' hP => ?_⟩
  refine Met.ofW (cc := cc) (maxL := nL) (ret := ret) hy rfl ?_
  intro p e s m args below meth c s₁ B hml hv
  obtain ⟨rfl, hR, hG⟩ := hv
  have hts0 := atoms_spec (ws := .code y cc nL ret :: TB) B.pre
  have hts : ∀ w ∈ TB, w.before av.toArray s = true := fun w hw => hts0 w (List.mem_cons_of_mem _ hw)
  have hown : s.vm.findClass y.cls = some m.cls := findClass_of_methodNamed B.named
  have hl := lv_entry av (n := nL) hn
  rw [lg_entry_eq]
  have K := (h (w, p, e, (headSpec (.code y cc nL ret :: TB) { frames := fr, cells := (cs σ').1 - (cs σ).1, slots := (cs σ').2 - (cs σ).2, locals := lo }).room, s, m, av.toArray, below, meth, c, Rl, cs, cs σ, (fun r σ' => MQ below (Qo Rl w.2.2.2.1 vo r σ') av.toArray s ((cs σ').1 - (cs σ).1) ((cs σ').2 - (cs σ).2) w.2.2.2.1)) rfl rfl rfl
    ⟨B.exec, B.bytes, hml, hown, hts, B.notSynchronized, hG, hw⟩ ⟨rfl, B.returns, rfl, rfl⟩).2 σ r σ' s.heap [] _ hP hR va_S.rf hl (Nat.le_refl _) (Nat.le_refl _)
  have hm := hmono σ r σ' hP
  have K2 := K (by show _ ≤ _ + ((cs σ').1 - (cs σ).1); omega) (by show _ ≤ _ + ((cs σ').2 - (cs σ).2); omega)
  rw [Nat.sub_self, Nat.sub_self] at K2
  exact K2
theorem Sm.stp {S ρ : Type} {g : Gm S ρ} {cc : ByteArray} {nL : Nat} {own : String} (X : Cx g cc nL own) {pc pc' : Nat} {lv lv' : List (Nat × Value)} {st st' : List Value} {P : S → Option (ρ × S)}
    (h : ∀ (p : Program) (l : Launch) (e : Env) (R : Room) (s : State) (m : MethodId) (args : Array Value) (below : List Frame) (meth : Method) (c : Code) (H : Heap) (locs : List Loc) (cells slots : Nat) (Q : State → Prop) (ls : Array Slot), p.tables.exec = Jvm.exec → c.code = cc → s.vm.findClass own = some m.cls → (∀ w ∈ TB, w.before args s = true) → lv_has ls nL lv → (∀ ls' : Array Slot, lv_has ls' nL lv' → W p l e R s m args below meth c H locs cells slots Q (F0 m pc' ls' st')) → W p l e R s m args below meth c H locs cells slots Q (F0 m pc ls st))
    (k : Sm g nL pc' lv' st' P) : Sm g nL pc lv st P := by
  obtain ⟨w, p, e, R, s, m, args, below, meth, c, Rl, cs, b, Qf⟩ := g
  obtain ⟨hx, hb, hml, hown, hts, hlocks, -⟩ := X
  exact ⟨k.1, fun σ r σ' H locs ls hP hR hS hl h1 h2 h3 h4 => h p _ e R s m args below meth c H locs _ _ _ ls hx hb hown hts hl (fun ls' hl' => k.2 σ r σ' H locs ls' hP hR hS hl' h1 h2 h3 h4)⟩
theorem Sm.br {S ρ : Type} {g : Gm S ρ} {cc : ByteArray} {nL : Nat} {own : String} (X : Cx g cc nL own) {q : Prop} [Decidable q] {pc pc1 pc2 : Nat} {lv : List (Nat × Value)} {st st' : List Value} {P1 P2 : S → Option (ρ × S)}
    (h : ∀ (p : Program) (l : Launch) (e : Env) (R : Room) (s : State) (m : MethodId) (args : Array Value) (below : List Frame) (meth : Method) (c : Code) (H : Heap) (locs : List Loc) (cells slots : Nat) (Q : State → Prop) (ls : Array Slot), p.tables.exec = Jvm.exec → c.code = cc → (q → W p l e R s m args below meth c H locs cells slots Q (F0 m pc1 ls st')) → (¬ q → W p l e R s m args below meth c H locs cells slots Q (F0 m pc2 ls st')) → W p l e R s m args below meth c H locs cells slots Q (F0 m pc ls st))
    (k1 : Sm g nL pc1 lv st' P1) (k2 : Sm g nL pc2 lv st' P2) : Sm g nL pc lv st (if q then P1 else P2) := by
  obtain ⟨w, p, e, R, s, m, args, below, meth, c, Rl, cs, b, Qf⟩ := g
  obtain ⟨hx, hb, hml, hown, hts, hlocks, -⟩ := X
  by_cases hq : q
  · rw [if_pos hq]
    exact ⟨k1.1, fun σ r σ' H locs ls hP hR hS hl h1 h2 h3 h4 => h p _ e R s m args below meth c H locs _ _ _ ls hx hb (fun _ => k1.2 σ r σ' H locs ls hP hR hS hl h1 h2 h3 h4) (fun z => absurd hq z)⟩
  · rw [if_neg hq]
    exact ⟨k2.1, fun σ r σ' H locs ls hP hR hS hl h1 h2 h3 h4 => h p _ e R s m args below meth c H locs _ _ _ ls hx hb (fun z => absurd z hq) (fun _ => k2.2 σ r σ' H locs ls hP hR hS hl h1 h2 h3 h4)⟩
theorem Sm.fail {S ρ : Type} {g : Gm S ρ} {nL pc : Nat} {lv : List (Nat × Value)} {st : List Value} : Sm g nL pc lv st (no : S → Option (ρ × S)) := by
  obtain ⟨w, p, e, R, s, m, args, below, meth, c, Rl, cs, b, Qf⟩ := g
  exact ⟨fun σ r σ' h => (by unfold no at h; cases h), fun σ r σ' H locs ls h => (by unfold no at h; cases h)⟩
theorem Sm.guard {S ρ : Type} {g : Gm S ρ} {nL pc : Nat} {lv : List (Nat × Value)} {st : List Value} {q : Prop} [Decidable q] {P : S → Option (ρ × S)} (k : q → Sm g nL pc lv st P) : Sm g nL pc lv st (gd q P) := by
  by_cases hq : q
  · have e : gd q P = P := by funext h; unfold gd; rw [if_pos hq]
    rw [e]; exact k hq
  · have e : gd q P = no := by funext h; unfold gd; rw [if_neg hq]; rfl
    rw [e]; exact Sm.fail
theorem Sm.lvs {S ρ : Type} {g : Gm S ρ} {nL pc : Nat} {lv lv' : List (Nat × Value)} {st : List Value} {P : S → Option (ρ × S)} (ks : List Nat) (hl : lv_pick lv ks = lv') (k : Sm g nL pc lv' st P) : Sm g nL pc lv st P := by
  obtain ⟨w, p, e, R, s, m, args, below, meth, c, Rl, cs, b, Qf⟩ := g
  exact ⟨k.1, fun σ r σ' H locs ls hP hR hS h h1 h2 h3 h4 => k.2 σ r σ' H locs ls hP hR hS (lv_sub h ks hl) h1 h2 h3 h4⟩
section SMR
variable {S ρ : Type} {g : Gm S ρ} {cc : ByteArray} {nL pc : Nat} {own : String} {lv lv' : List (Nat × Value)} {st : List Value} {P P1 P2 : S → Option (ρ × S)}
theorem s_iconst (X : Cx g cc nL own) {n : Int} {v : Int32} (d : decode cc pc = .ok (.iconst n, 1)) (hv : Int32.ofInt n = v) (k : Sm g nL (pc + 1) lv (.int v :: st) P) : Sm g nL pc lv (st) P := Sm.stp X (fun _ _ _ _ _ _ _ _ _ _ _ _ _ _ _ ls hx hb hown hts hl k => lv_iconst hx hb d hv (k ls hl)) k
theorem s_bipush (X : Cx g cc nL own) {n : Int} {v : Int32} (d : decode cc pc = .ok (.bipush n, 2)) (hv : (Int8.ofInt n).toInt32 = v) (k : Sm g nL (pc + 2) lv (.int v :: st) P) : Sm g nL pc lv (st) P := Sm.stp X (fun _ _ _ _ _ _ _ _ _ _ _ _ _ _ _ ls hx hb hown hts hl k => lv_bipush hx hb d hv (k ls hl)) k
theorem s_sipush (X : Cx g cc nL own) {n : Int} {v : Int32} (d : decode cc pc = .ok (.sipush n, 3)) (hv : (Int16.ofInt n).toInt32 = v) (k : Sm g nL (pc + 3) lv (.int v :: st) P) : Sm g nL pc lv (st) P := Sm.stp X (fun _ _ _ _ _ _ _ _ _ _ _ _ _ _ _ ls hx hb hown hts hl k => lv_sipush hx hb d hv (k ls hl)) k
theorem s_lconst (X : Cx g cc nL own) {n : Fin 2} {v : Int64} (d : decode cc pc = .ok (.lconst n, 1)) (hv : Int64.ofNat (n : Nat) = v) (k : Sm g nL (pc + 1) lv (.long v :: st) P) : Sm g nL pc lv (st) P := Sm.stp X (fun _ _ _ _ _ _ _ _ _ _ _ _ _ _ _ ls hx hb hown hts hl k => lv_lconst hx hb d hv (k ls hl)) k
theorem s_ldc (X : Cx g cc nL own) {i : Nat} {v : Int32} (hc : Cond.constant own i v ∈ TB) (d : decode cc pc = .ok (.ldc i, 2)) (k : Sm g nL (pc + 2) lv (.int v :: st) P) : Sm g nL pc lv (st) P := Sm.stp X (fun _ _ _ _ _ _ _ _ _ _ _ _ _ _ _ ls hx hb hown hts hl k => lv_ldc hx hb hown (hts _ hc) d (k ls hl)) k
theorem s_ldcw (X : Cx g cc nL own) {i : Nat} {v : Int32} (hc : Cond.constant own i v ∈ TB) (d : decode cc pc = .ok (.ldc_w i, 3)) (k : Sm g nL (pc + 3) lv (.int v :: st) P) : Sm g nL pc lv (st) P := Sm.stp X (fun _ _ _ _ _ _ _ _ _ _ _ _ _ _ _ ls hx hb hown hts hl k => lv_ldcw hx hb hown (hts _ hc) d (k ls hl)) k
theorem s_ldc2 (X : Cx g cc nL own) {i : Nat} {v : Int64} (hc : Cond.constantLong own i v ∈ TB) (d : decode cc pc = .ok (.ldc2_w i, 3)) (k : Sm g nL (pc + 3) lv (.long v :: st) P) : Sm g nL pc lv (st) P := Sm.stp X (fun _ _ _ _ _ _ _ _ _ _ _ _ _ _ _ ls hx hb hown hts hl k => lv_ldc2 hx hb hown (hts _ hc) d (k ls hl)) k
theorem s_iload_n (X : Cx g cc nL own) (j : Nat) {n : Fin 4} {i : Nat} {x : Int32} (d : decode cc pc = .ok (.iload_n n, 1)) (hi : (n : Nat) = i) (hj : lv[j]? = some (i, .int x)) (k : Sm g nL (pc + 1) lv (.int x :: st) P) : Sm g nL pc lv (st) P := Sm.stp X (fun _ _ _ _ _ _ _ _ _ _ _ _ _ _ _ ls hx hb hown hts hl k => lv_iload_n hx hb d hi (lv_at hl j hj) (k ls hl)) k
theorem s_iload (X : Cx g cc nL own) (j : Nat) {i : Nat} {x : Int32} (d : decode cc pc = .ok (.iload i, 2)) (hj : lv[j]? = some (i, .int x)) (k : Sm g nL (pc + 2) lv (.int x :: st) P) : Sm g nL pc lv (st) P := Sm.stp X (fun _ _ _ _ _ _ _ _ _ _ _ _ _ _ _ ls hx hb hown hts hl k => lv_iload hx hb d (lv_at hl j hj) (k ls hl)) k
theorem s_istore_n (X : Cx g cc nL own) {n : Fin 4} {i : Nat} {x : Int32} (d : decode cc pc = .ok (.istore_n n, 1)) (hi : (n : Nat) = i) (hn : i < nL) (hl : (i, Value.int x) :: lv.filter (fun q => !(q.1 == i) && !(q.1 + 1 == i && q.2.category == 2)) = lv') (k : Sm g nL (pc + 1) lv' (st) P) : Sm g nL pc lv (.int x :: st) P := Sm.stp X (fun _ _ _ _ _ _ _ _ _ _ _ _ _ _ _ ls hx hb hown hts hl k => lv_istore_n hx hb d hi hl hn (by assumption) k) k
theorem s_istore (X : Cx g cc nL own) {i : Nat} {x : Int32} (d : decode cc pc = .ok (.istore i, 2)) (hn : i < nL) (hl : (i, Value.int x) :: lv.filter (fun q => !(q.1 == i) && !(q.1 + 1 == i && q.2.category == 2)) = lv') (k : Sm g nL (pc + 2) lv' (st) P) : Sm g nL pc lv (.int x :: st) P := Sm.stp X (fun _ _ _ _ _ _ _ _ _ _ _ _ _ _ _ ls hx hb hown hts hl k => lv_istore hx hb d hl hn (by assumption) k) k
theorem s_lload_n (X : Cx g cc nL own) (j : Nat) {n : Fin 4} {i : Nat} {x : Int64} (d : decode cc pc = .ok (.lload_n n, 1)) (hi : (n : Nat) = i) (hj : lv[j]? = some (i, .long x)) (k : Sm g nL (pc + 1) lv (.long x :: st) P) : Sm g nL pc lv (st) P := Sm.stp X (fun _ _ _ _ _ _ _ _ _ _ _ _ _ _ _ ls hx hb hown hts hl k => lv_lload_n hx hb d hi (lv_at hl j hj) (k ls hl)) k
theorem s_lload (X : Cx g cc nL own) (j : Nat) {i : Nat} {x : Int64} (d : decode cc pc = .ok (.lload i, 2)) (hj : lv[j]? = some (i, .long x)) (k : Sm g nL (pc + 2) lv (.long x :: st) P) : Sm g nL pc lv (st) P := Sm.stp X (fun _ _ _ _ _ _ _ _ _ _ _ _ _ _ _ ls hx hb hown hts hl k => lv_lload hx hb d (lv_at hl j hj) (k ls hl)) k
theorem s_lstore_n (X : Cx g cc nL own) {n : Fin 4} {i : Nat} {x : Int64} (d : decode cc pc = .ok (.lstore_n n, 1)) (hi : (n : Nat) = i) (hn : i + 1 < nL) (hl : (i, Value.long x) :: lv.filter (fun q => !(q.1 == i) && (!(q.1 == i + 1) && !(q.1 + 1 == i && q.2.category == 2))) = lv') (k : Sm g nL (pc + 1) lv' (st) P) : Sm g nL pc lv (.long x :: st) P := Sm.stp X (fun _ _ _ _ _ _ _ _ _ _ _ _ _ _ _ ls hx hb hown hts hl k => lv_lstore_n hx hb d hi hl hn (by assumption) k) k
theorem s_lstore (X : Cx g cc nL own) {i : Nat} {x : Int64} (d : decode cc pc = .ok (.lstore i, 2)) (hn : i + 1 < nL) (hl : (i, Value.long x) :: lv.filter (fun q => !(q.1 == i) && (!(q.1 == i + 1) && !(q.1 + 1 == i && q.2.category == 2))) = lv') (k : Sm g nL (pc + 2) lv' (st) P) : Sm g nL pc lv (.long x :: st) P := Sm.stp X (fun _ _ _ _ _ _ _ _ _ _ _ _ _ _ _ ls hx hb hown hts hl k => lv_lstore hx hb d hl hn (by assumption) k) k
theorem s_aload_n (X : Cx g cc nL own) (j : Nat) {n : Fin 4} {i : Nat} {x : Nat} (d : decode cc pc = .ok (.aload_n n, 1)) (hi : (n : Nat) = i) (hj : lv[j]? = some (i, .ref x)) (k : Sm g nL (pc + 1) lv (.ref x :: st) P) : Sm g nL pc lv (st) P := Sm.stp X (fun _ _ _ _ _ _ _ _ _ _ _ _ _ _ _ ls hx hb hown hts hl k => lv_aload_n hx hb d hi (lv_at hl j hj) (k ls hl)) k
theorem s_aload (X : Cx g cc nL own) (j : Nat) {i : Nat} {x : Nat} (d : decode cc pc = .ok (.aload i, 2)) (hj : lv[j]? = some (i, .ref x)) (k : Sm g nL (pc + 2) lv (.ref x :: st) P) : Sm g nL pc lv (st) P := Sm.stp X (fun _ _ _ _ _ _ _ _ _ _ _ _ _ _ _ ls hx hb hown hts hl k => lv_aload hx hb d (lv_at hl j hj) (k ls hl)) k
theorem s_astore_n (X : Cx g cc nL own) {n : Fin 4} {i : Nat} {x : Nat} (d : decode cc pc = .ok (.astore_n n, 1)) (hi : (n : Nat) = i) (hn : i < nL) (hl : (i, Value.ref x) :: lv.filter (fun q => !(q.1 == i) && !(q.1 + 1 == i && q.2.category == 2)) = lv') (k : Sm g nL (pc + 1) lv' (st) P) : Sm g nL pc lv (.ref x :: st) P := Sm.stp X (fun _ _ _ _ _ _ _ _ _ _ _ _ _ _ _ ls hx hb hown hts hl k => lv_astore_n hx hb d hi hl hn (by assumption) k) k
theorem s_astore (X : Cx g cc nL own) {i : Nat} {x : Nat} (d : decode cc pc = .ok (.astore i, 2)) (hn : i < nL) (hl : (i, Value.ref x) :: lv.filter (fun q => !(q.1 == i) && !(q.1 + 1 == i && q.2.category == 2)) = lv') (k : Sm g nL (pc + 2) lv' (st) P) : Sm g nL pc lv (.ref x :: st) P := Sm.stp X (fun _ _ _ _ _ _ _ _ _ _ _ _ _ _ _ ls hx hb hown hts hl k => lv_astore hx hb d hl hn (by assumption) k) k
theorem s_iinc (X : Cx g cc nL own) (j : Nat) {i : Nat} {n : Int} {x v : Int32} (d : decode cc pc = .ok (.iinc i n, 3)) (hj : lv[j]? = some (i, .int x)) (hv : x + Int32.ofInt n = v) (hn : i < nL) (hl : (i, Value.int v) :: lv.filter (fun q => !(q.1 == i) && !(q.1 + 1 == i && q.2.category == 2)) = lv') (k : Sm g nL (pc + 3) lv' (st) P) : Sm g nL pc lv (st) P := Sm.stp X (fun _ _ _ _ _ _ _ _ _ _ _ _ _ _ _ ls hx hb hown hts hl k => lv_iinc hx hb d hl hj hv hn (by assumption) k) k
theorem s_iadd (X : Cx g cc nL own) {x y : Int32} (d : decode cc pc = .ok (.iadd, 1)) (k : Sm g nL (pc + 1) lv (.int (x + y) :: st) P) : Sm g nL pc lv (.int y :: .int x :: st) P := Sm.stp X (fun _ _ _ _ _ _ _ _ _ _ _ _ _ _ _ ls hx hb hown hts hl k => lv_iadd hx hb d (k ls hl)) k
theorem s_isub (X : Cx g cc nL own) {x y : Int32} (d : decode cc pc = .ok (.isub, 1)) (k : Sm g nL (pc + 1) lv (.int (x - y) :: st) P) : Sm g nL pc lv (.int y :: .int x :: st) P := Sm.stp X (fun _ _ _ _ _ _ _ _ _ _ _ _ _ _ _ ls hx hb hown hts hl k => lv_isub hx hb d (k ls hl)) k
theorem s_imul (X : Cx g cc nL own) {x y : Int32} (d : decode cc pc = .ok (.imul, 1)) (k : Sm g nL (pc + 1) lv (.int (x * y) :: st) P) : Sm g nL pc lv (.int y :: .int x :: st) P := Sm.stp X (fun _ _ _ _ _ _ _ _ _ _ _ _ _ _ _ ls hx hb hown hts hl k => lv_imul hx hb d (k ls hl)) k
theorem s_iand (X : Cx g cc nL own) {x y : Int32} (d : decode cc pc = .ok (.iand, 1)) (k : Sm g nL (pc + 1) lv (.int (x &&& y) :: st) P) : Sm g nL pc lv (.int y :: .int x :: st) P := Sm.stp X (fun _ _ _ _ _ _ _ _ _ _ _ _ _ _ _ ls hx hb hown hts hl k => lv_iand hx hb d (k ls hl)) k
theorem s_ior (X : Cx g cc nL own) {x y : Int32} (d : decode cc pc = .ok (.ior, 1)) (k : Sm g nL (pc + 1) lv (.int (x ||| y) :: st) P) : Sm g nL pc lv (.int y :: .int x :: st) P := Sm.stp X (fun _ _ _ _ _ _ _ _ _ _ _ _ _ _ _ ls hx hb hown hts hl k => lv_ior hx hb d (k ls hl)) k
theorem s_ixor (X : Cx g cc nL own) {x y : Int32} (d : decode cc pc = .ok (.ixor, 1)) (k : Sm g nL (pc + 1) lv (.int (x ^^^ y) :: st) P) : Sm g nL pc lv (.int y :: .int x :: st) P := Sm.stp X (fun _ _ _ _ _ _ _ _ _ _ _ _ _ _ _ ls hx hb hown hts hl k => lv_ixor hx hb d (k ls hl)) k
theorem s_ishl (X : Cx g cc nL own) {x y : Int32} (d : decode cc pc = .ok (.ishl, 1)) (k : Sm g nL (pc + 1) lv (.int (x <<< (y &&& 31)) :: st) P) : Sm g nL pc lv (.int y :: .int x :: st) P := Sm.stp X (fun _ _ _ _ _ _ _ _ _ _ _ _ _ _ _ ls hx hb hown hts hl k => lv_ishl hx hb d (k ls hl)) k
theorem s_ishr (X : Cx g cc nL own) {x y : Int32} (d : decode cc pc = .ok (.ishr, 1)) (k : Sm g nL (pc + 1) lv (.int (x >>> (y &&& 31)) :: st) P) : Sm g nL pc lv (.int y :: .int x :: st) P := Sm.stp X (fun _ _ _ _ _ _ _ _ _ _ _ _ _ _ _ ls hx hb hown hts hl k => lv_ishr hx hb d (k ls hl)) k
theorem s_idiv (X : Cx g cc nL own) {x y : Int32} (d : decode cc pc = .ok (.idiv, 1)) (hne : ¬ y = 0) (k : Sm g nL (pc + 1) lv (.int (x / y) :: st) P) : Sm g nL pc lv (.int y :: .int x :: st) P := Sm.stp X (fun _ _ _ _ _ _ _ _ _ _ _ _ _ _ _ ls hx hb hown hts hl k => lv_idiv hx hb d hne (k ls hl)) k
theorem s_irem (X : Cx g cc nL own) {x y : Int32} (d : decode cc pc = .ok (.irem, 1)) (hne : ¬ y = 0) (k : Sm g nL (pc + 1) lv (.int (x - x / y * y) :: st) P) : Sm g nL pc lv (.int y :: .int x :: st) P := Sm.stp X (fun _ _ _ _ _ _ _ _ _ _ _ _ _ _ _ ls hx hb hown hts hl k => lv_irem hx hb d hne (k ls hl)) k
theorem s_ladd (X : Cx g cc nL own) {x y : Int64} (d : decode cc pc = .ok (.ladd, 1)) (k : Sm g nL (pc + 1) lv (.long (x + y) :: st) P) : Sm g nL pc lv (.long y :: .long x :: st) P := Sm.stp X (fun _ _ _ _ _ _ _ _ _ _ _ _ _ _ _ ls hx hb hown hts hl k => lv_ladd hx hb d (k ls hl)) k
theorem s_lsub (X : Cx g cc nL own) {x y : Int64} (d : decode cc pc = .ok (.lsub, 1)) (k : Sm g nL (pc + 1) lv (.long (x - y) :: st) P) : Sm g nL pc lv (.long y :: .long x :: st) P := Sm.stp X (fun _ _ _ _ _ _ _ _ _ _ _ _ _ _ _ ls hx hb hown hts hl k => lv_lsub hx hb d (k ls hl)) k
theorem s_lmul (X : Cx g cc nL own) {x y : Int64} (d : decode cc pc = .ok (.lmul, 1)) (k : Sm g nL (pc + 1) lv (.long (x * y) :: st) P) : Sm g nL pc lv (.long y :: .long x :: st) P := Sm.stp X (fun _ _ _ _ _ _ _ _ _ _ _ _ _ _ _ ls hx hb hown hts hl k => lv_lmul hx hb d (k ls hl)) k
theorem s_land (X : Cx g cc nL own) {x y : Int64} (d : decode cc pc = .ok (.land, 1)) (k : Sm g nL (pc + 1) lv (.long (x &&& y) :: st) P) : Sm g nL pc lv (.long y :: .long x :: st) P := Sm.stp X (fun _ _ _ _ _ _ _ _ _ _ _ _ _ _ _ ls hx hb hown hts hl k => lv_land hx hb d (k ls hl)) k
theorem s_lor (X : Cx g cc nL own) {x y : Int64} (d : decode cc pc = .ok (.lor, 1)) (k : Sm g nL (pc + 1) lv (.long (x ||| y) :: st) P) : Sm g nL pc lv (.long y :: .long x :: st) P := Sm.stp X (fun _ _ _ _ _ _ _ _ _ _ _ _ _ _ _ ls hx hb hown hts hl k => lv_lor hx hb d (k ls hl)) k
theorem s_ldiv (X : Cx g cc nL own) {x y : Int64} (d : decode cc pc = .ok (.ldiv, 1)) (hne : ¬ y = 0) (k : Sm g nL (pc + 1) lv (.long (x / y) :: st) P) : Sm g nL pc lv (.long y :: .long x :: st) P := Sm.stp X (fun _ _ _ _ _ _ _ _ _ _ _ _ _ _ _ ls hx hb hown hts hl k => lv_ldiv hx hb d hne (k ls hl)) k
def lshl6 (x : Int64) (y : Int32) : Int64 := x <<< (y.toInt64 &&& 63)
def lshr6 (x : Int64) (y : Int32) : Int64 := x >>> (y.toInt64 &&& 63)
def lush6 (x : Int64) (y : Int32) : Int64 := (x.toUInt64 >>> (y.toInt64.toUInt64 &&& Int64.toUInt64 63)).toInt64
theorem s_lshl (X : Cx g cc nL own) {x : Int64} {y : Int32} (d : decode cc pc = .ok (.lshl, 1)) (k : Sm g nL (pc + 1) lv (.long (lshl6 x y) :: st) P) : Sm g nL pc lv (.int y :: .long x :: st) P := Sm.stp X (fun _ _ _ _ _ _ _ _ _ _ _ _ _ _ _ ls hx hb hown hts hl k => lv_lshl hx hb d rfl (k ls hl)) k
theorem s_lshr (X : Cx g cc nL own) {x : Int64} {y : Int32} (d : decode cc pc = .ok (.lshr, 1)) (k : Sm g nL (pc + 1) lv (.long (lshr6 x y) :: st) P) : Sm g nL pc lv (.int y :: .long x :: st) P := Sm.stp X (fun _ _ _ _ _ _ _ _ _ _ _ _ _ _ _ ls hx hb hown hts hl k => lv_lshr hx hb d rfl (k ls hl)) k
theorem s_lushr (X : Cx g cc nL own) {x : Int64} {y : Int32} (d : decode cc pc = .ok (.lushr, 1)) (k : Sm g nL (pc + 1) lv (.long (lush6 x y) :: st) P) : Sm g nL pc lv (.int y :: .long x :: st) P := Sm.stp X (fun _ _ _ _ _ _ _ _ _ _ _ _ _ _ _ ls hx hb hown hts hl k => lv_lushr hx hb d rfl (k ls hl)) k
theorem s_i2l (X : Cx g cc nL own) {x : Int32} (d : decode cc pc = .ok (.i2l, 1)) (k : Sm g nL (pc + 1) lv (.long x.toInt64 :: st) P) : Sm g nL pc lv (.int x :: st) P := Sm.stp X (fun _ _ _ _ _ _ _ _ _ _ _ _ _ _ _ ls hx hb hown hts hl k => lv_i2l hx hb d rfl (k ls hl)) k
theorem s_l2i (X : Cx g cc nL own) {x : Int64} (d : decode cc pc = .ok (.l2i, 1)) (k : Sm g nL (pc + 1) lv (.int x.toInt32 :: st) P) : Sm g nL pc lv (.long x :: st) P := Sm.stp X (fun _ _ _ _ _ _ _ _ _ _ _ _ _ _ _ ls hx hb hown hts hl k => lv_l2i hx hb d rfl (k ls hl)) k
theorem s_i2b (X : Cx g cc nL own) {x : Int32} (d : decode cc pc = .ok (.i2b, 1)) (k : Sm g nL (pc + 1) lv (.int x.toInt8.toInt32 :: st) P) : Sm g nL pc lv (.int x :: st) P := Sm.stp X (fun _ _ _ _ _ _ _ _ _ _ _ _ _ _ _ ls hx hb hown hts hl k => lv_i2b hx hb d rfl (k ls hl)) k
theorem s_lcmp (X : Cx g cc nL own) {x y : Int64} (d : decode cc pc = .ok (.lcmp, 1)) (k : Sm g nL (pc + 1) lv (.int (lg_cmp x y) :: st) P) : Sm g nL pc lv (.long y :: .long x :: st) P := Sm.stp X (fun _ _ _ _ _ _ _ _ _ _ _ _ _ _ _ ls hx hb hown hts hl k => W.lcmp hx hb d (k ls hl)) k
theorem s_dup (X : Cx g cc nL own) {va : Value} (d : decode cc pc = .ok (.dup, 1)) (h1 : va.category = 1) (k : Sm g nL (pc + 1) lv (va :: va :: st) P) : Sm g nL pc lv (va :: st) P := Sm.stp X (fun _ _ _ _ _ _ _ _ _ _ _ _ _ _ _ ls hx hb hown hts hl k => lv_dup hx hb d h1 (k ls hl)) k
theorem s_pop (X : Cx g cc nL own) {va : Value} (d : decode cc pc = .ok (.pop, 1)) (h1 : va.category = 1) (k : Sm g nL (pc + 1) lv (st) P) : Sm g nL pc lv (va :: st) P := Sm.stp X (fun _ _ _ _ _ _ _ _ _ _ _ _ _ _ _ ls hx hb hown hts hl k => lv_pop hx hb d h1 (k ls hl)) k
theorem s_dup_x1 (X : Cx g cc nL own) {va vb : Value} (d : decode cc pc = .ok (.dup_x1, 1)) (h1 : va.category = 1) (h2 : vb.category = 1) (k : Sm g nL (pc + 1) lv (va :: vb :: va :: st) P) : Sm g nL pc lv (va :: vb :: st) P := Sm.stp X (fun _ _ _ _ _ _ _ _ _ _ _ _ _ _ _ ls hx hb hown hts hl k => lv_dup_x1 hx hb d h1 h2 (k ls hl)) k
theorem s_dup_x2 (X : Cx g cc nL own) {va vb vd : Value} (d : decode cc pc = .ok (.dup_x2, 1)) (h1 : va.category = 1) (h2 : vb.category = 1) (h3 : vd.category = 1) (k : Sm g nL (pc + 1) lv (va :: vb :: vd :: va :: st) P) : Sm g nL pc lv (va :: vb :: vd :: st) P := Sm.stp X (fun _ _ _ _ _ _ _ _ _ _ _ _ _ _ _ ls hx hb hown hts hl k => lv_dup_x2 hx hb d h1 h2 h3 (k ls hl)) k
theorem s_dup2 (X : Cx g cc nL own) {va vb : Value} (d : decode cc pc = .ok (.dup2, 1)) (h1 : va.category = 1) (h2 : vb.category = 1) (k : Sm g nL (pc + 1) lv (va :: vb :: va :: vb :: st) P) : Sm g nL pc lv (va :: vb :: st) P := Sm.stp X (fun _ _ _ _ _ _ _ _ _ _ _ _ _ _ _ ls hx hb hown hts hl k => lv_dup2_11 hx hb d h1 h2 (k ls hl)) k
theorem s_goto (X : Cx g cc nL own) {off : Int} (tgt : Nat) (d : decode cc pc = .ok (.goto off, 3)) (ht : (pc : Int) + off = (tgt : Int)) (k : Sm g nL tgt lv st P) : Sm g nL pc lv st P := Sm.stp X (fun _ _ _ _ _ _ _ _ _ _ _ _ _ _ _ ls hx hb hown hts hl k => lv_goto hx hb d ht (k ls hl)) k
theorem s_if_eq (X : Cx g cc nL own) {x : Int32} {off : Int} (tgt : Nat) (d : decode cc pc = .ok (.ifCond .eq off, 3)) (ht : (pc : Int) + off = (tgt : Int)) (k1 : Sm g nL tgt lv st P1) (k2 : Sm g nL (pc + 3) lv st P2) : Sm g nL pc lv (.int x :: st) (if x = 0 then P1 else P2) := Sm.br X (fun _ _ _ _ _ _ _ _ _ _ _ _ _ _ _ ls hx hb k1 k2 => lv_if_eq hx hb d ht k1 k2) k1 k2
theorem s_if_lt (X : Cx g cc nL own) {x : Int32} {off : Int} (tgt : Nat) (d : decode cc pc = .ok (.ifCond .lt off, 3)) (ht : (pc : Int) + off = (tgt : Int)) (k1 : Sm g nL tgt lv st P1) (k2 : Sm g nL (pc + 3) lv st P2) : Sm g nL pc lv (.int x :: st) (if x < 0 then P1 else P2) := Sm.br X (fun _ _ _ _ _ _ _ _ _ _ _ _ _ _ _ ls hx hb k1 k2 => lv_if_lt hx hb d ht k1 k2) k1 k2
theorem s_if_ge (X : Cx g cc nL own) {x : Int32} {off : Int} (tgt : Nat) (d : decode cc pc = .ok (.ifCond .ge off, 3)) (ht : (pc : Int) + off = (tgt : Int)) (k1 : Sm g nL tgt lv st P1) (k2 : Sm g nL (pc + 3) lv st P2) : Sm g nL pc lv (.int x :: st) (if 0 ≤ x then P1 else P2) := Sm.br X (fun _ _ _ _ _ _ _ _ _ _ _ _ _ _ _ ls hx hb k1 k2 => lv_if_ge hx hb d ht k1 k2) k1 k2
theorem s_if_gt (X : Cx g cc nL own) {x : Int32} {off : Int} (tgt : Nat) (d : decode cc pc = .ok (.ifCond .gt off, 3)) (ht : (pc : Int) + off = (tgt : Int)) (k1 : Sm g nL tgt lv st P1) (k2 : Sm g nL (pc + 3) lv st P2) : Sm g nL pc lv (.int x :: st) (if 0 < x then P1 else P2) := Sm.br X (fun _ _ _ _ _ _ _ _ _ _ _ _ _ _ _ ls hx hb k1 k2 => lv_if_gt hx hb d ht k1 k2) k1 k2
theorem s_if_le (X : Cx g cc nL own) {x : Int32} {off : Int} (tgt : Nat) (d : decode cc pc = .ok (.ifCond .le off, 3)) (ht : (pc : Int) + off = (tgt : Int)) (k1 : Sm g nL tgt lv st P1) (k2 : Sm g nL (pc + 3) lv st P2) : Sm g nL pc lv (.int x :: st) (if x ≤ 0 then P1 else P2) := Sm.br X (fun _ _ _ _ _ _ _ _ _ _ _ _ _ _ _ ls hx hb k1 k2 => lv_if_le hx hb d ht k1 k2) k1 k2
theorem s_if_ne (X : Cx g cc nL own) {x : Int32} {off : Int} (tgt : Nat) (d : decode cc pc = .ok (.ifCond .ne off, 3)) (ht : (pc : Int) + off = (tgt : Int)) (k1 : Sm g nL tgt lv st P1) (k2 : Sm g nL (pc + 3) lv st P2) : Sm g nL pc lv (.int x :: st) (if x = 0 then P2 else P1) := Sm.br X (fun _ _ _ _ _ _ _ _ _ _ _ _ _ _ _ ls hx hb k1 k2 => lv_if_ne hx hb d ht k2 k1) k2 k1
theorem s_icmp_eq (X : Cx g cc nL own) {x y : Int32} {off : Int} (tgt : Nat) (d : decode cc pc = .ok (.if_icmp .eq off, 3)) (ht : (pc : Int) + off = (tgt : Int)) (k1 : Sm g nL tgt lv st P1) (k2 : Sm g nL (pc + 3) lv st P2) : Sm g nL pc lv (.int y :: .int x :: st) (if x = y then P1 else P2) := Sm.br X (fun _ _ _ _ _ _ _ _ _ _ _ _ _ _ _ ls hx hb k1 k2 => lv_icmp_eq hx hb d ht k1 k2) k1 k2
theorem s_icmp_lt (X : Cx g cc nL own) {x y : Int32} {off : Int} (tgt : Nat) (d : decode cc pc = .ok (.if_icmp .lt off, 3)) (ht : (pc : Int) + off = (tgt : Int)) (k1 : Sm g nL tgt lv st P1) (k2 : Sm g nL (pc + 3) lv st P2) : Sm g nL pc lv (.int y :: .int x :: st) (if x < y then P1 else P2) := Sm.br X (fun _ _ _ _ _ _ _ _ _ _ _ _ _ _ _ ls hx hb k1 k2 => lv_icmp_lt hx hb d ht k1 k2) k1 k2
theorem s_icmp_ge (X : Cx g cc nL own) {x y : Int32} {off : Int} (tgt : Nat) (d : decode cc pc = .ok (.if_icmp .ge off, 3)) (ht : (pc : Int) + off = (tgt : Int)) (k1 : Sm g nL tgt lv st P1) (k2 : Sm g nL (pc + 3) lv st P2) : Sm g nL pc lv (.int y :: .int x :: st) (if y ≤ x then P1 else P2) := Sm.br X (fun _ _ _ _ _ _ _ _ _ _ _ _ _ _ _ ls hx hb k1 k2 => lv_icmp_ge hx hb d ht k1 k2) k1 k2
theorem s_icmp_gt (X : Cx g cc nL own) {x y : Int32} {off : Int} (tgt : Nat) (d : decode cc pc = .ok (.if_icmp .gt off, 3)) (ht : (pc : Int) + off = (tgt : Int)) (k1 : Sm g nL tgt lv st P1) (k2 : Sm g nL (pc + 3) lv st P2) : Sm g nL pc lv (.int y :: .int x :: st) (if y < x then P1 else P2) := Sm.br X (fun _ _ _ _ _ _ _ _ _ _ _ _ _ _ _ ls hx hb k1 k2 => lv_icmp_gt hx hb d ht k1 k2) k1 k2
theorem s_icmp_le (X : Cx g cc nL own) {x y : Int32} {off : Int} (tgt : Nat) (d : decode cc pc = .ok (.if_icmp .le off, 3)) (ht : (pc : Int) + off = (tgt : Int)) (k1 : Sm g nL tgt lv st P1) (k2 : Sm g nL (pc + 3) lv st P2) : Sm g nL pc lv (.int y :: .int x :: st) (if x ≤ y then P1 else P2) := Sm.br X (fun _ _ _ _ _ _ _ _ _ _ _ _ _ _ _ ls hx hb k1 k2 => lv_icmp_le hx hb d ht k1 k2) k1 k2
theorem s_icmp_ne (X : Cx g cc nL own) {x y : Int32} {off : Int} (tgt : Nat) (d : decode cc pc = .ok (.if_icmp .ne off, 3)) (ht : (pc : Int) + off = (tgt : Int)) (k1 : Sm g nL tgt lv st P1) (k2 : Sm g nL (pc + 3) lv st P2) : Sm g nL pc lv (.int y :: .int x :: st) (if x = y then P2 else P1) := Sm.br X (fun _ _ _ _ _ _ _ _ _ _ _ _ _ _ _ ls hx hb k1 k2 => lv_icmp_ne hx hb d ht k2 k1) k2 k1
theorem s_iret {g : Gm S Int32} {fr lo : Nat} (X : Cx g cc nL own) (Y : Rx g (fun r => some (.int r)) (some .int) fr lo) {v : Int32} (d : decode cc pc = .ok (.ireturn, 1)) : Sm g nL pc lv [.int v] (rt v) := by
  obtain ⟨w, p, e, R, s, m, args, below, meth, c, Rl, cs, b, Qf⟩ := g
  obtain ⟨hx, hb, hml, hown, hts, hlocks, -⟩ := X
  obtain ⟨rfl, hr, -⟩ := Y
  refine ⟨fun σ r σ' h => by cases h; exact ⟨Nat.le_refl _, Nat.le_refl _⟩, fun σ r σ' H locs ls hP hR hS hl h1 h2 h3 h4 => ?_⟩
  cases hP
  exact W.iret hx hb hr (fun t ht hW => ⟨⟨rfl, by rw [ht]; exact hR⟩, hS.F ht⟩) hS.2.2 d
theorem s_lret {g : Gm S Int64} {fr lo : Nat} (X : Cx g cc nL own) (Y : Rx g (fun r => some (.long r)) (some .long) fr lo) {v : Int64} (d : decode cc pc = .ok (.lreturn, 1)) : Sm g nL pc lv [.long v] (rt v) := by
  obtain ⟨w, p, e, R, s, m, args, below, meth, c, Rl, cs, b, Qf⟩ := g
  obtain ⟨hx, hb, hml, hown, hts, hlocks, -⟩ := X
  obtain ⟨rfl, hr, -⟩ := Y
  refine ⟨fun σ r σ' h => by cases h; exact ⟨Nat.le_refl _, Nat.le_refl _⟩, fun σ r σ' H locs ls hP hR hS hl h1 h2 h3 h4 => ?_⟩
  cases hP
  exact W.lret hx hb hr (fun t ht hW => ⟨⟨rfl, by rw [ht]; exact hR⟩, hS.F ht⟩) hS.2.2 d
theorem s_vret {g : Gm S Unit} {fr lo : Nat} (X : Cx g cc nL own) (Y : Rx g (fun _ => none) none fr lo) (d : decode cc pc = .ok (.return_, 1)) : Sm g nL pc lv [] (rt ()) := by
  obtain ⟨w, p, e, R, s, m, args, below, meth, c, Rl, cs, b, Qf⟩ := g
  obtain ⟨hx, hb, hml, hown, hts, hlocks, -⟩ := X
  obtain ⟨rfl, hr, -⟩ := Y
  refine ⟨fun σ r σ' h => by cases h; exact ⟨Nat.le_refl _, Nat.le_refl _⟩, fun σ r σ' H locs ls hP hR hS hl h1 h2 h3 h4 => ?_⟩
  cases hP
  exact W.vret hx hb hr (fun t ht hW => ⟨⟨rfl, by rw [ht]; exact hR⟩, hS.F ht⟩) hS.2.2 d
/-- a truth value's return: it is 0 or 1 -/
def zt (v : Int32) : S → Option (Int32 × S) := gd (v = 0 ∨ v = 1) (rt v)
theorem s_zret {g : Gm S Int32} {fr lo : Nat} (X : Cx g cc nL own) (Y : Rx g (fun r => some (.int r)) (some .boolean) fr lo) {v : Int32} (d : decode cc pc = .ok (.ireturn, 1)) : Sm g nL pc lv [.int v] (zt v) := by
  refine Sm.guard fun hq => ?_
  obtain ⟨w, p, e, R, s, m, args, below, meth, c, Rl, cs, b, Qf⟩ := g
  obtain ⟨hx, hb, hml, hown, hts, hlocks, -⟩ := X
  obtain ⟨rfl, hr, -⟩ := Y
  refine ⟨fun σ r σ' h => by cases h; exact ⟨Nat.le_refl _, Nat.le_refl _⟩, fun σ r σ' H locs ls hP hR hS hl h1 h2 h3 h4 => ?_⟩
  cases hP
  exact W.zret hx hb hr (by rcases hq with rfl | rfl <;> rfl) (fun t ht hW => ⟨⟨rfl, by rw [ht]; exact hR⟩, hS.F ht⟩) hS.2.2 d
end SMR
