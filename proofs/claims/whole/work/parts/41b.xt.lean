/-! ===== a throw, and the heap's size behind it ===== -/
section VYE
variable {p : Program} {l : Launch} {e : Env} {R : Room} {s : State} {m : MethodId} {args : Array Value} {below : List Frame} {meth : Method} {c : Code} {H : Heap} {locs : List Loc} {cells slots : Nat} {Q : State → Prop}
variable {mc ms : Nat} {free : Addr → Prop} {A0 A1 : Nat → Prop} {H0 : Heap} {a : Array Value} {ls : Array Slot} {st0 rest : List Value}
variable {Qc : Array Value → State → Outcome → State → Prop} {XC : String → State → State → Prop}
theorem vy_throw0 {cc : ByteArray} {pc : Nat} (hexec : p.tables.exec = Jvm.exec) (hb : c.code = cc) (hl : l.stackTraces = false) {own cls : String} {names : List String} {ik ic mc ms : Nat} {A : Nat → Prop}
    (hown : s.vm.findClass own = some m.cls) (hcls : Bundle.fit cls = true) (hnames : ∀ n ∈ names, Bundle.fit n = true)
    (hk : (Cond.classLink own ik cls).before args s = true) (hini : (Cond.initialized cls).before args s = true) (hat : ∀ w ∈ vx_at0 own ic cls names, w.before args s = true)
    (hgood : ∀ w ∈ Cond.classLink own ik cls :: Cond.initialized cls :: vx_at0 own ic cls names, vx_ot w = true)
    (hU : vx_Zq Bundle.tN "UNASSIGNED_STACK" Bundle.steD A s s.heap) (hN : vx_Zq Bundle.tN "SUPPRESSED_SENTINEL" Bundle.listD A s s.heap) (hS : va_S A s.heap H locs) (hsize : ls.size = c.maxLocals)
    (d0 : decode cc pc = .ok (.new ik, 3)) (d3 : decode cc (pc + 3) = .ok (.dup, 1)) (d4 : decode cc (pc + 4) = .ok (.invokespecial ic, 3)) (d7 : decode cc (pc + 7) = .ok (.athrow, 1))
    (hout : ∀ x ∈ c.exceptionTable.toList, covers x (pc + 7) = false)
    (hRframes : names.length + 3 < R.frames) (hRlocals : (rest.map fun v => v.category).sum + (13 * (names.length + 1) + 42) ≤ R.locals) (hRcells : cells + 1 ≤ R.cells) (hRslots : slots + 6 ≤ R.slots) (hlocks : meth.locks = false)
    (hx : ∀ t : State, s.vm.Alike t.vm → t.heap.size = H.size + 1 → (∀ q : Nat, q < H.size → t.heap[q]? = H[q]?) → XC cls s t)
    (hf : ∀ z ∈ locs, free z.base) (hc : cells + 1 ≤ mc) (hs : slots + 6 ≤ ms) :
    W p l e R s m args below meth c H locs cells slots (vx_MQ below Qc XC args s mc ms free) (F0 m pc ls rest) := by
  intro T hT X
  have htr : e.platform.stackTraces = false := (show e.platform.stackTraces = l.stackTraces by rw [X.admits.platform]).trans hl
  have Y := vx_rebase X (R' := { frames := R.frames, locals := R.locals, cells := 1, slots := 6 }) (Nat.le_refl _) (Nat.le_refl _) hRcells hRslots
  obtain ⟨s', hA⟩ : ∃ z, z = (T.setVm s.vm).setFrames (.invoking m args :: below) := ⟨_, rfl⟩
  rw [← hA] at Y
  have hvm : s'.vm = s.vm := by rw [hA]; rfl
  have hhp : s'.heap = H := by rw [hA]; exact hT
  have hW0 : s.WarmedH s'.vm := by rw [hvm]; exact State.WarmedH.refl s
  have hat' : ∀ w ∈ vx_at0 own ic cls names, w.before args s' = true := fun w hw => vx_ot_at hW0 hvm.symm (hgood w (List.mem_cons_of_mem _ (List.mem_cons_of_mem _ hw))) (hat w hw)
  have hk' : (Cond.classLink own ik cls).before args s' = true := vx_ot_at hW0 hvm.symm (hgood _ List.mem_cons_self) hk
  have hini' : (Cond.initialized cls).before args s' = true := vx_ot_at hW0 hvm.symm (hgood _ (List.mem_cons_of_mem _ List.mem_cons_self)) hini
  have hU' : vx_Zq Bundle.tN "UNASSIGNED_STACK" Bundle.steD A s' s'.heap := by rw [hhp]; exact vx_Zq.moved hW0.alike (hU.kept hS.2.1)
  have hN' : vx_Zq Bundle.tN "SUPPRESSED_SENTINEL" Bundle.listD A s' s'.heap := by rw [hhp]; exact vx_Zq.moved hW0.alike (hN.kept hS.2.1)
  have h : ∀ w ∈ Bundle.ownAtoms0 own ic cls names, w.before args s' = true := vx_own hat' (vx_isRefq hU'.1) (vx_isRefq hN'.1) hU'.2.word hN'.2.word
  have hown' : s'.vm.findClass own = some m.cls := by rw [hvm]; exact hown
  have hins : (Cond.instantiable cls 6).before args s' = true := h _ (by simp [Bundle.ownAtoms0])
  obtain ⟨vm₁, cX, kX, hfX, hkX, -, -, X₁, st1⟩ := Y.newCold hexec (own := own) (C := cls) (index := ik) (n := 6) hown' hk' hins hini'
    (g := F0 m pc ls rest) rfl (by rw [hb]; exact d0) (Nat.le_refl _) (Nat.le_refl _)
  generalize hT1 : (T.setVm vm₁).pushCell { cls := cX, slots := kX.instanceTypes.map defaultValue, vm := .none } = T1 at X₁ st1
  have hcat : (Value.ref T.heap.size).category = 1 := rfl
  have hcellA : T1.heap[T.heap.size]? = some (freshCell cX kX) := by rw [← hT1]; exact State.heap_pushCell_size _ _
  have d3' : decode c.code (pc + 3) = .ok (.dup, 1) := by rw [hb]; exact d3
  obtain ⟨U, hsteps, hrun, hend, hW, hsame, ce, hce, hO⟩ := X₁.ctorThrow0 hexec htr (own := own) (cls := cls) (names := names) (ic := ic) hown' hcls hnames h (fun x hx => nomatch hx) hfX hkX hcellA (by rw [hhp, hT]; exact Nat.le_refl _)
    (g := { method := m, pc := pc + 4, locals := ls, stack := .ref T.heap.size :: .ref T.heap.size :: rest, locked := none }) rfl hsize rfl rfl (rest := rest) rfl
    (by rw [hb]; exact d4) (by rw [hb]; exact d7) hout hRframes (by simp only [List.map_cons, List.sum_cons, hcat]; omega) hlocks
  obtain ⟨f1, f2⟩ := vx_frame hsame
  rw [hhp] at f1 f2
  have f0 : U.heap.size = H.size + 1 := by
    have z1 : U.heap.size ≤ H.size + 1 := by
      have z := hsame.2.2.1
      rw [hhp] at z
      exact z
    have z2 : T.heap.size < U.heap.size := (Array.getElem?_eq_some_iff.mp hce).1
    rw [hT] at z2
    omega
  have hWs : s.WarmedH U.vm := State.WarmedH.trans hW0 hW
  have hcl : s.vm.findClass cls = some ce.cls := by
    have h9 := hO.cls
    rw [hvm] at h9
    exact h9
  have hall : s.sameButNew ({ U with vm := s.vm } : State) locs mc ms := by
    subst hA
    obtain ⟨e1, e2⟩ := hsame
    rw [State.setFrames_setFrames] at e1
    have h2 : (T.setVm s.vm).sameButNew ({ U with vm := s.vm } : State) [] (0 + 1) (0 + 6) := ⟨e1, e2⟩
    have h3 := X.same.trans h2
    rw [List.append_nil] at h3
    exact h3.mono hc hs
  refine ⟨U, ?_, .threw T.heap.size, hrun, hend, Or.inr ⟨T.heap.size, rfl, cls, ce, locs, hx U hWs.alike f0 (fun q hq => f2 q hq (fun z hz => nomatch hz)), hce, hO.vm, hcl, hWs, hall, hf⟩⟩
  refine st1 _ ?_
  show Steps p.tables e below (T1.setTop { method := m, pc := pc + 3, locals := ls, stack := .ref T.heap.size :: rest, locked := none }) _
  jvm_step X₁.here [X₁.here.top, hexec, d3', Value.category]
  exact hsteps
end VYE
/-! ===== answers of methods that may throw: .inl 0, 1, 2 by the exception's kind ===== -/
def enm (e : Nat) : String := if e = 0 then "java/lang/IndexOutOfBoundsException" else if e = 1 then "java/lang/IllegalArgumentException" else "java/lang/IllegalStateException"
def vX {α : Type} (vo : α → Option Value) : Nat ⊕ α → Option Value := fun r => match r with
  | .inr x => vo x
  | .inl _ => none
def QoX {S α : Type} (Rl : S → Heap → Prop) (A : Nat → Prop) (vo : α → Option Value) (r : Nat ⊕ α) (σ : S) : Array Value → State → Outcome → State → Prop := match r with
  | .inr x => Qo Rl A vo x σ
  | .inl _ => fun _ _ _ _ => False
def XoX {S α : Type} (Rl : S → Heap → Prop) (A : Nat → Prop) (r : Nat ⊕ α) (σ : S) : String → State → State → Prop := fun E st t => (∃ e, r = .inl e ∧ E = enm e) ∧ Rl σ t.heap ∧ va_F A st t
def RxX {S α : Type} (g : Gm S (Nat ⊕ α)) (vo : α → Option Value) (ret : Option FieldType) : Prop := match g with
  | (w, p, e, R, s, m, args, below, meth, c, Rl, cs, b, Qf) =>
    Qf = (fun r σ' => vx_MQ below (QoX Rl w.2.2.2.1 vo r σ') (XoX Rl w.2.2.2.1 r σ') args s ((cs σ').1 - b.1) ((cs σ').2 - b.2) w.2.2.2.1) ∧ meth.sig.returnType = ret ∧ ∀ x ∈ c.exceptionTable.toList, False
def XE (w : Wd) (U : State) : Prop := vx_Zq Bundle.tN "UNASSIGNED_STACK" Bundle.steD w.2.2.2.1 U U.heap ∧ vx_Zq Bundle.tN "SUPPRESSED_SENTINEL" Bundle.listD w.2.2.2.1 U U.heap
def Wz (w : Wd) : Prop := w.2.2.2.2.1.stackTraces = false ∧ ∀ U, w.2.2.1 U → XE w U
def Bz {α : Type} (g : Gm Hp (Nat ⊕ α)) (cc : ByteArray) (nL : Nat) (own : String) (vo : α → Option Value) (ret : Option FieldType) (fr lo : Nat) (nm : String) : Prop :=
  Bc g cc nL own (vX vo) ret fr lo ∧ Wc g.1 ∧ XC g.1 g.2.2.2.2.1 ∧ g.2.2.2.2.2.2.2.2.1.name = nm ∧ RxX g vo ret ∧ Wz g.1 ∧ XE g.1 g.2.2.2.2.1
/-- a contract by a program, of a method that may throw -/
def MX {α : Type} (w : Wd) (y : MethodName) (cc : ByteArray) (nL : Nat) (ret : Option FieldType) (fr lo : Nat) (vo : α → Option Value) (av : List Value) (P : Hp → Option ((Nat ⊕ α) × Hp)) : Prop :=
  Mo P ∧ ∀ (σ : Hp) (r : Nat ⊕ α) (σ' : Hp), P σ = some (r, σ') → vx_Met w.2.2.2.2.1 y (.code y cc nL ret :: TB) { frames := fr, cells := (hcs σ').1 - (hcs σ).1, slots := (hcs σ').2 - (hcs σ).2, locals := lo } (va_Pc av (fun U => Rc w σ U.heap ∧ GK w U)) (QoX (Rc w) w.2.2.2.1 vo r σ') (XoX (Rc w) w.2.2.2.1 r σ') ((hcs σ').1 - (hcs σ).1) ((hcs σ').2 - (hcs σ).2) w.2.2.2.1
theorem MX.of {α : Type} {w : Wd} {y : MethodName} {cc : ByteArray} {nL : Nat} {ret : Option FieldType} {fr lo : Nat} {vo : α → Option Value} {av : List Value} {P : Hp → Option ((Nat ⊕ α) × Hp)} {own nm : String}
    (hw : Wc w) (hz : Wz w) (hy : y.cls = own ∧ y.name = nm) (hpl : plainName own = true) (hn : (lg_sl av).length ≤ nL) (hmono : Mo P)
    (h : ∀ g : Gm Hp (Nat ⊕ α), g.1 = w → Bz g cc nL own vo ret fr lo nm → Sm g nL 0 (lv_args 0 av) [] P) : MX w y cc nL ret fr lo vo av P := by
  obtain ⟨rfl, rfl⟩ := hy
  refine ⟨hmono, fun σ r σ' hP => ?_⟩
  refine vx_ofW (cc := cc) (maxL := nL) (ret := ret) hpl rfl ?_
  intro p e s m args below meth c s₁ B hml hnt hv
  obtain ⟨rfl, hR, hG⟩ := hv
  have hts0 := atoms_spec (ws := .code y cc nL ret :: TB) B.pre
  have hts : ∀ w ∈ TB, w.before av.toArray s = true := fun w hw => hts0 w (List.mem_cons_of_mem _ hw)
  have hown : s.vm.findClass y.cls = some m.cls := findClass_of_methodNamed B.named
  have hin : meth.name = y.name := (name_of_methodNamed B.named B.method).1
  have hl := lv_entry av (n := nL) hn
  rw [lg_entry_eq]
  have K := (h (w, p, e, (headSpec (.code y cc nL ret :: TB) { frames := fr, cells := (hcs σ').1 - (hcs σ).1, slots := (hcs σ').2 - (hcs σ).2, locals := lo }).room, s, m, av.toArray, below, meth, c, Rc w, hcs, hcs σ, (fun r σ' => vx_MQ below (QoX (Rc w) w.2.2.2.1 vo r σ') (XoX (Rc w) w.2.2.2.1 r σ') av.toArray s ((hcs σ').1 - (hcs σ).1) ((hcs σ').2 - (hcs σ).2) w.2.2.2.1)) rfl
    ⟨⟨⟨B.exec, B.bytes, hml, hown, hts, B.notSynchronized, hG, hw.1⟩, ⟨rfl, rfl⟩, rfl, rfl⟩, hw, hw.2 s hG.2, hin, ⟨rfl, B.returns, hnt⟩, hz, hz.2 s hG.2⟩).2 σ r σ' s.heap [] _ hP hR va_S.rf hl (Nat.le_refl _) (Nat.le_refl _)
  have hm := hmono σ r σ' hP
  have K2 := K (by show _ ≤ _ + ((hcs σ').1 - (hcs σ).1); omega) (by show _ ≤ _ + ((hcs σ').2 - (hcs σ).2); omega)
  rw [Nat.sub_self, Nat.sub_self] at K2
  exact K2
/-! ===== their steps ===== -/
def hTh {α : Type} (e : Nat) : Hp → Option ((Nat ⊕ α) × Hp) := fun h => some (.inl e, hsk h 6)
/-- a call of a method that may throw -/
def bx {S α ρ : Type} (x : S → Option ((Nat ⊕ α) × S)) (f : α → S → Option ((Nat ⊕ ρ) × S)) : S → Option ((Nat ⊕ ρ) × S) := fun h => match x h with
  | some (.inr a, h1) => f a h1
  | some (.inl e, h1) => some (.inl e, h1)
  | none => none
def hCx {ρ α : Type} (c : Nat) (r : Option Nat) (P : Nat → Hp → Option ((Nat ⊕ α) × Hp)) (f : α → Hp → Option ((Nat ⊕ ρ) × Hp)) : Hp → Option ((Nat ⊕ ρ) × Hp) := fun h => match r with
  | some a => if hkd h a = c + 1 then bx (P a) f h else none
  | none => none
theorem bx_some {S α ρ : Type} {x : S → Option ((Nat ⊕ α) × S)} {f : α → S → Option ((Nat ⊕ ρ) × S)} {h h2 : S} {b : Nat ⊕ ρ} (hp : bx x f h = some (b, h2)) : (∃ a h1, x h = some (.inr a, h1) ∧ f a h1 = some (b, h2)) ∨ ∃ e, x h = some (.inl e, h2) ∧ b = .inl e := by
  unfold bx at hp
  cases hx : x h with
  | none => rw [hx] at hp; cases hp
  | some q =>
    obtain ⟨q1, q2⟩ := q
    cases q1 with
    | inl e => rw [hx] at hp; cases hp; exact Or.inr ⟨e, rfl, rfl⟩
    | inr a => rw [hx] at hp; exact Or.inl ⟨a, q2, rfl, hp⟩
theorem mo_hTh {α : Type} (e : Nat) : Mo (hTh e : Hp → Option ((Nat ⊕ α) × Hp)) := fun σ r σ' h => by
  cases h
  exact ⟨Nat.le_succ _, Nat.le_add_right _ _⟩
theorem mo_bx {α ρ : Type} {x : Hp → Option ((Nat ⊕ α) × Hp)} {f : α → Hp → Option ((Nat ⊕ ρ) × Hp)} (h1 : Mo x) (h2 : ∀ v, Mo (f v)) : Mo (bx x f) := fun σ r σ' hp => by
  rcases bx_some hp with ⟨a, σ1, e1, e2⟩ | ⟨e, e1, e2⟩
  · have m1 := h1 σ _ σ1 e1
    have m2 := h2 a σ1 r σ' e2
    exact ⟨Nat.le_trans m1.1 m2.1, Nat.le_trans m1.2 m2.2⟩
  · exact h1 σ _ σ' e1
theorem mo_hCx {α ρ : Type} {c : Nat} {r : Option Nat} {Q : Nat → Hp → Option ((Nat ⊕ α) × Hp)} {f : α → Hp → Option ((Nat ⊕ ρ) × Hp)} (h1 : ∀ a, Mo (Q a)) (h2 : ∀ v, Mo (f v)) : Mo (hCx c r Q f) := by
  intro σ r σ' hp
  unfold hCx at hp
  split at hp
  · split at hp
    · exact mo_bx (h1 _) h2 σ r σ' hp
    · cases hp
  · cases hp
theorem Rc.sk {w : Wd} {h : Hp} {H H' : Heap} (n : Nat) (hR : Rc w h H) (hs : H'.size = H.size + 1) (hk : ∀ q : Nat, q < H.size → H'[q]? = H[q]?) : Rc w (hsk h n) H' := by
  have hkd' : ∀ a, hkd (hsk h n) a = if a = hnx h then 0 else hkd h a := fun a => rfl
  refine ⟨by rw [hs, hR.1]; rfl, fun a ha => ?_, fun q hq => hR.2.2.1 q (Nat.le_of_succ_le hq), fun a => ?_⟩
  · rw [hkd'] at ha
    by_cases e : a = hnx h
    · rw [if_pos e] at ha; exact absurd rfl ha
    · rw [if_neg e] at ha
      have z := hR.2.1 a ha
      exact ⟨z.1, Nat.lt_succ_of_lt z.2⟩
  · by_cases e : hkd (hsk h n) a = 0
    · exact ⟨fun c _ hc => absurd (e.symm.trans hc) (by omega), fun t ht => absurd (e.symm.trans ht) (by omega)⟩
    · rw [hkd'] at e
      by_cases e2 : a = hnx h
      · rw [if_pos e2] at e; exact absurd rfl e
      · rw [if_neg e2] at e
        exact cel.kept (h := h) (hR.2.2.2 a) (hk a (by rw [hR.1]; exact (hR.2.1 a e).2)) (by rw [hkd', if_neg e2]) (fun _ _ => rfl) (fun _ => rfl)
section XRO
variable {α ρ : Type} {cc : ByteArray} {nL pc : Nat} {own nm : String} {lv : List (Nat × Value)} {st stk : List Value} {fr lo : Nat}
theorem x_iret {g : Gm Hp (Nat ⊕ Int32)} (B : Bz g cc nL own voI (some .int) fr lo nm) {v : Int32} (d : decode cc pc = .ok (.ireturn, 1)) : Sm g nL pc lv [.int v] (rt (.inr v)) := by
  obtain ⟨w, p, e, R, s, m, args, below, meth, c, Rl, cs, b, Qf⟩ := g
  obtain ⟨⟨⟨hx, hb, hml, hown, hts, hlocks, -⟩, -⟩, -, -, -, ⟨rfl, hr, -⟩, -⟩ := B
  refine ⟨fun σ r σ' h => by cases h; exact ⟨Nat.le_refl _, Nat.le_refl _⟩, fun σ r σ' H locs ls hP hR hS hl h1 h2 h3 h4 => ?_⟩
  cases hP
  exact vx_ret (W.iret hx hb hr (fun t ht hW => ⟨⟨rfl, by rw [ht]; exact hR⟩, hS.F ht⟩) hS.2.2 d)
def zx (v : Int32) : Hp → Option ((Nat ⊕ Int32) × Hp) := gd (v = 0 ∨ v = 1) (rt (.inr v))
theorem mo_zx (v : Int32) : Mo (zx v) := mo_gd (mo_rt _)
theorem x_zret {g : Gm Hp (Nat ⊕ Int32)} (B : Bz g cc nL own voI (some .boolean) fr lo nm) {v : Int32} (d : decode cc pc = .ok (.ireturn, 1)) : Sm g nL pc lv [.int v] (zx v) := by
  refine Sm.guard fun hq => ?_
  obtain ⟨w, p, e, R, s, m, args, below, meth, c, Rl, cs, b, Qf⟩ := g
  obtain ⟨⟨⟨hx, hb, hml, hown, hts, hlocks, -⟩, -⟩, -, -, -, ⟨rfl, hr, -⟩, -⟩ := B
  refine ⟨fun σ r σ' h => by cases h; exact ⟨Nat.le_refl _, Nat.le_refl _⟩, fun σ r σ' H locs ls hP hR hS hl h1 h2 h3 h4 => ?_⟩
  cases hP
  exact vx_ret (W.zret hx hb hr (by rcases hq with rfl | rfl <;> rfl) (fun t ht hW => ⟨⟨rfl, by rw [ht]; exact hR⟩, hS.F ht⟩) hS.2.2 d)
theorem x_lret {g : Gm Hp (Nat ⊕ Int64)} (B : Bz g cc nL own voL (some .long) fr lo nm) {v : Int64} (d : decode cc pc = .ok (.lreturn, 1)) : Sm g nL pc lv [.long v] (rt (.inr v)) := by
  obtain ⟨w, p, e, R, s, m, args, below, meth, c, Rl, cs, b, Qf⟩ := g
  obtain ⟨⟨⟨hx, hb, hml, hown, hts, hlocks, -⟩, -⟩, -, -, -, ⟨rfl, hr, -⟩, -⟩ := B
  refine ⟨fun σ r σ' h => by cases h; exact ⟨Nat.le_refl _, Nat.le_refl _⟩, fun σ r σ' H locs ls hP hR hS hl h1 h2 h3 h4 => ?_⟩
  cases hP
  exact vx_ret (W.lret hx hb hr (fun t ht hW => ⟨⟨rfl, by rw [ht]; exact hR⟩, hS.F ht⟩) hS.2.2 d)
theorem x_vret {g : Gm Hp (Nat ⊕ Unit)} (B : Bz g cc nL own voV none fr lo nm) (d : decode cc pc = .ok (.return_, 1)) : Sm g nL pc lv [] (rt (.inr ())) := by
  obtain ⟨w, p, e, R, s, m, args, below, meth, c, Rl, cs, b, Qf⟩ := g
  obtain ⟨⟨⟨hx, hb, hml, hown, hts, hlocks, -⟩, -⟩, -, -, -, ⟨rfl, hr, -⟩, -⟩ := B
  refine ⟨fun σ r σ' h => by cases h; exact ⟨Nat.le_refl _, Nat.le_refl _⟩, fun σ r σ' H locs ls hP hR hS hl h1 h2 h3 h4 => ?_⟩
  cases hP
  exact vx_ret (W.vret hx hb hr (fun t ht hW => ⟨⟨rfl, by rw [ht]; exact hR⟩, hS.F ht⟩) hS.2.2 d)
theorem x_aret {g : Gm Hp (Nat ⊕ Option Nat)} {rty : FieldType} (B : Bz g cc nL own voR (some rty) fr lo nm) (hrt : (∃ n, rty = .object n) ∨ ∃ t, rty = .array t) {v : Option Nat} (d : decode cc pc = .ok (.areturn, 1)) : Sm g nL pc lv [va_rf v] (rt (.inr v)) := by
  obtain ⟨w, p, e, R, s, m, args, below, meth, c, Rl, cs, b, Qf⟩ := g
  obtain ⟨⟨⟨hx, hb, hml, hown, hts, hlocks, -⟩, -⟩, -, -, -, ⟨rfl, hr, -⟩, -⟩ := B
  refine ⟨fun σ r σ' h => by cases h; exact ⟨Nat.le_refl _, Nat.le_refl _⟩, fun σ r σ' H locs ls hP hR hS hl h1 h2 h3 h4 => ?_⟩
  cases hP
  exact vx_ret (W.aret hx hb hr hrt (by cases v with | none => exact Or.inl rfl | some a => exact Or.inr ⟨a, rfl⟩) (fun t ht hW => ⟨⟨rfl, by rw [ht]; exact hR⟩, hS.F ht⟩) hS.2.2 d)
def exN : List String := ["java/lang/RuntimeException", "java/lang/Exception"]
theorem x_throw {vo : α → Option Value} {ret : Option FieldType} {g : Gm Hp (Nat ⊕ α)} (B : Bz g cc nL own vo ret fr lo nm) (e : Nat) {ik ic : Nat} (hcls : Bundle.fit (enm e) = true) (hk : Cond.classLink own ik (enm e) ∈ TB) (hini : Cond.initialized (enm e) ∈ TB)
    (h1 : ∀ w ∈ (vx_at0 own ic (enm e) exN).filter goodWord, w ∈ TB) (h2 : ∀ w ∈ (vx_at0 own ic (enm e) exN).filter (fun w => !goodWord w), w ∈ nwl.filter Cond.onTables) (h3 : ∀ w ∈ vx_at0 own ic (enm e) exN, vx_ot w = true)
    (hR : 6 ≤ fr ∧ 90 ≤ lo) (hc : (st.map fun v => v.category).sum ≤ 8) (d0 : decode cc pc = .ok (.new ik, 3)) (d3 : decode cc (pc + 3) = .ok (.dup, 1)) (d4 : decode cc (pc + 4) = .ok (.invokespecial ic, 3)) (d7 : decode cc (pc + 7) = .ok (.athrow, 1)) : Sm g nL pc lv st (hTh e) := by
  obtain ⟨w, p, en, R, s, m, args, below, meth, c, Rl, cs, b, Qf⟩ := g
  obtain ⟨⟨⟨hx, hb, hml, hown, hts, hlocks, hG, hw⟩, ⟨hf1, hf2⟩, hRl, hcs'⟩, -, hXC, -, ⟨rfl, hr, hnt⟩, hz, hE⟩ := B
  dsimp only at hRl hcs' hXC hz hE hf1 hf2
  subst hRl; subst hcs'
  refine ⟨fun σ r σ' h => mo_hTh (α := α) e σ r σ' h, fun σ r σ' H locs ls hP hR' hS hl b1 b2 b3 b4 => ?_⟩
  cases hP
  have e1 : (hcs (hsk σ 6)).1 = (hcs σ).1 + 1 := rfl
  have e2 : (hcs (hsk σ 6)).2 = (hcs σ).2 + 6 := rfl
  rw [e1] at b3; rw [e2] at b4
  refine vy_throw0 (names := exN) (A := w.2.2.2.1) hx hb hz.1 hown hcls (by decide) (hts _ hk) (hts _ hini) (vx_hat (B := nwl.filter Cond.onTables) (fun w hw => hts _ (h1 w hw)) h2 (fun w hw => va_Nw.use (List.mem_filter.mp hw).2 (hXC.1 w (List.mem_filter.mp hw).1))) ?_ hE.1 hE.2 hS (hl.1.trans hml.symm) d0 d3 d4 d7 (fun x hx => (hnt x hx).elim) (by rw [hf1]; exact hR.1) ?_ (by omega) (by omega) hlocks ?_ hS.2.2 ?_ ?_
  · intro z hz
    rcases List.mem_cons.mp hz with rfl | hz
    · rfl
    · rcases List.mem_cons.mp hz with rfl | hz
      · rfl
      · exact h3 z hz
  · rw [hf2]
    show _ + 81 ≤ lo
    omega
  · intro t ht hs hk
    refine ⟨⟨e, rfl, rfl⟩, hR'.sk 6 hs hk, ?_⟩
    refine ⟨Nat.le_trans hS.1 (by rw [hs]; exact Nat.le_succ _), fun q hq hn => ?_⟩
    rw [hk q (Nat.lt_of_lt_of_le hq hS.1)]
    exact hS.2.1 q hq hn
  · show _ ≤ (hcs σ).1 + 1 - b.1
    omega
  · show _ ≤ (hcs σ).2 + 6 - b.2
    omega
/-- a call of a method of an object of kind c that may throw; what it throws goes on -/
theorem x_call {vo : ρ → Option Value} {ret : Option FieldType} {g : Gm Hp (Nat ⊕ ρ)} {vo' : α → Option Value} {C : String} {T : u_T} {N : Nat} (c0 : Nat) (hcl : vwCl[c0]? = some (C, T, N)) (hc1 : c0 < 100) {r0 : Option Nat} {Pk : Nat → Hp → Option ((Nat ⊕ α) × Hp)} {f : α → Hp → Option ((Nat ⊕ ρ) × Hp)} {y : MethodName} {cb : ByteArray} {n2 : Nat} {ret2 : Option FieldType} {fr2 lo2 idx : Nat} {As : List Value}
    (B : Bz g cc nL own vo ret fr lo nm) (M : ∀ a, MX g.1 y cb n2 ret2 fr2 lo2 vo' (va_rf (some a) :: As) (Pk a))
    (hcode : Cond.code y cb n2 ret2 ∈ TB) (hlink : Cond.methodLink own idx y ∈ TB) (hin : Cond.instanceMethod y ∈ TB) (hsel : Cond.selects C y y ∈ TB) (hini : Cond.initialized y.cls ∈ TB)
    (hd : y.cls ≠ "java/lang/invoke/MethodHandle" ∧ y.cls ≠ "java/lang/invoke/VarHandle" ∧ (parseMethodDescriptor y.desc).map (fun d => d.parameters.length) = some As.length)
    (hR : fr2 + 1 ≤ fr ∧ 8 + (n2 + 11) + lo2 ≤ lo) (hs : stk = As.reverse ++ va_rf r0 :: st) (hc : (st.map fun v => v.category).sum ≤ 8) (d : decode cc pc = .ok (.invokevirtual idx, 3))
    (k : ∀ r, Sm g nL (pc + 3) lv ((vo' r).toList ++ st) (f r)) : Sm g nL pc lv stk (hCx c0 r0 Pk f) := by
  subst hs
  cases r0 with
  | none => exact Sm.fail
  | some bo =>
  obtain ⟨w, p, en, R, s, m, args, below, meth, c, Rl, cs, b, Qf⟩ := g
  obtain ⟨⟨⟨hx, hb, hml, hown, hts, hlocks, hG, hw⟩, ⟨hf1, hf2⟩, hRl, hcs'⟩, -, hXC, -, ⟨rfl, hr, hnt⟩, hz, hE⟩ := B
  dsimp only at hRl hcs' hXC hz hE hf1 hf2 M
  subst hRl; subst hcs'; subst hf1; subst hf2
  refine ⟨mo_hCx (fun a => (M a).1) (fun v => (k v).1), fun σ r σ' H locs ls hP hRl hS hl b1 b2 b3 b4 => ?_⟩
  unfold hCx at hP
  dsimp only at hP
  by_cases hq : hkd σ bo = c0 + 1
  case neg => rw [if_neg hq] at hP; cases hP
  rw [if_pos hq] at hP
  obtain ⟨r', e1, hO⟩ := (hRl.2.2.2 bo).1 c0 hc1 hq
  have e2 : r' = (C, T, N) := Option.some.inj (e1.symm.trans hcl)
  subst e2
  obtain ⟨cell, q1, q2, q3, -⟩ := hO
  have hrec : ∃ cell : Cell, H[bo]? = some cell ∧ cell.vm.isStatics = false ∧ s.vm.findClass C = some cell.cls := ⟨cell, q1, by rw [q3]; rfl, by rw [q2]; exact (hG.1.1 c0 _ hcl).2.1⟩
  have hrun : ∀ (x : Nat ⊕ α) (σ1 : Hp), Pk bo σ = some (x, σ1) → (hcs σ1).1 ≤ (hcs σ').1 → (hcs σ1).2 ≤ (hcs σ').2 → vx_Run p w.2.2.2.2.1 en R s m args below meth c H locs ((hcs σ).1 - b.1) ((hcs σ).2 - b.2) ((hcs σ1).1 - (hcs σ).1) ((hcs σ1).2 - (hcs σ).2) (F0 m pc ls (As.reverse ++ va_rf (some bo) :: st)) st (QoX (Rc w) w.2.2.2.1 vo' x σ1 (Value.ref bo :: As).toArray) (XoX (Rc w) w.2.2.2.1 x σ1) w.2.2.2.1 := by
    intro x σ1 h1 z1 z2
    have m1 : (hcs σ).1 ≤ (hcs σ1).1 ∧ (hcs σ).2 ≤ (hcs σ1).2 := (M bo).1 σ x σ1 h1
    refine vx_runV (C := C) (As := As) (rest := st) (Ts := TB) (own := own) ⟨hx, hb, hml, hown, hts⟩ ((M bo).2 σ x σ1 h1) ⟨callB_of As.length hts (code_good hcode) rfl rfl rfl (hts _ hini) (hts _ hlink) hd hR, hts _ hin, hts _ hsel⟩ ⟨fun a U g mk q => ⟨q.1, q.2.1, q.2.2.calling hw g mk a⟩, hrec, fun U hU hW => ⟨rfl, by rw [hU]; exact hRl, hG.moved hw hW (by rw [hU]; exact hS)⟩⟩ rfl rfl hl.1 rfl (lv_room hc) d ⟨?_, ?_⟩
    · show (hcs σ).1 - b.1 + ((hcs σ1).1 - (hcs σ).1) ≤ R.cells
      omega
    · show (hcs σ).2 - b.2 + ((hcs σ1).2 - (hcs σ).2) ≤ R.slots
      omega
  rcases bx_some hP with ⟨x, σ1, h1, h2⟩ | ⟨e, h1, rfl⟩
  · have m1 : (hcs σ).1 ≤ (hcs σ1).1 ∧ (hcs σ).2 ≤ (hcs σ1).2 := (M bo).1 σ _ σ1 h1
    have m2 : (hcs σ1).1 ≤ (hcs σ').1 ∧ (hcs σ1).2 ≤ (hcs σ').2 := (k x).1 σ1 r σ' h2
    refine Sm.back (vo' := vo') (ca := (Value.ref bo :: As).toArray) k h2 m1 hS hl b1 b2 b3 b4 ?_
    intro T hT X
    rcases hrun _ σ1 h1 m2.1 m2.2 T hT X with h | ⟨q, st₀, t, T', L, E, ce, -, -, -, -, -, ⟨⟨e, he, -⟩, -⟩, -⟩
    · exact h
    · cases he
  · have m1 : (hcs σ).1 ≤ (hcs σ').1 ∧ (hcs σ).2 ≤ (hcs σ').2 := (M bo).1 σ _ σ' h1
    intro T hT X
    rcases hrun _ σ' h1 (Nat.le_refl _) (Nat.le_refl _) T hT X with ⟨v, st₀, t, T', L, -, -, -, -, -, hF, -⟩ | ⟨q, st₀, t, T', L, E, ce, h0, X', hL, a1, a2, ⟨⟨e', he, hE'⟩, hR2, hF⟩, hce, hcv, hfc, stp⟩
    · exact hF.elim
    · cases he
      subst hE'
      obtain ⟨hF1, hF2⟩ := hF
      rw [h0] at hF1 hF2
      have q1 : (hcs σ).1 - b.1 + ((hcs σ').1 - (hcs σ).1) = (hcs σ').1 - b.1 := by omega
      have q2 : (hcs σ).2 - b.2 + ((hcs σ').2 - (hcs σ).2) = (hcs σ').2 - b.2 := by omega
      rw [q1, q2] at X'
      have hS1 : va_S w.2.2.2.1 s.heap T'.heap (locs ++ L) := ⟨Nat.le_trans hS.1 (by rw [a1]; exact hF1), fun q z1 z2 => by rw [a1, hF2 q (Nat.lt_of_lt_of_le z1 hS.1) z2]; exact hS.2.1 q z1 z2, fun q hq => by
        rcases List.mem_append.mp hq with z | z
        · exact hS.2.2 q z
        · exact hL q z⟩
      have K := vx_out (Qc := QoX (Rc w) w.2.2.2.1 vo (.inl e) σ') (XC := XoX (Rc w) w.2.2.2.1 (.inl e : Nat ⊕ ρ) σ') (mc := (hcs σ').1 - b.1) (ms := (hcs σ').2 - b.2) (free := w.2.2.2.1) (H := T'.heap) (pc := pc) (ls := ls) (rest := st) (p := p) (l := w.2.2.2.2.1) (e := en) (R := R) (below := below) (m := m) (args := args) (cells := (hcs σ').1 - b.1) (slots := (hcs σ').2 - b.2) (fun x hx => (hnt x hx).elim) hlocks (by rw [a1]; exact hce) hcv hfc (fun t' ht' hA => ⟨⟨e, rfl, rfl⟩, by rw [ht', a1]; exact hR2, hS1.F ht'⟩) hS1.2.2 (Nat.le_refl _) (Nat.le_refl _) T' rfl X'
      obtain ⟨t2, b5, b6⟩ := K
      exact ⟨t2, stp.trans b5, b6⟩
theorem x_cvi {vo : ρ → Option Value} {ret : Option FieldType} {g : Gm Hp (Nat ⊕ ρ)} {C : String} {T : u_T} {N : Nat} (c0 : Nat) (hcl : vwCl[c0]? = some (C, T, N)) (hc1 : c0 < 100) {r0 : Option Nat} {Pk : Nat → Hp → Option ((Nat ⊕ (Int32)) × Hp)} {f : (Int32) → Hp → Option ((Nat ⊕ ρ) × Hp)} {y : MethodName} {cb : ByteArray} {n2 : Nat} {ret2 : Option FieldType} {fr2 lo2 idx : Nat} {As : List Value}
    (B : Bz g cc nL own vo ret fr lo nm) (M : ∀ a, MX g.1 y cb n2 ret2 fr2 lo2 voI (va_rf (some a) :: As) (Pk a))
    (hcode : Cond.code y cb n2 ret2 ∈ TB) (hlink : Cond.methodLink own idx y ∈ TB) (hin : Cond.instanceMethod y ∈ TB) (hsel : Cond.selects C y y ∈ TB) (hini : Cond.initialized y.cls ∈ TB)
    (hd : y.cls ≠ "java/lang/invoke/MethodHandle" ∧ y.cls ≠ "java/lang/invoke/VarHandle" ∧ (parseMethodDescriptor y.desc).map (fun d => d.parameters.length) = some As.length)
    (hR : fr2 + 1 ≤ fr ∧ 8 + (n2 + 11) + lo2 ≤ lo) (hs : stk = As.reverse ++ va_rf r0 :: st) (hc : (st.map fun v => v.category).sum ≤ 8) (d : decode cc pc = .ok (.invokevirtual idx, 3))
    (k : ∀ r, Sm g nL (pc + 3) lv (.int r :: st) (f r)) : Sm g nL pc lv stk (hCx c0 r0 Pk f) := by
  exact x_call (vo' := voI) c0 hcl hc1 B M hcode hlink hin hsel hini hd hR hs hc d k
theorem x_cvl {vo : ρ → Option Value} {ret : Option FieldType} {g : Gm Hp (Nat ⊕ ρ)} {C : String} {T : u_T} {N : Nat} (c0 : Nat) (hcl : vwCl[c0]? = some (C, T, N)) (hc1 : c0 < 100) {r0 : Option Nat} {Pk : Nat → Hp → Option ((Nat ⊕ (Int64)) × Hp)} {f : (Int64) → Hp → Option ((Nat ⊕ ρ) × Hp)} {y : MethodName} {cb : ByteArray} {n2 : Nat} {ret2 : Option FieldType} {fr2 lo2 idx : Nat} {As : List Value}
    (B : Bz g cc nL own vo ret fr lo nm) (M : ∀ a, MX g.1 y cb n2 ret2 fr2 lo2 voL (va_rf (some a) :: As) (Pk a))
    (hcode : Cond.code y cb n2 ret2 ∈ TB) (hlink : Cond.methodLink own idx y ∈ TB) (hin : Cond.instanceMethod y ∈ TB) (hsel : Cond.selects C y y ∈ TB) (hini : Cond.initialized y.cls ∈ TB)
    (hd : y.cls ≠ "java/lang/invoke/MethodHandle" ∧ y.cls ≠ "java/lang/invoke/VarHandle" ∧ (parseMethodDescriptor y.desc).map (fun d => d.parameters.length) = some As.length)
    (hR : fr2 + 1 ≤ fr ∧ 8 + (n2 + 11) + lo2 ≤ lo) (hs : stk = As.reverse ++ va_rf r0 :: st) (hc : (st.map fun v => v.category).sum ≤ 8) (d : decode cc pc = .ok (.invokevirtual idx, 3))
    (k : ∀ r, Sm g nL (pc + 3) lv (.long r :: st) (f r)) : Sm g nL pc lv stk (hCx c0 r0 Pk f) := by
  exact x_call (vo' := voL) c0 hcl hc1 B M hcode hlink hin hsel hini hd hR hs hc d k
theorem x_cvr {vo : ρ → Option Value} {ret : Option FieldType} {g : Gm Hp (Nat ⊕ ρ)} {C : String} {T : u_T} {N : Nat} (c0 : Nat) (hcl : vwCl[c0]? = some (C, T, N)) (hc1 : c0 < 100) {r0 : Option Nat} {Pk : Nat → Hp → Option ((Nat ⊕ (Option Nat)) × Hp)} {f : (Option Nat) → Hp → Option ((Nat ⊕ ρ) × Hp)} {y : MethodName} {cb : ByteArray} {n2 : Nat} {ret2 : Option FieldType} {fr2 lo2 idx : Nat} {As : List Value}
    (B : Bz g cc nL own vo ret fr lo nm) (M : ∀ a, MX g.1 y cb n2 ret2 fr2 lo2 voR (va_rf (some a) :: As) (Pk a))
    (hcode : Cond.code y cb n2 ret2 ∈ TB) (hlink : Cond.methodLink own idx y ∈ TB) (hin : Cond.instanceMethod y ∈ TB) (hsel : Cond.selects C y y ∈ TB) (hini : Cond.initialized y.cls ∈ TB)
    (hd : y.cls ≠ "java/lang/invoke/MethodHandle" ∧ y.cls ≠ "java/lang/invoke/VarHandle" ∧ (parseMethodDescriptor y.desc).map (fun d => d.parameters.length) = some As.length)
    (hR : fr2 + 1 ≤ fr ∧ 8 + (n2 + 11) + lo2 ≤ lo) (hs : stk = As.reverse ++ va_rf r0 :: st) (hc : (st.map fun v => v.category).sum ≤ 8) (d : decode cc pc = .ok (.invokevirtual idx, 3))
    (k : ∀ r, Sm g nL (pc + 3) lv (va_rf r :: st) (f r)) : Sm g nL pc lv stk (hCx c0 r0 Pk f) := by
  exact x_call (vo' := voR) c0 hcl hc1 B M hcode hlink hin hsel hini hd hR hs hc d k
theorem x_cvv {vo : ρ → Option Value} {ret : Option FieldType} {g : Gm Hp (Nat ⊕ ρ)} {C : String} {T : u_T} {N : Nat} (c0 : Nat) (hcl : vwCl[c0]? = some (C, T, N)) (hc1 : c0 < 100) {r0 : Option Nat} {Pk : Nat → Hp → Option ((Nat ⊕ (Unit)) × Hp)} {f : (Unit) → Hp → Option ((Nat ⊕ ρ) × Hp)} {y : MethodName} {cb : ByteArray} {n2 : Nat} {ret2 : Option FieldType} {fr2 lo2 idx : Nat} {As : List Value}
    (B : Bz g cc nL own vo ret fr lo nm) (M : ∀ a, MX g.1 y cb n2 ret2 fr2 lo2 voV (va_rf (some a) :: As) (Pk a))
    (hcode : Cond.code y cb n2 ret2 ∈ TB) (hlink : Cond.methodLink own idx y ∈ TB) (hin : Cond.instanceMethod y ∈ TB) (hsel : Cond.selects C y y ∈ TB) (hini : Cond.initialized y.cls ∈ TB)
    (hd : y.cls ≠ "java/lang/invoke/MethodHandle" ∧ y.cls ≠ "java/lang/invoke/VarHandle" ∧ (parseMethodDescriptor y.desc).map (fun d => d.parameters.length) = some As.length)
    (hR : fr2 + 1 ≤ fr ∧ 8 + (n2 + 11) + lo2 ≤ lo) (hs : stk = As.reverse ++ va_rf r0 :: st) (hc : (st.map fun v => v.category).sum ≤ 8) (d : decode cc pc = .ok (.invokevirtual idx, 3))
    (k : ∀ r, Sm g nL (pc + 3) lv (st) (f r)) : Sm g nL pc lv stk (hCx c0 r0 Pk f) := by
  exact x_call (vo' := voV) c0 hcl hc1 B M hcode hlink hin hsel hini hd hR hs hc d k
end XRO
theorem exg_2 : ∀ w ∈ (vx_at0 "TopicBroker" 80 (enm 2) exN).filter goodWord, w ∈ TB := fun w h => by
  have h1 : w ∈ ([11, 377, 386, 390, 393, 395, 378, 379, 37, 38, 380, 385, 391, 408, 367, 409, 369, 410, 371, 381, 383, 373, 429, 430, 431, 400, 400, 401, 402, 403, 403, 404, 405, 378, 428, 420, 422, 389, 423, 424, 425, 426, 376, 375, 427] : List Nat).filterMap (fun i => tables_1[i]?) := by
    have e : (vx_at0 "TopicBroker" 80 (enm 2) exN).filter goodWord = ([11, 377, 386, 390, 393, 395, 378, 379, 37, 38, 380, 385, 391, 408, 367, 409, 369, 410, 371, 381, 383, 373, 429, 430, 431, 400, 400, 401, 402, 403, 403, 404, 405, 378, 428, 420, 422, 389, 423, 424, 425, 426, 376, 375, 427] : List Nat).filterMap (fun i => tables_1[i]?) := by decide +kernel
    rw [← e]; exact h
  obtain ⟨i, -, hi⟩ := List.mem_filterMap.mp h1
  exact TB_t (List.mem_of_getElem? hi) (List.mem_filter.mp h).2
theorem exb_2 : ∀ w ∈ (vx_at0 "TopicBroker" 80 (enm 2) exN).filter (fun w => !goodWord w), w ∈ nwl.filter Cond.onTables := by decide +kernel
theorem exo_2 : ∀ w ∈ vx_at0 "TopicBroker" 80 (enm 2) exN, vx_ot w = true := by decide +kernel
theorem exk_2 : Cond.classLink "TopicBroker" 78 (enm 2) ∈ TB := tw_419
theorem exi_2 : Cond.initialized (enm 2) ∈ TB := tw_15
theorem exg_1 : ∀ w ∈ (vx_at0 "TopicBroker" 86 (enm 1) exN).filter goodWord, w ∈ TB := fun w h => by
  have h1 : w ∈ ([11, 377, 386, 390, 393, 395, 378, 379, 37, 38, 380, 385, 391, 408, 367, 409, 369, 410, 371, 381, 383, 373, 456, 457, 458, 400, 400, 401, 402, 403, 403, 404, 405, 378, 455, 447, 449, 388, 450, 451, 452, 453, 376, 375, 454] : List Nat).filterMap (fun i => tables_1[i]?) := by
    have e : (vx_at0 "TopicBroker" 86 (enm 1) exN).filter goodWord = ([11, 377, 386, 390, 393, 395, 378, 379, 37, 38, 380, 385, 391, 408, 367, 409, 369, 410, 371, 381, 383, 373, 456, 457, 458, 400, 400, 401, 402, 403, 403, 404, 405, 378, 455, 447, 449, 388, 450, 451, 452, 453, 376, 375, 454] : List Nat).filterMap (fun i => tables_1[i]?) := by decide +kernel
    rw [← e]; exact h
  obtain ⟨i, -, hi⟩ := List.mem_filterMap.mp h1
  exact TB_t (List.mem_of_getElem? hi) (List.mem_filter.mp h).2
theorem exb_1 : ∀ w ∈ (vx_at0 "TopicBroker" 86 (enm 1) exN).filter (fun w => !goodWord w), w ∈ nwl.filter Cond.onTables := by decide +kernel
theorem exo_1 : ∀ w ∈ vx_at0 "TopicBroker" 86 (enm 1) exN, vx_ot w = true := by decide +kernel
theorem exk_1 : Cond.classLink "TopicBroker" 84 (enm 1) ∈ TB := tw_446
theorem exi_1 : Cond.initialized (enm 1) ∈ TB := tw_16
theorem exg_0 : ∀ w ∈ (vx_at0 "TopicBroker" 260 (enm 0) exN).filter goodWord, w ∈ TB := fun w h => by
  have h1 : w ∈ ([11, 377, 386, 390, 393, 395, 378, 379, 37, 38, 380, 385, 391, 408, 367, 409, 369, 410, 371, 381, 383, 373, 397, 398, 399, 400, 400, 401, 402, 403, 403, 404, 405, 378, 396, 356, 364, 365, 366, 368, 370, 372, 376, 375, 374] : List Nat).filterMap (fun i => tables_1[i]?) := by
    have e : (vx_at0 "TopicBroker" 260 (enm 0) exN).filter goodWord = ([11, 377, 386, 390, 393, 395, 378, 379, 37, 38, 380, 385, 391, 408, 367, 409, 369, 410, 371, 381, 383, 373, 397, 398, 399, 400, 400, 401, 402, 403, 403, 404, 405, 378, 396, 356, 364, 365, 366, 368, 370, 372, 376, 375, 374] : List Nat).filterMap (fun i => tables_1[i]?) := by decide +kernel
    rw [← e]; exact h
  obtain ⟨i, -, hi⟩ := List.mem_filterMap.mp h1
  exact TB_t (List.mem_of_getElem? hi) (List.mem_filter.mp h).2
theorem exb_0 : ∀ w ∈ (vx_at0 "TopicBroker" 260 (enm 0) exN).filter (fun w => !goodWord w), w ∈ nwl.filter Cond.onTables := by decide +kernel
theorem exo_0 : ∀ w ∈ vx_at0 "TopicBroker" 260 (enm 0) exN, vx_ot w = true := by decide +kernel
theorem exk_0 : Cond.classLink "TopicBroker" 258 (enm 0) ∈ TB := tw_355
theorem exi_0 : Cond.initialized (enm 0) ∈ TB := tw_14
