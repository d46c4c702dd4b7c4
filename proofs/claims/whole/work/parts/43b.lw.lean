/-! ===== the law's wrappers: a call in a try, its handlers ===== -/
def XN (U : State) : Prop := ∀ e f, e < 3 → f < 3 → e ≠ f → va_Nc (enm e) (enm f) U
def Wn (w : Wd) : Prop := ∀ U, w.2.2.1 U → XN U
def Bl (g : Gm Hp Int32) (cc : ByteArray) (nL fr lo : Nat) (hh : List (Nat × Nat × Nat × Nat)) : Prop :=
  Bc g cc nL RL voI (some .int) fr lo ∧ Wc g.1 ∧ XC g.1 g.2.2.2.2.1 ∧ XN g.2.2.2.2.1 ∧ Rx g voI (some .int) fr lo ∧ Wz g.1 ∧ g.2.2.2.2.2.2.2.2.2.1.exceptionTable.toList = tableOf hh
def MHW (w : Wd) (y : MethodName) (cc : ByteArray) (nL : Nat) (hh : List (Nat × Nat × Nat × Nat)) (fr lo : Nat) (av : List Value) (P : Hp → Option (Int32 × Hp)) : Prop :=
  Mo P ∧ ∀ (σ : Hp) (r : Int32) (σ' : Hp), P σ = some (r, σ') → Met w.2.2.2.2.1 y (.codeWith y cc nL (some .int) hh :: TB) { frames := fr, cells := (hcs σ').1 - (hcs σ).1, slots := (hcs σ').2 - (hcs σ).2, locals := lo } (va_Pc av (fun U => Rc w σ U.heap ∧ GK w U)) (Qo (Rc w) w.2.2.2.1 voI r σ') ((hcs σ').1 - (hcs σ).1) ((hcs σ').2 - (hcs σ).2) w.2.2.2.1
theorem MHW.of {w : Wd} {y : MethodName} {cc : ByteArray} {nL : Nat} {hh : List (Nat × Nat × Nat × Nat)} {fr lo : Nat} {av : List Value} {P : Hp → Option (Int32 × Hp)}
    (hw : Wc w) (hz : Wz w) (hN : Wn w) (hy : y.cls = RL) (hn : (lg_sl av).length ≤ nL) (hmono : Mo P)
    (h : ∀ g : Gm Hp Int32, g.1 = w → Bl g cc nL fr lo hh → Sm g nL 0 (lv_args 0 av) [] P) : MHW w y cc nL hh fr lo av P := by
  refine ⟨hmono, fun σ r σ' hP => ?_⟩
  refine va_MetW (cc := cc) (maxL := nL) (ret := some .int) (hh := hh) (by rw [hy]; decide) rfl ?_
  intro p e s m args below meth c s₁ B hml hv
  obtain ⟨rfl, hR, hG⟩ := hv
  have hts0 := atoms_spec (ws := .codeWith y cc nL (some .int) hh :: TB) B.pre
  have hts : ∀ w ∈ TB, w.before av.toArray s = true := fun w hw => hts0 w (List.mem_cons_of_mem _ hw)
  have hown : s.vm.findClass RL = some m.cls := by rw [← hy]; exact findClass_of_methodNamed B.named
  have hl := lv_entry av (n := nL) hn
  rw [lg_entry_eq]
  have K := (h (w, p, e, (headSpec (.codeWith y cc nL (some .int) hh :: TB) { frames := fr, cells := (hcs σ').1 - (hcs σ).1, slots := (hcs σ').2 - (hcs σ).2, locals := lo }).room, s, m, av.toArray, below, meth, c, Rc w, hcs, hcs σ, (fun r σ' => MQ below (Qo (Rc w) w.2.2.2.1 voI r σ') av.toArray s ((hcs σ').1 - (hcs σ).1) ((hcs σ').2 - (hcs σ).2) w.2.2.2.1)) rfl
    ⟨⟨⟨B.exec, B.bytes, hml, hown, hts, B.notSynchronized, hG, hw.1⟩, ⟨rfl, rfl⟩, rfl, rfl⟩, hw, hw.2 s hG.2, hN s hG.2, ⟨rfl, B.returns, rfl, rfl⟩, hz, vx_table (x := y) B (hts0 _ List.mem_cons_self)⟩).2 σ r σ' s.heap [] _ hP hR va_S.rf hl (Nat.le_refl _) (Nat.le_refl _)
  have hm := hmono σ r σ' hP
  have K2 := K (by show _ ≤ _ + ((hcs σ').1 - (hcs σ).1); omega) (by show _ ≤ _ + ((hcs σ').2 - (hcs σ).2); omega)
  rw [Nat.sub_self, Nat.sub_self] at K2
  exact K2
/-- what is thrown ends with an answer by its kind -/
def hTry {α ρ : Type} (c : Nat) (r0 : Option Nat) (Pk : Nat → Hp → Option ((Nat ⊕ α) × Hp)) (rs : Nat → Option ρ) (f : α → Hp → Option (ρ × Hp)) : Hp → Option (ρ × Hp) := fun h => match r0 with
  | some a => if hkd h a = c + 1 then (match Pk a h with
    | some (.inr v, h1) => f v h1
    | some (.inl e, h1) => (match rs e with
      | some k => some (k, h1)
      | none => none)
    | none => none) else none
  | none => none
theorem hTry_some {α ρ : Type} {c a : Nat} {Pk : Nat → Hp → Option ((Nat ⊕ α) × Hp)} {rs : Nat → Option ρ} {f : α → Hp → Option (ρ × Hp)} {h h2 : Hp} {b : ρ} (hp : hTry c (some a) Pk rs f h = some (b, h2)) : hkd h a = c + 1 ∧ ((∃ v h1, Pk a h = some (.inr v, h1) ∧ f v h1 = some (b, h2)) ∨ ∃ e, Pk a h = some (.inl e, h2) ∧ rs e = some b) := by
  unfold hTry at hp
  dsimp only at hp
  by_cases hq : hkd h a = c + 1
  · rw [if_pos hq] at hp
    refine ⟨hq, ?_⟩
    cases hx : Pk a h with
    | none => rw [hx] at hp; cases hp
    | some q =>
      obtain ⟨q1, q2⟩ := q
      rw [hx] at hp
      cases q1 with
      | inr v => exact Or.inl ⟨v, q2, rfl, hp⟩
      | inl e =>
        dsimp only at hp
        cases hr : rs e with
        | none => rw [hr] at hp; cases hp
        | some k => rw [hr] at hp; cases hp; exact Or.inr ⟨e, rfl, hr⟩
  · rw [if_neg hq] at hp; cases hp
theorem mo_hTry {α ρ : Type} {c : Nat} {r0 : Option Nat} {Pk : Nat → Hp → Option ((Nat ⊕ α) × Hp)} {rs : Nat → Option ρ} {f : α → Hp → Option (ρ × Hp)} (h1 : ∀ a, Mo (Pk a)) (h2 : ∀ v, Mo (f v)) : Mo (hTry c r0 Pk rs f) := by
  intro σ r σ' hp
  cases r0 with
  | none => cases hp
  | some a =>
    rcases (hTry_some hp).2 with ⟨v, σ1, e1, e2⟩ | ⟨e, e1, -⟩
    · have m1 := h1 a σ _ σ1 e1
      have m2 := h2 v σ1 r σ' e2
      exact ⟨Nat.le_trans m1.1 m2.1, Nat.le_trans m1.2 m2.2⟩
    · exact h1 a σ _ σ' e1
/-- the table's row that takes exceptions of kind e -/
def Hd (hh : List (Nat × Nat × Nat × Nat)) (pc e hp : Nat) : Prop := ∃ pre x suf, tableOf hh = pre ++ x :: suf ∧ (∀ z ∈ pre, z.catchType ≠ 0 ∧ ∃ f, f < 3 ∧ e ≠ f ∧ Cond.classLink RL z.catchType (enm f) ∈ TB) ∧ covers x pc = true ∧ x.catchType ≠ 0 ∧ Cond.classLink RL x.catchType (enm e) ∈ TB ∧ x.handlerPc = hp ∧ e < 3
theorem cast_in : ∀ e, e < 3 → Cond.castable (enm e) (enm e) ∈ nwl.filter Cond.onTables := by decide +kernel
theorem l_try {α : Type} {cc : ByteArray} {nL pc : Nat} {lv : List (Nat × Value)} {st stk : List Value} {fr lo : Nat} {hh : List (Nat × Nat × Nat × Nat)} {g : Gm Hp Int32} {vo' : α → Option Value} {C : String} {T : u_T} {N : Nat} (c0 : Nat) (hcl : vwCl[c0]? = some (C, T, N)) (hc1 : c0 < 100) {r0 : Option Nat} {Pk : Nat → Hp → Option ((Nat ⊕ α) × Hp)} {rs : Nat → Option Int32} {f : α → Hp → Option (Int32 × Hp)} {y : MethodName} {cb : ByteArray} {n2 : Nat} {ret2 : Option FieldType} {fr2 lo2 idx : Nat} {As : List Value}
    (B : Bl g cc nL fr lo hh) (M : ∀ a, MX g.1 y cb n2 ret2 fr2 lo2 vo' (va_rf (some a) :: As) (Pk a))
    (hcode : Cond.code y cb n2 ret2 ∈ TB) (hlink : Cond.methodLink RL idx y ∈ TB) (hin : Cond.instanceMethod y ∈ TB) (hsel : Cond.selects C y y ∈ TB) (hini : Cond.initialized y.cls ∈ TB)
    (hd : y.cls ≠ "java/lang/invoke/MethodHandle" ∧ y.cls ≠ "java/lang/invoke/VarHandle" ∧ (parseMethodDescriptor y.desc).map (fun d => d.parameters.length) = some As.length)
    (hR : fr2 + 1 ≤ fr ∧ 8 + (n2 + 11) + lo2 ≤ lo) (hs : stk = As.reverse ++ va_rf r0 :: st) (hc : (st.map fun v => v.category).sum ≤ 8) (d : decode cc pc = .ok (.invokevirtual idx, 3))
    (kx : ∀ e k, rs e = some k → ∃ hp, Hd hh pc e hp ∧ ∀ q, Sm g nL hp lv [va_rf (some q)] (rt k))
    (k : ∀ r, Sm g nL (pc + 3) lv ((vo' r).toList ++ st) (f r)) : Sm g nL pc lv stk (hTry c0 r0 Pk rs f) := by
  subst hs
  cases r0 with
  | none => exact Sm.fail
  | some bo =>
  obtain ⟨w, p, en, R, s, m, args, below, meth, c, Rl, cs, b, Qf⟩ := g
  obtain ⟨⟨⟨hx, hb, hml, hown, hts, hlocks, hG, hw⟩, ⟨hf1, hf2⟩, hRl, hcs'⟩, -, hXC, hXN, -, -, htab⟩ := B
  dsimp only at hRl hcs' hXC hXN hf1 hf2 M htab
  subst hRl; subst hcs'; subst hf1; subst hf2
  refine ⟨mo_hTry (fun a => (M a).1) (fun v => (k v).1), fun σ r σ' H locs ls hP hRl hS hl b1 b2 b3 b4 => ?_⟩
  obtain ⟨hq, hP⟩ := hTry_some hP
  obtain ⟨r', e1, hO⟩ := (hRl.2.2.2 bo).1 c0 hc1 hq
  have e2 : r' = (C, T, N) := Option.some.inj (e1.symm.trans hcl)
  subst e2
  obtain ⟨cell, q1, q2, q3, -⟩ := hO
  have hrec : ∃ cell : Cell, H[bo]? = some cell ∧ cell.vm.isStatics = false ∧ s.vm.findClass C = some cell.cls := ⟨cell, q1, by rw [q3]; rfl, by rw [q2]; exact (hG.1.1 c0 _ hcl).2.1⟩
  have hrun : ∀ (x : Nat ⊕ α) (σ1 : Hp), Pk bo σ = some (x, σ1) → (hcs σ1).1 ≤ (hcs σ').1 → (hcs σ1).2 ≤ (hcs σ').2 → vx_Run p w.2.2.2.2.1 en R s m args below meth c H locs ((hcs σ).1 - b.1) ((hcs σ).2 - b.2) ((hcs σ1).1 - (hcs σ).1) ((hcs σ1).2 - (hcs σ).2) (F0 m pc ls (As.reverse ++ va_rf (some bo) :: st)) st (QoX (Rc w) w.2.2.2.1 vo' x σ1 (Value.ref bo :: As).toArray) (XoX (Rc w) w.2.2.2.1 x σ1) w.2.2.2.1 := by
    intro x σ1 h1 z1 z2
    have m1 : (hcs σ).1 ≤ (hcs σ1).1 ∧ (hcs σ).2 ≤ (hcs σ1).2 := (M bo).1 σ x σ1 h1
    refine vx_runV (C := C) (As := As) (rest := st) (Ts := TB) (own := RL) ⟨hx, hb, hml, hown, hts⟩ ((M bo).2 σ x σ1 h1) ⟨callB_of As.length hts (code_good hcode) rfl rfl rfl (hts _ hini) (hts _ hlink) hd hR, hts _ hin, hts _ hsel⟩ ⟨fun a U g mk q => ⟨q.1, q.2.1, q.2.2.calling hw g mk a⟩, hrec, fun U hU hW => ⟨rfl, by rw [hU]; exact hRl, hG.moved hw hW (by rw [hU]; exact hS)⟩⟩ rfl rfl hl.1 rfl (lv_room hc) d ⟨?_, ?_⟩
    · show (hcs σ).1 - b.1 + ((hcs σ1).1 - (hcs σ).1) ≤ R.cells
      omega
    · show (hcs σ).2 - b.2 + ((hcs σ1).2 - (hcs σ).2) ≤ R.slots
      omega
  rcases hP with ⟨x, σ1, h1, h2⟩ | ⟨e, h1, hre⟩
  · have m1 : (hcs σ).1 ≤ (hcs σ1).1 ∧ (hcs σ).2 ≤ (hcs σ1).2 := (M bo).1 σ _ σ1 h1
    have m2 : (hcs σ1).1 ≤ (hcs σ').1 ∧ (hcs σ1).2 ≤ (hcs σ').2 := (k x).1 σ1 r σ' h2
    refine Sm.back (vo' := vo') (ca := (Value.ref bo :: As).toArray) k h2 m1 hS hl b1 b2 b3 b4 ?_
    intro T hT X
    rcases hrun _ σ1 h1 m2.1 m2.2 T hT X with h | ⟨q, st₀, t, T', L, E, ce, -, -, -, -, -, ⟨⟨e, he, -⟩, -⟩, -⟩
    · exact h
    · cases he
  · have m1 : (hcs σ).1 ≤ (hcs σ').1 ∧ (hcs σ).2 ≤ (hcs σ').2 := (M bo).1 σ _ σ' h1
    obtain ⟨hp, ⟨pre, x, suf, hsplit, hpre, hcov, hne, hlk, hhp, he3⟩, kq⟩ := kx e r hre
    intro T hT X
    rcases hrun _ σ' h1 (Nat.le_refl _) (Nat.le_refl _) T hT X with ⟨v, st₀, t, T', L, -, -, -, -, -, hF, -⟩ | ⟨q, st₀, t, T', L, E, ce, h0, X', hL, a1, a2, ⟨⟨e', he, hE'⟩, hR2, hF⟩, hce, hcv, hfc, stp⟩
    · exact hF.elim
    · cases he
      subst hE'
      obtain ⟨hF1, hF2⟩ := hF
      rw [h0] at hF1 hF2
      have q1 : (hcs σ).1 - b.1 + ((hcs σ').1 - (hcs σ).1) = (hcs σ').1 - b.1 := by omega
      have q2 : (hcs σ).2 - b.2 + ((hcs σ').2 - (hcs σ).2) = (hcs σ').2 - b.2 := by omega
      rw [q1, q2] at X'
      have hS1 : va_S w.2.2.2.1 s.heap T'.heap (locs ++ L) := ⟨Nat.le_trans hS.1 (by rw [a1]; exact hF1), fun q z1 z2 => by rw [a1, hF2 q (Nat.lt_of_lt_of_le z1 hS.1) z2]; exact hS.2.1 q z1 z2, fun q hq => by
        rcases List.mem_append.mp hq with z | z
        · exact hS.2.2 q z
        · exact hL q z⟩
      have K0 := (kq q).2 σ' r σ' T'.heap (locs ++ L) ls rfl (by rw [a1]; exact hR2) hS1 hl (by omega) (by omega) b3 b4
      have hcw := List.mem_filter.mp (cast_in e he3)
      have K := vx_catch (own := RL) (name := enm e) (E := enm e) (ce := ce) (q := q) (rest := st) (pc := pc) hown pre x suf (htab.trans hsplit) (fun z hz => by
        obtain ⟨z1, f', z2, z3, z4⟩ := hpre z hz
        exact Or.inr ⟨z1, enm f', hts _ z4, hXN e f' he3 z2 z3⟩) hcov hne (hts _ hlk) (va_Nw.use hcw.2 (hXC.1 _ hcw.1)) (by rw [a1]; exact hce) hcv hfc (by rw [hhp]; exact K0) T' rfl X'
      obtain ⟨t2, b5, b6⟩ := K
      exact ⟨t2, stp.trans b5, b6⟩
theorem l_tryi {cc : ByteArray} {nL pc : Nat} {lv : List (Nat × Value)} {st stk : List Value} {fr lo : Nat} {hh : List (Nat × Nat × Nat × Nat)} {g : Gm Hp Int32} {C : String} {T : u_T} {N : Nat} (c0 : Nat) (hcl : vwCl[c0]? = some (C, T, N)) (hc1 : c0 < 100) {r0 : Option Nat} {Pk : Nat → Hp → Option ((Nat ⊕ (Int32)) × Hp)} {rs : Nat → Option Int32} {f : (Int32) → Hp → Option (Int32 × Hp)} {y : MethodName} {cb : ByteArray} {n2 : Nat} {ret2 : Option FieldType} {fr2 lo2 idx : Nat} {As : List Value}
    (B : Bl g cc nL fr lo hh) (M : ∀ a, MX g.1 y cb n2 ret2 fr2 lo2 voI (va_rf (some a) :: As) (Pk a))
    (hcode : Cond.code y cb n2 ret2 ∈ TB) (hlink : Cond.methodLink RL idx y ∈ TB) (hin : Cond.instanceMethod y ∈ TB) (hsel : Cond.selects C y y ∈ TB) (hini : Cond.initialized y.cls ∈ TB)
    (hd : y.cls ≠ "java/lang/invoke/MethodHandle" ∧ y.cls ≠ "java/lang/invoke/VarHandle" ∧ (parseMethodDescriptor y.desc).map (fun d => d.parameters.length) = some As.length)
    (hR : fr2 + 1 ≤ fr ∧ 8 + (n2 + 11) + lo2 ≤ lo) (hs : stk = As.reverse ++ va_rf r0 :: st) (hc : (st.map fun v => v.category).sum ≤ 8) (d : decode cc pc = .ok (.invokevirtual idx, 3))
    (kx : ∀ e k, rs e = some k → ∃ hp, Hd hh pc e hp ∧ ∀ q, Sm g nL hp lv [va_rf (some q)] (rt k))
    (k : ∀ r, Sm g nL (pc + 3) lv (.int r :: st) (f r)) : Sm g nL pc lv stk (hTry c0 r0 Pk rs f) := by
  exact l_try (vo' := voI) c0 hcl hc1 B M hcode hlink hin hsel hini hd hR hs hc d kx k
theorem l_tryl {cc : ByteArray} {nL pc : Nat} {lv : List (Nat × Value)} {st stk : List Value} {fr lo : Nat} {hh : List (Nat × Nat × Nat × Nat)} {g : Gm Hp Int32} {C : String} {T : u_T} {N : Nat} (c0 : Nat) (hcl : vwCl[c0]? = some (C, T, N)) (hc1 : c0 < 100) {r0 : Option Nat} {Pk : Nat → Hp → Option ((Nat ⊕ (Int64)) × Hp)} {rs : Nat → Option Int32} {f : (Int64) → Hp → Option (Int32 × Hp)} {y : MethodName} {cb : ByteArray} {n2 : Nat} {ret2 : Option FieldType} {fr2 lo2 idx : Nat} {As : List Value}
    (B : Bl g cc nL fr lo hh) (M : ∀ a, MX g.1 y cb n2 ret2 fr2 lo2 voL (va_rf (some a) :: As) (Pk a))
    (hcode : Cond.code y cb n2 ret2 ∈ TB) (hlink : Cond.methodLink RL idx y ∈ TB) (hin : Cond.instanceMethod y ∈ TB) (hsel : Cond.selects C y y ∈ TB) (hini : Cond.initialized y.cls ∈ TB)
    (hd : y.cls ≠ "java/lang/invoke/MethodHandle" ∧ y.cls ≠ "java/lang/invoke/VarHandle" ∧ (parseMethodDescriptor y.desc).map (fun d => d.parameters.length) = some As.length)
    (hR : fr2 + 1 ≤ fr ∧ 8 + (n2 + 11) + lo2 ≤ lo) (hs : stk = As.reverse ++ va_rf r0 :: st) (hc : (st.map fun v => v.category).sum ≤ 8) (d : decode cc pc = .ok (.invokevirtual idx, 3))
    (kx : ∀ e k, rs e = some k → ∃ hp, Hd hh pc e hp ∧ ∀ q, Sm g nL hp lv [va_rf (some q)] (rt k))
    (k : ∀ r, Sm g nL (pc + 3) lv (.long r :: st) (f r)) : Sm g nL pc lv stk (hTry c0 r0 Pk rs f) := by
  exact l_try (vo' := voL) c0 hcl hc1 B M hcode hlink hin hsel hini hd hR hs hc d kx k
theorem l_tryv {cc : ByteArray} {nL pc : Nat} {lv : List (Nat × Value)} {st stk : List Value} {fr lo : Nat} {hh : List (Nat × Nat × Nat × Nat)} {g : Gm Hp Int32} {C : String} {T : u_T} {N : Nat} (c0 : Nat) (hcl : vwCl[c0]? = some (C, T, N)) (hc1 : c0 < 100) {r0 : Option Nat} {Pk : Nat → Hp → Option ((Nat ⊕ (Unit)) × Hp)} {rs : Nat → Option Int32} {f : (Unit) → Hp → Option (Int32 × Hp)} {y : MethodName} {cb : ByteArray} {n2 : Nat} {ret2 : Option FieldType} {fr2 lo2 idx : Nat} {As : List Value}
    (B : Bl g cc nL fr lo hh) (M : ∀ a, MX g.1 y cb n2 ret2 fr2 lo2 voV (va_rf (some a) :: As) (Pk a))
    (hcode : Cond.code y cb n2 ret2 ∈ TB) (hlink : Cond.methodLink RL idx y ∈ TB) (hin : Cond.instanceMethod y ∈ TB) (hsel : Cond.selects C y y ∈ TB) (hini : Cond.initialized y.cls ∈ TB)
    (hd : y.cls ≠ "java/lang/invoke/MethodHandle" ∧ y.cls ≠ "java/lang/invoke/VarHandle" ∧ (parseMethodDescriptor y.desc).map (fun d => d.parameters.length) = some As.length)
    (hR : fr2 + 1 ≤ fr ∧ 8 + (n2 + 11) + lo2 ≤ lo) (hs : stk = As.reverse ++ va_rf r0 :: st) (hc : (st.map fun v => v.category).sum ≤ 8) (d : decode cc pc = .ok (.invokevirtual idx, 3))
    (kx : ∀ e k, rs e = some k → ∃ hp, Hd hh pc e hp ∧ ∀ q, Sm g nL hp lv [va_rf (some q)] (rt k))
    (k : ∀ r, Sm g nL (pc + 3) lv (st) (f r)) : Sm g nL pc lv stk (hTry c0 r0 Pk rs f) := by
  exact l_try (vo' := voV) c0 hcl hc1 B M hcode hlink hin hsel hini hd hR hs hc d kx k
