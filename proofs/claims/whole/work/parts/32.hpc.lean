/-! ===== words of the tables that stay though they are not good words ===== -/
def nwl : List Cond := [Cond.arrayOver (.object "TopicBroker$Connection"),
  Cond.arrayOver (.object "TopicBroker$Row"),
  Cond.arrayOver (.object "TopicBroker$Session"),
  Cond.methodLinkNest "TopicBroker" 26 ⟨"TopicBroker$Retained", "<init>", "()V"⟩ "TopicBroker",
  Cond.arrayOver (.object "TopicBroker$Message"),
  Cond.methodLinkNest "TopicBroker" 33 ⟨"TopicBroker$Reader", "<init>", "()V"⟩ "TopicBroker",
  Cond.methodLinkNest "TopicBroker" 40 ⟨"TopicBroker$Properties", "<init>", "()V"⟩ "TopicBroker",
  Cond.methodLinkNest "TopicBroker" 47 ⟨"TopicBroker$Writer", "<init>", "()V"⟩ "TopicBroker",
  Cond.methodLinkNest "TopicBroker" 54 ⟨"TopicBroker$Greeting", "<init>", "()V"⟩ "TopicBroker",
  Cond.methodLinkNest "TopicBroker" 61 ⟨"TopicBroker$Delivery", "<init>", "()V"⟩ "TopicBroker",
  Cond.castable "java/lang/IndexOutOfBoundsException" "java/lang/IndexOutOfBoundsException",
  Cond.declares ⟨"java/lang/RuntimeException", "<init>", "()V"⟩,
  Cond.declares ⟨"java/lang/RuntimeException", "<init>", "(Ljava/lang/String;)V"⟩,
  Cond.declares ⟨"java/lang/Exception", "<init>", "()V"⟩,
  Cond.declares ⟨"java/lang/Exception", "<init>", "(Ljava/lang/String;)V"⟩,
  Cond.declares ⟨"java/lang/Throwable", "<init>", "()V"⟩,
  Cond.declares ⟨"java/lang/Throwable", "<init>", "(Ljava/lang/String;)V"⟩,
  Cond.castable "java/lang/IllegalStateException" "java/lang/IllegalStateException",
  Cond.castable "java/lang/IllegalArgumentException" "java/lang/IllegalArgumentException",
  Cond.castable "[B" "java/lang/Cloneable",
  Cond.castable "[I" "java/lang/Cloneable",
  Cond.fieldLinkNest "TopicBroker$Properties" 118 "TopicBroker" "BEFORE_LIFE" "[I" "TopicBroker",
  Cond.fieldLinkNest "TopicBroker$Properties" 128 "TopicBroker" "BEHIND_LIFE" "[I" "TopicBroker",
  Cond.arrayOver (.object "TopicBroker$Subscription"),
  Cond.arrayOver (.object "TopicBroker$Delivery")]
def XK1 (U : State) : Prop := ∀ w ∈ nwl, va_Nw w U
theorem XK1.warm {s U : State} (hW : s.WarmedH U.vm) (h : XK1 s) : XK1 U := by
  intro w hw
  have h0 := h w hw
  simp only [nwl, List.mem_cons, List.not_mem_nil, or_false] at hw
  rcases hw with rfl | rfl | rfl | rfl | rfl | rfl | rfl | rfl | rfl | rfl | rfl | rfl | rfl | rfl | rfl | rfl | rfl | rfl | rfl | rfl | rfl | rfl | rfl | rfl | rfl
  · exact va_AO.moved hW.alike h0
  · exact va_AO.moved hW.alike h0
  · exact va_AO.moved hW.alike h0
  · exact va_Nw.warmM hW h0
  · exact va_AO.moved hW.alike h0
  · exact va_Nw.warmM hW h0
  · exact va_Nw.warmM hW h0
  · exact va_Nw.warmM hW h0
  · exact va_Nw.warmM hW h0
  · exact va_Nw.warmM hW h0
  · exact va_Nw.warmC hW h0
  · exact va_Nw.warmD hW h0
  · exact va_Nw.warmD hW h0
  · exact va_Nw.warmD hW h0
  · exact va_Nw.warmD hW h0
  · exact va_Nw.warmD hW h0
  · exact va_Nw.warmD hW h0
  · exact va_Nw.warmC hW h0
  · exact va_Nw.warmC hW h0
  · exact va_Nw.warmC hW h0
  · exact va_Nw.warmC hW h0
  · exact va_Nw.warmF hW h0
  · exact va_Nw.warmF hW h0
  · exact va_AO.moved hW.alike h0
  · exact va_AO.moved hW.alike h0
theorem XK1.calling {U : State} (g : JFrame) (mk : MethodId) (a : Array Value) (h : XK1 U) : XK1 (U.calling g mk a) := by
  intro w hw
  have h0 := h w hw
  simp only [nwl, List.mem_cons, List.not_mem_nil, or_false] at hw
  rcases hw with rfl | rfl | rfl | rfl | rfl | rfl | rfl | rfl | rfl | rfl | rfl | rfl | rfl | rfl | rfl | rfl | rfl | rfl | rfl | rfl | rfl | rfl | rfl | rfl | rfl
  · exact va_AO.moved (u := U) (Vm.Alike.refl U.vm) h0
  · exact va_AO.moved (u := U) (Vm.Alike.refl U.vm) h0
  · exact va_AO.moved (u := U) (Vm.Alike.refl U.vm) h0
  · exact va_Nw.same (u := U) rfl rfl h0
  · exact va_AO.moved (u := U) (Vm.Alike.refl U.vm) h0
  · exact va_Nw.same (u := U) rfl rfl h0
  · exact va_Nw.same (u := U) rfl rfl h0
  · exact va_Nw.same (u := U) rfl rfl h0
  · exact va_Nw.same (u := U) rfl rfl h0
  · exact va_Nw.same (u := U) rfl rfl h0
  · exact va_Nw.same (u := U) rfl rfl h0
  · exact va_Nw.same (u := U) rfl rfl h0
  · exact va_Nw.same (u := U) rfl rfl h0
  · exact va_Nw.same (u := U) rfl rfl h0
  · exact va_Nw.same (u := U) rfl rfl h0
  · exact va_Nw.same (u := U) rfl rfl h0
  · exact va_Nw.same (u := U) rfl rfl h0
  · exact va_Nw.same (u := U) rfl rfl h0
  · exact va_Nw.same (u := U) rfl rfl h0
  · exact va_Nw.same (u := U) rfl rfl h0
  · exact va_Nw.same (u := U) rfl rfl h0
  · exact va_Nw.same (u := U) rfl rfl h0
  · exact va_Nw.same (u := U) rfl rfl h0
  · exact va_AO.moved (u := U) (Vm.Alike.refl U.vm) h0
  · exact va_AO.moved (u := U) (Vm.Alike.refl U.vm) h0
section CLI
variable {S ρ α : Type} {g : Gm S ρ} {cc : ByteArray} {nL pc : Nat} {own : String} {lv : List (Nat × Value)} {st : List Value} {vo : ρ → Option Value} {ret : Option FieldType} {fr lo : Nat} {vo' : α → Option Value} {y : MethodName} {cb : ByteArray} {n2 : Nat} {fr2 lo2 idx : Nat} {As : List Value} {Pk : S → Option (α × S)} {f : α → S → Option (ρ × S)} {bo : Nat}
theorem s_callI (X : Cx g cc nL own) (Y : Fx g fr lo) (M : MC g.1 g.2.2.2.2.2.2.2.2.2.2.1 g.2.2.2.2.2.2.2.2.2.2.2.1 y cb n2 none fr2 lo2 vo' (.ref bo :: As) Pk)
    (hcode : Cond.code y cb n2 none ∈ TB) (hlink : Cond.methodLink own idx y ∈ TB) (hin : Cond.instanceMethod y ∈ TB) (hini : Cond.initialized y.cls ∈ TB) (hy1 : y.name = "<init>")
    (hd : y.cls ≠ "java/lang/invoke/MethodHandle" ∧ y.cls ≠ "java/lang/invoke/VarHandle" ∧ (parseMethodDescriptor y.desc).map (fun d => d.parameters.length) = some As.length)
    (hR : fr2 + 1 ≤ fr ∧ 8 + (n2 + 11) + lo2 ≤ lo) (hc : (st.map fun v => v.category).sum ≤ 8) (d : decode cc pc = .ok (.invokespecial idx, 3))
    (k : ∀ r, Sm g nL (pc + 3) lv ((vo' r).toList ++ st) (f r)) : Sm g nL pc lv (As.reverse ++ .ref bo :: st) (bd Pk f) := by
  obtain ⟨w, p, e, R, s, m, args, below, meth, c, Rl, cs, b, Qf⟩ := g
  obtain ⟨hx, hb, hml, hown, hts, hlocks, hG, hw⟩ := X
  obtain ⟨rfl, rfl⟩ := Y
  refine ⟨fun σ r σ' hP => ?_, fun σ r σ' H locs ls hP hRl hS hl b1 b2 b3 b4 => ?_⟩
  · obtain ⟨x, σ1, h1, h2⟩ := bd_some hP
    have m1 := M.1 σ x σ1 h1
    have m2 := (k x).1 σ1 r σ' h2
    exact ⟨Nat.le_trans m1.1 m2.1, Nat.le_trans m1.2 m2.2⟩
  · obtain ⟨x, σ1, h1, h2⟩ := bd_some hP
    have m1 : (cs σ).1 ≤ (cs σ1).1 ∧ (cs σ).2 ≤ (cs σ1).2 := M.1 σ x σ1 h1
    have m2 : (cs σ1).1 ≤ (cs σ').1 ∧ (cs σ1).2 ≤ (cs σ').2 := (k x).1 σ1 r σ' h2
    refine Sm.back (ca := (Value.ref bo :: As).toArray) k h2 m1 hS hl b1 b2 b3 b4 ?_
    refine va_runI (As := As) (rest := st) (Ts := TB) (own := own) ⟨hx, hb, hml, hown, hts⟩ (M.2 σ x σ1 h1) ⟨callB_of As.length hts (code_good hcode) rfl rfl rfl (hts _ hini) (hts _ hlink) hd hR, hy1, hts _ hin⟩ ⟨fun a U g mk q => ⟨q.1, q.2.1, q.2.2.calling hw g mk a⟩, fun U hU hW => ⟨rfl, by rw [hU]; exact hRl, hG.moved hw hW (by rw [hU]; exact hS)⟩⟩ rfl rfl hl.1 rfl (lv_room hc) d ⟨?_, ?_⟩
    · show (cs σ).1 - b.1 + ((cs σ1).1 - (cs σ).1) ≤ R.cells
      omega
    · show (cs σ).2 - b.2 + ((cs σ1).2 - (cs σ).2) ≤ R.slots
      omega
theorem s_callIN (X : Cx g cc nL own) (Y : Fx g fr lo) (M : MC g.1 g.2.2.2.2.2.2.2.2.2.2.1 g.2.2.2.2.2.2.2.2.2.2.2.1 y cb n2 none fr2 lo2 vo' (.ref bo :: As) Pk)
    (hcode : Cond.code y cb n2 none ∈ TB) {host : String} (hlink : va_Nw (.methodLinkNest own idx y host) g.2.2.2.2.1) (hin : Cond.instanceMethod y ∈ TB) (hini : Cond.initialized y.cls ∈ TB) (hy1 : y.name = "<init>")
    (hd : y.cls ≠ "java/lang/invoke/MethodHandle" ∧ y.cls ≠ "java/lang/invoke/VarHandle" ∧ (parseMethodDescriptor y.desc).map (fun d => d.parameters.length) = some As.length)
    (hR : fr2 + 1 ≤ fr ∧ 8 + (n2 + 11) + lo2 ≤ lo) (hc : (st.map fun v => v.category).sum ≤ 8) (d : decode cc pc = .ok (.invokespecial idx, 3))
    (k : ∀ r, Sm g nL (pc + 3) lv ((vo' r).toList ++ st) (f r)) : Sm g nL pc lv (As.reverse ++ .ref bo :: st) (bd Pk f) := by
  obtain ⟨w, p, e, R, s, m, args, below, meth, c, Rl, cs, b, Qf⟩ := g
  obtain ⟨hx, hb, hml, hown, hts, hlocks, hG, hw⟩ := X
  obtain ⟨rfl, rfl⟩ := Y
  refine ⟨fun σ r σ' hP => ?_, fun σ r σ' H locs ls hP hRl hS hl b1 b2 b3 b4 => ?_⟩
  · obtain ⟨x, σ1, h1, h2⟩ := bd_some hP
    have m1 := M.1 σ x σ1 h1
    have m2 := (k x).1 σ1 r σ' h2
    exact ⟨Nat.le_trans m1.1 m2.1, Nat.le_trans m1.2 m2.2⟩
  · obtain ⟨x, σ1, h1, h2⟩ := bd_some hP
    have m1 : (cs σ).1 ≤ (cs σ1).1 ∧ (cs σ).2 ≤ (cs σ1).2 := M.1 σ x σ1 h1
    have m2 : (cs σ1).1 ≤ (cs σ').1 ∧ (cs σ1).2 ≤ (cs σ').2 := (k x).1 σ1 r σ' h2
    refine Sm.back (ca := (Value.ref bo :: As).toArray) k h2 m1 hS hl b1 b2 b3 b4 ?_
    refine va_runIN (As := As) (rest := st) (Ts := TB) (own := own) ⟨hx, hb, hml, hown, hts⟩ (M.2 σ x σ1 h1) ⟨va_cnB As.length hts (code_good hcode) rfl rfl rfl hlink (hts _ hini) hd hR, hy1, hts _ hin⟩ ⟨fun a U g mk q => ⟨q.1, q.2.1, q.2.2.calling hw g mk a⟩, fun U hU hW => ⟨rfl, by rw [hU]; exact hRl, hG.moved hw hW (by rw [hU]; exact hS)⟩⟩ rfl rfl hl.1 rfl (lv_room hc) d ⟨?_, ?_⟩
    · show (cs σ).1 - b.1 + ((cs σ1).1 - (cs σ).1) ≤ R.cells
      omega
    · show (cs σ).2 - b.2 + ((cs σ1).2 - (cs σ).2) ≤ R.slots
      omega
end CLI
def hCi {ρ α : Type} (r : Option Nat) (P : Nat → Hp → Option (α × Hp)) (f : α → Hp → Option (ρ × Hp)) : Hp → Option (ρ × Hp) := match r with
  | some a => bd (P a) f
  | none => no
section HCL
variable {ρ : Type} {g : Gm Hp ρ} {cc : ByteArray} {nL pc : Nat} {own : String} {lv : List (Nat × Value)} {st stk : List Value} {vo : ρ → Option Value} {ret : Option FieldType} {fr lo : Nat} {y : MethodName} {cb : ByteArray} {n2 : Nat} {ret2 : Option FieldType} {fr2 lo2 idx : Nat} {As : List Value}
theorem Bc.ok {cc : ByteArray} {nL : Nat} {own : String} {vo : ρ → Option Value} {ret : Option FieldType} {fr lo : Nat} (B : Bc g cc nL own vo ret fr lo) : Wok g.1 := by
  obtain ⟨w, p, e, R, s, m, args, below, meth, c, Rl, cs, b, Qf⟩ := g
  exact B.1.2.2.2.2.2.2.2
theorem hp_cvi {C : String} {T : u_T} {N : Nat} (c : Nat) (hcl : vwCl[c]? = some (C, T, N)) (hc1 : c < 100) {r0 : Option Nat} {Pk : Nat → Hp → Option (Int32 × Hp)} {f : Int32 → Hp → Option (ρ × Hp)} (B : Bc g cc nL own vo ret fr lo) (M : ∀ a, MH g.1 y cb n2 ret2 fr2 lo2 voI (va_rf (some a) :: As) (Pk a))
    (hcode : Cond.code y cb n2 ret2 ∈ TB) (hlink : Cond.methodLink own idx y ∈ TB) (hin : Cond.instanceMethod y ∈ TB) (hsel : Cond.selects C y y ∈ TB) (hini : Cond.initialized y.cls ∈ TB)
    (hd : y.cls ≠ "java/lang/invoke/MethodHandle" ∧ y.cls ≠ "java/lang/invoke/VarHandle" ∧ (parseMethodDescriptor y.desc).map (fun d => d.parameters.length) = some As.length)
    (hR : fr2 + 1 ≤ fr ∧ 8 + (n2 + 11) + lo2 ≤ lo) (hs : stk = As.reverse ++ va_rf r0 :: st) (hc : (st.map fun v => v.category).sum ≤ 8) (d : decode cc pc = .ok (.invokevirtual idx, 3))
    (k : ∀ r : Int32, Sm g nL (pc + 3) lv (.int r :: st) (f r)) : Sm g nL pc lv stk (hCv c r0 Pk f) := by
  subst hs
  cases r0 with
  | none => exact Sm.fail
  | some a =>
    refine s_callV0 (fun σ => hkd σ a = c + 1) (C := C) (bo := a) (Pk := Pk a) (f := f) (vo' := voI) B.1 B.2.1 (by rw [B.2.2.1, B.2.2.2]; exact M a) (fun σ H hk hR => ?_) (fun σ r σ' h => ?_) hcode hlink hin hsel hini hd hR hc d k
    · rw [B.2.2.1] at hR
      obtain ⟨r', e1, hO⟩ := (hR.2.2.2 a).1 c hc1 hk
      have e2 : r' = (C, T, N) := Option.some.inj (e1.symm.trans hcl)
      subst e2
      obtain ⟨cell, q1, q2, q3, -⟩ := hO
      refine ⟨cell, q1, by rw [q3]; rfl, ?_⟩
      rw [q2]
      obtain ⟨w, p, e, R, s, m, args, below, meth, cd, Rl, cs, b, Qf⟩ := g
      obtain ⟨⟨hx, hb, hml, hown, hts, hlocks, hG, hw⟩, -⟩ := B
      exact (hG.1.1 c _ hcl).2.1
    · unfold hCv at h
      dsimp only at h
      by_cases hq : hkd σ a = c + 1
      · rw [if_pos hq] at h; exact ⟨hq, h⟩
      · rw [if_neg hq] at h; cases h
theorem hp_csi {Pk : Hp → Option (Int32 × Hp)} {f : Int32 → Hp → Option (ρ × Hp)} (B : Bc g cc nL own vo ret fr lo) (M : MH g.1 y cb n2 ret2 fr2 lo2 voI As Pk)
    (hcode : Cond.code y cb n2 ret2 ∈ TB) (hlink : Cond.methodLink own idx y ∈ TB) (hst : Cond.static y ∈ TB) (hini : Cond.initialized y.cls ∈ TB)
    (hd : y.cls ≠ "java/lang/invoke/MethodHandle" ∧ y.cls ≠ "java/lang/invoke/VarHandle" ∧ (parseMethodDescriptor y.desc).map (fun d => d.parameters.length) = some As.length)
    (hR : fr2 + 1 ≤ fr ∧ 8 + (n2 + 11) + lo2 ≤ lo) (hs : stk = As.reverse ++ st) (hc : (st.map fun v => v.category).sum ≤ 8) (d : decode cc pc = .ok (.invokestatic idx, 3))
    (k : ∀ r : Int32, Sm g nL (pc + 3) lv (.int r :: st) (f r)) : Sm g nL pc lv stk (bd Pk f) := by
  subst hs
  exact s_callS (vo' := voI) B.1 B.2.1 (by rw [B.2.2.1, B.2.2.2]; exact M) hcode hlink hst hini hd hR hc d k
theorem hp_cvl {C : String} {T : u_T} {N : Nat} (c : Nat) (hcl : vwCl[c]? = some (C, T, N)) (hc1 : c < 100) {r0 : Option Nat} {Pk : Nat → Hp → Option (Int64 × Hp)} {f : Int64 → Hp → Option (ρ × Hp)} (B : Bc g cc nL own vo ret fr lo) (M : ∀ a, MH g.1 y cb n2 ret2 fr2 lo2 voL (va_rf (some a) :: As) (Pk a))
    (hcode : Cond.code y cb n2 ret2 ∈ TB) (hlink : Cond.methodLink own idx y ∈ TB) (hin : Cond.instanceMethod y ∈ TB) (hsel : Cond.selects C y y ∈ TB) (hini : Cond.initialized y.cls ∈ TB)
    (hd : y.cls ≠ "java/lang/invoke/MethodHandle" ∧ y.cls ≠ "java/lang/invoke/VarHandle" ∧ (parseMethodDescriptor y.desc).map (fun d => d.parameters.length) = some As.length)
    (hR : fr2 + 1 ≤ fr ∧ 8 + (n2 + 11) + lo2 ≤ lo) (hs : stk = As.reverse ++ va_rf r0 :: st) (hc : (st.map fun v => v.category).sum ≤ 8) (d : decode cc pc = .ok (.invokevirtual idx, 3))
    (k : ∀ r : Int64, Sm g nL (pc + 3) lv (.long r :: st) (f r)) : Sm g nL pc lv stk (hCv c r0 Pk f) := by
  subst hs
  cases r0 with
  | none => exact Sm.fail
  | some a =>
    refine s_callV0 (fun σ => hkd σ a = c + 1) (C := C) (bo := a) (Pk := Pk a) (f := f) (vo' := voL) B.1 B.2.1 (by rw [B.2.2.1, B.2.2.2]; exact M a) (fun σ H hk hR => ?_) (fun σ r σ' h => ?_) hcode hlink hin hsel hini hd hR hc d k
    · rw [B.2.2.1] at hR
      obtain ⟨r', e1, hO⟩ := (hR.2.2.2 a).1 c hc1 hk
      have e2 : r' = (C, T, N) := Option.some.inj (e1.symm.trans hcl)
      subst e2
      obtain ⟨cell, q1, q2, q3, -⟩ := hO
      refine ⟨cell, q1, by rw [q3]; rfl, ?_⟩
      rw [q2]
      obtain ⟨w, p, e, R, s, m, args, below, meth, cd, Rl, cs, b, Qf⟩ := g
      obtain ⟨⟨hx, hb, hml, hown, hts, hlocks, hG, hw⟩, -⟩ := B
      exact (hG.1.1 c _ hcl).2.1
    · unfold hCv at h
      dsimp only at h
      by_cases hq : hkd σ a = c + 1
      · rw [if_pos hq] at h; exact ⟨hq, h⟩
      · rw [if_neg hq] at h; cases h
theorem hp_csl {Pk : Hp → Option (Int64 × Hp)} {f : Int64 → Hp → Option (ρ × Hp)} (B : Bc g cc nL own vo ret fr lo) (M : MH g.1 y cb n2 ret2 fr2 lo2 voL As Pk)
    (hcode : Cond.code y cb n2 ret2 ∈ TB) (hlink : Cond.methodLink own idx y ∈ TB) (hst : Cond.static y ∈ TB) (hini : Cond.initialized y.cls ∈ TB)
    (hd : y.cls ≠ "java/lang/invoke/MethodHandle" ∧ y.cls ≠ "java/lang/invoke/VarHandle" ∧ (parseMethodDescriptor y.desc).map (fun d => d.parameters.length) = some As.length)
    (hR : fr2 + 1 ≤ fr ∧ 8 + (n2 + 11) + lo2 ≤ lo) (hs : stk = As.reverse ++ st) (hc : (st.map fun v => v.category).sum ≤ 8) (d : decode cc pc = .ok (.invokestatic idx, 3))
    (k : ∀ r : Int64, Sm g nL (pc + 3) lv (.long r :: st) (f r)) : Sm g nL pc lv stk (bd Pk f) := by
  subst hs
  exact s_callS (vo' := voL) B.1 B.2.1 (by rw [B.2.2.1, B.2.2.2]; exact M) hcode hlink hst hini hd hR hc d k
theorem hp_cvv {C : String} {T : u_T} {N : Nat} (c : Nat) (hcl : vwCl[c]? = some (C, T, N)) (hc1 : c < 100) {r0 : Option Nat} {Pk : Nat → Hp → Option (Unit × Hp)} {f : Unit → Hp → Option (ρ × Hp)} (B : Bc g cc nL own vo ret fr lo) (M : ∀ a, MH g.1 y cb n2 ret2 fr2 lo2 voV (va_rf (some a) :: As) (Pk a))
    (hcode : Cond.code y cb n2 ret2 ∈ TB) (hlink : Cond.methodLink own idx y ∈ TB) (hin : Cond.instanceMethod y ∈ TB) (hsel : Cond.selects C y y ∈ TB) (hini : Cond.initialized y.cls ∈ TB)
    (hd : y.cls ≠ "java/lang/invoke/MethodHandle" ∧ y.cls ≠ "java/lang/invoke/VarHandle" ∧ (parseMethodDescriptor y.desc).map (fun d => d.parameters.length) = some As.length)
    (hR : fr2 + 1 ≤ fr ∧ 8 + (n2 + 11) + lo2 ≤ lo) (hs : stk = As.reverse ++ va_rf r0 :: st) (hc : (st.map fun v => v.category).sum ≤ 8) (d : decode cc pc = .ok (.invokevirtual idx, 3))
    (k : ∀ r : Unit, Sm g nL (pc + 3) lv (st) (f r)) : Sm g nL pc lv stk (hCv c r0 Pk f) := by
  subst hs
  cases r0 with
  | none => exact Sm.fail
  | some a =>
    refine s_callV0 (fun σ => hkd σ a = c + 1) (C := C) (bo := a) (Pk := Pk a) (f := f) (vo' := voV) B.1 B.2.1 (by rw [B.2.2.1, B.2.2.2]; exact M a) (fun σ H hk hR => ?_) (fun σ r σ' h => ?_) hcode hlink hin hsel hini hd hR hc d k
    · rw [B.2.2.1] at hR
      obtain ⟨r', e1, hO⟩ := (hR.2.2.2 a).1 c hc1 hk
      have e2 : r' = (C, T, N) := Option.some.inj (e1.symm.trans hcl)
      subst e2
      obtain ⟨cell, q1, q2, q3, -⟩ := hO
      refine ⟨cell, q1, by rw [q3]; rfl, ?_⟩
      rw [q2]
      obtain ⟨w, p, e, R, s, m, args, below, meth, cd, Rl, cs, b, Qf⟩ := g
      obtain ⟨⟨hx, hb, hml, hown, hts, hlocks, hG, hw⟩, -⟩ := B
      exact (hG.1.1 c _ hcl).2.1
    · unfold hCv at h
      dsimp only at h
      by_cases hq : hkd σ a = c + 1
      · rw [if_pos hq] at h; exact ⟨hq, h⟩
      · rw [if_neg hq] at h; cases h
theorem hp_csv {Pk : Hp → Option (Unit × Hp)} {f : Unit → Hp → Option (ρ × Hp)} (B : Bc g cc nL own vo ret fr lo) (M : MH g.1 y cb n2 ret2 fr2 lo2 voV As Pk)
    (hcode : Cond.code y cb n2 ret2 ∈ TB) (hlink : Cond.methodLink own idx y ∈ TB) (hst : Cond.static y ∈ TB) (hini : Cond.initialized y.cls ∈ TB)
    (hd : y.cls ≠ "java/lang/invoke/MethodHandle" ∧ y.cls ≠ "java/lang/invoke/VarHandle" ∧ (parseMethodDescriptor y.desc).map (fun d => d.parameters.length) = some As.length)
    (hR : fr2 + 1 ≤ fr ∧ 8 + (n2 + 11) + lo2 ≤ lo) (hs : stk = As.reverse ++ st) (hc : (st.map fun v => v.category).sum ≤ 8) (d : decode cc pc = .ok (.invokestatic idx, 3))
    (k : ∀ r : Unit, Sm g nL (pc + 3) lv (st) (f r)) : Sm g nL pc lv stk (bd Pk f) := by
  subst hs
  exact s_callS (vo' := voV) B.1 B.2.1 (by rw [B.2.2.1, B.2.2.2]; exact M) hcode hlink hst hini hd hR hc d k
theorem hp_cvr {C : String} {T : u_T} {N : Nat} (c : Nat) (hcl : vwCl[c]? = some (C, T, N)) (hc1 : c < 100) {r0 : Option Nat} {Pk : Nat → Hp → Option (Option Nat × Hp)} {f : Option Nat → Hp → Option (ρ × Hp)} (B : Bc g cc nL own vo ret fr lo) (M : ∀ a, MH g.1 y cb n2 ret2 fr2 lo2 voR (va_rf (some a) :: As) (Pk a))
    (hcode : Cond.code y cb n2 ret2 ∈ TB) (hlink : Cond.methodLink own idx y ∈ TB) (hin : Cond.instanceMethod y ∈ TB) (hsel : Cond.selects C y y ∈ TB) (hini : Cond.initialized y.cls ∈ TB)
    (hd : y.cls ≠ "java/lang/invoke/MethodHandle" ∧ y.cls ≠ "java/lang/invoke/VarHandle" ∧ (parseMethodDescriptor y.desc).map (fun d => d.parameters.length) = some As.length)
    (hR : fr2 + 1 ≤ fr ∧ 8 + (n2 + 11) + lo2 ≤ lo) (hs : stk = As.reverse ++ va_rf r0 :: st) (hc : (st.map fun v => v.category).sum ≤ 8) (d : decode cc pc = .ok (.invokevirtual idx, 3))
    (k : ∀ r : Option Nat, Sm g nL (pc + 3) lv (va_rf r :: st) (f r)) : Sm g nL pc lv stk (hCv c r0 Pk f) := by
  subst hs
  cases r0 with
  | none => exact Sm.fail
  | some a =>
    refine s_callV0 (fun σ => hkd σ a = c + 1) (C := C) (bo := a) (Pk := Pk a) (f := f) (vo' := voR) B.1 B.2.1 (by rw [B.2.2.1, B.2.2.2]; exact M a) (fun σ H hk hR => ?_) (fun σ r σ' h => ?_) hcode hlink hin hsel hini hd hR hc d k
    · rw [B.2.2.1] at hR
      obtain ⟨r', e1, hO⟩ := (hR.2.2.2 a).1 c hc1 hk
      have e2 : r' = (C, T, N) := Option.some.inj (e1.symm.trans hcl)
      subst e2
      obtain ⟨cell, q1, q2, q3, -⟩ := hO
      refine ⟨cell, q1, by rw [q3]; rfl, ?_⟩
      rw [q2]
      obtain ⟨w, p, e, R, s, m, args, below, meth, cd, Rl, cs, b, Qf⟩ := g
      obtain ⟨⟨hx, hb, hml, hown, hts, hlocks, hG, hw⟩, -⟩ := B
      exact (hG.1.1 c _ hcl).2.1
    · unfold hCv at h
      dsimp only at h
      by_cases hq : hkd σ a = c + 1
      · rw [if_pos hq] at h; exact ⟨hq, h⟩
      · rw [if_neg hq] at h; cases h
theorem hp_csr {Pk : Hp → Option (Option Nat × Hp)} {f : Option Nat → Hp → Option (ρ × Hp)} (B : Bc g cc nL own vo ret fr lo) (M : MH g.1 y cb n2 ret2 fr2 lo2 voR As Pk)
    (hcode : Cond.code y cb n2 ret2 ∈ TB) (hlink : Cond.methodLink own idx y ∈ TB) (hst : Cond.static y ∈ TB) (hini : Cond.initialized y.cls ∈ TB)
    (hd : y.cls ≠ "java/lang/invoke/MethodHandle" ∧ y.cls ≠ "java/lang/invoke/VarHandle" ∧ (parseMethodDescriptor y.desc).map (fun d => d.parameters.length) = some As.length)
    (hR : fr2 + 1 ≤ fr ∧ 8 + (n2 + 11) + lo2 ≤ lo) (hs : stk = As.reverse ++ st) (hc : (st.map fun v => v.category).sum ≤ 8) (d : decode cc pc = .ok (.invokestatic idx, 3))
    (k : ∀ r : Option Nat, Sm g nL (pc + 3) lv (va_rf r :: st) (f r)) : Sm g nL pc lv stk (bd Pk f) := by
  subst hs
  exact s_callS (vo' := voR) B.1 B.2.1 (by rw [B.2.2.1, B.2.2.2]; exact M) hcode hlink hst hini hd hR hc d k
theorem hp_cI {r0 : Option Nat} {Pk : Nat → Hp → Option (Unit × Hp)} {f : Unit → Hp → Option (ρ × Hp)} (B : Bc g cc nL own vo ret fr lo) (M : ∀ a, MH g.1 y cb n2 none fr2 lo2 voV (va_rf (some a) :: As) (Pk a))
    (hcode : Cond.code y cb n2 none ∈ TB) (hlink : Cond.methodLink own idx y ∈ TB) (hin : Cond.instanceMethod y ∈ TB) (hini : Cond.initialized y.cls ∈ TB) (hy1 : y.name = "<init>")
    (hd : y.cls ≠ "java/lang/invoke/MethodHandle" ∧ y.cls ≠ "java/lang/invoke/VarHandle" ∧ (parseMethodDescriptor y.desc).map (fun d => d.parameters.length) = some As.length)
    (hR : fr2 + 1 ≤ fr ∧ 8 + (n2 + 11) + lo2 ≤ lo) (hs : stk = As.reverse ++ va_rf r0 :: st) (hc : (st.map fun v => v.category).sum ≤ 8) (d : decode cc pc = .ok (.invokespecial idx, 3))
    (k : ∀ r : Unit, Sm g nL (pc + 3) lv st (f r)) : Sm g nL pc lv stk (hCi r0 Pk f) := by
  subst hs
  cases r0 with
  | none => exact Sm.fail
  | some a => exact s_callI (bo := a) (Pk := Pk a) (f := f) (vo' := voV) B.1 B.2.1 (by rw [B.2.2.1, B.2.2.2]; exact M a) hcode hlink hin hini hy1 hd hR hc d k
theorem hp_cIN {r0 : Option Nat} {Pk : Nat → Hp → Option (Unit × Hp)} {f : Unit → Hp → Option (ρ × Hp)} (B : Bc g cc nL own vo ret fr lo) (M : ∀ a, MH g.1 y cb n2 none fr2 lo2 voV (va_rf (some a) :: As) (Pk a))
    (hcode : Cond.code y cb n2 none ∈ TB) {host : String} (hlink : va_Nw (.methodLinkNest own idx y host) g.2.2.2.2.1) (hin : Cond.instanceMethod y ∈ TB) (hini : Cond.initialized y.cls ∈ TB) (hy1 : y.name = "<init>")
    (hd : y.cls ≠ "java/lang/invoke/MethodHandle" ∧ y.cls ≠ "java/lang/invoke/VarHandle" ∧ (parseMethodDescriptor y.desc).map (fun d => d.parameters.length) = some As.length)
    (hR : fr2 + 1 ≤ fr ∧ 8 + (n2 + 11) + lo2 ≤ lo) (hs : stk = As.reverse ++ va_rf r0 :: st) (hc : (st.map fun v => v.category).sum ≤ 8) (d : decode cc pc = .ok (.invokespecial idx, 3))
    (k : ∀ r : Unit, Sm g nL (pc + 3) lv st (f r)) : Sm g nL pc lv stk (hCi r0 Pk f) := by
  subst hs
  cases r0 with
  | none => exact Sm.fail
  | some a => exact s_callIN (bo := a) (Pk := Pk a) (f := f) (vo' := voV) B.1 B.2.1 (by rw [B.2.2.1, B.2.2.2]; exact M a) hcode hlink hin hini hy1 hd hR hc d k
def hOi {ρ : Type} (r : Option Nat) (P : Hp → Option (ρ × Hp)) : Hp → Option (ρ × Hp) := match r with
  | some _ => P
  | none => no
theorem hp_Oi (B : Bc g cc nL own vo ret fr lo) {r0 : Option Nat} {P : Hp → Option (ρ × Hp)} (hlink : Cond.methodLink own idx Lib.objectInit ∈ TB) (hin : Cond.instanceMethod Lib.objectInit ∈ TB) (hcode : Cond.code Lib.objectInit ⟨#[0xb1]⟩ 1 none ∈ TB) (h1 : 1 ≤ fr) (h2 : (st.map fun v => v.category).sum + 12 ≤ lo) (d : decode cc pc = .ok (.invokespecial idx, 3))
    (k : Sm g nL (pc + 3) lv st P) : Sm g nL pc lv (va_rf r0 :: st) (hOi r0 P) := by
  cases r0 with
  | none => exact Sm.fail
  | some a =>
    obtain ⟨w, p, e, R, s, m, args, below, meth, cd, Rl, cs, b, Qf⟩ := g
    obtain ⟨⟨hx, hb, hml, hown, hts, hlocks, hG, hw⟩, ⟨rfl, rfl⟩, -⟩ := B
    refine ⟨k.1, fun σ r σ' H locs ls hP hR hS hl b1 b2 b3 b4 => ?_⟩
    refine W.objInit hx hb hown (hts _ hlink) (hts _ hin) (hts _ hcode) rfl (by rw [hml]; exact hl.1) rfl d h1 (by show 2 * 0 + _ + 12 ≤ _; omega) ?_
    exact k.2 σ r σ' H locs ls hP hR hS hl b1 b2 b3 b4
theorem hp_Nq (B : Bc g cc nL own vo ret fr lo) (hX : XK1 g.2.2.2.2.1) (t : Nat) {C : String} (hn : Cond.arrayOver (.object C) ∈ nwl) (ht3 : 3 < t) (ht : ∀ cA : Nat → ClassId, (tyl cA)[t]? = some (cA t, .object C)) (hcl : Cond.classLink own idx C ∈ TB) {n : Int32} (d : decode cc pc = .ok (.anewarray idx, 3)) {f : Option Nat → Hp → Option (ρ × Hp)}
    (kk : ∀ v, Sm g nL (pc + 3) lv (va_rf v :: st) (f v)) : Sm g nL pc lv (.int n :: st) (hNa t n f) := by
  obtain ⟨w, p, e, R, s, m, args, below, meth, cd, Rl, cs, b, Qf⟩ := g
  obtain ⟨⟨hx, hb, hml, hown, hts, hlocks, hG, hw⟩, -, eR, eC⟩ := B
  have eR : Rl = Rc w := eR
  have eC : cs = hcs := eC
  subst eR; subst eC
  refine ⟨fun σ r σ' hP => ?_, fun σ r σ' H locs ls hP hR hS hl b1 b2 b3 b4 => ?_⟩
  · unfold hNa at hP
    by_cases hq : 0 ≤ n ∧ n.toNatClampNeg ≤ 1000000
    · rw [if_pos hq] at hP
      have h0 := (kk _).1 _ r σ' hP
      exact ⟨Nat.le_trans (Nat.le_succ _) h0.1, Nat.le_trans (Nat.le_add_right _ _) h0.2⟩
    · rw [if_neg hq] at hP; cases hP
  · unfold hNa at hP
    by_cases hq : 0 ≤ n ∧ n.toNatClampNeg ≤ 1000000
    · rw [if_pos hq] at hP
      have h0 : (hcs σ).1 + 1 ≤ (hcs σ').1 ∧ (hcs σ).2 + n.toNatClampNeg ≤ (hcs σ').2 := (kk _).1 _ r σ' hP
      have hsz : H.size = hnx σ := hR.1
      have hAO : va_AO C s := hX _ hn
      refine W.anew hx hb hown (hts _ hcl) (va_AO.use hAO) rfl d rfl (Int32.not_lt.mpr hq.1) (by omega) (by omega) (by omega) fun cA kA comp f1 f2 f3 f4 => ?_
      obtain ⟨kA', comp', g1, g2, g3, g4⟩ := (hG.1.2 t _ (ht _)).2
      have hcA : cA = w.2.1 t := Option.some.inj (f1.symm.trans g4)
      subst hcA
      generalize hH1 : H.push ({ cls := w.2.1 t, slots := Array.replicate n.toNatClampNeg .null, vm := .none } : Cell) = H1
      have z1 : H1.size = H.size + 1 := by rw [← hH1, Array.size_push]
      have e1 : H1[H.size]? = some (arrV (w.2.1 t) n.toNatClampNeg (fun _ => .null)) := by rw [← hH1, Array.getElem?_push_size, ← arrV_new]
      have o1 : ∀ q : Nat, q < H.size → H1[q]? = H[q]? := fun q hq => by rw [← hH1, Array.getElem?_push, if_neg (Nat.ne_of_lt hq)]
      rw [hsz] at z1 e1 o1 ⊢
      have fin := (kk (some (hnx σ))).2 (hay σ t n.toNatClampNeg) r σ' H1 locs ls hP ?_ ⟨Nat.le_trans hS.1 (by omega), fun x g1 g2 => (o1 x (by have := hS.1; omega)).trans (hS.2.1 x g1 g2), hS.2.2⟩ hl (by show b.1 ≤ (hcs σ).1 + 1; omega) (by show b.2 ≤ (hcs σ).2 + _; omega) b3 b4
      · rw [show (hcs σ).1 - b.1 + 1 = (hcs (hay σ t n.toNatClampNeg)).1 - b.1 by show _ = (hcs σ).1 + 1 - b.1; omega, show (hcs σ).2 - b.2 + n.toNatClampNeg = (hcs (hay σ t n.toNatClampNeg)).2 - b.2 by show _ = (hcs σ).2 + n.toNatClampNeg - b.2; omega]
        exact fin
      · refine hR.mk z1 o1 rfl (fun x hne => ?_) (fun x c k hne => rfl) (fun x t hne => ?_) ⟨fun c' hc' hk' => ?_, fun t' ht' => ?_⟩
        · simp [hay, hkd, u1, hne]
        · simp [aV, hay, hai, hal, har, hln, u1, hne]
        · simp [hay, hkd, u1] at hk'; omega
        · have : t' = t := by simp [hay, hkd, u1] at ht'; omega
          subst this
          rw [e1]
          unfold aV
          rw [if_neg (by omega), if_neg (by omega)]
          simp [hay, har, hln, u1, va_rf]
    · rw [if_neg hq] at hP; cases hP
end HCL
section CPY
variable {p : Program} {l : Launch} {e : Env} {R : Room} {s : State} {m : MethodId} {args : Array Value} {below : List Frame} {meth : Method} {c : Code} {H : Heap} {locs : List Loc} {cells slots : Nat} {Q : State → Prop} {cc : ByteArray} {pc : Nat} {ls : Array Slot} {rest : List Value} {a : Nat}
theorem ar_copy (hexec : p.tables.exec = Jvm.exec) (hb : c.code = cc) (hml : c.maxLocals = ls.size) {own : String} {index : Nat} (hown : s.vm.findClass own = some m.cls) (hlink : (Cond.methodLink own index arraycopyName).before args s = true) (hnat : (Cond.native arraycopyName).before args s = true) (hstat : (Cond.static arraycopyName).before args s = true) (hini : (Cond.initialized "java/lang/System").before args s = true)
    {a0 : Nat} {cA : ClassId} {n0 n1 : Nat} {f g : Nat → Int32} (hA : ArrOfT s cA .int) (hc0 : H[a0]? = some (arrV cA n0 (fun j => .int (f j)))) (hc1 : H[a]? = some (arrV cA n1 (fun j => .int (g j))))
    {sp dp n : Int32} (h1 : ¬ sp < 0) (h2 : ¬ dp < 0) (h3 : ¬ n < 0) (h4 : sp.toNatClampNeg + n.toNatClampNeg ≤ n0) (h5 : dp.toNatClampNeg + n.toNatClampNeg ≤ n1)
    (hframes : 1 ≤ R.frames) (hlocals : (rest.map fun v => v.category).sum + (nativeFrameWords "java/lang/System" "arraycopy" 5 + 11) ≤ R.locals) (hdg : decode cc pc = .ok (.invokestatic index, 3))
    (kk : ∀ (H1 : Heap) (L : List Loc), H1[a]? = some (arrV cA n1 (fun j => .int (va_cpy f g sp.toNatClampNeg dp.toNatClampNeg n.toNatClampNeg j))) → H1.size = H.size → (∀ q : Nat, q ≠ a → H1[q]? = H[q]?) → (∀ q ∈ L, q.base = a) → W p l e R s m args below meth c H1 (locs ++ L) cells slots Q (F0 m (pc + 3) ls rest)) : W p l e R s m args below meth c H locs cells slots Q (F0 m pc ls (.int n :: .int dp :: .ref a :: .int sp :: .ref a0 :: rest)) := by
  have nn : ∀ z : Int32, ¬ z < 0 → z.toInt = (z.toNatClampNeg : Int) := by
    intro z hz
    have hz0 : (0 : Int) ≤ z.toInt := by
      have := Int32.not_lt.mp hz
      simpa using Int32.le_iff_toInt_le.mp this
    show z.toInt = ((z.toInt.toNat : Nat) : Int)
    omega
  intro T hT X
  obtain ⟨-, k0, hk0, cm0, hkk0⟩ := hA n0 (fun j => .int (f j))
  obtain ⟨-, k1, hk1, cm1, hkk1⟩ := hA n1 (fun j => .int (g j))
  obtain ⟨vm', X', step⟩ := X.arraycopy hexec hown hlink hnat hstat hini (src := a0) (dst := a) (cs := arrV cA n0 (fun j => .int (f j))) (cd := arrV cA n1 (fun j => .int (g j))) (srcPos := sp) (destPos := dp) (n := n) (by rw [hT]; exact hc0) (by rw [hT]; exact hc1)
    (fun _ h => by cases h) (fun _ h => by cases h) (fun h => by cases h) (fun h => by cases h) hk0 hk1 hkk0 hkk1 (by simp [refKind]) h1 h2 h3
    (by rw [nn sp h1, nn n h3, arrV_size]; omega)
    (by rw [nn dp h2, nn n h3, arrV_size]; omega)
    (fun vm₁ _ i hi => by
      have e : (arrV cA n0 (fun j => .int (f j))).slots.getD (sp.toNatClampNeg + i) .null = .int (f (sp.toNatClampNeg + i)) := by
        rw [Array.getD_eq_getD_getElem?, arrV_read _ _ (by omega)]
        rfl
      refine ⟨?_, ?_⟩
      · rw [e]; rfl
      · rw [e]; exact trivial)
    (g := F0 m pc ls (.int n :: .int dp :: .ref a :: .int sp :: .ref a0 :: rest)) rfl (by rw [hml]) (rest := rest) rfl (by rw [hb]; exact hdg) hframes (by show 2 * 0 + _ + _ ≤ _; omega)
  have e1 : copied (arrV cA n0 (fun j => .int (f j))) (arrV cA n1 (fun j => .int (g j))) sp dp n = arrV cA n1 (fun j => .int (va_cpy f g sp.toNatClampNeg dp.toNatClampNeg n.toNatClampNeg j)) := va_copied (fun z => .int z) cA cA f g h4
  rw [e1] at X' step
  have hl : a < H.size := (Array.getElem?_eq_some_iff.mp hc1).1
  have hheap : ((T.setVm vm').setCell a (arrV cA n1 (fun j => .int (va_cpy f g sp.toNatClampNeg dp.toNatClampNeg n.toNatClampNeg j)))).heap = H.setIfInBounds a (arrV cA n1 (fun j => .int (va_cpy f g sp.toNatClampNeg dp.toNatClampNeg n.toNatClampNeg j))) := by rw [← hT]; rfl
  obtain ⟨t, a1, b1⟩ := kk _ _ (show (H.setIfInBounds a _)[a]? = some _ by simp [Array.getElem?_setIfInBounds, hl]) (by simp) (fun q hq => by simp [Array.getElem?_setIfInBounds, Ne.symm hq]) (fun q hq => by
      obtain ⟨z, -, hz⟩ := List.mem_map.mp hq
      rw [← hz]) _ hheap X'
  exact ⟨t, step t a1, b1⟩
end CPY
theorem hp_Cp {ρ : Type} {g : Gm Hp ρ} {cc : ByteArray} {nL pc : Nat} {own : String} {lv : List (Nat × Value)} {st : List Value} {vo : ρ → Option Value} {ret : Option FieldType} {fr lo idx : Nat} (B : Bc g cc nL own vo ret fr lo) {r1 r2 : Option Nat} {sp dp n : Int32} {P : Hp → Option (ρ × Hp)} (hlink : Cond.methodLink own idx arraycopyName ∈ TB) (h1 : 1 ≤ fr) (h2 : (st.map fun v => v.category).sum + (nativeFrameWords "java/lang/System" "arraycopy" 5 + 11) ≤ lo) (d : decode cc pc = .ok (.invokestatic idx, 3))
    (k : Sm g nL (pc + 3) lv st P) : Sm g nL pc lv (.int n :: .int dp :: va_rf r2 :: .int sp :: va_rf r1 :: st) (hCp r1 sp r2 dp n P) := by
  obtain ⟨w, p, e, R, s, m, args, below, meth, cd, Rl, cs, b, Qf⟩ := g
  obtain ⟨⟨hx, hb, hml, hown, hts, hlocks, hG, hw⟩, ⟨rfl, rfl⟩, eR, eC⟩ := B
  have eR : Rl = Rc w := eR
  have eC : cs = hcs := eC
  subst eR; subst eC
  cases r1 with
  | none => exact Sm.fail
  | some a0 =>
    cases r2 with
    | none => exact Sm.fail
    | some a =>
      refine ⟨fun σ r σ' hP => ?_, fun σ r σ' H locs ls hP hR hS hl b1 b2 b3 b4 => ?_⟩
      · unfold hCp at hP
        dsimp only at hP
        split at hP
        · exact k.1 (sai σ a _) r σ' hP
        · cases hP
      · unfold hCp at hP
        dsimp only at hP
        split at hP
        · rename_i hq
          obtain ⟨q1, q2, q3, q4, q5, q6, q7⟩ := hq
          have hc0 := (hR.2.2.2 a0).2 0 q1
          have hc1 := (hR.2.2.2 a).2 0 q2
          rw [show aV w σ a0 0 = arrV (w.2.1 0) (hln σ a0) (fun j => .int (hai σ a0 j)) by simp [aV]] at hc0
          rw [show aV w σ a 0 = arrV (w.2.1 0) (hln σ a) (fun j => .int (hai σ a j)) by simp [aV]] at hc1
          refine ar_copy hx hb (by rw [hml, hl.1]) hown (hts _ hlink) (hts _ tw_588) (hts _ tw_587) (hts _ tw_25) (arT hG 0 rfl) hc0 hc1 (Int32.not_lt.mpr q3) (Int32.not_lt.mpr q4) (Int32.not_lt.mpr q5) q6 q7 h1 h2 d (fun H1 L e1 hz oq hL => ?_)
          have hAa := (hR.2.1 a (by omega)).1
          refine k.2 (sai σ a (va_cpy (hai σ a0) (hai σ a) sp.toNatClampNeg dp.toNatClampNeg n.toNatClampNeg)) r σ' H1 _ ls hP (hR.putA (t := 0) q2 ?_ hz oq rfl rfl (fun x c k => rfl) (fun x t hne => ?_)) ⟨by rw [hz]; exact hS.1, fun q g1 g2 => by rw [oq q (fun e => g2 (by rw [e]; exact hAa))]; exact hS.2.1 q g1 g2, fun q hq => ?_⟩ hl b1 b2 b3 b4
          · rw [e1]; simp [aV, sai, hai, hln, u1]
          · simp [aV, sai, hai, hal, har, hln, u1, hne]
          · rcases List.mem_append.mp hq with z | z
            · exact hS.2.2 q z
            · rw [hL q z]; exact hAa
        · cases hP
