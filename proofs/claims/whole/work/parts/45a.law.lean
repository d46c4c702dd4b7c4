/-! ===== the law's state: the class's heap and the model's state, in cells of their own ===== -/
abbrev Lz : Type := Hp × RS
def wAt (w : Wd) (A : Nat → Prop) : Wd := (w.1, w.2.1, w.2.2.1, A, w.2.2.2.2.1, w.2.2.2.2.2)
def inM (w : Wd) (q : Nat) : Prop := w.2.2.2.2.2 ≤ q ∧ q ≤ w.2.2.2.2.2 + 77
def wC (w : Wd) : Wd := wAt w (fun q => w.2.2.2.1 q ∧ ¬ inM w q)
def wR (w : Wd) : Wd := wAt w (inM w)
def Rl (w : Wd) (σ : Lz) (H : Heap) : Prop := Rc (wC w) σ.1 H ∧ Rr (wR w) σ.2 H ∧ ∀ q, inM w q → w.2.2.2.1 q
def lcs (σ : Lz) : Nat × Nat := hcs σ.1
def lC {α : Type} (P : Hp → Option (α × Hp)) : Lz → Option (α × Lz) := fun σ => match P σ.1 with
  | some q => some (q.1, (q.2, σ.2))
  | none => none
def lM {α : Type} (P : RS → Option (α × RS)) : Lz → Option (α × Lz) := fun σ => match P σ.2 with
  | some q => some (q.1, (σ.1, q.2))
  | none => none
theorem lC_some {α : Type} {P : Hp → Option (α × Hp)} {σ σ' : Lz} {v : α} (h : lC P σ = some (v, σ')) : P σ.1 = some (v, σ'.1) ∧ σ'.2 = σ.2 := by
  unfold lC at h
  cases hx : P σ.1 with
  | none => rw [hx] at h; cases h
  | some q => rw [hx] at h; cases h; exact ⟨rfl, rfl⟩
theorem lM_some {α : Type} {P : RS → Option (α × RS)} {σ σ' : Lz} {v : α} (h : lM P σ = some (v, σ')) : P σ.2 = some (v, σ'.2) ∧ σ'.1 = σ.1 := by
  unfold lM at h
  cases hx : P σ.2 with
  | none => rw [hx] at h; cases h
  | some q => rw [hx] at h; cases h; exact ⟨rfl, rfl⟩
theorem Rr.kept {w : Wd} {rs : RS} {H H' : Heap} (h : Rr w rs H) (hk : ∀ q, inM w q → q < H.size → H'[q]? = H[q]?) : Rr w rs H' := by
  obtain ⟨h1, h2, h3⟩ := h
  have hlt : ∀ {q : Nat} {c : Cell}, H[q]? = some c → q < H.size := fun e => (Array.getElem?_eq_some_iff.mp e).1
  refine ⟨t_OB.kept h1 (hk _ ⟨Nat.le_refl _, Nat.le_add_right _ _⟩ ?_), fun k hk1 hk2 => ?_, h3⟩
  · obtain ⟨cell, q1, -⟩ := h1
    exact hlt q1
  · have e := h2 k hk1 hk2
    have p := m_pos k hk1 hk2
    rw [hk _ ⟨Nat.le_add_right _ _, Nat.add_le_add_left p.2 _⟩ (hlt e)]
    exact e
theorem Rc.kept {w : Wd} {h : Hp} {H H' : Heap} (hR : Rc w h H) (hs : H'.size = H.size) (hk : ∀ q, w.2.2.2.1 q → q < H.size → H'[q]? = H[q]?) : Rc w h H' := by
  refine ⟨hs.trans hR.1, hR.2.1, hR.2.2.1, fun a => ?_⟩
  by_cases e : hkd h a = 0
  · exact ⟨fun c _ hc => absurd (e.symm.trans hc) (by omega), fun t ht => absurd (e.symm.trans ht) (by omega)⟩
  · have z := hR.2.1 a e
    exact cel.kept (hR.2.2.2 a) (hk a z.1 (by rw [hR.1]; exact z.2)) rfl (fun _ _ => rfl) (fun _ => rfl)
theorem Met.conseq {l : Launch} {y : MethodName} {ws : List Cond} {rm : Room} {Pc Pc' : Array Value → State → Prop} {Qc Qc' : Array Value → State → Outcome → State → Prop} {mc ms : Nat} {free free' : Addr → Prop} (h : Met l y ws rm Pc Qc mc ms free)
    (h1 : ∀ a s, Pc' a s → Pc a s) (h2 : ∀ a s o t L, Pc' a s → Qc a s o t → FrameEnd s o t L mc ms → Qc' a s o t) (h3 : ∀ q, free q → free' q) : Met l y ws rm Pc' Qc' mc ms free' := by
  intro p e ha hc hk s m args below hf happ hP hT
  obtain ⟨n, o, a1, a2, a3, a4, L, a5, a6⟩ := h p e ha hc hk s m args below hf happ (h1 _ _ hP) hT
  exact ⟨n, o, a1, a2, a3, h2 _ _ _ _ L hP a4 a5, L, a5, fun q hq => h3 _ (a6 q hq)⟩
theorem FrameEnd.size {s t : State} {o : Outcome} {L : List Loc} (h : FrameEnd s o t L 0 0) : t.heap.size = s.heap.size := by
  obtain ⟨-, -, -, h2, h3, -⟩ := h
  exact Nat.le_antisymm h3 h2
theorem QC.lift {α : Type} {w : Wd} {vo : α → Option Value} {r : α} {σ σ' : Lz} {a : Array Value} {st t : State} {o : Outcome} (hR : Rl w σ st.heap) (h2 : σ'.2 = σ.2) (hq : Qo (Rc (wC w)) (wC w).2.2.2.1 vo r σ'.1 a st o t) : Qo (Rl w) w.2.2.2.1 vo r σ' a st o t := by
  obtain ⟨⟨q1, q2⟩, q3, q4⟩ := hq
  refine ⟨⟨q1, q2, ?_, hR.2.2⟩, q3, fun q z1 z2 => q4 q z1 (fun z => z2 z.1)⟩
  rw [h2]
  exact hR.2.1.kept (fun q z1 z2 => q4 q z2 (fun z => z.2 z1))
theorem MC.liftC {α : Type} {w : Wd} {y : MethodName} {cc : ByteArray} {nL : Nat} {ret : Option FieldType} {fr lo : Nat} {vo : α → Option Value} {av : List Value} {P : Hp → Option (α × Hp)} (M : MH (wC w) y cc nL ret fr lo vo av P) : MC w (Rl w) lcs y cc nL ret fr lo vo av (lC P) := by
  refine ⟨fun σ r σ' h => M.1 _ _ _ (lC_some h).1, fun σ r σ' h => ?_⟩
  obtain ⟨h1, h2⟩ := lC_some h
  exact Met.conseq (M.2 _ _ _ h1) (fun a s hp => ⟨hp.1, hp.2.1.1, hp.2.2⟩) (fun a s o t L hp hq _ => QC.lift hp.2.1 h2 hq) (fun q z => z.1)
theorem MC.liftM {α : Type} {w : Wd} {y : MethodName} {cc : ByteArray} {nL : Nat} {ret : Option FieldType} {fr lo : Nat} {vo : α → Option Value} {av : List Value} {P : RS → Option (α × RS)} (hA : ∀ q, inM w q → w.2.2.2.1 q) (M : MR (wR w) y cc nL ret fr lo vo av P) : MC w (Rl w) lcs y cc nL ret fr lo vo av (lM P) := by
  refine ⟨fun σ r σ' h => ?_, fun σ r σ' h => ?_⟩
  · have e := (lM_some h).2
    unfold lcs
    rw [e]
    exact ⟨Nat.le_refl _, Nat.le_refl _⟩
  · obtain ⟨h1, h2⟩ := lM_some h
    have e1 : (lcs σ').1 - (lcs σ).1 = 0 := by unfold lcs; rw [h2]; exact Nat.sub_self _
    have e2 : (lcs σ').2 - (lcs σ).2 = 0 := by unfold lcs; rw [h2]; exact Nat.sub_self _
    rw [e1, e2]
    refine Met.conseq (M.2 _ _ _ h1) (fun a s hp => ⟨hp.1, hp.2.1.2.1, hp.2.2⟩) (fun a s o t L hp hq hF => ?_) (fun q z => hA q z)
    obtain ⟨⟨q1, q2⟩, q3, q4⟩ := hq
    refine ⟨⟨q1, ?_, q2, hp.2.1.2.2⟩, q3, fun q z1 z2 => q4 q z1 (fun z => z2 (hA q z))⟩
    rw [h2]
    exact hp.2.1.1.kept (FrameEnd.size hF) (fun q z1 z2 => q4 q z2 z1.2)
/-- a contract of a method with an exception table, over any state -/
def MCW {S ρ : Type} (w : Wd) (Rl : S → Heap → Prop) (cs : S → Nat × Nat) (y : MethodName) (cc : ByteArray) (nL : Nat) (ret : Option FieldType) (hh : List (Nat × Nat × Nat × Nat)) (fr lo : Nat) (vo : ρ → Option Value) (av : List Value) (P : S → Option (ρ × S)) : Prop :=
  (∀ σ r σ', P σ = some (r, σ') → (cs σ).1 ≤ (cs σ').1 ∧ (cs σ).2 ≤ (cs σ').2) ∧
  ∀ (σ : S) (r : ρ) (σ' : S), P σ = some (r, σ') → Met w.2.2.2.2.1 y (.codeWith y cc nL ret hh :: TB) { frames := fr, cells := (cs σ').1 - (cs σ).1, slots := (cs σ').2 - (cs σ).2, locals := lo } (va_Pc av (fun U => Rl σ U.heap ∧ GK w U)) (Qo Rl w.2.2.2.1 vo r σ') ((cs σ').1 - (cs σ).1) ((cs σ').2 - (cs σ).2) w.2.2.2.1
theorem MCW.lift {w : Wd} {y : MethodName} {cc : ByteArray} {nL : Nat} {hh : List (Nat × Nat × Nat × Nat)} {fr lo : Nat} {av : List Value} {P : Hp → Option (Int32 × Hp)} (M : MHW (wC w) y cc nL hh fr lo av P) : MCW w (Rl w) lcs y cc nL (some .int) hh fr lo voI av (lC P) := by
  refine ⟨fun σ r σ' h => M.1 _ _ _ (lC_some h).1, fun σ r σ' h => ?_⟩
  obtain ⟨h1, h2⟩ := lC_some h
  exact Met.conseq (M.2 _ _ _ h1) (fun a s hp => ⟨hp.1, hp.2.1.1, hp.2.2⟩) (fun a s o t L hp hq _ => QC.lift hp.2.1 h2 hq) (fun q z => z.1)
theorem s_callSW {S ρ α : Type} {g : Gm S ρ} {cc : ByteArray} {nL pc : Nat} {own : String} {lv : List (Nat × Value)} {st : List Value} {fr lo : Nat} {vo' : α → Option Value} {y : MethodName} {cb : ByteArray} {n2 : Nat} {ret2 : Option FieldType} {hh : List (Nat × Nat × Nat × Nat)} {fr2 lo2 idx : Nat} {As : List Value} {Pk : S → Option (α × S)} {f : α → S → Option (ρ × S)}
    (X : Cx g cc nL own) (Y : Fx g fr lo) (M : MCW g.1 g.2.2.2.2.2.2.2.2.2.2.1 g.2.2.2.2.2.2.2.2.2.2.2.1 y cb n2 ret2 hh fr2 lo2 vo' As Pk)
    (hcode : Cond.codeWith y cb n2 ret2 hh ∈ TB) (hlink : Cond.methodLink own idx y ∈ TB) (hst : Cond.static y ∈ TB) (hini : Cond.initialized y.cls ∈ TB)
    (hd : y.cls ≠ "java/lang/invoke/MethodHandle" ∧ y.cls ≠ "java/lang/invoke/VarHandle" ∧ (parseMethodDescriptor y.desc).map (fun d => d.parameters.length) = some As.length)
    (hR : fr2 + 1 ≤ fr ∧ 8 + (n2 + 11) + lo2 ≤ lo) (hc : (st.map fun v => v.category).sum ≤ 8) (d : decode cc pc = .ok (.invokestatic idx, 3))
    (k : ∀ r, Sm g nL (pc + 3) lv ((vo' r).toList ++ st) (f r)) : Sm g nL pc lv (As.reverse ++ st) (bd Pk f) := by
  obtain ⟨w, p, e, R, s, m, args, below, meth, c, Rl, cs, b, Qf⟩ := g
  obtain ⟨hx, hb, hml, hown, hts, hlocks, hG, hw⟩ := X
  obtain ⟨rfl, rfl⟩ := Y
  refine ⟨fun σ r σ' hP => ?_, fun σ r σ' H locs ls hP hRl hS hl b1 b2 b3 b4 => ?_⟩
  · obtain ⟨x, σ1, h1, h2⟩ := bd_some hP
    have m1 := M.1 σ x σ1 h1
    have m2 := (k x).1 σ1 r σ' h2
    exact ⟨Nat.le_trans m1.1 m2.1, Nat.le_trans m1.2 m2.2⟩
  · obtain ⟨x, σ1, h1, h2⟩ := bd_some hP
    have m1 : (cs σ).1 ≤ (cs σ1).1 ∧ (cs σ).2 ≤ (cs σ1).2 := M.1 σ x σ1 h1
    have m2 : (cs σ1).1 ≤ (cs σ').1 ∧ (cs σ1).2 ≤ (cs σ').2 := (k x).1 σ1 r σ' h2
    refine Sm.back (ca := As.toArray) k h2 m1 hS hl b1 b2 b3 b4 ?_
    have hgood : GoodIn TB (.codeWith y cb n2 ret2 hh :: TB) := fun w hw => by
      rcases List.mem_cons.mp hw with rfl | hw
      · exact TB_good _ hcode
      · exact TB_good _ hw
    refine vx_runSW (hh := hh) (bytes := cb) (maxL := n2) (ret := ret2) (n := As.length) (As := As) (rest := st) (Ts := TB) (own := own) ⟨hx, hb, hml, hown, hts⟩ (M.2 σ x σ1 h1) ⟨⟨rfl, rfl, hR.1, hR.2, pay_in hts hgood, List.mem_cons_self⟩, hts _ hcode, hts _ hini, ⟨hd.1, hd.2.1⟩, fun sig h => ?_, hts _ hlink, hts _ hst⟩ ⟨fun a U g mk q => ⟨q.1, q.2.1, q.2.2.calling hw g mk a⟩, fun U hU hW => ⟨rfl, by rw [hU]; exact hRl, hG.moved hw hW (by rw [hU]; exact hS)⟩⟩ rfl rfl hl.1 rfl (lv_room hc) d ⟨?_, ?_⟩
    · have h3 := hd.2.2
      rw [h] at h3
      exact (Option.some.inj h3).symm
    · show (cs σ).1 - b.1 + ((cs σ1).1 - (cs σ).1) ≤ R.cells
      omega
    · show (cs σ).2 - b.2 + ((cs σ1).2 - (cs σ).2) ≤ R.slots
      omega
/-! ===== the bundle of the law's body ===== -/
def Bw (g : Gm Lz Unit) (b L : Nat) (xs : Nat → Int32) : Prop :=
  Cx g code 8 RL ∧ Fx g 2048 84000 ∧ g.2.2.2.2.2.2.2.2.2.2.1 = Rl g.1 ∧ g.2.2.2.2.2.2.2.2.2.2.2.1 = lcs ∧
  (Wc (wC g.1) ∧ Wz (wC g.1) ∧ Wn (wC g.1)) ∧ (Wok (wR g.1) ∧ ∀ q, inM g.1 q → g.1.2.2.2.1 q) ∧
  (va_X b L xs g.2.2.2.2.1 g.2.2.2.2.1.heap ∧ b < g.2.2.2.2.1.heap.size ∧ (∀ q, g.1.2.2.2.1 q → g.2.2.2.2.1.heap.size ≤ q)) ∧
  match g with
  | (w, p, e, R, s, m, args, below, meth, c, Rl, cs, b0, Qf) => R = room_1 ∧ args = #[Value.ref b] ∧ meth.sig.returnType = ret ∧ Qf = fun _ _ => lw_Z below #[Value.ref b] s
def sLD {S ρ : Type} (L : Nat) (xs : Nat → Int32) (i : Int32) (f : Int32 → S → Option (ρ × S)) : S → Option (ρ × S) := gd (inr i L) (f (xs i.toNatClampNeg))
section LAWR
variable {g : Gm Lz Unit} {pc b L : Nat} {xs : Nat → Int32} {lv : List (Nat × Value)} {st stk : List Value}
theorem l_sld (B : Bw g b L xs) {i : Int32} (d : decode code pc = .ok (.iaload, 1)) {f : Int32 → Lz → Option (Unit × Lz)} (k : ∀ v, Sm g 8 (pc + 1) lv (.int v :: st) (f v)) : Sm g 8 pc lv (.int i :: .ref b :: st) (sLD L xs i f) := by
  refine Sm.guard fun hq => ?_
  obtain ⟨w, p, e, R, s, m, args, below, meth, c, Rl', cs, b0, Qf⟩ := g
  obtain ⟨⟨hx, hb, hml, hown, hts, hlocks, hG, hw⟩, -, -, -, -, -, ⟨hX, hbl, hA⟩, -⟩ := B
  exact ⟨(k _).1, fun σ r σ' H locs ls hP hR hS hl b1 b2 b3 b4 => va_sld hx hb hX hbl (fun z => absurd hbl (Nat.not_lt.mpr (hA b z))) hS (inr_vp hq) d ((k _).2 σ r σ' H locs ls hP hR hS hl b1 b2 b3 b4)⟩
theorem l_slen (B : Bw g b L xs) (d : decode code pc = .ok (.arraylength, 1)) {P : Lz → Option (Unit × Lz)} (k : Sm g 8 (pc + 1) lv (.int (Int32.ofNat L) :: st) P) : Sm g 8 pc lv (.ref b :: st) P := by
  obtain ⟨w, p, e, R, s, m, args, below, meth, c, Rl', cs, b0, Qf⟩ := g
  obtain ⟨⟨hx, hb, hml, hown, hts, hlocks, hG, hw⟩, -, -, -, -, -, ⟨hX, hbl, hA⟩, -⟩ := B
  exact ⟨k.1, fun σ r σ' H locs ls hP hR hS hl b1 b2 b3 b4 => va_slen hx hb hX hbl (fun z => absurd hbl (Nat.not_lt.mpr (hA b z))) hS d (k.2 σ r σ' H locs ls hP hR hS hl b1 b2 b3 b4)⟩
theorem l_end (B : Bw g b L xs) {v : Int32} (d : decode code pc = .ok (.ireturn, 1)) : Sm g 8 pc lv [.int v] (gd (v = 1) (rt ())) := by
  refine Sm.guard fun hv => ?_
  subst hv
  obtain ⟨w, p, e, R, s, m, args, below, meth, c, Rl', cs, b0, Qf⟩ := g
  obtain ⟨⟨hx, hb, hml, hown, hts, hlocks, hG, hw⟩, -, -, -, -, -, ⟨hX, hbl, hA⟩, rfl, rfl, hr, rfl⟩ := B
  refine ⟨fun σ r σ' h => by cases h; exact ⟨Nat.le_refl _, Nat.le_refl _⟩, fun σ r σ' H locs ls hP hR hS hl b1 b2 b3 b4 => ?_⟩
  cases hP
  refine va_forget (fun q hq => hA _ (hS.2.2 q hq)) (W.widen (k := 601024) (n := 7293034) ?_ ?_ (lw_ret hx hb hr hlocks d))
  · have z : (cs σ).1 ≤ b0.1 + 601024 := b3
    omega
  · have z : (cs σ).2 ≤ b0.2 + 7293034 := b4
    omega
/-- a wrapper's call -/
theorem l_cw {y : MethodName} {cb : ByteArray} {n2 : Nat} {hh : List (Nat × Nat × Nat × Nat)} {fr2 lo2 idx : Nat} {As : List Value} {Pk : Hp → Option (Int32 × Hp)} {f : Int32 → Lz → Option (Unit × Lz)}
    (B : Bw g b L xs) (M : MHW (wC g.1) y cb n2 hh fr2 lo2 As Pk) (hcode : Cond.codeWith y cb n2 (some .int) hh ∈ TB) (hlink : Cond.methodLink RL idx y ∈ TB) (hst : Cond.static y ∈ TB) (hini : Cond.initialized y.cls ∈ TB)
    (hd : y.cls ≠ "java/lang/invoke/MethodHandle" ∧ y.cls ≠ "java/lang/invoke/VarHandle" ∧ (parseMethodDescriptor y.desc).map (fun d => d.parameters.length) = some As.length)
    (hR : fr2 + 1 ≤ 2048 ∧ 8 + (n2 + 11) + lo2 ≤ 84000) (hs : stk = As.reverse ++ st) (hc : (st.map fun v => v.category).sum ≤ 8) (d : decode code pc = .ok (.invokestatic idx, 3))
    (k : ∀ r : Int32, Sm g 8 (pc + 3) lv (.int r :: st) (f r)) : Sm g 8 pc lv stk (bd (lC Pk) f) := by
  subst hs
  exact s_callSW (vo' := voI) B.1 B.2.1 (by rw [B.2.2.1, B.2.2.2.1]; exact MCW.lift M) hcode hlink hst hini hd hR hc d k
/-- a method of the class, of the object a -/
def lCv {ρ α : Type} (c : Nat) (r : Option Nat) (P : Nat → Hp → Option (α × Hp)) (f : α → Lz → Option (ρ × Lz)) : Lz → Option (ρ × Lz) := fun σ => match r with
  | some a => if hkd σ.1 a = c + 1 then bd (lC (P a)) f σ else none
  | none => none
theorem l_cv {C : String} {T : u_T} {N : Nat} (c : Nat) (hcl : vwCl[c]? = some (C, T, N)) (hc1 : c < 100) {r0 : Option Nat} {y : MethodName} {cb : ByteArray} {n2 : Nat} {ret2 : Option FieldType} {fr2 lo2 idx : Nat} {As : List Value} {Pk : Nat → Hp → Option (Int32 × Hp)} {f : Int32 → Lz → Option (Unit × Lz)}
    (B : Bw g b L xs) (M : ∀ a, MH (wC g.1) y cb n2 ret2 fr2 lo2 voI (va_rf (some a) :: As) (Pk a))
    (hcode : Cond.code y cb n2 ret2 ∈ TB) (hlink : Cond.methodLink RL idx y ∈ TB) (hin : Cond.instanceMethod y ∈ TB) (hsel : Cond.selects C y y ∈ TB) (hini : Cond.initialized y.cls ∈ TB)
    (hd : y.cls ≠ "java/lang/invoke/MethodHandle" ∧ y.cls ≠ "java/lang/invoke/VarHandle" ∧ (parseMethodDescriptor y.desc).map (fun d => d.parameters.length) = some As.length)
    (hR : fr2 + 1 ≤ 2048 ∧ 8 + (n2 + 11) + lo2 ≤ 84000) (hs : stk = As.reverse ++ va_rf r0 :: st) (hc : (st.map fun v => v.category).sum ≤ 8) (d : decode code pc = .ok (.invokevirtual idx, 3))
    (k : ∀ r : Int32, Sm g 8 (pc + 3) lv (.int r :: st) (f r)) : Sm g 8 pc lv stk (lCv c r0 Pk f) := by
  subst hs
  cases r0 with
  | none => exact Sm.fail
  | some a =>
    refine s_callV0 (fun σ => hkd σ.1 a = c + 1) (C := C) (bo := a) (Pk := lC (Pk a)) (f := f) (vo' := voI) B.1 B.2.1 (by rw [B.2.2.1, B.2.2.2.1]; exact MC.liftC (M a)) (fun σ H hk hR => ?_) (fun σ r σ' h => ?_) hcode hlink hin hsel hini hd hR hc d k
    · rw [B.2.2.1] at hR
      obtain ⟨r', e1, hO⟩ := (hR.1.2.2.2 a).1 c hc1 hk
      have e2 : r' = (C, T, N) := Option.some.inj (e1.symm.trans hcl)
      subst e2
      obtain ⟨cell, q1, q2, q3, -⟩ := hO
      refine ⟨cell, q1, by rw [q3]; rfl, ?_⟩
      rw [q2]
      obtain ⟨w, p, e, R, s, m, args, below, meth, cd, Rl', cs, b0, Qf⟩ := g
      obtain ⟨⟨hx, hb, hml, hown, hts, hlocks, hG, hw⟩, -⟩ := B
      exact (hG.1.1 c _ hcl).2.1
    · unfold lCv at h
      dsimp only at h
      by_cases hq : hkd σ.1 a = c + 1
      · rw [if_pos hq] at h; exact ⟨hq, h⟩
      · rw [if_neg hq] at h; cases h
/-- a method of the model -/
theorem l_cm {α : Type} {vo' : α → Option Value} {y : MethodName} {cb : ByteArray} {n2 : Nat} {ret2 : Option FieldType} {fr2 lo2 idx : Nat} {As : List Value} {Pk : RS → Option (α × RS)} {f : α → Lz → Option (Unit × Lz)}
    (B : Bw g b L xs) (M : MR (wR g.1) y cb n2 ret2 fr2 lo2 vo' (.ref g.1.2.2.2.2.2 :: As) Pk)
    (hcode : Cond.code y cb n2 ret2 ∈ TB) (hlink : Cond.methodLink RL idx y ∈ TB) (hin : Cond.instanceMethod y ∈ TB) (hsel : Cond.selects RX12 y y ∈ TB) (hini : Cond.initialized y.cls ∈ TB)
    (hd : y.cls ≠ "java/lang/invoke/MethodHandle" ∧ y.cls ≠ "java/lang/invoke/VarHandle" ∧ (parseMethodDescriptor y.desc).map (fun d => d.parameters.length) = some As.length)
    (hR : fr2 + 1 ≤ 2048 ∧ 8 + (n2 + 11) + lo2 ≤ 84000) (hs : stk = As.reverse ++ .ref g.1.2.2.2.2.2 :: st) (hc : (st.map fun v => v.category).sum ≤ 8) (d : decode code pc = .ok (.invokevirtual idx, 3))
    (k : ∀ r, Sm g 8 (pc + 3) lv ((vo' r).toList ++ st) (f r)) : Sm g 8 pc lv stk (bd (lM Pk) f) := by
  subst hs
  refine s_callV0 (fun _ => True) (C := RX12) (bo := g.1.2.2.2.2.2) (Pk := lM Pk) (f := f) (vo' := vo') B.1 B.2.1 (by rw [B.2.2.1, B.2.2.2.1]; exact MC.liftM B.2.2.2.2.2.1.2 M) (fun σ H hk hR => ?_) (fun σ r σ' h => ⟨trivial, h⟩) hcode hlink hin hsel hini hd hR hc d k
  rw [B.2.2.1] at hR
  obtain ⟨cell, q1, q2, q3, -⟩ := hR.2.1.1
  refine ⟨cell, q1, by rw [q3]; rfl, ?_⟩
  rw [q2]
  obtain ⟨w, p, e, R, s, m, args, below, meth, cd, Rl', cs, b0, Qf⟩ := g
  obtain ⟨⟨hx, hb, hml, hown, hts, hlocks, hG, hw⟩, -⟩ := B
  exact (hG.1.1 14 _ rfl).2.1
theorem l_cmi {y : MethodName} {cb : ByteArray} {n2 : Nat} {ret2 : Option FieldType} {fr2 lo2 idx : Nat} {As : List Value} {Pk : RS → Option (Int32 × RS)} {f : Int32 → Lz → Option (Unit × Lz)}
    (B : Bw g b L xs) (M : MR (wR g.1) y cb n2 ret2 fr2 lo2 voI (.ref g.1.2.2.2.2.2 :: As) Pk)
    (hcode : Cond.code y cb n2 ret2 ∈ TB) (hlink : Cond.methodLink RL idx y ∈ TB) (hin : Cond.instanceMethod y ∈ TB) (hsel : Cond.selects RX12 y y ∈ TB) (hini : Cond.initialized y.cls ∈ TB)
    (hd : y.cls ≠ "java/lang/invoke/MethodHandle" ∧ y.cls ≠ "java/lang/invoke/VarHandle" ∧ (parseMethodDescriptor y.desc).map (fun d => d.parameters.length) = some As.length)
    (hR : fr2 + 1 ≤ 2048 ∧ 8 + (n2 + 11) + lo2 ≤ 84000) (hs : stk = As.reverse ++ .ref g.1.2.2.2.2.2 :: st) (hc : (st.map fun v => v.category).sum ≤ 8) (d : decode code pc = .ok (.invokevirtual idx, 3))
    (k : ∀ r, Sm g 8 (pc + 3) lv (.int r :: st) (f r)) : Sm g 8 pc lv stk (bd (lM Pk) f) := by
  exact l_cm (vo' := voI) B M hcode hlink hin hsel hini hd hR hs hc d k
theorem l_cml {y : MethodName} {cb : ByteArray} {n2 : Nat} {ret2 : Option FieldType} {fr2 lo2 idx : Nat} {As : List Value} {Pk : RS → Option (Int64 × RS)} {f : Int64 → Lz → Option (Unit × Lz)}
    (B : Bw g b L xs) (M : MR (wR g.1) y cb n2 ret2 fr2 lo2 voL (.ref g.1.2.2.2.2.2 :: As) Pk)
    (hcode : Cond.code y cb n2 ret2 ∈ TB) (hlink : Cond.methodLink RL idx y ∈ TB) (hin : Cond.instanceMethod y ∈ TB) (hsel : Cond.selects RX12 y y ∈ TB) (hini : Cond.initialized y.cls ∈ TB)
    (hd : y.cls ≠ "java/lang/invoke/MethodHandle" ∧ y.cls ≠ "java/lang/invoke/VarHandle" ∧ (parseMethodDescriptor y.desc).map (fun d => d.parameters.length) = some As.length)
    (hR : fr2 + 1 ≤ 2048 ∧ 8 + (n2 + 11) + lo2 ≤ 84000) (hs : stk = As.reverse ++ .ref g.1.2.2.2.2.2 :: st) (hc : (st.map fun v => v.category).sum ≤ 8) (d : decode code pc = .ok (.invokevirtual idx, 3))
    (k : ∀ r, Sm g 8 (pc + 3) lv (.long r :: st) (f r)) : Sm g 8 pc lv stk (bd (lM Pk) f) := by
  exact l_cm (vo' := voL) B M hcode hlink hin hsel hini hd hR hs hc d k
theorem l_cmv {y : MethodName} {cb : ByteArray} {n2 : Nat} {ret2 : Option FieldType} {fr2 lo2 idx : Nat} {As : List Value} {Pk : RS → Option (Unit × RS)} {f : Unit → Lz → Option (Unit × Lz)}
    (B : Bw g b L xs) (M : MR (wR g.1) y cb n2 ret2 fr2 lo2 voV (.ref g.1.2.2.2.2.2 :: As) Pk)
    (hcode : Cond.code y cb n2 ret2 ∈ TB) (hlink : Cond.methodLink RL idx y ∈ TB) (hin : Cond.instanceMethod y ∈ TB) (hsel : Cond.selects RX12 y y ∈ TB) (hini : Cond.initialized y.cls ∈ TB)
    (hd : y.cls ≠ "java/lang/invoke/MethodHandle" ∧ y.cls ≠ "java/lang/invoke/VarHandle" ∧ (parseMethodDescriptor y.desc).map (fun d => d.parameters.length) = some As.length)
    (hR : fr2 + 1 ≤ 2048 ∧ 8 + (n2 + 11) + lo2 ≤ 84000) (hs : stk = As.reverse ++ .ref g.1.2.2.2.2.2 :: st) (hc : (st.map fun v => v.category).sum ≤ 8) (d : decode code pc = .ok (.invokevirtual idx, 3))
    (k : ∀ r, Sm g 8 (pc + 3) lv (st) (f r)) : Sm g 8 pc lv stk (bd (lM Pk) f) := by
  exact l_cm (vo' := voV) B M hcode hlink hin hsel hini hd hR hs hc d k
/-- the law's own long[] -/
def lAl {ρ : Type} (r : Option Nat) (i : Int32) (f : Int64 → Lz → Option (ρ × Lz)) : Lz → Option (ρ × Lz) := fun σ => match r with
  | some a => if hkd σ.1 a = 104 ∧ inr i (hln σ.1 a) then f (hal σ.1 a i.toNatClampNeg) σ else none
  | none => none
theorem l_Al (B : Bw g b L xs) {r0 : Option Nat} {i : Int32} (d : decode code pc = .ok (.laload, 1)) {f : Int64 → Lz → Option (Unit × Lz)} (k : ∀ v, Sm g 8 (pc + 1) lv (.long v :: st) (f v)) : Sm g 8 pc lv (.int i :: va_rf r0 :: st) (lAl r0 i f) := by
  obtain ⟨w, p, e, R, s, m, args, below, meth, cd, Rl', cs, b0, Qf⟩ := g
  obtain ⟨⟨hx, hb, hml, hown, hts, hlocks, hG, hw⟩, -, eR, eC, -⟩ := B
  have eR : Rl' = Rl w := eR
  have eC : cs = lcs := eC
  subst eR; subst eC
  cases r0 with
  | none => exact Sm.fail
  | some a =>
    refine ⟨fun σ r σ' hP => ?_, fun σ r σ' H locs ls hP hR hS hl b1 b2 b3 b4 => ?_⟩
    · unfold lAl at hP
      dsimp only at hP
      by_cases hq : hkd σ.1 a = 104 ∧ inr i (hln σ.1 a)
      · rw [if_pos hq] at hP; exact (k _).1 σ r σ' hP
      · rw [if_neg hq] at hP; cases hP
    · unfold lAl at hP
      dsimp only at hP
      by_cases hq : hkd σ.1 a = 104 ∧ inr i (hln σ.1 a)
      · rw [if_pos hq] at hP
        have hc := (hR.1.2.2.2 a).2 3 hq.1
        rw [show aV (wC w) σ.1 a 3 = arrV (w.2.1 3) (hln σ.1 a) (fun j => .long (hal σ.1 a j)) by simp [aV, wC, wAt]] at hc
        exact W.lald (v := .long (hal σ.1 a i.toNatClampNeg)) hx hb hc (arT hG 3 rfl (hln σ.1 a) (fun j => .long (hal σ.1 a j))) (fun q => by cases q) (by rw [arrV_size]; exact inr_vp hq.2) (by rw [arrV_read _ _ hq.2.2]) rfl rfl d ((k _).2 σ r σ' H locs ls hP hR hS hl b1 b2 b3 b4)
      · rw [if_neg hq] at hP; cases hP
end LAWR
