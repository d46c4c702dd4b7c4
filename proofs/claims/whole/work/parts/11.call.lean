/-! ===== calls of methods that have a contract MC ===== -/
theorem code_good {y : MethodName} {cb : ByteArray} {n2 : Nat} {ret2 : Option FieldType} (h : Cond.code y cb n2 ret2 ∈ TB) : GoodIn TB (.code y cb n2 ret2 :: TB) := fun w hw => by
  rcases List.mem_cons.mp hw with rfl | hw
  · exact TB_good _ h
  · exact TB_good _ hw
/-- behind a call: what came back, goes on -/
theorem Sm.back {S ρ α : Type} {w : Wd} {p : Program} {e : Env} {R : Room} {s : State} {m : MethodId} {args : Array Value} {below : List Frame} {meth : Method} {c : Code} {Rl : S → Heap → Prop} {cs : S → Nat × Nat} {b : Nat × Nat} {Qf : ρ → S → State → Prop} {nL pc : Nat} {lv : List (Nat × Value)} {st0 rest : List Value} {vo' : α → Option Value} {f : α → S → Option (ρ × S)} {ca : Array Value}
    (k : ∀ r, Sm (w, p, e, R, s, m, args, below, meth, c, Rl, cs, b, Qf) nL (pc + 3) lv ((vo' r).toList ++ rest) (f r)) {σ σ1 σ' : S} {x : α} {r : ρ} {H : Heap} {locs : List Loc} {ls : Array Slot}
    (h2 : f x σ1 = some (r, σ')) (hm : (cs σ).1 ≤ (cs σ1).1 ∧ (cs σ).2 ≤ (cs σ1).2) (hS : va_S w.2.2.2.1 s.heap H locs) (hl : lv_has ls nL lv) (b1 : b.1 ≤ (cs σ).1) (b2 : b.2 ≤ (cs σ).2) (b3 : (cs σ').1 ≤ b.1 + R.cells) (b4 : (cs σ').2 ≤ b.2 + R.slots)
    (hr : va_Run p w.2.2.2.2.1 e R s m args below meth c H locs ((cs σ).1 - b.1) ((cs σ).2 - b.2) ((cs σ1).1 - (cs σ).1) ((cs σ1).2 - (cs σ).2) (F0 m pc ls st0) rest (Qo Rl w.2.2.2.1 vo' x σ1 ca) w.2.2.2.1) :
    W p w.2.2.2.2.1 e R s m args below meth c H locs ((cs σ).1 - b.1) ((cs σ).2 - b.2) (Qf r σ') (F0 m pc ls st0) := by
  intro T hT X
  obtain ⟨v, st₀, t, T', L, h0, X', hL, e1, e2, ⟨⟨hv, hRl⟩, hz, hk⟩, stp⟩ := hr T hT X
  cases hv
  rw [h0] at hz hk
  have hmono := (k x).1 σ1 r σ' h2
  have q1 : (cs σ).1 - b.1 + ((cs σ1).1 - (cs σ).1) = (cs σ1).1 - b.1 := by omega
  have q2 : (cs σ).2 - b.2 + ((cs σ1).2 - (cs σ).2) = (cs σ1).2 - b.2 := by omega
  rw [q1, q2] at X'
  have hS1 : va_S w.2.2.2.1 s.heap T'.heap (locs ++ L) := ⟨Nat.le_trans hS.1 (by rw [e1]; exact hz), fun q z1 z2 => by rw [e1, hk q (Nat.lt_of_lt_of_le z1 hS.1) z2]; exact hS.2.1 q z1 z2, fun q hq => by
    rcases List.mem_append.mp hq with z | z
    · exact hS.2.2 q z
    · exact hL q z⟩
  obtain ⟨t2, a1, b1'⟩ := (k x).2 σ1 r σ' T'.heap (locs ++ L) ls h2 (by rw [e1]; exact hRl) hS1 hl (by omega) (by omega) b3 b4 T' rfl X'
  exact ⟨t2, stp t2 a1, b1'⟩
section CL
variable {S ρ α : Type} {g : Gm S ρ} {cc : ByteArray} {nL pc : Nat} {own : String} {lv : List (Nat × Value)} {st : List Value} {vo : ρ → Option Value} {ret : Option FieldType} {fr lo : Nat} {vo' : α → Option Value} {y : MethodName} {cb : ByteArray} {n2 : Nat} {ret2 : Option FieldType} {fr2 lo2 idx : Nat} {As : List Value} {Pc P : S → Option (ρ × S)} {Pk : S → Option (α × S)} {f : α → S → Option (ρ × S)}
theorem s_callS (X : Cx g cc nL own) (Y : Fx g fr lo) (M : MC g.1 g.2.2.2.2.2.2.2.2.2.2.1 g.2.2.2.2.2.2.2.2.2.2.2.1 y cb n2 ret2 fr2 lo2 vo' As Pk)
    (hcode : Cond.code y cb n2 ret2 ∈ TB) (hlink : Cond.methodLink own idx y ∈ TB) (hst : Cond.static y ∈ TB) (hini : Cond.initialized y.cls ∈ TB)
    (hd : y.cls ≠ "java/lang/invoke/MethodHandle" ∧ y.cls ≠ "java/lang/invoke/VarHandle" ∧ (parseMethodDescriptor y.desc).map (fun d => d.parameters.length) = some As.length)
    (hR : fr2 + 1 ≤ fr ∧ 8 + (n2 + 11) + lo2 ≤ lo) (hc : (st.map fun v => v.category).sum ≤ 8) (d : decode cc pc = .ok (.invokestatic idx, 3))
    (k : ∀ r, Sm g nL (pc + 3) lv ((vo' r).toList ++ st) (f r)) : Sm g nL pc lv (As.reverse ++ st) (bd Pk f) := by
  obtain ⟨w, p, e, R, s, m, args, below, meth, c, Rl, cs, b, Qf⟩ := g
  obtain ⟨hx, hb, hml, hown, hts, hlocks, hG, hw⟩ := X
  obtain ⟨rfl, rfl⟩ := Y
  refine ⟨fun σ r σ' hP => ?_, fun σ r σ' H locs ls hP hRl hS hl b1 b2 b3 b4 => ?_⟩
  · obtain ⟨x, σ1, h1, h2⟩ := bd_some hP
    have m1 := M.1 σ x σ1 h1
    have m2 := (k x).1 σ1 r σ' h2
    exact ⟨Nat.le_trans m1.1 m2.1, Nat.le_trans m1.2 m2.2⟩
  · obtain ⟨x, σ1, h1, h2⟩ := bd_some hP
    have m1 : (cs σ).1 ≤ (cs σ1).1 ∧ (cs σ).2 ≤ (cs σ1).2 := M.1 σ x σ1 h1
    have m2 : (cs σ1).1 ≤ (cs σ').1 ∧ (cs σ1).2 ≤ (cs σ').2 := (k x).1 σ1 r σ' h2
    refine Sm.back (ca := As.toArray) k h2 m1 hS hl b1 b2 b3 b4 ?_
    refine va_runS (As := As) (rest := st) (Ts := TB) (own := own) ⟨hx, hb, hml, hown, hts⟩ (M.2 σ x σ1 h1) ⟨callB_of As.length hts (code_good hcode) rfl rfl rfl (hts _ hini) (hts _ hlink) hd hR, hts _ hst⟩ ⟨fun a U g mk q => ⟨q.1, q.2.1, q.2.2.calling hw g mk a⟩, fun U hU hW => ⟨rfl, by rw [hU]; exact hRl, hG.moved hw hW (by rw [hU]; exact hS)⟩⟩ rfl rfl hl.1 rfl (lv_room hc) d ⟨?_, ?_⟩
    · show (cs σ).1 - b.1 + ((cs σ1).1 - (cs σ).1) ≤ R.cells
      omega
    · show (cs σ).2 - b.2 + ((cs σ1).2 - (cs σ).2) ≤ R.slots
      omega
theorem s_callV0 (Pg : S → Prop) {C : String} {bo : Nat} (X : Cx g cc nL own) (Y : Fx g fr lo) (M : MC g.1 g.2.2.2.2.2.2.2.2.2.2.1 g.2.2.2.2.2.2.2.2.2.2.2.1 y cb n2 ret2 fr2 lo2 vo' (.ref bo :: As) Pk)
    (hrec : ∀ σ H, Pg σ → g.2.2.2.2.2.2.2.2.2.2.1 σ H → ∃ cell : Cell, H[bo]? = some cell ∧ cell.vm.isStatics = false ∧ g.2.2.2.2.1.vm.findClass C = some cell.cls)
    (hp : ∀ σ r σ', P σ = some (r, σ') → Pg σ ∧ bd Pk f σ = some (r, σ'))
    (hcode : Cond.code y cb n2 ret2 ∈ TB) (hlink : Cond.methodLink own idx y ∈ TB) (hin : Cond.instanceMethod y ∈ TB) (hsel : Cond.selects C y y ∈ TB) (hini : Cond.initialized y.cls ∈ TB)
    (hd : y.cls ≠ "java/lang/invoke/MethodHandle" ∧ y.cls ≠ "java/lang/invoke/VarHandle" ∧ (parseMethodDescriptor y.desc).map (fun d => d.parameters.length) = some As.length)
    (hR : fr2 + 1 ≤ fr ∧ 8 + (n2 + 11) + lo2 ≤ lo) (hc : (st.map fun v => v.category).sum ≤ 8) (d : decode cc pc = .ok (.invokevirtual idx, 3))
    (k : ∀ r, Sm g nL (pc + 3) lv ((vo' r).toList ++ st) (f r)) : Sm g nL pc lv (As.reverse ++ .ref bo :: st) P := by
  obtain ⟨w, p, e, R, s, m, args, below, meth, c, Rl, cs, b, Qf⟩ := g
  obtain ⟨hx, hb, hml, hown, hts, hlocks, hG, hw⟩ := X
  obtain ⟨rfl, rfl⟩ := Y
  refine ⟨fun σ r σ' hP => ?_, fun σ r σ' H locs ls hP hRl hS hl b1 b2 b3 b4 => ?_⟩
  · obtain ⟨x, σ1, h1, h2⟩ := bd_some (hp σ r σ' hP).2
    have m1 := M.1 σ x σ1 h1
    have m2 := (k x).1 σ1 r σ' h2
    exact ⟨Nat.le_trans m1.1 m2.1, Nat.le_trans m1.2 m2.2⟩
  · obtain ⟨x, σ1, h1, h2⟩ := bd_some (hp σ r σ' hP).2
    have m1 : (cs σ).1 ≤ (cs σ1).1 ∧ (cs σ).2 ≤ (cs σ1).2 := M.1 σ x σ1 h1
    have m2 : (cs σ1).1 ≤ (cs σ').1 ∧ (cs σ1).2 ≤ (cs σ').2 := (k x).1 σ1 r σ' h2
    refine Sm.back (ca := (Value.ref bo :: As).toArray) k h2 m1 hS hl b1 b2 b3 b4 ?_
    refine va_runV (C := C) (As := As) (rest := st) (Ts := TB) (own := own) ⟨hx, hb, hml, hown, hts⟩ (M.2 σ x σ1 h1) ⟨callB_of As.length hts (code_good hcode) rfl rfl rfl (hts _ hini) (hts _ hlink) hd hR, hts _ hin, hts _ hsel⟩ ⟨fun a U g mk q => ⟨q.1, q.2.1, q.2.2.calling hw g mk a⟩, hrec σ H (hp σ r σ' hP).1 hRl, fun U hU hW => ⟨rfl, by rw [hU]; exact hRl, hG.moved hw hW (by rw [hU]; exact hS)⟩⟩ rfl rfl hl.1 rfl (lv_room hc) d ⟨?_, ?_⟩
    · show (cs σ).1 - b.1 + ((cs σ1).1 - (cs σ).1) ≤ R.cells
      omega
    · show (cs σ).2 - b.2 + ((cs σ1).2 - (cs σ).2) ≤ R.slots
      omega
end CL
