abbrev voI : Int32 → Option Value := fun r => some (.int r)
abbrev voL : Int64 → Option Value := fun r => some (.long r)
abbrev voV : Unit → Option Value := fun _ => none
def fu : Nat := 5000
section MTH
variable {S ρ : Type} {g : Gm S ρ} {cc : ByteArray} {nL pc : Nat} {own : String} {lv : List (Nat × Value)} {st : List Value} {vo : ρ → Option Value} {ret : Option FieldType} {fr lo idx : Nat} {P : S → Option (ρ × S)}
def imin (x y : Int32) : Int32 := if y < x then y else x
def imax (x y : Int32) : Int32 := if x < y then y else x
def lmin (x y : Int64) : Int64 := if y < x then y else x
def lmax (x y : Int64) : Int64 := if y < x then x else y
theorem tm_mmin : Cond.code Lib.Math.min.name Lib.Math.min.code 2 (some .int) ∈ TB := TB_t (List.mem_of_getElem? (i := 479) (by decide +kernel)) (by decide +kernel)
theorem s_mmin (X : Cx g cc nL own) (Y : Fx g fr lo) (hlink : Cond.methodLink own idx Lib.Math.min.name ∈ TB) (h1 : 1 ≤ fr) (h2 : (st.map fun v => v.category).sum + 13 ≤ lo) {x y : Int32} (d : decode cc pc = .ok (.invokestatic idx, 3)) (k : Sm g nL (pc + 3) lv (.int (imin x y) :: st) P) : Sm g nL pc lv (.int y :: .int x :: st) P := by
  obtain ⟨w, p, e, R, s, m, args, below, meth, c, Rl, cs, b, Qf⟩ := g
  obtain ⟨hx, hb, hml, hown, hts, hlocks, hG, hw⟩ := X
  obtain ⟨rfl, rfl⟩ := Y
  refine ⟨k.1, fun σ r σ' H locs ls hP hR hS hl b1 b2 b3 b4 => ?_⟩
  have hm : (cs σ).1 ≤ (cs σ').1 ∧ (cs σ).2 ≤ (cs σ').2 := k.1 σ r σ' hP
  exact va_mmin hx hb (by rw [hml, hl.1]) hown (hts _ hlink) (hts _ (show Cond.static Lib.Math.min.name ∈ TB from tw_478)) (hts _ tw_17) (hts _ tm_mmin) h1 h2 (by omega) (by omega) d (k.2 σ r σ' H locs ls hP hR hS hl b1 b2 b3 b4)
theorem tm_mmax : Cond.code Lib.Math.max.name Lib.Math.max.code 2 (some .int) ∈ TB := TB_t (List.mem_of_getElem? (i := 569) (by decide +kernel)) (by decide +kernel)
theorem s_mmax (X : Cx g cc nL own) (Y : Fx g fr lo) (hlink : Cond.methodLink own idx Lib.Math.max.name ∈ TB) (h1 : 1 ≤ fr) (h2 : (st.map fun v => v.category).sum + 13 ≤ lo) {x y : Int32} (d : decode cc pc = .ok (.invokestatic idx, 3)) (k : Sm g nL (pc + 3) lv (.int (imax x y) :: st) P) : Sm g nL pc lv (.int y :: .int x :: st) P := by
  obtain ⟨w, p, e, R, s, m, args, below, meth, c, Rl, cs, b, Qf⟩ := g
  obtain ⟨hx, hb, hml, hown, hts, hlocks, hG, hw⟩ := X
  obtain ⟨rfl, rfl⟩ := Y
  refine ⟨k.1, fun σ r σ' H locs ls hP hR hS hl b1 b2 b3 b4 => ?_⟩
  have hm : (cs σ).1 ≤ (cs σ').1 ∧ (cs σ).2 ≤ (cs σ').2 := k.1 σ r σ' hP
  exact va_mmax hx hb (by rw [hml, hl.1]) hown (hts _ hlink) (hts _ (show Cond.static Lib.Math.max.name ∈ TB from tw_568)) (hts _ tw_17) (hts _ tm_mmax) h1 h2 (by omega) (by omega) d (k.2 σ r σ' H locs ls hP hR hS hl b1 b2 b3 b4)
theorem tm_mminl : Cond.code Lib.MathLoose.min_long.x Lib.MathLoose.min_long.code 4 (some .long) ∈ TB := TB_t (List.mem_of_getElem? (i := 1474) (by decide +kernel)) (by decide +kernel)
theorem s_mminl (X : Cx g cc nL own) (Y : Fx g fr lo) (hlink : Cond.methodLink own idx Lib.MathLoose.min_long.x ∈ TB) (h1 : 1 ≤ fr) (h2 : (st.map fun v => v.category).sum + 15 ≤ lo) {x y : Int64} (d : decode cc pc = .ok (.invokestatic idx, 3)) (k : Sm g nL (pc + 3) lv (.long (lmin x y) :: st) P) : Sm g nL pc lv (.long y :: .long x :: st) P := by
  obtain ⟨w, p, e, R, s, m, args, below, meth, c, Rl, cs, b, Qf⟩ := g
  obtain ⟨hx, hb, hml, hown, hts, hlocks, hG, hw⟩ := X
  obtain ⟨rfl, rfl⟩ := Y
  refine ⟨k.1, fun σ r σ' H locs ls hP hR hS hl b1 b2 b3 b4 => ?_⟩
  have hm : (cs σ).1 ≤ (cs σ').1 ∧ (cs σ).2 ≤ (cs σ').2 := k.1 σ r σ' hP
  exact va_mmin_long hx hb (by rw [hml, hl.1]) hown (hts _ hlink) (hts _ (show Cond.static Lib.MathLoose.min_long.x ∈ TB from tw_1473)) (hts _ tw_17) (hts _ tm_mminl) h1 h2 (by omega) (by omega) d (k.2 σ r σ' H locs ls hP hR hS hl b1 b2 b3 b4)
theorem tm_mmaxl : Cond.code Lib.MathLoose.max_long.x Lib.MathLoose.max_long.code 4 (some .long) ∈ TB := TB_t (List.mem_of_getElem? (i := 1487) (by decide +kernel)) (by decide +kernel)
theorem s_mmaxl (X : Cx g cc nL own) (Y : Fx g fr lo) (hlink : Cond.methodLink own idx Lib.MathLoose.max_long.x ∈ TB) (h1 : 1 ≤ fr) (h2 : (st.map fun v => v.category).sum + 15 ≤ lo) {x y : Int64} (d : decode cc pc = .ok (.invokestatic idx, 3)) (k : Sm g nL (pc + 3) lv (.long (lmax x y) :: st) P) : Sm g nL pc lv (.long y :: .long x :: st) P := by
  obtain ⟨w, p, e, R, s, m, args, below, meth, c, Rl, cs, b, Qf⟩ := g
  obtain ⟨hx, hb, hml, hown, hts, hlocks, hG, hw⟩ := X
  obtain ⟨rfl, rfl⟩ := Y
  refine ⟨k.1, fun σ r σ' H locs ls hP hR hS hl b1 b2 b3 b4 => ?_⟩
  have hm : (cs σ).1 ≤ (cs σ').1 ∧ (cs σ).2 ≤ (cs σ').2 := k.1 σ r σ' hP
  exact va_mmax_long hx hb (by rw [hml, hl.1]) hown (hts _ hlink) (hts _ (show Cond.static Lib.MathLoose.max_long.x ∈ TB from tw_1486)) (hts _ tw_17) (hts _ tm_mmaxl) h1 h2 (by omega) (by omega) d (k.2 σ r σ' H locs ls hP hR hS hl b1 b2 b3 b4)
end MTH
theorem Br.ok {ρ : Type} {g : Gm RS ρ} {cc : ByteArray} {nL : Nat} {vo : ρ → Option Value} {ret : Option FieldType} {fr lo : Nat} (B : Br g cc nL vo ret fr lo) : Wok g.1 := by
  obtain ⟨w, p, e, R, s, m, args, below, meth, c, Rl, cs, b, Qf⟩ := g
  exact B.1.2.2.2.2.2.2.2
section RCK
variable {ρ : Type} {g : Gm RS ρ} {cc : ByteArray} {nL pc : Nat} {lv : List (Nat × Value)} {st stk : List Value} {vo : ρ → Option Value} {ret : Option FieldType} {fr lo : Nat} {y : MethodName} {cb : ByteArray} {n2 : Nat} {ret2 : Option FieldType} {fr2 lo2 idx : Nat} {As : List Value}
theorem rr_cvi {Pk : RS → Option (Int32 × RS)} {f : Int32 → RS → Option (ρ × RS)} (B : Br g cc nL vo ret fr lo) (M : MR g.1 y cb n2 ret2 fr2 lo2 voI (.ref g.1.2.2.2.2.2 :: As) Pk)
    (hcode : Cond.code y cb n2 ret2 ∈ TB) (hlink : Cond.methodLink RX12 idx y ∈ TB) (hin : Cond.instanceMethod y ∈ TB) (hsel : Cond.selects RX12 y y ∈ TB) (hini : Cond.initialized y.cls ∈ TB)
    (hd : y.cls ≠ "java/lang/invoke/MethodHandle" ∧ y.cls ≠ "java/lang/invoke/VarHandle" ∧ (parseMethodDescriptor y.desc).map (fun d => d.parameters.length) = some As.length)
    (hR : fr2 + 1 ≤ fr ∧ 8 + (n2 + 11) + lo2 ≤ lo) (hs : stk = As.reverse ++ .ref g.1.2.2.2.2.2 :: st) (hc : (st.map fun v => v.category).sum ≤ 8) (d : decode cc pc = .ok (.invokevirtual idx, 3))
    (k : ∀ r : Int32, Sm g nL (pc + 3) lv (.int r :: st) (f r)) : Sm g nL pc lv stk (bd Pk f) := by
  subst hs
  exact rr_callV B M hcode hlink hin hsel hini hd hR hc d k
theorem rr_csi {Pk : RS → Option (Int32 × RS)} {f : Int32 → RS → Option (ρ × RS)} (B : Br g cc nL vo ret fr lo) (M : MR g.1 y cb n2 ret2 fr2 lo2 voI As Pk)
    (hcode : Cond.code y cb n2 ret2 ∈ TB) (hlink : Cond.methodLink RX12 idx y ∈ TB) (hst : Cond.static y ∈ TB) (hini : Cond.initialized y.cls ∈ TB)
    (hd : y.cls ≠ "java/lang/invoke/MethodHandle" ∧ y.cls ≠ "java/lang/invoke/VarHandle" ∧ (parseMethodDescriptor y.desc).map (fun d => d.parameters.length) = some As.length)
    (hR : fr2 + 1 ≤ fr ∧ 8 + (n2 + 11) + lo2 ≤ lo) (hs : stk = As.reverse ++ st) (hc : (st.map fun v => v.category).sum ≤ 8) (d : decode cc pc = .ok (.invokestatic idx, 3))
    (k : ∀ r : Int32, Sm g nL (pc + 3) lv (.int r :: st) (f r)) : Sm g nL pc lv stk (bd Pk f) := by
  subst hs
  exact rr_callS B M hcode hlink hst hini hd hR hc d k
theorem rr_cvl {Pk : RS → Option (Int64 × RS)} {f : Int64 → RS → Option (ρ × RS)} (B : Br g cc nL vo ret fr lo) (M : MR g.1 y cb n2 ret2 fr2 lo2 voL (.ref g.1.2.2.2.2.2 :: As) Pk)
    (hcode : Cond.code y cb n2 ret2 ∈ TB) (hlink : Cond.methodLink RX12 idx y ∈ TB) (hin : Cond.instanceMethod y ∈ TB) (hsel : Cond.selects RX12 y y ∈ TB) (hini : Cond.initialized y.cls ∈ TB)
    (hd : y.cls ≠ "java/lang/invoke/MethodHandle" ∧ y.cls ≠ "java/lang/invoke/VarHandle" ∧ (parseMethodDescriptor y.desc).map (fun d => d.parameters.length) = some As.length)
    (hR : fr2 + 1 ≤ fr ∧ 8 + (n2 + 11) + lo2 ≤ lo) (hs : stk = As.reverse ++ .ref g.1.2.2.2.2.2 :: st) (hc : (st.map fun v => v.category).sum ≤ 8) (d : decode cc pc = .ok (.invokevirtual idx, 3))
    (k : ∀ r : Int64, Sm g nL (pc + 3) lv (.long r :: st) (f r)) : Sm g nL pc lv stk (bd Pk f) := by
  subst hs
  exact rr_callV B M hcode hlink hin hsel hini hd hR hc d k
theorem rr_csl {Pk : RS → Option (Int64 × RS)} {f : Int64 → RS → Option (ρ × RS)} (B : Br g cc nL vo ret fr lo) (M : MR g.1 y cb n2 ret2 fr2 lo2 voL As Pk)
    (hcode : Cond.code y cb n2 ret2 ∈ TB) (hlink : Cond.methodLink RX12 idx y ∈ TB) (hst : Cond.static y ∈ TB) (hini : Cond.initialized y.cls ∈ TB)
    (hd : y.cls ≠ "java/lang/invoke/MethodHandle" ∧ y.cls ≠ "java/lang/invoke/VarHandle" ∧ (parseMethodDescriptor y.desc).map (fun d => d.parameters.length) = some As.length)
    (hR : fr2 + 1 ≤ fr ∧ 8 + (n2 + 11) + lo2 ≤ lo) (hs : stk = As.reverse ++ st) (hc : (st.map fun v => v.category).sum ≤ 8) (d : decode cc pc = .ok (.invokestatic idx, 3))
    (k : ∀ r : Int64, Sm g nL (pc + 3) lv (.long r :: st) (f r)) : Sm g nL pc lv stk (bd Pk f) := by
  subst hs
  exact rr_callS B M hcode hlink hst hini hd hR hc d k
theorem rr_cvv {Pk : RS → Option (Unit × RS)} {f : Unit → RS → Option (ρ × RS)} (B : Br g cc nL vo ret fr lo) (M : MR g.1 y cb n2 ret2 fr2 lo2 voV (.ref g.1.2.2.2.2.2 :: As) Pk)
    (hcode : Cond.code y cb n2 ret2 ∈ TB) (hlink : Cond.methodLink RX12 idx y ∈ TB) (hin : Cond.instanceMethod y ∈ TB) (hsel : Cond.selects RX12 y y ∈ TB) (hini : Cond.initialized y.cls ∈ TB)
    (hd : y.cls ≠ "java/lang/invoke/MethodHandle" ∧ y.cls ≠ "java/lang/invoke/VarHandle" ∧ (parseMethodDescriptor y.desc).map (fun d => d.parameters.length) = some As.length)
    (hR : fr2 + 1 ≤ fr ∧ 8 + (n2 + 11) + lo2 ≤ lo) (hs : stk = As.reverse ++ .ref g.1.2.2.2.2.2 :: st) (hc : (st.map fun v => v.category).sum ≤ 8) (d : decode cc pc = .ok (.invokevirtual idx, 3))
    (k : ∀ r : Unit, Sm g nL (pc + 3) lv (st) (f r)) : Sm g nL pc lv stk (bd Pk f) := by
  subst hs
  exact rr_callV B M hcode hlink hin hsel hini hd hR hc d k
theorem rr_csv {Pk : RS → Option (Unit × RS)} {f : Unit → RS → Option (ρ × RS)} (B : Br g cc nL vo ret fr lo) (M : MR g.1 y cb n2 ret2 fr2 lo2 voV As Pk)
    (hcode : Cond.code y cb n2 ret2 ∈ TB) (hlink : Cond.methodLink RX12 idx y ∈ TB) (hst : Cond.static y ∈ TB) (hini : Cond.initialized y.cls ∈ TB)
    (hd : y.cls ≠ "java/lang/invoke/MethodHandle" ∧ y.cls ≠ "java/lang/invoke/VarHandle" ∧ (parseMethodDescriptor y.desc).map (fun d => d.parameters.length) = some As.length)
    (hR : fr2 + 1 ≤ fr ∧ 8 + (n2 + 11) + lo2 ≤ lo) (hs : stk = As.reverse ++ st) (hc : (st.map fun v => v.category).sum ≤ 8) (d : decode cc pc = .ok (.invokestatic idx, 3))
    (k : ∀ r : Unit, Sm g nL (pc + 3) lv (st) (f r)) : Sm g nL pc lv stk (bd Pk f) := by
  subst hs
  exact rr_callS B M hcode hlink hst hini hd hR hc d k
end RCK
section SWT
variable {S ρ : Type} {g : Gm S ρ} {cc : ByteArray} {nL pc : Nat} {own : String} {lv : List (Nat × Value)} {st : List Value} {P P1 P2 : S → Option (ρ × S)}
theorem s_sw1 (X : Cx g cc nL own) {dflt lo hi : Int} {offs : Array Int} {len : Nat} {x : Int32} {off : Int} (v : Int32) (tgt : Nat) (d : decode cc pc = .ok (.tableswitch dflt lo hi offs, len)) (h1 : ¬ v.toInt < lo) (h2 : ¬ hi < v.toInt) (ho : offs[(v.toInt - lo).toNat]? = some off) (ht : (pc : Int) + off = (tgt : Int))
    (k1 : Sm g nL tgt lv st P1) (k2 : ¬ x = v → Sm g nL pc lv (.int x :: st) P2) : Sm g nL pc lv (.int x :: st) (if x = v then P1 else P2) := by
  by_cases hq : x = v
  · subst hq
    rw [if_pos rfl]
    exact Sm.stp X (fun _ _ _ _ _ _ _ _ _ _ _ _ _ _ _ ls hx hb hown hts hl k => lv_tableIn hx hb d h1 h2 ho ht (k ls hl)) k1
  · rw [if_neg hq]
    exact k2 hq
theorem s_swD (X : Cx g cc nL own) {dflt lo hi : Int} {offs : Array Int} {len : Nat} {x : Int32} (tgt : Nat) (d : decode cc pc = .ok (.tableswitch dflt lo hi offs, len)) (h : x.toInt < lo ∨ hi < x.toInt) (ht : (pc : Int) + dflt = (tgt : Int)) (k : Sm g nL tgt lv st P) : Sm g nL pc lv (.int x :: st) P :=
  Sm.stp X (fun _ _ _ _ _ _ _ _ _ _ _ _ _ _ _ ls hx hb hown hts hl k => lv_tableOut hx hb d h ht (k ls hl)) k
theorem sw_ne {x v : Int32} {n : Int} (h : ¬ x = v) (hv : v.toInt = n) : ¬ x.toInt = n := fun q => h (Int32.toInt_inj.mp (q.trans hv.symm))
/-- a name for a value -/
def lq {S α β : Type} (v : α) (f : α → S → Option β) : S → Option β := f v
theorem s_lqi {v : Int32} {f : Int32 → S → Option (ρ × S)} (k : ∀ x, Sm g nL pc lv (.int x :: st) (f x)) : Sm g nL pc lv (.int v :: st) (lq v f) := k v
theorem s_lql {v : Int64} {f : Int64 → S → Option (ρ × S)} (k : ∀ x, Sm g nL pc lv (.long x :: st) (f x)) : Sm g nL pc lv (.long v :: st) (lq v f) := k v
end SWT
theorem mf_0 : Cond.fieldLink RX12 1 (TX12 0).1 (TX12 0).2.1 (TX12 0).2.2.1 ∈ TB := tw_1570
theorem mh_0 : 0 < 99 := by decide
theorem mk_0 : mK 0 = 0 := rfl
theorem mf_1 : Cond.fieldLink RX12 13 (TX12 1).1 (TX12 1).2.1 (TX12 1).2.2.1 ∈ TB := tw_1571
theorem mh_1 : 1 < 99 := by decide
theorem mk_1 : mK 1 = 3 := rfl
theorem mn_1 : mK 1 ≠ 0 := by decide
theorem mf_2 : Cond.fieldLink RX12 17 (TX12 2).1 (TX12 2).2.1 (TX12 2).2.2.1 ∈ TB := tw_1572
theorem mh_2 : 2 < 99 := by decide
theorem mk_2 : mK 2 = 3 := rfl
theorem mn_2 : mK 2 ≠ 0 := by decide
theorem mf_3 : Cond.fieldLink RX12 20 (TX12 3).1 (TX12 3).2.1 (TX12 3).2.2.1 ∈ TB := tw_1573
theorem mh_3 : 3 < 99 := by decide
theorem mk_3 : mK 3 = 1 := rfl
theorem mn_3 : mK 3 ≠ 0 := by decide
theorem mf_4 : Cond.fieldLink RX12 24 (TX12 4).1 (TX12 4).2.1 (TX12 4).2.2.1 ∈ TB := tw_1574
theorem mh_4 : 4 < 99 := by decide
theorem mk_4 : mK 4 = 2 := rfl
theorem mn_4 : mK 4 ≠ 0 := by decide
theorem mf_5 : Cond.fieldLink RX12 28 (TX12 5).1 (TX12 5).2.1 (TX12 5).2.2.1 ∈ TB := tw_1575
theorem mh_5 : 5 < 99 := by decide
theorem mk_5 : mK 5 = 1 := rfl
theorem mn_5 : mK 5 ≠ 0 := by decide
theorem mf_6 : Cond.fieldLink RX12 31 (TX12 6).1 (TX12 6).2.1 (TX12 6).2.2.1 ∈ TB := tw_1576
theorem mh_6 : 6 < 99 := by decide
theorem mk_6 : mK 6 = 2 := rfl
theorem mn_6 : mK 6 ≠ 0 := by decide
theorem mf_7 : Cond.fieldLink RX12 34 (TX12 7).1 (TX12 7).2.1 (TX12 7).2.2.1 ∈ TB := tw_1577
theorem mh_7 : 7 < 99 := by decide
theorem mk_7 : mK 7 = 1 := rfl
theorem mn_7 : mK 7 ≠ 0 := by decide
theorem mf_8 : Cond.fieldLink RX12 37 (TX12 8).1 (TX12 8).2.1 (TX12 8).2.2.1 ∈ TB := tw_1578
theorem mh_8 : 8 < 99 := by decide
theorem mk_8 : mK 8 = 1 := rfl
theorem mn_8 : mK 8 ≠ 0 := by decide
theorem mf_9 : Cond.fieldLink RX12 40 (TX12 9).1 (TX12 9).2.1 (TX12 9).2.2.1 ∈ TB := tw_1579
theorem mh_9 : 9 < 99 := by decide
theorem mk_9 : mK 9 = 1 := rfl
theorem mn_9 : mK 9 ≠ 0 := by decide
theorem mf_10 : Cond.fieldLink RX12 43 (TX12 10).1 (TX12 10).2.1 (TX12 10).2.2.1 ∈ TB := tw_1580
theorem mh_10 : 10 < 99 := by decide
theorem mk_10 : mK 10 = 2 := rfl
theorem mn_10 : mK 10 ≠ 0 := by decide
theorem mf_11 : Cond.fieldLink RX12 46 (TX12 11).1 (TX12 11).2.1 (TX12 11).2.2.1 ∈ TB := tw_1581
theorem mh_11 : 11 < 99 := by decide
theorem mk_11 : mK 11 = 3 := rfl
theorem mn_11 : mK 11 ≠ 0 := by decide
theorem mf_12 : Cond.fieldLink RX12 49 (TX12 12).1 (TX12 12).2.1 (TX12 12).2.2.1 ∈ TB := tw_1582
theorem mh_12 : 12 < 99 := by decide
theorem mk_12 : mK 12 = 1 := rfl
theorem mn_12 : mK 12 ≠ 0 := by decide
theorem mf_13 : Cond.fieldLink RX12 52 (TX12 13).1 (TX12 13).2.1 (TX12 13).2.2.1 ∈ TB := tw_1583
theorem mh_13 : 13 < 99 := by decide
theorem mk_13 : mK 13 = 1 := rfl
theorem mn_13 : mK 13 ≠ 0 := by decide
theorem mf_14 : Cond.fieldLink RX12 55 (TX12 14).1 (TX12 14).2.1 (TX12 14).2.2.1 ∈ TB := tw_1584
theorem mh_14 : 14 < 99 := by decide
theorem mk_14 : mK 14 = 2 := rfl
theorem mn_14 : mK 14 ≠ 0 := by decide
theorem mf_15 : Cond.fieldLink RX12 58 (TX12 15).1 (TX12 15).2.1 (TX12 15).2.2.1 ∈ TB := tw_1585
theorem mh_15 : 15 < 99 := by decide
theorem mk_15 : mK 15 = 1 := rfl
theorem mn_15 : mK 15 ≠ 0 := by decide
theorem mf_16 : Cond.fieldLink RX12 61 (TX12 16).1 (TX12 16).2.1 (TX12 16).2.2.1 ∈ TB := tw_1586
theorem mh_16 : 16 < 99 := by decide
theorem mk_16 : mK 16 = 4 := rfl
theorem mn_16 : mK 16 ≠ 0 := by decide
theorem mf_17 : Cond.fieldLink RX12 65 (TX12 17).1 (TX12 17).2.1 (TX12 17).2.2.1 ∈ TB := tw_1587
theorem mh_17 : 17 < 99 := by decide
theorem mk_17 : mK 17 = 1 := rfl
theorem mn_17 : mK 17 ≠ 0 := by decide
theorem mf_18 : Cond.fieldLink RX12 68 (TX12 18).1 (TX12 18).2.1 (TX12 18).2.2.1 ∈ TB := tw_1588
theorem mh_18 : 18 < 99 := by decide
theorem mk_18 : mK 18 = 4 := rfl
theorem mn_18 : mK 18 ≠ 0 := by decide
theorem mf_19 : Cond.fieldLink RX12 71 (TX12 19).1 (TX12 19).2.1 (TX12 19).2.2.1 ∈ TB := tw_1589
theorem mh_19 : 19 < 99 := by decide
theorem mk_19 : mK 19 = 1 := rfl
theorem mn_19 : mK 19 ≠ 0 := by decide
theorem mf_20 : Cond.fieldLink RX12 74 (TX12 20).1 (TX12 20).2.1 (TX12 20).2.2.1 ∈ TB := tw_1590
theorem mh_20 : 20 < 99 := by decide
theorem mk_20 : mK 20 = 1 := rfl
theorem mn_20 : mK 20 ≠ 0 := by decide
theorem mf_21 : Cond.fieldLink RX12 77 (TX12 21).1 (TX12 21).2.1 (TX12 21).2.2.1 ∈ TB := tw_1591
theorem mh_21 : 21 < 99 := by decide
theorem mk_21 : mK 21 = 4 := rfl
theorem mn_21 : mK 21 ≠ 0 := by decide
theorem mf_22 : Cond.fieldLink RX12 80 (TX12 22).1 (TX12 22).2.1 (TX12 22).2.2.1 ∈ TB := tw_1592
theorem mh_22 : 22 < 99 := by decide
theorem mk_22 : mK 22 = 4 := rfl
theorem mn_22 : mK 22 ≠ 0 := by decide
theorem mf_23 : Cond.fieldLink RX12 83 (TX12 23).1 (TX12 23).2.1 (TX12 23).2.2.1 ∈ TB := tw_1593
theorem mh_23 : 23 < 99 := by decide
theorem mk_23 : mK 23 = 4 := rfl
theorem mn_23 : mK 23 ≠ 0 := by decide
theorem mf_24 : Cond.fieldLink RX12 86 (TX12 24).1 (TX12 24).2.1 (TX12 24).2.2.1 ∈ TB := tw_1594
theorem mh_24 : 24 < 99 := by decide
theorem mk_24 : mK 24 = 1 := rfl
theorem mn_24 : mK 24 ≠ 0 := by decide
theorem mf_25 : Cond.fieldLink RX12 89 (TX12 25).1 (TX12 25).2.1 (TX12 25).2.2.1 ∈ TB := tw_1595
theorem mh_25 : 25 < 99 := by decide
theorem mk_25 : mK 25 = 1 := rfl
theorem mn_25 : mK 25 ≠ 0 := by decide
theorem mf_26 : Cond.fieldLink RX12 92 (TX12 26).1 (TX12 26).2.1 (TX12 26).2.2.1 ∈ TB := tw_1596
theorem mh_26 : 26 < 99 := by decide
theorem mk_26 : mK 26 = 2 := rfl
theorem mn_26 : mK 26 ≠ 0 := by decide
theorem mf_27 : Cond.fieldLink RX12 95 (TX12 27).1 (TX12 27).2.1 (TX12 27).2.2.1 ∈ TB := tw_1597
theorem mh_27 : 27 < 99 := by decide
theorem mk_27 : mK 27 = 1 := rfl
theorem mn_27 : mK 27 ≠ 0 := by decide
theorem mf_28 : Cond.fieldLink RX12 98 (TX12 28).1 (TX12 28).2.1 (TX12 28).2.2.1 ∈ TB := tw_1598
theorem mh_28 : 28 < 99 := by decide
theorem mk_28 : mK 28 = 1 := rfl
theorem mn_28 : mK 28 ≠ 0 := by decide
theorem mf_29 : Cond.fieldLink RX12 101 (TX12 29).1 (TX12 29).2.1 (TX12 29).2.2.1 ∈ TB := tw_1599
theorem mh_29 : 29 < 99 := by decide
theorem mk_29 : mK 29 = 1 := rfl
theorem mn_29 : mK 29 ≠ 0 := by decide
theorem mf_30 : Cond.fieldLink RX12 104 (TX12 30).1 (TX12 30).2.1 (TX12 30).2.2.1 ∈ TB := tw_1600
theorem mh_30 : 30 < 99 := by decide
theorem mk_30 : mK 30 = 1 := rfl
theorem mn_30 : mK 30 ≠ 0 := by decide
theorem mf_31 : Cond.fieldLink RX12 107 (TX12 31).1 (TX12 31).2.1 (TX12 31).2.2.1 ∈ TB := tw_1601
theorem mh_31 : 31 < 99 := by decide
theorem mk_31 : mK 31 = 1 := rfl
theorem mn_31 : mK 31 ≠ 0 := by decide
theorem mf_32 : Cond.fieldLink RX12 110 (TX12 32).1 (TX12 32).2.1 (TX12 32).2.2.1 ∈ TB := tw_1602
theorem mh_32 : 32 < 99 := by decide
theorem mk_32 : mK 32 = 1 := rfl
theorem mn_32 : mK 32 ≠ 0 := by decide
theorem mf_33 : Cond.fieldLink RX12 113 (TX12 33).1 (TX12 33).2.1 (TX12 33).2.2.1 ∈ TB := tw_1603
theorem mh_33 : 33 < 99 := by decide
theorem mk_33 : mK 33 = 1 := rfl
theorem mn_33 : mK 33 ≠ 0 := by decide
theorem mf_34 : Cond.fieldLink RX12 116 (TX12 34).1 (TX12 34).2.1 (TX12 34).2.2.1 ∈ TB := tw_1604
theorem mh_34 : 34 < 99 := by decide
theorem mk_34 : mK 34 = 1 := rfl
theorem mn_34 : mK 34 ≠ 0 := by decide
theorem mf_35 : Cond.fieldLink RX12 119 (TX12 35).1 (TX12 35).2.1 (TX12 35).2.2.1 ∈ TB := tw_1605
theorem mh_35 : 35 < 99 := by decide
theorem mk_35 : mK 35 = 1 := rfl
theorem mn_35 : mK 35 ≠ 0 := by decide
theorem mf_36 : Cond.fieldLink RX12 122 (TX12 36).1 (TX12 36).2.1 (TX12 36).2.2.1 ∈ TB := tw_1606
theorem mh_36 : 36 < 99 := by decide
theorem mk_36 : mK 36 = 1 := rfl
theorem mn_36 : mK 36 ≠ 0 := by decide
theorem mf_37 : Cond.fieldLink RX12 125 (TX12 37).1 (TX12 37).2.1 (TX12 37).2.2.1 ∈ TB := tw_1607
theorem mh_37 : 37 < 99 := by decide
theorem mk_37 : mK 37 = 3 := rfl
theorem mn_37 : mK 37 ≠ 0 := by decide
theorem mf_38 : Cond.fieldLink RX12 128 (TX12 38).1 (TX12 38).2.1 (TX12 38).2.2.1 ∈ TB := tw_1608
theorem mh_38 : 38 < 99 := by decide
theorem mk_38 : mK 38 = 1 := rfl
theorem mn_38 : mK 38 ≠ 0 := by decide
theorem mf_39 : Cond.fieldLink RX12 131 (TX12 39).1 (TX12 39).2.1 (TX12 39).2.2.1 ∈ TB := tw_1609
theorem mh_39 : 39 < 99 := by decide
theorem mk_39 : mK 39 = 1 := rfl
theorem mn_39 : mK 39 ≠ 0 := by decide
theorem mf_40 : Cond.fieldLink RX12 134 (TX12 40).1 (TX12 40).2.1 (TX12 40).2.2.1 ∈ TB := tw_1610
theorem mh_40 : 40 < 99 := by decide
theorem mk_40 : mK 40 = 1 := rfl
theorem mn_40 : mK 40 ≠ 0 := by decide
theorem mf_41 : Cond.fieldLink RX12 137 (TX12 41).1 (TX12 41).2.1 (TX12 41).2.2.1 ∈ TB := tw_1611
theorem mh_41 : 41 < 99 := by decide
theorem mk_41 : mK 41 = 1 := rfl
theorem mn_41 : mK 41 ≠ 0 := by decide
theorem mf_42 : Cond.fieldLink RX12 140 (TX12 42).1 (TX12 42).2.1 (TX12 42).2.2.1 ∈ TB := tw_1612
theorem mh_42 : 42 < 99 := by decide
theorem mk_42 : mK 42 = 1 := rfl
theorem mn_42 : mK 42 ≠ 0 := by decide
theorem mf_43 : Cond.fieldLink RX12 143 (TX12 43).1 (TX12 43).2.1 (TX12 43).2.2.1 ∈ TB := tw_1613
theorem mh_43 : 43 < 99 := by decide
theorem mk_43 : mK 43 = 1 := rfl
theorem mn_43 : mK 43 ≠ 0 := by decide
theorem mf_44 : Cond.fieldLink RX12 146 (TX12 44).1 (TX12 44).2.1 (TX12 44).2.2.1 ∈ TB := tw_1614
theorem mh_44 : 44 < 99 := by decide
theorem mk_44 : mK 44 = 1 := rfl
theorem mn_44 : mK 44 ≠ 0 := by decide
theorem mf_45 : Cond.fieldLink RX12 150 (TX12 45).1 (TX12 45).2.1 (TX12 45).2.2.1 ∈ TB := tw_1615
theorem mh_45 : 45 < 99 := by decide
theorem mk_45 : mK 45 = 2 := rfl
theorem mn_45 : mK 45 ≠ 0 := by decide
theorem mf_46 : Cond.fieldLink RX12 153 (TX12 46).1 (TX12 46).2.1 (TX12 46).2.2.1 ∈ TB := tw_1616
theorem mh_46 : 46 < 99 := by decide
theorem mk_46 : mK 46 = 1 := rfl
theorem mn_46 : mK 46 ≠ 0 := by decide
theorem mf_47 : Cond.fieldLink RX12 156 (TX12 47).1 (TX12 47).2.1 (TX12 47).2.2.1 ∈ TB := tw_1617
theorem mh_47 : 47 < 99 := by decide
theorem mk_47 : mK 47 = 1 := rfl
theorem mn_47 : mK 47 ≠ 0 := by decide
theorem mf_48 : Cond.fieldLink RX12 159 (TX12 48).1 (TX12 48).2.1 (TX12 48).2.2.1 ∈ TB := tw_1618
theorem mh_48 : 48 < 99 := by decide
theorem mk_48 : mK 48 = 1 := rfl
theorem mn_48 : mK 48 ≠ 0 := by decide
theorem mf_49 : Cond.fieldLink RX12 162 (TX12 49).1 (TX12 49).2.1 (TX12 49).2.2.1 ∈ TB := tw_1619
theorem mh_49 : 49 < 99 := by decide
theorem mk_49 : mK 49 = 1 := rfl
theorem mn_49 : mK 49 ≠ 0 := by decide
theorem mf_50 : Cond.fieldLink RX12 165 (TX12 50).1 (TX12 50).2.1 (TX12 50).2.2.1 ∈ TB := tw_1620
theorem mh_50 : 50 < 99 := by decide
theorem mk_50 : mK 50 = 4 := rfl
theorem mn_50 : mK 50 ≠ 0 := by decide
theorem mf_51 : Cond.fieldLink RX12 168 (TX12 51).1 (TX12 51).2.1 (TX12 51).2.2.1 ∈ TB := tw_1621
theorem mh_51 : 51 < 99 := by decide
theorem mk_51 : mK 51 = 1 := rfl
theorem mn_51 : mK 51 ≠ 0 := by decide
theorem mf_52 : Cond.fieldLink RX12 171 (TX12 52).1 (TX12 52).2.1 (TX12 52).2.2.1 ∈ TB := tw_1622
theorem mh_52 : 52 < 99 := by decide
theorem mk_52 : mK 52 = 1 := rfl
theorem mn_52 : mK 52 ≠ 0 := by decide
theorem mf_53 : Cond.fieldLink RX12 174 (TX12 53).1 (TX12 53).2.1 (TX12 53).2.2.1 ∈ TB := tw_1623
theorem mh_53 : 53 < 99 := by decide
theorem mk_53 : mK 53 = 1 := rfl
theorem mn_53 : mK 53 ≠ 0 := by decide
theorem mf_54 : Cond.fieldLink RX12 177 (TX12 54).1 (TX12 54).2.1 (TX12 54).2.2.1 ∈ TB := tw_1624
theorem mh_54 : 54 < 99 := by decide
theorem mk_54 : mK 54 = 1 := rfl
theorem mn_54 : mK 54 ≠ 0 := by decide
theorem mf_55 : Cond.fieldLink RX12 180 (TX12 55).1 (TX12 55).2.1 (TX12 55).2.2.1 ∈ TB := tw_1625
theorem mh_55 : 55 < 99 := by decide
theorem mk_55 : mK 55 = 1 := rfl
theorem mn_55 : mK 55 ≠ 0 := by decide
theorem mf_56 : Cond.fieldLink RX12 183 (TX12 56).1 (TX12 56).2.1 (TX12 56).2.2.1 ∈ TB := tw_1626
theorem mh_56 : 56 < 99 := by decide
theorem mk_56 : mK 56 = 1 := rfl
theorem mn_56 : mK 56 ≠ 0 := by decide
theorem mf_57 : Cond.fieldLink RX12 186 (TX12 57).1 (TX12 57).2.1 (TX12 57).2.2.1 ∈ TB := tw_1627
theorem mh_57 : 57 < 99 := by decide
theorem mk_57 : mK 57 = 1 := rfl
theorem mn_57 : mK 57 ≠ 0 := by decide
theorem mf_58 : Cond.fieldLink RX12 189 (TX12 58).1 (TX12 58).2.1 (TX12 58).2.2.1 ∈ TB := tw_1628
theorem mh_58 : 58 < 99 := by decide
theorem mk_58 : mK 58 = 1 := rfl
theorem mn_58 : mK 58 ≠ 0 := by decide
theorem mf_59 : Cond.fieldLink RX12 192 (TX12 59).1 (TX12 59).2.1 (TX12 59).2.2.1 ∈ TB := tw_1629
theorem mh_59 : 59 < 99 := by decide
theorem mk_59 : mK 59 = 1 := rfl
theorem mn_59 : mK 59 ≠ 0 := by decide
theorem mf_60 : Cond.fieldLink RX12 195 (TX12 60).1 (TX12 60).2.1 (TX12 60).2.2.1 ∈ TB := tw_1630
theorem mh_60 : 60 < 99 := by decide
theorem mk_60 : mK 60 = 1 := rfl
theorem mn_60 : mK 60 ≠ 0 := by decide
theorem mf_61 : Cond.fieldLink RX12 198 (TX12 61).1 (TX12 61).2.1 (TX12 61).2.2.1 ∈ TB := tw_1631
theorem mh_61 : 61 < 99 := by decide
theorem mk_61 : mK 61 = 1 := rfl
theorem mn_61 : mK 61 ≠ 0 := by decide
theorem mf_62 : Cond.fieldLink RX12 201 (TX12 62).1 (TX12 62).2.1 (TX12 62).2.2.1 ∈ TB := tw_1632
theorem mh_62 : 62 < 99 := by decide
theorem mk_62 : mK 62 = 1 := rfl
theorem mn_62 : mK 62 ≠ 0 := by decide
theorem mf_63 : Cond.fieldLink RX12 204 (TX12 63).1 (TX12 63).2.1 (TX12 63).2.2.1 ∈ TB := tw_1633
theorem mh_63 : 63 < 99 := by decide
theorem mk_63 : mK 63 = 3 := rfl
theorem mn_63 : mK 63 ≠ 0 := by decide
theorem mf_64 : Cond.fieldLink RX12 207 (TX12 64).1 (TX12 64).2.1 (TX12 64).2.2.1 ∈ TB := tw_1634
theorem mh_64 : 64 < 99 := by decide
theorem mk_64 : mK 64 = 1 := rfl
theorem mn_64 : mK 64 ≠ 0 := by decide
theorem mf_65 : Cond.fieldLink RX12 476 (TX12 65).1 (TX12 65).2.1 (TX12 65).2.2.1 ∈ TB := tw_1635
theorem mh_65 : 65 < 99 := by decide
theorem mk_65 : mK 65 = 0 := rfl
theorem mf_66 : Cond.fieldLink RX12 268 (TX12 66).1 (TX12 66).2.1 (TX12 66).2.2.1 ∈ TB := tw_1636
theorem mh_66 : 66 < 99 := by decide
theorem mk_66 : mK 66 = 0 := rfl
theorem mf_67 : Cond.fieldLink RX12 265 (TX12 67).1 (TX12 67).2.1 (TX12 67).2.2.1 ∈ TB := tw_1637
theorem mh_67 : 67 < 99 := by decide
theorem mk_67 : mK 67 = 0 := rfl
theorem mf_68 : Cond.fieldLink RX12 315 (TX12 68).1 (TX12 68).2.1 (TX12 68).2.2.1 ∈ TB := tw_1638
theorem mh_68 : 68 < 99 := by decide
theorem mk_68 : mK 68 = 0 := rfl
theorem mf_69 : Cond.fieldLink RX12 508 (TX12 69).1 (TX12 69).2.1 (TX12 69).2.2.1 ∈ TB := tw_1639
theorem mh_69 : 69 < 99 := by decide
theorem mk_69 : mK 69 = 0 := rfl
theorem mf_70 : Cond.fieldLink RX12 541 (TX12 70).1 (TX12 70).2.1 (TX12 70).2.2.1 ∈ TB := tw_1640
theorem mh_70 : 70 < 99 := by decide
theorem mk_70 : mK 70 = 0 := rfl
theorem mf_71 : Cond.fieldLink RX12 473 (TX12 71).1 (TX12 71).2.1 (TX12 71).2.2.1 ∈ TB := tw_1641
theorem mh_71 : 71 < 99 := by decide
theorem mk_71 : mK 71 = 0 := rfl
theorem mf_72 : Cond.fieldLink RX12 470 (TX12 72).1 (TX12 72).2.1 (TX12 72).2.2.1 ∈ TB := tw_1642
theorem mh_72 : 72 < 99 := by decide
theorem mk_72 : mK 72 = 0 := rfl
theorem mf_73 : Cond.fieldLink RX12 437 (TX12 73).1 (TX12 73).2.1 (TX12 73).2.2.1 ∈ TB := tw_1643
theorem mh_73 : 73 < 99 := by decide
theorem mk_73 : mK 73 = 0 := rfl
theorem mf_74 : Cond.fieldLink RX12 334 (TX12 74).1 (TX12 74).2.1 (TX12 74).2.2.1 ∈ TB := tw_1644
theorem mh_74 : 74 < 99 := by decide
theorem mk_74 : mK 74 = 0 := rfl
theorem mf_75 : Cond.fieldLink RX12 271 (TX12 75).1 (TX12 75).2.1 (TX12 75).2.2.1 ∈ TB := tw_1645
theorem mh_75 : 75 < 99 := by decide
theorem mk_75 : mK 75 = 0 := rfl
theorem mf_76 : Cond.fieldLink RX12 274 (TX12 76).1 (TX12 76).2.1 (TX12 76).2.2.1 ∈ TB := tw_1646
theorem mh_76 : 76 < 99 := by decide
theorem mk_76 : mK 76 = 0 := rfl
theorem mf_77 : Cond.fieldLink RX12 277 (TX12 77).1 (TX12 77).2.1 (TX12 77).2.2.1 ∈ TB := tw_1647
theorem mh_77 : 77 < 99 := by decide
theorem mk_77 : mK 77 = 0 := rfl
theorem mf_78 : Cond.fieldLink RX12 280 (TX12 78).1 (TX12 78).2.1 (TX12 78).2.2.1 ∈ TB := tw_1648
theorem mh_78 : 78 < 99 := by decide
theorem mk_78 : mK 78 = 0 := rfl
theorem mf_79 : Cond.fieldLink RX12 283 (TX12 79).1 (TX12 79).2.1 (TX12 79).2.2.1 ∈ TB := tw_1649
theorem mh_79 : 79 < 99 := by decide
theorem mk_79 : mK 79 = 0 := rfl
theorem mf_80 : Cond.fieldLink RX12 353 (TX12 80).1 (TX12 80).2.1 (TX12 80).2.2.1 ∈ TB := tw_1650
theorem mh_80 : 80 < 99 := by decide
theorem mk_80 : mK 80 = 0 := rfl
theorem mf_81 : Cond.fieldLink RX12 356 (TX12 81).1 (TX12 81).2.1 (TX12 81).2.2.1 ∈ TB := tw_1651
theorem mh_81 : 81 < 99 := by decide
theorem mk_81 : mK 81 = 0 := rfl
theorem mf_82 : Cond.fieldLink RX12 210 (TX12 82).1 (TX12 82).2.1 (TX12 82).2.2.1 ∈ TB := tw_1652
theorem mh_82 : 82 < 99 := by decide
theorem mk_82 : mK 82 = 3 := rfl
theorem mn_82 : mK 82 ≠ 0 := by decide
theorem mf_83 : Cond.fieldLink RX12 213 (TX12 83).1 (TX12 83).2.1 (TX12 83).2.2.1 ∈ TB := tw_1653
theorem mh_83 : 83 < 99 := by decide
theorem mk_83 : mK 83 = 4 := rfl
theorem mn_83 : mK 83 ≠ 0 := by decide
theorem mf_84 : Cond.fieldLink RX12 216 (TX12 84).1 (TX12 84).2.1 (TX12 84).2.2.1 ∈ TB := tw_1654
theorem mh_84 : 84 < 99 := by decide
theorem mk_84 : mK 84 = 1 := rfl
theorem mn_84 : mK 84 ≠ 0 := by decide
theorem mf_85 : Cond.fieldLink RX12 219 (TX12 85).1 (TX12 85).2.1 (TX12 85).2.2.1 ∈ TB := tw_1655
theorem mh_85 : 85 < 99 := by decide
theorem mk_85 : mK 85 = 1 := rfl
theorem mn_85 : mK 85 ≠ 0 := by decide
theorem mf_86 : Cond.fieldLink RX12 222 (TX12 86).1 (TX12 86).2.1 (TX12 86).2.2.1 ∈ TB := tw_1656
theorem mh_86 : 86 < 99 := by decide
theorem mk_86 : mK 86 = 2 := rfl
theorem mn_86 : mK 86 ≠ 0 := by decide
theorem mf_87 : Cond.fieldLink RX12 370 (TX12 87).1 (TX12 87).2.1 (TX12 87).2.2.1 ∈ TB := tw_1657
theorem mh_87 : 87 < 99 := by decide
theorem mk_87 : mK 87 = 0 := rfl
theorem mf_88 : Cond.fieldLink RX12 225 (TX12 88).1 (TX12 88).2.1 (TX12 88).2.2.1 ∈ TB := tw_1658
theorem mh_88 : 88 < 99 := by decide
theorem mk_88 : mK 88 = 2 := rfl
theorem mn_88 : mK 88 ≠ 0 := by decide
theorem mf_89 : Cond.fieldLink RX12 306 (TX12 89).1 (TX12 89).2.1 (TX12 89).2.2.1 ∈ TB := tw_1659
theorem mh_89 : 89 < 99 := by decide
theorem mk_89 : mK 89 = 0 := rfl
theorem mf_90 : Cond.fieldLink RX12 228 (TX12 90).1 (TX12 90).2.1 (TX12 90).2.2.1 ∈ TB := tw_1660
theorem mh_90 : 90 < 99 := by decide
theorem mk_90 : mK 90 = 2 := rfl
theorem mn_90 : mK 90 ≠ 0 := by decide
theorem mf_91 : Cond.fieldLink RX12 450 (TX12 91).1 (TX12 91).2.1 (TX12 91).2.2.1 ∈ TB := tw_1661
theorem mh_91 : 91 < 99 := by decide
theorem mk_91 : mK 91 = 0 := rfl
theorem mf_92 : Cond.fieldLink RX12 231 (TX12 92).1 (TX12 92).2.1 (TX12 92).2.2.1 ∈ TB := tw_1662
theorem mh_92 : 92 < 99 := by decide
theorem mk_92 : mK 92 = 1 := rfl
theorem mn_92 : mK 92 ≠ 0 := by decide
theorem mf_93 : Cond.fieldLink RX12 234 (TX12 93).1 (TX12 93).2.1 (TX12 93).2.2.1 ∈ TB := tw_1663
theorem mh_93 : 93 < 99 := by decide
theorem mk_93 : mK 93 = 1 := rfl
theorem mn_93 : mK 93 ≠ 0 := by decide
theorem mf_94 : Cond.fieldLink RX12 237 (TX12 94).1 (TX12 94).2.1 (TX12 94).2.2.1 ∈ TB := tw_1664
theorem mh_94 : 94 < 99 := by decide
theorem mk_94 : mK 94 = 1 := rfl
theorem mn_94 : mK 94 ≠ 0 := by decide
theorem mf_95 : Cond.fieldLink RX12 240 (TX12 95).1 (TX12 95).2.1 (TX12 95).2.2.1 ∈ TB := tw_1665
theorem mh_95 : 95 < 99 := by decide
theorem mk_95 : mK 95 = 1 := rfl
theorem mn_95 : mK 95 ≠ 0 := by decide
theorem mf_96 : Cond.fieldLink RX12 243 (TX12 96).1 (TX12 96).2.1 (TX12 96).2.2.1 ∈ TB := tw_1666
theorem mh_96 : 96 < 99 := by decide
theorem mk_96 : mK 96 = 3 := rfl
theorem mn_96 : mK 96 ≠ 0 := by decide
theorem mf_97 : Cond.fieldLink RX12 246 (TX12 97).1 (TX12 97).2.1 (TX12 97).2.2.1 ∈ TB := tw_1667
theorem mh_97 : 97 < 99 := by decide
theorem mk_97 : mK 97 = 2 := rfl
theorem mn_97 : mK 97 ≠ 0 := by decide
theorem mf_98 : Cond.fieldLink RX12 443 (TX12 98).1 (TX12 98).2.1 (TX12 98).2.2.1 ∈ TB := tw_1668
theorem mh_98 : 98 < 99 := by decide
theorem mk_98 : mK 98 = 0 := rfl
theorem mc_thrown : Cond.code yX12_thrown cX12_thrown 1 (some .int) ∈ TB := tw_1562
theorem mi_thrown : Cond.instanceMethod yX12_thrown ∈ TB := tw_1560
theorem me_thrown : Cond.selects RX12 yX12_thrown yX12_thrown ∈ TB := tw_1561
theorem md_thrown : yX12_thrown.cls ≠ "java/lang/invoke/MethodHandle" ∧ yX12_thrown.cls ≠ "java/lang/invoke/VarHandle" ∧ (parseMethodDescriptor yX12_thrown.desc).map (fun d => d.parameters.length) = some 0 := by decide +kernel
theorem mc_init : Cond.code yX12_init cX12_init 2 none ∈ TB := tw_1567
theorem mi_init : Cond.instanceMethod yX12_init ∈ TB := tw_1566
theorem md_init : yX12_init.cls ≠ "java/lang/invoke/MethodHandle" ∧ yX12_init.cls ≠ "java/lang/invoke/VarHandle" ∧ (parseMethodDescriptor yX12_init.desc).map (fun d => d.parameters.length) = some 0 := by decide +kernel
theorem mc_refuses : Cond.code yX12_refuses cX12_refuses 2 (some .boolean) ∈ TB := tw_1879
theorem mi_refuses : Cond.instanceMethod yX12_refuses ∈ TB := tw_1878
theorem me_refuses : Cond.selects RX12 yX12_refuses yX12_refuses ∈ TB := tp_40
theorem md_refuses : yX12_refuses.cls ≠ "java/lang/invoke/MethodHandle" ∧ yX12_refuses.cls ≠ "java/lang/invoke/VarHandle" ∧ (parseMethodDescriptor yX12_refuses.desc).map (fun d => d.parameters.length) = some 1 := by decide +kernel
theorem ml_refuses : Cond.methodLink RX12 253 yX12_refuses ∈ TB := tw_1876
theorem mc_isConnection : Cond.code yX12_isConnection cX12_isConnection 1 (some .boolean) ∈ TB := tw_1875
theorem ms_isConnection : Cond.static yX12_isConnection ∈ TB := tw_1874
theorem md_isConnection : yX12_isConnection.cls ≠ "java/lang/invoke/MethodHandle" ∧ yX12_isConnection.cls ≠ "java/lang/invoke/VarHandle" ∧ (parseMethodDescriptor yX12_isConnection.desc).map (fun d => d.parameters.length) = some 1 := by decide +kernel
theorem ml_isConnection : Cond.methodLink RX12 249 yX12_isConnection ∈ TB := tw_1873
theorem mc_hasSession : Cond.code yX12_hasSession cX12_hasSession 2 (some .boolean) ∈ TB := tw_2214
theorem mi_hasSession : Cond.instanceMethod yX12_hasSession ∈ TB := tw_2213
theorem me_hasSession : Cond.selects RX12 yX12_hasSession yX12_hasSession ∈ TB := tp_107
theorem md_hasSession : yX12_hasSession.cls ≠ "java/lang/invoke/MethodHandle" ∧ yX12_hasSession.cls ≠ "java/lang/invoke/VarHandle" ∧ (parseMethodDescriptor yX12_hasSession.desc).map (fun d => d.parameters.length) = some 1 := by decide +kernel
theorem ml_hasSession : Cond.methodLink RX12 583 yX12_hasSession ∈ TB := tw_2211
theorem mc_open : Cond.code yX12_open cX12_open 3 none ∈ TB := tw_1872
theorem mi_open : Cond.instanceMethod yX12_open ∈ TB := tw_1870
theorem me_open : Cond.selects RX12 yX12_open yX12_open ∈ TB := tw_1871
theorem md_open : yX12_open.cls ≠ "java/lang/invoke/MethodHandle" ∧ yX12_open.cls ≠ "java/lang/invoke/VarHandle" ∧ (parseMethodDescriptor yX12_open.desc).map (fun d => d.parameters.length) = some 1 := by decide +kernel
theorem mc_feed : Cond.code yX12_feed cX12_feed 9 (some .int) ∈ TB := tw_1883
theorem mi_feed : Cond.instanceMethod yX12_feed ∈ TB := tw_1881
theorem me_feed : Cond.selects RX12 yX12_feed yX12_feed ∈ TB := tw_1882
theorem md_feed : yX12_feed.cls ≠ "java/lang/invoke/MethodHandle" ∧ yX12_feed.cls ≠ "java/lang/invoke/VarHandle" ∧ (parseMethodDescriptor yX12_feed.desc).map (fun d => d.parameters.length) = some 4 := by decide +kernel
theorem mc_look : Cond.code yX12_look cX12_look 8 (some .boolean) ∈ TB := tw_1887
theorem mi_look : Cond.instanceMethod yX12_look ∈ TB := tw_1886
theorem me_look : Cond.selects RX12 yX12_look yX12_look ∈ TB := tp_41
theorem md_look : yX12_look.cls ≠ "java/lang/invoke/MethodHandle" ∧ yX12_look.cls ≠ "java/lang/invoke/VarHandle" ∧ (parseMethodDescriptor yX12_look.desc).map (fun d => d.parameters.length) = some 1 := by decide +kernel
theorem ml_look : Cond.methodLink RX12 256 yX12_look ∈ TB := tw_1884
theorem mc_wrong : Cond.code yX12_wrong cX12_wrong 3 none ∈ TB := tw_1891
theorem mi_wrong : Cond.instanceMethod yX12_wrong ∈ TB := tw_1890
theorem me_wrong : Cond.selects RX12 yX12_wrong yX12_wrong ∈ TB := tp_42
theorem md_wrong : yX12_wrong.cls ≠ "java/lang/invoke/MethodHandle" ∧ yX12_wrong.cls ≠ "java/lang/invoke/VarHandle" ∧ (parseMethodDescriptor yX12_wrong.desc).map (fun d => d.parameters.length) = some 2 := by decide +kernel
theorem ml_wrong : Cond.methodLink RX12 259 yX12_wrong ∈ TB := tw_1888
theorem mc_fail : Cond.code yX12_fail cX12_fail 4 none ∈ TB := tw_1895
theorem mi_fail : Cond.instanceMethod yX12_fail ∈ TB := tw_1894
theorem me_fail : Cond.selects RX12 yX12_fail yX12_fail ∈ TB := tp_43
theorem md_fail : yX12_fail.cls ≠ "java/lang/invoke/MethodHandle" ∧ yX12_fail.cls ≠ "java/lang/invoke/VarHandle" ∧ (parseMethodDescriptor yX12_fail.desc).map (fun d => d.parameters.length) = some 2 := by decide +kernel
theorem ml_fail : Cond.methodLink RX12 289 yX12_fail ∈ TB := tw_1892
theorem mc_connackFault : Cond.code yX12_connackFault cX12_connackFault 3 none ∈ TB := tw_1911
theorem mi_connackFault : Cond.instanceMethod yX12_connackFault ∈ TB := tw_1910
theorem me_connackFault : Cond.selects RX12 yX12_connackFault yX12_connackFault ∈ TB := tp_47
theorem md_connackFault : yX12_connackFault.cls ≠ "java/lang/invoke/MethodHandle" ∧ yX12_connackFault.cls ≠ "java/lang/invoke/VarHandle" ∧ (parseMethodDescriptor yX12_connackFault.desc).map (fun d => d.parameters.length) = some 2 := by decide +kernel
theorem ml_connackFault : Cond.methodLink RX12 299 yX12_connackFault ∈ TB := tw_1908
theorem mc_short4 : Cond.code yX12_short4 cX12_short4 7 none ∈ TB := tw_1899
theorem mi_short4 : Cond.instanceMethod yX12_short4 ∈ TB := tw_1898
theorem me_short4 : Cond.selects RX12 yX12_short4 yX12_short4 ∈ TB := tp_44
theorem md_short4 : yX12_short4.cls ≠ "java/lang/invoke/MethodHandle" ∧ yX12_short4.cls ≠ "java/lang/invoke/VarHandle" ∧ (parseMethodDescriptor yX12_short4.desc).map (fun d => d.parameters.length) = some 6 := by decide +kernel
theorem ml_short4 : Cond.methodLink RX12 295 yX12_short4 ∈ TB := tw_1896
theorem mc_put : Cond.code yX12_put cX12_put 2 none ∈ TB := tw_1903
theorem mi_put : Cond.instanceMethod yX12_put ∈ TB := tw_1902
theorem me_put : Cond.selects RX12 yX12_put yX12_put ∈ TB := tp_45
theorem md_put : yX12_put.cls ≠ "java/lang/invoke/MethodHandle" ∧ yX12_put.cls ≠ "java/lang/invoke/VarHandle" ∧ (parseMethodDescriptor yX12_put.desc).map (fun d => d.parameters.length) = some 1 := by decide +kernel
theorem ml_put : Cond.methodLink RX12 309 yX12_put ∈ TB := tw_1900
theorem mc_send : Cond.code yX12_send cX12_send 3 none ∈ TB := tw_1907
theorem mi_send : Cond.instanceMethod yX12_send ∈ TB := tw_1906
theorem me_send : Cond.selects RX12 yX12_send yX12_send ∈ TB := tp_46
theorem md_send : yX12_send.cls ≠ "java/lang/invoke/MethodHandle" ∧ yX12_send.cls ≠ "java/lang/invoke/VarHandle" ∧ (parseMethodDescriptor yX12_send.desc).map (fun d => d.parameters.length) = some 1 := by decide +kernel
theorem ml_send : Cond.methodLink RX12 312 yX12_send ∈ TB := tw_1904
theorem mc_settle : Cond.code yX12_settle cX12_settle 2 none ∈ TB := tw_2022
theorem mi_settle : Cond.instanceMethod yX12_settle ∈ TB := tw_2021
theorem me_settle : Cond.selects RX12 yX12_settle yX12_settle ∈ TB := tp_71
theorem md_settle : yX12_settle.cls ≠ "java/lang/invoke/MethodHandle" ∧ yX12_settle.cls ≠ "java/lang/invoke/VarHandle" ∧ (parseMethodDescriptor yX12_settle.desc).map (fun d => d.parameters.length) = some 0 := by decide +kernel
theorem ml_settle : Cond.methodLink RX12 292 yX12_settle ∈ TB := tw_2019
theorem mc_lost : Cond.code yX12_lost cX12_lost 3 none ∈ TB := tw_1915
theorem mi_lost : Cond.instanceMethod yX12_lost ∈ TB := tw_1914
theorem me_lost : Cond.selects RX12 yX12_lost yX12_lost ∈ TB := tp_48
theorem md_lost : yX12_lost.cls ≠ "java/lang/invoke/MethodHandle" ∧ yX12_lost.cls ≠ "java/lang/invoke/VarHandle" ∧ (parseMethodDescriptor yX12_lost.desc).map (fun d => d.parameters.length) = some 1 := by decide +kernel
theorem ml_lost : Cond.methodLink RX12 302 yX12_lost ∈ TB := tw_1912
theorem mc_comes : Cond.code yX12_comes cX12_comes 3 none ∈ TB := tw_1919
theorem mi_comes : Cond.instanceMethod yX12_comes ∈ TB := tw_1918
theorem me_comes : Cond.selects RX12 yX12_comes yX12_comes ∈ TB := tp_49
theorem md_comes : yX12_comes.cls ≠ "java/lang/invoke/MethodHandle" ∧ yX12_comes.cls ≠ "java/lang/invoke/VarHandle" ∧ (parseMethodDescriptor yX12_comes.desc).map (fun d => d.parameters.length) = some 1 := by decide +kernel
theorem ml_comes : Cond.methodLink RX12 318 yX12_comes ∈ TB := tw_1916
theorem mc_ends : Cond.code yX12_ends cX12_ends 2 none ∈ TB := tw_2017
theorem mi_ends : Cond.instanceMethod yX12_ends ∈ TB := tw_2016
theorem me_ends : Cond.selects RX12 yX12_ends yX12_ends ∈ TB := tp_70
theorem md_ends : yX12_ends.cls ≠ "java/lang/invoke/MethodHandle" ∧ yX12_ends.cls ≠ "java/lang/invoke/VarHandle" ∧ (parseMethodDescriptor yX12_ends.desc).map (fun d => d.parameters.length) = some 1 := by decide +kernel
theorem ml_ends : Cond.methodLink RX12 321 yX12_ends ∈ TB := tw_2014
theorem mc_lose : Cond.code yX12_lose cX12_lose 2 none ∈ TB := tw_2176
theorem mi_lose : Cond.instanceMethod yX12_lose ∈ TB := tw_2174
theorem me_lose : Cond.selects RX12 yX12_lose yX12_lose ∈ TB := tw_2175
theorem md_lose : yX12_lose.cls ≠ "java/lang/invoke/MethodHandle" ∧ yX12_lose.cls ≠ "java/lang/invoke/VarHandle" ∧ (parseMethodDescriptor yX12_lose.desc).map (fun d => d.parameters.length) = some 1 := by decide +kernel
theorem mc_isOpen : Cond.code yX12_isOpen cX12_isOpen 2 (some .boolean) ∈ TB := tw_2180
theorem mi_isOpen : Cond.instanceMethod yX12_isOpen ∈ TB := tw_2178
theorem me_isOpen : Cond.selects RX12 yX12_isOpen yX12_isOpen ∈ TB := tw_2179
theorem md_isOpen : yX12_isOpen.cls ≠ "java/lang/invoke/MethodHandle" ∧ yX12_isOpen.cls ≠ "java/lang/invoke/VarHandle" ∧ (parseMethodDescriptor yX12_isOpen.desc).map (fun d => d.parameters.length) = some 1 := by decide +kernel
theorem mc_size : Cond.code yX12_size cX12_size 2 (some .int) ∈ TB := tw_2184
theorem mi_size : Cond.instanceMethod yX12_size ∈ TB := tw_2182
theorem me_size : Cond.selects RX12 yX12_size yX12_size ∈ TB := tw_2183
theorem md_size : yX12_size.cls ≠ "java/lang/invoke/MethodHandle" ∧ yX12_size.cls ≠ "java/lang/invoke/VarHandle" ∧ (parseMethodDescriptor yX12_size.desc).map (fun d => d.parameters.length) = some 1 := by decide +kernel
theorem mc_out : Cond.code yX12_out cX12_out 3 (some .int) ∈ TB := tw_2188
theorem mi_out : Cond.instanceMethod yX12_out ∈ TB := tw_2186
theorem me_out : Cond.selects RX12 yX12_out yX12_out ∈ TB := tw_2187
theorem md_out : yX12_out.cls ≠ "java/lang/invoke/MethodHandle" ∧ yX12_out.cls ≠ "java/lang/invoke/VarHandle" ∧ (parseMethodDescriptor yX12_out.desc).map (fun d => d.parameters.length) = some 2 := by decide +kernel
theorem mc_take : Cond.code yX12_take cX12_take 5 (some .int) ∈ TB := tw_2192
theorem mi_take : Cond.instanceMethod yX12_take ∈ TB := tw_2190
theorem me_take : Cond.selects RX12 yX12_take yX12_take ∈ TB := tw_2191
theorem md_take : yX12_take.cls ≠ "java/lang/invoke/MethodHandle" ∧ yX12_take.cls ≠ "java/lang/invoke/VarHandle" ∧ (parseMethodDescriptor yX12_take.desc).map (fun d => d.parameters.length) = some 2 := by decide +kernel
theorem mc_pending : Cond.code yX12_pending cX12_pending 2 (some .int) ∈ TB := tw_2196
theorem mi_pending : Cond.instanceMethod yX12_pending ∈ TB := tw_2194
theorem me_pending : Cond.selects RX12 yX12_pending yX12_pending ∈ TB := tw_2195
theorem md_pending : yX12_pending.cls ≠ "java/lang/invoke/MethodHandle" ∧ yX12_pending.cls ≠ "java/lang/invoke/VarHandle" ∧ (parseMethodDescriptor yX12_pending.desc).map (fun d => d.parameters.length) = some 1 := by decide +kernel
theorem mc_fails : Cond.code yX12_fails cX12_fails 2 none ∈ TB := tw_2031
theorem mi_fails : Cond.instanceMethod yX12_fails ∈ TB := tw_2030
theorem me_fails : Cond.selects RX12 yX12_fails yX12_fails ∈ TB := tp_73
theorem md_fails : yX12_fails.cls ≠ "java/lang/invoke/MethodHandle" ∧ yX12_fails.cls ≠ "java/lang/invoke/VarHandle" ∧ (parseMethodDescriptor yX12_fails.desc).map (fun d => d.parameters.length) = some 1 := by decide +kernel
theorem ml_fails : Cond.methodLink RX12 343 yX12_fails ∈ TB := tw_2028
theorem mc_one : Cond.code yX12_one cX12_one 1 (some .int) ∈ TB := tw_2051
theorem mi_one : Cond.instanceMethod yX12_one ∈ TB := tw_2050
theorem me_one : Cond.selects RX12 yX12_one yX12_one ∈ TB := tp_78
theorem md_one : yX12_one.cls ≠ "java/lang/invoke/MethodHandle" ∧ yX12_one.cls ≠ "java/lang/invoke/VarHandle" ∧ (parseMethodDescriptor yX12_one.desc).map (fun d => d.parameters.length) = some 0 := by decide +kernel
theorem ml_one : Cond.methodLink RX12 346 yX12_one ∈ TB := tw_2048
theorem mc_two : Cond.code yX12_two cX12_two 2 (some .int) ∈ TB := tw_2047
theorem mi_two : Cond.instanceMethod yX12_two ∈ TB := tw_2046
theorem me_two : Cond.selects RX12 yX12_two yX12_two ∈ TB := tp_77
theorem md_two : yX12_two.cls ≠ "java/lang/invoke/MethodHandle" ∧ yX12_two.cls ≠ "java/lang/invoke/VarHandle" ∧ (parseMethodDescriptor yX12_two.desc).map (fun d => d.parameters.length) = some 0 := by decide +kernel
theorem ml_two : Cond.methodLink RX12 350 yX12_two ∈ TB := tw_2044
theorem mc_four : Cond.code yX12_four cX12_four 3 (some .long) ∈ TB := tw_2078
theorem mi_four : Cond.instanceMethod yX12_four ∈ TB := tw_2077
theorem me_four : Cond.selects RX12 yX12_four yX12_four ∈ TB := tp_83
theorem md_four : yX12_four.cls ≠ "java/lang/invoke/MethodHandle" ∧ yX12_four.cls ≠ "java/lang/invoke/VarHandle" ∧ (parseMethodDescriptor yX12_four.desc).map (fun d => d.parameters.length) = some 0 := by decide +kernel
theorem ml_four : Cond.methodLink RX12 385 yX12_four ∈ TB := tw_2075
theorem mc_variable : Cond.code yX12_variable cX12_variable 5 (some .long) ∈ TB := tw_2070
theorem mi_variable : Cond.instanceMethod yX12_variable ∈ TB := tw_2069
theorem me_variable : Cond.selects RX12 yX12_variable yX12_variable ∈ TB := tp_81
theorem md_variable : yX12_variable.cls ≠ "java/lang/invoke/MethodHandle" ∧ yX12_variable.cls ≠ "java/lang/invoke/VarHandle" ∧ (parseMethodDescriptor yX12_variable.desc).map (fun d => d.parameters.length) = some 0 := by decide +kernel
theorem ml_variable : Cond.methodLink RX12 373 yX12_variable ∈ TB := tw_2067
theorem mc_row : Cond.code yX12_row cX12_row 2 none ∈ TB := tw_2043
theorem mi_row : Cond.instanceMethod yX12_row ∈ TB := tw_2042
theorem me_row : Cond.selects RX12 yX12_row yX12_row ∈ TB := tp_76
theorem md_row : yX12_row.cls ≠ "java/lang/invoke/MethodHandle" ∧ yX12_row.cls ≠ "java/lang/invoke/VarHandle" ∧ (parseMethodDescriptor yX12_row.desc).map (fun d => d.parameters.length) = some 0 := by decide +kernel
theorem ml_row : Cond.methodLink RX12 359 yX12_row ∈ TB := tw_2040
theorem mc_string : Cond.code yX12_string cX12_string 1 none ∈ TB := tw_2039
theorem mi_string : Cond.instanceMethod yX12_string ∈ TB := tw_2038
theorem me_string : Cond.selects RX12 yX12_string yX12_string ∈ TB := tp_75
theorem md_string : yX12_string.cls ≠ "java/lang/invoke/MethodHandle" ∧ yX12_string.cls ≠ "java/lang/invoke/VarHandle" ∧ (parseMethodDescriptor yX12_string.desc).map (fun d => d.parameters.length) = some 0 := by decide +kernel
theorem ml_string : Cond.methodLink RX12 388 yX12_string ∈ TB := tw_2036
theorem mc_isText : Cond.code yX12_isText cX12_isText 9 (some .boolean) ∈ TB := tw_2055
theorem mi_isText : Cond.instanceMethod yX12_isText ∈ TB := tw_2054
theorem me_isText : Cond.selects RX12 yX12_isText yX12_isText ∈ TB := tp_79
theorem md_isText : yX12_isText.cls ≠ "java/lang/invoke/MethodHandle" ∧ yX12_isText.cls ≠ "java/lang/invoke/VarHandle" ∧ (parseMethodDescriptor yX12_isText.desc).map (fun d => d.parameters.length) = some 2 := by decide +kernel
theorem ml_isText : Cond.methodLink RX12 362 yX12_isText ∈ TB := tw_2052
theorem mc_bit : Cond.code yX12_bit cX12_bit 1 (some .long) ∈ TB := tw_2062
theorem ms_bit : Cond.static yX12_bit ∈ TB := tw_2061
theorem md_bit : yX12_bit.cls ≠ "java/lang/invoke/MethodHandle" ∧ yX12_bit.cls ≠ "java/lang/invoke/VarHandle" ∧ (parseMethodDescriptor yX12_bit.desc).map (fun d => d.parameters.length) = some 1 := by decide +kernel
theorem ml_bit : Cond.methodLink RX12 381 yX12_bit ∈ TB := tw_2060
theorem mc_properties : Cond.code yX12_properties cX12_properties 5 none ∈ TB := tw_2066
theorem mi_properties : Cond.instanceMethod yX12_properties ∈ TB := tw_2065
theorem me_properties : Cond.selects RX12 yX12_properties yX12_properties ∈ TB := tp_80
theorem md_properties : yX12_properties.cls ≠ "java/lang/invoke/MethodHandle" ∧ yX12_properties.cls ≠ "java/lang/invoke/VarHandle" ∧ (parseMethodDescriptor yX12_properties.desc).map (fun d => d.parameters.length) = some 1 := by decide +kernel
theorem ml_properties : Cond.methodLink RX12 419 yX12_properties ∈ TB := tw_2063
theorem mc_property : Cond.code yX12_property cX12_property 6 none ∈ TB := tw_2074
theorem mi_property : Cond.instanceMethod yX12_property ∈ TB := tw_2073
theorem me_property : Cond.selects RX12 yX12_property yX12_property ∈ TB := tp_82
theorem md_property : yX12_property.cls ≠ "java/lang/invoke/MethodHandle" ∧ yX12_property.cls ≠ "java/lang/invoke/VarHandle" ∧ (parseMethodDescriptor yX12_property.desc).map (fun d => d.parameters.length) = some 1 := by decide +kernel
theorem ml_property : Cond.methodLink RX12 377 yX12_property ∈ TB := tw_2071
theorem mc_isTopic : Cond.code yX12_isTopic cX12_isTopic 5 (some .boolean) ∈ TB := tw_2083
theorem ms_isTopic : Cond.static yX12_isTopic ∈ TB := tw_2082
theorem md_isTopic : yX12_isTopic.cls ≠ "java/lang/invoke/MethodHandle" ∧ yX12_isTopic.cls ≠ "java/lang/invoke/VarHandle" ∧ (parseMethodDescriptor yX12_isTopic.desc).map (fun d => d.parameters.length) = some 3 := by decide +kernel
theorem ml_isTopic : Cond.methodLink RX12 427 yX12_isTopic ∈ TB := tw_2081
theorem mc_isShare : Cond.code yX12_isShare cX12_isShare 3 (some .boolean) ∈ TB := tw_1950
theorem ms_isShare : Cond.static yX12_isShare ∈ TB := tw_1949
theorem md_isShare : yX12_isShare.cls ≠ "java/lang/invoke/MethodHandle" ∧ yX12_isShare.cls ≠ "java/lang/invoke/VarHandle" ∧ (parseMethodDescriptor yX12_isShare.desc).map (fun d => d.parameters.length) = some 3 := by decide +kernel
theorem ml_isShare : Cond.methodLink RX12 391 yX12_isShare ∈ TB := tw_1948
theorem mc_isFilter : Cond.code yX12_isFilter cX12_isFilter 7 (some .boolean) ∈ TB := tw_1953
theorem ms_isFilter : Cond.static yX12_isFilter ∈ TB := tw_1952
theorem md_isFilter : yX12_isFilter.cls ≠ "java/lang/invoke/MethodHandle" ∧ yX12_isFilter.cls ≠ "java/lang/invoke/VarHandle" ∧ (parseMethodDescriptor yX12_isFilter.desc).map (fun d => d.parameters.length) = some 3 := by decide +kernel
theorem ml_isFilter : Cond.methodLink RX12 395 yX12_isFilter ∈ TB := tw_1951
theorem mc_shareAt : Cond.code yX12_shareAt cX12_shareAt 4 (some .int) ∈ TB := tw_1947
theorem ms_shareAt : Cond.static yX12_shareAt ∈ TB := tw_1946
theorem md_shareAt : yX12_shareAt.cls ≠ "java/lang/invoke/MethodHandle" ∧ yX12_shareAt.cls ≠ "java/lang/invoke/VarHandle" ∧ (parseMethodDescriptor yX12_shareAt.desc).map (fun d => d.parameters.length) = some 3 := by decide +kernel
theorem ml_shareAt : Cond.methodLink RX12 501 yX12_shareAt ∈ TB := tw_1945
theorem mc_matches : Cond.code yX12_matches cX12_matches 10 (some .boolean) ∈ TB := tw_1957
theorem mi_matches : Cond.instanceMethod yX12_matches ∈ TB := tw_1956
theorem me_matches : Cond.selects RX12 yX12_matches yX12_matches ∈ TB := tp_56
theorem md_matches : yX12_matches.cls ≠ "java/lang/invoke/MethodHandle" ∧ yX12_matches.cls ≠ "java/lang/invoke/VarHandle" ∧ (parseMethodDescriptor yX12_matches.desc).map (fun d => d.parameters.length) = some 3 := by decide +kernel
theorem ml_matches : Cond.methodLink RX12 504 yX12_matches ∈ TB := tw_1954
theorem mc_take_ : Cond.code yX12_take_ cX12_take_ 7 none ∈ TB := tw_2027
theorem mi_take_ : Cond.instanceMethod yX12_take_ ∈ TB := tw_2026
theorem me_take_ : Cond.selects RX12 yX12_take_ yX12_take_ ∈ TB := tp_72
theorem md_take_ : yX12_take_.cls ≠ "java/lang/invoke/MethodHandle" ∧ yX12_take_.cls ≠ "java/lang/invoke/VarHandle" ∧ (parseMethodDescriptor yX12_take_.desc).map (fun d => d.parameters.length) = some 0 := by decide +kernel
theorem ml_take_ : Cond.methodLink RX12 286 yX12_take_ ∈ TB := tw_2024
theorem mc_ping : Cond.code yX12_ping cX12_ping 1 none ∈ TB := tw_2168
theorem mi_ping : Cond.instanceMethod yX12_ping ∈ TB := tw_2167
theorem me_ping : Cond.selects RX12 yX12_ping yX12_ping ∈ TB := tp_104
theorem md_ping : yX12_ping.cls ≠ "java/lang/invoke/MethodHandle" ∧ yX12_ping.cls ≠ "java/lang/invoke/VarHandle" ∧ (parseMethodDescriptor yX12_ping.desc).map (fun d => d.parameters.length) = some 0 := by decide +kernel
theorem ml_ping : Cond.methodLink RX12 413 yX12_ping ∈ TB := tw_2165
theorem mc_connect : Cond.code yX12_connect cX12_connect 22 none ∈ TB := tw_2035
theorem mi_connect : Cond.instanceMethod yX12_connect ∈ TB := tw_2034
theorem me_connect : Cond.selects RX12 yX12_connect yX12_connect ∈ TB := tp_74
theorem md_connect : yX12_connect.cls ≠ "java/lang/invoke/MethodHandle" ∧ yX12_connect.cls ≠ "java/lang/invoke/VarHandle" ∧ (parseMethodDescriptor yX12_connect.desc).map (fun d => d.parameters.length) = some 0 := by decide +kernel
theorem ml_connect : Cond.methodLink RX12 398 yX12_connect ∈ TB := tw_2032
theorem mc_byteOf : Cond.code yX12_byteOf cX12_byteOf 2 none ∈ TB := tw_1986
theorem mi_byteOf : Cond.instanceMethod yX12_byteOf ∈ TB := tw_1985
theorem me_byteOf : Cond.selects RX12 yX12_byteOf yX12_byteOf ∈ TB := tp_63
theorem md_byteOf : yX12_byteOf.cls ≠ "java/lang/invoke/MethodHandle" ∧ yX12_byteOf.cls ≠ "java/lang/invoke/VarHandle" ∧ (parseMethodDescriptor yX12_byteOf.desc).map (fun d => d.parameters.length) = some 1 := by decide +kernel
theorem ml_byteOf : Cond.methodLink RX12 453 yX12_byteOf ∈ TB := tw_1983
theorem mc_variableOf : Cond.code yX12_variableOf cX12_variableOf 5 none ∈ TB := tw_1991
theorem mi_variableOf : Cond.instanceMethod yX12_variableOf ∈ TB := tw_1990
theorem me_variableOf : Cond.selects RX12 yX12_variableOf yX12_variableOf ∈ TB := tp_64
theorem md_variableOf : yX12_variableOf.cls ≠ "java/lang/invoke/MethodHandle" ∧ yX12_variableOf.cls ≠ "java/lang/invoke/VarHandle" ∧ (parseMethodDescriptor yX12_variableOf.desc).map (fun d => d.parameters.length) = some 1 := by decide +kernel
theorem ml_variableOf : Cond.methodLink RX12 548 yX12_variableOf ∈ TB := tw_1988
theorem mc_wrap : Cond.code yX12_wrap cX12_wrap 4 none ∈ TB := tw_2001
theorem mi_wrap : Cond.instanceMethod yX12_wrap ∈ TB := tw_2000
theorem me_wrap : Cond.selects RX12 yX12_wrap yX12_wrap ∈ TB := tp_66
theorem md_wrap : yX12_wrap.cls ≠ "java/lang/invoke/MethodHandle" ∧ yX12_wrap.cls ≠ "java/lang/invoke/VarHandle" ∧ (parseMethodDescriptor yX12_wrap.desc).map (fun d => d.parameters.length) = some 1 := by decide +kernel
theorem ml_wrap : Cond.methodLink RX12 467 yX12_wrap ∈ TB := tw_1998
theorem mc_sendBody : Cond.code yX12_sendBody cX12_sendBody 3 none ∈ TB := tw_2107
theorem mi_sendBody : Cond.instanceMethod yX12_sendBody ∈ TB := tw_2106
theorem me_sendBody : Cond.selects RX12 yX12_sendBody yX12_sendBody ∈ TB := tp_89
theorem md_sendBody : yX12_sendBody.cls ≠ "java/lang/invoke/MethodHandle" ∧ yX12_sendBody.cls ≠ "java/lang/invoke/VarHandle" ∧ (parseMethodDescriptor yX12_sendBody.desc).map (fun d => d.parameters.length) = some 2 := by decide +kernel
theorem ml_sendBody : Cond.methodLink RX12 456 yX12_sendBody ∈ TB := tw_2104
theorem mc_client : Cond.code yX12_client cX12_client 7 (some .int) ∈ TB := tw_2087
theorem mi_client : Cond.instanceMethod yX12_client ∈ TB := tw_2086
theorem me_client : Cond.selects RX12 yX12_client yX12_client ∈ TB := tp_84
theorem md_client : yX12_client.cls ≠ "java/lang/invoke/MethodHandle" ∧ yX12_client.cls ≠ "java/lang/invoke/VarHandle" ∧ (parseMethodDescriptor yX12_client.desc).map (fun d => d.parameters.length) = some 3 := by decide +kernel
theorem ml_client : Cond.methodLink RX12 430 yX12_client ∈ TB := tw_2084
theorem mc_free : Cond.code yX12_free cX12_free 2 (some .int) ∈ TB := tw_2091
theorem mi_free : Cond.instanceMethod yX12_free ∈ TB := tw_2090
theorem me_free : Cond.selects RX12 yX12_free yX12_free ∈ TB := tp_85
theorem md_free : yX12_free.cls ≠ "java/lang/invoke/MethodHandle" ∧ yX12_free.cls ≠ "java/lang/invoke/VarHandle" ∧ (parseMethodDescriptor yX12_free.desc).map (fun d => d.parameters.length) = some 0 := by decide +kernel
theorem ml_free : Cond.methodLink RX12 434 yX12_free ∈ TB := tw_2088
theorem mc_name : Cond.code yX12_name cX12_name 6 none ∈ TB := tw_2095
theorem mi_name : Cond.instanceMethod yX12_name ∈ TB := tw_2094
theorem me_name : Cond.selects RX12 yX12_name yX12_name ∈ TB := tp_86
theorem md_name : yX12_name.cls ≠ "java/lang/invoke/MethodHandle" ∧ yX12_name.cls ≠ "java/lang/invoke/VarHandle" ∧ (parseMethodDescriptor yX12_name.desc).map (fun d => d.parameters.length) = some 1 := by decide +kernel
theorem ml_name : Cond.methodLink RX12 440 yX12_name ∈ TB := tw_2092
theorem mc_message : Cond.code yX12_message cX12_message 8 (some .int) ∈ TB := tw_2099
theorem mi_message : Cond.instanceMethod yX12_message ∈ TB := tw_2098
theorem me_message : Cond.selects RX12 yX12_message yX12_message ∈ TB := tp_87
theorem md_message : yX12_message.cls ≠ "java/lang/invoke/MethodHandle" ∧ yX12_message.cls ≠ "java/lang/invoke/VarHandle" ∧ (parseMethodDescriptor yX12_message.desc).map (fun d => d.parameters.length) = some 4 := by decide +kernel
theorem ml_message : Cond.methodLink RX12 446 yX12_message ∈ TB := tw_2096
theorem mc_copy : Cond.code yX12_copy cX12_copy 5 (some .int) ∈ TB := tw_2103
theorem mi_copy : Cond.instanceMethod yX12_copy ∈ TB := tw_2102
theorem me_copy : Cond.selects RX12 yX12_copy yX12_copy ∈ TB := tp_88
theorem md_copy : yX12_copy.cls ≠ "java/lang/invoke/MethodHandle" ∧ yX12_copy.cls ≠ "java/lang/invoke/VarHandle" ∧ (parseMethodDescriptor yX12_copy.desc).map (fun d => d.parameters.length) = some 3 := by decide +kernel
theorem ml_copy : Cond.methodLink RX12 479 yX12_copy ∈ TB := tw_2100
theorem mc_gone : Cond.code yX12_gone cX12_gone 2 (some .boolean) ∈ TB := tw_1932
theorem mi_gone : Cond.instanceMethod yX12_gone ∈ TB := tw_1931
theorem me_gone : Cond.selects RX12 yX12_gone yX12_gone ∈ TB := tp_52
theorem md_gone : yX12_gone.cls ≠ "java/lang/invoke/MethodHandle" ∧ yX12_gone.cls ≠ "java/lang/invoke/VarHandle" ∧ (parseMethodDescriptor yX12_gone.desc).map (fun d => d.parameters.length) = some 1 := by decide +kernel
theorem ml_gone : Cond.methodLink RX12 483 yX12_gone ∈ TB := tw_1929
theorem mc_sameTopic : Cond.code yX12_sameTopic cX12_sameTopic 5 (some .boolean) ∈ TB := tw_1936
theorem mi_sameTopic : Cond.instanceMethod yX12_sameTopic ∈ TB := tw_1935
theorem me_sameTopic : Cond.selects RX12 yX12_sameTopic yX12_sameTopic ∈ TB := tp_53
theorem md_sameTopic : yX12_sameTopic.cls ≠ "java/lang/invoke/MethodHandle" ∧ yX12_sameTopic.cls ≠ "java/lang/invoke/VarHandle" ∧ (parseMethodDescriptor yX12_sameTopic.desc).map (fun d => d.parameters.length) = some 2 := by decide +kernel
theorem ml_sameTopic : Cond.methodLink RX12 489 yX12_sameTopic ∈ TB := tw_1933
theorem mc_purge : Cond.code yX12_purge cX12_purge 3 none ∈ TB := tw_1928
theorem mi_purge : Cond.instanceMethod yX12_purge ∈ TB := tw_1927
theorem me_purge : Cond.selects RX12 yX12_purge yX12_purge ∈ TB := tp_51
theorem md_purge : yX12_purge.cls ≠ "java/lang/invoke/MethodHandle" ∧ yX12_purge.cls ≠ "java/lang/invoke/VarHandle" ∧ (parseMethodDescriptor yX12_purge.desc).map (fun d => d.parameters.length) = some 0 := by decide +kernel
theorem ml_purge : Cond.methodLink RX12 486 yX12_purge ∈ TB := tw_1925
theorem mc_keep : Cond.code yX12_keep cX12_keep 4 (some .boolean) ∈ TB := tw_1924
theorem mi_keep : Cond.instanceMethod yX12_keep ∈ TB := tw_1923
theorem me_keep : Cond.selects RX12 yX12_keep yX12_keep ∈ TB := tp_50
theorem md_keep : yX12_keep.cls ≠ "java/lang/invoke/MethodHandle" ∧ yX12_keep.cls ≠ "java/lang/invoke/VarHandle" ∧ (parseMethodDescriptor yX12_keep.desc).map (fun d => d.parameters.length) = some 1 := by decide +kernel
theorem ml_keep : Cond.methodLink RX12 328 yX12_keep ∈ TB := tw_1921
theorem mc_answer : Cond.code yX12_answer cX12_answer 4 none ∈ TB := tw_2132
theorem mi_answer : Cond.instanceMethod yX12_answer ∈ TB := tw_2131
theorem me_answer : Cond.selects RX12 yX12_answer yX12_answer ∈ TB := tp_95
theorem md_answer : yX12_answer.cls ≠ "java/lang/invoke/MethodHandle" ∧ yX12_answer.cls ≠ "java/lang/invoke/VarHandle" ∧ (parseMethodDescriptor yX12_answer.desc).map (fun d => d.parameters.length) = some 3 := by decide +kernel
theorem ml_answer : Cond.methodLink RX12 497 yX12_answer ∈ TB := tw_2129
theorem mc_publish : Cond.code yX12_publish cX12_publish 10 none ∈ TB := tw_2123
theorem mi_publish : Cond.instanceMethod yX12_publish ∈ TB := tw_2122
theorem me_publish : Cond.selects RX12 yX12_publish yX12_publish ∈ TB := tp_93
theorem md_publish : yX12_publish.cls ≠ "java/lang/invoke/MethodHandle" ∧ yX12_publish.cls ≠ "java/lang/invoke/VarHandle" ∧ (parseMethodDescriptor yX12_publish.desc).map (fun d => d.parameters.length) = some 2 := by decide +kernel
theorem ml_publish : Cond.methodLink RX12 401 yX12_publish ∈ TB := tw_2120
theorem mc_holds : Cond.code yX12_holds cX12_holds 4 (some .int) ∈ TB := tw_2128
theorem mi_holds : Cond.instanceMethod yX12_holds ∈ TB := tw_2127
theorem me_holds : Cond.selects RX12 yX12_holds yX12_holds ∈ TB := tp_94
theorem md_holds : yX12_holds.cls ≠ "java/lang/invoke/MethodHandle" ∧ yX12_holds.cls ≠ "java/lang/invoke/VarHandle" ∧ (parseMethodDescriptor yX12_holds.desc).map (fun d => d.parameters.length) = some 2 := by decide +kernel
theorem ml_holds : Cond.methodLink RX12 494 yX12_holds ∈ TB := tw_2125
theorem mc_sameFilter : Cond.code yX12_sameFilter cX12_sameFilter 5 (some .boolean) ∈ TB := tw_1969
theorem mi_sameFilter : Cond.instanceMethod yX12_sameFilter ∈ TB := tw_1968
theorem me_sameFilter : Cond.selects RX12 yX12_sameFilter yX12_sameFilter ∈ TB := tp_59
theorem md_sameFilter : yX12_sameFilter.cls ≠ "java/lang/invoke/MethodHandle" ∧ yX12_sameFilter.cls ≠ "java/lang/invoke/VarHandle" ∧ (parseMethodDescriptor yX12_sameFilter.desc).map (fun d => d.parameters.length) = some 2 := by decide +kernel
theorem ml_sameFilter : Cond.methodLink RX12 527 yX12_sameFilter ∈ TB := tw_1966
theorem mc_isShared : Cond.code yX12_isShared cX12_isShared 2 (some .boolean) ∈ TB := tw_1961
theorem mi_isShared : Cond.instanceMethod yX12_isShared ∈ TB := tw_1960
theorem me_isShared : Cond.selects RX12 yX12_isShared yX12_isShared ∈ TB := tp_57
theorem md_isShared : yX12_isShared.cls ≠ "java/lang/invoke/MethodHandle" ∧ yX12_isShared.cls ≠ "java/lang/invoke/VarHandle" ∧ (parseMethodDescriptor yX12_isShared.desc).map (fun d => d.parameters.length) = some 1 := by decide +kernel
theorem ml_isShared : Cond.methodLink RX12 514 yX12_isShared ∈ TB := tw_1958
theorem mc_takes : Cond.code yX12_takes cX12_takes 4 (some .boolean) ∈ TB := tw_1944
theorem mi_takes : Cond.instanceMethod yX12_takes ∈ TB := tw_1943
theorem me_takes : Cond.selects RX12 yX12_takes yX12_takes ∈ TB := tp_55
theorem md_takes : yX12_takes.cls ≠ "java/lang/invoke/MethodHandle" ∧ yX12_takes.cls ≠ "java/lang/invoke/VarHandle" ∧ (parseMethodDescriptor yX12_takes.desc).map (fun d => d.parameters.length) = some 2 := by decide +kernel
theorem ml_takes : Cond.methodLink RX12 511 yX12_takes ∈ TB := tw_1941
theorem mc_distribute : Cond.code yX12_distribute cX12_distribute 8 (some .boolean) ∈ TB := tw_1940
theorem mi_distribute : Cond.instanceMethod yX12_distribute ∈ TB := tw_1939
theorem me_distribute : Cond.selects RX12 yX12_distribute yX12_distribute ∈ TB := tp_54
theorem md_distribute : yX12_distribute.cls ≠ "java/lang/invoke/MethodHandle" ∧ yX12_distribute.cls ≠ "java/lang/invoke/VarHandle" ∧ (parseMethodDescriptor yX12_distribute.desc).map (fun d => d.parameters.length) = some 1 := by decide +kernel
theorem ml_distribute : Cond.methodLink RX12 331 yX12_distribute ∈ TB := tw_1937
theorem mc_isFirst : Cond.code yX12_isFirst cX12_isFirst 3 (some .boolean) ∈ TB := tw_1965
theorem mi_isFirst : Cond.instanceMethod yX12_isFirst ∈ TB := tw_1964
theorem me_isFirst : Cond.selects RX12 yX12_isFirst yX12_isFirst ∈ TB := tp_58
theorem md_isFirst : yX12_isFirst.cls ≠ "java/lang/invoke/MethodHandle" ∧ yX12_isFirst.cls ≠ "java/lang/invoke/VarHandle" ∧ (parseMethodDescriptor yX12_isFirst.desc).map (fun d => d.parameters.length) = some 1 := by decide +kernel
theorem ml_isFirst : Cond.methodLink RX12 517 yX12_isFirst ∈ TB := tw_1962
theorem mc_chosen : Cond.code yX12_chosen cX12_chosen 7 (some .int) ∈ TB := tw_1973
theorem mi_chosen : Cond.instanceMethod yX12_chosen ∈ TB := tw_1972
theorem me_chosen : Cond.selects RX12 yX12_chosen yX12_chosen ∈ TB := tp_60
theorem md_chosen : yX12_chosen.cls ≠ "java/lang/invoke/MethodHandle" ∧ yX12_chosen.cls ≠ "java/lang/invoke/VarHandle" ∧ (parseMethodDescriptor yX12_chosen.desc).map (fun d => d.parameters.length) = some 1 := by decide +kernel
theorem ml_chosen : Cond.methodLink RX12 520 yX12_chosen ∈ TB := tw_1970
theorem mc_mayGo : Cond.code yX12_mayGo cX12_mayGo 2 (some .boolean) ∈ TB := tw_2005
theorem mi_mayGo : Cond.instanceMethod yX12_mayGo ∈ TB := tw_2004
theorem me_mayGo : Cond.selects RX12 yX12_mayGo yX12_mayGo ∈ TB := tp_67
theorem md_mayGo : yX12_mayGo.cls ≠ "java/lang/invoke/MethodHandle" ∧ yX12_mayGo.cls ≠ "java/lang/invoke/VarHandle" ∧ (parseMethodDescriptor yX12_mayGo.desc).map (fun d => d.parameters.length) = some 1 := by decide +kernel
theorem ml_mayGo : Cond.methodLink RX12 534 yX12_mayGo ∈ TB := tw_2002
theorem mc_deliver : Cond.code yX12_deliver cX12_deliver 7 none ∈ TB := tw_1977
theorem mi_deliver : Cond.instanceMethod yX12_deliver ∈ TB := tw_1976
theorem me_deliver : Cond.selects RX12 yX12_deliver yX12_deliver ∈ TB := tp_61
theorem md_deliver : yX12_deliver.cls ≠ "java/lang/invoke/MethodHandle" ∧ yX12_deliver.cls ≠ "java/lang/invoke/VarHandle" ∧ (parseMethodDescriptor yX12_deliver.desc).map (fun d => d.parameters.length) = some 3 := by decide +kernel
theorem ml_deliver : Cond.methodLink RX12 524 yX12_deliver ∈ TB := tw_1974
theorem mc_begin : Cond.code yX12_begin cX12_begin 8 none ∈ TB := tw_2009
theorem mi_begin : Cond.instanceMethod yX12_begin ∈ TB := tw_2008
theorem me_begin : Cond.selects RX12 yX12_begin yX12_begin ∈ TB := tp_68
theorem md_begin : yX12_begin.cls ≠ "java/lang/invoke/MethodHandle" ∧ yX12_begin.cls ≠ "java/lang/invoke/VarHandle" ∧ (parseMethodDescriptor yX12_begin.desc).map (fun d => d.parameters.length) = some 5 := by decide +kernel
theorem ml_begin : Cond.methodLink RX12 537 yX12_begin ∈ TB := tw_2006
theorem mc_wayOf : Cond.code yX12_wayOf cX12_wayOf 4 (some .int) ∈ TB := tw_2013
theorem mi_wayOf : Cond.instanceMethod yX12_wayOf ∈ TB := tw_2012
theorem me_wayOf : Cond.selects RX12 yX12_wayOf yX12_wayOf ∈ TB := tp_69
theorem md_wayOf : yX12_wayOf.cls ≠ "java/lang/invoke/MethodHandle" ∧ yX12_wayOf.cls ≠ "java/lang/invoke/VarHandle" ∧ (parseMethodDescriptor yX12_wayOf.desc).map (fun d => d.parameters.length) = some 2 := by decide +kernel
theorem ml_wayOf : Cond.methodLink RX12 544 yX12_wayOf ∈ TB := tw_2010
theorem mc_pump : Cond.code yX12_pump cX12_pump 8 none ∈ TB := tw_2119
theorem mi_pump : Cond.instanceMethod yX12_pump ∈ TB := tw_2118
theorem me_pump : Cond.selects RX12 yX12_pump yX12_pump ∈ TB := tp_92
theorem md_pump : yX12_pump.cls ≠ "java/lang/invoke/MethodHandle" ∧ yX12_pump.cls ≠ "java/lang/invoke/VarHandle" ∧ (parseMethodDescriptor yX12_pump.desc).map (fun d => d.parameters.length) = some 1 := by decide +kernel
theorem ml_pump : Cond.methodLink RX12 462 yX12_pump ∈ TB := tw_2116
theorem mc_sendPublish : Cond.code yX12_sendPublish cX12_sendPublish 13 (some .boolean) ∈ TB := tw_1982
theorem mi_sendPublish : Cond.instanceMethod yX12_sendPublish ∈ TB := tw_1981
theorem me_sendPublish : Cond.selects RX12 yX12_sendPublish yX12_sendPublish ∈ TB := tp_62
theorem md_sendPublish : yX12_sendPublish.cls ≠ "java/lang/invoke/MethodHandle" ∧ yX12_sendPublish.cls ≠ "java/lang/invoke/VarHandle" ∧ (parseMethodDescriptor yX12_sendPublish.desc).map (fun d => d.parameters.length) = some 7 := by decide +kernel
theorem ml_sendPublish : Cond.methodLink RX12 530 yX12_sendPublish ∈ TB := tw_1979
theorem mc_part : Cond.code yX12_part cX12_part 5 none ∈ TB := tw_1997
theorem mi_part : Cond.instanceMethod yX12_part ∈ TB := tw_1996
theorem me_part : Cond.selects RX12 yX12_part yX12_part ∈ TB := tp_65
theorem md_part : yX12_part.cls ≠ "java/lang/invoke/MethodHandle" ∧ yX12_part.cls ≠ "java/lang/invoke/VarHandle" ∧ (parseMethodDescriptor yX12_part.desc).map (fun d => d.parameters.length) = some 3 := by decide +kernel
theorem ml_part : Cond.methodLink RX12 555 yX12_part ∈ TB := tw_1994
theorem mc_again : Cond.code yX12_again cX12_again 7 none ∈ TB := tw_2111
theorem mi_again : Cond.instanceMethod yX12_again ∈ TB := tw_2110
theorem me_again : Cond.selects RX12 yX12_again yX12_again ∈ TB := tp_90
theorem md_again : yX12_again.cls ≠ "java/lang/invoke/MethodHandle" ∧ yX12_again.cls ≠ "java/lang/invoke/VarHandle" ∧ (parseMethodDescriptor yX12_again.desc).map (fun d => d.parameters.length) = some 1 := by decide +kernel
theorem ml_again : Cond.methodLink RX12 459 yX12_again ∈ TB := tw_2108
theorem mc_moveWay : Cond.code yX12_moveWay cX12_moveWay 3 none ∈ TB := tw_2115
theorem mi_moveWay : Cond.instanceMethod yX12_moveWay ∈ TB := tw_2114
theorem me_moveWay : Cond.selects RX12 yX12_moveWay yX12_moveWay ∈ TB := tp_91
theorem md_moveWay : yX12_moveWay.cls ≠ "java/lang/invoke/MethodHandle" ∧ yX12_moveWay.cls ≠ "java/lang/invoke/VarHandle" ∧ (parseMethodDescriptor yX12_moveWay.desc).map (fun d => d.parameters.length) = some 2 := by decide +kernel
theorem ml_moveWay : Cond.methodLink RX12 558 yX12_moveWay ∈ TB := tw_2112
theorem mc_leave : Cond.code yX12_leave cX12_leave 4 none ∈ TB := tw_2140
theorem mi_leave : Cond.instanceMethod yX12_leave ∈ TB := tw_2139
theorem me_leave : Cond.selects RX12 yX12_leave yX12_leave ∈ TB := tp_97
theorem md_leave : yX12_leave.cls ≠ "java/lang/invoke/MethodHandle" ∧ yX12_leave.cls ≠ "java/lang/invoke/VarHandle" ∧ (parseMethodDescriptor yX12_leave.desc).map (fun d => d.parameters.length) = some 2 := by decide +kernel
theorem ml_leave : Cond.methodLink RX12 561 yX12_leave ∈ TB := tw_2137
theorem mc_answered : Cond.code yX12_answered cX12_answered 9 none ∈ TB := tw_2136
theorem mi_answered : Cond.instanceMethod yX12_answered ∈ TB := tw_2135
theorem me_answered : Cond.selects RX12 yX12_answered yX12_answered ∈ TB := tp_96
theorem md_answered : yX12_answered.cls ≠ "java/lang/invoke/MethodHandle" ∧ yX12_answered.cls ≠ "java/lang/invoke/VarHandle" ∧ (parseMethodDescriptor yX12_answered.desc).map (fun d => d.parameters.length) = some 1 := by decide +kernel
theorem ml_answered : Cond.methodLink RX12 404 yX12_answered ∈ TB := tw_2133
theorem mc_subscriptionOf : Cond.code yX12_subscriptionOf cX12_subscriptionOf 8 (some .int) ∈ TB := tw_2152
theorem mi_subscriptionOf : Cond.instanceMethod yX12_subscriptionOf ∈ TB := tw_2151
theorem me_subscriptionOf : Cond.selects RX12 yX12_subscriptionOf yX12_subscriptionOf ∈ TB := tp_100
theorem md_subscriptionOf : yX12_subscriptionOf.cls ≠ "java/lang/invoke/MethodHandle" ∧ yX12_subscriptionOf.cls ≠ "java/lang/invoke/VarHandle" ∧ (parseMethodDescriptor yX12_subscriptionOf.desc).map (fun d => d.parameters.length) = some 3 := by decide +kernel
theorem ml_subscriptionOf : Cond.methodLink RX12 570 yX12_subscriptionOf ∈ TB := tw_2149
theorem mc_subscribe : Cond.code yX12_subscribe cX12_subscribe 6 none ∈ TB := tw_2144
theorem mi_subscribe : Cond.instanceMethod yX12_subscribe ∈ TB := tw_2143
theorem me_subscribe : Cond.selects RX12 yX12_subscribe yX12_subscribe ∈ TB := tp_98
theorem md_subscribe : yX12_subscribe.cls ≠ "java/lang/invoke/MethodHandle" ∧ yX12_subscribe.cls ≠ "java/lang/invoke/VarHandle" ∧ (parseMethodDescriptor yX12_subscribe.desc).map (fun d => d.parameters.length) = some 0 := by decide +kernel
theorem ml_subscribe : Cond.methodLink RX12 407 yX12_subscribe ∈ TB := tw_2141
theorem mc_subscribeOne : Cond.code yX12_subscribeOne cX12_subscribeOne 9 (some .int) ∈ TB := tw_2148
theorem mi_subscribeOne : Cond.instanceMethod yX12_subscribeOne ∈ TB := tw_2147
theorem me_subscribeOne : Cond.selects RX12 yX12_subscribeOne yX12_subscribeOne ∈ TB := tp_99
theorem md_subscribeOne : yX12_subscribeOne.cls ≠ "java/lang/invoke/MethodHandle" ∧ yX12_subscribeOne.cls ≠ "java/lang/invoke/VarHandle" ∧ (parseMethodDescriptor yX12_subscribeOne.desc).map (fun d => d.parameters.length) = some 3 := by decide +kernel
theorem ml_subscribeOne : Cond.methodLink RX12 564 yX12_subscribeOne ∈ TB := tw_2145
theorem mc_show : Cond.code yX12_show cX12_show 6 none ∈ TB := tw_2156
theorem mi_show : Cond.instanceMethod yX12_show ∈ TB := tw_2155
theorem me_show : Cond.selects RX12 yX12_show yX12_show ∈ TB := tp_101
theorem md_show : yX12_show.cls ≠ "java/lang/invoke/MethodHandle" ∧ yX12_show.cls ≠ "java/lang/invoke/VarHandle" ∧ (parseMethodDescriptor yX12_show.desc).map (fun d => d.parameters.length) = some 2 := by decide +kernel
theorem ml_show : Cond.methodLink RX12 567 yX12_show ∈ TB := tw_2153
theorem mc_unsubscribe : Cond.code yX12_unsubscribe cX12_unsubscribe 7 none ∈ TB := tw_2160
theorem mi_unsubscribe : Cond.instanceMethod yX12_unsubscribe ∈ TB := tw_2159
theorem me_unsubscribe : Cond.selects RX12 yX12_unsubscribe yX12_unsubscribe ∈ TB := tp_102
theorem md_unsubscribe : yX12_unsubscribe.cls ≠ "java/lang/invoke/MethodHandle" ∧ yX12_unsubscribe.cls ≠ "java/lang/invoke/VarHandle" ∧ (parseMethodDescriptor yX12_unsubscribe.desc).map (fun d => d.parameters.length) = some 0 := by decide +kernel
theorem ml_unsubscribe : Cond.methodLink RX12 410 yX12_unsubscribe ∈ TB := tw_2157
theorem mc_unsubscribeOne : Cond.code yX12_unsubscribeOne cX12_unsubscribeOne 6 none ∈ TB := tw_2164
theorem mi_unsubscribeOne : Cond.instanceMethod yX12_unsubscribeOne ∈ TB := tw_2163
theorem me_unsubscribeOne : Cond.selects RX12 yX12_unsubscribeOne yX12_unsubscribeOne ∈ TB := tp_103
theorem md_unsubscribeOne : yX12_unsubscribeOne.cls ≠ "java/lang/invoke/MethodHandle" ∧ yX12_unsubscribeOne.cls ≠ "java/lang/invoke/VarHandle" ∧ (parseMethodDescriptor yX12_unsubscribeOne.desc).map (fun d => d.parameters.length) = some 2 := by decide +kernel
theorem ml_unsubscribeOne : Cond.methodLink RX12 573 yX12_unsubscribeOne ∈ TB := tw_2161
theorem mc_disconnect : Cond.code yX12_disconnect cX12_disconnect 5 none ∈ TB := tw_2172
theorem mi_disconnect : Cond.instanceMethod yX12_disconnect ∈ TB := tw_2171
theorem me_disconnect : Cond.selects RX12 yX12_disconnect yX12_disconnect ∈ TB := tp_105
theorem md_disconnect : yX12_disconnect.cls ≠ "java/lang/invoke/MethodHandle" ∧ yX12_disconnect.cls ≠ "java/lang/invoke/VarHandle" ∧ (parseMethodDescriptor yX12_disconnect.desc).map (fun d => d.parameters.length) = some 0 := by decide +kernel
theorem ml_disconnect : Cond.methodLink RX12 416 yX12_disconnect ∈ TB := tw_2169
theorem mc_pass : Cond.code yX12_pass cX12_pass 4 (some .int) ∈ TB := tw_2200
theorem mi_pass : Cond.instanceMethod yX12_pass ∈ TB := tw_2198
theorem me_pass : Cond.selects RX12 yX12_pass yX12_pass ∈ TB := tw_2199
theorem md_pass : yX12_pass.cls ≠ "java/lang/invoke/MethodHandle" ∧ yX12_pass.cls ≠ "java/lang/invoke/VarHandle" ∧ (parseMethodDescriptor yX12_pass.desc).map (fun d => d.parameters.length) = some 1 := by decide +kernel
theorem mc_second : Cond.code yX12_second cX12_second 3 none ∈ TB := tw_2204
theorem mi_second : Cond.instanceMethod yX12_second ∈ TB := tw_2203
theorem me_second : Cond.selects RX12 yX12_second yX12_second ∈ TB := tp_106
theorem md_second : yX12_second.cls ≠ "java/lang/invoke/MethodHandle" ∧ yX12_second.cls ≠ "java/lang/invoke/VarHandle" ∧ (parseMethodDescriptor yX12_second.desc).map (fun d => d.parameters.length) = some 0 := by decide +kernel
theorem ml_second : Cond.methodLink RX12 576 yX12_second ∈ TB := tw_2201
theorem mc_isSession : Cond.code yX12_isSession cX12_isSession 2 (some .boolean) ∈ TB := tw_2210
theorem mi_isSession : Cond.instanceMethod yX12_isSession ∈ TB := tw_2208
theorem me_isSession : Cond.selects RX12 yX12_isSession yX12_isSession ∈ TB := tw_2209
theorem md_isSession : yX12_isSession.cls ≠ "java/lang/invoke/MethodHandle" ∧ yX12_isSession.cls ≠ "java/lang/invoke/VarHandle" ∧ (parseMethodDescriptor yX12_isSession.desc).map (fun d => d.parameters.length) = some 1 := by decide +kernel
theorem mc_session : Cond.code yX12_session cX12_session 3 (some .int) ∈ TB := tw_2218
theorem mi_session : Cond.instanceMethod yX12_session ∈ TB := tw_2216
theorem me_session : Cond.selects RX12 yX12_session yX12_session ∈ TB := tw_2217
theorem md_session : yX12_session.cls ≠ "java/lang/invoke/MethodHandle" ∧ yX12_session.cls ≠ "java/lang/invoke/VarHandle" ∧ (parseMethodDescriptor yX12_session.desc).map (fun d => d.parameters.length) = some 2 := by decide +kernel
theorem mc_expiry : Cond.code yX12_expiry cX12_expiry 2 (some .long) ∈ TB := tw_2222
theorem mi_expiry : Cond.instanceMethod yX12_expiry ∈ TB := tw_2220
theorem me_expiry : Cond.selects RX12 yX12_expiry yX12_expiry ∈ TB := tw_2221
theorem md_expiry : yX12_expiry.cls ≠ "java/lang/invoke/MethodHandle" ∧ yX12_expiry.cls ≠ "java/lang/invoke/VarHandle" ∧ (parseMethodDescriptor yX12_expiry.desc).map (fun d => d.parameters.length) = some 1 := by decide +kernel
theorem mc_id : Cond.code yX12_id cX12_id 3 (some .int) ∈ TB := tw_2226
theorem mi_id : Cond.instanceMethod yX12_id ∈ TB := tw_2224
theorem me_id : Cond.selects RX12 yX12_id yX12_id ∈ TB := tw_2225
theorem md_id : yX12_id.cls ≠ "java/lang/invoke/MethodHandle" ∧ yX12_id.cls ≠ "java/lang/invoke/VarHandle" ∧ (parseMethodDescriptor yX12_id.desc).map (fun d => d.parameters.length) = some 2 := by decide +kernel
theorem mc_hasSub : Cond.code yX12_hasSub cX12_hasSub 3 (some .boolean) ∈ TB := tw_2234
theorem mi_hasSub : Cond.instanceMethod yX12_hasSub ∈ TB := tw_2233
theorem me_hasSub : Cond.selects RX12 yX12_hasSub yX12_hasSub ∈ TB := tp_108
theorem md_hasSub : yX12_hasSub.cls ≠ "java/lang/invoke/MethodHandle" ∧ yX12_hasSub.cls ≠ "java/lang/invoke/VarHandle" ∧ (parseMethodDescriptor yX12_hasSub.desc).map (fun d => d.parameters.length) = some 2 := by decide +kernel
theorem ml_hasSub : Cond.methodLink RX12 586 yX12_hasSub ∈ TB := tw_2231
theorem mc_subscription : Cond.code yX12_subscription cX12_subscription 5 (some .int) ∈ TB := tw_2230
theorem mi_subscription : Cond.instanceMethod yX12_subscription ∈ TB := tw_2228
theorem me_subscription : Cond.selects RX12 yX12_subscription yX12_subscription ∈ TB := tw_2229
theorem md_subscription : yX12_subscription.cls ≠ "java/lang/invoke/MethodHandle" ∧ yX12_subscription.cls ≠ "java/lang/invoke/VarHandle" ∧ (parseMethodDescriptor yX12_subscription.desc).map (fun d => d.parameters.length) = some 3 := by decide +kernel
theorem mc_filter : Cond.code yX12_filter cX12_filter 5 (some .int) ∈ TB := tw_2238
theorem mi_filter : Cond.instanceMethod yX12_filter ∈ TB := tw_2236
theorem me_filter : Cond.selects RX12 yX12_filter yX12_filter ∈ TB := tw_2237
theorem md_filter : yX12_filter.cls ≠ "java/lang/invoke/MethodHandle" ∧ yX12_filter.cls ≠ "java/lang/invoke/VarHandle" ∧ (parseMethodDescriptor yX12_filter.desc).map (fun d => d.parameters.length) = some 3 := by decide +kernel
theorem mc_retained : Cond.code yX12_retained cX12_retained 4 (some .int) ∈ TB := tw_2242
theorem mi_retained : Cond.instanceMethod yX12_retained ∈ TB := tw_2240
theorem me_retained : Cond.selects RX12 yX12_retained yX12_retained ∈ TB := tw_2241
theorem md_retained : yX12_retained.cls ≠ "java/lang/invoke/MethodHandle" ∧ yX12_retained.cls ≠ "java/lang/invoke/VarHandle" ∧ (parseMethodDescriptor yX12_retained.desc).map (fun d => d.parameters.length) = some 2 := by decide +kernel
theorem mc_kept : Cond.code yX12_kept cX12_kept 6 (some .int) ∈ TB := tw_2248
theorem mi_kept : Cond.instanceMethod yX12_kept ∈ TB := tw_2246
theorem me_kept : Cond.selects RX12 yX12_kept yX12_kept ∈ TB := tw_2247
theorem md_kept : yX12_kept.cls ≠ "java/lang/invoke/MethodHandle" ∧ yX12_kept.cls ≠ "java/lang/invoke/VarHandle" ∧ (parseMethodDescriptor yX12_kept.desc).map (fun d => d.parameters.length) = some 3 := by decide +kernel
theorem mc_told : Cond.code yX12_told cX12_told 4 (some .int) ∈ TB := tw_2252
theorem mi_told : Cond.instanceMethod yX12_told ∈ TB := tw_2250
theorem me_told : Cond.selects RX12 yX12_told yX12_told ∈ TB := tw_2251
theorem md_told : yX12_told.cls ≠ "java/lang/invoke/MethodHandle" ∧ yX12_told.cls ≠ "java/lang/invoke/VarHandle" ∧ (parseMethodDescriptor yX12_told.desc).map (fun d => d.parameters.length) = some 1 := by decide +kernel
theorem ini12 : Cond.initialized RX12 ∈ TB := tw_10
