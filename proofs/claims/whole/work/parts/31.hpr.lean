/-- the class's methods: the bundle of what holds in one -/
def Bc {ρ : Type} (g : Gm Hp ρ) (cc : ByteArray) (nL : Nat) (own : String) (vo : ρ → Option Value) (ret : Option FieldType) (fr lo : Nat) : Prop :=
  Cx g cc nL own ∧ Fx g fr lo ∧ g.2.2.2.2.2.2.2.2.2.2.1 = Rc g.1 ∧ g.2.2.2.2.2.2.2.2.2.2.2.1 = hcs
abbrev MH {ρ : Type} (w : Wd) (y : MethodName) (cc : ByteArray) (nL : Nat) (ret : Option FieldType) (fr lo : Nat) (vo : ρ → Option Value) (av : List Value) (P : Hp → Option (ρ × Hp)) : Prop := MC w (Rc w) hcs y cc nL ret fr lo vo av P
section HPP
theorem fV_sfi {h : Hp} {c k a : Nat} {v : Int32} (hk : k < 100) (h1 : fty c k ≠ 1) (h2 : fty c k ≠ 2) (j : Nat) (hj : j < 100) : updV (fV h c a) k (.int v) j = fV (sfi h (100 * c + k) a v) c a j := by
  by_cases e : j = k
  · subst e; simp [updV, fV, h1, h2, sfi, hfi, u2]
  · have e2 : ¬ 100 * c + j = 100 * c + k := by omega
    simp [updV, e, fV, sfi, hfi, hfl, hfr, u2]
theorem fV_sfl {h : Hp} {c k a : Nat} {v : Int64} (hk : k < 100) (h1 : fty c k = 1) (j : Nat) (hj : j < 100) : updV (fV h c a) k (.long v) j = fV (sfl h (100 * c + k) a v) c a j := by
  by_cases e : j = k
  · subst e; simp [updV, fV, h1, sfl, hfl, u2]
  · have e2 : ¬ 100 * c + j = 100 * c + k := by omega
    simp [updV, e, fV, sfl, hfi, hfl, hfr, u2]
theorem fV_sfr {h : Hp} {c k a : Nat} {v : Option Nat} (hk : k < 100) (h1 : fty c k = 2) (j : Nat) (hj : j < 100) : updV (fV h c a) k (va_rf v) j = fV (sfr h (100 * c + k) a v) c a j := by
  by_cases e : j = k
  · subst e; simp [updV, fV, h1, sfr, hfr, u2]
  · have e2 : ¬ 100 * c + j = 100 * c + k := by omega
    simp [updV, e, fV, sfr, hfi, hfl, hfr, u2]
theorem vwN : ∀ c, c < 15 → ∀ r, vwCl[c]? = some r → r.2.2 ≤ 99 := by
  intro c hc r hr
  rcases c with _ | _ | _ | _ | _ | _ | _ | _ | _ | _ | _ | _ | _ | _ | _ | c
  all_goals first | (cases hr; decide) | omega
/-- a field of an object was written -/
theorem Rc.put {w : Wd} {h h' : Hp} {H H1 : Heap} {c a : Nat} {r : vw_C} {V : Nat → Value} (hR : Rc w h H) (hc : vwCl[c]? = some r) (hk : hkd h a = c + 1) (hO : t_OB a (w.1.1 c) r.2.2 (w.1.2 c) H1 V) (hz : H1.size = H.size) (oq : ∀ q : Nat, q ≠ a → H1[q]? = H[q]?)
    (e0 : hnx h' = hnx h) (e1 : hkd h' = hkd h) (e2 : ∀ x c k, x ≠ a → fV h' c x k = fV h c x k) (e3 : ∀ x t, aV w h' x t = aV w h x t) (e4 : ∀ j, j < r.2.2 → V j = fV h' c a j) : Rc w h' H1 := by
  obtain ⟨r1, r2, r3, r4⟩ := hR
  refine ⟨by rw [hz, r1, e0], fun x hx => ?_, fun q hq => r3 q (by rw [← e0]; exact hq), fun x => ?_⟩
  · rw [e1] at hx; rw [e0]; exact r2 x hx
  · by_cases hx : x = a
    · subst hx
      refine ⟨fun c' hc' hk' => ?_, fun t ht => ?_⟩
      · rw [e1, hk] at hk'
        have : c' = c := by omega
        subst this
        exact ⟨r, hc, t_OB.to hO e4⟩
      · rw [e1, hk] at ht
        have hl : c < 15 := by
          have := (List.getElem?_eq_some_iff.mp hc).1
          simpa [vwCl] using this
        omega
    · exact (r4 x).kept (oq x hx) (by rw [e1]) (fun c k => e2 x c k hx) (fun t => e3 x t)
/-- an element of an array was written -/
theorem Rc.putA {w : Wd} {h h' : Hp} {H H1 : Heap} {t a : Nat} (hR : Rc w h H) (hk : hkd h a = 101 + t) (hO : H1[a]? = some (aV w h' a t)) (hz : H1.size = H.size) (oq : ∀ q : Nat, q ≠ a → H1[q]? = H[q]?)
    (e0 : hnx h' = hnx h) (e1 : hkd h' = hkd h) (e2 : ∀ x c k, fV h' c x k = fV h c x k) (e3 : ∀ x t, x ≠ a → aV w h' x t = aV w h x t) : Rc w h' H1 := by
  obtain ⟨r1, r2, r3, r4⟩ := hR
  refine ⟨by rw [hz, r1, e0], fun x hx => ?_, fun q hq => r3 q (by rw [← e0]; exact hq), fun x => ?_⟩
  · rw [e1] at hx; rw [e0]; exact r2 x hx
  · by_cases hx : x = a
    · subst hx
      refine ⟨fun c' hc' hk' => ?_, fun t' ht => ?_⟩
      · rw [e1, hk] at hk'; omega
      · rw [e1, hk] at ht
        have : t' = t := by omega
        subst this
        exact hO
    · exact (r4 x).kept (oq x hx) (by rw [e1]) (fun c k => e2 x c k) (fun t => e3 x t hx)
/-- a cell was made -/
theorem Rc.mk {w : Wd} {h h' : Hp} {H H1 : Heap} (hR : Rc w h H) (hz : H1.size = hnx h + 1) (oq : ∀ q : Nat, q < hnx h → H1[q]? = H[q]?) (e0 : hnx h' = hnx h + 1) (e1 : ∀ x, x ≠ hnx h → hkd h' x = hkd h x) (e2 : ∀ x c k, x ≠ hnx h → fV h' c x k = fV h c x k) (e3 : ∀ x t, x ≠ hnx h → aV w h' x t = aV w h x t) (e4 : cel w h' (hnx h) H1) : Rc w h' H1 := by
  obtain ⟨r1, r2, r3, r4⟩ := hR
  refine ⟨by rw [hz, e0], fun x hx => ?_, fun q hq => r3 q (by omega), fun x => ?_⟩
  · by_cases hx' : x = hnx h
    · subst hx'; exact ⟨r3 _ (Nat.le_refl _), by omega⟩
    · rw [e1 x hx'] at hx; have := r2 x hx; exact ⟨this.1, by omega⟩
  · by_cases hx' : x = hnx h
    · subst hx'; exact e4
    · by_cases hl : x < hnx h
      · exact (r4 x).kept (oq x hl) (e1 x hx') (fun c k => e2 x c k hx') (fun t => e3 x t hx')
      · have hk0 : hkd h x = 0 := by
          by_cases q : hkd h x = 0
          · exact q
          · exact absurd (r2 x q).2 hl
        exact ⟨fun c _ hk => by rw [e1 x hx', hk0] at hk; omega, fun t ht => by rw [e1 x hx', hk0] at ht; omega⟩
end HPP
theorem ob_putF {p : Program} {l : Launch} {e : Env} {R : Room} {s : State} {m : MethodId} {args : Array Value} {below : List Frame} {meth : Method} {c : Code} {H : Heap} {locs : List Loc} {cells slots : Nat} {Q : State → Prop} {cc : ByteArray} {pc : Nat} {ls : Array Slot} {rest : List Value} {a : Nat} (hx : p.tables.exec = Jvm.exec) (hb : c.code = cc) {own C : String} {T : u_T} {N idx : Nat} {cC : ClassId} {iS : Nat → Nat} {V : Nat → Value} {Ts : List Cond} (hts : ∀ w ∈ Ts, w.before args s = true) (hin : ∀ w ∈ u_ws C T N, w ∈ Ts) (ty0 : Nat → FieldType) (hty : ∀ k, k < N → parseFieldDescriptor (T k).2.2.1 = some (ty0 k)) (hnm : ∀ a, a < N → ∀ b, b < N → a ≠ b → (T a).2.1 ≠ (T b).2.1) (hown : s.vm.findClass own = some m.cls) (hK : u_Kn s C T N cC iS) (hO : t_OB a cC N iS H V) {k : Nat} (hk : k < N) (hlink : (Cond.fieldLink own idx (T k).1 (T k).2.1 (T k).2.2.1).before args s = true) (hfin : (T k).2.2.2 = true) (hdecl : (T k).1 = own) (hin2 : meth.name = "<init>") {ty : FieldType} {v : Value} (hdd : parseFieldDescriptor (T k).2.2.1 = some ty) (hn : narrow ty v = v) (hfit : fits ty v = true) (hd : decode cc pc = .ok (.putfield idx, 3))
    (kk : ∀ (H1 : Heap) (i : Nat), t_OB a cC N iS H1 (updV V k v) → H1.size = H.size → (∀ q : Nat, q ≠ a → H1[q]? = H[q]?) → W p l e R s m args below meth c H1 (locs ++ [⟨a, i⟩]) cells slots Q (F0 m (pc + 3) ls rest)) : W p l e R s m args below meth c H locs cells slots Q (F0 m pc ls (v :: .ref a :: rest)) := by
  obtain ⟨cell, q1, q2, q3, q4⟩ := hO
  obtain ⟨hS, hfc, kC, hkC, hkind⟩ := hK
  have hap : ∀ x y, x < N → y < N → x ≠ y → iS x ≠ iS y := by
    intro x y hx hy hne
    obtain ⟨_, _, _, fa, hia, ea⟩ := hS x hx
    obtain ⟨_, _, _, fb, hib, eb⟩ := hS y hy
    rw [← ea, ← eb]
    refine u_apart (u_lays hts hin hx) (u_lays hts hin hy) hia hib ?_
    rw [(State.fieldFound?_type hia (hty x hx)).1, (State.fieldFound?_type hib (hty y hy)).1]
    exact hnm x hx y hy hne
  obtain ⟨cf, kf, fi, f, hi, hsl⟩ := hS k hk
  have hlay := hts _ (hin _ (u_in_lay hk))
  unfold u_lay at hlay
  rw [if_pos hfin] at hlay
  have hst := (u_facts hfc hkC (u_lays hts hin hk) hi).1
  have hcf : m.cls = cf := by
    obtain ⟨_, _, c', _, _, _, -, -, hf', -, -, -, hown2, -⟩ := Cond.laysFinal_spec hlay
    have e1 : c' = cf := by have := hi.symm.trans hf'; simp at this; exact this.1.symm
    rw [hdecl] at hown2
    rw [← e1]; exact Option.some.inj (hown.symm.trans hown2)
  have h6 := u_fits hfc hkC hkind (Or.inr hlay) hi hdd hn hfit
  refine W.putFinK hx hb hown hlink hi hst hcf hin2 (by rw [q2]; exact h6) q1 q3 (by rw [hsl]; exact k2_hasslot (q4 k hk)) rfl rfl hd fun H' e1 e2 e3 => ?_
  rw [hsl] at e1 ⊢
  exact kk H' _ ⟨_, e1, q2, q3, t_set q4 hap hk v⟩ e2 e3
section HPR
variable {ρ : Type} {g : Gm Hp ρ} {cc : ByteArray} {nL pc : Nat} {own : String} {lv : List (Nat × Value)} {st : List Value} {vo : ρ → Option Value} {ret : Option FieldType} {fr lo : Nat} {P : Hp → Option (ρ × Hp)}
theorem hp_getI (B : Bc g cc nL own vo ret fr lo) {C : String} {T : u_T} {N : Nat} (c k : Nat) (hc : vwCl[c]? = some (C, T, N)) (hc1 : c < 100) (hin : ∀ w ∈ u_ws C T N, w ∈ TB) (hk : k < N) (h1 : fty c k ≠ 1) (h2 : fty c k ≠ 2) {idx : Nat} (hlink : Cond.fieldLink own idx (T k).1 (T k).2.1 (T k).2.2.1 ∈ TB) (d : decode cc pc = .ok (.getfield idx, 3)) {r : Option Nat} {f : Int32 → Hp → Option (ρ × Hp)}
    (kk : ∀ v, Sm g nL (pc + 3) lv (.int v :: st) (f v)) : Sm g nL pc lv (va_rf r :: st) (hgI c k r f) := by
  obtain ⟨w, p, e, R, s, m, args, below, meth, cd, Rl, cs, b, Qf⟩ := g
  obtain ⟨⟨hx, hb, hml, hown, hts, hlocks, hG, hw⟩, -, eR, eC⟩ := B
  have eR : Rl = Rc w := eR
  have eC : cs = hcs := eC
  subst eR; subst eC
  cases r with
  | none => exact Sm.fail
  | some a =>
    refine ⟨fun σ r σ' hP => ?_, fun σ r σ' H locs ls hP hR hS hl b1 b2 b3 b4 => ?_⟩
    · unfold hgI at hP
      by_cases hq : hkd σ a = c + 1
      · simp only [hq, if_true] at hP; exact (kk _).1 σ r σ' hP
      · simp [hq] at hP
    · unfold hgI at hP
      by_cases hq : hkd σ a = c + 1
      · simp only [hq, if_true] at hP
        obtain ⟨r', e1, hO⟩ := (hR.2.2.2 a).1 c hc1 hq
        have e2 : r' = (C, T, N) := Option.some.inj (e1.symm.trans hc)
        subst e2
        refine ob_get hx hb hts hin hown (hG.1.1 c _ hc) hO hk (hts _ hlink) d ?_
        rw [show fV σ c a k = .int (hfi σ (100 * c + k) a) by simp [fV, h1, h2]]
        exact (kk _).2 σ r σ' H locs ls hP hR hS hl b1 b2 b3 b4
      · simp [hq] at hP
theorem hp_getL (B : Bc g cc nL own vo ret fr lo) {C : String} {T : u_T} {N : Nat} (c k : Nat) (hc : vwCl[c]? = some (C, T, N)) (hc1 : c < 100) (hin : ∀ w ∈ u_ws C T N, w ∈ TB) (hk : k < N) (h1 : fty c k = 1) {idx : Nat} (hlink : Cond.fieldLink own idx (T k).1 (T k).2.1 (T k).2.2.1 ∈ TB) (d : decode cc pc = .ok (.getfield idx, 3)) {r : Option Nat} {f : Int64 → Hp → Option (ρ × Hp)}
    (kk : ∀ v, Sm g nL (pc + 3) lv (.long v :: st) (f v)) : Sm g nL pc lv (va_rf r :: st) (hgL c k r f) := by
  obtain ⟨w, p, e, R, s, m, args, below, meth, cd, Rl, cs, b, Qf⟩ := g
  obtain ⟨⟨hx, hb, hml, hown, hts, hlocks, hG, hw⟩, -, eR, eC⟩ := B
  have eR : Rl = Rc w := eR
  have eC : cs = hcs := eC
  subst eR; subst eC
  cases r with
  | none => exact Sm.fail
  | some a =>
    refine ⟨fun σ r σ' hP => ?_, fun σ r σ' H locs ls hP hR hS hl b1 b2 b3 b4 => ?_⟩
    · unfold hgL at hP
      by_cases hq : hkd σ a = c + 1
      · simp only [hq, if_true] at hP; exact (kk _).1 σ r σ' hP
      · simp [hq] at hP
    · unfold hgL at hP
      by_cases hq : hkd σ a = c + 1
      · simp only [hq, if_true] at hP
        obtain ⟨r', e1, hO⟩ := (hR.2.2.2 a).1 c hc1 hq
        have e2 : r' = (C, T, N) := Option.some.inj (e1.symm.trans hc)
        subst e2
        refine ob_get hx hb hts hin hown (hG.1.1 c _ hc) hO hk (hts _ hlink) d ?_
        rw [show fV σ c a k = .long (hfl σ (100 * c + k) a) by simp [fV, h1]]
        exact (kk _).2 σ r σ' H locs ls hP hR hS hl b1 b2 b3 b4
      · simp [hq] at hP
theorem hp_getR (B : Bc g cc nL own vo ret fr lo) {C : String} {T : u_T} {N : Nat} (c k : Nat) (hc : vwCl[c]? = some (C, T, N)) (hc1 : c < 100) (hin : ∀ w ∈ u_ws C T N, w ∈ TB) (hk : k < N) (h1 : fty c k = 2) {idx : Nat} (hlink : Cond.fieldLink own idx (T k).1 (T k).2.1 (T k).2.2.1 ∈ TB) (d : decode cc pc = .ok (.getfield idx, 3)) {r : Option Nat} {f : Option Nat → Hp → Option (ρ × Hp)}
    (kk : ∀ v, Sm g nL (pc + 3) lv (va_rf v :: st) (f v)) : Sm g nL pc lv (va_rf r :: st) (hgR c k r f) := by
  obtain ⟨w, p, e, R, s, m, args, below, meth, cd, Rl, cs, b, Qf⟩ := g
  obtain ⟨⟨hx, hb, hml, hown, hts, hlocks, hG, hw⟩, -, eR, eC⟩ := B
  have eR : Rl = Rc w := eR
  have eC : cs = hcs := eC
  subst eR; subst eC
  cases r with
  | none => exact Sm.fail
  | some a =>
    refine ⟨fun σ r σ' hP => ?_, fun σ r σ' H locs ls hP hR hS hl b1 b2 b3 b4 => ?_⟩
    · unfold hgR at hP
      by_cases hq : hkd σ a = c + 1
      · simp only [hq, if_true] at hP; exact (kk _).1 σ r σ' hP
      · simp [hq] at hP
    · unfold hgR at hP
      by_cases hq : hkd σ a = c + 1
      · simp only [hq, if_true] at hP
        obtain ⟨r', e1, hO⟩ := (hR.2.2.2 a).1 c hc1 hq
        have e2 : r' = (C, T, N) := Option.some.inj (e1.symm.trans hc)
        subst e2
        refine ob_get hx hb hts hin hown (hG.1.1 c _ hc) hO hk (hts _ hlink) d ?_
        rw [show fV σ c a k = va_rf (hfr σ (100 * c + k) a) by simp [fV, h1]]
        exact (kk _).2 σ r σ' H locs ls hP hR hS hl b1 b2 b3 b4
      · simp [hq] at hP
theorem hp_putI (B : Bc g cc nL own vo ret fr lo) {C : String} {T : u_T} {N : Nat} (c k : Nat) (hc : vwCl[c]? = some (C, T, N)) (hc1 : c < 15) (hin : ∀ w ∈ u_ws C T N, w ∈ TB) (ty0 : Nat → FieldType) (hty0 : ∀ k, k < N → parseFieldDescriptor (T k).2.2.1 = some (ty0 k)) (hnm : ∀ a, a < N → ∀ b, b < N → a ≠ b → (T a).2.1 ≠ (T b).2.1) (hk : k < N) (h1 : fty c k ≠ 1) (h2 : fty c k ≠ 2) (hty : parseFieldDescriptor (T k).2.2.1 = some .int) (hfin : (T k).2.2.2 = false) {idx : Nat} (hlink : Cond.fieldLink own idx (T k).1 (T k).2.1 (T k).2.2.1 ∈ TB) (d : decode cc pc = .ok (.putfield idx, 3)) {r : Option Nat} {v : Int32}
    (kk : Sm g nL (pc + 3) lv st P) : Sm g nL pc lv (.int v :: va_rf r :: st) (hpI c k r v P) := by
  skip
  obtain ⟨w, p, e, R, s, m, args, below, meth, cd, Rl, cs, b, Qf⟩ := g
  obtain ⟨⟨hx, hb, hml, hown, hts, hlocks, hG, hw⟩, -, eR, eC⟩ := B
  have eR : Rl = Rc w := eR
  have eC : cs = hcs := eC
  subst eR; subst eC
  have hN : N ≤ 99 := vwN c hc1 _ hc
  cases r with
  | none => exact Sm.fail
  | some a =>
    refine ⟨fun σ r σ' hP => ?_, fun σ r σ' H locs ls hP hR hS hl b1 b2 b3 b4 => ?_⟩
    · unfold hpI at hP
      by_cases hq : hkd σ a = c + 1
      · simp only [hq, if_true] at hP; exact kk.1 (sfi σ (100 * c + k) a v) r σ' hP
      · simp [hq] at hP
    · unfold hpI at hP
      by_cases hq : hkd σ a = c + 1
      · simp only [hq, if_true] at hP
        obtain ⟨r', e1, hO⟩ := (hR.2.2.2 a).1 c (by omega) hq
        have e2 : r' = (C, T, N) := Option.some.inj (e1.symm.trans hc)
        subst e2
        refine ob_put hx hb hts hin ty0 hty0 hnm hown (hG.1.1 c _ hc) hO hk (hts _ hlink) hfin (v := .int v) hty rfl rfl d (fun H1 i hO1 hz oq => ?_)
        refine kk.2 (sfi σ (100 * c + k) a v) r σ' H1 _ ls hP (hR.put (r := (C, T, N)) hc hq hO1 hz oq rfl rfl (fun x c' k' hne => ?_) (fun x t => rfl) (fun j hj => ?_)) (hS.put hz oq (hR.2.1 a (by omega)).1) hl b1 b2 b3 b4
        · simp [fV, sfi, hfi, hfl, hfr, u2, hne]
        · have hj : j < N := hj
          exact fV_sfi (by omega) h1 h2 j (by omega)
      · simp [hq] at hP
theorem hp_putIF (B : Bc g cc nL own vo ret fr lo) {C : String} {T : u_T} {N : Nat} (c k : Nat) (hc : vwCl[c]? = some (C, T, N)) (hc1 : c < 15) (hin : ∀ w ∈ u_ws C T N, w ∈ TB) (ty0 : Nat → FieldType) (hty0 : ∀ k, k < N → parseFieldDescriptor (T k).2.2.1 = some (ty0 k)) (hnm : ∀ a, a < N → ∀ b, b < N → a ≠ b → (T a).2.1 ≠ (T b).2.1) (hk : k < N) (h1 : fty c k ≠ 1) (h2 : fty c k ≠ 2) (hty : parseFieldDescriptor (T k).2.2.1 = some .int) (hfin : (T k).2.2.2 = true) (hdecl : (T k).1 = own) (hinit : g.2.2.2.2.2.2.2.2.1.name = "<init>") {idx : Nat} (hlink : Cond.fieldLink own idx (T k).1 (T k).2.1 (T k).2.2.1 ∈ TB) (d : decode cc pc = .ok (.putfield idx, 3)) {r : Option Nat} {v : Int32}
    (kk : Sm g nL (pc + 3) lv st P) : Sm g nL pc lv (.int v :: va_rf r :: st) (hpI c k r v P) := by
  skip
  obtain ⟨w, p, e, R, s, m, args, below, meth, cd, Rl, cs, b, Qf⟩ := g
  obtain ⟨⟨hx, hb, hml, hown, hts, hlocks, hG, hw⟩, -, eR, eC⟩ := B
  have eR : Rl = Rc w := eR
  have eC : cs = hcs := eC
  subst eR; subst eC
  have hN : N ≤ 99 := vwN c hc1 _ hc
  cases r with
  | none => exact Sm.fail
  | some a =>
    refine ⟨fun σ r σ' hP => ?_, fun σ r σ' H locs ls hP hR hS hl b1 b2 b3 b4 => ?_⟩
    · unfold hpI at hP
      by_cases hq : hkd σ a = c + 1
      · simp only [hq, if_true] at hP; exact kk.1 (sfi σ (100 * c + k) a v) r σ' hP
      · simp [hq] at hP
    · unfold hpI at hP
      by_cases hq : hkd σ a = c + 1
      · simp only [hq, if_true] at hP
        obtain ⟨r', e1, hO⟩ := (hR.2.2.2 a).1 c (by omega) hq
        have e2 : r' = (C, T, N) := Option.some.inj (e1.symm.trans hc)
        subst e2
        refine ob_putF hx hb hts hin ty0 hty0 hnm hown (hG.1.1 c _ hc) hO hk (hts _ hlink) hfin hdecl hinit (v := .int v) hty rfl rfl d (fun H1 i hO1 hz oq => ?_)
        refine kk.2 (sfi σ (100 * c + k) a v) r σ' H1 _ ls hP (hR.put (r := (C, T, N)) hc hq hO1 hz oq rfl rfl (fun x c' k' hne => ?_) (fun x t => rfl) (fun j hj => ?_)) (hS.put hz oq (hR.2.1 a (by omega)).1) hl b1 b2 b3 b4
        · simp [fV, sfi, hfi, hfl, hfr, u2, hne]
        · have hj : j < N := hj
          exact fV_sfi (by omega) h1 h2 j (by omega)
      · simp [hq] at hP
theorem hp_putL (B : Bc g cc nL own vo ret fr lo) {C : String} {T : u_T} {N : Nat} (c k : Nat) (hc : vwCl[c]? = some (C, T, N)) (hc1 : c < 15) (hin : ∀ w ∈ u_ws C T N, w ∈ TB) (ty0 : Nat → FieldType) (hty0 : ∀ k, k < N → parseFieldDescriptor (T k).2.2.1 = some (ty0 k)) (hnm : ∀ a, a < N → ∀ b, b < N → a ≠ b → (T a).2.1 ≠ (T b).2.1) (hk : k < N) (h1 : fty c k = 1) (hty : parseFieldDescriptor (T k).2.2.1 = some .long) (hfin : (T k).2.2.2 = false) {idx : Nat} (hlink : Cond.fieldLink own idx (T k).1 (T k).2.1 (T k).2.2.1 ∈ TB) (d : decode cc pc = .ok (.putfield idx, 3)) {r : Option Nat} {v : Int64}
    (kk : Sm g nL (pc + 3) lv st P) : Sm g nL pc lv (.long v :: va_rf r :: st) (hpL c k r v P) := by
  skip
  obtain ⟨w, p, e, R, s, m, args, below, meth, cd, Rl, cs, b, Qf⟩ := g
  obtain ⟨⟨hx, hb, hml, hown, hts, hlocks, hG, hw⟩, -, eR, eC⟩ := B
  have eR : Rl = Rc w := eR
  have eC : cs = hcs := eC
  subst eR; subst eC
  have hN : N ≤ 99 := vwN c hc1 _ hc
  cases r with
  | none => exact Sm.fail
  | some a =>
    refine ⟨fun σ r σ' hP => ?_, fun σ r σ' H locs ls hP hR hS hl b1 b2 b3 b4 => ?_⟩
    · unfold hpL at hP
      by_cases hq : hkd σ a = c + 1
      · simp only [hq, if_true] at hP; exact kk.1 (sfl σ (100 * c + k) a v) r σ' hP
      · simp [hq] at hP
    · unfold hpL at hP
      by_cases hq : hkd σ a = c + 1
      · simp only [hq, if_true] at hP
        obtain ⟨r', e1, hO⟩ := (hR.2.2.2 a).1 c (by omega) hq
        have e2 : r' = (C, T, N) := Option.some.inj (e1.symm.trans hc)
        subst e2
        refine ob_put hx hb hts hin ty0 hty0 hnm hown (hG.1.1 c _ hc) hO hk (hts _ hlink) hfin (v := .long v) hty rfl rfl d (fun H1 i hO1 hz oq => ?_)
        refine kk.2 (sfl σ (100 * c + k) a v) r σ' H1 _ ls hP (hR.put (r := (C, T, N)) hc hq hO1 hz oq rfl rfl (fun x c' k' hne => ?_) (fun x t => rfl) (fun j hj => ?_)) (hS.put hz oq (hR.2.1 a (by omega)).1) hl b1 b2 b3 b4
        · simp [fV, sfl, hfi, hfl, hfr, u2, hne]
        · have hj : j < N := hj
          exact fV_sfl (by omega) h1 j (by omega)
      · simp [hq] at hP
theorem hp_putLF (B : Bc g cc nL own vo ret fr lo) {C : String} {T : u_T} {N : Nat} (c k : Nat) (hc : vwCl[c]? = some (C, T, N)) (hc1 : c < 15) (hin : ∀ w ∈ u_ws C T N, w ∈ TB) (ty0 : Nat → FieldType) (hty0 : ∀ k, k < N → parseFieldDescriptor (T k).2.2.1 = some (ty0 k)) (hnm : ∀ a, a < N → ∀ b, b < N → a ≠ b → (T a).2.1 ≠ (T b).2.1) (hk : k < N) (h1 : fty c k = 1) (hty : parseFieldDescriptor (T k).2.2.1 = some .long) (hfin : (T k).2.2.2 = true) (hdecl : (T k).1 = own) (hinit : g.2.2.2.2.2.2.2.2.1.name = "<init>") {idx : Nat} (hlink : Cond.fieldLink own idx (T k).1 (T k).2.1 (T k).2.2.1 ∈ TB) (d : decode cc pc = .ok (.putfield idx, 3)) {r : Option Nat} {v : Int64}
    (kk : Sm g nL (pc + 3) lv st P) : Sm g nL pc lv (.long v :: va_rf r :: st) (hpL c k r v P) := by
  skip
  obtain ⟨w, p, e, R, s, m, args, below, meth, cd, Rl, cs, b, Qf⟩ := g
  obtain ⟨⟨hx, hb, hml, hown, hts, hlocks, hG, hw⟩, -, eR, eC⟩ := B
  have eR : Rl = Rc w := eR
  have eC : cs = hcs := eC
  subst eR; subst eC
  have hN : N ≤ 99 := vwN c hc1 _ hc
  cases r with
  | none => exact Sm.fail
  | some a =>
    refine ⟨fun σ r σ' hP => ?_, fun σ r σ' H locs ls hP hR hS hl b1 b2 b3 b4 => ?_⟩
    · unfold hpL at hP
      by_cases hq : hkd σ a = c + 1
      · simp only [hq, if_true] at hP; exact kk.1 (sfl σ (100 * c + k) a v) r σ' hP
      · simp [hq] at hP
    · unfold hpL at hP
      by_cases hq : hkd σ a = c + 1
      · simp only [hq, if_true] at hP
        obtain ⟨r', e1, hO⟩ := (hR.2.2.2 a).1 c (by omega) hq
        have e2 : r' = (C, T, N) := Option.some.inj (e1.symm.trans hc)
        subst e2
        refine ob_putF hx hb hts hin ty0 hty0 hnm hown (hG.1.1 c _ hc) hO hk (hts _ hlink) hfin hdecl hinit (v := .long v) hty rfl rfl d (fun H1 i hO1 hz oq => ?_)
        refine kk.2 (sfl σ (100 * c + k) a v) r σ' H1 _ ls hP (hR.put (r := (C, T, N)) hc hq hO1 hz oq rfl rfl (fun x c' k' hne => ?_) (fun x t => rfl) (fun j hj => ?_)) (hS.put hz oq (hR.2.1 a (by omega)).1) hl b1 b2 b3 b4
        · simp [fV, sfl, hfi, hfl, hfr, u2, hne]
        · have hj : j < N := hj
          exact fV_sfl (by omega) h1 j (by omega)
      · simp [hq] at hP
theorem hp_putR (B : Bc g cc nL own vo ret fr lo) {C : String} {T : u_T} {N : Nat} (c k : Nat) (hc : vwCl[c]? = some (C, T, N)) (hc1 : c < 15) (hin : ∀ w ∈ u_ws C T N, w ∈ TB) (ty0 : Nat → FieldType) (hty0 : ∀ k, k < N → parseFieldDescriptor (T k).2.2.1 = some (ty0 k)) (hnm : ∀ a, a < N → ∀ b, b < N → a ≠ b → (T a).2.1 ≠ (T b).2.1) (hk : k < N) (h1 : fty c k = 2) {ty : FieldType} (hty : parseFieldDescriptor (T k).2.2.1 = some ty) (hn : ∀ x : Option Nat, narrow ty (va_rf x) = va_rf x ∧ fits ty (va_rf x) = true) (hfin : (T k).2.2.2 = false) {idx : Nat} (hlink : Cond.fieldLink own idx (T k).1 (T k).2.1 (T k).2.2.1 ∈ TB) (d : decode cc pc = .ok (.putfield idx, 3)) {r : Option Nat} {v : Option Nat}
    (kk : Sm g nL (pc + 3) lv st P) : Sm g nL pc lv (va_rf v :: va_rf r :: st) (hpR c k r v P) := by
  skip
  obtain ⟨w, p, e, R, s, m, args, below, meth, cd, Rl, cs, b, Qf⟩ := g
  obtain ⟨⟨hx, hb, hml, hown, hts, hlocks, hG, hw⟩, -, eR, eC⟩ := B
  have eR : Rl = Rc w := eR
  have eC : cs = hcs := eC
  subst eR; subst eC
  have hN : N ≤ 99 := vwN c hc1 _ hc
  cases r with
  | none => exact Sm.fail
  | some a =>
    refine ⟨fun σ r σ' hP => ?_, fun σ r σ' H locs ls hP hR hS hl b1 b2 b3 b4 => ?_⟩
    · unfold hpR at hP
      by_cases hq : hkd σ a = c + 1
      · simp only [hq, if_true] at hP; exact kk.1 (sfr σ (100 * c + k) a v) r σ' hP
      · simp [hq] at hP
    · unfold hpR at hP
      by_cases hq : hkd σ a = c + 1
      · simp only [hq, if_true] at hP
        obtain ⟨r', e1, hO⟩ := (hR.2.2.2 a).1 c (by omega) hq
        have e2 : r' = (C, T, N) := Option.some.inj (e1.symm.trans hc)
        subst e2
        refine ob_put hx hb hts hin ty0 hty0 hnm hown (hG.1.1 c _ hc) hO hk (hts _ hlink) hfin (v := va_rf v) hty (hn v).1 (hn v).2 d (fun H1 i hO1 hz oq => ?_)
        refine kk.2 (sfr σ (100 * c + k) a v) r σ' H1 _ ls hP (hR.put (r := (C, T, N)) hc hq hO1 hz oq rfl rfl (fun x c' k' hne => ?_) (fun x t => rfl) (fun j hj => ?_)) (hS.put hz oq (hR.2.1 a (by omega)).1) hl b1 b2 b3 b4
        · simp [fV, sfr, hfi, hfl, hfr, u2, hne]
        · have hj : j < N := hj
          exact fV_sfr (by omega) h1 j (by omega)
      · simp [hq] at hP
theorem hp_putRF (B : Bc g cc nL own vo ret fr lo) {C : String} {T : u_T} {N : Nat} (c k : Nat) (hc : vwCl[c]? = some (C, T, N)) (hc1 : c < 15) (hin : ∀ w ∈ u_ws C T N, w ∈ TB) (ty0 : Nat → FieldType) (hty0 : ∀ k, k < N → parseFieldDescriptor (T k).2.2.1 = some (ty0 k)) (hnm : ∀ a, a < N → ∀ b, b < N → a ≠ b → (T a).2.1 ≠ (T b).2.1) (hk : k < N) (h1 : fty c k = 2) {ty : FieldType} (hty : parseFieldDescriptor (T k).2.2.1 = some ty) (hn : ∀ x : Option Nat, narrow ty (va_rf x) = va_rf x ∧ fits ty (va_rf x) = true) (hfin : (T k).2.2.2 = true) (hdecl : (T k).1 = own) (hinit : g.2.2.2.2.2.2.2.2.1.name = "<init>") {idx : Nat} (hlink : Cond.fieldLink own idx (T k).1 (T k).2.1 (T k).2.2.1 ∈ TB) (d : decode cc pc = .ok (.putfield idx, 3)) {r : Option Nat} {v : Option Nat}
    (kk : Sm g nL (pc + 3) lv st P) : Sm g nL pc lv (va_rf v :: va_rf r :: st) (hpR c k r v P) := by
  skip
  obtain ⟨w, p, e, R, s, m, args, below, meth, cd, Rl, cs, b, Qf⟩ := g
  obtain ⟨⟨hx, hb, hml, hown, hts, hlocks, hG, hw⟩, -, eR, eC⟩ := B
  have eR : Rl = Rc w := eR
  have eC : cs = hcs := eC
  subst eR; subst eC
  have hN : N ≤ 99 := vwN c hc1 _ hc
  cases r with
  | none => exact Sm.fail
  | some a =>
    refine ⟨fun σ r σ' hP => ?_, fun σ r σ' H locs ls hP hR hS hl b1 b2 b3 b4 => ?_⟩
    · unfold hpR at hP
      by_cases hq : hkd σ a = c + 1
      · simp only [hq, if_true] at hP; exact kk.1 (sfr σ (100 * c + k) a v) r σ' hP
      · simp [hq] at hP
    · unfold hpR at hP
      by_cases hq : hkd σ a = c + 1
      · simp only [hq, if_true] at hP
        obtain ⟨r', e1, hO⟩ := (hR.2.2.2 a).1 c (by omega) hq
        have e2 : r' = (C, T, N) := Option.some.inj (e1.symm.trans hc)
        subst e2
        refine ob_putF hx hb hts hin ty0 hty0 hnm hown (hG.1.1 c _ hc) hO hk (hts _ hlink) hfin hdecl hinit (v := va_rf v) hty (hn v).1 (hn v).2 d (fun H1 i hO1 hz oq => ?_)
        refine kk.2 (sfr σ (100 * c + k) a v) r σ' H1 _ ls hP (hR.put (r := (C, T, N)) hc hq hO1 hz oq rfl rfl (fun x c' k' hne => ?_) (fun x t => rfl) (fun j hj => ?_)) (hS.put hz oq (hR.2.1 a (by omega)).1) hl b1 b2 b3 b4
        · simp [fV, sfr, hfi, hfl, hfr, u2, hne]
        · have hj : j < N := hj
          exact fV_sfr (by omega) h1 j (by omega)
      · simp [hq] at hP
theorem hp_putZ (B : Bc g cc nL own vo ret fr lo) {C : String} {T : u_T} {N : Nat} (c k : Nat) (hc : vwCl[c]? = some (C, T, N)) (hc1 : c < 15) (hin : ∀ w ∈ u_ws C T N, w ∈ TB) (ty0 : Nat → FieldType) (hty0 : ∀ k, k < N → parseFieldDescriptor (T k).2.2.1 = some (ty0 k)) (hnm : ∀ a, a < N → ∀ b, b < N → a ≠ b → (T a).2.1 ≠ (T b).2.1) (hk : k < N) (h1 : fty c k ≠ 1) (h2 : fty c k ≠ 2) (hty : parseFieldDescriptor (T k).2.2.1 = some .boolean) (hfin : (T k).2.2.2 = false) {idx : Nat} (hlink : Cond.fieldLink own idx (T k).1 (T k).2.1 (T k).2.2.1 ∈ TB) (d : decode cc pc = .ok (.putfield idx, 3)) {r : Option Nat} {v : Int32}
    (kk : Sm g nL (pc + 3) lv st P) : Sm g nL pc lv (.int v :: va_rf r :: st) (hpZ c k r v P) := by
  refine Sm.guard fun hz0 => ?_
  obtain ⟨w, p, e, R, s, m, args, below, meth, cd, Rl, cs, b, Qf⟩ := g
  obtain ⟨⟨hx, hb, hml, hown, hts, hlocks, hG, hw⟩, -, eR, eC⟩ := B
  have eR : Rl = Rc w := eR
  have eC : cs = hcs := eC
  subst eR; subst eC
  have hN : N ≤ 99 := vwN c hc1 _ hc
  cases r with
  | none => exact Sm.fail
  | some a =>
    refine ⟨fun σ r σ' hP => ?_, fun σ r σ' H locs ls hP hR hS hl b1 b2 b3 b4 => ?_⟩
    · unfold hpI at hP
      by_cases hq : hkd σ a = c + 1
      · simp only [hq, if_true] at hP; exact kk.1 (sfi σ (100 * c + k) a v) r σ' hP
      · simp [hq] at hP
    · unfold hpI at hP
      by_cases hq : hkd σ a = c + 1
      · simp only [hq, if_true] at hP
        obtain ⟨r', e1, hO⟩ := (hR.2.2.2 a).1 c (by omega) hq
        have e2 : r' = (C, T, N) := Option.some.inj (e1.symm.trans hc)
        subst e2
        refine ob_put hx hb hts hin ty0 hty0 hnm hown (hG.1.1 c _ hc) hO hk (hts _ hlink) hfin (v := .int v) hty (by rcases hz0 with rfl | rfl <;> rfl) (by rcases hz0 with rfl | rfl <;> rfl) d (fun H1 i hO1 hz oq => ?_)
        refine kk.2 (sfi σ (100 * c + k) a v) r σ' H1 _ ls hP (hR.put (r := (C, T, N)) hc hq hO1 hz oq rfl rfl (fun x c' k' hne => ?_) (fun x t => rfl) (fun j hj => ?_)) (hS.put hz oq (hR.2.1 a (by omega)).1) hl b1 b2 b3 b4
        · simp [fV, sfi, hfi, hfl, hfr, u2, hne]
        · have hj : j < N := hj
          exact fV_sfi (by omega) h1 h2 j (by omega)
      · simp [hq] at hP
theorem hp_putZF (B : Bc g cc nL own vo ret fr lo) {C : String} {T : u_T} {N : Nat} (c k : Nat) (hc : vwCl[c]? = some (C, T, N)) (hc1 : c < 15) (hin : ∀ w ∈ u_ws C T N, w ∈ TB) (ty0 : Nat → FieldType) (hty0 : ∀ k, k < N → parseFieldDescriptor (T k).2.2.1 = some (ty0 k)) (hnm : ∀ a, a < N → ∀ b, b < N → a ≠ b → (T a).2.1 ≠ (T b).2.1) (hk : k < N) (h1 : fty c k ≠ 1) (h2 : fty c k ≠ 2) (hty : parseFieldDescriptor (T k).2.2.1 = some .boolean) (hfin : (T k).2.2.2 = true) (hdecl : (T k).1 = own) (hinit : g.2.2.2.2.2.2.2.2.1.name = "<init>") {idx : Nat} (hlink : Cond.fieldLink own idx (T k).1 (T k).2.1 (T k).2.2.1 ∈ TB) (d : decode cc pc = .ok (.putfield idx, 3)) {r : Option Nat} {v : Int32}
    (kk : Sm g nL (pc + 3) lv st P) : Sm g nL pc lv (.int v :: va_rf r :: st) (hpZ c k r v P) := by
  refine Sm.guard fun hz0 => ?_
  obtain ⟨w, p, e, R, s, m, args, below, meth, cd, Rl, cs, b, Qf⟩ := g
  obtain ⟨⟨hx, hb, hml, hown, hts, hlocks, hG, hw⟩, -, eR, eC⟩ := B
  have eR : Rl = Rc w := eR
  have eC : cs = hcs := eC
  subst eR; subst eC
  have hN : N ≤ 99 := vwN c hc1 _ hc
  cases r with
  | none => exact Sm.fail
  | some a =>
    refine ⟨fun σ r σ' hP => ?_, fun σ r σ' H locs ls hP hR hS hl b1 b2 b3 b4 => ?_⟩
    · unfold hpI at hP
      by_cases hq : hkd σ a = c + 1
      · simp only [hq, if_true] at hP; exact kk.1 (sfi σ (100 * c + k) a v) r σ' hP
      · simp [hq] at hP
    · unfold hpI at hP
      by_cases hq : hkd σ a = c + 1
      · simp only [hq, if_true] at hP
        obtain ⟨r', e1, hO⟩ := (hR.2.2.2 a).1 c (by omega) hq
        have e2 : r' = (C, T, N) := Option.some.inj (e1.symm.trans hc)
        subst e2
        refine ob_putF hx hb hts hin ty0 hty0 hnm hown (hG.1.1 c _ hc) hO hk (hts _ hlink) hfin hdecl hinit (v := .int v) hty (by rcases hz0 with rfl | rfl <;> rfl) (by rcases hz0 with rfl | rfl <;> rfl) d (fun H1 i hO1 hz oq => ?_)
        refine kk.2 (sfi σ (100 * c + k) a v) r σ' H1 _ ls hP (hR.put (r := (C, T, N)) hc hq hO1 hz oq rfl rfl (fun x c' k' hne => ?_) (fun x t => rfl) (fun j hj => ?_)) (hS.put hz oq (hR.2.1 a (by omega)).1) hl b1 b2 b3 b4
        · simp [fV, sfi, hfi, hfl, hfr, u2, hne]
        · have hj : j < N := hj
          exact fV_sfi (by omega) h1 h2 j (by omega)
      · simp [hq] at hP
theorem hp_Ai (B : Bc g cc nL own vo ret fr lo) {r : Option Nat} {i : Int32} (d : decode cc pc = .ok (.iaload, 1)) {f : Int32 → Hp → Option (ρ × Hp)}
    (kk : ∀ v, Sm g nL (pc + 1) lv (.int v :: st) (f v)) : Sm g nL pc lv (.int i :: va_rf r :: st) (hAi r i f) := by
  obtain ⟨w, p, e, R, s, m, args, below, meth, cd, Rl, cs, b, Qf⟩ := g
  obtain ⟨⟨hx, hb, hml, hown, hts, hlocks, hG, hw⟩, -, eR, eC⟩ := B
  have eR : Rl = Rc w := eR
  have eC : cs = hcs := eC
  subst eR; subst eC
  cases r with
  | none => exact Sm.fail
  | some a =>
    refine ⟨fun σ r σ' hP => ?_, fun σ r σ' H locs ls hP hR hS hl b1 b2 b3 b4 => ?_⟩
    · unfold hAi at hP
      dsimp only at hP
      by_cases hq : hkd σ a = 101 ∧ inr i (hln σ a)
      · rw [if_pos hq] at hP; exact (kk _).1 σ r σ' hP
      · rw [if_neg hq] at hP; cases hP
    · unfold hAi at hP
      dsimp only at hP
      by_cases hq : hkd σ a = 101 ∧ inr i (hln σ a)
      · rw [if_pos hq] at hP
        have hc := (hR.2.2.2 a).2 0 hq.1
        rw [show aV w σ a 0 = arrV (w.2.1 0) (hln σ a) (fun j => .int (hai σ a j)) by simp [aV]] at hc
        refine W.iald (v := .int (hai σ a i.toNatClampNeg)) hx hb hc (arT hG 0 rfl (hln σ a) (fun j => .int (hai σ a j))) (fun q => by cases q) (by rw [arrV_size]; exact inr_vp hq.2) (by rw [arrV_read _ _ hq.2.2]) rfl rfl d ?_
        exact (kk _).2 σ r σ' H locs ls hP hR hS hl b1 b2 b3 b4
      · rw [if_neg hq] at hP; cases hP
theorem hp_Al (B : Bc g cc nL own vo ret fr lo) {r : Option Nat} {i : Int32} (d : decode cc pc = .ok (.laload, 1)) {f : Int64 → Hp → Option (ρ × Hp)}
    (kk : ∀ v, Sm g nL (pc + 1) lv (.long v :: st) (f v)) : Sm g nL pc lv (.int i :: va_rf r :: st) (hAl r i f) := by
  obtain ⟨w, p, e, R, s, m, args, below, meth, cd, Rl, cs, b, Qf⟩ := g
  obtain ⟨⟨hx, hb, hml, hown, hts, hlocks, hG, hw⟩, -, eR, eC⟩ := B
  have eR : Rl = Rc w := eR
  have eC : cs = hcs := eC
  subst eR; subst eC
  cases r with
  | none => exact Sm.fail
  | some a =>
    refine ⟨fun σ r σ' hP => ?_, fun σ r σ' H locs ls hP hR hS hl b1 b2 b3 b4 => ?_⟩
    · unfold hAl at hP
      dsimp only at hP
      by_cases hq : hkd σ a = 104 ∧ inr i (hln σ a)
      · rw [if_pos hq] at hP; exact (kk _).1 σ r σ' hP
      · rw [if_neg hq] at hP; cases hP
    · unfold hAl at hP
      dsimp only at hP
      by_cases hq : hkd σ a = 104 ∧ inr i (hln σ a)
      · rw [if_pos hq] at hP
        have hc := (hR.2.2.2 a).2 3 hq.1
        rw [show aV w σ a 3 = arrV (w.2.1 3) (hln σ a) (fun j => .long (hal σ a j)) by simp [aV]] at hc
        refine W.lald (v := .long (hal σ a i.toNatClampNeg)) hx hb hc (arT hG 3 rfl (hln σ a) (fun j => .long (hal σ a j))) (fun q => by cases q) (by rw [arrV_size]; exact inr_vp hq.2) (by rw [arrV_read _ _ hq.2.2]) rfl rfl d ?_
        exact (kk _).2 σ r σ' H locs ls hP hR hS hl b1 b2 b3 b4
      · rw [if_neg hq] at hP; cases hP
theorem hp_Ar (B : Bc g cc nL own vo ret fr lo) (t : Nat) {C : String} (ht3 : 3 < t) (ht : ∀ cA : Nat → ClassId, (tyl cA)[t]? = some (cA t, .object C)) {r : Option Nat} {i : Int32} (d : decode cc pc = .ok (.aaload, 1)) {f : Option Nat → Hp → Option (ρ × Hp)}
    (kk : ∀ v, Sm g nL (pc + 1) lv (va_rf v :: st) (f v)) : Sm g nL pc lv (.int i :: va_rf r :: st) (hAr t r i f) := by
  obtain ⟨w, p, e, R, s, m, args, below, meth, cd, Rl, cs, b, Qf⟩ := g
  obtain ⟨⟨hx, hb, hml, hown, hts, hlocks, hG, hw⟩, -, eR, eC⟩ := B
  have eR : Rl = Rc w := eR
  have eC : cs = hcs := eC
  subst eR; subst eC
  cases r with
  | none => exact Sm.fail
  | some a =>
    refine ⟨fun σ r σ' hP => ?_, fun σ r σ' H locs ls hP hR hS hl b1 b2 b3 b4 => ?_⟩
    · unfold hAr at hP
      dsimp only at hP
      by_cases hq : hkd σ a = 101 + t ∧ inr i (hln σ a)
      · rw [if_pos hq] at hP; exact (kk _).1 σ r σ' hP
      · rw [if_neg hq] at hP; cases hP
    · unfold hAr at hP
      dsimp only at hP
      by_cases hq : hkd σ a = 101 + t ∧ inr i (hln σ a)
      · rw [if_pos hq] at hP
        have hc := (hR.2.2.2 a).2 t hq.1
        rw [show aV w σ a t = arrV (w.2.1 t) (hln σ a) (fun j => va_rf (har σ a j)) by unfold aV; rw [if_neg (by omega), if_neg (by omega)]] at hc
        refine W.aald (v := va_rf (har σ a i.toNatClampNeg)) (ty := .object C) hx hb hc (arT hG t (ht _) (hln σ a) (fun j => va_rf (har σ a j))) rfl (fun q => by cases q) (by rw [arrV_size]; exact inr_vp hq.2) (by rw [arrV_read _ _ hq.2.2]) rfl rfl d ?_
        exact (kk _).2 σ r σ' H locs ls hP hR hS hl b1 b2 b3 b4
      · rw [if_neg hq] at hP; cases hP
theorem hp_Ln (B : Bc g cc nL own vo ret fr lo) (t : Nat) {ty : FieldType} (ht : ∀ cA : Nat → ClassId, (tyl cA)[t]? = some (cA t, ty)) {r : Option Nat} (d : decode cc pc = .ok (.arraylength, 1)) {f : Int32 → Hp → Option (ρ × Hp)}
    (kk : ∀ v, Sm g nL (pc + 1) lv (.int v :: st) (f v)) : Sm g nL pc lv (va_rf r :: st) (hLn t r f) := by
  obtain ⟨w, p, e, R, s, m, args, below, meth, cd, Rl, cs, b, Qf⟩ := g
  obtain ⟨⟨hx, hb, hml, hown, hts, hlocks, hG, hw⟩, -, eR, eC⟩ := B
  have eR : Rl = Rc w := eR
  have eC : cs = hcs := eC
  subst eR; subst eC
  cases r with
  | none => exact Sm.fail
  | some a =>
    refine ⟨fun σ r σ' hP => ?_, fun σ r σ' H locs ls hP hR hS hl b1 b2 b3 b4 => ?_⟩
    · unfold hLn at hP
      by_cases hq : hkd σ a = 101 + t
      · simp only [hq, if_true] at hP; exact (kk _).1 σ r σ' hP
      · simp [hq] at hP
    · unfold hLn at hP
      by_cases hq : hkd σ a = 101 + t
      · simp only [hq, if_true] at hP
        have hc := (hR.2.2.2 a).2 t hq
        have hA := arT hG t (ht _)
        unfold aV at hc
        have fin := (kk (Int32.ofNat (hln σ a))).2 σ r σ' H locs ls hP hR hS hl b1 b2 b3 b4
        by_cases h3 : t = 3
        · rw [if_pos h3] at hc
          subst h3
          exact W.alen (n := Int32.ofNat (hln σ a)) hx hb hc (hA _ _) (by rw [arrV_size]) rfl rfl d fin
        · rw [if_neg h3] at hc
          by_cases h4 : t < 3
          · rw [if_pos h4] at hc
            exact W.alen (n := Int32.ofNat (hln σ a)) hx hb hc (hA _ _) (by rw [arrV_size]) rfl rfl d fin
          · rw [if_neg h4] at hc
            exact W.alen (n := Int32.ofNat (hln σ a)) hx hb hc (hA _ _) (by rw [arrV_size]) rfl rfl d fin
      · simp [hq] at hP
theorem hp_Wi (B : Bc g cc nL own vo ret fr lo) {r : Option Nat} {i : Int32} {v : Int32} (d : decode cc pc = .ok (.iastore, 1))
    (kk : Sm g nL (pc + 1) lv st P) : Sm g nL pc lv (.int v :: .int i :: va_rf r :: st) (hWi r i v P) := by
  obtain ⟨w, p, e, R, s, m, args, below, meth, cd, Rl, cs, b, Qf⟩ := g
  obtain ⟨⟨hx, hb, hml, hown, hts, hlocks, hG, hw⟩, -, eR, eC⟩ := B
  have eR : Rl = Rc w := eR
  have eC : cs = hcs := eC
  subst eR; subst eC
  cases r with
  | none => exact Sm.fail
  | some a =>
    refine ⟨fun σ r σ' hP => ?_, fun σ r σ' H locs ls hP hR hS hl b1 b2 b3 b4 => ?_⟩
    · unfold hWi at hP
      dsimp only at hP
      by_cases hq : hkd σ a = 101 ∧ inr i (hln σ a)
      · rw [if_pos hq] at hP; exact kk.1 (sai σ a (upd (hai σ a) i.toNatClampNeg v)) r σ' hP
      · rw [if_neg hq] at hP; cases hP
    · unfold hWi at hP
      dsimp only at hP
      by_cases hq : hkd σ a = 101 ∧ inr i (hln σ a)
      · rw [if_pos hq] at hP
        have hc := (hR.2.2.2 a).2 0 hq.1
        rw [show aV w σ a 0 = arrV (w.2.1 0) (hln σ a) (fun j => .int (hai σ a j)) by simp [aV]] at hc
        refine ar_iast hx hb (arT hG 0 rfl) hc (inr_vp hq.2) d (fun H1 z e1 hz oq => ?_)
        refine kk.2 (sai σ a (upd (hai σ a) i.toNatClampNeg v)) r σ' H1 _ ls hP (hR.putA (t := 0) hq.1 ?_ hz oq rfl rfl (fun x c k => rfl) (fun x t hne => ?_)) (hS.put hz oq (hR.2.1 a (by omega)).1) hl b1 b2 b3 b4
        · rw [e1]; simp [aV, sai, hai, hln, u1]
        · simp [aV, sai, hai, hal, har, hln, u1, hne]
      · rw [if_neg hq] at hP; cases hP
theorem hp_Wl (B : Bc g cc nL own vo ret fr lo) {r : Option Nat} {i : Int32} {v : Int64} (d : decode cc pc = .ok (.lastore, 1))
    (kk : Sm g nL (pc + 1) lv st P) : Sm g nL pc lv (.long v :: .int i :: va_rf r :: st) (hWl r i v P) := by
  obtain ⟨w, p, e, R, s, m, args, below, meth, cd, Rl, cs, b, Qf⟩ := g
  obtain ⟨⟨hx, hb, hml, hown, hts, hlocks, hG, hw⟩, -, eR, eC⟩ := B
  have eR : Rl = Rc w := eR
  have eC : cs = hcs := eC
  subst eR; subst eC
  cases r with
  | none => exact Sm.fail
  | some a =>
    refine ⟨fun σ r σ' hP => ?_, fun σ r σ' H locs ls hP hR hS hl b1 b2 b3 b4 => ?_⟩
    · unfold hWl at hP
      dsimp only at hP
      by_cases hq : hkd σ a = 104 ∧ inr i (hln σ a)
      · rw [if_pos hq] at hP; exact kk.1 (sal σ a (vp_updL (hal σ a) i.toNatClampNeg v)) r σ' hP
      · rw [if_neg hq] at hP; cases hP
    · unfold hWl at hP
      dsimp only at hP
      by_cases hq : hkd σ a = 104 ∧ inr i (hln σ a)
      · rw [if_pos hq] at hP
        have hc := (hR.2.2.2 a).2 3 hq.1
        rw [show aV w σ a 3 = arrV (w.2.1 3) (hln σ a) (fun j => .long (hal σ a j)) by simp [aV]] at hc
        refine ar_last hx hb (arT hG 3 rfl) hc (inr_vp hq.2) d (fun H1 z e1 hz oq => ?_)
        refine kk.2 (sal σ a (vp_updL (hal σ a) i.toNatClampNeg v)) r σ' H1 _ ls hP (hR.putA (t := 3) hq.1 ?_ hz oq rfl rfl (fun x c k => rfl) (fun x t hne => ?_)) (hS.put hz oq (hR.2.1 a (by omega)).1) hl b1 b2 b3 b4
        · rw [e1]; simp [aV, sal, hal, hln, u1]
        · simp [aV, sal, hai, hal, har, hln, u1, hne]
      · rw [if_neg hq] at hP; cases hP
theorem hp_Wr (B : Bc g cc nL own vo ret fr lo) (t c : Nat) {C : String} {T : u_T} {N : Nat} (ht3 : 3 < t) (ht : ∀ cA : Nat → ClassId, (tyl cA)[t]? = some (cA t, .object C)) (hcl : vwCl[c]? = some (C, T, N)) (hc1 : c < 100) {r v : Option Nat} {i : Int32} (d : decode cc pc = .ok (.aastore, 1))
    (kk : Sm g nL (pc + 1) lv st P) : Sm g nL pc lv (va_rf v :: .int i :: va_rf r :: st) (hWr t c r i v P) := by
  obtain ⟨w, p, e, R, s, m, args, below, meth, cd, Rl, cs, b, Qf⟩ := g
  obtain ⟨⟨hx, hb, hml, hown, hts, hlocks, hG, hw⟩, -, eR, eC⟩ := B
  have eR : Rl = Rc w := eR
  have eC : cs = hcs := eC
  subst eR; subst eC
  cases r with
  | none => exact Sm.fail
  | some a =>
    refine ⟨fun σ r σ' hP => ?_, fun σ r σ' H locs ls hP hR hS hl b1 b2 b3 b4 => ?_⟩
    · unfold hWr at hP
      dsimp only at hP
      by_cases hq : hkd σ a = 101 + t ∧ inr i (hln σ a) ∧ okr σ c v = true
      · rw [if_pos hq] at hP; exact kk.1 (sar σ a (va_up (har σ a) i.toNatClampNeg v)) r σ' hP
      · rw [if_neg hq] at hP; cases hP
    · unfold hWr at hP
      dsimp only at hP
      by_cases hq : hkd σ a = 101 + t ∧ inr i (hln σ a) ∧ okr σ c v = true
      · rw [if_pos hq] at hP
        obtain ⟨q1, q2, q3⟩ := hq
        have hc := (hR.2.2.2 a).2 t q1
        rw [show aV w σ a t = arrV (w.2.1 t) (hln σ a) (fun j => va_rf (har σ a j)) by unfold aV; rw [if_neg (by omega), if_neg (by omega)]] at hc
        have goon : ∀ (H1 : Heap) (z : Nat), H1[a]? = some (arrV (w.2.1 t) (hln σ a) (fun j => va_rf (va_up (har σ a) i.toNatClampNeg v j))) → H1.size = H.size → (∀ q : Nat, q ≠ a → H1[q]? = H[q]?) → W p w.2.2.2.2.1 e R s m args below meth cd H1 (locs ++ [⟨a, z⟩]) ((hcs σ).1 - b.1) ((hcs σ).2 - b.2) (Qf r σ') (F0 m (pc + 1) ls st) := by
          intro H1 z e1 hz oq
          refine kk.2 (sar σ a (va_up (har σ a) i.toNatClampNeg v)) r σ' H1 _ ls hP (hR.putA (t := t) q1 ?_ hz oq rfl rfl (fun x c k => rfl) (fun x t hne => ?_)) (hS.put hz oq (hR.2.1 a (by omega)).1) hl b1 b2 b3 b4
          · rw [e1]; unfold aV; rw [if_neg (by omega), if_neg (by omega)]; simp [sar, har, hln, u1]
          · simp [aV, sar, hai, hal, har, hln, u1, hne]
        have hupd : (arrV (w.2.1 t) (hln σ a) (fun j => va_rf (har σ a j))).setSlot i.toNatClampNeg (va_rf v) = arrV (w.2.1 t) (hln σ a) (fun j => va_rf (va_up (har σ a) i.toNatClampNeg v j)) := by
          rw [arrV_store]
          congr 1
          funext q
          by_cases hq : q = i.toNatClampNeg
          · subst hq; simp [updV, va_up]
          · simp [updV, va_up, hq]
        cases v with
        | none =>
          refine va_WaastN (C := C) hx hb hc (arT hG t (ht _) (hln σ a) (fun j => va_rf (har σ a j))) (fun h => by cases h) (by rw [arrV_size]; exact inr_vp q2) rfl rfl d fun H1 e1 z oq => ?_
          exact goon H1 _ (by rw [e1]; exact congrArg some hupd) z oq
        | some x =>
          have hkx : hkd σ x = c + 1 := by simpa [okr] using q3
          obtain ⟨r', g0, cellV, g1, g2, g3, -⟩ := (hR.2.2.2 x).1 c hc1 hkx
          have hcls := (hG.1.1 c _ hcl).2
          obtain ⟨kA, comp, k1, k2, k3, -⟩ := (hG.1.2 t _ (ht _)).2
          have hcomp : comp = w.1.1 c := Option.some.inj (k3.symm.trans hcls.1)
          subst hcomp
          obtain ⟨kC, hkC, -⟩ := hcls.2
          refine W.aast hx hb hc (fun q h => by cases h) (fun h => by cases h) k1 k2 rfl hkC ⟨Int32.not_lt.mpr q2.1, by rw [arrV_size]; exact q2.2⟩ g1 (fun q h => by rw [g3] at h; cases h) (by rw [g2]; exact hkC) (by rw [g2]; exact va_assign hcls) rfl rfl d fun H1 e1 z oq => ?_
          exact goon H1 _ (by rw [e1]; exact congrArg some hupd) z oq
      · rw [if_neg hq] at hP; cases hP
theorem hp_Nw (B : Bc g cc nL own vo ret fr lo) {C : String} {T : u_T} {N : Nat} (c : Nat) (hc : vwCl[c]? = some (C, T, N)) (hc1 : c < 15) (hin : ∀ w ∈ u_ws C T N, w ∈ TB) (ty0 : Nat → FieldType) (hty0 : ∀ k, k < N → parseFieldDescriptor (T k).2.2.1 = some (ty0 k)) (hdef : ∀ k, k < N → defaultValue (ty0 k) = if fty c k = 1 then Value.long 0 else if fty c k = 2 then Value.null else Value.int 0) {idx : Nat} (hcl : Cond.classLink own idx C ∈ TB) (hinst : Cond.instantiable C N ∈ TB) (hini : Cond.initialized C ∈ TB) (d : decode cc pc = .ok (.new idx, 3)) {f : Option Nat → Hp → Option (ρ × Hp)}
    (kk : ∀ v, Sm g nL (pc + 3) lv (va_rf v :: st) (f v)) : Sm g nL pc lv st (hNw c N f) := by
  obtain ⟨w, p, e, R, s, m, args, below, meth, cd, Rl, cs, b, Qf⟩ := g
  obtain ⟨⟨hx, hb, hml, hown, hts, hlocks, hG, hw⟩, -, eR, eC⟩ := B
  have eR : Rl = Rc w := eR
  have eC : cs = hcs := eC
  subst eR; subst eC
  refine ⟨fun σ r σ' hP => ?_, fun σ r σ' H locs ls hP hR hS hl b1 b2 b3 b4 => ?_⟩
  · have h0 := (kk _).1 _ r σ' hP
    exact ⟨Nat.le_trans (Nat.le_succ _) h0.1, Nat.le_trans (Nat.le_add_right _ _) h0.2⟩
  · have h0 : (hcs σ).1 + 1 ≤ (hcs σ').1 ∧ (hcs σ).2 + N ≤ (hcs σ').2 := (kk _).1 _ r σ' hP
    have hKn := hG.1.1 c _ hc
    refine W.newcK hx hb hown (hts _ hcl) (hts _ hinst) (hts _ hini) rfl d (by omega) (by omega) hKn.2.1 rfl fun H1 kC hkC e1 z1 o1 => ?_
    have hsz : H.size = hnx σ := hR.1
    have fin := (kk (some (hnx σ))).2 (hob σ c N) r σ' H1 locs ls hP ?_ ⟨Nat.le_trans hS.1 (by omega), fun x g1 g2 => (o1 x (Nat.lt_of_lt_of_le g1 hS.1)).trans (hS.2.1 x g1 g2), hS.2.2⟩ hl (by show b.1 ≤ (hcs σ).1 + 1; omega) (by show b.2 ≤ (hcs σ).2 + N; omega) b3 b4
    · rw [hsz]
      rw [show (hcs σ).1 - b.1 + 1 = (hcs (hob σ c N)).1 - b.1 by show _ = (hcs σ).1 + 1 - b.1; omega, show (hcs σ).2 - b.2 + N = (hcs (hob σ c N)).2 - b.2 by show _ = (hcs σ).2 + N - b.2; omega]
      exact fin
    · refine hR.mk (by omega) (fun q hq => o1 q (by omega)) rfl (fun x hne => ?_) (fun x c k hne => ?_) (fun x t hne => rfl) ⟨fun c' hc' hk' => ?_, fun t ht => ?_⟩
      · simp [hob, hkd, u1, hne]
      · simp [fV, hob, hfi, hfl, hfr, hne]
      · have : c' = c := by simp [hob, hkd, u1] at hk'; omega
        subst this
        refine ⟨_, hc, t_OB.to (u_born ty0 hts hin hKn hkC (by rw [← hsz]; exact e1) hty0) (fun k hk => ?_)⟩
        rw [hdef k hk]
        simp [fV, hob, hfi, hfl, hfr, va_rf]
      · simp [hob, hkd, u1] at ht; omega
theorem hp_Na (B : Bc g cc nL own vo ret fr lo) (t : Nat) {atype : ArrayType} {ty : FieldType} (htp : newarray.typeOf atype = ty) (hcb : componentBytes ty ≤ 8) (harr : Cond.arrayClass ty ∈ TB) (ht : ∀ cA : Nat → ClassId, (tyl cA)[t]? = some (cA t, ty)) (hra : ∀ (U : State) (cA : ClassId), va_RA U cA ty = (U.vm.findClass ("[" ++ ty.toString) = some cA)) (hdef : defaultValue ty = if t = 3 then Value.long 0 else Value.int 0) (ht4 : t < 4) {n : Int32} (d : decode cc pc = .ok (.newarray atype, 2)) {f : Option Nat → Hp → Option (ρ × Hp)}
    (kk : ∀ v, Sm g nL (pc + 2) lv (va_rf v :: st) (f v)) : Sm g nL pc lv (.int n :: st) (hNa t n f) := by
  subst htp
  obtain ⟨w, p, e, R, s, m, args, below, meth, cd, Rl, cs, b, Qf⟩ := g
  obtain ⟨⟨hx, hb, hml, hown, hts, hlocks, hG, hw⟩, -, eR, eC⟩ := B
  have eR : Rl = Rc w := eR
  have eC : cs = hcs := eC
  subst eR; subst eC
  refine ⟨fun σ r σ' hP => ?_, fun σ r σ' H locs ls hP hR hS hl b1 b2 b3 b4 => ?_⟩
  · unfold hNa at hP
    by_cases hq : 0 ≤ n ∧ n.toNatClampNeg ≤ 1000000
    · rw [if_pos hq] at hP
      have h0 := (kk _).1 _ r σ' hP
      exact ⟨Nat.le_trans (Nat.le_succ _) h0.1, Nat.le_trans (Nat.le_add_right _ _) h0.2⟩
    · rw [if_neg hq] at hP; cases hP
  · unfold hNa at hP
    by_cases hq : 0 ≤ n ∧ n.toNatClampNeg ≤ 1000000
    · rw [if_pos hq] at hP
      have h0 : (hcs σ).1 + 1 ≤ (hcs σ').1 ∧ (hcs σ).2 + n.toNatClampNeg ≤ (hcs σ').2 := (kk _).1 _ r σ' hP
      have hsz : H.size = hnx σ := hR.1
      refine va_newaK hx hb (hts _ harr) rfl d rfl (Int32.not_lt.mpr hq.1) rfl (by have := Nat.mul_le_mul hq.2 hcb; omega) (by omega) (by omega) hsz fun H1 cA e1 z1 o1 hAr hNm => ?_
      have hcA : cA = w.2.1 t := by
        have h2 := (hG.1.2 t _ (ht _)).2
        rw [hra] at h2
        exact Option.some.inj (hNm.symm.trans h2)
      subst hcA
      have fin := (kk (some (hnx σ))).2 (hay σ t n.toNatClampNeg) r σ' H1 locs ls hP ?_ ⟨Nat.le_trans hS.1 (by omega), fun x g1 g2 => (o1 x (by have := hS.1; omega)).trans (hS.2.1 x g1 g2), hS.2.2⟩ hl (by show b.1 ≤ (hcs σ).1 + 1; omega) (by show b.2 ≤ (hcs σ).2 + _; omega) b3 b4
      · rw [show (hcs σ).1 - b.1 + 1 = (hcs (hay σ t n.toNatClampNeg)).1 - b.1 by show _ = (hcs σ).1 + 1 - b.1; omega, show (hcs σ).2 - b.2 + n.toNatClampNeg = (hcs (hay σ t n.toNatClampNeg)).2 - b.2 by show _ = (hcs σ).2 + n.toNatClampNeg - b.2; omega]
        exact fin
      · refine hR.mk z1 o1 rfl (fun x hne => ?_) (fun x c k hne => rfl) (fun x t hne => ?_) ⟨fun c' hc' hk' => ?_, fun t' ht' => ?_⟩
        · simp [hay, hkd, u1, hne]
        · simp [aV, hay, hai, hal, har, hln, u1, hne]
        · simp [hay, hkd, u1] at hk'; omega
        · have : t' = t := by simp [hay, hkd, u1] at ht'; omega
          subst this
          rw [e1, hdef]
          by_cases h3 : t' = 3
          · subst h3; simp [aV, hay, hal, hln, u1]
          · simp [aV, hay, hai, hln, u1, h3, show t' < 3 by omega]
    · rw [if_neg hq] at hP; cases hP
end HPR
