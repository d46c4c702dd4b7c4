/-! ===== the class's constructors: what they leave ===== -/
def mkq (c a : Nat) (K : Hp → Option (Unit × Hp)) : List (Nat × Nat × Int32) → Hp → Option (Unit × Hp)
  | [] => K
  | x :: r => hNa x.2.1 x.2.2 fun o => hpR c x.1 (some a) o <| mkq c a K r
theorem mkq_ev {c a : Nat} {K : Hp → Option (Unit × Hp)} : ∀ (r : List (Nat × Nat × Int32)) (h : Hp), hkd h a = c + 1 → a < hnx h → (∀ x ∈ r, 0 ≤ x.2.2 ∧ x.2.2.toNatClampNeg ≤ 1000000) → (r.map (fun x => x.1)).Nodup →
    ∃ h', mkq c a K r h = K h' ∧ hnx h' = hnx h + r.length ∧ (∀ b, b < hnx h → b ≠ a → Same h h' b) ∧ hkd h' a = c + 1 ∧ ((∀ f, hfi h' f a = hfi h f a) ∧ (∀ f, hfl h' f a = hfl h f a)) ∧ (∀ f, (∀ x ∈ r, f ≠ 100 * c + x.1) → hfr h' f a = hfr h f a) ∧
      (∀ (i : Nat) (x : Nat × Nat × Int32), r[i]? = some x → hfr h' (100 * c + x.1) a = some (hnx h + i) ∧ hkd h' (hnx h + i) = 101 + x.2.1 ∧ hln h' (hnx h + i) = x.2.2.toNatClampNeg ∧ (∀ j, hai h' (hnx h + i) j = 0) ∧ (∀ j, hal h' (hnx h + i) j = 0) ∧ (∀ j, har h' (hnx h + i) j = none)) ∧
      (hcs h').1 = (hcs h).1 + r.length ∧ (hcs h').2 = (hcs h).2 + sumN r := by
  intro r
  induction r with
  | nil =>
    intro h ha hl _ _
    exact ⟨h, rfl, rfl, fun b _ _ => Same.rf h b, ha, ⟨fun _ => rfl, fun _ => rfl⟩, fun _ _ => rfl, fun i x hx => by simp at hx, rfl, rfl⟩
  | cons x r ih =>
    intro h ha hl hb hn
    have hne : a ≠ hnx h := Nat.ne_of_lt hl
    obtain ⟨h1, e1⟩ : ∃ h1, h1 = sfr (hay h x.2.1 x.2.2.toNatClampNeg) (100 * c + x.1) a (some (hnx h)) := ⟨_, rfl⟩
    have hK : Keep h (hay h x.2.1 x.2.2.toNatClampNeg) := Keep.ay h _ _
    have ha0 : hkd (hay h x.2.1 x.2.2.toNatClampNeg) a = c + 1 := (hK.2 a hl).1.trans ha
    have ha1 : hkd h1 a = c + 1 := by rw [e1]; exact ha0
    have hn1 : hnx h1 = hnx h + 1 := by rw [e1]; rfl
    have hs : mkq c a K (x :: r) h = mkq c a K r h1 := by
      show hNa x.2.1 x.2.2 (fun o => hpR c x.1 (some a) o <| mkq c a K r) h = _
      rw [e_Na (hb x List.mem_cons_self)]
      rw [e_pR ha0, e1]
    have hnd := List.nodup_cons.mp (show (x.1 :: r.map (fun x => x.1)).Nodup from hn)
    obtain ⟨h', q1, q2, q3, q4, q5, q6, q7, q8, q9⟩ := ih h1 ha1 (by rw [hn1]; omega) (fun z hz => hb z (List.mem_cons_of_mem _ hz)) hnd.2
    have hS : ∀ b, b ≠ a → Same (hay h x.2.1 x.2.2.toNatClampNeg) h1 b := fun b hb => by rw [e1]; exact Same.fr hb
    refine ⟨h', hs.trans q1, by rw [q2, hn1, List.length_cons]; omega, fun b hb1 hb2 => ?_, q4, ⟨fun f => ?_, fun f => ?_⟩, fun f hf => ?_, fun i y hy => ?_, ?_, ?_⟩
    · exact ((hK.2 b hb1).tr (hS b hb2)).tr (q3 b (by rw [hn1]; omega) hb2)
    · rw [q5.1 f, e1]
      exact (hK.2 a hl).2.2.1 f
    · rw [q5.2 f, e1]
      exact (hK.2 a hl).2.2.2.1 f
    · rw [q6 f (fun z hz => hf z (List.mem_cons_of_mem _ hz)), e1]
      show (if f = 100 * c + x.1 ∧ a = a then _ else _) = _
      rw [if_neg (fun z => hf x List.mem_cons_self z.1)]
      exact (hK.2 a hl).2.2.2.2.1 f
    · cases i with
      | zero =>
        have hy : x = y := by simpa using hy
        subst hy
        have hb3 : hnx h < hnx h1 := by rw [hn1]; omega
        have z := q3 (hnx h) hb3 (Ne.symm hne)
        have z1 := hS (hnx h) (Ne.symm hne)
        refine ⟨?_, ?_, ?_, fun j => ?_, fun j => ?_, fun j => ?_⟩
        · rw [q6 _ (fun w hw e => hnd.1 (by
            have e2 : x.1 = w.1 := by omega
            rw [e2]; exact List.mem_map.mpr ⟨w, hw, rfl⟩)), e1]
          show (if 100 * c + x.1 = 100 * c + x.1 ∧ a = a then _ else _) = _
          rw [if_pos ⟨rfl, rfl⟩]; rfl
        · show hkd h' (hnx h) = _
          rw [z.1, z1.1]
          show (if hnx h = hnx h then _ else _) = _
          rw [if_pos rfl]
        · show hln h' (hnx h) = _
          rw [z.2.1, z1.2.1]
          show (if hnx h = hnx h then _ else _) = _
          rw [if_pos rfl]
        · show hai h' (hnx h) j = _
          rw [z.2.2.2.2.2.1, z1.2.2.2.2.2.1]
          show (if hnx h = hnx h then (fun _ => 0) else _) j = _
          rw [if_pos rfl]
        · show hal h' (hnx h) j = _
          rw [z.2.2.2.2.2.2.1, z1.2.2.2.2.2.2.1]
          show (if hnx h = hnx h then (fun _ => 0) else _) j = _
          rw [if_pos rfl]
        · show har h' (hnx h) j = _
          rw [z.2.2.2.2.2.2.2, z1.2.2.2.2.2.2.2]
          show (if hnx h = hnx h then (fun _ => none) else _) j = _
          rw [if_pos rfl]
      | succ i =>
        have hy : r[i]? = some y := by simpa using hy
        have z := q7 i y hy
        rw [hn1] at z
        have e3 : hnx h + 1 + i = hnx h + (i + 1) := by omega
        rw [e3] at z
        exact z
    · rw [q8, e1, List.length_cons]
      show (hcs h).1 + 1 + _ = _
      omega
    · rw [q9, e1]
      show (hcs h).2 + x.2.2.toNatClampNeg + sumN r = (hcs h).2 + (x.2.2.toNatClampNeg + sumN r)
      omega
/-- a fresh object's fields are zero -/
def Zero (h : Hp) (a : Nat) : Prop := (∀ f, hfi h f a = 0) ∧ (∀ f, hfl h f a = 0) ∧ (∀ f, hfr h f a = none)
theorem Zero.ob (h : Hp) (c n : Nat) : Zero (hob h c n) (hnx h) := ⟨fun f => if_pos rfl, fun f => if_pos rfl, fun f => if_pos rfl⟩
theorem kd_ob (h : Hp) (c n : Nat) : hkd (hob h c n) (hnx h) = c + 1 := if_pos rfl
/-- an int[], a long[], a row of references, as new -/
def NewA (h : Hp) (q t n : Nat) : Prop := hkd h q = 101 + t ∧ hln h q = n ∧ (∀ j, hai h q j = 0) ∧ (∀ j, hal h q j = 0) ∧ (∀ j, har h q j = none)
theorem NewA.same {h h' : Hp} {q t n : Nat} (x : NewA h q t n) (y : Same h h' q) : NewA h' q t n :=
  ⟨y.1.trans x.1, y.2.1.trans x.2.1, fun j => by rw [y.2.2.2.2.2.1]; exact x.2.2.1 j, fun j => by rw [y.2.2.2.2.2.2.1]; exact x.2.2.2.1 j, fun j => by rw [y.2.2.2.2.2.2.2]; exact x.2.2.2.2 j⟩
/-- a constructor's effect: m cells of k slots behind the object, and F of it -/
def Ctor (c m k : Nat) (C : Nat → Hp → Option (Unit × Hp)) (F : Hp → Nat → Prop) : Prop :=
  ∀ (h : Hp) (a : Nat), hkd h a = c + 1 → hnx h = a + 1 → Zero h a → ∃ h', C a h = some ((), h') ∧ hnx h' = a + 1 + m ∧ (∀ b, b < a → Same h h' b) ∧ (hcs h').1 = (hcs h).1 + m ∧ (hcs h').2 = (hcs h).2 + k ∧ F h' a
/-- a new object with its constructor, its reference into field k of x -/
theorem Ctor.step {ρ : Type} {c n m s : Nat} {C : Nat → Hp → Option (Unit × Hp)} {F : Hp → Nat → Prop} (hC : Ctor c m s C F) (hF : ∀ h h' a, F h a → (∀ b, a ≤ b → b < a + 1 + m → Same h h' b) → F h' a) {h : Hp} {x k : Nat} {P : Hp → Option (ρ × Hp)} (hx : hkd h x = 14) (hl : x < hnx h) :
    ∃ h2, (hNw c n fun o => hCi o C fun _ => hpR 13 k (some x) o <| P) h = P h2 ∧ hnx h2 = hnx h + 1 + m ∧ (∀ b, b < hnx h → b ≠ x → Same h h2 b) ∧ hkd h2 x = 14 ∧ (∀ f, hfi h2 f x = hfi h f x) ∧ (∀ f, hfr h2 f x = if f = 1300 + k then some (hnx h) else hfr h f x) ∧ (hcs h2).1 = (hcs h).1 + 1 + m ∧ (hcs h2).2 = (hcs h).2 + n + s ∧ F h2 (hnx h) := by
  have hK := Keep.ob h c n
  obtain ⟨h', q1, q2, q3, q4, q5, q6⟩ := hC (hob h c n) (hnx h) (kd_ob h c n) rfl (Zero.ob h c n)
  have hsx := (hK.2 x hl).tr (q3 x hl)
  have hx' : hkd h' x = 14 := hsx.1.trans hx
  refine ⟨sfr h' (1300 + k) x (some (hnx h)), ?_, q2, fun b hb hne => ((hK.2 b hb).tr (q3 b hb)).tr (Same.fr hne), hx', fun f => hsx.2.2.1 f, fun f => ?_, ?_, ?_, hF _ _ _ q6 (fun b z1 z2 => Same.fr (by omega))⟩
  · show hCi (some (hnx h)) C (fun _ => hpR 13 k (some x) (some (hnx h)) <| P) (hob h c n) = _
    show bd (C (hnx h)) (fun _ => hpR 13 k (some x) (some (hnx h)) <| P) (hob h c n) = _
    rw [e_bd q1, e_pR (c := 13) hx']
  · show (if f = 1300 + k ∧ x = x then _ else _) = _
    by_cases e : f = 1300 + k
    · rw [if_pos ⟨e, rfl⟩, if_pos e]
    · rw [if_neg (fun z => e z.1), if_neg e]
      exact hsx.2.2.2.2.1 f
  · exact q4
  · exact q5
theorem arr_step {ρ : Type} {t k : Nat} {n : Int32} (hn : 0 ≤ n ∧ n.toNatClampNeg ≤ 1000000) {h : Hp} {x : Nat} {P : Hp → Option (ρ × Hp)} (hx : hkd h x = 14) (hl : x < hnx h) :
    ∃ h2, (hNa t n fun o => hpR 13 k (some x) o <| P) h = P h2 ∧ hnx h2 = hnx h + 1 ∧ (∀ b, b < hnx h → b ≠ x → Same h h2 b) ∧ hkd h2 x = 14 ∧ (∀ f, hfi h2 f x = hfi h f x) ∧ (∀ f, hfr h2 f x = if f = 1300 + k then some (hnx h) else hfr h f x) ∧ (hcs h2).1 = (hcs h).1 + 1 ∧ (hcs h2).2 = (hcs h).2 + n.toNatClampNeg ∧ NewA h2 (hnx h) t n.toNatClampNeg := by
  have hK := Keep.ay h t n.toNatClampNeg
  have hsx := hK.2 x hl
  have hx' := hsx.1.trans hx
  refine ⟨sfr (hay h t n.toNatClampNeg) (1300 + k) x (some (hnx h)), ?_, rfl, fun b hb hne => (hK.2 b hb).tr (Same.fr hne), hx', fun f => hsx.2.2.1 f, fun f => ?_, rfl, rfl, ?_⟩
  · rw [e_Na hn, e_pR (c := 13) hx']
  · show (if f = 1300 + k ∧ x = x then _ else _) = _
    by_cases e : f = 1300 + k
    · rw [if_pos ⟨e, rfl⟩, if_pos e]
    · rw [if_neg (fun z => e z.1), if_neg e]
      exact hsx.2.2.2.2.1 f
  · exact ⟨if_pos rfl, if_pos rfl, fun j => by
      show (if hnx h = hnx h then (fun _ => 0) else _) j = _
      rw [if_pos rfl], fun j => by
      show (if hnx h = hnx h then (fun _ => 0) else _) j = _
      rw [if_pos rfl], fun j => by
      show (if hnx h = hnx h then (fun _ => none) else _) j = _
      rw [if_pos rfl]⟩
/-- a constructor that only makes arrays -/
theorem Ctor.mk {c : Nat} {C : Nat → Hp → Option (Unit × Hp)} (r : List (Nat × Nat × Int32)) (hC : ∀ a, C a = hOi (some a) (mkq c a (rt ()) r)) (h1 : ∀ x ∈ r, 0 ≤ x.2.2 ∧ x.2.2.toNatClampNeg ≤ 1000000) (h2 : (r.map (fun x => x.1)).Nodup) :
    Ctor c r.length (sumN r) C (fun h a => hkd h a = c + 1 ∧ (∀ f, hfi h f a = 0) ∧ (∀ f, hfl h f a = 0) ∧ (∀ f, (∀ x ∈ r, f ≠ 100 * c + x.1) → hfr h f a = none) ∧ ∀ (i : Nat) (x : Nat × Nat × Int32), r[i]? = some x → hfr h (100 * c + x.1) a = some (a + 1 + i) ∧ NewA h (a + 1 + i) x.2.1 x.2.2.toNatClampNeg) := by
  intro h a ha hn hz
  rw [hC, e_Oi]
  obtain ⟨h', q1, q2, q3, q4, q5, q6, q7, q8, q9⟩ := mkq_ev (c := c) (a := a) (K := rt ()) r h ha (by omega) h1 h2
  rw [hn] at q2 q7
  exact ⟨h', q1, q2, fun b hb => q3 b (by omega) (by omega), q8, q9, q4, fun f => (q5.1 f).trans (hz.1 f), fun f => (q5.2 f).trans (hz.2.1 f), fun f hf => (q6 f hf).trans (hz.2.2 f), fun i x hx => ⟨(q7 i x hx).1, (q7 i x hx).2⟩⟩
theorem Ctor.stay {c : Nat} (r : List (Nat × Nat × Int32)) (h h' : Hp) (a : Nat) (x : (fun (h : Hp) (a : Nat) => hkd h a = c + 1 ∧ (∀ f, hfi h f a = 0) ∧ (∀ f, hfl h f a = 0) ∧ (∀ f, (∀ x ∈ r, f ≠ 100 * c + x.1) → hfr h f a = none) ∧ ∀ (i : Nat) (x : Nat × Nat × Int32), r[i]? = some x → hfr h (100 * c + x.1) a = some (a + 1 + i) ∧ NewA h (a + 1 + i) x.2.1 x.2.2.toNatClampNeg) h a) (hS : ∀ b, a ≤ b → b < a + 1 + r.length → Same h h' b) :
    (fun (h : Hp) (a : Nat) => hkd h a = c + 1 ∧ (∀ f, hfi h f a = 0) ∧ (∀ f, hfl h f a = 0) ∧ (∀ f, (∀ x ∈ r, f ≠ 100 * c + x.1) → hfr h f a = none) ∧ ∀ (i : Nat) (x : Nat × Nat × Int32), r[i]? = some x → hfr h (100 * c + x.1) a = some (a + 1 + i) ∧ NewA h (a + 1 + i) x.2.1 x.2.2.toNatClampNeg) h' a := by
  obtain ⟨x1, x2, x3, x4, x5⟩ := x
  have y := hS a (Nat.le_refl _) (by omega)
  refine ⟨y.1.trans x1, fun f => (y.2.2.1 f).trans (x2 f), fun f => (y.2.2.2.1 f).trans (x3 f), fun f hf => (y.2.2.2.2.1 f).trans (x4 f hf), fun i z hz => ?_⟩
  have w := x5 i z hz
  have hi : i < r.length := (List.getElem?_eq_some_iff.mp hz).1
  exact ⟨(y.2.2.2.2.1 _).trans w.1, w.2.same (hS _ (by omega) (by omega))⟩
