/-! ===== the class's own constructor ===== -/
def ConF (h : Hp) (a : Nat) (v : Int32) : Prop := hkd h a = 3 ∧ hfi h 200 a = v ∧ (∀ f, f ≠ 200 → hfi h f a = 0) ∧ (∀ f, hfl h f a = 0) ∧ (hfr h 203 a = some (a + 1) ∧ hfr h 207 a = some (a + 2) ∧ hfr h 211 a = some (a + 3)) ∧ (∀ f, f ≠ 203 → f ≠ 207 → f ≠ 211 → hfr h f a = none) ∧ NewA h (a + 1) 0 2000 ∧ NewA h (a + 2) 0 405 ∧ NewA h (a + 3) 8 5
theorem ConF.same {h h' : Hp} {a : Nat} {v : Int32} (x : ConF h a v) (hS : ∀ b, a ≤ b → b < a + 4 → Same h h' b) : ConF h' a v := by
  obtain ⟨x1, x2, x3, x4, ⟨x5, x6, x7⟩, x8, x9, x10, x11⟩ := x
  have y := hS a (Nat.le_refl _) (by omega)
  exact ⟨y.1.trans x1, (y.2.2.1 _).trans x2, fun f hf => (y.2.2.1 f).trans (x3 f hf), fun f => (y.2.2.2.1 f).trans (x4 f), ⟨(y.2.2.2.2.1 _).trans x5, (y.2.2.2.2.1 _).trans x6, (y.2.2.2.2.1 _).trans x7⟩, fun f h1 h2 h3 => (y.2.2.2.2.1 f).trans (x8 f h1 h2 h3), x9.same (hS _ (by omega) (by omega)), x10.same (hS _ (by omega) (by omega)), x11.same (hS _ (by omega) (by omega))⟩
def conL : List (Nat × Nat × Int32) := [(3, 0, 2000), (7, 0, 405), (11, 8, 5)]
theorem con_eq (a : Nat) (v : Int32) : C_X0_init a v = hOi (some a) (mkq 2 a (hpI 2 0 (some a) v <| rt ()) conL) := rfl
theorem conL_ok : (∀ x ∈ conL, 0 ≤ x.2.2 ∧ x.2.2.toNatClampNeg ≤ 1000000) ∧ (conL.map (fun x => x.1)).Nodup ∧ sumN conL = 2410 := by decide +kernel
theorem con_ev {h : Hp} {a : Nat} {v : Int32} (ha : hkd h a = 3) (hn : hnx h = a + 1) (hz : Zero h a) : ∃ h', C_X0_init a v h = some ((), h') ∧ hnx h' = a + 4 ∧ (∀ b, b < a → Same h h' b) ∧ (hcs h').1 = (hcs h).1 + 3 ∧ (hcs h').2 = (hcs h).2 + 2410 ∧ ConF h' a v := by
  rw [con_eq, e_Oi]
  obtain ⟨h', q1, q2, q3, q4, q5, q6, q7, q8, q9⟩ := mkq_ev (c := 2) (a := a) (K := hpI 2 0 (some a) v <| rt ()) conL h ha (by omega) conL_ok.1 conL_ok.2.1
  rw [hn] at q2 q7
  rw [conL_ok.2.2] at q9
  refine ⟨sfi h' 200 a v, ?_, q2, fun b hb => (q3 b (by omega) (by omega)).tr (Same.fi (by omega)), q8, q9, q4, ?_, fun f hf => ?_, fun f => (q5.2 f).trans (hz.2.1 f), ⟨?_, ?_, ?_⟩, fun f h1 h2 h3 => ?_, ?_, ?_, ?_⟩
  · rw [q1, e_pI (c := 2) q4]; rfl
  · show (if 200 = 200 ∧ a = a then _ else _) = _
    rw [if_pos ⟨rfl, rfl⟩]
  · show (if f = 200 ∧ a = a then _ else _) = _
    rw [if_neg (fun z => hf z.1)]
    exact (q5.1 f).trans (hz.1 f)
  · exact (q7 0 _ rfl).1
  · exact (q7 1 _ rfl).1
  · exact (q7 2 _ rfl).1
  · refine (q6 f (fun x hx => ?_)).trans (hz.2.2 f)
    simp only [conL, List.mem_cons, List.not_mem_nil, or_false] at hx
    rcases hx with rfl | rfl | rfl
    · exact h1
    · exact h2
    · exact h3
  · exact NewA.same (q7 0 _ rfl).2 (Same.fi (by omega))
  · exact NewA.same (q7 1 _ rfl).2 (Same.fi (by omega))
  · exact NewA.same (q7 2 _ rfl).2 (Same.fi (by omega))
/-- the object x, its first k connections made -/
def CoK (h : Hp) (x k : Nat) : Prop := hkd h x = 14 ∧ hfr h 1300 x = some (x + 1) ∧ hkd h (x + 1) = 105 ∧ hln h (x + 1) = 8 ∧ (∀ f, hfi h f x = 0) ∧ ∀ i, i < k → har h (x + 1) i = some (x + 2 + 4 * i) ∧ ConF h (x + 2 + 4 * i) (Int32.ofNat i)
theorem i8 : ∀ k, k < 8 → 0 ≤ Int32.ofNat k ∧ ¬ (8 : Int32) ≤ Int32.ofNat k ∧ Int32.ofNat k + 1 = Int32.ofNat (k + 1) ∧ (Int32.ofNat k).toNatClampNeg = k := by decide +kernel
theorem con_loop {x : Nat} {K : Hp → Option (Unit × Hp)} : ∀ (n k : Nat) (h : Hp), k + n = 8 → CoK h x k → hnx h = x + 2 + 4 * k → (∀ f, f ≠ 1300 → hfr h f x = none) → ∀ fl, n < fl → ∀ l : Int32, l = Int32.ofNat k →
    ∃ h', C_X11_init_L15 x K fl l h = K h' ∧ hnx h' = x + 34 ∧ (∀ b, b < x → Same h h' b) ∧ (hcs h').1 = (hcs h).1 + 4 * n ∧ (hcs h').2 = (hcs h).2 + 2423 * n ∧ CoK h' x 8 ∧ (∀ f, f ≠ 1300 → hfr h' f x = none) := by
  intro n
  induction n with
  | zero =>
    intro k h hk hC hn hr fl hf l el
    subst el
    obtain ⟨fl', rfl⟩ : ∃ m, fl = m + 1 := ⟨fl - 1, by omega⟩
    have e : k = 8 := by omega
    subst e
    refine ⟨h, ?_, by omega, fun b _ => Same.rf h b, rfl, rfl, hC, hr⟩
    show C_X11_init_B15 x _ K _ h = _
    unfold C_X11_init_B15
    rw [if_pos (by decide)]
  | succ n ih =>
    intro k h hk hC hn hr fl hf l el
    subst el
    obtain ⟨fl', rfl⟩ : ∃ m, fl = m + 1 := ⟨fl - 1, by omega⟩
    have hk8 : k < 8 := by omega
    obtain ⟨i1, i2, i3, i4⟩ := i8 k hk8
    obtain ⟨c1, c2, c3, c4, c5, c6⟩ := hC
    have hK := Keep.ob h 2 13
    obtain ⟨h1, q1, q2, q3, q4, q5, q6⟩ := con_ev (h := hob h 2 13) (a := hnx h) (v := Int32.ofNat k) (kd_ob h 2 13) rfl (Zero.ob h 2 13)
    have hS1 : ∀ b, b < hnx h → Same h h1 b := fun b hb => (hK.2 b hb).tr (q3 b hb)
    have hA : hkd h1 (x + 1) = 105 := (hS1 (x + 1) (by omega)).1.trans c3
    have hL : hln h1 (x + 1) = 8 := (hS1 (x + 1) (by omega)).2.1.trans c4
    obtain ⟨h2, e2⟩ : ∃ h2, h2 = sar h1 (x + 1) (va_up (har h1 (x + 1)) k (some (hnx h))) := ⟨_, rfl⟩
    have hs : C_X11_init_L15 x K (fl' + 1) (Int32.ofNat k) h = C_X11_init_L15 x K fl' (Int32.ofNat (k + 1)) h2 := by
      show C_X11_init_B15 x _ K _ h = _
      unfold C_X11_init_B15
      rw [if_neg i2, e_gR (c := 13) c1]
      show hNw 2 13 (fun o16 => hCi o16 (fun a => C_X0_init a (Int32.ofNat k)) fun r17 => hWr 4 2 (hfr h 1300 x) (Int32.ofNat k) o16 <| _) h = _
      rw [c2]
      show bd (C_X0_init (hnx h) (Int32.ofNat k)) (fun r17 => hWr 4 2 (some (x + 1)) (Int32.ofNat k) (some (hnx h)) <| _) (hob h 2 13) = _
      rw [e_bd q1, e_Wr (t := 4) hA (by rw [hL]; exact ⟨i1, by rw [i4]; exact hk8⟩) (by show (hkd h1 (hnx h) == 3) = true; rw [q6.1]; rfl), i4, i3, e2]
    have hS2 : ∀ b, b ≠ x + 1 → Same h1 h2 b := fun b hb => by rw [e2]; exact Same.ar hb
    have hS : ∀ b, b < hnx h → b ≠ x + 1 → Same h h2 b := fun b h3 h4 => (hS1 b h3).tr (hS2 b h4)
    have hx := hS x (by omega) (by omega)
    have har2 : har h2 (x + 1) = va_up (har h1 (x + 1)) k (some (hnx h)) := by
      rw [e2]
      show (if x + 1 = x + 1 then _ else _) = _
      rw [if_pos rfl]
    have har1 : har h1 (x + 1) = har h (x + 1) := (hS1 (x + 1) (by omega)).2.2.2.2.2.2.2
    obtain ⟨h', p1, p2, p3, p4, p5, p6, p7⟩ := ih (k + 1) h2 (by omega) ⟨hx.1.trans c1, (hx.2.2.2.2.1 _).trans c2, by rw [e2]; exact hA, by rw [e2]; exact hL, fun f => (hx.2.2.1 f).trans (c5 f), fun i hi => by
        by_cases e : i = k
        · subst e
          refine ⟨?_, ?_⟩
          · rw [har2, hn]
            simp [va_up]
          · rw [← hn]
            exact q6.same (fun b z1 z2 => hS2 b (by omega))
        · have hi' : i < k := by omega
          refine ⟨?_, (c6 i hi').2.same (fun b z1 z2 => hS b (by omega) (by omega))⟩
          rw [har2, har1]
          simp only [va_up, if_neg e]
          exact (c6 i hi').1⟩ (by rw [e2]; show hnx h1 = _; rw [q2, hn]; omega) (fun f hf => (hx.2.2.2.2.1 f).trans (hr f hf)) fl' (by omega) _ rfl
    refine ⟨h', hs.trans p1, p2, fun b hb => (hS b (by omega) (by omega)).tr (p3 b hb), ?_, ?_, p6, p7⟩
    · rw [p4, e2]
      show (hcs h1).1 + _ = _
      rw [q4]
      show (hcs h).1 + 1 + 3 + _ = _
      omega
    · rw [p5, e2]
      show (hcs h1).2 + _ = _
      rw [q5]
      show (hcs h).2 + 13 + 2410 + _ = _
      omega
