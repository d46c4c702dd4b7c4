def Fmk (c : Nat) (r : List (Nat × Nat × Int32)) (h : Hp) (a : Nat) : Prop := hkd h a = c + 1 ∧ (∀ f, hfi h f a = 0) ∧ (∀ f, hfl h f a = 0) ∧ (∀ f, (∀ x ∈ r, f ≠ 100 * c + x.1) → hfr h f a = none) ∧ ∀ (i : Nat) (x : Nat × Nat × Int32), r[i]? = some x → hfr h (100 * c + x.1) a = some (a + 1 + i) ∧ NewA h (a + 1 + i) x.2.1 x.2.2.toNatClampNeg
def ReaF (h : Hp) (a : Nat) : Prop := hkd h a = 8 ∧ (∀ f, hfi h f a = 0) ∧ hfr h 700 a = some (a + 1) ∧ hfr h 701 a = some (a + 2) ∧ hkd h (a + 1) = 10 ∧ hfr h 900 (a + 1) = some (a + 2) ∧ NewA h (a + 2) 0 0
theorem ReaF.same (h h' : Hp) (a : Nat) (x : ReaF h a) (hS : ∀ b, a ≤ b → b < a + 1 + 2 → Same h h' b) : ReaF h' a := by
  obtain ⟨x1, x2, x3, x4, x5, x6, x7⟩ := x
  have y := hS a (Nat.le_refl _) (by omega)
  have z := hS (a + 1) (by omega) (by omega)
  exact ⟨y.1.trans x1, fun f => (y.2.2.1 f).trans (x2 f), (y.2.2.2.2.1 _).trans x3, (y.2.2.2.2.1 _).trans x4, z.1.trans x5, (z.2.2.2.2.1 _).trans x6, x7.same (hS _ (by omega) (by omega))⟩
theorem rea_ev : Ctor 7 2 1 (fun a => C_X5_init a) ReaF := by
  intro h a ha hn hz
  have k1 := Keep.ob h 9 1
  have k2 := k1.tr (Keep.ay (hob h 9 1) 0 0)
  obtain ⟨h2, e2⟩ : ∃ h2, h2 = hay (hob h 9 1) 0 0 := ⟨_, rfl⟩
  rw [← e2] at k2
  have hrow : hkd h2 (a + 1) = 10 := by
    rw [e2, ← hn]
    exact ((Keep.ay (hob h 9 1) 0 0).2 (hnx h) (Nat.lt_succ_self _)).1.trans (kd_ob h 9 1)
  have ha2 : hkd h2 a = 8 := (k2.2 a (by omega)).1.trans ha
  have hnw : NewA h2 (a + 2) 0 0 := by
    rw [e2]
    have e : a + 2 = hnx (hob h 9 1) := by show _ = hnx h + 1; omega
    rw [e]
    exact ⟨if_pos rfl, if_pos rfl, fun j => by
      show (if hnx (hob h 9 1) = hnx (hob h 9 1) then (fun _ => 0) else _) j = _
      rw [if_pos rfl], fun j => by
      show (if hnx (hob h 9 1) = hnx (hob h 9 1) then (fun _ => 0) else _) j = _
      rw [if_pos rfl], fun j => by
      show (if hnx (hob h 9 1) = hnx (hob h 9 1) then (fun _ => none) else _) j = _
      rw [if_pos rfl]⟩
  obtain ⟨h3, e3⟩ : ∃ h3, h3 = sfr h2 900 (a + 1) (some (a + 2)) := ⟨_, rfl⟩
  obtain ⟨h4, e4⟩ : ∃ h4, h4 = sfr h3 700 a (some (a + 1)) := ⟨_, rfl⟩
  obtain ⟨h5, e5⟩ : ∃ h5, h5 = sfr h4 701 a (some (a + 2)) := ⟨_, rfl⟩
  have s3 : ∀ b, b ≠ a + 1 → Same h2 h3 b := fun b hb => by rw [e3]; exact Same.fr hb
  have s4 : ∀ b, b ≠ a → Same h3 h4 b := fun b hb => by rw [e4]; exact Same.fr hb
  have s5 : ∀ b, b ≠ a → Same h4 h5 b := fun b hb => by rw [e5]; exact Same.fr hb
  have ha3 : hkd h3 a = 8 := by rw [e3]; exact ha2
  have ha4 : hkd h4 a = 8 := by rw [e4]; exact ha3
  have hr4 : hkd h4 (a + 1) = 10 := by rw [e4, e3]; exact hrow
  have g4 : hfr h4 700 a = some (a + 1) := by
    rw [e4]
    show (if 700 = 700 ∧ a = a then _ else _) = _
    rw [if_pos ⟨rfl, rfl⟩]
  have g9 : hfr h4 900 (a + 1) = some (a + 2) := by
    rw [e4]
    show (if 900 = 700 ∧ a + 1 = a then (some (a + 1)) else hfr h3 900 (a + 1)) = _
    rw [if_neg (by omega), e3]
    show (if 900 = 900 ∧ a + 1 = a + 1 then _ else _) = _
    rw [if_pos ⟨rfl, rfl⟩]
  refine ⟨h5, ?_, ?_, fun b hb => ?_, ?_, ?_, ?_, fun f => ?_, ?_, ?_, ?_, ?_, ?_⟩
  · show bd (C_X7_init (hnx h) (some (hnx (hob h 9 1)))) (fun _ => hpR 7 0 (some a) (some (hnx h)) <| hgR 7 0 (some a) fun v4 => hgR 9 0 v4 fun v5 => hpR 7 1 (some a) v5 <| rt ()) (hay (hob h 9 1) 0 0) = _
    have x1 : hnx h = a + 1 := hn
    have x2 : hnx (hob h 9 1) = a + 2 := by show hnx h + 1 = _; omega
    rw [x2, x1, ← e2]
    have x3 : C_X7_init (a + 1) (some (a + 2)) h2 = some ((), h3) := by
      show hpR 9 0 (some (a + 1)) (some (a + 2)) (rt ()) h2 = _
      rw [e_pR (c := 9) hrow, e3]; rfl
    rw [e_bd x3, e_pR (c := 7) ha3]
    show hgR 7 0 (some a) _ (sfr h3 700 a (some (a + 1))) = _
    rw [← e4, e_gR (c := 7) ha4]
    show hgR 9 0 (hfr h4 700 a) _ h4 = _
    rw [g4, e_gR (c := 9) hr4]
    show hpR 7 1 (some a) (hfr h4 900 (a + 1)) _ h4 = _
    rw [g9, e_pR (c := 7) ha4, e5]; rfl
  · rw [e5, e4, e3, e2]
    show hnx h + 1 + 1 = _
    omega
  · exact (((k2.2 b (by omega)).tr (s3 b (by omega))).tr (s4 b (by omega))).tr (s5 b (by omega))
  · rw [e5, e4, e3, e2]; rfl
  · rw [e5, e4, e3, e2]
    show (hcs h).2 + 1 + 0 = _
    omega
  · rw [e5]; exact ha4
  · rw [e5, e4, e3]
    show hfi h2 f a = 0
    rw [(k2.2 a (by omega)).2.2.1 f]
    exact hz.1 f
  · rw [e5]
    show (if 700 = 701 ∧ a = a then (some (a + 2)) else hfr h4 700 a) = _
    rw [if_neg (by omega)]; exact g4
  · rw [e5]
    show (if 701 = 701 ∧ a = a then _ else _) = _
    rw [if_pos ⟨rfl, rfl⟩]
  · rw [e5]; exact hr4
  · rw [(s5 (a + 1) (by omega)).2.2.2.2.1]; exact g9
  · exact ((hnw.same (s3 _ (by omega))).same (s4 _ (by omega))).same (s5 _ (by omega))
def l4 : List (Nat × Nat × Int32) := [(1, 3, 40), (2, 0, 40), (3, 0, 40), (4, 0, 400), (6, 0, 0)]
def l6 : List (Nat × Nat × Int32) := [(0, 9, 16)]
def l10 : List (Nat × Nat × Int32) := [(1, 0, 600)]
theorem sto_ev : Ctor 8 1 16 (fun a => C_X6_init a) (Fmk 8 l6) := Ctor.mk l6 (fun a => rfl) (by decide +kernel) (by decide +kernel)
theorem pro_ev : Ctor 6 5 520 (fun a => C_X4_init a) (Fmk 6 l4) := Ctor.mk l4 (fun a => rfl) (by decide +kernel) (by decide +kernel)
theorem wri_ev : Ctor 12 1 600 (fun a => C_X10_init a) (Fmk 12 l10) := Ctor.mk l10 (fun a => rfl) (by decide +kernel) (by decide +kernel)
theorem gre_ev : Ctor 4 0 0 (fun a => C_X2_init a) (Fmk 4 []) := Ctor.mk [] (fun a => rfl) (by decide +kernel) (by decide +kernel)
theorem del_ev : Ctor 3 0 0 (fun a => C_X1_init a) (Fmk 3 []) := Ctor.mk [] (fun a => rfl) (by decide +kernel) (by decide +kernel)
theorem Fmk.same {c : Nat} {r : List (Nat × Nat × Int32)} {m : Nat} (hm : r.length = m) (h h' : Hp) (a : Nat) (x : Fmk c r h a) (hS : ∀ b, a ≤ b → b < a + 1 + m → Same h h' b) : Fmk c r h' a := Ctor.stay r h h' a x (by rw [hm]; exact hS)
/-- a new broker at x -/
def Fresh (h : Hp) (x : Nat) : Prop := CoK h x 8 ∧ (hfr h 1301 x = some (x + 34) ∧ NewA h (x + 34) 5 12) ∧ (hfr h 1302 x = some (x + 35) ∧ Fmk 8 l6 h (x + 35)) ∧ (hfr h 1303 x = some (x + 37) ∧ ReaF h (x + 37)) ∧ (hfr h 1304 x = some (x + 40) ∧ Fmk 6 l4 h (x + 40)) ∧ (hfr h 1305 x = some (x + 46) ∧ Fmk 12 l10 h (x + 46)) ∧ (hfr h 1306 x = some (x + 48) ∧ Fmk 4 [] h (x + 48)) ∧ (hfr h 1307 x = some (x + 49) ∧ Fmk 3 [] h (x + 49)) ∧ (hfr h 1308 x = some (x + 50) ∧ NewA h (x + 50) 0 133)
theorem CoK.same {h h' : Hp} {x k : Nat} (c : CoK h x k) (hx : hkd h' x = 14) (hi : ∀ f, hfi h' f x = hfi h f x) (hr : hfr h' 1300 x = hfr h 1300 x) (hS : ∀ b, x < b → b < x + 2 + 4 * k → Same h h' b) : CoK h' x k := by
  obtain ⟨c1, c2, c3, c4, c5, c6⟩ := c
  have y := hS (x + 1) (by omega) (by omega)
  exact ⟨hx, hr.trans c2, y.1.trans c3, y.2.1.trans c4, fun f => (hi f).trans (c5 f), fun i hi' => ⟨by rw [y.2.2.2.2.2.2.2]; exact (c6 i hi').1, (c6 i hi').2.same (fun b z1 z2 => hS b (by omega) (by omega))⟩⟩
theorem Fresh.same {h h' : Hp} {x : Nat} (c : Fresh h x) (hS : ∀ b, x ≤ b → b < x + 51 → Same h h' b) : Fresh h' x := by
  obtain ⟨c0, ⟨c1, d1⟩, ⟨c2, d2⟩, ⟨c3, d3⟩, ⟨c4, d4⟩, ⟨c5, d5⟩, ⟨c6, d6⟩, ⟨c7, d7⟩, ⟨c8, d8⟩⟩ := c
  have y := hS x (Nat.le_refl _) (by omega)
  exact ⟨c0.same (y.1.trans c0.1) (fun f => y.2.2.1 f) (y.2.2.2.2.1 _) (fun b z1 z2 => hS b (by omega) (by omega)), ⟨(y.2.2.2.2.1 _).trans c1, d1.same (hS _ (by omega) (by omega))⟩, ⟨(y.2.2.2.2.1 _).trans c2, Fmk.same (m := 1) rfl _ _ _ d2 (fun b z1 z2 => hS b (by omega) (by omega))⟩, ⟨(y.2.2.2.2.1 _).trans c3, ReaF.same _ _ _ d3 (fun b z1 z2 => hS b (by omega) (by omega))⟩, ⟨(y.2.2.2.2.1 _).trans c4, Fmk.same (m := 5) rfl _ _ _ d4 (fun b z1 z2 => hS b (by omega) (by omega))⟩, ⟨(y.2.2.2.2.1 _).trans c5, Fmk.same (m := 1) rfl _ _ _ d5 (fun b z1 z2 => hS b (by omega) (by omega))⟩, ⟨(y.2.2.2.2.1 _).trans c6, Fmk.same (m := 0) rfl _ _ _ d6 (fun b z1 z2 => hS b (by omega) (by omega))⟩, ⟨(y.2.2.2.2.1 _).trans c7, Fmk.same (m := 0) rfl _ _ _ d7 (fun b z1 z2 => hS b (by omega) (by omega))⟩, ⟨(y.2.2.2.2.1 _).trans c8, d8.same (hS _ (by omega) (by omega))⟩⟩
theorem fresh_ev {h : Hp} {x : Nat} (hk : hkd h x = 14) (hn : hnx h = x + 1) (hz : Zero h x) : ∃ h', C_X11_init x h = some ((), h') ∧ hnx h' = x + 51 ∧ (∀ b, b < x → Same h h' b) ∧ (hcs h').1 = (hcs h).1 + 50 ∧ (hcs h').2 = (hcs h).2 + 20706 ∧ Fresh h' x := by
  obtain ⟨h1, a1, b1, c1, d1, i1, r1, t1, u1', n1⟩ := arr_step (t := 4) (k := 0) (n := 8) (by decide) (h := h) (x := x) (P := C_X11_init_L15 x (C_X11_init_J41 x) fu (0 : Int32)) hk (by omega)
  rw [hn] at b1 c1 r1 n1
  have r1' : hfr h1 1300 x = some (x + 1) := by rw [r1, if_pos rfl]
  obtain ⟨h2, a2, b2, c2, t2, u2', k2, r2⟩ := con_loop (x := x) (K := C_X11_init_J41 x) 8 0 h1 rfl ⟨d1, r1', n1.1, n1.2.1, fun f => (i1 f).trans (hz.1 f), fun i hi => by omega⟩ b1 (fun f hf => by rw [r1, if_neg (by omega)]; exact hz.2.2 f) fu (by unfold fu; omega) 0 rfl
  have d2 := k2.1
  obtain ⟨h3, a3, b3, c3, d3, i3, r3, t3, u3, n3⟩ := arr_step (t := 5) (k := 1) (n := 12) (by decide) (h := h2) (x := x) (P := hNw 8 2 fun o => hCi o (fun a => C_X6_init a) fun _ => hpR 13 2 (some x) o <| hNw 7 5 fun o => hCi o (fun a => C_X5_init a) fun _ => hpR 13 3 (some x) o <| hNw 6 8 fun o => hCi o (fun a => C_X4_init a) fun _ => hpR 13 4 (some x) o <| hNw 12 3 fun o => hCi o (fun a => C_X10_init a) fun _ => hpR 13 5 (some x) o <| hNw 4 8 fun o => hCi o (fun a => C_X2_init a) fun _ => hpR 13 6 (some x) o <| hNw 3 6 fun o => hCi o (fun a => C_X1_init a) fun _ => hpR 13 7 (some x) o <| hNa 0 (133 : Int32) fun o => hpR 13 8 (some x) o <| rt ()) d2 (by omega)
  obtain ⟨h4, a4, b4, c4, d4, i4, r4, t4, u4, n4⟩ := sto_ev.step (n := 2) (k := 2) (Fmk.same rfl) (h := h3) (x := x) (P := hNw 7 5 fun o => hCi o (fun a => C_X5_init a) fun _ => hpR 13 3 (some x) o <| hNw 6 8 fun o => hCi o (fun a => C_X4_init a) fun _ => hpR 13 4 (some x) o <| hNw 12 3 fun o => hCi o (fun a => C_X10_init a) fun _ => hpR 13 5 (some x) o <| hNw 4 8 fun o => hCi o (fun a => C_X2_init a) fun _ => hpR 13 6 (some x) o <| hNw 3 6 fun o => hCi o (fun a => C_X1_init a) fun _ => hpR 13 7 (some x) o <| hNa 0 (133 : Int32) fun o => hpR 13 8 (some x) o <| rt ()) d3 (by omega)
  obtain ⟨h5, a5, b5, c5, d5, i5, r5, t5, u5, n5⟩ := rea_ev.step (n := 5) (k := 3) ReaF.same (h := h4) (x := x) (P := hNw 6 8 fun o => hCi o (fun a => C_X4_init a) fun _ => hpR 13 4 (some x) o <| hNw 12 3 fun o => hCi o (fun a => C_X10_init a) fun _ => hpR 13 5 (some x) o <| hNw 4 8 fun o => hCi o (fun a => C_X2_init a) fun _ => hpR 13 6 (some x) o <| hNw 3 6 fun o => hCi o (fun a => C_X1_init a) fun _ => hpR 13 7 (some x) o <| hNa 0 (133 : Int32) fun o => hpR 13 8 (some x) o <| rt ()) d4 (by omega)
  obtain ⟨h6, a6, b6, c6, d6, i6, r6, t6, u6, n6⟩ := pro_ev.step (n := 8) (k := 4) (Fmk.same rfl) (h := h5) (x := x) (P := hNw 12 3 fun o => hCi o (fun a => C_X10_init a) fun _ => hpR 13 5 (some x) o <| hNw 4 8 fun o => hCi o (fun a => C_X2_init a) fun _ => hpR 13 6 (some x) o <| hNw 3 6 fun o => hCi o (fun a => C_X1_init a) fun _ => hpR 13 7 (some x) o <| hNa 0 (133 : Int32) fun o => hpR 13 8 (some x) o <| rt ()) d5 (by omega)
  obtain ⟨h7, a7, b7, c7, d7, i7, r7, t7, u7, n7⟩ := wri_ev.step (n := 3) (k := 5) (Fmk.same rfl) (h := h6) (x := x) (P := hNw 4 8 fun o => hCi o (fun a => C_X2_init a) fun _ => hpR 13 6 (some x) o <| hNw 3 6 fun o => hCi o (fun a => C_X1_init a) fun _ => hpR 13 7 (some x) o <| hNa 0 (133 : Int32) fun o => hpR 13 8 (some x) o <| rt ()) d6 (by omega)
  obtain ⟨h8, a8, b8, c8, d8, i8', r8, t8, u8, n8⟩ := gre_ev.step (n := 8) (k := 6) (Fmk.same rfl) (h := h7) (x := x) (P := hNw 3 6 fun o => hCi o (fun a => C_X1_init a) fun _ => hpR 13 7 (some x) o <| hNa 0 (133 : Int32) fun o => hpR 13 8 (some x) o <| rt ()) d7 (by omega)
  obtain ⟨h9, a9, b9, c9, d9, i9, r9, t9, u9, n9⟩ := del_ev.step (n := 6) (k := 7) (Fmk.same rfl) (h := h8) (x := x) (P := hNa 0 (133 : Int32) fun o => hpR 13 8 (some x) o <| rt ()) d8 (by omega)
  obtain ⟨hA, aA, bA, cA, dA, iA, rA, tA, uA, nA⟩ := arr_step (t := 0) (k := 8) (n := 133) (by decide) (h := h9) (x := x) (P := rt ()) d9 (by omega)
  have e3 : hnx h2 = x + 34 := b2
  have e4 : hnx h3 = x + 35 := by omega
  have e5 : hnx h4 = x + 37 := by omega
  have e6 : hnx h5 = x + 40 := by omega
  have e7 : hnx h6 = x + 46 := by omega
  have e8 : hnx h7 = x + 48 := by omega
  have e9 : hnx h8 = x + 49 := by omega
  have eA : hnx h9 = x + 50 := by omega
  rw [e3] at c3 r3 n3
  rw [e4] at c4 r4 n4
  rw [e5] at c5 r5 n5
  rw [e6] at c6 r6 n6
  rw [e7] at c7 r7 n7
  rw [e8] at c8 r8 n8
  rw [e9] at c9 r9 n9
  rw [eA] at cA rA nA
  have s9 : ∀ b, b < x + 50 → b ≠ x → Same h9 hA b := cA
  have s8 : ∀ b, b < x + 49 → b ≠ x → Same h8 hA b := fun b h1 h2 => (c9 b h1 h2).tr (s9 b (by omega) h2)
  have s7 : ∀ b, b < x + 48 → b ≠ x → Same h7 hA b := fun b h1 h2 => (c8 b h1 h2).tr (s8 b (by omega) h2)
  have s6 : ∀ b, b < x + 46 → b ≠ x → Same h6 hA b := fun b h1 h2 => (c7 b h1 h2).tr (s7 b (by omega) h2)
  have s5 : ∀ b, b < x + 40 → b ≠ x → Same h5 hA b := fun b h1 h2 => (c6 b h1 h2).tr (s6 b (by omega) h2)
  have s4 : ∀ b, b < x + 37 → b ≠ x → Same h4 hA b := fun b h1 h2 => (c5 b h1 h2).tr (s5 b (by omega) h2)
  have s3 : ∀ b, b < x + 35 → b ≠ x → Same h3 hA b := fun b h1 h2 => (c4 b h1 h2).tr (s4 b (by omega) h2)
  have s2 : ∀ b, b < x + 34 → b ≠ x → Same h2 hA b := fun b h1 h2 => (c3 b h1 h2).tr (s3 b (by omega) h2)
  refine ⟨hA, ?_, by omega, fun b hb => ?_, ?_, ?_, ?_⟩
  · show hNa 4 (8 : Int32) (fun o => hpR 13 0 (some x) o <| C_X11_init_L15 x (C_X11_init_J41 x) fu (0 : Int32)) h = _
    rw [a1, a2]
    unfold C_X11_init_J41
    rw [a3, a4, a5, a6, a7, a8, a9, aA]
    rfl
  · exact ((c1 b (by omega) (by omega)).tr (c2 b hb)).tr (s2 b (by omega) (by omega))
  · omega
  · have y1 : (8 : Int32).toNatClampNeg = 8 := by decide
    have y2 : (12 : Int32).toNatClampNeg = 12 := by decide
    have y3 : (133 : Int32).toNatClampNeg = 133 := by decide
    omega
  · refine ⟨k2.same dA (fun f => by rw [iA, i9, i8', i7, i6, i5, i4, i3]) ?_ (fun b z1 z2 => s2 b (by omega) (by omega)), ⟨?_, n3.same (s3 _ (by omega) (by omega))⟩, ⟨?_, Fmk.same (m := 1) rfl _ _ _ n4 (fun b z1 z2 => s4 b (by omega) (by omega))⟩, ⟨?_, ReaF.same _ _ _ n5 (fun b z1 z2 => s5 b (by omega) (by omega))⟩, ⟨?_, Fmk.same (m := 5) rfl _ _ _ n6 (fun b z1 z2 => s6 b (by omega) (by omega))⟩, ⟨?_, Fmk.same (m := 1) rfl _ _ _ n7 (fun b z1 z2 => s7 b (by omega) (by omega))⟩, ⟨?_, Fmk.same (m := 0) rfl _ _ _ n8 (fun b z1 z2 => s8 b (by omega) (by omega))⟩, ⟨?_, Fmk.same (m := 0) rfl _ _ _ n9 (fun b z1 z2 => s9 b (by omega) (by omega))⟩, ⟨?_, nA⟩⟩
    all_goals simp [rA, r9, r8, r7, r6, r5, r4, r3]
