/-! ===== the law's start, evaluated ===== -/
/-- START goes on with the law's loop, over a new broker at n and the model's new state -/
def outL (r : Option (Unit × Lz)) : Option (Unit × Hp) := r.map fun q => ((), q.2.1)
theorem start_ev (n L : Nat) (xs : Nat → Int32) : ∃ h : Hp, START n L xs (h00 n) = outL (LAW L xs (some n) (some (n + 129)) (h, rs0)) ∧ Fresh h n ∧ NewA h (n + 129) 3 1 ∧ hnx h = n + 130 ∧ (hcs h).1 = 130 ∧ (hcs h).2 = 375602 := by
  obtain ⟨h1, a1, b1, c1, d1, e1, f1⟩ := fresh_ev (h := hob (h00 n) 13 16) (x := n) (kd_ob (h00 n) 13 16) rfl (Zero.ob (h00 n) 13 16)
  obtain ⟨h2, a2, b2, c2, d2, e2, f2⟩ := mi_post (h := hob h1 14 99) (a := hnx h1) (kd_ob h1 14 99) rfl (Zero.ob h1 14 99).1
  obtain ⟨h3, g3⟩ : ∃ h3, h3 = hay h2 3 1 := ⟨_, rfl⟩
  have k3 : Keep h2 h3 := by rw [g3]; exact Keep.ay h2 3 1
  have n3 : hnx h3 = hnx h2 + 1 := by rw [g3]; rfl
  have hk1 := Keep.ob h1 14 99
  have nb : hnx (hob h1 14 99) = hnx h1 + 1 := rfl
  rw [nb] at b2
  have hM := f2 h3 (by omega) k3.2
  have S : ∀ b, b < hnx h1 → Same h1 h3 b := fun b hb => ((hk1.2 b hb).tr (c2 b hb)).tr (k3.2 b (by omega))
  have SC : ∀ b, b < hnx h1 → Same h3 (clr (hnx h1) h3) b := fun b hb => ⟨by
    show (if hnx h1 ≤ b ∧ b ≤ hnx h1 + 77 then 0 else _) = _
    rw [if_neg (by omega)]; rfl, rfl, fun _ => rfl, fun _ => rfl, fun _ => rfl, rfl, rfl, rfl⟩
  have e129 : hnx h2 = n + 129 := by omega
  refine ⟨clr (hnx h1) h3, ?_, f1.same (fun b z1 z2 => (S b (by omega)).tr (SC b (by omega))), ?_, by show hnx h3 = _; omega, ?_, ?_⟩
  · show bd (C_X11_init n) (fun _ => hNw 14 99 fun o2 => hCi o2 (fun a => C_X12_init a) fun _ => hNa 3 (1 : Int32) fun o3 => SW n L xs (some n) o2 o3) (hob (h00 n) 13 16) = _
    rw [e_bd a1]
    show bd (C_X12_init (hnx h1)) (fun _ => hNa 3 (1 : Int32) fun o3 => SW n L xs (some n) (some (hnx h1)) o3) (hob h1 14 99) = _
    rw [e_bd a2, e_Na (by decide)]
    show SW n L xs (some n) (some (hnx h1)) (some (hnx h2)) (hay h2 3 1) = _
    rw [← g3, e129]
    unfold SW
    dsimp only
    rw [if_pos ⟨by omega, hM⟩]
    cases LAW L xs (some n) (some (n + 129)) (clr (hnx h1) h3, rs0) with
    | none => rfl
    | some q => rfl
  · have z : NewA h3 (n + 129) 3 1 := by
      rw [g3, ← e129]
      exact ⟨if_pos rfl, if_pos rfl, fun j => by
        show (if hnx h2 = hnx h2 then (fun _ => 0) else _) j = _
        rw [if_pos rfl], fun j => by
        show (if hnx h2 = hnx h2 then (fun _ => 0) else _) j = _
        rw [if_pos rfl], fun j => by
        show (if hnx h2 = hnx h2 then (fun _ => none) else _) j = _
        rw [if_pos rfl]⟩
    refine z.same ⟨?_, rfl, fun _ => rfl, fun _ => rfl, fun _ => rfl, rfl, rfl, rfl⟩
    show (if hnx h1 ≤ n + 129 ∧ n + 129 ≤ hnx h1 + 77 then 0 else _) = _
    rw [if_neg (by omega)]; rfl
  · show (hcs h3).1 = _
    rw [g3]
    show (hcs h2).1 + 1 = _
    rw [d2]
    show (hcs h1).1 + 1 + 77 + 1 = _
    have z : (hcs (hob (h00 n) 13 16)).1 = 1 := rfl
    omega
  · show (hcs h3).2 = _
    rw [g3]
    show (hcs h2).2 + 1 = _
    rw [e2]
    show (hcs h1).2 + 99 + 354780 + 1 = _
    have z : (hcs (hob (h00 n) 13 16)).2 = 16 := rfl
    omega
