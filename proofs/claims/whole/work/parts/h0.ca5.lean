/-! ===== pass as a call ===== -/
section CA5
variable {x j i : Nat} {e0 : Int32} {h h' : Hp} {r r' : RS}
theorem call_pass (n : Int32) : OkX (Iv x) (fun e => if e = 1 then some 1 else none) (C_X11_pass x n) (R_pass n) (fun a b => a.toInt64 = b.toInt64) := by
  intro j h r hj I
  have I0 := I
  obtain ⟨e0, O, ⟨t, t1, t2⟩, cn, k1, k2⟩ := I0
  have T := O.1.st
  have hx := T.1
  have kx := T.2.1.1
  have mj : R_pass_J17 n 1 r = some (0, sI r 0 1) := by
    unfold R_pass_J17
    rw [e_bd (m_ref 1 r), if_neg (by decide)]
    rfl
  unfold C_X11_pass R_pass R_pass_J12
  by_cases g0 : n < 0
  · rw [if_pos g0, if_pos g0]
    exact ⟨.inl 1, hsk h 6, 0, sI r 0 1, rfl, mj, I.thr, 1, rfl, by decide, rfl⟩
  · rw [if_neg g0, if_neg g0]
    by_cases g1 : n ≤ 4000
    · obtain ⟨d, ed, d31⟩ := nn_ex g0
      have hd : d ≤ 4000 := by
        rw [ed, show (4000 : Int32) = nn 4000 from rfl, nn_le (by omega) (by omega)] at g1
        exact g1
      have e9 : hfi h (100 * 13 + 9) x = nn t := O.1.2.1.2.1.trans t1
      have O1 : Okr x e0 h (sI r 0 0) := O.z0
      have G := O1.1.2.1
      have G' : Glo x (sfi h 1313 x 0) (sI r 0 0) (r.1 74) := by
        obtain ⟨a1, a2, a3, a4, a5, a6, a7, a8⟩ := G
        have oth : ∀ f, f ≠ 1313 → hfi (sfi h 1313 x 0) f x = hfi h f x := fun f hf => by
          rw [hfi_sfi, if_neg (fun z => hf z.1)]
        refine ⟨a1, by rw [oth _ (by omega)]; exact a2, by rw [oth _ (by omega)]; exact a3, by rw [oth _ (by omega)]; exact a4, by rw [oth _ (by omega)]; exact a5, by rw [oth _ (by omega)]; exact a6, by rw [oth _ (by omega)]; exact a7, ?_⟩
        rw [hfi_sfi, if_pos ⟨rfl, rfl⟩, Int32.zero_add]
        rfl
      have R2 : Rel x 8 12 96 (r.1 74) (sfi h 1313 x 0) (sI r 0 0) := O1.1.glo (by omega) (by decide) G' Ho.rf rfl rfl
      obtain ⟨v, h3, w, r3, q1, q2, R3, ev, ew, e66, s2, P3, w3, u3⟩ := sim_passL (x := x) (ec := 8) (e0 := r.1 74) (T0 := t + d) (d := d) (h := sfi h 1313 x 0) (r := sI r 0 0) (l4 := r.1 74) d t 0 0 fu fu (sfi h 1313 x 0) (sI r 0 0) rfl (by omega) (by omega) (by unfold fu; omega) (by unfold fu; omega) hd (by omega) R2 t1 O1.2 Pd.rf Ro.rf C5.rf
      unfold R_pass_J17 lq
      rw [if_pos g1, if_pos g1, e_gI kx, e9]
      dsimp only
      rw [e_pI kx, e_bd (m_ref 0 r), if_pos rfl, if_pos rfl, x_rI, ed]
      have q1' : C_X11_pass_L33 x (C_X11_pass_J74 x) fu (nn d) (nn t + nn d) 0 (sfi h (100 * 13 + 13) x 0) = some (v, h3) := by
        rw [nn_add]
        exact q1
      refine ⟨v, h3, w, r3, q1', q2, ?_, ?_⟩
      · have sb5 := SB.le (r := sI r 0 0) (r' := r3) (fun i' g => by
          rcases u3 i' g with z | ⟨_, z⟩
          · rw [R3.five g z]
            omega
          · rw [z]
            exact Nat.le_refl _)
        have p1 := P3.1
        have p2 := P3.2
        have c1 : hcs (sfi h 1313 x 0) = hcs h := rfl
        have c2 : WN (sI r 0 0) = WN r := rfl
        have c3 : SB (sI r 0 0) = SB r := rfl
        rw [c1, c2] at p1 p2
        rw [c3] at sb5
        obtain ⟨a, b, dd, h1, h2, h3', h4, h5, h6⟩ := cn
        exact ⟨r.1 74, ⟨R3, s2⟩, ⟨t + d, e66, by omega⟩, ⟨a, b, dd, by rw [w3.gI (by decide)]; exact h1, by rw [w3.gI (by decide)]; exact h2, by rw [w3.gI (by decide)]; exact h3', by omega, by omega, by omega⟩, by omega, by omega⟩
      · subst ev
        refine ⟨?_, ?_⟩
        · rw [w3.gI (by decide)]
          rfl
        · rw [ew]
    · rw [if_neg g1, if_neg g1]
      exact ⟨.inl 1, hsk h 6, 0, sI r 0 1, rfl, mj, I.thr, 1, rfl, by decide, rfl⟩
end CA5
