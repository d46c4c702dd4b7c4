/-! ===== retained as a call ===== -/
section CA9
variable {x j i : Nat} {e0 : Int32} {h h' : Hp} {r r' : RS}
theorem call_retained (l w : Int32) : OkX (Iv x) (fun e => if e = 1 then some 1 else none) (C_X11_retained x l w) (R_retained l w) (fun a b => a.toInt64 = b.toInt64) := by
  intro j h r hj I
  have mj : R_retained_J15 l w 1 r = some (0, sI r 0 1) := by
    unfold R_retained_J15
    rw [e_bd (m_ref 1 r), if_neg (by decide)]
    rfl
  obtain ⟨e0, r1, ep, O, I1, z0, K⟩ := I.pur
  have R := O.1
  have T := R.st
  have kx := T.2.1.1
  have k2 : hfr h (100 * 13 + 2) x = some (x + 35) := T.2.1.2.2.2.1
  have k35 : hkd h (x + 35) = 8 + 1 := T.2.2.1.2.2.2.2.1
  unfold C_X11_retained R_retained R_retained_J10
  by_cases g : w < 0
  · rw [if_pos g, if_pos g]
    exact ⟨.inl 1, hsk h 6, 0, sI r 0 1, rfl, mj, I.thr, 1, rfl, by decide, rfl⟩
  · rw [if_neg g, if_neg g]
    by_cases g3 : w ≤ 3
    · rw [if_pos g3, if_pos g3, e_gR kx, k2, e_Cv k35]
      unfold R_retained_J15
      rw [e_bd (m_ref 0 r), if_pos rfl, if_pos rfl, e_bd ep]
      rcases kep_of R K l with ⟨k, m, q, el, k16, q640, eg, ⟨⟨V, mc, mm, vk⟩, c508, cc, cc1, cc2⟩, e64, g0, g1, gg⟩ | ⟨eg, z⟩
      · rw [e_bd eg, if_neg (by simp), if_neg g0, x_rI, if_pos g1, el, x_rA mL_64 k16 (by omega), e64]
        have mc0 := mc
        obtain ⟨m1, m2, m3, ⟨t0, t01, t02⟩, ⟨t1, t11, t12⟩, _, _, _, m502, m503, m507⟩ := mc
        have m1' : hkd h m = 5 + 1 := m1
        obtain ⟨_, ⟨v46, v45⟩, ⟨o, o1, o2, o3, o4, o5⟩, _, _, _, v60, v61, v50⟩ := mm
        obtain ⟨n, en, n31⟩ := nn_ex g
        have n3 : n ≤ 3 := by
          rw [en, show (3 : Int32) = nn 3 from rfl, nn_le (by omega) (by omega)] at g3
          exact g3
        have tt : n = 0 ∨ n = 1 ∨ n = 2 ∨ n = 3 := by omega
        rcases tt with rfl | rfl | rfl | rfl <;> subst en
        · have t01' : hfr h (100 * 5 + 0) m = some t0 := t01
          have kt : hkd h t0 = 9 + 1 := t02.1
          rw [if_pos (by decide), e_gR m1', t01', e_Cv (c := 9) kt, e_bd (qc_cnt t02), if_neg (by decide), if_pos (by decide), x_rA mL_46 q640 (by omega), v46]
          exact ⟨.inr (nn V.1.length), h, nn V.1.length, r1, rfl, rfl, I1, z0, rfl⟩
        · have t11' : hfr h (100 * 5 + 1) m = some t1 := t11
          have kt : hkd h t1 = 9 + 1 := t12.1
          rw [if_neg (by decide), if_pos (by decide), e_gR m1', t11', e_Cv (c := 9) kt, e_bd (qc_cnt t12), if_neg (by decide), if_neg (by decide), if_pos (by decide), x_rA mL_48 q640 (by omega), o2]
          exact ⟨.inr (nn V.2.1.length), h, nn V.2.1.length, r1, rfl, rfl, I1, z0, rfl⟩
        · have m502' : hfi h (100 * 5 + 2) m = nn V.2.2.2.2.2.1 := m502
          rw [if_neg (by decide), if_neg (by decide), if_pos (by decide), e_gI m1', m502', if_neg (by decide), if_neg (by decide), if_neg (by decide), x_rA mL_60 q640 (by omega), v60]
          exact ⟨.inr (nn V.2.2.2.2.2.1), h, nn V.2.2.2.2.2.1, r1, rfl, rfl, I1, z0, rfl⟩
        · have m507' : hfl h (100 * 5 + 7) m = V.2.2.2.2.2.2.2 := m507
          have e9 : hfi h (100 * 13 + 9) x = r1.1 66 := R.2.1.2.1
          rw [if_neg (by decide), if_neg (by decide), if_neg (by decide), e_gL m1', m507', if_pos (show nn 3 = (3 : Int32) from rfl), x_rL mL_50 q640 (by omega), v50]
          rcases vk.2.2.2.2.1 with ev | ⟨u, u1, ev⟩
          · rw [ev, if_pos (by decide), if_neg (by decide)]
            exact ⟨.inr (-1), h, -1, r1, rfl, rfl, I1, z0, rfl⟩
          · have nu : ¬ lg_cmp (n6 u) (-1 : Int64) = 0 := fun z => by
              have e := cmp_eq.mp z
              have h0 : (0 : Int64) ≤ n6 u := by
                rw [show (0 : Int64) = n6 0 from rfl, n6_le (by omega) (by omega)]
                omega
              rw [e] at h0
              exact absurd h0 (by decide)
            have pu : 0 ≤ lg_cmp (n6 u) (0 : Int64) := by
              rw [cmp_ge, show (0 : Int64) = n6 0 from rfl, n6_le (by omega) (by omega)]
              omega
            have el : C_X3_left m (r1.1 66) h = some (n6 u - (r1.1 66 - r1.2.1 51 q).toInt64, h) := by
              rw [qc_left mc0, ev, c508]
              obtain ⟨tm, tm1, tm2⟩ := R.2.1.1
              have hcc : cc ≤ tm := by
                rw [tm2, iN_nn (by omega)] at cc1
                exact cc1
              have ed : (r1.1 66 - r1.2.1 51 q).toInt64 = n6 (tm - cc) := by
                rw [tm2, cc2, nn_sub hcc, n6_nn (by omega)]
              have hg : tm - cc < u := by
                unfold gon at gg
                have h1 := of_decide_eq_false gg
                rw [v50, ev, ed] at h1
                refine Nat.lt_of_not_le (fun z => h1 ⟨?_, ?_⟩)
                · rw [show (0 : Int64) = n6 0 from rfl, n6_le (by omega) (by omega)]
                  omega
                · rw [n6_le (by omega) (by omega)]
                  exact z
              unfold lft
              rw [ed]
              have es : n6 u - n6 (tm - cc) = n6 (u - (tm - cc)) := (Int64.ofNat_sub u (tm - cc) (by omega)).symm
              rw [es, if_neg (by rw [show (0 : Int64) = n6 0 from rfl, n6_le (by omega) (by omega)]; omega)]
            rw [ev, if_neg nu, e_gI kx, e9, e_Cv (c := 5) m1', e_bd el, if_pos pu, x_rL mL_50 q640 (by omega), v50, ev, x_rI, x_rA mL_51 q640 (by omega)]
            exact ⟨.inr _, h, _, r1, rfl, rfl, I1, z0, rfl⟩
      · rw [e_bd eg, if_pos rfl]
        refine ⟨.inr (-1), h, -1, r1, rfl, ?_, I1, z0, rfl⟩
        rcases z with z | ⟨z1, z2⟩
        · rw [if_pos z]
          rfl
        · rw [if_neg z1, x_rI, if_neg z2]
          rfl
    · rw [if_neg g3, if_neg g3]
      exact ⟨.inl 1, hsk h 6, 0, sI r 0 1, rfl, mj, I.thr, 1, rfl, by decide, rfl⟩
end CA9
