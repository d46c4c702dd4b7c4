/-! ===== the law's invariant; feed and lose as calls ===== -/
section CAL
variable {x j i : Nat} {e0 : Int32} {h : Hp} {r : RS}
def Iv (x j : Nat) (h : Hp) (r : RS) : Prop := ∃ e0, Okr x e0 h r ∧ (∃ t, r.1 66 = nn t ∧ t ≤ 4000 * j) ∧ Cn r (320 * j) ∧ (hcs h).1 + WN r + 60 * SB r ≤ 130 + 1000 * j ∧ (hcs h).2 + 6 * WN r + 700 * SB r ≤ 375602 + 12000 * j
theorem nn_ofp {v : Int32} (z : 0 ≤ v) : v = nn v.toNatClampNeg := by
  have z1 : (0 : Int32).toInt ≤ v.toInt := Int32.le_iff_toInt_le.mp z
  have z0 : (0 : Int32).toInt = 0 := rfl
  have z2 : v.toInt < 2147483648 := Int32.toInt_lt v
  have e : v.toNatClampNeg = v.toInt.toNat := rfl
  apply Int32.toInt_inj.mp
  rw [e]
  have q := nn_I (k := v.toInt.toNat) (by omega)
  rw [q]
  omega
theorem Okr.sk (O : Okr x e0 h r) {v : Int32} {n : Nat} : Okr x e0 (hsk h n) (sI r 0 v) := by
  have T := O.1.st
  obtain ⟨f, bs, W⟩ := O.1.wr
  have p : Fm x [] (fun _ => False) h (hsk h n) := Fm.sk Fm.rf
  have w : Ro [0] r (sI r 0 v) := Ro.rf.i (by decide)
  exact ⟨O.1.scr (p.sub (by decide) (fun _ z => z.elim)) (w.sub (by decide)) ⟨f, bs, W.fmx T p (by decide) (fun z => z)⟩, O.2⟩
theorem Okr.z0 (O : Okr x e0 h r) {v : Int32} : Okr x e0 h (sI r 0 v) := by
  have w : Ro [0] r (sI r 0 v) := Ro.rf.i (by decide)
  exact ⟨O.1.scr (Fm.rf) (w.sub (by decide)) O.1.wr, O.2⟩
theorem Iv.thr (I : Iv x j h r) {v : Int32} : Iv x (j + 1) (hsk h 6) (sI r 0 v) := by
  obtain ⟨e0, O, ⟨t, t1, t2⟩, c, k1, k2⟩ := I
  refine ⟨e0, O.sk, ⟨t, t1, by omega⟩, ?_, ?_, ?_⟩
  · exact Cn.le (c := 320 * j) c (by omega)
  · show (hcs h).1 + 1 + WN r + 60 * SB r ≤ _
    omega
  · show (hcs h).2 + 6 + 6 * WN r + 700 * SB r ≤ _
    omega
theorem Iv.z0 (I : Iv x j h r) {v : Int32} : Iv x (j + 1) h (sI r 0 v) := by
  obtain ⟨e0, O, ⟨t, t1, t2⟩, c, k1, k2⟩ := I
  refine ⟨e0, O.z0, ⟨t, t1, by omega⟩, ?_, ?_, ?_⟩
  · exact Cn.le (c := 320 * j) c (by omega)
  · show (hcs h).1 + WN r + 60 * SB r ≤ _
    omega
  · show (hcs h).2 + 6 * WN r + 700 * SB r ≤ _
    omega
theorem con_in (T : Stat x h) (hi : i < 8) : C_X11_connectionOf x (nn i) h = some (.inr (some (cA x i)), h) := by
  obtain ⟨a1, a2, a3⟩ := T.2.2.1
  have k1 : hkd h x = 13 + 1 := T.2.1.1
  have k0 : hfr h (100 * 13 + 0) x = some (x + 1) := T.2.1.2.1
  unfold C_X11_connectionOf
  rw [if_neg (by rw [show (0 : Int32) = nn 0 from rfl, nn_lt (by omega) (by omega)]; omega), if_pos (by rw [show (8 : Int32) = nn 8 from rfl, nn_lt (by omega) (by omega)]; omega), e_gR k1, k0, e_Ar (t := 4) a1 (nn_inr (by omega) (by omega)), nn_N (by omega), (T.2.2.2.2.2.2 i hi).1]
  rfl
theorem call_in {α : Type} {f : Option Nat → Hp → Option ((Nat ⊕ α) × Hp)} (T : Stat x h) (hi : i < 8) : hCx 13 (some x) (fun a => C_X11_connectionOf a (nn i)) f h = f (some (cA x i)) h := by
  rw [e_Cx (c := 13) T.2.1.1]
  exact e_bxR (con_in T hi)
theorem m_con (hi : i < 8) : R_isConnection (nn i) r = some (1, r) := by
  rw [m_isCon, if_pos ⟨by rw [show (0 : Int32) = nn 0 from rfl, nn_lt (by omega) (by omega)]; omega, by rw [show (8 : Int32) = nn 8 from rfl, nn_lt (by omega) (by omega)]; omega⟩]
theorem m43 {l1 l6 s1 : Int32} {l2 l4 : Int64} (z : s1 ≠ 0) : R_feed_J43 l1 l2 l4 l6 s1 r = some (0, sI r 0 s1) := by
  unfold R_feed_J43
  rw [e_bd (m_ref s1 r), if_neg z, if_neg (by decide)]
  rfl
theorem call_feed (CN : ConP x) (v : Int32) (a b : Int64) (n : Int32) : OkX (Iv x) (fun e => if e = 0 then some 1 else if e = 1 then some 2 else if e = 2 then some 3 else none) (C_X11_feed x v a b n) (R_feed v a b n) (fun a b => a.toInt64 = b.toInt64) := by
  intro j h r hj I
  have I0 := I
  obtain ⟨e0, O, ⟨t, t1, t2⟩, cn, k1, k2⟩ := I0
  have T := O.1.st
  have kx := T.2.1.1
  by_cases hv : inCon v
  · obtain ⟨n1, n2⟩ := hv.nat
    obtain ⟨i, hi, ev⟩ : ∃ i, i < 8 ∧ v = nn i := ⟨v.toNatClampNeg, n1, nn_ofp n2⟩
    subst ev
    obtain ⟨c1, _⟩ := T.pk hi
    unfold C_X11_feed R_feed R_feed_J25
    rw [call_in T hi, e_bd (m_con hi), if_neg (show ¬ (1 : Int32) = 0 by decide)]
    by_cases g1 : n < 1
    · rw [if_pos g1, if_pos g1]
      exact ⟨.inl 1, hsk h 6, 0, sI r 0 2, rfl, m43 (by decide), I.thr, 2, rfl, by decide, rfl⟩
    · rw [if_neg g1, if_neg g1]
      by_cases g2 : n ≤ 16
      · have CA := (O.1.2.2.2.1 i hi).1.1
        have e1 : hfi h (100 * 2 + 1) (cA x i) = r.2.1 1 i := CA.1
        rw [if_pos g2, if_pos g2, e_gI c1, e1, x_rA mL_1 hi (by omega)]
        rcases CA.2 with z | z
        · rw [z, if_pos rfl, if_pos rfl]
          exact ⟨.inl 2, hsk h 6, 0, sI r 0 3, rfl, m43 (by decide), I.thr, 3, rfl, by decide, rfl⟩
        · rw [z, if_neg (by decide), if_neg (by decide), e_gI kx]
          have n0 : 0 ≤ n := by
            have q : (1 : Int32) ≤ n := Int32.not_lt.mp g1
            exact Int32.le_trans (by decide) q
          obtain ⟨m, em⟩ : ∃ m, m = n.toNatClampNeg := ⟨_, rfl⟩
          have en : n = nn m := by
            rw [em]
            exact nn_ofp n0
          have hm31 : m < 2147483648 := by
            rw [em]
            have := Int32.toInt_lt n
            have e : n.toNatClampNeg = n.toInt.toNat := rfl
            omega
          subst en
          have hm : m ≤ 16 := by
            rw [show (16 : Int32) = nn 16 from rfl, nn_le (by omega) (by omega)] at g2
            exact g2
          have g10 : hfi h (100 * 13 + 10) x = r.1 67 := O.1.2.1.2.2.1
          unfold R_feed_J43
          rw [e_bd (m_ref 0 r), if_pos rfl, if_pos rfl, g10]
          obtain ⟨w, h', w', r', q1, q2, F⟩ := feed_loop (e0 := e0) (l2 := a) (l4 := b) CN hi hm m 0 fu fu h (sI r 0 0) (r.1 67) 0 (by omega) (by unfold fu; omega) (by unfold fu; omega) O.z0 (Int32.add_zero _).symm ⟨320 * j, cn, by omega⟩
          obtain ⟨f1, f2, f3, f4, f5⟩ := F
          subst f1
          have wz : WN (sI r 0 0) = WN r := rfl
          have sz : SB (sI r 0 0) = SB r := rfl
          rw [wz, sz] at f3 f4
          refine ⟨.inr w', h', w', r', q1, q2, ⟨e0, f2, ⟨t, by rw [f5.2.1]; exact t1, by omega⟩, ?_, by omega, by omega⟩, ?_, rfl⟩
          · exact (f5.1 _ cn).le (by omega)
          · rw [f5.2.2]
            rfl
      · rw [if_neg g2, if_neg g2]
        exact ⟨.inl 1, hsk h 6, 0, sI r 0 2, rfl, m43 (by decide), I.thr, 2, rfl, by decide, rfl⟩
  · unfold C_X11_feed R_feed
    rw [callC_out kx hv, e_bd (m_isCon v r), if_neg (show ¬ (¬ v < 0 ∧ v < 8) from hv), if_pos rfl]
    exact ⟨.inl 0, hsk h 6, 0, sI r 0 1, rfl, m43 (by decide), I.thr, 1, rfl, by decide, rfl⟩
end CAL
