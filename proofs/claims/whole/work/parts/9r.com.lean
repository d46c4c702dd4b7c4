/-! ===== a will comes, by both ===== -/
def wF : List Nat := [508, 801, 1011] ++ dF
def wS : List Nat := [20, 22, 51, 62, 63, 64, 65] ++ dS
def wAr (x : Nat) (h : Hp) : Nat → Prop := fun a => gA x h a ∨ a = x + 36
def GW (x : Nat) (h h' : Hp) (r r' : RS) : Prop := Fm x wF (wAr x h) h h' ∧ Ro wS r r' ∧ har h' (x + 34) = har h (x + 34)
theorem GW.tr {x : Nat} {h h1 h2 : Hp} {r r1 r2 : RS} (p : GW x h h1 r r1) (q : GW x h1 h2 r1 r2) : GW x h h2 r r2 := by
  have e : wAr x h1 = wAr x h := by
    unfold wAr gA
    rw [p.2.2]
  refine ⟨p.1.tr ?_, p.2.1.tr q.2.1, q.2.2.trans p.2.2⟩
  have := q.1
  rwa [e] at this
theorem GD.gw {x : Nat} {h h' : Hp} {r r' : RS} (p : GD x h h' r r') : GW x h h' r r' := ⟨p.1.sub (by decide) (fun _ z => Or.inl z), p.2.1.sub (by decide), p.2.2⟩
/-- objects and elements are paid for by wills -/
def Pd (h h' : Hp) (r r' : RS) : Prop := (hcs h').1 + WN r' ≤ (hcs h).1 + WN r ∧ (hcs h').2 + 6 * WN r' ≤ (hcs h).2 + 6 * WN r
theorem Pd.rf {h : Hp} {r : RS} : Pd h h r r := ⟨Nat.le_refl _, Nat.le_refl _⟩
theorem Pd.tr {h h1 h2 : Hp} {r r1 r2 : RS} (p : Pd h h1 r r1) (q : Pd h1 h2 r1 r2) : Pd h h2 r r2 := ⟨Nat.le_trans q.1 p.1, Nat.le_trans q.2 p.2⟩
theorem Pd.mk {h h' : Hp} {r r' : RS} (hc : hcs h' = hcs h) (hw : WN r' ≤ WN r) : Pd h h' r r' := by
  unfold Pd
  rw [hc]
  omega
section COM
variable {x ec es s b m j : Nat} {e0 : Int32} {h : Hp} {r : RS}
theorem qc_comes0 (T : SesT x h s b) (hm : hfr h 1011 b = none) : C_X11_comes x (some b) h = some ((), h) := by
  have : wp (C_X11_comes x (some b)) h (fun _ h' => h' = h) := by
    unfold C_X11_comes
    have hm' : hfr h (100 * 10 + 11) b = none := hm
    rw [wp_gR T.1, hm', wp_pos rfl, wp_rt]
  obtain ⟨v, h', e1, e2⟩ := this
  rw [e1, e2]
theorem sim_comes (R : Rel x ec es 96 e0 h r) (hs : s < 12) (hb : har h (x + 34) s = some b) (hm : hfr h 1011 b = some m) (hj : r.2.1 20 s = nn j) (hMp : Mp x h r m j) :
    Sim (C_X11_comes x (some b)) h (R_comes (nn s)) r (fun _ h' _ r' => Rel x ec es 96 e0 h' r' ∧ GW x h h' r r' ∧ r'.2.1 20 s = -1 ∧ hfr h' 1011 b = none ∧ Pd h h' r r') := by
  have T := R.st
  have hx := T.1
  have Sb := R.ses hs hb
  have t1 := T.2.1.1
  have hbl := Sb.1.2.2.1
  obtain ⟨V, v1, v2, v3⟩ := hMp
  have hj6 := v2.1
  have hm1 := v1.2.2.1
  have hm2 := v1.2.1
  have g9 : hfi h (100 * 13 + 9) x = r.1 66 := R.2.1.2.1
  have hm' : hfr h (100 * 10 + 11) b = some m := hm
  unfold C_X11_comes R_comes
  rw [sl_gR Sb.1.1, hm', sl_neg (by simp), sl_pR Sb.1.1, sl_gI (by exact t1)]
  have g9' : hfi (sfr h (100 * 10 + 11) b none) (100 * 13 + 9) x = r.1 66 := g9
  rw [g9', sl_pI (by exact v1.1), sr_r20 hs, hj, sr_w20 hs, sr_w22 hs, sr_w63 hj6, sr_rI, sr_w51 hj6, sr_r12 hs, sr_w62 hj6, sr_r61 hj6, sl_gI (by exact v1.1)]
  obtain ⟨R1, M1, F1⟩ := R.will (v := vp_nar .boolean (1 : Int32)) hs hb hm hj ⟨V, v1, v2, v3⟩
  obtain ⟨h1, hh1⟩ : ∃ z, z = sfi (sfr h (100 * 10 + 11) b none) (100 * 5 + 8) m (r.1 66) := ⟨_, rfl⟩
  obtain ⟨r1, hr1⟩ : ∃ z, z = sA (sA (sA (sL (sA r 20 s (-1)) 22 s (-1)) 63 j (vp_nar .boolean (1 : Int32))) 51 j (r.1 66)) 62 j (r.2.1 12 s) := ⟨_, rfl⟩
  have e12 : (sA (sA (sL (sA r 20 s (-1)) 22 s (-1)) 63 j (vp_nar .boolean (1 : Int32))) 51 j ((sA (sL (sA r 20 s (-1)) 22 s (-1)) 63 j (vp_nar .boolean (1 : Int32))).1 66)).2.1 12 s = r.2.1 12 s := rfl
  have e66 : (sA (sL (sA r 20 s (-1)) 22 s (-1)) 63 j (vp_nar .boolean (1 : Int32))).1 66 = r.1 66 := rfl
  rw [e12, e66, ← hr1, ← hh1]
  have R1 : Rel x ec es 96 e0 h1 r1 := by rw [hh1, hr1]; exact R1
  have M1 : Msg x h1 r1 m j := by rw [hh1, hr1]; exact M1
  have F1 : Frm x h1 r1 j b := by rw [hh1, hr1]; exact F1
  have pp : Fm x [508, 1011] (fun _ => False) h h1 := by
    rw [hh1]
    refine Fm.fi (Fm.fr Fm.rf ?_ ?_) ?_ ?_
    · exact Or.inl (by decide)
    · exact Or.inl (by decide)
    · exact Or.inl (by decide)
    · exact Or.inl (by decide)
  have ww : Ro [20, 22, 51, 62, 63] r r1 := by
    rw [hr1]
    exact ((((Ro.rf.a (by decide)).l (by decide)).a (by decide)).a (by decide)).a (by decide)
  have e34 : har h1 = har h := by rw [hh1]; rfl
  have G1 : GW x h h1 r r1 := ⟨pp.sub (by decide) (fun _ z => z.elim), ww.sub (by decide), by rw [e34]⟩
  have c1 : hcs h1 = hcs h := by rw [hh1]; rfl
  have z20 : r1.2.1 20 s = -1 := by
    rw [hr1, sA_o (by decide), sA_o (by decide), sA_o (by decide), sL_2, sA_2, if_pos ⟨rfl, rfl⟩]
  have w20' : ∀ s', r1.2.1 20 s' = if s' = s then -1 else r.2.1 20 s' := fun s' => by
    rw [hr1, sA_o (by decide), sA_o (by decide), sA_o (by decide), sL_2, sA_2]
    by_cases g : s' = s
    · rw [if_pos ⟨rfl, g⟩, if_pos g]
    · rw [if_neg (fun z => g z.2), if_neg g]
  have z11 : hfr h1 1011 b = none := by
    rw [hh1]
    show hfr (sfr h 1011 b none) 1011 b = none
    rw [hfr_sfr, if_pos ⟨rfl, rfl⟩]
  have t1' : hkd h1 x = 13 + 1 := by rw [hh1]; exact t1
  have lw1 : WN r1 + 96 ≤ WN r := by
    have c11 := ((R.2.2.2.2.1 s hs).at hb).1
    have e1 : ∀ s', r1.2.1 11 s' = r.2.1 11 s' := fun s' => by rw [ww.gA (by decide)]
    have e2 : ∀ s', r1.2.1 15 s' = r.2.1 15 s' := fun s' => by rw [ww.gA (by decide)]
    have e3 : ∀ s', r1.2.1 38 s' = r.2.1 38 s' := fun s' => by rw [ww.gA (by decide)]
    have h20 : 0 ≤ r.2.1 20 s := by rw [hj]; exact nn_ge (by omega)
    refine WN.lt (s := s) (d := 96) (fun s' _ => ?_) hs ?_
    · unfold wl
      rw [e1, e2, e3, w20']
      by_cases g : s' = s
      · rw [if_pos g, if_neg (show ¬ (0 : Int32) ≤ -1 by decide)]
        split
        · omega
        · exact Nat.le_refl _
      · rw [if_neg g]
        exact Nat.le_refl _
    · unfold wl
      rw [e1, e2, e3, w20', if_pos rfl, if_neg (show ¬ (0 : Int32) ≤ -1 by decide), if_pos c11, if_pos c11, if_pos h20]
      omega
  have fin : ∀ h2 r2, Rel x ec es 96 e0 h2 r2 → GW x h h2 r r2 → Msg x h2 r2 m j → Frm x h2 r2 j b → r2.2.1 20 s = -1 → hfr h2 1011 b = none → hcs h2 = hcs h → hkd h2 x = 13 + 1 → WN r2 + 96 ≤ WN r → Sim (C_X11_comes_J43 x (some b) (some m)) h2 (R_comes_J68 (nn j)) r2 (fun _ h' _ r' => Rel x ec es 96 e0 h' r' ∧ GW x h h' r r' ∧ r'.2.1 20 s = -1 ∧ hfr h' 1011 b = none ∧ Pd h h' r r') := by
    intro h2 r2 R2 G2 M2 F2 a1 a2 a3 a4 a5
    unfold C_X11_comes_J43 R_comes_J68
    rw [sl_Cv a4]
    refine Sim.seq (sim_distribute R2 M2 F2) (fun v h3 w r3 z => Sim.ret ?_)
    obtain ⟨y1, y2, y3, y4, y5, y6⟩ := z
    have hb2 : b + 4 < hnx h2 := Nat.lt_of_lt_of_le hbl G2.1.1.1
    refine ⟨y3, G2.tr y4.gw, by rw [y4.2.1.gA (by decide)]; exact a1, by rw [y4.1.gr (by decide) (by omega)]; exact a2, ?_⟩
    have hoz : oz r2 j ≤ 64 := by
      unfold oz
      split <;> omega
    unfold Pd
    rw [a3] at y5 y6
    omega
  have hrt : hfi h1 (100 * 5 + 3) m = nn V.2.2.2.2.2.2.1 := by
    have := (v1.sto pp.1).2.2.2.2.2.2.2.2.2.1
    exact this
  have hrt2 : r1.2.1 61 j = nn V.2.2.2.2.2.2.1 := by
    rw [ww.gA (by decide)]
    exact v2.2.2.2.2.2.2.2.1
  have hv : V.2.2.2.2.2.2.1 ≤ 1 := v3.2.2.2.1
  rw [hrt, hrt2]
  have hcase : V.2.2.2.2.2.2.1 = 0 ∨ V.2.2.2.2.2.2.1 = 1 := by omega
  rcases hcase with g | g
  · rw [g, sl_pos (show nn 0 = (0 : Int32) from rfl), sr_neg (by decide)]
    exact fin h1 r1 R1 G1 M1 F1 z20 z11 c1 t1' lw1
  · have T1 := R1.st
    have u2 : hfr h1 (100 * 13 + 2) x = some (x + 35) := T1.2.1.2.2.2.1
    have g9'' : hfi h1 (100 * 13 + 9) x = r1.1 66 := R1.2.1.2.1
    rw [g, sl_neg (by decide), sr_pos (show nn 1 = (1 : Int32) from rfl), sl_gR t1', u2, sl_gI t1', g9'', sl_Cv (T1.2.2.1.2.2.2.2.1)]
    refine Sim.seq (sim_keep R1 M1 rfl) (fun v h2 w r2 z => ?_)
    obtain ⟨y1, y2, y3, y4, y5, y6, y7⟩ := z
    have e34' : har h2 (x + 34) = har h1 (x + 34) := (y4.2.2 (x + 34) (by have := T1.1; omega) (by omega)).2.1
    have G2 : GW x h1 h2 r1 r2 := ⟨y4.sub (by decide) (fun _ z => Or.inr z), y5.sub (by decide), e34'⟩
    have hb1 : b + 4 < hnx h1 := Nat.lt_of_lt_of_le hbl G1.1.1.1
    refine fin h2 r2 y3 (G1.tr G2) ⟨M1.1.to y4 y5 (by decide) (by decide), M1.2.1, fun s' b' g1 g2 => ?_⟩ ?_ (by rw [y5.gA (by decide)]; exact z20) (by rw [y4.gr (by decide) (by omega)]; exact z11) (y6.trans c1) ?_ ?_
    · rw [e34'] at g2
      have := SesA.lt R1.2.2.2.2.1 g1 g2
      rw [y4.gr (by decide) (by omega), y5.gA (by decide)]
      exact M1.2.2 s' b' g1 g2
    · obtain ⟨f, f1, f2, f3⟩ := F1
      exact ⟨f, f1, by rw [e34']; exact f2, by rw [y5.gA (by decide), y5.gA (by decide)]; exact f3⟩
    · exact y3.st.2.1.1
    · have := Ro.wn y5 (by decide) (by decide) (by decide) (by decide)
      omega
end COM
