/-! ===== one entry of a SUBSCRIBE, by both ===== -/
section SB1
variable {x ec es s b n k u w o t st id e i oo : Nat} {e0 : Int32} {h h' : Hp} {r r' r1 : RS} {ys bs : List Nat}
theorem shr4 : ∀ o, o < 64 → nn o >>> ((4 : Int32) &&& 31) = nn (o / 16) := by decide +kernel
theorem idx_or (R : Rel x ec es 96 e0 h r) (hs : s < 12) (hb : har h (x + 34) s = some b) (W : Rw x h t ys) (hyl : ys.length ≤ 405) : ∃ v, C_X8_indexOf b (some t) h = some (v, h) ∧ ((∃ k, k < 8 ∧ v = nn k ∧ Pl x h r ys s k) ∨ (v = -1 ∧ ∀ k, ¬ Pl x h r ys s k)) := by
  have Sb := R.ses hs hb
  have Sb5 := Sb.2.2.2.2.1
  obtain ⟨n, q1, q2, q3, q4, q5⟩ := Sb5
  obtain ⟨v, e1, e2⟩ := qc_indexOf Sb.1 Sb.2.2.2.2.1 q3 q1 W (by omega)
  refine ⟨v, e1, ?_⟩
  rcases e2 with ⟨k, u, st, c1, c2, c3, c4⟩ | ⟨c1, c2⟩
  · exact Or.inl ⟨k, by omega, c2, b, n, u, st, hb, q3, q1, c1, c3, c4⟩
  · refine Or.inr ⟨c1, fun k z => ?_⟩
    obtain ⟨b', n', u, st, p1, p2, p3, p4, p5, p6⟩ := z
    rw [hb] at p1
    cases p1
    have : n' = n := nn_inj (by omega) (by omega) (p2.symm.trans q3)
    exact c2 k u st (by omega) p5 p6
theorem oI_0 (hyl : ys.length ≤ 405) : oI (fstart ys) = 0 ↔ fstart ys = some 0 := by
  cases hf : fstart ys with
  | none => exact ⟨fun z => absurd z (by decide), fun z => by cases z⟩
  | some st =>
    have := fstart_lt hf
    refine ⟨fun z => ?_, fun z => by cases z; rfl⟩
    have : st = 0 := nn_inj (b := 0) (by omega) (by omega) z
    rw [this]
theorem oI_neg (hyl : ys.length ≤ 405) : oI (fstart ys) = (-1 : Int32) ↔ fstart ys = none := by
  cases hf : fstart ys with
  | none => exact ⟨fun _ => rfl, fun _ => rfl⟩
  | some st =>
    have := fstart_lt hf
    exact ⟨fun z => absurd z (nn_neg (by omega)), fun z => by cases z⟩
theorem qc_owes {v : Int32} (R : Rel x ec es 96 e0 h r) (hs : s < 12) (hb : har h (x + 34) s = some b) (W : Rw x h t ys) (hyl : ys.length ≤ 405) (ho : o < 64) (hv : C_X8_indexOf b (some t) h = some (v, h)) : C_X8_owes b (some t) (nn o) h = some (if (o / 16 = 0 ∨ (o / 16 = 1 ∧ v = -1)) ∧ fstart ys = some 0 then (if v = -1 then r.2.1 24 s else v) else -1, h) := by
  have Sb := R.ses hs hb
  obtain ⟨n, q1, q2, q3, _⟩ := Sb.2.2.2.2.1
  have e4 : hfi h (100 * 10 + 4) b = r.2.1 24 s := by rw [q3]; exact q2
  have ef := qc_fstart W hyl
  have j27 : C_X8_owes_J27 b (some t) v h = some (if fstart ys = some 0 then (if v = -1 then r.2.1 24 s else v) else -1, h) := by
    unfold C_X8_owes_J27 C_X8_owes_J32
    rw [if_neg (by decide), e_Cv (c := 9) W.1, e_bd ef]
    by_cases g : fstart ys = some 0
    · rw [if_pos ((oI_0 hyl).mpr g), if_pos g]
      by_cases g2 : v = -1
      · rw [if_pos g2, if_pos g2, e_gI (c := 10) Sb.1.1, e4]
        rfl
      · rw [if_neg g2, if_neg g2]
        rfl
    · rw [if_neg (fun z => g ((oI_0 hyl).mp z)), if_neg g]
      rfl
  have j31 : C_X8_owes_J31 b (some t) v h = some (-1, h) := by
    unfold C_X8_owes_J31 C_X8_owes_J32
    rw [if_pos rfl]
    rfl
  unfold C_X8_owes lq
  rw [e_Cv (c := 10) Sb.1.1, e_bd hv, shr4 o ho]
  dsimp only
  by_cases g0 : o / 16 = 0
  · rw [if_pos (show nn (o / 16) = (0 : Int32) by rw [g0]; rfl), j27]
    by_cases g : fstart ys = some 0
    · rw [if_pos g, if_pos (show (o / 16 = 0 ∨ (o / 16 = 1 ∧ v = -1)) ∧ fstart ys = some 0 from ⟨Or.inl g0, g⟩)]
    · rw [if_neg g, if_neg (fun z => g z.2)]
  · rw [if_neg (nn_ne0 (by omega) g0)]
    by_cases g1 : o / 16 = 1
    · rw [if_pos (show nn (o / 16) = (1 : Int32) by rw [g1]; rfl)]
      by_cases g2 : v = -1
      · rw [if_pos g2, j27]
        by_cases g : fstart ys = some 0
        · rw [if_pos g, if_pos (show (o / 16 = 0 ∨ (o / 16 = 1 ∧ v = -1)) ∧ fstart ys = some 0 from ⟨Or.inr ⟨g1, g2⟩, g⟩)]
        · rw [if_neg g, if_neg (fun z => g z.2)]
      · rw [if_neg g2, j31, if_neg]
        rintro ⟨z | z, _⟩
        · exact g0 z
        · exact g2 z.2
    · rw [if_neg (fun z : nn (o / 16) = (1 : Int32) => g1 (nn_inj (b := 1) (by omega) (by omega) z)), j31, if_neg]
      rintro ⟨z | z, _⟩
      · exact g0 z
      · exact g1 z.1
/-- what an entry leaves -/
def En1 (x s o e re : Nat) (ys : List Nat) (h h' : Hp) (r r' : RS) : Prop :=
  (fstart ys = none ∧ re = 143 ∧ r'.2.1 24 s = r.2.1 24 s) ∨
  (fstart ys ≠ none ∧ re = 151 ∧ (∀ k, ¬ Pl x h r ys s k) ∧ r.2.1 24 s = nn 8 ∧ r'.2.1 24 s = nn 8) ∨
  (fstart ys ≠ none ∧ re = o % 4 ∧ ∃ k, k < 8 ∧ Pl x h r ys s k ∧ Pl x h' r' ys s k ∧ r'.2.1 96 e = 0 ∧ r'.2.1 24 s = r.2.1 24 s) ∨
  (fstart ys ≠ none ∧ re = o % 4 ∧ ∃ n, n < 8 ∧ (∀ k, ¬ Pl x h r ys s k) ∧ r.2.1 24 s = nn n ∧ Pl x h' r' ys s n ∧ r'.2.1 96 e = 1 ∧ r'.2.1 24 s = nn (n + 1))
def eS : List Nat := [24, 25, 26, 27, 28, 29, 30, 96]
theorem nar_b0 : vp_nar .boolean (0 : Int32) = 0 := rfl
theorem nar_b1 : vp_nar .boolean (1 : Int32) = 1 := rfl
theorem sim_sub1 (R : Rel x ec es 96 e0 h r) (hs : s < 12) (hb : har h (x + 34) s = some b) (W : Rw x h t ys) (hyl : ys.length ≤ 405) (hM6 : Mg (r.2.1 6) oo ys) (hoo : oo + ys.length ≤ 3280) (he : e < 410) (h93 : r.2.1 93 e = nn oo) (h94 : r.2.1 94 e = nn ys.length) (h95 : r.2.1 95 e = nn o) (ho : o < 64) (ho2 : o % 4 ≤ 2) (hid : id < 268435456) :
    ∃ re h' r', C_X8_subscribe b (some t) (nn o) (nn id) h = some (nn re, h') ∧ R_subscribeOne (nn s) (nn e) (nn id) r = some (nn re, r') ∧ re < 256 ∧ Rel x ec es 96 e0 h' r' ∧ Fm x [1004, 1102, 1103] (fun a => a = b + 1) h h' ∧ Ro eS r r' ∧ (∀ q, q ≠ e → r'.2.1 96 q = r.2.1 96 q) ∧ ((hcs h').1 ≤ (hcs h).1 + 1 ∧ (hcs h').2 ≤ (hcs h).2 + 6) ∧ (∀ zs k, Pl x h r zs s k → Pl x h' r' zs s k) ∧ En1 x s o e re ys h h' r r' := by
  have T := R.st
  have hx := T.1
  have Sb := R.ses hs hb
  have hb4 := Sb.1.2.2.1
  have hb2 := Sb.1.2.1
  have B := W.2.2.1
  obtain ⟨n, q1, q2, q3, q4, q5⟩ := Sb.2.2.2.2.1
  have ef := qc_fstart W hyl
  have e4 : hfi h (100 * 10 + 4) b = nn n := q2
  have mf := qm_isFilter (f0 := 6) (r := r) hM6 B (by rw [mL_6]; exact hoo) (by omega)
  have ms := qm_shareAt (f0 := 6) (r := r) hM6 B (by rw [mL_6]; exact hoo) (by omega)
  have c0 : C_X8_subscribe b (some t) (nn o) (nn id) h = (if oI (fstart ys) = (-1 : Int32) then (rt (143 : Int32)) else (hCv 10 (some b) (fun a => C_X8_indexOf a (some t)) fun r11 => if r11 = (-1 : Int32) then (hgI 10 4 (some b) fun v12 => if v12 = (8 : Int32) then (rt (151 : Int32)) else (C_X8_subscribe_J42 b (some t) (nn o) (nn id) (oI (fstart ys)) r11)) else (C_X8_subscribe_J42 b (some t) (nn o) (nn id) (oI (fstart ys)) r11))) h := by
    unfold C_X8_subscribe
    rw [e_Cv (c := 9) W.1, e_bd ef]
  have m0 : R_subscribeOne (nn s) (nn e) (nn id) r = (if fstart ys = none then (rt (143 : Int32)) else R_subscribeOne_J48 (nn s) (nn e) (nn id) (nn oo) (nn ys.length)) r := by
    unfold R_subscribeOne
    rw [x_rA mL_93 he (by omega), h93, x_rA mL_94 he (by omega), h94, e_bd mf]
    by_cases gF : isF ys = true
    · rw [if_pos gF, if_neg (by decide), if_neg (by rw [fst_isF.mpr gF]; exact fun z => by cases z)]
    · rw [if_neg gF, if_pos rfl, e_bd ms]
      unfold shA
      cases hf : fstart ys with
      | none =>
        rw [if_pos (show nn ((none : Option Nat).getD 0) = (0 : Int32) from rfl), if_pos rfl]
      | some st =>
        have := fstart_lt hf
        have st0 : st ≠ 0 := fun z => gF (fst_isF.mp (by rw [hf, z]))
        have hz : ¬ nn ((some st).getD 0) = (0 : Int32) := nn_ne0 (k := st) (by omega) st0
        rw [if_neg hz, if_neg (show ¬ (some st = none) from fun z => by cases z)]
  by_cases gn : fstart ys = none
  · refine ⟨143, h, r, ?_, ?_, by omega, R, Fm.rf, Ro.rf, fun _ _ => rfl, ⟨by omega, by omega⟩, fun _ _ z => z, Or.inl ⟨gn, rfl, rfl⟩⟩
    · rw [c0, if_pos ((oI_neg hyl).mpr gn)]
      rfl
    · rw [m0, if_pos gn]
      rfl
  · rw [if_neg gn] at m0
    rw [if_neg (fun z => gn ((oI_neg hyl).mp z)), e_Cv (c := 10) Sb.1.1] at c0
    obtain ⟨st, hst⟩ : ∃ st, fstart ys = some st := by
      cases hf : fstart ys with
      | none => exact absurd hf gn
      | some st => exact ⟨st, rfl⟩
    have fl := fstart_lt hst
    obtain ⟨v, v1, v2⟩ := idx_or R hs hb W hyl
    obtain ⟨v', w1, w2⟩ := qm_subOf R hs hb hM6 B hoo hyl
    have evv : v' = v := by
      rcases v2 with ⟨k, k1, k2, k3⟩ | ⟨k1, k2⟩
      · rcases w2 with ⟨k', j1, j2, j3⟩ | ⟨j1, j2⟩
        · rw [k2, j2, Pl.uq R hs j3 k3]
        · exact absurd k3 (j2 k)
      · rcases w2 with ⟨k', j1, j2, j3⟩ | ⟨j1, j2⟩
        · exact absurd j3 (k2 k')
        · rw [k1, j1]
    subst evv
    rw [e_bd v1] at c0
    unfold R_subscribeOne_J48 at m0
    rw [e_bd w1] at m0
    have scr96 : ∀ q : Int32, Rel x ec es 96 e0 h (sA r 96 e q) := fun q => by
      obtain ⟨f, bs, Wr⟩ := R.wr
      exact R.scr Fm.rf (Ro.rf.a (k := 96) (S := scS) (by decide)) ⟨f, bs, Wr⟩
    rcases v2 with ⟨k, k1, k2, k3⟩ | ⟨k1, k2⟩
    · -- it is there
      subst k2
      have k3' := k3
      obtain ⟨b', n', u, st', p1, p2, p3, p4, p5, p6⟩ := k3'
      rw [hb] at p1
      cases p1
      have en : n' = n := nn_inj (by omega) (by omega) (p2.symm.trans q3)
      subst en
      have R2 := (scr96 0).sbo hs hb q3 q1 p4 p5 ho ho2 hid
      have uk := p6.1.1
      refine ⟨o % 4, sfi (sfi h 1102 u (nn o)) 1103 u (nn id), sA (sA (sA r 96 e 0) 27 (8 * s + k) (nn o)) 28 (8 * s + k) (nn id), ?_, ?_, by omega, R2, ?_, ?_, fun q hq => ?_, ⟨Nat.le_add_right _ _, Nat.le_add_right _ _⟩, fun zs k' z => ?_, Or.inr (Or.inr (Or.inl ⟨gn, rfl, k, k1, k3, ?_, ?_, ?_⟩))⟩
      · rw [c0, if_neg (nn_neg (by omega))]
        unfold C_X8_subscribe_J42 C_X8_subscribe_J81
        have sb1 := Sb.1.2.2.2.2.1
        rw [if_neg (nn_neg (by omega)), e_gR (c := 10) Sb.1.1, show hfr h (100 * 10 + 3) b = some (b + 1) from sb1.1, e_Ar (t := 6) sb1.2.1 (nn_inr (by rw [sb1.2.2]; omega) (by omega)), nn_N (by omega), p5, e_pI (c := 11) uk, e_gR (c := 10) (by exact Sb.1.1), show hfr (sfi h (100 * 11 + 2) u (nn o)) (100 * 10 + 3) b = some (b + 1) from sb1.1, e_Ar (t := 6) (by exact sb1.2.1) (nn_inr (by show k < hln h (b + 1); rw [sb1.2.2]; omega) (by omega)), nn_N (by omega), show har (sfi h (100 * 11 + 2) u (nn o)) (b + 1) k = some u from p5, e_pI (c := 11) (by exact uk), and3 (by omega)]
        rfl
      · rw [m0, if_pos (nn_ge (by omega))]
        unfold R_subscribeOne_J74 R_subscribeOne_J95 R_subscribeOne_J186
        rw [x_wA mL_96 he (by omega), nar_b0, if_pos (nn_ge (by omega)), if_pos (nn_ge (by omega)), x_rA mL_95 he (by omega), sA_o (by decide), h95, l_8, nn_mul, nn_add, x_wA mL_27 (by omega) (by omega), x_wA mL_28 (by omega) (by omega), x_rA mL_95 he (by omega), sA_o (by decide), sA_o (by decide), sA_o (by decide), h95, and3 (by omega)]
        rfl
      · exact Fm.fi (Fm.fi Fm.rf (Or.inl (by decide)) (Or.inl (by decide))) (Or.inl (by decide)) (Or.inl (by decide))
      · exact ((Ro.rf.a (by decide)).a (by decide)).a (by decide)
      · rw [sA_o (by decide), sA_o (by decide), sA_2, if_neg (fun y => hq y.2)]
      · exact z.to T hb (by omega) (Sto.fi (Sto.fi Sto.rf (Or.inl (by decide))) (Or.inl (by decide))) rfl (by rw [sA_o (by decide), sA_o (by decide), sA_o (by decide)]) rfl
      · exact k3.to T hb (by omega) (Sto.fi (Sto.fi Sto.rf (Or.inl (by decide))) (Or.inl (by decide))) rfl (by rw [sA_o (by decide), sA_o (by decide), sA_o (by decide)]) rfl
      · rw [sA_o (by decide), sA_o (by decide), sA_2, if_pos ⟨rfl, rfl⟩]
      · rw [sA_o (by decide), sA_o (by decide), sA_o (by decide)]
    · -- it is new
      subst k1
      rw [if_pos rfl, e_gI (c := 10) Sb.1.1, e4] at c0
      rw [if_neg (by decide)] at m0
      unfold R_subscribeOne_J74 at m0
      rw [x_wA mL_96 he (by omega), nar_b1, if_neg (by decide), x_rA mL_24 hs (by omega), sA_o (by decide), q3] at m0
      by_cases g8 : n = 8
      · refine ⟨151, h, sA r 96 e 1, ?_, ?_, by omega, scr96 1, Fm.rf, Ro.rf.a (by decide), fun q hq => ?_, ⟨by omega, by omega⟩, fun zs k' z => ?_, Or.inr (Or.inl ⟨gn, rfl, k2, by rw [q3, g8], by rw [sA_o (by decide), q3, g8]⟩)⟩
        · rw [c0, if_pos (by rw [g8]; rfl)]
          rfl
        · rw [m0, if_pos (by rw [g8]; rfl)]
          rfl
        · rw [sA_2, if_neg (fun y => hq y.2)]
        · exact z.to T hb (by omega) Sto.rf rfl (by rw [sA_o (by decide)]) rfl
      · rw [if_neg (fun z : nn n = (8 : Int32) => g8 (nn_inj (b := 8) (by omega) (by omega) z))] at c0 m0
        -- the model
        obtain ⟨ra, era⟩ : ∃ z, z = sA (sA (sA r 96 e 1) 24 s (nn (n + 1))) 25 (8 * s + n) (nn ys.length) := ⟨_, rfl⟩
        obtain ⟨rb, eb, Cb⟩ := cp_loop (K := 26) (r := ra) (l := 64 * (8 * s + n)) (ys := ys) (L := fun f v => R_subscribeOne_L134 (fun l1 l2 l3 l6 l7 => R_subscribeOne_J170 l1 l2 l3 l6 l7) f (nn s) (nn e) (nn id) (nn oo) (nn ys.length) (nn n) (nn (8 * s + n)) v) (E := R_subscribeOne_J170 (nn s) (nn e) (nn id) (nn n) (nn (8 * s + n))) (fun f q r1 hq C => by
          have b256 := B.at q
          show R_subscribeOne_B134 _ _ (nn s) (nn e) (nn id) (nn oo) (nn ys.length) (nn n) (nn (8 * s + n)) (nn q) r1 = _
          unfold R_subscribeOne_B134
          have e6 : r1.2.1 6 = r.2.1 6 := by rw [C.ro.gA (by decide), era, sA_o (by decide), sA_o (by decide), sA_o (by decide)]
          rw [if_neg (by rw [nn_le (by omega) (by omega)]; omega), nn_add, x_rA mL_6 (by omega) (by omega), e6, hM6 q hq, l_64, nn_mul, nn_add, x_wA mL_26 (by omega) (by omega), nar_sb b256, l_1, nn_add]) (fun f r1 C => by
          show R_subscribeOne_B134 _ _ (nn s) (nn e) (nn id) (nn oo) (nn ys.length) (nn n) (nn (8 * s + n)) (nn ys.length) r1 = _
          unfold R_subscribeOne_B134
          rw [if_pos (Int32.le_refl _)]) (by omega)
        obtain ⟨rz, erz⟩ : ∃ z, z = sA (sA (sA (sA rb 29 (8 * s + n) 0) 30 (8 * s + n) 0) 27 (8 * s + n) (nn o)) 28 (8 * s + n) (nn id) := ⟨_, rfl⟩
        have rb95 : rb.2.1 95 e = nn o := by rw [Cb.ro.gA (by decide), era, sA_o (by decide), sA_o (by decide), sA_o (by decide)]; exact h95
        have mz : R_subscribeOne (nn s) (nn e) (nn id) r = some (nn (o % 4), rz) := by
          rw [m0]
          unfold R_subscribeOne_J95 lq
          rw [if_neg (by decide), x_rA mL_24 hs (by omega), sA_o (by decide), q3, l_1, nn_add, x_wA mL_24 hs (by omega), l_8, nn_mul, nn_add]
          dsimp only
          rw [x_wA mL_25 (by omega) (by omega), ← l_1, ← era]
          refine Eq.trans eb ?_
          unfold R_subscribeOne_J170 R_subscribeOne_J186
          rw [x_wA mL_29 (by omega) (by omega), x_wA mL_30 (by omega) (by omega), x_rA mL_95 he (by omega), sA_o (by decide), sA_o (by decide), rb95, l_8, nn_mul, nn_add, x_wA mL_27 (by omega) (by omega), x_wA mL_28 (by omega) (by omega), x_rA mL_95 he (by omega), sA_o (by decide), sA_o (by decide), sA_o (by decide), sA_o (by decide), rb95, and3 (by omega), erz]
          rfl
        have wsub : Ro [26] ra rb := Cb.ro
        have wra : Ro eS r ra := by
          rw [era]
          exact ((Ro.rf.a (by decide)).a (by decide)).a (by decide)
        have wz : Ro eS r rz := by
          rw [erz]
          exact ((((wra.tr (wsub.sub (by decide))).a (by decide)).a (by decide)).a (by decide)).a (by decide)
        have hra : Ho s 8 (sA r 96 e 1) ra := by
          rw [era]
          refine (Ho.rf.a (Or.inr (Or.inl ⟨by omega, by omega, ?_⟩))).a (Or.inr (Or.inl ⟨by omega, by omega, ?_⟩))
          · unfold ow
            rw [if_neg (by omega), if_neg (by omega), if_neg (by omega), if_neg (by omega), if_neg (by omega)]
          · unfold ow
            rw [if_neg (by omega), if_neg (by omega), if_pos (by omega)]
            omega
        have hrb : Ho s 8 ra rb := Cb.ho (fun q y1 y2 => Or.inr (Or.inl ⟨by omega, by omega, by
          unfold ow
          rw [if_neg (by omega), if_pos rfl]
          omega⟩))
        have hrz : Ho s 8 rb rz := by
          rw [erz]
          refine (((Ho.rf.a (Or.inr (Or.inl ⟨by omega, by omega, ?_⟩))).a (Or.inr (Or.inl ⟨by omega, by omega, ?_⟩))).a (Or.inr (Or.inl ⟨by omega, by omega, ?_⟩))).a (Or.inr (Or.inl ⟨by omega, by omega, ?_⟩)) <;>
          · unfold ow
            rw [if_neg (by omega), if_neg (by omega), if_pos (by omega)]
            omega
        have rz25 : ∀ f, f ∈ [25, 27, 28, 29, 30] → ∀ q, q ≠ 8 * s + n → rz.2.1 f q = r.2.1 f q := by
          intro f hf q hq
          have f26 : f ≠ 26 ∧ f ≠ 96 ∧ f ≠ 24 := by
            simp only [List.mem_cons, List.not_mem_nil, or_false] at hf
            omega
          rw [erz, sA_2, if_neg (fun y => hq y.2), sA_2, if_neg (fun y => hq y.2), sA_2, if_neg (fun y => hq y.2), sA_2, if_neg (fun y => hq y.2), Cb.1.2.2 f f26.1, era, sA_2, if_neg (fun y => hq y.2), sA_o f26.2.2, sA_o f26.2.1]
        have M : sbM s n o id ys (sA r 96 e 1) rz := by
          refine ⟨hra.tr (hrb.tr hrz), ?_, ?_, ?_, ?_, ?_, ?_, ?_, ?_, fun f hf q hq => ?_, fun q hq => ?_⟩
          · rw [erz, era] at *
            exact ((((((Ro.rf.a (by decide)).a (by decide)).tr (wsub.sub (by decide))).a (by decide)).a (by decide)).a (by decide)).a (by decide)
          · rw [erz, sA_o (by decide), sA_o (by decide), sA_o (by decide), sA_o (by decide), Cb.1.2.2 24 (by decide), era, sA_o (by decide), sA_2, if_pos ⟨rfl, rfl⟩]
          · rw [erz, sA_o (by decide), sA_o (by decide), sA_o (by decide), sA_o (by decide), Cb.1.2.2 25 (by decide), era, sA_2, if_pos ⟨rfl, rfl⟩]
          · rw [erz, sA_o (by decide), sA_o (by decide), sA_o (by decide), sA_o (by decide)]
            exact Cb.2.1
          · rw [erz, sA_o (by decide), sA_2, if_pos ⟨rfl, rfl⟩]
          · rw [erz, sA_2, if_pos ⟨rfl, rfl⟩]
          · rw [erz, sA_o (by decide), sA_o (by decide), sA_o (by decide), sA_2, if_pos ⟨rfl, rfl⟩]
          · rw [erz, sA_o (by decide), sA_o (by decide), sA_2, if_pos ⟨rfl, rfl⟩]
          · have f96 : f ≠ 96 := by
              simp only [List.mem_cons, List.not_mem_nil, or_false] at hf
              omega
            rw [rz25 f hf q hq, sA_o f96]
          · rw [erz, sA_o (by decide), sA_o (by decide), sA_o (by decide), sA_o (by decide), Cb.2.2 q (by omega), era, sA_o (by decide), sA_o (by decide)]
        have R1 := scr96 1
        have k2' : ∀ k, ¬ Pl x h (sA r 96 e 1) ys s k := fun k z => k2 k (z.to T hb (by omega) Sto.rf rfl (by rw [sA_o (by decide)]) rfl)
        obtain ⟨R2, F2, P2⟩ := R1.sbn hs hb (by rw [sA_o (by decide)]; exact q3) (by omega) W hst k2' ho ho2 hid M
        refine ⟨o % 4, _, rz, ?_, mz, by omega, R2, F2.sub (by decide) (fun _ z => z), wz, fun q hq => ?_, ⟨?_, ?_⟩, fun zs k' z => ?_, Or.inr (Or.inr (Or.inr ⟨gn, rfl, n, by omega, k2, q3, P2, ?_, M.2.2.1⟩))⟩
        · rw [c0]
          unfold C_X8_subscribe_J42 C_X8_subscribe_J81
          have sb1 := Sb.1.2.2.2.2.1
          have en : C_X9_init (hnx h) (some t) (oI (fstart ys)) (hob h 11 6) = some ((), sfi (sfr (hob h 11 6) 1100 (hnx h) (some t)) 1101 (hnx h) (nn st)) := by
            unfold C_X9_init
            show hpR 11 0 (some (hnx h)) (some t) _ (hob h 11 6) = _
            have kk : hkd (hob h 11 6) (hnx h) = 11 + 1 := by rw [hkd_hob, if_pos rfl]
            rw [e_pR kk, e_pI (by exact kk), hst]
            rfl
          have ku : ∀ hh : Hp, hkd hh (hnx h) = hkd (hob h 11 6) (hnx h) → hkd hh (hnx h) = 11 + 1 := fun hh z => by rw [z, hkd_hob, if_pos rfl]
          have kb : hkd (sfi (sfr (hob h 11 6) 1100 (hnx h) (some t)) 1101 (hnx h) (nn st)) (b + 1) = 101 + 6 := by
            rw [hkd_sfi, hkd_sfr, hkd_hob, if_neg (by omega)]
            exact sb1.2.1
          have kbb : hkd (hob h 11 6) b = 10 + 1 := by rw [hkd_hob, if_neg (by omega)]; exact Sb.1.1
          have lb : hln (hob h 11 6) (b + 1) = 8 := sb1.2.2
          have e103 : hfr h (100 * 10 + 3) b = some (b + 1) := sb1.1
          rw [if_pos rfl, e_gI (c := 10) Sb.1.1, e4, e_gR (c := 10) Sb.1.1, e103, e_Nw, e_Ci, e_bd en, e_Wr (t := 6) (c := 11) kb (nn_inr (by show n < hln (hob h 11 6) (b + 1); rw [lb]; omega) (by omega)) (by
            have kz := ku (sfi (sfr (hob h 11 6) 1100 (hnx h) (some t)) 1101 (hnx h) (nn st)) rfl
            show (hkd (sfi (sfr (hob h 11 6) 1100 (hnx h) (some t)) 1101 (hnx h) (nn st)) (hnx h) == 11 + 1) = true
            rw [kz]
            rfl), nn_N (by omega), e_gI (c := 10) (by exact kbb)]
          have e4' : hfi (sar (sfi (sfr (hob h 11 6) 1100 (hnx h) (some t)) 1101 (hnx h) (nn st)) (b + 1) (va_up (har (sfi (sfr (hob h 11 6) 1100 (hnx h) (some t)) 1101 (hnx h) (nn st)) (b + 1)) n (some (hnx h)))) (100 * 10 + 4) b = nn n := by
            rw [hfi_sar, hfi_sfi, if_neg (by omega), hfi_sfr, hfi_hob, if_neg (by omega)]
            exact q2
          rw [e4', e_pI (c := 10) (by exact kbb), l_1, nn_add]
          show hgR 10 3 (some b) _ (sbH h b n t st) = _
          have kbs : hkd (sbH h b n t st) b = 10 + 1 := kbb
          have e103' : hfr (sbH h b n t st) (100 * 10 + 3) b = some (b + 1) := by
            unfold sbH
            rw [hfr_sfi, hfr_sar, hfr_sfi, hfr_sfr, if_neg (by omega), hfr_hob, if_neg (by omega)]
            exact e103
          have eat : har (sbH h b n t st) (b + 1) n = some (hnx h) := by
            unfold sbH
            rw [har_sfi, har_sar, if_pos rfl]
            show (if n = n then _ else _) = _
            rw [if_pos rfl]
          have kus : hkd (sbH h b n t st) (hnx h) = 11 + 1 := ku _ rfl
          rw [e_gR (c := 10) kbs, e103', e_Ar (t := 6) (by exact kb) (nn_inr (by show n < hln (hob h 11 6) (b + 1); rw [lb]; omega) (by omega)), nn_N (by omega), eat, e_pI (c := 11) kus, e_gR (c := 10) (by exact kbs), show hfr (sfi (sbH h b n t st) (100 * 11 + 2) (hnx h) (nn o)) (100 * 10 + 3) b = some (b + 1) from e103', e_Ar (t := 6) (by exact kb) (nn_inr (by show n < hln (hob h 11 6) (b + 1); rw [lb]; omega) (by omega)), nn_N (by omega), show har (sfi (sbH h b n t st) (100 * 11 + 2) (hnx h) (nn o)) (b + 1) n = some (hnx h) from eat, e_pI (c := 11) (by exact kus), and3 (by omega)]
          rfl
        · rw [erz, sA_o (by decide), sA_o (by decide), sA_o (by decide), sA_o (by decide), Cb.1.2.2 96 (by decide), era, sA_o (by decide), sA_o (by decide), sA_2, if_neg (fun y => hq y.2)]
        · show (hcs (hob h 11 6)).1 ≤ _
          rw [hc1_hob]
          exact Nat.le_refl _
        · show (hcs (hob h 11 6)).2 ≤ _
          rw [hc2_hob]
          exact Nat.le_refl _
        · obtain ⟨b', n', u, st', p1, p2, p3, p4, p5, p6⟩ := z
          rw [hb] at p1
          cases p1
          have en : n' = n := nn_inj (by omega) (by omega) (p2.symm.trans q3)
          subst en
          have hx34 := (F2.2.2 (x + 34) (by omega) (by omega)).2.1
          refine ⟨b, n' + 1, u, st', by rw [hx34]; exact hb, M.2.2.1, by omega, by omega, ?_, p6.sto F2.1⟩
          show har (sbH h b n' t st) (b + 1) k' = some u
          unfold sbH
          rw [har_sfi, har_sar, if_pos rfl]
          show (if k' = n' then _ else har h (b + 1) k') = _
          rw [if_neg (by omega)]
          exact p5
        · rw [erz, sA_o (by decide), sA_o (by decide), sA_o (by decide), sA_o (by decide), Cb.1.2.2 96 (by decide), era, sA_o (by decide), sA_o (by decide), sA_2, if_pos ⟨rfl, rfl⟩]
end SB1
