/-! ===== UNSUBSCRIBE, by both ===== -/
section UNS
variable {x i s b num p0 cnt e p n f ps M v t oo ec es : Nat} {e0 : Int32} {h h' h0 : Hp} {r r' r0 : RS} {bs ys U : List Nat} {l1 l2 : Option Nat} {l4 l5 : Int32}
/-- one filter is taken out -/
theorem sim_uns1 {kb : Int32 → Int32 → Int32 → Int32 → RS → Option (Unit × RS)} {ke : Int32 → Int32 → RS → Option (Unit × RS)} {a2 a3 : Int32} {c : Nat} (R : Rel x ec es 96 e0 h r) (hs : s < 12) (hb : har h (x + 34) s = some b) (W : Rw x h t ys) (hyl : ys.length ≤ 405) (hM6 : Mg (r.2.1 6) oo ys) (hoo : oo + ys.length ≤ 3280) (he : e < 410) (h93 : r.2.1 93 e = nn oo) (h94 : r.2.1 94 e = nn ys.length) (ha3 : a3 = nn c) (hec : e < c) (hc : c < 1000) :
    ∃ re h' r', C_X8_unsubscribe b (some t) h = some (nn re, h') ∧ R_unsubscribe_B136 kb ke (nn s) a2 a3 (nn e) r = kb (nn s) a2 a3 (nn (e + 1)) r' ∧ re < 256 ∧ Rel x ec es 96 e0 h' r' ∧ Fm x [1004] (fun a => a = b + 1) h h' ∧ Ro [24, 25, 26, 27, 28, 29, 30, 92] r r' ∧ r'.2.1 92 e = nn re ∧ (∀ q, q ≠ e → r'.2.1 92 q = r.2.1 92 q) ∧ hcs h' = hcs h := by
  have T := R.st
  have hx := T.1
  have Sb := R.ses hs hb
  have hb4 := Sb.1.2.2.1
  have B := W.2.2.1
  obtain ⟨n, q1, q2, q3, q4, q5⟩ := Sb.2.2.2.2.1
  have ef := qc_fstart W hyl
  have mf := qm_isFilter (f0 := 6) (r := r) hM6 B (by rw [mL_6]; exact hoo) (by omega)
  have ms := qm_shareAt (f0 := 6) (r := r) hM6 B (by rw [mL_6]; exact hoo) (by omega)
  obtain ⟨v, v1, v2⟩ := idx_or R hs hb W hyl
  obtain ⟨v', w1, w2⟩ := qm_subOf R hs hb hM6 B hoo hyl
  have evv : v' = v := by
    rcases v2 with ⟨k, k1, k2, k3⟩ | ⟨k1, k2⟩
    · rcases w2 with ⟨k', j1, j2, j3⟩ | ⟨j1, j2⟩
      · rw [k2, j2, Pl.uq R hs j3 k3]
      · exact absurd k3 (j2 k)
    · rcases w2 with ⟨k', j1, j2, j3⟩ | ⟨j1, j2⟩
      · exact absurd j3 (k2 k')
      · rw [k1, j1]
  subst evv
  have scr92 : ∀ q : Int32, Rel x ec es 96 e0 h (sA r 92 e q) := fun q => by
    obtain ⟨f, bs, Wr⟩ := R.wr
    exact R.scr Fm.rf (Ro.rf.a (k := 92) (S := scS) (by decide)) ⟨f, bs, Wr⟩
  have m0 : R_unsubscribe_B136 kb ke (nn s) a2 a3 (nn e) r = (if fstart ys = none then R_unsubscribe_J216 kb ke (nn s) a2 a3 (nn e) v' (0 : Int32) else R_unsubscribe_J211 kb ke (nn s) a2 a3 (nn e) v') r := by
    unfold R_unsubscribe_B136
    rw [ha3, if_neg (by rw [nn_le (by omega) (by omega)]; omega), ← ha3, x_rA mL_93 he (by omega), h93, x_rA mL_94 he (by omega), h94, e_bd w1, x_rA mL_93 he (by omega), h93, x_rA mL_94 he (by omega), h94, e_bd mf]
    by_cases gF : isF ys = true
    · rw [if_pos gF, if_neg (by decide), if_neg (by rw [fst_isF.mpr gF]; exact fun z => by cases z)]
    · rw [if_neg gF, if_pos rfl, x_rA mL_93 he (by omega), h93, x_rA mL_94 he (by omega), h94, e_bd ms]
      unfold shA
      cases hf : fstart ys with
      | none =>
        rw [if_pos (show nn ((none : Option Nat).getD 0) ≤ (0 : Int32) by decide), if_pos rfl]
      | some st =>
        have := fstart_lt hf
        have st0 : st ≠ 0 := fun z => gF (fst_isF.mp (by rw [hf, z]))
        have hz : ¬ nn ((some st).getD 0) ≤ (0 : Int32) := by
          show ¬ nn st ≤ nn 0
          rw [nn_le (by omega) (by omega)]
          omega
        rw [if_neg hz, if_neg (show ¬ (some st = none) from fun z => by cases z)]
  by_cases gn : fstart ys = none
  · refine ⟨143, h, sA r 92 e (nn 143), ?_, ?_, by omega, scr92 _, Fm.rf, Ro.rf.a (by decide), by rw [sA_2, if_pos ⟨rfl, rfl⟩], fun q hq => by rw [sA_2, if_neg (fun y => hq y.2)], rfl⟩
    · unfold C_X8_unsubscribe
      rw [e_Cv (c := 9) W.1, e_bd ef, if_pos ((oI_neg hyl).mpr gn)]
      rfl
    · rw [m0, if_pos gn]
      unfold R_unsubscribe_J216 R_unsubscribe_J246
      rw [if_pos rfl, x_wA mL_92 he (by omega), if_pos rfl, l_1, nn_add]
      rfl
  · rw [if_neg gn] at m0
    have c0 : C_X8_unsubscribe b (some t) h = (if v' = (-1 : Int32) then (rt (17 : Int32)) else (hgI 10 4 (some b) fun v9 => hpI 10 4 (some b) (v9 - (1 : Int32)) <| C_X8_unsubscribe_L38 b (C_X8_unsubscribe_J66 b) fu v')) h := by
      unfold C_X8_unsubscribe
      rw [e_Cv (c := 9) W.1, e_bd ef, if_neg (fun z => gn ((oI_neg hyl).mp z)), e_Cv (c := 10) Sb.1.1, e_bd v1]
    rcases v2 with ⟨k, k1, k2, k3⟩ | ⟨k1, k2⟩
    · subst k2
      obtain ⟨b', n', u, st', p1, p2, p3, p4, p5, p6⟩ := k3
      rw [hb] at p1
      cases p1
      have en : n' = n := nn_inj (by omega) (by omega) (p2.symm.trans q3)
      subst en
      have hcW : ∀ z, ∃ l : List Nat, z < n' → (∃ u st, har h (b + 1) z = some u ∧ SubT x h u l st) ∧ r.2.1 25 (8 * s + z) = nn l.length ∧ Mg (r.2.1 26) (64 * (8 * s + z)) l ∧ By l ∧ l.length ≤ 64 := fun z => by
        by_cases hz : z < n'
        · obtain ⟨u', c1, bs', st', o', id', c2, ⟨c3, c4⟩, _⟩ := q4 z hz
          refine ⟨bs', fun _ => ⟨⟨u', st', c1, c2⟩, c3, c4, ?_, (fstart_lt c2.2.2.1).2.1⟩⟩
          obtain ⟨t', _, t2⟩ := c2.2.1
          exact t2.2.2.1
        · exact ⟨[], fun y => absurd y hz⟩
      obtain ⟨Wf, hWf⟩ := Classical.axiomOfChoice hcW
      have R1 := scr92 (nn 0)
      obtain ⟨r2, e2, ho2, ro2, m24, hz2⟩ := qm_undo (r := sA r 92 e (nn 0)) (W := Wf) hs (by rw [sA_o (by decide)]; exact q3) q1 p4 (fun z hz => by
        obtain ⟨_, y1, y2, y3, y4⟩ := hWf z hz
        exact ⟨by rw [sA_o (by decide)]; exact y1, by rw [sA_o (by decide)]; exact y2, y3, y4⟩)
      obtain ⟨R2, F2⟩ := R1.sbd (W := Wf) hs hb (by rw [sA_o (by decide)]; exact q3) q1 p4 (fun z hz => (hWf z hz).1) ho2 ro2 m24 hz2
      refine ⟨0, udH h b n' k, r2, ?_, ?_, by omega, R2, F2, ?_, ?_, fun q hq => ?_, rfl⟩
      · rw [c0, if_neg (nn_neg (by omega))]
        exact qc_undo Sb.1 q2 q1 p4 (fun z hz => by
          obtain ⟨u', c1, _, _, _, _, c2, _⟩ := q4 z hz
          exact ⟨u', c1, c2.1.1⟩)
      · rw [m0]
        unfold R_unsubscribe_J211 R_unsubscribe_J216 R_unsubscribe_J246
        rw [if_neg (by decide), if_pos (nn_ge (by omega)), x_wA mL_92 he (by omega), if_neg (by decide), if_neg (nn_nlt0 (by omega)), e_bd (show R_unsubscribeOne (nn s) (nn k) (sA r 92 e (0 : Int32)) = some ((), r2) from e2), l_1, nn_add]
      · exact (Ro.rf.a (by decide)).tr (ro2.sub (by decide))
      · rw [ro2.gA (by decide), sA_2, if_pos ⟨rfl, rfl⟩]
      · rw [ro2.gA (by decide), sA_2, if_neg (fun y => hq y.2)]
    · subst k1
      refine ⟨17, h, sA r 92 e (nn 17), ?_, ?_, by omega, scr92 _, Fm.rf, Ro.rf.a (by decide), by rw [sA_2, if_pos ⟨rfl, rfl⟩], fun q hq => by rw [sA_2, if_neg (fun y => hq y.2)], rfl⟩
      · rw [c0, if_pos rfl]
        rfl
      · rw [m0]
        unfold R_unsubscribe_J211 R_unsubscribe_J216 R_unsubscribe_J246
        rw [if_neg (by decide), if_neg (by decide), x_wA mL_92 he (by omega), if_neg (by decide), if_pos (by decide), l_1, nn_add]
        rfl
/-- where entry e begins -/
def pu (bs : List Nat) (p0 : Nat) : Nat → Nat
  | 0 => p0
  | e + 1 => pu bs p0 e + 2 + b2 bs (pu bs p0 e)
def EntU (bs : List Nat) (p : Nat) : Prop := p + 2 + b2 bs p ≤ bs.length ∧ u8c (sl bs (p + 2) (b2 bs p)) 0 128 191 = true
def eU (i : Nat) (bs : List Nat) (r : RS) (e p : Nat) : Prop := r.2.1 93 e = nn (410 * i + (p + 2)) ∧ r.2.1 94 e = nn (b2 bs p)
theorem pu_le : p0 ≤ pu bs p0 e := by
  induction e with
  | zero => exact Nat.le_refl _
  | succ e ih =>
    show p0 ≤ pu bs p0 e + 2 + b2 bs (pu bs p0 e)
    omega
theorem uchkF {ke : Option Nat → Option Nat → Int32 → Int32 → Int32 → Hp → Option (Int32 × Hp)} {l6 l7 : Int32} (T : Stat x h) (F : Fa x f h) : C_X11_unsubscribe_L47 x ke (n + 1) l1 l2 l4 l5 l6 l7 h = ke l1 l2 l4 l5 l6 h := by
  obtain ⟨k1, k2, _⟩ := T.in3
  show C_X11_unsubscribe_B47 x _ ke l1 l2 l4 l5 l6 l7 h = _
  unfold C_X11_unsubscribe_B47
  by_cases z : (400 : Int32) ≤ l7
  · rw [if_pos z]
  · rw [if_neg z, e_gR k1, k2, e_Cv T.rd, e_bd (qc_left_f T F), if_pos (by decide)]
theorem umchkF {ke : Int32 → Int32 → Int32 → RS → Option (Unit × RS)} {a1 a2 a3 : Int32} (hf : r.1 79 = nn f) (h1 : f ≠ 0) (h2 : f < 256) : R_unsubscribe_L77 ke (n + 1) a1 a2 a3 r = ke a1 a2 a3 r := by
  show R_unsubscribe_B77 _ ke a1 a2 a3 r = _
  unfold R_unsubscribe_B77
  rw [x_rI, hf, if_neg (nn_ne0 (by omega) h1)]
theorem uchk_loop {ke : Option Nat → Option Nat → Int32 → Int32 → Int32 → Hp → Option (Int32 × Hp)} {km : Int32 → Int32 → Int32 → RS → Option (Unit × RS)} {a1 a2 : Int32} (hlen : bs.length ≤ p0 + 400) : ∀ (c e f g : Nat) (h1 : Hp) (r1 : RS), bs.length - pu bs p0 e ≤ c → c + 1 < f → c + 1 < g → Stat x h1 → Rd x i bs (pu bs p0 e) bs.length 0 h1 r1 → (∀ e', e' < e → EntU bs (pu bs p0 e') ∧ eU i bs r1 e' (pu bs p0 e')) → p0 + 2 * e ≤ pu bs p0 e →
    ∃ v h' r', C_X11_unsubscribe_L47 x ke f l1 l2 l4 l5 (nn e) (nn e) h1 = ke l1 l2 l4 l5 v h' ∧ R_unsubscribe_L77 km g a1 a2 (nn e) r1 = km a1 a2 v r' ∧ ∃ p', pu bs p0 e ≤ p' ∧ p' ≤ bs.length ∧ Sy x (p' - pu bs p0 e) (p' - pu bs p0 e) h1 h' r1 r' ∧ ((∃ cnt, v = nn cnt ∧ pu bs p0 cnt = bs.length ∧ p' = bs.length ∧ p0 + 2 * cnt ≤ bs.length ∧ Rd x i bs bs.length bs.length 0 h' r' ∧ ∀ e', e' < cnt → EntU bs (pu bs p0 e') ∧ eU i bs r' e' (pu bs p0 e')) ∨ ∃ fa, fa ≠ 0 ∧ v ≠ 0 ∧ Rd x i bs p' bs.length fa h' r') := by
  intro c
  induction c with
  | zero =>
    intro e f g h1 r1 hc hf hg T D hE h3
    obtain ⟨f', rfl⟩ : ∃ z, f = z + 1 := ⟨f - 1, by omega⟩
    obtain ⟨g', rfl⟩ : ∃ z, g = z + 1 := ⟨g - 1, by omega⟩
    obtain ⟨k1, k2, _⟩ := T.in3
    have hpl := D.2.2.1.2.2.2.1
    have hbl := D.2.2.1.2.2.1
    have hi := D.2.2.1.1
    have hd := D.2.2.2 rfl
    have ep : pu bs p0 e = bs.length := by omega
    refine ⟨nn e, h1, r1, ?_, ?_, bs.length, by omega, Nat.le_refl _, Sy.rf.le (by omega) (by omega), Or.inl ⟨e, rfl, ep, rfl, by omega, by rw [ep] at D; exact D, hE⟩⟩
    · show C_X11_unsubscribe_B47 x _ ke l1 l2 l4 l5 (nn e) (nn e) h1 = _
      unfold C_X11_unsubscribe_B47
      by_cases z : (400 : Int32) ≤ nn e
      · rw [if_pos z]
      · rw [if_neg z, e_gR k1, k2, e_Cv T.rd, e_bd (D.left T), if_pos (by rw [ep, Nat.sub_self]; decide)]
    · show R_unsubscribe_B77 _ km a1 a2 (nn e) r1 = _
      unfold R_unsubscribe_B77
      rw [x_rI, D.2.1.2.2.1, if_pos (show nn 0 = (0 : Int32) from rfl), x_rI, hd.2.1, x_rI, D.2.1.2.1, if_pos (by rw [nn_le (by omega) (by omega)]; omega)]
  | succ c ih =>
    intro e f g h1 r1 hc hf hg T D hE h3
    by_cases gp : pu bs p0 e < bs.length
    · obtain ⟨f', rfl⟩ : ∃ z, f = z + 1 := ⟨f - 1, by omega⟩
      obtain ⟨g', rfl⟩ : ∃ z, g = z + 1 := ⟨g - 1, by omega⟩
      obtain ⟨f'', rfl⟩ : ∃ z, f' = z + 1 := ⟨f' - 1, by omega⟩
      obtain ⟨g'', rfl⟩ : ∃ z, g' = z + 1 := ⟨g' - 1, by omega⟩
      obtain ⟨k1, k2, _⟩ := T.in3
      have hbl := D.2.2.1.2.2.1
      have hi := D.2.2.1.1
      have hd := D.2.2.2 rfl
      have B := D.by
      obtain ⟨p, ep⟩ : ∃ p, p = pu bs p0 e := ⟨_, rfl⟩
      rw [← ep] at gp h3 hc D hd
      obtain ⟨v, h2, w, r2, e1, e2, ⟨p2, z2, z3, z4, z5⟩, hu⟩ := sim_str D T
      have T2 := z2.st T
      obtain ⟨r3, er3⟩ : ∃ z, z = sA (sA r2 93 e (r2.1 80)) 94 e (r2.1 81) := ⟨_, rfl⟩
      have cB : C_X11_unsubscribe_L47 x ke (f'' + 1 + 1) l1 l2 l4 l5 (nn e) (nn e) h1 = C_X11_unsubscribe_L47 x ke (f'' + 1) l1 l2 l4 l5 (nn (e + 1)) (nn (e + 1)) h2 := by
        show C_X11_unsubscribe_B47 x _ ke l1 l2 l4 l5 (nn e) (nn e) h1 = _
        unfold C_X11_unsubscribe_B47
        rw [if_neg (by rw [l_400, nn_le (by omega) (by omega)]; omega), e_gR k1, k2, e_Cv T.rd, e_bd (D.left T), if_neg (by rw [l_0, nn_le (by omega) (by omega)]; omega), e_gR k1, k2, e_Cv T.rd, e_bd e1, l_1, nn_add]
      have mB : R_unsubscribe_L77 km (g'' + 1 + 1) a1 a2 (nn e) r1 = R_unsubscribe_L77 km (g'' + 1) a1 a2 (nn (e + 1)) r3 := by
        show R_unsubscribe_B77 _ km a1 a2 (nn e) r1 = _
        unfold R_unsubscribe_B77
        rw [x_rI, D.2.1.2.2.1, if_pos (show nn 0 = (0 : Int32) from rfl), x_rI, hd.2.1, x_rI, D.2.1.2.1, if_neg (by rw [nn_le (by omega) (by omega)]; omega), e_bd e2, x_rI, x_wA mL_93 (by omega) (by omega), x_rI, sA_1, x_wA mL_94 (by omega) (by omega), ← er3, l_1, nn_add]
      have w3 : Ro [93, 94] r2 r3 := by
        rw [er3]
        exact (Ro.rf.a (by decide)).a (by decide)
      have s3 : Sy x (p2 - p) (p2 - p) h1 h2 r1 r3 := by
        rw [er3]
        exact (z2.sw.sy.a (by decide)).a (by decide)
      rcases z5 with ⟨g1, g2, g3, g4, g5, g6, g7, D2⟩ | ⟨g2, D2⟩
      · have pus : pu bs p0 (e + 1) = p2 := by
          show pu bs p0 e + 2 + b2 bs (pu bs p0 e) = p2
          rw [← ep]
          omega
        have D3 : Rd x i bs p2 bs.length 0 h2 r3 := D2.fm T2 (F := []) (A := fun _ => False) Fm.rf w3 (by decide) (fun z => z) (by decide)
        have hE3 : ∀ e', e' < e + 1 → EntU bs (pu bs p0 e') ∧ eU i bs r3 e' (pu bs p0 e') := by
          intro e' he'
          by_cases z : e' = e
          · subst z
            rw [← ep]
            refine ⟨⟨by omega, hu g1⟩, ?_, ?_⟩
            · rw [er3, sA_o (by decide), sA_2, if_pos ⟨rfl, rfl⟩, g6]
            · rw [er3, sA_2, if_pos ⟨rfl, rfl⟩, g7]
          · obtain ⟨y1, y2, y3⟩ := hE e' (by omega)
            have ge : ∀ k, k ∈ [93, 94] → r3.2.1 k e' = r1.2.1 k e' := fun k hk => by
              have : r2.2.1 k = r1.2.1 k := z2.2.1.gA (fun z => by
                simp only [rS, List.mem_cons, List.not_mem_nil, or_false] at hk z
                omega)
              rw [er3, sA_2, if_neg (fun y => z y.2), sA_2, if_neg (fun y => z y.2), this]
            exact ⟨y1, by rw [ge 93 (by decide)]; exact y2, by rw [ge 94 (by decide)]; exact y3⟩
        obtain ⟨v', h', r', q1, q2, p', q3, q4, q5, q6⟩ := ih (e + 1) (f'' + 1) (g'' + 1) h2 r3 (by rw [pus]; omega) (by omega) (by omega) T2 (by rw [pus]; exact D3) hE3 (by rw [pus]; omega)
        refine ⟨v', h', r', by rw [cB]; exact q1, by rw [mB]; exact q2, p', by omega, q4, by rw [pus] at q5; rw [← ep]; exact (s3.tr q5).le (by omega) (by omega), q6⟩
      · have D3 : Rd x i bs p2 bs.length 129 h2 r3 := D2.fm T2 (F := []) (A := fun _ => False) Fm.rf w3 (by decide) (fun z => z) (by decide)
        refine ⟨nn (e + 1), h2, r3, by rw [cB, uchkF T2 (D3.fa (by omega))], by rw [mB, umchkF D3.2.1.2.2.1 (by omega) (by omega)], p2, by omega, z4, by rw [← ep]; exact s3, Or.inr ⟨129, by omega, nn_ne0 (by omega) (by omega), D3⟩⟩
    · have hpl := D.2.2.1.2.2.2.1
      exact ih e f g h1 r1 (by omega) (by omega) (by omega) T D hE h3
end UNS
