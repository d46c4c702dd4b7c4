/-! ===== properties: the whole list, by both ===== -/
section PR3
variable {x i p L f n c e a q k M A s ps : Nat} {h h' : Hp} {r r' : RS} {bs U : List Nat}
theorem sr_bd {α β γ : Type} {P : Hp → Option (α × Hp)} {y y' : RS → Option (γ × RS)} {g : γ → RS → Option (β × RS)} {Φ : α → Hp → β → RS → Prop} (e : y r = y' r') : Sim P h (bd y g) r Φ ↔ Sim P h (bd y' g) r' Φ := Sim_r (by unfold bd; rw [e])
theorem Pp.fm {F S : List Nat} {Q : Nat → Prop} (P : Pp x i bs M U h r) (T : Stat x h) (p : Fm x F Q h h') (w : Ro S r r') (hF : ∀ f ∈ [600, 605, 606, 607], f ∉ F) (hQ : ∀ a, x + 41 ≤ a → a ≤ x + 44 → ¬ Q a) (hS : ∀ k ∈ [82, 83, 84, 85, 86, 87], k ∉ S) : Pp x i bs M U h' r' ∧ Tot x h' M = Tot x h M := by
  have hx := T.1
  obtain ⟨⟨m1, m2, m3⟩, pk, ⟨u1, u2, u3, u4, u5, u6⟩, p606, pq⟩ := P
  have a42 : hai h' (x + 42) = hai h (x + 42) := (p.2.2 (x + 42) (by omega) (hQ _ (by omega) (by omega))).1
  have a43 : hai h' (x + 43) = hai h (x + 43) := (p.2.2 (x + 43) (by omega) (hQ _ (by omega) (by omega))).1
  have a44 : hai h' (x + 44) = hai h (x + 44) := (p.2.2 (x + 44) (by omega) (hQ _ (by omega) (by omega))).1
  have a41 : hal h' (x + 41) = hal h (x + 41) := (p.2.2 (x + 41) (by omega) (hQ _ (by omega) (by omega))).2.2
  refine ⟨⟨⟨by rw [p.gl (hF 600 (by decide)) (by omega)]; exact m1, m2, by rw [w.gA (hS 82 (by decide))]; exact m3⟩, fun k g1 g2 g3 => ?_, ⟨by rw [p.gi (hF 605 (by decide)) (by omega)]; exact u1, by rw [w.gI (hS 87 (by decide))]; exact u2, u3, u4, by rw [a44]; exact u5, by rw [w.gA (hS 86 (by decide))]; exact u6⟩, by rw [p.gr (hF 606 (by decide)) (by omega)]; exact p606, ?_⟩, ?_⟩
  · have := pk k g1 g2 g3
    unfold Pk at this ⊢
    rw [a42, a43, a41, w.gL (hS 83 (by decide)), w.gA (hS 84 (by decide)), w.gA (hS 85 (by decide))]
    exact this
  · unfold Pq
    rw [p.gr (hF 607 (by decide)) (by omega), a42]
    rcases pq with y | ⟨y1, a, s, y2, y3, y4, y5, y6⟩
    · exact Or.inl y
    · exact Or.inr ⟨y1, a, s, y2, y3, y4, y5.stp p.1, y6⟩
  · unfold Tot tk
    rw [a42, a43]
theorem Rd.f78 {v : Int32} (D : Rd x i bs p L f h r) (hf : f ≠ 0) {L' : Nat} : Rd x i bs p L' f h (sI r 78 v) := ⟨D.1, D.2.1, D.2.2.1, fun z => absurd z hf⟩
theorem Rd.f703 {v : Int32} (D : Rd x i bs p L f h r) (hf : f ≠ 0) {L' : Nat} : Rd x i bs p L' f (sfi h 703 (x + 37) v) r := by
  obtain ⟨⟨a1, a2, a3, a4⟩, b, c, d⟩ := D
  exact ⟨⟨a1, by rw [hfi_sfi, if_neg (by omega)]; exact a2, by rw [hfi_sfi, if_neg (by omega)]; exact a3, a4⟩, b, c, fun z => absurd z hf⟩
theorem x_rI {α : Type} {k : Nat} {f : Int32 → RS → Option (α × RS)} : rI k f r = f (r.1 k) r := rfl
theorem x_rt {α β : Type} {v : α} {f : α → RS → Option (β × RS)} : bd (rt v) f r = f v r := rfl
/-- a key that may stand, for the model -/
theorem pm_ok (D : Rd x i bs p L 0 h r) (T : Stat x h) (hp : p < L) (hA : A < 1099511627776) (hm : ∀ k, k < 64 → r.2.1 82 k = if M.testBit k = true then 1 else 0) (hk : k = bs.getD p 0) (hk0 : k ∈ K0) (hkA : A.testBit k = true) (hkM : k = 38 ∨ M.testBit k = false) : R_property (n6 A) r = mQ (nn (410 * i + p)) k (sA (sI r 76 (nn (410 * i + (p + 1)))) 82 k 1) := by
  have k40 := K0.lt hk0
  have hd := D.2.2.2 rfl
  have e2 := (D.one T hp).2
  rw [← hk] at e2
  have x79 : (sI r 76 (nn (410 * i + (p + 1)))).1 79 = 0 := D.2.1.2.2.1
  have e63 : R_property_J63 (nn (410 * i + p)) (nn k) (sI r 76 (nn (410 * i + (p + 1)))) = mQ (nn (410 * i + p)) k (sA (sI r 76 (nn (410 * i + (p + 1)))) 82 k 1) := by
    rw [j63 hk0]
    unfold wA
    rw [if_pos (nn_inr (by rw [mL_82]; omega) (by omega)), nn_N (by omega)]
    rfl
  have hbit : ¬ lg_cmp (n6 A &&& lshl6 (1 : Int64) (nn k)) (0 : Int64) = 0 := by
    rw [lshl6_1 k (by omega), bit_m (by omega) (by omega), hkA]
    decide
  unfold R_property R_bit
  rw [x_rI, e_bd e2, x_rI, x79, if_pos rfl, if_neg (by rw [l_63, nn_lt (by omega) (by omega)]; omega), x_rt, if_neg hbit]
  have d2 : (r.1 76) = nn (410 * i + p) := hd.2.1
  rw [d2]
  by_cases g : k = 38
  · rw [if_pos (by rw [g]; rfl), e63]
  · rw [if_neg (fun z : nn k = (38 : Int32) => g (nn_inj (b := 38) (by omega) (by omega) z))]
    have hz : M.testBit k = false := hkM.resolve_left g
    have x82 : (sI r 76 (nn (410 * i + (p + 1)))).2.1 82 k = 0 := by
      rw [sI_2, hm k (by omega), hz, if_neg (by decide)]
    show rA 82 (nn k) _ _ = _
    unfold rA
    rw [if_pos (nn_inr (by rw [mL_82]; omega) (by omega)), nn_N (by omega), x82]
    dsimp only
    rw [if_pos rfl, e63]
theorem pm_bad (D : Rd x i bs p L 0 h r) (T : Stat x h) (hp : p < L) (hA : A < 1099511627776) (hm : ∀ k, k < 64 → r.2.1 82 k = if M.testBit k = true then 1 else 0) (hk : k = bs.getD p 0) (hbad : 40 ≤ k ∨ A.testBit k = false ∨ (k ≠ 38 ∧ M.testBit k = true)) : R_property (n6 A) r = some ((), sI (sI r 76 (nn (410 * i + (p + 1)))) 79 130) := by
  have hd := D.2.2.2 rfl
  have e2 := (D.one T hp).2
  rw [← hk] at e2
  have b256 := D.by.at p
  rw [← hk] at b256
  have x79 : (sI r 76 (nn (410 * i + (p + 1)))).1 79 = 0 := D.2.1.2.2.1
  have e55 : R_property_J55 (sI r 76 (nn (410 * i + (p + 1)))) = some ((), sI (sI r 76 (nn (410 * i + (p + 1)))) 79 130) := by
    unfold R_property_J55
    rw [e_bd (qm_fails x79)]
    rfl
  unfold R_property R_bit
  rw [x_rI, e_bd e2, x_rI, x79, if_pos rfl]
  by_cases g63 : 63 < k
  · rw [if_pos (by rw [l_63, nn_lt (by omega) (by omega)]; omega), e55]
  · rw [if_neg (by rw [l_63, nn_lt (by omega) (by omega)]; omega)]
    rw [x_rt]
    have hA2 : lg_cmp (n6 A &&& lshl6 (1 : Int64) (nn k)) (0 : Int64) = 0 ↔ A.testBit k = false := by
      rw [lshl6_1 k (by omega), bit_m (by omega) (by omega)]
    by_cases gA : A.testBit k = false
    · rw [if_pos (hA2.mpr gA), e55]
    · rw [if_neg (fun z => gA (hA2.mp z))]
      have gk : k < 40 := by
        by_cases z : k < 40
        · exact z
        · exfalso
          refine gA (Nat.testBit_lt_two_pow (Nat.lt_of_lt_of_le hA ?_))
          exact Nat.pow_le_pow_right (n := 2) (by omega) (show 40 ≤ k by omega)
      obtain ⟨g38, gM⟩ : k ≠ 38 ∧ M.testBit k = true := by
        rcases hbad with z | z | z
        · omega
        · exact absurd z gA
        · exact z
      rw [if_neg (fun z : nn k = (38 : Int32) => g38 (nn_inj (b := 38) (by omega) (by omega) z))]
      have x82 : (sI r 76 (nn (410 * i + (p + 1)))).2.1 82 k = 1 := by
        rw [sI_2, hm k (by omega), if_pos gM]
      show rA 82 (nn k) _ _ = _
      unfold rA
      rw [if_pos (nn_inr (by rw [mL_82]; omega) (by omega)), nn_N (by omega), x82]
      dsimp only
      rw [if_neg (by decide), e55]
/-- what the class has of properties after a fault -/
def FPx (x : Nat) (h : Hp) : Prop := (∃ M, M < 1099511627776 ∧ hfl h 600 (x + 40) = n6 M) ∧ (hfr h 607 (x + 40) = none ∨ ∃ a ys, hfr h 607 (x + 40) = some a ∧ Rw x h a ys ∧ ys.length ≤ 405)
theorem FPx.fm {F : List Nat} {Q : Nat → Prop} (c : FPx x h) (T : Stat x h) (q : Fm x F Q h h') (h1 : 600 ∉ F) (h2 : 607 ∉ F) : FPx x h' := by
  have hx := T.1
  obtain ⟨⟨M, c1, c2⟩, c3⟩ := c
  refine ⟨⟨M, c1, by rw [q.gl h1 (by omega)]; exact c2⟩, ?_⟩
  rw [q.gr h2 (by omega)]
  rcases c3 with z | ⟨a, ys, z1, z2, z3⟩
  · exact Or.inl z
  · exact Or.inr ⟨a, ys, z1, z2.stp q.1, z3⟩
theorem Pp.fx (P : Pp x i bs M U h r) (hbl : bs.length ≤ 405) : FPx x h := by
  refine ⟨⟨M, P.1.2.1, P.1.1⟩, ?_⟩
  rcases P.2.2.2.2 with ⟨_, z⟩ | ⟨_, a, s, z1, _, _, z2, _⟩
  · exact Or.inl z
  · exact Or.inr ⟨a, _, z1, z2, Nat.le_trans sl_le hbl⟩
theorem ppA.fx (X : FPx x h) (T : Stat x h) (hM : M < 1099511627776) (hk : k < 40) : FPx x (ppA x h M k p) := by
  refine ⟨⟨M ||| 2 ^ k, or_lt40 hM hk, ?_⟩, ?_⟩
  · unfold ppA
    rw [hfl_sai, hfl_sfl, if_pos ⟨rfl, rfl⟩]
  · have q := ppA.fm (M := M) (k := k) (p := p) T
    have e : hfr (ppA x h M k p) 607 (x + 40) = hfr h 607 (x + 40) := q.gr (by decide) (by have := T.1; omega)
    rw [e]
    rcases X.2 with z | ⟨a, ys, z1, z2, z3⟩
    · exact Or.inl z
    · exact Or.inr ⟨a, ys, z1, z2.stp q.1, z3⟩
theorem FPx.val (X : FPx x h) (T : Stat x h) (q : Fm x [702, 704, 607] (fun _ => False) h h') (E : Ex x h h') : FPx x h' := by
  have hx := T.1
  obtain ⟨⟨M, c1, c2⟩, c3⟩ := X
  refine ⟨⟨M, c1, by rw [q.gl (by decide) (by omega)]; exact c2⟩, ?_⟩
  rcases E with z | z
  · rw [z]
    rcases c3 with z | ⟨a, ys, z1, z2, z3⟩
    · exact Or.inl z
    · exact Or.inr ⟨a, ys, z1, z2.stp q.1, z3⟩
  · exact Or.inr z
/-- what the list of properties leaves -/
def PsP (x i : Nat) (bs : List Nat) (ps A : Nat) (h : Hp) (r : RS) (h' : Hp) (r' : RS) : Prop := ∃ p', ps ≤ p' ∧ p' ≤ bs.length ∧ Sw x (p' - ps) (p' - ps) h h' r r' ∧ ((∃ M U, Rd x i bs p' bs.length 0 h' r' ∧ Pp x i bs M U h' r' ∧ (∀ k, M.testBit k = true → A.testBit k = true) ∧ Tot x h' M + U.length ≤ p' - ps) ∨ ∃ f, f ≠ 0 ∧ Rd x i bs p' bs.length f h' r' ∧ FPx x h')
theorem sim_ploop (hA : A < 1099511627776) (hAK : ∀ k, A.testBit k = true → k ∈ K0) (hps : bs.length < ps + 400) : ∀ (c p cnt f g M : Nat) (U : List Nat) (h1 : Hp) (r1 : RS), L - p ≤ c → c < f → c < g → ps ≤ p → 2 * cnt ≤ p - ps → Stat x h1 → Rd x i bs p L 0 h1 r1 → Pp x i bs M U h1 r1 → (∀ k, M.testBit k = true → A.testBit k = true) → Tot x h1 M + U.length ≤ p - ps → Sw x (p - ps) (p - ps) h h1 r r1 →
    Sim (C_X4_read_L48 (x + 40) (fun l1 => C_X4_read_J109 (x + 40) l1) (fun l1 l5 => C_X4_read_J187 (x + 40) l1 l5) f (some (x + 37)) (n6 A) (nn bs.length) (nn cnt)) h1 (R_properties_L75 (R_properties_J101) g (n6 A)) r1 (fun _ h' _ r' => PsP x i bs ps A h r h' r') := by
  -- after a fault
  have fe : ∀ (p' f1 g1 f cnt : Nat) (h1 : Hp) (r1 : RS), f ≠ 0 → ps ≤ p' → p' ≤ bs.length → Stat x h1 → cnt < 2147483648 → Rd x i bs p' L f h1 r1 → Sw x (p' - ps) (p' - ps) h h1 r r1 → FPx x h1 → Sim (C_X4_read_L48 (x + 40) (fun l1 => C_X4_read_J109 (x + 40) l1) (fun l1 l5 => C_X4_read_J187 (x + 40) l1 l5) (f1 + 1) (some (x + 37)) (n6 A) (nn bs.length) (nn cnt)) h1 (R_properties_L75 (R_properties_J101) (g1 + 1) (n6 A)) r1 (fun _ h' _ r' => PsP x i bs ps A h r h' r') := by
    intro p' f1 g1 f cnt h1 r1 hf q1 q2 T1 hc D1 s1 X1
    have em : R_properties_L75 (R_properties_J101) (g1 + 1) (n6 A) r1 = some ((), sI r1 78 (nn (410 * i + bs.length))) := by
      have hh : wp (R_properties_L75 (R_properties_J101) (g1 + 1) (n6 A)) r1 (fun _ r' => r' = sI r1 78 (nn (410 * i + bs.length))) := by
        show wp (R_properties_B75 _ _ (n6 A)) r1 _
        unfold R_properties_B75 R_properties_J101
        rw [wp_rI, wp_rI]
        by_cases g : r1.1 78 ≤ r1.1 76
        · rw [wp_pos g, wp_rI, D1.2.1.2.1, wp_wI, wp_rt]
        · rw [wp_neg g, wp_rI, D1.2.1.2.2.1, wp_neg (nn_ne0 (by have := D1.2.2.1.2.2.2.2.1; omega) hf), wp_rI, D1.2.1.2.1, wp_wI, wp_rt]
      obtain ⟨_, r', e1, e2⟩ := hh
      rw [e1, e2]
    rw [Sim_r (M' := rt ()) em]
    show Sim (C_X4_read_B48 (x + 40) _ _ _ (some (x + 37)) (n6 A) (nn bs.length) (nn cnt)) h1 _ _ _
    unfold C_X4_read_B48 C_X4_read_J187
    have fin : Sim (hpI 7 3 (some (x + 37)) (nn bs.length) <| rt () : Hp → Option (Unit × Hp)) h1 (rt ()) (sI r1 78 (nn (410 * i + bs.length))) (fun _ h' _ r' => PsP x i bs ps A h r h' r') := by
      rw [sl_pI T1.rd]
      exact Sim.ret ⟨p', q1, q2, s1.tr Sw.lim, Or.inr ⟨f, hf, (D1.f703 (L' := L) hf).f78 hf, X1.fm (F := [703]) (Q := fun _ => False) T1 (Fm.rf.fi (Or.inl (by decide)) (Or.inl (by decide))) (by decide) (by decide)⟩⟩
    by_cases g4 : (400 : Int32) ≤ nn cnt
    · rw [sl_pos g4]
      exact fin
    · rw [sl_neg g4, sl_Cv T1.rd, Sim_l (e_bd (qc_left_f T1 (D1.fa hf))), sl_pos (by decide)]
      exact fin
  intro c
  induction c with
  | zero =>
    intro p cnt f g M U h1 r1 hc hf hg hpp hcnt T1 D1 P1 hMA hT s1
    obtain ⟨f', rfl⟩ : ∃ z, f = z + 1 := ⟨f - 1, by omega⟩
    obtain ⟨g', rfl⟩ : ∃ z, g = z + 1 := ⟨g - 1, by omega⟩
    have hd := D1.2.2.2 rfl
    have hbl := D1.2.2.1.2.2.1
    have hi := D1.2.2.1.1
    have hpL : p = L := by omega
    show Sim (C_X4_read_B48 (x + 40) _ _ _ (some (x + 37)) (n6 A) (nn bs.length) (nn cnt)) h1 (R_properties_B75 _ _ (n6 A)) r1 _
    unfold C_X4_read_B48 C_X4_read_J187 R_properties_B75 R_properties_J101
    rw [sl_neg (by rw [l_400, nn_le (by omega) (by omega)]; omega), sl_Cv T1.rd, Sim_l (e_bd (D1.left T1)), sl_pos (by rw [show L - p = 0 by omega]; decide), sr_rI, hd.2.1, sr_rI, hd.2.2.1, sr_pos (by rw [nn_le (by omega) (by omega)]; omega), sr_rI, D1.2.1.2.1, sr_wI, sl_pI T1.rd]
    have D2 := D1.lim (L' := bs.length) (by omega) (Nat.le_refl _)
    obtain ⟨P2, t2⟩ := P1.fm (h' := sfi h1 703 (x + 37) (nn bs.length)) (r' := sI r1 78 (nn (410 * i + bs.length))) (F := [703]) (S := [78]) (Q := fun _ => False) T1 (Fm.rf.fi (Or.inl (by decide)) (Or.inl (by decide))) (Ro.rf.i (by decide)) (by decide) (fun _ _ _ z => z) (by decide)
    exact Sim.ret ⟨p, hpp, by omega, s1.tr Sw.lim, Or.inl ⟨M, U, D2, P2, hMA, by
      have : Tot x (sfi h1 703 (x + 37) (nn bs.length)) M = Tot x h1 M := t2
      show Tot x (sfi h1 703 (x + 37) (nn bs.length)) M + U.length ≤ p - ps
      omega⟩⟩
  | succ c ih =>
    intro p cnt f g M U h1 r1 hc hf hg hpp hcnt T1 D1 P1 hMA hT s1
    by_cases gp : p < L
    · obtain ⟨f', rfl⟩ : ∃ z, f = z + 1 := ⟨f - 1, by omega⟩
      obtain ⟨g', rfl⟩ : ∃ z, g = z + 1 := ⟨g - 1, by omega⟩
      obtain ⟨f'', rfl⟩ : ∃ z, f' = z + 1 := ⟨f' - 1, by omega⟩
      obtain ⟨g'', rfl⟩ : ∃ z, g' = z + 1 := ⟨g' - 1, by omega⟩
      have hd := D1.2.2.2 rfl
      have hbl := D1.2.2.1.2.2.1
      have hi := D1.2.2.1.1
      have hp1 := D1.2.2.1.2.2.2.2.2
      have hx := T1.1
      have b256 := D1.by.at p
      obtain ⟨k, hk⟩ : ∃ k, k = bs.getD p 0 := ⟨_, rfl⟩
      obtain ⟨e1, e2⟩ := D1.one T1 gp
      rw [← hk] at e1 e2 b256
      have e702 : hfi h1 (100 * 7 + 2) (x + 37) = nn p := D1.1.2.1
      have D2 := D1.mv (p' := p + 1) (by omega) (by omega)
      have s2 : Sc x 0 0 h1 (sfi h1 702 (x + 37) (nn (p + 1))) r1 (sI r1 76 (nn (410 * i + (p + 1)))) := Sc.mv
      have T2 := s2.st T1
      obtain ⟨P2, t2⟩ := P1.fm T1 s2.1 s2.2.1 (by decide) (fun _ _ _ z => z) (by decide)
      have m3 := P1.1.2.2
      show Sim (C_X4_read_B48 (x + 40) _ _ _ (some (x + 37)) (n6 A) (nn bs.length) (nn cnt)) h1 (R_properties_B75 _ _ (n6 A)) r1 _
      unfold C_X4_read_B48 R_properties_B75
      rw [sl_neg (by rw [l_400, nn_le (by omega) (by omega)]; omega), sl_Cv T1.rd, Sim_l (e_bd (D1.left T1)), sl_neg (by rw [show (0 : Int32) = nn 0 from rfl, nn_le (by omega) (by omega)]; omega), sl_gI T1.rd, e702, sl_Cv T1.rd, Sim_l (e_bd e1), sr_rI, hd.2.1, sr_rI, hd.2.2.1, sr_neg (by rw [nn_le (by omega) (by omega)]; omega), sr_rI, D1.2.1.2.2.1, sr_pos (show nn 0 = (0 : Int32) from rfl)]
      -- a key that may not stand
      have bad : (40 ≤ k ∨ A.testBit k = false ∨ (k ≠ 38 ∧ M.testBit k = true)) → Sim (C_X4_read_J109 (x + 40) (some (x + 37))) (sfi h1 702 (x + 37) (nn (p + 1))) (bd (R_property (n6 A)) fun _ => R_properties_L75 (R_properties_J101) (g'' + 1) (n6 A)) r1 (fun _ h' _ r' => PsP x i bs ps A h r h' r') := fun hb => by
        rw [Sim_r (e_bd (pm_bad D1 T1 gp hA m3 hk hb))]
        unfold C_X4_read_J109
        rw [sl_Cv T2.rd, Sim_l (e_bd (qc_fail T2 D2.1.2.2.1))]
        have D3 := D2.fl (v := 130) (by omega) (by omega)
        have s3 := s2.tr (Sc.fl (h := sfi h1 702 (x + 37) (nn (p + 1))) (r := sI r1 76 (nn (410 * i + (p + 1)))) (v := 130) (w := 130))
        have em : R_properties_L75 (R_properties_J101) (g'' + 1) (n6 A) (sI (sI r1 76 (nn (410 * i + (p + 1)))) 79 130) = some ((), sI (sI (sI r1 76 (nn (410 * i + (p + 1)))) 79 130) 78 (nn (410 * i + bs.length))) := by
          have hh : wp (R_properties_L75 (R_properties_J101) (g'' + 1) (n6 A)) (sI (sI r1 76 (nn (410 * i + (p + 1)))) 79 130) (fun _ r' => r' = sI (sI (sI r1 76 (nn (410 * i + (p + 1)))) 79 130) 78 (nn (410 * i + bs.length))) := by
            show wp (R_properties_B75 _ _ (n6 A)) _ _
            unfold R_properties_B75 R_properties_J101
            have y77 : (sI (sI r1 76 (nn (410 * i + (p + 1)))) 79 130).1 77 = nn (410 * i + bs.length) := D3.2.1.2.1
            have y79 : (sI (sI r1 76 (nn (410 * i + (p + 1)))) 79 130).1 79 = 130 := by rw [sI_1, if_pos rfl]
            rw [wp_rI, wp_rI]
            by_cases g : (sI (sI r1 76 (nn (410 * i + (p + 1)))) 79 130).1 78 ≤ (sI (sI r1 76 (nn (410 * i + (p + 1)))) 79 130).1 76
            · rw [wp_pos g, wp_rI, y77, wp_wI, wp_rt]
            · rw [wp_neg g, wp_rI, y79, wp_neg (by decide), wp_rI, y77, wp_wI, wp_rt]
          obtain ⟨_, r', e1, e2⟩ := hh
          rw [e1, e2]
        rw [Sim_r (M' := rt ()) em]
        have s4 : Sw x 0 0 (sfi (sfi h1 702 (x + 37) (nn (p + 1))) 704 (x + 37) 130) (sfi (sfi h1 702 (x + 37) (nn (p + 1))) 704 (x + 37) 130) (sI (sI r1 76 (nn (410 * i + (p + 1)))) 79 130) (sI (sI (sI r1 76 (nn (410 * i + (p + 1)))) 79 130) 78 (nn (410 * i + bs.length))) := ⟨Fm.rf, Ro.rf.i (by decide), Nat.le_refl _, Nat.le_refl _⟩
        exact Sim.ret ⟨p + 1, by omega, by omega, ((s1.tr s3.sw).tr s4).le (by omega) (by omega), Or.inr ⟨130, by omega, D3.f78 (by omega), (P2.fx hbl).fm (F := [704]) (Q := fun _ => False) T2 (Fm.rf.fi (Or.inl (by decide)) (Or.inl (by decide))) (by decide) (by decide)⟩⟩
      by_cases g40 : 40 ≤ k
      · rw [sl_pos (by rw [show (40 : Int32) = nn 40 from rfl, nn_le (by omega) (by omega)]; exact g40)]
        exact bad (Or.inl g40)
      · rw [sl_neg (by rw [show (40 : Int32) = nn 40 from rfl, nn_le (by omega) (by omega)]; exact g40)]
        by_cases gA : A.testBit k = false
        · rw [sl_pos ((bit_z (by omega) (by omega)).mpr gA)]
          exact bad (Or.inr (Or.inl gA))
        · rw [sl_neg (fun z => gA ((bit_z (by omega) (by omega)).mp z))]
          have gA' : A.testBit k = true := by
            cases hh : A.testBit k
            · exact absurd hh gA
            · rfl
          have hk0 := hAK k gA'
          -- the mark, the place and the value
          have go : (k = 38 ∨ M.testBit k = false) → Sim (C_X4_read_J117 (x + 40) (fun l1 l2 l5 l6 => C_X4_read_L48 (x + 40) (fun l1 => C_X4_read_J109 (x + 40) l1) (fun l1 l5 => C_X4_read_J187 (x + 40) l1 l5) (f'' + 1) l1 l2 l5 l6) (fun l1 => C_X4_read_J109 (x + 40) l1) (fun l1 l5 => C_X4_read_J187 (x + 40) l1 l5) (some (x + 37)) (n6 A) (nn bs.length) (nn cnt) (nn p) (nn k)) (sfi h1 702 (x + 37) (nn (p + 1))) (bd (R_property (n6 A)) fun _ => R_properties_L75 (R_properties_J101) (g'' + 1) (n6 A)) r1 (fun _ h' _ r' => PsP x i bs ps A h r h' r') := by
            intro hkM
            have em := pm_ok D1 T1 gp hA m3 hk hk0 gA' hkM
            rw [sr_bd em]
            obtain ⟨h2, eh2⟩ : ∃ z, z = sfi h1 702 (x + 37) (nn (p + 1)) := ⟨_, rfl⟩
            obtain ⟨r2, er2⟩ : ∃ z, z = sI r1 76 (nn (410 * i + (p + 1))) := ⟨_, rfl⟩
            rw [← eh2] at D2 s2 T2 P2 t2 ⊢
            rw [← er2] at D2 s2 P2 ⊢
            have t5 := T2.2.2.2.2.1
            have x600 : hfl h2 (100 * 6 + 0) (x + 40) = n6 M := P2.1.1
            have m2 := P2.1.2.1
            have hkp : (2 : Nat) ^ k < 2 ^ 40 := Nat.pow_lt_pow_right (by omega) (by omega)
            have pA := ppA.fm (M := M) (k := k) (p := p) T2
            have TA : Stat x (ppA x h2 M k p) := T2.sto pA.1
            unfold C_X4_read_J117
            rw [sl_gL T2.pr, x600, sl_pL T2.pr, lshl6_1 k (by omega), n6_orb (by omega) (by omega), sl_gR (by exact T2.pr)]
            have x602 : hfr (sfl h2 (100 * 6 + 0) (x + 40) (n6 (M ||| 2 ^ k))) (100 * 6 + 2) (x + 40) = some (x + 42) := t5.2.2.1
            have x601 : hfr (ppA x h2 M k p) (100 * 6 + 1) (x + 40) = some (x + 41) := t5.2.1
            rw [x602, sl_Wi (by exact t5.2.2.2.2.2.2.2.1) (by show k < hln h2 (x + 42); rw [t5.2.2.2.2.2.2.2.2.1]; omega) (by omega)]
            show Sim (hgR 6 1 (some (x + 40)) _) (ppA x h2 M k p) _ _ _
            rw [sl_gR TA.pr, x601, sl_Cv TA.pr]
            have DA : Rd x i bs (p + 1) L 0 (ppA x h2 M k p) (sA r2 82 k 1) := D2.fm T2 pA (S := [82]) (Ro.rf.a (by decide)) (by decide) (by show ¬ x + 2 + 4 * i + 2 = x + 42; omega) (by decide)
            have sA' : Sw x 0 0 h2 (ppA x h2 M k p) r2 (sA r2 82 k 1) := ⟨pA.sub (by decide) (fun a ha => Or.inl (by omega)), Ro.rf.a (by decide), Nat.le_refl _, Nat.le_refl _⟩
            by_cases g38 : k = 38
            · subst g38
              have hUl := P2.2.2.1
              have hu87 : (sA r2 82 38 1).1 87 = nn U.length := hUl.2.1
              have hu86 : Mg ((sA r2 82 38 1).2.1 86) 0 U := by rw [sA_o (by decide)]; exact hUl.2.2.2.2.2
              refine Sim.seq (sim_v38 (s := p) (U := U) DA TA hu87 hu86 (by omega)) (fun v hb _ rb z => ?_)
              obtain ⟨p', f1, z1, z2, z3, z4, z5, z6, z7⟩ := z
              have Tb : Stat x hb := TA.sto z4.1
              have tb5 := Tb.2.2.2.2.1
              have pC := ppC.fm (v := v) (k := 38) (p' := p') Tb
              have TC : Stat x (ppC x hb 38 p' v) := Tb.sto pC.1
              have hxb := Tb.1
              have hxA := TA.1
              have y603 : hfr (sal hb (x + 41) (vp_updL (hal hb (x + 41)) 38 v)) (100 * 6 + 3) (x + 40) = some (x + 43) := tb5.2.2.2.1
              have y702 : hfi (sal hb (x + 41) (vp_updL (hal hb (x + 41)) 38 v)) (100 * 7 + 2) (x + 37) = nn p' := z3.1.2.1
              have y702' : hfi (ppC x hb 38 p' v) (100 * 7 + 2) (x + 37) = nn p' := z3.1.2.1
              rw [sl_Wl tb5.2.2.2.2.2.1 (by rw [tb5.2.2.2.2.2.2.1]; omega) (by omega), sl_gR (by exact Tb.pr), y603, sl_gI (by exact Tb.rd), y702, sl_Wi (by exact tb5.2.2.2.2.2.2.2.2.2.1) (by show 38 < hln hb (x + 43); rw [tb5.2.2.2.2.2.2.2.2.2.2.1]; omega) (by omega), sl_pos (show nn 38 = (38 : Int32) from rfl)]
              show Sim (hgI 7 2 (some (x + 37)) _) (ppC x hb 38 p' v) _ _ _
              have y605 : hfi (ppC x hb 38 p' v) 605 (x + 40) = nn U.length := by
                rw [pC.gi (by decide) (by omega), z4.gi (by decide) (by omega), pA.gi (by decide) (by have := T2.1; omega)]
                exact hUl.1
              have y606 : hfr (ppC x hb 38 p' v) 606 (x + 40) = some (cA x i + 2) := by
                rw [pC.gr (by decide) (by omega), z4.gr (by decide) (by omega), pA.gr (by decide) (by have := T2.1; omega)]
                exact P2.2.2.2.1
              have ea := qc_addUser (s := p) (p' := p') TC hi y605 (by have := hUl.2.2.1; omega) y606 (by omega) (by omega)
              have hUb := hUl.2.2.1
              rw [show min (p' - p) (400 - U.length) = p' - p by omega] at ea
              rw [sl_gI TC.rd, y702', sl_Cv TC.pr, Sim_l (e_bd ea), l_1, nn_add]
              obtain ⟨hd', ehd⟩ : ∃ z, z = sfi (sai (ppC x hb 38 p' v) (x + 44) (va_cpy (hai (ppC x hb 38 p' v) (cA x i + 2)) (hai (ppC x hb 38 p' v) (x + 44)) p U.length (p' - p))) 605 (x + 40) (nn (U.length + (p' - p))) := ⟨_, rfl⟩
              have pD : Fm x [605] (fun a => a = x + 44) (ppC x hb 38 p' v) hd' := by
                rw [ehd]
                refine Fm.fi (Fm.ai Fm.rf (Or.inl rfl) (fun z => ?_)) (Or.inl (by decide)) (Or.inl (by decide))
                have := z.1
                omega
              have Td : Stat x hd' := TC.sto pD.1
              have Dd : Rd x i bs p' L f1 hd' rb := (z3.fm Tb pC (Ro.rf (S := [])) (by decide) (by show ¬ (x + 2 + 4 * i + 2 = x + 41 ∨ x + 2 + 4 * i + 2 = x + 43); omega) (by decide)).fm TC pD (Ro.rf (S := [])) (by decide) (by show ¬ x + 2 + 4 * i + 2 = x + 44; omega) (by decide)
              have sd : Sw x (p' - ps) (p' - ps) h hd' r rb := by
                have sb' : Sw x (p' - (p + 1)) (p' - (p + 1)) (ppA x h2 M 38 p) hd' (sA r2 82 38 1) rb := ⟨((z4.sub (by decide) (fun _ z => z.elim)).tr (pC.sub (by decide) (fun a ha => Or.inl (by omega)))).tr (pD.sub (by decide) (fun a ha => Or.inl (by omega))), z5.1.sub (by decide), by rw [ehd]; exact z6.1, by rw [ehd]; exact z6.2⟩
                exact (((s1.tr s2.sw).tr sA').tr sb').le (by omega) (by omega)
              rw [← ehd]
              by_cases gf : f1 = 0
              · subst gf
                obtain ⟨y1, y2, y3⟩ := z7 rfl
                obtain ⟨P3, t3⟩ := Pp.user (v := v) (s := p) (p' := p') P2 T2 hi D2.by D2.1.2.2.2 z4 z5 y1 (by omega) hbl (by omega) y2 y3
                rw [← ehd] at P3 t3
                refine ih p' (cnt + 1) (f'' + 1) (g'' + 1) (M ||| 2 ^ 38) (U ++ sl bs p (p' - p)) hd' rb (by omega) (by omega) (by omega) (by omega) (by omega) Td Dd P3 (fun k' hk' => ?_) ?_ sd
                · rcases tb_or.mp hk' with z | z
                  · exact hMA k' z
                  · rw [← z]; exact gA'
                · rw [List.length_append, sl_len (by omega), t3]
                  have : Tot x h2 M = Tot x h1 M := t2
                  omega
              · exact fe p' f'' g'' f1 (cnt + 1) hd' rb gf (by omega) (by omega) Td (by omega) Dd sd (((((ppA.fx (P2.fx hbl) T2 m2 (by omega)).fm TA z4 (by decide) (by decide)).fm Tb pC (by decide) (by decide))).fm TC pD (by decide) (by decide))
            · refine Sim.seq (sim_val2 (l3 := nn (410 * i + p)) DA TA hk0 g38) (fun v hb _ rb z => ?_)
              obtain ⟨⟨p', f1, z1, z2, z3, z4, z5, z6, z7, z8⟩, zE⟩ := z
              have Tb : Stat x hb := TA.sto z4.1
              have tb5 := Tb.2.2.2.2.1
              have pC := ppC.fm (v := v) (k := k) (p' := p') Tb
              have TC : Stat x (ppC x hb k p' v) := Tb.sto pC.1
              have y603 : hfr (sal hb (x + 41) (vp_updL (hal hb (x + 41)) k v)) (100 * 6 + 3) (x + 40) = some (x + 43) := tb5.2.2.2.1
              have y702 : hfi (sal hb (x + 41) (vp_updL (hal hb (x + 41)) k v)) (100 * 7 + 2) (x + 37) = nn p' := z3.1.2.1
              rw [sl_Wl tb5.2.2.2.2.2.1 (by rw [tb5.2.2.2.2.2.2.1]; omega) (by omega), sl_gR (by exact Tb.pr), y603, sl_gI (by exact Tb.rd), y702, sl_Wi (by exact tb5.2.2.2.2.2.2.2.2.2.1) (by show k < hln hb (x + 43); rw [tb5.2.2.2.2.2.2.2.2.2.2.1]; omega) (by omega), sl_neg (fun z : nn k = (38 : Int32) => g38 (nn_inj (b := 38) (by omega) (by omega) z)), l_1, nn_add]
              show Sim (C_X4_read_L48 (x + 40) _ _ _ _ _ _ _) (ppC x hb k p' v) _ _ _
              have Dd : Rd x i bs p' L f1 (ppC x hb k p' v) rb := z3.fm Tb pC (Ro.rf (S := [])) (by decide) (by show ¬ (x + 2 + 4 * i + 2 = x + 41 ∨ x + 2 + 4 * i + 2 = x + 43); omega) (by decide)
              have sd : Sw x (p' - ps) (p' - ps) h (ppC x hb k p' v) r rb := by
                have sb' : Sw x (p' - (p + 1)) (p' - (p + 1)) (ppA x h2 M k p) (ppC x hb k p' v) (sA r2 82 k 1) rb := ⟨(z4.sub (by decide) (fun _ z => z.elim)).tr (pC.sub (by decide) (fun a ha => Or.inl (by omega))), z5.1.sub (by decide), z6.1, z6.2⟩
                exact (((s1.tr s2.sw).tr sA').tr sb').le (by omega) (by omega)
              by_cases gf : f1 = 0
              · subst gf
                obtain ⟨y1, y2, y3, y4⟩ := z8 rfl
                have hz : M.testBit k = false := hkM.resolve_left g38
                obtain ⟨P3, t3⟩ := Pp.step (v := v) (p := p) (p' := p') P2 T2 hk0 g38 hz hp1 hk.symm z4 z5 (by omega) (by omega) hbl y2 y3 z7 y4
                refine ih p' (cnt + 1) (f'' + 1) (g'' + 1) (M ||| 2 ^ k) U (ppC x hb k p' v) rb (by omega) (by omega) (by omega) (by omega) (by omega) TC Dd P3 (fun k' hk' => ?_) ?_ sd
                · rcases tb_or.mp hk' with z | z
                  · exact hMA k' z
                  · rw [← z]; exact gA'
                · have : Tot x h2 M = Tot x h1 M := t2
                  omega
              · exact fe p' f'' g'' f1 (cnt + 1) (ppC x hb k p' v) rb gf (by omega) (by omega) TC (by omega) Dd sd (((ppA.fx (P2.fx hbl) T2 m2 (by omega)).val TA z4 zE).fm Tb pC (by decide) (by decide))
          by_cases g38 : k = 38
          · rw [sl_pos (by rw [g38]; rfl)]
            exact go (Or.inl g38)
          · rw [sl_neg (fun z : nn k = (38 : Int32) => g38 (nn_inj (b := 38) (by omega) (by omega) z)), sl_Cv T2.pr, Sim_l (e_bd (qc_phas T2 P2.1.1 P2.1.2.1 (show k < 40 by omega)))]
            by_cases gM : M.testBit k = true
            · rw [if_pos gM, sl_neg (by decide)]
              exact bad (Or.inr (Or.inr ⟨g38, gM⟩))
            · rw [if_neg gM, sl_pos rfl]
              exact go (Or.inr (by simpa using gM))
    · exact ih p cnt f g M U h1 r1 (by omega) (by omega) (by omega) hpp hcnt T1 D1 P1 hMA hT s1
end PR3
