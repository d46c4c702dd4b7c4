/-! ===== a name that nobody has, found by both ===== -/
section NA2
variable {x ec es ew s b a v n sf w t : Nat} {e0 : Int32} {h h' : Hp} {r r' r0 : RS} {ys : List Nat}
theorem x_gd {α : Type} {q : Prop} [Decidable q] {P : RS → Option (α × RS)} (hq : q) : gd q P r = P r := if_pos hq
/-- how many digits: by the model -/
theorem dig_m {ke : Int32 → Int32 → Int32 → RS → Option (Unit × RS)} {l1 : Int32} (h71 : r.1 71 = nn v) (hv : v < 100000000) : ∀ (k j f : Nat), j + k ≤ 7 → v / 10 ^ (j + 1) < 10 ^ k → k < f → R_name_L31 ke f l1 (nn (j + 1)) (nn (10 ^ j)) r = ke l1 (nn (j + 1 + nd0 k (v / 10 ^ (j + 1)))) (nn (10 ^ (j + nd0 k (v / 10 ^ (j + 1))))) r := by
  have pj : ∀ j, j ≤ 8 → 1 ≤ 10 ^ j ∧ 10 ^ j ≤ 100000000 := by decide
  intro k
  induction k with
  | zero =>
    intro j f hj hw hf
    obtain ⟨f', rfl⟩ : ∃ z, f = z + 1 := ⟨f - 1, by omega⟩
    obtain ⟨q1, q2⟩ := pj j (by omega)
    have z : v / 10 ^ (j + 1) = 0 := by simp at hw; simp [hw]
    have z2 : v / 10 ^ j ≤ 9 := by
      rw [Nat.pow_succ, ← Nat.div_div_eq_div_mul] at z
      omega
    show R_name_B31 _ ke l1 (nn (j + 1)) (nn (10 ^ j)) r = _
    unfold R_name_B31
    rw [x_rI, h71]
    show gd (¬ nn (10 ^ j) = 0) _ r = _
    rw [x_gd (nn_ne0 (by omega) (by omega)), nn_div (by omega) (by omega), if_pos (by rw [show (9 : Int32) = nn 9 from rfl, nn_le (by omega) (by omega)]; exact z2)]
    rfl
  | succ k ih =>
    intro j f hj hw hf
    obtain ⟨f', rfl⟩ : ∃ z, f = z + 1 := ⟨f - 1, by omega⟩
    obtain ⟨q1, q2⟩ := pj j (by omega)
    obtain ⟨q3, q4⟩ := pj (j + 1) (by omega)
    obtain ⟨A, hA⟩ : ∃ A, A = v / 10 ^ j := ⟨_, rfl⟩
    obtain ⟨B, hB⟩ : ∃ B, B = v / 10 ^ (j + 1) := ⟨_, rfl⟩
    obtain ⟨P, hP⟩ : ∃ P, P = 10 ^ k := ⟨_, rfl⟩
    have eB : B = A / 10 := by rw [hB, hA, Nat.pow_succ, ← Nat.div_div_eq_div_mul]
    have eC : v / 10 ^ (j + 1 + 1) = B / 10 := by rw [hB, Nat.pow_succ 10 (j + 1), ← Nat.div_div_eq_div_mul]
    have hA2 : A ≤ v := by rw [hA]; exact Nat.div_le_self _ _
    have hw' : B < P * 10 := by rw [hB, hP, ← Nat.pow_succ]; exact hw
    show R_name_B31 _ ke l1 (nn (j + 1)) (nn (10 ^ j)) r = ke l1 (nn (j + 1 + if v / 10 ^ (j + 1) = 0 then 0 else 1 + nd0 k (v / 10 ^ (j + 1) / 10))) (nn (10 ^ (j + if v / 10 ^ (j + 1) = 0 then 0 else 1 + nd0 k (v / 10 ^ (j + 1) / 10)))) r
    unfold R_name_B31 lq
    rw [x_rI, h71]
    show gd (¬ nn (10 ^ j) = 0) _ r = _
    rw [x_gd (nn_ne0 (by omega) (by omega)), nn_div (by omega) (by omega), ← hA, ← hB]
    have ihk := ih (j + 1) f' (by omega) (by rw [eC, ← hP]; clear hA hB hw hP; omega) (by omega)
    rw [eC] at ihk
    clear hA hB hw hP
    by_cases z : B = 0
    · rw [if_pos z, if_pos (by rw [show (9 : Int32) = nn 9 from rfl, nn_le (by omega) (by omega)]; omega)]
      rfl
    · rw [if_neg z, if_neg (by rw [show (9 : Int32) = nn 9 from rfl, nn_le (by omega) (by omega)]; omega), show (10 : Int32) = nn 10 from rfl, nn_mul, show nn (j + 1) + 1 = nn (j + 1 + 1) from nn_add, ← Nat.pow_succ]
      dsimp only
      refine ihk.trans ?_
      rw [show j + 1 + 1 + nd0 k (B / 10) = j + 1 + (1 + nd0 k (B / 10)) by omega, show j + 1 + nd0 k (B / 10) = j + (1 + nd0 k (B / 10)) by omega]
/-- what a try leaves in the model -/
def Nt (sf v : Nat) (r r' : RS) : Prop := Ro [11, 13, 14, 71, 90] r r' ∧ r'.1 71 = nn v ∧ (∀ s, s ≠ sf → r'.2.1 11 s = r.2.1 11 s ∧ r'.2.1 13 s = r.2.1 13 s) ∧ (∀ q, q / 20 ≠ sf → r'.2.1 14 q = r.2.1 14 q) ∧ r'.2.1 11 sf = 1 ∧ IdOf r' sf (autoB v) ∧ r'.2.2 = r.2.2 ∧ r'.2.1 71 = r.2.1 71
theorem Nt.id (c : Nt sf v r r') (hs : s ≠ sf) (hl : ys.length ≤ 20) : IdOf r' s ys ↔ IdOf r s ys := by
  unfold IdOf
  rw [(c.2.2.1 s hs).2]
  constructor
  · rintro ⟨h1, h2⟩
    exact ⟨h1, h2.of (fun q hq => (c.2.2.2.1 _ (by omega)).symm)⟩
  · rintro ⟨h1, h2⟩
    exact ⟨h1, h2.of (fun q hq => c.2.2.2.1 _ (by omega))⟩
/-- one try of the model -/
theorem try_m {ke : RS → Option (Unit × RS)} {f : Nat} (hs : sf < 12) (h11 : ∀ s, s < 12 → s ≠ sf → r.2.1 11 s = 0 ∨ r.2.1 11 s = 1) (h71 : r.1 71 = nn a) (ha : a < 90000000) :
    ∃ r', Nt sf (a + 1) r r' ∧ ((∃ s, s < 12 ∧ s ≠ sf ∧ r.2.1 11 s = 1 ∧ IdOf r s (autoB (a + 1)) ∧ R_name_L12 ke (f + 1) (nn sf) 0 r = R_name_L12 ke f (nn sf) 0 r') ∨ ((∀ s, s < 12 → s ≠ sf → r.2.1 11 s = 1 → ¬ IdOf r s (autoB (a + 1))) ∧ R_name_L12 ke (f + 1) (nn sf) 0 r = R_name_L12 ke f (nn sf) 1 r')) := by
  obtain ⟨v, hv⟩ : ∃ z, z = a + 1 := ⟨_, rfl⟩
  obtain ⟨n, hn⟩ : ∃ z, z = nd v := ⟨_, rfl⟩
  have nb := nd_b (v := v)
  rw [← hn] at nb
  have pj : ∀ j, j ≤ 8 → 1 ≤ 10 ^ j ∧ 10 ^ j ≤ 100000000 := by decide
  have bl : (autoB v).length = 4 + n := by rw [autoB_len, ← hn]
  have BB := autoB_by (v := v)
  obtain ⟨kb, hkb⟩ : ∃ z, z = fun l1 l2 => R_name_L12 ke f l1 l2 := ⟨_, rfl⟩
  obtain ⟨r1, er1⟩ : ∃ z, z = sI r 71 (nn v) := ⟨_, rfl⟩
  have h711 : r1.1 71 = nn v := by rw [er1, sI_1, if_pos rfl]
  have s1 : R_name_L12 ke (f + 1) (nn sf) 0 r = R_name_J56 kb ke (nn sf) (nn n) (nn (10 ^ (n - 1))) r1 := by
    show R_name_B12 _ ke (nn sf) 0 r = _
    unfold R_name_B12
    rw [if_pos rfl, x_rI, h71, x_wI, show nn a + (1 : Int32) = nn v from by rw [hv]; exact nn_add, ← er1, ← hkb]
    have := dig_m (ke := fun l1 l3 l4 => R_name_J56 kb ke l1 l3 l4) (l1 := nn sf) h711 (by omega) 7 0 fu (by omega) (by show v / 10 ^ 1 < 10 ^ 7; omega) (by unfold fu; omega)
    refine this.trans ?_
    rw [show 0 + 1 + nd0 7 (v / 10 ^ (0 + 1)) = n by rw [hn]; rfl, show 0 + nd0 7 (v / 10 ^ (0 + 1)) = n - 1 by rw [hn]; show 0 + nd0 7 (v / 10) = 1 + nd0 7 (v / 10) - 1; omega]
  -- the bytes
  have wr : ∀ (c k f : Nat) (rr : RS), k + c = n → c < f → Ro [90] r1 rr → (∀ q, q < 4 + k → rr.2.1 90 q = sb ((autoB v).getD q 0)) → rr.2.2 = r1.2.2 → ∃ r2, Ro [90] r1 r2 ∧ Mg (r2.2.1 90) 0 (autoB v) ∧ r2.2.2 = r1.2.2 ∧ ∀ l4 : Int32, (k < n → l4 = nn (10 ^ (n - 1 - k))) → R_name_L91 (fun l1 l3 => R_name_J133 kb ke l1 l3) f (nn sf) (nn n) l4 (nn k) rr = R_name_J133 kb ke (nn sf) (nn n) r2 := by
    intro c
    induction c with
    | zero =>
      intro k f rr hk hf w g z
      obtain ⟨f', rfl⟩ : ∃ z, f = z + 1 := ⟨f - 1, by omega⟩
      have : k = n := by omega
      subst this
      refine ⟨rr, w, fun q hq => ?_, z, fun l4 _ => ?_⟩
      · rw [Nat.zero_add]
        exact g q (by omega)
      · show R_name_B91 _ _ (nn sf) (nn k) l4 (nn k) rr = _
        unfold R_name_B91
        rw [if_pos (Int32.le_refl _)]
    | succ c ih =>
      intro k f rr hk hf w g z
      obtain ⟨f', rfl⟩ : ∃ z, f = z + 1 := ⟨f - 1, by omega⟩
      obtain ⟨q1, q2⟩ := pj (n - 1 - k) (by omega)
      have h71r : rr.1 71 = nn v := by rw [w.gI (by decide)]; exact h711
      obtain ⟨u, hu⟩ : ∃ z, z = v / 10 ^ (n - 1 - k) := ⟨_, rfl⟩
      have hu2 : u ≤ v := by rw [hu]; exact Nat.div_le_self _ _
      have hd : (autoB v).getD (4 + k) 0 = 48 + u % 10 := by
        rw [autoB_d (by omega), ← hn, hu]
        rfl
      obtain ⟨r2, w2, m2, z2, e2⟩ := ih (k + 1) f' (sA rr 90 (4 + k) (sb (48 + u % 10))) (by omega) (by omega) (w.a (by decide)) (fun q hq => by
        rw [sA_2]
        by_cases y : q = 4 + k
        · rw [if_pos ⟨rfl, y⟩, y, hd]
        · rw [if_neg (fun p => y p.2)]
          exact g q (by omega)) z
      refine ⟨r2, w2, m2, z2, fun l4 hl4 => ?_⟩
      have el := hl4 (by omega)
      subst el
      have nx : k + 1 < n → nn (10 ^ (n - 1 - k)) / nn 10 = nn (10 ^ (n - 1 - (k + 1))) := fun y => by
        rw [nn_div (by omega) (by omega), show n - 1 - k = n - 1 - (k + 1) + 1 by omega, Nat.pow_succ, Nat.mul_div_cancel _ (by omega)]
      rw [← e2 _ nx]
      show R_name_B91 _ _ (nn sf) (nn n) (nn (10 ^ (n - 1 - k))) (nn k) rr = _
      unfold R_name_B91 lq
      rw [if_neg (by rw [nn_le (by omega) (by omega)]; omega), x_rI, h71r]
      show gd (¬ nn (10 ^ (n - 1 - k)) = 0) _ rr = _
      rw [x_gd (nn_ne0 (by omega) (by omega)), show (4 : Int32) = nn 4 from rfl, nn_add, x_wA mL_90 (by omega) (by omega), nar8, nn_div (by omega) (by omega), ← hu, show (10 : Int32) = nn 10 from rfl, show nn u / nn 10 = nn (u / 10) from nn_div (by omega) (by omega), nn_mul, nn_sub (by omega), show (48 : Int32) = nn 48 from rfl, nn_add, lo8_nn (by omega), show (48 + (u - u / 10 * 10)) % 256 = 48 + u % 10 by omega, show nn k + 1 = nn (k + 1) from nn_add]
  obtain ⟨r2a, er2a⟩ : ∃ z, z = sA (sA (sA (sA r1 90 0 (sb 97)) 90 1 (sb 117)) 90 2 (sb 116)) 90 3 (sb 111) := ⟨_, rfl⟩
  have w2a : Ro [90] r1 r2a := by
    rw [er2a]
    exact (((Ro.rf.a (by decide)).a (by decide)).a (by decide)).a (by decide)
  obtain ⟨r2, w2, m2, z2, e2⟩ := wr n 0 fu r2a (by omega) (by unfold fu; omega) w2a (fun q hq => by
    rw [autoB_a (by omega), er2a, sA_2, sA_2, sA_2, sA_2]
    rcases (by omega : q = 0 ∨ q = 1 ∨ q = 2 ∨ q = 3) with y | y | y | y <;> subst y <;> rfl) (by rw [er2a]; rfl)
  have s2 : R_name_J56 kb ke (nn sf) (nn n) (nn (10 ^ (n - 1))) r1 = R_name_J133 kb ke (nn sf) (nn n) r2 := by
    rw [← e2 _ (fun _ => by rw [Nat.sub_zero])]
    unfold R_name_J56
    rw [show (0 : Int32) = nn 0 from rfl, x_wA mL_90 (by omega) (by omega), show (1 : Int32) = nn 1 from rfl, x_wA mL_90 (by omega) (by omega), show (2 : Int32) = nn 2 from rfl, x_wA mL_90 (by omega) (by omega), show (3 : Int32) = nn 3 from rfl, x_wA mL_90 (by omega) (by omega), er2a]
    rfl
  obtain ⟨r3, er3⟩ : ∃ z, z = sA r2 11 sf 0 := ⟨_, rfl⟩
  have w3 : Ro [11, 71, 90] r r3 := by
    rw [er3, er1] at *
    exact ((Ro.rf.i (by decide)).tr (w2.sub (by decide))).a (by decide)
  have m3 : Mg (r3.2.1 90) 0 (autoB v) := by
    rw [er3, sA_o (by decide)]
    exact m2
  have e3 : ∀ s, r3.2.1 11 s = if s = sf then 0 else r.2.1 11 s := fun s => by
    rw [er3, sA_2, w2.gA (by decide), er1]
    by_cases y : s = sf
    · rw [if_pos ⟨rfl, y⟩, if_pos y]
    · rw [if_neg (fun p => y p.2), if_neg y]
      rfl
  have idr : ∀ s ys, IdOf r3 s ys ↔ IdOf r s ys := fun s ys => by
    unfold IdOf
    rw [w3.gA (k := 13) (by decide), w3.gA (k := 14) (by decide)]
  have cl := qm_cli (r := r3) (l1 := 90) (L := 1200) (o := 0) (ys := autoB v) (fun s hs' => by
    rw [e3]
    by_cases y : s = sf
    · rw [if_pos y]; exact Or.inl rfl
    · rw [if_neg y]; exact h11 s hs' y) mL_90 (by omega) (by omega) (by omega) m3
  rw [bl] at cl
  -- the copy
  obtain ⟨r4, er4⟩ : ∃ z, z = sA (sA r3 11 sf 1) 13 sf (nn (4 + n)) := ⟨_, rfl⟩
  have cpy : ∀ s0 : Int32, ∃ r5, Nt sf v r r5 ∧ R_name_L180 (fun l1 l2 => R_name_J213 kb ke l1 l2) fu (nn sf) s0 (nn n) 0 r4 = kb (nn sf) s0 r5 := fun s0 => by
    have lp : ∀ (c k f : Nat) (rr : RS), k + c = 4 + n → c < f → Ro [14] r4 rr → (∀ q, q / 20 ≠ sf → rr.2.1 14 q = r4.2.1 14 q) → (∀ q, q < k → rr.2.1 14 (20 * sf + q) = sb ((autoB v).getD q 0)) → rr.2.2 = r4.2.2 → ∃ r5, (Ro [14] r4 r5 ∧ (∀ q, q / 20 ≠ sf → r5.2.1 14 q = r4.2.1 14 q) ∧ Mg (r5.2.1 14) (20 * sf) (autoB v) ∧ r5.2.2 = r4.2.2) ∧ R_name_L180 (fun l1 l2 => R_name_J213 kb ke l1 l2) f (nn sf) s0 (nn n) (nn k) rr = kb (nn sf) s0 r5 := by
      intro c
      induction c with
      | zero =>
        intro k f rr hk hf g1 g2 g3 g4
        obtain ⟨f', rfl⟩ : ∃ z, f = z + 1 := ⟨f - 1, by omega⟩
        have : k = 4 + n := by omega
        subst this
        refine ⟨rr, ⟨g1, g2, fun q hq => g3 q (by omega), g4⟩, ?_⟩
        show R_name_B180 _ _ (nn sf) s0 (nn n) (nn (4 + n)) rr = _
        unfold R_name_B180
        rw [show (4 : Int32) = nn 4 from rfl, nn_add, if_pos (Int32.le_refl _)]
        rfl
      | succ c ih =>
        intro k f rr hk hf g1 g2 g3 g4
        obtain ⟨f', rfl⟩ : ∃ z, f = z + 1 := ⟨f - 1, by omega⟩
        have b90 : rr.2.1 90 k = sb ((autoB v).getD k 0) := by
          rw [g1.gA (by decide), er4, sA_o (by decide), sA_o (by decide)]
          have := m3 k (by omega)
          rw [Nat.zero_add] at this
          exact this
        obtain ⟨r5, g5, e5⟩ := ih (k + 1) f' (sA rr 14 (20 * sf + k) (sb ((autoB v).getD k 0))) (by omega) (by omega) (g1.a (by decide)) (fun q hq => by
          rw [sA_2, if_neg (fun p => hq (by rw [p.2]; omega))]
          exact g2 q hq) (fun q hq => by
          rw [sA_2]
          by_cases y : q = k
          · rw [if_pos ⟨rfl, by rw [y]⟩, y]
          · rw [if_neg (fun p => y (by omega))]
            exact g3 q (by omega)) g4
        refine ⟨r5, g5, ?_⟩
        rw [← e5]
        show R_name_B180 _ _ (nn sf) s0 (nn n) (nn k) rr = _
        unfold R_name_B180
        rw [show (4 : Int32) = nn 4 from rfl, nn_add, if_neg (by rw [nn_le (by omega) (by omega)]; omega), x_rA mL_90 (by omega) (by omega), b90, show (20 : Int32) = nn 20 from rfl, nn_mul, nn_add, x_wA mL_14 (by omega) (by omega), nar_sb (BB.at k), show nn k + 1 = nn (k + 1) from nn_add]
    obtain ⟨r5, ⟨g1, g2, g3, g4⟩, e5⟩ := lp (4 + n) 0 fu r4 (by omega) (by unfold fu; omega) Ro.rf (fun _ _ => rfl) (fun q hq => by omega) rfl
    have w4 : Ro [11, 13, 71, 90] r r4 := by
      rw [er4]
      exact ((w3.sub (by decide)).a (by decide)).a (by decide)
    refine ⟨r5, ⟨(w4.sub (by decide)).tr (g1.sub (by decide)), ?_, fun s hs' => ⟨?_, ?_⟩, fun q hq => ?_, ?_, ⟨?_, g3⟩, ?_, ?_⟩, e5⟩
    · rw [g1.gI (by decide), er4]
      show r3.1 71 = _
      rw [er3]
      show r2.1 71 = _
      rw [w2.gI (by decide)]
      exact h711
    · rw [g1.gA (by decide), er4, sA_o (by decide), sA_2, if_neg (fun p => hs' p.2), e3, if_neg hs']
    · rw [g1.gA (by decide), er4, sA_2, if_neg (fun p => hs' p.2), sA_o (by decide), w3.gA (by decide)]
    · rw [g2 q hq, er4, sA_o (by decide), sA_o (by decide), w3.gA (by decide)]
    · rw [g1.gA (by decide), er4, sA_o (by decide), sA_2, if_pos ⟨rfl, rfl⟩]
    · rw [g1.gA (by decide), er4, sA_2, if_pos ⟨rfl, rfl⟩, bl]
    · rw [g4, er4]
      show r3.2.2 = _
      rw [er3]
      show r2.2.2 = _
      rw [z2, er1]
      rfl
    · rw [g1.gA (by decide), er4, sA_o (by decide), sA_o (by decide), er3, sA_o (by decide), w2.gA (by decide), er1]
      rfl
  have s3 : ∀ (res s0 : Int32), R_client 90 0 (nn (4 + n)) r3 = some (res, r3) → (if 0 ≤ res then (0 : Int32) else 1) = s0 → R_name_J133 kb ke (nn sf) (nn n) r2 = R_name_L180 (fun l1 l2 => R_name_J213 kb ke l1 l2) fu (nn sf) s0 (nn n) 0 r4 := fun res s0 h1 h2 => by
    unfold R_name_J133
    rw [x_wA mL_11 hs (by omega)]
    show bd (R_client 90 0 ((4 : Int32) + nn n)) _ (sA r2 11 sf 0) = _
    rw [← er3, show (4 : Int32) + nn n = nn (4 + n) from nn_add, e_bd h1]
    have j : ∀ s0, R_name_J160 kb ke (nn sf) (nn n) s0 r3 = R_name_L180 (fun l1 l2 => R_name_J213 kb ke l1 l2) fu (nn sf) s0 (nn n) 0 r4 := fun s0 => by
      unfold R_name_J160
      rw [x_wA mL_11 hs (by omega), x_wA mL_13 hs (by omega), show (4 : Int32) + nn n = nn (4 + n) from nn_add, er4]
      rfl
    by_cases y : 0 ≤ res
    · rw [if_pos y] at h2 ⊢
      rw [j, h2]
    · rw [if_neg y] at h2 ⊢
      rw [j, h2]
  rw [← hv]
  rcases cl with ⟨s, c1, c2, c3, _, c5⟩ | ⟨c1, c2⟩
  · have hne : s ≠ sf := fun y => by
      rw [y, e3, if_pos rfl] at c2
      exact absurd c2 (by decide)
    rw [e3, if_neg hne] at c2
    obtain ⟨r5, n5, e5⟩ := cpy 0
    refine ⟨r5, n5, Or.inl ⟨s, c1, hne, c2, (idr s _).mp c3, ?_⟩⟩
    rw [s1, s2, s3 _ 0 c5 (if_pos (nn_ge (by omega))), e5, hkb]
  · obtain ⟨r5, n5, e5⟩ := cpy 1
    refine ⟨r5, n5, Or.inr ⟨fun s hs' hne y z => c1 s hs' (by rw [e3, if_neg hne]; exact y) ((idr s _).mpr z), ?_⟩⟩
    rw [s1, s2, s3 _ 1 c2 (if_neg (by decide)), e5, hkb]
theorem nodup_le : ∀ (n : Nat) (l : List Nat), l.Nodup → (∀ a ∈ l, a < n) → l.length ≤ n := by
  have fl : ∀ (n : Nat) (l : List Nat), l.Nodup → l.length ≤ (l.filter (fun a => decide (a ≠ n))).length + 1 := by
    intro n l
    induction l with
    | nil => intro _; exact Nat.zero_le _
    | cons a t ih =>
      intro hd
      obtain ⟨h1, h2⟩ := List.nodup_cons.mp hd
      by_cases z : a = n
      · have : t.filter (fun a => decide (a ≠ n)) = t := List.filter_eq_self.mpr (fun c hc => by
          have : c ≠ n := fun y => h1 (by rw [z, ← y]; exact hc)
          exact decide_eq_true this)
        rw [List.filter_cons, if_neg (by simpa using z), this]
        exact Nat.le_refl _
      · rw [List.filter_cons, if_pos (by simpa using z)]
        have := ih h2
        show t.length + 1 ≤ (t.filter _).length + 1 + 1
        omega
  intro n
  induction n with
  | zero =>
    intro l _ h
    cases l with
    | nil => exact Nat.le_refl _
    | cons a t => exact absurd (h a (List.mem_cons_self ..)) (Nat.not_lt_zero _)
  | succ n ih =>
    intro l hd h
    have h1 := fl n l hd
    have h2 := ih (l.filter (fun a => decide (a ≠ n))) (hd.filter _) (fun a ha => by
      obtain ⟨m1, m2⟩ := List.mem_filter.mp ha
      have := h a m1
      have : a ≠ n := of_decide_eq_true m2
      omega)
    omega
end NA2
