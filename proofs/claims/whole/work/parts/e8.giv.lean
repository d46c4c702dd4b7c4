/-! ===== what is kept is given to a new subscription, by both ===== -/
section GVR
variable {x ec es s b n k u : Nat} {e0 : Int32} {h h' : Hp} {r r' : RS} {ys ks : List Nat}
def gvS : List Nat := 64 :: 65 :: hS
def GR (x : Nat) (h h' : Hp) (r r' : RS) : Prop := Fm x hF (gA x h) h h' ∧ Ro gvS r r' ∧ har h' (x + 34) = har h (x + 34)
theorem gR_def {ρ : Type} {c k a : Nat} {f : Option Nat → Hp → Option (ρ × Hp)} {v : ρ × Hp} (e : hgR c k (some a) f h = some v) : hkd h a = c + 1 := by
  by_cases z : hkd h a = c + 1
  · exact z
  · unfold hgR at e
    dsimp only at e
    rw [if_neg z] at e
    cases e
theorem gA.nb1 {ew a : Nat} (R : Rel x ec es ew e0 h r) (hs : s < 12) (hb : har h (x + 34) s = some b) (ha : a = b + 1) : ¬ gA x h a := fun z => by
  have Sb := R.ses hs hb
  have hx2 := Sb.1.2.1
  have hx := R.st.1
  rcases z with z | ⟨i', hi', z⟩ | ⟨s', b', h1', h2', z⟩
  · omega
  · have : cA x i' + 1 = x + 2 + 4 * i' + 1 := rfl
    omega
  · have T' := (R.ses h1' h2').1
    have n1 := T'.ne Sb.1 1 (by omega) (by omega)
    have n2 := T'.ne Sb.1 2 (by omega) (by omega)
    omega
theorem gon.ro {S : List Nat} (w : Ro S r r') (h1 : 50 ∉ S) (h2 : 51 ∉ S) (h3 : 66 ∉ S) (j : Nat) : gon r' j = gon r j := by
  unfold gon
  rw [w.gL h1, w.gA h2, w.gI h3]
/-- what is kept is nobody's will -/
theorem Rel.kwl {ew k m j : Nat} (R : Rel x ec es ew e0 h r) (hK : KL r ks) (hk : k < ks.length) (hc : k < iN (hfi h 801 (x + 35))) (hm : har h (x + 36) k = some m) (hj : ks.getD k 0 = j) : ∀ s' b', s' < 12 → har h (x + 34) s' = some b' → hfr h 1011 b' ≠ some m ∧ r.2.1 20 s' ≠ nn j := by
  intro s' b' hs' hb'
  have Sb := R.ses hs' hb'
  have U := R.2.2.2.2.2.2.2.2.2.1
  obtain ⟨k1, k2, k3⟩ := hK
  rcases Sb.2.2.2.1 with ⟨c1, c2⟩ | ⟨m', j', c1, c2, ⟨_, _, ⟨c3, _⟩, _⟩, _⟩
  · have := (k3 k hk).2
    rw [c1, c2]
    exact ⟨fun z => (by cases z), neg_nn (by omega)⟩
  · obtain ⟨_, _, _, _, u5, u6⟩ := U s' b' m' j' hs' hb' c1 c2
    have hj2 := (k3 k hk)
    refine ⟨fun z => ?_, fun z => ?_⟩
    · rw [c1] at z
      cases z
      exact u5 k hc hm
    · rw [c2] at z
      refine u6 k (by rw [k1, iN_nn (by omega)]; exact hk) ?_
      rw [hj2.1, hj, z]
theorem sim_giveR (R : Rel x ec es 96 e0 h r) (hs : s < 12) (hb : har h (x + 34) s = some b) (hn : r.2.1 24 s = nn n) (hn2 : n ≤ 8) (hk : k < n) (hu : har h (b + 1) k = some u) (S : SubT x h u ys 0) :
    Sim (C_X11_giveRetained x (some b) (some u)) h (bd R_purge fun _ => R_show_L93 (R_show_J138) fu (nn (8 * s + k)) (0 : Int32)) r (fun _ h' _ r' => Rel x ec es 96 e0 h' r' ∧ GR x h h' r r' ∧ (hcs h').1 + WN r' ≤ (hcs h).1 + WN r + 16 ∧ (hcs h').2 + 6 * WN r' ≤ (hcs h).2 + 6 * WN r + 96) := by
  have T := R.st
  have hx := T.1
  obtain ⟨ks0, K0', KC0⟩ := R.2.2.2.2.2.2.2.2.1.kl
  obtain ⟨_, rp, ep, wp', Kp'⟩ := qm_purge K0'
  rw [← K0'.kp] at Kp'
  obtain ⟨Rp, kpp⟩ := R.purge wp' Kp'
  obtain ⟨ks, eks⟩ : ∃ z, z = kpt r := ⟨_, rfl⟩
  rw [← eks] at Kp' kpp
  rw [Sim_r (e_bd ep)]
  have hks := Kp'.2.1
  have ng : ∀ q ∈ ks, gon rp q = false := by
    intro q hq
    rw [gon.ro wp' (by decide) (by decide) (by decide)]
    rw [eks, K0'.kp] at hq
    have := (List.mem_filter.mp hq).2
    simpa using this
  have key : ∀ (c k0 f g : Nat) (h1 : Hp) (r1 : RS), k0 + c = ks.length → c < f → c < g → Rel x ec es 96 e0 h1 r1 → GH x h h1 rp r1 → (hcs h1).1 + WN r1 ≤ (hcs h).1 + WN rp + k0 → (hcs h1).2 + 6 * WN r1 ≤ (hcs h).2 + 6 * WN rp + 6 * k0 → Sim (C_X11_giveRetained_L2 x (C_X11_giveRetained_J66 x) f (some b) (some u) (nn k0)) h1 (R_show_L93 (R_show_J138) g (nn (8 * s + k)) (nn k0)) r1 (fun _ h' _ r' => Rel x ec es 96 e0 h' r' ∧ GH x h h' rp r' ∧ (hcs h').1 + WN r' ≤ (hcs h).1 + WN rp + 16 ∧ (hcs h').2 + 6 * WN r' ≤ (hcs h).2 + 6 * WN rp + 96) := by
    intro c
    induction c with
    | zero =>
      intro k0 f g h1 r1 hc hf hg R1 G1 c1 c2
      obtain ⟨f', rfl⟩ : ∃ z, f = z + 1 := ⟨f - 1, by omega⟩
      obtain ⟨g', rfl⟩ : ∃ z, g = z + 1 := ⟨g - 1, by omega⟩
      have T1 := R1.st
      obtain ⟨t1, t2, t3, t4⟩ := T1.sto'
      have K1 : KL r1 ks := ⟨by rw [G1.2.1.gI (by decide)]; exact Kp'.1, hks, fun q hq => by rw [G1.2.1.gA (by decide)]; exact Kp'.2.2 q hq⟩
      have kp1 : kpt r1 = ks := by
        rw [K1.kp, filter_all (fun q hq => by rw [gon.ro G1.2.1 (by decide) (by decide) (by decide), ng q hq]; rfl)]
      have e801 : hfi h1 (100 * 8 + 1) (x + 35) = nn ks.length := by
        have := R1.2.2.2.2.2.2.2.2.1.2.1
        rw [kp1] at this
        exact this
      show Sim (C_X11_giveRetained_B2 x _ _ (some b) (some u) (nn k0)) h1 (R_show_B93 _ _ (nn (8 * s + k)) (nn k0)) r1 _
      unfold C_X11_giveRetained_B2 R_show_B93 C_X11_giveRetained_J66 R_show_J138
      rw [sl_gR T1.2.1.1, show hfr h1 (100 * 13 + 2) x = some (x + 35) from T1.2.1.2.2.2.1, sl_gI t1, e801, sl_pos (by rw [nn_le (by omega) (by omega)]; omega), sr_rI, K1.1, sr_pos (by rw [nn_le (by omega) (by omega)]; omega)]
      exact Sim.ret ⟨R1, G1, by omega, by omega⟩
    | succ c ih =>
      intro k0 f g h1 r1 hc hf hg R1 G1 c1 c2
      obtain ⟨f', rfl⟩ : ∃ z, f = z + 1 := ⟨f - 1, by omega⟩
      obtain ⟨g', rfl⟩ : ∃ z, g = z + 1 := ⟨g - 1, by omega⟩
      have T1 := R1.st
      obtain ⟨t1, t2, t3, t4⟩ := T1.sto'
      have hk0 : k0 < ks.length := by omega
      have K1 : KL r1 ks := ⟨by rw [G1.2.1.gI (by decide)]; exact Kp'.1, hks, fun q hq => by rw [G1.2.1.gA (by decide)]; exact Kp'.2.2 q hq⟩
      have kp1 : kpt r1 = ks := by
        rw [K1.kp, filter_all (fun q hq => by rw [gon.ro G1.2.1 (by decide) (by decide) (by decide), ng q hq]; rfl)]
      obtain ⟨_, e801', q4⟩ := R1.2.2.2.2.2.2.2.2.1
      rw [kp1] at e801' q4
      have e801 : hfi h1 (100 * 8 + 1) (x + 35) = nn ks.length := e801'
      obtain ⟨m, m1, m2⟩ := q4 k0 hk0
      obtain ⟨j, ej⟩ : ∃ j, j = ks.getD k0 0 := ⟨_, rfl⟩
      rw [← ej] at m2
      have hj := (K1.2.2 k0 hk0)
      rw [← ej] at hj
      obtain ⟨V, C, Mj, hV⟩ := m2.1
      obtain ⟨t, tt1, tt2⟩ := C.2.2.2.1
      have hb1 : har h1 (x + 34) s = some b := by rw [G1.2.2]; exact hb
      have Sb1 := R1.ses hs hb1
      have hn1 : r1.2.1 24 s = nn n := by rw [G1.2.1.gA (by decide), wp'.gA (by decide)]; exact hn
      have Sb := R.ses hs hb
      have hb4 := Sb.1.2.2.1
      have hb2 := Sb.1.2.1
      have hnb1 : ∀ a, a = b + 1 → ¬ gA x h a := fun a ha => gA.nb1 R hs hb ha
      have eb1 : har h1 (b + 1) = har h (b + 1) := (G1.1.2.2 (b + 1) (by omega) (hnb1 _ rfl)).2.1
      have hu1 : har h1 (b + 1) k = some u := by rw [eb1]; exact hu
      have S1 : SubT x h1 u ys 0 := S.sto G1.1.1
      have MB1 := (SubT.mb R1 hs hb1 hn1 hn2 hk hu1 S1).1
      have em := qc_matches S1 tt2 (by have := hV.1; omega) hV.1.1
      have et := qm_takes (r := r1) (w := 8 * s + k) (st := 0) (by omega) MB1.1 MB1.2.1 MB1.2.2.1 S1.2.2.1 Mj.2.1.2 hV.2.2.2.2.2.1 hj.2 hV.1.2 hV.1.1 Mj.2.1.1
      show Sim (C_X11_giveRetained_B2 x _ _ (some b) (some u) (nn k0)) h1 (R_show_B93 _ _ (nn (8 * s + k)) (nn k0)) r1 _
      unfold C_X11_giveRetained_B2 R_show_B93
      rw [sl_gR T1.2.1.1, show hfr h1 (100 * 13 + 2) x = some (x + 35) from T1.2.1.2.2.2.1, sl_gI t1, e801, sl_neg (by rw [nn_le (by omega) (by omega)]; omega), sr_rI, K1.1, sr_neg (by rw [nn_le (by omega) (by omega)]; omega), sl_gR T1.2.1.1, show hfr h1 (100 * 13 + 2) x = some (x + 35) from T1.2.1.2.2.2.1, sl_gR t1, t2, sl_Ar t3 (by rw [t4]; omega) (by omega), m1, sl_gR (c := 5) C.1, show hfr h1 (100 * 5 + 0) m = some t from tt1, sl_Cv (c := 11) S1.1.1, Sim_l (e_bd em), sr_r64 (by omega), hj.1, Sim_r (e_bd et)]
      by_cases gm : mtc (ys.drop 0) V.1 = true
      · rw [if_pos gm, sl_neg (by decide), sr_neg (by decide), sr_r64 (by omega), hj.1, sl_Cv T1.2.1.1]
        obtain ⟨o, h2, h3, r3, a1, a2, a3, a4, a5, a6, a7, a8, _⟩ := sim_give (old := 1) (fl := 1) (m := m) (j := j) R1 hs hb1 hn1 hn2 hk hu1 m2 hj.2 (by omega) (fun _ _ _ _ _ _ => rfl) (R1.kwl K1 hk0 (by rw [e801', iN_nn (by omega)]; exact hk0) m1 ej.symm)
        have a1' : C_X11_hand x (some b) (some u) (some m) (1 : Int32) h1 = some (o, h2) := a1
        have a4' : R_deliver (nn (8 * s + k)) (nn j) (1 : Int32) r1 = some ((), r3) := a4
        rw [Sim_l (e_bd a1'), Sim_r (e_bd a4')]
        have hb3 : har h3 (x + 34) s = some b := by rw [a6.2.2]; exact hb1
        have hn3 : r3.2.1 24 s = nn n := by rw [a6.2.1.gA (by decide)]; exact hn1
        have eb3 : har h3 (b + 1) = har h1 (b + 1) := (a6.1.2.2 (b + 1) (by have := Sb1.1.2.2.1; omega) (gA.nb1 R1 hs hb1 rfl)).2.1
        have R3 := Rel.noturn a5 hs hb3 hn3 hn2 hk (by rw [eb3]; exact hu1) (S1.sto a6.1.1)
        have hoq : oq r1 s j ≤ 1 := by
          unfold oq
          split <;> omega
        have go := ih (k0 + 1) f' g' h3 r3 (by omega) (by omega) (by omega) R3 (G1.tr a6) (by omega) (by omega)
        cases o with
        | none =>
          have := a2 rfl
          subst this
          rw [sl_pos rfl, l_1, nn_add]
          exact go
        | some d =>
          have kx2 : hkd h2 x = 13 + 1 := by
            have z := a3 d rfl
            unfold C_X11_deliver at z
            exact gR_def z
          rw [sl_neg (fun z => by cases z), sl_Cv kx2, Sim_l (e_bd (a3 d rfl)), l_1, nn_add]
          exact go
      · rw [if_neg gm, sl_pos rfl, sr_pos rfl, l_1, nn_add]
        exact ih (k0 + 1) f' g' h1 r1 (by omega) (by omega) (by omega) R1 G1 (by omega) (by omega)
  have wnp := wp'.wn (by decide) (by decide) (by decide) (by decide)
  refine (key ks.length 0 fu fu h rp (by omega) (by unfold fu; omega) (by unfold fu; omega) Rp GH.rf (by omega) (by omega)).mono (fun _ h' _ r' z => ?_)
  obtain ⟨z1, z2, z3, z4⟩ := z
  exact ⟨z1, ⟨z2.1, (wp'.sub (by decide)).tr (z2.2.1.sub (by decide)), z2.2.2⟩, by omega, by omega⟩
end GVR
