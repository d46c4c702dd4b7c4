/-! ===== a session ends; all settles ===== -/
section SET
variable {x ec s b i : Nat} {e0 : Int32} {h : Hp} {r : RS}
theorem sim_ends (R : Rel x ec 12 96 e0 h r) (hs : s < 12) (hb : har h (x + 34) s = some b) (h15 : r.2.1 15 s = -1) :
    Sim (C_X11_end x (some b)) h (R_ends (nn s)) r (fun _ h' _ r' => Rel x ec 12 96 e0 h' r' ∧ GL x h h' r r' ∧ (∀ i, i < 8 → Cu x i h h' r r') ∧ (r'.2.1 11 s = 0 ∧ har h' (x + 34) s = none) ∧ Pd h h' r r') := by
  have T := R.st
  have Sb := R.ses hs hb
  have k1 : hkd h x = 13 + 1 := T.2.1.1
  have hbl := Sb.1.2.2.1
  have rd : ∀ (h : Hp) (r : RS), (remM r s).2.1 11 s = 0 ∧ har (remH h x s) (x + 34) s = none := fun h r => by
    refine ⟨?_, ?_⟩
    · unfold remM
      rw [sI_2, sA_o (by decide), sA_o (by decide), sA_o (by decide), sA_o (by decide), sA_2, if_pos ⟨rfl, rfl⟩]
    · unfold remH
      rw [har_sfi, har_sar, if_pos rfl]
      show (if s = s then none else _) = _
      rw [if_pos rfl]
  have rcu : ∀ (h : Hp) (r : RS), Stat x h → ∀ i, i < 8 → Cu x i h (remH h x s) r (remM r s) := fun h r T i hi => ⟨by rw [remM.ro.gA (by decide)], by rw [remM.ro.gA (by decide)], by rw [remM.ro.gA (by decide)], remH.fm.gi (x := x) (by decide) (by have := T.cl hi; omega)⟩
  unfold C_X11_end
  rw [sl_Cv k1]
  rcases Sb.2.2.2.1 with ⟨y1, y2⟩ | ⟨m, j, y1, y2, y3, y4, y5⟩
  · rw [Sim_l (e_bd (qc_comes0 Sb.1 y1)), sl_Cv k1, Sim_l (e_bd (qc_remove T Sb.1 hs)), Sim_r (M' := rt ()) (r' := remM r s) (qm_ends0 hs y2)]
    exact Sim.ret ⟨R.rem hs hb h15 (fun _ _ _ z => z), rem.gl T, rcu h r T, rd h r, Pd.mk rfl rem.wn⟩
  · obtain ⟨V, v1, v2, v3⟩ := y3
    rw [Sim_r (ends1 hs y2 v2.1)]
    refine Sim.seq (sim_comes R hs hb y1 y2 ⟨V, v1, v2, v3⟩) (fun _ h1 _ r1 z => ?_)
    obtain ⟨q1, q2, q3, q4, q5⟩ := z
    have hb1 : har h1 (x + 34) s = some b := by rw [q2.2.2]; exact hb
    have T1 := q1.st
    have S1 := q1.ses hs hb1
    rw [sl_Cv T1.2.1.1, Sim_l (e_bd (qc_remove T1 S1.1 hs)), Sim_r (M' := rt ()) (r' := remM r1 s) (qm_rem hs)]
    exact Sim.ret ⟨q1.rem hs hb1 (by rw [q2.2.1.gA (by decide)]; exact h15) (fun _ _ _ z => z), (q2.gl T).tr (rem.gl T1), fun i hi => (q2.cu T hi).tr (rcu h1 r1 T1 i hi), rd h1 r1, q5.tr (Pd.mk rfl rem.wn)⟩
/-- open connections -/
def opn (r : RS) (i : Nat) : Nat := if r.2.1 1 i = 0 then 0 else 1
def NO (r : RS) : Nat := opn r 0 + opn r 1 + opn r 2 + opn r 3 + opn r 4 + opn r 5 + opn r 6 + opn r 7
theorem opn_le (r : RS) (i : Nat) : opn r i ≤ 1 := by
  unfold opn
  split <;> omega
theorem NO.le8 (r : RS) : NO r ≤ 8 := by
  unfold NO
  have h0 := opn_le r 0
  have h1 := opn_le r 1
  have h2 := opn_le r 2
  have h3 := opn_le r 3
  have h4 := opn_le r 4
  have h5 := opn_le r 5
  have h6 := opn_le r 6
  have h7 := opn_le r 7
  omega
theorem NO.lt {r' : RS} (hi : i < 8) (h1 : opn r' i + 1 ≤ opn r i) (ho : ∀ i', i' < 8 → i' ≠ i → opn r' i' = opn r i') : NO r' + 1 ≤ NO r := by
  unfold NO
  have q : ∀ k, k < 8 → opn r' k = opn r k ∨ (k = i ∧ opn r' k + 1 ≤ opn r k) := fun k hk => by
    by_cases g : k = i
    · rw [g]; exact Or.inr ⟨rfl, h1⟩
    · exact Or.inl (ho k hk g)
  have h0 := q 0 (by omega)
  have h1' := q 1 (by omega)
  have h2 := q 2 (by omega)
  have h3 := q 3 (by omega)
  have h4 := q 4 (by omega)
  have h5 := q 5 (by omega)
  have h6 := q 6 (by omega)
  have h7 := q 7 (by omega)
  rcases (by omega : i = 0 ∨ i = 1 ∨ i = 2 ∨ i = 3 ∨ i = 4 ∨ i = 5 ∨ i = 6 ∨ i = 7) with g | g | g | g | g | g | g | g <;> subst g <;> omega
theorem NO.pos (hi : i < 8) (h1 : NO r = 0) : r.2.1 1 i = 0 := by
  unfold NO at h1
  have : opn r i = 0 := by
    rcases (by omega : i = 0 ∨ i = 1 ∨ i = 2 ∨ i = 3 ∨ i = 4 ∨ i = 5 ∨ i = 6 ∨ i = 7) with g | g | g | g | g | g | g | g <;> subst g <;> omega
  unfold opn at this
  split at this
  · assumption
  · omega
theorem set_wm {J : RS → Option (Unit × RS)} {α : Type} {P : Hp → Option (α × Hp)} {Φ : α → Hp → Unit → RS → Prop} {a g : Nat} (ha : a ≤ 8) (hn : ∀ i, i < a → r.2.1 2 i = 0) (hS : Sim P h (R_settle_L2 J g (nn a)) r Φ) : ∀ c k, k + c = a → Sim P h (R_settle_L2 J (g + c) (nn k)) r Φ := by
  intro c
  induction c with
  | zero =>
    intro k hk
    have : k = a := by omega
    rw [this]
    exact hS
  | succ c ih =>
    intro k hk
    show Sim P h (R_settle_B2 _ J (nn k)) r Φ
    unfold R_settle_B2
    rw [sr_neg (by rw [show (8 : Int32) = nn 8 from rfl, nn_le (by omega) (by omega)]; omega), sr_r1 (by omega)]
    by_cases g1 : r.2.1 1 k = 0
    · rw [sr_pos g1, l_1, nn_add]
      exact ih (k + 1) (by omega)
    · rw [sr_neg g1, sr_r2 (by omega), sr_pos (hn k (by omega)), l_1, nn_add]
      exact ih (k + 1) (by omega)
theorem set_wc {ke : Int32 → Option Nat → Hp → Option (Unit × Hp)} {β : Type} {M : RS → Option (β × RS)} {Φ : Unit → Hp → β → RS → Prop} {a f : Nat} {l1 : Int32} (R : Rel x ec 12 96 e0 h r) (ha : a ≤ 8) (hn : ∀ i, i < a → r.2.1 2 i = 0) (hS : Sim (C_X11_settle_L12 x ke f l1 none (nn a)) h M r Φ) : ∀ c k, k + c = a → Sim (C_X11_settle_L12 x ke (f + c) l1 none (nn k)) h M r Φ := by
  have T := R.st
  intro c
  induction c with
  | zero =>
    intro k hk
    have : k = a := by omega
    rw [this]
    exact hS
  | succ c ih =>
    intro k hk
    show Sim (C_X11_settle_B12 x _ ke l1 none (nn k)) h M r Φ
    unfold C_X11_settle_B12
    have e0 : hfr h (100 * 13 + 0) x = some (x + 1) := T.2.1.2.1
    have hk8 : k < 8 := by omega
    obtain ⟨t1, t2, _⟩ := T.2.2.2.2.2.2 k hk8
    have e5 : hfi h (100 * 2 + 5) (cA x k) = 0 := by
      have := (R.2.2.2.1 k hk8).1.2.1.1
      exact this.trans (hn k (by omega))
    rw [sl_neg (by rw [show (8 : Int32) = nn 8 from rfl, nn_le (by omega) (by omega)]; omega), sl_pos rfl, sl_gR T.2.1.1, e0, sl_Ar T.2.2.1.1 (by rw [T.2.2.1.2.1]; exact hk8) (by omega), t1, sl_gI t2, e5, sl_pos rfl]
    unfold C_X11_settle_J44
    rw [l_1, nn_add]
    exact ih (k + 1) (by omega)
theorem sim_settle (R : Rel x ec 12 96 e0 h r) : Sim (C_X11_settle x) h (R_settle) r (fun _ h' _ r' => Rel x ec 12 96 e0 h' r' ∧ GL x h h' r r' ∧ (∀ i, i < 8 → r'.2.1 2 i = 0) ∧ Pd h h' r r') := by
  unfold C_X11_settle R_settle
  have key : ∀ (c l f g : Nat) (h1 : Hp) (r1 : RS), l + c = 8 → NO r1 ≤ c → c < f → 9 * (c + 1) < g → Rel x ec 12 96 e0 h1 r1 → GL x h h1 r r1 → Pd h h1 r r1 → Sim (C_X11_settle_L2 x (C_X11_settle_J55 x) (C_X11_settle_J67 x) f (nn l)) h1 (R_settle_L2 (R_settle_J42) g (0 : Int32)) r1 (fun _ h' _ r' => Rel x ec 12 96 e0 h' r' ∧ GL x h h' r r' ∧ (∀ i, i < 8 → r'.2.1 2 i = 0) ∧ Pd h h' r r') := by
    intro c
    induction c with
    | zero =>
      intro l f g h1 r1 hl hN hf hg R1 G1 P1
      obtain ⟨f', rfl⟩ : ∃ z, f = z + 1 := ⟨f - 1, by omega⟩
      have el : l = 8 := by omega
      subst el
      have hn : ∀ i, i < 8 → r1.2.1 2 i = 0 := fun i hi => by
        have c1 := (R1.2.2.2.1 i hi).1
        rcases c1.2.1.2.1 with z | z
        · exact z
        · have := c1.2.1.2.2 z
          rw [NO.pos hi (by omega)] at this
          exact absurd this (by decide)
      obtain ⟨g', rfl⟩ : ∃ z, g = (z + 1) + 8 := ⟨g - 9, by omega⟩
      refine set_wm (a := 8) (g := g' + 1) (Nat.le_refl _) hn ?_ 8 0 (by omega)
      show Sim (C_X11_settle_B2 x _ _ _ (nn 8)) h1 (R_settle_B2 _ _ (nn 8)) r1 _
      unfold C_X11_settle_B2 R_settle_B2 C_X11_settle_J67 R_settle_J42
      rw [sl_pos (by decide), sr_pos (by decide)]
      exact Sim.ret ⟨R1, G1, hn, P1⟩
    | succ c ih =>
      intro l f g h1 r1 hl hN hf hg R1 G1 P1
      obtain ⟨f', rfl⟩ : ∃ z, f = z + 1 := ⟨f - 1, by omega⟩
      obtain ⟨a, a1, a2, a3⟩ := first_or 8 (fun i => r1.2.1 2 i ≠ 0)
      have hn : ∀ i, i < a → r1.2.1 2 i = 0 := fun i hi => Classical.not_not.mp (a2 i hi)
      have T1 := R1.st
      show Sim (C_X11_settle_B2 x _ _ _ (nn l)) h1 _ r1 _
      unfold C_X11_settle_B2
      rw [sl_neg (by rw [show (8 : Int32) = nn 8 from rfl, nn_le (by omega) (by omega)]; omega)]
      obtain ⟨f2, hf2⟩ : ∃ z, fu = (z + 2) + a := ⟨4998 - a, by unfold fu; omega⟩
      rw [hf2]
      refine set_wc R1 a1 hn ?_ a 0 (by omega)
      obtain ⟨g', rfl⟩ : ∃ z, g = (z + 1) + a := ⟨g - 1 - a, by omega⟩
      refine set_wm (a := a) (g := g' + 1) a1 hn ?_ a 0 (by omega)
      show Sim (C_X11_settle_B12 x _ _ (nn l) none (nn a)) h1 (R_settle_B2 _ _ (nn a)) r1 _
      unfold C_X11_settle_B12 R_settle_B2
      by_cases ga : a = 8
      · subst ga
        rw [sl_pos (by decide), sr_pos (by decide)]
        unfold C_X11_settle_J51 C_X11_settle_J55 R_settle_J42
        rw [sl_pos rfl]
        exact Sim.ret ⟨R1, G1, hn, P1⟩
      · have ha8 : a < 8 := by omega
        have c1 := (R1.2.2.2.1 a ha8).1
        have e2 : r1.2.1 2 a = 1 := by
          rcases c1.2.1.2.1 with z | z
          · exact absurd z (a3 ha8)
          · exact z
        have e1 : r1.2.1 1 a = 1 := c1.2.1.2.2 e2
        have e0 : hfr h1 (100 * 13 + 0) x = some (x + 1) := T1.2.1.2.1
        obtain ⟨t1, t2, _⟩ := T1.2.2.2.2.2.2 a ha8
        have e5 : hfi h1 (100 * 2 + 5) (cA x a) = 1 := c1.2.1.1.trans e2
        rw [sl_neg (by rw [show (8 : Int32) = nn 8 from rfl, nn_le (by omega) (by omega)]; omega), sl_pos rfl, sl_gR T1.2.1.1, e0, sl_Ar T1.2.2.1.1 (by rw [T1.2.2.1.2.1]; exact ha8) (by omega), t1, sl_gI t2, e5, sl_neg (by decide), sl_gR T1.2.1.1, e0, sl_Ar T1.2.2.1.1 (by rw [T1.2.2.1.2.1]; exact ha8) (by omega), t1, sr_neg (by rw [show (8 : Int32) = nn 8 from rfl, nn_le (by omega) (by omega)]; omega), sr_r1 ha8, e1, sr_neg (by decide), sr_r2 ha8, e2, sr_neg (by decide)]
        unfold C_X11_settle_J44
        have e51 : ∀ {β : Type} {M : RS → Option (β × RS)} {Φ : Unit → Hp → β → RS → Prop} {ke : Int32 → Option Nat → Hp → Option (Unit × Hp)} {l1 l3 : Int32} {n : Nat}, Sim (ke l1 (some (cA x a))) h1 M r1 Φ → Sim (C_X11_settle_L12 x ke (n + 1) l1 (some (cA x a)) l3) h1 M r1 Φ := by
          intro β M Φ ke l1 l3 n hS
          show Sim (C_X11_settle_B12 x _ ke l1 (some (cA x a)) l3) h1 M r1 Φ
          unfold C_X11_settle_B12
          by_cases g8 : (8 : Int32) ≤ l3
          · rw [sl_pos g8]
            exact hS
          · rw [sl_neg g8, sl_neg (by simp)]
            exact hS
        refine e51 ?_
        unfold C_X11_settle_J51
        rw [sl_neg (by simp), sl_Cv T1.2.1.1]
        refine Sim.seq (sim_lost (ec' := ec) R1 ha8 (fun _ _ _ z => z)) (fun _ h2 _ r2 z => ?_)
        obtain ⟨y1, y2, y3, y4, y5⟩ := z
        rw [l_1, nn_add]
        refine ih (l + 1) f' g' h2 r2 (by omega) ?_ (by omega) (by omega) y1 (G1.tr y2) (P1.tr y5)
        have := NO.lt (r := r1) (r' := r2) ha8 (by
          unfold opn
          rw [y4, e1, if_pos rfl, if_neg (by decide)]
          omega) (fun i' h8 hne => by
          unfold opn
          rw [(y3 i' h8 hne).1])
        omega
  exact key 8 0 fu fu h r (by omega) (NO.le8 r) (by unfold fu; omega) (by unfold fu; omega) R GL.rf Pd.rf
end SET
