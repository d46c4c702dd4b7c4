section RCX
variable {x ec es s b k u n st : Nat} {e0 : Int32} {h : Hp} {r : RS} {bs : List Nat} {fr : Option Nat}
theorem SubT.mb (R : Rel x ec es 96 e0 h r) (hs : s < 12) (hb : har h (x + 34) s = some b) (hn : r.2.1 24 s = nn n) (hn2 : n ≤ 8) (hk : k < n) (hu : har h (b + 1) k = some u) (S : SubT x h u bs st) : MB r (8 * s + k) bs ∧ hfi h 1105 u = hfi h 1105 u ∧ (0 < st → hfi h 1105 u = r.2.1 30 (8 * s + k)) := by
  obtain ⟨u', u1, bs', st', o, id, d1, d2, d3, d4, d5, d6⟩ := (R.ses hs hb).2.2.2.2.1.get hn hn2 hk
  rw [hu] at u1
  cases u1
  have e := d1.inj S
  subst e
  have e2 : st' = st := by
    have a1 := d1.2.2.1
    have a2 := S.2.2.1
    rw [a1] at a2
    cases a2
    rfl
  have f := fstart_lt d1.2.2.1
  have hby : By bs' := by
    obtain ⟨_, ⟨t, _, c5⟩, _⟩ := d1
    exact c5.2.2.1
  refine ⟨⟨d2.1, d2.2, hby, f.2.1⟩, rfl, fun hp => ?_⟩
  rw [← e2] at hp
  exact d6 hp (by omega)
theorem sim_recv (R : Rel x ec es 96 e0 h r) (hs : s < 12) (hb : har h (x + 34) s = some b) (hn : r.2.1 24 s = nn n) (hn2 : n ≤ 8) (hk : k < n) (hu : har h (b + 1) k = some u) (S : SubT x h u bs st) (hst : 0 < st) :
    (C_X11_receiver x (some b) (some u) fr h = some (none, h) ∧ R_isFirst (nn (8 * s + k)) r = some (0, r)) ∨
    ∃ i' k' b2, i' < 12 ∧ k' < 8 ∧ har h (x + 34) i' = some b2 ∧ Pl x h r bs i' k' ∧ C_X11_receiver x (some b) (some u) fr h = some (some b2, h) ∧ R_isFirst (nn (8 * s + k)) r = some (1, r) ∧ R_chosen (nn (8 * s + k)) r = some (nn (8 * i' + k'), r) := by
  have Sb := R.ses hs hb
  have hl := (fstart_lt S.2.2.1).2.1
  obtain ⟨hM, _, hlast⟩ := SubT.mb R hs hb hn hn2 hk hu S
  have hw : 8 * s + k < 96 := by omega
  have qf := qm_isFirst R hw hM
  have hpl : Pl x h r bs s k := ⟨b, n, u, st, hb, hn, hn2, hk, hu, S⟩
  obtain ⟨t1, t2, t3, t4⟩ := R.st.tab
  obtain ⟨⟨ku, _, _⟩, ⟨t, c4, c5⟩, c6, c7⟩ := S
  have c4' : hfr h (100 * 11 + 0) u = some t := c4
  have nmb : hfi h (100 * 10 + 0) b = nn s := Sb.1.2.2.2.1
  have eq1 : (∃ y, y < 8 * s + k ∧ Pl x h r bs (y / 8) (y % 8)) ↔ ∃ i, i < s ∧ ∃ k', k' < 8 ∧ Pl x h r bs i k' := by
    constructor
    · rintro ⟨y, y1, y2⟩
      by_cases g : y / 8 = s
      · exfalso
        rw [g] at y2
        have := Pl.uq R hs y2 hpl
        omega
      · exact ⟨y / 8, by omega, y % 8, by omega, y2⟩
    · rintro ⟨i, i1, k', k1, k2⟩
      refine ⟨8 * i + k', by omega, ?_⟩
      rw [show (8 * i + k') / 8 = i by omega, show (8 * i + k') % 8 = k' by omega]
      exact k2
  -- class: up to the sessions before
  have cl : ∀ Q : Option Nat → Hp → Prop, ((∃ i, i < s ∧ ∃ k', k' < 8 ∧ Pl x h r bs i k') → Q none h) → ((¬ ∃ i, i < s ∧ ∃ k', k' < 8 ∧ Pl x h r bs i k') → wp (C_X11_receiver_J75 x (some b) (some u)) h Q) → wp (C_X11_receiver x (some b) (some u) fr) h Q := by
    intro Q ka kb
    unfold C_X11_receiver
    rw [wp_Cv ku]
    have es1 : C_X9_isShared u h = some (1, h) := by
      unfold C_X9_isShared
      have c7' : hfi h (100 * 11 + 1) u = nn st := c7
      have := (fstart_lt c6).1
      rw [e_gI (c := 11) ku, c7', if_neg (by rw [show (0 : Int32) = nn 0 from rfl, nn_le (by omega) (by omega)]; omega)]
      rfl
    refine wp.get es1 ?_
    rw [wp_neg (by decide)]
    refine up_loop (L := fun f i => C_X11_receiver_L30 x (C_X11_receiver_J67 x) (fun l1 l2 => C_X11_receiver_J75 x l1 l2) f (some b) (some u) i) (fun i h' => h' = h ∧ ∀ i', i' < i → ∀ k', ¬ Pl x h r bs i' k') s ?_ ?_ s 0 fu h (by omega) (by unfold fu; omega) ⟨rfl, fun k hk => by omega⟩
    · rintro f i h' hi ⟨rfl, hz⟩ kk
      have e1 : nn i + 1 = nn (i + 1) := nn_add
      show wp (C_X11_receiver_B30 x _ _ _ (some b) (some u) (nn i)) h' Q
      unfold C_X11_receiver_B30
      rw [wp_gI Sb.1.1, nmb, wp_neg (by rw [nn_le (by omega) (by omega)]; omega), wp_gR t1, t2, wn_Ar t3 (by rw [t4]; omega) (by omega), e1]
      have next : (∀ k', ¬ Pl x h' r bs i k') → wp (C_X11_receiver_L30 x (C_X11_receiver_J67 x) (fun l1 l2 => C_X11_receiver_J75 x l1 l2) f (some b) (some u) (nn (i + 1))) h' Q := fun hno => kk h' ⟨rfl, fun i' hi' => by
        by_cases e : i' = i
        · rw [e]; exact hno
        · exact hz i' (by omega)⟩
      cases hbi : har h' (x + 34) i with
      | none =>
        rw [wp_pos rfl]
        refine next (fun k' hp => ?_)
        obtain ⟨b2, n2, u2, st2, d1, _⟩ := hp
        rw [hbi] at d1
        cases d1
      | some bi =>
        obtain ⟨v, q1, q2⟩ := qc_idx R (show i < 12 by omega) hbi c5 hl
        rw [wp_neg (fun z => by cases z), wp_gR t1, t2, wn_Ar t3 (by rw [t4]; omega) (by omega), hbi, wp_gR ku, c4', wp_Cv (R.ses (show i < 12 by omega) hbi).1.1]
        refine wp.get q1 ?_
        rcases q2 with ⟨k', hk8, ev, hpk⟩ | ⟨ev, hno⟩
        · rw [ev, wp_neg (nn_neg (by omega))]
          unfold C_X11_receiver_J67
          rw [wp_rt]
          exact ka ⟨i, hi, k', hk8, hpk⟩
        · rw [ev, wp_pos rfl]
          exact next hno
    · rintro f h' ⟨rfl, hz⟩
      show wp (C_X11_receiver_B30 x _ _ _ (some b) (some u) (nn s)) h' Q
      unfold C_X11_receiver_B30
      rw [wp_gI Sb.1.1, nmb, wp_pos (by rw [nn_le (by omega) (by omega)]; omega)]
      exact kb (fun ⟨i, i1, k', _, k2⟩ => hz i i1 k' k2)
  by_cases hE : ∃ i, i < s ∧ ∃ k', k' < 8 ∧ Pl x h r bs i k'
  · left
    refine ⟨?_, by rw [qf, if_pos (eq1.mpr hE)]⟩
    obtain ⟨v, h', e1, e2, e3⟩ := cl (fun v h' => h' = h ∧ v = none) (fun _ => ⟨rfl, rfl⟩) (fun z => absurd hE z)
    rw [e1, e2, e3]
  · right
    have e8 : (8 * s + k) / 8 = s := by omega
    have e8m : (8 * s + k) % 8 = k := by omega
    obtain ⟨i', k', b2, a1, a2, a3, a4, a5, a6⟩ := sim_choose (u := u) R hw hM hl ⟨st, c6, hst⟩ ku c4 c5 (11 - s) (s + 1) (8 * s + k) fu (fu - 1 - (7 - k)) b (by omega) (by unfold fu; omega) (by unfold fu; omega) hw (by rw [e8, e8m]; exact hpl) (by rw [e8]; exact hb)
    refine ⟨i', k', b2, a1, a2, a3, a4, ?_, by rw [qf, if_neg (fun z => hE (eq1.mp z))], ?_⟩
    · obtain ⟨v, h', e1, e2, e3⟩ := cl (fun v h' => h' = h ∧ v = some b2) (fun z => absurd z hE) (fun _ => by
        unfold C_X11_receiver_J75
        have c15 : hfi h (100 * 11 + 5) u = r.2.1 30 (8 * s + k) := hlast hst
        rw [wp_gI ku, c15, wp_gI Sb.1.1, nmb, l_1, nn_add, wp_lq]
        exact a5)
      rw [e1, e2, e3]
    · have em : wp (R_chosen (nn (8 * s + k))) r (fun v r' => r' = r ∧ v = nn (8 * i' + k')) := by
        unfold R_chosen
        obtain ⟨f1, hf1⟩ : ∃ z, fu = z + 1 := ⟨4999, rfl⟩
        rw [hf1] at a6 ⊢
        show wp (R_chosen_B4 _ _ (nn (8 * s + k)) (-1) (nn (8 * s + k))) r _
        unfold R_chosen_B4
        have c96 : (96 : Int32) = nn 96 := rfl
        have e1 : nn (8 * s + k) + 1 = nn (8 * s + k + 1) := nn_add
        rw [c96, wp_neg (by rw [nn_le (by omega) (by omega)]; omega), mod8 (by omega), l_8, nn_div (by omega) (by omega), wp_lq, e8, e8m]
        refine qm_chk R hw hM hs (by omega) (fun z => absurd hpl z) (fun _ => ?_)
        rw [wr_15 hs]
        have J67 : ∀ a : Int32, wp (R_chosen_J67 (fun l1 l2 l3 => R_chosen_L4 (fun l2 => R_chosen_J136 l2) f1 l1 l2 l3) (fun l2 => R_chosen_J136 l2) (nn (8 * s + k)) (-1) (nn (8 * s + k)) a) r (fun v r' => r' = r ∧ v = nn (8 * i' + k')) := by
          intro a
          unfold R_chosen_J67
          rw [wp_pos (by decide)]
          unfold R_chosen_J89 R_chosen_J90
          rw [wp_pos (by decide)]
          unfold R_chosen_J128
          dsimp only
          rw [e1]
          refine qm_ch_skip R hw hM hs hw (7 - k) (k + 1) f1 (by omega) (by have : f1 + 1 = 5000 := hf1.symm; omega) (fun k2 h1 h2 hp2 => ?_) (fun f' ef => ?_)
          · have := Pl.uq R hs hp2 hpl
            omega
          · rw [show f1 + 1 - 1 - (7 - k) = f' by omega] at a6
            exact a6
        by_cases g : r.2.1 15 s < 0
        · rw [wp_pos g]
          exact J67 0
        · rw [wp_neg g]
          exact J67 1
      obtain ⟨v, r', e1, e2, e3⟩ := em
      rw [e1, e2, e3]
end RCX
