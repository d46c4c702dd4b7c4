/-! ===== a message is given to a subscription, by both ===== -/
section GIV
variable {x ec es ew s b n m j fl id : Nat} {e0 : Int32} {h : Hp} {r : RS}
/-- quality 0: sent at once, kept nowhere -/
theorem sim_pass0 (R : Rel x ec es ew e0 h r) (hs : s < 12) (hb : har h (x + 34) s = some b) (hn : r.2.1 31 s = nn n) (hn16 : n ≤ 16) {i : Nat} (hi : i < 8) (c1 : hfr h 1002 b = some (cA x i)) (c2 : r.2.1 15 s = nn i) (c3 : r.2.1 7 i = nn s)
    (hp : hkd h (x + 49) = 4 ∧ hfr h 300 (x + 49) = some m ∧ hfi h 301 (x + 49) = nn 0 ∧ hfi h 302 (x + 49) = nn fl ∧ hfi h 303 (x + 49) = nn id) (hM : MpT x h r m j) (hj : j < 640) (hrt : fl ≤ 1) (hid : id < 268435456) :
    ∃ h' v r', C_X11_deliver x (some b) (some (x + 49)) 0 h = some ((), h') ∧ R_sendPublish (nn s) (nn j) 0 (nn fl) (nn id) 0 0 r = some (v, r') ∧ Rel x ec es ew e0 h' r' ∧ GF x h h' r r' ∧ hcs h' = hcs h ∧ hnx h' = hnx h := by
  have S0 := R.ses hs hb
  have T0 := S0.1
  have V0 := S0.2.2.1
  have Y0 := S0.2.2.2.2.2.1
  have T := R.st
  have hx := T.1
  have hb2 := T0.2.1
  have hb4 := T0.2.2.1
  obtain ⟨f0, bs0, W1⟩ := R.wr
  obtain ⟨V, v1, v2, v3⟩ := hM.1
  have D1 : DlC x h (x + 49) m 0 fl id 0 := ⟨hp.1, hp.2.1, hp.2.2.1, hp.2.2.2.1, hp.2.2.2.2, fun z => absurd rfl z, by omega⟩
  have et : hfi h 1309 x = r.1 66 := R.2.1.2.1
  have ec' : hfi h 508 m = r.2.1 51 j := hM.2.1
  have ho := R.onl hs hi c3
  have y6 : hfi h 1006 b = nn n := by
    obtain ⟨n', a1, a2, a3, a4, a5⟩ := Y0
    rw [a2, ← a3]; exact hn
  have key : wp (C_X11_deliver x (some b) (some (x + 49)) (nn 0)) h (fun _ h' => wp (R_sendPublish (nn s) (nn j) (nn 0) (nn fl) (nn id) (nn 0) (nn 0)) r (fun _ r' => Rel x ec es ew e0 h' r' ∧ GF x h h' r r' ∧ hcs h' = hcs h ∧ hnx h' = hnx h)) := by
    have hB := pubB_len v3 0 0 id (lft V.2.2.2.2.2.2.2 (r.1 66) (r.2.1 51 j))
    have hwd := wd_le (pubB V 0 0 id (lft V.2.2.2.2.2.2.2 (r.1 66) (r.2.1 51 j))).length
    have hvb := wd_vb (k := (pubB V 0 0 id (lft V.2.2.2.2.2.2.2 (r.1 66) (r.2.1 51 j))).length) (by omega)
    refine qc_deliver (ag := 0) T f0 bs0 W1 T0 D1 v1 v3 hid (by omega) (by omega) hrt (by omega) (fun h2 z1 z2 z3 => ?_) (fun h2 z2 z1 z3 z4 => ?_)
    · rw [et, ec'] at z3 z1
      have fit := (V0.fit (by omega)).mp z3
      refine Sim.toLeft (Sim.right ?_)
      refine qm_pub (ag := 0) (q := 0) hj v2 v3 hid (by omega) (by omega) hrt (by omega) (fun r2 y1 y2 => ?_)
      have e89 : r2.1 89 = nn (1 + wd (pubB V 0 0 id (lft V.2.2.2.2.2.2.2 (r.1 66) (r.2.1 51 j))).length + (pubB V 0 0 id (lft V.2.2.2.2.2.2.2 (r.1 66) (r.2.1 51 j))).length) := by
        rw [y1.1, List.length_cons, List.length_append, hvb.1]
        congr 1
        omega
      refine pubT_ev hs e89 (by omega) (fun _ => ?_) (fun z => ?_)
      · rw [wr_15 hs, y2.gA (by decide), c2, wp_bd]
        obtain ⟨u, h3, u', r3, g1, g2, g3, g4, g5⟩ := sim_mk R hi ho z2 z1 y2 y1 (by omega)
        refine wp.get g2 ?_
        rw [wp_zt]
        refine ⟨Or.inr rfl, ?_⟩
        have W2 := z2
        obtain ⟨x1, x2, x3, x4, x5, x6, x7, x8, x9, x10⟩ := z2
        have kb : hkd h2 b = 11 := by rw [x2]; exact T0.1
        have c1' : hfr h2 1002 b = some (cA x i) := by rw [x5]; exact c1
        obtain ⟨k1, k2', k3, k4⟩ := wref T W2
        unfold C_X11_deliver_J58
        rw [wp_gR kb]
        show wp (if hfr h2 1002 b = none then _ else _) h2 _
        rw [c1', wp_neg (fun z => by cases z), wp_gR kb]
        show wp (hgR 13 5 (some x) fun v3 => hCv 2 (hfr h2 1002 b) (fun a => C_X0_put a v3) fun _ => rt ()) h2 _
        rw [c1', wp_gR k1, k2', wp_Cv (k4 i hi)]
        refine wp.get g1 ?_
        rw [wp_rt]
        exact ⟨g3, g4.gf g5, g4.1.2.2.2.2.2.2.2, g4.1.1⟩
      · exfalso
        rw [y2.gL (by decide)] at z
        exact z fit
    · rw [et, ec'] at z4
      have nfit : ¬ n6 (1 + wd (pubB V 0 0 id (lft V.2.2.2.2.2.2.2 (r.1 66) (r.2.1 51 j))).length + (pubB V 0 0 id (lft V.2.2.2.2.2.2.2 (r.1 66) (r.2.1 51 j))).length) ≤ r.2.2 18 s := fun z => by
        rcases (V0.fit (by omega)).mpr z with q1 | q1
        · exact z3 q1
        · exact z4 q1
      have W2 := z2
      obtain ⟨x1, x2, x3, x4, x5, x6, x7, x8, x9, x10⟩ := z2
      have sS : SesT x (sfi h2 1312 x (hfi h 1312 x + 1)) s b := (T0.sto W2.sc.1).sto (Sto.rf.fi (Or.inl (by decide)))
      have e6 : hfi (sfi h2 1312 x (hfi h 1312 x + 1)) 1006 b = nn n := by
        rw [hfi_sfi, if_neg (by omega), x9 1006 b (fun e => by omega)]
        exact y6
      refine (qc_arrive (n := n) (k0 := n) sS e6 hn16 (fun k hk => ?_) (by omega) (fun z => by omega) (fun k hk hne => ?_)).mono (fun _ h4 q4 => ?_)
      · obtain ⟨e, q1, q2, _⟩ := Y0.num hn hn16 hk
        refine ⟨e, ?_, ?_⟩
        · rw [har_sfi, x7]; exact q1
        · rw [hkd_sfi, x2]; exact q2
      · rw [har_sfi, x7]
        obtain ⟨n', a1, a2, a3, a4, a5⟩ := Y0
        have en : n' = n := nn_inj (by omega) (by omega) (a3.symm.trans hn)
        subst en
        obtain ⟨e, q1, q2⟩ := a4 k hk
        obtain ⟨_, _, _, _, _, _, q3, _⟩ := q2
        rw [q1]
        intro z
        cases z
        have := q3.2.1
        omega
      · have eF : arF (har (sfi h2 1312 x (hfi h 1312 x + 1)) (b + 2)) n n = har (sfi h2 1312 x (hfi h 1312 x + 1)) (b + 2) := by
          funext o
          unfold arF
          rw [if_neg (by omega)]
        rw [if_neg (by omega), eF, sar_self] at q4
        have q5 : h4 = sfi h2 1312 x (hfi h 1312 x + 1) := by
          rw [q4, ← e6]
          exact sfi_self
        refine qm_pub (ag := 0) (q := 0) hj v2 v3 hid (by omega) (by omega) hrt (by omega) (fun r2 y1 y2 => ?_)
        have e89 : r2.1 89 = nn (1 + wd (pubB V 0 0 id (lft V.2.2.2.2.2.2.2 (r.1 66) (r.2.1 51 j))).length + (pubB V 0 0 id (lft V.2.2.2.2.2.2.2 (r.1 66) (r.2.1 51 j))).length) := by
          rw [y1.1, List.length_cons, List.length_append, hvb.1]
          congr 1
          omega
        refine pubT_ev hs e89 (by omega) (fun z => ?_) (fun _ => ?_)
        · exfalso
          rw [y2.gL (by decide)] at z
          exact nfit z
        · have R2 : Rel x ec es ew e0 h2 r2 := R.scr W2.sc (y2.sub (by decide)) z1
          have R3 := R2.drop
          have e12 : hfi h2 1312 x = hfi h 1312 x := x9 1312 x (fun e => by omega)
          rw [e12] at R3
          rw [q5]
          refine ⟨R3, ⟨Fm.fi (W2.oo.fm.sub (by decide) (fun a ha => ha.elim Or.inl (fun z => Or.inr (Or.inl z)))) (Or.inl (by decide)) (Or.inl (by decide)), ((y2.sub (by decide)).i (by decide)), ?_⟩, ?_, x1⟩
          · rw [har_sfi, x7]
          · show hcs h2 = _
            rw [x8]
  obtain ⟨v, h', k1, v', r', k2, k3, k4, k5, k6⟩ := key
  exact ⟨h', v', r', k1, k2, k3, k4, k5, k6⟩
end GIV
theorem and3 {k : Nat} (hk : k < 2147483648) : nn k &&& (3 : Int32) = nn (k % 4) := by
  apply Int32.toBitVec.inj
  apply BitVec.eq_of_toNat_eq
  have e1 : (nn k &&& (3 : Int32)).toBitVec.toNat = (k % 2 ^ 32) &&& 3 := rfl
  have e2 : (k % 2 ^ 32) &&& 3 = (k % 2 ^ 32) % 4 := Nat.and_two_pow_sub_one_eq_mod _ 2
  have e3 : (nn (k % 4)).toBitVec.toNat = (k % 4) % 2 ^ 32 := rfl
  rw [e1, e2, e3]
  omega
theorem imin_nn {a b : Nat} (ha : a < 2147483648) (hb : b < 2147483648) : imin (nn a) (nn b) = nn (min a b) := by
  unfold imin
  by_cases h : nn b < nn a
  · rw [if_pos h]
    rw [nn_lt hb ha] at h
    rw [Nat.min_eq_right (by omega)]
  · rw [if_neg h]
    rw [nn_lt hb ha] at h
    rw [Nat.min_eq_left (by omega)]
/-- a new delivery, as it becomes -/
def ndl (h : Hp) (m q fl id : Nat) : Hp := sfi (sfi (sfi (sfr (hob h 3 6) 300 (hnx h) (some m)) 301 (hnx h) (nn q)) 302 (hnx h) (nn fl)) 303 (hnx h) (nn id)
section NDL
variable {x ec es ew s b n m j q fl id : Nat} {e0 : Int32} {h : Hp} {r : RS}
theorem ndl.fm : Fm x [] (fun _ => False) h (ndl h m q fl id) := by
  unfold ndl
  refine Fm.fi (Fm.fi (Fm.fi (Fm.fr (Fm.ob Fm.rf) ?_ ?_) ?_ ?_) ?_ ?_) ?_ ?_
  all_goals exact Or.inr (Nat.le_refl _)
theorem ndl.rd : hkd (ndl h m q fl id) (hnx h) = 4 ∧ hfr (ndl h m q fl id) 300 (hnx h) = some m ∧ hfi (ndl h m q fl id) 301 (hnx h) = nn q ∧ hfi (ndl h m q fl id) 302 (hnx h) = nn fl ∧ hfi (ndl h m q fl id) 303 (hnx h) = nn id ∧ hfi (ndl h m q fl id) 305 (hnx h) = 0 ∧ hnx (ndl h m q fl id) = hnx h + 1 ∧ har (ndl h m q fl id) = har h ∧ (hcs (ndl h m q fl id)).1 = (hcs h).1 + 1 ∧ (hcs (ndl h m q fl id)).2 = (hcs h).2 + 6 := by
  unfold ndl
  simp only [hnx_sfi, hkd_sfi, hln_sfi, hfi_sfi, hfl_sfi, hfr_sfi, hai_sfi, hal_sfi, har_sfi, hcs_sfi, hnx_sfl, hkd_sfl, hln_sfl, hfi_sfl, hfl_sfl, hfr_sfl, hai_sfl, hal_sfl, har_sfl, hcs_sfl, hnx_sfr, hkd_sfr, hln_sfr, hfi_sfr, hfl_sfr, hfr_sfr, hai_sfr, hal_sfr, har_sfr, hcs_sfr, hnx_sai, hkd_sai, hln_sai, hfi_sai, hfl_sai, hfr_sai, hai_sai, hal_sai, har_sai, hcs_sai, hnx_sal, hkd_sal, hln_sal, hfi_sal, hfl_sal, hfr_sal, hai_sal, hal_sal, har_sal, hcs_sal, hnx_sar, hkd_sar, hln_sar, hfi_sar, hfl_sar, hfr_sar, hai_sar, hal_sar, har_sar, hcs_sar, hnx_hob, hkd_hob, hln_hob, hfi_hob, hfl_hob, hfr_hob, hai_hob, hal_hob, har_hob, hc1_hob, hc2_hob, hnx_hay, hkd_hay, hln_hay, hfi_hay, hfl_hay, hfr_hay, hai_hay, hal_hay, har_hay, hc1_hay, hc2_hay, hnx_hsk, hkd_hsk, hln_hsk, hfi_hsk, hfl_hsk, hfr_hsk, hai_hsk, hal_hsk, har_hsk, hc1_hsk, hc2_hsk]
  simp
theorem Rel.newd (R : Rel x ec es ew e0 h r) : Rel x ec es ew e0 (ndl h m q fl id) r := by
  refine R.scr (ndl.fm.sub (fun f hf => by cases hf) (fun a ha => ha.elim)) Ro.rf ?_
  obtain ⟨f0, bs0, ⟨a1, a2, a3, a4⟩, a5, a6, a7, a8, a9⟩ := R.wr
  have hx := R.st.1
  have p := ndl.fm (x := x) (h := h) (m := m) (q := q) (fl := fl) (id := id)
  refine ⟨f0, bs0, ⟨?_, ?_, ?_, ?_⟩, ?_, ?_, ?_, a8, a9⟩
  · rw [(p.1.2.1 _ (by omega)).1]; exact a1
  · rw [p.gr (by simp) (by omega)]; exact a2
  · rw [(p.1.2.1 _ (by omega)).1]; exact a3
  · rw [(p.1.2.1 _ (by omega)).2]; exact a4
  · rw [p.gi (by simp) (by omega)]; exact a5
  · rw [p.gi (by simp) (by omega)]; exact a6
  · rw [(p.2.2 _ (by omega) (fun z => z)).1]; exact a7
/-- it is in no place -/
theorem Rel.fresh (R : Rel x ec es ew e0 h r) : ∀ s' b' k', s' < 12 → har (ndl h m q fl id) (x + 34) s' = some b' → k' < 40 → act r s' k' → dl (ndl h m q fl id) b' k' ≠ some (hnx h) := by
  intro s' b' k' h1 h2 h3 h4 h5
  have e : har (ndl h m q fl id) = har h := (ndl.rd (h := h) (m := m) (q := q) (fl := fl) (id := id)).2.2.2.2.2.2.2.1
  unfold dl at h5
  rw [e] at h2 h5
  have := act.lt (R.ses h1 h2) h4 h3 (d := hnx h) (by unfold dl; exact h5)
  omega
end NDL
