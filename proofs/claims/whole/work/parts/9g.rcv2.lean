/-! ===== who gets what a shared subscription matches: both ===== -/
section RCW
variable {x ec es s b k u n st : Nat} {e0 : Int32} {h : Hp} {r : RS} {bs : List Nat}
/-- what the class finds at session i -/
theorem qc_idx (R : Rel x ec es 96 e0 h r) {i b' t : Nat} (hi : i < 12) (hb' : har h (x + 34) i = some b') (ht : Rw x h t bs) (hl : bs.length ≤ 64) : ∃ v, C_X8_indexOf b' (some t) h = some (v, h) ∧ ((∃ k, k < 8 ∧ v = nn k ∧ Pl x h r bs i k) ∨ (v = -1 ∧ ∀ k, ¬ Pl x h r bs i k)) := by
  have S := R.ses hi hb'
  obtain ⟨n, d1, d2, d3, d4, d5⟩ := S.2.2.2.2.1
  obtain ⟨v, e1, e2⟩ := qc_indexOf S.1 S.2.2.2.2.1 d3 d1 ht (by omega)
  refine ⟨v, e1, ?_⟩
  rcases e2 with ⟨k, u, st, a1, a2, a3, a4⟩ | ⟨a1, a2⟩
  · exact Or.inl ⟨k, by omega, a2, b', n, u, st, hb', d3, d1, a1, a3, a4⟩
  · refine Or.inr ⟨a1, fun k ⟨b2, n2, u2, st2, c1, c2, c3, c4, c5, c6⟩ => ?_⟩
    rw [hb'] at c1
    cases c1
    have e : n = n2 := nn_inj (by omega) (by omega) (d3.symm.trans c2)
    exact a2 k u2 st2 (by omega) c5 c6
theorem Stat.tab (T : Stat x h) : hkd h x = 13 + 1 ∧ hfr h (100 * 13 + 1) x = some (x + 34) ∧ hkd h (x + 34) = 101 + 5 ∧ hln h (x + 34) = 12 := ⟨T.2.1.1, T.2.1.2.2.1, T.2.2.1.2.2.1, T.2.2.1.2.2.2.1⟩
theorem off_iff {i b' : Nat} (V : SesV x h r i b') : hfr h 1002 b' = none ↔ r.2.1 15 i < 0 := by
  rcases V.2.2.2.2 with ⟨c1, c2⟩ | ⟨j, hj, c1, c2, c3⟩
  · rw [c1, c2]
    exact ⟨fun _ => by decide, fun _ => rfl⟩
  · rw [c1, c2]
    exact ⟨fun z => (by cases z), fun z => absurd z (nn_nlt0 (by omega))⟩
/-- a place of a shared subscription: its last is its turn -/
theorem Pl.last (R : Rel x ec es 96 e0 h r) {i k' : Nat} (hi : i < 12) (p : Pl x h r bs i k') (hst : ∃ st, fstart bs = some st ∧ 0 < st) : ∃ b' u', har h (x + 34) i = some b' ∧ har h (b' + 1) k' = some u' ∧ hkd h u' = 12 ∧ hfi h 1105 u' = r.2.1 30 (8 * i + k') ∧ k' < 8 := by
  obtain ⟨b', n, u', st, a1, a2, a3, a4, a5, a6⟩ := p
  obtain ⟨u2, g1, bs2, st2, o, id, g2, g3, g4, g5, g6, g7⟩ := (R.ses hi a1).2.2.2.2.1.get a2 a3 a4
  rw [a5] at g1
  cases g1
  have e := a6.inj g2
  subst e
  obtain ⟨s0, s1, s2⟩ := hst
  have es' : st2 = s0 := by
    have := g2.2.2.1
    rw [s1] at this
    cases this
    rfl
  exact ⟨b', u', a1, a5, a6.1.1, g7 (by omega) (by omega), by omega⟩
theorem sim_choose (R : Rel x ec es 96 e0 h r) {w : Nat} (hw : w < 96) (hM : MB r w bs) (hl : bs.length ≤ 64) (hst : ∃ st, fstart bs = some st ∧ 0 < st) {t : Nat} (ku : hkd h u = 12) (c4 : hfr h 1100 u = some t) (c5 : Rw x h t bs) : ∀ (m i p f g b' : Nat), i + m = 12 → m < f → 8 * m < g → p < 96 → Pl x h r bs (p / 8) (p % 8) → har h (x + 34) (p / 8) = some b' →
    ∃ i' k' b2, i' < 12 ∧ k' < 8 ∧ har h (x + 34) i' = some b2 ∧ Pl x h r bs i' k' ∧ wp (C_X11_receiver_L92 x (fun l4 => C_X11_receiver_J216 x l4) f (some u) (some b') (r.2.1 30 p) (nn i)) h (fun v h' => h' = h ∧ v = some b2) ∧ wp (R_chosen_L4 (fun l2 => R_chosen_J136 l2) g (nn w) (nn p) (nn (8 * i))) r (fun v r' => r' = r ∧ v = nn (8 * i' + k')) := by
  have c4' : hfr h (100 * 11 + 0) u = some t := c4
  obtain ⟨t1, t2, t3, t4⟩ := R.st.tab
  intro m
  induction m with
  | zero =>
    intro i p f g b' hi hf hg hp hpl hb'
    obtain ⟨f', rfl⟩ : ∃ z, f = z + 1 := ⟨f - 1, by omega⟩
    obtain ⟨g', rfl⟩ : ∃ z, g = z + 1 := ⟨g - 1, by omega⟩
    refine ⟨p / 8, p % 8, b', by omega, by omega, hb', hpl, ?_, ?_⟩
    · show wp (C_X11_receiver_B92 x _ _ (some u) (some b') _ (nn i)) h _
      unfold C_X11_receiver_B92
      rw [l_12, wp_pos (by rw [nn_le (by omega) (by omega)]; omega)]
      unfold C_X11_receiver_J216
      dsimp only
      rw [wp_rt]
      exact ⟨rfl, rfl⟩
    · show wp (R_chosen_B4 _ _ (nn w) (nn p) (nn (8 * i))) r _
      unfold R_chosen_B4
      have c96 : (96 : Int32) = nn 96 := rfl
      rw [c96, wp_pos (by rw [nn_le (by omega) (by omega)]; omega)]
      unfold R_chosen_J136
      dsimp only
      rw [wp_rt]
      refine ⟨rfl, ?_⟩
      congr 1
      omega
  | succ m ih =>
    intro i p f g b' hi hf hg hp hpl hb'
    obtain ⟨f', rfl⟩ : ∃ z, f = z + 1 := ⟨f - 1, by omega⟩
    have i12 : i < 12 := by omega
    have e1 : nn i + 1 = nn (i + 1) := nn_add
    -- keep p
    have keep : (∀ k, k < 8 → ¬ (Pl x h r bs i k ∧ btr r p (8 * i + k))) → (∀ Q, wp (C_X11_receiver_L92 x (fun l4 => C_X11_receiver_J216 x l4) f' (some u) (some b') (r.2.1 30 p) (nn (i + 1))) h Q → wp (C_X11_receiver_L92 x (fun l4 => C_X11_receiver_J216 x l4) (f' + 1) (some u) (some b') (r.2.1 30 p) (nn i)) h Q) → ∃ i' k' b2, i' < 12 ∧ k' < 8 ∧ har h (x + 34) i' = some b2 ∧ Pl x h r bs i' k' ∧ wp (C_X11_receiver_L92 x (fun l4 => C_X11_receiver_J216 x l4) (f' + 1) (some u) (some b') (r.2.1 30 p) (nn i)) h (fun v h' => h' = h ∧ v = some b2) ∧ wp (R_chosen_L4 (fun l2 => R_chosen_J136 l2) g (nn w) (nn p) (nn (8 * i))) r (fun v r' => r' = r ∧ v = nn (8 * i' + k')) := by
      intro hno hcl
      obtain ⟨i', k', b2, a1, a2, a3, a4, a5, a6⟩ := ih (i + 1) p f' (g - 8) b' (by omega) (by omega) (by omega) hp hpl hb'
      exact ⟨i', k', b2, a1, a2, a3, a4, hcl _ a5, qm_ch_ses R hw hM i12 hp (by omega) (fun _ => a6) (fun k hk h1 h2 => absurd ⟨h1, h2⟩ (hno k hk))⟩
    cases hbi : har h (x + 34) i with
    | none =>
      refine keep (fun k _ hz => ?_) (fun Q hQ => ?_)
      · obtain ⟨b2, n2, u2, st2, c1, _⟩ := hz.1
        rw [hbi] at c1
        cases c1
      · show wp (C_X11_receiver_B92 x _ _ (some u) (some b') _ (nn i)) h Q
        unfold C_X11_receiver_B92
        rw [l_12, wp_neg (by rw [nn_le (by omega) (by omega)]; omega), wp_gR t1, t2, wn_Ar t3 (by rw [t4]; exact i12) (by omega), hbi, wp_pos rfl]
        unfold C_X11_receiver_J126
        rw [wp_pos rfl, e1]
        exact hQ
    | some bi =>
      obtain ⟨v, q1, q2⟩ := qc_idx R i12 hbi c5 hl
      have Si := R.ses i12 hbi
      have head : ∀ Q, wp (C_X11_receiver_J126 x (fun l2 l4 l5 l6 => C_X11_receiver_L92 x (fun l4 => C_X11_receiver_J216 x l4) f' l2 l4 l5 l6) (fun l4 => C_X11_receiver_J216 x l4) (some u) (some b') (r.2.1 30 p) (nn i) (some bi) v) h Q → wp (C_X11_receiver_L92 x (fun l4 => C_X11_receiver_J216 x l4) (f' + 1) (some u) (some b') (r.2.1 30 p) (nn i)) h Q := fun Q hQ => by
        show wp (C_X11_receiver_B92 x _ _ (some u) (some b') _ (nn i)) h Q
        unfold C_X11_receiver_B92
        rw [l_12, wp_neg (by rw [nn_le (by omega) (by omega)]; omega), wp_gR t1, t2, wn_Ar t3 (by rw [t4]; exact i12) (by omega), hbi, wp_neg (fun z => by cases z), wp_gR ku, c4', wp_Cv Si.1.1]
        exact wp.get q1 hQ
      rcases q2 with ⟨k', hk8, ev, hpk⟩ | ⟨ev, hno⟩
      · obtain ⟨b3, u3, g1, g2, g3, g4, g5⟩ := hpk.last R i12 hst
        rw [hbi] at g1
        cases g1
        have e8 : (8 * i + k') / 8 = i := by omega
        have e8m : (8 * i + k') % 8 = k' := by omega
        have Sp := R.ses (show p / 8 < 12 by omega) hb'
        have offi := off_iff Si.2.2.1
        have offp := off_iff Sp.2.2.1
        have c5' : hfi h (100 * 11 + 5) u3 = r.2.1 30 (8 * i + k') := g4
        have a3' : hfr h (100 * 10 + 3) bi = some (bi + 1) := Si.1.2.2.2.2.1.1
        -- class: what is decided
        have dec : ∀ Q, ((btr r p (8 * i + k')) → wp (C_X11_receiver_L92 x (fun l4 => C_X11_receiver_J216 x l4) f' (some u) (some bi) (r.2.1 30 (8 * i + k')) (nn (i + 1))) h Q) → (¬ btr r p (8 * i + k') → wp (C_X11_receiver_L92 x (fun l4 => C_X11_receiver_J216 x l4) f' (some u) (some b') (r.2.1 30 p) (nn (i + 1))) h Q) → wp (C_X11_receiver_L92 x (fun l4 => C_X11_receiver_J216 x l4) (f' + 1) (some u) (some b') (r.2.1 30 p) (nn i)) h Q := by
          intro Q hy hn'
          refine head Q ?_
          unfold C_X11_receiver_J126
          rw [ev, wp_neg (nn_neg (by omega)), wp_gR Si.1.1, a3', wn_Ar Si.1.2.2.2.2.1.2.1 (by rw [Si.1.2.2.2.2.1.2.2]; exact hk8) (by omega), g2, wp_gI g3, c5', wp_gR Si.1.1]
          show wp (if hfr h 1002 bi = none then _ else _) h Q
          unfold btr at hy hn'
          rw [e8] at hy hn'
          by_cases goi : hfr h 1002 bi = none
          · have ri := offi.mp goi
            rw [wp_pos goi]
            unfold C_X11_receiver_J163
            rw [wp_gR Sp.1.1]
            show wp (if hfr h 1002 b' = none then _ else _) h Q
            by_cases gop : hfr h 1002 b' = none
            · have rp := offp.mp gop
              rw [wp_pos gop]
              unfold C_X11_receiver_J178 C_X11_receiver_J202
              rw [wp_pos rfl]
              by_cases gl : r.2.1 30 p ≤ r.2.1 30 (8 * i + k')
              · rw [wp_pos gl, e1]
                exact hn' (fun z => z.elim (fun z => z.1 ri) (fun z => z.2 gl))
              · rw [wp_neg gl, e1]
                exact hy (Or.inr ⟨⟨fun _ => rp, fun _ => ri⟩, gl⟩)
            · have rp : ¬ r.2.1 15 (p / 8) < 0 := fun z => gop (offp.mpr z)
              rw [wp_neg gop]
              unfold C_X11_receiver_J178
              rw [wp_neg (by decide), wp_pos rfl, e1]
              exact hn' (fun z => z.elim (fun z => z.1 ri) (fun z => rp (z.1.mp ri)))
          · have ri : ¬ r.2.1 15 i < 0 := fun z => goi (offi.mpr z)
            rw [wp_neg goi]
            unfold C_X11_receiver_J163
            rw [wp_gR Sp.1.1]
            show wp (if hfr h 1002 b' = none then _ else _) h Q
            by_cases gop : hfr h 1002 b' = none
            · have rp := offp.mp gop
              rw [wp_pos gop]
              unfold C_X11_receiver_J178 C_X11_receiver_J202
              rw [wp_neg (by decide), wp_neg (by decide), e1]
              exact hy (Or.inl ⟨ri, rp⟩)
            · have rp : ¬ r.2.1 15 (p / 8) < 0 := fun z => gop (offp.mpr z)
              rw [wp_neg gop]
              unfold C_X11_receiver_J178 C_X11_receiver_J202
              rw [wp_pos rfl]
              by_cases gl : r.2.1 30 p ≤ r.2.1 30 (8 * i + k')
              · rw [wp_pos gl, e1]
                exact hn' (fun z => z.elim (fun z => rp z.2) (fun z => z.2 gl))
              · rw [wp_neg gl, e1]
                exact hy (Or.inr ⟨⟨fun z => absurd z ri, fun z => absurd z rp⟩, gl⟩)
        by_cases gb : btr r p (8 * i + k')
        · obtain ⟨i', k2, b2, a1, a2, a3, a4, a5, a6⟩ := ih (i + 1) (8 * i + k') f' (g - 8) bi (by omega) (by omega) (by omega) (by omega) (by rw [e8, e8m]; exact hpk) (by rw [e8]; exact hbi)
          refine ⟨i', k2, b2, a1, a2, a3, a4, dec _ (fun _ => a5) (fun z => absurd gb z), qm_ch_ses R hw hM i12 hp (by omega) (fun hno => absurd ⟨hpk, gb⟩ (hno k' hk8)) (fun k3 hk3 h1 h2 => ?_)⟩
          have e3 := Pl.uq R i12 h1 hpk
          rw [e3]
          exact a6
        · refine keep (fun k3 hk3 hz => ?_) (fun Q hQ => dec Q (fun z => absurd z gb) (fun _ => hQ))
          have e3 := Pl.uq R i12 hz.1 hpk
          rw [e3] at hz
          exact gb hz.2
      · refine keep (fun k3 _ hz => hno k3 hz.1) (fun Q hQ => head Q ?_)
        unfold C_X11_receiver_J126
        rw [ev, wp_pos rfl, e1]
        exact hQ
end RCW
