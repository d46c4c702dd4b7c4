/-! ===== who gets what a shared subscription matches ===== -/
/-- session i has told bs at place k -/
def Pl (x : Nat) (h : Hp) (r : RS) (bs : List Nat) (i k : Nat) : Prop := ∃ b n u st, har h (x + 34) i = some b ∧ r.2.1 24 i = nn n ∧ n ≤ 8 ∧ k < n ∧ har h (b + 1) k = some u ∧ SubT x h u bs st
section RCV
variable {x ec es ew s b k w : Nat} {e0 : Int32} {h : Hp} {r : RS} {bs : List Nat}
theorem Pl.uq (R : Rel x ec es ew e0 h r) {i k k' : Nat} (hi : i < 12) (p : Pl x h r bs i k) (p' : Pl x h r bs i k') : k = k' := by
  obtain ⟨b, n, u, st, a1, a2, a3, a4, a5, a6⟩ := p
  obtain ⟨b', n', u', st', c1, c2, c3, c4, c5, c6⟩ := p'
  rw [a1] at c1
  cases c1
  obtain ⟨n2, d1, d2, d3, d4, d5⟩ := (R.ses hi a1).2.2.2.2.1
  have e1 : n2 = n := nn_inj (by omega) (by omega) (d3.symm.trans a2)
  have e2 : n2 = n' := nn_inj (by omega) (by omega) (d3.symm.trans c2)
  exact d5 k k' u u' bs st st' (by omega) (by omega) a5 c5 a6 c6
/-- the model's bytes of a subscription -/
def MB (r : RS) (w : Nat) (bs : List Nat) : Prop := r.2.1 25 w = nn bs.length ∧ Mg (r.2.1 26) (64 * w) bs ∧ By bs ∧ bs.length ≤ 64
theorem Sub.mb {u : Nat} (S : Sub x h r ew w u) : ∃ bs st, SubT x h u bs st ∧ MB r w bs := by
  obtain ⟨bs, st, o, id, d1, d2, _⟩ := S
  have f := fstart_lt d1.2.2.1
  have hb : By bs := by
    obtain ⟨_, ⟨t, _, c5⟩, _⟩ := d1
    exact c5.2.2.1
  exact ⟨bs, st, d1, d2.1, d2.2, hb, f.2.1⟩
/-- the model's look at place 8 i + k -/
theorem qm_chk (R : Rel x ec es ew e0 h r) (hw : w < 96) (hM : MB r w bs) {i k : Nat} (hi : i < 12) (hk : k < 8) {ρ : Type} {K1 K2 : RS → Option (ρ × RS)} {Q : ρ → RS → Prop} (k1 : ¬ Pl x h r bs i k → wp K1 r Q) (k2 : Pl x h r bs i k → wp K2 r Q) :
    wp (rA 11 (nn i) fun v5 => if v5 = 0 then K1 else (rA 24 (nn i) fun v6 => if v6 ≤ nn k then K1 else (bd (R_sameFilter (nn w) (nn (8 * i + k))) fun r7 => if r7 = 0 then K1 else K2))) r Q := by
  rw [wr_11 hi]
  rcases R.2.2.2.2.1 i hi with ⟨c1, c2⟩ | ⟨c1, b, c2, c3, c4⟩
  · rw [c1, wp_pos rfl]
    exact k1 (fun ⟨b, n, u, st, a1, _⟩ => by rw [c2] at a1; cases a1)
  · rw [c1, wp_neg (by decide), wr_24 hi]
    have U := c3.2.2.2.2.1
    obtain ⟨n, d1, d2, d3, d4, d5⟩ := c3.2.2.2.2.1
    rw [d3]
    by_cases g : n ≤ k
    · rw [wp_pos (by rw [nn_le (by omega) (by omega)]; exact g)]
      refine k1 (fun ⟨b', n', u, st, a1, a2, a3, a4, _⟩ => ?_)
      have e1 : n = n' := nn_inj (by omega) (by omega) (d3.symm.trans a2)
      omega
    · rw [wp_neg (by rw [nn_le (by omega) (by omega)]; exact g), wp_bd]
      obtain ⟨u, u1, u2⟩ := d4 k (by omega)
      obtain ⟨bs2, st, S2, m1, m2, m3, m4⟩ := u2.mb
      obtain ⟨n1, n2, n3, n4⟩ := hM
      refine wp.get (qm_sameFilter hw (by omega) n1 n2 n3 n4 m1 m2 m3 m4) ?_
      by_cases ge : bs = bs2
      · rw [if_pos ge, wp_neg (by decide)]
        exact k2 ⟨b, n, u, st, c2, d3, d1, by omega, u1, by rw [ge]; exact S2⟩
      · rw [if_neg ge, wp_pos rfl]
        refine k1 (fun ⟨b', n', u', st', a1, a2, a3, a4, a5, a6⟩ => ge ?_)
        rw [c2] at a1
        cases a1
        rw [u1] at a5
        cases a5
        exact a6.inj S2
theorem div8 {i k : Nat} (hk : k < 8) : (8 * i + k) / 8 = i := by omega
theorem mod8 {y : Nat} (hy : y < 2147483648) : nn y - nn y / (8 : Int32) * (8 : Int32) = nn (y % 8) := by
  rw [l_8, nn_div hy (by omega), nn_mul, nn_sub (by omega)]
  congr 1
  omega
theorem qm_isFirst (R : Rel x ec es ew e0 h r) (hw : w < 96) (hM : MB r w bs) : R_isFirst (nn w) r = some (@ite _ (∃ y, y < w ∧ Pl x h r bs (y / 8) (y % 8)) (Classical.propDecidable _) 0 1, r) := by
  have e : wp (R_isFirst (nn w)) r (fun v r' => r' = r ∧ v = @ite _ (∃ y, y < w ∧ Pl x h r bs (y / 8) (y % 8)) (Classical.propDecidable _) 0 1) := by
    unfold R_isFirst
    refine up_loop (L := fun f i => R_isFirst_L2 (R_isFirst_J44) (R_isFirst_J52) f (nn w) i) (fun i r' => r' = r ∧ ∀ y, y < i → ¬ Pl x h r bs (y / 8) (y % 8)) w ?_ ?_ w 0 fu r (by omega) (by unfold fu; omega) ⟨rfl, fun k hk => by omega⟩
    · rintro f i r' hi ⟨rfl, hz⟩ kk
      show wp (R_isFirst_B2 _ _ _ (nn w) (nn i)) r' _
      unfold R_isFirst_B2
      rw [wp_neg (by rw [nn_le (by omega) (by omega)]; omega), mod8 (by omega), l_8, nn_div (by omega) (by omega)]
      have ei : 8 * (i / 8) + i % 8 = i := by omega
      have := qm_chk (K1 := R_isFirst_L2 (R_isFirst_J44) (R_isFirst_J52) f (nn w) (nn i + 1)) (K2 := R_isFirst_J44) (Q := fun v r'' => r'' = r' ∧ v = @ite _ (∃ y, y < w ∧ Pl x h r' bs (y / 8) (y % 8)) (Classical.propDecidable _) 0 1) R hw hM (i := i / 8) (k := i % 8) (by omega) (by omega) (fun hn => ?_) (fun hp => ?_)
      · rw [ei] at this
        exact this
      · rw [l_1, nn_add]
        exact kk r' ⟨rfl, fun y hy => by
          by_cases e : y = i
          · rw [e]; exact hn
          · exact hz y (by omega)⟩
      · unfold R_isFirst_J44
        rw [wp_zt, if_pos ⟨i, hi, hp⟩]
        exact ⟨Or.inl rfl, rfl, rfl⟩
    · rintro f r' ⟨rfl, hz⟩
      show wp (R_isFirst_B2 _ _ _ (nn w) (nn w)) r' _
      unfold R_isFirst_B2
      rw [wp_pos (by rw [nn_le (by omega) (by omega)]; omega)]
      unfold R_isFirst_J52
      rw [wp_zt, if_neg (fun ⟨y, y1, y2⟩ => hz y y1 y2)]
      exact ⟨Or.inr rfl, rfl, rfl⟩
  obtain ⟨v, r', e1, e2, e3⟩ := e
  rw [e1, e2, e3]
/-- the better of two places: online first, then whose turn is longer ago -/
def btr (r : RS) (p y : Nat) : Prop := (¬ r.2.1 15 (y / 8) < 0 ∧ r.2.1 15 (p / 8) < 0) ∨ ((r.2.1 15 (y / 8) < 0 ↔ r.2.1 15 (p / 8) < 0) ∧ ¬ r.2.1 30 p ≤ r.2.1 30 y)
/-- one place of the model's choice -/
theorem qm_ch_step (R : Rel x ec es ew e0 h r) (hw : w < 96) (hM : MB r w bs) {y p f : Nat} (hy : y < 96) (hp : p < 96) {Q : Int32 → RS → Prop} (k1 : (¬ Pl x h r bs (y / 8) (y % 8) ∨ ¬ btr r p y) → wp (R_chosen_L4 (fun l2 => R_chosen_J136 l2) f (nn w) (nn p) (nn (y + 1))) r Q) (k2 : Pl x h r bs (y / 8) (y % 8) → btr r p y → wp (R_chosen_L4 (fun l2 => R_chosen_J136 l2) f (nn w) (nn y) (nn (y + 1))) r Q) : wp (R_chosen_L4 (fun l2 => R_chosen_J136 l2) (f + 1) (nn w) (nn p) (nn y)) r Q := by
  show wp (R_chosen_B4 _ _ (nn w) (nn p) (nn y)) r Q
  unfold R_chosen_B4
  have c96 : (96 : Int32) = nn 96 := rfl
  have e1 : nn y + 1 = nn (y + 1) := nn_add
  rw [c96, wp_neg (by rw [nn_le (by omega) (by omega)]; omega), mod8 (by omega), l_8, nn_div (by omega) (by omega), wp_lq, e1]
  have ei : 8 * (y / 8) + y % 8 = y := by omega
  have key := qm_chk (K1 := R_chosen_L4 (fun l2 => R_chosen_J136 l2) f (nn w) (nn p) (nn (y + 1))) (K2 := rA 15 (nn (y / 8)) fun v8 => if v8 < 0 then R_chosen_J67 (fun l1 l2 l3 => R_chosen_L4 (fun l2 => R_chosen_J136 l2) f l1 l2 l3) (fun l2 => R_chosen_J136 l2) (nn w) (nn p) (nn y) 0 else R_chosen_J67 (fun l1 l2 l3 => R_chosen_L4 (fun l2 => R_chosen_J136 l2) f l1 l2 l3) (fun l2 => R_chosen_J136 l2) (nn w) (nn p) (nn y) 1) (Q := Q) R hw hM (i := y / 8) (k := y % 8) (by omega) (by omega) (fun hn => k1 (Or.inl hn)) (fun hpl => ?_)
  · rw [ei] at key
    exact key
  · have pn : ¬ nn p < 0 := nn_nlt0 (by omega)
    have J106 : ∀ a c : Int32, (a = c ↔ (r.2.1 15 (y / 8) < 0 ↔ r.2.1 15 (p / 8) < 0)) → ¬ (¬ r.2.1 15 (y / 8) < 0 ∧ r.2.1 15 (p / 8) < 0) → wp (R_chosen_J106 (fun l1 l2 l3 => R_chosen_L4 (fun l2 => R_chosen_J136 l2) f l1 l2 l3) (fun l2 => R_chosen_J136 l2) (nn w) (nn p) (nn y) a c) r Q := by
      intro a c hac hno
      unfold R_chosen_J106 R_chosen_J128
      by_cases g : a = c
      · rw [wp_pos g, wr_30 hy, wr_30 hp]
        by_cases g2 : r.2.1 30 p ≤ r.2.1 30 y
        · rw [wp_pos g2, e1]
          exact k1 (Or.inr (fun z => z.elim hno (fun z => z.2 g2)))
        · rw [wp_neg g2, e1]
          exact k2 hpl (Or.inr ⟨hac.mp g, g2⟩)
      · rw [wp_neg g, e1]
        exact k1 (Or.inr (fun z => z.elim hno (fun z => g (hac.mpr z.1))))
    have dp : nn p / (8 : Int32) = nn (p / 8) := by rw [l_8, nn_div (by omega) (by omega)]
    have hp8 : p / 8 < 12 := by omega
    rw [wr_15 (by omega)]
    by_cases gy : r.2.1 15 (y / 8) < 0
    · rw [wp_pos gy]
      unfold R_chosen_J67
      rw [wp_neg pn, dp, wr_15 hp8]
      by_cases gp : r.2.1 15 (p / 8) < 0
      · rw [wp_pos gp]
        unfold R_chosen_J89 R_chosen_J90
        rw [wp_neg pn, wp_pos rfl]
        exact J106 0 0 ⟨fun _ => ⟨fun _ => gp, fun _ => gy⟩, fun _ => rfl⟩ (fun z => z.1 gy)
      · rw [wp_neg gp]
        unfold R_chosen_J90
        rw [wp_neg pn, wp_pos rfl]
        exact J106 0 1 ⟨fun z => absurd z (by decide), fun z => absurd (z.mp gy) gp⟩ (fun z => z.1 gy)
    · rw [wp_neg gy]
      unfold R_chosen_J67
      rw [wp_neg pn, dp, wr_15 hp8]
      by_cases gp : r.2.1 15 (p / 8) < 0
      · rw [wp_pos gp]
        unfold R_chosen_J89 R_chosen_J90
        rw [wp_neg pn, wp_neg (by decide), wp_pos rfl]
        unfold R_chosen_J128
        dsimp only
        rw [e1]
        exact k2 hpl (Or.inl ⟨gy, gp⟩)
      · rw [wp_neg gp]
        unfold R_chosen_J90
        rw [wp_neg pn, wp_neg (by decide), wp_neg (by decide)]
        exact J106 1 1 ⟨fun _ => ⟨fun z => absurd z gy, fun z => absurd z gp⟩, fun _ => rfl⟩ (fun z => gp z.2)
/-- the rest of a session's places holds nothing more -/
theorem qm_ch_skip (R : Rel x ec es ew e0 h r) (hw : w < 96) (hM : MB r w bs) {i p : Nat} (hi : i < 12) (hp : p < 96) {Q : Int32 → RS → Prop} : ∀ (m a f : Nat), a + m = 8 → m ≤ f → (∀ k, a ≤ k → k < 8 → ¬ Pl x h r bs i k) → (∀ f', f - m = f' → wp (R_chosen_L4 (fun l2 => R_chosen_J136 l2) f' (nn w) (nn p) (nn (8 * (i + 1)))) r Q) → wp (R_chosen_L4 (fun l2 => R_chosen_J136 l2) f (nn w) (nn p) (nn (8 * i + a))) r Q := by
  intro m
  induction m with
  | zero =>
    intro a f ha hf hn kk
    have e : 8 * i + a = 8 * (i + 1) := by omega
    rw [e]
    exact kk f (by omega)
  | succ m ih =>
    intro a f ha hf hn kk
    obtain ⟨f', rfl⟩ : ∃ z, f = z + 1 := ⟨f - 1, by omega⟩
    have e1 : (8 * i + a) / 8 = i := by omega
    have e2 : (8 * i + a) % 8 = a := by omega
    refine qm_ch_step R hw hM (by omega) hp (fun _ => ?_) (fun hpl _ => ?_)
    · exact ih (a + 1) f' (by omega) (by omega) (fun k h1 h2 => hn k (by omega) h2) (fun f'' ef => kk f'' (by omega))
    · rw [e1, e2] at hpl
      exact absurd hpl (hn a (by omega) (by omega))
/-- a session in the model's choice -/
theorem qm_ch_ses (R : Rel x ec es ew e0 h r) (hw : w < 96) (hM : MB r w bs) {i p f : Nat} (hi : i < 12) (hp : p < 96) (hf : 8 ≤ f) {Q : Int32 → RS → Prop} (k1 : (∀ k, k < 8 → ¬ (Pl x h r bs i k ∧ btr r p (8 * i + k))) → wp (R_chosen_L4 (fun l2 => R_chosen_J136 l2) (f - 8) (nn w) (nn p) (nn (8 * (i + 1)))) r Q) (k2 : ∀ k, k < 8 → Pl x h r bs i k → btr r p (8 * i + k) → wp (R_chosen_L4 (fun l2 => R_chosen_J136 l2) (f - 8) (nn w) (nn (8 * i + k)) (nn (8 * (i + 1)))) r Q) : wp (R_chosen_L4 (fun l2 => R_chosen_J136 l2) f (nn w) (nn p) (nn (8 * i))) r Q := by
  by_cases hx : ∃ k, k < 8 ∧ Pl x h r bs i k
  · obtain ⟨k, hk, hpl⟩ := hx
    have un : ∀ k', k' < 8 → k' ≠ k → ¬ Pl x h r bs i k' := fun k' _ hne hp' => hne (Pl.uq R hi hp' hpl)
    -- up to k
    have up : ∀ (m a g : Nat), a + m = k → m ≤ g → f - g = a → g ≤ f → wp (R_chosen_L4 (fun l2 => R_chosen_J136 l2) g (nn w) (nn p) (nn (8 * i + a))) r Q := by
      intro m
      induction m with
      | zero =>
        intro a g ha hg hfg hgf
        have ea : a = k := by omega
        subst ea
        obtain ⟨g', rfl⟩ : ∃ z, g = z + 1 := ⟨g - 1, by omega⟩
        have e1 : (8 * i + a) / 8 = i := by omega
        have e2 : (8 * i + a) % 8 = a := by omega
        refine qm_ch_step R hw hM (by omega) hp (fun hno => ?_) (fun hpl' hb => ?_)
        · rw [e1, e2] at hno
          refine qm_ch_skip R hw hM hi hp (7 - a) (a + 1) g' (by omega) (by omega) (fun k' h1 h2 => un k' h2 (by omega)) (fun f' ef => ?_)
          have : f' = f - 8 := by omega
          rw [this]
          refine k1 (fun k' hk' hz => ?_)
          by_cases ek : k' = a
          · subst ek
            exact hno.elim (fun z => z hz.1) (fun z => z hz.2)
          · exact un k' hk' ek hz.1
        · refine qm_ch_skip R hw hM hi (by omega) (7 - a) (a + 1) g' (by omega) (by omega) (fun k' h1 h2 => un k' h2 (by omega)) (fun f' ef => ?_)
          have : f' = f - 8 := by omega
          rw [this]
          rw [e1, e2] at hpl'
          exact k2 a hk hpl' hb
      | succ m ih =>
        intro a g ha hg hfg hgf
        obtain ⟨g', rfl⟩ : ∃ z, g = z + 1 := ⟨g - 1, by omega⟩
        have e1 : (8 * i + a) / 8 = i := by omega
        have e2 : (8 * i + a) % 8 = a := by omega
        refine qm_ch_step R hw hM (by omega) hp (fun _ => ?_) (fun hpl' _ => ?_)
        · exact ih (a + 1) g' (by omega) (by omega) (by omega) (by omega)
        · rw [e1, e2] at hpl'
          exact absurd hpl' (un a (by omega) (by omega))
    exact up k 0 f (by omega) (by omega) (by omega) (by omega)
  · have none' : ∀ k, 0 ≤ k → k < 8 → ¬ Pl x h r bs i k := fun k _ hk hp' => hx ⟨k, hk, hp'⟩
    refine qm_ch_skip R hw hM hi hp 8 0 f (by omega) (by omega) none' (fun f' ef => ?_)
    have : f' = f - 8 := by omega
    rw [this]
    exact k1 (fun k hk hz => none' k (by omega) hk hz.1)
end RCV
