/-! ===== a message is distributed, by both ===== -/
section DIS
variable {x ec es s b k u n st m j bf fo : Nat} {e0 : Int32} {h : Hp} {r : RS} {bs : List Nat}
theorem Rel.dst {v : Int32} {ew : Nat} (R : Rel x ec es ew e0 h r) : Rel x ec es ew e0 (sfi h 1311 x v) (sI r 69 v) := by
  obtain ⟨T, G, sm, C, SS, U1, U2, U3, K, U4, f0, bs0, W⟩ := R
  have hx := T.1
  have p : Fm x [1311] (fun _ => False) h (sfi h 1311 x v) := Fm.fi Fm.rf (Or.inl (by decide)) (Or.inl (by decide))
  have w : Ro [69] r (sI r 69 v) := Ro.rf.i (by decide)
  refine ⟨T.sto p.1, ?_, ?_, fun i hi => ?_, fun s' hs' => ?_, U1.fm T SS p w (fun z => z) (fun _ _ _ _ => ⟨fun z => z, fun z => z⟩) (by decide), U2.fm T SS p w (fun z => z) (fun _ _ _ _ z => z) (by decide), U3.fm w (by decide), K.fm T p w (by decide) (fun z => z) (by decide), U4.fm T SS p w (by decide) ⟨fun z => z, fun z => z⟩ (fun _ _ _ _ => ⟨fun z => z, fun z => z⟩) (by decide), f0, bs0, ?_⟩
  · obtain ⟨g1, g2, g3, g4, g5, g6, g7, g8⟩ := G
    refine ⟨g1, ?_, ?_, ?_, ?_, ?_, ?_, ?_⟩
    · rw [p.gi (f := 1309) (by decide) (by omega)]; exact g2
    · rw [p.gi (f := 1310) (by decide) (by omega)]; exact g3
    · rw [hfi_sfi, if_pos ⟨rfl, rfl⟩, sI_1, if_pos rfl]
    · rw [p.gi (f := 1312) (by decide) (by omega)]; exact g5
    · rw [p.gi (f := 1314) (by decide) (by omega)]; exact g6
    · rw [p.gi (f := 1315) (by decide) (by omega)]; exact g7
    · rw [p.gi (f := 1313) (by decide) (by omega)]; exact g8
  · have e2 : ∀ j', j' < 8 → hfi (sfi h 1311 x v) 206 (cA x j') = hfi h 206 (cA x j') := fun j' hj => p.gi (by decide) (by have := T.cl hj; omega)
    unfold sSum
    rw [w.gI (k := 68) (by decide), sm, e2 0 (by omega), e2 1 (by omega), e2 2 (by omega), e2 3 (by omega), e2 4 (by omega), e2 5 (by omega), e2 6 (by omega), e2 7 (by omega)]
    rfl
  · obtain ⟨c1, c2, c3, c4⟩ := C i hi
    exact ⟨c1.fm T hi p w (by decide) (fun z => z) (by decide), c2.fm T hi p w (by decide) (fun z => z) (by decide), c3.fm T hi p w (fun z => z) (by decide), fun hec => (c4 hec).fm T hi p w (by decide) (fun z => z) (by decide)⟩
  · rcases SS s' hs' with c | ⟨c1, b', c2, c3, c4⟩
    · exact Or.inl c
    · have hb' := c3.1.2.2.1
      refine Or.inr ⟨c1, b', c2, ⟨c3.1.sto p.1, c3.2.1.fm (by omega) p.1 w (by decide), c3.2.2.1.fm (by omega) p w (by decide) (by decide), c3.2.2.2.1.fm (by omega) p w (by decide) (by decide), c3.2.2.2.2.1.fm hb' p w (by decide) (fun z => z) (by decide), c3.2.2.2.2.2.1.fm hb' p w (by decide) (fun z => z) (by decide), c3.2.2.2.2.2.2.1.fm hb' p w (by decide) (fun z => z) (by decide), c3.2.2.2.2.2.2.2.1.fm hb' p w (by decide) (fun z => z) (by decide), c3.2.2.2.2.2.2.2.2.fm w (by decide)⟩, fun g => (c4 g).fm (by omega) p w (by decide) (by decide)⟩
  · obtain ⟨⟨a1, a2, a3, a4⟩, a5, a6, a7, a8, a9⟩ := W
    refine ⟨⟨a1, a2, a3, a4⟩, ?_, ?_, a7, a8, a9⟩
    · rw [p.gi (f := 1200) (by decide) (by omega)]; exact a5
    · rw [p.gi (f := 1202) (by decide) (by omega)]; exact a6
/-- a message on its way through distribute: no will, not changed -/
def Msg (x : Nat) (h : Hp) (r : RS) (m j : Nat) : Prop := MpT x h r m j ∧ j < 640 ∧ ∀ s' b', s' < 12 → har h (x + 34) s' = some b' → hfr h 1011 b' ≠ some m ∧ r.2.1 20 s' ≠ nn j
theorem Msg.gh {h' : Hp} {r' : RS} {ew : Nat} (M : Msg x h r m j) (R : Rel x ec es ew e0 h r) (G : GH x h h' r r') : Msg x h' r' m j := by
  refine ⟨M.1.to G.1 G.2.1 (by decide) (by decide), M.2.1, fun s' b' h1 h2 => ?_⟩
  rw [G.2.2] at h2
  have := SesA.lt R.2.2.2.2.1 h1 h2
  rw [G.1.gr (by decide) (by omega), G.2.1.gA (by decide)]
  exact M.2.2 s' b' h1 h2
/-- the subscription at place 8 i + k is served -/
theorem sim_serve {i b2 t : Nat} (R : Rel x ec es 96 e0 h r) (M : Msg x h r m j) (hi : i < 12) (hk8 : k < 8) (hb2 : har h (x + 34) i = some b2) (hpl : Pl x h r bs i k) (ht : Rw x h t bs) (hl : bs.length ≤ 64)
    {kb : Option Nat → Option Nat → Int32 → Int32 → Option Nat → Int32 → Hp → Option (Int32 × Hp)} {ke : Option Nat → Option Nat → Int32 → Int32 → Hp → Option (Int32 × Hp)} {kb' : Int32 → Int32 → Int32 → Int32 → RS → Option (Int32 × RS)} {ke' : Int32 → Int32 → Int32 → RS → Option (Int32 × RS)} {l2 l5 : Option Nat} {l3 l4 l6 a3 a4 : Int32} {Φ : Int32 → Hp → Int32 → RS → Prop}
    (kk : ∀ h' r', Rel x ec es 96 e0 h' r' → GH x h h' r r' → (hcs h').1 + WN r' ≤ (hcs h).1 + WN r + oq r i j → (hcs h').2 + 6 * WN r' ≤ (hcs h).2 + 6 * WN r + 6 * oq r i j → Sim (kb (some m) l2 1 l4 l5 (l6 + 1)) h' (kb' (nn j) 1 a3 (a4 + 1)) r' Φ) :
    Sim (bd (C_X8_indexOf b2 (some t)) fun r6 => C_X11_distribute_J105 x kb ke (some m) l2 l3 l4 l5 l6 (some b2) r6) h (R_distribute_J141 kb' ke' (nn j) a3 a4 (nn (8 * i + k))) r Φ := by
  obtain ⟨v, q1, q2⟩ := qc_idx R hi hb2 ht hl
  have ev : v = nn k := by
    rcases q2 with ⟨k', _, e, hp'⟩ | ⟨_, hno⟩
    · rw [e, Pl.uq R hi hp' hpl]
    · exact absurd hpl (hno k)
  obtain ⟨b3, n, u', st', a1, a2, a3', a4', a5, a6⟩ := hpl
  rw [hb2] at a1
  cases a1
  have Sb := R.ses hi hb2
  have hx := R.st.1
  obtain ⟨u2, g1, bs2, st2, o, id, g2, g3, g4, g5, g6, g7⟩ := Sb.2.2.2.2.1.get a2 a3' a4'
  rw [a5] at g1
  cases g1
  obtain ⟨V, v1, v2, v3⟩ := M.1.1
  obtain ⟨rt0, hrt0⟩ : ∃ z, z = V.2.2.2.2.2.2.1 := ⟨_, rfl⟩
  have q61 : r.2.1 61 j = nn rt0 := by rw [hrt0]; exact v2.2.2.2.2.2.2.2.1
  have hrt1 : rt0 ≤ 1 := by rw [hrt0]; exact v3.2.2.2.1
  obtain ⟨o', h1, h', r', e1, e2, e3, e4, e5, e6, e7, e8, e9⟩ := sim_give (k := k) (old := 0) (fl := flg 0 rt0 o) R hi hb2 a2 a3' a4' a5 M.1 M.2.1 (by omega) (fun o1 rt1 c1 c2 c3 c4 => by
    have x1 : o1 = o := nn_inj (by omega) (by omega) (c1.symm.trans g4.2.1)
    have x2 : rt1 = rt0 := nn_inj (by omega) (by omega) (c3.symm.trans q61)
    rw [x1, x2]) M.2.2
  have t1 := R.st.2.1.1
  have a3'' : hfr h (100 * 10 + 3) b2 = some (b2 + 1) := Sb.1.2.2.2.2.1.1
  have hb2' : har h' (x + 34) i = some b2 := by rw [e6.2.2]; exact hb2
  have hn' : r'.2.1 24 i = nn n := by rw [e6.2.1.gA (by decide)]; exact a2
  have hu' : har h' (b2 + 1) k = some u' := by
    have hb4 := Sb.1.2.2.1
    have hx2 := Sb.1.2.1
    rw [(e6.1.2.2 (b2 + 1) (by omega) (fun z => by
      rcases z with z | ⟨i', hi', z⟩ | ⟨s', b', h1', h2', z⟩
      · omega
      · have : cA x i' + 1 = x + 2 + 4 * i' + 1 := rfl
        omega
      · have T' := (R.ses h1' h2').1
        have n1 := T'.ne Sb.1 1 (by omega) (by omega)
        have n2 := T'.ne Sb.1 2 (by omega) (by omega)
        omega)).2.1]
    exact a5
  have R2 : Rel x ec es 96 e0 h' (sA r' 30 (8 * i + k) (r'.1 69)) := e5.turn hi hb2' hn' a3' a4' hu' (by
    rw [e9, e6.2.1.gI (by decide)]
    exact R.2.1.2.2.2.1)
  have GT : GH x h h' r (sA r' 30 (8 * i + k) (r'.1 69)) := ⟨e6.1, e6.2.1.a (by decide), e6.2.2⟩
  have wn30 : WN (sA r' 30 (8 * i + k) (r'.1 69)) ≤ WN r' := Ro.wn (Ro.rf.a (S := [30]) (by decide)) (by decide) (by decide) (by decide) (by decide)
  have fin := kk h' _ R2 GT (by omega) (by omega)
  -- the model
  have mo : ∀ P : Hp → Option (Int32 × Hp), ∀ hh : Hp, Sim P hh (kb' (nn j) 1 a3 (a4 + 1)) (sA r' 30 (8 * i + k) (r'.1 69)) Φ → Sim P hh (R_distribute_J141 kb' ke' (nn j) a3 a4 (nn (8 * i + k))) r Φ := by
    intro P hh hS'
    unfold R_distribute_J141
    have J170 : ∀ fl, fl = nn (flg 0 rt0 o) → Sim P hh (R_distribute_J170 kb' ke' (nn j) a3 a4 (nn (8 * i + k)) (nn (8 * i + k)) (nn j) fl) r Φ := by
      intro fl ef
      unfold R_distribute_J170
      rw [ef, Sim_r (e_bd e4), sr_rI, sr_w30 (by omega)]
      exact hS'
    rw [sr_r27 (by omega), g4.2.1]
    by_cases g8 : o / 8 % 2 = 0
    · rw [sr_pos ((and8 o g4.2.2.1).mpr g8)]
      exact J170 0 (by unfold flg; rw [if_neg (by decide), if_pos g8]; rfl)
    · rw [sr_neg (fun z => g8 ((and8 o g4.2.2.1).mp z)), sr_r61 M.2.1, q61]
      exact J170 _ (by unfold flg; rw [if_neg (by decide), if_neg g8])
  have e1' : C_X11_hand x (some b2) (some u') (some m) (0 : Int32) h = some (o', h1) := e1
  rw [Sim_l (e_bd q1)]
  refine mo _ _ ?_
  unfold C_X11_distribute_J105
  rw [ev, sl_neg (nn_neg (by omega)), sl_gR Sb.1.1, a3'', sl_Ar Sb.1.2.2.2.2.1.2.1 (by rw [Sb.1.2.2.2.2.1.2.2]; exact hk8) (by omega), a5, sl_Cv t1, Sim_l (e_bd e1')]
  cases ho : o' with
  | none =>
    rw [sl_pos rfl, ← e2 ho]
    exact fin
  | some d =>
    have t1' : hkd h1 x = 14 := by
      have ed := e3 d ho
      unfold C_X11_deliver at ed
      by_cases hk : hkd h1 x = 14
      · exact hk
      · exfalso
        have : hgR 13 5 (some x) (fun v5 => hgI 13 9 (some x) fun v6 => hCv 12 v5 (fun a => C_X10_publish a (some d) 0 v6) fun r7 => hgL 10 14 (some b2) fun v8 => if (lg_cmp v8 (-1 : Int64)) = 0 then (C_X11_deliver_J58 x (some b2)) else (hgR 13 5 (some x) fun v9 => hCv 12 v9 (fun a => C_X10_total a) fun r10 => hgL 10 14 (some b2) fun v11 => if (lg_cmp r10.toInt64 v11) ≤ 0 then (C_X11_deliver_J58 x (some b2)) else (hgI 13 12 (some x) fun v12 => hpI 13 12 (some x) (v12 + (1 : Int32)) <| hCv 10 (some b2) (fun a => C_X8_arrive a (some d)) fun r13 => rt ()))) h1 = none := by
          unfold hgR
          dsimp only
          rw [if_neg hk]
        rw [this] at ed
        cases ed
    rw [sl_neg (fun z => by cases z), sl_Cv t1', Sim_l (e_bd (e3 d ho))]
    exact fin
/-- what distribute may change -/
def dF : List Nat := [204, 205, 206, 300, 301, 302, 303, 304, 305, 1006, 1008, 1104, 1105, 1200, 1202, 1311, 1312]
def dS : List Nat := [2, 3, 4, 29, 30, 31, 32, 33, 34, 35, 36, 37, 38, 39, 40, 41, 42, 68, 69, 70, 88, 89, 90, 91]
def GD (x : Nat) (h h' : Hp) (r r' : RS) : Prop := Fm x dF (gA x h) h h' ∧ Ro dS r r' ∧ har h' (x + 34) = har h (x + 34)
theorem GH.gd {h' : Hp} {r' : RS} (p : GH x h h' r r') : GD x h h' r r' := ⟨p.1.sub (by decide) (fun _ z => z), p.2.1.sub (by decide), p.2.2⟩
theorem GD.tr {h1 h2 : Hp} {r1 r2 : RS} (p : GD x h h1 r r1) (q : GD x h1 h2 r1 r2) : GD x h h2 r r2 := by
  have e : gA x h1 = gA x h := by
    unfold gA
    rw [p.2.2]
  refine ⟨p.1.tr ?_, p.2.1.tr q.2.1, q.2.2.trans p.2.2⟩
  have := q.1
  rwa [e] at this
theorem and4 : ∀ o, o < 64 → (nn o &&& (4 : Int32) = 0 ↔ o / 4 % 2 = 0) := by decide +kernel
/-- whom a message comes from: a session's address, and the model's number of its birth -/
def Frm (x : Nat) (h : Hp) (r : RS) (j bf : Nat) : Prop := ∃ f, f < 12 ∧ har h (x + 34) f = some bf ∧ r.2.1 62 j = r.2.1 12 f
theorem Frm.gh {h' : Hp} {r' : RS} (p : Frm x h r j bf) (G : GH x h h' r r') : Frm x h' r' j bf := by
  obtain ⟨f, a1, a2, a3⟩ := p
  exact ⟨f, a1, by rw [G.2.2]; exact a2, by rw [G.2.1.gA (by decide), G.2.1.gA (by decide)]; exact a3⟩
theorem Frm.iff (R : Rel x ec es 96 e0 h r) (p : Frm x h r j bf) (hs : s < 12) (hb : har h (x + 34) s = some b) : some b = some bf ↔ r.2.1 12 s = r.2.1 62 j := by
  obtain ⟨f, a1, a2, a3⟩ := p
  constructor
  · intro e
    cases e
    have := (R.ses hs hb).1.inj (R.ses a1 a2).1 hs a1
    rw [this, a3]
  · intro e
    have c1 := ((R.2.2.2.2.1 s hs).at hb).1
    have c2 := ((R.2.2.2.2.1 f a1).at a2).1
    have := R.2.2.2.2.2.2.2.1.1 s f hs a1 c1 c2 (Or.inl (e.trans a3))
    subst this
    rw [hb] at a2
    exact a2
/-- no number twice, all small: not too many -/
theorem nodup_lt : ∀ (n : Nat) (l : List Nat), l.Nodup → (∀ a ∈ l, a < n) → l.length ≤ n := by
  intro n
  induction n with
  | zero =>
    intro l _ h2
    cases l with
    | nil => exact Nat.le_refl _
    | cons a t => exact absurd (h2 a (List.mem_cons_self ..)) (by omega)
  | succ n ih =>
    intro l h1 h2
    have := ih (l.erase n) (h1.erase n) (fun a ha => by
      have h3 := (h1.mem_erase_iff).mp ha
      have := h2 a h3.2
      have := h3.1
      omega)
    rw [List.length_erase] at this
    split at this <;> omega
theorem Pl.inj {bs' : List Nat} {i k : Nat} (p : Pl x h r bs i k) (p' : Pl x h r bs' i k) : bs = bs' := by
  obtain ⟨b, n, u, st, a1, a2, a3, a4, a5, a6⟩ := p
  obtain ⟨b', n', u', st', c1, c2, c3, c4, c5, c6⟩ := p'
  rw [a1] at c1
  cases c1
  rw [a5] at c5
  cases c5
  exact a6.inj c6
theorem Pl.gh {h' : Hp} {r' : RS} {ew i k : Nat} (R : Rel x ec es ew e0 h r) (G : GH x h h' r r') (hi : i < 12) (p : Pl x h r bs i k) : Pl x h' r' bs i k := by
  obtain ⟨b, n, u, st, a1, a2, a3, a4, a5, a6⟩ := p
  have Sb := R.ses hi a1
  have hb4 := Sb.1.2.2.1
  have hx2 := Sb.1.2.1
  refine ⟨b, n, u, st, by rw [G.2.2]; exact a1, by rw [G.2.1.gA (by decide)]; exact a2, a3, a4, ?_, a6.sto G.1.1⟩
  rw [(G.1.2.2 (b + 1) (by omega) (fun z => by
    rcases z with z | ⟨i', hi', z⟩ | ⟨s', b', h1', h2', z⟩
    · omega
    · have : cA x i' + 1 = x + 2 + 4 * i' + 1 := rfl
      omega
    · have T' := (R.ses h1' h2').1
      have n1 := T'.ne Sb.1 1 (by omega) (by omega)
      have n2 := T'.ne Sb.1 2 (by omega) (by omega)
      omega)).2.1]
  exact a5
/-- the subscriptions of sessions online that were served before place cur, by connection -/
def Dv (x : Nat) (h : Hp) (r : RS) (D : List Nat) (cur : Nat) : Prop := D.Nodup ∧ ∀ c ∈ D, c < 64 ∧ ∃ s, s < 12 ∧ r.2.1 7 (c / 8) = nn s ∧ (8 * s + c % 8 < cur ∨ ∃ bs y, y < cur ∧ Pl x h r bs (y / 8) (y % 8) ∧ Pl x h r bs s (c % 8) ∧ ∃ st, fstart bs = some st ∧ 0 < st)
theorem Dv.gh {h' : Hp} {r' : RS} {ew cur cur' : Nat} {D : List Nat} (R : Rel x ec es ew e0 h r) (G : GH x h h' r r') (hc : cur ≤ 96) (hcc : cur ≤ cur') (d : Dv x h r D cur) : Dv x h' r' D cur' := by
  refine ⟨d.1, fun c hc' => ?_⟩
  obtain ⟨d1, s, d2, d3, d4⟩ := d.2 c hc'
  refine ⟨d1, s, d2, by rw [G.2.1.gA (by decide)]; exact d3, ?_⟩
  rcases d4 with d4 | ⟨bs, y, d5, d6, d7, d8⟩
  · exact Or.inl (by omega)
  · exact Or.inr ⟨bs, y, by omega, d6.gh R G (by omega), d7.gh R G d2, d8⟩
theorem Dv.mono {cur cur' : Nat} {D : List Nat} (hcc : cur ≤ cur') (d : Dv x h r D cur) : Dv x h r D cur' := by
  refine ⟨d.1, fun c hc' => ?_⟩
  obtain ⟨d1, s, d2, d3, d4⟩ := d.2 c hc'
  refine ⟨d1, s, d2, d3, ?_⟩
  rcases d4 with d4 | ⟨bs, y, d5, d6⟩
  · exact Or.inl (by omega)
  · exact Or.inr ⟨bs, y, by omega, d6⟩
theorem Dv.new {cur s' k' i0 st : Nat} {D : List Nat} (d : Dv x h r D cur) (hi0 : i0 < 8) (hs' : s' < 12) (hk' : k' < 8) (h7 : r.2.1 7 i0 = nn s') (hp : Pl x h r bs s' k') (hst : fstart bs = some st)
    (hc : (st = 0 ∧ 8 * s' + k' = cur) ∨ (0 < st ∧ Pl x h r bs (cur / 8) (cur % 8) ∧ ∀ y, y < cur → ¬ Pl x h r bs (y / 8) (y % 8))) : Dv x h r ((8 * i0 + k') :: D) (cur + 1) := by
  have e1 : (8 * i0 + k') / 8 = i0 := by omega
  have e2 : (8 * i0 + k') % 8 = k' := by omega
  refine ⟨List.nodup_cons.mpr ⟨fun hin => ?_, d.1⟩, fun c hcm => ?_⟩
  · obtain ⟨_, s, d2, d3, d4⟩ := d.2 _ hin
    rw [e1] at d3
    rw [e2] at d4
    have es : s = s' := nn_inj (by omega) (by omega) (d3.symm.trans h7)
    subst es
    rcases hc with ⟨g1, g2⟩ | ⟨g1, g2, g3⟩
    · rcases d4 with d4 | ⟨bs', y, d5, d6, d7, st', d8, d9⟩
      · omega
      · rw [hp.inj d7] at hst
        rw [d8] at hst
        cases hst
        omega
    · rcases d4 with d4 | ⟨bs', y, d5, d6, d7, _⟩
      · refine g3 _ d4 ?_
        rw [show (8 * s + k') / 8 = s by omega, show (8 * s + k') % 8 = k' by omega]
        exact hp
      · rw [← hp.inj d7] at d6
        exact g3 y d5 d6
  · rcases List.mem_cons.mp hcm with g | g
    · subst g
      refine ⟨by omega, s', hs', by rw [e1]; exact h7, ?_⟩
      rw [e2]
      rcases hc with ⟨g1, g2⟩ | ⟨g1, g2, g3⟩
      · exact Or.inl (by omega)
      · exact Or.inr ⟨bs, cur, by omega, g2, hp, st, hst, g1⟩
    · exact (d.mono (Nat.le_succ cur)).2 c g
/-- the subscriptions of session i, one after the other -/
theorem sim_dis_in {kb : Option Nat → Option Nat → Int32 → Int32 → Hp → Option (Int32 × Hp)} {kb' : Int32 → Int32 → Int32 → RS → Option (Int32 × RS)} {i : Nat} (hi : i < 12) {Φ : Int32 → Hp → Int32 → RS → Prop} : ∀ (c k f g : Nat) (h : Hp) (r : RS) (got : Int32) (bi n : Nat), k + c = n → n ≤ 8 → c < f → c < g → Rel x ec es 96 e0 h r → Msg x h r m j → Frm x h r j bf → har h (x + 34) i = some bi → r.2.1 24 i = nn n →
    ∀ D, Dv x h r D (8 * i + k) → (∀ h' r' got' D', (got' = got ∨ got' = 1) → Rel x ec es 96 e0 h' r' → GH x h h' r r' → Dv x h' r' D' (8 * (i + 1)) → (hcs h').1 + WN r' + D.length ≤ (hcs h).1 + WN r + D'.length → (hcs h').2 + 6 * WN r' + 6 * D.length ≤ (hcs h).2 + 6 * WN r + 6 * D'.length → (r.2.1 60 j = 0 → D' = D) → Sim (kb (some m) (some bf) got' (nn i)) h' (kb' (nn j) got' (nn i)) r' Φ) →
    Sim (C_X11_distribute_L34 x kb f (some m) (some bf) got (nn i) (some bi) (nn k)) h (R_distribute_L23 kb' g (nn j) got (nn i) (nn k)) r Φ := by
  intro c
  induction c with
  | zero =>
    intro k f g h r got bi n hk hn hf hg R M Fo hb h24 D dv kk
    obtain ⟨f', rfl⟩ : ∃ z, f = z + 1 := ⟨f - 1, by omega⟩
    obtain ⟨g', rfl⟩ : ∃ z, g = z + 1 := ⟨g - 1, by omega⟩
    have Sb := R.ses hi hb
    have e4 : hfi h (100 * 10 + 4) bi = nn n := by
      obtain ⟨n', d1, d2, d3, _⟩ := Sb.2.2.2.2.1
      exact d2.trans (d3.symm.trans h24)
    have c1 := ((R.2.2.2.2.1 i hi).at hb).1
    show Sim (C_X11_distribute_B34 x _ kb (some m) (some bf) got (nn i) (some bi) (nn k)) h (R_distribute_B23 _ kb' (nn j) got (nn i) (nn k)) r Φ
    unfold C_X11_distribute_B34 R_distribute_B23
    rw [sl_neg (fun z => by cases z), sl_gI Sb.1.1, e4, sl_pos (by rw [nn_le (by omega) (by omega)]; omega), sr_r11 hi, c1, sr_neg (by decide), sr_r24 hi, h24, sr_pos (by rw [nn_le (by omega) (by omega)]; omega)]
    exact kk h r got D (Or.inl rfl) R GH.rf (dv.mono (by omega)) (by omega) (by omega) (fun _ => rfl)
  | succ c ih =>
    intro k f g h r got bi n hk hn hf hg R M Fo hb h24 D dv kk
    obtain ⟨f', rfl⟩ : ∃ z, f = z + 1 := ⟨f - 1, by omega⟩
    obtain ⟨g', rfl⟩ : ∃ z, g = z + 1 := ⟨g - 1, by omega⟩
    have Sb := R.ses hi hb
    have e4 : hfi h (100 * 10 + 4) bi = nn n := by
      obtain ⟨n', d1, d2, d3, _⟩ := Sb.2.2.2.2.1
      exact d2.trans (d3.symm.trans h24)
    have e3 : hfr h (100 * 10 + 3) bi = some (bi + 1) := Sb.1.2.2.2.2.1.1
    have c1 := ((R.2.2.2.2.1 i hi).at hb).1
    have t1 := R.st.2.1.1
    obtain ⟨u, hu, bs, st, o, id, S, d2, ⟨d4, d5, d6, d7⟩, d8, d9, d10⟩ := Sb.2.2.2.2.1.get h24 hn (show k < n by omega)
    obtain ⟨hM, _, _⟩ := SubT.mb R hi hb h24 hn (show k < n by omega) hu S
    obtain ⟨V, v1, v2, v3⟩ := M.1.1
    obtain ⟨tt, w1, w2⟩ := v1.2.2.2.1
    have w1' : hfr h (100 * 5 + 0) m = some tt := w1
    have hT := v2.2.1
    have hv1 := v3.1
    have hfl := fstart_lt S.2.2.1
    obtain ⟨ct, c4, c5⟩ := S.2.1
    have c4' : hfr h (100 * 11 + 0) u = some ct := c4
    have qm := qc_matches S w2 (by omega) hv1.1
    have mm := qm_takes (j := j) (T := V.1) (w := 8 * i + k) (by omega) hM.1 hM.2.1 hM.2.2.1 S.2.2.1 hT.2 v3.2.2.2.2.2.1 M.2.1 hv1.2 hv1.1 hT.1
    have ms := qm_isShared (w := 8 * i + k) (by omega) hM.1 hM.2.1 hM.2.2.1 S.2.2.1
    have ek : nn k + 1 = nn (k + 1) := nn_add
    -- go on with the next
    have next : ∀ h' r' got' D', (got' = got ∨ got' = 1) → Rel x ec es 96 e0 h' r' → GH x h h' r r' → Dv x h' r' D' (8 * i + (k + 1)) → (hcs h').1 + WN r' + D.length ≤ (hcs h).1 + WN r + D'.length → (hcs h').2 + 6 * WN r' + 6 * D.length ≤ (hcs h).2 + 6 * WN r + 6 * D'.length → (r.2.1 60 j = 0 → D' = D) → Sim (C_X11_distribute_L34 x kb f' (some m) (some bf) got' (nn i) (some bi) (nn k + 1)) h' (R_distribute_L23 kb' g' (nn j) got' (nn i) (nn k + 1)) r' Φ := by
      intro h' r' got' D' hg' R' G' dv' y1 y2 y3
      rw [ek]
      refine ih (k + 1) f' g' h' r' got' bi n (by omega) hn (by omega) (by omega) R' (M.gh R G') (Fo.gh G') (by rw [G'.2.2]; exact hb) (by rw [G'.2.1.gA (by decide)]; exact h24) D' dv' (fun h2 r2 got2 D2 a1 a2 a3 a4 a5 a6 a7 => kk h2 r2 got2 D2 ?_ a2 (G'.tr a3) a4 (by omega) (by omega) (fun z => (a7 (by rw [G'.2.1.gA (by decide)]; exact z)).trans (y3 z)))
      rcases a1 with a1 | a1
      · rw [a1]; exact hg'
      · exact Or.inr a1
    have hpl : Pl x h r bs i k := ⟨bi, n, u, st, hb, h24, hn, by omega, hu, S⟩
    -- a service: paid for by the place in a queue, or by the place of a subscription online
    have served : ∀ (i' k' b2 : Nat), i' < 12 → k' < 8 → har h (x + 34) i' = some b2 → Pl x h r bs i' k' → ((st = 0 ∧ 8 * i' + k' = 8 * i + k) ∨ (0 < st ∧ Pl x h r bs ((8 * i + k) / 8) ((8 * i + k) % 8) ∧ ∀ y, y < 8 * i + k → ¬ Pl x h r bs (y / 8) (y % 8))) → ∀ h' r', Rel x ec es 96 e0 h' r' → GH x h h' r r' → (hcs h').1 + WN r' ≤ (hcs h).1 + WN r + oq r i' j → (hcs h').2 + 6 * WN r' ≤ (hcs h).2 + 6 * WN r + 6 * oq r i' j → Sim (C_X11_distribute_L34 x kb f' (some m) (some bf) 1 (nn i) (some bi) (nn k + 1)) h' (R_distribute_L23 kb' g' (nn j) 1 (nn i) (nn k + 1)) r' Φ := by
      intro i' k' b2 p1 p2 p3 p4 p5 h' r' a1 a2 a3 a4
      unfold oq at a3 a4
      by_cases z : r.2.1 60 j = 0 ∨ r.2.1 15 i' = -1
      · rw [if_pos z] at a3 a4
        exact next h' r' 1 D (Or.inr rfl) a1 a2 (dv.gh R a2 (by omega) (by omega)) (by omega) (by omega) (fun _ => rfl)
      · rw [if_neg z] at a3 a4
        rcases (R.ses p1 p3).2.2.1.2.2.2.2 with ⟨_, c2⟩ | ⟨i0, c0, c1, c2, c3⟩
        · exact absurd (Or.inr c2) z
        · have dn := (dv.new c0 p1 p2 c3 p4 S.2.2.1 p5).gh R a2 (by omega) (Nat.le_refl _)
          exact next h' r' 1 ((8 * i0 + k') :: D) (Or.inr rfl) a1 a2 dn (by rw [List.length_cons]; omega) (by rw [List.length_cons]; omega) (fun y => absurd (Or.inl y) z)
    show Sim (C_X11_distribute_B34 x _ kb (some m) (some bf) got (nn i) (some bi) (nn k)) h (R_distribute_B23 _ kb' (nn j) got (nn i) (nn k)) r Φ
    unfold C_X11_distribute_B34 R_distribute_B23
    rw [sl_neg (fun z => by cases z), sl_gI Sb.1.1, e4, sl_neg (by rw [nn_le (by omega) (by omega)]; omega), sl_gR Sb.1.1, e3, sl_Ar Sb.1.2.2.2.2.1.2.1 (by rw [Sb.1.2.2.2.2.1.2.2]; omega) (by omega), hu, sl_gR v1.1, w1', sl_Cv S.1.1, Sim_l (e_bd qm), sr_r11 hi, c1, sr_neg (by decide), sr_r24 hi, h24, sr_neg (by rw [nn_le (by omega) (by omega)]; omega), l_8, nn_mul, nn_add, sr_lq, Sim_r (e_bd mm)]
    by_cases gm : mtc (bs.drop st) V.1 = true
    · rw [if_pos gm, sl_neg (by decide), sr_neg (by decide), sl_Cv t1, Sim_r (e_bd ms)]
      by_cases gs : 0 < st
      · rw [if_pos gs, sr_neg (by decide)]
        unfold R_distribute_J108
        rw [sr_neg (by decide)]
        rcases sim_recv (fr := some bf) R hi hb h24 hn (show k < n by omega) hu S gs with ⟨q1, q2⟩ | ⟨i', k', b2, q1, q2, q3, q4, q5, q6, q7⟩
        · rw [Sim_l (e_bd q1), Sim_r (e_bd q2), sr_pos rfl]
          unfold C_X11_distribute_J84
          rw [sl_pos rfl]
          unfold C_X11_distribute_J105
          rw [sl_pos rfl]
          exact next h r got D (Or.inl rfl) R GH.rf (dv.mono (by omega)) (by omega) (by omega) (fun _ => rfl)
        · rw [Sim_l (e_bd q5), Sim_r (e_bd q6), sr_neg (by decide)]
          unfold C_X11_distribute_J84 R_distribute_J125
          rw [sl_neg (fun z => by cases z), sl_gR S.1.1, c4', sl_Cv (R.ses q1 q3).1.1, sr_neg (by decide), Sim_r (e_bd q7)]
          have qf := qm_isFirst R (show 8 * i + k < 96 by omega) hM
          have nof : ¬ ∃ y, y < 8 * i + k ∧ Pl x h r bs (y / 8) (y % 8) := fun z => by
            rw [if_pos z] at qf
            rw [qf] at q6
            have := congrArg (fun o => o.map Prod.fst) q6
            exact absurd (show (0 : Int32) = 1 from Option.some.inj this) (by decide)
          exact sim_serve R M q1 q2 q3 q4 c5 hfl.2.1 (served i' k' b2 q1 q2 q3 q4 (Or.inr ⟨gs, by rw [show (8 * i + k) / 8 = i by omega, show (8 * i + k) % 8 = k by omega]; exact hpl, fun y y1 y2 => nof ⟨y, y1, y2⟩⟩))
      · rw [if_neg gs, sr_pos rfl]
        have st0 : st = 0 := by omega
        have es0 : C_X9_isShared u h = some (0, h) := by
          unfold C_X9_isShared
          have c7' : hfi h (100 * 11 + 1) u = nn st := S.2.2.2
          rw [e_gI (c := 11) S.1.1, c7', st0, if_pos (by decide)]
          rfl
        have e1102 : hfi h (100 * 11 + 2) u = nn o := d4
        -- itself
        have self : C_X11_receiver x (some bi) (some u) (some bf) h = some (some bi, h) → Sim (bd (C_X11_receiver x (some bi) (some u) (some bf)) fun r12 => C_X11_distribute_J84 x (fun l1 l2 l3 l4 l5 l6 => C_X11_distribute_L34 x kb f' l1 l2 l3 l4 l5 l6) kb (some m) (some bf) got (nn i) (some bi) (nn k) (some u) r12) h (R_distribute_J108 (fun l1 l2 l3 l4 => R_distribute_L23 kb' g' l1 l2 l3 l4) kb' (nn j) got (nn i) (nn k) (nn (8 * i + k)) 0) r Φ := by
          intro q1
          rw [Sim_l (e_bd q1)]
          unfold C_X11_distribute_J84 R_distribute_J108 R_distribute_J125
          rw [sl_neg (fun z => by cases z), sl_gR S.1.1, c4', sl_Cv Sb.1.1, sr_pos rfl, sr_pos rfl]
          exact sim_serve R M hi (by omega) hb hpl c5 hfl.2.1 (served i k bi hi (by omega) hb hpl (Or.inl ⟨st0, rfl⟩))
        rw [sr_r27 (by omega), d5]
        by_cases g4 : o / 4 % 2 = 0
        · rw [sr_pos ((and4 o d6).mpr g4)]
          refine self ?_
          unfold C_X11_receiver
          rw [e_Cv (c := 11) S.1.1, e_bd es0, if_pos rfl, e_gI (c := 11) S.1.1, e1102, if_pos ((and4 o d6).mpr g4)]
          rfl
        · rw [sr_neg (fun z => g4 ((and4 o d6).mp z)), sr_r12 hi, sr_r62 M.2.1]
          have fi := Frm.iff R Fo hi hb
          by_cases gf : r.2.1 12 i = r.2.1 62 j
          · have q1 : C_X11_receiver x (some bi) (some u) (some bf) h = some (none, h) := by
              unfold C_X11_receiver
              rw [e_Cv (c := 11) S.1.1, e_bd es0, if_pos rfl, e_gI (c := 11) S.1.1, e1102, if_neg (fun z => g4 ((and4 o d6).mp z)), if_pos (fi.mpr gf)]
              rfl
            rw [sr_pos gf, Sim_l (e_bd q1)]
            unfold C_X11_distribute_J84
            rw [sl_pos rfl]
            unfold C_X11_distribute_J105
            rw [sl_pos rfl]
            exact next h r got D (Or.inl rfl) R GH.rf (dv.mono (by omega)) (by omega) (by omega) (fun _ => rfl)
          · rw [sr_neg gf]
            refine self ?_
            unfold C_X11_receiver
            rw [e_Cv (c := 11) S.1.1, e_bd es0, if_pos rfl, e_gI (c := 11) S.1.1, e1102, if_neg (fun z => g4 ((and4 o d6).mp z)), if_neg (fun z => gf (fi.mp z))]
            rfl
    · rw [if_neg gm, sl_pos rfl, sr_pos rfl]
      unfold C_X11_distribute_J84
      rw [sl_pos rfl]
      unfold C_X11_distribute_J105
      rw [sl_pos rfl]
      exact next h r got D (Or.inl rfl) R GH.rf (dv.mono (by omega)) (by omega) (by omega) (fun _ => rfl)
end DIS
