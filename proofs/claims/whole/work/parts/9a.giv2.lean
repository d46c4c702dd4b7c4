/-! ===== what is paid for: wills that have not come, places where messages may wait ===== -/
def wl (r : RS) (s : Nat) : Nat := if r.2.1 11 s = 1 then (if 0 ≤ r.2.1 20 s then 96 else 0) + (if r.2.1 15 s = -1 then 24 - iN (r.2.1 38 s) else 24) else 0
def WN (r : RS) : Nat := wl r 0 + wl r 1 + wl r 2 + wl r 3 + wl r 4 + wl r 5 + wl r 6 + wl r 7 + wl r 8 + wl r 9 + wl r 10 + wl r 11
theorem WN.le {r r' : RS} (h : ∀ s, s < 12 → wl r' s ≤ wl r s) : WN r' ≤ WN r := by
  unfold WN
  have h0 := h 0 (by omega)
  have h1 := h 1 (by omega)
  have h2 := h 2 (by omega)
  have h3 := h 3 (by omega)
  have h4 := h 4 (by omega)
  have h5 := h 5 (by omega)
  have h6 := h 6 (by omega)
  have h7 := h 7 (by omega)
  have h8 := h 8 (by omega)
  have h9 := h 9 (by omega)
  have h10 := h 10 (by omega)
  have h11 := h 11 (by omega)
  omega
theorem WN.lt {r r' : RS} {s d : Nat} (h : ∀ s, s < 12 → wl r' s ≤ wl r s) (hs : s < 12) (hlt : wl r' s + d ≤ wl r s) : WN r' + d ≤ WN r := by
  unfold WN
  have h0 := h 0 (by omega)
  have h1 := h 1 (by omega)
  have h2 := h 2 (by omega)
  have h3 := h 3 (by omega)
  have h4 := h 4 (by omega)
  have h5 := h 5 (by omega)
  have h6 := h 6 (by omega)
  have h7 := h 7 (by omega)
  have h8 := h 8 (by omega)
  have h9 := h 9 (by omega)
  have h10 := h 10 (by omega)
  have h11 := h 11 (by omega)
  rcases (by omega : s = 0 ∨ s = 1 ∨ s = 2 ∨ s = 3 ∨ s = 4 ∨ s = 5 ∨ s = 6 ∨ s = 7 ∨ s = 8 ∨ s = 9 ∨ s = 10 ∨ s = 11) with g | g | g | g | g | g | g | g | g | g | g | g <;> subst g <;> omega
theorem Ro.wn {S : List Nat} {r r' : RS} (w : Ro S r r') (h1 : 11 ∉ S) (h2 : 20 ∉ S) (h3 : 15 ∉ S) (h4 : 38 ∉ S) : WN r' ≤ WN r := WN.le (fun s' _ => by
  unfold wl
  rw [w.gA h1, w.gA h2, w.gA h3, w.gA h4]
  exact Nat.le_refl _)
/-- a message of quality 1 or 2 for a session that is online -/
def oq (r : RS) (s j : Nat) : Nat := if r.2.1 60 j = 0 ∨ r.2.1 15 s = -1 then 0 else 1
/-! ===== a message is given to a subscription, by both: hand and deliver ===== -/
/-- what giving a message to a subscription may change -/
def hF : List Nat := [204, 205, 206, 300, 301, 302, 303, 304, 305, 1006, 1008, 1104, 1105, 1200, 1202, 1312]
def hS : List Nat := [2, 3, 4, 29, 30, 31, 32, 33, 34, 35, 36, 37, 38, 39, 40, 41, 42, 68, 70, 88, 89, 90, 91]
def GH (x : Nat) (h h' : Hp) (r r' : RS) : Prop := Fm x hF (gA x h) h h' ∧ Ro hS r r' ∧ har h' (x + 34) = har h (x + 34)
theorem GH.tr {x : Nat} {h h1 h2 : Hp} {r r1 r2 : RS} (p : GH x h h1 r r1) (q : GH x h1 h2 r1 r2) : GH x h h2 r r2 := by
  have e : gA x h1 = gA x h := by
    unfold gA
    rw [p.2.2]
  refine ⟨p.1.tr ?_, p.2.1.tr q.2.1, q.2.2.trans p.2.2⟩
  have := q.1
  rwa [e] at this
theorem GF.gh {x : Nat} {h h' : Hp} {r r' : RS} (p : GF x h h' r r') : GH x h h' r r' := ⟨p.1.sub (by decide) (fun _ z => z), p.2.1.sub (by decide), p.2.2⟩
theorem GH.rf {x : Nat} {h : Hp} {r : RS} : GH x h h r r := ⟨Fm.rf, Ro.rf, rfl⟩
section GIW
variable {x ec es s b n k u m j fl : Nat} {e0 : Int32} {h : Hp} {r : RS}
theorem and8 : ∀ o, o < 64 → (nn o &&& (8 : Int32) = 0 ↔ o / 8 % 2 = 0) := by decide +kernel
/-- the flag that is sent: always on what was kept, else as it came if that is wanted -/
def flg (old rt o : Nat) : Nat := if old = 1 then 1 else if o / 8 % 2 = 0 then 0 else rt
theorem sim_give {old : Nat} (R : Rel x ec es 96 e0 h r) (hs : s < 12) (hb : har h (x + 34) s = some b) (hn : r.2.1 24 s = nn n) (hn2 : n ≤ 8) (hk : k < n) (hu : har h (b + 1) k = some u) (hM : MpT x h r m j) (hj : j < 640) (hold : old ≤ 1)
    (hfl : ∀ o rt, r.2.1 27 (8 * s + k) = nn o → o < 64 → r.2.1 61 j = nn rt → rt ≤ 1 → fl = flg old rt o)
    (hW : ∀ s' b', s' < 12 → har h (x + 34) s' = some b' → hfr h 1011 b' ≠ some m ∧ r.2.1 20 s' ≠ nn j) :
    ∃ o h1 h' r', C_X11_hand x (some b) (some u) (some m) (nn old) h = some (o, h1) ∧ (o = none → h' = h1) ∧ (∀ d, o = some d → C_X11_deliver x (some b) (some d) 0 h1 = some ((), h')) ∧ R_deliver (nn (8 * s + k)) (nn j) (nn fl) r = some ((), r') ∧ Rel x ec es (8 * s + k) e0 h' r' ∧ GH x h h' r r' ∧ (hcs h').1 + WN r' ≤ (hcs h).1 + WN r + oq r s j ∧ (hcs h').2 + 6 * WN r' ≤ (hcs h).2 + 6 * WN r + 6 * oq r s j ∧ hfi h' 1105 u = hfi h 1311 x := by
  have T := R.st
  have hx := T.1
  have S0 := R.ses hs hb
  have T0 := S0.1
  have V0 := S0.2.2.1
  have Y0 := S0.2.2.2.2.2.1
  have Q0 := S0.2.2.2.2.2.2.1
  have hb2 := T0.2.1
  have hb4 := T0.2.2.1
  obtain ⟨u', hu', bs, st, o, id, ⟨⟨d1, d1', d1''⟩, d2⟩, d3, ⟨d4, d5, d6, d7⟩, ⟨d8, d9, d10⟩, d11, d12⟩ := S0.2.2.2.2.1.get hn hn2 hk
  rw [hu] at hu'
  cases hu'
  obtain ⟨V, v1, v2, v3⟩ := hM.1
  obtain ⟨mq, hmq⟩ : ∃ mq, mq = V.2.2.2.2.2.1 := ⟨_, rfl⟩
  obtain ⟨rt0, hrt0⟩ : ∃ z, z = V.2.2.2.2.2.2.1 := ⟨_, rfl⟩
  have q502 : hfi h 502 m = nn mq := by rw [hmq]; exact v1.2.2.2.2.2.2.2.2.1
  have q503 : hfi h 503 m = nn rt0 := by rw [hrt0]; exact v1.2.2.2.2.2.2.2.2.2.1
  have q60 : r.2.1 60 j = nn mq := by rw [hmq]; exact v2.2.2.2.2.2.2.1
  have q61 : r.2.1 61 j = nn rt0 := by rw [hrt0]; exact v2.2.2.2.2.2.2.2.1
  have hmq2 : mq ≤ 2 := by rw [hmq]; exact v3.2.2.1
  have hrt1 : rt0 ≤ 1 := by rw [hrt0]; exact v3.2.2.2.1
  have efl := hfl o rt0 d5 d6 q61 hrt1
  have hfl1 : fl ≤ 1 := by
    rw [efl]
    unfold flg
    split
    · omega
    · split <;> omega
  obtain ⟨q, hq⟩ : ∃ q, q = min mq (o % 4) := ⟨_, rfl⟩
  have hq2 : q ≤ 2 := by omega
  obtain ⟨ny, y1, y2, y3, y4, y5⟩ := Y0
  obtain ⟨nq, w1, w2, w3, w4⟩ := Q0
  have m6 := v1.1
  have hum : u ≠ m := fun e => by rw [e, m6] at d1; omega
  -- the class's state behind got and last
  obtain ⟨hg, ehg⟩ : ∃ hg, hg = sfi (sfi h 1104 u (hfi h 1104 u + 1)) 1105 u (hfi h 1311 x) := ⟨_, rfl⟩
  obtain ⟨rg, erg⟩ : ∃ rg, rg = sA r 29 (8 * s + k) (r.2.1 29 (8 * s + k) + 1) := ⟨_, rfl⟩
  have RG : Rel x ec es (8 * s + k) e0 hg rg := by rw [ehg, erg]; exact R.got hs hb hn hn2 hk hu
  have pg : Fm x [1104, 1105] (fun _ => False) h hg := by
    rw [ehg]
    refine Fm.fi (Fm.fi Fm.rf ?_ ?_) ?_ ?_
    all_goals exact Or.inl (by decide)
  have wg : Ro [29] r rg := by rw [erg]; exact Ro.rf.a (by decide)
  have nxg : hnx hg = hnx h := by rw [ehg]; rfl
  have csg : hcs hg = hcs h := by rw [ehg]; rfl
  have kdg : hkd hg = hkd h := by rw [ehg]; rfl
  have arg : har hg = har h := by rw [ehg]; rfl
  have frg : hfr hg = hfr h := by rw [ehg]; rfl
  have lg5 : hfi hg 1105 u = hfi h 1311 x := by rw [ehg, hfi_sfi, if_pos ⟨rfl, rfl⟩]
  have gg : ∀ f a, f ∉ [1104, 1105] → hfi hg f a = hfi h f a := fun f a hf => by
    simp only [List.mem_cons, List.not_mem_nil, or_false] at hf
    rw [ehg, hfi_sfi, if_neg (by omega), hfi_sfi, if_neg (by omega)]
  have hbg : har hg (x + 34) s = some b := by rw [arg]; exact hb
  have MG : MpT x hg rg m j := hM.to pg wg (by decide) (by decide)
  have SG := RG.ses hs hbg
  have GFg : GH x h hg r rg := ⟨pg.sub (by decide) (fun a ha => ha.elim), wg.sub (by decide), by rw [arg]⟩
  have goneq : gon rg j = gon r j := by
    unfold gon
    rw [wg.gL (by decide), wg.gI (by decide), wg.gA (by decide)]
  have mayeq : may rg s = may r s := by
    unfold may
    rw [wg.gA (by decide), wg.gA (by decide), wg.gA (by decide)]
  have tmg : hfi hg 1309 x = rg.1 66 := RG.2.1.2.1
  have tb : ∃ t, t ≤ 1073741823 ∧ rg.1 66 = nn t := RG.2.1.1
  have hnt : ∀ z, rg.2.1 31 s = nn z → z ≤ 16 → z = ny := fun z e1 e2 => nn_inj (by omega) (by omega) (by rw [← e1, wg.gA (by decide), y3])
  have n31 : rg.2.1 31 s = nn ny := by rw [wg.gA (by decide)]; exact y3
  have n38 : rg.2.1 38 s = nn nq := by rw [wg.gA (by decide)]; exact w3
  have hWg : ∀ s' b', s' < 12 → har hg (x + 34) s' = some b' → hfr hg 1011 b' ≠ some m ∧ rg.2.1 20 s' ≠ nn j := fun s' b' h1 h2 => by
    rw [arg] at h2
    rw [frg, wg.gA (by decide)]
    exact hW s' b' h1 h2
  -- the goal, for what follows got
  obtain ⟨Φ, hΦ⟩ : ∃ Φ : Hp → RS → Prop, Φ = fun h' r' => Rel x ec es (8 * s + k) e0 h' r' ∧ GH x h h' r r' ∧ (hcs h').1 + WN r' ≤ (hcs h).1 + WN r + oq r s j ∧ (hcs h').2 + 6 * WN r' ≤ (hcs h).2 + 6 * WN r + 6 * oq r s j ∧ hfi h' 1105 u = hfi h 1311 x := ⟨_, rfl⟩
  have last : ∀ h' r', Rel x ec es (8 * s + k) e0 h' r' → GH x hg h' rg r' → hfi h' 1105 u = hfi hg 1105 u → (hcs h').1 + WN r' ≤ (hcs hg).1 + WN rg + oq r s j → (hcs h').2 + 6 * WN r' ≤ (hcs hg).2 + 6 * WN rg + 6 * oq r s j → Φ h' r' := by
    intro h' r' a1 a2 a3 a4 a5
    rw [csg] at a4 a5
    rw [hΦ]
    have wng : WN rg ≤ WN r := Ro.wn wg (by decide) (by decide) (by decide) (by decide)
    exact ⟨a1, GFg.tr a2, by omega, by omega, a3.trans lg5⟩
  -- class: from the flag on
  have cl : ∀ (o' : Option Nat) (h1 h' : Hp) (r' : RS), C_X11_hand_J60 x (some b) (some u) (some m) (nn q) (nn fl) hg = some (o', h1) → (o' = none → h' = h1) → (∀ d, o' = some d → C_X11_deliver x (some b) (some d) 0 h1 = some ((), h')) → R_deliver (nn (8 * s + k)) (nn j) (nn fl) r = some ((), r') → Φ h' r' →
      ∃ o h1 h' r', C_X11_hand x (some b) (some u) (some m) (nn old) h = some (o, h1) ∧ (o = none → h' = h1) ∧ (∀ d, o = some d → C_X11_deliver x (some b) (some d) 0 h1 = some ((), h')) ∧ R_deliver (nn (8 * s + k)) (nn j) (nn fl) r = some ((), r') ∧ Rel x ec es (8 * s + k) e0 h' r' ∧ GH x h h' r r' ∧ (hcs h').1 + WN r' ≤ (hcs h).1 + WN r + oq r s j ∧ (hcs h').2 + 6 * WN r' ≤ (hcs h).2 + 6 * WN r + 6 * oq r s j ∧ hfi h' 1105 u = hfi h 1311 x := by
    intro o' h1 h' r' a1 a2 a3 a4 a5
    rw [hΦ] at a5
    refine ⟨o', h1, h', r', ?_, a2, a3, a4, a5⟩
    rw [← a1]
    unfold C_X11_hand
    have kx : hkd h x = 14 := T.2.1.1
    rw [e_gI (c := 11) d1, e_pI (c := 11) d1, e_gI (c := 13) (by exact kx)]
    show hpI 11 5 (some u) (hfi (sfi h 1104 u (hfi h 1104 u + 1)) 1311 x) _ (sfi h 1104 u (hfi h 1104 u + 1)) = _
    rw [hfi_sfi, if_neg (by omega), e_pI (c := 11) (by exact d1)]
    show hgI 5 2 (some m) _ (sfi (sfi h 1104 u (hfi h 1104 u + 1)) 1105 u (hfi h 1311 x)) = _
    rw [← ehg, e_gI (c := 5) (by rw [kdg]; exact m6), e_gI (c := 11) (by rw [kdg]; exact d1)]
    show lq (imin (hfi hg 502 m) (hfi hg 1102 u &&& (3 : Int32))) _ hg = _
    rw [gg 502 m (by decide), gg 1102 u (by decide), q502, d4, and3 (by omega), imin_nn (by omega) (by omega), ← hq]
    unfold lq
    dsimp only
    have J55 : fl = 1 → C_X11_hand_J55 x (some b) (some u) (some m) (nn q) hg = C_X11_hand_J60 x (some b) (some u) (some m) (nn q) (nn fl) hg := fun e => by rw [e]; rfl
    have J59 : fl = 0 → C_X11_hand_J59 x (some b) (some u) (some m) (nn q) hg = C_X11_hand_J60 x (some b) (some u) (some m) (nn q) (nn fl) hg := fun e => by rw [e]; rfl
    unfold flg at efl
    by_cases g1 : old = 1
    · rw [if_pos g1] at efl
      rw [if_neg (by rw [g1]; decide)]
      exact J55 efl
    · have g0 : old = 0 := by omega
      rw [if_neg g1] at efl
      have e503 : hfi hg (100 * 5 + 3) m = nn rt0 := (gg 503 m (by decide)).trans q503
      have e1102 : hfi hg (100 * 11 + 2) u = nn o := (gg 1102 u (by decide)).trans d4
      rw [if_pos (by rw [g0]; rfl), e_gI (c := 5) (by rw [kdg]; exact m6), e503]
      by_cases g2 : rt0 = 0
      · rw [if_pos (by rw [g2]; rfl)]
        refine J59 ?_
        rw [efl, g2]
        split <;> rfl
      · rw [if_neg (show ¬ nn rt0 = (0 : Int32) from fun e => g2 (nn_inj (by omega) (by omega) e)), e_gI (c := 11) (by rw [kdg]; exact d1)]
        rw [e1102]
        by_cases g3 : o / 8 % 2 = 0
        · rw [if_pos ((and8 o d6).mpr g3)]
          exact J59 (by rw [efl, if_pos g3])
        · rw [if_neg (fun e => g3 ((and8 o d6).mp e))]
          exact J55 (by rw [efl, if_neg g3]; omega)
  -- model: behind got
  have ml : ∀ (Q : Unit → RS → Prop), wp (if nn q = 0 then (rA 15 (nn s) fun v15 => if v15 < 0 then rt () else (bd (R_gone (nn j)) fun r16 => if r16 = 0 then (rA 28 (nn (8 * s + k)) fun v17 => bd (R_sendPublish (nn s) (nn j) (0 : Int32) (nn fl) v17 (0 : Int32) (0 : Int32)) fun _ => rt ()) else rt ())) else (rA 38 (nn s) fun v11 => if v11 = 0 then (bd (R_mayGo (nn s)) fun r12 => if r12 = 0 then R_deliver_J117 (nn (8 * s + k)) (nn j) (nn fl) (nn s) (nn q) else (rA 28 (nn (8 * s + k)) fun v13 => bd (R_begin (nn s) (nn j) (nn q) (nn fl) v13) fun _ => rt ())) else R_deliver_J117 (nn (8 * s + k)) (nn j) (nn fl) (nn s) (nn q))) rg Q → wp (R_deliver (nn (8 * s + k)) (nn j) (nn fl)) r Q := by
    intro Q hQ
    unfold R_deliver
    have e8 : (8 * s + k) / 8 = s := by omega
    rw [l_8, nn_div (by omega) (by omega), e8, wp_lq, wr_60 hj, q60, wr_27 (by omega), d5, and3 (by omega), imin_nn (by omega) (by omega), ← hq, wp_lq, wr_29 (by omega), ww_29 (by omega), ← erg]
    exact hQ
  have i28 : rg.2.1 28 (8 * s + k) = nn id := by rw [wg.gA (by decide)]; exact d9
  have kb : hkd hg b = 11 := by rw [kdg]; exact T0.1
  have kx : hkd hg x = 14 := by rw [kdg]; exact T.2.1.1
  have kd : hkd hg u = 12 := by rw [kdg]; exact d1
  have km : hkd hg m = 6 := by rw [kdg]; exact m6
  have e8g : hfi hg 1008 b = nn nq := by rw [gg 1008 b (by decide)]; exact w2
  have id3 : hfi hg 1103 u = nn id := by rw [gg 1103 u (by decide)]; exact d8
  have gonC : ∀ tm, tm = rg.1 66 → C_X3_isGone m tm hg = some (if gon r j = true then 1 else 0, hg) := fun tm e => by
    rw [← goneq]
    exact qc_gone MG tb e
  have GFr : GH x hg hg rg rg := ⟨Fm.rf, Ro.rf, rfl⟩
  -- a new delivery
  have hd4 : hnx hg < hnx (ndl hg m q fl id) := by rw [ndl.rd.2.2.2.2.2.2.1]; omega
  have RN : Rel x ec es (8 * s + k) e0 (ndl hg m q fl id) rg := RG.newd
  have pn : Fm x [] (fun _ => False) hg (ndl hg m q fl id) := ndl.fm
  have MN : MpT x (ndl hg m q fl id) rg m j := MG.to pn (Ro.rf (S := [])) (by simp) (by simp)
  have hbn : har (ndl hg m q fl id) (x + 34) s = some b := by rw [ndl.rd.2.2.2.2.2.2.2.1]; exact hbg
  have hWn : ∀ s' b', s' < 12 → har (ndl hg m q fl id) (x + 34) s' = some b' → hfr (ndl hg m q fl id) 1011 b' ≠ some m ∧ rg.2.1 20 s' ≠ nn j := fun s' b' h1 h2 => by
    rw [ndl.rd.2.2.2.2.2.2.2.1] at h2
    have := SesA.lt RG.2.2.2.2.1 h1 h2
    rw [pn.gr (by simp) (by omega)]
    exact hWg s' b' h1 h2
  have GFn : GF x hg (ndl hg m q fl id) rg rg := ⟨pn.sub (fun f hf => by cases hf) (fun a ha => ha.elim), Ro.rf, by rw [ndl.rd.2.2.2.2.2.2.2.1]⟩
  have un : u < hnx hg := by rw [nxg]; exact d1''
  have J157 : ∀ now : Int32, q ≠ 0 → C_X11_hand_J157 x (some b) (some u) (some m) (nn q) (nn fl) now hg = (if now = 0 then hCv 10 (some b) (fun a => C_X8_queue a (some (hnx hg))) (fun _ => rt none) else if nn q ≤ 0 then C_X11_hand_J216 x (some (hnx hg)) else hCv 10 (some b) (fun a => C_X8_depart a (some (hnx hg))) (fun _ => C_X11_hand_J216 x (some (hnx hg)))) (ndl hg m q fl id) := by
    intro now hq0
    unfold C_X11_hand_J157
    rw [if_neg (show ¬ nn q = (0 : Int32) from fun e => hq0 (nn_inj (by omega) (by omega) e))]
    show bd (C_X1_init (hnx hg)) (fun _ => C_X11_hand_J176 x (some b) (some u) (some m) (nn q) (nn fl) now (some (hnx hg))) (hob hg 3 6) = _
    have ei : C_X1_init (hnx hg) (hob hg 3 6) = some ((), hob hg 3 6) := rfl
    rw [e_bd ei]
    unfold C_X11_hand_J176
    have ku : hkd (hob hg 3 6) u = 12 := by rw [hkd_hob, if_neg (by omega)]; exact kd
    have kn : hkd (hob hg 3 6) (hnx hg) = 4 := by rw [hkd_hob, if_pos rfl]
    have e3 : hfi (hob hg 3 6) (100 * 11 + 3) u = nn id := by
      rw [show 100 * 11 + 3 = 1103 from rfl, hfi_hob, if_neg (by omega)]
      exact id3
    rw [e_gI (c := 11) ku, e3, e_Cv (c := 3) kn]
    have eb : C_X1_become (hnx hg) (some m) (nn q) (nn fl) (nn id) (hob hg 3 6) = some ((), ndl hg m q fl id) := by
      unfold C_X1_become
      rw [e_pR (c := 3) kn, e_pI (c := 3) (by exact kn), e_pZ (c := 3) (by
        have : fl = 0 ∨ fl = 1 := by omega
        rcases this with rfl | rfl
        · exact Or.inl rfl
        · exact Or.inr rfl) (by exact kn), e_pI (c := 3) (by exact kn)]
      rfl
    rw [e_bd eb]
  have csn1 : (hcs (ndl hg m q fl id)).1 = (hcs hg).1 + 1 := ndl.rd.2.2.2.2.2.2.2.2.1
  have csn2 : (hcs (ndl hg m q fl id)).2 = (hcs hg).2 + 6 := ndl.rd.2.2.2.2.2.2.2.2.2
  have l5n : hfi (ndl hg m q fl id) 1105 u = hfi hg 1105 u := pn.gi (by simp) un
  -- not now: dropped, or it waits
  have waits : q ≠ 0 → C_X11_hand_J60 x (some b) (some u) (some m) (nn q) (nn fl) hg = C_X11_hand_J131 x (some b) (some u) (some m) (nn q) (nn fl) 0 hg → (∀ Q, wp (R_deliver_J117 (nn (8 * s + k)) (nn j) (nn fl) (nn s) (nn q)) rg Q → wp (R_deliver (nn (8 * s + k)) (nn j) (nn fl)) r Q) →
      ∃ o h1 h' r', C_X11_hand x (some b) (some u) (some m) (nn old) h = some (o, h1) ∧ (o = none → h' = h1) ∧ (∀ d, o = some d → C_X11_deliver x (some b) (some d) 0 h1 = some ((), h')) ∧ R_deliver (nn (8 * s + k)) (nn j) (nn fl) r = some ((), r') ∧ Rel x ec es (8 * s + k) e0 h' r' ∧ GH x h h' r r' ∧ (hcs h').1 + WN r' ≤ (hcs h).1 + WN r + oq r s j ∧ (hcs h').2 + 6 * WN r' ≤ (hcs h).2 + 6 * WN r + 6 * oq r s j ∧ hfi h' 1105 u = hfi h 1311 x := by
    intro hq0 eJ eM
    have em : ∀ r', wp (R_deliver_J117 (nn (8 * s + k)) (nn j) (nn fl) (nn s) (nn q)) rg (fun _ z => z = r') → R_deliver (nn (8 * s + k)) (nn j) (nn fl) r = some ((), r') := fun r' z => by
      obtain ⟨v, r2, e1, e2⟩ := eM _ z
      rw [e1, e2]
    have e1008 : hfi hg (100 * 10 + 8) b = nn nq := e8g
    have qcost : nq ≠ 24 → WN (queM rg s nq j q fl id) + 1 ≤ WN rg + oq r s j := fun hn24 => by
      have e38 : ∀ s', (queM rg s nq j q fl id).2.1 38 s' = if s' = s then nn (nq + 1) else rg.2.1 38 s' := fun s' => by
        unfold queM
        rw [sA_o (by decide), sA_o (by decide), sA_o (by decide), sA_o (by decide), sA_2]
        by_cases z : s' = s
        · rw [if_pos ⟨rfl, z⟩, if_pos z]
        · rw [if_neg (fun y => z y.2), if_neg z]
      have e11 : (queM rg s nq j q fl id).2.1 11 = rg.2.1 11 := queM.ro.gA (by decide)
      have e15 : (queM rg s nq j q fl id).2.1 15 = rg.2.1 15 := queM.ro.gA (by decide)
      have e20 : (queM rg s nq j q fl id).2.1 20 = rg.2.1 20 := queM.ro.gA (by decide)
      have g15 : rg.2.1 15 s = r.2.1 15 s := by rw [wg.gA (by decide)]
      have c11 : rg.2.1 11 s = 1 := by rw [wg.gA (by decide)]; exact ((R.2.2.2.2.1 s hs).at hb).1
      have all : ∀ s', s' < 12 → wl (queM rg s nq j q fl id) s' ≤ wl rg s' := fun s' _ => by
        unfold wl
        rw [e11, e15, e20, e38]
        by_cases z : s' = s
        · subst z
          rw [if_pos rfl, n38, iN_nn (by omega), iN_nn (by omega)]
          by_cases y11 : rg.2.1 11 s' = 1
          · rw [if_pos y11, if_pos y11]
            by_cases y15 : rg.2.1 15 s' = -1
            · rw [if_pos y15, if_pos y15]
              omega
            · rw [if_neg y15, if_neg y15]
              exact Nat.le_refl _
          · rw [if_neg y11, if_neg y11]
            exact Nat.le_refl _
        · rw [if_neg z]
          exact Nat.le_refl _
      by_cases z15 : r.2.1 15 s = -1
      · refine Nat.le_trans (WN.lt (d := 1) all hs ?_) (by omega)
        unfold wl
        rw [e11, e15, e20, e38, if_pos rfl, n38, iN_nn (by omega), iN_nn (by omega), c11, if_pos rfl, if_pos rfl, g15, z15, if_pos rfl, if_pos rfl]
        omega
      · have : oq r s j = 1 := by
          unfold oq
          rw [if_neg]
          rintro (y | y)
          · rw [q60] at y
            have := nn_inj (b := 0) (by omega) (by omega) y
            omega
          · exact z15 y
        have := WN.le all
        omega
    by_cases g24 : nq = 24
    · refine cl none (sfi hg 1312 x (hfi hg 1312 x + 1)) (sfi hg 1312 x (hfi hg 1312 x + 1)) (sI rg 70 (rg.1 70 + 1)) ?_ (fun _ => rfl) (fun d e => by cases e) (em _ ?_) (last _ _ RG.drop ?_ ?_ (by show (hcs hg).1 + WN rg ≤ _; omega) (by show (hcs hg).2 + 6 * WN rg ≤ _; omega))
      · rw [eJ]
        unfold C_X11_hand_J131
        rw [if_pos rfl, e_gI (c := 10) kb, e1008, if_pos (by rw [g24]; rfl), e_gI (c := 13) kx, e_pI (c := 13) kx]
        rfl
      · unfold R_deliver_J117
        rw [wr_38 hs, n38, wp_pos (by rw [l_24, nn_le (by omega) (by omega)]; omega), wp_rI, wp_wI, wp_rt]
      · exact ⟨Fm.fi Fm.rf (Or.inl (by decide)) (Or.inl (by decide)), Ro.rf.i (by decide), rfl⟩
      · rw [hfi_sfi, if_neg (by omega)]
    · refine cl none (qh (ndl hg m q fl id) b (hnx hg) nq) (qh (ndl hg m q fl id) b (hnx hg) nq) (queM rg s nq j q fl id) ?_ (fun _ => rfl) (fun d e => by cases e) (em _ ?_) (last _ _ (RN.que hs hbn n38 (by omega) ⟨ndl.rd.1, by rw [nxg]; omega, hd4⟩ RG.fresh ndl.rd.2.1 MN hj ⟨ndl.rd.2.2.1, by omega, hq2⟩ ⟨ndl.rd.2.2.2.1, hfl1⟩ ⟨ndl.rd.2.2.2.2.1, d10⟩ ndl.rd.2.2.2.2.2.1 hWn) ?_ ?_ ?_ ?_)
      · rw [eJ]
        unfold C_X11_hand_J131
        rw [if_pos rfl, e_gI (c := 10) kb, e1008, if_neg (by rw [l_24]; exact fun e => g24 (nn_inj (by omega) (by omega) e)), J157 0 hq0, if_pos rfl]
        have TN := T0.sto ((pg.1).tr pn.1)
        rw [e_Cv (c := 10) TN.1]
        have e8n : hfi (ndl hg m q fl id) 1008 b = nn nq := by rw [pn.gi (by simp) (by omega)]; exact e8g
        have eq' : wp (C_X8_queue b (some (hnx hg))) (ndl hg m q fl id) (fun _ h2 => h2 = qh (ndl hg m q fl id) b (hnx hg) nq) := by
          unfold C_X8_queue
          obtain ⟨t1, t2, t3, t4, t5, t6, t7, t8⟩ := TN
          rw [wp_gI t1]
          show wp (if (24 : Int32) ≤ hfi (ndl hg m q fl id) 1008 b then _ else _) _ _
          rw [e8n, l_24, wp_neg (by rw [nn_le (by omega) (by omega)]; omega), wp_gR t1, wp_gI t1]
          show wp (hWr 7 3 (hfr (ndl hg m q fl id) 1007 b) (hfi (ndl hg m q fl id) 1008 b) (some (hnx hg)) _) _ _
          rw [t7.1, e8n, wn_Wr1 t7.2.1 (by rw [t7.2.2]; omega) (by omega) ndl.rd.1, wp_gI (by exact t1)]
          show wp (hpI 10 8 (some b) (hfi (ndl hg m q fl id) 1008 b + 1) _) _ _
          rw [e8n, l_1, nn_add, wp_pI (by exact t1), wp_rt]
          rfl
        obtain ⟨v, h2, q1, q2⟩ := eq'
        rw [e_bd q1, q2]
        rfl
      · unfold R_deliver_J117
        rw [wr_38 hs, n38, wp_neg (by rw [l_24, nn_le (by omega) (by omega)]; omega), wr_38 hs, n38, l_1, nn_add, ww_38 hs, l_24, nn_mul, nn_add, wp_lq, ww_39 (by omega), ww_40 (by omega), ww_41 (by omega), wr_28 (by omega)]
        have e28 : (sA (sA (sA (sA rg 38 s (nn (nq + 1))) 39 (24 * s + nq) (nn j)) 40 (24 * s + nq) (nn q)) 41 (24 * s + nq) (nn fl)).2.1 28 (8 * s + k) = nn id := by
          rw [sA_o (by decide), sA_o (by decide), sA_o (by decide), sA_o (by decide)]
          exact i28
        rw [e28, ww_42 (by omega), wp_rt]
        rfl
      · refine GFn.gh.tr ⟨(qh.fm (T0.sto ((pg.1).tr pn.1))).sub (by decide) (fun a ha => Or.inr (Or.inr ⟨s, b, hs, hbn, Or.inr ha⟩)), queM.ro.sub (by decide), ?_⟩
        unfold qh
        rw [har_sfi, har_sar, if_neg (by omega)]
      · unfold qh
        rw [hfi_sfi, if_neg (by omega), hfi_sar]
        exact l5n
      · show (hcs (ndl hg m q fl id)).1 + WN (queM rg s nq j q fl id) ≤ _
        have := qcost (by omega)
        omega
      · show (hcs (ndl hg m q fl id)).2 + 6 * WN (queM rg s nq j q fl id) ≤ _
        have := qcost (by omega)
        omega
  have e1002 : hfr hg (100 * 10 + 2) b = hfr h 1002 b := by rw [frg]
  by_cases hq0 : q = 0
  · have z0 : nn q = (0 : Int32) := by rw [hq0]; rfl
    rcases V0.2.2.2.2 with ⟨c1, c2⟩ | ⟨i, hi, c1, c2, c3⟩
    · -- offline
      refine cl none hg hg rg ?_ (fun _ => rfl) (fun d e => by cases e) ?_ (last hg rg RG GFr rfl (by omega) (by omega))
      · unfold C_X11_hand_J60
        rw [if_pos z0, e_gR (c := 10) kb, e1002, c1, if_pos rfl]
        unfold C_X11_hand_J101
        rw [if_pos rfl]
        unfold C_X11_hand_J119
        rw [if_pos rfl, if_pos z0]
        rfl
      · have := ml (fun _ z => z = rg) (by
          rw [wp_pos z0, wr_15 hs, wg.gA (by decide), c2, wp_pos (by decide), wp_rt])
        obtain ⟨v, r2, e1, e2⟩ := this
        rw [e1, e2]
    · have J60 : C_X11_hand_J60 x (some b) (some u) (some m) (nn q) (nn fl) hg = C_X11_hand_J101 x (some b) (some u) (some m) (nn q) (nn fl) 1 hg := by
        unfold C_X11_hand_J60
        rw [if_pos z0, e_gR (c := 10) kb, e1002, c1, if_neg (fun z => by cases z)]
      have g15 : rg.2.1 15 s = nn i := by rw [wg.gA (by decide)]; exact c2
      by_cases hgo : gon r j = true
      · -- gone
        refine cl none hg hg rg ?_ (fun _ => rfl) (fun d e => by cases e) ?_ (last hg rg RG GFr rfl (by omega) (by omega))
        · rw [J60]
          unfold C_X11_hand_J101
          rw [if_neg (by decide), e_gI (c := 13) kx, e_Cv (c := 5) km]
          have eg := gonC (hfi hg (100 * 13 + 9) x) tmg
          rw [if_pos hgo] at eg
          rw [e_bd eg, if_neg (by decide)]
          rfl
        · have := ml (fun _ z => z = rg) (by
            rw [wp_pos z0, wr_15 hs, g15, wp_neg (nn_nlt0 (by omega)), wp_bd]
            refine wp.get (qm_gone hj) ?_
            rw [goneq, if_pos hgo, wp_neg (by decide), wp_rt])
          obtain ⟨v, r2, e1, e2⟩ := this
          rw [e1, e2]
      · -- sent at once
        obtain ⟨hp, ehp⟩ : ∃ hp, hp = sfi (sfi (sfi (sfr hg 300 (x + 49) (some m)) 301 (x + 49) (nn q)) 302 (x + 49) (nn fl)) 303 (x + 49) (nn id) := ⟨_, rfl⟩
        have kp : hkd hg (x + 49) = 4 := by rw [kdg]; exact T.2.2.2.2.2.1.2.2.2.2.2.1
        have arp : har hp = har hg := by rw [ehp]; rfl
        have RP : Rel x ec es (8 * s + k) e0 hp rg := by
          refine RG.junk (a0 := x + 49) hs hbg ?_ (fun s' b' k' h1 h2 h3 h4 h5 => ?_) (fun f a ha hfa => ?_) (fun a ha => ?_) (fun k' hk' => by rw [arp])
          · rw [ehp]
            refine Sto.fi (Sto.fi (Sto.fi (Sto.fr Sto.rf ?_) ?_) ?_) ?_
            all_goals exact Or.inl (by decide)
          · have SG' := RG.ses h1 h2
            unfold act at h4
            unfold dl at h5
            by_cases g16 : k' < 16
            · rw [if_pos g16] at h4 h5
              obtain ⟨n', a1, a2, a3, a4, a5⟩ := SG'.2.2.2.2.2.1
              rw [a3, iN_nn (by omega)] at h4
              obtain ⟨d', b1, b2⟩ := a4 k' h4
              rw [b1] at h5
              cases h5
              obtain ⟨_, _, _, _, _, _, b3, _⟩ := b2
              have := b3.2.1
              omega
            · rw [if_neg g16] at h4 h5
              obtain ⟨n', a1, a2, a3, a4⟩ := SG'.2.2.2.2.2.2.1
              rw [a3, iN_nn (by omega)] at h4
              obtain ⟨d', b1, b2⟩ := a4 _ h4
              rw [b1] at h5
              cases h5
              obtain ⟨_, _, _, _, _, b3, _⟩ := b2
              have := b3.2.1
              omega
          · have hne : ∀ g, g ∈ [300, 301, 302, 303, 304, 305] → ¬ (f = g ∧ a = x + 49) := fun g hg' z => by
              rcases hfa with y | y
              · exact y z.2
              · exact y (by rw [z.1]; exact hg')
            rw [ehp]
            refine ⟨?_, rfl, ?_⟩
            · rw [hfi_sfi, if_neg (hne 303 (by decide)), hfi_sfi, if_neg (hne 302 (by decide)), hfi_sfi, if_neg (hne 301 (by decide)), hfi_sfr]
            · rw [hfr_sfi, hfr_sfi, hfr_sfi, hfr_sfr, if_neg (hne 300 (by decide))]
          · rw [ehp]
            exact ⟨rfl, rfl, fun _ => rfl⟩
        have pp : Fm x gF (gA x hg) hg hp := by
          rw [ehp]
          refine Fm.fi (Fm.fi (Fm.fi (Fm.fr Fm.rf ?_ ?_) ?_ ?_) ?_ ?_) ?_ ?_
          all_goals exact Or.inl (by decide)
        have GFp : GF x hg hp rg rg := ⟨pp, Ro.rf, by rw [arp]⟩
        have MP : MpT x hp rg m j := MG.to pp Ro.rf (by decide) (by decide : ∀ k ∈ [45, 46, 47, 48, 49, 50, 51, 52, 53, 54, 55, 56, 57, 58, 59, 60, 61, 66], k ∉ ([] : List Nat))
        have frp : hfr hp 1002 b = some (cA x i) := by
          rw [ehp, hfr_sfi, hfr_sfi, hfr_sfi, hfr_sfr, if_neg (by omega), frg]
          exact c1
        have hpf : hkd hp (x + 49) = 4 ∧ hfr hp 300 (x + 49) = some m ∧ hfi hp 301 (x + 49) = nn 0 ∧ hfi hp 302 (x + 49) = nn fl ∧ hfi hp 303 (x + 49) = nn id := by
          rw [ehp]
          simp only [hnx_sfi, hkd_sfi, hln_sfi, hfi_sfi, hfl_sfi, hfr_sfi, hai_sfi, hal_sfi, har_sfi, hcs_sfi, hnx_sfl, hkd_sfl, hln_sfl, hfi_sfl, hfl_sfl, hfr_sfl, hai_sfl, hal_sfl, har_sfl, hcs_sfl, hnx_sfr, hkd_sfr, hln_sfr, hfi_sfr, hfl_sfr, hfr_sfr, hai_sfr, hal_sfr, har_sfr, hcs_sfr, hnx_sai, hkd_sai, hln_sai, hfi_sai, hfl_sai, hfr_sai, hai_sai, hal_sai, har_sai, hcs_sai, hnx_sal, hkd_sal, hln_sal, hfi_sal, hfl_sal, hfr_sal, hai_sal, hal_sal, har_sal, hcs_sal, hnx_sar, hkd_sar, hln_sar, hfi_sar, hfl_sar, hfr_sar, hai_sar, hal_sar, har_sar, hcs_sar, hnx_hob, hkd_hob, hln_hob, hfi_hob, hfl_hob, hfr_hob, hai_hob, hal_hob, har_hob, hc1_hob, hc2_hob, hnx_hay, hkd_hay, hln_hay, hfi_hay, hfl_hay, hfr_hay, hai_hay, hal_hay, har_hay, hc1_hay, hc2_hay, hnx_hsk, hkd_hsk, hln_hsk, hfi_hsk, hfl_hsk, hfr_hsk, hai_hsk, hal_hsk, har_hsk, hc1_hsk, hc2_hsk]
          rw [← hq0]
          simp [kp]
        obtain ⟨h', v', r', k1, k2, k3, k4, k5, k6⟩ := sim_pass0 RP hs (by rw [arp]; exact hbg) n31 y1 hi frp g15 (by rw [wg.gA (by decide)]; exact c3) hpf MP hj hfl1 d10
        have csp : hcs hp = hcs hg := by rw [ehp]; rfl
        refine cl (some (x + 49)) hp h' r' ?_ (fun e => by cases e) (fun d e => by cases e; exact k1) ?_ (last h' r' k3 (GFp.tr k4).gh ?_ (by rw [k5, csp]; have := Ro.wn k4.2.1 (by decide) (by decide) (by decide) (by decide); omega) (by rw [k5, csp]; have := Ro.wn k4.2.1 (by decide) (by decide) (by decide) (by decide); omega))
        · rw [J60]
          unfold C_X11_hand_J101
          rw [if_neg (by decide), e_gI (c := 13) kx, e_Cv (c := 5) km]
          have eg := gonC (hfi hg (100 * 13 + 9) x) tmg
          rw [if_neg hgo] at eg
          rw [e_bd eg, if_pos rfl]
          unfold C_X11_hand_J119
          rw [if_neg (by decide)]
          unfold C_X11_hand_J131
          rw [if_neg (by decide)]
          unfold C_X11_hand_J157
          have e7 : hfr hg (100 * 13 + 7) x = some (x + 49) := by rw [frg]; exact T.2.1.2.2.2.2.2.2.2.2.1
          have e3 : hfi hg (100 * 11 + 3) u = nn id := id3
          rw [if_pos z0, e_gR (c := 13) kx, e7]
          unfold C_X11_hand_J176
          rw [e_gI (c := 11) kd, e3, e_Cv (c := 3) kp]
          have eb : C_X1_become (x + 49) (some m) (nn q) (nn fl) (nn id) hg = some ((), hp) := by
            unfold C_X1_become
            rw [e_pR (c := 3) kp, e_pI (c := 3) (by exact kp), e_pZ (c := 3) (by
              have : fl = 0 ∨ fl = 1 := by omega
              rcases this with rfl | rfl
              · exact Or.inl rfl
              · exact Or.inr rfl) (by exact kp), e_pI (c := 3) (by exact kp), ehp]
            rfl
          rw [e_bd eb, if_neg (by decide), if_pos (by rw [hq0]; decide)]
          rfl
        · have := ml (fun _ z => z = r') (by
            rw [wp_pos z0, wr_15 hs, g15, wp_neg (nn_nlt0 (by omega)), wp_bd]
            refine wp.get (qm_gone hj) ?_
            rw [goneq, if_neg hgo, wp_pos rfl, wr_28 (by omega), i28, wp_bd]
            refine wp.get k2 ?_
            rw [wp_rt])
          obtain ⟨v, r2, e1, e2⟩ := this
          rw [e1, e2]
        · have u1 : u < hnx hp := by
            have := pp.1.1
            omega
          have e1 : hfi h' 1105 u = hfi hp 1105 u := k4.1.gi (by decide) u1
          rw [e1, ehp]
          simp only [hfi_sfi, hfi_sfr]
          simp
  · have z0 : ¬ nn q = (0 : Int32) := fun e => hq0 (nn_inj (by omega) (by omega) e)
    have e1008 : hfi hg (100 * 10 + 8) b = nn nq := e8g
    by_cases hnq : nq = 0
    · have zq : nn nq = (0 : Int32) := by rw [hnq]; rfl
      have TG := SG.1
      have em := qc_may TG SG.2.2.1 SG.2.2.2.2.2.1
      have mm := qm_may (r := rg) hs
      by_cases hma : may rg s
      · rw [if_pos hma] at em mm
        have J60 : C_X11_hand_J60 x (some b) (some u) (some m) (nn q) (nn fl) hg = C_X11_hand_J101 x (some b) (some u) (some m) (nn q) (nn fl) 1 hg := by
          unfold C_X11_hand_J60
          rw [if_neg z0, e_gI (c := 10) kb, e1008, if_pos zq, e_Cv (c := 10) kb, e_bd em, if_neg (by decide)]
        by_cases hgo : gon r j = true
        · refine cl none hg hg rg ?_ (fun _ => rfl) (fun d e => by cases e) ?_ (last hg rg RG GFr rfl (by omega) (by omega))
          · rw [J60]
            unfold C_X11_hand_J101
            rw [if_neg (by decide), e_gI (c := 13) kx, e_Cv (c := 5) km]
            have eg := gonC (hfi hg (100 * 13 + 9) x) tmg
            rw [if_pos hgo] at eg
            rw [e_bd eg, if_neg (by decide)]
            rfl
          · have := ml (fun _ z => z = rg) (by
              rw [wp_neg z0, wr_38 hs, n38, wp_pos zq, wp_bd]
              refine wp.get mm ?_
              rw [wp_neg (by decide), wr_28 (by omega), i28, wp_bd]
              unfold R_begin
              rw [wp_bd]
              refine wp.get (qm_gone hj) ?_
              rw [goneq, if_pos hgo, wp_neg (by decide), wp_rt, wp_rt])
            obtain ⟨v, r2, e1, e2⟩ := this
            rw [e1, e2]
        · have hgf : gon rg j = false := by
            rw [goneq]
            simpa using hgo
          obtain ⟨h1, h', r', k1, k2, k3, k4, k5, k6, k7⟩ := sim_begin RN hs hbn n31 y1 hma ⟨ndl.rd.1, by rw [nxg]; omega, hd4⟩ RG.fresh ndl.rd.2.1 MN hj ⟨ndl.rd.2.2.1, by omega, hq2⟩ ⟨ndl.rd.2.2.2.1, hfl1⟩ ⟨ndl.rd.2.2.2.2.1, d10⟩ ndl.rd.2.2.2.2.2.1 hWn hgf
          have oq1 : oq r s j = 1 := by
            obtain ⟨_, i0, i1, i2, i3, i4⟩ := may.lt hma SG.2.2.1 n31 y1
            unfold oq
            rw [if_neg]
            rintro (y | y)
            · rw [q60] at y
              have := nn_inj (b := 0) (by omega) (by omega) y
              omega
            · have h0 : 0 ≤ nn i0 := nn_ge (by omega)
              rw [← i3, wg.gA (by decide), y] at h0
              exact absurd h0 (by decide)
          refine cl (some (hnx hg)) h1 h' r' ?_ (fun e => by cases e) (fun d e => by cases e; exact k2) ?_ (last h' r' k4 (GFn.tr k5).gh ?_ (by rw [k6]; have := Ro.wn k5.2.1 (by decide) (by decide) (by decide) (by decide); omega) (by rw [k6]; have := Ro.wn k5.2.1 (by decide) (by decide) (by decide) (by decide); omega))
          · rw [J60]
            unfold C_X11_hand_J101
            rw [if_neg (by decide), e_gI (c := 13) kx, e_Cv (c := 5) km]
            have eg := gonC (hfi hg (100 * 13 + 9) x) tmg
            rw [if_neg hgo] at eg
            rw [e_bd eg, if_pos rfl]
            unfold C_X11_hand_J119
            rw [if_neg (by decide)]
            unfold C_X11_hand_J131
            rw [if_neg (by decide), J157 1 hq0, if_neg (by decide), if_neg (by rw [show (0 : Int32) = nn 0 from rfl, nn_le (by omega) (by omega)]; omega)]
            have TN := T0.sto ((pg.1).tr pn.1)
            rw [e_Cv (c := 10) TN.1, e_bd k1]
            rfl
          · have := ml (fun _ z => z = r') (by
              rw [wp_neg z0, wr_38 hs, n38, wp_pos zq, wp_bd]
              refine wp.get mm ?_
              rw [wp_neg (by decide), wr_28 (by omega), i28, wp_bd]
              refine wp.get k3 ?_
              rw [wp_rt])
            obtain ⟨v, r2, e1, e2⟩ := this
            rw [e1, e2]
          · rw [k5.1.gi (by decide) (by omega)]
            exact l5n
      · rw [if_neg hma] at em mm
        refine waits hq0 ?_ (fun Q hQ => ml Q ?_)
        · unfold C_X11_hand_J60
          rw [if_neg z0, e_gI (c := 10) kb, e1008, if_pos zq, e_Cv (c := 10) kb, e_bd em, if_pos rfl]
          unfold C_X11_hand_J100 C_X11_hand_J101
          rw [if_pos rfl]
          unfold C_X11_hand_J119
          rw [if_pos rfl, if_neg z0]
        · rw [wp_neg z0, wr_38 hs, n38, wp_pos zq, wp_bd]
          refine wp.get mm ?_
          rw [wp_pos rfl]
          exact hQ
    · have zq : ¬ nn nq = (0 : Int32) := fun e => hnq (nn_inj (by omega) (by omega) e)
      refine waits hq0 ?_ (fun Q hQ => ml Q ?_)
      · unfold C_X11_hand_J60
        rw [if_neg z0, e_gI (c := 10) kb, e1008, if_neg zq]
        unfold C_X11_hand_J100 C_X11_hand_J101
        rw [if_pos rfl]
        unfold C_X11_hand_J119
        rw [if_pos rfl, if_neg z0]
      · rw [wp_neg z0, wr_38 hs, n38, wp_neg zq]
        exact hQ
end GIW
