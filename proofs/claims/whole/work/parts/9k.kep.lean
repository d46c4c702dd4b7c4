/-! ===== what is kept ===== -/
section KEP
variable {x ec es ew m j : Nat} {e0 : Int32} {h h' : Hp} {r r' : RS} {ks : List Nat}
/-- changes of the store alone -/
theorem Rel.store (R : Rel x ec es ew e0 h r) (p : Fm x [801] (fun a => a = x + 36) h h') (w : Ro [64, 65] r r') (K' : Kep x h' r') (hk : hkd h' = hkd h) (ha : hai h' = hai h)
    (hW : ∀ s b m j, s < 12 → har h (x + 34) s = some b → hfr h 1011 b = some m → r.2.1 20 s = nn j → (∀ k, k < iN (hfi h' 801 (x + 35)) → har h' (x + 36) k ≠ some m) ∧ ∀ k, k < iN (r'.1 65) → r'.2.1 64 k ≠ nn j) : Rel x ec es ew e0 h' r' := by
  obtain ⟨T, G, sm, C, SS, U1, U2, U3, K, U4, f0, bs0, W⟩ := R
  have hx := T.1
  have e34 : har h' (x + 34) = har h (x + 34) := (p.2.2 (x + 34) (by omega) (by omega)).2.1
  have nd : ∀ s b, s < 12 → har h (x + 34) s = some b → ∀ e, ¬ b + e = x + 36 := fun s b h1 h2 e => by
    have := ((SS s h1).at h2).2.1.1.2.1
    omega
  refine ⟨T.sto p.1, ?_, ?_, fun i hi => ?_, fun s' hs' => ?_, U1.fm T SS p w (by omega) (fun s b h1 h2 => ⟨nd s b h1 h2 2, nd s b h1 h2 3⟩) (by decide), U2.fm T SS p w (by omega) (fun s b h1 h2 => nd s b h1 h2 1) (by decide), U3.fm w (by decide), K', ?_, f0, bs0, ?_⟩
  · unfold Glo
    rw [p.gi (f := 1309) (by decide) (by omega), p.gi (f := 1310) (by decide) (by omega), p.gi (f := 1311) (by decide) (by omega), p.gi (f := 1312) (by decide) (by omega), p.gi (f := 1313) (by decide) (by omega), p.gi (f := 1314) (by decide) (by omega), p.gi (f := 1315) (by decide) (by omega), w.gI (k := 66) (by decide), w.gI (k := 67) (by decide), w.gI (k := 69) (by decide), w.gI (k := 70) (by decide), w.gI (k := 71) (by decide), w.gI (k := 72) (by decide), w.gI (k := 74) (by decide)]
    exact G
  · have e2 : ∀ j', j' < 8 → hfi h' 206 (cA x j') = hfi h 206 (cA x j') := fun j' hj => p.gi (by decide) (by have := T.cl hj; omega)
    unfold sSum
    rw [w.gI (k := 68) (by decide), sm, e2 0 (by omega), e2 1 (by omega), e2 2 (by omega), e2 3 (by omega), e2 4 (by omega), e2 5 (by omega), e2 6 (by omega), e2 7 (by omega)]
    rfl
  · obtain ⟨c1, c2, c3, c4⟩ := C i hi
    exact ⟨c1.fm T hi p w (by decide) (by omega) (by decide), c2.fm T hi p w (by decide) (by show ¬ x + 2 + 4 * i + 1 = x + 36; omega) (by decide), c3.fm T hi p w (by show ¬ x + 2 + 4 * i + 3 = x + 36; omega) (by decide), fun hec => (c4 hec).fm T hi p w (by decide) (by show ¬ x + 2 + 4 * i + 2 = x + 36; omega) (by decide)⟩
  · rcases SS s' hs' with c | ⟨c1, b', c2, c3, c4⟩
    · exact Or.inl (by rw [w.gA (k := 11) (by decide), e34]; exact c)
    · have hb' := c3.1.2.2.1
      have nb := nd s' b' hs' c2
      refine Or.inr ⟨by rw [w.gA (k := 11) (by decide)]; exact c1, b', by rw [e34]; exact c2, ⟨c3.1.sto p.1, c3.2.1.fm (by omega) p.1 w (by decide), c3.2.2.1.fm (by omega) p w (by decide) (by decide), c3.2.2.2.1.fm (by omega) p w (by decide) (by decide), c3.2.2.2.2.1.fm hb' p w (by decide) (nb 1) (by decide), c3.2.2.2.2.2.1.fm hb' p w (by decide) (nb 2) (by decide), c3.2.2.2.2.2.2.1.fm hb' p w (by decide) (nb 3) (by decide), c3.2.2.2.2.2.2.2.1.fm hb' p w (by decide) (nb 4) (by decide), c3.2.2.2.2.2.2.2.2.fm w (by decide)⟩, fun g => (c4 g).fm (by omega) p w (by decide) (by decide)⟩
  · intro s b m j h1 h2 h3 h4
    rw [e34] at h2
    have l1 := SesA.lt SS h1 h2
    rw [p.gr (by decide) (by omega)] at h3
    rw [w.gA (k := 20) (by decide)] at h4
    obtain ⟨q1, q2, q3, q4, q5, q6⟩ := U4 s b m j h1 h2 h3 h4
    obtain ⟨w5, w6⟩ := hW s b m j h1 h2 h3 h4
    rw [e34, w.gA (k := 11) (by decide), w.gA (k := 20) (by decide), w.gA (k := 31) (by decide), w.gA (k := 33) (by decide), w.gA (k := 38) (by decide), w.gA (k := 39) (by decide)]
    refine ⟨fun s' b' g1 g2 g3 => ?_, fun s' b' k d g1 g2 g3 g4 g5 => ?_, q3, q4, w5, w6⟩
    · have l2 := SesA.lt SS g1 g3
      rw [p.gr (by decide) (by omega)]
      exact q1 s' b' g1 g2 g3
    · have l2 := SesA.lt SS g1 g2
      unfold act at g4
      rw [w.gA (k := 31) (by decide), w.gA (k := 38) (by decide)] at g4
      unfold dl at g5
      rw [(p.2.2 (b' + 2) (by omega) (nd s' b' g1 g2 2)).2.1, (p.2.2 (b' + 3) (by omega) (nd s' b' g1 g2 3)).2.1] at g5
      have ld := act.lt ((SS s' g1).at g2).2.1 g4 g3 g5
      rw [p.gr (by decide) ld]
      exact q2 s' b' k d g1 g2 g3 g4 g5
  · obtain ⟨⟨a1, a2, a3, a4⟩, a5, a6, a7, a8, a9⟩ := W
    refine ⟨⟨by rw [hk]; exact a1, ?_, by rw [hk]; exact a3, ?_⟩, ?_, ?_, by rw [ha]; exact a7, a8, a9⟩
    · rw [p.gr (by decide) (by omega)]; exact a2
    · rw [(p.1.2.1 _ (by omega)).2]; exact a4
    · rw [p.gi (f := 1200) (by decide) (by omega)]; exact a5
    · rw [p.gi (f := 1202) (by decide) (by omega)]; exact a6
/-- the model's list of what is kept -/
def KL (r : RS) (ks : List Nat) : Prop := r.1 65 = nn ks.length ∧ ks.length ≤ 16 ∧ ∀ k, k < ks.length → r.2.1 64 k = nn (ks.getD k 0) ∧ ks.getD k 0 < 640
/-- their times -/
def KC (r : RS) (ks : List Nat) : Prop := ∀ q ∈ ks, ∃ c, c ≤ iN (r.1 66) ∧ r.2.1 51 q = nn c
theorem KC.ro {S : List Nat} (c : KC r ks) (w : Ro S r r') (h1 : 51 ∉ S) (h2 : 66 ∉ S) : KC r' ks := fun q hq => by
  rw [w.gI h2, w.gA h1]
  exact c q hq
theorem KL.kp (K : KL r ks) : kpt r = ks.filter (fun j => !gon r j) := by
  obtain ⟨k1, k2, k3⟩ := K
  show ((List.range (iN (r.1 65))).map (fun k => iN (r.2.1 64 k))).filter (fun j => !gon r j) = _
  rw [k1, iN_nn (by omega)]
  congr 1
  refine list_ext0 (by simp) (fun i hi => ?_)
  have hi' : i < ks.length := by simpa using hi
  obtain ⟨a1, a2⟩ := k3 i hi'
  rw [List.getD_eq_getElem?_getD, List.getElem?_map, List.getElem?_range hi']
  show iN (r.2.1 64 i) = _
  rw [a1, iN_nn (by omega)]
theorem Kep.kl (K : Kep x h r) : ∃ ks, KL r ks ∧ KC r ks := by
  obtain ⟨⟨n, n1, n2, n3⟩, _⟩ := K
  have ee : ∀ k, k < n → ((List.range n).map (fun k => iN (r.2.1 64 k))).getD k 0 < 640 ∧ r.2.1 64 k = nn (((List.range n).map (fun k => iN (r.2.1 64 k))).getD k 0) ∧ ∃ c, c ≤ iN (r.1 66) ∧ r.2.1 51 (((List.range n).map (fun k => iN (r.2.1 64 k))).getD k 0) = nn c := fun k hk' => by
    obtain ⟨j, j1, j2, j3⟩ := n3 k hk'
    have e : ((List.range n).map (fun k => iN (r.2.1 64 k))).getD k 0 = j := by
      rw [List.getD_eq_getElem?_getD, List.getElem?_map, List.getElem?_range hk']
      show iN (r.2.1 64 k) = j
      rw [j2, iN_nn (by omega)]
    rw [e]
    exact ⟨j1, j2, j3⟩
  refine ⟨(List.range n).map (fun k => iN (r.2.1 64 k)), ⟨by rw [List.length_map, List.length_range]; exact n2, by simpa using n1, fun k hk => ?_⟩, fun q hq => ?_⟩
  · have hk' : k < n := by simpa using hk
    exact ⟨(ee k hk').2.1, (ee k hk').1⟩
  · obtain ⟨k, k1, k2⟩ := List.getElem_of_mem hq
    have hk' : k < n := by simpa using k1
    have := (ee k hk').2.2
    rw [List.getD_eq_getElem?_getD, List.getElem?_eq_getElem k1] at this
    rw [← k2]
    exact this
theorem filter_take_len {p : Nat → Bool} (l : List Nat) (k : Nat) : ((l.take k).filter p).length ≤ k := by
  have := List.length_filter_le p (l.take k)
  rw [List.length_take] at this
  omega
theorem qm_purge (K : KL r ks) : wp (R_purge) r (fun _ r' => Ro [64, 65] r r' ∧ KL r' (ks.filter (fun j => !gon r j))) := by
  obtain ⟨k1, k2, k3⟩ := K
  unfold R_purge
  have key : ∀ (c k f : Nat) (r' : RS), k + c = ks.length → c < f → Ro [64] r r' → (∀ i, i < ((ks.take k).filter (fun j => !gon r j)).length → r'.2.1 64 i = nn (((ks.take k).filter (fun j => !gon r j)).getD i 0)) → (∀ i, k ≤ i → r'.2.1 64 i = r.2.1 64 i) → wp (R_purge_L4 (fun l1 => R_purge_J46 l1) f (nn ((ks.take k).filter (fun j => !gon r j)).length) (nn k)) r' (fun _ r2 => Ro [64, 65] r r2 ∧ KL r2 (ks.filter (fun j => !gon r j))) := by
    intro c
    induction c with
    | zero =>
      intro k f r' hk hf w h1 h2
      obtain ⟨f', rfl⟩ : ∃ z, f = z + 1 := ⟨f - 1, by omega⟩
      have ek : k = ks.length := by omega
      subst ek
      rw [List.take_length] at h1 ⊢
      have hl := List.length_filter_le (fun j => !gon r j) ks
      show wp (R_purge_B4 _ _ _ (nn ks.length)) r' _
      unfold R_purge_B4
      rw [wp_rI, w.gI (by decide), k1, wp_pos (by rw [nn_le (by omega) (by omega)]; omega)]
      unfold R_purge_J46
      dsimp only
      rw [wp_wI, wp_rt]
      refine ⟨(w.sub (by decide)).i (by decide), ?_, by omega, fun i hi => ?_⟩
      · rw [sI_1, if_pos rfl]
      · rw [sI_2]
        refine ⟨h1 i hi, ?_⟩
        have hm : (ks.filter (fun j => !gon r j)).getD i 0 ∈ ks := by
          rw [List.getD_eq_getElem?_getD, List.getElem?_eq_getElem hi]
          exact (List.mem_filter.mp (List.getElem_mem hi)).1
        obtain ⟨q, q1, q2⟩ := List.getElem_of_mem hm
        have := (k3 q q1).2
        rw [List.getD_eq_getElem?_getD, List.getElem?_eq_getElem q1] at this
        rw [← q2]
        exact this
    | succ c ih =>
      intro k f r' hk hf w h1 h2
      obtain ⟨f', rfl⟩ : ∃ z, f = z + 1 := ⟨f - 1, by omega⟩
      have hkl : k < ks.length := by omega
      obtain ⟨a1, a2⟩ := k3 k hkl
      have hfl := filter_take_len (p := fun j => !gon r j) ks k
      have egon : gon r' = gon r := by
        funext q
        unfold gon
        rw [w.gL (by decide), w.gA (by decide), w.gI (by decide)]
      have et : ks.take (k + 1) = ks.take k ++ [ks.getD k 0] := take_snoc hkl
      show wp (R_purge_B4 _ _ _ (nn k)) r' _
      unfold R_purge_B4
      rw [wp_rI, w.gI (by decide), k1, wp_neg (by rw [nn_le (by omega) (by omega)]; omega), wr_64 (by omega), h2 k (by omega), a1, wp_bd]
      refine wp.get (qm_gone a2) ?_
      rw [egon]
      by_cases g : gon r (ks.getD k 0) = true
      · rw [if_pos g, wp_neg (by decide)]
        have ef : (ks.take (k + 1)).filter (fun j => !gon r j) = (ks.take k).filter (fun j => !gon r j) := by
          rw [et, List.filter_append, List.filter_cons_of_neg (by rw [g]; decide), List.filter_nil, List.append_nil]
        have := ih (k + 1) f' r' (by omega) (by omega) w (by rw [ef]; exact h1) (fun i hi => h2 i (by omega))
        rw [ef] at this
        show wp (R_purge_L4 _ f' _ (nn k + 1)) r' _
        rw [l_1, nn_add]
        exact this
      · rw [if_neg g, wp_pos rfl, wr_64 (by omega), h2 k (by omega), a1, ww_64 (by omega)]
        have ef : (ks.take (k + 1)).filter (fun j => !gon r j) = (ks.take k).filter (fun j => !gon r j) ++ [ks.getD k 0] := by
          simp only [Bool.not_eq_true] at g
          rw [et, List.filter_append, List.filter_cons_of_pos (by rw [g]; rfl), List.filter_nil]
        have := ih (k + 1) f' (sA r' 64 ((ks.take k).filter (fun j => !gon r j)).length (nn (ks.getD k 0))) (by omega) (by omega) (w.a (by decide)) (fun i hi => ?_) (fun i hi => ?_)
        · rw [ef, List.length_append] at this
          show wp (R_purge_L4 _ f' (nn _ + 1) (nn k + 1)) _ _
          rw [l_1, nn_add, nn_add]
          exact this
        · rw [ef, List.length_append] at hi
          have hi2 : i < ((ks.take k).filter (fun j => !gon r j)).length + 1 := hi
          rw [ef, gD_app, sA_2]
          by_cases gi : i < ((ks.take k).filter (fun j => !gon r j)).length
          · rw [if_neg (by omega), if_pos gi]
            exact h1 i gi
          · rw [if_pos ⟨rfl, by omega⟩, if_neg gi, show i - ((ks.take k).filter (fun j => !gon r j)).length = 0 by omega]
            rfl
        · rw [sA_2, if_neg (by omega)]
          exact h2 i (by omega)
  have := key ks.length 0 fu r (by omega) (by unfold fu; omega) Ro.rf (fun i hi => by simp at hi) (fun i _ => rfl)
  rw [List.take_zero] at this
  exact this
/-- the model purges: nothing that the class shows changes -/
theorem Rel.purge (R : Rel x ec es ew e0 h r) (w : Ro [64, 65] r r') (K' : KL r' (kpt r)) : Rel x ec es ew e0 h r' ∧ kpt r' = kpt r := by
  have K := R.2.2.2.2.2.2.2.2.1
  obtain ⟨ks, hks, hkc⟩ := K.kl
  have ek := hks.kp
  have egon : gon r' = gon r := by
    funext q
    unfold gon
    rw [w.gL (by decide), w.gA (by decide), w.gI (by decide)]
  have e2 : kpt r' = kpt r := by
    rw [K'.kp, egon, ek, List.filter_filter]
    congr 1
    funext q
    simp
  have p : Fm x [801] (fun a => a = x + 36) h h := Fm.rf
  refine ⟨R.store p w ?_ rfl rfl (fun s b m j h1 h2 h3 h4 => ?_), e2⟩
  · refine ⟨⟨(kpt r).length, K'.2.1, K'.1, fun k hk => ⟨_, (K'.2.2 k hk).2, (K'.2.2 k hk).1, ?_⟩⟩, by rw [e2]; exact K.2.1, fun k hk => ?_⟩
    · refine (hkc.ro w (by decide) (by decide)) _ ?_
      have h1 : (kpt r).getD k 0 ∈ kpt r := by
        rw [List.getD_eq_getElem?_getD, List.getElem?_eq_getElem hk]
        exact List.getElem_mem hk
      rw [ek] at h1 ⊢
      exact (List.mem_filter.mp h1).1
    rw [e2] at hk ⊢
    obtain ⟨m, m1, m2⟩ := K.2.2 k hk
    exact ⟨m, m1, m2.to p w (by decide) (by decide)⟩
  · obtain ⟨_, _, _, _, q5, q6⟩ := R.2.2.2.2.2.2.2.2.2.1 s b m j h1 h2 h3 h4
    refine ⟨q5, fun k hk => ?_⟩
    rw [K'.1, iN_nn (by have := K'.2.1; omega)] at hk
    rw [(K'.2.2 k hk).1]
    have hm : (kpt r).getD k 0 ∈ ks := by
      have h1 : (kpt r).getD k 0 ∈ kpt r := by
        rw [List.getD_eq_getElem?_getD, List.getElem?_eq_getElem hk]
        exact List.getElem_mem hk
      rw [ek] at h1 ⊢
      exact (List.mem_filter.mp h1).1
    obtain ⟨q, q1, q2⟩ := List.getElem_of_mem hm
    have h5 := q6 q (by rw [hks.1, iN_nn (by have := hks.2.1; omega)]; exact q1)
    rw [(hks.2.2 q q1).1] at h5
    rw [List.getD_eq_getElem?_getD, List.getElem?_eq_getElem q1] at h5
    rw [← q2]
    exact h5
end KEP
