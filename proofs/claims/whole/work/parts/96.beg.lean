/-! ===== something begins its way, in both ===== -/
theorem send_facts {x i f : Nat} {h : Hp} {r : RS} {bs os : List Nat} (hi : i < 8) (H : WR (x + 46) h (nn f) bs) (hT : ConT x h i) (o1 : OutC x h i os) (o2 : OutM r i os) (P : PK r (f :: (vb 4 bs.length ++ bs))) (hf : f < 256) (ho : r.2.1 1 i = 1) (e205 : hfi h 205 (cA x i) = r.2.1 2 i) (h2v : r.2.1 2 i = 0 ∨ r.2.1 2 i = 1) :
    ∃ h' r', C_X0_put (cA x i) (some (x + 46)) h = some ((), h') ∧ R_send (nn i) r = some ((), r') ∧ Po x i h h' ∧ Ro [2, 3, 4, 68] r r' ∧ CoO x h' r' i ∧ (hfi h' 205 (cA x i) = r'.2.1 2 i ∧ (r'.2.1 2 i = 0 ∨ r'.2.1 2 i = 1)) ∧ (∀ j, j ≠ i → r'.2.1 2 j = r.2.1 2 j) ∧ (∀ j, j ≠ i → r'.2.1 3 j = r.2.1 3 j) ∧ (∀ p, p < 2000 * i ∨ 2000 * i + 2000 ≤ p → r'.2.1 4 p = r.2.1 4 p) ∧ ((r'.1 68 = r.1 68 ∧ hfi h' 206 (cA x i) = hfi h 206 (cA x i)) ∨ (r'.1 68 = r.1 68 + 1 ∧ hfi h' 206 (cA x i) = hfi h 206 (cA x i) + 1)) := by
  have hl6 := H.2.2.2.2.2
  have hw := wd_vb (k := bs.length) (by omega)
  have hpl : (f :: (vb 4 bs.length ++ bs)).length = 1 + wd bs.length + bs.length := by
    rw [List.length_cons, List.length_append, hw.1]
    omega
  obtain ⟨v, h', e1, P1, q1⟩ := qc_put hi H hT o1 hf
  obtain ⟨v2, r', e2, P2, q2⟩ := qm_send hi P o2 (by rw [hpl]; omega)
  refine ⟨h', r', e1, e2, P1, P2, ?_⟩
  rw [hpl] at q2
  by_cases hb : r.2.1 2 i = 0
  · by_cases hs : 2000 < os.length + (1 + wd bs.length + bs.length)
    · rw [if_pos (Or.inr hs)] at q1
      rw [if_neg (fun z => by rcases z with z | z; · rw [ho] at z; exact absurd z (by decide)
                              · exact z hb), if_pos hs] at q2
      subst q1
      subst q2
      refine ⟨⟨os, ?_, ?_⟩, ?_, fun j hj => ?_, fun j hj => ?_, fun p hp => ?_, Or.inl ⟨rfl, ?_⟩⟩
      · unfold OutC
        rw [hfi_sfi, if_neg (by omega), hai_sfi]
        exact o1
      · unfold OutM
        rw [sA_o (by decide), sA_o (by decide)]
        exact o2
      · rw [hfi_sfi, if_pos ⟨rfl, rfl⟩, sA_2, if_pos ⟨rfl, rfl⟩]
        exact ⟨rfl, Or.inr rfl⟩
      · rw [sA_2, if_neg (fun z => hj z.2)]
      · rw [sA_o (by decide)]
      · rw [sA_o (by decide)]
      · rw [hfi_sfi, if_neg (by omega)]
    · rw [if_neg (fun z => by rcases z with z | z; · exact z (by rw [e205]; exact hb)
                              · exact hs z)] at q1
      rw [if_neg (fun z => by rcases z with z | z; · rw [ho] at z; exact absurd z (by decide)
                              · exact z hb), if_neg hs] at q2
      obtain ⟨q3, q4, q5, q6, q7⟩ := q2
      obtain ⟨p3, p4, p5⟩ := q1
      refine ⟨⟨_, p3, q3⟩, ?_, fun j hj => by rw [q4], q5, q6, Or.inr ⟨q7, p5⟩⟩
      rw [p4, q4, e205]
      exact ⟨rfl, h2v⟩
  · rw [if_pos (Or.inl (by rw [e205]; exact hb))] at q1
    rw [if_pos (Or.inr hb)] at q2
    subst q1
    subst q2
    have hb1 : r'.2.1 2 i = 1 := by
      rcases h2v with z | z
      · exact absurd z hb
      · exact z
    refine ⟨⟨os, ?_, o2⟩, ?_, fun j hj => rfl, fun j hj => rfl, fun p hp => rfl, Or.inl ⟨rfl, ?_⟩⟩
    · unfold OutC
      rw [hfi_sfi, if_neg (by omega), hai_sfi]
      exact o1
    · rw [hfi_sfi, if_pos ⟨rfl, rfl⟩, hb1]
      exact ⟨rfl, Or.inr rfl⟩
    · rw [hfi_sfi, if_neg (by omega)]
theorem Ro.cA {S : List Nat} {r r' : RS} {k i : Nat} {v : Int32} (w : Ro S r r') : Ro S (sA r k i v) (sA r' k i v) := fun j hj => by
  obtain ⟨w1, w2, w3⟩ := w j hj
  refine ⟨w1, ?_, w3⟩
  funext p
  rw [sA_2, sA_2, w2]
theorem Ro.capp {S : List Nat} {r r' : RS} {s n j q fl id num : Nat} (w : Ro S r r') : Ro S (appM r s n j q fl id num) (appM r' s n j q fl id num) := w.cA.cA.cA.cA.cA.cA.cA
/-- what giving a message to a session may change -/
def gF : List Nat := [204, 205, 206, 300, 301, 302, 303, 304, 305, 1006, 1008, 1200, 1202, 1312]
def gA (x : Nat) (h : Hp) : Nat → Prop := fun a => a = x + 47 ∨ (∃ i, i < 8 ∧ a = cA x i + 1) ∨ ∃ s b, s < 12 ∧ har h (x + 34) s = some b ∧ (a = b + 2 ∨ a = b + 3)
def gS : List Nat := [2, 3, 4, 31, 32, 33, 34, 35, 36, 37, 68, 70, 88, 89, 90, 91]
def GF (x : Nat) (h h' : Hp) (r r' : RS) : Prop := Fm x gF (gA x h) h h' ∧ Ro gS r r' ∧ har h' (x + 34) = har h (x + 34)
theorem GF.tr {x : Nat} {h h1 h2 : Hp} {r r1 r2 : RS} (p : GF x h h1 r r1) (q : GF x h1 h2 r1 r2) : GF x h h2 r r2 := by
  have e : gA x h1 = gA x h := by
    unfold gA
    rw [p.2.2]
  refine ⟨p.1.tr ?_, p.2.1.tr q.2.1, q.2.2.trans p.2.2⟩
  have := q.1
  rwa [e] at this
theorem Oo.gf {x : Nat} {h h' : Hp} {r r' : RS} (p : Oo x h h') (w : Ro oS r r') : GF x h h' r r' := ⟨p.fm.sub (by decide) (fun a ha => ha.elim Or.inl (fun z => Or.inr (Or.inl z))), w.sub (by decide), by rw [p.1.2.2.2.2.2.2.1]⟩
theorem pubT_ev {s L : Nat} {r : RS} {Q : Int32 → RS → Prop} (hs : s < 12) (hL : r.1 89 = nn L) (hL2 : L ≤ 2000) (ka : (n6 L ≤ r.2.2 18 s) → wp (rA 15 (nn s) fun v4 => bd (R_send v4) fun _ => zt (1 : Int32)) r Q) (kb : ¬ (n6 L ≤ r.2.2 18 s) → Q 0 (sI r 70 (r.1 70 + 1))) : wp (pubT s) r Q := by
  unfold pubT
  rw [wp_rI, hL, wr_18 hs, n6_nn (by omega)]
  by_cases h1 : n6 L ≤ r.2.2 18 s
  · rw [wp_pos (cmp_le.mpr h1)]
    exact ka h1
  · rw [wp_neg (fun z => h1 (cmp_le.mp z)), wp_rI, wp_wI, wp_zt]
    exact ⟨Or.inl rfl, kb h1⟩
section BEG
variable {x ec es ew s b d n m j q fl id : Nat} {e0 : Int32} {h : Hp} {r : RS}
/-- the class's deliver: too long, or put -/
theorem qc_deliver {V : MV} {num ag : Nat} {Q : Unit → Hp → Prop} (T : Stat x h) (f0 : Int32) (bs0 : List Nat) (W : WR (x + 46) h f0 bs0) (S : SesT x h s b) (D : DlC x h d m q fl id num) (M : MsC x h m V) (hV : Vok V) (hid : id < 268435456) (hnum : num < 65536) (hq : q ≤ 2) (hf : fl ≤ 1) (ha : ag ≤ 1)
    (ka : ∀ h', WR (x + 46) h' (nn (48 + 8 * ag + 2 * q + fl)) (pubB V q num id (lft V.2.2.2.2.2.2.2 (hfi h 1309 x) (hfi h 508 m))) → Wo (x + 46) h h' → (hfl h 1014 b = -1 ∨ n6 (1 + wd (pubB V q num id (lft V.2.2.2.2.2.2.2 (hfi h 1309 x) (hfi h 508 m))).length + (pubB V q num id (lft V.2.2.2.2.2.2.2 (hfi h 1309 x) (hfi h 508 m))).length) ≤ hfl h 1014 b) → wp (C_X11_deliver_J58 x (some b)) h' Q)
    (kb : ∀ h', Wo (x + 46) h h' → (∃ f bs, WR (x + 46) h' f bs) → hfl h 1014 b ≠ -1 → ¬ n6 (1 + wd (pubB V q num id (lft V.2.2.2.2.2.2.2 (hfi h 1309 x) (hfi h 508 m))).length + (pubB V q num id (lft V.2.2.2.2.2.2.2 (hfi h 1309 x) (hfi h 508 m))).length) ≤ hfl h 1014 b → wp (C_X8_arrive b (some d)) (sfi h' 1312 x (hfi h 1312 x + 1)) (fun _ h'' => Q () h'')) :
    wp (C_X11_deliver x (some b) (some d) (nn ag)) h Q := by
  obtain ⟨k1, k2, k3, k4⟩ := wref T (Wo.rf (h := h))
  have hl := pubB_len hV q num id (lft V.2.2.2.2.2.2.2 (hfi h 1309 x) (hfi h 508 m))
  have hwd := wd_le (pubB V q num id (lft V.2.2.2.2.2.2.2 (hfi h 1309 x) (hfi h 508 m))).length
  have hb2 := S.2.1
  unfold C_X11_deliver
  rw [wp_gR k1, k2, wp_gI k1, wp_Cv k3]
  refine (qc_pub (tm := hfi h 1309 x) W D M hV hid hnum hq hf ha).mono (fun _ h1 z => ?_)
  generalize hB : pubB V q num id (lft V.2.2.2.2.2.2.2 (hfi h 1309 x) (hfi h 508 m)) = B at *
  obtain ⟨z1, z2⟩ := z
  have z2' := z2
  obtain ⟨x1, x2, x3, x4, x5, x6, x7, x8, x9, x10⟩ := z2
  have s1 : hkd h1 b = 11 := by rw [x2]; exact S.1
  have e14 : hfl h1 1014 b = hfl h 1014 b := by rw [x4]
  have e12 : hfi h1 1312 x = hfi h 1312 x := x9 1312 x (fun e => by omega)
  rw [wp_gL s1]
  show wp (if lg_cmp (hfl h1 1014 b) (-1) = 0 then _ else _) h1 Q
  rw [e14]
  by_cases g : hfl h 1014 b = -1
  · rw [wp_pos (cmp_eq.mpr g)]
    exact ka h1 z1 z2' (Or.inl g)
  · obtain ⟨k1, k2, k3, k4⟩ := wref T z2'
    rw [wp_neg (fun z => g (cmp_eq.mp z)), wp_gR k1, k2, wp_Cv k3]
    refine wp.get (qc_total z1) ?_
    rw [wp_gL s1, n6_nn (by omega)]
    show wp (if lg_cmp (n6 (1 + wd B.length + B.length)) (hfl h1 1014 b) ≤ 0 then _ else _) h1 Q
    rw [e14]
    by_cases g2 : n6 (1 + wd B.length + B.length) ≤ hfl h 1014 b
    · rw [wp_pos (cmp_le.mpr g2)]
      exact ka h1 z1 z2' (Or.inr g2)
    · rw [wp_neg (fun z => g2 (cmp_le.mp z)), wp_gI k1]
      show wp (hpI 13 12 (some x) (hfi h1 1312 x + 1) _) h1 Q
      rw [e12, wp_pI k1, wp_Cv (by exact s1)]
      refine (kb h1 z2' ⟨_, _, z1⟩ g g2).mono (fun _ h2 z => ?_)
      rw [wp_rt]
      exact z
end BEG
