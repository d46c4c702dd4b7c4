/-! ===== CONNECT: entering ===== -/
section EN5
variable {x i a fl ka oi ni n0 sf nb s b : Nat} {e0 : Int32} {h h' : Hp} {r r' : RS} {bs ys : List Nat} {l3 l4 l12 l13 l14 l15 l16 l17 l18 l8 : Int32} {l6 l9 : Int64}
theorem NR.fm {F S : List Nat} {m ec es ew : Nat} (hN : NR x h r m) (R : Rel x ec es ew e0 h r) (p : Fm x F (fun _ => False) h h') (w : Ro S r r') (hF : ∀ f ∈ [300, 801, 1011], f ∉ F) (hS : ∀ k ∈ [31, 38], k ∉ S) : NR x h' r' m := by
  have hx := R.st.1
  have e34 : har h' (x + 34) = har h (x + 34) := (p.2.2 (x + 34) (by omega) (fun z => z)).2.1
  refine ⟨fun s b g1 g2 => ?_, fun s b k d g1 g2 g3 g4 g5 => ?_, fun k hk => ?_⟩
  · rw [e34] at g2
    have := (R.ses g1 g2).1.2.2.1
    rw [p.gr (hF 1011 (by decide)) (by omega)]
    exact hN.1 s b g1 g2
  · rw [e34] at g2
    have Sb := R.ses g1 g2
    have := Sb.1.2.2.1
    have g4' : act r s k := by
      unfold act at g4 ⊢
      rw [w.gA (hS 31 (by decide)), w.gA (hS 38 (by decide))] at g4
      exact g4
    have g5' : dl h b k = some d := by
      unfold dl at g5 ⊢
      rw [(p.2.2 (b + 2) (by omega) (fun z => z)).2.1, (p.2.2 (b + 3) (by omega) (fun z => z)).2.1] at g5
      exact g5
    rw [p.gr (hF 300 (by decide)) (act.lt Sb g4' g3 g5')]
    exact hN.2.1 s b k d g1 g2 g3 g4' g5'
  · rw [p.gi (hF 801 (by decide)) (by omega)] at hk
    rw [(p.2.2 (x + 36) (by omega) (fun z => z)).2.1]
    exact hN.2.2 k hk
theorem Cn.up {n u v w c : Nat} (hc : Cn r c) (hu : r.1 71 = nn u) (hv : r.1 72 = nn v) (hw : r.1 73 = nn w) (b1 : u < 2147483648) (b2 : v < 2147483648) (b3 : w < 2147483648) {u' v' w' : Nat} (e1 : r'.1 71 = nn u') (e2 : r'.1 72 = nn v') (e3 : r'.1 73 = nn w') (q1 : u' ≤ u + n) (q2 : v' ≤ v + n) (q3 : w' ≤ w + n) : Cn r' (c + n) := by
  obtain ⟨a, b, d, h1, h2, h3, h4, h5, h6⟩ := hc
  have k : ∀ t t', nn t = nn t' → t < 2147483648 → t' ≤ c → t ≤ c := fun t t' e l z => by
    by_cases q : t' < 2147483648
    · have := nn_inj l q e
      omega
    · omega
  have k1 := k u a (hu.symm.trans h1) b1 h4
  have k2 := k v b (hv.symm.trans h2) b2 h5
  have k3 := k w d (hw.symm.trans h3) b3 h6
  exact ⟨u', v', w', e1, e2, e3, by omega, by omega, by omega⟩
/-- a new session under a name that the broker gives -/
theorem ent_auto (R : Rel x i 12 96 e0 h r) (D : Rd x i bs bs.length bs.length 0 h r) (ho : r.2.1 1 i = 1) (h7 : r.2.1 7 i = -1) (hcn : Cn r 2000000) (free : ∃ s, s < 12 ∧ r.2.1 11 s = 0) (G : GrE x h fl ka l6 l8 l9) (GW : GrW x i bs n0 h r fl l3 l4 l14 l15 l16 l17) (g : Gho x i e0 h r) (hfb : fl < 256) (hK : hkd h (hnx h - 1) ≠ 108) :
    Sim (C_X11_enter_J18 x (some (cA x i)) (nn 1)) h (R_connect_J877 (nn fl) l3 l4 (nn ka) l6 l8 l9 l12 l13 l14 l15 l16 l17 l18 (nn 1)) r (fun _ h' _ r' => EP x i e0 170 1100 15 h r h' r') := by
  have T := R.st
  have hx := T.1
  have kx := T.2.1.1
  have hi := D.2.2.1.1
  have hcl := T.cl hi
  obtain ⟨a1, b1, nb, h71, h72, h73, q1, q2, hnb⟩ := hcn
  rcases free_or R.m11 with ⟨sf, f1, f2, f3, f4⟩ | ⟨f1, _⟩
  · have R1 := R.c72 (u := nn (b1 + 1))
    obtain ⟨h1, eh1⟩ : ∃ z, z = sfi h 1314 x (nn (b1 + 1)) := ⟨_, rfl⟩
    obtain ⟨r1, er1⟩ : ∃ z, z = sI r 72 (nn (b1 + 1)) := ⟨_, rfl⟩
    rw [← eh1, ← er1] at R1
    have p1 : Fm x [1314] (fun _ => False) h h1 := by rw [eh1]; exact Fm.fi Fm.rf (Or.inl (by decide)) (Or.inl (by decide))
    have n1 : hnx h1 = hnx h := by rw [eh1]; rfl
    have e71 : r1.1 71 = nn a1 := by rw [er1, sI_1, if_neg (by omega)]; exact h71
    obtain ⟨h2, c1, R2, W2, n2, k2, F2, v2, o1, o2⟩ := auto_ev R1 (R1.2.1.2.2.2.2.2.2.1.trans e71) (by omega) (by rw [n1, eh1]; exact hK)
    have nn2 : hnx h1 + 1 = hnx h2 - 1 := by omega
    rw [nn2] at c1 W2 k2
    obtain ⟨rm, erm⟩ : ∃ z, z = sI (nwM r sf nb) 72 (nn (b1 + 1)) := ⟨_, rfl⟩
    have wm : Ro [11, 12, 72, 73] r rm := by rw [erm]; exact (nwM.ro.sub (by decide)).i (by decide)
    have wmh : Ho sf 8 r rm := by rw [erm]; exact nwM.ho.ii (by decide) (by decide)
    obtain ⟨v, h3, r3, rm', z1, z2, z3, z4, z5, z6, z7, z8, z9, z10, z11, z12, z13, z14, z15, z16, z17, z18, z19, z20⟩ := name_loop (x := x) (ec := i) (es := 12) (ew := 96) (e0 := e0) (r0 := r) (ke := R_name_J216) f1 f2 R.m11 12 0 a1 fu 4999 [] h2 (sI r1 71 (nn (a1 + 1))) rm (by omega) (by unfold fu; omega) (by omega) rfl List.nodup_nil (fun s hs => by simp at hs) (by omega) R2 (by rw [sI_2, er1, sI_2]) (by rw [sI_1, if_pos rfl]) (fun s hs => (wmh.2 11 s (fun z => by
        rcases z with z | z | z | z | z | z
        · omega
        · have : ow 11 s = s := rfl
          omega
        · omega
        · omega
        · omega
        · omega)).1) (fun s ys hs _ => by unfold IdOf; rw [wm.gA (k := 13) (by decide), wm.gA (k := 14) (by decide)]) (by rw [erm, sI_1, if_neg (by omega), nwM.ro.gI (by decide)]; exact h71) W2 k2
    subst z6
    rw [sI_sI] at z5
    obtain ⟨r4, er4⟩ : ∃ z, z = sI r1 71 (nn v) := ⟨_, rfl⟩
    rw [← er4] at z5
    have T3 := z5.st
    have p3 : Fm x [1314, 1315] (fun _ => False) h h3 := ((p1.sub (by decide) (fun _ z => z)).tr (F2.sub (by decide) (fun _ z => z))).tr (z9.sub (by decide) (fun _ z => z))
    have w4 : Ro [71, 72] r r4 := by rw [er4, er1]; exact (Ro.rf.i (by decide)).i (by decide)
    have e4a : r4.2 = r.2 := by rw [er4, er1]; rfl
    have bl := autoB_len (v := v)
    have nd := nd_b (v := v)
    have fresh4 : ∀ s, s < 12 → r4.2.1 11 s = 1 → ¬ IdOf r4 s (autoB v) := fun s h1 h2 h3 => by
      unfold IdOf at h3
      rw [e4a] at h2 h3
      exact z10 s h1 h2 h3
    have fnd : C_X11_find x (some (hnx h3 - 1)) h3 = some (none, h3) := by
      rcases qc_fnd z5 z7 (by omega) with ⟨s, b, y1, y2, y3, _⟩ | ⟨_, y⟩
      · exact absurd y3 (fresh4 s y1 ((z5.2.2.2.2.1 s y1).at y2).1)
      · exact y
    have cl : C_X11_enter_J18 x (some (cA x i)) (nn 1) h = (bd (C_X11_makeSession x (some (hnx h3 - 1))) fun r6 => C_X11_enter_J134 x (some (cA x i)) (nn 1) (some (hnx h3 - 1)) r6 (nn 0)) h3 := by
      have mk : C_X11_makeId x h = some (some (hnx h3 - 1), h3) := by
        unfold C_X11_makeId
        rw [e_gI (c := 13) kx, show hfi h (100 * 13 + 14) x = nn b1 from R.2.1.2.2.2.2.2.1.trans h72, show nn b1 + (1 : Int32) = nn (b1 + 1) from nn_add, e_pI (c := 13) kx]
        show (hCv 13 (some x) (fun a => C_X11_autoId a) fun r4 => C_X11_makeId_L17 x (fun l1 => C_X11_makeId_J42 x l1) fu r4 (0 : Int32)) (sfi h 1314 x (nn (b1 + 1))) = _
        rw [← eh1, e_Cv (c := 13) R1.st.2.1.1, e_bd c1]
        exact z3
      unfold C_X11_enter_J18
      rw [if_neg (by decide), e_Cv (c := 13) kx, e_bd mk]
      unfold C_X11_enter_J37 C_X11_enter_J86 C_X11_enter_J110 C_X11_enter_J120
      rw [e_Cv (c := 13) T3.2.1.1, e_bd fnd, if_pos rfl, if_pos rfl, if_pos rfl, if_pos rfl, e_Cv (c := 13) T3.2.1.1]
      rfl
    have ml : R_connect_J877 (nn fl) l3 l4 (nn ka) l6 l8 l9 l12 l13 l14 l15 l16 l17 l18 (nn 1) r = R_connect_J979 (nn fl) l3 l4 (nn ka) l6 l8 l9 l14 l15 l16 l17 (nn sf) (nn 1) (nn 0) rm' := by
      unfold R_connect_J877 R_connect_J878
      rw [if_pos rfl, e_bd f4, x_wA mL_11 f1 (by omega), x_rI, show (sA r 11 sf (vp_nar .boolean (1 : Int32))).1 73 = nn nb from h73, show nn nb + (1 : Int32) = nn (nb + 1) from nn_add, x_wI, x_wA mL_12 f1 (by omega), if_neg (by decide)]
      show bd (R_name (nn sf)) _ (nwM r sf nb) = _
      have nm : R_name (nn sf) (nwM r sf nb) = some ((), rm') := by
        unfold R_name
        rw [x_rI, show (nwM r sf nb).1 72 = nn b1 from by rw [nwM.ro.gI (by decide)]; exact h72, show nn b1 + (1 : Int32) = nn (b1 + 1) from nn_add, x_wI, ← erm]
        exact z4
      rw [e_bd nm]
      rfl
    rw [Sim_l cl, Sim_r ml]
    obtain ⟨d1, d2, d3⟩ := nwM.rd (r := r) (sf := sf) (nb := nb)
    have i71 : r4.1 71 = nn v := by rw [er4, sI_1, if_pos rfl]
    have i72 : r4.1 72 = nn (b1 + 1) := by rw [er4, sI_1, if_neg (by omega), er1, sI_1, if_pos rfl]
    have i73 : r4.1 73 = nn nb := by rw [w4.gI (by decide)]; exact h73
    have m72 : rm'.1 72 = nn (b1 + 1) := by rw [z13.gI (by decide), erm, sI_1, if_pos rfl]
    have wr : Ro [11, 12, 13, 14, 73, 90] r4 rm' := fun k hk => by
      simp only [List.mem_cons, List.not_mem_nil, or_false] at hk
      refine ⟨?_, ?_, ?_⟩
      · by_cases y1 : k = 71
        · rw [y1, z14, i71]
        · by_cases y2 : k = 72
          · rw [y2, m72, i72]
          · rw [z13.gI (by simp only [List.mem_cons, List.not_mem_nil, or_false]; omega), wm.gI (by simp only [List.mem_cons, List.not_mem_nil, or_false]; omega), w4.gI (by simp only [List.mem_cons, List.not_mem_nil, or_false]; omega)]
      · rw [e4a]
        have em : rm.2 = (nwM r sf nb).2 := by rw [erm]; rfl
        by_cases y1 : k = 71
        · rw [y1, z20, em]
          exact nwM.ro.gA (by decide)
        · rw [z13.gA (by simp only [List.mem_cons, List.not_mem_nil, or_false]; omega), em]
          exact nwM.ro.gA (by simp only [List.mem_cons, List.not_mem_nil, or_false]; omega)
      · rw [z19, e4a, erm, sI_2]
        rfl
    have w0 : Ho sf 8 r4 rm' := by
      refine ⟨⟨?_, ?_⟩, fun k n hk => ⟨?_, by rw [z19, e4a, erm, sI_2]; rfl⟩⟩
      · rw [z13.gI (by decide), wm.gI (by decide), w4.gI (by decide)]
      · rw [z13.gI (by decide), wm.gI (by decide), w4.gI (by decide)]
      · have hm := (wmh.2 k n hk).1
        rw [e4a, ← hm]
        have nk : ¬ (11 ≤ k ∧ k ≤ 44 ∧ ow k n = sf) := fun z => hk (Or.inr (Or.inl z))
        by_cases y1 : k = 11
        · subst y1
          exact (z15 n (fun z => nk ⟨by omega, by omega, z⟩)).1
        · by_cases y2 : k = 13
          · subst y2
            exact (z15 n (fun z => nk ⟨by omega, by omega, z⟩)).2
          · by_cases y3 : k = 14
            · subst y3
              exact z16 n (fun z => nk ⟨by omega, by omega, z⟩)
            · by_cases y4 : k = 71
              · rw [y4, z20]
              · rw [z13.gA (fun z => by
                  simp only [List.mem_cons, List.not_mem_nil, or_false] at z
                  rcases z with z | z | z | z | z
                  · exact y1 z
                  · exact y2 z
                  · exact y3 z
                  · exact y4 z
                  · exact hk (Or.inr (Or.inr (Or.inr (Or.inr (Or.inr (by omega)))))))]
    have D4 : Rd x i bs bs.length bs.length 0 h3 r4 := D.fm T p3 w4 (by decide) (fun z => z) (by decide)
    have N4 : ∀ m, hfr h3 406 (x + 48) = some m → NR x h3 r4 m := fun m hm => by
      rw [p3.gr (by decide) (by omega)] at hm
      exact (g.nr m hm).fm R p3 w4 (by decide) (by decide)
    refine (ent_ns (au := 1) (a := hnx h3 - 1) (ys := autoB v) (rN := rm') (nb := nb) z5 D4 (by rw [e4a]; exact ho) (by rw [e4a]; exact h7) (by omega) f1 (by rw [e4a]; exact f2) (fun s' hs' => by rw [e4a]; exact f3 s' hs') (G.fm T p3 (by decide)) (GW.fm T p3 w4 (by decide) (fun _ _ _ z => z) (by decide)) N4 hfb z7 (by omega) fresh4 w0 wr z17 (by rw [z13.gA (by decide), erm, sI_2]; exact d2) (by rw [z13.gI (by decide), erm, sI_1, if_neg (by omega)]; exact d3) i73 (by omega) z18).mono (fun _ h' _ r' z => ?_)
    have E0 : EP x i e0 26 169 13 h r h3 r4 := by
      have wn : WN r4 ≤ WN r := w4.wn (by decide) (by decide) (by decide) (by decide)
      have cs1 : hcs h1 = hcs h := by rw [eh1]; rfl
      rw [cs1] at o1 o2
      refine ⟨z5, p3.gi (by decide) (by omega), fun k hk => w4.gI ?_, by rw [e4a], fun i' _ _ => by rw [e4a]; exact Nat.le_refl _, fun c hc => hc.up h71 h72 h73 (by omega) (by omega) (by omega) i71 i72 i73 (by omega) (by omega) (by omega), by omega, by omega⟩
      simp only [List.mem_cons, List.not_mem_nil, or_false] at hk
      rcases hk with rfl | rfl | rfl | rfl <;> decide
    exact (E0.tr z).le (by omega) (by omega) (by omega)
  · obtain ⟨s, s1, s2⟩ := free
    rw [f1 s s1] at s2
    exact absurd s2 (by decide)
end EN5
