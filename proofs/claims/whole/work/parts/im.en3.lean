/-! ===== CONNECT: who held the session before ===== -/
section EN3
variable {x i k s b m : Nat} {e0 : Int32} {h h1 h2 : Hp} {r r1 r2 : RS} {bs : List Nat}
/-- the new message is nobody's: in a heap where it has no kind, the relation holds too -/
def Gho (x i : Nat) (e0 : Int32) (h : Hp) (r : RS) : Prop := ∀ m, hfr h 406 (x + 48) = some m → Rel x i 12 96 e0 (gk m h) r ∧ m < hnx h
theorem Oo.glo (O : Oo x h h1) (w : Ro oS r r1) : GL x h h1 r r1 := by
  refine ⟨O.fm.sub (by decide) (fun a z => Or.inl (Or.inl ?_)), w.sub (by decide), fun s => Or.inl (by rw [O.1.2.2.2.2.2.2.1]), fun s => Or.inl (by rw [w.gA (by decide)]), fun i hi => Or.inr ⟨by rw [w.gA (by decide)], by rw [w.gA (by decide)], by rw [w.gA (by decide)], O.2.1 208 _ (by decide)⟩⟩
  rcases z with z | z
  · exact Or.inl z
  · exact Or.inr (Or.inl z)
theorem lAr_no {q : Nat} (R : Rel x i 12 96 e0 h r) (hq : q < x + 130) (h1 : q ≠ x + 47) (h2 : q ≠ x + 34) (h3 : q ≠ x + 36) (h4 : ∀ j, j < 8 → q ≠ cA x j + 1 ∧ q ≠ cA x j + 3) : ¬ lAr x h q := by
  rintro ((( z | ⟨j, j1, j2⟩ | ⟨s, b, s1, s2, s3⟩) | z) | z | ⟨j, j1, j2⟩)
  · exact h1 z
  · exact (h4 j j1).1 j2
  · have := (R.ses s1 s2).1.2.1
    rcases s3 with z | z <;> omega
  · exact h3 z
  · exact h2 z
  · exact (h4 j j1).2 j2
theorem Rd.gl {p L f : Nat} (D : Rd x i bs p L f h r) (R : Rel x i 12 96 e0 h r) (G : GL x h h1 r r1) : Rd x i bs p L f h1 r1 := by
  have hi := D.2.2.1.1
  exact D.fm R.st G.1 G.2.1 (by decide) (lAr_no R (by show x + 2 + 4 * i + 2 < x + 130; omega) (by show x + 2 + 4 * i + 2 ≠ x + 47; omega) (by show x + 2 + 4 * i + 2 ≠ x + 34; omega) (by show x + 2 + 4 * i + 2 ≠ x + 36; omega) (fun j hj => ⟨by show x + 2 + 4 * i + 2 ≠ x + 2 + 4 * j + 1; omega, by show x + 2 + 4 * i + 2 ≠ x + 2 + 4 * j + 3; omega⟩)) (by decide)
theorem GrW.gl {n0 fl : Nat} {l3 l4 l14 l15 l16 l17 : Int32} (c : GrW x i bs n0 h r fl l3 l4 l14 l15 l16 l17) (R : Rel x i 12 96 e0 h r) (G : GL x h h1 r r1) : GrW x i bs n0 h1 r1 fl l3 l4 l14 l15 l16 l17 :=
  c.fm R.st G.1 G.2.1 (by decide) (fun a h1 h2 => lAr_no R (by omega) (by omega) (by omega) (by omega) (fun j hj => ⟨by show a ≠ x + 2 + 4 * j + 1; omega, by show a ≠ x + 2 + 4 * j + 3; omega⟩)) (by decide)
theorem EP.gl (R1 : Rel x i 12 96 e0 h1 r1) (G : GL x h h1 r r1) (U : Cu x i h h1 r r1) (P : Pd h h1 r r1) : EP x i e0 0 0 0 h r h1 r1 := by
  refine ⟨R1, U.2.2.2, fun k hk => G.2.1.gI ?_, U.1, fun i' g1 g2 => ?_, fun c ⟨a, b, d, q1, q2, q3, q4, q5, q6⟩ => ⟨a, b, d, by rw [G.2.1.gI (by decide)]; exact q1, by rw [G.2.1.gI (by decide)]; exact q2, by rw [G.2.1.gI (by decide)]; exact q3, by omega, by omega, by omega⟩, P.1, P.2⟩
  · simp only [List.mem_cons, List.not_mem_nil, or_false] at hk
    rcases hk with rfl | rfl | rfl | rfl <;> decide
  · rcases G.2.2.2.2 i' g1 with z | z
    · obtain ⟨bs', _, a2, _, _, _, _, a7, _⟩ := (R1.2.2.2.1 i' g1).2.2.2 g2
      rw [a2, a7 z]
      exact Nat.zero_le _
    · rw [z.2.1]
      exact Nat.le_refl _
theorem Gho.gl (G : GL x h h1 r r1) (T : Stat x h) : hfr h1 406 (x + 48) = hfr h 406 (x + 48) := G.1.gr (by decide) (by have := T.1; omega)
/-- another connection is told to go, and is lost -/
theorem tko (R : Rel x i 12 96 e0 h r) (g : Gho x i e0 h r) (hi : i < 8) (hk : k < 8) (hki : k ≠ i) (ho : r.2.1 1 k = 1) :
    ∃ h1 h2 r1 r2, C_X11_sayFarewell x (some (cA x k)) 142 h = some ((), h1) ∧ R_short4 (nn k) 224 2 142 0 4 r = some ((), r1) ∧ C_X11_lost x (some (cA x k)) h1 = some ((), h2) ∧ R_lost (nn k) r1 = some ((), r2) ∧ Rel x i 12 96 e0 h2 r2 ∧ GL x h h2 r r2 ∧ Cu x i h h2 r r2 ∧ Pd h h2 r r2 ∧ Gho x i e0 h2 r2 ∧ hfr h1 1002 = hfr h 1002 ∧ hkd h1 = hkd h ∧ (∀ i', i' < 8 → i' ≠ k → r2.2.1 7 i' = r.2.1 7 i') ∧ r2.2.1 1 k = 0 := by
  have T := R.st
  obtain ⟨_, h1, _, r1, a1, a2, a3, a4, a5⟩ := sim_bye (v := 142) R hk ho (by omega)
  obtain ⟨_, h2, _, r2, b1, b2, b3, b4, b5, b6, b7⟩ := sim_lost (ec' := i) a3 hk (fun _ _ _ z => z)
  have G1 := a4.glo a5
  have U2 := b5 i hi (fun z => hki z.symm)
  have U1 : Cu x i h h1 r r1 := ⟨by rw [a5.gA (by decide)], by rw [a5.gA (by decide)], by rw [a5.gA (by decide)], a4.2.1 208 _ (by decide)⟩
  have P1 : Pd h h1 r r1 := Pd.mk (by rw [a4.1.2.2.2.2.2.2.2]) (a5.wn (by decide) (by decide) (by decide) (by decide))
  have G := G1.tr b4
  refine ⟨h1, h2, r1, r2, a1, a2, b1, b2, b3, G, ⟨U2.1.trans U1.1, U2.2.1.trans U1.2.1, U2.2.2.1.trans U1.2.2.1, U2.2.2.2.trans U1.2.2.2⟩, P1.tr b7, fun m hm => ?_, by rw [a4.1.2.2.2.2.1], a4.1.2.1, fun i' g1 g2 => (b5 i' g1 g2).2.2.1.trans (by rw [a5.gA (by decide)]), b6⟩
  rw [Gho.gl G T] at hm
  obtain ⟨Rg, hm2⟩ := g m hm
  obtain ⟨_, x1, _, s1, c1, c2, c3, c4, c5⟩ := sim_bye (v := 142) Rg hk ho (by omega)
  rw [a2] at c2
  cases c2
  obtain ⟨h1', e1, e2, e3⟩ := gk_C_X11_sayFarewell (m := m) h hm2 _ _ c1
  rw [a1] at e2
  cases e2
  subst e1
  obtain ⟨_, x2, _, s2, d1, d2, d3, _⟩ := sim_lost (ec' := i) c3 hk (fun _ _ _ z => z)
  rw [b2] at d2
  cases d2
  obtain ⟨h2', f1, f2, f3⟩ := gk_C_X11_lost (m := m) h1 e3 _ _ d1
  rw [b1] at f2
  cases f2
  subst f1
  exact ⟨d3, f3⟩
/-- a session ends -/
theorem edg (R : Rel x i 12 96 e0 h r) (g : Gho x i e0 h r) (hi : i < 8) (hs : s < 12) (hb : har h (x + 34) s = some b) (h15 : r.2.1 15 s = -1) :
    ∃ h1 r1, C_X11_end x (some b) h = some ((), h1) ∧ R_ends (nn s) r = some ((), r1) ∧ Rel x i 12 96 e0 h1 r1 ∧ GL x h h1 r r1 ∧ Cu x i h h1 r r1 ∧ r1.2.1 11 s = 0 ∧ Pd h h1 r r1 ∧ Gho x i e0 h1 r1 := by
  have T := R.st
  obtain ⟨_, h1, _, r1, a1, a2, a3, a4, a5, a6, a7⟩ := sim_ends R hs hb h15
  refine ⟨h1, r1, a1, a2, a3, a4, a5 i hi, a6.1, a7, fun m hm => ?_⟩
  rw [Gho.gl a4 T] at hm
  obtain ⟨Rg, hm2⟩ := g m hm
  obtain ⟨_, x1, _, s1, c1, c2, c3, _⟩ := sim_ends Rg hs (show har (gk m h) (x + 34) s = some b from hb) h15
  rw [a2] at c2
  cases c2
  obtain ⟨h1', e1, e2, e3⟩ := gk_C_X11_end (m := m) h hm2 _ _ c1
  rw [a1] at e2
  cases e2
  subst e1
  exact ⟨c3, e3⟩
theorem Gho.nr (g : Gho x i e0 h r) : ∀ m, hfr h 406 (x + 48) = some m → NR x h r m := fun m hm => NR.of (g m hm).1
end EN3
section EN4
variable {x i a fl ka oi ni n0 sf nb : Nat} {e0 : Int32} {h : Hp} {r r' : RS} {bs ys : List Nat} {l3 l4 l14 l15 l16 l17 l18 l8 : Int32} {l6 l9 : Int64}
/-- the model takes the name over -/
theorem id_loop {ke : Int32 → Int32 → Int32 → Int32 → Int64 → Int32 → Int64 → Int32 → Int32 → Int32 → Int32 → Int32 → Int32 → Int32 → RS → Option (Unit × RS)} {o : Nat} {b2 b3 b4 b5 b8 b14 b15 b16 b17 b19 b20 : Int32} {b6 b9 : Int64} (hs : sf < 12) (hl : ys.length ≤ 20) (B : By ys) (ho : o + ys.length ≤ 3280) (h6 : Mg (r.2.1 6) o ys) :
    ∃ r', R_connect_L943 ke fu b2 b3 b4 b5 b6 b8 b9 (nn o) (nn ys.length) b14 b15 b16 b17 (nn sf) b19 b20 0 r = ke b2 b3 b4 b5 b6 b8 b9 b14 b15 b16 b17 (nn sf) b19 b20 r' ∧ Ro [14] r r' ∧ Ho sf 8 r r' ∧ Mg (r'.2.1 14) (20 * sf) ys := by
  have key : ∀ (c k f : Nat) (rr : RS), k + c = ys.length → c < f → Ro [14] r rr → Ho sf 8 r rr → (∀ q, q < k → rr.2.1 14 (20 * sf + q) = sb (ys.getD q 0)) → ∃ r', R_connect_L943 ke f b2 b3 b4 b5 b6 b8 b9 (nn o) (nn ys.length) b14 b15 b16 b17 (nn sf) b19 b20 (nn k) rr = ke b2 b3 b4 b5 b6 b8 b9 b14 b15 b16 b17 (nn sf) b19 b20 r' ∧ Ro [14] r r' ∧ Ho sf 8 r r' ∧ Mg (r'.2.1 14) (20 * sf) ys := by
    intro c
    induction c with
    | zero =>
      intro k f rr hk hf w wx g
      obtain ⟨f', rfl⟩ : ∃ z, f = z + 1 := ⟨f - 1, by omega⟩
      have : k = ys.length := by omega
      subst this
      refine ⟨rr, ?_, w, wx, g⟩
      show R_connect_B943 _ ke b2 b3 b4 b5 b6 b8 b9 (nn o) (nn ys.length) b14 b15 b16 b17 (nn sf) b19 b20 (nn ys.length) rr = _
      unfold R_connect_B943
      rw [if_pos (Int32.le_refl _)]
    | succ c ih =>
      intro k f rr hk hf w wx g
      obtain ⟨f', rfl⟩ : ∃ z, f = z + 1 := ⟨f - 1, by omega⟩
      obtain ⟨r', e1, e2⟩ := ih (k + 1) f' (sA rr 14 (20 * sf + k) (sb (ys.getD k 0))) (by omega) (by omega) (w.a (by decide)) (wx.a (Or.inr (Or.inl ⟨by omega, by omega, by show (20 * sf + k) / 20 = sf; omega⟩))) (fun q hq => by
        rw [sA_2]
        by_cases y : q = k
        · rw [if_pos ⟨rfl, by rw [y]⟩, y]
        · rw [if_neg (fun z => y (by omega))]
          exact g q (by omega))
      refine ⟨r', ?_, e2⟩
      rw [← e1]
      show R_connect_B943 _ ke b2 b3 b4 b5 b6 b8 b9 (nn o) (nn ys.length) b14 b15 b16 b17 (nn sf) b19 b20 (nn k) rr = _
      unfold R_connect_B943
      have e6 : rr.2.1 6 (o + k) = sb (ys.getD k 0) := by rw [w.gA (by decide)]; exact h6 k (by omega)
      rw [if_neg (by rw [nn_le (by omega) (by omega)]; omega), nn_add, x_rA mL_6 (by omega) (by omega), e6, show (20 : Int32) = nn 20 from rfl, nn_mul, nn_add, x_wA mL_14 (by omega) (by omega), nar_sb (B.at k), show nn k + 1 = nn (k + 1) from nn_add]
  exact key ys.length 0 fu r (by omega) (by unfold fu; omega) Ro.rf Ho.rf (fun q hq => by omega)
/-- the model's new session, before its name -/
def nwM (r : RS) (sf nb : Nat) : RS := sA (sI (sA r 11 sf 1) 73 (nn (nb + 1))) 12 sf (nn (nb + 1))
theorem nwM.ro : Ro [11, 12, 73] r (nwM r sf nb) := ((Ro.rf.a (by decide)).i (by decide)).a (by decide)
theorem nwM.ho : Ho sf 8 r (nwM r sf nb) := ((Ho.rf.a (Or.inr (Or.inl ⟨by omega, by omega, rfl⟩))).ii (by decide) (by decide)).a (Or.inr (Or.inl ⟨by omega, by omega, rfl⟩))
theorem nwM.rd : (nwM r sf nb).2.1 11 sf = 1 ∧ (nwM r sf nb).2.1 12 sf = nn (nb + 1) ∧ (nwM r sf nb).1 73 = nn (nb + 1) := by
  unfold nwM
  refine ⟨?_, ?_, ?_⟩
  · rw [sA_o (by decide), sI_2, sA_2, if_pos ⟨rfl, rfl⟩]
  · rw [sA_2, if_pos ⟨rfl, rfl⟩]
  · rw [sA_1, sI_1, if_pos rfl]
/-- a new session under a given name -/
theorem ent_nam (R : Rel x i 12 96 e0 h r) (D : Rd x i bs bs.length bs.length 0 h r) (ho : r.2.1 1 i = 1) (h7 : r.2.1 7 i = -1) (hcn : Cn r 900000000) (free : ∃ s, s < 12 ∧ r.2.1 11 s = 0) (G : GrE x h fl ka l6 l8 l9) (GW : GrW x i bs n0 h r fl l3 l4 l14 l15 l16 l17) (g : Gho x i e0 h r) (hfb : fl < 256) (W : Rw x h a (sl bs oi ni)) (hl : 1 ≤ ni ∧ ni ≤ 20) (hon : oi + ni ≤ bs.length) (fresh : ∀ s, s < 12 → r.2.1 11 s = 1 → ¬ IdOf r s (sl bs oi ni)) :
    Sim (C_X11_enter_J120 x (some (cA x i)) (nn 0) (some a) none (nn 0)) h (R_connect_J877 (nn fl) l3 l4 (nn ka) l6 l8 l9 (nn (410 * i + oi)) (nn ni) l14 l15 l16 l17 l18 (nn 0)) r (fun _ h' _ r' => EP x i e0 140 900 1 h r h' r') := by
  have hi := D.2.2.1.1
  have hbl := D.2.2.1.2.2.1
  have B := D.by
  have ll : (sl bs oi ni).length = ni := sl_len hon
  obtain ⟨_, _, nb, _, _, h73, _, _, hnb⟩ := hcn
  rcases free_or R.m11 with ⟨sf, f1, f2, f3, f4⟩ | ⟨f1, _⟩
  · have h6 : Mg ((sA (nwM r sf nb) 13 sf (nn ni)).2.1 6) (410 * i + oi) (sl bs oi ni) := by
      rw [sA_o (by decide), nwM.ro.gA (by decide)]
      exact D.2.1.2.2.2.slc hon
    obtain ⟨rN, e1, e2, e3, e4⟩ := id_loop (r := sA (nwM r sf nb) 13 sf (nn ni)) (sf := sf) (ys := sl bs oi ni) (o := 410 * i + oi) (ke := fun l2 l3 l4 l5 l6 l8 l9 l14 l15 l16 l17 l18 l19 l20 => R_connect_J979 l2 l3 l4 l5 l6 l8 l9 l14 l15 l16 l17 l18 l19 l20) (b2 := nn fl) (b3 := l3) (b4 := l4) (b5 := nn ka) (b6 := l6) (b8 := l8) (b9 := l9) (b14 := l14) (b15 := l15) (b16 := l16) (b17 := l17) (b19 := nn 0) (b20 := 0) f1 (by omega) (sl_by B) (by omega) h6
    rw [ll] at e1
    have cl : C_X11_enter_J120 x (some (cA x i)) (nn 0) (some a) none (nn 0) h = (bd (C_X11_makeSession x (some a)) fun r6 => C_X11_enter_J134 x (some (cA x i)) (nn 0) (some a) r6 (nn 0)) h := by
      unfold C_X11_enter_J120
      rw [if_pos rfl, e_Cv (c := 13) R.st.2.1.1]
    have ml : R_connect_J877 (nn fl) l3 l4 (nn ka) l6 l8 l9 (nn (410 * i + oi)) (nn ni) l14 l15 l16 l17 l18 (nn 0) r = R_connect_J979 (nn fl) l3 l4 (nn ka) l6 l8 l9 l14 l15 l16 l17 (nn sf) (nn 0) (nn 0) rN := by
      unfold R_connect_J877 R_connect_J878
      rw [if_pos rfl, e_bd f4, x_wA mL_11 f1 (by omega), x_rI, show (sA r 11 sf (vp_nar .boolean (1 : Int32))).1 73 = nn nb from h73, show nn nb + (1 : Int32) = nn (nb + 1) from nn_add, x_wI, x_wA mL_12 f1 (by omega), if_pos (show nn 0 = 0 from rfl), x_wA mL_13 f1 (by omega)]
      exact e1
    rw [Sim_l cl, Sim_r ml]
    have wN : Ro [11, 12, 13, 14, 73, 90] r rN := ((nwM.ro.sub (by decide)).a (by decide)).tr (e2.sub (by decide))
    have w13 : Ho sf 8 r (sA (nwM r sf nb) 13 sf (nn ni)) := nwM.ho.a (Or.inr (Or.inl ⟨by omega, by omega, rfl⟩))
    obtain ⟨d1, d2, d3⟩ := nwM.rd (r := r) (sf := sf) (nb := nb)
    exact ent_ns R D ho h7 (by omega) f1 f2 f3 G GW g.nr hfb W (by rw [ll]; exact hl) fresh (w13.tr e3) wN (by rw [e2.gA (by decide), sA_o (by decide)]; exact d1) (by rw [e2.gA (by decide), sA_o (by decide)]; exact d2) (by rw [e2.gI (by decide)]; exact d3) h73 (by omega) ⟨by rw [e2.gA (by decide), sA_2, if_pos ⟨rfl, rfl⟩, ll], e4⟩
  · obtain ⟨s, s1, s2⟩ := free
    rw [f1 s s1] at s2
    exact absurd s2 (by decide)
end EN4
