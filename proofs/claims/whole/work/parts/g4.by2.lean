/-! ===== one byte, with all that follows from it ===== -/
theorem bd_Cv {α β γ : Type} {c : Nat} {o : Option Nat} {P : Nat → Hp → Option (α × Hp)} {f : α → Hp → Option (β × Hp)} {K : β → Hp → Option (γ × Hp)} : bd (hCv c o P f) K = hCv c o P (fun v => bd (f v) K) := by
  funext h
  cases o with
  | none => rfl
  | some a =>
    by_cases g : hkd h a = c + 1
    · rw [bd_l (M' := bd (P a) f) (s' := h) (e_Cv g), e_Cv g, bd_assoc]
    · have e1 : hCv c (some a) P f h = none := if_neg g
      have e2 : hCv c (some a) P (fun v => bd (f v) K) h = none := if_neg g
      unfold bd
      rw [e1]
      exact e2.symm
theorem bd_if {α β : Type} {p : Prop} [Decidable p] {A B : Hp → Option (α × Hp)} {K : α → Hp → Option (β × Hp)} : bd (if p then A else B) K = if p then bd A K else bd B K := by
  by_cases g : p
  · rw [if_pos g, if_pos g]
  · rw [if_neg g, if_neg g]
section BY2
variable {x i p n s b f k ec es ew len b0 : Nat} {e0 : Int32} {h h' h0 : Hp} {r r' r0 : RS} {bs : List Nat}
variable {kb : Int64 → Int64 → Int32 → Option Nat → Int32 → Int32 → Hp → Option ((Nat ⊕ Int32) × Hp)} {ke : Int32 → Hp → Option ((Nat ⊕ Int32) × Hp)} {l2 l4 s0 : Int64} {l6 l8 l9 : Int32} {l7 : Option Nat}
def kb0 : Int64 → Int64 → Int32 → Option Nat → Int32 → Int32 → Hp → Option ((Nat ⊕ Int32) × Hp) := fun _ _ _ _ _ _ => rt (Sum.inr 0)
theorem J169_split : C_X11_feed_J169 x kb ke l2 l4 l6 l7 l8 l9 = bd (C_X11_feed_J169 x kb0 ke l2 l4 l6 l7 l8 l9) (fun _ => kb l2 l4 l6 l7 l8 (l9 + 1)) := by
  unfold C_X11_feed_J169
  rw [bd_Cv]
  rfl
theorem J126_split {v : Int32} : C_X11_feed_J126 x kb ke l2 l4 l6 l7 l8 l9 v = bd (C_X11_feed_J126 x kb0 ke l2 l4 l6 l7 l8 l9 v) (fun _ => kb l2 l4 l6 l7 l8 (l9 + 1)) := by
  unfold C_X11_feed_J126
  rw [bd_if, bd_if, bd_if, bd_Cv, bd_Cv, bd_Cv, ← J169_split]
theorem J81_split : C_X11_feed_J81 x kb ke l2 l4 l6 l7 l8 l9 s0 = bd (C_X11_feed_J81 x kb0 ke l2 l4 l6 l7 l8 l9 s0) (fun _ => kb l2 l4 l6 l7 l8 (l9 + 1)) := by
  unfold C_X11_feed_J81
  rw [bd_Cv]
  have e : (fun r6 : Int32 => bd (if r6 = (1 : Int32) then (kb0 l2 l4 l6 l7 l8 (l9 + 1)) else (if r6 = (2 : Int32) then (hCv 13 (some x) (fun a => C_X11_obey a l7) fun r7 => C_X11_feed_J126 x kb0 ke l2 l4 l6 l7 l8 l9 r7) else (C_X11_feed_J126 x kb0 ke l2 l4 l6 l7 l8 l9 r6))) (fun _ => kb l2 l4 l6 l7 l8 (l9 + 1))) = fun r6 => if r6 = (1 : Int32) then (kb l2 l4 l6 l7 l8 (l9 + 1)) else (if r6 = (2 : Int32) then (hCv 13 (some x) (fun a => C_X11_obey a l7) fun r7 => C_X11_feed_J126 x kb ke l2 l4 l6 l7 l8 l9 r7) else (C_X11_feed_J126 x kb ke l2 l4 l6 l7 l8 l9 r6)) := by
    funext r6
    rw [bd_if, bd_if, bd_Cv, ← J126_split]
    have e2 : (fun v : Int32 => bd (C_X11_feed_J126 x kb0 ke l2 l4 l6 l7 l8 l9 v) fun _ => kb l2 l4 l6 l7 l8 (l9 + 1)) = fun v => C_X11_feed_J126 x kb ke l2 l4 l6 l7 l8 l9 v := by
      funext v
      rw [← J126_split]
    rw [e2]
    rfl
  rw [e]
def SB (r : RS) : Nat := iN (r.2.1 5 0) + iN (r.2.1 5 1) + iN (r.2.1 5 2) + iN (r.2.1 5 3) + iN (r.2.1 5 4) + iN (r.2.1 5 5) + iN (r.2.1 5 6) + iN (r.2.1 5 7)
theorem SB.one (hi : i < 8) (z : ∀ i', i' < 8 → i' ≠ i → iN (r'.2.1 5 i') ≤ iN (r.2.1 5 i')) : SB r' + iN (r.2.1 5 i) ≤ SB r + iN (r'.2.1 5 i) := by
  unfold SB
  have q : ∀ i', i' < 8 → i' = i ∨ iN (r'.2.1 5 i') ≤ iN (r.2.1 5 i') := fun i' h1 => by
    by_cases g : i' = i
    · exact Or.inl g
    · exact Or.inr (z i' h1 g)
  have tt : i = 0 ∨ i = 1 ∨ i = 2 ∨ i = 3 ∨ i = 4 ∨ i = 5 ∨ i = 6 ∨ i = 7 := by omega
  have q0 := q 0 (by omega)
  have q1 := q 1 (by omega)
  have q2 := q 2 (by omega)
  have q3 := q 3 (by omega)
  have q4 := q 4 (by omega)
  have q5 := q 5 (by omega)
  have q6 := q 6 (by omega)
  have q7 := q 7 (by omega)
  rcases tt with rfl | rfl | rfl | rfl | rfl | rfl | rfl | rfl <;> omega
/-- a CONNECT, as it is owed -/
def ConP (x : Nat) : Prop := ∀ (i p : Nat) (e0 : Int32) (h : Hp) (r : RS) (bs : List Nat) (ke : Int32 → Hp → Option ((Nat ⊕ Int32) × Hp)) (l2 l4 : Int64) (l6 l8 l9 : Int32) (Φ : Nat ⊕ Int32 → Hp → Int32 → RS → Prop), Rel x i 12 96 e0 h r → Rd x i bs p bs.length 0 h r → r.2.1 1 i = 1 → r.2.1 7 i = -1 → hfi h 208 (cA x i) = 0 → bs.length ≤ p + 400 → 2 ≤ p → bs.getD 0 0 / 16 = 1 → Cn r 1000000 →
  (∀ h' r', PE x i e0 bs.length h r h' r' → Sim (C_X11_feed_J169 x kb0 ke l2 l4 l6 (some (cA x i)) l8 l9) h' (R_look_J239 (nn i)) r' Φ) →
  Sim (bd (conK x (nn (bs.getD 0 0 % 16))) fun w => C_X11_feed_J126 x kb0 ke l2 l4 l6 (some (cA x i)) l8 l9 w) h (bd (R_take__J53 (nn 1) (nn (bs.getD 0 0 % 16))) fun _ => mEnd i) r Φ
/-- what a byte leaves -/
def BP (x : Nat) (e0 : Int32) (h : Hp) (r : RS) (w : Int32) (h' : Hp) (r' : RS) : Prop := Rel x 8 12 96 e0 h' r' ∧ (∀ i, i < 8 → r'.2.1 2 i = 0) ∧ (w = 0 ∨ w = 1) ∧ r'.1 67 = r.1 67 + w ∧ (hcs h').1 + WN r' + 60 * SB r' ≤ (hcs h).1 + WN r + 60 * SB r + 60 ∧ (hcs h').2 + 6 * WN r' + 700 * SB r' ≤ (hcs h).2 + 6 * WN r + 700 * SB r + 700 ∧ Cb 20 r r'
theorem Rel.five (R : Rel x 8 es ew e0 h r) (hi : i < 8) (h1 : r.2.1 1 i = 0) : iN (r.2.1 5 i) = 0 := by
  obtain ⟨bs, _, a2, _, _, _, _, a7, _⟩ := (R.2.2.2.1 i hi).2.2.2 (by omega)
  rw [a2, a7 h1]
  rfl
theorem GL.five (G : GL x h h' r r') (R : Rel x 8 es ew e0 h' r') (hi : i < 8) : iN (r'.2.1 5 i) ≤ iN (r.2.1 5 i) := by
  rcases G.2.2.2.2 i hi with z | z
  · rw [R.five hi z]
    omega
  · rw [z.2.1]
    exact Nat.le_refl _
theorem iN_acM (hk : k < 405) : iN ((acM i k b r).2.1 5 i) = k + 1 ∧ ∀ i', i' ≠ i → (acM i k b r).2.1 5 i' = r.2.1 5 i' := by
  refine ⟨?_, fun i' g => ?_⟩
  · show iN ((sA (sA r 6 (410 * i + k) (sb b)) 5 i (nn (k + 1))).2.1 5 i) = _
    rw [sA_2, if_pos ⟨rfl, rfl⟩, iN_nn (by omega)]
  · show (sA (sA r 6 (410 * i + k) (sb b)) 5 i (nn (k + 1))).2.1 5 i' = _
    rw [sA_2, if_neg (fun z => g z.2), sA_o (by decide)]
/-- the end of a packet: settled -/
theorem set_end (R : Rel x 8 12 96 e0 h r) (hi : i < 8) {α β : Type} {f : Unit → Hp → Option (α × Hp)} {g : Unit → RS → Option (β × RS)} {Φ : α → Hp → β → RS → Prop} (kk : ∀ h' r', Rel x 8 12 96 e0 h' r' → (∀ i, i < 8 → r'.2.1 2 i = 0) → r'.1 67 = r.1 67 → Pd h h' r r' → (∀ i', i' < 8 → iN (r'.2.1 5 i') ≤ iN (r.2.1 5 i')) → (∀ k ∈ [0, 66, 71, 72, 73], r'.1 k = r.1 k) → Sim (f ()) h' (g ()) r' Φ) : Sim (bd (C_X11_settle x) f) h (bd R_settle g) r Φ := by
  refine Sim.seq (sim_settle R) (fun _ h' _ r' z => ?_)
  obtain ⟨z1, z2, z3, z4⟩ := z
  exact kk h' r' z1 z3 (z2.2.1.gI (by decide)) z4 (fun i' g1 => z2.five z1 g1) (fun k hk => z2.2.1.gI (by simp only [List.mem_cons, List.not_mem_nil, or_false] at hk; rcases hk with rfl | rfl | rfl | rfl | rfl <;> decide))
theorem sim_byte (CN : ConP x) (hcn : Cn r 1000000) (R : Rel x 8 12 96 e0 h r) (h2 : ∀ i, i < 8 → r.2.1 2 i = 0) (hi : i < 8) (ho : r.2.1 1 i = 1) (hb : b < 256) (hv : ((lush6 s0 ((8 : Int32) * (l9 &&& (7 : Int32)))).toInt32) &&& (255 : Int32) = nn b) : ∃ k, k < 405 ∧ r.2.1 5 i = nn k ∧ Sim (C_X11_feed_J81 x kb0 ke l2 l4 l6 (some (cA x i)) l8 l9 s0) h (R_look (nn i)) (acM i k b r) (fun _ h' w r' => BP x e0 h r w h' r') := by
  have T := R.st
  have hx := T.1
  have hcl := T.cl hi
  obtain ⟨c1, _⟩ := T.pk hi
  obtain ⟨bs, v, h1, ⟨B, bl, b5⟩, e1, A1, bC, bM, ALx⟩ := acc_look R hi ho hb
  refine ⟨bs.length, bl, b5, ?_⟩
  obtain ⟨n1, n2⟩ := iN_acM (i := i) (b := b) (r := r) bl
  obtain ⟨r1, er1⟩ : ∃ z, z = acM i bs.length b r := ⟨_, rfl⟩
  have w1 : Ro [5, 6] r r1 := by
    rw [er1]
    exact acM.ro
  have wx : Ho 12 i r r1 := by
    rw [er1]
    exact acM.ho (by omega)
  have R1 : Rel x i 12 96 e0 h1 r1 := R.inc hi A1 w1 wx
  have T1 := R1.st
  have cs1 := A1.2.2.1
  have wn1 := w1.wn (by decide) (by decide) (by decide) (by decide)
  have i5 : iN (r.2.1 5 i) = bs.length := by
    rw [b5, iN_nn (by omega)]
  unfold AL at ALx
  rw [← er1] at ALx bM n1 n2 ⊢
  have ho1 : r1.2.1 1 i = 1 := by
    rw [w1.gA (by decide)]
    exact ho
  have ll : (bs ++ [b]).length = bs.length + 1 := by
    rw [List.length_append]
    rfl
  have B' : By (bs ++ [b]) := B.app (By.one hb)
  have c0 : hai h1 (cA x i + 2) 0 = nn ((bs ++ [b]).getD 0 0) := by
    have := bC 0 (by omega)
    rw [Nat.zero_add] at this
    exact this
  have m0 : r1.2.1 6 (410 * i) = sb ((bs ++ [b]).getD 0 0) := bM 0 (by omega)
  unfold C_X11_feed_J81
  rw [sl_Cv c1, hv, Sim_l (e_bd e1)]
  rcases ALx with ⟨v1, cI, eL⟩ | ⟨v2, p, p1, p2, p3, q8, q9, q10, eL⟩ | ⟨f, hf, vf, eL⟩
  · rw [v1, sl_pos rfl]
    refine ⟨Sum.inr 0, h1, 0, r1, rfl, eL, R1.in8 cI, fun i' g => by rw [w1.gA (by decide)]; exact h2 i' g, Or.inl rfl, by rw [w1.gI (by decide)]; exact (Int32.add_zero _).symm, ?_, ?_, Cb.of (fun k hk => w1.gI (by simp only [List.mem_cons, List.not_mem_nil, or_false] at hk; rcases hk with rfl | rfl | rfl | rfl | rfl <;> decide))⟩
    · have q := SB.one (r := r) (r' := r1) hi (fun i' _ g => by rw [n2 i' g]; exact Nat.le_refl _)
      rw [cs1]
      omega
    · have q := SB.one (r := r) (r' := r1) hi (fun i' _ g => by rw [n2 i' g]; exact Nat.le_refl _)
      rw [cs1]
      omega
  · rw [v2, sl_neg (by decide), sl_pos rfl, sl_Cv T1.2.1.1, Sim_r eL]
    obtain ⟨h3, eh3⟩ : ∃ z, z = obH x i p (bs ++ [b]).length h1 := ⟨_, rfl⟩
    obtain ⟨r3, er3⟩ : ∃ z, z = obM i p (bs ++ [b]).length r1 := ⟨_, rfl⟩
    have q3 : Fm x [1310, 212, 701, 702, 703, 704] (fun _ => False) h1 h3 := by
      rw [eh3]
      exact obH.fm
    have w3 : Ro [67, 8, 75, 76, 77, 78, 79] r1 r3 := by
      rw [er3]
      exact obM.ro
    have cs3 : hcs h3 = hcs h1 := by
      rw [eh3]
      rfl
    have e67 : r3.1 67 = r1.1 67 + 1 := by
      rw [er3]
      rfl
    have wn3 := w3.wn (by decide) (by decide) (by decide) (by decide)
    have e35 : r3.2.1 5 = r1.2.1 5 := w3.gA (by decide)
    have kk : ∀ h' r', PE x i e0 (bs ++ [b]).length h3 r3 h' r' → Sim (C_X11_feed_J169 x kb0 ke l2 l4 l6 (some (cA x i)) l8 l9) h' (R_look_J239 (nn i)) r' (fun _ h' w r' => BP x e0 h r w h' r') := fun h' r' P => by
      obtain ⟨P1, P2, P3, P4, P5, P6, P7⟩ := P
      unfold C_X11_feed_J169 R_look_J239
      rw [sl_Cv P1.st.2.1.1, sr_w5 hi]
      have R4 := P1.com hi P2
      refine set_end R4 hi (fun h4 r4 R5 s2 z67 Pd4 z5 z7 => ?_)
      refine ⟨Sum.inr 0, h4, 1, r4, rfl, rfl, R5, s2, Or.inr rfl, ?_, ?_, ?_, ?_⟩
      · rw [z67]
        show r'.1 67 = _
        rw [P3, e67, w1.gI (by decide)]
      rotate_left 2
      · have a1 : Cb 0 r r3 := Cb.of (fun k hk => by
          simp only [List.mem_cons, List.not_mem_nil, or_false] at hk
          rcases hk with rfl | rfl | rfl | rfl | rfl <;> rw [w3.gI (by decide), w1.gI (by decide)])
        have a2 : Cb 0 r' r4 := Cb.of (fun k hk => by rw [z7 k hk]; rfl)
        exact (a1.tr P7).tr a2
      all_goals
        have i0 : iN ((sA r' 5 i 0).2.1 5 i) = 0 := by
          rw [sA_2, if_pos ⟨rfl, rfl⟩]
          rfl
        have i4 := z5 i hi
        have q := SB.one (r := r) (r' := r4) hi (fun i' g1 g2 => by
          have a1 := z5 i' g1
          rw [sA_2, if_neg (fun z => g2 z.2)] at a1
          have a2 := P6 i' g1 g2
          rw [e35, n2 i' g2] at a2
          omega)
        have d1 := Pd4.1
        have d2 := Pd4.2
        have wz : WN (sA r' 5 i 0) ≤ WN r' := (Ro.rf.a (S := [5]) (by decide)).wn (by decide) (by decide) (by decide) (by decide)
        rw [cs3, cs1, ll] at P4 P5
        omega
    have h3C : Cg (hai h1 (cA x i + 2)) 0 (bs ++ [b]) := bC
    rw [show bs.length + 1 = (bs ++ [b]).length from ll.symm] at q10 ⊢
    refine sim_pkt R1 hi ho1 q8 q9 q10 B' (by omega) p1 (by omega) (by omega) bC bM (fun t1 t7 => ?_) (by rw [← eh3, ← er3]; exact kk)
    rw [← eh3, ← er3]
    have D3 : Rd x i (bs ++ [b]) p (bs ++ [b]).length 0 h3 r3 := by
      rw [eh3, er3]
      exact ob_rd T1 hi B' (by omega) (by omega) (by omega) bC bM
    have R3 : Rel x i 12 96 e0 h3 r3 := by
      rw [eh3, er3]
      exact R1.ob2 hi
    exact CN i p e0 h3 r3 (bs ++ [b]) ke l2 l4 l6 l8 l9 _ R3 D3 (by rw [w3.gA (by decide)]; exact ho1) (by rw [w3.gA (by decide)]; exact t7) (by rw [q3.gi (by decide) (by have := T1.cl hi; omega)]; exact q8) (by omega) p1 t1 (by
      have a1 : Cb 0 r r3 := Cb.of (fun k hk => by
        simp only [List.mem_cons, List.not_mem_nil, or_false] at hk
        rcases hk with rfl | rfl | rfl | rfl | rfl <;> rw [w3.gI (by decide), w1.gI (by decide)])
      exact a1.1 _ hcn) kk
  · have f256 : f < 256 := by omega
    have n1' : ¬ nn f = (1 : Int32) := fun z => by
      have := nn_inj (b := 1) (by omega) (by omega) z
      omega
    have n2' : ¬ nn f = (2 : Int32) := fun z => by
      have := nn_inj (b := 2) (by omega) (by omega) z
      omega
    have n3' : ¬ nn f = (3 : Int32) := fun z => by
      have := nn_inj (b := 3) (by omega) (by omega) z
      omega
    have n4' : ¬ nn f = (4 : Int32) := fun z => by
      have := nn_inj (b := 4) (by omega) (by omega) z
      omega
    rw [vf, sl_neg n1', sl_neg n2', Sim_r eL]
    unfold C_X11_feed_J126 R_wrong
    rw [sl_neg n3', sl_neg n4', sl_neg (nn_ne0 (by omega) (by omega)), sl_Cv T1.2.1.1, bd_assoc]
    refine Sim.seq (sim_refuse R1 hi ho1 f256 (B'.at 0) c0 m0) (fun _ h3 _ r3 z => ?_)
    obtain ⟨z1, z2, z3, z4, z5, z6⟩ := z
    unfold C_X11_feed_J169
    rw [sl_Cv z1.st.2.1.1, bd_assoc]
    refine set_end z1 hi (fun h4 r4 R5 s2 z67 Pd4 y5 y7 => ?_)
    refine ⟨Sum.inr 0, h4, 0, r4, rfl, rfl, R5, s2, Or.inl rfl, ?_, ?_, ?_, Cb.of (fun k hk => ((y7 k hk).trans (z6 k hk)).trans (w1.gI (by simp only [List.mem_cons, List.not_mem_nil, or_false] at hk; rcases hk with rfl | rfl | rfl | rfl | rfl <;> decide)))⟩
    · rw [z67, z3, w1.gI (by decide)]
      exact (Int32.add_zero _).symm
    all_goals
      have i4 := y5 i hi
      have i3 := z1.five hi z2
      have q := SB.one (r := r) (r' := r4) hi (fun i' g1 g2 => by
        have a1 := y5 i' g1
        rw [z5 i' g1 g2, n2 i' g2] at a1
        exact a1)
      have d1 := Pd4.1
      have d2 := Pd4.2
      have d3 := z4.1
      have d4 := z4.2
      rw [cs1] at d3 d4
      omega
end BY2
