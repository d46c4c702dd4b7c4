/-! ===== the model makes a message ===== -/
/-- the bytes of property k as they came -/
def rwK (x : Nat) (bs : List Nat) (M : Nat) (h : Hp) (k : Nat) : List Nat := if M.testBit k = true then sl bs (iN (hai h (x + 42) k)) (iN (hai h (x + 43) k) - iN (hai h (x + 42) k)) else []
def lifeK (M : Nat) (r : RS) : Int64 := if M.testBit 2 = true then r.2.2 83 2 else -1
section MSG
variable {x ec es ew i p n q rt j M : Nat} {e0 : Int32} {h : Hp} {r : RS} {bs U TP : List Nat}
theorem x_rL {α : Type} {k i L : Nat} {g : Int64 → RS → Option (α × RS)} (hm : mL k = L) (hi : i < L) (hb : i < 2147483648) : rL k (nn i) g r = g (r.2.2 k i) r := by
  unfold rL
  rw [if_pos (nn_inr (by rw [hm]; exact hi) hb), nn_N hb]
theorem x_wL {α : Type} {k i L : Nat} {v : Int64} {P : RS → Option (α × RS)} (hm : mL k = L) (hi : i < L) (hb : i < 2147483648) : wL k (nn i) v P r = P (sL r k i v) := by
  unfold wL
  rw [if_pos (nn_inr (by rw [hm]; exact hi) hb), nn_N hb]
theorem rwK.row {s e k : Nat} (B : By bs) (hb : M.testBit k = true) (h1 : hai h (x + 42) k = nn s) (h2 : hai h (x + 43) k = nn e) (he : e = s + 3 + b2 bs (s + 1)) (hl : e ≤ bs.length) (hbl : bs.length ≤ 405) (hk : bs.getD s 0 = k) : rwK x bs M h k = k :: (b2 bs (s + 1) / 256) :: (b2 bs (s + 1) % 256) :: sl bs (s + 3) (b2 bs (s + 1)) ∧ (rwK x bs M h k).length = e - s := by
  have a1 := B.at (s + 1)
  have a2 := B.at (s + 2)
  have e1 : b2 bs (s + 1) / 256 = bs.getD (s + 1) 0 := by
    unfold b2
    rw [show s + 1 + 1 = s + 2 from rfl]
    omega
  have e2 : b2 bs (s + 1) % 256 = bs.getD (s + 2) 0 := by
    unfold b2
    rw [show s + 1 + 1 = s + 2 from rfl]
    omega
  have eq : rwK x bs M h k = sl bs s (e - s) := by
    unfold rwK
    rw [if_pos hb, h1, h2, iN_nn (by omega), iN_nn (by omega)]
  rw [eq]
  refine ⟨?_, sl_len (by omega)⟩
  rw [e1, e2, ← hk]
  unfold sl
  rw [drop_cons (show s < bs.length by omega), drop_cons (show s + 1 < bs.length by omega), drop_cons (show s + 1 + 1 < bs.length by omega), show e - s = b2 bs (s + 1) + 3 by omega]
  rfl
theorem rwK.one {s e : Nat} (hb : M.testBit 1 = true) (h1 : hai h (x + 42) 1 = nn s) (h2 : hai h (x + 43) 1 = nn e) (he : e = s + 2) (hl : e ≤ bs.length) (hbl : bs.length ≤ 405) (hk : bs.getD s 0 = 1) : rwK x bs M h 1 = [1, bs.getD (s + 1) 0] := by
  have eq : rwK x bs M h 1 = sl bs s (e - s) := by
    unfold rwK
    rw [if_pos hb, h1, h2, iN_nn (by omega), iN_nn (by omega)]
  rw [eq]
  unfold sl
  rw [drop_cons (show s < bs.length by omega), drop_cons (show s + 1 < bs.length by omega), show e - s = 0 + 2 by omega, hk]
  rfl
theorem Tot.eq (P : Pp x i bs M U h r) (B : By bs) (hbl : bs.length ≤ 405) : (rwK x bs M h 1).length + (rwK x bs M h 3).length + (rwK x bs M h 8).length + (rwK x bs M h 9).length = Tot x h M := by
  have t : ∀ k, k ∈ K0 → k ≠ 38 → (rwK x bs M h k).length = tk x h M k := fun k hk hk2 => by
    unfold rwK tk
    by_cases g : M.testBit k = true
    · obtain ⟨s, e, a1, a2, a3, a4, a5, _⟩ := P.2.1 k hk hk2 g
      rw [if_pos g, if_pos g, a1, a2, iN_nn (by omega), iN_nn (by omega), sl_len (by omega)]
    · rw [if_neg g, if_neg g]
      rfl
  unfold Tot
  rw [t 1 (by decide) (by decide), t 3 (by decide) (by decide), t 8 (by decide) (by decide), t 9 (by decide) (by decide)]
theorem qm_message (R : Rel x ec es ew e0 h r) (P : Pp x i bs M U h r) (hi : i < 8) (B : By bs) (hbl : bs.length ≤ 405) (h6 : Mg (r.2.1 6) (410 * i) bs) (h75 : r.1 75 = nn i) (h98 : r.1 98 = nn TP.length) (h97 : Mg (r.2.1 97) 0 TP) (BT : By TP) (hT : 1 ≤ TP.length ∧ TP.length ≤ 64) (hpn : p + n ≤ bs.length) (hq : q ≤ 2) (hrt : rt ≤ 1) (hsum : Tot x h M + U.length + n ≤ 400) :
    ∃ j r', R_message (nn (410 * i + p)) (nn n) (nn q) (nn rt) r = some (nn j, r') ∧ j < 509 ∧ Unu r j ∧ Fi j r r' ∧ MsM r' j (TP, sl bs p n, rwK x bs M h 1, rwK x bs M h 3 ++ (rwK x bs M h 8 ++ rwK x bs M h 9), U, q, rt, lifeK M r) ∧ r'.2.1 51 j = r.1 66 ∧ (∀ s, s < 12 → r.2.1 7 i = nn s → r'.2.1 62 j = r.2.1 12 s) := by
  obtain ⟨j, r1, hj, e1, w1, hu⟩ := mark_free (l1 := nn (410 * i + p)) (l2 := nn n) (l3 := nn q) (l4 := nn rt) R
  have F1 : Fi j r r1 := Fi.mk w1
  have hTot := Tot.eq P B hbl
  obtain ⟨⟨m1, m2, m3⟩, pk, ⟨u1, u2, u3, u4, u5, u6⟩, p606, pq⟩ := P
  have hpl := sl_len (bs := bs) (q := p) (n := n) hpn
  -- the topic
  have F2 : Fi j r (sA r1 46 j (nn TP.length)) := F1.a (by decide)
  obtain ⟨r3, e3, C3⟩ := qm_ctop (r := sA r1 46 j (nn TP.length)) (ys := TP) (l := 480 * j) (ke := fun l1 l2 l3 l4 l5 l6 => R_message_J261 l1 l2 l3 l4 l5 l6) (l1 := nn (410 * i + p)) (l2 := nn n) (l3 := nn q) (l4 := nn rt) (l5 := nn j) (by rw [F2.1.gA (by decide)]; exact h97) BT (by rw [F2.1.gI (by decide)]; exact h98) (by omega) hT.2
  have F3 : Fi j r r3 := F2.cp C3 (Nat.le_refl _) (by omega)
  have e207 : R_message_J207 (nn (410 * i + p)) (nn n) (nn q) (nn rt) (nn j) r1 = R_message_J261 (nn (410 * i + p)) (nn n) (nn q) (nn rt) (nn j) (nn (480 * j + TP.length)) r3 := by
    rw [← e3]
    unfold R_message_J207 lq
    rw [l_480, nn_mul]
    show rI 98 _ r1 = _
    rw [x_rI, w1.gI (by decide), h98, x_wA mL_46 (by omega) (by omega)]
  -- the payload
  have F4 : Fi j r (sA (sA r3 47 j (nn (480 * j + TP.length))) 48 j (nn n)) := (F3.a (by decide)).a (by decide)
  obtain ⟨r5, e5, C5⟩ := qm_copy (r := sA (sA r3 47 j (nn (480 * j + TP.length))) 48 j (nn n)) (ys := sl bs p n) (o := 410 * i + p) (l := 480 * j + TP.length) (by rw [F4.1.gA (by decide)]; exact h6.slc hpn) (sl_by B) (by omega) (by omega) (by omega)
  rw [hpl] at e5
  have F5 : Fi j r r5 := F4.cp C5 (by omega) (by omega)
  -- 49, 50, 51
  have g82 : ∀ k, k < 64 → r5.2.1 82 k = if M.testBit k = true then 1 else 0 := fun k hk => by rw [F5.1.gA (by decide)]; exact m3 k hk
  obtain ⟨v49, h49, e261⟩ : ∃ v49, ((v49 = -1 ∧ rwK x bs M h 1 = []) ∨ ∃ b, b < 256 ∧ v49 = nn b ∧ rwK x bs M h 1 = [1, b]) ∧ R_message_J261 (nn (410 * i + p)) (nn n) (nn q) (nn rt) (nn j) (nn (480 * j + TP.length)) r3 = R_message_J314 (nn q) (nn rt) (nn j) (nn (480 * j + TP.length + n)) (nn j) v49 r5 := by
    have e0' : R_message_J261 (nn (410 * i + p)) (nn n) (nn q) (nn rt) (nn j) (nn (480 * j + TP.length)) r3 = (rA 82 (1 : Int32) fun v31 => if v31 = 0 then R_message_J314 (nn q) (nn rt) (nn j) (nn (480 * j + TP.length + n)) (nn j) (-1 : Int32) else rL 83 (1 : Int32) fun v32 => R_message_J314 (nn q) (nn rt) (nn j) (nn (480 * j + TP.length + n)) (nn j) v32.toInt32) r5 := by
      unfold R_message_J261
      rw [x_wA mL_47 (by omega) (by omega), x_wA mL_48 (by omega) (by omega), e_bd e5]
    by_cases g : M.testBit 1 = true
    · obtain ⟨s, e, a1, a2, a3, a4, a5, a6, a7, a8⟩ := pk 1 (by decide) (by decide) g
      obtain ⟨v, v1, v2, v3, v4⟩ := a7 (by decide)
      obtain ⟨v5, v6⟩ := v4 rfl
      have b256 := B.at (s + 1)
      refine ⟨nn v, Or.inr ⟨v, by omega, rfl, ?_⟩, ?_⟩
      · rw [rwK.one g a1 a2 v5 a5 hbl a6, v6]
      · rw [e0', l_1, x_rA mL_82 (by omega) (by omega), g82 1 (by omega), if_pos g, if_neg (by decide), x_rL mL_83 (by omega) (by omega), F5.1.gL (by decide), v3, n6_32 (by omega)]
    · refine ⟨-1, Or.inl ⟨rfl, by unfold rwK; rw [if_neg g]⟩, ?_⟩
      rw [e0', l_1, x_rA mL_82 (by omega) (by omega), g82 1 (by omega), if_neg g, if_pos rfl]
  obtain ⟨l6, hl6⟩ : ∃ z, z = 480 * j + TP.length + n := ⟨_, rfl⟩
  rw [← hl6] at e261
  have F6 : Fi j r (sA r5 49 j v49) := F5.a (by decide)
  have e314 : R_message_J314 (nn q) (nn rt) (nn j) (nn l6) (nn j) v49 r5 = R_message_J342 (nn q) (nn rt) (nn j) (nn l6) (nn j) (lifeK M r) (sA r5 49 j v49) := by
    unfold R_message_J314 lifeK
    rw [x_wA mL_49 (by omega) (by omega), l_2, x_rA mL_82 (by omega) (by omega), F6.1.gA (by decide), m3 2 (by omega)]
    by_cases g : M.testBit 2 = true
    · rw [if_pos g, if_pos g, if_neg (by decide), x_rL mL_83 (by omega) (by omega), F6.1.gL (by decide)]
    · rw [if_neg g, if_neg g, if_pos rfl]
  obtain ⟨r7, er7⟩ : ∃ z, z = sA (sL (sA r5 49 j v49) 50 j (lifeK M r)) 51 j (r.1 66) := ⟨_, rfl⟩
  have F7 : Fi j r r7 := by
    rw [er7]
    exact (F6.lo (by decide)).a (by decide)
  have e342 : R_message_J342 (nn q) (nn rt) (nn j) (nn l6) (nn j) (lifeK M r) (sA r5 49 j v49) = PT (nn 3) 52 53 (fun l => R_message_J421 (nn q) (nn rt) (nn j) l) (nn j) (nn l6) r7 := by
    unfold R_message_J342
    rw [x_wL mL_50 (by omega) (by omega), x_rI, sL_1, sA_1, F5.1.gI (by decide), x_wA mL_51 (by omega) (by omega), er7]
    rfl
  -- the rows
  have row : ∀ k, k ∈ K0 → k ≠ 38 → k ∈ kR → ∃ s, (∀ rr : RS, Fi j r rr → rr.2.1 82 k = 0 ∨ (rr.2.1 82 k = 1 ∧ rr.2.1 84 k = nn (410 * i + (s + 3)) ∧ rr.2.1 85 k = nn (b2 bs (s + 1)) ∧ s + 3 + b2 bs (s + 1) ≤ bs.length)) ∧ (M.testBit k = true → rwK x bs M h k = k :: (b2 bs (s + 1) / 256) :: (b2 bs (s + 1) % 256) :: sl bs (s + 3) (b2 bs (s + 1)) ∧ (rwK x bs M h k).length = 3 + b2 bs (s + 1)) := by
    intro k hk hk2 hkR
    have k40 := K0.lt hk
    by_cases g : M.testBit k = true
    · obtain ⟨s, e, a1, a2, a3, a4, a5, a6, a7, a8⟩ := pk k hk hk2 g
      obtain ⟨c1, c2, c3⟩ := a8 hkR
      refine ⟨s, fun rr F => Or.inr ⟨?_, ?_, ?_, by omega⟩, fun _ => ?_⟩
      · rw [F.1.gA (by decide), m3 k (by omega), if_pos g]
      · rw [F.1.gA (by decide)]; exact c2
      · rw [F.1.gA (by decide)]; exact c3
      · obtain ⟨z1, z2⟩ := rwK.row (x := x) (h := h) B g a1 a2 c1 a5 hbl a6
        exact ⟨z1, by omega⟩
    · exact ⟨0, fun rr F => Or.inl (by rw [F.1.gA (by decide), m3 k (by omega), if_neg g]), fun z => absurd z g⟩
  have bt : ∀ k (rr : RS), k < 64 → Fi j r rr → (rr.2.1 82 k = 1 ↔ M.testBit k = true) ∧ (rr.2.1 82 k = 0 ↔ ¬ M.testBit k = true) := fun k rr hk F => by
    rw [F.1.gA (by decide), m3 k hk]
    by_cases g : M.testBit k = true
    · rw [if_pos g]
      exact ⟨⟨fun _ => g, fun _ => rfl⟩, ⟨fun z => absurd z (by decide), fun z => absurd g z⟩⟩
    · rw [if_neg g]
      exact ⟨⟨fun z => absurd z (by decide), fun z => absurd z g⟩, ⟨fun _ => g, fun _ => rfl⟩⟩
  have rw0 : ∀ k, ¬ M.testBit k = true → rwK x bs M h k = [] := fun k g => by
    unfold rwK
    rw [if_neg g]
  obtain ⟨s3, a3, b3⟩ := row 3 (by decide) (by decide) (by decide)
  obtain ⟨s8, a8, b8⟩ := row 8 (by decide) (by decide) (by decide)
  obtain ⟨s9, a9, b9⟩ := row 9 (by decide) (by decide) (by decide)
  have h6' : ∀ rr : RS, Fi j r rr → Mg (rr.2.1 6) (410 * i) bs := fun rr F => by rw [F.1.gA (by decide)]; exact h6
  obtain ⟨r8, l8, t3, e8, f8, w8, q8, y8, z8, x8⟩ := qm_pRow (r := r7) (j := j) (l := l6) (i := i) (bs := bs) (s := s3) (key := 3) (fa := 52) (fs := 53) (K := fun l => R_message_J421 (nn q) (nn rt) (nn j) l) (by omega) mL_52 mL_53 (by decide) (by decide) (by decide) hj (by omega) (h6' r7 F7) B hbl hi (a3 r7 F7) (fun z => by have := (b3 ((bt 3 r7 (by omega) F7).1.mp z)).2; omega) (by omega)
  have F8 := F7.tr f8
  have c8 : t3 = rwK x bs M h 3 ∧ l8 ≤ l6 + (rwK x bs M h 3).length := by
    rcases x8 with ⟨z1, z2, z3⟩ | ⟨z1, z2, z3⟩
    · have := rw0 3 ((bt 3 r7 (by omega) F7).2.mp z1)
      exact ⟨by rw [z3, this], by omega⟩
    · obtain ⟨u1, u2⟩ := b3 ((bt 3 r7 (by omega) F7).1.mp z1)
      exact ⟨by rw [z3, u1], by omega⟩
  obtain ⟨r9, l9, t8, e9, f9, w9, q9, y9, z9, x9⟩ := qm_pRow (r := r8) (j := j) (l := l8) (i := i) (bs := bs) (s := s8) (key := 8) (fa := 54) (fs := 55) (K := fun l => R_message_J495 (nn q) (nn rt) (nn j) l) (by omega) mL_54 mL_55 (by decide) (by decide) (by decide) hj (by omega) (h6' r8 F8) B hbl hi (a8 r8 F8) (fun z => by have := (b8 ((bt 8 r8 (by omega) F8).1.mp z)).2; omega) (by omega)
  have F9 := F8.tr f9
  have c9 : t8 = rwK x bs M h 8 ∧ l9 ≤ l8 + (rwK x bs M h 8).length := by
    rcases x9 with ⟨z1, z2, z3⟩ | ⟨z1, z2, z3⟩
    · have := rw0 8 ((bt 8 r8 (by omega) F8).2.mp z1)
      exact ⟨by rw [z3, this], by omega⟩
    · obtain ⟨u1, u2⟩ := b8 ((bt 8 r8 (by omega) F8).1.mp z1)
      exact ⟨by rw [z3, u1], by omega⟩
  obtain ⟨ra, la, t9, ea, fa, wa, qa, ya, za, xa⟩ := qm_pRow (r := r9) (j := j) (l := l9) (i := i) (bs := bs) (s := s9) (key := 9) (fa := 56) (fs := 57) (K := fun l => R_message_J569 (nn q) (nn rt) (nn j) l) (by omega) mL_56 mL_57 (by decide) (by decide) (by decide) hj (by omega) (h6' r9 F9) B hbl hi (a9 r9 F9) (fun z => by have := (b9 ((bt 9 r9 (by omega) F9).1.mp z)).2; omega) (by omega)
  have Fa' := F9.tr fa
  have ca : t9 = rwK x bs M h 9 ∧ la ≤ l9 + (rwK x bs M h 9).length := by
    rcases xa with ⟨z1, z2, z3⟩ | ⟨z1, z2, z3⟩
    · have := rw0 9 ((bt 9 r9 (by omega) F9).2.mp z1)
      exact ⟨by rw [z3, this], by omega⟩
    · obtain ⟨u1, u2⟩ := b9 ((bt 9 r9 (by omega) F9).1.mp z1)
      exact ⟨by rw [z3, u1], by omega⟩
  -- the user's
  have Fb : Fi j r (sA (sA ra 58 j (nn la)) 59 j (nn U.length)) := (Fa'.a (by decide)).a (by decide)
  obtain ⟨rc, ec', Cc⟩ := qm_cusr (r := sA (sA ra 58 j (nn la)) 59 j (nn U.length)) (ys := U) (l := la) (ke := fun l3 l4 l5 => R_message_J626 l3 l4 l5) (l3 := nn q) (l4 := nn rt) (l5 := nn j) (by rw [Fb.1.gA (by decide)]; exact u6) u4 (by rw [Fb.1.gI (by decide)]; exact u2) (by omega) u3
  have Fc : Fi j r rc := Fb.cp Cc (by omega) (by omega)
  have e569 : R_message_J569 (nn q) (nn rt) (nn j) (nn la) ra = R_message_J626 (nn q) (nn rt) (nn j) rc := by
    rw [← ec']
    unfold R_message_J569
    rw [x_wA mL_58 (by omega) (by omega), x_rI, sA_1, Fa'.1.gI (by decide), u2, x_wA mL_59 (by omega) (by omega)]
  -- quality, flag, origin
  obtain ⟨vo, hvo, e626⟩ : ∃ vo, (∀ s, s < 12 → r.2.1 7 i = nn s → vo = r.2.1 12 s) ∧ R_message_J626 (nn q) (nn rt) (nn j) rc = some (nn j, sA (sA (sA rc 60 j (nn q)) 61 j (nn rt)) 62 j vo) := by
    have Fd : Fi j r (sA (sA rc 60 j (nn q)) 61 j (nn rt)) := (Fc.a (by decide)).a (by decide)
    have e0' : R_message_J626 (nn q) (nn rt) (nn j) rc = (if 0 ≤ r.2.1 7 i then (rI 75 fun v3 => rA 7 v3 fun v4 => rA 12 v4 fun v5 => R_message_J679 (nn j) (nn j) v5) else R_message_J679 (nn j) (nn j) (0 : Int32)) (sA (sA rc 60 j (nn q)) 61 j (nn rt)) := by
      unfold R_message_J626
      rw [x_wA mL_60 (by omega) (by omega), x_wA mL_61 (by omega) (by omega), x_rI, Fd.1.gI (by decide), h75, x_rA mL_7 hi (by omega), Fd.1.gA (by decide)]
    have e679 : ∀ v5, R_message_J679 (nn j) (nn j) v5 (sA (sA rc 60 j (nn q)) 61 j (nn rt)) = some (nn j, sA (sA (sA rc 60 j (nn q)) 61 j (nn rt)) 62 j v5) := fun v5 => by
      unfold R_message_J679
      rw [x_wA mL_62 (by omega) (by omega)]
      rfl
    rcases (R.2.2.2.1 i hi).1.2.2.2 with ⟨c1, c2⟩ | ⟨s, b, c0, c1, _⟩
    · refine ⟨0, fun s hs z => ?_, ?_⟩
      · rw [c1] at z
        exact absurd z (neg_nn (by omega))
      · rw [e0', c1, if_neg (by decide), e679]
    · refine ⟨r.2.1 12 s, fun s' hs z => ?_, ?_⟩
      · rw [nn_inj (by omega) (by omega) (c1.symm.trans z)]
      · rw [e0', c1, if_pos (nn_ge (by omega)), x_rI, Fd.1.gI (by decide), h75, x_rA mL_7 hi (by omega), Fd.1.gA (by decide), c1, x_rA mL_12 c0 (by omega), Fd.1.gA (by decide), e679]
  obtain ⟨rz, erz⟩ : ∃ z, z = sA (sA (sA rc 60 j (nn q)) 61 j (nn rt)) 62 j vo := ⟨_, rfl⟩
  have Fz' : Fi j r rz := by
    rw [erz]
    exact ((Fc.a (by decide)).a (by decide)).a (by decide)
  rw [← erz] at e626
  -- what was written stays
  have wz : Ro [60, 61, 62] rc rz := by
    rw [erz]
    exact ((Ro.rf.a (by decide)).a (by decide)).a (by decide)
  have wc : Ro [58, 59, 45, 60, 61, 62] ra rz := (((Ro.rf.a (by decide)).a (by decide)).tr (Cc.1.sub (by decide))).tr (wz.sub (by decide))
  have w9z : Ro [56, 57, 58, 59, 45, 60, 61, 62] r9 rz := (wa.sub (by decide)).tr (wc.sub (by decide))
  have w8z : Ro [54, 55, 56, 57, 58, 59, 45, 60, 61, 62] r8 rz := (w9.sub (by decide)).tr (w9z.sub (by decide))
  have w7z : Ro [52, 53, 54, 55, 56, 57, 58, 59, 45, 60, 61, 62] r7 rz := (w8.sub (by decide)).tr (w8z.sub (by decide))
  have sc : ∀ qq, qq < la → rz.2.1 45 qq = ra.2.1 45 qq := fun qq hqq => by
    rw [wz.gA (by decide), Cc.2.2 qq (Or.inl hqq), sA_o (by decide), sA_o (by decide)]
  have sa : ∀ qq, qq < l9 → rz.2.1 45 qq = r9.2.1 45 qq := fun qq hqq => (sc qq (by omega)).trans (za qq hqq)
  have s8' : ∀ qq, qq < l8 → rz.2.1 45 qq = r8.2.1 45 qq := fun qq hqq => (sa qq (by omega)).trans (z9 qq hqq)
  have s7' : ∀ qq, qq < l6 → rz.2.1 45 qq = r7.2.1 45 qq := fun qq hqq => (s8' qq (by omega)).trans (z8 qq hqq)
  have r75 : r7.2.1 45 = r5.2.1 45 := by
    rw [er7, sA_o (by decide), sL_2, sA_o (by decide)]
  have r7g : ∀ k, k ∉ [52, 53, 54, 55, 56, 57, 58, 59, 45, 60, 61, 62] → k ≠ 51 → k ≠ 49 → rz.2.1 k = r5.2.1 k := fun k h1 h2 h3 => by
    rw [w7z.gA h1, er7, sA_o h2, sL_2, sA_o h3]
  have r5g : ∀ k, k ≠ 45 → r5.2.1 k = (sA (sA r3 47 j (nn (480 * j + TP.length))) 48 j (nn n)).2.1 k := fun k hk => C5.1.gA (fun z => hk (List.mem_singleton.mp z))
  have r345 : (sA (sA r3 47 j (nn (480 * j + TP.length))) 48 j (nn n)).2.1 45 = r3.2.1 45 := by
    rw [sA_o (by decide), sA_o (by decide)]
  have rcg : ∀ k, k ≠ 45 → rc.2.1 k = (sA (sA ra 58 j (nn la)) 59 j (nn U.length)).2.1 k := fun k hk => Cc.1.gA (fun z => hk (List.mem_singleton.mp z))
  refine ⟨j, rz, ?_, hj, hu, Fz', ⟨by omega, ⟨?_, ?_⟩, ⟨480 * j + TP.length, ?_, ?_, ?_, by omega, ?_⟩, ?_, ⟨t3, t8, t9, ?_, ?_, ?_, ?_⟩, ⟨la, ?_, ?_, ?_, by omega, (by show la + U.length ≤ _; omega)⟩, ?_, ?_, ?_⟩, ?_, fun s hs z => ?_⟩
  · rw [e1, e207, e261, e314, e342, e8]
    show R_message_J421 (nn q) (nn rt) (nn j) (nn l8) r8 = _
    rw [show R_message_J421 (nn q) (nn rt) (nn j) (nn l8) = PT (nn 8) 54 55 (fun l => R_message_J495 (nn q) (nn rt) (nn j) l) (nn j) (nn l8) from rfl, e9]
    show R_message_J495 (nn q) (nn rt) (nn j) (nn l9) r9 = _
    rw [show R_message_J495 (nn q) (nn rt) (nn j) (nn l9) = PT (nn 9) 56 57 (fun l => R_message_J569 (nn q) (nn rt) (nn j) l) (nn j) (nn l9) from rfl, ea]
    show R_message_J569 (nn q) (nn rt) (nn j) (nn la) ra = _
    rw [e569, e626]
  · rw [r7g 46 (by decide) (by decide) (by decide), r5g 46 (by decide), sA_o (by decide), sA_o (by decide), C3.1.gA (by decide), sA_2, if_pos ⟨rfl, rfl⟩]
  · exact C3.2.1.of (fun qq hqq => by
      have : qq < TP.length := hqq
      rw [s7' _ (by omega), r75, C5.2.2 _ (Or.inl (by omega)), r345])
  · rw [r7g 47 (by decide) (by decide) (by decide), r5g 47 (by decide), sA_o (by decide), sA_2, if_pos ⟨rfl, rfl⟩]
  · rw [r7g 48 (by decide) (by decide) (by decide), r5g 48 (by decide), sA_2, if_pos ⟨rfl, rfl⟩]
    show nn n = nn (sl bs p n).length
    rw [hpl]
  · exact C5.2.1.of (fun qq hqq => by
      rw [hpl] at hqq
      rw [s7' _ (by omega), r75])
  · show _ + (sl bs p n).length ≤ _
    omega
  · have e49 : rz.2.1 49 j = v49 := by
      rw [w7z.gA (by decide), er7, sA_o (by decide), sL_2, sA_2, if_pos ⟨rfl, rfl⟩]
    rw [e49]
    exact h49
  · exact q8 _ rz w8z (by decide) (by decide) (fun qq hqq => s8' qq hqq)
  · exact q9 _ rz w9z (by decide) (by decide) (fun qq hqq => sa qq hqq)
  · exact qa _ rz wc (by decide) (by decide) (fun qq hqq => sc qq hqq)
  · rw [c8.1, c9.1, ca.1]
  · rw [wz.gA (by decide), rcg 58 (by decide), sA_o (by decide), sA_2, if_pos ⟨rfl, rfl⟩]
  · rw [wz.gA (by decide), rcg 59 (by decide), sA_2, if_pos ⟨rfl, rfl⟩]
  · rw [wz.gA (by decide)]
    exact Cc.2.1
  · rw [erz, sA_o (by decide), sA_o (by decide), sA_2, if_pos ⟨rfl, rfl⟩]
  · rw [erz, sA_o (by decide), sA_2, if_pos ⟨rfl, rfl⟩]
  · rw [w7z.gL (by decide), er7, sA_3, sL_3, if_pos ⟨rfl, rfl⟩]
  · rw [w7z.gA (by decide), er7, sA_2, if_pos ⟨rfl, rfl⟩]
  · rw [erz, sA_2, if_pos ⟨rfl, rfl⟩]
    exact hvo s hs z
end MSG
