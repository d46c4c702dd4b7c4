/-! ===== the model: the packet of a message, whole ===== -/
theorem prt_if {r : RS} {j key fa fs : Nat} {l : List Nat} (hx : Prt r j key fa fs l) (hl : l.length ≤ 1200) {β : Type} {K : Int32 → RS → Option (β × RS)} : (if 0 ≤ r.2.1 fs j then K ((3 : Int32) + r.2.1 fs j) else K (0 : Int32)) = K (nn l.length) := by
  rcases hx with ⟨h1, h2⟩ | ⟨bs, ⟨o, l1, l2, l3, l4, l5⟩, hb, h2⟩
  · rw [h1, if_neg (by decide), h2]; rfl
  · rw [l2, if_pos (nn_ge (by omega)), h2, l_3, nn_add]
    congr 2
    simp only [List.length_cons]
    omega
theorem prt_rd {r r' : RS} {S : List Nat} {j key fa fs : Nat} {l : List Nat} (hx : Prt r j key fa fs l) (w : Ro S r r') (h1 : fa ∉ S) (h2 : fs ∉ S) (h3 : 45 ∉ S) : Prt r' j key fa fs l := by
  rcases hx with ⟨h1', h2'⟩ | ⟨bs, ⟨o, l1, l2, l3, l4, l5⟩, hb, h2'⟩
  · exact Or.inl ⟨by rw [(w fs h2).2.1]; exact h1', h2'⟩
  · exact Or.inr ⟨bs, ⟨o, by rw [(w fa h1).2.1]; exact l1, by rw [(w fs h2).2.1]; exact l2, by rw [(w 45 h3).2.1]; exact l3, l4, l5⟩, hb, h2'⟩
theorem neg1_lt : ((-1 : Int64)) < 0 := by decide
theorem n6_nneg {k : Nat} (h : k < 9223372036854775808) : (0 : Int64) ≤ n6 k := Int64.zero_le_ofNat_of_lt h
theorem n6_ne {k : Nat} (h : k < 9223372036854775808) : n6 k ≠ -1 := fun e => by
  have := n6_nneg h
  rw [e] at this
  exact absurd this (by decide)
/-- what follows the body: wrapped, sent or too long -/
def pubT (s : Nat) : RS → Option (Int32 × RS) :=
  rI 89 fun v2 => rL 18 (nn s) fun v3 => if (lg_cmp v2.toInt64 v3) ≤ 0 then (rA 15 (nn s) fun v4 => bd (R_send v4) fun _ => zt (1 : Int32)) else (rI 70 fun v6 => wI 70 (v6 + (1 : Int32)) <| zt (0 : Int32))
section MPB
variable {r : RS} {s j q fl id num ag : Nat} {V : MV} {Q : Int32 → RS → Prop}
theorem first_byte : ∀ ag, ag ≤ 1 → ∀ q, q ≤ 2 → ∀ fl, fl ≤ 1 → lo8 ((((48 : Int32) ||| ((8 : Int32) * nn ag)) ||| ((2 : Int32) * nn q)) ||| nn fl) = 48 + 8 * ag + 2 * q + fl := by decide +kernel
theorem qm_J485 {bs : List Nat} (hb : BD r bs) (hl : bs.length ≤ 1000) (hq : q ≤ 2) (hf : fl ≤ 1) (ha : ag ≤ 1) (kk : ∀ r', PK r' ((48 + 8 * ag + 2 * q + fl) :: (vb 4 bs.length ++ bs)) → Ro [88, 89] r r' → wp (pubT s) r' Q) : wp (R_sendPublish_J485 (nn s) (nn q) (nn fl) (nn ag)) r Q := by
  unfold R_sendPublish_J485
  rw [wp_bd]
  refine (qm_wrap hb hl).mono (fun _ r1 z => ?_)
  have z1 := z.1
  rw [first_byte ag ha q hq fl hf] at z1
  exact kk r1 z1 z.2
theorem qm_J342 {ps : List Nat} (hj : j < 640) (M : MsM r j V) (hV : Vok V) (hb : BD r ps) (hl : ps.length ≤ 120) (hid : id < 268435456) (hq : q ≤ 2) (hf : fl ≤ 1) (ha : ag ≤ 1)
    (kk : ∀ r', PK r' ((48 + 8 * ag + 2 * q + fl) :: (vb 4 (ps ++ (V.2.2.2.1 ++ ((if id = 0 then [] else 11 :: vb 4 id) ++ (V.2.2.2.2.1 ++ V.2.1)))).length ++ (ps ++ (V.2.2.2.1 ++ ((if id = 0 then [] else 11 :: vb 4 id) ++ (V.2.2.2.2.1 ++ V.2.1)))))) → Ro [88, 89, 90, 91] r r' → wp (pubT s) r' Q) :
    wp (R_sendPublish_J342 (nn s) (nn j) (nn q) (nn fl) (nn id) (nn ag) (nn V.2.2.2.2.1.length)) r Q := by
  obtain ⟨m1, ⟨m2, m3⟩, m4, m5, ⟨l3, l8, l9, n3, n8, n9, m6⟩, m7, m8, m9, m10⟩ := M
  obtain ⟨v1, v2, v3, v4, v5, b1, b2, b3, b4, b5⟩ := hV
  have hbh : V.2.2.2.1.length = l3.length + (l8.length + l9.length) := by rw [m6, List.length_append, List.length_append]
  have y3 : By l3 := fun b hb => b4 b (by rw [m6]; simp [hb])
  have y8 : By l8 := fun b hb => b4 b (by rw [m6]; simp [hb])
  have y9 : By l9 := fun b hb => b4 b (by rw [m6]; simp [hb])
  obtain ⟨po, p1, p2, p3, p4, p5⟩ := m4
  obtain ⟨uo, u1, u2, u3, u4, u5⟩ := m7
  unfold R_sendPublish_J342
  rw [wr_52 hj, wr_53 hj, wp_bd]
  refine (qm_part (key := 3) hj (by omega) hb n3 y3 (by omega) _ rfl).mono (fun _ r1 z1 => ?_)
  rw [wr_54 hj, wr_55 hj, wp_bd]
  have n8' := prt_rd n8 z1.2 (by decide) (by decide) (by decide)
  refine (qm_part (key := 8) hj (by omega) z1.1 n8' y8 (by rw [List.length_append]; omega) _ rfl).mono (fun _ r2 z2 => ?_)
  have w2 := z1.2.tr z2.2
  have n9' := prt_rd n9 w2 (by decide) (by decide) (by decide)
  rw [wr_56 hj, wr_57 hj, wp_bd]
  refine (qm_part (key := 9) hj (by omega) z2.1 n9' y9 (by simp only [List.length_append]; omega) _ rfl).mono (fun _ r3 z3 => ?_)
  have w3 := w2.tr z3.2
  have tail : ∀ (r4 : RS) (ts : List Nat), ts.length ≤ 5 → BD r4 (ps ++ l3 ++ l8 ++ l9 ++ ts) → Ro [90, 91] r r4 → ts = (if id = 0 then [] else 11 :: vb 4 id) → wp (R_sendPublish_J413 (nn s) (nn j) (nn q) (nn fl) (nn ag) (nn V.2.2.2.2.1.length)) r4 Q := by
    intro r4 ts ht hB w4 et
    unfold R_sendPublish_J413
    refine qm_cp416 (o := uo) hj hB (by rw [(w4 58 (by decide)).2.1]; exact u1) (by rw [(w4 45 (by decide)).2.1]; exact u3) b5 (by omega) (by simp only [List.length_append]; omega) (fun r5 z5 w5 => ?_)
    unfold R_sendPublish_J447
    have w5' := w4.tr w5
    refine qm_cp450 (o := po) hj z5 (by rw [(w5' 47 (by decide)).2.1]; exact p1) (by rw [(w5' 48 (by decide)).2.1]; exact p2) (by rw [(w5' 45 (by decide)).2.1]; exact p3) b2 (by omega) (by simp only [List.length_append]; omega) (fun r6 z6 w6 => ?_)
    refine qm_J485 z6 (by simp only [List.length_append]; omega) hq hf ha (fun r7 z7 w7 => ?_)
    refine kk r7 ?_ (((w5'.tr w6).sub (by decide)).tr (w7.sub (by decide)))
    have e : ps ++ (V.2.2.2.1 ++ ((if id = 0 then [] else 11 :: vb 4 id) ++ (V.2.2.2.2.1 ++ V.2.1))) = ps ++ l3 ++ l8 ++ l9 ++ ts ++ V.2.2.2.2.1 ++ V.2.1 := by
      rw [m6, ← et]
      simp only [List.append_assoc]
    rw [e]
    exact z7
  by_cases hi : id = 0
  · rw [wp_pos (by rw [hi]; rfl)]
    exact tail r3 [] (by simp) (by rw [List.append_nil]; exact z3.1) w3 (by rw [if_pos hi])
  · rw [wp_neg (show ¬ nn id = (0 : Int32) from fun e => hi (nn_inj (by omega) (by omega) e)), wp_bd]
    refine (qm_byte z3.1 (by simp only [List.length_append]; omega)).mono (fun _ r4 z4 => ?_)
    rw [n6_nn (by omega), wp_bd]
    refine (qm_var z4.1 hid (by simp only [List.length_append, List.length_cons, List.length_nil]; omega)).mono (fun _ r5 z5 => ?_)
    have hv := vb_len 4 id
    refine tail r5 (11 :: vb 4 id) (by rw [List.length_cons]; omega) ?_ ((w3.tr z4.2).tr z5.2) (by rw [if_neg hi])
    have z5' := z5.1
    have e11 : lo8 (11 : Int32) = 11 := by decide
    rw [e11] at z5'
    simpa using z5'
theorem qm_J276 {ps : List Nat} (hj : j < 640) (M : MsM r j V) (hV : Vok V) (hb : BD r ps) (hl : ps.length ≤ 110) (hid : id < 268435456) (hq : q ≤ 2) (hf : fl ≤ 1) (ha : ag ≤ 1)
    (kk : ∀ r', PK r' ((48 + 8 * ag + 2 * q + fl) :: (vb 4 (ps ++ ((if V.2.2.2.2.2.2.2 = -1 then [] else 2 :: f4 (lft V.2.2.2.2.2.2.2 (r.1 66) (r.2.1 51 j))) ++ (V.2.2.2.1 ++ ((if id = 0 then [] else 11 :: vb 4 id) ++ (V.2.2.2.2.1 ++ V.2.1))))).length ++ (ps ++ ((if V.2.2.2.2.2.2.2 = -1 then [] else 2 :: f4 (lft V.2.2.2.2.2.2.2 (r.1 66) (r.2.1 51 j))) ++ (V.2.2.2.1 ++ ((if id = 0 then [] else 11 :: vb 4 id) ++ (V.2.2.2.2.1 ++ V.2.1))))))) → Ro [88, 89, 90, 91] r r' → wp (pubT s) r' Q) :
    wp (R_sendPublish_J276 (nn s) (nn j) (nn q) (nn fl) (nn id) (nn ag) (nn V.2.2.2.2.1.length)) r Q := by
  have m10 : r.2.2 50 j = V.2.2.2.2.2.2.2 := M.2.2.2.2.2.2.2.2
  have hV5 := hV.2.2.2.2.1
  unfold R_sendPublish_J276
  rw [wr_50 hj, m10]
  by_cases hlf : V.2.2.2.2.2.2.2 = -1
  · rw [wp_pos (by rw [hlf, cmp_lt]; exact neg1_lt)]
    refine qm_J342 hj M hV hb (by omega) hid hq hf ha (fun r' z w => kk r' ?_ w)
    rw [if_pos hlf, List.nil_append]
    exact z
  · have hge : (0 : Int64) ≤ V.2.2.2.2.2.2.2 := by
      rcases hV5 with h | ⟨k, hk, h⟩
      · exact absurd h hlf
      · rw [h]; exact n6_nneg (by omega)
    rw [wp_neg (by rw [cmp_lt]; exact Int64.not_lt.mpr hge), wr_50 hj, m10, wp_rI, wr_51 hj, wp_lq, wp_bd]
    have el : lmax (0 : Int64) (V.2.2.2.2.2.2.2 - ((r.1 66 - r.2.1 51 j).toInt64)) = lft V.2.2.2.2.2.2.2 (r.1 66) (r.2.1 51 j) := by
      unfold lmax lft
      generalize V.2.2.2.2.2.2.2 - ((r.1 66 - r.2.1 51 j).toInt64) = y
      by_cases h : y ≤ 0
      · rw [if_pos h]
        by_cases h2 : y < 0
        · rw [if_pos h2]
        · rw [if_neg h2]
          exact Int64.le_antisymm h (Int64.not_lt.mp h2)
      · rw [if_neg h, if_neg (fun z => h (Int64.le_of_lt z))]
    rw [el]
    generalize hL : lft V.2.2.2.2.2.2.2 (r.1 66) (r.2.1 51 j) = y
    rw [hL] at kk
    refine (qm_byte hb (by omega)).mono (fun _ r1 z1 => ?_)
    obtain ⟨fl5, hfl5⟩ : ∃ n, fu = n + 5 := ⟨4995, rfl⟩
    rw [hfl5]
    have stp : ∀ (n : Nat) (l : Int32) (rr : RS) (ts : List Nat), ¬ l < 0 → BD rr ts → ts.length < 1200 → (∀ r', BD r' (ts ++ [lo8 ((lshr6 y l).toInt32)]) → Ro [90, 91] rr r' → wp (R_sendPublish_L321 (fun l1 l2 l3 l4 l5 l7 l8 => R_sendPublish_J342 l1 l2 l3 l4 l5 l7 l8) n (nn s) (nn j) (nn q) (nn fl) (nn id) (nn ag) (nn V.2.2.2.2.1.length) y (l + (-8))) r' Q) → wp (R_sendPublish_L321 (fun l1 l2 l3 l4 l5 l7 l8 => R_sendPublish_J342 l1 l2 l3 l4 l5 l7 l8) (n + 1) (nn s) (nn j) (nn q) (nn fl) (nn id) (nn ag) (nn V.2.2.2.2.1.length) y l) rr Q := by
      intro n l rr ts h0 hB hlen kk2
      show wp (R_sendPublish_B321 _ _ (nn s) (nn j) (nn q) (nn fl) (nn id) (nn ag) (nn V.2.2.2.2.1.length) y l) rr Q
      unfold R_sendPublish_B321
      rw [wp_neg h0, wp_bd]
      exact (qm_byte hB hlen).mono (fun _ r' z => kk2 r' z.1 z.2)
    refine stp _ _ _ _ (by decide) z1.1 (by simp only [List.length_append, List.length_cons, List.length_nil]; omega) (fun r2 z2 w2 => ?_)
    refine stp _ _ _ _ (by decide) z2 (by simp only [List.length_append, List.length_cons, List.length_nil]; omega) (fun r3 z3 w3 => ?_)
    refine stp _ _ _ _ (by decide) z3 (by simp only [List.length_append, List.length_cons, List.length_nil]; omega) (fun r4 z4 w4 => ?_)
    refine stp _ _ _ _ (by decide) z4 (by simp only [List.length_append, List.length_cons, List.length_nil]; omega) (fun r5 z5 w5 => ?_)
    show wp (R_sendPublish_B321 _ _ (nn s) (nn j) (nn q) (nn fl) (nn id) (nn ag) (nn V.2.2.2.2.1.length) y _) r5 Q
    unfold R_sendPublish_B321
    rw [wp_pos (by decide)]
    have w6 := (((z1.2.tr w2).tr w3).tr w4).tr w5
    have e2 : lo8 (2 : Int32) = 2 := by decide
    have z5' : BD r5 (ps ++ (2 :: f4 y)) := by
      rw [e2] at z5
      simp only [List.append_assoc] at z5
      exact z5
    refine qm_J342 hj (M.sj hV.1.2 (w6.sj (by decide))) hV z5' (by rw [List.length_append, List.length_cons, f4_len]; omega) hid hq hf ha (fun r' z w => kk r' ?_ ((w6.sub (by decide)).tr w))
    rw [if_neg hlf]
    simp only [List.append_assoc] at z ⊢
    exact z
end MPB
