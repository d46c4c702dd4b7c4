section MPC
variable {r : RS} {s j q fl id num ag : Nat} {V : MV} {Q : Int32 → RS → Prop}
/-- the body behind the number -/
def pubC (V : MV) (id : Nat) (left : Int64) : List Nat := V.2.2.1 ++ ((if V.2.2.2.2.2.2.2 = -1 then [] else 2 :: f4 left) ++ (V.2.2.2.1 ++ ((if id = 0 then [] else 11 :: vb 4 id) ++ (V.2.2.2.2.1 ++ V.2.1))))
theorem qm_J242 {ps : List Nat} {a b : Nat} (hj : j < 640) (M : MsM r j V) (hV : Vok V) (hb : BD r ps) (hl : ps.length ≤ 80) (hid : id < 268435456) (hq : q ≤ 2) (hf : fl ≤ 1) (ha : ag ≤ 1) (hab : a + b = plen V id)
    (kk : ∀ r', PK r' ((48 + 8 * ag + 2 * q + fl) :: (vb 4 (ps ++ (vb 4 (plen V id) ++ pubC V id (lft V.2.2.2.2.2.2.2 (r.1 66) (r.2.1 51 j)))).length ++ (ps ++ (vb 4 (plen V id) ++ pubC V id (lft V.2.2.2.2.2.2.2 (r.1 66) (r.2.1 51 j)))))) → Ro [88, 89, 90, 91] r r' → wp (pubT s) r' Q) :
    wp (R_sendPublish_J242 (nn s) (nn j) (nn q) (nn fl) (nn id) (nn ag) (nn V.2.2.2.2.1.length) (nn a) (nn b)) r Q := by
  have hp := plen_le hV id
  have hvl := vb_len 4 (plen V id)
  unfold R_sendPublish_J242
  rw [nn_add, hab, wp_lq, n6_nn (by omega), wp_bd]
  refine (qm_var hb (by omega) (by omega)).mono (fun _ r1 z1 => ?_)
  have e66 : r1.1 66 = r.1 66 := (z1.2 66 (by decide)).1
  have e51 : r1.2.1 51 j = r.2.1 51 j := by rw [(z1.2 51 (by decide)).2.1]
  have e49 : r1.2.1 49 j = r.2.1 49 j := by rw [(z1.2 49 (by decide)).2.1]
  have M1 := M.sj hV.1.2 (z1.2.sj (by decide))
  rw [wr_49 hj]
  rcases M1.2.2.2.1 with ⟨h1, h2⟩ | ⟨c, hc, h1, h2⟩
  · rw [h1, wp_pos (by decide)]
    refine qm_J276 hj M1 hV z1.1 (by rw [List.length_append]; omega) hid hq hf ha (fun r' z w => kk r' ?_ ((z1.2.sub (by decide)).tr w))
    rw [e66, e51] at z
    unfold pubC
    rw [h2, List.nil_append]
    simp only [List.append_assoc] at z ⊢
    exact z
  · rw [h1, wp_neg (nn_nlt0 (by omega)), wp_bd]
    refine (qm_byte z1.1 (by rw [List.length_append]; omega)).mono (fun _ r2 z2 => ?_)
    have e2 : r2.2.1 49 j = nn c := by rw [(z2.2 49 (by decide)).2.1]; exact h1
    rw [wr_49 hj, e2, wp_bd]
    refine (qm_byte z2.1 (by simp only [List.length_append, List.length_cons, List.length_nil]; omega)).mono (fun _ r3 z3 => ?_)
    have w3 := (z1.2.tr z2.2).tr z3.2
    have f66 : r3.1 66 = r.1 66 := (w3 66 (by decide)).1
    have f51 : r3.2.1 51 j = r.2.1 51 j := by rw [(w3 51 (by decide)).2.1]
    refine qm_J276 hj (M.sj hV.1.2 (w3.sj (by decide))) hV z3.1 (by simp only [List.length_append, List.length_cons, List.length_nil]; omega) hid hq hf ha (fun r' z w => kk r' ?_ ((w3.sub (by decide)).tr w))
    have l1 : lo8 (1 : Int32) = 1 := by decide
    have l2 : lo8 (nn c) = c := by rw [lo8_nn (by omega)]; omega
    rw [f66, f51, l1, l2] at z
    unfold pubC
    rw [h2]
    simp only [List.append_assoc, List.cons_append, List.nil_append] at z ⊢
    exact z
theorem qm_J84 {ps : List Nat} (hj : j < 640) (M : MsM r j V) (hV : Vok V) (hb : BD r ps) (hl : ps.length ≤ 80) (hid : id < 268435456) (hq : q ≤ 2) (hf : fl ≤ 1) (ha : ag ≤ 1)
    (kk : ∀ r', PK r' ((48 + 8 * ag + 2 * q + fl) :: (vb 4 (ps ++ (vb 4 (plen V id) ++ pubC V id (lft V.2.2.2.2.2.2.2 (r.1 66) (r.2.1 51 j)))).length ++ (ps ++ (vb 4 (plen V id) ++ pubC V id (lft V.2.2.2.2.2.2.2 (r.1 66) (r.2.1 51 j)))))) → Ro [88, 89, 90, 91] r r' → wp (pubT s) r' Q) :
    wp (R_sendPublish_J84 (nn s) (nn j) (nn q) (nn fl) (nn id) (nn ag)) r Q := by
  have M0 := M
  have hp := plen_le hV id
  obtain ⟨m1, ⟨m2, m3⟩, m4, m5, ⟨l3, l8, l9, n3, n8, n9, m6⟩, ⟨uo, u1, u2, u3, u4, u5⟩, m8, m9, m10⟩ := M
  have hbh : V.2.2.2.1.length = l3.length + (l8.length + l9.length) := by rw [m6, List.length_append, List.length_append]
  have hV2 := hV.2.1
  have J188 : ∀ a b, a + b + V.2.2.2.2.1.length + (if id = 0 then 0 else 1 + wd id) = plen V id → wp (R_sendPublish_J188 (nn s) (nn j) (nn q) (nn fl) (nn id) (nn ag) (nn V.2.2.2.2.1.length) (nn a) (nn b)) r Q := by
    intro a b hab
    unfold R_sendPublish_J188
    rw [nn_add, nn_add, wp_lq]
    by_cases hi : id = 0
    · rw [wp_pos (by rw [hi]; rfl)]
      rw [if_pos hi] at hab
      exact qm_J242 (b := 0) hj M0 hV hb hl hid hq hf ha (by omega) kk
    · rw [if_neg hi] at hab
      rw [wp_neg (show ¬ nn id = (0 : Int32) from fun e => hi (nn_inj (by omega) (by omega) e))]
      have c1 : (128 : Int32) = nn 128 := rfl
      have c2 : (16384 : Int32) = nn 16384 := rfl
      have c3 : (2097152 : Int32) = nn 2097152 := rfl
      unfold wd at hab
      by_cases g1 : id < 128
      · rw [wp_neg (by rw [c1, nn_le (by omega) (by omega)]; omega)]
        rw [if_pos g1] at hab
        exact qm_J242 (b := 2) hj M0 hV hb hl hid hq hf ha (by omega) kk
      · rw [wp_pos (by rw [c1, nn_le (by omega) (by omega)]; omega)]
        rw [if_neg g1] at hab
        by_cases g2 : id < 16384
        · rw [wp_neg (by rw [c2, nn_le (by omega) (by omega)]; omega)]
          rw [if_pos g2] at hab
          exact qm_J242 (b := 3) hj M0 hV hb hl hid hq hf ha (by omega) kk
        · rw [wp_pos (by rw [c2, nn_le (by omega) (by omega)]; omega)]
          rw [if_neg g2] at hab
          by_cases g3 : id < 2097152
          · rw [wp_neg (by rw [c3, nn_le (by omega) (by omega)]; omega)]
            rw [if_pos g3] at hab
            exact qm_J242 (b := 4) hj M0 hV hb hl hid hq hf ha (by omega) kk
          · rw [wp_pos (by rw [c3, nn_le (by omega) (by omega)]; omega)]
            rw [if_neg g3] at hab
            exact qm_J242 (b := 5) hj M0 hV hb hl hid hq hf ha (by omega) kk
  have J122 : ∀ a b, a + b + V.2.2.2.1.length + V.2.2.2.2.1.length + (if id = 0 then 0 else 1 + wd id) = plen V id → wp (R_sendPublish_J122 (nn s) (nn j) (nn q) (nn fl) (nn id) (nn ag) (nn V.2.2.2.2.1.length) (nn a) (nn b)) r Q := by
    intro a b hab
    unfold R_sendPublish_J122
    rw [wr_53 hj]
    rw [wp_eq (P' := (if 0 ≤ r.2.1 53 j then R_sendPublish_J144 (nn s) (nn j) (nn q) (nn fl) (nn id) (nn ag) (nn V.2.2.2.2.1.length) (nn a + nn b) ((3 : Int32) + r.2.1 53 j) else R_sendPublish_J144 (nn s) (nn j) (nn q) (nn fl) (nn id) (nn ag) (nn V.2.2.2.2.1.length) (nn a + nn b) (0 : Int32))) (σ' := r)]
    · rw [prt_if (K := fun z => R_sendPublish_J144 (nn s) (nn j) (nn q) (nn fl) (nn id) (nn ag) (nn V.2.2.2.2.1.length) (nn a + nn b) z) n3 (by omega), nn_add]
      unfold R_sendPublish_J144
      rw [wr_55 hj]
      rw [wp_eq (P' := (if 0 ≤ r.2.1 55 j then R_sendPublish_J166 (nn s) (nn j) (nn q) (nn fl) (nn id) (nn ag) (nn V.2.2.2.2.1.length) (nn (a + b) + nn l3.length) ((3 : Int32) + r.2.1 55 j) else R_sendPublish_J166 (nn s) (nn j) (nn q) (nn fl) (nn id) (nn ag) (nn V.2.2.2.2.1.length) (nn (a + b) + nn l3.length) (0 : Int32))) (σ' := r)]
      · rw [prt_if (K := fun z => R_sendPublish_J166 (nn s) (nn j) (nn q) (nn fl) (nn id) (nn ag) (nn V.2.2.2.2.1.length) (nn (a + b) + nn l3.length) z) n8 (by omega), nn_add]
        unfold R_sendPublish_J166
        rw [wr_57 hj]
        rw [wp_eq (P' := (if 0 ≤ r.2.1 57 j then R_sendPublish_J188 (nn s) (nn j) (nn q) (nn fl) (nn id) (nn ag) (nn V.2.2.2.2.1.length) (nn (a + b + l3.length) + nn l8.length) ((3 : Int32) + r.2.1 57 j) else R_sendPublish_J188 (nn s) (nn j) (nn q) (nn fl) (nn id) (nn ag) (nn V.2.2.2.2.1.length) (nn (a + b + l3.length) + nn l8.length) (0 : Int32))) (σ' := r)]
        · rw [prt_if (K := fun z => R_sendPublish_J188 (nn s) (nn j) (nn q) (nn fl) (nn id) (nn ag) (nn V.2.2.2.2.1.length) (nn (a + b + l3.length) + nn l8.length) z) n9 (by omega), nn_add]
          exact J188 _ _ (by omega)
        · by_cases g : 0 ≤ r.2.1 57 j
          · rw [if_pos g, if_pos g]
            unfold rA
            rw [if_pos (nn_inr (by rw [mL_57]; exact hj) (by omega)), nn_N (by omega)]
          · rw [if_neg g, if_neg g]
      · by_cases g : 0 ≤ r.2.1 55 j
        · rw [if_pos g, if_pos g]
          unfold rA
          rw [if_pos (nn_inr (by rw [mL_55]; exact hj) (by omega)), nn_N (by omega)]
        · rw [if_neg g, if_neg g]
    · by_cases g : 0 ≤ r.2.1 53 j
      · rw [if_pos g, if_pos g]
        unfold rA
        rw [if_pos (nn_inr (by rw [mL_53]; exact hj) (by omega)), nn_N (by omega)]
      · rw [if_neg g, if_neg g]
  have J106 : ∀ a, a = V.2.2.1.length → wp (R_sendPublish_J106 (nn s) (nn j) (nn q) (nn fl) (nn id) (nn ag) (nn V.2.2.2.2.1.length) (nn a)) r Q := by
    intro a hea
    unfold R_sendPublish_J106
    rw [wr_50 hj, m10]
    have hpl : plen V id = V.2.2.1.length + (if V.2.2.2.2.2.2.2 = -1 then 0 else 5) + V.2.2.2.1.length + (if id = 0 then 0 else 1 + wd id) + V.2.2.2.2.1.length := rfl
    by_cases hlf : V.2.2.2.2.2.2.2 = -1
    · rw [wp_neg (by rw [hlf, cmp_ge]; decide)]
      rw [if_pos hlf] at hpl
      exact J122 a 0 (by omega)
    · have hge : (0 : Int64) ≤ V.2.2.2.2.2.2.2 := by
        rcases hV.2.2.2.2.1 with h | ⟨k, hk, h⟩
        · exact absurd h hlf
        · rw [h]; exact n6_nneg (by omega)
      rw [wp_pos (by rw [cmp_ge]; exact hge)]
      rw [if_neg hlf] at hpl
      exact J122 a 5 (by omega)
  unfold R_sendPublish_J84
  rw [wr_59 hj, u2, wr_49 hj]
  rcases m5 with ⟨h1, h2⟩ | ⟨c, hc, h1, h2⟩
  · rw [h1, wp_neg (by decide)]
    exact J106 0 (by rw [h2]; rfl)
  · rw [h1, wp_pos (nn_ge (by omega))]
    exact J106 2 (by rw [h2]; rfl)
theorem qm_pub (hj : j < 640) (M : MsM r j V) (hV : Vok V) (hid : id < 268435456) (hnum : num < 65536) (hq : q ≤ 2) (hf : fl ≤ 1) (ha : ag ≤ 1)
    (kk : ∀ r', PK r' ((48 + 8 * ag + 2 * q + fl) :: (vb 4 (pubB V q num id (lft V.2.2.2.2.2.2.2 (r.1 66) (r.2.1 51 j))).length ++ pubB V q num id (lft V.2.2.2.2.2.2.2 (r.1 66) (r.2.1 51 j)))) → Ro [88, 89, 90, 91] r r' → wp (pubT s) r' Q) :
    wp (R_sendPublish (nn s) (nn j) (nn q) (nn fl) (nn id) (nn num) (nn ag)) r Q := by
  have m2 := M.2.1
  have hv1 := hV.1
  unfold R_sendPublish
  have w0 : Ro [90, 91] r (sI r 91 (0 : Int32)) := Ro.rf.i (by decide)
  rw [wp_wI, wr_46 hj, sI_2, m2.1, shr8 (by omega), wp_bd]
  refine (qm_byte (bs := []) BD.zero (by simp)).mono (fun _ r1 z1 => ?_)
  have w1 := w0.tr z1.2
  have e46 : r1.2.1 46 j = nn V.1.length := by rw [(w1 46 (by decide)).2.1]; exact m2.1
  rw [wr_46 hj, e46, wp_bd]
  refine (qm_byte z1.1 (by simp)).mono (fun _ r2 z2 => ?_)
  have w2 := w1.tr z2.2
  refine qm_cp31 (o := 480 * j) (bs := V.1) hj z2.1 (by rw [(w2 46 (by decide)).2.1]; exact m2.1) rfl (by rw [(w2 45 (by decide)).2.1]; exact m2.2) hV.2.2.2.2.2.1 (by omega) (by simp; omega) (fun r3 z3 w3' => ?_)
  have w3 := w2.tr w3'
  have e1 : lo8 (nn (V.1.length / 256)) = V.1.length / 256 := by rw [lo8_nn (by omega)]; omega
  have e2 : lo8 (nn V.1.length) = V.1.length % 256 := by rw [lo8_nn (by omega)]
  rw [e1, e2] at z3
  unfold R_sendPublish_J65
  have fin : ∀ (r4 : RS) (ts : List Nat), ts = (if q = 0 then [] else [num / 256, num % 256]) → Ro [90, 91] r r4 → BD r4 ([] ++ [V.1.length / 256] ++ [V.1.length % 256] ++ V.1 ++ ts) → wp (R_sendPublish_J84 (nn s) (nn j) (nn q) (nn fl) (nn id) (nn ag)) r4 Q := by
    intro r4 ts et w4 hB
    have f66 : r4.1 66 = r.1 66 := (w4 66 (by decide)).1
    have f51 : r4.2.1 51 j = r.2.1 51 j := by rw [(w4 51 (by decide)).2.1]
    have htl : ts.length ≤ 2 := by rw [et]; split <;> simp
    refine qm_J84 hj (M.sj hV.1.2 (w4.sj (by decide))) hV hB (by simp only [List.length_append, List.length_cons, List.length_nil]; omega) hid hq hf ha (fun r' z w => kk r' ?_ ((w4.sub (by decide)).tr w))
    rw [f66, f51] at z
    have e : pubB V q num id (lft V.2.2.2.2.2.2.2 (r.1 66) (r.2.1 51 j)) = [] ++ [V.1.length / 256] ++ [V.1.length % 256] ++ V.1 ++ ts ++ (vb 4 (plen V id) ++ pubC V id (lft V.2.2.2.2.2.2.2 (r.1 66) (r.2.1 51 j))) := by
      unfold pubB pubC
      rw [et]
      simp only [List.append_assoc, List.cons_append, List.nil_append]
    rw [e]
    exact z
  by_cases h0 : q = 0
  · rw [wp_pos (by rw [h0]; decide)]
    exact fin r3 [] (by rw [if_pos h0]) w3 (by rw [List.append_nil]; exact z3)
  · rw [wp_neg (by rw [show (0 : Int32) = nn 0 from rfl, nn_le (by omega) (by omega)]; omega), shr8 (by omega), wp_bd]
    refine (qm_byte z3 (by simp; omega)).mono (fun _ r4 z4 => ?_)
    rw [wp_bd]
    refine (qm_byte z4.1 (by simp; omega)).mono (fun _ r5 z5 => ?_)
    have g1 : lo8 (nn (num / 256)) = num / 256 := by rw [lo8_nn (by omega)]; omega
    have g2 : lo8 (nn num) = num % 256 := by rw [lo8_nn (by omega)]
    have z5' := z5.1
    rw [g1, g2] at z5'
    refine fin r5 [num / 256, num % 256] (by rw [if_neg h0]) ((w3.tr z4.2).tr z5.2) ?_
    simp only [List.append_assoc, List.cons_append, List.nil_append] at z5' ⊢
    exact z5'
end MPC
