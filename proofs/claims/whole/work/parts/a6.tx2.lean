section TX2
variable {x a o : Nat} {h : Hp} {r : RS} {ys : List Nat}
theorem qm_tx_step {ke198 : RS → Option (Int32 × RS)} {ke219 : Int32 → Int32 → Int32 → Int32 → Int32 → RS → Option (Int32 × RS)} {n k more v q f : Nat} {Q : Int32 → RS → Prop} (hM : Mg (r.2.1 6) o ys) (B : By ys) (ho : o + ys.length ≤ 3280) (hq : q ≤ more) (hm : more ≤ 3) (hk : k + q < ys.length) (hv : v < 8388608)
    (g1 : 128 ≤ ys.getD (k + q) 0 → ys.getD (k + q) 0 ≤ 191 → wp (R_isText_L158 ke198 ke219 f (nn o) (nn n) (nn k) (nn more) (nn (v * 64 + (ys.getD (k + q) 0 - 128))) (nn (q + 1))) r Q)
    (g2 : ¬ (128 ≤ ys.getD (k + q) 0 ∧ ys.getD (k + q) 0 ≤ 191) → wp ke198 r Q) : wp (R_isText_L158 ke198 ke219 (f + 1) (nn o) (nn n) (nn k) (nn more) (nn v) (nn q)) r Q := by
  show wp (R_isText_B158 _ ke198 ke219 (nn o) (nn n) (nn k) (nn more) (nn v) (nn q)) r Q
  unfold R_isText_B158
  have b256 := B.at (k + q)
  have hb := hM (k + q) hk
  rw [wp_neg (by rw [nn_lt (by omega) (by omega)]; omega), nn_add, nn_add, wr_6 (by omega), show o + k + q = o + (k + q) by omega, hb, wp_lq, sb_and _ b256, l_128, l_191]
  by_cases c1 : ys.getD (k + q) 0 < 128
  · rw [wp_pos (by rw [nn_lt (by omega) (by omega)]; exact c1)]
    exact g2 (by omega)
  · rw [wp_neg (by rw [nn_lt (by omega) (by omega)]; exact c1)]
    by_cases c2 : ys.getD (k + q) 0 ≤ 191
    · rw [wp_pos (by rw [nn_le (by omega) (by omega)]; exact c2), wp_lq, nn_shl6 hv, and63 (by omega), nn_or 6 (by omega) (by omega), l_1, nn_add]
      have := g1 (by omega) c2
      rw [show 2 ^ 6 * v + ys.getD (k + q) 0 % 64 = v * 64 + (ys.getD (k + q) 0 - 128) by omega]
      exact this
    · rw [wp_neg (by rw [nn_le (by omega) (by omega)]; exact c2)]
      exact g2 (by omega)
theorem qm_tx_end {ke198 : RS → Option (Int32 × RS)} {ke219 : Int32 → Int32 → Int32 → Int32 → Int32 → RS → Option (Int32 × RS)} {n k more v q f : Nat} {Q : Int32 → RS → Prop} (hq : more < q) (hm : more ≤ 3) (hq2 : q ≤ 4) (g : wp (ke219 (nn o) (nn n) (nn k) (nn more) (nn v)) r Q) : wp (R_isText_L158 ke198 ke219 (f + 1) (nn o) (nn n) (nn k) (nn more) (nn v) (nn q)) r Q := by
  show wp (R_isText_B158 _ ke198 ke219 (nn o) (nn n) (nn k) (nn more) (nn v) (nn q)) r Q
  unfold R_isText_B158
  rw [wp_pos (by rw [nn_lt (by omega) (by omega)]; exact hq)]
  exact g
theorem u8m_c (n x : Nat) (t : List Nat) : u8m (n + 1) (x :: t) = if x = 0 ∨ u8n x = 4 then false
    else if u8n x = 0 then u8m n t
    else if u8n x = 1 then (match t with
      | y :: t1 => u8k y && u8m n t1
      | _ => false)
    else if u8n x = 2 then (match t with
      | y :: z :: t1 => u8k y && u8k z && (let v := ((x - 224) * 64 + (y - 128)) * 64 + (z - 128); !(decide (v < 2048) || decide (55296 ≤ v ∧ v ≤ 57343))) && u8m n t1
      | _ => false)
    else (match t with
      | y :: z :: w :: t1 => u8k y && u8k z && u8k w && (let v := (((x - 240) * 64 + (y - 128)) * 64 + (z - 128)) * 64 + (w - 128); !(decide (v < 65536) || decide (1114111 < v))) && u8m n t1
      | _ => false) := rfl
theorem u8k_t {y : Nat} (h1 : 128 ≤ y) (h2 : y ≤ 191) : u8k y = true := by
  unfold u8k
  rw [decide_eq_true_iff]
  exact ⟨h1, h2⟩
theorem u8k_f {y : Nat} (h1 : ¬ (128 ≤ y ∧ y ≤ 191)) : u8k y = false := by
  unfold u8k
  rw [decide_eq_false_iff_not]
  exact h1
theorem qm_isText (hM : Mg (r.2.1 6) o ys) (B : By ys) (ho : o + ys.length ≤ 3280) (hl : ys.length ≤ 405) : R_isText (nn o) (nn ys.length) r = some (if u8c ys 0 128 191 = true then 1 else 0, r) := by
  have hh : wp (R_isText (nn o) (nn ys.length)) r (fun v r' => v = (if u8m (ys.length + 1) ys = true then 1 else 0) ∧ r' = r) := by
    unfold R_isText
    have z114 : wp R_isText_J114 r (fun v r' => v = 0 ∧ r' = r) := by
      unfold R_isText_J114
      rw [wp_zt]
      exact ⟨Or.inl rfl, rfl, rfl⟩
    have z198 : wp R_isText_J198 r (fun v r' => v = 0 ∧ r' = r) := by
      unfold R_isText_J198
      rw [wp_zt]
      exact ⟨Or.inl rfl, rfl, rfl⟩
    have z271 : wp R_isText_J271 r (fun v r' => v = 0 ∧ r' = r) := by
      unfold R_isText_J271
      rw [wp_zt]
      exact ⟨Or.inl rfl, rfl, rfl⟩
    have key : ∀ (c k f n : Nat), k ≤ ys.length → ys.length - k ≤ c → c < f → ys.length - k < n → wp (R_isText_L2 (R_isText_J114) (R_isText_J198) (R_isText_J271) (R_isText_J283) f (nn o) (nn ys.length) (nn k)) r (fun v r' => v = (if u8m n (ys.drop k) = true then 1 else 0) ∧ r' = r) := by
      intro c
      induction c with
      | zero =>
        intro k f n hk hc hf hn
        obtain ⟨f', rfl⟩ : ∃ z, f = z + 1 := ⟨f - 1, by omega⟩
        obtain ⟨n', rfl⟩ : ∃ z, n = z + 1 := ⟨n - 1, by omega⟩
        show wp (R_isText_B2 _ _ _ _ _ (nn o) (nn ys.length) (nn k)) r _
        unfold R_isText_B2 R_isText_J283
        rw [wp_pos (by rw [nn_le (by omega) (by omega)]; omega), wp_zt, drop_all (by omega)]
        exact ⟨Or.inr rfl, rfl, rfl⟩
      | succ c ih =>
        intro k f n hk hc hf hn
        obtain ⟨f', rfl⟩ : ∃ z, f = z + 1 := ⟨f - 1, by omega⟩
        obtain ⟨n', rfl⟩ : ∃ z, n = z + 1 := ⟨n - 1, by omega⟩
        by_cases gk : k = ys.length
        · show wp (R_isText_B2 _ _ _ _ _ (nn o) (nn ys.length) (nn k)) r _
          unfold R_isText_B2 R_isText_J283
          rw [wp_pos (by rw [nn_le (by omega) (by omega)]; omega), wp_zt, drop_all (by omega)]
          exact ⟨Or.inr rfl, rfl, rfl⟩
        · have hkl : k < ys.length := by omega
          show wp (R_isText_B2 _ _ _ _ _ (nn o) (nn ys.length) (nn k)) r _
          unfold R_isText_B2
          have b256 := B.at k
          have hb := hM k hkl
          rw [wp_neg (by rw [nn_le (by omega) (by omega)]; omega), nn_add, wr_6 (by omega), hb, wp_lq, sb_and _ b256, drop_cons hkl, u8m_c]
          obtain ⟨b, eb⟩ : ∃ b, b = ys.getD k 0 := ⟨_, rfl⟩
          rw [← eb] at b256 ⊢
          -- the step behind the character
          have nx : ∀ more, more ≤ 3 → k + more < ys.length → wp (R_isText_J273 (fun l1 l2 l3 => R_isText_L2 (R_isText_J114) (R_isText_J198) (R_isText_J271) (R_isText_J283) f' l1 l2 l3) (R_isText_J114) (R_isText_J198) (R_isText_J271) (R_isText_J283) (nn o) (nn ys.length) (nn k) (nn more)) r (fun v r' => v = (if u8m n' (ys.drop (k + (more + 1))) = true then 1 else 0) ∧ r' = r) := by
            intro more h1 h2
            unfold R_isText_J273
            rw [wp_lq, l_1, nn_add, nn_add]
            exact ih (k + (more + 1)) f' n' (by omega) (by omega) (by omega) (by omega)
          have jbad : ∀ bb : Int32, wp (R_isText_J94 (fun l1 l2 l3 => R_isText_L2 (R_isText_J114) (R_isText_J198) (R_isText_J271) (R_isText_J283) f' l1 l2 l3) (R_isText_J114) (R_isText_J198) (R_isText_J271) (R_isText_J283) (nn o) (nn ys.length) (nn k) bb (-1 : Int32)) r (fun v r' => v = 0 ∧ r' = r) := by
            intro bb
            unfold R_isText_J94
            by_cases g : bb = 0
            · rw [wp_pos g]
              exact z114
            · rw [wp_neg g, wp_pos (by decide)]
              exact z114
          have j93 : ∀ bb : Int32, wp (R_isText_J93 (fun l1 l2 l3 => R_isText_L2 (R_isText_J114) (R_isText_J198) (R_isText_J271) (R_isText_J283) f' l1 l2 l3) (R_isText_J114) (R_isText_J198) (R_isText_J271) (R_isText_J283) (nn o) (nn ys.length) (nn k) bb) r (fun v r' => v = 0 ∧ r' = r) := fun bb => by
            unfold R_isText_J93
            exact jbad bb
          by_cases g0 : b < 128
          · have hu : u8n b = 0 := by unfold u8n; rw [if_pos g0]
            rw [wp_neg (by rw [show (128 : Int32) = nn 128 from rfl, nn_le (by omega) (by omega)]; omega), hu]
            unfold R_isText_J94
            by_cases gz : b = 0
            · rw [wp_pos (by rw [gz]; rfl), if_pos (Or.inl gz)]
              exact z114
            · rw [wp_neg (nn_ne0 (by omega) gz), wp_neg (by decide), show (0 : Int32) = nn 0 from rfl, nn_add, wp_pos (by rw [nn_lt (by omega) (by omega)]; omega), wp_pos rfl, if_neg (show ¬ (b = 0 ∨ 0 = 4) by omega), if_pos rfl]
              unfold R_isText_J153
              refine qm_tx_end (f := 4999) (q := 1) (by omega) (by omega) (by omega) ?_
              show wp (R_isText_J219 _ _ _ _ _ (nn o) (nn ys.length) (nn k) (nn 0) (nn b)) r _
              unfold R_isText_J219 R_isText_J249
              rw [wp_neg (by decide), wp_neg (by decide)]
              exact nx 0 (by omega) (by omega)
          · rw [wp_pos (by rw [show (128 : Int32) = nn 128 from rfl, nn_le (by omega) (by omega)]; omega)]
            by_cases g1 : b < 194
            · have hu : u8n b = 4 := by unfold u8n; rw [if_neg g0, if_neg (by omega), if_neg (by omega), if_neg (by omega)]
              rw [wp_pos (by rw [show (194 : Int32) = nn 194 from rfl, nn_lt (by omega) (by omega)]; omega), hu, if_pos (Or.inr rfl)]
              unfold R_isText_J53 R_isText_J73
              rw [wp_pos (by rw [show (224 : Int32) = nn 224 from rfl, nn_lt (by omega) (by omega)]; omega), wp_pos (by rw [show (240 : Int32) = nn 240 from rfl, nn_lt (by omega) (by omega)]; omega)]
              exact j93 _
            · rw [wp_neg (by rw [show (194 : Int32) = nn 194 from rfl, nn_lt (by omega) (by omega)]; omega)]
              by_cases g2 : b < 224
              · have hu : u8n b = 1 := by unfold u8n; rw [if_neg g0, if_pos (by omega)]
                rw [wp_neg (by rw [show (224 : Int32) = nn 224 from rfl, nn_le (by omega) (by omega)]; omega), hu, if_neg (show ¬ (b = 0 ∨ 1 = 4) by omega), if_neg (show ¬ 1 = 0 by omega), if_pos rfl]
                unfold R_isText_J94
                rw [wp_neg (nn_ne0 (by omega) (by omega)), wp_neg (by decide), show (1 : Int32) = nn 1 from rfl, nn_add]
                by_cases gl : k + 1 < ys.length
                · rw [wp_pos (by rw [nn_lt (by omega) (by omega)]; exact gl), wp_neg (by decide), wp_pos rfl, drop_cons gl]
                  unfold R_isText_J152 R_isText_J153
                  rw [and31 (by omega)]
                  refine qm_tx_step (q := 1) (f := 4999) hM B ho (by omega) (by omega) gl (by omega) (fun a1 a2 => ?_) (fun a1 => ?_)
                  · refine qm_tx_end (f := 4998) (by omega) (by omega) (by omega) ?_
                    show wp (R_isText_J219 _ _ _ _ _ (nn o) (nn ys.length) (nn k) (nn 1) _) r _
                    unfold R_isText_J219 R_isText_J249
                    rw [wp_neg (by decide), wp_neg (by decide)]
                    show wp _ r (fun v r' => v = (if (u8k (ys.getD (k + 1) 0) && u8m n' (ys.drop (k + 1 + 1))) = true then 1 else 0) ∧ r' = r)
                    rw [u8k_t a1 a2, Bool.true_and]
                    exact nx 1 (by omega) gl
                  · show wp _ r (fun v r' => v = (if (u8k (ys.getD (k + 1) 0) && u8m n' (ys.drop (k + 1 + 1))) = true then 1 else 0) ∧ r' = r)
                    rw [u8k_f a1, Bool.false_and]
                    exact z198
                · rw [wp_neg (by rw [nn_lt (by omega) (by omega)]; exact gl), drop_all (by omega)]
                  exact z114
              · rw [wp_pos (by rw [show (224 : Int32) = nn 224 from rfl, nn_le (by omega) (by omega)]; omega)]
                unfold R_isText_J53
                rw [wp_neg (by rw [show (224 : Int32) = nn 224 from rfl, nn_lt (by omega) (by omega)]; omega)]
                by_cases g3 : b < 240
                · have hu : u8n b = 2 := by unfold u8n; rw [if_neg g0, if_neg (by omega), if_pos (by omega)]
                  rw [wp_neg (by rw [show (240 : Int32) = nn 240 from rfl, nn_le (by omega) (by omega)]; omega), hu, if_neg (show ¬ (b = 0 ∨ 2 = 4) by omega), if_neg (show ¬ 2 = 0 by omega), if_neg (show ¬ 2 = 1 by omega), if_pos rfl]
                  unfold R_isText_J94
                  rw [wp_neg (nn_ne0 (by omega) (by omega)), wp_neg (by decide), show (2 : Int32) = nn 2 from rfl, nn_add]
                  by_cases gl : k + 2 < ys.length
                  · rw [wp_pos (by rw [nn_lt (by omega) (by omega)]; exact gl), wp_neg (by decide), wp_neg (by decide), wp_pos rfl, drop_cons (show k + 1 < ys.length by omega), drop_cons (show k + 1 + 1 < ys.length by omega)]
                    unfold R_isText_J152 R_isText_J153
                    rw [and15 (by omega), show b % 16 = b - 224 by omega]
                    refine qm_tx_step (q := 1) (f := 4999) hM B ho (by omega) (by omega) (by omega) (by omega) (fun a1 a2 => ?_) (fun a1 => ?_)
                    · refine qm_tx_step (q := 2) (f := 4998) hM B ho (by omega) (by omega) gl (by omega) (fun a3 a4 => ?_) (fun a3 => ?_)
                      · refine qm_tx_end (f := 4997) (by omega) (by omega) (by omega) ?_
                        show wp (R_isText_J219 _ _ _ _ _ (nn o) (nn ys.length) (nn k) (nn 2) _) r (fun v r' => v = (if (u8k (ys.getD (k + 1) 0) && u8k (ys.getD (k + 2) 0) && (!(decide (((b - 224) * 64 + (ys.getD (k + 1) 0 - 128)) * 64 + (ys.getD (k + 2) 0 - 128) < 2048) || decide (55296 ≤ ((b - 224) * 64 + (ys.getD (k + 1) 0 - 128)) * 64 + (ys.getD (k + 2) 0 - 128) ∧ ((b - 224) * 64 + (ys.getD (k + 1) 0 - 128)) * 64 + (ys.getD (k + 2) 0 - 128) ≤ 57343))) && u8m n' (ys.drop (k + (2 + 1)))) = true then 1 else 0) ∧ r' = r)
                        rw [u8k_t a1 a2, u8k_t a3 a4, Bool.true_and, Bool.true_and]
                        obtain ⟨w, ew⟩ : ∃ w, w = ((b - 224) * 64 + (ys.getD (k + 1) 0 - 128)) * 64 + (ys.getD (k + 2) 0 - 128) := ⟨_, rfl⟩
                        rw [← ew]
                        have hw : w < 65536 := by omega
                        unfold R_isText_J219
                        rw [wp_pos (show nn 2 = (2 : Int32) from rfl), l_2048]
                        by_cases w1 : w < 2048
                        · rw [wp_pos (by rw [nn_lt (by omega) (by omega)]; exact w1), decide_eq_true w1]
                          exact z271
                        · rw [wp_neg (by rw [nn_lt (by omega) (by omega)]; exact w1), decide_eq_false w1, Bool.false_or]
                          have j249 : ¬ (55296 ≤ w ∧ w ≤ 57343) → wp (R_isText_J249 (fun l1 l2 l3 => R_isText_L2 (R_isText_J114) (R_isText_J198) (R_isText_J271) (R_isText_J283) f' l1 l2 l3) (R_isText_J114) (R_isText_J198) (R_isText_J271) (R_isText_J283) (nn o) (nn ys.length) (nn k) (nn 2) (nn w)) r (fun v r' => v = (if ((!decide (55296 ≤ w ∧ w ≤ 57343)) && u8m n' (ys.drop (k + (2 + 1)))) = true then 1 else 0) ∧ r' = r) := by
                            intro hw2
                            unfold R_isText_J249
                            rw [wp_neg (by decide), decide_eq_false hw2]
                            exact nx 2 (by omega) gl
                          by_cases w2 : w < 55296
                          · rw [wp_pos (by rw [show (55296 : Int32) = nn 55296 from rfl, nn_lt (by omega) (by omega)]; exact w2)]
                            exact j249 (by omega)
                          · rw [wp_neg (by rw [show (55296 : Int32) = nn 55296 from rfl, nn_lt (by omega) (by omega)]; exact w2)]
                            by_cases w3 : w ≤ 57343
                            · rw [wp_pos (by rw [show (57343 : Int32) = nn 57343 from rfl, nn_le (by omega) (by omega)]; exact w3), decide_eq_true (show 55296 ≤ w ∧ w ≤ 57343 by omega)]
                              exact z271
                            · rw [wp_neg (by rw [show (57343 : Int32) = nn 57343 from rfl, nn_le (by omega) (by omega)]; exact w3)]
                              exact j249 (by omega)
                      · show wp _ r (fun v r' => v = (if (u8k (ys.getD (k + 1) 0) && u8k (ys.getD (k + 2) 0) && _ && _) = true then 1 else 0) ∧ r' = r)
                        rw [u8k_f a3, Bool.and_false, Bool.false_and, Bool.false_and]
                        exact z198
                    · show wp _ r (fun v r' => v = (if (u8k (ys.getD (k + 1) 0) && u8k (ys.getD (k + 2) 0) && _ && _) = true then 1 else 0) ∧ r' = r)
                      rw [u8k_f a1, Bool.false_and, Bool.false_and, Bool.false_and]
                      exact z198
                  · rw [wp_neg (by rw [nn_lt (by omega) (by omega)]; exact gl)]
                    by_cases gl1 : k + 1 < ys.length
                    · rw [drop_cons gl1, drop_all (show ys.length ≤ k + 1 + 1 by omega)]
                      exact z114
                    · rw [drop_all (show ys.length ≤ k + 1 by omega)]
                      exact z114
                · rw [wp_pos (by rw [show (240 : Int32) = nn 240 from rfl, nn_le (by omega) (by omega)]; omega)]
                  unfold R_isText_J73
                  rw [wp_neg (by rw [show (240 : Int32) = nn 240 from rfl, nn_lt (by omega) (by omega)]; omega)]
                  by_cases g4 : b < 245
                  · have hu : u8n b = 3 := by unfold u8n; rw [if_neg g0, if_neg (by omega), if_neg (by omega), if_pos (by omega)]
                    rw [wp_neg (by rw [show (245 : Int32) = nn 245 from rfl, nn_le (by omega) (by omega)]; omega), hu, if_neg (show ¬ (b = 0 ∨ 3 = 4) by omega), if_neg (show ¬ 3 = 0 by omega), if_neg (show ¬ 3 = 1 by omega), if_neg (show ¬ 3 = 2 by omega)]
                    unfold R_isText_J94
                    rw [wp_neg (nn_ne0 (by omega) (by omega)), wp_neg (by decide), show (3 : Int32) = nn 3 from rfl, nn_add]
                    by_cases gl : k + 3 < ys.length
                    · rw [wp_pos (by rw [nn_lt (by omega) (by omega)]; exact gl), wp_neg (by decide), wp_neg (by decide), wp_neg (by decide), drop_cons (show k + 1 < ys.length by omega), drop_cons (show k + 1 + 1 < ys.length by omega), drop_cons (show k + 1 + 1 + 1 < ys.length by omega)]
                      unfold R_isText_J152 R_isText_J153
                      rw [and7 (by omega), show b % 8 = b - 240 by omega]
                      refine qm_tx_step (q := 1) (f := 4999) hM B ho (by omega) (by omega) (by omega) (by omega) (fun a1 a2 => ?_) (fun a1 => ?_)
                      · refine qm_tx_step (q := 2) (f := 4998) hM B ho (by omega) (by omega) (by omega) (by omega) (fun a3 a4 => ?_) (fun a3 => ?_)
                        · refine qm_tx_step (q := 3) (f := 4997) hM B ho (by omega) (by omega) gl (by omega) (fun a5 a6 => ?_) (fun a5 => ?_)
                          · refine qm_tx_end (f := 4996) (by omega) (by omega) (by omega) ?_
                            show wp (R_isText_J219 _ _ _ _ _ (nn o) (nn ys.length) (nn k) (nn 3) _) r (fun v r' => v = (if (u8k (ys.getD (k + 1) 0) && u8k (ys.getD (k + 2) 0) && u8k (ys.getD (k + 3) 0) && (!(decide ((((b - 240) * 64 + (ys.getD (k + 1) 0 - 128)) * 64 + (ys.getD (k + 2) 0 - 128)) * 64 + (ys.getD (k + 3) 0 - 128) < 65536) || decide (1114111 < (((b - 240) * 64 + (ys.getD (k + 1) 0 - 128)) * 64 + (ys.getD (k + 2) 0 - 128)) * 64 + (ys.getD (k + 3) 0 - 128)))) && u8m n' (ys.drop (k + (3 + 1)))) = true then 1 else 0) ∧ r' = r)
                            rw [u8k_t a1 a2, u8k_t a3 a4, u8k_t a5 a6, Bool.true_and, Bool.true_and, Bool.true_and]
                            obtain ⟨w, ew⟩ : ∃ w, w = (((b - 240) * 64 + (ys.getD (k + 1) 0 - 128)) * 64 + (ys.getD (k + 2) 0 - 128)) * 64 + (ys.getD (k + 3) 0 - 128) := ⟨_, rfl⟩
                            rw [← ew]
                            have hw : w < 2000000 := by omega
                            unfold R_isText_J219 R_isText_J249
                            rw [wp_neg (by decide), wp_pos (show nn 3 = (3 : Int32) from rfl)]
                            by_cases w1 : w < 65536
                            · rw [wp_pos (by rw [show (65536 : Int32) = nn 65536 from rfl, nn_lt (by omega) (by omega)]; exact w1), decide_eq_true w1]
                              exact z271
                            · rw [wp_neg (by rw [show (65536 : Int32) = nn 65536 from rfl, nn_lt (by omega) (by omega)]; exact w1), decide_eq_false w1, Bool.false_or]
                              by_cases w2 : w ≤ 1114111
                              · rw [wp_pos (by rw [show (1114111 : Int32) = nn 1114111 from rfl, nn_le (by omega) (by omega)]; exact w2), decide_eq_false (show ¬ 1114111 < w by omega)]
                                exact nx 3 (by omega) gl
                              · rw [wp_neg (by rw [show (1114111 : Int32) = nn 1114111 from rfl, nn_le (by omega) (by omega)]; exact w2), decide_eq_true (show 1114111 < w by omega)]
                                exact z271
                          · show wp _ r (fun v r' => v = (if (u8k (ys.getD (k + 1) 0) && u8k (ys.getD (k + 2) 0) && u8k (ys.getD (k + 3) 0) && _ && _) = true then 1 else 0) ∧ r' = r)
                            rw [u8k_f a5, Bool.and_false, Bool.false_and, Bool.false_and]
                            exact z198
                        · show wp _ r (fun v r' => v = (if (u8k (ys.getD (k + 1) 0) && u8k (ys.getD (k + 2) 0) && u8k (ys.getD (k + 3) 0) && _ && _) = true then 1 else 0) ∧ r' = r)
                          rw [u8k_f a3, Bool.and_false, Bool.false_and, Bool.false_and, Bool.false_and]
                          exact z198
                      · show wp _ r (fun v r' => v = (if (u8k (ys.getD (k + 1) 0) && u8k (ys.getD (k + 2) 0) && u8k (ys.getD (k + 3) 0) && _ && _) = true then 1 else 0) ∧ r' = r)
                        rw [u8k_f a1, Bool.false_and, Bool.false_and, Bool.false_and, Bool.false_and]
                        exact z198
                    · rw [wp_neg (by rw [nn_lt (by omega) (by omega)]; exact gl)]
                      by_cases gl1 : k + 1 < ys.length
                      · rw [drop_cons gl1]
                        by_cases gl2 : k + 1 + 1 < ys.length
                        · rw [drop_cons gl2, drop_all (show ys.length ≤ k + 1 + 1 + 1 by omega)]
                          exact z114
                        · rw [drop_all (show ys.length ≤ k + 1 + 1 by omega)]
                          exact z114
                      · rw [drop_all (show ys.length ≤ k + 1 by omega)]
                        exact z114
                  · have hu : u8n b = 4 := by unfold u8n; rw [if_neg g0, if_neg (by omega), if_neg (by omega), if_neg (by omega)]
                    rw [wp_pos (by rw [show (245 : Int32) = nn 245 from rfl, nn_le (by omega) (by omega)]; omega), hu, if_pos (Or.inr rfl)]
                    exact j93 _
    have := key ys.length 0 fu (ys.length + 1) (by omega) (by omega) (by unfold fu; omega) (by omega)
    rw [List.drop_zero] at this
    exact this
  obtain ⟨_, h', e1, e2, e3⟩ := hh
  rw [e1, e2, e3, u8_eq (ys.length + 1) ys (by omega)]
theorem qc_isTopic (W : Rw x h a ys) (hl : ys.length ≤ 405) : C_X7_isTopic a h = some (if tpc ys = true then 1 else 0, h) := by
  have hk := W.1
  have B := W.2.2.1
  obtain ⟨y, y1, y2, y3, y4⟩ := W.at
  have y1' : hfr h (100 * 9 + 0) a = some y := y1
  have hh : wp (C_X7_isTopic a) h (fun v h' => v = (if tpc ys = true then 1 else 0) ∧ h' = h) := by
    unfold C_X7_isTopic
    have key : ∀ (c k f : Nat), k + c = ys.length → c < f → (∀ i, i < k → ys.getD i 0 ≠ 43 ∧ ys.getD i 0 ≠ 35) → wp (C_X7_isTopic_L2 a (C_X7_isTopic_J33 a) (C_X7_isTopic_J41 a) f (nn k)) h (fun v h' => v = (if tpc ys = true then 1 else 0) ∧ h' = h) := by
      intro c
      induction c with
      | zero =>
        intro k f hk1 hf hq
        obtain ⟨f', rfl⟩ : ∃ z, f = z + 1 := ⟨f - 1, by omega⟩
        show wp (C_X7_isTopic_B2 a _ _ _ (nn k)) h _
        unfold C_X7_isTopic_B2 C_X7_isTopic_J41
        have hall : ys.all (fun b => decide (b ≠ 43 ∧ b ≠ 35)) = true := by
          rw [List.all_eq_true]
          intro b hb
          obtain ⟨q, q1, q2⟩ := getD_of_mem hb
          rw [decide_eq_true_iff, ← q2]
          exact hq q (by omega)
        rw [wp_gR hk, y1', wn_Ln y2, y3, wp_pos (by rw [nn_le (by omega) (by omega)]; omega), wp_gR hk, y1', wn_Ln y2, y3]
        unfold tpc
        rw [hall, Bool.and_true]
        by_cases g1 : ys.length = 0
        · rw [wp_pos (by rw [g1]; decide), wp_zt, decide_eq_false (by omega)]
          exact ⟨Or.inl rfl, rfl, rfl⟩
        · rw [wp_neg (by rw [show (0 : Int32) = nn 0 from rfl, nn_le (by omega) (by omega)]; omega), wp_gR hk, y1', wn_Ln y2, y3, l_64]
          by_cases g2 : 64 < ys.length
          · rw [wp_pos (by rw [nn_lt (by omega) (by omega)]; exact g2), wp_zt, decide_eq_false (by omega)]
            exact ⟨Or.inl rfl, rfl, rfl⟩
          · rw [wp_neg (by rw [nn_lt (by omega) (by omega)]; exact g2), wp_zt, decide_eq_true (by omega)]
            exact ⟨Or.inr rfl, rfl, rfl⟩
      | succ c ih =>
        intro k f hk1 hf hq
        obtain ⟨f', rfl⟩ : ∃ z, f = z + 1 := ⟨f - 1, by omega⟩
        have hkl : k < ys.length := by omega
        have hb := y4 k hkl
        have b256 := B.at k
        have bad : (ys.getD k 0 = 43 ∨ ys.getD k 0 = 35) → wp (C_X7_isTopic_J33 a) h (fun v h' => v = (if tpc ys = true then 1 else 0) ∧ h' = h) := fun g => by
          unfold C_X7_isTopic_J33
          have hall : ys.all (fun b => decide (b ≠ 43 ∧ b ≠ 35)) = false := by
            rw [List.all_eq_false]
            refine ⟨ys.getD k 0, mem_getD hkl, ?_⟩
            rw [decide_eq_true_iff]
            omega
          unfold tpc
          rw [wp_zt, hall, Bool.and_false]
          exact ⟨Or.inl rfl, rfl, rfl⟩
        show wp (C_X7_isTopic_B2 a _ _ _ (nn k)) h _
        unfold C_X7_isTopic_B2
        rw [wp_gR hk, y1', wn_Ln y2, y3, wp_neg (by rw [nn_le (by omega) (by omega)]; omega), wp_gR hk, y1', wn_Ai y2 (by omega) (by omega), hb]
        by_cases g1 : ys.getD k 0 = 43
        · rw [wp_pos (by rw [g1]; rfl)]
          exact bad (Or.inl g1)
        · rw [wp_neg (fun z : nn (ys.getD k 0) = (43 : Int32) => g1 (nn_inj (b := 43) (by omega) (by omega) z)), wp_gR hk, y1', wn_Ai y2 (by omega) (by omega), hb]
          by_cases g2 : ys.getD k 0 = 35
          · rw [wp_pos (by rw [g2]; rfl)]
            exact bad (Or.inr g2)
          · rw [wp_neg (fun z : nn (ys.getD k 0) = (35 : Int32) => g2 (nn_inj (b := 35) (by omega) (by omega) z)), l_1, nn_add]
            exact ih (k + 1) f' (by omega) (by omega) (fun i hi => by
              by_cases e : i = k
              · rw [e]; exact ⟨g1, g2⟩
              · exact hq i (by omega))
    exact key ys.length 0 fu (by omega) (by unfold fu; omega) (fun i hi => by omega)
  obtain ⟨_, h', e1, e2, e3⟩ := hh
  rw [e1, e2, e3]
theorem qm_isTopic (hM : Mg (r.2.1 6) o ys) (B : By ys) (ho : o + ys.length ≤ 3280) (hl : ys.length ≤ 405) : R_isTopic 6 (nn o) (nn ys.length) r = some (if tpc ys = true then 1 else 0, r) := by
  have hh : wp (R_isTopic 6 (nn o) (nn ys.length)) r (fun v r' => v = (if tpc ys = true then 1 else 0) ∧ r' = r) := by
    unfold R_isTopic
    have z0 : tpc ys = false → ∀ (f k : Nat), k ≤ ys.length → wp (R_isTopic_L20 6 (fun l3 => R_isTopic_J64 6 l3) (f + 1) (nn o) (nn ys.length) (0 : Int32) (nn k)) r (fun v r' => v = (if tpc ys = true then 1 else 0) ∧ r' = r) := by
      intro ht f k hk
      show wp (R_isTopic_B20 6 _ _ (nn o) (nn ys.length) 0 (nn k)) r _
      unfold R_isTopic_B20 R_isTopic_J64
      dsimp only
      rw [ht]
      by_cases g : ys.length ≤ k
      · rw [wp_pos (by rw [nn_le (by omega) (by omega)]; exact g), wp_zt]
        exact ⟨Or.inl rfl, rfl, rfl⟩
      · rw [wp_neg (by rw [nn_le (by omega) (by omega)]; exact g), wp_pos rfl, wp_zt]
        exact ⟨Or.inl rfl, rfl, rfl⟩
    have bad : ¬ (1 ≤ ys.length ∧ ys.length ≤ 64) → wp (R_isTopic_J15 6 (nn o) (nn ys.length)) r (fun v r' => v = (if tpc ys = true then 1 else 0) ∧ r' = r) := fun g => by
      unfold R_isTopic_J15 R_isTopic_J16
      refine z0 ?_ 4999 0 (by omega)
      unfold tpc
      rw [decide_eq_false g, Bool.false_and]
    by_cases g1 : ys.length < 1
    · rw [l_1, wp_pos (by rw [nn_lt (by omega) (by omega)]; exact g1)]
      exact bad (by omega)
    · rw [l_1, wp_neg (by rw [nn_lt (by omega) (by omega)]; exact g1), l_64]
      by_cases g2 : 64 < ys.length
      · rw [wp_pos (by rw [nn_lt (by omega) (by omega)]; exact g2)]
        exact bad (by omega)
      · rw [wp_neg (by rw [nn_lt (by omega) (by omega)]; exact g2)]
        unfold R_isTopic_J16
        have key : ∀ (c k f : Nat), k + c = ys.length → c + 1 < f → (∀ i, i < k → ys.getD i 0 ≠ 43 ∧ ys.getD i 0 ≠ 35) → wp (R_isTopic_L20 6 (fun l3 => R_isTopic_J64 6 l3) f (nn o) (nn ys.length) (nn 1) (nn k)) r (fun v r' => v = (if tpc ys = true then 1 else 0) ∧ r' = r) := by
          intro c
          induction c with
          | zero =>
            intro k f hk1 hf hq
            obtain ⟨f', rfl⟩ : ∃ z, f = z + 1 := ⟨f - 1, by omega⟩
            show wp (R_isTopic_B20 6 _ _ (nn o) (nn ys.length) (nn 1) (nn k)) r _
            unfold R_isTopic_B20 R_isTopic_J64
            dsimp only
            have hall : ys.all (fun b => decide (b ≠ 43 ∧ b ≠ 35)) = true := by
              rw [List.all_eq_true]
              intro b hb
              obtain ⟨q, q1, q2⟩ := getD_of_mem hb
              rw [decide_eq_true_iff, ← q2]
              exact hq q (by omega)
            unfold tpc
            rw [wp_pos (by rw [nn_le (by omega) (by omega)]; omega), wp_zt, hall, decide_eq_true (by omega)]
            exact ⟨Or.inr rfl, rfl, rfl⟩
          | succ c ih =>
            intro k f hk1 hf hq
            obtain ⟨f', rfl⟩ : ∃ z, f = z + 1 := ⟨f - 1, by omega⟩
            obtain ⟨f'', rfl⟩ : ∃ z, f' = z + 1 := ⟨f' - 1, by omega⟩
            have hkl : k < ys.length := by omega
            have hb := hM k hkl
            have b256 := B.at k
            have badk : (ys.getD k 0 = 43 ∨ ys.getD k 0 = 35) → tpc ys = false := fun g => by
              have hall : ys.all (fun b => decide (b ≠ 43 ∧ b ≠ 35)) = false := by
                rw [List.all_eq_false]
                refine ⟨ys.getD k 0, mem_getD hkl, ?_⟩
                rw [decide_eq_true_iff]
                omega
              unfold tpc
              rw [hall, Bool.and_false]
            show wp (R_isTopic_B20 6 _ _ (nn o) (nn ys.length) (nn 1) (nn k)) r _
            unfold R_isTopic_B20 R_isTopic_J56 R_isTopic_J57
            dsimp only
            rw [wp_neg (by rw [nn_le (by omega) (by omega)]; omega), wp_neg (by decide), nn_add, wr_6 (by omega), hb, l_1, nn_add]
            by_cases g3 : ys.getD k 0 = 43
            · rw [wp_pos (by rw [g3]; rfl)]
              exact z0 (badk (Or.inl g3)) f'' (k + 1) (by omega)
            · rw [wp_neg (fun z : sb (ys.getD k 0) = (43 : Int32) => g3 ((sb_nn (c := 43) b256 (by omega)).mp z)), wr_6 (by omega), hb]
              by_cases g4 : ys.getD k 0 = 35
              · rw [wp_pos (by rw [g4]; rfl)]
                exact z0 (badk (Or.inr g4)) f'' (k + 1) (by omega)
              · rw [wp_neg (fun z : sb (ys.getD k 0) = (35 : Int32) => g4 ((sb_nn (c := 35) b256 (by omega)).mp z))]
                exact ih (k + 1) (f'' + 1) (by omega) (by omega) (fun i hi => by
                  by_cases e : i = k
                  · rw [e]; exact ⟨g3, g4⟩
                  · exact hq i (by omega))
        exact key ys.length 0 fu (by omega) (by unfold fu; omega) (fun i hi => by omega)
  obtain ⟨_, h', e1, e2, e3⟩ := hh
  rw [e1, e2, e3]
end TX2
