/-! ===== a message is kept, by both ===== -/
section KEE
variable {x ec es ew m j n a : Nat} {e0 : Int32} {h : Hp} {r : RS} {K : List Nat}
theorem qm_sameTopic {j' : Nat} {T T' : List Nat} (hj : j < 640) (hj' : j' < 640) (hz : r.2.1 46 j = nn T.length) (hm : Mg (r.2.1 45) (480 * j) T) (hb : By T) (hl : T.length ≤ 64) (hz' : r.2.1 46 j' = nn T'.length) (hm' : Mg (r.2.1 45) (480 * j') T') (hb' : By T') (hl' : T'.length ≤ 64) : R_sameTopic (nn j) (nn j') r = some (if T = T' then 1 else 0, r) := by
  have e : wp (R_sameTopic (nn j) (nn j')) r (fun v r' => r' = r ∧ v = if T = T' then 1 else 0) := by
    unfold R_sameTopic
    rw [wr_46 hj, hz, wr_46 hj', hz']
    have z : wp (R_sameTopic_J80 (0 : Int32)) r (fun v r' => r' = r ∧ v = 0) := by
      unfold R_sameTopic_J80
      rw [wp_zt]
      exact ⟨Or.inl rfl, rfl, rfl⟩
    by_cases g : T.length = T'.length
    · rw [wp_pos (by rw [g])]
      unfold R_sameTopic_J20
      have key : ∀ (c i f : Nat), i + c = T.length → c < f → (∀ k, k < i → T.getD k 0 = T'.getD k 0) → wp (R_sameTopic_L24 (fun l3 => R_sameTopic_J80 l3) f (nn j) (nn j') (1 : Int32) (nn i)) r (fun v r' => r' = r ∧ v = if T = T' then 1 else 0) := by
        intro c
        induction c with
        | zero =>
          intro i f hi hf hk
          obtain ⟨f', rfl⟩ : ∃ z, f = z + 1 := ⟨f - 1, by omega⟩
          show wp (R_sameTopic_B24 _ _ (nn j) (nn j') 1 (nn i)) r _
          unfold R_sameTopic_B24
          rw [wr_46 hj, hz, wp_pos (by rw [nn_le (by omega) (by omega)]; omega)]
          unfold R_sameTopic_J80
          dsimp only
          rw [wp_zt, if_pos (list_ext0 g (fun q hq => hk q (by omega)))]
          exact ⟨Or.inr rfl, rfl, rfl⟩
        | succ c ih =>
          intro i f hi hf hk
          obtain ⟨f', rfl⟩ : ∃ z, f = z + 1 := ⟨f - 1, by omega⟩
          show wp (R_sameTopic_B24 _ _ (nn j) (nn j') 1 (nn i)) r _
          unfold R_sameTopic_B24
          rw [wr_46 hj, hz, wp_neg (by rw [nn_le (by omega) (by omega)]; omega), wp_neg (by decide), l_480, nn_mul, nn_add, wr_45 (by omega), nn_mul, nn_add, wr_45 (by omega), hm i (by omega), hm' i (by omega)]
          unfold R_sameTopic_J73
          by_cases q : T.getD i 0 = T'.getD i 0
          · rw [wp_pos (by rw [q])]
            show wp (R_sameTopic_L24 _ f' (nn j) (nn j') 1 (nn i + 1)) r _
            rw [l_1, nn_add]
            exact ih (i + 1) f' (by omega) (by omega) (fun k hk' => by
              by_cases e : k = i
              · rw [e]; exact q
              · exact hk k (by omega))
          · rw [wp_neg (fun e => q ((sb_inj (hb.at i) (hb'.at i)).mp e))]
            obtain ⟨n2, rfl⟩ : ∃ z, f' = z + 1 := ⟨f' - 1, by omega⟩
            show wp (R_sameTopic_B24 _ _ (nn j) (nn j') 0 (nn i + 1)) r _
            unfold R_sameTopic_B24
            rw [wr_46 hj, hz, if_neg (show ¬ T = T' from fun e => q (by rw [e])), l_1, nn_add]
            by_cases gl : T.length ≤ i + 1
            · rw [wp_pos (by rw [nn_le (by omega) (by omega)]; exact gl)]
              exact z
            · rw [wp_neg (by rw [nn_le (by omega) (by omega)]; exact gl), wp_pos rfl]
              exact z
      exact key T.length 0 fu (by omega) (by unfold fu; omega) (fun k hk => by omega)
    · rw [wp_neg (fun e => g (nn_inj (by omega) (by omega) e))]
      unfold R_sameTopic_J20
      obtain ⟨n2, hn2⟩ : ∃ z, fu = z + 1 := ⟨4999, rfl⟩
      rw [hn2]
      show wp (R_sameTopic_B24 _ _ (nn j) (nn j') 0 0) r _
      unfold R_sameTopic_B24
      rw [wr_46 hj, hz, if_neg (show ¬ T = T' from fun e => g (by rw [e]))]
      by_cases gl : T.length ≤ 0
      · rw [wp_pos (by rw [show (0 : Int32) = nn 0 from rfl, nn_le (by omega) (by omega)]; exact gl)]
        exact z
      · rw [wp_neg (by rw [show (0 : Int32) = nn 0 from rfl, nn_le (by omega) (by omega)]; exact gl), wp_pos rfl]
        exact z
  obtain ⟨v, r', e1, e2, e3⟩ := e
  rw [e1, e2, e3]
/-- one is taken out of the class's row -/
def disF (f : Nat → Option Nat) (a i : Nat) : Nat → Option Nat := fun o => if a ≤ o ∧ o < i then f (o + 1) else f o
theorem Stat.sto' (T : Stat x h) : hkd h (x + 35) = 8 + 1 ∧ hfr h (100 * 8 + 0) (x + 35) = some (x + 36) ∧ hkd h (x + 36) = 101 + 9 ∧ hln h (x + 36) = 16 := ⟨T.2.2.1.2.2.2.2.1, T.2.2.1.2.2.2.2.2.1, T.2.2.1.2.2.2.2.2.2.1, T.2.2.1.2.2.2.2.2.2.2⟩
theorem qc_discard (T : Stat x h) (hn : hfi h 801 (x + 35) = nn n) (hn2 : n ≤ 16) (ha : a < n) (hk : ∀ k, k < n → ∃ e, har h (x + 36) k = some e ∧ hkd h e = 6) : wp (C_X6_discard (x + 35) (nn a)) h (fun _ h' => h' = sar (sfi h 801 (x + 35) (nn (n - 1))) (x + 36) (va_up (disF (har h (x + 36)) a (n - 1)) (n - 1) none)) := by
  obtain ⟨t1, t2, t3, t4⟩ := T.sto'
  have hn' : hfi h (100 * 8 + 1) (x + 35) = nn n := hn
  unfold C_X6_discard
  rw [wp_gI t1, hn', wp_pos (by rw [nn_lt (by omega) (by omega)]; exact ha), wp_gI t1, hn', wp_pI t1, l_1, nn_sub (by omega)]
  have key : ∀ (c i f : Nat), i + c = n - 1 → a ≤ i → c < f → wp (C_X6_discard_L21 (x + 35) (C_X6_discard_J49 (x + 35)) f (nn i)) (sar (sfi h 801 (x + 35) (nn (n - 1))) (x + 36) (disF (har h (x + 36)) a i)) (fun _ h' => h' = sar (sfi h 801 (x + 35) (nn (n - 1))) (x + 36) (va_up (disF (har h (x + 36)) a (n - 1)) (n - 1) none)) := by
    intro c
    induction c with
    | zero =>
      intro i f hi hai hf
      obtain ⟨f', rfl⟩ : ∃ z, f = z + 1 := ⟨f - 1, by omega⟩
      have ei : i = n - 1 := by omega
      subst ei
      show wp (C_X6_discard_B21 (x + 35) _ _ (nn (n - 1))) _ _
      unfold C_X6_discard_B21
      have e1 : hfi (sar (sfi h 801 (x + 35) (nn (n - 1))) (x + 36) (disF (har h (x + 36)) a (n - 1))) (100 * 8 + 1) (x + 35) = nn (n - 1) := by
        rw [hfi_sar, show 100 * 8 + 1 = 801 from rfl, hfi_sfi, if_pos ⟨rfl, rfl⟩]
      rw [wp_gI (by exact t1), e1, wp_pos (by rw [nn_le (by omega) (by omega)]; omega)]
      unfold C_X6_discard_J49
      rw [wp_gR (by exact t1), wp_gI (by exact t1), e1]
      show wp (hWr 9 5 (hfr h (100 * 8 + 0) (x + 35)) (nn (n - 1)) none _) _ _
      rw [t2, wn_Wr0 (by exact t3) (by show n - 1 < hln h (x + 36); rw [t4]; omega) (by omega), wp_rt, har_sar, if_pos rfl, sar_sar]
    | succ c ih =>
      intro i f hi hai hf
      obtain ⟨f', rfl⟩ : ∃ z, f = z + 1 := ⟨f - 1, by omega⟩
      obtain ⟨e, e1, e2⟩ := hk (i + 1) (by omega)
      have eA : har (sar (sfi h 801 (x + 35) (nn (n - 1))) (x + 36) (disF (har h (x + 36)) a i)) (x + 36) = disF (har h (x + 36)) a i := by rw [har_sar, if_pos rfl]
      have eF : disF (har h (x + 36)) a i (i + 1) = some e := by
        unfold disF
        rw [if_neg (by omega)]
        exact e1
      show wp (C_X6_discard_B21 (x + 35) _ _ (nn i)) _ _
      unfold C_X6_discard_B21
      have e3 : hfi (sar (sfi h 801 (x + 35) (nn (n - 1))) (x + 36) (disF (har h (x + 36)) a i)) (100 * 8 + 1) (x + 35) = nn (n - 1) := by
        rw [hfi_sar, show 100 * 8 + 1 = 801 from rfl, hfi_sfi, if_pos ⟨rfl, rfl⟩]
      rw [wp_gI (by exact t1), e3, wp_neg (by rw [nn_le (by omega) (by omega)]; omega), wp_gR (by exact t1), wp_gR (by exact t1)]
      show wp (hAr 9 (hfr h (100 * 8 + 0) (x + 35)) (nn i + 1) (fun v6 => hWr 9 5 (hfr h (100 * 8 + 0) (x + 35)) (nn i) v6 <| _)) _ _
      rw [t2, l_1, nn_add, wn_Ar (by exact t3) (by show i + 1 < hln h (x + 36); rw [t4]; omega) (by omega), eA, eF, wn_Wr1 (by exact t3) (by show i < hln h (x + 36); rw [t4]; omega) (by omega) (by exact e2), eA, sar_sar]
      have eq2 : disF (har h (x + 36)) a (i + 1) = va_up (disF (har h (x + 36)) a i) i (some e) := by
        funext o
        show _ = if o = i then some e else disF (har h (x + 36)) a i o
        unfold disF
        by_cases g : o = i
        · rw [if_pos g, if_pos (by omega), g]
          exact e1
        · rw [if_neg g]
          by_cases g2 : a ≤ o ∧ o < i
          · rw [if_pos (by omega), if_pos g2]
          · rw [if_neg (by omega), if_neg g2]
      rw [← eq2]
      exact ih (i + 1) f' (by omega) (by omega) (by omega)
  have e0 : disF (har h (x + 36)) a a = har h (x + 36) := by
    funext o
    unfold disF
    rw [if_neg (by omega)]
  have := key (n - 1 - a) a fu (by omega) (by omega) (by unfold fu; omega)
  rw [e0] at this
  have es' : sar (sfi h 801 (x + 35) (nn (n - 1))) (x + 36) (har h (x + 36)) = sfi h 801 (x + 35) (nn (n - 1)) := by
    have : har h (x + 36) = har (sfi h 801 (x + 35) (nn (n - 1))) (x + 36) := rfl
    rw [this]
    exact sar_self
  rw [es'] at this
  exact this
/-- one is taken out of the model's row -/
theorem qm_shift (hK : KL r K) (ha : a < K.length) : wp (R_keep_L53 (R_keep_J83) fu (nn a)) r (fun v r' => v = 1 ∧ Ro [64, 65] r r' ∧ KL r' (K.eraseIdx a)) := by
  obtain ⟨k1, k2, k3⟩ := hK
  have key : ∀ (c i f : Nat) (r' : RS), i + 1 + c = K.length → a ≤ i → c < f → Ro [64] r r' → (∀ o, r'.2.1 64 o = if a ≤ o ∧ o < i then r.2.1 64 (o + 1) else r.2.1 64 o) → wp (R_keep_L53 (R_keep_J83) f (nn i)) r' (fun v r2 => v = 1 ∧ Ro [64, 65] r r2 ∧ KL r2 (K.eraseIdx a)) := by
    intro c
    induction c with
    | zero =>
      intro i f r' hi hai hf w h1
      obtain ⟨f', rfl⟩ : ∃ z, f = z + 1 := ⟨f - 1, by omega⟩
      show wp (R_keep_B53 _ _ (nn i)) r' _
      unfold R_keep_B53
      rw [wp_rI, w.gI (by decide), k1, l_1, nn_add, wp_pos (by rw [nn_le (by omega) (by omega)]; omega)]
      unfold R_keep_J83
      rw [wp_rI, w.gI (by decide), k1, l_1, nn_sub (by omega), wp_wI, wp_zt]
      refine ⟨Or.inr rfl, rfl, (w.sub (by decide)).i (by decide), ?_, ?_, fun k hk => ?_⟩
      · rw [sI_1, if_pos rfl, List.length_eraseIdx_of_lt ha]
      · rw [List.length_eraseIdx_of_lt ha]; omega
      · rw [List.length_eraseIdx_of_lt ha] at hk
        rw [sI_2, h1]
        have eg : (K.eraseIdx a).getD k 0 = if k < a then K.getD k 0 else K.getD (k + 1) 0 := by
          rw [List.getD_eq_getElem?_getD, List.getElem?_eraseIdx]
          split
          · rw [List.getD_eq_getElem?_getD]
          · rw [List.getD_eq_getElem?_getD]
        rw [eg]
        by_cases g : k < a
        · rw [if_neg (by omega), if_pos g]
          exact k3 k (by omega)
        · rw [if_pos (by omega), if_neg g]
          exact k3 (k + 1) (by omega)
    | succ c ih =>
      intro i f r' hi hai hf w h1
      obtain ⟨f', rfl⟩ : ∃ z, f = z + 1 := ⟨f - 1, by omega⟩
      show wp (R_keep_B53 _ _ (nn i)) r' _
      unfold R_keep_B53
      rw [wp_rI, w.gI (by decide), k1, l_1, nn_add, wp_neg (by rw [nn_le (by omega) (by omega)]; omega), wr_64 (by omega), ww_64 (by omega)]
      refine ih (i + 1) f' _ (by omega) (by omega) (by omega) (w.a (by decide)) (fun o => ?_)
      rw [sA_2, h1 o, h1 (i + 1), if_neg (show ¬ (a ≤ i + 1 ∧ i + 1 < i) by omega)]
      by_cases g : o = i
      · rw [if_pos ⟨rfl, g⟩, if_pos (by omega), g]
      · rw [if_neg (fun z => g z.2)]
        by_cases g2 : a ≤ o ∧ o < i
        · rw [if_pos g2, if_pos (by omega)]
        · rw [if_neg g2, if_neg (by omega)]
  exact key (K.length - 1 - a) a fu r (by omega) (by omega) (by unfold fu; omega) Ro.rf (fun o => by rw [if_neg (by omega)])
theorem gD_erase (l : List Nat) (a k : Nat) : (l.eraseIdx a).getD k 0 = if k < a then l.getD k 0 else l.getD (k + 1) 0 := by
  rw [List.getD_eq_getElem?_getD, List.getElem?_eraseIdx]
  split
  · rw [List.getD_eq_getElem?_getD]
  · rw [List.getD_eq_getElem?_getD]
end KEE
