/-! ===== a message is made by both ===== -/
section SMG
variable {x ec es ew i s b p n q rn j m M tA pA v : Nat} {e0 : Int32} {h h' : Hp} {r r' : RS} {bs U TP : List Nat}
/-- what is new in the class changes nothing of the relation -/
theorem Rel.new (R : Rel x ec es ew e0 h r) (p : Fm x [] (fun _ => False) h h') : Rel x ec es ew e0 h' r := by
  obtain ⟨f, bs, W⟩ := R.wr
  exact R.scr (p.sub (by decide) (fun _ z => z.elim)) Ro.rf ⟨f, bs, W.fmx R.st p (by decide) (fun z => z)⟩
/-- a will's message was there before -/
theorem Rel.wlt (R : Rel x ec es ew e0 h r) (hs : s < 12) (hb : har h (x + 34) s = some b) (hm : hfr h 1011 b = some m) : m < hnx h := by
  rcases (R.ses hs hb).2.2.2.1 with ⟨c1, _⟩ | ⟨m', j', c1, _, ⟨V, c2, _⟩, _⟩
  · rw [c1] at hm
    cases hm
  · rw [c1] at hm
    cases hm
    exact c2.2.2.1
theorem sim_message (R : Rel x ec es ew e0 h r) (P : Pp x i bs M U h r) (hi : i < 8) (B : By bs) (hbl : bs.length ≤ 405) (hC : Cg (hai h (cA x i + 2)) 0 bs) (h6 : Mg (r.2.1 6) (410 * i) bs) (h75 : r.1 75 = nn i) (h98 : r.1 98 = nn TP.length) (h97 : Mg (r.2.1 97) 0 TP) (ht : Rw x h tA TP) (hT : 1 ≤ TP.length ∧ TP.length ≤ 64) (hpl : Rw x h pA (sl bs p n)) (hpn : p + n ≤ bs.length) (hq : q ≤ 2) (hrt : rn ≤ 1) (hsum : Tot x h M + U.length + n ≤ 400) :
    ∃ j h' r', C_X4_message (x + 40) (some tA) (some pA) (nn q) (nn rn) h = some (some (hnx h), h') ∧ R_message (nn (410 * i + p)) (nn n) (nn q) (nn rn) r = some (nn j, r') ∧ RwN x h 7 (12 + Tot x h M + U.length) h' ∧ Fi j r r' ∧ Unu r j ∧ j < 509 ∧ hkd h' (hnx h) = 5 + 1 ∧ hfi h' 502 (hnx h) = nn q ∧ hfi h' 503 (hnx h) = nn rn ∧ Mp x h' r' (hnx h) j ∧ (∀ w, Rel x ec es ew e0 (sfi h' 508 (hnx h) w) r') ∧ Msg x (sfi h' 508 (hnx h) (r.1 66)) r' (hnx h) j ∧ (∀ s, s < 12 → r.2.1 7 i = nn s → r'.2.1 62 j = r.2.1 12 s) ∧ r'.2.1 61 j = nn rn ∧ r'.2.1 60 j = nn q := by
  obtain ⟨h', e1, C1, N1, _⟩ := qc_message (q := q) R.st P hi B hC hbl ht hpl hrt (by omega)
  obtain ⟨j, r', e2, hj, hu, F, C2, t2, o2⟩ := qm_message R P hi B hbl h6 h75 h98 h97 ht.2.2.1 hT hpn hq hrt hsum
  have hTot := Tot.eq P B hbl
  have hV : Vok (TP, sl bs p n, rwK x bs M h 1, rwK x bs M h 3 ++ (rwK x bs M h 8 ++ rwK x bs M h 9), U, q, rn, lifeK M r) := by
    refine ⟨hT, ?_, hq, hrt, ?_, ht.2.2.1, sl_by B, rwK.by B, (rwK.by B).app ((rwK.by B).app (rwK.by B)), P.2.2.1.2.2.2.1⟩
    · show (sl bs p n).length + (rwK x bs M h 1).length + (rwK x bs M h 3 ++ (rwK x bs M h 8 ++ rwK x bs M h 9)).length + U.length ≤ 400
      rw [sl_len hpn, List.length_append, List.length_append]
      omega
    · show lifeK M r = -1 ∨ ∃ k, k ≤ 4294967295 ∧ lifeK M r = n6 k
      unfold lifeK
      by_cases g : M.testBit 2 = true
      · obtain ⟨_, _, _, _, _, _, _, _, a7, _⟩ := P.2.1 2 (by decide) (by decide) g
        obtain ⟨v, v1, v2, v3, _⟩ := a7 (by decide)
        rw [if_pos g]
        exact Or.inr ⟨v, v1, v3⟩
      · rw [if_neg g]
        exact Or.inl rfl
  have Fn : ∀ w, Fm x [] (fun _ => False) h (sfi h' 508 (hnx h) w) := fun w => N1.1.fi (Or.inr (Nat.le_refl _)) (Or.inr (Nat.le_refl _))
  have hM : Mp x h' r' (hnx h) j := ⟨_, C1, C2, hV⟩
  have Rn : ∀ w, Rel x ec es ew e0 (sfi h' 508 (hnx h) w) r' := fun w => (R.new (Fn w)).slot F.1 (fun j' _ hne => F.sj hne) hu
  have t66 : r'.1 66 = r.1 66 := F.1.gI (by decide)
  obtain ⟨tt, ht1, ht2⟩ := R.2.1.1
  refine ⟨j, h', r', e1, e2, N1, F, hu, hj, C1.1, C1.2.2.2.2.2.2.2.2.1, C1.2.2.2.2.2.2.2.2.2.1, hM, Rn, ⟨⟨?_, ?_, tt, ?_, ?_⟩, by omega, fun s' b' hs' hb' => ?_⟩, o2, C2.2.2.2.2.2.2.2.1, C2.2.2.2.2.2.2.1⟩
  · exact hM.to (Sto.fi Sto.rf (Or.inl (by decide))) Sj.rf
  · rw [hfi_sfi, if_pos ⟨rfl, rfl⟩, t2]
  · rw [t66, ht2, iN_nn (by omega)]; exact Nat.le_refl _
  · rw [t2, ht2]
  · have hx := R.st.1
    have e34 : har (sfi h' 508 (hnx h) (r.1 66)) (x + 34) = har h (x + 34) := ((Fn (r.1 66)).2.2 (x + 34) (by omega) (fun z => z)).2.1
    rw [e34] at hb'
    have Sb := R.ses hs' hb'
    have hb4 := Sb.1.2.2.1
    refine ⟨fun z => ?_, ?_⟩
    · rw [(Fn (r.1 66)).gr (by decide) (by omega)] at z
      have := R.wlt hs' hb' z
      omega
    · rw [F.1.gA (by decide)]
      have a11 := ((R.2.2.2.2.1 s' hs').at hb').1
      exact (hu.2 s' hs' a11).1
/-- a number is held -/
theorem sim_hold (R : Rel x ec es ew e0 h r) (hs : s < 12) (hb : har h (x + 34) s = some b) (hv : v < 65536) (h8 : r.2.1 43 s ≠ nn 8) (hnew : ∀ k, k < iN (r.2.1 43 s) → r.2.1 44 (8 * s + k) ≠ nn v) :
    ∃ n h', r.2.1 43 s = nn n ∧ n < 8 ∧ C_X8_hold b (nn v) h = some ((), h') ∧ Rel x ec es ew e0 h' (sA (sA r 43 s (nn (n + 1))) 44 (8 * s + n) (nn v)) ∧ Fm x [1010] (fun a => a = b + 4) h h' ∧ hcs h' = hcs h := by
  have Sb := R.ses hs hb
  have hb2 := Sb.1.2.1
  have hb4 := Sb.1.2.2.1
  have hx := R.st.1
  obtain ⟨lc, lm, l1, l2, l3, l4, l5, l6, l7, l8⟩ := Sb.2.2.2.2.2.2.2.1
  have ll : lc.length = lm.length := l2.length_eq
  have hlt : lm.length < 8 := by
    rcases Nat.lt_or_ge lm.length 8 with z | z
    · exact z
    · exact absurd (by rw [l6]; congr 1; omega) h8
  have hnm : v ∉ lm := fun z => by
    obtain ⟨k, k1, k2⟩ := getD_of_mem z
    refine hnew k (by rw [l6, iN_nn (by omega)]; exact k1) ?_
    rw [l8 k k1, k2]
  obtain ⟨h', eh'⟩ : ∃ z, z = sfi (sai h (b + 4) (upd (hai h (b + 4)) lc.length (nn v))) 1010 b (nn (lc.length + 1)) := ⟨_, rfl⟩
  have p : Fm x [1010] (fun a => a = b + 4) h h' := by
    rw [eh']
    exact Fm.fi (Fm.ai Fm.rf (Or.inl rfl) (nFz Sb.1)) (Or.inl (by decide)) (Or.inl (by decide))
  have px : Hx x b 8 h h' := by
    rw [eh']
    exact Hx.fi (Hx.ai Hx.rf (Or.inl (Or.inl ⟨by omega, by omega⟩)) (nFz Sb.1)) (Or.inl (Or.inl ⟨rfl, by omega, by omega⟩)) (Or.inl (by decide))
  have wr : Ro [43, 44] r (sA (sA r 43 s (nn (lm.length + 1))) 44 (8 * s + lm.length) (nn v)) := (Ro.rf.a (by decide)).a (by decide)
  have wx : Ho s 8 r (sA (sA r 43 s (nn (lm.length + 1))) 44 (8 * s + lm.length) (nn v)) := by
    refine (Ho.rf.a (Or.inr (Or.inl ⟨by omega, by omega, ?_⟩))).a (Or.inr (Or.inl ⟨by omega, by omega, ?_⟩))
    · unfold ow
      rw [if_neg (by omega), if_neg (by omega), if_neg (by omega), if_neg (by omega), if_neg (by omega)]
    · unfold ow
      rw [if_neg (by omega), if_neg (by omega), if_pos (by omega)]
      omega
  refine ⟨lm.length, h', l6, hlt, ?_, R.hld hs hb p px wr wx ⟨lc ++ [v], lm ++ [v], ?_, l2.append_right [v], ?_, ?_, ?_, ?_, ?_, ?_⟩ (by rw [eh']; rfl), p, by rw [eh']; rfl⟩
  · have k1 := Sb.1.1
    obtain ⟨_, _, _, _, _, _, _, k2, k3, k4⟩ := Sb.1
    unfold C_X8_hold
    have e10 : hfi h (100 * 10 + 10) b = nn lc.length := l5
    have e9 : hfr h (100 * 10 + 9) b = some (b + 4) := k2
    rw [e_gI (c := 10) k1, e10, if_neg (by rw [l_8, nn_le (by omega) (by omega)]; omega), e_gR (c := 10) k1, e9, e_gI (c := 10) k1, e10, e_Wi k3 (nn_inr (by omega) (by omega)), nn_N (by omega), e_gI (c := 10) (by exact k1), e_pI (c := 10) (by exact k1), eh']
    show some ((), sfi (sai h (b + 4) (upd (hai h (b + 4)) lc.length (nn v))) 1010 b (hfi (sai h (b + 4) _) 1010 b + 1)) = _
    rw [hfi_sai, l5, l_1, nn_add]
  · rw [List.length_append]
    show lc.length + 1 ≤ 8
    omega
  · exact List.nodup_append.mpr ⟨l3, List.nodup_cons.mpr ⟨List.not_mem_nil, List.nodup_nil⟩, fun a ha c hc => by
      rw [List.mem_singleton.mp hc]
      exact fun z => hnm (z ▸ ha)⟩
  · intro w hw
    rcases List.mem_append.mp hw with z | z
    · exact l4 w z
    · rw [List.mem_singleton.mp z]; exact hv
  · rw [eh', hfi_sfi, if_pos ⟨rfl, rfl⟩, List.length_append]
    rfl
  · rw [sA_o (by decide), sA_2, if_pos ⟨rfl, rfl⟩, List.length_append]
    rfl
  · intro k hk
    rw [List.length_append] at hk
    have hk' : k < lc.length + 1 := hk
    rw [eh', hai_sfi, hai_sai, if_pos rfl, gD_app]
    show (if k = lc.length then nn v else hai h (b + 4) k) = _
    by_cases z : k = lc.length
    · rw [if_pos z, if_neg (by omega), show k - lc.length = 0 by omega]
      rfl
    · rw [if_neg z, if_pos (by omega), l7 k (by omega)]
  · intro k hk
    rw [List.length_append] at hk
    have hk' : k < lm.length + 1 := hk
    rw [sA_2, gD_app]
    by_cases z : k = lm.length
    · rw [if_pos ⟨rfl, by omega⟩, if_neg (by omega), show k - lm.length = 0 by omega]
      rfl
    · rw [if_neg (by omega), if_pos (by omega), sA_o (by decide), l8 k (by omega)]
end SMG
