section STR
variable {ρ : Type} {g : Gm Hp ρ} {cc : ByteArray} {nL pc : Nat} {own nm : String} {lv : List (Nat × Value)} {st stk : List Value} {vo : ρ → Option Value} {ret : Option FieldType} {fr lo idx : Nat} {P : Hp → Option (ρ × Hp)}
theorem s_nret {g : Gm Hp Int32} {ty : FieldType} (X : Cx g cc nL own) (Y : Rx g voI (some ty) fr lo) {v : Int32} (hn : narrow ty (.int v) = .int v) (d : decode cc pc = .ok (.ireturn, 1)) : Sm g nL pc lv [.int v] (rt v) := by
  obtain ⟨w, p, e, R, s, m, args, below, meth, c, Rl, cs, b, Qf⟩ := g
  obtain ⟨hx, hb, hml, hown, hts, hlocks, -⟩ := X
  obtain ⟨rfl, hr, -⟩ := Y
  refine ⟨fun σ r σ' h => by cases h; exact ⟨Nat.le_refl _, Nat.le_refl _⟩, fun σ r σ' H locs ls hP hR hS hl h1 h2 h3 h4 => ?_⟩
  cases hP
  exact W.zret hx hb hr hn (fun t ht hW => ⟨⟨rfl, by rw [ht]; exact hR⟩, hS.F ht⟩) hS.2.2 d
theorem s_compact (B : Bx g cc nL own vo ret fr lo nm) (hlink : Cond.fieldLink own idx "java/lang/String" "COMPACT_STRINGS" "Z" ∈ TB) (d : decode cc pc = .ok (.getstatic idx, 3)) (k : Sm g nL (pc + 3) lv (.int 1 :: st) P) : Sm g nL pc lv st P := by
  obtain ⟨w, p, e, R, s, m, args, below, meth, c, Rl, cs, b, Qf⟩ := g
  obtain ⟨⟨⟨hx, hb, hml, hown, hts, hlocks, hG, hw⟩, -⟩, -, ⟨hX, hS⟩, -⟩ := B
  exact ⟨k.1, fun σ r σ' H locs ls hP hR hS' hl b1 b2 b3 b4 => va_gets hx hb hS.2.2.2.1 hS' hown (hts _ hlink) (fun _ h => h) d (k.2 σ r σ' H locs ls hP hR hS' hl b1 b2 b3 b4)⟩
theorem s_formatter (B : Bx g cc nL own vo ret fr lo nm) (hlink : Cond.fieldLink own idx "jdk/internal/util/Preconditions" "SIOOBE_FORMATTER" "Ljava/util/function/BiFunction;" ∈ TB) (d : decode cc pc = .ok (.getstatic idx, 3)) (k : ∀ r : Option Nat, Sm g nL (pc + 3) lv (va_rf r :: st) P) : Sm g nL pc lv st P := by
  obtain ⟨w, p, e, R, s, m, args, below, meth, c, Rl, cs, b, Qf⟩ := g
  obtain ⟨⟨⟨hx, hb, hml, hown, hts, hlocks, hG, hw⟩, -⟩, -, ⟨hX, hS⟩, -⟩ := B
  refine ⟨(k none).1, fun σ r σ' H locs ls hP hR hS' hl b1 b2 b3 b4 => ?_⟩
  rcases hS.2.2.2.2 with h | ⟨t, h⟩
  · exact va_gets hx hb h hS' hown (hts _ hlink) (fun _ h => h) d ((k none).2 σ r σ' H locs ls hP hR hS' hl b1 b2 b3 b4)
  · exact va_gets hx hb h hS' hown (hts _ hlink) (fun _ h => h) d ((k (some t)).2 σ r σ' H locs ls hP hR hS' hl b1 b2 b3 b4)
theorem s_sval (B : Bx g cc nL own vo ret fr lo nm) (j : Nat) (hj : j < 3) (hlink : Cond.fieldLink own idx "java/lang/String" "value" "[B" ∈ TB) (d : decode cc pc = .ok (.getfield idx, 3)) (k : Sm g nL (pc + 3) lv (.ref (g.1.2.1 (1010 + j)) :: st) P) : Sm g nL pc lv (.ref (g.1.2.1 (1000 + j)) :: st) P := by
  obtain ⟨w, p, e, R, s, m, args, below, meth, c, Rl, cs, b, Qf⟩ := g
  obtain ⟨⟨⟨hx, hb, hml, hown, hts, hlocks, hG, hw⟩, -⟩, -, ⟨hX, hS⟩, -⟩ := B
  exact ⟨k.1, fun σ r σ' H locs ls hP hR hS' hl b1 b2 b3 b4 => vk_getf hx hb (hS.1 j hj).2.2.1 hS' hown (hts _ hlink) (fun _ h => h) d (k.2 σ r σ' H locs ls hP hR hS' hl b1 b2 b3 b4)⟩
theorem s_scod (B : Bx g cc nL own vo ret fr lo nm) (j : Nat) (hj : j < 3) (hlink : Cond.fieldLink own idx "java/lang/String" "coder" "B" ∈ TB) (d : decode cc pc = .ok (.getfield idx, 3)) (k : Sm g nL (pc + 3) lv (.int 0 :: st) P) : Sm g nL pc lv (.ref (g.1.2.1 (1000 + j)) :: st) P := by
  obtain ⟨w, p, e, R, s, m, args, below, meth, c, Rl, cs, b, Qf⟩ := g
  obtain ⟨⟨⟨hx, hb, hml, hown, hts, hlocks, hG, hw⟩, -⟩, -, ⟨hX, hS⟩, -⟩ := B
  exact ⟨k.1, fun σ r σ' H locs ls hP hR hS' hl b1 b2 b3 b4 => vk_getf hx hb (hS.1 j hj).2.1 hS' hown (hts _ hlink) (fun _ h => h) d (k.2 σ r σ' H locs ls hP hR hS' hl b1 b2 b3 b4)⟩
theorem s_svln (B : Bx g cc nL own vo ret fr lo nm) (j : Nat) (hj : j < 3) (d : decode cc pc = .ok (.arraylength, 1)) (k : Sm g nL (pc + 1) lv (.int (Int32.ofNat (slen j)) :: st) P) : Sm g nL pc lv (.ref (g.1.2.1 (1010 + j)) :: st) P := by
  obtain ⟨w, p, e, R, s, m, args, below, meth, c, Rl, cs, b, Qf⟩ := g
  obtain ⟨⟨⟨hx, hb, hml, hown, hts, hlocks, hG, hw⟩, -⟩, -, ⟨hX, hS⟩, -⟩ := B
  exact ⟨k.1, fun σ r σ' H locs ls hP hR hS' hl b1 b2 b3 b4 => va_tlen hx hb (hS.1 j hj).2.2.2 hS' rfl d (k.2 σ r σ' H locs ls hP hR hS' hl b1 b2 b3 b4)⟩
theorem s_svat (B : Bx g cc nL own vo ret fr lo nm) (j : Nat) (hj : j < 3) {i : Int32} (hi : inr i (slen j)) (d : decode cc pc = .ok (.baload, 1)) (k : Sm g nL (pc + 1) lv (.int ((sby.getD j []).getD i.toNatClampNeg 0) :: st) P) : Sm g nL pc lv (.int i :: .ref (g.1.2.1 (1010 + j)) :: st) P := by
  obtain ⟨w, p, e, R, s, m, args, below, meth, c, Rl, cs, b, Qf⟩ := g
  obtain ⟨⟨⟨hx, hb, hml, hown, hts, hlocks, hG, hw⟩, -⟩, -, ⟨hX, hS⟩, -⟩ := B
  exact ⟨k.1, fun σ r σ' H locs ls hP hR hS' hl b1 b2 b3 b4 => va_tb hx hb (hS.1 j hj).2.2.2 hS' (inr_vp hi) rfl d (k.2 σ r σ' H locs ls hP hR hS' hl b1 b2 b3 b4)⟩
theorem s_scall {Pk : Hp → Option (Int32 × Hp)} {f : Int32 → Hp → Option (ρ × Hp)} {y : MethodName} {cb : ByteArray} {n2 : Nat} {ret2 : Option FieldType} {fr2 lo2 : Nat} {As : List Value} (B : Bx g cc nL own vo ret fr lo nm) (j : Nat) (hj : j < 3) (M : MH g.1 y cb n2 ret2 fr2 lo2 voI (.ref (g.1.2.1 (1000 + j)) :: As) Pk)
    (hcode : Cond.code y cb n2 ret2 ∈ TB) (hlink : Cond.methodLink own idx y ∈ TB) (hin : Cond.instanceMethod y ∈ TB) (hsel : Cond.selects "java/lang/String" y y ∈ TB) (hini : Cond.initialized y.cls ∈ TB)
    (hd : y.cls ≠ "java/lang/invoke/MethodHandle" ∧ y.cls ≠ "java/lang/invoke/VarHandle" ∧ (parseMethodDescriptor y.desc).map (fun d => d.parameters.length) = some As.length)
    (hR : fr2 + 1 ≤ fr ∧ 8 + (n2 + 11) + lo2 ≤ lo) (hs : stk = As.reverse ++ .ref (g.1.2.1 (1000 + j)) :: st) (hc : (st.map fun v => v.category).sum ≤ 8) (d : decode cc pc = .ok (.invokevirtual idx, 3))
    (k : ∀ r : Int32, Sm g nL (pc + 3) lv (.int r :: st) (f r)) : Sm g nL pc lv stk (bd Pk f) := by
  subst hs
  have hB := B
  obtain ⟨w, p, e, R, s, m, args, below, meth, c, Rl, cs, b, Qf⟩ := g
  obtain ⟨⟨⟨hx, hb, hml, hown, hts, hlocks, hG, hw⟩, ⟨e1, e2⟩, eR, eC⟩, -, ⟨hX, hS⟩, -⟩ := B
  have eR : Rl = Rc w := eR
  have eC : cs = hcs := eC
  subst eR; subst eC; subst e1; subst e2
  refine ⟨fun σ r σ' hP => ?_, fun σ r σ' H locs ls hP hRl hS' hl b1 b2 b3 b4 => ?_⟩
  · obtain ⟨x, σ1, h1, h2⟩ := bd_some hP
    have m1 := M.1 σ x σ1 h1
    have m2 := (k x).1 σ1 r σ' h2
    exact ⟨Nat.le_trans m1.1 m2.1, Nat.le_trans m1.2 m2.2⟩
  · obtain ⟨x, σ1, h1, h2⟩ := bd_some hP
    have m1 : (hcs σ).1 ≤ (hcs σ1).1 ∧ (hcs σ).2 ≤ (hcs σ1).2 := M.1 σ x σ1 h1
    have m2 : (hcs σ1).1 ≤ (hcs σ').1 ∧ (hcs σ1).2 ≤ (hcs σ').2 := (k x).1 σ1 r σ' h2
    obtain ⟨cell, o1, o2, o3, -⟩ := (hS.1 j hj).1.kept hS'.2.1
    refine Sm.back (vo' := voI) (ca := (Value.ref (w.2.1 (1000 + j)) :: As).toArray) k h2 m1 hS' hl b1 b2 b3 b4 ?_
    refine va_runV (C := "java/lang/String") (As := As) (rest := st) (Ts := TB) (own := own) ⟨hx, hb, hml, hown, hts⟩ (M.2 σ x σ1 h1) ⟨callB_of As.length hts (code_good hcode) rfl rfl rfl (hts _ hini) (hts _ hlink) hd hR, hts _ hin, hts _ hsel⟩ ⟨fun a U g mk q => ⟨q.1, q.2.1, q.2.2.calling hw g mk a⟩, ⟨cell, o1, o2, o3⟩, fun U hU hW => ⟨rfl, by rw [hU]; exact hRl, hG.moved hw hW (by rw [hU]; exact hS')⟩⟩ rfl rfl hl.1 rfl (lv_room hc) d ⟨?_, ?_⟩
    · show (hcs σ).1 - b.1 + ((hcs σ1).1 - (hcs σ).1) ≤ R.cells
      omega
    · show (hcs σ).2 - b.2 + ((hcs σ1).2 - (hcs σ).2) ≤ R.slots
      omega
theorem s_i2c (X : Cx g cc nL own) {x : Int32} (d : decode cc pc = .ok (.i2c, 1)) (k : Sm g nL (pc + 1) lv (.int (x.toUInt32 % 65536).toInt32 :: st) P) : Sm g nL pc lv (.int x :: st) P := Sm.stp X (fun _ _ _ _ _ _ _ _ _ _ _ _ _ _ _ ls hx hb hown hts hl k => lv_i2c hx hb d rfl (k ls hl)) k
end STR
theorem sdp : yJ3_checkIndex_8e157.cls ≠ "java/lang/invoke/MethodHandle" ∧ yJ3_checkIndex_8e157.cls ≠ "java/lang/invoke/VarHandle" ∧ (parseMethodDescriptor yJ3_checkIndex_8e157.desc).map (fun d => d.parameters.length) = some 3 := by decide +kernel
theorem sdc : yJ0_checkIndex_df160.cls ≠ "java/lang/invoke/MethodHandle" ∧ yJ0_checkIndex_df160.cls ≠ "java/lang/invoke/VarHandle" ∧ (parseMethodDescriptor yJ0_checkIndex_df160.desc).map (fun d => d.parameters.length) = some 2 := by decide +kernel
theorem sda : yJ0_charAt_5068e.cls ≠ "java/lang/invoke/MethodHandle" ∧ yJ0_charAt_5068e.cls ≠ "java/lang/invoke/VarHandle" ∧ (parseMethodDescriptor yJ0_charAt_5068e.desc).map (fun d => d.parameters.length) = some 1 := by decide +kernel
theorem sdl : yJ1_charAt_3b067.cls ≠ "java/lang/invoke/MethodHandle" ∧ yJ1_charAt_3b067.cls ≠ "java/lang/invoke/VarHandle" ∧ (parseMethodDescriptor yJ1_charAt_3b067.desc).map (fun d => d.parameters.length) = some 2 := by decide +kernel
theorem sby_ok : ∀ j, j < 3 → ∀ i, i < slen j → ((((sby.getD j []).getD i 0 &&& 255).toUInt32 % 65536).toInt32 = (sby.getD j []).getD i 0 ∧ narrow .char (.int ((sby.getD j []).getD i 0)) = .int ((sby.getD j []).getD i 0)) ∧ slen j < 2 ^ 31 := by decide +kernel
theorem slen_sh : ∀ j, j < 3 → (Int32.ofNat (slen j)) >>> ((0 : Int32) &&& 31) = Int32.ofNat (slen j) := by decide +kernel
theorem mS_coder {w : Wd} (hw : Wc w) (j : Nat) (hj : j < 3) : MH w yJ0_coder_7d493 cJ0_coder_7d493 1 (some .byte) 0 0 voI [.ref (w.2.1 (1000 + j))] (rt 0) := by
  refine MH.of (own := RJ0) (nm := "coder") hw ⟨rfl, rfl⟩ (by decide) (by simp [lg_sl, cat_r]) (mo_rt _) (fun g hg B => ?_)
  subst hg
  refine W_lva (lv := [(0, .ref (g.1.2.1 (1000 + j)))]) (by simp [lv_args]) ?_
  refine s_compact B tw_655 dJ0_coder_7d493_0 ?_
  refine Sm.stp (pc' := 6) (lv' := [(0, .ref (g.1.2.1 (1000 + j)))]) (st' := []) B.1.1 (fun _ _ _ _ _ _ _ _ _ _ _ _ _ _ _ ls hx hb hown hts hl k => lv_if_eq (tgt := 13) hx hb dJ0_coder_7d493_3 (by decide) (fun h => absurd h (by decide)) (fun _ => k ls hl)) ?_
  refine s_aload_n B.1.1 0 dJ0_coder_7d493_6 rfl rfl ?_
  refine s_scod B j hj tw_737 dJ0_coder_7d493_7 ?_
  refine s_goto B.1.1 14 dJ0_coder_7d493_10 (by decide) ?_
  exact s_nret B.1.1 B.2.2.2.2 rfl dJ0_coder_7d493_14
theorem mS_length {w : Wd} (hw : Wc w) (j : Nat) (hj : j < 3) : MH w yJ0_length_8abf5 cJ0_length_8abf5 1 (some .int) 1 20 voI [.ref (w.2.1 (1000 + j))] (bd (rt (0 : Int32)) fun x => rt (Int32.ofNat (slen j) >>> (x &&& 31))) := by
  refine MH.of (own := RJ0) (nm := "length") hw ⟨rfl, rfl⟩ (by decide) (by simp [lg_sl, cat_r]) (mo_bd (mo_rt _) (fun _ => mo_rt _)) (fun g hg B => ?_)
  subst hg
  refine W_lva (lv := [(0, .ref (g.1.2.1 (1000 + j)))]) (by simp [lv_args]) ?_
  refine s_aload_n B.1.1 0 dJ0_length_8abf5_0 rfl rfl ?_
  refine s_sval B j hj tw_736 dJ0_length_8abf5_1 ?_
  refine s_svln B j hj dJ0_length_8abf5_4 ?_
  refine s_aload_n B.1.1 0 dJ0_length_8abf5_5 rfl rfl ?_
  refine s_scall (As := []) (st := [.int (Int32.ofNat (slen j))]) B j hj (mS_coder B.2.1 j hj) tw_654 tw_651 tw_652 tw_653 tw_21 (by decide +kernel) (by decide) rfl (Nat.le_of_ble_eq_true rfl) dJ0_length_8abf5_6 (fun x => ?_)
  refine s_ishr B.1.1 dJ0_length_8abf5_9 ?_
  exact s_iret B.1.1 B.2.2.2.2 dJ0_length_8abf5_10
theorem mS_isLatin1 {w : Wd} (hw : Wc w) (j : Nat) (hj : j < 3) : MH w yJ0_isLatin1_aae02 cJ0_isLatin1_aae02 1 (some .boolean) 0 0 voI [.ref (w.2.1 (1000 + j))] (rt 1) := by
  refine MH.of (own := RJ0) (nm := "isLatin1") hw ⟨rfl, rfl⟩ (by decide) (by simp [lg_sl, cat_r]) (mo_rt _) (fun g hg B => ?_)
  subst hg
  refine W_lva (lv := [(0, .ref (g.1.2.1 (1000 + j)))]) (by simp [lv_args]) ?_
  refine s_compact B tw_655 dJ0_isLatin1_aae02_0 ?_
  refine Sm.stp (pc' := 6) (lv' := [(0, .ref (g.1.2.1 (1000 + j)))]) (st' := []) B.1.1 (fun _ _ _ _ _ _ _ _ _ _ _ _ _ _ _ ls hx hb hown hts hl k => lv_if_eq (tgt := 17) hx hb dJ0_isLatin1_aae02_3 (by decide) (fun h => absurd h (by decide)) (fun _ => k ls hl)) ?_
  refine s_aload_n B.1.1 0 dJ0_isLatin1_aae02_6 rfl rfl ?_
  refine s_scod B j hj tw_737 dJ0_isLatin1_aae02_7 ?_
  refine Sm.stp (pc' := 13) (lv' := [(0, .ref (g.1.2.1 (1000 + j)))]) (st' := []) B.1.1 (fun _ _ _ _ _ _ _ _ _ _ _ _ _ _ _ ls hx hb hown hts hl k => lv_if_ne (tgt := 17) hx hb dJ0_isLatin1_aae02_10 (by decide) (fun h => absurd rfl h) (fun _ => k ls hl)) ?_
  refine s_iconst (v := 1) B.1.1 dJ0_isLatin1_aae02_13 (by decide) ?_
  refine s_goto B.1.1 18 dJ0_isLatin1_aae02_14 (by decide) ?_
  exact s_nret B.1.1 B.2.2.2.2 rfl dJ0_isLatin1_aae02_18
theorem mS_preIndex {w : Wd} (hw : Wc w) (i n : Int32) (r : Option Nat) : MH w yJ3_checkIndex_8e157 cJ3_checkIndex_8e157 3 (some .int) 0 0 voI [.int i, .int n, va_rf r] (if i < 0 then no else if i < n then rt i else no) := by
  refine MH.of (own := RJ3) (nm := "checkIndex") hw ⟨rfl, rfl⟩ (by decide) (by simp [lg_sl, cat_i, va_rf_cat]) (mo_ite mo_no (mo_ite (mo_rt _) mo_no)) (fun g hg B => ?_)
  subst hg
  refine W_lva (lv := [(0, .int i), (1, .int n), (2, va_rf r)]) (by simp [lv_args, cat_i]) ?_
  refine s_iload_n B.1.1 0 dJ3_checkIndex_8e157_0 rfl rfl ?_
  refine s_if_lt B.1.1 9 dJ3_checkIndex_8e157_1 (by decide) Sm.fail ?_
  refine s_iload_n B.1.1 0 dJ3_checkIndex_8e157_4 rfl rfl ?_
  refine s_iload_n B.1.1 1 dJ3_checkIndex_8e157_5 rfl rfl ?_
  refine s_icmp_lt B.1.1 16 dJ3_checkIndex_8e157_6 (by decide) ?_ Sm.fail
  refine s_iload_n B.1.1 0 dJ3_checkIndex_8e157_16 rfl rfl ?_
  exact s_iret B.1.1 B.2.2.2.2 dJ3_checkIndex_8e157_17
theorem mS_checkIndex {w : Wd} (hw : Wc w) (i n : Int32) : MH w yJ0_checkIndex_df160 cJ0_checkIndex_df160 2 none 1 22 voV [.int i, .int n] (bd (if i < 0 then no else if i < n then rt i else no) fun _ => rt ()) := by
  refine MH.of (own := RJ0) (nm := "checkIndex") hw ⟨rfl, rfl⟩ (by decide) (by simp [lg_sl, cat_i]) (mo_bd (mo_ite mo_no (mo_ite (mo_rt _) mo_no)) (fun _ => mo_rt _)) (fun g hg B => ?_)
  subst hg
  refine W_lva (lv := [(0, .int i), (1, .int n)]) (by simp [lv_args, cat_i]) ?_
  refine s_iload_n B.1.1 0 dJ0_checkIndex_df160_0 rfl rfl ?_
  refine s_iload_n B.1.1 1 dJ0_checkIndex_df160_1 rfl rfl ?_
  refine s_formatter B tw_613 dJ0_checkIndex_df160_2 (fun r => ?_)
  refine hp_csi (As := [.int i, .int n, va_rf r]) (st := []) B.1 (mS_preIndex B.2.1 i n r) tw_796 tw_794 tw_795 tw_26 sdp (by decide) rfl (Nat.le_of_ble_eq_true rfl) dJ0_checkIndex_df160_5 (fun x => ?_)
  refine s_pop B.1.1 dJ0_checkIndex_df160_8 rfl ?_
  exact s_vret B.1.1 B.2.2.2.2 dJ0_checkIndex_df160_9
theorem mS_latin {w : Wd} (hw : Wc w) (j : Nat) (hj : j < 3) (i : Int32) (hi : inr i (slen j)) : MH w yJ1_charAt_3b067 cJ1_charAt_3b067 2 (some .char) 2 43 voI [.ref (w.2.1 (1010 + j)), .int i] (bd (bd (if i < 0 then no else if i < Int32.ofNat (slen j) then rt i else no) fun _ => rt ()) fun _ => rt ((sby.getD j []).getD i.toNatClampNeg 0)) := by
  refine MH.of (own := RJ1) (nm := "charAt") hw ⟨rfl, rfl⟩ (by decide) (by simp [lg_sl, cat_i, cat_r]) (mo_bd (mo_bd (mo_ite mo_no (mo_ite (mo_rt _) mo_no)) (fun _ => mo_rt _)) (fun _ => mo_rt _)) (fun g hg B => ?_)
  subst hg
  have hb := (sby_ok j hj _ hi.2).1
  refine W_lva (lv := [(0, .ref (g.1.2.1 (1010 + j))), (1, .int i)]) (by simp [lv_args, cat_i, cat_r]) ?_
  refine s_iload_n B.1.1 1 dJ1_charAt_3b067_0 rfl rfl ?_
  refine s_aload_n B.1.1 0 dJ1_charAt_3b067_1 rfl rfl ?_
  refine s_svln B j hj dJ1_charAt_3b067_2 ?_
  refine hp_csv (As := [.int i, .int (Int32.ofNat (slen j))]) (st := []) B.1 (mS_checkIndex B.2.1 i (Int32.ofNat (slen j))) tw_793 tw_791 tw_792 tw_21 sdc (by decide) rfl (Nat.le_of_ble_eq_true rfl) dJ1_charAt_3b067_3 (fun x => ?_)
  refine s_aload_n B.1.1 0 dJ1_charAt_3b067_6 rfl rfl ?_
  refine s_iload_n B.1.1 1 dJ1_charAt_3b067_7 rfl rfl ?_
  refine s_svat B j hj hi dJ1_charAt_3b067_8 ?_
  refine s_sipush (v := 255) B.1.1 dJ1_charAt_3b067_9 (by decide) ?_
  refine s_iand B.1.1 dJ1_charAt_3b067_12 ?_
  refine s_i2c B.1.1 dJ1_charAt_3b067_13 ?_
  rw [hb.1]
  exact s_nret B.1.1 B.2.2.2.2 hb.2 dJ1_charAt_3b067_14
theorem mS_charAt {w : Wd} (hw : Wc w) (j : Nat) (hj : j < 3) (i : Int32) (hi : inr i (slen j)) : MH w yJ0_charAt_5068e cJ0_charAt_5068e 2 (some .char) 3 64 voI [.ref (w.2.1 (1000 + j)), .int i] (bd (rt (1 : Int32)) fun x => if x = 0 then no else bd (bd (bd (if i < 0 then no else if i < Int32.ofNat (slen j) then rt i else no) fun _ => rt ()) fun _ => rt ((sby.getD j []).getD i.toNatClampNeg 0)) fun z => gd (z = (sby.getD j []).getD i.toNatClampNeg 0) (rt z)) := by
  refine MH.of (own := RJ0) (nm := "charAt") hw ⟨rfl, rfl⟩ (by decide) (by simp [lg_sl, cat_i, cat_r]) (mo_bd (mo_rt _) (fun _ => mo_ite mo_no (mo_bd (mo_bd (mo_bd (mo_ite mo_no (mo_ite (mo_rt _) mo_no)) (fun _ => mo_rt _)) (fun _ => mo_rt _)) (fun _ => mo_gd (mo_rt _))))) (fun g hg B => ?_)
  subst hg
  have hb := (sby_ok j hj _ hi.2).1
  refine W_lva (lv := [(0, .ref (g.1.2.1 (1000 + j))), (1, .int i)]) (by simp [lv_args, cat_i, cat_r]) ?_
  refine s_aload_n B.1.1 0 dJ0_charAt_5068e_0 rfl rfl ?_
  refine s_scall (As := []) (st := []) B j hj (mS_isLatin1 B.2.1 j hj) tw_787 tw_784 tw_785 tw_786 tw_21 (by decide +kernel) (by decide) rfl (Nat.le_of_ble_eq_true rfl) dJ0_charAt_5068e_1 (fun x => ?_)
  refine s_if_eq B.1.1 16 dJ0_charAt_5068e_4 (by decide) Sm.fail ?_
  refine s_aload_n B.1.1 0 dJ0_charAt_5068e_7 rfl rfl ?_
  refine s_sval B j hj tw_736 dJ0_charAt_5068e_8 ?_
  refine s_iload_n B.1.1 1 dJ0_charAt_5068e_11 rfl rfl ?_
  refine hp_csi (As := [.ref (g.1.2.1 (1010 + j)), .int i]) (st := []) B.1 (mS_latin B.2.1 j hj i hi) tw_790 tw_788 tw_789 tw_27 sdl (by decide) rfl (Nat.le_of_ble_eq_true rfl) dJ0_charAt_5068e_12 (fun z => ?_)
  refine Sm.guard fun hz => ?_
  subst hz
  exact s_nret B.1.1 B.2.2.2.2 hb.2 dJ0_charAt_5068e_15
section STR2
variable {ρ : Type} {g : Gm Hp ρ} {cc : ByteArray} {nL pc : Nat} {own nm : String} {lv : List (Nat × Value)} {st : List Value} {vo : ρ → Option Value} {ret : Option FieldType} {fr lo idx : Nat}
theorem s_sLn (B : Bx g cc nL own vo ret fr lo nm) (j : Nat) (hj : j < 3) (hlink : Cond.methodLink own idx yJ0_length_8abf5 ∈ TB) (hR : 8 ≤ fr ∧ 300 ≤ lo) (hc : (st.map fun v => v.category).sum ≤ 8) (d : decode cc pc = .ok (.invokevirtual idx, 3)) {f : Int32 → Hp → Option (ρ × Hp)} (k : ∀ v, Sm g nL (pc + 3) lv (.int v :: st) (f v)) : Sm g nL pc lv (.ref (g.1.2.1 (1000 + j)) :: st) (sLn j f) := by
  have e : sLn j f = bd (bd (rt (0 : Int32)) fun x => rt (Int32.ofNat (slen j) >>> (x &&& 31))) f := by
    funext h
    show f (Int32.ofNat (slen j)) h = f (Int32.ofNat (slen j) >>> ((0 : Int32) &&& 31)) h
    rw [slen_sh j hj]
  rw [e]
  exact s_scall (As := []) B j hj (mS_length B.2.1 j hj) tw_650 hlink tw_648 tw_649 tw_21 (by decide +kernel) ⟨by omega, by omega⟩ rfl hc d k
theorem s_sAt (B : Bx g cc nL own vo ret fr lo nm) (j : Nat) (hj : j < 3) {i : Int32} (hlink : Cond.methodLink own idx yJ0_charAt_5068e ∈ TB) (hR : 8 ≤ fr ∧ 300 ≤ lo) (hc : (st.map fun v => v.category).sum ≤ 8) (d : decode cc pc = .ok (.invokevirtual idx, 3)) {f : Int32 → Hp → Option (ρ × Hp)} (k : ∀ v, Sm g nL (pc + 3) lv (.int v :: st) (f v)) : Sm g nL pc lv (.int i :: .ref (g.1.2.1 (1000 + j)) :: st) (sAt j i f) := by
  refine Sm.guard fun hi => ?_
  have h1 : ¬ i < 0 := Int32.not_lt.mpr hi.1
  have h2 : i < Int32.ofNat (slen j) := by
    obtain ⟨n, hn, rfl⟩ := vp_in_of (inr_vp hi) (sby_ok j hj _ hi.2).2
    exact nI_lt hn (sby_ok j hj _ hi.2).2
  have e : f ((sby.getD j []).getD i.toNatClampNeg 0) = bd (bd (rt (1 : Int32)) fun x => if x = 0 then no else bd (bd (bd (if i < 0 then no else if i < Int32.ofNat (slen j) then rt i else no) fun _ => rt ()) fun _ => rt ((sby.getD j []).getD i.toNatClampNeg 0)) fun z => gd (z = (sby.getD j []).getD i.toNatClampNeg 0) (rt z)) f := by
    funext h
    simp [bd, rt, gd, h1, h2]
  rw [e]
  exact s_scall (As := [.int i]) B j hj (mS_charAt B.2.1 j hj i hi) tw_783 hlink tw_781 tw_782 tw_21 sda ⟨by omega, by omega⟩ rfl hc d k
end STR2
