def C_X5_one (l0 : Nat) : Hp → Option (Int32 × Hp) :=
  hCv 7 (some l0) (fun a => C_X5_has a (1 : Int32)) fun r1 =>
  if r1 = 0 then (
    rt ((0 : Int32))
  ) else (
    hgI 7 2 (some l0) fun v2 =>
    hpI 7 2 (some l0) (v2 + (1 : Int32)) <|
    hgR 7 1 (some l0) fun v3 =>
    hgI 7 2 (some l0) fun v4 =>
    hAi v3 (v4 - (1 : Int32)) fun v5 =>
    rt (v5)
  )
set_option maxRecDepth 10000 in
theorem mo_C_X5_one (l0 : Nat) : Mo (C_X5_one l0) := by
  unfold C_X5_one
  repeat' (with_reducible first | assumption | exact mo_rt _ | exact mo_zt _ | exact mo_no | apply mo_C_X5_has | refine mo_ite ?_ ?_ | refine mo_hgI (fun _ => ?_) | refine mo_hgR (fun _ => ?_) | refine mo_hCv (fun _ => ?_) (fun _ => ?_) | refine mo_lq (fun _ => ?_) | refine mo_hpI ?_ | refine mo_hpR ?_ | refine mo_hAi (fun _ => ?_) | refine mo_hAr (fun _ => ?_) | refine mo_hWi ?_ | refine mo_hWr ?_ | refine mo_hLn (fun _ => ?_) | refine mo_hgL (fun _ => ?_) | refine mo_hpL ?_ | refine mo_hpZ ?_ | refine mo_bd ?_ (fun _ => ?_) | refine mo_hCi (fun _ => ?_) (fun _ => ?_) | refine mo_hNw (fun _ => ?_) | refine mo_hNa (fun _ => ?_) | refine mo_hCp ?_ | refine mo_hOi ?_ | refine mo_hAl (fun _ => ?_) | refine mo_hWl ?_ | refine mo_gd ?_ | refine mo_sLn (fun _ => ?_) | refine mo_sAt (fun _ => ?_) | refine mo_kLn (fun _ => ?_) | refine mo_kAt (fun _ => ?_))
set_option maxRecDepth 10000 in
theorem mC_X5_one {w : Wd} (hw : Wc w) (l0 : Nat) : MH w yX5_one cX5_one 1 (some .int) 1 21 voI [va_rf (some l0)] (C_X5_one l0) := by
  have M0 : ∀ g : Gm Hp Int32, g.1 = w → Bx g cX5_one 1 RX5 voI (some .int) 1 21 "one" → Sm g 1 0 (lv_args 0 [va_rf (some l0)]) [] (C_X5_one l0) := by
    intro g hg B
    subst hg
    unfold C_X5_one
    refine W_lva (lv := [(0, va_rf (some l0))]) (by simp [lv_args, va_rf_cat, cat_i, cat_l, cat_r]) ?_
    refine s_rload_n B.1.1 0 dX5_one_0 rfl rfl ?_
    refine s_iconst (v := 1) B.1.1 dX5_one_1 (by decide) ?_
    refine hp_cvi (As := [.int (1 : Int32)]) (st := []) 7 rfl (by decide) B.1 (fun a => mC_X5_has B.2.1 a (1 : Int32)) cc_X5_has cl_X5_45 cn_X5_has ce_X5_has ci_X5 cd_X5_has (by decide) rfl (Nat.le_of_ble_eq_true rfl) dX5_one_2 (fun r1 => ?_)
    refine s_if_ne B.1.1 10 dX5_one_5 (by decide) ?_ ?_
    · refine s_rload_n B.1.1 0 dX5_one_10 rfl rfl ?_
      refine s_dup B.1.1 dX5_one_11 rfl ?_
      refine hp_getI B.1 7 2 rfl (by decide) inX5 (by decide) fk_X5_2.1 fk_X5_2.2 cf_X5_25 dX5_one_12 (fun v2 => ?_)
      refine s_iconst (v := 1) B.1.1 dX5_one_15 (by decide) ?_
      refine s_iadd B.1.1 dX5_one_16 ?_
      refine hp_putI B.1 7 2 rfl (by decide) inX5 tyX5 tyX5_ok nmX5 (by decide) fk_X5_2.1 fk_X5_2.2 ft_X5_2 rfl cf_X5_25 dX5_one_17 ?_
      refine s_rload_n B.1.1 0 dX5_one_20 rfl rfl ?_
      refine hp_getR B.1 7 1 rfl (by decide) inX5 (by decide) fk_X5_1 cf_X5_24 dX5_one_21 (fun v3 => ?_)
      refine s_rload_n B.1.1 0 dX5_one_24 rfl rfl ?_
      refine hp_getI B.1 7 2 rfl (by decide) inX5 (by decide) fk_X5_2.1 fk_X5_2.2 cf_X5_25 dX5_one_25 (fun v4 => ?_)
      refine s_iconst (v := 1) B.1.1 dX5_one_28 (by decide) ?_
      refine s_isub B.1.1 dX5_one_29 ?_
      refine hp_Ai B.1 dX5_one_30 (fun v5 => ?_)
      exact s_iret B.1.1 B.2.2.2.2 dX5_one_31
    · refine s_iconst (v := 0) B.1.1 dX5_one_8 (by decide) ?_
      exact s_iret B.1.1 B.2.2.2.2 dX5_one_9
  exact MH.of hw ⟨rfl, rfl⟩ (by decide) (by simp [lg_sl, va_rf_cat, cat_i, cat_l, cat_r]) (mo_C_X5_one l0) M0
def C_J7_checkLength_df160 (l0 : Int32) (l1 : Int32) : Hp → Option (Unit × Hp) :=
  if l0 ≤ l1 then (
    rt ()
  ) else (
    no
  )
set_option maxRecDepth 10000 in
theorem mo_C_J7_checkLength_df160 (l0 : Int32) (l1 : Int32) : Mo (C_J7_checkLength_df160 l0 l1) := by
  unfold C_J7_checkLength_df160
  repeat' (with_reducible first | assumption | exact mo_rt _ | exact mo_zt _ | exact mo_no | refine mo_ite ?_ ?_ | refine mo_hgI (fun _ => ?_) | refine mo_hgR (fun _ => ?_) | refine mo_hCv (fun _ => ?_) (fun _ => ?_) | refine mo_lq (fun _ => ?_) | refine mo_hpI ?_ | refine mo_hpR ?_ | refine mo_hAi (fun _ => ?_) | refine mo_hAr (fun _ => ?_) | refine mo_hWi ?_ | refine mo_hWr ?_ | refine mo_hLn (fun _ => ?_) | refine mo_hgL (fun _ => ?_) | refine mo_hpL ?_ | refine mo_hpZ ?_ | refine mo_bd ?_ (fun _ => ?_) | refine mo_hCi (fun _ => ?_) (fun _ => ?_) | refine mo_hNw (fun _ => ?_) | refine mo_hNa (fun _ => ?_) | refine mo_hCp ?_ | refine mo_hOi ?_ | refine mo_hAl (fun _ => ?_) | refine mo_hWl ?_ | refine mo_gd ?_ | refine mo_sLn (fun _ => ?_) | refine mo_sAt (fun _ => ?_) | refine mo_kLn (fun _ => ?_) | refine mo_kAt (fun _ => ?_))
set_option maxRecDepth 10000 in
theorem mC_J7_checkLength_df160 {w : Wd} (hw : Wc w) (l0 : Int32) (l1 : Int32) : MH w yJ7_checkLength_df160 cJ7_checkLength_df160 2 none 0 0 voV [.int l0, .int l1] (C_J7_checkLength_df160 l0 l1) := by
  have M0 : ∀ g : Gm Hp Unit, g.1 = w → Bx g cJ7_checkLength_df160 2 RJ7 voV none 0 0 "checkLength" → Sm g 2 0 (lv_args 0 [.int l0, .int l1]) [] (C_J7_checkLength_df160 l0 l1) := by
    intro g hg B
    subst hg
    unfold C_J7_checkLength_df160
    refine W_lva (lv := [(0, .int l0), (1, .int l1)]) (by simp [lv_args, va_rf_cat, cat_i, cat_l, cat_r]) ?_
    refine s_iload_n B.1.1 1 dJ7_checkLength_df160_0 rfl rfl ?_
    refine s_iload_n B.1.1 0 dJ7_checkLength_df160_1 rfl rfl ?_
    refine s_icmp_ge B.1.1 37 dJ7_checkLength_df160_2 (by decide) ?_ ?_
    · exact s_vret B.1.1 B.2.2.2.2 dJ7_checkLength_df160_37
    · exact Sm.fail
  exact MH.of hw ⟨rfl, rfl⟩ (by decide) (by simp [lg_sl, va_rf_cat, cat_i, cat_l, cat_r]) (mo_C_J7_checkLength_df160 l0 l1) M0
def C_J7_copyOfRangeInt_feecc (l0 : Option Nat) (l1 : Int32) (l2 : Int32) : Hp → Option ((Option Nat) × Hp) :=
  bd (C_J7_checkLength_df160 l1 l2) fun r1 =>
  lq (l2 - l1) fun x2 =>
  hNa 0 x2 fun o3 =>
  hLn 0 l0 fun v4 =>
  hCp l0 l1 o3 (0 : Int32) (imin (v4 - l1) x2) <|
  rt (o3)
set_option maxRecDepth 10000 in
theorem mo_C_J7_copyOfRangeInt_feecc (l0 : Option Nat) (l1 : Int32) (l2 : Int32) : Mo (C_J7_copyOfRangeInt_feecc l0 l1 l2) := by
  unfold C_J7_copyOfRangeInt_feecc
  repeat' (with_reducible first | assumption | exact mo_rt _ | exact mo_zt _ | exact mo_no | apply mo_C_J7_checkLength_df160 | refine mo_ite ?_ ?_ | refine mo_hgI (fun _ => ?_) | refine mo_hgR (fun _ => ?_) | refine mo_hCv (fun _ => ?_) (fun _ => ?_) | refine mo_lq (fun _ => ?_) | refine mo_hpI ?_ | refine mo_hpR ?_ | refine mo_hAi (fun _ => ?_) | refine mo_hAr (fun _ => ?_) | refine mo_hWi ?_ | refine mo_hWr ?_ | refine mo_hLn (fun _ => ?_) | refine mo_hgL (fun _ => ?_) | refine mo_hpL ?_ | refine mo_hpZ ?_ | refine mo_bd ?_ (fun _ => ?_) | refine mo_hCi (fun _ => ?_) (fun _ => ?_) | refine mo_hNw (fun _ => ?_) | refine mo_hNa (fun _ => ?_) | refine mo_hCp ?_ | refine mo_hOi ?_ | refine mo_hAl (fun _ => ?_) | refine mo_hWl ?_ | refine mo_gd ?_ | refine mo_sLn (fun _ => ?_) | refine mo_sAt (fun _ => ?_) | refine mo_kLn (fun _ => ?_) | refine mo_kAt (fun _ => ?_))
set_option maxRecDepth 10000 in
theorem mC_J7_copyOfRangeInt_feecc {w : Wd} (hw : Wc w) (l0 : Option Nat) (l1 : Int32) (l2 : Int32) : MH w yJ7_copyOfRangeInt_feecc cJ7_copyOfRangeInt_feecc 5 (some (.array .int)) 1 40 voR [va_rf l0, .int l1, .int l2] (C_J7_copyOfRangeInt_feecc l0 l1 l2) := by
  have M0 : ∀ g : Gm Hp (Option Nat), g.1 = w → Bx g cJ7_copyOfRangeInt_feecc 5 RJ7 voR (some (.array .int)) 1 40 "copyOfRangeInt" → Sm g 5 0 (lv_args 0 [va_rf l0, .int l1, .int l2]) [] (C_J7_copyOfRangeInt_feecc l0 l1 l2) := by
    intro g hg B
    subst hg
    unfold C_J7_copyOfRangeInt_feecc
    refine W_lva (lv := [(0, va_rf l0), (1, .int l1), (2, .int l2)]) (by simp [lv_args, va_rf_cat, cat_i, cat_l, cat_r]) ?_
    refine s_iload_n B.1.1 1 dJ7_copyOfRangeInt_feecc_0 rfl rfl ?_
    refine s_iload_n B.1.1 2 dJ7_copyOfRangeInt_feecc_1 rfl rfl ?_
    refine hp_csv (As := [.int l1, .int l2]) (st := []) B.1 (mC_J7_checkLength_df160 B.2.1 l1 l2) cc_J7_checkLength_df160 cl_J7_343 cs_J7_checkLength_df160 ci_J7 cd_J7_checkLength_df160 (by decide) rfl (Nat.le_of_ble_eq_true rfl) dJ7_copyOfRangeInt_feecc_2 (fun r1 => ?_)
    refine s_iload_n B.1.1 2 dJ7_copyOfRangeInt_feecc_5 rfl rfl ?_
    refine s_iload_n B.1.1 1 dJ7_copyOfRangeInt_feecc_6 rfl rfl ?_
    refine s_isub B.1.1 dJ7_copyOfRangeInt_feecc_7 ?_
    refine s_lqi (fun x2 => ?_)
    refine s_istore_n (i := 3) (lv' := [(3, .int x2), (0, va_rf l0), (1, .int l1), (2, .int l2)]) B.1.1 dJ7_copyOfRangeInt_feecc_8 rfl (by decide) rfl ?_
    refine s_iload_n B.1.1 0 dJ7_copyOfRangeInt_feecc_9 rfl rfl ?_
    refine hp_Na (atype := .int) B.1 0 rfl (by decide) tw_100 (fun _ => rfl) (fun _ _ => rfl) rfl (by decide) dJ7_copyOfRangeInt_feecc_10 (fun o3 => ?_)
    refine s_rstore (i := 4) (lv' := [(4, va_rf o3), (3, .int x2), (0, va_rf l0), (1, .int l1), (2, .int l2)]) B.1.1 dJ7_copyOfRangeInt_feecc_12 (by decide) rfl ?_
    refine s_rload_n B.1.1 2 dJ7_copyOfRangeInt_feecc_14 rfl rfl ?_
    refine s_iload_n B.1.1 3 dJ7_copyOfRangeInt_feecc_15 rfl rfl ?_
    refine s_rload B.1.1 0 dJ7_copyOfRangeInt_feecc_16 rfl ?_
    refine s_iconst (v := 0) B.1.1 dJ7_copyOfRangeInt_feecc_18 (by decide) ?_
    refine s_rload_n B.1.1 2 dJ7_copyOfRangeInt_feecc_19 rfl rfl ?_
    refine hp_Ln B.1 0 (fun _ => rfl) dJ7_copyOfRangeInt_feecc_20 (fun v4 => ?_)
    refine s_iload_n B.1.1 3 dJ7_copyOfRangeInt_feecc_21 rfl rfl ?_
    refine s_isub B.1.1 dJ7_copyOfRangeInt_feecc_22 ?_
    refine s_iload_n B.1.1 1 dJ7_copyOfRangeInt_feecc_23 rfl rfl ?_
    refine s_mmin B.1.1 B.1.2.1 tw_585 (by decide) (by simp [va_rf_cat, cat_i, cat_l, cat_r]) dJ7_copyOfRangeInt_feecc_24 ?_
    refine hp_Cp B.1 tw_586 (by decide) (Nat.le_of_ble_eq_true rfl) dJ7_copyOfRangeInt_feecc_27 ?_
    refine s_rload B.1.1 0 dJ7_copyOfRangeInt_feecc_30 rfl ?_
    exact s_aret B.1.1 B.2.2.2.2 (Or.inr ⟨_, rfl⟩) dJ7_copyOfRangeInt_feecc_32
  exact MH.of hw ⟨rfl, rfl⟩ (by decide) (by simp [lg_sl, va_rf_cat, cat_i, cat_l, cat_r]) (mo_C_J7_copyOfRangeInt_feecc l0 l1 l2) M0
def C_J7_copyOfRange_feecc_J10 (l0 : Option Nat) (l1 : Int32) (l2 : Int32) : Hp → Option ((Option Nat) × Hp) :=
  bd (C_J7_copyOfRangeInt_feecc l0 l1 l2) fun r1 =>
  rt (r1)
set_option maxRecDepth 10000 in
theorem mo_C_J7_copyOfRange_feecc_J10 (l0 : Option Nat) (l1 : Int32) (l2 : Int32) : Mo (C_J7_copyOfRange_feecc_J10 l0 l1 l2) := by
  unfold C_J7_copyOfRange_feecc_J10
  repeat' (with_reducible first | assumption | exact mo_rt _ | exact mo_zt _ | exact mo_no | apply mo_C_J7_copyOfRangeInt_feecc | refine mo_ite ?_ ?_ | refine mo_hgI (fun _ => ?_) | refine mo_hgR (fun _ => ?_) | refine mo_hCv (fun _ => ?_) (fun _ => ?_) | refine mo_lq (fun _ => ?_) | refine mo_hpI ?_ | refine mo_hpR ?_ | refine mo_hAi (fun _ => ?_) | refine mo_hAr (fun _ => ?_) | refine mo_hWi ?_ | refine mo_hWr ?_ | refine mo_hLn (fun _ => ?_) | refine mo_hgL (fun _ => ?_) | refine mo_hpL ?_ | refine mo_hpZ ?_ | refine mo_bd ?_ (fun _ => ?_) | refine mo_hCi (fun _ => ?_) (fun _ => ?_) | refine mo_hNw (fun _ => ?_) | refine mo_hNa (fun _ => ?_) | refine mo_hCp ?_ | refine mo_hOi ?_ | refine mo_hAl (fun _ => ?_) | refine mo_hWl ?_ | refine mo_gd ?_ | refine mo_sLn (fun _ => ?_) | refine mo_sAt (fun _ => ?_) | refine mo_kLn (fun _ => ?_) | refine mo_kAt (fun _ => ?_))
set_option maxRecDepth 10000 in
theorem sc_J7_copyOfRange_feecc_J10 {g : Gm Hp (Option Nat)} (B : Bx g cJ7_copyOfRange_feecc 3 RJ7 voR (some (.array .int)) 2 64 "copyOfRange") (l0 : Option Nat) (l1 : Int32) (l2 : Int32) : Sm g 3 10 [(0, va_rf l0), (1, .int l1), (2, .int l2)] [] (C_J7_copyOfRange_feecc_J10 l0 l1 l2) := by
  unfold C_J7_copyOfRange_feecc_J10
  refine s_rload_n B.1.1 0 dJ7_copyOfRange_feecc_10 rfl rfl ?_
  refine s_iload_n B.1.1 1 dJ7_copyOfRange_feecc_11 rfl rfl ?_
  refine s_iload_n B.1.1 2 dJ7_copyOfRange_feecc_12 rfl rfl ?_
  refine hp_csr (As := [va_rf l0, .int l1, .int l2]) (st := []) B.1 (mC_J7_copyOfRangeInt_feecc B.2.1 l0 l1 l2) cc_J7_copyOfRangeInt_feecc cl_J7_351 cs_J7_copyOfRangeInt_feecc ci_J7 cd_J7_copyOfRangeInt_feecc (by decide) rfl (Nat.le_of_ble_eq_true rfl) dJ7_copyOfRange_feecc_13 (fun r1 => ?_)
  exact s_aret B.1.1 B.2.2.2.2 (Or.inr ⟨_, rfl⟩) dJ7_copyOfRange_feecc_16
def C_J7_copyOfRange_feecc (l0 : Option Nat) (l1 : Int32) (l2 : Int32) : Hp → Option ((Option Nat) × Hp) :=
  if l1 = 0 then (
    hLn 0 l0 fun v2 =>
    if l2 = v2 then (
      no
    ) else (
      C_J7_copyOfRange_feecc_J10 l0 l1 l2
    )
  ) else (
    C_J7_copyOfRange_feecc_J10 l0 l1 l2
  )
set_option maxRecDepth 10000 in
theorem mo_C_J7_copyOfRange_feecc (l0 : Option Nat) (l1 : Int32) (l2 : Int32) : Mo (C_J7_copyOfRange_feecc l0 l1 l2) := by
  unfold C_J7_copyOfRange_feecc
  repeat' (with_reducible first | assumption | exact mo_rt _ | exact mo_zt _ | exact mo_no | apply mo_C_J7_copyOfRange_feecc_J10 | refine mo_ite ?_ ?_ | refine mo_hgI (fun _ => ?_) | refine mo_hgR (fun _ => ?_) | refine mo_hCv (fun _ => ?_) (fun _ => ?_) | refine mo_lq (fun _ => ?_) | refine mo_hpI ?_ | refine mo_hpR ?_ | refine mo_hAi (fun _ => ?_) | refine mo_hAr (fun _ => ?_) | refine mo_hWi ?_ | refine mo_hWr ?_ | refine mo_hLn (fun _ => ?_) | refine mo_hgL (fun _ => ?_) | refine mo_hpL ?_ | refine mo_hpZ ?_ | refine mo_bd ?_ (fun _ => ?_) | refine mo_hCi (fun _ => ?_) (fun _ => ?_) | refine mo_hNw (fun _ => ?_) | refine mo_hNa (fun _ => ?_) | refine mo_hCp ?_ | refine mo_hOi ?_ | refine mo_hAl (fun _ => ?_) | refine mo_hWl ?_ | refine mo_gd ?_ | refine mo_sLn (fun _ => ?_) | refine mo_sAt (fun _ => ?_) | refine mo_kLn (fun _ => ?_) | refine mo_kAt (fun _ => ?_))
set_option maxRecDepth 10000 in
theorem mC_J7_copyOfRange_feecc {w : Wd} (hw : Wc w) (l0 : Option Nat) (l1 : Int32) (l2 : Int32) : MH w yJ7_copyOfRange_feecc cJ7_copyOfRange_feecc 3 (some (.array .int)) 2 64 voR [va_rf l0, .int l1, .int l2] (C_J7_copyOfRange_feecc l0 l1 l2) := by
  have M0 : ∀ g : Gm Hp (Option Nat), g.1 = w → Bx g cJ7_copyOfRange_feecc 3 RJ7 voR (some (.array .int)) 2 64 "copyOfRange" → Sm g 3 0 (lv_args 0 [va_rf l0, .int l1, .int l2]) [] (C_J7_copyOfRange_feecc l0 l1 l2) := by
    intro g hg B
    subst hg
    unfold C_J7_copyOfRange_feecc
    refine W_lva (lv := [(0, va_rf l0), (1, .int l1), (2, .int l2)]) (by simp [lv_args, va_rf_cat, cat_i, cat_l, cat_r]) ?_
    refine s_iload_n B.1.1 1 dJ7_copyOfRange_feecc_0 rfl rfl ?_
    refine s_if_ne B.1.1 10 dJ7_copyOfRange_feecc_1 (by decide) ?_ ?_
    · exact Sm.lvs [0, 1, 2] rfl (sc_J7_copyOfRange_feecc_J10 B l0 l1 l2)
    · refine s_iload_n B.1.1 2 dJ7_copyOfRange_feecc_4 rfl rfl ?_
      refine s_rload_n B.1.1 0 dJ7_copyOfRange_feecc_5 rfl rfl ?_
      refine hp_Ln B.1 0 (fun _ => rfl) dJ7_copyOfRange_feecc_6 (fun v2 => ?_)
      refine s_icmp_eq B.1.1 17 dJ7_copyOfRange_feecc_7 (by decide) ?_ ?_
      · exact Sm.fail
      · exact Sm.lvs [0, 1, 2] rfl (sc_J7_copyOfRange_feecc_J10 B l0 l1 l2)
  exact MH.of hw ⟨rfl, rfl⟩ (by decide) (by simp [lg_sl, va_rf_cat, cat_i, cat_l, cat_r]) (mo_C_J7_copyOfRange_feecc l0 l1 l2) M0
def C_X7_isUtf8_J195 (l0 : Nat) (l1 : Int32) : Hp → Option (Int32 × Hp) :=
  if l1 = 0 then (
    zt ((1 : Int32))
  ) else (
    zt ((0 : Int32))
  )
set_option maxRecDepth 10000 in
theorem mo_C_X7_isUtf8_J195 (l0 : Nat) (l1 : Int32) : Mo (C_X7_isUtf8_J195 l0 l1) := by
  unfold C_X7_isUtf8_J195
  repeat' (with_reducible first | assumption | exact mo_rt _ | exact mo_zt _ | exact mo_no | refine mo_ite ?_ ?_ | refine mo_hgI (fun _ => ?_) | refine mo_hgR (fun _ => ?_) | refine mo_hCv (fun _ => ?_) (fun _ => ?_) | refine mo_lq (fun _ => ?_) | refine mo_hpI ?_ | refine mo_hpR ?_ | refine mo_hAi (fun _ => ?_) | refine mo_hAr (fun _ => ?_) | refine mo_hWi ?_ | refine mo_hWr ?_ | refine mo_hLn (fun _ => ?_) | refine mo_hgL (fun _ => ?_) | refine mo_hpL ?_ | refine mo_hpZ ?_ | refine mo_bd ?_ (fun _ => ?_) | refine mo_hCi (fun _ => ?_) (fun _ => ?_) | refine mo_hNw (fun _ => ?_) | refine mo_hNa (fun _ => ?_) | refine mo_hCp ?_ | refine mo_hOi ?_ | refine mo_hAl (fun _ => ?_) | refine mo_hWl ?_ | refine mo_gd ?_ | refine mo_sLn (fun _ => ?_) | refine mo_sAt (fun _ => ?_) | refine mo_kLn (fun _ => ?_) | refine mo_kAt (fun _ => ?_))
set_option maxRecDepth 10000 in
theorem sc_X7_isUtf8_J195 {g : Gm Hp Int32} (B : Bx g cX7_isUtf8 6 RX7 voI (some .boolean) 0 0 "isUtf8") {l0 : Nat} (l1 : Int32) : Sm g 6 195 [(1, .int l1)] [] (C_X7_isUtf8_J195 l0 l1) := by
  unfold C_X7_isUtf8_J195
  refine s_iload_n B.1.1 0 dX7_isUtf8_195 rfl rfl ?_
  refine s_if_ne B.1.1 203 dX7_isUtf8_196 (by decide) ?_ ?_
  · refine s_iconst (v := 0) B.1.1 dX7_isUtf8_203 (by decide) ?_
    exact s_zret B.1.1 B.2.2.2.2 dX7_isUtf8_204
  · refine s_iconst (v := 1) B.1.1 dX7_isUtf8_199 (by decide) ?_
    refine s_goto B.1.1 204 dX7_isUtf8_200 (by decide) ?_
    exact s_zret B.1.1 B.2.2.2.2 dX7_isUtf8_204
def C_X7_isUtf8_J89 (l0 : Nat) : Hp → Option (Int32 × Hp) :=
  zt ((0 : Int32))
set_option maxRecDepth 10000 in
theorem mo_C_X7_isUtf8_J89 (l0 : Nat) : Mo (C_X7_isUtf8_J89 l0) := by
  unfold C_X7_isUtf8_J89
  repeat' (with_reducible first | assumption | exact mo_rt _ | exact mo_zt _ | exact mo_no | refine mo_ite ?_ ?_ | refine mo_hgI (fun _ => ?_) | refine mo_hgR (fun _ => ?_) | refine mo_hCv (fun _ => ?_) (fun _ => ?_) | refine mo_lq (fun _ => ?_) | refine mo_hpI ?_ | refine mo_hpR ?_ | refine mo_hAi (fun _ => ?_) | refine mo_hAr (fun _ => ?_) | refine mo_hWi ?_ | refine mo_hWr ?_ | refine mo_hLn (fun _ => ?_) | refine mo_hgL (fun _ => ?_) | refine mo_hpL ?_ | refine mo_hpZ ?_ | refine mo_bd ?_ (fun _ => ?_) | refine mo_hCi (fun _ => ?_) (fun _ => ?_) | refine mo_hNw (fun _ => ?_) | refine mo_hNa (fun _ => ?_) | refine mo_hCp ?_ | refine mo_hOi ?_ | refine mo_hAl (fun _ => ?_) | refine mo_hWl ?_ | refine mo_gd ?_ | refine mo_sLn (fun _ => ?_) | refine mo_sAt (fun _ => ?_) | refine mo_kLn (fun _ => ?_) | refine mo_kAt (fun _ => ?_))
set_option maxRecDepth 10000 in
theorem sc_X7_isUtf8_J89 {g : Gm Hp Int32} (B : Bx g cX7_isUtf8 6 RX7 voI (some .boolean) 0 0 "isUtf8") {l0 : Nat} : Sm g 6 89 [] [] (C_X7_isUtf8_J89 l0) := by
  unfold C_X7_isUtf8_J89
  refine s_iconst (v := 0) B.1.1 dX7_isUtf8_89 (by decide) ?_
  exact s_zret B.1.1 B.2.2.2.2 dX7_isUtf8_90
def C_X7_isUtf8_J44 (l0 : Nat) : Hp → Option (Int32 × Hp) :=
  zt ((0 : Int32))
set_option maxRecDepth 10000 in
theorem mo_C_X7_isUtf8_J44 (l0 : Nat) : Mo (C_X7_isUtf8_J44 l0) := by
  unfold C_X7_isUtf8_J44
  repeat' (with_reducible first | assumption | exact mo_rt _ | exact mo_zt _ | exact mo_no | refine mo_ite ?_ ?_ | refine mo_hgI (fun _ => ?_) | refine mo_hgR (fun _ => ?_) | refine mo_hCv (fun _ => ?_) (fun _ => ?_) | refine mo_lq (fun _ => ?_) | refine mo_hpI ?_ | refine mo_hpR ?_ | refine mo_hAi (fun _ => ?_) | refine mo_hAr (fun _ => ?_) | refine mo_hWi ?_ | refine mo_hWr ?_ | refine mo_hLn (fun _ => ?_) | refine mo_hgL (fun _ => ?_) | refine mo_hpL ?_ | refine mo_hpZ ?_ | refine mo_bd ?_ (fun _ => ?_) | refine mo_hCi (fun _ => ?_) (fun _ => ?_) | refine mo_hNw (fun _ => ?_) | refine mo_hNa (fun _ => ?_) | refine mo_hCp ?_ | refine mo_hOi ?_ | refine mo_hAl (fun _ => ?_) | refine mo_hWl ?_ | refine mo_gd ?_ | refine mo_sLn (fun _ => ?_) | refine mo_sAt (fun _ => ?_) | refine mo_kLn (fun _ => ?_) | refine mo_kAt (fun _ => ?_))
set_option maxRecDepth 10000 in
theorem sc_X7_isUtf8_J44 {g : Gm Hp Int32} (B : Bx g cX7_isUtf8 6 RX7 voI (some .boolean) 0 0 "isUtf8") {l0 : Nat} : Sm g 6 44 [] [] (C_X7_isUtf8_J44 l0) := by
  unfold C_X7_isUtf8_J44
  refine s_iconst (v := 0) B.1.1 dX7_isUtf8_44 (by decide) ?_
  exact s_zret B.1.1 B.2.2.2.2 dX7_isUtf8_45
def C_X7_isUtf8_J188 (l0 : Nat) (kb : Int32 → Int32 → Int32 → Int32 → Hp → Option (Int32 × Hp)) (ke44 : Hp → Option (Int32 × Hp)) (ke89 : Hp → Option (Int32 × Hp)) (ke195 : Int32 → Hp → Option (Int32 × Hp)) (l1 : Int32) (l2 : Int32) (l4 : Int32) (s0 : Int32) : Hp → Option (Int32 × Hp) :=
  kb l1 l2 s0 (l4 + 1)
set_option maxRecDepth 10000 in
theorem mo_C_X7_isUtf8_J188 (l0 : Nat) (kb : Int32 → Int32 → Int32 → Int32 → Hp → Option (Int32 × Hp)) (ke44 : Hp → Option (Int32 × Hp)) (ke89 : Hp → Option (Int32 × Hp)) (ke195 : Int32 → Hp → Option (Int32 × Hp)) (hkb : ∀ (l1 : Int32) (l2 : Int32) (l3 : Int32) (l4 : Int32), Mo (kb l1 l2 l3 l4)) (hke44 : Mo (ke44)) (hke89 : Mo (ke89)) (hke195 : ∀ (l1 : Int32), Mo (ke195 l1)) (l1 : Int32) (l2 : Int32) (l4 : Int32) (s0 : Int32) : Mo (C_X7_isUtf8_J188 l0 kb ke44 ke89 ke195 l1 l2 l4 s0) := by
  unfold C_X7_isUtf8_J188
  repeat' (with_reducible first | assumption | exact mo_rt _ | exact mo_zt _ | exact mo_no | apply hkb | apply hke44 | apply hke89 | apply hke195 | refine mo_ite ?_ ?_ | refine mo_hgI (fun _ => ?_) | refine mo_hgR (fun _ => ?_) | refine mo_hCv (fun _ => ?_) (fun _ => ?_) | refine mo_lq (fun _ => ?_) | refine mo_hpI ?_ | refine mo_hpR ?_ | refine mo_hAi (fun _ => ?_) | refine mo_hAr (fun _ => ?_) | refine mo_hWi ?_ | refine mo_hWr ?_ | refine mo_hLn (fun _ => ?_) | refine mo_hgL (fun _ => ?_) | refine mo_hpL ?_ | refine mo_hpZ ?_ | refine mo_bd ?_ (fun _ => ?_) | refine mo_hCi (fun _ => ?_) (fun _ => ?_) | refine mo_hNw (fun _ => ?_) | refine mo_hNa (fun _ => ?_) | refine mo_hCp ?_ | refine mo_hOi ?_ | refine mo_hAl (fun _ => ?_) | refine mo_hWl ?_ | refine mo_gd ?_ | refine mo_sLn (fun _ => ?_) | refine mo_sAt (fun _ => ?_) | refine mo_kLn (fun _ => ?_) | refine mo_kAt (fun _ => ?_))
set_option maxRecDepth 10000 in
theorem sc_X7_isUtf8_J188 {g : Gm Hp Int32} {kb : Int32 → Int32 → Int32 → Int32 → Hp → Option (Int32 × Hp)} {ke44 : Hp → Option (Int32 × Hp)} {ke89 : Hp → Option (Int32 × Hp)} {ke195 : Int32 → Hp → Option (Int32 × Hp)} (B : Bx g cX7_isUtf8 6 RX7 voI (some .boolean) 0 0 "isUtf8") {l0 : Nat} (hkb : ∀ (l1 : Int32) (l2 : Int32) (l3 : Int32) (l4 : Int32), Sm g 6 9 [(0, va_rf (some l0)), (1, .int l1), (2, .int l2), (3, .int l3), (4, .int l4)] [] (kb l1 l2 l3 l4)) (hke44 : Sm g 6 44 [] [] (ke44)) (hke89 : Sm g 6 89 [] [] (ke89)) (hke195 : ∀ (l1 : Int32), Sm g 6 195 [(1, .int l1)] [] (ke195 l1)) (l1 : Int32) (l2 : Int32) (l4 : Int32) (s0 : Int32) : Sm g 6 188 [(0, va_rf (some l0)), (1, .int l1), (2, .int l2), (4, .int l4)] [.int s0] (C_X7_isUtf8_J188 l0 kb ke44 ke89 ke195 l1 l2 l4 s0) := by
  unfold C_X7_isUtf8_J188
  refine s_istore_n (i := 3) (lv' := [(3, .int s0), (0, va_rf (some l0)), (1, .int l1), (2, .int l2), (4, .int l4)]) B.1.1 dX7_isUtf8_188 rfl (by decide) rfl ?_
  refine s_iinc (v := l4 + 1) (lv' := [(4, .int (l4 + 1)), (3, .int s0), (0, va_rf (some l0)), (1, .int l1), (2, .int l2)]) B.1.1 4 dX7_isUtf8_189 rfl rfl (by decide) rfl ?_
  refine s_goto B.1.1 9 dX7_isUtf8_192 (by decide) ?_
  exact Sm.lvs [2, 3, 4, 1, 0] rfl (hkb l1 l2 s0 (l4 + 1))
def C_X7_isUtf8_J156 (l0 : Nat) (kb : Int32 → Int32 → Int32 → Int32 → Hp → Option (Int32 × Hp)) (ke44 : Hp → Option (Int32 × Hp)) (ke89 : Hp → Option (Int32 × Hp)) (ke195 : Int32 → Hp → Option (Int32 × Hp)) (l1 : Int32) (l4 : Int32) (l5 : Int32) (s0 : Int32) : Hp → Option (Int32 × Hp) :=
  if l5 = (237 : Int32) then (
    C_X7_isUtf8_J188 l0 kb ke44 ke89 ke195 l1 s0 l4 (159 : Int32)
  ) else (
    if l5 = (244 : Int32) then (
      C_X7_isUtf8_J188 l0 kb ke44 ke89 ke195 l1 s0 l4 (143 : Int32)
    ) else (
      C_X7_isUtf8_J188 l0 kb ke44 ke89 ke195 l1 s0 l4 (191 : Int32)
    )
  )
set_option maxRecDepth 10000 in
theorem mo_C_X7_isUtf8_J156 (l0 : Nat) (kb : Int32 → Int32 → Int32 → Int32 → Hp → Option (Int32 × Hp)) (ke44 : Hp → Option (Int32 × Hp)) (ke89 : Hp → Option (Int32 × Hp)) (ke195 : Int32 → Hp → Option (Int32 × Hp)) (hkb : ∀ (l1 : Int32) (l2 : Int32) (l3 : Int32) (l4 : Int32), Mo (kb l1 l2 l3 l4)) (hke44 : Mo (ke44)) (hke89 : Mo (ke89)) (hke195 : ∀ (l1 : Int32), Mo (ke195 l1)) (l1 : Int32) (l4 : Int32) (l5 : Int32) (s0 : Int32) : Mo (C_X7_isUtf8_J156 l0 kb ke44 ke89 ke195 l1 l4 l5 s0) := by
  unfold C_X7_isUtf8_J156
  repeat' (with_reducible first | assumption | exact mo_rt _ | exact mo_zt _ | exact mo_no | apply mo_C_X7_isUtf8_J188 | apply hkb | apply hke44 | apply hke89 | apply hke195 | refine mo_ite ?_ ?_ | refine mo_hgI (fun _ => ?_) | refine mo_hgR (fun _ => ?_) | refine mo_hCv (fun _ => ?_) (fun _ => ?_) | refine mo_lq (fun _ => ?_) | refine mo_hpI ?_ | refine mo_hpR ?_ | refine mo_hAi (fun _ => ?_) | refine mo_hAr (fun _ => ?_) | refine mo_hWi ?_ | refine mo_hWr ?_ | refine mo_hLn (fun _ => ?_) | refine mo_hgL (fun _ => ?_) | refine mo_hpL ?_ | refine mo_hpZ ?_ | refine mo_bd ?_ (fun _ => ?_) | refine mo_hCi (fun _ => ?_) (fun _ => ?_) | refine mo_hNw (fun _ => ?_) | refine mo_hNa (fun _ => ?_) | refine mo_hCp ?_ | refine mo_hOi ?_ | refine mo_hAl (fun _ => ?_) | refine mo_hWl ?_ | refine mo_gd ?_ | refine mo_sLn (fun _ => ?_) | refine mo_sAt (fun _ => ?_) | refine mo_kLn (fun _ => ?_) | refine mo_kAt (fun _ => ?_))
set_option maxRecDepth 10000 in
theorem sc_X7_isUtf8_J156 {g : Gm Hp Int32} {kb : Int32 → Int32 → Int32 → Int32 → Hp → Option (Int32 × Hp)} {ke44 : Hp → Option (Int32 × Hp)} {ke89 : Hp → Option (Int32 × Hp)} {ke195 : Int32 → Hp → Option (Int32 × Hp)} (B : Bx g cX7_isUtf8 6 RX7 voI (some .boolean) 0 0 "isUtf8") {l0 : Nat} (hkb : ∀ (l1 : Int32) (l2 : Int32) (l3 : Int32) (l4 : Int32), Sm g 6 9 [(0, va_rf (some l0)), (1, .int l1), (2, .int l2), (3, .int l3), (4, .int l4)] [] (kb l1 l2 l3 l4)) (hke44 : Sm g 6 44 [] [] (ke44)) (hke89 : Sm g 6 89 [] [] (ke89)) (hke195 : ∀ (l1 : Int32), Sm g 6 195 [(1, .int l1)] [] (ke195 l1)) (l1 : Int32) (l4 : Int32) (l5 : Int32) (s0 : Int32) : Sm g 6 156 [(0, va_rf (some l0)), (1, .int l1), (4, .int l4), (5, .int l5)] [.int s0] (C_X7_isUtf8_J156 l0 kb ke44 ke89 ke195 l1 l4 l5 s0) := by
  unfold C_X7_isUtf8_J156
  refine s_istore_n (i := 2) (lv' := [(2, .int s0), (0, va_rf (some l0)), (1, .int l1), (4, .int l4), (5, .int l5)]) B.1.1 dX7_isUtf8_156 rfl (by decide) rfl ?_
  refine s_iload B.1.1 4 dX7_isUtf8_157 rfl ?_
  refine s_sipush (v := (237)) B.1.1 dX7_isUtf8_159 (by decide) ?_
  refine s_icmp_ne B.1.1 171 dX7_isUtf8_162 (by decide) ?_ ?_
  · refine s_iload B.1.1 4 dX7_isUtf8_171 rfl ?_
    refine s_sipush (v := (244)) B.1.1 dX7_isUtf8_173 (by decide) ?_
    refine s_icmp_ne B.1.1 185 dX7_isUtf8_176 (by decide) ?_ ?_
    · refine s_sipush (v := (191)) B.1.1 dX7_isUtf8_185 (by decide) ?_
      exact Sm.lvs [1, 2, 0, 3] rfl (sc_X7_isUtf8_J188 B hkb hke44 hke89 hke195 l1 s0 l4 (191 : Int32))
    · refine s_sipush (v := (143)) B.1.1 dX7_isUtf8_179 (by decide) ?_
      refine s_goto B.1.1 188 dX7_isUtf8_182 (by decide) ?_
      exact Sm.lvs [1, 2, 0, 3] rfl (sc_X7_isUtf8_J188 B hkb hke44 hke89 hke195 l1 s0 l4 (143 : Int32))
  · refine s_sipush (v := (159)) B.1.1 dX7_isUtf8_165 (by decide) ?_
    refine s_goto B.1.1 188 dX7_isUtf8_168 (by decide) ?_
    exact Sm.lvs [1, 2, 0, 3] rfl (sc_X7_isUtf8_J188 B hkb hke44 hke89 hke195 l1 s0 l4 (159 : Int32))
def C_X7_isUtf8_J124 (l0 : Nat) (kb : Int32 → Int32 → Int32 → Int32 → Hp → Option (Int32 × Hp)) (ke44 : Hp → Option (Int32 × Hp)) (ke89 : Hp → Option (Int32 × Hp)) (ke195 : Int32 → Hp → Option (Int32 × Hp)) (l4 : Int32) (l5 : Int32) (s0 : Int32) : Hp → Option (Int32 × Hp) :=
  if l5 = (224 : Int32) then (
    C_X7_isUtf8_J156 l0 kb ke44 ke89 ke195 s0 l4 l5 (160 : Int32)
  ) else (
    if l5 = (240 : Int32) then (
      C_X7_isUtf8_J156 l0 kb ke44 ke89 ke195 s0 l4 l5 (144 : Int32)
    ) else (
      C_X7_isUtf8_J156 l0 kb ke44 ke89 ke195 s0 l4 l5 (128 : Int32)
    )
  )
set_option maxRecDepth 10000 in
theorem mo_C_X7_isUtf8_J124 (l0 : Nat) (kb : Int32 → Int32 → Int32 → Int32 → Hp → Option (Int32 × Hp)) (ke44 : Hp → Option (Int32 × Hp)) (ke89 : Hp → Option (Int32 × Hp)) (ke195 : Int32 → Hp → Option (Int32 × Hp)) (hkb : ∀ (l1 : Int32) (l2 : Int32) (l3 : Int32) (l4 : Int32), Mo (kb l1 l2 l3 l4)) (hke44 : Mo (ke44)) (hke89 : Mo (ke89)) (hke195 : ∀ (l1 : Int32), Mo (ke195 l1)) (l4 : Int32) (l5 : Int32) (s0 : Int32) : Mo (C_X7_isUtf8_J124 l0 kb ke44 ke89 ke195 l4 l5 s0) := by
  unfold C_X7_isUtf8_J124
  repeat' (with_reducible first | assumption | exact mo_rt _ | exact mo_zt _ | exact mo_no | apply mo_C_X7_isUtf8_J156 | apply hkb | apply hke44 | apply hke89 | apply hke195 | refine mo_ite ?_ ?_ | refine mo_hgI (fun _ => ?_) | refine mo_hgR (fun _ => ?_) | refine mo_hCv (fun _ => ?_) (fun _ => ?_) | refine mo_lq (fun _ => ?_) | refine mo_hpI ?_ | refine mo_hpR ?_ | refine mo_hAi (fun _ => ?_) | refine mo_hAr (fun _ => ?_) | refine mo_hWi ?_ | refine mo_hWr ?_ | refine mo_hLn (fun _ => ?_) | refine mo_hgL (fun _ => ?_) | refine mo_hpL ?_ | refine mo_hpZ ?_ | refine mo_bd ?_ (fun _ => ?_) | refine mo_hCi (fun _ => ?_) (fun _ => ?_) | refine mo_hNw (fun _ => ?_) | refine mo_hNa (fun _ => ?_) | refine mo_hCp ?_ | refine mo_hOi ?_ | refine mo_hAl (fun _ => ?_) | refine mo_hWl ?_ | refine mo_gd ?_ | refine mo_sLn (fun _ => ?_) | refine mo_sAt (fun _ => ?_) | refine mo_kLn (fun _ => ?_) | refine mo_kAt (fun _ => ?_))
set_option maxRecDepth 10000 in
theorem sc_X7_isUtf8_J124 {g : Gm Hp Int32} {kb : Int32 → Int32 → Int32 → Int32 → Hp → Option (Int32 × Hp)} {ke44 : Hp → Option (Int32 × Hp)} {ke89 : Hp → Option (Int32 × Hp)} {ke195 : Int32 → Hp → Option (Int32 × Hp)} (B : Bx g cX7_isUtf8 6 RX7 voI (some .boolean) 0 0 "isUtf8") {l0 : Nat} (hkb : ∀ (l1 : Int32) (l2 : Int32) (l3 : Int32) (l4 : Int32), Sm g 6 9 [(0, va_rf (some l0)), (1, .int l1), (2, .int l2), (3, .int l3), (4, .int l4)] [] (kb l1 l2 l3 l4)) (hke44 : Sm g 6 44 [] [] (ke44)) (hke89 : Sm g 6 89 [] [] (ke89)) (hke195 : ∀ (l1 : Int32), Sm g 6 195 [(1, .int l1)] [] (ke195 l1)) (l4 : Int32) (l5 : Int32) (s0 : Int32) : Sm g 6 124 [(0, va_rf (some l0)), (4, .int l4), (5, .int l5)] [.int s0] (C_X7_isUtf8_J124 l0 kb ke44 ke89 ke195 l4 l5 s0) := by
  unfold C_X7_isUtf8_J124
  refine s_istore_n (i := 1) (lv' := [(1, .int s0), (0, va_rf (some l0)), (4, .int l4), (5, .int l5)]) B.1.1 dX7_isUtf8_124 rfl (by decide) rfl ?_
  refine s_iload B.1.1 3 dX7_isUtf8_125 rfl ?_
  refine s_sipush (v := (224)) B.1.1 dX7_isUtf8_127 (by decide) ?_
  refine s_icmp_ne B.1.1 139 dX7_isUtf8_130 (by decide) ?_ ?_
  · refine s_iload B.1.1 3 dX7_isUtf8_139 rfl ?_
    refine s_sipush (v := (240)) B.1.1 dX7_isUtf8_141 (by decide) ?_
    refine s_icmp_ne B.1.1 153 dX7_isUtf8_144 (by decide) ?_ ?_
    · refine s_sipush (v := (128)) B.1.1 dX7_isUtf8_153 (by decide) ?_
      exact Sm.lvs [1, 0, 2, 3] rfl (sc_X7_isUtf8_J156 B hkb hke44 hke89 hke195 s0 l4 l5 (128 : Int32))
    · refine s_sipush (v := (144)) B.1.1 dX7_isUtf8_147 (by decide) ?_
      refine s_goto B.1.1 156 dX7_isUtf8_150 (by decide) ?_
      exact Sm.lvs [1, 0, 2, 3] rfl (sc_X7_isUtf8_J156 B hkb hke44 hke89 hke195 s0 l4 l5 (144 : Int32))
  · refine s_sipush (v := (160)) B.1.1 dX7_isUtf8_133 (by decide) ?_
    refine s_goto B.1.1 156 dX7_isUtf8_136 (by decide) ?_
    exact Sm.lvs [1, 0, 2, 3] rfl (sc_X7_isUtf8_J156 B hkb hke44 hke89 hke195 s0 l4 l5 (160 : Int32))
def C_X7_isUtf8_J81 (l0 : Nat) (kb : Int32 → Int32 → Int32 → Int32 → Hp → Option (Int32 × Hp)) (ke44 : Hp → Option (Int32 × Hp)) (ke89 : Hp → Option (Int32 × Hp)) (ke195 : Int32 → Hp → Option (Int32 × Hp)) (l1 : Int32) (l2 : Int32) (l3 : Int32) (l4 : Int32) (l5 : Int32) : Hp → Option (Int32 × Hp) :=
  if l5 ≤ (244 : Int32) then (
    if l5 < (128 : Int32) then (
      kb l1 l2 l3 (l4 + 1)
    ) else (
      if (224 : Int32) ≤ l5 then (
        if (240 : Int32) ≤ l5 then (
          C_X7_isUtf8_J124 l0 kb ke44 ke89 ke195 l4 l5 (3 : Int32)
        ) else (
          C_X7_isUtf8_J124 l0 kb ke44 ke89 ke195 l4 l5 (2 : Int32)
        )
      ) else (
        C_X7_isUtf8_J124 l0 kb ke44 ke89 ke195 l4 l5 (1 : Int32)
      )
    )
  ) else (
    ke89
  )
set_option maxRecDepth 10000 in
theorem mo_C_X7_isUtf8_J81 (l0 : Nat) (kb : Int32 → Int32 → Int32 → Int32 → Hp → Option (Int32 × Hp)) (ke44 : Hp → Option (Int32 × Hp)) (ke89 : Hp → Option (Int32 × Hp)) (ke195 : Int32 → Hp → Option (Int32 × Hp)) (hkb : ∀ (l1 : Int32) (l2 : Int32) (l3 : Int32) (l4 : Int32), Mo (kb l1 l2 l3 l4)) (hke44 : Mo (ke44)) (hke89 : Mo (ke89)) (hke195 : ∀ (l1 : Int32), Mo (ke195 l1)) (l1 : Int32) (l2 : Int32) (l3 : Int32) (l4 : Int32) (l5 : Int32) : Mo (C_X7_isUtf8_J81 l0 kb ke44 ke89 ke195 l1 l2 l3 l4 l5) := by
  unfold C_X7_isUtf8_J81
  repeat' (with_reducible first | assumption | exact mo_rt _ | exact mo_zt _ | exact mo_no | apply mo_C_X7_isUtf8_J124 | apply hkb | apply hke44 | apply hke89 | apply hke195 | refine mo_ite ?_ ?_ | refine mo_hgI (fun _ => ?_) | refine mo_hgR (fun _ => ?_) | refine mo_hCv (fun _ => ?_) (fun _ => ?_) | refine mo_lq (fun _ => ?_) | refine mo_hpI ?_ | refine mo_hpR ?_ | refine mo_hAi (fun _ => ?_) | refine mo_hAr (fun _ => ?_) | refine mo_hWi ?_ | refine mo_hWr ?_ | refine mo_hLn (fun _ => ?_) | refine mo_hgL (fun _ => ?_) | refine mo_hpL ?_ | refine mo_hpZ ?_ | refine mo_bd ?_ (fun _ => ?_) | refine mo_hCi (fun _ => ?_) (fun _ => ?_) | refine mo_hNw (fun _ => ?_) | refine mo_hNa (fun _ => ?_) | refine mo_hCp ?_ | refine mo_hOi ?_ | refine mo_hAl (fun _ => ?_) | refine mo_hWl ?_ | refine mo_gd ?_ | refine mo_sLn (fun _ => ?_) | refine mo_sAt (fun _ => ?_) | refine mo_kLn (fun _ => ?_) | refine mo_kAt (fun _ => ?_))
set_option maxRecDepth 10000 in
theorem sc_X7_isUtf8_J81 {g : Gm Hp Int32} {kb : Int32 → Int32 → Int32 → Int32 → Hp → Option (Int32 × Hp)} {ke44 : Hp → Option (Int32 × Hp)} {ke89 : Hp → Option (Int32 × Hp)} {ke195 : Int32 → Hp → Option (Int32 × Hp)} (B : Bx g cX7_isUtf8 6 RX7 voI (some .boolean) 0 0 "isUtf8") {l0 : Nat} (hkb : ∀ (l1 : Int32) (l2 : Int32) (l3 : Int32) (l4 : Int32), Sm g 6 9 [(0, va_rf (some l0)), (1, .int l1), (2, .int l2), (3, .int l3), (4, .int l4)] [] (kb l1 l2 l3 l4)) (hke44 : Sm g 6 44 [] [] (ke44)) (hke89 : Sm g 6 89 [] [] (ke89)) (hke195 : ∀ (l1 : Int32), Sm g 6 195 [(1, .int l1)] [] (ke195 l1)) (l1 : Int32) (l2 : Int32) (l3 : Int32) (l4 : Int32) (l5 : Int32) : Sm g 6 81 [(0, va_rf (some l0)), (1, .int l1), (2, .int l2), (3, .int l3), (4, .int l4), (5, .int l5)] [] (C_X7_isUtf8_J81 l0 kb ke44 ke89 ke195 l1 l2 l3 l4 l5) := by
  unfold C_X7_isUtf8_J81
  refine s_iload B.1.1 5 dX7_isUtf8_81 rfl ?_
  refine s_sipush (v := (244)) B.1.1 dX7_isUtf8_83 (by decide) ?_
  refine s_icmp_le B.1.1 91 dX7_isUtf8_86 (by decide) ?_ ?_
  · refine s_iload B.1.1 5 dX7_isUtf8_91 rfl ?_
    refine s_sipush (v := (128)) B.1.1 dX7_isUtf8_93 (by decide) ?_
    refine s_icmp_lt B.1.1 189 dX7_isUtf8_96 (by decide) ?_ ?_
    · refine s_iinc (v := l4 + 1) (lv' := [(4, .int (l4 + 1)), (0, va_rf (some l0)), (1, .int l1), (2, .int l2), (3, .int l3), (5, .int l5)]) B.1.1 4 dX7_isUtf8_189 rfl rfl (by decide) rfl ?_
      refine s_goto B.1.1 9 dX7_isUtf8_192 (by decide) ?_
      exact Sm.lvs [1, 2, 3, 4, 0] rfl (hkb l1 l2 l3 (l4 + 1))
    · refine s_iload B.1.1 5 dX7_isUtf8_99 rfl ?_
      refine s_sipush (v := (224)) B.1.1 dX7_isUtf8_101 (by decide) ?_
      refine s_icmp_ge B.1.1 111 dX7_isUtf8_104 (by decide) ?_ ?_
      · refine s_iload B.1.1 5 dX7_isUtf8_111 rfl ?_
        refine s_sipush (v := (240)) B.1.1 dX7_isUtf8_113 (by decide) ?_
        refine s_icmp_ge B.1.1 123 dX7_isUtf8_116 (by decide) ?_ ?_
        · refine s_iconst (v := 3) B.1.1 dX7_isUtf8_123 (by decide) ?_
          exact Sm.lvs [0, 4, 5] rfl (sc_X7_isUtf8_J124 B hkb hke44 hke89 hke195 l4 l5 (3 : Int32))
        · refine s_iconst (v := 2) B.1.1 dX7_isUtf8_119 (by decide) ?_
          refine s_goto B.1.1 124 dX7_isUtf8_120 (by decide) ?_
          exact Sm.lvs [0, 4, 5] rfl (sc_X7_isUtf8_J124 B hkb hke44 hke89 hke195 l4 l5 (2 : Int32))
      · refine s_iconst (v := 1) B.1.1 dX7_isUtf8_107 (by decide) ?_
        refine s_goto B.1.1 124 dX7_isUtf8_108 (by decide) ?_
        exact Sm.lvs [0, 4, 5] rfl (sc_X7_isUtf8_J124 B hkb hke44 hke89 hke195 l4 l5 (1 : Int32))
  · exact Sm.lvs [] rfl (hke89)
def C_X7_isUtf8_B9 (l0 : Nat) (kb : Int32 → Int32 → Int32 → Int32 → Hp → Option (Int32 × Hp)) (ke44 : Hp → Option (Int32 × Hp)) (ke89 : Hp → Option (Int32 × Hp)) (ke195 : Int32 → Hp → Option (Int32 × Hp)) (l1 : Int32) (l2 : Int32) (l3 : Int32) (l4 : Int32) : Hp → Option (Int32 × Hp) :=
  hgR 9 0 (some l0) fun v1 =>
  hLn 0 v1 fun v2 =>
  if v2 ≤ l4 then (
    ke195 l1
  ) else (
    hgR 9 0 (some l0) fun v3 =>
    hAi v3 l4 fun v4 =>
    if l1 ≤ 0 then (
      if v4 = 0 then (
        ke89
      ) else (
        if v4 < (128 : Int32) then (
          C_X7_isUtf8_J81 l0 kb ke44 ke89 ke195 l1 l2 l3 l4 v4
        ) else (
          if v4 < (194 : Int32) then (
            ke89
          ) else (
            C_X7_isUtf8_J81 l0 kb ke44 ke89 ke195 l1 l2 l3 l4 v4
          )
        )
      )
    ) else (
      if v4 < l2 then (
        ke44
      ) else (
        if v4 ≤ l3 then (
          kb (l1 + (-1)) (128 : Int32) (191 : Int32) (l4 + 1)
        ) else (
          ke44
        )
      )
    )
  )
def C_X7_isUtf8_L9 (l0 : Nat) (ke44 : Hp → Option (Int32 × Hp)) (ke89 : Hp → Option (Int32 × Hp)) (ke195 : Int32 → Hp → Option (Int32 × Hp)) : Nat → Int32 → Int32 → Int32 → Int32 → Hp → Option (Int32 × Hp)
  | 0, _, _, _, _ => no
  | n + 1, l1, l2, l3, l4 => C_X7_isUtf8_B9 l0 (fun l1 l2 l3 l4 => C_X7_isUtf8_L9 l0 ke44 ke89 ke195 n l1 l2 l3 l4) ke44 ke89 ke195 l1 l2 l3 l4
set_option maxRecDepth 10000 in
theorem mo_C_X7_isUtf8_B9 (l0 : Nat) (kb : Int32 → Int32 → Int32 → Int32 → Hp → Option (Int32 × Hp)) (ke44 : Hp → Option (Int32 × Hp)) (ke89 : Hp → Option (Int32 × Hp)) (ke195 : Int32 → Hp → Option (Int32 × Hp)) (hkb : ∀ (l1 : Int32) (l2 : Int32) (l3 : Int32) (l4 : Int32), Mo (kb l1 l2 l3 l4)) (hke44 : Mo (ke44)) (hke89 : Mo (ke89)) (hke195 : ∀ (l1 : Int32), Mo (ke195 l1)) (l1 : Int32) (l2 : Int32) (l3 : Int32) (l4 : Int32) : Mo (C_X7_isUtf8_B9 l0 kb ke44 ke89 ke195 l1 l2 l3 l4) := by
  unfold C_X7_isUtf8_B9
  repeat' (with_reducible first | assumption | exact mo_rt _ | exact mo_zt _ | exact mo_no | apply mo_C_X7_isUtf8_J81 | apply hkb | apply hke44 | apply hke89 | apply hke195 | refine mo_ite ?_ ?_ | refine mo_hgI (fun _ => ?_) | refine mo_hgR (fun _ => ?_) | refine mo_hCv (fun _ => ?_) (fun _ => ?_) | refine mo_lq (fun _ => ?_) | refine mo_hpI ?_ | refine mo_hpR ?_ | refine mo_hAi (fun _ => ?_) | refine mo_hAr (fun _ => ?_) | refine mo_hWi ?_ | refine mo_hWr ?_ | refine mo_hLn (fun _ => ?_) | refine mo_hgL (fun _ => ?_) | refine mo_hpL ?_ | refine mo_hpZ ?_ | refine mo_bd ?_ (fun _ => ?_) | refine mo_hCi (fun _ => ?_) (fun _ => ?_) | refine mo_hNw (fun _ => ?_) | refine mo_hNa (fun _ => ?_) | refine mo_hCp ?_ | refine mo_hOi ?_ | refine mo_hAl (fun _ => ?_) | refine mo_hWl ?_ | refine mo_gd ?_ | refine mo_sLn (fun _ => ?_) | refine mo_sAt (fun _ => ?_) | refine mo_kLn (fun _ => ?_) | refine mo_kAt (fun _ => ?_))
set_option maxRecDepth 10000 in
theorem mo_C_X7_isUtf8_L9 (l0 : Nat) (ke44 : Hp → Option (Int32 × Hp)) (ke89 : Hp → Option (Int32 × Hp)) (ke195 : Int32 → Hp → Option (Int32 × Hp)) (hke44 : Mo (ke44)) (hke89 : Mo (ke89)) (hke195 : ∀ (l1 : Int32), Mo (ke195 l1)) : ∀ (n : Nat) (l1 : Int32) (l2 : Int32) (l3 : Int32) (l4 : Int32), Mo (C_X7_isUtf8_L9 l0 ke44 ke89 ke195 n l1 l2 l3 l4)
  | 0, _, _, _, _ => mo_no
  | n + 1, l1, l2, l3, l4 => mo_C_X7_isUtf8_B9 l0 _ ke44 ke89 ke195 (mo_C_X7_isUtf8_L9 l0 ke44 ke89 ke195 hke44 hke89 hke195 n) hke44 hke89 hke195 l1 l2 l3 l4
set_option maxRecDepth 10000 in
theorem sc_X7_isUtf8_B9 {g : Gm Hp Int32} {kb : Int32 → Int32 → Int32 → Int32 → Hp → Option (Int32 × Hp)} {ke44 : Hp → Option (Int32 × Hp)} {ke89 : Hp → Option (Int32 × Hp)} {ke195 : Int32 → Hp → Option (Int32 × Hp)} (B : Bx g cX7_isUtf8 6 RX7 voI (some .boolean) 0 0 "isUtf8") {l0 : Nat} (hkb : ∀ (l1 : Int32) (l2 : Int32) (l3 : Int32) (l4 : Int32), Sm g 6 9 [(0, va_rf (some l0)), (1, .int l1), (2, .int l2), (3, .int l3), (4, .int l4)] [] (kb l1 l2 l3 l4)) (hke44 : Sm g 6 44 [] [] (ke44)) (hke89 : Sm g 6 89 [] [] (ke89)) (hke195 : ∀ (l1 : Int32), Sm g 6 195 [(1, .int l1)] [] (ke195 l1)) (l1 : Int32) (l2 : Int32) (l3 : Int32) (l4 : Int32) : Sm g 6 9 [(0, va_rf (some l0)), (1, .int l1), (2, .int l2), (3, .int l3), (4, .int l4)] [] (C_X7_isUtf8_B9 l0 kb ke44 ke89 ke195 l1 l2 l3 l4) := by
  unfold C_X7_isUtf8_B9
  refine s_iload B.1.1 4 dX7_isUtf8_9 rfl ?_
  refine s_rload_n B.1.1 0 dX7_isUtf8_11 rfl rfl ?_
  refine hp_getR B.1 9 0 rfl (by decide) inX7 (by decide) fk_X7_0 cf_X7_9 dX7_isUtf8_12 (fun v1 => ?_)
  refine hp_Ln B.1 0 (fun _ => rfl) dX7_isUtf8_15 (fun v2 => ?_)
  refine s_icmp_ge B.1.1 195 dX7_isUtf8_16 (by decide) ?_ ?_
  · exact Sm.lvs [1] rfl (hke195 l1)
  · refine s_rload_n B.1.1 0 dX7_isUtf8_19 rfl rfl ?_
    refine hp_getR B.1 9 0 rfl (by decide) inX7 (by decide) fk_X7_0 cf_X7_9 dX7_isUtf8_20 (fun v3 => ?_)
    refine s_iload B.1.1 4 dX7_isUtf8_23 rfl ?_
    refine hp_Ai B.1 dX7_isUtf8_25 (fun v4 => ?_)
    refine s_istore (i := 5) (lv' := [(5, .int v4), (0, va_rf (some l0)), (1, .int l1), (2, .int l2), (3, .int l3), (4, .int l4)]) B.1.1 dX7_isUtf8_26 (by decide) rfl ?_
    refine s_iload_n B.1.1 2 dX7_isUtf8_28 rfl rfl ?_
    refine s_if_le B.1.1 60 dX7_isUtf8_29 (by decide) ?_ ?_
    · refine s_iload B.1.1 0 dX7_isUtf8_60 rfl ?_
      refine s_if_eq B.1.1 89 dX7_isUtf8_62 (by decide) ?_ ?_
      · exact Sm.lvs [] rfl (hke89)
      · refine s_iload B.1.1 0 dX7_isUtf8_65 rfl ?_
        refine s_sipush (v := (128)) B.1.1 dX7_isUtf8_67 (by decide) ?_
        refine s_icmp_lt B.1.1 81 dX7_isUtf8_70 (by decide) ?_ ?_
        · exact Sm.lvs [1, 2, 3, 4, 5, 0] rfl (sc_X7_isUtf8_J81 B hkb hke44 hke89 hke195 l1 l2 l3 l4 v4)
        · refine s_iload B.1.1 0 dX7_isUtf8_73 rfl ?_
          refine s_sipush (v := (194)) B.1.1 dX7_isUtf8_75 (by decide) ?_
          refine s_icmp_lt B.1.1 89 dX7_isUtf8_78 (by decide) ?_ ?_
          · exact Sm.lvs [] rfl (hke89)
          · exact Sm.lvs [1, 2, 3, 4, 5, 0] rfl (sc_X7_isUtf8_J81 B hkb hke44 hke89 hke195 l1 l2 l3 l4 v4)
    · refine s_iload B.1.1 0 dX7_isUtf8_32 rfl ?_
      refine s_iload_n B.1.1 3 dX7_isUtf8_34 rfl rfl ?_
      refine s_icmp_lt B.1.1 44 dX7_isUtf8_35 (by decide) ?_ ?_
      · exact Sm.lvs [] rfl (hke44)
      · refine s_iload B.1.1 0 dX7_isUtf8_38 rfl ?_
        refine s_iload_n B.1.1 4 dX7_isUtf8_40 rfl rfl ?_
        refine s_icmp_le B.1.1 46 dX7_isUtf8_41 (by decide) ?_ ?_
        · refine s_iinc (v := l1 + (-1)) (lv' := [(1, .int (l1 + (-1))), (5, .int v4), (0, va_rf (some l0)), (2, .int l2), (3, .int l3), (4, .int l4)]) B.1.1 2 dX7_isUtf8_46 rfl rfl (by decide) rfl ?_
          refine s_sipush (v := (128)) B.1.1 dX7_isUtf8_49 (by decide) ?_
          refine s_istore_n (i := 2) (lv' := [(2, .int (128 : Int32)), (1, .int (l1 + (-1))), (5, .int v4), (0, va_rf (some l0)), (3, .int l3), (4, .int l4)]) B.1.1 dX7_isUtf8_52 rfl (by decide) rfl ?_
          refine s_sipush (v := (191)) B.1.1 dX7_isUtf8_53 (by decide) ?_
          refine s_istore_n (i := 3) (lv' := [(3, .int (191 : Int32)), (2, .int (128 : Int32)), (1, .int (l1 + (-1))), (5, .int v4), (0, va_rf (some l0)), (4, .int l4)]) B.1.1 dX7_isUtf8_56 rfl (by decide) rfl ?_
          refine s_goto B.1.1 189 dX7_isUtf8_57 (by decide) ?_
          refine s_iinc (v := l4 + 1) (lv' := [(4, .int (l4 + 1)), (3, .int (191 : Int32)), (2, .int (128 : Int32)), (1, .int (l1 + (-1))), (5, .int v4), (0, va_rf (some l0))]) B.1.1 5 dX7_isUtf8_189 rfl rfl (by decide) rfl ?_
          refine s_goto B.1.1 9 dX7_isUtf8_192 (by decide) ?_
          exact Sm.lvs [5, 3, 2, 1, 0] rfl (hkb (l1 + (-1)) (128 : Int32) (191 : Int32) (l4 + 1))
        · exact Sm.lvs [] rfl (hke44)
set_option maxRecDepth 10000 in
theorem sc_X7_isUtf8_L9 {g : Gm Hp Int32} {ke44 : Hp → Option (Int32 × Hp)} {ke89 : Hp → Option (Int32 × Hp)} {ke195 : Int32 → Hp → Option (Int32 × Hp)} (B : Bx g cX7_isUtf8 6 RX7 voI (some .boolean) 0 0 "isUtf8") {l0 : Nat} (hke44 : Sm g 6 44 [] [] (ke44)) (hke89 : Sm g 6 89 [] [] (ke89)) (hke195 : ∀ (l1 : Int32), Sm g 6 195 [(1, .int l1)] [] (ke195 l1)) : ∀ (n : Nat) (l1 : Int32) (l2 : Int32) (l3 : Int32) (l4 : Int32), Sm g 6 9 [(0, va_rf (some l0)), (1, .int l1), (2, .int l2), (3, .int l3), (4, .int l4)] [] (C_X7_isUtf8_L9 l0 ke44 ke89 ke195 n l1 l2 l3 l4)
  | 0, _, _, _, _ => Sm.fail
  | n + 1, l1, l2, l3, l4 => sc_X7_isUtf8_B9 B (sc_X7_isUtf8_L9 B hke44 hke89 hke195 n) hke44 hke89 hke195 l1 l2 l3 l4
def C_X7_isUtf8 (l0 : Nat) : Hp → Option (Int32 × Hp) :=
  C_X7_isUtf8_L9 l0 (C_X7_isUtf8_J44 l0) (C_X7_isUtf8_J89 l0) (fun l1 => C_X7_isUtf8_J195 l0 l1) fu (0 : Int32) (0 : Int32) (0 : Int32) (0 : Int32)
set_option maxRecDepth 10000 in
theorem mo_C_X7_isUtf8 (l0 : Nat) : Mo (C_X7_isUtf8 l0) := by
  unfold C_X7_isUtf8
  repeat' (with_reducible first | assumption | exact mo_rt _ | exact mo_zt _ | exact mo_no | apply mo_C_X7_isUtf8_L9 | apply mo_C_X7_isUtf8_J44 | apply mo_C_X7_isUtf8_J89 | apply mo_C_X7_isUtf8_J195 | refine mo_ite ?_ ?_ | refine mo_hgI (fun _ => ?_) | refine mo_hgR (fun _ => ?_) | refine mo_hCv (fun _ => ?_) (fun _ => ?_) | refine mo_lq (fun _ => ?_) | refine mo_hpI ?_ | refine mo_hpR ?_ | refine mo_hAi (fun _ => ?_) | refine mo_hAr (fun _ => ?_) | refine mo_hWi ?_ | refine mo_hWr ?_ | refine mo_hLn (fun _ => ?_) | refine mo_hgL (fun _ => ?_) | refine mo_hpL ?_ | refine mo_hpZ ?_ | refine mo_bd ?_ (fun _ => ?_) | refine mo_hCi (fun _ => ?_) (fun _ => ?_) | refine mo_hNw (fun _ => ?_) | refine mo_hNa (fun _ => ?_) | refine mo_hCp ?_ | refine mo_hOi ?_ | refine mo_hAl (fun _ => ?_) | refine mo_hWl ?_ | refine mo_gd ?_ | refine mo_sLn (fun _ => ?_) | refine mo_sAt (fun _ => ?_) | refine mo_kLn (fun _ => ?_) | refine mo_kAt (fun _ => ?_))
set_option maxRecDepth 10000 in
theorem mC_X7_isUtf8 {w : Wd} (hw : Wc w) (l0 : Nat) : MH w yX7_isUtf8 cX7_isUtf8 6 (some .boolean) 0 0 voI [va_rf (some l0)] (C_X7_isUtf8 l0) := by
  have M0 : ∀ g : Gm Hp Int32, g.1 = w → Bx g cX7_isUtf8 6 RX7 voI (some .boolean) 0 0 "isUtf8" → Sm g 6 0 (lv_args 0 [va_rf (some l0)]) [] (C_X7_isUtf8 l0) := by
    intro g hg B
    subst hg
    unfold C_X7_isUtf8
    refine W_lva (lv := [(0, va_rf (some l0))]) (by simp [lv_args, va_rf_cat, cat_i, cat_l, cat_r]) ?_
    refine s_iconst (v := 0) B.1.1 dX7_isUtf8_0 (by decide) ?_
    refine s_istore_n (i := 1) (lv' := [(1, .int (0 : Int32)), (0, va_rf (some l0))]) B.1.1 dX7_isUtf8_1 rfl (by decide) rfl ?_
    refine s_iconst (v := 0) B.1.1 dX7_isUtf8_2 (by decide) ?_
    refine s_istore_n (i := 2) (lv' := [(2, .int (0 : Int32)), (1, .int (0 : Int32)), (0, va_rf (some l0))]) B.1.1 dX7_isUtf8_3 rfl (by decide) rfl ?_
    refine s_iconst (v := 0) B.1.1 dX7_isUtf8_4 (by decide) ?_
    refine s_istore_n (i := 3) (lv' := [(3, .int (0 : Int32)), (2, .int (0 : Int32)), (1, .int (0 : Int32)), (0, va_rf (some l0))]) B.1.1 dX7_isUtf8_5 rfl (by decide) rfl ?_
    refine s_iconst (v := 0) B.1.1 dX7_isUtf8_6 (by decide) ?_
    refine s_istore (i := 4) (lv' := [(4, .int (0 : Int32)), (3, .int (0 : Int32)), (2, .int (0 : Int32)), (1, .int (0 : Int32)), (0, va_rf (some l0))]) B.1.1 dX7_isUtf8_7 (by decide) rfl ?_
    exact Sm.lvs [4, 3, 2, 1, 0] rfl (sc_X7_isUtf8_L9 B (sc_X7_isUtf8_J44 B) (sc_X7_isUtf8_J89 B) (fun l1 => sc_X7_isUtf8_J195 B l1) fu (0 : Int32) (0 : Int32) (0 : Int32) (0 : Int32))
  exact MH.of hw ⟨rfl, rfl⟩ (by decide) (by simp [lg_sl, va_rf_cat, cat_i, cat_l, cat_r]) (mo_C_X7_isUtf8 l0) M0
def C_X5_row_J119 (l0 : Nat) (l3 : Option Nat) : Hp → Option ((Option Nat) × Hp) :=
  rt (l3)
set_option maxRecDepth 10000 in
theorem mo_C_X5_row_J119 (l0 : Nat) (l3 : Option Nat) : Mo (C_X5_row_J119 l0 l3) := by
  unfold C_X5_row_J119
  repeat' (with_reducible first | assumption | exact mo_rt _ | exact mo_zt _ | exact mo_no | refine mo_ite ?_ ?_ | refine mo_hgI (fun _ => ?_) | refine mo_hgR (fun _ => ?_) | refine mo_hCv (fun _ => ?_) (fun _ => ?_) | refine mo_lq (fun _ => ?_) | refine mo_hpI ?_ | refine mo_hpR ?_ | refine mo_hAi (fun _ => ?_) | refine mo_hAr (fun _ => ?_) | refine mo_hWi ?_ | refine mo_hWr ?_ | refine mo_hLn (fun _ => ?_) | refine mo_hgL (fun _ => ?_) | refine mo_hpL ?_ | refine mo_hpZ ?_ | refine mo_bd ?_ (fun _ => ?_) | refine mo_hCi (fun _ => ?_) (fun _ => ?_) | refine mo_hNw (fun _ => ?_) | refine mo_hNa (fun _ => ?_) | refine mo_hCp ?_ | refine mo_hOi ?_ | refine mo_hAl (fun _ => ?_) | refine mo_hWl ?_ | refine mo_gd ?_ | refine mo_sLn (fun _ => ?_) | refine mo_sAt (fun _ => ?_) | refine mo_kLn (fun _ => ?_) | refine mo_kAt (fun _ => ?_))
set_option maxRecDepth 10000 in
theorem sc_X5_row_J119 {g : Gm Hp (Option Nat)} (B : Bx g cX5_row 4 RX5 voR (some (.object "TopicBroker$Row")) 3 86 "row") {l0 : Nat} (l3 : Option Nat) : Sm g 4 119 [(3, va_rf l3)] [] (C_X5_row_J119 l0 l3) := by
  unfold C_X5_row_J119
  refine s_rload_n B.1.1 0 dX5_row_119 rfl rfl ?_
  exact s_aret B.1.1 B.2.2.2.2 (Or.inl ⟨_, rfl⟩) dX5_row_120
def C_X5_row (l0 : Nat) (l1 : Int32) : Hp → Option ((Option Nat) × Hp) :=
  hCv 7 (some l0) (fun a => C_X5_has a (2 : Int32)) fun r1 =>
  if r1 = 0 then (
    hgR 7 0 (some l0) fun v22 =>
    rt (v22)
  ) else (
    hgR 7 1 (some l0) fun v2 =>
    hgI 7 2 (some l0) fun v3 =>
    hAi v2 v3 fun v4 =>
    hgR 7 1 (some l0) fun v5 =>
    hgI 7 2 (some l0) fun v6 =>
    hAi v5 (v6 + (1 : Int32)) fun v7 =>
    lq ((v4 <<< ((8 : Int32) &&& 31)) ||| v7) fun x8 =>
    hgI 7 2 (some l0) fun v9 =>
    hpI 7 2 (some l0) (v9 + (2 : Int32)) <|
    hCv 7 (some l0) (fun a => C_X5_has a x8) fun r10 =>
    if r10 = 0 then (
      hgR 7 0 (some l0) fun v21 =>
      rt (v21)
    ) else (
      hNw 9 1 fun o11 =>
      hgR 7 1 (some l0) fun v12 =>
      hgI 7 2 (some l0) fun v13 =>
      hgI 7 2 (some l0) fun v14 =>
      bd (C_J7_copyOfRange_feecc v12 v13 (v14 + x8)) fun r15 =>
      hCi o11 (fun a => C_X7_init a r15) fun r16 =>
      hgI 7 2 (some l0) fun v17 =>
      hpI 7 2 (some l0) (v17 + x8) <|
      if l1 = 0 then (
        C_X5_row_J119 l0 o11
      ) else (
        hCv 9 o11 (fun a => C_X7_isUtf8 a) fun r18 =>
        if r18 = 0 then (
          hCv 7 (some l0) (fun a => C_X5_fail a (129 : Int32)) fun r19 =>
          hgR 7 0 (some l0) fun v20 =>
          rt (v20)
        ) else (
          C_X5_row_J119 l0 o11
        )
      )
    )
  )
set_option maxRecDepth 10000 in
theorem mo_C_X5_row (l0 : Nat) (l1 : Int32) : Mo (C_X5_row l0 l1) := by
  unfold C_X5_row
  repeat' (with_reducible first | assumption | exact mo_rt _ | exact mo_zt _ | exact mo_no | apply mo_C_X5_has | apply mo_C_J7_copyOfRange_feecc | apply mo_C_X7_init | apply mo_C_X5_row_J119 | apply mo_C_X7_isUtf8 | apply mo_C_X5_fail | refine mo_ite ?_ ?_ | refine mo_hgI (fun _ => ?_) | refine mo_hgR (fun _ => ?_) | refine mo_hCv (fun _ => ?_) (fun _ => ?_) | refine mo_lq (fun _ => ?_) | refine mo_hpI ?_ | refine mo_hpR ?_ | refine mo_hAi (fun _ => ?_) | refine mo_hAr (fun _ => ?_) | refine mo_hWi ?_ | refine mo_hWr ?_ | refine mo_hLn (fun _ => ?_) | refine mo_hgL (fun _ => ?_) | refine mo_hpL ?_ | refine mo_hpZ ?_ | refine mo_bd ?_ (fun _ => ?_) | refine mo_hCi (fun _ => ?_) (fun _ => ?_) | refine mo_hNw (fun _ => ?_) | refine mo_hNa (fun _ => ?_) | refine mo_hCp ?_ | refine mo_hOi ?_ | refine mo_hAl (fun _ => ?_) | refine mo_hWl ?_ | refine mo_gd ?_ | refine mo_sLn (fun _ => ?_) | refine mo_sAt (fun _ => ?_) | refine mo_kLn (fun _ => ?_) | refine mo_kAt (fun _ => ?_))
set_option maxRecDepth 10000 in
theorem mC_X5_row {w : Wd} (hw : Wc w) (l0 : Nat) (l1 : Int32) : MH w yX5_row cX5_row 4 (some (.object "TopicBroker$Row")) 3 86 voR [va_rf (some l0), .int l1] (C_X5_row l0 l1) := by
  have M0 : ∀ g : Gm Hp (Option Nat), g.1 = w → Bx g cX5_row 4 RX5 voR (some (.object "TopicBroker$Row")) 3 86 "row" → Sm g 4 0 (lv_args 0 [va_rf (some l0), .int l1]) [] (C_X5_row l0 l1) := by
    intro g hg B
    subst hg
    unfold C_X5_row
    refine W_lva (lv := [(0, va_rf (some l0)), (1, .int l1)]) (by simp [lv_args, va_rf_cat, cat_i, cat_l, cat_r]) ?_
    refine s_rload_n B.1.1 0 dX5_row_0 rfl rfl ?_
    refine s_iconst (v := 2) B.1.1 dX5_row_1 (by decide) ?_
    refine hp_cvi (As := [.int (2 : Int32)]) (st := []) 7 rfl (by decide) B.1 (fun a => mC_X5_has B.2.1 a (2 : Int32)) cc_X5_has cl_X5_45 cn_X5_has ce_X5_has ci_X5 cd_X5_has (by decide) rfl (Nat.le_of_ble_eq_true rfl) dX5_row_2 (fun r1 => ?_)
    refine s_if_ne B.1.1 13 dX5_row_5 (by decide) ?_ ?_
    · refine s_rload_n B.1.1 0 dX5_row_13 rfl rfl ?_
      refine hp_getR B.1 7 1 rfl (by decide) inX5 (by decide) fk_X5_1 cf_X5_24 dX5_row_14 (fun v2 => ?_)
      refine s_rload_n B.1.1 0 dX5_row_17 rfl rfl ?_
      refine hp_getI B.1 7 2 rfl (by decide) inX5 (by decide) fk_X5_2.1 fk_X5_2.2 cf_X5_25 dX5_row_18 (fun v3 => ?_)
      refine hp_Ai B.1 dX5_row_21 (fun v4 => ?_)
      refine s_bipush (v := (8)) B.1.1 dX5_row_22 (by decide) ?_
      refine s_ishl B.1.1 dX5_row_24 ?_
      refine s_rload_n B.1.1 0 dX5_row_25 rfl rfl ?_
      refine hp_getR B.1 7 1 rfl (by decide) inX5 (by decide) fk_X5_1 cf_X5_24 dX5_row_26 (fun v5 => ?_)
      refine s_rload_n B.1.1 0 dX5_row_29 rfl rfl ?_
      refine hp_getI B.1 7 2 rfl (by decide) inX5 (by decide) fk_X5_2.1 fk_X5_2.2 cf_X5_25 dX5_row_30 (fun v6 => ?_)
      refine s_iconst (v := 1) B.1.1 dX5_row_33 (by decide) ?_
      refine s_iadd B.1.1 dX5_row_34 ?_
      refine hp_Ai B.1 dX5_row_35 (fun v7 => ?_)
      refine s_ior B.1.1 dX5_row_36 ?_
      refine s_lqi (fun x8 => ?_)
      refine s_istore_n (i := 2) (lv' := [(2, .int x8), (0, va_rf (some l0)), (1, .int l1)]) B.1.1 dX5_row_37 rfl (by decide) rfl ?_
      refine s_rload_n B.1.1 1 dX5_row_38 rfl rfl ?_
      refine s_dup B.1.1 dX5_row_39 rfl ?_
      refine hp_getI B.1 7 2 rfl (by decide) inX5 (by decide) fk_X5_2.1 fk_X5_2.2 cf_X5_25 dX5_row_40 (fun v9 => ?_)
      refine s_iconst (v := 2) B.1.1 dX5_row_43 (by decide) ?_
      refine s_iadd B.1.1 dX5_row_44 ?_
      refine hp_putI B.1 7 2 rfl (by decide) inX5 tyX5 tyX5_ok nmX5 (by decide) fk_X5_2.1 fk_X5_2.2 ft_X5_2 rfl cf_X5_25 dX5_row_45 ?_
      refine s_rload_n B.1.1 1 dX5_row_48 rfl rfl ?_
      refine s_iload_n B.1.1 0 dX5_row_49 rfl rfl ?_
      refine hp_cvi (As := [.int x8]) (st := []) 7 rfl (by decide) B.1 (fun a => mC_X5_has B.2.1 a x8) cc_X5_has cl_X5_45 cn_X5_has ce_X5_has ci_X5 cd_X5_has (by decide) rfl (Nat.le_of_ble_eq_true rfl) dX5_row_50 (fun r10 => ?_)
      refine s_if_ne B.1.1 61 dX5_row_53 (by decide) ?_ ?_
      · refine hp_Nw B.1 9 rfl (by decide) inX7 tyX7 tyX7_ok dfX7 tw_126 tw_127 tw_5 dX5_row_61 (fun o11 => ?_)
        refine s_dup B.1.1 dX5_row_64 (va_rf_cat _) ?_
        refine s_rload_n B.1.1 1 dX5_row_65 rfl rfl ?_
        refine hp_getR B.1 7 1 rfl (by decide) inX5 (by decide) fk_X5_1 cf_X5_24 dX5_row_66 (fun v12 => ?_)
        refine s_rload_n B.1.1 1 dX5_row_69 rfl rfl ?_
        refine hp_getI B.1 7 2 rfl (by decide) inX5 (by decide) fk_X5_2.1 fk_X5_2.2 cf_X5_25 dX5_row_70 (fun v13 => ?_)
        refine s_rload_n B.1.1 1 dX5_row_73 rfl rfl ?_
        refine hp_getI B.1 7 2 rfl (by decide) inX5 (by decide) fk_X5_2.1 fk_X5_2.2 cf_X5_25 dX5_row_74 (fun v14 => ?_)
        refine s_iload_n B.1.1 0 dX5_row_77 rfl rfl ?_
        refine s_iadd B.1.1 dX5_row_78 ?_
        refine hp_csr (As := [va_rf v12, .int v13, .int (v14 + x8)]) (st := [va_rf o11, va_rf o11]) B.1 (mC_J7_copyOfRange_feecc B.2.1 v12 v13 (v14 + x8)) cc_J7_copyOfRange_feecc cl_X5_53 cs_J7_copyOfRange_feecc ci_J7 cd_J7_copyOfRange_feecc (by decide) rfl (by simp [va_rf_cat, cat_i, cat_l, cat_r]) dX5_row_79 (fun r15 => ?_)
        refine hp_cI (As := [va_rf r15]) (st := [va_rf o11]) B.1 (fun a => mC_X7_init B.2.1 a r15) cc_X7_init cl_X5_11 cn_X7_init ci_X7 rfl cd_X7_init (by decide) rfl (by simp [va_rf_cat, cat_i, cat_l, cat_r]) dX5_row_82 (fun r16 => ?_)
        refine s_rstore_n (i := 3) (lv' := [(3, va_rf o11), (2, .int x8), (0, va_rf (some l0)), (1, .int l1)]) B.1.1 dX5_row_85 rfl (by decide) rfl ?_
        refine s_rload_n B.1.1 2 dX5_row_86 rfl rfl ?_
        refine s_dup B.1.1 dX5_row_87 rfl ?_
        refine hp_getI B.1 7 2 rfl (by decide) inX5 (by decide) fk_X5_2.1 fk_X5_2.2 cf_X5_25 dX5_row_88 (fun v17 => ?_)
        refine s_iload_n B.1.1 1 dX5_row_91 rfl rfl ?_
        refine s_iadd B.1.1 dX5_row_92 ?_
        refine hp_putI B.1 7 2 rfl (by decide) inX5 tyX5 tyX5_ok nmX5 (by decide) fk_X5_2.1 fk_X5_2.2 ft_X5_2 rfl cf_X5_25 dX5_row_93 ?_
        refine s_iload_n B.1.1 3 dX5_row_96 rfl rfl ?_
        refine s_if_eq B.1.1 119 dX5_row_97 (by decide) ?_ ?_
        · exact Sm.lvs [0] rfl (sc_X5_row_J119 B o11)
        · refine s_rload_n B.1.1 0 dX5_row_100 rfl rfl ?_
          refine hp_cvi (As := []) (st := []) 9 rfl (by decide) B.1 (fun a => mC_X7_isUtf8 B.2.1 a ) cc_X7_isUtf8 cl_X5_59 cn_X7_isUtf8 ce_X7_isUtf8 ci_X7 cd_X7_isUtf8 (by decide) rfl (Nat.le_of_ble_eq_true rfl) dX5_row_101 (fun r18 => ?_)
          refine s_if_ne B.1.1 119 dX5_row_104 (by decide) ?_ ?_
          · exact Sm.lvs [0] rfl (sc_X5_row_J119 B o11)
          · refine s_rload_n B.1.1 2 dX5_row_107 rfl rfl ?_
            refine s_sipush (v := (129)) B.1.1 dX5_row_108 (by decide) ?_
            refine hp_cvv (As := [.int (129 : Int32)]) (st := []) 7 rfl (by decide) B.1 (fun a => mC_X5_fail B.2.1 a (129 : Int32)) cc_X5_fail cl_X5_41 cn_X5_fail ce_X5_fail ci_X5 cd_X5_fail (by decide) rfl (Nat.le_of_ble_eq_true rfl) dX5_row_111 (fun r19 => ?_)
            refine s_rload_n B.1.1 2 dX5_row_114 rfl rfl ?_
            refine hp_getR B.1 7 0 rfl (by decide) inX5 (by decide) fk_X5_0 cf_X5_14 dX5_row_115 (fun v20 => ?_)
            exact s_aret B.1.1 B.2.2.2.2 (Or.inl ⟨_, rfl⟩) dX5_row_118
      · refine s_rload_n B.1.1 1 dX5_row_56 rfl rfl ?_
        refine hp_getR B.1 7 0 rfl (by decide) inX5 (by decide) fk_X5_0 cf_X5_14 dX5_row_57 (fun v21 => ?_)
        exact s_aret B.1.1 B.2.2.2.2 (Or.inl ⟨_, rfl⟩) dX5_row_60
    · refine s_rload_n B.1.1 0 dX5_row_8 rfl rfl ?_
      refine hp_getR B.1 7 0 rfl (by decide) inX5 (by decide) fk_X5_0 cf_X5_14 dX5_row_9 (fun v22 => ?_)
      exact s_aret B.1.1 B.2.2.2.2 (Or.inl ⟨_, rfl⟩) dX5_row_12
  exact MH.of hw ⟨rfl, rfl⟩ (by decide) (by simp [lg_sl, va_rf_cat, cat_i, cat_l, cat_r]) (mo_C_X5_row l0 l1) M0
def C_X5_two (l0 : Nat) : Hp → Option (Int32 × Hp) :=
  hCv 7 (some l0) (fun a => C_X5_has a (2 : Int32)) fun r1 =>
  if r1 = 0 then (
    rt ((0 : Int32))
  ) else (
    hgI 7 2 (some l0) fun v2 =>
    hpI 7 2 (some l0) (v2 + (2 : Int32)) <|
    hgR 7 1 (some l0) fun v3 =>
    hgI 7 2 (some l0) fun v4 =>
    hAi v3 (v4 - (2 : Int32)) fun v5 =>
    hgR 7 1 (some l0) fun v6 =>
    hgI 7 2 (some l0) fun v7 =>
    hAi v6 (v7 - (1 : Int32)) fun v8 =>
    rt ((v5 <<< ((8 : Int32) &&& 31)) ||| v8)
  )
set_option maxRecDepth 10000 in
theorem mo_C_X5_two (l0 : Nat) : Mo (C_X5_two l0) := by
  unfold C_X5_two
  repeat' (with_reducible first | assumption | exact mo_rt _ | exact mo_zt _ | exact mo_no | apply mo_C_X5_has | refine mo_ite ?_ ?_ | refine mo_hgI (fun _ => ?_) | refine mo_hgR (fun _ => ?_) | refine mo_hCv (fun _ => ?_) (fun _ => ?_) | refine mo_lq (fun _ => ?_) | refine mo_hpI ?_ | refine mo_hpR ?_ | refine mo_hAi (fun _ => ?_) | refine mo_hAr (fun _ => ?_) | refine mo_hWi ?_ | refine mo_hWr ?_ | refine mo_hLn (fun _ => ?_) | refine mo_hgL (fun _ => ?_) | refine mo_hpL ?_ | refine mo_hpZ ?_ | refine mo_bd ?_ (fun _ => ?_) | refine mo_hCi (fun _ => ?_) (fun _ => ?_) | refine mo_hNw (fun _ => ?_) | refine mo_hNa (fun _ => ?_) | refine mo_hCp ?_ | refine mo_hOi ?_ | refine mo_hAl (fun _ => ?_) | refine mo_hWl ?_ | refine mo_gd ?_ | refine mo_sLn (fun _ => ?_) | refine mo_sAt (fun _ => ?_) | refine mo_kLn (fun _ => ?_) | refine mo_kAt (fun _ => ?_))
set_option maxRecDepth 10000 in
theorem mC_X5_two {w : Wd} (hw : Wc w) (l0 : Nat) : MH w yX5_two cX5_two 1 (some .int) 1 21 voI [va_rf (some l0)] (C_X5_two l0) := by
  have M0 : ∀ g : Gm Hp Int32, g.1 = w → Bx g cX5_two 1 RX5 voI (some .int) 1 21 "two" → Sm g 1 0 (lv_args 0 [va_rf (some l0)]) [] (C_X5_two l0) := by
    intro g hg B
    subst hg
    unfold C_X5_two
    refine W_lva (lv := [(0, va_rf (some l0))]) (by simp [lv_args, va_rf_cat, cat_i, cat_l, cat_r]) ?_
    refine s_rload_n B.1.1 0 dX5_two_0 rfl rfl ?_
    refine s_iconst (v := 2) B.1.1 dX5_two_1 (by decide) ?_
    refine hp_cvi (As := [.int (2 : Int32)]) (st := []) 7 rfl (by decide) B.1 (fun a => mC_X5_has B.2.1 a (2 : Int32)) cc_X5_has cl_X5_45 cn_X5_has ce_X5_has ci_X5 cd_X5_has (by decide) rfl (Nat.le_of_ble_eq_true rfl) dX5_two_2 (fun r1 => ?_)
    refine s_if_ne B.1.1 10 dX5_two_5 (by decide) ?_ ?_
    · refine s_rload_n B.1.1 0 dX5_two_10 rfl rfl ?_
      refine s_dup B.1.1 dX5_two_11 rfl ?_
      refine hp_getI B.1 7 2 rfl (by decide) inX5 (by decide) fk_X5_2.1 fk_X5_2.2 cf_X5_25 dX5_two_12 (fun v2 => ?_)
      refine s_iconst (v := 2) B.1.1 dX5_two_15 (by decide) ?_
      refine s_iadd B.1.1 dX5_two_16 ?_
      refine hp_putI B.1 7 2 rfl (by decide) inX5 tyX5 tyX5_ok nmX5 (by decide) fk_X5_2.1 fk_X5_2.2 ft_X5_2 rfl cf_X5_25 dX5_two_17 ?_
      refine s_rload_n B.1.1 0 dX5_two_20 rfl rfl ?_
      refine hp_getR B.1 7 1 rfl (by decide) inX5 (by decide) fk_X5_1 cf_X5_24 dX5_two_21 (fun v3 => ?_)
      refine s_rload_n B.1.1 0 dX5_two_24 rfl rfl ?_
      refine hp_getI B.1 7 2 rfl (by decide) inX5 (by decide) fk_X5_2.1 fk_X5_2.2 cf_X5_25 dX5_two_25 (fun v4 => ?_)
      refine s_iconst (v := 2) B.1.1 dX5_two_28 (by decide) ?_
      refine s_isub B.1.1 dX5_two_29 ?_
      refine hp_Ai B.1 dX5_two_30 (fun v5 => ?_)
      refine s_bipush (v := (8)) B.1.1 dX5_two_31 (by decide) ?_
      refine s_ishl B.1.1 dX5_two_33 ?_
      refine s_rload_n B.1.1 0 dX5_two_34 rfl rfl ?_
      refine hp_getR B.1 7 1 rfl (by decide) inX5 (by decide) fk_X5_1 cf_X5_24 dX5_two_35 (fun v6 => ?_)
      refine s_rload_n B.1.1 0 dX5_two_38 rfl rfl ?_
      refine hp_getI B.1 7 2 rfl (by decide) inX5 (by decide) fk_X5_2.1 fk_X5_2.2 cf_X5_25 dX5_two_39 (fun v7 => ?_)
      refine s_iconst (v := 1) B.1.1 dX5_two_42 (by decide) ?_
      refine s_isub B.1.1 dX5_two_43 ?_
      refine hp_Ai B.1 dX5_two_44 (fun v8 => ?_)
      refine s_ior B.1.1 dX5_two_45 ?_
      exact s_iret B.1.1 B.2.2.2.2 dX5_two_46
    · refine s_iconst (v := 0) B.1.1 dX5_two_8 (by decide) ?_
      exact s_iret B.1.1 B.2.2.2.2 dX5_two_9
  exact MH.of hw ⟨rfl, rfl⟩ (by decide) (by simp [lg_sl, va_rf_cat, cat_i, cat_l, cat_r]) (mo_C_X5_two l0) M0
def C_X5_variable_J64 (l0 : Nat) : Hp → Option (Int32 × Hp) :=
  hCv 7 (some l0) (fun a => C_X5_fail a (129 : Int32)) fun r1 =>
  rt ((0 : Int32))
set_option maxRecDepth 10000 in
theorem mo_C_X5_variable_J64 (l0 : Nat) : Mo (C_X5_variable_J64 l0) := by
  unfold C_X5_variable_J64
  repeat' (with_reducible first | assumption | exact mo_rt _ | exact mo_zt _ | exact mo_no | apply mo_C_X5_fail | refine mo_ite ?_ ?_ | refine mo_hgI (fun _ => ?_) | refine mo_hgR (fun _ => ?_) | refine mo_hCv (fun _ => ?_) (fun _ => ?_) | refine mo_lq (fun _ => ?_) | refine mo_hpI ?_ | refine mo_hpR ?_ | refine mo_hAi (fun _ => ?_) | refine mo_hAr (fun _ => ?_) | refine mo_hWi ?_ | refine mo_hWr ?_ | refine mo_hLn (fun _ => ?_) | refine mo_hgL (fun _ => ?_) | refine mo_hpL ?_ | refine mo_hpZ ?_ | refine mo_bd ?_ (fun _ => ?_) | refine mo_hCi (fun _ => ?_) (fun _ => ?_) | refine mo_hNw (fun _ => ?_) | refine mo_hNa (fun _ => ?_) | refine mo_hCp ?_ | refine mo_hOi ?_ | refine mo_hAl (fun _ => ?_) | refine mo_hWl ?_ | refine mo_gd ?_ | refine mo_sLn (fun _ => ?_) | refine mo_sAt (fun _ => ?_) | refine mo_kLn (fun _ => ?_) | refine mo_kAt (fun _ => ?_))
set_option maxRecDepth 10000 in
theorem sc_X5_variable_J64 {g : Gm Hp Int32} (B : Bx g cX5_variable 4 RX5 voI (some .int) 1 21 "variable") {l0 : Nat} : Sm g 4 64 [(0, va_rf (some l0))] [] (C_X5_variable_J64 l0) := by
  unfold C_X5_variable_J64
  refine s_rload_n B.1.1 0 dX5_variable_64 rfl rfl ?_
  refine s_sipush (v := (129)) B.1.1 dX5_variable_65 (by decide) ?_
  refine hp_cvv (As := [.int (129 : Int32)]) (st := []) 7 rfl (by decide) B.1 (fun a => mC_X5_fail B.2.1 a (129 : Int32)) cc_X5_fail cl_X5_41 cn_X5_fail ce_X5_fail ci_X5 cd_X5_fail (by decide) rfl (Nat.le_of_ble_eq_true rfl) dX5_variable_68 (fun r1 => ?_)
  refine s_iconst (v := 0) B.1.1 dX5_variable_71 (by decide) ?_
  exact s_iret B.1.1 B.2.2.2.2 dX5_variable_72
def C_X5_variable_J56 (l0 : Nat) (l1 : Int32) : Hp → Option (Int32 × Hp) :=
  rt (l1)
set_option maxRecDepth 10000 in
theorem mo_C_X5_variable_J56 (l0 : Nat) (l1 : Int32) : Mo (C_X5_variable_J56 l0 l1) := by
  unfold C_X5_variable_J56
  repeat' (with_reducible first | assumption | exact mo_rt _ | exact mo_zt _ | exact mo_no | refine mo_ite ?_ ?_ | refine mo_hgI (fun _ => ?_) | refine mo_hgR (fun _ => ?_) | refine mo_hCv (fun _ => ?_) (fun _ => ?_) | refine mo_lq (fun _ => ?_) | refine mo_hpI ?_ | refine mo_hpR ?_ | refine mo_hAi (fun _ => ?_) | refine mo_hAr (fun _ => ?_) | refine mo_hWi ?_ | refine mo_hWr ?_ | refine mo_hLn (fun _ => ?_) | refine mo_hgL (fun _ => ?_) | refine mo_hpL ?_ | refine mo_hpZ ?_ | refine mo_bd ?_ (fun _ => ?_) | refine mo_hCi (fun _ => ?_) (fun _ => ?_) | refine mo_hNw (fun _ => ?_) | refine mo_hNa (fun _ => ?_) | refine mo_hCp ?_ | refine mo_hOi ?_ | refine mo_hAl (fun _ => ?_) | refine mo_hWl ?_ | refine mo_gd ?_ | refine mo_sLn (fun _ => ?_) | refine mo_sAt (fun _ => ?_) | refine mo_kLn (fun _ => ?_) | refine mo_kAt (fun _ => ?_))
set_option maxRecDepth 10000 in
theorem sc_X5_variable_J56 {g : Gm Hp Int32} (B : Bx g cX5_variable 4 RX5 voI (some .int) 1 21 "variable") {l0 : Nat} (l1 : Int32) : Sm g 4 56 [(1, .int l1)] [] (C_X5_variable_J56 l0 l1) := by
  unfold C_X5_variable_J56
  refine s_iload_n B.1.1 0 dX5_variable_56 rfl rfl ?_
  exact s_iret B.1.1 B.2.2.2.2 dX5_variable_57
def C_X5_variable_B4 (l0 : Nat) (kb : Int32 → Int32 → Hp → Option (Int32 × Hp)) (ke56 : Int32 → Hp → Option (Int32 × Hp)) (ke64 : Hp → Option (Int32 × Hp)) (l1 : Int32) (l2 : Int32) : Hp → Option (Int32 × Hp) :=
  if (4 : Int32) ≤ l2 then (
    ke64
  ) else (
    hCv 7 (some l0) (fun a => C_X5_has a (1 : Int32)) fun r2 =>
    if r2 = 0 then (
      ke64
    ) else (
      hgR 7 1 (some l0) fun v3 =>
      hgI 7 2 (some l0) fun v4 =>
      hAi v3 v4 fun v5 =>
      hgI 7 2 (some l0) fun v6 =>
      hpI 7 2 (some l0) (v6 + (1 : Int32)) <|
      lq (l1 ||| ((v5 &&& (127 : Int32)) <<< (((7 : Int32) * l2) &&& 31))) fun x7 =>
      if (128 : Int32) ≤ v5 then (
        kb x7 (l2 + 1)
      ) else (
        ke56 x7
      )
    )
  )
def C_X5_variable_L4 (l0 : Nat) (ke56 : Int32 → Hp → Option (Int32 × Hp)) (ke64 : Hp → Option (Int32 × Hp)) : Nat → Int32 → Int32 → Hp → Option (Int32 × Hp)
  | 0, _, _ => no
  | n + 1, l1, l2 => C_X5_variable_B4 l0 (fun l1 l2 => C_X5_variable_L4 l0 ke56 ke64 n l1 l2) ke56 ke64 l1 l2
set_option maxRecDepth 10000 in
theorem mo_C_X5_variable_B4 (l0 : Nat) (kb : Int32 → Int32 → Hp → Option (Int32 × Hp)) (ke56 : Int32 → Hp → Option (Int32 × Hp)) (ke64 : Hp → Option (Int32 × Hp)) (hkb : ∀ (l1 : Int32) (l2 : Int32), Mo (kb l1 l2)) (hke56 : ∀ (l1 : Int32), Mo (ke56 l1)) (hke64 : Mo (ke64)) (l1 : Int32) (l2 : Int32) : Mo (C_X5_variable_B4 l0 kb ke56 ke64 l1 l2) := by
  unfold C_X5_variable_B4
  repeat' (with_reducible first | assumption | exact mo_rt _ | exact mo_zt _ | exact mo_no | apply mo_C_X5_has | apply hkb | apply hke56 | apply hke64 | refine mo_ite ?_ ?_ | refine mo_hgI (fun _ => ?_) | refine mo_hgR (fun _ => ?_) | refine mo_hCv (fun _ => ?_) (fun _ => ?_) | refine mo_lq (fun _ => ?_) | refine mo_hpI ?_ | refine mo_hpR ?_ | refine mo_hAi (fun _ => ?_) | refine mo_hAr (fun _ => ?_) | refine mo_hWi ?_ | refine mo_hWr ?_ | refine mo_hLn (fun _ => ?_) | refine mo_hgL (fun _ => ?_) | refine mo_hpL ?_ | refine mo_hpZ ?_ | refine mo_bd ?_ (fun _ => ?_) | refine mo_hCi (fun _ => ?_) (fun _ => ?_) | refine mo_hNw (fun _ => ?_) | refine mo_hNa (fun _ => ?_) | refine mo_hCp ?_ | refine mo_hOi ?_ | refine mo_hAl (fun _ => ?_) | refine mo_hWl ?_ | refine mo_gd ?_ | refine mo_sLn (fun _ => ?_) | refine mo_sAt (fun _ => ?_) | refine mo_kLn (fun _ => ?_) | refine mo_kAt (fun _ => ?_))
set_option maxRecDepth 10000 in
theorem mo_C_X5_variable_L4 (l0 : Nat) (ke56 : Int32 → Hp → Option (Int32 × Hp)) (ke64 : Hp → Option (Int32 × Hp)) (hke56 : ∀ (l1 : Int32), Mo (ke56 l1)) (hke64 : Mo (ke64)) : ∀ (n : Nat) (l1 : Int32) (l2 : Int32), Mo (C_X5_variable_L4 l0 ke56 ke64 n l1 l2)
  | 0, _, _ => mo_no
  | n + 1, l1, l2 => mo_C_X5_variable_B4 l0 _ ke56 ke64 (mo_C_X5_variable_L4 l0 ke56 ke64 hke56 hke64 n) hke56 hke64 l1 l2
set_option maxRecDepth 10000 in
theorem sc_X5_variable_B4 {g : Gm Hp Int32} {kb : Int32 → Int32 → Hp → Option (Int32 × Hp)} {ke56 : Int32 → Hp → Option (Int32 × Hp)} {ke64 : Hp → Option (Int32 × Hp)} (B : Bx g cX5_variable 4 RX5 voI (some .int) 1 21 "variable") {l0 : Nat} (hkb : ∀ (l1 : Int32) (l2 : Int32), Sm g 4 4 [(0, va_rf (some l0)), (1, .int l1), (2, .int l2)] [] (kb l1 l2)) (hke56 : ∀ (l1 : Int32), Sm g 4 56 [(1, .int l1)] [] (ke56 l1)) (hke64 : Sm g 4 64 [(0, va_rf (some l0))] [] (ke64)) (l1 : Int32) (l2 : Int32) : Sm g 4 4 [(0, va_rf (some l0)), (1, .int l1), (2, .int l2)] [] (C_X5_variable_B4 l0 kb ke56 ke64 l1 l2) := by
  unfold C_X5_variable_B4
  refine s_iload_n B.1.1 2 dX5_variable_4 rfl rfl ?_
  refine s_iconst (v := 4) B.1.1 dX5_variable_5 (by decide) ?_
  refine s_icmp_ge B.1.1 64 dX5_variable_6 (by decide) ?_ ?_
  · exact Sm.lvs [0] rfl (hke64)
  · refine s_rload_n B.1.1 0 dX5_variable_9 rfl rfl ?_
    refine s_iconst (v := 1) B.1.1 dX5_variable_10 (by decide) ?_
    refine hp_cvi (As := [.int (1 : Int32)]) (st := []) 7 rfl (by decide) B.1 (fun a => mC_X5_has B.2.1 a (1 : Int32)) cc_X5_has cl_X5_45 cn_X5_has ce_X5_has ci_X5 cd_X5_has (by decide) rfl (Nat.le_of_ble_eq_true rfl) dX5_variable_11 (fun r2 => ?_)
    refine s_if_eq B.1.1 64 dX5_variable_14 (by decide) ?_ ?_
    · exact Sm.lvs [0] rfl (hke64)
    · refine s_rload_n B.1.1 0 dX5_variable_17 rfl rfl ?_
      refine hp_getR B.1 7 1 rfl (by decide) inX5 (by decide) fk_X5_1 cf_X5_24 dX5_variable_18 (fun v3 => ?_)
      refine s_rload_n B.1.1 0 dX5_variable_21 rfl rfl ?_
      refine hp_getI B.1 7 2 rfl (by decide) inX5 (by decide) fk_X5_2.1 fk_X5_2.2 cf_X5_25 dX5_variable_22 (fun v4 => ?_)
      refine hp_Ai B.1 dX5_variable_25 (fun v5 => ?_)
      refine s_istore_n (i := 3) (lv' := [(3, .int v5), (0, va_rf (some l0)), (1, .int l1), (2, .int l2)]) B.1.1 dX5_variable_26 rfl (by decide) rfl ?_
      refine s_rload_n B.1.1 1 dX5_variable_27 rfl rfl ?_
      refine s_dup B.1.1 dX5_variable_28 rfl ?_
      refine hp_getI B.1 7 2 rfl (by decide) inX5 (by decide) fk_X5_2.1 fk_X5_2.2 cf_X5_25 dX5_variable_29 (fun v6 => ?_)
      refine s_iconst (v := 1) B.1.1 dX5_variable_32 (by decide) ?_
      refine s_iadd B.1.1 dX5_variable_33 ?_
      refine hp_putI B.1 7 2 rfl (by decide) inX5 tyX5 tyX5_ok nmX5 (by decide) fk_X5_2.1 fk_X5_2.2 ft_X5_2 rfl cf_X5_25 dX5_variable_34 ?_
      refine s_iload_n B.1.1 2 dX5_variable_37 rfl rfl ?_
      refine s_iload_n B.1.1 0 dX5_variable_38 rfl rfl ?_
      refine s_bipush (v := (127)) B.1.1 dX5_variable_39 (by decide) ?_
      refine s_iand B.1.1 dX5_variable_41 ?_
      refine s_bipush (v := (7)) B.1.1 dX5_variable_42 (by decide) ?_
      refine s_iload_n B.1.1 3 dX5_variable_44 rfl rfl ?_
      refine s_imul B.1.1 dX5_variable_45 ?_
      refine s_ishl B.1.1 dX5_variable_46 ?_
      refine s_ior B.1.1 dX5_variable_47 ?_
      refine s_lqi (fun x7 => ?_)
      refine s_istore_n (i := 1) (lv' := [(1, .int x7), (3, .int v5), (0, va_rf (some l0)), (2, .int l2)]) B.1.1 dX5_variable_48 rfl (by decide) rfl ?_
      refine s_iload_n B.1.1 1 dX5_variable_49 rfl rfl ?_
      refine s_sipush (v := (128)) B.1.1 dX5_variable_50 (by decide) ?_
      refine s_icmp_ge B.1.1 58 dX5_variable_53 (by decide) ?_ ?_
      · refine s_iinc (v := l2 + 1) (lv' := [(2, .int (l2 + 1)), (1, .int x7), (3, .int v5), (0, va_rf (some l0))]) B.1.1 3 dX5_variable_58 rfl rfl (by decide) rfl ?_
        refine s_goto B.1.1 4 dX5_variable_61 (by decide) ?_
        exact Sm.lvs [3, 1, 0] rfl (hkb x7 (l2 + 1))
      · exact Sm.lvs [0] rfl (hke56 x7)
set_option maxRecDepth 10000 in
theorem sc_X5_variable_L4 {g : Gm Hp Int32} {ke56 : Int32 → Hp → Option (Int32 × Hp)} {ke64 : Hp → Option (Int32 × Hp)} (B : Bx g cX5_variable 4 RX5 voI (some .int) 1 21 "variable") {l0 : Nat} (hke56 : ∀ (l1 : Int32), Sm g 4 56 [(1, .int l1)] [] (ke56 l1)) (hke64 : Sm g 4 64 [(0, va_rf (some l0))] [] (ke64)) : ∀ (n : Nat) (l1 : Int32) (l2 : Int32), Sm g 4 4 [(0, va_rf (some l0)), (1, .int l1), (2, .int l2)] [] (C_X5_variable_L4 l0 ke56 ke64 n l1 l2)
  | 0, _, _ => Sm.fail
  | n + 1, l1, l2 => sc_X5_variable_B4 B (sc_X5_variable_L4 B hke56 hke64 n) hke56 hke64 l1 l2
def C_X5_variable (l0 : Nat) : Hp → Option (Int32 × Hp) :=
  C_X5_variable_L4 l0 (fun l1 => C_X5_variable_J56 l0 l1) (C_X5_variable_J64 l0) fu (0 : Int32) (0 : Int32)
set_option maxRecDepth 10000 in
theorem mo_C_X5_variable (l0 : Nat) : Mo (C_X5_variable l0) := by
  unfold C_X5_variable
  repeat' (with_reducible first | assumption | exact mo_rt _ | exact mo_zt _ | exact mo_no | apply mo_C_X5_variable_L4 | apply mo_C_X5_variable_J56 | apply mo_C_X5_variable_J64 | refine mo_ite ?_ ?_ | refine mo_hgI (fun _ => ?_) | refine mo_hgR (fun _ => ?_) | refine mo_hCv (fun _ => ?_) (fun _ => ?_) | refine mo_lq (fun _ => ?_) | refine mo_hpI ?_ | refine mo_hpR ?_ | refine mo_hAi (fun _ => ?_) | refine mo_hAr (fun _ => ?_) | refine mo_hWi ?_ | refine mo_hWr ?_ | refine mo_hLn (fun _ => ?_) | refine mo_hgL (fun _ => ?_) | refine mo_hpL ?_ | refine mo_hpZ ?_ | refine mo_bd ?_ (fun _ => ?_) | refine mo_hCi (fun _ => ?_) (fun _ => ?_) | refine mo_hNw (fun _ => ?_) | refine mo_hNa (fun _ => ?_) | refine mo_hCp ?_ | refine mo_hOi ?_ | refine mo_hAl (fun _ => ?_) | refine mo_hWl ?_ | refine mo_gd ?_ | refine mo_sLn (fun _ => ?_) | refine mo_sAt (fun _ => ?_) | refine mo_kLn (fun _ => ?_) | refine mo_kAt (fun _ => ?_))
set_option maxRecDepth 10000 in
theorem mC_X5_variable {w : Wd} (hw : Wc w) (l0 : Nat) : MH w yX5_variable cX5_variable 4 (some .int) 1 21 voI [va_rf (some l0)] (C_X5_variable l0) := by
  have M0 : ∀ g : Gm Hp Int32, g.1 = w → Bx g cX5_variable 4 RX5 voI (some .int) 1 21 "variable" → Sm g 4 0 (lv_args 0 [va_rf (some l0)]) [] (C_X5_variable l0) := by
    intro g hg B
    subst hg
    unfold C_X5_variable
    refine W_lva (lv := [(0, va_rf (some l0))]) (by simp [lv_args, va_rf_cat, cat_i, cat_l, cat_r]) ?_
    refine s_iconst (v := 0) B.1.1 dX5_variable_0 (by decide) ?_
    refine s_istore_n (i := 1) (lv' := [(1, .int (0 : Int32)), (0, va_rf (some l0))]) B.1.1 dX5_variable_1 rfl (by decide) rfl ?_
    refine s_iconst (v := 0) B.1.1 dX5_variable_2 (by decide) ?_
    refine s_istore_n (i := 2) (lv' := [(2, .int (0 : Int32)), (1, .int (0 : Int32)), (0, va_rf (some l0))]) B.1.1 dX5_variable_3 rfl (by decide) rfl ?_
    exact Sm.lvs [2, 1, 0] rfl (sc_X5_variable_L4 B (fun l1 => sc_X5_variable_J56 B l1) (sc_X5_variable_J64 B) fu (0 : Int32) (0 : Int32))
  exact MH.of hw ⟨rfl, rfl⟩ (by decide) (by simp [lg_sl, va_rf_cat, cat_i, cat_l, cat_r]) (mo_C_X5_variable l0) M0
def C_X4_value_J242 (l0 : Nat) (l1 : Option Nat) : Hp → Option (Int64 × Hp) :=
  hCv 7 l1 (fun a => C_X5_row a (1 : Int32)) fun r1 =>
  rt ((0 : Int64))
set_option maxRecDepth 10000 in
theorem mo_C_X4_value_J242 (l0 : Nat) (l1 : Option Nat) : Mo (C_X4_value_J242 l0 l1) := by
  unfold C_X4_value_J242
  repeat' (with_reducible first | assumption | exact mo_rt _ | exact mo_zt _ | exact mo_no | apply mo_C_X5_row | refine mo_ite ?_ ?_ | refine mo_hgI (fun _ => ?_) | refine mo_hgR (fun _ => ?_) | refine mo_hCv (fun _ => ?_) (fun _ => ?_) | refine mo_lq (fun _ => ?_) | refine mo_hpI ?_ | refine mo_hpR ?_ | refine mo_hAi (fun _ => ?_) | refine mo_hAr (fun _ => ?_) | refine mo_hWi ?_ | refine mo_hWr ?_ | refine mo_hLn (fun _ => ?_) | refine mo_hgL (fun _ => ?_) | refine mo_hpL ?_ | refine mo_hpZ ?_ | refine mo_bd ?_ (fun _ => ?_) | refine mo_hCi (fun _ => ?_) (fun _ => ?_) | refine mo_hNw (fun _ => ?_) | refine mo_hNa (fun _ => ?_) | refine mo_hCp ?_ | refine mo_hOi ?_ | refine mo_hAl (fun _ => ?_) | refine mo_hWl ?_ | refine mo_gd ?_ | refine mo_sLn (fun _ => ?_) | refine mo_sAt (fun _ => ?_) | refine mo_kLn (fun _ => ?_) | refine mo_kAt (fun _ => ?_))
set_option maxRecDepth 10000 in
theorem sc_X4_value_J242 {g : Gm Hp Int64} (B : Bx g cX4_value 4 RX4 voL (some .long) 4 109 "value") {l0 : Nat} (l1 : Option Nat) : Sm g 4 242 [(1, va_rf l1)] [] (C_X4_value_J242 l0 l1) := by
  unfold C_X4_value_J242
  refine s_rload_n B.1.1 0 dX4_value_242 rfl rfl ?_
  refine s_iconst (v := 1) B.1.1 dX4_value_243 (by decide) ?_
  refine hp_cvr (As := [.int (1 : Int32)]) (st := []) 7 rfl (by decide) B.1 (fun a => mC_X5_row B.2.1 a (1 : Int32)) cc_X5_row cl_X4_88 cn_X5_row ce_X5_row ci_X5 cd_X5_row (by decide) rfl (Nat.le_of_ble_eq_true rfl) dX4_value_244 (fun r1 => ?_)
  refine s_pop B.1.1 dX4_value_247 (va_rf_cat _) ?_
  refine s_lconst (v := 0) B.1.1 dX4_value_248 (by decide) ?_
  exact s_lret B.1.1 B.2.2.2.2 dX4_value_249
def C_X4_value_J220 (l0 : Nat) (l1 : Option Nat) : Hp → Option (Int64 × Hp) :=
  hCv 7 l1 (fun a => C_X5_row a (0 : Int32)) fun r2 =>
  rt ((0 : Int64))
set_option maxRecDepth 10000 in
theorem mo_C_X4_value_J220 (l0 : Nat) (l1 : Option Nat) : Mo (C_X4_value_J220 l0 l1) := by
  unfold C_X4_value_J220
  repeat' (with_reducible first | assumption | exact mo_rt _ | exact mo_zt _ | exact mo_no | apply mo_C_X5_row | refine mo_ite ?_ ?_ | refine mo_hgI (fun _ => ?_) | refine mo_hgR (fun _ => ?_) | refine mo_hCv (fun _ => ?_) (fun _ => ?_) | refine mo_lq (fun _ => ?_) | refine mo_hpI ?_ | refine mo_hpR ?_ | refine mo_hAi (fun _ => ?_) | refine mo_hAr (fun _ => ?_) | refine mo_hWi ?_ | refine mo_hWr ?_ | refine mo_hLn (fun _ => ?_) | refine mo_hgL (fun _ => ?_) | refine mo_hpL ?_ | refine mo_hpZ ?_ | refine mo_bd ?_ (fun _ => ?_) | refine mo_hCi (fun _ => ?_) (fun _ => ?_) | refine mo_hNw (fun _ => ?_) | refine mo_hNa (fun _ => ?_) | refine mo_hCp ?_ | refine mo_hOi ?_ | refine mo_hAl (fun _ => ?_) | refine mo_hWl ?_ | refine mo_gd ?_ | refine mo_sLn (fun _ => ?_) | refine mo_sAt (fun _ => ?_) | refine mo_kLn (fun _ => ?_) | refine mo_kAt (fun _ => ?_))
set_option maxRecDepth 10000 in
theorem sc_X4_value_J220 {g : Gm Hp Int64} (B : Bx g cX4_value 4 RX4 voL (some .long) 4 109 "value") {l0 : Nat} (l1 : Option Nat) : Sm g 4 220 [(1, va_rf l1)] [] (C_X4_value_J220 l0 l1) := by
  unfold C_X4_value_J220
  refine s_rload_n B.1.1 0 dX4_value_220 rfl rfl ?_
  refine s_iconst (v := 0) B.1.1 dX4_value_221 (by decide) ?_
  refine hp_cvr (As := [.int (0 : Int32)]) (st := []) 7 rfl (by decide) B.1 (fun a => mC_X5_row B.2.1 a (0 : Int32)) cc_X5_row cl_X4_88 cn_X5_row ce_X5_row ci_X5 cd_X5_row (by decide) rfl (Nat.le_of_ble_eq_true rfl) dX4_value_222 (fun r2 => ?_)
  refine s_pop B.1.1 dX4_value_225 (va_rf_cat _) ?_
  refine s_lconst (v := 0) B.1.1 dX4_value_226 (by decide) ?_
  exact s_lret B.1.1 B.2.2.2.2 dX4_value_227
def C_X4_value_J203 (l0 : Nat) (l1 : Option Nat) : Hp → Option (Int64 × Hp) :=
  hCv 7 l1 (fun a => C_X5_two a) fun r3 =>
  rt (r3.toInt64)
set_option maxRecDepth 10000 in
theorem mo_C_X4_value_J203 (l0 : Nat) (l1 : Option Nat) : Mo (C_X4_value_J203 l0 l1) := by
  unfold C_X4_value_J203
  repeat' (with_reducible first | assumption | exact mo_rt _ | exact mo_zt _ | exact mo_no | apply mo_C_X5_two | refine mo_ite ?_ ?_ | refine mo_hgI (fun _ => ?_) | refine mo_hgR (fun _ => ?_) | refine mo_hCv (fun _ => ?_) (fun _ => ?_) | refine mo_lq (fun _ => ?_) | refine mo_hpI ?_ | refine mo_hpR ?_ | refine mo_hAi (fun _ => ?_) | refine mo_hAr (fun _ => ?_) | refine mo_hWi ?_ | refine mo_hWr ?_ | refine mo_hLn (fun _ => ?_) | refine mo_hgL (fun _ => ?_) | refine mo_hpL ?_ | refine mo_hpZ ?_ | refine mo_bd ?_ (fun _ => ?_) | refine mo_hCi (fun _ => ?_) (fun _ => ?_) | refine mo_hNw (fun _ => ?_) | refine mo_hNa (fun _ => ?_) | refine mo_hCp ?_ | refine mo_hOi ?_ | refine mo_hAl (fun _ => ?_) | refine mo_hWl ?_ | refine mo_gd ?_ | refine mo_sLn (fun _ => ?_) | refine mo_sAt (fun _ => ?_) | refine mo_kLn (fun _ => ?_) | refine mo_kAt (fun _ => ?_))
set_option maxRecDepth 10000 in
theorem sc_X4_value_J203 {g : Gm Hp Int64} (B : Bx g cX4_value 4 RX4 voL (some .long) 4 109 "value") {l0 : Nat} (l1 : Option Nat) : Sm g 4 203 [(1, va_rf l1)] [] (C_X4_value_J203 l0 l1) := by
  unfold C_X4_value_J203
  refine s_rload_n B.1.1 0 dX4_value_203 rfl rfl ?_
  refine hp_cvi (As := []) (st := []) 7 rfl (by decide) B.1 (fun a => mC_X5_two B.2.1 a ) cc_X5_two cl_X4_85 cn_X5_two ce_X5_two ci_X5 cd_X5_two (by decide) rfl (Nat.le_of_ble_eq_true rfl) dX4_value_204 (fun r3 => ?_)
  refine s_i2l B.1.1 dX4_value_207 ?_
  exact s_lret B.1.1 B.2.2.2.2 dX4_value_208
def C_X4_value_J192 (l0 : Nat) (l1 : Option Nat) : Hp → Option (Int64 × Hp) :=
  hCv 7 l1 (fun a => C_X5_four a) fun r4 =>
  rt (r4)
set_option maxRecDepth 10000 in
theorem mo_C_X4_value_J192 (l0 : Nat) (l1 : Option Nat) : Mo (C_X4_value_J192 l0 l1) := by
  unfold C_X4_value_J192
  repeat' (with_reducible first | assumption | exact mo_rt _ | exact mo_zt _ | exact mo_no | apply mo_C_X5_four | refine mo_ite ?_ ?_ | refine mo_hgI (fun _ => ?_) | refine mo_hgR (fun _ => ?_) | refine mo_hCv (fun _ => ?_) (fun _ => ?_) | refine mo_lq (fun _ => ?_) | refine mo_hpI ?_ | refine mo_hpR ?_ | refine mo_hAi (fun _ => ?_) | refine mo_hAr (fun _ => ?_) | refine mo_hWi ?_ | refine mo_hWr ?_ | refine mo_hLn (fun _ => ?_) | refine mo_hgL (fun _ => ?_) | refine mo_hpL ?_ | refine mo_hpZ ?_ | refine mo_bd ?_ (fun _ => ?_) | refine mo_hCi (fun _ => ?_) (fun _ => ?_) | refine mo_hNw (fun _ => ?_) | refine mo_hNa (fun _ => ?_) | refine mo_hCp ?_ | refine mo_hOi ?_ | refine mo_hAl (fun _ => ?_) | refine mo_hWl ?_ | refine mo_gd ?_ | refine mo_sLn (fun _ => ?_) | refine mo_sAt (fun _ => ?_) | refine mo_kLn (fun _ => ?_) | refine mo_kAt (fun _ => ?_))
set_option maxRecDepth 10000 in
theorem sc_X4_value_J192 {g : Gm Hp Int64} (B : Bx g cX4_value 4 RX4 voL (some .long) 4 109 "value") {l0 : Nat} (l1 : Option Nat) : Sm g 4 192 [(1, va_rf l1)] [] (C_X4_value_J192 l0 l1) := by
  unfold C_X4_value_J192
  refine s_rload_n B.1.1 0 dX4_value_192 rfl rfl ?_
  refine hp_cvl (As := []) (st := []) 7 rfl (by decide) B.1 (fun a => mC_X5_four B.2.1 a ) cc_X5_four cl_X4_81 cn_X5_four ce_X5_four ci_X5 cd_X5_four (by decide) rfl (Nat.le_of_ble_eq_true rfl) dX4_value_193 (fun r4 => ?_)
  exact s_lret B.1.1 B.2.2.2.2 dX4_value_196
def C_X4_value_J189 (l0 : Nat) (l3 : Int32) : Hp → Option (Int64 × Hp) :=
  rt (l3.toInt64)
set_option maxRecDepth 10000 in
theorem mo_C_X4_value_J189 (l0 : Nat) (l3 : Int32) : Mo (C_X4_value_J189 l0 l3) := by
  unfold C_X4_value_J189
  repeat' (with_reducible first | assumption | exact mo_rt _ | exact mo_zt _ | exact mo_no | refine mo_ite ?_ ?_ | refine mo_hgI (fun _ => ?_) | refine mo_hgR (fun _ => ?_) | refine mo_hCv (fun _ => ?_) (fun _ => ?_) | refine mo_lq (fun _ => ?_) | refine mo_hpI ?_ | refine mo_hpR ?_ | refine mo_hAi (fun _ => ?_) | refine mo_hAr (fun _ => ?_) | refine mo_hWi ?_ | refine mo_hWr ?_ | refine mo_hLn (fun _ => ?_) | refine mo_hgL (fun _ => ?_) | refine mo_hpL ?_ | refine mo_hpZ ?_ | refine mo_bd ?_ (fun _ => ?_) | refine mo_hCi (fun _ => ?_) (fun _ => ?_) | refine mo_hNw (fun _ => ?_) | refine mo_hNa (fun _ => ?_) | refine mo_hCp ?_ | refine mo_hOi ?_ | refine mo_hAl (fun _ => ?_) | refine mo_hWl ?_ | refine mo_gd ?_ | refine mo_sLn (fun _ => ?_) | refine mo_sAt (fun _ => ?_) | refine mo_kLn (fun _ => ?_) | refine mo_kAt (fun _ => ?_))
set_option maxRecDepth 10000 in
theorem sc_X4_value_J189 {g : Gm Hp Int64} (B : Bx g cX4_value 4 RX4 voL (some .long) 4 109 "value") {l0 : Nat} (l3 : Int32) : Sm g 4 189 [(3, .int l3)] [] (C_X4_value_J189 l0 l3) := by
  unfold C_X4_value_J189
  refine s_iload_n B.1.1 0 dX4_value_189 rfl rfl ?_
  refine s_i2l B.1.1 dX4_value_190 ?_
  exact s_lret B.1.1 B.2.2.2.2 dX4_value_191
def C_X4_value_J172 (l0 : Nat) (l1 : Option Nat) : Hp → Option (Int64 × Hp) :=
  hCv 7 l1 (fun a => C_X5_one a) fun r5 =>
  if r5 ≤ (1 : Int32) then (
    C_X4_value_J189 l0 r5
  ) else (
    hCv 7 l1 (fun a => C_X5_fail a (129 : Int32)) fun r6 =>
    C_X4_value_J189 l0 r5
  )
set_option maxRecDepth 10000 in
theorem mo_C_X4_value_J172 (l0 : Nat) (l1 : Option Nat) : Mo (C_X4_value_J172 l0 l1) := by
  unfold C_X4_value_J172
  repeat' (with_reducible first | assumption | exact mo_rt _ | exact mo_zt _ | exact mo_no | apply mo_C_X5_one | apply mo_C_X4_value_J189 | apply mo_C_X5_fail | refine mo_ite ?_ ?_ | refine mo_hgI (fun _ => ?_) | refine mo_hgR (fun _ => ?_) | refine mo_hCv (fun _ => ?_) (fun _ => ?_) | refine mo_lq (fun _ => ?_) | refine mo_hpI ?_ | refine mo_hpR ?_ | refine mo_hAi (fun _ => ?_) | refine mo_hAr (fun _ => ?_) | refine mo_hWi ?_ | refine mo_hWr ?_ | refine mo_hLn (fun _ => ?_) | refine mo_hgL (fun _ => ?_) | refine mo_hpL ?_ | refine mo_hpZ ?_ | refine mo_bd ?_ (fun _ => ?_) | refine mo_hCi (fun _ => ?_) (fun _ => ?_) | refine mo_hNw (fun _ => ?_) | refine mo_hNa (fun _ => ?_) | refine mo_hCp ?_ | refine mo_hOi ?_ | refine mo_hAl (fun _ => ?_) | refine mo_hWl ?_ | refine mo_gd ?_ | refine mo_sLn (fun _ => ?_) | refine mo_sAt (fun _ => ?_) | refine mo_kLn (fun _ => ?_) | refine mo_kAt (fun _ => ?_))
set_option maxRecDepth 10000 in
theorem sc_X4_value_J172 {g : Gm Hp Int64} (B : Bx g cX4_value 4 RX4 voL (some .long) 4 109 "value") {l0 : Nat} (l1 : Option Nat) : Sm g 4 172 [(1, va_rf l1)] [] (C_X4_value_J172 l0 l1) := by
  unfold C_X4_value_J172
  refine s_rload_n B.1.1 0 dX4_value_172 rfl rfl ?_
  refine hp_cvi (As := []) (st := []) 7 rfl (by decide) B.1 (fun a => mC_X5_one B.2.1 a ) cc_X5_one cl_X4_65 cn_X5_one ce_X5_one ci_X5 cd_X5_one (by decide) rfl (Nat.le_of_ble_eq_true rfl) dX4_value_173 (fun r5 => ?_)
  refine s_istore_n (i := 3) (lv' := [(3, .int r5), (1, va_rf l1)]) B.1.1 dX4_value_176 rfl (by decide) rfl ?_
  refine s_iload_n B.1.1 0 dX4_value_177 rfl rfl ?_
  refine s_iconst (v := 1) B.1.1 dX4_value_178 (by decide) ?_
  refine s_icmp_le B.1.1 189 dX4_value_179 (by decide) ?_ ?_
  · exact Sm.lvs [0] rfl (sc_X4_value_J189 B r5)
  · refine s_rload_n B.1.1 1 dX4_value_182 rfl rfl ?_
    refine s_sipush (v := (129)) B.1.1 dX4_value_183 (by decide) ?_
    refine hp_cvv (As := [.int (129 : Int32)]) (st := []) 7 rfl (by decide) B.1 (fun a => mC_X5_fail B.2.1 a (129 : Int32)) cc_X5_fail cl_X4_69 cn_X5_fail ce_X5_fail ci_X5 cd_X5_fail (by decide) rfl (Nat.le_of_ble_eq_true rfl) dX4_value_186 (fun r6 => ?_)
    exact Sm.lvs [0] rfl (sc_X4_value_J189 B r5)
def C_X4_value (l0 : Nat) (l1 : Option Nat) (l2 : Int32) : Hp → Option (Int64 × Hp) :=
  if l2 = 1 then (
    C_X4_value_J172 l0 l1
  ) else
  if l2 = 2 then (
    C_X4_value_J192 l0 l1
  ) else
  if l2 = 3 then (
    C_X4_value_J242 l0 l1
  ) else
  if l2 = 4 then (
    C_X4_value_J242 l0 l1
  ) else
  if l2 = 5 then (
    C_X4_value_J242 l0 l1
  ) else
  if l2 = 6 then (
    C_X4_value_J242 l0 l1
  ) else
  if l2 = 7 then (
    C_X4_value_J242 l0 l1
  ) else
  if l2 = 8 then (
    hCv 7 l1 (fun a => C_X5_row a (1 : Int32)) fun r7 =>
    hpR 6 7 (some l0) r7 <|
    rt ((0 : Int64))
  ) else
  if l2 = 9 then (
    C_X4_value_J220 l0 l1
  ) else
  if l2 = 10 then (
    C_X4_value_J242 l0 l1
  ) else
  if l2 = 11 then (
    hCv 7 l1 (fun a => C_X5_variable a) fun r8 =>
    rt (r8.toInt64)
  ) else
  if l2 = 12 then (
    C_X4_value_J242 l0 l1
  ) else
  if l2 = 13 then (
    C_X4_value_J242 l0 l1
  ) else
  if l2 = 14 then (
    C_X4_value_J242 l0 l1
  ) else
  if l2 = 15 then (
    C_X4_value_J242 l0 l1
  ) else
  if l2 = 16 then (
    C_X4_value_J242 l0 l1
  ) else
  if l2 = 17 then (
    C_X4_value_J192 l0 l1
  ) else
  if l2 = 18 then (
    C_X4_value_J242 l0 l1
  ) else
  if l2 = 19 then (
    C_X4_value_J242 l0 l1
  ) else
  if l2 = 20 then (
    C_X4_value_J242 l0 l1
  ) else
  if l2 = 21 then (
    C_X4_value_J242 l0 l1
  ) else
  if l2 = 22 then (
    C_X4_value_J220 l0 l1
  ) else
  if l2 = 23 then (
    C_X4_value_J172 l0 l1
  ) else
  if l2 = 24 then (
    C_X4_value_J192 l0 l1
  ) else
  if l2 = 25 then (
    C_X4_value_J172 l0 l1
  ) else
  if l2 = 26 then (
    C_X4_value_J242 l0 l1
  ) else
  if l2 = 27 then (
    C_X4_value_J242 l0 l1
  ) else
  if l2 = 28 then (
    C_X4_value_J242 l0 l1
  ) else
  if l2 = 29 then (
    C_X4_value_J242 l0 l1
  ) else
  if l2 = 30 then (
    C_X4_value_J242 l0 l1
  ) else
  if l2 = 31 then (
    C_X4_value_J242 l0 l1
  ) else
  if l2 = 32 then (
    C_X4_value_J242 l0 l1
  ) else
  if l2 = 33 then (
    C_X4_value_J203 l0 l1
  ) else
  if l2 = 34 then (
    C_X4_value_J203 l0 l1
  ) else
  if l2 = 35 then (
    C_X4_value_J203 l0 l1
  ) else
  if l2 = 36 then (
    C_X4_value_J242 l0 l1
  ) else
  if l2 = 37 then (
    C_X4_value_J242 l0 l1
  ) else
  if l2 = 38 then (
    hCv 7 l1 (fun a => C_X5_row a (1 : Int32)) fun r9 =>
    hCv 7 l1 (fun a => C_X5_row a (1 : Int32)) fun r10 =>
    rt ((0 : Int64))
  ) else
  if l2 = 39 then (
    C_X4_value_J192 l0 l1
  ) else
  (
    C_X4_value_J242 l0 l1
  )
set_option maxRecDepth 10000 in
theorem mo_C_X4_value (l0 : Nat) (l1 : Option Nat) (l2 : Int32) : Mo (C_X4_value l0 l1 l2) := by
  unfold C_X4_value
  repeat' (with_reducible first | assumption | exact mo_rt _ | exact mo_zt _ | exact mo_no | apply mo_C_X4_value_J172 | apply mo_C_X4_value_J192 | apply mo_C_X4_value_J242 | apply mo_C_X5_row | apply mo_C_X4_value_J220 | apply mo_C_X5_variable | apply mo_C_X4_value_J203 | refine mo_ite ?_ ?_ | refine mo_hgI (fun _ => ?_) | refine mo_hgR (fun _ => ?_) | refine mo_hCv (fun _ => ?_) (fun _ => ?_) | refine mo_lq (fun _ => ?_) | refine mo_hpI ?_ | refine mo_hpR ?_ | refine mo_hAi (fun _ => ?_) | refine mo_hAr (fun _ => ?_) | refine mo_hWi ?_ | refine mo_hWr ?_ | refine mo_hLn (fun _ => ?_) | refine mo_hgL (fun _ => ?_) | refine mo_hpL ?_ | refine mo_hpZ ?_ | refine mo_bd ?_ (fun _ => ?_) | refine mo_hCi (fun _ => ?_) (fun _ => ?_) | refine mo_hNw (fun _ => ?_) | refine mo_hNa (fun _ => ?_) | refine mo_hCp ?_ | refine mo_hOi ?_ | refine mo_hAl (fun _ => ?_) | refine mo_hWl ?_ | refine mo_gd ?_ | refine mo_sLn (fun _ => ?_) | refine mo_sAt (fun _ => ?_) | refine mo_kLn (fun _ => ?_) | refine mo_kAt (fun _ => ?_))
set_option maxRecDepth 10000 in
theorem mC_X4_value {w : Wd} (hw : Wc w) (l0 : Nat) (l1 : Option Nat) (l2 : Int32) : MH w yX4_value cX4_value 4 (some .long) 4 109 voL [va_rf (some l0), va_rf l1, .int l2] (C_X4_value l0 l1 l2) := by
  have M0 : ∀ g : Gm Hp Int64, g.1 = w → Bx g cX4_value 4 RX4 voL (some .long) 4 109 "value" → Sm g 4 0 (lv_args 0 [va_rf (some l0), va_rf l1, .int l2]) [] (C_X4_value l0 l1 l2) := by
    intro g hg B
    subst hg
    unfold C_X4_value
    refine W_lva (lv := [(0, va_rf (some l0)), (1, va_rf l1), (2, .int l2)]) (by simp [lv_args, va_rf_cat, cat_i, cat_l, cat_r]) ?_
    refine s_iload_n B.1.1 2 dX4_value_0 rfl rfl ?_
    refine s_sw1 B.1.1 1 172 dX4_value_1 (by decide) (by decide) rfl (by decide) ?_ (fun hn1 => ?_)
    · exact Sm.lvs [1] rfl (sc_X4_value_J172 B l1)
    refine s_sw1 B.1.1 2 192 dX4_value_1 (by decide) (by decide) rfl (by decide) ?_ (fun hn2 => ?_)
    · exact Sm.lvs [1] rfl (sc_X4_value_J192 B l1)
    refine s_sw1 B.1.1 3 242 dX4_value_1 (by decide) (by decide) rfl (by decide) ?_ (fun hn3 => ?_)
    · exact Sm.lvs [1] rfl (sc_X4_value_J242 B l1)
    refine s_sw1 B.1.1 4 242 dX4_value_1 (by decide) (by decide) rfl (by decide) ?_ (fun hn4 => ?_)
    · exact Sm.lvs [1] rfl (sc_X4_value_J242 B l1)
    refine s_sw1 B.1.1 5 242 dX4_value_1 (by decide) (by decide) rfl (by decide) ?_ (fun hn5 => ?_)
    · exact Sm.lvs [1] rfl (sc_X4_value_J242 B l1)
    refine s_sw1 B.1.1 6 242 dX4_value_1 (by decide) (by decide) rfl (by decide) ?_ (fun hn6 => ?_)
    · exact Sm.lvs [1] rfl (sc_X4_value_J242 B l1)
    refine s_sw1 B.1.1 7 242 dX4_value_1 (by decide) (by decide) rfl (by decide) ?_ (fun hn7 => ?_)
    · exact Sm.lvs [1] rfl (sc_X4_value_J242 B l1)
    refine s_sw1 B.1.1 8 209 dX4_value_1 (by decide) (by decide) rfl (by decide) ?_ (fun hn8 => ?_)
    · refine s_rload_n B.1.1 0 dX4_value_209 rfl rfl ?_
      refine s_rload_n B.1.1 1 dX4_value_210 rfl rfl ?_
      refine s_iconst (v := 1) B.1.1 dX4_value_211 (by decide) ?_
      refine hp_cvr (As := [.int (1 : Int32)]) (st := [va_rf (some l0)]) 7 rfl (by decide) B.1 (fun a => mC_X5_row B.2.1 a (1 : Int32)) cc_X5_row cl_X4_88 cn_X5_row ce_X5_row ci_X5 cd_X5_row (by decide) rfl (Nat.le_of_ble_eq_true rfl) dX4_value_212 (fun r7 => ?_)
      refine hp_putR B.1 6 7 rfl (by decide) inX4 tyX4 tyX4_ok nmX4 (by decide) fk_X4_7 ft_X4_7 rfR rfl cf_X4_36 dX4_value_215 ?_
      refine s_lconst (v := 0) B.1.1 dX4_value_218 (by decide) ?_
      exact s_lret B.1.1 B.2.2.2.2 dX4_value_219
    refine s_sw1 B.1.1 9 220 dX4_value_1 (by decide) (by decide) rfl (by decide) ?_ (fun hn9 => ?_)
    · exact Sm.lvs [1] rfl (sc_X4_value_J220 B l1)
    refine s_sw1 B.1.1 10 242 dX4_value_1 (by decide) (by decide) rfl (by decide) ?_ (fun hn10 => ?_)
    · exact Sm.lvs [1] rfl (sc_X4_value_J242 B l1)
    refine s_sw1 B.1.1 11 197 dX4_value_1 (by decide) (by decide) rfl (by decide) ?_ (fun hn11 => ?_)
    · refine s_rload_n B.1.1 1 dX4_value_197 rfl rfl ?_
      refine hp_cvi (As := []) (st := []) 7 rfl (by decide) B.1 (fun a => mC_X5_variable B.2.1 a ) cc_X5_variable cl_X4_48 cn_X5_variable ce_X5_variable ci_X5 cd_X5_variable (by decide) rfl (Nat.le_of_ble_eq_true rfl) dX4_value_198 (fun r8 => ?_)
      refine s_i2l B.1.1 dX4_value_201 ?_
      exact s_lret B.1.1 B.2.2.2.2 dX4_value_202
    refine s_sw1 B.1.1 12 242 dX4_value_1 (by decide) (by decide) rfl (by decide) ?_ (fun hn12 => ?_)
    · exact Sm.lvs [1] rfl (sc_X4_value_J242 B l1)
    refine s_sw1 B.1.1 13 242 dX4_value_1 (by decide) (by decide) rfl (by decide) ?_ (fun hn13 => ?_)
    · exact Sm.lvs [1] rfl (sc_X4_value_J242 B l1)
    refine s_sw1 B.1.1 14 242 dX4_value_1 (by decide) (by decide) rfl (by decide) ?_ (fun hn14 => ?_)
    · exact Sm.lvs [1] rfl (sc_X4_value_J242 B l1)
    refine s_sw1 B.1.1 15 242 dX4_value_1 (by decide) (by decide) rfl (by decide) ?_ (fun hn15 => ?_)
    · exact Sm.lvs [1] rfl (sc_X4_value_J242 B l1)
    refine s_sw1 B.1.1 16 242 dX4_value_1 (by decide) (by decide) rfl (by decide) ?_ (fun hn16 => ?_)
    · exact Sm.lvs [1] rfl (sc_X4_value_J242 B l1)
    refine s_sw1 B.1.1 17 192 dX4_value_1 (by decide) (by decide) rfl (by decide) ?_ (fun hn17 => ?_)
    · exact Sm.lvs [1] rfl (sc_X4_value_J192 B l1)
    refine s_sw1 B.1.1 18 242 dX4_value_1 (by decide) (by decide) rfl (by decide) ?_ (fun hn18 => ?_)
    · exact Sm.lvs [1] rfl (sc_X4_value_J242 B l1)
    refine s_sw1 B.1.1 19 242 dX4_value_1 (by decide) (by decide) rfl (by decide) ?_ (fun hn19 => ?_)
    · exact Sm.lvs [1] rfl (sc_X4_value_J242 B l1)
    refine s_sw1 B.1.1 20 242 dX4_value_1 (by decide) (by decide) rfl (by decide) ?_ (fun hn20 => ?_)
    · exact Sm.lvs [1] rfl (sc_X4_value_J242 B l1)
    refine s_sw1 B.1.1 21 242 dX4_value_1 (by decide) (by decide) rfl (by decide) ?_ (fun hn21 => ?_)
    · exact Sm.lvs [1] rfl (sc_X4_value_J242 B l1)
    refine s_sw1 B.1.1 22 220 dX4_value_1 (by decide) (by decide) rfl (by decide) ?_ (fun hn22 => ?_)
    · exact Sm.lvs [1] rfl (sc_X4_value_J220 B l1)
    refine s_sw1 B.1.1 23 172 dX4_value_1 (by decide) (by decide) rfl (by decide) ?_ (fun hn23 => ?_)
    · exact Sm.lvs [1] rfl (sc_X4_value_J172 B l1)
    refine s_sw1 B.1.1 24 192 dX4_value_1 (by decide) (by decide) rfl (by decide) ?_ (fun hn24 => ?_)
    · exact Sm.lvs [1] rfl (sc_X4_value_J192 B l1)
    refine s_sw1 B.1.1 25 172 dX4_value_1 (by decide) (by decide) rfl (by decide) ?_ (fun hn25 => ?_)
    · exact Sm.lvs [1] rfl (sc_X4_value_J172 B l1)
    refine s_sw1 B.1.1 26 242 dX4_value_1 (by decide) (by decide) rfl (by decide) ?_ (fun hn26 => ?_)
    · exact Sm.lvs [1] rfl (sc_X4_value_J242 B l1)
    refine s_sw1 B.1.1 27 242 dX4_value_1 (by decide) (by decide) rfl (by decide) ?_ (fun hn27 => ?_)
    · exact Sm.lvs [1] rfl (sc_X4_value_J242 B l1)
    refine s_sw1 B.1.1 28 242 dX4_value_1 (by decide) (by decide) rfl (by decide) ?_ (fun hn28 => ?_)
    · exact Sm.lvs [1] rfl (sc_X4_value_J242 B l1)
    refine s_sw1 B.1.1 29 242 dX4_value_1 (by decide) (by decide) rfl (by decide) ?_ (fun hn29 => ?_)
    · exact Sm.lvs [1] rfl (sc_X4_value_J242 B l1)
    refine s_sw1 B.1.1 30 242 dX4_value_1 (by decide) (by decide) rfl (by decide) ?_ (fun hn30 => ?_)
    · exact Sm.lvs [1] rfl (sc_X4_value_J242 B l1)
    refine s_sw1 B.1.1 31 242 dX4_value_1 (by decide) (by decide) rfl (by decide) ?_ (fun hn31 => ?_)
    · exact Sm.lvs [1] rfl (sc_X4_value_J242 B l1)
    refine s_sw1 B.1.1 32 242 dX4_value_1 (by decide) (by decide) rfl (by decide) ?_ (fun hn32 => ?_)
    · exact Sm.lvs [1] rfl (sc_X4_value_J242 B l1)
    refine s_sw1 B.1.1 33 203 dX4_value_1 (by decide) (by decide) rfl (by decide) ?_ (fun hn33 => ?_)
    · exact Sm.lvs [1] rfl (sc_X4_value_J203 B l1)
    refine s_sw1 B.1.1 34 203 dX4_value_1 (by decide) (by decide) rfl (by decide) ?_ (fun hn34 => ?_)
    · exact Sm.lvs [1] rfl (sc_X4_value_J203 B l1)
    refine s_sw1 B.1.1 35 203 dX4_value_1 (by decide) (by decide) rfl (by decide) ?_ (fun hn35 => ?_)
    · exact Sm.lvs [1] rfl (sc_X4_value_J203 B l1)
    refine s_sw1 B.1.1 36 242 dX4_value_1 (by decide) (by decide) rfl (by decide) ?_ (fun hn36 => ?_)
    · exact Sm.lvs [1] rfl (sc_X4_value_J242 B l1)
    refine s_sw1 B.1.1 37 242 dX4_value_1 (by decide) (by decide) rfl (by decide) ?_ (fun hn37 => ?_)
    · exact Sm.lvs [1] rfl (sc_X4_value_J242 B l1)
    refine s_sw1 B.1.1 38 228 dX4_value_1 (by decide) (by decide) rfl (by decide) ?_ (fun hn38 => ?_)
    · refine s_rload_n B.1.1 1 dX4_value_228 rfl rfl ?_
      refine s_iconst (v := 1) B.1.1 dX4_value_229 (by decide) ?_
      refine hp_cvr (As := [.int (1 : Int32)]) (st := []) 7 rfl (by decide) B.1 (fun a => mC_X5_row B.2.1 a (1 : Int32)) cc_X5_row cl_X4_88 cn_X5_row ce_X5_row ci_X5 cd_X5_row (by decide) rfl (Nat.le_of_ble_eq_true rfl) dX4_value_230 (fun r9 => ?_)
      refine s_pop B.1.1 dX4_value_233 (va_rf_cat _) ?_
      refine s_rload_n B.1.1 1 dX4_value_234 rfl rfl ?_
      refine s_iconst (v := 1) B.1.1 dX4_value_235 (by decide) ?_
      refine hp_cvr (As := [.int (1 : Int32)]) (st := []) 7 rfl (by decide) B.1 (fun a => mC_X5_row B.2.1 a (1 : Int32)) cc_X5_row cl_X4_88 cn_X5_row ce_X5_row ci_X5 cd_X5_row (by decide) rfl (Nat.le_of_ble_eq_true rfl) dX4_value_236 (fun r10 => ?_)
      refine s_pop B.1.1 dX4_value_239 (va_rf_cat _) ?_
      refine s_lconst (v := 0) B.1.1 dX4_value_240 (by decide) ?_
      exact s_lret B.1.1 B.2.2.2.2 dX4_value_241
    refine s_sw1 B.1.1 39 192 dX4_value_1 (by decide) (by decide) rfl (by decide) ?_ (fun hn39 => ?_)
    · exact Sm.lvs [1] rfl (sc_X4_value_J192 B l1)
    have hout : (l2).toInt < 1 ∨ 39 < (l2).toInt := by
      have z1 : ¬ (l2).toInt = 1 := sw_ne hn1 (by decide); have z2 : ¬ (l2).toInt = 2 := sw_ne hn2 (by decide); have z3 : ¬ (l2).toInt = 3 := sw_ne hn3 (by decide); have z4 : ¬ (l2).toInt = 4 := sw_ne hn4 (by decide); have z5 : ¬ (l2).toInt = 5 := sw_ne hn5 (by decide); have z6 : ¬ (l2).toInt = 6 := sw_ne hn6 (by decide); have z7 : ¬ (l2).toInt = 7 := sw_ne hn7 (by decide); have z8 : ¬ (l2).toInt = 8 := sw_ne hn8 (by decide); have z9 : ¬ (l2).toInt = 9 := sw_ne hn9 (by decide); have z10 : ¬ (l2).toInt = 10 := sw_ne hn10 (by decide); have z11 : ¬ (l2).toInt = 11 := sw_ne hn11 (by decide); have z12 : ¬ (l2).toInt = 12 := sw_ne hn12 (by decide); have z13 : ¬ (l2).toInt = 13 := sw_ne hn13 (by decide); have z14 : ¬ (l2).toInt = 14 := sw_ne hn14 (by decide); have z15 : ¬ (l2).toInt = 15 := sw_ne hn15 (by decide); have z16 : ¬ (l2).toInt = 16 := sw_ne hn16 (by decide); have z17 : ¬ (l2).toInt = 17 := sw_ne hn17 (by decide); have z18 : ¬ (l2).toInt = 18 := sw_ne hn18 (by decide); have z19 : ¬ (l2).toInt = 19 := sw_ne hn19 (by decide); have z20 : ¬ (l2).toInt = 20 := sw_ne hn20 (by decide); have z21 : ¬ (l2).toInt = 21 := sw_ne hn21 (by decide); have z22 : ¬ (l2).toInt = 22 := sw_ne hn22 (by decide); have z23 : ¬ (l2).toInt = 23 := sw_ne hn23 (by decide); have z24 : ¬ (l2).toInt = 24 := sw_ne hn24 (by decide); have z25 : ¬ (l2).toInt = 25 := sw_ne hn25 (by decide); have z26 : ¬ (l2).toInt = 26 := sw_ne hn26 (by decide); have z27 : ¬ (l2).toInt = 27 := sw_ne hn27 (by decide); have z28 : ¬ (l2).toInt = 28 := sw_ne hn28 (by decide); have z29 : ¬ (l2).toInt = 29 := sw_ne hn29 (by decide); have z30 : ¬ (l2).toInt = 30 := sw_ne hn30 (by decide); have z31 : ¬ (l2).toInt = 31 := sw_ne hn31 (by decide); have z32 : ¬ (l2).toInt = 32 := sw_ne hn32 (by decide); have z33 : ¬ (l2).toInt = 33 := sw_ne hn33 (by decide); have z34 : ¬ (l2).toInt = 34 := sw_ne hn34 (by decide); have z35 : ¬ (l2).toInt = 35 := sw_ne hn35 (by decide); have z36 : ¬ (l2).toInt = 36 := sw_ne hn36 (by decide); have z37 : ¬ (l2).toInt = 37 := sw_ne hn37 (by decide); have z38 : ¬ (l2).toInt = 38 := sw_ne hn38 (by decide); have z39 : ¬ (l2).toInt = 39 := sw_ne hn39 (by decide); omega
    refine s_swD B.1.1 242 dX4_value_1 hout (by decide) ?_
    exact Sm.lvs [1] rfl (sc_X4_value_J242 B l1)
  exact MH.of hw ⟨rfl, rfl⟩ (by decide) (by simp [lg_sl, va_rf_cat, cat_i, cat_l, cat_r]) (mo_C_X4_value l0 l1 l2) M0
def C_X5_left (l0 : Nat) : Hp → Option (Int32 × Hp) :=
  hgI 7 4 (some l0) fun v1 =>
  if v1 = 0 then (
    hgI 7 3 (some l0) fun v2 =>
    hgI 7 2 (some l0) fun v3 =>
    rt (v2 - v3)
  ) else (
    rt ((0 : Int32))
  )
set_option maxRecDepth 10000 in
theorem mo_C_X5_left (l0 : Nat) : Mo (C_X5_left l0) := by
  unfold C_X5_left
  repeat' (with_reducible first | assumption | exact mo_rt _ | exact mo_zt _ | exact mo_no | refine mo_ite ?_ ?_ | refine mo_hgI (fun _ => ?_) | refine mo_hgR (fun _ => ?_) | refine mo_hCv (fun _ => ?_) (fun _ => ?_) | refine mo_lq (fun _ => ?_) | refine mo_hpI ?_ | refine mo_hpR ?_ | refine mo_hAi (fun _ => ?_) | refine mo_hAr (fun _ => ?_) | refine mo_hWi ?_ | refine mo_hWr ?_ | refine mo_hLn (fun _ => ?_) | refine mo_hgL (fun _ => ?_) | refine mo_hpL ?_ | refine mo_hpZ ?_ | refine mo_bd ?_ (fun _ => ?_) | refine mo_hCi (fun _ => ?_) (fun _ => ?_) | refine mo_hNw (fun _ => ?_) | refine mo_hNa (fun _ => ?_) | refine mo_hCp ?_ | refine mo_hOi ?_ | refine mo_hAl (fun _ => ?_) | refine mo_hWl ?_ | refine mo_gd ?_ | refine mo_sLn (fun _ => ?_) | refine mo_sAt (fun _ => ?_) | refine mo_kLn (fun _ => ?_) | refine mo_kAt (fun _ => ?_))
set_option maxRecDepth 10000 in
theorem mC_X5_left {w : Wd} (hw : Wc w) (l0 : Nat) : MH w yX5_left cX5_left 1 (some .int) 0 0 voI [va_rf (some l0)] (C_X5_left l0) := by
  have M0 : ∀ g : Gm Hp Int32, g.1 = w → Bx g cX5_left 1 RX5 voI (some .int) 0 0 "left" → Sm g 1 0 (lv_args 0 [va_rf (some l0)]) [] (C_X5_left l0) := by
    intro g hg B
    subst hg
    unfold C_X5_left
    refine W_lva (lv := [(0, va_rf (some l0))]) (by simp [lv_args, va_rf_cat, cat_i, cat_l, cat_r]) ?_
    refine s_rload_n B.1.1 0 dX5_left_0 rfl rfl ?_
    refine hp_getI B.1 7 4 rfl (by decide) inX5 (by decide) fk_X5_4.1 fk_X5_4.2 cf_X5_38 dX5_left_1 (fun v1 => ?_)
    refine s_if_ne B.1.1 19 dX5_left_4 (by decide) ?_ ?_
    · refine s_iconst (v := 0) B.1.1 dX5_left_19 (by decide) ?_
      exact s_iret B.1.1 B.2.2.2.2 dX5_left_20
    · refine s_rload_n B.1.1 0 dX5_left_7 rfl rfl ?_
      refine hp_getI B.1 7 3 rfl (by decide) inX5 (by decide) fk_X5_3.1 fk_X5_3.2 cf_X5_35 dX5_left_8 (fun v2 => ?_)
      refine s_rload_n B.1.1 0 dX5_left_11 rfl rfl ?_
      refine hp_getI B.1 7 2 rfl (by decide) inX5 (by decide) fk_X5_2.1 fk_X5_2.2 cf_X5_25 dX5_left_12 (fun v3 => ?_)
      refine s_isub B.1.1 dX5_left_15 ?_
      refine s_goto B.1.1 20 dX5_left_16 (by decide) ?_
      exact s_iret B.1.1 B.2.2.2.2 dX5_left_20
  exact MH.of hw ⟨rfl, rfl⟩ (by decide) (by simp [lg_sl, va_rf_cat, cat_i, cat_l, cat_r]) (mo_C_X5_left l0) M0
def C_X4_read_J187 (l0 : Nat) (l1 : Option Nat) (l5 : Int32) : Hp → Option (Unit × Hp) :=
  hpI 7 3 l1 l5 <|
  rt ()
set_option maxRecDepth 10000 in
theorem mo_C_X4_read_J187 (l0 : Nat) (l1 : Option Nat) (l5 : Int32) : Mo (C_X4_read_J187 l0 l1 l5) := by
  unfold C_X4_read_J187
  repeat' (with_reducible first | assumption | exact mo_rt _ | exact mo_zt _ | exact mo_no | refine mo_ite ?_ ?_ | refine mo_hgI (fun _ => ?_) | refine mo_hgR (fun _ => ?_) | refine mo_hCv (fun _ => ?_) (fun _ => ?_) | refine mo_lq (fun _ => ?_) | refine mo_hpI ?_ | refine mo_hpR ?_ | refine mo_hAi (fun _ => ?_) | refine mo_hAr (fun _ => ?_) | refine mo_hWi ?_ | refine mo_hWr ?_ | refine mo_hLn (fun _ => ?_) | refine mo_hgL (fun _ => ?_) | refine mo_hpL ?_ | refine mo_hpZ ?_ | refine mo_bd ?_ (fun _ => ?_) | refine mo_hCi (fun _ => ?_) (fun _ => ?_) | refine mo_hNw (fun _ => ?_) | refine mo_hNa (fun _ => ?_) | refine mo_hCp ?_ | refine mo_hOi ?_ | refine mo_hAl (fun _ => ?_) | refine mo_hWl ?_ | refine mo_gd ?_ | refine mo_sLn (fun _ => ?_) | refine mo_sAt (fun _ => ?_) | refine mo_kLn (fun _ => ?_) | refine mo_kAt (fun _ => ?_))
set_option maxRecDepth 10000 in
theorem sc_X4_read_J187 {g : Gm Hp Unit} (B : Bx g cX4_read 9 RX4 voV none 5 132 "read") {l0 : Nat} (l1 : Option Nat) (l5 : Int32) : Sm g 9 187 [(1, va_rf l1), (5, .int l5)] [] (C_X4_read_J187 l0 l1 l5) := by
  unfold C_X4_read_J187
  refine s_rload_n B.1.1 0 dX4_read_187 rfl rfl ?_
  refine s_iload B.1.1 1 dX4_read_188 rfl ?_
  refine hp_putI B.1 7 3 rfl (by decide) inX5 tyX5 tyX5_ok nmX5 (by decide) fk_X5_3.1 fk_X5_3.2 ft_X5_3 rfl cf_X4_56 dX4_read_190 ?_
  exact s_vret B.1.1 B.2.2.2.2 dX4_read_193
def C_X4_read_J109 (l0 : Nat) (l1 : Option Nat) : Hp → Option (Unit × Hp) :=
  hCv 7 l1 (fun a => C_X5_fail a (130 : Int32)) fun r1 =>
  rt ()
set_option maxRecDepth 10000 in
theorem mo_C_X4_read_J109 (l0 : Nat) (l1 : Option Nat) : Mo (C_X4_read_J109 l0 l1) := by
  unfold C_X4_read_J109
  repeat' (with_reducible first | assumption | exact mo_rt _ | exact mo_zt _ | exact mo_no | apply mo_C_X5_fail | refine mo_ite ?_ ?_ | refine mo_hgI (fun _ => ?_) | refine mo_hgR (fun _ => ?_) | refine mo_hCv (fun _ => ?_) (fun _ => ?_) | refine mo_lq (fun _ => ?_) | refine mo_hpI ?_ | refine mo_hpR ?_ | refine mo_hAi (fun _ => ?_) | refine mo_hAr (fun _ => ?_) | refine mo_hWi ?_ | refine mo_hWr ?_ | refine mo_hLn (fun _ => ?_) | refine mo_hgL (fun _ => ?_) | refine mo_hpL ?_ | refine mo_hpZ ?_ | refine mo_bd ?_ (fun _ => ?_) | refine mo_hCi (fun _ => ?_) (fun _ => ?_) | refine mo_hNw (fun _ => ?_) | refine mo_hNa (fun _ => ?_) | refine mo_hCp ?_ | refine mo_hOi ?_ | refine mo_hAl (fun _ => ?_) | refine mo_hWl ?_ | refine mo_gd ?_ | refine mo_sLn (fun _ => ?_) | refine mo_sAt (fun _ => ?_) | refine mo_kLn (fun _ => ?_) | refine mo_kAt (fun _ => ?_))
set_option maxRecDepth 10000 in
theorem sc_X4_read_J109 {g : Gm Hp Unit} (B : Bx g cX4_read 9 RX4 voV none 5 132 "read") {l0 : Nat} (l1 : Option Nat) : Sm g 9 109 [(1, va_rf l1)] [] (C_X4_read_J109 l0 l1) := by
  unfold C_X4_read_J109
  refine s_rload_n B.1.1 0 dX4_read_109 rfl rfl ?_
  refine s_sipush (v := (130)) B.1.1 dX4_read_110 (by decide) ?_
  refine hp_cvv (As := [.int (130 : Int32)]) (st := []) 7 rfl (by decide) B.1 (fun a => mC_X5_fail B.2.1 a (130 : Int32)) cc_X5_fail cl_X4_69 cn_X5_fail ce_X5_fail ci_X5 cd_X5_fail (by decide) rfl (Nat.le_of_ble_eq_true rfl) dX4_read_113 (fun r1 => ?_)
  exact s_vret B.1.1 B.2.2.2.2 dX4_read_116
def C_X4_read_J117 (l0 : Nat) (kb : Option Nat → Int64 → Int32 → Int32 → Hp → Option (Unit × Hp)) (ke109 : Option Nat → Hp → Option (Unit × Hp)) (ke187 : Option Nat → Int32 → Hp → Option (Unit × Hp)) (l1 : Option Nat) (l2 : Int64) (l5 : Int32) (l6 : Int32) (l7 : Int32) (l8 : Int32) : Hp → Option (Unit × Hp) :=
  hgL 6 0 (some l0) fun v2 =>
  hpL 6 0 (some l0) (v2 ||| (lshl6 (1 : Int64) l8)) <|
  hgR 6 2 (some l0) fun v3 =>
  hWi v3 l8 l7 <|
  hgR 6 1 (some l0) fun v4 =>
  hCv 6 (some l0) (fun a => C_X4_value a l1 l8) fun r5 =>
  hWl v4 l8 r5 <|
  hgR 6 3 (some l0) fun v6 =>
  hgI 7 2 l1 fun v7 =>
  hWi v6 l8 v7 <|
  if l8 = (38 : Int32) then (
    hgI 7 2 l1 fun v8 =>
    hCv 6 (some l0) (fun a => C_X4_addUser a l7 v8) fun r9 =>
    kb l1 l2 l5 (l6 + 1)
  ) else (
    kb l1 l2 l5 (l6 + 1)
  )
set_option maxRecDepth 10000 in
theorem mo_C_X4_read_J117 (l0 : Nat) (kb : Option Nat → Int64 → Int32 → Int32 → Hp → Option (Unit × Hp)) (ke109 : Option Nat → Hp → Option (Unit × Hp)) (ke187 : Option Nat → Int32 → Hp → Option (Unit × Hp)) (hkb : ∀ (l1 : Option Nat) (l2 : Int64) (l5 : Int32) (l6 : Int32), Mo (kb l1 l2 l5 l6)) (hke109 : ∀ (l1 : Option Nat), Mo (ke109 l1)) (hke187 : ∀ (l1 : Option Nat) (l5 : Int32), Mo (ke187 l1 l5)) (l1 : Option Nat) (l2 : Int64) (l5 : Int32) (l6 : Int32) (l7 : Int32) (l8 : Int32) : Mo (C_X4_read_J117 l0 kb ke109 ke187 l1 l2 l5 l6 l7 l8) := by
  unfold C_X4_read_J117
  repeat' (with_reducible first | assumption | exact mo_rt _ | exact mo_zt _ | exact mo_no | apply mo_C_X4_value | apply mo_C_X4_addUser | apply hkb | apply hke109 | apply hke187 | refine mo_ite ?_ ?_ | refine mo_hgI (fun _ => ?_) | refine mo_hgR (fun _ => ?_) | refine mo_hCv (fun _ => ?_) (fun _ => ?_) | refine mo_lq (fun _ => ?_) | refine mo_hpI ?_ | refine mo_hpR ?_ | refine mo_hAi (fun _ => ?_) | refine mo_hAr (fun _ => ?_) | refine mo_hWi ?_ | refine mo_hWr ?_ | refine mo_hLn (fun _ => ?_) | refine mo_hgL (fun _ => ?_) | refine mo_hpL ?_ | refine mo_hpZ ?_ | refine mo_bd ?_ (fun _ => ?_) | refine mo_hCi (fun _ => ?_) (fun _ => ?_) | refine mo_hNw (fun _ => ?_) | refine mo_hNa (fun _ => ?_) | refine mo_hCp ?_ | refine mo_hOi ?_ | refine mo_hAl (fun _ => ?_) | refine mo_hWl ?_ | refine mo_gd ?_ | refine mo_sLn (fun _ => ?_) | refine mo_sAt (fun _ => ?_) | refine mo_kLn (fun _ => ?_) | refine mo_kAt (fun _ => ?_))
set_option maxRecDepth 10000 in
theorem sc_X4_read_J117 {g : Gm Hp Unit} {kb : Option Nat → Int64 → Int32 → Int32 → Hp → Option (Unit × Hp)} {ke109 : Option Nat → Hp → Option (Unit × Hp)} {ke187 : Option Nat → Int32 → Hp → Option (Unit × Hp)} (B : Bx g cX4_read 9 RX4 voV none 5 132 "read") {l0 : Nat} (hkb : ∀ (l1 : Option Nat) (l2 : Int64) (l5 : Int32) (l6 : Int32), Sm g 9 48 [(0, va_rf (some l0)), (1, va_rf l1), (2, .long l2), (5, .int l5), (6, .int l6)] [] (kb l1 l2 l5 l6)) (hke109 : ∀ (l1 : Option Nat), Sm g 9 109 [(1, va_rf l1)] [] (ke109 l1)) (hke187 : ∀ (l1 : Option Nat) (l5 : Int32), Sm g 9 187 [(1, va_rf l1), (5, .int l5)] [] (ke187 l1 l5)) (l1 : Option Nat) (l2 : Int64) (l5 : Int32) (l6 : Int32) (l7 : Int32) (l8 : Int32) : Sm g 9 117 [(0, va_rf (some l0)), (1, va_rf l1), (2, .long l2), (5, .int l5), (6, .int l6), (7, .int l7), (8, .int l8)] [] (C_X4_read_J117 l0 kb ke109 ke187 l1 l2 l5 l6 l7 l8) := by
  unfold C_X4_read_J117
  refine s_rload_n B.1.1 0 dX4_read_117 rfl rfl ?_
  refine s_dup B.1.1 dX4_read_118 rfl ?_
  refine hp_getL B.1 6 0 rfl (by decide) inX4 (by decide) fk_X4_0 cf_X4_28 dX4_read_119 (fun v2 => ?_)
  refine s_lconst (v := 1) B.1.1 dX4_read_122 (by decide) ?_
  refine s_iload B.1.1 6 dX4_read_123 rfl ?_
  refine s_lshl B.1.1 dX4_read_125 ?_
  refine s_lor B.1.1 dX4_read_126 ?_
  refine hp_putL B.1 6 0 rfl (by decide) inX4 tyX4 tyX4_ok nmX4 (by decide) fk_X4_0 ft_X4_0 rfl cf_X4_28 dX4_read_127 ?_
  refine s_rload_n B.1.1 0 dX4_read_130 rfl rfl ?_
  refine hp_getR B.1 6 2 rfl (by decide) inX4 (by decide) fk_X4_2 cf_X4_15 dX4_read_131 (fun v3 => ?_)
  refine s_iload B.1.1 6 dX4_read_134 rfl ?_
  refine s_iload B.1.1 5 dX4_read_136 rfl ?_
  refine hp_Wi B.1 dX4_read_138 ?_
  refine s_rload_n B.1.1 0 dX4_read_139 rfl rfl ?_
  refine hp_getR B.1 6 1 rfl (by decide) inX4 (by decide) fk_X4_1 cf_X4_9 dX4_read_140 (fun v4 => ?_)
  refine s_iload B.1.1 6 dX4_read_143 rfl ?_
  refine s_rload_n B.1.1 0 dX4_read_145 rfl rfl ?_
  refine s_rload_n B.1.1 1 dX4_read_146 rfl rfl ?_
  refine s_iload B.1.1 6 dX4_read_147 rfl ?_
  refine hp_cvl (As := [va_rf l1, .int l8]) (st := [.int l8, va_rf v4]) 6 rfl (by decide) B.1 (fun a => mC_X4_value B.2.1 a l1 l8) cc_X4_value cl_X4_73 cn_X4_value ce_X4_value ci_X4 cd_X4_value (by decide) rfl (by simp [va_rf_cat, cat_i, cat_l, cat_r]) dX4_read_149 (fun r5 => ?_)
  refine hp_Wl B.1 dX4_read_152 ?_
  refine s_rload_n B.1.1 0 dX4_read_153 rfl rfl ?_
  refine hp_getR B.1 6 3 rfl (by decide) inX4 (by decide) fk_X4_3 cf_X4_19 dX4_read_154 (fun v6 => ?_)
  refine s_iload B.1.1 6 dX4_read_157 rfl ?_
  refine s_rload_n B.1.1 1 dX4_read_159 rfl rfl ?_
  refine hp_getI B.1 7 2 rfl (by decide) inX5 (by decide) fk_X5_2.1 fk_X5_2.2 cf_X4_59 dX4_read_160 (fun v7 => ?_)
  refine hp_Wi B.1 dX4_read_163 ?_
  refine s_iload B.1.1 6 dX4_read_164 rfl ?_
  refine s_bipush (v := (38)) B.1.1 dX4_read_166 (by decide) ?_
  refine s_icmp_ne B.1.1 181 dX4_read_168 (by decide) ?_ ?_
  · refine s_iinc (v := l6 + 1) (lv' := [(6, .int (l6 + 1)), (0, va_rf (some l0)), (1, va_rf l1), (2, .long l2), (5, .int l5), (7, .int l7), (8, .int l8)]) B.1.1 4 dX4_read_181 rfl rfl (by decide) rfl ?_
    refine s_goto B.1.1 48 dX4_read_184 (by decide) ?_
    exact Sm.lvs [1, 2, 3, 4, 0] rfl (hkb l1 l2 l5 (l6 + 1))
  · refine s_rload_n B.1.1 0 dX4_read_171 rfl rfl ?_
    refine s_iload B.1.1 5 dX4_read_172 rfl ?_
    refine s_rload_n B.1.1 1 dX4_read_174 rfl rfl ?_
    refine hp_getI B.1 7 2 rfl (by decide) inX5 (by decide) fk_X5_2.1 fk_X5_2.2 cf_X4_59 dX4_read_175 (fun v8 => ?_)
    refine hp_cvv (As := [.int l7, .int v8]) (st := []) 6 rfl (by decide) B.1 (fun a => mC_X4_addUser B.2.1 a l7 v8) cc_X4_addUser cl_X4_77 cn_X4_addUser ce_X4_addUser ci_X4 cd_X4_addUser (by decide) rfl (Nat.le_of_ble_eq_true rfl) dX4_read_178 (fun r9 => ?_)
    refine s_iinc (v := l6 + 1) (lv' := [(6, .int (l6 + 1)), (0, va_rf (some l0)), (1, va_rf l1), (2, .long l2), (5, .int l5), (7, .int l7), (8, .int l8)]) B.1.1 4 dX4_read_181 rfl rfl (by decide) rfl ?_
    refine s_goto B.1.1 48 dX4_read_184 (by decide) ?_
    exact Sm.lvs [1, 2, 3, 4, 0] rfl (hkb l1 l2 l5 (l6 + 1))
def C_X4_read_B48 (l0 : Nat) (kb : Option Nat → Int64 → Int32 → Int32 → Hp → Option (Unit × Hp)) (ke109 : Option Nat → Hp → Option (Unit × Hp)) (ke187 : Option Nat → Int32 → Hp → Option (Unit × Hp)) (l1 : Option Nat) (l2 : Int64) (l5 : Int32) (l6 : Int32) : Hp → Option (Unit × Hp) :=
  if (400 : Int32) ≤ l6 then (
    ke187 l1 l5
  ) else (
    hCv 7 l1 (fun a => C_X5_left a) fun r10 =>
    if r10 ≤ 0 then (
      ke187 l1 l5
    ) else (
      hgI 7 2 l1 fun v11 =>
      hCv 7 l1 (fun a => C_X5_one a) fun r12 =>
      if (40 : Int32) ≤ r12 then (
        ke109 l1
      ) else (
        if (lg_cmp ((lshr6 l2 r12) &&& (1 : Int64)) (0 : Int64)) = 0 then (
          ke109 l1
        ) else (
          if r12 = (38 : Int32) then (
            C_X4_read_J117 l0 kb ke109 ke187 l1 l2 l5 l6 v11 r12
          ) else (
            hCv 6 (some l0) (fun a => C_X4_has a r12) fun r13 =>
            if r13 = 0 then (
              C_X4_read_J117 l0 kb ke109 ke187 l1 l2 l5 l6 v11 r12
            ) else (
              ke109 l1
            )
          )
        )
      )
    )
  )
def C_X4_read_L48 (l0 : Nat) (ke109 : Option Nat → Hp → Option (Unit × Hp)) (ke187 : Option Nat → Int32 → Hp → Option (Unit × Hp)) : Nat → Option Nat → Int64 → Int32 → Int32 → Hp → Option (Unit × Hp)
  | 0, _, _, _, _ => no
  | n + 1, l1, l2, l5, l6 => C_X4_read_B48 l0 (fun l1 l2 l5 l6 => C_X4_read_L48 l0 ke109 ke187 n l1 l2 l5 l6) ke109 ke187 l1 l2 l5 l6
set_option maxRecDepth 10000 in
theorem mo_C_X4_read_B48 (l0 : Nat) (kb : Option Nat → Int64 → Int32 → Int32 → Hp → Option (Unit × Hp)) (ke109 : Option Nat → Hp → Option (Unit × Hp)) (ke187 : Option Nat → Int32 → Hp → Option (Unit × Hp)) (hkb : ∀ (l1 : Option Nat) (l2 : Int64) (l5 : Int32) (l6 : Int32), Mo (kb l1 l2 l5 l6)) (hke109 : ∀ (l1 : Option Nat), Mo (ke109 l1)) (hke187 : ∀ (l1 : Option Nat) (l5 : Int32), Mo (ke187 l1 l5)) (l1 : Option Nat) (l2 : Int64) (l5 : Int32) (l6 : Int32) : Mo (C_X4_read_B48 l0 kb ke109 ke187 l1 l2 l5 l6) := by
  unfold C_X4_read_B48
  repeat' (with_reducible first | assumption | exact mo_rt _ | exact mo_zt _ | exact mo_no | apply mo_C_X5_left | apply mo_C_X5_one | apply mo_C_X4_read_J117 | apply mo_C_X4_has | apply hkb | apply hke109 | apply hke187 | refine mo_ite ?_ ?_ | refine mo_hgI (fun _ => ?_) | refine mo_hgR (fun _ => ?_) | refine mo_hCv (fun _ => ?_) (fun _ => ?_) | refine mo_lq (fun _ => ?_) | refine mo_hpI ?_ | refine mo_hpR ?_ | refine mo_hAi (fun _ => ?_) | refine mo_hAr (fun _ => ?_) | refine mo_hWi ?_ | refine mo_hWr ?_ | refine mo_hLn (fun _ => ?_) | refine mo_hgL (fun _ => ?_) | refine mo_hpL ?_ | refine mo_hpZ ?_ | refine mo_bd ?_ (fun _ => ?_) | refine mo_hCi (fun _ => ?_) (fun _ => ?_) | refine mo_hNw (fun _ => ?_) | refine mo_hNa (fun _ => ?_) | refine mo_hCp ?_ | refine mo_hOi ?_ | refine mo_hAl (fun _ => ?_) | refine mo_hWl ?_ | refine mo_gd ?_ | refine mo_sLn (fun _ => ?_) | refine mo_sAt (fun _ => ?_) | refine mo_kLn (fun _ => ?_) | refine mo_kAt (fun _ => ?_))
set_option maxRecDepth 10000 in
theorem mo_C_X4_read_L48 (l0 : Nat) (ke109 : Option Nat → Hp → Option (Unit × Hp)) (ke187 : Option Nat → Int32 → Hp → Option (Unit × Hp)) (hke109 : ∀ (l1 : Option Nat), Mo (ke109 l1)) (hke187 : ∀ (l1 : Option Nat) (l5 : Int32), Mo (ke187 l1 l5)) : ∀ (n : Nat) (l1 : Option Nat) (l2 : Int64) (l5 : Int32) (l6 : Int32), Mo (C_X4_read_L48 l0 ke109 ke187 n l1 l2 l5 l6)
  | 0, _, _, _, _ => mo_no
  | n + 1, l1, l2, l5, l6 => mo_C_X4_read_B48 l0 _ ke109 ke187 (mo_C_X4_read_L48 l0 ke109 ke187 hke109 hke187 n) hke109 hke187 l1 l2 l5 l6
set_option maxRecDepth 10000 in
theorem sc_X4_read_B48 {g : Gm Hp Unit} {kb : Option Nat → Int64 → Int32 → Int32 → Hp → Option (Unit × Hp)} {ke109 : Option Nat → Hp → Option (Unit × Hp)} {ke187 : Option Nat → Int32 → Hp → Option (Unit × Hp)} (B : Bx g cX4_read 9 RX4 voV none 5 132 "read") {l0 : Nat} (hkb : ∀ (l1 : Option Nat) (l2 : Int64) (l5 : Int32) (l6 : Int32), Sm g 9 48 [(0, va_rf (some l0)), (1, va_rf l1), (2, .long l2), (5, .int l5), (6, .int l6)] [] (kb l1 l2 l5 l6)) (hke109 : ∀ (l1 : Option Nat), Sm g 9 109 [(1, va_rf l1)] [] (ke109 l1)) (hke187 : ∀ (l1 : Option Nat) (l5 : Int32), Sm g 9 187 [(1, va_rf l1), (5, .int l5)] [] (ke187 l1 l5)) (l1 : Option Nat) (l2 : Int64) (l5 : Int32) (l6 : Int32) : Sm g 9 48 [(0, va_rf (some l0)), (1, va_rf l1), (2, .long l2), (5, .int l5), (6, .int l6)] [] (C_X4_read_B48 l0 kb ke109 ke187 l1 l2 l5 l6) := by
  unfold C_X4_read_B48
  refine s_iload B.1.1 4 dX4_read_48 rfl ?_
  refine s_sipush (v := (400)) B.1.1 dX4_read_50 (by decide) ?_
  refine s_icmp_ge B.1.1 187 dX4_read_53 (by decide) ?_ ?_
  · exact Sm.lvs [1, 3] rfl (hke187 l1 l5)
  · refine s_rload_n B.1.1 1 dX4_read_56 rfl rfl ?_
    refine hp_cvi (As := []) (st := []) 7 rfl (by decide) B.1 (fun a => mC_X5_left B.2.1 a ) cc_X5_left cl_X4_62 cn_X5_left ce_X5_left ci_X5 cd_X5_left (by decide) rfl (Nat.le_of_ble_eq_true rfl) dX4_read_57 (fun r10 => ?_)
    refine s_if_le B.1.1 187 dX4_read_60 (by decide) ?_ ?_
    · exact Sm.lvs [1, 3] rfl (hke187 l1 l5)
    · refine s_rload_n B.1.1 1 dX4_read_63 rfl rfl ?_
      refine hp_getI B.1 7 2 rfl (by decide) inX5 (by decide) fk_X5_2.1 fk_X5_2.2 cf_X4_59 dX4_read_64 (fun v11 => ?_)
      refine s_istore (i := 7) (lv' := [(7, .int v11), (0, va_rf (some l0)), (1, va_rf l1), (2, .long l2), (5, .int l5), (6, .int l6)]) B.1.1 dX4_read_67 (by decide) rfl ?_
      refine s_rload_n B.1.1 2 dX4_read_69 rfl rfl ?_
      refine hp_cvi (As := []) (st := []) 7 rfl (by decide) B.1 (fun a => mC_X5_one B.2.1 a ) cc_X5_one cl_X4_65 cn_X5_one ce_X5_one ci_X5 cd_X5_one (by decide) rfl (Nat.le_of_ble_eq_true rfl) dX4_read_70 (fun r12 => ?_)
      refine s_istore (i := 8) (lv' := [(8, .int r12), (7, .int v11), (0, va_rf (some l0)), (1, va_rf l1), (2, .long l2), (5, .int l5), (6, .int l6)]) B.1.1 dX4_read_73 (by decide) rfl ?_
      refine s_iload B.1.1 0 dX4_read_75 rfl ?_
      refine s_bipush (v := (40)) B.1.1 dX4_read_77 (by decide) ?_
      refine s_icmp_ge B.1.1 109 dX4_read_79 (by decide) ?_ ?_
      · exact Sm.lvs [3] rfl (hke109 l1)
      · refine s_lload_n B.1.1 4 dX4_read_82 rfl rfl ?_
        refine s_iload B.1.1 0 dX4_read_83 rfl ?_
        refine s_lshr B.1.1 dX4_read_85 ?_
        refine s_lconst (v := 1) B.1.1 dX4_read_86 (by decide) ?_
        refine s_land B.1.1 dX4_read_87 ?_
        refine s_lconst (v := 0) B.1.1 dX4_read_88 (by decide) ?_
        refine s_lcmp B.1.1 dX4_read_89 ?_
        refine s_if_eq B.1.1 109 dX4_read_90 (by decide) ?_ ?_
        · exact Sm.lvs [3] rfl (hke109 l1)
        · refine s_iload B.1.1 0 dX4_read_93 rfl ?_
          refine s_bipush (v := (38)) B.1.1 dX4_read_95 (by decide) ?_
          refine s_icmp_eq B.1.1 117 dX4_read_97 (by decide) ?_ ?_
          · exact Sm.lvs [2, 3, 4, 5, 6, 1, 0] rfl (sc_X4_read_J117 B hkb hke109 hke187 l1 l2 l5 l6 v11 r12)
          · refine s_rload_n B.1.1 2 dX4_read_100 rfl rfl ?_
            refine s_iload B.1.1 0 dX4_read_101 rfl ?_
            refine hp_cvi (As := [.int r12]) (st := []) 6 rfl (by decide) B.1 (fun a => mC_X4_has B.2.1 a r12) cc_X4_has cl_X4_68 cn_X4_has ce_X4_has ci_X4 cd_X4_has (by decide) rfl (Nat.le_of_ble_eq_true rfl) dX4_read_103 (fun r13 => ?_)
            refine s_if_eq B.1.1 117 dX4_read_106 (by decide) ?_ ?_
            · exact Sm.lvs [2, 3, 4, 5, 6, 1, 0] rfl (sc_X4_read_J117 B hkb hke109 hke187 l1 l2 l5 l6 v11 r12)
            · exact Sm.lvs [3] rfl (hke109 l1)
set_option maxRecDepth 10000 in
theorem sc_X4_read_L48 {g : Gm Hp Unit} {ke109 : Option Nat → Hp → Option (Unit × Hp)} {ke187 : Option Nat → Int32 → Hp → Option (Unit × Hp)} (B : Bx g cX4_read 9 RX4 voV none 5 132 "read") {l0 : Nat} (hke109 : ∀ (l1 : Option Nat), Sm g 9 109 [(1, va_rf l1)] [] (ke109 l1)) (hke187 : ∀ (l1 : Option Nat) (l5 : Int32), Sm g 9 187 [(1, va_rf l1), (5, .int l5)] [] (ke187 l1 l5)) : ∀ (n : Nat) (l1 : Option Nat) (l2 : Int64) (l5 : Int32) (l6 : Int32), Sm g 9 48 [(0, va_rf (some l0)), (1, va_rf l1), (2, .long l2), (5, .int l5), (6, .int l6)] [] (C_X4_read_L48 l0 ke109 ke187 n l1 l2 l5 l6)
  | 0, _, _, _, _ => Sm.fail
  | n + 1, l1, l2, l5, l6 => sc_X4_read_B48 B (sc_X4_read_L48 B hke109 hke187 n) hke109 hke187 l1 l2 l5 l6
def C_X4_read (l0 : Nat) (l1 : Option Nat) (l2 : Int64) : Hp → Option (Unit × Hp) :=
  hCv 6 (some l0) (fun a => C_X4_clear a) fun r14 =>
  hgR 7 1 l1 fun v15 =>
  hpR 6 6 (some l0) v15 <|
  hCv 7 l1 (fun a => C_X5_variable a) fun r16 =>
  hCv 7 l1 (fun a => C_X5_has a r16) fun r17 =>
  if r17 = 0 then (
    rt ()
  ) else (
    hgI 7 3 l1 fun v18 =>
    hgI 7 2 l1 fun v19 =>
    hpI 7 3 l1 (v19 + r16) <|
    C_X4_read_L48 l0 (fun l1 => C_X4_read_J109 l0 l1) (fun l1 l5 => C_X4_read_J187 l0 l1 l5) fu l1 l2 v18 (0 : Int32)
  )
set_option maxRecDepth 10000 in
theorem mo_C_X4_read (l0 : Nat) (l1 : Option Nat) (l2 : Int64) : Mo (C_X4_read l0 l1 l2) := by
  unfold C_X4_read
  repeat' (with_reducible first | assumption | exact mo_rt _ | exact mo_zt _ | exact mo_no | apply mo_C_X4_clear | apply mo_C_X5_variable | apply mo_C_X5_has | apply mo_C_X4_read_L48 | apply mo_C_X4_read_J109 | apply mo_C_X4_read_J187 | refine mo_ite ?_ ?_ | refine mo_hgI (fun _ => ?_) | refine mo_hgR (fun _ => ?_) | refine mo_hCv (fun _ => ?_) (fun _ => ?_) | refine mo_lq (fun _ => ?_) | refine mo_hpI ?_ | refine mo_hpR ?_ | refine mo_hAi (fun _ => ?_) | refine mo_hAr (fun _ => ?_) | refine mo_hWi ?_ | refine mo_hWr ?_ | refine mo_hLn (fun _ => ?_) | refine mo_hgL (fun _ => ?_) | refine mo_hpL ?_ | refine mo_hpZ ?_ | refine mo_bd ?_ (fun _ => ?_) | refine mo_hCi (fun _ => ?_) (fun _ => ?_) | refine mo_hNw (fun _ => ?_) | refine mo_hNa (fun _ => ?_) | refine mo_hCp ?_ | refine mo_hOi ?_ | refine mo_hAl (fun _ => ?_) | refine mo_hWl ?_ | refine mo_gd ?_ | refine mo_sLn (fun _ => ?_) | refine mo_sAt (fun _ => ?_) | refine mo_kLn (fun _ => ?_) | refine mo_kAt (fun _ => ?_))
set_option maxRecDepth 10000 in
theorem mC_X4_read {w : Wd} (hw : Wc w) (l0 : Nat) (l1 : Option Nat) (l2 : Int64) : MH w yX4_read cX4_read 9 none 5 132 voV [va_rf (some l0), va_rf l1, .long l2] (C_X4_read l0 l1 l2) := by
  have M0 : ∀ g : Gm Hp Unit, g.1 = w → Bx g cX4_read 9 RX4 voV none 5 132 "read" → Sm g 9 0 (lv_args 0 [va_rf (some l0), va_rf l1, .long l2]) [] (C_X4_read l0 l1 l2) := by
    intro g hg B
    subst hg
    unfold C_X4_read
    refine W_lva (lv := [(0, va_rf (some l0)), (1, va_rf l1), (2, .long l2)]) (by simp [lv_args, va_rf_cat, cat_i, cat_l, cat_r]) ?_
    refine s_rload_n B.1.1 0 dX4_read_0 rfl rfl ?_
    refine hp_cvv (As := []) (st := []) 6 rfl (by decide) B.1 (fun a => mC_X4_clear B.2.1 a ) cc_X4_clear cl_X4_40 cn_X4_clear ce_X4_clear ci_X4 cd_X4_clear (by decide) rfl (Nat.le_of_ble_eq_true rfl) dX4_read_1 (fun r14 => ?_)
    refine s_rload_n B.1.1 0 dX4_read_4 rfl rfl ?_
    refine s_rload_n B.1.1 1 dX4_read_5 rfl rfl ?_
    refine hp_getR B.1 7 1 rfl (by decide) inX5 (by decide) fk_X5_1 cf_X4_43 dX4_read_6 (fun v15 => ?_)
    refine hp_putR B.1 6 6 rfl (by decide) inX4 tyX4 tyX4_ok nmX4 (by decide) fk_X4_6 ft_X4_6 rfA rfl cf_X4_25 dX4_read_9 ?_
    refine s_rload_n B.1.1 1 dX4_read_12 rfl rfl ?_
    refine hp_cvi (As := []) (st := []) 7 rfl (by decide) B.1 (fun a => mC_X5_variable B.2.1 a ) cc_X5_variable cl_X4_48 cn_X5_variable ce_X5_variable ci_X5 cd_X5_variable (by decide) rfl (Nat.le_of_ble_eq_true rfl) dX4_read_13 (fun r16 => ?_)
    refine s_istore (i := 4) (lv' := [(4, .int r16), (0, va_rf (some l0)), (1, va_rf l1), (2, .long l2)]) B.1.1 dX4_read_16 (by decide) rfl ?_
    refine s_rload_n B.1.1 2 dX4_read_18 rfl rfl ?_
    refine s_iload B.1.1 0 dX4_read_19 rfl ?_
    refine hp_cvi (As := [.int r16]) (st := []) 7 rfl (by decide) B.1 (fun a => mC_X5_has B.2.1 a r16) cc_X5_has cl_X4_52 cn_X5_has ce_X5_has ci_X5 cd_X5_has (by decide) rfl (Nat.le_of_ble_eq_true rfl) dX4_read_21 (fun r17 => ?_)
    refine s_if_ne B.1.1 28 dX4_read_24 (by decide) ?_ ?_
    · refine s_rload_n B.1.1 2 dX4_read_28 rfl rfl ?_
      refine hp_getI B.1 7 3 rfl (by decide) inX5 (by decide) fk_X5_3.1 fk_X5_3.2 cf_X4_56 dX4_read_29 (fun v18 => ?_)
      refine s_istore (i := 5) (lv' := [(5, .int v18), (4, .int r16), (0, va_rf (some l0)), (1, va_rf l1), (2, .long l2)]) B.1.1 dX4_read_32 (by decide) rfl ?_
      refine s_rload_n B.1.1 3 dX4_read_34 rfl rfl ?_
      refine s_rload_n B.1.1 3 dX4_read_35 rfl rfl ?_
      refine hp_getI B.1 7 2 rfl (by decide) inX5 (by decide) fk_X5_2.1 fk_X5_2.2 cf_X4_59 dX4_read_36 (fun v19 => ?_)
      refine s_iload B.1.1 1 dX4_read_39 rfl ?_
      refine s_iadd B.1.1 dX4_read_41 ?_
      refine hp_putI B.1 7 3 rfl (by decide) inX5 tyX5 tyX5_ok nmX5 (by decide) fk_X5_3.1 fk_X5_3.2 ft_X5_3 rfl cf_X4_56 dX4_read_42 ?_
      refine s_iconst (v := 0) B.1.1 dX4_read_45 (by decide) ?_
      refine s_istore (i := 6) (lv' := [(6, .int (0 : Int32)), (5, .int v18), (4, .int r16), (0, va_rf (some l0)), (1, va_rf l1), (2, .long l2)]) B.1.1 dX4_read_46 (by decide) rfl ?_
      exact Sm.lvs [3, 4, 5, 1, 0] rfl (sc_X4_read_L48 B (fun l1 => sc_X4_read_J109 B l1) (fun l1 l5 => sc_X4_read_J187 B l1 l5) fu l1 l2 v18 (0 : Int32))
    · exact s_vret B.1.1 B.2.2.2.2 dX4_read_27
  exact MH.of hw ⟨rfl, rfl⟩ (by decide) (by simp [lg_sl, va_rf_cat, cat_i, cat_l, cat_r]) (mo_C_X4_read l0 l1 l2) M0
def C_X5_expect (l0 : Nat) (l1 : Int32) (l2 : Int32) : Hp → Option (Unit × Hp) :=
  if l1 = l2 then (
    rt ()
  ) else (
    hCv 7 (some l0) (fun a => C_X5_fail a (129 : Int32)) fun r1 =>
    rt ()
  )
set_option maxRecDepth 10000 in
theorem mo_C_X5_expect (l0 : Nat) (l1 : Int32) (l2 : Int32) : Mo (C_X5_expect l0 l1 l2) := by
  unfold C_X5_expect
  repeat' (with_reducible first | assumption | exact mo_rt _ | exact mo_zt _ | exact mo_no | apply mo_C_X5_fail | refine mo_ite ?_ ?_ | refine mo_hgI (fun _ => ?_) | refine mo_hgR (fun _ => ?_) | refine mo_hCv (fun _ => ?_) (fun _ => ?_) | refine mo_lq (fun _ => ?_) | refine mo_hpI ?_ | refine mo_hpR ?_ | refine mo_hAi (fun _ => ?_) | refine mo_hAr (fun _ => ?_) | refine mo_hWi ?_ | refine mo_hWr ?_ | refine mo_hLn (fun _ => ?_) | refine mo_hgL (fun _ => ?_) | refine mo_hpL ?_ | refine mo_hpZ ?_ | refine mo_bd ?_ (fun _ => ?_) | refine mo_hCi (fun _ => ?_) (fun _ => ?_) | refine mo_hNw (fun _ => ?_) | refine mo_hNa (fun _ => ?_) | refine mo_hCp ?_ | refine mo_hOi ?_ | refine mo_hAl (fun _ => ?_) | refine mo_hWl ?_ | refine mo_gd ?_ | refine mo_sLn (fun _ => ?_) | refine mo_sAt (fun _ => ?_) | refine mo_kLn (fun _ => ?_) | refine mo_kAt (fun _ => ?_))
set_option maxRecDepth 10000 in
theorem mC_X5_expect {w : Wd} (hw : Wc w) (l0 : Nat) (l1 : Int32) (l2 : Int32) : MH w yX5_expect cX5_expect 3 none 1 21 voV [va_rf (some l0), .int l1, .int l2] (C_X5_expect l0 l1 l2) := by
  have M0 : ∀ g : Gm Hp Unit, g.1 = w → Bx g cX5_expect 3 RX5 voV none 1 21 "expect" → Sm g 3 0 (lv_args 0 [va_rf (some l0), .int l1, .int l2]) [] (C_X5_expect l0 l1 l2) := by
    intro g hg B
    subst hg
    unfold C_X5_expect
    refine W_lva (lv := [(0, va_rf (some l0)), (1, .int l1), (2, .int l2)]) (by simp [lv_args, va_rf_cat, cat_i, cat_l, cat_r]) ?_
    refine s_iload_n B.1.1 1 dX5_expect_0 rfl rfl ?_
    refine s_iload_n B.1.1 2 dX5_expect_1 rfl rfl ?_
    refine s_icmp_eq B.1.1 12 dX5_expect_2 (by decide) ?_ ?_
    · exact s_vret B.1.1 B.2.2.2.2 dX5_expect_12
    · refine s_rload_n B.1.1 0 dX5_expect_5 rfl rfl ?_
      refine s_sipush (v := (129)) B.1.1 dX5_expect_6 (by decide) ?_
      refine hp_cvv (As := [.int (129 : Int32)]) (st := []) 7 rfl (by decide) B.1 (fun a => mC_X5_fail B.2.1 a (129 : Int32)) cc_X5_fail cl_X5_41 cn_X5_fail ce_X5_fail ci_X5 cd_X5_fail (by decide) rfl (Nat.le_of_ble_eq_true rfl) dX5_expect_9 (fun r1 => ?_)
      exact s_vret B.1.1 B.2.2.2.2 dX5_expect_12
  exact MH.of hw ⟨rfl, rfl⟩ (by decide) (by simp [lg_sl, va_rf_cat, cat_i, cat_l, cat_r]) (mo_C_X5_expect l0 l1 l2) M0
def C_X5_finish (l0 : Nat) : Hp → Option (Unit × Hp) :=
  hCv 7 (some l0) (fun a => C_X5_left a) fun r1 =>
  if r1 ≤ 0 then (
    rt ()
  ) else (
    hCv 7 (some l0) (fun a => C_X5_fail a (129 : Int32)) fun r2 =>
    rt ()
  )
set_option maxRecDepth 10000 in
theorem mo_C_X5_finish (l0 : Nat) : Mo (C_X5_finish l0) := by
  unfold C_X5_finish
  repeat' (with_reducible first | assumption | exact mo_rt _ | exact mo_zt _ | exact mo_no | apply mo_C_X5_left | apply mo_C_X5_fail | refine mo_ite ?_ ?_ | refine mo_hgI (fun _ => ?_) | refine mo_hgR (fun _ => ?_) | refine mo_hCv (fun _ => ?_) (fun _ => ?_) | refine mo_lq (fun _ => ?_) | refine mo_hpI ?_ | refine mo_hpR ?_ | refine mo_hAi (fun _ => ?_) | refine mo_hAr (fun _ => ?_) | refine mo_hWi ?_ | refine mo_hWr ?_ | refine mo_hLn (fun _ => ?_) | refine mo_hgL (fun _ => ?_) | refine mo_hpL ?_ | refine mo_hpZ ?_ | refine mo_bd ?_ (fun _ => ?_) | refine mo_hCi (fun _ => ?_) (fun _ => ?_) | refine mo_hNw (fun _ => ?_) | refine mo_hNa (fun _ => ?_) | refine mo_hCp ?_ | refine mo_hOi ?_ | refine mo_hAl (fun _ => ?_) | refine mo_hWl ?_ | refine mo_gd ?_ | refine mo_sLn (fun _ => ?_) | refine mo_sAt (fun _ => ?_) | refine mo_kLn (fun _ => ?_) | refine mo_kAt (fun _ => ?_))
set_option maxRecDepth 10000 in
theorem mC_X5_finish {w : Wd} (hw : Wc w) (l0 : Nat) : MH w yX5_finish cX5_finish 1 none 1 21 voV [va_rf (some l0)] (C_X5_finish l0) := by
  have M0 : ∀ g : Gm Hp Unit, g.1 = w → Bx g cX5_finish 1 RX5 voV none 1 21 "finish" → Sm g 1 0 (lv_args 0 [va_rf (some l0)]) [] (C_X5_finish l0) := by
    intro g hg B
    subst hg
    unfold C_X5_finish
    refine W_lva (lv := [(0, va_rf (some l0))]) (by simp [lv_args, va_rf_cat, cat_i, cat_l, cat_r]) ?_
    refine s_rload_n B.1.1 0 dX5_finish_0 rfl rfl ?_
    refine hp_cvi (As := []) (st := []) 7 rfl (by decide) B.1 (fun a => mC_X5_left B.2.1 a ) cc_X5_left cl_X5_63 cn_X5_left ce_X5_left ci_X5 cd_X5_left (by decide) rfl (Nat.le_of_ble_eq_true rfl) dX5_finish_1 (fun r1 => ?_)
    refine s_if_le B.1.1 14 dX5_finish_4 (by decide) ?_ ?_
    · exact s_vret B.1.1 B.2.2.2.2 dX5_finish_14
    · refine s_rload_n B.1.1 0 dX5_finish_7 rfl rfl ?_
      refine s_sipush (v := (129)) B.1.1 dX5_finish_8 (by decide) ?_
      refine hp_cvv (As := [.int (129 : Int32)]) (st := []) 7 rfl (by decide) B.1 (fun a => mC_X5_fail B.2.1 a (129 : Int32)) cc_X5_fail cl_X5_41 cn_X5_fail ce_X5_fail ci_X5 cd_X5_fail (by decide) rfl (Nat.le_of_ble_eq_true rfl) dX5_finish_11 (fun r2 => ?_)
      exact s_vret B.1.1 B.2.2.2.2 dX5_finish_14
  exact MH.of hw ⟨rfl, rfl⟩ (by decide) (by simp [lg_sl, va_rf_cat, cat_i, cat_l, cat_r]) (mo_C_X5_finish l0) M0
def C_X5_number (l0 : Nat) : Hp → Option (Int32 × Hp) :=
  hCv 7 (some l0) (fun a => C_X5_two a) fun r1 =>
  if r1 = 0 then (
    hCv 7 (some l0) (fun a => C_X5_fail a (130 : Int32)) fun r2 =>
    rt (r1)
  ) else (
    rt (r1)
  )
set_option maxRecDepth 10000 in
theorem mo_C_X5_number (l0 : Nat) : Mo (C_X5_number l0) := by
  unfold C_X5_number
  repeat' (with_reducible first | assumption | exact mo_rt _ | exact mo_zt _ | exact mo_no | apply mo_C_X5_two | apply mo_C_X5_fail | refine mo_ite ?_ ?_ | refine mo_hgI (fun _ => ?_) | refine mo_hgR (fun _ => ?_) | refine mo_hCv (fun _ => ?_) (fun _ => ?_) | refine mo_lq (fun _ => ?_) | refine mo_hpI ?_ | refine mo_hpR ?_ | refine mo_hAi (fun _ => ?_) | refine mo_hAr (fun _ => ?_) | refine mo_hWi ?_ | refine mo_hWr ?_ | refine mo_hLn (fun _ => ?_) | refine mo_hgL (fun _ => ?_) | refine mo_hpL ?_ | refine mo_hpZ ?_ | refine mo_bd ?_ (fun _ => ?_) | refine mo_hCi (fun _ => ?_) (fun _ => ?_) | refine mo_hNw (fun _ => ?_) | refine mo_hNa (fun _ => ?_) | refine mo_hCp ?_ | refine mo_hOi ?_ | refine mo_hAl (fun _ => ?_) | refine mo_hWl ?_ | refine mo_gd ?_ | refine mo_sLn (fun _ => ?_) | refine mo_sAt (fun _ => ?_) | refine mo_kLn (fun _ => ?_) | refine mo_kAt (fun _ => ?_))
set_option maxRecDepth 10000 in
theorem mC_X5_number {w : Wd} (hw : Wc w) (l0 : Nat) : MH w yX5_number cX5_number 2 (some .int) 2 41 voI [va_rf (some l0)] (C_X5_number l0) := by
  have M0 : ∀ g : Gm Hp Int32, g.1 = w → Bx g cX5_number 2 RX5 voI (some .int) 2 41 "number" → Sm g 2 0 (lv_args 0 [va_rf (some l0)]) [] (C_X5_number l0) := by
    intro g hg B
    subst hg
    unfold C_X5_number
    refine W_lva (lv := [(0, va_rf (some l0))]) (by simp [lv_args, va_rf_cat, cat_i, cat_l, cat_r]) ?_
    refine s_rload_n B.1.1 0 dX5_number_0 rfl rfl ?_
    refine hp_cvi (As := []) (st := []) 7 rfl (by decide) B.1 (fun a => mC_X5_two B.2.1 a ) cc_X5_two cl_X5_49 cn_X5_two ce_X5_two ci_X5 cd_X5_two (by decide) rfl (Nat.le_of_ble_eq_true rfl) dX5_number_1 (fun r1 => ?_)
    refine s_istore_n (i := 1) (lv' := [(1, .int r1), (0, va_rf (some l0))]) B.1.1 dX5_number_4 rfl (by decide) rfl ?_
    refine s_iload_n B.1.1 0 dX5_number_5 rfl rfl ?_
    refine s_if_ne B.1.1 16 dX5_number_6 (by decide) ?_ ?_
    · refine s_iload_n B.1.1 0 dX5_number_16 rfl rfl ?_
      exact s_iret B.1.1 B.2.2.2.2 dX5_number_17
    · refine s_rload_n B.1.1 1 dX5_number_9 rfl rfl ?_
      refine s_sipush (v := (130)) B.1.1 dX5_number_10 (by decide) ?_
      refine hp_cvv (As := [.int (130 : Int32)]) (st := []) 7 rfl (by decide) B.1 (fun a => mC_X5_fail B.2.1 a (130 : Int32)) cc_X5_fail cl_X5_41 cn_X5_fail ce_X5_fail ci_X5 cd_X5_fail (by decide) rfl (Nat.le_of_ble_eq_true rfl) dX5_number_13 (fun r2 => ?_)
      refine s_iload_n B.1.1 0 dX5_number_16 rfl rfl ?_
      exact s_iret B.1.1 B.2.2.2.2 dX5_number_17
  exact MH.of hw ⟨rfl, rfl⟩ (by decide) (by simp [lg_sl, va_rf_cat, cat_i, cat_l, cat_r]) (mo_C_X5_number l0) M0
