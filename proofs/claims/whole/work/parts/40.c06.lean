def C_X4_message (l0 : Nat) (l1 : Option Nat) (l2 : Option Nat) (l3 : Int32) (l4 : Int32) : Hp → Option ((Option Nat) × Hp) :=
  hNw 5 9 fun o1 =>
  hCi o1 (fun a => C_X3_init a l1 l2 l3 l4) fun r2 =>
  hCv 6 (some l0) (fun a => C_X4_raw a 0) fun r3 =>
  hpR 5 4 o1 r3 <|
  hCv 6 (some l0) (fun a => C_X4_raw a 1) fun r4 =>
  hpR 5 5 o1 r4 <|
  hNw 9 1 fun o5 =>
  hgR 6 4 (some l0) fun v6 =>
  hgI 6 5 (some l0) fun v7 =>
  bd (C_J7_copyOf_59c91 v6 v7) fun r8 =>
  hCi o5 (fun a => C_X7_init a r8) fun r9 =>
  hpR 5 6 o1 o5 <|
  hCv 6 (some l0) (fun a => C_X4_get a (2 : Int32) (-1 : Int64)) fun r10 =>
  hpL 5 7 o1 r10 <|
  rt (o1)
set_option maxRecDepth 10000 in
theorem mo_C_X4_message (l0 : Nat) (l1 : Option Nat) (l2 : Option Nat) (l3 : Int32) (l4 : Int32) : Mo (C_X4_message l0 l1 l2 l3 l4) := by
  unfold C_X4_message
  repeat' (with_reducible first | assumption | exact mo_rt _ | exact mo_zt _ | exact mo_no | apply mo_C_X3_init | apply mo_C_X4_raw | apply mo_C_J7_copyOf_59c91 | apply mo_C_X7_init | apply mo_C_X4_get | refine mo_ite ?_ ?_ | refine mo_hgI (fun _ => ?_) | refine mo_hgR (fun _ => ?_) | refine mo_hCv (fun _ => ?_) (fun _ => ?_) | refine mo_lq (fun _ => ?_) | refine mo_hpI ?_ | refine mo_hpR ?_ | refine mo_hAi (fun _ => ?_) | refine mo_hAr (fun _ => ?_) | refine mo_hWi ?_ | refine mo_hWr ?_ | refine mo_hLn (fun _ => ?_) | refine mo_hgL (fun _ => ?_) | refine mo_hpL ?_ | refine mo_hpZ ?_ | refine mo_bd ?_ (fun _ => ?_) | refine mo_hCi (fun _ => ?_) (fun _ => ?_) | refine mo_hNw (fun _ => ?_) | refine mo_hNa (fun _ => ?_) | refine mo_hCp ?_ | refine mo_hOi ?_ | refine mo_hAl (fun _ => ?_) | refine mo_hWl ?_ | refine mo_gd ?_ | refine mo_sLn (fun _ => ?_) | refine mo_sAt (fun _ => ?_) | refine mo_kLn (fun _ => ?_) | refine mo_kAt (fun _ => ?_))
set_option maxRecDepth 10000 in
theorem mC_X4_message {w : Wd} (hw : Wc w) (l0 : Nat) (l1 : Option Nat) (l2 : Option Nat) (l3 : Int32) (l4 : Int32) : MH w yX4_message cX4_message 6 (some (.object "TopicBroker$Message")) 3 67 voR [va_rf (some l0), va_rf l1, va_rf l2, .int l3, .int l4] (C_X4_message l0 l1 l2 l3 l4) := by
  have M0 : ∀ g : Gm Hp (Option Nat), g.1 = w → Bx g cX4_message 6 RX4 voR (some (.object "TopicBroker$Message")) 3 67 "message" → Sm g 6 0 (lv_args 0 [va_rf (some l0), va_rf l1, va_rf l2, .int l3, .int l4]) [] (C_X4_message l0 l1 l2 l3 l4) := by
    intro g hg B
    subst hg
    unfold C_X4_message
    refine W_lva (lv := [(0, va_rf (some l0)), (1, va_rf l1), (2, va_rf l2), (3, .int l3), (4, .int l4)]) (by simp [lv_args, va_rf_cat, cat_i, cat_l, cat_r]) ?_
    refine hp_Nw B.1 5 rfl (by decide) inX3 tyX3 tyX3_ok dfX3 tw_882 tw_883 tw_28 dX4_message_0 (fun o1 => ?_)
    refine s_dup B.1.1 dX4_message_3 (va_rf_cat _) ?_
    refine s_rload_n B.1.1 1 dX4_message_4 rfl rfl ?_
    refine s_rload_n B.1.1 2 dX4_message_5 rfl rfl ?_
    refine s_iload_n B.1.1 3 dX4_message_6 rfl rfl ?_
    refine s_iload B.1.1 4 dX4_message_7 rfl ?_
    refine hp_cI (As := [va_rf l1, va_rf l2, .int l3, .int l4]) (st := [va_rf o1]) B.1 (fun a => mC_X3_init B.2.1 a l1 l2 l3 l4) cc_X3_init cl_X4_115 cn_X3_init ci_X3 rfl cd_X3_init (by decide) rfl (by simp [va_rf_cat, cat_i, cat_l, cat_r]) dX4_message_9 (fun r2 => ?_)
    refine s_rstore (i := 5) (lv' := [(5, va_rf o1), (0, va_rf (some l0)), (1, va_rf l1), (2, va_rf l2), (3, .int l3), (4, .int l4)]) B.1.1 dX4_message_12 (by decide) rfl ?_
    refine s_rload B.1.1 0 dX4_message_14 rfl ?_
    refine s_rload_n B.1.1 1 dX4_message_16 rfl rfl ?_
    refine s_gsK B 0 (by decide) (by decide +kernel) dX4_message_17 ?_
    refine hp_cvr (As := [.ref (g.1.2.1 (1020 + 0))]) (st := [va_rf o1]) 6 rfl (by decide) B.1 (fun a => mC_X4_raw B.2.1 a 0 (by decide)) cc_X4_raw cl_X4_121 cn_X4_raw ce_X4_raw ci_X4 cd_X4_raw (by decide) rfl (by simp [va_rf_cat, cat_i, cat_l, cat_r]) dX4_message_20 (fun r3 => ?_)
    refine hp_putR B.1 5 4 rfl (by decide) inX3 tyX3 tyX3_ok nmX3 (by decide) fk_X3_4 ft_X3_4 rfR rfl cf_X4_125 dX4_message_23 ?_
    refine s_rload B.1.1 0 dX4_message_26 rfl ?_
    refine s_rload_n B.1.1 1 dX4_message_28 rfl rfl ?_
    refine s_gsK B 1 (by decide) (by decide +kernel) dX4_message_29 ?_
    refine hp_cvr (As := [.ref (g.1.2.1 (1020 + 1))]) (st := [va_rf o1]) 6 rfl (by decide) B.1 (fun a => mC_X4_raw B.2.1 a 1 (by decide)) cc_X4_raw cl_X4_121 cn_X4_raw ce_X4_raw ci_X4 cd_X4_raw (by decide) rfl (by simp [va_rf_cat, cat_i, cat_l, cat_r]) dX4_message_32 (fun r4 => ?_)
    refine hp_putR B.1 5 5 rfl (by decide) inX3 tyX3 tyX3_ok nmX3 (by decide) fk_X3_5 ft_X3_5 rfR rfl cf_X4_131 dX4_message_35 ?_
    refine s_rload B.1.1 0 dX4_message_38 rfl ?_
    refine hp_Nw B.1 9 rfl (by decide) inX7 tyX7 tyX7_ok dfX7 tw_937 tw_127 tw_5 dX4_message_40 (fun o5 => ?_)
    refine s_dup B.1.1 dX4_message_43 (va_rf_cat _) ?_
    refine s_rload_n B.1.1 1 dX4_message_44 rfl rfl ?_
    refine hp_getR B.1 6 4 rfl (by decide) inX4 (by decide) fk_X4_4 cf_X4_22 dX4_message_45 (fun v6 => ?_)
    refine s_rload_n B.1.1 1 dX4_message_48 rfl rfl ?_
    refine hp_getI B.1 6 5 rfl (by decide) inX4 (by decide) fk_X4_5.1 fk_X4_5.2 cf_X4_32 dX4_message_49 (fun v7 => ?_)
    refine hp_csr (As := [va_rf v6, .int v7]) (st := [va_rf o5, va_rf o5, va_rf o1]) B.1 (mC_J7_copyOf_59c91 B.2.1 v6 v7) cc_J7_copyOf_59c91 cl_X4_134 cs_J7_copyOf_59c91 ci_J7 cd_J7_copyOf_59c91 (by decide) rfl (by simp [va_rf_cat, cat_i, cat_l, cat_r]) dX4_message_52 (fun r8 => ?_)
    refine hp_cI (As := [va_rf r8]) (st := [va_rf o5, va_rf o1]) B.1 (fun a => mC_X7_init B.2.1 a r8) cc_X7_init cl_X4_110 cn_X7_init ci_X7 rfl cd_X7_init (by decide) rfl (by simp [va_rf_cat, cat_i, cat_l, cat_r]) dX4_message_55 (fun r9 => ?_)
    refine hp_putR B.1 5 6 rfl (by decide) inX3 tyX3 tyX3_ok nmX3 (by decide) fk_X3_6 ft_X3_6 rfR rfl cf_X4_140 dX4_message_58 ?_
    refine s_rload B.1.1 0 dX4_message_61 rfl ?_
    refine s_rload_n B.1.1 1 dX4_message_63 rfl rfl ?_
    refine s_iconst (v := 2) B.1.1 dX4_message_64 (by decide) ?_
    refine s_ldc2 (v := (-1)) B.1.1 tw_944 dX4_message_65 ?_
    refine hp_cvl (As := [.int (2 : Int32), .long (-1 : Int64)]) (st := [va_rf o1]) 6 rfl (by decide) B.1 (fun a => mC_X4_get B.2.1 a (2 : Int32) (-1 : Int64)) cc_X4_get cl_X4_144 cn_X4_get ce_X4_get ci_X4 cd_X4_get (by decide) rfl (by simp [va_rf_cat, cat_i, cat_l, cat_r]) dX4_message_68 (fun r10 => ?_)
    refine hp_putL B.1 5 7 rfl (by decide) inX3 tyX3 tyX3_ok nmX3 (by decide) fk_X3_7 ft_X3_7 rfl cf_X4_148 dX4_message_71 ?_
    refine s_rload B.1.1 0 dX4_message_74 rfl ?_
    exact s_aret B.1.1 B.2.2.2.2 (Or.inl ⟨_, rfl⟩) dX4_message_76
  exact MH.of hw ⟨rfl, rfl⟩ (by decide) (by simp [lg_sl, va_rf_cat, cat_i, cat_l, cat_r]) (mo_C_X4_message l0 l1 l2 l3 l4) M0
def C_X5_rest (l0 : Nat) : Hp → Option ((Option Nat) × Hp) :=
  hNw 9 1 fun o1 =>
  hgR 7 1 (some l0) fun v2 =>
  hgI 7 2 (some l0) fun v3 =>
  hgI 7 2 (some l0) fun v4 =>
  hCv 7 (some l0) (fun a => C_X5_left a) fun r5 =>
  bd (C_J7_copyOfRange_feecc v2 v3 (v4 + r5)) fun r6 =>
  hCi o1 (fun a => C_X7_init a r6) fun r7 =>
  rt (o1)
set_option maxRecDepth 10000 in
theorem mo_C_X5_rest (l0 : Nat) : Mo (C_X5_rest l0) := by
  unfold C_X5_rest
  repeat' (with_reducible first | assumption | exact mo_rt _ | exact mo_zt _ | exact mo_no | apply mo_C_X5_left | apply mo_C_J7_copyOfRange_feecc | apply mo_C_X7_init | refine mo_ite ?_ ?_ | refine mo_hgI (fun _ => ?_) | refine mo_hgR (fun _ => ?_) | refine mo_hCv (fun _ => ?_) (fun _ => ?_) | refine mo_lq (fun _ => ?_) | refine mo_hpI ?_ | refine mo_hpR ?_ | refine mo_hAi (fun _ => ?_) | refine mo_hAr (fun _ => ?_) | refine mo_hWi ?_ | refine mo_hWr ?_ | refine mo_hLn (fun _ => ?_) | refine mo_hgL (fun _ => ?_) | refine mo_hpL ?_ | refine mo_hpZ ?_ | refine mo_bd ?_ (fun _ => ?_) | refine mo_hCi (fun _ => ?_) (fun _ => ?_) | refine mo_hNw (fun _ => ?_) | refine mo_hNa (fun _ => ?_) | refine mo_hCp ?_ | refine mo_hOi ?_ | refine mo_hAl (fun _ => ?_) | refine mo_hWl ?_ | refine mo_gd ?_ | refine mo_sLn (fun _ => ?_) | refine mo_sAt (fun _ => ?_) | refine mo_kLn (fun _ => ?_) | refine mo_kAt (fun _ => ?_))
set_option maxRecDepth 10000 in
theorem mC_X5_rest {w : Wd} (hw : Wc w) (l0 : Nat) : MH w yX5_rest cX5_rest 1 (some (.object "TopicBroker$Row")) 3 86 voR [va_rf (some l0)] (C_X5_rest l0) := by
  have M0 : ∀ g : Gm Hp (Option Nat), g.1 = w → Bx g cX5_rest 1 RX5 voR (some (.object "TopicBroker$Row")) 3 86 "rest" → Sm g 1 0 (lv_args 0 [va_rf (some l0)]) [] (C_X5_rest l0) := by
    intro g hg B
    subst hg
    unfold C_X5_rest
    refine W_lva (lv := [(0, va_rf (some l0))]) (by simp [lv_args, va_rf_cat, cat_i, cat_l, cat_r]) ?_
    refine hp_Nw B.1 9 rfl (by decide) inX7 tyX7 tyX7_ok dfX7 tw_126 tw_127 tw_5 dX5_rest_0 (fun o1 => ?_)
    refine s_dup B.1.1 dX5_rest_3 (va_rf_cat _) ?_
    refine s_rload_n B.1.1 0 dX5_rest_4 rfl rfl ?_
    refine hp_getR B.1 7 1 rfl (by decide) inX5 (by decide) fk_X5_1 cf_X5_24 dX5_rest_5 (fun v2 => ?_)
    refine s_rload_n B.1.1 0 dX5_rest_8 rfl rfl ?_
    refine hp_getI B.1 7 2 rfl (by decide) inX5 (by decide) fk_X5_2.1 fk_X5_2.2 cf_X5_25 dX5_rest_9 (fun v3 => ?_)
    refine s_rload_n B.1.1 0 dX5_rest_12 rfl rfl ?_
    refine hp_getI B.1 7 2 rfl (by decide) inX5 (by decide) fk_X5_2.1 fk_X5_2.2 cf_X5_25 dX5_rest_13 (fun v4 => ?_)
    refine s_rload_n B.1.1 0 dX5_rest_16 rfl rfl ?_
    refine hp_cvi (As := []) (st := [.int v4, .int v3, va_rf v2, va_rf o1, va_rf o1]) 7 rfl (by decide) B.1 (fun a => mC_X5_left B.2.1 a ) cc_X5_left cl_X5_63 cn_X5_left ce_X5_left ci_X5 cd_X5_left (by decide) rfl (by simp [va_rf_cat, cat_i, cat_l, cat_r]) dX5_rest_17 (fun r5 => ?_)
    refine s_iadd B.1.1 dX5_rest_20 ?_
    refine hp_csr (As := [va_rf v2, .int v3, .int (v4 + r5)]) (st := [va_rf o1, va_rf o1]) B.1 (mC_J7_copyOfRange_feecc B.2.1 v2 v3 (v4 + r5)) cc_J7_copyOfRange_feecc cl_X5_53 cs_J7_copyOfRange_feecc ci_J7 cd_J7_copyOfRange_feecc (by decide) rfl (by simp [va_rf_cat, cat_i, cat_l, cat_r]) dX5_rest_21 (fun r6 => ?_)
    refine hp_cI (As := [va_rf r6]) (st := [va_rf o1]) B.1 (fun a => mC_X7_init B.2.1 a r6) cc_X7_init cl_X5_11 cn_X7_init ci_X7 rfl cd_X7_init (by decide) rfl (by simp [va_rf_cat, cat_i, cat_l, cat_r]) dX5_rest_24 (fun r7 => ?_)
    exact s_aret B.1.1 B.2.2.2.2 (Or.inl ⟨_, rfl⟩) dX5_rest_27
  exact MH.of hw ⟨rfl, rfl⟩ (by decide) (by simp [lg_sl, va_rf_cat, cat_i, cat_l, cat_r]) (mo_C_X5_rest l0) M0
def C_X8_holds_J28 (l0 : Nat) : Hp → Option (Int32 × Hp) :=
  zt ((0 : Int32))
set_option maxRecDepth 10000 in
theorem mo_C_X8_holds_J28 (l0 : Nat) : Mo (C_X8_holds_J28 l0) := by
  unfold C_X8_holds_J28
  repeat' (with_reducible first | assumption | exact mo_rt _ | exact mo_zt _ | exact mo_no | refine mo_ite ?_ ?_ | refine mo_hgI (fun _ => ?_) | refine mo_hgR (fun _ => ?_) | refine mo_hCv (fun _ => ?_) (fun _ => ?_) | refine mo_lq (fun _ => ?_) | refine mo_hpI ?_ | refine mo_hpR ?_ | refine mo_hAi (fun _ => ?_) | refine mo_hAr (fun _ => ?_) | refine mo_hWi ?_ | refine mo_hWr ?_ | refine mo_hLn (fun _ => ?_) | refine mo_hgL (fun _ => ?_) | refine mo_hpL ?_ | refine mo_hpZ ?_ | refine mo_bd ?_ (fun _ => ?_) | refine mo_hCi (fun _ => ?_) (fun _ => ?_) | refine mo_hNw (fun _ => ?_) | refine mo_hNa (fun _ => ?_) | refine mo_hCp ?_ | refine mo_hOi ?_ | refine mo_hAl (fun _ => ?_) | refine mo_hWl ?_ | refine mo_gd ?_ | refine mo_sLn (fun _ => ?_) | refine mo_sAt (fun _ => ?_) | refine mo_kLn (fun _ => ?_) | refine mo_kAt (fun _ => ?_))
set_option maxRecDepth 10000 in
theorem sc_X8_holds_J28 {g : Gm Hp Int32} (B : Bx g cX8_holds 3 RX8 voI (some .boolean) 0 0 "holds") {l0 : Nat} : Sm g 3 28 [] [] (C_X8_holds_J28 l0) := by
  unfold C_X8_holds_J28
  refine s_iconst (v := 0) B.1.1 dX8_holds_28 (by decide) ?_
  exact s_zret B.1.1 B.2.2.2.2 dX8_holds_29
def C_X8_holds_J20 (l0 : Nat) : Hp → Option (Int32 × Hp) :=
  zt ((1 : Int32))
set_option maxRecDepth 10000 in
theorem mo_C_X8_holds_J20 (l0 : Nat) : Mo (C_X8_holds_J20 l0) := by
  unfold C_X8_holds_J20
  repeat' (with_reducible first | assumption | exact mo_rt _ | exact mo_zt _ | exact mo_no | refine mo_ite ?_ ?_ | refine mo_hgI (fun _ => ?_) | refine mo_hgR (fun _ => ?_) | refine mo_hCv (fun _ => ?_) (fun _ => ?_) | refine mo_lq (fun _ => ?_) | refine mo_hpI ?_ | refine mo_hpR ?_ | refine mo_hAi (fun _ => ?_) | refine mo_hAr (fun _ => ?_) | refine mo_hWi ?_ | refine mo_hWr ?_ | refine mo_hLn (fun _ => ?_) | refine mo_hgL (fun _ => ?_) | refine mo_hpL ?_ | refine mo_hpZ ?_ | refine mo_bd ?_ (fun _ => ?_) | refine mo_hCi (fun _ => ?_) (fun _ => ?_) | refine mo_hNw (fun _ => ?_) | refine mo_hNa (fun _ => ?_) | refine mo_hCp ?_ | refine mo_hOi ?_ | refine mo_hAl (fun _ => ?_) | refine mo_hWl ?_ | refine mo_gd ?_ | refine mo_sLn (fun _ => ?_) | refine mo_sAt (fun _ => ?_) | refine mo_kLn (fun _ => ?_) | refine mo_kAt (fun _ => ?_))
set_option maxRecDepth 10000 in
theorem sc_X8_holds_J20 {g : Gm Hp Int32} (B : Bx g cX8_holds 3 RX8 voI (some .boolean) 0 0 "holds") {l0 : Nat} : Sm g 3 20 [] [] (C_X8_holds_J20 l0) := by
  unfold C_X8_holds_J20
  refine s_iconst (v := 1) B.1.1 dX8_holds_20 (by decide) ?_
  exact s_zret B.1.1 B.2.2.2.2 dX8_holds_21
def C_X8_holds_B2 (l0 : Nat) (kb : Int32 → Int32 → Hp → Option (Int32 × Hp)) (ke20 : Hp → Option (Int32 × Hp)) (ke28 : Hp → Option (Int32 × Hp)) (l1 : Int32) (l2 : Int32) : Hp → Option (Int32 × Hp) :=
  hgI 10 10 (some l0) fun v1 =>
  if v1 ≤ l2 then (
    ke28
  ) else (
    hgR 10 9 (some l0) fun v2 =>
    hAi v2 l2 fun v3 =>
    if v3 = l1 then (
      ke20
    ) else (
      kb l1 (l2 + 1)
    )
  )
def C_X8_holds_L2 (l0 : Nat) (ke20 : Hp → Option (Int32 × Hp)) (ke28 : Hp → Option (Int32 × Hp)) : Nat → Int32 → Int32 → Hp → Option (Int32 × Hp)
  | 0, _, _ => no
  | n + 1, l1, l2 => C_X8_holds_B2 l0 (fun l1 l2 => C_X8_holds_L2 l0 ke20 ke28 n l1 l2) ke20 ke28 l1 l2
set_option maxRecDepth 10000 in
theorem mo_C_X8_holds_B2 (l0 : Nat) (kb : Int32 → Int32 → Hp → Option (Int32 × Hp)) (ke20 : Hp → Option (Int32 × Hp)) (ke28 : Hp → Option (Int32 × Hp)) (hkb : ∀ (l1 : Int32) (l2 : Int32), Mo (kb l1 l2)) (hke20 : Mo (ke20)) (hke28 : Mo (ke28)) (l1 : Int32) (l2 : Int32) : Mo (C_X8_holds_B2 l0 kb ke20 ke28 l1 l2) := by
  unfold C_X8_holds_B2
  repeat' (with_reducible first | assumption | exact mo_rt _ | exact mo_zt _ | exact mo_no | apply hkb | apply hke20 | apply hke28 | refine mo_ite ?_ ?_ | refine mo_hgI (fun _ => ?_) | refine mo_hgR (fun _ => ?_) | refine mo_hCv (fun _ => ?_) (fun _ => ?_) | refine mo_lq (fun _ => ?_) | refine mo_hpI ?_ | refine mo_hpR ?_ | refine mo_hAi (fun _ => ?_) | refine mo_hAr (fun _ => ?_) | refine mo_hWi ?_ | refine mo_hWr ?_ | refine mo_hLn (fun _ => ?_) | refine mo_hgL (fun _ => ?_) | refine mo_hpL ?_ | refine mo_hpZ ?_ | refine mo_bd ?_ (fun _ => ?_) | refine mo_hCi (fun _ => ?_) (fun _ => ?_) | refine mo_hNw (fun _ => ?_) | refine mo_hNa (fun _ => ?_) | refine mo_hCp ?_ | refine mo_hOi ?_ | refine mo_hAl (fun _ => ?_) | refine mo_hWl ?_ | refine mo_gd ?_ | refine mo_sLn (fun _ => ?_) | refine mo_sAt (fun _ => ?_) | refine mo_kLn (fun _ => ?_) | refine mo_kAt (fun _ => ?_))
set_option maxRecDepth 10000 in
theorem mo_C_X8_holds_L2 (l0 : Nat) (ke20 : Hp → Option (Int32 × Hp)) (ke28 : Hp → Option (Int32 × Hp)) (hke20 : Mo (ke20)) (hke28 : Mo (ke28)) : ∀ (n : Nat) (l1 : Int32) (l2 : Int32), Mo (C_X8_holds_L2 l0 ke20 ke28 n l1 l2)
  | 0, _, _ => mo_no
  | n + 1, l1, l2 => mo_C_X8_holds_B2 l0 _ ke20 ke28 (mo_C_X8_holds_L2 l0 ke20 ke28 hke20 hke28 n) hke20 hke28 l1 l2
set_option maxRecDepth 10000 in
theorem sc_X8_holds_B2 {g : Gm Hp Int32} {kb : Int32 → Int32 → Hp → Option (Int32 × Hp)} {ke20 : Hp → Option (Int32 × Hp)} {ke28 : Hp → Option (Int32 × Hp)} (B : Bx g cX8_holds 3 RX8 voI (some .boolean) 0 0 "holds") {l0 : Nat} (hkb : ∀ (l1 : Int32) (l2 : Int32), Sm g 3 2 [(0, va_rf (some l0)), (1, .int l1), (2, .int l2)] [] (kb l1 l2)) (hke20 : Sm g 3 20 [] [] (ke20)) (hke28 : Sm g 3 28 [] [] (ke28)) (l1 : Int32) (l2 : Int32) : Sm g 3 2 [(0, va_rf (some l0)), (1, .int l1), (2, .int l2)] [] (C_X8_holds_B2 l0 kb ke20 ke28 l1 l2) := by
  unfold C_X8_holds_B2
  refine s_iload_n B.1.1 2 dX8_holds_2 rfl rfl ?_
  refine s_rload_n B.1.1 0 dX8_holds_3 rfl rfl ?_
  refine hp_getI B.1 10 10 rfl (by decide) inX8 (by decide) fk_X8_10.1 fk_X8_10.2 cf_X8_94 dX8_holds_4 (fun v1 => ?_)
  refine s_icmp_ge B.1.1 28 dX8_holds_7 (by decide) ?_ ?_
  · exact Sm.lvs [] rfl (hke28)
  · refine s_rload_n B.1.1 0 dX8_holds_10 rfl rfl ?_
    refine hp_getR B.1 10 9 rfl (by decide) inX8 (by decide) fk_X8_9 cf_X8_26 dX8_holds_11 (fun v2 => ?_)
    refine s_iload_n B.1.1 2 dX8_holds_14 rfl rfl ?_
    refine hp_Ai B.1 dX8_holds_15 (fun v3 => ?_)
    refine s_iload_n B.1.1 1 dX8_holds_16 rfl rfl ?_
    refine s_icmp_ne B.1.1 22 dX8_holds_17 (by decide) ?_ ?_
    · refine s_iinc (v := l2 + 1) (lv' := [(2, .int (l2 + 1)), (0, va_rf (some l0)), (1, .int l1)]) B.1.1 2 dX8_holds_22 rfl rfl (by decide) rfl ?_
      refine s_goto B.1.1 2 dX8_holds_25 (by decide) ?_
      exact Sm.lvs [1, 2, 0] rfl (hkb l1 (l2 + 1))
    · exact Sm.lvs [] rfl (hke20)
set_option maxRecDepth 10000 in
theorem sc_X8_holds_L2 {g : Gm Hp Int32} {ke20 : Hp → Option (Int32 × Hp)} {ke28 : Hp → Option (Int32 × Hp)} (B : Bx g cX8_holds 3 RX8 voI (some .boolean) 0 0 "holds") {l0 : Nat} (hke20 : Sm g 3 20 [] [] (ke20)) (hke28 : Sm g 3 28 [] [] (ke28)) : ∀ (n : Nat) (l1 : Int32) (l2 : Int32), Sm g 3 2 [(0, va_rf (some l0)), (1, .int l1), (2, .int l2)] [] (C_X8_holds_L2 l0 ke20 ke28 n l1 l2)
  | 0, _, _ => Sm.fail
  | n + 1, l1, l2 => sc_X8_holds_B2 B (sc_X8_holds_L2 B hke20 hke28 n) hke20 hke28 l1 l2
def C_X8_holds (l0 : Nat) (l1 : Int32) : Hp → Option (Int32 × Hp) :=
  C_X8_holds_L2 l0 (C_X8_holds_J20 l0) (C_X8_holds_J28 l0) fu l1 (0 : Int32)
set_option maxRecDepth 10000 in
theorem mo_C_X8_holds (l0 : Nat) (l1 : Int32) : Mo (C_X8_holds l0 l1) := by
  unfold C_X8_holds
  repeat' (with_reducible first | assumption | exact mo_rt _ | exact mo_zt _ | exact mo_no | apply mo_C_X8_holds_L2 | apply mo_C_X8_holds_J20 | apply mo_C_X8_holds_J28 | refine mo_ite ?_ ?_ | refine mo_hgI (fun _ => ?_) | refine mo_hgR (fun _ => ?_) | refine mo_hCv (fun _ => ?_) (fun _ => ?_) | refine mo_lq (fun _ => ?_) | refine mo_hpI ?_ | refine mo_hpR ?_ | refine mo_hAi (fun _ => ?_) | refine mo_hAr (fun _ => ?_) | refine mo_hWi ?_ | refine mo_hWr ?_ | refine mo_hLn (fun _ => ?_) | refine mo_hgL (fun _ => ?_) | refine mo_hpL ?_ | refine mo_hpZ ?_ | refine mo_bd ?_ (fun _ => ?_) | refine mo_hCi (fun _ => ?_) (fun _ => ?_) | refine mo_hNw (fun _ => ?_) | refine mo_hNa (fun _ => ?_) | refine mo_hCp ?_ | refine mo_hOi ?_ | refine mo_hAl (fun _ => ?_) | refine mo_hWl ?_ | refine mo_gd ?_ | refine mo_sLn (fun _ => ?_) | refine mo_sAt (fun _ => ?_) | refine mo_kLn (fun _ => ?_) | refine mo_kAt (fun _ => ?_))
set_option maxRecDepth 10000 in
theorem mC_X8_holds {w : Wd} (hw : Wc w) (l0 : Nat) (l1 : Int32) : MH w yX8_holds cX8_holds 3 (some .boolean) 0 0 voI [va_rf (some l0), .int l1] (C_X8_holds l0 l1) := by
  have M0 : ∀ g : Gm Hp Int32, g.1 = w → Bx g cX8_holds 3 RX8 voI (some .boolean) 0 0 "holds" → Sm g 3 0 (lv_args 0 [va_rf (some l0), .int l1]) [] (C_X8_holds l0 l1) := by
    intro g hg B
    subst hg
    unfold C_X8_holds
    refine W_lva (lv := [(0, va_rf (some l0)), (1, .int l1)]) (by simp [lv_args, va_rf_cat, cat_i, cat_l, cat_r]) ?_
    refine s_iconst (v := 0) B.1.1 dX8_holds_0 (by decide) ?_
    refine s_istore_n (i := 2) (lv' := [(2, .int (0 : Int32)), (0, va_rf (some l0)), (1, .int l1)]) B.1.1 dX8_holds_1 rfl (by decide) rfl ?_
    exact Sm.lvs [1, 2, 0] rfl (sc_X8_holds_L2 B (sc_X8_holds_J20 B) (sc_X8_holds_J28 B) fu l1 (0 : Int32))
  exact MH.of hw ⟨rfl, rfl⟩ (by decide) (by simp [lg_sl, va_rf_cat, cat_i, cat_l, cat_r]) (mo_C_X8_holds l0 l1) M0
def C_X11_publish_J286 (l0 : Nat) (l1 : Option Nat) (l2 : Option Nat) (l6 : Int32) (s0 : Option Nat) (s1 : Option Nat) (s2 : Option Nat) (s3 : Int32) (s4 : Int32) : Hp → Option (Int32 × Hp) :=
  hCv 6 s0 (fun a => C_X4_message a s1 s2 s3 s4) fun r1 =>
  hgI 13 9 (some l0) fun v2 =>
  hpI 5 8 r1 v2 <|
  hCv 13 (some l0) (fun a => C_X11_carry a l1 l2 r1 l6) fun r3 =>
  rt ((0 : Int32))
set_option maxRecDepth 10000 in
theorem mo_C_X11_publish_J286 (l0 : Nat) (l1 : Option Nat) (l2 : Option Nat) (l6 : Int32) (s0 : Option Nat) (s1 : Option Nat) (s2 : Option Nat) (s3 : Int32) (s4 : Int32) : Mo (C_X11_publish_J286 l0 l1 l2 l6 s0 s1 s2 s3 s4) := by
  unfold C_X11_publish_J286
  repeat' (with_reducible first | assumption | exact mo_rt _ | exact mo_zt _ | exact mo_no | apply mo_C_X4_message | apply mo_C_X11_carry | refine mo_ite ?_ ?_ | refine mo_hgI (fun _ => ?_) | refine mo_hgR (fun _ => ?_) | refine mo_hCv (fun _ => ?_) (fun _ => ?_) | refine mo_lq (fun _ => ?_) | refine mo_hpI ?_ | refine mo_hpR ?_ | refine mo_hAi (fun _ => ?_) | refine mo_hAr (fun _ => ?_) | refine mo_hWi ?_ | refine mo_hWr ?_ | refine mo_hLn (fun _ => ?_) | refine mo_hgL (fun _ => ?_) | refine mo_hpL ?_ | refine mo_hpZ ?_ | refine mo_bd ?_ (fun _ => ?_) | refine mo_hCi (fun _ => ?_) (fun _ => ?_) | refine mo_hNw (fun _ => ?_) | refine mo_hNa (fun _ => ?_) | refine mo_hCp ?_ | refine mo_hOi ?_ | refine mo_hAl (fun _ => ?_) | refine mo_hWl ?_ | refine mo_gd ?_ | refine mo_sLn (fun _ => ?_) | refine mo_sAt (fun _ => ?_) | refine mo_kLn (fun _ => ?_) | refine mo_kAt (fun _ => ?_))
set_option maxRecDepth 10000 in
theorem sc_X11_publish_J286 {g : Gm Hp Int32} (B : Bx g cX11_publish 9 RX11 voI (some .int) 6 160 "publish") {l0 : Nat} (l1 : Option Nat) (l2 : Option Nat) (l6 : Int32) (s0 : Option Nat) (s1 : Option Nat) (s2 : Option Nat) (s3 : Int32) (s4 : Int32) : Sm g 9 286 [(0, va_rf (some l0)), (1, va_rf l1), (2, va_rf l2), (6, .int l6)] [.int s4, .int s3, va_rf s2, va_rf s1, va_rf s0] (C_X11_publish_J286 l0 l1 l2 l6 s0 s1 s2 s3 s4) := by
  unfold C_X11_publish_J286
  refine hp_cvr (As := [va_rf s1, va_rf s2, .int s3, .int s4]) (st := []) 6 rfl (by decide) B.1 (fun a => mC_X4_message B.2.1 a s1 s2 s3 s4) cc_X4_message cl_X11_481 cn_X4_message ce_X4_message ci_X4 cd_X4_message (by decide) rfl (Nat.le_of_ble_eq_true rfl) dX11_publish_286 (fun r1 => ?_)
  refine s_rstore (i := 8) (lv' := [(8, va_rf r1), (0, va_rf (some l0)), (1, va_rf l1), (2, va_rf l2), (6, .int l6)]) B.1.1 dX11_publish_289 (by decide) rfl ?_
  refine s_rload B.1.1 0 dX11_publish_291 rfl ?_
  refine s_rload_n B.1.1 1 dX11_publish_293 rfl rfl ?_
  refine hp_getI B.1 13 9 rfl (by decide) inX11 (by decide) fk_X11_9.1 fk_X11_9.2 cf_X11_131 dX11_publish_294 (fun v2 => ?_)
  refine hp_putI B.1 5 8 rfl (by decide) inX3 tyX3 tyX3_ok nmX3 (by decide) fk_X3_8.1 fk_X3_8.2 ft_X3_8 rfl cf_X11_485 dX11_publish_297 ?_
  refine s_rload_n B.1.1 1 dX11_publish_300 rfl rfl ?_
  refine s_rload_n B.1.1 2 dX11_publish_301 rfl rfl ?_
  refine s_rload_n B.1.1 3 dX11_publish_302 rfl rfl ?_
  refine s_rload B.1.1 0 dX11_publish_303 rfl ?_
  refine s_iload B.1.1 4 dX11_publish_305 rfl ?_
  refine hp_cvv (As := [va_rf l1, va_rf l2, va_rf r1, .int l6]) (st := []) 13 rfl (by decide) B.1 (fun a => mC_X11_carry B.2.1 a l1 l2 r1 l6) cc_X11_carry cl_X11_488 cn_X11_carry ce_X11_carry ci_X11 cd_X11_carry (by decide) rfl (Nat.le_of_ble_eq_true rfl) dX11_publish_307 (fun r3 => ?_)
  refine s_iconst (v := 0) B.1.1 dX11_publish_310 (by decide) ?_
  exact s_iret B.1.1 B.2.2.2.2 dX11_publish_311
def C_X11_publish_J259 (l0 : Nat) (l1 : Option Nat) (l2 : Option Nat) (l3 : Int32) (l4 : Int32) (l5 : Option Nat) (l6 : Int32) : Hp → Option (Int32 × Hp) :=
  hgR 13 4 (some l0) fun v4 =>
  hgR 13 3 (some l0) fun v5 =>
  hCv 7 v5 (fun a => C_X5_rest a) fun r6 =>
  if (l3 &&& (1 : Int32)) = (1 : Int32) then (
    C_X11_publish_J286 l0 l1 l2 l6 v4 l5 r6 l4 (1 : Int32)
  ) else (
    C_X11_publish_J286 l0 l1 l2 l6 v4 l5 r6 l4 (0 : Int32)
  )
set_option maxRecDepth 10000 in
theorem mo_C_X11_publish_J259 (l0 : Nat) (l1 : Option Nat) (l2 : Option Nat) (l3 : Int32) (l4 : Int32) (l5 : Option Nat) (l6 : Int32) : Mo (C_X11_publish_J259 l0 l1 l2 l3 l4 l5 l6) := by
  unfold C_X11_publish_J259
  repeat' (with_reducible first | assumption | exact mo_rt _ | exact mo_zt _ | exact mo_no | apply mo_C_X5_rest | apply mo_C_X11_publish_J286 | refine mo_ite ?_ ?_ | refine mo_hgI (fun _ => ?_) | refine mo_hgR (fun _ => ?_) | refine mo_hCv (fun _ => ?_) (fun _ => ?_) | refine mo_lq (fun _ => ?_) | refine mo_hpI ?_ | refine mo_hpR ?_ | refine mo_hAi (fun _ => ?_) | refine mo_hAr (fun _ => ?_) | refine mo_hWi ?_ | refine mo_hWr ?_ | refine mo_hLn (fun _ => ?_) | refine mo_hgL (fun _ => ?_) | refine mo_hpL ?_ | refine mo_hpZ ?_ | refine mo_bd ?_ (fun _ => ?_) | refine mo_hCi (fun _ => ?_) (fun _ => ?_) | refine mo_hNw (fun _ => ?_) | refine mo_hNa (fun _ => ?_) | refine mo_hCp ?_ | refine mo_hOi ?_ | refine mo_hAl (fun _ => ?_) | refine mo_hWl ?_ | refine mo_gd ?_ | refine mo_sLn (fun _ => ?_) | refine mo_sAt (fun _ => ?_) | refine mo_kLn (fun _ => ?_) | refine mo_kAt (fun _ => ?_))
set_option maxRecDepth 10000 in
theorem sc_X11_publish_J259 {g : Gm Hp Int32} (B : Bx g cX11_publish 9 RX11 voI (some .int) 6 160 "publish") {l0 : Nat} (l1 : Option Nat) (l2 : Option Nat) (l3 : Int32) (l4 : Int32) (l5 : Option Nat) (l6 : Int32) : Sm g 9 259 [(0, va_rf (some l0)), (1, va_rf l1), (2, va_rf l2), (3, .int l3), (4, .int l4), (5, va_rf l5), (6, .int l6)] [] (C_X11_publish_J259 l0 l1 l2 l3 l4 l5 l6) := by
  unfold C_X11_publish_J259
  refine s_rload_n B.1.1 0 dX11_publish_259 rfl rfl ?_
  refine hp_getR B.1 13 4 rfl (by decide) inX11 (by decide) fk_X11_4 cf_X11_41 dX11_publish_260 (fun v4 => ?_)
  refine s_rload B.1.1 5 dX11_publish_263 rfl ?_
  refine s_rload_n B.1.1 0 dX11_publish_265 rfl rfl ?_
  refine hp_getR B.1 13 3 rfl (by decide) inX11 (by decide) fk_X11_3 cf_X11_34 dX11_publish_266 (fun v5 => ?_)
  refine hp_cvr (As := []) (st := [va_rf l5, va_rf v4]) 7 rfl (by decide) B.1 (fun a => mC_X5_rest B.2.1 a ) cc_X5_rest cl_X11_478 cn_X5_rest ce_X5_rest ci_X5 cd_X5_rest (by decide) rfl (by simp [va_rf_cat, cat_i, cat_l, cat_r]) dX11_publish_269 (fun r6 => ?_)
  refine s_iload B.1.1 4 dX11_publish_272 rfl ?_
  refine s_iload_n B.1.1 3 dX11_publish_274 rfl rfl ?_
  refine s_iconst (v := 1) B.1.1 dX11_publish_275 (by decide) ?_
  refine s_iand B.1.1 dX11_publish_276 ?_
  refine s_iconst (v := 1) B.1.1 dX11_publish_277 (by decide) ?_
  refine s_icmp_ne B.1.1 285 dX11_publish_278 (by decide) ?_ ?_
  · refine s_iconst (v := 0) B.1.1 dX11_publish_285 (by decide) ?_
    exact Sm.lvs [0, 1, 2, 6] rfl (sc_X11_publish_J286 B l1 l2 l6 v4 l5 r6 l4 (0 : Int32))
  · refine s_iconst (v := 1) B.1.1 dX11_publish_281 (by decide) ?_
    refine s_goto B.1.1 286 dX11_publish_282 (by decide) ?_
    exact Sm.lvs [0, 1, 2, 6] rfl (sc_X11_publish_J286 B l1 l2 l6 v4 l5 r6 l4 (1 : Int32))
def C_X11_publish_J240 (l0 : Nat) (l1 : Option Nat) (l2 : Option Nat) (l3 : Int32) (l4 : Int32) (l5 : Option Nat) (l6 : Int32) : Hp → Option (Int32 × Hp) :=
  if l4 = (2 : Int32) then (
    hgI 10 10 l2 fun v7 =>
    if v7 = (8 : Int32) then (
      rt ((147 : Int32))
    ) else (
      C_X11_publish_J259 l0 l1 l2 l3 l4 l5 l6
    )
  ) else (
    C_X11_publish_J259 l0 l1 l2 l3 l4 l5 l6
  )
set_option maxRecDepth 10000 in
theorem mo_C_X11_publish_J240 (l0 : Nat) (l1 : Option Nat) (l2 : Option Nat) (l3 : Int32) (l4 : Int32) (l5 : Option Nat) (l6 : Int32) : Mo (C_X11_publish_J240 l0 l1 l2 l3 l4 l5 l6) := by
  unfold C_X11_publish_J240
  repeat' (with_reducible first | assumption | exact mo_rt _ | exact mo_zt _ | exact mo_no | apply mo_C_X11_publish_J259 | refine mo_ite ?_ ?_ | refine mo_hgI (fun _ => ?_) | refine mo_hgR (fun _ => ?_) | refine mo_hCv (fun _ => ?_) (fun _ => ?_) | refine mo_lq (fun _ => ?_) | refine mo_hpI ?_ | refine mo_hpR ?_ | refine mo_hAi (fun _ => ?_) | refine mo_hAr (fun _ => ?_) | refine mo_hWi ?_ | refine mo_hWr ?_ | refine mo_hLn (fun _ => ?_) | refine mo_hgL (fun _ => ?_) | refine mo_hpL ?_ | refine mo_hpZ ?_ | refine mo_bd ?_ (fun _ => ?_) | refine mo_hCi (fun _ => ?_) (fun _ => ?_) | refine mo_hNw (fun _ => ?_) | refine mo_hNa (fun _ => ?_) | refine mo_hCp ?_ | refine mo_hOi ?_ | refine mo_hAl (fun _ => ?_) | refine mo_hWl ?_ | refine mo_gd ?_ | refine mo_sLn (fun _ => ?_) | refine mo_sAt (fun _ => ?_) | refine mo_kLn (fun _ => ?_) | refine mo_kAt (fun _ => ?_))
set_option maxRecDepth 10000 in
theorem sc_X11_publish_J240 {g : Gm Hp Int32} (B : Bx g cX11_publish 9 RX11 voI (some .int) 6 160 "publish") {l0 : Nat} (l1 : Option Nat) (l2 : Option Nat) (l3 : Int32) (l4 : Int32) (l5 : Option Nat) (l6 : Int32) : Sm g 9 240 [(0, va_rf (some l0)), (1, va_rf l1), (2, va_rf l2), (3, .int l3), (4, .int l4), (5, va_rf l5), (6, .int l6)] [] (C_X11_publish_J240 l0 l1 l2 l3 l4 l5 l6) := by
  unfold C_X11_publish_J240
  refine s_iload B.1.1 4 dX11_publish_240 rfl ?_
  refine s_iconst (v := 2) B.1.1 dX11_publish_242 (by decide) ?_
  refine s_icmp_ne B.1.1 259 dX11_publish_243 (by decide) ?_ ?_
  · exact Sm.lvs [0, 1, 2, 3, 4, 5, 6] rfl (sc_X11_publish_J259 B l1 l2 l3 l4 l5 l6)
  · refine s_rload_n B.1.1 2 dX11_publish_246 rfl rfl ?_
    refine hp_getI B.1 10 10 rfl (by decide) inX8 (by decide) fk_X8_10.1 fk_X8_10.2 cf_X11_167 dX11_publish_247 (fun v7 => ?_)
    refine s_bipush (v := (8)) B.1.1 dX11_publish_250 (by decide) ?_
    refine s_icmp_ne B.1.1 259 dX11_publish_252 (by decide) ?_ ?_
    · exact Sm.lvs [0, 1, 2, 3, 4, 5, 6] rfl (sc_X11_publish_J259 B l1 l2 l3 l4 l5 l6)
    · refine s_sipush (v := (147)) B.1.1 dX11_publish_255 (by decide) ?_
      exact s_iret B.1.1 B.2.2.2.2 dX11_publish_258
def C_X11_publish_J195 (l0 : Nat) (l1 : Option Nat) (l2 : Option Nat) (l3 : Int32) (l4 : Int32) (l5 : Option Nat) (l6 : Int32) : Hp → Option (Int32 × Hp) :=
  hgR 13 3 (some l0) fun v8 =>
  hgI 7 4 v8 fun v9 =>
  if v9 = 0 then (
    if l4 = (2 : Int32) then (
      hCv 10 l2 (fun a => C_X8_holds a l6) fun r10 =>
      if r10 = 0 then (
        C_X11_publish_J240 l0 l1 l2 l3 l4 l5 l6
      ) else (
        hCv 13 (some l0) (fun a => C_X11_answer a l1 (80 : Int32) l6 (0 : Int32)) fun r11 =>
        rt ((0 : Int32))
      )
    ) else (
      C_X11_publish_J240 l0 l1 l2 l3 l4 l5 l6
    )
  ) else (
    hgR 13 3 (some l0) fun v12 =>
    hgI 7 4 v12 fun v13 =>
    rt (v13)
  )
set_option maxRecDepth 10000 in
theorem mo_C_X11_publish_J195 (l0 : Nat) (l1 : Option Nat) (l2 : Option Nat) (l3 : Int32) (l4 : Int32) (l5 : Option Nat) (l6 : Int32) : Mo (C_X11_publish_J195 l0 l1 l2 l3 l4 l5 l6) := by
  unfold C_X11_publish_J195
  repeat' (with_reducible first | assumption | exact mo_rt _ | exact mo_zt _ | exact mo_no | apply mo_C_X8_holds | apply mo_C_X11_publish_J240 | apply mo_C_X11_answer | refine mo_ite ?_ ?_ | refine mo_hgI (fun _ => ?_) | refine mo_hgR (fun _ => ?_) | refine mo_hCv (fun _ => ?_) (fun _ => ?_) | refine mo_lq (fun _ => ?_) | refine mo_hpI ?_ | refine mo_hpR ?_ | refine mo_hAi (fun _ => ?_) | refine mo_hAr (fun _ => ?_) | refine mo_hWi ?_ | refine mo_hWr ?_ | refine mo_hLn (fun _ => ?_) | refine mo_hgL (fun _ => ?_) | refine mo_hpL ?_ | refine mo_hpZ ?_ | refine mo_bd ?_ (fun _ => ?_) | refine mo_hCi (fun _ => ?_) (fun _ => ?_) | refine mo_hNw (fun _ => ?_) | refine mo_hNa (fun _ => ?_) | refine mo_hCp ?_ | refine mo_hOi ?_ | refine mo_hAl (fun _ => ?_) | refine mo_hWl ?_ | refine mo_gd ?_ | refine mo_sLn (fun _ => ?_) | refine mo_sAt (fun _ => ?_) | refine mo_kLn (fun _ => ?_) | refine mo_kAt (fun _ => ?_))
set_option maxRecDepth 10000 in
theorem sc_X11_publish_J195 {g : Gm Hp Int32} (B : Bx g cX11_publish 9 RX11 voI (some .int) 6 160 "publish") {l0 : Nat} (l1 : Option Nat) (l2 : Option Nat) (l3 : Int32) (l4 : Int32) (l5 : Option Nat) (l6 : Int32) : Sm g 9 195 [(0, va_rf (some l0)), (1, va_rf l1), (2, va_rf l2), (3, .int l3), (4, .int l4), (5, va_rf l5), (6, .int l6)] [] (C_X11_publish_J195 l0 l1 l2 l3 l4 l5 l6) := by
  unfold C_X11_publish_J195
  refine s_rload_n B.1.1 0 dX11_publish_195 rfl rfl ?_
  refine hp_getR B.1 13 3 rfl (by decide) inX11 (by decide) fk_X11_3 cf_X11_34 dX11_publish_196 (fun v8 => ?_)
  refine hp_getI B.1 7 4 rfl (by decide) inX5 (by decide) fk_X5_4.1 fk_X5_4.2 cf_X11_341 dX11_publish_199 (fun v9 => ?_)
  refine s_if_eq B.1.1 213 dX11_publish_202 (by decide) ?_ ?_
  · refine s_iload B.1.1 4 dX11_publish_213 rfl ?_
    refine s_iconst (v := 2) B.1.1 dX11_publish_215 (by decide) ?_
    refine s_icmp_ne B.1.1 240 dX11_publish_216 (by decide) ?_ ?_
    · exact Sm.lvs [0, 1, 2, 3, 4, 5, 6] rfl (sc_X11_publish_J240 B l1 l2 l3 l4 l5 l6)
    · refine s_rload_n B.1.1 2 dX11_publish_219 rfl rfl ?_
      refine s_iload B.1.1 6 dX11_publish_220 rfl ?_
      refine hp_cvi (As := [.int l6]) (st := []) 10 rfl (by decide) B.1 (fun a => mC_X8_holds B.2.1 a l6) cc_X8_holds cl_X11_475 cn_X8_holds ce_X8_holds ci_X8 cd_X8_holds (by decide) rfl (Nat.le_of_ble_eq_true rfl) dX11_publish_222 (fun r10 => ?_)
      refine s_if_eq B.1.1 240 dX11_publish_225 (by decide) ?_ ?_
      · exact Sm.lvs [0, 1, 2, 3, 4, 5, 6] rfl (sc_X11_publish_J240 B l1 l2 l3 l4 l5 l6)
      · refine s_rload_n B.1.1 0 dX11_publish_228 rfl rfl ?_
        refine s_rload_n B.1.1 1 dX11_publish_229 rfl rfl ?_
        refine s_bipush (v := (80)) B.1.1 dX11_publish_230 (by decide) ?_
        refine s_iload B.1.1 6 dX11_publish_232 rfl ?_
        refine s_iconst (v := 0) B.1.1 dX11_publish_234 (by decide) ?_
        refine hp_cvv (As := [va_rf l1, .int (80 : Int32), .int l6, .int (0 : Int32)]) (st := []) 13 rfl (by decide) B.1 (fun a => mC_X11_answer B.2.1 a l1 (80 : Int32) l6 (0 : Int32)) cc_X11_answer cl_X11_443 cn_X11_answer ce_X11_answer ci_X11 cd_X11_answer (by decide) rfl (Nat.le_of_ble_eq_true rfl) dX11_publish_235 (fun r11 => ?_)
        refine s_iconst (v := 0) B.1.1 dX11_publish_238 (by decide) ?_
        exact s_iret B.1.1 B.2.2.2.2 dX11_publish_239
  · refine s_rload_n B.1.1 0 dX11_publish_205 rfl rfl ?_
    refine hp_getR B.1 13 3 rfl (by decide) inX11 (by decide) fk_X11_3 cf_X11_34 dX11_publish_206 (fun v12 => ?_)
    refine hp_getI B.1 7 4 rfl (by decide) inX5 (by decide) fk_X5_4.1 fk_X5_4.2 cf_X11_341 dX11_publish_209 (fun v13 => ?_)
    exact s_iret B.1.1 B.2.2.2.2 dX11_publish_212
def C_X11_publish_J180 (l0 : Nat) (l1 : Option Nat) (l2 : Option Nat) (l3 : Int32) (l4 : Int32) (l5 : Option Nat) (l6 : Int32) : Hp → Option (Int32 × Hp) :=
  if l5 = none then (
    hgR 13 3 (some l0) fun v14 =>
    hCv 7 v14 (fun a => C_X5_fail a (130 : Int32)) fun r15 =>
    C_X11_publish_J195 l0 l1 l2 l3 l4 l5 l6
  ) else (
    C_X11_publish_J195 l0 l1 l2 l3 l4 l5 l6
  )
set_option maxRecDepth 10000 in
theorem mo_C_X11_publish_J180 (l0 : Nat) (l1 : Option Nat) (l2 : Option Nat) (l3 : Int32) (l4 : Int32) (l5 : Option Nat) (l6 : Int32) : Mo (C_X11_publish_J180 l0 l1 l2 l3 l4 l5 l6) := by
  unfold C_X11_publish_J180
  repeat' (with_reducible first | assumption | exact mo_rt _ | exact mo_zt _ | exact mo_no | apply mo_C_X5_fail | apply mo_C_X11_publish_J195 | refine mo_ite ?_ ?_ | refine mo_hgI (fun _ => ?_) | refine mo_hgR (fun _ => ?_) | refine mo_hCv (fun _ => ?_) (fun _ => ?_) | refine mo_lq (fun _ => ?_) | refine mo_hpI ?_ | refine mo_hpR ?_ | refine mo_hAi (fun _ => ?_) | refine mo_hAr (fun _ => ?_) | refine mo_hWi ?_ | refine mo_hWr ?_ | refine mo_hLn (fun _ => ?_) | refine mo_hgL (fun _ => ?_) | refine mo_hpL ?_ | refine mo_hpZ ?_ | refine mo_bd ?_ (fun _ => ?_) | refine mo_hCi (fun _ => ?_) (fun _ => ?_) | refine mo_hNw (fun _ => ?_) | refine mo_hNa (fun _ => ?_) | refine mo_hCp ?_ | refine mo_hOi ?_ | refine mo_hAl (fun _ => ?_) | refine mo_hWl ?_ | refine mo_gd ?_ | refine mo_sLn (fun _ => ?_) | refine mo_sAt (fun _ => ?_) | refine mo_kLn (fun _ => ?_) | refine mo_kAt (fun _ => ?_))
set_option maxRecDepth 10000 in
theorem sc_X11_publish_J180 {g : Gm Hp Int32} (B : Bx g cX11_publish 9 RX11 voI (some .int) 6 160 "publish") {l0 : Nat} (l1 : Option Nat) (l2 : Option Nat) (l3 : Int32) (l4 : Int32) (l5 : Option Nat) (l6 : Int32) : Sm g 9 180 [(0, va_rf (some l0)), (1, va_rf l1), (2, va_rf l2), (3, .int l3), (4, .int l4), (5, va_rf l5), (6, .int l6)] [] (C_X11_publish_J180 l0 l1 l2 l3 l4 l5 l6) := by
  unfold C_X11_publish_J180
  refine s_rload B.1.1 5 dX11_publish_180 rfl ?_
  refine s_ifnonnull B.1.1 195 dX11_publish_182 (by decide) ?_ ?_
  · exact Sm.lvs [0, 1, 2, 3, 4, 5, 6] rfl (sc_X11_publish_J195 B l1 l2 l3 l4 l5 l6)
  · refine s_rload_n B.1.1 0 dX11_publish_185 rfl rfl ?_
    refine hp_getR B.1 13 3 rfl (by decide) inX11 (by decide) fk_X11_3 cf_X11_34 dX11_publish_186 (fun v14 => ?_)
    refine s_sipush (v := (130)) B.1.1 dX11_publish_189 (by decide) ?_
    refine hp_cvv (As := [.int (130 : Int32)]) (st := []) 7 rfl (by decide) B.1 (fun a => mC_X5_fail B.2.1 a (130 : Int32)) cc_X5_fail cl_X11_359 cn_X5_fail ce_X5_fail ci_X5 cd_X5_fail (by decide) rfl (Nat.le_of_ble_eq_true rfl) dX11_publish_192 (fun r15 => ?_)
    exact Sm.lvs [0, 1, 2, 3, 4, 5, 6] rfl (sc_X11_publish_J195 B l1 l2 l3 l4 l5 l6)
def C_X11_publish_J160 (l0 : Nat) (l1 : Option Nat) (l2 : Option Nat) (l3 : Int32) (l4 : Int32) (l5 : Option Nat) (l6 : Int32) (l7 : Int32) : Hp → Option (Int32 × Hp) :=
  hgR 13 3 (some l0) fun v16 =>
  hgI 7 4 v16 fun v17 =>
  if v17 = 0 then (
    hCv 2 l1 (fun a => C_X0_resolve a l5 l7) fun r18 =>
    C_X11_publish_J180 l0 l1 l2 l3 l4 r18 l6
  ) else (
    C_X11_publish_J180 l0 l1 l2 l3 l4 l5 l6
  )
set_option maxRecDepth 10000 in
theorem mo_C_X11_publish_J160 (l0 : Nat) (l1 : Option Nat) (l2 : Option Nat) (l3 : Int32) (l4 : Int32) (l5 : Option Nat) (l6 : Int32) (l7 : Int32) : Mo (C_X11_publish_J160 l0 l1 l2 l3 l4 l5 l6 l7) := by
  unfold C_X11_publish_J160
  repeat' (with_reducible first | assumption | exact mo_rt _ | exact mo_zt _ | exact mo_no | apply mo_C_X0_resolve | apply mo_C_X11_publish_J180 | refine mo_ite ?_ ?_ | refine mo_hgI (fun _ => ?_) | refine mo_hgR (fun _ => ?_) | refine mo_hCv (fun _ => ?_) (fun _ => ?_) | refine mo_lq (fun _ => ?_) | refine mo_hpI ?_ | refine mo_hpR ?_ | refine mo_hAi (fun _ => ?_) | refine mo_hAr (fun _ => ?_) | refine mo_hWi ?_ | refine mo_hWr ?_ | refine mo_hLn (fun _ => ?_) | refine mo_hgL (fun _ => ?_) | refine mo_hpL ?_ | refine mo_hpZ ?_ | refine mo_bd ?_ (fun _ => ?_) | refine mo_hCi (fun _ => ?_) (fun _ => ?_) | refine mo_hNw (fun _ => ?_) | refine mo_hNa (fun _ => ?_) | refine mo_hCp ?_ | refine mo_hOi ?_ | refine mo_hAl (fun _ => ?_) | refine mo_hWl ?_ | refine mo_gd ?_ | refine mo_sLn (fun _ => ?_) | refine mo_sAt (fun _ => ?_) | refine mo_kLn (fun _ => ?_) | refine mo_kAt (fun _ => ?_))
set_option maxRecDepth 10000 in
theorem sc_X11_publish_J160 {g : Gm Hp Int32} (B : Bx g cX11_publish 9 RX11 voI (some .int) 6 160 "publish") {l0 : Nat} (l1 : Option Nat) (l2 : Option Nat) (l3 : Int32) (l4 : Int32) (l5 : Option Nat) (l6 : Int32) (l7 : Int32) : Sm g 9 160 [(0, va_rf (some l0)), (1, va_rf l1), (2, va_rf l2), (3, .int l3), (4, .int l4), (5, va_rf l5), (6, .int l6), (7, .int l7)] [] (C_X11_publish_J160 l0 l1 l2 l3 l4 l5 l6 l7) := by
  unfold C_X11_publish_J160
  refine s_rload_n B.1.1 0 dX11_publish_160 rfl rfl ?_
  refine hp_getR B.1 13 3 rfl (by decide) inX11 (by decide) fk_X11_3 cf_X11_34 dX11_publish_161 (fun v16 => ?_)
  refine hp_getI B.1 7 4 rfl (by decide) inX5 (by decide) fk_X5_4.1 fk_X5_4.2 cf_X11_341 dX11_publish_164 (fun v17 => ?_)
  refine s_if_ne B.1.1 180 dX11_publish_167 (by decide) ?_ ?_
  · exact Sm.lvs [0, 1, 2, 3, 4, 5, 6] rfl (sc_X11_publish_J180 B l1 l2 l3 l4 l5 l6)
  · refine s_rload_n B.1.1 1 dX11_publish_170 rfl rfl ?_
    refine s_rload B.1.1 5 dX11_publish_171 rfl ?_
    refine s_iload B.1.1 7 dX11_publish_173 rfl ?_
    refine hp_cvr (As := [va_rf l5, .int l7]) (st := []) 2 rfl (by decide) B.1 (fun a => mC_X0_resolve B.2.1 a l5 l7) cc_X0_resolve cl_X11_471 cn_X0_resolve ce_X0_resolve ci_X0 cd_X0_resolve (by decide) rfl (Nat.le_of_ble_eq_true rfl) dX11_publish_175 (fun r18 => ?_)
    refine s_rstore (i := 5) (lv' := [(5, va_rf r18), (0, va_rf (some l0)), (1, va_rf l1), (2, va_rf l2), (3, .int l3), (4, .int l4), (6, .int l6), (7, .int l7)]) B.1.1 dX11_publish_178 (by decide) rfl ?_
    exact Sm.lvs [1, 2, 3, 4, 5, 0, 6] rfl (sc_X11_publish_J180 B l1 l2 l3 l4 r18 l6)
def C_X11_publish_J150 (l0 : Nat) (l1 : Option Nat) (l2 : Option Nat) (l3 : Int32) (l4 : Int32) (l5 : Option Nat) (l6 : Int32) (l7 : Int32) : Hp → Option (Int32 × Hp) :=
  hgR 13 3 (some l0) fun v19 =>
  hCv 7 v19 (fun a => C_X5_fail a (148 : Int32)) fun r20 =>
  C_X11_publish_J160 l0 l1 l2 l3 l4 l5 l6 l7
set_option maxRecDepth 10000 in
theorem mo_C_X11_publish_J150 (l0 : Nat) (l1 : Option Nat) (l2 : Option Nat) (l3 : Int32) (l4 : Int32) (l5 : Option Nat) (l6 : Int32) (l7 : Int32) : Mo (C_X11_publish_J150 l0 l1 l2 l3 l4 l5 l6 l7) := by
  unfold C_X11_publish_J150
  repeat' (with_reducible first | assumption | exact mo_rt _ | exact mo_zt _ | exact mo_no | apply mo_C_X5_fail | apply mo_C_X11_publish_J160 | refine mo_ite ?_ ?_ | refine mo_hgI (fun _ => ?_) | refine mo_hgR (fun _ => ?_) | refine mo_hCv (fun _ => ?_) (fun _ => ?_) | refine mo_lq (fun _ => ?_) | refine mo_hpI ?_ | refine mo_hpR ?_ | refine mo_hAi (fun _ => ?_) | refine mo_hAr (fun _ => ?_) | refine mo_hWi ?_ | refine mo_hWr ?_ | refine mo_hLn (fun _ => ?_) | refine mo_hgL (fun _ => ?_) | refine mo_hpL ?_ | refine mo_hpZ ?_ | refine mo_bd ?_ (fun _ => ?_) | refine mo_hCi (fun _ => ?_) (fun _ => ?_) | refine mo_hNw (fun _ => ?_) | refine mo_hNa (fun _ => ?_) | refine mo_hCp ?_ | refine mo_hOi ?_ | refine mo_hAl (fun _ => ?_) | refine mo_hWl ?_ | refine mo_gd ?_ | refine mo_sLn (fun _ => ?_) | refine mo_sAt (fun _ => ?_) | refine mo_kLn (fun _ => ?_) | refine mo_kAt (fun _ => ?_))
set_option maxRecDepth 10000 in
theorem sc_X11_publish_J150 {g : Gm Hp Int32} (B : Bx g cX11_publish 9 RX11 voI (some .int) 6 160 "publish") {l0 : Nat} (l1 : Option Nat) (l2 : Option Nat) (l3 : Int32) (l4 : Int32) (l5 : Option Nat) (l6 : Int32) (l7 : Int32) : Sm g 9 150 [(0, va_rf (some l0)), (1, va_rf l1), (2, va_rf l2), (3, .int l3), (4, .int l4), (5, va_rf l5), (6, .int l6), (7, .int l7)] [] (C_X11_publish_J150 l0 l1 l2 l3 l4 l5 l6 l7) := by
  unfold C_X11_publish_J150
  refine s_rload_n B.1.1 0 dX11_publish_150 rfl rfl ?_
  refine hp_getR B.1 13 3 rfl (by decide) inX11 (by decide) fk_X11_3 cf_X11_34 dX11_publish_151 (fun v19 => ?_)
  refine s_sipush (v := (148)) B.1.1 dX11_publish_154 (by decide) ?_
  refine hp_cvv (As := [.int (148 : Int32)]) (st := []) 7 rfl (by decide) B.1 (fun a => mC_X5_fail B.2.1 a (148 : Int32)) cc_X5_fail cl_X11_359 cn_X5_fail ce_X5_fail ci_X5 cd_X5_fail (by decide) rfl (Nat.le_of_ble_eq_true rfl) dX11_publish_157 (fun r20 => ?_)
  exact Sm.lvs [0, 1, 2, 3, 4, 5, 6, 7] rfl (sc_X11_publish_J160 B l1 l2 l3 l4 l5 l6 l7)
def C_X11_publish_J86 (l0 : Nat) (l1 : Option Nat) (l2 : Option Nat) (l3 : Int32) (l4 : Int32) (l5 : Option Nat) (s0 : Int32) : Hp → Option (Int32 × Hp) :=
  hgR 13 4 (some l0) fun v21 =>
  hgR 13 3 (some l0) fun v22 =>
  hCv 6 v21 (fun a => C_X4_read a v22 (309237646094 : Int64)) fun r23 =>
  hgR 13 4 (some l0) fun v24 =>
  hgR 13 3 (some l0) fun v25 =>
  hCv 6 v24 (fun a => C_X4_checkResponse a v25) fun r26 =>
  hgR 13 4 (some l0) fun v27 =>
  hCv 6 v27 (fun a => C_X4_get a (35 : Int32) (0 : Int64)) fun r28 =>
  hgR 13 4 (some l0) fun v29 =>
  hCv 6 v29 (fun a => C_X4_has a (35 : Int32)) fun r30 =>
  if r30 = 0 then (
    C_X11_publish_J160 l0 l1 l2 l3 l4 l5 s0 r28.toInt32
  ) else (
    if r28.toInt32 < (1 : Int32) then (
      C_X11_publish_J150 l0 l1 l2 l3 l4 l5 s0 r28.toInt32
    ) else (
      if r28.toInt32 ≤ (4 : Int32) then (
        C_X11_publish_J160 l0 l1 l2 l3 l4 l5 s0 r28.toInt32
      ) else (
        C_X11_publish_J150 l0 l1 l2 l3 l4 l5 s0 r28.toInt32
      )
    )
  )
set_option maxRecDepth 10000 in
theorem mo_C_X11_publish_J86 (l0 : Nat) (l1 : Option Nat) (l2 : Option Nat) (l3 : Int32) (l4 : Int32) (l5 : Option Nat) (s0 : Int32) : Mo (C_X11_publish_J86 l0 l1 l2 l3 l4 l5 s0) := by
  unfold C_X11_publish_J86
  repeat' (with_reducible first | assumption | exact mo_rt _ | exact mo_zt _ | exact mo_no | apply mo_C_X4_read | apply mo_C_X4_checkResponse | apply mo_C_X4_get | apply mo_C_X4_has | apply mo_C_X11_publish_J160 | apply mo_C_X11_publish_J150 | refine mo_ite ?_ ?_ | refine mo_hgI (fun _ => ?_) | refine mo_hgR (fun _ => ?_) | refine mo_hCv (fun _ => ?_) (fun _ => ?_) | refine mo_lq (fun _ => ?_) | refine mo_hpI ?_ | refine mo_hpR ?_ | refine mo_hAi (fun _ => ?_) | refine mo_hAr (fun _ => ?_) | refine mo_hWi ?_ | refine mo_hWr ?_ | refine mo_hLn (fun _ => ?_) | refine mo_hgL (fun _ => ?_) | refine mo_hpL ?_ | refine mo_hpZ ?_ | refine mo_bd ?_ (fun _ => ?_) | refine mo_hCi (fun _ => ?_) (fun _ => ?_) | refine mo_hNw (fun _ => ?_) | refine mo_hNa (fun _ => ?_) | refine mo_hCp ?_ | refine mo_hOi ?_ | refine mo_hAl (fun _ => ?_) | refine mo_hWl ?_ | refine mo_gd ?_ | refine mo_sLn (fun _ => ?_) | refine mo_sAt (fun _ => ?_) | refine mo_kLn (fun _ => ?_) | refine mo_kAt (fun _ => ?_))
set_option maxRecDepth 10000 in
theorem sc_X11_publish_J86 {g : Gm Hp Int32} (B : Bx g cX11_publish 9 RX11 voI (some .int) 6 160 "publish") {l0 : Nat} (l1 : Option Nat) (l2 : Option Nat) (l3 : Int32) (l4 : Int32) (l5 : Option Nat) (s0 : Int32) : Sm g 9 86 [(0, va_rf (some l0)), (1, va_rf l1), (2, va_rf l2), (3, .int l3), (4, .int l4), (5, va_rf l5)] [.int s0] (C_X11_publish_J86 l0 l1 l2 l3 l4 l5 s0) := by
  unfold C_X11_publish_J86
  refine s_istore (i := 6) (lv' := [(6, .int s0), (0, va_rf (some l0)), (1, va_rf l1), (2, va_rf l2), (3, .int l3), (4, .int l4), (5, va_rf l5)]) B.1.1 dX11_publish_86 (by decide) (by simp [va_rf_cat, cat_i, cat_l, cat_r]) ?_
  refine s_rload_n B.1.1 1 dX11_publish_88 rfl rfl ?_
  refine hp_getR B.1 13 4 rfl (by decide) inX11 (by decide) fk_X11_4 cf_X11_41 dX11_publish_89 (fun v21 => ?_)
  refine s_rload_n B.1.1 1 dX11_publish_92 rfl rfl ?_
  refine hp_getR B.1 13 3 rfl (by decide) inX11 (by decide) fk_X11_3 cf_X11_34 dX11_publish_93 (fun v22 => ?_)
  refine s_ldc2 (v := (309237646094)) B.1.1 tw_980 dX11_publish_96 ?_
  refine hp_cvv (As := [va_rf v22, .long (309237646094 : Int64)]) (st := []) 6 rfl (by decide) B.1 (fun a => mC_X4_read B.2.1 a v22 (309237646094 : Int64)) cc_X4_read cl_X11_353 cn_X4_read ce_X4_read ci_X4 cd_X4_read (by decide) rfl (Nat.le_of_ble_eq_true rfl) dX11_publish_99 (fun r23 => ?_)
  refine s_rload_n B.1.1 1 dX11_publish_102 rfl rfl ?_
  refine hp_getR B.1 13 4 rfl (by decide) inX11 (by decide) fk_X11_4 cf_X11_41 dX11_publish_103 (fun v24 => ?_)
  refine s_rload_n B.1.1 1 dX11_publish_106 rfl rfl ?_
  refine hp_getR B.1 13 3 rfl (by decide) inX11 (by decide) fk_X11_3 cf_X11_34 dX11_publish_107 (fun v25 => ?_)
  refine hp_cvv (As := [va_rf v25]) (st := []) 6 rfl (by decide) B.1 (fun a => mC_X4_checkResponse B.2.1 a v25) cc_X4_checkResponse cl_X11_463 cn_X4_checkResponse ce_X4_checkResponse ci_X4 cd_X4_checkResponse (by decide) rfl (Nat.le_of_ble_eq_true rfl) dX11_publish_110 (fun r26 => ?_)
  refine s_rload_n B.1.1 1 dX11_publish_113 rfl rfl ?_
  refine hp_getR B.1 13 4 rfl (by decide) inX11 (by decide) fk_X11_4 cf_X11_41 dX11_publish_114 (fun v27 => ?_)
  refine s_bipush (v := (35)) B.1.1 dX11_publish_117 (by decide) ?_
  refine s_lconst (v := 0) B.1.1 dX11_publish_119 (by decide) ?_
  refine hp_cvl (As := [.int (35 : Int32), .long (0 : Int64)]) (st := []) 6 rfl (by decide) B.1 (fun a => mC_X4_get B.2.1 a (35 : Int32) (0 : Int64)) cc_X4_get cl_X11_356 cn_X4_get ce_X4_get ci_X4 cd_X4_get (by decide) rfl (Nat.le_of_ble_eq_true rfl) dX11_publish_120 (fun r28 => ?_)
  refine s_l2i B.1.1 dX11_publish_123 ?_
  refine s_istore (i := 7) (lv' := [(7, .int r28.toInt32), (6, .int s0), (0, va_rf (some l0)), (1, va_rf l1), (2, va_rf l2), (3, .int l3), (4, .int l4), (5, va_rf l5)]) B.1.1 dX11_publish_124 (by decide) rfl ?_
  refine s_rload_n B.1.1 2 dX11_publish_126 rfl rfl ?_
  refine hp_getR B.1 13 4 rfl (by decide) inX11 (by decide) fk_X11_4 cf_X11_41 dX11_publish_127 (fun v29 => ?_)
  refine s_bipush (v := (35)) B.1.1 dX11_publish_130 (by decide) ?_
  refine hp_cvi (As := [.int (35 : Int32)]) (st := []) 6 rfl (by decide) B.1 (fun a => mC_X4_has B.2.1 a (35 : Int32)) cc_X4_has cl_X11_467 cn_X4_has ce_X4_has ci_X4 cd_X4_has (by decide) rfl (Nat.le_of_ble_eq_true rfl) dX11_publish_132 (fun r30 => ?_)
  refine s_if_eq B.1.1 160 dX11_publish_135 (by decide) ?_ ?_
  · exact Sm.lvs [2, 3, 4, 5, 6, 7, 1, 0] rfl (sc_X11_publish_J160 B l1 l2 l3 l4 l5 s0 r28.toInt32)
  · refine s_iload B.1.1 0 dX11_publish_138 rfl ?_
    refine s_iconst (v := 1) B.1.1 dX11_publish_140 (by decide) ?_
    refine s_icmp_lt B.1.1 150 dX11_publish_141 (by decide) ?_ ?_
    · exact Sm.lvs [2, 3, 4, 5, 6, 7, 1, 0] rfl (sc_X11_publish_J150 B l1 l2 l3 l4 l5 s0 r28.toInt32)
    · refine s_iload B.1.1 0 dX11_publish_144 rfl ?_
      refine s_iconst (v := 4) B.1.1 dX11_publish_146 (by decide) ?_
      refine s_icmp_le B.1.1 160 dX11_publish_147 (by decide) ?_ ?_
      · exact Sm.lvs [2, 3, 4, 5, 6, 7, 1, 0] rfl (sc_X11_publish_J160 B l1 l2 l3 l4 l5 s0 r28.toInt32)
      · exact Sm.lvs [2, 3, 4, 5, 6, 7, 1, 0] rfl (sc_X11_publish_J150 B l1 l2 l3 l4 l5 s0 r28.toInt32)
def C_X11_publish_J70 (l0 : Nat) (l1 : Option Nat) (l2 : Option Nat) (l3 : Int32) (l4 : Int32) (l5 : Option Nat) : Hp → Option (Int32 × Hp) :=
  if l4 ≤ 0 then (
    C_X11_publish_J86 l0 l1 l2 l3 l4 l5 (0 : Int32)
  ) else (
    hgR 13 3 (some l0) fun v31 =>
    hCv 7 v31 (fun a => C_X5_number a) fun r32 =>
    C_X11_publish_J86 l0 l1 l2 l3 l4 l5 r32
  )
set_option maxRecDepth 10000 in
theorem mo_C_X11_publish_J70 (l0 : Nat) (l1 : Option Nat) (l2 : Option Nat) (l3 : Int32) (l4 : Int32) (l5 : Option Nat) : Mo (C_X11_publish_J70 l0 l1 l2 l3 l4 l5) := by
  unfold C_X11_publish_J70
  repeat' (with_reducible first | assumption | exact mo_rt _ | exact mo_zt _ | exact mo_no | apply mo_C_X11_publish_J86 | apply mo_C_X5_number | refine mo_ite ?_ ?_ | refine mo_hgI (fun _ => ?_) | refine mo_hgR (fun _ => ?_) | refine mo_hCv (fun _ => ?_) (fun _ => ?_) | refine mo_lq (fun _ => ?_) | refine mo_hpI ?_ | refine mo_hpR ?_ | refine mo_hAi (fun _ => ?_) | refine mo_hAr (fun _ => ?_) | refine mo_hWi ?_ | refine mo_hWr ?_ | refine mo_hLn (fun _ => ?_) | refine mo_hgL (fun _ => ?_) | refine mo_hpL ?_ | refine mo_hpZ ?_ | refine mo_bd ?_ (fun _ => ?_) | refine mo_hCi (fun _ => ?_) (fun _ => ?_) | refine mo_hNw (fun _ => ?_) | refine mo_hNa (fun _ => ?_) | refine mo_hCp ?_ | refine mo_hOi ?_ | refine mo_hAl (fun _ => ?_) | refine mo_hWl ?_ | refine mo_gd ?_ | refine mo_sLn (fun _ => ?_) | refine mo_sAt (fun _ => ?_) | refine mo_kLn (fun _ => ?_) | refine mo_kAt (fun _ => ?_))
set_option maxRecDepth 10000 in
theorem sc_X11_publish_J70 {g : Gm Hp Int32} (B : Bx g cX11_publish 9 RX11 voI (some .int) 6 160 "publish") {l0 : Nat} (l1 : Option Nat) (l2 : Option Nat) (l3 : Int32) (l4 : Int32) (l5 : Option Nat) : Sm g 9 70 [(0, va_rf (some l0)), (1, va_rf l1), (2, va_rf l2), (3, .int l3), (4, .int l4), (5, va_rf l5)] [] (C_X11_publish_J70 l0 l1 l2 l3 l4 l5) := by
  unfold C_X11_publish_J70
  refine s_iload B.1.1 4 dX11_publish_70 rfl ?_
  refine s_if_le B.1.1 85 dX11_publish_72 (by decide) ?_ ?_
  · refine s_iconst (v := 0) B.1.1 dX11_publish_85 (by decide) ?_
    exact Sm.lvs [0, 1, 2, 3, 4, 5] rfl (sc_X11_publish_J86 B l1 l2 l3 l4 l5 (0 : Int32))
  · refine s_rload_n B.1.1 0 dX11_publish_75 rfl rfl ?_
    refine hp_getR B.1 13 3 rfl (by decide) inX11 (by decide) fk_X11_3 cf_X11_34 dX11_publish_76 (fun v31 => ?_)
    refine hp_cvi (As := []) (st := []) 7 rfl (by decide) B.1 (fun a => mC_X5_number B.2.1 a ) cc_X5_number cl_X11_459 cn_X5_number ce_X5_number ci_X5 cd_X5_number (by decide) rfl (Nat.le_of_ble_eq_true rfl) dX11_publish_79 (fun r32 => ?_)
    refine s_goto B.1.1 86 dX11_publish_82 (by decide) ?_
    exact Sm.lvs [0, 1, 2, 3, 4, 5] rfl (sc_X11_publish_J86 B l1 l2 l3 l4 l5 r32)
def C_X11_publish_J34 (l0 : Nat) (l1 : Option Nat) (l2 : Option Nat) (l3 : Int32) (l4 : Int32) : Hp → Option (Int32 × Hp) :=
  hgR 13 3 (some l0) fun v33 =>
  hCv 7 v33 (fun a => C_X5_row a (1 : Int32)) fun r34 =>
  hCv 9 r34 (fun a => C_X7_count a) fun r35 =>
  if r35 ≤ 0 then (
    C_X11_publish_J70 l0 l1 l2 l3 l4 r34
  ) else (
    hCv 9 r34 (fun a => C_X7_isTopic a) fun r36 =>
    if r36 = 0 then (
      hgR 13 3 (some l0) fun v37 =>
      hCv 7 v37 (fun a => C_X5_fail a (144 : Int32)) fun r38 =>
      C_X11_publish_J70 l0 l1 l2 l3 l4 r34
    ) else (
      C_X11_publish_J70 l0 l1 l2 l3 l4 r34
    )
  )
set_option maxRecDepth 10000 in
theorem mo_C_X11_publish_J34 (l0 : Nat) (l1 : Option Nat) (l2 : Option Nat) (l3 : Int32) (l4 : Int32) : Mo (C_X11_publish_J34 l0 l1 l2 l3 l4) := by
  unfold C_X11_publish_J34
  repeat' (with_reducible first | assumption | exact mo_rt _ | exact mo_zt _ | exact mo_no | apply mo_C_X5_row | apply mo_C_X7_count | apply mo_C_X11_publish_J70 | apply mo_C_X7_isTopic | apply mo_C_X5_fail | refine mo_ite ?_ ?_ | refine mo_hgI (fun _ => ?_) | refine mo_hgR (fun _ => ?_) | refine mo_hCv (fun _ => ?_) (fun _ => ?_) | refine mo_lq (fun _ => ?_) | refine mo_hpI ?_ | refine mo_hpR ?_ | refine mo_hAi (fun _ => ?_) | refine mo_hAr (fun _ => ?_) | refine mo_hWi ?_ | refine mo_hWr ?_ | refine mo_hLn (fun _ => ?_) | refine mo_hgL (fun _ => ?_) | refine mo_hpL ?_ | refine mo_hpZ ?_ | refine mo_bd ?_ (fun _ => ?_) | refine mo_hCi (fun _ => ?_) (fun _ => ?_) | refine mo_hNw (fun _ => ?_) | refine mo_hNa (fun _ => ?_) | refine mo_hCp ?_ | refine mo_hOi ?_ | refine mo_hAl (fun _ => ?_) | refine mo_hWl ?_ | refine mo_gd ?_ | refine mo_sLn (fun _ => ?_) | refine mo_sAt (fun _ => ?_) | refine mo_kLn (fun _ => ?_) | refine mo_kAt (fun _ => ?_))
set_option maxRecDepth 10000 in
theorem sc_X11_publish_J34 {g : Gm Hp Int32} (B : Bx g cX11_publish 9 RX11 voI (some .int) 6 160 "publish") {l0 : Nat} (l1 : Option Nat) (l2 : Option Nat) (l3 : Int32) (l4 : Int32) : Sm g 9 34 [(0, va_rf (some l0)), (1, va_rf l1), (2, va_rf l2), (3, .int l3), (4, .int l4)] [] (C_X11_publish_J34 l0 l1 l2 l3 l4) := by
  unfold C_X11_publish_J34
  refine s_rload_n B.1.1 0 dX11_publish_34 rfl rfl ?_
  refine hp_getR B.1 13 3 rfl (by decide) inX11 (by decide) fk_X11_3 cf_X11_34 dX11_publish_35 (fun v33 => ?_)
  refine s_iconst (v := 1) B.1.1 dX11_publish_38 (by decide) ?_
  refine hp_cvr (As := [.int (1 : Int32)]) (st := []) 7 rfl (by decide) B.1 (fun a => mC_X5_row B.2.1 a (1 : Int32)) cc_X5_row cl_X11_451 cn_X5_row ce_X5_row ci_X5 cd_X5_row (by decide) rfl (Nat.le_of_ble_eq_true rfl) dX11_publish_39 (fun r34 => ?_)
  refine s_rstore (i := 5) (lv' := [(5, va_rf r34), (0, va_rf (some l0)), (1, va_rf l1), (2, va_rf l2), (3, .int l3), (4, .int l4)]) B.1.1 dX11_publish_42 (by decide) rfl ?_
  refine s_rload B.1.1 0 dX11_publish_44 rfl ?_
  refine hp_cvi (As := []) (st := []) 9 rfl (by decide) B.1 (fun a => mC_X7_count B.2.1 a ) cc_X7_count cl_X11_178 cn_X7_count ce_X7_count ci_X7 cd_X7_count (by decide) rfl (Nat.le_of_ble_eq_true rfl) dX11_publish_46 (fun r35 => ?_)
  refine s_if_le B.1.1 70 dX11_publish_49 (by decide) ?_ ?_
  · exact Sm.lvs [1, 2, 3, 4, 5, 0] rfl (sc_X11_publish_J70 B l1 l2 l3 l4 r34)
  · refine s_rload B.1.1 0 dX11_publish_52 rfl ?_
    refine hp_cvi (As := []) (st := []) 9 rfl (by decide) B.1 (fun a => mC_X7_isTopic B.2.1 a ) cc_X7_isTopic cl_X11_455 cn_X7_isTopic ce_X7_isTopic ci_X7 cd_X7_isTopic (by decide) rfl (Nat.le_of_ble_eq_true rfl) dX11_publish_54 (fun r36 => ?_)
    refine s_if_ne B.1.1 70 dX11_publish_57 (by decide) ?_ ?_
    · exact Sm.lvs [1, 2, 3, 4, 5, 0] rfl (sc_X11_publish_J70 B l1 l2 l3 l4 r34)
    · refine s_rload_n B.1.1 1 dX11_publish_60 rfl rfl ?_
      refine hp_getR B.1 13 3 rfl (by decide) inX11 (by decide) fk_X11_3 cf_X11_34 dX11_publish_61 (fun v37 => ?_)
      refine s_sipush (v := (144)) B.1.1 dX11_publish_64 (by decide) ?_
      refine hp_cvv (As := [.int (144 : Int32)]) (st := []) 7 rfl (by decide) B.1 (fun a => mC_X5_fail B.2.1 a (144 : Int32)) cc_X5_fail cl_X11_359 cn_X5_fail ce_X5_fail ci_X5 cd_X5_fail (by decide) rfl (Nat.le_of_ble_eq_true rfl) dX11_publish_67 (fun r38 => ?_)
      exact Sm.lvs [1, 2, 3, 4, 5, 0] rfl (sc_X11_publish_J70 B l1 l2 l3 l4 r34)
def C_X11_publish_J24 (l0 : Nat) (l1 : Option Nat) (l2 : Option Nat) (l3 : Int32) (l4 : Int32) : Hp → Option (Int32 × Hp) :=
  hgR 13 3 (some l0) fun v39 =>
  hCv 7 v39 (fun a => C_X5_fail a (129 : Int32)) fun r40 =>
  C_X11_publish_J34 l0 l1 l2 l3 l4
set_option maxRecDepth 10000 in
theorem mo_C_X11_publish_J24 (l0 : Nat) (l1 : Option Nat) (l2 : Option Nat) (l3 : Int32) (l4 : Int32) : Mo (C_X11_publish_J24 l0 l1 l2 l3 l4) := by
  unfold C_X11_publish_J24
  repeat' (with_reducible first | assumption | exact mo_rt _ | exact mo_zt _ | exact mo_no | apply mo_C_X5_fail | apply mo_C_X11_publish_J34 | refine mo_ite ?_ ?_ | refine mo_hgI (fun _ => ?_) | refine mo_hgR (fun _ => ?_) | refine mo_hCv (fun _ => ?_) (fun _ => ?_) | refine mo_lq (fun _ => ?_) | refine mo_hpI ?_ | refine mo_hpR ?_ | refine mo_hAi (fun _ => ?_) | refine mo_hAr (fun _ => ?_) | refine mo_hWi ?_ | refine mo_hWr ?_ | refine mo_hLn (fun _ => ?_) | refine mo_hgL (fun _ => ?_) | refine mo_hpL ?_ | refine mo_hpZ ?_ | refine mo_bd ?_ (fun _ => ?_) | refine mo_hCi (fun _ => ?_) (fun _ => ?_) | refine mo_hNw (fun _ => ?_) | refine mo_hNa (fun _ => ?_) | refine mo_hCp ?_ | refine mo_hOi ?_ | refine mo_hAl (fun _ => ?_) | refine mo_hWl ?_ | refine mo_gd ?_ | refine mo_sLn (fun _ => ?_) | refine mo_sAt (fun _ => ?_) | refine mo_kLn (fun _ => ?_) | refine mo_kAt (fun _ => ?_))
set_option maxRecDepth 10000 in
theorem sc_X11_publish_J24 {g : Gm Hp Int32} (B : Bx g cX11_publish 9 RX11 voI (some .int) 6 160 "publish") {l0 : Nat} (l1 : Option Nat) (l2 : Option Nat) (l3 : Int32) (l4 : Int32) : Sm g 9 24 [(0, va_rf (some l0)), (1, va_rf l1), (2, va_rf l2), (3, .int l3), (4, .int l4)] [] (C_X11_publish_J24 l0 l1 l2 l3 l4) := by
  unfold C_X11_publish_J24
  refine s_rload_n B.1.1 0 dX11_publish_24 rfl rfl ?_
  refine hp_getR B.1 13 3 rfl (by decide) inX11 (by decide) fk_X11_3 cf_X11_34 dX11_publish_25 (fun v39 => ?_)
  refine s_sipush (v := (129)) B.1.1 dX11_publish_28 (by decide) ?_
  refine hp_cvv (As := [.int (129 : Int32)]) (st := []) 7 rfl (by decide) B.1 (fun a => mC_X5_fail B.2.1 a (129 : Int32)) cc_X5_fail cl_X11_359 cn_X5_fail ce_X5_fail ci_X5 cd_X5_fail (by decide) rfl (Nat.le_of_ble_eq_true rfl) dX11_publish_31 (fun r40 => ?_)
  exact Sm.lvs [0, 1, 2, 3, 4] rfl (sc_X11_publish_J34 B l1 l2 l3 l4)
def C_X11_publish (l0 : Nat) (l1 : Option Nat) (l2 : Option Nat) (l3 : Int32) : Hp → Option (Int32 × Hp) :=
  lq ((l3 >>> ((1 : Int32) &&& 31)) &&& (3 : Int32)) fun x41 =>
  if x41 = (3 : Int32) then (
    C_X11_publish_J24 l0 l1 l2 l3 x41
  ) else (
    if l3 < (8 : Int32) then (
      C_X11_publish_J34 l0 l1 l2 l3 x41
    ) else (
      if x41 = 0 then (
        C_X11_publish_J24 l0 l1 l2 l3 x41
      ) else (
        C_X11_publish_J34 l0 l1 l2 l3 x41
      )
    )
  )
set_option maxRecDepth 10000 in
theorem mo_C_X11_publish (l0 : Nat) (l1 : Option Nat) (l2 : Option Nat) (l3 : Int32) : Mo (C_X11_publish l0 l1 l2 l3) := by
  unfold C_X11_publish
  repeat' (with_reducible first | assumption | exact mo_rt _ | exact mo_zt _ | exact mo_no | apply mo_C_X11_publish_J24 | apply mo_C_X11_publish_J34 | refine mo_ite ?_ ?_ | refine mo_hgI (fun _ => ?_) | refine mo_hgR (fun _ => ?_) | refine mo_hCv (fun _ => ?_) (fun _ => ?_) | refine mo_lq (fun _ => ?_) | refine mo_hpI ?_ | refine mo_hpR ?_ | refine mo_hAi (fun _ => ?_) | refine mo_hAr (fun _ => ?_) | refine mo_hWi ?_ | refine mo_hWr ?_ | refine mo_hLn (fun _ => ?_) | refine mo_hgL (fun _ => ?_) | refine mo_hpL ?_ | refine mo_hpZ ?_ | refine mo_bd ?_ (fun _ => ?_) | refine mo_hCi (fun _ => ?_) (fun _ => ?_) | refine mo_hNw (fun _ => ?_) | refine mo_hNa (fun _ => ?_) | refine mo_hCp ?_ | refine mo_hOi ?_ | refine mo_hAl (fun _ => ?_) | refine mo_hWl ?_ | refine mo_gd ?_ | refine mo_sLn (fun _ => ?_) | refine mo_sAt (fun _ => ?_) | refine mo_kLn (fun _ => ?_) | refine mo_kAt (fun _ => ?_))
set_option maxRecDepth 10000 in
theorem mC_X11_publish {w : Wd} (hw : Wc w) (l0 : Nat) (l1 : Option Nat) (l2 : Option Nat) (l3 : Int32) : MH w yX11_publish cX11_publish 9 (some .int) 6 160 voI [va_rf (some l0), va_rf l1, va_rf l2, .int l3] (C_X11_publish l0 l1 l2 l3) := by
  have M0 : ∀ g : Gm Hp Int32, g.1 = w → Bx g cX11_publish 9 RX11 voI (some .int) 6 160 "publish" → Sm g 9 0 (lv_args 0 [va_rf (some l0), va_rf l1, va_rf l2, .int l3]) [] (C_X11_publish l0 l1 l2 l3) := by
    intro g hg B
    subst hg
    unfold C_X11_publish
    refine W_lva (lv := [(0, va_rf (some l0)), (1, va_rf l1), (2, va_rf l2), (3, .int l3)]) (by simp [lv_args, va_rf_cat, cat_i, cat_l, cat_r]) ?_
    refine s_iload_n B.1.1 3 dX11_publish_0 rfl rfl ?_
    refine s_iconst (v := 1) B.1.1 dX11_publish_1 (by decide) ?_
    refine s_ishr B.1.1 dX11_publish_2 ?_
    refine s_iconst (v := 3) B.1.1 dX11_publish_3 (by decide) ?_
    refine s_iand B.1.1 dX11_publish_4 ?_
    refine s_lqi (fun x41 => ?_)
    refine s_istore (i := 4) (lv' := [(4, .int x41), (0, va_rf (some l0)), (1, va_rf l1), (2, va_rf l2), (3, .int l3)]) B.1.1 dX11_publish_5 (by decide) rfl ?_
    refine s_iload B.1.1 0 dX11_publish_7 rfl ?_
    refine s_iconst (v := 3) B.1.1 dX11_publish_9 (by decide) ?_
    refine s_icmp_eq B.1.1 24 dX11_publish_10 (by decide) ?_ ?_
    · exact Sm.lvs [1, 2, 3, 4, 0] rfl (sc_X11_publish_J24 B l1 l2 l3 x41)
    · refine s_iload_n B.1.1 4 dX11_publish_13 rfl rfl ?_
      refine s_bipush (v := (8)) B.1.1 dX11_publish_14 (by decide) ?_
      refine s_icmp_lt B.1.1 34 dX11_publish_16 (by decide) ?_ ?_
      · exact Sm.lvs [1, 2, 3, 4, 0] rfl (sc_X11_publish_J34 B l1 l2 l3 x41)
      · refine s_iload B.1.1 0 dX11_publish_19 rfl ?_
        refine s_if_ne B.1.1 34 dX11_publish_21 (by decide) ?_ ?_
        · exact Sm.lvs [1, 2, 3, 4, 0] rfl (sc_X11_publish_J34 B l1 l2 l3 x41)
        · exact Sm.lvs [1, 2, 3, 4, 0] rfl (sc_X11_publish_J24 B l1 l2 l3 x41)
  exact MH.of hw ⟨rfl, rfl⟩ (by decide) (by simp [lg_sl, va_rf_cat, cat_i, cat_l, cat_r]) (mo_C_X11_publish l0 l1 l2 l3) M0
def C_X7_begins_J33 (l0 : Nat) (l2 : Nat) : Hp → Option (Int32 × Hp) :=
  zt ((1 : Int32))
set_option maxRecDepth 10000 in
theorem mo_C_X7_begins_J33 (l0 : Nat) (l2 : Nat) : Mo (C_X7_begins_J33 l0 l2) := by
  unfold C_X7_begins_J33
  repeat' (with_reducible first | assumption | exact mo_rt _ | exact mo_zt _ | exact mo_no | refine mo_ite ?_ ?_ | refine mo_hgI (fun _ => ?_) | refine mo_hgR (fun _ => ?_) | refine mo_hCv (fun _ => ?_) (fun _ => ?_) | refine mo_lq (fun _ => ?_) | refine mo_hpI ?_ | refine mo_hpR ?_ | refine mo_hAi (fun _ => ?_) | refine mo_hAr (fun _ => ?_) | refine mo_hWi ?_ | refine mo_hWr ?_ | refine mo_hLn (fun _ => ?_) | refine mo_hgL (fun _ => ?_) | refine mo_hpL ?_ | refine mo_hpZ ?_ | refine mo_bd ?_ (fun _ => ?_) | refine mo_hCi (fun _ => ?_) (fun _ => ?_) | refine mo_hNw (fun _ => ?_) | refine mo_hNa (fun _ => ?_) | refine mo_hCp ?_ | refine mo_hOi ?_ | refine mo_hAl (fun _ => ?_) | refine mo_hWl ?_ | refine mo_gd ?_ | refine mo_sLn (fun _ => ?_) | refine mo_sAt (fun _ => ?_) | refine mo_kLn (fun _ => ?_) | refine mo_kAt (fun _ => ?_))
set_option maxRecDepth 10000 in
theorem sc_X7_begins_J33 {g : Gm Hp Int32} (B : Bx g cX7_begins 4 RX7 voI (some .boolean) 8 300 "begins") {l0 : Nat} {l2 : Nat} (hl2 : l2 < 3) : Sm g 4 33 [] [] (C_X7_begins_J33 l0 l2) := by
  unfold C_X7_begins_J33
  refine s_iconst (v := 1) B.1.1 dX7_begins_33 (by decide) ?_
  exact s_zret B.1.1 B.2.2.2.2 dX7_begins_34
def C_X7_begins_J25 (l0 : Nat) (l2 : Nat) : Hp → Option (Int32 × Hp) :=
  zt ((0 : Int32))
set_option maxRecDepth 10000 in
theorem mo_C_X7_begins_J25 (l0 : Nat) (l2 : Nat) : Mo (C_X7_begins_J25 l0 l2) := by
  unfold C_X7_begins_J25
  repeat' (with_reducible first | assumption | exact mo_rt _ | exact mo_zt _ | exact mo_no | refine mo_ite ?_ ?_ | refine mo_hgI (fun _ => ?_) | refine mo_hgR (fun _ => ?_) | refine mo_hCv (fun _ => ?_) (fun _ => ?_) | refine mo_lq (fun _ => ?_) | refine mo_hpI ?_ | refine mo_hpR ?_ | refine mo_hAi (fun _ => ?_) | refine mo_hAr (fun _ => ?_) | refine mo_hWi ?_ | refine mo_hWr ?_ | refine mo_hLn (fun _ => ?_) | refine mo_hgL (fun _ => ?_) | refine mo_hpL ?_ | refine mo_hpZ ?_ | refine mo_bd ?_ (fun _ => ?_) | refine mo_hCi (fun _ => ?_) (fun _ => ?_) | refine mo_hNw (fun _ => ?_) | refine mo_hNa (fun _ => ?_) | refine mo_hCp ?_ | refine mo_hOi ?_ | refine mo_hAl (fun _ => ?_) | refine mo_hWl ?_ | refine mo_gd ?_ | refine mo_sLn (fun _ => ?_) | refine mo_sAt (fun _ => ?_) | refine mo_kLn (fun _ => ?_) | refine mo_kAt (fun _ => ?_))
set_option maxRecDepth 10000 in
theorem sc_X7_begins_J25 {g : Gm Hp Int32} (B : Bx g cX7_begins 4 RX7 voI (some .boolean) 8 300 "begins") {l0 : Nat} {l2 : Nat} (hl2 : l2 < 3) : Sm g 4 25 [] [] (C_X7_begins_J25 l0 l2) := by
  unfold C_X7_begins_J25
  refine s_iconst (v := 0) B.1.1 dX7_begins_25 (by decide) ?_
  exact s_zret B.1.1 B.2.2.2.2 dX7_begins_26
def C_X7_begins_B2 (l0 : Nat) (l2 : Nat) (kb : Int32 → Int32 → Hp → Option (Int32 × Hp)) (ke25 : Hp → Option (Int32 × Hp)) (ke33 : Hp → Option (Int32 × Hp)) (l1 : Int32) (l3 : Int32) : Hp → Option (Int32 × Hp) :=
  sLn l2 fun v1 =>
  if v1 ≤ l3 then (
    ke33
  ) else (
    hCv 9 (some l0) (fun a => C_X7_at a (l1 + l3)) fun r2 =>
    sAt l2 l3 fun v3 =>
    if r2 = v3 then (
      kb l1 (l3 + 1)
    ) else (
      ke25
    )
  )
def C_X7_begins_L2 (l0 : Nat) (l2 : Nat) (ke25 : Hp → Option (Int32 × Hp)) (ke33 : Hp → Option (Int32 × Hp)) : Nat → Int32 → Int32 → Hp → Option (Int32 × Hp)
  | 0, _, _ => no
  | n + 1, l1, l3 => C_X7_begins_B2 l0 l2 (fun l1 l3 => C_X7_begins_L2 l0 l2 ke25 ke33 n l1 l3) ke25 ke33 l1 l3
set_option maxRecDepth 10000 in
theorem mo_C_X7_begins_B2 (l0 : Nat) (l2 : Nat) (kb : Int32 → Int32 → Hp → Option (Int32 × Hp)) (ke25 : Hp → Option (Int32 × Hp)) (ke33 : Hp → Option (Int32 × Hp)) (hkb : ∀ (l1 : Int32) (l3 : Int32), Mo (kb l1 l3)) (hke25 : Mo (ke25)) (hke33 : Mo (ke33)) (l1 : Int32) (l3 : Int32) : Mo (C_X7_begins_B2 l0 l2 kb ke25 ke33 l1 l3) := by
  unfold C_X7_begins_B2
  repeat' (with_reducible first | assumption | exact mo_rt _ | exact mo_zt _ | exact mo_no | apply mo_C_X7_at | apply hkb | apply hke25 | apply hke33 | refine mo_ite ?_ ?_ | refine mo_hgI (fun _ => ?_) | refine mo_hgR (fun _ => ?_) | refine mo_hCv (fun _ => ?_) (fun _ => ?_) | refine mo_lq (fun _ => ?_) | refine mo_hpI ?_ | refine mo_hpR ?_ | refine mo_hAi (fun _ => ?_) | refine mo_hAr (fun _ => ?_) | refine mo_hWi ?_ | refine mo_hWr ?_ | refine mo_hLn (fun _ => ?_) | refine mo_hgL (fun _ => ?_) | refine mo_hpL ?_ | refine mo_hpZ ?_ | refine mo_bd ?_ (fun _ => ?_) | refine mo_hCi (fun _ => ?_) (fun _ => ?_) | refine mo_hNw (fun _ => ?_) | refine mo_hNa (fun _ => ?_) | refine mo_hCp ?_ | refine mo_hOi ?_ | refine mo_hAl (fun _ => ?_) | refine mo_hWl ?_ | refine mo_gd ?_ | refine mo_sLn (fun _ => ?_) | refine mo_sAt (fun _ => ?_) | refine mo_kLn (fun _ => ?_) | refine mo_kAt (fun _ => ?_))
set_option maxRecDepth 10000 in
theorem mo_C_X7_begins_L2 (l0 : Nat) (l2 : Nat) (ke25 : Hp → Option (Int32 × Hp)) (ke33 : Hp → Option (Int32 × Hp)) (hke25 : Mo (ke25)) (hke33 : Mo (ke33)) : ∀ (n : Nat) (l1 : Int32) (l3 : Int32), Mo (C_X7_begins_L2 l0 l2 ke25 ke33 n l1 l3)
  | 0, _, _ => mo_no
  | n + 1, l1, l3 => mo_C_X7_begins_B2 l0 l2 _ ke25 ke33 (mo_C_X7_begins_L2 l0 l2 ke25 ke33 hke25 hke33 n) hke25 hke33 l1 l3
set_option maxRecDepth 10000 in
theorem sc_X7_begins_B2 {g : Gm Hp Int32} {kb : Int32 → Int32 → Hp → Option (Int32 × Hp)} {ke25 : Hp → Option (Int32 × Hp)} {ke33 : Hp → Option (Int32 × Hp)} (B : Bx g cX7_begins 4 RX7 voI (some .boolean) 8 300 "begins") {l0 : Nat} {l2 : Nat} (hl2 : l2 < 3) (hkb : ∀ (l1 : Int32) (l3 : Int32), Sm g 4 2 [(0, va_rf (some l0)), (1, .int l1), (2, .ref (g.1.2.1 (1000 + l2))), (3, .int l3)] [] (kb l1 l3)) (hke25 : Sm g 4 25 [] [] (ke25)) (hke33 : Sm g 4 33 [] [] (ke33)) (l1 : Int32) (l3 : Int32) : Sm g 4 2 [(0, va_rf (some l0)), (1, .int l1), (2, .ref (g.1.2.1 (1000 + l2))), (3, .int l3)] [] (C_X7_begins_B2 l0 l2 kb ke25 ke33 l1 l3) := by
  unfold C_X7_begins_B2
  refine s_iload_n B.1.1 3 dX7_begins_2 rfl rfl ?_
  refine s_aload_n B.1.1 2 dX7_begins_3 rfl rfl ?_
  refine s_sLn B l2 hl2 tw_778 (by decide) (Nat.le_of_ble_eq_true rfl) dX7_begins_4 (fun v1 => ?_)
  refine s_icmp_ge B.1.1 33 dX7_begins_7 (by decide) ?_ ?_
  · exact Sm.lvs [] rfl (hke33)
  · refine s_rload_n B.1.1 0 dX7_begins_10 rfl rfl ?_
    refine s_iload_n B.1.1 1 dX7_begins_11 rfl rfl ?_
    refine s_iload_n B.1.1 3 dX7_begins_12 rfl rfl ?_
    refine s_iadd B.1.1 dX7_begins_13 ?_
    refine hp_cvi (As := [.int (l1 + l3)]) (st := []) 9 rfl (by decide) B.1 (fun a => mC_X7_at B.2.1 a (l1 + l3)) cc_X7_at cl_X7_21 cn_X7_at ce_X7_at ci_X7 cd_X7_at (by decide) rfl (Nat.le_of_ble_eq_true rfl) dX7_begins_14 (fun r2 => ?_)
    refine s_aload_n B.1.1 2 dX7_begins_17 rfl rfl ?_
    refine s_iload_n B.1.1 3 dX7_begins_18 rfl rfl ?_
    refine s_sAt B l2 hl2 tw_780 (by decide) (Nat.le_of_ble_eq_true rfl) dX7_begins_19 (fun v3 => ?_)
    refine s_icmp_eq B.1.1 27 dX7_begins_22 (by decide) ?_ ?_
    · refine s_iinc (v := l3 + 1) (lv' := [(3, .int (l3 + 1)), (0, va_rf (some l0)), (1, .int l1), (2, .ref (g.1.2.1 (1000 + l2)))]) B.1.1 3 dX7_begins_27 rfl rfl (by decide) rfl ?_
      refine s_goto B.1.1 2 dX7_begins_30 (by decide) ?_
      exact Sm.lvs [1, 2, 3, 0] rfl (hkb l1 (l3 + 1))
    · exact Sm.lvs [] rfl (hke25)
set_option maxRecDepth 10000 in
theorem sc_X7_begins_L2 {g : Gm Hp Int32} {ke25 : Hp → Option (Int32 × Hp)} {ke33 : Hp → Option (Int32 × Hp)} (B : Bx g cX7_begins 4 RX7 voI (some .boolean) 8 300 "begins") {l0 : Nat} {l2 : Nat} (hl2 : l2 < 3) (hke25 : Sm g 4 25 [] [] (ke25)) (hke33 : Sm g 4 33 [] [] (ke33)) : ∀ (n : Nat) (l1 : Int32) (l3 : Int32), Sm g 4 2 [(0, va_rf (some l0)), (1, .int l1), (2, .ref (g.1.2.1 (1000 + l2))), (3, .int l3)] [] (C_X7_begins_L2 l0 l2 ke25 ke33 n l1 l3)
  | 0, _, _ => Sm.fail
  | n + 1, l1, l3 => sc_X7_begins_B2 B hl2 (sc_X7_begins_L2 B hl2 hke25 hke33 n) hke25 hke33 l1 l3
def C_X7_begins (l0 : Nat) (l1 : Int32) (l2 : Nat) : Hp → Option (Int32 × Hp) :=
  C_X7_begins_L2 l0 l2 (C_X7_begins_J25 l0 l2) (C_X7_begins_J33 l0 l2) fu l1 (0 : Int32)
set_option maxRecDepth 10000 in
theorem mo_C_X7_begins (l0 : Nat) (l1 : Int32) (l2 : Nat) : Mo (C_X7_begins l0 l1 l2) := by
  unfold C_X7_begins
  repeat' (with_reducible first | assumption | exact mo_rt _ | exact mo_zt _ | exact mo_no | apply mo_C_X7_begins_L2 | apply mo_C_X7_begins_J25 | apply mo_C_X7_begins_J33 | refine mo_ite ?_ ?_ | refine mo_hgI (fun _ => ?_) | refine mo_hgR (fun _ => ?_) | refine mo_hCv (fun _ => ?_) (fun _ => ?_) | refine mo_lq (fun _ => ?_) | refine mo_hpI ?_ | refine mo_hpR ?_ | refine mo_hAi (fun _ => ?_) | refine mo_hAr (fun _ => ?_) | refine mo_hWi ?_ | refine mo_hWr ?_ | refine mo_hLn (fun _ => ?_) | refine mo_hgL (fun _ => ?_) | refine mo_hpL ?_ | refine mo_hpZ ?_ | refine mo_bd ?_ (fun _ => ?_) | refine mo_hCi (fun _ => ?_) (fun _ => ?_) | refine mo_hNw (fun _ => ?_) | refine mo_hNa (fun _ => ?_) | refine mo_hCp ?_ | refine mo_hOi ?_ | refine mo_hAl (fun _ => ?_) | refine mo_hWl ?_ | refine mo_gd ?_ | refine mo_sLn (fun _ => ?_) | refine mo_sAt (fun _ => ?_) | refine mo_kLn (fun _ => ?_) | refine mo_kAt (fun _ => ?_))
set_option maxRecDepth 10000 in
theorem mC_X7_begins {w : Wd} (hw : Wc w) (l0 : Nat) (l1 : Int32) (l2 : Nat) (hl2 : l2 < 3) : MH w yX7_begins cX7_begins 4 (some .boolean) 8 300 voI [va_rf (some l0), .int l1, .ref (w.2.1 (1000 + l2))] (C_X7_begins l0 l1 l2) := by
  have M0 : ∀ g : Gm Hp Int32, g.1 = w → Bx g cX7_begins 4 RX7 voI (some .boolean) 8 300 "begins" → Sm g 4 0 (lv_args 0 [va_rf (some l0), .int l1, .ref (w.2.1 (1000 + l2))]) [] (C_X7_begins l0 l1 l2) := by
    intro g hg B
    subst hg
    unfold C_X7_begins
    refine W_lva (lv := [(0, va_rf (some l0)), (1, .int l1), (2, .ref (g.1.2.1 (1000 + l2)))]) (by simp [lv_args, va_rf_cat, cat_i, cat_l, cat_r]) ?_
    refine s_iconst (v := 0) B.1.1 dX7_begins_0 (by decide) ?_
    refine s_istore_n (i := 3) (lv' := [(3, .int (0 : Int32)), (0, va_rf (some l0)), (1, .int l1), (2, .ref (g.1.2.1 (1000 + l2)))]) B.1.1 dX7_begins_1 rfl (by decide) rfl ?_
    exact Sm.lvs [1, 2, 3, 0] rfl (sc_X7_begins_L2 B hl2 (sc_X7_begins_J25 B hl2) (sc_X7_begins_J33 B hl2) fu l1 (0 : Int32))
  exact MH.of hw ⟨rfl, rfl⟩ (by decide) (by simp [lg_sl, va_rf_cat, cat_i, cat_l, cat_r]) (mo_C_X7_begins l0 l1 l2) M0
def C_X11_checkEntries_J125 (l0 : Nat) (l1 : Int32) : Hp → Option (Int32 × Hp) :=
  if l1 = 0 then (
    hgR 13 3 (some l0) fun v1 =>
    hCv 7 v1 (fun a => C_X5_fail a (130 : Int32)) fun r2 =>
    rt (l1)
  ) else (
    rt (l1)
  )
set_option maxRecDepth 10000 in
theorem mo_C_X11_checkEntries_J125 (l0 : Nat) (l1 : Int32) : Mo (C_X11_checkEntries_J125 l0 l1) := by
  unfold C_X11_checkEntries_J125
  repeat' (with_reducible first | assumption | exact mo_rt _ | exact mo_zt _ | exact mo_no | apply mo_C_X5_fail | refine mo_ite ?_ ?_ | refine mo_hgI (fun _ => ?_) | refine mo_hgR (fun _ => ?_) | refine mo_hCv (fun _ => ?_) (fun _ => ?_) | refine mo_lq (fun _ => ?_) | refine mo_hpI ?_ | refine mo_hpR ?_ | refine mo_hAi (fun _ => ?_) | refine mo_hAr (fun _ => ?_) | refine mo_hWi ?_ | refine mo_hWr ?_ | refine mo_hLn (fun _ => ?_) | refine mo_hgL (fun _ => ?_) | refine mo_hpL ?_ | refine mo_hpZ ?_ | refine mo_bd ?_ (fun _ => ?_) | refine mo_hCi (fun _ => ?_) (fun _ => ?_) | refine mo_hNw (fun _ => ?_) | refine mo_hNa (fun _ => ?_) | refine mo_hCp ?_ | refine mo_hOi ?_ | refine mo_hAl (fun _ => ?_) | refine mo_hWl ?_ | refine mo_gd ?_ | refine mo_sLn (fun _ => ?_) | refine mo_sAt (fun _ => ?_) | refine mo_kLn (fun _ => ?_) | refine mo_kAt (fun _ => ?_))
set_option maxRecDepth 10000 in
theorem sc_X11_checkEntries_J125 {g : Gm Hp Int32} (B : Bx g cX11_checkEntries 6 RX11 voI (some .int) 9 323 "checkEntries") {l0 : Nat} (l1 : Int32) : Sm g 6 125 [(0, va_rf (some l0)), (1, .int l1)] [] (C_X11_checkEntries_J125 l0 l1) := by
  unfold C_X11_checkEntries_J125
  refine s_iload_n B.1.1 1 dX11_checkEntries_125 rfl rfl ?_
  refine s_if_ne B.1.1 139 dX11_checkEntries_126 (by decide) ?_ ?_
  · refine s_iload_n B.1.1 1 dX11_checkEntries_139 rfl rfl ?_
    exact s_iret B.1.1 B.2.2.2.2 dX11_checkEntries_140
  · refine s_rload_n B.1.1 0 dX11_checkEntries_129 rfl rfl ?_
    refine hp_getR B.1 13 3 rfl (by decide) inX11 (by decide) fk_X11_3 cf_X11_34 dX11_checkEntries_130 (fun v1 => ?_)
    refine s_sipush (v := (130)) B.1.1 dX11_checkEntries_133 (by decide) ?_
    refine hp_cvv (As := [.int (130 : Int32)]) (st := []) 7 rfl (by decide) B.1 (fun a => mC_X5_fail B.2.1 a (130 : Int32)) cc_X5_fail cl_X11_359 cn_X5_fail ce_X5_fail ci_X5 cd_X5_fail (by decide) rfl (Nat.le_of_ble_eq_true rfl) dX11_checkEntries_136 (fun r2 => ?_)
    refine s_iload_n B.1.1 1 dX11_checkEntries_139 rfl rfl ?_
    exact s_iret B.1.1 B.2.2.2.2 dX11_checkEntries_140
def C_X11_checkEntries_J106 (l0 : Nat) (kb : Int32 → Int32 → Hp → Option (Int32 × Hp)) (ke125 : Int32 → Hp → Option (Int32 × Hp)) (l1 : Int32) (l2 : Int32) : Hp → Option (Int32 × Hp) :=
  hgR 13 3 (some l0) fun v3 =>
  hCv 7 v3 (fun a => C_X5_fail a (130 : Int32)) fun r4 =>
  kb (l1 + 1) (l2 + 1)
set_option maxRecDepth 10000 in
theorem mo_C_X11_checkEntries_J106 (l0 : Nat) (kb : Int32 → Int32 → Hp → Option (Int32 × Hp)) (ke125 : Int32 → Hp → Option (Int32 × Hp)) (hkb : ∀ (l1 : Int32) (l2 : Int32), Mo (kb l1 l2)) (hke125 : ∀ (l1 : Int32), Mo (ke125 l1)) (l1 : Int32) (l2 : Int32) : Mo (C_X11_checkEntries_J106 l0 kb ke125 l1 l2) := by
  unfold C_X11_checkEntries_J106
  repeat' (with_reducible first | assumption | exact mo_rt _ | exact mo_zt _ | exact mo_no | apply mo_C_X5_fail | apply hkb | apply hke125 | refine mo_ite ?_ ?_ | refine mo_hgI (fun _ => ?_) | refine mo_hgR (fun _ => ?_) | refine mo_hCv (fun _ => ?_) (fun _ => ?_) | refine mo_lq (fun _ => ?_) | refine mo_hpI ?_ | refine mo_hpR ?_ | refine mo_hAi (fun _ => ?_) | refine mo_hAr (fun _ => ?_) | refine mo_hWi ?_ | refine mo_hWr ?_ | refine mo_hLn (fun _ => ?_) | refine mo_hgL (fun _ => ?_) | refine mo_hpL ?_ | refine mo_hpZ ?_ | refine mo_bd ?_ (fun _ => ?_) | refine mo_hCi (fun _ => ?_) (fun _ => ?_) | refine mo_hNw (fun _ => ?_) | refine mo_hNa (fun _ => ?_) | refine mo_hCp ?_ | refine mo_hOi ?_ | refine mo_hAl (fun _ => ?_) | refine mo_hWl ?_ | refine mo_gd ?_ | refine mo_sLn (fun _ => ?_) | refine mo_sAt (fun _ => ?_) | refine mo_kLn (fun _ => ?_) | refine mo_kAt (fun _ => ?_))
set_option maxRecDepth 10000 in
theorem sc_X11_checkEntries_J106 {g : Gm Hp Int32} {kb : Int32 → Int32 → Hp → Option (Int32 × Hp)} {ke125 : Int32 → Hp → Option (Int32 × Hp)} (B : Bx g cX11_checkEntries 6 RX11 voI (some .int) 9 323 "checkEntries") {l0 : Nat} (hkb : ∀ (l1 : Int32) (l2 : Int32), Sm g 6 4 [(0, va_rf (some l0)), (1, .int l1), (2, .int l2)] [] (kb l1 l2)) (hke125 : ∀ (l1 : Int32), Sm g 6 125 [(0, va_rf (some l0)), (1, .int l1)] [] (ke125 l1)) (l1 : Int32) (l2 : Int32) : Sm g 6 106 [(0, va_rf (some l0)), (1, .int l1), (2, .int l2)] [] (C_X11_checkEntries_J106 l0 kb ke125 l1 l2) := by
  unfold C_X11_checkEntries_J106
  refine s_rload_n B.1.1 0 dX11_checkEntries_106 rfl rfl ?_
  refine hp_getR B.1 13 3 rfl (by decide) inX11 (by decide) fk_X11_3 cf_X11_34 dX11_checkEntries_107 (fun v3 => ?_)
  refine s_sipush (v := (130)) B.1.1 dX11_checkEntries_110 (by decide) ?_
  refine hp_cvv (As := [.int (130 : Int32)]) (st := []) 7 rfl (by decide) B.1 (fun a => mC_X5_fail B.2.1 a (130 : Int32)) cc_X5_fail cl_X11_359 cn_X5_fail ce_X5_fail ci_X5 cd_X5_fail (by decide) rfl (Nat.le_of_ble_eq_true rfl) dX11_checkEntries_113 (fun r4 => ?_)
  refine s_iinc (v := l1 + 1) (lv' := [(1, .int (l1 + 1)), (0, va_rf (some l0)), (2, .int l2)]) B.1.1 1 dX11_checkEntries_116 rfl rfl (by decide) rfl ?_
  refine s_iinc (v := l2 + 1) (lv' := [(2, .int (l2 + 1)), (1, .int (l1 + 1)), (0, va_rf (some l0))]) B.1.1 2 dX11_checkEntries_119 rfl rfl (by decide) rfl ?_
  refine s_goto B.1.1 4 dX11_checkEntries_122 (by decide) ?_
  exact Sm.lvs [2, 1, 0] rfl (hkb (l1 + 1) (l2 + 1))
def C_X11_checkEntries_J81 (l0 : Nat) (kb : Int32 → Int32 → Hp → Option (Int32 × Hp)) (ke125 : Int32 → Hp → Option (Int32 × Hp)) (l1 : Int32) (l2 : Int32) (l3 : Option Nat) (l4 : Int32) (s0 : Int32) : Hp → Option (Int32 × Hp) :=
  if s0 = 0 then (
    if (l4 &&& (4 : Int32)) = 0 then (
      kb (l1 + 1) (l2 + 1)
    ) else (
      hCv 9 l3 (fun a => C_X7_begins a (0 : Int32) 0) fun r5 =>
      if r5 = 0 then (
        kb (l1 + 1) (l2 + 1)
      ) else (
        C_X11_checkEntries_J106 l0 kb ke125 l1 l2
      )
    )
  ) else (
    C_X11_checkEntries_J106 l0 kb ke125 l1 l2
  )
set_option maxRecDepth 10000 in
theorem mo_C_X11_checkEntries_J81 (l0 : Nat) (kb : Int32 → Int32 → Hp → Option (Int32 × Hp)) (ke125 : Int32 → Hp → Option (Int32 × Hp)) (hkb : ∀ (l1 : Int32) (l2 : Int32), Mo (kb l1 l2)) (hke125 : ∀ (l1 : Int32), Mo (ke125 l1)) (l1 : Int32) (l2 : Int32) (l3 : Option Nat) (l4 : Int32) (s0 : Int32) : Mo (C_X11_checkEntries_J81 l0 kb ke125 l1 l2 l3 l4 s0) := by
  unfold C_X11_checkEntries_J81
  repeat' (with_reducible first | assumption | exact mo_rt _ | exact mo_zt _ | exact mo_no | apply mo_C_X7_begins | apply mo_C_X11_checkEntries_J106 | apply hkb | apply hke125 | refine mo_ite ?_ ?_ | refine mo_hgI (fun _ => ?_) | refine mo_hgR (fun _ => ?_) | refine mo_hCv (fun _ => ?_) (fun _ => ?_) | refine mo_lq (fun _ => ?_) | refine mo_hpI ?_ | refine mo_hpR ?_ | refine mo_hAi (fun _ => ?_) | refine mo_hAr (fun _ => ?_) | refine mo_hWi ?_ | refine mo_hWr ?_ | refine mo_hLn (fun _ => ?_) | refine mo_hgL (fun _ => ?_) | refine mo_hpL ?_ | refine mo_hpZ ?_ | refine mo_bd ?_ (fun _ => ?_) | refine mo_hCi (fun _ => ?_) (fun _ => ?_) | refine mo_hNw (fun _ => ?_) | refine mo_hNa (fun _ => ?_) | refine mo_hCp ?_ | refine mo_hOi ?_ | refine mo_hAl (fun _ => ?_) | refine mo_hWl ?_ | refine mo_gd ?_ | refine mo_sLn (fun _ => ?_) | refine mo_sAt (fun _ => ?_) | refine mo_kLn (fun _ => ?_) | refine mo_kAt (fun _ => ?_))
set_option maxRecDepth 10000 in
theorem sc_X11_checkEntries_J81 {g : Gm Hp Int32} {kb : Int32 → Int32 → Hp → Option (Int32 × Hp)} {ke125 : Int32 → Hp → Option (Int32 × Hp)} (B : Bx g cX11_checkEntries 6 RX11 voI (some .int) 9 323 "checkEntries") {l0 : Nat} (hkb : ∀ (l1 : Int32) (l2 : Int32), Sm g 6 4 [(0, va_rf (some l0)), (1, .int l1), (2, .int l2)] [] (kb l1 l2)) (hke125 : ∀ (l1 : Int32), Sm g 6 125 [(0, va_rf (some l0)), (1, .int l1)] [] (ke125 l1)) (l1 : Int32) (l2 : Int32) (l3 : Option Nat) (l4 : Int32) (s0 : Int32) : Sm g 6 81 [(0, va_rf (some l0)), (1, .int l1), (2, .int l2), (3, va_rf l3), (4, .int l4)] [.int s0] (C_X11_checkEntries_J81 l0 kb ke125 l1 l2 l3 l4 s0) := by
  unfold C_X11_checkEntries_J81
  refine s_istore (i := 5) (lv' := [(5, .int s0), (0, va_rf (some l0)), (1, .int l1), (2, .int l2), (3, va_rf l3), (4, .int l4)]) B.1.1 dX11_checkEntries_81 (by decide) rfl ?_
  refine s_iload B.1.1 0 dX11_checkEntries_83 rfl ?_
  refine s_if_ne B.1.1 106 dX11_checkEntries_85 (by decide) ?_ ?_
  · exact Sm.lvs [1, 2, 3] rfl (sc_X11_checkEntries_J106 B hkb hke125 l1 l2)
  · refine s_iload B.1.1 5 dX11_checkEntries_88 rfl ?_
    refine s_iconst (v := 4) B.1.1 dX11_checkEntries_90 (by decide) ?_
    refine s_iand B.1.1 dX11_checkEntries_91 ?_
    refine s_if_eq B.1.1 116 dX11_checkEntries_92 (by decide) ?_ ?_
    · refine s_iinc (v := l1 + 1) (lv' := [(1, .int (l1 + 1)), (5, .int s0), (0, va_rf (some l0)), (2, .int l2), (3, va_rf l3), (4, .int l4)]) B.1.1 2 dX11_checkEntries_116 rfl rfl (by decide) rfl ?_
      refine s_iinc (v := l2 + 1) (lv' := [(2, .int (l2 + 1)), (1, .int (l1 + 1)), (5, .int s0), (0, va_rf (some l0)), (3, va_rf l3), (4, .int l4)]) B.1.1 3 dX11_checkEntries_119 rfl rfl (by decide) rfl ?_
      refine s_goto B.1.1 4 dX11_checkEntries_122 (by decide) ?_
      exact Sm.lvs [3, 1, 0] rfl (hkb (l1 + 1) (l2 + 1))
    · refine s_rload_n B.1.1 4 dX11_checkEntries_95 rfl rfl ?_
      refine s_iconst (v := 0) B.1.1 dX11_checkEntries_96 (by decide) ?_
      refine s_ldwS B 0 591 (by decide +kernel) dX11_checkEntries_97 ?_
      refine hp_cvi (As := [.int (0 : Int32), .ref (g.1.2.1 (1000 + 0))]) (st := []) 9 rfl (by decide) B.1 (fun a => mC_X7_begins B.2.1 a (0 : Int32) 0 (by decide)) cc_X7_begins cl_X11_593 cn_X7_begins ce_X7_begins ci_X7 cd_X7_begins (by decide) rfl (Nat.le_of_ble_eq_true rfl) dX11_checkEntries_100 (fun r5 => ?_)
      refine s_if_eq B.1.1 116 dX11_checkEntries_103 (by decide) ?_ ?_
      · refine s_iinc (v := l1 + 1) (lv' := [(1, .int (l1 + 1)), (5, .int s0), (0, va_rf (some l0)), (2, .int l2), (3, va_rf l3), (4, .int l4)]) B.1.1 2 dX11_checkEntries_116 rfl rfl (by decide) rfl ?_
        refine s_iinc (v := l2 + 1) (lv' := [(2, .int (l2 + 1)), (1, .int (l1 + 1)), (5, .int s0), (0, va_rf (some l0)), (3, va_rf l3), (4, .int l4)]) B.1.1 3 dX11_checkEntries_119 rfl rfl (by decide) rfl ?_
        refine s_goto B.1.1 4 dX11_checkEntries_122 (by decide) ?_
        exact Sm.lvs [3, 1, 0] rfl (hkb (l1 + 1) (l2 + 1))
      · exact Sm.lvs [1, 2, 3] rfl (sc_X11_checkEntries_J106 B hkb hke125 l1 l2)
def C_X11_checkEntries_J76 (l0 : Nat) (kb : Int32 → Int32 → Hp → Option (Int32 × Hp)) (ke125 : Int32 → Hp → Option (Int32 × Hp)) (l1 : Int32) (l2 : Int32) (l3 : Option Nat) (l4 : Int32) : Hp → Option (Int32 × Hp) :=
  C_X11_checkEntries_J81 l0 kb ke125 l1 l2 l3 l4 (1 : Int32)
set_option maxRecDepth 10000 in
theorem mo_C_X11_checkEntries_J76 (l0 : Nat) (kb : Int32 → Int32 → Hp → Option (Int32 × Hp)) (ke125 : Int32 → Hp → Option (Int32 × Hp)) (hkb : ∀ (l1 : Int32) (l2 : Int32), Mo (kb l1 l2)) (hke125 : ∀ (l1 : Int32), Mo (ke125 l1)) (l1 : Int32) (l2 : Int32) (l3 : Option Nat) (l4 : Int32) : Mo (C_X11_checkEntries_J76 l0 kb ke125 l1 l2 l3 l4) := by
  unfold C_X11_checkEntries_J76
  repeat' (with_reducible first | assumption | exact mo_rt _ | exact mo_zt _ | exact mo_no | apply mo_C_X11_checkEntries_J81 | apply hkb | apply hke125 | refine mo_ite ?_ ?_ | refine mo_hgI (fun _ => ?_) | refine mo_hgR (fun _ => ?_) | refine mo_hCv (fun _ => ?_) (fun _ => ?_) | refine mo_lq (fun _ => ?_) | refine mo_hpI ?_ | refine mo_hpR ?_ | refine mo_hAi (fun _ => ?_) | refine mo_hAr (fun _ => ?_) | refine mo_hWi ?_ | refine mo_hWr ?_ | refine mo_hLn (fun _ => ?_) | refine mo_hgL (fun _ => ?_) | refine mo_hpL ?_ | refine mo_hpZ ?_ | refine mo_bd ?_ (fun _ => ?_) | refine mo_hCi (fun _ => ?_) (fun _ => ?_) | refine mo_hNw (fun _ => ?_) | refine mo_hNa (fun _ => ?_) | refine mo_hCp ?_ | refine mo_hOi ?_ | refine mo_hAl (fun _ => ?_) | refine mo_hWl ?_ | refine mo_gd ?_ | refine mo_sLn (fun _ => ?_) | refine mo_sAt (fun _ => ?_) | refine mo_kLn (fun _ => ?_) | refine mo_kAt (fun _ => ?_))
set_option maxRecDepth 10000 in
theorem sc_X11_checkEntries_J76 {g : Gm Hp Int32} {kb : Int32 → Int32 → Hp → Option (Int32 × Hp)} {ke125 : Int32 → Hp → Option (Int32 × Hp)} (B : Bx g cX11_checkEntries 6 RX11 voI (some .int) 9 323 "checkEntries") {l0 : Nat} (hkb : ∀ (l1 : Int32) (l2 : Int32), Sm g 6 4 [(0, va_rf (some l0)), (1, .int l1), (2, .int l2)] [] (kb l1 l2)) (hke125 : ∀ (l1 : Int32), Sm g 6 125 [(0, va_rf (some l0)), (1, .int l1)] [] (ke125 l1)) (l1 : Int32) (l2 : Int32) (l3 : Option Nat) (l4 : Int32) : Sm g 6 76 [(0, va_rf (some l0)), (1, .int l1), (2, .int l2), (3, va_rf l3), (4, .int l4)] [] (C_X11_checkEntries_J76 l0 kb ke125 l1 l2 l3 l4) := by
  unfold C_X11_checkEntries_J76
  refine s_iconst (v := 1) B.1.1 dX11_checkEntries_76 (by decide) ?_
  refine s_goto B.1.1 81 dX11_checkEntries_77 (by decide) ?_
  exact Sm.lvs [0, 1, 2, 3, 4] rfl (sc_X11_checkEntries_J81 B hkb hke125 l1 l2 l3 l4 (1 : Int32))
def C_X11_checkEntries_J58 (l0 : Nat) (kb : Int32 → Int32 → Hp → Option (Int32 × Hp)) (ke125 : Int32 → Hp → Option (Int32 × Hp)) (l1 : Int32) (l2 : Int32) (l3 : Option Nat) (l4 : Int32) : Hp → Option (Int32 × Hp) :=
  if (l4 &&& (3 : Int32)) = (3 : Int32) then (
    C_X11_checkEntries_J76 l0 kb ke125 l1 l2 l3 l4
  ) else (
    if (l4 &&& (48 : Int32)) = (48 : Int32) then (
      C_X11_checkEntries_J76 l0 kb ke125 l1 l2 l3 l4
    ) else (
      C_X11_checkEntries_J81 l0 kb ke125 l1 l2 l3 l4 (0 : Int32)
    )
  )
set_option maxRecDepth 10000 in
theorem mo_C_X11_checkEntries_J58 (l0 : Nat) (kb : Int32 → Int32 → Hp → Option (Int32 × Hp)) (ke125 : Int32 → Hp → Option (Int32 × Hp)) (hkb : ∀ (l1 : Int32) (l2 : Int32), Mo (kb l1 l2)) (hke125 : ∀ (l1 : Int32), Mo (ke125 l1)) (l1 : Int32) (l2 : Int32) (l3 : Option Nat) (l4 : Int32) : Mo (C_X11_checkEntries_J58 l0 kb ke125 l1 l2 l3 l4) := by
  unfold C_X11_checkEntries_J58
  repeat' (with_reducible first | assumption | exact mo_rt _ | exact mo_zt _ | exact mo_no | apply mo_C_X11_checkEntries_J76 | apply mo_C_X11_checkEntries_J81 | apply hkb | apply hke125 | refine mo_ite ?_ ?_ | refine mo_hgI (fun _ => ?_) | refine mo_hgR (fun _ => ?_) | refine mo_hCv (fun _ => ?_) (fun _ => ?_) | refine mo_lq (fun _ => ?_) | refine mo_hpI ?_ | refine mo_hpR ?_ | refine mo_hAi (fun _ => ?_) | refine mo_hAr (fun _ => ?_) | refine mo_hWi ?_ | refine mo_hWr ?_ | refine mo_hLn (fun _ => ?_) | refine mo_hgL (fun _ => ?_) | refine mo_hpL ?_ | refine mo_hpZ ?_ | refine mo_bd ?_ (fun _ => ?_) | refine mo_hCi (fun _ => ?_) (fun _ => ?_) | refine mo_hNw (fun _ => ?_) | refine mo_hNa (fun _ => ?_) | refine mo_hCp ?_ | refine mo_hOi ?_ | refine mo_hAl (fun _ => ?_) | refine mo_hWl ?_ | refine mo_gd ?_ | refine mo_sLn (fun _ => ?_) | refine mo_sAt (fun _ => ?_) | refine mo_kLn (fun _ => ?_) | refine mo_kAt (fun _ => ?_))
set_option maxRecDepth 10000 in
theorem sc_X11_checkEntries_J58 {g : Gm Hp Int32} {kb : Int32 → Int32 → Hp → Option (Int32 × Hp)} {ke125 : Int32 → Hp → Option (Int32 × Hp)} (B : Bx g cX11_checkEntries 6 RX11 voI (some .int) 9 323 "checkEntries") {l0 : Nat} (hkb : ∀ (l1 : Int32) (l2 : Int32), Sm g 6 4 [(0, va_rf (some l0)), (1, .int l1), (2, .int l2)] [] (kb l1 l2)) (hke125 : ∀ (l1 : Int32), Sm g 6 125 [(0, va_rf (some l0)), (1, .int l1)] [] (ke125 l1)) (l1 : Int32) (l2 : Int32) (l3 : Option Nat) (l4 : Int32) : Sm g 6 58 [(0, va_rf (some l0)), (1, .int l1), (2, .int l2), (3, va_rf l3), (4, .int l4)] [] (C_X11_checkEntries_J58 l0 kb ke125 l1 l2 l3 l4) := by
  unfold C_X11_checkEntries_J58
  refine s_iload B.1.1 4 dX11_checkEntries_58 rfl ?_
  refine s_iconst (v := 3) B.1.1 dX11_checkEntries_60 (by decide) ?_
  refine s_iand B.1.1 dX11_checkEntries_61 ?_
  refine s_iconst (v := 3) B.1.1 dX11_checkEntries_62 (by decide) ?_
  refine s_icmp_eq B.1.1 76 dX11_checkEntries_63 (by decide) ?_ ?_
  · exact Sm.lvs [0, 1, 2, 3, 4] rfl (sc_X11_checkEntries_J76 B hkb hke125 l1 l2 l3 l4)
  · refine s_iload B.1.1 4 dX11_checkEntries_66 rfl ?_
    refine s_bipush (v := (48)) B.1.1 dX11_checkEntries_68 (by decide) ?_
    refine s_iand B.1.1 dX11_checkEntries_70 ?_
    refine s_bipush (v := (48)) B.1.1 dX11_checkEntries_71 (by decide) ?_
    refine s_icmp_ne B.1.1 80 dX11_checkEntries_73 (by decide) ?_ ?_
    · refine s_iconst (v := 0) B.1.1 dX11_checkEntries_80 (by decide) ?_
      exact Sm.lvs [0, 1, 2, 3, 4] rfl (sc_X11_checkEntries_J81 B hkb hke125 l1 l2 l3 l4 (0 : Int32))
    · exact Sm.lvs [0, 1, 2, 3, 4] rfl (sc_X11_checkEntries_J76 B hkb hke125 l1 l2 l3 l4)
def C_X11_checkEntries_B4 (l0 : Nat) (kb : Int32 → Int32 → Hp → Option (Int32 × Hp)) (ke125 : Int32 → Hp → Option (Int32 × Hp)) (l1 : Int32) (l2 : Int32) : Hp → Option (Int32 × Hp) :=
  if (133 : Int32) ≤ l2 then (
    ke125 l1
  ) else (
    hgR 13 3 (some l0) fun v6 =>
    hCv 7 v6 (fun a => C_X5_left a) fun r7 =>
    if r7 ≤ 0 then (
      ke125 l1
    ) else (
      hgR 13 3 (some l0) fun v8 =>
      hCv 7 v8 (fun a => C_X5_row a (1 : Int32)) fun r9 =>
      hgR 13 3 (some l0) fun v10 =>
      hCv 7 v10 (fun a => C_X5_one a) fun r11 =>
      if (r11 &&& (192 : Int32)) = 0 then (
        C_X11_checkEntries_J58 l0 kb ke125 l1 l2 r9 r11
      ) else (
        hgR 13 3 (some l0) fun v12 =>
        hCv 7 v12 (fun a => C_X5_fail a (129 : Int32)) fun r13 =>
        C_X11_checkEntries_J58 l0 kb ke125 l1 l2 r9 r11
      )
    )
  )
def C_X11_checkEntries_L4 (l0 : Nat) (ke125 : Int32 → Hp → Option (Int32 × Hp)) : Nat → Int32 → Int32 → Hp → Option (Int32 × Hp)
  | 0, _, _ => no
  | n + 1, l1, l2 => C_X11_checkEntries_B4 l0 (fun l1 l2 => C_X11_checkEntries_L4 l0 ke125 n l1 l2) ke125 l1 l2
set_option maxRecDepth 10000 in
theorem mo_C_X11_checkEntries_B4 (l0 : Nat) (kb : Int32 → Int32 → Hp → Option (Int32 × Hp)) (ke125 : Int32 → Hp → Option (Int32 × Hp)) (hkb : ∀ (l1 : Int32) (l2 : Int32), Mo (kb l1 l2)) (hke125 : ∀ (l1 : Int32), Mo (ke125 l1)) (l1 : Int32) (l2 : Int32) : Mo (C_X11_checkEntries_B4 l0 kb ke125 l1 l2) := by
  unfold C_X11_checkEntries_B4
  repeat' (with_reducible first | assumption | exact mo_rt _ | exact mo_zt _ | exact mo_no | apply mo_C_X5_left | apply mo_C_X5_row | apply mo_C_X5_one | apply mo_C_X11_checkEntries_J58 | apply mo_C_X5_fail | apply hkb | apply hke125 | refine mo_ite ?_ ?_ | refine mo_hgI (fun _ => ?_) | refine mo_hgR (fun _ => ?_) | refine mo_hCv (fun _ => ?_) (fun _ => ?_) | refine mo_lq (fun _ => ?_) | refine mo_hpI ?_ | refine mo_hpR ?_ | refine mo_hAi (fun _ => ?_) | refine mo_hAr (fun _ => ?_) | refine mo_hWi ?_ | refine mo_hWr ?_ | refine mo_hLn (fun _ => ?_) | refine mo_hgL (fun _ => ?_) | refine mo_hpL ?_ | refine mo_hpZ ?_ | refine mo_bd ?_ (fun _ => ?_) | refine mo_hCi (fun _ => ?_) (fun _ => ?_) | refine mo_hNw (fun _ => ?_) | refine mo_hNa (fun _ => ?_) | refine mo_hCp ?_ | refine mo_hOi ?_ | refine mo_hAl (fun _ => ?_) | refine mo_hWl ?_ | refine mo_gd ?_ | refine mo_sLn (fun _ => ?_) | refine mo_sAt (fun _ => ?_) | refine mo_kLn (fun _ => ?_) | refine mo_kAt (fun _ => ?_))
set_option maxRecDepth 10000 in
theorem mo_C_X11_checkEntries_L4 (l0 : Nat) (ke125 : Int32 → Hp → Option (Int32 × Hp)) (hke125 : ∀ (l1 : Int32), Mo (ke125 l1)) : ∀ (n : Nat) (l1 : Int32) (l2 : Int32), Mo (C_X11_checkEntries_L4 l0 ke125 n l1 l2)
  | 0, _, _ => mo_no
  | n + 1, l1, l2 => mo_C_X11_checkEntries_B4 l0 _ ke125 (mo_C_X11_checkEntries_L4 l0 ke125 hke125 n) hke125 l1 l2
set_option maxRecDepth 10000 in
theorem sc_X11_checkEntries_B4 {g : Gm Hp Int32} {kb : Int32 → Int32 → Hp → Option (Int32 × Hp)} {ke125 : Int32 → Hp → Option (Int32 × Hp)} (B : Bx g cX11_checkEntries 6 RX11 voI (some .int) 9 323 "checkEntries") {l0 : Nat} (hkb : ∀ (l1 : Int32) (l2 : Int32), Sm g 6 4 [(0, va_rf (some l0)), (1, .int l1), (2, .int l2)] [] (kb l1 l2)) (hke125 : ∀ (l1 : Int32), Sm g 6 125 [(0, va_rf (some l0)), (1, .int l1)] [] (ke125 l1)) (l1 : Int32) (l2 : Int32) : Sm g 6 4 [(0, va_rf (some l0)), (1, .int l1), (2, .int l2)] [] (C_X11_checkEntries_B4 l0 kb ke125 l1 l2) := by
  unfold C_X11_checkEntries_B4
  refine s_iload_n B.1.1 2 dX11_checkEntries_4 rfl rfl ?_
  refine s_sipush (v := (133)) B.1.1 dX11_checkEntries_5 (by decide) ?_
  refine s_icmp_ge B.1.1 125 dX11_checkEntries_8 (by decide) ?_ ?_
  · exact Sm.lvs [0, 1] rfl (hke125 l1)
  · refine s_rload_n B.1.1 0 dX11_checkEntries_11 rfl rfl ?_
    refine hp_getR B.1 13 3 rfl (by decide) inX11 (by decide) fk_X11_3 cf_X11_34 dX11_checkEntries_12 (fun v6 => ?_)
    refine hp_cvi (As := []) (st := []) 7 rfl (by decide) B.1 (fun a => mC_X5_left B.2.1 a ) cc_X5_left cl_X11_347 cn_X5_left ce_X5_left ci_X5 cd_X5_left (by decide) rfl (Nat.le_of_ble_eq_true rfl) dX11_checkEntries_15 (fun r7 => ?_)
    refine s_if_le B.1.1 125 dX11_checkEntries_18 (by decide) ?_ ?_
    · exact Sm.lvs [0, 1] rfl (hke125 l1)
    · refine s_rload_n B.1.1 0 dX11_checkEntries_21 rfl rfl ?_
      refine hp_getR B.1 13 3 rfl (by decide) inX11 (by decide) fk_X11_3 cf_X11_34 dX11_checkEntries_22 (fun v8 => ?_)
      refine s_iconst (v := 1) B.1.1 dX11_checkEntries_25 (by decide) ?_
      refine hp_cvr (As := [.int (1 : Int32)]) (st := []) 7 rfl (by decide) B.1 (fun a => mC_X5_row B.2.1 a (1 : Int32)) cc_X5_row cl_X11_451 cn_X5_row ce_X5_row ci_X5 cd_X5_row (by decide) rfl (Nat.le_of_ble_eq_true rfl) dX11_checkEntries_26 (fun r9 => ?_)
      refine s_rstore_n (i := 3) (lv' := [(3, va_rf r9), (0, va_rf (some l0)), (1, .int l1), (2, .int l2)]) B.1.1 dX11_checkEntries_29 rfl (by decide) rfl ?_
      refine s_rload_n B.1.1 1 dX11_checkEntries_30 rfl rfl ?_
      refine hp_getR B.1 13 3 rfl (by decide) inX11 (by decide) fk_X11_3 cf_X11_34 dX11_checkEntries_31 (fun v10 => ?_)
      refine hp_cvi (As := []) (st := []) 7 rfl (by decide) B.1 (fun a => mC_X5_one B.2.1 a ) cc_X5_one cl_X11_349 cn_X5_one ce_X5_one ci_X5 cd_X5_one (by decide) rfl (Nat.le_of_ble_eq_true rfl) dX11_checkEntries_34 (fun r11 => ?_)
      refine s_istore (i := 4) (lv' := [(4, .int r11), (3, va_rf r9), (0, va_rf (some l0)), (1, .int l1), (2, .int l2)]) B.1.1 dX11_checkEntries_37 (by decide) (by simp [va_rf_cat, cat_i, cat_l, cat_r]) ?_
      refine s_iload B.1.1 0 dX11_checkEntries_39 rfl ?_
      refine s_sipush (v := (192)) B.1.1 dX11_checkEntries_41 (by decide) ?_
      refine s_iand B.1.1 dX11_checkEntries_44 ?_
      refine s_if_eq B.1.1 58 dX11_checkEntries_45 (by decide) ?_ ?_
      · exact Sm.lvs [2, 3, 4, 1, 0] rfl (sc_X11_checkEntries_J58 B hkb hke125 l1 l2 r9 r11)
      · refine s_rload_n B.1.1 2 dX11_checkEntries_48 rfl rfl ?_
        refine hp_getR B.1 13 3 rfl (by decide) inX11 (by decide) fk_X11_3 cf_X11_34 dX11_checkEntries_49 (fun v12 => ?_)
        refine s_sipush (v := (129)) B.1.1 dX11_checkEntries_52 (by decide) ?_
        refine hp_cvv (As := [.int (129 : Int32)]) (st := []) 7 rfl (by decide) B.1 (fun a => mC_X5_fail B.2.1 a (129 : Int32)) cc_X5_fail cl_X11_359 cn_X5_fail ce_X5_fail ci_X5 cd_X5_fail (by decide) rfl (Nat.le_of_ble_eq_true rfl) dX11_checkEntries_55 (fun r13 => ?_)
        exact Sm.lvs [2, 3, 4, 1, 0] rfl (sc_X11_checkEntries_J58 B hkb hke125 l1 l2 r9 r11)
set_option maxRecDepth 10000 in
theorem sc_X11_checkEntries_L4 {g : Gm Hp Int32} {ke125 : Int32 → Hp → Option (Int32 × Hp)} (B : Bx g cX11_checkEntries 6 RX11 voI (some .int) 9 323 "checkEntries") {l0 : Nat} (hke125 : ∀ (l1 : Int32), Sm g 6 125 [(0, va_rf (some l0)), (1, .int l1)] [] (ke125 l1)) : ∀ (n : Nat) (l1 : Int32) (l2 : Int32), Sm g 6 4 [(0, va_rf (some l0)), (1, .int l1), (2, .int l2)] [] (C_X11_checkEntries_L4 l0 ke125 n l1 l2)
  | 0, _, _ => Sm.fail
  | n + 1, l1, l2 => sc_X11_checkEntries_B4 B (sc_X11_checkEntries_L4 B hke125 n) hke125 l1 l2
def C_X11_checkEntries (l0 : Nat) : Hp → Option (Int32 × Hp) :=
  C_X11_checkEntries_L4 l0 (fun l1 => C_X11_checkEntries_J125 l0 l1) fu (0 : Int32) (0 : Int32)
set_option maxRecDepth 10000 in
theorem mo_C_X11_checkEntries (l0 : Nat) : Mo (C_X11_checkEntries l0) := by
  unfold C_X11_checkEntries
  repeat' (with_reducible first | assumption | exact mo_rt _ | exact mo_zt _ | exact mo_no | apply mo_C_X11_checkEntries_L4 | apply mo_C_X11_checkEntries_J125 | refine mo_ite ?_ ?_ | refine mo_hgI (fun _ => ?_) | refine mo_hgR (fun _ => ?_) | refine mo_hCv (fun _ => ?_) (fun _ => ?_) | refine mo_lq (fun _ => ?_) | refine mo_hpI ?_ | refine mo_hpR ?_ | refine mo_hAi (fun _ => ?_) | refine mo_hAr (fun _ => ?_) | refine mo_hWi ?_ | refine mo_hWr ?_ | refine mo_hLn (fun _ => ?_) | refine mo_hgL (fun _ => ?_) | refine mo_hpL ?_ | refine mo_hpZ ?_ | refine mo_bd ?_ (fun _ => ?_) | refine mo_hCi (fun _ => ?_) (fun _ => ?_) | refine mo_hNw (fun _ => ?_) | refine mo_hNa (fun _ => ?_) | refine mo_hCp ?_ | refine mo_hOi ?_ | refine mo_hAl (fun _ => ?_) | refine mo_hWl ?_ | refine mo_gd ?_ | refine mo_sLn (fun _ => ?_) | refine mo_sAt (fun _ => ?_) | refine mo_kLn (fun _ => ?_) | refine mo_kAt (fun _ => ?_))
set_option maxRecDepth 10000 in
theorem mC_X11_checkEntries {w : Wd} (hw : Wc w) (l0 : Nat) : MH w yX11_checkEntries cX11_checkEntries 6 (some .int) 9 323 voI [va_rf (some l0)] (C_X11_checkEntries l0) := by
  have M0 : ∀ g : Gm Hp Int32, g.1 = w → Bx g cX11_checkEntries 6 RX11 voI (some .int) 9 323 "checkEntries" → Sm g 6 0 (lv_args 0 [va_rf (some l0)]) [] (C_X11_checkEntries l0) := by
    intro g hg B
    subst hg
    unfold C_X11_checkEntries
    refine W_lva (lv := [(0, va_rf (some l0))]) (by simp [lv_args, va_rf_cat, cat_i, cat_l, cat_r]) ?_
    refine s_iconst (v := 0) B.1.1 dX11_checkEntries_0 (by decide) ?_
    refine s_istore_n (i := 1) (lv' := [(1, .int (0 : Int32)), (0, va_rf (some l0))]) B.1.1 dX11_checkEntries_1 rfl (by decide) rfl ?_
    refine s_iconst (v := 0) B.1.1 dX11_checkEntries_2 (by decide) ?_
    refine s_istore_n (i := 2) (lv' := [(2, .int (0 : Int32)), (1, .int (0 : Int32)), (0, va_rf (some l0))]) B.1.1 dX11_checkEntries_3 rfl (by decide) rfl ?_
    exact Sm.lvs [2, 1, 0] rfl (sc_X11_checkEntries_L4 B (fun l1 => sc_X11_checkEntries_J125 B l1) fu (0 : Int32) (0 : Int32))
  exact MH.of hw ⟨rfl, rfl⟩ (by decide) (by simp [lg_sl, va_rf_cat, cat_i, cat_l, cat_r]) (mo_C_X11_checkEntries l0) M0
def C_X11_giveRetained_J66 (l0 : Nat) : Hp → Option (Unit × Hp) :=
  rt ()
set_option maxRecDepth 10000 in
theorem mo_C_X11_giveRetained_J66 (l0 : Nat) : Mo (C_X11_giveRetained_J66 l0) := by
  unfold C_X11_giveRetained_J66
  repeat' (with_reducible first | assumption | exact mo_rt _ | exact mo_zt _ | exact mo_no | refine mo_ite ?_ ?_ | refine mo_hgI (fun _ => ?_) | refine mo_hgR (fun _ => ?_) | refine mo_hCv (fun _ => ?_) (fun _ => ?_) | refine mo_lq (fun _ => ?_) | refine mo_hpI ?_ | refine mo_hpR ?_ | refine mo_hAi (fun _ => ?_) | refine mo_hAr (fun _ => ?_) | refine mo_hWi ?_ | refine mo_hWr ?_ | refine mo_hLn (fun _ => ?_) | refine mo_hgL (fun _ => ?_) | refine mo_hpL ?_ | refine mo_hpZ ?_ | refine mo_bd ?_ (fun _ => ?_) | refine mo_hCi (fun _ => ?_) (fun _ => ?_) | refine mo_hNw (fun _ => ?_) | refine mo_hNa (fun _ => ?_) | refine mo_hCp ?_ | refine mo_hOi ?_ | refine mo_hAl (fun _ => ?_) | refine mo_hWl ?_ | refine mo_gd ?_ | refine mo_sLn (fun _ => ?_) | refine mo_sAt (fun _ => ?_) | refine mo_kLn (fun _ => ?_) | refine mo_kAt (fun _ => ?_))
set_option maxRecDepth 10000 in
theorem sc_X11_giveRetained_J66 {g : Gm Hp Unit} (B : Bx g cX11_giveRetained 6 RX11 voV none 3 87 "giveRetained") {l0 : Nat} : Sm g 6 66 [] [] (C_X11_giveRetained_J66 l0) := by
  unfold C_X11_giveRetained_J66
  exact s_vret B.1.1 B.2.2.2.2 dX11_giveRetained_66
def C_X11_giveRetained_B2 (l0 : Nat) (kb : Option Nat → Option Nat → Int32 → Hp → Option (Unit × Hp)) (ke66 : Hp → Option (Unit × Hp)) (l1 : Option Nat) (l2 : Option Nat) (l3 : Int32) : Hp → Option (Unit × Hp) :=
  hgR 13 2 (some l0) fun v1 =>
  hgI 8 1 v1 fun v2 =>
  if v2 ≤ l3 then (
    ke66
  ) else (
    hgR 13 2 (some l0) fun v3 =>
    hgR 8 0 v3 fun v4 =>
    hAr 9 v4 l3 fun v5 =>
    hgR 5 0 v5 fun v6 =>
    hCv 11 l2 (fun a => C_X9_matches a v6) fun r7 =>
    if r7 = 0 then (
      kb l1 l2 (l3 + 1)
    ) else (
      hCv 13 (some l0) (fun a => C_X11_hand a l1 l2 v5 (1 : Int32)) fun r8 =>
      if r8 = none then (
        kb l1 l2 (l3 + 1)
      ) else (
        hCv 13 (some l0) (fun a => C_X11_deliver a l1 r8 (0 : Int32)) fun r9 =>
        kb l1 l2 (l3 + 1)
      )
    )
  )
def C_X11_giveRetained_L2 (l0 : Nat) (ke66 : Hp → Option (Unit × Hp)) : Nat → Option Nat → Option Nat → Int32 → Hp → Option (Unit × Hp)
  | 0, _, _, _ => no
  | n + 1, l1, l2, l3 => C_X11_giveRetained_B2 l0 (fun l1 l2 l3 => C_X11_giveRetained_L2 l0 ke66 n l1 l2 l3) ke66 l1 l2 l3
set_option maxRecDepth 10000 in
theorem mo_C_X11_giveRetained_B2 (l0 : Nat) (kb : Option Nat → Option Nat → Int32 → Hp → Option (Unit × Hp)) (ke66 : Hp → Option (Unit × Hp)) (hkb : ∀ (l1 : Option Nat) (l2 : Option Nat) (l3 : Int32), Mo (kb l1 l2 l3)) (hke66 : Mo (ke66)) (l1 : Option Nat) (l2 : Option Nat) (l3 : Int32) : Mo (C_X11_giveRetained_B2 l0 kb ke66 l1 l2 l3) := by
  unfold C_X11_giveRetained_B2
  repeat' (with_reducible first | assumption | exact mo_rt _ | exact mo_zt _ | exact mo_no | apply mo_C_X9_matches | apply mo_C_X11_hand | apply mo_C_X11_deliver | apply hkb | apply hke66 | refine mo_ite ?_ ?_ | refine mo_hgI (fun _ => ?_) | refine mo_hgR (fun _ => ?_) | refine mo_hCv (fun _ => ?_) (fun _ => ?_) | refine mo_lq (fun _ => ?_) | refine mo_hpI ?_ | refine mo_hpR ?_ | refine mo_hAi (fun _ => ?_) | refine mo_hAr (fun _ => ?_) | refine mo_hWi ?_ | refine mo_hWr ?_ | refine mo_hLn (fun _ => ?_) | refine mo_hgL (fun _ => ?_) | refine mo_hpL ?_ | refine mo_hpZ ?_ | refine mo_bd ?_ (fun _ => ?_) | refine mo_hCi (fun _ => ?_) (fun _ => ?_) | refine mo_hNw (fun _ => ?_) | refine mo_hNa (fun _ => ?_) | refine mo_hCp ?_ | refine mo_hOi ?_ | refine mo_hAl (fun _ => ?_) | refine mo_hWl ?_ | refine mo_gd ?_ | refine mo_sLn (fun _ => ?_) | refine mo_sAt (fun _ => ?_) | refine mo_kLn (fun _ => ?_) | refine mo_kAt (fun _ => ?_))
set_option maxRecDepth 10000 in
theorem mo_C_X11_giveRetained_L2 (l0 : Nat) (ke66 : Hp → Option (Unit × Hp)) (hke66 : Mo (ke66)) : ∀ (n : Nat) (l1 : Option Nat) (l2 : Option Nat) (l3 : Int32), Mo (C_X11_giveRetained_L2 l0 ke66 n l1 l2 l3)
  | 0, _, _, _ => mo_no
  | n + 1, l1, l2, l3 => mo_C_X11_giveRetained_B2 l0 _ ke66 (mo_C_X11_giveRetained_L2 l0 ke66 hke66 n) hke66 l1 l2 l3
set_option maxRecDepth 10000 in
theorem sc_X11_giveRetained_B2 {g : Gm Hp Unit} {kb : Option Nat → Option Nat → Int32 → Hp → Option (Unit × Hp)} {ke66 : Hp → Option (Unit × Hp)} (B : Bx g cX11_giveRetained 6 RX11 voV none 3 87 "giveRetained") {l0 : Nat} (hkb : ∀ (l1 : Option Nat) (l2 : Option Nat) (l3 : Int32), Sm g 6 2 [(0, va_rf (some l0)), (1, va_rf l1), (2, va_rf l2), (3, .int l3)] [] (kb l1 l2 l3)) (hke66 : Sm g 6 66 [] [] (ke66)) (l1 : Option Nat) (l2 : Option Nat) (l3 : Int32) : Sm g 6 2 [(0, va_rf (some l0)), (1, va_rf l1), (2, va_rf l2), (3, .int l3)] [] (C_X11_giveRetained_B2 l0 kb ke66 l1 l2 l3) := by
  unfold C_X11_giveRetained_B2
  refine s_iload_n B.1.1 3 dX11_giveRetained_2 rfl rfl ?_
  refine s_rload_n B.1.1 0 dX11_giveRetained_3 rfl rfl ?_
  refine hp_getR B.1 13 2 rfl (by decide) inX11 (by decide) fk_X11_2 cf_X11_27 dX11_giveRetained_4 (fun v1 => ?_)
  refine hp_getI B.1 8 1 rfl (by decide) inX6 (by decide) fk_X6_1.1 fk_X6_1.2 cf_X11_244 dX11_giveRetained_7 (fun v2 => ?_)
  refine s_icmp_ge B.1.1 66 dX11_giveRetained_10 (by decide) ?_ ?_
  · exact Sm.lvs [] rfl (hke66)
  · refine s_rload_n B.1.1 0 dX11_giveRetained_13 rfl rfl ?_
    refine hp_getR B.1 13 2 rfl (by decide) inX11 (by decide) fk_X11_2 cf_X11_27 dX11_giveRetained_14 (fun v3 => ?_)
    refine hp_getR B.1 8 0 rfl (by decide) inX6 (by decide) fk_X6_0 cf_X11_597 dX11_giveRetained_17 (fun v4 => ?_)
    refine s_iload_n B.1.1 3 dX11_giveRetained_20 rfl rfl ?_
    refine hp_Ar B.1 9 (by decide) (fun _ => rfl) dX11_giveRetained_21 (fun v5 => ?_)
    refine s_rstore (i := 4) (lv' := [(4, va_rf v5), (0, va_rf (some l0)), (1, va_rf l1), (2, va_rf l2), (3, .int l3)]) B.1.1 dX11_giveRetained_22 (by decide) rfl ?_
    refine s_rload_n B.1.1 3 dX11_giveRetained_24 rfl rfl ?_
    refine s_rload B.1.1 0 dX11_giveRetained_25 rfl ?_
    refine hp_getR B.1 5 0 rfl (by decide) inX3 (by decide) fk_X3_0 cf_X11_219 dX11_giveRetained_27 (fun v6 => ?_)
    refine hp_cvi (As := [va_rf v6]) (st := []) 11 rfl (by decide) B.1 (fun a => mC_X9_matches B.2.1 a v6) cc_X9_matches cl_X11_505 cn_X9_matches ce_X9_matches ci_X9 cd_X9_matches (by decide) rfl (Nat.le_of_ble_eq_true rfl) dX11_giveRetained_30 (fun r7 => ?_)
    refine s_if_eq B.1.1 60 dX11_giveRetained_33 (by decide) ?_ ?_
    · refine s_iinc (v := l3 + 1) (lv' := [(3, .int (l3 + 1)), (4, va_rf v5), (0, va_rf (some l0)), (1, va_rf l1), (2, va_rf l2)]) B.1.1 4 dX11_giveRetained_60 rfl rfl (by decide) (by simp [va_rf_cat, cat_i, cat_l, cat_r]) ?_
      refine s_goto B.1.1 2 dX11_giveRetained_63 (by decide) ?_
      exact Sm.lvs [2, 3, 4, 0] rfl (hkb l1 l2 (l3 + 1))
    · refine s_rload_n B.1.1 1 dX11_giveRetained_36 rfl rfl ?_
      refine s_rload_n B.1.1 2 dX11_giveRetained_37 rfl rfl ?_
      refine s_rload_n B.1.1 3 dX11_giveRetained_38 rfl rfl ?_
      refine s_rload B.1.1 0 dX11_giveRetained_39 rfl ?_
      refine s_iconst (v := 1) B.1.1 dX11_giveRetained_41 (by decide) ?_
      refine hp_cvr (As := [va_rf l1, va_rf l2, va_rf v5, .int (1 : Int32)]) (st := []) 13 rfl (by decide) B.1 (fun a => mC_X11_hand B.2.1 a l1 l2 v5 (1 : Int32)) cc_X11_hand cl_X11_516 cn_X11_hand ce_X11_hand ci_X11 cd_X11_hand (by decide) rfl (Nat.le_of_ble_eq_true rfl) dX11_giveRetained_42 (fun r8 => ?_)
      refine s_rstore (i := 5) (lv' := [(5, va_rf r8), (4, va_rf v5), (0, va_rf (some l0)), (1, va_rf l1), (2, va_rf l2), (3, .int l3)]) B.1.1 dX11_giveRetained_45 (by decide) (by simp [va_rf_cat, cat_i, cat_l, cat_r]) ?_
      refine s_rload B.1.1 0 dX11_giveRetained_47 rfl ?_
      refine s_ifnull B.1.1 60 dX11_giveRetained_49 (by decide) ?_ ?_
      · refine s_iinc (v := l3 + 1) (lv' := [(3, .int (l3 + 1)), (5, va_rf r8), (4, va_rf v5), (0, va_rf (some l0)), (1, va_rf l1), (2, va_rf l2)]) B.1.1 5 dX11_giveRetained_60 rfl rfl (by decide) (by simp [va_rf_cat, cat_i, cat_l, cat_r]) ?_
        refine s_goto B.1.1 2 dX11_giveRetained_63 (by decide) ?_
        exact Sm.lvs [3, 4, 5, 0] rfl (hkb l1 l2 (l3 + 1))
      · refine s_rload_n B.1.1 2 dX11_giveRetained_52 rfl rfl ?_
        refine s_rload_n B.1.1 3 dX11_giveRetained_53 rfl rfl ?_
        refine s_rload B.1.1 0 dX11_giveRetained_54 rfl ?_
        refine s_iconst (v := 0) B.1.1 dX11_giveRetained_56 (by decide) ?_
        refine hp_cvv (As := [va_rf l1, va_rf r8, .int (0 : Int32)]) (st := []) 13 rfl (by decide) B.1 (fun a => mC_X11_deliver B.2.1 a l1 r8 (0 : Int32)) cc_X11_deliver cl_X11_447 cn_X11_deliver ce_X11_deliver ci_X11 cd_X11_deliver (by decide) rfl (Nat.le_of_ble_eq_true rfl) dX11_giveRetained_57 (fun r9 => ?_)
        refine s_iinc (v := l3 + 1) (lv' := [(3, .int (l3 + 1)), (5, va_rf r8), (4, va_rf v5), (0, va_rf (some l0)), (1, va_rf l1), (2, va_rf l2)]) B.1.1 5 dX11_giveRetained_60 rfl rfl (by decide) (by simp [va_rf_cat, cat_i, cat_l, cat_r]) ?_
        refine s_goto B.1.1 2 dX11_giveRetained_63 (by decide) ?_
        exact Sm.lvs [3, 4, 5, 0] rfl (hkb l1 l2 (l3 + 1))
set_option maxRecDepth 10000 in
theorem sc_X11_giveRetained_L2 {g : Gm Hp Unit} {ke66 : Hp → Option (Unit × Hp)} (B : Bx g cX11_giveRetained 6 RX11 voV none 3 87 "giveRetained") {l0 : Nat} (hke66 : Sm g 6 66 [] [] (ke66)) : ∀ (n : Nat) (l1 : Option Nat) (l2 : Option Nat) (l3 : Int32), Sm g 6 2 [(0, va_rf (some l0)), (1, va_rf l1), (2, va_rf l2), (3, .int l3)] [] (C_X11_giveRetained_L2 l0 ke66 n l1 l2 l3)
  | 0, _, _, _ => Sm.fail
  | n + 1, l1, l2, l3 => sc_X11_giveRetained_B2 B (sc_X11_giveRetained_L2 B hke66 n) hke66 l1 l2 l3
def C_X11_giveRetained (l0 : Nat) (l1 : Option Nat) (l2 : Option Nat) : Hp → Option (Unit × Hp) :=
  C_X11_giveRetained_L2 l0 (C_X11_giveRetained_J66 l0) fu l1 l2 (0 : Int32)
set_option maxRecDepth 10000 in
theorem mo_C_X11_giveRetained (l0 : Nat) (l1 : Option Nat) (l2 : Option Nat) : Mo (C_X11_giveRetained l0 l1 l2) := by
  unfold C_X11_giveRetained
  repeat' (with_reducible first | assumption | exact mo_rt _ | exact mo_zt _ | exact mo_no | apply mo_C_X11_giveRetained_L2 | apply mo_C_X11_giveRetained_J66 | refine mo_ite ?_ ?_ | refine mo_hgI (fun _ => ?_) | refine mo_hgR (fun _ => ?_) | refine mo_hCv (fun _ => ?_) (fun _ => ?_) | refine mo_lq (fun _ => ?_) | refine mo_hpI ?_ | refine mo_hpR ?_ | refine mo_hAi (fun _ => ?_) | refine mo_hAr (fun _ => ?_) | refine mo_hWi ?_ | refine mo_hWr ?_ | refine mo_hLn (fun _ => ?_) | refine mo_hgL (fun _ => ?_) | refine mo_hpL ?_ | refine mo_hpZ ?_ | refine mo_bd ?_ (fun _ => ?_) | refine mo_hCi (fun _ => ?_) (fun _ => ?_) | refine mo_hNw (fun _ => ?_) | refine mo_hNa (fun _ => ?_) | refine mo_hCp ?_ | refine mo_hOi ?_ | refine mo_hAl (fun _ => ?_) | refine mo_hWl ?_ | refine mo_gd ?_ | refine mo_sLn (fun _ => ?_) | refine mo_sAt (fun _ => ?_) | refine mo_kLn (fun _ => ?_) | refine mo_kAt (fun _ => ?_))
set_option maxRecDepth 10000 in
theorem mC_X11_giveRetained {w : Wd} (hw : Wc w) (l0 : Nat) (l1 : Option Nat) (l2 : Option Nat) : MH w yX11_giveRetained cX11_giveRetained 6 none 3 87 voV [va_rf (some l0), va_rf l1, va_rf l2] (C_X11_giveRetained l0 l1 l2) := by
  have M0 : ∀ g : Gm Hp Unit, g.1 = w → Bx g cX11_giveRetained 6 RX11 voV none 3 87 "giveRetained" → Sm g 6 0 (lv_args 0 [va_rf (some l0), va_rf l1, va_rf l2]) [] (C_X11_giveRetained l0 l1 l2) := by
    intro g hg B
    subst hg
    unfold C_X11_giveRetained
    refine W_lva (lv := [(0, va_rf (some l0)), (1, va_rf l1), (2, va_rf l2)]) (by simp [lv_args, va_rf_cat, cat_i, cat_l, cat_r]) ?_
    refine s_iconst (v := 0) B.1.1 dX11_giveRetained_0 (by decide) ?_
    refine s_istore_n (i := 3) (lv' := [(3, .int (0 : Int32)), (0, va_rf (some l0)), (1, va_rf l1), (2, va_rf l2)]) B.1.1 dX11_giveRetained_1 rfl (by decide) (by simp [va_rf_cat, cat_i, cat_l, cat_r]) ?_
    exact Sm.lvs [1, 2, 3, 0] rfl (sc_X11_giveRetained_L2 B (sc_X11_giveRetained_J66 B) fu l1 l2 (0 : Int32))
  exact MH.of hw ⟨rfl, rfl⟩ (by decide) (by simp [lg_sl, va_rf_cat, cat_i, cat_l, cat_r]) (mo_C_X11_giveRetained l0 l1 l2) M0
def C_X7_behindName_J83 (l0 : Nat) : Hp → Option (Int32 × Hp) :=
  rt ((-1 : Int32))
set_option maxRecDepth 10000 in
theorem mo_C_X7_behindName_J83 (l0 : Nat) : Mo (C_X7_behindName_J83 l0) := by
  unfold C_X7_behindName_J83
  repeat' (with_reducible first | assumption | exact mo_rt _ | exact mo_zt _ | exact mo_no | refine mo_ite ?_ ?_ | refine mo_hgI (fun _ => ?_) | refine mo_hgR (fun _ => ?_) | refine mo_hCv (fun _ => ?_) (fun _ => ?_) | refine mo_lq (fun _ => ?_) | refine mo_hpI ?_ | refine mo_hpR ?_ | refine mo_hAi (fun _ => ?_) | refine mo_hAr (fun _ => ?_) | refine mo_hWi ?_ | refine mo_hWr ?_ | refine mo_hLn (fun _ => ?_) | refine mo_hgL (fun _ => ?_) | refine mo_hpL ?_ | refine mo_hpZ ?_ | refine mo_bd ?_ (fun _ => ?_) | refine mo_hCi (fun _ => ?_) (fun _ => ?_) | refine mo_hNw (fun _ => ?_) | refine mo_hNa (fun _ => ?_) | refine mo_hCp ?_ | refine mo_hOi ?_ | refine mo_hAl (fun _ => ?_) | refine mo_hWl ?_ | refine mo_gd ?_ | refine mo_sLn (fun _ => ?_) | refine mo_sAt (fun _ => ?_) | refine mo_kLn (fun _ => ?_) | refine mo_kAt (fun _ => ?_))
set_option maxRecDepth 10000 in
theorem sc_X7_behindName_J83 {g : Gm Hp Int32} (B : Bx g cX7_behindName 3 RX7 voI (some .int) 9 323 "behindName") {l0 : Nat} : Sm g 3 83 [] [] (C_X7_behindName_J83 l0) := by
  unfold C_X7_behindName_J83
  refine s_iconst (v := (-1)) B.1.1 dX7_behindName_83 (by decide) ?_
  exact s_iret B.1.1 B.2.2.2.2 dX7_behindName_84
def C_X7_behindName_J75 (l0 : Nat) : Hp → Option (Int32 × Hp) :=
  rt ((-1 : Int32))
set_option maxRecDepth 10000 in
theorem mo_C_X7_behindName_J75 (l0 : Nat) : Mo (C_X7_behindName_J75 l0) := by
  unfold C_X7_behindName_J75
  repeat' (with_reducible first | assumption | exact mo_rt _ | exact mo_zt _ | exact mo_no | refine mo_ite ?_ ?_ | refine mo_hgI (fun _ => ?_) | refine mo_hgR (fun _ => ?_) | refine mo_hCv (fun _ => ?_) (fun _ => ?_) | refine mo_lq (fun _ => ?_) | refine mo_hpI ?_ | refine mo_hpR ?_ | refine mo_hAi (fun _ => ?_) | refine mo_hAr (fun _ => ?_) | refine mo_hWi ?_ | refine mo_hWr ?_ | refine mo_hLn (fun _ => ?_) | refine mo_hgL (fun _ => ?_) | refine mo_hpL ?_ | refine mo_hpZ ?_ | refine mo_bd ?_ (fun _ => ?_) | refine mo_hCi (fun _ => ?_) (fun _ => ?_) | refine mo_hNw (fun _ => ?_) | refine mo_hNa (fun _ => ?_) | refine mo_hCp ?_ | refine mo_hOi ?_ | refine mo_hAl (fun _ => ?_) | refine mo_hWl ?_ | refine mo_gd ?_ | refine mo_sLn (fun _ => ?_) | refine mo_sAt (fun _ => ?_) | refine mo_kLn (fun _ => ?_) | refine mo_kAt (fun _ => ?_))
set_option maxRecDepth 10000 in
theorem sc_X7_behindName_J75 {g : Gm Hp Int32} (B : Bx g cX7_behindName 3 RX7 voI (some .int) 9 323 "behindName") {l0 : Nat} : Sm g 3 75 [] [] (C_X7_behindName_J75 l0) := by
  unfold C_X7_behindName_J75
  refine s_iconst (v := (-1)) B.1.1 dX7_behindName_75 (by decide) ?_
  exact s_iret B.1.1 B.2.2.2.2 dX7_behindName_76
def C_X7_behindName_J28 (l0 : Nat) (l1 : Int32) (l2 : Int32) : Hp → Option (Int32 × Hp) :=
  if l2 = l1 then (
    rt ((-1 : Int32))
  ) else (
    hCv 9 (some l0) (fun a => C_X7_begins a (l2 + (1 : Int32)) 0) fun r1 =>
    if r1 = 0 then (
      rt (l2 + (1 : Int32))
    ) else (
      rt ((-1 : Int32))
    )
  )
set_option maxRecDepth 10000 in
theorem mo_C_X7_behindName_J28 (l0 : Nat) (l1 : Int32) (l2 : Int32) : Mo (C_X7_behindName_J28 l0 l1 l2) := by
  unfold C_X7_behindName_J28
  repeat' (with_reducible first | assumption | exact mo_rt _ | exact mo_zt _ | exact mo_no | apply mo_C_X7_begins | refine mo_ite ?_ ?_ | refine mo_hgI (fun _ => ?_) | refine mo_hgR (fun _ => ?_) | refine mo_hCv (fun _ => ?_) (fun _ => ?_) | refine mo_lq (fun _ => ?_) | refine mo_hpI ?_ | refine mo_hpR ?_ | refine mo_hAi (fun _ => ?_) | refine mo_hAr (fun _ => ?_) | refine mo_hWi ?_ | refine mo_hWr ?_ | refine mo_hLn (fun _ => ?_) | refine mo_hgL (fun _ => ?_) | refine mo_hpL ?_ | refine mo_hpZ ?_ | refine mo_bd ?_ (fun _ => ?_) | refine mo_hCi (fun _ => ?_) (fun _ => ?_) | refine mo_hNw (fun _ => ?_) | refine mo_hNa (fun _ => ?_) | refine mo_hCp ?_ | refine mo_hOi ?_ | refine mo_hAl (fun _ => ?_) | refine mo_hWl ?_ | refine mo_gd ?_ | refine mo_sLn (fun _ => ?_) | refine mo_sAt (fun _ => ?_) | refine mo_kLn (fun _ => ?_) | refine mo_kAt (fun _ => ?_))
set_option maxRecDepth 10000 in
theorem sc_X7_behindName_J28 {g : Gm Hp Int32} (B : Bx g cX7_behindName 3 RX7 voI (some .int) 9 323 "behindName") {l0 : Nat} (l1 : Int32) (l2 : Int32) : Sm g 3 28 [(0, va_rf (some l0)), (1, .int l1), (2, .int l2)] [] (C_X7_behindName_J28 l0 l1 l2) := by
  unfold C_X7_behindName_J28
  refine s_iload_n B.1.1 2 dX7_behindName_28 rfl rfl ?_
  refine s_iload_n B.1.1 1 dX7_behindName_29 rfl rfl ?_
  refine s_icmp_eq B.1.1 45 dX7_behindName_30 (by decide) ?_ ?_
  · refine s_iconst (v := (-1)) B.1.1 dX7_behindName_45 (by decide) ?_
    refine s_goto B.1.1 52 dX7_behindName_46 (by decide) ?_
    exact s_iret B.1.1 B.2.2.2.2 dX7_behindName_52
  · refine s_rload_n B.1.1 0 dX7_behindName_33 rfl rfl ?_
    refine s_iload_n B.1.1 2 dX7_behindName_34 rfl rfl ?_
    refine s_iconst (v := 1) B.1.1 dX7_behindName_35 (by decide) ?_
    refine s_iadd B.1.1 dX7_behindName_36 ?_
    refine s_ldS B 0 29 (by decide +kernel) dX7_behindName_37 ?_
    refine hp_cvi (As := [.int (l2 + (1 : Int32)), .ref (g.1.2.1 (1000 + 0))]) (st := []) 9 rfl (by decide) B.1 (fun a => mC_X7_begins B.2.1 a (l2 + (1 : Int32)) 0 (by decide)) cc_X7_begins cl_X7_31 cn_X7_begins ce_X7_begins ci_X7 cd_X7_begins (by decide) rfl (Nat.le_of_ble_eq_true rfl) dX7_behindName_39 (fun r1 => ?_)
    refine s_if_eq B.1.1 49 dX7_behindName_42 (by decide) ?_ ?_
    · refine s_iload_n B.1.1 2 dX7_behindName_49 rfl rfl ?_
      refine s_iconst (v := 1) B.1.1 dX7_behindName_50 (by decide) ?_
      refine s_iadd B.1.1 dX7_behindName_51 ?_
      exact s_iret B.1.1 B.2.2.2.2 dX7_behindName_52
    · refine s_iconst (v := (-1)) B.1.1 dX7_behindName_45 (by decide) ?_
      refine s_goto B.1.1 52 dX7_behindName_46 (by decide) ?_
      exact s_iret B.1.1 B.2.2.2.2 dX7_behindName_52
def C_X7_behindName_B8 (l0 : Nat) (kb : Int32 → Int32 → Hp → Option (Int32 × Hp)) (ke28 : Int32 → Int32 → Hp → Option (Int32 × Hp)) (ke75 : Hp → Option (Int32 × Hp)) (ke83 : Hp → Option (Int32 × Hp)) (l1 : Int32) (l2 : Int32) : Hp → Option (Int32 × Hp) :=
  hgR 9 0 (some l0) fun v2 =>
  hLn 0 v2 fun v3 =>
  if v3 ≤ l2 then (
    ke83
  ) else (
    hgR 9 0 (some l0) fun v4 =>
    hAi v4 l2 fun v5 =>
    if v5 = (47 : Int32) then (
      ke28 l1 l2
    ) else (
      hgR 9 0 (some l0) fun v6 =>
      hAi v6 l2 fun v7 =>
      if v7 = (43 : Int32) then (
        ke75
      ) else (
        hgR 9 0 (some l0) fun v8 =>
        hAi v8 l2 fun v9 =>
        if v9 = (35 : Int32) then (
          ke75
        ) else (
          kb l1 (l2 + 1)
        )
      )
    )
  )
def C_X7_behindName_L8 (l0 : Nat) (ke28 : Int32 → Int32 → Hp → Option (Int32 × Hp)) (ke75 : Hp → Option (Int32 × Hp)) (ke83 : Hp → Option (Int32 × Hp)) : Nat → Int32 → Int32 → Hp → Option (Int32 × Hp)
  | 0, _, _ => no
  | n + 1, l1, l2 => C_X7_behindName_B8 l0 (fun l1 l2 => C_X7_behindName_L8 l0 ke28 ke75 ke83 n l1 l2) ke28 ke75 ke83 l1 l2
set_option maxRecDepth 10000 in
theorem mo_C_X7_behindName_B8 (l0 : Nat) (kb : Int32 → Int32 → Hp → Option (Int32 × Hp)) (ke28 : Int32 → Int32 → Hp → Option (Int32 × Hp)) (ke75 : Hp → Option (Int32 × Hp)) (ke83 : Hp → Option (Int32 × Hp)) (hkb : ∀ (l1 : Int32) (l2 : Int32), Mo (kb l1 l2)) (hke28 : ∀ (l1 : Int32) (l2 : Int32), Mo (ke28 l1 l2)) (hke75 : Mo (ke75)) (hke83 : Mo (ke83)) (l1 : Int32) (l2 : Int32) : Mo (C_X7_behindName_B8 l0 kb ke28 ke75 ke83 l1 l2) := by
  unfold C_X7_behindName_B8
  repeat' (with_reducible first | assumption | exact mo_rt _ | exact mo_zt _ | exact mo_no | apply hkb | apply hke28 | apply hke75 | apply hke83 | refine mo_ite ?_ ?_ | refine mo_hgI (fun _ => ?_) | refine mo_hgR (fun _ => ?_) | refine mo_hCv (fun _ => ?_) (fun _ => ?_) | refine mo_lq (fun _ => ?_) | refine mo_hpI ?_ | refine mo_hpR ?_ | refine mo_hAi (fun _ => ?_) | refine mo_hAr (fun _ => ?_) | refine mo_hWi ?_ | refine mo_hWr ?_ | refine mo_hLn (fun _ => ?_) | refine mo_hgL (fun _ => ?_) | refine mo_hpL ?_ | refine mo_hpZ ?_ | refine mo_bd ?_ (fun _ => ?_) | refine mo_hCi (fun _ => ?_) (fun _ => ?_) | refine mo_hNw (fun _ => ?_) | refine mo_hNa (fun _ => ?_) | refine mo_hCp ?_ | refine mo_hOi ?_ | refine mo_hAl (fun _ => ?_) | refine mo_hWl ?_ | refine mo_gd ?_ | refine mo_sLn (fun _ => ?_) | refine mo_sAt (fun _ => ?_) | refine mo_kLn (fun _ => ?_) | refine mo_kAt (fun _ => ?_))
set_option maxRecDepth 10000 in
theorem mo_C_X7_behindName_L8 (l0 : Nat) (ke28 : Int32 → Int32 → Hp → Option (Int32 × Hp)) (ke75 : Hp → Option (Int32 × Hp)) (ke83 : Hp → Option (Int32 × Hp)) (hke28 : ∀ (l1 : Int32) (l2 : Int32), Mo (ke28 l1 l2)) (hke75 : Mo (ke75)) (hke83 : Mo (ke83)) : ∀ (n : Nat) (l1 : Int32) (l2 : Int32), Mo (C_X7_behindName_L8 l0 ke28 ke75 ke83 n l1 l2)
  | 0, _, _ => mo_no
  | n + 1, l1, l2 => mo_C_X7_behindName_B8 l0 _ ke28 ke75 ke83 (mo_C_X7_behindName_L8 l0 ke28 ke75 ke83 hke28 hke75 hke83 n) hke28 hke75 hke83 l1 l2
set_option maxRecDepth 10000 in
theorem sc_X7_behindName_B8 {g : Gm Hp Int32} {kb : Int32 → Int32 → Hp → Option (Int32 × Hp)} {ke28 : Int32 → Int32 → Hp → Option (Int32 × Hp)} {ke75 : Hp → Option (Int32 × Hp)} {ke83 : Hp → Option (Int32 × Hp)} (B : Bx g cX7_behindName 3 RX7 voI (some .int) 9 323 "behindName") {l0 : Nat} (hkb : ∀ (l1 : Int32) (l2 : Int32), Sm g 3 8 [(0, va_rf (some l0)), (1, .int l1), (2, .int l2)] [] (kb l1 l2)) (hke28 : ∀ (l1 : Int32) (l2 : Int32), Sm g 3 28 [(0, va_rf (some l0)), (1, .int l1), (2, .int l2)] [] (ke28 l1 l2)) (hke75 : Sm g 3 75 [] [] (ke75)) (hke83 : Sm g 3 83 [] [] (ke83)) (l1 : Int32) (l2 : Int32) : Sm g 3 8 [(0, va_rf (some l0)), (1, .int l1), (2, .int l2)] [] (C_X7_behindName_B8 l0 kb ke28 ke75 ke83 l1 l2) := by
  unfold C_X7_behindName_B8
  refine s_iload_n B.1.1 2 dX7_behindName_8 rfl rfl ?_
  refine s_rload_n B.1.1 0 dX7_behindName_9 rfl rfl ?_
  refine hp_getR B.1 9 0 rfl (by decide) inX7 (by decide) fk_X7_0 cf_X7_9 dX7_behindName_10 (fun v2 => ?_)
  refine hp_Ln B.1 0 (fun _ => rfl) dX7_behindName_13 (fun v3 => ?_)
  refine s_icmp_ge B.1.1 83 dX7_behindName_14 (by decide) ?_ ?_
  · exact Sm.lvs [] rfl (hke83)
  · refine s_rload_n B.1.1 0 dX7_behindName_17 rfl rfl ?_
    refine hp_getR B.1 9 0 rfl (by decide) inX7 (by decide) fk_X7_0 cf_X7_9 dX7_behindName_18 (fun v4 => ?_)
    refine s_iload_n B.1.1 2 dX7_behindName_21 rfl rfl ?_
    refine hp_Ai B.1 dX7_behindName_22 (fun v5 => ?_)
    refine s_bipush (v := (47)) B.1.1 dX7_behindName_23 (by decide) ?_
    refine s_icmp_ne B.1.1 53 dX7_behindName_25 (by decide) ?_ ?_
    · refine s_rload_n B.1.1 0 dX7_behindName_53 rfl rfl ?_
      refine hp_getR B.1 9 0 rfl (by decide) inX7 (by decide) fk_X7_0 cf_X7_9 dX7_behindName_54 (fun v6 => ?_)
      refine s_iload_n B.1.1 2 dX7_behindName_57 rfl rfl ?_
      refine hp_Ai B.1 dX7_behindName_58 (fun v7 => ?_)
      refine s_bipush (v := (43)) B.1.1 dX7_behindName_59 (by decide) ?_
      refine s_icmp_eq B.1.1 75 dX7_behindName_61 (by decide) ?_ ?_
      · exact Sm.lvs [] rfl (hke75)
      · refine s_rload_n B.1.1 0 dX7_behindName_64 rfl rfl ?_
        refine hp_getR B.1 9 0 rfl (by decide) inX7 (by decide) fk_X7_0 cf_X7_9 dX7_behindName_65 (fun v8 => ?_)
        refine s_iload_n B.1.1 2 dX7_behindName_68 rfl rfl ?_
        refine hp_Ai B.1 dX7_behindName_69 (fun v9 => ?_)
        refine s_bipush (v := (35)) B.1.1 dX7_behindName_70 (by decide) ?_
        refine s_icmp_ne B.1.1 77 dX7_behindName_72 (by decide) ?_ ?_
        · refine s_iinc (v := l2 + 1) (lv' := [(2, .int (l2 + 1)), (0, va_rf (some l0)), (1, .int l1)]) B.1.1 2 dX7_behindName_77 rfl rfl (by decide) rfl ?_
          refine s_goto B.1.1 8 dX7_behindName_80 (by decide) ?_
          exact Sm.lvs [1, 2, 0] rfl (hkb l1 (l2 + 1))
        · exact Sm.lvs [] rfl (hke75)
    · exact Sm.lvs [0, 1, 2] rfl (hke28 l1 l2)
set_option maxRecDepth 10000 in
theorem sc_X7_behindName_L8 {g : Gm Hp Int32} {ke28 : Int32 → Int32 → Hp → Option (Int32 × Hp)} {ke75 : Hp → Option (Int32 × Hp)} {ke83 : Hp → Option (Int32 × Hp)} (B : Bx g cX7_behindName 3 RX7 voI (some .int) 9 323 "behindName") {l0 : Nat} (hke28 : ∀ (l1 : Int32) (l2 : Int32), Sm g 3 28 [(0, va_rf (some l0)), (1, .int l1), (2, .int l2)] [] (ke28 l1 l2)) (hke75 : Sm g 3 75 [] [] (ke75)) (hke83 : Sm g 3 83 [] [] (ke83)) : ∀ (n : Nat) (l1 : Int32) (l2 : Int32), Sm g 3 8 [(0, va_rf (some l0)), (1, .int l1), (2, .int l2)] [] (C_X7_behindName_L8 l0 ke28 ke75 ke83 n l1 l2)
  | 0, _, _ => Sm.fail
  | n + 1, l1, l2 => sc_X7_behindName_B8 B (sc_X7_behindName_L8 B hke28 hke75 hke83 n) hke28 hke75 hke83 l1 l2
def C_X7_behindName (l0 : Nat) : Hp → Option (Int32 × Hp) :=
  sLn 0 fun v10 =>
  C_X7_behindName_L8 l0 (fun l1 l2 => C_X7_behindName_J28 l0 l1 l2) (C_X7_behindName_J75 l0) (C_X7_behindName_J83 l0) fu v10 v10
set_option maxRecDepth 10000 in
theorem mo_C_X7_behindName (l0 : Nat) : Mo (C_X7_behindName l0) := by
  unfold C_X7_behindName
  repeat' (with_reducible first | assumption | exact mo_rt _ | exact mo_zt _ | exact mo_no | apply mo_C_X7_behindName_L8 | apply mo_C_X7_behindName_J28 | apply mo_C_X7_behindName_J75 | apply mo_C_X7_behindName_J83 | refine mo_ite ?_ ?_ | refine mo_hgI (fun _ => ?_) | refine mo_hgR (fun _ => ?_) | refine mo_hCv (fun _ => ?_) (fun _ => ?_) | refine mo_lq (fun _ => ?_) | refine mo_hpI ?_ | refine mo_hpR ?_ | refine mo_hAi (fun _ => ?_) | refine mo_hAr (fun _ => ?_) | refine mo_hWi ?_ | refine mo_hWr ?_ | refine mo_hLn (fun _ => ?_) | refine mo_hgL (fun _ => ?_) | refine mo_hpL ?_ | refine mo_hpZ ?_ | refine mo_bd ?_ (fun _ => ?_) | refine mo_hCi (fun _ => ?_) (fun _ => ?_) | refine mo_hNw (fun _ => ?_) | refine mo_hNa (fun _ => ?_) | refine mo_hCp ?_ | refine mo_hOi ?_ | refine mo_hAl (fun _ => ?_) | refine mo_hWl ?_ | refine mo_gd ?_ | refine mo_sLn (fun _ => ?_) | refine mo_sAt (fun _ => ?_) | refine mo_kLn (fun _ => ?_) | refine mo_kAt (fun _ => ?_))
set_option maxRecDepth 10000 in
theorem mC_X7_behindName {w : Wd} (hw : Wc w) (l0 : Nat) : MH w yX7_behindName cX7_behindName 3 (some .int) 9 323 voI [va_rf (some l0)] (C_X7_behindName l0) := by
  have M0 : ∀ g : Gm Hp Int32, g.1 = w → Bx g cX7_behindName 3 RX7 voI (some .int) 9 323 "behindName" → Sm g 3 0 (lv_args 0 [va_rf (some l0)]) [] (C_X7_behindName l0) := by
    intro g hg B
    subst hg
    unfold C_X7_behindName
    refine W_lva (lv := [(0, va_rf (some l0))]) (by simp [lv_args, va_rf_cat, cat_i, cat_l, cat_r]) ?_
    refine s_ldS B 0 29 (by decide +kernel) dX7_behindName_0 ?_
    refine s_sLn B 0 (by decide) tw_778 (by decide) (Nat.le_of_ble_eq_true rfl) dX7_behindName_2 (fun v10 => ?_)
    refine s_istore_n (i := 1) (lv' := [(1, .int v10), (0, va_rf (some l0))]) B.1.1 dX7_behindName_5 rfl (by decide) rfl ?_
    refine s_iload_n B.1.1 0 dX7_behindName_6 rfl rfl ?_
    refine s_istore_n (i := 2) (lv' := [(2, .int v10), (1, .int v10), (0, va_rf (some l0))]) B.1.1 dX7_behindName_7 rfl (by decide) rfl ?_
    exact Sm.lvs [2, 1, 0] rfl (sc_X7_behindName_L8 B (fun l1 l2 => sc_X7_behindName_J28 B l1 l2) (sc_X7_behindName_J75 B) (sc_X7_behindName_J83 B) fu v10 v10)
  exact MH.of hw ⟨rfl, rfl⟩ (by decide) (by simp [lg_sl, va_rf_cat, cat_i, cat_l, cat_r]) (mo_C_X7_behindName l0) M0
def C_X7_hasLevels_J117 (l0 : Nat) (l1 : Int32) : Hp → Option (Int32 × Hp) :=
  hgR 9 0 (some l0) fun v1 =>
  hLn 0 v1 fun v2 =>
  if v2 ≤ l1 then (
    zt ((0 : Int32))
  ) else (
    zt ((1 : Int32))
  )
set_option maxRecDepth 10000 in
theorem mo_C_X7_hasLevels_J117 (l0 : Nat) (l1 : Int32) : Mo (C_X7_hasLevels_J117 l0 l1) := by
  unfold C_X7_hasLevels_J117
  repeat' (with_reducible first | assumption | exact mo_rt _ | exact mo_zt _ | exact mo_no | refine mo_ite ?_ ?_ | refine mo_hgI (fun _ => ?_) | refine mo_hgR (fun _ => ?_) | refine mo_hCv (fun _ => ?_) (fun _ => ?_) | refine mo_lq (fun _ => ?_) | refine mo_hpI ?_ | refine mo_hpR ?_ | refine mo_hAi (fun _ => ?_) | refine mo_hAr (fun _ => ?_) | refine mo_hWi ?_ | refine mo_hWr ?_ | refine mo_hLn (fun _ => ?_) | refine mo_hgL (fun _ => ?_) | refine mo_hpL ?_ | refine mo_hpZ ?_ | refine mo_bd ?_ (fun _ => ?_) | refine mo_hCi (fun _ => ?_) (fun _ => ?_) | refine mo_hNw (fun _ => ?_) | refine mo_hNa (fun _ => ?_) | refine mo_hCp ?_ | refine mo_hOi ?_ | refine mo_hAl (fun _ => ?_) | refine mo_hWl ?_ | refine mo_gd ?_ | refine mo_sLn (fun _ => ?_) | refine mo_sAt (fun _ => ?_) | refine mo_kLn (fun _ => ?_) | refine mo_kAt (fun _ => ?_))
set_option maxRecDepth 10000 in
theorem sc_X7_hasLevels_J117 {g : Gm Hp Int32} (B : Bx g cX7_hasLevels 5 RX7 voI (some .boolean) 1 21 "hasLevels") {l0 : Nat} (l1 : Int32) : Sm g 5 117 [(0, va_rf (some l0)), (1, .int l1)] [] (C_X7_hasLevels_J117 l0 l1) := by
  unfold C_X7_hasLevels_J117
  refine s_iload_n B.1.1 1 dX7_hasLevels_117 rfl rfl ?_
  refine s_rload_n B.1.1 0 dX7_hasLevels_118 rfl rfl ?_
  refine hp_getR B.1 9 0 rfl (by decide) inX7 (by decide) fk_X7_0 cf_X7_9 dX7_hasLevels_119 (fun v1 => ?_)
  refine hp_Ln B.1 0 (fun _ => rfl) dX7_hasLevels_122 (fun v2 => ?_)
  refine s_icmp_ge B.1.1 130 dX7_hasLevels_123 (by decide) ?_ ?_
  · refine s_iconst (v := 0) B.1.1 dX7_hasLevels_130 (by decide) ?_
    exact s_zret B.1.1 B.2.2.2.2 dX7_hasLevels_131
  · refine s_iconst (v := 1) B.1.1 dX7_hasLevels_126 (by decide) ?_
    refine s_goto B.1.1 131 dX7_hasLevels_127 (by decide) ?_
    exact s_zret B.1.1 B.2.2.2.2 dX7_hasLevels_131
def C_X7_hasLevels_J109 (l0 : Nat) : Hp → Option (Int32 × Hp) :=
  zt ((0 : Int32))
set_option maxRecDepth 10000 in
theorem mo_C_X7_hasLevels_J109 (l0 : Nat) : Mo (C_X7_hasLevels_J109 l0) := by
  unfold C_X7_hasLevels_J109
  repeat' (with_reducible first | assumption | exact mo_rt _ | exact mo_zt _ | exact mo_no | refine mo_ite ?_ ?_ | refine mo_hgI (fun _ => ?_) | refine mo_hgR (fun _ => ?_) | refine mo_hCv (fun _ => ?_) (fun _ => ?_) | refine mo_lq (fun _ => ?_) | refine mo_hpI ?_ | refine mo_hpR ?_ | refine mo_hAi (fun _ => ?_) | refine mo_hAr (fun _ => ?_) | refine mo_hWi ?_ | refine mo_hWr ?_ | refine mo_hLn (fun _ => ?_) | refine mo_hgL (fun _ => ?_) | refine mo_hpL ?_ | refine mo_hpZ ?_ | refine mo_bd ?_ (fun _ => ?_) | refine mo_hCi (fun _ => ?_) (fun _ => ?_) | refine mo_hNw (fun _ => ?_) | refine mo_hNa (fun _ => ?_) | refine mo_hCp ?_ | refine mo_hOi ?_ | refine mo_hAl (fun _ => ?_) | refine mo_hWl ?_ | refine mo_gd ?_ | refine mo_sLn (fun _ => ?_) | refine mo_sAt (fun _ => ?_) | refine mo_kLn (fun _ => ?_) | refine mo_kAt (fun _ => ?_))
set_option maxRecDepth 10000 in
theorem sc_X7_hasLevels_J109 {g : Gm Hp Int32} (B : Bx g cX7_hasLevels 5 RX7 voI (some .boolean) 1 21 "hasLevels") {l0 : Nat} : Sm g 5 109 [] [] (C_X7_hasLevels_J109 l0) := by
  unfold C_X7_hasLevels_J109
  refine s_iconst (v := 0) B.1.1 dX7_hasLevels_109 (by decide) ?_
  exact s_zret B.1.1 B.2.2.2.2 dX7_hasLevels_110
def C_X7_hasLevels_J98 (l0 : Nat) (kb : Int32 → Int32 → Hp → Option (Int32 × Hp)) (ke109 : Hp → Option (Int32 × Hp)) (ke117 : Int32 → Hp → Option (Int32 × Hp)) (l1 : Int32) (l2 : Int32) (l3 : Int32) (s0 : Int32) : Hp → Option (Int32 × Hp) :=
  if l3 = 0 then (
    ke109
  ) else (
    if s0 = 0 then (
      ke109
    ) else (
      kb l1 (l2 + 1)
    )
  )
set_option maxRecDepth 10000 in
theorem mo_C_X7_hasLevels_J98 (l0 : Nat) (kb : Int32 → Int32 → Hp → Option (Int32 × Hp)) (ke109 : Hp → Option (Int32 × Hp)) (ke117 : Int32 → Hp → Option (Int32 × Hp)) (hkb : ∀ (l1 : Int32) (l2 : Int32), Mo (kb l1 l2)) (hke109 : Mo (ke109)) (hke117 : ∀ (l1 : Int32), Mo (ke117 l1)) (l1 : Int32) (l2 : Int32) (l3 : Int32) (s0 : Int32) : Mo (C_X7_hasLevels_J98 l0 kb ke109 ke117 l1 l2 l3 s0) := by
  unfold C_X7_hasLevels_J98
  repeat' (with_reducible first | assumption | exact mo_rt _ | exact mo_zt _ | exact mo_no | apply hkb | apply hke109 | apply hke117 | refine mo_ite ?_ ?_ | refine mo_hgI (fun _ => ?_) | refine mo_hgR (fun _ => ?_) | refine mo_hCv (fun _ => ?_) (fun _ => ?_) | refine mo_lq (fun _ => ?_) | refine mo_hpI ?_ | refine mo_hpR ?_ | refine mo_hAi (fun _ => ?_) | refine mo_hAr (fun _ => ?_) | refine mo_hWi ?_ | refine mo_hWr ?_ | refine mo_hLn (fun _ => ?_) | refine mo_hgL (fun _ => ?_) | refine mo_hpL ?_ | refine mo_hpZ ?_ | refine mo_bd ?_ (fun _ => ?_) | refine mo_hCi (fun _ => ?_) (fun _ => ?_) | refine mo_hNw (fun _ => ?_) | refine mo_hNa (fun _ => ?_) | refine mo_hCp ?_ | refine mo_hOi ?_ | refine mo_hAl (fun _ => ?_) | refine mo_hWl ?_ | refine mo_gd ?_ | refine mo_sLn (fun _ => ?_) | refine mo_sAt (fun _ => ?_) | refine mo_kLn (fun _ => ?_) | refine mo_kAt (fun _ => ?_))
set_option maxRecDepth 10000 in
theorem sc_X7_hasLevels_J98 {g : Gm Hp Int32} {kb : Int32 → Int32 → Hp → Option (Int32 × Hp)} {ke109 : Hp → Option (Int32 × Hp)} {ke117 : Int32 → Hp → Option (Int32 × Hp)} (B : Bx g cX7_hasLevels 5 RX7 voI (some .boolean) 1 21 "hasLevels") {l0 : Nat} (hkb : ∀ (l1 : Int32) (l2 : Int32), Sm g 5 2 [(0, va_rf (some l0)), (1, .int l1), (2, .int l2)] [] (kb l1 l2)) (hke109 : Sm g 5 109 [] [] (ke109)) (hke117 : ∀ (l1 : Int32), Sm g 5 117 [(0, va_rf (some l0)), (1, .int l1)] [] (ke117 l1)) (l1 : Int32) (l2 : Int32) (l3 : Int32) (s0 : Int32) : Sm g 5 98 [(0, va_rf (some l0)), (1, .int l1), (2, .int l2), (3, .int l3)] [.int s0] (C_X7_hasLevels_J98 l0 kb ke109 ke117 l1 l2 l3 s0) := by
  unfold C_X7_hasLevels_J98
  refine s_istore (i := 4) (lv' := [(4, .int s0), (0, va_rf (some l0)), (1, .int l1), (2, .int l2), (3, .int l3)]) B.1.1 dX7_hasLevels_98 (by decide) rfl ?_
  refine s_iload_n B.1.1 4 dX7_hasLevels_100 rfl rfl ?_
  refine s_if_eq B.1.1 109 dX7_hasLevels_101 (by decide) ?_ ?_
  · exact Sm.lvs [] rfl (hke109)
  · refine s_iload B.1.1 0 dX7_hasLevels_104 rfl ?_
    refine s_if_ne B.1.1 111 dX7_hasLevels_106 (by decide) ?_ ?_
    · refine s_iinc (v := l2 + 1) (lv' := [(2, .int (l2 + 1)), (4, .int s0), (0, va_rf (some l0)), (1, .int l1), (3, .int l3)]) B.1.1 3 dX7_hasLevels_111 rfl rfl (by decide) rfl ?_
      refine s_goto B.1.1 2 dX7_hasLevels_114 (by decide) ?_
      exact Sm.lvs [2, 3, 0] rfl (hkb l1 (l2 + 1))
    · exact Sm.lvs [] rfl (hke109)
def C_X7_hasLevels_J97 (l0 : Nat) (kb : Int32 → Int32 → Hp → Option (Int32 × Hp)) (ke109 : Hp → Option (Int32 × Hp)) (ke117 : Int32 → Hp → Option (Int32 × Hp)) (l1 : Int32) (l2 : Int32) (l3 : Int32) : Hp → Option (Int32 × Hp) :=
  C_X7_hasLevels_J98 l0 kb ke109 ke117 l1 l2 l3 (0 : Int32)
set_option maxRecDepth 10000 in
theorem mo_C_X7_hasLevels_J97 (l0 : Nat) (kb : Int32 → Int32 → Hp → Option (Int32 × Hp)) (ke109 : Hp → Option (Int32 × Hp)) (ke117 : Int32 → Hp → Option (Int32 × Hp)) (hkb : ∀ (l1 : Int32) (l2 : Int32), Mo (kb l1 l2)) (hke109 : Mo (ke109)) (hke117 : ∀ (l1 : Int32), Mo (ke117 l1)) (l1 : Int32) (l2 : Int32) (l3 : Int32) : Mo (C_X7_hasLevels_J97 l0 kb ke109 ke117 l1 l2 l3) := by
  unfold C_X7_hasLevels_J97
  repeat' (with_reducible first | assumption | exact mo_rt _ | exact mo_zt _ | exact mo_no | apply mo_C_X7_hasLevels_J98 | apply hkb | apply hke109 | apply hke117 | refine mo_ite ?_ ?_ | refine mo_hgI (fun _ => ?_) | refine mo_hgR (fun _ => ?_) | refine mo_hCv (fun _ => ?_) (fun _ => ?_) | refine mo_lq (fun _ => ?_) | refine mo_hpI ?_ | refine mo_hpR ?_ | refine mo_hAi (fun _ => ?_) | refine mo_hAr (fun _ => ?_) | refine mo_hWi ?_ | refine mo_hWr ?_ | refine mo_hLn (fun _ => ?_) | refine mo_hgL (fun _ => ?_) | refine mo_hpL ?_ | refine mo_hpZ ?_ | refine mo_bd ?_ (fun _ => ?_) | refine mo_hCi (fun _ => ?_) (fun _ => ?_) | refine mo_hNw (fun _ => ?_) | refine mo_hNa (fun _ => ?_) | refine mo_hCp ?_ | refine mo_hOi ?_ | refine mo_hAl (fun _ => ?_) | refine mo_hWl ?_ | refine mo_gd ?_ | refine mo_sLn (fun _ => ?_) | refine mo_sAt (fun _ => ?_) | refine mo_kLn (fun _ => ?_) | refine mo_kAt (fun _ => ?_))
set_option maxRecDepth 10000 in
theorem sc_X7_hasLevels_J97 {g : Gm Hp Int32} {kb : Int32 → Int32 → Hp → Option (Int32 × Hp)} {ke109 : Hp → Option (Int32 × Hp)} {ke117 : Int32 → Hp → Option (Int32 × Hp)} (B : Bx g cX7_hasLevels 5 RX7 voI (some .boolean) 1 21 "hasLevels") {l0 : Nat} (hkb : ∀ (l1 : Int32) (l2 : Int32), Sm g 5 2 [(0, va_rf (some l0)), (1, .int l1), (2, .int l2)] [] (kb l1 l2)) (hke109 : Sm g 5 109 [] [] (ke109)) (hke117 : ∀ (l1 : Int32), Sm g 5 117 [(0, va_rf (some l0)), (1, .int l1)] [] (ke117 l1)) (l1 : Int32) (l2 : Int32) (l3 : Int32) : Sm g 5 97 [(0, va_rf (some l0)), (1, .int l1), (2, .int l2), (3, .int l3)] [] (C_X7_hasLevels_J97 l0 kb ke109 ke117 l1 l2 l3) := by
  unfold C_X7_hasLevels_J97
  refine s_iconst (v := 0) B.1.1 dX7_hasLevels_97 (by decide) ?_
  exact Sm.lvs [0, 1, 2, 3] rfl (sc_X7_hasLevels_J98 B hkb hke109 hke117 l1 l2 l3 (0 : Int32))
def C_X7_hasLevels_J93 (l0 : Nat) (kb : Int32 → Int32 → Hp → Option (Int32 × Hp)) (ke109 : Hp → Option (Int32 × Hp)) (ke117 : Int32 → Hp → Option (Int32 × Hp)) (l1 : Int32) (l2 : Int32) (l3 : Int32) : Hp → Option (Int32 × Hp) :=
  C_X7_hasLevels_J98 l0 kb ke109 ke117 l1 l2 l3 (1 : Int32)
set_option maxRecDepth 10000 in
theorem mo_C_X7_hasLevels_J93 (l0 : Nat) (kb : Int32 → Int32 → Hp → Option (Int32 × Hp)) (ke109 : Hp → Option (Int32 × Hp)) (ke117 : Int32 → Hp → Option (Int32 × Hp)) (hkb : ∀ (l1 : Int32) (l2 : Int32), Mo (kb l1 l2)) (hke109 : Mo (ke109)) (hke117 : ∀ (l1 : Int32), Mo (ke117 l1)) (l1 : Int32) (l2 : Int32) (l3 : Int32) : Mo (C_X7_hasLevels_J93 l0 kb ke109 ke117 l1 l2 l3) := by
  unfold C_X7_hasLevels_J93
  repeat' (with_reducible first | assumption | exact mo_rt _ | exact mo_zt _ | exact mo_no | apply mo_C_X7_hasLevels_J98 | apply hkb | apply hke109 | apply hke117 | refine mo_ite ?_ ?_ | refine mo_hgI (fun _ => ?_) | refine mo_hgR (fun _ => ?_) | refine mo_hCv (fun _ => ?_) (fun _ => ?_) | refine mo_lq (fun _ => ?_) | refine mo_hpI ?_ | refine mo_hpR ?_ | refine mo_hAi (fun _ => ?_) | refine mo_hAr (fun _ => ?_) | refine mo_hWi ?_ | refine mo_hWr ?_ | refine mo_hLn (fun _ => ?_) | refine mo_hgL (fun _ => ?_) | refine mo_hpL ?_ | refine mo_hpZ ?_ | refine mo_bd ?_ (fun _ => ?_) | refine mo_hCi (fun _ => ?_) (fun _ => ?_) | refine mo_hNw (fun _ => ?_) | refine mo_hNa (fun _ => ?_) | refine mo_hCp ?_ | refine mo_hOi ?_ | refine mo_hAl (fun _ => ?_) | refine mo_hWl ?_ | refine mo_gd ?_ | refine mo_sLn (fun _ => ?_) | refine mo_sAt (fun _ => ?_) | refine mo_kLn (fun _ => ?_) | refine mo_kAt (fun _ => ?_))
set_option maxRecDepth 10000 in
theorem sc_X7_hasLevels_J93 {g : Gm Hp Int32} {kb : Int32 → Int32 → Hp → Option (Int32 × Hp)} {ke109 : Hp → Option (Int32 × Hp)} {ke117 : Int32 → Hp → Option (Int32 × Hp)} (B : Bx g cX7_hasLevels 5 RX7 voI (some .boolean) 1 21 "hasLevels") {l0 : Nat} (hkb : ∀ (l1 : Int32) (l2 : Int32), Sm g 5 2 [(0, va_rf (some l0)), (1, .int l1), (2, .int l2)] [] (kb l1 l2)) (hke109 : Sm g 5 109 [] [] (ke109)) (hke117 : ∀ (l1 : Int32), Sm g 5 117 [(0, va_rf (some l0)), (1, .int l1)] [] (ke117 l1)) (l1 : Int32) (l2 : Int32) (l3 : Int32) : Sm g 5 93 [(0, va_rf (some l0)), (1, .int l1), (2, .int l2), (3, .int l3)] [] (C_X7_hasLevels_J93 l0 kb ke109 ke117 l1 l2 l3) := by
  unfold C_X7_hasLevels_J93
  refine s_iconst (v := 1) B.1.1 dX7_hasLevels_93 (by decide) ?_
  refine s_goto B.1.1 98 dX7_hasLevels_94 (by decide) ?_
  exact Sm.lvs [0, 1, 2, 3] rfl (sc_X7_hasLevels_J98 B hkb hke109 hke117 l1 l2 l3 (1 : Int32))
def C_X7_hasLevels_J58 (l0 : Nat) (kb : Int32 → Int32 → Hp → Option (Int32 × Hp)) (ke109 : Hp → Option (Int32 × Hp)) (ke117 : Int32 → Hp → Option (Int32 × Hp)) (l1 : Int32) (l2 : Int32) (s0 : Int32) : Hp → Option (Int32 × Hp) :=
  hgR 9 0 (some l0) fun v3 =>
  hLn 0 v3 fun v4 =>
  if l2 = (v4 - (1 : Int32)) then (
    C_X7_hasLevels_J93 l0 kb ke109 ke117 l1 l2 s0
  ) else (
    hgR 9 0 (some l0) fun v5 =>
    hAi v5 l2 fun v6 =>
    if v6 = (43 : Int32) then (
      hCv 9 (some l0) (fun a => C_X7_at a (l2 + (1 : Int32))) fun r7 =>
      if r7 = (47 : Int32) then (
        C_X7_hasLevels_J93 l0 kb ke109 ke117 l1 l2 s0
      ) else (
        C_X7_hasLevels_J97 l0 kb ke109 ke117 l1 l2 s0
      )
    ) else (
      C_X7_hasLevels_J97 l0 kb ke109 ke117 l1 l2 s0
    )
  )
set_option maxRecDepth 10000 in
theorem mo_C_X7_hasLevels_J58 (l0 : Nat) (kb : Int32 → Int32 → Hp → Option (Int32 × Hp)) (ke109 : Hp → Option (Int32 × Hp)) (ke117 : Int32 → Hp → Option (Int32 × Hp)) (hkb : ∀ (l1 : Int32) (l2 : Int32), Mo (kb l1 l2)) (hke109 : Mo (ke109)) (hke117 : ∀ (l1 : Int32), Mo (ke117 l1)) (l1 : Int32) (l2 : Int32) (s0 : Int32) : Mo (C_X7_hasLevels_J58 l0 kb ke109 ke117 l1 l2 s0) := by
  unfold C_X7_hasLevels_J58
  repeat' (with_reducible first | assumption | exact mo_rt _ | exact mo_zt _ | exact mo_no | apply mo_C_X7_hasLevels_J93 | apply mo_C_X7_at | apply mo_C_X7_hasLevels_J97 | apply hkb | apply hke109 | apply hke117 | refine mo_ite ?_ ?_ | refine mo_hgI (fun _ => ?_) | refine mo_hgR (fun _ => ?_) | refine mo_hCv (fun _ => ?_) (fun _ => ?_) | refine mo_lq (fun _ => ?_) | refine mo_hpI ?_ | refine mo_hpR ?_ | refine mo_hAi (fun _ => ?_) | refine mo_hAr (fun _ => ?_) | refine mo_hWi ?_ | refine mo_hWr ?_ | refine mo_hLn (fun _ => ?_) | refine mo_hgL (fun _ => ?_) | refine mo_hpL ?_ | refine mo_hpZ ?_ | refine mo_bd ?_ (fun _ => ?_) | refine mo_hCi (fun _ => ?_) (fun _ => ?_) | refine mo_hNw (fun _ => ?_) | refine mo_hNa (fun _ => ?_) | refine mo_hCp ?_ | refine mo_hOi ?_ | refine mo_hAl (fun _ => ?_) | refine mo_hWl ?_ | refine mo_gd ?_ | refine mo_sLn (fun _ => ?_) | refine mo_sAt (fun _ => ?_) | refine mo_kLn (fun _ => ?_) | refine mo_kAt (fun _ => ?_))
set_option maxRecDepth 10000 in
theorem sc_X7_hasLevels_J58 {g : Gm Hp Int32} {kb : Int32 → Int32 → Hp → Option (Int32 × Hp)} {ke109 : Hp → Option (Int32 × Hp)} {ke117 : Int32 → Hp → Option (Int32 × Hp)} (B : Bx g cX7_hasLevels 5 RX7 voI (some .boolean) 1 21 "hasLevels") {l0 : Nat} (hkb : ∀ (l1 : Int32) (l2 : Int32), Sm g 5 2 [(0, va_rf (some l0)), (1, .int l1), (2, .int l2)] [] (kb l1 l2)) (hke109 : Sm g 5 109 [] [] (ke109)) (hke117 : ∀ (l1 : Int32), Sm g 5 117 [(0, va_rf (some l0)), (1, .int l1)] [] (ke117 l1)) (l1 : Int32) (l2 : Int32) (s0 : Int32) : Sm g 5 58 [(0, va_rf (some l0)), (1, .int l1), (2, .int l2)] [.int s0] (C_X7_hasLevels_J58 l0 kb ke109 ke117 l1 l2 s0) := by
  unfold C_X7_hasLevels_J58
  refine s_istore_n (i := 3) (lv' := [(3, .int s0), (0, va_rf (some l0)), (1, .int l1), (2, .int l2)]) B.1.1 dX7_hasLevels_58 rfl (by decide) rfl ?_
  refine s_iload_n B.1.1 3 dX7_hasLevels_59 rfl rfl ?_
  refine s_rload_n B.1.1 1 dX7_hasLevels_60 rfl rfl ?_
  refine hp_getR B.1 9 0 rfl (by decide) inX7 (by decide) fk_X7_0 cf_X7_9 dX7_hasLevels_61 (fun v3 => ?_)
  refine hp_Ln B.1 0 (fun _ => rfl) dX7_hasLevels_64 (fun v4 => ?_)
  refine s_iconst (v := 1) B.1.1 dX7_hasLevels_65 (by decide) ?_
  refine s_isub B.1.1 dX7_hasLevels_66 ?_
  refine s_icmp_eq B.1.1 93 dX7_hasLevels_67 (by decide) ?_ ?_
  · exact Sm.lvs [1, 2, 3, 0] rfl (sc_X7_hasLevels_J93 B hkb hke109 hke117 l1 l2 s0)
  · refine s_rload_n B.1.1 1 dX7_hasLevels_70 rfl rfl ?_
    refine hp_getR B.1 9 0 rfl (by decide) inX7 (by decide) fk_X7_0 cf_X7_9 dX7_hasLevels_71 (fun v5 => ?_)
    refine s_iload_n B.1.1 3 dX7_hasLevels_74 rfl rfl ?_
    refine hp_Ai B.1 dX7_hasLevels_75 (fun v6 => ?_)
    refine s_bipush (v := (43)) B.1.1 dX7_hasLevels_76 (by decide) ?_
    refine s_icmp_ne B.1.1 97 dX7_hasLevels_78 (by decide) ?_ ?_
    · exact Sm.lvs [1, 2, 3, 0] rfl (sc_X7_hasLevels_J97 B hkb hke109 hke117 l1 l2 s0)
    · refine s_rload_n B.1.1 1 dX7_hasLevels_81 rfl rfl ?_
      refine s_iload_n B.1.1 3 dX7_hasLevels_82 rfl rfl ?_
      refine s_iconst (v := 1) B.1.1 dX7_hasLevels_83 (by decide) ?_
      refine s_iadd B.1.1 dX7_hasLevels_84 ?_
      refine hp_cvi (As := [.int (l2 + (1 : Int32))]) (st := []) 9 rfl (by decide) B.1 (fun a => mC_X7_at B.2.1 a (l2 + (1 : Int32))) cc_X7_at cl_X7_21 cn_X7_at ce_X7_at ci_X7 cd_X7_at (by decide) rfl (Nat.le_of_ble_eq_true rfl) dX7_hasLevels_85 (fun r7 => ?_)
      refine s_bipush (v := (47)) B.1.1 dX7_hasLevels_88 (by decide) ?_
      refine s_icmp_ne B.1.1 97 dX7_hasLevels_90 (by decide) ?_ ?_
      · exact Sm.lvs [1, 2, 3, 0] rfl (sc_X7_hasLevels_J97 B hkb hke109 hke117 l1 l2 s0)
      · exact Sm.lvs [1, 2, 3, 0] rfl (sc_X7_hasLevels_J93 B hkb hke109 hke117 l1 l2 s0)
def C_X7_hasLevels_J53 (l0 : Nat) (kb : Int32 → Int32 → Hp → Option (Int32 × Hp)) (ke109 : Hp → Option (Int32 × Hp)) (ke117 : Int32 → Hp → Option (Int32 × Hp)) (l1 : Int32) (l2 : Int32) : Hp → Option (Int32 × Hp) :=
  C_X7_hasLevels_J58 l0 kb ke109 ke117 l1 l2 (1 : Int32)
set_option maxRecDepth 10000 in
theorem mo_C_X7_hasLevels_J53 (l0 : Nat) (kb : Int32 → Int32 → Hp → Option (Int32 × Hp)) (ke109 : Hp → Option (Int32 × Hp)) (ke117 : Int32 → Hp → Option (Int32 × Hp)) (hkb : ∀ (l1 : Int32) (l2 : Int32), Mo (kb l1 l2)) (hke109 : Mo (ke109)) (hke117 : ∀ (l1 : Int32), Mo (ke117 l1)) (l1 : Int32) (l2 : Int32) : Mo (C_X7_hasLevels_J53 l0 kb ke109 ke117 l1 l2) := by
  unfold C_X7_hasLevels_J53
  repeat' (with_reducible first | assumption | exact mo_rt _ | exact mo_zt _ | exact mo_no | apply mo_C_X7_hasLevels_J58 | apply hkb | apply hke109 | apply hke117 | refine mo_ite ?_ ?_ | refine mo_hgI (fun _ => ?_) | refine mo_hgR (fun _ => ?_) | refine mo_hCv (fun _ => ?_) (fun _ => ?_) | refine mo_lq (fun _ => ?_) | refine mo_hpI ?_ | refine mo_hpR ?_ | refine mo_hAi (fun _ => ?_) | refine mo_hAr (fun _ => ?_) | refine mo_hWi ?_ | refine mo_hWr ?_ | refine mo_hLn (fun _ => ?_) | refine mo_hgL (fun _ => ?_) | refine mo_hpL ?_ | refine mo_hpZ ?_ | refine mo_bd ?_ (fun _ => ?_) | refine mo_hCi (fun _ => ?_) (fun _ => ?_) | refine mo_hNw (fun _ => ?_) | refine mo_hNa (fun _ => ?_) | refine mo_hCp ?_ | refine mo_hOi ?_ | refine mo_hAl (fun _ => ?_) | refine mo_hWl ?_ | refine mo_gd ?_ | refine mo_sLn (fun _ => ?_) | refine mo_sAt (fun _ => ?_) | refine mo_kLn (fun _ => ?_) | refine mo_kAt (fun _ => ?_))
set_option maxRecDepth 10000 in
theorem sc_X7_hasLevels_J53 {g : Gm Hp Int32} {kb : Int32 → Int32 → Hp → Option (Int32 × Hp)} {ke109 : Hp → Option (Int32 × Hp)} {ke117 : Int32 → Hp → Option (Int32 × Hp)} (B : Bx g cX7_hasLevels 5 RX7 voI (some .boolean) 1 21 "hasLevels") {l0 : Nat} (hkb : ∀ (l1 : Int32) (l2 : Int32), Sm g 5 2 [(0, va_rf (some l0)), (1, .int l1), (2, .int l2)] [] (kb l1 l2)) (hke109 : Sm g 5 109 [] [] (ke109)) (hke117 : ∀ (l1 : Int32), Sm g 5 117 [(0, va_rf (some l0)), (1, .int l1)] [] (ke117 l1)) (l1 : Int32) (l2 : Int32) : Sm g 5 53 [(0, va_rf (some l0)), (1, .int l1), (2, .int l2)] [] (C_X7_hasLevels_J53 l0 kb ke109 ke117 l1 l2) := by
  unfold C_X7_hasLevels_J53
  refine s_iconst (v := 1) B.1.1 dX7_hasLevels_53 (by decide) ?_
  refine s_goto B.1.1 58 dX7_hasLevels_54 (by decide) ?_
  exact Sm.lvs [0, 1, 2] rfl (sc_X7_hasLevels_J58 B hkb hke109 hke117 l1 l2 (1 : Int32))
def C_X7_hasLevels_J36 (l0 : Nat) (kb : Int32 → Int32 → Hp → Option (Int32 × Hp)) (ke109 : Hp → Option (Int32 × Hp)) (ke117 : Int32 → Hp → Option (Int32 × Hp)) (l1 : Int32) (l2 : Int32) : Hp → Option (Int32 × Hp) :=
  if l2 = l1 then (
    C_X7_hasLevels_J53 l0 kb ke109 ke117 l1 l2
  ) else (
    hCv 9 (some l0) (fun a => C_X7_at a (l2 - (1 : Int32))) fun r8 =>
    if r8 = (47 : Int32) then (
      C_X7_hasLevels_J53 l0 kb ke109 ke117 l1 l2
    ) else (
      C_X7_hasLevels_J58 l0 kb ke109 ke117 l1 l2 (0 : Int32)
    )
  )
set_option maxRecDepth 10000 in
theorem mo_C_X7_hasLevels_J36 (l0 : Nat) (kb : Int32 → Int32 → Hp → Option (Int32 × Hp)) (ke109 : Hp → Option (Int32 × Hp)) (ke117 : Int32 → Hp → Option (Int32 × Hp)) (hkb : ∀ (l1 : Int32) (l2 : Int32), Mo (kb l1 l2)) (hke109 : Mo (ke109)) (hke117 : ∀ (l1 : Int32), Mo (ke117 l1)) (l1 : Int32) (l2 : Int32) : Mo (C_X7_hasLevels_J36 l0 kb ke109 ke117 l1 l2) := by
  unfold C_X7_hasLevels_J36
  repeat' (with_reducible first | assumption | exact mo_rt _ | exact mo_zt _ | exact mo_no | apply mo_C_X7_hasLevels_J53 | apply mo_C_X7_at | apply mo_C_X7_hasLevels_J58 | apply hkb | apply hke109 | apply hke117 | refine mo_ite ?_ ?_ | refine mo_hgI (fun _ => ?_) | refine mo_hgR (fun _ => ?_) | refine mo_hCv (fun _ => ?_) (fun _ => ?_) | refine mo_lq (fun _ => ?_) | refine mo_hpI ?_ | refine mo_hpR ?_ | refine mo_hAi (fun _ => ?_) | refine mo_hAr (fun _ => ?_) | refine mo_hWi ?_ | refine mo_hWr ?_ | refine mo_hLn (fun _ => ?_) | refine mo_hgL (fun _ => ?_) | refine mo_hpL ?_ | refine mo_hpZ ?_ | refine mo_bd ?_ (fun _ => ?_) | refine mo_hCi (fun _ => ?_) (fun _ => ?_) | refine mo_hNw (fun _ => ?_) | refine mo_hNa (fun _ => ?_) | refine mo_hCp ?_ | refine mo_hOi ?_ | refine mo_hAl (fun _ => ?_) | refine mo_hWl ?_ | refine mo_gd ?_ | refine mo_sLn (fun _ => ?_) | refine mo_sAt (fun _ => ?_) | refine mo_kLn (fun _ => ?_) | refine mo_kAt (fun _ => ?_))
set_option maxRecDepth 10000 in
theorem sc_X7_hasLevels_J36 {g : Gm Hp Int32} {kb : Int32 → Int32 → Hp → Option (Int32 × Hp)} {ke109 : Hp → Option (Int32 × Hp)} {ke117 : Int32 → Hp → Option (Int32 × Hp)} (B : Bx g cX7_hasLevels 5 RX7 voI (some .boolean) 1 21 "hasLevels") {l0 : Nat} (hkb : ∀ (l1 : Int32) (l2 : Int32), Sm g 5 2 [(0, va_rf (some l0)), (1, .int l1), (2, .int l2)] [] (kb l1 l2)) (hke109 : Sm g 5 109 [] [] (ke109)) (hke117 : ∀ (l1 : Int32), Sm g 5 117 [(0, va_rf (some l0)), (1, .int l1)] [] (ke117 l1)) (l1 : Int32) (l2 : Int32) : Sm g 5 36 [(0, va_rf (some l0)), (1, .int l1), (2, .int l2)] [] (C_X7_hasLevels_J36 l0 kb ke109 ke117 l1 l2) := by
  unfold C_X7_hasLevels_J36
  refine s_iload_n B.1.1 2 dX7_hasLevels_36 rfl rfl ?_
  refine s_iload_n B.1.1 1 dX7_hasLevels_37 rfl rfl ?_
  refine s_icmp_eq B.1.1 53 dX7_hasLevels_38 (by decide) ?_ ?_
  · exact Sm.lvs [0, 1, 2] rfl (sc_X7_hasLevels_J53 B hkb hke109 hke117 l1 l2)
  · refine s_rload_n B.1.1 0 dX7_hasLevels_41 rfl rfl ?_
    refine s_iload_n B.1.1 2 dX7_hasLevels_42 rfl rfl ?_
    refine s_iconst (v := 1) B.1.1 dX7_hasLevels_43 (by decide) ?_
    refine s_isub B.1.1 dX7_hasLevels_44 ?_
    refine hp_cvi (As := [.int (l2 - (1 : Int32))]) (st := []) 9 rfl (by decide) B.1 (fun a => mC_X7_at B.2.1 a (l2 - (1 : Int32))) cc_X7_at cl_X7_21 cn_X7_at ce_X7_at ci_X7 cd_X7_at (by decide) rfl (Nat.le_of_ble_eq_true rfl) dX7_hasLevels_45 (fun r8 => ?_)
    refine s_bipush (v := (47)) B.1.1 dX7_hasLevels_48 (by decide) ?_
    refine s_icmp_ne B.1.1 57 dX7_hasLevels_50 (by decide) ?_ ?_
    · refine s_iconst (v := 0) B.1.1 dX7_hasLevels_57 (by decide) ?_
      exact Sm.lvs [0, 1, 2] rfl (sc_X7_hasLevels_J58 B hkb hke109 hke117 l1 l2 (0 : Int32))
    · exact Sm.lvs [0, 1, 2] rfl (sc_X7_hasLevels_J53 B hkb hke109 hke117 l1 l2)
def C_X7_hasLevels_B2 (l0 : Nat) (kb : Int32 → Int32 → Hp → Option (Int32 × Hp)) (ke109 : Hp → Option (Int32 × Hp)) (ke117 : Int32 → Hp → Option (Int32 × Hp)) (l1 : Int32) (l2 : Int32) : Hp → Option (Int32 × Hp) :=
  hgR 9 0 (some l0) fun v9 =>
  hLn 0 v9 fun v10 =>
  if v10 ≤ l2 then (
    ke117 l1
  ) else (
    hgR 9 0 (some l0) fun v11 =>
    hAi v11 l2 fun v12 =>
    if v12 = (43 : Int32) then (
      C_X7_hasLevels_J36 l0 kb ke109 ke117 l1 l2
    ) else (
      hgR 9 0 (some l0) fun v13 =>
      hAi v13 l2 fun v14 =>
      if v14 = (35 : Int32) then (
        C_X7_hasLevels_J36 l0 kb ke109 ke117 l1 l2
      ) else (
        kb l1 (l2 + 1)
      )
    )
  )
def C_X7_hasLevels_L2 (l0 : Nat) (ke109 : Hp → Option (Int32 × Hp)) (ke117 : Int32 → Hp → Option (Int32 × Hp)) : Nat → Int32 → Int32 → Hp → Option (Int32 × Hp)
  | 0, _, _ => no
  | n + 1, l1, l2 => C_X7_hasLevels_B2 l0 (fun l1 l2 => C_X7_hasLevels_L2 l0 ke109 ke117 n l1 l2) ke109 ke117 l1 l2
set_option maxRecDepth 10000 in
theorem mo_C_X7_hasLevels_B2 (l0 : Nat) (kb : Int32 → Int32 → Hp → Option (Int32 × Hp)) (ke109 : Hp → Option (Int32 × Hp)) (ke117 : Int32 → Hp → Option (Int32 × Hp)) (hkb : ∀ (l1 : Int32) (l2 : Int32), Mo (kb l1 l2)) (hke109 : Mo (ke109)) (hke117 : ∀ (l1 : Int32), Mo (ke117 l1)) (l1 : Int32) (l2 : Int32) : Mo (C_X7_hasLevels_B2 l0 kb ke109 ke117 l1 l2) := by
  unfold C_X7_hasLevels_B2
  repeat' (with_reducible first | assumption | exact mo_rt _ | exact mo_zt _ | exact mo_no | apply mo_C_X7_hasLevels_J36 | apply hkb | apply hke109 | apply hke117 | refine mo_ite ?_ ?_ | refine mo_hgI (fun _ => ?_) | refine mo_hgR (fun _ => ?_) | refine mo_hCv (fun _ => ?_) (fun _ => ?_) | refine mo_lq (fun _ => ?_) | refine mo_hpI ?_ | refine mo_hpR ?_ | refine mo_hAi (fun _ => ?_) | refine mo_hAr (fun _ => ?_) | refine mo_hWi ?_ | refine mo_hWr ?_ | refine mo_hLn (fun _ => ?_) | refine mo_hgL (fun _ => ?_) | refine mo_hpL ?_ | refine mo_hpZ ?_ | refine mo_bd ?_ (fun _ => ?_) | refine mo_hCi (fun _ => ?_) (fun _ => ?_) | refine mo_hNw (fun _ => ?_) | refine mo_hNa (fun _ => ?_) | refine mo_hCp ?_ | refine mo_hOi ?_ | refine mo_hAl (fun _ => ?_) | refine mo_hWl ?_ | refine mo_gd ?_ | refine mo_sLn (fun _ => ?_) | refine mo_sAt (fun _ => ?_) | refine mo_kLn (fun _ => ?_) | refine mo_kAt (fun _ => ?_))
set_option maxRecDepth 10000 in
theorem mo_C_X7_hasLevels_L2 (l0 : Nat) (ke109 : Hp → Option (Int32 × Hp)) (ke117 : Int32 → Hp → Option (Int32 × Hp)) (hke109 : Mo (ke109)) (hke117 : ∀ (l1 : Int32), Mo (ke117 l1)) : ∀ (n : Nat) (l1 : Int32) (l2 : Int32), Mo (C_X7_hasLevels_L2 l0 ke109 ke117 n l1 l2)
  | 0, _, _ => mo_no
  | n + 1, l1, l2 => mo_C_X7_hasLevels_B2 l0 _ ke109 ke117 (mo_C_X7_hasLevels_L2 l0 ke109 ke117 hke109 hke117 n) hke109 hke117 l1 l2
set_option maxRecDepth 10000 in
theorem sc_X7_hasLevels_B2 {g : Gm Hp Int32} {kb : Int32 → Int32 → Hp → Option (Int32 × Hp)} {ke109 : Hp → Option (Int32 × Hp)} {ke117 : Int32 → Hp → Option (Int32 × Hp)} (B : Bx g cX7_hasLevels 5 RX7 voI (some .boolean) 1 21 "hasLevels") {l0 : Nat} (hkb : ∀ (l1 : Int32) (l2 : Int32), Sm g 5 2 [(0, va_rf (some l0)), (1, .int l1), (2, .int l2)] [] (kb l1 l2)) (hke109 : Sm g 5 109 [] [] (ke109)) (hke117 : ∀ (l1 : Int32), Sm g 5 117 [(0, va_rf (some l0)), (1, .int l1)] [] (ke117 l1)) (l1 : Int32) (l2 : Int32) : Sm g 5 2 [(0, va_rf (some l0)), (1, .int l1), (2, .int l2)] [] (C_X7_hasLevels_B2 l0 kb ke109 ke117 l1 l2) := by
  unfold C_X7_hasLevels_B2
  refine s_iload_n B.1.1 2 dX7_hasLevels_2 rfl rfl ?_
  refine s_rload_n B.1.1 0 dX7_hasLevels_3 rfl rfl ?_
  refine hp_getR B.1 9 0 rfl (by decide) inX7 (by decide) fk_X7_0 cf_X7_9 dX7_hasLevels_4 (fun v9 => ?_)
  refine hp_Ln B.1 0 (fun _ => rfl) dX7_hasLevels_7 (fun v10 => ?_)
  refine s_icmp_ge B.1.1 117 dX7_hasLevels_8 (by decide) ?_ ?_
  · exact Sm.lvs [0, 1] rfl (hke117 l1)
  · refine s_rload_n B.1.1 0 dX7_hasLevels_11 rfl rfl ?_
    refine hp_getR B.1 9 0 rfl (by decide) inX7 (by decide) fk_X7_0 cf_X7_9 dX7_hasLevels_12 (fun v11 => ?_)
    refine s_iload_n B.1.1 2 dX7_hasLevels_15 rfl rfl ?_
    refine hp_Ai B.1 dX7_hasLevels_16 (fun v12 => ?_)
    refine s_bipush (v := (43)) B.1.1 dX7_hasLevels_17 (by decide) ?_
    refine s_icmp_eq B.1.1 36 dX7_hasLevels_19 (by decide) ?_ ?_
    · exact Sm.lvs [0, 1, 2] rfl (sc_X7_hasLevels_J36 B hkb hke109 hke117 l1 l2)
    · refine s_rload_n B.1.1 0 dX7_hasLevels_22 rfl rfl ?_
      refine hp_getR B.1 9 0 rfl (by decide) inX7 (by decide) fk_X7_0 cf_X7_9 dX7_hasLevels_23 (fun v13 => ?_)
      refine s_iload_n B.1.1 2 dX7_hasLevels_26 rfl rfl ?_
      refine hp_Ai B.1 dX7_hasLevels_27 (fun v14 => ?_)
      refine s_bipush (v := (35)) B.1.1 dX7_hasLevels_28 (by decide) ?_
      refine s_icmp_eq B.1.1 36 dX7_hasLevels_30 (by decide) ?_ ?_
      · exact Sm.lvs [0, 1, 2] rfl (sc_X7_hasLevels_J36 B hkb hke109 hke117 l1 l2)
      · refine s_goto B.1.1 111 dX7_hasLevels_33 (by decide) ?_
        refine s_iinc (v := l2 + 1) (lv' := [(2, .int (l2 + 1)), (0, va_rf (some l0)), (1, .int l1)]) B.1.1 2 dX7_hasLevels_111 rfl rfl (by decide) rfl ?_
        refine s_goto B.1.1 2 dX7_hasLevels_114 (by decide) ?_
        exact Sm.lvs [1, 2, 0] rfl (hkb l1 (l2 + 1))
set_option maxRecDepth 10000 in
theorem sc_X7_hasLevels_L2 {g : Gm Hp Int32} {ke109 : Hp → Option (Int32 × Hp)} {ke117 : Int32 → Hp → Option (Int32 × Hp)} (B : Bx g cX7_hasLevels 5 RX7 voI (some .boolean) 1 21 "hasLevels") {l0 : Nat} (hke109 : Sm g 5 109 [] [] (ke109)) (hke117 : ∀ (l1 : Int32), Sm g 5 117 [(0, va_rf (some l0)), (1, .int l1)] [] (ke117 l1)) : ∀ (n : Nat) (l1 : Int32) (l2 : Int32), Sm g 5 2 [(0, va_rf (some l0)), (1, .int l1), (2, .int l2)] [] (C_X7_hasLevels_L2 l0 ke109 ke117 n l1 l2)
  | 0, _, _ => Sm.fail
  | n + 1, l1, l2 => sc_X7_hasLevels_B2 B (sc_X7_hasLevels_L2 B hke109 hke117 n) hke109 hke117 l1 l2
def C_X7_hasLevels (l0 : Nat) (l1 : Int32) : Hp → Option (Int32 × Hp) :=
  C_X7_hasLevels_L2 l0 (C_X7_hasLevels_J109 l0) (fun l1 => C_X7_hasLevels_J117 l0 l1) fu l1 l1
set_option maxRecDepth 10000 in
theorem mo_C_X7_hasLevels (l0 : Nat) (l1 : Int32) : Mo (C_X7_hasLevels l0 l1) := by
  unfold C_X7_hasLevels
  repeat' (with_reducible first | assumption | exact mo_rt _ | exact mo_zt _ | exact mo_no | apply mo_C_X7_hasLevels_L2 | apply mo_C_X7_hasLevels_J109 | apply mo_C_X7_hasLevels_J117 | refine mo_ite ?_ ?_ | refine mo_hgI (fun _ => ?_) | refine mo_hgR (fun _ => ?_) | refine mo_hCv (fun _ => ?_) (fun _ => ?_) | refine mo_lq (fun _ => ?_) | refine mo_hpI ?_ | refine mo_hpR ?_ | refine mo_hAi (fun _ => ?_) | refine mo_hAr (fun _ => ?_) | refine mo_hWi ?_ | refine mo_hWr ?_ | refine mo_hLn (fun _ => ?_) | refine mo_hgL (fun _ => ?_) | refine mo_hpL ?_ | refine mo_hpZ ?_ | refine mo_bd ?_ (fun _ => ?_) | refine mo_hCi (fun _ => ?_) (fun _ => ?_) | refine mo_hNw (fun _ => ?_) | refine mo_hNa (fun _ => ?_) | refine mo_hCp ?_ | refine mo_hOi ?_ | refine mo_hAl (fun _ => ?_) | refine mo_hWl ?_ | refine mo_gd ?_ | refine mo_sLn (fun _ => ?_) | refine mo_sAt (fun _ => ?_) | refine mo_kLn (fun _ => ?_) | refine mo_kAt (fun _ => ?_))
set_option maxRecDepth 10000 in
theorem mC_X7_hasLevels {w : Wd} (hw : Wc w) (l0 : Nat) (l1 : Int32) : MH w yX7_hasLevels cX7_hasLevels 5 (some .boolean) 1 21 voI [va_rf (some l0), .int l1] (C_X7_hasLevels l0 l1) := by
  have M0 : ∀ g : Gm Hp Int32, g.1 = w → Bx g cX7_hasLevels 5 RX7 voI (some .boolean) 1 21 "hasLevels" → Sm g 5 0 (lv_args 0 [va_rf (some l0), .int l1]) [] (C_X7_hasLevels l0 l1) := by
    intro g hg B
    subst hg
    unfold C_X7_hasLevels
    refine W_lva (lv := [(0, va_rf (some l0)), (1, .int l1)]) (by simp [lv_args, va_rf_cat, cat_i, cat_l, cat_r]) ?_
    refine s_iload_n B.1.1 1 dX7_hasLevels_0 rfl rfl ?_
    refine s_istore_n (i := 2) (lv' := [(2, .int l1), (0, va_rf (some l0)), (1, .int l1)]) B.1.1 dX7_hasLevels_1 rfl (by decide) rfl ?_
    exact Sm.lvs [1, 2, 0] rfl (sc_X7_hasLevels_L2 B (sc_X7_hasLevels_J109 B) (fun l1 => sc_X7_hasLevels_J117 B l1) fu l1 l1)
  exact MH.of hw ⟨rfl, rfl⟩ (by decide) (by simp [lg_sl, va_rf_cat, cat_i, cat_l, cat_r]) (mo_C_X7_hasLevels l0 l1) M0
def C_X7_filterStart_J29 (l0 : Nat) (l1 : Int32) : Hp → Option (Int32 × Hp) :=
  if l1 = (-1 : Int32) then (
    rt ((-1 : Int32))
  ) else (
    hCv 9 (some l0) (fun a => C_X7_hasLevels a l1) fun r1 =>
    if r1 = 0 then (
      rt ((-1 : Int32))
    ) else (
      rt (l1)
    )
  )
set_option maxRecDepth 10000 in
theorem mo_C_X7_filterStart_J29 (l0 : Nat) (l1 : Int32) : Mo (C_X7_filterStart_J29 l0 l1) := by
  unfold C_X7_filterStart_J29
  repeat' (with_reducible first | assumption | exact mo_rt _ | exact mo_zt _ | exact mo_no | apply mo_C_X7_hasLevels | refine mo_ite ?_ ?_ | refine mo_hgI (fun _ => ?_) | refine mo_hgR (fun _ => ?_) | refine mo_hCv (fun _ => ?_) (fun _ => ?_) | refine mo_lq (fun _ => ?_) | refine mo_hpI ?_ | refine mo_hpR ?_ | refine mo_hAi (fun _ => ?_) | refine mo_hAr (fun _ => ?_) | refine mo_hWi ?_ | refine mo_hWr ?_ | refine mo_hLn (fun _ => ?_) | refine mo_hgL (fun _ => ?_) | refine mo_hpL ?_ | refine mo_hpZ ?_ | refine mo_bd ?_ (fun _ => ?_) | refine mo_hCi (fun _ => ?_) (fun _ => ?_) | refine mo_hNw (fun _ => ?_) | refine mo_hNa (fun _ => ?_) | refine mo_hCp ?_ | refine mo_hOi ?_ | refine mo_hAl (fun _ => ?_) | refine mo_hWl ?_ | refine mo_gd ?_ | refine mo_sLn (fun _ => ?_) | refine mo_sAt (fun _ => ?_) | refine mo_kLn (fun _ => ?_) | refine mo_kAt (fun _ => ?_))
set_option maxRecDepth 10000 in
theorem sc_X7_filterStart_J29 {g : Gm Hp Int32} (B : Bx g cX7_filterStart 2 RX7 voI (some .int) 10 345 "filterStart") {l0 : Nat} (l1 : Int32) : Sm g 2 29 [(0, va_rf (some l0)), (1, .int l1)] [] (C_X7_filterStart_J29 l0 l1) := by
  unfold C_X7_filterStart_J29
  refine s_iload_n B.1.1 1 dX7_filterStart_29 rfl rfl ?_
  refine s_iconst (v := (-1)) B.1.1 dX7_filterStart_30 (by decide) ?_
  refine s_icmp_eq B.1.1 46 dX7_filterStart_31 (by decide) ?_ ?_
  · refine s_iconst (v := (-1)) B.1.1 dX7_filterStart_46 (by decide) ?_
    exact s_iret B.1.1 B.2.2.2.2 dX7_filterStart_47
  · refine s_rload_n B.1.1 0 dX7_filterStart_34 rfl rfl ?_
    refine s_iload_n B.1.1 1 dX7_filterStart_35 rfl rfl ?_
    refine hp_cvi (As := [.int l1]) (st := []) 9 rfl (by decide) B.1 (fun a => mC_X7_hasLevels B.2.1 a l1) cc_X7_hasLevels cl_X7_38 cn_X7_hasLevels ce_X7_hasLevels ci_X7 cd_X7_hasLevels (by decide) rfl (Nat.le_of_ble_eq_true rfl) dX7_filterStart_36 (fun r1 => ?_)
    refine s_if_eq B.1.1 46 dX7_filterStart_39 (by decide) ?_ ?_
    · refine s_iconst (v := (-1)) B.1.1 dX7_filterStart_46 (by decide) ?_
      exact s_iret B.1.1 B.2.2.2.2 dX7_filterStart_47
    · refine s_iload_n B.1.1 1 dX7_filterStart_42 rfl rfl ?_
      refine s_goto B.1.1 47 dX7_filterStart_43 (by decide) ?_
      exact s_iret B.1.1 B.2.2.2.2 dX7_filterStart_47
def C_X7_filterStart (l0 : Nat) : Hp → Option (Int32 × Hp) :=
  hgR 9 0 (some l0) fun v2 =>
  hLn 0 v2 fun v3 =>
  if v3 ≤ (64 : Int32) then (
    hCv 9 (some l0) (fun a => C_X7_begins a (0 : Int32) 0) fun r4 =>
    if r4 = 0 then (
      C_X7_filterStart_J29 l0 (0 : Int32)
    ) else (
      hCv 9 (some l0) (fun a => C_X7_behindName a) fun r5 =>
      C_X7_filterStart_J29 l0 r5
    )
  ) else (
    rt ((-1 : Int32))
  )
set_option maxRecDepth 10000 in
theorem mo_C_X7_filterStart (l0 : Nat) : Mo (C_X7_filterStart l0) := by
  unfold C_X7_filterStart
  repeat' (with_reducible first | assumption | exact mo_rt _ | exact mo_zt _ | exact mo_no | apply mo_C_X7_begins | apply mo_C_X7_filterStart_J29 | apply mo_C_X7_behindName | refine mo_ite ?_ ?_ | refine mo_hgI (fun _ => ?_) | refine mo_hgR (fun _ => ?_) | refine mo_hCv (fun _ => ?_) (fun _ => ?_) | refine mo_lq (fun _ => ?_) | refine mo_hpI ?_ | refine mo_hpR ?_ | refine mo_hAi (fun _ => ?_) | refine mo_hAr (fun _ => ?_) | refine mo_hWi ?_ | refine mo_hWr ?_ | refine mo_hLn (fun _ => ?_) | refine mo_hgL (fun _ => ?_) | refine mo_hpL ?_ | refine mo_hpZ ?_ | refine mo_bd ?_ (fun _ => ?_) | refine mo_hCi (fun _ => ?_) (fun _ => ?_) | refine mo_hNw (fun _ => ?_) | refine mo_hNa (fun _ => ?_) | refine mo_hCp ?_ | refine mo_hOi ?_ | refine mo_hAl (fun _ => ?_) | refine mo_hWl ?_ | refine mo_gd ?_ | refine mo_sLn (fun _ => ?_) | refine mo_sAt (fun _ => ?_) | refine mo_kLn (fun _ => ?_) | refine mo_kAt (fun _ => ?_))
set_option maxRecDepth 10000 in
theorem mC_X7_filterStart {w : Wd} (hw : Wc w) (l0 : Nat) : MH w yX7_filterStart cX7_filterStart 2 (some .int) 10 345 voI [va_rf (some l0)] (C_X7_filterStart l0) := by
  have M0 : ∀ g : Gm Hp Int32, g.1 = w → Bx g cX7_filterStart 2 RX7 voI (some .int) 10 345 "filterStart" → Sm g 2 0 (lv_args 0 [va_rf (some l0)]) [] (C_X7_filterStart l0) := by
    intro g hg B
    subst hg
    unfold C_X7_filterStart
    refine W_lva (lv := [(0, va_rf (some l0))]) (by simp [lv_args, va_rf_cat, cat_i, cat_l, cat_r]) ?_
    refine s_rload_n B.1.1 0 dX7_filterStart_0 rfl rfl ?_
    refine hp_getR B.1 9 0 rfl (by decide) inX7 (by decide) fk_X7_0 cf_X7_9 dX7_filterStart_1 (fun v2 => ?_)
    refine hp_Ln B.1 0 (fun _ => rfl) dX7_filterStart_4 (fun v3 => ?_)
    refine s_bipush (v := (64)) B.1.1 dX7_filterStart_5 (by decide) ?_
    refine s_icmp_le B.1.1 12 dX7_filterStart_7 (by decide) ?_ ?_
    · refine s_iconst (v := 0) B.1.1 dX7_filterStart_12 (by decide) ?_
      refine s_istore_n (i := 1) (lv' := [(1, .int (0 : Int32)), (0, va_rf (some l0))]) B.1.1 dX7_filterStart_13 rfl (by decide) rfl ?_
      refine s_rload_n B.1.1 1 dX7_filterStart_14 rfl rfl ?_
      refine s_iconst (v := 0) B.1.1 dX7_filterStart_15 (by decide) ?_
      refine s_ldS B 0 29 (by decide +kernel) dX7_filterStart_16 ?_
      refine hp_cvi (As := [.int (0 : Int32), .ref (g.1.2.1 (1000 + 0))]) (st := []) 9 rfl (by decide) B.1 (fun a => mC_X7_begins B.2.1 a (0 : Int32) 0 (by decide)) cc_X7_begins cl_X7_31 cn_X7_begins ce_X7_begins ci_X7 cd_X7_begins (by decide) rfl (Nat.le_of_ble_eq_true rfl) dX7_filterStart_18 (fun r4 => ?_)
      refine s_if_eq B.1.1 29 dX7_filterStart_21 (by decide) ?_ ?_
      · exact Sm.lvs [1, 0] rfl (sc_X7_filterStart_J29 B (0 : Int32))
      · refine s_rload_n B.1.1 1 dX7_filterStart_24 rfl rfl ?_
        refine hp_cvi (As := []) (st := []) 9 rfl (by decide) B.1 (fun a => mC_X7_behindName B.2.1 a ) cc_X7_behindName cl_X7_35 cn_X7_behindName ce_X7_behindName ci_X7 cd_X7_behindName (by decide) rfl (Nat.le_of_ble_eq_true rfl) dX7_filterStart_25 (fun r5 => ?_)
        refine s_istore_n (i := 1) (lv' := [(1, .int r5), (0, va_rf (some l0))]) B.1.1 dX7_filterStart_28 rfl (by decide) rfl ?_
        exact Sm.lvs [1, 0] rfl (sc_X7_filterStart_J29 B r5)
    · refine s_iconst (v := (-1)) B.1.1 dX7_filterStart_10 (by decide) ?_
      exact s_iret B.1.1 B.2.2.2.2 dX7_filterStart_11
  exact MH.of hw ⟨rfl, rfl⟩ (by decide) (by simp [lg_sl, va_rf_cat, cat_i, cat_l, cat_r]) (mo_C_X7_filterStart l0) M0
def C_X8_owes_J32 (l0 : Nat) (l1 : Option Nat) (l3 : Int32) (s0 : Int32) : Hp → Option (Int32 × Hp) :=
  if s0 = 0 then (
    rt ((-1 : Int32))
  ) else (
    hCv 9 l1 (fun a => C_X7_filterStart a) fun r1 =>
    if r1 = 0 then (
      if l3 = (-1 : Int32) then (
        hgI 10 4 (some l0) fun v2 =>
        rt (v2)
      ) else (
        rt (l3)
      )
    ) else (
      rt ((-1 : Int32))
    )
  )
set_option maxRecDepth 10000 in
theorem mo_C_X8_owes_J32 (l0 : Nat) (l1 : Option Nat) (l3 : Int32) (s0 : Int32) : Mo (C_X8_owes_J32 l0 l1 l3 s0) := by
  unfold C_X8_owes_J32
  repeat' (with_reducible first | assumption | exact mo_rt _ | exact mo_zt _ | exact mo_no | apply mo_C_X7_filterStart | refine mo_ite ?_ ?_ | refine mo_hgI (fun _ => ?_) | refine mo_hgR (fun _ => ?_) | refine mo_hCv (fun _ => ?_) (fun _ => ?_) | refine mo_lq (fun _ => ?_) | refine mo_hpI ?_ | refine mo_hpR ?_ | refine mo_hAi (fun _ => ?_) | refine mo_hAr (fun _ => ?_) | refine mo_hWi ?_ | refine mo_hWr ?_ | refine mo_hLn (fun _ => ?_) | refine mo_hgL (fun _ => ?_) | refine mo_hpL ?_ | refine mo_hpZ ?_ | refine mo_bd ?_ (fun _ => ?_) | refine mo_hCi (fun _ => ?_) (fun _ => ?_) | refine mo_hNw (fun _ => ?_) | refine mo_hNa (fun _ => ?_) | refine mo_hCp ?_ | refine mo_hOi ?_ | refine mo_hAl (fun _ => ?_) | refine mo_hWl ?_ | refine mo_gd ?_ | refine mo_sLn (fun _ => ?_) | refine mo_sAt (fun _ => ?_) | refine mo_kLn (fun _ => ?_) | refine mo_kAt (fun _ => ?_))
set_option maxRecDepth 10000 in
theorem sc_X8_owes_J32 {g : Gm Hp Int32} (B : Bx g cX8_owes 6 RX8 voI (some .int) 11 366 "owes") {l0 : Nat} (l1 : Option Nat) (l3 : Int32) (s0 : Int32) : Sm g 6 32 [(0, va_rf (some l0)), (1, va_rf l1), (3, .int l3)] [.int s0] (C_X8_owes_J32 l0 l1 l3 s0) := by
  unfold C_X8_owes_J32
  refine s_istore (i := 5) (lv' := [(5, .int s0), (0, va_rf (some l0)), (1, va_rf l1), (3, .int l3)]) B.1.1 dX8_owes_32 (by decide) rfl ?_
  refine s_iload B.1.1 0 dX8_owes_34 rfl ?_
  refine s_if_eq B.1.1 46 dX8_owes_36 (by decide) ?_ ?_
  · refine s_iconst (v := (-1)) B.1.1 dX8_owes_46 (by decide) ?_
    exact s_iret B.1.1 B.2.2.2.2 dX8_owes_47
  · refine s_rload_n B.1.1 2 dX8_owes_39 rfl rfl ?_
    refine hp_cvi (As := []) (st := []) 9 rfl (by decide) B.1 (fun a => mC_X7_filterStart B.2.1 a ) cc_X7_filterStart cl_X8_54 cn_X7_filterStart ce_X7_filterStart ci_X7 cd_X7_filterStart (by decide) rfl (Nat.le_of_ble_eq_true rfl) dX8_owes_40 (fun r1 => ?_)
    refine s_if_eq B.1.1 48 dX8_owes_43 (by decide) ?_ ?_
    · refine s_iload_n B.1.1 3 dX8_owes_48 rfl rfl ?_
      refine s_iconst (v := (-1)) B.1.1 dX8_owes_49 (by decide) ?_
      refine s_icmp_ne B.1.1 60 dX8_owes_50 (by decide) ?_ ?_
      · refine s_iload_n B.1.1 3 dX8_owes_60 rfl rfl ?_
        exact s_iret B.1.1 B.2.2.2.2 dX8_owes_61
      · refine s_rload_n B.1.1 1 dX8_owes_53 rfl rfl ?_
        refine hp_getI B.1 10 4 rfl (by decide) inX8 (by decide) fk_X8_4.1 fk_X8_4.2 cf_X8_38 dX8_owes_54 (fun v2 => ?_)
        refine s_goto B.1.1 61 dX8_owes_57 (by decide) ?_
        exact s_iret B.1.1 B.2.2.2.2 dX8_owes_61
    · refine s_iconst (v := (-1)) B.1.1 dX8_owes_46 (by decide) ?_
      exact s_iret B.1.1 B.2.2.2.2 dX8_owes_47
def C_X8_owes_J31 (l0 : Nat) (l1 : Option Nat) (l3 : Int32) : Hp → Option (Int32 × Hp) :=
  C_X8_owes_J32 l0 l1 l3 (0 : Int32)
set_option maxRecDepth 10000 in
theorem mo_C_X8_owes_J31 (l0 : Nat) (l1 : Option Nat) (l3 : Int32) : Mo (C_X8_owes_J31 l0 l1 l3) := by
  unfold C_X8_owes_J31
  repeat' (with_reducible first | assumption | exact mo_rt _ | exact mo_zt _ | exact mo_no | apply mo_C_X8_owes_J32 | refine mo_ite ?_ ?_ | refine mo_hgI (fun _ => ?_) | refine mo_hgR (fun _ => ?_) | refine mo_hCv (fun _ => ?_) (fun _ => ?_) | refine mo_lq (fun _ => ?_) | refine mo_hpI ?_ | refine mo_hpR ?_ | refine mo_hAi (fun _ => ?_) | refine mo_hAr (fun _ => ?_) | refine mo_hWi ?_ | refine mo_hWr ?_ | refine mo_hLn (fun _ => ?_) | refine mo_hgL (fun _ => ?_) | refine mo_hpL ?_ | refine mo_hpZ ?_ | refine mo_bd ?_ (fun _ => ?_) | refine mo_hCi (fun _ => ?_) (fun _ => ?_) | refine mo_hNw (fun _ => ?_) | refine mo_hNa (fun _ => ?_) | refine mo_hCp ?_ | refine mo_hOi ?_ | refine mo_hAl (fun _ => ?_) | refine mo_hWl ?_ | refine mo_gd ?_ | refine mo_sLn (fun _ => ?_) | refine mo_sAt (fun _ => ?_) | refine mo_kLn (fun _ => ?_) | refine mo_kAt (fun _ => ?_))
set_option maxRecDepth 10000 in
theorem sc_X8_owes_J31 {g : Gm Hp Int32} (B : Bx g cX8_owes 6 RX8 voI (some .int) 11 366 "owes") {l0 : Nat} (l1 : Option Nat) (l3 : Int32) : Sm g 6 31 [(0, va_rf (some l0)), (1, va_rf l1), (3, .int l3)] [] (C_X8_owes_J31 l0 l1 l3) := by
  unfold C_X8_owes_J31
  refine s_iconst (v := 0) B.1.1 dX8_owes_31 (by decide) ?_
  exact Sm.lvs [0, 1, 2] rfl (sc_X8_owes_J32 B l1 l3 (0 : Int32))
def C_X8_owes_J27 (l0 : Nat) (l1 : Option Nat) (l3 : Int32) : Hp → Option (Int32 × Hp) :=
  C_X8_owes_J32 l0 l1 l3 (1 : Int32)
set_option maxRecDepth 10000 in
theorem mo_C_X8_owes_J27 (l0 : Nat) (l1 : Option Nat) (l3 : Int32) : Mo (C_X8_owes_J27 l0 l1 l3) := by
  unfold C_X8_owes_J27
  repeat' (with_reducible first | assumption | exact mo_rt _ | exact mo_zt _ | exact mo_no | apply mo_C_X8_owes_J32 | refine mo_ite ?_ ?_ | refine mo_hgI (fun _ => ?_) | refine mo_hgR (fun _ => ?_) | refine mo_hCv (fun _ => ?_) (fun _ => ?_) | refine mo_lq (fun _ => ?_) | refine mo_hpI ?_ | refine mo_hpR ?_ | refine mo_hAi (fun _ => ?_) | refine mo_hAr (fun _ => ?_) | refine mo_hWi ?_ | refine mo_hWr ?_ | refine mo_hLn (fun _ => ?_) | refine mo_hgL (fun _ => ?_) | refine mo_hpL ?_ | refine mo_hpZ ?_ | refine mo_bd ?_ (fun _ => ?_) | refine mo_hCi (fun _ => ?_) (fun _ => ?_) | refine mo_hNw (fun _ => ?_) | refine mo_hNa (fun _ => ?_) | refine mo_hCp ?_ | refine mo_hOi ?_ | refine mo_hAl (fun _ => ?_) | refine mo_hWl ?_ | refine mo_gd ?_ | refine mo_sLn (fun _ => ?_) | refine mo_sAt (fun _ => ?_) | refine mo_kLn (fun _ => ?_) | refine mo_kAt (fun _ => ?_))
set_option maxRecDepth 10000 in
theorem sc_X8_owes_J27 {g : Gm Hp Int32} (B : Bx g cX8_owes 6 RX8 voI (some .int) 11 366 "owes") {l0 : Nat} (l1 : Option Nat) (l3 : Int32) : Sm g 6 27 [(0, va_rf (some l0)), (1, va_rf l1), (3, .int l3)] [] (C_X8_owes_J27 l0 l1 l3) := by
  unfold C_X8_owes_J27
  refine s_iconst (v := 1) B.1.1 dX8_owes_27 (by decide) ?_
  refine s_goto B.1.1 32 dX8_owes_28 (by decide) ?_
  exact Sm.lvs [0, 1, 2] rfl (sc_X8_owes_J32 B l1 l3 (1 : Int32))
def C_X8_owes (l0 : Nat) (l1 : Option Nat) (l2 : Int32) : Hp → Option (Int32 × Hp) :=
  hCv 10 (some l0) (fun a => C_X8_indexOf a l1) fun r3 =>
  lq (l2 >>> ((4 : Int32) &&& 31)) fun x4 =>
  if x4 = 0 then (
    C_X8_owes_J27 l0 l1 r3
  ) else (
    if x4 = (1 : Int32) then (
      if r3 = (-1 : Int32) then (
        C_X8_owes_J27 l0 l1 r3
      ) else (
        C_X8_owes_J31 l0 l1 r3
      )
    ) else (
      C_X8_owes_J31 l0 l1 r3
    )
  )
set_option maxRecDepth 10000 in
theorem mo_C_X8_owes (l0 : Nat) (l1 : Option Nat) (l2 : Int32) : Mo (C_X8_owes l0 l1 l2) := by
  unfold C_X8_owes
  repeat' (with_reducible first | assumption | exact mo_rt _ | exact mo_zt _ | exact mo_no | apply mo_C_X8_indexOf | apply mo_C_X8_owes_J27 | apply mo_C_X8_owes_J31 | refine mo_ite ?_ ?_ | refine mo_hgI (fun _ => ?_) | refine mo_hgR (fun _ => ?_) | refine mo_hCv (fun _ => ?_) (fun _ => ?_) | refine mo_lq (fun _ => ?_) | refine mo_hpI ?_ | refine mo_hpR ?_ | refine mo_hAi (fun _ => ?_) | refine mo_hAr (fun _ => ?_) | refine mo_hWi ?_ | refine mo_hWr ?_ | refine mo_hLn (fun _ => ?_) | refine mo_hgL (fun _ => ?_) | refine mo_hpL ?_ | refine mo_hpZ ?_ | refine mo_bd ?_ (fun _ => ?_) | refine mo_hCi (fun _ => ?_) (fun _ => ?_) | refine mo_hNw (fun _ => ?_) | refine mo_hNa (fun _ => ?_) | refine mo_hCp ?_ | refine mo_hOi ?_ | refine mo_hAl (fun _ => ?_) | refine mo_hWl ?_ | refine mo_gd ?_ | refine mo_sLn (fun _ => ?_) | refine mo_sAt (fun _ => ?_) | refine mo_kLn (fun _ => ?_) | refine mo_kAt (fun _ => ?_))
set_option maxRecDepth 10000 in
theorem mC_X8_owes {w : Wd} (hw : Wc w) (l0 : Nat) (l1 : Option Nat) (l2 : Int32) : MH w yX8_owes cX8_owes 6 (some .int) 11 366 voI [va_rf (some l0), va_rf l1, .int l2] (C_X8_owes l0 l1 l2) := by
  have M0 : ∀ g : Gm Hp Int32, g.1 = w → Bx g cX8_owes 6 RX8 voI (some .int) 11 366 "owes" → Sm g 6 0 (lv_args 0 [va_rf (some l0), va_rf l1, .int l2]) [] (C_X8_owes l0 l1 l2) := by
    intro g hg B
    subst hg
    unfold C_X8_owes
    refine W_lva (lv := [(0, va_rf (some l0)), (1, va_rf l1), (2, .int l2)]) (by simp [lv_args, va_rf_cat, cat_i, cat_l, cat_r]) ?_
    refine s_rload_n B.1.1 0 dX8_owes_0 rfl rfl ?_
    refine s_rload_n B.1.1 1 dX8_owes_1 rfl rfl ?_
    refine hp_cvi (As := [va_rf l1]) (st := []) 10 rfl (by decide) B.1 (fun a => mC_X8_indexOf B.2.1 a l1) cc_X8_indexOf cl_X8_50 cn_X8_indexOf ce_X8_indexOf ci_X8 cd_X8_indexOf (by decide) rfl (Nat.le_of_ble_eq_true rfl) dX8_owes_2 (fun r3 => ?_)
    refine s_istore_n (i := 3) (lv' := [(3, .int r3), (0, va_rf (some l0)), (1, va_rf l1), (2, .int l2)]) B.1.1 dX8_owes_5 rfl (by decide) rfl ?_
    refine s_iload_n B.1.1 3 dX8_owes_6 rfl rfl ?_
    refine s_iconst (v := 4) B.1.1 dX8_owes_7 (by decide) ?_
    refine s_ishr B.1.1 dX8_owes_8 ?_
    refine s_lqi (fun x4 => ?_)
    refine s_istore (i := 4) (lv' := [(4, .int x4), (3, .int r3), (0, va_rf (some l0)), (1, va_rf l1), (2, .int l2)]) B.1.1 dX8_owes_9 (by decide) rfl ?_
    refine s_iload B.1.1 0 dX8_owes_11 rfl ?_
    refine s_if_eq B.1.1 27 dX8_owes_13 (by decide) ?_ ?_
    · exact Sm.lvs [2, 3, 1] rfl (sc_X8_owes_J27 B l1 r3)
    · refine s_iload B.1.1 0 dX8_owes_16 rfl ?_
      refine s_iconst (v := 1) B.1.1 dX8_owes_18 (by decide) ?_
      refine s_icmp_ne B.1.1 31 dX8_owes_19 (by decide) ?_ ?_
      · exact Sm.lvs [2, 3, 1] rfl (sc_X8_owes_J31 B l1 r3)
      · refine s_iload_n B.1.1 1 dX8_owes_22 rfl rfl ?_
        refine s_iconst (v := (-1)) B.1.1 dX8_owes_23 (by decide) ?_
        refine s_icmp_ne B.1.1 31 dX8_owes_24 (by decide) ?_ ?_
        · exact Sm.lvs [2, 3, 1] rfl (sc_X8_owes_J31 B l1 r3)
        · exact Sm.lvs [2, 3, 1] rfl (sc_X8_owes_J27 B l1 r3)
  exact MH.of hw ⟨rfl, rfl⟩ (by decide) (by simp [lg_sl, va_rf_cat, cat_i, cat_l, cat_r]) (mo_C_X8_owes l0 l1 l2) M0
