def C_X0_init (l0 : Nat) (l1 : Int32) : Hp → Option (Unit × Hp) :=
  hOi (some l0) <|
  hNa 0 (2000 : Int32) fun o1 =>
  hpR 2 3 (some l0) o1 <|
  hNa 0 (405 : Int32) fun o2 =>
  hpR 2 7 (some l0) o2 <|
  hNa 8 (5 : Int32) fun o3 =>
  hpR 2 11 (some l0) o3 <|
  hpI 2 0 (some l0) l1 <|
  rt ()
set_option maxRecDepth 10000 in
theorem mo_C_X0_init (l0 : Nat) (l1 : Int32) : Mo (C_X0_init l0 l1) := by
  unfold C_X0_init
  repeat' (with_reducible first | assumption | exact mo_rt _ | exact mo_zt _ | exact mo_no | refine mo_ite ?_ ?_ | refine mo_hgI (fun _ => ?_) | refine mo_hgR (fun _ => ?_) | refine mo_hCv (fun _ => ?_) (fun _ => ?_) | refine mo_lq (fun _ => ?_) | refine mo_hpI ?_ | refine mo_hpR ?_ | refine mo_hAi (fun _ => ?_) | refine mo_hAr (fun _ => ?_) | refine mo_hWi ?_ | refine mo_hWr ?_ | refine mo_hLn (fun _ => ?_) | refine mo_hgL (fun _ => ?_) | refine mo_hpL ?_ | refine mo_hpZ ?_ | refine mo_bd ?_ (fun _ => ?_) | refine mo_hCi (fun _ => ?_) (fun _ => ?_) | refine mo_hNw (fun _ => ?_) | refine mo_hNa (fun _ => ?_) | refine mo_hCp ?_ | refine mo_hOi ?_ | refine mo_hAl (fun _ => ?_) | refine mo_hWl ?_ | refine mo_gd ?_ | refine mo_sLn (fun _ => ?_) | refine mo_sAt (fun _ => ?_) | refine mo_kLn (fun _ => ?_) | refine mo_kAt (fun _ => ?_))
set_option maxRecDepth 10000 in
theorem mC_X0_init {w : Wd} (hw : Wc w) (l0 : Nat) (l1 : Int32) : MH w yX0_init cX0_init 2 none 1 20 voV [va_rf (some l0), .int l1] (C_X0_init l0 l1) := by
  have M0 : ∀ g : Gm Hp Unit, g.1 = w → Bx g cX0_init 2 RX0 voV none 1 20 "<init>" → Sm g 2 0 (lv_args 0 [va_rf (some l0), .int l1]) [] (C_X0_init l0 l1) := by
    intro g hg B
    subst hg
    unfold C_X0_init
    refine W_lva (lv := [(0, va_rf (some l0)), (1, .int l1)]) (by simp [lv_args, va_rf_cat, cat_i, cat_l, cat_r]) ?_
    refine s_rload_n B.1.1 0 dX0_init_0 rfl rfl ?_
    refine hp_Oi B.1 tw_45 oi_in oi_code (by decide) (Nat.le_of_ble_eq_true rfl) dX0_init_1 ?_
    refine s_rload_n B.1.1 0 dX0_init_4 rfl rfl ?_
    refine s_sipush (v := (2000)) B.1.1 dX0_init_5 (by decide) ?_
    refine hp_Na (atype := .int) B.1 0 rfl (by decide) tw_100 (fun _ => rfl) (fun _ _ => rfl) rfl (by decide) dX0_init_8 (fun o1 => ?_)
    refine hp_putRF B.1 2 3 rfl (by decide) inX0 tyX0 tyX0_ok nmX0 (by decide) fk_X0_3 ft_X0_3 rfA rfl rfl B.2.2.2.1 cf_X0_9 dX0_init_10 ?_
    refine s_rload_n B.1.1 0 dX0_init_13 rfl rfl ?_
    refine s_sipush (v := (405)) B.1.1 dX0_init_14 (by decide) ?_
    refine hp_Na (atype := .int) B.1 0 rfl (by decide) tw_100 (fun _ => rfl) (fun _ _ => rfl) rfl (by decide) dX0_init_17 (fun o2 => ?_)
    refine hp_putRF B.1 2 7 rfl (by decide) inX0 tyX0 tyX0_ok nmX0 (by decide) fk_X0_7 ft_X0_7 rfA rfl rfl B.2.2.2.1 cf_X0_15 dX0_init_19 ?_
    refine s_rload_n B.1.1 0 dX0_init_22 rfl rfl ?_
    refine s_iconst (v := 5) B.1.1 dX0_init_23 (by decide) ?_
    refine hp_Nq B.1 B.2.2.1.1 8 (by decide +kernel) (by decide) (fun _ => rfl) tw_46 dX0_init_24 (fun o3 => ?_)
    refine hp_putRF B.1 2 11 rfl (by decide) inX0 tyX0 tyX0_ok nmX0 (by decide) fk_X0_11 ft_X0_11 rfA rfl rfl B.2.2.2.1 cf_X0_20 dX0_init_27 ?_
    refine s_rload_n B.1.1 0 dX0_init_30 rfl rfl ?_
    refine s_iload_n B.1.1 1 dX0_init_31 rfl rfl ?_
    refine hp_putIF B.1 2 0 rfl (by decide) inX0 tyX0 tyX0_ok nmX0 (by decide) fk_X0_0.1 fk_X0_0.2 ft_X0_0 rfl rfl B.2.2.2.1 cf_X0_24 dX0_init_32 ?_
    exact s_vret B.1.1 B.2.2.2.2 dX0_init_35
  exact MH.of hw ⟨rfl, rfl⟩ (by decide) (by simp [lg_sl, va_rf_cat, cat_i, cat_l, cat_r]) (mo_C_X0_init l0 l1) M0
def C_X10_init (l0 : Nat) : Hp → Option (Unit × Hp) :=
  hOi (some l0) <|
  hNa 0 (600 : Int32) fun o1 =>
  hpR 12 1 (some l0) o1 <|
  rt ()
set_option maxRecDepth 10000 in
theorem mo_C_X10_init (l0 : Nat) : Mo (C_X10_init l0) := by
  unfold C_X10_init
  repeat' (with_reducible first | assumption | exact mo_rt _ | exact mo_zt _ | exact mo_no | refine mo_ite ?_ ?_ | refine mo_hgI (fun _ => ?_) | refine mo_hgR (fun _ => ?_) | refine mo_hCv (fun _ => ?_) (fun _ => ?_) | refine mo_lq (fun _ => ?_) | refine mo_hpI ?_ | refine mo_hpR ?_ | refine mo_hAi (fun _ => ?_) | refine mo_hAr (fun _ => ?_) | refine mo_hWi ?_ | refine mo_hWr ?_ | refine mo_hLn (fun _ => ?_) | refine mo_hgL (fun _ => ?_) | refine mo_hpL ?_ | refine mo_hpZ ?_ | refine mo_bd ?_ (fun _ => ?_) | refine mo_hCi (fun _ => ?_) (fun _ => ?_) | refine mo_hNw (fun _ => ?_) | refine mo_hNa (fun _ => ?_) | refine mo_hCp ?_ | refine mo_hOi ?_ | refine mo_hAl (fun _ => ?_) | refine mo_hWl ?_ | refine mo_gd ?_ | refine mo_sLn (fun _ => ?_) | refine mo_sAt (fun _ => ?_) | refine mo_kLn (fun _ => ?_) | refine mo_kAt (fun _ => ?_))
set_option maxRecDepth 10000 in
theorem mC_X10_init {w : Wd} (hw : Wc w) (l0 : Nat) : MH w yX10_init cX10_init 1 none 1 20 voV [va_rf (some l0)] (C_X10_init l0) := by
  have M0 : ∀ g : Gm Hp Unit, g.1 = w → Bx g cX10_init 1 RX10 voV none 1 20 "<init>" → Sm g 1 0 (lv_args 0 [va_rf (some l0)]) [] (C_X10_init l0) := by
    intro g hg B
    subst hg
    unfold C_X10_init
    refine W_lva (lv := [(0, va_rf (some l0))]) (by simp [lv_args, va_rf_cat, cat_i, cat_l, cat_r]) ?_
    refine s_rload_n B.1.1 0 dX10_init_0 rfl rfl ?_
    refine hp_Oi B.1 tw_197 oi_in oi_code (by decide) (Nat.le_of_ble_eq_true rfl) dX10_init_1 ?_
    refine s_rload_n B.1.1 0 dX10_init_4 rfl rfl ?_
    refine s_sipush (v := (600)) B.1.1 dX10_init_5 (by decide) ?_
    refine hp_Na (atype := .int) B.1 0 rfl (by decide) tw_100 (fun _ => rfl) (fun _ _ => rfl) rfl (by decide) dX10_init_8 (fun o1 => ?_)
    refine hp_putRF B.1 12 1 rfl (by decide) inX10 tyX10 tyX10_ok nmX10 (by decide) fk_X10_1 ft_X10_1 rfA rfl rfl B.2.2.2.1 cf_X10_9 dX10_init_10 ?_
    exact s_vret B.1.1 B.2.2.2.2 dX10_init_13
  exact MH.of hw ⟨rfl, rfl⟩ (by decide) (by simp [lg_sl, va_rf_cat, cat_i, cat_l, cat_r]) (mo_C_X10_init l0) M0
def C_X1_init (l0 : Nat) : Hp → Option (Unit × Hp) :=
  hOi (some l0) <|
  rt ()
set_option maxRecDepth 10000 in
theorem mo_C_X1_init (l0 : Nat) : Mo (C_X1_init l0) := by
  unfold C_X1_init
  repeat' (with_reducible first | assumption | exact mo_rt _ | exact mo_zt _ | exact mo_no | refine mo_ite ?_ ?_ | refine mo_hgI (fun _ => ?_) | refine mo_hgR (fun _ => ?_) | refine mo_hCv (fun _ => ?_) (fun _ => ?_) | refine mo_lq (fun _ => ?_) | refine mo_hpI ?_ | refine mo_hpR ?_ | refine mo_hAi (fun _ => ?_) | refine mo_hAr (fun _ => ?_) | refine mo_hWi ?_ | refine mo_hWr ?_ | refine mo_hLn (fun _ => ?_) | refine mo_hgL (fun _ => ?_) | refine mo_hpL ?_ | refine mo_hpZ ?_ | refine mo_bd ?_ (fun _ => ?_) | refine mo_hCi (fun _ => ?_) (fun _ => ?_) | refine mo_hNw (fun _ => ?_) | refine mo_hNa (fun _ => ?_) | refine mo_hCp ?_ | refine mo_hOi ?_ | refine mo_hAl (fun _ => ?_) | refine mo_hWl ?_ | refine mo_gd ?_ | refine mo_sLn (fun _ => ?_) | refine mo_sAt (fun _ => ?_) | refine mo_kLn (fun _ => ?_) | refine mo_kAt (fun _ => ?_))
set_option maxRecDepth 10000 in
theorem mC_X1_init {w : Wd} (hw : Wc w) (l0 : Nat) : MH w yX1_init cX1_init 1 none 1 20 voV [va_rf (some l0)] (C_X1_init l0) := by
  have M0 : ∀ g : Gm Hp Unit, g.1 = w → Bx g cX1_init 1 RX1 voV none 1 20 "<init>" → Sm g 1 0 (lv_args 0 [va_rf (some l0)]) [] (C_X1_init l0) := by
    intro g hg B
    subst hg
    unfold C_X1_init
    refine W_lva (lv := [(0, va_rf (some l0))]) (by simp [lv_args, va_rf_cat, cat_i, cat_l, cat_r]) ?_
    refine s_rload_n B.1.1 0 dX1_init_0 rfl rfl ?_
    refine hp_Oi B.1 tw_249 oi_in oi_code (by decide) (Nat.le_of_ble_eq_true rfl) dX1_init_1 ?_
    exact s_vret B.1.1 B.2.2.2.2 dX1_init_4
  exact MH.of hw ⟨rfl, rfl⟩ (by decide) (by simp [lg_sl, va_rf_cat, cat_i, cat_l, cat_r]) (mo_C_X1_init l0) M0
def C_X2_init (l0 : Nat) : Hp → Option (Unit × Hp) :=
  hOi (some l0) <|
  rt ()
set_option maxRecDepth 10000 in
theorem mo_C_X2_init (l0 : Nat) : Mo (C_X2_init l0) := by
  unfold C_X2_init
  repeat' (with_reducible first | assumption | exact mo_rt _ | exact mo_zt _ | exact mo_no | refine mo_ite ?_ ?_ | refine mo_hgI (fun _ => ?_) | refine mo_hgR (fun _ => ?_) | refine mo_hCv (fun _ => ?_) (fun _ => ?_) | refine mo_lq (fun _ => ?_) | refine mo_hpI ?_ | refine mo_hpR ?_ | refine mo_hAi (fun _ => ?_) | refine mo_hAr (fun _ => ?_) | refine mo_hWi ?_ | refine mo_hWr ?_ | refine mo_hLn (fun _ => ?_) | refine mo_hgL (fun _ => ?_) | refine mo_hpL ?_ | refine mo_hpZ ?_ | refine mo_bd ?_ (fun _ => ?_) | refine mo_hCi (fun _ => ?_) (fun _ => ?_) | refine mo_hNw (fun _ => ?_) | refine mo_hNa (fun _ => ?_) | refine mo_hCp ?_ | refine mo_hOi ?_ | refine mo_hAl (fun _ => ?_) | refine mo_hWl ?_ | refine mo_gd ?_ | refine mo_sLn (fun _ => ?_) | refine mo_sAt (fun _ => ?_) | refine mo_kLn (fun _ => ?_) | refine mo_kAt (fun _ => ?_))
set_option maxRecDepth 10000 in
theorem mC_X2_init {w : Wd} (hw : Wc w) (l0 : Nat) : MH w yX2_init cX2_init 1 none 1 20 voV [va_rf (some l0)] (C_X2_init l0) := by
  have M0 : ∀ g : Gm Hp Unit, g.1 = w → Bx g cX2_init 1 RX2 voV none 1 20 "<init>" → Sm g 1 0 (lv_args 0 [va_rf (some l0)]) [] (C_X2_init l0) := by
    intro g hg B
    subst hg
    unfold C_X2_init
    refine W_lva (lv := [(0, va_rf (some l0))]) (by simp [lv_args, va_rf_cat, cat_i, cat_l, cat_r]) ?_
    refine s_rload_n B.1.1 0 dX2_init_0 rfl rfl ?_
    refine hp_Oi B.1 tw_216 oi_in oi_code (by decide) (Nat.le_of_ble_eq_true rfl) dX2_init_1 ?_
    exact s_vret B.1.1 B.2.2.2.2 dX2_init_4
  exact MH.of hw ⟨rfl, rfl⟩ (by decide) (by simp [lg_sl, va_rf_cat, cat_i, cat_l, cat_r]) (mo_C_X2_init l0) M0
def C_X4_init (l0 : Nat) : Hp → Option (Unit × Hp) :=
  hOi (some l0) <|
  hNa 3 (40 : Int32) fun o1 =>
  hpR 6 1 (some l0) o1 <|
  hNa 0 (40 : Int32) fun o2 =>
  hpR 6 2 (some l0) o2 <|
  hNa 0 (40 : Int32) fun o3 =>
  hpR 6 3 (some l0) o3 <|
  hNa 0 (400 : Int32) fun o4 =>
  hpR 6 4 (some l0) o4 <|
  hNa 0 (0 : Int32) fun o5 =>
  hpR 6 6 (some l0) o5 <|
  rt ()
set_option maxRecDepth 10000 in
theorem mo_C_X4_init (l0 : Nat) : Mo (C_X4_init l0) := by
  unfold C_X4_init
  repeat' (with_reducible first | assumption | exact mo_rt _ | exact mo_zt _ | exact mo_no | refine mo_ite ?_ ?_ | refine mo_hgI (fun _ => ?_) | refine mo_hgR (fun _ => ?_) | refine mo_hCv (fun _ => ?_) (fun _ => ?_) | refine mo_lq (fun _ => ?_) | refine mo_hpI ?_ | refine mo_hpR ?_ | refine mo_hAi (fun _ => ?_) | refine mo_hAr (fun _ => ?_) | refine mo_hWi ?_ | refine mo_hWr ?_ | refine mo_hLn (fun _ => ?_) | refine mo_hgL (fun _ => ?_) | refine mo_hpL ?_ | refine mo_hpZ ?_ | refine mo_bd ?_ (fun _ => ?_) | refine mo_hCi (fun _ => ?_) (fun _ => ?_) | refine mo_hNw (fun _ => ?_) | refine mo_hNa (fun _ => ?_) | refine mo_hCp ?_ | refine mo_hOi ?_ | refine mo_hAl (fun _ => ?_) | refine mo_hWl ?_ | refine mo_gd ?_ | refine mo_sLn (fun _ => ?_) | refine mo_sAt (fun _ => ?_) | refine mo_kLn (fun _ => ?_) | refine mo_kAt (fun _ => ?_))
set_option maxRecDepth 10000 in
theorem mC_X4_init {w : Wd} (hw : Wc w) (l0 : Nat) : MH w yX4_init cX4_init 1 none 1 20 voV [va_rf (some l0)] (C_X4_init l0) := by
  have M0 : ∀ g : Gm Hp Unit, g.1 = w → Bx g cX4_init 1 RX4 voV none 1 20 "<init>" → Sm g 1 0 (lv_args 0 [va_rf (some l0)]) [] (C_X4_init l0) := by
    intro g hg B
    subst hg
    unfold C_X4_init
    refine W_lva (lv := [(0, va_rf (some l0))]) (by simp [lv_args, va_rf_cat, cat_i, cat_l, cat_r]) ?_
    refine s_rload_n B.1.1 0 dX4_init_0 rfl rfl ?_
    refine hp_Oi B.1 tw_165 oi_in oi_code (by decide) (Nat.le_of_ble_eq_true rfl) dX4_init_1 ?_
    refine s_rload_n B.1.1 0 dX4_init_4 rfl rfl ?_
    refine s_bipush (v := (40)) B.1.1 dX4_init_5 (by decide) ?_
    refine hp_Na (atype := .long) B.1 3 rfl (by decide) tw_191 (fun _ => rfl) (fun _ _ => rfl) rfl (by decide) dX4_init_7 (fun o1 => ?_)
    refine hp_putRF B.1 6 1 rfl (by decide) inX4 tyX4 tyX4_ok nmX4 (by decide) fk_X4_1 ft_X4_1 rfA rfl rfl B.2.2.2.1 cf_X4_9 dX4_init_9 ?_
    refine s_rload_n B.1.1 0 dX4_init_12 rfl rfl ?_
    refine s_bipush (v := (40)) B.1.1 dX4_init_13 (by decide) ?_
    refine hp_Na (atype := .int) B.1 0 rfl (by decide) tw_100 (fun _ => rfl) (fun _ _ => rfl) rfl (by decide) dX4_init_15 (fun o2 => ?_)
    refine hp_putRF B.1 6 2 rfl (by decide) inX4 tyX4 tyX4_ok nmX4 (by decide) fk_X4_2 ft_X4_2 rfA rfl rfl B.2.2.2.1 cf_X4_15 dX4_init_17 ?_
    refine s_rload_n B.1.1 0 dX4_init_20 rfl rfl ?_
    refine s_bipush (v := (40)) B.1.1 dX4_init_21 (by decide) ?_
    refine hp_Na (atype := .int) B.1 0 rfl (by decide) tw_100 (fun _ => rfl) (fun _ _ => rfl) rfl (by decide) dX4_init_23 (fun o3 => ?_)
    refine hp_putRF B.1 6 3 rfl (by decide) inX4 tyX4 tyX4_ok nmX4 (by decide) fk_X4_3 ft_X4_3 rfA rfl rfl B.2.2.2.1 cf_X4_19 dX4_init_25 ?_
    refine s_rload_n B.1.1 0 dX4_init_28 rfl rfl ?_
    refine s_sipush (v := (400)) B.1.1 dX4_init_29 (by decide) ?_
    refine hp_Na (atype := .int) B.1 0 rfl (by decide) tw_100 (fun _ => rfl) (fun _ _ => rfl) rfl (by decide) dX4_init_32 (fun o4 => ?_)
    refine hp_putRF B.1 6 4 rfl (by decide) inX4 tyX4 tyX4_ok nmX4 (by decide) fk_X4_4 ft_X4_4 rfA rfl rfl B.2.2.2.1 cf_X4_22 dX4_init_34 ?_
    refine s_rload_n B.1.1 0 dX4_init_37 rfl rfl ?_
    refine s_iconst (v := 0) B.1.1 dX4_init_38 (by decide) ?_
    refine hp_Na (atype := .int) B.1 0 rfl (by decide) tw_100 (fun _ => rfl) (fun _ _ => rfl) rfl (by decide) dX4_init_39 (fun o5 => ?_)
    refine hp_putR B.1 6 6 rfl (by decide) inX4 tyX4 tyX4_ok nmX4 (by decide) fk_X4_6 ft_X4_6 rfA rfl cf_X4_25 dX4_init_41 ?_
    exact s_vret B.1.1 B.2.2.2.2 dX4_init_44
  exact MH.of hw ⟨rfl, rfl⟩ (by decide) (by simp [lg_sl, va_rf_cat, cat_i, cat_l, cat_r]) (mo_C_X4_init l0) M0
def C_X7_init (l0 : Nat) (l1 : Option Nat) : Hp → Option (Unit × Hp) :=
  hOi (some l0) <|
  hpR 9 0 (some l0) l1 <|
  rt ()
set_option maxRecDepth 10000 in
theorem mo_C_X7_init (l0 : Nat) (l1 : Option Nat) : Mo (C_X7_init l0 l1) := by
  unfold C_X7_init
  repeat' (with_reducible first | assumption | exact mo_rt _ | exact mo_zt _ | exact mo_no | refine mo_ite ?_ ?_ | refine mo_hgI (fun _ => ?_) | refine mo_hgR (fun _ => ?_) | refine mo_hCv (fun _ => ?_) (fun _ => ?_) | refine mo_lq (fun _ => ?_) | refine mo_hpI ?_ | refine mo_hpR ?_ | refine mo_hAi (fun _ => ?_) | refine mo_hAr (fun _ => ?_) | refine mo_hWi ?_ | refine mo_hWr ?_ | refine mo_hLn (fun _ => ?_) | refine mo_hgL (fun _ => ?_) | refine mo_hpL ?_ | refine mo_hpZ ?_ | refine mo_bd ?_ (fun _ => ?_) | refine mo_hCi (fun _ => ?_) (fun _ => ?_) | refine mo_hNw (fun _ => ?_) | refine mo_hNa (fun _ => ?_) | refine mo_hCp ?_ | refine mo_hOi ?_ | refine mo_hAl (fun _ => ?_) | refine mo_hWl ?_ | refine mo_gd ?_ | refine mo_sLn (fun _ => ?_) | refine mo_sAt (fun _ => ?_) | refine mo_kLn (fun _ => ?_) | refine mo_kAt (fun _ => ?_))
set_option maxRecDepth 10000 in
theorem mC_X7_init {w : Wd} (hw : Wc w) (l0 : Nat) (l1 : Option Nat) : MH w yX7_init cX7_init 2 none 1 20 voV [va_rf (some l0), va_rf l1] (C_X7_init l0 l1) := by
  have M0 : ∀ g : Gm Hp Unit, g.1 = w → Bx g cX7_init 2 RX7 voV none 1 20 "<init>" → Sm g 2 0 (lv_args 0 [va_rf (some l0), va_rf l1]) [] (C_X7_init l0 l1) := by
    intro g hg B
    subst hg
    unfold C_X7_init
    refine W_lva (lv := [(0, va_rf (some l0)), (1, va_rf l1)]) (by simp [lv_args, va_rf_cat, cat_i, cat_l, cat_r]) ?_
    refine s_rload_n B.1.1 0 dX7_init_0 rfl rfl ?_
    refine hp_Oi B.1 tw_131 oi_in oi_code (by decide) (Nat.le_of_ble_eq_true rfl) dX7_init_1 ?_
    refine s_rload_n B.1.1 0 dX7_init_4 rfl rfl ?_
    refine s_rload_n B.1.1 1 dX7_init_5 rfl rfl ?_
    refine hp_putRF B.1 9 0 rfl (by decide) inX7 tyX7 tyX7_ok nmX7 (by decide) fk_X7_0 ft_X7_0 rfA rfl rfl B.2.2.2.1 cf_X7_9 dX7_init_6 ?_
    exact s_vret B.1.1 B.2.2.2.2 dX7_init_9
  exact MH.of hw ⟨rfl, rfl⟩ (by decide) (by simp [lg_sl, va_rf_cat, cat_i, cat_l, cat_r]) (mo_C_X7_init l0 l1) M0
def C_X5_init (l0 : Nat) : Hp → Option (Unit × Hp) :=
  hOi (some l0) <|
  hNw 9 1 fun o1 =>
  hNa 0 (0 : Int32) fun o2 =>
  hCi o1 (fun a => C_X7_init a o2) fun r3 =>
  hpR 7 0 (some l0) o1 <|
  hgR 7 0 (some l0) fun v4 =>
  hgR 9 0 v4 fun v5 =>
  hpR 7 1 (some l0) v5 <|
  rt ()
set_option maxRecDepth 10000 in
theorem mo_C_X5_init (l0 : Nat) : Mo (C_X5_init l0) := by
  unfold C_X5_init
  repeat' (with_reducible first | assumption | exact mo_rt _ | exact mo_zt _ | exact mo_no | apply mo_C_X7_init | refine mo_ite ?_ ?_ | refine mo_hgI (fun _ => ?_) | refine mo_hgR (fun _ => ?_) | refine mo_hCv (fun _ => ?_) (fun _ => ?_) | refine mo_lq (fun _ => ?_) | refine mo_hpI ?_ | refine mo_hpR ?_ | refine mo_hAi (fun _ => ?_) | refine mo_hAr (fun _ => ?_) | refine mo_hWi ?_ | refine mo_hWr ?_ | refine mo_hLn (fun _ => ?_) | refine mo_hgL (fun _ => ?_) | refine mo_hpL ?_ | refine mo_hpZ ?_ | refine mo_bd ?_ (fun _ => ?_) | refine mo_hCi (fun _ => ?_) (fun _ => ?_) | refine mo_hNw (fun _ => ?_) | refine mo_hNa (fun _ => ?_) | refine mo_hCp ?_ | refine mo_hOi ?_ | refine mo_hAl (fun _ => ?_) | refine mo_hWl ?_ | refine mo_gd ?_ | refine mo_sLn (fun _ => ?_) | refine mo_sAt (fun _ => ?_) | refine mo_kLn (fun _ => ?_) | refine mo_kAt (fun _ => ?_))
set_option maxRecDepth 10000 in
theorem mC_X5_init {w : Wd} (hw : Wc w) (l0 : Nat) : MH w yX5_init cX5_init 1 none 2 41 voV [va_rf (some l0)] (C_X5_init l0) := by
  have M0 : ∀ g : Gm Hp Unit, g.1 = w → Bx g cX5_init 1 RX5 voV none 2 41 "<init>" → Sm g 1 0 (lv_args 0 [va_rf (some l0)]) [] (C_X5_init l0) := by
    intro g hg B
    subst hg
    unfold C_X5_init
    refine W_lva (lv := [(0, va_rf (some l0))]) (by simp [lv_args, va_rf_cat, cat_i, cat_l, cat_r]) ?_
    refine s_rload_n B.1.1 0 dX5_init_0 rfl rfl ?_
    refine hp_Oi B.1 tw_125 oi_in oi_code (by decide) (Nat.le_of_ble_eq_true rfl) dX5_init_1 ?_
    refine s_rload_n B.1.1 0 dX5_init_4 rfl rfl ?_
    refine hp_Nw B.1 9 rfl (by decide) inX7 tyX7 tyX7_ok dfX7 tw_126 tw_127 tw_5 dX5_init_5 (fun o1 => ?_)
    refine s_dup B.1.1 dX5_init_8 (va_rf_cat _) ?_
    refine s_iconst (v := 0) B.1.1 dX5_init_9 (by decide) ?_
    refine hp_Na (atype := .int) B.1 0 rfl (by decide) tw_100 (fun _ => rfl) (fun _ _ => rfl) rfl (by decide) dX5_init_10 (fun o2 => ?_)
    refine hp_cI (As := [va_rf o2]) (st := [va_rf o1, va_rf (some l0)]) B.1 (fun a => mC_X7_init B.2.1 a o2) cc_X7_init cl_X5_11 cn_X7_init ci_X7 rfl cd_X7_init (by decide) rfl (by simp [va_rf_cat, cat_i, cat_l, cat_r]) dX5_init_12 (fun r3 => ?_)
    refine hp_putRF B.1 7 0 rfl (by decide) inX5 tyX5 tyX5_ok nmX5 (by decide) fk_X5_0 ft_X5_0 rfR rfl rfl B.2.2.2.1 cf_X5_14 dX5_init_15 ?_
    refine s_rload_n B.1.1 0 dX5_init_18 rfl rfl ?_
    refine s_rload_n B.1.1 0 dX5_init_19 rfl rfl ?_
    refine hp_getR B.1 7 0 rfl (by decide) inX5 (by decide) fk_X5_0 cf_X5_14 dX5_init_20 (fun v4 => ?_)
    refine hp_getR B.1 9 0 rfl (by decide) inX7 (by decide) fk_X7_0 cf_X5_20 dX5_init_23 (fun v5 => ?_)
    refine hp_putR B.1 7 1 rfl (by decide) inX5 tyX5 tyX5_ok nmX5 (by decide) fk_X5_1 ft_X5_1 rfA rfl cf_X5_24 dX5_init_26 ?_
    exact s_vret B.1.1 B.2.2.2.2 dX5_init_29
  exact MH.of hw ⟨rfl, rfl⟩ (by decide) (by simp [lg_sl, va_rf_cat, cat_i, cat_l, cat_r]) (mo_C_X5_init l0) M0
def C_X6_init (l0 : Nat) : Hp → Option (Unit × Hp) :=
  hOi (some l0) <|
  hNa 9 (16 : Int32) fun o1 =>
  hpR 8 0 (some l0) o1 <|
  rt ()
set_option maxRecDepth 10000 in
theorem mo_C_X6_init (l0 : Nat) : Mo (C_X6_init l0) := by
  unfold C_X6_init
  repeat' (with_reducible first | assumption | exact mo_rt _ | exact mo_zt _ | exact mo_no | refine mo_ite ?_ ?_ | refine mo_hgI (fun _ => ?_) | refine mo_hgR (fun _ => ?_) | refine mo_hCv (fun _ => ?_) (fun _ => ?_) | refine mo_lq (fun _ => ?_) | refine mo_hpI ?_ | refine mo_hpR ?_ | refine mo_hAi (fun _ => ?_) | refine mo_hAr (fun _ => ?_) | refine mo_hWi ?_ | refine mo_hWr ?_ | refine mo_hLn (fun _ => ?_) | refine mo_hgL (fun _ => ?_) | refine mo_hpL ?_ | refine mo_hpZ ?_ | refine mo_bd ?_ (fun _ => ?_) | refine mo_hCi (fun _ => ?_) (fun _ => ?_) | refine mo_hNw (fun _ => ?_) | refine mo_hNa (fun _ => ?_) | refine mo_hCp ?_ | refine mo_hOi ?_ | refine mo_hAl (fun _ => ?_) | refine mo_hWl ?_ | refine mo_gd ?_ | refine mo_sLn (fun _ => ?_) | refine mo_sAt (fun _ => ?_) | refine mo_kLn (fun _ => ?_) | refine mo_kAt (fun _ => ?_))
set_option maxRecDepth 10000 in
theorem mC_X6_init {w : Wd} (hw : Wc w) (l0 : Nat) : MH w yX6_init cX6_init 1 none 1 20 voV [va_rf (some l0)] (C_X6_init l0) := by
  have M0 : ∀ g : Gm Hp Unit, g.1 = w → Bx g cX6_init 1 RX6 voV none 1 20 "<init>" → Sm g 1 0 (lv_args 0 [va_rf (some l0)]) [] (C_X6_init l0) := by
    intro g hg B
    subst hg
    unfold C_X6_init
    refine W_lva (lv := [(0, va_rf (some l0))]) (by simp [lv_args, va_rf_cat, cat_i, cat_l, cat_r]) ?_
    refine s_rload_n B.1.1 0 dX6_init_0 rfl rfl ?_
    refine hp_Oi B.1 tw_108 oi_in oi_code (by decide) (Nat.le_of_ble_eq_true rfl) dX6_init_1 ?_
    refine s_rload_n B.1.1 0 dX6_init_4 rfl rfl ?_
    refine s_bipush (v := (16)) B.1.1 dX6_init_5 (by decide) ?_
    refine hp_Nq B.1 B.2.2.1.1 9 (by decide +kernel) (by decide) (fun _ => rfl) tw_109 dX6_init_7 (fun o1 => ?_)
    refine hp_putRF B.1 8 0 rfl (by decide) inX6 tyX6 tyX6_ok nmX6 (by decide) fk_X6_0 ft_X6_0 rfA rfl rfl B.2.2.2.1 cf_X6_11 dX6_init_10 ?_
    exact s_vret B.1.1 B.2.2.2.2 dX6_init_13
  exact MH.of hw ⟨rfl, rfl⟩ (by decide) (by simp [lg_sl, va_rf_cat, cat_i, cat_l, cat_r]) (mo_C_X6_init l0) M0
def C_X11_init_J41 (l0 : Nat) : Hp → Option (Unit × Hp) :=
  hNa 5 (12 : Int32) fun o1 =>
  hpR 13 1 (some l0) o1 <|
  hNw 8 2 fun o2 =>
  hCi o2 (fun a => C_X6_init a) fun r3 =>
  hpR 13 2 (some l0) o2 <|
  hNw 7 5 fun o4 =>
  hCi o4 (fun a => C_X5_init a) fun r5 =>
  hpR 13 3 (some l0) o4 <|
  hNw 6 8 fun o6 =>
  hCi o6 (fun a => C_X4_init a) fun r7 =>
  hpR 13 4 (some l0) o6 <|
  hNw 12 3 fun o8 =>
  hCi o8 (fun a => C_X10_init a) fun r9 =>
  hpR 13 5 (some l0) o8 <|
  hNw 4 8 fun o10 =>
  hCi o10 (fun a => C_X2_init a) fun r11 =>
  hpR 13 6 (some l0) o10 <|
  hNw 3 6 fun o12 =>
  hCi o12 (fun a => C_X1_init a) fun r13 =>
  hpR 13 7 (some l0) o12 <|
  hNa 0 (133 : Int32) fun o14 =>
  hpR 13 8 (some l0) o14 <|
  rt ()
set_option maxRecDepth 10000 in
theorem mo_C_X11_init_J41 (l0 : Nat) : Mo (C_X11_init_J41 l0) := by
  unfold C_X11_init_J41
  repeat' (with_reducible first | assumption | exact mo_rt _ | exact mo_zt _ | exact mo_no | apply mo_C_X6_init | apply mo_C_X5_init | apply mo_C_X4_init | apply mo_C_X10_init | apply mo_C_X2_init | apply mo_C_X1_init | refine mo_ite ?_ ?_ | refine mo_hgI (fun _ => ?_) | refine mo_hgR (fun _ => ?_) | refine mo_hCv (fun _ => ?_) (fun _ => ?_) | refine mo_lq (fun _ => ?_) | refine mo_hpI ?_ | refine mo_hpR ?_ | refine mo_hAi (fun _ => ?_) | refine mo_hAr (fun _ => ?_) | refine mo_hWi ?_ | refine mo_hWr ?_ | refine mo_hLn (fun _ => ?_) | refine mo_hgL (fun _ => ?_) | refine mo_hpL ?_ | refine mo_hpZ ?_ | refine mo_bd ?_ (fun _ => ?_) | refine mo_hCi (fun _ => ?_) (fun _ => ?_) | refine mo_hNw (fun _ => ?_) | refine mo_hNa (fun _ => ?_) | refine mo_hCp ?_ | refine mo_hOi ?_ | refine mo_hAl (fun _ => ?_) | refine mo_hWl ?_ | refine mo_gd ?_ | refine mo_sLn (fun _ => ?_) | refine mo_sAt (fun _ => ?_) | refine mo_kLn (fun _ => ?_) | refine mo_kAt (fun _ => ?_))
set_option maxRecDepth 10000 in
theorem sc_X11_init_J41 {g : Gm Hp Unit} (B : Bx g cX11_init 2 RX11 voV none 3 61 "<init>") {l0 : Nat} : Sm g 2 41 [(0, va_rf (some l0))] [] (C_X11_init_J41 l0) := by
  unfold C_X11_init_J41
  refine s_rload_n B.1.1 0 dX11_init_41 rfl rfl ?_
  refine s_bipush (v := (12)) B.1.1 dX11_init_42 (by decide) ?_
  refine hp_Nq B.1 B.2.2.1.1 5 (by decide +kernel) (by decide) (fun _ => rfl) tw_101 dX11_init_44 (fun o1 => ?_)
  refine hp_putRF B.1 13 1 rfl (by decide) inX11 tyX11 tyX11_ok nmX11 (by decide) fk_X11_1 ft_X11_1 rfA rfl rfl B.2.2.2.1 cf_X11_20 dX11_init_47 ?_
  refine s_rload_n B.1.1 0 dX11_init_50 rfl rfl ?_
  refine hp_Nw B.1 8 rfl (by decide) inX6 tyX6 tyX6_ok dfX6 tw_103 tw_104 tw_3 dX11_init_51 (fun o2 => ?_)
  refine s_dup B.1.1 dX11_init_54 (va_rf_cat _) ?_
  refine hp_cIN (As := []) (st := [va_rf o2, va_rf (some l0)]) B.1 (fun a => mC_X6_init B.2.1 a ) cc_X6_init (B.2.2.1.1 _ (by decide +kernel : Cond.methodLinkNest RX11 26 yX6_init "TopicBroker" ∈ nwl)) cn_X6_init ci_X6 rfl cd_X6_init (by decide) rfl (by simp [va_rf_cat, cat_i, cat_l, cat_r]) dX11_init_55 (fun r3 => ?_)
  refine hp_putRF B.1 13 2 rfl (by decide) inX11 tyX11 tyX11_ok nmX11 (by decide) fk_X11_2 ft_X11_2 rfR rfl rfl B.2.2.2.1 cf_X11_27 dX11_init_58 ?_
  refine s_rload_n B.1.1 0 dX11_init_61 rfl rfl ?_
  refine hp_Nw B.1 7 rfl (by decide) inX5 tyX5 tyX5_ok dfX5 tw_120 tw_121 tw_4 dX11_init_62 (fun o4 => ?_)
  refine s_dup B.1.1 dX11_init_65 (va_rf_cat _) ?_
  refine hp_cIN (As := []) (st := [va_rf o4, va_rf (some l0)]) B.1 (fun a => mC_X5_init B.2.1 a ) cc_X5_init (B.2.2.1.1 _ (by decide +kernel : Cond.methodLinkNest RX11 33 yX5_init "TopicBroker" ∈ nwl)) cn_X5_init ci_X5 rfl cd_X5_init (by decide) rfl (by simp [va_rf_cat, cat_i, cat_l, cat_r]) dX11_init_66 (fun r5 => ?_)
  refine hp_putRF B.1 13 3 rfl (by decide) inX11 tyX11 tyX11_ok nmX11 (by decide) fk_X11_3 ft_X11_3 rfR rfl rfl B.2.2.2.1 cf_X11_34 dX11_init_69 ?_
  refine s_rload_n B.1.1 0 dX11_init_72 rfl rfl ?_
  refine hp_Nw B.1 6 rfl (by decide) inX4 tyX4 tyX4_ok dfX4 tw_160 tw_161 tw_6 dX11_init_73 (fun o6 => ?_)
  refine s_dup B.1.1 dX11_init_76 (va_rf_cat _) ?_
  refine hp_cIN (As := []) (st := [va_rf o6, va_rf (some l0)]) B.1 (fun a => mC_X4_init B.2.1 a ) cc_X4_init (B.2.2.1.1 _ (by decide +kernel : Cond.methodLinkNest RX11 40 yX4_init "TopicBroker" ∈ nwl)) cn_X4_init ci_X4 rfl cd_X4_init (by decide) rfl (by simp [va_rf_cat, cat_i, cat_l, cat_r]) dX11_init_77 (fun r7 => ?_)
  refine hp_putRF B.1 13 4 rfl (by decide) inX11 tyX11 tyX11_ok nmX11 (by decide) fk_X11_4 ft_X11_4 rfR rfl rfl B.2.2.2.1 cf_X11_41 dX11_init_80 ?_
  refine s_rload_n B.1.1 0 dX11_init_83 rfl rfl ?_
  refine hp_Nw B.1 12 rfl (by decide) inX10 tyX10 tyX10_ok dfX10 tw_192 tw_193 tw_7 dX11_init_84 (fun o8 => ?_)
  refine s_dup B.1.1 dX11_init_87 (va_rf_cat _) ?_
  refine hp_cIN (As := []) (st := [va_rf o8, va_rf (some l0)]) B.1 (fun a => mC_X10_init B.2.1 a ) cc_X10_init (B.2.2.1.1 _ (by decide +kernel : Cond.methodLinkNest RX11 47 yX10_init "TopicBroker" ∈ nwl)) cn_X10_init ci_X10 rfl cd_X10_init (by decide) rfl (by simp [va_rf_cat, cat_i, cat_l, cat_r]) dX11_init_88 (fun r9 => ?_)
  refine hp_putRF B.1 13 5 rfl (by decide) inX11 tyX11 tyX11_ok nmX11 (by decide) fk_X11_5 ft_X11_5 rfR rfl rfl B.2.2.2.1 cf_X11_48 dX11_init_91 ?_
  refine s_rload_n B.1.1 0 dX11_init_94 rfl rfl ?_
  refine hp_Nw B.1 4 rfl (by decide) inX2 tyX2 tyX2_ok dfX2 tw_211 tw_212 tw_8 dX11_init_95 (fun o10 => ?_)
  refine s_dup B.1.1 dX11_init_98 (va_rf_cat _) ?_
  refine hp_cIN (As := []) (st := [va_rf o10, va_rf (some l0)]) B.1 (fun a => mC_X2_init B.2.1 a ) cc_X2_init (B.2.2.1.1 _ (by decide +kernel : Cond.methodLinkNest RX11 54 yX2_init "TopicBroker" ∈ nwl)) cn_X2_init ci_X2 rfl cd_X2_init (by decide) rfl (by simp [va_rf_cat, cat_i, cat_l, cat_r]) dX11_init_99 (fun r11 => ?_)
  refine hp_putRF B.1 13 6 rfl (by decide) inX11 tyX11 tyX11_ok nmX11 (by decide) fk_X11_6 ft_X11_6 rfR rfl rfl B.2.2.2.1 cf_X11_55 dX11_init_102 ?_
  refine s_rload_n B.1.1 0 dX11_init_105 rfl rfl ?_
  refine hp_Nw B.1 3 rfl (by decide) inX1 tyX1 tyX1_ok dfX1 tw_244 tw_245 tw_9 dX11_init_106 (fun o12 => ?_)
  refine s_dup B.1.1 dX11_init_109 (va_rf_cat _) ?_
  refine hp_cIN (As := []) (st := [va_rf o12, va_rf (some l0)]) B.1 (fun a => mC_X1_init B.2.1 a ) cc_X1_init (B.2.2.1.1 _ (by decide +kernel : Cond.methodLinkNest RX11 61 yX1_init "TopicBroker" ∈ nwl)) cn_X1_init ci_X1 rfl cd_X1_init (by decide) rfl (by simp [va_rf_cat, cat_i, cat_l, cat_r]) dX11_init_110 (fun r13 => ?_)
  refine hp_putRF B.1 13 7 rfl (by decide) inX11 tyX11 tyX11_ok nmX11 (by decide) fk_X11_7 ft_X11_7 rfR rfl rfl B.2.2.2.1 cf_X11_62 dX11_init_113 ?_
  refine s_rload_n B.1.1 0 dX11_init_116 rfl rfl ?_
  refine s_sipush (v := (133)) B.1.1 dX11_init_117 (by decide) ?_
  refine hp_Na (atype := .int) B.1 0 rfl (by decide) tw_100 (fun _ => rfl) (fun _ _ => rfl) rfl (by decide) dX11_init_120 (fun o14 => ?_)
  refine hp_putRF B.1 13 8 rfl (by decide) inX11 tyX11 tyX11_ok nmX11 (by decide) fk_X11_8 ft_X11_8 rfA rfl rfl B.2.2.2.1 cf_X11_66 dX11_init_122 ?_
  exact s_vret B.1.1 B.2.2.2.2 dX11_init_125
def C_X11_init_B15 (l0 : Nat) (kb : Int32 → Hp → Option (Unit × Hp)) (ke41 : Hp → Option (Unit × Hp)) (l1 : Int32) : Hp → Option (Unit × Hp) :=
  if (8 : Int32) ≤ l1 then (
    ke41
  ) else (
    hgR 13 0 (some l0) fun v15 =>
    hNw 2 13 fun o16 =>
    hCi o16 (fun a => C_X0_init a l1) fun r17 =>
    hWr 4 2 v15 l1 o16 <|
    kb (l1 + 1)
  )
def C_X11_init_L15 (l0 : Nat) (ke41 : Hp → Option (Unit × Hp)) : Nat → Int32 → Hp → Option (Unit × Hp)
  | 0, _ => no
  | n + 1, l1 => C_X11_init_B15 l0 (fun l1 => C_X11_init_L15 l0 ke41 n l1) ke41 l1
set_option maxRecDepth 10000 in
theorem mo_C_X11_init_B15 (l0 : Nat) (kb : Int32 → Hp → Option (Unit × Hp)) (ke41 : Hp → Option (Unit × Hp)) (hkb : ∀ (l1 : Int32), Mo (kb l1)) (hke41 : Mo (ke41)) (l1 : Int32) : Mo (C_X11_init_B15 l0 kb ke41 l1) := by
  unfold C_X11_init_B15
  repeat' (with_reducible first | assumption | exact mo_rt _ | exact mo_zt _ | exact mo_no | apply mo_C_X0_init | apply hkb | apply hke41 | refine mo_ite ?_ ?_ | refine mo_hgI (fun _ => ?_) | refine mo_hgR (fun _ => ?_) | refine mo_hCv (fun _ => ?_) (fun _ => ?_) | refine mo_lq (fun _ => ?_) | refine mo_hpI ?_ | refine mo_hpR ?_ | refine mo_hAi (fun _ => ?_) | refine mo_hAr (fun _ => ?_) | refine mo_hWi ?_ | refine mo_hWr ?_ | refine mo_hLn (fun _ => ?_) | refine mo_hgL (fun _ => ?_) | refine mo_hpL ?_ | refine mo_hpZ ?_ | refine mo_bd ?_ (fun _ => ?_) | refine mo_hCi (fun _ => ?_) (fun _ => ?_) | refine mo_hNw (fun _ => ?_) | refine mo_hNa (fun _ => ?_) | refine mo_hCp ?_ | refine mo_hOi ?_ | refine mo_hAl (fun _ => ?_) | refine mo_hWl ?_ | refine mo_gd ?_ | refine mo_sLn (fun _ => ?_) | refine mo_sAt (fun _ => ?_) | refine mo_kLn (fun _ => ?_) | refine mo_kAt (fun _ => ?_))
set_option maxRecDepth 10000 in
theorem mo_C_X11_init_L15 (l0 : Nat) (ke41 : Hp → Option (Unit × Hp)) (hke41 : Mo (ke41)) : ∀ (n : Nat) (l1 : Int32), Mo (C_X11_init_L15 l0 ke41 n l1)
  | 0, _ => mo_no
  | n + 1, l1 => mo_C_X11_init_B15 l0 _ ke41 (mo_C_X11_init_L15 l0 ke41 hke41 n) hke41 l1
set_option maxRecDepth 10000 in
theorem sc_X11_init_B15 {g : Gm Hp Unit} {kb : Int32 → Hp → Option (Unit × Hp)} {ke41 : Hp → Option (Unit × Hp)} (B : Bx g cX11_init 2 RX11 voV none 3 61 "<init>") {l0 : Nat} (hkb : ∀ (l1 : Int32), Sm g 2 15 [(0, va_rf (some l0)), (1, .int l1)] [] (kb l1)) (hke41 : Sm g 2 41 [(0, va_rf (some l0))] [] (ke41)) (l1 : Int32) : Sm g 2 15 [(0, va_rf (some l0)), (1, .int l1)] [] (C_X11_init_B15 l0 kb ke41 l1) := by
  unfold C_X11_init_B15
  refine s_iload_n B.1.1 1 dX11_init_15 rfl rfl ?_
  refine s_bipush (v := (8)) B.1.1 dX11_init_16 (by decide) ?_
  refine s_icmp_ge B.1.1 41 dX11_init_18 (by decide) ?_ ?_
  · exact Sm.lvs [0] rfl (hke41)
  · refine s_rload_n B.1.1 0 dX11_init_21 rfl rfl ?_
    refine hp_getR B.1 13 0 rfl (by decide) inX11 (by decide) fk_X11_0 cf_X11_11 dX11_init_22 (fun v15 => ?_)
    refine s_iload_n B.1.1 1 dX11_init_25 rfl rfl ?_
    refine hp_Nw B.1 2 rfl (by decide) inX0 tyX0 tyX0_ok dfX0 tw_39 tw_41 tw_2 dX11_init_26 (fun o16 => ?_)
    refine s_dup B.1.1 dX11_init_29 (va_rf_cat _) ?_
    refine s_iload_n B.1.1 1 dX11_init_30 rfl rfl ?_
    refine hp_cI (As := [.int l1]) (st := [va_rf o16, .int l1, va_rf v15]) B.1 (fun a => mC_X0_init B.2.1 a l1) cc_X0_init cl_X11_15 cn_X0_init ci_X0 rfl cd_X0_init (by decide) rfl (by simp [va_rf_cat, cat_i, cat_l, cat_r]) dX11_init_31 (fun r17 => ?_)
    refine hp_Wr B.1 4 2 (by decide) (fun _ => rfl) rfl (by decide) dX11_init_34 ?_
    refine s_iinc (v := l1 + 1) (lv' := [(1, .int (l1 + 1)), (0, va_rf (some l0))]) B.1.1 1 dX11_init_35 rfl rfl (by decide) rfl ?_
    refine s_goto B.1.1 15 dX11_init_38 (by decide) ?_
    exact Sm.lvs [1, 0] rfl (hkb (l1 + 1))
set_option maxRecDepth 10000 in
theorem sc_X11_init_L15 {g : Gm Hp Unit} {ke41 : Hp → Option (Unit × Hp)} (B : Bx g cX11_init 2 RX11 voV none 3 61 "<init>") {l0 : Nat} (hke41 : Sm g 2 41 [(0, va_rf (some l0))] [] (ke41)) : ∀ (n : Nat) (l1 : Int32), Sm g 2 15 [(0, va_rf (some l0)), (1, .int l1)] [] (C_X11_init_L15 l0 ke41 n l1)
  | 0, _ => Sm.fail
  | n + 1, l1 => sc_X11_init_B15 B (sc_X11_init_L15 B hke41 n) hke41 l1
def C_X11_init (l0 : Nat) : Hp → Option (Unit × Hp) :=
  hOi (some l0) <|
  hNa 4 (8 : Int32) fun o18 =>
  hpR 13 0 (some l0) o18 <|
  C_X11_init_L15 l0 (C_X11_init_J41 l0) fu (0 : Int32)
set_option maxRecDepth 10000 in
theorem mo_C_X11_init (l0 : Nat) : Mo (C_X11_init l0) := by
  unfold C_X11_init
  repeat' (with_reducible first | assumption | exact mo_rt _ | exact mo_zt _ | exact mo_no | apply mo_C_X11_init_L15 | apply mo_C_X11_init_J41 | refine mo_ite ?_ ?_ | refine mo_hgI (fun _ => ?_) | refine mo_hgR (fun _ => ?_) | refine mo_hCv (fun _ => ?_) (fun _ => ?_) | refine mo_lq (fun _ => ?_) | refine mo_hpI ?_ | refine mo_hpR ?_ | refine mo_hAi (fun _ => ?_) | refine mo_hAr (fun _ => ?_) | refine mo_hWi ?_ | refine mo_hWr ?_ | refine mo_hLn (fun _ => ?_) | refine mo_hgL (fun _ => ?_) | refine mo_hpL ?_ | refine mo_hpZ ?_ | refine mo_bd ?_ (fun _ => ?_) | refine mo_hCi (fun _ => ?_) (fun _ => ?_) | refine mo_hNw (fun _ => ?_) | refine mo_hNa (fun _ => ?_) | refine mo_hCp ?_ | refine mo_hOi ?_ | refine mo_hAl (fun _ => ?_) | refine mo_hWl ?_ | refine mo_gd ?_ | refine mo_sLn (fun _ => ?_) | refine mo_sAt (fun _ => ?_) | refine mo_kLn (fun _ => ?_) | refine mo_kAt (fun _ => ?_))
set_option maxRecDepth 10000 in
theorem mC_X11_init {w : Wd} (hw : Wc w) (l0 : Nat) : MH w yX11_init cX11_init 2 none 3 61 voV [va_rf (some l0)] (C_X11_init l0) := by
  have M0 : ∀ g : Gm Hp Unit, g.1 = w → Bx g cX11_init 2 RX11 voV none 3 61 "<init>" → Sm g 2 0 (lv_args 0 [va_rf (some l0)]) [] (C_X11_init l0) := by
    intro g hg B
    subst hg
    unfold C_X11_init
    refine W_lva (lv := [(0, va_rf (some l0))]) (by simp [lv_args, va_rf_cat, cat_i, cat_l, cat_r]) ?_
    refine s_rload_n B.1.1 0 dX11_init_0 rfl rfl ?_
    refine hp_Oi B.1 tw_36 oi_in oi_code (by decide) (Nat.le_of_ble_eq_true rfl) dX11_init_1 ?_
    refine s_rload_n B.1.1 0 dX11_init_4 rfl rfl ?_
    refine s_bipush (v := (8)) B.1.1 dX11_init_5 (by decide) ?_
    refine hp_Nq B.1 B.2.2.1.1 4 (by decide +kernel) (by decide) (fun _ => rfl) tw_39 dX11_init_7 (fun o18 => ?_)
    refine hp_putRF B.1 13 0 rfl (by decide) inX11 tyX11 tyX11_ok nmX11 (by decide) fk_X11_0 ft_X11_0 rfA rfl rfl B.2.2.2.1 cf_X11_11 dX11_init_10 ?_
    refine s_iconst (v := 0) B.1.1 dX11_init_13 (by decide) ?_
    refine s_istore_n (i := 1) (lv' := [(1, .int (0 : Int32)), (0, va_rf (some l0))]) B.1.1 dX11_init_14 rfl (by decide) rfl ?_
    exact Sm.lvs [1, 0] rfl (sc_X11_init_L15 B (sc_X11_init_J41 B) fu (0 : Int32))
  exact MH.of hw ⟨rfl, rfl⟩ (by decide) (by simp [lg_sl, va_rf_cat, cat_i, cat_l, cat_r]) (mo_C_X11_init l0) M0
def C_X0_begin (l0 : Nat) : Hp → Option (Unit × Hp) :=
  hpZ 2 1 (some l0) (1 : Int32) <|
  hpI 2 4 (some l0) (0 : Int32) <|
  rt ()
set_option maxRecDepth 10000 in
theorem mo_C_X0_begin (l0 : Nat) : Mo (C_X0_begin l0) := by
  unfold C_X0_begin
  repeat' (with_reducible first | assumption | exact mo_rt _ | exact mo_zt _ | exact mo_no | refine mo_ite ?_ ?_ | refine mo_hgI (fun _ => ?_) | refine mo_hgR (fun _ => ?_) | refine mo_hCv (fun _ => ?_) (fun _ => ?_) | refine mo_lq (fun _ => ?_) | refine mo_hpI ?_ | refine mo_hpR ?_ | refine mo_hAi (fun _ => ?_) | refine mo_hAr (fun _ => ?_) | refine mo_hWi ?_ | refine mo_hWr ?_ | refine mo_hLn (fun _ => ?_) | refine mo_hgL (fun _ => ?_) | refine mo_hpL ?_ | refine mo_hpZ ?_ | refine mo_bd ?_ (fun _ => ?_) | refine mo_hCi (fun _ => ?_) (fun _ => ?_) | refine mo_hNw (fun _ => ?_) | refine mo_hNa (fun _ => ?_) | refine mo_hCp ?_ | refine mo_hOi ?_ | refine mo_hAl (fun _ => ?_) | refine mo_hWl ?_ | refine mo_gd ?_ | refine mo_sLn (fun _ => ?_) | refine mo_sAt (fun _ => ?_) | refine mo_kLn (fun _ => ?_) | refine mo_kAt (fun _ => ?_))
set_option maxRecDepth 10000 in
theorem mC_X0_begin {w : Wd} (hw : Wc w) (l0 : Nat) : MH w yX0_begin cX0_begin 1 none 0 0 voV [va_rf (some l0)] (C_X0_begin l0) := by
  have M0 : ∀ g : Gm Hp Unit, g.1 = w → Bx g cX0_begin 1 RX0 voV none 0 0 "begin" → Sm g 1 0 (lv_args 0 [va_rf (some l0)]) [] (C_X0_begin l0) := by
    intro g hg B
    subst hg
    unfold C_X0_begin
    refine W_lva (lv := [(0, va_rf (some l0))]) (by simp [lv_args, va_rf_cat, cat_i, cat_l, cat_r]) ?_
    refine s_rload_n B.1.1 0 dX0_begin_0 rfl rfl ?_
    refine s_iconst (v := 1) B.1.1 dX0_begin_1 (by decide) ?_
    refine hp_putZ B.1 2 1 rfl (by decide) inX0 tyX0 tyX0_ok nmX0 (by decide) fk_X0_1.1 fk_X0_1.2 ft_X0_1 rfl cf_X0_28 dX0_begin_2 ?_
    refine s_rload_n B.1.1 0 dX0_begin_5 rfl rfl ?_
    refine s_iconst (v := 0) B.1.1 dX0_begin_6 (by decide) ?_
    refine hp_putI B.1 2 4 rfl (by decide) inX0 tyX0 tyX0_ok nmX0 (by decide) fk_X0_4.1 fk_X0_4.2 ft_X0_4 rfl cf_X0_32 dX0_begin_7 ?_
    exact s_vret B.1.1 B.2.2.2.2 dX0_begin_10
  exact MH.of hw ⟨rfl, rfl⟩ (by decide) (by simp [lg_sl, va_rf_cat, cat_i, cat_l, cat_r]) (mo_C_X0_begin l0) M0
def C_X0_following_J42 (l0 : Nat) (l1 : Int32) : Hp → Option (Int32 × Hp) :=
  rt (l1)
set_option maxRecDepth 10000 in
theorem mo_C_X0_following_J42 (l0 : Nat) (l1 : Int32) : Mo (C_X0_following_J42 l0 l1) := by
  unfold C_X0_following_J42
  repeat' (with_reducible first | assumption | exact mo_rt _ | exact mo_zt _ | exact mo_no | refine mo_ite ?_ ?_ | refine mo_hgI (fun _ => ?_) | refine mo_hgR (fun _ => ?_) | refine mo_hCv (fun _ => ?_) (fun _ => ?_) | refine mo_lq (fun _ => ?_) | refine mo_hpI ?_ | refine mo_hpR ?_ | refine mo_hAi (fun _ => ?_) | refine mo_hAr (fun _ => ?_) | refine mo_hWi ?_ | refine mo_hWr ?_ | refine mo_hLn (fun _ => ?_) | refine mo_hgL (fun _ => ?_) | refine mo_hpL ?_ | refine mo_hpZ ?_ | refine mo_bd ?_ (fun _ => ?_) | refine mo_hCi (fun _ => ?_) (fun _ => ?_) | refine mo_hNw (fun _ => ?_) | refine mo_hNa (fun _ => ?_) | refine mo_hCp ?_ | refine mo_hOi ?_ | refine mo_hAl (fun _ => ?_) | refine mo_hWl ?_ | refine mo_gd ?_ | refine mo_sLn (fun _ => ?_) | refine mo_sAt (fun _ => ?_) | refine mo_kLn (fun _ => ?_) | refine mo_kAt (fun _ => ?_))
set_option maxRecDepth 10000 in
theorem sc_X0_following_J42 {g : Gm Hp Int32} (B : Bx g cX0_following 3 RX0 voI (some .int) 0 0 "following") {l0 : Nat} (l1 : Int32) : Sm g 3 42 [(1, .int l1)] [] (C_X0_following_J42 l0 l1) := by
  unfold C_X0_following_J42
  refine s_iload_n B.1.1 0 dX0_following_42 rfl rfl ?_
  exact s_iret B.1.1 B.2.2.2.2 dX0_following_43
def C_X0_following_B4 (l0 : Nat) (kb : Int32 → Int32 → Hp → Option (Int32 × Hp)) (ke42 : Int32 → Hp → Option (Int32 × Hp)) (l1 : Int32) (l2 : Int32) : Hp → Option (Int32 × Hp) :=
  hgI 2 8 (some l0) fun v1 =>
  if v1 ≤ l2 then (
    ke42 l1
  ) else (
    if (5 : Int32) ≤ l2 then (
      ke42 l1
    ) else (
      hgR 2 7 (some l0) fun v2 =>
      hAi v2 l2 fun v3 =>
      lq (l1 ||| ((v3 &&& (127 : Int32)) <<< (((7 : Int32) * (l2 - (1 : Int32))) &&& 31))) fun x4 =>
      kb x4 (l2 + 1)
    )
  )
def C_X0_following_L4 (l0 : Nat) (ke42 : Int32 → Hp → Option (Int32 × Hp)) : Nat → Int32 → Int32 → Hp → Option (Int32 × Hp)
  | 0, _, _ => no
  | n + 1, l1, l2 => C_X0_following_B4 l0 (fun l1 l2 => C_X0_following_L4 l0 ke42 n l1 l2) ke42 l1 l2
set_option maxRecDepth 10000 in
theorem mo_C_X0_following_B4 (l0 : Nat) (kb : Int32 → Int32 → Hp → Option (Int32 × Hp)) (ke42 : Int32 → Hp → Option (Int32 × Hp)) (hkb : ∀ (l1 : Int32) (l2 : Int32), Mo (kb l1 l2)) (hke42 : ∀ (l1 : Int32), Mo (ke42 l1)) (l1 : Int32) (l2 : Int32) : Mo (C_X0_following_B4 l0 kb ke42 l1 l2) := by
  unfold C_X0_following_B4
  repeat' (with_reducible first | assumption | exact mo_rt _ | exact mo_zt _ | exact mo_no | apply hkb | apply hke42 | refine mo_ite ?_ ?_ | refine mo_hgI (fun _ => ?_) | refine mo_hgR (fun _ => ?_) | refine mo_hCv (fun _ => ?_) (fun _ => ?_) | refine mo_lq (fun _ => ?_) | refine mo_hpI ?_ | refine mo_hpR ?_ | refine mo_hAi (fun _ => ?_) | refine mo_hAr (fun _ => ?_) | refine mo_hWi ?_ | refine mo_hWr ?_ | refine mo_hLn (fun _ => ?_) | refine mo_hgL (fun _ => ?_) | refine mo_hpL ?_ | refine mo_hpZ ?_ | refine mo_bd ?_ (fun _ => ?_) | refine mo_hCi (fun _ => ?_) (fun _ => ?_) | refine mo_hNw (fun _ => ?_) | refine mo_hNa (fun _ => ?_) | refine mo_hCp ?_ | refine mo_hOi ?_ | refine mo_hAl (fun _ => ?_) | refine mo_hWl ?_ | refine mo_gd ?_ | refine mo_sLn (fun _ => ?_) | refine mo_sAt (fun _ => ?_) | refine mo_kLn (fun _ => ?_) | refine mo_kAt (fun _ => ?_))
set_option maxRecDepth 10000 in
theorem mo_C_X0_following_L4 (l0 : Nat) (ke42 : Int32 → Hp → Option (Int32 × Hp)) (hke42 : ∀ (l1 : Int32), Mo (ke42 l1)) : ∀ (n : Nat) (l1 : Int32) (l2 : Int32), Mo (C_X0_following_L4 l0 ke42 n l1 l2)
  | 0, _, _ => mo_no
  | n + 1, l1, l2 => mo_C_X0_following_B4 l0 _ ke42 (mo_C_X0_following_L4 l0 ke42 hke42 n) hke42 l1 l2
set_option maxRecDepth 10000 in
theorem sc_X0_following_B4 {g : Gm Hp Int32} {kb : Int32 → Int32 → Hp → Option (Int32 × Hp)} {ke42 : Int32 → Hp → Option (Int32 × Hp)} (B : Bx g cX0_following 3 RX0 voI (some .int) 0 0 "following") {l0 : Nat} (hkb : ∀ (l1 : Int32) (l2 : Int32), Sm g 3 4 [(0, va_rf (some l0)), (1, .int l1), (2, .int l2)] [] (kb l1 l2)) (hke42 : ∀ (l1 : Int32), Sm g 3 42 [(1, .int l1)] [] (ke42 l1)) (l1 : Int32) (l2 : Int32) : Sm g 3 4 [(0, va_rf (some l0)), (1, .int l1), (2, .int l2)] [] (C_X0_following_B4 l0 kb ke42 l1 l2) := by
  unfold C_X0_following_B4
  refine s_iload_n B.1.1 2 dX0_following_4 rfl rfl ?_
  refine s_rload_n B.1.1 0 dX0_following_5 rfl rfl ?_
  refine hp_getI B.1 2 8 rfl (by decide) inX0 (by decide) fk_X0_8.1 fk_X0_8.2 cf_X0_42 dX0_following_6 (fun v1 => ?_)
  refine s_icmp_ge B.1.1 42 dX0_following_9 (by decide) ?_ ?_
  · exact Sm.lvs [1] rfl (hke42 l1)
  · refine s_iload_n B.1.1 2 dX0_following_12 rfl rfl ?_
    refine s_iconst (v := 5) B.1.1 dX0_following_13 (by decide) ?_
    refine s_icmp_ge B.1.1 42 dX0_following_14 (by decide) ?_ ?_
    · exact Sm.lvs [1] rfl (hke42 l1)
    · refine s_iload_n B.1.1 1 dX0_following_17 rfl rfl ?_
      refine s_rload_n B.1.1 0 dX0_following_18 rfl rfl ?_
      refine hp_getR B.1 2 7 rfl (by decide) inX0 (by decide) fk_X0_7 cf_X0_15 dX0_following_19 (fun v2 => ?_)
      refine s_iload_n B.1.1 2 dX0_following_22 rfl rfl ?_
      refine hp_Ai B.1 dX0_following_23 (fun v3 => ?_)
      refine s_bipush (v := (127)) B.1.1 dX0_following_24 (by decide) ?_
      refine s_iand B.1.1 dX0_following_26 ?_
      refine s_bipush (v := (7)) B.1.1 dX0_following_27 (by decide) ?_
      refine s_iload_n B.1.1 2 dX0_following_29 rfl rfl ?_
      refine s_iconst (v := 1) B.1.1 dX0_following_30 (by decide) ?_
      refine s_isub B.1.1 dX0_following_31 ?_
      refine s_imul B.1.1 dX0_following_32 ?_
      refine s_ishl B.1.1 dX0_following_33 ?_
      refine s_ior B.1.1 dX0_following_34 ?_
      refine s_lqi (fun x4 => ?_)
      refine s_istore_n (i := 1) (lv' := [(1, .int x4), (0, va_rf (some l0)), (2, .int l2)]) B.1.1 dX0_following_35 rfl (by decide) rfl ?_
      refine s_iinc (v := l2 + 1) (lv' := [(2, .int (l2 + 1)), (1, .int x4), (0, va_rf (some l0))]) B.1.1 2 dX0_following_36 rfl rfl (by decide) rfl ?_
      refine s_goto B.1.1 4 dX0_following_39 (by decide) ?_
      exact Sm.lvs [2, 1, 0] rfl (hkb x4 (l2 + 1))
set_option maxRecDepth 10000 in
theorem sc_X0_following_L4 {g : Gm Hp Int32} {ke42 : Int32 → Hp → Option (Int32 × Hp)} (B : Bx g cX0_following 3 RX0 voI (some .int) 0 0 "following") {l0 : Nat} (hke42 : ∀ (l1 : Int32), Sm g 3 42 [(1, .int l1)] [] (ke42 l1)) : ∀ (n : Nat) (l1 : Int32) (l2 : Int32), Sm g 3 4 [(0, va_rf (some l0)), (1, .int l1), (2, .int l2)] [] (C_X0_following_L4 l0 ke42 n l1 l2)
  | 0, _, _ => Sm.fail
  | n + 1, l1, l2 => sc_X0_following_B4 B (sc_X0_following_L4 B hke42 n) hke42 l1 l2
def C_X0_following (l0 : Nat) : Hp → Option (Int32 × Hp) :=
  C_X0_following_L4 l0 (fun l1 => C_X0_following_J42 l0 l1) fu (0 : Int32) (1 : Int32)
set_option maxRecDepth 10000 in
theorem mo_C_X0_following (l0 : Nat) : Mo (C_X0_following l0) := by
  unfold C_X0_following
  repeat' (with_reducible first | assumption | exact mo_rt _ | exact mo_zt _ | exact mo_no | apply mo_C_X0_following_L4 | apply mo_C_X0_following_J42 | refine mo_ite ?_ ?_ | refine mo_hgI (fun _ => ?_) | refine mo_hgR (fun _ => ?_) | refine mo_hCv (fun _ => ?_) (fun _ => ?_) | refine mo_lq (fun _ => ?_) | refine mo_hpI ?_ | refine mo_hpR ?_ | refine mo_hAi (fun _ => ?_) | refine mo_hAr (fun _ => ?_) | refine mo_hWi ?_ | refine mo_hWr ?_ | refine mo_hLn (fun _ => ?_) | refine mo_hgL (fun _ => ?_) | refine mo_hpL ?_ | refine mo_hpZ ?_ | refine mo_bd ?_ (fun _ => ?_) | refine mo_hCi (fun _ => ?_) (fun _ => ?_) | refine mo_hNw (fun _ => ?_) | refine mo_hNa (fun _ => ?_) | refine mo_hCp ?_ | refine mo_hOi ?_ | refine mo_hAl (fun _ => ?_) | refine mo_hWl ?_ | refine mo_gd ?_ | refine mo_sLn (fun _ => ?_) | refine mo_sAt (fun _ => ?_) | refine mo_kLn (fun _ => ?_) | refine mo_kAt (fun _ => ?_))
set_option maxRecDepth 10000 in
theorem mC_X0_following {w : Wd} (hw : Wc w) (l0 : Nat) : MH w yX0_following cX0_following 3 (some .int) 0 0 voI [va_rf (some l0)] (C_X0_following l0) := by
  have M0 : ∀ g : Gm Hp Int32, g.1 = w → Bx g cX0_following 3 RX0 voI (some .int) 0 0 "following" → Sm g 3 0 (lv_args 0 [va_rf (some l0)]) [] (C_X0_following l0) := by
    intro g hg B
    subst hg
    unfold C_X0_following
    refine W_lva (lv := [(0, va_rf (some l0))]) (by simp [lv_args, va_rf_cat, cat_i, cat_l, cat_r]) ?_
    refine s_iconst (v := 0) B.1.1 dX0_following_0 (by decide) ?_
    refine s_istore_n (i := 1) (lv' := [(1, .int (0 : Int32)), (0, va_rf (some l0))]) B.1.1 dX0_following_1 rfl (by decide) rfl ?_
    refine s_iconst (v := 1) B.1.1 dX0_following_2 (by decide) ?_
    refine s_istore_n (i := 2) (lv' := [(2, .int (1 : Int32)), (1, .int (0 : Int32)), (0, va_rf (some l0))]) B.1.1 dX0_following_3 rfl (by decide) rfl ?_
    exact Sm.lvs [2, 1, 0] rfl (sc_X0_following_L4 B (fun l1 => sc_X0_following_J42 B l1) fu (0 : Int32) (1 : Int32))
  exact MH.of hw ⟨rfl, rfl⟩ (by decide) (by simp [lg_sl, va_rf_cat, cat_i, cat_l, cat_r]) (mo_C_X0_following l0) M0
def C_X0_accept_J109 (l0 : Nat) : Hp → Option (Int32 × Hp) :=
  hgI 2 8 (some l0) fun v1 =>
  hgI 2 10 (some l0) fun v2 =>
  if v2 ≤ v1 then (
    hpI 2 8 (some l0) (0 : Int32) <|
    rt ((2 : Int32))
  ) else (
    rt ((1 : Int32))
  )
set_option maxRecDepth 10000 in
theorem mo_C_X0_accept_J109 (l0 : Nat) : Mo (C_X0_accept_J109 l0) := by
  unfold C_X0_accept_J109
  repeat' (with_reducible first | assumption | exact mo_rt _ | exact mo_zt _ | exact mo_no | refine mo_ite ?_ ?_ | refine mo_hgI (fun _ => ?_) | refine mo_hgR (fun _ => ?_) | refine mo_hCv (fun _ => ?_) (fun _ => ?_) | refine mo_lq (fun _ => ?_) | refine mo_hpI ?_ | refine mo_hpR ?_ | refine mo_hAi (fun _ => ?_) | refine mo_hAr (fun _ => ?_) | refine mo_hWi ?_ | refine mo_hWr ?_ | refine mo_hLn (fun _ => ?_) | refine mo_hgL (fun _ => ?_) | refine mo_hpL ?_ | refine mo_hpZ ?_ | refine mo_bd ?_ (fun _ => ?_) | refine mo_hCi (fun _ => ?_) (fun _ => ?_) | refine mo_hNw (fun _ => ?_) | refine mo_hNa (fun _ => ?_) | refine mo_hCp ?_ | refine mo_hOi ?_ | refine mo_hAl (fun _ => ?_) | refine mo_hWl ?_ | refine mo_gd ?_ | refine mo_sLn (fun _ => ?_) | refine mo_sAt (fun _ => ?_) | refine mo_kLn (fun _ => ?_) | refine mo_kAt (fun _ => ?_))
set_option maxRecDepth 10000 in
theorem sc_X0_accept_J109 {g : Gm Hp Int32} (B : Bx g cX0_accept 3 RX0 voI (some .int) 1 22 "accept") {l0 : Nat} : Sm g 3 109 [(0, va_rf (some l0))] [] (C_X0_accept_J109 l0) := by
  unfold C_X0_accept_J109
  refine s_rload_n B.1.1 0 dX0_accept_109 rfl rfl ?_
  refine hp_getI B.1 2 8 rfl (by decide) inX0 (by decide) fk_X0_8.1 fk_X0_8.2 cf_X0_42 dX0_accept_110 (fun v1 => ?_)
  refine s_rload_n B.1.1 0 dX0_accept_113 rfl rfl ?_
  refine hp_getI B.1 2 10 rfl (by decide) inX0 (by decide) fk_X0_10.1 fk_X0_10.2 cf_X0_45 dX0_accept_114 (fun v2 => ?_)
  refine s_icmp_ge B.1.1 122 dX0_accept_117 (by decide) ?_ ?_
  · refine s_rload_n B.1.1 0 dX0_accept_122 rfl rfl ?_
    refine s_iconst (v := 0) B.1.1 dX0_accept_123 (by decide) ?_
    refine hp_putI B.1 2 8 rfl (by decide) inX0 tyX0 tyX0_ok nmX0 (by decide) fk_X0_8.1 fk_X0_8.2 ft_X0_8 rfl cf_X0_42 dX0_accept_124 ?_
    refine s_iconst (v := 2) B.1.1 dX0_accept_127 (by decide) ?_
    exact s_iret B.1.1 B.2.2.2.2 dX0_accept_128
  · refine s_iconst (v := 1) B.1.1 dX0_accept_120 (by decide) ?_
    exact s_iret B.1.1 B.2.2.2.2 dX0_accept_121
def C_X0_accept_J30 (l0 : Nat) (l1 : Int32) : Hp → Option (Int32 × Hp) :=
  hgI 2 8 (some l0) fun v3 =>
  if v3 = (1 : Int32) then (
    hpI 2 10 (some l0) (0 : Int32) <|
    rt ((1 : Int32))
  ) else (
    hgI 2 10 (some l0) fun v4 =>
    if v4 = 0 then (
      if l1 < (128 : Int32) then (
        hCv 2 (some l0) (fun a => C_X0_following a) fun r5 =>
        if r5 ≤ (400 : Int32) then (
          hgI 2 8 (some l0) fun v6 =>
          hpI 2 9 (some l0) v6 <|
          hgI 2 8 (some l0) fun v7 =>
          hpI 2 10 (some l0) (v7 + r5) <|
          C_X0_accept_J109 l0
        ) else (
          rt ((149 : Int32))
        )
      ) else (
        hgI 2 8 (some l0) fun v8 =>
        if v8 = (5 : Int32) then (
          rt ((129 : Int32))
        ) else (
          rt ((1 : Int32))
        )
      )
    ) else (
      C_X0_accept_J109 l0
    )
  )
set_option maxRecDepth 10000 in
theorem mo_C_X0_accept_J30 (l0 : Nat) (l1 : Int32) : Mo (C_X0_accept_J30 l0 l1) := by
  unfold C_X0_accept_J30
  repeat' (with_reducible first | assumption | exact mo_rt _ | exact mo_zt _ | exact mo_no | apply mo_C_X0_following | apply mo_C_X0_accept_J109 | refine mo_ite ?_ ?_ | refine mo_hgI (fun _ => ?_) | refine mo_hgR (fun _ => ?_) | refine mo_hCv (fun _ => ?_) (fun _ => ?_) | refine mo_lq (fun _ => ?_) | refine mo_hpI ?_ | refine mo_hpR ?_ | refine mo_hAi (fun _ => ?_) | refine mo_hAr (fun _ => ?_) | refine mo_hWi ?_ | refine mo_hWr ?_ | refine mo_hLn (fun _ => ?_) | refine mo_hgL (fun _ => ?_) | refine mo_hpL ?_ | refine mo_hpZ ?_ | refine mo_bd ?_ (fun _ => ?_) | refine mo_hCi (fun _ => ?_) (fun _ => ?_) | refine mo_hNw (fun _ => ?_) | refine mo_hNa (fun _ => ?_) | refine mo_hCp ?_ | refine mo_hOi ?_ | refine mo_hAl (fun _ => ?_) | refine mo_hWl ?_ | refine mo_gd ?_ | refine mo_sLn (fun _ => ?_) | refine mo_sAt (fun _ => ?_) | refine mo_kLn (fun _ => ?_) | refine mo_kAt (fun _ => ?_))
set_option maxRecDepth 10000 in
theorem sc_X0_accept_J30 {g : Gm Hp Int32} (B : Bx g cX0_accept 3 RX0 voI (some .int) 1 22 "accept") {l0 : Nat} (l1 : Int32) : Sm g 3 30 [(0, va_rf (some l0)), (1, .int l1)] [] (C_X0_accept_J30 l0 l1) := by
  unfold C_X0_accept_J30
  refine s_rload_n B.1.1 0 dX0_accept_30 rfl rfl ?_
  refine hp_getI B.1 2 8 rfl (by decide) inX0 (by decide) fk_X0_8.1 fk_X0_8.2 cf_X0_42 dX0_accept_31 (fun v3 => ?_)
  refine s_iconst (v := 1) B.1.1 dX0_accept_34 (by decide) ?_
  refine s_icmp_ne B.1.1 45 dX0_accept_35 (by decide) ?_ ?_
  · refine s_rload_n B.1.1 0 dX0_accept_45 rfl rfl ?_
    refine hp_getI B.1 2 10 rfl (by decide) inX0 (by decide) fk_X0_10.1 fk_X0_10.2 cf_X0_45 dX0_accept_46 (fun v4 => ?_)
    refine s_if_ne B.1.1 109 dX0_accept_49 (by decide) ?_ ?_
    · exact Sm.lvs [0] rfl (sc_X0_accept_J109 B)
    · refine s_iload_n B.1.1 1 dX0_accept_52 rfl rfl ?_
      refine s_sipush (v := (128)) B.1.1 dX0_accept_53 (by decide) ?_
      refine s_icmp_lt B.1.1 75 dX0_accept_56 (by decide) ?_ ?_
      · refine s_rload_n B.1.1 0 dX0_accept_75 rfl rfl ?_
        refine hp_cvi (As := []) (st := []) 2 rfl (by decide) B.1 (fun a => mC_X0_following B.2.1 a ) cc_X0_following cl_X0_48 cn_X0_following ce_X0_following ci_X0 cd_X0_following (by decide) rfl (Nat.le_of_ble_eq_true rfl) dX0_accept_76 (fun r5 => ?_)
        refine s_istore_n (i := 2) (lv' := [(2, .int r5), (0, va_rf (some l0)), (1, .int l1)]) B.1.1 dX0_accept_79 rfl (by decide) rfl ?_
        refine s_iload_n B.1.1 0 dX0_accept_80 rfl rfl ?_
        refine s_sipush (v := (400)) B.1.1 dX0_accept_81 (by decide) ?_
        refine s_icmp_le B.1.1 91 dX0_accept_84 (by decide) ?_ ?_
        · refine s_rload_n B.1.1 1 dX0_accept_91 rfl rfl ?_
          refine s_rload_n B.1.1 1 dX0_accept_92 rfl rfl ?_
          refine hp_getI B.1 2 8 rfl (by decide) inX0 (by decide) fk_X0_8.1 fk_X0_8.2 cf_X0_42 dX0_accept_93 (fun v6 => ?_)
          refine hp_putI B.1 2 9 rfl (by decide) inX0 tyX0 tyX0_ok nmX0 (by decide) fk_X0_9.1 fk_X0_9.2 ft_X0_9 rfl cf_X0_52 dX0_accept_96 ?_
          refine s_rload_n B.1.1 1 dX0_accept_99 rfl rfl ?_
          refine s_rload_n B.1.1 1 dX0_accept_100 rfl rfl ?_
          refine hp_getI B.1 2 8 rfl (by decide) inX0 (by decide) fk_X0_8.1 fk_X0_8.2 cf_X0_42 dX0_accept_101 (fun v7 => ?_)
          refine s_iload_n B.1.1 0 dX0_accept_104 rfl rfl ?_
          refine s_iadd B.1.1 dX0_accept_105 ?_
          refine hp_putI B.1 2 10 rfl (by decide) inX0 tyX0 tyX0_ok nmX0 (by decide) fk_X0_10.1 fk_X0_10.2 ft_X0_10 rfl cf_X0_45 dX0_accept_106 ?_
          exact Sm.lvs [1] rfl (sc_X0_accept_J109 B)
        · refine s_sipush (v := (149)) B.1.1 dX0_accept_87 (by decide) ?_
          exact s_iret B.1.1 B.2.2.2.2 dX0_accept_90
      · refine s_rload_n B.1.1 0 dX0_accept_59 rfl rfl ?_
        refine hp_getI B.1 2 8 rfl (by decide) inX0 (by decide) fk_X0_8.1 fk_X0_8.2 cf_X0_42 dX0_accept_60 (fun v8 => ?_)
        refine s_iconst (v := 5) B.1.1 dX0_accept_63 (by decide) ?_
        refine s_icmp_ne B.1.1 73 dX0_accept_64 (by decide) ?_ ?_
        · refine s_iconst (v := 1) B.1.1 dX0_accept_73 (by decide) ?_
          exact s_iret B.1.1 B.2.2.2.2 dX0_accept_74
        · refine s_sipush (v := (129)) B.1.1 dX0_accept_67 (by decide) ?_
          refine s_goto B.1.1 74 dX0_accept_70 (by decide) ?_
          exact s_iret B.1.1 B.2.2.2.2 dX0_accept_74
  · refine s_rload_n B.1.1 0 dX0_accept_38 rfl rfl ?_
    refine s_iconst (v := 0) B.1.1 dX0_accept_39 (by decide) ?_
    refine hp_putI B.1 2 10 rfl (by decide) inX0 tyX0 tyX0_ok nmX0 (by decide) fk_X0_10.1 fk_X0_10.2 ft_X0_10 rfl cf_X0_45 dX0_accept_40 ?_
    refine s_iconst (v := 1) B.1.1 dX0_accept_43 (by decide) ?_
    exact s_iret B.1.1 B.2.2.2.2 dX0_accept_44
def C_X0_accept (l0 : Nat) (l1 : Int32) : Hp → Option (Int32 × Hp) :=
  hgI 2 8 (some l0) fun v9 =>
  if (405 : Int32) ≤ v9 then (
    C_X0_accept_J30 l0 l1
  ) else (
    hgR 2 7 (some l0) fun v10 =>
    hgI 2 8 (some l0) fun v11 =>
    hWi v10 v11 l1 <|
    hgI 2 8 (some l0) fun v12 =>
    hpI 2 8 (some l0) (v12 + (1 : Int32)) <|
    C_X0_accept_J30 l0 l1
  )
set_option maxRecDepth 10000 in
theorem mo_C_X0_accept (l0 : Nat) (l1 : Int32) : Mo (C_X0_accept l0 l1) := by
  unfold C_X0_accept
  repeat' (with_reducible first | assumption | exact mo_rt _ | exact mo_zt _ | exact mo_no | apply mo_C_X0_accept_J30 | refine mo_ite ?_ ?_ | refine mo_hgI (fun _ => ?_) | refine mo_hgR (fun _ => ?_) | refine mo_hCv (fun _ => ?_) (fun _ => ?_) | refine mo_lq (fun _ => ?_) | refine mo_hpI ?_ | refine mo_hpR ?_ | refine mo_hAi (fun _ => ?_) | refine mo_hAr (fun _ => ?_) | refine mo_hWi ?_ | refine mo_hWr ?_ | refine mo_hLn (fun _ => ?_) | refine mo_hgL (fun _ => ?_) | refine mo_hpL ?_ | refine mo_hpZ ?_ | refine mo_bd ?_ (fun _ => ?_) | refine mo_hCi (fun _ => ?_) (fun _ => ?_) | refine mo_hNw (fun _ => ?_) | refine mo_hNa (fun _ => ?_) | refine mo_hCp ?_ | refine mo_hOi ?_ | refine mo_hAl (fun _ => ?_) | refine mo_hWl ?_ | refine mo_gd ?_ | refine mo_sLn (fun _ => ?_) | refine mo_sAt (fun _ => ?_) | refine mo_kLn (fun _ => ?_) | refine mo_kAt (fun _ => ?_))
set_option maxRecDepth 10000 in
theorem mC_X0_accept {w : Wd} (hw : Wc w) (l0 : Nat) (l1 : Int32) : MH w yX0_accept cX0_accept 3 (some .int) 1 22 voI [va_rf (some l0), .int l1] (C_X0_accept l0 l1) := by
  have M0 : ∀ g : Gm Hp Int32, g.1 = w → Bx g cX0_accept 3 RX0 voI (some .int) 1 22 "accept" → Sm g 3 0 (lv_args 0 [va_rf (some l0), .int l1]) [] (C_X0_accept l0 l1) := by
    intro g hg B
    subst hg
    unfold C_X0_accept
    refine W_lva (lv := [(0, va_rf (some l0)), (1, .int l1)]) (by simp [lv_args, va_rf_cat, cat_i, cat_l, cat_r]) ?_
    refine s_rload_n B.1.1 0 dX0_accept_0 rfl rfl ?_
    refine hp_getI B.1 2 8 rfl (by decide) inX0 (by decide) fk_X0_8.1 fk_X0_8.2 cf_X0_42 dX0_accept_1 (fun v9 => ?_)
    refine s_sipush (v := (405)) B.1.1 dX0_accept_4 (by decide) ?_
    refine s_icmp_ge B.1.1 30 dX0_accept_7 (by decide) ?_ ?_
    · exact Sm.lvs [0, 1] rfl (sc_X0_accept_J30 B l1)
    · refine s_rload_n B.1.1 0 dX0_accept_10 rfl rfl ?_
      refine hp_getR B.1 2 7 rfl (by decide) inX0 (by decide) fk_X0_7 cf_X0_15 dX0_accept_11 (fun v10 => ?_)
      refine s_rload_n B.1.1 0 dX0_accept_14 rfl rfl ?_
      refine hp_getI B.1 2 8 rfl (by decide) inX0 (by decide) fk_X0_8.1 fk_X0_8.2 cf_X0_42 dX0_accept_15 (fun v11 => ?_)
      refine s_iload_n B.1.1 1 dX0_accept_18 rfl rfl ?_
      refine hp_Wi B.1 dX0_accept_19 ?_
      refine s_rload_n B.1.1 0 dX0_accept_20 rfl rfl ?_
      refine s_dup B.1.1 dX0_accept_21 rfl ?_
      refine hp_getI B.1 2 8 rfl (by decide) inX0 (by decide) fk_X0_8.1 fk_X0_8.2 cf_X0_42 dX0_accept_22 (fun v12 => ?_)
      refine s_iconst (v := 1) B.1.1 dX0_accept_25 (by decide) ?_
      refine s_iadd B.1.1 dX0_accept_26 ?_
      refine hp_putI B.1 2 8 rfl (by decide) inX0 tyX0 tyX0_ok nmX0 (by decide) fk_X0_8.1 fk_X0_8.2 ft_X0_8 rfl cf_X0_42 dX0_accept_27 ?_
      exact Sm.lvs [0, 1] rfl (sc_X0_accept_J30 B l1)
  exact MH.of hw ⟨rfl, rfl⟩ (by decide) (by simp [lg_sl, va_rf_cat, cat_i, cat_l, cat_r]) (mo_C_X0_accept l0 l1) M0
def C_X10_width (l0 : Nat) (l1 : Int32) : Hp → Option (Int32 × Hp) :=
  if (128 : Int32) ≤ l1 then (
    if (16384 : Int32) ≤ l1 then (
      if (2097152 : Int32) ≤ l1 then (
        rt ((4 : Int32))
      ) else (
        rt ((3 : Int32))
      )
    ) else (
      rt ((2 : Int32))
    )
  ) else (
    rt ((1 : Int32))
  )
set_option maxRecDepth 10000 in
theorem mo_C_X10_width (l0 : Nat) (l1 : Int32) : Mo (C_X10_width l0 l1) := by
  unfold C_X10_width
  repeat' (with_reducible first | assumption | exact mo_rt _ | exact mo_zt _ | exact mo_no | refine mo_ite ?_ ?_ | refine mo_hgI (fun _ => ?_) | refine mo_hgR (fun _ => ?_) | refine mo_hCv (fun _ => ?_) (fun _ => ?_) | refine mo_lq (fun _ => ?_) | refine mo_hpI ?_ | refine mo_hpR ?_ | refine mo_hAi (fun _ => ?_) | refine mo_hAr (fun _ => ?_) | refine mo_hWi ?_ | refine mo_hWr ?_ | refine mo_hLn (fun _ => ?_) | refine mo_hgL (fun _ => ?_) | refine mo_hpL ?_ | refine mo_hpZ ?_ | refine mo_bd ?_ (fun _ => ?_) | refine mo_hCi (fun _ => ?_) (fun _ => ?_) | refine mo_hNw (fun _ => ?_) | refine mo_hNa (fun _ => ?_) | refine mo_hCp ?_ | refine mo_hOi ?_ | refine mo_hAl (fun _ => ?_) | refine mo_hWl ?_ | refine mo_gd ?_ | refine mo_sLn (fun _ => ?_) | refine mo_sAt (fun _ => ?_) | refine mo_kLn (fun _ => ?_) | refine mo_kAt (fun _ => ?_))
set_option maxRecDepth 10000 in
theorem mC_X10_width {w : Wd} (hw : Wc w) (l0 : Nat) (l1 : Int32) : MH w yX10_width cX10_width 2 (some .int) 0 0 voI [va_rf (some l0), .int l1] (C_X10_width l0 l1) := by
  have M0 : ∀ g : Gm Hp Int32, g.1 = w → Bx g cX10_width 2 RX10 voI (some .int) 0 0 "width" → Sm g 2 0 (lv_args 0 [va_rf (some l0), .int l1]) [] (C_X10_width l0 l1) := by
    intro g hg B
    subst hg
    unfold C_X10_width
    refine W_lva (lv := [(0, va_rf (some l0)), (1, .int l1)]) (by simp [lv_args, va_rf_cat, cat_i, cat_l, cat_r]) ?_
    refine s_iload_n B.1.1 1 dX10_width_0 rfl rfl ?_
    refine s_sipush (v := (128)) B.1.1 dX10_width_1 (by decide) ?_
    refine s_icmp_ge B.1.1 11 dX10_width_4 (by decide) ?_ ?_
    · refine s_iload_n B.1.1 1 dX10_width_11 rfl rfl ?_
      refine s_sipush (v := (16384)) B.1.1 dX10_width_12 (by decide) ?_
      refine s_icmp_ge B.1.1 22 dX10_width_15 (by decide) ?_ ?_
      · refine s_iload_n B.1.1 1 dX10_width_22 rfl rfl ?_
        refine s_ldc (v := (2097152)) B.1.1 tw_1018 dX10_width_23 ?_
        refine s_icmp_ge B.1.1 32 dX10_width_25 (by decide) ?_ ?_
        · refine s_iconst (v := 4) B.1.1 dX10_width_32 (by decide) ?_
          exact s_iret B.1.1 B.2.2.2.2 dX10_width_33
        · refine s_iconst (v := 3) B.1.1 dX10_width_28 (by decide) ?_
          refine s_goto B.1.1 33 dX10_width_29 (by decide) ?_
          exact s_iret B.1.1 B.2.2.2.2 dX10_width_33
      · refine s_iconst (v := 2) B.1.1 dX10_width_18 (by decide) ?_
        refine s_goto B.1.1 33 dX10_width_19 (by decide) ?_
        exact s_iret B.1.1 B.2.2.2.2 dX10_width_33
    · refine s_iconst (v := 1) B.1.1 dX10_width_7 (by decide) ?_
      refine s_goto B.1.1 33 dX10_width_8 (by decide) ?_
      exact s_iret B.1.1 B.2.2.2.2 dX10_width_33
  exact MH.of hw ⟨rfl, rfl⟩ (by decide) (by simp [lg_sl, va_rf_cat, cat_i, cat_l, cat_r]) (mo_C_X10_width l0 l1) M0
def C_X0_put_J109 (l0 : Nat) (l1 : Option Nat) (l2 : Int32) : Hp → Option (Unit × Hp) :=
  hgR 12 1 l1 fun v1 =>
  hgR 2 3 (some l0) fun v2 =>
  hgI 2 4 (some l0) fun v3 =>
  hgI 12 2 l1 fun v4 =>
  hCp v1 (0 : Int32) v2 ((v3 + (1 : Int32)) + l2) v4 <|
  hgI 2 4 (some l0) fun v5 =>
  hgI 12 2 l1 fun v6 =>
  hpI 2 4 (some l0) (v5 + (((1 : Int32) + l2) + v6)) <|
  hgI 2 6 (some l0) fun v7 =>
  hpI 2 6 (some l0) (v7 + (1 : Int32)) <|
  rt ()
set_option maxRecDepth 10000 in
theorem mo_C_X0_put_J109 (l0 : Nat) (l1 : Option Nat) (l2 : Int32) : Mo (C_X0_put_J109 l0 l1 l2) := by
  unfold C_X0_put_J109
  repeat' (with_reducible first | assumption | exact mo_rt _ | exact mo_zt _ | exact mo_no | refine mo_ite ?_ ?_ | refine mo_hgI (fun _ => ?_) | refine mo_hgR (fun _ => ?_) | refine mo_hCv (fun _ => ?_) (fun _ => ?_) | refine mo_lq (fun _ => ?_) | refine mo_hpI ?_ | refine mo_hpR ?_ | refine mo_hAi (fun _ => ?_) | refine mo_hAr (fun _ => ?_) | refine mo_hWi ?_ | refine mo_hWr ?_ | refine mo_hLn (fun _ => ?_) | refine mo_hgL (fun _ => ?_) | refine mo_hpL ?_ | refine mo_hpZ ?_ | refine mo_bd ?_ (fun _ => ?_) | refine mo_hCi (fun _ => ?_) (fun _ => ?_) | refine mo_hNw (fun _ => ?_) | refine mo_hNa (fun _ => ?_) | refine mo_hCp ?_ | refine mo_hOi ?_ | refine mo_hAl (fun _ => ?_) | refine mo_hWl ?_ | refine mo_gd ?_ | refine mo_sLn (fun _ => ?_) | refine mo_sAt (fun _ => ?_) | refine mo_kLn (fun _ => ?_) | refine mo_kAt (fun _ => ?_))
set_option maxRecDepth 10000 in
theorem sc_X0_put_J109 {g : Gm Hp Unit} (B : Bx g cX0_put 5 RX0 voV none 1 40 "put") {l0 : Nat} (l1 : Option Nat) (l2 : Int32) : Sm g 5 109 [(0, va_rf (some l0)), (1, va_rf l1), (2, .int l2)] [] (C_X0_put_J109 l0 l1 l2) := by
  unfold C_X0_put_J109
  refine s_rload_n B.1.1 1 dX0_put_109 rfl rfl ?_
  refine hp_getR B.1 12 1 rfl (by decide) inX10 (by decide) fk_X10_1 cf_X0_67 dX0_put_110 (fun v1 => ?_)
  refine s_iconst (v := 0) B.1.1 dX0_put_113 (by decide) ?_
  refine s_rload_n B.1.1 0 dX0_put_114 rfl rfl ?_
  refine hp_getR B.1 2 3 rfl (by decide) inX0 (by decide) fk_X0_3 cf_X0_9 dX0_put_115 (fun v2 => ?_)
  refine s_rload_n B.1.1 0 dX0_put_118 rfl rfl ?_
  refine hp_getI B.1 2 4 rfl (by decide) inX0 (by decide) fk_X0_4.1 fk_X0_4.2 cf_X0_32 dX0_put_119 (fun v3 => ?_)
  refine s_iconst (v := 1) B.1.1 dX0_put_122 (by decide) ?_
  refine s_iadd B.1.1 dX0_put_123 ?_
  refine s_iload_n B.1.1 2 dX0_put_124 rfl rfl ?_
  refine s_iadd B.1.1 dX0_put_125 ?_
  refine s_rload_n B.1.1 1 dX0_put_126 rfl rfl ?_
  refine hp_getI B.1 12 2 rfl (by decide) inX10 (by decide) fk_X10_2.1 fk_X10_2.2 cf_X0_55 dX0_put_127 (fun v4 => ?_)
  refine hp_Cp B.1 tw_1019 (by decide) (Nat.le_of_ble_eq_true rfl) dX0_put_130 ?_
  refine s_rload_n B.1.1 0 dX0_put_133 rfl rfl ?_
  refine s_dup B.1.1 dX0_put_134 rfl ?_
  refine hp_getI B.1 2 4 rfl (by decide) inX0 (by decide) fk_X0_4.1 fk_X0_4.2 cf_X0_32 dX0_put_135 (fun v5 => ?_)
  refine s_iconst (v := 1) B.1.1 dX0_put_138 (by decide) ?_
  refine s_iload_n B.1.1 2 dX0_put_139 rfl rfl ?_
  refine s_iadd B.1.1 dX0_put_140 ?_
  refine s_rload_n B.1.1 1 dX0_put_141 rfl rfl ?_
  refine hp_getI B.1 12 2 rfl (by decide) inX10 (by decide) fk_X10_2.1 fk_X10_2.2 cf_X0_55 dX0_put_142 (fun v6 => ?_)
  refine s_iadd B.1.1 dX0_put_145 ?_
  refine s_iadd B.1.1 dX0_put_146 ?_
  refine hp_putI B.1 2 4 rfl (by decide) inX0 tyX0 tyX0_ok nmX0 (by decide) fk_X0_4.1 fk_X0_4.2 ft_X0_4 rfl cf_X0_32 dX0_put_147 ?_
  refine s_rload_n B.1.1 0 dX0_put_150 rfl rfl ?_
  refine s_dup B.1.1 dX0_put_151 rfl ?_
  refine hp_getI B.1 2 6 rfl (by decide) inX0 (by decide) fk_X0_6.1 fk_X0_6.2 cf_X0_76 dX0_put_152 (fun v7 => ?_)
  refine s_iconst (v := 1) B.1.1 dX0_put_155 (by decide) ?_
  refine s_iadd B.1.1 dX0_put_156 ?_
  refine hp_putI B.1 2 6 rfl (by decide) inX0 tyX0 tyX0_ok nmX0 (by decide) fk_X0_6.1 fk_X0_6.2 ft_X0_6 rfl cf_X0_76 dX0_put_157 ?_
  exact s_vret B.1.1 B.2.2.2.2 dX0_put_160
def C_X0_put_J97 (l0 : Nat) (kb : Option Nat → Int32 → Int32 → Int32 → Hp → Option (Unit × Hp)) (ke109 : Option Nat → Int32 → Hp → Option (Unit × Hp)) (l1 : Option Nat) (l2 : Int32) (l3 : Int32) (l4 : Int32) (s0 : Option Nat) (s1 : Int32) (s2 : Int32) : Hp → Option (Unit × Hp) :=
  hWi s0 s1 s2 <|
  lq (l3 >>> ((7 : Int32) &&& 31)) fun x8 =>
  kb l1 l2 x8 (l4 + 1)
set_option maxRecDepth 10000 in
theorem mo_C_X0_put_J97 (l0 : Nat) (kb : Option Nat → Int32 → Int32 → Int32 → Hp → Option (Unit × Hp)) (ke109 : Option Nat → Int32 → Hp → Option (Unit × Hp)) (hkb : ∀ (l1 : Option Nat) (l2 : Int32) (l3 : Int32) (l4 : Int32), Mo (kb l1 l2 l3 l4)) (hke109 : ∀ (l1 : Option Nat) (l2 : Int32), Mo (ke109 l1 l2)) (l1 : Option Nat) (l2 : Int32) (l3 : Int32) (l4 : Int32) (s0 : Option Nat) (s1 : Int32) (s2 : Int32) : Mo (C_X0_put_J97 l0 kb ke109 l1 l2 l3 l4 s0 s1 s2) := by
  unfold C_X0_put_J97
  repeat' (with_reducible first | assumption | exact mo_rt _ | exact mo_zt _ | exact mo_no | apply hkb | apply hke109 | refine mo_ite ?_ ?_ | refine mo_hgI (fun _ => ?_) | refine mo_hgR (fun _ => ?_) | refine mo_hCv (fun _ => ?_) (fun _ => ?_) | refine mo_lq (fun _ => ?_) | refine mo_hpI ?_ | refine mo_hpR ?_ | refine mo_hAi (fun _ => ?_) | refine mo_hAr (fun _ => ?_) | refine mo_hWi ?_ | refine mo_hWr ?_ | refine mo_hLn (fun _ => ?_) | refine mo_hgL (fun _ => ?_) | refine mo_hpL ?_ | refine mo_hpZ ?_ | refine mo_bd ?_ (fun _ => ?_) | refine mo_hCi (fun _ => ?_) (fun _ => ?_) | refine mo_hNw (fun _ => ?_) | refine mo_hNa (fun _ => ?_) | refine mo_hCp ?_ | refine mo_hOi ?_ | refine mo_hAl (fun _ => ?_) | refine mo_hWl ?_ | refine mo_gd ?_ | refine mo_sLn (fun _ => ?_) | refine mo_sAt (fun _ => ?_) | refine mo_kLn (fun _ => ?_) | refine mo_kAt (fun _ => ?_))
set_option maxRecDepth 10000 in
theorem sc_X0_put_J97 {g : Gm Hp Unit} {kb : Option Nat → Int32 → Int32 → Int32 → Hp → Option (Unit × Hp)} {ke109 : Option Nat → Int32 → Hp → Option (Unit × Hp)} (B : Bx g cX0_put 5 RX0 voV none 1 40 "put") {l0 : Nat} (hkb : ∀ (l1 : Option Nat) (l2 : Int32) (l3 : Int32) (l4 : Int32), Sm g 5 62 [(0, va_rf (some l0)), (1, va_rf l1), (2, .int l2), (3, .int l3), (4, .int l4)] [] (kb l1 l2 l3 l4)) (hke109 : ∀ (l1 : Option Nat) (l2 : Int32), Sm g 5 109 [(0, va_rf (some l0)), (1, va_rf l1), (2, .int l2)] [] (ke109 l1 l2)) (l1 : Option Nat) (l2 : Int32) (l3 : Int32) (l4 : Int32) (s0 : Option Nat) (s1 : Int32) (s2 : Int32) : Sm g 5 97 [(0, va_rf (some l0)), (1, va_rf l1), (2, .int l2), (3, .int l3), (4, .int l4)] [.int s2, .int s1, va_rf s0] (C_X0_put_J97 l0 kb ke109 l1 l2 l3 l4 s0 s1 s2) := by
  unfold C_X0_put_J97
  refine hp_Wi B.1 dX0_put_97 ?_
  refine s_iload_n B.1.1 3 dX0_put_98 rfl rfl ?_
  refine s_bipush (v := (7)) B.1.1 dX0_put_99 (by decide) ?_
  refine s_ishr B.1.1 dX0_put_101 ?_
  refine s_lqi (fun x8 => ?_)
  refine s_istore_n (i := 3) (lv' := [(3, .int x8), (0, va_rf (some l0)), (1, va_rf l1), (2, .int l2), (4, .int l4)]) B.1.1 dX0_put_102 rfl (by decide) rfl ?_
  refine s_iinc (v := l4 + 1) (lv' := [(4, .int (l4 + 1)), (3, .int x8), (0, va_rf (some l0)), (1, va_rf l1), (2, .int l2)]) B.1.1 4 dX0_put_103 rfl rfl (by decide) rfl ?_
  refine s_goto B.1.1 62 dX0_put_106 (by decide) ?_
  exact Sm.lvs [2, 3, 4, 1, 0] rfl (hkb l1 l2 x8 (l4 + 1))
def C_X0_put_B62 (l0 : Nat) (kb : Option Nat → Int32 → Int32 → Int32 → Hp → Option (Unit × Hp)) (ke109 : Option Nat → Int32 → Hp → Option (Unit × Hp)) (l1 : Option Nat) (l2 : Int32) (l3 : Int32) (l4 : Int32) : Hp → Option (Unit × Hp) :=
  if l2 < l4 then (
    ke109 l1 l2
  ) else (
    hgR 2 3 (some l0) fun v9 =>
    hgI 2 4 (some l0) fun v10 =>
    if l2 ≤ l4 then (
      C_X0_put_J97 l0 kb ke109 l1 l2 l3 l4 v9 (v10 + l4) l3
    ) else (
      C_X0_put_J97 l0 kb ke109 l1 l2 l3 l4 v9 (v10 + l4) ((l3 &&& (127 : Int32)) ||| (128 : Int32))
    )
  )
def C_X0_put_L62 (l0 : Nat) (ke109 : Option Nat → Int32 → Hp → Option (Unit × Hp)) : Nat → Option Nat → Int32 → Int32 → Int32 → Hp → Option (Unit × Hp)
  | 0, _, _, _, _ => no
  | n + 1, l1, l2, l3, l4 => C_X0_put_B62 l0 (fun l1 l2 l3 l4 => C_X0_put_L62 l0 ke109 n l1 l2 l3 l4) ke109 l1 l2 l3 l4
set_option maxRecDepth 10000 in
theorem mo_C_X0_put_B62 (l0 : Nat) (kb : Option Nat → Int32 → Int32 → Int32 → Hp → Option (Unit × Hp)) (ke109 : Option Nat → Int32 → Hp → Option (Unit × Hp)) (hkb : ∀ (l1 : Option Nat) (l2 : Int32) (l3 : Int32) (l4 : Int32), Mo (kb l1 l2 l3 l4)) (hke109 : ∀ (l1 : Option Nat) (l2 : Int32), Mo (ke109 l1 l2)) (l1 : Option Nat) (l2 : Int32) (l3 : Int32) (l4 : Int32) : Mo (C_X0_put_B62 l0 kb ke109 l1 l2 l3 l4) := by
  unfold C_X0_put_B62
  repeat' (with_reducible first | assumption | exact mo_rt _ | exact mo_zt _ | exact mo_no | apply mo_C_X0_put_J97 | apply hkb | apply hke109 | refine mo_ite ?_ ?_ | refine mo_hgI (fun _ => ?_) | refine mo_hgR (fun _ => ?_) | refine mo_hCv (fun _ => ?_) (fun _ => ?_) | refine mo_lq (fun _ => ?_) | refine mo_hpI ?_ | refine mo_hpR ?_ | refine mo_hAi (fun _ => ?_) | refine mo_hAr (fun _ => ?_) | refine mo_hWi ?_ | refine mo_hWr ?_ | refine mo_hLn (fun _ => ?_) | refine mo_hgL (fun _ => ?_) | refine mo_hpL ?_ | refine mo_hpZ ?_ | refine mo_bd ?_ (fun _ => ?_) | refine mo_hCi (fun _ => ?_) (fun _ => ?_) | refine mo_hNw (fun _ => ?_) | refine mo_hNa (fun _ => ?_) | refine mo_hCp ?_ | refine mo_hOi ?_ | refine mo_hAl (fun _ => ?_) | refine mo_hWl ?_ | refine mo_gd ?_ | refine mo_sLn (fun _ => ?_) | refine mo_sAt (fun _ => ?_) | refine mo_kLn (fun _ => ?_) | refine mo_kAt (fun _ => ?_))
set_option maxRecDepth 10000 in
theorem mo_C_X0_put_L62 (l0 : Nat) (ke109 : Option Nat → Int32 → Hp → Option (Unit × Hp)) (hke109 : ∀ (l1 : Option Nat) (l2 : Int32), Mo (ke109 l1 l2)) : ∀ (n : Nat) (l1 : Option Nat) (l2 : Int32) (l3 : Int32) (l4 : Int32), Mo (C_X0_put_L62 l0 ke109 n l1 l2 l3 l4)
  | 0, _, _, _, _ => mo_no
  | n + 1, l1, l2, l3, l4 => mo_C_X0_put_B62 l0 _ ke109 (mo_C_X0_put_L62 l0 ke109 hke109 n) hke109 l1 l2 l3 l4
set_option maxRecDepth 10000 in
theorem sc_X0_put_B62 {g : Gm Hp Unit} {kb : Option Nat → Int32 → Int32 → Int32 → Hp → Option (Unit × Hp)} {ke109 : Option Nat → Int32 → Hp → Option (Unit × Hp)} (B : Bx g cX0_put 5 RX0 voV none 1 40 "put") {l0 : Nat} (hkb : ∀ (l1 : Option Nat) (l2 : Int32) (l3 : Int32) (l4 : Int32), Sm g 5 62 [(0, va_rf (some l0)), (1, va_rf l1), (2, .int l2), (3, .int l3), (4, .int l4)] [] (kb l1 l2 l3 l4)) (hke109 : ∀ (l1 : Option Nat) (l2 : Int32), Sm g 5 109 [(0, va_rf (some l0)), (1, va_rf l1), (2, .int l2)] [] (ke109 l1 l2)) (l1 : Option Nat) (l2 : Int32) (l3 : Int32) (l4 : Int32) : Sm g 5 62 [(0, va_rf (some l0)), (1, va_rf l1), (2, .int l2), (3, .int l3), (4, .int l4)] [] (C_X0_put_B62 l0 kb ke109 l1 l2 l3 l4) := by
  unfold C_X0_put_B62
  refine s_iload B.1.1 4 dX0_put_62 rfl ?_
  refine s_iload_n B.1.1 2 dX0_put_64 rfl rfl ?_
  refine s_icmp_gt B.1.1 109 dX0_put_65 (by decide) ?_ ?_
  · exact Sm.lvs [0, 1, 2] rfl (hke109 l1 l2)
  · refine s_rload_n B.1.1 0 dX0_put_68 rfl rfl ?_
    refine hp_getR B.1 2 3 rfl (by decide) inX0 (by decide) fk_X0_3 cf_X0_9 dX0_put_69 (fun v9 => ?_)
    refine s_rload_n B.1.1 0 dX0_put_72 rfl rfl ?_
    refine hp_getI B.1 2 4 rfl (by decide) inX0 (by decide) fk_X0_4.1 fk_X0_4.2 cf_X0_32 dX0_put_73 (fun v10 => ?_)
    refine s_iload B.1.1 4 dX0_put_76 rfl ?_
    refine s_iadd B.1.1 dX0_put_78 ?_
    refine s_iload B.1.1 4 dX0_put_79 rfl ?_
    refine s_iload_n B.1.1 2 dX0_put_81 rfl rfl ?_
    refine s_icmp_ge B.1.1 96 dX0_put_82 (by decide) ?_ ?_
    · refine s_iload_n B.1.1 3 dX0_put_96 rfl rfl ?_
      exact Sm.lvs [0, 1, 2, 3, 4] rfl (sc_X0_put_J97 B hkb hke109 l1 l2 l3 l4 v9 (v10 + l4) l3)
    · refine s_iload_n B.1.1 3 dX0_put_85 rfl rfl ?_
      refine s_bipush (v := (127)) B.1.1 dX0_put_86 (by decide) ?_
      refine s_iand B.1.1 dX0_put_88 ?_
      refine s_sipush (v := (128)) B.1.1 dX0_put_89 (by decide) ?_
      refine s_ior B.1.1 dX0_put_92 ?_
      refine s_goto B.1.1 97 dX0_put_93 (by decide) ?_
      exact Sm.lvs [0, 1, 2, 3, 4] rfl (sc_X0_put_J97 B hkb hke109 l1 l2 l3 l4 v9 (v10 + l4) ((l3 &&& (127 : Int32)) ||| (128 : Int32)))
set_option maxRecDepth 10000 in
theorem sc_X0_put_L62 {g : Gm Hp Unit} {ke109 : Option Nat → Int32 → Hp → Option (Unit × Hp)} (B : Bx g cX0_put 5 RX0 voV none 1 40 "put") {l0 : Nat} (hke109 : ∀ (l1 : Option Nat) (l2 : Int32), Sm g 5 109 [(0, va_rf (some l0)), (1, va_rf l1), (2, .int l2)] [] (ke109 l1 l2)) : ∀ (n : Nat) (l1 : Option Nat) (l2 : Int32) (l3 : Int32) (l4 : Int32), Sm g 5 62 [(0, va_rf (some l0)), (1, va_rf l1), (2, .int l2), (3, .int l3), (4, .int l4)] [] (C_X0_put_L62 l0 ke109 n l1 l2 l3 l4)
  | 0, _, _, _, _ => Sm.fail
  | n + 1, l1, l2, l3, l4 => sc_X0_put_B62 B (sc_X0_put_L62 B hke109 n) hke109 l1 l2 l3 l4
def C_X0_put_J35 (l0 : Nat) : Hp → Option (Unit × Hp) :=
  hpZ 2 5 (some l0) (1 : Int32) <|
  rt ()
set_option maxRecDepth 10000 in
theorem mo_C_X0_put_J35 (l0 : Nat) : Mo (C_X0_put_J35 l0) := by
  unfold C_X0_put_J35
  repeat' (with_reducible first | assumption | exact mo_rt _ | exact mo_zt _ | exact mo_no | refine mo_ite ?_ ?_ | refine mo_hgI (fun _ => ?_) | refine mo_hgR (fun _ => ?_) | refine mo_hCv (fun _ => ?_) (fun _ => ?_) | refine mo_lq (fun _ => ?_) | refine mo_hpI ?_ | refine mo_hpR ?_ | refine mo_hAi (fun _ => ?_) | refine mo_hAr (fun _ => ?_) | refine mo_hWi ?_ | refine mo_hWr ?_ | refine mo_hLn (fun _ => ?_) | refine mo_hgL (fun _ => ?_) | refine mo_hpL ?_ | refine mo_hpZ ?_ | refine mo_bd ?_ (fun _ => ?_) | refine mo_hCi (fun _ => ?_) (fun _ => ?_) | refine mo_hNw (fun _ => ?_) | refine mo_hNa (fun _ => ?_) | refine mo_hCp ?_ | refine mo_hOi ?_ | refine mo_hAl (fun _ => ?_) | refine mo_hWl ?_ | refine mo_gd ?_ | refine mo_sLn (fun _ => ?_) | refine mo_sAt (fun _ => ?_) | refine mo_kLn (fun _ => ?_) | refine mo_kAt (fun _ => ?_))
set_option maxRecDepth 10000 in
theorem sc_X0_put_J35 {g : Gm Hp Unit} (B : Bx g cX0_put 5 RX0 voV none 1 40 "put") {l0 : Nat} : Sm g 5 35 [(0, va_rf (some l0))] [] (C_X0_put_J35 l0) := by
  unfold C_X0_put_J35
  refine s_rload_n B.1.1 0 dX0_put_35 rfl rfl ?_
  refine s_iconst (v := 1) B.1.1 dX0_put_36 (by decide) ?_
  refine hp_putZ B.1 2 5 rfl (by decide) inX0 tyX0 tyX0_ok nmX0 (by decide) fk_X0_5.1 fk_X0_5.2 ft_X0_5 rfl cf_X0_39 dX0_put_37 ?_
  exact s_vret B.1.1 B.2.2.2.2 dX0_put_40
def C_X0_put (l0 : Nat) (l1 : Option Nat) : Hp → Option (Unit × Hp) :=
  hgI 12 2 l1 fun v11 =>
  hCv 12 l1 (fun a => C_X10_width a v11) fun r12 =>
  hgI 2 5 (some l0) fun v13 =>
  if v13 = 0 then (
    hgI 2 4 (some l0) fun v14 =>
    hgI 12 2 l1 fun v15 =>
    if (((v14 + (1 : Int32)) + r12) + v15) ≤ (2000 : Int32) then (
      hgR 2 3 (some l0) fun v16 =>
      hgI 2 4 (some l0) fun v17 =>
      hgI 12 0 l1 fun v18 =>
      hWi v16 v17 v18 <|
      hgI 12 2 l1 fun v19 =>
      C_X0_put_L62 l0 (fun l1 l2 => C_X0_put_J109 l0 l1 l2) fu l1 r12 v19 (1 : Int32)
    ) else (
      C_X0_put_J35 l0
    )
  ) else (
    C_X0_put_J35 l0
  )
set_option maxRecDepth 10000 in
theorem mo_C_X0_put (l0 : Nat) (l1 : Option Nat) : Mo (C_X0_put l0 l1) := by
  unfold C_X0_put
  repeat' (with_reducible first | assumption | exact mo_rt _ | exact mo_zt _ | exact mo_no | apply mo_C_X10_width | apply mo_C_X0_put_L62 | apply mo_C_X0_put_J109 | apply mo_C_X0_put_J35 | refine mo_ite ?_ ?_ | refine mo_hgI (fun _ => ?_) | refine mo_hgR (fun _ => ?_) | refine mo_hCv (fun _ => ?_) (fun _ => ?_) | refine mo_lq (fun _ => ?_) | refine mo_hpI ?_ | refine mo_hpR ?_ | refine mo_hAi (fun _ => ?_) | refine mo_hAr (fun _ => ?_) | refine mo_hWi ?_ | refine mo_hWr ?_ | refine mo_hLn (fun _ => ?_) | refine mo_hgL (fun _ => ?_) | refine mo_hpL ?_ | refine mo_hpZ ?_ | refine mo_bd ?_ (fun _ => ?_) | refine mo_hCi (fun _ => ?_) (fun _ => ?_) | refine mo_hNw (fun _ => ?_) | refine mo_hNa (fun _ => ?_) | refine mo_hCp ?_ | refine mo_hOi ?_ | refine mo_hAl (fun _ => ?_) | refine mo_hWl ?_ | refine mo_gd ?_ | refine mo_sLn (fun _ => ?_) | refine mo_sAt (fun _ => ?_) | refine mo_kLn (fun _ => ?_) | refine mo_kAt (fun _ => ?_))
set_option maxRecDepth 10000 in
theorem mC_X0_put {w : Wd} (hw : Wc w) (l0 : Nat) (l1 : Option Nat) : MH w yX0_put cX0_put 5 none 1 40 voV [va_rf (some l0), va_rf l1] (C_X0_put l0 l1) := by
  have M0 : ∀ g : Gm Hp Unit, g.1 = w → Bx g cX0_put 5 RX0 voV none 1 40 "put" → Sm g 5 0 (lv_args 0 [va_rf (some l0), va_rf l1]) [] (C_X0_put l0 l1) := by
    intro g hg B
    subst hg
    unfold C_X0_put
    refine W_lva (lv := [(0, va_rf (some l0)), (1, va_rf l1)]) (by simp [lv_args, va_rf_cat, cat_i, cat_l, cat_r]) ?_
    refine s_rload_n B.1.1 1 dX0_put_0 rfl rfl ?_
    refine s_rload_n B.1.1 1 dX0_put_1 rfl rfl ?_
    refine hp_getI B.1 12 2 rfl (by decide) inX10 (by decide) fk_X10_2.1 fk_X10_2.2 cf_X0_55 dX0_put_2 (fun v11 => ?_)
    refine hp_cvi (As := [.int v11]) (st := []) 12 rfl (by decide) B.1 (fun a => mC_X10_width B.2.1 a v11) cc_X10_width cl_X0_60 cn_X10_width ce_X10_width ci_X10 cd_X10_width (by decide) rfl (Nat.le_of_ble_eq_true rfl) dX0_put_5 (fun r12 => ?_)
    refine s_istore_n (i := 2) (lv' := [(2, .int r12), (0, va_rf (some l0)), (1, va_rf l1)]) B.1.1 dX0_put_8 rfl (by decide) (by simp [va_rf_cat, cat_i, cat_l, cat_r]) ?_
    refine s_rload_n B.1.1 1 dX0_put_9 rfl rfl ?_
    refine hp_getI B.1 2 5 rfl (by decide) inX0 (by decide) fk_X0_5.1 fk_X0_5.2 cf_X0_39 dX0_put_10 (fun v13 => ?_)
    refine s_if_ne B.1.1 35 dX0_put_13 (by decide) ?_ ?_
    · exact Sm.lvs [1] rfl (sc_X0_put_J35 B)
    · refine s_rload_n B.1.1 1 dX0_put_16 rfl rfl ?_
      refine hp_getI B.1 2 4 rfl (by decide) inX0 (by decide) fk_X0_4.1 fk_X0_4.2 cf_X0_32 dX0_put_17 (fun v14 => ?_)
      refine s_iconst (v := 1) B.1.1 dX0_put_20 (by decide) ?_
      refine s_iadd B.1.1 dX0_put_21 ?_
      refine s_iload_n B.1.1 0 dX0_put_22 rfl rfl ?_
      refine s_iadd B.1.1 dX0_put_23 ?_
      refine s_rload_n B.1.1 2 dX0_put_24 rfl rfl ?_
      refine hp_getI B.1 12 2 rfl (by decide) inX10 (by decide) fk_X10_2.1 fk_X10_2.2 cf_X0_55 dX0_put_25 (fun v15 => ?_)
      refine s_iadd B.1.1 dX0_put_28 ?_
      refine s_sipush (v := (2000)) B.1.1 dX0_put_29 (by decide) ?_
      refine s_icmp_le B.1.1 41 dX0_put_32 (by decide) ?_ ?_
      · refine s_rload_n B.1.1 1 dX0_put_41 rfl rfl ?_
        refine hp_getR B.1 2 3 rfl (by decide) inX0 (by decide) fk_X0_3 cf_X0_9 dX0_put_42 (fun v16 => ?_)
        refine s_rload_n B.1.1 1 dX0_put_45 rfl rfl ?_
        refine hp_getI B.1 2 4 rfl (by decide) inX0 (by decide) fk_X0_4.1 fk_X0_4.2 cf_X0_32 dX0_put_46 (fun v17 => ?_)
        refine s_rload_n B.1.1 2 dX0_put_49 rfl rfl ?_
        refine hp_getI B.1 12 0 rfl (by decide) inX10 (by decide) fk_X10_0.1 fk_X10_0.2 cf_X0_64 dX0_put_50 (fun v18 => ?_)
        refine hp_Wi B.1 dX0_put_53 ?_
        refine s_rload_n B.1.1 2 dX0_put_54 rfl rfl ?_
        refine hp_getI B.1 12 2 rfl (by decide) inX10 (by decide) fk_X10_2.1 fk_X10_2.2 cf_X0_55 dX0_put_55 (fun v19 => ?_)
        refine s_istore_n (i := 3) (lv' := [(3, .int v19), (2, .int r12), (0, va_rf (some l0)), (1, va_rf l1)]) B.1.1 dX0_put_58 rfl (by decide) rfl ?_
        refine s_iconst (v := 1) B.1.1 dX0_put_59 (by decide) ?_
        refine s_istore (i := 4) (lv' := [(4, .int (1 : Int32)), (3, .int v19), (2, .int r12), (0, va_rf (some l0)), (1, va_rf l1)]) B.1.1 dX0_put_60 (by decide) rfl ?_
        exact Sm.lvs [3, 4, 2, 1, 0] rfl (sc_X0_put_L62 B (fun l1 l2 => sc_X0_put_J109 B l1 l2) fu l1 r12 v19 (1 : Int32))
      · exact Sm.lvs [1] rfl (sc_X0_put_J35 B)
  exact MH.of hw ⟨rfl, rfl⟩ (by decide) (by simp [lg_sl, va_rf_cat, cat_i, cat_l, cat_r]) (mo_C_X0_put l0 l1) M0
def C_X10_begin (l0 : Nat) (l1 : Int32) : Hp → Option (Unit × Hp) :=
  hpI 12 0 (some l0) l1 <|
  hpI 12 2 (some l0) (0 : Int32) <|
  rt ()
set_option maxRecDepth 10000 in
theorem mo_C_X10_begin (l0 : Nat) (l1 : Int32) : Mo (C_X10_begin l0 l1) := by
  unfold C_X10_begin
  repeat' (with_reducible first | assumption | exact mo_rt _ | exact mo_zt _ | exact mo_no | refine mo_ite ?_ ?_ | refine mo_hgI (fun _ => ?_) | refine mo_hgR (fun _ => ?_) | refine mo_hCv (fun _ => ?_) (fun _ => ?_) | refine mo_lq (fun _ => ?_) | refine mo_hpI ?_ | refine mo_hpR ?_ | refine mo_hAi (fun _ => ?_) | refine mo_hAr (fun _ => ?_) | refine mo_hWi ?_ | refine mo_hWr ?_ | refine mo_hLn (fun _ => ?_) | refine mo_hgL (fun _ => ?_) | refine mo_hpL ?_ | refine mo_hpZ ?_ | refine mo_bd ?_ (fun _ => ?_) | refine mo_hCi (fun _ => ?_) (fun _ => ?_) | refine mo_hNw (fun _ => ?_) | refine mo_hNa (fun _ => ?_) | refine mo_hCp ?_ | refine mo_hOi ?_ | refine mo_hAl (fun _ => ?_) | refine mo_hWl ?_ | refine mo_gd ?_ | refine mo_sLn (fun _ => ?_) | refine mo_sAt (fun _ => ?_) | refine mo_kLn (fun _ => ?_) | refine mo_kAt (fun _ => ?_))
set_option maxRecDepth 10000 in
theorem mC_X10_begin {w : Wd} (hw : Wc w) (l0 : Nat) (l1 : Int32) : MH w yX10_begin cX10_begin 2 none 0 0 voV [va_rf (some l0), .int l1] (C_X10_begin l0 l1) := by
  have M0 : ∀ g : Gm Hp Unit, g.1 = w → Bx g cX10_begin 2 RX10 voV none 0 0 "begin" → Sm g 2 0 (lv_args 0 [va_rf (some l0), .int l1]) [] (C_X10_begin l0 l1) := by
    intro g hg B
    subst hg
    unfold C_X10_begin
    refine W_lva (lv := [(0, va_rf (some l0)), (1, .int l1)]) (by simp [lv_args, va_rf_cat, cat_i, cat_l, cat_r]) ?_
    refine s_rload_n B.1.1 0 dX10_begin_0 rfl rfl ?_
    refine s_iload_n B.1.1 1 dX10_begin_1 rfl rfl ?_
    refine hp_putI B.1 12 0 rfl (by decide) inX10 tyX10 tyX10_ok nmX10 (by decide) fk_X10_0.1 fk_X10_0.2 ft_X10_0 rfl cf_X10_15 dX10_begin_2 ?_
    refine s_rload_n B.1.1 0 dX10_begin_5 rfl rfl ?_
    refine s_iconst (v := 0) B.1.1 dX10_begin_6 (by decide) ?_
    refine hp_putI B.1 12 2 rfl (by decide) inX10 tyX10 tyX10_ok nmX10 (by decide) fk_X10_2.1 fk_X10_2.2 ft_X10_2 rfl cf_X10_19 dX10_begin_7 ?_
    exact s_vret B.1.1 B.2.2.2.2 dX10_begin_10
  exact MH.of hw ⟨rfl, rfl⟩ (by decide) (by simp [lg_sl, va_rf_cat, cat_i, cat_l, cat_r]) (mo_C_X10_begin l0 l1) M0
def C_X10_four_J50 (l0 : Nat) : Hp → Option (Unit × Hp) :=
  rt ()
set_option maxRecDepth 10000 in
theorem mo_C_X10_four_J50 (l0 : Nat) : Mo (C_X10_four_J50 l0) := by
  unfold C_X10_four_J50
  repeat' (with_reducible first | assumption | exact mo_rt _ | exact mo_zt _ | exact mo_no | refine mo_ite ?_ ?_ | refine mo_hgI (fun _ => ?_) | refine mo_hgR (fun _ => ?_) | refine mo_hCv (fun _ => ?_) (fun _ => ?_) | refine mo_lq (fun _ => ?_) | refine mo_hpI ?_ | refine mo_hpR ?_ | refine mo_hAi (fun _ => ?_) | refine mo_hAr (fun _ => ?_) | refine mo_hWi ?_ | refine mo_hWr ?_ | refine mo_hLn (fun _ => ?_) | refine mo_hgL (fun _ => ?_) | refine mo_hpL ?_ | refine mo_hpZ ?_ | refine mo_bd ?_ (fun _ => ?_) | refine mo_hCi (fun _ => ?_) (fun _ => ?_) | refine mo_hNw (fun _ => ?_) | refine mo_hNa (fun _ => ?_) | refine mo_hCp ?_ | refine mo_hOi ?_ | refine mo_hAl (fun _ => ?_) | refine mo_hWl ?_ | refine mo_gd ?_ | refine mo_sLn (fun _ => ?_) | refine mo_sAt (fun _ => ?_) | refine mo_kLn (fun _ => ?_) | refine mo_kAt (fun _ => ?_))
set_option maxRecDepth 10000 in
theorem sc_X10_four_J50 {g : Gm Hp Unit} (B : Bx g cX10_four 4 RX10 voV none 0 0 "four") {l0 : Nat} : Sm g 4 50 [] [] (C_X10_four_J50 l0) := by
  unfold C_X10_four_J50
  exact s_vret B.1.1 B.2.2.2.2 dX10_four_50
def C_X10_four_B3 (l0 : Nat) (kb : Int64 → Int32 → Hp → Option (Unit × Hp)) (ke50 : Hp → Option (Unit × Hp)) (l1 : Int64) (l3 : Int32) : Hp → Option (Unit × Hp) :=
  if l3 < 0 then (
    ke50
  ) else (
    hgI 12 2 (some l0) fun v1 =>
    if (600 : Int32) ≤ v1 then (
      ke50
    ) else (
      hgR 12 1 (some l0) fun v2 =>
      hgI 12 2 (some l0) fun v3 =>
      hWi v2 v3 (((lshr6 l1 l3).toInt32) &&& (255 : Int32)) <|
      hgI 12 2 (some l0) fun v4 =>
      hpI 12 2 (some l0) (v4 + (1 : Int32)) <|
      kb l1 (l3 + (-8))
    )
  )
def C_X10_four_L3 (l0 : Nat) (ke50 : Hp → Option (Unit × Hp)) : Nat → Int64 → Int32 → Hp → Option (Unit × Hp)
  | 0, _, _ => no
  | n + 1, l1, l3 => C_X10_four_B3 l0 (fun l1 l3 => C_X10_four_L3 l0 ke50 n l1 l3) ke50 l1 l3
set_option maxRecDepth 10000 in
theorem mo_C_X10_four_B3 (l0 : Nat) (kb : Int64 → Int32 → Hp → Option (Unit × Hp)) (ke50 : Hp → Option (Unit × Hp)) (hkb : ∀ (l1 : Int64) (l3 : Int32), Mo (kb l1 l3)) (hke50 : Mo (ke50)) (l1 : Int64) (l3 : Int32) : Mo (C_X10_four_B3 l0 kb ke50 l1 l3) := by
  unfold C_X10_four_B3
  repeat' (with_reducible first | assumption | exact mo_rt _ | exact mo_zt _ | exact mo_no | apply hkb | apply hke50 | refine mo_ite ?_ ?_ | refine mo_hgI (fun _ => ?_) | refine mo_hgR (fun _ => ?_) | refine mo_hCv (fun _ => ?_) (fun _ => ?_) | refine mo_lq (fun _ => ?_) | refine mo_hpI ?_ | refine mo_hpR ?_ | refine mo_hAi (fun _ => ?_) | refine mo_hAr (fun _ => ?_) | refine mo_hWi ?_ | refine mo_hWr ?_ | refine mo_hLn (fun _ => ?_) | refine mo_hgL (fun _ => ?_) | refine mo_hpL ?_ | refine mo_hpZ ?_ | refine mo_bd ?_ (fun _ => ?_) | refine mo_hCi (fun _ => ?_) (fun _ => ?_) | refine mo_hNw (fun _ => ?_) | refine mo_hNa (fun _ => ?_) | refine mo_hCp ?_ | refine mo_hOi ?_ | refine mo_hAl (fun _ => ?_) | refine mo_hWl ?_ | refine mo_gd ?_ | refine mo_sLn (fun _ => ?_) | refine mo_sAt (fun _ => ?_) | refine mo_kLn (fun _ => ?_) | refine mo_kAt (fun _ => ?_))
set_option maxRecDepth 10000 in
theorem mo_C_X10_four_L3 (l0 : Nat) (ke50 : Hp → Option (Unit × Hp)) (hke50 : Mo (ke50)) : ∀ (n : Nat) (l1 : Int64) (l3 : Int32), Mo (C_X10_four_L3 l0 ke50 n l1 l3)
  | 0, _, _ => mo_no
  | n + 1, l1, l3 => mo_C_X10_four_B3 l0 _ ke50 (mo_C_X10_four_L3 l0 ke50 hke50 n) hke50 l1 l3
set_option maxRecDepth 10000 in
theorem sc_X10_four_B3 {g : Gm Hp Unit} {kb : Int64 → Int32 → Hp → Option (Unit × Hp)} {ke50 : Hp → Option (Unit × Hp)} (B : Bx g cX10_four 4 RX10 voV none 0 0 "four") {l0 : Nat} (hkb : ∀ (l1 : Int64) (l3 : Int32), Sm g 4 3 [(0, va_rf (some l0)), (1, .long l1), (3, .int l3)] [] (kb l1 l3)) (hke50 : Sm g 4 50 [] [] (ke50)) (l1 : Int64) (l3 : Int32) : Sm g 4 3 [(0, va_rf (some l0)), (1, .long l1), (3, .int l3)] [] (C_X10_four_B3 l0 kb ke50 l1 l3) := by
  unfold C_X10_four_B3
  refine s_iload_n B.1.1 2 dX10_four_3 rfl rfl ?_
  refine s_if_lt B.1.1 50 dX10_four_4 (by decide) ?_ ?_
  · exact Sm.lvs [] rfl (hke50)
  · refine s_rload_n B.1.1 0 dX10_four_7 rfl rfl ?_
    refine hp_getI B.1 12 2 rfl (by decide) inX10 (by decide) fk_X10_2.1 fk_X10_2.2 cf_X10_19 dX10_four_8 (fun v1 => ?_)
    refine s_sipush (v := (600)) B.1.1 dX10_four_11 (by decide) ?_
    refine s_icmp_ge B.1.1 50 dX10_four_14 (by decide) ?_ ?_
    · exact Sm.lvs [] rfl (hke50)
    · refine s_rload_n B.1.1 0 dX10_four_17 rfl rfl ?_
      refine hp_getR B.1 12 1 rfl (by decide) inX10 (by decide) fk_X10_1 cf_X10_9 dX10_four_18 (fun v2 => ?_)
      refine s_rload_n B.1.1 0 dX10_four_21 rfl rfl ?_
      refine hp_getI B.1 12 2 rfl (by decide) inX10 (by decide) fk_X10_2.1 fk_X10_2.2 cf_X10_19 dX10_four_22 (fun v3 => ?_)
      refine s_lload_n B.1.1 1 dX10_four_25 rfl rfl ?_
      refine s_iload_n B.1.1 2 dX10_four_26 rfl rfl ?_
      refine s_lshr B.1.1 dX10_four_27 ?_
      refine s_l2i B.1.1 dX10_four_28 ?_
      refine s_sipush (v := (255)) B.1.1 dX10_four_29 (by decide) ?_
      refine s_iand B.1.1 dX10_four_32 ?_
      refine hp_Wi B.1 dX10_four_33 ?_
      refine s_rload_n B.1.1 0 dX10_four_34 rfl rfl ?_
      refine s_dup B.1.1 dX10_four_35 rfl ?_
      refine hp_getI B.1 12 2 rfl (by decide) inX10 (by decide) fk_X10_2.1 fk_X10_2.2 cf_X10_19 dX10_four_36 (fun v4 => ?_)
      refine s_iconst (v := 1) B.1.1 dX10_four_39 (by decide) ?_
      refine s_iadd B.1.1 dX10_four_40 ?_
      refine hp_putI B.1 12 2 rfl (by decide) inX10 tyX10 tyX10_ok nmX10 (by decide) fk_X10_2.1 fk_X10_2.2 ft_X10_2 rfl cf_X10_19 dX10_four_41 ?_
      refine s_iinc (v := l3 + (-8)) (lv' := [(3, .int (l3 + (-8))), (0, va_rf (some l0)), (1, .long l1)]) B.1.1 2 dX10_four_44 rfl rfl (by decide) rfl ?_
      refine s_goto B.1.1 3 dX10_four_47 (by decide) ?_
      exact Sm.lvs [1, 2, 0] rfl (hkb l1 (l3 + (-8)))
set_option maxRecDepth 10000 in
theorem sc_X10_four_L3 {g : Gm Hp Unit} {ke50 : Hp → Option (Unit × Hp)} (B : Bx g cX10_four 4 RX10 voV none 0 0 "four") {l0 : Nat} (hke50 : Sm g 4 50 [] [] (ke50)) : ∀ (n : Nat) (l1 : Int64) (l3 : Int32), Sm g 4 3 [(0, va_rf (some l0)), (1, .long l1), (3, .int l3)] [] (C_X10_four_L3 l0 ke50 n l1 l3)
  | 0, _, _ => Sm.fail
  | n + 1, l1, l3 => sc_X10_four_B3 B (sc_X10_four_L3 B hke50 n) hke50 l1 l3
def C_X10_four (l0 : Nat) (l1 : Int64) : Hp → Option (Unit × Hp) :=
  C_X10_four_L3 l0 (C_X10_four_J50 l0) fu l1 (24 : Int32)
set_option maxRecDepth 10000 in
theorem mo_C_X10_four (l0 : Nat) (l1 : Int64) : Mo (C_X10_four l0 l1) := by
  unfold C_X10_four
  repeat' (with_reducible first | assumption | exact mo_rt _ | exact mo_zt _ | exact mo_no | apply mo_C_X10_four_L3 | apply mo_C_X10_four_J50 | refine mo_ite ?_ ?_ | refine mo_hgI (fun _ => ?_) | refine mo_hgR (fun _ => ?_) | refine mo_hCv (fun _ => ?_) (fun _ => ?_) | refine mo_lq (fun _ => ?_) | refine mo_hpI ?_ | refine mo_hpR ?_ | refine mo_hAi (fun _ => ?_) | refine mo_hAr (fun _ => ?_) | refine mo_hWi ?_ | refine mo_hWr ?_ | refine mo_hLn (fun _ => ?_) | refine mo_hgL (fun _ => ?_) | refine mo_hpL ?_ | refine mo_hpZ ?_ | refine mo_bd ?_ (fun _ => ?_) | refine mo_hCi (fun _ => ?_) (fun _ => ?_) | refine mo_hNw (fun _ => ?_) | refine mo_hNa (fun _ => ?_) | refine mo_hCp ?_ | refine mo_hOi ?_ | refine mo_hAl (fun _ => ?_) | refine mo_hWl ?_ | refine mo_gd ?_ | refine mo_sLn (fun _ => ?_) | refine mo_sAt (fun _ => ?_) | refine mo_kLn (fun _ => ?_) | refine mo_kAt (fun _ => ?_))
set_option maxRecDepth 10000 in
theorem mC_X10_four {w : Wd} (hw : Wc w) (l0 : Nat) (l1 : Int64) : MH w yX10_four cX10_four 4 none 0 0 voV [va_rf (some l0), .long l1] (C_X10_four l0 l1) := by
  have M0 : ∀ g : Gm Hp Unit, g.1 = w → Bx g cX10_four 4 RX10 voV none 0 0 "four" → Sm g 4 0 (lv_args 0 [va_rf (some l0), .long l1]) [] (C_X10_four l0 l1) := by
    intro g hg B
    subst hg
    unfold C_X10_four
    refine W_lva (lv := [(0, va_rf (some l0)), (1, .long l1)]) (by simp [lv_args, va_rf_cat, cat_i, cat_l, cat_r]) ?_
    refine s_bipush (v := (24)) B.1.1 dX10_four_0 (by decide) ?_
    refine s_istore_n (i := 3) (lv' := [(3, .int (24 : Int32)), (0, va_rf (some l0)), (1, .long l1)]) B.1.1 dX10_four_2 rfl (by decide) rfl ?_
    exact Sm.lvs [1, 2, 0] rfl (sc_X10_four_L3 B (sc_X10_four_J50 B) fu l1 (24 : Int32))
  exact MH.of hw ⟨rfl, rfl⟩ (by decide) (by simp [lg_sl, va_rf_cat, cat_i, cat_l, cat_r]) (mo_C_X10_four l0 l1) M0
def C_X10_one (l0 : Nat) (l1 : Int32) : Hp → Option (Unit × Hp) :=
  hgI 12 2 (some l0) fun v1 =>
  if (600 : Int32) ≤ v1 then (
    rt ()
  ) else (
    hgR 12 1 (some l0) fun v2 =>
    hgI 12 2 (some l0) fun v3 =>
    hWi v2 v3 (l1 &&& (255 : Int32)) <|
    hgI 12 2 (some l0) fun v4 =>
    hpI 12 2 (some l0) (v4 + (1 : Int32)) <|
    rt ()
  )
set_option maxRecDepth 10000 in
theorem mo_C_X10_one (l0 : Nat) (l1 : Int32) : Mo (C_X10_one l0 l1) := by
  unfold C_X10_one
  repeat' (with_reducible first | assumption | exact mo_rt _ | exact mo_zt _ | exact mo_no | refine mo_ite ?_ ?_ | refine mo_hgI (fun _ => ?_) | refine mo_hgR (fun _ => ?_) | refine mo_hCv (fun _ => ?_) (fun _ => ?_) | refine mo_lq (fun _ => ?_) | refine mo_hpI ?_ | refine mo_hpR ?_ | refine mo_hAi (fun _ => ?_) | refine mo_hAr (fun _ => ?_) | refine mo_hWi ?_ | refine mo_hWr ?_ | refine mo_hLn (fun _ => ?_) | refine mo_hgL (fun _ => ?_) | refine mo_hpL ?_ | refine mo_hpZ ?_ | refine mo_bd ?_ (fun _ => ?_) | refine mo_hCi (fun _ => ?_) (fun _ => ?_) | refine mo_hNw (fun _ => ?_) | refine mo_hNa (fun _ => ?_) | refine mo_hCp ?_ | refine mo_hOi ?_ | refine mo_hAl (fun _ => ?_) | refine mo_hWl ?_ | refine mo_gd ?_ | refine mo_sLn (fun _ => ?_) | refine mo_sAt (fun _ => ?_) | refine mo_kLn (fun _ => ?_) | refine mo_kAt (fun _ => ?_))
set_option maxRecDepth 10000 in
theorem mC_X10_one {w : Wd} (hw : Wc w) (l0 : Nat) (l1 : Int32) : MH w yX10_one cX10_one 2 none 0 0 voV [va_rf (some l0), .int l1] (C_X10_one l0 l1) := by
  have M0 : ∀ g : Gm Hp Unit, g.1 = w → Bx g cX10_one 2 RX10 voV none 0 0 "one" → Sm g 2 0 (lv_args 0 [va_rf (some l0), .int l1]) [] (C_X10_one l0 l1) := by
    intro g hg B
    subst hg
    unfold C_X10_one
    refine W_lva (lv := [(0, va_rf (some l0)), (1, .int l1)]) (by simp [lv_args, va_rf_cat, cat_i, cat_l, cat_r]) ?_
    refine s_rload_n B.1.1 0 dX10_one_0 rfl rfl ?_
    refine hp_getI B.1 12 2 rfl (by decide) inX10 (by decide) fk_X10_2.1 fk_X10_2.2 cf_X10_19 dX10_one_1 (fun v1 => ?_)
    refine s_sipush (v := (600)) B.1.1 dX10_one_4 (by decide) ?_
    refine s_icmp_ge B.1.1 34 dX10_one_7 (by decide) ?_ ?_
    · exact s_vret B.1.1 B.2.2.2.2 dX10_one_34
    · refine s_rload_n B.1.1 0 dX10_one_10 rfl rfl ?_
      refine hp_getR B.1 12 1 rfl (by decide) inX10 (by decide) fk_X10_1 cf_X10_9 dX10_one_11 (fun v2 => ?_)
      refine s_rload_n B.1.1 0 dX10_one_14 rfl rfl ?_
      refine hp_getI B.1 12 2 rfl (by decide) inX10 (by decide) fk_X10_2.1 fk_X10_2.2 cf_X10_19 dX10_one_15 (fun v3 => ?_)
      refine s_iload_n B.1.1 1 dX10_one_18 rfl rfl ?_
      refine s_sipush (v := (255)) B.1.1 dX10_one_19 (by decide) ?_
      refine s_iand B.1.1 dX10_one_22 ?_
      refine hp_Wi B.1 dX10_one_23 ?_
      refine s_rload_n B.1.1 0 dX10_one_24 rfl rfl ?_
      refine s_dup B.1.1 dX10_one_25 rfl ?_
      refine hp_getI B.1 12 2 rfl (by decide) inX10 (by decide) fk_X10_2.1 fk_X10_2.2 cf_X10_19 dX10_one_26 (fun v4 => ?_)
      refine s_iconst (v := 1) B.1.1 dX10_one_29 (by decide) ?_
      refine s_iadd B.1.1 dX10_one_30 ?_
      refine hp_putI B.1 12 2 rfl (by decide) inX10 tyX10 tyX10_ok nmX10 (by decide) fk_X10_2.1 fk_X10_2.2 ft_X10_2 rfl cf_X10_19 dX10_one_31 ?_
      exact s_vret B.1.1 B.2.2.2.2 dX10_one_34
  exact MH.of hw ⟨rfl, rfl⟩ (by decide) (by simp [lg_sl, va_rf_cat, cat_i, cat_l, cat_r]) (mo_C_X10_one l0 l1) M0
def C_X10_raw_J52 (l0 : Nat) : Hp → Option (Unit × Hp) :=
  rt ()
set_option maxRecDepth 10000 in
theorem mo_C_X10_raw_J52 (l0 : Nat) : Mo (C_X10_raw_J52 l0) := by
  unfold C_X10_raw_J52
  repeat' (with_reducible first | assumption | exact mo_rt _ | exact mo_zt _ | exact mo_no | refine mo_ite ?_ ?_ | refine mo_hgI (fun _ => ?_) | refine mo_hgR (fun _ => ?_) | refine mo_hCv (fun _ => ?_) (fun _ => ?_) | refine mo_lq (fun _ => ?_) | refine mo_hpI ?_ | refine mo_hpR ?_ | refine mo_hAi (fun _ => ?_) | refine mo_hAr (fun _ => ?_) | refine mo_hWi ?_ | refine mo_hWr ?_ | refine mo_hLn (fun _ => ?_) | refine mo_hgL (fun _ => ?_) | refine mo_hpL ?_ | refine mo_hpZ ?_ | refine mo_bd ?_ (fun _ => ?_) | refine mo_hCi (fun _ => ?_) (fun _ => ?_) | refine mo_hNw (fun _ => ?_) | refine mo_hNa (fun _ => ?_) | refine mo_hCp ?_ | refine mo_hOi ?_ | refine mo_hAl (fun _ => ?_) | refine mo_hWl ?_ | refine mo_gd ?_ | refine mo_sLn (fun _ => ?_) | refine mo_sAt (fun _ => ?_) | refine mo_kLn (fun _ => ?_) | refine mo_kAt (fun _ => ?_))
set_option maxRecDepth 10000 in
theorem sc_X10_raw_J52 {g : Gm Hp Unit} (B : Bx g cX10_raw 3 RX10 voV none 0 0 "raw") {l0 : Nat} : Sm g 3 52 [] [] (C_X10_raw_J52 l0) := by
  unfold C_X10_raw_J52
  exact s_vret B.1.1 B.2.2.2.2 dX10_raw_52
def C_X10_raw_B2 (l0 : Nat) (kb : Option Nat → Int32 → Hp → Option (Unit × Hp)) (ke52 : Hp → Option (Unit × Hp)) (l1 : Option Nat) (l2 : Int32) : Hp → Option (Unit × Hp) :=
  hgR 9 0 l1 fun v1 =>
  hLn 0 v1 fun v2 =>
  if v2 ≤ l2 then (
    ke52
  ) else (
    hgI 12 2 (some l0) fun v3 =>
    if (600 : Int32) ≤ v3 then (
      ke52
    ) else (
      hgR 12 1 (some l0) fun v4 =>
      hgI 12 2 (some l0) fun v5 =>
      hgR 9 0 l1 fun v6 =>
      hAi v6 l2 fun v7 =>
      hWi v4 v5 v7 <|
      hgI 12 2 (some l0) fun v8 =>
      hpI 12 2 (some l0) (v8 + (1 : Int32)) <|
      kb l1 (l2 + 1)
    )
  )
def C_X10_raw_L2 (l0 : Nat) (ke52 : Hp → Option (Unit × Hp)) : Nat → Option Nat → Int32 → Hp → Option (Unit × Hp)
  | 0, _, _ => no
  | n + 1, l1, l2 => C_X10_raw_B2 l0 (fun l1 l2 => C_X10_raw_L2 l0 ke52 n l1 l2) ke52 l1 l2
set_option maxRecDepth 10000 in
theorem mo_C_X10_raw_B2 (l0 : Nat) (kb : Option Nat → Int32 → Hp → Option (Unit × Hp)) (ke52 : Hp → Option (Unit × Hp)) (hkb : ∀ (l1 : Option Nat) (l2 : Int32), Mo (kb l1 l2)) (hke52 : Mo (ke52)) (l1 : Option Nat) (l2 : Int32) : Mo (C_X10_raw_B2 l0 kb ke52 l1 l2) := by
  unfold C_X10_raw_B2
  repeat' (with_reducible first | assumption | exact mo_rt _ | exact mo_zt _ | exact mo_no | apply hkb | apply hke52 | refine mo_ite ?_ ?_ | refine mo_hgI (fun _ => ?_) | refine mo_hgR (fun _ => ?_) | refine mo_hCv (fun _ => ?_) (fun _ => ?_) | refine mo_lq (fun _ => ?_) | refine mo_hpI ?_ | refine mo_hpR ?_ | refine mo_hAi (fun _ => ?_) | refine mo_hAr (fun _ => ?_) | refine mo_hWi ?_ | refine mo_hWr ?_ | refine mo_hLn (fun _ => ?_) | refine mo_hgL (fun _ => ?_) | refine mo_hpL ?_ | refine mo_hpZ ?_ | refine mo_bd ?_ (fun _ => ?_) | refine mo_hCi (fun _ => ?_) (fun _ => ?_) | refine mo_hNw (fun _ => ?_) | refine mo_hNa (fun _ => ?_) | refine mo_hCp ?_ | refine mo_hOi ?_ | refine mo_hAl (fun _ => ?_) | refine mo_hWl ?_ | refine mo_gd ?_ | refine mo_sLn (fun _ => ?_) | refine mo_sAt (fun _ => ?_) | refine mo_kLn (fun _ => ?_) | refine mo_kAt (fun _ => ?_))
set_option maxRecDepth 10000 in
theorem mo_C_X10_raw_L2 (l0 : Nat) (ke52 : Hp → Option (Unit × Hp)) (hke52 : Mo (ke52)) : ∀ (n : Nat) (l1 : Option Nat) (l2 : Int32), Mo (C_X10_raw_L2 l0 ke52 n l1 l2)
  | 0, _, _ => mo_no
  | n + 1, l1, l2 => mo_C_X10_raw_B2 l0 _ ke52 (mo_C_X10_raw_L2 l0 ke52 hke52 n) hke52 l1 l2
set_option maxRecDepth 10000 in
theorem sc_X10_raw_B2 {g : Gm Hp Unit} {kb : Option Nat → Int32 → Hp → Option (Unit × Hp)} {ke52 : Hp → Option (Unit × Hp)} (B : Bx g cX10_raw 3 RX10 voV none 0 0 "raw") {l0 : Nat} (hkb : ∀ (l1 : Option Nat) (l2 : Int32), Sm g 3 2 [(0, va_rf (some l0)), (1, va_rf l1), (2, .int l2)] [] (kb l1 l2)) (hke52 : Sm g 3 52 [] [] (ke52)) (l1 : Option Nat) (l2 : Int32) : Sm g 3 2 [(0, va_rf (some l0)), (1, va_rf l1), (2, .int l2)] [] (C_X10_raw_B2 l0 kb ke52 l1 l2) := by
  unfold C_X10_raw_B2
  refine s_iload_n B.1.1 2 dX10_raw_2 rfl rfl ?_
  refine s_rload_n B.1.1 1 dX10_raw_3 rfl rfl ?_
  refine hp_getR B.1 9 0 rfl (by decide) inX7 (by decide) fk_X7_0 cf_X10_22 dX10_raw_4 (fun v1 => ?_)
  refine hp_Ln B.1 0 (fun _ => rfl) dX10_raw_7 (fun v2 => ?_)
  refine s_icmp_ge B.1.1 52 dX10_raw_8 (by decide) ?_ ?_
  · exact Sm.lvs [] rfl (hke52)
  · refine s_rload_n B.1.1 0 dX10_raw_11 rfl rfl ?_
    refine hp_getI B.1 12 2 rfl (by decide) inX10 (by decide) fk_X10_2.1 fk_X10_2.2 cf_X10_19 dX10_raw_12 (fun v3 => ?_)
    refine s_sipush (v := (600)) B.1.1 dX10_raw_15 (by decide) ?_
    refine s_icmp_ge B.1.1 52 dX10_raw_18 (by decide) ?_ ?_
    · exact Sm.lvs [] rfl (hke52)
    · refine s_rload_n B.1.1 0 dX10_raw_21 rfl rfl ?_
      refine hp_getR B.1 12 1 rfl (by decide) inX10 (by decide) fk_X10_1 cf_X10_9 dX10_raw_22 (fun v4 => ?_)
      refine s_rload_n B.1.1 0 dX10_raw_25 rfl rfl ?_
      refine hp_getI B.1 12 2 rfl (by decide) inX10 (by decide) fk_X10_2.1 fk_X10_2.2 cf_X10_19 dX10_raw_26 (fun v5 => ?_)
      refine s_rload_n B.1.1 1 dX10_raw_29 rfl rfl ?_
      refine hp_getR B.1 9 0 rfl (by decide) inX7 (by decide) fk_X7_0 cf_X10_22 dX10_raw_30 (fun v6 => ?_)
      refine s_iload_n B.1.1 2 dX10_raw_33 rfl rfl ?_
      refine hp_Ai B.1 dX10_raw_34 (fun v7 => ?_)
      refine hp_Wi B.1 dX10_raw_35 ?_
      refine s_rload_n B.1.1 0 dX10_raw_36 rfl rfl ?_
      refine s_dup B.1.1 dX10_raw_37 rfl ?_
      refine hp_getI B.1 12 2 rfl (by decide) inX10 (by decide) fk_X10_2.1 fk_X10_2.2 cf_X10_19 dX10_raw_38 (fun v8 => ?_)
      refine s_iconst (v := 1) B.1.1 dX10_raw_41 (by decide) ?_
      refine s_iadd B.1.1 dX10_raw_42 ?_
      refine hp_putI B.1 12 2 rfl (by decide) inX10 tyX10 tyX10_ok nmX10 (by decide) fk_X10_2.1 fk_X10_2.2 ft_X10_2 rfl cf_X10_19 dX10_raw_43 ?_
      refine s_iinc (v := l2 + 1) (lv' := [(2, .int (l2 + 1)), (0, va_rf (some l0)), (1, va_rf l1)]) B.1.1 2 dX10_raw_46 rfl rfl (by decide) (by simp [va_rf_cat, cat_i, cat_l, cat_r]) ?_
      refine s_goto B.1.1 2 dX10_raw_49 (by decide) ?_
      exact Sm.lvs [1, 2, 0] rfl (hkb l1 (l2 + 1))
set_option maxRecDepth 10000 in
theorem sc_X10_raw_L2 {g : Gm Hp Unit} {ke52 : Hp → Option (Unit × Hp)} (B : Bx g cX10_raw 3 RX10 voV none 0 0 "raw") {l0 : Nat} (hke52 : Sm g 3 52 [] [] (ke52)) : ∀ (n : Nat) (l1 : Option Nat) (l2 : Int32), Sm g 3 2 [(0, va_rf (some l0)), (1, va_rf l1), (2, .int l2)] [] (C_X10_raw_L2 l0 ke52 n l1 l2)
  | 0, _, _ => Sm.fail
  | n + 1, l1, l2 => sc_X10_raw_B2 B (sc_X10_raw_L2 B hke52 n) hke52 l1 l2
def C_X10_raw (l0 : Nat) (l1 : Option Nat) : Hp → Option (Unit × Hp) :=
  C_X10_raw_L2 l0 (C_X10_raw_J52 l0) fu l1 (0 : Int32)
set_option maxRecDepth 10000 in
theorem mo_C_X10_raw (l0 : Nat) (l1 : Option Nat) : Mo (C_X10_raw l0 l1) := by
  unfold C_X10_raw
  repeat' (with_reducible first | assumption | exact mo_rt _ | exact mo_zt _ | exact mo_no | apply mo_C_X10_raw_L2 | apply mo_C_X10_raw_J52 | refine mo_ite ?_ ?_ | refine mo_hgI (fun _ => ?_) | refine mo_hgR (fun _ => ?_) | refine mo_hCv (fun _ => ?_) (fun _ => ?_) | refine mo_lq (fun _ => ?_) | refine mo_hpI ?_ | refine mo_hpR ?_ | refine mo_hAi (fun _ => ?_) | refine mo_hAr (fun _ => ?_) | refine mo_hWi ?_ | refine mo_hWr ?_ | refine mo_hLn (fun _ => ?_) | refine mo_hgL (fun _ => ?_) | refine mo_hpL ?_ | refine mo_hpZ ?_ | refine mo_bd ?_ (fun _ => ?_) | refine mo_hCi (fun _ => ?_) (fun _ => ?_) | refine mo_hNw (fun _ => ?_) | refine mo_hNa (fun _ => ?_) | refine mo_hCp ?_ | refine mo_hOi ?_ | refine mo_hAl (fun _ => ?_) | refine mo_hWl ?_ | refine mo_gd ?_ | refine mo_sLn (fun _ => ?_) | refine mo_sAt (fun _ => ?_) | refine mo_kLn (fun _ => ?_) | refine mo_kAt (fun _ => ?_))
set_option maxRecDepth 10000 in
theorem mC_X10_raw {w : Wd} (hw : Wc w) (l0 : Nat) (l1 : Option Nat) : MH w yX10_raw cX10_raw 3 none 0 0 voV [va_rf (some l0), va_rf l1] (C_X10_raw l0 l1) := by
  have M0 : ∀ g : Gm Hp Unit, g.1 = w → Bx g cX10_raw 3 RX10 voV none 0 0 "raw" → Sm g 3 0 (lv_args 0 [va_rf (some l0), va_rf l1]) [] (C_X10_raw l0 l1) := by
    intro g hg B
    subst hg
    unfold C_X10_raw
    refine W_lva (lv := [(0, va_rf (some l0)), (1, va_rf l1)]) (by simp [lv_args, va_rf_cat, cat_i, cat_l, cat_r]) ?_
    refine s_iconst (v := 0) B.1.1 dX10_raw_0 (by decide) ?_
    refine s_istore_n (i := 2) (lv' := [(2, .int (0 : Int32)), (0, va_rf (some l0)), (1, va_rf l1)]) B.1.1 dX10_raw_1 rfl (by decide) (by simp [va_rf_cat, cat_i, cat_l, cat_r]) ?_
    exact Sm.lvs [1, 2, 0] rfl (sc_X10_raw_L2 B (sc_X10_raw_J52 B) fu l1 (0 : Int32))
  exact MH.of hw ⟨rfl, rfl⟩ (by decide) (by simp [lg_sl, va_rf_cat, cat_i, cat_l, cat_r]) (mo_C_X10_raw l0 l1) M0
def C_X10_two (l0 : Nat) (l1 : Int32) : Hp → Option (Unit × Hp) :=
  hgI 12 2 (some l0) fun v1 =>
  if (600 : Int32) < (v1 + (2 : Int32)) then (
    rt ()
  ) else (
    hgR 12 1 (some l0) fun v2 =>
    hgI 12 2 (some l0) fun v3 =>
    hWi v2 v3 ((l1 >>> ((8 : Int32) &&& 31)) &&& (255 : Int32)) <|
    hgR 12 1 (some l0) fun v4 =>
    hgI 12 2 (some l0) fun v5 =>
    hWi v4 (v5 + (1 : Int32)) (l1 &&& (255 : Int32)) <|
    hgI 12 2 (some l0) fun v6 =>
    hpI 12 2 (some l0) (v6 + (2 : Int32)) <|
    rt ()
  )
set_option maxRecDepth 10000 in
theorem mo_C_X10_two (l0 : Nat) (l1 : Int32) : Mo (C_X10_two l0 l1) := by
  unfold C_X10_two
  repeat' (with_reducible first | assumption | exact mo_rt _ | exact mo_zt _ | exact mo_no | refine mo_ite ?_ ?_ | refine mo_hgI (fun _ => ?_) | refine mo_hgR (fun _ => ?_) | refine mo_hCv (fun _ => ?_) (fun _ => ?_) | refine mo_lq (fun _ => ?_) | refine mo_hpI ?_ | refine mo_hpR ?_ | refine mo_hAi (fun _ => ?_) | refine mo_hAr (fun _ => ?_) | refine mo_hWi ?_ | refine mo_hWr ?_ | refine mo_hLn (fun _ => ?_) | refine mo_hgL (fun _ => ?_) | refine mo_hpL ?_ | refine mo_hpZ ?_ | refine mo_bd ?_ (fun _ => ?_) | refine mo_hCi (fun _ => ?_) (fun _ => ?_) | refine mo_hNw (fun _ => ?_) | refine mo_hNa (fun _ => ?_) | refine mo_hCp ?_ | refine mo_hOi ?_ | refine mo_hAl (fun _ => ?_) | refine mo_hWl ?_ | refine mo_gd ?_ | refine mo_sLn (fun _ => ?_) | refine mo_sAt (fun _ => ?_) | refine mo_kLn (fun _ => ?_) | refine mo_kAt (fun _ => ?_))
set_option maxRecDepth 10000 in
theorem mC_X10_two {w : Wd} (hw : Wc w) (l0 : Nat) (l1 : Int32) : MH w yX10_two cX10_two 2 none 0 0 voV [va_rf (some l0), .int l1] (C_X10_two l0 l1) := by
  have M0 : ∀ g : Gm Hp Unit, g.1 = w → Bx g cX10_two 2 RX10 voV none 0 0 "two" → Sm g 2 0 (lv_args 0 [va_rf (some l0), .int l1]) [] (C_X10_two l0 l1) := by
    intro g hg B
    subst hg
    unfold C_X10_two
    refine W_lva (lv := [(0, va_rf (some l0)), (1, .int l1)]) (by simp [lv_args, va_rf_cat, cat_i, cat_l, cat_r]) ?_
    refine s_rload_n B.1.1 0 dX10_two_0 rfl rfl ?_
    refine hp_getI B.1 12 2 rfl (by decide) inX10 (by decide) fk_X10_2.1 fk_X10_2.2 cf_X10_19 dX10_two_1 (fun v1 => ?_)
    refine s_iconst (v := 2) B.1.1 dX10_two_4 (by decide) ?_
    refine s_iadd B.1.1 dX10_two_5 ?_
    refine s_sipush (v := (600)) B.1.1 dX10_two_6 (by decide) ?_
    refine s_icmp_gt B.1.1 55 dX10_two_9 (by decide) ?_ ?_
    · exact s_vret B.1.1 B.2.2.2.2 dX10_two_55
    · refine s_rload_n B.1.1 0 dX10_two_12 rfl rfl ?_
      refine hp_getR B.1 12 1 rfl (by decide) inX10 (by decide) fk_X10_1 cf_X10_9 dX10_two_13 (fun v2 => ?_)
      refine s_rload_n B.1.1 0 dX10_two_16 rfl rfl ?_
      refine hp_getI B.1 12 2 rfl (by decide) inX10 (by decide) fk_X10_2.1 fk_X10_2.2 cf_X10_19 dX10_two_17 (fun v3 => ?_)
      refine s_iload_n B.1.1 1 dX10_two_20 rfl rfl ?_
      refine s_bipush (v := (8)) B.1.1 dX10_two_21 (by decide) ?_
      refine s_ishr B.1.1 dX10_two_23 ?_
      refine s_sipush (v := (255)) B.1.1 dX10_two_24 (by decide) ?_
      refine s_iand B.1.1 dX10_two_27 ?_
      refine hp_Wi B.1 dX10_two_28 ?_
      refine s_rload_n B.1.1 0 dX10_two_29 rfl rfl ?_
      refine hp_getR B.1 12 1 rfl (by decide) inX10 (by decide) fk_X10_1 cf_X10_9 dX10_two_30 (fun v4 => ?_)
      refine s_rload_n B.1.1 0 dX10_two_33 rfl rfl ?_
      refine hp_getI B.1 12 2 rfl (by decide) inX10 (by decide) fk_X10_2.1 fk_X10_2.2 cf_X10_19 dX10_two_34 (fun v5 => ?_)
      refine s_iconst (v := 1) B.1.1 dX10_two_37 (by decide) ?_
      refine s_iadd B.1.1 dX10_two_38 ?_
      refine s_iload_n B.1.1 1 dX10_two_39 rfl rfl ?_
      refine s_sipush (v := (255)) B.1.1 dX10_two_40 (by decide) ?_
      refine s_iand B.1.1 dX10_two_43 ?_
      refine hp_Wi B.1 dX10_two_44 ?_
      refine s_rload_n B.1.1 0 dX10_two_45 rfl rfl ?_
      refine s_dup B.1.1 dX10_two_46 rfl ?_
      refine hp_getI B.1 12 2 rfl (by decide) inX10 (by decide) fk_X10_2.1 fk_X10_2.2 cf_X10_19 dX10_two_47 (fun v6 => ?_)
      refine s_iconst (v := 2) B.1.1 dX10_two_50 (by decide) ?_
      refine s_iadd B.1.1 dX10_two_51 ?_
      refine hp_putI B.1 12 2 rfl (by decide) inX10 tyX10 tyX10_ok nmX10 (by decide) fk_X10_2.1 fk_X10_2.2 ft_X10_2 rfl cf_X10_19 dX10_two_52 ?_
      exact s_vret B.1.1 B.2.2.2.2 dX10_two_55
  exact MH.of hw ⟨rfl, rfl⟩ (by decide) (by simp [lg_sl, va_rf_cat, cat_i, cat_l, cat_r]) (mo_C_X10_two l0 l1) M0
def C_X10_variable_J73 (l0 : Nat) : Hp → Option (Unit × Hp) :=
  rt ()
set_option maxRecDepth 10000 in
theorem mo_C_X10_variable_J73 (l0 : Nat) : Mo (C_X10_variable_J73 l0) := by
  unfold C_X10_variable_J73
  repeat' (with_reducible first | assumption | exact mo_rt _ | exact mo_zt _ | exact mo_no | refine mo_ite ?_ ?_ | refine mo_hgI (fun _ => ?_) | refine mo_hgR (fun _ => ?_) | refine mo_hCv (fun _ => ?_) (fun _ => ?_) | refine mo_lq (fun _ => ?_) | refine mo_hpI ?_ | refine mo_hpR ?_ | refine mo_hAi (fun _ => ?_) | refine mo_hAr (fun _ => ?_) | refine mo_hWi ?_ | refine mo_hWr ?_ | refine mo_hLn (fun _ => ?_) | refine mo_hgL (fun _ => ?_) | refine mo_hpL ?_ | refine mo_hpZ ?_ | refine mo_bd ?_ (fun _ => ?_) | refine mo_hCi (fun _ => ?_) (fun _ => ?_) | refine mo_hNw (fun _ => ?_) | refine mo_hNa (fun _ => ?_) | refine mo_hCp ?_ | refine mo_hOi ?_ | refine mo_hAl (fun _ => ?_) | refine mo_hWl ?_ | refine mo_gd ?_ | refine mo_sLn (fun _ => ?_) | refine mo_sAt (fun _ => ?_) | refine mo_kLn (fun _ => ?_) | refine mo_kAt (fun _ => ?_))
set_option maxRecDepth 10000 in
theorem sc_X10_variable_J73 {g : Gm Hp Unit} (B : Bx g cX10_variable 4 RX10 voV none 0 0 "variable") {l0 : Nat} : Sm g 4 73 [] [] (C_X10_variable_J73 l0) := by
  unfold C_X10_variable_J73
  exact s_vret B.1.1 B.2.2.2.2 dX10_variable_73
def C_X10_variable_J66 (l0 : Nat) : Hp → Option (Unit × Hp) :=
  rt ()
set_option maxRecDepth 10000 in
theorem mo_C_X10_variable_J66 (l0 : Nat) : Mo (C_X10_variable_J66 l0) := by
  unfold C_X10_variable_J66
  repeat' (with_reducible first | assumption | exact mo_rt _ | exact mo_zt _ | exact mo_no | refine mo_ite ?_ ?_ | refine mo_hgI (fun _ => ?_) | refine mo_hgR (fun _ => ?_) | refine mo_hCv (fun _ => ?_) (fun _ => ?_) | refine mo_lq (fun _ => ?_) | refine mo_hpI ?_ | refine mo_hpR ?_ | refine mo_hAi (fun _ => ?_) | refine mo_hAr (fun _ => ?_) | refine mo_hWi ?_ | refine mo_hWr ?_ | refine mo_hLn (fun _ => ?_) | refine mo_hgL (fun _ => ?_) | refine mo_hpL ?_ | refine mo_hpZ ?_ | refine mo_bd ?_ (fun _ => ?_) | refine mo_hCi (fun _ => ?_) (fun _ => ?_) | refine mo_hNw (fun _ => ?_) | refine mo_hNa (fun _ => ?_) | refine mo_hCp ?_ | refine mo_hOi ?_ | refine mo_hAl (fun _ => ?_) | refine mo_hWl ?_ | refine mo_gd ?_ | refine mo_sLn (fun _ => ?_) | refine mo_sAt (fun _ => ?_) | refine mo_kLn (fun _ => ?_) | refine mo_kAt (fun _ => ?_))
set_option maxRecDepth 10000 in
theorem sc_X10_variable_J66 {g : Gm Hp Unit} (B : Bx g cX10_variable 4 RX10 voV none 0 0 "variable") {l0 : Nat} : Sm g 4 66 [] [] (C_X10_variable_J66 l0) := by
  unfold C_X10_variable_J66
  exact s_vret B.1.1 B.2.2.2.2 dX10_variable_66
def C_X10_variable_J46 (l0 : Nat) (kb : Int32 → Int32 → Hp → Option (Unit × Hp)) (ke66 : Hp → Option (Unit × Hp)) (ke73 : Hp → Option (Unit × Hp)) (l2 : Int32) (l3 : Int32) (s0 : Option Nat) (s1 : Int32) (s2 : Int32) : Hp → Option (Unit × Hp) :=
  hWi s0 s1 s2 <|
  hgI 12 2 (some l0) fun v1 =>
  hpI 12 2 (some l0) (v1 + (1 : Int32)) <|
  lq (l2 >>> ((7 : Int32) &&& 31)) fun x2 =>
  if x2 = 0 then (
    ke66
  ) else (
    kb x2 (l3 + 1)
  )
set_option maxRecDepth 10000 in
theorem mo_C_X10_variable_J46 (l0 : Nat) (kb : Int32 → Int32 → Hp → Option (Unit × Hp)) (ke66 : Hp → Option (Unit × Hp)) (ke73 : Hp → Option (Unit × Hp)) (hkb : ∀ (l2 : Int32) (l3 : Int32), Mo (kb l2 l3)) (hke66 : Mo (ke66)) (hke73 : Mo (ke73)) (l2 : Int32) (l3 : Int32) (s0 : Option Nat) (s1 : Int32) (s2 : Int32) : Mo (C_X10_variable_J46 l0 kb ke66 ke73 l2 l3 s0 s1 s2) := by
  unfold C_X10_variable_J46
  repeat' (with_reducible first | assumption | exact mo_rt _ | exact mo_zt _ | exact mo_no | apply hkb | apply hke66 | apply hke73 | refine mo_ite ?_ ?_ | refine mo_hgI (fun _ => ?_) | refine mo_hgR (fun _ => ?_) | refine mo_hCv (fun _ => ?_) (fun _ => ?_) | refine mo_lq (fun _ => ?_) | refine mo_hpI ?_ | refine mo_hpR ?_ | refine mo_hAi (fun _ => ?_) | refine mo_hAr (fun _ => ?_) | refine mo_hWi ?_ | refine mo_hWr ?_ | refine mo_hLn (fun _ => ?_) | refine mo_hgL (fun _ => ?_) | refine mo_hpL ?_ | refine mo_hpZ ?_ | refine mo_bd ?_ (fun _ => ?_) | refine mo_hCi (fun _ => ?_) (fun _ => ?_) | refine mo_hNw (fun _ => ?_) | refine mo_hNa (fun _ => ?_) | refine mo_hCp ?_ | refine mo_hOi ?_ | refine mo_hAl (fun _ => ?_) | refine mo_hWl ?_ | refine mo_gd ?_ | refine mo_sLn (fun _ => ?_) | refine mo_sAt (fun _ => ?_) | refine mo_kLn (fun _ => ?_) | refine mo_kAt (fun _ => ?_))
set_option maxRecDepth 10000 in
theorem sc_X10_variable_J46 {g : Gm Hp Unit} {kb : Int32 → Int32 → Hp → Option (Unit × Hp)} {ke66 : Hp → Option (Unit × Hp)} {ke73 : Hp → Option (Unit × Hp)} (B : Bx g cX10_variable 4 RX10 voV none 0 0 "variable") {l0 : Nat} (hkb : ∀ (l2 : Int32) (l3 : Int32), Sm g 4 4 [(0, va_rf (some l0)), (2, .int l2), (3, .int l3)] [] (kb l2 l3)) (hke66 : Sm g 4 66 [] [] (ke66)) (hke73 : Sm g 4 73 [] [] (ke73)) (l2 : Int32) (l3 : Int32) (s0 : Option Nat) (s1 : Int32) (s2 : Int32) : Sm g 4 46 [(0, va_rf (some l0)), (2, .int l2), (3, .int l3)] [.int s2, .int s1, va_rf s0] (C_X10_variable_J46 l0 kb ke66 ke73 l2 l3 s0 s1 s2) := by
  unfold C_X10_variable_J46
  refine hp_Wi B.1 dX10_variable_46 ?_
  refine s_rload_n B.1.1 0 dX10_variable_47 rfl rfl ?_
  refine s_dup B.1.1 dX10_variable_48 rfl ?_
  refine hp_getI B.1 12 2 rfl (by decide) inX10 (by decide) fk_X10_2.1 fk_X10_2.2 cf_X10_19 dX10_variable_49 (fun v1 => ?_)
  refine s_iconst (v := 1) B.1.1 dX10_variable_52 (by decide) ?_
  refine s_iadd B.1.1 dX10_variable_53 ?_
  refine hp_putI B.1 12 2 rfl (by decide) inX10 tyX10 tyX10_ok nmX10 (by decide) fk_X10_2.1 fk_X10_2.2 ft_X10_2 rfl cf_X10_19 dX10_variable_54 ?_
  refine s_iload_n B.1.1 1 dX10_variable_57 rfl rfl ?_
  refine s_bipush (v := (7)) B.1.1 dX10_variable_58 (by decide) ?_
  refine s_ishr B.1.1 dX10_variable_60 ?_
  refine s_lqi (fun x2 => ?_)
  refine s_istore_n (i := 2) (lv' := [(2, .int x2), (0, va_rf (some l0)), (3, .int l3)]) B.1.1 dX10_variable_61 rfl (by decide) rfl ?_
  refine s_iload_n B.1.1 0 dX10_variable_62 rfl rfl ?_
  refine s_if_ne B.1.1 67 dX10_variable_63 (by decide) ?_ ?_
  · refine s_iinc (v := l3 + 1) (lv' := [(3, .int (l3 + 1)), (2, .int x2), (0, va_rf (some l0))]) B.1.1 2 dX10_variable_67 rfl rfl (by decide) rfl ?_
    refine s_goto B.1.1 4 dX10_variable_70 (by decide) ?_
    exact Sm.lvs [2, 1, 0] rfl (hkb x2 (l3 + 1))
  · exact Sm.lvs [] rfl (hke66)
def C_X10_variable_B4 (l0 : Nat) (kb : Int32 → Int32 → Hp → Option (Unit × Hp)) (ke66 : Hp → Option (Unit × Hp)) (ke73 : Hp → Option (Unit × Hp)) (l2 : Int32) (l3 : Int32) : Hp → Option (Unit × Hp) :=
  if (4 : Int32) ≤ l3 then (
    ke73
  ) else (
    hgI 12 2 (some l0) fun v3 =>
    if (600 : Int32) ≤ v3 then (
      ke73
    ) else (
      hgR 12 1 (some l0) fun v4 =>
      hgI 12 2 (some l0) fun v5 =>
      if (128 : Int32) ≤ l2 then (
        C_X10_variable_J46 l0 kb ke66 ke73 l2 l3 v4 v5 ((l2 &&& (127 : Int32)) ||| (128 : Int32))
      ) else (
        C_X10_variable_J46 l0 kb ke66 ke73 l2 l3 v4 v5 l2
      )
    )
  )
def C_X10_variable_L4 (l0 : Nat) (ke66 : Hp → Option (Unit × Hp)) (ke73 : Hp → Option (Unit × Hp)) : Nat → Int32 → Int32 → Hp → Option (Unit × Hp)
  | 0, _, _ => no
  | n + 1, l2, l3 => C_X10_variable_B4 l0 (fun l2 l3 => C_X10_variable_L4 l0 ke66 ke73 n l2 l3) ke66 ke73 l2 l3
set_option maxRecDepth 10000 in
theorem mo_C_X10_variable_B4 (l0 : Nat) (kb : Int32 → Int32 → Hp → Option (Unit × Hp)) (ke66 : Hp → Option (Unit × Hp)) (ke73 : Hp → Option (Unit × Hp)) (hkb : ∀ (l2 : Int32) (l3 : Int32), Mo (kb l2 l3)) (hke66 : Mo (ke66)) (hke73 : Mo (ke73)) (l2 : Int32) (l3 : Int32) : Mo (C_X10_variable_B4 l0 kb ke66 ke73 l2 l3) := by
  unfold C_X10_variable_B4
  repeat' (with_reducible first | assumption | exact mo_rt _ | exact mo_zt _ | exact mo_no | apply mo_C_X10_variable_J46 | apply hkb | apply hke66 | apply hke73 | refine mo_ite ?_ ?_ | refine mo_hgI (fun _ => ?_) | refine mo_hgR (fun _ => ?_) | refine mo_hCv (fun _ => ?_) (fun _ => ?_) | refine mo_lq (fun _ => ?_) | refine mo_hpI ?_ | refine mo_hpR ?_ | refine mo_hAi (fun _ => ?_) | refine mo_hAr (fun _ => ?_) | refine mo_hWi ?_ | refine mo_hWr ?_ | refine mo_hLn (fun _ => ?_) | refine mo_hgL (fun _ => ?_) | refine mo_hpL ?_ | refine mo_hpZ ?_ | refine mo_bd ?_ (fun _ => ?_) | refine mo_hCi (fun _ => ?_) (fun _ => ?_) | refine mo_hNw (fun _ => ?_) | refine mo_hNa (fun _ => ?_) | refine mo_hCp ?_ | refine mo_hOi ?_ | refine mo_hAl (fun _ => ?_) | refine mo_hWl ?_ | refine mo_gd ?_ | refine mo_sLn (fun _ => ?_) | refine mo_sAt (fun _ => ?_) | refine mo_kLn (fun _ => ?_) | refine mo_kAt (fun _ => ?_))
set_option maxRecDepth 10000 in
theorem mo_C_X10_variable_L4 (l0 : Nat) (ke66 : Hp → Option (Unit × Hp)) (ke73 : Hp → Option (Unit × Hp)) (hke66 : Mo (ke66)) (hke73 : Mo (ke73)) : ∀ (n : Nat) (l2 : Int32) (l3 : Int32), Mo (C_X10_variable_L4 l0 ke66 ke73 n l2 l3)
  | 0, _, _ => mo_no
  | n + 1, l2, l3 => mo_C_X10_variable_B4 l0 _ ke66 ke73 (mo_C_X10_variable_L4 l0 ke66 ke73 hke66 hke73 n) hke66 hke73 l2 l3
set_option maxRecDepth 10000 in
theorem sc_X10_variable_B4 {g : Gm Hp Unit} {kb : Int32 → Int32 → Hp → Option (Unit × Hp)} {ke66 : Hp → Option (Unit × Hp)} {ke73 : Hp → Option (Unit × Hp)} (B : Bx g cX10_variable 4 RX10 voV none 0 0 "variable") {l0 : Nat} (hkb : ∀ (l2 : Int32) (l3 : Int32), Sm g 4 4 [(0, va_rf (some l0)), (2, .int l2), (3, .int l3)] [] (kb l2 l3)) (hke66 : Sm g 4 66 [] [] (ke66)) (hke73 : Sm g 4 73 [] [] (ke73)) (l2 : Int32) (l3 : Int32) : Sm g 4 4 [(0, va_rf (some l0)), (2, .int l2), (3, .int l3)] [] (C_X10_variable_B4 l0 kb ke66 ke73 l2 l3) := by
  unfold C_X10_variable_B4
  refine s_iload_n B.1.1 2 dX10_variable_4 rfl rfl ?_
  refine s_iconst (v := 4) B.1.1 dX10_variable_5 (by decide) ?_
  refine s_icmp_ge B.1.1 73 dX10_variable_6 (by decide) ?_ ?_
  · exact Sm.lvs [] rfl (hke73)
  · refine s_rload_n B.1.1 0 dX10_variable_9 rfl rfl ?_
    refine hp_getI B.1 12 2 rfl (by decide) inX10 (by decide) fk_X10_2.1 fk_X10_2.2 cf_X10_19 dX10_variable_10 (fun v3 => ?_)
    refine s_sipush (v := (600)) B.1.1 dX10_variable_13 (by decide) ?_
    refine s_icmp_ge B.1.1 73 dX10_variable_16 (by decide) ?_ ?_
    · exact Sm.lvs [] rfl (hke73)
    · refine s_rload_n B.1.1 0 dX10_variable_19 rfl rfl ?_
      refine hp_getR B.1 12 1 rfl (by decide) inX10 (by decide) fk_X10_1 cf_X10_9 dX10_variable_20 (fun v4 => ?_)
      refine s_rload_n B.1.1 0 dX10_variable_23 rfl rfl ?_
      refine hp_getI B.1 12 2 rfl (by decide) inX10 (by decide) fk_X10_2.1 fk_X10_2.2 cf_X10_19 dX10_variable_24 (fun v5 => ?_)
      refine s_iload_n B.1.1 1 dX10_variable_27 rfl rfl ?_
      refine s_sipush (v := (128)) B.1.1 dX10_variable_28 (by decide) ?_
      refine s_icmp_ge B.1.1 38 dX10_variable_31 (by decide) ?_ ?_
      · refine s_iload_n B.1.1 1 dX10_variable_38 rfl rfl ?_
        refine s_bipush (v := (127)) B.1.1 dX10_variable_39 (by decide) ?_
        refine s_iand B.1.1 dX10_variable_41 ?_
        refine s_sipush (v := (128)) B.1.1 dX10_variable_42 (by decide) ?_
        refine s_ior B.1.1 dX10_variable_45 ?_
        exact Sm.lvs [0, 1, 2] rfl (sc_X10_variable_J46 B hkb hke66 hke73 l2 l3 v4 v5 ((l2 &&& (127 : Int32)) ||| (128 : Int32)))
      · refine s_iload_n B.1.1 1 dX10_variable_34 rfl rfl ?_
        refine s_goto B.1.1 46 dX10_variable_35 (by decide) ?_
        exact Sm.lvs [0, 1, 2] rfl (sc_X10_variable_J46 B hkb hke66 hke73 l2 l3 v4 v5 l2)
set_option maxRecDepth 10000 in
theorem sc_X10_variable_L4 {g : Gm Hp Unit} {ke66 : Hp → Option (Unit × Hp)} {ke73 : Hp → Option (Unit × Hp)} (B : Bx g cX10_variable 4 RX10 voV none 0 0 "variable") {l0 : Nat} (hke66 : Sm g 4 66 [] [] (ke66)) (hke73 : Sm g 4 73 [] [] (ke73)) : ∀ (n : Nat) (l2 : Int32) (l3 : Int32), Sm g 4 4 [(0, va_rf (some l0)), (2, .int l2), (3, .int l3)] [] (C_X10_variable_L4 l0 ke66 ke73 n l2 l3)
  | 0, _, _ => Sm.fail
  | n + 1, l2, l3 => sc_X10_variable_B4 B (sc_X10_variable_L4 B hke66 hke73 n) hke66 hke73 l2 l3
def C_X10_variable (l0 : Nat) (l1 : Int32) : Hp → Option (Unit × Hp) :=
  C_X10_variable_L4 l0 (C_X10_variable_J66 l0) (C_X10_variable_J73 l0) fu l1 (0 : Int32)
set_option maxRecDepth 10000 in
theorem mo_C_X10_variable (l0 : Nat) (l1 : Int32) : Mo (C_X10_variable l0 l1) := by
  unfold C_X10_variable
  repeat' (with_reducible first | assumption | exact mo_rt _ | exact mo_zt _ | exact mo_no | apply mo_C_X10_variable_L4 | apply mo_C_X10_variable_J66 | apply mo_C_X10_variable_J73 | refine mo_ite ?_ ?_ | refine mo_hgI (fun _ => ?_) | refine mo_hgR (fun _ => ?_) | refine mo_hCv (fun _ => ?_) (fun _ => ?_) | refine mo_lq (fun _ => ?_) | refine mo_hpI ?_ | refine mo_hpR ?_ | refine mo_hAi (fun _ => ?_) | refine mo_hAr (fun _ => ?_) | refine mo_hWi ?_ | refine mo_hWr ?_ | refine mo_hLn (fun _ => ?_) | refine mo_hgL (fun _ => ?_) | refine mo_hpL ?_ | refine mo_hpZ ?_ | refine mo_bd ?_ (fun _ => ?_) | refine mo_hCi (fun _ => ?_) (fun _ => ?_) | refine mo_hNw (fun _ => ?_) | refine mo_hNa (fun _ => ?_) | refine mo_hCp ?_ | refine mo_hOi ?_ | refine mo_hAl (fun _ => ?_) | refine mo_hWl ?_ | refine mo_gd ?_ | refine mo_sLn (fun _ => ?_) | refine mo_sAt (fun _ => ?_) | refine mo_kLn (fun _ => ?_) | refine mo_kAt (fun _ => ?_))
set_option maxRecDepth 10000 in
theorem mC_X10_variable {w : Wd} (hw : Wc w) (l0 : Nat) (l1 : Int32) : MH w yX10_variable cX10_variable 4 none 0 0 voV [va_rf (some l0), .int l1] (C_X10_variable l0 l1) := by
  have M0 : ∀ g : Gm Hp Unit, g.1 = w → Bx g cX10_variable 4 RX10 voV none 0 0 "variable" → Sm g 4 0 (lv_args 0 [va_rf (some l0), .int l1]) [] (C_X10_variable l0 l1) := by
    intro g hg B
    subst hg
    unfold C_X10_variable
    refine W_lva (lv := [(0, va_rf (some l0)), (1, .int l1)]) (by simp [lv_args, va_rf_cat, cat_i, cat_l, cat_r]) ?_
    refine s_iload_n B.1.1 1 dX10_variable_0 rfl rfl ?_
    refine s_istore_n (i := 2) (lv' := [(2, .int l1), (0, va_rf (some l0)), (1, .int l1)]) B.1.1 dX10_variable_1 rfl (by decide) rfl ?_
    refine s_iconst (v := 0) B.1.1 dX10_variable_2 (by decide) ?_
    refine s_istore_n (i := 3) (lv' := [(3, .int (0 : Int32)), (2, .int l1), (0, va_rf (some l0)), (1, .int l1)]) B.1.1 dX10_variable_3 rfl (by decide) rfl ?_
    exact Sm.lvs [2, 1, 0] rfl (sc_X10_variable_L4 B (sc_X10_variable_J66 B) (sc_X10_variable_J73 B) fu l1 (0 : Int32))
  exact MH.of hw ⟨rfl, rfl⟩ (by decide) (by simp [lg_sl, va_rf_cat, cat_i, cat_l, cat_r]) (mo_C_X10_variable l0 l1) M0
