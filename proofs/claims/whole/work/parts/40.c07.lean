def C_X9_init (l0 : Nat) (l1 : Option Nat) (l2 : Int32) : Hp → Option (Unit × Hp) :=
  hOi (some l0) <|
  hpR 11 0 (some l0) l1 <|
  hpI 11 1 (some l0) l2 <|
  rt ()
set_option maxRecDepth 10000 in
theorem mo_C_X9_init (l0 : Nat) (l1 : Option Nat) (l2 : Int32) : Mo (C_X9_init l0 l1 l2) := by
  unfold C_X9_init
  repeat' (with_reducible first | assumption | exact mo_rt _ | exact mo_zt _ | exact mo_no | refine mo_ite ?_ ?_ | refine mo_hgI (fun _ => ?_) | refine mo_hgR (fun _ => ?_) | refine mo_hCv (fun _ => ?_) (fun _ => ?_) | refine mo_lq (fun _ => ?_) | refine mo_hpI ?_ | refine mo_hpR ?_ | refine mo_hAi (fun _ => ?_) | refine mo_hAr (fun _ => ?_) | refine mo_hWi ?_ | refine mo_hWr ?_ | refine mo_hLn (fun _ => ?_) | refine mo_hgL (fun _ => ?_) | refine mo_hpL ?_ | refine mo_hpZ ?_ | refine mo_bd ?_ (fun _ => ?_) | refine mo_hCi (fun _ => ?_) (fun _ => ?_) | refine mo_hNw (fun _ => ?_) | refine mo_hNa (fun _ => ?_) | refine mo_hCp ?_ | refine mo_hOi ?_ | refine mo_hAl (fun _ => ?_) | refine mo_hWl ?_ | refine mo_gd ?_ | refine mo_sLn (fun _ => ?_) | refine mo_sAt (fun _ => ?_) | refine mo_kLn (fun _ => ?_) | refine mo_kAt (fun _ => ?_))
set_option maxRecDepth 10000 in
theorem mC_X9_init {w : Wd} (hw : Wc w) (l0 : Nat) (l1 : Option Nat) (l2 : Int32) : MH w yX9_init cX9_init 3 none 1 20 voV [va_rf (some l0), va_rf l1, .int l2] (C_X9_init l0 l1 l2) := by
  have M0 : ∀ g : Gm Hp Unit, g.1 = w → Bx g cX9_init 3 RX9 voV none 1 20 "<init>" → Sm g 3 0 (lv_args 0 [va_rf (some l0), va_rf l1, .int l2]) [] (C_X9_init l0 l1 l2) := by
    intro g hg B
    subst hg
    unfold C_X9_init
    refine W_lva (lv := [(0, va_rf (some l0)), (1, va_rf l1), (2, .int l2)]) (by simp [lv_args, va_rf_cat, cat_i, cat_l, cat_r]) ?_
    refine s_rload_n B.1.1 0 dX9_init_0 rfl rfl ?_
    refine hp_Oi B.1 tw_1207 oi_in oi_code (by decide) (Nat.le_of_ble_eq_true rfl) dX9_init_1 ?_
    refine s_rload_n B.1.1 0 dX9_init_4 rfl rfl ?_
    refine s_rload_n B.1.1 1 dX9_init_5 rfl rfl ?_
    refine hp_putRF B.1 11 0 rfl (by decide) inX9 tyX9 tyX9_ok nmX9 (by decide) fk_X9_0 ft_X9_0 rfR rfl rfl B.2.2.2.1 cf_X9_7 dX9_init_6 ?_
    refine s_rload_n B.1.1 0 dX9_init_9 rfl rfl ?_
    refine s_iload_n B.1.1 2 dX9_init_10 rfl rfl ?_
    refine hp_putIF B.1 11 1 rfl (by decide) inX9 tyX9 tyX9_ok nmX9 (by decide) fk_X9_1.1 fk_X9_1.2 ft_X9_1 rfl rfl B.2.2.2.1 cf_X9_13 dX9_init_11 ?_
    exact s_vret B.1.1 B.2.2.2.2 dX9_init_14
  exact MH.of hw ⟨rfl, rfl⟩ (by decide) (by simp [lg_sl, va_rf_cat, cat_i, cat_l, cat_r]) (mo_C_X9_init l0 l1 l2) M0
def C_X8_subscribe_J81 (l0 : Nat) (l2 : Int32) (l3 : Int32) (l5 : Int32) : Hp → Option (Int32 × Hp) :=
  hgR 10 3 (some l0) fun v1 =>
  hAr 6 v1 l5 fun v2 =>
  hpI 11 2 v2 l2 <|
  hgR 10 3 (some l0) fun v3 =>
  hAr 6 v3 l5 fun v4 =>
  hpI 11 3 v4 l3 <|
  rt (l2 &&& (3 : Int32))
set_option maxRecDepth 10000 in
theorem mo_C_X8_subscribe_J81 (l0 : Nat) (l2 : Int32) (l3 : Int32) (l5 : Int32) : Mo (C_X8_subscribe_J81 l0 l2 l3 l5) := by
  unfold C_X8_subscribe_J81
  repeat' (with_reducible first | assumption | exact mo_rt _ | exact mo_zt _ | exact mo_no | refine mo_ite ?_ ?_ | refine mo_hgI (fun _ => ?_) | refine mo_hgR (fun _ => ?_) | refine mo_hCv (fun _ => ?_) (fun _ => ?_) | refine mo_lq (fun _ => ?_) | refine mo_hpI ?_ | refine mo_hpR ?_ | refine mo_hAi (fun _ => ?_) | refine mo_hAr (fun _ => ?_) | refine mo_hWi ?_ | refine mo_hWr ?_ | refine mo_hLn (fun _ => ?_) | refine mo_hgL (fun _ => ?_) | refine mo_hpL ?_ | refine mo_hpZ ?_ | refine mo_bd ?_ (fun _ => ?_) | refine mo_hCi (fun _ => ?_) (fun _ => ?_) | refine mo_hNw (fun _ => ?_) | refine mo_hNa (fun _ => ?_) | refine mo_hCp ?_ | refine mo_hOi ?_ | refine mo_hAl (fun _ => ?_) | refine mo_hWl ?_ | refine mo_gd ?_ | refine mo_sLn (fun _ => ?_) | refine mo_sAt (fun _ => ?_) | refine mo_kLn (fun _ => ?_) | refine mo_kAt (fun _ => ?_))
set_option maxRecDepth 10000 in
theorem sc_X8_subscribe_J81 {g : Gm Hp Int32} (B : Bx g cX8_subscribe 6 RX8 voI (some .int) 11 366 "subscribe") {l0 : Nat} (l2 : Int32) (l3 : Int32) (l5 : Int32) : Sm g 6 81 [(0, va_rf (some l0)), (2, .int l2), (3, .int l3), (5, .int l5)] [] (C_X8_subscribe_J81 l0 l2 l3 l5) := by
  unfold C_X8_subscribe_J81
  refine s_rload_n B.1.1 0 dX8_subscribe_81 rfl rfl ?_
  refine hp_getR B.1 10 3 rfl (by decide) inX8 (by decide) fk_X8_3 cf_X8_11 dX8_subscribe_82 (fun v1 => ?_)
  refine s_iload B.1.1 3 dX8_subscribe_85 rfl ?_
  refine hp_Ar B.1 6 (by decide) (fun _ => rfl) dX8_subscribe_87 (fun v2 => ?_)
  refine s_iload_n B.1.1 1 dX8_subscribe_88 rfl rfl ?_
  refine hp_putI B.1 11 2 rfl (by decide) inX9 tyX9 tyX9_ok nmX9 (by decide) fk_X9_2.1 fk_X9_2.2 ft_X9_2 rfl cf_X8_61 dX8_subscribe_89 ?_
  refine s_rload_n B.1.1 0 dX8_subscribe_92 rfl rfl ?_
  refine hp_getR B.1 10 3 rfl (by decide) inX8 (by decide) fk_X8_3 cf_X8_11 dX8_subscribe_93 (fun v3 => ?_)
  refine s_iload B.1.1 3 dX8_subscribe_96 rfl ?_
  refine hp_Ar B.1 6 (by decide) (fun _ => rfl) dX8_subscribe_98 (fun v4 => ?_)
  refine s_iload_n B.1.1 2 dX8_subscribe_99 rfl rfl ?_
  refine hp_putI B.1 11 3 rfl (by decide) inX9 tyX9 tyX9_ok nmX9 (by decide) fk_X9_3.1 fk_X9_3.2 ft_X9_3 rfl cf_X8_64 dX8_subscribe_100 ?_
  refine s_iload_n B.1.1 1 dX8_subscribe_103 rfl rfl ?_
  refine s_iconst (v := 3) B.1.1 dX8_subscribe_104 (by decide) ?_
  refine s_iand B.1.1 dX8_subscribe_105 ?_
  exact s_iret B.1.1 B.2.2.2.2 dX8_subscribe_106
def C_X8_subscribe_J42 (l0 : Nat) (l1 : Option Nat) (l2 : Int32) (l3 : Int32) (l4 : Int32) (l5 : Int32) : Hp → Option (Int32 × Hp) :=
  if l5 = (-1 : Int32) then (
    hgI 10 4 (some l0) fun v5 =>
    hgR 10 3 (some l0) fun v6 =>
    hNw 11 6 fun o7 =>
    hCi o7 (fun a => C_X9_init a l1 l4) fun r8 =>
    hWr 6 11 v6 v5 o7 <|
    hgI 10 4 (some l0) fun v9 =>
    hpI 10 4 (some l0) (v9 + (1 : Int32)) <|
    C_X8_subscribe_J81 l0 l2 l3 v5
  ) else (
    C_X8_subscribe_J81 l0 l2 l3 l5
  )
set_option maxRecDepth 10000 in
theorem mo_C_X8_subscribe_J42 (l0 : Nat) (l1 : Option Nat) (l2 : Int32) (l3 : Int32) (l4 : Int32) (l5 : Int32) : Mo (C_X8_subscribe_J42 l0 l1 l2 l3 l4 l5) := by
  unfold C_X8_subscribe_J42
  repeat' (with_reducible first | assumption | exact mo_rt _ | exact mo_zt _ | exact mo_no | apply mo_C_X9_init | apply mo_C_X8_subscribe_J81 | refine mo_ite ?_ ?_ | refine mo_hgI (fun _ => ?_) | refine mo_hgR (fun _ => ?_) | refine mo_hCv (fun _ => ?_) (fun _ => ?_) | refine mo_lq (fun _ => ?_) | refine mo_hpI ?_ | refine mo_hpR ?_ | refine mo_hAi (fun _ => ?_) | refine mo_hAr (fun _ => ?_) | refine mo_hWi ?_ | refine mo_hWr ?_ | refine mo_hLn (fun _ => ?_) | refine mo_hgL (fun _ => ?_) | refine mo_hpL ?_ | refine mo_hpZ ?_ | refine mo_bd ?_ (fun _ => ?_) | refine mo_hCi (fun _ => ?_) (fun _ => ?_) | refine mo_hNw (fun _ => ?_) | refine mo_hNa (fun _ => ?_) | refine mo_hCp ?_ | refine mo_hOi ?_ | refine mo_hAl (fun _ => ?_) | refine mo_hWl ?_ | refine mo_gd ?_ | refine mo_sLn (fun _ => ?_) | refine mo_sAt (fun _ => ?_) | refine mo_kLn (fun _ => ?_) | refine mo_kAt (fun _ => ?_))
set_option maxRecDepth 10000 in
theorem sc_X8_subscribe_J42 {g : Gm Hp Int32} (B : Bx g cX8_subscribe 6 RX8 voI (some .int) 11 366 "subscribe") {l0 : Nat} (l1 : Option Nat) (l2 : Int32) (l3 : Int32) (l4 : Int32) (l5 : Int32) : Sm g 6 42 [(0, va_rf (some l0)), (1, va_rf l1), (2, .int l2), (3, .int l3), (4, .int l4), (5, .int l5)] [] (C_X8_subscribe_J42 l0 l1 l2 l3 l4 l5) := by
  unfold C_X8_subscribe_J42
  refine s_iload B.1.1 5 dX8_subscribe_42 rfl ?_
  refine s_iconst (v := (-1)) B.1.1 dX8_subscribe_44 (by decide) ?_
  refine s_icmp_ne B.1.1 81 dX8_subscribe_45 (by decide) ?_ ?_
  · exact Sm.lvs [0, 2, 3, 5] rfl (sc_X8_subscribe_J81 B l2 l3 l5)
  · refine s_rload_n B.1.1 0 dX8_subscribe_48 rfl rfl ?_
    refine hp_getI B.1 10 4 rfl (by decide) inX8 (by decide) fk_X8_4.1 fk_X8_4.2 cf_X8_38 dX8_subscribe_49 (fun v5 => ?_)
    refine s_istore (i := 5) (lv' := [(5, .int v5), (0, va_rf (some l0)), (1, va_rf l1), (2, .int l2), (3, .int l3), (4, .int l4)]) B.1.1 dX8_subscribe_52 (by decide) rfl ?_
    refine s_rload_n B.1.1 1 dX8_subscribe_54 rfl rfl ?_
    refine hp_getR B.1 10 3 rfl (by decide) inX8 (by decide) fk_X8_3 cf_X8_11 dX8_subscribe_55 (fun v6 => ?_)
    refine s_iload B.1.1 0 dX8_subscribe_58 rfl ?_
    refine hp_Nw B.1 11 rfl (by decide) inX9 tyX9 tyX9_ok dfX9 tw_1202 tw_1203 tw_29 dX8_subscribe_60 (fun o7 => ?_)
    refine s_dup B.1.1 dX8_subscribe_63 (va_rf_cat _) ?_
    refine s_rload_n B.1.1 2 dX8_subscribe_64 rfl rfl ?_
    refine s_iload B.1.1 5 dX8_subscribe_65 rfl ?_
    refine hp_cI (As := [va_rf l1, .int l4]) (st := [va_rf o7, .int v5, va_rf v6]) B.1 (fun a => mC_X9_init B.2.1 a l1 l4) cc_X9_init cl_X8_58 cn_X9_init ci_X9 rfl cd_X9_init (by decide) rfl (by simp [va_rf_cat, cat_i, cat_l, cat_r]) dX8_subscribe_67 (fun r8 => ?_)
    refine hp_Wr B.1 6 11 (by decide) (fun _ => rfl) rfl (by decide) dX8_subscribe_70 ?_
    refine s_rload_n B.1.1 1 dX8_subscribe_71 rfl rfl ?_
    refine s_dup B.1.1 dX8_subscribe_72 rfl ?_
    refine hp_getI B.1 10 4 rfl (by decide) inX8 (by decide) fk_X8_4.1 fk_X8_4.2 cf_X8_38 dX8_subscribe_73 (fun v9 => ?_)
    refine s_iconst (v := 1) B.1.1 dX8_subscribe_76 (by decide) ?_
    refine s_iadd B.1.1 dX8_subscribe_77 ?_
    refine hp_putI B.1 10 4 rfl (by decide) inX8 tyX8 tyX8_ok nmX8 (by decide) fk_X8_4.1 fk_X8_4.2 ft_X8_4 rfl cf_X8_38 dX8_subscribe_78 ?_
    exact Sm.lvs [1, 3, 4, 0] rfl (sc_X8_subscribe_J81 B l2 l3 v5)
def C_X8_subscribe (l0 : Nat) (l1 : Option Nat) (l2 : Int32) (l3 : Int32) : Hp → Option (Int32 × Hp) :=
  hCv 9 l1 (fun a => C_X7_filterStart a) fun r10 =>
  if r10 = (-1 : Int32) then (
    rt ((143 : Int32))
  ) else (
    hCv 10 (some l0) (fun a => C_X8_indexOf a l1) fun r11 =>
    if r11 = (-1 : Int32) then (
      hgI 10 4 (some l0) fun v12 =>
      if v12 = (8 : Int32) then (
        rt ((151 : Int32))
      ) else (
        C_X8_subscribe_J42 l0 l1 l2 l3 r10 r11
      )
    ) else (
      C_X8_subscribe_J42 l0 l1 l2 l3 r10 r11
    )
  )
set_option maxRecDepth 10000 in
theorem mo_C_X8_subscribe (l0 : Nat) (l1 : Option Nat) (l2 : Int32) (l3 : Int32) : Mo (C_X8_subscribe l0 l1 l2 l3) := by
  unfold C_X8_subscribe
  repeat' (with_reducible first | assumption | exact mo_rt _ | exact mo_zt _ | exact mo_no | apply mo_C_X7_filterStart | apply mo_C_X8_indexOf | apply mo_C_X8_subscribe_J42 | refine mo_ite ?_ ?_ | refine mo_hgI (fun _ => ?_) | refine mo_hgR (fun _ => ?_) | refine mo_hCv (fun _ => ?_) (fun _ => ?_) | refine mo_lq (fun _ => ?_) | refine mo_hpI ?_ | refine mo_hpR ?_ | refine mo_hAi (fun _ => ?_) | refine mo_hAr (fun _ => ?_) | refine mo_hWi ?_ | refine mo_hWr ?_ | refine mo_hLn (fun _ => ?_) | refine mo_hgL (fun _ => ?_) | refine mo_hpL ?_ | refine mo_hpZ ?_ | refine mo_bd ?_ (fun _ => ?_) | refine mo_hCi (fun _ => ?_) (fun _ => ?_) | refine mo_hNw (fun _ => ?_) | refine mo_hNa (fun _ => ?_) | refine mo_hCp ?_ | refine mo_hOi ?_ | refine mo_hAl (fun _ => ?_) | refine mo_hWl ?_ | refine mo_gd ?_ | refine mo_sLn (fun _ => ?_) | refine mo_sAt (fun _ => ?_) | refine mo_kLn (fun _ => ?_) | refine mo_kAt (fun _ => ?_))
set_option maxRecDepth 10000 in
theorem mC_X8_subscribe {w : Wd} (hw : Wc w) (l0 : Nat) (l1 : Option Nat) (l2 : Int32) (l3 : Int32) : MH w yX8_subscribe cX8_subscribe 6 (some .int) 11 366 voI [va_rf (some l0), va_rf l1, .int l2, .int l3] (C_X8_subscribe l0 l1 l2 l3) := by
  have M0 : ∀ g : Gm Hp Int32, g.1 = w → Bx g cX8_subscribe 6 RX8 voI (some .int) 11 366 "subscribe" → Sm g 6 0 (lv_args 0 [va_rf (some l0), va_rf l1, .int l2, .int l3]) [] (C_X8_subscribe l0 l1 l2 l3) := by
    intro g hg B
    subst hg
    unfold C_X8_subscribe
    refine W_lva (lv := [(0, va_rf (some l0)), (1, va_rf l1), (2, .int l2), (3, .int l3)]) (by simp [lv_args, va_rf_cat, cat_i, cat_l, cat_r]) ?_
    refine s_rload_n B.1.1 1 dX8_subscribe_0 rfl rfl ?_
    refine hp_cvi (As := []) (st := []) 9 rfl (by decide) B.1 (fun a => mC_X7_filterStart B.2.1 a ) cc_X7_filterStart cl_X8_54 cn_X7_filterStart ce_X7_filterStart ci_X7 cd_X7_filterStart (by decide) rfl (Nat.le_of_ble_eq_true rfl) dX8_subscribe_1 (fun r10 => ?_)
    refine s_istore (i := 4) (lv' := [(4, .int r10), (0, va_rf (some l0)), (1, va_rf l1), (2, .int l2), (3, .int l3)]) B.1.1 dX8_subscribe_4 (by decide) rfl ?_
    refine s_iload B.1.1 0 dX8_subscribe_6 rfl ?_
    refine s_iconst (v := (-1)) B.1.1 dX8_subscribe_8 (by decide) ?_
    refine s_icmp_ne B.1.1 16 dX8_subscribe_9 (by decide) ?_ ?_
    · refine s_rload_n B.1.1 1 dX8_subscribe_16 rfl rfl ?_
      refine s_rload_n B.1.1 2 dX8_subscribe_17 rfl rfl ?_
      refine hp_cvi (As := [va_rf l1]) (st := []) 10 rfl (by decide) B.1 (fun a => mC_X8_indexOf B.2.1 a l1) cc_X8_indexOf cl_X8_50 cn_X8_indexOf ce_X8_indexOf ci_X8 cd_X8_indexOf (by decide) rfl (Nat.le_of_ble_eq_true rfl) dX8_subscribe_18 (fun r11 => ?_)
      refine s_istore (i := 5) (lv' := [(5, .int r11), (4, .int r10), (0, va_rf (some l0)), (1, va_rf l1), (2, .int l2), (3, .int l3)]) B.1.1 dX8_subscribe_21 (by decide) rfl ?_
      refine s_iload B.1.1 0 dX8_subscribe_23 rfl ?_
      refine s_iconst (v := (-1)) B.1.1 dX8_subscribe_25 (by decide) ?_
      refine s_icmp_ne B.1.1 42 dX8_subscribe_26 (by decide) ?_ ?_
      · exact Sm.lvs [2, 3, 4, 5, 1, 0] rfl (sc_X8_subscribe_J42 B l1 l2 l3 r10 r11)
      · refine s_rload_n B.1.1 2 dX8_subscribe_29 rfl rfl ?_
        refine hp_getI B.1 10 4 rfl (by decide) inX8 (by decide) fk_X8_4.1 fk_X8_4.2 cf_X8_38 dX8_subscribe_30 (fun v12 => ?_)
        refine s_bipush (v := (8)) B.1.1 dX8_subscribe_33 (by decide) ?_
        refine s_icmp_ne B.1.1 42 dX8_subscribe_35 (by decide) ?_ ?_
        · exact Sm.lvs [2, 3, 4, 5, 1, 0] rfl (sc_X8_subscribe_J42 B l1 l2 l3 r10 r11)
        · refine s_sipush (v := (151)) B.1.1 dX8_subscribe_38 (by decide) ?_
          exact s_iret B.1.1 B.2.2.2.2 dX8_subscribe_41
    · refine s_sipush (v := (143)) B.1.1 dX8_subscribe_12 (by decide) ?_
      exact s_iret B.1.1 B.2.2.2.2 dX8_subscribe_15
  exact MH.of hw ⟨rfl, rfl⟩ (by decide) (by simp [lg_sl, va_rf_cat, cat_i, cat_l, cat_r]) (mo_C_X8_subscribe l0 l1 l2 l3) M0
def C_X11_subscribe_J273 (l0 : Nat) : Hp → Option (Int32 × Hp) :=
  rt ((0 : Int32))
set_option maxRecDepth 10000 in
theorem mo_C_X11_subscribe_J273 (l0 : Nat) : Mo (C_X11_subscribe_J273 l0) := by
  unfold C_X11_subscribe_J273
  repeat' (with_reducible first | assumption | exact mo_rt _ | exact mo_zt _ | exact mo_no | refine mo_ite ?_ ?_ | refine mo_hgI (fun _ => ?_) | refine mo_hgR (fun _ => ?_) | refine mo_hCv (fun _ => ?_) (fun _ => ?_) | refine mo_lq (fun _ => ?_) | refine mo_hpI ?_ | refine mo_hpR ?_ | refine mo_hAi (fun _ => ?_) | refine mo_hAr (fun _ => ?_) | refine mo_hWi ?_ | refine mo_hWr ?_ | refine mo_hLn (fun _ => ?_) | refine mo_hgL (fun _ => ?_) | refine mo_hpL ?_ | refine mo_hpZ ?_ | refine mo_bd ?_ (fun _ => ?_) | refine mo_hCi (fun _ => ?_) (fun _ => ?_) | refine mo_hNw (fun _ => ?_) | refine mo_hNa (fun _ => ?_) | refine mo_hCp ?_ | refine mo_hOi ?_ | refine mo_hAl (fun _ => ?_) | refine mo_hWl ?_ | refine mo_gd ?_ | refine mo_sLn (fun _ => ?_) | refine mo_sAt (fun _ => ?_) | refine mo_kLn (fun _ => ?_) | refine mo_kAt (fun _ => ?_))
set_option maxRecDepth 10000 in
theorem sc_X11_subscribe_J273 {g : Gm Hp Int32} (B : Bx g cX11_subscribe 11 RX11 voI (some .int) 12 391 "subscribe") {l0 : Nat} : Sm g 11 273 [] [] (C_X11_subscribe_J273 l0) := by
  unfold C_X11_subscribe_J273
  refine s_iconst (v := 0) B.1.1 dX11_subscribe_273 (by decide) ?_
  exact s_iret B.1.1 B.2.2.2.2 dX11_subscribe_274
def C_X11_subscribe_B219 (l0 : Nat) (kb : Option Nat → Int32 → Int32 → Hp → Option (Int32 × Hp)) (ke273 : Hp → Option (Int32 × Hp)) (l2 : Option Nat) (l7 : Int32) (l8 : Int32) : Hp → Option (Int32 × Hp) :=
  if l7 ≤ l8 then (
    ke273
  ) else (
    hgR 13 8 (some l0) fun v1 =>
    hAi v1 l8 fun v2 =>
    if v2 < 0 then (
      kb l2 l7 (l8 + 1)
    ) else (
      hgR 13 8 (some l0) fun v3 =>
      hAi v3 l8 fun v4 =>
      hgI 10 4 l2 fun v5 =>
      if v5 ≤ v4 then (
        kb l2 l7 (l8 + 1)
      ) else (
        hgR 10 3 l2 fun v6 =>
        hgR 13 8 (some l0) fun v7 =>
        hAi v7 l8 fun v8 =>
        hAr 6 v6 v8 fun v9 =>
        hCv 13 (some l0) (fun a => C_X11_giveRetained a l2 v9) fun r10 =>
        kb l2 l7 (l8 + 1)
      )
    )
  )
def C_X11_subscribe_L219 (l0 : Nat) (ke273 : Hp → Option (Int32 × Hp)) : Nat → Option Nat → Int32 → Int32 → Hp → Option (Int32 × Hp)
  | 0, _, _, _ => no
  | n + 1, l2, l7, l8 => C_X11_subscribe_B219 l0 (fun l2 l7 l8 => C_X11_subscribe_L219 l0 ke273 n l2 l7 l8) ke273 l2 l7 l8
set_option maxRecDepth 10000 in
theorem mo_C_X11_subscribe_B219 (l0 : Nat) (kb : Option Nat → Int32 → Int32 → Hp → Option (Int32 × Hp)) (ke273 : Hp → Option (Int32 × Hp)) (hkb : ∀ (l2 : Option Nat) (l7 : Int32) (l8 : Int32), Mo (kb l2 l7 l8)) (hke273 : Mo (ke273)) (l2 : Option Nat) (l7 : Int32) (l8 : Int32) : Mo (C_X11_subscribe_B219 l0 kb ke273 l2 l7 l8) := by
  unfold C_X11_subscribe_B219
  repeat' (with_reducible first | assumption | exact mo_rt _ | exact mo_zt _ | exact mo_no | apply mo_C_X11_giveRetained | apply hkb | apply hke273 | refine mo_ite ?_ ?_ | refine mo_hgI (fun _ => ?_) | refine mo_hgR (fun _ => ?_) | refine mo_hCv (fun _ => ?_) (fun _ => ?_) | refine mo_lq (fun _ => ?_) | refine mo_hpI ?_ | refine mo_hpR ?_ | refine mo_hAi (fun _ => ?_) | refine mo_hAr (fun _ => ?_) | refine mo_hWi ?_ | refine mo_hWr ?_ | refine mo_hLn (fun _ => ?_) | refine mo_hgL (fun _ => ?_) | refine mo_hpL ?_ | refine mo_hpZ ?_ | refine mo_bd ?_ (fun _ => ?_) | refine mo_hCi (fun _ => ?_) (fun _ => ?_) | refine mo_hNw (fun _ => ?_) | refine mo_hNa (fun _ => ?_) | refine mo_hCp ?_ | refine mo_hOi ?_ | refine mo_hAl (fun _ => ?_) | refine mo_hWl ?_ | refine mo_gd ?_ | refine mo_sLn (fun _ => ?_) | refine mo_sAt (fun _ => ?_) | refine mo_kLn (fun _ => ?_) | refine mo_kAt (fun _ => ?_))
set_option maxRecDepth 10000 in
theorem mo_C_X11_subscribe_L219 (l0 : Nat) (ke273 : Hp → Option (Int32 × Hp)) (hke273 : Mo (ke273)) : ∀ (n : Nat) (l2 : Option Nat) (l7 : Int32) (l8 : Int32), Mo (C_X11_subscribe_L219 l0 ke273 n l2 l7 l8)
  | 0, _, _, _ => mo_no
  | n + 1, l2, l7, l8 => mo_C_X11_subscribe_B219 l0 _ ke273 (mo_C_X11_subscribe_L219 l0 ke273 hke273 n) hke273 l2 l7 l8
set_option maxRecDepth 10000 in
theorem sc_X11_subscribe_B219 {g : Gm Hp Int32} {kb : Option Nat → Int32 → Int32 → Hp → Option (Int32 × Hp)} {ke273 : Hp → Option (Int32 × Hp)} (B : Bx g cX11_subscribe 11 RX11 voI (some .int) 12 391 "subscribe") {l0 : Nat} (hkb : ∀ (l2 : Option Nat) (l7 : Int32) (l8 : Int32), Sm g 11 219 [(0, va_rf (some l0)), (2, va_rf l2), (7, .int l7), (8, .int l8)] [] (kb l2 l7 l8)) (hke273 : Sm g 11 273 [] [] (ke273)) (l2 : Option Nat) (l7 : Int32) (l8 : Int32) : Sm g 11 219 [(0, va_rf (some l0)), (2, va_rf l2), (7, .int l7), (8, .int l8)] [] (C_X11_subscribe_B219 l0 kb ke273 l2 l7 l8) := by
  unfold C_X11_subscribe_B219
  refine s_iload B.1.1 3 dX11_subscribe_219 rfl ?_
  refine s_iload B.1.1 2 dX11_subscribe_221 rfl ?_
  refine s_icmp_ge B.1.1 273 dX11_subscribe_223 (by decide) ?_ ?_
  · exact Sm.lvs [] rfl (hke273)
  · refine s_rload_n B.1.1 0 dX11_subscribe_226 rfl rfl ?_
    refine hp_getR B.1 13 8 rfl (by decide) inX11 (by decide) fk_X11_8 cf_X11_66 dX11_subscribe_227 (fun v1 => ?_)
    refine s_iload B.1.1 3 dX11_subscribe_230 rfl ?_
    refine hp_Ai B.1 dX11_subscribe_232 (fun v2 => ?_)
    refine s_if_lt B.1.1 267 dX11_subscribe_233 (by decide) ?_ ?_
    · refine s_iinc (v := l8 + 1) (lv' := [(8, .int (l8 + 1)), (0, va_rf (some l0)), (2, va_rf l2), (7, .int l7)]) B.1.1 3 dX11_subscribe_267 rfl rfl (by decide) rfl ?_
      refine s_goto B.1.1 219 dX11_subscribe_270 (by decide) ?_
      exact Sm.lvs [1, 2, 3, 0] rfl (hkb l2 l7 (l8 + 1))
    · refine s_rload_n B.1.1 0 dX11_subscribe_236 rfl rfl ?_
      refine hp_getR B.1 13 8 rfl (by decide) inX11 (by decide) fk_X11_8 cf_X11_66 dX11_subscribe_237 (fun v3 => ?_)
      refine s_iload B.1.1 3 dX11_subscribe_240 rfl ?_
      refine hp_Ai B.1 dX11_subscribe_242 (fun v4 => ?_)
      refine s_rload_n B.1.1 1 dX11_subscribe_243 rfl rfl ?_
      refine hp_getI B.1 10 4 rfl (by decide) inX8 (by decide) fk_X8_4.1 fk_X8_4.2 cf_X11_158 dX11_subscribe_244 (fun v5 => ?_)
      refine s_icmp_ge B.1.1 267 dX11_subscribe_247 (by decide) ?_ ?_
      · refine s_iinc (v := l8 + 1) (lv' := [(8, .int (l8 + 1)), (0, va_rf (some l0)), (2, va_rf l2), (7, .int l7)]) B.1.1 3 dX11_subscribe_267 rfl rfl (by decide) rfl ?_
        refine s_goto B.1.1 219 dX11_subscribe_270 (by decide) ?_
        exact Sm.lvs [1, 2, 3, 0] rfl (hkb l2 l7 (l8 + 1))
      · refine s_rload_n B.1.1 0 dX11_subscribe_250 rfl rfl ?_
        refine s_rload_n B.1.1 1 dX11_subscribe_251 rfl rfl ?_
        refine s_rload_n B.1.1 1 dX11_subscribe_252 rfl rfl ?_
        refine hp_getR B.1 10 3 rfl (by decide) inX8 (by decide) fk_X8_3 cf_X11_261 dX11_subscribe_253 (fun v6 => ?_)
        refine s_rload_n B.1.1 0 dX11_subscribe_256 rfl rfl ?_
        refine hp_getR B.1 13 8 rfl (by decide) inX11 (by decide) fk_X11_8 cf_X11_66 dX11_subscribe_257 (fun v7 => ?_)
        refine s_iload B.1.1 3 dX11_subscribe_260 rfl ?_
        refine hp_Ai B.1 dX11_subscribe_262 (fun v8 => ?_)
        refine hp_Ar B.1 6 (by decide) (fun _ => rfl) dX11_subscribe_263 (fun v9 => ?_)
        refine hp_cvv (As := [va_rf l2, va_rf v9]) (st := []) 13 rfl (by decide) B.1 (fun a => mC_X11_giveRetained B.2.1 a l2 v9) cc_X11_giveRetained cl_X11_587 cn_X11_giveRetained ce_X11_giveRetained ci_X11 cd_X11_giveRetained (by decide) rfl (Nat.le_of_ble_eq_true rfl) dX11_subscribe_264 (fun r10 => ?_)
        refine s_iinc (v := l8 + 1) (lv' := [(8, .int (l8 + 1)), (0, va_rf (some l0)), (2, va_rf l2), (7, .int l7)]) B.1.1 3 dX11_subscribe_267 rfl rfl (by decide) rfl ?_
        refine s_goto B.1.1 219 dX11_subscribe_270 (by decide) ?_
        exact Sm.lvs [1, 2, 3, 0] rfl (hkb l2 l7 (l8 + 1))
set_option maxRecDepth 10000 in
theorem sc_X11_subscribe_L219 {g : Gm Hp Int32} {ke273 : Hp → Option (Int32 × Hp)} (B : Bx g cX11_subscribe 11 RX11 voI (some .int) 12 391 "subscribe") {l0 : Nat} (hke273 : Sm g 11 273 [] [] (ke273)) : ∀ (n : Nat) (l2 : Option Nat) (l7 : Int32) (l8 : Int32), Sm g 11 219 [(0, va_rf (some l0)), (2, va_rf l2), (7, .int l7), (8, .int l8)] [] (C_X11_subscribe_L219 l0 ke273 n l2 l7 l8)
  | 0, _, _, _ => Sm.fail
  | n + 1, l2, l7, l8 => sc_X11_subscribe_B219 B (sc_X11_subscribe_L219 B hke273 n) hke273 l2 l7 l8
def C_X11_subscribe_J208 (l0 : Nat) (l1 : Option Nat) (l2 : Option Nat) (l7 : Int32) : Hp → Option (Int32 × Hp) :=
  hgR 13 5 (some l0) fun v11 =>
  hCv 2 l1 (fun a => C_X0_put a v11) fun r12 =>
  C_X11_subscribe_L219 l0 (C_X11_subscribe_J273 l0) fu l2 l7 (0 : Int32)
set_option maxRecDepth 10000 in
theorem mo_C_X11_subscribe_J208 (l0 : Nat) (l1 : Option Nat) (l2 : Option Nat) (l7 : Int32) : Mo (C_X11_subscribe_J208 l0 l1 l2 l7) := by
  unfold C_X11_subscribe_J208
  repeat' (with_reducible first | assumption | exact mo_rt _ | exact mo_zt _ | exact mo_no | apply mo_C_X0_put | apply mo_C_X11_subscribe_L219 | apply mo_C_X11_subscribe_J273 | refine mo_ite ?_ ?_ | refine mo_hgI (fun _ => ?_) | refine mo_hgR (fun _ => ?_) | refine mo_hCv (fun _ => ?_) (fun _ => ?_) | refine mo_lq (fun _ => ?_) | refine mo_hpI ?_ | refine mo_hpR ?_ | refine mo_hAi (fun _ => ?_) | refine mo_hAr (fun _ => ?_) | refine mo_hWi ?_ | refine mo_hWr ?_ | refine mo_hLn (fun _ => ?_) | refine mo_hgL (fun _ => ?_) | refine mo_hpL ?_ | refine mo_hpZ ?_ | refine mo_bd ?_ (fun _ => ?_) | refine mo_hCi (fun _ => ?_) (fun _ => ?_) | refine mo_hNw (fun _ => ?_) | refine mo_hNa (fun _ => ?_) | refine mo_hCp ?_ | refine mo_hOi ?_ | refine mo_hAl (fun _ => ?_) | refine mo_hWl ?_ | refine mo_gd ?_ | refine mo_sLn (fun _ => ?_) | refine mo_sAt (fun _ => ?_) | refine mo_kLn (fun _ => ?_) | refine mo_kAt (fun _ => ?_))
set_option maxRecDepth 10000 in
theorem sc_X11_subscribe_J208 {g : Gm Hp Int32} (B : Bx g cX11_subscribe 11 RX11 voI (some .int) 12 391 "subscribe") {l0 : Nat} (l1 : Option Nat) (l2 : Option Nat) (l7 : Int32) : Sm g 11 208 [(0, va_rf (some l0)), (1, va_rf l1), (2, va_rf l2), (7, .int l7)] [] (C_X11_subscribe_J208 l0 l1 l2 l7) := by
  unfold C_X11_subscribe_J208
  refine s_rload_n B.1.1 1 dX11_subscribe_208 rfl rfl ?_
  refine s_rload_n B.1.1 0 dX11_subscribe_209 rfl rfl ?_
  refine hp_getR B.1 13 5 rfl (by decide) inX11 (by decide) fk_X11_5 cf_X11_48 dX11_subscribe_210 (fun v11 => ?_)
  refine hp_cvv (As := [va_rf v11]) (st := []) 2 rfl (by decide) B.1 (fun a => mC_X0_put B.2.1 a v11) cc_X0_put cl_X11_327 cn_X0_put ce_X0_put ci_X0 cd_X0_put (by decide) rfl (Nat.le_of_ble_eq_true rfl) dX11_subscribe_213 (fun r12 => ?_)
  refine s_iconst (v := 0) B.1.1 dX11_subscribe_216 (by decide) ?_
  refine s_istore (i := 8) (lv' := [(8, .int (0 : Int32)), (0, va_rf (some l0)), (1, va_rf l1), (2, va_rf l2), (7, .int l7)]) B.1.1 dX11_subscribe_217 (by decide) rfl ?_
  exact Sm.lvs [1, 3, 4, 0] rfl (sc_X11_subscribe_L219 B (sc_X11_subscribe_J273 B) fu l2 l7 (0 : Int32))
def C_X11_subscribe_B144 (l0 : Nat) (kb : Option Nat → Option Nat → Int32 → Int32 → Int32 → Hp → Option (Int32 × Hp)) (ke208 : Option Nat → Option Nat → Int32 → Hp → Option (Int32 × Hp)) (l1 : Option Nat) (l2 : Option Nat) (l5 : Int32) (l7 : Int32) (l8 : Int32) : Hp → Option (Int32 × Hp) :=
  if l7 ≤ l8 then (
    ke208 l1 l2 l7
  ) else (
    hgR 13 3 (some l0) fun v13 =>
    hCv 7 v13 (fun a => C_X5_row a (1 : Int32)) fun r14 =>
    hgR 13 3 (some l0) fun v15 =>
    hCv 7 v15 (fun a => C_X5_one a) fun r16 =>
    hgR 13 8 (some l0) fun v17 =>
    hCv 10 l2 (fun a => C_X8_owes a r14 r16) fun r18 =>
    hWi v17 l8 r18 <|
    hgR 13 5 (some l0) fun v19 =>
    hCv 10 l2 (fun a => C_X8_subscribe a r14 r16 l5) fun r20 =>
    hCv 12 v19 (fun a => C_X10_one a r20) fun r21 =>
    kb l1 l2 l5 l7 (l8 + 1)
  )
def C_X11_subscribe_L144 (l0 : Nat) (ke208 : Option Nat → Option Nat → Int32 → Hp → Option (Int32 × Hp)) : Nat → Option Nat → Option Nat → Int32 → Int32 → Int32 → Hp → Option (Int32 × Hp)
  | 0, _, _, _, _, _ => no
  | n + 1, l1, l2, l5, l7, l8 => C_X11_subscribe_B144 l0 (fun l1 l2 l5 l7 l8 => C_X11_subscribe_L144 l0 ke208 n l1 l2 l5 l7 l8) ke208 l1 l2 l5 l7 l8
set_option maxRecDepth 10000 in
theorem mo_C_X11_subscribe_B144 (l0 : Nat) (kb : Option Nat → Option Nat → Int32 → Int32 → Int32 → Hp → Option (Int32 × Hp)) (ke208 : Option Nat → Option Nat → Int32 → Hp → Option (Int32 × Hp)) (hkb : ∀ (l1 : Option Nat) (l2 : Option Nat) (l5 : Int32) (l7 : Int32) (l8 : Int32), Mo (kb l1 l2 l5 l7 l8)) (hke208 : ∀ (l1 : Option Nat) (l2 : Option Nat) (l7 : Int32), Mo (ke208 l1 l2 l7)) (l1 : Option Nat) (l2 : Option Nat) (l5 : Int32) (l7 : Int32) (l8 : Int32) : Mo (C_X11_subscribe_B144 l0 kb ke208 l1 l2 l5 l7 l8) := by
  unfold C_X11_subscribe_B144
  repeat' (with_reducible first | assumption | exact mo_rt _ | exact mo_zt _ | exact mo_no | apply mo_C_X5_row | apply mo_C_X5_one | apply mo_C_X8_owes | apply mo_C_X8_subscribe | apply mo_C_X10_one | apply hkb | apply hke208 | refine mo_ite ?_ ?_ | refine mo_hgI (fun _ => ?_) | refine mo_hgR (fun _ => ?_) | refine mo_hCv (fun _ => ?_) (fun _ => ?_) | refine mo_lq (fun _ => ?_) | refine mo_hpI ?_ | refine mo_hpR ?_ | refine mo_hAi (fun _ => ?_) | refine mo_hAr (fun _ => ?_) | refine mo_hWi ?_ | refine mo_hWr ?_ | refine mo_hLn (fun _ => ?_) | refine mo_hgL (fun _ => ?_) | refine mo_hpL ?_ | refine mo_hpZ ?_ | refine mo_bd ?_ (fun _ => ?_) | refine mo_hCi (fun _ => ?_) (fun _ => ?_) | refine mo_hNw (fun _ => ?_) | refine mo_hNa (fun _ => ?_) | refine mo_hCp ?_ | refine mo_hOi ?_ | refine mo_hAl (fun _ => ?_) | refine mo_hWl ?_ | refine mo_gd ?_ | refine mo_sLn (fun _ => ?_) | refine mo_sAt (fun _ => ?_) | refine mo_kLn (fun _ => ?_) | refine mo_kAt (fun _ => ?_))
set_option maxRecDepth 10000 in
theorem mo_C_X11_subscribe_L144 (l0 : Nat) (ke208 : Option Nat → Option Nat → Int32 → Hp → Option (Int32 × Hp)) (hke208 : ∀ (l1 : Option Nat) (l2 : Option Nat) (l7 : Int32), Mo (ke208 l1 l2 l7)) : ∀ (n : Nat) (l1 : Option Nat) (l2 : Option Nat) (l5 : Int32) (l7 : Int32) (l8 : Int32), Mo (C_X11_subscribe_L144 l0 ke208 n l1 l2 l5 l7 l8)
  | 0, _, _, _, _, _ => mo_no
  | n + 1, l1, l2, l5, l7, l8 => mo_C_X11_subscribe_B144 l0 _ ke208 (mo_C_X11_subscribe_L144 l0 ke208 hke208 n) hke208 l1 l2 l5 l7 l8
set_option maxRecDepth 10000 in
theorem sc_X11_subscribe_B144 {g : Gm Hp Int32} {kb : Option Nat → Option Nat → Int32 → Int32 → Int32 → Hp → Option (Int32 × Hp)} {ke208 : Option Nat → Option Nat → Int32 → Hp → Option (Int32 × Hp)} (B : Bx g cX11_subscribe 11 RX11 voI (some .int) 12 391 "subscribe") {l0 : Nat} (hkb : ∀ (l1 : Option Nat) (l2 : Option Nat) (l5 : Int32) (l7 : Int32) (l8 : Int32), Sm g 11 144 [(0, va_rf (some l0)), (1, va_rf l1), (2, va_rf l2), (5, .int l5), (7, .int l7), (8, .int l8)] [] (kb l1 l2 l5 l7 l8)) (hke208 : ∀ (l1 : Option Nat) (l2 : Option Nat) (l7 : Int32), Sm g 11 208 [(0, va_rf (some l0)), (1, va_rf l1), (2, va_rf l2), (7, .int l7)] [] (ke208 l1 l2 l7)) (l1 : Option Nat) (l2 : Option Nat) (l5 : Int32) (l7 : Int32) (l8 : Int32) : Sm g 11 144 [(0, va_rf (some l0)), (1, va_rf l1), (2, va_rf l2), (5, .int l5), (7, .int l7), (8, .int l8)] [] (C_X11_subscribe_B144 l0 kb ke208 l1 l2 l5 l7 l8) := by
  unfold C_X11_subscribe_B144
  refine s_iload B.1.1 5 dX11_subscribe_144 rfl ?_
  refine s_iload B.1.1 4 dX11_subscribe_146 rfl ?_
  refine s_icmp_ge B.1.1 208 dX11_subscribe_148 (by decide) ?_ ?_
  · exact Sm.lvs [0, 1, 2, 4] rfl (hke208 l1 l2 l7)
  · refine s_rload_n B.1.1 0 dX11_subscribe_151 rfl rfl ?_
    refine hp_getR B.1 13 3 rfl (by decide) inX11 (by decide) fk_X11_3 cf_X11_34 dX11_subscribe_152 (fun v13 => ?_)
    refine s_iconst (v := 1) B.1.1 dX11_subscribe_155 (by decide) ?_
    refine hp_cvr (As := [.int (1 : Int32)]) (st := []) 7 rfl (by decide) B.1 (fun a => mC_X5_row B.2.1 a (1 : Int32)) cc_X5_row cl_X11_451 cn_X5_row ce_X5_row ci_X5 cd_X5_row (by decide) rfl (Nat.le_of_ble_eq_true rfl) dX11_subscribe_156 (fun r14 => ?_)
    refine s_rstore (i := 9) (lv' := [(9, va_rf r14), (0, va_rf (some l0)), (1, va_rf l1), (2, va_rf l2), (5, .int l5), (7, .int l7), (8, .int l8)]) B.1.1 dX11_subscribe_159 (by decide) rfl ?_
    refine s_rload_n B.1.1 1 dX11_subscribe_161 rfl rfl ?_
    refine hp_getR B.1 13 3 rfl (by decide) inX11 (by decide) fk_X11_3 cf_X11_34 dX11_subscribe_162 (fun v15 => ?_)
    refine hp_cvi (As := []) (st := []) 7 rfl (by decide) B.1 (fun a => mC_X5_one B.2.1 a ) cc_X5_one cl_X11_349 cn_X5_one ce_X5_one ci_X5 cd_X5_one (by decide) rfl (Nat.le_of_ble_eq_true rfl) dX11_subscribe_165 (fun r16 => ?_)
    refine s_istore (i := 10) (lv' := [(10, .int r16), (9, va_rf r14), (0, va_rf (some l0)), (1, va_rf l1), (2, va_rf l2), (5, .int l5), (7, .int l7), (8, .int l8)]) B.1.1 dX11_subscribe_168 (by decide) (by simp [va_rf_cat, cat_i, cat_l, cat_r]) ?_
    refine s_rload_n B.1.1 2 dX11_subscribe_170 rfl rfl ?_
    refine hp_getR B.1 13 8 rfl (by decide) inX11 (by decide) fk_X11_8 cf_X11_66 dX11_subscribe_171 (fun v17 => ?_)
    refine s_iload B.1.1 7 dX11_subscribe_174 rfl ?_
    refine s_rload_n B.1.1 4 dX11_subscribe_176 rfl rfl ?_
    refine s_rload B.1.1 1 dX11_subscribe_177 rfl ?_
    refine s_iload B.1.1 0 dX11_subscribe_179 rfl ?_
    refine hp_cvi (As := [va_rf r14, .int r16]) (st := [.int l8, va_rf v17]) 10 rfl (by decide) B.1 (fun a => mC_X8_owes B.2.1 a r14 r16) cc_X8_owes cl_X11_580 cn_X8_owes ce_X8_owes ci_X8 cd_X8_owes (by decide) rfl (by simp [va_rf_cat, cat_i, cat_l, cat_r]) dX11_subscribe_181 (fun r18 => ?_)
    refine hp_Wi B.1 dX11_subscribe_184 ?_
    refine s_rload_n B.1.1 2 dX11_subscribe_185 rfl rfl ?_
    refine hp_getR B.1 13 5 rfl (by decide) inX11 (by decide) fk_X11_5 cf_X11_48 dX11_subscribe_186 (fun v19 => ?_)
    refine s_rload_n B.1.1 4 dX11_subscribe_189 rfl rfl ?_
    refine s_rload B.1.1 1 dX11_subscribe_190 rfl ?_
    refine s_iload B.1.1 0 dX11_subscribe_192 rfl ?_
    refine s_iload B.1.1 5 dX11_subscribe_194 rfl ?_
    refine hp_cvi (As := [va_rf r14, .int r16, .int l5]) (st := [va_rf v19]) 10 rfl (by decide) B.1 (fun a => mC_X8_subscribe B.2.1 a r14 r16 l5) cc_X8_subscribe cl_X11_584 cn_X8_subscribe ce_X8_subscribe ci_X8 cd_X8_subscribe (by decide) rfl (by simp [va_rf_cat, cat_i, cat_l, cat_r]) dX11_subscribe_196 (fun r20 => ?_)
    refine hp_cvv (As := [.int r20]) (st := []) 12 rfl (by decide) B.1 (fun a => mC_X10_one B.2.1 a r20) cc_X10_one cl_X11_324 cn_X10_one ce_X10_one ci_X10 cd_X10_one (by decide) rfl (Nat.le_of_ble_eq_true rfl) dX11_subscribe_199 (fun r21 => ?_)
    refine s_iinc (v := l8 + 1) (lv' := [(8, .int (l8 + 1)), (10, .int r16), (9, va_rf r14), (0, va_rf (some l0)), (1, va_rf l1), (2, va_rf l2), (5, .int l5), (7, .int l7)]) B.1.1 7 dX11_subscribe_202 rfl rfl (by decide) rfl ?_
    refine s_goto B.1.1 144 dX11_subscribe_205 (by decide) ?_
    exact Sm.lvs [3, 4, 5, 6, 7, 0] rfl (hkb l1 l2 l5 l7 (l8 + 1))
set_option maxRecDepth 10000 in
theorem sc_X11_subscribe_L144 {g : Gm Hp Int32} {ke208 : Option Nat → Option Nat → Int32 → Hp → Option (Int32 × Hp)} (B : Bx g cX11_subscribe 11 RX11 voI (some .int) 12 391 "subscribe") {l0 : Nat} (hke208 : ∀ (l1 : Option Nat) (l2 : Option Nat) (l7 : Int32), Sm g 11 208 [(0, va_rf (some l0)), (1, va_rf l1), (2, va_rf l2), (7, .int l7)] [] (ke208 l1 l2 l7)) : ∀ (n : Nat) (l1 : Option Nat) (l2 : Option Nat) (l5 : Int32) (l7 : Int32) (l8 : Int32), Sm g 11 144 [(0, va_rf (some l0)), (1, va_rf l1), (2, va_rf l2), (5, .int l5), (7, .int l7), (8, .int l8)] [] (C_X11_subscribe_L144 l0 ke208 n l1 l2 l5 l7 l8)
  | 0, _, _, _, _, _ => Sm.fail
  | n + 1, l1, l2, l5, l7, l8 => sc_X11_subscribe_B144 B (sc_X11_subscribe_L144 B hke208 n) hke208 l1 l2 l5 l7 l8
def C_X11_subscribe_J72 (l0 : Nat) (l1 : Option Nat) (l2 : Option Nat) (l4 : Int32) (l5 : Int32) : Hp → Option (Int32 × Hp) :=
  hgR 13 3 (some l0) fun v22 =>
  hgI 7 2 v22 fun v23 =>
  hCv 13 (some l0) (fun a => C_X11_checkEntries a) fun r24 =>
  hgR 13 3 (some l0) fun v25 =>
  hgI 7 4 v25 fun v26 =>
  if v26 = 0 then (
    hgR 13 3 (some l0) fun v27 =>
    hpI 7 2 v27 v23 <|
    hgR 13 5 (some l0) fun v28 =>
    hCv 12 v28 (fun a => C_X10_begin a (144 : Int32)) fun r29 =>
    hgR 13 5 (some l0) fun v30 =>
    hCv 12 v30 (fun a => C_X10_two a l4) fun r31 =>
    hgR 13 5 (some l0) fun v32 =>
    hCv 12 v32 (fun a => C_X10_one a (0 : Int32)) fun r33 =>
    C_X11_subscribe_L144 l0 (fun l1 l2 l7 => C_X11_subscribe_J208 l0 l1 l2 l7) fu l1 l2 l5 r24 (0 : Int32)
  ) else (
    hgR 13 3 (some l0) fun v34 =>
    hgI 7 4 v34 fun v35 =>
    rt (v35)
  )
set_option maxRecDepth 10000 in
theorem mo_C_X11_subscribe_J72 (l0 : Nat) (l1 : Option Nat) (l2 : Option Nat) (l4 : Int32) (l5 : Int32) : Mo (C_X11_subscribe_J72 l0 l1 l2 l4 l5) := by
  unfold C_X11_subscribe_J72
  repeat' (with_reducible first | assumption | exact mo_rt _ | exact mo_zt _ | exact mo_no | apply mo_C_X11_checkEntries | apply mo_C_X10_begin | apply mo_C_X10_two | apply mo_C_X10_one | apply mo_C_X11_subscribe_L144 | apply mo_C_X11_subscribe_J208 | refine mo_ite ?_ ?_ | refine mo_hgI (fun _ => ?_) | refine mo_hgR (fun _ => ?_) | refine mo_hCv (fun _ => ?_) (fun _ => ?_) | refine mo_lq (fun _ => ?_) | refine mo_hpI ?_ | refine mo_hpR ?_ | refine mo_hAi (fun _ => ?_) | refine mo_hAr (fun _ => ?_) | refine mo_hWi ?_ | refine mo_hWr ?_ | refine mo_hLn (fun _ => ?_) | refine mo_hgL (fun _ => ?_) | refine mo_hpL ?_ | refine mo_hpZ ?_ | refine mo_bd ?_ (fun _ => ?_) | refine mo_hCi (fun _ => ?_) (fun _ => ?_) | refine mo_hNw (fun _ => ?_) | refine mo_hNa (fun _ => ?_) | refine mo_hCp ?_ | refine mo_hOi ?_ | refine mo_hAl (fun _ => ?_) | refine mo_hWl ?_ | refine mo_gd ?_ | refine mo_sLn (fun _ => ?_) | refine mo_sAt (fun _ => ?_) | refine mo_kLn (fun _ => ?_) | refine mo_kAt (fun _ => ?_))
set_option maxRecDepth 10000 in
theorem sc_X11_subscribe_J72 {g : Gm Hp Int32} (B : Bx g cX11_subscribe 11 RX11 voI (some .int) 12 391 "subscribe") {l0 : Nat} (l1 : Option Nat) (l2 : Option Nat) (l4 : Int32) (l5 : Int32) : Sm g 11 72 [(0, va_rf (some l0)), (1, va_rf l1), (2, va_rf l2), (4, .int l4), (5, .int l5)] [] (C_X11_subscribe_J72 l0 l1 l2 l4 l5) := by
  unfold C_X11_subscribe_J72
  refine s_rload_n B.1.1 0 dX11_subscribe_72 rfl rfl ?_
  refine hp_getR B.1 13 3 rfl (by decide) inX11 (by decide) fk_X11_3 cf_X11_34 dX11_subscribe_73 (fun v22 => ?_)
  refine hp_getI B.1 7 2 rfl (by decide) inX5 (by decide) fk_X5_2.1 fk_X5_2.2 cf_X11_575 dX11_subscribe_76 (fun v23 => ?_)
  refine s_istore (i := 6) (lv' := [(6, .int v23), (0, va_rf (some l0)), (1, va_rf l1), (2, va_rf l2), (4, .int l4), (5, .int l5)]) B.1.1 dX11_subscribe_79 (by decide) rfl ?_
  refine s_rload_n B.1.1 1 dX11_subscribe_81 rfl rfl ?_
  refine hp_cvi (As := []) (st := []) 13 rfl (by decide) B.1 (fun a => mC_X11_checkEntries B.2.1 a ) cc_X11_checkEntries cl_X11_577 cn_X11_checkEntries ce_X11_checkEntries ci_X11 cd_X11_checkEntries (by decide) rfl (Nat.le_of_ble_eq_true rfl) dX11_subscribe_82 (fun r24 => ?_)
  refine s_istore (i := 7) (lv' := [(7, .int r24), (6, .int v23), (0, va_rf (some l0)), (1, va_rf l1), (2, va_rf l2), (4, .int l4), (5, .int l5)]) B.1.1 dX11_subscribe_85 (by decide) rfl ?_
  refine s_rload_n B.1.1 2 dX11_subscribe_87 rfl rfl ?_
  refine hp_getR B.1 13 3 rfl (by decide) inX11 (by decide) fk_X11_3 cf_X11_34 dX11_subscribe_88 (fun v25 => ?_)
  refine hp_getI B.1 7 4 rfl (by decide) inX5 (by decide) fk_X5_4.1 fk_X5_4.2 cf_X11_341 dX11_subscribe_91 (fun v26 => ?_)
  refine s_if_eq B.1.1 105 dX11_subscribe_94 (by decide) ?_ ?_
  · refine s_rload_n B.1.1 2 dX11_subscribe_105 rfl rfl ?_
    refine hp_getR B.1 13 3 rfl (by decide) inX11 (by decide) fk_X11_3 cf_X11_34 dX11_subscribe_106 (fun v27 => ?_)
    refine s_iload B.1.1 1 dX11_subscribe_109 rfl ?_
    refine hp_putI B.1 7 2 rfl (by decide) inX5 tyX5 tyX5_ok nmX5 (by decide) fk_X5_2.1 fk_X5_2.2 ft_X5_2 rfl cf_X11_575 dX11_subscribe_111 ?_
    refine s_rload_n B.1.1 2 dX11_subscribe_114 rfl rfl ?_
    refine hp_getR B.1 13 5 rfl (by decide) inX11 (by decide) fk_X11_5 cf_X11_48 dX11_subscribe_115 (fun v28 => ?_)
    refine s_sipush (v := (144)) B.1.1 dX11_subscribe_118 (by decide) ?_
    refine hp_cvv (As := [.int (144 : Int32)]) (st := []) 12 rfl (by decide) B.1 (fun a => mC_X10_begin B.2.1 a (144 : Int32)) cc_X10_begin cl_X11_322 cn_X10_begin ce_X10_begin ci_X10 cd_X10_begin (by decide) rfl (Nat.le_of_ble_eq_true rfl) dX11_subscribe_121 (fun r29 => ?_)
    refine s_rload_n B.1.1 2 dX11_subscribe_124 rfl rfl ?_
    refine hp_getR B.1 13 5 rfl (by decide) inX11 (by decide) fk_X11_5 cf_X11_48 dX11_subscribe_125 (fun v30 => ?_)
    refine s_iload B.1.1 5 dX11_subscribe_128 rfl ?_
    refine hp_cvv (As := [.int l4]) (st := []) 12 rfl (by decide) B.1 (fun a => mC_X10_two B.2.1 a l4) cc_X10_two cl_X11_331 cn_X10_two ce_X10_two ci_X10 cd_X10_two (by decide) rfl (Nat.le_of_ble_eq_true rfl) dX11_subscribe_130 (fun r31 => ?_)
    refine s_rload_n B.1.1 2 dX11_subscribe_133 rfl rfl ?_
    refine hp_getR B.1 13 5 rfl (by decide) inX11 (by decide) fk_X11_5 cf_X11_48 dX11_subscribe_134 (fun v32 => ?_)
    refine s_iconst (v := 0) B.1.1 dX11_subscribe_137 (by decide) ?_
    refine hp_cvv (As := [.int (0 : Int32)]) (st := []) 12 rfl (by decide) B.1 (fun a => mC_X10_one B.2.1 a (0 : Int32)) cc_X10_one cl_X11_324 cn_X10_one ce_X10_one ci_X10 cd_X10_one (by decide) rfl (Nat.le_of_ble_eq_true rfl) dX11_subscribe_138 (fun r33 => ?_)
    refine s_iconst (v := 0) B.1.1 dX11_subscribe_141 (by decide) ?_
    refine s_istore (i := 8) (lv' := [(8, .int (0 : Int32)), (7, .int r24), (6, .int v23), (0, va_rf (some l0)), (1, va_rf l1), (2, va_rf l2), (4, .int l4), (5, .int l5)]) B.1.1 dX11_subscribe_142 (by decide) rfl ?_
    exact Sm.lvs [3, 4, 5, 7, 1, 0] rfl (sc_X11_subscribe_L144 B (fun l1 l2 l7 => sc_X11_subscribe_J208 B l1 l2 l7) fu l1 l2 l5 r24 (0 : Int32))
  · refine s_rload_n B.1.1 2 dX11_subscribe_97 rfl rfl ?_
    refine hp_getR B.1 13 3 rfl (by decide) inX11 (by decide) fk_X11_3 cf_X11_34 dX11_subscribe_98 (fun v34 => ?_)
    refine hp_getI B.1 7 4 rfl (by decide) inX5 (by decide) fk_X5_4.1 fk_X5_4.2 cf_X11_341 dX11_subscribe_101 (fun v35 => ?_)
    exact s_iret B.1.1 B.2.2.2.2 dX11_subscribe_104
def C_X11_subscribe (l0 : Nat) (l1 : Option Nat) (l2 : Option Nat) (l3 : Int32) : Hp → Option (Int32 × Hp) :=
  hgR 13 3 (some l0) fun v36 =>
  hCv 7 v36 (fun a => C_X5_expect a l3 (2 : Int32)) fun r37 =>
  hgR 13 3 (some l0) fun v38 =>
  hCv 7 v38 (fun a => C_X5_number a) fun r39 =>
  hgR 13 4 (some l0) fun v40 =>
  hgR 13 3 (some l0) fun v41 =>
  hCv 6 v40 (fun a => C_X4_read a v41 (274877908992 : Int64)) fun r42 =>
  hgR 13 4 (some l0) fun v43 =>
  hCv 6 v43 (fun a => C_X4_get a (11 : Int32) (0 : Int64)) fun r44 =>
  hgR 13 4 (some l0) fun v45 =>
  hCv 6 v45 (fun a => C_X4_has a (11 : Int32)) fun r46 =>
  if r46 = 0 then (
    C_X11_subscribe_J72 l0 l1 l2 r39 r44.toInt32
  ) else (
    if r44.toInt32 = 0 then (
      hgR 13 3 (some l0) fun v47 =>
      hCv 7 v47 (fun a => C_X5_fail a (130 : Int32)) fun r48 =>
      C_X11_subscribe_J72 l0 l1 l2 r39 r44.toInt32
    ) else (
      C_X11_subscribe_J72 l0 l1 l2 r39 r44.toInt32
    )
  )
set_option maxRecDepth 10000 in
theorem mo_C_X11_subscribe (l0 : Nat) (l1 : Option Nat) (l2 : Option Nat) (l3 : Int32) : Mo (C_X11_subscribe l0 l1 l2 l3) := by
  unfold C_X11_subscribe
  repeat' (with_reducible first | assumption | exact mo_rt _ | exact mo_zt _ | exact mo_no | apply mo_C_X5_expect | apply mo_C_X5_number | apply mo_C_X4_read | apply mo_C_X4_get | apply mo_C_X4_has | apply mo_C_X11_subscribe_J72 | apply mo_C_X5_fail | refine mo_ite ?_ ?_ | refine mo_hgI (fun _ => ?_) | refine mo_hgR (fun _ => ?_) | refine mo_hCv (fun _ => ?_) (fun _ => ?_) | refine mo_lq (fun _ => ?_) | refine mo_hpI ?_ | refine mo_hpR ?_ | refine mo_hAi (fun _ => ?_) | refine mo_hAr (fun _ => ?_) | refine mo_hWi ?_ | refine mo_hWr ?_ | refine mo_hLn (fun _ => ?_) | refine mo_hgL (fun _ => ?_) | refine mo_hpL ?_ | refine mo_hpZ ?_ | refine mo_bd ?_ (fun _ => ?_) | refine mo_hCi (fun _ => ?_) (fun _ => ?_) | refine mo_hNw (fun _ => ?_) | refine mo_hNa (fun _ => ?_) | refine mo_hCp ?_ | refine mo_hOi ?_ | refine mo_hAl (fun _ => ?_) | refine mo_hWl ?_ | refine mo_gd ?_ | refine mo_sLn (fun _ => ?_) | refine mo_sAt (fun _ => ?_) | refine mo_kLn (fun _ => ?_) | refine mo_kAt (fun _ => ?_))
set_option maxRecDepth 10000 in
theorem mC_X11_subscribe {w : Wd} (hw : Wc w) (l0 : Nat) (l1 : Option Nat) (l2 : Option Nat) (l3 : Int32) : MH w yX11_subscribe cX11_subscribe 11 (some .int) 12 391 voI [va_rf (some l0), va_rf l1, va_rf l2, .int l3] (C_X11_subscribe l0 l1 l2 l3) := by
  have M0 : ∀ g : Gm Hp Int32, g.1 = w → Bx g cX11_subscribe 11 RX11 voI (some .int) 12 391 "subscribe" → Sm g 11 0 (lv_args 0 [va_rf (some l0), va_rf l1, va_rf l2, .int l3]) [] (C_X11_subscribe l0 l1 l2 l3) := by
    intro g hg B
    subst hg
    unfold C_X11_subscribe
    refine W_lva (lv := [(0, va_rf (some l0)), (1, va_rf l1), (2, va_rf l2), (3, .int l3)]) (by simp [lv_args, va_rf_cat, cat_i, cat_l, cat_r]) ?_
    refine s_rload_n B.1.1 0 dX11_subscribe_0 rfl rfl ?_
    refine hp_getR B.1 13 3 rfl (by decide) inX11 (by decide) fk_X11_3 cf_X11_34 dX11_subscribe_1 (fun v36 => ?_)
    refine s_iload_n B.1.1 3 dX11_subscribe_4 rfl rfl ?_
    refine s_iconst (v := 2) B.1.1 dX11_subscribe_5 (by decide) ?_
    refine hp_cvv (As := [.int l3, .int (2 : Int32)]) (st := []) 7 rfl (by decide) B.1 (fun a => mC_X5_expect B.2.1 a l3 (2 : Int32)) cc_X5_expect cl_X11_334 cn_X5_expect ce_X5_expect ci_X5 cd_X5_expect (by decide) rfl (Nat.le_of_ble_eq_true rfl) dX11_subscribe_6 (fun r37 => ?_)
    refine s_rload_n B.1.1 0 dX11_subscribe_9 rfl rfl ?_
    refine hp_getR B.1 13 3 rfl (by decide) inX11 (by decide) fk_X11_3 cf_X11_34 dX11_subscribe_10 (fun v38 => ?_)
    refine hp_cvi (As := []) (st := []) 7 rfl (by decide) B.1 (fun a => mC_X5_number B.2.1 a ) cc_X5_number cl_X11_459 cn_X5_number ce_X5_number ci_X5 cd_X5_number (by decide) rfl (Nat.le_of_ble_eq_true rfl) dX11_subscribe_13 (fun r39 => ?_)
    refine s_istore (i := 4) (lv' := [(4, .int r39), (0, va_rf (some l0)), (1, va_rf l1), (2, va_rf l2), (3, .int l3)]) B.1.1 dX11_subscribe_16 (by decide) rfl ?_
    refine s_rload_n B.1.1 1 dX11_subscribe_18 rfl rfl ?_
    refine hp_getR B.1 13 4 rfl (by decide) inX11 (by decide) fk_X11_4 cf_X11_41 dX11_subscribe_19 (fun v40 => ?_)
    refine s_rload_n B.1.1 1 dX11_subscribe_22 rfl rfl ?_
    refine hp_getR B.1 13 3 rfl (by decide) inX11 (by decide) fk_X11_3 cf_X11_34 dX11_subscribe_23 (fun v41 => ?_)
    refine s_ldc2 (v := (274877908992)) B.1.1 tw_1172 dX11_subscribe_26 ?_
    refine hp_cvv (As := [va_rf v41, .long (274877908992 : Int64)]) (st := []) 6 rfl (by decide) B.1 (fun a => mC_X4_read B.2.1 a v41 (274877908992 : Int64)) cc_X4_read cl_X11_353 cn_X4_read ce_X4_read ci_X4 cd_X4_read (by decide) rfl (Nat.le_of_ble_eq_true rfl) dX11_subscribe_29 (fun r42 => ?_)
    refine s_rload_n B.1.1 1 dX11_subscribe_32 rfl rfl ?_
    refine hp_getR B.1 13 4 rfl (by decide) inX11 (by decide) fk_X11_4 cf_X11_41 dX11_subscribe_33 (fun v43 => ?_)
    refine s_bipush (v := (11)) B.1.1 dX11_subscribe_36 (by decide) ?_
    refine s_lconst (v := 0) B.1.1 dX11_subscribe_38 (by decide) ?_
    refine hp_cvl (As := [.int (11 : Int32), .long (0 : Int64)]) (st := []) 6 rfl (by decide) B.1 (fun a => mC_X4_get B.2.1 a (11 : Int32) (0 : Int64)) cc_X4_get cl_X11_356 cn_X4_get ce_X4_get ci_X4 cd_X4_get (by decide) rfl (Nat.le_of_ble_eq_true rfl) dX11_subscribe_39 (fun r44 => ?_)
    refine s_l2i B.1.1 dX11_subscribe_42 ?_
    refine s_istore (i := 5) (lv' := [(5, .int r44.toInt32), (4, .int r39), (0, va_rf (some l0)), (1, va_rf l1), (2, va_rf l2), (3, .int l3)]) B.1.1 dX11_subscribe_43 (by decide) rfl ?_
    refine s_rload_n B.1.1 2 dX11_subscribe_45 rfl rfl ?_
    refine hp_getR B.1 13 4 rfl (by decide) inX11 (by decide) fk_X11_4 cf_X11_41 dX11_subscribe_46 (fun v45 => ?_)
    refine s_bipush (v := (11)) B.1.1 dX11_subscribe_49 (by decide) ?_
    refine hp_cvi (As := [.int (11 : Int32)]) (st := []) 6 rfl (by decide) B.1 (fun a => mC_X4_has B.2.1 a (11 : Int32)) cc_X4_has cl_X11_467 cn_X4_has ce_X4_has ci_X4 cd_X4_has (by decide) rfl (Nat.le_of_ble_eq_true rfl) dX11_subscribe_51 (fun r46 => ?_)
    refine s_if_eq B.1.1 72 dX11_subscribe_54 (by decide) ?_ ?_
    · exact Sm.lvs [2, 3, 4, 1, 0] rfl (sc_X11_subscribe_J72 B l1 l2 r39 r44.toInt32)
    · refine s_iload B.1.1 0 dX11_subscribe_57 rfl ?_
      refine s_if_ne B.1.1 72 dX11_subscribe_59 (by decide) ?_ ?_
      · exact Sm.lvs [2, 3, 4, 1, 0] rfl (sc_X11_subscribe_J72 B l1 l2 r39 r44.toInt32)
      · refine s_rload_n B.1.1 2 dX11_subscribe_62 rfl rfl ?_
        refine hp_getR B.1 13 3 rfl (by decide) inX11 (by decide) fk_X11_3 cf_X11_34 dX11_subscribe_63 (fun v47 => ?_)
        refine s_sipush (v := (130)) B.1.1 dX11_subscribe_66 (by decide) ?_
        refine hp_cvv (As := [.int (130 : Int32)]) (st := []) 7 rfl (by decide) B.1 (fun a => mC_X5_fail B.2.1 a (130 : Int32)) cc_X5_fail cl_X11_359 cn_X5_fail ce_X5_fail ci_X5 cd_X5_fail (by decide) rfl (Nat.le_of_ble_eq_true rfl) dX11_subscribe_69 (fun r48 => ?_)
        exact Sm.lvs [2, 3, 4, 1, 0] rfl (sc_X11_subscribe_J72 B l1 l2 r39 r44.toInt32)
  exact MH.of hw ⟨rfl, rfl⟩ (by decide) (by simp [lg_sl, va_rf_cat, cat_i, cat_l, cat_r]) (mo_C_X11_subscribe l0 l1 l2 l3) M0
def C_X8_unsubscribe_J66 (l0 : Nat) : Hp → Option (Int32 × Hp) :=
  hgR 10 3 (some l0) fun v1 =>
  hgI 10 4 (some l0) fun v2 =>
  hWr 6 11 v1 v2 none <|
  rt ((0 : Int32))
set_option maxRecDepth 10000 in
theorem mo_C_X8_unsubscribe_J66 (l0 : Nat) : Mo (C_X8_unsubscribe_J66 l0) := by
  unfold C_X8_unsubscribe_J66
  repeat' (with_reducible first | assumption | exact mo_rt _ | exact mo_zt _ | exact mo_no | refine mo_ite ?_ ?_ | refine mo_hgI (fun _ => ?_) | refine mo_hgR (fun _ => ?_) | refine mo_hCv (fun _ => ?_) (fun _ => ?_) | refine mo_lq (fun _ => ?_) | refine mo_hpI ?_ | refine mo_hpR ?_ | refine mo_hAi (fun _ => ?_) | refine mo_hAr (fun _ => ?_) | refine mo_hWi ?_ | refine mo_hWr ?_ | refine mo_hLn (fun _ => ?_) | refine mo_hgL (fun _ => ?_) | refine mo_hpL ?_ | refine mo_hpZ ?_ | refine mo_bd ?_ (fun _ => ?_) | refine mo_hCi (fun _ => ?_) (fun _ => ?_) | refine mo_hNw (fun _ => ?_) | refine mo_hNa (fun _ => ?_) | refine mo_hCp ?_ | refine mo_hOi ?_ | refine mo_hAl (fun _ => ?_) | refine mo_hWl ?_ | refine mo_gd ?_ | refine mo_sLn (fun _ => ?_) | refine mo_sAt (fun _ => ?_) | refine mo_kLn (fun _ => ?_) | refine mo_kAt (fun _ => ?_))
set_option maxRecDepth 10000 in
theorem sc_X8_unsubscribe_J66 {g : Gm Hp Int32} (B : Bx g cX8_unsubscribe 4 RX8 voI (some .int) 11 366 "unsubscribe") {l0 : Nat} : Sm g 4 66 [(0, va_rf (some l0))] [] (C_X8_unsubscribe_J66 l0) := by
  unfold C_X8_unsubscribe_J66
  refine s_rload_n B.1.1 0 dX8_unsubscribe_66 rfl rfl ?_
  refine hp_getR B.1 10 3 rfl (by decide) inX8 (by decide) fk_X8_3 cf_X8_11 dX8_unsubscribe_67 (fun v1 => ?_)
  refine s_rload_n B.1.1 0 dX8_unsubscribe_70 rfl rfl ?_
  refine hp_getI B.1 10 4 rfl (by decide) inX8 (by decide) fk_X8_4.1 fk_X8_4.2 cf_X8_38 dX8_unsubscribe_71 (fun v2 => ?_)
  refine s_null B.1.1 dX8_unsubscribe_74 ?_
  refine hp_Wr B.1 6 11 (by decide) (fun _ => rfl) rfl (by decide) dX8_unsubscribe_75 ?_
  refine s_iconst (v := 0) B.1.1 dX8_unsubscribe_76 (by decide) ?_
  exact s_iret B.1.1 B.2.2.2.2 dX8_unsubscribe_77
def C_X8_unsubscribe_B38 (l0 : Nat) (kb : Int32 → Hp → Option (Int32 × Hp)) (ke66 : Hp → Option (Int32 × Hp)) (l3 : Int32) : Hp → Option (Int32 × Hp) :=
  hgI 10 4 (some l0) fun v3 =>
  if v3 ≤ l3 then (
    ke66
  ) else (
    hgR 10 3 (some l0) fun v4 =>
    hgR 10 3 (some l0) fun v5 =>
    hAr 6 v5 (l3 + (1 : Int32)) fun v6 =>
    hWr 6 11 v4 l3 v6 <|
    kb (l3 + 1)
  )
def C_X8_unsubscribe_L38 (l0 : Nat) (ke66 : Hp → Option (Int32 × Hp)) : Nat → Int32 → Hp → Option (Int32 × Hp)
  | 0, _ => no
  | n + 1, l3 => C_X8_unsubscribe_B38 l0 (fun l3 => C_X8_unsubscribe_L38 l0 ke66 n l3) ke66 l3
set_option maxRecDepth 10000 in
theorem mo_C_X8_unsubscribe_B38 (l0 : Nat) (kb : Int32 → Hp → Option (Int32 × Hp)) (ke66 : Hp → Option (Int32 × Hp)) (hkb : ∀ (l3 : Int32), Mo (kb l3)) (hke66 : Mo (ke66)) (l3 : Int32) : Mo (C_X8_unsubscribe_B38 l0 kb ke66 l3) := by
  unfold C_X8_unsubscribe_B38
  repeat' (with_reducible first | assumption | exact mo_rt _ | exact mo_zt _ | exact mo_no | apply hkb | apply hke66 | refine mo_ite ?_ ?_ | refine mo_hgI (fun _ => ?_) | refine mo_hgR (fun _ => ?_) | refine mo_hCv (fun _ => ?_) (fun _ => ?_) | refine mo_lq (fun _ => ?_) | refine mo_hpI ?_ | refine mo_hpR ?_ | refine mo_hAi (fun _ => ?_) | refine mo_hAr (fun _ => ?_) | refine mo_hWi ?_ | refine mo_hWr ?_ | refine mo_hLn (fun _ => ?_) | refine mo_hgL (fun _ => ?_) | refine mo_hpL ?_ | refine mo_hpZ ?_ | refine mo_bd ?_ (fun _ => ?_) | refine mo_hCi (fun _ => ?_) (fun _ => ?_) | refine mo_hNw (fun _ => ?_) | refine mo_hNa (fun _ => ?_) | refine mo_hCp ?_ | refine mo_hOi ?_ | refine mo_hAl (fun _ => ?_) | refine mo_hWl ?_ | refine mo_gd ?_ | refine mo_sLn (fun _ => ?_) | refine mo_sAt (fun _ => ?_) | refine mo_kLn (fun _ => ?_) | refine mo_kAt (fun _ => ?_))
set_option maxRecDepth 10000 in
theorem mo_C_X8_unsubscribe_L38 (l0 : Nat) (ke66 : Hp → Option (Int32 × Hp)) (hke66 : Mo (ke66)) : ∀ (n : Nat) (l3 : Int32), Mo (C_X8_unsubscribe_L38 l0 ke66 n l3)
  | 0, _ => mo_no
  | n + 1, l3 => mo_C_X8_unsubscribe_B38 l0 _ ke66 (mo_C_X8_unsubscribe_L38 l0 ke66 hke66 n) hke66 l3
set_option maxRecDepth 10000 in
theorem sc_X8_unsubscribe_B38 {g : Gm Hp Int32} {kb : Int32 → Hp → Option (Int32 × Hp)} {ke66 : Hp → Option (Int32 × Hp)} (B : Bx g cX8_unsubscribe 4 RX8 voI (some .int) 11 366 "unsubscribe") {l0 : Nat} (hkb : ∀ (l3 : Int32), Sm g 4 38 [(0, va_rf (some l0)), (3, .int l3)] [] (kb l3)) (hke66 : Sm g 4 66 [(0, va_rf (some l0))] [] (ke66)) (l3 : Int32) : Sm g 4 38 [(0, va_rf (some l0)), (3, .int l3)] [] (C_X8_unsubscribe_B38 l0 kb ke66 l3) := by
  unfold C_X8_unsubscribe_B38
  refine s_iload_n B.1.1 1 dX8_unsubscribe_38 rfl rfl ?_
  refine s_rload_n B.1.1 0 dX8_unsubscribe_39 rfl rfl ?_
  refine hp_getI B.1 10 4 rfl (by decide) inX8 (by decide) fk_X8_4.1 fk_X8_4.2 cf_X8_38 dX8_unsubscribe_40 (fun v3 => ?_)
  refine s_icmp_ge B.1.1 66 dX8_unsubscribe_43 (by decide) ?_ ?_
  · exact Sm.lvs [0] rfl (hke66)
  · refine s_rload_n B.1.1 0 dX8_unsubscribe_46 rfl rfl ?_
    refine hp_getR B.1 10 3 rfl (by decide) inX8 (by decide) fk_X8_3 cf_X8_11 dX8_unsubscribe_47 (fun v4 => ?_)
    refine s_iload_n B.1.1 1 dX8_unsubscribe_50 rfl rfl ?_
    refine s_rload_n B.1.1 0 dX8_unsubscribe_51 rfl rfl ?_
    refine hp_getR B.1 10 3 rfl (by decide) inX8 (by decide) fk_X8_3 cf_X8_11 dX8_unsubscribe_52 (fun v5 => ?_)
    refine s_iload_n B.1.1 1 dX8_unsubscribe_55 rfl rfl ?_
    refine s_iconst (v := 1) B.1.1 dX8_unsubscribe_56 (by decide) ?_
    refine s_iadd B.1.1 dX8_unsubscribe_57 ?_
    refine hp_Ar B.1 6 (by decide) (fun _ => rfl) dX8_unsubscribe_58 (fun v6 => ?_)
    refine hp_Wr B.1 6 11 (by decide) (fun _ => rfl) rfl (by decide) dX8_unsubscribe_59 ?_
    refine s_iinc (v := l3 + 1) (lv' := [(3, .int (l3 + 1)), (0, va_rf (some l0))]) B.1.1 1 dX8_unsubscribe_60 rfl rfl (by decide) rfl ?_
    refine s_goto B.1.1 38 dX8_unsubscribe_63 (by decide) ?_
    exact Sm.lvs [1, 0] rfl (hkb (l3 + 1))
set_option maxRecDepth 10000 in
theorem sc_X8_unsubscribe_L38 {g : Gm Hp Int32} {ke66 : Hp → Option (Int32 × Hp)} (B : Bx g cX8_unsubscribe 4 RX8 voI (some .int) 11 366 "unsubscribe") {l0 : Nat} (hke66 : Sm g 4 66 [(0, va_rf (some l0))] [] (ke66)) : ∀ (n : Nat) (l3 : Int32), Sm g 4 38 [(0, va_rf (some l0)), (3, .int l3)] [] (C_X8_unsubscribe_L38 l0 ke66 n l3)
  | 0, _ => Sm.fail
  | n + 1, l3 => sc_X8_unsubscribe_B38 B (sc_X8_unsubscribe_L38 B hke66 n) hke66 l3
def C_X8_unsubscribe (l0 : Nat) (l1 : Option Nat) : Hp → Option (Int32 × Hp) :=
  hCv 9 l1 (fun a => C_X7_filterStart a) fun r7 =>
  if r7 = (-1 : Int32) then (
    rt ((143 : Int32))
  ) else (
    hCv 10 (some l0) (fun a => C_X8_indexOf a l1) fun r8 =>
    if r8 = (-1 : Int32) then (
      rt ((17 : Int32))
    ) else (
      hgI 10 4 (some l0) fun v9 =>
      hpI 10 4 (some l0) (v9 - (1 : Int32)) <|
      C_X8_unsubscribe_L38 l0 (C_X8_unsubscribe_J66 l0) fu r8
    )
  )
set_option maxRecDepth 10000 in
theorem mo_C_X8_unsubscribe (l0 : Nat) (l1 : Option Nat) : Mo (C_X8_unsubscribe l0 l1) := by
  unfold C_X8_unsubscribe
  repeat' (with_reducible first | assumption | exact mo_rt _ | exact mo_zt _ | exact mo_no | apply mo_C_X7_filterStart | apply mo_C_X8_indexOf | apply mo_C_X8_unsubscribe_L38 | apply mo_C_X8_unsubscribe_J66 | refine mo_ite ?_ ?_ | refine mo_hgI (fun _ => ?_) | refine mo_hgR (fun _ => ?_) | refine mo_hCv (fun _ => ?_) (fun _ => ?_) | refine mo_lq (fun _ => ?_) | refine mo_hpI ?_ | refine mo_hpR ?_ | refine mo_hAi (fun _ => ?_) | refine mo_hAr (fun _ => ?_) | refine mo_hWi ?_ | refine mo_hWr ?_ | refine mo_hLn (fun _ => ?_) | refine mo_hgL (fun _ => ?_) | refine mo_hpL ?_ | refine mo_hpZ ?_ | refine mo_bd ?_ (fun _ => ?_) | refine mo_hCi (fun _ => ?_) (fun _ => ?_) | refine mo_hNw (fun _ => ?_) | refine mo_hNa (fun _ => ?_) | refine mo_hCp ?_ | refine mo_hOi ?_ | refine mo_hAl (fun _ => ?_) | refine mo_hWl ?_ | refine mo_gd ?_ | refine mo_sLn (fun _ => ?_) | refine mo_sAt (fun _ => ?_) | refine mo_kLn (fun _ => ?_) | refine mo_kAt (fun _ => ?_))
set_option maxRecDepth 10000 in
theorem mC_X8_unsubscribe {w : Wd} (hw : Wc w) (l0 : Nat) (l1 : Option Nat) : MH w yX8_unsubscribe cX8_unsubscribe 4 (some .int) 11 366 voI [va_rf (some l0), va_rf l1] (C_X8_unsubscribe l0 l1) := by
  have M0 : ∀ g : Gm Hp Int32, g.1 = w → Bx g cX8_unsubscribe 4 RX8 voI (some .int) 11 366 "unsubscribe" → Sm g 4 0 (lv_args 0 [va_rf (some l0), va_rf l1]) [] (C_X8_unsubscribe l0 l1) := by
    intro g hg B
    subst hg
    unfold C_X8_unsubscribe
    refine W_lva (lv := [(0, va_rf (some l0)), (1, va_rf l1)]) (by simp [lv_args, va_rf_cat, cat_i, cat_l, cat_r]) ?_
    refine s_rload_n B.1.1 1 dX8_unsubscribe_0 rfl rfl ?_
    refine hp_cvi (As := []) (st := []) 9 rfl (by decide) B.1 (fun a => mC_X7_filterStart B.2.1 a ) cc_X7_filterStart cl_X8_54 cn_X7_filterStart ce_X7_filterStart ci_X7 cd_X7_filterStart (by decide) rfl (Nat.le_of_ble_eq_true rfl) dX8_unsubscribe_1 (fun r7 => ?_)
    refine s_iconst (v := (-1)) B.1.1 dX8_unsubscribe_4 (by decide) ?_
    refine s_icmp_ne B.1.1 12 dX8_unsubscribe_5 (by decide) ?_ ?_
    · refine s_rload_n B.1.1 0 dX8_unsubscribe_12 rfl rfl ?_
      refine s_rload_n B.1.1 1 dX8_unsubscribe_13 rfl rfl ?_
      refine hp_cvi (As := [va_rf l1]) (st := []) 10 rfl (by decide) B.1 (fun a => mC_X8_indexOf B.2.1 a l1) cc_X8_indexOf cl_X8_50 cn_X8_indexOf ce_X8_indexOf ci_X8 cd_X8_indexOf (by decide) rfl (Nat.le_of_ble_eq_true rfl) dX8_unsubscribe_14 (fun r8 => ?_)
      refine s_istore_n (i := 2) (lv' := [(2, .int r8), (0, va_rf (some l0)), (1, va_rf l1)]) B.1.1 dX8_unsubscribe_17 rfl (by decide) (by simp [va_rf_cat, cat_i, cat_l, cat_r]) ?_
      refine s_iload_n B.1.1 0 dX8_unsubscribe_18 rfl rfl ?_
      refine s_iconst (v := (-1)) B.1.1 dX8_unsubscribe_19 (by decide) ?_
      refine s_icmp_ne B.1.1 26 dX8_unsubscribe_20 (by decide) ?_ ?_
      · refine s_rload_n B.1.1 1 dX8_unsubscribe_26 rfl rfl ?_
        refine s_dup B.1.1 dX8_unsubscribe_27 rfl ?_
        refine hp_getI B.1 10 4 rfl (by decide) inX8 (by decide) fk_X8_4.1 fk_X8_4.2 cf_X8_38 dX8_unsubscribe_28 (fun v9 => ?_)
        refine s_iconst (v := 1) B.1.1 dX8_unsubscribe_31 (by decide) ?_
        refine s_isub B.1.1 dX8_unsubscribe_32 ?_
        refine hp_putI B.1 10 4 rfl (by decide) inX8 tyX8 tyX8_ok nmX8 (by decide) fk_X8_4.1 fk_X8_4.2 ft_X8_4 rfl cf_X8_38 dX8_unsubscribe_33 ?_
        refine s_iload_n B.1.1 0 dX8_unsubscribe_36 rfl rfl ?_
        refine s_istore_n (i := 3) (lv' := [(3, .int r8), (2, .int r8), (0, va_rf (some l0)), (1, va_rf l1)]) B.1.1 dX8_unsubscribe_37 rfl (by decide) rfl ?_
        exact Sm.lvs [2, 0] rfl (sc_X8_unsubscribe_L38 B (sc_X8_unsubscribe_J66 B) fu r8)
      · refine s_bipush (v := (17)) B.1.1 dX8_unsubscribe_23 (by decide) ?_
        exact s_iret B.1.1 B.2.2.2.2 dX8_unsubscribe_25
    · refine s_sipush (v := (143)) B.1.1 dX8_unsubscribe_8 (by decide) ?_
      exact s_iret B.1.1 B.2.2.2.2 dX8_unsubscribe_11
  exact MH.of hw ⟨rfl, rfl⟩ (by decide) (by simp [lg_sl, va_rf_cat, cat_i, cat_l, cat_r]) (mo_C_X8_unsubscribe l0 l1) M0
def C_X11_unsubscribe_J187 (l0 : Nat) (l1 : Option Nat) : Hp → Option (Int32 × Hp) :=
  hgR 13 5 (some l0) fun v1 =>
  hCv 2 l1 (fun a => C_X0_put a v1) fun r2 =>
  rt ((0 : Int32))
set_option maxRecDepth 10000 in
theorem mo_C_X11_unsubscribe_J187 (l0 : Nat) (l1 : Option Nat) : Mo (C_X11_unsubscribe_J187 l0 l1) := by
  unfold C_X11_unsubscribe_J187
  repeat' (with_reducible first | assumption | exact mo_rt _ | exact mo_zt _ | exact mo_no | apply mo_C_X0_put | refine mo_ite ?_ ?_ | refine mo_hgI (fun _ => ?_) | refine mo_hgR (fun _ => ?_) | refine mo_hCv (fun _ => ?_) (fun _ => ?_) | refine mo_lq (fun _ => ?_) | refine mo_hpI ?_ | refine mo_hpR ?_ | refine mo_hAi (fun _ => ?_) | refine mo_hAr (fun _ => ?_) | refine mo_hWi ?_ | refine mo_hWr ?_ | refine mo_hLn (fun _ => ?_) | refine mo_hgL (fun _ => ?_) | refine mo_hpL ?_ | refine mo_hpZ ?_ | refine mo_bd ?_ (fun _ => ?_) | refine mo_hCi (fun _ => ?_) (fun _ => ?_) | refine mo_hNw (fun _ => ?_) | refine mo_hNa (fun _ => ?_) | refine mo_hCp ?_ | refine mo_hOi ?_ | refine mo_hAl (fun _ => ?_) | refine mo_hWl ?_ | refine mo_gd ?_ | refine mo_sLn (fun _ => ?_) | refine mo_sAt (fun _ => ?_) | refine mo_kLn (fun _ => ?_) | refine mo_kAt (fun _ => ?_))
set_option maxRecDepth 10000 in
theorem sc_X11_unsubscribe_J187 {g : Gm Hp Int32} (B : Bx g cX11_unsubscribe 8 RX11 voI (some .int) 12 389 "unsubscribe") {l0 : Nat} (l1 : Option Nat) : Sm g 8 187 [(0, va_rf (some l0)), (1, va_rf l1)] [] (C_X11_unsubscribe_J187 l0 l1) := by
  unfold C_X11_unsubscribe_J187
  refine s_rload_n B.1.1 1 dX11_unsubscribe_187 rfl rfl ?_
  refine s_rload_n B.1.1 0 dX11_unsubscribe_188 rfl rfl ?_
  refine hp_getR B.1 13 5 rfl (by decide) inX11 (by decide) fk_X11_5 cf_X11_48 dX11_unsubscribe_189 (fun v1 => ?_)
  refine hp_cvv (As := [va_rf v1]) (st := []) 2 rfl (by decide) B.1 (fun a => mC_X0_put B.2.1 a v1) cc_X0_put cl_X11_327 cn_X0_put ce_X0_put ci_X0 cd_X0_put (by decide) rfl (Nat.le_of_ble_eq_true rfl) dX11_unsubscribe_192 (fun r2 => ?_)
  refine s_iconst (v := 0) B.1.1 dX11_unsubscribe_195 (by decide) ?_
  exact s_iret B.1.1 B.2.2.2.2 dX11_unsubscribe_196
def C_X11_unsubscribe_B155 (l0 : Nat) (kb : Option Nat → Option Nat → Int32 → Int32 → Hp → Option (Int32 × Hp)) (ke187 : Option Nat → Hp → Option (Int32 × Hp)) (l1 : Option Nat) (l2 : Option Nat) (l6 : Int32) (l7 : Int32) : Hp → Option (Int32 × Hp) :=
  if l6 ≤ l7 then (
    ke187 l1
  ) else (
    hgR 13 5 (some l0) fun v3 =>
    hgR 13 3 (some l0) fun v4 =>
    hCv 7 v4 (fun a => C_X5_row a (1 : Int32)) fun r5 =>
    hCv 10 l2 (fun a => C_X8_unsubscribe a r5) fun r6 =>
    hCv 12 v3 (fun a => C_X10_one a r6) fun r7 =>
    kb l1 l2 l6 (l7 + 1)
  )
def C_X11_unsubscribe_L155 (l0 : Nat) (ke187 : Option Nat → Hp → Option (Int32 × Hp)) : Nat → Option Nat → Option Nat → Int32 → Int32 → Hp → Option (Int32 × Hp)
  | 0, _, _, _, _ => no
  | n + 1, l1, l2, l6, l7 => C_X11_unsubscribe_B155 l0 (fun l1 l2 l6 l7 => C_X11_unsubscribe_L155 l0 ke187 n l1 l2 l6 l7) ke187 l1 l2 l6 l7
set_option maxRecDepth 10000 in
theorem mo_C_X11_unsubscribe_B155 (l0 : Nat) (kb : Option Nat → Option Nat → Int32 → Int32 → Hp → Option (Int32 × Hp)) (ke187 : Option Nat → Hp → Option (Int32 × Hp)) (hkb : ∀ (l1 : Option Nat) (l2 : Option Nat) (l6 : Int32) (l7 : Int32), Mo (kb l1 l2 l6 l7)) (hke187 : ∀ (l1 : Option Nat), Mo (ke187 l1)) (l1 : Option Nat) (l2 : Option Nat) (l6 : Int32) (l7 : Int32) : Mo (C_X11_unsubscribe_B155 l0 kb ke187 l1 l2 l6 l7) := by
  unfold C_X11_unsubscribe_B155
  repeat' (with_reducible first | assumption | exact mo_rt _ | exact mo_zt _ | exact mo_no | apply mo_C_X5_row | apply mo_C_X8_unsubscribe | apply mo_C_X10_one | apply hkb | apply hke187 | refine mo_ite ?_ ?_ | refine mo_hgI (fun _ => ?_) | refine mo_hgR (fun _ => ?_) | refine mo_hCv (fun _ => ?_) (fun _ => ?_) | refine mo_lq (fun _ => ?_) | refine mo_hpI ?_ | refine mo_hpR ?_ | refine mo_hAi (fun _ => ?_) | refine mo_hAr (fun _ => ?_) | refine mo_hWi ?_ | refine mo_hWr ?_ | refine mo_hLn (fun _ => ?_) | refine mo_hgL (fun _ => ?_) | refine mo_hpL ?_ | refine mo_hpZ ?_ | refine mo_bd ?_ (fun _ => ?_) | refine mo_hCi (fun _ => ?_) (fun _ => ?_) | refine mo_hNw (fun _ => ?_) | refine mo_hNa (fun _ => ?_) | refine mo_hCp ?_ | refine mo_hOi ?_ | refine mo_hAl (fun _ => ?_) | refine mo_hWl ?_ | refine mo_gd ?_ | refine mo_sLn (fun _ => ?_) | refine mo_sAt (fun _ => ?_) | refine mo_kLn (fun _ => ?_) | refine mo_kAt (fun _ => ?_))
set_option maxRecDepth 10000 in
theorem mo_C_X11_unsubscribe_L155 (l0 : Nat) (ke187 : Option Nat → Hp → Option (Int32 × Hp)) (hke187 : ∀ (l1 : Option Nat), Mo (ke187 l1)) : ∀ (n : Nat) (l1 : Option Nat) (l2 : Option Nat) (l6 : Int32) (l7 : Int32), Mo (C_X11_unsubscribe_L155 l0 ke187 n l1 l2 l6 l7)
  | 0, _, _, _, _ => mo_no
  | n + 1, l1, l2, l6, l7 => mo_C_X11_unsubscribe_B155 l0 _ ke187 (mo_C_X11_unsubscribe_L155 l0 ke187 hke187 n) hke187 l1 l2 l6 l7
set_option maxRecDepth 10000 in
theorem sc_X11_unsubscribe_B155 {g : Gm Hp Int32} {kb : Option Nat → Option Nat → Int32 → Int32 → Hp → Option (Int32 × Hp)} {ke187 : Option Nat → Hp → Option (Int32 × Hp)} (B : Bx g cX11_unsubscribe 8 RX11 voI (some .int) 12 389 "unsubscribe") {l0 : Nat} (hkb : ∀ (l1 : Option Nat) (l2 : Option Nat) (l6 : Int32) (l7 : Int32), Sm g 8 155 [(0, va_rf (some l0)), (1, va_rf l1), (2, va_rf l2), (6, .int l6), (7, .int l7)] [] (kb l1 l2 l6 l7)) (hke187 : ∀ (l1 : Option Nat), Sm g 8 187 [(0, va_rf (some l0)), (1, va_rf l1)] [] (ke187 l1)) (l1 : Option Nat) (l2 : Option Nat) (l6 : Int32) (l7 : Int32) : Sm g 8 155 [(0, va_rf (some l0)), (1, va_rf l1), (2, va_rf l2), (6, .int l6), (7, .int l7)] [] (C_X11_unsubscribe_B155 l0 kb ke187 l1 l2 l6 l7) := by
  unfold C_X11_unsubscribe_B155
  refine s_iload B.1.1 4 dX11_unsubscribe_155 rfl ?_
  refine s_iload B.1.1 3 dX11_unsubscribe_157 rfl ?_
  refine s_icmp_ge B.1.1 187 dX11_unsubscribe_159 (by decide) ?_ ?_
  · exact Sm.lvs [0, 1] rfl (hke187 l1)
  · refine s_rload_n B.1.1 0 dX11_unsubscribe_162 rfl rfl ?_
    refine hp_getR B.1 13 5 rfl (by decide) inX11 (by decide) fk_X11_5 cf_X11_48 dX11_unsubscribe_163 (fun v3 => ?_)
    refine s_rload_n B.1.1 2 dX11_unsubscribe_166 rfl rfl ?_
    refine s_rload_n B.1.1 0 dX11_unsubscribe_167 rfl rfl ?_
    refine hp_getR B.1 13 3 rfl (by decide) inX11 (by decide) fk_X11_3 cf_X11_34 dX11_unsubscribe_168 (fun v4 => ?_)
    refine s_iconst (v := 1) B.1.1 dX11_unsubscribe_171 (by decide) ?_
    refine hp_cvr (As := [.int (1 : Int32)]) (st := [va_rf l2, va_rf v3]) 7 rfl (by decide) B.1 (fun a => mC_X5_row B.2.1 a (1 : Int32)) cc_X5_row cl_X11_451 cn_X5_row ce_X5_row ci_X5 cd_X5_row (by decide) rfl (by simp [va_rf_cat, cat_i, cat_l, cat_r]) dX11_unsubscribe_172 (fun r5 => ?_)
    refine hp_cvi (As := [va_rf r5]) (st := [va_rf v3]) 10 rfl (by decide) B.1 (fun a => mC_X8_unsubscribe B.2.1 a r5) cc_X8_unsubscribe cl_X11_603 cn_X8_unsubscribe ce_X8_unsubscribe ci_X8 cd_X8_unsubscribe (by decide) rfl (by simp [va_rf_cat, cat_i, cat_l, cat_r]) dX11_unsubscribe_175 (fun r6 => ?_)
    refine hp_cvv (As := [.int r6]) (st := []) 12 rfl (by decide) B.1 (fun a => mC_X10_one B.2.1 a r6) cc_X10_one cl_X11_324 cn_X10_one ce_X10_one ci_X10 cd_X10_one (by decide) rfl (Nat.le_of_ble_eq_true rfl) dX11_unsubscribe_178 (fun r7 => ?_)
    refine s_iinc (v := l7 + 1) (lv' := [(7, .int (l7 + 1)), (0, va_rf (some l0)), (1, va_rf l1), (2, va_rf l2), (6, .int l6)]) B.1.1 4 dX11_unsubscribe_181 rfl rfl (by decide) rfl ?_
    refine s_goto B.1.1 155 dX11_unsubscribe_184 (by decide) ?_
    exact Sm.lvs [1, 2, 3, 4, 0] rfl (hkb l1 l2 l6 (l7 + 1))
set_option maxRecDepth 10000 in
theorem sc_X11_unsubscribe_L155 {g : Gm Hp Int32} {ke187 : Option Nat → Hp → Option (Int32 × Hp)} (B : Bx g cX11_unsubscribe 8 RX11 voI (some .int) 12 389 "unsubscribe") {l0 : Nat} (hke187 : ∀ (l1 : Option Nat), Sm g 8 187 [(0, va_rf (some l0)), (1, va_rf l1)] [] (ke187 l1)) : ∀ (n : Nat) (l1 : Option Nat) (l2 : Option Nat) (l6 : Int32) (l7 : Int32), Sm g 8 155 [(0, va_rf (some l0)), (1, va_rf l1), (2, va_rf l2), (6, .int l6), (7, .int l7)] [] (C_X11_unsubscribe_L155 l0 ke187 n l1 l2 l6 l7)
  | 0, _, _, _, _ => Sm.fail
  | n + 1, l1, l2, l6, l7 => sc_X11_unsubscribe_B155 B (sc_X11_unsubscribe_L155 B hke187 n) hke187 l1 l2 l6 l7
def C_X11_unsubscribe_J98 (l0 : Nat) (l1 : Option Nat) (l2 : Option Nat) (l4 : Int32) (l5 : Int32) (l6 : Int32) : Hp → Option (Int32 × Hp) :=
  hgR 13 3 (some l0) fun v8 =>
  hgI 7 4 v8 fun v9 =>
  if v9 = 0 then (
    hgR 13 3 (some l0) fun v10 =>
    hpI 7 2 v10 l5 <|
    hgR 13 5 (some l0) fun v11 =>
    hCv 12 v11 (fun a => C_X10_begin a (176 : Int32)) fun r12 =>
    hgR 13 5 (some l0) fun v13 =>
    hCv 12 v13 (fun a => C_X10_two a l4) fun r14 =>
    hgR 13 5 (some l0) fun v15 =>
    hCv 12 v15 (fun a => C_X10_one a (0 : Int32)) fun r16 =>
    C_X11_unsubscribe_L155 l0 (fun l1 => C_X11_unsubscribe_J187 l0 l1) fu l1 l2 l6 (0 : Int32)
  ) else (
    hgR 13 3 (some l0) fun v17 =>
    hgI 7 4 v17 fun v18 =>
    rt (v18)
  )
set_option maxRecDepth 10000 in
theorem mo_C_X11_unsubscribe_J98 (l0 : Nat) (l1 : Option Nat) (l2 : Option Nat) (l4 : Int32) (l5 : Int32) (l6 : Int32) : Mo (C_X11_unsubscribe_J98 l0 l1 l2 l4 l5 l6) := by
  unfold C_X11_unsubscribe_J98
  repeat' (with_reducible first | assumption | exact mo_rt _ | exact mo_zt _ | exact mo_no | apply mo_C_X10_begin | apply mo_C_X10_two | apply mo_C_X10_one | apply mo_C_X11_unsubscribe_L155 | apply mo_C_X11_unsubscribe_J187 | refine mo_ite ?_ ?_ | refine mo_hgI (fun _ => ?_) | refine mo_hgR (fun _ => ?_) | refine mo_hCv (fun _ => ?_) (fun _ => ?_) | refine mo_lq (fun _ => ?_) | refine mo_hpI ?_ | refine mo_hpR ?_ | refine mo_hAi (fun _ => ?_) | refine mo_hAr (fun _ => ?_) | refine mo_hWi ?_ | refine mo_hWr ?_ | refine mo_hLn (fun _ => ?_) | refine mo_hgL (fun _ => ?_) | refine mo_hpL ?_ | refine mo_hpZ ?_ | refine mo_bd ?_ (fun _ => ?_) | refine mo_hCi (fun _ => ?_) (fun _ => ?_) | refine mo_hNw (fun _ => ?_) | refine mo_hNa (fun _ => ?_) | refine mo_hCp ?_ | refine mo_hOi ?_ | refine mo_hAl (fun _ => ?_) | refine mo_hWl ?_ | refine mo_gd ?_ | refine mo_sLn (fun _ => ?_) | refine mo_sAt (fun _ => ?_) | refine mo_kLn (fun _ => ?_) | refine mo_kAt (fun _ => ?_))
set_option maxRecDepth 10000 in
theorem sc_X11_unsubscribe_J98 {g : Gm Hp Int32} (B : Bx g cX11_unsubscribe 8 RX11 voI (some .int) 12 389 "unsubscribe") {l0 : Nat} (l1 : Option Nat) (l2 : Option Nat) (l4 : Int32) (l5 : Int32) (l6 : Int32) : Sm g 8 98 [(0, va_rf (some l0)), (1, va_rf l1), (2, va_rf l2), (4, .int l4), (5, .int l5), (6, .int l6)] [] (C_X11_unsubscribe_J98 l0 l1 l2 l4 l5 l6) := by
  unfold C_X11_unsubscribe_J98
  refine s_rload_n B.1.1 0 dX11_unsubscribe_98 rfl rfl ?_
  refine hp_getR B.1 13 3 rfl (by decide) inX11 (by decide) fk_X11_3 cf_X11_34 dX11_unsubscribe_99 (fun v8 => ?_)
  refine hp_getI B.1 7 4 rfl (by decide) inX5 (by decide) fk_X5_4.1 fk_X5_4.2 cf_X11_341 dX11_unsubscribe_102 (fun v9 => ?_)
  refine s_if_eq B.1.1 116 dX11_unsubscribe_105 (by decide) ?_ ?_
  · refine s_rload_n B.1.1 0 dX11_unsubscribe_116 rfl rfl ?_
    refine hp_getR B.1 13 3 rfl (by decide) inX11 (by decide) fk_X11_3 cf_X11_34 dX11_unsubscribe_117 (fun v10 => ?_)
    refine s_iload B.1.1 4 dX11_unsubscribe_120 rfl ?_
    refine hp_putI B.1 7 2 rfl (by decide) inX5 tyX5 tyX5_ok nmX5 (by decide) fk_X5_2.1 fk_X5_2.2 ft_X5_2 rfl cf_X11_575 dX11_unsubscribe_122 ?_
    refine s_rload_n B.1.1 0 dX11_unsubscribe_125 rfl rfl ?_
    refine hp_getR B.1 13 5 rfl (by decide) inX11 (by decide) fk_X11_5 cf_X11_48 dX11_unsubscribe_126 (fun v11 => ?_)
    refine s_sipush (v := (176)) B.1.1 dX11_unsubscribe_129 (by decide) ?_
    refine hp_cvv (As := [.int (176 : Int32)]) (st := []) 12 rfl (by decide) B.1 (fun a => mC_X10_begin B.2.1 a (176 : Int32)) cc_X10_begin cl_X11_322 cn_X10_begin ce_X10_begin ci_X10 cd_X10_begin (by decide) rfl (Nat.le_of_ble_eq_true rfl) dX11_unsubscribe_132 (fun r12 => ?_)
    refine s_rload_n B.1.1 0 dX11_unsubscribe_135 rfl rfl ?_
    refine hp_getR B.1 13 5 rfl (by decide) inX11 (by decide) fk_X11_5 cf_X11_48 dX11_unsubscribe_136 (fun v13 => ?_)
    refine s_iload B.1.1 3 dX11_unsubscribe_139 rfl ?_
    refine hp_cvv (As := [.int l4]) (st := []) 12 rfl (by decide) B.1 (fun a => mC_X10_two B.2.1 a l4) cc_X10_two cl_X11_331 cn_X10_two ce_X10_two ci_X10 cd_X10_two (by decide) rfl (Nat.le_of_ble_eq_true rfl) dX11_unsubscribe_141 (fun r14 => ?_)
    refine s_rload_n B.1.1 0 dX11_unsubscribe_144 rfl rfl ?_
    refine hp_getR B.1 13 5 rfl (by decide) inX11 (by decide) fk_X11_5 cf_X11_48 dX11_unsubscribe_145 (fun v15 => ?_)
    refine s_iconst (v := 0) B.1.1 dX11_unsubscribe_148 (by decide) ?_
    refine hp_cvv (As := [.int (0 : Int32)]) (st := []) 12 rfl (by decide) B.1 (fun a => mC_X10_one B.2.1 a (0 : Int32)) cc_X10_one cl_X11_324 cn_X10_one ce_X10_one ci_X10 cd_X10_one (by decide) rfl (Nat.le_of_ble_eq_true rfl) dX11_unsubscribe_149 (fun r16 => ?_)
    refine s_iconst (v := 0) B.1.1 dX11_unsubscribe_152 (by decide) ?_
    refine s_istore (i := 7) (lv' := [(7, .int (0 : Int32)), (0, va_rf (some l0)), (1, va_rf l1), (2, va_rf l2), (4, .int l4), (5, .int l5), (6, .int l6)]) B.1.1 dX11_unsubscribe_153 (by decide) rfl ?_
    exact Sm.lvs [1, 2, 3, 6, 0] rfl (sc_X11_unsubscribe_L155 B (fun l1 => sc_X11_unsubscribe_J187 B l1) fu l1 l2 l6 (0 : Int32))
  · refine s_rload_n B.1.1 0 dX11_unsubscribe_108 rfl rfl ?_
    refine hp_getR B.1 13 3 rfl (by decide) inX11 (by decide) fk_X11_3 cf_X11_34 dX11_unsubscribe_109 (fun v17 => ?_)
    refine hp_getI B.1 7 4 rfl (by decide) inX5 (by decide) fk_X5_4.1 fk_X5_4.2 cf_X11_341 dX11_unsubscribe_112 (fun v18 => ?_)
    exact s_iret B.1.1 B.2.2.2.2 dX11_unsubscribe_115
def C_X11_unsubscribe_J83 (l0 : Nat) (l1 : Option Nat) (l2 : Option Nat) (l4 : Int32) (l5 : Int32) (l6 : Int32) : Hp → Option (Int32 × Hp) :=
  if l6 = 0 then (
    hgR 13 3 (some l0) fun v19 =>
    hCv 7 v19 (fun a => C_X5_fail a (130 : Int32)) fun r20 =>
    C_X11_unsubscribe_J98 l0 l1 l2 l4 l5 l6
  ) else (
    C_X11_unsubscribe_J98 l0 l1 l2 l4 l5 l6
  )
set_option maxRecDepth 10000 in
theorem mo_C_X11_unsubscribe_J83 (l0 : Nat) (l1 : Option Nat) (l2 : Option Nat) (l4 : Int32) (l5 : Int32) (l6 : Int32) : Mo (C_X11_unsubscribe_J83 l0 l1 l2 l4 l5 l6) := by
  unfold C_X11_unsubscribe_J83
  repeat' (with_reducible first | assumption | exact mo_rt _ | exact mo_zt _ | exact mo_no | apply mo_C_X5_fail | apply mo_C_X11_unsubscribe_J98 | refine mo_ite ?_ ?_ | refine mo_hgI (fun _ => ?_) | refine mo_hgR (fun _ => ?_) | refine mo_hCv (fun _ => ?_) (fun _ => ?_) | refine mo_lq (fun _ => ?_) | refine mo_hpI ?_ | refine mo_hpR ?_ | refine mo_hAi (fun _ => ?_) | refine mo_hAr (fun _ => ?_) | refine mo_hWi ?_ | refine mo_hWr ?_ | refine mo_hLn (fun _ => ?_) | refine mo_hgL (fun _ => ?_) | refine mo_hpL ?_ | refine mo_hpZ ?_ | refine mo_bd ?_ (fun _ => ?_) | refine mo_hCi (fun _ => ?_) (fun _ => ?_) | refine mo_hNw (fun _ => ?_) | refine mo_hNa (fun _ => ?_) | refine mo_hCp ?_ | refine mo_hOi ?_ | refine mo_hAl (fun _ => ?_) | refine mo_hWl ?_ | refine mo_gd ?_ | refine mo_sLn (fun _ => ?_) | refine mo_sAt (fun _ => ?_) | refine mo_kLn (fun _ => ?_) | refine mo_kAt (fun _ => ?_))
set_option maxRecDepth 10000 in
theorem sc_X11_unsubscribe_J83 {g : Gm Hp Int32} (B : Bx g cX11_unsubscribe 8 RX11 voI (some .int) 12 389 "unsubscribe") {l0 : Nat} (l1 : Option Nat) (l2 : Option Nat) (l4 : Int32) (l5 : Int32) (l6 : Int32) : Sm g 8 83 [(0, va_rf (some l0)), (1, va_rf l1), (2, va_rf l2), (4, .int l4), (5, .int l5), (6, .int l6)] [] (C_X11_unsubscribe_J83 l0 l1 l2 l4 l5 l6) := by
  unfold C_X11_unsubscribe_J83
  refine s_iload B.1.1 5 dX11_unsubscribe_83 rfl ?_
  refine s_if_ne B.1.1 98 dX11_unsubscribe_85 (by decide) ?_ ?_
  · exact Sm.lvs [0, 1, 2, 3, 4, 5] rfl (sc_X11_unsubscribe_J98 B l1 l2 l4 l5 l6)
  · refine s_rload_n B.1.1 0 dX11_unsubscribe_88 rfl rfl ?_
    refine hp_getR B.1 13 3 rfl (by decide) inX11 (by decide) fk_X11_3 cf_X11_34 dX11_unsubscribe_89 (fun v19 => ?_)
    refine s_sipush (v := (130)) B.1.1 dX11_unsubscribe_92 (by decide) ?_
    refine hp_cvv (As := [.int (130 : Int32)]) (st := []) 7 rfl (by decide) B.1 (fun a => mC_X5_fail B.2.1 a (130 : Int32)) cc_X5_fail cl_X11_359 cn_X5_fail ce_X5_fail ci_X5 cd_X5_fail (by decide) rfl (Nat.le_of_ble_eq_true rfl) dX11_unsubscribe_95 (fun r20 => ?_)
    exact Sm.lvs [0, 1, 2, 3, 4, 5] rfl (sc_X11_unsubscribe_J98 B l1 l2 l4 l5 l6)
def C_X11_unsubscribe_B47 (l0 : Nat) (kb : Option Nat → Option Nat → Int32 → Int32 → Int32 → Int32 → Hp → Option (Int32 × Hp)) (ke83 : Option Nat → Option Nat → Int32 → Int32 → Int32 → Hp → Option (Int32 × Hp)) (l1 : Option Nat) (l2 : Option Nat) (l4 : Int32) (l5 : Int32) (l6 : Int32) (l7 : Int32) : Hp → Option (Int32 × Hp) :=
  if (400 : Int32) ≤ l7 then (
    ke83 l1 l2 l4 l5 l6
  ) else (
    hgR 13 3 (some l0) fun v21 =>
    hCv 7 v21 (fun a => C_X5_left a) fun r22 =>
    if r22 ≤ 0 then (
      ke83 l1 l2 l4 l5 l6
    ) else (
      hgR 13 3 (some l0) fun v23 =>
      hCv 7 v23 (fun a => C_X5_row a (1 : Int32)) fun r24 =>
      kb l1 l2 l4 l5 (l6 + 1) (l7 + 1)
    )
  )
def C_X11_unsubscribe_L47 (l0 : Nat) (ke83 : Option Nat → Option Nat → Int32 → Int32 → Int32 → Hp → Option (Int32 × Hp)) : Nat → Option Nat → Option Nat → Int32 → Int32 → Int32 → Int32 → Hp → Option (Int32 × Hp)
  | 0, _, _, _, _, _, _ => no
  | n + 1, l1, l2, l4, l5, l6, l7 => C_X11_unsubscribe_B47 l0 (fun l1 l2 l4 l5 l6 l7 => C_X11_unsubscribe_L47 l0 ke83 n l1 l2 l4 l5 l6 l7) ke83 l1 l2 l4 l5 l6 l7
set_option maxRecDepth 10000 in
theorem mo_C_X11_unsubscribe_B47 (l0 : Nat) (kb : Option Nat → Option Nat → Int32 → Int32 → Int32 → Int32 → Hp → Option (Int32 × Hp)) (ke83 : Option Nat → Option Nat → Int32 → Int32 → Int32 → Hp → Option (Int32 × Hp)) (hkb : ∀ (l1 : Option Nat) (l2 : Option Nat) (l4 : Int32) (l5 : Int32) (l6 : Int32) (l7 : Int32), Mo (kb l1 l2 l4 l5 l6 l7)) (hke83 : ∀ (l1 : Option Nat) (l2 : Option Nat) (l4 : Int32) (l5 : Int32) (l6 : Int32), Mo (ke83 l1 l2 l4 l5 l6)) (l1 : Option Nat) (l2 : Option Nat) (l4 : Int32) (l5 : Int32) (l6 : Int32) (l7 : Int32) : Mo (C_X11_unsubscribe_B47 l0 kb ke83 l1 l2 l4 l5 l6 l7) := by
  unfold C_X11_unsubscribe_B47
  repeat' (with_reducible first | assumption | exact mo_rt _ | exact mo_zt _ | exact mo_no | apply mo_C_X5_left | apply mo_C_X5_row | apply hkb | apply hke83 | refine mo_ite ?_ ?_ | refine mo_hgI (fun _ => ?_) | refine mo_hgR (fun _ => ?_) | refine mo_hCv (fun _ => ?_) (fun _ => ?_) | refine mo_lq (fun _ => ?_) | refine mo_hpI ?_ | refine mo_hpR ?_ | refine mo_hAi (fun _ => ?_) | refine mo_hAr (fun _ => ?_) | refine mo_hWi ?_ | refine mo_hWr ?_ | refine mo_hLn (fun _ => ?_) | refine mo_hgL (fun _ => ?_) | refine mo_hpL ?_ | refine mo_hpZ ?_ | refine mo_bd ?_ (fun _ => ?_) | refine mo_hCi (fun _ => ?_) (fun _ => ?_) | refine mo_hNw (fun _ => ?_) | refine mo_hNa (fun _ => ?_) | refine mo_hCp ?_ | refine mo_hOi ?_ | refine mo_hAl (fun _ => ?_) | refine mo_hWl ?_ | refine mo_gd ?_ | refine mo_sLn (fun _ => ?_) | refine mo_sAt (fun _ => ?_) | refine mo_kLn (fun _ => ?_) | refine mo_kAt (fun _ => ?_))
set_option maxRecDepth 10000 in
theorem mo_C_X11_unsubscribe_L47 (l0 : Nat) (ke83 : Option Nat → Option Nat → Int32 → Int32 → Int32 → Hp → Option (Int32 × Hp)) (hke83 : ∀ (l1 : Option Nat) (l2 : Option Nat) (l4 : Int32) (l5 : Int32) (l6 : Int32), Mo (ke83 l1 l2 l4 l5 l6)) : ∀ (n : Nat) (l1 : Option Nat) (l2 : Option Nat) (l4 : Int32) (l5 : Int32) (l6 : Int32) (l7 : Int32), Mo (C_X11_unsubscribe_L47 l0 ke83 n l1 l2 l4 l5 l6 l7)
  | 0, _, _, _, _, _, _ => mo_no
  | n + 1, l1, l2, l4, l5, l6, l7 => mo_C_X11_unsubscribe_B47 l0 _ ke83 (mo_C_X11_unsubscribe_L47 l0 ke83 hke83 n) hke83 l1 l2 l4 l5 l6 l7
set_option maxRecDepth 10000 in
theorem sc_X11_unsubscribe_B47 {g : Gm Hp Int32} {kb : Option Nat → Option Nat → Int32 → Int32 → Int32 → Int32 → Hp → Option (Int32 × Hp)} {ke83 : Option Nat → Option Nat → Int32 → Int32 → Int32 → Hp → Option (Int32 × Hp)} (B : Bx g cX11_unsubscribe 8 RX11 voI (some .int) 12 389 "unsubscribe") {l0 : Nat} (hkb : ∀ (l1 : Option Nat) (l2 : Option Nat) (l4 : Int32) (l5 : Int32) (l6 : Int32) (l7 : Int32), Sm g 8 47 [(0, va_rf (some l0)), (1, va_rf l1), (2, va_rf l2), (4, .int l4), (5, .int l5), (6, .int l6), (7, .int l7)] [] (kb l1 l2 l4 l5 l6 l7)) (hke83 : ∀ (l1 : Option Nat) (l2 : Option Nat) (l4 : Int32) (l5 : Int32) (l6 : Int32), Sm g 8 83 [(0, va_rf (some l0)), (1, va_rf l1), (2, va_rf l2), (4, .int l4), (5, .int l5), (6, .int l6)] [] (ke83 l1 l2 l4 l5 l6)) (l1 : Option Nat) (l2 : Option Nat) (l4 : Int32) (l5 : Int32) (l6 : Int32) (l7 : Int32) : Sm g 8 47 [(0, va_rf (some l0)), (1, va_rf l1), (2, va_rf l2), (4, .int l4), (5, .int l5), (6, .int l6), (7, .int l7)] [] (C_X11_unsubscribe_B47 l0 kb ke83 l1 l2 l4 l5 l6 l7) := by
  unfold C_X11_unsubscribe_B47
  refine s_iload B.1.1 6 dX11_unsubscribe_47 rfl ?_
  refine s_sipush (v := (400)) B.1.1 dX11_unsubscribe_49 (by decide) ?_
  refine s_icmp_ge B.1.1 83 dX11_unsubscribe_52 (by decide) ?_ ?_
  · exact Sm.lvs [0, 1, 2, 3, 4, 5] rfl (hke83 l1 l2 l4 l5 l6)
  · refine s_rload_n B.1.1 0 dX11_unsubscribe_55 rfl rfl ?_
    refine hp_getR B.1 13 3 rfl (by decide) inX11 (by decide) fk_X11_3 cf_X11_34 dX11_unsubscribe_56 (fun v21 => ?_)
    refine hp_cvi (As := []) (st := []) 7 rfl (by decide) B.1 (fun a => mC_X5_left B.2.1 a ) cc_X5_left cl_X11_347 cn_X5_left ce_X5_left ci_X5 cd_X5_left (by decide) rfl (Nat.le_of_ble_eq_true rfl) dX11_unsubscribe_59 (fun r22 => ?_)
    refine s_if_le B.1.1 83 dX11_unsubscribe_62 (by decide) ?_ ?_
    · exact Sm.lvs [0, 1, 2, 3, 4, 5] rfl (hke83 l1 l2 l4 l5 l6)
    · refine s_rload_n B.1.1 0 dX11_unsubscribe_65 rfl rfl ?_
      refine hp_getR B.1 13 3 rfl (by decide) inX11 (by decide) fk_X11_3 cf_X11_34 dX11_unsubscribe_66 (fun v23 => ?_)
      refine s_iconst (v := 1) B.1.1 dX11_unsubscribe_69 (by decide) ?_
      refine hp_cvr (As := [.int (1 : Int32)]) (st := []) 7 rfl (by decide) B.1 (fun a => mC_X5_row B.2.1 a (1 : Int32)) cc_X5_row cl_X11_451 cn_X5_row ce_X5_row ci_X5 cd_X5_row (by decide) rfl (Nat.le_of_ble_eq_true rfl) dX11_unsubscribe_70 (fun r24 => ?_)
      refine s_pop B.1.1 dX11_unsubscribe_73 (va_rf_cat _) ?_
      refine s_iinc (v := l6 + 1) (lv' := [(6, .int (l6 + 1)), (0, va_rf (some l0)), (1, va_rf l1), (2, va_rf l2), (4, .int l4), (5, .int l5), (7, .int l7)]) B.1.1 5 dX11_unsubscribe_74 rfl rfl (by decide) rfl ?_
      refine s_iinc (v := l7 + 1) (lv' := [(7, .int (l7 + 1)), (6, .int (l6 + 1)), (0, va_rf (some l0)), (1, va_rf l1), (2, va_rf l2), (4, .int l4), (5, .int l5)]) B.1.1 6 dX11_unsubscribe_77 rfl rfl (by decide) rfl ?_
      refine s_goto B.1.1 47 dX11_unsubscribe_80 (by decide) ?_
      exact Sm.lvs [2, 3, 4, 5, 6, 1, 0] rfl (hkb l1 l2 l4 l5 (l6 + 1) (l7 + 1))
set_option maxRecDepth 10000 in
theorem sc_X11_unsubscribe_L47 {g : Gm Hp Int32} {ke83 : Option Nat → Option Nat → Int32 → Int32 → Int32 → Hp → Option (Int32 × Hp)} (B : Bx g cX11_unsubscribe 8 RX11 voI (some .int) 12 389 "unsubscribe") {l0 : Nat} (hke83 : ∀ (l1 : Option Nat) (l2 : Option Nat) (l4 : Int32) (l5 : Int32) (l6 : Int32), Sm g 8 83 [(0, va_rf (some l0)), (1, va_rf l1), (2, va_rf l2), (4, .int l4), (5, .int l5), (6, .int l6)] [] (ke83 l1 l2 l4 l5 l6)) : ∀ (n : Nat) (l1 : Option Nat) (l2 : Option Nat) (l4 : Int32) (l5 : Int32) (l6 : Int32) (l7 : Int32), Sm g 8 47 [(0, va_rf (some l0)), (1, va_rf l1), (2, va_rf l2), (4, .int l4), (5, .int l5), (6, .int l6), (7, .int l7)] [] (C_X11_unsubscribe_L47 l0 ke83 n l1 l2 l4 l5 l6 l7)
  | 0, _, _, _, _, _, _ => Sm.fail
  | n + 1, l1, l2, l4, l5, l6, l7 => sc_X11_unsubscribe_B47 B (sc_X11_unsubscribe_L47 B hke83 n) hke83 l1 l2 l4 l5 l6 l7
def C_X11_unsubscribe (l0 : Nat) (l1 : Option Nat) (l2 : Option Nat) (l3 : Int32) : Hp → Option (Int32 × Hp) :=
  hgR 13 3 (some l0) fun v25 =>
  hCv 7 v25 (fun a => C_X5_expect a l3 (2 : Int32)) fun r26 =>
  hgR 13 3 (some l0) fun v27 =>
  hCv 7 v27 (fun a => C_X5_number a) fun r28 =>
  hgR 13 4 (some l0) fun v29 =>
  hgR 13 3 (some l0) fun v30 =>
  hCv 6 v29 (fun a => C_X4_read a v30 (274877906944 : Int64)) fun r31 =>
  hgR 13 3 (some l0) fun v32 =>
  hgI 7 2 v32 fun v33 =>
  C_X11_unsubscribe_L47 l0 (fun l1 l2 l4 l5 l6 => C_X11_unsubscribe_J83 l0 l1 l2 l4 l5 l6) fu l1 l2 r28 v33 (0 : Int32) (0 : Int32)
set_option maxRecDepth 10000 in
theorem mo_C_X11_unsubscribe (l0 : Nat) (l1 : Option Nat) (l2 : Option Nat) (l3 : Int32) : Mo (C_X11_unsubscribe l0 l1 l2 l3) := by
  unfold C_X11_unsubscribe
  repeat' (with_reducible first | assumption | exact mo_rt _ | exact mo_zt _ | exact mo_no | apply mo_C_X5_expect | apply mo_C_X5_number | apply mo_C_X4_read | apply mo_C_X11_unsubscribe_L47 | apply mo_C_X11_unsubscribe_J83 | refine mo_ite ?_ ?_ | refine mo_hgI (fun _ => ?_) | refine mo_hgR (fun _ => ?_) | refine mo_hCv (fun _ => ?_) (fun _ => ?_) | refine mo_lq (fun _ => ?_) | refine mo_hpI ?_ | refine mo_hpR ?_ | refine mo_hAi (fun _ => ?_) | refine mo_hAr (fun _ => ?_) | refine mo_hWi ?_ | refine mo_hWr ?_ | refine mo_hLn (fun _ => ?_) | refine mo_hgL (fun _ => ?_) | refine mo_hpL ?_ | refine mo_hpZ ?_ | refine mo_bd ?_ (fun _ => ?_) | refine mo_hCi (fun _ => ?_) (fun _ => ?_) | refine mo_hNw (fun _ => ?_) | refine mo_hNa (fun _ => ?_) | refine mo_hCp ?_ | refine mo_hOi ?_ | refine mo_hAl (fun _ => ?_) | refine mo_hWl ?_ | refine mo_gd ?_ | refine mo_sLn (fun _ => ?_) | refine mo_sAt (fun _ => ?_) | refine mo_kLn (fun _ => ?_) | refine mo_kAt (fun _ => ?_))
set_option maxRecDepth 10000 in
theorem mC_X11_unsubscribe {w : Wd} (hw : Wc w) (l0 : Nat) (l1 : Option Nat) (l2 : Option Nat) (l3 : Int32) : MH w yX11_unsubscribe cX11_unsubscribe 8 (some .int) 12 389 voI [va_rf (some l0), va_rf l1, va_rf l2, .int l3] (C_X11_unsubscribe l0 l1 l2 l3) := by
  have M0 : ∀ g : Gm Hp Int32, g.1 = w → Bx g cX11_unsubscribe 8 RX11 voI (some .int) 12 389 "unsubscribe" → Sm g 8 0 (lv_args 0 [va_rf (some l0), va_rf l1, va_rf l2, .int l3]) [] (C_X11_unsubscribe l0 l1 l2 l3) := by
    intro g hg B
    subst hg
    unfold C_X11_unsubscribe
    refine W_lva (lv := [(0, va_rf (some l0)), (1, va_rf l1), (2, va_rf l2), (3, .int l3)]) (by simp [lv_args, va_rf_cat, cat_i, cat_l, cat_r]) ?_
    refine s_rload_n B.1.1 0 dX11_unsubscribe_0 rfl rfl ?_
    refine hp_getR B.1 13 3 rfl (by decide) inX11 (by decide) fk_X11_3 cf_X11_34 dX11_unsubscribe_1 (fun v25 => ?_)
    refine s_iload_n B.1.1 3 dX11_unsubscribe_4 rfl rfl ?_
    refine s_iconst (v := 2) B.1.1 dX11_unsubscribe_5 (by decide) ?_
    refine hp_cvv (As := [.int l3, .int (2 : Int32)]) (st := []) 7 rfl (by decide) B.1 (fun a => mC_X5_expect B.2.1 a l3 (2 : Int32)) cc_X5_expect cl_X11_334 cn_X5_expect ce_X5_expect ci_X5 cd_X5_expect (by decide) rfl (Nat.le_of_ble_eq_true rfl) dX11_unsubscribe_6 (fun r26 => ?_)
    refine s_rload_n B.1.1 0 dX11_unsubscribe_9 rfl rfl ?_
    refine hp_getR B.1 13 3 rfl (by decide) inX11 (by decide) fk_X11_3 cf_X11_34 dX11_unsubscribe_10 (fun v27 => ?_)
    refine hp_cvi (As := []) (st := []) 7 rfl (by decide) B.1 (fun a => mC_X5_number B.2.1 a ) cc_X5_number cl_X11_459 cn_X5_number ce_X5_number ci_X5 cd_X5_number (by decide) rfl (Nat.le_of_ble_eq_true rfl) dX11_unsubscribe_13 (fun r28 => ?_)
    refine s_istore (i := 4) (lv' := [(4, .int r28), (0, va_rf (some l0)), (1, va_rf l1), (2, va_rf l2), (3, .int l3)]) B.1.1 dX11_unsubscribe_16 (by decide) rfl ?_
    refine s_rload_n B.1.1 1 dX11_unsubscribe_18 rfl rfl ?_
    refine hp_getR B.1 13 4 rfl (by decide) inX11 (by decide) fk_X11_4 cf_X11_41 dX11_unsubscribe_19 (fun v29 => ?_)
    refine s_rload_n B.1.1 1 dX11_unsubscribe_22 rfl rfl ?_
    refine hp_getR B.1 13 3 rfl (by decide) inX11 (by decide) fk_X11_3 cf_X11_34 dX11_unsubscribe_23 (fun v30 => ?_)
    refine s_ldc2 (v := (274877906944)) B.1.1 tw_1239 dX11_unsubscribe_26 ?_
    refine hp_cvv (As := [va_rf v30, .long (274877906944 : Int64)]) (st := []) 6 rfl (by decide) B.1 (fun a => mC_X4_read B.2.1 a v30 (274877906944 : Int64)) cc_X4_read cl_X11_353 cn_X4_read ce_X4_read ci_X4 cd_X4_read (by decide) rfl (Nat.le_of_ble_eq_true rfl) dX11_unsubscribe_29 (fun r31 => ?_)
    refine s_rload_n B.1.1 1 dX11_unsubscribe_32 rfl rfl ?_
    refine hp_getR B.1 13 3 rfl (by decide) inX11 (by decide) fk_X11_3 cf_X11_34 dX11_unsubscribe_33 (fun v32 => ?_)
    refine hp_getI B.1 7 2 rfl (by decide) inX5 (by decide) fk_X5_2.1 fk_X5_2.2 cf_X11_575 dX11_unsubscribe_36 (fun v33 => ?_)
    refine s_istore (i := 5) (lv' := [(5, .int v33), (4, .int r28), (0, va_rf (some l0)), (1, va_rf l1), (2, va_rf l2), (3, .int l3)]) B.1.1 dX11_unsubscribe_39 (by decide) rfl ?_
    refine s_iconst (v := 0) B.1.1 dX11_unsubscribe_41 (by decide) ?_
    refine s_istore (i := 6) (lv' := [(6, .int (0 : Int32)), (5, .int v33), (4, .int r28), (0, va_rf (some l0)), (1, va_rf l1), (2, va_rf l2), (3, .int l3)]) B.1.1 dX11_unsubscribe_42 (by decide) rfl ?_
    refine s_iconst (v := 0) B.1.1 dX11_unsubscribe_44 (by decide) ?_
    refine s_istore (i := 7) (lv' := [(7, .int (0 : Int32)), (6, .int (0 : Int32)), (5, .int v33), (4, .int r28), (0, va_rf (some l0)), (1, va_rf l1), (2, va_rf l2), (3, .int l3)]) B.1.1 dX11_unsubscribe_45 (by decide) rfl ?_
    exact Sm.lvs [4, 5, 6, 3, 2, 1, 0] rfl (sc_X11_unsubscribe_L47 B (fun l1 l2 l4 l5 l6 => sc_X11_unsubscribe_J83 B l1 l2 l4 l5 l6) fu l1 l2 r28 v33 (0 : Int32) (0 : Int32))
  exact MH.of hw ⟨rfl, rfl⟩ (by decide) (by simp [lg_sl, va_rf_cat, cat_i, cat_l, cat_r]) (mo_C_X11_unsubscribe l0 l1 l2 l3) M0
def C_X2_checkFlags_J46 (l0 : Nat) (l1 : Option Nat) : Hp → Option (Unit × Hp) :=
  hCv 7 l1 (fun a => C_X5_fail a (129 : Int32)) fun r1 =>
  rt ()
set_option maxRecDepth 10000 in
theorem mo_C_X2_checkFlags_J46 (l0 : Nat) (l1 : Option Nat) : Mo (C_X2_checkFlags_J46 l0 l1) := by
  unfold C_X2_checkFlags_J46
  repeat' (with_reducible first | assumption | exact mo_rt _ | exact mo_zt _ | exact mo_no | apply mo_C_X5_fail | refine mo_ite ?_ ?_ | refine mo_hgI (fun _ => ?_) | refine mo_hgR (fun _ => ?_) | refine mo_hCv (fun _ => ?_) (fun _ => ?_) | refine mo_lq (fun _ => ?_) | refine mo_hpI ?_ | refine mo_hpR ?_ | refine mo_hAi (fun _ => ?_) | refine mo_hAr (fun _ => ?_) | refine mo_hWi ?_ | refine mo_hWr ?_ | refine mo_hLn (fun _ => ?_) | refine mo_hgL (fun _ => ?_) | refine mo_hpL ?_ | refine mo_hpZ ?_ | refine mo_bd ?_ (fun _ => ?_) | refine mo_hCi (fun _ => ?_) (fun _ => ?_) | refine mo_hNw (fun _ => ?_) | refine mo_hNa (fun _ => ?_) | refine mo_hCp ?_ | refine mo_hOi ?_ | refine mo_hAl (fun _ => ?_) | refine mo_hWl ?_ | refine mo_gd ?_ | refine mo_sLn (fun _ => ?_) | refine mo_sAt (fun _ => ?_) | refine mo_kLn (fun _ => ?_) | refine mo_kAt (fun _ => ?_))
set_option maxRecDepth 10000 in
theorem sc_X2_checkFlags_J46 {g : Gm Hp Unit} (B : Bx g cX2_checkFlags 4 RX2 voV none 1 21 "checkFlags") {l0 : Nat} (l1 : Option Nat) : Sm g 4 46 [(1, va_rf l1)] [] (C_X2_checkFlags_J46 l0 l1) := by
  unfold C_X2_checkFlags_J46
  refine s_rload_n B.1.1 0 dX2_checkFlags_46 rfl rfl ?_
  refine s_sipush (v := (129)) B.1.1 dX2_checkFlags_47 (by decide) ?_
  refine hp_cvv (As := [.int (129 : Int32)]) (st := []) 7 rfl (by decide) B.1 (fun a => mC_X5_fail B.2.1 a (129 : Int32)) cc_X5_fail cl_X2_36 cn_X5_fail ce_X5_fail ci_X5 cd_X5_fail (by decide) rfl (Nat.le_of_ble_eq_true rfl) dX2_checkFlags_50 (fun r1 => ?_)
  exact s_vret B.1.1 B.2.2.2.2 dX2_checkFlags_53
def C_X2_checkFlags_J35 (l0 : Nat) (l1 : Option Nat) (l2 : Int32) (s0 : Int32) : Hp → Option (Unit × Hp) :=
  if (l2 &&& (1 : Int32)) = 0 then (
    if s0 = 0 then (
      rt ()
    ) else (
      C_X2_checkFlags_J46 l0 l1
    )
  ) else (
    C_X2_checkFlags_J46 l0 l1
  )
set_option maxRecDepth 10000 in
theorem mo_C_X2_checkFlags_J35 (l0 : Nat) (l1 : Option Nat) (l2 : Int32) (s0 : Int32) : Mo (C_X2_checkFlags_J35 l0 l1 l2 s0) := by
  unfold C_X2_checkFlags_J35
  repeat' (with_reducible first | assumption | exact mo_rt _ | exact mo_zt _ | exact mo_no | apply mo_C_X2_checkFlags_J46 | refine mo_ite ?_ ?_ | refine mo_hgI (fun _ => ?_) | refine mo_hgR (fun _ => ?_) | refine mo_hCv (fun _ => ?_) (fun _ => ?_) | refine mo_lq (fun _ => ?_) | refine mo_hpI ?_ | refine mo_hpR ?_ | refine mo_hAi (fun _ => ?_) | refine mo_hAr (fun _ => ?_) | refine mo_hWi ?_ | refine mo_hWr ?_ | refine mo_hLn (fun _ => ?_) | refine mo_hgL (fun _ => ?_) | refine mo_hpL ?_ | refine mo_hpZ ?_ | refine mo_bd ?_ (fun _ => ?_) | refine mo_hCi (fun _ => ?_) (fun _ => ?_) | refine mo_hNw (fun _ => ?_) | refine mo_hNa (fun _ => ?_) | refine mo_hCp ?_ | refine mo_hOi ?_ | refine mo_hAl (fun _ => ?_) | refine mo_hWl ?_ | refine mo_gd ?_ | refine mo_sLn (fun _ => ?_) | refine mo_sAt (fun _ => ?_) | refine mo_kLn (fun _ => ?_) | refine mo_kAt (fun _ => ?_))
set_option maxRecDepth 10000 in
theorem sc_X2_checkFlags_J35 {g : Gm Hp Unit} (B : Bx g cX2_checkFlags 4 RX2 voV none 1 21 "checkFlags") {l0 : Nat} (l1 : Option Nat) (l2 : Int32) (s0 : Int32) : Sm g 4 35 [(1, va_rf l1), (2, .int l2)] [.int s0] (C_X2_checkFlags_J35 l0 l1 l2 s0) := by
  unfold C_X2_checkFlags_J35
  refine s_istore_n (i := 3) (lv' := [(3, .int s0), (1, va_rf l1), (2, .int l2)]) B.1.1 dX2_checkFlags_35 rfl (by decide) rfl ?_
  refine s_iload_n B.1.1 2 dX2_checkFlags_36 rfl rfl ?_
  refine s_iconst (v := 1) B.1.1 dX2_checkFlags_37 (by decide) ?_
  refine s_iand B.1.1 dX2_checkFlags_38 ?_
  refine s_if_ne B.1.1 46 dX2_checkFlags_39 (by decide) ?_ ?_
  · exact Sm.lvs [1] rfl (sc_X2_checkFlags_J46 B l1)
  · refine s_iload_n B.1.1 0 dX2_checkFlags_42 rfl rfl ?_
    refine s_if_eq B.1.1 53 dX2_checkFlags_43 (by decide) ?_ ?_
    · exact s_vret B.1.1 B.2.2.2.2 dX2_checkFlags_53
    · exact Sm.lvs [1] rfl (sc_X2_checkFlags_J46 B l1)
def C_X2_checkFlags (l0 : Nat) (l1 : Option Nat) (l2 : Int32) : Hp → Option (Unit × Hp) :=
  if (l2 &&& (4 : Int32)) = 0 then (
    if (l2 &&& (56 : Int32)) = 0 then (
      C_X2_checkFlags_J35 l0 l1 l2 (0 : Int32)
    ) else (
      C_X2_checkFlags_J35 l0 l1 l2 (1 : Int32)
    )
  ) else (
    if (l2 &&& (24 : Int32)) = (24 : Int32) then (
      C_X2_checkFlags_J35 l0 l1 l2 (1 : Int32)
    ) else (
      C_X2_checkFlags_J35 l0 l1 l2 (0 : Int32)
    )
  )
set_option maxRecDepth 10000 in
theorem mo_C_X2_checkFlags (l0 : Nat) (l1 : Option Nat) (l2 : Int32) : Mo (C_X2_checkFlags l0 l1 l2) := by
  unfold C_X2_checkFlags
  repeat' (with_reducible first | assumption | exact mo_rt _ | exact mo_zt _ | exact mo_no | apply mo_C_X2_checkFlags_J35 | refine mo_ite ?_ ?_ | refine mo_hgI (fun _ => ?_) | refine mo_hgR (fun _ => ?_) | refine mo_hCv (fun _ => ?_) (fun _ => ?_) | refine mo_lq (fun _ => ?_) | refine mo_hpI ?_ | refine mo_hpR ?_ | refine mo_hAi (fun _ => ?_) | refine mo_hAr (fun _ => ?_) | refine mo_hWi ?_ | refine mo_hWr ?_ | refine mo_hLn (fun _ => ?_) | refine mo_hgL (fun _ => ?_) | refine mo_hpL ?_ | refine mo_hpZ ?_ | refine mo_bd ?_ (fun _ => ?_) | refine mo_hCi (fun _ => ?_) (fun _ => ?_) | refine mo_hNw (fun _ => ?_) | refine mo_hNa (fun _ => ?_) | refine mo_hCp ?_ | refine mo_hOi ?_ | refine mo_hAl (fun _ => ?_) | refine mo_hWl ?_ | refine mo_gd ?_ | refine mo_sLn (fun _ => ?_) | refine mo_sAt (fun _ => ?_) | refine mo_kLn (fun _ => ?_) | refine mo_kAt (fun _ => ?_))
set_option maxRecDepth 10000 in
theorem mC_X2_checkFlags {w : Wd} (hw : Wc w) (l0 : Nat) (l1 : Option Nat) (l2 : Int32) : MH w yX2_checkFlags cX2_checkFlags 4 none 1 21 voV [va_rf (some l0), va_rf l1, .int l2] (C_X2_checkFlags l0 l1 l2) := by
  have M0 : ∀ g : Gm Hp Unit, g.1 = w → Bx g cX2_checkFlags 4 RX2 voV none 1 21 "checkFlags" → Sm g 4 0 (lv_args 0 [va_rf (some l0), va_rf l1, .int l2]) [] (C_X2_checkFlags l0 l1 l2) := by
    intro g hg B
    subst hg
    unfold C_X2_checkFlags
    refine W_lva (lv := [(0, va_rf (some l0)), (1, va_rf l1), (2, .int l2)]) (by simp [lv_args, va_rf_cat, cat_i, cat_l, cat_r]) ?_
    refine s_iload_n B.1.1 2 dX2_checkFlags_0 rfl rfl ?_
    refine s_iconst (v := 4) B.1.1 dX2_checkFlags_1 (by decide) ?_
    refine s_iand B.1.1 dX2_checkFlags_2 ?_
    refine s_if_ne B.1.1 21 dX2_checkFlags_3 (by decide) ?_ ?_
    · refine s_iload_n B.1.1 2 dX2_checkFlags_21 rfl rfl ?_
      refine s_bipush (v := (24)) B.1.1 dX2_checkFlags_22 (by decide) ?_
      refine s_iand B.1.1 dX2_checkFlags_24 ?_
      refine s_bipush (v := (24)) B.1.1 dX2_checkFlags_25 (by decide) ?_
      refine s_icmp_ne B.1.1 34 dX2_checkFlags_27 (by decide) ?_ ?_
      · refine s_iconst (v := 0) B.1.1 dX2_checkFlags_34 (by decide) ?_
        exact Sm.lvs [1, 2] rfl (sc_X2_checkFlags_J35 B l1 l2 (0 : Int32))
      · refine s_iconst (v := 1) B.1.1 dX2_checkFlags_30 (by decide) ?_
        refine s_goto B.1.1 35 dX2_checkFlags_31 (by decide) ?_
        exact Sm.lvs [1, 2] rfl (sc_X2_checkFlags_J35 B l1 l2 (1 : Int32))
    · refine s_iload_n B.1.1 2 dX2_checkFlags_6 rfl rfl ?_
      refine s_bipush (v := (56)) B.1.1 dX2_checkFlags_7 (by decide) ?_
      refine s_iand B.1.1 dX2_checkFlags_9 ?_
      refine s_if_eq B.1.1 17 dX2_checkFlags_10 (by decide) ?_ ?_
      · refine s_iconst (v := 0) B.1.1 dX2_checkFlags_17 (by decide) ?_
        refine s_goto B.1.1 35 dX2_checkFlags_18 (by decide) ?_
        exact Sm.lvs [1, 2] rfl (sc_X2_checkFlags_J35 B l1 l2 (0 : Int32))
      · refine s_iconst (v := 1) B.1.1 dX2_checkFlags_13 (by decide) ?_
        refine s_goto B.1.1 35 dX2_checkFlags_14 (by decide) ?_
        exact Sm.lvs [1, 2] rfl (sc_X2_checkFlags_J35 B l1 l2 (1 : Int32))
  exact MH.of hw ⟨rfl, rfl⟩ (by decide) (by simp [lg_sl, va_rf_cat, cat_i, cat_l, cat_r]) (mo_C_X2_checkFlags l0 l1 l2) M0
def C_X2_readWill_J83 (l0 : Nat) (s0 : Option Nat) (s1 : Option Nat) (s2 : Option Nat) (s3 : Option Nat) (s4 : Int32) (s5 : Int32) : Hp → Option (Unit × Hp) :=
  hCv 6 s1 (fun a => C_X4_message a s2 s3 s4 s5) fun r1 =>
  hpR 4 6 s0 r1 <|
  rt ()
set_option maxRecDepth 10000 in
theorem mo_C_X2_readWill_J83 (l0 : Nat) (s0 : Option Nat) (s1 : Option Nat) (s2 : Option Nat) (s3 : Option Nat) (s4 : Int32) (s5 : Int32) : Mo (C_X2_readWill_J83 l0 s0 s1 s2 s3 s4 s5) := by
  unfold C_X2_readWill_J83
  repeat' (with_reducible first | assumption | exact mo_rt _ | exact mo_zt _ | exact mo_no | apply mo_C_X4_message | refine mo_ite ?_ ?_ | refine mo_hgI (fun _ => ?_) | refine mo_hgR (fun _ => ?_) | refine mo_hCv (fun _ => ?_) (fun _ => ?_) | refine mo_lq (fun _ => ?_) | refine mo_hpI ?_ | refine mo_hpR ?_ | refine mo_hAi (fun _ => ?_) | refine mo_hAr (fun _ => ?_) | refine mo_hWi ?_ | refine mo_hWr ?_ | refine mo_hLn (fun _ => ?_) | refine mo_hgL (fun _ => ?_) | refine mo_hpL ?_ | refine mo_hpZ ?_ | refine mo_bd ?_ (fun _ => ?_) | refine mo_hCi (fun _ => ?_) (fun _ => ?_) | refine mo_hNw (fun _ => ?_) | refine mo_hNa (fun _ => ?_) | refine mo_hCp ?_ | refine mo_hOi ?_ | refine mo_hAl (fun _ => ?_) | refine mo_hWl ?_ | refine mo_gd ?_ | refine mo_sLn (fun _ => ?_) | refine mo_sAt (fun _ => ?_) | refine mo_kLn (fun _ => ?_) | refine mo_kAt (fun _ => ?_))
set_option maxRecDepth 10000 in
theorem sc_X2_readWill_J83 {g : Gm Hp Unit} (B : Bx g cX2_readWill 6 RX2 voV none 6 160 "readWill") {l0 : Nat} (s0 : Option Nat) (s1 : Option Nat) (s2 : Option Nat) (s3 : Option Nat) (s4 : Int32) (s5 : Int32) : Sm g 6 83 [] [.int s5, .int s4, va_rf s3, va_rf s2, va_rf s1, va_rf s0] (C_X2_readWill_J83 l0 s0 s1 s2 s3 s4 s5) := by
  unfold C_X2_readWill_J83
  refine hp_cvr (As := [va_rf s2, va_rf s3, .int s4, .int s5]) (st := [va_rf s0]) 6 rfl (by decide) B.1 (fun a => mC_X4_message B.2.1 a s2 s3 s4 s5) cc_X4_message cl_X2_121 cn_X4_message ce_X4_message ci_X4 cd_X4_message (by decide) rfl (by simp [va_rf_cat, cat_i, cat_l, cat_r]) dX2_readWill_83 (fun r1 => ?_)
  refine hp_putR B.1 4 6 rfl (by decide) inX2 tyX2 tyX2_ok nmX2 (by decide) fk_X2_6 ft_X2_6 rfR rfl cf_X2_94 dX2_readWill_86 ?_
  exact s_vret B.1.1 B.2.2.2.2 dX2_readWill_89
def C_X2_readWill_J46 (l0 : Nat) (l1 : Option Nat) (l2 : Option Nat) (l3 : Int32) (l4 : Option Nat) : Hp → Option (Unit × Hp) :=
  hCv 7 l1 (fun a => C_X5_row a (0 : Int32)) fun r2 =>
  hgI 7 4 l1 fun v3 =>
  if v3 = 0 then (
    if (l3 &&& (32 : Int32)) = 0 then (
      C_X2_readWill_J83 l0 (some l0) l2 l4 r2 ((l3 >>> ((3 : Int32) &&& 31)) &&& (3 : Int32)) (0 : Int32)
    ) else (
      C_X2_readWill_J83 l0 (some l0) l2 l4 r2 ((l3 >>> ((3 : Int32) &&& 31)) &&& (3 : Int32)) (1 : Int32)
    )
  ) else (
    rt ()
  )
set_option maxRecDepth 10000 in
theorem mo_C_X2_readWill_J46 (l0 : Nat) (l1 : Option Nat) (l2 : Option Nat) (l3 : Int32) (l4 : Option Nat) : Mo (C_X2_readWill_J46 l0 l1 l2 l3 l4) := by
  unfold C_X2_readWill_J46
  repeat' (with_reducible first | assumption | exact mo_rt _ | exact mo_zt _ | exact mo_no | apply mo_C_X5_row | apply mo_C_X2_readWill_J83 | refine mo_ite ?_ ?_ | refine mo_hgI (fun _ => ?_) | refine mo_hgR (fun _ => ?_) | refine mo_hCv (fun _ => ?_) (fun _ => ?_) | refine mo_lq (fun _ => ?_) | refine mo_hpI ?_ | refine mo_hpR ?_ | refine mo_hAi (fun _ => ?_) | refine mo_hAr (fun _ => ?_) | refine mo_hWi ?_ | refine mo_hWr ?_ | refine mo_hLn (fun _ => ?_) | refine mo_hgL (fun _ => ?_) | refine mo_hpL ?_ | refine mo_hpZ ?_ | refine mo_bd ?_ (fun _ => ?_) | refine mo_hCi (fun _ => ?_) (fun _ => ?_) | refine mo_hNw (fun _ => ?_) | refine mo_hNa (fun _ => ?_) | refine mo_hCp ?_ | refine mo_hOi ?_ | refine mo_hAl (fun _ => ?_) | refine mo_hWl ?_ | refine mo_gd ?_ | refine mo_sLn (fun _ => ?_) | refine mo_sAt (fun _ => ?_) | refine mo_kLn (fun _ => ?_) | refine mo_kAt (fun _ => ?_))
set_option maxRecDepth 10000 in
theorem sc_X2_readWill_J46 {g : Gm Hp Unit} (B : Bx g cX2_readWill 6 RX2 voV none 6 160 "readWill") {l0 : Nat} (l1 : Option Nat) (l2 : Option Nat) (l3 : Int32) (l4 : Option Nat) : Sm g 6 46 [(0, va_rf (some l0)), (1, va_rf l1), (2, va_rf l2), (3, .int l3), (4, va_rf l4)] [] (C_X2_readWill_J46 l0 l1 l2 l3 l4) := by
  unfold C_X2_readWill_J46
  refine s_rload_n B.1.1 1 dX2_readWill_46 rfl rfl ?_
  refine s_iconst (v := 0) B.1.1 dX2_readWill_47 (by decide) ?_
  refine hp_cvr (As := [.int (0 : Int32)]) (st := []) 7 rfl (by decide) B.1 (fun a => mC_X5_row B.2.1 a (0 : Int32)) cc_X5_row cl_X2_15 cn_X5_row ce_X5_row ci_X5 cd_X5_row (by decide) rfl (Nat.le_of_ble_eq_true rfl) dX2_readWill_48 (fun r2 => ?_)
  refine s_rstore (i := 5) (lv' := [(5, va_rf r2), (0, va_rf (some l0)), (1, va_rf l1), (2, va_rf l2), (3, .int l3), (4, va_rf l4)]) B.1.1 dX2_readWill_51 (by decide) (by simp [va_rf_cat, cat_i, cat_l, cat_r]) ?_
  refine s_rload_n B.1.1 2 dX2_readWill_53 rfl rfl ?_
  refine hp_getI B.1 7 4 rfl (by decide) inX5 (by decide) fk_X5_4.1 fk_X5_4.2 cf_X2_118 dX2_readWill_54 (fun v3 => ?_)
  refine s_if_ne B.1.1 89 dX2_readWill_57 (by decide) ?_ ?_
  · exact s_vret B.1.1 B.2.2.2.2 dX2_readWill_89
  · refine s_rload_n B.1.1 1 dX2_readWill_60 rfl rfl ?_
    refine s_rload_n B.1.1 3 dX2_readWill_61 rfl rfl ?_
    refine s_rload B.1.1 5 dX2_readWill_62 rfl ?_
    refine s_rload B.1.1 0 dX2_readWill_64 rfl ?_
    refine s_iload_n B.1.1 4 dX2_readWill_66 rfl rfl ?_
    refine s_iconst (v := 3) B.1.1 dX2_readWill_67 (by decide) ?_
    refine s_ishr B.1.1 dX2_readWill_68 ?_
    refine s_iconst (v := 3) B.1.1 dX2_readWill_69 (by decide) ?_
    refine s_iand B.1.1 dX2_readWill_70 ?_
    refine s_iload_n B.1.1 4 dX2_readWill_71 rfl rfl ?_
    refine s_bipush (v := (32)) B.1.1 dX2_readWill_72 (by decide) ?_
    refine s_iand B.1.1 dX2_readWill_74 ?_
    refine s_if_eq B.1.1 82 dX2_readWill_75 (by decide) ?_ ?_
    · refine s_iconst (v := 0) B.1.1 dX2_readWill_82 (by decide) ?_
      exact Sm.lvs [] rfl (sc_X2_readWill_J83 B (some l0) l2 l4 r2 ((l3 >>> ((3 : Int32) &&& 31)) &&& (3 : Int32)) (0 : Int32))
    · refine s_iconst (v := 1) B.1.1 dX2_readWill_78 (by decide) ?_
      refine s_goto B.1.1 83 dX2_readWill_79 (by decide) ?_
      exact Sm.lvs [] rfl (sc_X2_readWill_J83 B (some l0) l2 l4 r2 ((l3 >>> ((3 : Int32) &&& 31)) &&& (3 : Int32)) (1 : Int32))
def C_X2_readWill (l0 : Nat) (l1 : Option Nat) (l2 : Option Nat) (l3 : Int32) : Hp → Option (Unit × Hp) :=
  hCv 6 l2 (fun a => C_X4_read a l1 (274894684942 : Int64)) fun r4 =>
  hCv 6 l2 (fun a => C_X4_checkResponse a l1) fun r5 =>
  hCv 6 l2 (fun a => C_X4_get a (24 : Int32) (0 : Int64)) fun r6 =>
  hpL 4 7 (some l0) r6 <|
  hCv 7 l1 (fun a => C_X5_row a (1 : Int32)) fun r7 =>
  hCv 9 r7 (fun a => C_X7_isTopic a) fun r8 =>
  if r8 = 0 then (
    hCv 7 l1 (fun a => C_X5_fail a (144 : Int32)) fun r9 =>
    C_X2_readWill_J46 l0 l1 l2 l3 r7
  ) else (
    C_X2_readWill_J46 l0 l1 l2 l3 r7
  )
set_option maxRecDepth 10000 in
theorem mo_C_X2_readWill (l0 : Nat) (l1 : Option Nat) (l2 : Option Nat) (l3 : Int32) : Mo (C_X2_readWill l0 l1 l2 l3) := by
  unfold C_X2_readWill
  repeat' (with_reducible first | assumption | exact mo_rt _ | exact mo_zt _ | exact mo_no | apply mo_C_X4_read | apply mo_C_X4_checkResponse | apply mo_C_X4_get | apply mo_C_X5_row | apply mo_C_X7_isTopic | apply mo_C_X5_fail | apply mo_C_X2_readWill_J46 | refine mo_ite ?_ ?_ | refine mo_hgI (fun _ => ?_) | refine mo_hgR (fun _ => ?_) | refine mo_hCv (fun _ => ?_) (fun _ => ?_) | refine mo_lq (fun _ => ?_) | refine mo_hpI ?_ | refine mo_hpR ?_ | refine mo_hAi (fun _ => ?_) | refine mo_hAr (fun _ => ?_) | refine mo_hWi ?_ | refine mo_hWr ?_ | refine mo_hLn (fun _ => ?_) | refine mo_hgL (fun _ => ?_) | refine mo_hpL ?_ | refine mo_hpZ ?_ | refine mo_bd ?_ (fun _ => ?_) | refine mo_hCi (fun _ => ?_) (fun _ => ?_) | refine mo_hNw (fun _ => ?_) | refine mo_hNa (fun _ => ?_) | refine mo_hCp ?_ | refine mo_hOi ?_ | refine mo_hAl (fun _ => ?_) | refine mo_hWl ?_ | refine mo_gd ?_ | refine mo_sLn (fun _ => ?_) | refine mo_sAt (fun _ => ?_) | refine mo_kLn (fun _ => ?_) | refine mo_kAt (fun _ => ?_))
set_option maxRecDepth 10000 in
theorem mC_X2_readWill {w : Wd} (hw : Wc w) (l0 : Nat) (l1 : Option Nat) (l2 : Option Nat) (l3 : Int32) : MH w yX2_readWill cX2_readWill 6 none 6 160 voV [va_rf (some l0), va_rf l1, va_rf l2, .int l3] (C_X2_readWill l0 l1 l2 l3) := by
  have M0 : ∀ g : Gm Hp Unit, g.1 = w → Bx g cX2_readWill 6 RX2 voV none 6 160 "readWill" → Sm g 6 0 (lv_args 0 [va_rf (some l0), va_rf l1, va_rf l2, .int l3]) [] (C_X2_readWill l0 l1 l2 l3) := by
    intro g hg B
    subst hg
    unfold C_X2_readWill
    refine W_lva (lv := [(0, va_rf (some l0)), (1, va_rf l1), (2, va_rf l2), (3, .int l3)]) (by simp [lv_args, va_rf_cat, cat_i, cat_l, cat_r]) ?_
    refine s_rload_n B.1.1 2 dX2_readWill_0 rfl rfl ?_
    refine s_rload_n B.1.1 1 dX2_readWill_1 rfl rfl ?_
    refine s_ldc2 (v := (274894684942)) B.1.1 tw_868 dX2_readWill_2 ?_
    refine hp_cvv (As := [va_rf l1, .long (274894684942 : Int64)]) (st := []) 6 rfl (by decide) B.1 (fun a => mC_X4_read B.2.1 a l1 (274894684942 : Int64)) cc_X4_read cl_X2_62 cn_X4_read ce_X4_read ci_X4 cd_X4_read (by decide) rfl (Nat.le_of_ble_eq_true rfl) dX2_readWill_5 (fun r4 => ?_)
    refine s_rload_n B.1.1 2 dX2_readWill_8 rfl rfl ?_
    refine s_rload_n B.1.1 1 dX2_readWill_9 rfl rfl ?_
    refine hp_cvv (As := [va_rf l1]) (st := []) 6 rfl (by decide) B.1 (fun a => mC_X4_checkResponse B.2.1 a l1) cc_X4_checkResponse cl_X2_110 cn_X4_checkResponse ce_X4_checkResponse ci_X4 cd_X4_checkResponse (by decide) rfl (Nat.le_of_ble_eq_true rfl) dX2_readWill_10 (fun r5 => ?_)
    refine s_rload_n B.1.1 0 dX2_readWill_13 rfl rfl ?_
    refine s_rload_n B.1.1 2 dX2_readWill_14 rfl rfl ?_
    refine s_bipush (v := (24)) B.1.1 dX2_readWill_15 (by decide) ?_
    refine s_lconst (v := 0) B.1.1 dX2_readWill_17 (by decide) ?_
    refine hp_cvl (As := [.int (24 : Int32), .long (0 : Int64)]) (st := [va_rf (some l0)]) 6 rfl (by decide) B.1 (fun a => mC_X4_get B.2.1 a (24 : Int32) (0 : Int64)) cc_X4_get cl_X2_72 cn_X4_get ce_X4_get ci_X4 cd_X4_get (by decide) rfl (Nat.le_of_ble_eq_true rfl) dX2_readWill_18 (fun r6 => ?_)
    refine hp_putL B.1 4 7 rfl (by decide) inX2 tyX2 tyX2_ok nmX2 (by decide) fk_X2_7 ft_X2_7 rfl cf_X2_98 dX2_readWill_21 ?_
    refine s_rload_n B.1.1 1 dX2_readWill_24 rfl rfl ?_
    refine s_iconst (v := 1) B.1.1 dX2_readWill_25 (by decide) ?_
    refine hp_cvr (As := [.int (1 : Int32)]) (st := []) 7 rfl (by decide) B.1 (fun a => mC_X5_row B.2.1 a (1 : Int32)) cc_X5_row cl_X2_15 cn_X5_row ce_X5_row ci_X5 cd_X5_row (by decide) rfl (Nat.le_of_ble_eq_true rfl) dX2_readWill_26 (fun r7 => ?_)
    refine s_rstore (i := 4) (lv' := [(4, va_rf r7), (0, va_rf (some l0)), (1, va_rf l1), (2, va_rf l2), (3, .int l3)]) B.1.1 dX2_readWill_29 (by decide) rfl ?_
    refine s_rload B.1.1 0 dX2_readWill_31 rfl ?_
    refine hp_cvi (As := []) (st := []) 9 rfl (by decide) B.1 (fun a => mC_X7_isTopic B.2.1 a ) cc_X7_isTopic cl_X2_114 cn_X7_isTopic ce_X7_isTopic ci_X7 cd_X7_isTopic (by decide) rfl (Nat.le_of_ble_eq_true rfl) dX2_readWill_33 (fun r8 => ?_)
    refine s_if_ne B.1.1 46 dX2_readWill_36 (by decide) ?_ ?_
    · exact Sm.lvs [1, 2, 3, 4, 0] rfl (sc_X2_readWill_J46 B l1 l2 l3 r7)
    · refine s_rload_n B.1.1 2 dX2_readWill_39 rfl rfl ?_
      refine s_sipush (v := (144)) B.1.1 dX2_readWill_40 (by decide) ?_
      refine hp_cvv (As := [.int (144 : Int32)]) (st := []) 7 rfl (by decide) B.1 (fun a => mC_X5_fail B.2.1 a (144 : Int32)) cc_X5_fail cl_X2_36 cn_X5_fail ce_X5_fail ci_X5 cd_X5_fail (by decide) rfl (Nat.le_of_ble_eq_true rfl) dX2_readWill_43 (fun r9 => ?_)
      exact Sm.lvs [1, 2, 3, 4, 0] rfl (sc_X2_readWill_J46 B l1 l2 l3 r7)
  exact MH.of hw ⟨rfl, rfl⟩ (by decide) (by simp [lg_sl, va_rf_cat, cat_i, cat_l, cat_r]) (mo_C_X2_readWill l0 l1 l2 l3) M0
def C_X2_read_J266 (l0 : Nat) (l1 : Option Nat) : Hp → Option (Unit × Hp) :=
  hgR 4 0 (some l0) fun v1 =>
  hCv 9 v1 (fun a => C_X7_count a) fun r2 =>
  if r2 ≤ (20 : Int32) then (
    rt ()
  ) else (
    hCv 7 l1 (fun a => C_X5_fail a (133 : Int32)) fun r3 =>
    rt ()
  )
set_option maxRecDepth 10000 in
theorem mo_C_X2_read_J266 (l0 : Nat) (l1 : Option Nat) : Mo (C_X2_read_J266 l0 l1) := by
  unfold C_X2_read_J266
  repeat' (with_reducible first | assumption | exact mo_rt _ | exact mo_zt _ | exact mo_no | apply mo_C_X7_count | apply mo_C_X5_fail | refine mo_ite ?_ ?_ | refine mo_hgI (fun _ => ?_) | refine mo_hgR (fun _ => ?_) | refine mo_hCv (fun _ => ?_) (fun _ => ?_) | refine mo_lq (fun _ => ?_) | refine mo_hpI ?_ | refine mo_hpR ?_ | refine mo_hAi (fun _ => ?_) | refine mo_hAr (fun _ => ?_) | refine mo_hWi ?_ | refine mo_hWr ?_ | refine mo_hLn (fun _ => ?_) | refine mo_hgL (fun _ => ?_) | refine mo_hpL ?_ | refine mo_hpZ ?_ | refine mo_bd ?_ (fun _ => ?_) | refine mo_hCi (fun _ => ?_) (fun _ => ?_) | refine mo_hNw (fun _ => ?_) | refine mo_hNa (fun _ => ?_) | refine mo_hCp ?_ | refine mo_hOi ?_ | refine mo_hAl (fun _ => ?_) | refine mo_hWl ?_ | refine mo_gd ?_ | refine mo_sLn (fun _ => ?_) | refine mo_sAt (fun _ => ?_) | refine mo_kLn (fun _ => ?_) | refine mo_kAt (fun _ => ?_))
set_option maxRecDepth 10000 in
theorem sc_X2_read_J266 {g : Gm Hp Unit} (B : Bx g cX2_read 7 RX2 voV none 9 323 "read") {l0 : Nat} (l1 : Option Nat) : Sm g 7 266 [(0, va_rf (some l0)), (1, va_rf l1)] [] (C_X2_read_J266 l0 l1) := by
  unfold C_X2_read_J266
  refine s_rload_n B.1.1 0 dX2_read_266 rfl rfl ?_
  refine hp_getR B.1 4 0 rfl (by decide) inX2 (by decide) fk_X2_0 cf_X2_90 dX2_read_267 (fun v1 => ?_)
  refine hp_cvi (As := []) (st := []) 9 rfl (by decide) B.1 (fun a => mC_X7_count B.2.1 a ) cc_X7_count cl_X2_19 cn_X7_count ce_X7_count ci_X7 cd_X7_count (by decide) rfl (Nat.le_of_ble_eq_true rfl) dX2_read_270 (fun r2 => ?_)
  refine s_bipush (v := (20)) B.1.1 dX2_read_273 (by decide) ?_
  refine s_icmp_le B.1.1 285 dX2_read_275 (by decide) ?_ ?_
  · exact s_vret B.1.1 B.2.2.2.2 dX2_read_285
  · refine s_rload_n B.1.1 1 dX2_read_278 rfl rfl ?_
    refine s_sipush (v := (133)) B.1.1 dX2_read_279 (by decide) ?_
    refine hp_cvv (As := [.int (133 : Int32)]) (st := []) 7 rfl (by decide) B.1 (fun a => mC_X5_fail B.2.1 a (133 : Int32)) cc_X5_fail cl_X2_36 cn_X5_fail ce_X5_fail ci_X5 cd_X5_fail (by decide) rfl (Nat.le_of_ble_eq_true rfl) dX2_read_282 (fun r3 => ?_)
    exact s_vret B.1.1 B.2.2.2.2 dX2_read_285
def C_X2_read_J250 (l0 : Nat) (l1 : Option Nat) (l6 : Int32) : Hp → Option (Unit × Hp) :=
  hCv 7 l1 (fun a => C_X5_finish a) fun r4 =>
  if l6 = 0 then (
    C_X2_read_J266 l0 l1
  ) else (
    hCv 7 l1 (fun a => C_X5_fail a (140 : Int32)) fun r5 =>
    C_X2_read_J266 l0 l1
  )
set_option maxRecDepth 10000 in
theorem mo_C_X2_read_J250 (l0 : Nat) (l1 : Option Nat) (l6 : Int32) : Mo (C_X2_read_J250 l0 l1 l6) := by
  unfold C_X2_read_J250
  repeat' (with_reducible first | assumption | exact mo_rt _ | exact mo_zt _ | exact mo_no | apply mo_C_X5_finish | apply mo_C_X2_read_J266 | apply mo_C_X5_fail | refine mo_ite ?_ ?_ | refine mo_hgI (fun _ => ?_) | refine mo_hgR (fun _ => ?_) | refine mo_hCv (fun _ => ?_) (fun _ => ?_) | refine mo_lq (fun _ => ?_) | refine mo_hpI ?_ | refine mo_hpR ?_ | refine mo_hAi (fun _ => ?_) | refine mo_hAr (fun _ => ?_) | refine mo_hWi ?_ | refine mo_hWr ?_ | refine mo_hLn (fun _ => ?_) | refine mo_hgL (fun _ => ?_) | refine mo_hpL ?_ | refine mo_hpZ ?_ | refine mo_bd ?_ (fun _ => ?_) | refine mo_hCi (fun _ => ?_) (fun _ => ?_) | refine mo_hNw (fun _ => ?_) | refine mo_hNa (fun _ => ?_) | refine mo_hCp ?_ | refine mo_hOi ?_ | refine mo_hAl (fun _ => ?_) | refine mo_hWl ?_ | refine mo_gd ?_ | refine mo_sLn (fun _ => ?_) | refine mo_sAt (fun _ => ?_) | refine mo_kLn (fun _ => ?_) | refine mo_kAt (fun _ => ?_))
set_option maxRecDepth 10000 in
theorem sc_X2_read_J250 {g : Gm Hp Unit} (B : Bx g cX2_read 7 RX2 voV none 9 323 "read") {l0 : Nat} (l1 : Option Nat) (l6 : Int32) : Sm g 7 250 [(0, va_rf (some l0)), (1, va_rf l1), (6, .int l6)] [] (C_X2_read_J250 l0 l1 l6) := by
  unfold C_X2_read_J250
  refine s_rload_n B.1.1 1 dX2_read_250 rfl rfl ?_
  refine hp_cvv (As := []) (st := []) 7 rfl (by decide) B.1 (fun a => mC_X5_finish B.2.1 a ) cc_X5_finish cl_X2_105 cn_X5_finish ce_X5_finish ci_X5 cd_X5_finish (by decide) rfl (Nat.le_of_ble_eq_true rfl) dX2_read_251 (fun r4 => ?_)
  refine s_iload B.1.1 2 dX2_read_254 rfl ?_
  refine s_if_eq B.1.1 266 dX2_read_256 (by decide) ?_ ?_
  · exact Sm.lvs [0, 1] rfl (sc_X2_read_J266 B l1)
  · refine s_rload_n B.1.1 1 dX2_read_259 rfl rfl ?_
    refine s_sipush (v := (140)) B.1.1 dX2_read_260 (by decide) ?_
    refine hp_cvv (As := [.int (140 : Int32)]) (st := []) 7 rfl (by decide) B.1 (fun a => mC_X5_fail B.2.1 a (140 : Int32)) cc_X5_fail cl_X2_36 cn_X5_fail ce_X5_fail ci_X5 cd_X5_fail (by decide) rfl (Nat.le_of_ble_eq_true rfl) dX2_read_263 (fun r5 => ?_)
    exact Sm.lvs [0, 1] rfl (sc_X2_read_J266 B l1)
def C_X2_read_J236 (l0 : Nat) (l1 : Option Nat) (l5 : Int32) (l6 : Int32) : Hp → Option (Unit × Hp) :=
  if (l5 &&& (64 : Int32)) = 0 then (
    C_X2_read_J250 l0 l1 l6
  ) else (
    hCv 7 l1 (fun a => C_X5_row a (0 : Int32)) fun r6 =>
    C_X2_read_J250 l0 l1 l6
  )
set_option maxRecDepth 10000 in
theorem mo_C_X2_read_J236 (l0 : Nat) (l1 : Option Nat) (l5 : Int32) (l6 : Int32) : Mo (C_X2_read_J236 l0 l1 l5 l6) := by
  unfold C_X2_read_J236
  repeat' (with_reducible first | assumption | exact mo_rt _ | exact mo_zt _ | exact mo_no | apply mo_C_X2_read_J250 | apply mo_C_X5_row | refine mo_ite ?_ ?_ | refine mo_hgI (fun _ => ?_) | refine mo_hgR (fun _ => ?_) | refine mo_hCv (fun _ => ?_) (fun _ => ?_) | refine mo_lq (fun _ => ?_) | refine mo_hpI ?_ | refine mo_hpR ?_ | refine mo_hAi (fun _ => ?_) | refine mo_hAr (fun _ => ?_) | refine mo_hWi ?_ | refine mo_hWr ?_ | refine mo_hLn (fun _ => ?_) | refine mo_hgL (fun _ => ?_) | refine mo_hpL ?_ | refine mo_hpZ ?_ | refine mo_bd ?_ (fun _ => ?_) | refine mo_hCi (fun _ => ?_) (fun _ => ?_) | refine mo_hNw (fun _ => ?_) | refine mo_hNa (fun _ => ?_) | refine mo_hCp ?_ | refine mo_hOi ?_ | refine mo_hAl (fun _ => ?_) | refine mo_hWl ?_ | refine mo_gd ?_ | refine mo_sLn (fun _ => ?_) | refine mo_sAt (fun _ => ?_) | refine mo_kLn (fun _ => ?_) | refine mo_kAt (fun _ => ?_))
set_option maxRecDepth 10000 in
theorem sc_X2_read_J236 {g : Gm Hp Unit} (B : Bx g cX2_read 7 RX2 voV none 9 323 "read") {l0 : Nat} (l1 : Option Nat) (l5 : Int32) (l6 : Int32) : Sm g 7 236 [(0, va_rf (some l0)), (1, va_rf l1), (5, .int l5), (6, .int l6)] [] (C_X2_read_J236 l0 l1 l5 l6) := by
  unfold C_X2_read_J236
  refine s_iload B.1.1 2 dX2_read_236 rfl ?_
  refine s_bipush (v := (64)) B.1.1 dX2_read_238 (by decide) ?_
  refine s_iand B.1.1 dX2_read_240 ?_
  refine s_if_eq B.1.1 250 dX2_read_241 (by decide) ?_ ?_
  · exact Sm.lvs [0, 1, 3] rfl (sc_X2_read_J250 B l1 l6)
  · refine s_rload_n B.1.1 1 dX2_read_244 rfl rfl ?_
    refine s_iconst (v := 0) B.1.1 dX2_read_245 (by decide) ?_
    refine hp_cvr (As := [.int (0 : Int32)]) (st := []) 7 rfl (by decide) B.1 (fun a => mC_X5_row B.2.1 a (0 : Int32)) cc_X5_row cl_X2_15 cn_X5_row ce_X5_row ci_X5 cd_X5_row (by decide) rfl (Nat.le_of_ble_eq_true rfl) dX2_read_246 (fun r6 => ?_)
    refine s_pop B.1.1 dX2_read_249 (va_rf_cat _) ?_
    exact Sm.lvs [0, 1, 3] rfl (sc_X2_read_J250 B l1 l6)
def C_X2_read_J221 (l0 : Nat) (l1 : Option Nat) (l5 : Int32) (l6 : Int32) : Hp → Option (Unit × Hp) :=
  if (l5 &&& (128 : Int32)) = 0 then (
    C_X2_read_J236 l0 l1 l5 l6
  ) else (
    hCv 7 l1 (fun a => C_X5_row a (1 : Int32)) fun r7 =>
    C_X2_read_J236 l0 l1 l5 l6
  )
set_option maxRecDepth 10000 in
theorem mo_C_X2_read_J221 (l0 : Nat) (l1 : Option Nat) (l5 : Int32) (l6 : Int32) : Mo (C_X2_read_J221 l0 l1 l5 l6) := by
  unfold C_X2_read_J221
  repeat' (with_reducible first | assumption | exact mo_rt _ | exact mo_zt _ | exact mo_no | apply mo_C_X2_read_J236 | apply mo_C_X5_row | refine mo_ite ?_ ?_ | refine mo_hgI (fun _ => ?_) | refine mo_hgR (fun _ => ?_) | refine mo_hCv (fun _ => ?_) (fun _ => ?_) | refine mo_lq (fun _ => ?_) | refine mo_hpI ?_ | refine mo_hpR ?_ | refine mo_hAi (fun _ => ?_) | refine mo_hAr (fun _ => ?_) | refine mo_hWi ?_ | refine mo_hWr ?_ | refine mo_hLn (fun _ => ?_) | refine mo_hgL (fun _ => ?_) | refine mo_hpL ?_ | refine mo_hpZ ?_ | refine mo_bd ?_ (fun _ => ?_) | refine mo_hCi (fun _ => ?_) (fun _ => ?_) | refine mo_hNw (fun _ => ?_) | refine mo_hNa (fun _ => ?_) | refine mo_hCp ?_ | refine mo_hOi ?_ | refine mo_hAl (fun _ => ?_) | refine mo_hWl ?_ | refine mo_gd ?_ | refine mo_sLn (fun _ => ?_) | refine mo_sAt (fun _ => ?_) | refine mo_kLn (fun _ => ?_) | refine mo_kAt (fun _ => ?_))
set_option maxRecDepth 10000 in
theorem sc_X2_read_J221 {g : Gm Hp Unit} (B : Bx g cX2_read 7 RX2 voV none 9 323 "read") {l0 : Nat} (l1 : Option Nat) (l5 : Int32) (l6 : Int32) : Sm g 7 221 [(0, va_rf (some l0)), (1, va_rf l1), (5, .int l5), (6, .int l6)] [] (C_X2_read_J221 l0 l1 l5 l6) := by
  unfold C_X2_read_J221
  refine s_iload B.1.1 2 dX2_read_221 rfl ?_
  refine s_sipush (v := (128)) B.1.1 dX2_read_223 (by decide) ?_
  refine s_iand B.1.1 dX2_read_226 ?_
  refine s_if_eq B.1.1 236 dX2_read_227 (by decide) ?_ ?_
  · exact Sm.lvs [0, 1, 2, 3] rfl (sc_X2_read_J236 B l1 l5 l6)
  · refine s_rload_n B.1.1 1 dX2_read_230 rfl rfl ?_
    refine s_iconst (v := 1) B.1.1 dX2_read_231 (by decide) ?_
    refine hp_cvr (As := [.int (1 : Int32)]) (st := []) 7 rfl (by decide) B.1 (fun a => mC_X5_row B.2.1 a (1 : Int32)) cc_X5_row cl_X2_15 cn_X5_row ce_X5_row ci_X5 cd_X5_row (by decide) rfl (Nat.le_of_ble_eq_true rfl) dX2_read_232 (fun r7 => ?_)
    refine s_pop B.1.1 dX2_read_235 (va_rf_cat _) ?_
    exact Sm.lvs [0, 1, 2, 3] rfl (sc_X2_read_J236 B l1 l5 l6)
def C_X2_read_J187 (l0 : Nat) (l1 : Option Nat) (l2 : Option Nat) (l5 : Int32) (l6 : Int32) : Hp → Option (Unit × Hp) :=
  hCv 7 l1 (fun a => C_X5_row a (1 : Int32)) fun r8 =>
  hpR 4 0 (some l0) r8 <|
  hpR 4 6 (some l0) none <|
  hpL 4 7 (some l0) (0 : Int64) <|
  if (l5 &&& (4 : Int32)) = 0 then (
    C_X2_read_J221 l0 l1 l5 l6
  ) else (
    hCv 4 (some l0) (fun a => C_X2_readWill a l1 l2 l5) fun r9 =>
    C_X2_read_J221 l0 l1 l5 l6
  )
set_option maxRecDepth 10000 in
theorem mo_C_X2_read_J187 (l0 : Nat) (l1 : Option Nat) (l2 : Option Nat) (l5 : Int32) (l6 : Int32) : Mo (C_X2_read_J187 l0 l1 l2 l5 l6) := by
  unfold C_X2_read_J187
  repeat' (with_reducible first | assumption | exact mo_rt _ | exact mo_zt _ | exact mo_no | apply mo_C_X5_row | apply mo_C_X2_read_J221 | apply mo_C_X2_readWill | refine mo_ite ?_ ?_ | refine mo_hgI (fun _ => ?_) | refine mo_hgR (fun _ => ?_) | refine mo_hCv (fun _ => ?_) (fun _ => ?_) | refine mo_lq (fun _ => ?_) | refine mo_hpI ?_ | refine mo_hpR ?_ | refine mo_hAi (fun _ => ?_) | refine mo_hAr (fun _ => ?_) | refine mo_hWi ?_ | refine mo_hWr ?_ | refine mo_hLn (fun _ => ?_) | refine mo_hgL (fun _ => ?_) | refine mo_hpL ?_ | refine mo_hpZ ?_ | refine mo_bd ?_ (fun _ => ?_) | refine mo_hCi (fun _ => ?_) (fun _ => ?_) | refine mo_hNw (fun _ => ?_) | refine mo_hNa (fun _ => ?_) | refine mo_hCp ?_ | refine mo_hOi ?_ | refine mo_hAl (fun _ => ?_) | refine mo_hWl ?_ | refine mo_gd ?_ | refine mo_sLn (fun _ => ?_) | refine mo_sAt (fun _ => ?_) | refine mo_kLn (fun _ => ?_) | refine mo_kAt (fun _ => ?_))
set_option maxRecDepth 10000 in
theorem sc_X2_read_J187 {g : Gm Hp Unit} (B : Bx g cX2_read 7 RX2 voV none 9 323 "read") {l0 : Nat} (l1 : Option Nat) (l2 : Option Nat) (l5 : Int32) (l6 : Int32) : Sm g 7 187 [(0, va_rf (some l0)), (1, va_rf l1), (2, va_rf l2), (5, .int l5), (6, .int l6)] [] (C_X2_read_J187 l0 l1 l2 l5 l6) := by
  unfold C_X2_read_J187
  refine s_rload_n B.1.1 0 dX2_read_187 rfl rfl ?_
  refine s_rload_n B.1.1 1 dX2_read_188 rfl rfl ?_
  refine s_iconst (v := 1) B.1.1 dX2_read_189 (by decide) ?_
  refine hp_cvr (As := [.int (1 : Int32)]) (st := [va_rf (some l0)]) 7 rfl (by decide) B.1 (fun a => mC_X5_row B.2.1 a (1 : Int32)) cc_X5_row cl_X2_15 cn_X5_row ce_X5_row ci_X5 cd_X5_row (by decide) rfl (Nat.le_of_ble_eq_true rfl) dX2_read_190 (fun r8 => ?_)
  refine hp_putR B.1 4 0 rfl (by decide) inX2 tyX2 tyX2_ok nmX2 (by decide) fk_X2_0 ft_X2_0 rfR rfl cf_X2_90 dX2_read_193 ?_
  refine s_rload_n B.1.1 0 dX2_read_196 rfl rfl ?_
  refine s_null B.1.1 dX2_read_197 ?_
  refine hp_putR B.1 4 6 rfl (by decide) inX2 tyX2 tyX2_ok nmX2 (by decide) fk_X2_6 ft_X2_6 rfR rfl cf_X2_94 dX2_read_198 ?_
  refine s_rload_n B.1.1 0 dX2_read_201 rfl rfl ?_
  refine s_lconst (v := 0) B.1.1 dX2_read_202 (by decide) ?_
  refine hp_putL B.1 4 7 rfl (by decide) inX2 tyX2 tyX2_ok nmX2 (by decide) fk_X2_7 ft_X2_7 rfl cf_X2_98 dX2_read_203 ?_
  refine s_iload B.1.1 3 dX2_read_206 rfl ?_
  refine s_iconst (v := 4) B.1.1 dX2_read_208 (by decide) ?_
  refine s_iand B.1.1 dX2_read_209 ?_
  refine s_if_eq B.1.1 221 dX2_read_210 (by decide) ?_ ?_
  · exact Sm.lvs [0, 1, 3, 4] rfl (sc_X2_read_J221 B l1 l5 l6)
  · refine s_rload_n B.1.1 0 dX2_read_213 rfl rfl ?_
    refine s_rload_n B.1.1 1 dX2_read_214 rfl rfl ?_
    refine s_rload_n B.1.1 2 dX2_read_215 rfl rfl ?_
    refine s_iload B.1.1 3 dX2_read_216 rfl ?_
    refine hp_cvv (As := [va_rf l1, va_rf l2, .int l5]) (st := []) 4 rfl (by decide) B.1 (fun a => mC_X2_readWill B.2.1 a l1 l2 l5) cc_X2_readWill cl_X2_101 cn_X2_readWill ce_X2_readWill ci_X2 cd_X2_readWill (by decide) rfl (Nat.le_of_ble_eq_true rfl) dX2_read_218 (fun r9 => ?_)
    exact Sm.lvs [0, 1, 3, 4] rfl (sc_X2_read_J221 B l1 l5 l6)
def C_X2_read_J180 (l0 : Nat) (l1 : Option Nat) (l2 : Option Nat) (l5 : Int32) (l6 : Int32) : Hp → Option (Unit × Hp) :=
  hCv 7 l1 (fun a => C_X5_fail a (130 : Int32)) fun r10 =>
  C_X2_read_J187 l0 l1 l2 l5 l6
set_option maxRecDepth 10000 in
theorem mo_C_X2_read_J180 (l0 : Nat) (l1 : Option Nat) (l2 : Option Nat) (l5 : Int32) (l6 : Int32) : Mo (C_X2_read_J180 l0 l1 l2 l5 l6) := by
  unfold C_X2_read_J180
  repeat' (with_reducible first | assumption | exact mo_rt _ | exact mo_zt _ | exact mo_no | apply mo_C_X5_fail | apply mo_C_X2_read_J187 | refine mo_ite ?_ ?_ | refine mo_hgI (fun _ => ?_) | refine mo_hgR (fun _ => ?_) | refine mo_hCv (fun _ => ?_) (fun _ => ?_) | refine mo_lq (fun _ => ?_) | refine mo_hpI ?_ | refine mo_hpR ?_ | refine mo_hAi (fun _ => ?_) | refine mo_hAr (fun _ => ?_) | refine mo_hWi ?_ | refine mo_hWr ?_ | refine mo_hLn (fun _ => ?_) | refine mo_hgL (fun _ => ?_) | refine mo_hpL ?_ | refine mo_hpZ ?_ | refine mo_bd ?_ (fun _ => ?_) | refine mo_hCi (fun _ => ?_) (fun _ => ?_) | refine mo_hNw (fun _ => ?_) | refine mo_hNa (fun _ => ?_) | refine mo_hCp ?_ | refine mo_hOi ?_ | refine mo_hAl (fun _ => ?_) | refine mo_hWl ?_ | refine mo_gd ?_ | refine mo_sLn (fun _ => ?_) | refine mo_sAt (fun _ => ?_) | refine mo_kLn (fun _ => ?_) | refine mo_kAt (fun _ => ?_))
set_option maxRecDepth 10000 in
theorem sc_X2_read_J180 {g : Gm Hp Unit} (B : Bx g cX2_read 7 RX2 voV none 9 323 "read") {l0 : Nat} (l1 : Option Nat) (l2 : Option Nat) (l5 : Int32) (l6 : Int32) : Sm g 7 180 [(0, va_rf (some l0)), (1, va_rf l1), (2, va_rf l2), (5, .int l5), (6, .int l6)] [] (C_X2_read_J180 l0 l1 l2 l5 l6) := by
  unfold C_X2_read_J180
  refine s_rload_n B.1.1 1 dX2_read_180 rfl rfl ?_
  refine s_sipush (v := (130)) B.1.1 dX2_read_181 (by decide) ?_
  refine hp_cvv (As := [.int (130 : Int32)]) (st := []) 7 rfl (by decide) B.1 (fun a => mC_X5_fail B.2.1 a (130 : Int32)) cc_X5_fail cl_X2_36 cn_X5_fail ce_X5_fail ci_X5 cd_X5_fail (by decide) rfl (Nat.le_of_ble_eq_true rfl) dX2_read_184 (fun r10 => ?_)
  exact Sm.lvs [0, 1, 2, 3, 4] rfl (sc_X2_read_J187 B l1 l2 l5 l6)
def C_X2_read_J85 (l0 : Nat) (l1 : Option Nat) (l2 : Option Nat) (l5 : Int32) (s0 : Option Nat) (s1 : Int32) : Hp → Option (Unit × Hp) :=
  hpZ 4 1 s0 s1 <|
  hCv 7 l1 (fun a => C_X5_two a) fun r11 =>
  hpI 4 2 (some l0) r11 <|
  hCv 6 l2 (fun a => C_X4_read a l1 (850451890176 : Int64)) fun r12 =>
  hCv 6 l2 (fun a => C_X4_has a (21 : Int32)) fun r13 =>
  hCv 6 l2 (fun a => C_X4_get a (17 : Int32) (0 : Int64)) fun r14 =>
  hpL 4 3 (some l0) r14 <|
  hCv 6 l2 (fun a => C_X4_get a (33 : Int32) (65535 : Int64)) fun r15 =>
  hpI 4 4 (some l0) r15.toInt32 <|
  hCv 6 l2 (fun a => C_X4_get a (39 : Int32) (-1 : Int64)) fun r16 =>
  hpL 4 5 (some l0) r16 <|
  hgI 4 4 (some l0) fun v17 =>
  if v17 = 0 then (
    C_X2_read_J180 l0 l1 l2 l5 r13
  ) else (
    hgL 4 5 (some l0) fun v18 =>
    if (lg_cmp v18 (0 : Int64)) = 0 then (
      C_X2_read_J180 l0 l1 l2 l5 r13
    ) else (
      hCv 6 l2 (fun a => C_X4_has a (22 : Int32)) fun r19 =>
      if r19 = 0 then (
        C_X2_read_J187 l0 l1 l2 l5 r13
      ) else (
        if r13 = 0 then (
          C_X2_read_J180 l0 l1 l2 l5 r13
        ) else (
          C_X2_read_J187 l0 l1 l2 l5 r13
        )
      )
    )
  )
set_option maxRecDepth 10000 in
theorem mo_C_X2_read_J85 (l0 : Nat) (l1 : Option Nat) (l2 : Option Nat) (l5 : Int32) (s0 : Option Nat) (s1 : Int32) : Mo (C_X2_read_J85 l0 l1 l2 l5 s0 s1) := by
  unfold C_X2_read_J85
  repeat' (with_reducible first | assumption | exact mo_rt _ | exact mo_zt _ | exact mo_no | apply mo_C_X5_two | apply mo_C_X4_read | apply mo_C_X4_has | apply mo_C_X4_get | apply mo_C_X2_read_J180 | apply mo_C_X2_read_J187 | refine mo_ite ?_ ?_ | refine mo_hgI (fun _ => ?_) | refine mo_hgR (fun _ => ?_) | refine mo_hCv (fun _ => ?_) (fun _ => ?_) | refine mo_lq (fun _ => ?_) | refine mo_hpI ?_ | refine mo_hpR ?_ | refine mo_hAi (fun _ => ?_) | refine mo_hAr (fun _ => ?_) | refine mo_hWi ?_ | refine mo_hWr ?_ | refine mo_hLn (fun _ => ?_) | refine mo_hgL (fun _ => ?_) | refine mo_hpL ?_ | refine mo_hpZ ?_ | refine mo_bd ?_ (fun _ => ?_) | refine mo_hCi (fun _ => ?_) (fun _ => ?_) | refine mo_hNw (fun _ => ?_) | refine mo_hNa (fun _ => ?_) | refine mo_hCp ?_ | refine mo_hOi ?_ | refine mo_hAl (fun _ => ?_) | refine mo_hWl ?_ | refine mo_gd ?_ | refine mo_sLn (fun _ => ?_) | refine mo_sAt (fun _ => ?_) | refine mo_kLn (fun _ => ?_) | refine mo_kAt (fun _ => ?_))
set_option maxRecDepth 10000 in
theorem sc_X2_read_J85 {g : Gm Hp Unit} (B : Bx g cX2_read 7 RX2 voV none 9 323 "read") {l0 : Nat} (l1 : Option Nat) (l2 : Option Nat) (l5 : Int32) (s0 : Option Nat) (s1 : Int32) : Sm g 7 85 [(0, va_rf (some l0)), (1, va_rf l1), (2, va_rf l2), (5, .int l5)] [.int s1, va_rf s0] (C_X2_read_J85 l0 l1 l2 l5 s0 s1) := by
  unfold C_X2_read_J85
  refine hp_putZ B.1 4 1 rfl (by decide) inX2 tyX2 tyX2_ok nmX2 (by decide) fk_X2_1.1 fk_X2_1.2 ft_X2_1 rfl cf_X2_49 dX2_read_85 ?_
  refine s_rload_n B.1.1 0 dX2_read_88 rfl rfl ?_
  refine s_rload_n B.1.1 1 dX2_read_89 rfl rfl ?_
  refine hp_cvi (As := []) (st := [va_rf (some l0)]) 7 rfl (by decide) B.1 (fun a => mC_X5_two B.2.1 a ) cc_X5_two cl_X2_53 cn_X5_two ce_X5_two ci_X5 cd_X5_two (by decide) rfl (Nat.le_of_ble_eq_true rfl) dX2_read_90 (fun r11 => ?_)
  refine hp_putI B.1 4 2 rfl (by decide) inX2 tyX2 tyX2_ok nmX2 (by decide) fk_X2_2.1 fk_X2_2.2 ft_X2_2 rfl cf_X2_56 dX2_read_93 ?_
  refine s_rload_n B.1.1 2 dX2_read_96 rfl rfl ?_
  refine s_rload_n B.1.1 1 dX2_read_97 rfl rfl ?_
  refine s_ldc2 (v := (850451890176)) B.1.1 tw_817 dX2_read_98 ?_
  refine hp_cvv (As := [va_rf l1, .long (850451890176 : Int64)]) (st := []) 6 rfl (by decide) B.1 (fun a => mC_X4_read B.2.1 a l1 (850451890176 : Int64)) cc_X4_read cl_X2_62 cn_X4_read ce_X4_read ci_X4 cd_X4_read (by decide) rfl (Nat.le_of_ble_eq_true rfl) dX2_read_101 (fun r12 => ?_)
  refine s_rload_n B.1.1 2 dX2_read_104 rfl rfl ?_
  refine s_bipush (v := (21)) B.1.1 dX2_read_105 (by decide) ?_
  refine hp_cvi (As := [.int (21 : Int32)]) (st := []) 6 rfl (by decide) B.1 (fun a => mC_X4_has B.2.1 a (21 : Int32)) cc_X4_has cl_X2_68 cn_X4_has ce_X4_has ci_X4 cd_X4_has (by decide) rfl (Nat.le_of_ble_eq_true rfl) dX2_read_107 (fun r13 => ?_)
  refine s_istore (i := 6) (lv' := [(6, .int r13), (0, va_rf (some l0)), (1, va_rf l1), (2, va_rf l2), (5, .int l5)]) B.1.1 dX2_read_110 (by decide) rfl ?_
  refine s_rload_n B.1.1 1 dX2_read_112 rfl rfl ?_
  refine s_rload_n B.1.1 3 dX2_read_113 rfl rfl ?_
  refine s_bipush (v := (17)) B.1.1 dX2_read_114 (by decide) ?_
  refine s_lconst (v := 0) B.1.1 dX2_read_116 (by decide) ?_
  refine hp_cvl (As := [.int (17 : Int32), .long (0 : Int64)]) (st := [va_rf (some l0)]) 6 rfl (by decide) B.1 (fun a => mC_X4_get B.2.1 a (17 : Int32) (0 : Int64)) cc_X4_get cl_X2_72 cn_X4_get ce_X4_get ci_X4 cd_X4_get (by decide) rfl (Nat.le_of_ble_eq_true rfl) dX2_read_117 (fun r14 => ?_)
  refine hp_putL B.1 4 3 rfl (by decide) inX2 tyX2 tyX2_ok nmX2 (by decide) fk_X2_3 ft_X2_3 rfl cf_X2_76 dX2_read_120 ?_
  refine s_rload_n B.1.1 1 dX2_read_123 rfl rfl ?_
  refine s_rload_n B.1.1 3 dX2_read_124 rfl rfl ?_
  refine s_bipush (v := (33)) B.1.1 dX2_read_125 (by decide) ?_
  refine s_ldc2 (v := (65535)) B.1.1 tw_862 dX2_read_127 ?_
  refine hp_cvl (As := [.int (33 : Int32), .long (65535 : Int64)]) (st := [va_rf (some l0)]) 6 rfl (by decide) B.1 (fun a => mC_X4_get B.2.1 a (33 : Int32) (65535 : Int64)) cc_X4_get cl_X2_72 cn_X4_get ce_X4_get ci_X4 cd_X4_get (by decide) rfl (Nat.le_of_ble_eq_true rfl) dX2_read_130 (fun r15 => ?_)
  refine s_l2i B.1.1 dX2_read_133 ?_
  refine hp_putI B.1 4 4 rfl (by decide) inX2 tyX2 tyX2_ok nmX2 (by decide) fk_X2_4.1 fk_X2_4.2 ft_X2_4 rfl cf_X2_82 dX2_read_134 ?_
  refine s_rload_n B.1.1 1 dX2_read_137 rfl rfl ?_
  refine s_rload_n B.1.1 3 dX2_read_138 rfl rfl ?_
  refine s_bipush (v := (39)) B.1.1 dX2_read_139 (by decide) ?_
  refine s_ldc2 (v := (-1)) B.1.1 tw_863 dX2_read_141 ?_
  refine hp_cvl (As := [.int (39 : Int32), .long (-1 : Int64)]) (st := [va_rf (some l0)]) 6 rfl (by decide) B.1 (fun a => mC_X4_get B.2.1 a (39 : Int32) (-1 : Int64)) cc_X4_get cl_X2_72 cn_X4_get ce_X4_get ci_X4 cd_X4_get (by decide) rfl (Nat.le_of_ble_eq_true rfl) dX2_read_144 (fun r16 => ?_)
  refine hp_putL B.1 4 5 rfl (by decide) inX2 tyX2 tyX2_ok nmX2 (by decide) fk_X2_5 ft_X2_5 rfl cf_X2_87 dX2_read_147 ?_
  refine s_rload_n B.1.1 1 dX2_read_150 rfl rfl ?_
  refine hp_getI B.1 4 4 rfl (by decide) inX2 (by decide) fk_X2_4.1 fk_X2_4.2 cf_X2_82 dX2_read_151 (fun v17 => ?_)
  refine s_if_eq B.1.1 180 dX2_read_154 (by decide) ?_ ?_
  · exact Sm.lvs [1, 2, 3, 4, 0] rfl (sc_X2_read_J180 B l1 l2 l5 r13)
  · refine s_rload_n B.1.1 1 dX2_read_157 rfl rfl ?_
    refine hp_getL B.1 4 5 rfl (by decide) inX2 (by decide) fk_X2_5 cf_X2_87 dX2_read_158 (fun v18 => ?_)
    refine s_lconst (v := 0) B.1.1 dX2_read_161 (by decide) ?_
    refine s_lcmp B.1.1 dX2_read_162 ?_
    refine s_if_eq B.1.1 180 dX2_read_163 (by decide) ?_ ?_
    · exact Sm.lvs [1, 2, 3, 4, 0] rfl (sc_X2_read_J180 B l1 l2 l5 r13)
    · refine s_rload_n B.1.1 3 dX2_read_166 rfl rfl ?_
      refine s_bipush (v := (22)) B.1.1 dX2_read_167 (by decide) ?_
      refine hp_cvi (As := [.int (22 : Int32)]) (st := []) 6 rfl (by decide) B.1 (fun a => mC_X4_has B.2.1 a (22 : Int32)) cc_X4_has cl_X2_68 cn_X4_has ce_X4_has ci_X4 cd_X4_has (by decide) rfl (Nat.le_of_ble_eq_true rfl) dX2_read_169 (fun r19 => ?_)
      refine s_if_eq B.1.1 187 dX2_read_172 (by decide) ?_ ?_
      · exact Sm.lvs [1, 2, 3, 4, 0] rfl (sc_X2_read_J187 B l1 l2 l5 r13)
      · refine s_iload B.1.1 0 dX2_read_175 rfl ?_
        refine s_if_ne B.1.1 187 dX2_read_177 (by decide) ?_ ?_
        · exact Sm.lvs [1, 2, 3, 4, 0] rfl (sc_X2_read_J187 B l1 l2 l5 r13)
        · exact Sm.lvs [1, 2, 3, 4, 0] rfl (sc_X2_read_J180 B l1 l2 l5 r13)
def C_X2_read_J59 (l0 : Nat) (l1 : Option Nat) (l2 : Option Nat) : Hp → Option (Unit × Hp) :=
  hCv 7 l1 (fun a => C_X5_one a) fun r20 =>
  hCv 4 (some l0) (fun a => C_X2_checkFlags a l1 r20) fun r21 =>
  if (r20 &&& (2 : Int32)) = 0 then (
    C_X2_read_J85 l0 l1 l2 r20 (some l0) (0 : Int32)
  ) else (
    C_X2_read_J85 l0 l1 l2 r20 (some l0) (1 : Int32)
  )
set_option maxRecDepth 10000 in
theorem mo_C_X2_read_J59 (l0 : Nat) (l1 : Option Nat) (l2 : Option Nat) : Mo (C_X2_read_J59 l0 l1 l2) := by
  unfold C_X2_read_J59
  repeat' (with_reducible first | assumption | exact mo_rt _ | exact mo_zt _ | exact mo_no | apply mo_C_X5_one | apply mo_C_X2_checkFlags | apply mo_C_X2_read_J85 | refine mo_ite ?_ ?_ | refine mo_hgI (fun _ => ?_) | refine mo_hgR (fun _ => ?_) | refine mo_hCv (fun _ => ?_) (fun _ => ?_) | refine mo_lq (fun _ => ?_) | refine mo_hpI ?_ | refine mo_hpR ?_ | refine mo_hAi (fun _ => ?_) | refine mo_hAr (fun _ => ?_) | refine mo_hWi ?_ | refine mo_hWr ?_ | refine mo_hLn (fun _ => ?_) | refine mo_hgL (fun _ => ?_) | refine mo_hpL ?_ | refine mo_hpZ ?_ | refine mo_bd ?_ (fun _ => ?_) | refine mo_hCi (fun _ => ?_) (fun _ => ?_) | refine mo_hNw (fun _ => ?_) | refine mo_hNa (fun _ => ?_) | refine mo_hCp ?_ | refine mo_hOi ?_ | refine mo_hAl (fun _ => ?_) | refine mo_hWl ?_ | refine mo_gd ?_ | refine mo_sLn (fun _ => ?_) | refine mo_sAt (fun _ => ?_) | refine mo_kLn (fun _ => ?_) | refine mo_kAt (fun _ => ?_))
set_option maxRecDepth 10000 in
theorem sc_X2_read_J59 {g : Gm Hp Unit} (B : Bx g cX2_read 7 RX2 voV none 9 323 "read") {l0 : Nat} (l1 : Option Nat) (l2 : Option Nat) : Sm g 7 59 [(0, va_rf (some l0)), (1, va_rf l1), (2, va_rf l2)] [] (C_X2_read_J59 l0 l1 l2) := by
  unfold C_X2_read_J59
  refine s_rload_n B.1.1 1 dX2_read_59 rfl rfl ?_
  refine hp_cvi (As := []) (st := []) 7 rfl (by decide) B.1 (fun a => mC_X5_one B.2.1 a ) cc_X5_one cl_X2_40 cn_X5_one ce_X5_one ci_X5 cd_X5_one (by decide) rfl (Nat.le_of_ble_eq_true rfl) dX2_read_60 (fun r20 => ?_)
  refine s_istore (i := 5) (lv' := [(5, .int r20), (0, va_rf (some l0)), (1, va_rf l1), (2, va_rf l2)]) B.1.1 dX2_read_63 (by decide) rfl ?_
  refine s_rload_n B.1.1 1 dX2_read_65 rfl rfl ?_
  refine s_rload_n B.1.1 2 dX2_read_66 rfl rfl ?_
  refine s_iload B.1.1 0 dX2_read_67 rfl ?_
  refine hp_cvv (As := [va_rf l1, .int r20]) (st := []) 4 rfl (by decide) B.1 (fun a => mC_X2_checkFlags B.2.1 a l1 r20) cc_X2_checkFlags cl_X2_43 cn_X2_checkFlags ce_X2_checkFlags ci_X2 cd_X2_checkFlags (by decide) rfl (Nat.le_of_ble_eq_true rfl) dX2_read_69 (fun r21 => ?_)
  refine s_rload_n B.1.1 1 dX2_read_72 rfl rfl ?_
  refine s_iload B.1.1 0 dX2_read_73 rfl ?_
  refine s_iconst (v := 2) B.1.1 dX2_read_75 (by decide) ?_
  refine s_iand B.1.1 dX2_read_76 ?_
  refine s_if_eq B.1.1 84 dX2_read_77 (by decide) ?_ ?_
  · refine s_iconst (v := 0) B.1.1 dX2_read_84 (by decide) ?_
    exact Sm.lvs [1, 2, 3, 0] rfl (sc_X2_read_J85 B l1 l2 r20 (some l0) (0 : Int32))
  · refine s_iconst (v := 1) B.1.1 dX2_read_80 (by decide) ?_
    refine s_goto B.1.1 85 dX2_read_81 (by decide) ?_
    exact Sm.lvs [1, 2, 3, 0] rfl (sc_X2_read_J85 B l1 l2 r20 (some l0) (1 : Int32))
def C_X2_read_J44 (l0 : Nat) (l1 : Option Nat) (l2 : Option Nat) : Hp → Option (Unit × Hp) :=
  hCv 7 l1 (fun a => C_X5_one a) fun r22 =>
  if r22 = (5 : Int32) then (
    C_X2_read_J59 l0 l1 l2
  ) else (
    hCv 7 l1 (fun a => C_X5_fail a (132 : Int32)) fun r23 =>
    C_X2_read_J59 l0 l1 l2
  )
set_option maxRecDepth 10000 in
theorem mo_C_X2_read_J44 (l0 : Nat) (l1 : Option Nat) (l2 : Option Nat) : Mo (C_X2_read_J44 l0 l1 l2) := by
  unfold C_X2_read_J44
  repeat' (with_reducible first | assumption | exact mo_rt _ | exact mo_zt _ | exact mo_no | apply mo_C_X5_one | apply mo_C_X2_read_J59 | apply mo_C_X5_fail | refine mo_ite ?_ ?_ | refine mo_hgI (fun _ => ?_) | refine mo_hgR (fun _ => ?_) | refine mo_hCv (fun _ => ?_) (fun _ => ?_) | refine mo_lq (fun _ => ?_) | refine mo_hpI ?_ | refine mo_hpR ?_ | refine mo_hAi (fun _ => ?_) | refine mo_hAr (fun _ => ?_) | refine mo_hWi ?_ | refine mo_hWr ?_ | refine mo_hLn (fun _ => ?_) | refine mo_hgL (fun _ => ?_) | refine mo_hpL ?_ | refine mo_hpZ ?_ | refine mo_bd ?_ (fun _ => ?_) | refine mo_hCi (fun _ => ?_) (fun _ => ?_) | refine mo_hNw (fun _ => ?_) | refine mo_hNa (fun _ => ?_) | refine mo_hCp ?_ | refine mo_hOi ?_ | refine mo_hAl (fun _ => ?_) | refine mo_hWl ?_ | refine mo_gd ?_ | refine mo_sLn (fun _ => ?_) | refine mo_sAt (fun _ => ?_) | refine mo_kLn (fun _ => ?_) | refine mo_kAt (fun _ => ?_))
set_option maxRecDepth 10000 in
theorem sc_X2_read_J44 {g : Gm Hp Unit} (B : Bx g cX2_read 7 RX2 voV none 9 323 "read") {l0 : Nat} (l1 : Option Nat) (l2 : Option Nat) : Sm g 7 44 [(0, va_rf (some l0)), (1, va_rf l1), (2, va_rf l2)] [] (C_X2_read_J44 l0 l1 l2) := by
  unfold C_X2_read_J44
  refine s_rload_n B.1.1 1 dX2_read_44 rfl rfl ?_
  refine hp_cvi (As := []) (st := []) 7 rfl (by decide) B.1 (fun a => mC_X5_one B.2.1 a ) cc_X5_one cl_X2_40 cn_X5_one ce_X5_one ci_X5 cd_X5_one (by decide) rfl (Nat.le_of_ble_eq_true rfl) dX2_read_45 (fun r22 => ?_)
  refine s_iconst (v := 5) B.1.1 dX2_read_48 (by decide) ?_
  refine s_icmp_eq B.1.1 59 dX2_read_49 (by decide) ?_ ?_
  · exact Sm.lvs [0, 1, 2] rfl (sc_X2_read_J59 B l1 l2)
  · refine s_rload_n B.1.1 1 dX2_read_52 rfl rfl ?_
    refine s_sipush (v := (132)) B.1.1 dX2_read_53 (by decide) ?_
    refine hp_cvv (As := [.int (132 : Int32)]) (st := []) 7 rfl (by decide) B.1 (fun a => mC_X5_fail B.2.1 a (132 : Int32)) cc_X5_fail cl_X2_36 cn_X5_fail ce_X5_fail ci_X5 cd_X5_fail (by decide) rfl (Nat.le_of_ble_eq_true rfl) dX2_read_56 (fun r23 => ?_)
    exact Sm.lvs [0, 1, 2] rfl (sc_X2_read_J59 B l1 l2)
def C_X2_read_J37 (l0 : Nat) (l1 : Option Nat) (l2 : Option Nat) : Hp → Option (Unit × Hp) :=
  hCv 7 l1 (fun a => C_X5_fail a (132 : Int32)) fun r24 =>
  C_X2_read_J44 l0 l1 l2
set_option maxRecDepth 10000 in
theorem mo_C_X2_read_J37 (l0 : Nat) (l1 : Option Nat) (l2 : Option Nat) : Mo (C_X2_read_J37 l0 l1 l2) := by
  unfold C_X2_read_J37
  repeat' (with_reducible first | assumption | exact mo_rt _ | exact mo_zt _ | exact mo_no | apply mo_C_X5_fail | apply mo_C_X2_read_J44 | refine mo_ite ?_ ?_ | refine mo_hgI (fun _ => ?_) | refine mo_hgR (fun _ => ?_) | refine mo_hCv (fun _ => ?_) (fun _ => ?_) | refine mo_lq (fun _ => ?_) | refine mo_hpI ?_ | refine mo_hpR ?_ | refine mo_hAi (fun _ => ?_) | refine mo_hAr (fun _ => ?_) | refine mo_hWi ?_ | refine mo_hWr ?_ | refine mo_hLn (fun _ => ?_) | refine mo_hgL (fun _ => ?_) | refine mo_hpL ?_ | refine mo_hpZ ?_ | refine mo_bd ?_ (fun _ => ?_) | refine mo_hCi (fun _ => ?_) (fun _ => ?_) | refine mo_hNw (fun _ => ?_) | refine mo_hNa (fun _ => ?_) | refine mo_hCp ?_ | refine mo_hOi ?_ | refine mo_hAl (fun _ => ?_) | refine mo_hWl ?_ | refine mo_gd ?_ | refine mo_sLn (fun _ => ?_) | refine mo_sAt (fun _ => ?_) | refine mo_kLn (fun _ => ?_) | refine mo_kAt (fun _ => ?_))
set_option maxRecDepth 10000 in
theorem sc_X2_read_J37 {g : Gm Hp Unit} (B : Bx g cX2_read 7 RX2 voV none 9 323 "read") {l0 : Nat} (l1 : Option Nat) (l2 : Option Nat) : Sm g 7 37 [(0, va_rf (some l0)), (1, va_rf l1), (2, va_rf l2)] [] (C_X2_read_J37 l0 l1 l2) := by
  unfold C_X2_read_J37
  refine s_rload_n B.1.1 1 dX2_read_37 rfl rfl ?_
  refine s_sipush (v := (132)) B.1.1 dX2_read_38 (by decide) ?_
  refine hp_cvv (As := [.int (132 : Int32)]) (st := []) 7 rfl (by decide) B.1 (fun a => mC_X5_fail B.2.1 a (132 : Int32)) cc_X5_fail cl_X2_36 cn_X5_fail ce_X5_fail ci_X5 cd_X5_fail (by decide) rfl (Nat.le_of_ble_eq_true rfl) dX2_read_41 (fun r24 => ?_)
  exact Sm.lvs [0, 1, 2] rfl (sc_X2_read_J44 B l1 l2)
def C_X2_read (l0 : Nat) (l1 : Option Nat) (l2 : Option Nat) (l3 : Int32) : Hp → Option (Unit × Hp) :=
  hCv 7 l1 (fun a => C_X5_expect a l3 (0 : Int32)) fun r25 =>
  hCv 7 l1 (fun a => C_X5_row a (1 : Int32)) fun r26 =>
  hCv 9 r26 (fun a => C_X7_count a) fun r27 =>
  sLn 1 fun v28 =>
  if r27 = v28 then (
    hCv 9 r26 (fun a => C_X7_begins a (0 : Int32) 1) fun r29 =>
    if r29 = 0 then (
      C_X2_read_J37 l0 l1 l2
    ) else (
      C_X2_read_J44 l0 l1 l2
    )
  ) else (
    C_X2_read_J37 l0 l1 l2
  )
set_option maxRecDepth 10000 in
theorem mo_C_X2_read (l0 : Nat) (l1 : Option Nat) (l2 : Option Nat) (l3 : Int32) : Mo (C_X2_read l0 l1 l2 l3) := by
  unfold C_X2_read
  repeat' (with_reducible first | assumption | exact mo_rt _ | exact mo_zt _ | exact mo_no | apply mo_C_X5_expect | apply mo_C_X5_row | apply mo_C_X7_count | apply mo_C_X7_begins | apply mo_C_X2_read_J37 | apply mo_C_X2_read_J44 | refine mo_ite ?_ ?_ | refine mo_hgI (fun _ => ?_) | refine mo_hgR (fun _ => ?_) | refine mo_hCv (fun _ => ?_) (fun _ => ?_) | refine mo_lq (fun _ => ?_) | refine mo_hpI ?_ | refine mo_hpR ?_ | refine mo_hAi (fun _ => ?_) | refine mo_hAr (fun _ => ?_) | refine mo_hWi ?_ | refine mo_hWr ?_ | refine mo_hLn (fun _ => ?_) | refine mo_hgL (fun _ => ?_) | refine mo_hpL ?_ | refine mo_hpZ ?_ | refine mo_bd ?_ (fun _ => ?_) | refine mo_hCi (fun _ => ?_) (fun _ => ?_) | refine mo_hNw (fun _ => ?_) | refine mo_hNa (fun _ => ?_) | refine mo_hCp ?_ | refine mo_hOi ?_ | refine mo_hAl (fun _ => ?_) | refine mo_hWl ?_ | refine mo_gd ?_ | refine mo_sLn (fun _ => ?_) | refine mo_sAt (fun _ => ?_) | refine mo_kLn (fun _ => ?_) | refine mo_kAt (fun _ => ?_))
set_option maxRecDepth 10000 in
theorem mC_X2_read {w : Wd} (hw : Wc w) (l0 : Nat) (l1 : Option Nat) (l2 : Option Nat) (l3 : Int32) : MH w yX2_read cX2_read 7 none 9 323 voV [va_rf (some l0), va_rf l1, va_rf l2, .int l3] (C_X2_read l0 l1 l2 l3) := by
  have M0 : ∀ g : Gm Hp Unit, g.1 = w → Bx g cX2_read 7 RX2 voV none 9 323 "read" → Sm g 7 0 (lv_args 0 [va_rf (some l0), va_rf l1, va_rf l2, .int l3]) [] (C_X2_read l0 l1 l2 l3) := by
    intro g hg B
    subst hg
    unfold C_X2_read
    refine W_lva (lv := [(0, va_rf (some l0)), (1, va_rf l1), (2, va_rf l2), (3, .int l3)]) (by simp [lv_args, va_rf_cat, cat_i, cat_l, cat_r]) ?_
    refine s_rload_n B.1.1 1 dX2_read_0 rfl rfl ?_
    refine s_iload_n B.1.1 3 dX2_read_1 rfl rfl ?_
    refine s_iconst (v := 0) B.1.1 dX2_read_2 (by decide) ?_
    refine hp_cvv (As := [.int l3, .int (0 : Int32)]) (st := []) 7 rfl (by decide) B.1 (fun a => mC_X5_expect B.2.1 a l3 (0 : Int32)) cc_X5_expect cl_X2_9 cn_X5_expect ce_X5_expect ci_X5 cd_X5_expect (by decide) rfl (Nat.le_of_ble_eq_true rfl) dX2_read_3 (fun r25 => ?_)
    refine s_rload_n B.1.1 1 dX2_read_6 rfl rfl ?_
    refine s_iconst (v := 1) B.1.1 dX2_read_7 (by decide) ?_
    refine hp_cvr (As := [.int (1 : Int32)]) (st := []) 7 rfl (by decide) B.1 (fun a => mC_X5_row B.2.1 a (1 : Int32)) cc_X5_row cl_X2_15 cn_X5_row ce_X5_row ci_X5 cd_X5_row (by decide) rfl (Nat.le_of_ble_eq_true rfl) dX2_read_8 (fun r26 => ?_)
    refine s_rstore (i := 4) (lv' := [(4, va_rf r26), (0, va_rf (some l0)), (1, va_rf l1), (2, va_rf l2), (3, .int l3)]) B.1.1 dX2_read_11 (by decide) rfl ?_
    refine s_rload B.1.1 0 dX2_read_13 rfl ?_
    refine hp_cvi (As := []) (st := []) 9 rfl (by decide) B.1 (fun a => mC_X7_count B.2.1 a ) cc_X7_count cl_X2_19 cn_X7_count ce_X7_count ci_X7 cd_X7_count (by decide) rfl (Nat.le_of_ble_eq_true rfl) dX2_read_15 (fun r27 => ?_)
    refine s_ldS B 1 25 (by decide +kernel) dX2_read_18 ?_
    refine s_sLn B 1 (by decide) tw_773 (by decide) (Nat.le_of_ble_eq_true rfl) dX2_read_20 (fun v28 => ?_)
    refine s_icmp_ne B.1.1 37 dX2_read_23 (by decide) ?_ ?_
    · exact Sm.lvs [1, 2, 3] rfl (sc_X2_read_J37 B l1 l2)
    · refine s_rload B.1.1 0 dX2_read_26 rfl ?_
      refine s_iconst (v := 0) B.1.1 dX2_read_28 (by decide) ?_
      refine s_ldS B 1 25 (by decide +kernel) dX2_read_29 ?_
      refine hp_cvi (As := [.int (0 : Int32), .ref (g.1.2.1 (1000 + 1))]) (st := []) 9 rfl (by decide) B.1 (fun a => mC_X7_begins B.2.1 a (0 : Int32) 1 (by decide)) cc_X7_begins cl_X2_32 cn_X7_begins ce_X7_begins ci_X7 cd_X7_begins (by decide) rfl (Nat.le_of_ble_eq_true rfl) dX2_read_31 (fun r29 => ?_)
      refine s_if_ne B.1.1 44 dX2_read_34 (by decide) ?_ ?_
      · exact Sm.lvs [1, 2, 3] rfl (sc_X2_read_J44 B l1 l2)
      · exact Sm.lvs [1, 2, 3] rfl (sc_X2_read_J37 B l1 l2)
  exact MH.of hw ⟨rfl, rfl⟩ (by decide) (by simp [lg_sl, va_rf_cat, cat_i, cat_l, cat_r]) (mo_C_X2_read l0 l1 l2 l3) M0
