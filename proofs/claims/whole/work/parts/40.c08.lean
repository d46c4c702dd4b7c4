def C_X5_begin (l0 : Nat) (l1 : Option Nat) (l2 : Int32) (l3 : Int32) : Hp → Option (Unit × Hp) :=
  hpR 7 1 (some l0) l1 <|
  hpI 7 2 (some l0) l2 <|
  hLn 0 l1 fun v1 =>
  hpI 7 3 (some l0) (imin l3 v1) <|
  hpI 7 4 (some l0) (0 : Int32) <|
  rt ()
set_option maxRecDepth 10000 in
theorem mo_C_X5_begin (l0 : Nat) (l1 : Option Nat) (l2 : Int32) (l3 : Int32) : Mo (C_X5_begin l0 l1 l2 l3) := by
  unfold C_X5_begin
  repeat' (with_reducible first | assumption | exact mo_rt _ | exact mo_zt _ | exact mo_no | refine mo_ite ?_ ?_ | refine mo_hgI (fun _ => ?_) | refine mo_hgR (fun _ => ?_) | refine mo_hCv (fun _ => ?_) (fun _ => ?_) | refine mo_lq (fun _ => ?_) | refine mo_hpI ?_ | refine mo_hpR ?_ | refine mo_hAi (fun _ => ?_) | refine mo_hAr (fun _ => ?_) | refine mo_hWi ?_ | refine mo_hWr ?_ | refine mo_hLn (fun _ => ?_) | refine mo_hgL (fun _ => ?_) | refine mo_hpL ?_ | refine mo_hpZ ?_ | refine mo_bd ?_ (fun _ => ?_) | refine mo_hCi (fun _ => ?_) (fun _ => ?_) | refine mo_hNw (fun _ => ?_) | refine mo_hNa (fun _ => ?_) | refine mo_hCp ?_ | refine mo_hOi ?_ | refine mo_hAl (fun _ => ?_) | refine mo_hWl ?_ | refine mo_gd ?_ | refine mo_sLn (fun _ => ?_) | refine mo_sAt (fun _ => ?_) | refine mo_kLn (fun _ => ?_) | refine mo_kAt (fun _ => ?_))
set_option maxRecDepth 10000 in
theorem mC_X5_begin {w : Wd} (hw : Wc w) (l0 : Nat) (l1 : Option Nat) (l2 : Int32) (l3 : Int32) : MH w yX5_begin cX5_begin 4 none 1 23 voV [va_rf (some l0), va_rf l1, .int l2, .int l3] (C_X5_begin l0 l1 l2 l3) := by
  have M0 : ∀ g : Gm Hp Unit, g.1 = w → Bx g cX5_begin 4 RX5 voV none 1 23 "begin" → Sm g 4 0 (lv_args 0 [va_rf (some l0), va_rf l1, .int l2, .int l3]) [] (C_X5_begin l0 l1 l2 l3) := by
    intro g hg B
    subst hg
    unfold C_X5_begin
    refine W_lva (lv := [(0, va_rf (some l0)), (1, va_rf l1), (2, .int l2), (3, .int l3)]) (by simp [lv_args, va_rf_cat, cat_i, cat_l, cat_r]) ?_
    refine s_rload_n B.1.1 0 dX5_begin_0 rfl rfl ?_
    refine s_rload_n B.1.1 1 dX5_begin_1 rfl rfl ?_
    refine hp_putR B.1 7 1 rfl (by decide) inX5 tyX5 tyX5_ok nmX5 (by decide) fk_X5_1 ft_X5_1 rfA rfl cf_X5_24 dX5_begin_2 ?_
    refine s_rload_n B.1.1 0 dX5_begin_5 rfl rfl ?_
    refine s_iload_n B.1.1 2 dX5_begin_6 rfl rfl ?_
    refine hp_putI B.1 7 2 rfl (by decide) inX5 tyX5 tyX5_ok nmX5 (by decide) fk_X5_2.1 fk_X5_2.2 ft_X5_2 rfl cf_X5_25 dX5_begin_7 ?_
    refine s_rload_n B.1.1 0 dX5_begin_10 rfl rfl ?_
    refine s_iload_n B.1.1 3 dX5_begin_11 rfl rfl ?_
    refine s_rload_n B.1.1 1 dX5_begin_12 rfl rfl ?_
    refine hp_Ln B.1 0 (fun _ => rfl) dX5_begin_13 (fun v1 => ?_)
    refine s_mmin B.1.1 B.1.2.1 tw_477 (by decide) (Nat.le_of_ble_eq_true rfl) dX5_begin_14 ?_
    refine hp_putI B.1 7 3 rfl (by decide) inX5 tyX5 tyX5_ok nmX5 (by decide) fk_X5_3.1 fk_X5_3.2 ft_X5_3 rfl cf_X5_35 dX5_begin_17 ?_
    refine s_rload_n B.1.1 0 dX5_begin_20 rfl rfl ?_
    refine s_iconst (v := 0) B.1.1 dX5_begin_21 (by decide) ?_
    refine hp_putI B.1 7 4 rfl (by decide) inX5 tyX5 tyX5_ok nmX5 (by decide) fk_X5_4.1 fk_X5_4.2 ft_X5_4 rfl cf_X5_38 dX5_begin_22 ?_
    exact s_vret B.1.1 B.2.2.2.2 dX5_begin_25
  exact MH.of hw ⟨rfl, rfl⟩ (by decide) (by simp [lg_sl, va_rf_cat, cat_i, cat_l, cat_r]) (mo_C_X5_begin l0 l1 l2 l3) M0
def C_X11_obey_J173 (l0 : Nat) (l1 : Option Nat) (l2 : Int32) (l3 : Int32) (l4 : Option Nat) : Hp → Option (Int32 × Hp) :=
  hCv 13 (some l0) (fun a => C_X11_answered a l1 l4 l2 l3) fun r1 =>
  rt (r1)
set_option maxRecDepth 10000 in
theorem mo_C_X11_obey_J173 (l0 : Nat) (l1 : Option Nat) (l2 : Int32) (l3 : Int32) (l4 : Option Nat) : Mo (C_X11_obey_J173 l0 l1 l2 l3 l4) := by
  unfold C_X11_obey_J173
  repeat' (with_reducible first | assumption | exact mo_rt _ | exact mo_zt _ | exact mo_no | apply mo_C_X11_answered | refine mo_ite ?_ ?_ | refine mo_hgI (fun _ => ?_) | refine mo_hgR (fun _ => ?_) | refine mo_hCv (fun _ => ?_) (fun _ => ?_) | refine mo_lq (fun _ => ?_) | refine mo_hpI ?_ | refine mo_hpR ?_ | refine mo_hAi (fun _ => ?_) | refine mo_hAr (fun _ => ?_) | refine mo_hWi ?_ | refine mo_hWr ?_ | refine mo_hLn (fun _ => ?_) | refine mo_hgL (fun _ => ?_) | refine mo_hpL ?_ | refine mo_hpZ ?_ | refine mo_bd ?_ (fun _ => ?_) | refine mo_hCi (fun _ => ?_) (fun _ => ?_) | refine mo_hNw (fun _ => ?_) | refine mo_hNa (fun _ => ?_) | refine mo_hCp ?_ | refine mo_hOi ?_ | refine mo_hAl (fun _ => ?_) | refine mo_hWl ?_ | refine mo_gd ?_ | refine mo_sLn (fun _ => ?_) | refine mo_sAt (fun _ => ?_) | refine mo_kLn (fun _ => ?_) | refine mo_kAt (fun _ => ?_))
set_option maxRecDepth 10000 in
theorem sc_X11_obey_J173 {g : Gm Hp Int32} (B : Bx g cX11_obey 5 RX11 voI (some .int) 13 421 "obey") {l0 : Nat} (l1 : Option Nat) (l2 : Int32) (l3 : Int32) (l4 : Option Nat) : Sm g 5 173 [(0, va_rf (some l0)), (1, va_rf l1), (2, .int l2), (3, .int l3), (4, va_rf l4)] [] (C_X11_obey_J173 l0 l1 l2 l3 l4) := by
  unfold C_X11_obey_J173
  refine s_rload_n B.1.1 0 dX11_obey_173 rfl rfl ?_
  refine s_rload_n B.1.1 1 dX11_obey_174 rfl rfl ?_
  refine s_rload B.1.1 4 dX11_obey_175 rfl ?_
  refine s_iload_n B.1.1 2 dX11_obey_177 rfl rfl ?_
  refine s_iload_n B.1.1 3 dX11_obey_178 rfl rfl ?_
  refine hp_cvi (As := [va_rf l1, va_rf l4, .int l2, .int l3]) (st := []) 13 rfl (by decide) B.1 (fun a => mC_X11_answered B.2.1 a l1 l4 l2 l3) cc_X11_answered cl_X11_301 cn_X11_answered ce_X11_answered ci_X11 cd_X11_answered (by decide) rfl (Nat.le_of_ble_eq_true rfl) dX11_obey_179 (fun r1 => ?_)
  exact s_iret B.1.1 B.2.2.2.2 dX11_obey_182
def C_X11_obey_J85 (l0 : Nat) (l1 : Option Nat) (l2 : Int32) (l3 : Int32) : Hp → Option (Int32 × Hp) :=
  hgR 2 2 l1 fun v2 =>
  if v2 = none then (
    rt ((130 : Int32))
  ) else (
    if l2 = 3 then (
      hCv 13 (some l0) (fun a => C_X11_publish a l1 v2 l3) fun r3 =>
      rt (r3)
    ) else
    if l2 = 4 then (
      C_X11_obey_J173 l0 l1 l2 l3 v2
    ) else
    if l2 = 5 then (
      C_X11_obey_J173 l0 l1 l2 l3 v2
    ) else
    if l2 = 6 then (
      C_X11_obey_J173 l0 l1 l2 l3 v2
    ) else
    if l2 = 7 then (
      C_X11_obey_J173 l0 l1 l2 l3 v2
    ) else
    if l2 = 8 then (
      hCv 13 (some l0) (fun a => C_X11_subscribe a l1 v2 l3) fun r4 =>
      rt (r4)
    ) else
    if l2 = 9 then (
      rt ((130 : Int32))
    ) else
    if l2 = 10 then (
      hCv 13 (some l0) (fun a => C_X11_unsubscribe a l1 v2 l3) fun r5 =>
      rt (r5)
    ) else
    if l2 = 11 then (
      rt ((130 : Int32))
    ) else
    if l2 = 12 then (
      hCv 13 (some l0) (fun a => C_X11_ping a l1 l3) fun r6 =>
      rt (r6)
    ) else
    if l2 = 13 then (
      rt ((130 : Int32))
    ) else
    if l2 = 14 then (
      hCv 13 (some l0) (fun a => C_X11_leave a v2 l3) fun r7 =>
      rt (r7)
    ) else
    (
      rt ((130 : Int32))
    )
  )
set_option maxRecDepth 10000 in
theorem mo_C_X11_obey_J85 (l0 : Nat) (l1 : Option Nat) (l2 : Int32) (l3 : Int32) : Mo (C_X11_obey_J85 l0 l1 l2 l3) := by
  unfold C_X11_obey_J85
  repeat' (with_reducible first | assumption | exact mo_rt _ | exact mo_zt _ | exact mo_no | apply mo_C_X11_publish | apply mo_C_X11_obey_J173 | apply mo_C_X11_subscribe | apply mo_C_X11_unsubscribe | apply mo_C_X11_ping | apply mo_C_X11_leave | refine mo_ite ?_ ?_ | refine mo_hgI (fun _ => ?_) | refine mo_hgR (fun _ => ?_) | refine mo_hCv (fun _ => ?_) (fun _ => ?_) | refine mo_lq (fun _ => ?_) | refine mo_hpI ?_ | refine mo_hpR ?_ | refine mo_hAi (fun _ => ?_) | refine mo_hAr (fun _ => ?_) | refine mo_hWi ?_ | refine mo_hWr ?_ | refine mo_hLn (fun _ => ?_) | refine mo_hgL (fun _ => ?_) | refine mo_hpL ?_ | refine mo_hpZ ?_ | refine mo_bd ?_ (fun _ => ?_) | refine mo_hCi (fun _ => ?_) (fun _ => ?_) | refine mo_hNw (fun _ => ?_) | refine mo_hNa (fun _ => ?_) | refine mo_hCp ?_ | refine mo_hOi ?_ | refine mo_hAl (fun _ => ?_) | refine mo_hWl ?_ | refine mo_gd ?_ | refine mo_sLn (fun _ => ?_) | refine mo_sAt (fun _ => ?_) | refine mo_kLn (fun _ => ?_) | refine mo_kAt (fun _ => ?_))
set_option maxRecDepth 10000 in
theorem sc_X11_obey_J85 {g : Gm Hp Int32} (B : Bx g cX11_obey 5 RX11 voI (some .int) 13 421 "obey") {l0 : Nat} (l1 : Option Nat) (l2 : Int32) (l3 : Int32) : Sm g 5 85 [(0, va_rf (some l0)), (1, va_rf l1), (2, .int l2), (3, .int l3)] [] (C_X11_obey_J85 l0 l1 l2 l3) := by
  unfold C_X11_obey_J85
  refine s_rload_n B.1.1 1 dX11_obey_85 rfl rfl ?_
  refine hp_getR B.1 2 2 rfl (by decide) inX0 (by decide) fk_X0_2 cf_X11_286 dX11_obey_86 (fun v2 => ?_)
  refine s_rstore (i := 4) (lv' := [(4, va_rf v2), (0, va_rf (some l0)), (1, va_rf l1), (2, .int l2), (3, .int l3)]) B.1.1 dX11_obey_89 (by decide) rfl ?_
  refine s_rload B.1.1 0 dX11_obey_91 rfl ?_
  refine s_ifnonnull B.1.1 100 dX11_obey_93 (by decide) ?_ ?_
  · refine s_iload_n B.1.1 3 dX11_obey_100 rfl rfl ?_
    refine s_sw1 B.1.1 3 164 dX11_obey_101 (by decide) (by decide) rfl (by decide) ?_ (fun hn3 => ?_)
    · refine s_rload_n B.1.1 1 dX11_obey_164 rfl rfl ?_
      refine s_rload_n B.1.1 2 dX11_obey_165 rfl rfl ?_
      refine s_rload B.1.1 0 dX11_obey_166 rfl ?_
      refine s_iload_n B.1.1 4 dX11_obey_168 rfl rfl ?_
      refine hp_cvi (As := [va_rf l1, va_rf v2, .int l3]) (st := []) 13 rfl (by decide) B.1 (fun a => mC_X11_publish B.2.1 a l1 v2 l3) cc_X11_publish cl_X11_297 cn_X11_publish ce_X11_publish ci_X11 cd_X11_publish (by decide) rfl (Nat.le_of_ble_eq_true rfl) dX11_obey_169 (fun r3 => ?_)
      exact s_iret B.1.1 B.2.2.2.2 dX11_obey_172
    refine s_sw1 B.1.1 4 173 dX11_obey_101 (by decide) (by decide) rfl (by decide) ?_ (fun hn4 => ?_)
    · exact Sm.lvs [1, 2, 3, 4, 0] rfl (sc_X11_obey_J173 B l1 l2 l3 v2)
    refine s_sw1 B.1.1 5 173 dX11_obey_101 (by decide) (by decide) rfl (by decide) ?_ (fun hn5 => ?_)
    · exact Sm.lvs [1, 2, 3, 4, 0] rfl (sc_X11_obey_J173 B l1 l2 l3 v2)
    refine s_sw1 B.1.1 6 173 dX11_obey_101 (by decide) (by decide) rfl (by decide) ?_ (fun hn6 => ?_)
    · exact Sm.lvs [1, 2, 3, 4, 0] rfl (sc_X11_obey_J173 B l1 l2 l3 v2)
    refine s_sw1 B.1.1 7 173 dX11_obey_101 (by decide) (by decide) rfl (by decide) ?_ (fun hn7 => ?_)
    · exact Sm.lvs [1, 2, 3, 4, 0] rfl (sc_X11_obey_J173 B l1 l2 l3 v2)
    refine s_sw1 B.1.1 8 183 dX11_obey_101 (by decide) (by decide) rfl (by decide) ?_ (fun hn8 => ?_)
    · refine s_rload_n B.1.1 1 dX11_obey_183 rfl rfl ?_
      refine s_rload_n B.1.1 2 dX11_obey_184 rfl rfl ?_
      refine s_rload B.1.1 0 dX11_obey_185 rfl ?_
      refine s_iload_n B.1.1 4 dX11_obey_187 rfl rfl ?_
      refine hp_cvi (As := [va_rf l1, va_rf v2, .int l3]) (st := []) 13 rfl (by decide) B.1 (fun a => mC_X11_subscribe B.2.1 a l1 v2 l3) cc_X11_subscribe cl_X11_305 cn_X11_subscribe ce_X11_subscribe ci_X11 cd_X11_subscribe (by decide) rfl (Nat.le_of_ble_eq_true rfl) dX11_obey_188 (fun r4 => ?_)
      exact s_iret B.1.1 B.2.2.2.2 dX11_obey_191
    refine s_sw1 B.1.1 9 216 dX11_obey_101 (by decide) (by decide) rfl (by decide) ?_ (fun hn9 => ?_)
    · refine s_sipush (v := (130)) B.1.1 dX11_obey_216 (by decide) ?_
      exact s_iret B.1.1 B.2.2.2.2 dX11_obey_219
    refine s_sw1 B.1.1 10 192 dX11_obey_101 (by decide) (by decide) rfl (by decide) ?_ (fun hn10 => ?_)
    · refine s_rload_n B.1.1 1 dX11_obey_192 rfl rfl ?_
      refine s_rload_n B.1.1 2 dX11_obey_193 rfl rfl ?_
      refine s_rload B.1.1 0 dX11_obey_194 rfl ?_
      refine s_iload_n B.1.1 4 dX11_obey_196 rfl rfl ?_
      refine hp_cvi (As := [va_rf l1, va_rf v2, .int l3]) (st := []) 13 rfl (by decide) B.1 (fun a => mC_X11_unsubscribe B.2.1 a l1 v2 l3) cc_X11_unsubscribe cl_X11_308 cn_X11_unsubscribe ce_X11_unsubscribe ci_X11 cd_X11_unsubscribe (by decide) rfl (Nat.le_of_ble_eq_true rfl) dX11_obey_197 (fun r5 => ?_)
      exact s_iret B.1.1 B.2.2.2.2 dX11_obey_200
    refine s_sw1 B.1.1 11 216 dX11_obey_101 (by decide) (by decide) rfl (by decide) ?_ (fun hn11 => ?_)
    · refine s_sipush (v := (130)) B.1.1 dX11_obey_216 (by decide) ?_
      exact s_iret B.1.1 B.2.2.2.2 dX11_obey_219
    refine s_sw1 B.1.1 12 201 dX11_obey_101 (by decide) (by decide) rfl (by decide) ?_ (fun hn12 => ?_)
    · refine s_rload_n B.1.1 1 dX11_obey_201 rfl rfl ?_
      refine s_rload_n B.1.1 2 dX11_obey_202 rfl rfl ?_
      refine s_iload_n B.1.1 4 dX11_obey_203 rfl rfl ?_
      refine hp_cvi (As := [va_rf l1, .int l3]) (st := []) 13 rfl (by decide) B.1 (fun a => mC_X11_ping B.2.1 a l1 l3) cc_X11_ping cl_X11_311 cn_X11_ping ce_X11_ping ci_X11 cd_X11_ping (by decide) rfl (Nat.le_of_ble_eq_true rfl) dX11_obey_204 (fun r6 => ?_)
      exact s_iret B.1.1 B.2.2.2.2 dX11_obey_207
    refine s_sw1 B.1.1 13 216 dX11_obey_101 (by decide) (by decide) rfl (by decide) ?_ (fun hn13 => ?_)
    · refine s_sipush (v := (130)) B.1.1 dX11_obey_216 (by decide) ?_
      exact s_iret B.1.1 B.2.2.2.2 dX11_obey_219
    refine s_sw1 B.1.1 14 208 dX11_obey_101 (by decide) (by decide) rfl (by decide) ?_ (fun hn14 => ?_)
    · refine s_rload_n B.1.1 1 dX11_obey_208 rfl rfl ?_
      refine s_rload B.1.1 0 dX11_obey_209 rfl ?_
      refine s_iload_n B.1.1 4 dX11_obey_211 rfl rfl ?_
      refine hp_cvi (As := [va_rf v2, .int l3]) (st := []) 13 rfl (by decide) B.1 (fun a => mC_X11_leave B.2.1 a v2 l3) cc_X11_leave cl_X11_315 cn_X11_leave ce_X11_leave ci_X11 cd_X11_leave (by decide) rfl (Nat.le_of_ble_eq_true rfl) dX11_obey_212 (fun r7 => ?_)
      exact s_iret B.1.1 B.2.2.2.2 dX11_obey_215
    have hout : (l2).toInt < 3 ∨ 14 < (l2).toInt := by
      have z3 : ¬ (l2).toInt = 3 := sw_ne hn3 (by decide); have z4 : ¬ (l2).toInt = 4 := sw_ne hn4 (by decide); have z5 : ¬ (l2).toInt = 5 := sw_ne hn5 (by decide); have z6 : ¬ (l2).toInt = 6 := sw_ne hn6 (by decide); have z7 : ¬ (l2).toInt = 7 := sw_ne hn7 (by decide); have z8 : ¬ (l2).toInt = 8 := sw_ne hn8 (by decide); have z9 : ¬ (l2).toInt = 9 := sw_ne hn9 (by decide); have z10 : ¬ (l2).toInt = 10 := sw_ne hn10 (by decide); have z11 : ¬ (l2).toInt = 11 := sw_ne hn11 (by decide); have z12 : ¬ (l2).toInt = 12 := sw_ne hn12 (by decide); have z13 : ¬ (l2).toInt = 13 := sw_ne hn13 (by decide); have z14 : ¬ (l2).toInt = 14 := sw_ne hn14 (by decide); omega
    refine s_swD B.1.1 216 dX11_obey_101 hout (by decide) ?_
    refine s_sipush (v := (130)) B.1.1 dX11_obey_216 (by decide) ?_
    exact s_iret B.1.1 B.2.2.2.2 dX11_obey_219
  · refine s_sipush (v := (130)) B.1.1 dX11_obey_96 (by decide) ?_
    exact s_iret B.1.1 B.2.2.2.2 dX11_obey_99
def C_X11_obey (l0 : Nat) (l1 : Option Nat) : Hp → Option (Int32 × Hp) :=
  hgI 13 10 (some l0) fun v8 =>
  hpI 13 10 (some l0) (v8 + (1 : Int32)) <|
  hgI 13 9 (some l0) fun v9 =>
  hpI 2 12 l1 v9 <|
  hgR 13 3 (some l0) fun v10 =>
  hgR 2 7 l1 fun v11 =>
  hgI 2 9 l1 fun v12 =>
  hgI 2 10 l1 fun v13 =>
  hCv 7 v10 (fun a => C_X5_begin a v11 v12 v13) fun r14 =>
  hCv 2 l1 (fun a => C_X0_type a) fun r15 =>
  hgR 2 7 l1 fun v16 =>
  hAi v16 (0 : Int32) fun v17 =>
  lq (v17 &&& (15 : Int32)) fun x18 =>
  if r15 = (1 : Int32) then (
    hgR 2 2 l1 fun v19 =>
    if v19 = none then (
      hgR 13 6 (some l0) fun v20 =>
      hgR 13 3 (some l0) fun v21 =>
      hgR 13 4 (some l0) fun v22 =>
      hCv 4 v20 (fun a => C_X2_read a v21 v22 x18) fun r23 =>
      hCv 13 (some l0) (fun a => C_X11_greeted a) fun r24 =>
      rt (r24)
    ) else (
      C_X11_obey_J85 l0 l1 r15 x18
    )
  ) else (
    C_X11_obey_J85 l0 l1 r15 x18
  )
set_option maxRecDepth 10000 in
theorem mo_C_X11_obey (l0 : Nat) (l1 : Option Nat) : Mo (C_X11_obey l0 l1) := by
  unfold C_X11_obey
  repeat' (with_reducible first | assumption | exact mo_rt _ | exact mo_zt _ | exact mo_no | apply mo_C_X5_begin | apply mo_C_X0_type | apply mo_C_X2_read | apply mo_C_X11_greeted | apply mo_C_X11_obey_J85 | refine mo_ite ?_ ?_ | refine mo_hgI (fun _ => ?_) | refine mo_hgR (fun _ => ?_) | refine mo_hCv (fun _ => ?_) (fun _ => ?_) | refine mo_lq (fun _ => ?_) | refine mo_hpI ?_ | refine mo_hpR ?_ | refine mo_hAi (fun _ => ?_) | refine mo_hAr (fun _ => ?_) | refine mo_hWi ?_ | refine mo_hWr ?_ | refine mo_hLn (fun _ => ?_) | refine mo_hgL (fun _ => ?_) | refine mo_hpL ?_ | refine mo_hpZ ?_ | refine mo_bd ?_ (fun _ => ?_) | refine mo_hCi (fun _ => ?_) (fun _ => ?_) | refine mo_hNw (fun _ => ?_) | refine mo_hNa (fun _ => ?_) | refine mo_hCp ?_ | refine mo_hOi ?_ | refine mo_hAl (fun _ => ?_) | refine mo_hWl ?_ | refine mo_gd ?_ | refine mo_sLn (fun _ => ?_) | refine mo_sAt (fun _ => ?_) | refine mo_kLn (fun _ => ?_) | refine mo_kAt (fun _ => ?_))
set_option maxRecDepth 10000 in
theorem mC_X11_obey {w : Wd} (hw : Wc w) (l0 : Nat) (l1 : Option Nat) : MH w yX11_obey cX11_obey 5 (some .int) 13 421 voI [va_rf (some l0), va_rf l1] (C_X11_obey l0 l1) := by
  have M0 : ∀ g : Gm Hp Int32, g.1 = w → Bx g cX11_obey 5 RX11 voI (some .int) 13 421 "obey" → Sm g 5 0 (lv_args 0 [va_rf (some l0), va_rf l1]) [] (C_X11_obey l0 l1) := by
    intro g hg B
    subst hg
    unfold C_X11_obey
    refine W_lva (lv := [(0, va_rf (some l0)), (1, va_rf l1)]) (by simp [lv_args, va_rf_cat, cat_i, cat_l, cat_r]) ?_
    refine s_rload_n B.1.1 0 dX11_obey_0 rfl rfl ?_
    refine s_dup B.1.1 dX11_obey_1 rfl ?_
    refine hp_getI B.1 13 10 rfl (by decide) inX11 (by decide) fk_X11_10.1 fk_X11_10.2 cf_X11_87 dX11_obey_2 (fun v8 => ?_)
    refine s_iconst (v := 1) B.1.1 dX11_obey_5 (by decide) ?_
    refine s_iadd B.1.1 dX11_obey_6 ?_
    refine hp_putI B.1 13 10 rfl (by decide) inX11 tyX11 tyX11_ok nmX11 (by decide) fk_X11_10.1 fk_X11_10.2 ft_X11_10 rfl cf_X11_87 dX11_obey_7 ?_
    refine s_rload_n B.1.1 1 dX11_obey_10 rfl rfl ?_
    refine s_rload_n B.1.1 0 dX11_obey_11 rfl rfl ?_
    refine hp_getI B.1 13 9 rfl (by decide) inX11 (by decide) fk_X11_9.1 fk_X11_9.2 cf_X11_131 dX11_obey_12 (fun v9 => ?_)
    refine hp_putI B.1 2 12 rfl (by decide) inX0 tyX0 tyX0_ok nmX0 (by decide) fk_X0_12.1 fk_X0_12.2 ft_X0_12 rfl cf_X11_268 dX11_obey_15 ?_
    refine s_rload_n B.1.1 0 dX11_obey_18 rfl rfl ?_
    refine hp_getR B.1 13 3 rfl (by decide) inX11 (by decide) fk_X11_3 cf_X11_34 dX11_obey_19 (fun v10 => ?_)
    refine s_rload_n B.1.1 1 dX11_obey_22 rfl rfl ?_
    refine hp_getR B.1 2 7 rfl (by decide) inX0 (by decide) fk_X0_7 cf_X11_271 dX11_obey_23 (fun v11 => ?_)
    refine s_rload_n B.1.1 1 dX11_obey_26 rfl rfl ?_
    refine hp_getI B.1 2 9 rfl (by decide) inX0 (by decide) fk_X0_9.1 fk_X0_9.2 cf_X11_274 dX11_obey_27 (fun v12 => ?_)
    refine s_rload_n B.1.1 1 dX11_obey_30 rfl rfl ?_
    refine hp_getI B.1 2 10 rfl (by decide) inX0 (by decide) fk_X0_10.1 fk_X0_10.2 cf_X11_277 dX11_obey_31 (fun v13 => ?_)
    refine hp_cvv (As := [va_rf v11, .int v12, .int v13]) (st := []) 7 rfl (by decide) B.1 (fun a => mC_X5_begin B.2.1 a v11 v12 v13) cc_X5_begin cl_X11_280 cn_X5_begin ce_X5_begin ci_X5 cd_X5_begin (by decide) rfl (Nat.le_of_ble_eq_true rfl) dX11_obey_34 (fun r14 => ?_)
    refine s_rload_n B.1.1 1 dX11_obey_37 rfl rfl ?_
    refine hp_cvi (As := []) (st := []) 2 rfl (by decide) B.1 (fun a => mC_X0_type B.2.1 a ) cc_X0_type cl_X11_283 cn_X0_type ce_X0_type ci_X0 cd_X0_type (by decide) rfl (Nat.le_of_ble_eq_true rfl) dX11_obey_38 (fun r15 => ?_)
    refine s_istore_n (i := 2) (lv' := [(2, .int r15), (0, va_rf (some l0)), (1, va_rf l1)]) B.1.1 dX11_obey_41 rfl (by decide) (by simp [va_rf_cat, cat_i, cat_l, cat_r]) ?_
    refine s_rload_n B.1.1 2 dX11_obey_42 rfl rfl ?_
    refine hp_getR B.1 2 7 rfl (by decide) inX0 (by decide) fk_X0_7 cf_X11_271 dX11_obey_43 (fun v16 => ?_)
    refine s_iconst (v := 0) B.1.1 dX11_obey_46 (by decide) ?_
    refine hp_Ai B.1 dX11_obey_47 (fun v17 => ?_)
    refine s_bipush (v := (15)) B.1.1 dX11_obey_48 (by decide) ?_
    refine s_iand B.1.1 dX11_obey_50 ?_
    refine s_lqi (fun x18 => ?_)
    refine s_istore_n (i := 3) (lv' := [(3, .int x18), (2, .int r15), (0, va_rf (some l0)), (1, va_rf l1)]) B.1.1 dX11_obey_51 rfl (by decide) rfl ?_
    refine s_iload_n B.1.1 1 dX11_obey_52 rfl rfl ?_
    refine s_iconst (v := 1) B.1.1 dX11_obey_53 (by decide) ?_
    refine s_icmp_ne B.1.1 85 dX11_obey_54 (by decide) ?_ ?_
    · exact Sm.lvs [2, 3, 1, 0] rfl (sc_X11_obey_J85 B l1 r15 x18)
    · refine s_rload_n B.1.1 3 dX11_obey_57 rfl rfl ?_
      refine hp_getR B.1 2 2 rfl (by decide) inX0 (by decide) fk_X0_2 cf_X11_286 dX11_obey_58 (fun v19 => ?_)
      refine s_ifnonnull B.1.1 85 dX11_obey_61 (by decide) ?_ ?_
      · exact Sm.lvs [2, 3, 1, 0] rfl (sc_X11_obey_J85 B l1 r15 x18)
      · refine s_rload_n B.1.1 2 dX11_obey_64 rfl rfl ?_
        refine hp_getR B.1 13 6 rfl (by decide) inX11 (by decide) fk_X11_6 cf_X11_55 dX11_obey_65 (fun v20 => ?_)
        refine s_rload_n B.1.1 2 dX11_obey_68 rfl rfl ?_
        refine hp_getR B.1 13 3 rfl (by decide) inX11 (by decide) fk_X11_3 cf_X11_34 dX11_obey_69 (fun v21 => ?_)
        refine s_rload_n B.1.1 2 dX11_obey_72 rfl rfl ?_
        refine hp_getR B.1 13 4 rfl (by decide) inX11 (by decide) fk_X11_4 cf_X11_41 dX11_obey_73 (fun v22 => ?_)
        refine s_iload_n B.1.1 0 dX11_obey_76 rfl rfl ?_
        refine hp_cvv (As := [va_rf v21, va_rf v22, .int x18]) (st := []) 4 rfl (by decide) B.1 (fun a => mC_X2_read B.2.1 a v21 v22 x18) cc_X2_read cl_X11_290 cn_X2_read ce_X2_read ci_X2 cd_X2_read (by decide) rfl (Nat.le_of_ble_eq_true rfl) dX11_obey_77 (fun r23 => ?_)
        refine s_rload_n B.1.1 2 dX11_obey_80 rfl rfl ?_
        refine hp_cvi (As := []) (st := []) 13 rfl (by decide) B.1 (fun a => mC_X11_greeted B.2.1 a ) cc_X11_greeted cl_X11_294 cn_X11_greeted ce_X11_greeted ci_X11 cd_X11_greeted (by decide) rfl (Nat.le_of_ble_eq_true rfl) dX11_obey_81 (fun r24 => ?_)
        exact s_iret B.1.1 B.2.2.2.2 dX11_obey_84
  exact MH.of hw ⟨rfl, rfl⟩ (by decide) (by simp [lg_sl, va_rf_cat, cat_i, cat_l, cat_r]) (mo_C_X11_obey l0 l1) M0
def C_X11_refuse_J65 (l0 : Nat) (l1 : Option Nat) : Hp → Option (Unit × Hp) :=
  hCv 13 (some l0) (fun a => C_X11_lost a l1) fun r1 =>
  rt ()
set_option maxRecDepth 10000 in
theorem mo_C_X11_refuse_J65 (l0 : Nat) (l1 : Option Nat) : Mo (C_X11_refuse_J65 l0 l1) := by
  unfold C_X11_refuse_J65
  repeat' (with_reducible first | assumption | exact mo_rt _ | exact mo_zt _ | exact mo_no | apply mo_C_X11_lost | refine mo_ite ?_ ?_ | refine mo_hgI (fun _ => ?_) | refine mo_hgR (fun _ => ?_) | refine mo_hCv (fun _ => ?_) (fun _ => ?_) | refine mo_lq (fun _ => ?_) | refine mo_hpI ?_ | refine mo_hpR ?_ | refine mo_hAi (fun _ => ?_) | refine mo_hAr (fun _ => ?_) | refine mo_hWi ?_ | refine mo_hWr ?_ | refine mo_hLn (fun _ => ?_) | refine mo_hgL (fun _ => ?_) | refine mo_hpL ?_ | refine mo_hpZ ?_ | refine mo_bd ?_ (fun _ => ?_) | refine mo_hCi (fun _ => ?_) (fun _ => ?_) | refine mo_hNw (fun _ => ?_) | refine mo_hNa (fun _ => ?_) | refine mo_hCp ?_ | refine mo_hOi ?_ | refine mo_hAl (fun _ => ?_) | refine mo_hWl ?_ | refine mo_gd ?_ | refine mo_sLn (fun _ => ?_) | refine mo_sAt (fun _ => ?_) | refine mo_kLn (fun _ => ?_) | refine mo_kAt (fun _ => ?_))
set_option maxRecDepth 10000 in
theorem sc_X11_refuse_J65 {g : Gm Hp Unit} (B : Bx g cX11_refuse 3 RX11 voV none 6 161 "refuse") {l0 : Nat} (l1 : Option Nat) : Sm g 3 65 [(0, va_rf (some l0)), (1, va_rf l1)] [] (C_X11_refuse_J65 l0 l1) := by
  unfold C_X11_refuse_J65
  refine s_rload_n B.1.1 0 dX11_refuse_65 rfl rfl ?_
  refine s_rload_n B.1.1 1 dX11_refuse_66 rfl rfl ?_
  refine hp_cvv (As := [va_rf l1]) (st := []) 13 rfl (by decide) B.1 (fun a => mC_X11_lost B.2.1 a l1) cc_X11_lost cl_X11_103 cn_X11_lost ce_X11_lost ci_X11 cd_X11_lost (by decide) rfl (Nat.le_of_ble_eq_true rfl) dX11_refuse_67 (fun r1 => ?_)
  exact s_vret B.1.1 B.2.2.2.2 dX11_refuse_70
def C_X11_refuse (l0 : Nat) (l1 : Option Nat) (l2 : Int32) : Hp → Option (Unit × Hp) :=
  hgR 2 2 l1 fun v2 =>
  if v2 = none then (
    hCv 2 l1 (fun a => C_X0_type a) fun r3 =>
    if r3 = (1 : Int32) then (
      hgR 13 5 (some l0) fun v4 =>
      hCv 12 v4 (fun a => C_X10_begin a (32 : Int32)) fun r5 =>
      hgR 13 5 (some l0) fun v6 =>
      hCv 12 v6 (fun a => C_X10_one a (0 : Int32)) fun r7 =>
      hgR 13 5 (some l0) fun v8 =>
      hCv 12 v8 (fun a => C_X10_one a l2) fun r9 =>
      hgR 13 5 (some l0) fun v10 =>
      hCv 12 v10 (fun a => C_X10_one a (0 : Int32)) fun r11 =>
      hgR 13 5 (some l0) fun v12 =>
      hCv 2 l1 (fun a => C_X0_put a v12) fun r13 =>
      C_X11_refuse_J65 l0 l1
    ) else (
      C_X11_refuse_J65 l0 l1
    )
  ) else (
    hCv 13 (some l0) (fun a => C_X11_sayFarewell a l1 l2) fun r14 =>
    C_X11_refuse_J65 l0 l1
  )
set_option maxRecDepth 10000 in
theorem mo_C_X11_refuse (l0 : Nat) (l1 : Option Nat) (l2 : Int32) : Mo (C_X11_refuse l0 l1 l2) := by
  unfold C_X11_refuse
  repeat' (with_reducible first | assumption | exact mo_rt _ | exact mo_zt _ | exact mo_no | apply mo_C_X0_type | apply mo_C_X10_begin | apply mo_C_X10_one | apply mo_C_X0_put | apply mo_C_X11_refuse_J65 | apply mo_C_X11_sayFarewell | refine mo_ite ?_ ?_ | refine mo_hgI (fun _ => ?_) | refine mo_hgR (fun _ => ?_) | refine mo_hCv (fun _ => ?_) (fun _ => ?_) | refine mo_lq (fun _ => ?_) | refine mo_hpI ?_ | refine mo_hpR ?_ | refine mo_hAi (fun _ => ?_) | refine mo_hAr (fun _ => ?_) | refine mo_hWi ?_ | refine mo_hWr ?_ | refine mo_hLn (fun _ => ?_) | refine mo_hgL (fun _ => ?_) | refine mo_hpL ?_ | refine mo_hpZ ?_ | refine mo_bd ?_ (fun _ => ?_) | refine mo_hCi (fun _ => ?_) (fun _ => ?_) | refine mo_hNw (fun _ => ?_) | refine mo_hNa (fun _ => ?_) | refine mo_hCp ?_ | refine mo_hOi ?_ | refine mo_hAl (fun _ => ?_) | refine mo_hWl ?_ | refine mo_gd ?_ | refine mo_sLn (fun _ => ?_) | refine mo_sAt (fun _ => ?_) | refine mo_kLn (fun _ => ?_) | refine mo_kAt (fun _ => ?_))
set_option maxRecDepth 10000 in
theorem mC_X11_refuse {w : Wd} (hw : Wc w) (l0 : Nat) (l1 : Option Nat) (l2 : Int32) : MH w yX11_refuse cX11_refuse 3 none 6 161 voV [va_rf (some l0), va_rf l1, .int l2] (C_X11_refuse l0 l1 l2) := by
  have M0 : ∀ g : Gm Hp Unit, g.1 = w → Bx g cX11_refuse 3 RX11 voV none 6 161 "refuse" → Sm g 3 0 (lv_args 0 [va_rf (some l0), va_rf l1, .int l2]) [] (C_X11_refuse l0 l1 l2) := by
    intro g hg B
    subst hg
    unfold C_X11_refuse
    refine W_lva (lv := [(0, va_rf (some l0)), (1, va_rf l1), (2, .int l2)]) (by simp [lv_args, va_rf_cat, cat_i, cat_l, cat_r]) ?_
    refine s_rload_n B.1.1 1 dX11_refuse_0 rfl rfl ?_
    refine hp_getR B.1 2 2 rfl (by decide) inX0 (by decide) fk_X0_2 cf_X11_286 dX11_refuse_1 (fun v2 => ?_)
    refine s_ifnull B.1.1 16 dX11_refuse_4 (by decide) ?_ ?_
    · refine s_rload_n B.1.1 1 dX11_refuse_16 rfl rfl ?_
      refine hp_cvi (As := []) (st := []) 2 rfl (by decide) B.1 (fun a => mC_X0_type B.2.1 a ) cc_X0_type cl_X11_283 cn_X0_type ce_X0_type ci_X0 cd_X0_type (by decide) rfl (Nat.le_of_ble_eq_true rfl) dX11_refuse_17 (fun r3 => ?_)
      refine s_iconst (v := 1) B.1.1 dX11_refuse_20 (by decide) ?_
      refine s_icmp_ne B.1.1 65 dX11_refuse_21 (by decide) ?_ ?_
      · exact Sm.lvs [0, 1] rfl (sc_X11_refuse_J65 B l1)
      · refine s_rload_n B.1.1 0 dX11_refuse_24 rfl rfl ?_
        refine hp_getR B.1 13 5 rfl (by decide) inX11 (by decide) fk_X11_5 cf_X11_48 dX11_refuse_25 (fun v4 => ?_)
        refine s_bipush (v := (32)) B.1.1 dX11_refuse_28 (by decide) ?_
        refine hp_cvv (As := [.int (32 : Int32)]) (st := []) 12 rfl (by decide) B.1 (fun a => mC_X10_begin B.2.1 a (32 : Int32)) cc_X10_begin cl_X11_322 cn_X10_begin ce_X10_begin ci_X10 cd_X10_begin (by decide) rfl (Nat.le_of_ble_eq_true rfl) dX11_refuse_30 (fun r5 => ?_)
        refine s_rload_n B.1.1 0 dX11_refuse_33 rfl rfl ?_
        refine hp_getR B.1 13 5 rfl (by decide) inX11 (by decide) fk_X11_5 cf_X11_48 dX11_refuse_34 (fun v6 => ?_)
        refine s_iconst (v := 0) B.1.1 dX11_refuse_37 (by decide) ?_
        refine hp_cvv (As := [.int (0 : Int32)]) (st := []) 12 rfl (by decide) B.1 (fun a => mC_X10_one B.2.1 a (0 : Int32)) cc_X10_one cl_X11_324 cn_X10_one ce_X10_one ci_X10 cd_X10_one (by decide) rfl (Nat.le_of_ble_eq_true rfl) dX11_refuse_38 (fun r7 => ?_)
        refine s_rload_n B.1.1 0 dX11_refuse_41 rfl rfl ?_
        refine hp_getR B.1 13 5 rfl (by decide) inX11 (by decide) fk_X11_5 cf_X11_48 dX11_refuse_42 (fun v8 => ?_)
        refine s_iload_n B.1.1 2 dX11_refuse_45 rfl rfl ?_
        refine hp_cvv (As := [.int l2]) (st := []) 12 rfl (by decide) B.1 (fun a => mC_X10_one B.2.1 a l2) cc_X10_one cl_X11_324 cn_X10_one ce_X10_one ci_X10 cd_X10_one (by decide) rfl (Nat.le_of_ble_eq_true rfl) dX11_refuse_46 (fun r9 => ?_)
        refine s_rload_n B.1.1 0 dX11_refuse_49 rfl rfl ?_
        refine hp_getR B.1 13 5 rfl (by decide) inX11 (by decide) fk_X11_5 cf_X11_48 dX11_refuse_50 (fun v10 => ?_)
        refine s_iconst (v := 0) B.1.1 dX11_refuse_53 (by decide) ?_
        refine hp_cvv (As := [.int (0 : Int32)]) (st := []) 12 rfl (by decide) B.1 (fun a => mC_X10_one B.2.1 a (0 : Int32)) cc_X10_one cl_X11_324 cn_X10_one ce_X10_one ci_X10 cd_X10_one (by decide) rfl (Nat.le_of_ble_eq_true rfl) dX11_refuse_54 (fun r11 => ?_)
        refine s_rload_n B.1.1 1 dX11_refuse_57 rfl rfl ?_
        refine s_rload_n B.1.1 0 dX11_refuse_58 rfl rfl ?_
        refine hp_getR B.1 13 5 rfl (by decide) inX11 (by decide) fk_X11_5 cf_X11_48 dX11_refuse_59 (fun v12 => ?_)
        refine hp_cvv (As := [va_rf v12]) (st := []) 2 rfl (by decide) B.1 (fun a => mC_X0_put B.2.1 a v12) cc_X0_put cl_X11_327 cn_X0_put ce_X0_put ci_X0 cd_X0_put (by decide) rfl (Nat.le_of_ble_eq_true rfl) dX11_refuse_62 (fun r13 => ?_)
        exact Sm.lvs [0, 1] rfl (sc_X11_refuse_J65 B l1)
    · refine s_rload_n B.1.1 0 dX11_refuse_7 rfl rfl ?_
      refine s_rload_n B.1.1 1 dX11_refuse_8 rfl rfl ?_
      refine s_iload_n B.1.1 2 dX11_refuse_9 rfl rfl ?_
      refine hp_cvv (As := [va_rf l1, .int l2]) (st := []) 13 rfl (by decide) B.1 (fun a => mC_X11_sayFarewell B.2.1 a l1 l2) cc_X11_sayFarewell cl_X11_319 cn_X11_sayFarewell ce_X11_sayFarewell ci_X11 cd_X11_sayFarewell (by decide) rfl (Nat.le_of_ble_eq_true rfl) dX11_refuse_10 (fun r14 => ?_)
      refine s_goto B.1.1 65 dX11_refuse_13 (by decide) ?_
      exact Sm.lvs [0, 1] rfl (sc_X11_refuse_J65 B l1)
  exact MH.of hw ⟨rfl, rfl⟩ (by decide) (by simp [lg_sl, va_rf_cat, cat_i, cat_l, cat_r]) (mo_C_X11_refuse l0 l1 l2) M0
def C_X11_settle_J67 (l0 : Nat) : Hp → Option (Unit × Hp) :=
  rt ()
set_option maxRecDepth 10000 in
theorem mo_C_X11_settle_J67 (l0 : Nat) : Mo (C_X11_settle_J67 l0) := by
  unfold C_X11_settle_J67
  repeat' (with_reducible first | assumption | exact mo_rt _ | exact mo_zt _ | exact mo_no | refine mo_ite ?_ ?_ | refine mo_hgI (fun _ => ?_) | refine mo_hgR (fun _ => ?_) | refine mo_hCv (fun _ => ?_) (fun _ => ?_) | refine mo_lq (fun _ => ?_) | refine mo_hpI ?_ | refine mo_hpR ?_ | refine mo_hAi (fun _ => ?_) | refine mo_hAr (fun _ => ?_) | refine mo_hWi ?_ | refine mo_hWr ?_ | refine mo_hLn (fun _ => ?_) | refine mo_hgL (fun _ => ?_) | refine mo_hpL ?_ | refine mo_hpZ ?_ | refine mo_bd ?_ (fun _ => ?_) | refine mo_hCi (fun _ => ?_) (fun _ => ?_) | refine mo_hNw (fun _ => ?_) | refine mo_hNa (fun _ => ?_) | refine mo_hCp ?_ | refine mo_hOi ?_ | refine mo_hAl (fun _ => ?_) | refine mo_hWl ?_ | refine mo_gd ?_ | refine mo_sLn (fun _ => ?_) | refine mo_sAt (fun _ => ?_) | refine mo_kLn (fun _ => ?_) | refine mo_kAt (fun _ => ?_))
set_option maxRecDepth 10000 in
theorem sc_X11_settle_J67 {g : Gm Hp Unit} (B : Bx g cX11_settle 4 RX11 voV none 6 161 "settle") {l0 : Nat} : Sm g 4 67 [] [] (C_X11_settle_J67 l0) := by
  unfold C_X11_settle_J67
  exact s_vret B.1.1 B.2.2.2.2 dX11_settle_67
def C_X11_settle_J55 (l0 : Nat) : Hp → Option (Unit × Hp) :=
  rt ()
set_option maxRecDepth 10000 in
theorem mo_C_X11_settle_J55 (l0 : Nat) : Mo (C_X11_settle_J55 l0) := by
  unfold C_X11_settle_J55
  repeat' (with_reducible first | assumption | exact mo_rt _ | exact mo_zt _ | exact mo_no | refine mo_ite ?_ ?_ | refine mo_hgI (fun _ => ?_) | refine mo_hgR (fun _ => ?_) | refine mo_hCv (fun _ => ?_) (fun _ => ?_) | refine mo_lq (fun _ => ?_) | refine mo_hpI ?_ | refine mo_hpR ?_ | refine mo_hAi (fun _ => ?_) | refine mo_hAr (fun _ => ?_) | refine mo_hWi ?_ | refine mo_hWr ?_ | refine mo_hLn (fun _ => ?_) | refine mo_hgL (fun _ => ?_) | refine mo_hpL ?_ | refine mo_hpZ ?_ | refine mo_bd ?_ (fun _ => ?_) | refine mo_hCi (fun _ => ?_) (fun _ => ?_) | refine mo_hNw (fun _ => ?_) | refine mo_hNa (fun _ => ?_) | refine mo_hCp ?_ | refine mo_hOi ?_ | refine mo_hAl (fun _ => ?_) | refine mo_hWl ?_ | refine mo_gd ?_ | refine mo_sLn (fun _ => ?_) | refine mo_sAt (fun _ => ?_) | refine mo_kLn (fun _ => ?_) | refine mo_kAt (fun _ => ?_))
set_option maxRecDepth 10000 in
theorem sc_X11_settle_J55 {g : Gm Hp Unit} (B : Bx g cX11_settle 4 RX11 voV none 6 161 "settle") {l0 : Nat} : Sm g 4 55 [] [] (C_X11_settle_J55 l0) := by
  unfold C_X11_settle_J55
  exact s_vret B.1.1 B.2.2.2.2 dX11_settle_55
def C_X11_settle_J51 (l0 : Nat) (kb : Int32 → Hp → Option (Unit × Hp)) (ke55 : Hp → Option (Unit × Hp)) (ke67 : Hp → Option (Unit × Hp)) (l1 : Int32) (l2 : Option Nat) : Hp → Option (Unit × Hp) :=
  if l2 = none then (
    ke55
  ) else (
    hCv 13 (some l0) (fun a => C_X11_lost a l2) fun r1 =>
    kb (l1 + 1)
  )
set_option maxRecDepth 10000 in
theorem mo_C_X11_settle_J51 (l0 : Nat) (kb : Int32 → Hp → Option (Unit × Hp)) (ke55 : Hp → Option (Unit × Hp)) (ke67 : Hp → Option (Unit × Hp)) (hkb : ∀ (l1 : Int32), Mo (kb l1)) (hke55 : Mo (ke55)) (hke67 : Mo (ke67)) (l1 : Int32) (l2 : Option Nat) : Mo (C_X11_settle_J51 l0 kb ke55 ke67 l1 l2) := by
  unfold C_X11_settle_J51
  repeat' (with_reducible first | assumption | exact mo_rt _ | exact mo_zt _ | exact mo_no | apply mo_C_X11_lost | apply hkb | apply hke55 | apply hke67 | refine mo_ite ?_ ?_ | refine mo_hgI (fun _ => ?_) | refine mo_hgR (fun _ => ?_) | refine mo_hCv (fun _ => ?_) (fun _ => ?_) | refine mo_lq (fun _ => ?_) | refine mo_hpI ?_ | refine mo_hpR ?_ | refine mo_hAi (fun _ => ?_) | refine mo_hAr (fun _ => ?_) | refine mo_hWi ?_ | refine mo_hWr ?_ | refine mo_hLn (fun _ => ?_) | refine mo_hgL (fun _ => ?_) | refine mo_hpL ?_ | refine mo_hpZ ?_ | refine mo_bd ?_ (fun _ => ?_) | refine mo_hCi (fun _ => ?_) (fun _ => ?_) | refine mo_hNw (fun _ => ?_) | refine mo_hNa (fun _ => ?_) | refine mo_hCp ?_ | refine mo_hOi ?_ | refine mo_hAl (fun _ => ?_) | refine mo_hWl ?_ | refine mo_gd ?_ | refine mo_sLn (fun _ => ?_) | refine mo_sAt (fun _ => ?_) | refine mo_kLn (fun _ => ?_) | refine mo_kAt (fun _ => ?_))
set_option maxRecDepth 10000 in
theorem sc_X11_settle_J51 {g : Gm Hp Unit} {kb : Int32 → Hp → Option (Unit × Hp)} {ke55 : Hp → Option (Unit × Hp)} {ke67 : Hp → Option (Unit × Hp)} (B : Bx g cX11_settle 4 RX11 voV none 6 161 "settle") {l0 : Nat} (hkb : ∀ (l1 : Int32), Sm g 4 2 [(0, va_rf (some l0)), (1, .int l1)] [] (kb l1)) (hke55 : Sm g 4 55 [] [] (ke55)) (hke67 : Sm g 4 67 [] [] (ke67)) (l1 : Int32) (l2 : Option Nat) : Sm g 4 51 [(0, va_rf (some l0)), (1, .int l1), (2, va_rf l2)] [] (C_X11_settle_J51 l0 kb ke55 ke67 l1 l2) := by
  unfold C_X11_settle_J51
  refine s_rload_n B.1.1 2 dX11_settle_51 rfl rfl ?_
  refine s_ifnonnull B.1.1 56 dX11_settle_52 (by decide) ?_ ?_
  · refine s_rload_n B.1.1 0 dX11_settle_56 rfl rfl ?_
    refine s_rload_n B.1.1 2 dX11_settle_57 rfl rfl ?_
    refine hp_cvv (As := [va_rf l2]) (st := []) 13 rfl (by decide) B.1 (fun a => mC_X11_lost B.2.1 a l2) cc_X11_lost cl_X11_103 cn_X11_lost ce_X11_lost ci_X11 cd_X11_lost (by decide) rfl (Nat.le_of_ble_eq_true rfl) dX11_settle_58 (fun r1 => ?_)
    refine s_iinc (v := l1 + 1) (lv' := [(1, .int (l1 + 1)), (0, va_rf (some l0)), (2, va_rf l2)]) B.1.1 1 dX11_settle_61 rfl rfl (by decide) rfl ?_
    refine s_goto B.1.1 2 dX11_settle_64 (by decide) ?_
    exact Sm.lvs [1, 0] rfl (hkb (l1 + 1))
  · exact Sm.lvs [] rfl (hke55)
def C_X11_settle_J44 (l0 : Nat) (kb : Int32 → Option Nat → Int32 → Hp → Option (Unit × Hp)) (ke51 : Int32 → Option Nat → Hp → Option (Unit × Hp)) (l1 : Int32) (l3 : Int32) (s0 : Option Nat) : Hp → Option (Unit × Hp) :=
  kb l1 s0 (l3 + 1)
set_option maxRecDepth 10000 in
theorem mo_C_X11_settle_J44 (l0 : Nat) (kb : Int32 → Option Nat → Int32 → Hp → Option (Unit × Hp)) (ke51 : Int32 → Option Nat → Hp → Option (Unit × Hp)) (hkb : ∀ (l1 : Int32) (l2 : Option Nat) (l3 : Int32), Mo (kb l1 l2 l3)) (hke51 : ∀ (l1 : Int32) (l2 : Option Nat), Mo (ke51 l1 l2)) (l1 : Int32) (l3 : Int32) (s0 : Option Nat) : Mo (C_X11_settle_J44 l0 kb ke51 l1 l3 s0) := by
  unfold C_X11_settle_J44
  repeat' (with_reducible first | assumption | exact mo_rt _ | exact mo_zt _ | exact mo_no | apply hkb | apply hke51 | refine mo_ite ?_ ?_ | refine mo_hgI (fun _ => ?_) | refine mo_hgR (fun _ => ?_) | refine mo_hCv (fun _ => ?_) (fun _ => ?_) | refine mo_lq (fun _ => ?_) | refine mo_hpI ?_ | refine mo_hpR ?_ | refine mo_hAi (fun _ => ?_) | refine mo_hAr (fun _ => ?_) | refine mo_hWi ?_ | refine mo_hWr ?_ | refine mo_hLn (fun _ => ?_) | refine mo_hgL (fun _ => ?_) | refine mo_hpL ?_ | refine mo_hpZ ?_ | refine mo_bd ?_ (fun _ => ?_) | refine mo_hCi (fun _ => ?_) (fun _ => ?_) | refine mo_hNw (fun _ => ?_) | refine mo_hNa (fun _ => ?_) | refine mo_hCp ?_ | refine mo_hOi ?_ | refine mo_hAl (fun _ => ?_) | refine mo_hWl ?_ | refine mo_gd ?_ | refine mo_sLn (fun _ => ?_) | refine mo_sAt (fun _ => ?_) | refine mo_kLn (fun _ => ?_) | refine mo_kAt (fun _ => ?_))
set_option maxRecDepth 10000 in
theorem sc_X11_settle_J44 {g : Gm Hp Unit} {kb : Int32 → Option Nat → Int32 → Hp → Option (Unit × Hp)} {ke51 : Int32 → Option Nat → Hp → Option (Unit × Hp)} (B : Bx g cX11_settle 4 RX11 voV none 6 161 "settle") {l0 : Nat} (hkb : ∀ (l1 : Int32) (l2 : Option Nat) (l3 : Int32), Sm g 4 12 [(0, va_rf (some l0)), (1, .int l1), (2, va_rf l2), (3, .int l3)] [] (kb l1 l2 l3)) (hke51 : ∀ (l1 : Int32) (l2 : Option Nat), Sm g 4 51 [(0, va_rf (some l0)), (1, .int l1), (2, va_rf l2)] [] (ke51 l1 l2)) (l1 : Int32) (l3 : Int32) (s0 : Option Nat) : Sm g 4 44 [(0, va_rf (some l0)), (1, .int l1), (3, .int l3)] [va_rf s0] (C_X11_settle_J44 l0 kb ke51 l1 l3 s0) := by
  unfold C_X11_settle_J44
  refine s_rstore_n (i := 2) (lv' := [(2, va_rf s0), (0, va_rf (some l0)), (1, .int l1), (3, .int l3)]) B.1.1 dX11_settle_44 rfl (by decide) rfl ?_
  refine s_iinc (v := l3 + 1) (lv' := [(3, .int (l3 + 1)), (2, va_rf s0), (0, va_rf (some l0)), (1, .int l1)]) B.1.1 3 dX11_settle_45 rfl rfl (by decide) (by simp [va_rf_cat, cat_i, cat_l, cat_r]) ?_
  refine s_goto B.1.1 12 dX11_settle_48 (by decide) ?_
  exact Sm.lvs [2, 3, 1, 0] rfl (hkb l1 s0 (l3 + 1))
def C_X11_settle_B12 (l0 : Nat) (kb : Int32 → Option Nat → Int32 → Hp → Option (Unit × Hp)) (ke51 : Int32 → Option Nat → Hp → Option (Unit × Hp)) (l1 : Int32) (l2 : Option Nat) (l3 : Int32) : Hp → Option (Unit × Hp) :=
  if (8 : Int32) ≤ l3 then (
    ke51 l1 l2
  ) else (
    if l2 = none then (
      hgR 13 0 (some l0) fun v2 =>
      hAr 4 v2 l3 fun v3 =>
      hgI 2 5 v3 fun v4 =>
      if v4 = 0 then (
        C_X11_settle_J44 l0 kb ke51 l1 l3 none
      ) else (
        hgR 13 0 (some l0) fun v5 =>
        hAr 4 v5 l3 fun v6 =>
        C_X11_settle_J44 l0 kb ke51 l1 l3 v6
      )
    ) else (
      ke51 l1 l2
    )
  )
def C_X11_settle_L12 (l0 : Nat) (ke51 : Int32 → Option Nat → Hp → Option (Unit × Hp)) : Nat → Int32 → Option Nat → Int32 → Hp → Option (Unit × Hp)
  | 0, _, _, _ => no
  | n + 1, l1, l2, l3 => C_X11_settle_B12 l0 (fun l1 l2 l3 => C_X11_settle_L12 l0 ke51 n l1 l2 l3) ke51 l1 l2 l3
set_option maxRecDepth 10000 in
theorem mo_C_X11_settle_B12 (l0 : Nat) (kb : Int32 → Option Nat → Int32 → Hp → Option (Unit × Hp)) (ke51 : Int32 → Option Nat → Hp → Option (Unit × Hp)) (hkb : ∀ (l1 : Int32) (l2 : Option Nat) (l3 : Int32), Mo (kb l1 l2 l3)) (hke51 : ∀ (l1 : Int32) (l2 : Option Nat), Mo (ke51 l1 l2)) (l1 : Int32) (l2 : Option Nat) (l3 : Int32) : Mo (C_X11_settle_B12 l0 kb ke51 l1 l2 l3) := by
  unfold C_X11_settle_B12
  repeat' (with_reducible first | assumption | exact mo_rt _ | exact mo_zt _ | exact mo_no | apply mo_C_X11_settle_J44 | apply hkb | apply hke51 | refine mo_ite ?_ ?_ | refine mo_hgI (fun _ => ?_) | refine mo_hgR (fun _ => ?_) | refine mo_hCv (fun _ => ?_) (fun _ => ?_) | refine mo_lq (fun _ => ?_) | refine mo_hpI ?_ | refine mo_hpR ?_ | refine mo_hAi (fun _ => ?_) | refine mo_hAr (fun _ => ?_) | refine mo_hWi ?_ | refine mo_hWr ?_ | refine mo_hLn (fun _ => ?_) | refine mo_hgL (fun _ => ?_) | refine mo_hpL ?_ | refine mo_hpZ ?_ | refine mo_bd ?_ (fun _ => ?_) | refine mo_hCi (fun _ => ?_) (fun _ => ?_) | refine mo_hNw (fun _ => ?_) | refine mo_hNa (fun _ => ?_) | refine mo_hCp ?_ | refine mo_hOi ?_ | refine mo_hAl (fun _ => ?_) | refine mo_hWl ?_ | refine mo_gd ?_ | refine mo_sLn (fun _ => ?_) | refine mo_sAt (fun _ => ?_) | refine mo_kLn (fun _ => ?_) | refine mo_kAt (fun _ => ?_))
set_option maxRecDepth 10000 in
theorem mo_C_X11_settle_L12 (l0 : Nat) (ke51 : Int32 → Option Nat → Hp → Option (Unit × Hp)) (hke51 : ∀ (l1 : Int32) (l2 : Option Nat), Mo (ke51 l1 l2)) : ∀ (n : Nat) (l1 : Int32) (l2 : Option Nat) (l3 : Int32), Mo (C_X11_settle_L12 l0 ke51 n l1 l2 l3)
  | 0, _, _, _ => mo_no
  | n + 1, l1, l2, l3 => mo_C_X11_settle_B12 l0 _ ke51 (mo_C_X11_settle_L12 l0 ke51 hke51 n) hke51 l1 l2 l3
set_option maxRecDepth 10000 in
theorem sc_X11_settle_B12 {g : Gm Hp Unit} {kb : Int32 → Option Nat → Int32 → Hp → Option (Unit × Hp)} {ke51 : Int32 → Option Nat → Hp → Option (Unit × Hp)} (B : Bx g cX11_settle 4 RX11 voV none 6 161 "settle") {l0 : Nat} (hkb : ∀ (l1 : Int32) (l2 : Option Nat) (l3 : Int32), Sm g 4 12 [(0, va_rf (some l0)), (1, .int l1), (2, va_rf l2), (3, .int l3)] [] (kb l1 l2 l3)) (hke51 : ∀ (l1 : Int32) (l2 : Option Nat), Sm g 4 51 [(0, va_rf (some l0)), (1, .int l1), (2, va_rf l2)] [] (ke51 l1 l2)) (l1 : Int32) (l2 : Option Nat) (l3 : Int32) : Sm g 4 12 [(0, va_rf (some l0)), (1, .int l1), (2, va_rf l2), (3, .int l3)] [] (C_X11_settle_B12 l0 kb ke51 l1 l2 l3) := by
  unfold C_X11_settle_B12
  refine s_iload_n B.1.1 3 dX11_settle_12 rfl rfl ?_
  refine s_bipush (v := (8)) B.1.1 dX11_settle_13 (by decide) ?_
  refine s_icmp_ge B.1.1 51 dX11_settle_15 (by decide) ?_ ?_
  · exact Sm.lvs [0, 1, 2] rfl (hke51 l1 l2)
  · refine s_rload_n B.1.1 2 dX11_settle_18 rfl rfl ?_
    refine s_ifnonnull B.1.1 51 dX11_settle_19 (by decide) ?_ ?_
    · exact Sm.lvs [0, 1, 2] rfl (hke51 l1 l2)
    · refine s_rload_n B.1.1 0 dX11_settle_22 rfl rfl ?_
      refine hp_getR B.1 13 0 rfl (by decide) inX11 (by decide) fk_X11_0 cf_X11_11 dX11_settle_23 (fun v2 => ?_)
      refine s_iload_n B.1.1 3 dX11_settle_26 rfl rfl ?_
      refine hp_Ar B.1 4 (by decide) (fun _ => rfl) dX11_settle_27 (fun v3 => ?_)
      refine hp_getI B.1 2 5 rfl (by decide) inX0 (by decide) fk_X0_5.1 fk_X0_5.2 cf_X11_619 dX11_settle_28 (fun v4 => ?_)
      refine s_if_eq B.1.1 43 dX11_settle_31 (by decide) ?_ ?_
      · refine s_null B.1.1 dX11_settle_43 ?_
        exact Sm.lvs [0, 1, 3] rfl (sc_X11_settle_J44 B hkb hke51 l1 l3 none)
      · refine s_rload_n B.1.1 0 dX11_settle_34 rfl rfl ?_
        refine hp_getR B.1 13 0 rfl (by decide) inX11 (by decide) fk_X11_0 cf_X11_11 dX11_settle_35 (fun v5 => ?_)
        refine s_iload_n B.1.1 3 dX11_settle_38 rfl rfl ?_
        refine hp_Ar B.1 4 (by decide) (fun _ => rfl) dX11_settle_39 (fun v6 => ?_)
        refine s_goto B.1.1 44 dX11_settle_40 (by decide) ?_
        exact Sm.lvs [0, 1, 3] rfl (sc_X11_settle_J44 B hkb hke51 l1 l3 v6)
set_option maxRecDepth 10000 in
theorem sc_X11_settle_L12 {g : Gm Hp Unit} {ke51 : Int32 → Option Nat → Hp → Option (Unit × Hp)} (B : Bx g cX11_settle 4 RX11 voV none 6 161 "settle") {l0 : Nat} (hke51 : ∀ (l1 : Int32) (l2 : Option Nat), Sm g 4 51 [(0, va_rf (some l0)), (1, .int l1), (2, va_rf l2)] [] (ke51 l1 l2)) : ∀ (n : Nat) (l1 : Int32) (l2 : Option Nat) (l3 : Int32), Sm g 4 12 [(0, va_rf (some l0)), (1, .int l1), (2, va_rf l2), (3, .int l3)] [] (C_X11_settle_L12 l0 ke51 n l1 l2 l3)
  | 0, _, _, _ => Sm.fail
  | n + 1, l1, l2, l3 => sc_X11_settle_B12 B (sc_X11_settle_L12 B hke51 n) hke51 l1 l2 l3
def C_X11_settle_B2 (l0 : Nat) (kb : Int32 → Hp → Option (Unit × Hp)) (ke55 : Hp → Option (Unit × Hp)) (ke67 : Hp → Option (Unit × Hp)) (l1 : Int32) : Hp → Option (Unit × Hp) :=
  if (8 : Int32) ≤ l1 then (
    ke67
  ) else (
    C_X11_settle_L12 l0 (fun l1 l2 => C_X11_settle_J51 l0 kb ke55 ke67 l1 l2) fu l1 none (0 : Int32)
  )
def C_X11_settle_L2 (l0 : Nat) (ke55 : Hp → Option (Unit × Hp)) (ke67 : Hp → Option (Unit × Hp)) : Nat → Int32 → Hp → Option (Unit × Hp)
  | 0, _ => no
  | n + 1, l1 => C_X11_settle_B2 l0 (fun l1 => C_X11_settle_L2 l0 ke55 ke67 n l1) ke55 ke67 l1
set_option maxRecDepth 10000 in
theorem mo_C_X11_settle_B2 (l0 : Nat) (kb : Int32 → Hp → Option (Unit × Hp)) (ke55 : Hp → Option (Unit × Hp)) (ke67 : Hp → Option (Unit × Hp)) (hkb : ∀ (l1 : Int32), Mo (kb l1)) (hke55 : Mo (ke55)) (hke67 : Mo (ke67)) (l1 : Int32) : Mo (C_X11_settle_B2 l0 kb ke55 ke67 l1) := by
  unfold C_X11_settle_B2
  repeat' (with_reducible first | assumption | exact mo_rt _ | exact mo_zt _ | exact mo_no | apply mo_C_X11_settle_L12 | apply mo_C_X11_settle_J51 | apply hkb | apply hke55 | apply hke67 | refine mo_ite ?_ ?_ | refine mo_hgI (fun _ => ?_) | refine mo_hgR (fun _ => ?_) | refine mo_hCv (fun _ => ?_) (fun _ => ?_) | refine mo_lq (fun _ => ?_) | refine mo_hpI ?_ | refine mo_hpR ?_ | refine mo_hAi (fun _ => ?_) | refine mo_hAr (fun _ => ?_) | refine mo_hWi ?_ | refine mo_hWr ?_ | refine mo_hLn (fun _ => ?_) | refine mo_hgL (fun _ => ?_) | refine mo_hpL ?_ | refine mo_hpZ ?_ | refine mo_bd ?_ (fun _ => ?_) | refine mo_hCi (fun _ => ?_) (fun _ => ?_) | refine mo_hNw (fun _ => ?_) | refine mo_hNa (fun _ => ?_) | refine mo_hCp ?_ | refine mo_hOi ?_ | refine mo_hAl (fun _ => ?_) | refine mo_hWl ?_ | refine mo_gd ?_ | refine mo_sLn (fun _ => ?_) | refine mo_sAt (fun _ => ?_) | refine mo_kLn (fun _ => ?_) | refine mo_kAt (fun _ => ?_))
set_option maxRecDepth 10000 in
theorem mo_C_X11_settle_L2 (l0 : Nat) (ke55 : Hp → Option (Unit × Hp)) (ke67 : Hp → Option (Unit × Hp)) (hke55 : Mo (ke55)) (hke67 : Mo (ke67)) : ∀ (n : Nat) (l1 : Int32), Mo (C_X11_settle_L2 l0 ke55 ke67 n l1)
  | 0, _ => mo_no
  | n + 1, l1 => mo_C_X11_settle_B2 l0 _ ke55 ke67 (mo_C_X11_settle_L2 l0 ke55 ke67 hke55 hke67 n) hke55 hke67 l1
set_option maxRecDepth 10000 in
theorem sc_X11_settle_B2 {g : Gm Hp Unit} {kb : Int32 → Hp → Option (Unit × Hp)} {ke55 : Hp → Option (Unit × Hp)} {ke67 : Hp → Option (Unit × Hp)} (B : Bx g cX11_settle 4 RX11 voV none 6 161 "settle") {l0 : Nat} (hkb : ∀ (l1 : Int32), Sm g 4 2 [(0, va_rf (some l0)), (1, .int l1)] [] (kb l1)) (hke55 : Sm g 4 55 [] [] (ke55)) (hke67 : Sm g 4 67 [] [] (ke67)) (l1 : Int32) : Sm g 4 2 [(0, va_rf (some l0)), (1, .int l1)] [] (C_X11_settle_B2 l0 kb ke55 ke67 l1) := by
  unfold C_X11_settle_B2
  refine s_iload_n B.1.1 1 dX11_settle_2 rfl rfl ?_
  refine s_bipush (v := (8)) B.1.1 dX11_settle_3 (by decide) ?_
  refine s_icmp_ge B.1.1 67 dX11_settle_5 (by decide) ?_ ?_
  · exact Sm.lvs [] rfl (hke67)
  · refine s_null B.1.1 dX11_settle_8 ?_
    refine s_rstore_n (i := 2) (lv' := [(2, va_rf none), (0, va_rf (some l0)), (1, .int l1)]) B.1.1 dX11_settle_9 rfl (by decide) rfl ?_
    refine s_iconst (v := 0) B.1.1 dX11_settle_10 (by decide) ?_
    refine s_istore_n (i := 3) (lv' := [(3, .int (0 : Int32)), (2, va_rf none), (0, va_rf (some l0)), (1, .int l1)]) B.1.1 dX11_settle_11 rfl (by decide) rfl ?_
    exact Sm.lvs [2, 3, 1, 0] rfl (sc_X11_settle_L12 B (fun l1 l2 => sc_X11_settle_J51 B hkb hke55 hke67 l1 l2) fu l1 none (0 : Int32))
set_option maxRecDepth 10000 in
theorem sc_X11_settle_L2 {g : Gm Hp Unit} {ke55 : Hp → Option (Unit × Hp)} {ke67 : Hp → Option (Unit × Hp)} (B : Bx g cX11_settle 4 RX11 voV none 6 161 "settle") {l0 : Nat} (hke55 : Sm g 4 55 [] [] (ke55)) (hke67 : Sm g 4 67 [] [] (ke67)) : ∀ (n : Nat) (l1 : Int32), Sm g 4 2 [(0, va_rf (some l0)), (1, .int l1)] [] (C_X11_settle_L2 l0 ke55 ke67 n l1)
  | 0, _ => Sm.fail
  | n + 1, l1 => sc_X11_settle_B2 B (sc_X11_settle_L2 B hke55 hke67 n) hke55 hke67 l1
def C_X11_settle (l0 : Nat) : Hp → Option (Unit × Hp) :=
  C_X11_settle_L2 l0 (C_X11_settle_J55 l0) (C_X11_settle_J67 l0) fu (0 : Int32)
set_option maxRecDepth 10000 in
theorem mo_C_X11_settle (l0 : Nat) : Mo (C_X11_settle l0) := by
  unfold C_X11_settle
  repeat' (with_reducible first | assumption | exact mo_rt _ | exact mo_zt _ | exact mo_no | apply mo_C_X11_settle_L2 | apply mo_C_X11_settle_J55 | apply mo_C_X11_settle_J67 | refine mo_ite ?_ ?_ | refine mo_hgI (fun _ => ?_) | refine mo_hgR (fun _ => ?_) | refine mo_hCv (fun _ => ?_) (fun _ => ?_) | refine mo_lq (fun _ => ?_) | refine mo_hpI ?_ | refine mo_hpR ?_ | refine mo_hAi (fun _ => ?_) | refine mo_hAr (fun _ => ?_) | refine mo_hWi ?_ | refine mo_hWr ?_ | refine mo_hLn (fun _ => ?_) | refine mo_hgL (fun _ => ?_) | refine mo_hpL ?_ | refine mo_hpZ ?_ | refine mo_bd ?_ (fun _ => ?_) | refine mo_hCi (fun _ => ?_) (fun _ => ?_) | refine mo_hNw (fun _ => ?_) | refine mo_hNa (fun _ => ?_) | refine mo_hCp ?_ | refine mo_hOi ?_ | refine mo_hAl (fun _ => ?_) | refine mo_hWl ?_ | refine mo_gd ?_ | refine mo_sLn (fun _ => ?_) | refine mo_sAt (fun _ => ?_) | refine mo_kLn (fun _ => ?_) | refine mo_kAt (fun _ => ?_))
set_option maxRecDepth 10000 in
theorem mC_X11_settle {w : Wd} (hw : Wc w) (l0 : Nat) : MH w yX11_settle cX11_settle 4 none 6 161 voV [va_rf (some l0)] (C_X11_settle l0) := by
  have M0 : ∀ g : Gm Hp Unit, g.1 = w → Bx g cX11_settle 4 RX11 voV none 6 161 "settle" → Sm g 4 0 (lv_args 0 [va_rf (some l0)]) [] (C_X11_settle l0) := by
    intro g hg B
    subst hg
    unfold C_X11_settle
    refine W_lva (lv := [(0, va_rf (some l0))]) (by simp [lv_args, va_rf_cat, cat_i, cat_l, cat_r]) ?_
    refine s_iconst (v := 0) B.1.1 dX11_settle_0 (by decide) ?_
    refine s_istore_n (i := 1) (lv' := [(1, .int (0 : Int32)), (0, va_rf (some l0))]) B.1.1 dX11_settle_1 rfl (by decide) rfl ?_
    exact Sm.lvs [1, 0] rfl (sc_X11_settle_L2 B (sc_X11_settle_J55 B) (sc_X11_settle_J67 B) fu (0 : Int32))
  exact MH.of hw ⟨rfl, rfl⟩ (by decide) (by simp [lg_sl, va_rf_cat, cat_i, cat_l, cat_r]) (mo_C_X11_settle l0) M0
def C_X0_drop (l0 : Nat) (l1 : Int32) : Hp → Option (Unit × Hp) :=
  hgI 2 4 (some l0) fun v1 =>
  hpI 2 4 (some l0) (v1 - l1) <|
  hgR 2 3 (some l0) fun v2 =>
  hgR 2 3 (some l0) fun v3 =>
  hgI 2 4 (some l0) fun v4 =>
  hCp v2 l1 v3 (0 : Int32) v4 <|
  rt ()
set_option maxRecDepth 10000 in
theorem mo_C_X0_drop (l0 : Nat) (l1 : Int32) : Mo (C_X0_drop l0 l1) := by
  unfold C_X0_drop
  repeat' (with_reducible first | assumption | exact mo_rt _ | exact mo_zt _ | exact mo_no | refine mo_ite ?_ ?_ | refine mo_hgI (fun _ => ?_) | refine mo_hgR (fun _ => ?_) | refine mo_hCv (fun _ => ?_) (fun _ => ?_) | refine mo_lq (fun _ => ?_) | refine mo_hpI ?_ | refine mo_hpR ?_ | refine mo_hAi (fun _ => ?_) | refine mo_hAr (fun _ => ?_) | refine mo_hWi ?_ | refine mo_hWr ?_ | refine mo_hLn (fun _ => ?_) | refine mo_hgL (fun _ => ?_) | refine mo_hpL ?_ | refine mo_hpZ ?_ | refine mo_bd ?_ (fun _ => ?_) | refine mo_hCi (fun _ => ?_) (fun _ => ?_) | refine mo_hNw (fun _ => ?_) | refine mo_hNa (fun _ => ?_) | refine mo_hCp ?_ | refine mo_hOi ?_ | refine mo_hAl (fun _ => ?_) | refine mo_hWl ?_ | refine mo_gd ?_ | refine mo_sLn (fun _ => ?_) | refine mo_sAt (fun _ => ?_) | refine mo_kLn (fun _ => ?_) | refine mo_kAt (fun _ => ?_))
set_option maxRecDepth 10000 in
theorem mC_X0_drop {w : Wd} (hw : Wc w) (l0 : Nat) (l1 : Int32) : MH w yX0_drop cX0_drop 2 none 1 40 voV [va_rf (some l0), .int l1] (C_X0_drop l0 l1) := by
  have M0 : ∀ g : Gm Hp Unit, g.1 = w → Bx g cX0_drop 2 RX0 voV none 1 40 "drop" → Sm g 2 0 (lv_args 0 [va_rf (some l0), .int l1]) [] (C_X0_drop l0 l1) := by
    intro g hg B
    subst hg
    unfold C_X0_drop
    refine W_lva (lv := [(0, va_rf (some l0)), (1, .int l1)]) (by simp [lv_args, va_rf_cat, cat_i, cat_l, cat_r]) ?_
    refine s_rload_n B.1.1 0 dX0_drop_0 rfl rfl ?_
    refine s_dup B.1.1 dX0_drop_1 rfl ?_
    refine hp_getI B.1 2 4 rfl (by decide) inX0 (by decide) fk_X0_4.1 fk_X0_4.2 cf_X0_32 dX0_drop_2 (fun v1 => ?_)
    refine s_iload_n B.1.1 1 dX0_drop_5 rfl rfl ?_
    refine s_isub B.1.1 dX0_drop_6 ?_
    refine hp_putI B.1 2 4 rfl (by decide) inX0 tyX0 tyX0_ok nmX0 (by decide) fk_X0_4.1 fk_X0_4.2 ft_X0_4 rfl cf_X0_32 dX0_drop_7 ?_
    refine s_rload_n B.1.1 0 dX0_drop_10 rfl rfl ?_
    refine hp_getR B.1 2 3 rfl (by decide) inX0 (by decide) fk_X0_3 cf_X0_9 dX0_drop_11 (fun v2 => ?_)
    refine s_iload_n B.1.1 1 dX0_drop_14 rfl rfl ?_
    refine s_rload_n B.1.1 0 dX0_drop_15 rfl rfl ?_
    refine hp_getR B.1 2 3 rfl (by decide) inX0 (by decide) fk_X0_3 cf_X0_9 dX0_drop_16 (fun v3 => ?_)
    refine s_iconst (v := 0) B.1.1 dX0_drop_19 (by decide) ?_
    refine s_rload_n B.1.1 0 dX0_drop_20 rfl rfl ?_
    refine hp_getI B.1 2 4 rfl (by decide) inX0 (by decide) fk_X0_4.1 fk_X0_4.2 cf_X0_32 dX0_drop_21 (fun v4 => ?_)
    refine hp_Cp B.1 tw_1019 (by decide) (Nat.le_of_ble_eq_true rfl) dX0_drop_24 ?_
    exact s_vret B.1.1 B.2.2.2.2 dX0_drop_27
  exact MH.of hw ⟨rfl, rfl⟩ (by decide) (by simp [lg_sl, va_rf_cat, cat_i, cat_l, cat_r]) (mo_C_X0_drop l0 l1) M0
def C_X0_quietUntil_J17 (l0 : Nat) : Hp → Option (Int64 × Hp) :=
  rt ((1099511627776 : Int64))
set_option maxRecDepth 10000 in
theorem mo_C_X0_quietUntil_J17 (l0 : Nat) : Mo (C_X0_quietUntil_J17 l0) := by
  unfold C_X0_quietUntil_J17
  repeat' (with_reducible first | assumption | exact mo_rt _ | exact mo_zt _ | exact mo_no | refine mo_ite ?_ ?_ | refine mo_hgI (fun _ => ?_) | refine mo_hgR (fun _ => ?_) | refine mo_hCv (fun _ => ?_) (fun _ => ?_) | refine mo_lq (fun _ => ?_) | refine mo_hpI ?_ | refine mo_hpR ?_ | refine mo_hAi (fun _ => ?_) | refine mo_hAr (fun _ => ?_) | refine mo_hWi ?_ | refine mo_hWr ?_ | refine mo_hLn (fun _ => ?_) | refine mo_hgL (fun _ => ?_) | refine mo_hpL ?_ | refine mo_hpZ ?_ | refine mo_bd ?_ (fun _ => ?_) | refine mo_hCi (fun _ => ?_) (fun _ => ?_) | refine mo_hNw (fun _ => ?_) | refine mo_hNa (fun _ => ?_) | refine mo_hCp ?_ | refine mo_hOi ?_ | refine mo_hAl (fun _ => ?_) | refine mo_hWl ?_ | refine mo_gd ?_ | refine mo_sLn (fun _ => ?_) | refine mo_sAt (fun _ => ?_) | refine mo_kLn (fun _ => ?_) | refine mo_kAt (fun _ => ?_))
set_option maxRecDepth 10000 in
theorem sc_X0_quietUntil_J17 {g : Gm Hp Int64} (B : Bx g cX0_quietUntil 1 RX0 voL (some .long) 0 0 "quietUntil") {l0 : Nat} : Sm g 1 17 [] [] (C_X0_quietUntil_J17 l0) := by
  unfold C_X0_quietUntil_J17
  refine s_ldc2 (v := (1099511627776)) B.1.1 tw_1469 dX0_quietUntil_17 ?_
  exact s_lret B.1.1 B.2.2.2.2 dX0_quietUntil_20
def C_X0_quietUntil (l0 : Nat) : Hp → Option (Int64 × Hp) :=
  hgR 2 2 (some l0) fun v1 =>
  if v1 = none then (
    C_X0_quietUntil_J17 l0
  ) else (
    hgR 2 2 (some l0) fun v2 =>
    hgI 10 16 v2 fun v3 =>
    if v3 = 0 then (
      C_X0_quietUntil_J17 l0
    ) else (
      hgI 2 12 (some l0) fun v4 =>
      hgR 2 2 (some l0) fun v5 =>
      hgI 10 16 v5 fun v6 =>
      rt (v4.toInt64 + ((v6.toInt64 * (3 : Int64)) / (2 : Int64)))
    )
  )
set_option maxRecDepth 10000 in
theorem mo_C_X0_quietUntil (l0 : Nat) : Mo (C_X0_quietUntil l0) := by
  unfold C_X0_quietUntil
  repeat' (with_reducible first | assumption | exact mo_rt _ | exact mo_zt _ | exact mo_no | apply mo_C_X0_quietUntil_J17 | refine mo_ite ?_ ?_ | refine mo_hgI (fun _ => ?_) | refine mo_hgR (fun _ => ?_) | refine mo_hCv (fun _ => ?_) (fun _ => ?_) | refine mo_lq (fun _ => ?_) | refine mo_hpI ?_ | refine mo_hpR ?_ | refine mo_hAi (fun _ => ?_) | refine mo_hAr (fun _ => ?_) | refine mo_hWi ?_ | refine mo_hWr ?_ | refine mo_hLn (fun _ => ?_) | refine mo_hgL (fun _ => ?_) | refine mo_hpL ?_ | refine mo_hpZ ?_ | refine mo_bd ?_ (fun _ => ?_) | refine mo_hCi (fun _ => ?_) (fun _ => ?_) | refine mo_hNw (fun _ => ?_) | refine mo_hNa (fun _ => ?_) | refine mo_hCp ?_ | refine mo_hOi ?_ | refine mo_hAl (fun _ => ?_) | refine mo_hWl ?_ | refine mo_gd ?_ | refine mo_sLn (fun _ => ?_) | refine mo_sAt (fun _ => ?_) | refine mo_kLn (fun _ => ?_) | refine mo_kAt (fun _ => ?_))
set_option maxRecDepth 10000 in
theorem mC_X0_quietUntil {w : Wd} (hw : Wc w) (l0 : Nat) : MH w yX0_quietUntil cX0_quietUntil 1 (some .long) 0 0 voL [va_rf (some l0)] (C_X0_quietUntil l0) := by
  have M0 : ∀ g : Gm Hp Int64, g.1 = w → Bx g cX0_quietUntil 1 RX0 voL (some .long) 0 0 "quietUntil" → Sm g 1 0 (lv_args 0 [va_rf (some l0)]) [] (C_X0_quietUntil l0) := by
    intro g hg B
    subst hg
    unfold C_X0_quietUntil
    refine W_lva (lv := [(0, va_rf (some l0))]) (by simp [lv_args, va_rf_cat, cat_i, cat_l, cat_r]) ?_
    refine s_rload_n B.1.1 0 dX0_quietUntil_0 rfl rfl ?_
    refine hp_getR B.1 2 2 rfl (by decide) inX0 (by decide) fk_X0_2 cf_X0_35 dX0_quietUntil_1 (fun v1 => ?_)
    refine s_ifnull B.1.1 17 dX0_quietUntil_4 (by decide) ?_ ?_
    · exact Sm.lvs [] rfl (sc_X0_quietUntil_J17 B)
    · refine s_rload_n B.1.1 0 dX0_quietUntil_7 rfl rfl ?_
      refine hp_getR B.1 2 2 rfl (by decide) inX0 (by decide) fk_X0_2 cf_X0_35 dX0_quietUntil_8 (fun v2 => ?_)
      refine hp_getI B.1 10 16 rfl (by decide) inX8 (by decide) fk_X8_16.1 fk_X8_16.2 cf_X0_81 dX0_quietUntil_11 (fun v3 => ?_)
      refine s_if_ne B.1.1 21 dX0_quietUntil_14 (by decide) ?_ ?_
      · refine s_rload_n B.1.1 0 dX0_quietUntil_21 rfl rfl ?_
        refine hp_getI B.1 2 12 rfl (by decide) inX0 (by decide) fk_X0_12.1 fk_X0_12.2 cf_X0_88 dX0_quietUntil_22 (fun v4 => ?_)
        refine s_i2l B.1.1 dX0_quietUntil_25 ?_
        refine s_rload_n B.1.1 0 dX0_quietUntil_26 rfl rfl ?_
        refine hp_getR B.1 2 2 rfl (by decide) inX0 (by decide) fk_X0_2 cf_X0_35 dX0_quietUntil_27 (fun v5 => ?_)
        refine hp_getI B.1 10 16 rfl (by decide) inX8 (by decide) fk_X8_16.1 fk_X8_16.2 cf_X0_81 dX0_quietUntil_30 (fun v6 => ?_)
        refine s_i2l B.1.1 dX0_quietUntil_33 ?_
        refine s_ldc2 (v := (3)) B.1.1 tw_1470 dX0_quietUntil_34 ?_
        refine s_lmul B.1.1 dX0_quietUntil_37 ?_
        refine s_ldc2 (v := (2)) B.1.1 tw_1471 dX0_quietUntil_38 ?_
        refine s_ldiv B.1.1 dX0_quietUntil_41 (by decide) ?_
        refine s_ladd B.1.1 dX0_quietUntil_42 ?_
        exact s_lret B.1.1 B.2.2.2.2 dX0_quietUntil_43
      · exact Sm.lvs [] rfl (sc_X0_quietUntil_J17 B)
  exact MH.of hw ⟨rfl, rfl⟩ (by decide) (by simp [lg_sl, va_rf_cat, cat_i, cat_l, cat_r]) (mo_C_X0_quietUntil l0) M0
def C_X8_endTime_J18 (l0 : Nat) : Hp → Option (Int64 × Hp) :=
  rt ((1099511627776 : Int64))
set_option maxRecDepth 10000 in
theorem mo_C_X8_endTime_J18 (l0 : Nat) : Mo (C_X8_endTime_J18 l0) := by
  unfold C_X8_endTime_J18
  repeat' (with_reducible first | assumption | exact mo_rt _ | exact mo_zt _ | exact mo_no | refine mo_ite ?_ ?_ | refine mo_hgI (fun _ => ?_) | refine mo_hgR (fun _ => ?_) | refine mo_hCv (fun _ => ?_) (fun _ => ?_) | refine mo_lq (fun _ => ?_) | refine mo_hpI ?_ | refine mo_hpR ?_ | refine mo_hAi (fun _ => ?_) | refine mo_hAr (fun _ => ?_) | refine mo_hWi ?_ | refine mo_hWr ?_ | refine mo_hLn (fun _ => ?_) | refine mo_hgL (fun _ => ?_) | refine mo_hpL ?_ | refine mo_hpZ ?_ | refine mo_bd ?_ (fun _ => ?_) | refine mo_hCi (fun _ => ?_) (fun _ => ?_) | refine mo_hNw (fun _ => ?_) | refine mo_hNa (fun _ => ?_) | refine mo_hCp ?_ | refine mo_hOi ?_ | refine mo_hAl (fun _ => ?_) | refine mo_hWl ?_ | refine mo_gd ?_ | refine mo_sLn (fun _ => ?_) | refine mo_sAt (fun _ => ?_) | refine mo_kLn (fun _ => ?_) | refine mo_kAt (fun _ => ?_))
set_option maxRecDepth 10000 in
theorem sc_X8_endTime_J18 {g : Gm Hp Int64} (B : Bx g cX8_endTime 1 RX8 voL (some .long) 0 0 "endTime") {l0 : Nat} : Sm g 1 18 [] [] (C_X8_endTime_J18 l0) := by
  unfold C_X8_endTime_J18
  refine s_ldc2 (v := (1099511627776)) B.1.1 tw_1479 dX8_endTime_18 ?_
  refine s_goto B.1.1 34 dX8_endTime_21 (by decide) ?_
  exact s_lret B.1.1 B.2.2.2.2 dX8_endTime_34
def C_X8_endTime (l0 : Nat) : Hp → Option (Int64 × Hp) :=
  hgR 10 2 (some l0) fun v1 =>
  if v1 = none then (
    hgL 10 13 (some l0) fun v2 =>
    if (lg_cmp v2 (4294967295 : Int64)) = 0 then (
      C_X8_endTime_J18 l0
    ) else (
      hgI 10 17 (some l0) fun v3 =>
      hgL 10 13 (some l0) fun v4 =>
      rt (v3.toInt64 + v4)
    )
  ) else (
    C_X8_endTime_J18 l0
  )
set_option maxRecDepth 10000 in
theorem mo_C_X8_endTime (l0 : Nat) : Mo (C_X8_endTime l0) := by
  unfold C_X8_endTime
  repeat' (with_reducible first | assumption | exact mo_rt _ | exact mo_zt _ | exact mo_no | apply mo_C_X8_endTime_J18 | refine mo_ite ?_ ?_ | refine mo_hgI (fun _ => ?_) | refine mo_hgR (fun _ => ?_) | refine mo_hCv (fun _ => ?_) (fun _ => ?_) | refine mo_lq (fun _ => ?_) | refine mo_hpI ?_ | refine mo_hpR ?_ | refine mo_hAi (fun _ => ?_) | refine mo_hAr (fun _ => ?_) | refine mo_hWi ?_ | refine mo_hWr ?_ | refine mo_hLn (fun _ => ?_) | refine mo_hgL (fun _ => ?_) | refine mo_hpL ?_ | refine mo_hpZ ?_ | refine mo_bd ?_ (fun _ => ?_) | refine mo_hCi (fun _ => ?_) (fun _ => ?_) | refine mo_hNw (fun _ => ?_) | refine mo_hNa (fun _ => ?_) | refine mo_hCp ?_ | refine mo_hOi ?_ | refine mo_hAl (fun _ => ?_) | refine mo_hWl ?_ | refine mo_gd ?_ | refine mo_sLn (fun _ => ?_) | refine mo_sAt (fun _ => ?_) | refine mo_kLn (fun _ => ?_) | refine mo_kAt (fun _ => ?_))
set_option maxRecDepth 10000 in
theorem mC_X8_endTime {w : Wd} (hw : Wc w) (l0 : Nat) : MH w yX8_endTime cX8_endTime 1 (some .long) 0 0 voL [va_rf (some l0)] (C_X8_endTime l0) := by
  have M0 : ∀ g : Gm Hp Int64, g.1 = w → Bx g cX8_endTime 1 RX8 voL (some .long) 0 0 "endTime" → Sm g 1 0 (lv_args 0 [va_rf (some l0)]) [] (C_X8_endTime l0) := by
    intro g hg B
    subst hg
    unfold C_X8_endTime
    refine W_lva (lv := [(0, va_rf (some l0))]) (by simp [lv_args, va_rf_cat, cat_i, cat_l, cat_r]) ?_
    refine s_rload_n B.1.1 0 dX8_endTime_0 rfl rfl ?_
    refine hp_getR B.1 10 2 rfl (by decide) inX8 (by decide) fk_X8_2 cf_X8_67 dX8_endTime_1 (fun v1 => ?_)
    refine s_ifnonnull B.1.1 18 dX8_endTime_4 (by decide) ?_ ?_
    · exact Sm.lvs [] rfl (sc_X8_endTime_J18 B)
    · refine s_rload_n B.1.1 0 dX8_endTime_7 rfl rfl ?_
      refine hp_getL B.1 10 13 rfl (by decide) inX8 (by decide) fk_X8_13 cf_X8_110 dX8_endTime_8 (fun v2 => ?_)
      refine s_ldc2 (v := (4294967295)) B.1.1 tw_1484 dX8_endTime_11 ?_
      refine s_lcmp B.1.1 dX8_endTime_14 ?_
      refine s_if_ne B.1.1 24 dX8_endTime_15 (by decide) ?_ ?_
      · refine s_rload_n B.1.1 0 dX8_endTime_24 rfl rfl ?_
        refine hp_getI B.1 10 17 rfl (by decide) inX8 (by decide) fk_X8_17.1 fk_X8_17.2 cf_X8_103 dX8_endTime_25 (fun v3 => ?_)
        refine s_i2l B.1.1 dX8_endTime_28 ?_
        refine s_rload_n B.1.1 0 dX8_endTime_29 rfl rfl ?_
        refine hp_getL B.1 10 13 rfl (by decide) inX8 (by decide) fk_X8_13 cf_X8_110 dX8_endTime_30 (fun v4 => ?_)
        refine s_ladd B.1.1 dX8_endTime_33 ?_
        exact s_lret B.1.1 B.2.2.2.2 dX8_endTime_34
      · exact Sm.lvs [] rfl (sc_X8_endTime_J18 B)
  exact MH.of hw ⟨rfl, rfl⟩ (by decide) (by simp [lg_sl, va_rf_cat, cat_i, cat_l, cat_r]) (mo_C_X8_endTime l0) M0
def C_X8_willTime_J14 (l0 : Nat) : Hp → Option (Int64 × Hp) :=
  rt ((1099511627776 : Int64))
set_option maxRecDepth 10000 in
theorem mo_C_X8_willTime_J14 (l0 : Nat) : Mo (C_X8_willTime_J14 l0) := by
  unfold C_X8_willTime_J14
  repeat' (with_reducible first | assumption | exact mo_rt _ | exact mo_zt _ | exact mo_no | refine mo_ite ?_ ?_ | refine mo_hgI (fun _ => ?_) | refine mo_hgR (fun _ => ?_) | refine mo_hCv (fun _ => ?_) (fun _ => ?_) | refine mo_lq (fun _ => ?_) | refine mo_hpI ?_ | refine mo_hpR ?_ | refine mo_hAi (fun _ => ?_) | refine mo_hAr (fun _ => ?_) | refine mo_hWi ?_ | refine mo_hWr ?_ | refine mo_hLn (fun _ => ?_) | refine mo_hgL (fun _ => ?_) | refine mo_hpL ?_ | refine mo_hpZ ?_ | refine mo_bd ?_ (fun _ => ?_) | refine mo_hCi (fun _ => ?_) (fun _ => ?_) | refine mo_hNw (fun _ => ?_) | refine mo_hNa (fun _ => ?_) | refine mo_hCp ?_ | refine mo_hOi ?_ | refine mo_hAl (fun _ => ?_) | refine mo_hWl ?_ | refine mo_gd ?_ | refine mo_sLn (fun _ => ?_) | refine mo_sAt (fun _ => ?_) | refine mo_kLn (fun _ => ?_) | refine mo_kAt (fun _ => ?_))
set_option maxRecDepth 10000 in
theorem sc_X8_willTime_J14 {g : Gm Hp Int64} (B : Bx g cX8_willTime 1 RX8 voL (some .long) 0 0 "willTime") {l0 : Nat} : Sm g 1 14 [] [] (C_X8_willTime_J14 l0) := by
  unfold C_X8_willTime_J14
  refine s_ldc2 (v := (1099511627776)) B.1.1 tw_1479 dX8_willTime_14 ?_
  refine s_goto B.1.1 30 dX8_willTime_17 (by decide) ?_
  exact s_lret B.1.1 B.2.2.2.2 dX8_willTime_30
def C_X8_willTime (l0 : Nat) : Hp → Option (Int64 × Hp) :=
  hgR 10 2 (some l0) fun v1 =>
  if v1 = none then (
    hgR 10 11 (some l0) fun v2 =>
    if v2 = none then (
      C_X8_willTime_J14 l0
    ) else (
      hgI 10 17 (some l0) fun v3 =>
      hgL 10 12 (some l0) fun v4 =>
      rt (v3.toInt64 + v4)
    )
  ) else (
    C_X8_willTime_J14 l0
  )
set_option maxRecDepth 10000 in
theorem mo_C_X8_willTime (l0 : Nat) : Mo (C_X8_willTime l0) := by
  unfold C_X8_willTime
  repeat' (with_reducible first | assumption | exact mo_rt _ | exact mo_zt _ | exact mo_no | apply mo_C_X8_willTime_J14 | refine mo_ite ?_ ?_ | refine mo_hgI (fun _ => ?_) | refine mo_hgR (fun _ => ?_) | refine mo_hCv (fun _ => ?_) (fun _ => ?_) | refine mo_lq (fun _ => ?_) | refine mo_hpI ?_ | refine mo_hpR ?_ | refine mo_hAi (fun _ => ?_) | refine mo_hAr (fun _ => ?_) | refine mo_hWi ?_ | refine mo_hWr ?_ | refine mo_hLn (fun _ => ?_) | refine mo_hgL (fun _ => ?_) | refine mo_hpL ?_ | refine mo_hpZ ?_ | refine mo_bd ?_ (fun _ => ?_) | refine mo_hCi (fun _ => ?_) (fun _ => ?_) | refine mo_hNw (fun _ => ?_) | refine mo_hNa (fun _ => ?_) | refine mo_hCp ?_ | refine mo_hOi ?_ | refine mo_hAl (fun _ => ?_) | refine mo_hWl ?_ | refine mo_gd ?_ | refine mo_sLn (fun _ => ?_) | refine mo_sAt (fun _ => ?_) | refine mo_kLn (fun _ => ?_) | refine mo_kAt (fun _ => ?_))
set_option maxRecDepth 10000 in
theorem mC_X8_willTime {w : Wd} (hw : Wc w) (l0 : Nat) : MH w yX8_willTime cX8_willTime 1 (some .long) 0 0 voL [va_rf (some l0)] (C_X8_willTime l0) := by
  have M0 : ∀ g : Gm Hp Int64, g.1 = w → Bx g cX8_willTime 1 RX8 voL (some .long) 0 0 "willTime" → Sm g 1 0 (lv_args 0 [va_rf (some l0)]) [] (C_X8_willTime l0) := by
    intro g hg B
    subst hg
    unfold C_X8_willTime
    refine W_lva (lv := [(0, va_rf (some l0))]) (by simp [lv_args, va_rf_cat, cat_i, cat_l, cat_r]) ?_
    refine s_rload_n B.1.1 0 dX8_willTime_0 rfl rfl ?_
    refine hp_getR B.1 10 2 rfl (by decide) inX8 (by decide) fk_X8_2 cf_X8_67 dX8_willTime_1 (fun v1 => ?_)
    refine s_ifnonnull B.1.1 14 dX8_willTime_4 (by decide) ?_ ?_
    · exact Sm.lvs [] rfl (sc_X8_willTime_J14 B)
    · refine s_rload_n B.1.1 0 dX8_willTime_7 rfl rfl ?_
      refine hp_getR B.1 10 11 rfl (by decide) inX8 (by decide) fk_X8_11 cf_X8_97 dX8_willTime_8 (fun v2 => ?_)
      refine s_ifnonnull B.1.1 20 dX8_willTime_11 (by decide) ?_ ?_
      · refine s_rload_n B.1.1 0 dX8_willTime_20 rfl rfl ?_
        refine hp_getI B.1 10 17 rfl (by decide) inX8 (by decide) fk_X8_17.1 fk_X8_17.2 cf_X8_103 dX8_willTime_21 (fun v3 => ?_)
        refine s_i2l B.1.1 dX8_willTime_24 ?_
        refine s_rload_n B.1.1 0 dX8_willTime_25 rfl rfl ?_
        refine hp_getL B.1 10 12 rfl (by decide) inX8 (by decide) fk_X8_12 cf_X8_106 dX8_willTime_26 (fun v4 => ?_)
        refine s_ladd B.1.1 dX8_willTime_29 ?_
        exact s_lret B.1.1 B.2.2.2.2 dX8_willTime_30
      · exact Sm.lvs [] rfl (sc_X8_willTime_J14 B)
  exact MH.of hw ⟨rfl, rfl⟩ (by decide) (by simp [lg_sl, va_rf_cat, cat_i, cat_l, cat_r]) (mo_C_X8_willTime l0) M0
def C_X11_nextEvent_J79 (l0 : Nat) (l1 : Int64) : Hp → Option (Int64 × Hp) :=
  hgI 13 9 (some l0) fun v1 =>
  rt (lmax l1 ((v1 + (1 : Int32)).toInt64))
set_option maxRecDepth 10000 in
theorem mo_C_X11_nextEvent_J79 (l0 : Nat) (l1 : Int64) : Mo (C_X11_nextEvent_J79 l0 l1) := by
  unfold C_X11_nextEvent_J79
  repeat' (with_reducible first | assumption | exact mo_rt _ | exact mo_zt _ | exact mo_no | refine mo_ite ?_ ?_ | refine mo_hgI (fun _ => ?_) | refine mo_hgR (fun _ => ?_) | refine mo_hCv (fun _ => ?_) (fun _ => ?_) | refine mo_lq (fun _ => ?_) | refine mo_hpI ?_ | refine mo_hpR ?_ | refine mo_hAi (fun _ => ?_) | refine mo_hAr (fun _ => ?_) | refine mo_hWi ?_ | refine mo_hWr ?_ | refine mo_hLn (fun _ => ?_) | refine mo_hgL (fun _ => ?_) | refine mo_hpL ?_ | refine mo_hpZ ?_ | refine mo_bd ?_ (fun _ => ?_) | refine mo_hCi (fun _ => ?_) (fun _ => ?_) | refine mo_hNw (fun _ => ?_) | refine mo_hNa (fun _ => ?_) | refine mo_hCp ?_ | refine mo_hOi ?_ | refine mo_hAl (fun _ => ?_) | refine mo_hWl ?_ | refine mo_gd ?_ | refine mo_sLn (fun _ => ?_) | refine mo_sAt (fun _ => ?_) | refine mo_kLn (fun _ => ?_) | refine mo_kAt (fun _ => ?_))
set_option maxRecDepth 10000 in
theorem sc_X11_nextEvent_J79 {g : Gm Hp Int64} (B : Bx g cX11_nextEvent 5 RX11 voL (some .long) 1 23 "nextEvent") {l0 : Nat} (l1 : Int64) : Sm g 5 79 [(0, va_rf (some l0)), (1, .long l1)] [] (C_X11_nextEvent_J79 l0 l1) := by
  unfold C_X11_nextEvent_J79
  refine s_lload_n B.1.1 1 dX11_nextEvent_79 rfl rfl ?_
  refine s_rload_n B.1.1 0 dX11_nextEvent_80 rfl rfl ?_
  refine hp_getI B.1 13 9 rfl (by decide) inX11 (by decide) fk_X11_9.1 fk_X11_9.2 cf_X11_131 dX11_nextEvent_81 (fun v1 => ?_)
  refine s_iconst (v := 1) B.1.1 dX11_nextEvent_84 (by decide) ?_
  refine s_iadd B.1.1 dX11_nextEvent_85 ?_
  refine s_i2l B.1.1 dX11_nextEvent_86 ?_
  refine s_mmaxl B.1.1 B.1.2.1 tw_1485 (by decide) (Nat.le_of_ble_eq_true rfl) dX11_nextEvent_87 ?_
  exact s_lret B.1.1 B.2.2.2.2 dX11_nextEvent_90
def C_X11_nextEvent_B36 (l0 : Nat) (kb : Int64 → Int32 → Hp → Option (Int64 × Hp)) (ke79 : Int64 → Hp → Option (Int64 × Hp)) (l1 : Int64) (l3 : Int32) : Hp → Option (Int64 × Hp) :=
  if (12 : Int32) ≤ l3 then (
    ke79 l1
  ) else (
    hgR 13 1 (some l0) fun v2 =>
    hAr 5 v2 l3 fun v3 =>
    if v3 = none then (
      kb l1 (l3 + 1)
    ) else (
      hCv 10 v3 (fun a => C_X8_willTime a) fun r4 =>
      hCv 10 v3 (fun a => C_X8_endTime a) fun r5 =>
      lq (lmin l1 (lmin r4 r5)) fun x6 =>
      kb x6 (l3 + 1)
    )
  )
def C_X11_nextEvent_L36 (l0 : Nat) (ke79 : Int64 → Hp → Option (Int64 × Hp)) : Nat → Int64 → Int32 → Hp → Option (Int64 × Hp)
  | 0, _, _ => no
  | n + 1, l1, l3 => C_X11_nextEvent_B36 l0 (fun l1 l3 => C_X11_nextEvent_L36 l0 ke79 n l1 l3) ke79 l1 l3
set_option maxRecDepth 10000 in
theorem mo_C_X11_nextEvent_B36 (l0 : Nat) (kb : Int64 → Int32 → Hp → Option (Int64 × Hp)) (ke79 : Int64 → Hp → Option (Int64 × Hp)) (hkb : ∀ (l1 : Int64) (l3 : Int32), Mo (kb l1 l3)) (hke79 : ∀ (l1 : Int64), Mo (ke79 l1)) (l1 : Int64) (l3 : Int32) : Mo (C_X11_nextEvent_B36 l0 kb ke79 l1 l3) := by
  unfold C_X11_nextEvent_B36
  repeat' (with_reducible first | assumption | exact mo_rt _ | exact mo_zt _ | exact mo_no | apply mo_C_X8_willTime | apply mo_C_X8_endTime | apply hkb | apply hke79 | refine mo_ite ?_ ?_ | refine mo_hgI (fun _ => ?_) | refine mo_hgR (fun _ => ?_) | refine mo_hCv (fun _ => ?_) (fun _ => ?_) | refine mo_lq (fun _ => ?_) | refine mo_hpI ?_ | refine mo_hpR ?_ | refine mo_hAi (fun _ => ?_) | refine mo_hAr (fun _ => ?_) | refine mo_hWi ?_ | refine mo_hWr ?_ | refine mo_hLn (fun _ => ?_) | refine mo_hgL (fun _ => ?_) | refine mo_hpL ?_ | refine mo_hpZ ?_ | refine mo_bd ?_ (fun _ => ?_) | refine mo_hCi (fun _ => ?_) (fun _ => ?_) | refine mo_hNw (fun _ => ?_) | refine mo_hNa (fun _ => ?_) | refine mo_hCp ?_ | refine mo_hOi ?_ | refine mo_hAl (fun _ => ?_) | refine mo_hWl ?_ | refine mo_gd ?_ | refine mo_sLn (fun _ => ?_) | refine mo_sAt (fun _ => ?_) | refine mo_kLn (fun _ => ?_) | refine mo_kAt (fun _ => ?_))
set_option maxRecDepth 10000 in
theorem mo_C_X11_nextEvent_L36 (l0 : Nat) (ke79 : Int64 → Hp → Option (Int64 × Hp)) (hke79 : ∀ (l1 : Int64), Mo (ke79 l1)) : ∀ (n : Nat) (l1 : Int64) (l3 : Int32), Mo (C_X11_nextEvent_L36 l0 ke79 n l1 l3)
  | 0, _, _ => mo_no
  | n + 1, l1, l3 => mo_C_X11_nextEvent_B36 l0 _ ke79 (mo_C_X11_nextEvent_L36 l0 ke79 hke79 n) hke79 l1 l3
set_option maxRecDepth 10000 in
theorem sc_X11_nextEvent_B36 {g : Gm Hp Int64} {kb : Int64 → Int32 → Hp → Option (Int64 × Hp)} {ke79 : Int64 → Hp → Option (Int64 × Hp)} (B : Bx g cX11_nextEvent 5 RX11 voL (some .long) 1 23 "nextEvent") {l0 : Nat} (hkb : ∀ (l1 : Int64) (l3 : Int32), Sm g 5 36 [(0, va_rf (some l0)), (1, .long l1), (3, .int l3)] [] (kb l1 l3)) (hke79 : ∀ (l1 : Int64), Sm g 5 79 [(0, va_rf (some l0)), (1, .long l1)] [] (ke79 l1)) (l1 : Int64) (l3 : Int32) : Sm g 5 36 [(0, va_rf (some l0)), (1, .long l1), (3, .int l3)] [] (C_X11_nextEvent_B36 l0 kb ke79 l1 l3) := by
  unfold C_X11_nextEvent_B36
  refine s_iload_n B.1.1 2 dX11_nextEvent_36 rfl rfl ?_
  refine s_bipush (v := (12)) B.1.1 dX11_nextEvent_37 (by decide) ?_
  refine s_icmp_ge B.1.1 79 dX11_nextEvent_39 (by decide) ?_ ?_
  · exact Sm.lvs [0, 1] rfl (hke79 l1)
  · refine s_rload_n B.1.1 0 dX11_nextEvent_42 rfl rfl ?_
    refine hp_getR B.1 13 1 rfl (by decide) inX11 (by decide) fk_X11_1 cf_X11_20 dX11_nextEvent_43 (fun v2 => ?_)
    refine s_iload_n B.1.1 2 dX11_nextEvent_46 rfl rfl ?_
    refine hp_Ar B.1 5 (by decide) (fun _ => rfl) dX11_nextEvent_47 (fun v3 => ?_)
    refine s_rstore (i := 4) (lv' := [(4, va_rf v3), (0, va_rf (some l0)), (1, .long l1), (3, .int l3)]) B.1.1 dX11_nextEvent_48 (by decide) rfl ?_
    refine s_rload B.1.1 0 dX11_nextEvent_50 rfl ?_
    refine s_ifnull B.1.1 73 dX11_nextEvent_52 (by decide) ?_ ?_
    · refine s_iinc (v := l3 + 1) (lv' := [(3, .int (l3 + 1)), (4, va_rf v3), (0, va_rf (some l0)), (1, .long l1)]) B.1.1 3 dX11_nextEvent_73 rfl rfl (by decide) rfl ?_
      refine s_goto B.1.1 36 dX11_nextEvent_76 (by decide) ?_
      exact Sm.lvs [2, 3, 0] rfl (hkb l1 (l3 + 1))
    · refine s_lload_n B.1.1 2 dX11_nextEvent_55 rfl rfl ?_
      refine s_rload B.1.1 0 dX11_nextEvent_56 rfl ?_
      refine hp_cvl (As := []) (st := [.long l1]) 10 rfl (by decide) B.1 (fun a => mC_X8_willTime B.2.1 a ) cc_X8_willTime cl_X11_628 cn_X8_willTime ce_X8_willTime ci_X8 cd_X8_willTime (by decide) rfl (Nat.le_of_ble_eq_true rfl) dX11_nextEvent_58 (fun r4 => ?_)
      refine s_rload B.1.1 0 dX11_nextEvent_61 rfl ?_
      refine hp_cvl (As := []) (st := [.long r4, .long l1]) 10 rfl (by decide) B.1 (fun a => mC_X8_endTime B.2.1 a ) cc_X8_endTime cl_X11_631 cn_X8_endTime ce_X8_endTime ci_X8 cd_X8_endTime (by decide) rfl (Nat.le_of_ble_eq_true rfl) dX11_nextEvent_63 (fun r5 => ?_)
      refine s_mminl B.1.1 B.1.2.1 tw_1472 (by decide) (Nat.le_of_ble_eq_true rfl) dX11_nextEvent_66 ?_
      refine s_mminl B.1.1 B.1.2.1 tw_1472 (by decide) (Nat.le_of_ble_eq_true rfl) dX11_nextEvent_69 ?_
      refine s_lql (fun x6 => ?_)
      refine s_lstore_n (i := 1) (lv' := [(1, .long x6), (4, va_rf v3), (0, va_rf (some l0)), (3, .int l3)]) B.1.1 dX11_nextEvent_72 rfl (by decide) rfl ?_
      refine s_iinc (v := l3 + 1) (lv' := [(3, .int (l3 + 1)), (1, .long x6), (4, va_rf v3), (0, va_rf (some l0))]) B.1.1 3 dX11_nextEvent_73 rfl rfl (by decide) rfl ?_
      refine s_goto B.1.1 36 dX11_nextEvent_76 (by decide) ?_
      exact Sm.lvs [3, 1, 0] rfl (hkb x6 (l3 + 1))
set_option maxRecDepth 10000 in
theorem sc_X11_nextEvent_L36 {g : Gm Hp Int64} {ke79 : Int64 → Hp → Option (Int64 × Hp)} (B : Bx g cX11_nextEvent 5 RX11 voL (some .long) 1 23 "nextEvent") {l0 : Nat} (hke79 : ∀ (l1 : Int64), Sm g 5 79 [(0, va_rf (some l0)), (1, .long l1)] [] (ke79 l1)) : ∀ (n : Nat) (l1 : Int64) (l3 : Int32), Sm g 5 36 [(0, va_rf (some l0)), (1, .long l1), (3, .int l3)] [] (C_X11_nextEvent_L36 l0 ke79 n l1 l3)
  | 0, _, _ => Sm.fail
  | n + 1, l1, l3 => sc_X11_nextEvent_B36 B (sc_X11_nextEvent_L36 B hke79 n) hke79 l1 l3
def C_X11_nextEvent_J34 (l0 : Nat) (l1 : Int64) : Hp → Option (Int64 × Hp) :=
  C_X11_nextEvent_L36 l0 (fun l1 => C_X11_nextEvent_J79 l0 l1) fu l1 (0 : Int32)
set_option maxRecDepth 10000 in
theorem mo_C_X11_nextEvent_J34 (l0 : Nat) (l1 : Int64) : Mo (C_X11_nextEvent_J34 l0 l1) := by
  unfold C_X11_nextEvent_J34
  repeat' (with_reducible first | assumption | exact mo_rt _ | exact mo_zt _ | exact mo_no | apply mo_C_X11_nextEvent_L36 | apply mo_C_X11_nextEvent_J79 | refine mo_ite ?_ ?_ | refine mo_hgI (fun _ => ?_) | refine mo_hgR (fun _ => ?_) | refine mo_hCv (fun _ => ?_) (fun _ => ?_) | refine mo_lq (fun _ => ?_) | refine mo_hpI ?_ | refine mo_hpR ?_ | refine mo_hAi (fun _ => ?_) | refine mo_hAr (fun _ => ?_) | refine mo_hWi ?_ | refine mo_hWr ?_ | refine mo_hLn (fun _ => ?_) | refine mo_hgL (fun _ => ?_) | refine mo_hpL ?_ | refine mo_hpZ ?_ | refine mo_bd ?_ (fun _ => ?_) | refine mo_hCi (fun _ => ?_) (fun _ => ?_) | refine mo_hNw (fun _ => ?_) | refine mo_hNa (fun _ => ?_) | refine mo_hCp ?_ | refine mo_hOi ?_ | refine mo_hAl (fun _ => ?_) | refine mo_hWl ?_ | refine mo_gd ?_ | refine mo_sLn (fun _ => ?_) | refine mo_sAt (fun _ => ?_) | refine mo_kLn (fun _ => ?_) | refine mo_kAt (fun _ => ?_))
set_option maxRecDepth 10000 in
theorem sc_X11_nextEvent_J34 {g : Gm Hp Int64} (B : Bx g cX11_nextEvent 5 RX11 voL (some .long) 1 23 "nextEvent") {l0 : Nat} (l1 : Int64) : Sm g 5 34 [(0, va_rf (some l0)), (1, .long l1)] [] (C_X11_nextEvent_J34 l0 l1) := by
  unfold C_X11_nextEvent_J34
  refine s_iconst (v := 0) B.1.1 dX11_nextEvent_34 (by decide) ?_
  refine s_istore_n (i := 3) (lv' := [(3, .int (0 : Int32)), (0, va_rf (some l0)), (1, .long l1)]) B.1.1 dX11_nextEvent_35 rfl (by decide) rfl ?_
  exact Sm.lvs [1, 2, 0] rfl (sc_X11_nextEvent_L36 B (fun l1 => sc_X11_nextEvent_J79 B l1) fu l1 (0 : Int32))
def C_X11_nextEvent_B6 (l0 : Nat) (kb : Int64 → Int32 → Hp → Option (Int64 × Hp)) (ke34 : Int64 → Hp → Option (Int64 × Hp)) (l1 : Int64) (l3 : Int32) : Hp → Option (Int64 × Hp) :=
  if (8 : Int32) ≤ l3 then (
    ke34 l1
  ) else (
    hgR 13 0 (some l0) fun v7 =>
    hAr 4 v7 l3 fun v8 =>
    hCv 2 v8 (fun a => C_X0_quietUntil a) fun r9 =>
    lq (lmin l1 (r9 + (1 : Int64))) fun x10 =>
    kb x10 (l3 + 1)
  )
def C_X11_nextEvent_L6 (l0 : Nat) (ke34 : Int64 → Hp → Option (Int64 × Hp)) : Nat → Int64 → Int32 → Hp → Option (Int64 × Hp)
  | 0, _, _ => no
  | n + 1, l1, l3 => C_X11_nextEvent_B6 l0 (fun l1 l3 => C_X11_nextEvent_L6 l0 ke34 n l1 l3) ke34 l1 l3
set_option maxRecDepth 10000 in
theorem mo_C_X11_nextEvent_B6 (l0 : Nat) (kb : Int64 → Int32 → Hp → Option (Int64 × Hp)) (ke34 : Int64 → Hp → Option (Int64 × Hp)) (hkb : ∀ (l1 : Int64) (l3 : Int32), Mo (kb l1 l3)) (hke34 : ∀ (l1 : Int64), Mo (ke34 l1)) (l1 : Int64) (l3 : Int32) : Mo (C_X11_nextEvent_B6 l0 kb ke34 l1 l3) := by
  unfold C_X11_nextEvent_B6
  repeat' (with_reducible first | assumption | exact mo_rt _ | exact mo_zt _ | exact mo_no | apply mo_C_X0_quietUntil | apply hkb | apply hke34 | refine mo_ite ?_ ?_ | refine mo_hgI (fun _ => ?_) | refine mo_hgR (fun _ => ?_) | refine mo_hCv (fun _ => ?_) (fun _ => ?_) | refine mo_lq (fun _ => ?_) | refine mo_hpI ?_ | refine mo_hpR ?_ | refine mo_hAi (fun _ => ?_) | refine mo_hAr (fun _ => ?_) | refine mo_hWi ?_ | refine mo_hWr ?_ | refine mo_hLn (fun _ => ?_) | refine mo_hgL (fun _ => ?_) | refine mo_hpL ?_ | refine mo_hpZ ?_ | refine mo_bd ?_ (fun _ => ?_) | refine mo_hCi (fun _ => ?_) (fun _ => ?_) | refine mo_hNw (fun _ => ?_) | refine mo_hNa (fun _ => ?_) | refine mo_hCp ?_ | refine mo_hOi ?_ | refine mo_hAl (fun _ => ?_) | refine mo_hWl ?_ | refine mo_gd ?_ | refine mo_sLn (fun _ => ?_) | refine mo_sAt (fun _ => ?_) | refine mo_kLn (fun _ => ?_) | refine mo_kAt (fun _ => ?_))
set_option maxRecDepth 10000 in
theorem mo_C_X11_nextEvent_L6 (l0 : Nat) (ke34 : Int64 → Hp → Option (Int64 × Hp)) (hke34 : ∀ (l1 : Int64), Mo (ke34 l1)) : ∀ (n : Nat) (l1 : Int64) (l3 : Int32), Mo (C_X11_nextEvent_L6 l0 ke34 n l1 l3)
  | 0, _, _ => mo_no
  | n + 1, l1, l3 => mo_C_X11_nextEvent_B6 l0 _ ke34 (mo_C_X11_nextEvent_L6 l0 ke34 hke34 n) hke34 l1 l3
set_option maxRecDepth 10000 in
theorem sc_X11_nextEvent_B6 {g : Gm Hp Int64} {kb : Int64 → Int32 → Hp → Option (Int64 × Hp)} {ke34 : Int64 → Hp → Option (Int64 × Hp)} (B : Bx g cX11_nextEvent 5 RX11 voL (some .long) 1 23 "nextEvent") {l0 : Nat} (hkb : ∀ (l1 : Int64) (l3 : Int32), Sm g 5 6 [(0, va_rf (some l0)), (1, .long l1), (3, .int l3)] [] (kb l1 l3)) (hke34 : ∀ (l1 : Int64), Sm g 5 34 [(0, va_rf (some l0)), (1, .long l1)] [] (ke34 l1)) (l1 : Int64) (l3 : Int32) : Sm g 5 6 [(0, va_rf (some l0)), (1, .long l1), (3, .int l3)] [] (C_X11_nextEvent_B6 l0 kb ke34 l1 l3) := by
  unfold C_X11_nextEvent_B6
  refine s_iload_n B.1.1 2 dX11_nextEvent_6 rfl rfl ?_
  refine s_bipush (v := (8)) B.1.1 dX11_nextEvent_7 (by decide) ?_
  refine s_icmp_ge B.1.1 34 dX11_nextEvent_9 (by decide) ?_ ?_
  · exact Sm.lvs [0, 1] rfl (hke34 l1)
  · refine s_lload_n B.1.1 1 dX11_nextEvent_12 rfl rfl ?_
    refine s_rload_n B.1.1 0 dX11_nextEvent_13 rfl rfl ?_
    refine hp_getR B.1 13 0 rfl (by decide) inX11 (by decide) fk_X11_0 cf_X11_11 dX11_nextEvent_14 (fun v7 => ?_)
    refine s_iload_n B.1.1 2 dX11_nextEvent_17 rfl rfl ?_
    refine hp_Ar B.1 4 (by decide) (fun _ => rfl) dX11_nextEvent_18 (fun v8 => ?_)
    refine hp_cvl (As := []) (st := [.long l1]) 2 rfl (by decide) B.1 (fun a => mC_X0_quietUntil B.2.1 a ) cc_X0_quietUntil cl_X11_625 cn_X0_quietUntil ce_X0_quietUntil ci_X0 cd_X0_quietUntil (by decide) rfl (Nat.le_of_ble_eq_true rfl) dX11_nextEvent_19 (fun r9 => ?_)
    refine s_lconst (v := 1) B.1.1 dX11_nextEvent_22 (by decide) ?_
    refine s_ladd B.1.1 dX11_nextEvent_23 ?_
    refine s_mminl B.1.1 B.1.2.1 tw_1472 (by decide) (Nat.le_of_ble_eq_true rfl) dX11_nextEvent_24 ?_
    refine s_lql (fun x10 => ?_)
    refine s_lstore_n (i := 1) (lv' := [(1, .long x10), (0, va_rf (some l0)), (3, .int l3)]) B.1.1 dX11_nextEvent_27 rfl (by decide) rfl ?_
    refine s_iinc (v := l3 + 1) (lv' := [(3, .int (l3 + 1)), (1, .long x10), (0, va_rf (some l0))]) B.1.1 2 dX11_nextEvent_28 rfl rfl (by decide) rfl ?_
    refine s_goto B.1.1 6 dX11_nextEvent_31 (by decide) ?_
    exact Sm.lvs [2, 1, 0] rfl (hkb x10 (l3 + 1))
set_option maxRecDepth 10000 in
theorem sc_X11_nextEvent_L6 {g : Gm Hp Int64} {ke34 : Int64 → Hp → Option (Int64 × Hp)} (B : Bx g cX11_nextEvent 5 RX11 voL (some .long) 1 23 "nextEvent") {l0 : Nat} (hke34 : ∀ (l1 : Int64), Sm g 5 34 [(0, va_rf (some l0)), (1, .long l1)] [] (ke34 l1)) : ∀ (n : Nat) (l1 : Int64) (l3 : Int32), Sm g 5 6 [(0, va_rf (some l0)), (1, .long l1), (3, .int l3)] [] (C_X11_nextEvent_L6 l0 ke34 n l1 l3)
  | 0, _, _ => Sm.fail
  | n + 1, l1, l3 => sc_X11_nextEvent_B6 B (sc_X11_nextEvent_L6 B hke34 n) hke34 l1 l3
def C_X11_nextEvent (l0 : Nat) : Hp → Option (Int64 × Hp) :=
  C_X11_nextEvent_L6 l0 (fun l1 => C_X11_nextEvent_J34 l0 l1) fu (1099511627776 : Int64) (0 : Int32)
set_option maxRecDepth 10000 in
theorem mo_C_X11_nextEvent (l0 : Nat) : Mo (C_X11_nextEvent l0) := by
  unfold C_X11_nextEvent
  repeat' (with_reducible first | assumption | exact mo_rt _ | exact mo_zt _ | exact mo_no | apply mo_C_X11_nextEvent_L6 | apply mo_C_X11_nextEvent_J34 | refine mo_ite ?_ ?_ | refine mo_hgI (fun _ => ?_) | refine mo_hgR (fun _ => ?_) | refine mo_hCv (fun _ => ?_) (fun _ => ?_) | refine mo_lq (fun _ => ?_) | refine mo_hpI ?_ | refine mo_hpR ?_ | refine mo_hAi (fun _ => ?_) | refine mo_hAr (fun _ => ?_) | refine mo_hWi ?_ | refine mo_hWr ?_ | refine mo_hLn (fun _ => ?_) | refine mo_hgL (fun _ => ?_) | refine mo_hpL ?_ | refine mo_hpZ ?_ | refine mo_bd ?_ (fun _ => ?_) | refine mo_hCi (fun _ => ?_) (fun _ => ?_) | refine mo_hNw (fun _ => ?_) | refine mo_hNa (fun _ => ?_) | refine mo_hCp ?_ | refine mo_hOi ?_ | refine mo_hAl (fun _ => ?_) | refine mo_hWl ?_ | refine mo_gd ?_ | refine mo_sLn (fun _ => ?_) | refine mo_sAt (fun _ => ?_) | refine mo_kLn (fun _ => ?_) | refine mo_kAt (fun _ => ?_))
set_option maxRecDepth 10000 in
theorem mC_X11_nextEvent {w : Wd} (hw : Wc w) (l0 : Nat) : MH w yX11_nextEvent cX11_nextEvent 5 (some .long) 1 23 voL [va_rf (some l0)] (C_X11_nextEvent l0) := by
  have M0 : ∀ g : Gm Hp Int64, g.1 = w → Bx g cX11_nextEvent 5 RX11 voL (some .long) 1 23 "nextEvent" → Sm g 5 0 (lv_args 0 [va_rf (some l0)]) [] (C_X11_nextEvent l0) := by
    intro g hg B
    subst hg
    unfold C_X11_nextEvent
    refine W_lva (lv := [(0, va_rf (some l0))]) (by simp [lv_args, va_rf_cat, cat_i, cat_l, cat_r]) ?_
    refine s_ldc2 (v := (1099511627776)) B.1.1 tw_1464 dX11_nextEvent_0 ?_
    refine s_lstore_n (i := 1) (lv' := [(1, .long (1099511627776 : Int64)), (0, va_rf (some l0))]) B.1.1 dX11_nextEvent_3 rfl (by decide) rfl ?_
    refine s_iconst (v := 0) B.1.1 dX11_nextEvent_4 (by decide) ?_
    refine s_istore_n (i := 3) (lv' := [(3, .int (0 : Int32)), (1, .long (1099511627776 : Int64)), (0, va_rf (some l0))]) B.1.1 dX11_nextEvent_5 rfl (by decide) rfl ?_
    exact Sm.lvs [2, 1, 0] rfl (sc_X11_nextEvent_L6 B (fun l1 => sc_X11_nextEvent_J34 B l1) fu (1099511627776 : Int64) (0 : Int32))
  exact MH.of hw ⟨rfl, rfl⟩ (by decide) (by simp [lg_sl, va_rf_cat, cat_i, cat_l, cat_r]) (mo_C_X11_nextEvent l0) M0
def C_X6_purge_J46 (l0 : Nat) (l2 : Int32) : Hp → Option (Unit × Hp) :=
  hpI 8 1 (some l0) l2 <|
  rt ()
set_option maxRecDepth 10000 in
theorem mo_C_X6_purge_J46 (l0 : Nat) (l2 : Int32) : Mo (C_X6_purge_J46 l0 l2) := by
  unfold C_X6_purge_J46
  repeat' (with_reducible first | assumption | exact mo_rt _ | exact mo_zt _ | exact mo_no | refine mo_ite ?_ ?_ | refine mo_hgI (fun _ => ?_) | refine mo_hgR (fun _ => ?_) | refine mo_hCv (fun _ => ?_) (fun _ => ?_) | refine mo_lq (fun _ => ?_) | refine mo_hpI ?_ | refine mo_hpR ?_ | refine mo_hAi (fun _ => ?_) | refine mo_hAr (fun _ => ?_) | refine mo_hWi ?_ | refine mo_hWr ?_ | refine mo_hLn (fun _ => ?_) | refine mo_hgL (fun _ => ?_) | refine mo_hpL ?_ | refine mo_hpZ ?_ | refine mo_bd ?_ (fun _ => ?_) | refine mo_hCi (fun _ => ?_) (fun _ => ?_) | refine mo_hNw (fun _ => ?_) | refine mo_hNa (fun _ => ?_) | refine mo_hCp ?_ | refine mo_hOi ?_ | refine mo_hAl (fun _ => ?_) | refine mo_hWl ?_ | refine mo_gd ?_ | refine mo_sLn (fun _ => ?_) | refine mo_sAt (fun _ => ?_) | refine mo_kLn (fun _ => ?_) | refine mo_kAt (fun _ => ?_))
set_option maxRecDepth 10000 in
theorem sc_X6_purge_J46 {g : Gm Hp Unit} (B : Bx g cX6_purge 4 RX6 voV none 2 44 "purge") {l0 : Nat} (l2 : Int32) : Sm g 4 46 [(0, va_rf (some l0)), (2, .int l2)] [] (C_X6_purge_J46 l0 l2) := by
  unfold C_X6_purge_J46
  refine s_rload_n B.1.1 0 dX6_purge_46 rfl rfl ?_
  refine s_iload_n B.1.1 1 dX6_purge_47 rfl rfl ?_
  refine hp_putI B.1 8 1 rfl (by decide) inX6 tyX6 tyX6_ok nmX6 (by decide) fk_X6_1.1 fk_X6_1.2 ft_X6_1 rfl cf_X6_17 dX6_purge_48 ?_
  exact s_vret B.1.1 B.2.2.2.2 dX6_purge_51
def C_X6_purge_B4 (l0 : Nat) (kb : Int32 → Int32 → Int32 → Hp → Option (Unit × Hp)) (ke46 : Int32 → Hp → Option (Unit × Hp)) (l1 : Int32) (l2 : Int32) (l3 : Int32) : Hp → Option (Unit × Hp) :=
  hgI 8 1 (some l0) fun v1 =>
  if v1 ≤ l3 then (
    ke46 l2
  ) else (
    hgR 8 0 (some l0) fun v2 =>
    hAr 9 v2 l3 fun v3 =>
    hCv 5 v3 (fun a => C_X3_isGone a l1) fun r4 =>
    if r4 = 0 then (
      hgR 8 0 (some l0) fun v5 =>
      hgR 8 0 (some l0) fun v6 =>
      hAr 9 v6 l3 fun v7 =>
      hWr 9 5 v5 l2 v7 <|
      kb l1 (l2 + 1) (l3 + 1)
    ) else (
      kb l1 l2 (l3 + 1)
    )
  )
def C_X6_purge_L4 (l0 : Nat) (ke46 : Int32 → Hp → Option (Unit × Hp)) : Nat → Int32 → Int32 → Int32 → Hp → Option (Unit × Hp)
  | 0, _, _, _ => no
  | n + 1, l1, l2, l3 => C_X6_purge_B4 l0 (fun l1 l2 l3 => C_X6_purge_L4 l0 ke46 n l1 l2 l3) ke46 l1 l2 l3
set_option maxRecDepth 10000 in
theorem mo_C_X6_purge_B4 (l0 : Nat) (kb : Int32 → Int32 → Int32 → Hp → Option (Unit × Hp)) (ke46 : Int32 → Hp → Option (Unit × Hp)) (hkb : ∀ (l1 : Int32) (l2 : Int32) (l3 : Int32), Mo (kb l1 l2 l3)) (hke46 : ∀ (l2 : Int32), Mo (ke46 l2)) (l1 : Int32) (l2 : Int32) (l3 : Int32) : Mo (C_X6_purge_B4 l0 kb ke46 l1 l2 l3) := by
  unfold C_X6_purge_B4
  repeat' (with_reducible first | assumption | exact mo_rt _ | exact mo_zt _ | exact mo_no | apply mo_C_X3_isGone | apply hkb | apply hke46 | refine mo_ite ?_ ?_ | refine mo_hgI (fun _ => ?_) | refine mo_hgR (fun _ => ?_) | refine mo_hCv (fun _ => ?_) (fun _ => ?_) | refine mo_lq (fun _ => ?_) | refine mo_hpI ?_ | refine mo_hpR ?_ | refine mo_hAi (fun _ => ?_) | refine mo_hAr (fun _ => ?_) | refine mo_hWi ?_ | refine mo_hWr ?_ | refine mo_hLn (fun _ => ?_) | refine mo_hgL (fun _ => ?_) | refine mo_hpL ?_ | refine mo_hpZ ?_ | refine mo_bd ?_ (fun _ => ?_) | refine mo_hCi (fun _ => ?_) (fun _ => ?_) | refine mo_hNw (fun _ => ?_) | refine mo_hNa (fun _ => ?_) | refine mo_hCp ?_ | refine mo_hOi ?_ | refine mo_hAl (fun _ => ?_) | refine mo_hWl ?_ | refine mo_gd ?_ | refine mo_sLn (fun _ => ?_) | refine mo_sAt (fun _ => ?_) | refine mo_kLn (fun _ => ?_) | refine mo_kAt (fun _ => ?_))
set_option maxRecDepth 10000 in
theorem mo_C_X6_purge_L4 (l0 : Nat) (ke46 : Int32 → Hp → Option (Unit × Hp)) (hke46 : ∀ (l2 : Int32), Mo (ke46 l2)) : ∀ (n : Nat) (l1 : Int32) (l2 : Int32) (l3 : Int32), Mo (C_X6_purge_L4 l0 ke46 n l1 l2 l3)
  | 0, _, _, _ => mo_no
  | n + 1, l1, l2, l3 => mo_C_X6_purge_B4 l0 _ ke46 (mo_C_X6_purge_L4 l0 ke46 hke46 n) hke46 l1 l2 l3
set_option maxRecDepth 10000 in
theorem sc_X6_purge_B4 {g : Gm Hp Unit} {kb : Int32 → Int32 → Int32 → Hp → Option (Unit × Hp)} {ke46 : Int32 → Hp → Option (Unit × Hp)} (B : Bx g cX6_purge 4 RX6 voV none 2 44 "purge") {l0 : Nat} (hkb : ∀ (l1 : Int32) (l2 : Int32) (l3 : Int32), Sm g 4 4 [(0, va_rf (some l0)), (1, .int l1), (2, .int l2), (3, .int l3)] [] (kb l1 l2 l3)) (hke46 : ∀ (l2 : Int32), Sm g 4 46 [(0, va_rf (some l0)), (2, .int l2)] [] (ke46 l2)) (l1 : Int32) (l2 : Int32) (l3 : Int32) : Sm g 4 4 [(0, va_rf (some l0)), (1, .int l1), (2, .int l2), (3, .int l3)] [] (C_X6_purge_B4 l0 kb ke46 l1 l2 l3) := by
  unfold C_X6_purge_B4
  refine s_iload_n B.1.1 3 dX6_purge_4 rfl rfl ?_
  refine s_rload_n B.1.1 0 dX6_purge_5 rfl rfl ?_
  refine hp_getI B.1 8 1 rfl (by decide) inX6 (by decide) fk_X6_1.1 fk_X6_1.2 cf_X6_17 dX6_purge_6 (fun v1 => ?_)
  refine s_icmp_ge B.1.1 46 dX6_purge_9 (by decide) ?_ ?_
  · exact Sm.lvs [0, 2] rfl (hke46 l2)
  · refine s_rload_n B.1.1 0 dX6_purge_12 rfl rfl ?_
    refine hp_getR B.1 8 0 rfl (by decide) inX6 (by decide) fk_X6_0 cf_X6_11 dX6_purge_13 (fun v2 => ?_)
    refine s_iload_n B.1.1 3 dX6_purge_16 rfl rfl ?_
    refine hp_Ar B.1 9 (by decide) (fun _ => rfl) dX6_purge_17 (fun v3 => ?_)
    refine s_iload_n B.1.1 1 dX6_purge_18 rfl rfl ?_
    refine hp_cvi (As := [.int l1]) (st := []) 5 rfl (by decide) B.1 (fun a => mC_X3_isGone B.2.1 a l1) cc_X3_isGone cl_X6_47 cn_X3_isGone ce_X3_isGone ci_X3 cd_X3_isGone (by decide) rfl (Nat.le_of_ble_eq_true rfl) dX6_purge_19 (fun r4 => ?_)
    refine s_if_ne B.1.1 40 dX6_purge_22 (by decide) ?_ ?_
    · refine s_iinc (v := l3 + 1) (lv' := [(3, .int (l3 + 1)), (0, va_rf (some l0)), (1, .int l1), (2, .int l2)]) B.1.1 3 dX6_purge_40 rfl rfl (by decide) rfl ?_
      refine s_goto B.1.1 4 dX6_purge_43 (by decide) ?_
      exact Sm.lvs [1, 2, 3, 0] rfl (hkb l1 l2 (l3 + 1))
    · refine s_rload_n B.1.1 0 dX6_purge_25 rfl rfl ?_
      refine hp_getR B.1 8 0 rfl (by decide) inX6 (by decide) fk_X6_0 cf_X6_11 dX6_purge_26 (fun v5 => ?_)
      refine s_iload_n B.1.1 2 dX6_purge_29 rfl rfl ?_
      refine s_rload_n B.1.1 0 dX6_purge_30 rfl rfl ?_
      refine hp_getR B.1 8 0 rfl (by decide) inX6 (by decide) fk_X6_0 cf_X6_11 dX6_purge_31 (fun v6 => ?_)
      refine s_iload_n B.1.1 3 dX6_purge_34 rfl rfl ?_
      refine hp_Ar B.1 9 (by decide) (fun _ => rfl) dX6_purge_35 (fun v7 => ?_)
      refine hp_Wr B.1 9 5 (by decide) (fun _ => rfl) rfl (by decide) dX6_purge_36 ?_
      refine s_iinc (v := l2 + 1) (lv' := [(2, .int (l2 + 1)), (0, va_rf (some l0)), (1, .int l1), (3, .int l3)]) B.1.1 2 dX6_purge_37 rfl rfl (by decide) rfl ?_
      refine s_iinc (v := l3 + 1) (lv' := [(3, .int (l3 + 1)), (2, .int (l2 + 1)), (0, va_rf (some l0)), (1, .int l1)]) B.1.1 3 dX6_purge_40 rfl rfl (by decide) rfl ?_
      refine s_goto B.1.1 4 dX6_purge_43 (by decide) ?_
      exact Sm.lvs [2, 3, 1, 0] rfl (hkb l1 (l2 + 1) (l3 + 1))
set_option maxRecDepth 10000 in
theorem sc_X6_purge_L4 {g : Gm Hp Unit} {ke46 : Int32 → Hp → Option (Unit × Hp)} (B : Bx g cX6_purge 4 RX6 voV none 2 44 "purge") {l0 : Nat} (hke46 : ∀ (l2 : Int32), Sm g 4 46 [(0, va_rf (some l0)), (2, .int l2)] [] (ke46 l2)) : ∀ (n : Nat) (l1 : Int32) (l2 : Int32) (l3 : Int32), Sm g 4 4 [(0, va_rf (some l0)), (1, .int l1), (2, .int l2), (3, .int l3)] [] (C_X6_purge_L4 l0 ke46 n l1 l2 l3)
  | 0, _, _, _ => Sm.fail
  | n + 1, l1, l2, l3 => sc_X6_purge_B4 B (sc_X6_purge_L4 B hke46 n) hke46 l1 l2 l3
def C_X6_purge (l0 : Nat) (l1 : Int32) : Hp → Option (Unit × Hp) :=
  C_X6_purge_L4 l0 (fun l2 => C_X6_purge_J46 l0 l2) fu l1 (0 : Int32) (0 : Int32)
set_option maxRecDepth 10000 in
theorem mo_C_X6_purge (l0 : Nat) (l1 : Int32) : Mo (C_X6_purge l0 l1) := by
  unfold C_X6_purge
  repeat' (with_reducible first | assumption | exact mo_rt _ | exact mo_zt _ | exact mo_no | apply mo_C_X6_purge_L4 | apply mo_C_X6_purge_J46 | refine mo_ite ?_ ?_ | refine mo_hgI (fun _ => ?_) | refine mo_hgR (fun _ => ?_) | refine mo_hCv (fun _ => ?_) (fun _ => ?_) | refine mo_lq (fun _ => ?_) | refine mo_hpI ?_ | refine mo_hpR ?_ | refine mo_hAi (fun _ => ?_) | refine mo_hAr (fun _ => ?_) | refine mo_hWi ?_ | refine mo_hWr ?_ | refine mo_hLn (fun _ => ?_) | refine mo_hgL (fun _ => ?_) | refine mo_hpL ?_ | refine mo_hpZ ?_ | refine mo_bd ?_ (fun _ => ?_) | refine mo_hCi (fun _ => ?_) (fun _ => ?_) | refine mo_hNw (fun _ => ?_) | refine mo_hNa (fun _ => ?_) | refine mo_hCp ?_ | refine mo_hOi ?_ | refine mo_hAl (fun _ => ?_) | refine mo_hWl ?_ | refine mo_gd ?_ | refine mo_sLn (fun _ => ?_) | refine mo_sAt (fun _ => ?_) | refine mo_kLn (fun _ => ?_) | refine mo_kAt (fun _ => ?_))
set_option maxRecDepth 10000 in
theorem mC_X6_purge {w : Wd} (hw : Wc w) (l0 : Nat) (l1 : Int32) : MH w yX6_purge cX6_purge 4 none 2 44 voV [va_rf (some l0), .int l1] (C_X6_purge l0 l1) := by
  have M0 : ∀ g : Gm Hp Unit, g.1 = w → Bx g cX6_purge 4 RX6 voV none 2 44 "purge" → Sm g 4 0 (lv_args 0 [va_rf (some l0), .int l1]) [] (C_X6_purge l0 l1) := by
    intro g hg B
    subst hg
    unfold C_X6_purge
    refine W_lva (lv := [(0, va_rf (some l0)), (1, .int l1)]) (by simp [lv_args, va_rf_cat, cat_i, cat_l, cat_r]) ?_
    refine s_iconst (v := 0) B.1.1 dX6_purge_0 (by decide) ?_
    refine s_istore_n (i := 2) (lv' := [(2, .int (0 : Int32)), (0, va_rf (some l0)), (1, .int l1)]) B.1.1 dX6_purge_1 rfl (by decide) rfl ?_
    refine s_iconst (v := 0) B.1.1 dX6_purge_2 (by decide) ?_
    refine s_istore_n (i := 3) (lv' := [(3, .int (0 : Int32)), (2, .int (0 : Int32)), (0, va_rf (some l0)), (1, .int l1)]) B.1.1 dX6_purge_3 rfl (by decide) rfl ?_
    exact Sm.lvs [2, 3, 1, 0] rfl (sc_X6_purge_L4 B (fun l2 => sc_X6_purge_J46 B l2) fu l1 (0 : Int32) (0 : Int32))
  exact MH.of hw ⟨rfl, rfl⟩ (by decide) (by simp [lg_sl, va_rf_cat, cat_i, cat_l, cat_r]) (mo_C_X6_purge l0 l1) M0
def C_X11_tick_J151 (l0 : Nat) : Hp → Option (Unit × Hp) :=
  rt ()
set_option maxRecDepth 10000 in
theorem mo_C_X11_tick_J151 (l0 : Nat) : Mo (C_X11_tick_J151 l0) := by
  unfold C_X11_tick_J151
  repeat' (with_reducible first | assumption | exact mo_rt _ | exact mo_zt _ | exact mo_no | refine mo_ite ?_ ?_ | refine mo_hgI (fun _ => ?_) | refine mo_hgR (fun _ => ?_) | refine mo_hCv (fun _ => ?_) (fun _ => ?_) | refine mo_lq (fun _ => ?_) | refine mo_hpI ?_ | refine mo_hpR ?_ | refine mo_hAi (fun _ => ?_) | refine mo_hAr (fun _ => ?_) | refine mo_hWi ?_ | refine mo_hWr ?_ | refine mo_hLn (fun _ => ?_) | refine mo_hgL (fun _ => ?_) | refine mo_hpL ?_ | refine mo_hpZ ?_ | refine mo_bd ?_ (fun _ => ?_) | refine mo_hCi (fun _ => ?_) (fun _ => ?_) | refine mo_hNw (fun _ => ?_) | refine mo_hNa (fun _ => ?_) | refine mo_hCp ?_ | refine mo_hOi ?_ | refine mo_hAl (fun _ => ?_) | refine mo_hWl ?_ | refine mo_gd ?_ | refine mo_sLn (fun _ => ?_) | refine mo_sAt (fun _ => ?_) | refine mo_kLn (fun _ => ?_) | refine mo_kAt (fun _ => ?_))
set_option maxRecDepth 10000 in
theorem sc_X11_tick_J151 {g : Gm Hp Unit} (B : Bx g cX11_tick 3 RX11 voV none 6 161 "tick") {l0 : Nat} : Sm g 3 151 [] [] (C_X11_tick_J151 l0) := by
  unfold C_X11_tick_J151
  exact s_vret B.1.1 B.2.2.2.2 dX11_tick_151
def C_X11_tick_B110 (l0 : Nat) (kb : Int32 → Hp → Option (Unit × Hp)) (ke151 : Hp → Option (Unit × Hp)) (l1 : Int32) : Hp → Option (Unit × Hp) :=
  if (12 : Int32) ≤ l1 then (
    ke151
  ) else (
    hgR 13 1 (some l0) fun v1 =>
    hAr 5 v1 l1 fun v2 =>
    if v2 = none then (
      kb (l1 + 1)
    ) else (
      hCv 10 v2 (fun a => C_X8_endTime a) fun r3 =>
      hgI 13 9 (some l0) fun v4 =>
      if 0 < (lg_cmp r3 v4.toInt64) then (
        kb (l1 + 1)
      ) else (
        hCv 13 (some l0) (fun a => C_X11_end a v2) fun r5 =>
        kb (l1 + 1)
      )
    )
  )
def C_X11_tick_L110 (l0 : Nat) (ke151 : Hp → Option (Unit × Hp)) : Nat → Int32 → Hp → Option (Unit × Hp)
  | 0, _ => no
  | n + 1, l1 => C_X11_tick_B110 l0 (fun l1 => C_X11_tick_L110 l0 ke151 n l1) ke151 l1
set_option maxRecDepth 10000 in
theorem mo_C_X11_tick_B110 (l0 : Nat) (kb : Int32 → Hp → Option (Unit × Hp)) (ke151 : Hp → Option (Unit × Hp)) (hkb : ∀ (l1 : Int32), Mo (kb l1)) (hke151 : Mo (ke151)) (l1 : Int32) : Mo (C_X11_tick_B110 l0 kb ke151 l1) := by
  unfold C_X11_tick_B110
  repeat' (with_reducible first | assumption | exact mo_rt _ | exact mo_zt _ | exact mo_no | apply mo_C_X8_endTime | apply mo_C_X11_end | apply hkb | apply hke151 | refine mo_ite ?_ ?_ | refine mo_hgI (fun _ => ?_) | refine mo_hgR (fun _ => ?_) | refine mo_hCv (fun _ => ?_) (fun _ => ?_) | refine mo_lq (fun _ => ?_) | refine mo_hpI ?_ | refine mo_hpR ?_ | refine mo_hAi (fun _ => ?_) | refine mo_hAr (fun _ => ?_) | refine mo_hWi ?_ | refine mo_hWr ?_ | refine mo_hLn (fun _ => ?_) | refine mo_hgL (fun _ => ?_) | refine mo_hpL ?_ | refine mo_hpZ ?_ | refine mo_bd ?_ (fun _ => ?_) | refine mo_hCi (fun _ => ?_) (fun _ => ?_) | refine mo_hNw (fun _ => ?_) | refine mo_hNa (fun _ => ?_) | refine mo_hCp ?_ | refine mo_hOi ?_ | refine mo_hAl (fun _ => ?_) | refine mo_hWl ?_ | refine mo_gd ?_ | refine mo_sLn (fun _ => ?_) | refine mo_sAt (fun _ => ?_) | refine mo_kLn (fun _ => ?_) | refine mo_kAt (fun _ => ?_))
set_option maxRecDepth 10000 in
theorem mo_C_X11_tick_L110 (l0 : Nat) (ke151 : Hp → Option (Unit × Hp)) (hke151 : Mo (ke151)) : ∀ (n : Nat) (l1 : Int32), Mo (C_X11_tick_L110 l0 ke151 n l1)
  | 0, _ => mo_no
  | n + 1, l1 => mo_C_X11_tick_B110 l0 _ ke151 (mo_C_X11_tick_L110 l0 ke151 hke151 n) hke151 l1
set_option maxRecDepth 10000 in
theorem sc_X11_tick_B110 {g : Gm Hp Unit} {kb : Int32 → Hp → Option (Unit × Hp)} {ke151 : Hp → Option (Unit × Hp)} (B : Bx g cX11_tick 3 RX11 voV none 6 161 "tick") {l0 : Nat} (hkb : ∀ (l1 : Int32), Sm g 3 110 [(0, va_rf (some l0)), (1, .int l1)] [] (kb l1)) (hke151 : Sm g 3 151 [] [] (ke151)) (l1 : Int32) : Sm g 3 110 [(0, va_rf (some l0)), (1, .int l1)] [] (C_X11_tick_B110 l0 kb ke151 l1) := by
  unfold C_X11_tick_B110
  refine s_iload_n B.1.1 1 dX11_tick_110 rfl rfl ?_
  refine s_bipush (v := (12)) B.1.1 dX11_tick_111 (by decide) ?_
  refine s_icmp_ge B.1.1 151 dX11_tick_113 (by decide) ?_ ?_
  · exact Sm.lvs [] rfl (hke151)
  · refine s_rload_n B.1.1 0 dX11_tick_116 rfl rfl ?_
    refine hp_getR B.1 13 1 rfl (by decide) inX11 (by decide) fk_X11_1 cf_X11_20 dX11_tick_117 (fun v1 => ?_)
    refine s_iload_n B.1.1 1 dX11_tick_120 rfl rfl ?_
    refine hp_Ar B.1 5 (by decide) (fun _ => rfl) dX11_tick_121 (fun v2 => ?_)
    refine s_rstore_n (i := 2) (lv' := [(2, va_rf v2), (0, va_rf (some l0)), (1, .int l1)]) B.1.1 dX11_tick_122 rfl (by decide) rfl ?_
    refine s_rload_n B.1.1 0 dX11_tick_123 rfl rfl ?_
    refine s_ifnull B.1.1 145 dX11_tick_124 (by decide) ?_ ?_
    · refine s_iinc (v := l1 + 1) (lv' := [(1, .int (l1 + 1)), (2, va_rf v2), (0, va_rf (some l0))]) B.1.1 2 dX11_tick_145 rfl rfl (by decide) rfl ?_
      refine s_goto B.1.1 110 dX11_tick_148 (by decide) ?_
      exact Sm.lvs [2, 0] rfl (hkb (l1 + 1))
    · refine s_rload_n B.1.1 0 dX11_tick_127 rfl rfl ?_
      refine hp_cvl (As := []) (st := []) 10 rfl (by decide) B.1 (fun a => mC_X8_endTime B.2.1 a ) cc_X8_endTime cl_X11_631 cn_X8_endTime ce_X8_endTime ci_X8 cd_X8_endTime (by decide) rfl (Nat.le_of_ble_eq_true rfl) dX11_tick_128 (fun r3 => ?_)
      refine s_rload_n B.1.1 1 dX11_tick_131 rfl rfl ?_
      refine hp_getI B.1 13 9 rfl (by decide) inX11 (by decide) fk_X11_9.1 fk_X11_9.2 cf_X11_131 dX11_tick_132 (fun v4 => ?_)
      refine s_i2l B.1.1 dX11_tick_135 ?_
      refine s_lcmp B.1.1 dX11_tick_136 ?_
      refine s_if_gt B.1.1 145 dX11_tick_137 (by decide) ?_ ?_
      · refine s_iinc (v := l1 + 1) (lv' := [(1, .int (l1 + 1)), (2, va_rf v2), (0, va_rf (some l0))]) B.1.1 2 dX11_tick_145 rfl rfl (by decide) rfl ?_
        refine s_goto B.1.1 110 dX11_tick_148 (by decide) ?_
        exact Sm.lvs [2, 0] rfl (hkb (l1 + 1))
      · refine s_rload_n B.1.1 1 dX11_tick_140 rfl rfl ?_
        refine s_rload_n B.1.1 0 dX11_tick_141 rfl rfl ?_
        refine hp_cvv (As := [va_rf v2]) (st := []) 13 rfl (by decide) B.1 (fun a => mC_X11_end B.2.1 a v2) cc_X11_end cl_X11_378 cn_X11_end ce_X11_end ci_X11 cd_X11_end (by decide) rfl (Nat.le_of_ble_eq_true rfl) dX11_tick_142 (fun r5 => ?_)
        refine s_iinc (v := l1 + 1) (lv' := [(1, .int (l1 + 1)), (2, va_rf v2), (0, va_rf (some l0))]) B.1.1 2 dX11_tick_145 rfl rfl (by decide) rfl ?_
        refine s_goto B.1.1 110 dX11_tick_148 (by decide) ?_
        exact Sm.lvs [2, 0] rfl (hkb (l1 + 1))
set_option maxRecDepth 10000 in
theorem sc_X11_tick_L110 {g : Gm Hp Unit} {ke151 : Hp → Option (Unit × Hp)} (B : Bx g cX11_tick 3 RX11 voV none 6 161 "tick") {l0 : Nat} (hke151 : Sm g 3 151 [] [] (ke151)) : ∀ (n : Nat) (l1 : Int32), Sm g 3 110 [(0, va_rf (some l0)), (1, .int l1)] [] (C_X11_tick_L110 l0 ke151 n l1)
  | 0, _ => Sm.fail
  | n + 1, l1 => sc_X11_tick_B110 B (sc_X11_tick_L110 B hke151 n) hke151 l1
def C_X11_tick_J108 (l0 : Nat) : Hp → Option (Unit × Hp) :=
  C_X11_tick_L110 l0 (C_X11_tick_J151 l0) fu (0 : Int32)
set_option maxRecDepth 10000 in
theorem mo_C_X11_tick_J108 (l0 : Nat) : Mo (C_X11_tick_J108 l0) := by
  unfold C_X11_tick_J108
  repeat' (with_reducible first | assumption | exact mo_rt _ | exact mo_zt _ | exact mo_no | apply mo_C_X11_tick_L110 | apply mo_C_X11_tick_J151 | refine mo_ite ?_ ?_ | refine mo_hgI (fun _ => ?_) | refine mo_hgR (fun _ => ?_) | refine mo_hCv (fun _ => ?_) (fun _ => ?_) | refine mo_lq (fun _ => ?_) | refine mo_hpI ?_ | refine mo_hpR ?_ | refine mo_hAi (fun _ => ?_) | refine mo_hAr (fun _ => ?_) | refine mo_hWi ?_ | refine mo_hWr ?_ | refine mo_hLn (fun _ => ?_) | refine mo_hgL (fun _ => ?_) | refine mo_hpL ?_ | refine mo_hpZ ?_ | refine mo_bd ?_ (fun _ => ?_) | refine mo_hCi (fun _ => ?_) (fun _ => ?_) | refine mo_hNw (fun _ => ?_) | refine mo_hNa (fun _ => ?_) | refine mo_hCp ?_ | refine mo_hOi ?_ | refine mo_hAl (fun _ => ?_) | refine mo_hWl ?_ | refine mo_gd ?_ | refine mo_sLn (fun _ => ?_) | refine mo_sAt (fun _ => ?_) | refine mo_kLn (fun _ => ?_) | refine mo_kAt (fun _ => ?_))
set_option maxRecDepth 10000 in
theorem sc_X11_tick_J108 {g : Gm Hp Unit} (B : Bx g cX11_tick 3 RX11 voV none 6 161 "tick") {l0 : Nat} : Sm g 3 108 [(0, va_rf (some l0))] [] (C_X11_tick_J108 l0) := by
  unfold C_X11_tick_J108
  refine s_iconst (v := 0) B.1.1 dX11_tick_108 (by decide) ?_
  refine s_istore_n (i := 1) (lv' := [(1, .int (0 : Int32)), (0, va_rf (some l0))]) B.1.1 dX11_tick_109 rfl (by decide) rfl ?_
  exact Sm.lvs [1, 0] rfl (sc_X11_tick_L110 B (sc_X11_tick_J151 B) fu (0 : Int32))
def C_X11_tick_B67 (l0 : Nat) (kb : Int32 → Hp → Option (Unit × Hp)) (ke108 : Hp → Option (Unit × Hp)) (l1 : Int32) : Hp → Option (Unit × Hp) :=
  if (12 : Int32) ≤ l1 then (
    ke108
  ) else (
    hgR 13 1 (some l0) fun v6 =>
    hAr 5 v6 l1 fun v7 =>
    if v7 = none then (
      kb (l1 + 1)
    ) else (
      hCv 10 v7 (fun a => C_X8_willTime a) fun r8 =>
      hgI 13 9 (some l0) fun v9 =>
      if 0 < (lg_cmp r8 v9.toInt64) then (
        kb (l1 + 1)
      ) else (
        hCv 13 (some l0) (fun a => C_X11_comes a v7) fun r10 =>
        kb (l1 + 1)
      )
    )
  )
def C_X11_tick_L67 (l0 : Nat) (ke108 : Hp → Option (Unit × Hp)) : Nat → Int32 → Hp → Option (Unit × Hp)
  | 0, _ => no
  | n + 1, l1 => C_X11_tick_B67 l0 (fun l1 => C_X11_tick_L67 l0 ke108 n l1) ke108 l1
set_option maxRecDepth 10000 in
theorem mo_C_X11_tick_B67 (l0 : Nat) (kb : Int32 → Hp → Option (Unit × Hp)) (ke108 : Hp → Option (Unit × Hp)) (hkb : ∀ (l1 : Int32), Mo (kb l1)) (hke108 : Mo (ke108)) (l1 : Int32) : Mo (C_X11_tick_B67 l0 kb ke108 l1) := by
  unfold C_X11_tick_B67
  repeat' (with_reducible first | assumption | exact mo_rt _ | exact mo_zt _ | exact mo_no | apply mo_C_X8_willTime | apply mo_C_X11_comes | apply hkb | apply hke108 | refine mo_ite ?_ ?_ | refine mo_hgI (fun _ => ?_) | refine mo_hgR (fun _ => ?_) | refine mo_hCv (fun _ => ?_) (fun _ => ?_) | refine mo_lq (fun _ => ?_) | refine mo_hpI ?_ | refine mo_hpR ?_ | refine mo_hAi (fun _ => ?_) | refine mo_hAr (fun _ => ?_) | refine mo_hWi ?_ | refine mo_hWr ?_ | refine mo_hLn (fun _ => ?_) | refine mo_hgL (fun _ => ?_) | refine mo_hpL ?_ | refine mo_hpZ ?_ | refine mo_bd ?_ (fun _ => ?_) | refine mo_hCi (fun _ => ?_) (fun _ => ?_) | refine mo_hNw (fun _ => ?_) | refine mo_hNa (fun _ => ?_) | refine mo_hCp ?_ | refine mo_hOi ?_ | refine mo_hAl (fun _ => ?_) | refine mo_hWl ?_ | refine mo_gd ?_ | refine mo_sLn (fun _ => ?_) | refine mo_sAt (fun _ => ?_) | refine mo_kLn (fun _ => ?_) | refine mo_kAt (fun _ => ?_))
set_option maxRecDepth 10000 in
theorem mo_C_X11_tick_L67 (l0 : Nat) (ke108 : Hp → Option (Unit × Hp)) (hke108 : Mo (ke108)) : ∀ (n : Nat) (l1 : Int32), Mo (C_X11_tick_L67 l0 ke108 n l1)
  | 0, _ => mo_no
  | n + 1, l1 => mo_C_X11_tick_B67 l0 _ ke108 (mo_C_X11_tick_L67 l0 ke108 hke108 n) hke108 l1
set_option maxRecDepth 10000 in
theorem sc_X11_tick_B67 {g : Gm Hp Unit} {kb : Int32 → Hp → Option (Unit × Hp)} {ke108 : Hp → Option (Unit × Hp)} (B : Bx g cX11_tick 3 RX11 voV none 6 161 "tick") {l0 : Nat} (hkb : ∀ (l1 : Int32), Sm g 3 67 [(0, va_rf (some l0)), (1, .int l1)] [] (kb l1)) (hke108 : Sm g 3 108 [(0, va_rf (some l0))] [] (ke108)) (l1 : Int32) : Sm g 3 67 [(0, va_rf (some l0)), (1, .int l1)] [] (C_X11_tick_B67 l0 kb ke108 l1) := by
  unfold C_X11_tick_B67
  refine s_iload_n B.1.1 1 dX11_tick_67 rfl rfl ?_
  refine s_bipush (v := (12)) B.1.1 dX11_tick_68 (by decide) ?_
  refine s_icmp_ge B.1.1 108 dX11_tick_70 (by decide) ?_ ?_
  · exact Sm.lvs [0] rfl (hke108)
  · refine s_rload_n B.1.1 0 dX11_tick_73 rfl rfl ?_
    refine hp_getR B.1 13 1 rfl (by decide) inX11 (by decide) fk_X11_1 cf_X11_20 dX11_tick_74 (fun v6 => ?_)
    refine s_iload_n B.1.1 1 dX11_tick_77 rfl rfl ?_
    refine hp_Ar B.1 5 (by decide) (fun _ => rfl) dX11_tick_78 (fun v7 => ?_)
    refine s_rstore_n (i := 2) (lv' := [(2, va_rf v7), (0, va_rf (some l0)), (1, .int l1)]) B.1.1 dX11_tick_79 rfl (by decide) rfl ?_
    refine s_rload_n B.1.1 0 dX11_tick_80 rfl rfl ?_
    refine s_ifnull B.1.1 102 dX11_tick_81 (by decide) ?_ ?_
    · refine s_iinc (v := l1 + 1) (lv' := [(1, .int (l1 + 1)), (2, va_rf v7), (0, va_rf (some l0))]) B.1.1 2 dX11_tick_102 rfl rfl (by decide) rfl ?_
      refine s_goto B.1.1 67 dX11_tick_105 (by decide) ?_
      exact Sm.lvs [2, 0] rfl (hkb (l1 + 1))
    · refine s_rload_n B.1.1 0 dX11_tick_84 rfl rfl ?_
      refine hp_cvl (As := []) (st := []) 10 rfl (by decide) B.1 (fun a => mC_X8_willTime B.2.1 a ) cc_X8_willTime cl_X11_628 cn_X8_willTime ce_X8_willTime ci_X8 cd_X8_willTime (by decide) rfl (Nat.le_of_ble_eq_true rfl) dX11_tick_85 (fun r8 => ?_)
      refine s_rload_n B.1.1 1 dX11_tick_88 rfl rfl ?_
      refine hp_getI B.1 13 9 rfl (by decide) inX11 (by decide) fk_X11_9.1 fk_X11_9.2 cf_X11_131 dX11_tick_89 (fun v9 => ?_)
      refine s_i2l B.1.1 dX11_tick_92 ?_
      refine s_lcmp B.1.1 dX11_tick_93 ?_
      refine s_if_gt B.1.1 102 dX11_tick_94 (by decide) ?_ ?_
      · refine s_iinc (v := l1 + 1) (lv' := [(1, .int (l1 + 1)), (2, va_rf v7), (0, va_rf (some l0))]) B.1.1 2 dX11_tick_102 rfl rfl (by decide) rfl ?_
        refine s_goto B.1.1 67 dX11_tick_105 (by decide) ?_
        exact Sm.lvs [2, 0] rfl (hkb (l1 + 1))
      · refine s_rload_n B.1.1 1 dX11_tick_97 rfl rfl ?_
        refine s_rload_n B.1.1 0 dX11_tick_98 rfl rfl ?_
        refine hp_cvv (As := [va_rf v7]) (st := []) 13 rfl (by decide) B.1 (fun a => mC_X11_comes B.2.1 a v7) cc_X11_comes cl_X11_613 cn_X11_comes ce_X11_comes ci_X11 cd_X11_comes (by decide) rfl (Nat.le_of_ble_eq_true rfl) dX11_tick_99 (fun r10 => ?_)
        refine s_iinc (v := l1 + 1) (lv' := [(1, .int (l1 + 1)), (2, va_rf v7), (0, va_rf (some l0))]) B.1.1 2 dX11_tick_102 rfl rfl (by decide) rfl ?_
        refine s_goto B.1.1 67 dX11_tick_105 (by decide) ?_
        exact Sm.lvs [2, 0] rfl (hkb (l1 + 1))
set_option maxRecDepth 10000 in
theorem sc_X11_tick_L67 {g : Gm Hp Unit} {ke108 : Hp → Option (Unit × Hp)} (B : Bx g cX11_tick 3 RX11 voV none 6 161 "tick") {l0 : Nat} (hke108 : Sm g 3 108 [(0, va_rf (some l0))] [] (ke108)) : ∀ (n : Nat) (l1 : Int32), Sm g 3 67 [(0, va_rf (some l0)), (1, .int l1)] [] (C_X11_tick_L67 l0 ke108 n l1)
  | 0, _ => Sm.fail
  | n + 1, l1 => sc_X11_tick_B67 B (sc_X11_tick_L67 B hke108 n) hke108 l1
def C_X11_tick_J65 (l0 : Nat) : Hp → Option (Unit × Hp) :=
  C_X11_tick_L67 l0 (C_X11_tick_J108 l0) fu (0 : Int32)
set_option maxRecDepth 10000 in
theorem mo_C_X11_tick_J65 (l0 : Nat) : Mo (C_X11_tick_J65 l0) := by
  unfold C_X11_tick_J65
  repeat' (with_reducible first | assumption | exact mo_rt _ | exact mo_zt _ | exact mo_no | apply mo_C_X11_tick_L67 | apply mo_C_X11_tick_J108 | refine mo_ite ?_ ?_ | refine mo_hgI (fun _ => ?_) | refine mo_hgR (fun _ => ?_) | refine mo_hCv (fun _ => ?_) (fun _ => ?_) | refine mo_lq (fun _ => ?_) | refine mo_hpI ?_ | refine mo_hpR ?_ | refine mo_hAi (fun _ => ?_) | refine mo_hAr (fun _ => ?_) | refine mo_hWi ?_ | refine mo_hWr ?_ | refine mo_hLn (fun _ => ?_) | refine mo_hgL (fun _ => ?_) | refine mo_hpL ?_ | refine mo_hpZ ?_ | refine mo_bd ?_ (fun _ => ?_) | refine mo_hCi (fun _ => ?_) (fun _ => ?_) | refine mo_hNw (fun _ => ?_) | refine mo_hNa (fun _ => ?_) | refine mo_hCp ?_ | refine mo_hOi ?_ | refine mo_hAl (fun _ => ?_) | refine mo_hWl ?_ | refine mo_gd ?_ | refine mo_sLn (fun _ => ?_) | refine mo_sAt (fun _ => ?_) | refine mo_kLn (fun _ => ?_) | refine mo_kAt (fun _ => ?_))
set_option maxRecDepth 10000 in
theorem sc_X11_tick_J65 {g : Gm Hp Unit} (B : Bx g cX11_tick 3 RX11 voV none 6 161 "tick") {l0 : Nat} : Sm g 3 65 [(0, va_rf (some l0))] [] (C_X11_tick_J65 l0) := by
  unfold C_X11_tick_J65
  refine s_iconst (v := 0) B.1.1 dX11_tick_65 (by decide) ?_
  refine s_istore_n (i := 1) (lv' := [(1, .int (0 : Int32)), (0, va_rf (some l0))]) B.1.1 dX11_tick_66 rfl (by decide) rfl ?_
  exact Sm.lvs [1, 0] rfl (sc_X11_tick_L67 B (sc_X11_tick_J108 B) fu (0 : Int32))
def C_X11_tick_B13 (l0 : Nat) (kb : Int32 → Hp → Option (Unit × Hp)) (ke65 : Hp → Option (Unit × Hp)) (l1 : Int32) : Hp → Option (Unit × Hp) :=
  if (8 : Int32) ≤ l1 then (
    ke65
  ) else (
    hgR 13 0 (some l0) fun v11 =>
    hAr 4 v11 l1 fun v12 =>
    hgR 2 2 v12 fun v13 =>
    if v13 = none then (
      kb (l1 + 1)
    ) else (
      hCv 2 v12 (fun a => C_X0_quietUntil a) fun r14 =>
      hgI 13 9 (some l0) fun v15 =>
      if 0 ≤ (lg_cmp r14 v15.toInt64) then (
        kb (l1 + 1)
      ) else (
        hCv 13 (some l0) (fun a => C_X11_sayFarewell a v12 (141 : Int32)) fun r16 =>
        hCv 13 (some l0) (fun a => C_X11_lost a v12) fun r17 =>
        kb (l1 + 1)
      )
    )
  )
def C_X11_tick_L13 (l0 : Nat) (ke65 : Hp → Option (Unit × Hp)) : Nat → Int32 → Hp → Option (Unit × Hp)
  | 0, _ => no
  | n + 1, l1 => C_X11_tick_B13 l0 (fun l1 => C_X11_tick_L13 l0 ke65 n l1) ke65 l1
set_option maxRecDepth 10000 in
theorem mo_C_X11_tick_B13 (l0 : Nat) (kb : Int32 → Hp → Option (Unit × Hp)) (ke65 : Hp → Option (Unit × Hp)) (hkb : ∀ (l1 : Int32), Mo (kb l1)) (hke65 : Mo (ke65)) (l1 : Int32) : Mo (C_X11_tick_B13 l0 kb ke65 l1) := by
  unfold C_X11_tick_B13
  repeat' (with_reducible first | assumption | exact mo_rt _ | exact mo_zt _ | exact mo_no | apply mo_C_X0_quietUntil | apply mo_C_X11_sayFarewell | apply mo_C_X11_lost | apply hkb | apply hke65 | refine mo_ite ?_ ?_ | refine mo_hgI (fun _ => ?_) | refine mo_hgR (fun _ => ?_) | refine mo_hCv (fun _ => ?_) (fun _ => ?_) | refine mo_lq (fun _ => ?_) | refine mo_hpI ?_ | refine mo_hpR ?_ | refine mo_hAi (fun _ => ?_) | refine mo_hAr (fun _ => ?_) | refine mo_hWi ?_ | refine mo_hWr ?_ | refine mo_hLn (fun _ => ?_) | refine mo_hgL (fun _ => ?_) | refine mo_hpL ?_ | refine mo_hpZ ?_ | refine mo_bd ?_ (fun _ => ?_) | refine mo_hCi (fun _ => ?_) (fun _ => ?_) | refine mo_hNw (fun _ => ?_) | refine mo_hNa (fun _ => ?_) | refine mo_hCp ?_ | refine mo_hOi ?_ | refine mo_hAl (fun _ => ?_) | refine mo_hWl ?_ | refine mo_gd ?_ | refine mo_sLn (fun _ => ?_) | refine mo_sAt (fun _ => ?_) | refine mo_kLn (fun _ => ?_) | refine mo_kAt (fun _ => ?_))
set_option maxRecDepth 10000 in
theorem mo_C_X11_tick_L13 (l0 : Nat) (ke65 : Hp → Option (Unit × Hp)) (hke65 : Mo (ke65)) : ∀ (n : Nat) (l1 : Int32), Mo (C_X11_tick_L13 l0 ke65 n l1)
  | 0, _ => mo_no
  | n + 1, l1 => mo_C_X11_tick_B13 l0 _ ke65 (mo_C_X11_tick_L13 l0 ke65 hke65 n) hke65 l1
set_option maxRecDepth 10000 in
theorem sc_X11_tick_B13 {g : Gm Hp Unit} {kb : Int32 → Hp → Option (Unit × Hp)} {ke65 : Hp → Option (Unit × Hp)} (B : Bx g cX11_tick 3 RX11 voV none 6 161 "tick") {l0 : Nat} (hkb : ∀ (l1 : Int32), Sm g 3 13 [(0, va_rf (some l0)), (1, .int l1)] [] (kb l1)) (hke65 : Sm g 3 65 [(0, va_rf (some l0))] [] (ke65)) (l1 : Int32) : Sm g 3 13 [(0, va_rf (some l0)), (1, .int l1)] [] (C_X11_tick_B13 l0 kb ke65 l1) := by
  unfold C_X11_tick_B13
  refine s_iload_n B.1.1 1 dX11_tick_13 rfl rfl ?_
  refine s_bipush (v := (8)) B.1.1 dX11_tick_14 (by decide) ?_
  refine s_icmp_ge B.1.1 65 dX11_tick_16 (by decide) ?_ ?_
  · exact Sm.lvs [0] rfl (hke65)
  · refine s_rload_n B.1.1 0 dX11_tick_19 rfl rfl ?_
    refine hp_getR B.1 13 0 rfl (by decide) inX11 (by decide) fk_X11_0 cf_X11_11 dX11_tick_20 (fun v11 => ?_)
    refine s_iload_n B.1.1 1 dX11_tick_23 rfl rfl ?_
    refine hp_Ar B.1 4 (by decide) (fun _ => rfl) dX11_tick_24 (fun v12 => ?_)
    refine s_rstore_n (i := 2) (lv' := [(2, va_rf v12), (0, va_rf (some l0)), (1, .int l1)]) B.1.1 dX11_tick_25 rfl (by decide) rfl ?_
    refine s_rload_n B.1.1 0 dX11_tick_26 rfl rfl ?_
    refine hp_getR B.1 2 2 rfl (by decide) inX0 (by decide) fk_X0_2 cf_X11_286 dX11_tick_27 (fun v13 => ?_)
    refine s_ifnull B.1.1 59 dX11_tick_30 (by decide) ?_ ?_
    · refine s_iinc (v := l1 + 1) (lv' := [(1, .int (l1 + 1)), (2, va_rf v12), (0, va_rf (some l0))]) B.1.1 2 dX11_tick_59 rfl rfl (by decide) rfl ?_
      refine s_goto B.1.1 13 dX11_tick_62 (by decide) ?_
      exact Sm.lvs [2, 0] rfl (hkb (l1 + 1))
    · refine s_rload_n B.1.1 0 dX11_tick_33 rfl rfl ?_
      refine hp_cvl (As := []) (st := []) 2 rfl (by decide) B.1 (fun a => mC_X0_quietUntil B.2.1 a ) cc_X0_quietUntil cl_X11_625 cn_X0_quietUntil ce_X0_quietUntil ci_X0 cd_X0_quietUntil (by decide) rfl (Nat.le_of_ble_eq_true rfl) dX11_tick_34 (fun r14 => ?_)
      refine s_rload_n B.1.1 1 dX11_tick_37 rfl rfl ?_
      refine hp_getI B.1 13 9 rfl (by decide) inX11 (by decide) fk_X11_9.1 fk_X11_9.2 cf_X11_131 dX11_tick_38 (fun v15 => ?_)
      refine s_i2l B.1.1 dX11_tick_41 ?_
      refine s_lcmp B.1.1 dX11_tick_42 ?_
      refine s_if_ge B.1.1 59 dX11_tick_43 (by decide) ?_ ?_
      · refine s_iinc (v := l1 + 1) (lv' := [(1, .int (l1 + 1)), (2, va_rf v12), (0, va_rf (some l0))]) B.1.1 2 dX11_tick_59 rfl rfl (by decide) rfl ?_
        refine s_goto B.1.1 13 dX11_tick_62 (by decide) ?_
        exact Sm.lvs [2, 0] rfl (hkb (l1 + 1))
      · refine s_rload_n B.1.1 1 dX11_tick_46 rfl rfl ?_
        refine s_rload_n B.1.1 0 dX11_tick_47 rfl rfl ?_
        refine s_sipush (v := (141)) B.1.1 dX11_tick_48 (by decide) ?_
        refine hp_cvv (As := [va_rf v12, .int (141 : Int32)]) (st := []) 13 rfl (by decide) B.1 (fun a => mC_X11_sayFarewell B.2.1 a v12 (141 : Int32)) cc_X11_sayFarewell cl_X11_319 cn_X11_sayFarewell ce_X11_sayFarewell ci_X11 cd_X11_sayFarewell (by decide) rfl (Nat.le_of_ble_eq_true rfl) dX11_tick_51 (fun r16 => ?_)
        refine s_rload_n B.1.1 1 dX11_tick_54 rfl rfl ?_
        refine s_rload_n B.1.1 0 dX11_tick_55 rfl rfl ?_
        refine hp_cvv (As := [va_rf v12]) (st := []) 13 rfl (by decide) B.1 (fun a => mC_X11_lost B.2.1 a v12) cc_X11_lost cl_X11_103 cn_X11_lost ce_X11_lost ci_X11 cd_X11_lost (by decide) rfl (Nat.le_of_ble_eq_true rfl) dX11_tick_56 (fun r17 => ?_)
        refine s_iinc (v := l1 + 1) (lv' := [(1, .int (l1 + 1)), (2, va_rf v12), (0, va_rf (some l0))]) B.1.1 2 dX11_tick_59 rfl rfl (by decide) rfl ?_
        refine s_goto B.1.1 13 dX11_tick_62 (by decide) ?_
        exact Sm.lvs [2, 0] rfl (hkb (l1 + 1))
set_option maxRecDepth 10000 in
theorem sc_X11_tick_L13 {g : Gm Hp Unit} {ke65 : Hp → Option (Unit × Hp)} (B : Bx g cX11_tick 3 RX11 voV none 6 161 "tick") {l0 : Nat} (hke65 : Sm g 3 65 [(0, va_rf (some l0))] [] (ke65)) : ∀ (n : Nat) (l1 : Int32), Sm g 3 13 [(0, va_rf (some l0)), (1, .int l1)] [] (C_X11_tick_L13 l0 ke65 n l1)
  | 0, _ => Sm.fail
  | n + 1, l1 => sc_X11_tick_B13 B (sc_X11_tick_L13 B hke65 n) hke65 l1
def C_X11_tick (l0 : Nat) : Hp → Option (Unit × Hp) :=
  hgR 13 2 (some l0) fun v18 =>
  hgI 13 9 (some l0) fun v19 =>
  hCv 8 v18 (fun a => C_X6_purge a v19) fun r20 =>
  C_X11_tick_L13 l0 (C_X11_tick_J65 l0) fu (0 : Int32)
set_option maxRecDepth 10000 in
theorem mo_C_X11_tick (l0 : Nat) : Mo (C_X11_tick l0) := by
  unfold C_X11_tick
  repeat' (with_reducible first | assumption | exact mo_rt _ | exact mo_zt _ | exact mo_no | apply mo_C_X6_purge | apply mo_C_X11_tick_L13 | apply mo_C_X11_tick_J65 | refine mo_ite ?_ ?_ | refine mo_hgI (fun _ => ?_) | refine mo_hgR (fun _ => ?_) | refine mo_hCv (fun _ => ?_) (fun _ => ?_) | refine mo_lq (fun _ => ?_) | refine mo_hpI ?_ | refine mo_hpR ?_ | refine mo_hAi (fun _ => ?_) | refine mo_hAr (fun _ => ?_) | refine mo_hWi ?_ | refine mo_hWr ?_ | refine mo_hLn (fun _ => ?_) | refine mo_hgL (fun _ => ?_) | refine mo_hpL ?_ | refine mo_hpZ ?_ | refine mo_bd ?_ (fun _ => ?_) | refine mo_hCi (fun _ => ?_) (fun _ => ?_) | refine mo_hNw (fun _ => ?_) | refine mo_hNa (fun _ => ?_) | refine mo_hCp ?_ | refine mo_hOi ?_ | refine mo_hAl (fun _ => ?_) | refine mo_hWl ?_ | refine mo_gd ?_ | refine mo_sLn (fun _ => ?_) | refine mo_sAt (fun _ => ?_) | refine mo_kLn (fun _ => ?_) | refine mo_kAt (fun _ => ?_))
set_option maxRecDepth 10000 in
theorem mC_X11_tick {w : Wd} (hw : Wc w) (l0 : Nat) : MH w yX11_tick cX11_tick 3 none 6 161 voV [va_rf (some l0)] (C_X11_tick l0) := by
  have M0 : ∀ g : Gm Hp Unit, g.1 = w → Bx g cX11_tick 3 RX11 voV none 6 161 "tick" → Sm g 3 0 (lv_args 0 [va_rf (some l0)]) [] (C_X11_tick l0) := by
    intro g hg B
    subst hg
    unfold C_X11_tick
    refine W_lva (lv := [(0, va_rf (some l0))]) (by simp [lv_args, va_rf_cat, cat_i, cat_l, cat_r]) ?_
    refine s_rload_n B.1.1 0 dX11_tick_0 rfl rfl ?_
    refine hp_getR B.1 13 2 rfl (by decide) inX11 (by decide) fk_X11_2 cf_X11_27 dX11_tick_1 (fun v18 => ?_)
    refine s_rload_n B.1.1 0 dX11_tick_4 rfl rfl ?_
    refine hp_getI B.1 13 9 rfl (by decide) inX11 (by decide) fk_X11_9.1 fk_X11_9.2 cf_X11_131 dX11_tick_5 (fun v19 => ?_)
    refine hp_cvv (As := [.int v19]) (st := []) 8 rfl (by decide) B.1 (fun a => mC_X6_purge B.2.1 a v19) cc_X6_purge cl_X11_622 cn_X6_purge ce_X6_purge ci_X6 cd_X6_purge (by decide) rfl (Nat.le_of_ble_eq_true rfl) dX11_tick_8 (fun r20 => ?_)
    refine s_iconst (v := 0) B.1.1 dX11_tick_11 (by decide) ?_
    refine s_istore_n (i := 1) (lv' := [(1, .int (0 : Int32)), (0, va_rf (some l0))]) B.1.1 dX11_tick_12 rfl (by decide) rfl ?_
    exact Sm.lvs [1, 0] rfl (sc_X11_tick_L13 B (sc_X11_tick_J65 B) fu (0 : Int32))
  exact MH.of hw ⟨rfl, rfl⟩ (by decide) (by simp [lg_sl, va_rf_cat, cat_i, cat_l, cat_r]) (mo_C_X11_tick l0) M0
def C_X11_isSession (l0 : Nat) (l1 : Int32) : Hp → Option (Int32 × Hp) :=
  if l1 < 0 then (
    zt ((0 : Int32))
  ) else (
    if (12 : Int32) ≤ l1 then (
      zt ((0 : Int32))
    ) else (
      hgR 13 1 (some l0) fun v1 =>
      hAr 5 v1 l1 fun v2 =>
      if v2 = none then (
        zt ((0 : Int32))
      ) else (
        zt ((1 : Int32))
      )
    )
  )
set_option maxRecDepth 10000 in
theorem mo_C_X11_isSession (l0 : Nat) (l1 : Int32) : Mo (C_X11_isSession l0 l1) := by
  unfold C_X11_isSession
  repeat' (with_reducible first | assumption | exact mo_rt _ | exact mo_zt _ | exact mo_no | refine mo_ite ?_ ?_ | refine mo_hgI (fun _ => ?_) | refine mo_hgR (fun _ => ?_) | refine mo_hCv (fun _ => ?_) (fun _ => ?_) | refine mo_lq (fun _ => ?_) | refine mo_hpI ?_ | refine mo_hpR ?_ | refine mo_hAi (fun _ => ?_) | refine mo_hAr (fun _ => ?_) | refine mo_hWi ?_ | refine mo_hWr ?_ | refine mo_hLn (fun _ => ?_) | refine mo_hgL (fun _ => ?_) | refine mo_hpL ?_ | refine mo_hpZ ?_ | refine mo_bd ?_ (fun _ => ?_) | refine mo_hCi (fun _ => ?_) (fun _ => ?_) | refine mo_hNw (fun _ => ?_) | refine mo_hNa (fun _ => ?_) | refine mo_hCp ?_ | refine mo_hOi ?_ | refine mo_hAl (fun _ => ?_) | refine mo_hWl ?_ | refine mo_gd ?_ | refine mo_sLn (fun _ => ?_) | refine mo_sAt (fun _ => ?_) | refine mo_kLn (fun _ => ?_) | refine mo_kAt (fun _ => ?_))
set_option maxRecDepth 10000 in
theorem mC_X11_isSession {w : Wd} (hw : Wc w) (l0 : Nat) (l1 : Int32) : MH w yX11_isSession cX11_isSession 2 (some .boolean) 0 0 voI [va_rf (some l0), .int l1] (C_X11_isSession l0 l1) := by
  have M0 : ∀ g : Gm Hp Int32, g.1 = w → Bx g cX11_isSession 2 RX11 voI (some .boolean) 0 0 "isSession" → Sm g 2 0 (lv_args 0 [va_rf (some l0), .int l1]) [] (C_X11_isSession l0 l1) := by
    intro g hg B
    subst hg
    unfold C_X11_isSession
    refine W_lva (lv := [(0, va_rf (some l0)), (1, .int l1)]) (by simp [lv_args, va_rf_cat, cat_i, cat_l, cat_r]) ?_
    refine s_iload_n B.1.1 1 dX11_isSession_0 rfl rfl ?_
    refine s_if_lt B.1.1 23 dX11_isSession_1 (by decide) ?_ ?_
    · refine s_iconst (v := 0) B.1.1 dX11_isSession_23 (by decide) ?_
      exact s_zret B.1.1 B.2.2.2.2 dX11_isSession_24
    · refine s_iload_n B.1.1 1 dX11_isSession_4 rfl rfl ?_
      refine s_bipush (v := (12)) B.1.1 dX11_isSession_5 (by decide) ?_
      refine s_icmp_ge B.1.1 23 dX11_isSession_7 (by decide) ?_ ?_
      · refine s_iconst (v := 0) B.1.1 dX11_isSession_23 (by decide) ?_
        exact s_zret B.1.1 B.2.2.2.2 dX11_isSession_24
      · refine s_rload_n B.1.1 0 dX11_isSession_10 rfl rfl ?_
        refine hp_getR B.1 13 1 rfl (by decide) inX11 (by decide) fk_X11_1 cf_X11_20 dX11_isSession_11 (fun v1 => ?_)
        refine s_iload_n B.1.1 1 dX11_isSession_14 rfl rfl ?_
        refine hp_Ar B.1 5 (by decide) (fun _ => rfl) dX11_isSession_15 (fun v2 => ?_)
        refine s_ifnull B.1.1 23 dX11_isSession_16 (by decide) ?_ ?_
        · refine s_iconst (v := 0) B.1.1 dX11_isSession_23 (by decide) ?_
          exact s_zret B.1.1 B.2.2.2.2 dX11_isSession_24
        · refine s_iconst (v := 1) B.1.1 dX11_isSession_19 (by decide) ?_
          refine s_goto B.1.1 24 dX11_isSession_20 (by decide) ?_
          exact s_zret B.1.1 B.2.2.2.2 dX11_isSession_24
  exact MH.of hw ⟨rfl, rfl⟩ (by decide) (by simp [lg_sl, va_rf_cat, cat_i, cat_l, cat_r]) (mo_C_X11_isSession l0 l1) M0
def C_X6_get_J21 (l0 : Nat) : Hp → Option ((Option Nat) × Hp) :=
  rt (none)
set_option maxRecDepth 10000 in
theorem mo_C_X6_get_J21 (l0 : Nat) : Mo (C_X6_get_J21 l0) := by
  unfold C_X6_get_J21
  repeat' (with_reducible first | assumption | exact mo_rt _ | exact mo_zt _ | exact mo_no | refine mo_ite ?_ ?_ | refine mo_hgI (fun _ => ?_) | refine mo_hgR (fun _ => ?_) | refine mo_hCv (fun _ => ?_) (fun _ => ?_) | refine mo_lq (fun _ => ?_) | refine mo_hpI ?_ | refine mo_hpR ?_ | refine mo_hAi (fun _ => ?_) | refine mo_hAr (fun _ => ?_) | refine mo_hWi ?_ | refine mo_hWr ?_ | refine mo_hLn (fun _ => ?_) | refine mo_hgL (fun _ => ?_) | refine mo_hpL ?_ | refine mo_hpZ ?_ | refine mo_bd ?_ (fun _ => ?_) | refine mo_hCi (fun _ => ?_) (fun _ => ?_) | refine mo_hNw (fun _ => ?_) | refine mo_hNa (fun _ => ?_) | refine mo_hCp ?_ | refine mo_hOi ?_ | refine mo_hAl (fun _ => ?_) | refine mo_hWl ?_ | refine mo_gd ?_ | refine mo_sLn (fun _ => ?_) | refine mo_sAt (fun _ => ?_) | refine mo_kLn (fun _ => ?_) | refine mo_kAt (fun _ => ?_))
set_option maxRecDepth 10000 in
theorem sc_X6_get_J21 {g : Gm Hp (Option Nat)} (B : Bx g cX6_get 2 RX6 voR (some (.object "TopicBroker$Message")) 0 0 "get") {l0 : Nat} : Sm g 2 21 [] [] (C_X6_get_J21 l0) := by
  unfold C_X6_get_J21
  refine s_null B.1.1 dX6_get_21 ?_
  exact s_aret B.1.1 B.2.2.2.2 (Or.inl ⟨_, rfl⟩) dX6_get_22
def C_X6_get (l0 : Nat) (l1 : Int32) : Hp → Option ((Option Nat) × Hp) :=
  if l1 < 0 then (
    C_X6_get_J21 l0
  ) else (
    hgI 8 1 (some l0) fun v1 =>
    if v1 ≤ l1 then (
      C_X6_get_J21 l0
    ) else (
      hgR 8 0 (some l0) fun v2 =>
      hAr 9 v2 l1 fun v3 =>
      rt (v3)
    )
  )
set_option maxRecDepth 10000 in
theorem mo_C_X6_get (l0 : Nat) (l1 : Int32) : Mo (C_X6_get l0 l1) := by
  unfold C_X6_get
  repeat' (with_reducible first | assumption | exact mo_rt _ | exact mo_zt _ | exact mo_no | apply mo_C_X6_get_J21 | refine mo_ite ?_ ?_ | refine mo_hgI (fun _ => ?_) | refine mo_hgR (fun _ => ?_) | refine mo_hCv (fun _ => ?_) (fun _ => ?_) | refine mo_lq (fun _ => ?_) | refine mo_hpI ?_ | refine mo_hpR ?_ | refine mo_hAi (fun _ => ?_) | refine mo_hAr (fun _ => ?_) | refine mo_hWi ?_ | refine mo_hWr ?_ | refine mo_hLn (fun _ => ?_) | refine mo_hgL (fun _ => ?_) | refine mo_hpL ?_ | refine mo_hpZ ?_ | refine mo_bd ?_ (fun _ => ?_) | refine mo_hCi (fun _ => ?_) (fun _ => ?_) | refine mo_hNw (fun _ => ?_) | refine mo_hNa (fun _ => ?_) | refine mo_hCp ?_ | refine mo_hOi ?_ | refine mo_hAl (fun _ => ?_) | refine mo_hWl ?_ | refine mo_gd ?_ | refine mo_sLn (fun _ => ?_) | refine mo_sAt (fun _ => ?_) | refine mo_kLn (fun _ => ?_) | refine mo_kAt (fun _ => ?_))
set_option maxRecDepth 10000 in
theorem mC_X6_get {w : Wd} (hw : Wc w) (l0 : Nat) (l1 : Int32) : MH w yX6_get cX6_get 2 (some (.object "TopicBroker$Message")) 0 0 voR [va_rf (some l0), .int l1] (C_X6_get l0 l1) := by
  have M0 : ∀ g : Gm Hp (Option Nat), g.1 = w → Bx g cX6_get 2 RX6 voR (some (.object "TopicBroker$Message")) 0 0 "get" → Sm g 2 0 (lv_args 0 [va_rf (some l0), .int l1]) [] (C_X6_get l0 l1) := by
    intro g hg B
    subst hg
    unfold C_X6_get
    refine W_lva (lv := [(0, va_rf (some l0)), (1, .int l1)]) (by simp [lv_args, va_rf_cat, cat_i, cat_l, cat_r]) ?_
    refine s_iload_n B.1.1 1 dX6_get_0 rfl rfl ?_
    refine s_if_lt B.1.1 21 dX6_get_1 (by decide) ?_ ?_
    · exact Sm.lvs [] rfl (sc_X6_get_J21 B)
    · refine s_iload_n B.1.1 1 dX6_get_4 rfl rfl ?_
      refine s_rload_n B.1.1 0 dX6_get_5 rfl rfl ?_
      refine hp_getI B.1 8 1 rfl (by decide) inX6 (by decide) fk_X6_1.1 fk_X6_1.2 cf_X6_17 dX6_get_6 (fun v1 => ?_)
      refine s_icmp_ge B.1.1 21 dX6_get_9 (by decide) ?_ ?_
      · exact Sm.lvs [] rfl (sc_X6_get_J21 B)
      · refine s_rload_n B.1.1 0 dX6_get_12 rfl rfl ?_
        refine hp_getR B.1 8 0 rfl (by decide) inX6 (by decide) fk_X6_0 cf_X6_11 dX6_get_13 (fun v2 => ?_)
        refine s_iload_n B.1.1 1 dX6_get_16 rfl rfl ?_
        refine hp_Ar B.1 9 (by decide) (fun _ => rfl) dX6_get_17 (fun v3 => ?_)
        refine s_goto B.1.1 22 dX6_get_18 (by decide) ?_
        exact s_aret B.1.1 B.2.2.2.2 (Or.inl ⟨_, rfl⟩) dX6_get_22
  exact MH.of hw ⟨rfl, rfl⟩ (by decide) (by simp [lg_sl, va_rf_cat, cat_i, cat_l, cat_r]) (mo_C_X6_get l0 l1) M0
def C_X11_kept (l0 : Nat) (l1 : Int32) (l2 : Int32) (l3 : Int32) : Hp → Option (Int32 × Hp) :=
  hgR 13 2 (some l0) fun v1 =>
  hCv 8 v1 (fun a => C_X6_get a l1) fun r2 =>
  if r2 = none then (
    rt ((-1 : Int32))
  ) else (
    if l2 = 0 then (
      hgR 5 0 r2 fun v3 =>
      hCv 9 v3 (fun a => C_X7_at a l3) fun r4 =>
      rt (r4)
    ) else (
      hgR 5 1 r2 fun v5 =>
      hCv 9 v5 (fun a => C_X7_at a l3) fun r6 =>
      rt (r6)
    )
  )
set_option maxRecDepth 10000 in
theorem mo_C_X11_kept (l0 : Nat) (l1 : Int32) (l2 : Int32) (l3 : Int32) : Mo (C_X11_kept l0 l1 l2 l3) := by
  unfold C_X11_kept
  repeat' (with_reducible first | assumption | exact mo_rt _ | exact mo_zt _ | exact mo_no | apply mo_C_X6_get | apply mo_C_X7_at | refine mo_ite ?_ ?_ | refine mo_hgI (fun _ => ?_) | refine mo_hgR (fun _ => ?_) | refine mo_hCv (fun _ => ?_) (fun _ => ?_) | refine mo_lq (fun _ => ?_) | refine mo_hpI ?_ | refine mo_hpR ?_ | refine mo_hAi (fun _ => ?_) | refine mo_hAr (fun _ => ?_) | refine mo_hWi ?_ | refine mo_hWr ?_ | refine mo_hLn (fun _ => ?_) | refine mo_hgL (fun _ => ?_) | refine mo_hpL ?_ | refine mo_hpZ ?_ | refine mo_bd ?_ (fun _ => ?_) | refine mo_hCi (fun _ => ?_) (fun _ => ?_) | refine mo_hNw (fun _ => ?_) | refine mo_hNa (fun _ => ?_) | refine mo_hCp ?_ | refine mo_hOi ?_ | refine mo_hAl (fun _ => ?_) | refine mo_hWl ?_ | refine mo_gd ?_ | refine mo_sLn (fun _ => ?_) | refine mo_sAt (fun _ => ?_) | refine mo_kLn (fun _ => ?_) | refine mo_kAt (fun _ => ?_))
set_option maxRecDepth 10000 in
theorem mC_X11_kept {w : Wd} (hw : Wc w) (l0 : Nat) (l1 : Int32) (l2 : Int32) (l3 : Int32) : MH w yX11_kept cX11_kept 5 (some .int) 1 21 voI [va_rf (some l0), .int l1, .int l2, .int l3] (C_X11_kept l0 l1 l2 l3) := by
  have M0 : ∀ g : Gm Hp Int32, g.1 = w → Bx g cX11_kept 5 RX11 voI (some .int) 1 21 "kept" → Sm g 5 0 (lv_args 0 [va_rf (some l0), .int l1, .int l2, .int l3]) [] (C_X11_kept l0 l1 l2 l3) := by
    intro g hg B
    subst hg
    unfold C_X11_kept
    refine W_lva (lv := [(0, va_rf (some l0)), (1, .int l1), (2, .int l2), (3, .int l3)]) (by simp [lv_args, va_rf_cat, cat_i, cat_l, cat_r]) ?_
    refine s_rload_n B.1.1 0 dX11_kept_0 rfl rfl ?_
    refine hp_getR B.1 13 2 rfl (by decide) inX11 (by decide) fk_X11_2 cf_X11_27 dX11_kept_1 (fun v1 => ?_)
    refine s_iload_n B.1.1 1 dX11_kept_4 rfl rfl ?_
    refine hp_cvr (As := [.int l1]) (st := []) 8 rfl (by decide) B.1 (fun a => mC_X6_get B.2.1 a l1) cc_X6_get cl_X11_215 cn_X6_get ce_X6_get ci_X6 cd_X6_get (by decide) rfl (Nat.le_of_ble_eq_true rfl) dX11_kept_5 (fun r2 => ?_)
    refine s_rstore (i := 4) (lv' := [(4, va_rf r2), (0, va_rf (some l0)), (1, .int l1), (2, .int l2), (3, .int l3)]) B.1.1 dX11_kept_8 (by decide) rfl ?_
    refine s_rload B.1.1 0 dX11_kept_10 rfl ?_
    refine s_ifnonnull B.1.1 17 dX11_kept_12 (by decide) ?_ ?_
    · refine s_iload_n B.1.1 3 dX11_kept_17 rfl rfl ?_
      refine s_if_eq B.1.1 33 dX11_kept_18 (by decide) ?_ ?_
      · refine s_rload B.1.1 0 dX11_kept_33 rfl ?_
        refine hp_getR B.1 5 0 rfl (by decide) inX3 (by decide) fk_X3_0 cf_X11_219 dX11_kept_35 (fun v3 => ?_)
        refine s_iload_n B.1.1 4 dX11_kept_38 rfl rfl ?_
        refine hp_cvi (As := [.int l3]) (st := []) 9 rfl (by decide) B.1 (fun a => mC_X7_at B.2.1 a l3) cc_X7_at cl_X11_194 cn_X7_at ce_X7_at ci_X7 cd_X7_at (by decide) rfl (Nat.le_of_ble_eq_true rfl) dX11_kept_39 (fun r4 => ?_)
        exact s_iret B.1.1 B.2.2.2.2 dX11_kept_42
      · refine s_rload B.1.1 0 dX11_kept_21 rfl ?_
        refine hp_getR B.1 5 1 rfl (by decide) inX3 (by decide) fk_X3_1 cf_X11_224 dX11_kept_23 (fun v5 => ?_)
        refine s_iload_n B.1.1 4 dX11_kept_26 rfl rfl ?_
        refine hp_cvi (As := [.int l3]) (st := []) 9 rfl (by decide) B.1 (fun a => mC_X7_at B.2.1 a l3) cc_X7_at cl_X11_194 cn_X7_at ce_X7_at ci_X7 cd_X7_at (by decide) rfl (Nat.le_of_ble_eq_true rfl) dX11_kept_27 (fun r6 => ?_)
        refine s_goto B.1.1 42 dX11_kept_30 (by decide) ?_
        exact s_iret B.1.1 B.2.2.2.2 dX11_kept_42
    · refine s_iconst (v := (-1)) B.1.1 dX11_kept_15 (by decide) ?_
      exact s_iret B.1.1 B.2.2.2.2 dX11_kept_16
  exact MH.of hw ⟨rfl, rfl⟩ (by decide) (by simp [lg_sl, va_rf_cat, cat_i, cat_l, cat_r]) (mo_C_X11_kept l0 l1 l2 l3) M0
def C_X11_countSent_J28 (l0 : Nat) (l1 : Int32) : Hp → Option (Int32 × Hp) :=
  rt (l1)
set_option maxRecDepth 10000 in
theorem mo_C_X11_countSent_J28 (l0 : Nat) (l1 : Int32) : Mo (C_X11_countSent_J28 l0 l1) := by
  unfold C_X11_countSent_J28
  repeat' (with_reducible first | assumption | exact mo_rt _ | exact mo_zt _ | exact mo_no | refine mo_ite ?_ ?_ | refine mo_hgI (fun _ => ?_) | refine mo_hgR (fun _ => ?_) | refine mo_hCv (fun _ => ?_) (fun _ => ?_) | refine mo_lq (fun _ => ?_) | refine mo_hpI ?_ | refine mo_hpR ?_ | refine mo_hAi (fun _ => ?_) | refine mo_hAr (fun _ => ?_) | refine mo_hWi ?_ | refine mo_hWr ?_ | refine mo_hLn (fun _ => ?_) | refine mo_hgL (fun _ => ?_) | refine mo_hpL ?_ | refine mo_hpZ ?_ | refine mo_bd ?_ (fun _ => ?_) | refine mo_hCi (fun _ => ?_) (fun _ => ?_) | refine mo_hNw (fun _ => ?_) | refine mo_hNa (fun _ => ?_) | refine mo_hCp ?_ | refine mo_hOi ?_ | refine mo_hAl (fun _ => ?_) | refine mo_hWl ?_ | refine mo_gd ?_ | refine mo_sLn (fun _ => ?_) | refine mo_sAt (fun _ => ?_) | refine mo_kLn (fun _ => ?_) | refine mo_kAt (fun _ => ?_))
set_option maxRecDepth 10000 in
theorem sc_X11_countSent_J28 {g : Gm Hp Int32} (B : Bx g cX11_countSent 3 RX11 voI (some .int) 0 0 "countSent") {l0 : Nat} (l1 : Int32) : Sm g 3 28 [(1, .int l1)] [] (C_X11_countSent_J28 l0 l1) := by
  unfold C_X11_countSent_J28
  refine s_iload_n B.1.1 0 dX11_countSent_28 rfl rfl ?_
  exact s_iret B.1.1 B.2.2.2.2 dX11_countSent_29
def C_X11_countSent_B4 (l0 : Nat) (kb : Int32 → Int32 → Hp → Option (Int32 × Hp)) (ke28 : Int32 → Hp → Option (Int32 × Hp)) (l1 : Int32) (l2 : Int32) : Hp → Option (Int32 × Hp) :=
  if (8 : Int32) ≤ l2 then (
    ke28 l1
  ) else (
    hgR 13 0 (some l0) fun v1 =>
    hAr 4 v1 l2 fun v2 =>
    hgI 2 6 v2 fun v3 =>
    lq (l1 + v3) fun x4 =>
    kb x4 (l2 + 1)
  )
def C_X11_countSent_L4 (l0 : Nat) (ke28 : Int32 → Hp → Option (Int32 × Hp)) : Nat → Int32 → Int32 → Hp → Option (Int32 × Hp)
  | 0, _, _ => no
  | n + 1, l1, l2 => C_X11_countSent_B4 l0 (fun l1 l2 => C_X11_countSent_L4 l0 ke28 n l1 l2) ke28 l1 l2
set_option maxRecDepth 10000 in
theorem mo_C_X11_countSent_B4 (l0 : Nat) (kb : Int32 → Int32 → Hp → Option (Int32 × Hp)) (ke28 : Int32 → Hp → Option (Int32 × Hp)) (hkb : ∀ (l1 : Int32) (l2 : Int32), Mo (kb l1 l2)) (hke28 : ∀ (l1 : Int32), Mo (ke28 l1)) (l1 : Int32) (l2 : Int32) : Mo (C_X11_countSent_B4 l0 kb ke28 l1 l2) := by
  unfold C_X11_countSent_B4
  repeat' (with_reducible first | assumption | exact mo_rt _ | exact mo_zt _ | exact mo_no | apply hkb | apply hke28 | refine mo_ite ?_ ?_ | refine mo_hgI (fun _ => ?_) | refine mo_hgR (fun _ => ?_) | refine mo_hCv (fun _ => ?_) (fun _ => ?_) | refine mo_lq (fun _ => ?_) | refine mo_hpI ?_ | refine mo_hpR ?_ | refine mo_hAi (fun _ => ?_) | refine mo_hAr (fun _ => ?_) | refine mo_hWi ?_ | refine mo_hWr ?_ | refine mo_hLn (fun _ => ?_) | refine mo_hgL (fun _ => ?_) | refine mo_hpL ?_ | refine mo_hpZ ?_ | refine mo_bd ?_ (fun _ => ?_) | refine mo_hCi (fun _ => ?_) (fun _ => ?_) | refine mo_hNw (fun _ => ?_) | refine mo_hNa (fun _ => ?_) | refine mo_hCp ?_ | refine mo_hOi ?_ | refine mo_hAl (fun _ => ?_) | refine mo_hWl ?_ | refine mo_gd ?_ | refine mo_sLn (fun _ => ?_) | refine mo_sAt (fun _ => ?_) | refine mo_kLn (fun _ => ?_) | refine mo_kAt (fun _ => ?_))
set_option maxRecDepth 10000 in
theorem mo_C_X11_countSent_L4 (l0 : Nat) (ke28 : Int32 → Hp → Option (Int32 × Hp)) (hke28 : ∀ (l1 : Int32), Mo (ke28 l1)) : ∀ (n : Nat) (l1 : Int32) (l2 : Int32), Mo (C_X11_countSent_L4 l0 ke28 n l1 l2)
  | 0, _, _ => mo_no
  | n + 1, l1, l2 => mo_C_X11_countSent_B4 l0 _ ke28 (mo_C_X11_countSent_L4 l0 ke28 hke28 n) hke28 l1 l2
set_option maxRecDepth 10000 in
theorem sc_X11_countSent_B4 {g : Gm Hp Int32} {kb : Int32 → Int32 → Hp → Option (Int32 × Hp)} {ke28 : Int32 → Hp → Option (Int32 × Hp)} (B : Bx g cX11_countSent 3 RX11 voI (some .int) 0 0 "countSent") {l0 : Nat} (hkb : ∀ (l1 : Int32) (l2 : Int32), Sm g 3 4 [(0, va_rf (some l0)), (1, .int l1), (2, .int l2)] [] (kb l1 l2)) (hke28 : ∀ (l1 : Int32), Sm g 3 28 [(1, .int l1)] [] (ke28 l1)) (l1 : Int32) (l2 : Int32) : Sm g 3 4 [(0, va_rf (some l0)), (1, .int l1), (2, .int l2)] [] (C_X11_countSent_B4 l0 kb ke28 l1 l2) := by
  unfold C_X11_countSent_B4
  refine s_iload_n B.1.1 2 dX11_countSent_4 rfl rfl ?_
  refine s_bipush (v := (8)) B.1.1 dX11_countSent_5 (by decide) ?_
  refine s_icmp_ge B.1.1 28 dX11_countSent_7 (by decide) ?_ ?_
  · exact Sm.lvs [1] rfl (hke28 l1)
  · refine s_iload_n B.1.1 1 dX11_countSent_10 rfl rfl ?_
    refine s_rload_n B.1.1 0 dX11_countSent_11 rfl rfl ?_
    refine hp_getR B.1 13 0 rfl (by decide) inX11 (by decide) fk_X11_0 cf_X11_11 dX11_countSent_12 (fun v1 => ?_)
    refine s_iload_n B.1.1 2 dX11_countSent_15 rfl rfl ?_
    refine hp_Ar B.1 4 (by decide) (fun _ => rfl) dX11_countSent_16 (fun v2 => ?_)
    refine hp_getI B.1 2 6 rfl (by decide) inX0 (by decide) fk_X0_6.1 fk_X0_6.2 cf_X11_265 dX11_countSent_17 (fun v3 => ?_)
    refine s_iadd B.1.1 dX11_countSent_20 ?_
    refine s_lqi (fun x4 => ?_)
    refine s_istore_n (i := 1) (lv' := [(1, .int x4), (0, va_rf (some l0)), (2, .int l2)]) B.1.1 dX11_countSent_21 rfl (by decide) rfl ?_
    refine s_iinc (v := l2 + 1) (lv' := [(2, .int (l2 + 1)), (1, .int x4), (0, va_rf (some l0))]) B.1.1 2 dX11_countSent_22 rfl rfl (by decide) rfl ?_
    refine s_goto B.1.1 4 dX11_countSent_25 (by decide) ?_
    exact Sm.lvs [2, 1, 0] rfl (hkb x4 (l2 + 1))
set_option maxRecDepth 10000 in
theorem sc_X11_countSent_L4 {g : Gm Hp Int32} {ke28 : Int32 → Hp → Option (Int32 × Hp)} (B : Bx g cX11_countSent 3 RX11 voI (some .int) 0 0 "countSent") {l0 : Nat} (hke28 : ∀ (l1 : Int32), Sm g 3 28 [(1, .int l1)] [] (ke28 l1)) : ∀ (n : Nat) (l1 : Int32) (l2 : Int32), Sm g 3 4 [(0, va_rf (some l0)), (1, .int l1), (2, .int l2)] [] (C_X11_countSent_L4 l0 ke28 n l1 l2)
  | 0, _, _ => Sm.fail
  | n + 1, l1, l2 => sc_X11_countSent_B4 B (sc_X11_countSent_L4 B hke28 n) hke28 l1 l2
def C_X11_countSent (l0 : Nat) : Hp → Option (Int32 × Hp) :=
  C_X11_countSent_L4 l0 (fun l1 => C_X11_countSent_J28 l0 l1) fu (0 : Int32) (0 : Int32)
set_option maxRecDepth 10000 in
theorem mo_C_X11_countSent (l0 : Nat) : Mo (C_X11_countSent l0) := by
  unfold C_X11_countSent
  repeat' (with_reducible first | assumption | exact mo_rt _ | exact mo_zt _ | exact mo_no | apply mo_C_X11_countSent_L4 | apply mo_C_X11_countSent_J28 | refine mo_ite ?_ ?_ | refine mo_hgI (fun _ => ?_) | refine mo_hgR (fun _ => ?_) | refine mo_hCv (fun _ => ?_) (fun _ => ?_) | refine mo_lq (fun _ => ?_) | refine mo_hpI ?_ | refine mo_hpR ?_ | refine mo_hAi (fun _ => ?_) | refine mo_hAr (fun _ => ?_) | refine mo_hWi ?_ | refine mo_hWr ?_ | refine mo_hLn (fun _ => ?_) | refine mo_hgL (fun _ => ?_) | refine mo_hpL ?_ | refine mo_hpZ ?_ | refine mo_bd ?_ (fun _ => ?_) | refine mo_hCi (fun _ => ?_) (fun _ => ?_) | refine mo_hNw (fun _ => ?_) | refine mo_hNa (fun _ => ?_) | refine mo_hCp ?_ | refine mo_hOi ?_ | refine mo_hAl (fun _ => ?_) | refine mo_hWl ?_ | refine mo_gd ?_ | refine mo_sLn (fun _ => ?_) | refine mo_sAt (fun _ => ?_) | refine mo_kLn (fun _ => ?_) | refine mo_kAt (fun _ => ?_))
set_option maxRecDepth 10000 in
theorem mC_X11_countSent {w : Wd} (hw : Wc w) (l0 : Nat) : MH w yX11_countSent cX11_countSent 3 (some .int) 0 0 voI [va_rf (some l0)] (C_X11_countSent l0) := by
  have M0 : ∀ g : Gm Hp Int32, g.1 = w → Bx g cX11_countSent 3 RX11 voI (some .int) 0 0 "countSent" → Sm g 3 0 (lv_args 0 [va_rf (some l0)]) [] (C_X11_countSent l0) := by
    intro g hg B
    subst hg
    unfold C_X11_countSent
    refine W_lva (lv := [(0, va_rf (some l0))]) (by simp [lv_args, va_rf_cat, cat_i, cat_l, cat_r]) ?_
    refine s_iconst (v := 0) B.1.1 dX11_countSent_0 (by decide) ?_
    refine s_istore_n (i := 1) (lv' := [(1, .int (0 : Int32)), (0, va_rf (some l0))]) B.1.1 dX11_countSent_1 rfl (by decide) rfl ?_
    refine s_iconst (v := 0) B.1.1 dX11_countSent_2 (by decide) ?_
    refine s_istore_n (i := 2) (lv' := [(2, .int (0 : Int32)), (1, .int (0 : Int32)), (0, va_rf (some l0))]) B.1.1 dX11_countSent_3 rfl (by decide) rfl ?_
    exact Sm.lvs [2, 1, 0] rfl (sc_X11_countSent_L4 B (fun l1 => sc_X11_countSent_J28 B l1) fu (0 : Int32) (0 : Int32))
  exact MH.of hw ⟨rfl, rfl⟩ (by decide) (by simp [lg_sl, va_rf_cat, cat_i, cat_l, cat_r]) (mo_C_X11_countSent l0) M0
