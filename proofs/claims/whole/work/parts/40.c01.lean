def C_X3_left (l0 : Nat) (l1 : Int32) : Hp → Option (Int64 × Hp) :=
  hgL 5 7 (some l0) fun v1 =>
  hgI 5 8 (some l0) fun v2 =>
  lq (v1 - ((l1 - v2).toInt64)) fun x3 =>
  if (lg_cmp x3 (0 : Int64)) ≤ 0 then (
    rt ((0 : Int64))
  ) else (
    rt (x3)
  )
set_option maxRecDepth 10000 in
theorem mo_C_X3_left (l0 : Nat) (l1 : Int32) : Mo (C_X3_left l0 l1) := by
  unfold C_X3_left
  repeat' (with_reducible first | assumption | exact mo_rt _ | exact mo_zt _ | exact mo_no | refine mo_ite ?_ ?_ | refine mo_hgI (fun _ => ?_) | refine mo_hgR (fun _ => ?_) | refine mo_hCv (fun _ => ?_) (fun _ => ?_) | refine mo_lq (fun _ => ?_) | refine mo_hpI ?_ | refine mo_hpR ?_ | refine mo_hAi (fun _ => ?_) | refine mo_hAr (fun _ => ?_) | refine mo_hWi ?_ | refine mo_hWr ?_ | refine mo_hLn (fun _ => ?_) | refine mo_hgL (fun _ => ?_) | refine mo_hpL ?_ | refine mo_hpZ ?_ | refine mo_bd ?_ (fun _ => ?_) | refine mo_hCi (fun _ => ?_) (fun _ => ?_) | refine mo_hNw (fun _ => ?_) | refine mo_hNa (fun _ => ?_) | refine mo_hCp ?_ | refine mo_hOi ?_ | refine mo_hAl (fun _ => ?_) | refine mo_hWl ?_ | refine mo_gd ?_ | refine mo_sLn (fun _ => ?_) | refine mo_sAt (fun _ => ?_) | refine mo_kLn (fun _ => ?_) | refine mo_kAt (fun _ => ?_))
set_option maxRecDepth 10000 in
theorem mC_X3_left {w : Wd} (hw : Wc w) (l0 : Nat) (l1 : Int32) : MH w yX3_left cX3_left 4 (some .long) 0 0 voL [va_rf (some l0), .int l1] (C_X3_left l0 l1) := by
  have M0 : ∀ g : Gm Hp Int64, g.1 = w → Bx g cX3_left 4 RX3 voL (some .long) 0 0 "left" → Sm g 4 0 (lv_args 0 [va_rf (some l0), .int l1]) [] (C_X3_left l0 l1) := by
    intro g hg B
    subst hg
    unfold C_X3_left
    refine W_lva (lv := [(0, va_rf (some l0)), (1, .int l1)]) (by simp [lv_args, va_rf_cat, cat_i, cat_l, cat_r]) ?_
    refine s_rload_n B.1.1 0 dX3_left_0 rfl rfl ?_
    refine hp_getL B.1 5 7 rfl (by decide) inX3 (by decide) fk_X3_7 cf_X3_26 dX3_left_1 (fun v1 => ?_)
    refine s_iload_n B.1.1 1 dX3_left_4 rfl rfl ?_
    refine s_rload_n B.1.1 0 dX3_left_5 rfl rfl ?_
    refine hp_getI B.1 5 8 rfl (by decide) inX3 (by decide) fk_X3_8.1 fk_X3_8.2 cf_X3_30 dX3_left_6 (fun v2 => ?_)
    refine s_isub B.1.1 dX3_left_9 ?_
    refine s_i2l B.1.1 dX3_left_10 ?_
    refine s_lsub B.1.1 dX3_left_11 ?_
    refine s_lql (fun x3 => ?_)
    refine s_lstore_n (i := 2) (lv' := [(2, .long x3), (0, va_rf (some l0)), (1, .int l1)]) B.1.1 dX3_left_12 rfl (by decide) rfl ?_
    refine s_lload_n B.1.1 0 dX3_left_13 rfl rfl ?_
    refine s_lconst (v := 0) B.1.1 dX3_left_14 (by decide) ?_
    refine s_lcmp B.1.1 dX3_left_15 ?_
    refine s_if_le B.1.1 23 dX3_left_16 (by decide) ?_ ?_
    · refine s_lconst (v := 0) B.1.1 dX3_left_23 (by decide) ?_
      exact s_lret B.1.1 B.2.2.2.2 dX3_left_24
    · refine s_lload_n B.1.1 0 dX3_left_19 rfl rfl ?_
      refine s_goto B.1.1 24 dX3_left_20 (by decide) ?_
      exact s_lret B.1.1 B.2.2.2.2 dX3_left_24
  exact MH.of hw ⟨rfl, rfl⟩ (by decide) (by simp [lg_sl, va_rf_cat, cat_i, cat_l, cat_r]) (mo_C_X3_left l0 l1) M0
def C_X7_count (l0 : Nat) : Hp → Option (Int32 × Hp) :=
  hgR 9 0 (some l0) fun v1 =>
  hLn 0 v1 fun v2 =>
  rt (v2)
set_option maxRecDepth 10000 in
theorem mo_C_X7_count (l0 : Nat) : Mo (C_X7_count l0) := by
  unfold C_X7_count
  repeat' (with_reducible first | assumption | exact mo_rt _ | exact mo_zt _ | exact mo_no | refine mo_ite ?_ ?_ | refine mo_hgI (fun _ => ?_) | refine mo_hgR (fun _ => ?_) | refine mo_hCv (fun _ => ?_) (fun _ => ?_) | refine mo_lq (fun _ => ?_) | refine mo_hpI ?_ | refine mo_hpR ?_ | refine mo_hAi (fun _ => ?_) | refine mo_hAr (fun _ => ?_) | refine mo_hWi ?_ | refine mo_hWr ?_ | refine mo_hLn (fun _ => ?_) | refine mo_hgL (fun _ => ?_) | refine mo_hpL ?_ | refine mo_hpZ ?_ | refine mo_bd ?_ (fun _ => ?_) | refine mo_hCi (fun _ => ?_) (fun _ => ?_) | refine mo_hNw (fun _ => ?_) | refine mo_hNa (fun _ => ?_) | refine mo_hCp ?_ | refine mo_hOi ?_ | refine mo_hAl (fun _ => ?_) | refine mo_hWl ?_ | refine mo_gd ?_ | refine mo_sLn (fun _ => ?_) | refine mo_sAt (fun _ => ?_) | refine mo_kLn (fun _ => ?_) | refine mo_kAt (fun _ => ?_))
set_option maxRecDepth 10000 in
theorem mC_X7_count {w : Wd} (hw : Wc w) (l0 : Nat) : MH w yX7_count cX7_count 1 (some .int) 0 0 voI [va_rf (some l0)] (C_X7_count l0) := by
  have M0 : ∀ g : Gm Hp Int32, g.1 = w → Bx g cX7_count 1 RX7 voI (some .int) 0 0 "count" → Sm g 1 0 (lv_args 0 [va_rf (some l0)]) [] (C_X7_count l0) := by
    intro g hg B
    subst hg
    unfold C_X7_count
    refine W_lva (lv := [(0, va_rf (some l0))]) (by simp [lv_args, va_rf_cat, cat_i, cat_l, cat_r]) ?_
    refine s_rload_n B.1.1 0 dX7_count_0 rfl rfl ?_
    refine hp_getR B.1 9 0 rfl (by decide) inX7 (by decide) fk_X7_0 cf_X7_9 dX7_count_1 (fun v1 => ?_)
    refine hp_Ln B.1 0 (fun _ => rfl) dX7_count_4 (fun v2 => ?_)
    exact s_iret B.1.1 B.2.2.2.2 dX7_count_5
  exact MH.of hw ⟨rfl, rfl⟩ (by decide) (by simp [lg_sl, va_rf_cat, cat_i, cat_l, cat_r]) (mo_C_X7_count l0) M0
def C_X10_publish_J214 (l0 : Nat) (l4 : Option Nat) : Hp → Option (Unit × Hp) :=
  hgR 5 6 l4 fun v1 =>
  hCv 12 (some l0) (fun a => C_X10_raw a v1) fun r2 =>
  hgR 5 1 l4 fun v3 =>
  hCv 12 (some l0) (fun a => C_X10_raw a v3) fun r4 =>
  rt ()
set_option maxRecDepth 10000 in
theorem mo_C_X10_publish_J214 (l0 : Nat) (l4 : Option Nat) : Mo (C_X10_publish_J214 l0 l4) := by
  unfold C_X10_publish_J214
  repeat' (with_reducible first | assumption | exact mo_rt _ | exact mo_zt _ | exact mo_no | apply mo_C_X10_raw | refine mo_ite ?_ ?_ | refine mo_hgI (fun _ => ?_) | refine mo_hgR (fun _ => ?_) | refine mo_hCv (fun _ => ?_) (fun _ => ?_) | refine mo_lq (fun _ => ?_) | refine mo_hpI ?_ | refine mo_hpR ?_ | refine mo_hAi (fun _ => ?_) | refine mo_hAr (fun _ => ?_) | refine mo_hWi ?_ | refine mo_hWr ?_ | refine mo_hLn (fun _ => ?_) | refine mo_hgL (fun _ => ?_) | refine mo_hpL ?_ | refine mo_hpZ ?_ | refine mo_bd ?_ (fun _ => ?_) | refine mo_hCi (fun _ => ?_) (fun _ => ?_) | refine mo_hNw (fun _ => ?_) | refine mo_hNa (fun _ => ?_) | refine mo_hCp ?_ | refine mo_hOi ?_ | refine mo_hAl (fun _ => ?_) | refine mo_hWl ?_ | refine mo_gd ?_ | refine mo_sLn (fun _ => ?_) | refine mo_sAt (fun _ => ?_) | refine mo_kLn (fun _ => ?_) | refine mo_kAt (fun _ => ?_))
set_option maxRecDepth 10000 in
theorem sc_X10_publish_J214 {g : Gm Hp Unit} (B : Bx g cX10_publish 7 RX10 voV none 1 23 "publish") {l0 : Nat} (l4 : Option Nat) : Sm g 7 214 [(0, va_rf (some l0)), (4, va_rf l4)] [] (C_X10_publish_J214 l0 l4) := by
  unfold C_X10_publish_J214
  refine s_rload_n B.1.1 0 dX10_publish_214 rfl rfl ?_
  refine s_rload B.1.1 1 dX10_publish_215 rfl ?_
  refine hp_getR B.1 5 6 rfl (by decide) inX3 (by decide) fk_X3_6 cf_X10_83 dX10_publish_217 (fun v1 => ?_)
  refine hp_cvv (As := [va_rf v1]) (st := []) 12 rfl (by decide) B.1 (fun a => mC_X10_raw B.2.1 a v1) cc_X10_raw cl_X10_61 cn_X10_raw ce_X10_raw ci_X10 cd_X10_raw (by decide) rfl (Nat.le_of_ble_eq_true rfl) dX10_publish_220 (fun r2 => ?_)
  refine s_rload_n B.1.1 0 dX10_publish_223 rfl rfl ?_
  refine s_rload B.1.1 1 dX10_publish_224 rfl ?_
  refine hp_getR B.1 5 1 rfl (by decide) inX3 (by decide) fk_X3_1 cf_X10_100 dX10_publish_226 (fun v3 => ?_)
  refine hp_cvv (As := [va_rf v3]) (st := []) 12 rfl (by decide) B.1 (fun a => mC_X10_raw B.2.1 a v3) cc_X10_raw cl_X10_61 cn_X10_raw ce_X10_raw ci_X10 cd_X10_raw (by decide) rfl (Nat.le_of_ble_eq_true rfl) dX10_publish_229 (fun r4 => ?_)
  exact s_vret B.1.1 B.2.2.2.2 dX10_publish_232
def C_X10_publish_J186 (l0 : Nat) (l1 : Option Nat) (l4 : Option Nat) (l6 : Int32) : Hp → Option (Unit × Hp) :=
  hgR 5 5 l4 fun v5 =>
  hCv 12 (some l0) (fun a => C_X10_raw a v5) fun r6 =>
  if l6 ≤ 0 then (
    C_X10_publish_J214 l0 l4
  ) else (
    hCv 12 (some l0) (fun a => C_X10_one a (11 : Int32)) fun r7 =>
    hgI 3 3 l1 fun v8 =>
    hCv 12 (some l0) (fun a => C_X10_variable a v8) fun r9 =>
    C_X10_publish_J214 l0 l4
  )
set_option maxRecDepth 10000 in
theorem mo_C_X10_publish_J186 (l0 : Nat) (l1 : Option Nat) (l4 : Option Nat) (l6 : Int32) : Mo (C_X10_publish_J186 l0 l1 l4 l6) := by
  unfold C_X10_publish_J186
  repeat' (with_reducible first | assumption | exact mo_rt _ | exact mo_zt _ | exact mo_no | apply mo_C_X10_raw | apply mo_C_X10_publish_J214 | apply mo_C_X10_one | apply mo_C_X10_variable | refine mo_ite ?_ ?_ | refine mo_hgI (fun _ => ?_) | refine mo_hgR (fun _ => ?_) | refine mo_hCv (fun _ => ?_) (fun _ => ?_) | refine mo_lq (fun _ => ?_) | refine mo_hpI ?_ | refine mo_hpR ?_ | refine mo_hAi (fun _ => ?_) | refine mo_hAr (fun _ => ?_) | refine mo_hWi ?_ | refine mo_hWr ?_ | refine mo_hLn (fun _ => ?_) | refine mo_hgL (fun _ => ?_) | refine mo_hpL ?_ | refine mo_hpZ ?_ | refine mo_bd ?_ (fun _ => ?_) | refine mo_hCi (fun _ => ?_) (fun _ => ?_) | refine mo_hNw (fun _ => ?_) | refine mo_hNa (fun _ => ?_) | refine mo_hCp ?_ | refine mo_hOi ?_ | refine mo_hAl (fun _ => ?_) | refine mo_hWl ?_ | refine mo_gd ?_ | refine mo_sLn (fun _ => ?_) | refine mo_sAt (fun _ => ?_) | refine mo_kLn (fun _ => ?_) | refine mo_kAt (fun _ => ?_))
set_option maxRecDepth 10000 in
theorem sc_X10_publish_J186 {g : Gm Hp Unit} (B : Bx g cX10_publish 7 RX10 voV none 1 23 "publish") {l0 : Nat} (l1 : Option Nat) (l4 : Option Nat) (l6 : Int32) : Sm g 7 186 [(0, va_rf (some l0)), (1, va_rf l1), (4, va_rf l4), (6, .int l6)] [] (C_X10_publish_J186 l0 l1 l4 l6) := by
  unfold C_X10_publish_J186
  refine s_rload_n B.1.1 0 dX10_publish_186 rfl rfl ?_
  refine s_rload B.1.1 2 dX10_publish_187 rfl ?_
  refine hp_getR B.1 5 5 rfl (by decide) inX3 (by decide) fk_X3_5 cf_X10_80 dX10_publish_189 (fun v5 => ?_)
  refine hp_cvv (As := [va_rf v5]) (st := []) 12 rfl (by decide) B.1 (fun a => mC_X10_raw B.2.1 a v5) cc_X10_raw cl_X10_61 cn_X10_raw ce_X10_raw ci_X10 cd_X10_raw (by decide) rfl (Nat.le_of_ble_eq_true rfl) dX10_publish_192 (fun r6 => ?_)
  refine s_iload B.1.1 3 dX10_publish_195 rfl ?_
  refine s_if_le B.1.1 214 dX10_publish_197 (by decide) ?_ ?_
  · exact Sm.lvs [0, 2] rfl (sc_X10_publish_J214 B l4)
  · refine s_rload_n B.1.1 0 dX10_publish_200 rfl rfl ?_
    refine s_bipush (v := (11)) B.1.1 dX10_publish_201 (by decide) ?_
    refine hp_cvv (As := [.int (11 : Int32)]) (st := []) 12 rfl (by decide) B.1 (fun a => mC_X10_one B.2.1 a (11 : Int32)) cc_X10_one cl_X10_89 cn_X10_one ce_X10_one ci_X10 cd_X10_one (by decide) rfl (Nat.le_of_ble_eq_true rfl) dX10_publish_203 (fun r7 => ?_)
    refine s_rload_n B.1.1 0 dX10_publish_206 rfl rfl ?_
    refine s_rload_n B.1.1 1 dX10_publish_207 rfl rfl ?_
    refine hp_getI B.1 3 3 rfl (by decide) inX1 (by decide) fk_X1_3.1 fk_X1_3.2 cf_X10_74 dX10_publish_208 (fun v8 => ?_)
    refine hp_cvv (As := [.int v8]) (st := []) 12 rfl (by decide) B.1 (fun a => mC_X10_variable B.2.1 a v8) cc_X10_variable cl_X10_86 cn_X10_variable ce_X10_variable ci_X10 cd_X10_variable (by decide) rfl (Nat.le_of_ble_eq_true rfl) dX10_publish_211 (fun r9 => ?_)
    exact Sm.lvs [0, 2] rfl (sc_X10_publish_J214 B l4)
def C_X10_publish_J119 (l0 : Nat) (l1 : Option Nat) (l3 : Int32) (l4 : Option Nat) (l5 : Int32) (s0 : Int32) : Hp → Option (Unit × Hp) :=
  hgR 5 4 l4 fun v10 =>
  hCv 9 v10 (fun a => C_X7_count a) fun r11 =>
  hgR 5 5 l4 fun v12 =>
  hCv 9 v12 (fun a => C_X7_count a) fun r13 =>
  hgR 5 6 l4 fun v14 =>
  hCv 9 v14 (fun a => C_X7_count a) fun r15 =>
  hCv 12 (some l0) (fun a => C_X10_variable a ((((r11 + l5) + r13) + s0) + r15)) fun r16 =>
  hgR 5 4 l4 fun v17 =>
  hCv 12 (some l0) (fun a => C_X10_raw a v17) fun r18 =>
  if l5 ≤ 0 then (
    C_X10_publish_J186 l0 l1 l4 s0
  ) else (
    hCv 12 (some l0) (fun a => C_X10_one a (2 : Int32)) fun r19 =>
    hCv 5 l4 (fun a => C_X3_left a l3) fun r20 =>
    hCv 12 (some l0) (fun a => C_X10_four a r20) fun r21 =>
    C_X10_publish_J186 l0 l1 l4 s0
  )
set_option maxRecDepth 10000 in
theorem mo_C_X10_publish_J119 (l0 : Nat) (l1 : Option Nat) (l3 : Int32) (l4 : Option Nat) (l5 : Int32) (s0 : Int32) : Mo (C_X10_publish_J119 l0 l1 l3 l4 l5 s0) := by
  unfold C_X10_publish_J119
  repeat' (with_reducible first | assumption | exact mo_rt _ | exact mo_zt _ | exact mo_no | apply mo_C_X7_count | apply mo_C_X10_variable | apply mo_C_X10_raw | apply mo_C_X10_publish_J186 | apply mo_C_X10_one | apply mo_C_X3_left | apply mo_C_X10_four | refine mo_ite ?_ ?_ | refine mo_hgI (fun _ => ?_) | refine mo_hgR (fun _ => ?_) | refine mo_hCv (fun _ => ?_) (fun _ => ?_) | refine mo_lq (fun _ => ?_) | refine mo_hpI ?_ | refine mo_hpR ?_ | refine mo_hAi (fun _ => ?_) | refine mo_hAr (fun _ => ?_) | refine mo_hWi ?_ | refine mo_hWr ?_ | refine mo_hLn (fun _ => ?_) | refine mo_hgL (fun _ => ?_) | refine mo_hpL ?_ | refine mo_hpZ ?_ | refine mo_bd ?_ (fun _ => ?_) | refine mo_hCi (fun _ => ?_) (fun _ => ?_) | refine mo_hNw (fun _ => ?_) | refine mo_hNa (fun _ => ?_) | refine mo_hCp ?_ | refine mo_hOi ?_ | refine mo_hAl (fun _ => ?_) | refine mo_hWl ?_ | refine mo_gd ?_ | refine mo_sLn (fun _ => ?_) | refine mo_sAt (fun _ => ?_) | refine mo_kLn (fun _ => ?_) | refine mo_kAt (fun _ => ?_))
set_option maxRecDepth 10000 in
theorem sc_X10_publish_J119 {g : Gm Hp Unit} (B : Bx g cX10_publish 7 RX10 voV none 1 23 "publish") {l0 : Nat} (l1 : Option Nat) (l3 : Int32) (l4 : Option Nat) (l5 : Int32) (s0 : Int32) : Sm g 7 119 [(0, va_rf (some l0)), (1, va_rf l1), (3, .int l3), (4, va_rf l4), (5, .int l5)] [.int s0] (C_X10_publish_J119 l0 l1 l3 l4 l5 s0) := by
  unfold C_X10_publish_J119
  refine s_istore (i := 6) (lv' := [(6, .int s0), (0, va_rf (some l0)), (1, va_rf l1), (3, .int l3), (4, va_rf l4), (5, .int l5)]) B.1.1 dX10_publish_119 (by decide) rfl ?_
  refine s_rload_n B.1.1 1 dX10_publish_121 rfl rfl ?_
  refine s_rload B.1.1 4 dX10_publish_122 rfl ?_
  refine hp_getR B.1 5 4 rfl (by decide) inX3 (by decide) fk_X3_4 cf_X10_77 dX10_publish_124 (fun v10 => ?_)
  refine hp_cvi (As := []) (st := [va_rf (some l0)]) 9 rfl (by decide) B.1 (fun a => mC_X7_count B.2.1 a ) cc_X7_count cl_X10_55 cn_X7_count ce_X7_count ci_X7 cd_X7_count (by decide) rfl (Nat.le_of_ble_eq_true rfl) dX10_publish_127 (fun r11 => ?_)
  refine s_iload B.1.1 5 dX10_publish_130 rfl ?_
  refine s_iadd B.1.1 dX10_publish_132 ?_
  refine s_rload B.1.1 4 dX10_publish_133 rfl ?_
  refine hp_getR B.1 5 5 rfl (by decide) inX3 (by decide) fk_X3_5 cf_X10_80 dX10_publish_135 (fun v12 => ?_)
  refine hp_cvi (As := []) (st := [.int (r11 + l5), va_rf (some l0)]) 9 rfl (by decide) B.1 (fun a => mC_X7_count B.2.1 a ) cc_X7_count cl_X10_55 cn_X7_count ce_X7_count ci_X7 cd_X7_count (by decide) rfl (Nat.le_of_ble_eq_true rfl) dX10_publish_138 (fun r13 => ?_)
  refine s_iadd B.1.1 dX10_publish_141 ?_
  refine s_iload B.1.1 0 dX10_publish_142 rfl ?_
  refine s_iadd B.1.1 dX10_publish_144 ?_
  refine s_rload B.1.1 4 dX10_publish_145 rfl ?_
  refine hp_getR B.1 5 6 rfl (by decide) inX3 (by decide) fk_X3_6 cf_X10_83 dX10_publish_147 (fun v14 => ?_)
  refine hp_cvi (As := []) (st := [.int (((r11 + l5) + r13) + s0), va_rf (some l0)]) 9 rfl (by decide) B.1 (fun a => mC_X7_count B.2.1 a ) cc_X7_count cl_X10_55 cn_X7_count ce_X7_count ci_X7 cd_X7_count (by decide) rfl (Nat.le_of_ble_eq_true rfl) dX10_publish_150 (fun r15 => ?_)
  refine s_iadd B.1.1 dX10_publish_153 ?_
  refine hp_cvv (As := [.int ((((r11 + l5) + r13) + s0) + r15)]) (st := []) 12 rfl (by decide) B.1 (fun a => mC_X10_variable B.2.1 a ((((r11 + l5) + r13) + s0) + r15)) cc_X10_variable cl_X10_86 cn_X10_variable ce_X10_variable ci_X10 cd_X10_variable (by decide) rfl (Nat.le_of_ble_eq_true rfl) dX10_publish_154 (fun r16 => ?_)
  refine s_rload_n B.1.1 1 dX10_publish_157 rfl rfl ?_
  refine s_rload B.1.1 4 dX10_publish_158 rfl ?_
  refine hp_getR B.1 5 4 rfl (by decide) inX3 (by decide) fk_X3_4 cf_X10_77 dX10_publish_160 (fun v17 => ?_)
  refine hp_cvv (As := [va_rf v17]) (st := []) 12 rfl (by decide) B.1 (fun a => mC_X10_raw B.2.1 a v17) cc_X10_raw cl_X10_61 cn_X10_raw ce_X10_raw ci_X10 cd_X10_raw (by decide) rfl (Nat.le_of_ble_eq_true rfl) dX10_publish_163 (fun r18 => ?_)
  refine s_iload B.1.1 5 dX10_publish_166 rfl ?_
  refine s_if_le B.1.1 186 dX10_publish_168 (by decide) ?_ ?_
  · exact Sm.lvs [1, 2, 4, 0] rfl (sc_X10_publish_J186 B l1 l4 s0)
  · refine s_rload_n B.1.1 1 dX10_publish_171 rfl rfl ?_
    refine s_iconst (v := 2) B.1.1 dX10_publish_172 (by decide) ?_
    refine hp_cvv (As := [.int (2 : Int32)]) (st := []) 12 rfl (by decide) B.1 (fun a => mC_X10_one B.2.1 a (2 : Int32)) cc_X10_one cl_X10_89 cn_X10_one ce_X10_one ci_X10 cd_X10_one (by decide) rfl (Nat.le_of_ble_eq_true rfl) dX10_publish_173 (fun r19 => ?_)
    refine s_rload_n B.1.1 1 dX10_publish_176 rfl rfl ?_
    refine s_rload B.1.1 4 dX10_publish_177 rfl ?_
    refine s_iload_n B.1.1 3 dX10_publish_179 rfl rfl ?_
    refine hp_cvl (As := [.int l3]) (st := [va_rf (some l0)]) 5 rfl (by decide) B.1 (fun a => mC_X3_left B.2.1 a l3) cc_X3_left cl_X10_92 cn_X3_left ce_X3_left ci_X3 cd_X3_left (by decide) rfl (Nat.le_of_ble_eq_true rfl) dX10_publish_180 (fun r20 => ?_)
    refine hp_cvv (As := [.long r20]) (st := []) 12 rfl (by decide) B.1 (fun a => mC_X10_four B.2.1 a r20) cc_X10_four cl_X10_96 cn_X10_four ce_X10_four ci_X10 cd_X10_four (by decide) rfl (Nat.le_of_ble_eq_true rfl) dX10_publish_183 (fun r21 => ?_)
    exact Sm.lvs [1, 2, 4, 0] rfl (sc_X10_publish_J186 B l1 l4 s0)
def C_X10_publish_J96 (l0 : Nat) (l1 : Option Nat) (l3 : Int32) (l4 : Option Nat) (s0 : Int32) : Hp → Option (Unit × Hp) :=
  hgI 3 3 l1 fun v22 =>
  if v22 = 0 then (
    C_X10_publish_J119 l0 l1 l3 l4 s0 (0 : Int32)
  ) else (
    hgI 3 3 l1 fun v23 =>
    hCv 12 (some l0) (fun a => C_X10_width a v23) fun r24 =>
    C_X10_publish_J119 l0 l1 l3 l4 s0 ((1 : Int32) + r24)
  )
set_option maxRecDepth 10000 in
theorem mo_C_X10_publish_J96 (l0 : Nat) (l1 : Option Nat) (l3 : Int32) (l4 : Option Nat) (s0 : Int32) : Mo (C_X10_publish_J96 l0 l1 l3 l4 s0) := by
  unfold C_X10_publish_J96
  repeat' (with_reducible first | assumption | exact mo_rt _ | exact mo_zt _ | exact mo_no | apply mo_C_X10_publish_J119 | apply mo_C_X10_width | refine mo_ite ?_ ?_ | refine mo_hgI (fun _ => ?_) | refine mo_hgR (fun _ => ?_) | refine mo_hCv (fun _ => ?_) (fun _ => ?_) | refine mo_lq (fun _ => ?_) | refine mo_hpI ?_ | refine mo_hpR ?_ | refine mo_hAi (fun _ => ?_) | refine mo_hAr (fun _ => ?_) | refine mo_hWi ?_ | refine mo_hWr ?_ | refine mo_hLn (fun _ => ?_) | refine mo_hgL (fun _ => ?_) | refine mo_hpL ?_ | refine mo_hpZ ?_ | refine mo_bd ?_ (fun _ => ?_) | refine mo_hCi (fun _ => ?_) (fun _ => ?_) | refine mo_hNw (fun _ => ?_) | refine mo_hNa (fun _ => ?_) | refine mo_hCp ?_ | refine mo_hOi ?_ | refine mo_hAl (fun _ => ?_) | refine mo_hWl ?_ | refine mo_gd ?_ | refine mo_sLn (fun _ => ?_) | refine mo_sAt (fun _ => ?_) | refine mo_kLn (fun _ => ?_) | refine mo_kAt (fun _ => ?_))
set_option maxRecDepth 10000 in
theorem sc_X10_publish_J96 {g : Gm Hp Unit} (B : Bx g cX10_publish 7 RX10 voV none 1 23 "publish") {l0 : Nat} (l1 : Option Nat) (l3 : Int32) (l4 : Option Nat) (s0 : Int32) : Sm g 7 96 [(0, va_rf (some l0)), (1, va_rf l1), (3, .int l3), (4, va_rf l4)] [.int s0] (C_X10_publish_J96 l0 l1 l3 l4 s0) := by
  unfold C_X10_publish_J96
  refine s_istore (i := 5) (lv' := [(5, .int s0), (0, va_rf (some l0)), (1, va_rf l1), (3, .int l3), (4, va_rf l4)]) B.1.1 dX10_publish_96 (by decide) (by simp [va_rf_cat, cat_i, cat_l, cat_r]) ?_
  refine s_rload_n B.1.1 2 dX10_publish_98 rfl rfl ?_
  refine hp_getI B.1 3 3 rfl (by decide) inX1 (by decide) fk_X1_3.1 fk_X1_3.2 cf_X10_74 dX10_publish_99 (fun v22 => ?_)
  refine s_if_ne B.1.1 109 dX10_publish_102 (by decide) ?_ ?_
  · refine s_iconst (v := 1) B.1.1 dX10_publish_109 (by decide) ?_
    refine s_rload_n B.1.1 1 dX10_publish_110 rfl rfl ?_
    refine s_rload_n B.1.1 2 dX10_publish_111 rfl rfl ?_
    refine hp_getI B.1 3 3 rfl (by decide) inX1 (by decide) fk_X1_3.1 fk_X1_3.2 cf_X10_74 dX10_publish_112 (fun v23 => ?_)
    refine hp_cvi (As := [.int v23]) (st := [.int (1 : Int32)]) 12 rfl (by decide) B.1 (fun a => mC_X10_width B.2.1 a v23) cc_X10_width cl_X10_28 cn_X10_width ce_X10_width ci_X10 cd_X10_width (by decide) rfl (Nat.le_of_ble_eq_true rfl) dX10_publish_115 (fun r24 => ?_)
    refine s_iadd B.1.1 dX10_publish_118 ?_
    exact Sm.lvs [1, 2, 3, 4, 0] rfl (sc_X10_publish_J119 B l1 l3 l4 s0 ((1 : Int32) + r24))
  · refine s_iconst (v := 0) B.1.1 dX10_publish_105 (by decide) ?_
    refine s_goto B.1.1 119 dX10_publish_106 (by decide) ?_
    exact Sm.lvs [1, 2, 3, 4, 0] rfl (sc_X10_publish_J119 B l1 l3 l4 s0 (0 : Int32))
def C_X10_publish_J79 (l0 : Nat) (l1 : Option Nat) (l3 : Int32) (l4 : Option Nat) : Hp → Option (Unit × Hp) :=
  hgL 5 7 l4 fun v25 =>
  if (lg_cmp v25 (-1 : Int64)) = 0 then (
    C_X10_publish_J96 l0 l1 l3 l4 (0 : Int32)
  ) else (
    C_X10_publish_J96 l0 l1 l3 l4 (5 : Int32)
  )
set_option maxRecDepth 10000 in
theorem mo_C_X10_publish_J79 (l0 : Nat) (l1 : Option Nat) (l3 : Int32) (l4 : Option Nat) : Mo (C_X10_publish_J79 l0 l1 l3 l4) := by
  unfold C_X10_publish_J79
  repeat' (with_reducible first | assumption | exact mo_rt _ | exact mo_zt _ | exact mo_no | apply mo_C_X10_publish_J96 | refine mo_ite ?_ ?_ | refine mo_hgI (fun _ => ?_) | refine mo_hgR (fun _ => ?_) | refine mo_hCv (fun _ => ?_) (fun _ => ?_) | refine mo_lq (fun _ => ?_) | refine mo_hpI ?_ | refine mo_hpR ?_ | refine mo_hAi (fun _ => ?_) | refine mo_hAr (fun _ => ?_) | refine mo_hWi ?_ | refine mo_hWr ?_ | refine mo_hLn (fun _ => ?_) | refine mo_hgL (fun _ => ?_) | refine mo_hpL ?_ | refine mo_hpZ ?_ | refine mo_bd ?_ (fun _ => ?_) | refine mo_hCi (fun _ => ?_) (fun _ => ?_) | refine mo_hNw (fun _ => ?_) | refine mo_hNa (fun _ => ?_) | refine mo_hCp ?_ | refine mo_hOi ?_ | refine mo_hAl (fun _ => ?_) | refine mo_hWl ?_ | refine mo_gd ?_ | refine mo_sLn (fun _ => ?_) | refine mo_sAt (fun _ => ?_) | refine mo_kLn (fun _ => ?_) | refine mo_kAt (fun _ => ?_))
set_option maxRecDepth 10000 in
theorem sc_X10_publish_J79 {g : Gm Hp Unit} (B : Bx g cX10_publish 7 RX10 voV none 1 23 "publish") {l0 : Nat} (l1 : Option Nat) (l3 : Int32) (l4 : Option Nat) : Sm g 7 79 [(0, va_rf (some l0)), (1, va_rf l1), (3, .int l3), (4, va_rf l4)] [] (C_X10_publish_J79 l0 l1 l3 l4) := by
  unfold C_X10_publish_J79
  refine s_rload B.1.1 3 dX10_publish_79 rfl ?_
  refine hp_getL B.1 5 7 rfl (by decide) inX3 (by decide) fk_X3_7 cf_X10_68 dX10_publish_81 (fun v25 => ?_)
  refine s_ldc2 (v := (-1)) B.1.1 tw_1114 dX10_publish_84 ?_
  refine s_lcmp B.1.1 dX10_publish_87 ?_
  refine s_if_ne B.1.1 95 dX10_publish_88 (by decide) ?_ ?_
  · refine s_iconst (v := 5) B.1.1 dX10_publish_95 (by decide) ?_
    exact Sm.lvs [0, 1, 2, 3] rfl (sc_X10_publish_J96 B l1 l3 l4 (5 : Int32))
  · refine s_iconst (v := 0) B.1.1 dX10_publish_91 (by decide) ?_
    refine s_goto B.1.1 96 dX10_publish_92 (by decide) ?_
    exact Sm.lvs [0, 1, 2, 3] rfl (sc_X10_publish_J96 B l1 l3 l4 (0 : Int32))
def C_X10_publish_J39 (l0 : Nat) (l1 : Option Nat) (l3 : Int32) (l4 : Option Nat) (s0 : Option Nat) (s1 : Int32) (s2 : Int32) : Hp → Option (Unit × Hp) :=
  hCv 12 s0 (fun a => C_X10_begin a (s1 ||| s2)) fun r26 =>
  hgR 5 0 l4 fun v27 =>
  hCv 9 v27 (fun a => C_X7_count a) fun r28 =>
  hCv 12 (some l0) (fun a => C_X10_two a r28) fun r29 =>
  hgR 5 0 l4 fun v30 =>
  hCv 12 (some l0) (fun a => C_X10_raw a v30) fun r31 =>
  hgI 3 1 l1 fun v32 =>
  if v32 ≤ 0 then (
    C_X10_publish_J79 l0 l1 l3 l4
  ) else (
    hgI 3 4 l1 fun v33 =>
    hCv 12 (some l0) (fun a => C_X10_two a v33) fun r34 =>
    C_X10_publish_J79 l0 l1 l3 l4
  )
set_option maxRecDepth 10000 in
theorem mo_C_X10_publish_J39 (l0 : Nat) (l1 : Option Nat) (l3 : Int32) (l4 : Option Nat) (s0 : Option Nat) (s1 : Int32) (s2 : Int32) : Mo (C_X10_publish_J39 l0 l1 l3 l4 s0 s1 s2) := by
  unfold C_X10_publish_J39
  repeat' (with_reducible first | assumption | exact mo_rt _ | exact mo_zt _ | exact mo_no | apply mo_C_X10_begin | apply mo_C_X7_count | apply mo_C_X10_two | apply mo_C_X10_raw | apply mo_C_X10_publish_J79 | refine mo_ite ?_ ?_ | refine mo_hgI (fun _ => ?_) | refine mo_hgR (fun _ => ?_) | refine mo_hCv (fun _ => ?_) (fun _ => ?_) | refine mo_lq (fun _ => ?_) | refine mo_hpI ?_ | refine mo_hpR ?_ | refine mo_hAi (fun _ => ?_) | refine mo_hAr (fun _ => ?_) | refine mo_hWi ?_ | refine mo_hWr ?_ | refine mo_hLn (fun _ => ?_) | refine mo_hgL (fun _ => ?_) | refine mo_hpL ?_ | refine mo_hpZ ?_ | refine mo_bd ?_ (fun _ => ?_) | refine mo_hCi (fun _ => ?_) (fun _ => ?_) | refine mo_hNw (fun _ => ?_) | refine mo_hNa (fun _ => ?_) | refine mo_hCp ?_ | refine mo_hOi ?_ | refine mo_hAl (fun _ => ?_) | refine mo_hWl ?_ | refine mo_gd ?_ | refine mo_sLn (fun _ => ?_) | refine mo_sAt (fun _ => ?_) | refine mo_kLn (fun _ => ?_) | refine mo_kAt (fun _ => ?_))
set_option maxRecDepth 10000 in
theorem sc_X10_publish_J39 {g : Gm Hp Unit} (B : Bx g cX10_publish 7 RX10 voV none 1 23 "publish") {l0 : Nat} (l1 : Option Nat) (l3 : Int32) (l4 : Option Nat) (s0 : Option Nat) (s1 : Int32) (s2 : Int32) : Sm g 7 39 [(0, va_rf (some l0)), (1, va_rf l1), (3, .int l3), (4, va_rf l4)] [.int s2, .int s1, va_rf s0] (C_X10_publish_J39 l0 l1 l3 l4 s0 s1 s2) := by
  unfold C_X10_publish_J39
  refine s_ior B.1.1 dX10_publish_39 ?_
  refine hp_cvv (As := [.int (s1 ||| s2)]) (st := []) 12 rfl (by decide) B.1 (fun a => mC_X10_begin B.2.1 a (s1 ||| s2)) cc_X10_begin cl_X10_45 cn_X10_begin ce_X10_begin ci_X10 cd_X10_begin (by decide) rfl (Nat.le_of_ble_eq_true rfl) dX10_publish_40 (fun r26 => ?_)
  refine s_rload_n B.1.1 0 dX10_publish_43 rfl rfl ?_
  refine s_rload B.1.1 3 dX10_publish_44 rfl ?_
  refine hp_getR B.1 5 0 rfl (by decide) inX3 (by decide) fk_X3_0 cf_X10_49 dX10_publish_46 (fun v27 => ?_)
  refine hp_cvi (As := []) (st := [va_rf (some l0)]) 9 rfl (by decide) B.1 (fun a => mC_X7_count B.2.1 a ) cc_X7_count cl_X10_55 cn_X7_count ce_X7_count ci_X7 cd_X7_count (by decide) rfl (Nat.le_of_ble_eq_true rfl) dX10_publish_49 (fun r28 => ?_)
  refine hp_cvv (As := [.int r28]) (st := []) 12 rfl (by decide) B.1 (fun a => mC_X10_two B.2.1 a r28) cc_X10_two cl_X10_58 cn_X10_two ce_X10_two ci_X10 cd_X10_two (by decide) rfl (Nat.le_of_ble_eq_true rfl) dX10_publish_52 (fun r29 => ?_)
  refine s_rload_n B.1.1 0 dX10_publish_55 rfl rfl ?_
  refine s_rload B.1.1 3 dX10_publish_56 rfl ?_
  refine hp_getR B.1 5 0 rfl (by decide) inX3 (by decide) fk_X3_0 cf_X10_49 dX10_publish_58 (fun v30 => ?_)
  refine hp_cvv (As := [va_rf v30]) (st := []) 12 rfl (by decide) B.1 (fun a => mC_X10_raw B.2.1 a v30) cc_X10_raw cl_X10_61 cn_X10_raw ce_X10_raw ci_X10 cd_X10_raw (by decide) rfl (Nat.le_of_ble_eq_true rfl) dX10_publish_61 (fun r31 => ?_)
  refine s_rload_n B.1.1 1 dX10_publish_64 rfl rfl ?_
  refine hp_getI B.1 3 1 rfl (by decide) inX1 (by decide) fk_X1_1.1 fk_X1_1.2 cf_X10_38 dX10_publish_65 (fun v32 => ?_)
  refine s_if_le B.1.1 79 dX10_publish_68 (by decide) ?_ ?_
  · exact Sm.lvs [0, 1, 2, 3] rfl (sc_X10_publish_J79 B l1 l3 l4)
  · refine s_rload_n B.1.1 0 dX10_publish_71 rfl rfl ?_
    refine s_rload_n B.1.1 1 dX10_publish_72 rfl rfl ?_
    refine hp_getI B.1 3 4 rfl (by decide) inX1 (by decide) fk_X1_4.1 fk_X1_4.2 cf_X10_65 dX10_publish_73 (fun v33 => ?_)
    refine hp_cvv (As := [.int v33]) (st := []) 12 rfl (by decide) B.1 (fun a => mC_X10_two B.2.1 a v33) cc_X10_two cl_X10_58 cn_X10_two ce_X10_two ci_X10 cd_X10_two (by decide) rfl (Nat.le_of_ble_eq_true rfl) dX10_publish_76 (fun r34 => ?_)
    exact Sm.lvs [0, 1, 2, 3] rfl (sc_X10_publish_J79 B l1 l3 l4)
def C_X10_publish_J19 (l0 : Nat) (l1 : Option Nat) (l3 : Int32) (l4 : Option Nat) (s0 : Option Nat) (s1 : Int32) (s2 : Int32) : Hp → Option (Unit × Hp) :=
  hgI 3 1 l1 fun v35 =>
  hgI 3 2 l1 fun v36 =>
  if v36 = 0 then (
    C_X10_publish_J39 l0 l1 l3 l4 s0 ((s1 ||| s2) ||| (v35 <<< ((1 : Int32) &&& 31))) (0 : Int32)
  ) else (
    C_X10_publish_J39 l0 l1 l3 l4 s0 ((s1 ||| s2) ||| (v35 <<< ((1 : Int32) &&& 31))) (1 : Int32)
  )
set_option maxRecDepth 10000 in
theorem mo_C_X10_publish_J19 (l0 : Nat) (l1 : Option Nat) (l3 : Int32) (l4 : Option Nat) (s0 : Option Nat) (s1 : Int32) (s2 : Int32) : Mo (C_X10_publish_J19 l0 l1 l3 l4 s0 s1 s2) := by
  unfold C_X10_publish_J19
  repeat' (with_reducible first | assumption | exact mo_rt _ | exact mo_zt _ | exact mo_no | apply mo_C_X10_publish_J39 | refine mo_ite ?_ ?_ | refine mo_hgI (fun _ => ?_) | refine mo_hgR (fun _ => ?_) | refine mo_hCv (fun _ => ?_) (fun _ => ?_) | refine mo_lq (fun _ => ?_) | refine mo_hpI ?_ | refine mo_hpR ?_ | refine mo_hAi (fun _ => ?_) | refine mo_hAr (fun _ => ?_) | refine mo_hWi ?_ | refine mo_hWr ?_ | refine mo_hLn (fun _ => ?_) | refine mo_hgL (fun _ => ?_) | refine mo_hpL ?_ | refine mo_hpZ ?_ | refine mo_bd ?_ (fun _ => ?_) | refine mo_hCi (fun _ => ?_) (fun _ => ?_) | refine mo_hNw (fun _ => ?_) | refine mo_hNa (fun _ => ?_) | refine mo_hCp ?_ | refine mo_hOi ?_ | refine mo_hAl (fun _ => ?_) | refine mo_hWl ?_ | refine mo_gd ?_ | refine mo_sLn (fun _ => ?_) | refine mo_sAt (fun _ => ?_) | refine mo_kLn (fun _ => ?_) | refine mo_kAt (fun _ => ?_))
set_option maxRecDepth 10000 in
theorem sc_X10_publish_J19 {g : Gm Hp Unit} (B : Bx g cX10_publish 7 RX10 voV none 1 23 "publish") {l0 : Nat} (l1 : Option Nat) (l3 : Int32) (l4 : Option Nat) (s0 : Option Nat) (s1 : Int32) (s2 : Int32) : Sm g 7 19 [(0, va_rf (some l0)), (1, va_rf l1), (3, .int l3), (4, va_rf l4)] [.int s2, .int s1, va_rf s0] (C_X10_publish_J19 l0 l1 l3 l4 s0 s1 s2) := by
  unfold C_X10_publish_J19
  refine s_ior B.1.1 dX10_publish_19 ?_
  refine s_rload_n B.1.1 1 dX10_publish_20 rfl rfl ?_
  refine hp_getI B.1 3 1 rfl (by decide) inX1 (by decide) fk_X1_1.1 fk_X1_1.2 cf_X10_38 dX10_publish_21 (fun v35 => ?_)
  refine s_iconst (v := 1) B.1.1 dX10_publish_24 (by decide) ?_
  refine s_ishl B.1.1 dX10_publish_25 ?_
  refine s_ior B.1.1 dX10_publish_26 ?_
  refine s_rload_n B.1.1 1 dX10_publish_27 rfl rfl ?_
  refine hp_getI B.1 3 2 rfl (by decide) inX1 (by decide) fk_X1_2.1 fk_X1_2.2 cf_X10_41 dX10_publish_28 (fun v36 => ?_)
  refine s_if_eq B.1.1 38 dX10_publish_31 (by decide) ?_ ?_
  · refine s_iconst (v := 0) B.1.1 dX10_publish_38 (by decide) ?_
    exact Sm.lvs [0, 1, 2, 3] rfl (sc_X10_publish_J39 B l1 l3 l4 s0 ((s1 ||| s2) ||| (v35 <<< ((1 : Int32) &&& 31))) (0 : Int32))
  · refine s_iconst (v := 1) B.1.1 dX10_publish_34 (by decide) ?_
    refine s_goto B.1.1 39 dX10_publish_35 (by decide) ?_
    exact Sm.lvs [0, 1, 2, 3] rfl (sc_X10_publish_J39 B l1 l3 l4 s0 ((s1 ||| s2) ||| (v35 <<< ((1 : Int32) &&& 31))) (1 : Int32))
def C_X10_publish (l0 : Nat) (l1 : Option Nat) (l2 : Int32) (l3 : Int32) : Hp → Option (Unit × Hp) :=
  hgR 3 0 l1 fun v37 =>
  if l2 = 0 then (
    C_X10_publish_J19 l0 l1 l3 v37 (some l0) (48 : Int32) (0 : Int32)
  ) else (
    C_X10_publish_J19 l0 l1 l3 v37 (some l0) (48 : Int32) (8 : Int32)
  )
set_option maxRecDepth 10000 in
theorem mo_C_X10_publish (l0 : Nat) (l1 : Option Nat) (l2 : Int32) (l3 : Int32) : Mo (C_X10_publish l0 l1 l2 l3) := by
  unfold C_X10_publish
  repeat' (with_reducible first | assumption | exact mo_rt _ | exact mo_zt _ | exact mo_no | apply mo_C_X10_publish_J19 | refine mo_ite ?_ ?_ | refine mo_hgI (fun _ => ?_) | refine mo_hgR (fun _ => ?_) | refine mo_hCv (fun _ => ?_) (fun _ => ?_) | refine mo_lq (fun _ => ?_) | refine mo_hpI ?_ | refine mo_hpR ?_ | refine mo_hAi (fun _ => ?_) | refine mo_hAr (fun _ => ?_) | refine mo_hWi ?_ | refine mo_hWr ?_ | refine mo_hLn (fun _ => ?_) | refine mo_hgL (fun _ => ?_) | refine mo_hpL ?_ | refine mo_hpZ ?_ | refine mo_bd ?_ (fun _ => ?_) | refine mo_hCi (fun _ => ?_) (fun _ => ?_) | refine mo_hNw (fun _ => ?_) | refine mo_hNa (fun _ => ?_) | refine mo_hCp ?_ | refine mo_hOi ?_ | refine mo_hAl (fun _ => ?_) | refine mo_hWl ?_ | refine mo_gd ?_ | refine mo_sLn (fun _ => ?_) | refine mo_sAt (fun _ => ?_) | refine mo_kLn (fun _ => ?_) | refine mo_kAt (fun _ => ?_))
set_option maxRecDepth 10000 in
theorem mC_X10_publish {w : Wd} (hw : Wc w) (l0 : Nat) (l1 : Option Nat) (l2 : Int32) (l3 : Int32) : MH w yX10_publish cX10_publish 7 none 1 23 voV [va_rf (some l0), va_rf l1, .int l2, .int l3] (C_X10_publish l0 l1 l2 l3) := by
  have M0 : ∀ g : Gm Hp Unit, g.1 = w → Bx g cX10_publish 7 RX10 voV none 1 23 "publish" → Sm g 7 0 (lv_args 0 [va_rf (some l0), va_rf l1, .int l2, .int l3]) [] (C_X10_publish l0 l1 l2 l3) := by
    intro g hg B
    subst hg
    unfold C_X10_publish
    refine W_lva (lv := [(0, va_rf (some l0)), (1, va_rf l1), (2, .int l2), (3, .int l3)]) (by simp [lv_args, va_rf_cat, cat_i, cat_l, cat_r]) ?_
    refine s_rload_n B.1.1 1 dX10_publish_0 rfl rfl ?_
    refine hp_getR B.1 3 0 rfl (by decide) inX1 (by decide) fk_X1_0 cf_X10_32 dX10_publish_1 (fun v37 => ?_)
    refine s_rstore (i := 4) (lv' := [(4, va_rf v37), (0, va_rf (some l0)), (1, va_rf l1), (2, .int l2), (3, .int l3)]) B.1.1 dX10_publish_4 (by decide) rfl ?_
    refine s_rload_n B.1.1 1 dX10_publish_6 rfl rfl ?_
    refine s_bipush (v := (48)) B.1.1 dX10_publish_7 (by decide) ?_
    refine s_iload_n B.1.1 3 dX10_publish_9 rfl rfl ?_
    refine s_if_eq B.1.1 18 dX10_publish_10 (by decide) ?_ ?_
    · refine s_iconst (v := 0) B.1.1 dX10_publish_18 (by decide) ?_
      exact Sm.lvs [1, 2, 4, 0] rfl (sc_X10_publish_J19 B l1 l3 v37 (some l0) (48 : Int32) (0 : Int32))
    · refine s_bipush (v := (8)) B.1.1 dX10_publish_13 (by decide) ?_
      refine s_goto B.1.1 19 dX10_publish_15 (by decide) ?_
      exact Sm.lvs [1, 2, 4, 0] rfl (sc_X10_publish_J19 B l1 l3 v37 (some l0) (48 : Int32) (8 : Int32))
  exact MH.of hw ⟨rfl, rfl⟩ (by decide) (by simp [lg_sl, va_rf_cat, cat_i, cat_l, cat_r]) (mo_C_X10_publish l0 l1 l2 l3) M0
def C_X10_total (l0 : Nat) : Hp → Option (Int32 × Hp) :=
  hgI 12 2 (some l0) fun v1 =>
  hCv 12 (some l0) (fun a => C_X10_width a v1) fun r2 =>
  hgI 12 2 (some l0) fun v3 =>
  rt (((1 : Int32) + r2) + v3)
set_option maxRecDepth 10000 in
theorem mo_C_X10_total (l0 : Nat) : Mo (C_X10_total l0) := by
  unfold C_X10_total
  repeat' (with_reducible first | assumption | exact mo_rt _ | exact mo_zt _ | exact mo_no | apply mo_C_X10_width | refine mo_ite ?_ ?_ | refine mo_hgI (fun _ => ?_) | refine mo_hgR (fun _ => ?_) | refine mo_hCv (fun _ => ?_) (fun _ => ?_) | refine mo_lq (fun _ => ?_) | refine mo_hpI ?_ | refine mo_hpR ?_ | refine mo_hAi (fun _ => ?_) | refine mo_hAr (fun _ => ?_) | refine mo_hWi ?_ | refine mo_hWr ?_ | refine mo_hLn (fun _ => ?_) | refine mo_hgL (fun _ => ?_) | refine mo_hpL ?_ | refine mo_hpZ ?_ | refine mo_bd ?_ (fun _ => ?_) | refine mo_hCi (fun _ => ?_) (fun _ => ?_) | refine mo_hNw (fun _ => ?_) | refine mo_hNa (fun _ => ?_) | refine mo_hCp ?_ | refine mo_hOi ?_ | refine mo_hAl (fun _ => ?_) | refine mo_hWl ?_ | refine mo_gd ?_ | refine mo_sLn (fun _ => ?_) | refine mo_sAt (fun _ => ?_) | refine mo_kLn (fun _ => ?_) | refine mo_kAt (fun _ => ?_))
set_option maxRecDepth 10000 in
theorem mC_X10_total {w : Wd} (hw : Wc w) (l0 : Nat) : MH w yX10_total cX10_total 1 (some .int) 1 21 voI [va_rf (some l0)] (C_X10_total l0) := by
  have M0 : ∀ g : Gm Hp Int32, g.1 = w → Bx g cX10_total 1 RX10 voI (some .int) 1 21 "total" → Sm g 1 0 (lv_args 0 [va_rf (some l0)]) [] (C_X10_total l0) := by
    intro g hg B
    subst hg
    unfold C_X10_total
    refine W_lva (lv := [(0, va_rf (some l0))]) (by simp [lv_args, va_rf_cat, cat_i, cat_l, cat_r]) ?_
    refine s_iconst (v := 1) B.1.1 dX10_total_0 (by decide) ?_
    refine s_rload_n B.1.1 0 dX10_total_1 rfl rfl ?_
    refine s_rload_n B.1.1 0 dX10_total_2 rfl rfl ?_
    refine hp_getI B.1 12 2 rfl (by decide) inX10 (by decide) fk_X10_2.1 fk_X10_2.2 cf_X10_19 dX10_total_3 (fun v1 => ?_)
    refine hp_cvi (As := [.int v1]) (st := [.int (1 : Int32)]) 12 rfl (by decide) B.1 (fun a => mC_X10_width B.2.1 a v1) cc_X10_width cl_X10_28 cn_X10_width ce_X10_width ci_X10 cd_X10_width (by decide) rfl (Nat.le_of_ble_eq_true rfl) dX10_total_6 (fun r2 => ?_)
    refine s_iadd B.1.1 dX10_total_9 ?_
    refine s_rload_n B.1.1 0 dX10_total_10 rfl rfl ?_
    refine hp_getI B.1 12 2 rfl (by decide) inX10 (by decide) fk_X10_2.1 fk_X10_2.2 cf_X10_19 dX10_total_11 (fun v3 => ?_)
    refine s_iadd B.1.1 dX10_total_14 ?_
    exact s_iret B.1.1 B.2.2.2.2 dX10_total_15
  exact MH.of hw ⟨rfl, rfl⟩ (by decide) (by simp [lg_sl, va_rf_cat, cat_i, cat_l, cat_r]) (mo_C_X10_total l0) M0
def C_X8_arrive_J43 (l0 : Nat) (l2 : Int32) : Hp → Option (Unit × Hp) :=
  hpI 10 6 (some l0) l2 <|
  rt ()
set_option maxRecDepth 10000 in
theorem mo_C_X8_arrive_J43 (l0 : Nat) (l2 : Int32) : Mo (C_X8_arrive_J43 l0 l2) := by
  unfold C_X8_arrive_J43
  repeat' (with_reducible first | assumption | exact mo_rt _ | exact mo_zt _ | exact mo_no | refine mo_ite ?_ ?_ | refine mo_hgI (fun _ => ?_) | refine mo_hgR (fun _ => ?_) | refine mo_hCv (fun _ => ?_) (fun _ => ?_) | refine mo_lq (fun _ => ?_) | refine mo_hpI ?_ | refine mo_hpR ?_ | refine mo_hAi (fun _ => ?_) | refine mo_hAr (fun _ => ?_) | refine mo_hWi ?_ | refine mo_hWr ?_ | refine mo_hLn (fun _ => ?_) | refine mo_hgL (fun _ => ?_) | refine mo_hpL ?_ | refine mo_hpZ ?_ | refine mo_bd ?_ (fun _ => ?_) | refine mo_hCi (fun _ => ?_) (fun _ => ?_) | refine mo_hNw (fun _ => ?_) | refine mo_hNa (fun _ => ?_) | refine mo_hCp ?_ | refine mo_hOi ?_ | refine mo_hAl (fun _ => ?_) | refine mo_hWl ?_ | refine mo_gd ?_ | refine mo_sLn (fun _ => ?_) | refine mo_sAt (fun _ => ?_) | refine mo_kLn (fun _ => ?_) | refine mo_kAt (fun _ => ?_))
set_option maxRecDepth 10000 in
theorem sc_X8_arrive_J43 {g : Gm Hp Unit} (B : Bx g cX8_arrive 4 RX8 voV none 0 0 "arrive") {l0 : Nat} (l2 : Int32) : Sm g 4 43 [(0, va_rf (some l0)), (2, .int l2)] [] (C_X8_arrive_J43 l0 l2) := by
  unfold C_X8_arrive_J43
  refine s_rload_n B.1.1 0 dX8_arrive_43 rfl rfl ?_
  refine s_iload_n B.1.1 1 dX8_arrive_44 rfl rfl ?_
  refine hp_putI B.1 10 6 rfl (by decide) inX8 tyX8 tyX8_ok nmX8 (by decide) fk_X8_6.1 fk_X8_6.2 ft_X8_6 rfl cf_X8_71 dX8_arrive_45 ?_
  exact s_vret B.1.1 B.2.2.2.2 dX8_arrive_48
def C_X8_arrive_B4 (l0 : Nat) (kb : Option Nat → Int32 → Int32 → Hp → Option (Unit × Hp)) (ke43 : Int32 → Hp → Option (Unit × Hp)) (l1 : Option Nat) (l2 : Int32) (l3 : Int32) : Hp → Option (Unit × Hp) :=
  hgI 10 6 (some l0) fun v1 =>
  if v1 ≤ l3 then (
    ke43 l2
  ) else (
    hgR 10 5 (some l0) fun v2 =>
    hAr 7 v2 l3 fun v3 =>
    if v3 = l1 then (
      kb l1 l2 (l3 + 1)
    ) else (
      hgR 10 5 (some l0) fun v4 =>
      hgR 10 5 (some l0) fun v5 =>
      hAr 7 v5 l3 fun v6 =>
      hWr 7 3 v4 l2 v6 <|
      kb l1 (l2 + 1) (l3 + 1)
    )
  )
def C_X8_arrive_L4 (l0 : Nat) (ke43 : Int32 → Hp → Option (Unit × Hp)) : Nat → Option Nat → Int32 → Int32 → Hp → Option (Unit × Hp)
  | 0, _, _, _ => no
  | n + 1, l1, l2, l3 => C_X8_arrive_B4 l0 (fun l1 l2 l3 => C_X8_arrive_L4 l0 ke43 n l1 l2 l3) ke43 l1 l2 l3
set_option maxRecDepth 10000 in
theorem mo_C_X8_arrive_B4 (l0 : Nat) (kb : Option Nat → Int32 → Int32 → Hp → Option (Unit × Hp)) (ke43 : Int32 → Hp → Option (Unit × Hp)) (hkb : ∀ (l1 : Option Nat) (l2 : Int32) (l3 : Int32), Mo (kb l1 l2 l3)) (hke43 : ∀ (l2 : Int32), Mo (ke43 l2)) (l1 : Option Nat) (l2 : Int32) (l3 : Int32) : Mo (C_X8_arrive_B4 l0 kb ke43 l1 l2 l3) := by
  unfold C_X8_arrive_B4
  repeat' (with_reducible first | assumption | exact mo_rt _ | exact mo_zt _ | exact mo_no | apply hkb | apply hke43 | refine mo_ite ?_ ?_ | refine mo_hgI (fun _ => ?_) | refine mo_hgR (fun _ => ?_) | refine mo_hCv (fun _ => ?_) (fun _ => ?_) | refine mo_lq (fun _ => ?_) | refine mo_hpI ?_ | refine mo_hpR ?_ | refine mo_hAi (fun _ => ?_) | refine mo_hAr (fun _ => ?_) | refine mo_hWi ?_ | refine mo_hWr ?_ | refine mo_hLn (fun _ => ?_) | refine mo_hgL (fun _ => ?_) | refine mo_hpL ?_ | refine mo_hpZ ?_ | refine mo_bd ?_ (fun _ => ?_) | refine mo_hCi (fun _ => ?_) (fun _ => ?_) | refine mo_hNw (fun _ => ?_) | refine mo_hNa (fun _ => ?_) | refine mo_hCp ?_ | refine mo_hOi ?_ | refine mo_hAl (fun _ => ?_) | refine mo_hWl ?_ | refine mo_gd ?_ | refine mo_sLn (fun _ => ?_) | refine mo_sAt (fun _ => ?_) | refine mo_kLn (fun _ => ?_) | refine mo_kAt (fun _ => ?_))
set_option maxRecDepth 10000 in
theorem mo_C_X8_arrive_L4 (l0 : Nat) (ke43 : Int32 → Hp → Option (Unit × Hp)) (hke43 : ∀ (l2 : Int32), Mo (ke43 l2)) : ∀ (n : Nat) (l1 : Option Nat) (l2 : Int32) (l3 : Int32), Mo (C_X8_arrive_L4 l0 ke43 n l1 l2 l3)
  | 0, _, _, _ => mo_no
  | n + 1, l1, l2, l3 => mo_C_X8_arrive_B4 l0 _ ke43 (mo_C_X8_arrive_L4 l0 ke43 hke43 n) hke43 l1 l2 l3
set_option maxRecDepth 10000 in
theorem sc_X8_arrive_B4 {g : Gm Hp Unit} {kb : Option Nat → Int32 → Int32 → Hp → Option (Unit × Hp)} {ke43 : Int32 → Hp → Option (Unit × Hp)} (B : Bx g cX8_arrive 4 RX8 voV none 0 0 "arrive") {l0 : Nat} (hkb : ∀ (l1 : Option Nat) (l2 : Int32) (l3 : Int32), Sm g 4 4 [(0, va_rf (some l0)), (1, va_rf l1), (2, .int l2), (3, .int l3)] [] (kb l1 l2 l3)) (hke43 : ∀ (l2 : Int32), Sm g 4 43 [(0, va_rf (some l0)), (2, .int l2)] [] (ke43 l2)) (l1 : Option Nat) (l2 : Int32) (l3 : Int32) : Sm g 4 4 [(0, va_rf (some l0)), (1, va_rf l1), (2, .int l2), (3, .int l3)] [] (C_X8_arrive_B4 l0 kb ke43 l1 l2 l3) := by
  unfold C_X8_arrive_B4
  refine s_iload_n B.1.1 3 dX8_arrive_4 rfl rfl ?_
  refine s_rload_n B.1.1 0 dX8_arrive_5 rfl rfl ?_
  refine hp_getI B.1 10 6 rfl (by decide) inX8 (by decide) fk_X8_6.1 fk_X8_6.2 cf_X8_71 dX8_arrive_6 (fun v1 => ?_)
  refine s_icmp_ge B.1.1 43 dX8_arrive_9 (by decide) ?_ ?_
  · exact Sm.lvs [0, 2] rfl (hke43 l2)
  · refine s_rload_n B.1.1 0 dX8_arrive_12 rfl rfl ?_
    refine hp_getR B.1 10 5 rfl (by decide) inX8 (by decide) fk_X8_5 cf_X8_19 dX8_arrive_13 (fun v2 => ?_)
    refine s_iload_n B.1.1 3 dX8_arrive_16 rfl rfl ?_
    refine hp_Ar B.1 7 (by decide) (fun _ => rfl) dX8_arrive_17 (fun v3 => ?_)
    refine s_rload_n B.1.1 1 dX8_arrive_18 rfl rfl ?_
    refine s_acmp_eq B.1.1 37 dX8_arrive_19 (by decide) ?_ ?_
    · refine s_iinc (v := l3 + 1) (lv' := [(3, .int (l3 + 1)), (0, va_rf (some l0)), (1, va_rf l1), (2, .int l2)]) B.1.1 3 dX8_arrive_37 rfl rfl (by decide) rfl ?_
      refine s_goto B.1.1 4 dX8_arrive_40 (by decide) ?_
      exact Sm.lvs [1, 2, 3, 0] rfl (hkb l1 l2 (l3 + 1))
    · refine s_rload_n B.1.1 0 dX8_arrive_22 rfl rfl ?_
      refine hp_getR B.1 10 5 rfl (by decide) inX8 (by decide) fk_X8_5 cf_X8_19 dX8_arrive_23 (fun v4 => ?_)
      refine s_iload_n B.1.1 2 dX8_arrive_26 rfl rfl ?_
      refine s_rload_n B.1.1 0 dX8_arrive_27 rfl rfl ?_
      refine hp_getR B.1 10 5 rfl (by decide) inX8 (by decide) fk_X8_5 cf_X8_19 dX8_arrive_28 (fun v5 => ?_)
      refine s_iload_n B.1.1 3 dX8_arrive_31 rfl rfl ?_
      refine hp_Ar B.1 7 (by decide) (fun _ => rfl) dX8_arrive_32 (fun v6 => ?_)
      refine hp_Wr B.1 7 3 (by decide) (fun _ => rfl) rfl (by decide) dX8_arrive_33 ?_
      refine s_iinc (v := l2 + 1) (lv' := [(2, .int (l2 + 1)), (0, va_rf (some l0)), (1, va_rf l1), (3, .int l3)]) B.1.1 2 dX8_arrive_34 rfl rfl (by decide) (by simp [va_rf_cat, cat_i, cat_l, cat_r]) ?_
      refine s_iinc (v := l3 + 1) (lv' := [(3, .int (l3 + 1)), (2, .int (l2 + 1)), (0, va_rf (some l0)), (1, va_rf l1)]) B.1.1 3 dX8_arrive_37 rfl rfl (by decide) rfl ?_
      refine s_goto B.1.1 4 dX8_arrive_40 (by decide) ?_
      exact Sm.lvs [2, 3, 1, 0] rfl (hkb l1 (l2 + 1) (l3 + 1))
set_option maxRecDepth 10000 in
theorem sc_X8_arrive_L4 {g : Gm Hp Unit} {ke43 : Int32 → Hp → Option (Unit × Hp)} (B : Bx g cX8_arrive 4 RX8 voV none 0 0 "arrive") {l0 : Nat} (hke43 : ∀ (l2 : Int32), Sm g 4 43 [(0, va_rf (some l0)), (2, .int l2)] [] (ke43 l2)) : ∀ (n : Nat) (l1 : Option Nat) (l2 : Int32) (l3 : Int32), Sm g 4 4 [(0, va_rf (some l0)), (1, va_rf l1), (2, .int l2), (3, .int l3)] [] (C_X8_arrive_L4 l0 ke43 n l1 l2 l3)
  | 0, _, _, _ => Sm.fail
  | n + 1, l1, l2, l3 => sc_X8_arrive_B4 B (sc_X8_arrive_L4 B hke43 n) hke43 l1 l2 l3
def C_X8_arrive (l0 : Nat) (l1 : Option Nat) : Hp → Option (Unit × Hp) :=
  C_X8_arrive_L4 l0 (fun l2 => C_X8_arrive_J43 l0 l2) fu l1 (0 : Int32) (0 : Int32)
set_option maxRecDepth 10000 in
theorem mo_C_X8_arrive (l0 : Nat) (l1 : Option Nat) : Mo (C_X8_arrive l0 l1) := by
  unfold C_X8_arrive
  repeat' (with_reducible first | assumption | exact mo_rt _ | exact mo_zt _ | exact mo_no | apply mo_C_X8_arrive_L4 | apply mo_C_X8_arrive_J43 | refine mo_ite ?_ ?_ | refine mo_hgI (fun _ => ?_) | refine mo_hgR (fun _ => ?_) | refine mo_hCv (fun _ => ?_) (fun _ => ?_) | refine mo_lq (fun _ => ?_) | refine mo_hpI ?_ | refine mo_hpR ?_ | refine mo_hAi (fun _ => ?_) | refine mo_hAr (fun _ => ?_) | refine mo_hWi ?_ | refine mo_hWr ?_ | refine mo_hLn (fun _ => ?_) | refine mo_hgL (fun _ => ?_) | refine mo_hpL ?_ | refine mo_hpZ ?_ | refine mo_bd ?_ (fun _ => ?_) | refine mo_hCi (fun _ => ?_) (fun _ => ?_) | refine mo_hNw (fun _ => ?_) | refine mo_hNa (fun _ => ?_) | refine mo_hCp ?_ | refine mo_hOi ?_ | refine mo_hAl (fun _ => ?_) | refine mo_hWl ?_ | refine mo_gd ?_ | refine mo_sLn (fun _ => ?_) | refine mo_sAt (fun _ => ?_) | refine mo_kLn (fun _ => ?_) | refine mo_kAt (fun _ => ?_))
set_option maxRecDepth 10000 in
theorem mC_X8_arrive {w : Wd} (hw : Wc w) (l0 : Nat) (l1 : Option Nat) : MH w yX8_arrive cX8_arrive 4 none 0 0 voV [va_rf (some l0), va_rf l1] (C_X8_arrive l0 l1) := by
  have M0 : ∀ g : Gm Hp Unit, g.1 = w → Bx g cX8_arrive 4 RX8 voV none 0 0 "arrive" → Sm g 4 0 (lv_args 0 [va_rf (some l0), va_rf l1]) [] (C_X8_arrive l0 l1) := by
    intro g hg B
    subst hg
    unfold C_X8_arrive
    refine W_lva (lv := [(0, va_rf (some l0)), (1, va_rf l1)]) (by simp [lv_args, va_rf_cat, cat_i, cat_l, cat_r]) ?_
    refine s_iconst (v := 0) B.1.1 dX8_arrive_0 (by decide) ?_
    refine s_istore_n (i := 2) (lv' := [(2, .int (0 : Int32)), (0, va_rf (some l0)), (1, va_rf l1)]) B.1.1 dX8_arrive_1 rfl (by decide) (by simp [va_rf_cat, cat_i, cat_l, cat_r]) ?_
    refine s_iconst (v := 0) B.1.1 dX8_arrive_2 (by decide) ?_
    refine s_istore_n (i := 3) (lv' := [(3, .int (0 : Int32)), (2, .int (0 : Int32)), (0, va_rf (some l0)), (1, va_rf l1)]) B.1.1 dX8_arrive_3 rfl (by decide) rfl ?_
    exact Sm.lvs [2, 3, 1, 0] rfl (sc_X8_arrive_L4 B (fun l2 => sc_X8_arrive_J43 B l2) fu l1 (0 : Int32) (0 : Int32))
  exact MH.of hw ⟨rfl, rfl⟩ (by decide) (by simp [lg_sl, va_rf_cat, cat_i, cat_l, cat_r]) (mo_C_X8_arrive l0 l1) M0
def C_X11_deliver_J58 (l0 : Nat) (l1 : Option Nat) : Hp → Option (Unit × Hp) :=
  hgR 10 2 l1 fun v1 =>
  if v1 = none then (
    rt ()
  ) else (
    hgR 10 2 l1 fun v2 =>
    hgR 13 5 (some l0) fun v3 =>
    hCv 2 v2 (fun a => C_X0_put a v3) fun r4 =>
    rt ()
  )
set_option maxRecDepth 10000 in
theorem mo_C_X11_deliver_J58 (l0 : Nat) (l1 : Option Nat) : Mo (C_X11_deliver_J58 l0 l1) := by
  unfold C_X11_deliver_J58
  repeat' (with_reducible first | assumption | exact mo_rt _ | exact mo_zt _ | exact mo_no | apply mo_C_X0_put | refine mo_ite ?_ ?_ | refine mo_hgI (fun _ => ?_) | refine mo_hgR (fun _ => ?_) | refine mo_hCv (fun _ => ?_) (fun _ => ?_) | refine mo_lq (fun _ => ?_) | refine mo_hpI ?_ | refine mo_hpR ?_ | refine mo_hAi (fun _ => ?_) | refine mo_hAr (fun _ => ?_) | refine mo_hWi ?_ | refine mo_hWr ?_ | refine mo_hLn (fun _ => ?_) | refine mo_hgL (fun _ => ?_) | refine mo_hpL ?_ | refine mo_hpZ ?_ | refine mo_bd ?_ (fun _ => ?_) | refine mo_hCi (fun _ => ?_) (fun _ => ?_) | refine mo_hNw (fun _ => ?_) | refine mo_hNa (fun _ => ?_) | refine mo_hCp ?_ | refine mo_hOi ?_ | refine mo_hAl (fun _ => ?_) | refine mo_hWl ?_ | refine mo_gd ?_ | refine mo_sLn (fun _ => ?_) | refine mo_sAt (fun _ => ?_) | refine mo_kLn (fun _ => ?_) | refine mo_kAt (fun _ => ?_))
set_option maxRecDepth 10000 in
theorem sc_X11_deliver_J58 {g : Gm Hp Unit} (B : Bx g cX11_deliver 4 RX11 voV none 2 64 "deliver") {l0 : Nat} (l1 : Option Nat) : Sm g 4 58 [(0, va_rf (some l0)), (1, va_rf l1)] [] (C_X11_deliver_J58 l0 l1) := by
  unfold C_X11_deliver_J58
  refine s_rload_n B.1.1 1 dX11_deliver_58 rfl rfl ?_
  refine hp_getR B.1 10 2 rfl (by decide) inX8 (by decide) fk_X8_2 cf_X11_151 dX11_deliver_59 (fun v1 => ?_)
  refine s_ifnull B.1.1 76 dX11_deliver_62 (by decide) ?_ ?_
  · exact s_vret B.1.1 B.2.2.2.2 dX11_deliver_76
  · refine s_rload_n B.1.1 1 dX11_deliver_65 rfl rfl ?_
    refine hp_getR B.1 10 2 rfl (by decide) inX8 (by decide) fk_X8_2 cf_X11_151 dX11_deliver_66 (fun v2 => ?_)
    refine s_rload_n B.1.1 0 dX11_deliver_69 rfl rfl ?_
    refine hp_getR B.1 13 5 rfl (by decide) inX11 (by decide) fk_X11_5 cf_X11_48 dX11_deliver_70 (fun v3 => ?_)
    refine hp_cvv (As := [va_rf v3]) (st := []) 2 rfl (by decide) B.1 (fun a => mC_X0_put B.2.1 a v3) cc_X0_put cl_X11_327 cn_X0_put ce_X0_put ci_X0 cd_X0_put (by decide) rfl (Nat.le_of_ble_eq_true rfl) dX11_deliver_73 (fun r4 => ?_)
    exact s_vret B.1.1 B.2.2.2.2 dX11_deliver_76
def C_X11_deliver (l0 : Nat) (l1 : Option Nat) (l2 : Option Nat) (l3 : Int32) : Hp → Option (Unit × Hp) :=
  hgR 13 5 (some l0) fun v5 =>
  hgI 13 9 (some l0) fun v6 =>
  hCv 12 v5 (fun a => C_X10_publish a l2 l3 v6) fun r7 =>
  hgL 10 14 l1 fun v8 =>
  if (lg_cmp v8 (-1 : Int64)) = 0 then (
    C_X11_deliver_J58 l0 l1
  ) else (
    hgR 13 5 (some l0) fun v9 =>
    hCv 12 v9 (fun a => C_X10_total a) fun r10 =>
    hgL 10 14 l1 fun v11 =>
    if (lg_cmp r10.toInt64 v11) ≤ 0 then (
      C_X11_deliver_J58 l0 l1
    ) else (
      hgI 13 12 (some l0) fun v12 =>
      hpI 13 12 (some l0) (v12 + (1 : Int32)) <|
      hCv 10 l1 (fun a => C_X8_arrive a l2) fun r13 =>
      rt ()
    )
  )
set_option maxRecDepth 10000 in
theorem mo_C_X11_deliver (l0 : Nat) (l1 : Option Nat) (l2 : Option Nat) (l3 : Int32) : Mo (C_X11_deliver l0 l1 l2 l3) := by
  unfold C_X11_deliver
  repeat' (with_reducible first | assumption | exact mo_rt _ | exact mo_zt _ | exact mo_no | apply mo_C_X10_publish | apply mo_C_X11_deliver_J58 | apply mo_C_X10_total | apply mo_C_X8_arrive | refine mo_ite ?_ ?_ | refine mo_hgI (fun _ => ?_) | refine mo_hgR (fun _ => ?_) | refine mo_hCv (fun _ => ?_) (fun _ => ?_) | refine mo_lq (fun _ => ?_) | refine mo_hpI ?_ | refine mo_hpR ?_ | refine mo_hAi (fun _ => ?_) | refine mo_hAr (fun _ => ?_) | refine mo_hWi ?_ | refine mo_hWr ?_ | refine mo_hLn (fun _ => ?_) | refine mo_hgL (fun _ => ?_) | refine mo_hpL ?_ | refine mo_hpZ ?_ | refine mo_bd ?_ (fun _ => ?_) | refine mo_hCi (fun _ => ?_) (fun _ => ?_) | refine mo_hNw (fun _ => ?_) | refine mo_hNa (fun _ => ?_) | refine mo_hCp ?_ | refine mo_hOi ?_ | refine mo_hAl (fun _ => ?_) | refine mo_hWl ?_ | refine mo_gd ?_ | refine mo_sLn (fun _ => ?_) | refine mo_sAt (fun _ => ?_) | refine mo_kLn (fun _ => ?_) | refine mo_kAt (fun _ => ?_))
set_option maxRecDepth 10000 in
theorem mC_X11_deliver {w : Wd} (hw : Wc w) (l0 : Nat) (l1 : Option Nat) (l2 : Option Nat) (l3 : Int32) : MH w yX11_deliver cX11_deliver 4 none 2 64 voV [va_rf (some l0), va_rf l1, va_rf l2, .int l3] (C_X11_deliver l0 l1 l2 l3) := by
  have M0 : ∀ g : Gm Hp Unit, g.1 = w → Bx g cX11_deliver 4 RX11 voV none 2 64 "deliver" → Sm g 4 0 (lv_args 0 [va_rf (some l0), va_rf l1, va_rf l2, .int l3]) [] (C_X11_deliver l0 l1 l2 l3) := by
    intro g hg B
    subst hg
    unfold C_X11_deliver
    refine W_lva (lv := [(0, va_rf (some l0)), (1, va_rf l1), (2, va_rf l2), (3, .int l3)]) (by simp [lv_args, va_rf_cat, cat_i, cat_l, cat_r]) ?_
    refine s_rload_n B.1.1 0 dX11_deliver_0 rfl rfl ?_
    refine hp_getR B.1 13 5 rfl (by decide) inX11 (by decide) fk_X11_5 cf_X11_48 dX11_deliver_1 (fun v5 => ?_)
    refine s_rload_n B.1.1 2 dX11_deliver_4 rfl rfl ?_
    refine s_iload_n B.1.1 3 dX11_deliver_5 rfl rfl ?_
    refine s_rload_n B.1.1 0 dX11_deliver_6 rfl rfl ?_
    refine hp_getI B.1 13 9 rfl (by decide) inX11 (by decide) fk_X11_9.1 fk_X11_9.2 cf_X11_131 dX11_deliver_7 (fun v6 => ?_)
    refine hp_cvv (As := [va_rf l2, .int l3, .int v6]) (st := []) 12 rfl (by decide) B.1 (fun a => mC_X10_publish B.2.1 a l2 l3 v6) cc_X10_publish cl_X11_542 cn_X10_publish ce_X10_publish ci_X10 cd_X10_publish (by decide) rfl (Nat.le_of_ble_eq_true rfl) dX11_deliver_10 (fun r7 => ?_)
    refine s_rload_n B.1.1 1 dX11_deliver_13 rfl rfl ?_
    refine hp_getL B.1 10 14 rfl (by decide) inX8 (by decide) fk_X8_14 cf_X11_545 dX11_deliver_14 (fun v8 => ?_)
    refine s_ldc2 (v := (-1)) B.1.1 tw_1126 dX11_deliver_17 ?_
    refine s_lcmp B.1.1 dX11_deliver_20 ?_
    refine s_if_eq B.1.1 58 dX11_deliver_21 (by decide) ?_ ?_
    · exact Sm.lvs [0, 1] rfl (sc_X11_deliver_J58 B l1)
    · refine s_rload_n B.1.1 0 dX11_deliver_24 rfl rfl ?_
      refine hp_getR B.1 13 5 rfl (by decide) inX11 (by decide) fk_X11_5 cf_X11_48 dX11_deliver_25 (fun v9 => ?_)
      refine hp_cvi (As := []) (st := []) 12 rfl (by decide) B.1 (fun a => mC_X10_total B.2.1 a ) cc_X10_total cl_X11_548 cn_X10_total ce_X10_total ci_X10 cd_X10_total (by decide) rfl (Nat.le_of_ble_eq_true rfl) dX11_deliver_28 (fun r10 => ?_)
      refine s_i2l B.1.1 dX11_deliver_31 ?_
      refine s_rload_n B.1.1 1 dX11_deliver_32 rfl rfl ?_
      refine hp_getL B.1 10 14 rfl (by decide) inX8 (by decide) fk_X8_14 cf_X11_545 dX11_deliver_33 (fun v11 => ?_)
      refine s_lcmp B.1.1 dX11_deliver_36 ?_
      refine s_if_le B.1.1 58 dX11_deliver_37 (by decide) ?_ ?_
      · exact Sm.lvs [0, 1] rfl (sc_X11_deliver_J58 B l1)
      · refine s_rload_n B.1.1 0 dX11_deliver_40 rfl rfl ?_
        refine s_dup B.1.1 dX11_deliver_41 rfl ?_
        refine hp_getI B.1 13 12 rfl (by decide) inX11 (by decide) fk_X11_12.1 fk_X11_12.2 cf_X11_252 dX11_deliver_42 (fun v12 => ?_)
        refine s_iconst (v := 1) B.1.1 dX11_deliver_45 (by decide) ?_
        refine s_iadd B.1.1 dX11_deliver_46 ?_
        refine hp_putI B.1 13 12 rfl (by decide) inX11 tyX11 tyX11_ok nmX11 (by decide) fk_X11_12.1 fk_X11_12.2 ft_X11_12 rfl cf_X11_252 dX11_deliver_47 ?_
        refine s_rload_n B.1.1 1 dX11_deliver_50 rfl rfl ?_
        refine s_rload_n B.1.1 2 dX11_deliver_51 rfl rfl ?_
        refine hp_cvv (As := [va_rf l2]) (st := []) 10 rfl (by decide) B.1 (fun a => mC_X8_arrive B.2.1 a l2) cc_X8_arrive cl_X11_551 cn_X8_arrive ce_X8_arrive ci_X8 cd_X8_arrive (by decide) rfl (Nat.le_of_ble_eq_true rfl) dX11_deliver_52 (fun r13 => ?_)
        refine s_goto B.1.1 76 dX11_deliver_55 (by decide) ?_
        exact s_vret B.1.1 B.2.2.2.2 dX11_deliver_76
  exact MH.of hw ⟨rfl, rfl⟩ (by decide) (by simp [lg_sl, va_rf_cat, cat_i, cat_l, cat_r]) (mo_C_X11_deliver l0 l1 l2 l3) M0
def C_X1_become (l0 : Nat) (l1 : Option Nat) (l2 : Int32) (l3 : Int32) (l4 : Int32) : Hp → Option (Unit × Hp) :=
  hpR 3 0 (some l0) l1 <|
  hpI 3 1 (some l0) l2 <|
  hpZ 3 2 (some l0) l3 <|
  hpI 3 3 (some l0) l4 <|
  rt ()
set_option maxRecDepth 10000 in
theorem mo_C_X1_become (l0 : Nat) (l1 : Option Nat) (l2 : Int32) (l3 : Int32) (l4 : Int32) : Mo (C_X1_become l0 l1 l2 l3 l4) := by
  unfold C_X1_become
  repeat' (with_reducible first | assumption | exact mo_rt _ | exact mo_zt _ | exact mo_no | refine mo_ite ?_ ?_ | refine mo_hgI (fun _ => ?_) | refine mo_hgR (fun _ => ?_) | refine mo_hCv (fun _ => ?_) (fun _ => ?_) | refine mo_lq (fun _ => ?_) | refine mo_hpI ?_ | refine mo_hpR ?_ | refine mo_hAi (fun _ => ?_) | refine mo_hAr (fun _ => ?_) | refine mo_hWi ?_ | refine mo_hWr ?_ | refine mo_hLn (fun _ => ?_) | refine mo_hgL (fun _ => ?_) | refine mo_hpL ?_ | refine mo_hpZ ?_ | refine mo_bd ?_ (fun _ => ?_) | refine mo_hCi (fun _ => ?_) (fun _ => ?_) | refine mo_hNw (fun _ => ?_) | refine mo_hNa (fun _ => ?_) | refine mo_hCp ?_ | refine mo_hOi ?_ | refine mo_hAl (fun _ => ?_) | refine mo_hWl ?_ | refine mo_gd ?_ | refine mo_sLn (fun _ => ?_) | refine mo_sAt (fun _ => ?_) | refine mo_kLn (fun _ => ?_) | refine mo_kAt (fun _ => ?_))
set_option maxRecDepth 10000 in
theorem mC_X1_become {w : Wd} (hw : Wc w) (l0 : Nat) (l1 : Option Nat) (l2 : Int32) (l3 : Int32) (l4 : Int32) : MH w yX1_become cX1_become 5 none 0 0 voV [va_rf (some l0), va_rf l1, .int l2, .int l3, .int l4] (C_X1_become l0 l1 l2 l3 l4) := by
  have M0 : ∀ g : Gm Hp Unit, g.1 = w → Bx g cX1_become 5 RX1 voV none 0 0 "become" → Sm g 5 0 (lv_args 0 [va_rf (some l0), va_rf l1, .int l2, .int l3, .int l4]) [] (C_X1_become l0 l1 l2 l3 l4) := by
    intro g hg B
    subst hg
    unfold C_X1_become
    refine W_lva (lv := [(0, va_rf (some l0)), (1, va_rf l1), (2, .int l2), (3, .int l3), (4, .int l4)]) (by simp [lv_args, va_rf_cat, cat_i, cat_l, cat_r]) ?_
    refine s_rload_n B.1.1 0 dX1_become_0 rfl rfl ?_
    refine s_rload_n B.1.1 1 dX1_become_1 rfl rfl ?_
    refine hp_putR B.1 3 0 rfl (by decide) inX1 tyX1 tyX1_ok nmX1 (by decide) fk_X1_0 ft_X1_0 rfR rfl cf_X1_7 dX1_become_2 ?_
    refine s_rload_n B.1.1 0 dX1_become_5 rfl rfl ?_
    refine s_iload_n B.1.1 2 dX1_become_6 rfl rfl ?_
    refine hp_putI B.1 3 1 rfl (by decide) inX1 tyX1 tyX1_ok nmX1 (by decide) fk_X1_1.1 fk_X1_1.2 ft_X1_1 rfl cf_X1_13 dX1_become_7 ?_
    refine s_rload_n B.1.1 0 dX1_become_10 rfl rfl ?_
    refine s_iload_n B.1.1 3 dX1_become_11 rfl rfl ?_
    refine hp_putZ B.1 3 2 rfl (by decide) inX1 tyX1 tyX1_ok nmX1 (by decide) fk_X1_2.1 fk_X1_2.2 ft_X1_2 rfl cf_X1_17 dX1_become_12 ?_
    refine s_rload_n B.1.1 0 dX1_become_15 rfl rfl ?_
    refine s_iload B.1.1 4 dX1_become_16 rfl ?_
    refine hp_putI B.1 3 3 rfl (by decide) inX1 tyX1 tyX1_ok nmX1 (by decide) fk_X1_3.1 fk_X1_3.2 ft_X1_3 rfl cf_X1_21 dX1_become_18 ?_
    exact s_vret B.1.1 B.2.2.2.2 dX1_become_21
  exact MH.of hw ⟨rfl, rfl⟩ (by decide) (by simp [lg_sl, va_rf_cat, cat_i, cat_l, cat_r]) (mo_C_X1_become l0 l1 l2 l3 l4) M0
def C_X3_isGone (l0 : Nat) (l1 : Int32) : Hp → Option (Int32 × Hp) :=
  hgL 5 7 (some l0) fun v1 =>
  if (lg_cmp v1 (-1 : Int64)) = 0 then (
    zt ((0 : Int32))
  ) else (
    hCv 5 (some l0) (fun a => C_X3_left a l1) fun r2 =>
    if (lg_cmp r2 (0 : Int64)) = 0 then (
      zt ((1 : Int32))
    ) else (
      zt ((0 : Int32))
    )
  )
set_option maxRecDepth 10000 in
theorem mo_C_X3_isGone (l0 : Nat) (l1 : Int32) : Mo (C_X3_isGone l0 l1) := by
  unfold C_X3_isGone
  repeat' (with_reducible first | assumption | exact mo_rt _ | exact mo_zt _ | exact mo_no | apply mo_C_X3_left | refine mo_ite ?_ ?_ | refine mo_hgI (fun _ => ?_) | refine mo_hgR (fun _ => ?_) | refine mo_hCv (fun _ => ?_) (fun _ => ?_) | refine mo_lq (fun _ => ?_) | refine mo_hpI ?_ | refine mo_hpR ?_ | refine mo_hAi (fun _ => ?_) | refine mo_hAr (fun _ => ?_) | refine mo_hWi ?_ | refine mo_hWr ?_ | refine mo_hLn (fun _ => ?_) | refine mo_hgL (fun _ => ?_) | refine mo_hpL ?_ | refine mo_hpZ ?_ | refine mo_bd ?_ (fun _ => ?_) | refine mo_hCi (fun _ => ?_) (fun _ => ?_) | refine mo_hNw (fun _ => ?_) | refine mo_hNa (fun _ => ?_) | refine mo_hCp ?_ | refine mo_hOi ?_ | refine mo_hAl (fun _ => ?_) | refine mo_hWl ?_ | refine mo_gd ?_ | refine mo_sLn (fun _ => ?_) | refine mo_sAt (fun _ => ?_) | refine mo_kLn (fun _ => ?_) | refine mo_kAt (fun _ => ?_))
set_option maxRecDepth 10000 in
theorem mC_X3_isGone {w : Wd} (hw : Wc w) (l0 : Nat) (l1 : Int32) : MH w yX3_isGone cX3_isGone 2 (some .boolean) 1 23 voI [va_rf (some l0), .int l1] (C_X3_isGone l0 l1) := by
  have M0 : ∀ g : Gm Hp Int32, g.1 = w → Bx g cX3_isGone 2 RX3 voI (some .boolean) 1 23 "isGone" → Sm g 2 0 (lv_args 0 [va_rf (some l0), .int l1]) [] (C_X3_isGone l0 l1) := by
    intro g hg B
    subst hg
    unfold C_X3_isGone
    refine W_lva (lv := [(0, va_rf (some l0)), (1, .int l1)]) (by simp [lv_args, va_rf_cat, cat_i, cat_l, cat_r]) ?_
    refine s_rload_n B.1.1 0 dX3_isGone_0 rfl rfl ?_
    refine hp_getL B.1 5 7 rfl (by decide) inX3 (by decide) fk_X3_7 cf_X3_26 dX3_isGone_1 (fun v1 => ?_)
    refine s_ldc2 (v := (-1)) B.1.1 tw_1044 dX3_isGone_4 ?_
    refine s_lcmp B.1.1 dX3_isGone_7 ?_
    refine s_if_eq B.1.1 25 dX3_isGone_8 (by decide) ?_ ?_
    · refine s_iconst (v := 0) B.1.1 dX3_isGone_25 (by decide) ?_
      exact s_zret B.1.1 B.2.2.2.2 dX3_isGone_26
    · refine s_rload_n B.1.1 0 dX3_isGone_11 rfl rfl ?_
      refine s_iload_n B.1.1 1 dX3_isGone_12 rfl rfl ?_
      refine hp_cvl (As := [.int l1]) (st := []) 5 rfl (by decide) B.1 (fun a => mC_X3_left B.2.1 a l1) cc_X3_left cl_X3_35 cn_X3_left ce_X3_left ci_X3 cd_X3_left (by decide) rfl (Nat.le_of_ble_eq_true rfl) dX3_isGone_13 (fun r2 => ?_)
      refine s_lconst (v := 0) B.1.1 dX3_isGone_16 (by decide) ?_
      refine s_lcmp B.1.1 dX3_isGone_17 ?_
      refine s_if_ne B.1.1 25 dX3_isGone_18 (by decide) ?_ ?_
      · refine s_iconst (v := 0) B.1.1 dX3_isGone_25 (by decide) ?_
        exact s_zret B.1.1 B.2.2.2.2 dX3_isGone_26
      · refine s_iconst (v := 1) B.1.1 dX3_isGone_21 (by decide) ?_
        refine s_goto B.1.1 26 dX3_isGone_22 (by decide) ?_
        exact s_zret B.1.1 B.2.2.2.2 dX3_isGone_26
  exact MH.of hw ⟨rfl, rfl⟩ (by decide) (by simp [lg_sl, va_rf_cat, cat_i, cat_l, cat_r]) (mo_C_X3_isGone l0 l1) M0
def C_X8_isUsed_J31 (l0 : Nat) : Hp → Option (Int32 × Hp) :=
  zt ((0 : Int32))
set_option maxRecDepth 10000 in
theorem mo_C_X8_isUsed_J31 (l0 : Nat) : Mo (C_X8_isUsed_J31 l0) := by
  unfold C_X8_isUsed_J31
  repeat' (with_reducible first | assumption | exact mo_rt _ | exact mo_zt _ | exact mo_no | refine mo_ite ?_ ?_ | refine mo_hgI (fun _ => ?_) | refine mo_hgR (fun _ => ?_) | refine mo_hCv (fun _ => ?_) (fun _ => ?_) | refine mo_lq (fun _ => ?_) | refine mo_hpI ?_ | refine mo_hpR ?_ | refine mo_hAi (fun _ => ?_) | refine mo_hAr (fun _ => ?_) | refine mo_hWi ?_ | refine mo_hWr ?_ | refine mo_hLn (fun _ => ?_) | refine mo_hgL (fun _ => ?_) | refine mo_hpL ?_ | refine mo_hpZ ?_ | refine mo_bd ?_ (fun _ => ?_) | refine mo_hCi (fun _ => ?_) (fun _ => ?_) | refine mo_hNw (fun _ => ?_) | refine mo_hNa (fun _ => ?_) | refine mo_hCp ?_ | refine mo_hOi ?_ | refine mo_hAl (fun _ => ?_) | refine mo_hWl ?_ | refine mo_gd ?_ | refine mo_sLn (fun _ => ?_) | refine mo_sAt (fun _ => ?_) | refine mo_kLn (fun _ => ?_) | refine mo_kAt (fun _ => ?_))
set_option maxRecDepth 10000 in
theorem sc_X8_isUsed_J31 {g : Gm Hp Int32} (B : Bx g cX8_isUsed 3 RX8 voI (some .boolean) 0 0 "isUsed") {l0 : Nat} : Sm g 3 31 [] [] (C_X8_isUsed_J31 l0) := by
  unfold C_X8_isUsed_J31
  refine s_iconst (v := 0) B.1.1 dX8_isUsed_31 (by decide) ?_
  exact s_zret B.1.1 B.2.2.2.2 dX8_isUsed_32
def C_X8_isUsed_J23 (l0 : Nat) : Hp → Option (Int32 × Hp) :=
  zt ((1 : Int32))
set_option maxRecDepth 10000 in
theorem mo_C_X8_isUsed_J23 (l0 : Nat) : Mo (C_X8_isUsed_J23 l0) := by
  unfold C_X8_isUsed_J23
  repeat' (with_reducible first | assumption | exact mo_rt _ | exact mo_zt _ | exact mo_no | refine mo_ite ?_ ?_ | refine mo_hgI (fun _ => ?_) | refine mo_hgR (fun _ => ?_) | refine mo_hCv (fun _ => ?_) (fun _ => ?_) | refine mo_lq (fun _ => ?_) | refine mo_hpI ?_ | refine mo_hpR ?_ | refine mo_hAi (fun _ => ?_) | refine mo_hAr (fun _ => ?_) | refine mo_hWi ?_ | refine mo_hWr ?_ | refine mo_hLn (fun _ => ?_) | refine mo_hgL (fun _ => ?_) | refine mo_hpL ?_ | refine mo_hpZ ?_ | refine mo_bd ?_ (fun _ => ?_) | refine mo_hCi (fun _ => ?_) (fun _ => ?_) | refine mo_hNw (fun _ => ?_) | refine mo_hNa (fun _ => ?_) | refine mo_hCp ?_ | refine mo_hOi ?_ | refine mo_hAl (fun _ => ?_) | refine mo_hWl ?_ | refine mo_gd ?_ | refine mo_sLn (fun _ => ?_) | refine mo_sAt (fun _ => ?_) | refine mo_kLn (fun _ => ?_) | refine mo_kAt (fun _ => ?_))
set_option maxRecDepth 10000 in
theorem sc_X8_isUsed_J23 {g : Gm Hp Int32} (B : Bx g cX8_isUsed 3 RX8 voI (some .boolean) 0 0 "isUsed") {l0 : Nat} : Sm g 3 23 [] [] (C_X8_isUsed_J23 l0) := by
  unfold C_X8_isUsed_J23
  refine s_iconst (v := 1) B.1.1 dX8_isUsed_23 (by decide) ?_
  exact s_zret B.1.1 B.2.2.2.2 dX8_isUsed_24
def C_X8_isUsed_B2 (l0 : Nat) (kb : Int32 → Int32 → Hp → Option (Int32 × Hp)) (ke23 : Hp → Option (Int32 × Hp)) (ke31 : Hp → Option (Int32 × Hp)) (l1 : Int32) (l2 : Int32) : Hp → Option (Int32 × Hp) :=
  hgI 10 6 (some l0) fun v1 =>
  if v1 ≤ l2 then (
    ke31
  ) else (
    hgR 10 5 (some l0) fun v2 =>
    hAr 7 v2 l2 fun v3 =>
    hgI 3 4 v3 fun v4 =>
    if v4 = l1 then (
      ke23
    ) else (
      kb l1 (l2 + 1)
    )
  )
def C_X8_isUsed_L2 (l0 : Nat) (ke23 : Hp → Option (Int32 × Hp)) (ke31 : Hp → Option (Int32 × Hp)) : Nat → Int32 → Int32 → Hp → Option (Int32 × Hp)
  | 0, _, _ => no
  | n + 1, l1, l2 => C_X8_isUsed_B2 l0 (fun l1 l2 => C_X8_isUsed_L2 l0 ke23 ke31 n l1 l2) ke23 ke31 l1 l2
set_option maxRecDepth 10000 in
theorem mo_C_X8_isUsed_B2 (l0 : Nat) (kb : Int32 → Int32 → Hp → Option (Int32 × Hp)) (ke23 : Hp → Option (Int32 × Hp)) (ke31 : Hp → Option (Int32 × Hp)) (hkb : ∀ (l1 : Int32) (l2 : Int32), Mo (kb l1 l2)) (hke23 : Mo (ke23)) (hke31 : Mo (ke31)) (l1 : Int32) (l2 : Int32) : Mo (C_X8_isUsed_B2 l0 kb ke23 ke31 l1 l2) := by
  unfold C_X8_isUsed_B2
  repeat' (with_reducible first | assumption | exact mo_rt _ | exact mo_zt _ | exact mo_no | apply hkb | apply hke23 | apply hke31 | refine mo_ite ?_ ?_ | refine mo_hgI (fun _ => ?_) | refine mo_hgR (fun _ => ?_) | refine mo_hCv (fun _ => ?_) (fun _ => ?_) | refine mo_lq (fun _ => ?_) | refine mo_hpI ?_ | refine mo_hpR ?_ | refine mo_hAi (fun _ => ?_) | refine mo_hAr (fun _ => ?_) | refine mo_hWi ?_ | refine mo_hWr ?_ | refine mo_hLn (fun _ => ?_) | refine mo_hgL (fun _ => ?_) | refine mo_hpL ?_ | refine mo_hpZ ?_ | refine mo_bd ?_ (fun _ => ?_) | refine mo_hCi (fun _ => ?_) (fun _ => ?_) | refine mo_hNw (fun _ => ?_) | refine mo_hNa (fun _ => ?_) | refine mo_hCp ?_ | refine mo_hOi ?_ | refine mo_hAl (fun _ => ?_) | refine mo_hWl ?_ | refine mo_gd ?_ | refine mo_sLn (fun _ => ?_) | refine mo_sAt (fun _ => ?_) | refine mo_kLn (fun _ => ?_) | refine mo_kAt (fun _ => ?_))
set_option maxRecDepth 10000 in
theorem mo_C_X8_isUsed_L2 (l0 : Nat) (ke23 : Hp → Option (Int32 × Hp)) (ke31 : Hp → Option (Int32 × Hp)) (hke23 : Mo (ke23)) (hke31 : Mo (ke31)) : ∀ (n : Nat) (l1 : Int32) (l2 : Int32), Mo (C_X8_isUsed_L2 l0 ke23 ke31 n l1 l2)
  | 0, _, _ => mo_no
  | n + 1, l1, l2 => mo_C_X8_isUsed_B2 l0 _ ke23 ke31 (mo_C_X8_isUsed_L2 l0 ke23 ke31 hke23 hke31 n) hke23 hke31 l1 l2
set_option maxRecDepth 10000 in
theorem sc_X8_isUsed_B2 {g : Gm Hp Int32} {kb : Int32 → Int32 → Hp → Option (Int32 × Hp)} {ke23 : Hp → Option (Int32 × Hp)} {ke31 : Hp → Option (Int32 × Hp)} (B : Bx g cX8_isUsed 3 RX8 voI (some .boolean) 0 0 "isUsed") {l0 : Nat} (hkb : ∀ (l1 : Int32) (l2 : Int32), Sm g 3 2 [(0, va_rf (some l0)), (1, .int l1), (2, .int l2)] [] (kb l1 l2)) (hke23 : Sm g 3 23 [] [] (ke23)) (hke31 : Sm g 3 31 [] [] (ke31)) (l1 : Int32) (l2 : Int32) : Sm g 3 2 [(0, va_rf (some l0)), (1, .int l1), (2, .int l2)] [] (C_X8_isUsed_B2 l0 kb ke23 ke31 l1 l2) := by
  unfold C_X8_isUsed_B2
  refine s_iload_n B.1.1 2 dX8_isUsed_2 rfl rfl ?_
  refine s_rload_n B.1.1 0 dX8_isUsed_3 rfl rfl ?_
  refine hp_getI B.1 10 6 rfl (by decide) inX8 (by decide) fk_X8_6.1 fk_X8_6.2 cf_X8_71 dX8_isUsed_4 (fun v1 => ?_)
  refine s_icmp_ge B.1.1 31 dX8_isUsed_7 (by decide) ?_ ?_
  · exact Sm.lvs [] rfl (hke31)
  · refine s_rload_n B.1.1 0 dX8_isUsed_10 rfl rfl ?_
    refine hp_getR B.1 10 5 rfl (by decide) inX8 (by decide) fk_X8_5 cf_X8_19 dX8_isUsed_11 (fun v2 => ?_)
    refine s_iload_n B.1.1 2 dX8_isUsed_14 rfl rfl ?_
    refine hp_Ar B.1 7 (by decide) (fun _ => rfl) dX8_isUsed_15 (fun v3 => ?_)
    refine hp_getI B.1 3 4 rfl (by decide) inX1 (by decide) fk_X1_4.1 fk_X1_4.2 cf_X8_83 dX8_isUsed_16 (fun v4 => ?_)
    refine s_iload_n B.1.1 1 dX8_isUsed_19 rfl rfl ?_
    refine s_icmp_ne B.1.1 25 dX8_isUsed_20 (by decide) ?_ ?_
    · refine s_iinc (v := l2 + 1) (lv' := [(2, .int (l2 + 1)), (0, va_rf (some l0)), (1, .int l1)]) B.1.1 2 dX8_isUsed_25 rfl rfl (by decide) rfl ?_
      refine s_goto B.1.1 2 dX8_isUsed_28 (by decide) ?_
      exact Sm.lvs [1, 2, 0] rfl (hkb l1 (l2 + 1))
    · exact Sm.lvs [] rfl (hke23)
set_option maxRecDepth 10000 in
theorem sc_X8_isUsed_L2 {g : Gm Hp Int32} {ke23 : Hp → Option (Int32 × Hp)} {ke31 : Hp → Option (Int32 × Hp)} (B : Bx g cX8_isUsed 3 RX8 voI (some .boolean) 0 0 "isUsed") {l0 : Nat} (hke23 : Sm g 3 23 [] [] (ke23)) (hke31 : Sm g 3 31 [] [] (ke31)) : ∀ (n : Nat) (l1 : Int32) (l2 : Int32), Sm g 3 2 [(0, va_rf (some l0)), (1, .int l1), (2, .int l2)] [] (C_X8_isUsed_L2 l0 ke23 ke31 n l1 l2)
  | 0, _, _ => Sm.fail
  | n + 1, l1, l2 => sc_X8_isUsed_B2 B (sc_X8_isUsed_L2 B hke23 hke31 n) hke23 hke31 l1 l2
def C_X8_isUsed (l0 : Nat) (l1 : Int32) : Hp → Option (Int32 × Hp) :=
  C_X8_isUsed_L2 l0 (C_X8_isUsed_J23 l0) (C_X8_isUsed_J31 l0) fu l1 (0 : Int32)
set_option maxRecDepth 10000 in
theorem mo_C_X8_isUsed (l0 : Nat) (l1 : Int32) : Mo (C_X8_isUsed l0 l1) := by
  unfold C_X8_isUsed
  repeat' (with_reducible first | assumption | exact mo_rt _ | exact mo_zt _ | exact mo_no | apply mo_C_X8_isUsed_L2 | apply mo_C_X8_isUsed_J23 | apply mo_C_X8_isUsed_J31 | refine mo_ite ?_ ?_ | refine mo_hgI (fun _ => ?_) | refine mo_hgR (fun _ => ?_) | refine mo_hCv (fun _ => ?_) (fun _ => ?_) | refine mo_lq (fun _ => ?_) | refine mo_hpI ?_ | refine mo_hpR ?_ | refine mo_hAi (fun _ => ?_) | refine mo_hAr (fun _ => ?_) | refine mo_hWi ?_ | refine mo_hWr ?_ | refine mo_hLn (fun _ => ?_) | refine mo_hgL (fun _ => ?_) | refine mo_hpL ?_ | refine mo_hpZ ?_ | refine mo_bd ?_ (fun _ => ?_) | refine mo_hCi (fun _ => ?_) (fun _ => ?_) | refine mo_hNw (fun _ => ?_) | refine mo_hNa (fun _ => ?_) | refine mo_hCp ?_ | refine mo_hOi ?_ | refine mo_hAl (fun _ => ?_) | refine mo_hWl ?_ | refine mo_gd ?_ | refine mo_sLn (fun _ => ?_) | refine mo_sAt (fun _ => ?_) | refine mo_kLn (fun _ => ?_) | refine mo_kAt (fun _ => ?_))
set_option maxRecDepth 10000 in
theorem mC_X8_isUsed {w : Wd} (hw : Wc w) (l0 : Nat) (l1 : Int32) : MH w yX8_isUsed cX8_isUsed 3 (some .boolean) 0 0 voI [va_rf (some l0), .int l1] (C_X8_isUsed l0 l1) := by
  have M0 : ∀ g : Gm Hp Int32, g.1 = w → Bx g cX8_isUsed 3 RX8 voI (some .boolean) 0 0 "isUsed" → Sm g 3 0 (lv_args 0 [va_rf (some l0), .int l1]) [] (C_X8_isUsed l0 l1) := by
    intro g hg B
    subst hg
    unfold C_X8_isUsed
    refine W_lva (lv := [(0, va_rf (some l0)), (1, .int l1)]) (by simp [lv_args, va_rf_cat, cat_i, cat_l, cat_r]) ?_
    refine s_iconst (v := 0) B.1.1 dX8_isUsed_0 (by decide) ?_
    refine s_istore_n (i := 2) (lv' := [(2, .int (0 : Int32)), (0, va_rf (some l0)), (1, .int l1)]) B.1.1 dX8_isUsed_1 rfl (by decide) rfl ?_
    exact Sm.lvs [1, 2, 0] rfl (sc_X8_isUsed_L2 B (sc_X8_isUsed_J23 B) (sc_X8_isUsed_J31 B) fu l1 (0 : Int32))
  exact MH.of hw ⟨rfl, rfl⟩ (by decide) (by simp [lg_sl, va_rf_cat, cat_i, cat_l, cat_r]) (mo_C_X8_isUsed l0 l1) M0
def C_X8_depart_J22 (l0 : Nat) (l1 : Option Nat) (l2 : Int32) : Hp → Option (Unit × Hp) :=
  hpI 3 4 l1 l2 <|
  hgI 10 6 (some l0) fun v1 =>
  if (16 : Int32) ≤ v1 then (
    rt ()
  ) else (
    hgR 10 5 (some l0) fun v2 =>
    hgI 10 6 (some l0) fun v3 =>
    hWr 7 3 v2 v3 l1 <|
    hgI 10 6 (some l0) fun v4 =>
    hpI 10 6 (some l0) (v4 + (1 : Int32)) <|
    rt ()
  )
set_option maxRecDepth 10000 in
theorem mo_C_X8_depart_J22 (l0 : Nat) (l1 : Option Nat) (l2 : Int32) : Mo (C_X8_depart_J22 l0 l1 l2) := by
  unfold C_X8_depart_J22
  repeat' (with_reducible first | assumption | exact mo_rt _ | exact mo_zt _ | exact mo_no | refine mo_ite ?_ ?_ | refine mo_hgI (fun _ => ?_) | refine mo_hgR (fun _ => ?_) | refine mo_hCv (fun _ => ?_) (fun _ => ?_) | refine mo_lq (fun _ => ?_) | refine mo_hpI ?_ | refine mo_hpR ?_ | refine mo_hAi (fun _ => ?_) | refine mo_hAr (fun _ => ?_) | refine mo_hWi ?_ | refine mo_hWr ?_ | refine mo_hLn (fun _ => ?_) | refine mo_hgL (fun _ => ?_) | refine mo_hpL ?_ | refine mo_hpZ ?_ | refine mo_bd ?_ (fun _ => ?_) | refine mo_hCi (fun _ => ?_) (fun _ => ?_) | refine mo_hNw (fun _ => ?_) | refine mo_hNa (fun _ => ?_) | refine mo_hCp ?_ | refine mo_hOi ?_ | refine mo_hAl (fun _ => ?_) | refine mo_hWl ?_ | refine mo_gd ?_ | refine mo_sLn (fun _ => ?_) | refine mo_sAt (fun _ => ?_) | refine mo_kLn (fun _ => ?_) | refine mo_kAt (fun _ => ?_))
set_option maxRecDepth 10000 in
theorem sc_X8_depart_J22 {g : Gm Hp Unit} (B : Bx g cX8_depart 3 RX8 voV none 1 22 "depart") {l0 : Nat} (l1 : Option Nat) (l2 : Int32) : Sm g 3 22 [(0, va_rf (some l0)), (1, va_rf l1), (2, .int l2)] [] (C_X8_depart_J22 l0 l1 l2) := by
  unfold C_X8_depart_J22
  refine s_rload_n B.1.1 1 dX8_depart_22 rfl rfl ?_
  refine s_iload_n B.1.1 2 dX8_depart_23 rfl rfl ?_
  refine hp_putI B.1 3 4 rfl (by decide) inX1 tyX1 tyX1_ok nmX1 (by decide) fk_X1_4.1 fk_X1_4.2 ft_X1_4 rfl cf_X8_83 dX8_depart_24 ?_
  refine s_rload_n B.1.1 0 dX8_depart_27 rfl rfl ?_
  refine hp_getI B.1 10 6 rfl (by decide) inX8 (by decide) fk_X8_6.1 fk_X8_6.2 cf_X8_71 dX8_depart_28 (fun v1 => ?_)
  refine s_bipush (v := (16)) B.1.1 dX8_depart_31 (by decide) ?_
  refine s_icmp_ge B.1.1 56 dX8_depart_33 (by decide) ?_ ?_
  · exact s_vret B.1.1 B.2.2.2.2 dX8_depart_56
  · refine s_rload_n B.1.1 0 dX8_depart_36 rfl rfl ?_
    refine hp_getR B.1 10 5 rfl (by decide) inX8 (by decide) fk_X8_5 cf_X8_19 dX8_depart_37 (fun v2 => ?_)
    refine s_rload_n B.1.1 0 dX8_depart_40 rfl rfl ?_
    refine hp_getI B.1 10 6 rfl (by decide) inX8 (by decide) fk_X8_6.1 fk_X8_6.2 cf_X8_71 dX8_depart_41 (fun v3 => ?_)
    refine s_rload_n B.1.1 1 dX8_depart_44 rfl rfl ?_
    refine hp_Wr B.1 7 3 (by decide) (fun _ => rfl) rfl (by decide) dX8_depart_45 ?_
    refine s_rload_n B.1.1 0 dX8_depart_46 rfl rfl ?_
    refine s_dup B.1.1 dX8_depart_47 rfl ?_
    refine hp_getI B.1 10 6 rfl (by decide) inX8 (by decide) fk_X8_6.1 fk_X8_6.2 cf_X8_71 dX8_depart_48 (fun v4 => ?_)
    refine s_iconst (v := 1) B.1.1 dX8_depart_51 (by decide) ?_
    refine s_iadd B.1.1 dX8_depart_52 ?_
    refine hp_putI B.1 10 6 rfl (by decide) inX8 tyX8 tyX8_ok nmX8 (by decide) fk_X8_6.1 fk_X8_6.2 ft_X8_6 rfl cf_X8_71 dX8_depart_53 ?_
    exact s_vret B.1.1 B.2.2.2.2 dX8_depart_56
def C_X8_depart_B2 (l0 : Nat) (kb : Option Nat → Int32 → Hp → Option (Unit × Hp)) (ke22 : Option Nat → Int32 → Hp → Option (Unit × Hp)) (l1 : Option Nat) (l2 : Int32) : Hp → Option (Unit × Hp) :=
  if (16 : Int32) < l2 then (
    ke22 l1 l2
  ) else (
    hCv 10 (some l0) (fun a => C_X8_isUsed a l2) fun r5 =>
    if r5 = 0 then (
      ke22 l1 l2
    ) else (
      kb l1 (l2 + 1)
    )
  )
def C_X8_depart_L2 (l0 : Nat) (ke22 : Option Nat → Int32 → Hp → Option (Unit × Hp)) : Nat → Option Nat → Int32 → Hp → Option (Unit × Hp)
  | 0, _, _ => no
  | n + 1, l1, l2 => C_X8_depart_B2 l0 (fun l1 l2 => C_X8_depart_L2 l0 ke22 n l1 l2) ke22 l1 l2
set_option maxRecDepth 10000 in
theorem mo_C_X8_depart_B2 (l0 : Nat) (kb : Option Nat → Int32 → Hp → Option (Unit × Hp)) (ke22 : Option Nat → Int32 → Hp → Option (Unit × Hp)) (hkb : ∀ (l1 : Option Nat) (l2 : Int32), Mo (kb l1 l2)) (hke22 : ∀ (l1 : Option Nat) (l2 : Int32), Mo (ke22 l1 l2)) (l1 : Option Nat) (l2 : Int32) : Mo (C_X8_depart_B2 l0 kb ke22 l1 l2) := by
  unfold C_X8_depart_B2
  repeat' (with_reducible first | assumption | exact mo_rt _ | exact mo_zt _ | exact mo_no | apply mo_C_X8_isUsed | apply hkb | apply hke22 | refine mo_ite ?_ ?_ | refine mo_hgI (fun _ => ?_) | refine mo_hgR (fun _ => ?_) | refine mo_hCv (fun _ => ?_) (fun _ => ?_) | refine mo_lq (fun _ => ?_) | refine mo_hpI ?_ | refine mo_hpR ?_ | refine mo_hAi (fun _ => ?_) | refine mo_hAr (fun _ => ?_) | refine mo_hWi ?_ | refine mo_hWr ?_ | refine mo_hLn (fun _ => ?_) | refine mo_hgL (fun _ => ?_) | refine mo_hpL ?_ | refine mo_hpZ ?_ | refine mo_bd ?_ (fun _ => ?_) | refine mo_hCi (fun _ => ?_) (fun _ => ?_) | refine mo_hNw (fun _ => ?_) | refine mo_hNa (fun _ => ?_) | refine mo_hCp ?_ | refine mo_hOi ?_ | refine mo_hAl (fun _ => ?_) | refine mo_hWl ?_ | refine mo_gd ?_ | refine mo_sLn (fun _ => ?_) | refine mo_sAt (fun _ => ?_) | refine mo_kLn (fun _ => ?_) | refine mo_kAt (fun _ => ?_))
set_option maxRecDepth 10000 in
theorem mo_C_X8_depart_L2 (l0 : Nat) (ke22 : Option Nat → Int32 → Hp → Option (Unit × Hp)) (hke22 : ∀ (l1 : Option Nat) (l2 : Int32), Mo (ke22 l1 l2)) : ∀ (n : Nat) (l1 : Option Nat) (l2 : Int32), Mo (C_X8_depart_L2 l0 ke22 n l1 l2)
  | 0, _, _ => mo_no
  | n + 1, l1, l2 => mo_C_X8_depart_B2 l0 _ ke22 (mo_C_X8_depart_L2 l0 ke22 hke22 n) hke22 l1 l2
set_option maxRecDepth 10000 in
theorem sc_X8_depart_B2 {g : Gm Hp Unit} {kb : Option Nat → Int32 → Hp → Option (Unit × Hp)} {ke22 : Option Nat → Int32 → Hp → Option (Unit × Hp)} (B : Bx g cX8_depart 3 RX8 voV none 1 22 "depart") {l0 : Nat} (hkb : ∀ (l1 : Option Nat) (l2 : Int32), Sm g 3 2 [(0, va_rf (some l0)), (1, va_rf l1), (2, .int l2)] [] (kb l1 l2)) (hke22 : ∀ (l1 : Option Nat) (l2 : Int32), Sm g 3 22 [(0, va_rf (some l0)), (1, va_rf l1), (2, .int l2)] [] (ke22 l1 l2)) (l1 : Option Nat) (l2 : Int32) : Sm g 3 2 [(0, va_rf (some l0)), (1, va_rf l1), (2, .int l2)] [] (C_X8_depart_B2 l0 kb ke22 l1 l2) := by
  unfold C_X8_depart_B2
  refine s_iload_n B.1.1 2 dX8_depart_2 rfl rfl ?_
  refine s_bipush (v := (16)) B.1.1 dX8_depart_3 (by decide) ?_
  refine s_icmp_gt B.1.1 22 dX8_depart_5 (by decide) ?_ ?_
  · exact Sm.lvs [0, 1, 2] rfl (hke22 l1 l2)
  · refine s_rload_n B.1.1 0 dX8_depart_8 rfl rfl ?_
    refine s_iload_n B.1.1 2 dX8_depart_9 rfl rfl ?_
    refine hp_cvi (As := [.int l2]) (st := []) 10 rfl (by decide) B.1 (fun a => mC_X8_isUsed B.2.1 a l2) cc_X8_isUsed cl_X8_87 cn_X8_isUsed ce_X8_isUsed ci_X8 cd_X8_isUsed (by decide) rfl (Nat.le_of_ble_eq_true rfl) dX8_depart_10 (fun r5 => ?_)
    refine s_if_eq B.1.1 22 dX8_depart_13 (by decide) ?_ ?_
    · exact Sm.lvs [0, 1, 2] rfl (hke22 l1 l2)
    · refine s_iinc (v := l2 + 1) (lv' := [(2, .int (l2 + 1)), (0, va_rf (some l0)), (1, va_rf l1)]) B.1.1 2 dX8_depart_16 rfl rfl (by decide) (by simp [va_rf_cat, cat_i, cat_l, cat_r]) ?_
      refine s_goto B.1.1 2 dX8_depart_19 (by decide) ?_
      exact Sm.lvs [1, 2, 0] rfl (hkb l1 (l2 + 1))
set_option maxRecDepth 10000 in
theorem sc_X8_depart_L2 {g : Gm Hp Unit} {ke22 : Option Nat → Int32 → Hp → Option (Unit × Hp)} (B : Bx g cX8_depart 3 RX8 voV none 1 22 "depart") {l0 : Nat} (hke22 : ∀ (l1 : Option Nat) (l2 : Int32), Sm g 3 22 [(0, va_rf (some l0)), (1, va_rf l1), (2, .int l2)] [] (ke22 l1 l2)) : ∀ (n : Nat) (l1 : Option Nat) (l2 : Int32), Sm g 3 2 [(0, va_rf (some l0)), (1, va_rf l1), (2, .int l2)] [] (C_X8_depart_L2 l0 ke22 n l1 l2)
  | 0, _, _ => Sm.fail
  | n + 1, l1, l2 => sc_X8_depart_B2 B (sc_X8_depart_L2 B hke22 n) hke22 l1 l2
def C_X8_depart (l0 : Nat) (l1 : Option Nat) : Hp → Option (Unit × Hp) :=
  C_X8_depart_L2 l0 (fun l1 l2 => C_X8_depart_J22 l0 l1 l2) fu l1 (1 : Int32)
set_option maxRecDepth 10000 in
theorem mo_C_X8_depart (l0 : Nat) (l1 : Option Nat) : Mo (C_X8_depart l0 l1) := by
  unfold C_X8_depart
  repeat' (with_reducible first | assumption | exact mo_rt _ | exact mo_zt _ | exact mo_no | apply mo_C_X8_depart_L2 | apply mo_C_X8_depart_J22 | refine mo_ite ?_ ?_ | refine mo_hgI (fun _ => ?_) | refine mo_hgR (fun _ => ?_) | refine mo_hCv (fun _ => ?_) (fun _ => ?_) | refine mo_lq (fun _ => ?_) | refine mo_hpI ?_ | refine mo_hpR ?_ | refine mo_hAi (fun _ => ?_) | refine mo_hAr (fun _ => ?_) | refine mo_hWi ?_ | refine mo_hWr ?_ | refine mo_hLn (fun _ => ?_) | refine mo_hgL (fun _ => ?_) | refine mo_hpL ?_ | refine mo_hpZ ?_ | refine mo_bd ?_ (fun _ => ?_) | refine mo_hCi (fun _ => ?_) (fun _ => ?_) | refine mo_hNw (fun _ => ?_) | refine mo_hNa (fun _ => ?_) | refine mo_hCp ?_ | refine mo_hOi ?_ | refine mo_hAl (fun _ => ?_) | refine mo_hWl ?_ | refine mo_gd ?_ | refine mo_sLn (fun _ => ?_) | refine mo_sAt (fun _ => ?_) | refine mo_kLn (fun _ => ?_) | refine mo_kAt (fun _ => ?_))
set_option maxRecDepth 10000 in
theorem mC_X8_depart {w : Wd} (hw : Wc w) (l0 : Nat) (l1 : Option Nat) : MH w yX8_depart cX8_depart 3 none 1 22 voV [va_rf (some l0), va_rf l1] (C_X8_depart l0 l1) := by
  have M0 : ∀ g : Gm Hp Unit, g.1 = w → Bx g cX8_depart 3 RX8 voV none 1 22 "depart" → Sm g 3 0 (lv_args 0 [va_rf (some l0), va_rf l1]) [] (C_X8_depart l0 l1) := by
    intro g hg B
    subst hg
    unfold C_X8_depart
    refine W_lva (lv := [(0, va_rf (some l0)), (1, va_rf l1)]) (by simp [lv_args, va_rf_cat, cat_i, cat_l, cat_r]) ?_
    refine s_iconst (v := 1) B.1.1 dX8_depart_0 (by decide) ?_
    refine s_istore_n (i := 2) (lv' := [(2, .int (1 : Int32)), (0, va_rf (some l0)), (1, va_rf l1)]) B.1.1 dX8_depart_1 rfl (by decide) (by simp [va_rf_cat, cat_i, cat_l, cat_r]) ?_
    exact Sm.lvs [1, 2, 0] rfl (sc_X8_depart_L2 B (fun l1 l2 => sc_X8_depart_J22 B l1 l2) fu l1 (1 : Int32))
  exact MH.of hw ⟨rfl, rfl⟩ (by decide) (by simp [lg_sl, va_rf_cat, cat_i, cat_l, cat_r]) (mo_C_X8_depart l0 l1) M0
def C_X8_maySend (l0 : Nat) : Hp → Option (Int32 × Hp) :=
  hgR 10 2 (some l0) fun v1 =>
  if v1 = none then (
    zt ((0 : Int32))
  ) else (
    hgI 10 6 (some l0) fun v2 =>
    hgI 10 15 (some l0) fun v3 =>
    if (imin v3 (16 : Int32)) ≤ v2 then (
      zt ((0 : Int32))
    ) else (
      zt ((1 : Int32))
    )
  )
set_option maxRecDepth 10000 in
theorem mo_C_X8_maySend (l0 : Nat) : Mo (C_X8_maySend l0) := by
  unfold C_X8_maySend
  repeat' (with_reducible first | assumption | exact mo_rt _ | exact mo_zt _ | exact mo_no | refine mo_ite ?_ ?_ | refine mo_hgI (fun _ => ?_) | refine mo_hgR (fun _ => ?_) | refine mo_hCv (fun _ => ?_) (fun _ => ?_) | refine mo_lq (fun _ => ?_) | refine mo_hpI ?_ | refine mo_hpR ?_ | refine mo_hAi (fun _ => ?_) | refine mo_hAr (fun _ => ?_) | refine mo_hWi ?_ | refine mo_hWr ?_ | refine mo_hLn (fun _ => ?_) | refine mo_hgL (fun _ => ?_) | refine mo_hpL ?_ | refine mo_hpZ ?_ | refine mo_bd ?_ (fun _ => ?_) | refine mo_hCi (fun _ => ?_) (fun _ => ?_) | refine mo_hNw (fun _ => ?_) | refine mo_hNa (fun _ => ?_) | refine mo_hCp ?_ | refine mo_hOi ?_ | refine mo_hAl (fun _ => ?_) | refine mo_hWl ?_ | refine mo_gd ?_ | refine mo_sLn (fun _ => ?_) | refine mo_sAt (fun _ => ?_) | refine mo_kLn (fun _ => ?_) | refine mo_kAt (fun _ => ?_))
set_option maxRecDepth 10000 in
theorem mC_X8_maySend {w : Wd} (hw : Wc w) (l0 : Nat) : MH w yX8_maySend cX8_maySend 1 (some .boolean) 1 23 voI [va_rf (some l0)] (C_X8_maySend l0) := by
  have M0 : ∀ g : Gm Hp Int32, g.1 = w → Bx g cX8_maySend 1 RX8 voI (some .boolean) 1 23 "maySend" → Sm g 1 0 (lv_args 0 [va_rf (some l0)]) [] (C_X8_maySend l0) := by
    intro g hg B
    subst hg
    unfold C_X8_maySend
    refine W_lva (lv := [(0, va_rf (some l0))]) (by simp [lv_args, va_rf_cat, cat_i, cat_l, cat_r]) ?_
    refine s_rload_n B.1.1 0 dX8_maySend_0 rfl rfl ?_
    refine hp_getR B.1 10 2 rfl (by decide) inX8 (by decide) fk_X8_2 cf_X8_67 dX8_maySend_1 (fun v1 => ?_)
    refine s_ifnull B.1.1 27 dX8_maySend_4 (by decide) ?_ ?_
    · refine s_iconst (v := 0) B.1.1 dX8_maySend_27 (by decide) ?_
      exact s_zret B.1.1 B.2.2.2.2 dX8_maySend_28
    · refine s_rload_n B.1.1 0 dX8_maySend_7 rfl rfl ?_
      refine hp_getI B.1 10 6 rfl (by decide) inX8 (by decide) fk_X8_6.1 fk_X8_6.2 cf_X8_71 dX8_maySend_8 (fun v2 => ?_)
      refine s_rload_n B.1.1 0 dX8_maySend_11 rfl rfl ?_
      refine hp_getI B.1 10 15 rfl (by decide) inX8 (by decide) fk_X8_15.1 fk_X8_15.2 cf_X8_74 dX8_maySend_12 (fun v3 => ?_)
      refine s_bipush (v := (16)) B.1.1 dX8_maySend_15 (by decide) ?_
      refine s_mmin B.1.1 B.1.2.1 tw_1081 (by decide) (Nat.le_of_ble_eq_true rfl) dX8_maySend_17 ?_
      refine s_icmp_ge B.1.1 27 dX8_maySend_20 (by decide) ?_ ?_
      · refine s_iconst (v := 0) B.1.1 dX8_maySend_27 (by decide) ?_
        exact s_zret B.1.1 B.2.2.2.2 dX8_maySend_28
      · refine s_iconst (v := 1) B.1.1 dX8_maySend_23 (by decide) ?_
        refine s_goto B.1.1 28 dX8_maySend_24 (by decide) ?_
        exact s_zret B.1.1 B.2.2.2.2 dX8_maySend_28
  exact MH.of hw ⟨rfl, rfl⟩ (by decide) (by simp [lg_sl, va_rf_cat, cat_i, cat_l, cat_r]) (mo_C_X8_maySend l0) M0
def C_X8_queue (l0 : Nat) (l1 : Option Nat) : Hp → Option (Unit × Hp) :=
  hgI 10 8 (some l0) fun v1 =>
  if (24 : Int32) ≤ v1 then (
    rt ()
  ) else (
    hgR 10 7 (some l0) fun v2 =>
    hgI 10 8 (some l0) fun v3 =>
    hWr 7 3 v2 v3 l1 <|
    hgI 10 8 (some l0) fun v4 =>
    hpI 10 8 (some l0) (v4 + (1 : Int32)) <|
    rt ()
  )
set_option maxRecDepth 10000 in
theorem mo_C_X8_queue (l0 : Nat) (l1 : Option Nat) : Mo (C_X8_queue l0 l1) := by
  unfold C_X8_queue
  repeat' (with_reducible first | assumption | exact mo_rt _ | exact mo_zt _ | exact mo_no | refine mo_ite ?_ ?_ | refine mo_hgI (fun _ => ?_) | refine mo_hgR (fun _ => ?_) | refine mo_hCv (fun _ => ?_) (fun _ => ?_) | refine mo_lq (fun _ => ?_) | refine mo_hpI ?_ | refine mo_hpR ?_ | refine mo_hAi (fun _ => ?_) | refine mo_hAr (fun _ => ?_) | refine mo_hWi ?_ | refine mo_hWr ?_ | refine mo_hLn (fun _ => ?_) | refine mo_hgL (fun _ => ?_) | refine mo_hpL ?_ | refine mo_hpZ ?_ | refine mo_bd ?_ (fun _ => ?_) | refine mo_hCi (fun _ => ?_) (fun _ => ?_) | refine mo_hNw (fun _ => ?_) | refine mo_hNa (fun _ => ?_) | refine mo_hCp ?_ | refine mo_hOi ?_ | refine mo_hAl (fun _ => ?_) | refine mo_hWl ?_ | refine mo_gd ?_ | refine mo_sLn (fun _ => ?_) | refine mo_sAt (fun _ => ?_) | refine mo_kLn (fun _ => ?_) | refine mo_kAt (fun _ => ?_))
set_option maxRecDepth 10000 in
theorem mC_X8_queue {w : Wd} (hw : Wc w) (l0 : Nat) (l1 : Option Nat) : MH w yX8_queue cX8_queue 2 none 0 0 voV [va_rf (some l0), va_rf l1] (C_X8_queue l0 l1) := by
  have M0 : ∀ g : Gm Hp Unit, g.1 = w → Bx g cX8_queue 2 RX8 voV none 0 0 "queue" → Sm g 2 0 (lv_args 0 [va_rf (some l0), va_rf l1]) [] (C_X8_queue l0 l1) := by
    intro g hg B
    subst hg
    unfold C_X8_queue
    refine W_lva (lv := [(0, va_rf (some l0)), (1, va_rf l1)]) (by simp [lv_args, va_rf_cat, cat_i, cat_l, cat_r]) ?_
    refine s_rload_n B.1.1 0 dX8_queue_0 rfl rfl ?_
    refine hp_getI B.1 10 8 rfl (by decide) inX8 (by decide) fk_X8_8.1 fk_X8_8.2 cf_X8_91 dX8_queue_1 (fun v1 => ?_)
    refine s_bipush (v := (24)) B.1.1 dX8_queue_4 (by decide) ?_
    refine s_icmp_ge B.1.1 29 dX8_queue_6 (by decide) ?_ ?_
    · exact s_vret B.1.1 B.2.2.2.2 dX8_queue_29
    · refine s_rload_n B.1.1 0 dX8_queue_9 rfl rfl ?_
      refine hp_getR B.1 10 7 rfl (by decide) inX8 (by decide) fk_X8_7 cf_X8_23 dX8_queue_10 (fun v2 => ?_)
      refine s_rload_n B.1.1 0 dX8_queue_13 rfl rfl ?_
      refine hp_getI B.1 10 8 rfl (by decide) inX8 (by decide) fk_X8_8.1 fk_X8_8.2 cf_X8_91 dX8_queue_14 (fun v3 => ?_)
      refine s_rload_n B.1.1 1 dX8_queue_17 rfl rfl ?_
      refine hp_Wr B.1 7 3 (by decide) (fun _ => rfl) rfl (by decide) dX8_queue_18 ?_
      refine s_rload_n B.1.1 0 dX8_queue_19 rfl rfl ?_
      refine s_dup B.1.1 dX8_queue_20 rfl ?_
      refine hp_getI B.1 10 8 rfl (by decide) inX8 (by decide) fk_X8_8.1 fk_X8_8.2 cf_X8_91 dX8_queue_21 (fun v4 => ?_)
      refine s_iconst (v := 1) B.1.1 dX8_queue_24 (by decide) ?_
      refine s_iadd B.1.1 dX8_queue_25 ?_
      refine hp_putI B.1 10 8 rfl (by decide) inX8 tyX8 tyX8_ok nmX8 (by decide) fk_X8_8.1 fk_X8_8.2 ft_X8_8 rfl cf_X8_91 dX8_queue_26 ?_
      exact s_vret B.1.1 B.2.2.2.2 dX8_queue_29
  exact MH.of hw ⟨rfl, rfl⟩ (by decide) (by simp [lg_sl, va_rf_cat, cat_i, cat_l, cat_r]) (mo_C_X8_queue l0 l1) M0
def C_X11_hand_J129 (l0 : Nat) : Hp → Option ((Option Nat) × Hp) :=
  rt (none)
set_option maxRecDepth 10000 in
theorem mo_C_X11_hand_J129 (l0 : Nat) : Mo (C_X11_hand_J129 l0) := by
  unfold C_X11_hand_J129
  repeat' (with_reducible first | assumption | exact mo_rt _ | exact mo_zt _ | exact mo_no | refine mo_ite ?_ ?_ | refine mo_hgI (fun _ => ?_) | refine mo_hgR (fun _ => ?_) | refine mo_hCv (fun _ => ?_) (fun _ => ?_) | refine mo_lq (fun _ => ?_) | refine mo_hpI ?_ | refine mo_hpR ?_ | refine mo_hAi (fun _ => ?_) | refine mo_hAr (fun _ => ?_) | refine mo_hWi ?_ | refine mo_hWr ?_ | refine mo_hLn (fun _ => ?_) | refine mo_hgL (fun _ => ?_) | refine mo_hpL ?_ | refine mo_hpZ ?_ | refine mo_bd ?_ (fun _ => ?_) | refine mo_hCi (fun _ => ?_) (fun _ => ?_) | refine mo_hNw (fun _ => ?_) | refine mo_hNa (fun _ => ?_) | refine mo_hCp ?_ | refine mo_hOi ?_ | refine mo_hAl (fun _ => ?_) | refine mo_hWl ?_ | refine mo_gd ?_ | refine mo_sLn (fun _ => ?_) | refine mo_sAt (fun _ => ?_) | refine mo_kLn (fun _ => ?_) | refine mo_kAt (fun _ => ?_))
set_option maxRecDepth 10000 in
theorem sc_X11_hand_J129 {g : Gm Hp (Option Nat)} (B : Bx g cX11_hand 9 RX11 voR (some (.object "TopicBroker$Delivery")) 2 44 "hand") {l0 : Nat} : Sm g 9 129 [] [] (C_X11_hand_J129 l0) := by
  unfold C_X11_hand_J129
  refine s_null B.1.1 dX11_hand_129 ?_
  exact s_aret B.1.1 B.2.2.2.2 (Or.inl ⟨_, rfl⟩) dX11_hand_130
def C_X11_hand_J216 (l0 : Nat) (l8 : Option Nat) : Hp → Option ((Option Nat) × Hp) :=
  rt (l8)
set_option maxRecDepth 10000 in
theorem mo_C_X11_hand_J216 (l0 : Nat) (l8 : Option Nat) : Mo (C_X11_hand_J216 l0 l8) := by
  unfold C_X11_hand_J216
  repeat' (with_reducible first | assumption | exact mo_rt _ | exact mo_zt _ | exact mo_no | refine mo_ite ?_ ?_ | refine mo_hgI (fun _ => ?_) | refine mo_hgR (fun _ => ?_) | refine mo_hCv (fun _ => ?_) (fun _ => ?_) | refine mo_lq (fun _ => ?_) | refine mo_hpI ?_ | refine mo_hpR ?_ | refine mo_hAi (fun _ => ?_) | refine mo_hAr (fun _ => ?_) | refine mo_hWi ?_ | refine mo_hWr ?_ | refine mo_hLn (fun _ => ?_) | refine mo_hgL (fun _ => ?_) | refine mo_hpL ?_ | refine mo_hpZ ?_ | refine mo_bd ?_ (fun _ => ?_) | refine mo_hCi (fun _ => ?_) (fun _ => ?_) | refine mo_hNw (fun _ => ?_) | refine mo_hNa (fun _ => ?_) | refine mo_hCp ?_ | refine mo_hOi ?_ | refine mo_hAl (fun _ => ?_) | refine mo_hWl ?_ | refine mo_gd ?_ | refine mo_sLn (fun _ => ?_) | refine mo_sAt (fun _ => ?_) | refine mo_kLn (fun _ => ?_) | refine mo_kAt (fun _ => ?_))
set_option maxRecDepth 10000 in
theorem sc_X11_hand_J216 {g : Gm Hp (Option Nat)} (B : Bx g cX11_hand 9 RX11 voR (some (.object "TopicBroker$Delivery")) 2 44 "hand") {l0 : Nat} (l8 : Option Nat) : Sm g 9 216 [(8, va_rf l8)] [] (C_X11_hand_J216 l0 l8) := by
  unfold C_X11_hand_J216
  refine s_rload B.1.1 0 dX11_hand_216 rfl ?_
  exact s_aret B.1.1 B.2.2.2.2 (Or.inl ⟨_, rfl⟩) dX11_hand_218
def C_X11_hand_J176 (l0 : Nat) (l1 : Option Nat) (l2 : Option Nat) (l3 : Option Nat) (l5 : Int32) (l6 : Int32) (l7 : Int32) (s0 : Option Nat) : Hp → Option ((Option Nat) × Hp) :=
  hgI 11 3 l2 fun v1 =>
  hCv 3 s0 (fun a => C_X1_become a l3 l5 l6 v1) fun r2 =>
  if l7 = 0 then (
    hCv 10 l1 (fun a => C_X8_queue a s0) fun r4 =>
    rt (none)
  ) else (
    if l5 ≤ 0 then (
      C_X11_hand_J216 l0 s0
    ) else (
      hCv 10 l1 (fun a => C_X8_depart a s0) fun r3 =>
      C_X11_hand_J216 l0 s0
    )
  )
set_option maxRecDepth 10000 in
theorem mo_C_X11_hand_J176 (l0 : Nat) (l1 : Option Nat) (l2 : Option Nat) (l3 : Option Nat) (l5 : Int32) (l6 : Int32) (l7 : Int32) (s0 : Option Nat) : Mo (C_X11_hand_J176 l0 l1 l2 l3 l5 l6 l7 s0) := by
  unfold C_X11_hand_J176
  repeat' (with_reducible first | assumption | exact mo_rt _ | exact mo_zt _ | exact mo_no | apply mo_C_X1_become | apply mo_C_X8_queue | apply mo_C_X11_hand_J216 | apply mo_C_X8_depart | refine mo_ite ?_ ?_ | refine mo_hgI (fun _ => ?_) | refine mo_hgR (fun _ => ?_) | refine mo_hCv (fun _ => ?_) (fun _ => ?_) | refine mo_lq (fun _ => ?_) | refine mo_hpI ?_ | refine mo_hpR ?_ | refine mo_hAi (fun _ => ?_) | refine mo_hAr (fun _ => ?_) | refine mo_hWi ?_ | refine mo_hWr ?_ | refine mo_hLn (fun _ => ?_) | refine mo_hgL (fun _ => ?_) | refine mo_hpL ?_ | refine mo_hpZ ?_ | refine mo_bd ?_ (fun _ => ?_) | refine mo_hCi (fun _ => ?_) (fun _ => ?_) | refine mo_hNw (fun _ => ?_) | refine mo_hNa (fun _ => ?_) | refine mo_hCp ?_ | refine mo_hOi ?_ | refine mo_hAl (fun _ => ?_) | refine mo_hWl ?_ | refine mo_gd ?_ | refine mo_sLn (fun _ => ?_) | refine mo_sAt (fun _ => ?_) | refine mo_kLn (fun _ => ?_) | refine mo_kAt (fun _ => ?_))
set_option maxRecDepth 10000 in
theorem sc_X11_hand_J176 {g : Gm Hp (Option Nat)} (B : Bx g cX11_hand 9 RX11 voR (some (.object "TopicBroker$Delivery")) 2 44 "hand") {l0 : Nat} (l1 : Option Nat) (l2 : Option Nat) (l3 : Option Nat) (l5 : Int32) (l6 : Int32) (l7 : Int32) (s0 : Option Nat) : Sm g 9 176 [(1, va_rf l1), (2, va_rf l2), (3, va_rf l3), (5, .int l5), (6, .int l6), (7, .int l7)] [va_rf s0] (C_X11_hand_J176 l0 l1 l2 l3 l5 l6 l7 s0) := by
  unfold C_X11_hand_J176
  refine s_rstore (i := 8) (lv' := [(8, va_rf s0), (1, va_rf l1), (2, va_rf l2), (3, va_rf l3), (5, .int l5), (6, .int l6), (7, .int l7)]) B.1.1 dX11_hand_176 (by decide) rfl ?_
  refine s_rload B.1.1 0 dX11_hand_178 rfl ?_
  refine s_rload_n B.1.1 3 dX11_hand_180 rfl rfl ?_
  refine s_iload B.1.1 4 dX11_hand_181 rfl ?_
  refine s_iload B.1.1 5 dX11_hand_183 rfl ?_
  refine s_rload_n B.1.1 2 dX11_hand_185 rfl rfl ?_
  refine hp_getI B.1 11 3 rfl (by decide) inX9 (by decide) fk_X9_3.1 fk_X9_3.2 cf_X11_206 dX11_hand_186 (fun v1 => ?_)
  refine hp_cvv (As := [va_rf l3, .int l5, .int l6, .int v1]) (st := []) 3 rfl (by decide) B.1 (fun a => mC_X1_become B.2.1 a l3 l5 l6 v1) cc_X1_become cl_X11_531 cn_X1_become ce_X1_become ci_X1 cd_X1_become (by decide) rfl (Nat.le_of_ble_eq_true rfl) dX11_hand_189 (fun r2 => ?_)
  refine s_iload B.1.1 6 dX11_hand_192 rfl ?_
  refine s_if_ne B.1.1 205 dX11_hand_194 (by decide) ?_ ?_
  · refine s_iload B.1.1 4 dX11_hand_205 rfl ?_
    refine s_if_le B.1.1 216 dX11_hand_207 (by decide) ?_ ?_
    · exact Sm.lvs [0] rfl (sc_X11_hand_J216 B s0)
    · refine s_rload_n B.1.1 1 dX11_hand_210 rfl rfl ?_
      refine s_rload B.1.1 0 dX11_hand_211 rfl ?_
      refine hp_cvv (As := [va_rf s0]) (st := []) 10 rfl (by decide) B.1 (fun a => mC_X8_depart B.2.1 a s0) cc_X8_depart cl_X11_539 cn_X8_depart ce_X8_depart ci_X8 cd_X8_depart (by decide) rfl (Nat.le_of_ble_eq_true rfl) dX11_hand_213 (fun r3 => ?_)
      exact Sm.lvs [0] rfl (sc_X11_hand_J216 B s0)
  · refine s_rload_n B.1.1 1 dX11_hand_197 rfl rfl ?_
    refine s_rload B.1.1 0 dX11_hand_198 rfl ?_
    refine hp_cvv (As := [va_rf s0]) (st := []) 10 rfl (by decide) B.1 (fun a => mC_X8_queue B.2.1 a s0) cc_X8_queue cl_X11_535 cn_X8_queue ce_X8_queue ci_X8 cd_X8_queue (by decide) rfl (Nat.le_of_ble_eq_true rfl) dX11_hand_200 (fun r4 => ?_)
    refine s_null B.1.1 dX11_hand_203 ?_
    exact s_aret B.1.1 B.2.2.2.2 (Or.inl ⟨_, rfl⟩) dX11_hand_204
def C_X11_hand_J157 (l0 : Nat) (l1 : Option Nat) (l2 : Option Nat) (l3 : Option Nat) (l5 : Int32) (l6 : Int32) (l7 : Int32) : Hp → Option ((Option Nat) × Hp) :=
  if l5 = 0 then (
    hgR 13 7 (some l0) fun v7 =>
    C_X11_hand_J176 l0 l1 l2 l3 l5 l6 l7 v7
  ) else (
    hNw 3 6 fun o5 =>
    hCi o5 (fun a => C_X1_init a) fun r6 =>
    C_X11_hand_J176 l0 l1 l2 l3 l5 l6 l7 o5
  )
set_option maxRecDepth 10000 in
theorem mo_C_X11_hand_J157 (l0 : Nat) (l1 : Option Nat) (l2 : Option Nat) (l3 : Option Nat) (l5 : Int32) (l6 : Int32) (l7 : Int32) : Mo (C_X11_hand_J157 l0 l1 l2 l3 l5 l6 l7) := by
  unfold C_X11_hand_J157
  repeat' (with_reducible first | assumption | exact mo_rt _ | exact mo_zt _ | exact mo_no | apply mo_C_X11_hand_J176 | apply mo_C_X1_init | refine mo_ite ?_ ?_ | refine mo_hgI (fun _ => ?_) | refine mo_hgR (fun _ => ?_) | refine mo_hCv (fun _ => ?_) (fun _ => ?_) | refine mo_lq (fun _ => ?_) | refine mo_hpI ?_ | refine mo_hpR ?_ | refine mo_hAi (fun _ => ?_) | refine mo_hAr (fun _ => ?_) | refine mo_hWi ?_ | refine mo_hWr ?_ | refine mo_hLn (fun _ => ?_) | refine mo_hgL (fun _ => ?_) | refine mo_hpL ?_ | refine mo_hpZ ?_ | refine mo_bd ?_ (fun _ => ?_) | refine mo_hCi (fun _ => ?_) (fun _ => ?_) | refine mo_hNw (fun _ => ?_) | refine mo_hNa (fun _ => ?_) | refine mo_hCp ?_ | refine mo_hOi ?_ | refine mo_hAl (fun _ => ?_) | refine mo_hWl ?_ | refine mo_gd ?_ | refine mo_sLn (fun _ => ?_) | refine mo_sAt (fun _ => ?_) | refine mo_kLn (fun _ => ?_) | refine mo_kAt (fun _ => ?_))
set_option maxRecDepth 10000 in
theorem sc_X11_hand_J157 {g : Gm Hp (Option Nat)} (B : Bx g cX11_hand 9 RX11 voR (some (.object "TopicBroker$Delivery")) 2 44 "hand") {l0 : Nat} (l1 : Option Nat) (l2 : Option Nat) (l3 : Option Nat) (l5 : Int32) (l6 : Int32) (l7 : Int32) : Sm g 9 157 [(0, va_rf (some l0)), (1, va_rf l1), (2, va_rf l2), (3, va_rf l3), (5, .int l5), (6, .int l6), (7, .int l7)] [] (C_X11_hand_J157 l0 l1 l2 l3 l5 l6 l7) := by
  unfold C_X11_hand_J157
  refine s_iload B.1.1 4 dX11_hand_157 rfl ?_
  refine s_if_ne B.1.1 169 dX11_hand_159 (by decide) ?_ ?_
  · refine hp_Nw B.1 3 rfl (by decide) inX1 tyX1 tyX1_ok dfX1 tw_244 tw_245 tw_9 dX11_hand_169 (fun o5 => ?_)
    refine s_dup B.1.1 dX11_hand_172 (va_rf_cat _) ?_
    refine hp_cIN (As := []) (st := [va_rf o5]) B.1 (fun a => mC_X1_init B.2.1 a ) cc_X1_init (B.2.2.1.1 _ (by decide +kernel : Cond.methodLinkNest RX11 61 yX1_init "TopicBroker" ∈ nwl)) cn_X1_init ci_X1 rfl cd_X1_init (by decide) rfl (by simp [va_rf_cat, cat_i, cat_l, cat_r]) dX11_hand_173 (fun r6 => ?_)
    exact Sm.lvs [1, 2, 3, 4, 5, 6] rfl (sc_X11_hand_J176 B l1 l2 l3 l5 l6 l7 o5)
  · refine s_rload_n B.1.1 0 dX11_hand_162 rfl rfl ?_
    refine hp_getR B.1 13 7 rfl (by decide) inX11 (by decide) fk_X11_7 cf_X11_62 dX11_hand_163 (fun v7 => ?_)
    refine s_goto B.1.1 176 dX11_hand_166 (by decide) ?_
    exact Sm.lvs [1, 2, 3, 4, 5, 6] rfl (sc_X11_hand_J176 B l1 l2 l3 l5 l6 l7 v7)
def C_X11_hand_J131 (l0 : Nat) (l1 : Option Nat) (l2 : Option Nat) (l3 : Option Nat) (l5 : Int32) (l6 : Int32) (l7 : Int32) : Hp → Option ((Option Nat) × Hp) :=
  if l7 = 0 then (
    hgI 10 8 l1 fun v8 =>
    if v8 = (24 : Int32) then (
      hgI 13 12 (some l0) fun v9 =>
      hpI 13 12 (some l0) (v9 + (1 : Int32)) <|
      rt (none)
    ) else (
      C_X11_hand_J157 l0 l1 l2 l3 l5 l6 l7
    )
  ) else (
    C_X11_hand_J157 l0 l1 l2 l3 l5 l6 l7
  )
set_option maxRecDepth 10000 in
theorem mo_C_X11_hand_J131 (l0 : Nat) (l1 : Option Nat) (l2 : Option Nat) (l3 : Option Nat) (l5 : Int32) (l6 : Int32) (l7 : Int32) : Mo (C_X11_hand_J131 l0 l1 l2 l3 l5 l6 l7) := by
  unfold C_X11_hand_J131
  repeat' (with_reducible first | assumption | exact mo_rt _ | exact mo_zt _ | exact mo_no | apply mo_C_X11_hand_J157 | refine mo_ite ?_ ?_ | refine mo_hgI (fun _ => ?_) | refine mo_hgR (fun _ => ?_) | refine mo_hCv (fun _ => ?_) (fun _ => ?_) | refine mo_lq (fun _ => ?_) | refine mo_hpI ?_ | refine mo_hpR ?_ | refine mo_hAi (fun _ => ?_) | refine mo_hAr (fun _ => ?_) | refine mo_hWi ?_ | refine mo_hWr ?_ | refine mo_hLn (fun _ => ?_) | refine mo_hgL (fun _ => ?_) | refine mo_hpL ?_ | refine mo_hpZ ?_ | refine mo_bd ?_ (fun _ => ?_) | refine mo_hCi (fun _ => ?_) (fun _ => ?_) | refine mo_hNw (fun _ => ?_) | refine mo_hNa (fun _ => ?_) | refine mo_hCp ?_ | refine mo_hOi ?_ | refine mo_hAl (fun _ => ?_) | refine mo_hWl ?_ | refine mo_gd ?_ | refine mo_sLn (fun _ => ?_) | refine mo_sAt (fun _ => ?_) | refine mo_kLn (fun _ => ?_) | refine mo_kAt (fun _ => ?_))
set_option maxRecDepth 10000 in
theorem sc_X11_hand_J131 {g : Gm Hp (Option Nat)} (B : Bx g cX11_hand 9 RX11 voR (some (.object "TopicBroker$Delivery")) 2 44 "hand") {l0 : Nat} (l1 : Option Nat) (l2 : Option Nat) (l3 : Option Nat) (l5 : Int32) (l6 : Int32) (l7 : Int32) : Sm g 9 131 [(0, va_rf (some l0)), (1, va_rf l1), (2, va_rf l2), (3, va_rf l3), (5, .int l5), (6, .int l6), (7, .int l7)] [] (C_X11_hand_J131 l0 l1 l2 l3 l5 l6 l7) := by
  unfold C_X11_hand_J131
  refine s_iload B.1.1 6 dX11_hand_131 rfl ?_
  refine s_if_ne B.1.1 157 dX11_hand_133 (by decide) ?_ ?_
  · exact Sm.lvs [0, 1, 2, 3, 4, 5, 6] rfl (sc_X11_hand_J157 B l1 l2 l3 l5 l6 l7)
  · refine s_rload_n B.1.1 1 dX11_hand_136 rfl rfl ?_
    refine hp_getI B.1 10 8 rfl (by decide) inX8 (by decide) fk_X8_8.1 fk_X8_8.2 cf_X11_164 dX11_hand_137 (fun v8 => ?_)
    refine s_bipush (v := (24)) B.1.1 dX11_hand_140 (by decide) ?_
    refine s_icmp_ne B.1.1 157 dX11_hand_142 (by decide) ?_ ?_
    · exact Sm.lvs [0, 1, 2, 3, 4, 5, 6] rfl (sc_X11_hand_J157 B l1 l2 l3 l5 l6 l7)
    · refine s_rload_n B.1.1 0 dX11_hand_145 rfl rfl ?_
      refine s_dup B.1.1 dX11_hand_146 rfl ?_
      refine hp_getI B.1 13 12 rfl (by decide) inX11 (by decide) fk_X11_12.1 fk_X11_12.2 cf_X11_252 dX11_hand_147 (fun v9 => ?_)
      refine s_iconst (v := 1) B.1.1 dX11_hand_150 (by decide) ?_
      refine s_iadd B.1.1 dX11_hand_151 ?_
      refine hp_putI B.1 13 12 rfl (by decide) inX11 tyX11 tyX11_ok nmX11 (by decide) fk_X11_12.1 fk_X11_12.2 ft_X11_12 rfl cf_X11_252 dX11_hand_152 ?_
      refine s_null B.1.1 dX11_hand_155 ?_
      exact s_aret B.1.1 B.2.2.2.2 (Or.inl ⟨_, rfl⟩) dX11_hand_156
def C_X11_hand_J119 (l0 : Nat) (l1 : Option Nat) (l2 : Option Nat) (l3 : Option Nat) (l5 : Int32) (l6 : Int32) (l7 : Int32) : Hp → Option ((Option Nat) × Hp) :=
  if l7 = 0 then (
    if l5 = 0 then (
      C_X11_hand_J129 l0
    ) else (
      C_X11_hand_J131 l0 l1 l2 l3 l5 l6 l7
    )
  ) else (
    C_X11_hand_J131 l0 l1 l2 l3 l5 l6 l7
  )
set_option maxRecDepth 10000 in
theorem mo_C_X11_hand_J119 (l0 : Nat) (l1 : Option Nat) (l2 : Option Nat) (l3 : Option Nat) (l5 : Int32) (l6 : Int32) (l7 : Int32) : Mo (C_X11_hand_J119 l0 l1 l2 l3 l5 l6 l7) := by
  unfold C_X11_hand_J119
  repeat' (with_reducible first | assumption | exact mo_rt _ | exact mo_zt _ | exact mo_no | apply mo_C_X11_hand_J129 | apply mo_C_X11_hand_J131 | refine mo_ite ?_ ?_ | refine mo_hgI (fun _ => ?_) | refine mo_hgR (fun _ => ?_) | refine mo_hCv (fun _ => ?_) (fun _ => ?_) | refine mo_lq (fun _ => ?_) | refine mo_hpI ?_ | refine mo_hpR ?_ | refine mo_hAi (fun _ => ?_) | refine mo_hAr (fun _ => ?_) | refine mo_hWi ?_ | refine mo_hWr ?_ | refine mo_hLn (fun _ => ?_) | refine mo_hgL (fun _ => ?_) | refine mo_hpL ?_ | refine mo_hpZ ?_ | refine mo_bd ?_ (fun _ => ?_) | refine mo_hCi (fun _ => ?_) (fun _ => ?_) | refine mo_hNw (fun _ => ?_) | refine mo_hNa (fun _ => ?_) | refine mo_hCp ?_ | refine mo_hOi ?_ | refine mo_hAl (fun _ => ?_) | refine mo_hWl ?_ | refine mo_gd ?_ | refine mo_sLn (fun _ => ?_) | refine mo_sAt (fun _ => ?_) | refine mo_kLn (fun _ => ?_) | refine mo_kAt (fun _ => ?_))
set_option maxRecDepth 10000 in
theorem sc_X11_hand_J119 {g : Gm Hp (Option Nat)} (B : Bx g cX11_hand 9 RX11 voR (some (.object "TopicBroker$Delivery")) 2 44 "hand") {l0 : Nat} (l1 : Option Nat) (l2 : Option Nat) (l3 : Option Nat) (l5 : Int32) (l6 : Int32) (l7 : Int32) : Sm g 9 119 [(0, va_rf (some l0)), (1, va_rf l1), (2, va_rf l2), (3, va_rf l3), (5, .int l5), (6, .int l6), (7, .int l7)] [] (C_X11_hand_J119 l0 l1 l2 l3 l5 l6 l7) := by
  unfold C_X11_hand_J119
  refine s_iload B.1.1 6 dX11_hand_119 rfl ?_
  refine s_if_ne B.1.1 131 dX11_hand_121 (by decide) ?_ ?_
  · exact Sm.lvs [0, 1, 2, 3, 4, 5, 6] rfl (sc_X11_hand_J131 B l1 l2 l3 l5 l6 l7)
  · refine s_iload B.1.1 4 dX11_hand_124 rfl ?_
    refine s_if_ne B.1.1 131 dX11_hand_126 (by decide) ?_ ?_
    · exact Sm.lvs [0, 1, 2, 3, 4, 5, 6] rfl (sc_X11_hand_J131 B l1 l2 l3 l5 l6 l7)
    · exact Sm.lvs [] rfl (sc_X11_hand_J129 B)
def C_X11_hand_J101 (l0 : Nat) (l1 : Option Nat) (l2 : Option Nat) (l3 : Option Nat) (l5 : Int32) (l6 : Int32) (s0 : Int32) : Hp → Option ((Option Nat) × Hp) :=
  if s0 = 0 then (
    C_X11_hand_J119 l0 l1 l2 l3 l5 l6 s0
  ) else (
    hgI 13 9 (some l0) fun v10 =>
    hCv 5 l3 (fun a => C_X3_isGone a v10) fun r11 =>
    if r11 = 0 then (
      C_X11_hand_J119 l0 l1 l2 l3 l5 l6 s0
    ) else (
      C_X11_hand_J129 l0
    )
  )
set_option maxRecDepth 10000 in
theorem mo_C_X11_hand_J101 (l0 : Nat) (l1 : Option Nat) (l2 : Option Nat) (l3 : Option Nat) (l5 : Int32) (l6 : Int32) (s0 : Int32) : Mo (C_X11_hand_J101 l0 l1 l2 l3 l5 l6 s0) := by
  unfold C_X11_hand_J101
  repeat' (with_reducible first | assumption | exact mo_rt _ | exact mo_zt _ | exact mo_no | apply mo_C_X11_hand_J119 | apply mo_C_X3_isGone | apply mo_C_X11_hand_J129 | refine mo_ite ?_ ?_ | refine mo_hgI (fun _ => ?_) | refine mo_hgR (fun _ => ?_) | refine mo_hCv (fun _ => ?_) (fun _ => ?_) | refine mo_lq (fun _ => ?_) | refine mo_hpI ?_ | refine mo_hpR ?_ | refine mo_hAi (fun _ => ?_) | refine mo_hAr (fun _ => ?_) | refine mo_hWi ?_ | refine mo_hWr ?_ | refine mo_hLn (fun _ => ?_) | refine mo_hgL (fun _ => ?_) | refine mo_hpL ?_ | refine mo_hpZ ?_ | refine mo_bd ?_ (fun _ => ?_) | refine mo_hCi (fun _ => ?_) (fun _ => ?_) | refine mo_hNw (fun _ => ?_) | refine mo_hNa (fun _ => ?_) | refine mo_hCp ?_ | refine mo_hOi ?_ | refine mo_hAl (fun _ => ?_) | refine mo_hWl ?_ | refine mo_gd ?_ | refine mo_sLn (fun _ => ?_) | refine mo_sAt (fun _ => ?_) | refine mo_kLn (fun _ => ?_) | refine mo_kAt (fun _ => ?_))
set_option maxRecDepth 10000 in
theorem sc_X11_hand_J101 {g : Gm Hp (Option Nat)} (B : Bx g cX11_hand 9 RX11 voR (some (.object "TopicBroker$Delivery")) 2 44 "hand") {l0 : Nat} (l1 : Option Nat) (l2 : Option Nat) (l3 : Option Nat) (l5 : Int32) (l6 : Int32) (s0 : Int32) : Sm g 9 101 [(0, va_rf (some l0)), (1, va_rf l1), (2, va_rf l2), (3, va_rf l3), (5, .int l5), (6, .int l6)] [.int s0] (C_X11_hand_J101 l0 l1 l2 l3 l5 l6 s0) := by
  unfold C_X11_hand_J101
  refine s_istore (i := 7) (lv' := [(7, .int s0), (0, va_rf (some l0)), (1, va_rf l1), (2, va_rf l2), (3, va_rf l3), (5, .int l5), (6, .int l6)]) B.1.1 dX11_hand_101 (by decide) rfl ?_
  refine s_iload B.1.1 0 dX11_hand_103 rfl ?_
  refine s_if_eq B.1.1 119 dX11_hand_105 (by decide) ?_ ?_
  · exact Sm.lvs [1, 2, 3, 4, 5, 6, 0] rfl (sc_X11_hand_J119 B l1 l2 l3 l5 l6 s0)
  · refine s_rload_n B.1.1 4 dX11_hand_108 rfl rfl ?_
    refine s_rload_n B.1.1 1 dX11_hand_109 rfl rfl ?_
    refine hp_getI B.1 13 9 rfl (by decide) inX11 (by decide) fk_X11_9.1 fk_X11_9.2 cf_X11_131 dX11_hand_110 (fun v10 => ?_)
    refine hp_cvi (As := [.int v10]) (st := []) 5 rfl (by decide) B.1 (fun a => mC_X3_isGone B.2.1 a v10) cc_X3_isGone cl_X11_528 cn_X3_isGone ce_X3_isGone ci_X3 cd_X3_isGone (by decide) rfl (Nat.le_of_ble_eq_true rfl) dX11_hand_113 (fun r11 => ?_)
    refine s_if_ne B.1.1 129 dX11_hand_116 (by decide) ?_ ?_
    · exact Sm.lvs [] rfl (sc_X11_hand_J129 B)
    · exact Sm.lvs [1, 2, 3, 4, 5, 6, 0] rfl (sc_X11_hand_J119 B l1 l2 l3 l5 l6 s0)
def C_X11_hand_J100 (l0 : Nat) (l1 : Option Nat) (l2 : Option Nat) (l3 : Option Nat) (l5 : Int32) (l6 : Int32) : Hp → Option ((Option Nat) × Hp) :=
  C_X11_hand_J101 l0 l1 l2 l3 l5 l6 (0 : Int32)
set_option maxRecDepth 10000 in
theorem mo_C_X11_hand_J100 (l0 : Nat) (l1 : Option Nat) (l2 : Option Nat) (l3 : Option Nat) (l5 : Int32) (l6 : Int32) : Mo (C_X11_hand_J100 l0 l1 l2 l3 l5 l6) := by
  unfold C_X11_hand_J100
  repeat' (with_reducible first | assumption | exact mo_rt _ | exact mo_zt _ | exact mo_no | apply mo_C_X11_hand_J101 | refine mo_ite ?_ ?_ | refine mo_hgI (fun _ => ?_) | refine mo_hgR (fun _ => ?_) | refine mo_hCv (fun _ => ?_) (fun _ => ?_) | refine mo_lq (fun _ => ?_) | refine mo_hpI ?_ | refine mo_hpR ?_ | refine mo_hAi (fun _ => ?_) | refine mo_hAr (fun _ => ?_) | refine mo_hWi ?_ | refine mo_hWr ?_ | refine mo_hLn (fun _ => ?_) | refine mo_hgL (fun _ => ?_) | refine mo_hpL ?_ | refine mo_hpZ ?_ | refine mo_bd ?_ (fun _ => ?_) | refine mo_hCi (fun _ => ?_) (fun _ => ?_) | refine mo_hNw (fun _ => ?_) | refine mo_hNa (fun _ => ?_) | refine mo_hCp ?_ | refine mo_hOi ?_ | refine mo_hAl (fun _ => ?_) | refine mo_hWl ?_ | refine mo_gd ?_ | refine mo_sLn (fun _ => ?_) | refine mo_sAt (fun _ => ?_) | refine mo_kLn (fun _ => ?_) | refine mo_kAt (fun _ => ?_))
set_option maxRecDepth 10000 in
theorem sc_X11_hand_J100 {g : Gm Hp (Option Nat)} (B : Bx g cX11_hand 9 RX11 voR (some (.object "TopicBroker$Delivery")) 2 44 "hand") {l0 : Nat} (l1 : Option Nat) (l2 : Option Nat) (l3 : Option Nat) (l5 : Int32) (l6 : Int32) : Sm g 9 100 [(0, va_rf (some l0)), (1, va_rf l1), (2, va_rf l2), (3, va_rf l3), (5, .int l5), (6, .int l6)] [] (C_X11_hand_J100 l0 l1 l2 l3 l5 l6) := by
  unfold C_X11_hand_J100
  refine s_iconst (v := 0) B.1.1 dX11_hand_100 (by decide) ?_
  exact Sm.lvs [0, 1, 2, 3, 4, 5] rfl (sc_X11_hand_J101 B l1 l2 l3 l5 l6 (0 : Int32))
def C_X11_hand_J60 (l0 : Nat) (l1 : Option Nat) (l2 : Option Nat) (l3 : Option Nat) (l5 : Int32) (s0 : Int32) : Hp → Option ((Option Nat) × Hp) :=
  if l5 = 0 then (
    hgR 10 2 l1 fun v14 =>
    if v14 = none then (
      C_X11_hand_J101 l0 l1 l2 l3 l5 s0 (0 : Int32)
    ) else (
      C_X11_hand_J101 l0 l1 l2 l3 l5 s0 (1 : Int32)
    )
  ) else (
    hgI 10 8 l1 fun v12 =>
    if v12 = 0 then (
      hCv 10 l1 (fun a => C_X8_maySend a) fun r13 =>
      if r13 = 0 then (
        C_X11_hand_J100 l0 l1 l2 l3 l5 s0
      ) else (
        C_X11_hand_J101 l0 l1 l2 l3 l5 s0 (1 : Int32)
      )
    ) else (
      C_X11_hand_J100 l0 l1 l2 l3 l5 s0
    )
  )
set_option maxRecDepth 10000 in
theorem mo_C_X11_hand_J60 (l0 : Nat) (l1 : Option Nat) (l2 : Option Nat) (l3 : Option Nat) (l5 : Int32) (s0 : Int32) : Mo (C_X11_hand_J60 l0 l1 l2 l3 l5 s0) := by
  unfold C_X11_hand_J60
  repeat' (with_reducible first | assumption | exact mo_rt _ | exact mo_zt _ | exact mo_no | apply mo_C_X11_hand_J101 | apply mo_C_X8_maySend | apply mo_C_X11_hand_J100 | refine mo_ite ?_ ?_ | refine mo_hgI (fun _ => ?_) | refine mo_hgR (fun _ => ?_) | refine mo_hCv (fun _ => ?_) (fun _ => ?_) | refine mo_lq (fun _ => ?_) | refine mo_hpI ?_ | refine mo_hpR ?_ | refine mo_hAi (fun _ => ?_) | refine mo_hAr (fun _ => ?_) | refine mo_hWi ?_ | refine mo_hWr ?_ | refine mo_hLn (fun _ => ?_) | refine mo_hgL (fun _ => ?_) | refine mo_hpL ?_ | refine mo_hpZ ?_ | refine mo_bd ?_ (fun _ => ?_) | refine mo_hCi (fun _ => ?_) (fun _ => ?_) | refine mo_hNw (fun _ => ?_) | refine mo_hNa (fun _ => ?_) | refine mo_hCp ?_ | refine mo_hOi ?_ | refine mo_hAl (fun _ => ?_) | refine mo_hWl ?_ | refine mo_gd ?_ | refine mo_sLn (fun _ => ?_) | refine mo_sAt (fun _ => ?_) | refine mo_kLn (fun _ => ?_) | refine mo_kAt (fun _ => ?_))
set_option maxRecDepth 10000 in
theorem sc_X11_hand_J60 {g : Gm Hp (Option Nat)} (B : Bx g cX11_hand 9 RX11 voR (some (.object "TopicBroker$Delivery")) 2 44 "hand") {l0 : Nat} (l1 : Option Nat) (l2 : Option Nat) (l3 : Option Nat) (l5 : Int32) (s0 : Int32) : Sm g 9 60 [(0, va_rf (some l0)), (1, va_rf l1), (2, va_rf l2), (3, va_rf l3), (5, .int l5)] [.int s0] (C_X11_hand_J60 l0 l1 l2 l3 l5 s0) := by
  unfold C_X11_hand_J60
  refine s_istore (i := 6) (lv' := [(6, .int s0), (0, va_rf (some l0)), (1, va_rf l1), (2, va_rf l2), (3, va_rf l3), (5, .int l5)]) B.1.1 dX11_hand_60 (by decide) rfl ?_
  refine s_iload B.1.1 5 dX11_hand_62 rfl ?_
  refine s_if_ne B.1.1 82 dX11_hand_64 (by decide) ?_ ?_
  · refine s_rload_n B.1.1 2 dX11_hand_82 rfl rfl ?_
    refine hp_getI B.1 10 8 rfl (by decide) inX8 (by decide) fk_X8_8.1 fk_X8_8.2 cf_X11_164 dX11_hand_83 (fun v12 => ?_)
    refine s_if_ne B.1.1 100 dX11_hand_86 (by decide) ?_ ?_
    · exact Sm.lvs [1, 2, 3, 4, 5, 0] rfl (sc_X11_hand_J100 B l1 l2 l3 l5 s0)
    · refine s_rload_n B.1.1 2 dX11_hand_89 rfl rfl ?_
      refine hp_cvi (As := []) (st := []) 10 rfl (by decide) B.1 (fun a => mC_X8_maySend B.2.1 a ) cc_X8_maySend cl_X11_525 cn_X8_maySend ce_X8_maySend ci_X8 cd_X8_maySend (by decide) rfl (Nat.le_of_ble_eq_true rfl) dX11_hand_90 (fun r13 => ?_)
      refine s_if_eq B.1.1 100 dX11_hand_93 (by decide) ?_ ?_
      · exact Sm.lvs [1, 2, 3, 4, 5, 0] rfl (sc_X11_hand_J100 B l1 l2 l3 l5 s0)
      · refine s_iconst (v := 1) B.1.1 dX11_hand_96 (by decide) ?_
        refine s_goto B.1.1 101 dX11_hand_97 (by decide) ?_
        exact Sm.lvs [1, 2, 3, 4, 5, 0] rfl (sc_X11_hand_J101 B l1 l2 l3 l5 s0 (1 : Int32))
  · refine s_rload_n B.1.1 2 dX11_hand_67 rfl rfl ?_
    refine hp_getR B.1 10 2 rfl (by decide) inX8 (by decide) fk_X8_2 cf_X11_151 dX11_hand_68 (fun v14 => ?_)
    refine s_ifnull B.1.1 78 dX11_hand_71 (by decide) ?_ ?_
    · refine s_iconst (v := 0) B.1.1 dX11_hand_78 (by decide) ?_
      refine s_goto B.1.1 101 dX11_hand_79 (by decide) ?_
      exact Sm.lvs [1, 2, 3, 4, 5, 0] rfl (sc_X11_hand_J101 B l1 l2 l3 l5 s0 (0 : Int32))
    · refine s_iconst (v := 1) B.1.1 dX11_hand_74 (by decide) ?_
      refine s_goto B.1.1 101 dX11_hand_75 (by decide) ?_
      exact Sm.lvs [1, 2, 3, 4, 5, 0] rfl (sc_X11_hand_J101 B l1 l2 l3 l5 s0 (1 : Int32))
def C_X11_hand_J59 (l0 : Nat) (l1 : Option Nat) (l2 : Option Nat) (l3 : Option Nat) (l5 : Int32) : Hp → Option ((Option Nat) × Hp) :=
  C_X11_hand_J60 l0 l1 l2 l3 l5 (0 : Int32)
set_option maxRecDepth 10000 in
theorem mo_C_X11_hand_J59 (l0 : Nat) (l1 : Option Nat) (l2 : Option Nat) (l3 : Option Nat) (l5 : Int32) : Mo (C_X11_hand_J59 l0 l1 l2 l3 l5) := by
  unfold C_X11_hand_J59
  repeat' (with_reducible first | assumption | exact mo_rt _ | exact mo_zt _ | exact mo_no | apply mo_C_X11_hand_J60 | refine mo_ite ?_ ?_ | refine mo_hgI (fun _ => ?_) | refine mo_hgR (fun _ => ?_) | refine mo_hCv (fun _ => ?_) (fun _ => ?_) | refine mo_lq (fun _ => ?_) | refine mo_hpI ?_ | refine mo_hpR ?_ | refine mo_hAi (fun _ => ?_) | refine mo_hAr (fun _ => ?_) | refine mo_hWi ?_ | refine mo_hWr ?_ | refine mo_hLn (fun _ => ?_) | refine mo_hgL (fun _ => ?_) | refine mo_hpL ?_ | refine mo_hpZ ?_ | refine mo_bd ?_ (fun _ => ?_) | refine mo_hCi (fun _ => ?_) (fun _ => ?_) | refine mo_hNw (fun _ => ?_) | refine mo_hNa (fun _ => ?_) | refine mo_hCp ?_ | refine mo_hOi ?_ | refine mo_hAl (fun _ => ?_) | refine mo_hWl ?_ | refine mo_gd ?_ | refine mo_sLn (fun _ => ?_) | refine mo_sAt (fun _ => ?_) | refine mo_kLn (fun _ => ?_) | refine mo_kAt (fun _ => ?_))
set_option maxRecDepth 10000 in
theorem sc_X11_hand_J59 {g : Gm Hp (Option Nat)} (B : Bx g cX11_hand 9 RX11 voR (some (.object "TopicBroker$Delivery")) 2 44 "hand") {l0 : Nat} (l1 : Option Nat) (l2 : Option Nat) (l3 : Option Nat) (l5 : Int32) : Sm g 9 59 [(0, va_rf (some l0)), (1, va_rf l1), (2, va_rf l2), (3, va_rf l3), (5, .int l5)] [] (C_X11_hand_J59 l0 l1 l2 l3 l5) := by
  unfold C_X11_hand_J59
  refine s_iconst (v := 0) B.1.1 dX11_hand_59 (by decide) ?_
  exact Sm.lvs [0, 1, 2, 3, 4] rfl (sc_X11_hand_J60 B l1 l2 l3 l5 (0 : Int32))
def C_X11_hand_J55 (l0 : Nat) (l1 : Option Nat) (l2 : Option Nat) (l3 : Option Nat) (l5 : Int32) : Hp → Option ((Option Nat) × Hp) :=
  C_X11_hand_J60 l0 l1 l2 l3 l5 (1 : Int32)
set_option maxRecDepth 10000 in
theorem mo_C_X11_hand_J55 (l0 : Nat) (l1 : Option Nat) (l2 : Option Nat) (l3 : Option Nat) (l5 : Int32) : Mo (C_X11_hand_J55 l0 l1 l2 l3 l5) := by
  unfold C_X11_hand_J55
  repeat' (with_reducible first | assumption | exact mo_rt _ | exact mo_zt _ | exact mo_no | apply mo_C_X11_hand_J60 | refine mo_ite ?_ ?_ | refine mo_hgI (fun _ => ?_) | refine mo_hgR (fun _ => ?_) | refine mo_hCv (fun _ => ?_) (fun _ => ?_) | refine mo_lq (fun _ => ?_) | refine mo_hpI ?_ | refine mo_hpR ?_ | refine mo_hAi (fun _ => ?_) | refine mo_hAr (fun _ => ?_) | refine mo_hWi ?_ | refine mo_hWr ?_ | refine mo_hLn (fun _ => ?_) | refine mo_hgL (fun _ => ?_) | refine mo_hpL ?_ | refine mo_hpZ ?_ | refine mo_bd ?_ (fun _ => ?_) | refine mo_hCi (fun _ => ?_) (fun _ => ?_) | refine mo_hNw (fun _ => ?_) | refine mo_hNa (fun _ => ?_) | refine mo_hCp ?_ | refine mo_hOi ?_ | refine mo_hAl (fun _ => ?_) | refine mo_hWl ?_ | refine mo_gd ?_ | refine mo_sLn (fun _ => ?_) | refine mo_sAt (fun _ => ?_) | refine mo_kLn (fun _ => ?_) | refine mo_kAt (fun _ => ?_))
set_option maxRecDepth 10000 in
theorem sc_X11_hand_J55 {g : Gm Hp (Option Nat)} (B : Bx g cX11_hand 9 RX11 voR (some (.object "TopicBroker$Delivery")) 2 44 "hand") {l0 : Nat} (l1 : Option Nat) (l2 : Option Nat) (l3 : Option Nat) (l5 : Int32) : Sm g 9 55 [(0, va_rf (some l0)), (1, va_rf l1), (2, va_rf l2), (3, va_rf l3), (5, .int l5)] [] (C_X11_hand_J55 l0 l1 l2 l3 l5) := by
  unfold C_X11_hand_J55
  refine s_iconst (v := 1) B.1.1 dX11_hand_55 (by decide) ?_
  refine s_goto B.1.1 60 dX11_hand_56 (by decide) ?_
  exact Sm.lvs [0, 1, 2, 3, 4] rfl (sc_X11_hand_J60 B l1 l2 l3 l5 (1 : Int32))
def C_X11_hand (l0 : Nat) (l1 : Option Nat) (l2 : Option Nat) (l3 : Option Nat) (l4 : Int32) : Hp → Option ((Option Nat) × Hp) :=
  hgI 11 4 l2 fun v15 =>
  hpI 11 4 l2 (v15 + (1 : Int32)) <|
  hgI 13 11 (some l0) fun v16 =>
  hpI 11 5 l2 v16 <|
  hgI 5 2 l3 fun v17 =>
  hgI 11 2 l2 fun v18 =>
  lq (imin v17 (v18 &&& (3 : Int32))) fun x19 =>
  if l4 = 0 then (
    hgI 5 3 l3 fun v20 =>
    if v20 = 0 then (
      C_X11_hand_J59 l0 l1 l2 l3 x19
    ) else (
      hgI 11 2 l2 fun v21 =>
      if (v21 &&& (8 : Int32)) = 0 then (
        C_X11_hand_J59 l0 l1 l2 l3 x19
      ) else (
        C_X11_hand_J55 l0 l1 l2 l3 x19
      )
    )
  ) else (
    C_X11_hand_J55 l0 l1 l2 l3 x19
  )
set_option maxRecDepth 10000 in
theorem mo_C_X11_hand (l0 : Nat) (l1 : Option Nat) (l2 : Option Nat) (l3 : Option Nat) (l4 : Int32) : Mo (C_X11_hand l0 l1 l2 l3 l4) := by
  unfold C_X11_hand
  repeat' (with_reducible first | assumption | exact mo_rt _ | exact mo_zt _ | exact mo_no | apply mo_C_X11_hand_J59 | apply mo_C_X11_hand_J55 | refine mo_ite ?_ ?_ | refine mo_hgI (fun _ => ?_) | refine mo_hgR (fun _ => ?_) | refine mo_hCv (fun _ => ?_) (fun _ => ?_) | refine mo_lq (fun _ => ?_) | refine mo_hpI ?_ | refine mo_hpR ?_ | refine mo_hAi (fun _ => ?_) | refine mo_hAr (fun _ => ?_) | refine mo_hWi ?_ | refine mo_hWr ?_ | refine mo_hLn (fun _ => ?_) | refine mo_hgL (fun _ => ?_) | refine mo_hpL ?_ | refine mo_hpZ ?_ | refine mo_bd ?_ (fun _ => ?_) | refine mo_hCi (fun _ => ?_) (fun _ => ?_) | refine mo_hNw (fun _ => ?_) | refine mo_hNa (fun _ => ?_) | refine mo_hCp ?_ | refine mo_hOi ?_ | refine mo_hAl (fun _ => ?_) | refine mo_hWl ?_ | refine mo_gd ?_ | refine mo_sLn (fun _ => ?_) | refine mo_sAt (fun _ => ?_) | refine mo_kLn (fun _ => ?_) | refine mo_kAt (fun _ => ?_))
set_option maxRecDepth 10000 in
theorem mC_X11_hand {w : Wd} (hw : Wc w) (l0 : Nat) (l1 : Option Nat) (l2 : Option Nat) (l3 : Option Nat) (l4 : Int32) : MH w yX11_hand cX11_hand 9 (some (.object "TopicBroker$Delivery")) 2 44 voR [va_rf (some l0), va_rf l1, va_rf l2, va_rf l3, .int l4] (C_X11_hand l0 l1 l2 l3 l4) := by
  have M0 : ∀ g : Gm Hp (Option Nat), g.1 = w → Bx g cX11_hand 9 RX11 voR (some (.object "TopicBroker$Delivery")) 2 44 "hand" → Sm g 9 0 (lv_args 0 [va_rf (some l0), va_rf l1, va_rf l2, va_rf l3, .int l4]) [] (C_X11_hand l0 l1 l2 l3 l4) := by
    intro g hg B
    subst hg
    unfold C_X11_hand
    refine W_lva (lv := [(0, va_rf (some l0)), (1, va_rf l1), (2, va_rf l2), (3, va_rf l3), (4, .int l4)]) (by simp [lv_args, va_rf_cat, cat_i, cat_l, cat_r]) ?_
    refine s_rload_n B.1.1 2 dX11_hand_0 rfl rfl ?_
    refine s_dup B.1.1 dX11_hand_1 (va_rf_cat _) ?_
    refine hp_getI B.1 11 4 rfl (by decide) inX9 (by decide) fk_X9_4.1 fk_X9_4.2 cf_X11_212 dX11_hand_2 (fun v15 => ?_)
    refine s_iconst (v := 1) B.1.1 dX11_hand_5 (by decide) ?_
    refine s_iadd B.1.1 dX11_hand_6 ?_
    refine hp_putI B.1 11 4 rfl (by decide) inX9 tyX9 tyX9_ok nmX9 (by decide) fk_X9_4.1 fk_X9_4.2 ft_X9_4 rfl cf_X11_212 dX11_hand_7 ?_
    refine s_rload_n B.1.1 2 dX11_hand_10 rfl rfl ?_
    refine s_rload_n B.1.1 0 dX11_hand_11 rfl rfl ?_
    refine hp_getI B.1 13 11 rfl (by decide) inX11 (by decide) fk_X11_11.1 fk_X11_11.2 cf_X11_249 dX11_hand_12 (fun v16 => ?_)
    refine hp_putI B.1 11 5 rfl (by decide) inX9 tyX9 tyX9_ok nmX9 (by decide) fk_X9_5.1 fk_X9_5.2 ft_X9_5 rfl cf_X11_524 dX11_hand_15 ?_
    refine s_rload_n B.1.1 3 dX11_hand_18 rfl rfl ?_
    refine hp_getI B.1 5 2 rfl (by decide) inX3 (by decide) fk_X3_2.1 fk_X3_2.2 cf_X11_227 dX11_hand_19 (fun v17 => ?_)
    refine s_rload_n B.1.1 2 dX11_hand_22 rfl rfl ?_
    refine hp_getI B.1 11 2 rfl (by decide) inX9 (by decide) fk_X9_2.1 fk_X9_2.2 cf_X11_201 dX11_hand_23 (fun v18 => ?_)
    refine s_iconst (v := 3) B.1.1 dX11_hand_26 (by decide) ?_
    refine s_iand B.1.1 dX11_hand_27 ?_
    refine s_mmin B.1.1 B.1.2.1 tw_1076 (by decide) (Nat.le_of_ble_eq_true rfl) dX11_hand_28 ?_
    refine s_lqi (fun x19 => ?_)
    refine s_istore (i := 5) (lv' := [(5, .int x19), (0, va_rf (some l0)), (1, va_rf l1), (2, va_rf l2), (3, va_rf l3), (4, .int l4)]) B.1.1 dX11_hand_31 (by decide) rfl ?_
    refine s_iload B.1.1 5 dX11_hand_33 rfl ?_
    refine s_if_ne B.1.1 55 dX11_hand_35 (by decide) ?_ ?_
    · exact Sm.lvs [1, 2, 3, 4, 0] rfl (sc_X11_hand_J55 B l1 l2 l3 x19)
    · refine s_rload_n B.1.1 4 dX11_hand_38 rfl rfl ?_
      refine hp_getI B.1 5 3 rfl (by decide) inX3 (by decide) fk_X3_3.1 fk_X3_3.2 cf_X11_492 dX11_hand_39 (fun v20 => ?_)
      refine s_if_eq B.1.1 59 dX11_hand_42 (by decide) ?_ ?_
      · exact Sm.lvs [1, 2, 3, 4, 0] rfl (sc_X11_hand_J59 B l1 l2 l3 x19)
      · refine s_rload_n B.1.1 3 dX11_hand_45 rfl rfl ?_
        refine hp_getI B.1 11 2 rfl (by decide) inX9 (by decide) fk_X9_2.1 fk_X9_2.2 cf_X11_201 dX11_hand_46 (fun v21 => ?_)
        refine s_bipush (v := (8)) B.1.1 dX11_hand_49 (by decide) ?_
        refine s_iand B.1.1 dX11_hand_51 ?_
        refine s_if_eq B.1.1 59 dX11_hand_52 (by decide) ?_ ?_
        · exact Sm.lvs [1, 2, 3, 4, 0] rfl (sc_X11_hand_J59 B l1 l2 l3 x19)
        · exact Sm.lvs [1, 2, 3, 4, 0] rfl (sc_X11_hand_J55 B l1 l2 l3 x19)
  exact MH.of hw ⟨rfl, rfl⟩ (by decide) (by simp [lg_sl, va_rf_cat, cat_i, cat_l, cat_r]) (mo_C_X11_hand l0 l1 l2 l3 l4) M0
def C_X7_same_J49 (l0 : Nat) : Hp → Option (Int32 × Hp) :=
  zt ((1 : Int32))
set_option maxRecDepth 10000 in
theorem mo_C_X7_same_J49 (l0 : Nat) : Mo (C_X7_same_J49 l0) := by
  unfold C_X7_same_J49
  repeat' (with_reducible first | assumption | exact mo_rt _ | exact mo_zt _ | exact mo_no | refine mo_ite ?_ ?_ | refine mo_hgI (fun _ => ?_) | refine mo_hgR (fun _ => ?_) | refine mo_hCv (fun _ => ?_) (fun _ => ?_) | refine mo_lq (fun _ => ?_) | refine mo_hpI ?_ | refine mo_hpR ?_ | refine mo_hAi (fun _ => ?_) | refine mo_hAr (fun _ => ?_) | refine mo_hWi ?_ | refine mo_hWr ?_ | refine mo_hLn (fun _ => ?_) | refine mo_hgL (fun _ => ?_) | refine mo_hpL ?_ | refine mo_hpZ ?_ | refine mo_bd ?_ (fun _ => ?_) | refine mo_hCi (fun _ => ?_) (fun _ => ?_) | refine mo_hNw (fun _ => ?_) | refine mo_hNa (fun _ => ?_) | refine mo_hCp ?_ | refine mo_hOi ?_ | refine mo_hAl (fun _ => ?_) | refine mo_hWl ?_ | refine mo_gd ?_ | refine mo_sLn (fun _ => ?_) | refine mo_sAt (fun _ => ?_) | refine mo_kLn (fun _ => ?_) | refine mo_kAt (fun _ => ?_))
set_option maxRecDepth 10000 in
theorem sc_X7_same_J49 {g : Gm Hp Int32} (B : Bx g cX7_same 3 RX7 voI (some .boolean) 0 0 "same") {l0 : Nat} : Sm g 3 49 [] [] (C_X7_same_J49 l0) := by
  unfold C_X7_same_J49
  refine s_iconst (v := 1) B.1.1 dX7_same_49 (by decide) ?_
  exact s_zret B.1.1 B.2.2.2.2 dX7_same_50
def C_X7_same_J41 (l0 : Nat) : Hp → Option (Int32 × Hp) :=
  zt ((0 : Int32))
set_option maxRecDepth 10000 in
theorem mo_C_X7_same_J41 (l0 : Nat) : Mo (C_X7_same_J41 l0) := by
  unfold C_X7_same_J41
  repeat' (with_reducible first | assumption | exact mo_rt _ | exact mo_zt _ | exact mo_no | refine mo_ite ?_ ?_ | refine mo_hgI (fun _ => ?_) | refine mo_hgR (fun _ => ?_) | refine mo_hCv (fun _ => ?_) (fun _ => ?_) | refine mo_lq (fun _ => ?_) | refine mo_hpI ?_ | refine mo_hpR ?_ | refine mo_hAi (fun _ => ?_) | refine mo_hAr (fun _ => ?_) | refine mo_hWi ?_ | refine mo_hWr ?_ | refine mo_hLn (fun _ => ?_) | refine mo_hgL (fun _ => ?_) | refine mo_hpL ?_ | refine mo_hpZ ?_ | refine mo_bd ?_ (fun _ => ?_) | refine mo_hCi (fun _ => ?_) (fun _ => ?_) | refine mo_hNw (fun _ => ?_) | refine mo_hNa (fun _ => ?_) | refine mo_hCp ?_ | refine mo_hOi ?_ | refine mo_hAl (fun _ => ?_) | refine mo_hWl ?_ | refine mo_gd ?_ | refine mo_sLn (fun _ => ?_) | refine mo_sAt (fun _ => ?_) | refine mo_kLn (fun _ => ?_) | refine mo_kAt (fun _ => ?_))
set_option maxRecDepth 10000 in
theorem sc_X7_same_J41 {g : Gm Hp Int32} (B : Bx g cX7_same 3 RX7 voI (some .boolean) 0 0 "same") {l0 : Nat} : Sm g 3 41 [] [] (C_X7_same_J41 l0) := by
  unfold C_X7_same_J41
  refine s_iconst (v := 0) B.1.1 dX7_same_41 (by decide) ?_
  exact s_zret B.1.1 B.2.2.2.2 dX7_same_42
def C_X7_same_B17 (l0 : Nat) (kb : Option Nat → Int32 → Hp → Option (Int32 × Hp)) (ke41 : Hp → Option (Int32 × Hp)) (ke49 : Hp → Option (Int32 × Hp)) (l1 : Option Nat) (l2 : Int32) : Hp → Option (Int32 × Hp) :=
  hgR 9 0 (some l0) fun v1 =>
  hLn 0 v1 fun v2 =>
  if v2 ≤ l2 then (
    ke49
  ) else (
    hgR 9 0 (some l0) fun v3 =>
    hAi v3 l2 fun v4 =>
    hgR 9 0 l1 fun v5 =>
    hAi v5 l2 fun v6 =>
    if v4 = v6 then (
      kb l1 (l2 + 1)
    ) else (
      ke41
    )
  )
def C_X7_same_L17 (l0 : Nat) (ke41 : Hp → Option (Int32 × Hp)) (ke49 : Hp → Option (Int32 × Hp)) : Nat → Option Nat → Int32 → Hp → Option (Int32 × Hp)
  | 0, _, _ => no
  | n + 1, l1, l2 => C_X7_same_B17 l0 (fun l1 l2 => C_X7_same_L17 l0 ke41 ke49 n l1 l2) ke41 ke49 l1 l2
set_option maxRecDepth 10000 in
theorem mo_C_X7_same_B17 (l0 : Nat) (kb : Option Nat → Int32 → Hp → Option (Int32 × Hp)) (ke41 : Hp → Option (Int32 × Hp)) (ke49 : Hp → Option (Int32 × Hp)) (hkb : ∀ (l1 : Option Nat) (l2 : Int32), Mo (kb l1 l2)) (hke41 : Mo (ke41)) (hke49 : Mo (ke49)) (l1 : Option Nat) (l2 : Int32) : Mo (C_X7_same_B17 l0 kb ke41 ke49 l1 l2) := by
  unfold C_X7_same_B17
  repeat' (with_reducible first | assumption | exact mo_rt _ | exact mo_zt _ | exact mo_no | apply hkb | apply hke41 | apply hke49 | refine mo_ite ?_ ?_ | refine mo_hgI (fun _ => ?_) | refine mo_hgR (fun _ => ?_) | refine mo_hCv (fun _ => ?_) (fun _ => ?_) | refine mo_lq (fun _ => ?_) | refine mo_hpI ?_ | refine mo_hpR ?_ | refine mo_hAi (fun _ => ?_) | refine mo_hAr (fun _ => ?_) | refine mo_hWi ?_ | refine mo_hWr ?_ | refine mo_hLn (fun _ => ?_) | refine mo_hgL (fun _ => ?_) | refine mo_hpL ?_ | refine mo_hpZ ?_ | refine mo_bd ?_ (fun _ => ?_) | refine mo_hCi (fun _ => ?_) (fun _ => ?_) | refine mo_hNw (fun _ => ?_) | refine mo_hNa (fun _ => ?_) | refine mo_hCp ?_ | refine mo_hOi ?_ | refine mo_hAl (fun _ => ?_) | refine mo_hWl ?_ | refine mo_gd ?_ | refine mo_sLn (fun _ => ?_) | refine mo_sAt (fun _ => ?_) | refine mo_kLn (fun _ => ?_) | refine mo_kAt (fun _ => ?_))
set_option maxRecDepth 10000 in
theorem mo_C_X7_same_L17 (l0 : Nat) (ke41 : Hp → Option (Int32 × Hp)) (ke49 : Hp → Option (Int32 × Hp)) (hke41 : Mo (ke41)) (hke49 : Mo (ke49)) : ∀ (n : Nat) (l1 : Option Nat) (l2 : Int32), Mo (C_X7_same_L17 l0 ke41 ke49 n l1 l2)
  | 0, _, _ => mo_no
  | n + 1, l1, l2 => mo_C_X7_same_B17 l0 _ ke41 ke49 (mo_C_X7_same_L17 l0 ke41 ke49 hke41 hke49 n) hke41 hke49 l1 l2
set_option maxRecDepth 10000 in
theorem sc_X7_same_B17 {g : Gm Hp Int32} {kb : Option Nat → Int32 → Hp → Option (Int32 × Hp)} {ke41 : Hp → Option (Int32 × Hp)} {ke49 : Hp → Option (Int32 × Hp)} (B : Bx g cX7_same 3 RX7 voI (some .boolean) 0 0 "same") {l0 : Nat} (hkb : ∀ (l1 : Option Nat) (l2 : Int32), Sm g 3 17 [(0, va_rf (some l0)), (1, va_rf l1), (2, .int l2)] [] (kb l1 l2)) (hke41 : Sm g 3 41 [] [] (ke41)) (hke49 : Sm g 3 49 [] [] (ke49)) (l1 : Option Nat) (l2 : Int32) : Sm g 3 17 [(0, va_rf (some l0)), (1, va_rf l1), (2, .int l2)] [] (C_X7_same_B17 l0 kb ke41 ke49 l1 l2) := by
  unfold C_X7_same_B17
  refine s_iload_n B.1.1 2 dX7_same_17 rfl rfl ?_
  refine s_rload_n B.1.1 0 dX7_same_18 rfl rfl ?_
  refine hp_getR B.1 9 0 rfl (by decide) inX7 (by decide) fk_X7_0 cf_X7_9 dX7_same_19 (fun v1 => ?_)
  refine hp_Ln B.1 0 (fun _ => rfl) dX7_same_22 (fun v2 => ?_)
  refine s_icmp_ge B.1.1 49 dX7_same_23 (by decide) ?_ ?_
  · exact Sm.lvs [] rfl (hke49)
  · refine s_rload_n B.1.1 0 dX7_same_26 rfl rfl ?_
    refine hp_getR B.1 9 0 rfl (by decide) inX7 (by decide) fk_X7_0 cf_X7_9 dX7_same_27 (fun v3 => ?_)
    refine s_iload_n B.1.1 2 dX7_same_30 rfl rfl ?_
    refine hp_Ai B.1 dX7_same_31 (fun v4 => ?_)
    refine s_rload_n B.1.1 1 dX7_same_32 rfl rfl ?_
    refine hp_getR B.1 9 0 rfl (by decide) inX7 (by decide) fk_X7_0 cf_X7_9 dX7_same_33 (fun v5 => ?_)
    refine s_iload_n B.1.1 2 dX7_same_36 rfl rfl ?_
    refine hp_Ai B.1 dX7_same_37 (fun v6 => ?_)
    refine s_icmp_eq B.1.1 43 dX7_same_38 (by decide) ?_ ?_
    · refine s_iinc (v := l2 + 1) (lv' := [(2, .int (l2 + 1)), (0, va_rf (some l0)), (1, va_rf l1)]) B.1.1 2 dX7_same_43 rfl rfl (by decide) (by simp [va_rf_cat, cat_i, cat_l, cat_r]) ?_
      refine s_goto B.1.1 17 dX7_same_46 (by decide) ?_
      exact Sm.lvs [1, 2, 0] rfl (hkb l1 (l2 + 1))
    · exact Sm.lvs [] rfl (hke41)
set_option maxRecDepth 10000 in
theorem sc_X7_same_L17 {g : Gm Hp Int32} {ke41 : Hp → Option (Int32 × Hp)} {ke49 : Hp → Option (Int32 × Hp)} (B : Bx g cX7_same 3 RX7 voI (some .boolean) 0 0 "same") {l0 : Nat} (hke41 : Sm g 3 41 [] [] (ke41)) (hke49 : Sm g 3 49 [] [] (ke49)) : ∀ (n : Nat) (l1 : Option Nat) (l2 : Int32), Sm g 3 17 [(0, va_rf (some l0)), (1, va_rf l1), (2, .int l2)] [] (C_X7_same_L17 l0 ke41 ke49 n l1 l2)
  | 0, _, _ => Sm.fail
  | n + 1, l1, l2 => sc_X7_same_B17 B (sc_X7_same_L17 B hke41 hke49 n) hke41 hke49 l1 l2
def C_X7_same (l0 : Nat) (l1 : Option Nat) : Hp → Option (Int32 × Hp) :=
  hgR 9 0 (some l0) fun v7 =>
  hLn 0 v7 fun v8 =>
  hgR 9 0 l1 fun v9 =>
  hLn 0 v9 fun v10 =>
  if v8 = v10 then (
    C_X7_same_L17 l0 (C_X7_same_J41 l0) (C_X7_same_J49 l0) fu l1 (0 : Int32)
  ) else (
    zt ((0 : Int32))
  )
set_option maxRecDepth 10000 in
theorem mo_C_X7_same (l0 : Nat) (l1 : Option Nat) : Mo (C_X7_same l0 l1) := by
  unfold C_X7_same
  repeat' (with_reducible first | assumption | exact mo_rt _ | exact mo_zt _ | exact mo_no | apply mo_C_X7_same_L17 | apply mo_C_X7_same_J41 | apply mo_C_X7_same_J49 | refine mo_ite ?_ ?_ | refine mo_hgI (fun _ => ?_) | refine mo_hgR (fun _ => ?_) | refine mo_hCv (fun _ => ?_) (fun _ => ?_) | refine mo_lq (fun _ => ?_) | refine mo_hpI ?_ | refine mo_hpR ?_ | refine mo_hAi (fun _ => ?_) | refine mo_hAr (fun _ => ?_) | refine mo_hWi ?_ | refine mo_hWr ?_ | refine mo_hLn (fun _ => ?_) | refine mo_hgL (fun _ => ?_) | refine mo_hpL ?_ | refine mo_hpZ ?_ | refine mo_bd ?_ (fun _ => ?_) | refine mo_hCi (fun _ => ?_) (fun _ => ?_) | refine mo_hNw (fun _ => ?_) | refine mo_hNa (fun _ => ?_) | refine mo_hCp ?_ | refine mo_hOi ?_ | refine mo_hAl (fun _ => ?_) | refine mo_hWl ?_ | refine mo_gd ?_ | refine mo_sLn (fun _ => ?_) | refine mo_sAt (fun _ => ?_) | refine mo_kLn (fun _ => ?_) | refine mo_kAt (fun _ => ?_))
set_option maxRecDepth 10000 in
theorem mC_X7_same {w : Wd} (hw : Wc w) (l0 : Nat) (l1 : Option Nat) : MH w yX7_same cX7_same 3 (some .boolean) 0 0 voI [va_rf (some l0), va_rf l1] (C_X7_same l0 l1) := by
  have M0 : ∀ g : Gm Hp Int32, g.1 = w → Bx g cX7_same 3 RX7 voI (some .boolean) 0 0 "same" → Sm g 3 0 (lv_args 0 [va_rf (some l0), va_rf l1]) [] (C_X7_same l0 l1) := by
    intro g hg B
    subst hg
    unfold C_X7_same
    refine W_lva (lv := [(0, va_rf (some l0)), (1, va_rf l1)]) (by simp [lv_args, va_rf_cat, cat_i, cat_l, cat_r]) ?_
    refine s_rload_n B.1.1 0 dX7_same_0 rfl rfl ?_
    refine hp_getR B.1 9 0 rfl (by decide) inX7 (by decide) fk_X7_0 cf_X7_9 dX7_same_1 (fun v7 => ?_)
    refine hp_Ln B.1 0 (fun _ => rfl) dX7_same_4 (fun v8 => ?_)
    refine s_rload_n B.1.1 1 dX7_same_5 rfl rfl ?_
    refine hp_getR B.1 9 0 rfl (by decide) inX7 (by decide) fk_X7_0 cf_X7_9 dX7_same_6 (fun v9 => ?_)
    refine hp_Ln B.1 0 (fun _ => rfl) dX7_same_9 (fun v10 => ?_)
    refine s_icmp_eq B.1.1 15 dX7_same_10 (by decide) ?_ ?_
    · refine s_iconst (v := 0) B.1.1 dX7_same_15 (by decide) ?_
      refine s_istore_n (i := 2) (lv' := [(2, .int (0 : Int32)), (0, va_rf (some l0)), (1, va_rf l1)]) B.1.1 dX7_same_16 rfl (by decide) (by simp [va_rf_cat, cat_i, cat_l, cat_r]) ?_
      exact Sm.lvs [1, 2, 0] rfl (sc_X7_same_L17 B (sc_X7_same_J41 B) (sc_X7_same_J49 B) fu l1 (0 : Int32))
    · refine s_iconst (v := 0) B.1.1 dX7_same_13 (by decide) ?_
      exact s_zret B.1.1 B.2.2.2.2 dX7_same_14
  exact MH.of hw ⟨rfl, rfl⟩ (by decide) (by simp [lg_sl, va_rf_cat, cat_i, cat_l, cat_r]) (mo_C_X7_same l0 l1) M0
def C_X8_indexOf_J34 (l0 : Nat) : Hp → Option (Int32 × Hp) :=
  rt ((-1 : Int32))
set_option maxRecDepth 10000 in
theorem mo_C_X8_indexOf_J34 (l0 : Nat) : Mo (C_X8_indexOf_J34 l0) := by
  unfold C_X8_indexOf_J34
  repeat' (with_reducible first | assumption | exact mo_rt _ | exact mo_zt _ | exact mo_no | refine mo_ite ?_ ?_ | refine mo_hgI (fun _ => ?_) | refine mo_hgR (fun _ => ?_) | refine mo_hCv (fun _ => ?_) (fun _ => ?_) | refine mo_lq (fun _ => ?_) | refine mo_hpI ?_ | refine mo_hpR ?_ | refine mo_hAi (fun _ => ?_) | refine mo_hAr (fun _ => ?_) | refine mo_hWi ?_ | refine mo_hWr ?_ | refine mo_hLn (fun _ => ?_) | refine mo_hgL (fun _ => ?_) | refine mo_hpL ?_ | refine mo_hpZ ?_ | refine mo_bd ?_ (fun _ => ?_) | refine mo_hCi (fun _ => ?_) (fun _ => ?_) | refine mo_hNw (fun _ => ?_) | refine mo_hNa (fun _ => ?_) | refine mo_hCp ?_ | refine mo_hOi ?_ | refine mo_hAl (fun _ => ?_) | refine mo_hWl ?_ | refine mo_gd ?_ | refine mo_sLn (fun _ => ?_) | refine mo_sAt (fun _ => ?_) | refine mo_kLn (fun _ => ?_) | refine mo_kAt (fun _ => ?_))
set_option maxRecDepth 10000 in
theorem sc_X8_indexOf_J34 {g : Gm Hp Int32} (B : Bx g cX8_indexOf 3 RX8 voI (some .int) 1 22 "indexOf") {l0 : Nat} : Sm g 3 34 [] [] (C_X8_indexOf_J34 l0) := by
  unfold C_X8_indexOf_J34
  refine s_iconst (v := (-1)) B.1.1 dX8_indexOf_34 (by decide) ?_
  exact s_iret B.1.1 B.2.2.2.2 dX8_indexOf_35
def C_X8_indexOf_J26 (l0 : Nat) (l2 : Int32) : Hp → Option (Int32 × Hp) :=
  rt (l2)
set_option maxRecDepth 10000 in
theorem mo_C_X8_indexOf_J26 (l0 : Nat) (l2 : Int32) : Mo (C_X8_indexOf_J26 l0 l2) := by
  unfold C_X8_indexOf_J26
  repeat' (with_reducible first | assumption | exact mo_rt _ | exact mo_zt _ | exact mo_no | refine mo_ite ?_ ?_ | refine mo_hgI (fun _ => ?_) | refine mo_hgR (fun _ => ?_) | refine mo_hCv (fun _ => ?_) (fun _ => ?_) | refine mo_lq (fun _ => ?_) | refine mo_hpI ?_ | refine mo_hpR ?_ | refine mo_hAi (fun _ => ?_) | refine mo_hAr (fun _ => ?_) | refine mo_hWi ?_ | refine mo_hWr ?_ | refine mo_hLn (fun _ => ?_) | refine mo_hgL (fun _ => ?_) | refine mo_hpL ?_ | refine mo_hpZ ?_ | refine mo_bd ?_ (fun _ => ?_) | refine mo_hCi (fun _ => ?_) (fun _ => ?_) | refine mo_hNw (fun _ => ?_) | refine mo_hNa (fun _ => ?_) | refine mo_hCp ?_ | refine mo_hOi ?_ | refine mo_hAl (fun _ => ?_) | refine mo_hWl ?_ | refine mo_gd ?_ | refine mo_sLn (fun _ => ?_) | refine mo_sAt (fun _ => ?_) | refine mo_kLn (fun _ => ?_) | refine mo_kAt (fun _ => ?_))
set_option maxRecDepth 10000 in
theorem sc_X8_indexOf_J26 {g : Gm Hp Int32} (B : Bx g cX8_indexOf 3 RX8 voI (some .int) 1 22 "indexOf") {l0 : Nat} (l2 : Int32) : Sm g 3 26 [(2, .int l2)] [] (C_X8_indexOf_J26 l0 l2) := by
  unfold C_X8_indexOf_J26
  refine s_iload_n B.1.1 0 dX8_indexOf_26 rfl rfl ?_
  exact s_iret B.1.1 B.2.2.2.2 dX8_indexOf_27
def C_X8_indexOf_B2 (l0 : Nat) (kb : Option Nat → Int32 → Hp → Option (Int32 × Hp)) (ke26 : Int32 → Hp → Option (Int32 × Hp)) (ke34 : Hp → Option (Int32 × Hp)) (l1 : Option Nat) (l2 : Int32) : Hp → Option (Int32 × Hp) :=
  hgI 10 4 (some l0) fun v1 =>
  if v1 ≤ l2 then (
    ke34
  ) else (
    hgR 10 3 (some l0) fun v2 =>
    hAr 6 v2 l2 fun v3 =>
    hgR 11 0 v3 fun v4 =>
    hCv 9 v4 (fun a => C_X7_same a l1) fun r5 =>
    if r5 = 0 then (
      kb l1 (l2 + 1)
    ) else (
      ke26 l2
    )
  )
def C_X8_indexOf_L2 (l0 : Nat) (ke26 : Int32 → Hp → Option (Int32 × Hp)) (ke34 : Hp → Option (Int32 × Hp)) : Nat → Option Nat → Int32 → Hp → Option (Int32 × Hp)
  | 0, _, _ => no
  | n + 1, l1, l2 => C_X8_indexOf_B2 l0 (fun l1 l2 => C_X8_indexOf_L2 l0 ke26 ke34 n l1 l2) ke26 ke34 l1 l2
set_option maxRecDepth 10000 in
theorem mo_C_X8_indexOf_B2 (l0 : Nat) (kb : Option Nat → Int32 → Hp → Option (Int32 × Hp)) (ke26 : Int32 → Hp → Option (Int32 × Hp)) (ke34 : Hp → Option (Int32 × Hp)) (hkb : ∀ (l1 : Option Nat) (l2 : Int32), Mo (kb l1 l2)) (hke26 : ∀ (l2 : Int32), Mo (ke26 l2)) (hke34 : Mo (ke34)) (l1 : Option Nat) (l2 : Int32) : Mo (C_X8_indexOf_B2 l0 kb ke26 ke34 l1 l2) := by
  unfold C_X8_indexOf_B2
  repeat' (with_reducible first | assumption | exact mo_rt _ | exact mo_zt _ | exact mo_no | apply mo_C_X7_same | apply hkb | apply hke26 | apply hke34 | refine mo_ite ?_ ?_ | refine mo_hgI (fun _ => ?_) | refine mo_hgR (fun _ => ?_) | refine mo_hCv (fun _ => ?_) (fun _ => ?_) | refine mo_lq (fun _ => ?_) | refine mo_hpI ?_ | refine mo_hpR ?_ | refine mo_hAi (fun _ => ?_) | refine mo_hAr (fun _ => ?_) | refine mo_hWi ?_ | refine mo_hWr ?_ | refine mo_hLn (fun _ => ?_) | refine mo_hgL (fun _ => ?_) | refine mo_hpL ?_ | refine mo_hpZ ?_ | refine mo_bd ?_ (fun _ => ?_) | refine mo_hCi (fun _ => ?_) (fun _ => ?_) | refine mo_hNw (fun _ => ?_) | refine mo_hNa (fun _ => ?_) | refine mo_hCp ?_ | refine mo_hOi ?_ | refine mo_hAl (fun _ => ?_) | refine mo_hWl ?_ | refine mo_gd ?_ | refine mo_sLn (fun _ => ?_) | refine mo_sAt (fun _ => ?_) | refine mo_kLn (fun _ => ?_) | refine mo_kAt (fun _ => ?_))
set_option maxRecDepth 10000 in
theorem mo_C_X8_indexOf_L2 (l0 : Nat) (ke26 : Int32 → Hp → Option (Int32 × Hp)) (ke34 : Hp → Option (Int32 × Hp)) (hke26 : ∀ (l2 : Int32), Mo (ke26 l2)) (hke34 : Mo (ke34)) : ∀ (n : Nat) (l1 : Option Nat) (l2 : Int32), Mo (C_X8_indexOf_L2 l0 ke26 ke34 n l1 l2)
  | 0, _, _ => mo_no
  | n + 1, l1, l2 => mo_C_X8_indexOf_B2 l0 _ ke26 ke34 (mo_C_X8_indexOf_L2 l0 ke26 ke34 hke26 hke34 n) hke26 hke34 l1 l2
set_option maxRecDepth 10000 in
theorem sc_X8_indexOf_B2 {g : Gm Hp Int32} {kb : Option Nat → Int32 → Hp → Option (Int32 × Hp)} {ke26 : Int32 → Hp → Option (Int32 × Hp)} {ke34 : Hp → Option (Int32 × Hp)} (B : Bx g cX8_indexOf 3 RX8 voI (some .int) 1 22 "indexOf") {l0 : Nat} (hkb : ∀ (l1 : Option Nat) (l2 : Int32), Sm g 3 2 [(0, va_rf (some l0)), (1, va_rf l1), (2, .int l2)] [] (kb l1 l2)) (hke26 : ∀ (l2 : Int32), Sm g 3 26 [(2, .int l2)] [] (ke26 l2)) (hke34 : Sm g 3 34 [] [] (ke34)) (l1 : Option Nat) (l2 : Int32) : Sm g 3 2 [(0, va_rf (some l0)), (1, va_rf l1), (2, .int l2)] [] (C_X8_indexOf_B2 l0 kb ke26 ke34 l1 l2) := by
  unfold C_X8_indexOf_B2
  refine s_iload_n B.1.1 2 dX8_indexOf_2 rfl rfl ?_
  refine s_rload_n B.1.1 0 dX8_indexOf_3 rfl rfl ?_
  refine hp_getI B.1 10 4 rfl (by decide) inX8 (by decide) fk_X8_4.1 fk_X8_4.2 cf_X8_38 dX8_indexOf_4 (fun v1 => ?_)
  refine s_icmp_ge B.1.1 34 dX8_indexOf_7 (by decide) ?_ ?_
  · exact Sm.lvs [] rfl (hke34)
  · refine s_rload_n B.1.1 0 dX8_indexOf_10 rfl rfl ?_
    refine hp_getR B.1 10 3 rfl (by decide) inX8 (by decide) fk_X8_3 cf_X8_11 dX8_indexOf_11 (fun v2 => ?_)
    refine s_iload_n B.1.1 2 dX8_indexOf_14 rfl rfl ?_
    refine hp_Ar B.1 6 (by decide) (fun _ => rfl) dX8_indexOf_15 (fun v3 => ?_)
    refine hp_getR B.1 11 0 rfl (by decide) inX9 (by decide) fk_X9_0 cf_X8_41 dX8_indexOf_16 (fun v4 => ?_)
    refine s_rload_n B.1.1 1 dX8_indexOf_19 rfl rfl ?_
    refine hp_cvi (As := [va_rf l1]) (st := []) 9 rfl (by decide) B.1 (fun a => mC_X7_same B.2.1 a l1) cc_X7_same cl_X8_44 cn_X7_same ce_X7_same ci_X7 cd_X7_same (by decide) rfl (Nat.le_of_ble_eq_true rfl) dX8_indexOf_20 (fun r5 => ?_)
    refine s_if_eq B.1.1 28 dX8_indexOf_23 (by decide) ?_ ?_
    · refine s_iinc (v := l2 + 1) (lv' := [(2, .int (l2 + 1)), (0, va_rf (some l0)), (1, va_rf l1)]) B.1.1 2 dX8_indexOf_28 rfl rfl (by decide) (by simp [va_rf_cat, cat_i, cat_l, cat_r]) ?_
      refine s_goto B.1.1 2 dX8_indexOf_31 (by decide) ?_
      exact Sm.lvs [1, 2, 0] rfl (hkb l1 (l2 + 1))
    · exact Sm.lvs [2] rfl (hke26 l2)
set_option maxRecDepth 10000 in
theorem sc_X8_indexOf_L2 {g : Gm Hp Int32} {ke26 : Int32 → Hp → Option (Int32 × Hp)} {ke34 : Hp → Option (Int32 × Hp)} (B : Bx g cX8_indexOf 3 RX8 voI (some .int) 1 22 "indexOf") {l0 : Nat} (hke26 : ∀ (l2 : Int32), Sm g 3 26 [(2, .int l2)] [] (ke26 l2)) (hke34 : Sm g 3 34 [] [] (ke34)) : ∀ (n : Nat) (l1 : Option Nat) (l2 : Int32), Sm g 3 2 [(0, va_rf (some l0)), (1, va_rf l1), (2, .int l2)] [] (C_X8_indexOf_L2 l0 ke26 ke34 n l1 l2)
  | 0, _, _ => Sm.fail
  | n + 1, l1, l2 => sc_X8_indexOf_B2 B (sc_X8_indexOf_L2 B hke26 hke34 n) hke26 hke34 l1 l2
def C_X8_indexOf (l0 : Nat) (l1 : Option Nat) : Hp → Option (Int32 × Hp) :=
  C_X8_indexOf_L2 l0 (fun l2 => C_X8_indexOf_J26 l0 l2) (C_X8_indexOf_J34 l0) fu l1 (0 : Int32)
set_option maxRecDepth 10000 in
theorem mo_C_X8_indexOf (l0 : Nat) (l1 : Option Nat) : Mo (C_X8_indexOf l0 l1) := by
  unfold C_X8_indexOf
  repeat' (with_reducible first | assumption | exact mo_rt _ | exact mo_zt _ | exact mo_no | apply mo_C_X8_indexOf_L2 | apply mo_C_X8_indexOf_J26 | apply mo_C_X8_indexOf_J34 | refine mo_ite ?_ ?_ | refine mo_hgI (fun _ => ?_) | refine mo_hgR (fun _ => ?_) | refine mo_hCv (fun _ => ?_) (fun _ => ?_) | refine mo_lq (fun _ => ?_) | refine mo_hpI ?_ | refine mo_hpR ?_ | refine mo_hAi (fun _ => ?_) | refine mo_hAr (fun _ => ?_) | refine mo_hWi ?_ | refine mo_hWr ?_ | refine mo_hLn (fun _ => ?_) | refine mo_hgL (fun _ => ?_) | refine mo_hpL ?_ | refine mo_hpZ ?_ | refine mo_bd ?_ (fun _ => ?_) | refine mo_hCi (fun _ => ?_) (fun _ => ?_) | refine mo_hNw (fun _ => ?_) | refine mo_hNa (fun _ => ?_) | refine mo_hCp ?_ | refine mo_hOi ?_ | refine mo_hAl (fun _ => ?_) | refine mo_hWl ?_ | refine mo_gd ?_ | refine mo_sLn (fun _ => ?_) | refine mo_sAt (fun _ => ?_) | refine mo_kLn (fun _ => ?_) | refine mo_kAt (fun _ => ?_))
set_option maxRecDepth 10000 in
theorem mC_X8_indexOf {w : Wd} (hw : Wc w) (l0 : Nat) (l1 : Option Nat) : MH w yX8_indexOf cX8_indexOf 3 (some .int) 1 22 voI [va_rf (some l0), va_rf l1] (C_X8_indexOf l0 l1) := by
  have M0 : ∀ g : Gm Hp Int32, g.1 = w → Bx g cX8_indexOf 3 RX8 voI (some .int) 1 22 "indexOf" → Sm g 3 0 (lv_args 0 [va_rf (some l0), va_rf l1]) [] (C_X8_indexOf l0 l1) := by
    intro g hg B
    subst hg
    unfold C_X8_indexOf
    refine W_lva (lv := [(0, va_rf (some l0)), (1, va_rf l1)]) (by simp [lv_args, va_rf_cat, cat_i, cat_l, cat_r]) ?_
    refine s_iconst (v := 0) B.1.1 dX8_indexOf_0 (by decide) ?_
    refine s_istore_n (i := 2) (lv' := [(2, .int (0 : Int32)), (0, va_rf (some l0)), (1, va_rf l1)]) B.1.1 dX8_indexOf_1 rfl (by decide) (by simp [va_rf_cat, cat_i, cat_l, cat_r]) ?_
    exact Sm.lvs [1, 2, 0] rfl (sc_X8_indexOf_L2 B (fun l2 => sc_X8_indexOf_J26 B l2) (sc_X8_indexOf_J34 B) fu l1 (0 : Int32))
  exact MH.of hw ⟨rfl, rfl⟩ (by decide) (by simp [lg_sl, va_rf_cat, cat_i, cat_l, cat_r]) (mo_C_X8_indexOf l0 l1) M0
def C_X9_isShared (l0 : Nat) : Hp → Option (Int32 × Hp) :=
  hgI 11 1 (some l0) fun v1 =>
  if v1 ≤ 0 then (
    zt ((0 : Int32))
  ) else (
    zt ((1 : Int32))
  )
set_option maxRecDepth 10000 in
theorem mo_C_X9_isShared (l0 : Nat) : Mo (C_X9_isShared l0) := by
  unfold C_X9_isShared
  repeat' (with_reducible first | assumption | exact mo_rt _ | exact mo_zt _ | exact mo_no | refine mo_ite ?_ ?_ | refine mo_hgI (fun _ => ?_) | refine mo_hgR (fun _ => ?_) | refine mo_hCv (fun _ => ?_) (fun _ => ?_) | refine mo_lq (fun _ => ?_) | refine mo_hpI ?_ | refine mo_hpR ?_ | refine mo_hAi (fun _ => ?_) | refine mo_hAr (fun _ => ?_) | refine mo_hWi ?_ | refine mo_hWr ?_ | refine mo_hLn (fun _ => ?_) | refine mo_hgL (fun _ => ?_) | refine mo_hpL ?_ | refine mo_hpZ ?_ | refine mo_bd ?_ (fun _ => ?_) | refine mo_hCi (fun _ => ?_) (fun _ => ?_) | refine mo_hNw (fun _ => ?_) | refine mo_hNa (fun _ => ?_) | refine mo_hCp ?_ | refine mo_hOi ?_ | refine mo_hAl (fun _ => ?_) | refine mo_hWl ?_ | refine mo_gd ?_ | refine mo_sLn (fun _ => ?_) | refine mo_sAt (fun _ => ?_) | refine mo_kLn (fun _ => ?_) | refine mo_kAt (fun _ => ?_))
set_option maxRecDepth 10000 in
theorem mC_X9_isShared {w : Wd} (hw : Wc w) (l0 : Nat) : MH w yX9_isShared cX9_isShared 1 (some .boolean) 0 0 voI [va_rf (some l0)] (C_X9_isShared l0) := by
  have M0 : ∀ g : Gm Hp Int32, g.1 = w → Bx g cX9_isShared 1 RX9 voI (some .boolean) 0 0 "isShared" → Sm g 1 0 (lv_args 0 [va_rf (some l0)]) [] (C_X9_isShared l0) := by
    intro g hg B
    subst hg
    unfold C_X9_isShared
    refine W_lva (lv := [(0, va_rf (some l0))]) (by simp [lv_args, va_rf_cat, cat_i, cat_l, cat_r]) ?_
    refine s_rload_n B.1.1 0 dX9_isShared_0 rfl rfl ?_
    refine hp_getI B.1 11 1 rfl (by decide) inX9 (by decide) fk_X9_1.1 fk_X9_1.2 cf_X9_13 dX9_isShared_1 (fun v1 => ?_)
    refine s_if_le B.1.1 11 dX9_isShared_4 (by decide) ?_ ?_
    · refine s_iconst (v := 0) B.1.1 dX9_isShared_11 (by decide) ?_
      exact s_zret B.1.1 B.2.2.2.2 dX9_isShared_12
    · refine s_iconst (v := 1) B.1.1 dX9_isShared_7 (by decide) ?_
      refine s_goto B.1.1 12 dX9_isShared_8 (by decide) ?_
      exact s_zret B.1.1 B.2.2.2.2 dX9_isShared_12
  exact MH.of hw ⟨rfl, rfl⟩ (by decide) (by simp [lg_sl, va_rf_cat, cat_i, cat_l, cat_r]) (mo_C_X9_isShared l0) M0
def C_X11_receiver_J216 (l0 : Nat) (l4 : Option Nat) : Hp → Option ((Option Nat) × Hp) :=
  rt (l4)
set_option maxRecDepth 10000 in
theorem mo_C_X11_receiver_J216 (l0 : Nat) (l4 : Option Nat) : Mo (C_X11_receiver_J216 l0 l4) := by
  unfold C_X11_receiver_J216
  repeat' (with_reducible first | assumption | exact mo_rt _ | exact mo_zt _ | exact mo_no | refine mo_ite ?_ ?_ | refine mo_hgI (fun _ => ?_) | refine mo_hgR (fun _ => ?_) | refine mo_hCv (fun _ => ?_) (fun _ => ?_) | refine mo_lq (fun _ => ?_) | refine mo_hpI ?_ | refine mo_hpR ?_ | refine mo_hAi (fun _ => ?_) | refine mo_hAr (fun _ => ?_) | refine mo_hWi ?_ | refine mo_hWr ?_ | refine mo_hLn (fun _ => ?_) | refine mo_hgL (fun _ => ?_) | refine mo_hpL ?_ | refine mo_hpZ ?_ | refine mo_bd ?_ (fun _ => ?_) | refine mo_hCi (fun _ => ?_) (fun _ => ?_) | refine mo_hNw (fun _ => ?_) | refine mo_hNa (fun _ => ?_) | refine mo_hCp ?_ | refine mo_hOi ?_ | refine mo_hAl (fun _ => ?_) | refine mo_hWl ?_ | refine mo_gd ?_ | refine mo_sLn (fun _ => ?_) | refine mo_sAt (fun _ => ?_) | refine mo_kLn (fun _ => ?_) | refine mo_kAt (fun _ => ?_))
set_option maxRecDepth 10000 in
theorem sc_X11_receiver_J216 {g : Gm Hp (Option Nat)} (B : Bx g cX11_receiver 12 RX11 voR (some (.object "TopicBroker$Session")) 2 44 "receiver") {l0 : Nat} (l4 : Option Nat) : Sm g 12 216 [(4, va_rf l4)] [] (C_X11_receiver_J216 l0 l4) := by
  unfold C_X11_receiver_J216
  refine s_rload B.1.1 0 dX11_receiver_216 rfl ?_
  exact s_aret B.1.1 B.2.2.2.2 (Or.inl ⟨_, rfl⟩) dX11_receiver_218
def C_X11_receiver_J202 (l0 : Nat) (kb : Option Nat → Option Nat → Int32 → Int32 → Hp → Option ((Option Nat) × Hp)) (ke216 : Option Nat → Hp → Option ((Option Nat) × Hp)) (l2 : Option Nat) (l6 : Int32) (l7 : Option Nat) (l9 : Int32) : Hp → Option ((Option Nat) × Hp) :=
  kb l2 l7 l9 (l6 + 1)
set_option maxRecDepth 10000 in
theorem mo_C_X11_receiver_J202 (l0 : Nat) (kb : Option Nat → Option Nat → Int32 → Int32 → Hp → Option ((Option Nat) × Hp)) (ke216 : Option Nat → Hp → Option ((Option Nat) × Hp)) (hkb : ∀ (l2 : Option Nat) (l4 : Option Nat) (l5 : Int32) (l6 : Int32), Mo (kb l2 l4 l5 l6)) (hke216 : ∀ (l4 : Option Nat), Mo (ke216 l4)) (l2 : Option Nat) (l6 : Int32) (l7 : Option Nat) (l9 : Int32) : Mo (C_X11_receiver_J202 l0 kb ke216 l2 l6 l7 l9) := by
  unfold C_X11_receiver_J202
  repeat' (with_reducible first | assumption | exact mo_rt _ | exact mo_zt _ | exact mo_no | apply hkb | apply hke216 | refine mo_ite ?_ ?_ | refine mo_hgI (fun _ => ?_) | refine mo_hgR (fun _ => ?_) | refine mo_hCv (fun _ => ?_) (fun _ => ?_) | refine mo_lq (fun _ => ?_) | refine mo_hpI ?_ | refine mo_hpR ?_ | refine mo_hAi (fun _ => ?_) | refine mo_hAr (fun _ => ?_) | refine mo_hWi ?_ | refine mo_hWr ?_ | refine mo_hLn (fun _ => ?_) | refine mo_hgL (fun _ => ?_) | refine mo_hpL ?_ | refine mo_hpZ ?_ | refine mo_bd ?_ (fun _ => ?_) | refine mo_hCi (fun _ => ?_) (fun _ => ?_) | refine mo_hNw (fun _ => ?_) | refine mo_hNa (fun _ => ?_) | refine mo_hCp ?_ | refine mo_hOi ?_ | refine mo_hAl (fun _ => ?_) | refine mo_hWl ?_ | refine mo_gd ?_ | refine mo_sLn (fun _ => ?_) | refine mo_sAt (fun _ => ?_) | refine mo_kLn (fun _ => ?_) | refine mo_kAt (fun _ => ?_))
set_option maxRecDepth 10000 in
theorem sc_X11_receiver_J202 {g : Gm Hp (Option Nat)} {kb : Option Nat → Option Nat → Int32 → Int32 → Hp → Option ((Option Nat) × Hp)} {ke216 : Option Nat → Hp → Option ((Option Nat) × Hp)} (B : Bx g cX11_receiver 12 RX11 voR (some (.object "TopicBroker$Session")) 2 44 "receiver") {l0 : Nat} (hkb : ∀ (l2 : Option Nat) (l4 : Option Nat) (l5 : Int32) (l6 : Int32), Sm g 12 92 [(0, va_rf (some l0)), (2, va_rf l2), (4, va_rf l4), (5, .int l5), (6, .int l6)] [] (kb l2 l4 l5 l6)) (hke216 : ∀ (l4 : Option Nat), Sm g 12 216 [(4, va_rf l4)] [] (ke216 l4)) (l2 : Option Nat) (l6 : Int32) (l7 : Option Nat) (l9 : Int32) : Sm g 12 202 [(0, va_rf (some l0)), (2, va_rf l2), (6, .int l6), (7, va_rf l7), (9, .int l9)] [] (C_X11_receiver_J202 l0 kb ke216 l2 l6 l7 l9) := by
  unfold C_X11_receiver_J202
  refine s_rload B.1.1 3 dX11_receiver_202 rfl ?_
  refine s_rstore (i := 4) (lv' := [(4, va_rf l7), (0, va_rf (some l0)), (2, va_rf l2), (6, .int l6), (7, va_rf l7), (9, .int l9)]) B.1.1 dX11_receiver_204 (by decide) rfl ?_
  refine s_iload B.1.1 5 dX11_receiver_206 rfl ?_
  refine s_istore (i := 5) (lv' := [(5, .int l9), (4, va_rf l7), (0, va_rf (some l0)), (2, va_rf l2), (6, .int l6), (7, va_rf l7), (9, .int l9)]) B.1.1 dX11_receiver_208 (by decide) (by simp [va_rf_cat, cat_i, cat_l, cat_r]) ?_
  refine s_iinc (v := l6 + 1) (lv' := [(6, .int (l6 + 1)), (5, .int l9), (4, va_rf l7), (0, va_rf (some l0)), (2, va_rf l2), (7, va_rf l7), (9, .int l9)]) B.1.1 4 dX11_receiver_210 rfl rfl (by decide) rfl ?_
  refine s_goto B.1.1 92 dX11_receiver_213 (by decide) ?_
  exact Sm.lvs [3, 4, 2, 1, 0] rfl (hkb l2 l7 l9 (l6 + 1))
def C_X11_receiver_J178 (l0 : Nat) (kb : Option Nat → Option Nat → Int32 → Int32 → Hp → Option ((Option Nat) × Hp)) (ke216 : Option Nat → Hp → Option ((Option Nat) × Hp)) (l2 : Option Nat) (l4 : Option Nat) (l5 : Int32) (l6 : Int32) (l7 : Option Nat) (l9 : Int32) (l10 : Int32) (s0 : Int32) : Hp → Option ((Option Nat) × Hp) :=
  if l10 = s0 then (
    if l5 ≤ l9 then (
      kb l2 l4 l5 (l6 + 1)
    ) else (
      C_X11_receiver_J202 l0 kb ke216 l2 l6 l7 l9
    )
  ) else (
    if l10 = 0 then (
      kb l2 l4 l5 (l6 + 1)
    ) else (
      C_X11_receiver_J202 l0 kb ke216 l2 l6 l7 l9
    )
  )
set_option maxRecDepth 10000 in
theorem mo_C_X11_receiver_J178 (l0 : Nat) (kb : Option Nat → Option Nat → Int32 → Int32 → Hp → Option ((Option Nat) × Hp)) (ke216 : Option Nat → Hp → Option ((Option Nat) × Hp)) (hkb : ∀ (l2 : Option Nat) (l4 : Option Nat) (l5 : Int32) (l6 : Int32), Mo (kb l2 l4 l5 l6)) (hke216 : ∀ (l4 : Option Nat), Mo (ke216 l4)) (l2 : Option Nat) (l4 : Option Nat) (l5 : Int32) (l6 : Int32) (l7 : Option Nat) (l9 : Int32) (l10 : Int32) (s0 : Int32) : Mo (C_X11_receiver_J178 l0 kb ke216 l2 l4 l5 l6 l7 l9 l10 s0) := by
  unfold C_X11_receiver_J178
  repeat' (with_reducible first | assumption | exact mo_rt _ | exact mo_zt _ | exact mo_no | apply mo_C_X11_receiver_J202 | apply hkb | apply hke216 | refine mo_ite ?_ ?_ | refine mo_hgI (fun _ => ?_) | refine mo_hgR (fun _ => ?_) | refine mo_hCv (fun _ => ?_) (fun _ => ?_) | refine mo_lq (fun _ => ?_) | refine mo_hpI ?_ | refine mo_hpR ?_ | refine mo_hAi (fun _ => ?_) | refine mo_hAr (fun _ => ?_) | refine mo_hWi ?_ | refine mo_hWr ?_ | refine mo_hLn (fun _ => ?_) | refine mo_hgL (fun _ => ?_) | refine mo_hpL ?_ | refine mo_hpZ ?_ | refine mo_bd ?_ (fun _ => ?_) | refine mo_hCi (fun _ => ?_) (fun _ => ?_) | refine mo_hNw (fun _ => ?_) | refine mo_hNa (fun _ => ?_) | refine mo_hCp ?_ | refine mo_hOi ?_ | refine mo_hAl (fun _ => ?_) | refine mo_hWl ?_ | refine mo_gd ?_ | refine mo_sLn (fun _ => ?_) | refine mo_sAt (fun _ => ?_) | refine mo_kLn (fun _ => ?_) | refine mo_kAt (fun _ => ?_))
set_option maxRecDepth 10000 in
theorem sc_X11_receiver_J178 {g : Gm Hp (Option Nat)} {kb : Option Nat → Option Nat → Int32 → Int32 → Hp → Option ((Option Nat) × Hp)} {ke216 : Option Nat → Hp → Option ((Option Nat) × Hp)} (B : Bx g cX11_receiver 12 RX11 voR (some (.object "TopicBroker$Session")) 2 44 "receiver") {l0 : Nat} (hkb : ∀ (l2 : Option Nat) (l4 : Option Nat) (l5 : Int32) (l6 : Int32), Sm g 12 92 [(0, va_rf (some l0)), (2, va_rf l2), (4, va_rf l4), (5, .int l5), (6, .int l6)] [] (kb l2 l4 l5 l6)) (hke216 : ∀ (l4 : Option Nat), Sm g 12 216 [(4, va_rf l4)] [] (ke216 l4)) (l2 : Option Nat) (l4 : Option Nat) (l5 : Int32) (l6 : Int32) (l7 : Option Nat) (l9 : Int32) (l10 : Int32) (s0 : Int32) : Sm g 12 178 [(0, va_rf (some l0)), (2, va_rf l2), (4, va_rf l4), (5, .int l5), (6, .int l6), (7, va_rf l7), (9, .int l9), (10, .int l10)] [.int s0] (C_X11_receiver_J178 l0 kb ke216 l2 l4 l5 l6 l7 l9 l10 s0) := by
  unfold C_X11_receiver_J178
  refine s_istore (i := 11) (lv' := [(11, .int s0), (0, va_rf (some l0)), (2, va_rf l2), (4, va_rf l4), (5, .int l5), (6, .int l6), (7, va_rf l7), (9, .int l9), (10, .int l10)]) B.1.1 dX11_receiver_178 (by decide) rfl ?_
  refine s_iload B.1.1 8 dX11_receiver_180 rfl ?_
  refine s_iload B.1.1 0 dX11_receiver_182 rfl ?_
  refine s_icmp_ne B.1.1 197 dX11_receiver_184 (by decide) ?_ ?_
  · refine s_iload B.1.1 8 dX11_receiver_197 rfl ?_
    refine s_if_eq B.1.1 210 dX11_receiver_199 (by decide) ?_ ?_
    · refine s_iinc (v := l6 + 1) (lv' := [(6, .int (l6 + 1)), (11, .int s0), (0, va_rf (some l0)), (2, va_rf l2), (4, va_rf l4), (5, .int l5), (7, va_rf l7), (9, .int l9), (10, .int l10)]) B.1.1 5 dX11_receiver_210 rfl rfl (by decide) rfl ?_
      refine s_goto B.1.1 92 dX11_receiver_213 (by decide) ?_
      exact Sm.lvs [2, 3, 4, 5, 0] rfl (hkb l2 l4 l5 (l6 + 1))
    · exact Sm.lvs [1, 2, 5, 6, 7] rfl (sc_X11_receiver_J202 B hkb hke216 l2 l6 l7 l9)
  · refine s_iload B.1.1 7 dX11_receiver_187 rfl ?_
    refine s_iload B.1.1 4 dX11_receiver_189 rfl ?_
    refine s_icmp_ge B.1.1 210 dX11_receiver_191 (by decide) ?_ ?_
    · refine s_iinc (v := l6 + 1) (lv' := [(6, .int (l6 + 1)), (11, .int s0), (0, va_rf (some l0)), (2, va_rf l2), (4, va_rf l4), (5, .int l5), (7, va_rf l7), (9, .int l9), (10, .int l10)]) B.1.1 5 dX11_receiver_210 rfl rfl (by decide) rfl ?_
      refine s_goto B.1.1 92 dX11_receiver_213 (by decide) ?_
      exact Sm.lvs [2, 3, 4, 5, 0] rfl (hkb l2 l4 l5 (l6 + 1))
    · refine s_goto B.1.1 202 dX11_receiver_194 (by decide) ?_
      exact Sm.lvs [1, 2, 5, 6, 7] rfl (sc_X11_receiver_J202 B hkb hke216 l2 l6 l7 l9)
def C_X11_receiver_J163 (l0 : Nat) (kb : Option Nat → Option Nat → Int32 → Int32 → Hp → Option ((Option Nat) × Hp)) (ke216 : Option Nat → Hp → Option ((Option Nat) × Hp)) (l2 : Option Nat) (l4 : Option Nat) (l5 : Int32) (l6 : Int32) (l7 : Option Nat) (l9 : Int32) (s0 : Int32) : Hp → Option ((Option Nat) × Hp) :=
  hgR 10 2 l4 fun v1 =>
  if v1 = none then (
    C_X11_receiver_J178 l0 kb ke216 l2 l4 l5 l6 l7 l9 s0 (0 : Int32)
  ) else (
    C_X11_receiver_J178 l0 kb ke216 l2 l4 l5 l6 l7 l9 s0 (1 : Int32)
  )
set_option maxRecDepth 10000 in
theorem mo_C_X11_receiver_J163 (l0 : Nat) (kb : Option Nat → Option Nat → Int32 → Int32 → Hp → Option ((Option Nat) × Hp)) (ke216 : Option Nat → Hp → Option ((Option Nat) × Hp)) (hkb : ∀ (l2 : Option Nat) (l4 : Option Nat) (l5 : Int32) (l6 : Int32), Mo (kb l2 l4 l5 l6)) (hke216 : ∀ (l4 : Option Nat), Mo (ke216 l4)) (l2 : Option Nat) (l4 : Option Nat) (l5 : Int32) (l6 : Int32) (l7 : Option Nat) (l9 : Int32) (s0 : Int32) : Mo (C_X11_receiver_J163 l0 kb ke216 l2 l4 l5 l6 l7 l9 s0) := by
  unfold C_X11_receiver_J163
  repeat' (with_reducible first | assumption | exact mo_rt _ | exact mo_zt _ | exact mo_no | apply mo_C_X11_receiver_J178 | apply hkb | apply hke216 | refine mo_ite ?_ ?_ | refine mo_hgI (fun _ => ?_) | refine mo_hgR (fun _ => ?_) | refine mo_hCv (fun _ => ?_) (fun _ => ?_) | refine mo_lq (fun _ => ?_) | refine mo_hpI ?_ | refine mo_hpR ?_ | refine mo_hAi (fun _ => ?_) | refine mo_hAr (fun _ => ?_) | refine mo_hWi ?_ | refine mo_hWr ?_ | refine mo_hLn (fun _ => ?_) | refine mo_hgL (fun _ => ?_) | refine mo_hpL ?_ | refine mo_hpZ ?_ | refine mo_bd ?_ (fun _ => ?_) | refine mo_hCi (fun _ => ?_) (fun _ => ?_) | refine mo_hNw (fun _ => ?_) | refine mo_hNa (fun _ => ?_) | refine mo_hCp ?_ | refine mo_hOi ?_ | refine mo_hAl (fun _ => ?_) | refine mo_hWl ?_ | refine mo_gd ?_ | refine mo_sLn (fun _ => ?_) | refine mo_sAt (fun _ => ?_) | refine mo_kLn (fun _ => ?_) | refine mo_kAt (fun _ => ?_))
set_option maxRecDepth 10000 in
theorem sc_X11_receiver_J163 {g : Gm Hp (Option Nat)} {kb : Option Nat → Option Nat → Int32 → Int32 → Hp → Option ((Option Nat) × Hp)} {ke216 : Option Nat → Hp → Option ((Option Nat) × Hp)} (B : Bx g cX11_receiver 12 RX11 voR (some (.object "TopicBroker$Session")) 2 44 "receiver") {l0 : Nat} (hkb : ∀ (l2 : Option Nat) (l4 : Option Nat) (l5 : Int32) (l6 : Int32), Sm g 12 92 [(0, va_rf (some l0)), (2, va_rf l2), (4, va_rf l4), (5, .int l5), (6, .int l6)] [] (kb l2 l4 l5 l6)) (hke216 : ∀ (l4 : Option Nat), Sm g 12 216 [(4, va_rf l4)] [] (ke216 l4)) (l2 : Option Nat) (l4 : Option Nat) (l5 : Int32) (l6 : Int32) (l7 : Option Nat) (l9 : Int32) (s0 : Int32) : Sm g 12 163 [(0, va_rf (some l0)), (2, va_rf l2), (4, va_rf l4), (5, .int l5), (6, .int l6), (7, va_rf l7), (9, .int l9)] [.int s0] (C_X11_receiver_J163 l0 kb ke216 l2 l4 l5 l6 l7 l9 s0) := by
  unfold C_X11_receiver_J163
  refine s_istore (i := 10) (lv' := [(10, .int s0), (0, va_rf (some l0)), (2, va_rf l2), (4, va_rf l4), (5, .int l5), (6, .int l6), (7, va_rf l7), (9, .int l9)]) B.1.1 dX11_receiver_163 (by decide) rfl ?_
  refine s_rload B.1.1 3 dX11_receiver_165 rfl ?_
  refine hp_getR B.1 10 2 rfl (by decide) inX8 (by decide) fk_X8_2 cf_X11_151 dX11_receiver_167 (fun v1 => ?_)
  refine s_ifnull B.1.1 177 dX11_receiver_170 (by decide) ?_ ?_
  · refine s_iconst (v := 0) B.1.1 dX11_receiver_177 (by decide) ?_
    exact Sm.lvs [1, 2, 3, 4, 5, 6, 7, 0] rfl (sc_X11_receiver_J178 B hkb hke216 l2 l4 l5 l6 l7 l9 s0 (0 : Int32))
  · refine s_iconst (v := 1) B.1.1 dX11_receiver_173 (by decide) ?_
    refine s_goto B.1.1 178 dX11_receiver_174 (by decide) ?_
    exact Sm.lvs [1, 2, 3, 4, 5, 6, 7, 0] rfl (sc_X11_receiver_J178 B hkb hke216 l2 l4 l5 l6 l7 l9 s0 (1 : Int32))
def C_X11_receiver_J126 (l0 : Nat) (kb : Option Nat → Option Nat → Int32 → Int32 → Hp → Option ((Option Nat) × Hp)) (ke216 : Option Nat → Hp → Option ((Option Nat) × Hp)) (l2 : Option Nat) (l4 : Option Nat) (l5 : Int32) (l6 : Int32) (l7 : Option Nat) (s0 : Int32) : Hp → Option ((Option Nat) × Hp) :=
  if s0 = (-1 : Int32) then (
    kb l2 l4 l5 (l6 + 1)
  ) else (
    hgR 10 3 l7 fun v2 =>
    hAr 6 v2 s0 fun v3 =>
    hgI 11 5 v3 fun v4 =>
    hgR 10 2 l7 fun v5 =>
    if v5 = none then (
      C_X11_receiver_J163 l0 kb ke216 l2 l4 l5 l6 l7 v4 (0 : Int32)
    ) else (
      C_X11_receiver_J163 l0 kb ke216 l2 l4 l5 l6 l7 v4 (1 : Int32)
    )
  )
set_option maxRecDepth 10000 in
theorem mo_C_X11_receiver_J126 (l0 : Nat) (kb : Option Nat → Option Nat → Int32 → Int32 → Hp → Option ((Option Nat) × Hp)) (ke216 : Option Nat → Hp → Option ((Option Nat) × Hp)) (hkb : ∀ (l2 : Option Nat) (l4 : Option Nat) (l5 : Int32) (l6 : Int32), Mo (kb l2 l4 l5 l6)) (hke216 : ∀ (l4 : Option Nat), Mo (ke216 l4)) (l2 : Option Nat) (l4 : Option Nat) (l5 : Int32) (l6 : Int32) (l7 : Option Nat) (s0 : Int32) : Mo (C_X11_receiver_J126 l0 kb ke216 l2 l4 l5 l6 l7 s0) := by
  unfold C_X11_receiver_J126
  repeat' (with_reducible first | assumption | exact mo_rt _ | exact mo_zt _ | exact mo_no | apply mo_C_X11_receiver_J163 | apply hkb | apply hke216 | refine mo_ite ?_ ?_ | refine mo_hgI (fun _ => ?_) | refine mo_hgR (fun _ => ?_) | refine mo_hCv (fun _ => ?_) (fun _ => ?_) | refine mo_lq (fun _ => ?_) | refine mo_hpI ?_ | refine mo_hpR ?_ | refine mo_hAi (fun _ => ?_) | refine mo_hAr (fun _ => ?_) | refine mo_hWi ?_ | refine mo_hWr ?_ | refine mo_hLn (fun _ => ?_) | refine mo_hgL (fun _ => ?_) | refine mo_hpL ?_ | refine mo_hpZ ?_ | refine mo_bd ?_ (fun _ => ?_) | refine mo_hCi (fun _ => ?_) (fun _ => ?_) | refine mo_hNw (fun _ => ?_) | refine mo_hNa (fun _ => ?_) | refine mo_hCp ?_ | refine mo_hOi ?_ | refine mo_hAl (fun _ => ?_) | refine mo_hWl ?_ | refine mo_gd ?_ | refine mo_sLn (fun _ => ?_) | refine mo_sAt (fun _ => ?_) | refine mo_kLn (fun _ => ?_) | refine mo_kAt (fun _ => ?_))
set_option maxRecDepth 10000 in
theorem sc_X11_receiver_J126 {g : Gm Hp (Option Nat)} {kb : Option Nat → Option Nat → Int32 → Int32 → Hp → Option ((Option Nat) × Hp)} {ke216 : Option Nat → Hp → Option ((Option Nat) × Hp)} (B : Bx g cX11_receiver 12 RX11 voR (some (.object "TopicBroker$Session")) 2 44 "receiver") {l0 : Nat} (hkb : ∀ (l2 : Option Nat) (l4 : Option Nat) (l5 : Int32) (l6 : Int32), Sm g 12 92 [(0, va_rf (some l0)), (2, va_rf l2), (4, va_rf l4), (5, .int l5), (6, .int l6)] [] (kb l2 l4 l5 l6)) (hke216 : ∀ (l4 : Option Nat), Sm g 12 216 [(4, va_rf l4)] [] (ke216 l4)) (l2 : Option Nat) (l4 : Option Nat) (l5 : Int32) (l6 : Int32) (l7 : Option Nat) (s0 : Int32) : Sm g 12 126 [(0, va_rf (some l0)), (2, va_rf l2), (4, va_rf l4), (5, .int l5), (6, .int l6), (7, va_rf l7)] [.int s0] (C_X11_receiver_J126 l0 kb ke216 l2 l4 l5 l6 l7 s0) := by
  unfold C_X11_receiver_J126
  refine s_istore (i := 8) (lv' := [(8, .int s0), (0, va_rf (some l0)), (2, va_rf l2), (4, va_rf l4), (5, .int l5), (6, .int l6), (7, va_rf l7)]) B.1.1 dX11_receiver_126 (by decide) (by simp [va_rf_cat, cat_i, cat_l, cat_r]) ?_
  refine s_iload B.1.1 0 dX11_receiver_128 rfl ?_
  refine s_iconst (v := (-1)) B.1.1 dX11_receiver_130 (by decide) ?_
  refine s_icmp_ne B.1.1 137 dX11_receiver_131 (by decide) ?_ ?_
  · refine s_rload B.1.1 6 dX11_receiver_137 rfl ?_
    refine hp_getR B.1 10 3 rfl (by decide) inX8 (by decide) fk_X8_3 cf_X11_261 dX11_receiver_139 (fun v2 => ?_)
    refine s_iload B.1.1 0 dX11_receiver_142 rfl ?_
    refine hp_Ar B.1 6 (by decide) (fun _ => rfl) dX11_receiver_144 (fun v3 => ?_)
    refine hp_getI B.1 11 5 rfl (by decide) inX9 (by decide) fk_X9_5.1 fk_X9_5.2 cf_X11_524 dX11_receiver_145 (fun v4 => ?_)
    refine s_istore (i := 9) (lv' := [(9, .int v4), (8, .int s0), (0, va_rf (some l0)), (2, va_rf l2), (4, va_rf l4), (5, .int l5), (6, .int l6), (7, va_rf l7)]) B.1.1 dX11_receiver_148 (by decide) rfl ?_
    refine s_rload B.1.1 7 dX11_receiver_150 rfl ?_
    refine hp_getR B.1 10 2 rfl (by decide) inX8 (by decide) fk_X8_2 cf_X11_151 dX11_receiver_152 (fun v5 => ?_)
    refine s_ifnull B.1.1 162 dX11_receiver_155 (by decide) ?_ ?_
    · refine s_iconst (v := 0) B.1.1 dX11_receiver_162 (by decide) ?_
      exact Sm.lvs [2, 3, 4, 5, 6, 7, 0] rfl (sc_X11_receiver_J163 B hkb hke216 l2 l4 l5 l6 l7 v4 (0 : Int32))
    · refine s_iconst (v := 1) B.1.1 dX11_receiver_158 (by decide) ?_
      refine s_goto B.1.1 163 dX11_receiver_159 (by decide) ?_
      exact Sm.lvs [2, 3, 4, 5, 6, 7, 0] rfl (sc_X11_receiver_J163 B hkb hke216 l2 l4 l5 l6 l7 v4 (1 : Int32))
  · refine s_goto B.1.1 210 dX11_receiver_134 (by decide) ?_
    refine s_iinc (v := l6 + 1) (lv' := [(6, .int (l6 + 1)), (8, .int s0), (0, va_rf (some l0)), (2, va_rf l2), (4, va_rf l4), (5, .int l5), (7, va_rf l7)]) B.1.1 5 dX11_receiver_210 rfl rfl (by decide) rfl ?_
    refine s_goto B.1.1 92 dX11_receiver_213 (by decide) ?_
    exact Sm.lvs [2, 3, 4, 5, 0] rfl (hkb l2 l4 l5 (l6 + 1))
def C_X11_receiver_B92 (l0 : Nat) (kb : Option Nat → Option Nat → Int32 → Int32 → Hp → Option ((Option Nat) × Hp)) (ke216 : Option Nat → Hp → Option ((Option Nat) × Hp)) (l2 : Option Nat) (l4 : Option Nat) (l5 : Int32) (l6 : Int32) : Hp → Option ((Option Nat) × Hp) :=
  if (12 : Int32) ≤ l6 then (
    ke216 l4
  ) else (
    hgR 13 1 (some l0) fun v6 =>
    hAr 5 v6 l6 fun v7 =>
    if v7 = none then (
      C_X11_receiver_J126 l0 kb ke216 l2 l4 l5 l6 v7 (-1 : Int32)
    ) else (
      hgR 11 0 l2 fun v8 =>
      hCv 10 v7 (fun a => C_X8_indexOf a v8) fun r9 =>
      C_X11_receiver_J126 l0 kb ke216 l2 l4 l5 l6 v7 r9
    )
  )
def C_X11_receiver_L92 (l0 : Nat) (ke216 : Option Nat → Hp → Option ((Option Nat) × Hp)) : Nat → Option Nat → Option Nat → Int32 → Int32 → Hp → Option ((Option Nat) × Hp)
  | 0, _, _, _, _ => no
  | n + 1, l2, l4, l5, l6 => C_X11_receiver_B92 l0 (fun l2 l4 l5 l6 => C_X11_receiver_L92 l0 ke216 n l2 l4 l5 l6) ke216 l2 l4 l5 l6
set_option maxRecDepth 10000 in
theorem mo_C_X11_receiver_B92 (l0 : Nat) (kb : Option Nat → Option Nat → Int32 → Int32 → Hp → Option ((Option Nat) × Hp)) (ke216 : Option Nat → Hp → Option ((Option Nat) × Hp)) (hkb : ∀ (l2 : Option Nat) (l4 : Option Nat) (l5 : Int32) (l6 : Int32), Mo (kb l2 l4 l5 l6)) (hke216 : ∀ (l4 : Option Nat), Mo (ke216 l4)) (l2 : Option Nat) (l4 : Option Nat) (l5 : Int32) (l6 : Int32) : Mo (C_X11_receiver_B92 l0 kb ke216 l2 l4 l5 l6) := by
  unfold C_X11_receiver_B92
  repeat' (with_reducible first | assumption | exact mo_rt _ | exact mo_zt _ | exact mo_no | apply mo_C_X11_receiver_J126 | apply mo_C_X8_indexOf | apply hkb | apply hke216 | refine mo_ite ?_ ?_ | refine mo_hgI (fun _ => ?_) | refine mo_hgR (fun _ => ?_) | refine mo_hCv (fun _ => ?_) (fun _ => ?_) | refine mo_lq (fun _ => ?_) | refine mo_hpI ?_ | refine mo_hpR ?_ | refine mo_hAi (fun _ => ?_) | refine mo_hAr (fun _ => ?_) | refine mo_hWi ?_ | refine mo_hWr ?_ | refine mo_hLn (fun _ => ?_) | refine mo_hgL (fun _ => ?_) | refine mo_hpL ?_ | refine mo_hpZ ?_ | refine mo_bd ?_ (fun _ => ?_) | refine mo_hCi (fun _ => ?_) (fun _ => ?_) | refine mo_hNw (fun _ => ?_) | refine mo_hNa (fun _ => ?_) | refine mo_hCp ?_ | refine mo_hOi ?_ | refine mo_hAl (fun _ => ?_) | refine mo_hWl ?_ | refine mo_gd ?_ | refine mo_sLn (fun _ => ?_) | refine mo_sAt (fun _ => ?_) | refine mo_kLn (fun _ => ?_) | refine mo_kAt (fun _ => ?_))
set_option maxRecDepth 10000 in
theorem mo_C_X11_receiver_L92 (l0 : Nat) (ke216 : Option Nat → Hp → Option ((Option Nat) × Hp)) (hke216 : ∀ (l4 : Option Nat), Mo (ke216 l4)) : ∀ (n : Nat) (l2 : Option Nat) (l4 : Option Nat) (l5 : Int32) (l6 : Int32), Mo (C_X11_receiver_L92 l0 ke216 n l2 l4 l5 l6)
  | 0, _, _, _, _ => mo_no
  | n + 1, l2, l4, l5, l6 => mo_C_X11_receiver_B92 l0 _ ke216 (mo_C_X11_receiver_L92 l0 ke216 hke216 n) hke216 l2 l4 l5 l6
set_option maxRecDepth 10000 in
theorem sc_X11_receiver_B92 {g : Gm Hp (Option Nat)} {kb : Option Nat → Option Nat → Int32 → Int32 → Hp → Option ((Option Nat) × Hp)} {ke216 : Option Nat → Hp → Option ((Option Nat) × Hp)} (B : Bx g cX11_receiver 12 RX11 voR (some (.object "TopicBroker$Session")) 2 44 "receiver") {l0 : Nat} (hkb : ∀ (l2 : Option Nat) (l4 : Option Nat) (l5 : Int32) (l6 : Int32), Sm g 12 92 [(0, va_rf (some l0)), (2, va_rf l2), (4, va_rf l4), (5, .int l5), (6, .int l6)] [] (kb l2 l4 l5 l6)) (hke216 : ∀ (l4 : Option Nat), Sm g 12 216 [(4, va_rf l4)] [] (ke216 l4)) (l2 : Option Nat) (l4 : Option Nat) (l5 : Int32) (l6 : Int32) : Sm g 12 92 [(0, va_rf (some l0)), (2, va_rf l2), (4, va_rf l4), (5, .int l5), (6, .int l6)] [] (C_X11_receiver_B92 l0 kb ke216 l2 l4 l5 l6) := by
  unfold C_X11_receiver_B92
  refine s_iload B.1.1 4 dX11_receiver_92 rfl ?_
  refine s_bipush (v := (12)) B.1.1 dX11_receiver_94 (by decide) ?_
  refine s_icmp_ge B.1.1 216 dX11_receiver_96 (by decide) ?_ ?_
  · exact Sm.lvs [2] rfl (hke216 l4)
  · refine s_rload_n B.1.1 0 dX11_receiver_99 rfl rfl ?_
    refine hp_getR B.1 13 1 rfl (by decide) inX11 (by decide) fk_X11_1 cf_X11_20 dX11_receiver_100 (fun v6 => ?_)
    refine s_iload B.1.1 4 dX11_receiver_103 rfl ?_
    refine hp_Ar B.1 5 (by decide) (fun _ => rfl) dX11_receiver_105 (fun v7 => ?_)
    refine s_rstore (i := 7) (lv' := [(7, va_rf v7), (0, va_rf (some l0)), (2, va_rf l2), (4, va_rf l4), (5, .int l5), (6, .int l6)]) B.1.1 dX11_receiver_106 (by decide) rfl ?_
    refine s_rload B.1.1 0 dX11_receiver_108 rfl ?_
    refine s_ifnonnull B.1.1 117 dX11_receiver_110 (by decide) ?_ ?_
    · refine s_rload B.1.1 0 dX11_receiver_117 rfl ?_
      refine s_rload_n B.1.1 2 dX11_receiver_119 rfl rfl ?_
      refine hp_getR B.1 11 0 rfl (by decide) inX9 (by decide) fk_X9_0 cf_X11_209 dX11_receiver_120 (fun v8 => ?_)
      refine hp_cvi (As := [va_rf v8]) (st := []) 10 rfl (by decide) B.1 (fun a => mC_X8_indexOf B.2.1 a v8) cc_X8_indexOf cl_X11_512 cn_X8_indexOf ce_X8_indexOf ci_X8 cd_X8_indexOf (by decide) rfl (Nat.le_of_ble_eq_true rfl) dX11_receiver_123 (fun r9 => ?_)
      exact Sm.lvs [1, 2, 3, 4, 5, 0] rfl (sc_X11_receiver_J126 B hkb hke216 l2 l4 l5 l6 v7 r9)
    · refine s_iconst (v := (-1)) B.1.1 dX11_receiver_113 (by decide) ?_
      refine s_goto B.1.1 126 dX11_receiver_114 (by decide) ?_
      exact Sm.lvs [1, 2, 3, 4, 5, 0] rfl (sc_X11_receiver_J126 B hkb hke216 l2 l4 l5 l6 v7 (-1 : Int32))
set_option maxRecDepth 10000 in
theorem sc_X11_receiver_L92 {g : Gm Hp (Option Nat)} {ke216 : Option Nat → Hp → Option ((Option Nat) × Hp)} (B : Bx g cX11_receiver 12 RX11 voR (some (.object "TopicBroker$Session")) 2 44 "receiver") {l0 : Nat} (hke216 : ∀ (l4 : Option Nat), Sm g 12 216 [(4, va_rf l4)] [] (ke216 l4)) : ∀ (n : Nat) (l2 : Option Nat) (l4 : Option Nat) (l5 : Int32) (l6 : Int32), Sm g 12 92 [(0, va_rf (some l0)), (2, va_rf l2), (4, va_rf l4), (5, .int l5), (6, .int l6)] [] (C_X11_receiver_L92 l0 ke216 n l2 l4 l5 l6)
  | 0, _, _, _, _ => Sm.fail
  | n + 1, l2, l4, l5, l6 => sc_X11_receiver_B92 B (sc_X11_receiver_L92 B hke216 n) hke216 l2 l4 l5 l6
def C_X11_receiver_J75 (l0 : Nat) (l1 : Option Nat) (l2 : Option Nat) : Hp → Option ((Option Nat) × Hp) :=
  hgI 11 5 l2 fun v10 =>
  hgI 10 0 l1 fun v11 =>
  lq (v11 + (1 : Int32)) fun x12 =>
  C_X11_receiver_L92 l0 (fun l4 => C_X11_receiver_J216 l0 l4) fu l2 l1 v10 x12
set_option maxRecDepth 10000 in
theorem mo_C_X11_receiver_J75 (l0 : Nat) (l1 : Option Nat) (l2 : Option Nat) : Mo (C_X11_receiver_J75 l0 l1 l2) := by
  unfold C_X11_receiver_J75
  repeat' (with_reducible first | assumption | exact mo_rt _ | exact mo_zt _ | exact mo_no | apply mo_C_X11_receiver_L92 | apply mo_C_X11_receiver_J216 | refine mo_ite ?_ ?_ | refine mo_hgI (fun _ => ?_) | refine mo_hgR (fun _ => ?_) | refine mo_hCv (fun _ => ?_) (fun _ => ?_) | refine mo_lq (fun _ => ?_) | refine mo_hpI ?_ | refine mo_hpR ?_ | refine mo_hAi (fun _ => ?_) | refine mo_hAr (fun _ => ?_) | refine mo_hWi ?_ | refine mo_hWr ?_ | refine mo_hLn (fun _ => ?_) | refine mo_hgL (fun _ => ?_) | refine mo_hpL ?_ | refine mo_hpZ ?_ | refine mo_bd ?_ (fun _ => ?_) | refine mo_hCi (fun _ => ?_) (fun _ => ?_) | refine mo_hNw (fun _ => ?_) | refine mo_hNa (fun _ => ?_) | refine mo_hCp ?_ | refine mo_hOi ?_ | refine mo_hAl (fun _ => ?_) | refine mo_hWl ?_ | refine mo_gd ?_ | refine mo_sLn (fun _ => ?_) | refine mo_sAt (fun _ => ?_) | refine mo_kLn (fun _ => ?_) | refine mo_kAt (fun _ => ?_))
set_option maxRecDepth 10000 in
theorem sc_X11_receiver_J75 {g : Gm Hp (Option Nat)} (B : Bx g cX11_receiver 12 RX11 voR (some (.object "TopicBroker$Session")) 2 44 "receiver") {l0 : Nat} (l1 : Option Nat) (l2 : Option Nat) : Sm g 12 75 [(0, va_rf (some l0)), (1, va_rf l1), (2, va_rf l2)] [] (C_X11_receiver_J75 l0 l1 l2) := by
  unfold C_X11_receiver_J75
  refine s_rload_n B.1.1 1 dX11_receiver_75 rfl rfl ?_
  refine s_rstore (i := 4) (lv' := [(4, va_rf l1), (0, va_rf (some l0)), (1, va_rf l1), (2, va_rf l2)]) B.1.1 dX11_receiver_76 (by decide) rfl ?_
  refine s_rload_n B.1.1 3 dX11_receiver_78 rfl rfl ?_
  refine hp_getI B.1 11 5 rfl (by decide) inX9 (by decide) fk_X9_5.1 fk_X9_5.2 cf_X11_524 dX11_receiver_79 (fun v10 => ?_)
  refine s_istore (i := 5) (lv' := [(5, .int v10), (4, va_rf l1), (0, va_rf (some l0)), (1, va_rf l1), (2, va_rf l2)]) B.1.1 dX11_receiver_82 (by decide) (by simp [va_rf_cat, cat_i, cat_l, cat_r]) ?_
  refine s_rload_n B.1.1 3 dX11_receiver_84 rfl rfl ?_
  refine hp_getI B.1 10 0 rfl (by decide) inX8 (by decide) fk_X8_0.1 fk_X8_0.2 cf_X11_523 dX11_receiver_85 (fun v11 => ?_)
  refine s_iconst (v := 1) B.1.1 dX11_receiver_88 (by decide) ?_
  refine s_iadd B.1.1 dX11_receiver_89 ?_
  refine s_lqi (fun x12 => ?_)
  refine s_istore (i := 6) (lv' := [(6, .int x12), (5, .int v10), (4, va_rf l1), (0, va_rf (some l0)), (1, va_rf l1), (2, va_rf l2)]) B.1.1 dX11_receiver_90 (by decide) rfl ?_
  exact Sm.lvs [3, 5, 2, 1, 0] rfl (sc_X11_receiver_L92 B (fun l4 => sc_X11_receiver_J216 B l4) fu l2 l1 v10 x12)
def C_X11_receiver_J67 (l0 : Nat) : Hp → Option ((Option Nat) × Hp) :=
  rt (none)
set_option maxRecDepth 10000 in
theorem mo_C_X11_receiver_J67 (l0 : Nat) : Mo (C_X11_receiver_J67 l0) := by
  unfold C_X11_receiver_J67
  repeat' (with_reducible first | assumption | exact mo_rt _ | exact mo_zt _ | exact mo_no | refine mo_ite ?_ ?_ | refine mo_hgI (fun _ => ?_) | refine mo_hgR (fun _ => ?_) | refine mo_hCv (fun _ => ?_) (fun _ => ?_) | refine mo_lq (fun _ => ?_) | refine mo_hpI ?_ | refine mo_hpR ?_ | refine mo_hAi (fun _ => ?_) | refine mo_hAr (fun _ => ?_) | refine mo_hWi ?_ | refine mo_hWr ?_ | refine mo_hLn (fun _ => ?_) | refine mo_hgL (fun _ => ?_) | refine mo_hpL ?_ | refine mo_hpZ ?_ | refine mo_bd ?_ (fun _ => ?_) | refine mo_hCi (fun _ => ?_) (fun _ => ?_) | refine mo_hNw (fun _ => ?_) | refine mo_hNa (fun _ => ?_) | refine mo_hCp ?_ | refine mo_hOi ?_ | refine mo_hAl (fun _ => ?_) | refine mo_hWl ?_ | refine mo_gd ?_ | refine mo_sLn (fun _ => ?_) | refine mo_sAt (fun _ => ?_) | refine mo_kLn (fun _ => ?_) | refine mo_kAt (fun _ => ?_))
set_option maxRecDepth 10000 in
theorem sc_X11_receiver_J67 {g : Gm Hp (Option Nat)} (B : Bx g cX11_receiver 12 RX11 voR (some (.object "TopicBroker$Session")) 2 44 "receiver") {l0 : Nat} : Sm g 12 67 [] [] (C_X11_receiver_J67 l0) := by
  unfold C_X11_receiver_J67
  refine s_null B.1.1 dX11_receiver_67 ?_
  exact s_aret B.1.1 B.2.2.2.2 (Or.inl ⟨_, rfl⟩) dX11_receiver_68
def C_X11_receiver_B30 (l0 : Nat) (kb : Option Nat → Option Nat → Int32 → Hp → Option ((Option Nat) × Hp)) (ke67 : Hp → Option ((Option Nat) × Hp)) (ke75 : Option Nat → Option Nat → Hp → Option ((Option Nat) × Hp)) (l1 : Option Nat) (l2 : Option Nat) (l4 : Int32) : Hp → Option ((Option Nat) × Hp) :=
  hgI 10 0 l1 fun v13 =>
  if v13 ≤ l4 then (
    ke75 l1 l2
  ) else (
    hgR 13 1 (some l0) fun v14 =>
    hAr 5 v14 l4 fun v15 =>
    if v15 = none then (
      kb l1 l2 (l4 + 1)
    ) else (
      hgR 13 1 (some l0) fun v16 =>
      hAr 5 v16 l4 fun v17 =>
      hgR 11 0 l2 fun v18 =>
      hCv 10 v17 (fun a => C_X8_indexOf a v18) fun r19 =>
      if r19 = (-1 : Int32) then (
        kb l1 l2 (l4 + 1)
      ) else (
        ke67
      )
    )
  )
def C_X11_receiver_L30 (l0 : Nat) (ke67 : Hp → Option ((Option Nat) × Hp)) (ke75 : Option Nat → Option Nat → Hp → Option ((Option Nat) × Hp)) : Nat → Option Nat → Option Nat → Int32 → Hp → Option ((Option Nat) × Hp)
  | 0, _, _, _ => no
  | n + 1, l1, l2, l4 => C_X11_receiver_B30 l0 (fun l1 l2 l4 => C_X11_receiver_L30 l0 ke67 ke75 n l1 l2 l4) ke67 ke75 l1 l2 l4
set_option maxRecDepth 10000 in
theorem mo_C_X11_receiver_B30 (l0 : Nat) (kb : Option Nat → Option Nat → Int32 → Hp → Option ((Option Nat) × Hp)) (ke67 : Hp → Option ((Option Nat) × Hp)) (ke75 : Option Nat → Option Nat → Hp → Option ((Option Nat) × Hp)) (hkb : ∀ (l1 : Option Nat) (l2 : Option Nat) (l4 : Int32), Mo (kb l1 l2 l4)) (hke67 : Mo (ke67)) (hke75 : ∀ (l1 : Option Nat) (l2 : Option Nat), Mo (ke75 l1 l2)) (l1 : Option Nat) (l2 : Option Nat) (l4 : Int32) : Mo (C_X11_receiver_B30 l0 kb ke67 ke75 l1 l2 l4) := by
  unfold C_X11_receiver_B30
  repeat' (with_reducible first | assumption | exact mo_rt _ | exact mo_zt _ | exact mo_no | apply mo_C_X8_indexOf | apply hkb | apply hke67 | apply hke75 | refine mo_ite ?_ ?_ | refine mo_hgI (fun _ => ?_) | refine mo_hgR (fun _ => ?_) | refine mo_hCv (fun _ => ?_) (fun _ => ?_) | refine mo_lq (fun _ => ?_) | refine mo_hpI ?_ | refine mo_hpR ?_ | refine mo_hAi (fun _ => ?_) | refine mo_hAr (fun _ => ?_) | refine mo_hWi ?_ | refine mo_hWr ?_ | refine mo_hLn (fun _ => ?_) | refine mo_hgL (fun _ => ?_) | refine mo_hpL ?_ | refine mo_hpZ ?_ | refine mo_bd ?_ (fun _ => ?_) | refine mo_hCi (fun _ => ?_) (fun _ => ?_) | refine mo_hNw (fun _ => ?_) | refine mo_hNa (fun _ => ?_) | refine mo_hCp ?_ | refine mo_hOi ?_ | refine mo_hAl (fun _ => ?_) | refine mo_hWl ?_ | refine mo_gd ?_ | refine mo_sLn (fun _ => ?_) | refine mo_sAt (fun _ => ?_) | refine mo_kLn (fun _ => ?_) | refine mo_kAt (fun _ => ?_))
set_option maxRecDepth 10000 in
theorem mo_C_X11_receiver_L30 (l0 : Nat) (ke67 : Hp → Option ((Option Nat) × Hp)) (ke75 : Option Nat → Option Nat → Hp → Option ((Option Nat) × Hp)) (hke67 : Mo (ke67)) (hke75 : ∀ (l1 : Option Nat) (l2 : Option Nat), Mo (ke75 l1 l2)) : ∀ (n : Nat) (l1 : Option Nat) (l2 : Option Nat) (l4 : Int32), Mo (C_X11_receiver_L30 l0 ke67 ke75 n l1 l2 l4)
  | 0, _, _, _ => mo_no
  | n + 1, l1, l2, l4 => mo_C_X11_receiver_B30 l0 _ ke67 ke75 (mo_C_X11_receiver_L30 l0 ke67 ke75 hke67 hke75 n) hke67 hke75 l1 l2 l4
set_option maxRecDepth 10000 in
theorem sc_X11_receiver_B30 {g : Gm Hp (Option Nat)} {kb : Option Nat → Option Nat → Int32 → Hp → Option ((Option Nat) × Hp)} {ke67 : Hp → Option ((Option Nat) × Hp)} {ke75 : Option Nat → Option Nat → Hp → Option ((Option Nat) × Hp)} (B : Bx g cX11_receiver 12 RX11 voR (some (.object "TopicBroker$Session")) 2 44 "receiver") {l0 : Nat} (hkb : ∀ (l1 : Option Nat) (l2 : Option Nat) (l4 : Int32), Sm g 12 30 [(0, va_rf (some l0)), (1, va_rf l1), (2, va_rf l2), (4, .int l4)] [] (kb l1 l2 l4)) (hke67 : Sm g 12 67 [] [] (ke67)) (hke75 : ∀ (l1 : Option Nat) (l2 : Option Nat), Sm g 12 75 [(0, va_rf (some l0)), (1, va_rf l1), (2, va_rf l2)] [] (ke75 l1 l2)) (l1 : Option Nat) (l2 : Option Nat) (l4 : Int32) : Sm g 12 30 [(0, va_rf (some l0)), (1, va_rf l1), (2, va_rf l2), (4, .int l4)] [] (C_X11_receiver_B30 l0 kb ke67 ke75 l1 l2 l4) := by
  unfold C_X11_receiver_B30
  refine s_iload B.1.1 3 dX11_receiver_30 rfl ?_
  refine s_rload_n B.1.1 1 dX11_receiver_32 rfl rfl ?_
  refine hp_getI B.1 10 0 rfl (by decide) inX8 (by decide) fk_X8_0.1 fk_X8_0.2 cf_X11_523 dX11_receiver_33 (fun v13 => ?_)
  refine s_icmp_ge B.1.1 75 dX11_receiver_36 (by decide) ?_ ?_
  · exact Sm.lvs [0, 1, 2] rfl (hke75 l1 l2)
  · refine s_rload_n B.1.1 0 dX11_receiver_39 rfl rfl ?_
    refine hp_getR B.1 13 1 rfl (by decide) inX11 (by decide) fk_X11_1 cf_X11_20 dX11_receiver_40 (fun v14 => ?_)
    refine s_iload B.1.1 3 dX11_receiver_43 rfl ?_
    refine hp_Ar B.1 5 (by decide) (fun _ => rfl) dX11_receiver_45 (fun v15 => ?_)
    refine s_ifnull B.1.1 69 dX11_receiver_46 (by decide) ?_ ?_
    · refine s_iinc (v := l4 + 1) (lv' := [(4, .int (l4 + 1)), (0, va_rf (some l0)), (1, va_rf l1), (2, va_rf l2)]) B.1.1 3 dX11_receiver_69 rfl rfl (by decide) rfl ?_
      refine s_goto B.1.1 30 dX11_receiver_72 (by decide) ?_
      exact Sm.lvs [1, 2, 3, 0] rfl (hkb l1 l2 (l4 + 1))
    · refine s_rload_n B.1.1 0 dX11_receiver_49 rfl rfl ?_
      refine hp_getR B.1 13 1 rfl (by decide) inX11 (by decide) fk_X11_1 cf_X11_20 dX11_receiver_50 (fun v16 => ?_)
      refine s_iload B.1.1 3 dX11_receiver_53 rfl ?_
      refine hp_Ar B.1 5 (by decide) (fun _ => rfl) dX11_receiver_55 (fun v17 => ?_)
      refine s_rload_n B.1.1 2 dX11_receiver_56 rfl rfl ?_
      refine hp_getR B.1 11 0 rfl (by decide) inX9 (by decide) fk_X9_0 cf_X11_209 dX11_receiver_57 (fun v18 => ?_)
      refine hp_cvi (As := [va_rf v18]) (st := []) 10 rfl (by decide) B.1 (fun a => mC_X8_indexOf B.2.1 a v18) cc_X8_indexOf cl_X11_512 cn_X8_indexOf ce_X8_indexOf ci_X8 cd_X8_indexOf (by decide) rfl (Nat.le_of_ble_eq_true rfl) dX11_receiver_60 (fun r19 => ?_)
      refine s_iconst (v := (-1)) B.1.1 dX11_receiver_63 (by decide) ?_
      refine s_icmp_eq B.1.1 69 dX11_receiver_64 (by decide) ?_ ?_
      · refine s_iinc (v := l4 + 1) (lv' := [(4, .int (l4 + 1)), (0, va_rf (some l0)), (1, va_rf l1), (2, va_rf l2)]) B.1.1 3 dX11_receiver_69 rfl rfl (by decide) rfl ?_
        refine s_goto B.1.1 30 dX11_receiver_72 (by decide) ?_
        exact Sm.lvs [1, 2, 3, 0] rfl (hkb l1 l2 (l4 + 1))
      · exact Sm.lvs [] rfl (hke67)
set_option maxRecDepth 10000 in
theorem sc_X11_receiver_L30 {g : Gm Hp (Option Nat)} {ke67 : Hp → Option ((Option Nat) × Hp)} {ke75 : Option Nat → Option Nat → Hp → Option ((Option Nat) × Hp)} (B : Bx g cX11_receiver 12 RX11 voR (some (.object "TopicBroker$Session")) 2 44 "receiver") {l0 : Nat} (hke67 : Sm g 12 67 [] [] (ke67)) (hke75 : ∀ (l1 : Option Nat) (l2 : Option Nat), Sm g 12 75 [(0, va_rf (some l0)), (1, va_rf l1), (2, va_rf l2)] [] (ke75 l1 l2)) : ∀ (n : Nat) (l1 : Option Nat) (l2 : Option Nat) (l4 : Int32), Sm g 12 30 [(0, va_rf (some l0)), (1, va_rf l1), (2, va_rf l2), (4, .int l4)] [] (C_X11_receiver_L30 l0 ke67 ke75 n l1 l2 l4)
  | 0, _, _, _ => Sm.fail
  | n + 1, l1, l2, l4 => sc_X11_receiver_B30 B (sc_X11_receiver_L30 B hke67 hke75 n) hke67 hke75 l1 l2 l4
def C_X11_receiver_J25 (l0 : Nat) (l1 : Option Nat) : Hp → Option ((Option Nat) × Hp) :=
  rt (l1)
set_option maxRecDepth 10000 in
theorem mo_C_X11_receiver_J25 (l0 : Nat) (l1 : Option Nat) : Mo (C_X11_receiver_J25 l0 l1) := by
  unfold C_X11_receiver_J25
  repeat' (with_reducible first | assumption | exact mo_rt _ | exact mo_zt _ | exact mo_no | refine mo_ite ?_ ?_ | refine mo_hgI (fun _ => ?_) | refine mo_hgR (fun _ => ?_) | refine mo_hCv (fun _ => ?_) (fun _ => ?_) | refine mo_lq (fun _ => ?_) | refine mo_hpI ?_ | refine mo_hpR ?_ | refine mo_hAi (fun _ => ?_) | refine mo_hAr (fun _ => ?_) | refine mo_hWi ?_ | refine mo_hWr ?_ | refine mo_hLn (fun _ => ?_) | refine mo_hgL (fun _ => ?_) | refine mo_hpL ?_ | refine mo_hpZ ?_ | refine mo_bd ?_ (fun _ => ?_) | refine mo_hCi (fun _ => ?_) (fun _ => ?_) | refine mo_hNw (fun _ => ?_) | refine mo_hNa (fun _ => ?_) | refine mo_hCp ?_ | refine mo_hOi ?_ | refine mo_hAl (fun _ => ?_) | refine mo_hWl ?_ | refine mo_gd ?_ | refine mo_sLn (fun _ => ?_) | refine mo_sAt (fun _ => ?_) | refine mo_kLn (fun _ => ?_) | refine mo_kAt (fun _ => ?_))
set_option maxRecDepth 10000 in
theorem sc_X11_receiver_J25 {g : Gm Hp (Option Nat)} (B : Bx g cX11_receiver 12 RX11 voR (some (.object "TopicBroker$Session")) 2 44 "receiver") {l0 : Nat} (l1 : Option Nat) : Sm g 12 25 [(1, va_rf l1)] [] (C_X11_receiver_J25 l0 l1) := by
  unfold C_X11_receiver_J25
  refine s_rload_n B.1.1 0 dX11_receiver_25 rfl rfl ?_
  exact s_aret B.1.1 B.2.2.2.2 (Or.inl ⟨_, rfl⟩) dX11_receiver_26
def C_X11_receiver (l0 : Nat) (l1 : Option Nat) (l2 : Option Nat) (l3 : Option Nat) : Hp → Option ((Option Nat) × Hp) :=
  hCv 11 l2 (fun a => C_X9_isShared a) fun r20 =>
  if r20 = 0 then (
    hgI 11 2 l2 fun v21 =>
    if (v21 &&& (4 : Int32)) = 0 then (
      C_X11_receiver_J25 l0 l1
    ) else (
      if l1 = l3 then (
        rt (none)
      ) else (
        C_X11_receiver_J25 l0 l1
      )
    )
  ) else (
    C_X11_receiver_L30 l0 (C_X11_receiver_J67 l0) (fun l1 l2 => C_X11_receiver_J75 l0 l1 l2) fu l1 l2 (0 : Int32)
  )
set_option maxRecDepth 10000 in
theorem mo_C_X11_receiver (l0 : Nat) (l1 : Option Nat) (l2 : Option Nat) (l3 : Option Nat) : Mo (C_X11_receiver l0 l1 l2 l3) := by
  unfold C_X11_receiver
  repeat' (with_reducible first | assumption | exact mo_rt _ | exact mo_zt _ | exact mo_no | apply mo_C_X9_isShared | apply mo_C_X11_receiver_J25 | apply mo_C_X11_receiver_L30 | apply mo_C_X11_receiver_J67 | apply mo_C_X11_receiver_J75 | refine mo_ite ?_ ?_ | refine mo_hgI (fun _ => ?_) | refine mo_hgR (fun _ => ?_) | refine mo_hCv (fun _ => ?_) (fun _ => ?_) | refine mo_lq (fun _ => ?_) | refine mo_hpI ?_ | refine mo_hpR ?_ | refine mo_hAi (fun _ => ?_) | refine mo_hAr (fun _ => ?_) | refine mo_hWi ?_ | refine mo_hWr ?_ | refine mo_hLn (fun _ => ?_) | refine mo_hgL (fun _ => ?_) | refine mo_hpL ?_ | refine mo_hpZ ?_ | refine mo_bd ?_ (fun _ => ?_) | refine mo_hCi (fun _ => ?_) (fun _ => ?_) | refine mo_hNw (fun _ => ?_) | refine mo_hNa (fun _ => ?_) | refine mo_hCp ?_ | refine mo_hOi ?_ | refine mo_hAl (fun _ => ?_) | refine mo_hWl ?_ | refine mo_gd ?_ | refine mo_sLn (fun _ => ?_) | refine mo_sAt (fun _ => ?_) | refine mo_kLn (fun _ => ?_) | refine mo_kAt (fun _ => ?_))
set_option maxRecDepth 10000 in
theorem mC_X11_receiver {w : Wd} (hw : Wc w) (l0 : Nat) (l1 : Option Nat) (l2 : Option Nat) (l3 : Option Nat) : MH w yX11_receiver cX11_receiver 12 (some (.object "TopicBroker$Session")) 2 44 voR [va_rf (some l0), va_rf l1, va_rf l2, va_rf l3] (C_X11_receiver l0 l1 l2 l3) := by
  have M0 : ∀ g : Gm Hp (Option Nat), g.1 = w → Bx g cX11_receiver 12 RX11 voR (some (.object "TopicBroker$Session")) 2 44 "receiver" → Sm g 12 0 (lv_args 0 [va_rf (some l0), va_rf l1, va_rf l2, va_rf l3]) [] (C_X11_receiver l0 l1 l2 l3) := by
    intro g hg B
    subst hg
    unfold C_X11_receiver
    refine W_lva (lv := [(0, va_rf (some l0)), (1, va_rf l1), (2, va_rf l2), (3, va_rf l3)]) (by simp [lv_args, va_rf_cat, cat_i, cat_l, cat_r]) ?_
    refine s_rload_n B.1.1 2 dX11_receiver_0 rfl rfl ?_
    refine hp_cvi (As := []) (st := []) 11 rfl (by decide) B.1 (fun a => mC_X9_isShared B.2.1 a ) cc_X9_isShared cl_X11_520 cn_X9_isShared ce_X9_isShared ci_X9 cd_X9_isShared (by decide) rfl (Nat.le_of_ble_eq_true rfl) dX11_receiver_1 (fun r20 => ?_)
    refine s_if_ne B.1.1 27 dX11_receiver_4 (by decide) ?_ ?_
    · refine s_iconst (v := 0) B.1.1 dX11_receiver_27 (by decide) ?_
      refine s_istore (i := 4) (lv' := [(4, .int (0 : Int32)), (0, va_rf (some l0)), (1, va_rf l1), (2, va_rf l2), (3, va_rf l3)]) B.1.1 dX11_receiver_28 (by decide) (by simp [va_rf_cat, cat_i, cat_l, cat_r]) ?_
      exact Sm.lvs [1, 2, 3, 0] rfl (sc_X11_receiver_L30 B (sc_X11_receiver_J67 B) (fun l1 l2 => sc_X11_receiver_J75 B l1 l2) fu l1 l2 (0 : Int32))
    · refine s_rload_n B.1.1 2 dX11_receiver_7 rfl rfl ?_
      refine hp_getI B.1 11 2 rfl (by decide) inX9 (by decide) fk_X9_2.1 fk_X9_2.2 cf_X11_201 dX11_receiver_8 (fun v21 => ?_)
      refine s_iconst (v := 4) B.1.1 dX11_receiver_11 (by decide) ?_
      refine s_iand B.1.1 dX11_receiver_12 ?_
      refine s_if_eq B.1.1 25 dX11_receiver_13 (by decide) ?_ ?_
      · exact Sm.lvs [1] rfl (sc_X11_receiver_J25 B l1)
      · refine s_rload_n B.1.1 1 dX11_receiver_16 rfl rfl ?_
        refine s_rload_n B.1.1 3 dX11_receiver_17 rfl rfl ?_
        refine s_acmp_ne B.1.1 25 dX11_receiver_18 (by decide) ?_ ?_
        · exact Sm.lvs [1] rfl (sc_X11_receiver_J25 B l1)
        · refine s_null B.1.1 dX11_receiver_21 ?_
          refine s_goto B.1.1 26 dX11_receiver_22 (by decide) ?_
          exact s_aret B.1.1 B.2.2.2.2 (Or.inl ⟨_, rfl⟩) dX11_receiver_26
  exact MH.of hw ⟨rfl, rfl⟩ (by decide) (by simp [lg_sl, va_rf_cat, cat_i, cat_l, cat_r]) (mo_C_X11_receiver l0 l1 l2 l3) M0
