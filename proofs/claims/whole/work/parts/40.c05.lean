def C_X8_letGo_J53 (l0 : Nat) : Hp → Option (Int32 × Hp) :=
  zt ((0 : Int32))
set_option maxRecDepth 10000 in
theorem mo_C_X8_letGo_J53 (l0 : Nat) : Mo (C_X8_letGo_J53 l0) := by
  unfold C_X8_letGo_J53
  repeat' (with_reducible first | assumption | exact mo_rt _ | exact mo_zt _ | exact mo_no | refine mo_ite ?_ ?_ | refine mo_hgI (fun _ => ?_) | refine mo_hgR (fun _ => ?_) | refine mo_hCv (fun _ => ?_) (fun _ => ?_) | refine mo_lq (fun _ => ?_) | refine mo_hpI ?_ | refine mo_hpR ?_ | refine mo_hAi (fun _ => ?_) | refine mo_hAr (fun _ => ?_) | refine mo_hWi ?_ | refine mo_hWr ?_ | refine mo_hLn (fun _ => ?_) | refine mo_hgL (fun _ => ?_) | refine mo_hpL ?_ | refine mo_hpZ ?_ | refine mo_bd ?_ (fun _ => ?_) | refine mo_hCi (fun _ => ?_) (fun _ => ?_) | refine mo_hNw (fun _ => ?_) | refine mo_hNa (fun _ => ?_) | refine mo_hCp ?_ | refine mo_hOi ?_ | refine mo_hAl (fun _ => ?_) | refine mo_hWl ?_ | refine mo_gd ?_ | refine mo_sLn (fun _ => ?_) | refine mo_sAt (fun _ => ?_) | refine mo_kLn (fun _ => ?_) | refine mo_kAt (fun _ => ?_))
set_option maxRecDepth 10000 in
theorem sc_X8_letGo_J53 {g : Gm Hp Int32} (B : Bx g cX8_letGo 3 RX8 voI (some .boolean) 0 0 "letGo") {l0 : Nat} : Sm g 3 53 [] [] (C_X8_letGo_J53 l0) := by
  unfold C_X8_letGo_J53
  refine s_iconst (v := 0) B.1.1 dX8_letGo_53 (by decide) ?_
  exact s_zret B.1.1 B.2.2.2.2 dX8_letGo_54
def C_X8_letGo_J20 (l0 : Nat) (l2 : Int32) : Hp → Option (Int32 × Hp) :=
  hgI 10 10 (some l0) fun v1 =>
  hpI 10 10 (some l0) (v1 - (1 : Int32)) <|
  hgR 10 9 (some l0) fun v2 =>
  hgR 10 9 (some l0) fun v3 =>
  hgI 10 10 (some l0) fun v4 =>
  hAi v3 v4 fun v5 =>
  hWi v2 l2 v5 <|
  zt ((1 : Int32))
set_option maxRecDepth 10000 in
theorem mo_C_X8_letGo_J20 (l0 : Nat) (l2 : Int32) : Mo (C_X8_letGo_J20 l0 l2) := by
  unfold C_X8_letGo_J20
  repeat' (with_reducible first | assumption | exact mo_rt _ | exact mo_zt _ | exact mo_no | refine mo_ite ?_ ?_ | refine mo_hgI (fun _ => ?_) | refine mo_hgR (fun _ => ?_) | refine mo_hCv (fun _ => ?_) (fun _ => ?_) | refine mo_lq (fun _ => ?_) | refine mo_hpI ?_ | refine mo_hpR ?_ | refine mo_hAi (fun _ => ?_) | refine mo_hAr (fun _ => ?_) | refine mo_hWi ?_ | refine mo_hWr ?_ | refine mo_hLn (fun _ => ?_) | refine mo_hgL (fun _ => ?_) | refine mo_hpL ?_ | refine mo_hpZ ?_ | refine mo_bd ?_ (fun _ => ?_) | refine mo_hCi (fun _ => ?_) (fun _ => ?_) | refine mo_hNw (fun _ => ?_) | refine mo_hNa (fun _ => ?_) | refine mo_hCp ?_ | refine mo_hOi ?_ | refine mo_hAl (fun _ => ?_) | refine mo_hWl ?_ | refine mo_gd ?_ | refine mo_sLn (fun _ => ?_) | refine mo_sAt (fun _ => ?_) | refine mo_kLn (fun _ => ?_) | refine mo_kAt (fun _ => ?_))
set_option maxRecDepth 10000 in
theorem sc_X8_letGo_J20 {g : Gm Hp Int32} (B : Bx g cX8_letGo 3 RX8 voI (some .boolean) 0 0 "letGo") {l0 : Nat} (l2 : Int32) : Sm g 3 20 [(0, va_rf (some l0)), (2, .int l2)] [] (C_X8_letGo_J20 l0 l2) := by
  unfold C_X8_letGo_J20
  refine s_rload_n B.1.1 0 dX8_letGo_20 rfl rfl ?_
  refine s_dup B.1.1 dX8_letGo_21 rfl ?_
  refine hp_getI B.1 10 10 rfl (by decide) inX8 (by decide) fk_X8_10.1 fk_X8_10.2 cf_X8_94 dX8_letGo_22 (fun v1 => ?_)
  refine s_iconst (v := 1) B.1.1 dX8_letGo_25 (by decide) ?_
  refine s_isub B.1.1 dX8_letGo_26 ?_
  refine hp_putI B.1 10 10 rfl (by decide) inX8 tyX8 tyX8_ok nmX8 (by decide) fk_X8_10.1 fk_X8_10.2 ft_X8_10 rfl cf_X8_94 dX8_letGo_27 ?_
  refine s_rload_n B.1.1 0 dX8_letGo_30 rfl rfl ?_
  refine hp_getR B.1 10 9 rfl (by decide) inX8 (by decide) fk_X8_9 cf_X8_26 dX8_letGo_31 (fun v2 => ?_)
  refine s_iload_n B.1.1 1 dX8_letGo_34 rfl rfl ?_
  refine s_rload_n B.1.1 0 dX8_letGo_35 rfl rfl ?_
  refine hp_getR B.1 10 9 rfl (by decide) inX8 (by decide) fk_X8_9 cf_X8_26 dX8_letGo_36 (fun v3 => ?_)
  refine s_rload_n B.1.1 0 dX8_letGo_39 rfl rfl ?_
  refine hp_getI B.1 10 10 rfl (by decide) inX8 (by decide) fk_X8_10.1 fk_X8_10.2 cf_X8_94 dX8_letGo_40 (fun v4 => ?_)
  refine hp_Ai B.1 dX8_letGo_43 (fun v5 => ?_)
  refine hp_Wi B.1 dX8_letGo_44 ?_
  refine s_iconst (v := 1) B.1.1 dX8_letGo_45 (by decide) ?_
  exact s_zret B.1.1 B.2.2.2.2 dX8_letGo_46
def C_X8_letGo_B2 (l0 : Nat) (kb : Int32 → Int32 → Hp → Option (Int32 × Hp)) (ke20 : Int32 → Hp → Option (Int32 × Hp)) (ke53 : Hp → Option (Int32 × Hp)) (l1 : Int32) (l2 : Int32) : Hp → Option (Int32 × Hp) :=
  hgI 10 10 (some l0) fun v6 =>
  if v6 ≤ l2 then (
    ke53
  ) else (
    hgR 10 9 (some l0) fun v7 =>
    hAi v7 l2 fun v8 =>
    if v8 = l1 then (
      ke20 l2
    ) else (
      kb l1 (l2 + 1)
    )
  )
def C_X8_letGo_L2 (l0 : Nat) (ke20 : Int32 → Hp → Option (Int32 × Hp)) (ke53 : Hp → Option (Int32 × Hp)) : Nat → Int32 → Int32 → Hp → Option (Int32 × Hp)
  | 0, _, _ => no
  | n + 1, l1, l2 => C_X8_letGo_B2 l0 (fun l1 l2 => C_X8_letGo_L2 l0 ke20 ke53 n l1 l2) ke20 ke53 l1 l2
set_option maxRecDepth 10000 in
theorem mo_C_X8_letGo_B2 (l0 : Nat) (kb : Int32 → Int32 → Hp → Option (Int32 × Hp)) (ke20 : Int32 → Hp → Option (Int32 × Hp)) (ke53 : Hp → Option (Int32 × Hp)) (hkb : ∀ (l1 : Int32) (l2 : Int32), Mo (kb l1 l2)) (hke20 : ∀ (l2 : Int32), Mo (ke20 l2)) (hke53 : Mo (ke53)) (l1 : Int32) (l2 : Int32) : Mo (C_X8_letGo_B2 l0 kb ke20 ke53 l1 l2) := by
  unfold C_X8_letGo_B2
  repeat' (with_reducible first | assumption | exact mo_rt _ | exact mo_zt _ | exact mo_no | apply hkb | apply hke20 | apply hke53 | refine mo_ite ?_ ?_ | refine mo_hgI (fun _ => ?_) | refine mo_hgR (fun _ => ?_) | refine mo_hCv (fun _ => ?_) (fun _ => ?_) | refine mo_lq (fun _ => ?_) | refine mo_hpI ?_ | refine mo_hpR ?_ | refine mo_hAi (fun _ => ?_) | refine mo_hAr (fun _ => ?_) | refine mo_hWi ?_ | refine mo_hWr ?_ | refine mo_hLn (fun _ => ?_) | refine mo_hgL (fun _ => ?_) | refine mo_hpL ?_ | refine mo_hpZ ?_ | refine mo_bd ?_ (fun _ => ?_) | refine mo_hCi (fun _ => ?_) (fun _ => ?_) | refine mo_hNw (fun _ => ?_) | refine mo_hNa (fun _ => ?_) | refine mo_hCp ?_ | refine mo_hOi ?_ | refine mo_hAl (fun _ => ?_) | refine mo_hWl ?_ | refine mo_gd ?_ | refine mo_sLn (fun _ => ?_) | refine mo_sAt (fun _ => ?_) | refine mo_kLn (fun _ => ?_) | refine mo_kAt (fun _ => ?_))
set_option maxRecDepth 10000 in
theorem mo_C_X8_letGo_L2 (l0 : Nat) (ke20 : Int32 → Hp → Option (Int32 × Hp)) (ke53 : Hp → Option (Int32 × Hp)) (hke20 : ∀ (l2 : Int32), Mo (ke20 l2)) (hke53 : Mo (ke53)) : ∀ (n : Nat) (l1 : Int32) (l2 : Int32), Mo (C_X8_letGo_L2 l0 ke20 ke53 n l1 l2)
  | 0, _, _ => mo_no
  | n + 1, l1, l2 => mo_C_X8_letGo_B2 l0 _ ke20 ke53 (mo_C_X8_letGo_L2 l0 ke20 ke53 hke20 hke53 n) hke20 hke53 l1 l2
set_option maxRecDepth 10000 in
theorem sc_X8_letGo_B2 {g : Gm Hp Int32} {kb : Int32 → Int32 → Hp → Option (Int32 × Hp)} {ke20 : Int32 → Hp → Option (Int32 × Hp)} {ke53 : Hp → Option (Int32 × Hp)} (B : Bx g cX8_letGo 3 RX8 voI (some .boolean) 0 0 "letGo") {l0 : Nat} (hkb : ∀ (l1 : Int32) (l2 : Int32), Sm g 3 2 [(0, va_rf (some l0)), (1, .int l1), (2, .int l2)] [] (kb l1 l2)) (hke20 : ∀ (l2 : Int32), Sm g 3 20 [(0, va_rf (some l0)), (2, .int l2)] [] (ke20 l2)) (hke53 : Sm g 3 53 [] [] (ke53)) (l1 : Int32) (l2 : Int32) : Sm g 3 2 [(0, va_rf (some l0)), (1, .int l1), (2, .int l2)] [] (C_X8_letGo_B2 l0 kb ke20 ke53 l1 l2) := by
  unfold C_X8_letGo_B2
  refine s_iload_n B.1.1 2 dX8_letGo_2 rfl rfl ?_
  refine s_rload_n B.1.1 0 dX8_letGo_3 rfl rfl ?_
  refine hp_getI B.1 10 10 rfl (by decide) inX8 (by decide) fk_X8_10.1 fk_X8_10.2 cf_X8_94 dX8_letGo_4 (fun v6 => ?_)
  refine s_icmp_ge B.1.1 53 dX8_letGo_7 (by decide) ?_ ?_
  · exact Sm.lvs [] rfl (hke53)
  · refine s_rload_n B.1.1 0 dX8_letGo_10 rfl rfl ?_
    refine hp_getR B.1 10 9 rfl (by decide) inX8 (by decide) fk_X8_9 cf_X8_26 dX8_letGo_11 (fun v7 => ?_)
    refine s_iload_n B.1.1 2 dX8_letGo_14 rfl rfl ?_
    refine hp_Ai B.1 dX8_letGo_15 (fun v8 => ?_)
    refine s_iload_n B.1.1 1 dX8_letGo_16 rfl rfl ?_
    refine s_icmp_ne B.1.1 47 dX8_letGo_17 (by decide) ?_ ?_
    · refine s_iinc (v := l2 + 1) (lv' := [(2, .int (l2 + 1)), (0, va_rf (some l0)), (1, .int l1)]) B.1.1 2 dX8_letGo_47 rfl rfl (by decide) rfl ?_
      refine s_goto B.1.1 2 dX8_letGo_50 (by decide) ?_
      exact Sm.lvs [1, 2, 0] rfl (hkb l1 (l2 + 1))
    · exact Sm.lvs [0, 2] rfl (hke20 l2)
set_option maxRecDepth 10000 in
theorem sc_X8_letGo_L2 {g : Gm Hp Int32} {ke20 : Int32 → Hp → Option (Int32 × Hp)} {ke53 : Hp → Option (Int32 × Hp)} (B : Bx g cX8_letGo 3 RX8 voI (some .boolean) 0 0 "letGo") {l0 : Nat} (hke20 : ∀ (l2 : Int32), Sm g 3 20 [(0, va_rf (some l0)), (2, .int l2)] [] (ke20 l2)) (hke53 : Sm g 3 53 [] [] (ke53)) : ∀ (n : Nat) (l1 : Int32) (l2 : Int32), Sm g 3 2 [(0, va_rf (some l0)), (1, .int l1), (2, .int l2)] [] (C_X8_letGo_L2 l0 ke20 ke53 n l1 l2)
  | 0, _, _ => Sm.fail
  | n + 1, l1, l2 => sc_X8_letGo_B2 B (sc_X8_letGo_L2 B hke20 hke53 n) hke20 hke53 l1 l2
def C_X8_letGo (l0 : Nat) (l1 : Int32) : Hp → Option (Int32 × Hp) :=
  C_X8_letGo_L2 l0 (fun l2 => C_X8_letGo_J20 l0 l2) (C_X8_letGo_J53 l0) fu l1 (0 : Int32)
set_option maxRecDepth 10000 in
theorem mo_C_X8_letGo (l0 : Nat) (l1 : Int32) : Mo (C_X8_letGo l0 l1) := by
  unfold C_X8_letGo
  repeat' (with_reducible first | assumption | exact mo_rt _ | exact mo_zt _ | exact mo_no | apply mo_C_X8_letGo_L2 | apply mo_C_X8_letGo_J20 | apply mo_C_X8_letGo_J53 | refine mo_ite ?_ ?_ | refine mo_hgI (fun _ => ?_) | refine mo_hgR (fun _ => ?_) | refine mo_hCv (fun _ => ?_) (fun _ => ?_) | refine mo_lq (fun _ => ?_) | refine mo_hpI ?_ | refine mo_hpR ?_ | refine mo_hAi (fun _ => ?_) | refine mo_hAr (fun _ => ?_) | refine mo_hWi ?_ | refine mo_hWr ?_ | refine mo_hLn (fun _ => ?_) | refine mo_hgL (fun _ => ?_) | refine mo_hpL ?_ | refine mo_hpZ ?_ | refine mo_bd ?_ (fun _ => ?_) | refine mo_hCi (fun _ => ?_) (fun _ => ?_) | refine mo_hNw (fun _ => ?_) | refine mo_hNa (fun _ => ?_) | refine mo_hCp ?_ | refine mo_hOi ?_ | refine mo_hAl (fun _ => ?_) | refine mo_hWl ?_ | refine mo_gd ?_ | refine mo_sLn (fun _ => ?_) | refine mo_sAt (fun _ => ?_) | refine mo_kLn (fun _ => ?_) | refine mo_kAt (fun _ => ?_))
set_option maxRecDepth 10000 in
theorem mC_X8_letGo {w : Wd} (hw : Wc w) (l0 : Nat) (l1 : Int32) : MH w yX8_letGo cX8_letGo 3 (some .boolean) 0 0 voI [va_rf (some l0), .int l1] (C_X8_letGo l0 l1) := by
  have M0 : ∀ g : Gm Hp Int32, g.1 = w → Bx g cX8_letGo 3 RX8 voI (some .boolean) 0 0 "letGo" → Sm g 3 0 (lv_args 0 [va_rf (some l0), .int l1]) [] (C_X8_letGo l0 l1) := by
    intro g hg B
    subst hg
    unfold C_X8_letGo
    refine W_lva (lv := [(0, va_rf (some l0)), (1, .int l1)]) (by simp [lv_args, va_rf_cat, cat_i, cat_l, cat_r]) ?_
    refine s_iconst (v := 0) B.1.1 dX8_letGo_0 (by decide) ?_
    refine s_istore_n (i := 2) (lv' := [(2, .int (0 : Int32)), (0, va_rf (some l0)), (1, .int l1)]) B.1.1 dX8_letGo_1 rfl (by decide) rfl ?_
    exact Sm.lvs [1, 2, 0] rfl (sc_X8_letGo_L2 B (fun l2 => sc_X8_letGo_J20 B l2) (sc_X8_letGo_J53 B) fu l1 (0 : Int32))
  exact MH.of hw ⟨rfl, rfl⟩ (by decide) (by simp [lg_sl, va_rf_cat, cat_i, cat_l, cat_r]) (mo_C_X8_letGo l0 l1) M0
def C_X11_answered_J188 (l0 : Nat) (l2 : Option Nat) (l7 : Option Nat) : Hp → Option (Int32 × Hp) :=
  hCv 10 l2 (fun a => C_X8_arrive a l7) fun r1 =>
  hCv 13 (some l0) (fun a => C_X11_goOn a l2) fun r2 =>
  rt ((0 : Int32))
set_option maxRecDepth 10000 in
theorem mo_C_X11_answered_J188 (l0 : Nat) (l2 : Option Nat) (l7 : Option Nat) : Mo (C_X11_answered_J188 l0 l2 l7) := by
  unfold C_X11_answered_J188
  repeat' (with_reducible first | assumption | exact mo_rt _ | exact mo_zt _ | exact mo_no | apply mo_C_X8_arrive | apply mo_C_X11_goOn | refine mo_ite ?_ ?_ | refine mo_hgI (fun _ => ?_) | refine mo_hgR (fun _ => ?_) | refine mo_hCv (fun _ => ?_) (fun _ => ?_) | refine mo_lq (fun _ => ?_) | refine mo_hpI ?_ | refine mo_hpR ?_ | refine mo_hAi (fun _ => ?_) | refine mo_hAr (fun _ => ?_) | refine mo_hWi ?_ | refine mo_hWr ?_ | refine mo_hLn (fun _ => ?_) | refine mo_hgL (fun _ => ?_) | refine mo_hpL ?_ | refine mo_hpZ ?_ | refine mo_bd ?_ (fun _ => ?_) | refine mo_hCi (fun _ => ?_) (fun _ => ?_) | refine mo_hNw (fun _ => ?_) | refine mo_hNa (fun _ => ?_) | refine mo_hCp ?_ | refine mo_hOi ?_ | refine mo_hAl (fun _ => ?_) | refine mo_hWl ?_ | refine mo_gd ?_ | refine mo_sLn (fun _ => ?_) | refine mo_sAt (fun _ => ?_) | refine mo_kLn (fun _ => ?_) | refine mo_kAt (fun _ => ?_))
set_option maxRecDepth 10000 in
theorem sc_X11_answered_J188 {g : Gm Hp Int32} (B : Bx g cX11_answered 8 RX11 voI (some .int) 6 160 "answered") {l0 : Nat} (l2 : Option Nat) (l7 : Option Nat) : Sm g 8 188 [(0, va_rf (some l0)), (2, va_rf l2), (7, va_rf l7)] [] (C_X11_answered_J188 l0 l2 l7) := by
  unfold C_X11_answered_J188
  refine s_rload_n B.1.1 1 dX11_answered_188 rfl rfl ?_
  refine s_rload B.1.1 2 dX11_answered_189 rfl ?_
  refine hp_cvv (As := [va_rf l7]) (st := []) 10 rfl (by decide) B.1 (fun a => mC_X8_arrive B.2.1 a l7) cc_X8_arrive cl_X11_551 cn_X8_arrive ce_X8_arrive ci_X8 cd_X8_arrive (by decide) rfl (Nat.le_of_ble_eq_true rfl) dX11_answered_191 (fun r1 => ?_)
  refine s_rload_n B.1.1 0 dX11_answered_194 rfl rfl ?_
  refine s_rload_n B.1.1 1 dX11_answered_195 rfl rfl ?_
  refine hp_cvv (As := [va_rf l2]) (st := []) 13 rfl (by decide) B.1 (fun a => mC_X11_goOn B.2.1 a l2) cc_X11_goOn cl_X11_396 cn_X11_goOn ce_X11_goOn ci_X11 cd_X11_goOn (by decide) rfl (Nat.le_of_ble_eq_true rfl) dX11_answered_196 (fun r2 => ?_)
  refine s_iconst (v := 0) B.1.1 dX11_answered_199 (by decide) ?_
  exact s_iret B.1.1 B.2.2.2.2 dX11_answered_200
def C_X11_answered_J165 (l0 : Nat) (l2 : Option Nat) (l3 : Int32) (s0 : Option Nat) (s1 : Int32) (s2 : Int32) : Hp → Option (Int32 × Hp) :=
  hCv 10 s0 (fun a => C_X8_onTheWay a s1 s2) fun r3 =>
  if r3 = none then (
    rt ((0 : Int32))
  ) else (
    if l3 = (4 : Int32) then (
      C_X11_answered_J188 l0 l2 r3
    ) else (
      hgI 3 5 r3 fun v4 =>
      if v4 = 0 then (
        rt ((0 : Int32))
      ) else (
        C_X11_answered_J188 l0 l2 r3
      )
    )
  )
set_option maxRecDepth 10000 in
theorem mo_C_X11_answered_J165 (l0 : Nat) (l2 : Option Nat) (l3 : Int32) (s0 : Option Nat) (s1 : Int32) (s2 : Int32) : Mo (C_X11_answered_J165 l0 l2 l3 s0 s1 s2) := by
  unfold C_X11_answered_J165
  repeat' (with_reducible first | assumption | exact mo_rt _ | exact mo_zt _ | exact mo_no | apply mo_C_X8_onTheWay | apply mo_C_X11_answered_J188 | refine mo_ite ?_ ?_ | refine mo_hgI (fun _ => ?_) | refine mo_hgR (fun _ => ?_) | refine mo_hCv (fun _ => ?_) (fun _ => ?_) | refine mo_lq (fun _ => ?_) | refine mo_hpI ?_ | refine mo_hpR ?_ | refine mo_hAi (fun _ => ?_) | refine mo_hAr (fun _ => ?_) | refine mo_hWi ?_ | refine mo_hWr ?_ | refine mo_hLn (fun _ => ?_) | refine mo_hgL (fun _ => ?_) | refine mo_hpL ?_ | refine mo_hpZ ?_ | refine mo_bd ?_ (fun _ => ?_) | refine mo_hCi (fun _ => ?_) (fun _ => ?_) | refine mo_hNw (fun _ => ?_) | refine mo_hNa (fun _ => ?_) | refine mo_hCp ?_ | refine mo_hOi ?_ | refine mo_hAl (fun _ => ?_) | refine mo_hWl ?_ | refine mo_gd ?_ | refine mo_sLn (fun _ => ?_) | refine mo_sAt (fun _ => ?_) | refine mo_kLn (fun _ => ?_) | refine mo_kAt (fun _ => ?_))
set_option maxRecDepth 10000 in
theorem sc_X11_answered_J165 {g : Gm Hp Int32} (B : Bx g cX11_answered 8 RX11 voI (some .int) 6 160 "answered") {l0 : Nat} (l2 : Option Nat) (l3 : Int32) (s0 : Option Nat) (s1 : Int32) (s2 : Int32) : Sm g 8 165 [(0, va_rf (some l0)), (2, va_rf l2), (3, .int l3)] [.int s2, .int s1, va_rf s0] (C_X11_answered_J165 l0 l2 l3 s0 s1 s2) := by
  unfold C_X11_answered_J165
  refine hp_cvr (As := [.int s1, .int s2]) (st := []) 10 rfl (by decide) B.1 (fun a => mC_X8_onTheWay B.2.1 a s1 s2) cc_X8_onTheWay cl_X11_569 cn_X8_onTheWay ce_X8_onTheWay ci_X8 cd_X8_onTheWay (by decide) rfl (Nat.le_of_ble_eq_true rfl) dX11_answered_165 (fun r3 => ?_)
  refine s_rstore (i := 7) (lv' := [(7, va_rf r3), (0, va_rf (some l0)), (2, va_rf l2), (3, .int l3)]) B.1.1 dX11_answered_168 (by decide) rfl ?_
  refine s_rload B.1.1 0 dX11_answered_170 rfl ?_
  refine s_ifnull B.1.1 199 dX11_answered_172 (by decide) ?_ ?_
  · refine s_iconst (v := 0) B.1.1 dX11_answered_199 (by decide) ?_
    exact s_iret B.1.1 B.2.2.2.2 dX11_answered_200
  · refine s_iload_n B.1.1 3 dX11_answered_175 rfl rfl ?_
    refine s_iconst (v := 4) B.1.1 dX11_answered_176 (by decide) ?_
    refine s_icmp_eq B.1.1 188 dX11_answered_177 (by decide) ?_ ?_
    · exact Sm.lvs [1, 2, 0] rfl (sc_X11_answered_J188 B l2 r3)
    · refine s_rload B.1.1 0 dX11_answered_180 rfl ?_
      refine hp_getI B.1 3 5 rfl (by decide) inX1 (by decide) fk_X1_5.1 fk_X1_5.2 cf_X11_439 dX11_answered_182 (fun v4 => ?_)
      refine s_if_eq B.1.1 199 dX11_answered_185 (by decide) ?_ ?_
      · refine s_iconst (v := 0) B.1.1 dX11_answered_199 (by decide) ?_
        exact s_iret B.1.1 B.2.2.2.2 dX11_answered_200
      · exact Sm.lvs [1, 2, 0] rfl (sc_X11_answered_J188 B l2 r3)
def C_X11_answered_J146 (l0 : Nat) (s0 : Option Nat) (s1 : Option Nat) (s2 : Int32) (s3 : Int32) (s4 : Int32) : Hp → Option (Int32 × Hp) :=
  hCv 13 s0 (fun a => C_X11_answer a s1 s2 s3 s4) fun r5 =>
  rt ((0 : Int32))
set_option maxRecDepth 10000 in
theorem mo_C_X11_answered_J146 (l0 : Nat) (s0 : Option Nat) (s1 : Option Nat) (s2 : Int32) (s3 : Int32) (s4 : Int32) : Mo (C_X11_answered_J146 l0 s0 s1 s2 s3 s4) := by
  unfold C_X11_answered_J146
  repeat' (with_reducible first | assumption | exact mo_rt _ | exact mo_zt _ | exact mo_no | apply mo_C_X11_answer | refine mo_ite ?_ ?_ | refine mo_hgI (fun _ => ?_) | refine mo_hgR (fun _ => ?_) | refine mo_hCv (fun _ => ?_) (fun _ => ?_) | refine mo_lq (fun _ => ?_) | refine mo_hpI ?_ | refine mo_hpR ?_ | refine mo_hAi (fun _ => ?_) | refine mo_hAr (fun _ => ?_) | refine mo_hWi ?_ | refine mo_hWr ?_ | refine mo_hLn (fun _ => ?_) | refine mo_hgL (fun _ => ?_) | refine mo_hpL ?_ | refine mo_hpZ ?_ | refine mo_bd ?_ (fun _ => ?_) | refine mo_hCi (fun _ => ?_) (fun _ => ?_) | refine mo_hNw (fun _ => ?_) | refine mo_hNa (fun _ => ?_) | refine mo_hCp ?_ | refine mo_hOi ?_ | refine mo_hAl (fun _ => ?_) | refine mo_hWl ?_ | refine mo_gd ?_ | refine mo_sLn (fun _ => ?_) | refine mo_sAt (fun _ => ?_) | refine mo_kLn (fun _ => ?_) | refine mo_kAt (fun _ => ?_))
set_option maxRecDepth 10000 in
theorem sc_X11_answered_J146 {g : Gm Hp Int32} (B : Bx g cX11_answered 8 RX11 voI (some .int) 6 160 "answered") {l0 : Nat} (s0 : Option Nat) (s1 : Option Nat) (s2 : Int32) (s3 : Int32) (s4 : Int32) : Sm g 8 146 [] [.int s4, .int s3, .int s2, va_rf s1, va_rf s0] (C_X11_answered_J146 l0 s0 s1 s2 s3 s4) := by
  unfold C_X11_answered_J146
  refine hp_cvv (As := [va_rf s1, .int s2, .int s3, .int s4]) (st := []) 13 rfl (by decide) B.1 (fun a => mC_X11_answer B.2.1 a s1 s2 s3 s4) cc_X11_answer cl_X11_443 cn_X11_answer ce_X11_answer ci_X11 cd_X11_answer (by decide) rfl (Nat.le_of_ble_eq_true rfl) dX11_answered_146 (fun r5 => ?_)
  refine s_goto B.1.1 199 dX11_answered_149 (by decide) ?_
  refine s_iconst (v := 0) B.1.1 dX11_answered_199 (by decide) ?_
  exact s_iret B.1.1 B.2.2.2.2 dX11_answered_200
def C_X11_answered_J75 (l0 : Nat) (l1 : Option Nat) (l2 : Option Nat) (l3 : Int32) (l5 : Int32) (l6 : Int32) : Hp → Option (Int32 × Hp) :=
  hgR 13 3 (some l0) fun v6 =>
  hCv 7 v6 (fun a => C_X5_finish a) fun r7 =>
  hgR 13 3 (some l0) fun v8 =>
  hgI 7 4 v8 fun v9 =>
  if v9 = 0 then (
    if l3 = (5 : Int32) then (
      hCv 13 (some l0) (fun a => C_X11_received a l1 l2 l5 l6) fun r11 =>
      rt ((0 : Int32))
    ) else (
      if l3 = (6 : Int32) then (
        hCv 10 l2 (fun a => C_X8_letGo a l5) fun r10 =>
        if r10 = 0 then (
          C_X11_answered_J146 l0 (some l0) l1 (112 : Int32) l5 (146 : Int32)
        ) else (
          C_X11_answered_J146 l0 (some l0) l1 (112 : Int32) l5 (0 : Int32)
        )
      ) else (
        if l3 = (4 : Int32) then (
          C_X11_answered_J165 l0 l2 l3 l2 l5 (1 : Int32)
        ) else (
          C_X11_answered_J165 l0 l2 l3 l2 l5 (2 : Int32)
        )
      )
    )
  ) else (
    hgR 13 3 (some l0) fun v12 =>
    hgI 7 4 v12 fun v13 =>
    rt (v13)
  )
set_option maxRecDepth 10000 in
theorem mo_C_X11_answered_J75 (l0 : Nat) (l1 : Option Nat) (l2 : Option Nat) (l3 : Int32) (l5 : Int32) (l6 : Int32) : Mo (C_X11_answered_J75 l0 l1 l2 l3 l5 l6) := by
  unfold C_X11_answered_J75
  repeat' (with_reducible first | assumption | exact mo_rt _ | exact mo_zt _ | exact mo_no | apply mo_C_X5_finish | apply mo_C_X11_received | apply mo_C_X8_letGo | apply mo_C_X11_answered_J146 | apply mo_C_X11_answered_J165 | refine mo_ite ?_ ?_ | refine mo_hgI (fun _ => ?_) | refine mo_hgR (fun _ => ?_) | refine mo_hCv (fun _ => ?_) (fun _ => ?_) | refine mo_lq (fun _ => ?_) | refine mo_hpI ?_ | refine mo_hpR ?_ | refine mo_hAi (fun _ => ?_) | refine mo_hAr (fun _ => ?_) | refine mo_hWi ?_ | refine mo_hWr ?_ | refine mo_hLn (fun _ => ?_) | refine mo_hgL (fun _ => ?_) | refine mo_hpL ?_ | refine mo_hpZ ?_ | refine mo_bd ?_ (fun _ => ?_) | refine mo_hCi (fun _ => ?_) (fun _ => ?_) | refine mo_hNw (fun _ => ?_) | refine mo_hNa (fun _ => ?_) | refine mo_hCp ?_ | refine mo_hOi ?_ | refine mo_hAl (fun _ => ?_) | refine mo_hWl ?_ | refine mo_gd ?_ | refine mo_sLn (fun _ => ?_) | refine mo_sAt (fun _ => ?_) | refine mo_kLn (fun _ => ?_) | refine mo_kAt (fun _ => ?_))
set_option maxRecDepth 10000 in
theorem sc_X11_answered_J75 {g : Gm Hp Int32} (B : Bx g cX11_answered 8 RX11 voI (some .int) 6 160 "answered") {l0 : Nat} (l1 : Option Nat) (l2 : Option Nat) (l3 : Int32) (l5 : Int32) (l6 : Int32) : Sm g 8 75 [(0, va_rf (some l0)), (1, va_rf l1), (2, va_rf l2), (3, .int l3), (5, .int l5), (6, .int l6)] [] (C_X11_answered_J75 l0 l1 l2 l3 l5 l6) := by
  unfold C_X11_answered_J75
  refine s_rload_n B.1.1 0 dX11_answered_75 rfl rfl ?_
  refine hp_getR B.1 13 3 rfl (by decide) inX11 (by decide) fk_X11_3 cf_X11_34 dX11_answered_76 (fun v6 => ?_)
  refine hp_cvv (As := []) (st := []) 7 rfl (by decide) B.1 (fun a => mC_X5_finish B.2.1 a ) cc_X5_finish cl_X11_338 cn_X5_finish ce_X5_finish ci_X5 cd_X5_finish (by decide) rfl (Nat.le_of_ble_eq_true rfl) dX11_answered_79 (fun r7 => ?_)
  refine s_rload_n B.1.1 0 dX11_answered_82 rfl rfl ?_
  refine hp_getR B.1 13 3 rfl (by decide) inX11 (by decide) fk_X11_3 cf_X11_34 dX11_answered_83 (fun v8 => ?_)
  refine hp_getI B.1 7 4 rfl (by decide) inX5 (by decide) fk_X5_4.1 fk_X5_4.2 cf_X11_341 dX11_answered_86 (fun v9 => ?_)
  refine s_if_eq B.1.1 100 dX11_answered_89 (by decide) ?_ ?_
  · refine s_iload_n B.1.1 3 dX11_answered_100 rfl rfl ?_
    refine s_iconst (v := 5) B.1.1 dX11_answered_101 (by decide) ?_
    refine s_icmp_ne B.1.1 118 dX11_answered_102 (by decide) ?_ ?_
    · refine s_iload_n B.1.1 3 dX11_answered_118 rfl rfl ?_
      refine s_bipush (v := (6)) B.1.1 dX11_answered_119 (by decide) ?_
      refine s_icmp_ne B.1.1 152 dX11_answered_121 (by decide) ?_ ?_
      · refine s_rload_n B.1.1 2 dX11_answered_152 rfl rfl ?_
        refine s_iload B.1.1 4 dX11_answered_153 rfl ?_
        refine s_iload_n B.1.1 3 dX11_answered_155 rfl rfl ?_
        refine s_iconst (v := 4) B.1.1 dX11_answered_156 (by decide) ?_
        refine s_icmp_ne B.1.1 164 dX11_answered_157 (by decide) ?_ ?_
        · refine s_iconst (v := 2) B.1.1 dX11_answered_164 (by decide) ?_
          exact Sm.lvs [0, 2, 3] rfl (sc_X11_answered_J165 B l2 l3 l2 l5 (2 : Int32))
        · refine s_iconst (v := 1) B.1.1 dX11_answered_160 (by decide) ?_
          refine s_goto B.1.1 165 dX11_answered_161 (by decide) ?_
          exact Sm.lvs [0, 2, 3] rfl (sc_X11_answered_J165 B l2 l3 l2 l5 (1 : Int32))
      · refine s_rload_n B.1.1 0 dX11_answered_124 rfl rfl ?_
        refine s_rload_n B.1.1 1 dX11_answered_125 rfl rfl ?_
        refine s_bipush (v := (112)) B.1.1 dX11_answered_126 (by decide) ?_
        refine s_iload B.1.1 4 dX11_answered_128 rfl ?_
        refine s_rload_n B.1.1 2 dX11_answered_130 rfl rfl ?_
        refine s_iload B.1.1 4 dX11_answered_131 rfl ?_
        refine hp_cvi (As := [.int l5]) (st := [.int l5, .int (112 : Int32), va_rf l1, va_rf (some l0)]) 10 rfl (by decide) B.1 (fun a => mC_X8_letGo B.2.1 a l5) cc_X8_letGo cl_X11_566 cn_X8_letGo ce_X8_letGo ci_X8 cd_X8_letGo (by decide) rfl (by simp [va_rf_cat, cat_i, cat_l, cat_r]) dX11_answered_133 (fun r10 => ?_)
        refine s_if_eq B.1.1 143 dX11_answered_136 (by decide) ?_ ?_
        · refine s_sipush (v := (146)) B.1.1 dX11_answered_143 (by decide) ?_
          exact Sm.lvs [] rfl (sc_X11_answered_J146 B (some l0) l1 (112 : Int32) l5 (146 : Int32))
        · refine s_iconst (v := 0) B.1.1 dX11_answered_139 (by decide) ?_
          refine s_goto B.1.1 146 dX11_answered_140 (by decide) ?_
          exact Sm.lvs [] rfl (sc_X11_answered_J146 B (some l0) l1 (112 : Int32) l5 (0 : Int32))
    · refine s_rload_n B.1.1 0 dX11_answered_105 rfl rfl ?_
      refine s_rload_n B.1.1 1 dX11_answered_106 rfl rfl ?_
      refine s_rload_n B.1.1 2 dX11_answered_107 rfl rfl ?_
      refine s_iload B.1.1 4 dX11_answered_108 rfl ?_
      refine s_iload B.1.1 5 dX11_answered_110 rfl ?_
      refine hp_cvv (As := [va_rf l1, va_rf l2, .int l5, .int l6]) (st := []) 13 rfl (by decide) B.1 (fun a => mC_X11_received B.2.1 a l1 l2 l5 l6) cc_X11_received cl_X11_562 cn_X11_received ce_X11_received ci_X11 cd_X11_received (by decide) rfl (Nat.le_of_ble_eq_true rfl) dX11_answered_112 (fun r11 => ?_)
      refine s_goto B.1.1 199 dX11_answered_115 (by decide) ?_
      refine s_iconst (v := 0) B.1.1 dX11_answered_199 (by decide) ?_
      exact s_iret B.1.1 B.2.2.2.2 dX11_answered_200
  · refine s_rload_n B.1.1 0 dX11_answered_92 rfl rfl ?_
    refine hp_getR B.1 13 3 rfl (by decide) inX11 (by decide) fk_X11_3 cf_X11_34 dX11_answered_93 (fun v12 => ?_)
    refine hp_getI B.1 7 4 rfl (by decide) inX5 (by decide) fk_X5_4.1 fk_X5_4.2 cf_X11_341 dX11_answered_96 (fun v13 => ?_)
    exact s_iret B.1.1 B.2.2.2.2 dX11_answered_99
def C_X11_answered_J51 (l0 : Nat) (l1 : Option Nat) (l2 : Option Nat) (l3 : Int32) (l5 : Int32) (l6 : Int32) : Hp → Option (Int32 × Hp) :=
  hgR 13 3 (some l0) fun v14 =>
  hCv 7 v14 (fun a => C_X5_left a) fun r15 =>
  if r15 ≤ 0 then (
    C_X11_answered_J75 l0 l1 l2 l3 l5 l6
  ) else (
    hgR 13 4 (some l0) fun v16 =>
    hgR 13 3 (some l0) fun v17 =>
    hCv 6 v16 (fun a => C_X4_read a v17 (277025390592 : Int64)) fun r18 =>
    C_X11_answered_J75 l0 l1 l2 l3 l5 l6
  )
set_option maxRecDepth 10000 in
theorem mo_C_X11_answered_J51 (l0 : Nat) (l1 : Option Nat) (l2 : Option Nat) (l3 : Int32) (l5 : Int32) (l6 : Int32) : Mo (C_X11_answered_J51 l0 l1 l2 l3 l5 l6) := by
  unfold C_X11_answered_J51
  repeat' (with_reducible first | assumption | exact mo_rt _ | exact mo_zt _ | exact mo_no | apply mo_C_X5_left | apply mo_C_X11_answered_J75 | apply mo_C_X4_read | refine mo_ite ?_ ?_ | refine mo_hgI (fun _ => ?_) | refine mo_hgR (fun _ => ?_) | refine mo_hCv (fun _ => ?_) (fun _ => ?_) | refine mo_lq (fun _ => ?_) | refine mo_hpI ?_ | refine mo_hpR ?_ | refine mo_hAi (fun _ => ?_) | refine mo_hAr (fun _ => ?_) | refine mo_hWi ?_ | refine mo_hWr ?_ | refine mo_hLn (fun _ => ?_) | refine mo_hgL (fun _ => ?_) | refine mo_hpL ?_ | refine mo_hpZ ?_ | refine mo_bd ?_ (fun _ => ?_) | refine mo_hCi (fun _ => ?_) (fun _ => ?_) | refine mo_hNw (fun _ => ?_) | refine mo_hNa (fun _ => ?_) | refine mo_hCp ?_ | refine mo_hOi ?_ | refine mo_hAl (fun _ => ?_) | refine mo_hWl ?_ | refine mo_gd ?_ | refine mo_sLn (fun _ => ?_) | refine mo_sAt (fun _ => ?_) | refine mo_kLn (fun _ => ?_) | refine mo_kAt (fun _ => ?_))
set_option maxRecDepth 10000 in
theorem sc_X11_answered_J51 {g : Gm Hp Int32} (B : Bx g cX11_answered 8 RX11 voI (some .int) 6 160 "answered") {l0 : Nat} (l1 : Option Nat) (l2 : Option Nat) (l3 : Int32) (l5 : Int32) (l6 : Int32) : Sm g 8 51 [(0, va_rf (some l0)), (1, va_rf l1), (2, va_rf l2), (3, .int l3), (5, .int l5), (6, .int l6)] [] (C_X11_answered_J51 l0 l1 l2 l3 l5 l6) := by
  unfold C_X11_answered_J51
  refine s_rload_n B.1.1 0 dX11_answered_51 rfl rfl ?_
  refine hp_getR B.1 13 3 rfl (by decide) inX11 (by decide) fk_X11_3 cf_X11_34 dX11_answered_52 (fun v14 => ?_)
  refine hp_cvi (As := []) (st := []) 7 rfl (by decide) B.1 (fun a => mC_X5_left B.2.1 a ) cc_X5_left cl_X11_347 cn_X5_left ce_X5_left ci_X5 cd_X5_left (by decide) rfl (Nat.le_of_ble_eq_true rfl) dX11_answered_55 (fun r15 => ?_)
  refine s_if_le B.1.1 75 dX11_answered_58 (by decide) ?_ ?_
  · exact Sm.lvs [0, 1, 2, 3, 4, 5] rfl (sc_X11_answered_J75 B l1 l2 l3 l5 l6)
  · refine s_rload_n B.1.1 0 dX11_answered_61 rfl rfl ?_
    refine hp_getR B.1 13 4 rfl (by decide) inX11 (by decide) fk_X11_4 cf_X11_41 dX11_answered_62 (fun v16 => ?_)
    refine s_rload_n B.1.1 0 dX11_answered_65 rfl rfl ?_
    refine hp_getR B.1 13 3 rfl (by decide) inX11 (by decide) fk_X11_3 cf_X11_34 dX11_answered_66 (fun v17 => ?_)
    refine s_ldc2 (v := (277025390592)) B.1.1 tw_1146 dX11_answered_69 ?_
    refine hp_cvv (As := [va_rf v17, .long (277025390592 : Int64)]) (st := []) 6 rfl (by decide) B.1 (fun a => mC_X4_read B.2.1 a v17 (277025390592 : Int64)) cc_X4_read cl_X11_353 cn_X4_read ce_X4_read ci_X4 cd_X4_read (by decide) rfl (Nat.le_of_ble_eq_true rfl) dX11_answered_72 (fun r18 => ?_)
    exact Sm.lvs [0, 1, 2, 3, 4, 5] rfl (sc_X11_answered_J75 B l1 l2 l3 l5 l6)
def C_X11_answered_J17 (l0 : Nat) (l1 : Option Nat) (l2 : Option Nat) (l3 : Int32) (s0 : Option Nat) (s1 : Int32) (s2 : Int32) : Hp → Option (Int32 × Hp) :=
  hCv 7 s0 (fun a => C_X5_expect a s1 s2) fun r19 =>
  hgR 13 3 (some l0) fun v20 =>
  hCv 7 v20 (fun a => C_X5_number a) fun r21 =>
  hgR 13 3 (some l0) fun v22 =>
  hCv 7 v22 (fun a => C_X5_left a) fun r23 =>
  if r23 ≤ 0 then (
    C_X11_answered_J51 l0 l1 l2 l3 r21 (0 : Int32)
  ) else (
    hgR 13 3 (some l0) fun v24 =>
    hCv 7 v24 (fun a => C_X5_one a) fun r25 =>
    C_X11_answered_J51 l0 l1 l2 l3 r21 r25
  )
set_option maxRecDepth 10000 in
theorem mo_C_X11_answered_J17 (l0 : Nat) (l1 : Option Nat) (l2 : Option Nat) (l3 : Int32) (s0 : Option Nat) (s1 : Int32) (s2 : Int32) : Mo (C_X11_answered_J17 l0 l1 l2 l3 s0 s1 s2) := by
  unfold C_X11_answered_J17
  repeat' (with_reducible first | assumption | exact mo_rt _ | exact mo_zt _ | exact mo_no | apply mo_C_X5_expect | apply mo_C_X5_number | apply mo_C_X5_left | apply mo_C_X11_answered_J51 | apply mo_C_X5_one | refine mo_ite ?_ ?_ | refine mo_hgI (fun _ => ?_) | refine mo_hgR (fun _ => ?_) | refine mo_hCv (fun _ => ?_) (fun _ => ?_) | refine mo_lq (fun _ => ?_) | refine mo_hpI ?_ | refine mo_hpR ?_ | refine mo_hAi (fun _ => ?_) | refine mo_hAr (fun _ => ?_) | refine mo_hWi ?_ | refine mo_hWr ?_ | refine mo_hLn (fun _ => ?_) | refine mo_hgL (fun _ => ?_) | refine mo_hpL ?_ | refine mo_hpZ ?_ | refine mo_bd ?_ (fun _ => ?_) | refine mo_hCi (fun _ => ?_) (fun _ => ?_) | refine mo_hNw (fun _ => ?_) | refine mo_hNa (fun _ => ?_) | refine mo_hCp ?_ | refine mo_hOi ?_ | refine mo_hAl (fun _ => ?_) | refine mo_hWl ?_ | refine mo_gd ?_ | refine mo_sLn (fun _ => ?_) | refine mo_sAt (fun _ => ?_) | refine mo_kLn (fun _ => ?_) | refine mo_kAt (fun _ => ?_))
set_option maxRecDepth 10000 in
theorem sc_X11_answered_J17 {g : Gm Hp Int32} (B : Bx g cX11_answered 8 RX11 voI (some .int) 6 160 "answered") {l0 : Nat} (l1 : Option Nat) (l2 : Option Nat) (l3 : Int32) (s0 : Option Nat) (s1 : Int32) (s2 : Int32) : Sm g 8 17 [(0, va_rf (some l0)), (1, va_rf l1), (2, va_rf l2), (3, .int l3)] [.int s2, .int s1, va_rf s0] (C_X11_answered_J17 l0 l1 l2 l3 s0 s1 s2) := by
  unfold C_X11_answered_J17
  refine hp_cvv (As := [.int s1, .int s2]) (st := []) 7 rfl (by decide) B.1 (fun a => mC_X5_expect B.2.1 a s1 s2) cc_X5_expect cl_X11_334 cn_X5_expect ce_X5_expect ci_X5 cd_X5_expect (by decide) rfl (Nat.le_of_ble_eq_true rfl) dX11_answered_17 (fun r19 => ?_)
  refine s_rload_n B.1.1 0 dX11_answered_20 rfl rfl ?_
  refine hp_getR B.1 13 3 rfl (by decide) inX11 (by decide) fk_X11_3 cf_X11_34 dX11_answered_21 (fun v20 => ?_)
  refine hp_cvi (As := []) (st := []) 7 rfl (by decide) B.1 (fun a => mC_X5_number B.2.1 a ) cc_X5_number cl_X11_459 cn_X5_number ce_X5_number ci_X5 cd_X5_number (by decide) rfl (Nat.le_of_ble_eq_true rfl) dX11_answered_24 (fun r21 => ?_)
  refine s_istore (i := 5) (lv' := [(5, .int r21), (0, va_rf (some l0)), (1, va_rf l1), (2, va_rf l2), (3, .int l3)]) B.1.1 dX11_answered_27 (by decide) rfl ?_
  refine s_iconst (v := 0) B.1.1 dX11_answered_29 (by decide) ?_
  refine s_istore (i := 6) (lv' := [(6, .int (0 : Int32)), (5, .int r21), (0, va_rf (some l0)), (1, va_rf l1), (2, va_rf l2), (3, .int l3)]) B.1.1 dX11_answered_30 (by decide) rfl ?_
  refine s_rload_n B.1.1 2 dX11_answered_32 rfl rfl ?_
  refine hp_getR B.1 13 3 rfl (by decide) inX11 (by decide) fk_X11_3 cf_X11_34 dX11_answered_33 (fun v22 => ?_)
  refine hp_cvi (As := []) (st := []) 7 rfl (by decide) B.1 (fun a => mC_X5_left B.2.1 a ) cc_X5_left cl_X11_347 cn_X5_left ce_X5_left ci_X5 cd_X5_left (by decide) rfl (Nat.le_of_ble_eq_true rfl) dX11_answered_36 (fun r23 => ?_)
  refine s_if_le B.1.1 51 dX11_answered_39 (by decide) ?_ ?_
  · exact Sm.lvs [2, 3, 4, 5, 1, 0] rfl (sc_X11_answered_J51 B l1 l2 l3 r21 (0 : Int32))
  · refine s_rload_n B.1.1 2 dX11_answered_42 rfl rfl ?_
    refine hp_getR B.1 13 3 rfl (by decide) inX11 (by decide) fk_X11_3 cf_X11_34 dX11_answered_43 (fun v24 => ?_)
    refine hp_cvi (As := []) (st := []) 7 rfl (by decide) B.1 (fun a => mC_X5_one B.2.1 a ) cc_X5_one cl_X11_349 cn_X5_one ce_X5_one ci_X5 cd_X5_one (by decide) rfl (Nat.le_of_ble_eq_true rfl) dX11_answered_46 (fun r25 => ?_)
    refine s_istore (i := 6) (lv' := [(6, .int r25), (5, .int r21), (0, va_rf (some l0)), (1, va_rf l1), (2, va_rf l2), (3, .int l3)]) B.1.1 dX11_answered_49 (by decide) rfl ?_
    exact Sm.lvs [2, 3, 4, 5, 1, 0] rfl (sc_X11_answered_J51 B l1 l2 l3 r21 r25)
def C_X11_answered (l0 : Nat) (l1 : Option Nat) (l2 : Option Nat) (l3 : Int32) (l4 : Int32) : Hp → Option (Int32 × Hp) :=
  hgR 13 3 (some l0) fun v26 =>
  if l3 = (6 : Int32) then (
    C_X11_answered_J17 l0 l1 l2 l3 v26 l4 (2 : Int32)
  ) else (
    C_X11_answered_J17 l0 l1 l2 l3 v26 l4 (0 : Int32)
  )
set_option maxRecDepth 10000 in
theorem mo_C_X11_answered (l0 : Nat) (l1 : Option Nat) (l2 : Option Nat) (l3 : Int32) (l4 : Int32) : Mo (C_X11_answered l0 l1 l2 l3 l4) := by
  unfold C_X11_answered
  repeat' (with_reducible first | assumption | exact mo_rt _ | exact mo_zt _ | exact mo_no | apply mo_C_X11_answered_J17 | refine mo_ite ?_ ?_ | refine mo_hgI (fun _ => ?_) | refine mo_hgR (fun _ => ?_) | refine mo_hCv (fun _ => ?_) (fun _ => ?_) | refine mo_lq (fun _ => ?_) | refine mo_hpI ?_ | refine mo_hpR ?_ | refine mo_hAi (fun _ => ?_) | refine mo_hAr (fun _ => ?_) | refine mo_hWi ?_ | refine mo_hWr ?_ | refine mo_hLn (fun _ => ?_) | refine mo_hgL (fun _ => ?_) | refine mo_hpL ?_ | refine mo_hpZ ?_ | refine mo_bd ?_ (fun _ => ?_) | refine mo_hCi (fun _ => ?_) (fun _ => ?_) | refine mo_hNw (fun _ => ?_) | refine mo_hNa (fun _ => ?_) | refine mo_hCp ?_ | refine mo_hOi ?_ | refine mo_hAl (fun _ => ?_) | refine mo_hWl ?_ | refine mo_gd ?_ | refine mo_sLn (fun _ => ?_) | refine mo_sAt (fun _ => ?_) | refine mo_kLn (fun _ => ?_) | refine mo_kAt (fun _ => ?_))
set_option maxRecDepth 10000 in
theorem mC_X11_answered {w : Wd} (hw : Wc w) (l0 : Nat) (l1 : Option Nat) (l2 : Option Nat) (l3 : Int32) (l4 : Int32) : MH w yX11_answered cX11_answered 8 (some .int) 6 160 voI [va_rf (some l0), va_rf l1, va_rf l2, .int l3, .int l4] (C_X11_answered l0 l1 l2 l3 l4) := by
  have M0 : ∀ g : Gm Hp Int32, g.1 = w → Bx g cX11_answered 8 RX11 voI (some .int) 6 160 "answered" → Sm g 8 0 (lv_args 0 [va_rf (some l0), va_rf l1, va_rf l2, .int l3, .int l4]) [] (C_X11_answered l0 l1 l2 l3 l4) := by
    intro g hg B
    subst hg
    unfold C_X11_answered
    refine W_lva (lv := [(0, va_rf (some l0)), (1, va_rf l1), (2, va_rf l2), (3, .int l3), (4, .int l4)]) (by simp [lv_args, va_rf_cat, cat_i, cat_l, cat_r]) ?_
    refine s_rload_n B.1.1 0 dX11_answered_0 rfl rfl ?_
    refine hp_getR B.1 13 3 rfl (by decide) inX11 (by decide) fk_X11_3 cf_X11_34 dX11_answered_1 (fun v26 => ?_)
    refine s_iload B.1.1 4 dX11_answered_4 rfl ?_
    refine s_iload_n B.1.1 3 dX11_answered_6 rfl rfl ?_
    refine s_bipush (v := (6)) B.1.1 dX11_answered_7 (by decide) ?_
    refine s_icmp_ne B.1.1 16 dX11_answered_9 (by decide) ?_ ?_
    · refine s_iconst (v := 0) B.1.1 dX11_answered_16 (by decide) ?_
      exact Sm.lvs [0, 1, 2, 3] rfl (sc_X11_answered_J17 B l1 l2 l3 v26 l4 (0 : Int32))
    · refine s_iconst (v := 2) B.1.1 dX11_answered_12 (by decide) ?_
      refine s_goto B.1.1 17 dX11_answered_13 (by decide) ?_
      exact Sm.lvs [0, 1, 2, 3] rfl (sc_X11_answered_J17 B l1 l2 l3 v26 l4 (2 : Int32))
  exact MH.of hw ⟨rfl, rfl⟩ (by decide) (by simp [lg_sl, va_rf_cat, cat_i, cat_l, cat_r]) (mo_C_X11_answered l0 l1 l2 l3 l4) M0
def C_X11_countSessions_J28 (l0 : Nat) (l1 : Int32) : Hp → Option (Int32 × Hp) :=
  rt (l1)
set_option maxRecDepth 10000 in
theorem mo_C_X11_countSessions_J28 (l0 : Nat) (l1 : Int32) : Mo (C_X11_countSessions_J28 l0 l1) := by
  unfold C_X11_countSessions_J28
  repeat' (with_reducible first | assumption | exact mo_rt _ | exact mo_zt _ | exact mo_no | refine mo_ite ?_ ?_ | refine mo_hgI (fun _ => ?_) | refine mo_hgR (fun _ => ?_) | refine mo_hCv (fun _ => ?_) (fun _ => ?_) | refine mo_lq (fun _ => ?_) | refine mo_hpI ?_ | refine mo_hpR ?_ | refine mo_hAi (fun _ => ?_) | refine mo_hAr (fun _ => ?_) | refine mo_hWi ?_ | refine mo_hWr ?_ | refine mo_hLn (fun _ => ?_) | refine mo_hgL (fun _ => ?_) | refine mo_hpL ?_ | refine mo_hpZ ?_ | refine mo_bd ?_ (fun _ => ?_) | refine mo_hCi (fun _ => ?_) (fun _ => ?_) | refine mo_hNw (fun _ => ?_) | refine mo_hNa (fun _ => ?_) | refine mo_hCp ?_ | refine mo_hOi ?_ | refine mo_hAl (fun _ => ?_) | refine mo_hWl ?_ | refine mo_gd ?_ | refine mo_sLn (fun _ => ?_) | refine mo_sAt (fun _ => ?_) | refine mo_kLn (fun _ => ?_) | refine mo_kAt (fun _ => ?_))
set_option maxRecDepth 10000 in
theorem sc_X11_countSessions_J28 {g : Gm Hp Int32} (B : Bx g cX11_countSessions 3 RX11 voI (some .int) 0 0 "countSessions") {l0 : Nat} (l1 : Int32) : Sm g 3 28 [(1, .int l1)] [] (C_X11_countSessions_J28 l0 l1) := by
  unfold C_X11_countSessions_J28
  refine s_iload_n B.1.1 0 dX11_countSessions_28 rfl rfl ?_
  exact s_iret B.1.1 B.2.2.2.2 dX11_countSessions_29
def C_X11_countSessions_B4 (l0 : Nat) (kb : Int32 → Int32 → Hp → Option (Int32 × Hp)) (ke28 : Int32 → Hp → Option (Int32 × Hp)) (l1 : Int32) (l2 : Int32) : Hp → Option (Int32 × Hp) :=
  if (12 : Int32) ≤ l2 then (
    ke28 l1
  ) else (
    hgR 13 1 (some l0) fun v1 =>
    hAr 5 v1 l2 fun v2 =>
    if v2 = none then (
      kb l1 (l2 + 1)
    ) else (
      kb (l1 + 1) (l2 + 1)
    )
  )
def C_X11_countSessions_L4 (l0 : Nat) (ke28 : Int32 → Hp → Option (Int32 × Hp)) : Nat → Int32 → Int32 → Hp → Option (Int32 × Hp)
  | 0, _, _ => no
  | n + 1, l1, l2 => C_X11_countSessions_B4 l0 (fun l1 l2 => C_X11_countSessions_L4 l0 ke28 n l1 l2) ke28 l1 l2
set_option maxRecDepth 10000 in
theorem mo_C_X11_countSessions_B4 (l0 : Nat) (kb : Int32 → Int32 → Hp → Option (Int32 × Hp)) (ke28 : Int32 → Hp → Option (Int32 × Hp)) (hkb : ∀ (l1 : Int32) (l2 : Int32), Mo (kb l1 l2)) (hke28 : ∀ (l1 : Int32), Mo (ke28 l1)) (l1 : Int32) (l2 : Int32) : Mo (C_X11_countSessions_B4 l0 kb ke28 l1 l2) := by
  unfold C_X11_countSessions_B4
  repeat' (with_reducible first | assumption | exact mo_rt _ | exact mo_zt _ | exact mo_no | apply hkb | apply hke28 | refine mo_ite ?_ ?_ | refine mo_hgI (fun _ => ?_) | refine mo_hgR (fun _ => ?_) | refine mo_hCv (fun _ => ?_) (fun _ => ?_) | refine mo_lq (fun _ => ?_) | refine mo_hpI ?_ | refine mo_hpR ?_ | refine mo_hAi (fun _ => ?_) | refine mo_hAr (fun _ => ?_) | refine mo_hWi ?_ | refine mo_hWr ?_ | refine mo_hLn (fun _ => ?_) | refine mo_hgL (fun _ => ?_) | refine mo_hpL ?_ | refine mo_hpZ ?_ | refine mo_bd ?_ (fun _ => ?_) | refine mo_hCi (fun _ => ?_) (fun _ => ?_) | refine mo_hNw (fun _ => ?_) | refine mo_hNa (fun _ => ?_) | refine mo_hCp ?_ | refine mo_hOi ?_ | refine mo_hAl (fun _ => ?_) | refine mo_hWl ?_ | refine mo_gd ?_ | refine mo_sLn (fun _ => ?_) | refine mo_sAt (fun _ => ?_) | refine mo_kLn (fun _ => ?_) | refine mo_kAt (fun _ => ?_))
set_option maxRecDepth 10000 in
theorem mo_C_X11_countSessions_L4 (l0 : Nat) (ke28 : Int32 → Hp → Option (Int32 × Hp)) (hke28 : ∀ (l1 : Int32), Mo (ke28 l1)) : ∀ (n : Nat) (l1 : Int32) (l2 : Int32), Mo (C_X11_countSessions_L4 l0 ke28 n l1 l2)
  | 0, _, _ => mo_no
  | n + 1, l1, l2 => mo_C_X11_countSessions_B4 l0 _ ke28 (mo_C_X11_countSessions_L4 l0 ke28 hke28 n) hke28 l1 l2
set_option maxRecDepth 10000 in
theorem sc_X11_countSessions_B4 {g : Gm Hp Int32} {kb : Int32 → Int32 → Hp → Option (Int32 × Hp)} {ke28 : Int32 → Hp → Option (Int32 × Hp)} (B : Bx g cX11_countSessions 3 RX11 voI (some .int) 0 0 "countSessions") {l0 : Nat} (hkb : ∀ (l1 : Int32) (l2 : Int32), Sm g 3 4 [(0, va_rf (some l0)), (1, .int l1), (2, .int l2)] [] (kb l1 l2)) (hke28 : ∀ (l1 : Int32), Sm g 3 28 [(1, .int l1)] [] (ke28 l1)) (l1 : Int32) (l2 : Int32) : Sm g 3 4 [(0, va_rf (some l0)), (1, .int l1), (2, .int l2)] [] (C_X11_countSessions_B4 l0 kb ke28 l1 l2) := by
  unfold C_X11_countSessions_B4
  refine s_iload_n B.1.1 2 dX11_countSessions_4 rfl rfl ?_
  refine s_bipush (v := (12)) B.1.1 dX11_countSessions_5 (by decide) ?_
  refine s_icmp_ge B.1.1 28 dX11_countSessions_7 (by decide) ?_ ?_
  · exact Sm.lvs [1] rfl (hke28 l1)
  · refine s_rload_n B.1.1 0 dX11_countSessions_10 rfl rfl ?_
    refine hp_getR B.1 13 1 rfl (by decide) inX11 (by decide) fk_X11_1 cf_X11_20 dX11_countSessions_11 (fun v1 => ?_)
    refine s_iload_n B.1.1 2 dX11_countSessions_14 rfl rfl ?_
    refine hp_Ar B.1 5 (by decide) (fun _ => rfl) dX11_countSessions_15 (fun v2 => ?_)
    refine s_ifnull B.1.1 22 dX11_countSessions_16 (by decide) ?_ ?_
    · refine s_iinc (v := l2 + 1) (lv' := [(2, .int (l2 + 1)), (0, va_rf (some l0)), (1, .int l1)]) B.1.1 2 dX11_countSessions_22 rfl rfl (by decide) rfl ?_
      refine s_goto B.1.1 4 dX11_countSessions_25 (by decide) ?_
      exact Sm.lvs [1, 2, 0] rfl (hkb l1 (l2 + 1))
    · refine s_iinc (v := l1 + 1) (lv' := [(1, .int (l1 + 1)), (0, va_rf (some l0)), (2, .int l2)]) B.1.1 1 dX11_countSessions_19 rfl rfl (by decide) rfl ?_
      refine s_iinc (v := l2 + 1) (lv' := [(2, .int (l2 + 1)), (1, .int (l1 + 1)), (0, va_rf (some l0))]) B.1.1 2 dX11_countSessions_22 rfl rfl (by decide) rfl ?_
      refine s_goto B.1.1 4 dX11_countSessions_25 (by decide) ?_
      exact Sm.lvs [2, 1, 0] rfl (hkb (l1 + 1) (l2 + 1))
set_option maxRecDepth 10000 in
theorem sc_X11_countSessions_L4 {g : Gm Hp Int32} {ke28 : Int32 → Hp → Option (Int32 × Hp)} (B : Bx g cX11_countSessions 3 RX11 voI (some .int) 0 0 "countSessions") {l0 : Nat} (hke28 : ∀ (l1 : Int32), Sm g 3 28 [(1, .int l1)] [] (ke28 l1)) : ∀ (n : Nat) (l1 : Int32) (l2 : Int32), Sm g 3 4 [(0, va_rf (some l0)), (1, .int l1), (2, .int l2)] [] (C_X11_countSessions_L4 l0 ke28 n l1 l2)
  | 0, _, _ => Sm.fail
  | n + 1, l1, l2 => sc_X11_countSessions_B4 B (sc_X11_countSessions_L4 B hke28 n) hke28 l1 l2
def C_X11_countSessions (l0 : Nat) : Hp → Option (Int32 × Hp) :=
  C_X11_countSessions_L4 l0 (fun l1 => C_X11_countSessions_J28 l0 l1) fu (0 : Int32) (0 : Int32)
set_option maxRecDepth 10000 in
theorem mo_C_X11_countSessions (l0 : Nat) : Mo (C_X11_countSessions l0) := by
  unfold C_X11_countSessions
  repeat' (with_reducible first | assumption | exact mo_rt _ | exact mo_zt _ | exact mo_no | apply mo_C_X11_countSessions_L4 | apply mo_C_X11_countSessions_J28 | refine mo_ite ?_ ?_ | refine mo_hgI (fun _ => ?_) | refine mo_hgR (fun _ => ?_) | refine mo_hCv (fun _ => ?_) (fun _ => ?_) | refine mo_lq (fun _ => ?_) | refine mo_hpI ?_ | refine mo_hpR ?_ | refine mo_hAi (fun _ => ?_) | refine mo_hAr (fun _ => ?_) | refine mo_hWi ?_ | refine mo_hWr ?_ | refine mo_hLn (fun _ => ?_) | refine mo_hgL (fun _ => ?_) | refine mo_hpL ?_ | refine mo_hpZ ?_ | refine mo_bd ?_ (fun _ => ?_) | refine mo_hCi (fun _ => ?_) (fun _ => ?_) | refine mo_hNw (fun _ => ?_) | refine mo_hNa (fun _ => ?_) | refine mo_hCp ?_ | refine mo_hOi ?_ | refine mo_hAl (fun _ => ?_) | refine mo_hWl ?_ | refine mo_gd ?_ | refine mo_sLn (fun _ => ?_) | refine mo_sAt (fun _ => ?_) | refine mo_kLn (fun _ => ?_) | refine mo_kAt (fun _ => ?_))
set_option maxRecDepth 10000 in
theorem mC_X11_countSessions {w : Wd} (hw : Wc w) (l0 : Nat) : MH w yX11_countSessions cX11_countSessions 3 (some .int) 0 0 voI [va_rf (some l0)] (C_X11_countSessions l0) := by
  have M0 : ∀ g : Gm Hp Int32, g.1 = w → Bx g cX11_countSessions 3 RX11 voI (some .int) 0 0 "countSessions" → Sm g 3 0 (lv_args 0 [va_rf (some l0)]) [] (C_X11_countSessions l0) := by
    intro g hg B
    subst hg
    unfold C_X11_countSessions
    refine W_lva (lv := [(0, va_rf (some l0))]) (by simp [lv_args, va_rf_cat, cat_i, cat_l, cat_r]) ?_
    refine s_iconst (v := 0) B.1.1 dX11_countSessions_0 (by decide) ?_
    refine s_istore_n (i := 1) (lv' := [(1, .int (0 : Int32)), (0, va_rf (some l0))]) B.1.1 dX11_countSessions_1 rfl (by decide) rfl ?_
    refine s_iconst (v := 0) B.1.1 dX11_countSessions_2 (by decide) ?_
    refine s_istore_n (i := 2) (lv' := [(2, .int (0 : Int32)), (1, .int (0 : Int32)), (0, va_rf (some l0))]) B.1.1 dX11_countSessions_3 rfl (by decide) rfl ?_
    exact Sm.lvs [2, 1, 0] rfl (sc_X11_countSessions_L4 B (fun l1 => sc_X11_countSessions_J28 B l1) fu (0 : Int32) (0 : Int32))
  exact MH.of hw ⟨rfl, rfl⟩ (by decide) (by simp [lg_sl, va_rf_cat, cat_i, cat_l, cat_r]) (mo_C_X11_countSessions l0) M0
def C_X11_greeted_J43 (l0 : Nat) : Hp → Option (Int32 × Hp) :=
  hgR 13 3 (some l0) fun v1 =>
  hgI 7 4 v1 fun v2 =>
  if v2 = 0 then (
    rt ((3 : Int32))
  ) else (
    hgR 13 3 (some l0) fun v3 =>
    hgI 7 4 v3 fun v4 =>
    rt (v4)
  )
set_option maxRecDepth 10000 in
theorem mo_C_X11_greeted_J43 (l0 : Nat) : Mo (C_X11_greeted_J43 l0) := by
  unfold C_X11_greeted_J43
  repeat' (with_reducible first | assumption | exact mo_rt _ | exact mo_zt _ | exact mo_no | refine mo_ite ?_ ?_ | refine mo_hgI (fun _ => ?_) | refine mo_hgR (fun _ => ?_) | refine mo_hCv (fun _ => ?_) (fun _ => ?_) | refine mo_lq (fun _ => ?_) | refine mo_hpI ?_ | refine mo_hpR ?_ | refine mo_hAi (fun _ => ?_) | refine mo_hAr (fun _ => ?_) | refine mo_hWi ?_ | refine mo_hWr ?_ | refine mo_hLn (fun _ => ?_) | refine mo_hgL (fun _ => ?_) | refine mo_hpL ?_ | refine mo_hpZ ?_ | refine mo_bd ?_ (fun _ => ?_) | refine mo_hCi (fun _ => ?_) (fun _ => ?_) | refine mo_hNw (fun _ => ?_) | refine mo_hNa (fun _ => ?_) | refine mo_hCp ?_ | refine mo_hOi ?_ | refine mo_hAl (fun _ => ?_) | refine mo_hWl ?_ | refine mo_gd ?_ | refine mo_sLn (fun _ => ?_) | refine mo_sAt (fun _ => ?_) | refine mo_kLn (fun _ => ?_) | refine mo_kAt (fun _ => ?_))
set_option maxRecDepth 10000 in
theorem sc_X11_greeted_J43 {g : Gm Hp Int32} (B : Bx g cX11_greeted 1 RX11 voI (some .int) 2 45 "greeted") {l0 : Nat} : Sm g 1 43 [(0, va_rf (some l0))] [] (C_X11_greeted_J43 l0) := by
  unfold C_X11_greeted_J43
  refine s_rload_n B.1.1 0 dX11_greeted_43 rfl rfl ?_
  refine hp_getR B.1 13 3 rfl (by decide) inX11 (by decide) fk_X11_3 cf_X11_34 dX11_greeted_44 (fun v1 => ?_)
  refine hp_getI B.1 7 4 rfl (by decide) inX5 (by decide) fk_X5_4.1 fk_X5_4.2 cf_X11_341 dX11_greeted_47 (fun v2 => ?_)
  refine s_if_ne B.1.1 57 dX11_greeted_50 (by decide) ?_ ?_
  · refine s_rload_n B.1.1 0 dX11_greeted_57 rfl rfl ?_
    refine hp_getR B.1 13 3 rfl (by decide) inX11 (by decide) fk_X11_3 cf_X11_34 dX11_greeted_58 (fun v3 => ?_)
    refine hp_getI B.1 7 4 rfl (by decide) inX5 (by decide) fk_X5_4.1 fk_X5_4.2 cf_X11_341 dX11_greeted_61 (fun v4 => ?_)
    exact s_iret B.1.1 B.2.2.2.2 dX11_greeted_64
  · refine s_iconst (v := 3) B.1.1 dX11_greeted_53 (by decide) ?_
    refine s_goto B.1.1 64 dX11_greeted_54 (by decide) ?_
    exact s_iret B.1.1 B.2.2.2.2 dX11_greeted_64
def C_X11_greeted (l0 : Nat) : Hp → Option (Int32 × Hp) :=
  hgR 13 3 (some l0) fun v5 =>
  hgI 7 4 v5 fun v6 =>
  if v6 = 0 then (
    hCv 13 (some l0) (fun a => C_X11_countSessions a) fun r7 =>
    if r7 = (12 : Int32) then (
      hgR 13 6 (some l0) fun v8 =>
      hgR 4 0 v8 fun v9 =>
      hCv 13 (some l0) (fun a => C_X11_find a v9) fun r10 =>
      if r10 = none then (
        hgR 13 3 (some l0) fun v11 =>
        hCv 7 v11 (fun a => C_X5_fail a (151 : Int32)) fun r12 =>
        C_X11_greeted_J43 l0
      ) else (
        C_X11_greeted_J43 l0
      )
    ) else (
      C_X11_greeted_J43 l0
    )
  ) else (
    C_X11_greeted_J43 l0
  )
set_option maxRecDepth 10000 in
theorem mo_C_X11_greeted (l0 : Nat) : Mo (C_X11_greeted l0) := by
  unfold C_X11_greeted
  repeat' (with_reducible first | assumption | exact mo_rt _ | exact mo_zt _ | exact mo_no | apply mo_C_X11_countSessions | apply mo_C_X11_find | apply mo_C_X5_fail | apply mo_C_X11_greeted_J43 | refine mo_ite ?_ ?_ | refine mo_hgI (fun _ => ?_) | refine mo_hgR (fun _ => ?_) | refine mo_hCv (fun _ => ?_) (fun _ => ?_) | refine mo_lq (fun _ => ?_) | refine mo_hpI ?_ | refine mo_hpR ?_ | refine mo_hAi (fun _ => ?_) | refine mo_hAr (fun _ => ?_) | refine mo_hWi ?_ | refine mo_hWr ?_ | refine mo_hLn (fun _ => ?_) | refine mo_hgL (fun _ => ?_) | refine mo_hpL ?_ | refine mo_hpZ ?_ | refine mo_bd ?_ (fun _ => ?_) | refine mo_hCi (fun _ => ?_) (fun _ => ?_) | refine mo_hNw (fun _ => ?_) | refine mo_hNa (fun _ => ?_) | refine mo_hCp ?_ | refine mo_hOi ?_ | refine mo_hAl (fun _ => ?_) | refine mo_hWl ?_ | refine mo_gd ?_ | refine mo_sLn (fun _ => ?_) | refine mo_sAt (fun _ => ?_) | refine mo_kLn (fun _ => ?_) | refine mo_kAt (fun _ => ?_))
set_option maxRecDepth 10000 in
theorem mC_X11_greeted {w : Wd} (hw : Wc w) (l0 : Nat) : MH w yX11_greeted cX11_greeted 1 (some .int) 2 45 voI [va_rf (some l0)] (C_X11_greeted l0) := by
  have M0 : ∀ g : Gm Hp Int32, g.1 = w → Bx g cX11_greeted 1 RX11 voI (some .int) 2 45 "greeted" → Sm g 1 0 (lv_args 0 [va_rf (some l0)]) [] (C_X11_greeted l0) := by
    intro g hg B
    subst hg
    unfold C_X11_greeted
    refine W_lva (lv := [(0, va_rf (some l0))]) (by simp [lv_args, va_rf_cat, cat_i, cat_l, cat_r]) ?_
    refine s_rload_n B.1.1 0 dX11_greeted_0 rfl rfl ?_
    refine hp_getR B.1 13 3 rfl (by decide) inX11 (by decide) fk_X11_3 cf_X11_34 dX11_greeted_1 (fun v5 => ?_)
    refine hp_getI B.1 7 4 rfl (by decide) inX5 (by decide) fk_X5_4.1 fk_X5_4.2 cf_X11_341 dX11_greeted_4 (fun v6 => ?_)
    refine s_if_ne B.1.1 43 dX11_greeted_7 (by decide) ?_ ?_
    · exact Sm.lvs [0] rfl (sc_X11_greeted_J43 B)
    · refine s_rload_n B.1.1 0 dX11_greeted_10 rfl rfl ?_
      refine hp_cvi (As := []) (st := []) 13 rfl (by decide) B.1 (fun a => mC_X11_countSessions B.2.1 a ) cc_X11_countSessions cl_X11_241 cn_X11_countSessions ce_X11_countSessions ci_X11 cd_X11_countSessions (by decide) rfl (Nat.le_of_ble_eq_true rfl) dX11_greeted_11 (fun r7 => ?_)
      refine s_bipush (v := (12)) B.1.1 dX11_greeted_14 (by decide) ?_
      refine s_icmp_ne B.1.1 43 dX11_greeted_16 (by decide) ?_ ?_
      · exact Sm.lvs [0] rfl (sc_X11_greeted_J43 B)
      · refine s_rload_n B.1.1 0 dX11_greeted_19 rfl rfl ?_
        refine s_rload_n B.1.1 0 dX11_greeted_20 rfl rfl ?_
        refine hp_getR B.1 13 6 rfl (by decide) inX11 (by decide) fk_X11_6 cf_X11_55 dX11_greeted_21 (fun v8 => ?_)
        refine hp_getR B.1 4 0 rfl (by decide) inX2 (by decide) fk_X2_0 cf_X11_362 dX11_greeted_24 (fun v9 => ?_)
        refine hp_cvr (As := [va_rf v9]) (st := []) 13 rfl (by decide) B.1 (fun a => mC_X11_find B.2.1 a v9) cc_X11_find cl_X11_363 cn_X11_find ce_X11_find ci_X11 cd_X11_find (by decide) rfl (Nat.le_of_ble_eq_true rfl) dX11_greeted_27 (fun r10 => ?_)
        refine s_ifnonnull B.1.1 43 dX11_greeted_30 (by decide) ?_ ?_
        · exact Sm.lvs [0] rfl (sc_X11_greeted_J43 B)
        · refine s_rload_n B.1.1 0 dX11_greeted_33 rfl rfl ?_
          refine hp_getR B.1 13 3 rfl (by decide) inX11 (by decide) fk_X11_3 cf_X11_34 dX11_greeted_34 (fun v11 => ?_)
          refine s_sipush (v := (151)) B.1.1 dX11_greeted_37 (by decide) ?_
          refine hp_cvv (As := [.int (151 : Int32)]) (st := []) 7 rfl (by decide) B.1 (fun a => mC_X5_fail B.2.1 a (151 : Int32)) cc_X5_fail cl_X11_359 cn_X5_fail ce_X5_fail ci_X5 cd_X5_fail (by decide) rfl (Nat.le_of_ble_eq_true rfl) dX11_greeted_40 (fun r12 => ?_)
          exact Sm.lvs [0] rfl (sc_X11_greeted_J43 B)
  exact MH.of hw ⟨rfl, rfl⟩ (by decide) (by simp [lg_sl, va_rf_cat, cat_i, cat_l, cat_r]) (mo_C_X11_greeted l0) M0
def C_X4_get (l0 : Nat) (l1 : Int32) (l2 : Int64) : Hp → Option (Int64 × Hp) :=
  hCv 6 (some l0) (fun a => C_X4_has a l1) fun r1 =>
  if r1 = 0 then (
    rt (l2)
  ) else (
    hgR 6 1 (some l0) fun v2 =>
    hAl v2 l1 fun v3 =>
    rt (v3)
  )
set_option maxRecDepth 10000 in
theorem mo_C_X4_get (l0 : Nat) (l1 : Int32) (l2 : Int64) : Mo (C_X4_get l0 l1 l2) := by
  unfold C_X4_get
  repeat' (with_reducible first | assumption | exact mo_rt _ | exact mo_zt _ | exact mo_no | apply mo_C_X4_has | refine mo_ite ?_ ?_ | refine mo_hgI (fun _ => ?_) | refine mo_hgR (fun _ => ?_) | refine mo_hCv (fun _ => ?_) (fun _ => ?_) | refine mo_lq (fun _ => ?_) | refine mo_hpI ?_ | refine mo_hpR ?_ | refine mo_hAi (fun _ => ?_) | refine mo_hAr (fun _ => ?_) | refine mo_hWi ?_ | refine mo_hWr ?_ | refine mo_hLn (fun _ => ?_) | refine mo_hgL (fun _ => ?_) | refine mo_hpL ?_ | refine mo_hpZ ?_ | refine mo_bd ?_ (fun _ => ?_) | refine mo_hCi (fun _ => ?_) (fun _ => ?_) | refine mo_hNw (fun _ => ?_) | refine mo_hNa (fun _ => ?_) | refine mo_hCp ?_ | refine mo_hOi ?_ | refine mo_hAl (fun _ => ?_) | refine mo_hWl ?_ | refine mo_gd ?_ | refine mo_sLn (fun _ => ?_) | refine mo_sAt (fun _ => ?_) | refine mo_kLn (fun _ => ?_) | refine mo_kAt (fun _ => ?_))
set_option maxRecDepth 10000 in
theorem mC_X4_get {w : Wd} (hw : Wc w) (l0 : Nat) (l1 : Int32) (l2 : Int64) : MH w yX4_get cX4_get 4 (some .long) 1 21 voL [va_rf (some l0), .int l1, .long l2] (C_X4_get l0 l1 l2) := by
  have M0 : ∀ g : Gm Hp Int64, g.1 = w → Bx g cX4_get 4 RX4 voL (some .long) 1 21 "get" → Sm g 4 0 (lv_args 0 [va_rf (some l0), .int l1, .long l2]) [] (C_X4_get l0 l1 l2) := by
    intro g hg B
    subst hg
    unfold C_X4_get
    refine W_lva (lv := [(0, va_rf (some l0)), (1, .int l1), (2, .long l2)]) (by simp [lv_args, va_rf_cat, cat_i, cat_l, cat_r]) ?_
    refine s_rload_n B.1.1 0 dX4_get_0 rfl rfl ?_
    refine s_iload_n B.1.1 1 dX4_get_1 rfl rfl ?_
    refine hp_cvi (As := [.int l1]) (st := []) 6 rfl (by decide) B.1 (fun a => mC_X4_has B.2.1 a l1) cc_X4_has cl_X4_68 cn_X4_has ce_X4_has ci_X4 cd_X4_has (by decide) rfl (Nat.le_of_ble_eq_true rfl) dX4_get_2 (fun r1 => ?_)
    refine s_if_eq B.1.1 17 dX4_get_5 (by decide) ?_ ?_
    · refine s_lload_n B.1.1 2 dX4_get_17 rfl rfl ?_
      exact s_lret B.1.1 B.2.2.2.2 dX4_get_18
    · refine s_rload_n B.1.1 0 dX4_get_8 rfl rfl ?_
      refine hp_getR B.1 6 1 rfl (by decide) inX4 (by decide) fk_X4_1 cf_X4_9 dX4_get_9 (fun v2 => ?_)
      refine s_iload_n B.1.1 1 dX4_get_12 rfl rfl ?_
      refine hp_Al B.1 dX4_get_13 (fun v3 => ?_)
      refine s_goto B.1.1 18 dX4_get_14 (by decide) ?_
      exact s_lret B.1.1 B.2.2.2.2 dX4_get_18
  exact MH.of hw ⟨rfl, rfl⟩ (by decide) (by simp [lg_sl, va_rf_cat, cat_i, cat_l, cat_r]) (mo_C_X4_get l0 l1 l2) M0
def C_X11_leave_J108 (l0 : Nat) (l1 : Option Nat) (l3 : Int32) (l4 : Int64) : Hp → Option (Int32 × Hp) :=
  hgR 13 3 (some l0) fun v1 =>
  hgI 7 4 v1 fun v2 =>
  if v2 = 0 then (
    hpL 10 13 l1 l4 <|
    if l3 = 0 then (
      hpR 10 11 l1 none <|
      rt ((4 : Int32))
    ) else (
      rt ((4 : Int32))
    )
  ) else (
    hgR 13 3 (some l0) fun v3 =>
    hgI 7 4 v3 fun v4 =>
    rt (v4)
  )
set_option maxRecDepth 10000 in
theorem mo_C_X11_leave_J108 (l0 : Nat) (l1 : Option Nat) (l3 : Int32) (l4 : Int64) : Mo (C_X11_leave_J108 l0 l1 l3 l4) := by
  unfold C_X11_leave_J108
  repeat' (with_reducible first | assumption | exact mo_rt _ | exact mo_zt _ | exact mo_no | refine mo_ite ?_ ?_ | refine mo_hgI (fun _ => ?_) | refine mo_hgR (fun _ => ?_) | refine mo_hCv (fun _ => ?_) (fun _ => ?_) | refine mo_lq (fun _ => ?_) | refine mo_hpI ?_ | refine mo_hpR ?_ | refine mo_hAi (fun _ => ?_) | refine mo_hAr (fun _ => ?_) | refine mo_hWi ?_ | refine mo_hWr ?_ | refine mo_hLn (fun _ => ?_) | refine mo_hgL (fun _ => ?_) | refine mo_hpL ?_ | refine mo_hpZ ?_ | refine mo_bd ?_ (fun _ => ?_) | refine mo_hCi (fun _ => ?_) (fun _ => ?_) | refine mo_hNw (fun _ => ?_) | refine mo_hNa (fun _ => ?_) | refine mo_hCp ?_ | refine mo_hOi ?_ | refine mo_hAl (fun _ => ?_) | refine mo_hWl ?_ | refine mo_gd ?_ | refine mo_sLn (fun _ => ?_) | refine mo_sAt (fun _ => ?_) | refine mo_kLn (fun _ => ?_) | refine mo_kAt (fun _ => ?_))
set_option maxRecDepth 10000 in
theorem sc_X11_leave_J108 {g : Gm Hp Int32} (B : Bx g cX11_leave 6 RX11 voI (some .int) 6 160 "leave") {l0 : Nat} (l1 : Option Nat) (l3 : Int32) (l4 : Int64) : Sm g 6 108 [(0, va_rf (some l0)), (1, va_rf l1), (3, .int l3), (4, .long l4)] [] (C_X11_leave_J108 l0 l1 l3 l4) := by
  unfold C_X11_leave_J108
  refine s_rload_n B.1.1 0 dX11_leave_108 rfl rfl ?_
  refine hp_getR B.1 13 3 rfl (by decide) inX11 (by decide) fk_X11_3 cf_X11_34 dX11_leave_109 (fun v1 => ?_)
  refine hp_getI B.1 7 4 rfl (by decide) inX5 (by decide) fk_X5_4.1 fk_X5_4.2 cf_X11_341 dX11_leave_112 (fun v2 => ?_)
  refine s_if_eq B.1.1 126 dX11_leave_115 (by decide) ?_ ?_
  · refine s_rload_n B.1.1 1 dX11_leave_126 rfl rfl ?_
    refine s_lload B.1.1 3 dX11_leave_127 rfl ?_
    refine hp_putL B.1 10 13 rfl (by decide) inX8 tyX8 tyX8_ok nmX8 (by decide) fk_X8_13 ft_X8_13 rfl cf_X11_190 dX11_leave_129 ?_
    refine s_iload_n B.1.1 2 dX11_leave_132 rfl rfl ?_
    refine s_if_ne B.1.1 141 dX11_leave_133 (by decide) ?_ ?_
    · refine s_iconst (v := 4) B.1.1 dX11_leave_141 (by decide) ?_
      exact s_iret B.1.1 B.2.2.2.2 dX11_leave_142
    · refine s_rload_n B.1.1 1 dX11_leave_136 rfl rfl ?_
      refine s_null B.1.1 dX11_leave_137 ?_
      refine hp_putR B.1 10 11 rfl (by decide) inX8 tyX8 tyX8_ok nmX8 (by decide) fk_X8_11 ft_X8_11 rfR rfl cf_X11_170 dX11_leave_138 ?_
      refine s_iconst (v := 4) B.1.1 dX11_leave_141 (by decide) ?_
      exact s_iret B.1.1 B.2.2.2.2 dX11_leave_142
  · refine s_rload_n B.1.1 0 dX11_leave_118 rfl rfl ?_
    refine hp_getR B.1 13 3 rfl (by decide) inX11 (by decide) fk_X11_3 cf_X11_34 dX11_leave_119 (fun v3 => ?_)
    refine hp_getI B.1 7 4 rfl (by decide) inX5 (by decide) fk_X5_4.1 fk_X5_4.2 cf_X11_341 dX11_leave_122 (fun v4 => ?_)
    exact s_iret B.1.1 B.2.2.2.2 dX11_leave_125
def C_X11_leave_J60 (l0 : Nat) (l1 : Option Nat) (l3 : Int32) : Hp → Option (Int32 × Hp) :=
  hgR 13 3 (some l0) fun v5 =>
  hCv 7 v5 (fun a => C_X5_finish a) fun r6 =>
  hgR 13 4 (some l0) fun v7 =>
  hgL 10 13 l1 fun v8 =>
  hCv 6 v7 (fun a => C_X4_get a (17 : Int32) v8) fun r9 =>
  if (lg_cmp r9 (0 : Int64)) = 0 then (
    C_X11_leave_J108 l0 l1 l3 r9
  ) else (
    hgL 10 13 l1 fun v10 =>
    if (lg_cmp v10 (0 : Int64)) = 0 then (
      hgR 13 3 (some l0) fun v11 =>
      hCv 7 v11 (fun a => C_X5_fail a (130 : Int32)) fun r12 =>
      C_X11_leave_J108 l0 l1 l3 r9
    ) else (
      C_X11_leave_J108 l0 l1 l3 r9
    )
  )
set_option maxRecDepth 10000 in
theorem mo_C_X11_leave_J60 (l0 : Nat) (l1 : Option Nat) (l3 : Int32) : Mo (C_X11_leave_J60 l0 l1 l3) := by
  unfold C_X11_leave_J60
  repeat' (with_reducible first | assumption | exact mo_rt _ | exact mo_zt _ | exact mo_no | apply mo_C_X5_finish | apply mo_C_X4_get | apply mo_C_X11_leave_J108 | apply mo_C_X5_fail | refine mo_ite ?_ ?_ | refine mo_hgI (fun _ => ?_) | refine mo_hgR (fun _ => ?_) | refine mo_hCv (fun _ => ?_) (fun _ => ?_) | refine mo_lq (fun _ => ?_) | refine mo_hpI ?_ | refine mo_hpR ?_ | refine mo_hAi (fun _ => ?_) | refine mo_hAr (fun _ => ?_) | refine mo_hWi ?_ | refine mo_hWr ?_ | refine mo_hLn (fun _ => ?_) | refine mo_hgL (fun _ => ?_) | refine mo_hpL ?_ | refine mo_hpZ ?_ | refine mo_bd ?_ (fun _ => ?_) | refine mo_hCi (fun _ => ?_) (fun _ => ?_) | refine mo_hNw (fun _ => ?_) | refine mo_hNa (fun _ => ?_) | refine mo_hCp ?_ | refine mo_hOi ?_ | refine mo_hAl (fun _ => ?_) | refine mo_hWl ?_ | refine mo_gd ?_ | refine mo_sLn (fun _ => ?_) | refine mo_sAt (fun _ => ?_) | refine mo_kLn (fun _ => ?_) | refine mo_kAt (fun _ => ?_))
set_option maxRecDepth 10000 in
theorem sc_X11_leave_J60 {g : Gm Hp Int32} (B : Bx g cX11_leave 6 RX11 voI (some .int) 6 160 "leave") {l0 : Nat} (l1 : Option Nat) (l3 : Int32) : Sm g 6 60 [(0, va_rf (some l0)), (1, va_rf l1), (3, .int l3)] [] (C_X11_leave_J60 l0 l1 l3) := by
  unfold C_X11_leave_J60
  refine s_rload_n B.1.1 0 dX11_leave_60 rfl rfl ?_
  refine hp_getR B.1 13 3 rfl (by decide) inX11 (by decide) fk_X11_3 cf_X11_34 dX11_leave_61 (fun v5 => ?_)
  refine hp_cvv (As := []) (st := []) 7 rfl (by decide) B.1 (fun a => mC_X5_finish B.2.1 a ) cc_X5_finish cl_X11_338 cn_X5_finish ce_X5_finish ci_X5 cd_X5_finish (by decide) rfl (Nat.le_of_ble_eq_true rfl) dX11_leave_64 (fun r6 => ?_)
  refine s_rload_n B.1.1 0 dX11_leave_67 rfl rfl ?_
  refine hp_getR B.1 13 4 rfl (by decide) inX11 (by decide) fk_X11_4 cf_X11_41 dX11_leave_68 (fun v7 => ?_)
  refine s_bipush (v := (17)) B.1.1 dX11_leave_71 (by decide) ?_
  refine s_rload_n B.1.1 1 dX11_leave_73 rfl rfl ?_
  refine hp_getL B.1 10 13 rfl (by decide) inX8 (by decide) fk_X8_13 cf_X11_190 dX11_leave_74 (fun v8 => ?_)
  refine hp_cvl (As := [.int (17 : Int32), .long v8]) (st := []) 6 rfl (by decide) B.1 (fun a => mC_X4_get B.2.1 a (17 : Int32) v8) cc_X4_get cl_X11_356 cn_X4_get ce_X4_get ci_X4 cd_X4_get (by decide) rfl (Nat.le_of_ble_eq_true rfl) dX11_leave_77 (fun r9 => ?_)
  refine s_lstore (i := 4) (lv' := [(4, .long r9), (0, va_rf (some l0)), (1, va_rf l1), (3, .int l3)]) B.1.1 dX11_leave_80 (by decide) rfl ?_
  refine s_lload B.1.1 0 dX11_leave_82 rfl ?_
  refine s_lconst (v := 0) B.1.1 dX11_leave_84 (by decide) ?_
  refine s_lcmp B.1.1 dX11_leave_85 ?_
  refine s_if_eq B.1.1 108 dX11_leave_86 (by decide) ?_ ?_
  · exact Sm.lvs [1, 2, 3, 0] rfl (sc_X11_leave_J108 B l1 l3 r9)
  · refine s_rload_n B.1.1 2 dX11_leave_89 rfl rfl ?_
    refine hp_getL B.1 10 13 rfl (by decide) inX8 (by decide) fk_X8_13 cf_X11_190 dX11_leave_90 (fun v10 => ?_)
    refine s_lconst (v := 0) B.1.1 dX11_leave_93 (by decide) ?_
    refine s_lcmp B.1.1 dX11_leave_94 ?_
    refine s_if_ne B.1.1 108 dX11_leave_95 (by decide) ?_ ?_
    · exact Sm.lvs [1, 2, 3, 0] rfl (sc_X11_leave_J108 B l1 l3 r9)
    · refine s_rload_n B.1.1 1 dX11_leave_98 rfl rfl ?_
      refine hp_getR B.1 13 3 rfl (by decide) inX11 (by decide) fk_X11_3 cf_X11_34 dX11_leave_99 (fun v11 => ?_)
      refine s_sipush (v := (130)) B.1.1 dX11_leave_102 (by decide) ?_
      refine hp_cvv (As := [.int (130 : Int32)]) (st := []) 7 rfl (by decide) B.1 (fun a => mC_X5_fail B.2.1 a (130 : Int32)) cc_X5_fail cl_X11_359 cn_X5_fail ce_X5_fail ci_X5 cd_X5_fail (by decide) rfl (Nat.le_of_ble_eq_true rfl) dX11_leave_105 (fun r12 => ?_)
      exact Sm.lvs [1, 2, 3, 0] rfl (sc_X11_leave_J108 B l1 l3 r9)
def C_X11_leave_J36 (l0 : Nat) (l1 : Option Nat) (l3 : Int32) : Hp → Option (Int32 × Hp) :=
  hgR 13 3 (some l0) fun v13 =>
  hCv 7 v13 (fun a => C_X5_left a) fun r14 =>
  if r14 ≤ 0 then (
    C_X11_leave_J60 l0 l1 l3
  ) else (
    hgR 13 4 (some l0) fun v15 =>
    hgR 13 3 (some l0) fun v16 =>
    hCv 6 v15 (fun a => C_X4_read a v16 (277025521664 : Int64)) fun r17 =>
    C_X11_leave_J60 l0 l1 l3
  )
set_option maxRecDepth 10000 in
theorem mo_C_X11_leave_J36 (l0 : Nat) (l1 : Option Nat) (l3 : Int32) : Mo (C_X11_leave_J36 l0 l1 l3) := by
  unfold C_X11_leave_J36
  repeat' (with_reducible first | assumption | exact mo_rt _ | exact mo_zt _ | exact mo_no | apply mo_C_X5_left | apply mo_C_X11_leave_J60 | apply mo_C_X4_read | refine mo_ite ?_ ?_ | refine mo_hgI (fun _ => ?_) | refine mo_hgR (fun _ => ?_) | refine mo_hCv (fun _ => ?_) (fun _ => ?_) | refine mo_lq (fun _ => ?_) | refine mo_hpI ?_ | refine mo_hpR ?_ | refine mo_hAi (fun _ => ?_) | refine mo_hAr (fun _ => ?_) | refine mo_hWi ?_ | refine mo_hWr ?_ | refine mo_hLn (fun _ => ?_) | refine mo_hgL (fun _ => ?_) | refine mo_hpL ?_ | refine mo_hpZ ?_ | refine mo_bd ?_ (fun _ => ?_) | refine mo_hCi (fun _ => ?_) (fun _ => ?_) | refine mo_hNw (fun _ => ?_) | refine mo_hNa (fun _ => ?_) | refine mo_hCp ?_ | refine mo_hOi ?_ | refine mo_hAl (fun _ => ?_) | refine mo_hWl ?_ | refine mo_gd ?_ | refine mo_sLn (fun _ => ?_) | refine mo_sAt (fun _ => ?_) | refine mo_kLn (fun _ => ?_) | refine mo_kAt (fun _ => ?_))
set_option maxRecDepth 10000 in
theorem sc_X11_leave_J36 {g : Gm Hp Int32} (B : Bx g cX11_leave 6 RX11 voI (some .int) 6 160 "leave") {l0 : Nat} (l1 : Option Nat) (l3 : Int32) : Sm g 6 36 [(0, va_rf (some l0)), (1, va_rf l1), (3, .int l3)] [] (C_X11_leave_J36 l0 l1 l3) := by
  unfold C_X11_leave_J36
  refine s_rload_n B.1.1 0 dX11_leave_36 rfl rfl ?_
  refine hp_getR B.1 13 3 rfl (by decide) inX11 (by decide) fk_X11_3 cf_X11_34 dX11_leave_37 (fun v13 => ?_)
  refine hp_cvi (As := []) (st := []) 7 rfl (by decide) B.1 (fun a => mC_X5_left B.2.1 a ) cc_X5_left cl_X11_347 cn_X5_left ce_X5_left ci_X5 cd_X5_left (by decide) rfl (Nat.le_of_ble_eq_true rfl) dX11_leave_40 (fun r14 => ?_)
  refine s_if_le B.1.1 60 dX11_leave_43 (by decide) ?_ ?_
  · exact Sm.lvs [0, 1, 2] rfl (sc_X11_leave_J60 B l1 l3)
  · refine s_rload_n B.1.1 0 dX11_leave_46 rfl rfl ?_
    refine hp_getR B.1 13 4 rfl (by decide) inX11 (by decide) fk_X11_4 cf_X11_41 dX11_leave_47 (fun v15 => ?_)
    refine s_rload_n B.1.1 0 dX11_leave_50 rfl rfl ?_
    refine hp_getR B.1 13 3 rfl (by decide) inX11 (by decide) fk_X11_3 cf_X11_34 dX11_leave_51 (fun v16 => ?_)
    refine s_ldc2 (v := (277025521664)) B.1.1 tw_1253 dX11_leave_54 ?_
    refine hp_cvv (As := [va_rf v16, .long (277025521664 : Int64)]) (st := []) 6 rfl (by decide) B.1 (fun a => mC_X4_read B.2.1 a v16 (277025521664 : Int64)) cc_X4_read cl_X11_353 cn_X4_read ce_X4_read ci_X4 cd_X4_read (by decide) rfl (Nat.le_of_ble_eq_true rfl) dX11_leave_57 (fun r17 => ?_)
    exact Sm.lvs [0, 1, 2] rfl (sc_X11_leave_J60 B l1 l3)
def C_X11_leave (l0 : Nat) (l1 : Option Nat) (l2 : Int32) : Hp → Option (Int32 × Hp) :=
  hgR 13 3 (some l0) fun v18 =>
  hCv 7 v18 (fun a => C_X5_expect a l2 (0 : Int32)) fun r19 =>
  hgR 13 4 (some l0) fun v20 =>
  hCv 6 v20 (fun a => C_X4_clear a) fun r21 =>
  hgR 13 3 (some l0) fun v22 =>
  hCv 7 v22 (fun a => C_X5_left a) fun r23 =>
  if r23 ≤ 0 then (
    C_X11_leave_J36 l0 l1 (0 : Int32)
  ) else (
    hgR 13 3 (some l0) fun v24 =>
    hCv 7 v24 (fun a => C_X5_one a) fun r25 =>
    C_X11_leave_J36 l0 l1 r25
  )
set_option maxRecDepth 10000 in
theorem mo_C_X11_leave (l0 : Nat) (l1 : Option Nat) (l2 : Int32) : Mo (C_X11_leave l0 l1 l2) := by
  unfold C_X11_leave
  repeat' (with_reducible first | assumption | exact mo_rt _ | exact mo_zt _ | exact mo_no | apply mo_C_X5_expect | apply mo_C_X4_clear | apply mo_C_X5_left | apply mo_C_X11_leave_J36 | apply mo_C_X5_one | refine mo_ite ?_ ?_ | refine mo_hgI (fun _ => ?_) | refine mo_hgR (fun _ => ?_) | refine mo_hCv (fun _ => ?_) (fun _ => ?_) | refine mo_lq (fun _ => ?_) | refine mo_hpI ?_ | refine mo_hpR ?_ | refine mo_hAi (fun _ => ?_) | refine mo_hAr (fun _ => ?_) | refine mo_hWi ?_ | refine mo_hWr ?_ | refine mo_hLn (fun _ => ?_) | refine mo_hgL (fun _ => ?_) | refine mo_hpL ?_ | refine mo_hpZ ?_ | refine mo_bd ?_ (fun _ => ?_) | refine mo_hCi (fun _ => ?_) (fun _ => ?_) | refine mo_hNw (fun _ => ?_) | refine mo_hNa (fun _ => ?_) | refine mo_hCp ?_ | refine mo_hOi ?_ | refine mo_hAl (fun _ => ?_) | refine mo_hWl ?_ | refine mo_gd ?_ | refine mo_sLn (fun _ => ?_) | refine mo_sAt (fun _ => ?_) | refine mo_kLn (fun _ => ?_) | refine mo_kAt (fun _ => ?_))
set_option maxRecDepth 10000 in
theorem mC_X11_leave {w : Wd} (hw : Wc w) (l0 : Nat) (l1 : Option Nat) (l2 : Int32) : MH w yX11_leave cX11_leave 6 (some .int) 6 160 voI [va_rf (some l0), va_rf l1, .int l2] (C_X11_leave l0 l1 l2) := by
  have M0 : ∀ g : Gm Hp Int32, g.1 = w → Bx g cX11_leave 6 RX11 voI (some .int) 6 160 "leave" → Sm g 6 0 (lv_args 0 [va_rf (some l0), va_rf l1, .int l2]) [] (C_X11_leave l0 l1 l2) := by
    intro g hg B
    subst hg
    unfold C_X11_leave
    refine W_lva (lv := [(0, va_rf (some l0)), (1, va_rf l1), (2, .int l2)]) (by simp [lv_args, va_rf_cat, cat_i, cat_l, cat_r]) ?_
    refine s_rload_n B.1.1 0 dX11_leave_0 rfl rfl ?_
    refine hp_getR B.1 13 3 rfl (by decide) inX11 (by decide) fk_X11_3 cf_X11_34 dX11_leave_1 (fun v18 => ?_)
    refine s_iload_n B.1.1 2 dX11_leave_4 rfl rfl ?_
    refine s_iconst (v := 0) B.1.1 dX11_leave_5 (by decide) ?_
    refine hp_cvv (As := [.int l2, .int (0 : Int32)]) (st := []) 7 rfl (by decide) B.1 (fun a => mC_X5_expect B.2.1 a l2 (0 : Int32)) cc_X5_expect cl_X11_334 cn_X5_expect ce_X5_expect ci_X5 cd_X5_expect (by decide) rfl (Nat.le_of_ble_eq_true rfl) dX11_leave_6 (fun r19 => ?_)
    refine s_rload_n B.1.1 0 dX11_leave_9 rfl rfl ?_
    refine hp_getR B.1 13 4 rfl (by decide) inX11 (by decide) fk_X11_4 cf_X11_41 dX11_leave_10 (fun v20 => ?_)
    refine hp_cvv (As := []) (st := []) 6 rfl (by decide) B.1 (fun a => mC_X4_clear B.2.1 a ) cc_X4_clear cl_X11_344 cn_X4_clear ce_X4_clear ci_X4 cd_X4_clear (by decide) rfl (Nat.le_of_ble_eq_true rfl) dX11_leave_13 (fun r21 => ?_)
    refine s_iconst (v := 0) B.1.1 dX11_leave_16 (by decide) ?_
    refine s_istore_n (i := 3) (lv' := [(3, .int (0 : Int32)), (0, va_rf (some l0)), (1, va_rf l1), (2, .int l2)]) B.1.1 dX11_leave_17 rfl (by decide) rfl ?_
    refine s_rload_n B.1.1 1 dX11_leave_18 rfl rfl ?_
    refine hp_getR B.1 13 3 rfl (by decide) inX11 (by decide) fk_X11_3 cf_X11_34 dX11_leave_19 (fun v22 => ?_)
    refine hp_cvi (As := []) (st := []) 7 rfl (by decide) B.1 (fun a => mC_X5_left B.2.1 a ) cc_X5_left cl_X11_347 cn_X5_left ce_X5_left ci_X5 cd_X5_left (by decide) rfl (Nat.le_of_ble_eq_true rfl) dX11_leave_22 (fun r23 => ?_)
    refine s_if_le B.1.1 36 dX11_leave_25 (by decide) ?_ ?_
    · exact Sm.lvs [1, 2, 0] rfl (sc_X11_leave_J36 B l1 (0 : Int32))
    · refine s_rload_n B.1.1 1 dX11_leave_28 rfl rfl ?_
      refine hp_getR B.1 13 3 rfl (by decide) inX11 (by decide) fk_X11_3 cf_X11_34 dX11_leave_29 (fun v24 => ?_)
      refine hp_cvi (As := []) (st := []) 7 rfl (by decide) B.1 (fun a => mC_X5_one B.2.1 a ) cc_X5_one cl_X11_349 cn_X5_one ce_X5_one ci_X5 cd_X5_one (by decide) rfl (Nat.le_of_ble_eq_true rfl) dX11_leave_32 (fun r25 => ?_)
      refine s_istore_n (i := 3) (lv' := [(3, .int r25), (0, va_rf (some l0)), (1, va_rf l1), (2, .int l2)]) B.1.1 dX11_leave_35 rfl (by decide) rfl ?_
      exact Sm.lvs [1, 2, 0] rfl (sc_X11_leave_J36 B l1 r25)
  exact MH.of hw ⟨rfl, rfl⟩ (by decide) (by simp [lg_sl, va_rf_cat, cat_i, cat_l, cat_r]) (mo_C_X11_leave l0 l1 l2) M0
def C_X11_ping (l0 : Nat) (l1 : Option Nat) (l2 : Int32) : Hp → Option (Int32 × Hp) :=
  hgR 13 3 (some l0) fun v1 =>
  hCv 7 v1 (fun a => C_X5_expect a l2 (0 : Int32)) fun r2 =>
  hgR 13 3 (some l0) fun v3 =>
  hCv 7 v3 (fun a => C_X5_finish a) fun r4 =>
  hgR 13 3 (some l0) fun v5 =>
  hgI 7 4 v5 fun v6 =>
  if v6 = 0 then (
    hgR 13 5 (some l0) fun v7 =>
    hCv 12 v7 (fun a => C_X10_begin a (208 : Int32)) fun r8 =>
    hgR 13 5 (some l0) fun v9 =>
    hCv 2 l1 (fun a => C_X0_put a v9) fun r10 =>
    rt ((0 : Int32))
  ) else (
    hgR 13 3 (some l0) fun v11 =>
    hgI 7 4 v11 fun v12 =>
    rt (v12)
  )
set_option maxRecDepth 10000 in
theorem mo_C_X11_ping (l0 : Nat) (l1 : Option Nat) (l2 : Int32) : Mo (C_X11_ping l0 l1 l2) := by
  unfold C_X11_ping
  repeat' (with_reducible first | assumption | exact mo_rt _ | exact mo_zt _ | exact mo_no | apply mo_C_X5_expect | apply mo_C_X5_finish | apply mo_C_X10_begin | apply mo_C_X0_put | refine mo_ite ?_ ?_ | refine mo_hgI (fun _ => ?_) | refine mo_hgR (fun _ => ?_) | refine mo_hCv (fun _ => ?_) (fun _ => ?_) | refine mo_lq (fun _ => ?_) | refine mo_hpI ?_ | refine mo_hpR ?_ | refine mo_hAi (fun _ => ?_) | refine mo_hAr (fun _ => ?_) | refine mo_hWi ?_ | refine mo_hWr ?_ | refine mo_hLn (fun _ => ?_) | refine mo_hgL (fun _ => ?_) | refine mo_hpL ?_ | refine mo_hpZ ?_ | refine mo_bd ?_ (fun _ => ?_) | refine mo_hCi (fun _ => ?_) (fun _ => ?_) | refine mo_hNw (fun _ => ?_) | refine mo_hNa (fun _ => ?_) | refine mo_hCp ?_ | refine mo_hOi ?_ | refine mo_hAl (fun _ => ?_) | refine mo_hWl ?_ | refine mo_gd ?_ | refine mo_sLn (fun _ => ?_) | refine mo_sAt (fun _ => ?_) | refine mo_kLn (fun _ => ?_) | refine mo_kAt (fun _ => ?_))
set_option maxRecDepth 10000 in
theorem mC_X11_ping {w : Wd} (hw : Wc w) (l0 : Nat) (l1 : Option Nat) (l2 : Int32) : MH w yX11_ping cX11_ping 3 (some .int) 2 64 voI [va_rf (some l0), va_rf l1, .int l2] (C_X11_ping l0 l1 l2) := by
  have M0 : ∀ g : Gm Hp Int32, g.1 = w → Bx g cX11_ping 3 RX11 voI (some .int) 2 64 "ping" → Sm g 3 0 (lv_args 0 [va_rf (some l0), va_rf l1, .int l2]) [] (C_X11_ping l0 l1 l2) := by
    intro g hg B
    subst hg
    unfold C_X11_ping
    refine W_lva (lv := [(0, va_rf (some l0)), (1, va_rf l1), (2, .int l2)]) (by simp [lv_args, va_rf_cat, cat_i, cat_l, cat_r]) ?_
    refine s_rload_n B.1.1 0 dX11_ping_0 rfl rfl ?_
    refine hp_getR B.1 13 3 rfl (by decide) inX11 (by decide) fk_X11_3 cf_X11_34 dX11_ping_1 (fun v1 => ?_)
    refine s_iload_n B.1.1 2 dX11_ping_4 rfl rfl ?_
    refine s_iconst (v := 0) B.1.1 dX11_ping_5 (by decide) ?_
    refine hp_cvv (As := [.int l2, .int (0 : Int32)]) (st := []) 7 rfl (by decide) B.1 (fun a => mC_X5_expect B.2.1 a l2 (0 : Int32)) cc_X5_expect cl_X11_334 cn_X5_expect ce_X5_expect ci_X5 cd_X5_expect (by decide) rfl (Nat.le_of_ble_eq_true rfl) dX11_ping_6 (fun r2 => ?_)
    refine s_rload_n B.1.1 0 dX11_ping_9 rfl rfl ?_
    refine hp_getR B.1 13 3 rfl (by decide) inX11 (by decide) fk_X11_3 cf_X11_34 dX11_ping_10 (fun v3 => ?_)
    refine hp_cvv (As := []) (st := []) 7 rfl (by decide) B.1 (fun a => mC_X5_finish B.2.1 a ) cc_X5_finish cl_X11_338 cn_X5_finish ce_X5_finish ci_X5 cd_X5_finish (by decide) rfl (Nat.le_of_ble_eq_true rfl) dX11_ping_13 (fun r4 => ?_)
    refine s_rload_n B.1.1 0 dX11_ping_16 rfl rfl ?_
    refine hp_getR B.1 13 3 rfl (by decide) inX11 (by decide) fk_X11_3 cf_X11_34 dX11_ping_17 (fun v5 => ?_)
    refine hp_getI B.1 7 4 rfl (by decide) inX5 (by decide) fk_X5_4.1 fk_X5_4.2 cf_X11_341 dX11_ping_20 (fun v6 => ?_)
    refine s_if_eq B.1.1 34 dX11_ping_23 (by decide) ?_ ?_
    · refine s_rload_n B.1.1 0 dX11_ping_34 rfl rfl ?_
      refine hp_getR B.1 13 5 rfl (by decide) inX11 (by decide) fk_X11_5 cf_X11_48 dX11_ping_35 (fun v7 => ?_)
      refine s_sipush (v := (208)) B.1.1 dX11_ping_38 (by decide) ?_
      refine hp_cvv (As := [.int (208 : Int32)]) (st := []) 12 rfl (by decide) B.1 (fun a => mC_X10_begin B.2.1 a (208 : Int32)) cc_X10_begin cl_X11_322 cn_X10_begin ce_X10_begin ci_X10 cd_X10_begin (by decide) rfl (Nat.le_of_ble_eq_true rfl) dX11_ping_41 (fun r8 => ?_)
      refine s_rload_n B.1.1 1 dX11_ping_44 rfl rfl ?_
      refine s_rload_n B.1.1 0 dX11_ping_45 rfl rfl ?_
      refine hp_getR B.1 13 5 rfl (by decide) inX11 (by decide) fk_X11_5 cf_X11_48 dX11_ping_46 (fun v9 => ?_)
      refine hp_cvv (As := [va_rf v9]) (st := []) 2 rfl (by decide) B.1 (fun a => mC_X0_put B.2.1 a v9) cc_X0_put cl_X11_327 cn_X0_put ce_X0_put ci_X0 cd_X0_put (by decide) rfl (Nat.le_of_ble_eq_true rfl) dX11_ping_49 (fun r10 => ?_)
      refine s_iconst (v := 0) B.1.1 dX11_ping_52 (by decide) ?_
      exact s_iret B.1.1 B.2.2.2.2 dX11_ping_53
    · refine s_rload_n B.1.1 0 dX11_ping_26 rfl rfl ?_
      refine hp_getR B.1 13 3 rfl (by decide) inX11 (by decide) fk_X11_3 cf_X11_34 dX11_ping_27 (fun v11 => ?_)
      refine hp_getI B.1 7 4 rfl (by decide) inX5 (by decide) fk_X5_4.1 fk_X5_4.2 cf_X11_341 dX11_ping_30 (fun v12 => ?_)
      exact s_iret B.1.1 B.2.2.2.2 dX11_ping_33
  exact MH.of hw ⟨rfl, rfl⟩ (by decide) (by simp [lg_sl, va_rf_cat, cat_i, cat_l, cat_r]) (mo_C_X11_ping l0 l1 l2) M0
def C_X0_resolve_J48 (l0 : Nat) (l1 : Option Nat) : Hp → Option ((Option Nat) × Hp) :=
  rt (l1)
set_option maxRecDepth 10000 in
theorem mo_C_X0_resolve_J48 (l0 : Nat) (l1 : Option Nat) : Mo (C_X0_resolve_J48 l0 l1) := by
  unfold C_X0_resolve_J48
  repeat' (with_reducible first | assumption | exact mo_rt _ | exact mo_zt _ | exact mo_no | refine mo_ite ?_ ?_ | refine mo_hgI (fun _ => ?_) | refine mo_hgR (fun _ => ?_) | refine mo_hCv (fun _ => ?_) (fun _ => ?_) | refine mo_lq (fun _ => ?_) | refine mo_hpI ?_ | refine mo_hpR ?_ | refine mo_hAi (fun _ => ?_) | refine mo_hAr (fun _ => ?_) | refine mo_hWi ?_ | refine mo_hWr ?_ | refine mo_hLn (fun _ => ?_) | refine mo_hgL (fun _ => ?_) | refine mo_hpL ?_ | refine mo_hpZ ?_ | refine mo_bd ?_ (fun _ => ?_) | refine mo_hCi (fun _ => ?_) (fun _ => ?_) | refine mo_hNw (fun _ => ?_) | refine mo_hNa (fun _ => ?_) | refine mo_hCp ?_ | refine mo_hOi ?_ | refine mo_hAl (fun _ => ?_) | refine mo_hWl ?_ | refine mo_gd ?_ | refine mo_sLn (fun _ => ?_) | refine mo_sAt (fun _ => ?_) | refine mo_kLn (fun _ => ?_) | refine mo_kAt (fun _ => ?_))
set_option maxRecDepth 10000 in
theorem sc_X0_resolve_J48 {g : Gm Hp (Option Nat)} (B : Bx g cX0_resolve 4 RX0 voR (some (.object "TopicBroker$Row")) 1 20 "resolve") {l0 : Nat} (l1 : Option Nat) : Sm g 4 48 [(1, va_rf l1)] [] (C_X0_resolve_J48 l0 l1) := by
  unfold C_X0_resolve_J48
  refine s_rload_n B.1.1 0 dX0_resolve_48 rfl rfl ?_
  exact s_aret B.1.1 B.2.2.2.2 (Or.inl ⟨_, rfl⟩) dX0_resolve_49
def C_X0_resolve_J14 (l0 : Nat) (l1 : Option Nat) (l2 : Int32) (s0 : Int32) : Hp → Option ((Option Nat) × Hp) :=
  hCv 9 l1 (fun a => C_X7_count a) fun r1 =>
  if r1 = 0 then (
    if s0 = 0 then (
      rt (none)
    ) else (
      hgR 2 11 (some l0) fun v3 =>
      hAr 8 v3 l2 fun v4 =>
      rt (v4)
    )
  ) else (
    if s0 = 0 then (
      C_X0_resolve_J48 l0 l1
    ) else (
      hgR 2 11 (some l0) fun v2 =>
      hWr 8 9 v2 l2 l1 <|
      C_X0_resolve_J48 l0 l1
    )
  )
set_option maxRecDepth 10000 in
theorem mo_C_X0_resolve_J14 (l0 : Nat) (l1 : Option Nat) (l2 : Int32) (s0 : Int32) : Mo (C_X0_resolve_J14 l0 l1 l2 s0) := by
  unfold C_X0_resolve_J14
  repeat' (with_reducible first | assumption | exact mo_rt _ | exact mo_zt _ | exact mo_no | apply mo_C_X7_count | apply mo_C_X0_resolve_J48 | refine mo_ite ?_ ?_ | refine mo_hgI (fun _ => ?_) | refine mo_hgR (fun _ => ?_) | refine mo_hCv (fun _ => ?_) (fun _ => ?_) | refine mo_lq (fun _ => ?_) | refine mo_hpI ?_ | refine mo_hpR ?_ | refine mo_hAi (fun _ => ?_) | refine mo_hAr (fun _ => ?_) | refine mo_hWi ?_ | refine mo_hWr ?_ | refine mo_hLn (fun _ => ?_) | refine mo_hgL (fun _ => ?_) | refine mo_hpL ?_ | refine mo_hpZ ?_ | refine mo_bd ?_ (fun _ => ?_) | refine mo_hCi (fun _ => ?_) (fun _ => ?_) | refine mo_hNw (fun _ => ?_) | refine mo_hNa (fun _ => ?_) | refine mo_hCp ?_ | refine mo_hOi ?_ | refine mo_hAl (fun _ => ?_) | refine mo_hWl ?_ | refine mo_gd ?_ | refine mo_sLn (fun _ => ?_) | refine mo_sAt (fun _ => ?_) | refine mo_kLn (fun _ => ?_) | refine mo_kAt (fun _ => ?_))
set_option maxRecDepth 10000 in
theorem sc_X0_resolve_J14 {g : Gm Hp (Option Nat)} (B : Bx g cX0_resolve 4 RX0 voR (some (.object "TopicBroker$Row")) 1 20 "resolve") {l0 : Nat} (l1 : Option Nat) (l2 : Int32) (s0 : Int32) : Sm g 4 14 [(0, va_rf (some l0)), (1, va_rf l1), (2, .int l2)] [.int s0] (C_X0_resolve_J14 l0 l1 l2 s0) := by
  unfold C_X0_resolve_J14
  refine s_istore_n (i := 3) (lv' := [(3, .int s0), (0, va_rf (some l0)), (1, va_rf l1), (2, .int l2)]) B.1.1 dX0_resolve_14 rfl (by decide) rfl ?_
  refine s_rload_n B.1.1 2 dX0_resolve_15 rfl rfl ?_
  refine hp_cvi (As := []) (st := []) 9 rfl (by decide) B.1 (fun a => mC_X7_count B.2.1 a ) cc_X7_count cl_X0_79 cn_X7_count ce_X7_count ci_X7 cd_X7_count (by decide) rfl (Nat.le_of_ble_eq_true rfl) dX0_resolve_16 (fun r1 => ?_)
  refine s_if_ne B.1.1 37 dX0_resolve_19 (by decide) ?_ ?_
  · refine s_iload_n B.1.1 0 dX0_resolve_37 rfl rfl ?_
    refine s_if_eq B.1.1 48 dX0_resolve_38 (by decide) ?_ ?_
    · exact Sm.lvs [2] rfl (sc_X0_resolve_J48 B l1)
    · refine s_rload_n B.1.1 1 dX0_resolve_41 rfl rfl ?_
      refine hp_getR B.1 2 11 rfl (by decide) inX0 (by decide) fk_X0_11 cf_X0_20 dX0_resolve_42 (fun v2 => ?_)
      refine s_iload_n B.1.1 3 dX0_resolve_45 rfl rfl ?_
      refine s_rload_n B.1.1 2 dX0_resolve_46 rfl rfl ?_
      refine hp_Wr B.1 8 9 (by decide) (fun _ => rfl) rfl (by decide) dX0_resolve_47 ?_
      exact Sm.lvs [2] rfl (sc_X0_resolve_J48 B l1)
  · refine s_iload_n B.1.1 0 dX0_resolve_22 rfl rfl ?_
    refine s_if_eq B.1.1 35 dX0_resolve_23 (by decide) ?_ ?_
    · refine s_null B.1.1 dX0_resolve_35 ?_
      exact s_aret B.1.1 B.2.2.2.2 (Or.inl ⟨_, rfl⟩) dX0_resolve_36
    · refine s_rload_n B.1.1 1 dX0_resolve_26 rfl rfl ?_
      refine hp_getR B.1 2 11 rfl (by decide) inX0 (by decide) fk_X0_11 cf_X0_20 dX0_resolve_27 (fun v3 => ?_)
      refine s_iload_n B.1.1 3 dX0_resolve_30 rfl rfl ?_
      refine hp_Ar B.1 8 (by decide) (fun _ => rfl) dX0_resolve_31 (fun v4 => ?_)
      refine s_goto B.1.1 36 dX0_resolve_32 (by decide) ?_
      exact s_aret B.1.1 B.2.2.2.2 (Or.inl ⟨_, rfl⟩) dX0_resolve_36
def C_X0_resolve_J13 (l0 : Nat) (l1 : Option Nat) (l2 : Int32) : Hp → Option ((Option Nat) × Hp) :=
  C_X0_resolve_J14 l0 l1 l2 (0 : Int32)
set_option maxRecDepth 10000 in
theorem mo_C_X0_resolve_J13 (l0 : Nat) (l1 : Option Nat) (l2 : Int32) : Mo (C_X0_resolve_J13 l0 l1 l2) := by
  unfold C_X0_resolve_J13
  repeat' (with_reducible first | assumption | exact mo_rt _ | exact mo_zt _ | exact mo_no | apply mo_C_X0_resolve_J14 | refine mo_ite ?_ ?_ | refine mo_hgI (fun _ => ?_) | refine mo_hgR (fun _ => ?_) | refine mo_hCv (fun _ => ?_) (fun _ => ?_) | refine mo_lq (fun _ => ?_) | refine mo_hpI ?_ | refine mo_hpR ?_ | refine mo_hAi (fun _ => ?_) | refine mo_hAr (fun _ => ?_) | refine mo_hWi ?_ | refine mo_hWr ?_ | refine mo_hLn (fun _ => ?_) | refine mo_hgL (fun _ => ?_) | refine mo_hpL ?_ | refine mo_hpZ ?_ | refine mo_bd ?_ (fun _ => ?_) | refine mo_hCi (fun _ => ?_) (fun _ => ?_) | refine mo_hNw (fun _ => ?_) | refine mo_hNa (fun _ => ?_) | refine mo_hCp ?_ | refine mo_hOi ?_ | refine mo_hAl (fun _ => ?_) | refine mo_hWl ?_ | refine mo_gd ?_ | refine mo_sLn (fun _ => ?_) | refine mo_sAt (fun _ => ?_) | refine mo_kLn (fun _ => ?_) | refine mo_kAt (fun _ => ?_))
set_option maxRecDepth 10000 in
theorem sc_X0_resolve_J13 {g : Gm Hp (Option Nat)} (B : Bx g cX0_resolve 4 RX0 voR (some (.object "TopicBroker$Row")) 1 20 "resolve") {l0 : Nat} (l1 : Option Nat) (l2 : Int32) : Sm g 4 13 [(0, va_rf (some l0)), (1, va_rf l1), (2, .int l2)] [] (C_X0_resolve_J13 l0 l1 l2) := by
  unfold C_X0_resolve_J13
  refine s_iconst (v := 0) B.1.1 dX0_resolve_13 (by decide) ?_
  exact Sm.lvs [0, 1, 2] rfl (sc_X0_resolve_J14 B l1 l2 (0 : Int32))
def C_X0_resolve (l0 : Nat) (l1 : Option Nat) (l2 : Int32) : Hp → Option ((Option Nat) × Hp) :=
  if l2 ≤ 0 then (
    C_X0_resolve_J13 l0 l1 l2
  ) else (
    if (4 : Int32) < l2 then (
      C_X0_resolve_J13 l0 l1 l2
    ) else (
      C_X0_resolve_J14 l0 l1 l2 (1 : Int32)
    )
  )
set_option maxRecDepth 10000 in
theorem mo_C_X0_resolve (l0 : Nat) (l1 : Option Nat) (l2 : Int32) : Mo (C_X0_resolve l0 l1 l2) := by
  unfold C_X0_resolve
  repeat' (with_reducible first | assumption | exact mo_rt _ | exact mo_zt _ | exact mo_no | apply mo_C_X0_resolve_J13 | apply mo_C_X0_resolve_J14 | refine mo_ite ?_ ?_ | refine mo_hgI (fun _ => ?_) | refine mo_hgR (fun _ => ?_) | refine mo_hCv (fun _ => ?_) (fun _ => ?_) | refine mo_lq (fun _ => ?_) | refine mo_hpI ?_ | refine mo_hpR ?_ | refine mo_hAi (fun _ => ?_) | refine mo_hAr (fun _ => ?_) | refine mo_hWi ?_ | refine mo_hWr ?_ | refine mo_hLn (fun _ => ?_) | refine mo_hgL (fun _ => ?_) | refine mo_hpL ?_ | refine mo_hpZ ?_ | refine mo_bd ?_ (fun _ => ?_) | refine mo_hCi (fun _ => ?_) (fun _ => ?_) | refine mo_hNw (fun _ => ?_) | refine mo_hNa (fun _ => ?_) | refine mo_hCp ?_ | refine mo_hOi ?_ | refine mo_hAl (fun _ => ?_) | refine mo_hWl ?_ | refine mo_gd ?_ | refine mo_sLn (fun _ => ?_) | refine mo_sAt (fun _ => ?_) | refine mo_kLn (fun _ => ?_) | refine mo_kAt (fun _ => ?_))
set_option maxRecDepth 10000 in
theorem mC_X0_resolve {w : Wd} (hw : Wc w) (l0 : Nat) (l1 : Option Nat) (l2 : Int32) : MH w yX0_resolve cX0_resolve 4 (some (.object "TopicBroker$Row")) 1 20 voR [va_rf (some l0), va_rf l1, .int l2] (C_X0_resolve l0 l1 l2) := by
  have M0 : ∀ g : Gm Hp (Option Nat), g.1 = w → Bx g cX0_resolve 4 RX0 voR (some (.object "TopicBroker$Row")) 1 20 "resolve" → Sm g 4 0 (lv_args 0 [va_rf (some l0), va_rf l1, .int l2]) [] (C_X0_resolve l0 l1 l2) := by
    intro g hg B
    subst hg
    unfold C_X0_resolve
    refine W_lva (lv := [(0, va_rf (some l0)), (1, va_rf l1), (2, .int l2)]) (by simp [lv_args, va_rf_cat, cat_i, cat_l, cat_r]) ?_
    refine s_iload_n B.1.1 2 dX0_resolve_0 rfl rfl ?_
    refine s_if_le B.1.1 13 dX0_resolve_1 (by decide) ?_ ?_
    · exact Sm.lvs [0, 1, 2] rfl (sc_X0_resolve_J13 B l1 l2)
    · refine s_iload_n B.1.1 2 dX0_resolve_4 rfl rfl ?_
      refine s_iconst (v := 4) B.1.1 dX0_resolve_5 (by decide) ?_
      refine s_icmp_gt B.1.1 13 dX0_resolve_6 (by decide) ?_ ?_
      · exact Sm.lvs [0, 1, 2] rfl (sc_X0_resolve_J13 B l1 l2)
      · refine s_iconst (v := 1) B.1.1 dX0_resolve_9 (by decide) ?_
        refine s_goto B.1.1 14 dX0_resolve_10 (by decide) ?_
        exact Sm.lvs [0, 1, 2] rfl (sc_X0_resolve_J14 B l1 l2 (1 : Int32))
  exact MH.of hw ⟨rfl, rfl⟩ (by decide) (by simp [lg_sl, va_rf_cat, cat_i, cat_l, cat_r]) (mo_C_X0_resolve l0 l1 l2) M0
def C_X8_hold (l0 : Nat) (l1 : Int32) : Hp → Option (Unit × Hp) :=
  hgI 10 10 (some l0) fun v1 =>
  if (8 : Int32) ≤ v1 then (
    rt ()
  ) else (
    hgR 10 9 (some l0) fun v2 =>
    hgI 10 10 (some l0) fun v3 =>
    hWi v2 v3 l1 <|
    hgI 10 10 (some l0) fun v4 =>
    hpI 10 10 (some l0) (v4 + (1 : Int32)) <|
    rt ()
  )
set_option maxRecDepth 10000 in
theorem mo_C_X8_hold (l0 : Nat) (l1 : Int32) : Mo (C_X8_hold l0 l1) := by
  unfold C_X8_hold
  repeat' (with_reducible first | assumption | exact mo_rt _ | exact mo_zt _ | exact mo_no | refine mo_ite ?_ ?_ | refine mo_hgI (fun _ => ?_) | refine mo_hgR (fun _ => ?_) | refine mo_hCv (fun _ => ?_) (fun _ => ?_) | refine mo_lq (fun _ => ?_) | refine mo_hpI ?_ | refine mo_hpR ?_ | refine mo_hAi (fun _ => ?_) | refine mo_hAr (fun _ => ?_) | refine mo_hWi ?_ | refine mo_hWr ?_ | refine mo_hLn (fun _ => ?_) | refine mo_hgL (fun _ => ?_) | refine mo_hpL ?_ | refine mo_hpZ ?_ | refine mo_bd ?_ (fun _ => ?_) | refine mo_hCi (fun _ => ?_) (fun _ => ?_) | refine mo_hNw (fun _ => ?_) | refine mo_hNa (fun _ => ?_) | refine mo_hCp ?_ | refine mo_hOi ?_ | refine mo_hAl (fun _ => ?_) | refine mo_hWl ?_ | refine mo_gd ?_ | refine mo_sLn (fun _ => ?_) | refine mo_sAt (fun _ => ?_) | refine mo_kLn (fun _ => ?_) | refine mo_kAt (fun _ => ?_))
set_option maxRecDepth 10000 in
theorem mC_X8_hold {w : Wd} (hw : Wc w) (l0 : Nat) (l1 : Int32) : MH w yX8_hold cX8_hold 2 none 0 0 voV [va_rf (some l0), .int l1] (C_X8_hold l0 l1) := by
  have M0 : ∀ g : Gm Hp Unit, g.1 = w → Bx g cX8_hold 2 RX8 voV none 0 0 "hold" → Sm g 2 0 (lv_args 0 [va_rf (some l0), .int l1]) [] (C_X8_hold l0 l1) := by
    intro g hg B
    subst hg
    unfold C_X8_hold
    refine W_lva (lv := [(0, va_rf (some l0)), (1, .int l1)]) (by simp [lv_args, va_rf_cat, cat_i, cat_l, cat_r]) ?_
    refine s_rload_n B.1.1 0 dX8_hold_0 rfl rfl ?_
    refine hp_getI B.1 10 10 rfl (by decide) inX8 (by decide) fk_X8_10.1 fk_X8_10.2 cf_X8_94 dX8_hold_1 (fun v1 => ?_)
    refine s_bipush (v := (8)) B.1.1 dX8_hold_4 (by decide) ?_
    refine s_icmp_ge B.1.1 29 dX8_hold_6 (by decide) ?_ ?_
    · exact s_vret B.1.1 B.2.2.2.2 dX8_hold_29
    · refine s_rload_n B.1.1 0 dX8_hold_9 rfl rfl ?_
      refine hp_getR B.1 10 9 rfl (by decide) inX8 (by decide) fk_X8_9 cf_X8_26 dX8_hold_10 (fun v2 => ?_)
      refine s_rload_n B.1.1 0 dX8_hold_13 rfl rfl ?_
      refine hp_getI B.1 10 10 rfl (by decide) inX8 (by decide) fk_X8_10.1 fk_X8_10.2 cf_X8_94 dX8_hold_14 (fun v3 => ?_)
      refine s_iload_n B.1.1 1 dX8_hold_17 rfl rfl ?_
      refine hp_Wi B.1 dX8_hold_18 ?_
      refine s_rload_n B.1.1 0 dX8_hold_19 rfl rfl ?_
      refine s_dup B.1.1 dX8_hold_20 rfl ?_
      refine hp_getI B.1 10 10 rfl (by decide) inX8 (by decide) fk_X8_10.1 fk_X8_10.2 cf_X8_94 dX8_hold_21 (fun v4 => ?_)
      refine s_iconst (v := 1) B.1.1 dX8_hold_24 (by decide) ?_
      refine s_iadd B.1.1 dX8_hold_25 ?_
      refine hp_putI B.1 10 10 rfl (by decide) inX8 tyX8 tyX8_ok nmX8 (by decide) fk_X8_10.1 fk_X8_10.2 ft_X8_10 rfl cf_X8_94 dX8_hold_26 ?_
      exact s_vret B.1.1 B.2.2.2.2 dX8_hold_29
  exact MH.of hw ⟨rfl, rfl⟩ (by decide) (by simp [lg_sl, va_rf_cat, cat_i, cat_l, cat_r]) (mo_C_X8_hold l0 l1) M0
def C_X11_carry_J82 (l0 : Nat) (l4 : Int32) (l5 : Int32) (s0 : Option Nat) (s1 : Option Nat) (s2 : Int32) : Hp → Option (Unit × Hp) :=
  hCv 13 s0 (fun a => C_X11_answer a s1 s2 l4 l5) fun r1 =>
  rt ()
set_option maxRecDepth 10000 in
theorem mo_C_X11_carry_J82 (l0 : Nat) (l4 : Int32) (l5 : Int32) (s0 : Option Nat) (s1 : Option Nat) (s2 : Int32) : Mo (C_X11_carry_J82 l0 l4 l5 s0 s1 s2) := by
  unfold C_X11_carry_J82
  repeat' (with_reducible first | assumption | exact mo_rt _ | exact mo_zt _ | exact mo_no | apply mo_C_X11_answer | refine mo_ite ?_ ?_ | refine mo_hgI (fun _ => ?_) | refine mo_hgR (fun _ => ?_) | refine mo_hCv (fun _ => ?_) (fun _ => ?_) | refine mo_lq (fun _ => ?_) | refine mo_hpI ?_ | refine mo_hpR ?_ | refine mo_hAi (fun _ => ?_) | refine mo_hAr (fun _ => ?_) | refine mo_hWi ?_ | refine mo_hWr ?_ | refine mo_hLn (fun _ => ?_) | refine mo_hgL (fun _ => ?_) | refine mo_hpL ?_ | refine mo_hpZ ?_ | refine mo_bd ?_ (fun _ => ?_) | refine mo_hCi (fun _ => ?_) (fun _ => ?_) | refine mo_hNw (fun _ => ?_) | refine mo_hNa (fun _ => ?_) | refine mo_hCp ?_ | refine mo_hOi ?_ | refine mo_hAl (fun _ => ?_) | refine mo_hWl ?_ | refine mo_gd ?_ | refine mo_sLn (fun _ => ?_) | refine mo_sAt (fun _ => ?_) | refine mo_kLn (fun _ => ?_) | refine mo_kAt (fun _ => ?_))
set_option maxRecDepth 10000 in
theorem sc_X11_carry_J82 {g : Gm Hp Unit} (B : Bx g cX11_carry 6 RX11 voV none 4 117 "carry") {l0 : Nat} (l4 : Int32) (l5 : Int32) (s0 : Option Nat) (s1 : Option Nat) (s2 : Int32) : Sm g 6 82 [(4, .int l4), (5, .int l5)] [.int s2, va_rf s1, va_rf s0] (C_X11_carry_J82 l0 l4 l5 s0 s1 s2) := by
  unfold C_X11_carry_J82
  refine s_iload B.1.1 0 dX11_carry_82 rfl ?_
  refine s_iload B.1.1 1 dX11_carry_84 rfl ?_
  refine hp_cvv (As := [va_rf s1, .int s2, .int l4, .int l5]) (st := []) 13 rfl (by decide) B.1 (fun a => mC_X11_answer B.2.1 a s1 s2 l4 l5) cc_X11_answer cl_X11_443 cn_X11_answer ce_X11_answer ci_X11 cd_X11_answer (by decide) rfl (Nat.le_of_ble_eq_true rfl) dX11_carry_86 (fun r1 => ?_)
  exact s_vret B.1.1 B.2.2.2.2 dX11_carry_89
def C_X11_carry_J58 (l0 : Nat) (l1 : Option Nat) (l3 : Option Nat) (l4 : Int32) (l5 : Int32) : Hp → Option (Unit × Hp) :=
  hgI 5 2 l3 fun v2 =>
  if v2 ≤ 0 then (
    rt ()
  ) else (
    hgI 5 2 l3 fun v3 =>
    if v3 = (1 : Int32) then (
      C_X11_carry_J82 l0 l4 l5 (some l0) l1 (64 : Int32)
    ) else (
      C_X11_carry_J82 l0 l4 l5 (some l0) l1 (80 : Int32)
    )
  )
set_option maxRecDepth 10000 in
theorem mo_C_X11_carry_J58 (l0 : Nat) (l1 : Option Nat) (l3 : Option Nat) (l4 : Int32) (l5 : Int32) : Mo (C_X11_carry_J58 l0 l1 l3 l4 l5) := by
  unfold C_X11_carry_J58
  repeat' (with_reducible first | assumption | exact mo_rt _ | exact mo_zt _ | exact mo_no | apply mo_C_X11_carry_J82 | refine mo_ite ?_ ?_ | refine mo_hgI (fun _ => ?_) | refine mo_hgR (fun _ => ?_) | refine mo_hCv (fun _ => ?_) (fun _ => ?_) | refine mo_lq (fun _ => ?_) | refine mo_hpI ?_ | refine mo_hpR ?_ | refine mo_hAi (fun _ => ?_) | refine mo_hAr (fun _ => ?_) | refine mo_hWi ?_ | refine mo_hWr ?_ | refine mo_hLn (fun _ => ?_) | refine mo_hgL (fun _ => ?_) | refine mo_hpL ?_ | refine mo_hpZ ?_ | refine mo_bd ?_ (fun _ => ?_) | refine mo_hCi (fun _ => ?_) (fun _ => ?_) | refine mo_hNw (fun _ => ?_) | refine mo_hNa (fun _ => ?_) | refine mo_hCp ?_ | refine mo_hOi ?_ | refine mo_hAl (fun _ => ?_) | refine mo_hWl ?_ | refine mo_gd ?_ | refine mo_sLn (fun _ => ?_) | refine mo_sAt (fun _ => ?_) | refine mo_kLn (fun _ => ?_) | refine mo_kAt (fun _ => ?_))
set_option maxRecDepth 10000 in
theorem sc_X11_carry_J58 {g : Gm Hp Unit} (B : Bx g cX11_carry 6 RX11 voV none 4 117 "carry") {l0 : Nat} (l1 : Option Nat) (l3 : Option Nat) (l4 : Int32) (l5 : Int32) : Sm g 6 58 [(0, va_rf (some l0)), (1, va_rf l1), (3, va_rf l3), (4, .int l4), (5, .int l5)] [] (C_X11_carry_J58 l0 l1 l3 l4 l5) := by
  unfold C_X11_carry_J58
  refine s_rload_n B.1.1 2 dX11_carry_58 rfl rfl ?_
  refine hp_getI B.1 5 2 rfl (by decide) inX3 (by decide) fk_X3_2.1 fk_X3_2.2 cf_X11_227 dX11_carry_59 (fun v2 => ?_)
  refine s_if_le B.1.1 89 dX11_carry_62 (by decide) ?_ ?_
  · exact s_vret B.1.1 B.2.2.2.2 dX11_carry_89
  · refine s_rload_n B.1.1 0 dX11_carry_65 rfl rfl ?_
    refine s_rload_n B.1.1 1 dX11_carry_66 rfl rfl ?_
    refine s_rload_n B.1.1 2 dX11_carry_67 rfl rfl ?_
    refine hp_getI B.1 5 2 rfl (by decide) inX3 (by decide) fk_X3_2.1 fk_X3_2.2 cf_X11_227 dX11_carry_68 (fun v3 => ?_)
    refine s_iconst (v := 1) B.1.1 dX11_carry_71 (by decide) ?_
    refine s_icmp_ne B.1.1 80 dX11_carry_72 (by decide) ?_ ?_
    · refine s_bipush (v := (80)) B.1.1 dX11_carry_80 (by decide) ?_
      exact Sm.lvs [3, 4] rfl (sc_X11_carry_J82 B l4 l5 (some l0) l1 (80 : Int32))
    · refine s_bipush (v := (64)) B.1.1 dX11_carry_75 (by decide) ?_
      refine s_goto B.1.1 82 dX11_carry_77 (by decide) ?_
      exact Sm.lvs [3, 4] rfl (sc_X11_carry_J82 B l4 l5 (some l0) l1 (64 : Int32))
def C_X11_carry_J42 (l0 : Nat) (l1 : Option Nat) (l2 : Option Nat) (l3 : Option Nat) (l4 : Int32) (s0 : Int32) : Hp → Option (Unit × Hp) :=
  hgI 5 2 l3 fun v4 =>
  if v4 = (2 : Int32) then (
    hCv 10 l2 (fun a => C_X8_hold a l4) fun r5 =>
    C_X11_carry_J58 l0 l1 l3 l4 s0
  ) else (
    C_X11_carry_J58 l0 l1 l3 l4 s0
  )
set_option maxRecDepth 10000 in
theorem mo_C_X11_carry_J42 (l0 : Nat) (l1 : Option Nat) (l2 : Option Nat) (l3 : Option Nat) (l4 : Int32) (s0 : Int32) : Mo (C_X11_carry_J42 l0 l1 l2 l3 l4 s0) := by
  unfold C_X11_carry_J42
  repeat' (with_reducible first | assumption | exact mo_rt _ | exact mo_zt _ | exact mo_no | apply mo_C_X8_hold | apply mo_C_X11_carry_J58 | refine mo_ite ?_ ?_ | refine mo_hgI (fun _ => ?_) | refine mo_hgR (fun _ => ?_) | refine mo_hCv (fun _ => ?_) (fun _ => ?_) | refine mo_lq (fun _ => ?_) | refine mo_hpI ?_ | refine mo_hpR ?_ | refine mo_hAi (fun _ => ?_) | refine mo_hAr (fun _ => ?_) | refine mo_hWi ?_ | refine mo_hWr ?_ | refine mo_hLn (fun _ => ?_) | refine mo_hgL (fun _ => ?_) | refine mo_hpL ?_ | refine mo_hpZ ?_ | refine mo_bd ?_ (fun _ => ?_) | refine mo_hCi (fun _ => ?_) (fun _ => ?_) | refine mo_hNw (fun _ => ?_) | refine mo_hNa (fun _ => ?_) | refine mo_hCp ?_ | refine mo_hOi ?_ | refine mo_hAl (fun _ => ?_) | refine mo_hWl ?_ | refine mo_gd ?_ | refine mo_sLn (fun _ => ?_) | refine mo_sAt (fun _ => ?_) | refine mo_kLn (fun _ => ?_) | refine mo_kAt (fun _ => ?_))
set_option maxRecDepth 10000 in
theorem sc_X11_carry_J42 {g : Gm Hp Unit} (B : Bx g cX11_carry 6 RX11 voV none 4 117 "carry") {l0 : Nat} (l1 : Option Nat) (l2 : Option Nat) (l3 : Option Nat) (l4 : Int32) (s0 : Int32) : Sm g 6 42 [(0, va_rf (some l0)), (1, va_rf l1), (2, va_rf l2), (3, va_rf l3), (4, .int l4)] [.int s0] (C_X11_carry_J42 l0 l1 l2 l3 l4 s0) := by
  unfold C_X11_carry_J42
  refine s_istore (i := 5) (lv' := [(5, .int s0), (0, va_rf (some l0)), (1, va_rf l1), (2, va_rf l2), (3, va_rf l3), (4, .int l4)]) B.1.1 dX11_carry_42 (by decide) rfl ?_
  refine s_rload_n B.1.1 4 dX11_carry_44 rfl rfl ?_
  refine hp_getI B.1 5 2 rfl (by decide) inX3 (by decide) fk_X3_2.1 fk_X3_2.2 cf_X11_227 dX11_carry_45 (fun v4 => ?_)
  refine s_iconst (v := 2) B.1.1 dX11_carry_48 (by decide) ?_
  refine s_icmp_ne B.1.1 58 dX11_carry_49 (by decide) ?_ ?_
  · exact Sm.lvs [1, 2, 4, 5, 0] rfl (sc_X11_carry_J58 B l1 l3 l4 s0)
  · refine s_rload_n B.1.1 3 dX11_carry_52 rfl rfl ?_
    refine s_iload B.1.1 5 dX11_carry_53 rfl ?_
    refine hp_cvv (As := [.int l4]) (st := []) 10 rfl (by decide) B.1 (fun a => mC_X8_hold B.2.1 a l4) cc_X8_hold cl_X11_502 cn_X8_hold ce_X8_hold ci_X8 cd_X8_hold (by decide) rfl (Nat.le_of_ble_eq_true rfl) dX11_carry_55 (fun r5 => ?_)
    exact Sm.lvs [1, 2, 4, 5, 0] rfl (sc_X11_carry_J58 B l1 l3 l4 s0)
def C_X11_carry_J27 (l0 : Nat) (l1 : Option Nat) (l2 : Option Nat) (l3 : Option Nat) (l4 : Int32) : Hp → Option (Unit × Hp) :=
  hCv 13 (some l0) (fun a => C_X11_distribute a l3 l2) fun r6 =>
  if r6 = 0 then (
    C_X11_carry_J42 l0 l1 l2 l3 l4 (16 : Int32)
  ) else (
    C_X11_carry_J42 l0 l1 l2 l3 l4 (0 : Int32)
  )
set_option maxRecDepth 10000 in
theorem mo_C_X11_carry_J27 (l0 : Nat) (l1 : Option Nat) (l2 : Option Nat) (l3 : Option Nat) (l4 : Int32) : Mo (C_X11_carry_J27 l0 l1 l2 l3 l4) := by
  unfold C_X11_carry_J27
  repeat' (with_reducible first | assumption | exact mo_rt _ | exact mo_zt _ | exact mo_no | apply mo_C_X11_distribute | apply mo_C_X11_carry_J42 | refine mo_ite ?_ ?_ | refine mo_hgI (fun _ => ?_) | refine mo_hgR (fun _ => ?_) | refine mo_hCv (fun _ => ?_) (fun _ => ?_) | refine mo_lq (fun _ => ?_) | refine mo_hpI ?_ | refine mo_hpR ?_ | refine mo_hAi (fun _ => ?_) | refine mo_hAr (fun _ => ?_) | refine mo_hWi ?_ | refine mo_hWr ?_ | refine mo_hLn (fun _ => ?_) | refine mo_hgL (fun _ => ?_) | refine mo_hpL ?_ | refine mo_hpZ ?_ | refine mo_bd ?_ (fun _ => ?_) | refine mo_hCi (fun _ => ?_) (fun _ => ?_) | refine mo_hNw (fun _ => ?_) | refine mo_hNa (fun _ => ?_) | refine mo_hCp ?_ | refine mo_hOi ?_ | refine mo_hAl (fun _ => ?_) | refine mo_hWl ?_ | refine mo_gd ?_ | refine mo_sLn (fun _ => ?_) | refine mo_sAt (fun _ => ?_) | refine mo_kLn (fun _ => ?_) | refine mo_kAt (fun _ => ?_))
set_option maxRecDepth 10000 in
theorem sc_X11_carry_J27 {g : Gm Hp Unit} (B : Bx g cX11_carry 6 RX11 voV none 4 117 "carry") {l0 : Nat} (l1 : Option Nat) (l2 : Option Nat) (l3 : Option Nat) (l4 : Int32) : Sm g 6 27 [(0, va_rf (some l0)), (1, va_rf l1), (2, va_rf l2), (3, va_rf l3), (4, .int l4)] [] (C_X11_carry_J27 l0 l1 l2 l3 l4) := by
  unfold C_X11_carry_J27
  refine s_rload_n B.1.1 0 dX11_carry_27 rfl rfl ?_
  refine s_rload_n B.1.1 3 dX11_carry_28 rfl rfl ?_
  refine s_rload_n B.1.1 2 dX11_carry_29 rfl rfl ?_
  refine hp_cvi (As := [va_rf l3, va_rf l2]) (st := []) 13 rfl (by decide) B.1 (fun a => mC_X11_distribute B.2.1 a l3 l2) cc_X11_distribute cl_X11_498 cn_X11_distribute ce_X11_distribute ci_X11 cd_X11_distribute (by decide) rfl (Nat.le_of_ble_eq_true rfl) dX11_carry_30 (fun r6 => ?_)
  refine s_if_eq B.1.1 40 dX11_carry_33 (by decide) ?_ ?_
  · refine s_bipush (v := (16)) B.1.1 dX11_carry_40 (by decide) ?_
    exact Sm.lvs [0, 1, 2, 3, 4] rfl (sc_X11_carry_J42 B l1 l2 l3 l4 (16 : Int32))
  · refine s_iconst (v := 0) B.1.1 dX11_carry_36 (by decide) ?_
    refine s_goto B.1.1 42 dX11_carry_37 (by decide) ?_
    exact Sm.lvs [0, 1, 2, 3, 4] rfl (sc_X11_carry_J42 B l1 l2 l3 l4 (0 : Int32))
def C_X11_carry (l0 : Nat) (l1 : Option Nat) (l2 : Option Nat) (l3 : Option Nat) (l4 : Int32) : Hp → Option (Unit × Hp) :=
  hgI 5 3 l3 fun v7 =>
  if v7 = 0 then (
    C_X11_carry_J27 l0 l1 l2 l3 l4
  ) else (
    hgR 13 2 (some l0) fun v8 =>
    hgI 13 9 (some l0) fun v9 =>
    hCv 8 v8 (fun a => C_X6_keep a l3 v9) fun r10 =>
    if r10 = 0 then (
      C_X11_carry_J58 l0 l1 l3 l4 (151 : Int32)
    ) else (
      C_X11_carry_J27 l0 l1 l2 l3 l4
    )
  )
set_option maxRecDepth 10000 in
theorem mo_C_X11_carry (l0 : Nat) (l1 : Option Nat) (l2 : Option Nat) (l3 : Option Nat) (l4 : Int32) : Mo (C_X11_carry l0 l1 l2 l3 l4) := by
  unfold C_X11_carry
  repeat' (with_reducible first | assumption | exact mo_rt _ | exact mo_zt _ | exact mo_no | apply mo_C_X11_carry_J27 | apply mo_C_X6_keep | apply mo_C_X11_carry_J58 | refine mo_ite ?_ ?_ | refine mo_hgI (fun _ => ?_) | refine mo_hgR (fun _ => ?_) | refine mo_hCv (fun _ => ?_) (fun _ => ?_) | refine mo_lq (fun _ => ?_) | refine mo_hpI ?_ | refine mo_hpR ?_ | refine mo_hAi (fun _ => ?_) | refine mo_hAr (fun _ => ?_) | refine mo_hWi ?_ | refine mo_hWr ?_ | refine mo_hLn (fun _ => ?_) | refine mo_hgL (fun _ => ?_) | refine mo_hpL ?_ | refine mo_hpZ ?_ | refine mo_bd ?_ (fun _ => ?_) | refine mo_hCi (fun _ => ?_) (fun _ => ?_) | refine mo_hNw (fun _ => ?_) | refine mo_hNa (fun _ => ?_) | refine mo_hCp ?_ | refine mo_hOi ?_ | refine mo_hAl (fun _ => ?_) | refine mo_hWl ?_ | refine mo_gd ?_ | refine mo_sLn (fun _ => ?_) | refine mo_sAt (fun _ => ?_) | refine mo_kLn (fun _ => ?_) | refine mo_kAt (fun _ => ?_))
set_option maxRecDepth 10000 in
theorem mC_X11_carry {w : Wd} (hw : Wc w) (l0 : Nat) (l1 : Option Nat) (l2 : Option Nat) (l3 : Option Nat) (l4 : Int32) : MH w yX11_carry cX11_carry 6 none 4 117 voV [va_rf (some l0), va_rf l1, va_rf l2, va_rf l3, .int l4] (C_X11_carry l0 l1 l2 l3 l4) := by
  have M0 : ∀ g : Gm Hp Unit, g.1 = w → Bx g cX11_carry 6 RX11 voV none 4 117 "carry" → Sm g 6 0 (lv_args 0 [va_rf (some l0), va_rf l1, va_rf l2, va_rf l3, .int l4]) [] (C_X11_carry l0 l1 l2 l3 l4) := by
    intro g hg B
    subst hg
    unfold C_X11_carry
    refine W_lva (lv := [(0, va_rf (some l0)), (1, va_rf l1), (2, va_rf l2), (3, va_rf l3), (4, .int l4)]) (by simp [lv_args, va_rf_cat, cat_i, cat_l, cat_r]) ?_
    refine s_sipush (v := (151)) B.1.1 dX11_carry_0 (by decide) ?_
    refine s_istore (i := 5) (lv' := [(5, .int (151 : Int32)), (0, va_rf (some l0)), (1, va_rf l1), (2, va_rf l2), (3, va_rf l3), (4, .int l4)]) B.1.1 dX11_carry_3 (by decide) rfl ?_
    refine s_rload_n B.1.1 4 dX11_carry_5 rfl rfl ?_
    refine hp_getI B.1 5 3 rfl (by decide) inX3 (by decide) fk_X3_3.1 fk_X3_3.2 cf_X11_492 dX11_carry_6 (fun v7 => ?_)
    refine s_if_eq B.1.1 27 dX11_carry_9 (by decide) ?_ ?_
    · exact Sm.lvs [1, 2, 3, 4, 5] rfl (sc_X11_carry_J27 B l1 l2 l3 l4)
    · refine s_rload_n B.1.1 1 dX11_carry_12 rfl rfl ?_
      refine hp_getR B.1 13 2 rfl (by decide) inX11 (by decide) fk_X11_2 cf_X11_27 dX11_carry_13 (fun v8 => ?_)
      refine s_rload_n B.1.1 4 dX11_carry_16 rfl rfl ?_
      refine s_rload_n B.1.1 1 dX11_carry_17 rfl rfl ?_
      refine hp_getI B.1 13 9 rfl (by decide) inX11 (by decide) fk_X11_9.1 fk_X11_9.2 cf_X11_131 dX11_carry_18 (fun v9 => ?_)
      refine hp_cvi (As := [va_rf l3, .int v9]) (st := []) 8 rfl (by decide) B.1 (fun a => mC_X6_keep B.2.1 a l3 v9) cc_X6_keep cl_X11_495 cn_X6_keep ce_X6_keep ci_X6 cd_X6_keep (by decide) rfl (Nat.le_of_ble_eq_true rfl) dX11_carry_21 (fun r10 => ?_)
      refine s_if_eq B.1.1 58 dX11_carry_24 (by decide) ?_ ?_
      · exact Sm.lvs [1, 2, 4, 5, 0] rfl (sc_X11_carry_J58 B l1 l3 l4 (151 : Int32))
      · exact Sm.lvs [1, 2, 3, 4, 5] rfl (sc_X11_carry_J27 B l1 l2 l3 l4)
  exact MH.of hw ⟨rfl, rfl⟩ (by decide) (by simp [lg_sl, va_rf_cat, cat_i, cat_l, cat_r]) (mo_C_X11_carry l0 l1 l2 l3 l4) M0
def C_X7_isTopic_J41 (l0 : Nat) : Hp → Option (Int32 × Hp) :=
  hgR 9 0 (some l0) fun v1 =>
  hLn 0 v1 fun v2 =>
  if v2 ≤ 0 then (
    zt ((0 : Int32))
  ) else (
    hgR 9 0 (some l0) fun v3 =>
    hLn 0 v3 fun v4 =>
    if (64 : Int32) < v4 then (
      zt ((0 : Int32))
    ) else (
      zt ((1 : Int32))
    )
  )
set_option maxRecDepth 10000 in
theorem mo_C_X7_isTopic_J41 (l0 : Nat) : Mo (C_X7_isTopic_J41 l0) := by
  unfold C_X7_isTopic_J41
  repeat' (with_reducible first | assumption | exact mo_rt _ | exact mo_zt _ | exact mo_no | refine mo_ite ?_ ?_ | refine mo_hgI (fun _ => ?_) | refine mo_hgR (fun _ => ?_) | refine mo_hCv (fun _ => ?_) (fun _ => ?_) | refine mo_lq (fun _ => ?_) | refine mo_hpI ?_ | refine mo_hpR ?_ | refine mo_hAi (fun _ => ?_) | refine mo_hAr (fun _ => ?_) | refine mo_hWi ?_ | refine mo_hWr ?_ | refine mo_hLn (fun _ => ?_) | refine mo_hgL (fun _ => ?_) | refine mo_hpL ?_ | refine mo_hpZ ?_ | refine mo_bd ?_ (fun _ => ?_) | refine mo_hCi (fun _ => ?_) (fun _ => ?_) | refine mo_hNw (fun _ => ?_) | refine mo_hNa (fun _ => ?_) | refine mo_hCp ?_ | refine mo_hOi ?_ | refine mo_hAl (fun _ => ?_) | refine mo_hWl ?_ | refine mo_gd ?_ | refine mo_sLn (fun _ => ?_) | refine mo_sAt (fun _ => ?_) | refine mo_kLn (fun _ => ?_) | refine mo_kAt (fun _ => ?_))
set_option maxRecDepth 10000 in
theorem sc_X7_isTopic_J41 {g : Gm Hp Int32} (B : Bx g cX7_isTopic 2 RX7 voI (some .boolean) 0 0 "isTopic") {l0 : Nat} : Sm g 2 41 [(0, va_rf (some l0))] [] (C_X7_isTopic_J41 l0) := by
  unfold C_X7_isTopic_J41
  refine s_rload_n B.1.1 0 dX7_isTopic_41 rfl rfl ?_
  refine hp_getR B.1 9 0 rfl (by decide) inX7 (by decide) fk_X7_0 cf_X7_9 dX7_isTopic_42 (fun v1 => ?_)
  refine hp_Ln B.1 0 (fun _ => rfl) dX7_isTopic_45 (fun v2 => ?_)
  refine s_if_le B.1.1 63 dX7_isTopic_46 (by decide) ?_ ?_
  · refine s_iconst (v := 0) B.1.1 dX7_isTopic_63 (by decide) ?_
    exact s_zret B.1.1 B.2.2.2.2 dX7_isTopic_64
  · refine s_rload_n B.1.1 0 dX7_isTopic_49 rfl rfl ?_
    refine hp_getR B.1 9 0 rfl (by decide) inX7 (by decide) fk_X7_0 cf_X7_9 dX7_isTopic_50 (fun v3 => ?_)
    refine hp_Ln B.1 0 (fun _ => rfl) dX7_isTopic_53 (fun v4 => ?_)
    refine s_bipush (v := (64)) B.1.1 dX7_isTopic_54 (by decide) ?_
    refine s_icmp_gt B.1.1 63 dX7_isTopic_56 (by decide) ?_ ?_
    · refine s_iconst (v := 0) B.1.1 dX7_isTopic_63 (by decide) ?_
      exact s_zret B.1.1 B.2.2.2.2 dX7_isTopic_64
    · refine s_iconst (v := 1) B.1.1 dX7_isTopic_59 (by decide) ?_
      refine s_goto B.1.1 64 dX7_isTopic_60 (by decide) ?_
      exact s_zret B.1.1 B.2.2.2.2 dX7_isTopic_64
def C_X7_isTopic_J33 (l0 : Nat) : Hp → Option (Int32 × Hp) :=
  zt ((0 : Int32))
set_option maxRecDepth 10000 in
theorem mo_C_X7_isTopic_J33 (l0 : Nat) : Mo (C_X7_isTopic_J33 l0) := by
  unfold C_X7_isTopic_J33
  repeat' (with_reducible first | assumption | exact mo_rt _ | exact mo_zt _ | exact mo_no | refine mo_ite ?_ ?_ | refine mo_hgI (fun _ => ?_) | refine mo_hgR (fun _ => ?_) | refine mo_hCv (fun _ => ?_) (fun _ => ?_) | refine mo_lq (fun _ => ?_) | refine mo_hpI ?_ | refine mo_hpR ?_ | refine mo_hAi (fun _ => ?_) | refine mo_hAr (fun _ => ?_) | refine mo_hWi ?_ | refine mo_hWr ?_ | refine mo_hLn (fun _ => ?_) | refine mo_hgL (fun _ => ?_) | refine mo_hpL ?_ | refine mo_hpZ ?_ | refine mo_bd ?_ (fun _ => ?_) | refine mo_hCi (fun _ => ?_) (fun _ => ?_) | refine mo_hNw (fun _ => ?_) | refine mo_hNa (fun _ => ?_) | refine mo_hCp ?_ | refine mo_hOi ?_ | refine mo_hAl (fun _ => ?_) | refine mo_hWl ?_ | refine mo_gd ?_ | refine mo_sLn (fun _ => ?_) | refine mo_sAt (fun _ => ?_) | refine mo_kLn (fun _ => ?_) | refine mo_kAt (fun _ => ?_))
set_option maxRecDepth 10000 in
theorem sc_X7_isTopic_J33 {g : Gm Hp Int32} (B : Bx g cX7_isTopic 2 RX7 voI (some .boolean) 0 0 "isTopic") {l0 : Nat} : Sm g 2 33 [] [] (C_X7_isTopic_J33 l0) := by
  unfold C_X7_isTopic_J33
  refine s_iconst (v := 0) B.1.1 dX7_isTopic_33 (by decide) ?_
  exact s_zret B.1.1 B.2.2.2.2 dX7_isTopic_34
def C_X7_isTopic_B2 (l0 : Nat) (kb : Int32 → Hp → Option (Int32 × Hp)) (ke33 : Hp → Option (Int32 × Hp)) (ke41 : Hp → Option (Int32 × Hp)) (l1 : Int32) : Hp → Option (Int32 × Hp) :=
  hgR 9 0 (some l0) fun v5 =>
  hLn 0 v5 fun v6 =>
  if v6 ≤ l1 then (
    ke41
  ) else (
    hgR 9 0 (some l0) fun v7 =>
    hAi v7 l1 fun v8 =>
    if v8 = (43 : Int32) then (
      ke33
    ) else (
      hgR 9 0 (some l0) fun v9 =>
      hAi v9 l1 fun v10 =>
      if v10 = (35 : Int32) then (
        ke33
      ) else (
        kb (l1 + 1)
      )
    )
  )
def C_X7_isTopic_L2 (l0 : Nat) (ke33 : Hp → Option (Int32 × Hp)) (ke41 : Hp → Option (Int32 × Hp)) : Nat → Int32 → Hp → Option (Int32 × Hp)
  | 0, _ => no
  | n + 1, l1 => C_X7_isTopic_B2 l0 (fun l1 => C_X7_isTopic_L2 l0 ke33 ke41 n l1) ke33 ke41 l1
set_option maxRecDepth 10000 in
theorem mo_C_X7_isTopic_B2 (l0 : Nat) (kb : Int32 → Hp → Option (Int32 × Hp)) (ke33 : Hp → Option (Int32 × Hp)) (ke41 : Hp → Option (Int32 × Hp)) (hkb : ∀ (l1 : Int32), Mo (kb l1)) (hke33 : Mo (ke33)) (hke41 : Mo (ke41)) (l1 : Int32) : Mo (C_X7_isTopic_B2 l0 kb ke33 ke41 l1) := by
  unfold C_X7_isTopic_B2
  repeat' (with_reducible first | assumption | exact mo_rt _ | exact mo_zt _ | exact mo_no | apply hkb | apply hke33 | apply hke41 | refine mo_ite ?_ ?_ | refine mo_hgI (fun _ => ?_) | refine mo_hgR (fun _ => ?_) | refine mo_hCv (fun _ => ?_) (fun _ => ?_) | refine mo_lq (fun _ => ?_) | refine mo_hpI ?_ | refine mo_hpR ?_ | refine mo_hAi (fun _ => ?_) | refine mo_hAr (fun _ => ?_) | refine mo_hWi ?_ | refine mo_hWr ?_ | refine mo_hLn (fun _ => ?_) | refine mo_hgL (fun _ => ?_) | refine mo_hpL ?_ | refine mo_hpZ ?_ | refine mo_bd ?_ (fun _ => ?_) | refine mo_hCi (fun _ => ?_) (fun _ => ?_) | refine mo_hNw (fun _ => ?_) | refine mo_hNa (fun _ => ?_) | refine mo_hCp ?_ | refine mo_hOi ?_ | refine mo_hAl (fun _ => ?_) | refine mo_hWl ?_ | refine mo_gd ?_ | refine mo_sLn (fun _ => ?_) | refine mo_sAt (fun _ => ?_) | refine mo_kLn (fun _ => ?_) | refine mo_kAt (fun _ => ?_))
set_option maxRecDepth 10000 in
theorem mo_C_X7_isTopic_L2 (l0 : Nat) (ke33 : Hp → Option (Int32 × Hp)) (ke41 : Hp → Option (Int32 × Hp)) (hke33 : Mo (ke33)) (hke41 : Mo (ke41)) : ∀ (n : Nat) (l1 : Int32), Mo (C_X7_isTopic_L2 l0 ke33 ke41 n l1)
  | 0, _ => mo_no
  | n + 1, l1 => mo_C_X7_isTopic_B2 l0 _ ke33 ke41 (mo_C_X7_isTopic_L2 l0 ke33 ke41 hke33 hke41 n) hke33 hke41 l1
set_option maxRecDepth 10000 in
theorem sc_X7_isTopic_B2 {g : Gm Hp Int32} {kb : Int32 → Hp → Option (Int32 × Hp)} {ke33 : Hp → Option (Int32 × Hp)} {ke41 : Hp → Option (Int32 × Hp)} (B : Bx g cX7_isTopic 2 RX7 voI (some .boolean) 0 0 "isTopic") {l0 : Nat} (hkb : ∀ (l1 : Int32), Sm g 2 2 [(0, va_rf (some l0)), (1, .int l1)] [] (kb l1)) (hke33 : Sm g 2 33 [] [] (ke33)) (hke41 : Sm g 2 41 [(0, va_rf (some l0))] [] (ke41)) (l1 : Int32) : Sm g 2 2 [(0, va_rf (some l0)), (1, .int l1)] [] (C_X7_isTopic_B2 l0 kb ke33 ke41 l1) := by
  unfold C_X7_isTopic_B2
  refine s_iload_n B.1.1 1 dX7_isTopic_2 rfl rfl ?_
  refine s_rload_n B.1.1 0 dX7_isTopic_3 rfl rfl ?_
  refine hp_getR B.1 9 0 rfl (by decide) inX7 (by decide) fk_X7_0 cf_X7_9 dX7_isTopic_4 (fun v5 => ?_)
  refine hp_Ln B.1 0 (fun _ => rfl) dX7_isTopic_7 (fun v6 => ?_)
  refine s_icmp_ge B.1.1 41 dX7_isTopic_8 (by decide) ?_ ?_
  · exact Sm.lvs [0] rfl (hke41)
  · refine s_rload_n B.1.1 0 dX7_isTopic_11 rfl rfl ?_
    refine hp_getR B.1 9 0 rfl (by decide) inX7 (by decide) fk_X7_0 cf_X7_9 dX7_isTopic_12 (fun v7 => ?_)
    refine s_iload_n B.1.1 1 dX7_isTopic_15 rfl rfl ?_
    refine hp_Ai B.1 dX7_isTopic_16 (fun v8 => ?_)
    refine s_bipush (v := (43)) B.1.1 dX7_isTopic_17 (by decide) ?_
    refine s_icmp_eq B.1.1 33 dX7_isTopic_19 (by decide) ?_ ?_
    · exact Sm.lvs [] rfl (hke33)
    · refine s_rload_n B.1.1 0 dX7_isTopic_22 rfl rfl ?_
      refine hp_getR B.1 9 0 rfl (by decide) inX7 (by decide) fk_X7_0 cf_X7_9 dX7_isTopic_23 (fun v9 => ?_)
      refine s_iload_n B.1.1 1 dX7_isTopic_26 rfl rfl ?_
      refine hp_Ai B.1 dX7_isTopic_27 (fun v10 => ?_)
      refine s_bipush (v := (35)) B.1.1 dX7_isTopic_28 (by decide) ?_
      refine s_icmp_ne B.1.1 35 dX7_isTopic_30 (by decide) ?_ ?_
      · refine s_iinc (v := l1 + 1) (lv' := [(1, .int (l1 + 1)), (0, va_rf (some l0))]) B.1.1 1 dX7_isTopic_35 rfl rfl (by decide) rfl ?_
        refine s_goto B.1.1 2 dX7_isTopic_38 (by decide) ?_
        exact Sm.lvs [1, 0] rfl (hkb (l1 + 1))
      · exact Sm.lvs [] rfl (hke33)
set_option maxRecDepth 10000 in
theorem sc_X7_isTopic_L2 {g : Gm Hp Int32} {ke33 : Hp → Option (Int32 × Hp)} {ke41 : Hp → Option (Int32 × Hp)} (B : Bx g cX7_isTopic 2 RX7 voI (some .boolean) 0 0 "isTopic") {l0 : Nat} (hke33 : Sm g 2 33 [] [] (ke33)) (hke41 : Sm g 2 41 [(0, va_rf (some l0))] [] (ke41)) : ∀ (n : Nat) (l1 : Int32), Sm g 2 2 [(0, va_rf (some l0)), (1, .int l1)] [] (C_X7_isTopic_L2 l0 ke33 ke41 n l1)
  | 0, _ => Sm.fail
  | n + 1, l1 => sc_X7_isTopic_B2 B (sc_X7_isTopic_L2 B hke33 hke41 n) hke33 hke41 l1
def C_X7_isTopic (l0 : Nat) : Hp → Option (Int32 × Hp) :=
  C_X7_isTopic_L2 l0 (C_X7_isTopic_J33 l0) (C_X7_isTopic_J41 l0) fu (0 : Int32)
set_option maxRecDepth 10000 in
theorem mo_C_X7_isTopic (l0 : Nat) : Mo (C_X7_isTopic l0) := by
  unfold C_X7_isTopic
  repeat' (with_reducible first | assumption | exact mo_rt _ | exact mo_zt _ | exact mo_no | apply mo_C_X7_isTopic_L2 | apply mo_C_X7_isTopic_J33 | apply mo_C_X7_isTopic_J41 | refine mo_ite ?_ ?_ | refine mo_hgI (fun _ => ?_) | refine mo_hgR (fun _ => ?_) | refine mo_hCv (fun _ => ?_) (fun _ => ?_) | refine mo_lq (fun _ => ?_) | refine mo_hpI ?_ | refine mo_hpR ?_ | refine mo_hAi (fun _ => ?_) | refine mo_hAr (fun _ => ?_) | refine mo_hWi ?_ | refine mo_hWr ?_ | refine mo_hLn (fun _ => ?_) | refine mo_hgL (fun _ => ?_) | refine mo_hpL ?_ | refine mo_hpZ ?_ | refine mo_bd ?_ (fun _ => ?_) | refine mo_hCi (fun _ => ?_) (fun _ => ?_) | refine mo_hNw (fun _ => ?_) | refine mo_hNa (fun _ => ?_) | refine mo_hCp ?_ | refine mo_hOi ?_ | refine mo_hAl (fun _ => ?_) | refine mo_hWl ?_ | refine mo_gd ?_ | refine mo_sLn (fun _ => ?_) | refine mo_sAt (fun _ => ?_) | refine mo_kLn (fun _ => ?_) | refine mo_kAt (fun _ => ?_))
set_option maxRecDepth 10000 in
theorem mC_X7_isTopic {w : Wd} (hw : Wc w) (l0 : Nat) : MH w yX7_isTopic cX7_isTopic 2 (some .boolean) 0 0 voI [va_rf (some l0)] (C_X7_isTopic l0) := by
  have M0 : ∀ g : Gm Hp Int32, g.1 = w → Bx g cX7_isTopic 2 RX7 voI (some .boolean) 0 0 "isTopic" → Sm g 2 0 (lv_args 0 [va_rf (some l0)]) [] (C_X7_isTopic l0) := by
    intro g hg B
    subst hg
    unfold C_X7_isTopic
    refine W_lva (lv := [(0, va_rf (some l0))]) (by simp [lv_args, va_rf_cat, cat_i, cat_l, cat_r]) ?_
    refine s_iconst (v := 0) B.1.1 dX7_isTopic_0 (by decide) ?_
    refine s_istore_n (i := 1) (lv' := [(1, .int (0 : Int32)), (0, va_rf (some l0))]) B.1.1 dX7_isTopic_1 rfl (by decide) rfl ?_
    exact Sm.lvs [1, 0] rfl (sc_X7_isTopic_L2 B (sc_X7_isTopic_J33 B) (sc_X7_isTopic_J41 B) fu (0 : Int32))
  exact MH.of hw ⟨rfl, rfl⟩ (by decide) (by simp [lg_sl, va_rf_cat, cat_i, cat_l, cat_r]) (mo_C_X7_isTopic l0) M0
def C_X4_checkResponse (l0 : Nat) (l1 : Option Nat) : Hp → Option (Unit × Hp) :=
  hgR 6 7 (some l0) fun v1 =>
  if v1 = none then (
    rt ()
  ) else (
    hgR 6 7 (some l0) fun v2 =>
    hCv 9 v2 (fun a => C_X7_isTopic a) fun r3 =>
    if r3 = 0 then (
      hCv 7 l1 (fun a => C_X5_fail a (130 : Int32)) fun r4 =>
      rt ()
    ) else (
      rt ()
    )
  )
set_option maxRecDepth 10000 in
theorem mo_C_X4_checkResponse (l0 : Nat) (l1 : Option Nat) : Mo (C_X4_checkResponse l0 l1) := by
  unfold C_X4_checkResponse
  repeat' (with_reducible first | assumption | exact mo_rt _ | exact mo_zt _ | exact mo_no | apply mo_C_X7_isTopic | apply mo_C_X5_fail | refine mo_ite ?_ ?_ | refine mo_hgI (fun _ => ?_) | refine mo_hgR (fun _ => ?_) | refine mo_hCv (fun _ => ?_) (fun _ => ?_) | refine mo_lq (fun _ => ?_) | refine mo_hpI ?_ | refine mo_hpR ?_ | refine mo_hAi (fun _ => ?_) | refine mo_hAr (fun _ => ?_) | refine mo_hWi ?_ | refine mo_hWr ?_ | refine mo_hLn (fun _ => ?_) | refine mo_hgL (fun _ => ?_) | refine mo_hpL ?_ | refine mo_hpZ ?_ | refine mo_bd ?_ (fun _ => ?_) | refine mo_hCi (fun _ => ?_) (fun _ => ?_) | refine mo_hNw (fun _ => ?_) | refine mo_hNa (fun _ => ?_) | refine mo_hCp ?_ | refine mo_hOi ?_ | refine mo_hAl (fun _ => ?_) | refine mo_hWl ?_ | refine mo_gd ?_ | refine mo_sLn (fun _ => ?_) | refine mo_sAt (fun _ => ?_) | refine mo_kLn (fun _ => ?_) | refine mo_kAt (fun _ => ?_))
set_option maxRecDepth 10000 in
theorem mC_X4_checkResponse {w : Wd} (hw : Wc w) (l0 : Nat) (l1 : Option Nat) : MH w yX4_checkResponse cX4_checkResponse 2 none 1 21 voV [va_rf (some l0), va_rf l1] (C_X4_checkResponse l0 l1) := by
  have M0 : ∀ g : Gm Hp Unit, g.1 = w → Bx g cX4_checkResponse 2 RX4 voV none 1 21 "checkResponse" → Sm g 2 0 (lv_args 0 [va_rf (some l0), va_rf l1]) [] (C_X4_checkResponse l0 l1) := by
    intro g hg B
    subst hg
    unfold C_X4_checkResponse
    refine W_lva (lv := [(0, va_rf (some l0)), (1, va_rf l1)]) (by simp [lv_args, va_rf_cat, cat_i, cat_l, cat_r]) ?_
    refine s_rload_n B.1.1 0 dX4_checkResponse_0 rfl rfl ?_
    refine hp_getR B.1 6 7 rfl (by decide) inX4 (by decide) fk_X4_7 cf_X4_36 dX4_checkResponse_1 (fun v1 => ?_)
    refine s_ifnull B.1.1 24 dX4_checkResponse_4 (by decide) ?_ ?_
    · exact s_vret B.1.1 B.2.2.2.2 dX4_checkResponse_24
    · refine s_rload_n B.1.1 0 dX4_checkResponse_7 rfl rfl ?_
      refine hp_getR B.1 6 7 rfl (by decide) inX4 (by decide) fk_X4_7 cf_X4_36 dX4_checkResponse_8 (fun v2 => ?_)
      refine hp_cvi (As := []) (st := []) 9 rfl (by decide) B.1 (fun a => mC_X7_isTopic B.2.1 a ) cc_X7_isTopic cl_X4_104 cn_X7_isTopic ce_X7_isTopic ci_X7 cd_X7_isTopic (by decide) rfl (Nat.le_of_ble_eq_true rfl) dX4_checkResponse_11 (fun r3 => ?_)
      refine s_if_ne B.1.1 24 dX4_checkResponse_14 (by decide) ?_ ?_
      · exact s_vret B.1.1 B.2.2.2.2 dX4_checkResponse_24
      · refine s_rload_n B.1.1 1 dX4_checkResponse_17 rfl rfl ?_
        refine s_sipush (v := (130)) B.1.1 dX4_checkResponse_18 (by decide) ?_
        refine hp_cvv (As := [.int (130 : Int32)]) (st := []) 7 rfl (by decide) B.1 (fun a => mC_X5_fail B.2.1 a (130 : Int32)) cc_X5_fail cl_X4_69 cn_X5_fail ce_X5_fail ci_X5 cd_X5_fail (by decide) rfl (Nat.le_of_ble_eq_true rfl) dX4_checkResponse_21 (fun r4 => ?_)
        exact s_vret B.1.1 B.2.2.2.2 dX4_checkResponse_24
  exact MH.of hw ⟨rfl, rfl⟩ (by decide) (by simp [lg_sl, va_rf_cat, cat_i, cat_l, cat_r]) (mo_C_X4_checkResponse l0 l1) M0
def C_J7_copyOf_59c91 (l0 : Option Nat) (l1 : Int32) : Hp → Option ((Option Nat) × Hp) :=
  hLn 0 l0 fun v1 =>
  if l1 = v1 then (
    no
  ) else (
    hNa 0 l1 fun o2 =>
    hLn 0 l0 fun v3 =>
    hCp l0 (0 : Int32) o2 (0 : Int32) (imin v3 l1) <|
    rt (o2)
  )
set_option maxRecDepth 10000 in
theorem mo_C_J7_copyOf_59c91 (l0 : Option Nat) (l1 : Int32) : Mo (C_J7_copyOf_59c91 l0 l1) := by
  unfold C_J7_copyOf_59c91
  repeat' (with_reducible first | assumption | exact mo_rt _ | exact mo_zt _ | exact mo_no | refine mo_ite ?_ ?_ | refine mo_hgI (fun _ => ?_) | refine mo_hgR (fun _ => ?_) | refine mo_hCv (fun _ => ?_) (fun _ => ?_) | refine mo_lq (fun _ => ?_) | refine mo_hpI ?_ | refine mo_hpR ?_ | refine mo_hAi (fun _ => ?_) | refine mo_hAr (fun _ => ?_) | refine mo_hWi ?_ | refine mo_hWr ?_ | refine mo_hLn (fun _ => ?_) | refine mo_hgL (fun _ => ?_) | refine mo_hpL ?_ | refine mo_hpZ ?_ | refine mo_bd ?_ (fun _ => ?_) | refine mo_hCi (fun _ => ?_) (fun _ => ?_) | refine mo_hNw (fun _ => ?_) | refine mo_hNa (fun _ => ?_) | refine mo_hCp ?_ | refine mo_hOi ?_ | refine mo_hAl (fun _ => ?_) | refine mo_hWl ?_ | refine mo_gd ?_ | refine mo_sLn (fun _ => ?_) | refine mo_sAt (fun _ => ?_) | refine mo_kLn (fun _ => ?_) | refine mo_kAt (fun _ => ?_))
set_option maxRecDepth 10000 in
theorem mC_J7_copyOf_59c91 {w : Wd} (hw : Wc w) (l0 : Option Nat) (l1 : Int32) : MH w yJ7_copyOf_59c91 cJ7_copyOf_59c91 3 (some (.array .int)) 1 40 voR [va_rf l0, .int l1] (C_J7_copyOf_59c91 l0 l1) := by
  have M0 : ∀ g : Gm Hp (Option Nat), g.1 = w → Bx g cJ7_copyOf_59c91 3 RJ7 voR (some (.array .int)) 1 40 "copyOf" → Sm g 3 0 (lv_args 0 [va_rf l0, .int l1]) [] (C_J7_copyOf_59c91 l0 l1) := by
    intro g hg B
    subst hg
    unfold C_J7_copyOf_59c91
    refine W_lva (lv := [(0, va_rf l0), (1, .int l1)]) (by simp [lv_args, va_rf_cat, cat_i, cat_l, cat_r]) ?_
    refine s_iload_n B.1.1 1 dJ7_copyOf_59c91_0 rfl rfl ?_
    refine s_rload_n B.1.1 0 dJ7_copyOf_59c91_1 rfl rfl ?_
    refine hp_Ln B.1 0 (fun _ => rfl) dJ7_copyOf_59c91_2 (fun v1 => ?_)
    refine s_icmp_ne B.1.1 14 dJ7_copyOf_59c91_3 (by decide) ?_ ?_
    · refine s_iload_n B.1.1 1 dJ7_copyOf_59c91_14 rfl rfl ?_
      refine hp_Na (atype := .int) B.1 0 rfl (by decide) tw_100 (fun _ => rfl) (fun _ _ => rfl) rfl (by decide) dJ7_copyOf_59c91_15 (fun o2 => ?_)
      refine s_rstore_n (i := 2) (lv' := [(2, va_rf o2), (0, va_rf l0), (1, .int l1)]) B.1.1 dJ7_copyOf_59c91_17 rfl (by decide) rfl ?_
      refine s_rload_n B.1.1 1 dJ7_copyOf_59c91_18 rfl rfl ?_
      refine s_iconst (v := 0) B.1.1 dJ7_copyOf_59c91_19 (by decide) ?_
      refine s_rload_n B.1.1 0 dJ7_copyOf_59c91_20 rfl rfl ?_
      refine s_iconst (v := 0) B.1.1 dJ7_copyOf_59c91_21 (by decide) ?_
      refine s_rload_n B.1.1 1 dJ7_copyOf_59c91_22 rfl rfl ?_
      refine hp_Ln B.1 0 (fun _ => rfl) dJ7_copyOf_59c91_23 (fun v3 => ?_)
      refine s_iload_n B.1.1 2 dJ7_copyOf_59c91_24 rfl rfl ?_
      refine s_mmin B.1.1 B.1.2.1 tw_585 (by decide) (by simp [va_rf_cat, cat_i, cat_l, cat_r]) dJ7_copyOf_59c91_25 ?_
      refine hp_Cp B.1 tw_586 (by decide) (Nat.le_of_ble_eq_true rfl) dJ7_copyOf_59c91_28 ?_
      refine s_rload_n B.1.1 0 dJ7_copyOf_59c91_31 rfl rfl ?_
      exact s_aret B.1.1 B.2.2.2.2 (Or.inr ⟨_, rfl⟩) dJ7_copyOf_59c91_32
    · exact Sm.fail
  exact MH.of hw ⟨rfl, rfl⟩ (by decide) (by simp [lg_sl, va_rf_cat, cat_i, cat_l, cat_r]) (mo_C_J7_copyOf_59c91 l0 l1) M0
def C_X3_init (l0 : Nat) (l1 : Option Nat) (l2 : Option Nat) (l3 : Int32) (l4 : Int32) : Hp → Option (Unit × Hp) :=
  hOi (some l0) <|
  hpR 5 0 (some l0) l1 <|
  hpR 5 1 (some l0) l2 <|
  hpI 5 2 (some l0) l3 <|
  hpZ 5 3 (some l0) l4 <|
  rt ()
set_option maxRecDepth 10000 in
theorem mo_C_X3_init (l0 : Nat) (l1 : Option Nat) (l2 : Option Nat) (l3 : Int32) (l4 : Int32) : Mo (C_X3_init l0 l1 l2 l3 l4) := by
  unfold C_X3_init
  repeat' (with_reducible first | assumption | exact mo_rt _ | exact mo_zt _ | exact mo_no | refine mo_ite ?_ ?_ | refine mo_hgI (fun _ => ?_) | refine mo_hgR (fun _ => ?_) | refine mo_hCv (fun _ => ?_) (fun _ => ?_) | refine mo_lq (fun _ => ?_) | refine mo_hpI ?_ | refine mo_hpR ?_ | refine mo_hAi (fun _ => ?_) | refine mo_hAr (fun _ => ?_) | refine mo_hWi ?_ | refine mo_hWr ?_ | refine mo_hLn (fun _ => ?_) | refine mo_hgL (fun _ => ?_) | refine mo_hpL ?_ | refine mo_hpZ ?_ | refine mo_bd ?_ (fun _ => ?_) | refine mo_hCi (fun _ => ?_) (fun _ => ?_) | refine mo_hNw (fun _ => ?_) | refine mo_hNa (fun _ => ?_) | refine mo_hCp ?_ | refine mo_hOi ?_ | refine mo_hAl (fun _ => ?_) | refine mo_hWl ?_ | refine mo_gd ?_ | refine mo_sLn (fun _ => ?_) | refine mo_sAt (fun _ => ?_) | refine mo_kLn (fun _ => ?_) | refine mo_kAt (fun _ => ?_))
set_option maxRecDepth 10000 in
theorem mC_X3_init {w : Wd} (hw : Wc w) (l0 : Nat) (l1 : Option Nat) (l2 : Option Nat) (l3 : Int32) (l4 : Int32) : MH w yX3_init cX3_init 5 none 1 20 voV [va_rf (some l0), va_rf l1, va_rf l2, .int l3, .int l4] (C_X3_init l0 l1 l2 l3 l4) := by
  have M0 : ∀ g : Gm Hp Unit, g.1 = w → Bx g cX3_init 5 RX3 voV none 1 20 "<init>" → Sm g 5 0 (lv_args 0 [va_rf (some l0), va_rf l1, va_rf l2, .int l3, .int l4]) [] (C_X3_init l0 l1 l2 l3 l4) := by
    intro g hg B
    subst hg
    unfold C_X3_init
    refine W_lva (lv := [(0, va_rf (some l0)), (1, va_rf l1), (2, va_rf l2), (3, .int l3), (4, .int l4)]) (by simp [lv_args, va_rf_cat, cat_i, cat_l, cat_r]) ?_
    refine s_rload_n B.1.1 0 dX3_init_0 rfl rfl ?_
    refine hp_Oi B.1 tw_887 oi_in oi_code (by decide) (Nat.le_of_ble_eq_true rfl) dX3_init_1 ?_
    refine s_rload_n B.1.1 0 dX3_init_4 rfl rfl ?_
    refine s_rload_n B.1.1 1 dX3_init_5 rfl rfl ?_
    refine hp_putRF B.1 5 0 rfl (by decide) inX3 tyX3 tyX3_ok nmX3 (by decide) fk_X3_0 ft_X3_0 rfR rfl rfl B.2.2.2.1 cf_X3_9 dX3_init_6 ?_
    refine s_rload_n B.1.1 0 dX3_init_9 rfl rfl ?_
    refine s_rload_n B.1.1 2 dX3_init_10 rfl rfl ?_
    refine hp_putRF B.1 5 1 rfl (by decide) inX3 tyX3 tyX3_ok nmX3 (by decide) fk_X3_1 ft_X3_1 rfR rfl rfl B.2.2.2.1 cf_X3_15 dX3_init_11 ?_
    refine s_rload_n B.1.1 0 dX3_init_14 rfl rfl ?_
    refine s_iload_n B.1.1 3 dX3_init_15 rfl rfl ?_
    refine hp_putIF B.1 5 2 rfl (by decide) inX3 tyX3 tyX3_ok nmX3 (by decide) fk_X3_2.1 fk_X3_2.2 ft_X3_2 rfl rfl B.2.2.2.1 cf_X3_18 dX3_init_16 ?_
    refine s_rload_n B.1.1 0 dX3_init_19 rfl rfl ?_
    refine s_iload B.1.1 4 dX3_init_20 rfl ?_
    refine hp_putZF B.1 5 3 rfl (by decide) inX3 tyX3 tyX3_ok nmX3 (by decide) fk_X3_3.1 fk_X3_3.2 ft_X3_3 rfl rfl B.2.2.2.1 cf_X3_22 dX3_init_22 ?_
    exact s_vret B.1.1 B.2.2.2.2 dX3_init_25
  exact MH.of hw ⟨rfl, rfl⟩ (by decide) (by simp [lg_sl, va_rf_cat, cat_i, cat_l, cat_r]) (mo_C_X3_init l0 l1 l2 l3 l4) M0
def C_X4_raw_J133 (l0 : Nat) (l1 : Nat) (l3 : Option Nat) : Hp → Option ((Option Nat) × Hp) :=
  hNw 9 1 fun o1 =>
  hCi o1 (fun a => C_X7_init a l3) fun r2 =>
  rt (o1)
set_option maxRecDepth 10000 in
theorem mo_C_X4_raw_J133 (l0 : Nat) (l1 : Nat) (l3 : Option Nat) : Mo (C_X4_raw_J133 l0 l1 l3) := by
  unfold C_X4_raw_J133
  repeat' (with_reducible first | assumption | exact mo_rt _ | exact mo_zt _ | exact mo_no | apply mo_C_X7_init | refine mo_ite ?_ ?_ | refine mo_hgI (fun _ => ?_) | refine mo_hgR (fun _ => ?_) | refine mo_hCv (fun _ => ?_) (fun _ => ?_) | refine mo_lq (fun _ => ?_) | refine mo_hpI ?_ | refine mo_hpR ?_ | refine mo_hAi (fun _ => ?_) | refine mo_hAr (fun _ => ?_) | refine mo_hWi ?_ | refine mo_hWr ?_ | refine mo_hLn (fun _ => ?_) | refine mo_hgL (fun _ => ?_) | refine mo_hpL ?_ | refine mo_hpZ ?_ | refine mo_bd ?_ (fun _ => ?_) | refine mo_hCi (fun _ => ?_) (fun _ => ?_) | refine mo_hNw (fun _ => ?_) | refine mo_hNa (fun _ => ?_) | refine mo_hCp ?_ | refine mo_hOi ?_ | refine mo_hAl (fun _ => ?_) | refine mo_hWl ?_ | refine mo_gd ?_ | refine mo_sLn (fun _ => ?_) | refine mo_sAt (fun _ => ?_) | refine mo_kLn (fun _ => ?_) | refine mo_kAt (fun _ => ?_))
set_option maxRecDepth 10000 in
theorem sc_X4_raw_J133 {g : Gm Hp (Option Nat)} (B : Bx g cX4_raw 7 RX4 voR (some (.object "TopicBroker$Row")) 2 41 "raw") {l0 : Nat} {l1 : Nat} (hl1 : l1 < 2) (l3 : Option Nat) : Sm g 7 133 [(3, va_rf l3)] [] (C_X4_raw_J133 l0 l1 l3) := by
  unfold C_X4_raw_J133
  refine hp_Nw B.1 9 rfl (by decide) inX7 tyX7 tyX7_ok dfX7 tw_937 tw_127 tw_5 dX4_raw_133 (fun o1 => ?_)
  refine s_dup B.1.1 dX4_raw_136 (va_rf_cat _) ?_
  refine s_rload_n B.1.1 0 dX4_raw_137 rfl rfl ?_
  refine hp_cI (As := [va_rf l3]) (st := [va_rf o1]) B.1 (fun a => mC_X7_init B.2.1 a l3) cc_X7_init cl_X4_110 cn_X7_init ci_X7 rfl cd_X7_init (by decide) rfl (by simp [va_rf_cat, cat_i, cat_l, cat_r]) dX4_raw_138 (fun r2 => ?_)
  exact s_aret B.1.1 B.2.2.2.2 (Or.inl ⟨_, rfl⟩) dX4_raw_141
def C_X4_raw_B60 (l0 : Nat) (l1 : Nat) (kb : Option Nat → Int32 → Int32 → Hp → Option ((Option Nat) × Hp)) (ke133 : Option Nat → Hp → Option ((Option Nat) × Hp)) (l3 : Option Nat) (l4 : Int32) (l5 : Int32) : Hp → Option ((Option Nat) × Hp) :=
  kLn l1 fun v3 =>
  if v3 ≤ l5 then (
    ke133 l3
  ) else (
    kAt l1 l5 fun v4 =>
    hCv 6 (some l0) (fun a => C_X4_has a v4) fun r5 =>
    if r5 = 0 then (
      kb l3 l4 (l5 + 1)
    ) else (
      hgR 6 3 (some l0) fun v6 =>
      kAt l1 l5 fun v7 =>
      hAi v6 v7 fun v8 =>
      hgR 6 2 (some l0) fun v9 =>
      kAt l1 l5 fun v10 =>
      hAi v9 v10 fun v11 =>
      lq (v8 - v11) fun x12 =>
      hgR 6 6 (some l0) fun v13 =>
      hgR 6 2 (some l0) fun v14 =>
      kAt l1 l5 fun v15 =>
      hAi v14 v15 fun v16 =>
      hCp v13 v16 l3 l4 x12 <|
      lq (l4 + x12) fun x17 =>
      kb l3 x17 (l5 + 1)
    )
  )
def C_X4_raw_L60 (l0 : Nat) (l1 : Nat) (ke133 : Option Nat → Hp → Option ((Option Nat) × Hp)) : Nat → Option Nat → Int32 → Int32 → Hp → Option ((Option Nat) × Hp)
  | 0, _, _, _ => no
  | n + 1, l3, l4, l5 => C_X4_raw_B60 l0 l1 (fun l3 l4 l5 => C_X4_raw_L60 l0 l1 ke133 n l3 l4 l5) ke133 l3 l4 l5
set_option maxRecDepth 10000 in
theorem mo_C_X4_raw_B60 (l0 : Nat) (l1 : Nat) (kb : Option Nat → Int32 → Int32 → Hp → Option ((Option Nat) × Hp)) (ke133 : Option Nat → Hp → Option ((Option Nat) × Hp)) (hkb : ∀ (l3 : Option Nat) (l4 : Int32) (l5 : Int32), Mo (kb l3 l4 l5)) (hke133 : ∀ (l3 : Option Nat), Mo (ke133 l3)) (l3 : Option Nat) (l4 : Int32) (l5 : Int32) : Mo (C_X4_raw_B60 l0 l1 kb ke133 l3 l4 l5) := by
  unfold C_X4_raw_B60
  repeat' (with_reducible first | assumption | exact mo_rt _ | exact mo_zt _ | exact mo_no | apply mo_C_X4_has | apply hkb | apply hke133 | refine mo_ite ?_ ?_ | refine mo_hgI (fun _ => ?_) | refine mo_hgR (fun _ => ?_) | refine mo_hCv (fun _ => ?_) (fun _ => ?_) | refine mo_lq (fun _ => ?_) | refine mo_hpI ?_ | refine mo_hpR ?_ | refine mo_hAi (fun _ => ?_) | refine mo_hAr (fun _ => ?_) | refine mo_hWi ?_ | refine mo_hWr ?_ | refine mo_hLn (fun _ => ?_) | refine mo_hgL (fun _ => ?_) | refine mo_hpL ?_ | refine mo_hpZ ?_ | refine mo_bd ?_ (fun _ => ?_) | refine mo_hCi (fun _ => ?_) (fun _ => ?_) | refine mo_hNw (fun _ => ?_) | refine mo_hNa (fun _ => ?_) | refine mo_hCp ?_ | refine mo_hOi ?_ | refine mo_hAl (fun _ => ?_) | refine mo_hWl ?_ | refine mo_gd ?_ | refine mo_sLn (fun _ => ?_) | refine mo_sAt (fun _ => ?_) | refine mo_kLn (fun _ => ?_) | refine mo_kAt (fun _ => ?_))
set_option maxRecDepth 10000 in
theorem mo_C_X4_raw_L60 (l0 : Nat) (l1 : Nat) (ke133 : Option Nat → Hp → Option ((Option Nat) × Hp)) (hke133 : ∀ (l3 : Option Nat), Mo (ke133 l3)) : ∀ (n : Nat) (l3 : Option Nat) (l4 : Int32) (l5 : Int32), Mo (C_X4_raw_L60 l0 l1 ke133 n l3 l4 l5)
  | 0, _, _, _ => mo_no
  | n + 1, l3, l4, l5 => mo_C_X4_raw_B60 l0 l1 _ ke133 (mo_C_X4_raw_L60 l0 l1 ke133 hke133 n) hke133 l3 l4 l5
set_option maxRecDepth 10000 in
theorem sc_X4_raw_B60 {g : Gm Hp (Option Nat)} {kb : Option Nat → Int32 → Int32 → Hp → Option ((Option Nat) × Hp)} {ke133 : Option Nat → Hp → Option ((Option Nat) × Hp)} (B : Bx g cX4_raw 7 RX4 voR (some (.object "TopicBroker$Row")) 2 41 "raw") {l0 : Nat} {l1 : Nat} (hl1 : l1 < 2) (hkb : ∀ (l3 : Option Nat) (l4 : Int32) (l5 : Int32), Sm g 7 60 [(0, va_rf (some l0)), (1, .ref (g.1.2.1 (1020 + l1))), (3, va_rf l3), (4, .int l4), (5, .int l5)] [] (kb l3 l4 l5)) (hke133 : ∀ (l3 : Option Nat), Sm g 7 133 [(3, va_rf l3)] [] (ke133 l3)) (l3 : Option Nat) (l4 : Int32) (l5 : Int32) : Sm g 7 60 [(0, va_rf (some l0)), (1, .ref (g.1.2.1 (1020 + l1))), (3, va_rf l3), (4, .int l4), (5, .int l5)] [] (C_X4_raw_B60 l0 l1 kb ke133 l3 l4 l5) := by
  unfold C_X4_raw_B60
  refine s_iload B.1.1 4 dX4_raw_60 rfl ?_
  refine s_aload_n B.1.1 1 dX4_raw_62 rfl rfl ?_
  refine s_kLn B l1 hl1 dX4_raw_63 (fun v3 => ?_)
  refine s_icmp_ge B.1.1 133 dX4_raw_64 (by decide) ?_ ?_
  · exact Sm.lvs [2] rfl (hke133 l3)
  · refine s_rload_n B.1.1 0 dX4_raw_67 rfl rfl ?_
    refine s_aload_n B.1.1 1 dX4_raw_68 rfl rfl ?_
    refine s_iload B.1.1 4 dX4_raw_69 rfl ?_
    refine s_kAt B l1 hl1 dX4_raw_71 (fun v4 => ?_)
    refine hp_cvi (As := [.int v4]) (st := []) 6 rfl (by decide) B.1 (fun a => mC_X4_has B.2.1 a v4) cc_X4_has cl_X4_68 cn_X4_has ce_X4_has ci_X4 cd_X4_has (by decide) rfl (Nat.le_of_ble_eq_true rfl) dX4_raw_72 (fun r5 => ?_)
    refine s_if_eq B.1.1 127 dX4_raw_75 (by decide) ?_ ?_
    · refine s_iinc (v := l5 + 1) (lv' := [(5, .int (l5 + 1)), (0, va_rf (some l0)), (1, .ref (g.1.2.1 (1020 + l1))), (3, va_rf l3), (4, .int l4)]) B.1.1 4 dX4_raw_127 rfl rfl (by decide) rfl ?_
      refine s_goto B.1.1 60 dX4_raw_130 (by decide) ?_
      exact Sm.lvs [1, 2, 3, 4, 0] rfl (hkb l3 l4 (l5 + 1))
    · refine s_rload_n B.1.1 0 dX4_raw_78 rfl rfl ?_
      refine hp_getR B.1 6 3 rfl (by decide) inX4 (by decide) fk_X4_3 cf_X4_19 dX4_raw_79 (fun v6 => ?_)
      refine s_aload_n B.1.1 1 dX4_raw_82 rfl rfl ?_
      refine s_iload B.1.1 4 dX4_raw_83 rfl ?_
      refine s_kAt B l1 hl1 dX4_raw_85 (fun v7 => ?_)
      refine hp_Ai B.1 dX4_raw_86 (fun v8 => ?_)
      refine s_rload_n B.1.1 0 dX4_raw_87 rfl rfl ?_
      refine hp_getR B.1 6 2 rfl (by decide) inX4 (by decide) fk_X4_2 cf_X4_15 dX4_raw_88 (fun v9 => ?_)
      refine s_aload_n B.1.1 1 dX4_raw_91 rfl rfl ?_
      refine s_iload B.1.1 4 dX4_raw_92 rfl ?_
      refine s_kAt B l1 hl1 dX4_raw_94 (fun v10 => ?_)
      refine hp_Ai B.1 dX4_raw_95 (fun v11 => ?_)
      refine s_isub B.1.1 dX4_raw_96 ?_
      refine s_lqi (fun x12 => ?_)
      refine s_istore (i := 6) (lv' := [(6, .int x12), (0, va_rf (some l0)), (1, .ref (g.1.2.1 (1020 + l1))), (3, va_rf l3), (4, .int l4), (5, .int l5)]) B.1.1 dX4_raw_97 (by decide) rfl ?_
      refine s_rload_n B.1.1 1 dX4_raw_99 rfl rfl ?_
      refine hp_getR B.1 6 6 rfl (by decide) inX4 (by decide) fk_X4_6 cf_X4_25 dX4_raw_100 (fun v13 => ?_)
      refine s_rload_n B.1.1 1 dX4_raw_103 rfl rfl ?_
      refine hp_getR B.1 6 2 rfl (by decide) inX4 (by decide) fk_X4_2 cf_X4_15 dX4_raw_104 (fun v14 => ?_)
      refine s_aload_n B.1.1 2 dX4_raw_107 rfl rfl ?_
      refine s_iload B.1.1 5 dX4_raw_108 rfl ?_
      refine s_kAt B l1 hl1 dX4_raw_110 (fun v15 => ?_)
      refine hp_Ai B.1 dX4_raw_111 (fun v16 => ?_)
      refine s_rload_n B.1.1 3 dX4_raw_112 rfl rfl ?_
      refine s_iload B.1.1 4 dX4_raw_113 rfl ?_
      refine s_iload B.1.1 0 dX4_raw_115 rfl ?_
      refine hp_Cp B.1 tw_856 (by decide) (Nat.le_of_ble_eq_true rfl) dX4_raw_117 ?_
      refine s_iload B.1.1 4 dX4_raw_120 rfl ?_
      refine s_iload B.1.1 0 dX4_raw_122 rfl ?_
      refine s_iadd B.1.1 dX4_raw_124 ?_
      refine s_lqi (fun x17 => ?_)
      refine s_istore (i := 4) (lv' := [(4, .int x17), (6, .int x12), (0, va_rf (some l0)), (1, .ref (g.1.2.1 (1020 + l1))), (3, va_rf l3), (5, .int l5)]) B.1.1 dX4_raw_125 (by decide) (by simp [va_rf_cat, cat_i, cat_l, cat_r]) ?_
      refine s_iinc (v := l5 + 1) (lv' := [(5, .int (l5 + 1)), (4, .int x17), (6, .int x12), (0, va_rf (some l0)), (1, .ref (g.1.2.1 (1020 + l1))), (3, va_rf l3)]) B.1.1 5 dX4_raw_127 rfl rfl (by decide) rfl ?_
      refine s_goto B.1.1 60 dX4_raw_130 (by decide) ?_
      exact Sm.lvs [3, 4, 5, 1, 0] rfl (hkb l3 x17 (l5 + 1))
set_option maxRecDepth 10000 in
theorem sc_X4_raw_L60 {g : Gm Hp (Option Nat)} {ke133 : Option Nat → Hp → Option ((Option Nat) × Hp)} (B : Bx g cX4_raw 7 RX4 voR (some (.object "TopicBroker$Row")) 2 41 "raw") {l0 : Nat} {l1 : Nat} (hl1 : l1 < 2) (hke133 : ∀ (l3 : Option Nat), Sm g 7 133 [(3, va_rf l3)] [] (ke133 l3)) : ∀ (n : Nat) (l3 : Option Nat) (l4 : Int32) (l5 : Int32), Sm g 7 60 [(0, va_rf (some l0)), (1, .ref (g.1.2.1 (1020 + l1))), (3, va_rf l3), (4, .int l4), (5, .int l5)] [] (C_X4_raw_L60 l0 l1 ke133 n l3 l4 l5)
  | 0, _, _, _ => Sm.fail
  | n + 1, l3, l4, l5 => sc_X4_raw_B60 B hl1 (sc_X4_raw_L60 B hl1 hke133 n) hke133 l3 l4 l5
def C_X4_raw_J50 (l0 : Nat) (l1 : Nat) (l2 : Int32) : Hp → Option ((Option Nat) × Hp) :=
  hNa 0 l2 fun o18 =>
  C_X4_raw_L60 l0 l1 (fun l3 => C_X4_raw_J133 l0 l1 l3) fu o18 (0 : Int32) (0 : Int32)
set_option maxRecDepth 10000 in
theorem mo_C_X4_raw_J50 (l0 : Nat) (l1 : Nat) (l2 : Int32) : Mo (C_X4_raw_J50 l0 l1 l2) := by
  unfold C_X4_raw_J50
  repeat' (with_reducible first | assumption | exact mo_rt _ | exact mo_zt _ | exact mo_no | apply mo_C_X4_raw_L60 | apply mo_C_X4_raw_J133 | refine mo_ite ?_ ?_ | refine mo_hgI (fun _ => ?_) | refine mo_hgR (fun _ => ?_) | refine mo_hCv (fun _ => ?_) (fun _ => ?_) | refine mo_lq (fun _ => ?_) | refine mo_hpI ?_ | refine mo_hpR ?_ | refine mo_hAi (fun _ => ?_) | refine mo_hAr (fun _ => ?_) | refine mo_hWi ?_ | refine mo_hWr ?_ | refine mo_hLn (fun _ => ?_) | refine mo_hgL (fun _ => ?_) | refine mo_hpL ?_ | refine mo_hpZ ?_ | refine mo_bd ?_ (fun _ => ?_) | refine mo_hCi (fun _ => ?_) (fun _ => ?_) | refine mo_hNw (fun _ => ?_) | refine mo_hNa (fun _ => ?_) | refine mo_hCp ?_ | refine mo_hOi ?_ | refine mo_hAl (fun _ => ?_) | refine mo_hWl ?_ | refine mo_gd ?_ | refine mo_sLn (fun _ => ?_) | refine mo_sAt (fun _ => ?_) | refine mo_kLn (fun _ => ?_) | refine mo_kAt (fun _ => ?_))
set_option maxRecDepth 10000 in
theorem sc_X4_raw_J50 {g : Gm Hp (Option Nat)} (B : Bx g cX4_raw 7 RX4 voR (some (.object "TopicBroker$Row")) 2 41 "raw") {l0 : Nat} {l1 : Nat} (hl1 : l1 < 2) (l2 : Int32) : Sm g 7 50 [(0, va_rf (some l0)), (1, .ref (g.1.2.1 (1020 + l1))), (2, .int l2)] [] (C_X4_raw_J50 l0 l1 l2) := by
  unfold C_X4_raw_J50
  refine s_iload_n B.1.1 2 dX4_raw_50 rfl rfl ?_
  refine hp_Na (atype := .int) B.1 0 rfl (by decide) tw_100 (fun _ => rfl) (fun _ _ => rfl) rfl (by decide) dX4_raw_51 (fun o18 => ?_)
  refine s_rstore_n (i := 3) (lv' := [(3, va_rf o18), (0, va_rf (some l0)), (1, .ref (g.1.2.1 (1020 + l1))), (2, .int l2)]) B.1.1 dX4_raw_53 rfl (by decide) rfl ?_
  refine s_iconst (v := 0) B.1.1 dX4_raw_54 (by decide) ?_
  refine s_istore (i := 4) (lv' := [(4, .int (0 : Int32)), (3, va_rf o18), (0, va_rf (some l0)), (1, .ref (g.1.2.1 (1020 + l1))), (2, .int l2)]) B.1.1 dX4_raw_55 (by decide) (by simp [va_rf_cat, cat_i, cat_l, cat_r]) ?_
  refine s_iconst (v := 0) B.1.1 dX4_raw_57 (by decide) ?_
  refine s_istore (i := 5) (lv' := [(5, .int (0 : Int32)), (4, .int (0 : Int32)), (3, va_rf o18), (0, va_rf (some l0)), (1, .ref (g.1.2.1 (1020 + l1))), (2, .int l2)]) B.1.1 dX4_raw_58 (by decide) rfl ?_
  exact Sm.lvs [3, 4, 2, 1, 0] rfl (sc_X4_raw_L60 B hl1 (fun l3 => sc_X4_raw_J133 B hl1 l3) fu o18 (0 : Int32) (0 : Int32))
def C_X4_raw_J42 (l0 : Nat) (l1 : Nat) (kb : Int32 → Int32 → Hp → Option ((Option Nat) × Hp)) (ke50 : Int32 → Hp → Option ((Option Nat) × Hp)) (l3 : Int32) (s0 : Int32) (s1 : Int32) : Hp → Option ((Option Nat) × Hp) :=
  lq (s0 + s1) fun x19 =>
  kb x19 (l3 + 1)
set_option maxRecDepth 10000 in
theorem mo_C_X4_raw_J42 (l0 : Nat) (l1 : Nat) (kb : Int32 → Int32 → Hp → Option ((Option Nat) × Hp)) (ke50 : Int32 → Hp → Option ((Option Nat) × Hp)) (hkb : ∀ (l2 : Int32) (l3 : Int32), Mo (kb l2 l3)) (hke50 : ∀ (l2 : Int32), Mo (ke50 l2)) (l3 : Int32) (s0 : Int32) (s1 : Int32) : Mo (C_X4_raw_J42 l0 l1 kb ke50 l3 s0 s1) := by
  unfold C_X4_raw_J42
  repeat' (with_reducible first | assumption | exact mo_rt _ | exact mo_zt _ | exact mo_no | apply hkb | apply hke50 | refine mo_ite ?_ ?_ | refine mo_hgI (fun _ => ?_) | refine mo_hgR (fun _ => ?_) | refine mo_hCv (fun _ => ?_) (fun _ => ?_) | refine mo_lq (fun _ => ?_) | refine mo_hpI ?_ | refine mo_hpR ?_ | refine mo_hAi (fun _ => ?_) | refine mo_hAr (fun _ => ?_) | refine mo_hWi ?_ | refine mo_hWr ?_ | refine mo_hLn (fun _ => ?_) | refine mo_hgL (fun _ => ?_) | refine mo_hpL ?_ | refine mo_hpZ ?_ | refine mo_bd ?_ (fun _ => ?_) | refine mo_hCi (fun _ => ?_) (fun _ => ?_) | refine mo_hNw (fun _ => ?_) | refine mo_hNa (fun _ => ?_) | refine mo_hCp ?_ | refine mo_hOi ?_ | refine mo_hAl (fun _ => ?_) | refine mo_hWl ?_ | refine mo_gd ?_ | refine mo_sLn (fun _ => ?_) | refine mo_sAt (fun _ => ?_) | refine mo_kLn (fun _ => ?_) | refine mo_kAt (fun _ => ?_))
set_option maxRecDepth 10000 in
theorem sc_X4_raw_J42 {g : Gm Hp (Option Nat)} {kb : Int32 → Int32 → Hp → Option ((Option Nat) × Hp)} {ke50 : Int32 → Hp → Option ((Option Nat) × Hp)} (B : Bx g cX4_raw 7 RX4 voR (some (.object "TopicBroker$Row")) 2 41 "raw") {l0 : Nat} {l1 : Nat} (hl1 : l1 < 2) (hkb : ∀ (l2 : Int32) (l3 : Int32), Sm g 7 4 [(0, va_rf (some l0)), (1, .ref (g.1.2.1 (1020 + l1))), (2, .int l2), (3, .int l3)] [] (kb l2 l3)) (hke50 : ∀ (l2 : Int32), Sm g 7 50 [(0, va_rf (some l0)), (1, .ref (g.1.2.1 (1020 + l1))), (2, .int l2)] [] (ke50 l2)) (l3 : Int32) (s0 : Int32) (s1 : Int32) : Sm g 7 42 [(0, va_rf (some l0)), (1, .ref (g.1.2.1 (1020 + l1))), (3, .int l3)] [.int s1, .int s0] (C_X4_raw_J42 l0 l1 kb ke50 l3 s0 s1) := by
  unfold C_X4_raw_J42
  refine s_iadd B.1.1 dX4_raw_42 ?_
  refine s_lqi (fun x19 => ?_)
  refine s_istore_n (i := 2) (lv' := [(2, .int x19), (0, va_rf (some l0)), (1, .ref (g.1.2.1 (1020 + l1))), (3, .int l3)]) B.1.1 dX4_raw_43 rfl (by decide) rfl ?_
  refine s_iinc (v := l3 + 1) (lv' := [(3, .int (l3 + 1)), (2, .int x19), (0, va_rf (some l0)), (1, .ref (g.1.2.1 (1020 + l1)))]) B.1.1 3 dX4_raw_44 rfl rfl (by decide) rfl ?_
  refine s_goto B.1.1 4 dX4_raw_47 (by decide) ?_
  exact Sm.lvs [2, 3, 1, 0] rfl (hkb x19 (l3 + 1))
def C_X4_raw_B4 (l0 : Nat) (l1 : Nat) (kb : Int32 → Int32 → Hp → Option ((Option Nat) × Hp)) (ke50 : Int32 → Hp → Option ((Option Nat) × Hp)) (l2 : Int32) (l3 : Int32) : Hp → Option ((Option Nat) × Hp) :=
  kLn l1 fun v20 =>
  if v20 ≤ l3 then (
    ke50 l2
  ) else (
    kAt l1 l3 fun v21 =>
    hCv 6 (some l0) (fun a => C_X4_has a v21) fun r22 =>
    if r22 = 0 then (
      C_X4_raw_J42 l0 l1 kb ke50 l3 l2 (0 : Int32)
    ) else (
      hgR 6 3 (some l0) fun v23 =>
      kAt l1 l3 fun v24 =>
      hAi v23 v24 fun v25 =>
      hgR 6 2 (some l0) fun v26 =>
      kAt l1 l3 fun v27 =>
      hAi v26 v27 fun v28 =>
      C_X4_raw_J42 l0 l1 kb ke50 l3 l2 (v25 - v28)
    )
  )
def C_X4_raw_L4 (l0 : Nat) (l1 : Nat) (ke50 : Int32 → Hp → Option ((Option Nat) × Hp)) : Nat → Int32 → Int32 → Hp → Option ((Option Nat) × Hp)
  | 0, _, _ => no
  | n + 1, l2, l3 => C_X4_raw_B4 l0 l1 (fun l2 l3 => C_X4_raw_L4 l0 l1 ke50 n l2 l3) ke50 l2 l3
set_option maxRecDepth 10000 in
theorem mo_C_X4_raw_B4 (l0 : Nat) (l1 : Nat) (kb : Int32 → Int32 → Hp → Option ((Option Nat) × Hp)) (ke50 : Int32 → Hp → Option ((Option Nat) × Hp)) (hkb : ∀ (l2 : Int32) (l3 : Int32), Mo (kb l2 l3)) (hke50 : ∀ (l2 : Int32), Mo (ke50 l2)) (l2 : Int32) (l3 : Int32) : Mo (C_X4_raw_B4 l0 l1 kb ke50 l2 l3) := by
  unfold C_X4_raw_B4
  repeat' (with_reducible first | assumption | exact mo_rt _ | exact mo_zt _ | exact mo_no | apply mo_C_X4_has | apply mo_C_X4_raw_J42 | apply hkb | apply hke50 | refine mo_ite ?_ ?_ | refine mo_hgI (fun _ => ?_) | refine mo_hgR (fun _ => ?_) | refine mo_hCv (fun _ => ?_) (fun _ => ?_) | refine mo_lq (fun _ => ?_) | refine mo_hpI ?_ | refine mo_hpR ?_ | refine mo_hAi (fun _ => ?_) | refine mo_hAr (fun _ => ?_) | refine mo_hWi ?_ | refine mo_hWr ?_ | refine mo_hLn (fun _ => ?_) | refine mo_hgL (fun _ => ?_) | refine mo_hpL ?_ | refine mo_hpZ ?_ | refine mo_bd ?_ (fun _ => ?_) | refine mo_hCi (fun _ => ?_) (fun _ => ?_) | refine mo_hNw (fun _ => ?_) | refine mo_hNa (fun _ => ?_) | refine mo_hCp ?_ | refine mo_hOi ?_ | refine mo_hAl (fun _ => ?_) | refine mo_hWl ?_ | refine mo_gd ?_ | refine mo_sLn (fun _ => ?_) | refine mo_sAt (fun _ => ?_) | refine mo_kLn (fun _ => ?_) | refine mo_kAt (fun _ => ?_))
set_option maxRecDepth 10000 in
theorem mo_C_X4_raw_L4 (l0 : Nat) (l1 : Nat) (ke50 : Int32 → Hp → Option ((Option Nat) × Hp)) (hke50 : ∀ (l2 : Int32), Mo (ke50 l2)) : ∀ (n : Nat) (l2 : Int32) (l3 : Int32), Mo (C_X4_raw_L4 l0 l1 ke50 n l2 l3)
  | 0, _, _ => mo_no
  | n + 1, l2, l3 => mo_C_X4_raw_B4 l0 l1 _ ke50 (mo_C_X4_raw_L4 l0 l1 ke50 hke50 n) hke50 l2 l3
set_option maxRecDepth 10000 in
theorem sc_X4_raw_B4 {g : Gm Hp (Option Nat)} {kb : Int32 → Int32 → Hp → Option ((Option Nat) × Hp)} {ke50 : Int32 → Hp → Option ((Option Nat) × Hp)} (B : Bx g cX4_raw 7 RX4 voR (some (.object "TopicBroker$Row")) 2 41 "raw") {l0 : Nat} {l1 : Nat} (hl1 : l1 < 2) (hkb : ∀ (l2 : Int32) (l3 : Int32), Sm g 7 4 [(0, va_rf (some l0)), (1, .ref (g.1.2.1 (1020 + l1))), (2, .int l2), (3, .int l3)] [] (kb l2 l3)) (hke50 : ∀ (l2 : Int32), Sm g 7 50 [(0, va_rf (some l0)), (1, .ref (g.1.2.1 (1020 + l1))), (2, .int l2)] [] (ke50 l2)) (l2 : Int32) (l3 : Int32) : Sm g 7 4 [(0, va_rf (some l0)), (1, .ref (g.1.2.1 (1020 + l1))), (2, .int l2), (3, .int l3)] [] (C_X4_raw_B4 l0 l1 kb ke50 l2 l3) := by
  unfold C_X4_raw_B4
  refine s_iload_n B.1.1 3 dX4_raw_4 rfl rfl ?_
  refine s_aload_n B.1.1 1 dX4_raw_5 rfl rfl ?_
  refine s_kLn B l1 hl1 dX4_raw_6 (fun v20 => ?_)
  refine s_icmp_ge B.1.1 50 dX4_raw_7 (by decide) ?_ ?_
  · exact Sm.lvs [0, 1, 2] rfl (hke50 l2)
  · refine s_iload_n B.1.1 2 dX4_raw_10 rfl rfl ?_
    refine s_rload_n B.1.1 0 dX4_raw_11 rfl rfl ?_
    refine s_aload_n B.1.1 1 dX4_raw_12 rfl rfl ?_
    refine s_iload_n B.1.1 3 dX4_raw_13 rfl rfl ?_
    refine s_kAt B l1 hl1 dX4_raw_14 (fun v21 => ?_)
    refine hp_cvi (As := [.int v21]) (st := [.int l2]) 6 rfl (by decide) B.1 (fun a => mC_X4_has B.2.1 a v21) cc_X4_has cl_X4_68 cn_X4_has ce_X4_has ci_X4 cd_X4_has (by decide) rfl (Nat.le_of_ble_eq_true rfl) dX4_raw_15 (fun r22 => ?_)
    refine s_if_eq B.1.1 41 dX4_raw_18 (by decide) ?_ ?_
    · refine s_iconst (v := 0) B.1.1 dX4_raw_41 (by decide) ?_
      exact Sm.lvs [0, 1, 3] rfl (sc_X4_raw_J42 B hl1 hkb hke50 l3 l2 (0 : Int32))
    · refine s_rload_n B.1.1 0 dX4_raw_21 rfl rfl ?_
      refine hp_getR B.1 6 3 rfl (by decide) inX4 (by decide) fk_X4_3 cf_X4_19 dX4_raw_22 (fun v23 => ?_)
      refine s_aload_n B.1.1 1 dX4_raw_25 rfl rfl ?_
      refine s_iload_n B.1.1 3 dX4_raw_26 rfl rfl ?_
      refine s_kAt B l1 hl1 dX4_raw_27 (fun v24 => ?_)
      refine hp_Ai B.1 dX4_raw_28 (fun v25 => ?_)
      refine s_rload_n B.1.1 0 dX4_raw_29 rfl rfl ?_
      refine hp_getR B.1 6 2 rfl (by decide) inX4 (by decide) fk_X4_2 cf_X4_15 dX4_raw_30 (fun v26 => ?_)
      refine s_aload_n B.1.1 1 dX4_raw_33 rfl rfl ?_
      refine s_iload_n B.1.1 3 dX4_raw_34 rfl rfl ?_
      refine s_kAt B l1 hl1 dX4_raw_35 (fun v27 => ?_)
      refine hp_Ai B.1 dX4_raw_36 (fun v28 => ?_)
      refine s_isub B.1.1 dX4_raw_37 ?_
      refine s_goto B.1.1 42 dX4_raw_38 (by decide) ?_
      exact Sm.lvs [0, 1, 3] rfl (sc_X4_raw_J42 B hl1 hkb hke50 l3 l2 (v25 - v28))
set_option maxRecDepth 10000 in
theorem sc_X4_raw_L4 {g : Gm Hp (Option Nat)} {ke50 : Int32 → Hp → Option ((Option Nat) × Hp)} (B : Bx g cX4_raw 7 RX4 voR (some (.object "TopicBroker$Row")) 2 41 "raw") {l0 : Nat} {l1 : Nat} (hl1 : l1 < 2) (hke50 : ∀ (l2 : Int32), Sm g 7 50 [(0, va_rf (some l0)), (1, .ref (g.1.2.1 (1020 + l1))), (2, .int l2)] [] (ke50 l2)) : ∀ (n : Nat) (l2 : Int32) (l3 : Int32), Sm g 7 4 [(0, va_rf (some l0)), (1, .ref (g.1.2.1 (1020 + l1))), (2, .int l2), (3, .int l3)] [] (C_X4_raw_L4 l0 l1 ke50 n l2 l3)
  | 0, _, _ => Sm.fail
  | n + 1, l2, l3 => sc_X4_raw_B4 B hl1 (sc_X4_raw_L4 B hl1 hke50 n) hke50 l2 l3
def C_X4_raw (l0 : Nat) (l1 : Nat) : Hp → Option ((Option Nat) × Hp) :=
  C_X4_raw_L4 l0 l1 (fun l2 => C_X4_raw_J50 l0 l1 l2) fu (0 : Int32) (0 : Int32)
set_option maxRecDepth 10000 in
theorem mo_C_X4_raw (l0 : Nat) (l1 : Nat) : Mo (C_X4_raw l0 l1) := by
  unfold C_X4_raw
  repeat' (with_reducible first | assumption | exact mo_rt _ | exact mo_zt _ | exact mo_no | apply mo_C_X4_raw_L4 | apply mo_C_X4_raw_J50 | refine mo_ite ?_ ?_ | refine mo_hgI (fun _ => ?_) | refine mo_hgR (fun _ => ?_) | refine mo_hCv (fun _ => ?_) (fun _ => ?_) | refine mo_lq (fun _ => ?_) | refine mo_hpI ?_ | refine mo_hpR ?_ | refine mo_hAi (fun _ => ?_) | refine mo_hAr (fun _ => ?_) | refine mo_hWi ?_ | refine mo_hWr ?_ | refine mo_hLn (fun _ => ?_) | refine mo_hgL (fun _ => ?_) | refine mo_hpL ?_ | refine mo_hpZ ?_ | refine mo_bd ?_ (fun _ => ?_) | refine mo_hCi (fun _ => ?_) (fun _ => ?_) | refine mo_hNw (fun _ => ?_) | refine mo_hNa (fun _ => ?_) | refine mo_hCp ?_ | refine mo_hOi ?_ | refine mo_hAl (fun _ => ?_) | refine mo_hWl ?_ | refine mo_gd ?_ | refine mo_sLn (fun _ => ?_) | refine mo_sAt (fun _ => ?_) | refine mo_kLn (fun _ => ?_) | refine mo_kAt (fun _ => ?_))
set_option maxRecDepth 10000 in
theorem mC_X4_raw {w : Wd} (hw : Wc w) (l0 : Nat) (l1 : Nat) (hl1 : l1 < 2) : MH w yX4_raw cX4_raw 7 (some (.object "TopicBroker$Row")) 2 41 voR [va_rf (some l0), .ref (w.2.1 (1020 + l1))] (C_X4_raw l0 l1) := by
  have M0 : ∀ g : Gm Hp (Option Nat), g.1 = w → Bx g cX4_raw 7 RX4 voR (some (.object "TopicBroker$Row")) 2 41 "raw" → Sm g 7 0 (lv_args 0 [va_rf (some l0), .ref (w.2.1 (1020 + l1))]) [] (C_X4_raw l0 l1) := by
    intro g hg B
    subst hg
    unfold C_X4_raw
    refine W_lva (lv := [(0, va_rf (some l0)), (1, .ref (g.1.2.1 (1020 + l1)))]) (by simp [lv_args, va_rf_cat, cat_i, cat_l, cat_r]) ?_
    refine s_iconst (v := 0) B.1.1 dX4_raw_0 (by decide) ?_
    refine s_istore_n (i := 2) (lv' := [(2, .int (0 : Int32)), (0, va_rf (some l0)), (1, .ref (g.1.2.1 (1020 + l1)))]) B.1.1 dX4_raw_1 rfl (by decide) rfl ?_
    refine s_iconst (v := 0) B.1.1 dX4_raw_2 (by decide) ?_
    refine s_istore_n (i := 3) (lv' := [(3, .int (0 : Int32)), (2, .int (0 : Int32)), (0, va_rf (some l0)), (1, .ref (g.1.2.1 (1020 + l1)))]) B.1.1 dX4_raw_3 rfl (by decide) rfl ?_
    exact Sm.lvs [2, 3, 1, 0] rfl (sc_X4_raw_L4 B hl1 (fun l2 => sc_X4_raw_J50 B hl1 l2) fu (0 : Int32) (0 : Int32))
  exact MH.of hw ⟨rfl, rfl⟩ (by decide) (by simp [lg_sl, va_rf_cat, cat_i, cat_l, cat_r]) (mo_C_X4_raw l0 l1) M0
