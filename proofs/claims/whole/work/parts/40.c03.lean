def C_X11_makeId_J42 (l0 : Nat) (l1 : Option Nat) : Hp → Option ((Option Nat) × Hp) :=
  rt (l1)
set_option maxRecDepth 10000 in
theorem mo_C_X11_makeId_J42 (l0 : Nat) (l1 : Option Nat) : Mo (C_X11_makeId_J42 l0 l1) := by
  unfold C_X11_makeId_J42
  repeat' (with_reducible first | assumption | exact mo_rt _ | exact mo_zt _ | exact mo_no | refine mo_ite ?_ ?_ | refine mo_hgI (fun _ => ?_) | refine mo_hgR (fun _ => ?_) | refine mo_hCv (fun _ => ?_) (fun _ => ?_) | refine mo_lq (fun _ => ?_) | refine mo_hpI ?_ | refine mo_hpR ?_ | refine mo_hAi (fun _ => ?_) | refine mo_hAr (fun _ => ?_) | refine mo_hWi ?_ | refine mo_hWr ?_ | refine mo_hLn (fun _ => ?_) | refine mo_hgL (fun _ => ?_) | refine mo_hpL ?_ | refine mo_hpZ ?_ | refine mo_bd ?_ (fun _ => ?_) | refine mo_hCi (fun _ => ?_) (fun _ => ?_) | refine mo_hNw (fun _ => ?_) | refine mo_hNa (fun _ => ?_) | refine mo_hCp ?_ | refine mo_hOi ?_ | refine mo_hAl (fun _ => ?_) | refine mo_hWl ?_ | refine mo_gd ?_ | refine mo_sLn (fun _ => ?_) | refine mo_sAt (fun _ => ?_) | refine mo_kLn (fun _ => ?_) | refine mo_kAt (fun _ => ?_))
set_option maxRecDepth 10000 in
theorem sc_X11_makeId_J42 {g : Gm Hp (Option Nat)} (B : Bx g cX11_makeId 3 RX11 voR (some (.object "TopicBroker$Row")) 9 324 "makeId") {l0 : Nat} (l1 : Option Nat) : Sm g 3 42 [(1, va_rf l1)] [] (C_X11_makeId_J42 l0 l1) := by
  unfold C_X11_makeId_J42
  refine s_rload_n B.1.1 0 dX11_makeId_42 rfl rfl ?_
  exact s_aret B.1.1 B.2.2.2.2 (Or.inl ⟨_, rfl⟩) dX11_makeId_43
def C_X11_makeId_B17 (l0 : Nat) (kb : Option Nat → Int32 → Hp → Option ((Option Nat) × Hp)) (ke42 : Option Nat → Hp → Option ((Option Nat) × Hp)) (l1 : Option Nat) (l2 : Int32) : Hp → Option ((Option Nat) × Hp) :=
  if (12 : Int32) ≤ l2 then (
    ke42 l1
  ) else (
    hCv 13 (some l0) (fun a => C_X11_find a l1) fun r1 =>
    if r1 = none then (
      ke42 l1
    ) else (
      hCv 13 (some l0) (fun a => C_X11_autoId a) fun r2 =>
      kb r2 (l2 + 1)
    )
  )
def C_X11_makeId_L17 (l0 : Nat) (ke42 : Option Nat → Hp → Option ((Option Nat) × Hp)) : Nat → Option Nat → Int32 → Hp → Option ((Option Nat) × Hp)
  | 0, _, _ => no
  | n + 1, l1, l2 => C_X11_makeId_B17 l0 (fun l1 l2 => C_X11_makeId_L17 l0 ke42 n l1 l2) ke42 l1 l2
set_option maxRecDepth 10000 in
theorem mo_C_X11_makeId_B17 (l0 : Nat) (kb : Option Nat → Int32 → Hp → Option ((Option Nat) × Hp)) (ke42 : Option Nat → Hp → Option ((Option Nat) × Hp)) (hkb : ∀ (l1 : Option Nat) (l2 : Int32), Mo (kb l1 l2)) (hke42 : ∀ (l1 : Option Nat), Mo (ke42 l1)) (l1 : Option Nat) (l2 : Int32) : Mo (C_X11_makeId_B17 l0 kb ke42 l1 l2) := by
  unfold C_X11_makeId_B17
  repeat' (with_reducible first | assumption | exact mo_rt _ | exact mo_zt _ | exact mo_no | apply mo_C_X11_find | apply mo_C_X11_autoId | apply hkb | apply hke42 | refine mo_ite ?_ ?_ | refine mo_hgI (fun _ => ?_) | refine mo_hgR (fun _ => ?_) | refine mo_hCv (fun _ => ?_) (fun _ => ?_) | refine mo_lq (fun _ => ?_) | refine mo_hpI ?_ | refine mo_hpR ?_ | refine mo_hAi (fun _ => ?_) | refine mo_hAr (fun _ => ?_) | refine mo_hWi ?_ | refine mo_hWr ?_ | refine mo_hLn (fun _ => ?_) | refine mo_hgL (fun _ => ?_) | refine mo_hpL ?_ | refine mo_hpZ ?_ | refine mo_bd ?_ (fun _ => ?_) | refine mo_hCi (fun _ => ?_) (fun _ => ?_) | refine mo_hNw (fun _ => ?_) | refine mo_hNa (fun _ => ?_) | refine mo_hCp ?_ | refine mo_hOi ?_ | refine mo_hAl (fun _ => ?_) | refine mo_hWl ?_ | refine mo_gd ?_ | refine mo_sLn (fun _ => ?_) | refine mo_sAt (fun _ => ?_) | refine mo_kLn (fun _ => ?_) | refine mo_kAt (fun _ => ?_))
set_option maxRecDepth 10000 in
theorem mo_C_X11_makeId_L17 (l0 : Nat) (ke42 : Option Nat → Hp → Option ((Option Nat) × Hp)) (hke42 : ∀ (l1 : Option Nat), Mo (ke42 l1)) : ∀ (n : Nat) (l1 : Option Nat) (l2 : Int32), Mo (C_X11_makeId_L17 l0 ke42 n l1 l2)
  | 0, _, _ => mo_no
  | n + 1, l1, l2 => mo_C_X11_makeId_B17 l0 _ ke42 (mo_C_X11_makeId_L17 l0 ke42 hke42 n) hke42 l1 l2
set_option maxRecDepth 10000 in
theorem sc_X11_makeId_B17 {g : Gm Hp (Option Nat)} {kb : Option Nat → Int32 → Hp → Option ((Option Nat) × Hp)} {ke42 : Option Nat → Hp → Option ((Option Nat) × Hp)} (B : Bx g cX11_makeId 3 RX11 voR (some (.object "TopicBroker$Row")) 9 324 "makeId") {l0 : Nat} (hkb : ∀ (l1 : Option Nat) (l2 : Int32), Sm g 3 17 [(0, va_rf (some l0)), (1, va_rf l1), (2, .int l2)] [] (kb l1 l2)) (hke42 : ∀ (l1 : Option Nat), Sm g 3 42 [(1, va_rf l1)] [] (ke42 l1)) (l1 : Option Nat) (l2 : Int32) : Sm g 3 17 [(0, va_rf (some l0)), (1, va_rf l1), (2, .int l2)] [] (C_X11_makeId_B17 l0 kb ke42 l1 l2) := by
  unfold C_X11_makeId_B17
  refine s_iload_n B.1.1 2 dX11_makeId_17 rfl rfl ?_
  refine s_bipush (v := (12)) B.1.1 dX11_makeId_18 (by decide) ?_
  refine s_icmp_ge B.1.1 42 dX11_makeId_20 (by decide) ?_ ?_
  · exact Sm.lvs [1] rfl (hke42 l1)
  · refine s_rload_n B.1.1 0 dX11_makeId_23 rfl rfl ?_
    refine s_rload_n B.1.1 1 dX11_makeId_24 rfl rfl ?_
    refine hp_cvr (As := [va_rf l1]) (st := []) 13 rfl (by decide) B.1 (fun a => mC_X11_find B.2.1 a l1) cc_X11_find cl_X11_363 cn_X11_find ce_X11_find ci_X11 cd_X11_find (by decide) rfl (Nat.le_of_ble_eq_true rfl) dX11_makeId_25 (fun r1 => ?_)
    refine s_ifnull B.1.1 42 dX11_makeId_28 (by decide) ?_ ?_
    · exact Sm.lvs [1] rfl (hke42 l1)
    · refine s_rload_n B.1.1 0 dX11_makeId_31 rfl rfl ?_
      refine hp_cvr (As := []) (st := []) 13 rfl (by decide) B.1 (fun a => mC_X11_autoId B.2.1 a ) cc_X11_autoId cl_X11_399 cn_X11_autoId ce_X11_autoId ci_X11 cd_X11_autoId (by decide) rfl (Nat.le_of_ble_eq_true rfl) dX11_makeId_32 (fun r2 => ?_)
      refine s_rstore_n (i := 1) (lv' := [(1, va_rf r2), (0, va_rf (some l0)), (2, .int l2)]) B.1.1 dX11_makeId_35 rfl (by decide) rfl ?_
      refine s_iinc (v := l2 + 1) (lv' := [(2, .int (l2 + 1)), (1, va_rf r2), (0, va_rf (some l0))]) B.1.1 2 dX11_makeId_36 rfl rfl (by decide) (by simp [va_rf_cat, cat_i, cat_l, cat_r]) ?_
      refine s_goto B.1.1 17 dX11_makeId_39 (by decide) ?_
      exact Sm.lvs [2, 1, 0] rfl (hkb r2 (l2 + 1))
set_option maxRecDepth 10000 in
theorem sc_X11_makeId_L17 {g : Gm Hp (Option Nat)} {ke42 : Option Nat → Hp → Option ((Option Nat) × Hp)} (B : Bx g cX11_makeId 3 RX11 voR (some (.object "TopicBroker$Row")) 9 324 "makeId") {l0 : Nat} (hke42 : ∀ (l1 : Option Nat), Sm g 3 42 [(1, va_rf l1)] [] (ke42 l1)) : ∀ (n : Nat) (l1 : Option Nat) (l2 : Int32), Sm g 3 17 [(0, va_rf (some l0)), (1, va_rf l1), (2, .int l2)] [] (C_X11_makeId_L17 l0 ke42 n l1 l2)
  | 0, _, _ => Sm.fail
  | n + 1, l1, l2 => sc_X11_makeId_B17 B (sc_X11_makeId_L17 B hke42 n) hke42 l1 l2
def C_X11_makeId (l0 : Nat) : Hp → Option ((Option Nat) × Hp) :=
  hgI 13 14 (some l0) fun v3 =>
  hpI 13 14 (some l0) (v3 + (1 : Int32)) <|
  hCv 13 (some l0) (fun a => C_X11_autoId a) fun r4 =>
  C_X11_makeId_L17 l0 (fun l1 => C_X11_makeId_J42 l0 l1) fu r4 (0 : Int32)
set_option maxRecDepth 10000 in
theorem mo_C_X11_makeId (l0 : Nat) : Mo (C_X11_makeId l0) := by
  unfold C_X11_makeId
  repeat' (with_reducible first | assumption | exact mo_rt _ | exact mo_zt _ | exact mo_no | apply mo_C_X11_autoId | apply mo_C_X11_makeId_L17 | apply mo_C_X11_makeId_J42 | refine mo_ite ?_ ?_ | refine mo_hgI (fun _ => ?_) | refine mo_hgR (fun _ => ?_) | refine mo_hCv (fun _ => ?_) (fun _ => ?_) | refine mo_lq (fun _ => ?_) | refine mo_hpI ?_ | refine mo_hpR ?_ | refine mo_hAi (fun _ => ?_) | refine mo_hAr (fun _ => ?_) | refine mo_hWi ?_ | refine mo_hWr ?_ | refine mo_hLn (fun _ => ?_) | refine mo_hgL (fun _ => ?_) | refine mo_hpL ?_ | refine mo_hpZ ?_ | refine mo_bd ?_ (fun _ => ?_) | refine mo_hCi (fun _ => ?_) (fun _ => ?_) | refine mo_hNw (fun _ => ?_) | refine mo_hNa (fun _ => ?_) | refine mo_hCp ?_ | refine mo_hOi ?_ | refine mo_hAl (fun _ => ?_) | refine mo_hWl ?_ | refine mo_gd ?_ | refine mo_sLn (fun _ => ?_) | refine mo_sAt (fun _ => ?_) | refine mo_kLn (fun _ => ?_) | refine mo_kAt (fun _ => ?_))
set_option maxRecDepth 10000 in
theorem mC_X11_makeId {w : Wd} (hw : Wc w) (l0 : Nat) : MH w yX11_makeId cX11_makeId 3 (some (.object "TopicBroker$Row")) 9 324 voR [va_rf (some l0)] (C_X11_makeId l0) := by
  have M0 : ∀ g : Gm Hp (Option Nat), g.1 = w → Bx g cX11_makeId 3 RX11 voR (some (.object "TopicBroker$Row")) 9 324 "makeId" → Sm g 3 0 (lv_args 0 [va_rf (some l0)]) [] (C_X11_makeId l0) := by
    intro g hg B
    subst hg
    unfold C_X11_makeId
    refine W_lva (lv := [(0, va_rf (some l0))]) (by simp [lv_args, va_rf_cat, cat_i, cat_l, cat_r]) ?_
    refine s_rload_n B.1.1 0 dX11_makeId_0 rfl rfl ?_
    refine s_dup B.1.1 dX11_makeId_1 rfl ?_
    refine hp_getI B.1 13 14 rfl (by decide) inX11 (by decide) fk_X11_14.1 fk_X11_14.2 cf_X11_255 dX11_makeId_2 (fun v3 => ?_)
    refine s_iconst (v := 1) B.1.1 dX11_makeId_5 (by decide) ?_
    refine s_iadd B.1.1 dX11_makeId_6 ?_
    refine hp_putI B.1 13 14 rfl (by decide) inX11 tyX11 tyX11_ok nmX11 (by decide) fk_X11_14.1 fk_X11_14.2 ft_X11_14 rfl cf_X11_255 dX11_makeId_7 ?_
    refine s_rload_n B.1.1 0 dX11_makeId_10 rfl rfl ?_
    refine hp_cvr (As := []) (st := []) 13 rfl (by decide) B.1 (fun a => mC_X11_autoId B.2.1 a ) cc_X11_autoId cl_X11_399 cn_X11_autoId ce_X11_autoId ci_X11 cd_X11_autoId (by decide) rfl (Nat.le_of_ble_eq_true rfl) dX11_makeId_11 (fun r4 => ?_)
    refine s_rstore_n (i := 1) (lv' := [(1, va_rf r4), (0, va_rf (some l0))]) B.1.1 dX11_makeId_14 rfl (by decide) rfl ?_
    refine s_iconst (v := 0) B.1.1 dX11_makeId_15 (by decide) ?_
    refine s_istore_n (i := 2) (lv' := [(2, .int (0 : Int32)), (1, va_rf r4), (0, va_rf (some l0))]) B.1.1 dX11_makeId_16 rfl (by decide) (by simp [va_rf_cat, cat_i, cat_l, cat_r]) ?_
    exact Sm.lvs [2, 1, 0] rfl (sc_X11_makeId_L17 B (fun l1 => sc_X11_makeId_J42 B l1) fu r4 (0 : Int32))
  exact MH.of hw ⟨rfl, rfl⟩ (by decide) (by simp [lg_sl, va_rf_cat, cat_i, cat_l, cat_r]) (mo_C_X11_makeId l0) M0
def C_X8_init (l0 : Nat) (l1 : Int32) (l2 : Option Nat) : Hp → Option (Unit × Hp) :=
  hOi (some l0) <|
  hNa 6 (8 : Int32) fun o1 =>
  hpR 10 3 (some l0) o1 <|
  hNa 7 (16 : Int32) fun o2 =>
  hpR 10 5 (some l0) o2 <|
  hNa 7 (24 : Int32) fun o3 =>
  hpR 10 7 (some l0) o3 <|
  hNa 0 (8 : Int32) fun o4 =>
  hpR 10 9 (some l0) o4 <|
  hpI 10 0 (some l0) l1 <|
  hpR 10 1 (some l0) l2 <|
  rt ()
set_option maxRecDepth 10000 in
theorem mo_C_X8_init (l0 : Nat) (l1 : Int32) (l2 : Option Nat) : Mo (C_X8_init l0 l1 l2) := by
  unfold C_X8_init
  repeat' (with_reducible first | assumption | exact mo_rt _ | exact mo_zt _ | exact mo_no | refine mo_ite ?_ ?_ | refine mo_hgI (fun _ => ?_) | refine mo_hgR (fun _ => ?_) | refine mo_hCv (fun _ => ?_) (fun _ => ?_) | refine mo_lq (fun _ => ?_) | refine mo_hpI ?_ | refine mo_hpR ?_ | refine mo_hAi (fun _ => ?_) | refine mo_hAr (fun _ => ?_) | refine mo_hWi ?_ | refine mo_hWr ?_ | refine mo_hLn (fun _ => ?_) | refine mo_hgL (fun _ => ?_) | refine mo_hpL ?_ | refine mo_hpZ ?_ | refine mo_bd ?_ (fun _ => ?_) | refine mo_hCi (fun _ => ?_) (fun _ => ?_) | refine mo_hNw (fun _ => ?_) | refine mo_hNa (fun _ => ?_) | refine mo_hCp ?_ | refine mo_hOi ?_ | refine mo_hAl (fun _ => ?_) | refine mo_hWl ?_ | refine mo_gd ?_ | refine mo_sLn (fun _ => ?_) | refine mo_sAt (fun _ => ?_) | refine mo_kLn (fun _ => ?_) | refine mo_kAt (fun _ => ?_))
set_option maxRecDepth 10000 in
theorem mC_X8_init {w : Wd} (hw : Wc w) (l0 : Nat) (l1 : Int32) (l2 : Option Nat) : MH w yX8_init cX8_init 3 none 1 20 voV [va_rf (some l0), .int l1, va_rf l2] (C_X8_init l0 l1 l2) := by
  have M0 : ∀ g : Gm Hp Unit, g.1 = w → Bx g cX8_init 3 RX8 voV none 1 20 "<init>" → Sm g 3 0 (lv_args 0 [va_rf (some l0), .int l1, va_rf l2]) [] (C_X8_init l0 l1 l2) := by
    intro g hg B
    subst hg
    unfold C_X8_init
    refine W_lva (lv := [(0, va_rf (some l0)), (1, .int l1), (2, va_rf l2)]) (by simp [lv_args, va_rf_cat, cat_i, cat_l, cat_r]) ?_
    refine s_rload_n B.1.1 0 dX8_init_0 rfl rfl ?_
    refine hp_Oi B.1 tw_1303 oi_in oi_code (by decide) (Nat.le_of_ble_eq_true rfl) dX8_init_1 ?_
    refine s_rload_n B.1.1 0 dX8_init_4 rfl rfl ?_
    refine s_bipush (v := (8)) B.1.1 dX8_init_5 (by decide) ?_
    refine hp_Nq B.1 B.2.2.1.1 6 (by decide +kernel) (by decide) (fun _ => rfl) tw_1202 dX8_init_7 (fun o1 => ?_)
    refine hp_putRF B.1 10 3 rfl (by decide) inX8 tyX8 tyX8_ok nmX8 (by decide) fk_X8_3 ft_X8_3 rfA rfl rfl B.2.2.2.1 cf_X8_11 dX8_init_10 ?_
    refine s_rload_n B.1.1 0 dX8_init_13 rfl rfl ?_
    refine s_bipush (v := (16)) B.1.1 dX8_init_14 (by decide) ?_
    refine hp_Nq B.1 B.2.2.1.1 7 (by decide +kernel) (by decide) (fun _ => rfl) tw_1305 dX8_init_16 (fun o2 => ?_)
    refine hp_putRF B.1 10 5 rfl (by decide) inX8 tyX8 tyX8_ok nmX8 (by decide) fk_X8_5 ft_X8_5 rfA rfl rfl B.2.2.2.1 cf_X8_19 dX8_init_19 ?_
    refine s_rload_n B.1.1 0 dX8_init_22 rfl rfl ?_
    refine s_bipush (v := (24)) B.1.1 dX8_init_23 (by decide) ?_
    refine hp_Nq B.1 B.2.2.1.1 7 (by decide +kernel) (by decide) (fun _ => rfl) tw_1305 dX8_init_25 (fun o3 => ?_)
    refine hp_putRF B.1 10 7 rfl (by decide) inX8 tyX8 tyX8_ok nmX8 (by decide) fk_X8_7 ft_X8_7 rfA rfl rfl B.2.2.2.1 cf_X8_23 dX8_init_28 ?_
    refine s_rload_n B.1.1 0 dX8_init_31 rfl rfl ?_
    refine s_bipush (v := (8)) B.1.1 dX8_init_32 (by decide) ?_
    refine hp_Na (atype := .int) B.1 0 rfl (by decide) tw_100 (fun _ => rfl) (fun _ _ => rfl) rfl (by decide) dX8_init_34 (fun o4 => ?_)
    refine hp_putRF B.1 10 9 rfl (by decide) inX8 tyX8 tyX8_ok nmX8 (by decide) fk_X8_9 ft_X8_9 rfA rfl rfl B.2.2.2.1 cf_X8_26 dX8_init_36 ?_
    refine s_rload_n B.1.1 0 dX8_init_39 rfl rfl ?_
    refine s_iload_n B.1.1 1 dX8_init_40 rfl rfl ?_
    refine hp_putIF B.1 10 0 rfl (by decide) inX8 tyX8 tyX8_ok nmX8 (by decide) fk_X8_0.1 fk_X8_0.2 ft_X8_0 rfl rfl B.2.2.2.1 cf_X8_30 dX8_init_41 ?_
    refine s_rload_n B.1.1 0 dX8_init_44 rfl rfl ?_
    refine s_rload_n B.1.1 2 dX8_init_45 rfl rfl ?_
    refine hp_putRF B.1 10 1 rfl (by decide) inX8 tyX8 tyX8_ok nmX8 (by decide) fk_X8_1 ft_X8_1 rfR rfl rfl B.2.2.2.1 cf_X8_34 dX8_init_46 ?_
    exact s_vret B.1.1 B.2.2.2.2 dX8_init_49
  exact MH.of hw ⟨rfl, rfl⟩ (by decide) (by simp [lg_sl, va_rf_cat, cat_i, cat_l, cat_r]) (mo_C_X8_init l0 l1 l2) M0
def C_X11_makeSession_J45 (l0 : Nat) : Hp → Option ((Option Nat) × Hp) :=
  rt (none)
set_option maxRecDepth 10000 in
theorem mo_C_X11_makeSession_J45 (l0 : Nat) : Mo (C_X11_makeSession_J45 l0) := by
  unfold C_X11_makeSession_J45
  repeat' (with_reducible first | assumption | exact mo_rt _ | exact mo_zt _ | exact mo_no | refine mo_ite ?_ ?_ | refine mo_hgI (fun _ => ?_) | refine mo_hgR (fun _ => ?_) | refine mo_hCv (fun _ => ?_) (fun _ => ?_) | refine mo_lq (fun _ => ?_) | refine mo_hpI ?_ | refine mo_hpR ?_ | refine mo_hAi (fun _ => ?_) | refine mo_hAr (fun _ => ?_) | refine mo_hWi ?_ | refine mo_hWr ?_ | refine mo_hLn (fun _ => ?_) | refine mo_hgL (fun _ => ?_) | refine mo_hpL ?_ | refine mo_hpZ ?_ | refine mo_bd ?_ (fun _ => ?_) | refine mo_hCi (fun _ => ?_) (fun _ => ?_) | refine mo_hNw (fun _ => ?_) | refine mo_hNa (fun _ => ?_) | refine mo_hCp ?_ | refine mo_hOi ?_ | refine mo_hAl (fun _ => ?_) | refine mo_hWl ?_ | refine mo_gd ?_ | refine mo_sLn (fun _ => ?_) | refine mo_sAt (fun _ => ?_) | refine mo_kLn (fun _ => ?_) | refine mo_kAt (fun _ => ?_))
set_option maxRecDepth 10000 in
theorem sc_X11_makeSession_J45 {g : Gm Hp (Option Nat)} (B : Bx g cX11_makeSession 3 RX11 voR (some (.object "TopicBroker$Session")) 2 42 "makeSession") {l0 : Nat} : Sm g 3 45 [] [] (C_X11_makeSession_J45 l0) := by
  unfold C_X11_makeSession_J45
  refine s_null B.1.1 dX11_makeSession_45 ?_
  exact s_aret B.1.1 B.2.2.2.2 (Or.inl ⟨_, rfl⟩) dX11_makeSession_46
def C_X11_makeSession_J17 (l0 : Nat) (l1 : Option Nat) (l2 : Int32) : Hp → Option ((Option Nat) × Hp) :=
  hgR 13 1 (some l0) fun v1 =>
  hNw 10 18 fun o2 =>
  hCi o2 (fun a => C_X8_init a l2 l1) fun r3 =>
  hWr 5 10 v1 l2 o2 <|
  hgR 13 1 (some l0) fun v4 =>
  hAr 5 v4 l2 fun v5 =>
  rt (v5)
set_option maxRecDepth 10000 in
theorem mo_C_X11_makeSession_J17 (l0 : Nat) (l1 : Option Nat) (l2 : Int32) : Mo (C_X11_makeSession_J17 l0 l1 l2) := by
  unfold C_X11_makeSession_J17
  repeat' (with_reducible first | assumption | exact mo_rt _ | exact mo_zt _ | exact mo_no | apply mo_C_X8_init | refine mo_ite ?_ ?_ | refine mo_hgI (fun _ => ?_) | refine mo_hgR (fun _ => ?_) | refine mo_hCv (fun _ => ?_) (fun _ => ?_) | refine mo_lq (fun _ => ?_) | refine mo_hpI ?_ | refine mo_hpR ?_ | refine mo_hAi (fun _ => ?_) | refine mo_hAr (fun _ => ?_) | refine mo_hWi ?_ | refine mo_hWr ?_ | refine mo_hLn (fun _ => ?_) | refine mo_hgL (fun _ => ?_) | refine mo_hpL ?_ | refine mo_hpZ ?_ | refine mo_bd ?_ (fun _ => ?_) | refine mo_hCi (fun _ => ?_) (fun _ => ?_) | refine mo_hNw (fun _ => ?_) | refine mo_hNa (fun _ => ?_) | refine mo_hCp ?_ | refine mo_hOi ?_ | refine mo_hAl (fun _ => ?_) | refine mo_hWl ?_ | refine mo_gd ?_ | refine mo_sLn (fun _ => ?_) | refine mo_sAt (fun _ => ?_) | refine mo_kLn (fun _ => ?_) | refine mo_kAt (fun _ => ?_))
set_option maxRecDepth 10000 in
theorem sc_X11_makeSession_J17 {g : Gm Hp (Option Nat)} (B : Bx g cX11_makeSession 3 RX11 voR (some (.object "TopicBroker$Session")) 2 42 "makeSession") {l0 : Nat} (l1 : Option Nat) (l2 : Int32) : Sm g 3 17 [(0, va_rf (some l0)), (1, va_rf l1), (2, .int l2)] [] (C_X11_makeSession_J17 l0 l1 l2) := by
  unfold C_X11_makeSession_J17
  refine s_rload_n B.1.1 0 dX11_makeSession_17 rfl rfl ?_
  refine hp_getR B.1 13 1 rfl (by decide) inX11 (by decide) fk_X11_1 cf_X11_20 dX11_makeSession_18 (fun v1 => ?_)
  refine s_iload_n B.1.1 2 dX11_makeSession_21 rfl rfl ?_
  refine hp_Nw B.1 10 rfl (by decide) inX8 tyX8 tyX8_ok dfX8 tw_101 tw_1299 tw_30 dX11_makeSession_22 (fun o2 => ?_)
  refine s_dup B.1.1 dX11_makeSession_25 (va_rf_cat _) ?_
  refine s_iload_n B.1.1 2 dX11_makeSession_26 rfl rfl ?_
  refine s_rload_n B.1.1 1 dX11_makeSession_27 rfl rfl ?_
  refine hp_cI (As := [.int l2, va_rf l1]) (st := [va_rf o2, .int l2, va_rf v1]) B.1 (fun a => mC_X8_init B.2.1 a l2 l1) cc_X8_init cl_X11_419 cn_X8_init ci_X8 rfl cd_X8_init (by decide) rfl (by simp [va_rf_cat, cat_i, cat_l, cat_r]) dX11_makeSession_28 (fun r3 => ?_)
  refine hp_Wr B.1 5 10 (by decide) (fun _ => rfl) rfl (by decide) dX11_makeSession_31 ?_
  refine s_rload_n B.1.1 0 dX11_makeSession_32 rfl rfl ?_
  refine hp_getR B.1 13 1 rfl (by decide) inX11 (by decide) fk_X11_1 cf_X11_20 dX11_makeSession_33 (fun v4 => ?_)
  refine s_iload_n B.1.1 2 dX11_makeSession_36 rfl rfl ?_
  refine hp_Ar B.1 5 (by decide) (fun _ => rfl) dX11_makeSession_37 (fun v5 => ?_)
  exact s_aret B.1.1 B.2.2.2.2 (Or.inl ⟨_, rfl⟩) dX11_makeSession_38
def C_X11_makeSession_B2 (l0 : Nat) (kb : Option Nat → Int32 → Hp → Option ((Option Nat) × Hp)) (ke17 : Option Nat → Int32 → Hp → Option ((Option Nat) × Hp)) (ke45 : Hp → Option ((Option Nat) × Hp)) (l1 : Option Nat) (l2 : Int32) : Hp → Option ((Option Nat) × Hp) :=
  if (12 : Int32) ≤ l2 then (
    ke45
  ) else (
    hgR 13 1 (some l0) fun v6 =>
    hAr 5 v6 l2 fun v7 =>
    if v7 = none then (
      ke17 l1 l2
    ) else (
      kb l1 (l2 + 1)
    )
  )
def C_X11_makeSession_L2 (l0 : Nat) (ke17 : Option Nat → Int32 → Hp → Option ((Option Nat) × Hp)) (ke45 : Hp → Option ((Option Nat) × Hp)) : Nat → Option Nat → Int32 → Hp → Option ((Option Nat) × Hp)
  | 0, _, _ => no
  | n + 1, l1, l2 => C_X11_makeSession_B2 l0 (fun l1 l2 => C_X11_makeSession_L2 l0 ke17 ke45 n l1 l2) ke17 ke45 l1 l2
set_option maxRecDepth 10000 in
theorem mo_C_X11_makeSession_B2 (l0 : Nat) (kb : Option Nat → Int32 → Hp → Option ((Option Nat) × Hp)) (ke17 : Option Nat → Int32 → Hp → Option ((Option Nat) × Hp)) (ke45 : Hp → Option ((Option Nat) × Hp)) (hkb : ∀ (l1 : Option Nat) (l2 : Int32), Mo (kb l1 l2)) (hke17 : ∀ (l1 : Option Nat) (l2 : Int32), Mo (ke17 l1 l2)) (hke45 : Mo (ke45)) (l1 : Option Nat) (l2 : Int32) : Mo (C_X11_makeSession_B2 l0 kb ke17 ke45 l1 l2) := by
  unfold C_X11_makeSession_B2
  repeat' (with_reducible first | assumption | exact mo_rt _ | exact mo_zt _ | exact mo_no | apply hkb | apply hke17 | apply hke45 | refine mo_ite ?_ ?_ | refine mo_hgI (fun _ => ?_) | refine mo_hgR (fun _ => ?_) | refine mo_hCv (fun _ => ?_) (fun _ => ?_) | refine mo_lq (fun _ => ?_) | refine mo_hpI ?_ | refine mo_hpR ?_ | refine mo_hAi (fun _ => ?_) | refine mo_hAr (fun _ => ?_) | refine mo_hWi ?_ | refine mo_hWr ?_ | refine mo_hLn (fun _ => ?_) | refine mo_hgL (fun _ => ?_) | refine mo_hpL ?_ | refine mo_hpZ ?_ | refine mo_bd ?_ (fun _ => ?_) | refine mo_hCi (fun _ => ?_) (fun _ => ?_) | refine mo_hNw (fun _ => ?_) | refine mo_hNa (fun _ => ?_) | refine mo_hCp ?_ | refine mo_hOi ?_ | refine mo_hAl (fun _ => ?_) | refine mo_hWl ?_ | refine mo_gd ?_ | refine mo_sLn (fun _ => ?_) | refine mo_sAt (fun _ => ?_) | refine mo_kLn (fun _ => ?_) | refine mo_kAt (fun _ => ?_))
set_option maxRecDepth 10000 in
theorem mo_C_X11_makeSession_L2 (l0 : Nat) (ke17 : Option Nat → Int32 → Hp → Option ((Option Nat) × Hp)) (ke45 : Hp → Option ((Option Nat) × Hp)) (hke17 : ∀ (l1 : Option Nat) (l2 : Int32), Mo (ke17 l1 l2)) (hke45 : Mo (ke45)) : ∀ (n : Nat) (l1 : Option Nat) (l2 : Int32), Mo (C_X11_makeSession_L2 l0 ke17 ke45 n l1 l2)
  | 0, _, _ => mo_no
  | n + 1, l1, l2 => mo_C_X11_makeSession_B2 l0 _ ke17 ke45 (mo_C_X11_makeSession_L2 l0 ke17 ke45 hke17 hke45 n) hke17 hke45 l1 l2
set_option maxRecDepth 10000 in
theorem sc_X11_makeSession_B2 {g : Gm Hp (Option Nat)} {kb : Option Nat → Int32 → Hp → Option ((Option Nat) × Hp)} {ke17 : Option Nat → Int32 → Hp → Option ((Option Nat) × Hp)} {ke45 : Hp → Option ((Option Nat) × Hp)} (B : Bx g cX11_makeSession 3 RX11 voR (some (.object "TopicBroker$Session")) 2 42 "makeSession") {l0 : Nat} (hkb : ∀ (l1 : Option Nat) (l2 : Int32), Sm g 3 2 [(0, va_rf (some l0)), (1, va_rf l1), (2, .int l2)] [] (kb l1 l2)) (hke17 : ∀ (l1 : Option Nat) (l2 : Int32), Sm g 3 17 [(0, va_rf (some l0)), (1, va_rf l1), (2, .int l2)] [] (ke17 l1 l2)) (hke45 : Sm g 3 45 [] [] (ke45)) (l1 : Option Nat) (l2 : Int32) : Sm g 3 2 [(0, va_rf (some l0)), (1, va_rf l1), (2, .int l2)] [] (C_X11_makeSession_B2 l0 kb ke17 ke45 l1 l2) := by
  unfold C_X11_makeSession_B2
  refine s_iload_n B.1.1 2 dX11_makeSession_2 rfl rfl ?_
  refine s_bipush (v := (12)) B.1.1 dX11_makeSession_3 (by decide) ?_
  refine s_icmp_ge B.1.1 45 dX11_makeSession_5 (by decide) ?_ ?_
  · exact Sm.lvs [] rfl (hke45)
  · refine s_rload_n B.1.1 0 dX11_makeSession_8 rfl rfl ?_
    refine hp_getR B.1 13 1 rfl (by decide) inX11 (by decide) fk_X11_1 cf_X11_20 dX11_makeSession_9 (fun v6 => ?_)
    refine s_iload_n B.1.1 2 dX11_makeSession_12 rfl rfl ?_
    refine hp_Ar B.1 5 (by decide) (fun _ => rfl) dX11_makeSession_13 (fun v7 => ?_)
    refine s_ifnonnull B.1.1 39 dX11_makeSession_14 (by decide) ?_ ?_
    · refine s_iinc (v := l2 + 1) (lv' := [(2, .int (l2 + 1)), (0, va_rf (some l0)), (1, va_rf l1)]) B.1.1 2 dX11_makeSession_39 rfl rfl (by decide) (by simp [va_rf_cat, cat_i, cat_l, cat_r]) ?_
      refine s_goto B.1.1 2 dX11_makeSession_42 (by decide) ?_
      exact Sm.lvs [1, 2, 0] rfl (hkb l1 (l2 + 1))
    · exact Sm.lvs [0, 1, 2] rfl (hke17 l1 l2)
set_option maxRecDepth 10000 in
theorem sc_X11_makeSession_L2 {g : Gm Hp (Option Nat)} {ke17 : Option Nat → Int32 → Hp → Option ((Option Nat) × Hp)} {ke45 : Hp → Option ((Option Nat) × Hp)} (B : Bx g cX11_makeSession 3 RX11 voR (some (.object "TopicBroker$Session")) 2 42 "makeSession") {l0 : Nat} (hke17 : ∀ (l1 : Option Nat) (l2 : Int32), Sm g 3 17 [(0, va_rf (some l0)), (1, va_rf l1), (2, .int l2)] [] (ke17 l1 l2)) (hke45 : Sm g 3 45 [] [] (ke45)) : ∀ (n : Nat) (l1 : Option Nat) (l2 : Int32), Sm g 3 2 [(0, va_rf (some l0)), (1, va_rf l1), (2, .int l2)] [] (C_X11_makeSession_L2 l0 ke17 ke45 n l1 l2)
  | 0, _, _ => Sm.fail
  | n + 1, l1, l2 => sc_X11_makeSession_B2 B (sc_X11_makeSession_L2 B hke17 hke45 n) hke17 hke45 l1 l2
def C_X11_makeSession (l0 : Nat) (l1 : Option Nat) : Hp → Option ((Option Nat) × Hp) :=
  C_X11_makeSession_L2 l0 (fun l1 l2 => C_X11_makeSession_J17 l0 l1 l2) (C_X11_makeSession_J45 l0) fu l1 (0 : Int32)
set_option maxRecDepth 10000 in
theorem mo_C_X11_makeSession (l0 : Nat) (l1 : Option Nat) : Mo (C_X11_makeSession l0 l1) := by
  unfold C_X11_makeSession
  repeat' (with_reducible first | assumption | exact mo_rt _ | exact mo_zt _ | exact mo_no | apply mo_C_X11_makeSession_L2 | apply mo_C_X11_makeSession_J17 | apply mo_C_X11_makeSession_J45 | refine mo_ite ?_ ?_ | refine mo_hgI (fun _ => ?_) | refine mo_hgR (fun _ => ?_) | refine mo_hCv (fun _ => ?_) (fun _ => ?_) | refine mo_lq (fun _ => ?_) | refine mo_hpI ?_ | refine mo_hpR ?_ | refine mo_hAi (fun _ => ?_) | refine mo_hAr (fun _ => ?_) | refine mo_hWi ?_ | refine mo_hWr ?_ | refine mo_hLn (fun _ => ?_) | refine mo_hgL (fun _ => ?_) | refine mo_hpL ?_ | refine mo_hpZ ?_ | refine mo_bd ?_ (fun _ => ?_) | refine mo_hCi (fun _ => ?_) (fun _ => ?_) | refine mo_hNw (fun _ => ?_) | refine mo_hNa (fun _ => ?_) | refine mo_hCp ?_ | refine mo_hOi ?_ | refine mo_hAl (fun _ => ?_) | refine mo_hWl ?_ | refine mo_gd ?_ | refine mo_sLn (fun _ => ?_) | refine mo_sAt (fun _ => ?_) | refine mo_kLn (fun _ => ?_) | refine mo_kAt (fun _ => ?_))
set_option maxRecDepth 10000 in
theorem mC_X11_makeSession {w : Wd} (hw : Wc w) (l0 : Nat) (l1 : Option Nat) : MH w yX11_makeSession cX11_makeSession 3 (some (.object "TopicBroker$Session")) 2 42 voR [va_rf (some l0), va_rf l1] (C_X11_makeSession l0 l1) := by
  have M0 : ∀ g : Gm Hp (Option Nat), g.1 = w → Bx g cX11_makeSession 3 RX11 voR (some (.object "TopicBroker$Session")) 2 42 "makeSession" → Sm g 3 0 (lv_args 0 [va_rf (some l0), va_rf l1]) [] (C_X11_makeSession l0 l1) := by
    intro g hg B
    subst hg
    unfold C_X11_makeSession
    refine W_lva (lv := [(0, va_rf (some l0)), (1, va_rf l1)]) (by simp [lv_args, va_rf_cat, cat_i, cat_l, cat_r]) ?_
    refine s_iconst (v := 0) B.1.1 dX11_makeSession_0 (by decide) ?_
    refine s_istore_n (i := 2) (lv' := [(2, .int (0 : Int32)), (0, va_rf (some l0)), (1, va_rf l1)]) B.1.1 dX11_makeSession_1 rfl (by decide) (by simp [va_rf_cat, cat_i, cat_l, cat_r]) ?_
    exact Sm.lvs [1, 2, 0] rfl (sc_X11_makeSession_L2 B (fun l1 l2 => sc_X11_makeSession_J17 B l1 l2) (sc_X11_makeSession_J45 B) fu l1 (0 : Int32))
  exact MH.of hw ⟨rfl, rfl⟩ (by decide) (by simp [lg_sl, va_rf_cat, cat_i, cat_l, cat_r]) (mo_C_X11_makeSession l0 l1) M0
def C_X11_sayFarewell (l0 : Nat) (l1 : Option Nat) (l2 : Int32) : Hp → Option (Unit × Hp) :=
  hgR 13 5 (some l0) fun v1 =>
  hCv 12 v1 (fun a => C_X10_begin a (224 : Int32)) fun r2 =>
  hgR 13 5 (some l0) fun v3 =>
  hCv 12 v3 (fun a => C_X10_one a l2) fun r4 =>
  hgR 13 5 (some l0) fun v5 =>
  hCv 12 v5 (fun a => C_X10_one a (0 : Int32)) fun r6 =>
  hgR 13 5 (some l0) fun v7 =>
  hCv 2 l1 (fun a => C_X0_put a v7) fun r8 =>
  rt ()
set_option maxRecDepth 10000 in
theorem mo_C_X11_sayFarewell (l0 : Nat) (l1 : Option Nat) (l2 : Int32) : Mo (C_X11_sayFarewell l0 l1 l2) := by
  unfold C_X11_sayFarewell
  repeat' (with_reducible first | assumption | exact mo_rt _ | exact mo_zt _ | exact mo_no | apply mo_C_X10_begin | apply mo_C_X10_one | apply mo_C_X0_put | refine mo_ite ?_ ?_ | refine mo_hgI (fun _ => ?_) | refine mo_hgR (fun _ => ?_) | refine mo_hCv (fun _ => ?_) (fun _ => ?_) | refine mo_lq (fun _ => ?_) | refine mo_hpI ?_ | refine mo_hpR ?_ | refine mo_hAi (fun _ => ?_) | refine mo_hAr (fun _ => ?_) | refine mo_hWi ?_ | refine mo_hWr ?_ | refine mo_hLn (fun _ => ?_) | refine mo_hgL (fun _ => ?_) | refine mo_hpL ?_ | refine mo_hpZ ?_ | refine mo_bd ?_ (fun _ => ?_) | refine mo_hCi (fun _ => ?_) (fun _ => ?_) | refine mo_hNw (fun _ => ?_) | refine mo_hNa (fun _ => ?_) | refine mo_hCp ?_ | refine mo_hOi ?_ | refine mo_hAl (fun _ => ?_) | refine mo_hWl ?_ | refine mo_gd ?_ | refine mo_sLn (fun _ => ?_) | refine mo_sAt (fun _ => ?_) | refine mo_kLn (fun _ => ?_) | refine mo_kAt (fun _ => ?_))
set_option maxRecDepth 10000 in
theorem mC_X11_sayFarewell {w : Wd} (hw : Wc w) (l0 : Nat) (l1 : Option Nat) (l2 : Int32) : MH w yX11_sayFarewell cX11_sayFarewell 3 none 2 64 voV [va_rf (some l0), va_rf l1, .int l2] (C_X11_sayFarewell l0 l1 l2) := by
  have M0 : ∀ g : Gm Hp Unit, g.1 = w → Bx g cX11_sayFarewell 3 RX11 voV none 2 64 "sayFarewell" → Sm g 3 0 (lv_args 0 [va_rf (some l0), va_rf l1, .int l2]) [] (C_X11_sayFarewell l0 l1 l2) := by
    intro g hg B
    subst hg
    unfold C_X11_sayFarewell
    refine W_lva (lv := [(0, va_rf (some l0)), (1, va_rf l1), (2, .int l2)]) (by simp [lv_args, va_rf_cat, cat_i, cat_l, cat_r]) ?_
    refine s_rload_n B.1.1 0 dX11_sayFarewell_0 rfl rfl ?_
    refine hp_getR B.1 13 5 rfl (by decide) inX11 (by decide) fk_X11_5 cf_X11_48 dX11_sayFarewell_1 (fun v1 => ?_)
    refine s_sipush (v := (224)) B.1.1 dX11_sayFarewell_4 (by decide) ?_
    refine hp_cvv (As := [.int (224 : Int32)]) (st := []) 12 rfl (by decide) B.1 (fun a => mC_X10_begin B.2.1 a (224 : Int32)) cc_X10_begin cl_X11_322 cn_X10_begin ce_X10_begin ci_X10 cd_X10_begin (by decide) rfl (Nat.le_of_ble_eq_true rfl) dX11_sayFarewell_7 (fun r2 => ?_)
    refine s_rload_n B.1.1 0 dX11_sayFarewell_10 rfl rfl ?_
    refine hp_getR B.1 13 5 rfl (by decide) inX11 (by decide) fk_X11_5 cf_X11_48 dX11_sayFarewell_11 (fun v3 => ?_)
    refine s_iload_n B.1.1 2 dX11_sayFarewell_14 rfl rfl ?_
    refine hp_cvv (As := [.int l2]) (st := []) 12 rfl (by decide) B.1 (fun a => mC_X10_one B.2.1 a l2) cc_X10_one cl_X11_324 cn_X10_one ce_X10_one ci_X10 cd_X10_one (by decide) rfl (Nat.le_of_ble_eq_true rfl) dX11_sayFarewell_15 (fun r4 => ?_)
    refine s_rload_n B.1.1 0 dX11_sayFarewell_18 rfl rfl ?_
    refine hp_getR B.1 13 5 rfl (by decide) inX11 (by decide) fk_X11_5 cf_X11_48 dX11_sayFarewell_19 (fun v5 => ?_)
    refine s_iconst (v := 0) B.1.1 dX11_sayFarewell_22 (by decide) ?_
    refine hp_cvv (As := [.int (0 : Int32)]) (st := []) 12 rfl (by decide) B.1 (fun a => mC_X10_one B.2.1 a (0 : Int32)) cc_X10_one cl_X11_324 cn_X10_one ce_X10_one ci_X10 cd_X10_one (by decide) rfl (Nat.le_of_ble_eq_true rfl) dX11_sayFarewell_23 (fun r6 => ?_)
    refine s_rload_n B.1.1 1 dX11_sayFarewell_26 rfl rfl ?_
    refine s_rload_n B.1.1 0 dX11_sayFarewell_27 rfl rfl ?_
    refine hp_getR B.1 13 5 rfl (by decide) inX11 (by decide) fk_X11_5 cf_X11_48 dX11_sayFarewell_28 (fun v7 => ?_)
    refine hp_cvv (As := [va_rf v7]) (st := []) 2 rfl (by decide) B.1 (fun a => mC_X0_put B.2.1 a v7) cc_X0_put cl_X11_327 cn_X0_put ce_X0_put ci_X0 cd_X0_put (by decide) rfl (Nat.le_of_ble_eq_true rfl) dX11_sayFarewell_31 (fun r8 => ?_)
    exact s_vret B.1.1 B.2.2.2.2 dX11_sayFarewell_34
  exact MH.of hw ⟨rfl, rfl⟩ (by decide) (by simp [lg_sl, va_rf_cat, cat_i, cat_l, cat_r]) (mo_C_X11_sayFarewell l0 l1 l2) M0
def C_X11_answer_J30 (l0 : Nat) (l1 : Option Nat) : Hp → Option (Unit × Hp) :=
  hgR 13 5 (some l0) fun v1 =>
  hCv 2 l1 (fun a => C_X0_put a v1) fun r2 =>
  rt ()
set_option maxRecDepth 10000 in
theorem mo_C_X11_answer_J30 (l0 : Nat) (l1 : Option Nat) : Mo (C_X11_answer_J30 l0 l1) := by
  unfold C_X11_answer_J30
  repeat' (with_reducible first | assumption | exact mo_rt _ | exact mo_zt _ | exact mo_no | apply mo_C_X0_put | refine mo_ite ?_ ?_ | refine mo_hgI (fun _ => ?_) | refine mo_hgR (fun _ => ?_) | refine mo_hCv (fun _ => ?_) (fun _ => ?_) | refine mo_lq (fun _ => ?_) | refine mo_hpI ?_ | refine mo_hpR ?_ | refine mo_hAi (fun _ => ?_) | refine mo_hAr (fun _ => ?_) | refine mo_hWi ?_ | refine mo_hWr ?_ | refine mo_hLn (fun _ => ?_) | refine mo_hgL (fun _ => ?_) | refine mo_hpL ?_ | refine mo_hpZ ?_ | refine mo_bd ?_ (fun _ => ?_) | refine mo_hCi (fun _ => ?_) (fun _ => ?_) | refine mo_hNw (fun _ => ?_) | refine mo_hNa (fun _ => ?_) | refine mo_hCp ?_ | refine mo_hOi ?_ | refine mo_hAl (fun _ => ?_) | refine mo_hWl ?_ | refine mo_gd ?_ | refine mo_sLn (fun _ => ?_) | refine mo_sAt (fun _ => ?_) | refine mo_kLn (fun _ => ?_) | refine mo_kAt (fun _ => ?_))
set_option maxRecDepth 10000 in
theorem sc_X11_answer_J30 {g : Gm Hp Unit} (B : Bx g cX11_answer 5 RX11 voV none 2 64 "answer") {l0 : Nat} (l1 : Option Nat) : Sm g 5 30 [(0, va_rf (some l0)), (1, va_rf l1)] [] (C_X11_answer_J30 l0 l1) := by
  unfold C_X11_answer_J30
  refine s_rload_n B.1.1 1 dX11_answer_30 rfl rfl ?_
  refine s_rload_n B.1.1 0 dX11_answer_31 rfl rfl ?_
  refine hp_getR B.1 13 5 rfl (by decide) inX11 (by decide) fk_X11_5 cf_X11_48 dX11_answer_32 (fun v1 => ?_)
  refine hp_cvv (As := [va_rf v1]) (st := []) 2 rfl (by decide) B.1 (fun a => mC_X0_put B.2.1 a v1) cc_X0_put cl_X11_327 cn_X0_put ce_X0_put ci_X0 cd_X0_put (by decide) rfl (Nat.le_of_ble_eq_true rfl) dX11_answer_35 (fun r2 => ?_)
  exact s_vret B.1.1 B.2.2.2.2 dX11_answer_38
def C_X11_answer (l0 : Nat) (l1 : Option Nat) (l2 : Int32) (l3 : Int32) (l4 : Int32) : Hp → Option (Unit × Hp) :=
  hgR 13 5 (some l0) fun v3 =>
  hCv 12 v3 (fun a => C_X10_begin a l2) fun r4 =>
  hgR 13 5 (some l0) fun v5 =>
  hCv 12 v5 (fun a => C_X10_two a l3) fun r6 =>
  if l4 = 0 then (
    C_X11_answer_J30 l0 l1
  ) else (
    hgR 13 5 (some l0) fun v7 =>
    hCv 12 v7 (fun a => C_X10_one a l4) fun r8 =>
    C_X11_answer_J30 l0 l1
  )
set_option maxRecDepth 10000 in
theorem mo_C_X11_answer (l0 : Nat) (l1 : Option Nat) (l2 : Int32) (l3 : Int32) (l4 : Int32) : Mo (C_X11_answer l0 l1 l2 l3 l4) := by
  unfold C_X11_answer
  repeat' (with_reducible first | assumption | exact mo_rt _ | exact mo_zt _ | exact mo_no | apply mo_C_X10_begin | apply mo_C_X10_two | apply mo_C_X11_answer_J30 | apply mo_C_X10_one | refine mo_ite ?_ ?_ | refine mo_hgI (fun _ => ?_) | refine mo_hgR (fun _ => ?_) | refine mo_hCv (fun _ => ?_) (fun _ => ?_) | refine mo_lq (fun _ => ?_) | refine mo_hpI ?_ | refine mo_hpR ?_ | refine mo_hAi (fun _ => ?_) | refine mo_hAr (fun _ => ?_) | refine mo_hWi ?_ | refine mo_hWr ?_ | refine mo_hLn (fun _ => ?_) | refine mo_hgL (fun _ => ?_) | refine mo_hpL ?_ | refine mo_hpZ ?_ | refine mo_bd ?_ (fun _ => ?_) | refine mo_hCi (fun _ => ?_) (fun _ => ?_) | refine mo_hNw (fun _ => ?_) | refine mo_hNa (fun _ => ?_) | refine mo_hCp ?_ | refine mo_hOi ?_ | refine mo_hAl (fun _ => ?_) | refine mo_hWl ?_ | refine mo_gd ?_ | refine mo_sLn (fun _ => ?_) | refine mo_sAt (fun _ => ?_) | refine mo_kLn (fun _ => ?_) | refine mo_kAt (fun _ => ?_))
set_option maxRecDepth 10000 in
theorem mC_X11_answer {w : Wd} (hw : Wc w) (l0 : Nat) (l1 : Option Nat) (l2 : Int32) (l3 : Int32) (l4 : Int32) : MH w yX11_answer cX11_answer 5 none 2 64 voV [va_rf (some l0), va_rf l1, .int l2, .int l3, .int l4] (C_X11_answer l0 l1 l2 l3 l4) := by
  have M0 : ∀ g : Gm Hp Unit, g.1 = w → Bx g cX11_answer 5 RX11 voV none 2 64 "answer" → Sm g 5 0 (lv_args 0 [va_rf (some l0), va_rf l1, .int l2, .int l3, .int l4]) [] (C_X11_answer l0 l1 l2 l3 l4) := by
    intro g hg B
    subst hg
    unfold C_X11_answer
    refine W_lva (lv := [(0, va_rf (some l0)), (1, va_rf l1), (2, .int l2), (3, .int l3), (4, .int l4)]) (by simp [lv_args, va_rf_cat, cat_i, cat_l, cat_r]) ?_
    refine s_rload_n B.1.1 0 dX11_answer_0 rfl rfl ?_
    refine hp_getR B.1 13 5 rfl (by decide) inX11 (by decide) fk_X11_5 cf_X11_48 dX11_answer_1 (fun v3 => ?_)
    refine s_iload_n B.1.1 2 dX11_answer_4 rfl rfl ?_
    refine hp_cvv (As := [.int l2]) (st := []) 12 rfl (by decide) B.1 (fun a => mC_X10_begin B.2.1 a l2) cc_X10_begin cl_X11_322 cn_X10_begin ce_X10_begin ci_X10 cd_X10_begin (by decide) rfl (Nat.le_of_ble_eq_true rfl) dX11_answer_5 (fun r4 => ?_)
    refine s_rload_n B.1.1 0 dX11_answer_8 rfl rfl ?_
    refine hp_getR B.1 13 5 rfl (by decide) inX11 (by decide) fk_X11_5 cf_X11_48 dX11_answer_9 (fun v5 => ?_)
    refine s_iload_n B.1.1 3 dX11_answer_12 rfl rfl ?_
    refine hp_cvv (As := [.int l3]) (st := []) 12 rfl (by decide) B.1 (fun a => mC_X10_two B.2.1 a l3) cc_X10_two cl_X11_331 cn_X10_two ce_X10_two ci_X10 cd_X10_two (by decide) rfl (Nat.le_of_ble_eq_true rfl) dX11_answer_13 (fun r6 => ?_)
    refine s_iload B.1.1 4 dX11_answer_16 rfl ?_
    refine s_if_eq B.1.1 30 dX11_answer_18 (by decide) ?_ ?_
    · exact Sm.lvs [0, 1] rfl (sc_X11_answer_J30 B l1)
    · refine s_rload_n B.1.1 0 dX11_answer_21 rfl rfl ?_
      refine hp_getR B.1 13 5 rfl (by decide) inX11 (by decide) fk_X11_5 cf_X11_48 dX11_answer_22 (fun v7 => ?_)
      refine s_iload B.1.1 4 dX11_answer_25 rfl ?_
      refine hp_cvv (As := [.int l4]) (st := []) 12 rfl (by decide) B.1 (fun a => mC_X10_one B.2.1 a l4) cc_X10_one cl_X11_324 cn_X10_one ce_X10_one ci_X10 cd_X10_one (by decide) rfl (Nat.le_of_ble_eq_true rfl) dX11_answer_27 (fun r8 => ?_)
      exact Sm.lvs [0, 1] rfl (sc_X11_answer_J30 B l1)
  exact MH.of hw ⟨rfl, rfl⟩ (by decide) (by simp [lg_sl, va_rf_cat, cat_i, cat_l, cat_r]) (mo_C_X11_answer l0 l1 l2 l3 l4) M0
def C_X11_sendAgain_J88 (l0 : Nat) : Hp → Option (Unit × Hp) :=
  rt ()
set_option maxRecDepth 10000 in
theorem mo_C_X11_sendAgain_J88 (l0 : Nat) : Mo (C_X11_sendAgain_J88 l0) := by
  unfold C_X11_sendAgain_J88
  repeat' (with_reducible first | assumption | exact mo_rt _ | exact mo_zt _ | exact mo_no | refine mo_ite ?_ ?_ | refine mo_hgI (fun _ => ?_) | refine mo_hgR (fun _ => ?_) | refine mo_hCv (fun _ => ?_) (fun _ => ?_) | refine mo_lq (fun _ => ?_) | refine mo_hpI ?_ | refine mo_hpR ?_ | refine mo_hAi (fun _ => ?_) | refine mo_hAr (fun _ => ?_) | refine mo_hWi ?_ | refine mo_hWr ?_ | refine mo_hLn (fun _ => ?_) | refine mo_hgL (fun _ => ?_) | refine mo_hpL ?_ | refine mo_hpZ ?_ | refine mo_bd ?_ (fun _ => ?_) | refine mo_hCi (fun _ => ?_) (fun _ => ?_) | refine mo_hNw (fun _ => ?_) | refine mo_hNa (fun _ => ?_) | refine mo_hCp ?_ | refine mo_hOi ?_ | refine mo_hAl (fun _ => ?_) | refine mo_hWl ?_ | refine mo_gd ?_ | refine mo_sLn (fun _ => ?_) | refine mo_sAt (fun _ => ?_) | refine mo_kLn (fun _ => ?_) | refine mo_kAt (fun _ => ?_))
set_option maxRecDepth 10000 in
theorem sc_X11_sendAgain_J88 {g : Gm Hp Unit} (B : Bx g cX11_sendAgain 6 RX11 voV none 3 88 "sendAgain") {l0 : Nat} : Sm g 6 88 [] [] (C_X11_sendAgain_J88 l0) := by
  unfold C_X11_sendAgain_J88
  exact s_vret B.1.1 B.2.2.2.2 dX11_sendAgain_88
def C_X11_sendAgain_J60 (l0 : Nat) (kb : Option Nat → Option Nat → Int32 → Int32 → Hp → Option (Unit × Hp)) (ke88 : Hp → Option (Unit × Hp)) (l1 : Option Nat) (l2 : Option Nat) (l3 : Int32) (l4 : Int32) (l5 : Option Nat) : Hp → Option (Unit × Hp) :=
  hgI 10 6 l1 fun v1 =>
  if v1 ≤ l3 then (
    kb l1 l2 l3 (l4 + 1)
  ) else (
    hgR 10 5 l1 fun v2 =>
    hAr 7 v2 l3 fun v3 =>
    if v3 = l5 then (
      kb l1 l2 (l3 + 1) (l4 + 1)
    ) else (
      kb l1 l2 l3 (l4 + 1)
    )
  )
set_option maxRecDepth 10000 in
theorem mo_C_X11_sendAgain_J60 (l0 : Nat) (kb : Option Nat → Option Nat → Int32 → Int32 → Hp → Option (Unit × Hp)) (ke88 : Hp → Option (Unit × Hp)) (hkb : ∀ (l1 : Option Nat) (l2 : Option Nat) (l3 : Int32) (l4 : Int32), Mo (kb l1 l2 l3 l4)) (hke88 : Mo (ke88)) (l1 : Option Nat) (l2 : Option Nat) (l3 : Int32) (l4 : Int32) (l5 : Option Nat) : Mo (C_X11_sendAgain_J60 l0 kb ke88 l1 l2 l3 l4 l5) := by
  unfold C_X11_sendAgain_J60
  repeat' (with_reducible first | assumption | exact mo_rt _ | exact mo_zt _ | exact mo_no | apply hkb | apply hke88 | refine mo_ite ?_ ?_ | refine mo_hgI (fun _ => ?_) | refine mo_hgR (fun _ => ?_) | refine mo_hCv (fun _ => ?_) (fun _ => ?_) | refine mo_lq (fun _ => ?_) | refine mo_hpI ?_ | refine mo_hpR ?_ | refine mo_hAi (fun _ => ?_) | refine mo_hAr (fun _ => ?_) | refine mo_hWi ?_ | refine mo_hWr ?_ | refine mo_hLn (fun _ => ?_) | refine mo_hgL (fun _ => ?_) | refine mo_hpL ?_ | refine mo_hpZ ?_ | refine mo_bd ?_ (fun _ => ?_) | refine mo_hCi (fun _ => ?_) (fun _ => ?_) | refine mo_hNw (fun _ => ?_) | refine mo_hNa (fun _ => ?_) | refine mo_hCp ?_ | refine mo_hOi ?_ | refine mo_hAl (fun _ => ?_) | refine mo_hWl ?_ | refine mo_gd ?_ | refine mo_sLn (fun _ => ?_) | refine mo_sAt (fun _ => ?_) | refine mo_kLn (fun _ => ?_) | refine mo_kAt (fun _ => ?_))
set_option maxRecDepth 10000 in
theorem sc_X11_sendAgain_J60 {g : Gm Hp Unit} {kb : Option Nat → Option Nat → Int32 → Int32 → Hp → Option (Unit × Hp)} {ke88 : Hp → Option (Unit × Hp)} (B : Bx g cX11_sendAgain 6 RX11 voV none 3 88 "sendAgain") {l0 : Nat} (hkb : ∀ (l1 : Option Nat) (l2 : Option Nat) (l3 : Int32) (l4 : Int32), Sm g 6 5 [(0, va_rf (some l0)), (1, va_rf l1), (2, va_rf l2), (3, .int l3), (4, .int l4)] [] (kb l1 l2 l3 l4)) (hke88 : Sm g 6 88 [] [] (ke88)) (l1 : Option Nat) (l2 : Option Nat) (l3 : Int32) (l4 : Int32) (l5 : Option Nat) : Sm g 6 60 [(0, va_rf (some l0)), (1, va_rf l1), (2, va_rf l2), (3, .int l3), (4, .int l4), (5, va_rf l5)] [] (C_X11_sendAgain_J60 l0 kb ke88 l1 l2 l3 l4 l5) := by
  unfold C_X11_sendAgain_J60
  refine s_iload_n B.1.1 3 dX11_sendAgain_60 rfl rfl ?_
  refine s_rload_n B.1.1 1 dX11_sendAgain_61 rfl rfl ?_
  refine hp_getI B.1 10 6 rfl (by decide) inX8 (by decide) fk_X8_6.1 fk_X8_6.2 cf_X11_161 dX11_sendAgain_62 (fun v1 => ?_)
  refine s_icmp_ge B.1.1 82 dX11_sendAgain_65 (by decide) ?_ ?_
  · refine s_iinc (v := l4 + 1) (lv' := [(4, .int (l4 + 1)), (0, va_rf (some l0)), (1, va_rf l1), (2, va_rf l2), (3, .int l3), (5, va_rf l5)]) B.1.1 4 dX11_sendAgain_82 rfl rfl (by decide) rfl ?_
    refine s_goto B.1.1 5 dX11_sendAgain_85 (by decide) ?_
    exact Sm.lvs [1, 2, 3, 4, 0] rfl (hkb l1 l2 l3 (l4 + 1))
  · refine s_rload_n B.1.1 1 dX11_sendAgain_68 rfl rfl ?_
    refine hp_getR B.1 10 5 rfl (by decide) inX8 (by decide) fk_X8_5 cf_X11_435 dX11_sendAgain_69 (fun v2 => ?_)
    refine s_iload_n B.1.1 3 dX11_sendAgain_72 rfl rfl ?_
    refine hp_Ar B.1 7 (by decide) (fun _ => rfl) dX11_sendAgain_73 (fun v3 => ?_)
    refine s_rload B.1.1 5 dX11_sendAgain_74 rfl ?_
    refine s_acmp_ne B.1.1 82 dX11_sendAgain_76 (by decide) ?_ ?_
    · refine s_iinc (v := l4 + 1) (lv' := [(4, .int (l4 + 1)), (0, va_rf (some l0)), (1, va_rf l1), (2, va_rf l2), (3, .int l3), (5, va_rf l5)]) B.1.1 4 dX11_sendAgain_82 rfl rfl (by decide) rfl ?_
      refine s_goto B.1.1 5 dX11_sendAgain_85 (by decide) ?_
      exact Sm.lvs [1, 2, 3, 4, 0] rfl (hkb l1 l2 l3 (l4 + 1))
    · refine s_iinc (v := l3 + 1) (lv' := [(3, .int (l3 + 1)), (0, va_rf (some l0)), (1, va_rf l1), (2, va_rf l2), (4, .int l4), (5, va_rf l5)]) B.1.1 3 dX11_sendAgain_79 rfl rfl (by decide) (by simp [va_rf_cat, cat_i, cat_l, cat_r]) ?_
      refine s_iinc (v := l4 + 1) (lv' := [(4, .int (l4 + 1)), (3, .int (l3 + 1)), (0, va_rf (some l0)), (1, va_rf l1), (2, va_rf l2), (5, va_rf l5)]) B.1.1 4 dX11_sendAgain_82 rfl rfl (by decide) rfl ?_
      refine s_goto B.1.1 5 dX11_sendAgain_85 (by decide) ?_
      exact Sm.lvs [2, 3, 4, 1, 0] rfl (hkb l1 l2 (l3 + 1) (l4 + 1))
def C_X11_sendAgain_B5 (l0 : Nat) (kb : Option Nat → Option Nat → Int32 → Int32 → Hp → Option (Unit × Hp)) (ke88 : Hp → Option (Unit × Hp)) (l1 : Option Nat) (l2 : Option Nat) (l3 : Int32) (l4 : Int32) : Hp → Option (Unit × Hp) :=
  if (16 : Int32) ≤ l4 then (
    ke88
  ) else (
    hgI 10 6 l1 fun v4 =>
    if v4 ≤ l3 then (
      ke88
    ) else (
      hgR 10 5 l1 fun v5 =>
      hAr 7 v5 l3 fun v6 =>
      hgI 3 5 v6 fun v7 =>
      if v7 = 0 then (
        hCv 13 (some l0) (fun a => C_X11_deliver a l1 v6 (1 : Int32)) fun r8 =>
        C_X11_sendAgain_J60 l0 kb ke88 l1 l2 l3 l4 v6
      ) else (
        hgI 3 4 v6 fun v9 =>
        hCv 13 (some l0) (fun a => C_X11_answer a l2 (98 : Int32) v9 (0 : Int32)) fun r10 =>
        C_X11_sendAgain_J60 l0 kb ke88 l1 l2 l3 l4 v6
      )
    )
  )
def C_X11_sendAgain_L5 (l0 : Nat) (ke88 : Hp → Option (Unit × Hp)) : Nat → Option Nat → Option Nat → Int32 → Int32 → Hp → Option (Unit × Hp)
  | 0, _, _, _, _ => no
  | n + 1, l1, l2, l3, l4 => C_X11_sendAgain_B5 l0 (fun l1 l2 l3 l4 => C_X11_sendAgain_L5 l0 ke88 n l1 l2 l3 l4) ke88 l1 l2 l3 l4
set_option maxRecDepth 10000 in
theorem mo_C_X11_sendAgain_B5 (l0 : Nat) (kb : Option Nat → Option Nat → Int32 → Int32 → Hp → Option (Unit × Hp)) (ke88 : Hp → Option (Unit × Hp)) (hkb : ∀ (l1 : Option Nat) (l2 : Option Nat) (l3 : Int32) (l4 : Int32), Mo (kb l1 l2 l3 l4)) (hke88 : Mo (ke88)) (l1 : Option Nat) (l2 : Option Nat) (l3 : Int32) (l4 : Int32) : Mo (C_X11_sendAgain_B5 l0 kb ke88 l1 l2 l3 l4) := by
  unfold C_X11_sendAgain_B5
  repeat' (with_reducible first | assumption | exact mo_rt _ | exact mo_zt _ | exact mo_no | apply mo_C_X11_deliver | apply mo_C_X11_sendAgain_J60 | apply mo_C_X11_answer | apply hkb | apply hke88 | refine mo_ite ?_ ?_ | refine mo_hgI (fun _ => ?_) | refine mo_hgR (fun _ => ?_) | refine mo_hCv (fun _ => ?_) (fun _ => ?_) | refine mo_lq (fun _ => ?_) | refine mo_hpI ?_ | refine mo_hpR ?_ | refine mo_hAi (fun _ => ?_) | refine mo_hAr (fun _ => ?_) | refine mo_hWi ?_ | refine mo_hWr ?_ | refine mo_hLn (fun _ => ?_) | refine mo_hgL (fun _ => ?_) | refine mo_hpL ?_ | refine mo_hpZ ?_ | refine mo_bd ?_ (fun _ => ?_) | refine mo_hCi (fun _ => ?_) (fun _ => ?_) | refine mo_hNw (fun _ => ?_) | refine mo_hNa (fun _ => ?_) | refine mo_hCp ?_ | refine mo_hOi ?_ | refine mo_hAl (fun _ => ?_) | refine mo_hWl ?_ | refine mo_gd ?_ | refine mo_sLn (fun _ => ?_) | refine mo_sAt (fun _ => ?_) | refine mo_kLn (fun _ => ?_) | refine mo_kAt (fun _ => ?_))
set_option maxRecDepth 10000 in
theorem mo_C_X11_sendAgain_L5 (l0 : Nat) (ke88 : Hp → Option (Unit × Hp)) (hke88 : Mo (ke88)) : ∀ (n : Nat) (l1 : Option Nat) (l2 : Option Nat) (l3 : Int32) (l4 : Int32), Mo (C_X11_sendAgain_L5 l0 ke88 n l1 l2 l3 l4)
  | 0, _, _, _, _ => mo_no
  | n + 1, l1, l2, l3, l4 => mo_C_X11_sendAgain_B5 l0 _ ke88 (mo_C_X11_sendAgain_L5 l0 ke88 hke88 n) hke88 l1 l2 l3 l4
set_option maxRecDepth 10000 in
theorem sc_X11_sendAgain_B5 {g : Gm Hp Unit} {kb : Option Nat → Option Nat → Int32 → Int32 → Hp → Option (Unit × Hp)} {ke88 : Hp → Option (Unit × Hp)} (B : Bx g cX11_sendAgain 6 RX11 voV none 3 88 "sendAgain") {l0 : Nat} (hkb : ∀ (l1 : Option Nat) (l2 : Option Nat) (l3 : Int32) (l4 : Int32), Sm g 6 5 [(0, va_rf (some l0)), (1, va_rf l1), (2, va_rf l2), (3, .int l3), (4, .int l4)] [] (kb l1 l2 l3 l4)) (hke88 : Sm g 6 88 [] [] (ke88)) (l1 : Option Nat) (l2 : Option Nat) (l3 : Int32) (l4 : Int32) : Sm g 6 5 [(0, va_rf (some l0)), (1, va_rf l1), (2, va_rf l2), (3, .int l3), (4, .int l4)] [] (C_X11_sendAgain_B5 l0 kb ke88 l1 l2 l3 l4) := by
  unfold C_X11_sendAgain_B5
  refine s_iload B.1.1 4 dX11_sendAgain_5 rfl ?_
  refine s_bipush (v := (16)) B.1.1 dX11_sendAgain_7 (by decide) ?_
  refine s_icmp_ge B.1.1 88 dX11_sendAgain_9 (by decide) ?_ ?_
  · exact Sm.lvs [] rfl (hke88)
  · refine s_iload_n B.1.1 3 dX11_sendAgain_12 rfl rfl ?_
    refine s_rload_n B.1.1 1 dX11_sendAgain_13 rfl rfl ?_
    refine hp_getI B.1 10 6 rfl (by decide) inX8 (by decide) fk_X8_6.1 fk_X8_6.2 cf_X11_161 dX11_sendAgain_14 (fun v4 => ?_)
    refine s_icmp_ge B.1.1 88 dX11_sendAgain_17 (by decide) ?_ ?_
    · exact Sm.lvs [] rfl (hke88)
    · refine s_rload_n B.1.1 1 dX11_sendAgain_20 rfl rfl ?_
      refine hp_getR B.1 10 5 rfl (by decide) inX8 (by decide) fk_X8_5 cf_X11_435 dX11_sendAgain_21 (fun v5 => ?_)
      refine s_iload_n B.1.1 3 dX11_sendAgain_24 rfl rfl ?_
      refine hp_Ar B.1 7 (by decide) (fun _ => rfl) dX11_sendAgain_25 (fun v6 => ?_)
      refine s_rstore (i := 5) (lv' := [(5, va_rf v6), (0, va_rf (some l0)), (1, va_rf l1), (2, va_rf l2), (3, .int l3), (4, .int l4)]) B.1.1 dX11_sendAgain_26 (by decide) rfl ?_
      refine s_rload B.1.1 0 dX11_sendAgain_28 rfl ?_
      refine hp_getI B.1 3 5 rfl (by decide) inX1 (by decide) fk_X1_5.1 fk_X1_5.2 cf_X11_439 dX11_sendAgain_30 (fun v7 => ?_)
      refine s_if_eq B.1.1 52 dX11_sendAgain_33 (by decide) ?_ ?_
      · refine s_rload_n B.1.1 1 dX11_sendAgain_52 rfl rfl ?_
        refine s_rload_n B.1.1 2 dX11_sendAgain_53 rfl rfl ?_
        refine s_rload B.1.1 0 dX11_sendAgain_54 rfl ?_
        refine s_iconst (v := 1) B.1.1 dX11_sendAgain_56 (by decide) ?_
        refine hp_cvv (As := [va_rf l1, va_rf v6, .int (1 : Int32)]) (st := []) 13 rfl (by decide) B.1 (fun a => mC_X11_deliver B.2.1 a l1 v6 (1 : Int32)) cc_X11_deliver cl_X11_447 cn_X11_deliver ce_X11_deliver ci_X11 cd_X11_deliver (by decide) rfl (Nat.le_of_ble_eq_true rfl) dX11_sendAgain_57 (fun r8 => ?_)
        exact Sm.lvs [1, 2, 3, 4, 5, 0] rfl (sc_X11_sendAgain_J60 B hkb hke88 l1 l2 l3 l4 v6)
      · refine s_rload_n B.1.1 1 dX11_sendAgain_36 rfl rfl ?_
        refine s_rload_n B.1.1 3 dX11_sendAgain_37 rfl rfl ?_
        refine s_bipush (v := (98)) B.1.1 dX11_sendAgain_38 (by decide) ?_
        refine s_rload B.1.1 0 dX11_sendAgain_40 rfl ?_
        refine hp_getI B.1 3 4 rfl (by decide) inX1 (by decide) fk_X1_4.1 fk_X1_4.2 cf_X11_442 dX11_sendAgain_42 (fun v9 => ?_)
        refine s_iconst (v := 0) B.1.1 dX11_sendAgain_45 (by decide) ?_
        refine hp_cvv (As := [va_rf l2, .int (98 : Int32), .int v9, .int (0 : Int32)]) (st := []) 13 rfl (by decide) B.1 (fun a => mC_X11_answer B.2.1 a l2 (98 : Int32) v9 (0 : Int32)) cc_X11_answer cl_X11_443 cn_X11_answer ce_X11_answer ci_X11 cd_X11_answer (by decide) rfl (Nat.le_of_ble_eq_true rfl) dX11_sendAgain_46 (fun r10 => ?_)
        refine s_goto B.1.1 60 dX11_sendAgain_49 (by decide) ?_
        exact Sm.lvs [1, 2, 3, 4, 5, 0] rfl (sc_X11_sendAgain_J60 B hkb hke88 l1 l2 l3 l4 v6)
set_option maxRecDepth 10000 in
theorem sc_X11_sendAgain_L5 {g : Gm Hp Unit} {ke88 : Hp → Option (Unit × Hp)} (B : Bx g cX11_sendAgain 6 RX11 voV none 3 88 "sendAgain") {l0 : Nat} (hke88 : Sm g 6 88 [] [] (ke88)) : ∀ (n : Nat) (l1 : Option Nat) (l2 : Option Nat) (l3 : Int32) (l4 : Int32), Sm g 6 5 [(0, va_rf (some l0)), (1, va_rf l1), (2, va_rf l2), (3, .int l3), (4, .int l4)] [] (C_X11_sendAgain_L5 l0 ke88 n l1 l2 l3 l4)
  | 0, _, _, _, _ => Sm.fail
  | n + 1, l1, l2, l3, l4 => sc_X11_sendAgain_B5 B (sc_X11_sendAgain_L5 B hke88 n) hke88 l1 l2 l3 l4
def C_X11_sendAgain (l0 : Nat) (l1 : Option Nat) (l2 : Option Nat) : Hp → Option (Unit × Hp) :=
  C_X11_sendAgain_L5 l0 (C_X11_sendAgain_J88 l0) fu l1 l2 (0 : Int32) (0 : Int32)
set_option maxRecDepth 10000 in
theorem mo_C_X11_sendAgain (l0 : Nat) (l1 : Option Nat) (l2 : Option Nat) : Mo (C_X11_sendAgain l0 l1 l2) := by
  unfold C_X11_sendAgain
  repeat' (with_reducible first | assumption | exact mo_rt _ | exact mo_zt _ | exact mo_no | apply mo_C_X11_sendAgain_L5 | apply mo_C_X11_sendAgain_J88 | refine mo_ite ?_ ?_ | refine mo_hgI (fun _ => ?_) | refine mo_hgR (fun _ => ?_) | refine mo_hCv (fun _ => ?_) (fun _ => ?_) | refine mo_lq (fun _ => ?_) | refine mo_hpI ?_ | refine mo_hpR ?_ | refine mo_hAi (fun _ => ?_) | refine mo_hAr (fun _ => ?_) | refine mo_hWi ?_ | refine mo_hWr ?_ | refine mo_hLn (fun _ => ?_) | refine mo_hgL (fun _ => ?_) | refine mo_hpL ?_ | refine mo_hpZ ?_ | refine mo_bd ?_ (fun _ => ?_) | refine mo_hCi (fun _ => ?_) (fun _ => ?_) | refine mo_hNw (fun _ => ?_) | refine mo_hNa (fun _ => ?_) | refine mo_hCp ?_ | refine mo_hOi ?_ | refine mo_hAl (fun _ => ?_) | refine mo_hWl ?_ | refine mo_gd ?_ | refine mo_sLn (fun _ => ?_) | refine mo_sAt (fun _ => ?_) | refine mo_kLn (fun _ => ?_) | refine mo_kAt (fun _ => ?_))
set_option maxRecDepth 10000 in
theorem mC_X11_sendAgain {w : Wd} (hw : Wc w) (l0 : Nat) (l1 : Option Nat) (l2 : Option Nat) : MH w yX11_sendAgain cX11_sendAgain 6 none 3 88 voV [va_rf (some l0), va_rf l1, va_rf l2] (C_X11_sendAgain l0 l1 l2) := by
  have M0 : ∀ g : Gm Hp Unit, g.1 = w → Bx g cX11_sendAgain 6 RX11 voV none 3 88 "sendAgain" → Sm g 6 0 (lv_args 0 [va_rf (some l0), va_rf l1, va_rf l2]) [] (C_X11_sendAgain l0 l1 l2) := by
    intro g hg B
    subst hg
    unfold C_X11_sendAgain
    refine W_lva (lv := [(0, va_rf (some l0)), (1, va_rf l1), (2, va_rf l2)]) (by simp [lv_args, va_rf_cat, cat_i, cat_l, cat_r]) ?_
    refine s_iconst (v := 0) B.1.1 dX11_sendAgain_0 (by decide) ?_
    refine s_istore_n (i := 3) (lv' := [(3, .int (0 : Int32)), (0, va_rf (some l0)), (1, va_rf l1), (2, va_rf l2)]) B.1.1 dX11_sendAgain_1 rfl (by decide) (by simp [va_rf_cat, cat_i, cat_l, cat_r]) ?_
    refine s_iconst (v := 0) B.1.1 dX11_sendAgain_2 (by decide) ?_
    refine s_istore (i := 4) (lv' := [(4, .int (0 : Int32)), (3, .int (0 : Int32)), (0, va_rf (some l0)), (1, va_rf l1), (2, va_rf l2)]) B.1.1 dX11_sendAgain_3 (by decide) rfl ?_
    exact Sm.lvs [2, 3, 4, 1, 0] rfl (sc_X11_sendAgain_L5 B (sc_X11_sendAgain_J88 B) fu l1 l2 (0 : Int32) (0 : Int32))
  exact MH.of hw ⟨rfl, rfl⟩ (by decide) (by simp [lg_sl, va_rf_cat, cat_i, cat_l, cat_r]) (mo_C_X11_sendAgain l0 l1 l2) M0
def C_X11_welcome_J145 (l0 : Nat) (l1 : Option Nat) : Hp → Option (Unit × Hp) :=
  hgR 13 5 (some l0) fun v1 =>
  hCv 2 l1 (fun a => C_X0_put a v1) fun r2 =>
  rt ()
set_option maxRecDepth 10000 in
theorem mo_C_X11_welcome_J145 (l0 : Nat) (l1 : Option Nat) : Mo (C_X11_welcome_J145 l0 l1) := by
  unfold C_X11_welcome_J145
  repeat' (with_reducible first | assumption | exact mo_rt _ | exact mo_zt _ | exact mo_no | apply mo_C_X0_put | refine mo_ite ?_ ?_ | refine mo_hgI (fun _ => ?_) | refine mo_hgR (fun _ => ?_) | refine mo_hCv (fun _ => ?_) (fun _ => ?_) | refine mo_lq (fun _ => ?_) | refine mo_hpI ?_ | refine mo_hpR ?_ | refine mo_hAi (fun _ => ?_) | refine mo_hAr (fun _ => ?_) | refine mo_hWi ?_ | refine mo_hWr ?_ | refine mo_hLn (fun _ => ?_) | refine mo_hgL (fun _ => ?_) | refine mo_hpL ?_ | refine mo_hpZ ?_ | refine mo_bd ?_ (fun _ => ?_) | refine mo_hCi (fun _ => ?_) (fun _ => ?_) | refine mo_hNw (fun _ => ?_) | refine mo_hNa (fun _ => ?_) | refine mo_hCp ?_ | refine mo_hOi ?_ | refine mo_hAl (fun _ => ?_) | refine mo_hWl ?_ | refine mo_gd ?_ | refine mo_sLn (fun _ => ?_) | refine mo_sAt (fun _ => ?_) | refine mo_kLn (fun _ => ?_) | refine mo_kAt (fun _ => ?_))
set_option maxRecDepth 10000 in
theorem sc_X11_welcome_J145 {g : Gm Hp Unit} (B : Bx g cX11_welcome 5 RX11 voV none 2 64 "welcome") {l0 : Nat} (l1 : Option Nat) : Sm g 5 145 [(0, va_rf (some l0)), (1, va_rf l1)] [] (C_X11_welcome_J145 l0 l1) := by
  unfold C_X11_welcome_J145
  refine s_rload_n B.1.1 1 dX11_welcome_145 rfl rfl ?_
  refine s_rload_n B.1.1 0 dX11_welcome_146 rfl rfl ?_
  refine hp_getR B.1 13 5 rfl (by decide) inX11 (by decide) fk_X11_5 cf_X11_48 dX11_welcome_147 (fun v1 => ?_)
  refine hp_cvv (As := [va_rf v1]) (st := []) 2 rfl (by decide) B.1 (fun a => mC_X0_put B.2.1 a v1) cc_X0_put cl_X11_327 cn_X0_put ce_X0_put ci_X0 cd_X0_put (by decide) rfl (Nat.le_of_ble_eq_true rfl) dX11_welcome_150 (fun r2 => ?_)
  exact s_vret B.1.1 B.2.2.2.2 dX11_welcome_153
def C_X11_welcome_J54 (l0 : Nat) (l1 : Option Nat) (l3 : Int32) (l4 : Option Nat) (s0 : Option Nat) (s1 : Int32) : Hp → Option (Unit × Hp) :=
  hCv 12 s0 (fun a => C_X10_variable a s1) fun r3 =>
  hgR 13 5 (some l0) fun v4 =>
  hCv 12 v4 (fun a => C_X10_one a (33 : Int32)) fun r5 =>
  hgR 13 5 (some l0) fun v6 =>
  hCv 12 v6 (fun a => C_X10_two a (8 : Int32)) fun r7 =>
  hgR 13 5 (some l0) fun v8 =>
  hCv 12 v8 (fun a => C_X10_one a (39 : Int32)) fun r9 =>
  hgR 13 5 (some l0) fun v10 =>
  hCv 12 v10 (fun a => C_X10_four a (403 : Int64)) fun r11 =>
  hgR 13 5 (some l0) fun v12 =>
  hCv 12 v12 (fun a => C_X10_one a (34 : Int32)) fun r13 =>
  hgR 13 5 (some l0) fun v14 =>
  hCv 12 v14 (fun a => C_X10_two a (4 : Int32)) fun r15 =>
  if l3 = 0 then (
    C_X11_welcome_J145 l0 l1
  ) else (
    hgR 13 5 (some l0) fun v16 =>
    hCv 12 v16 (fun a => C_X10_one a (18 : Int32)) fun r17 =>
    hgR 13 5 (some l0) fun v18 =>
    hCv 9 l4 (fun a => C_X7_count a) fun r19 =>
    hCv 12 v18 (fun a => C_X10_two a r19) fun r20 =>
    hgR 13 5 (some l0) fun v21 =>
    hCv 12 v21 (fun a => C_X10_raw a l4) fun r22 =>
    C_X11_welcome_J145 l0 l1
  )
set_option maxRecDepth 10000 in
theorem mo_C_X11_welcome_J54 (l0 : Nat) (l1 : Option Nat) (l3 : Int32) (l4 : Option Nat) (s0 : Option Nat) (s1 : Int32) : Mo (C_X11_welcome_J54 l0 l1 l3 l4 s0 s1) := by
  unfold C_X11_welcome_J54
  repeat' (with_reducible first | assumption | exact mo_rt _ | exact mo_zt _ | exact mo_no | apply mo_C_X10_variable | apply mo_C_X10_one | apply mo_C_X10_two | apply mo_C_X10_four | apply mo_C_X11_welcome_J145 | apply mo_C_X7_count | apply mo_C_X10_raw | refine mo_ite ?_ ?_ | refine mo_hgI (fun _ => ?_) | refine mo_hgR (fun _ => ?_) | refine mo_hCv (fun _ => ?_) (fun _ => ?_) | refine mo_lq (fun _ => ?_) | refine mo_hpI ?_ | refine mo_hpR ?_ | refine mo_hAi (fun _ => ?_) | refine mo_hAr (fun _ => ?_) | refine mo_hWi ?_ | refine mo_hWr ?_ | refine mo_hLn (fun _ => ?_) | refine mo_hgL (fun _ => ?_) | refine mo_hpL ?_ | refine mo_hpZ ?_ | refine mo_bd ?_ (fun _ => ?_) | refine mo_hCi (fun _ => ?_) (fun _ => ?_) | refine mo_hNw (fun _ => ?_) | refine mo_hNa (fun _ => ?_) | refine mo_hCp ?_ | refine mo_hOi ?_ | refine mo_hAl (fun _ => ?_) | refine mo_hWl ?_ | refine mo_gd ?_ | refine mo_sLn (fun _ => ?_) | refine mo_sAt (fun _ => ?_) | refine mo_kLn (fun _ => ?_) | refine mo_kAt (fun _ => ?_))
set_option maxRecDepth 10000 in
theorem sc_X11_welcome_J54 {g : Gm Hp Unit} (B : Bx g cX11_welcome 5 RX11 voV none 2 64 "welcome") {l0 : Nat} (l1 : Option Nat) (l3 : Int32) (l4 : Option Nat) (s0 : Option Nat) (s1 : Int32) : Sm g 5 54 [(0, va_rf (some l0)), (1, va_rf l1), (3, .int l3), (4, va_rf l4)] [.int s1, va_rf s0] (C_X11_welcome_J54 l0 l1 l3 l4 s0 s1) := by
  unfold C_X11_welcome_J54
  refine hp_cvv (As := [.int s1]) (st := []) 12 rfl (by decide) B.1 (fun a => mC_X10_variable B.2.1 a s1) cc_X10_variable cl_X11_422 cn_X10_variable ce_X10_variable ci_X10 cd_X10_variable (by decide) rfl (Nat.le_of_ble_eq_true rfl) dX11_welcome_54 (fun r3 => ?_)
  refine s_rload_n B.1.1 0 dX11_welcome_57 rfl rfl ?_
  refine hp_getR B.1 13 5 rfl (by decide) inX11 (by decide) fk_X11_5 cf_X11_48 dX11_welcome_58 (fun v4 => ?_)
  refine s_bipush (v := (33)) B.1.1 dX11_welcome_61 (by decide) ?_
  refine hp_cvv (As := [.int (33 : Int32)]) (st := []) 12 rfl (by decide) B.1 (fun a => mC_X10_one B.2.1 a (33 : Int32)) cc_X10_one cl_X11_324 cn_X10_one ce_X10_one ci_X10 cd_X10_one (by decide) rfl (Nat.le_of_ble_eq_true rfl) dX11_welcome_63 (fun r5 => ?_)
  refine s_rload_n B.1.1 0 dX11_welcome_66 rfl rfl ?_
  refine hp_getR B.1 13 5 rfl (by decide) inX11 (by decide) fk_X11_5 cf_X11_48 dX11_welcome_67 (fun v6 => ?_)
  refine s_bipush (v := (8)) B.1.1 dX11_welcome_70 (by decide) ?_
  refine hp_cvv (As := [.int (8 : Int32)]) (st := []) 12 rfl (by decide) B.1 (fun a => mC_X10_two B.2.1 a (8 : Int32)) cc_X10_two cl_X11_331 cn_X10_two ce_X10_two ci_X10 cd_X10_two (by decide) rfl (Nat.le_of_ble_eq_true rfl) dX11_welcome_72 (fun r7 => ?_)
  refine s_rload_n B.1.1 0 dX11_welcome_75 rfl rfl ?_
  refine hp_getR B.1 13 5 rfl (by decide) inX11 (by decide) fk_X11_5 cf_X11_48 dX11_welcome_76 (fun v8 => ?_)
  refine s_bipush (v := (39)) B.1.1 dX11_welcome_79 (by decide) ?_
  refine hp_cvv (As := [.int (39 : Int32)]) (st := []) 12 rfl (by decide) B.1 (fun a => mC_X10_one B.2.1 a (39 : Int32)) cc_X10_one cl_X11_324 cn_X10_one ce_X10_one ci_X10 cd_X10_one (by decide) rfl (Nat.le_of_ble_eq_true rfl) dX11_welcome_81 (fun r9 => ?_)
  refine s_rload_n B.1.1 0 dX11_welcome_84 rfl rfl ?_
  refine hp_getR B.1 13 5 rfl (by decide) inX11 (by decide) fk_X11_5 cf_X11_48 dX11_welcome_85 (fun v10 => ?_)
  refine s_ldc2 (v := (403)) B.1.1 tw_1392 dX11_welcome_88 ?_
  refine hp_cvv (As := [.long (403 : Int64)]) (st := []) 12 rfl (by decide) B.1 (fun a => mC_X10_four B.2.1 a (403 : Int64)) cc_X10_four cl_X11_427 cn_X10_four ce_X10_four ci_X10 cd_X10_four (by decide) rfl (Nat.le_of_ble_eq_true rfl) dX11_welcome_91 (fun r11 => ?_)
  refine s_rload_n B.1.1 0 dX11_welcome_94 rfl rfl ?_
  refine hp_getR B.1 13 5 rfl (by decide) inX11 (by decide) fk_X11_5 cf_X11_48 dX11_welcome_95 (fun v12 => ?_)
  refine s_bipush (v := (34)) B.1.1 dX11_welcome_98 (by decide) ?_
  refine hp_cvv (As := [.int (34 : Int32)]) (st := []) 12 rfl (by decide) B.1 (fun a => mC_X10_one B.2.1 a (34 : Int32)) cc_X10_one cl_X11_324 cn_X10_one ce_X10_one ci_X10 cd_X10_one (by decide) rfl (Nat.le_of_ble_eq_true rfl) dX11_welcome_100 (fun r13 => ?_)
  refine s_rload_n B.1.1 0 dX11_welcome_103 rfl rfl ?_
  refine hp_getR B.1 13 5 rfl (by decide) inX11 (by decide) fk_X11_5 cf_X11_48 dX11_welcome_104 (fun v14 => ?_)
  refine s_iconst (v := 4) B.1.1 dX11_welcome_107 (by decide) ?_
  refine hp_cvv (As := [.int (4 : Int32)]) (st := []) 12 rfl (by decide) B.1 (fun a => mC_X10_two B.2.1 a (4 : Int32)) cc_X10_two cl_X11_331 cn_X10_two ce_X10_two ci_X10 cd_X10_two (by decide) rfl (Nat.le_of_ble_eq_true rfl) dX11_welcome_108 (fun r15 => ?_)
  refine s_iload_n B.1.1 2 dX11_welcome_111 rfl rfl ?_
  refine s_if_eq B.1.1 145 dX11_welcome_112 (by decide) ?_ ?_
  · exact Sm.lvs [0, 1] rfl (sc_X11_welcome_J145 B l1)
  · refine s_rload_n B.1.1 0 dX11_welcome_115 rfl rfl ?_
    refine hp_getR B.1 13 5 rfl (by decide) inX11 (by decide) fk_X11_5 cf_X11_48 dX11_welcome_116 (fun v16 => ?_)
    refine s_bipush (v := (18)) B.1.1 dX11_welcome_119 (by decide) ?_
    refine hp_cvv (As := [.int (18 : Int32)]) (st := []) 12 rfl (by decide) B.1 (fun a => mC_X10_one B.2.1 a (18 : Int32)) cc_X10_one cl_X11_324 cn_X10_one ce_X10_one ci_X10 cd_X10_one (by decide) rfl (Nat.le_of_ble_eq_true rfl) dX11_welcome_121 (fun r17 => ?_)
    refine s_rload_n B.1.1 0 dX11_welcome_124 rfl rfl ?_
    refine hp_getR B.1 13 5 rfl (by decide) inX11 (by decide) fk_X11_5 cf_X11_48 dX11_welcome_125 (fun v18 => ?_)
    refine s_rload B.1.1 3 dX11_welcome_128 rfl ?_
    refine hp_cvi (As := []) (st := [va_rf v18]) 9 rfl (by decide) B.1 (fun a => mC_X7_count B.2.1 a ) cc_X7_count cl_X11_178 cn_X7_count ce_X7_count ci_X7 cd_X7_count (by decide) rfl (by simp [va_rf_cat, cat_i, cat_l, cat_r]) dX11_welcome_130 (fun r19 => ?_)
    refine hp_cvv (As := [.int r19]) (st := []) 12 rfl (by decide) B.1 (fun a => mC_X10_two B.2.1 a r19) cc_X10_two cl_X11_331 cn_X10_two ce_X10_two ci_X10 cd_X10_two (by decide) rfl (Nat.le_of_ble_eq_true rfl) dX11_welcome_133 (fun r20 => ?_)
    refine s_rload_n B.1.1 0 dX11_welcome_136 rfl rfl ?_
    refine hp_getR B.1 13 5 rfl (by decide) inX11 (by decide) fk_X11_5 cf_X11_48 dX11_welcome_137 (fun v21 => ?_)
    refine s_rload B.1.1 3 dX11_welcome_140 rfl ?_
    refine hp_cvv (As := [va_rf l4]) (st := []) 12 rfl (by decide) B.1 (fun a => mC_X10_raw B.2.1 a l4) cc_X10_raw cl_X11_431 cn_X10_raw ce_X10_raw ci_X10 cd_X10_raw (by decide) rfl (Nat.le_of_ble_eq_true rfl) dX11_welcome_142 (fun r22 => ?_)
    exact Sm.lvs [0, 1] rfl (sc_X11_welcome_J145 B l1)
def C_X11_welcome_J22 (l0 : Nat) (l1 : Option Nat) (l3 : Int32) (l4 : Option Nat) (s0 : Option Nat) (s1 : Int32) : Hp → Option (Unit × Hp) :=
  hCv 12 s0 (fun a => C_X10_one a s1) fun r23 =>
  hgR 13 5 (some l0) fun v24 =>
  hCv 12 v24 (fun a => C_X10_one a (0 : Int32)) fun r25 =>
  hgR 13 5 (some l0) fun v26 =>
  if l3 = 0 then (
    C_X11_welcome_J54 l0 l1 l3 l4 v26 (11 : Int32)
  ) else (
    hCv 9 l4 (fun a => C_X7_count a) fun r27 =>
    C_X11_welcome_J54 l0 l1 l3 l4 v26 ((14 : Int32) + r27)
  )
set_option maxRecDepth 10000 in
theorem mo_C_X11_welcome_J22 (l0 : Nat) (l1 : Option Nat) (l3 : Int32) (l4 : Option Nat) (s0 : Option Nat) (s1 : Int32) : Mo (C_X11_welcome_J22 l0 l1 l3 l4 s0 s1) := by
  unfold C_X11_welcome_J22
  repeat' (with_reducible first | assumption | exact mo_rt _ | exact mo_zt _ | exact mo_no | apply mo_C_X10_one | apply mo_C_X11_welcome_J54 | apply mo_C_X7_count | refine mo_ite ?_ ?_ | refine mo_hgI (fun _ => ?_) | refine mo_hgR (fun _ => ?_) | refine mo_hCv (fun _ => ?_) (fun _ => ?_) | refine mo_lq (fun _ => ?_) | refine mo_hpI ?_ | refine mo_hpR ?_ | refine mo_hAi (fun _ => ?_) | refine mo_hAr (fun _ => ?_) | refine mo_hWi ?_ | refine mo_hWr ?_ | refine mo_hLn (fun _ => ?_) | refine mo_hgL (fun _ => ?_) | refine mo_hpL ?_ | refine mo_hpZ ?_ | refine mo_bd ?_ (fun _ => ?_) | refine mo_hCi (fun _ => ?_) (fun _ => ?_) | refine mo_hNw (fun _ => ?_) | refine mo_hNa (fun _ => ?_) | refine mo_hCp ?_ | refine mo_hOi ?_ | refine mo_hAl (fun _ => ?_) | refine mo_hWl ?_ | refine mo_gd ?_ | refine mo_sLn (fun _ => ?_) | refine mo_sAt (fun _ => ?_) | refine mo_kLn (fun _ => ?_) | refine mo_kAt (fun _ => ?_))
set_option maxRecDepth 10000 in
theorem sc_X11_welcome_J22 {g : Gm Hp Unit} (B : Bx g cX11_welcome 5 RX11 voV none 2 64 "welcome") {l0 : Nat} (l1 : Option Nat) (l3 : Int32) (l4 : Option Nat) (s0 : Option Nat) (s1 : Int32) : Sm g 5 22 [(0, va_rf (some l0)), (1, va_rf l1), (3, .int l3), (4, va_rf l4)] [.int s1, va_rf s0] (C_X11_welcome_J22 l0 l1 l3 l4 s0 s1) := by
  unfold C_X11_welcome_J22
  refine hp_cvv (As := [.int s1]) (st := []) 12 rfl (by decide) B.1 (fun a => mC_X10_one B.2.1 a s1) cc_X10_one cl_X11_324 cn_X10_one ce_X10_one ci_X10 cd_X10_one (by decide) rfl (Nat.le_of_ble_eq_true rfl) dX11_welcome_22 (fun r23 => ?_)
  refine s_rload_n B.1.1 0 dX11_welcome_25 rfl rfl ?_
  refine hp_getR B.1 13 5 rfl (by decide) inX11 (by decide) fk_X11_5 cf_X11_48 dX11_welcome_26 (fun v24 => ?_)
  refine s_iconst (v := 0) B.1.1 dX11_welcome_29 (by decide) ?_
  refine hp_cvv (As := [.int (0 : Int32)]) (st := []) 12 rfl (by decide) B.1 (fun a => mC_X10_one B.2.1 a (0 : Int32)) cc_X10_one cl_X11_324 cn_X10_one ce_X10_one ci_X10 cd_X10_one (by decide) rfl (Nat.le_of_ble_eq_true rfl) dX11_welcome_30 (fun r25 => ?_)
  refine s_rload_n B.1.1 0 dX11_welcome_33 rfl rfl ?_
  refine hp_getR B.1 13 5 rfl (by decide) inX11 (by decide) fk_X11_5 cf_X11_48 dX11_welcome_34 (fun v26 => ?_)
  refine s_iload_n B.1.1 2 dX11_welcome_37 rfl rfl ?_
  refine s_if_eq B.1.1 52 dX11_welcome_38 (by decide) ?_ ?_
  · refine s_bipush (v := (11)) B.1.1 dX11_welcome_52 (by decide) ?_
    exact Sm.lvs [0, 1, 2, 3] rfl (sc_X11_welcome_J54 B l1 l3 l4 v26 (11 : Int32))
  · refine s_bipush (v := (14)) B.1.1 dX11_welcome_41 (by decide) ?_
    refine s_rload B.1.1 3 dX11_welcome_43 rfl ?_
    refine hp_cvi (As := []) (st := [.int (14 : Int32), va_rf v26]) 9 rfl (by decide) B.1 (fun a => mC_X7_count B.2.1 a ) cc_X7_count cl_X11_178 cn_X7_count ce_X7_count ci_X7 cd_X7_count (by decide) rfl (by simp [va_rf_cat, cat_i, cat_l, cat_r]) dX11_welcome_45 (fun r27 => ?_)
    refine s_iadd B.1.1 dX11_welcome_48 ?_
    refine s_goto B.1.1 54 dX11_welcome_49 (by decide) ?_
    exact Sm.lvs [0, 1, 2, 3] rfl (sc_X11_welcome_J54 B l1 l3 l4 v26 ((14 : Int32) + r27))
def C_X11_welcome (l0 : Nat) (l1 : Option Nat) (l2 : Int32) (l3 : Int32) (l4 : Option Nat) : Hp → Option (Unit × Hp) :=
  hgR 13 5 (some l0) fun v28 =>
  hCv 12 v28 (fun a => C_X10_begin a (32 : Int32)) fun r29 =>
  hgR 13 5 (some l0) fun v30 =>
  if l2 = 0 then (
    C_X11_welcome_J22 l0 l1 l3 l4 v30 (0 : Int32)
  ) else (
    C_X11_welcome_J22 l0 l1 l3 l4 v30 (1 : Int32)
  )
set_option maxRecDepth 10000 in
theorem mo_C_X11_welcome (l0 : Nat) (l1 : Option Nat) (l2 : Int32) (l3 : Int32) (l4 : Option Nat) : Mo (C_X11_welcome l0 l1 l2 l3 l4) := by
  unfold C_X11_welcome
  repeat' (with_reducible first | assumption | exact mo_rt _ | exact mo_zt _ | exact mo_no | apply mo_C_X10_begin | apply mo_C_X11_welcome_J22 | refine mo_ite ?_ ?_ | refine mo_hgI (fun _ => ?_) | refine mo_hgR (fun _ => ?_) | refine mo_hCv (fun _ => ?_) (fun _ => ?_) | refine mo_lq (fun _ => ?_) | refine mo_hpI ?_ | refine mo_hpR ?_ | refine mo_hAi (fun _ => ?_) | refine mo_hAr (fun _ => ?_) | refine mo_hWi ?_ | refine mo_hWr ?_ | refine mo_hLn (fun _ => ?_) | refine mo_hgL (fun _ => ?_) | refine mo_hpL ?_ | refine mo_hpZ ?_ | refine mo_bd ?_ (fun _ => ?_) | refine mo_hCi (fun _ => ?_) (fun _ => ?_) | refine mo_hNw (fun _ => ?_) | refine mo_hNa (fun _ => ?_) | refine mo_hCp ?_ | refine mo_hOi ?_ | refine mo_hAl (fun _ => ?_) | refine mo_hWl ?_ | refine mo_gd ?_ | refine mo_sLn (fun _ => ?_) | refine mo_sAt (fun _ => ?_) | refine mo_kLn (fun _ => ?_) | refine mo_kAt (fun _ => ?_))
set_option maxRecDepth 10000 in
theorem mC_X11_welcome {w : Wd} (hw : Wc w) (l0 : Nat) (l1 : Option Nat) (l2 : Int32) (l3 : Int32) (l4 : Option Nat) : MH w yX11_welcome cX11_welcome 5 none 2 64 voV [va_rf (some l0), va_rf l1, .int l2, .int l3, va_rf l4] (C_X11_welcome l0 l1 l2 l3 l4) := by
  have M0 : ∀ g : Gm Hp Unit, g.1 = w → Bx g cX11_welcome 5 RX11 voV none 2 64 "welcome" → Sm g 5 0 (lv_args 0 [va_rf (some l0), va_rf l1, .int l2, .int l3, va_rf l4]) [] (C_X11_welcome l0 l1 l2 l3 l4) := by
    intro g hg B
    subst hg
    unfold C_X11_welcome
    refine W_lva (lv := [(0, va_rf (some l0)), (1, va_rf l1), (2, .int l2), (3, .int l3), (4, va_rf l4)]) (by simp [lv_args, va_rf_cat, cat_i, cat_l, cat_r]) ?_
    refine s_rload_n B.1.1 0 dX11_welcome_0 rfl rfl ?_
    refine hp_getR B.1 13 5 rfl (by decide) inX11 (by decide) fk_X11_5 cf_X11_48 dX11_welcome_1 (fun v28 => ?_)
    refine s_bipush (v := (32)) B.1.1 dX11_welcome_4 (by decide) ?_
    refine hp_cvv (As := [.int (32 : Int32)]) (st := []) 12 rfl (by decide) B.1 (fun a => mC_X10_begin B.2.1 a (32 : Int32)) cc_X10_begin cl_X11_322 cn_X10_begin ce_X10_begin ci_X10 cd_X10_begin (by decide) rfl (Nat.le_of_ble_eq_true rfl) dX11_welcome_6 (fun r29 => ?_)
    refine s_rload_n B.1.1 0 dX11_welcome_9 rfl rfl ?_
    refine hp_getR B.1 13 5 rfl (by decide) inX11 (by decide) fk_X11_5 cf_X11_48 dX11_welcome_10 (fun v30 => ?_)
    refine s_iload_n B.1.1 2 dX11_welcome_13 rfl rfl ?_
    refine s_if_eq B.1.1 21 dX11_welcome_14 (by decide) ?_ ?_
    · refine s_iconst (v := 0) B.1.1 dX11_welcome_21 (by decide) ?_
      exact Sm.lvs [0, 1, 3, 4] rfl (sc_X11_welcome_J22 B l1 l3 l4 v30 (0 : Int32))
    · refine s_iconst (v := 1) B.1.1 dX11_welcome_17 (by decide) ?_
      refine s_goto B.1.1 22 dX11_welcome_18 (by decide) ?_
      exact Sm.lvs [0, 1, 3, 4] rfl (sc_X11_welcome_J22 B l1 l3 l4 v30 (1 : Int32))
  exact MH.of hw ⟨rfl, rfl⟩ (by decide) (by simp [lg_sl, va_rf_cat, cat_i, cat_l, cat_r]) (mo_C_X11_welcome l0 l1 l2 l3 l4) M0
def C_X2_applyTo (l0 : Nat) (l1 : Option Nat) : Hp → Option (Unit × Hp) :=
  hgL 4 3 (some l0) fun v1 =>
  hpL 10 13 l1 v1 <|
  hgI 4 4 (some l0) fun v2 =>
  hpI 10 15 l1 v2 <|
  hgL 4 5 (some l0) fun v3 =>
  hpL 10 14 l1 v3 <|
  hgI 4 2 (some l0) fun v4 =>
  hpI 10 16 l1 v4 <|
  hgR 4 6 (some l0) fun v5 =>
  hpR 10 11 l1 v5 <|
  hgL 4 7 (some l0) fun v6 =>
  hpL 10 12 l1 v6 <|
  rt ()
set_option maxRecDepth 10000 in
theorem mo_C_X2_applyTo (l0 : Nat) (l1 : Option Nat) : Mo (C_X2_applyTo l0 l1) := by
  unfold C_X2_applyTo
  repeat' (with_reducible first | assumption | exact mo_rt _ | exact mo_zt _ | exact mo_no | refine mo_ite ?_ ?_ | refine mo_hgI (fun _ => ?_) | refine mo_hgR (fun _ => ?_) | refine mo_hCv (fun _ => ?_) (fun _ => ?_) | refine mo_lq (fun _ => ?_) | refine mo_hpI ?_ | refine mo_hpR ?_ | refine mo_hAi (fun _ => ?_) | refine mo_hAr (fun _ => ?_) | refine mo_hWi ?_ | refine mo_hWr ?_ | refine mo_hLn (fun _ => ?_) | refine mo_hgL (fun _ => ?_) | refine mo_hpL ?_ | refine mo_hpZ ?_ | refine mo_bd ?_ (fun _ => ?_) | refine mo_hCi (fun _ => ?_) (fun _ => ?_) | refine mo_hNw (fun _ => ?_) | refine mo_hNa (fun _ => ?_) | refine mo_hCp ?_ | refine mo_hOi ?_ | refine mo_hAl (fun _ => ?_) | refine mo_hWl ?_ | refine mo_gd ?_ | refine mo_sLn (fun _ => ?_) | refine mo_sAt (fun _ => ?_) | refine mo_kLn (fun _ => ?_) | refine mo_kAt (fun _ => ?_))
set_option maxRecDepth 10000 in
theorem mC_X2_applyTo {w : Wd} (hw : Wc w) (l0 : Nat) (l1 : Option Nat) : MH w yX2_applyTo cX2_applyTo 2 none 0 0 voV [va_rf (some l0), va_rf l1] (C_X2_applyTo l0 l1) := by
  have M0 : ∀ g : Gm Hp Unit, g.1 = w → Bx g cX2_applyTo 2 RX2 voV none 0 0 "applyTo" → Sm g 2 0 (lv_args 0 [va_rf (some l0), va_rf l1]) [] (C_X2_applyTo l0 l1) := by
    intro g hg B
    subst hg
    unfold C_X2_applyTo
    refine W_lva (lv := [(0, va_rf (some l0)), (1, va_rf l1)]) (by simp [lv_args, va_rf_cat, cat_i, cat_l, cat_r]) ?_
    refine s_rload_n B.1.1 1 dX2_applyTo_0 rfl rfl ?_
    refine s_rload_n B.1.1 0 dX2_applyTo_1 rfl rfl ?_
    refine hp_getL B.1 4 3 rfl (by decide) inX2 (by decide) fk_X2_3 cf_X2_76 dX2_applyTo_2 (fun v1 => ?_)
    refine hp_putL B.1 10 13 rfl (by decide) inX8 tyX8 tyX8_ok nmX8 (by decide) fk_X8_13 ft_X8_13 rfl cf_X2_125 dX2_applyTo_5 ?_
    refine s_rload_n B.1.1 1 dX2_applyTo_8 rfl rfl ?_
    refine s_rload_n B.1.1 0 dX2_applyTo_9 rfl rfl ?_
    refine hp_getI B.1 4 4 rfl (by decide) inX2 (by decide) fk_X2_4.1 fk_X2_4.2 cf_X2_82 dX2_applyTo_10 (fun v2 => ?_)
    refine hp_putI B.1 10 15 rfl (by decide) inX8 tyX8 tyX8_ok nmX8 (by decide) fk_X8_15.1 fk_X8_15.2 ft_X8_15 rfl cf_X2_128 dX2_applyTo_13 ?_
    refine s_rload_n B.1.1 1 dX2_applyTo_16 rfl rfl ?_
    refine s_rload_n B.1.1 0 dX2_applyTo_17 rfl rfl ?_
    refine hp_getL B.1 4 5 rfl (by decide) inX2 (by decide) fk_X2_5 cf_X2_87 dX2_applyTo_18 (fun v3 => ?_)
    refine hp_putL B.1 10 14 rfl (by decide) inX8 tyX8 tyX8_ok nmX8 (by decide) fk_X8_14 ft_X8_14 rfl cf_X2_129 dX2_applyTo_21 ?_
    refine s_rload_n B.1.1 1 dX2_applyTo_24 rfl rfl ?_
    refine s_rload_n B.1.1 0 dX2_applyTo_25 rfl rfl ?_
    refine hp_getI B.1 4 2 rfl (by decide) inX2 (by decide) fk_X2_2.1 fk_X2_2.2 cf_X2_56 dX2_applyTo_26 (fun v4 => ?_)
    refine hp_putI B.1 10 16 rfl (by decide) inX8 tyX8 tyX8_ok nmX8 (by decide) fk_X8_16.1 fk_X8_16.2 ft_X8_16 rfl cf_X2_130 dX2_applyTo_29 ?_
    refine s_rload_n B.1.1 1 dX2_applyTo_32 rfl rfl ?_
    refine s_rload_n B.1.1 0 dX2_applyTo_33 rfl rfl ?_
    refine hp_getR B.1 4 6 rfl (by decide) inX2 (by decide) fk_X2_6 cf_X2_94 dX2_applyTo_34 (fun v5 => ?_)
    refine hp_putR B.1 10 11 rfl (by decide) inX8 tyX8 tyX8_ok nmX8 (by decide) fk_X8_11 ft_X8_11 rfR rfl cf_X2_131 dX2_applyTo_37 ?_
    refine s_rload_n B.1.1 1 dX2_applyTo_40 rfl rfl ?_
    refine s_rload_n B.1.1 0 dX2_applyTo_41 rfl rfl ?_
    refine hp_getL B.1 4 7 rfl (by decide) inX2 (by decide) fk_X2_7 cf_X2_98 dX2_applyTo_42 (fun v6 => ?_)
    refine hp_putL B.1 10 12 rfl (by decide) inX8 tyX8 tyX8_ok nmX8 (by decide) fk_X8_12 ft_X8_12 rfl cf_X2_132 dX2_applyTo_45 ?_
    exact s_vret B.1.1 B.2.2.2.2 dX2_applyTo_48
  exact MH.of hw ⟨rfl, rfl⟩ (by decide) (by simp [lg_sl, va_rf_cat, cat_i, cat_l, cat_r]) (mo_C_X2_applyTo l0 l1) M0
def C_X11_enter_J134 (l0 : Nat) (l1 : Option Nat) (l2 : Int32) (l3 : Option Nat) (l4 : Option Nat) (l5 : Int32) : Hp → Option (Unit × Hp) :=
  if l4 = none then (
    rt ()
  ) else (
    hgR 13 6 (some l0) fun v1 =>
    hCv 4 v1 (fun a => C_X2_applyTo a l4) fun r2 =>
    hpR 10 2 l4 l1 <|
    hpR 2 2 l1 l4 <|
    hCv 13 (some l0) (fun a => C_X11_welcome a l1 l5 l2 l3) fun r3 =>
    hCv 13 (some l0) (fun a => C_X11_sendAgain a l4 l1) fun r4 =>
    hCv 13 (some l0) (fun a => C_X11_goOn a l4) fun r5 =>
    rt ()
  )
set_option maxRecDepth 10000 in
theorem mo_C_X11_enter_J134 (l0 : Nat) (l1 : Option Nat) (l2 : Int32) (l3 : Option Nat) (l4 : Option Nat) (l5 : Int32) : Mo (C_X11_enter_J134 l0 l1 l2 l3 l4 l5) := by
  unfold C_X11_enter_J134
  repeat' (with_reducible first | assumption | exact mo_rt _ | exact mo_zt _ | exact mo_no | apply mo_C_X2_applyTo | apply mo_C_X11_welcome | apply mo_C_X11_sendAgain | apply mo_C_X11_goOn | refine mo_ite ?_ ?_ | refine mo_hgI (fun _ => ?_) | refine mo_hgR (fun _ => ?_) | refine mo_hCv (fun _ => ?_) (fun _ => ?_) | refine mo_lq (fun _ => ?_) | refine mo_hpI ?_ | refine mo_hpR ?_ | refine mo_hAi (fun _ => ?_) | refine mo_hAr (fun _ => ?_) | refine mo_hWi ?_ | refine mo_hWr ?_ | refine mo_hLn (fun _ => ?_) | refine mo_hgL (fun _ => ?_) | refine mo_hpL ?_ | refine mo_hpZ ?_ | refine mo_bd ?_ (fun _ => ?_) | refine mo_hCi (fun _ => ?_) (fun _ => ?_) | refine mo_hNw (fun _ => ?_) | refine mo_hNa (fun _ => ?_) | refine mo_hCp ?_ | refine mo_hOi ?_ | refine mo_hAl (fun _ => ?_) | refine mo_hWl ?_ | refine mo_gd ?_ | refine mo_sLn (fun _ => ?_) | refine mo_sAt (fun _ => ?_) | refine mo_kLn (fun _ => ?_) | refine mo_kAt (fun _ => ?_))
set_option maxRecDepth 10000 in
theorem sc_X11_enter_J134 {g : Gm Hp Unit} (B : Bx g cX11_enter 6 RX11 voV none 10 346 "enter") {l0 : Nat} (l1 : Option Nat) (l2 : Int32) (l3 : Option Nat) (l4 : Option Nat) (l5 : Int32) : Sm g 6 134 [(0, va_rf (some l0)), (1, va_rf l1), (2, .int l2), (3, va_rf l3), (4, va_rf l4), (5, .int l5)] [] (C_X11_enter_J134 l0 l1 l2 l3 l4 l5) := by
  unfold C_X11_enter_J134
  refine s_rload B.1.1 4 dX11_enter_134 rfl ?_
  refine s_ifnonnull B.1.1 140 dX11_enter_136 (by decide) ?_ ?_
  · refine s_rload_n B.1.1 0 dX11_enter_140 rfl rfl ?_
    refine hp_getR B.1 13 6 rfl (by decide) inX11 (by decide) fk_X11_6 cf_X11_55 dX11_enter_141 (fun v1 => ?_)
    refine s_rload B.1.1 4 dX11_enter_144 rfl ?_
    refine hp_cvv (As := [va_rf l4]) (st := []) 4 rfl (by decide) B.1 (fun a => mC_X2_applyTo B.2.1 a l4) cc_X2_applyTo cl_X11_385 cn_X2_applyTo ce_X2_applyTo ci_X2 cd_X2_applyTo (by decide) rfl (Nat.le_of_ble_eq_true rfl) dX11_enter_146 (fun r2 => ?_)
    refine s_rload B.1.1 4 dX11_enter_149 rfl ?_
    refine s_rload_n B.1.1 1 dX11_enter_151 rfl rfl ?_
    refine hp_putR B.1 10 2 rfl (by decide) inX8 tyX8 tyX8_ok nmX8 (by decide) fk_X8_2 ft_X8_2 rfR rfl cf_X11_151 dX11_enter_152 ?_
    refine s_rload_n B.1.1 1 dX11_enter_155 rfl rfl ?_
    refine s_rload B.1.1 4 dX11_enter_156 rfl ?_
    refine hp_putR B.1 2 2 rfl (by decide) inX0 tyX0 tyX0_ok nmX0 (by decide) fk_X0_2 ft_X0_2 rfR rfl cf_X11_286 dX11_enter_158 ?_
    refine s_rload_n B.1.1 0 dX11_enter_161 rfl rfl ?_
    refine s_rload_n B.1.1 1 dX11_enter_162 rfl rfl ?_
    refine s_iload B.1.1 5 dX11_enter_163 rfl ?_
    refine s_iload_n B.1.1 2 dX11_enter_165 rfl rfl ?_
    refine s_rload_n B.1.1 3 dX11_enter_166 rfl rfl ?_
    refine hp_cvv (As := [va_rf l1, .int l5, .int l2, va_rf l3]) (st := []) 13 rfl (by decide) B.1 (fun a => mC_X11_welcome B.2.1 a l1 l5 l2 l3) cc_X11_welcome cl_X11_388 cn_X11_welcome ce_X11_welcome ci_X11 cd_X11_welcome (by decide) rfl (Nat.le_of_ble_eq_true rfl) dX11_enter_167 (fun r3 => ?_)
    refine s_rload_n B.1.1 0 dX11_enter_170 rfl rfl ?_
    refine s_rload B.1.1 4 dX11_enter_171 rfl ?_
    refine s_rload_n B.1.1 1 dX11_enter_173 rfl rfl ?_
    refine hp_cvv (As := [va_rf l4, va_rf l1]) (st := []) 13 rfl (by decide) B.1 (fun a => mC_X11_sendAgain B.2.1 a l4 l1) cc_X11_sendAgain cl_X11_392 cn_X11_sendAgain ce_X11_sendAgain ci_X11 cd_X11_sendAgain (by decide) rfl (Nat.le_of_ble_eq_true rfl) dX11_enter_174 (fun r4 => ?_)
    refine s_rload_n B.1.1 0 dX11_enter_177 rfl rfl ?_
    refine s_rload B.1.1 4 dX11_enter_178 rfl ?_
    refine hp_cvv (As := [va_rf l4]) (st := []) 13 rfl (by decide) B.1 (fun a => mC_X11_goOn B.2.1 a l4) cc_X11_goOn cl_X11_396 cn_X11_goOn ce_X11_goOn ci_X11 cd_X11_goOn (by decide) rfl (Nat.le_of_ble_eq_true rfl) dX11_enter_180 (fun r5 => ?_)
    exact s_vret B.1.1 B.2.2.2.2 dX11_enter_183
  · exact s_vret B.1.1 B.2.2.2.2 dX11_enter_139
def C_X11_enter_J120 (l0 : Nat) (l1 : Option Nat) (l2 : Int32) (l3 : Option Nat) (l4 : Option Nat) (s0 : Int32) : Hp → Option (Unit × Hp) :=
  if l4 = none then (
    hCv 13 (some l0) (fun a => C_X11_makeSession a l3) fun r6 =>
    C_X11_enter_J134 l0 l1 l2 l3 r6 s0
  ) else (
    C_X11_enter_J134 l0 l1 l2 l3 l4 s0
  )
set_option maxRecDepth 10000 in
theorem mo_C_X11_enter_J120 (l0 : Nat) (l1 : Option Nat) (l2 : Int32) (l3 : Option Nat) (l4 : Option Nat) (s0 : Int32) : Mo (C_X11_enter_J120 l0 l1 l2 l3 l4 s0) := by
  unfold C_X11_enter_J120
  repeat' (with_reducible first | assumption | exact mo_rt _ | exact mo_zt _ | exact mo_no | apply mo_C_X11_makeSession | apply mo_C_X11_enter_J134 | refine mo_ite ?_ ?_ | refine mo_hgI (fun _ => ?_) | refine mo_hgR (fun _ => ?_) | refine mo_hCv (fun _ => ?_) (fun _ => ?_) | refine mo_lq (fun _ => ?_) | refine mo_hpI ?_ | refine mo_hpR ?_ | refine mo_hAi (fun _ => ?_) | refine mo_hAr (fun _ => ?_) | refine mo_hWi ?_ | refine mo_hWr ?_ | refine mo_hLn (fun _ => ?_) | refine mo_hgL (fun _ => ?_) | refine mo_hpL ?_ | refine mo_hpZ ?_ | refine mo_bd ?_ (fun _ => ?_) | refine mo_hCi (fun _ => ?_) (fun _ => ?_) | refine mo_hNw (fun _ => ?_) | refine mo_hNa (fun _ => ?_) | refine mo_hCp ?_ | refine mo_hOi ?_ | refine mo_hAl (fun _ => ?_) | refine mo_hWl ?_ | refine mo_gd ?_ | refine mo_sLn (fun _ => ?_) | refine mo_sAt (fun _ => ?_) | refine mo_kLn (fun _ => ?_) | refine mo_kAt (fun _ => ?_))
set_option maxRecDepth 10000 in
theorem sc_X11_enter_J120 {g : Gm Hp Unit} (B : Bx g cX11_enter 6 RX11 voV none 10 346 "enter") {l0 : Nat} (l1 : Option Nat) (l2 : Int32) (l3 : Option Nat) (l4 : Option Nat) (s0 : Int32) : Sm g 6 120 [(0, va_rf (some l0)), (1, va_rf l1), (2, .int l2), (3, va_rf l3), (4, va_rf l4)] [.int s0] (C_X11_enter_J120 l0 l1 l2 l3 l4 s0) := by
  unfold C_X11_enter_J120
  refine s_istore (i := 5) (lv' := [(5, .int s0), (0, va_rf (some l0)), (1, va_rf l1), (2, .int l2), (3, va_rf l3), (4, va_rf l4)]) B.1.1 dX11_enter_120 (by decide) (by simp [va_rf_cat, cat_i, cat_l, cat_r]) ?_
  refine s_rload B.1.1 5 dX11_enter_122 rfl ?_
  refine s_ifnonnull B.1.1 134 dX11_enter_124 (by decide) ?_ ?_
  · exact Sm.lvs [1, 2, 3, 4, 5, 0] rfl (sc_X11_enter_J134 B l1 l2 l3 l4 s0)
  · refine s_rload_n B.1.1 1 dX11_enter_127 rfl rfl ?_
    refine s_rload_n B.1.1 4 dX11_enter_128 rfl rfl ?_
    refine hp_cvr (As := [va_rf l3]) (st := []) 13 rfl (by decide) B.1 (fun a => mC_X11_makeSession B.2.1 a l3) cc_X11_makeSession cl_X11_382 cn_X11_makeSession ce_X11_makeSession ci_X11 cd_X11_makeSession (by decide) rfl (Nat.le_of_ble_eq_true rfl) dX11_enter_129 (fun r6 => ?_)
    refine s_rstore (i := 4) (lv' := [(4, va_rf r6), (5, .int s0), (0, va_rf (some l0)), (1, va_rf l1), (2, .int l2), (3, va_rf l3)]) B.1.1 dX11_enter_132 (by decide) (by simp [va_rf_cat, cat_i, cat_l, cat_r]) ?_
    exact Sm.lvs [2, 3, 4, 5, 0, 1] rfl (sc_X11_enter_J134 B l1 l2 l3 r6 s0)
def C_X11_enter_J110 (l0 : Nat) (l1 : Option Nat) (l2 : Int32) (l3 : Option Nat) (l4 : Option Nat) : Hp → Option (Unit × Hp) :=
  if l4 = none then (
    C_X11_enter_J120 l0 l1 l2 l3 l4 (0 : Int32)
  ) else (
    C_X11_enter_J120 l0 l1 l2 l3 l4 (1 : Int32)
  )
set_option maxRecDepth 10000 in
theorem mo_C_X11_enter_J110 (l0 : Nat) (l1 : Option Nat) (l2 : Int32) (l3 : Option Nat) (l4 : Option Nat) : Mo (C_X11_enter_J110 l0 l1 l2 l3 l4) := by
  unfold C_X11_enter_J110
  repeat' (with_reducible first | assumption | exact mo_rt _ | exact mo_zt _ | exact mo_no | apply mo_C_X11_enter_J120 | refine mo_ite ?_ ?_ | refine mo_hgI (fun _ => ?_) | refine mo_hgR (fun _ => ?_) | refine mo_hCv (fun _ => ?_) (fun _ => ?_) | refine mo_lq (fun _ => ?_) | refine mo_hpI ?_ | refine mo_hpR ?_ | refine mo_hAi (fun _ => ?_) | refine mo_hAr (fun _ => ?_) | refine mo_hWi ?_ | refine mo_hWr ?_ | refine mo_hLn (fun _ => ?_) | refine mo_hgL (fun _ => ?_) | refine mo_hpL ?_ | refine mo_hpZ ?_ | refine mo_bd ?_ (fun _ => ?_) | refine mo_hCi (fun _ => ?_) (fun _ => ?_) | refine mo_hNw (fun _ => ?_) | refine mo_hNa (fun _ => ?_) | refine mo_hCp ?_ | refine mo_hOi ?_ | refine mo_hAl (fun _ => ?_) | refine mo_hWl ?_ | refine mo_gd ?_ | refine mo_sLn (fun _ => ?_) | refine mo_sAt (fun _ => ?_) | refine mo_kLn (fun _ => ?_) | refine mo_kAt (fun _ => ?_))
set_option maxRecDepth 10000 in
theorem sc_X11_enter_J110 {g : Gm Hp Unit} (B : Bx g cX11_enter 6 RX11 voV none 10 346 "enter") {l0 : Nat} (l1 : Option Nat) (l2 : Int32) (l3 : Option Nat) (l4 : Option Nat) : Sm g 6 110 [(0, va_rf (some l0)), (1, va_rf l1), (2, .int l2), (3, va_rf l3), (4, va_rf l4)] [] (C_X11_enter_J110 l0 l1 l2 l3 l4) := by
  unfold C_X11_enter_J110
  refine s_rload B.1.1 4 dX11_enter_110 rfl ?_
  refine s_ifnull B.1.1 119 dX11_enter_112 (by decide) ?_ ?_
  · refine s_iconst (v := 0) B.1.1 dX11_enter_119 (by decide) ?_
    exact Sm.lvs [0, 1, 2, 3, 4] rfl (sc_X11_enter_J120 B l1 l2 l3 l4 (0 : Int32))
  · refine s_iconst (v := 1) B.1.1 dX11_enter_115 (by decide) ?_
    refine s_goto B.1.1 120 dX11_enter_116 (by decide) ?_
    exact Sm.lvs [0, 1, 2, 3, 4] rfl (sc_X11_enter_J120 B l1 l2 l3 l4 (1 : Int32))
def C_X11_enter_J86 (l0 : Nat) (l1 : Option Nat) (l2 : Int32) (l3 : Option Nat) (l4 : Option Nat) : Hp → Option (Unit × Hp) :=
  if l4 = none then (
    C_X11_enter_J110 l0 l1 l2 l3 l4
  ) else (
    hgR 13 6 (some l0) fun v7 =>
    hgI 4 1 v7 fun v8 =>
    if v8 = 0 then (
      C_X11_enter_J110 l0 l1 l2 l3 l4
    ) else (
      hCv 13 (some l0) (fun a => C_X11_end a l4) fun r9 =>
      C_X11_enter_J110 l0 l1 l2 l3 none
    )
  )
set_option maxRecDepth 10000 in
theorem mo_C_X11_enter_J86 (l0 : Nat) (l1 : Option Nat) (l2 : Int32) (l3 : Option Nat) (l4 : Option Nat) : Mo (C_X11_enter_J86 l0 l1 l2 l3 l4) := by
  unfold C_X11_enter_J86
  repeat' (with_reducible first | assumption | exact mo_rt _ | exact mo_zt _ | exact mo_no | apply mo_C_X11_enter_J110 | apply mo_C_X11_end | refine mo_ite ?_ ?_ | refine mo_hgI (fun _ => ?_) | refine mo_hgR (fun _ => ?_) | refine mo_hCv (fun _ => ?_) (fun _ => ?_) | refine mo_lq (fun _ => ?_) | refine mo_hpI ?_ | refine mo_hpR ?_ | refine mo_hAi (fun _ => ?_) | refine mo_hAr (fun _ => ?_) | refine mo_hWi ?_ | refine mo_hWr ?_ | refine mo_hLn (fun _ => ?_) | refine mo_hgL (fun _ => ?_) | refine mo_hpL ?_ | refine mo_hpZ ?_ | refine mo_bd ?_ (fun _ => ?_) | refine mo_hCi (fun _ => ?_) (fun _ => ?_) | refine mo_hNw (fun _ => ?_) | refine mo_hNa (fun _ => ?_) | refine mo_hCp ?_ | refine mo_hOi ?_ | refine mo_hAl (fun _ => ?_) | refine mo_hWl ?_ | refine mo_gd ?_ | refine mo_sLn (fun _ => ?_) | refine mo_sAt (fun _ => ?_) | refine mo_kLn (fun _ => ?_) | refine mo_kAt (fun _ => ?_))
set_option maxRecDepth 10000 in
theorem sc_X11_enter_J86 {g : Gm Hp Unit} (B : Bx g cX11_enter 6 RX11 voV none 10 346 "enter") {l0 : Nat} (l1 : Option Nat) (l2 : Int32) (l3 : Option Nat) (l4 : Option Nat) : Sm g 6 86 [(0, va_rf (some l0)), (1, va_rf l1), (2, .int l2), (3, va_rf l3), (4, va_rf l4)] [] (C_X11_enter_J86 l0 l1 l2 l3 l4) := by
  unfold C_X11_enter_J86
  refine s_rload B.1.1 4 dX11_enter_86 rfl ?_
  refine s_ifnull B.1.1 110 dX11_enter_88 (by decide) ?_ ?_
  · exact Sm.lvs [0, 1, 2, 3, 4] rfl (sc_X11_enter_J110 B l1 l2 l3 l4)
  · refine s_rload_n B.1.1 0 dX11_enter_91 rfl rfl ?_
    refine hp_getR B.1 13 6 rfl (by decide) inX11 (by decide) fk_X11_6 cf_X11_55 dX11_enter_92 (fun v7 => ?_)
    refine hp_getI B.1 4 1 rfl (by decide) inX2 (by decide) fk_X2_1.1 fk_X2_1.2 cf_X11_375 dX11_enter_95 (fun v8 => ?_)
    refine s_if_eq B.1.1 110 dX11_enter_98 (by decide) ?_ ?_
    · exact Sm.lvs [0, 1, 2, 3, 4] rfl (sc_X11_enter_J110 B l1 l2 l3 l4)
    · refine s_rload_n B.1.1 0 dX11_enter_101 rfl rfl ?_
      refine s_rload B.1.1 4 dX11_enter_102 rfl ?_
      refine hp_cvv (As := [va_rf l4]) (st := []) 13 rfl (by decide) B.1 (fun a => mC_X11_end B.2.1 a l4) cc_X11_end cl_X11_378 cn_X11_end ce_X11_end ci_X11 cd_X11_end (by decide) rfl (Nat.le_of_ble_eq_true rfl) dX11_enter_104 (fun r9 => ?_)
      refine s_null B.1.1 dX11_enter_107 ?_
      refine s_rstore (i := 4) (lv' := [(4, va_rf none), (0, va_rf (some l0)), (1, va_rf l1), (2, .int l2), (3, va_rf l3)]) B.1.1 dX11_enter_108 (by decide) (by simp [va_rf_cat, cat_i, cat_l, cat_r]) ?_
      exact Sm.lvs [1, 2, 3, 4, 0] rfl (sc_X11_enter_J110 B l1 l2 l3 none)
def C_X11_enter_J37 (l0 : Nat) (l1 : Option Nat) (l2 : Int32) (s0 : Option Nat) : Hp → Option (Unit × Hp) :=
  hCv 13 (some l0) (fun a => C_X11_find a s0) fun r10 =>
  if r10 = none then (
    C_X11_enter_J86 l0 l1 l2 s0 r10
  ) else (
    hgR 10 2 r10 fun v11 =>
    if v11 = none then (
      C_X11_enter_J86 l0 l1 l2 s0 r10
    ) else (
      hgR 10 2 r10 fun v12 =>
      hCv 13 (some l0) (fun a => C_X11_sayFarewell a v12 (142 : Int32)) fun r13 =>
      hgR 10 2 r10 fun v14 =>
      hCv 13 (some l0) (fun a => C_X11_lost a v14) fun r15 =>
      hCv 13 (some l0) (fun a => C_X11_find a s0) fun r16 =>
      C_X11_enter_J86 l0 l1 l2 s0 r16
    )
  )
set_option maxRecDepth 10000 in
theorem mo_C_X11_enter_J37 (l0 : Nat) (l1 : Option Nat) (l2 : Int32) (s0 : Option Nat) : Mo (C_X11_enter_J37 l0 l1 l2 s0) := by
  unfold C_X11_enter_J37
  repeat' (with_reducible first | assumption | exact mo_rt _ | exact mo_zt _ | exact mo_no | apply mo_C_X11_find | apply mo_C_X11_enter_J86 | apply mo_C_X11_sayFarewell | apply mo_C_X11_lost | refine mo_ite ?_ ?_ | refine mo_hgI (fun _ => ?_) | refine mo_hgR (fun _ => ?_) | refine mo_hCv (fun _ => ?_) (fun _ => ?_) | refine mo_lq (fun _ => ?_) | refine mo_hpI ?_ | refine mo_hpR ?_ | refine mo_hAi (fun _ => ?_) | refine mo_hAr (fun _ => ?_) | refine mo_hWi ?_ | refine mo_hWr ?_ | refine mo_hLn (fun _ => ?_) | refine mo_hgL (fun _ => ?_) | refine mo_hpL ?_ | refine mo_hpZ ?_ | refine mo_bd ?_ (fun _ => ?_) | refine mo_hCi (fun _ => ?_) (fun _ => ?_) | refine mo_hNw (fun _ => ?_) | refine mo_hNa (fun _ => ?_) | refine mo_hCp ?_ | refine mo_hOi ?_ | refine mo_hAl (fun _ => ?_) | refine mo_hWl ?_ | refine mo_gd ?_ | refine mo_sLn (fun _ => ?_) | refine mo_sAt (fun _ => ?_) | refine mo_kLn (fun _ => ?_) | refine mo_kAt (fun _ => ?_))
set_option maxRecDepth 10000 in
theorem sc_X11_enter_J37 {g : Gm Hp Unit} (B : Bx g cX11_enter 6 RX11 voV none 10 346 "enter") {l0 : Nat} (l1 : Option Nat) (l2 : Int32) (s0 : Option Nat) : Sm g 6 37 [(0, va_rf (some l0)), (1, va_rf l1), (2, .int l2)] [va_rf s0] (C_X11_enter_J37 l0 l1 l2 s0) := by
  unfold C_X11_enter_J37
  refine s_rstore_n (i := 3) (lv' := [(3, va_rf s0), (0, va_rf (some l0)), (1, va_rf l1), (2, .int l2)]) B.1.1 dX11_enter_37 rfl (by decide) rfl ?_
  refine s_rload_n B.1.1 1 dX11_enter_38 rfl rfl ?_
  refine s_rload_n B.1.1 0 dX11_enter_39 rfl rfl ?_
  refine hp_cvr (As := [va_rf s0]) (st := []) 13 rfl (by decide) B.1 (fun a => mC_X11_find B.2.1 a s0) cc_X11_find cl_X11_363 cn_X11_find ce_X11_find ci_X11 cd_X11_find (by decide) rfl (Nat.le_of_ble_eq_true rfl) dX11_enter_40 (fun r10 => ?_)
  refine s_rstore (i := 4) (lv' := [(4, va_rf r10), (3, va_rf s0), (0, va_rf (some l0)), (1, va_rf l1), (2, .int l2)]) B.1.1 dX11_enter_43 (by decide) (by simp [va_rf_cat, cat_i, cat_l, cat_r]) ?_
  refine s_rload B.1.1 0 dX11_enter_45 rfl ?_
  refine s_ifnull B.1.1 86 dX11_enter_47 (by decide) ?_ ?_
  · exact Sm.lvs [2, 3, 4, 1, 0] rfl (sc_X11_enter_J86 B l1 l2 s0 r10)
  · refine s_rload B.1.1 0 dX11_enter_50 rfl ?_
    refine hp_getR B.1 10 2 rfl (by decide) inX8 (by decide) fk_X8_2 cf_X11_151 dX11_enter_52 (fun v11 => ?_)
    refine s_ifnull B.1.1 86 dX11_enter_55 (by decide) ?_ ?_
    · exact Sm.lvs [2, 3, 4, 1, 0] rfl (sc_X11_enter_J86 B l1 l2 s0 r10)
    · refine s_rload_n B.1.1 2 dX11_enter_58 rfl rfl ?_
      refine s_rload B.1.1 0 dX11_enter_59 rfl ?_
      refine hp_getR B.1 10 2 rfl (by decide) inX8 (by decide) fk_X8_2 cf_X11_151 dX11_enter_61 (fun v12 => ?_)
      refine s_sipush (v := (142)) B.1.1 dX11_enter_64 (by decide) ?_
      refine hp_cvv (As := [va_rf v12, .int (142 : Int32)]) (st := []) 13 rfl (by decide) B.1 (fun a => mC_X11_sayFarewell B.2.1 a v12 (142 : Int32)) cc_X11_sayFarewell cl_X11_319 cn_X11_sayFarewell ce_X11_sayFarewell ci_X11 cd_X11_sayFarewell (by decide) rfl (Nat.le_of_ble_eq_true rfl) dX11_enter_67 (fun r13 => ?_)
      refine s_rload_n B.1.1 2 dX11_enter_70 rfl rfl ?_
      refine s_rload B.1.1 0 dX11_enter_71 rfl ?_
      refine hp_getR B.1 10 2 rfl (by decide) inX8 (by decide) fk_X8_2 cf_X11_151 dX11_enter_73 (fun v14 => ?_)
      refine hp_cvv (As := [va_rf v14]) (st := []) 13 rfl (by decide) B.1 (fun a => mC_X11_lost B.2.1 a v14) cc_X11_lost cl_X11_103 cn_X11_lost ce_X11_lost ci_X11 cd_X11_lost (by decide) rfl (Nat.le_of_ble_eq_true rfl) dX11_enter_76 (fun r15 => ?_)
      refine s_rload_n B.1.1 2 dX11_enter_79 rfl rfl ?_
      refine s_rload_n B.1.1 1 dX11_enter_80 rfl rfl ?_
      refine hp_cvr (As := [va_rf s0]) (st := []) 13 rfl (by decide) B.1 (fun a => mC_X11_find B.2.1 a s0) cc_X11_find cl_X11_363 cn_X11_find ce_X11_find ci_X11 cd_X11_find (by decide) rfl (Nat.le_of_ble_eq_true rfl) dX11_enter_81 (fun r16 => ?_)
      refine s_rstore (i := 4) (lv' := [(4, va_rf r16), (3, va_rf s0), (0, va_rf (some l0)), (1, va_rf l1), (2, .int l2)]) B.1.1 dX11_enter_84 (by decide) (by simp [va_rf_cat, cat_i, cat_l, cat_r]) ?_
      exact Sm.lvs [2, 3, 4, 1, 0] rfl (sc_X11_enter_J86 B l1 l2 s0 r16)
def C_X11_enter_J18 (l0 : Nat) (l1 : Option Nat) (s0 : Int32) : Hp → Option (Unit × Hp) :=
  if s0 = 0 then (
    hgR 13 6 (some l0) fun v17 =>
    hgR 4 0 v17 fun v18 =>
    C_X11_enter_J37 l0 l1 s0 v18
  ) else (
    hCv 13 (some l0) (fun a => C_X11_makeId a) fun r19 =>
    C_X11_enter_J37 l0 l1 s0 r19
  )
set_option maxRecDepth 10000 in
theorem mo_C_X11_enter_J18 (l0 : Nat) (l1 : Option Nat) (s0 : Int32) : Mo (C_X11_enter_J18 l0 l1 s0) := by
  unfold C_X11_enter_J18
  repeat' (with_reducible first | assumption | exact mo_rt _ | exact mo_zt _ | exact mo_no | apply mo_C_X11_enter_J37 | apply mo_C_X11_makeId | refine mo_ite ?_ ?_ | refine mo_hgI (fun _ => ?_) | refine mo_hgR (fun _ => ?_) | refine mo_hCv (fun _ => ?_) (fun _ => ?_) | refine mo_lq (fun _ => ?_) | refine mo_hpI ?_ | refine mo_hpR ?_ | refine mo_hAi (fun _ => ?_) | refine mo_hAr (fun _ => ?_) | refine mo_hWi ?_ | refine mo_hWr ?_ | refine mo_hLn (fun _ => ?_) | refine mo_hgL (fun _ => ?_) | refine mo_hpL ?_ | refine mo_hpZ ?_ | refine mo_bd ?_ (fun _ => ?_) | refine mo_hCi (fun _ => ?_) (fun _ => ?_) | refine mo_hNw (fun _ => ?_) | refine mo_hNa (fun _ => ?_) | refine mo_hCp ?_ | refine mo_hOi ?_ | refine mo_hAl (fun _ => ?_) | refine mo_hWl ?_ | refine mo_gd ?_ | refine mo_sLn (fun _ => ?_) | refine mo_sAt (fun _ => ?_) | refine mo_kLn (fun _ => ?_) | refine mo_kAt (fun _ => ?_))
set_option maxRecDepth 10000 in
theorem sc_X11_enter_J18 {g : Gm Hp Unit} (B : Bx g cX11_enter 6 RX11 voV none 10 346 "enter") {l0 : Nat} (l1 : Option Nat) (s0 : Int32) : Sm g 6 18 [(0, va_rf (some l0)), (1, va_rf l1)] [.int s0] (C_X11_enter_J18 l0 l1 s0) := by
  unfold C_X11_enter_J18
  refine s_istore_n (i := 2) (lv' := [(2, .int s0), (0, va_rf (some l0)), (1, va_rf l1)]) B.1.1 dX11_enter_18 rfl (by decide) (by simp [va_rf_cat, cat_i, cat_l, cat_r]) ?_
  refine s_iload_n B.1.1 0 dX11_enter_19 rfl rfl ?_
  refine s_if_eq B.1.1 30 dX11_enter_20 (by decide) ?_ ?_
  · refine s_rload_n B.1.1 1 dX11_enter_30 rfl rfl ?_
    refine hp_getR B.1 13 6 rfl (by decide) inX11 (by decide) fk_X11_6 cf_X11_55 dX11_enter_31 (fun v17 => ?_)
    refine hp_getR B.1 4 0 rfl (by decide) inX2 (by decide) fk_X2_0 cf_X11_362 dX11_enter_34 (fun v18 => ?_)
    exact Sm.lvs [1, 2, 0] rfl (sc_X11_enter_J37 B l1 s0 v18)
  · refine s_rload_n B.1.1 1 dX11_enter_23 rfl rfl ?_
    refine hp_cvr (As := []) (st := []) 13 rfl (by decide) B.1 (fun a => mC_X11_makeId B.2.1 a ) cc_X11_makeId cl_X11_371 cn_X11_makeId ce_X11_makeId ci_X11 cd_X11_makeId (by decide) rfl (Nat.le_of_ble_eq_true rfl) dX11_enter_24 (fun r19 => ?_)
    refine s_goto B.1.1 37 dX11_enter_27 (by decide) ?_
    exact Sm.lvs [1, 2, 0] rfl (sc_X11_enter_J37 B l1 s0 r19)
def C_X11_enter (l0 : Nat) (l1 : Option Nat) : Hp → Option (Unit × Hp) :=
  hgR 13 6 (some l0) fun v20 =>
  hgR 4 0 v20 fun v21 =>
  hCv 9 v21 (fun a => C_X7_count a) fun r22 =>
  if r22 = 0 then (
    C_X11_enter_J18 l0 l1 (1 : Int32)
  ) else (
    C_X11_enter_J18 l0 l1 (0 : Int32)
  )
set_option maxRecDepth 10000 in
theorem mo_C_X11_enter (l0 : Nat) (l1 : Option Nat) : Mo (C_X11_enter l0 l1) := by
  unfold C_X11_enter
  repeat' (with_reducible first | assumption | exact mo_rt _ | exact mo_zt _ | exact mo_no | apply mo_C_X7_count | apply mo_C_X11_enter_J18 | refine mo_ite ?_ ?_ | refine mo_hgI (fun _ => ?_) | refine mo_hgR (fun _ => ?_) | refine mo_hCv (fun _ => ?_) (fun _ => ?_) | refine mo_lq (fun _ => ?_) | refine mo_hpI ?_ | refine mo_hpR ?_ | refine mo_hAi (fun _ => ?_) | refine mo_hAr (fun _ => ?_) | refine mo_hWi ?_ | refine mo_hWr ?_ | refine mo_hLn (fun _ => ?_) | refine mo_hgL (fun _ => ?_) | refine mo_hpL ?_ | refine mo_hpZ ?_ | refine mo_bd ?_ (fun _ => ?_) | refine mo_hCi (fun _ => ?_) (fun _ => ?_) | refine mo_hNw (fun _ => ?_) | refine mo_hNa (fun _ => ?_) | refine mo_hCp ?_ | refine mo_hOi ?_ | refine mo_hAl (fun _ => ?_) | refine mo_hWl ?_ | refine mo_gd ?_ | refine mo_sLn (fun _ => ?_) | refine mo_sAt (fun _ => ?_) | refine mo_kLn (fun _ => ?_) | refine mo_kAt (fun _ => ?_))
set_option maxRecDepth 10000 in
theorem mC_X11_enter {w : Wd} (hw : Wc w) (l0 : Nat) (l1 : Option Nat) : MH w yX11_enter cX11_enter 6 none 10 346 voV [va_rf (some l0), va_rf l1] (C_X11_enter l0 l1) := by
  have M0 : ∀ g : Gm Hp Unit, g.1 = w → Bx g cX11_enter 6 RX11 voV none 10 346 "enter" → Sm g 6 0 (lv_args 0 [va_rf (some l0), va_rf l1]) [] (C_X11_enter l0 l1) := by
    intro g hg B
    subst hg
    unfold C_X11_enter
    refine W_lva (lv := [(0, va_rf (some l0)), (1, va_rf l1)]) (by simp [lv_args, va_rf_cat, cat_i, cat_l, cat_r]) ?_
    refine s_rload_n B.1.1 0 dX11_enter_0 rfl rfl ?_
    refine hp_getR B.1 13 6 rfl (by decide) inX11 (by decide) fk_X11_6 cf_X11_55 dX11_enter_1 (fun v20 => ?_)
    refine hp_getR B.1 4 0 rfl (by decide) inX2 (by decide) fk_X2_0 cf_X11_362 dX11_enter_4 (fun v21 => ?_)
    refine hp_cvi (As := []) (st := []) 9 rfl (by decide) B.1 (fun a => mC_X7_count B.2.1 a ) cc_X7_count cl_X11_178 cn_X7_count ce_X7_count ci_X7 cd_X7_count (by decide) rfl (Nat.le_of_ble_eq_true rfl) dX11_enter_7 (fun r22 => ?_)
    refine s_if_ne B.1.1 17 dX11_enter_10 (by decide) ?_ ?_
    · refine s_iconst (v := 0) B.1.1 dX11_enter_17 (by decide) ?_
      exact Sm.lvs [0, 1] rfl (sc_X11_enter_J18 B l1 (0 : Int32))
    · refine s_iconst (v := 1) B.1.1 dX11_enter_13 (by decide) ?_
      refine s_goto B.1.1 18 dX11_enter_14 (by decide) ?_
      exact Sm.lvs [0, 1] rfl (sc_X11_enter_J18 B l1 (1 : Int32))
  exact MH.of hw ⟨rfl, rfl⟩ (by decide) (by simp [lg_sl, va_rf_cat, cat_i, cat_l, cat_r]) (mo_C_X11_enter l0 l1) M0
def C_X0_type (l0 : Nat) : Hp → Option (Int32 × Hp) :=
  hgR 2 7 (some l0) fun v1 =>
  hAi v1 (0 : Int32) fun v2 =>
  rt (v2 >>> ((4 : Int32) &&& 31))
set_option maxRecDepth 10000 in
theorem mo_C_X0_type (l0 : Nat) : Mo (C_X0_type l0) := by
  unfold C_X0_type
  repeat' (with_reducible first | assumption | exact mo_rt _ | exact mo_zt _ | exact mo_no | refine mo_ite ?_ ?_ | refine mo_hgI (fun _ => ?_) | refine mo_hgR (fun _ => ?_) | refine mo_hCv (fun _ => ?_) (fun _ => ?_) | refine mo_lq (fun _ => ?_) | refine mo_hpI ?_ | refine mo_hpR ?_ | refine mo_hAi (fun _ => ?_) | refine mo_hAr (fun _ => ?_) | refine mo_hWi ?_ | refine mo_hWr ?_ | refine mo_hLn (fun _ => ?_) | refine mo_hgL (fun _ => ?_) | refine mo_hpL ?_ | refine mo_hpZ ?_ | refine mo_bd ?_ (fun _ => ?_) | refine mo_hCi (fun _ => ?_) (fun _ => ?_) | refine mo_hNw (fun _ => ?_) | refine mo_hNa (fun _ => ?_) | refine mo_hCp ?_ | refine mo_hOi ?_ | refine mo_hAl (fun _ => ?_) | refine mo_hWl ?_ | refine mo_gd ?_ | refine mo_sLn (fun _ => ?_) | refine mo_sAt (fun _ => ?_) | refine mo_kLn (fun _ => ?_) | refine mo_kAt (fun _ => ?_))
set_option maxRecDepth 10000 in
theorem mC_X0_type {w : Wd} (hw : Wc w) (l0 : Nat) : MH w yX0_type cX0_type 1 (some .int) 0 0 voI [va_rf (some l0)] (C_X0_type l0) := by
  have M0 : ∀ g : Gm Hp Int32, g.1 = w → Bx g cX0_type 1 RX0 voI (some .int) 0 0 "type" → Sm g 1 0 (lv_args 0 [va_rf (some l0)]) [] (C_X0_type l0) := by
    intro g hg B
    subst hg
    unfold C_X0_type
    refine W_lva (lv := [(0, va_rf (some l0))]) (by simp [lv_args, va_rf_cat, cat_i, cat_l, cat_r]) ?_
    refine s_rload_n B.1.1 0 dX0_type_0 rfl rfl ?_
    refine hp_getR B.1 2 7 rfl (by decide) inX0 (by decide) fk_X0_7 cf_X0_15 dX0_type_1 (fun v1 => ?_)
    refine s_iconst (v := 0) B.1.1 dX0_type_4 (by decide) ?_
    refine hp_Ai B.1 dX0_type_5 (fun v2 => ?_)
    refine s_iconst (v := 4) B.1.1 dX0_type_6 (by decide) ?_
    refine s_ishr B.1.1 dX0_type_7 ?_
    exact s_iret B.1.1 B.2.2.2.2 dX0_type_8
  exact MH.of hw ⟨rfl, rfl⟩ (by decide) (by simp [lg_sl, va_rf_cat, cat_i, cat_l, cat_r]) (mo_C_X0_type l0) M0
def C_X8_onTheWay_J49 (l0 : Nat) : Hp → Option ((Option Nat) × Hp) :=
  rt (none)
set_option maxRecDepth 10000 in
theorem mo_C_X8_onTheWay_J49 (l0 : Nat) : Mo (C_X8_onTheWay_J49 l0) := by
  unfold C_X8_onTheWay_J49
  repeat' (with_reducible first | assumption | exact mo_rt _ | exact mo_zt _ | exact mo_no | refine mo_ite ?_ ?_ | refine mo_hgI (fun _ => ?_) | refine mo_hgR (fun _ => ?_) | refine mo_hCv (fun _ => ?_) (fun _ => ?_) | refine mo_lq (fun _ => ?_) | refine mo_hpI ?_ | refine mo_hpR ?_ | refine mo_hAi (fun _ => ?_) | refine mo_hAr (fun _ => ?_) | refine mo_hWi ?_ | refine mo_hWr ?_ | refine mo_hLn (fun _ => ?_) | refine mo_hgL (fun _ => ?_) | refine mo_hpL ?_ | refine mo_hpZ ?_ | refine mo_bd ?_ (fun _ => ?_) | refine mo_hCi (fun _ => ?_) (fun _ => ?_) | refine mo_hNw (fun _ => ?_) | refine mo_hNa (fun _ => ?_) | refine mo_hCp ?_ | refine mo_hOi ?_ | refine mo_hAl (fun _ => ?_) | refine mo_hWl ?_ | refine mo_gd ?_ | refine mo_sLn (fun _ => ?_) | refine mo_sAt (fun _ => ?_) | refine mo_kLn (fun _ => ?_) | refine mo_kAt (fun _ => ?_))
set_option maxRecDepth 10000 in
theorem sc_X8_onTheWay_J49 {g : Gm Hp (Option Nat)} (B : Bx g cX8_onTheWay 4 RX8 voR (some (.object "TopicBroker$Delivery")) 0 0 "onTheWay") {l0 : Nat} : Sm g 4 49 [] [] (C_X8_onTheWay_J49 l0) := by
  unfold C_X8_onTheWay_J49
  refine s_null B.1.1 dX8_onTheWay_49 ?_
  exact s_aret B.1.1 B.2.2.2.2 (Or.inl ⟨_, rfl⟩) dX8_onTheWay_50
def C_X8_onTheWay_J36 (l0 : Nat) (l3 : Int32) : Hp → Option ((Option Nat) × Hp) :=
  hgR 10 5 (some l0) fun v1 =>
  hAr 7 v1 l3 fun v2 =>
  rt (v2)
set_option maxRecDepth 10000 in
theorem mo_C_X8_onTheWay_J36 (l0 : Nat) (l3 : Int32) : Mo (C_X8_onTheWay_J36 l0 l3) := by
  unfold C_X8_onTheWay_J36
  repeat' (with_reducible first | assumption | exact mo_rt _ | exact mo_zt _ | exact mo_no | refine mo_ite ?_ ?_ | refine mo_hgI (fun _ => ?_) | refine mo_hgR (fun _ => ?_) | refine mo_hCv (fun _ => ?_) (fun _ => ?_) | refine mo_lq (fun _ => ?_) | refine mo_hpI ?_ | refine mo_hpR ?_ | refine mo_hAi (fun _ => ?_) | refine mo_hAr (fun _ => ?_) | refine mo_hWi ?_ | refine mo_hWr ?_ | refine mo_hLn (fun _ => ?_) | refine mo_hgL (fun _ => ?_) | refine mo_hpL ?_ | refine mo_hpZ ?_ | refine mo_bd ?_ (fun _ => ?_) | refine mo_hCi (fun _ => ?_) (fun _ => ?_) | refine mo_hNw (fun _ => ?_) | refine mo_hNa (fun _ => ?_) | refine mo_hCp ?_ | refine mo_hOi ?_ | refine mo_hAl (fun _ => ?_) | refine mo_hWl ?_ | refine mo_gd ?_ | refine mo_sLn (fun _ => ?_) | refine mo_sAt (fun _ => ?_) | refine mo_kLn (fun _ => ?_) | refine mo_kAt (fun _ => ?_))
set_option maxRecDepth 10000 in
theorem sc_X8_onTheWay_J36 {g : Gm Hp (Option Nat)} (B : Bx g cX8_onTheWay 4 RX8 voR (some (.object "TopicBroker$Delivery")) 0 0 "onTheWay") {l0 : Nat} (l3 : Int32) : Sm g 4 36 [(0, va_rf (some l0)), (3, .int l3)] [] (C_X8_onTheWay_J36 l0 l3) := by
  unfold C_X8_onTheWay_J36
  refine s_rload_n B.1.1 0 dX8_onTheWay_36 rfl rfl ?_
  refine hp_getR B.1 10 5 rfl (by decide) inX8 (by decide) fk_X8_5 cf_X8_19 dX8_onTheWay_37 (fun v1 => ?_)
  refine s_iload_n B.1.1 1 dX8_onTheWay_40 rfl rfl ?_
  refine hp_Ar B.1 7 (by decide) (fun _ => rfl) dX8_onTheWay_41 (fun v2 => ?_)
  exact s_aret B.1.1 B.2.2.2.2 (Or.inl ⟨_, rfl⟩) dX8_onTheWay_42
def C_X8_onTheWay_B2 (l0 : Nat) (kb : Int32 → Int32 → Int32 → Hp → Option ((Option Nat) × Hp)) (ke36 : Int32 → Hp → Option ((Option Nat) × Hp)) (ke49 : Hp → Option ((Option Nat) × Hp)) (l1 : Int32) (l2 : Int32) (l3 : Int32) : Hp → Option ((Option Nat) × Hp) :=
  hgI 10 6 (some l0) fun v3 =>
  if v3 ≤ l3 then (
    ke49
  ) else (
    hgR 10 5 (some l0) fun v4 =>
    hAr 7 v4 l3 fun v5 =>
    hgI 3 4 v5 fun v6 =>
    if v6 = l1 then (
      hgR 10 5 (some l0) fun v7 =>
      hAr 7 v7 l3 fun v8 =>
      hgI 3 1 v8 fun v9 =>
      if v9 = l2 then (
        ke36 l3
      ) else (
        kb l1 l2 (l3 + 1)
      )
    ) else (
      kb l1 l2 (l3 + 1)
    )
  )
def C_X8_onTheWay_L2 (l0 : Nat) (ke36 : Int32 → Hp → Option ((Option Nat) × Hp)) (ke49 : Hp → Option ((Option Nat) × Hp)) : Nat → Int32 → Int32 → Int32 → Hp → Option ((Option Nat) × Hp)
  | 0, _, _, _ => no
  | n + 1, l1, l2, l3 => C_X8_onTheWay_B2 l0 (fun l1 l2 l3 => C_X8_onTheWay_L2 l0 ke36 ke49 n l1 l2 l3) ke36 ke49 l1 l2 l3
set_option maxRecDepth 10000 in
theorem mo_C_X8_onTheWay_B2 (l0 : Nat) (kb : Int32 → Int32 → Int32 → Hp → Option ((Option Nat) × Hp)) (ke36 : Int32 → Hp → Option ((Option Nat) × Hp)) (ke49 : Hp → Option ((Option Nat) × Hp)) (hkb : ∀ (l1 : Int32) (l2 : Int32) (l3 : Int32), Mo (kb l1 l2 l3)) (hke36 : ∀ (l3 : Int32), Mo (ke36 l3)) (hke49 : Mo (ke49)) (l1 : Int32) (l2 : Int32) (l3 : Int32) : Mo (C_X8_onTheWay_B2 l0 kb ke36 ke49 l1 l2 l3) := by
  unfold C_X8_onTheWay_B2
  repeat' (with_reducible first | assumption | exact mo_rt _ | exact mo_zt _ | exact mo_no | apply hkb | apply hke36 | apply hke49 | refine mo_ite ?_ ?_ | refine mo_hgI (fun _ => ?_) | refine mo_hgR (fun _ => ?_) | refine mo_hCv (fun _ => ?_) (fun _ => ?_) | refine mo_lq (fun _ => ?_) | refine mo_hpI ?_ | refine mo_hpR ?_ | refine mo_hAi (fun _ => ?_) | refine mo_hAr (fun _ => ?_) | refine mo_hWi ?_ | refine mo_hWr ?_ | refine mo_hLn (fun _ => ?_) | refine mo_hgL (fun _ => ?_) | refine mo_hpL ?_ | refine mo_hpZ ?_ | refine mo_bd ?_ (fun _ => ?_) | refine mo_hCi (fun _ => ?_) (fun _ => ?_) | refine mo_hNw (fun _ => ?_) | refine mo_hNa (fun _ => ?_) | refine mo_hCp ?_ | refine mo_hOi ?_ | refine mo_hAl (fun _ => ?_) | refine mo_hWl ?_ | refine mo_gd ?_ | refine mo_sLn (fun _ => ?_) | refine mo_sAt (fun _ => ?_) | refine mo_kLn (fun _ => ?_) | refine mo_kAt (fun _ => ?_))
set_option maxRecDepth 10000 in
theorem mo_C_X8_onTheWay_L2 (l0 : Nat) (ke36 : Int32 → Hp → Option ((Option Nat) × Hp)) (ke49 : Hp → Option ((Option Nat) × Hp)) (hke36 : ∀ (l3 : Int32), Mo (ke36 l3)) (hke49 : Mo (ke49)) : ∀ (n : Nat) (l1 : Int32) (l2 : Int32) (l3 : Int32), Mo (C_X8_onTheWay_L2 l0 ke36 ke49 n l1 l2 l3)
  | 0, _, _, _ => mo_no
  | n + 1, l1, l2, l3 => mo_C_X8_onTheWay_B2 l0 _ ke36 ke49 (mo_C_X8_onTheWay_L2 l0 ke36 ke49 hke36 hke49 n) hke36 hke49 l1 l2 l3
set_option maxRecDepth 10000 in
theorem sc_X8_onTheWay_B2 {g : Gm Hp (Option Nat)} {kb : Int32 → Int32 → Int32 → Hp → Option ((Option Nat) × Hp)} {ke36 : Int32 → Hp → Option ((Option Nat) × Hp)} {ke49 : Hp → Option ((Option Nat) × Hp)} (B : Bx g cX8_onTheWay 4 RX8 voR (some (.object "TopicBroker$Delivery")) 0 0 "onTheWay") {l0 : Nat} (hkb : ∀ (l1 : Int32) (l2 : Int32) (l3 : Int32), Sm g 4 2 [(0, va_rf (some l0)), (1, .int l1), (2, .int l2), (3, .int l3)] [] (kb l1 l2 l3)) (hke36 : ∀ (l3 : Int32), Sm g 4 36 [(0, va_rf (some l0)), (3, .int l3)] [] (ke36 l3)) (hke49 : Sm g 4 49 [] [] (ke49)) (l1 : Int32) (l2 : Int32) (l3 : Int32) : Sm g 4 2 [(0, va_rf (some l0)), (1, .int l1), (2, .int l2), (3, .int l3)] [] (C_X8_onTheWay_B2 l0 kb ke36 ke49 l1 l2 l3) := by
  unfold C_X8_onTheWay_B2
  refine s_iload_n B.1.1 3 dX8_onTheWay_2 rfl rfl ?_
  refine s_rload_n B.1.1 0 dX8_onTheWay_3 rfl rfl ?_
  refine hp_getI B.1 10 6 rfl (by decide) inX8 (by decide) fk_X8_6.1 fk_X8_6.2 cf_X8_71 dX8_onTheWay_4 (fun v3 => ?_)
  refine s_icmp_ge B.1.1 49 dX8_onTheWay_7 (by decide) ?_ ?_
  · exact Sm.lvs [] rfl (hke49)
  · refine s_rload_n B.1.1 0 dX8_onTheWay_10 rfl rfl ?_
    refine hp_getR B.1 10 5 rfl (by decide) inX8 (by decide) fk_X8_5 cf_X8_19 dX8_onTheWay_11 (fun v4 => ?_)
    refine s_iload_n B.1.1 3 dX8_onTheWay_14 rfl rfl ?_
    refine hp_Ar B.1 7 (by decide) (fun _ => rfl) dX8_onTheWay_15 (fun v5 => ?_)
    refine hp_getI B.1 3 4 rfl (by decide) inX1 (by decide) fk_X1_4.1 fk_X1_4.2 cf_X8_83 dX8_onTheWay_16 (fun v6 => ?_)
    refine s_iload_n B.1.1 1 dX8_onTheWay_19 rfl rfl ?_
    refine s_icmp_ne B.1.1 43 dX8_onTheWay_20 (by decide) ?_ ?_
    · refine s_iinc (v := l3 + 1) (lv' := [(3, .int (l3 + 1)), (0, va_rf (some l0)), (1, .int l1), (2, .int l2)]) B.1.1 3 dX8_onTheWay_43 rfl rfl (by decide) rfl ?_
      refine s_goto B.1.1 2 dX8_onTheWay_46 (by decide) ?_
      exact Sm.lvs [1, 2, 3, 0] rfl (hkb l1 l2 (l3 + 1))
    · refine s_rload_n B.1.1 0 dX8_onTheWay_23 rfl rfl ?_
      refine hp_getR B.1 10 5 rfl (by decide) inX8 (by decide) fk_X8_5 cf_X8_19 dX8_onTheWay_24 (fun v7 => ?_)
      refine s_iload_n B.1.1 3 dX8_onTheWay_27 rfl rfl ?_
      refine hp_Ar B.1 7 (by decide) (fun _ => rfl) dX8_onTheWay_28 (fun v8 => ?_)
      refine hp_getI B.1 3 1 rfl (by decide) inX1 (by decide) fk_X1_1.1 fk_X1_1.2 cf_X8_84 dX8_onTheWay_29 (fun v9 => ?_)
      refine s_iload_n B.1.1 2 dX8_onTheWay_32 rfl rfl ?_
      refine s_icmp_ne B.1.1 43 dX8_onTheWay_33 (by decide) ?_ ?_
      · refine s_iinc (v := l3 + 1) (lv' := [(3, .int (l3 + 1)), (0, va_rf (some l0)), (1, .int l1), (2, .int l2)]) B.1.1 3 dX8_onTheWay_43 rfl rfl (by decide) rfl ?_
        refine s_goto B.1.1 2 dX8_onTheWay_46 (by decide) ?_
        exact Sm.lvs [1, 2, 3, 0] rfl (hkb l1 l2 (l3 + 1))
      · exact Sm.lvs [0, 3] rfl (hke36 l3)
set_option maxRecDepth 10000 in
theorem sc_X8_onTheWay_L2 {g : Gm Hp (Option Nat)} {ke36 : Int32 → Hp → Option ((Option Nat) × Hp)} {ke49 : Hp → Option ((Option Nat) × Hp)} (B : Bx g cX8_onTheWay 4 RX8 voR (some (.object "TopicBroker$Delivery")) 0 0 "onTheWay") {l0 : Nat} (hke36 : ∀ (l3 : Int32), Sm g 4 36 [(0, va_rf (some l0)), (3, .int l3)] [] (ke36 l3)) (hke49 : Sm g 4 49 [] [] (ke49)) : ∀ (n : Nat) (l1 : Int32) (l2 : Int32) (l3 : Int32), Sm g 4 2 [(0, va_rf (some l0)), (1, .int l1), (2, .int l2), (3, .int l3)] [] (C_X8_onTheWay_L2 l0 ke36 ke49 n l1 l2 l3)
  | 0, _, _, _ => Sm.fail
  | n + 1, l1, l2, l3 => sc_X8_onTheWay_B2 B (sc_X8_onTheWay_L2 B hke36 hke49 n) hke36 hke49 l1 l2 l3
def C_X8_onTheWay (l0 : Nat) (l1 : Int32) (l2 : Int32) : Hp → Option ((Option Nat) × Hp) :=
  C_X8_onTheWay_L2 l0 (fun l3 => C_X8_onTheWay_J36 l0 l3) (C_X8_onTheWay_J49 l0) fu l1 l2 (0 : Int32)
set_option maxRecDepth 10000 in
theorem mo_C_X8_onTheWay (l0 : Nat) (l1 : Int32) (l2 : Int32) : Mo (C_X8_onTheWay l0 l1 l2) := by
  unfold C_X8_onTheWay
  repeat' (with_reducible first | assumption | exact mo_rt _ | exact mo_zt _ | exact mo_no | apply mo_C_X8_onTheWay_L2 | apply mo_C_X8_onTheWay_J36 | apply mo_C_X8_onTheWay_J49 | refine mo_ite ?_ ?_ | refine mo_hgI (fun _ => ?_) | refine mo_hgR (fun _ => ?_) | refine mo_hCv (fun _ => ?_) (fun _ => ?_) | refine mo_lq (fun _ => ?_) | refine mo_hpI ?_ | refine mo_hpR ?_ | refine mo_hAi (fun _ => ?_) | refine mo_hAr (fun _ => ?_) | refine mo_hWi ?_ | refine mo_hWr ?_ | refine mo_hLn (fun _ => ?_) | refine mo_hgL (fun _ => ?_) | refine mo_hpL ?_ | refine mo_hpZ ?_ | refine mo_bd ?_ (fun _ => ?_) | refine mo_hCi (fun _ => ?_) (fun _ => ?_) | refine mo_hNw (fun _ => ?_) | refine mo_hNa (fun _ => ?_) | refine mo_hCp ?_ | refine mo_hOi ?_ | refine mo_hAl (fun _ => ?_) | refine mo_hWl ?_ | refine mo_gd ?_ | refine mo_sLn (fun _ => ?_) | refine mo_sAt (fun _ => ?_) | refine mo_kLn (fun _ => ?_) | refine mo_kAt (fun _ => ?_))
set_option maxRecDepth 10000 in
theorem mC_X8_onTheWay {w : Wd} (hw : Wc w) (l0 : Nat) (l1 : Int32) (l2 : Int32) : MH w yX8_onTheWay cX8_onTheWay 4 (some (.object "TopicBroker$Delivery")) 0 0 voR [va_rf (some l0), .int l1, .int l2] (C_X8_onTheWay l0 l1 l2) := by
  have M0 : ∀ g : Gm Hp (Option Nat), g.1 = w → Bx g cX8_onTheWay 4 RX8 voR (some (.object "TopicBroker$Delivery")) 0 0 "onTheWay" → Sm g 4 0 (lv_args 0 [va_rf (some l0), .int l1, .int l2]) [] (C_X8_onTheWay l0 l1 l2) := by
    intro g hg B
    subst hg
    unfold C_X8_onTheWay
    refine W_lva (lv := [(0, va_rf (some l0)), (1, .int l1), (2, .int l2)]) (by simp [lv_args, va_rf_cat, cat_i, cat_l, cat_r]) ?_
    refine s_iconst (v := 0) B.1.1 dX8_onTheWay_0 (by decide) ?_
    refine s_istore_n (i := 3) (lv' := [(3, .int (0 : Int32)), (0, va_rf (some l0)), (1, .int l1), (2, .int l2)]) B.1.1 dX8_onTheWay_1 rfl (by decide) rfl ?_
    exact Sm.lvs [1, 2, 3, 0] rfl (sc_X8_onTheWay_L2 B (fun l3 => sc_X8_onTheWay_J36 B l3) (sc_X8_onTheWay_J49 B) fu l1 l2 (0 : Int32))
  exact MH.of hw ⟨rfl, rfl⟩ (by decide) (by simp [lg_sl, va_rf_cat, cat_i, cat_l, cat_r]) (mo_C_X8_onTheWay l0 l1 l2) M0
def C_X11_received (l0 : Nat) (l1 : Option Nat) (l2 : Option Nat) (l3 : Int32) (l4 : Int32) : Hp → Option (Unit × Hp) :=
  hCv 10 l2 (fun a => C_X8_onTheWay a l3 (2 : Int32)) fun r1 =>
  if r1 = none then (
    hCv 13 (some l0) (fun a => C_X11_answer a l1 (98 : Int32) l3 (146 : Int32)) fun r5 =>
    rt ()
  ) else (
    if l4 < (128 : Int32) then (
      hpZ 3 5 r1 (1 : Int32) <|
      hCv 13 (some l0) (fun a => C_X11_answer a l1 (98 : Int32) l3 (0 : Int32)) fun r2 =>
      rt ()
    ) else (
      hCv 10 l2 (fun a => C_X8_arrive a r1) fun r3 =>
      hCv 13 (some l0) (fun a => C_X11_goOn a l2) fun r4 =>
      rt ()
    )
  )
set_option maxRecDepth 10000 in
theorem mo_C_X11_received (l0 : Nat) (l1 : Option Nat) (l2 : Option Nat) (l3 : Int32) (l4 : Int32) : Mo (C_X11_received l0 l1 l2 l3 l4) := by
  unfold C_X11_received
  repeat' (with_reducible first | assumption | exact mo_rt _ | exact mo_zt _ | exact mo_no | apply mo_C_X8_onTheWay | apply mo_C_X11_answer | apply mo_C_X8_arrive | apply mo_C_X11_goOn | refine mo_ite ?_ ?_ | refine mo_hgI (fun _ => ?_) | refine mo_hgR (fun _ => ?_) | refine mo_hCv (fun _ => ?_) (fun _ => ?_) | refine mo_lq (fun _ => ?_) | refine mo_hpI ?_ | refine mo_hpR ?_ | refine mo_hAi (fun _ => ?_) | refine mo_hAr (fun _ => ?_) | refine mo_hWi ?_ | refine mo_hWr ?_ | refine mo_hLn (fun _ => ?_) | refine mo_hgL (fun _ => ?_) | refine mo_hpL ?_ | refine mo_hpZ ?_ | refine mo_bd ?_ (fun _ => ?_) | refine mo_hCi (fun _ => ?_) (fun _ => ?_) | refine mo_hNw (fun _ => ?_) | refine mo_hNa (fun _ => ?_) | refine mo_hCp ?_ | refine mo_hOi ?_ | refine mo_hAl (fun _ => ?_) | refine mo_hWl ?_ | refine mo_gd ?_ | refine mo_sLn (fun _ => ?_) | refine mo_sAt (fun _ => ?_) | refine mo_kLn (fun _ => ?_) | refine mo_kAt (fun _ => ?_))
set_option maxRecDepth 10000 in
theorem mC_X11_received {w : Wd} (hw : Wc w) (l0 : Nat) (l1 : Option Nat) (l2 : Option Nat) (l3 : Int32) (l4 : Int32) : MH w yX11_received cX11_received 6 none 4 110 voV [va_rf (some l0), va_rf l1, va_rf l2, .int l3, .int l4] (C_X11_received l0 l1 l2 l3 l4) := by
  have M0 : ∀ g : Gm Hp Unit, g.1 = w → Bx g cX11_received 6 RX11 voV none 4 110 "received" → Sm g 6 0 (lv_args 0 [va_rf (some l0), va_rf l1, va_rf l2, .int l3, .int l4]) [] (C_X11_received l0 l1 l2 l3 l4) := by
    intro g hg B
    subst hg
    unfold C_X11_received
    refine W_lva (lv := [(0, va_rf (some l0)), (1, va_rf l1), (2, va_rf l2), (3, .int l3), (4, .int l4)]) (by simp [lv_args, va_rf_cat, cat_i, cat_l, cat_r]) ?_
    refine s_rload_n B.1.1 2 dX11_received_0 rfl rfl ?_
    refine s_iload_n B.1.1 3 dX11_received_1 rfl rfl ?_
    refine s_iconst (v := 2) B.1.1 dX11_received_2 (by decide) ?_
    refine hp_cvr (As := [.int l3, .int (2 : Int32)]) (st := []) 10 rfl (by decide) B.1 (fun a => mC_X8_onTheWay B.2.1 a l3 (2 : Int32)) cc_X8_onTheWay cl_X11_569 cn_X8_onTheWay ce_X8_onTheWay ci_X8 cd_X8_onTheWay (by decide) rfl (Nat.le_of_ble_eq_true rfl) dX11_received_3 (fun r1 => ?_)
    refine s_rstore (i := 5) (lv' := [(5, va_rf r1), (0, va_rf (some l0)), (1, va_rf l1), (2, va_rf l2), (3, .int l3), (4, .int l4)]) B.1.1 dX11_received_6 (by decide) rfl ?_
    refine s_rload B.1.1 0 dX11_received_8 rfl ?_
    refine s_ifnonnull B.1.1 27 dX11_received_10 (by decide) ?_ ?_
    · refine s_iload B.1.1 5 dX11_received_27 rfl ?_
      refine s_sipush (v := (128)) B.1.1 dX11_received_29 (by decide) ?_
      refine s_icmp_lt B.1.1 49 dX11_received_32 (by decide) ?_ ?_
      · refine s_rload B.1.1 0 dX11_received_49 rfl ?_
        refine s_iconst (v := 1) B.1.1 dX11_received_51 (by decide) ?_
        refine hp_putZ B.1 3 5 rfl (by decide) inX1 tyX1 tyX1_ok nmX1 (by decide) fk_X1_5.1 fk_X1_5.2 ft_X1_5 rfl cf_X11_439 dX11_received_52 ?_
        refine s_rload_n B.1.1 1 dX11_received_55 rfl rfl ?_
        refine s_rload_n B.1.1 2 dX11_received_56 rfl rfl ?_
        refine s_bipush (v := (98)) B.1.1 dX11_received_57 (by decide) ?_
        refine s_iload_n B.1.1 4 dX11_received_59 rfl rfl ?_
        refine s_iconst (v := 0) B.1.1 dX11_received_60 (by decide) ?_
        refine hp_cvv (As := [va_rf l1, .int (98 : Int32), .int l3, .int (0 : Int32)]) (st := []) 13 rfl (by decide) B.1 (fun a => mC_X11_answer B.2.1 a l1 (98 : Int32) l3 (0 : Int32)) cc_X11_answer cl_X11_443 cn_X11_answer ce_X11_answer ci_X11 cd_X11_answer (by decide) rfl (Nat.le_of_ble_eq_true rfl) dX11_received_61 (fun r2 => ?_)
        exact s_vret B.1.1 B.2.2.2.2 dX11_received_64
      · refine s_rload_n B.1.1 3 dX11_received_35 rfl rfl ?_
        refine s_rload B.1.1 0 dX11_received_36 rfl ?_
        refine hp_cvv (As := [va_rf r1]) (st := []) 10 rfl (by decide) B.1 (fun a => mC_X8_arrive B.2.1 a r1) cc_X8_arrive cl_X11_551 cn_X8_arrive ce_X8_arrive ci_X8 cd_X8_arrive (by decide) rfl (Nat.le_of_ble_eq_true rfl) dX11_received_38 (fun r3 => ?_)
        refine s_rload_n B.1.1 1 dX11_received_41 rfl rfl ?_
        refine s_rload_n B.1.1 3 dX11_received_42 rfl rfl ?_
        refine hp_cvv (As := [va_rf l2]) (st := []) 13 rfl (by decide) B.1 (fun a => mC_X11_goOn B.2.1 a l2) cc_X11_goOn cl_X11_396 cn_X11_goOn ce_X11_goOn ci_X11 cd_X11_goOn (by decide) rfl (Nat.le_of_ble_eq_true rfl) dX11_received_43 (fun r4 => ?_)
        refine s_goto B.1.1 64 dX11_received_46 (by decide) ?_
        exact s_vret B.1.1 B.2.2.2.2 dX11_received_64
    · refine s_rload_n B.1.1 1 dX11_received_13 rfl rfl ?_
      refine s_rload_n B.1.1 2 dX11_received_14 rfl rfl ?_
      refine s_bipush (v := (98)) B.1.1 dX11_received_15 (by decide) ?_
      refine s_iload_n B.1.1 4 dX11_received_17 rfl rfl ?_
      refine s_sipush (v := (146)) B.1.1 dX11_received_18 (by decide) ?_
      refine hp_cvv (As := [va_rf l1, .int (98 : Int32), .int l3, .int (146 : Int32)]) (st := []) 13 rfl (by decide) B.1 (fun a => mC_X11_answer B.2.1 a l1 (98 : Int32) l3 (146 : Int32)) cc_X11_answer cl_X11_443 cn_X11_answer ce_X11_answer ci_X11 cd_X11_answer (by decide) rfl (Nat.le_of_ble_eq_true rfl) dX11_received_21 (fun r5 => ?_)
      refine s_goto B.1.1 64 dX11_received_24 (by decide) ?_
      exact s_vret B.1.1 B.2.2.2.2 dX11_received_64
  exact MH.of hw ⟨rfl, rfl⟩ (by decide) (by simp [lg_sl, va_rf_cat, cat_i, cat_l, cat_r]) (mo_C_X11_received l0 l1 l2 l3 l4) M0
def C_X4_addUser (l0 : Nat) (l1 : Int32) (l2 : Int32) : Hp → Option (Unit × Hp) :=
  hgR 6 4 (some l0) fun v1 =>
  hLn 0 v1 fun v2 =>
  hgI 6 5 (some l0) fun v3 =>
  lq (imin (l2 - l1) (v2 - v3)) fun x4 =>
  hgR 6 6 (some l0) fun v5 =>
  hgR 6 4 (some l0) fun v6 =>
  hgI 6 5 (some l0) fun v7 =>
  hCp v5 l1 v6 v7 x4 <|
  hgI 6 5 (some l0) fun v8 =>
  hpI 6 5 (some l0) (v8 + x4) <|
  rt ()
set_option maxRecDepth 10000 in
theorem mo_C_X4_addUser (l0 : Nat) (l1 : Int32) (l2 : Int32) : Mo (C_X4_addUser l0 l1 l2) := by
  unfold C_X4_addUser
  repeat' (with_reducible first | assumption | exact mo_rt _ | exact mo_zt _ | exact mo_no | refine mo_ite ?_ ?_ | refine mo_hgI (fun _ => ?_) | refine mo_hgR (fun _ => ?_) | refine mo_hCv (fun _ => ?_) (fun _ => ?_) | refine mo_lq (fun _ => ?_) | refine mo_hpI ?_ | refine mo_hpR ?_ | refine mo_hAi (fun _ => ?_) | refine mo_hAr (fun _ => ?_) | refine mo_hWi ?_ | refine mo_hWr ?_ | refine mo_hLn (fun _ => ?_) | refine mo_hgL (fun _ => ?_) | refine mo_hpL ?_ | refine mo_hpZ ?_ | refine mo_bd ?_ (fun _ => ?_) | refine mo_hCi (fun _ => ?_) (fun _ => ?_) | refine mo_hNw (fun _ => ?_) | refine mo_hNa (fun _ => ?_) | refine mo_hCp ?_ | refine mo_hOi ?_ | refine mo_hAl (fun _ => ?_) | refine mo_hWl ?_ | refine mo_gd ?_ | refine mo_sLn (fun _ => ?_) | refine mo_sAt (fun _ => ?_) | refine mo_kLn (fun _ => ?_) | refine mo_kAt (fun _ => ?_))
set_option maxRecDepth 10000 in
theorem mC_X4_addUser {w : Wd} (hw : Wc w) (l0 : Nat) (l1 : Int32) (l2 : Int32) : MH w yX4_addUser cX4_addUser 4 none 1 40 voV [va_rf (some l0), .int l1, .int l2] (C_X4_addUser l0 l1 l2) := by
  have M0 : ∀ g : Gm Hp Unit, g.1 = w → Bx g cX4_addUser 4 RX4 voV none 1 40 "addUser" → Sm g 4 0 (lv_args 0 [va_rf (some l0), .int l1, .int l2]) [] (C_X4_addUser l0 l1 l2) := by
    intro g hg B
    subst hg
    unfold C_X4_addUser
    refine W_lva (lv := [(0, va_rf (some l0)), (1, .int l1), (2, .int l2)]) (by simp [lv_args, va_rf_cat, cat_i, cat_l, cat_r]) ?_
    refine s_iload_n B.1.1 2 dX4_addUser_0 rfl rfl ?_
    refine s_iload_n B.1.1 1 dX4_addUser_1 rfl rfl ?_
    refine s_isub B.1.1 dX4_addUser_2 ?_
    refine s_rload_n B.1.1 0 dX4_addUser_3 rfl rfl ?_
    refine hp_getR B.1 6 4 rfl (by decide) inX4 (by decide) fk_X4_4 cf_X4_22 dX4_addUser_4 (fun v1 => ?_)
    refine hp_Ln B.1 0 (fun _ => rfl) dX4_addUser_7 (fun v2 => ?_)
    refine s_rload_n B.1.1 0 dX4_addUser_8 rfl rfl ?_
    refine hp_getI B.1 6 5 rfl (by decide) inX4 (by decide) fk_X4_5.1 fk_X4_5.2 cf_X4_32 dX4_addUser_9 (fun v3 => ?_)
    refine s_isub B.1.1 dX4_addUser_12 ?_
    refine s_mmin B.1.1 B.1.2.1 tw_855 (by decide) (Nat.le_of_ble_eq_true rfl) dX4_addUser_13 ?_
    refine s_lqi (fun x4 => ?_)
    refine s_istore_n (i := 3) (lv' := [(3, .int x4), (0, va_rf (some l0)), (1, .int l1), (2, .int l2)]) B.1.1 dX4_addUser_16 rfl (by decide) rfl ?_
    refine s_rload_n B.1.1 1 dX4_addUser_17 rfl rfl ?_
    refine hp_getR B.1 6 6 rfl (by decide) inX4 (by decide) fk_X4_6 cf_X4_25 dX4_addUser_18 (fun v5 => ?_)
    refine s_iload_n B.1.1 2 dX4_addUser_21 rfl rfl ?_
    refine s_rload_n B.1.1 1 dX4_addUser_22 rfl rfl ?_
    refine hp_getR B.1 6 4 rfl (by decide) inX4 (by decide) fk_X4_4 cf_X4_22 dX4_addUser_23 (fun v6 => ?_)
    refine s_rload_n B.1.1 1 dX4_addUser_26 rfl rfl ?_
    refine hp_getI B.1 6 5 rfl (by decide) inX4 (by decide) fk_X4_5.1 fk_X4_5.2 cf_X4_32 dX4_addUser_27 (fun v7 => ?_)
    refine s_iload_n B.1.1 0 dX4_addUser_30 rfl rfl ?_
    refine hp_Cp B.1 tw_856 (by decide) (Nat.le_of_ble_eq_true rfl) dX4_addUser_31 ?_
    refine s_rload_n B.1.1 1 dX4_addUser_34 rfl rfl ?_
    refine s_dup B.1.1 dX4_addUser_35 rfl ?_
    refine hp_getI B.1 6 5 rfl (by decide) inX4 (by decide) fk_X4_5.1 fk_X4_5.2 cf_X4_32 dX4_addUser_36 (fun v8 => ?_)
    refine s_iload_n B.1.1 0 dX4_addUser_39 rfl rfl ?_
    refine s_iadd B.1.1 dX4_addUser_40 ?_
    refine hp_putI B.1 6 5 rfl (by decide) inX4 tyX4 tyX4_ok nmX4 (by decide) fk_X4_5.1 fk_X4_5.2 ft_X4_5 rfl cf_X4_32 dX4_addUser_41 ?_
    exact s_vret B.1.1 B.2.2.2.2 dX4_addUser_44
  exact MH.of hw ⟨rfl, rfl⟩ (by decide) (by simp [lg_sl, va_rf_cat, cat_i, cat_l, cat_r]) (mo_C_X4_addUser l0 l1 l2) M0
def C_X4_clear (l0 : Nat) : Hp → Option (Unit × Hp) :=
  hpL 6 0 (some l0) (0 : Int64) <|
  hpI 6 5 (some l0) (0 : Int32) <|
  hpR 6 7 (some l0) none <|
  rt ()
set_option maxRecDepth 10000 in
theorem mo_C_X4_clear (l0 : Nat) : Mo (C_X4_clear l0) := by
  unfold C_X4_clear
  repeat' (with_reducible first | assumption | exact mo_rt _ | exact mo_zt _ | exact mo_no | refine mo_ite ?_ ?_ | refine mo_hgI (fun _ => ?_) | refine mo_hgR (fun _ => ?_) | refine mo_hCv (fun _ => ?_) (fun _ => ?_) | refine mo_lq (fun _ => ?_) | refine mo_hpI ?_ | refine mo_hpR ?_ | refine mo_hAi (fun _ => ?_) | refine mo_hAr (fun _ => ?_) | refine mo_hWi ?_ | refine mo_hWr ?_ | refine mo_hLn (fun _ => ?_) | refine mo_hgL (fun _ => ?_) | refine mo_hpL ?_ | refine mo_hpZ ?_ | refine mo_bd ?_ (fun _ => ?_) | refine mo_hCi (fun _ => ?_) (fun _ => ?_) | refine mo_hNw (fun _ => ?_) | refine mo_hNa (fun _ => ?_) | refine mo_hCp ?_ | refine mo_hOi ?_ | refine mo_hAl (fun _ => ?_) | refine mo_hWl ?_ | refine mo_gd ?_ | refine mo_sLn (fun _ => ?_) | refine mo_sAt (fun _ => ?_) | refine mo_kLn (fun _ => ?_) | refine mo_kAt (fun _ => ?_))
set_option maxRecDepth 10000 in
theorem mC_X4_clear {w : Wd} (hw : Wc w) (l0 : Nat) : MH w yX4_clear cX4_clear 1 none 0 0 voV [va_rf (some l0)] (C_X4_clear l0) := by
  have M0 : ∀ g : Gm Hp Unit, g.1 = w → Bx g cX4_clear 1 RX4 voV none 0 0 "clear" → Sm g 1 0 (lv_args 0 [va_rf (some l0)]) [] (C_X4_clear l0) := by
    intro g hg B
    subst hg
    unfold C_X4_clear
    refine W_lva (lv := [(0, va_rf (some l0))]) (by simp [lv_args, va_rf_cat, cat_i, cat_l, cat_r]) ?_
    refine s_rload_n B.1.1 0 dX4_clear_0 rfl rfl ?_
    refine s_lconst (v := 0) B.1.1 dX4_clear_1 (by decide) ?_
    refine hp_putL B.1 6 0 rfl (by decide) inX4 tyX4 tyX4_ok nmX4 (by decide) fk_X4_0 ft_X4_0 rfl cf_X4_28 dX4_clear_2 ?_
    refine s_rload_n B.1.1 0 dX4_clear_5 rfl rfl ?_
    refine s_iconst (v := 0) B.1.1 dX4_clear_6 (by decide) ?_
    refine hp_putI B.1 6 5 rfl (by decide) inX4 tyX4 tyX4_ok nmX4 (by decide) fk_X4_5.1 fk_X4_5.2 ft_X4_5 rfl cf_X4_32 dX4_clear_7 ?_
    refine s_rload_n B.1.1 0 dX4_clear_10 rfl rfl ?_
    refine s_null B.1.1 dX4_clear_11 ?_
    refine hp_putR B.1 6 7 rfl (by decide) inX4 tyX4 tyX4_ok nmX4 (by decide) fk_X4_7 ft_X4_7 rfR rfl cf_X4_36 dX4_clear_12 ?_
    exact s_vret B.1.1 B.2.2.2.2 dX4_clear_15
  exact MH.of hw ⟨rfl, rfl⟩ (by decide) (by simp [lg_sl, va_rf_cat, cat_i, cat_l, cat_r]) (mo_C_X4_clear l0) M0
def C_X4_has (l0 : Nat) (l1 : Int32) : Hp → Option (Int32 × Hp) :=
  hgL 6 0 (some l0) fun v1 =>
  if (lg_cmp ((lshr6 v1 l1) &&& (1 : Int64)) (1 : Int64)) = 0 then (
    zt ((1 : Int32))
  ) else (
    zt ((0 : Int32))
  )
set_option maxRecDepth 10000 in
theorem mo_C_X4_has (l0 : Nat) (l1 : Int32) : Mo (C_X4_has l0 l1) := by
  unfold C_X4_has
  repeat' (with_reducible first | assumption | exact mo_rt _ | exact mo_zt _ | exact mo_no | refine mo_ite ?_ ?_ | refine mo_hgI (fun _ => ?_) | refine mo_hgR (fun _ => ?_) | refine mo_hCv (fun _ => ?_) (fun _ => ?_) | refine mo_lq (fun _ => ?_) | refine mo_hpI ?_ | refine mo_hpR ?_ | refine mo_hAi (fun _ => ?_) | refine mo_hAr (fun _ => ?_) | refine mo_hWi ?_ | refine mo_hWr ?_ | refine mo_hLn (fun _ => ?_) | refine mo_hgL (fun _ => ?_) | refine mo_hpL ?_ | refine mo_hpZ ?_ | refine mo_bd ?_ (fun _ => ?_) | refine mo_hCi (fun _ => ?_) (fun _ => ?_) | refine mo_hNw (fun _ => ?_) | refine mo_hNa (fun _ => ?_) | refine mo_hCp ?_ | refine mo_hOi ?_ | refine mo_hAl (fun _ => ?_) | refine mo_hWl ?_ | refine mo_gd ?_ | refine mo_sLn (fun _ => ?_) | refine mo_sAt (fun _ => ?_) | refine mo_kLn (fun _ => ?_) | refine mo_kAt (fun _ => ?_))
set_option maxRecDepth 10000 in
theorem mC_X4_has {w : Wd} (hw : Wc w) (l0 : Nat) (l1 : Int32) : MH w yX4_has cX4_has 2 (some .boolean) 0 0 voI [va_rf (some l0), .int l1] (C_X4_has l0 l1) := by
  have M0 : ∀ g : Gm Hp Int32, g.1 = w → Bx g cX4_has 2 RX4 voI (some .boolean) 0 0 "has" → Sm g 2 0 (lv_args 0 [va_rf (some l0), .int l1]) [] (C_X4_has l0 l1) := by
    intro g hg B
    subst hg
    unfold C_X4_has
    refine W_lva (lv := [(0, va_rf (some l0)), (1, .int l1)]) (by simp [lv_args, va_rf_cat, cat_i, cat_l, cat_r]) ?_
    refine s_rload_n B.1.1 0 dX4_has_0 rfl rfl ?_
    refine hp_getL B.1 6 0 rfl (by decide) inX4 (by decide) fk_X4_0 cf_X4_28 dX4_has_1 (fun v1 => ?_)
    refine s_iload_n B.1.1 1 dX4_has_4 rfl rfl ?_
    refine s_lshr B.1.1 dX4_has_5 ?_
    refine s_lconst (v := 1) B.1.1 dX4_has_6 (by decide) ?_
    refine s_land B.1.1 dX4_has_7 ?_
    refine s_lconst (v := 1) B.1.1 dX4_has_8 (by decide) ?_
    refine s_lcmp B.1.1 dX4_has_9 ?_
    refine s_if_ne B.1.1 17 dX4_has_10 (by decide) ?_ ?_
    · refine s_iconst (v := 0) B.1.1 dX4_has_17 (by decide) ?_
      exact s_zret B.1.1 B.2.2.2.2 dX4_has_18
    · refine s_iconst (v := 1) B.1.1 dX4_has_13 (by decide) ?_
      refine s_goto B.1.1 18 dX4_has_14 (by decide) ?_
      exact s_zret B.1.1 B.2.2.2.2 dX4_has_18
  exact MH.of hw ⟨rfl, rfl⟩ (by decide) (by simp [lg_sl, va_rf_cat, cat_i, cat_l, cat_r]) (mo_C_X4_has l0 l1) M0
def C_X5_fail (l0 : Nat) (l1 : Int32) : Hp → Option (Unit × Hp) :=
  hgI 7 4 (some l0) fun v1 =>
  if v1 = 0 then (
    hpI 7 4 (some l0) l1 <|
    rt ()
  ) else (
    rt ()
  )
set_option maxRecDepth 10000 in
theorem mo_C_X5_fail (l0 : Nat) (l1 : Int32) : Mo (C_X5_fail l0 l1) := by
  unfold C_X5_fail
  repeat' (with_reducible first | assumption | exact mo_rt _ | exact mo_zt _ | exact mo_no | refine mo_ite ?_ ?_ | refine mo_hgI (fun _ => ?_) | refine mo_hgR (fun _ => ?_) | refine mo_hCv (fun _ => ?_) (fun _ => ?_) | refine mo_lq (fun _ => ?_) | refine mo_hpI ?_ | refine mo_hpR ?_ | refine mo_hAi (fun _ => ?_) | refine mo_hAr (fun _ => ?_) | refine mo_hWi ?_ | refine mo_hWr ?_ | refine mo_hLn (fun _ => ?_) | refine mo_hgL (fun _ => ?_) | refine mo_hpL ?_ | refine mo_hpZ ?_ | refine mo_bd ?_ (fun _ => ?_) | refine mo_hCi (fun _ => ?_) (fun _ => ?_) | refine mo_hNw (fun _ => ?_) | refine mo_hNa (fun _ => ?_) | refine mo_hCp ?_ | refine mo_hOi ?_ | refine mo_hAl (fun _ => ?_) | refine mo_hWl ?_ | refine mo_gd ?_ | refine mo_sLn (fun _ => ?_) | refine mo_sAt (fun _ => ?_) | refine mo_kLn (fun _ => ?_) | refine mo_kAt (fun _ => ?_))
set_option maxRecDepth 10000 in
theorem mC_X5_fail {w : Wd} (hw : Wc w) (l0 : Nat) (l1 : Int32) : MH w yX5_fail cX5_fail 2 none 0 0 voV [va_rf (some l0), .int l1] (C_X5_fail l0 l1) := by
  have M0 : ∀ g : Gm Hp Unit, g.1 = w → Bx g cX5_fail 2 RX5 voV none 0 0 "fail" → Sm g 2 0 (lv_args 0 [va_rf (some l0), .int l1]) [] (C_X5_fail l0 l1) := by
    intro g hg B
    subst hg
    unfold C_X5_fail
    refine W_lva (lv := [(0, va_rf (some l0)), (1, .int l1)]) (by simp [lv_args, va_rf_cat, cat_i, cat_l, cat_r]) ?_
    refine s_rload_n B.1.1 0 dX5_fail_0 rfl rfl ?_
    refine hp_getI B.1 7 4 rfl (by decide) inX5 (by decide) fk_X5_4.1 fk_X5_4.2 cf_X5_38 dX5_fail_1 (fun v1 => ?_)
    refine s_if_ne B.1.1 12 dX5_fail_4 (by decide) ?_ ?_
    · exact s_vret B.1.1 B.2.2.2.2 dX5_fail_12
    · refine s_rload_n B.1.1 0 dX5_fail_7 rfl rfl ?_
      refine s_iload_n B.1.1 1 dX5_fail_8 rfl rfl ?_
      refine hp_putI B.1 7 4 rfl (by decide) inX5 tyX5 tyX5_ok nmX5 (by decide) fk_X5_4.1 fk_X5_4.2 ft_X5_4 rfl cf_X5_38 dX5_fail_9 ?_
      exact s_vret B.1.1 B.2.2.2.2 dX5_fail_12
  exact MH.of hw ⟨rfl, rfl⟩ (by decide) (by simp [lg_sl, va_rf_cat, cat_i, cat_l, cat_r]) (mo_C_X5_fail l0 l1) M0
def C_X5_has_J27 (l0 : Nat) : Hp → Option (Int32 × Hp) :=
  hgI 7 4 (some l0) fun v1 =>
  if v1 = 0 then (
    zt ((1 : Int32))
  ) else (
    zt ((0 : Int32))
  )
set_option maxRecDepth 10000 in
theorem mo_C_X5_has_J27 (l0 : Nat) : Mo (C_X5_has_J27 l0) := by
  unfold C_X5_has_J27
  repeat' (with_reducible first | assumption | exact mo_rt _ | exact mo_zt _ | exact mo_no | refine mo_ite ?_ ?_ | refine mo_hgI (fun _ => ?_) | refine mo_hgR (fun _ => ?_) | refine mo_hCv (fun _ => ?_) (fun _ => ?_) | refine mo_lq (fun _ => ?_) | refine mo_hpI ?_ | refine mo_hpR ?_ | refine mo_hAi (fun _ => ?_) | refine mo_hAr (fun _ => ?_) | refine mo_hWi ?_ | refine mo_hWr ?_ | refine mo_hLn (fun _ => ?_) | refine mo_hgL (fun _ => ?_) | refine mo_hpL ?_ | refine mo_hpZ ?_ | refine mo_bd ?_ (fun _ => ?_) | refine mo_hCi (fun _ => ?_) (fun _ => ?_) | refine mo_hNw (fun _ => ?_) | refine mo_hNa (fun _ => ?_) | refine mo_hCp ?_ | refine mo_hOi ?_ | refine mo_hAl (fun _ => ?_) | refine mo_hWl ?_ | refine mo_gd ?_ | refine mo_sLn (fun _ => ?_) | refine mo_sAt (fun _ => ?_) | refine mo_kLn (fun _ => ?_) | refine mo_kAt (fun _ => ?_))
set_option maxRecDepth 10000 in
theorem sc_X5_has_J27 {g : Gm Hp Int32} (B : Bx g cX5_has 2 RX5 voI (some .boolean) 0 0 "has") {l0 : Nat} : Sm g 2 27 [(0, va_rf (some l0))] [] (C_X5_has_J27 l0) := by
  unfold C_X5_has_J27
  refine s_rload_n B.1.1 0 dX5_has_27 rfl rfl ?_
  refine hp_getI B.1 7 4 rfl (by decide) inX5 (by decide) fk_X5_4.1 fk_X5_4.2 cf_X5_38 dX5_has_28 (fun v1 => ?_)
  refine s_if_ne B.1.1 38 dX5_has_31 (by decide) ?_ ?_
  · refine s_iconst (v := 0) B.1.1 dX5_has_38 (by decide) ?_
    exact s_zret B.1.1 B.2.2.2.2 dX5_has_39
  · refine s_iconst (v := 1) B.1.1 dX5_has_34 (by decide) ?_
    refine s_goto B.1.1 39 dX5_has_35 (by decide) ?_
    exact s_zret B.1.1 B.2.2.2.2 dX5_has_39
def C_X5_has (l0 : Nat) (l1 : Int32) : Hp → Option (Int32 × Hp) :=
  hgI 7 4 (some l0) fun v2 =>
  if v2 = 0 then (
    hgI 7 3 (some l0) fun v3 =>
    hgI 7 2 (some l0) fun v4 =>
    if l1 ≤ (v3 - v4) then (
      C_X5_has_J27 l0
    ) else (
      hpI 7 4 (some l0) (129 : Int32) <|
      C_X5_has_J27 l0
    )
  ) else (
    C_X5_has_J27 l0
  )
set_option maxRecDepth 10000 in
theorem mo_C_X5_has (l0 : Nat) (l1 : Int32) : Mo (C_X5_has l0 l1) := by
  unfold C_X5_has
  repeat' (with_reducible first | assumption | exact mo_rt _ | exact mo_zt _ | exact mo_no | apply mo_C_X5_has_J27 | refine mo_ite ?_ ?_ | refine mo_hgI (fun _ => ?_) | refine mo_hgR (fun _ => ?_) | refine mo_hCv (fun _ => ?_) (fun _ => ?_) | refine mo_lq (fun _ => ?_) | refine mo_hpI ?_ | refine mo_hpR ?_ | refine mo_hAi (fun _ => ?_) | refine mo_hAr (fun _ => ?_) | refine mo_hWi ?_ | refine mo_hWr ?_ | refine mo_hLn (fun _ => ?_) | refine mo_hgL (fun _ => ?_) | refine mo_hpL ?_ | refine mo_hpZ ?_ | refine mo_bd ?_ (fun _ => ?_) | refine mo_hCi (fun _ => ?_) (fun _ => ?_) | refine mo_hNw (fun _ => ?_) | refine mo_hNa (fun _ => ?_) | refine mo_hCp ?_ | refine mo_hOi ?_ | refine mo_hAl (fun _ => ?_) | refine mo_hWl ?_ | refine mo_gd ?_ | refine mo_sLn (fun _ => ?_) | refine mo_sAt (fun _ => ?_) | refine mo_kLn (fun _ => ?_) | refine mo_kAt (fun _ => ?_))
set_option maxRecDepth 10000 in
theorem mC_X5_has {w : Wd} (hw : Wc w) (l0 : Nat) (l1 : Int32) : MH w yX5_has cX5_has 2 (some .boolean) 0 0 voI [va_rf (some l0), .int l1] (C_X5_has l0 l1) := by
  have M0 : ∀ g : Gm Hp Int32, g.1 = w → Bx g cX5_has 2 RX5 voI (some .boolean) 0 0 "has" → Sm g 2 0 (lv_args 0 [va_rf (some l0), .int l1]) [] (C_X5_has l0 l1) := by
    intro g hg B
    subst hg
    unfold C_X5_has
    refine W_lva (lv := [(0, va_rf (some l0)), (1, .int l1)]) (by simp [lv_args, va_rf_cat, cat_i, cat_l, cat_r]) ?_
    refine s_rload_n B.1.1 0 dX5_has_0 rfl rfl ?_
    refine hp_getI B.1 7 4 rfl (by decide) inX5 (by decide) fk_X5_4.1 fk_X5_4.2 cf_X5_38 dX5_has_1 (fun v2 => ?_)
    refine s_if_ne B.1.1 27 dX5_has_4 (by decide) ?_ ?_
    · exact Sm.lvs [0] rfl (sc_X5_has_J27 B)
    · refine s_rload_n B.1.1 0 dX5_has_7 rfl rfl ?_
      refine hp_getI B.1 7 3 rfl (by decide) inX5 (by decide) fk_X5_3.1 fk_X5_3.2 cf_X5_35 dX5_has_8 (fun v3 => ?_)
      refine s_rload_n B.1.1 0 dX5_has_11 rfl rfl ?_
      refine hp_getI B.1 7 2 rfl (by decide) inX5 (by decide) fk_X5_2.1 fk_X5_2.2 cf_X5_25 dX5_has_12 (fun v4 => ?_)
      refine s_isub B.1.1 dX5_has_15 ?_
      refine s_iload_n B.1.1 1 dX5_has_16 rfl rfl ?_
      refine s_icmp_ge B.1.1 27 dX5_has_17 (by decide) ?_ ?_
      · exact Sm.lvs [0] rfl (sc_X5_has_J27 B)
      · refine s_rload_n B.1.1 0 dX5_has_20 rfl rfl ?_
        refine s_sipush (v := (129)) B.1.1 dX5_has_21 (by decide) ?_
        refine hp_putI B.1 7 4 rfl (by decide) inX5 tyX5 tyX5_ok nmX5 (by decide) fk_X5_4.1 fk_X5_4.2 ft_X5_4 rfl cf_X5_38 dX5_has_24 ?_
        exact Sm.lvs [0] rfl (sc_X5_has_J27 B)
  exact MH.of hw ⟨rfl, rfl⟩ (by decide) (by simp [lg_sl, va_rf_cat, cat_i, cat_l, cat_r]) (mo_C_X5_has l0 l1) M0
def C_X5_four (l0 : Nat) : Hp → Option (Int64 × Hp) :=
  hCv 7 (some l0) (fun a => C_X5_has a (4 : Int32)) fun r1 =>
  if r1 = 0 then (
    rt ((0 : Int64))
  ) else (
    hgI 7 2 (some l0) fun v2 =>
    hpI 7 2 (some l0) (v2 + (4 : Int32)) <|
    hgR 7 1 (some l0) fun v3 =>
    hgI 7 2 (some l0) fun v4 =>
    hAi v3 (v4 - (4 : Int32)) fun v5 =>
    hgR 7 1 (some l0) fun v6 =>
    hgI 7 2 (some l0) fun v7 =>
    hAi v6 (v7 - (3 : Int32)) fun v8 =>
    lq (((v5 <<< ((8 : Int32) &&& 31)) ||| v8).toInt64) fun x9 =>
    hgR 7 1 (some l0) fun v10 =>
    hgI 7 2 (some l0) fun v11 =>
    hAi v10 (v11 - (2 : Int32)) fun v12 =>
    hgR 7 1 (some l0) fun v13 =>
    hgI 7 2 (some l0) fun v14 =>
    hAi v13 (v14 - (1 : Int32)) fun v15 =>
    rt (((lshl6 x9 (16 : Int32)) ||| ((v12 <<< ((8 : Int32) &&& 31)).toInt64)) ||| v15.toInt64)
  )
set_option maxRecDepth 10000 in
theorem mo_C_X5_four (l0 : Nat) : Mo (C_X5_four l0) := by
  unfold C_X5_four
  repeat' (with_reducible first | assumption | exact mo_rt _ | exact mo_zt _ | exact mo_no | apply mo_C_X5_has | refine mo_ite ?_ ?_ | refine mo_hgI (fun _ => ?_) | refine mo_hgR (fun _ => ?_) | refine mo_hCv (fun _ => ?_) (fun _ => ?_) | refine mo_lq (fun _ => ?_) | refine mo_hpI ?_ | refine mo_hpR ?_ | refine mo_hAi (fun _ => ?_) | refine mo_hAr (fun _ => ?_) | refine mo_hWi ?_ | refine mo_hWr ?_ | refine mo_hLn (fun _ => ?_) | refine mo_hgL (fun _ => ?_) | refine mo_hpL ?_ | refine mo_hpZ ?_ | refine mo_bd ?_ (fun _ => ?_) | refine mo_hCi (fun _ => ?_) (fun _ => ?_) | refine mo_hNw (fun _ => ?_) | refine mo_hNa (fun _ => ?_) | refine mo_hCp ?_ | refine mo_hOi ?_ | refine mo_hAl (fun _ => ?_) | refine mo_hWl ?_ | refine mo_gd ?_ | refine mo_sLn (fun _ => ?_) | refine mo_sAt (fun _ => ?_) | refine mo_kLn (fun _ => ?_) | refine mo_kAt (fun _ => ?_))
set_option maxRecDepth 10000 in
theorem mC_X5_four {w : Wd} (hw : Wc w) (l0 : Nat) : MH w yX5_four cX5_four 3 (some .long) 1 21 voL [va_rf (some l0)] (C_X5_four l0) := by
  have M0 : ∀ g : Gm Hp Int64, g.1 = w → Bx g cX5_four 3 RX5 voL (some .long) 1 21 "four" → Sm g 3 0 (lv_args 0 [va_rf (some l0)]) [] (C_X5_four l0) := by
    intro g hg B
    subst hg
    unfold C_X5_four
    refine W_lva (lv := [(0, va_rf (some l0))]) (by simp [lv_args, va_rf_cat, cat_i, cat_l, cat_r]) ?_
    refine s_rload_n B.1.1 0 dX5_four_0 rfl rfl ?_
    refine s_iconst (v := 4) B.1.1 dX5_four_1 (by decide) ?_
    refine hp_cvi (As := [.int (4 : Int32)]) (st := []) 7 rfl (by decide) B.1 (fun a => mC_X5_has B.2.1 a (4 : Int32)) cc_X5_has cl_X5_45 cn_X5_has ce_X5_has ci_X5 cd_X5_has (by decide) rfl (Nat.le_of_ble_eq_true rfl) dX5_four_2 (fun r1 => ?_)
    refine s_if_ne B.1.1 10 dX5_four_5 (by decide) ?_ ?_
    · refine s_rload_n B.1.1 0 dX5_four_10 rfl rfl ?_
      refine s_dup B.1.1 dX5_four_11 rfl ?_
      refine hp_getI B.1 7 2 rfl (by decide) inX5 (by decide) fk_X5_2.1 fk_X5_2.2 cf_X5_25 dX5_four_12 (fun v2 => ?_)
      refine s_iconst (v := 4) B.1.1 dX5_four_15 (by decide) ?_
      refine s_iadd B.1.1 dX5_four_16 ?_
      refine hp_putI B.1 7 2 rfl (by decide) inX5 tyX5 tyX5_ok nmX5 (by decide) fk_X5_2.1 fk_X5_2.2 ft_X5_2 rfl cf_X5_25 dX5_four_17 ?_
      refine s_rload_n B.1.1 0 dX5_four_20 rfl rfl ?_
      refine hp_getR B.1 7 1 rfl (by decide) inX5 (by decide) fk_X5_1 cf_X5_24 dX5_four_21 (fun v3 => ?_)
      refine s_rload_n B.1.1 0 dX5_four_24 rfl rfl ?_
      refine hp_getI B.1 7 2 rfl (by decide) inX5 (by decide) fk_X5_2.1 fk_X5_2.2 cf_X5_25 dX5_four_25 (fun v4 => ?_)
      refine s_iconst (v := 4) B.1.1 dX5_four_28 (by decide) ?_
      refine s_isub B.1.1 dX5_four_29 ?_
      refine hp_Ai B.1 dX5_four_30 (fun v5 => ?_)
      refine s_bipush (v := (8)) B.1.1 dX5_four_31 (by decide) ?_
      refine s_ishl B.1.1 dX5_four_33 ?_
      refine s_rload_n B.1.1 0 dX5_four_34 rfl rfl ?_
      refine hp_getR B.1 7 1 rfl (by decide) inX5 (by decide) fk_X5_1 cf_X5_24 dX5_four_35 (fun v6 => ?_)
      refine s_rload_n B.1.1 0 dX5_four_38 rfl rfl ?_
      refine hp_getI B.1 7 2 rfl (by decide) inX5 (by decide) fk_X5_2.1 fk_X5_2.2 cf_X5_25 dX5_four_39 (fun v7 => ?_)
      refine s_iconst (v := 3) B.1.1 dX5_four_42 (by decide) ?_
      refine s_isub B.1.1 dX5_four_43 ?_
      refine hp_Ai B.1 dX5_four_44 (fun v8 => ?_)
      refine s_ior B.1.1 dX5_four_45 ?_
      refine s_i2l B.1.1 dX5_four_46 ?_
      refine s_lql (fun x9 => ?_)
      refine s_lstore_n (i := 1) (lv' := [(1, .long x9), (0, va_rf (some l0))]) B.1.1 dX5_four_47 rfl (by decide) rfl ?_
      refine s_lload_n B.1.1 0 dX5_four_48 rfl rfl ?_
      refine s_bipush (v := (16)) B.1.1 dX5_four_49 (by decide) ?_
      refine s_lshl B.1.1 dX5_four_51 ?_
      refine s_rload_n B.1.1 1 dX5_four_52 rfl rfl ?_
      refine hp_getR B.1 7 1 rfl (by decide) inX5 (by decide) fk_X5_1 cf_X5_24 dX5_four_53 (fun v10 => ?_)
      refine s_rload_n B.1.1 1 dX5_four_56 rfl rfl ?_
      refine hp_getI B.1 7 2 rfl (by decide) inX5 (by decide) fk_X5_2.1 fk_X5_2.2 cf_X5_25 dX5_four_57 (fun v11 => ?_)
      refine s_iconst (v := 2) B.1.1 dX5_four_60 (by decide) ?_
      refine s_isub B.1.1 dX5_four_61 ?_
      refine hp_Ai B.1 dX5_four_62 (fun v12 => ?_)
      refine s_bipush (v := (8)) B.1.1 dX5_four_63 (by decide) ?_
      refine s_ishl B.1.1 dX5_four_65 ?_
      refine s_i2l B.1.1 dX5_four_66 ?_
      refine s_lor B.1.1 dX5_four_67 ?_
      refine s_rload_n B.1.1 1 dX5_four_68 rfl rfl ?_
      refine hp_getR B.1 7 1 rfl (by decide) inX5 (by decide) fk_X5_1 cf_X5_24 dX5_four_69 (fun v13 => ?_)
      refine s_rload_n B.1.1 1 dX5_four_72 rfl rfl ?_
      refine hp_getI B.1 7 2 rfl (by decide) inX5 (by decide) fk_X5_2.1 fk_X5_2.2 cf_X5_25 dX5_four_73 (fun v14 => ?_)
      refine s_iconst (v := 1) B.1.1 dX5_four_76 (by decide) ?_
      refine s_isub B.1.1 dX5_four_77 ?_
      refine hp_Ai B.1 dX5_four_78 (fun v15 => ?_)
      refine s_i2l B.1.1 dX5_four_79 ?_
      refine s_lor B.1.1 dX5_four_80 ?_
      exact s_lret B.1.1 B.2.2.2.2 dX5_four_81
    · refine s_lconst (v := 0) B.1.1 dX5_four_8 (by decide) ?_
      exact s_lret B.1.1 B.2.2.2.2 dX5_four_9
  exact MH.of hw ⟨rfl, rfl⟩ (by decide) (by simp [lg_sl, va_rf_cat, cat_i, cat_l, cat_r]) (mo_C_X5_four l0) M0
