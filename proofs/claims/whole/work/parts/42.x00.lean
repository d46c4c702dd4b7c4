def C_X11_connectionOf_J10 (l0 : Nat) : Hp → Option ((Nat ⊕ (Option Nat)) × Hp) :=
  hTh 0
set_option maxRecDepth 10000 in
theorem mo_C_X11_connectionOf_J10 (l0 : Nat) : Mo (C_X11_connectionOf_J10 l0) := by
  unfold C_X11_connectionOf_J10
  repeat' (with_reducible first | assumption | exact mo_rt _ | exact mo_zt _ | exact mo_no | exact mo_hTh _ | exact mo_zx _ | refine mo_hCx (fun _ => ?_) (fun _ => ?_) | refine mo_ite ?_ ?_ | refine mo_hgI (fun _ => ?_) | refine mo_hgR (fun _ => ?_) | refine mo_hCv (fun _ => ?_) (fun _ => ?_) | refine mo_lq (fun _ => ?_) | refine mo_hpI ?_ | refine mo_hpR ?_ | refine mo_hAi (fun _ => ?_) | refine mo_hAr (fun _ => ?_) | refine mo_hWi ?_ | refine mo_hWr ?_ | refine mo_hLn (fun _ => ?_) | refine mo_hgL (fun _ => ?_) | refine mo_hpL ?_ | refine mo_hpZ ?_ | refine mo_bd ?_ (fun _ => ?_) | refine mo_hCi (fun _ => ?_) (fun _ => ?_) | refine mo_hNw (fun _ => ?_) | refine mo_hNa (fun _ => ?_) | refine mo_hCp ?_ | refine mo_hOi ?_ | refine mo_hAl (fun _ => ?_) | refine mo_hWl ?_ | refine mo_gd ?_ | refine mo_sLn (fun _ => ?_) | refine mo_sAt (fun _ => ?_) | refine mo_kLn (fun _ => ?_) | refine mo_kAt (fun _ => ?_))
set_option maxRecDepth 10000 in
theorem sc_X11_connectionOf_J10 {g : Gm Hp (Nat ⊕ (Option Nat))} (B : Bz g cX11_connectionOf 2 RX11 voR (some (.object "TopicBroker$Connection")) 6 90 "connectionOf") {l0 : Nat} : Sm g 2 10 [] [] (C_X11_connectionOf_J10 l0) := by
  unfold C_X11_connectionOf_J10
  exact x_throw B 0 rfl exk_0 exi_0 exg_0 exb_0 exo_0 (by decide) (Nat.le_of_ble_eq_true rfl) dX11_connectionOf_10 dX11_connectionOf_13 dX11_connectionOf_14 dX11_connectionOf_17
def C_X11_connectionOf (l0 : Nat) (l1 : Int32) : Hp → Option ((Nat ⊕ (Option Nat)) × Hp) :=
  if l1 < 0 then (
    hTh 0
  ) else (
    if l1 < (8 : Int32) then (
      hgR 13 0 (some l0) fun v1 =>
      hAr 4 v1 l1 fun v2 =>
      rt (.inr (v2))
    ) else (
      hTh 0
    )
  )
set_option maxRecDepth 10000 in
theorem mo_C_X11_connectionOf (l0 : Nat) (l1 : Int32) : Mo (C_X11_connectionOf l0 l1) := by
  unfold C_X11_connectionOf
  repeat' (with_reducible first | assumption | exact mo_rt _ | exact mo_zt _ | exact mo_no | exact mo_hTh _ | exact mo_zx _ | refine mo_hCx (fun _ => ?_) (fun _ => ?_) | refine mo_ite ?_ ?_ | refine mo_hgI (fun _ => ?_) | refine mo_hgR (fun _ => ?_) | refine mo_hCv (fun _ => ?_) (fun _ => ?_) | refine mo_lq (fun _ => ?_) | refine mo_hpI ?_ | refine mo_hpR ?_ | refine mo_hAi (fun _ => ?_) | refine mo_hAr (fun _ => ?_) | refine mo_hWi ?_ | refine mo_hWr ?_ | refine mo_hLn (fun _ => ?_) | refine mo_hgL (fun _ => ?_) | refine mo_hpL ?_ | refine mo_hpZ ?_ | refine mo_bd ?_ (fun _ => ?_) | refine mo_hCi (fun _ => ?_) (fun _ => ?_) | refine mo_hNw (fun _ => ?_) | refine mo_hNa (fun _ => ?_) | refine mo_hCp ?_ | refine mo_hOi ?_ | refine mo_hAl (fun _ => ?_) | refine mo_hWl ?_ | refine mo_gd ?_ | refine mo_sLn (fun _ => ?_) | refine mo_sAt (fun _ => ?_) | refine mo_kLn (fun _ => ?_) | refine mo_kAt (fun _ => ?_))
set_option maxRecDepth 10000 in
theorem mX_X11_connectionOf {w : Wd} (hw : Wc w) (hz : Wz w) (l0 : Nat) (l1 : Int32) : MX w yX11_connectionOf cX11_connectionOf 2 (some (.object "TopicBroker$Connection")) 6 90 voR [va_rf (some l0), .int l1] (C_X11_connectionOf l0 l1) := by
  have M0 : ∀ g : Gm Hp (Nat ⊕ (Option Nat)), g.1 = w → Bz g cX11_connectionOf 2 RX11 voR (some (.object "TopicBroker$Connection")) 6 90 "connectionOf" → Sm g 2 0 (lv_args 0 [va_rf (some l0), .int l1]) [] (C_X11_connectionOf l0 l1) := by
    intro g hg B
    subst hg
    unfold C_X11_connectionOf
    refine W_lva (lv := [(0, va_rf (some l0)), (1, .int l1)]) (by simp [lv_args, va_rf_cat, cat_i, cat_l, cat_r]) ?_
    refine s_iload_n B.1.1 1 dX11_connectionOf_0 rfl rfl ?_
    refine s_if_lt B.1.1 10 dX11_connectionOf_1 (by decide) ?_ ?_
    · exact x_throw B 0 rfl exk_0 exi_0 exg_0 exb_0 exo_0 (by decide) (Nat.le_of_ble_eq_true rfl) dX11_connectionOf_10 dX11_connectionOf_13 dX11_connectionOf_14 dX11_connectionOf_17
    · refine s_iload_n B.1.1 1 dX11_connectionOf_4 rfl rfl ?_
      refine s_bipush (v := (8)) B.1.1 dX11_connectionOf_5 (by decide) ?_
      refine s_icmp_lt B.1.1 18 dX11_connectionOf_7 (by decide) ?_ ?_
      · refine s_rload_n B.1.1 0 dX11_connectionOf_18 rfl rfl ?_
        refine hp_getR B.1 13 0 rfl (by decide) inX11 (by decide) fk_X11_0 cf_X11_11 dX11_connectionOf_19 (fun v1 => ?_)
        refine s_iload_n B.1.1 1 dX11_connectionOf_22 rfl rfl ?_
        refine hp_Ar B.1 4 (by decide) (fun _ => rfl) dX11_connectionOf_23 (fun v2 => ?_)
        exact x_aret B (Or.inl ⟨_, rfl⟩) dX11_connectionOf_24
      · exact x_throw B 0 rfl exk_0 exi_0 exg_0 exb_0 exo_0 (by decide) (Nat.le_of_ble_eq_true rfl) dX11_connectionOf_10 dX11_connectionOf_13 dX11_connectionOf_14 dX11_connectionOf_17
  exact MX.of hw hz ⟨rfl, rfl⟩ (by decide) (by simp [lg_sl, va_rf_cat, cat_i, cat_l, cat_r]) (mo_C_X11_connectionOf l0 l1) M0
def C_X11_open (l0 : Nat) (l1 : Int32) : Hp → Option ((Nat ⊕ Unit) × Hp) :=
  hCx 13 (some l0) (fun a => C_X11_connectionOf a l1) fun r1 =>
  hgI 2 1 r1 fun v2 =>
  if v2 = 0 then (
    hCv 2 r1 (fun a => C_X0_begin a) fun r3 =>
    rt (.inr ())
  ) else (
    hTh 2
  )
set_option maxRecDepth 10000 in
theorem mo_C_X11_open (l0 : Nat) (l1 : Int32) : Mo (C_X11_open l0 l1) := by
  unfold C_X11_open
  repeat' (with_reducible first | assumption | exact mo_rt _ | exact mo_zt _ | exact mo_no | apply mo_C_X11_connectionOf | apply mo_C_X0_begin | exact mo_hTh _ | exact mo_zx _ | refine mo_hCx (fun _ => ?_) (fun _ => ?_) | refine mo_ite ?_ ?_ | refine mo_hgI (fun _ => ?_) | refine mo_hgR (fun _ => ?_) | refine mo_hCv (fun _ => ?_) (fun _ => ?_) | refine mo_lq (fun _ => ?_) | refine mo_hpI ?_ | refine mo_hpR ?_ | refine mo_hAi (fun _ => ?_) | refine mo_hAr (fun _ => ?_) | refine mo_hWi ?_ | refine mo_hWr ?_ | refine mo_hLn (fun _ => ?_) | refine mo_hgL (fun _ => ?_) | refine mo_hpL ?_ | refine mo_hpZ ?_ | refine mo_bd ?_ (fun _ => ?_) | refine mo_hCi (fun _ => ?_) (fun _ => ?_) | refine mo_hNw (fun _ => ?_) | refine mo_hNa (fun _ => ?_) | refine mo_hCp ?_ | refine mo_hOi ?_ | refine mo_hAl (fun _ => ?_) | refine mo_hWl ?_ | refine mo_gd ?_ | refine mo_sLn (fun _ => ?_) | refine mo_sAt (fun _ => ?_) | refine mo_kLn (fun _ => ?_) | refine mo_kAt (fun _ => ?_))
set_option maxRecDepth 10000 in
theorem mX_X11_open {w : Wd} (hw : Wc w) (hz : Wz w) (l0 : Nat) (l1 : Int32) : MX w yX11_open cX11_open 3 none 7 111 voV [va_rf (some l0), .int l1] (C_X11_open l0 l1) := by
  have M0 : ∀ g : Gm Hp (Nat ⊕ Unit), g.1 = w → Bz g cX11_open 3 RX11 voV none 7 111 "open" → Sm g 3 0 (lv_args 0 [va_rf (some l0), .int l1]) [] (C_X11_open l0 l1) := by
    intro g hg B
    subst hg
    unfold C_X11_open
    refine W_lva (lv := [(0, va_rf (some l0)), (1, .int l1)]) (by simp [lv_args, va_rf_cat, cat_i, cat_l, cat_r]) ?_
    refine s_rload_n B.1.1 0 dX11_open_0 rfl rfl ?_
    refine s_iload_n B.1.1 1 dX11_open_1 rfl rfl ?_
    refine x_cvr (As := [.int l1]) (st := []) 13 rfl (by decide) B (fun a => mX_X11_connectionOf B.2.1 B.2.2.2.2.2.1 a l1) cc_X11_connectionOf cl_X11_70 cn_X11_connectionOf ce_X11_connectionOf ci_X11 cd_X11_connectionOf (by decide) rfl (Nat.le_of_ble_eq_true rfl) dX11_open_2 (fun r1 => ?_)
    refine s_rstore_n (i := 2) (lv' := [(2, va_rf r1), (0, va_rf (some l0)), (1, .int l1)]) B.1.1 dX11_open_5 rfl (by decide) rfl ?_
    refine s_rload_n B.1.1 0 dX11_open_6 rfl rfl ?_
    refine hp_getI B.1 2 1 rfl (by decide) inX0 (by decide) fk_X0_1.1 fk_X0_1.2 cf_X11_74 dX11_open_7 (fun v2 => ?_)
    refine s_if_eq B.1.1 21 dX11_open_10 (by decide) ?_ ?_
    · refine s_rload_n B.1.1 0 dX11_open_21 rfl rfl ?_
      refine hp_cvv (As := []) (st := []) 2 rfl (by decide) B.1 (fun a => mC_X0_begin B.2.1 a ) cc_X0_begin cl_X11_81 cn_X0_begin ce_X0_begin ci_X0 cd_X0_begin (by decide) rfl (Nat.le_of_ble_eq_true rfl) dX11_open_22 (fun r3 => ?_)
      exact x_vret B dX11_open_25
    · exact x_throw B 2 rfl exk_2 exi_2 exg_2 exb_2 exo_2 (by decide) (Nat.le_of_ble_eq_true rfl) dX11_open_13 dX11_open_16 dX11_open_17 dX11_open_20
  exact MX.of hw hz ⟨rfl, rfl⟩ (by decide) (by simp [lg_sl, va_rf_cat, cat_i, cat_l, cat_r]) (mo_C_X11_open l0 l1) M0
def C_X11_feed_J179 (l0 : Nat) (l8 : Int32) : Hp → Option ((Nat ⊕ Int32) × Hp) :=
  hgI 13 10 (some l0) fun v1 =>
  rt (.inr (v1 - l8))
set_option maxRecDepth 10000 in
theorem mo_C_X11_feed_J179 (l0 : Nat) (l8 : Int32) : Mo (C_X11_feed_J179 l0 l8) := by
  unfold C_X11_feed_J179
  repeat' (with_reducible first | assumption | exact mo_rt _ | exact mo_zt _ | exact mo_no | exact mo_hTh _ | exact mo_zx _ | refine mo_hCx (fun _ => ?_) (fun _ => ?_) | refine mo_ite ?_ ?_ | refine mo_hgI (fun _ => ?_) | refine mo_hgR (fun _ => ?_) | refine mo_hCv (fun _ => ?_) (fun _ => ?_) | refine mo_lq (fun _ => ?_) | refine mo_hpI ?_ | refine mo_hpR ?_ | refine mo_hAi (fun _ => ?_) | refine mo_hAr (fun _ => ?_) | refine mo_hWi ?_ | refine mo_hWr ?_ | refine mo_hLn (fun _ => ?_) | refine mo_hgL (fun _ => ?_) | refine mo_hpL ?_ | refine mo_hpZ ?_ | refine mo_bd ?_ (fun _ => ?_) | refine mo_hCi (fun _ => ?_) (fun _ => ?_) | refine mo_hNw (fun _ => ?_) | refine mo_hNa (fun _ => ?_) | refine mo_hCp ?_ | refine mo_hOi ?_ | refine mo_hAl (fun _ => ?_) | refine mo_hWl ?_ | refine mo_gd ?_ | refine mo_sLn (fun _ => ?_) | refine mo_sAt (fun _ => ?_) | refine mo_kLn (fun _ => ?_) | refine mo_kAt (fun _ => ?_))
set_option maxRecDepth 10000 in
theorem sc_X11_feed_J179 {g : Gm Hp (Nat ⊕ Int32)} (B : Bz g cX11_feed 13 RX11 voI (some .int) 14 445 "feed") {l0 : Nat} (l8 : Int32) : Sm g 13 179 [(0, va_rf (some l0)), (8, .int l8)] [] (C_X11_feed_J179 l0 l8) := by
  unfold C_X11_feed_J179
  refine s_rload_n B.1.1 0 dX11_feed_179 rfl rfl ?_
  refine hp_getI B.1 13 10 rfl (by decide) inX11 (by decide) fk_X11_10.1 fk_X11_10.2 cf_X11_87 dX11_feed_180 (fun v1 => ?_)
  refine s_iload B.1.1 1 dX11_feed_183 rfl ?_
  refine s_isub B.1.1 dX11_feed_185 ?_
  exact x_iret B dX11_feed_186
def C_X11_feed_J169 (l0 : Nat) (kb : Int64 → Int64 → Int32 → Option Nat → Int32 → Int32 → Hp → Option ((Nat ⊕ Int32) × Hp)) (ke179 : Int32 → Hp → Option ((Nat ⊕ Int32) × Hp)) (l2 : Int64) (l4 : Int64) (l6 : Int32) (l7 : Option Nat) (l8 : Int32) (l9 : Int32) : Hp → Option ((Nat ⊕ Int32) × Hp) :=
  hCv 13 (some l0) (fun a => C_X11_settle a) fun r2 =>
  kb l2 l4 l6 l7 l8 (l9 + 1)
set_option maxRecDepth 10000 in
theorem mo_C_X11_feed_J169 (l0 : Nat) (kb : Int64 → Int64 → Int32 → Option Nat → Int32 → Int32 → Hp → Option ((Nat ⊕ Int32) × Hp)) (ke179 : Int32 → Hp → Option ((Nat ⊕ Int32) × Hp)) (hkb : ∀ (l2 : Int64) (l4 : Int64) (l6 : Int32) (l7 : Option Nat) (l8 : Int32) (l9 : Int32), Mo (kb l2 l4 l6 l7 l8 l9)) (hke179 : ∀ (l8 : Int32), Mo (ke179 l8)) (l2 : Int64) (l4 : Int64) (l6 : Int32) (l7 : Option Nat) (l8 : Int32) (l9 : Int32) : Mo (C_X11_feed_J169 l0 kb ke179 l2 l4 l6 l7 l8 l9) := by
  unfold C_X11_feed_J169
  repeat' (with_reducible first | assumption | exact mo_rt _ | exact mo_zt _ | exact mo_no | apply mo_C_X11_settle | apply hkb | apply hke179 | exact mo_hTh _ | exact mo_zx _ | refine mo_hCx (fun _ => ?_) (fun _ => ?_) | refine mo_ite ?_ ?_ | refine mo_hgI (fun _ => ?_) | refine mo_hgR (fun _ => ?_) | refine mo_hCv (fun _ => ?_) (fun _ => ?_) | refine mo_lq (fun _ => ?_) | refine mo_hpI ?_ | refine mo_hpR ?_ | refine mo_hAi (fun _ => ?_) | refine mo_hAr (fun _ => ?_) | refine mo_hWi ?_ | refine mo_hWr ?_ | refine mo_hLn (fun _ => ?_) | refine mo_hgL (fun _ => ?_) | refine mo_hpL ?_ | refine mo_hpZ ?_ | refine mo_bd ?_ (fun _ => ?_) | refine mo_hCi (fun _ => ?_) (fun _ => ?_) | refine mo_hNw (fun _ => ?_) | refine mo_hNa (fun _ => ?_) | refine mo_hCp ?_ | refine mo_hOi ?_ | refine mo_hAl (fun _ => ?_) | refine mo_hWl ?_ | refine mo_gd ?_ | refine mo_sLn (fun _ => ?_) | refine mo_sAt (fun _ => ?_) | refine mo_kLn (fun _ => ?_) | refine mo_kAt (fun _ => ?_))
set_option maxRecDepth 10000 in
theorem sc_X11_feed_J169 {g : Gm Hp (Nat ⊕ Int32)} {kb : Int64 → Int64 → Int32 → Option Nat → Int32 → Int32 → Hp → Option ((Nat ⊕ Int32) × Hp)} {ke179 : Int32 → Hp → Option ((Nat ⊕ Int32) × Hp)} (B : Bz g cX11_feed 13 RX11 voI (some .int) 14 445 "feed") {l0 : Nat} (hkb : ∀ (l2 : Int64) (l4 : Int64) (l6 : Int32) (l7 : Option Nat) (l8 : Int32) (l9 : Int32), Sm g 13 53 [(0, va_rf (some l0)), (2, .long l2), (4, .long l4), (6, .int l6), (7, va_rf l7), (8, .int l8), (9, .int l9)] [] (kb l2 l4 l6 l7 l8 l9)) (hke179 : ∀ (l8 : Int32), Sm g 13 179 [(0, va_rf (some l0)), (8, .int l8)] [] (ke179 l8)) (l2 : Int64) (l4 : Int64) (l6 : Int32) (l7 : Option Nat) (l8 : Int32) (l9 : Int32) : Sm g 13 169 [(0, va_rf (some l0)), (2, .long l2), (4, .long l4), (6, .int l6), (7, va_rf l7), (8, .int l8), (9, .int l9)] [] (C_X11_feed_J169 l0 kb ke179 l2 l4 l6 l7 l8 l9) := by
  unfold C_X11_feed_J169
  refine s_rload_n B.1.1 0 dX11_feed_169 rfl rfl ?_
  refine hp_cvv (As := []) (st := []) 13 rfl (by decide) B.1 (fun a => mC_X11_settle B.2.1 a ) cc_X11_settle cl_X11_110 cn_X11_settle ce_X11_settle ci_X11 cd_X11_settle (by decide) rfl (Nat.le_of_ble_eq_true rfl) dX11_feed_170 (fun r2 => ?_)
  refine s_iinc (v := l9 + 1) (lv' := [(9, .int (l9 + 1)), (0, va_rf (some l0)), (2, .long l2), (4, .long l4), (6, .int l6), (7, va_rf l7), (8, .int l8)]) B.1.1 6 dX11_feed_173 rfl rfl (by decide) rfl ?_
  refine s_goto B.1.1 53 dX11_feed_176 (by decide) ?_
  exact Sm.lvs [1, 2, 3, 4, 5, 6, 0] rfl (hkb l2 l4 l6 l7 l8 (l9 + 1))
def C_X11_feed_J126 (l0 : Nat) (kb : Int64 → Int64 → Int32 → Option Nat → Int32 → Int32 → Hp → Option ((Nat ⊕ Int32) × Hp)) (ke179 : Int32 → Hp → Option ((Nat ⊕ Int32) × Hp)) (l2 : Int64) (l4 : Int64) (l6 : Int32) (l7 : Option Nat) (l8 : Int32) (l9 : Int32) (l12 : Int32) : Hp → Option ((Nat ⊕ Int32) × Hp) :=
  if l12 = (3 : Int32) then (
    hCv 13 (some l0) (fun a => C_X11_enter a l7) fun r5 =>
    C_X11_feed_J169 l0 kb ke179 l2 l4 l6 l7 l8 l9
  ) else (
    if l12 = (4 : Int32) then (
      hCv 13 (some l0) (fun a => C_X11_lost a l7) fun r4 =>
      C_X11_feed_J169 l0 kb ke179 l2 l4 l6 l7 l8 l9
    ) else (
      if l12 = 0 then (
        C_X11_feed_J169 l0 kb ke179 l2 l4 l6 l7 l8 l9
      ) else (
        hCv 13 (some l0) (fun a => C_X11_refuse a l7 l12) fun r3 =>
        C_X11_feed_J169 l0 kb ke179 l2 l4 l6 l7 l8 l9
      )
    )
  )
set_option maxRecDepth 10000 in
theorem mo_C_X11_feed_J126 (l0 : Nat) (kb : Int64 → Int64 → Int32 → Option Nat → Int32 → Int32 → Hp → Option ((Nat ⊕ Int32) × Hp)) (ke179 : Int32 → Hp → Option ((Nat ⊕ Int32) × Hp)) (hkb : ∀ (l2 : Int64) (l4 : Int64) (l6 : Int32) (l7 : Option Nat) (l8 : Int32) (l9 : Int32), Mo (kb l2 l4 l6 l7 l8 l9)) (hke179 : ∀ (l8 : Int32), Mo (ke179 l8)) (l2 : Int64) (l4 : Int64) (l6 : Int32) (l7 : Option Nat) (l8 : Int32) (l9 : Int32) (l12 : Int32) : Mo (C_X11_feed_J126 l0 kb ke179 l2 l4 l6 l7 l8 l9 l12) := by
  unfold C_X11_feed_J126
  repeat' (with_reducible first | assumption | exact mo_rt _ | exact mo_zt _ | exact mo_no | apply mo_C_X11_enter | apply mo_C_X11_feed_J169 | apply mo_C_X11_lost | apply mo_C_X11_refuse | apply hkb | apply hke179 | exact mo_hTh _ | exact mo_zx _ | refine mo_hCx (fun _ => ?_) (fun _ => ?_) | refine mo_ite ?_ ?_ | refine mo_hgI (fun _ => ?_) | refine mo_hgR (fun _ => ?_) | refine mo_hCv (fun _ => ?_) (fun _ => ?_) | refine mo_lq (fun _ => ?_) | refine mo_hpI ?_ | refine mo_hpR ?_ | refine mo_hAi (fun _ => ?_) | refine mo_hAr (fun _ => ?_) | refine mo_hWi ?_ | refine mo_hWr ?_ | refine mo_hLn (fun _ => ?_) | refine mo_hgL (fun _ => ?_) | refine mo_hpL ?_ | refine mo_hpZ ?_ | refine mo_bd ?_ (fun _ => ?_) | refine mo_hCi (fun _ => ?_) (fun _ => ?_) | refine mo_hNw (fun _ => ?_) | refine mo_hNa (fun _ => ?_) | refine mo_hCp ?_ | refine mo_hOi ?_ | refine mo_hAl (fun _ => ?_) | refine mo_hWl ?_ | refine mo_gd ?_ | refine mo_sLn (fun _ => ?_) | refine mo_sAt (fun _ => ?_) | refine mo_kLn (fun _ => ?_) | refine mo_kAt (fun _ => ?_))
set_option maxRecDepth 10000 in
theorem sc_X11_feed_J126 {g : Gm Hp (Nat ⊕ Int32)} {kb : Int64 → Int64 → Int32 → Option Nat → Int32 → Int32 → Hp → Option ((Nat ⊕ Int32) × Hp)} {ke179 : Int32 → Hp → Option ((Nat ⊕ Int32) × Hp)} (B : Bz g cX11_feed 13 RX11 voI (some .int) 14 445 "feed") {l0 : Nat} (hkb : ∀ (l2 : Int64) (l4 : Int64) (l6 : Int32) (l7 : Option Nat) (l8 : Int32) (l9 : Int32), Sm g 13 53 [(0, va_rf (some l0)), (2, .long l2), (4, .long l4), (6, .int l6), (7, va_rf l7), (8, .int l8), (9, .int l9)] [] (kb l2 l4 l6 l7 l8 l9)) (hke179 : ∀ (l8 : Int32), Sm g 13 179 [(0, va_rf (some l0)), (8, .int l8)] [] (ke179 l8)) (l2 : Int64) (l4 : Int64) (l6 : Int32) (l7 : Option Nat) (l8 : Int32) (l9 : Int32) (l12 : Int32) : Sm g 13 126 [(0, va_rf (some l0)), (2, .long l2), (4, .long l4), (6, .int l6), (7, va_rf l7), (8, .int l8), (9, .int l9), (12, .int l12)] [] (C_X11_feed_J126 l0 kb ke179 l2 l4 l6 l7 l8 l9 l12) := by
  unfold C_X11_feed_J126
  refine s_iload B.1.1 7 dX11_feed_126 rfl ?_
  refine s_iconst (v := 3) B.1.1 dX11_feed_128 (by decide) ?_
  refine s_icmp_ne B.1.1 141 dX11_feed_129 (by decide) ?_ ?_
  · refine s_iload B.1.1 7 dX11_feed_141 rfl ?_
    refine s_iconst (v := 4) B.1.1 dX11_feed_143 (by decide) ?_
    refine s_icmp_ne B.1.1 156 dX11_feed_144 (by decide) ?_ ?_
    · refine s_iload B.1.1 7 dX11_feed_156 rfl ?_
      refine s_if_eq B.1.1 169 dX11_feed_158 (by decide) ?_ ?_
      · exact Sm.lvs [0, 1, 2, 3, 4, 5, 6] rfl (sc_X11_feed_J169 B hkb hke179 l2 l4 l6 l7 l8 l9)
      · refine s_rload_n B.1.1 0 dX11_feed_161 rfl rfl ?_
        refine s_rload B.1.1 4 dX11_feed_162 rfl ?_
        refine s_iload B.1.1 7 dX11_feed_164 rfl ?_
        refine hp_cvv (As := [va_rf l7, .int l12]) (st := []) 13 rfl (by decide) B.1 (fun a => mC_X11_refuse B.2.1 a l7 l12) cc_X11_refuse cl_X11_106 cn_X11_refuse ce_X11_refuse ci_X11 cd_X11_refuse (by decide) rfl (Nat.le_of_ble_eq_true rfl) dX11_feed_166 (fun r3 => ?_)
        exact Sm.lvs [0, 1, 2, 3, 4, 5, 6] rfl (sc_X11_feed_J169 B hkb hke179 l2 l4 l6 l7 l8 l9)
    · refine s_rload_n B.1.1 0 dX11_feed_147 rfl rfl ?_
      refine s_rload B.1.1 4 dX11_feed_148 rfl ?_
      refine hp_cvv (As := [va_rf l7]) (st := []) 13 rfl (by decide) B.1 (fun a => mC_X11_lost B.2.1 a l7) cc_X11_lost cl_X11_103 cn_X11_lost ce_X11_lost ci_X11 cd_X11_lost (by decide) rfl (Nat.le_of_ble_eq_true rfl) dX11_feed_150 (fun r4 => ?_)
      refine s_goto B.1.1 169 dX11_feed_153 (by decide) ?_
      exact Sm.lvs [0, 1, 2, 3, 4, 5, 6] rfl (sc_X11_feed_J169 B hkb hke179 l2 l4 l6 l7 l8 l9)
  · refine s_rload_n B.1.1 0 dX11_feed_132 rfl rfl ?_
    refine s_rload B.1.1 4 dX11_feed_133 rfl ?_
    refine hp_cvv (As := [va_rf l7]) (st := []) 13 rfl (by decide) B.1 (fun a => mC_X11_enter B.2.1 a l7) cc_X11_enter cl_X11_99 cn_X11_enter ce_X11_enter ci_X11 cd_X11_enter (by decide) rfl (Nat.le_of_ble_eq_true rfl) dX11_feed_135 (fun r5 => ?_)
    refine s_goto B.1.1 169 dX11_feed_138 (by decide) ?_
    exact Sm.lvs [0, 1, 2, 3, 4, 5, 6] rfl (sc_X11_feed_J169 B hkb hke179 l2 l4 l6 l7 l8 l9)
def C_X11_feed_J81 (l0 : Nat) (kb : Int64 → Int64 → Int32 → Option Nat → Int32 → Int32 → Hp → Option ((Nat ⊕ Int32) × Hp)) (ke179 : Int32 → Hp → Option ((Nat ⊕ Int32) × Hp)) (l2 : Int64) (l4 : Int64) (l6 : Int32) (l7 : Option Nat) (l8 : Int32) (l9 : Int32) (s0 : Int64) : Hp → Option ((Nat ⊕ Int32) × Hp) :=
  hCv 2 l7 (fun a => C_X0_accept a (((lush6 s0 ((8 : Int32) * (l9 &&& (7 : Int32)))).toInt32) &&& (255 : Int32))) fun r6 =>
  if r6 = (1 : Int32) then (
    kb l2 l4 l6 l7 l8 (l9 + 1)
  ) else (
    if r6 = (2 : Int32) then (
      hCv 13 (some l0) (fun a => C_X11_obey a l7) fun r7 =>
      C_X11_feed_J126 l0 kb ke179 l2 l4 l6 l7 l8 l9 r7
    ) else (
      C_X11_feed_J126 l0 kb ke179 l2 l4 l6 l7 l8 l9 r6
    )
  )
set_option maxRecDepth 10000 in
theorem mo_C_X11_feed_J81 (l0 : Nat) (kb : Int64 → Int64 → Int32 → Option Nat → Int32 → Int32 → Hp → Option ((Nat ⊕ Int32) × Hp)) (ke179 : Int32 → Hp → Option ((Nat ⊕ Int32) × Hp)) (hkb : ∀ (l2 : Int64) (l4 : Int64) (l6 : Int32) (l7 : Option Nat) (l8 : Int32) (l9 : Int32), Mo (kb l2 l4 l6 l7 l8 l9)) (hke179 : ∀ (l8 : Int32), Mo (ke179 l8)) (l2 : Int64) (l4 : Int64) (l6 : Int32) (l7 : Option Nat) (l8 : Int32) (l9 : Int32) (s0 : Int64) : Mo (C_X11_feed_J81 l0 kb ke179 l2 l4 l6 l7 l8 l9 s0) := by
  unfold C_X11_feed_J81
  repeat' (with_reducible first | assumption | exact mo_rt _ | exact mo_zt _ | exact mo_no | apply mo_C_X0_accept | apply mo_C_X11_obey | apply mo_C_X11_feed_J126 | apply hkb | apply hke179 | exact mo_hTh _ | exact mo_zx _ | refine mo_hCx (fun _ => ?_) (fun _ => ?_) | refine mo_ite ?_ ?_ | refine mo_hgI (fun _ => ?_) | refine mo_hgR (fun _ => ?_) | refine mo_hCv (fun _ => ?_) (fun _ => ?_) | refine mo_lq (fun _ => ?_) | refine mo_hpI ?_ | refine mo_hpR ?_ | refine mo_hAi (fun _ => ?_) | refine mo_hAr (fun _ => ?_) | refine mo_hWi ?_ | refine mo_hWr ?_ | refine mo_hLn (fun _ => ?_) | refine mo_hgL (fun _ => ?_) | refine mo_hpL ?_ | refine mo_hpZ ?_ | refine mo_bd ?_ (fun _ => ?_) | refine mo_hCi (fun _ => ?_) (fun _ => ?_) | refine mo_hNw (fun _ => ?_) | refine mo_hNa (fun _ => ?_) | refine mo_hCp ?_ | refine mo_hOi ?_ | refine mo_hAl (fun _ => ?_) | refine mo_hWl ?_ | refine mo_gd ?_ | refine mo_sLn (fun _ => ?_) | refine mo_sAt (fun _ => ?_) | refine mo_kLn (fun _ => ?_) | refine mo_kAt (fun _ => ?_))
set_option maxRecDepth 10000 in
theorem sc_X11_feed_J81 {g : Gm Hp (Nat ⊕ Int32)} {kb : Int64 → Int64 → Int32 → Option Nat → Int32 → Int32 → Hp → Option ((Nat ⊕ Int32) × Hp)} {ke179 : Int32 → Hp → Option ((Nat ⊕ Int32) × Hp)} (B : Bz g cX11_feed 13 RX11 voI (some .int) 14 445 "feed") {l0 : Nat} (hkb : ∀ (l2 : Int64) (l4 : Int64) (l6 : Int32) (l7 : Option Nat) (l8 : Int32) (l9 : Int32), Sm g 13 53 [(0, va_rf (some l0)), (2, .long l2), (4, .long l4), (6, .int l6), (7, va_rf l7), (8, .int l8), (9, .int l9)] [] (kb l2 l4 l6 l7 l8 l9)) (hke179 : ∀ (l8 : Int32), Sm g 13 179 [(0, va_rf (some l0)), (8, .int l8)] [] (ke179 l8)) (l2 : Int64) (l4 : Int64) (l6 : Int32) (l7 : Option Nat) (l8 : Int32) (l9 : Int32) (s0 : Int64) : Sm g 13 81 [(0, va_rf (some l0)), (2, .long l2), (4, .long l4), (6, .int l6), (7, va_rf l7), (8, .int l8), (9, .int l9)] [.long s0] (C_X11_feed_J81 l0 kb ke179 l2 l4 l6 l7 l8 l9 s0) := by
  unfold C_X11_feed_J81
  refine s_lstore (i := 10) (lv' := [(10, .long s0), (0, va_rf (some l0)), (2, .long l2), (4, .long l4), (6, .int l6), (7, va_rf l7), (8, .int l8), (9, .int l9)]) B.1.1 dX11_feed_81 (by decide) rfl ?_
  refine s_rload B.1.1 5 dX11_feed_83 rfl ?_
  refine s_lload B.1.1 0 dX11_feed_85 rfl ?_
  refine s_bipush (v := (8)) B.1.1 dX11_feed_87 (by decide) ?_
  refine s_iload B.1.1 7 dX11_feed_89 rfl ?_
  refine s_bipush (v := (7)) B.1.1 dX11_feed_91 (by decide) ?_
  refine s_iand B.1.1 dX11_feed_93 ?_
  refine s_imul B.1.1 dX11_feed_94 ?_
  refine s_lushr B.1.1 dX11_feed_95 ?_
  refine s_l2i B.1.1 dX11_feed_96 ?_
  refine s_sipush (v := (255)) B.1.1 dX11_feed_97 (by decide) ?_
  refine s_iand B.1.1 dX11_feed_100 ?_
  refine hp_cvi (As := [.int (((lush6 s0 ((8 : Int32) * (l9 &&& (7 : Int32)))).toInt32) &&& (255 : Int32))]) (st := []) 2 rfl (by decide) B.1 (fun a => mC_X0_accept B.2.1 a (((lush6 s0 ((8 : Int32) * (l9 &&& (7 : Int32)))).toInt32) &&& (255 : Int32))) cc_X0_accept cl_X11_91 cn_X0_accept ce_X0_accept ci_X0 cd_X0_accept (by decide) rfl (Nat.le_of_ble_eq_true rfl) dX11_feed_101 (fun r6 => ?_)
  refine s_istore (i := 12) (lv' := [(12, .int r6), (10, .long s0), (0, va_rf (some l0)), (2, .long l2), (4, .long l4), (6, .int l6), (7, va_rf l7), (8, .int l8), (9, .int l9)]) B.1.1 dX11_feed_104 (by decide) rfl ?_
  refine s_iload B.1.1 0 dX11_feed_106 rfl ?_
  refine s_iconst (v := 1) B.1.1 dX11_feed_108 (by decide) ?_
  refine s_icmp_eq B.1.1 173 dX11_feed_109 (by decide) ?_ ?_
  · refine s_iinc (v := l9 + 1) (lv' := [(9, .int (l9 + 1)), (12, .int r6), (10, .long s0), (0, va_rf (some l0)), (2, .long l2), (4, .long l4), (6, .int l6), (7, va_rf l7), (8, .int l8)]) B.1.1 8 dX11_feed_173 rfl rfl (by decide) rfl ?_
    refine s_goto B.1.1 53 dX11_feed_176 (by decide) ?_
    exact Sm.lvs [3, 4, 5, 6, 7, 8, 0] rfl (hkb l2 l4 l6 l7 l8 (l9 + 1))
  · refine s_iload B.1.1 0 dX11_feed_112 rfl ?_
    refine s_iconst (v := 2) B.1.1 dX11_feed_114 (by decide) ?_
    refine s_icmp_ne B.1.1 126 dX11_feed_115 (by decide) ?_ ?_
    · exact Sm.lvs [2, 3, 4, 5, 6, 7, 8, 0] rfl (sc_X11_feed_J126 B hkb hke179 l2 l4 l6 l7 l8 l9 r6)
    · refine s_rload_n B.1.1 2 dX11_feed_118 rfl rfl ?_
      refine s_rload B.1.1 6 dX11_feed_119 rfl ?_
      refine hp_cvi (As := [va_rf l7]) (st := []) 13 rfl (by decide) B.1 (fun a => mC_X11_obey B.2.1 a l7) cc_X11_obey cl_X11_95 cn_X11_obey ce_X11_obey ci_X11 cd_X11_obey (by decide) rfl (Nat.le_of_ble_eq_true rfl) dX11_feed_121 (fun r7 => ?_)
      refine s_istore (i := 12) (lv' := [(12, .int r7), (10, .long s0), (0, va_rf (some l0)), (2, .long l2), (4, .long l4), (6, .int l6), (7, va_rf l7), (8, .int l8), (9, .int l9)]) B.1.1 dX11_feed_124 (by decide) rfl ?_
      exact Sm.lvs [2, 3, 4, 5, 6, 7, 8, 0] rfl (sc_X11_feed_J126 B hkb hke179 l2 l4 l6 l7 l8 l9 r7)
def C_X11_feed_B53 (l0 : Nat) (kb : Int64 → Int64 → Int32 → Option Nat → Int32 → Int32 → Hp → Option ((Nat ⊕ Int32) × Hp)) (ke179 : Int32 → Hp → Option ((Nat ⊕ Int32) × Hp)) (l2 : Int64) (l4 : Int64) (l6 : Int32) (l7 : Option Nat) (l8 : Int32) (l9 : Int32) : Hp → Option ((Nat ⊕ Int32) × Hp) :=
  if l6 ≤ l9 then (
    ke179 l8
  ) else (
    hgI 2 1 l7 fun v8 =>
    if v8 = 0 then (
      ke179 l8
    ) else (
      if (8 : Int32) ≤ l9 then (
        C_X11_feed_J81 l0 kb ke179 l2 l4 l6 l7 l8 l9 l4
      ) else (
        C_X11_feed_J81 l0 kb ke179 l2 l4 l6 l7 l8 l9 l2
      )
    )
  )
def C_X11_feed_L53 (l0 : Nat) (ke179 : Int32 → Hp → Option ((Nat ⊕ Int32) × Hp)) : Nat → Int64 → Int64 → Int32 → Option Nat → Int32 → Int32 → Hp → Option ((Nat ⊕ Int32) × Hp)
  | 0, _, _, _, _, _, _ => no
  | n + 1, l2, l4, l6, l7, l8, l9 => C_X11_feed_B53 l0 (fun l2 l4 l6 l7 l8 l9 => C_X11_feed_L53 l0 ke179 n l2 l4 l6 l7 l8 l9) ke179 l2 l4 l6 l7 l8 l9
set_option maxRecDepth 10000 in
theorem mo_C_X11_feed_B53 (l0 : Nat) (kb : Int64 → Int64 → Int32 → Option Nat → Int32 → Int32 → Hp → Option ((Nat ⊕ Int32) × Hp)) (ke179 : Int32 → Hp → Option ((Nat ⊕ Int32) × Hp)) (hkb : ∀ (l2 : Int64) (l4 : Int64) (l6 : Int32) (l7 : Option Nat) (l8 : Int32) (l9 : Int32), Mo (kb l2 l4 l6 l7 l8 l9)) (hke179 : ∀ (l8 : Int32), Mo (ke179 l8)) (l2 : Int64) (l4 : Int64) (l6 : Int32) (l7 : Option Nat) (l8 : Int32) (l9 : Int32) : Mo (C_X11_feed_B53 l0 kb ke179 l2 l4 l6 l7 l8 l9) := by
  unfold C_X11_feed_B53
  repeat' (with_reducible first | assumption | exact mo_rt _ | exact mo_zt _ | exact mo_no | apply mo_C_X11_feed_J81 | apply hkb | apply hke179 | exact mo_hTh _ | exact mo_zx _ | refine mo_hCx (fun _ => ?_) (fun _ => ?_) | refine mo_ite ?_ ?_ | refine mo_hgI (fun _ => ?_) | refine mo_hgR (fun _ => ?_) | refine mo_hCv (fun _ => ?_) (fun _ => ?_) | refine mo_lq (fun _ => ?_) | refine mo_hpI ?_ | refine mo_hpR ?_ | refine mo_hAi (fun _ => ?_) | refine mo_hAr (fun _ => ?_) | refine mo_hWi ?_ | refine mo_hWr ?_ | refine mo_hLn (fun _ => ?_) | refine mo_hgL (fun _ => ?_) | refine mo_hpL ?_ | refine mo_hpZ ?_ | refine mo_bd ?_ (fun _ => ?_) | refine mo_hCi (fun _ => ?_) (fun _ => ?_) | refine mo_hNw (fun _ => ?_) | refine mo_hNa (fun _ => ?_) | refine mo_hCp ?_ | refine mo_hOi ?_ | refine mo_hAl (fun _ => ?_) | refine mo_hWl ?_ | refine mo_gd ?_ | refine mo_sLn (fun _ => ?_) | refine mo_sAt (fun _ => ?_) | refine mo_kLn (fun _ => ?_) | refine mo_kAt (fun _ => ?_))
set_option maxRecDepth 10000 in
theorem mo_C_X11_feed_L53 (l0 : Nat) (ke179 : Int32 → Hp → Option ((Nat ⊕ Int32) × Hp)) (hke179 : ∀ (l8 : Int32), Mo (ke179 l8)) : ∀ (n : Nat) (l2 : Int64) (l4 : Int64) (l6 : Int32) (l7 : Option Nat) (l8 : Int32) (l9 : Int32), Mo (C_X11_feed_L53 l0 ke179 n l2 l4 l6 l7 l8 l9)
  | 0, _, _, _, _, _, _ => mo_no
  | n + 1, l2, l4, l6, l7, l8, l9 => mo_C_X11_feed_B53 l0 _ ke179 (mo_C_X11_feed_L53 l0 ke179 hke179 n) hke179 l2 l4 l6 l7 l8 l9
set_option maxRecDepth 10000 in
theorem sc_X11_feed_B53 {g : Gm Hp (Nat ⊕ Int32)} {kb : Int64 → Int64 → Int32 → Option Nat → Int32 → Int32 → Hp → Option ((Nat ⊕ Int32) × Hp)} {ke179 : Int32 → Hp → Option ((Nat ⊕ Int32) × Hp)} (B : Bz g cX11_feed 13 RX11 voI (some .int) 14 445 "feed") {l0 : Nat} (hkb : ∀ (l2 : Int64) (l4 : Int64) (l6 : Int32) (l7 : Option Nat) (l8 : Int32) (l9 : Int32), Sm g 13 53 [(0, va_rf (some l0)), (2, .long l2), (4, .long l4), (6, .int l6), (7, va_rf l7), (8, .int l8), (9, .int l9)] [] (kb l2 l4 l6 l7 l8 l9)) (hke179 : ∀ (l8 : Int32), Sm g 13 179 [(0, va_rf (some l0)), (8, .int l8)] [] (ke179 l8)) (l2 : Int64) (l4 : Int64) (l6 : Int32) (l7 : Option Nat) (l8 : Int32) (l9 : Int32) : Sm g 13 53 [(0, va_rf (some l0)), (2, .long l2), (4, .long l4), (6, .int l6), (7, va_rf l7), (8, .int l8), (9, .int l9)] [] (C_X11_feed_B53 l0 kb ke179 l2 l4 l6 l7 l8 l9) := by
  unfold C_X11_feed_B53
  refine s_iload B.1.1 6 dX11_feed_53 rfl ?_
  refine s_iload B.1.1 3 dX11_feed_55 rfl ?_
  refine s_icmp_ge B.1.1 179 dX11_feed_57 (by decide) ?_ ?_
  · exact Sm.lvs [0, 5] rfl (hke179 l8)
  · refine s_rload B.1.1 4 dX11_feed_60 rfl ?_
    refine hp_getI B.1 2 1 rfl (by decide) inX0 (by decide) fk_X0_1.1 fk_X0_1.2 cf_X11_74 dX11_feed_62 (fun v8 => ?_)
    refine s_if_eq B.1.1 179 dX11_feed_65 (by decide) ?_ ?_
    · exact Sm.lvs [0, 5] rfl (hke179 l8)
    · refine s_iload B.1.1 6 dX11_feed_68 rfl ?_
      refine s_bipush (v := (8)) B.1.1 dX11_feed_70 (by decide) ?_
      refine s_icmp_ge B.1.1 79 dX11_feed_72 (by decide) ?_ ?_
      · refine s_lload B.1.1 2 dX11_feed_79 rfl ?_
        exact Sm.lvs [0, 1, 2, 3, 4, 5, 6] rfl (sc_X11_feed_J81 B hkb hke179 l2 l4 l6 l7 l8 l9 l4)
      · refine s_lload_n B.1.1 1 dX11_feed_75 rfl rfl ?_
        refine s_goto B.1.1 81 dX11_feed_76 (by decide) ?_
        exact Sm.lvs [0, 1, 2, 3, 4, 5, 6] rfl (sc_X11_feed_J81 B hkb hke179 l2 l4 l6 l7 l8 l9 l2)
set_option maxRecDepth 10000 in
theorem sc_X11_feed_L53 {g : Gm Hp (Nat ⊕ Int32)} {ke179 : Int32 → Hp → Option ((Nat ⊕ Int32) × Hp)} (B : Bz g cX11_feed 13 RX11 voI (some .int) 14 445 "feed") {l0 : Nat} (hke179 : ∀ (l8 : Int32), Sm g 13 179 [(0, va_rf (some l0)), (8, .int l8)] [] (ke179 l8)) : ∀ (n : Nat) (l2 : Int64) (l4 : Int64) (l6 : Int32) (l7 : Option Nat) (l8 : Int32) (l9 : Int32), Sm g 13 53 [(0, va_rf (some l0)), (2, .long l2), (4, .long l4), (6, .int l6), (7, va_rf l7), (8, .int l8), (9, .int l9)] [] (C_X11_feed_L53 l0 ke179 n l2 l4 l6 l7 l8 l9)
  | 0, _, _, _, _, _, _ => Sm.fail
  | n + 1, l2, l4, l6, l7, l8, l9 => sc_X11_feed_B53 B (sc_X11_feed_L53 B hke179 n) hke179 l2 l4 l6 l7 l8 l9
def C_X11_feed_J20 (l0 : Nat) : Hp → Option ((Nat ⊕ Int32) × Hp) :=
  hTh 1
set_option maxRecDepth 10000 in
theorem mo_C_X11_feed_J20 (l0 : Nat) : Mo (C_X11_feed_J20 l0) := by
  unfold C_X11_feed_J20
  repeat' (with_reducible first | assumption | exact mo_rt _ | exact mo_zt _ | exact mo_no | exact mo_hTh _ | exact mo_zx _ | refine mo_hCx (fun _ => ?_) (fun _ => ?_) | refine mo_ite ?_ ?_ | refine mo_hgI (fun _ => ?_) | refine mo_hgR (fun _ => ?_) | refine mo_hCv (fun _ => ?_) (fun _ => ?_) | refine mo_lq (fun _ => ?_) | refine mo_hpI ?_ | refine mo_hpR ?_ | refine mo_hAi (fun _ => ?_) | refine mo_hAr (fun _ => ?_) | refine mo_hWi ?_ | refine mo_hWr ?_ | refine mo_hLn (fun _ => ?_) | refine mo_hgL (fun _ => ?_) | refine mo_hpL ?_ | refine mo_hpZ ?_ | refine mo_bd ?_ (fun _ => ?_) | refine mo_hCi (fun _ => ?_) (fun _ => ?_) | refine mo_hNw (fun _ => ?_) | refine mo_hNa (fun _ => ?_) | refine mo_hCp ?_ | refine mo_hOi ?_ | refine mo_hAl (fun _ => ?_) | refine mo_hWl ?_ | refine mo_gd ?_ | refine mo_sLn (fun _ => ?_) | refine mo_sAt (fun _ => ?_) | refine mo_kLn (fun _ => ?_) | refine mo_kAt (fun _ => ?_))
set_option maxRecDepth 10000 in
theorem sc_X11_feed_J20 {g : Gm Hp (Nat ⊕ Int32)} (B : Bz g cX11_feed 13 RX11 voI (some .int) 14 445 "feed") {l0 : Nat} : Sm g 13 20 [] [] (C_X11_feed_J20 l0) := by
  unfold C_X11_feed_J20
  exact x_throw B 1 rfl exk_1 exi_1 exg_1 exb_1 exo_1 (by decide) (Nat.le_of_ble_eq_true rfl) dX11_feed_20 dX11_feed_23 dX11_feed_24 dX11_feed_27
def C_X11_feed (l0 : Nat) (l1 : Int32) (l2 : Int64) (l4 : Int64) (l6 : Int32) : Hp → Option ((Nat ⊕ Int32) × Hp) :=
  hCx 13 (some l0) (fun a => C_X11_connectionOf a l1) fun r9 =>
  if l6 < (1 : Int32) then (
    hTh 1
  ) else (
    if l6 ≤ (16 : Int32) then (
      hgI 2 1 r9 fun v10 =>
      if v10 = 0 then (
        hTh 2
      ) else (
        hgI 13 10 (some l0) fun v11 =>
        C_X11_feed_L53 l0 (fun l8 => C_X11_feed_J179 l0 l8) fu l2 l4 l6 r9 v11 (0 : Int32)
      )
    ) else (
      hTh 1
    )
  )
set_option maxRecDepth 10000 in
theorem mo_C_X11_feed (l0 : Nat) (l1 : Int32) (l2 : Int64) (l4 : Int64) (l6 : Int32) : Mo (C_X11_feed l0 l1 l2 l4 l6) := by
  unfold C_X11_feed
  repeat' (with_reducible first | assumption | exact mo_rt _ | exact mo_zt _ | exact mo_no | apply mo_C_X11_connectionOf | apply mo_C_X11_feed_L53 | apply mo_C_X11_feed_J179 | exact mo_hTh _ | exact mo_zx _ | refine mo_hCx (fun _ => ?_) (fun _ => ?_) | refine mo_ite ?_ ?_ | refine mo_hgI (fun _ => ?_) | refine mo_hgR (fun _ => ?_) | refine mo_hCv (fun _ => ?_) (fun _ => ?_) | refine mo_lq (fun _ => ?_) | refine mo_hpI ?_ | refine mo_hpR ?_ | refine mo_hAi (fun _ => ?_) | refine mo_hAr (fun _ => ?_) | refine mo_hWi ?_ | refine mo_hWr ?_ | refine mo_hLn (fun _ => ?_) | refine mo_hgL (fun _ => ?_) | refine mo_hpL ?_ | refine mo_hpZ ?_ | refine mo_bd ?_ (fun _ => ?_) | refine mo_hCi (fun _ => ?_) (fun _ => ?_) | refine mo_hNw (fun _ => ?_) | refine mo_hNa (fun _ => ?_) | refine mo_hCp ?_ | refine mo_hOi ?_ | refine mo_hAl (fun _ => ?_) | refine mo_hWl ?_ | refine mo_gd ?_ | refine mo_sLn (fun _ => ?_) | refine mo_sAt (fun _ => ?_) | refine mo_kLn (fun _ => ?_) | refine mo_kAt (fun _ => ?_))
set_option maxRecDepth 10000 in
theorem mX_X11_feed {w : Wd} (hw : Wc w) (hz : Wz w) (l0 : Nat) (l1 : Int32) (l2 : Int64) (l4 : Int64) (l6 : Int32) : MX w yX11_feed cX11_feed 13 (some .int) 14 445 voI [va_rf (some l0), .int l1, .long l2, .long l4, .int l6] (C_X11_feed l0 l1 l2 l4 l6) := by
  have M0 : ∀ g : Gm Hp (Nat ⊕ Int32), g.1 = w → Bz g cX11_feed 13 RX11 voI (some .int) 14 445 "feed" → Sm g 13 0 (lv_args 0 [va_rf (some l0), .int l1, .long l2, .long l4, .int l6]) [] (C_X11_feed l0 l1 l2 l4 l6) := by
    intro g hg B
    subst hg
    unfold C_X11_feed
    refine W_lva (lv := [(0, va_rf (some l0)), (1, .int l1), (2, .long l2), (4, .long l4), (6, .int l6)]) (by simp [lv_args, va_rf_cat, cat_i, cat_l, cat_r]) ?_
    refine s_rload_n B.1.1 0 dX11_feed_0 rfl rfl ?_
    refine s_iload_n B.1.1 1 dX11_feed_1 rfl rfl ?_
    refine x_cvr (As := [.int l1]) (st := []) 13 rfl (by decide) B (fun a => mX_X11_connectionOf B.2.1 B.2.2.2.2.2.1 a l1) cc_X11_connectionOf cl_X11_70 cn_X11_connectionOf ce_X11_connectionOf ci_X11 cd_X11_connectionOf (by decide) rfl (Nat.le_of_ble_eq_true rfl) dX11_feed_2 (fun r9 => ?_)
    refine s_rstore (i := 7) (lv' := [(7, va_rf r9), (0, va_rf (some l0)), (1, .int l1), (2, .long l2), (4, .long l4), (6, .int l6)]) B.1.1 dX11_feed_5 (by decide) rfl ?_
    refine s_iload B.1.1 5 dX11_feed_7 rfl ?_
    refine s_iconst (v := 1) B.1.1 dX11_feed_9 (by decide) ?_
    refine s_icmp_lt B.1.1 20 dX11_feed_10 (by decide) ?_ ?_
    · exact x_throw B 1 rfl exk_1 exi_1 exg_1 exb_1 exo_1 (by decide) (Nat.le_of_ble_eq_true rfl) dX11_feed_20 dX11_feed_23 dX11_feed_24 dX11_feed_27
    · refine s_iload B.1.1 5 dX11_feed_13 rfl ?_
      refine s_bipush (v := (16)) B.1.1 dX11_feed_15 (by decide) ?_
      refine s_icmp_le B.1.1 28 dX11_feed_17 (by decide) ?_ ?_
      · refine s_rload B.1.1 0 dX11_feed_28 rfl ?_
        refine hp_getI B.1 2 1 rfl (by decide) inX0 (by decide) fk_X0_1.1 fk_X0_1.2 cf_X11_74 dX11_feed_30 (fun v10 => ?_)
        refine s_if_ne B.1.1 44 dX11_feed_33 (by decide) ?_ ?_
        · refine s_rload_n B.1.1 1 dX11_feed_44 rfl rfl ?_
          refine hp_getI B.1 13 10 rfl (by decide) inX11 (by decide) fk_X11_10.1 fk_X11_10.2 cf_X11_87 dX11_feed_45 (fun v11 => ?_)
          refine s_istore (i := 8) (lv' := [(8, .int v11), (7, va_rf r9), (0, va_rf (some l0)), (1, .int l1), (2, .long l2), (4, .long l4), (6, .int l6)]) B.1.1 dX11_feed_48 (by decide) (by simp [va_rf_cat, cat_i, cat_l, cat_r]) ?_
          refine s_iconst (v := 0) B.1.1 dX11_feed_50 (by decide) ?_
          refine s_istore (i := 9) (lv' := [(9, .int (0 : Int32)), (8, .int v11), (7, va_rf r9), (0, va_rf (some l0)), (1, .int l1), (2, .long l2), (4, .long l4), (6, .int l6)]) B.1.1 dX11_feed_51 (by decide) rfl ?_
          exact Sm.lvs [3, 5, 6, 7, 2, 1, 0] rfl (sc_X11_feed_L53 B (fun l8 => sc_X11_feed_J179 B l8) fu l2 l4 l6 r9 v11 (0 : Int32))
        · exact x_throw B 2 rfl exk_2 exi_2 exg_2 exb_2 exo_2 (by decide) (Nat.le_of_ble_eq_true rfl) dX11_feed_36 dX11_feed_39 dX11_feed_40 dX11_feed_43
      · exact x_throw B 1 rfl exk_1 exi_1 exg_1 exb_1 exo_1 (by decide) (Nat.le_of_ble_eq_true rfl) dX11_feed_20 dX11_feed_23 dX11_feed_24 dX11_feed_27
  exact MX.of hw hz ⟨rfl, rfl⟩ (by decide) (by simp [lg_sl, va_rf_cat, cat_i, cat_l, cat_r]) (mo_C_X11_feed l0 l1 l2 l4 l6) M0
def C_X11_lose (l0 : Nat) (l1 : Int32) : Hp → Option ((Nat ⊕ Unit) × Hp) :=
  hCx 13 (some l0) (fun a => C_X11_connectionOf a l1) fun r1 =>
  hgI 2 1 r1 fun v2 =>
  if v2 = 0 then (
    hTh 2
  ) else (
    hCv 13 (some l0) (fun a => C_X11_lost a r1) fun r3 =>
    hCv 13 (some l0) (fun a => C_X11_settle a) fun r4 =>
    rt (.inr ())
  )
set_option maxRecDepth 10000 in
theorem mo_C_X11_lose (l0 : Nat) (l1 : Int32) : Mo (C_X11_lose l0 l1) := by
  unfold C_X11_lose
  repeat' (with_reducible first | assumption | exact mo_rt _ | exact mo_zt _ | exact mo_no | apply mo_C_X11_connectionOf | apply mo_C_X11_lost | apply mo_C_X11_settle | exact mo_hTh _ | exact mo_zx _ | refine mo_hCx (fun _ => ?_) (fun _ => ?_) | refine mo_ite ?_ ?_ | refine mo_hgI (fun _ => ?_) | refine mo_hgR (fun _ => ?_) | refine mo_hCv (fun _ => ?_) (fun _ => ?_) | refine mo_lq (fun _ => ?_) | refine mo_hpI ?_ | refine mo_hpR ?_ | refine mo_hAi (fun _ => ?_) | refine mo_hAr (fun _ => ?_) | refine mo_hWi ?_ | refine mo_hWr ?_ | refine mo_hLn (fun _ => ?_) | refine mo_hgL (fun _ => ?_) | refine mo_hpL ?_ | refine mo_hpZ ?_ | refine mo_bd ?_ (fun _ => ?_) | refine mo_hCi (fun _ => ?_) (fun _ => ?_) | refine mo_hNw (fun _ => ?_) | refine mo_hNa (fun _ => ?_) | refine mo_hCp ?_ | refine mo_hOi ?_ | refine mo_hAl (fun _ => ?_) | refine mo_hWl ?_ | refine mo_gd ?_ | refine mo_sLn (fun _ => ?_) | refine mo_sAt (fun _ => ?_) | refine mo_kLn (fun _ => ?_) | refine mo_kAt (fun _ => ?_))
set_option maxRecDepth 10000 in
theorem mX_X11_lose {w : Wd} (hw : Wc w) (hz : Wz w) (l0 : Nat) (l1 : Int32) : MX w yX11_lose cX11_lose 3 none 7 184 voV [va_rf (some l0), .int l1] (C_X11_lose l0 l1) := by
  have M0 : ∀ g : Gm Hp (Nat ⊕ Unit), g.1 = w → Bz g cX11_lose 3 RX11 voV none 7 184 "lose" → Sm g 3 0 (lv_args 0 [va_rf (some l0), .int l1]) [] (C_X11_lose l0 l1) := by
    intro g hg B
    subst hg
    unfold C_X11_lose
    refine W_lva (lv := [(0, va_rf (some l0)), (1, .int l1)]) (by simp [lv_args, va_rf_cat, cat_i, cat_l, cat_r]) ?_
    refine s_rload_n B.1.1 0 dX11_lose_0 rfl rfl ?_
    refine s_iload_n B.1.1 1 dX11_lose_1 rfl rfl ?_
    refine x_cvr (As := [.int l1]) (st := []) 13 rfl (by decide) B (fun a => mX_X11_connectionOf B.2.1 B.2.2.2.2.2.1 a l1) cc_X11_connectionOf cl_X11_70 cn_X11_connectionOf ce_X11_connectionOf ci_X11 cd_X11_connectionOf (by decide) rfl (Nat.le_of_ble_eq_true rfl) dX11_lose_2 (fun r1 => ?_)
    refine s_rstore_n (i := 2) (lv' := [(2, va_rf r1), (0, va_rf (some l0)), (1, .int l1)]) B.1.1 dX11_lose_5 rfl (by decide) rfl ?_
    refine s_rload_n B.1.1 0 dX11_lose_6 rfl rfl ?_
    refine hp_getI B.1 2 1 rfl (by decide) inX0 (by decide) fk_X0_1.1 fk_X0_1.2 cf_X11_74 dX11_lose_7 (fun v2 => ?_)
    refine s_if_ne B.1.1 21 dX11_lose_10 (by decide) ?_ ?_
    · refine s_rload_n B.1.1 1 dX11_lose_21 rfl rfl ?_
      refine s_rload_n B.1.1 0 dX11_lose_22 rfl rfl ?_
      refine hp_cvv (As := [va_rf r1]) (st := []) 13 rfl (by decide) B.1 (fun a => mC_X11_lost B.2.1 a r1) cc_X11_lost cl_X11_103 cn_X11_lost ce_X11_lost ci_X11 cd_X11_lost (by decide) rfl (Nat.le_of_ble_eq_true rfl) dX11_lose_23 (fun r3 => ?_)
      refine s_rload_n B.1.1 1 dX11_lose_26 rfl rfl ?_
      refine hp_cvv (As := []) (st := []) 13 rfl (by decide) B.1 (fun a => mC_X11_settle B.2.1 a ) cc_X11_settle cl_X11_110 cn_X11_settle ce_X11_settle ci_X11 cd_X11_settle (by decide) rfl (Nat.le_of_ble_eq_true rfl) dX11_lose_27 (fun r4 => ?_)
      exact x_vret B dX11_lose_30
    · exact x_throw B 2 rfl exk_2 exi_2 exg_2 exb_2 exo_2 (by decide) (Nat.le_of_ble_eq_true rfl) dX11_lose_13 dX11_lose_16 dX11_lose_17 dX11_lose_20
  exact MX.of hw hz ⟨rfl, rfl⟩ (by decide) (by simp [lg_sl, va_rf_cat, cat_i, cat_l, cat_r]) (mo_C_X11_lose l0 l1) M0
def C_X11_isOpen (l0 : Nat) (l1 : Int32) : Hp → Option ((Nat ⊕ Int32) × Hp) :=
  hCx 13 (some l0) (fun a => C_X11_connectionOf a l1) fun r1 =>
  hgI 2 1 r1 fun v2 =>
  zx (v2)
set_option maxRecDepth 10000 in
theorem mo_C_X11_isOpen (l0 : Nat) (l1 : Int32) : Mo (C_X11_isOpen l0 l1) := by
  unfold C_X11_isOpen
  repeat' (with_reducible first | assumption | exact mo_rt _ | exact mo_zt _ | exact mo_no | apply mo_C_X11_connectionOf | exact mo_hTh _ | exact mo_zx _ | refine mo_hCx (fun _ => ?_) (fun _ => ?_) | refine mo_ite ?_ ?_ | refine mo_hgI (fun _ => ?_) | refine mo_hgR (fun _ => ?_) | refine mo_hCv (fun _ => ?_) (fun _ => ?_) | refine mo_lq (fun _ => ?_) | refine mo_hpI ?_ | refine mo_hpR ?_ | refine mo_hAi (fun _ => ?_) | refine mo_hAr (fun _ => ?_) | refine mo_hWi ?_ | refine mo_hWr ?_ | refine mo_hLn (fun _ => ?_) | refine mo_hgL (fun _ => ?_) | refine mo_hpL ?_ | refine mo_hpZ ?_ | refine mo_bd ?_ (fun _ => ?_) | refine mo_hCi (fun _ => ?_) (fun _ => ?_) | refine mo_hNw (fun _ => ?_) | refine mo_hNa (fun _ => ?_) | refine mo_hCp ?_ | refine mo_hOi ?_ | refine mo_hAl (fun _ => ?_) | refine mo_hWl ?_ | refine mo_gd ?_ | refine mo_sLn (fun _ => ?_) | refine mo_sAt (fun _ => ?_) | refine mo_kLn (fun _ => ?_) | refine mo_kAt (fun _ => ?_))
set_option maxRecDepth 10000 in
theorem mX_X11_isOpen {w : Wd} (hw : Wc w) (hz : Wz w) (l0 : Nat) (l1 : Int32) : MX w yX11_isOpen cX11_isOpen 2 (some .boolean) 7 111 voI [va_rf (some l0), .int l1] (C_X11_isOpen l0 l1) := by
  have M0 : ∀ g : Gm Hp (Nat ⊕ Int32), g.1 = w → Bz g cX11_isOpen 2 RX11 voI (some .boolean) 7 111 "isOpen" → Sm g 2 0 (lv_args 0 [va_rf (some l0), .int l1]) [] (C_X11_isOpen l0 l1) := by
    intro g hg B
    subst hg
    unfold C_X11_isOpen
    refine W_lva (lv := [(0, va_rf (some l0)), (1, .int l1)]) (by simp [lv_args, va_rf_cat, cat_i, cat_l, cat_r]) ?_
    refine s_rload_n B.1.1 0 dX11_isOpen_0 rfl rfl ?_
    refine s_iload_n B.1.1 1 dX11_isOpen_1 rfl rfl ?_
    refine x_cvr (As := [.int l1]) (st := []) 13 rfl (by decide) B (fun a => mX_X11_connectionOf B.2.1 B.2.2.2.2.2.1 a l1) cc_X11_connectionOf cl_X11_70 cn_X11_connectionOf ce_X11_connectionOf ci_X11 cd_X11_connectionOf (by decide) rfl (Nat.le_of_ble_eq_true rfl) dX11_isOpen_2 (fun r1 => ?_)
    refine hp_getI B.1 2 1 rfl (by decide) inX0 (by decide) fk_X0_1.1 fk_X0_1.2 cf_X11_74 dX11_isOpen_5 (fun v2 => ?_)
    exact x_zret B dX11_isOpen_8
  exact MX.of hw hz ⟨rfl, rfl⟩ (by decide) (by simp [lg_sl, va_rf_cat, cat_i, cat_l, cat_r]) (mo_C_X11_isOpen l0 l1) M0
def C_X11_size (l0 : Nat) (l1 : Int32) : Hp → Option ((Nat ⊕ Int32) × Hp) :=
  hCx 13 (some l0) (fun a => C_X11_connectionOf a l1) fun r1 =>
  hgI 2 4 r1 fun v2 =>
  rt (.inr (v2))
set_option maxRecDepth 10000 in
theorem mo_C_X11_size (l0 : Nat) (l1 : Int32) : Mo (C_X11_size l0 l1) := by
  unfold C_X11_size
  repeat' (with_reducible first | assumption | exact mo_rt _ | exact mo_zt _ | exact mo_no | apply mo_C_X11_connectionOf | exact mo_hTh _ | exact mo_zx _ | refine mo_hCx (fun _ => ?_) (fun _ => ?_) | refine mo_ite ?_ ?_ | refine mo_hgI (fun _ => ?_) | refine mo_hgR (fun _ => ?_) | refine mo_hCv (fun _ => ?_) (fun _ => ?_) | refine mo_lq (fun _ => ?_) | refine mo_hpI ?_ | refine mo_hpR ?_ | refine mo_hAi (fun _ => ?_) | refine mo_hAr (fun _ => ?_) | refine mo_hWi ?_ | refine mo_hWr ?_ | refine mo_hLn (fun _ => ?_) | refine mo_hgL (fun _ => ?_) | refine mo_hpL ?_ | refine mo_hpZ ?_ | refine mo_bd ?_ (fun _ => ?_) | refine mo_hCi (fun _ => ?_) (fun _ => ?_) | refine mo_hNw (fun _ => ?_) | refine mo_hNa (fun _ => ?_) | refine mo_hCp ?_ | refine mo_hOi ?_ | refine mo_hAl (fun _ => ?_) | refine mo_hWl ?_ | refine mo_gd ?_ | refine mo_sLn (fun _ => ?_) | refine mo_sAt (fun _ => ?_) | refine mo_kLn (fun _ => ?_) | refine mo_kAt (fun _ => ?_))
set_option maxRecDepth 10000 in
theorem mX_X11_size {w : Wd} (hw : Wc w) (hz : Wz w) (l0 : Nat) (l1 : Int32) : MX w yX11_size cX11_size 2 (some .int) 7 111 voI [va_rf (some l0), .int l1] (C_X11_size l0 l1) := by
  have M0 : ∀ g : Gm Hp (Nat ⊕ Int32), g.1 = w → Bz g cX11_size 2 RX11 voI (some .int) 7 111 "size" → Sm g 2 0 (lv_args 0 [va_rf (some l0), .int l1]) [] (C_X11_size l0 l1) := by
    intro g hg B
    subst hg
    unfold C_X11_size
    refine W_lva (lv := [(0, va_rf (some l0)), (1, .int l1)]) (by simp [lv_args, va_rf_cat, cat_i, cat_l, cat_r]) ?_
    refine s_rload_n B.1.1 0 dX11_size_0 rfl rfl ?_
    refine s_iload_n B.1.1 1 dX11_size_1 rfl rfl ?_
    refine x_cvr (As := [.int l1]) (st := []) 13 rfl (by decide) B (fun a => mX_X11_connectionOf B.2.1 B.2.2.2.2.2.1 a l1) cc_X11_connectionOf cl_X11_70 cn_X11_connectionOf ce_X11_connectionOf ci_X11 cd_X11_connectionOf (by decide) rfl (Nat.le_of_ble_eq_true rfl) dX11_size_2 (fun r1 => ?_)
    refine hp_getI B.1 2 4 rfl (by decide) inX0 (by decide) fk_X0_4.1 fk_X0_4.2 cf_X11_113 dX11_size_5 (fun v2 => ?_)
    exact x_iret B dX11_size_8
  exact MX.of hw hz ⟨rfl, rfl⟩ (by decide) (by simp [lg_sl, va_rf_cat, cat_i, cat_l, cat_r]) (mo_C_X11_size l0 l1) M0
def C_X11_out (l0 : Nat) (l1 : Int32) (l2 : Int32) : Hp → Option ((Nat ⊕ Int32) × Hp) :=
  hCx 13 (some l0) (fun a => C_X11_connectionOf a l1) fun r1 =>
  if l2 < 0 then (
    rt (.inr ((-1 : Int32)))
  ) else (
    hgI 2 4 r1 fun v2 =>
    if v2 ≤ l2 then (
      rt (.inr ((-1 : Int32)))
    ) else (
      hgR 2 3 r1 fun v3 =>
      hAi v3 l2 fun v4 =>
      rt (.inr (v4))
    )
  )
set_option maxRecDepth 10000 in
theorem mo_C_X11_out (l0 : Nat) (l1 : Int32) (l2 : Int32) : Mo (C_X11_out l0 l1 l2) := by
  unfold C_X11_out
  repeat' (with_reducible first | assumption | exact mo_rt _ | exact mo_zt _ | exact mo_no | apply mo_C_X11_connectionOf | exact mo_hTh _ | exact mo_zx _ | refine mo_hCx (fun _ => ?_) (fun _ => ?_) | refine mo_ite ?_ ?_ | refine mo_hgI (fun _ => ?_) | refine mo_hgR (fun _ => ?_) | refine mo_hCv (fun _ => ?_) (fun _ => ?_) | refine mo_lq (fun _ => ?_) | refine mo_hpI ?_ | refine mo_hpR ?_ | refine mo_hAi (fun _ => ?_) | refine mo_hAr (fun _ => ?_) | refine mo_hWi ?_ | refine mo_hWr ?_ | refine mo_hLn (fun _ => ?_) | refine mo_hgL (fun _ => ?_) | refine mo_hpL ?_ | refine mo_hpZ ?_ | refine mo_bd ?_ (fun _ => ?_) | refine mo_hCi (fun _ => ?_) (fun _ => ?_) | refine mo_hNw (fun _ => ?_) | refine mo_hNa (fun _ => ?_) | refine mo_hCp ?_ | refine mo_hOi ?_ | refine mo_hAl (fun _ => ?_) | refine mo_hWl ?_ | refine mo_gd ?_ | refine mo_sLn (fun _ => ?_) | refine mo_sAt (fun _ => ?_) | refine mo_kLn (fun _ => ?_) | refine mo_kAt (fun _ => ?_))
set_option maxRecDepth 10000 in
theorem mX_X11_out {w : Wd} (hw : Wc w) (hz : Wz w) (l0 : Nat) (l1 : Int32) (l2 : Int32) : MX w yX11_out cX11_out 4 (some .int) 7 111 voI [va_rf (some l0), .int l1, .int l2] (C_X11_out l0 l1 l2) := by
  have M0 : ∀ g : Gm Hp (Nat ⊕ Int32), g.1 = w → Bz g cX11_out 4 RX11 voI (some .int) 7 111 "out" → Sm g 4 0 (lv_args 0 [va_rf (some l0), .int l1, .int l2]) [] (C_X11_out l0 l1 l2) := by
    intro g hg B
    subst hg
    unfold C_X11_out
    refine W_lva (lv := [(0, va_rf (some l0)), (1, .int l1), (2, .int l2)]) (by simp [lv_args, va_rf_cat, cat_i, cat_l, cat_r]) ?_
    refine s_rload_n B.1.1 0 dX11_out_0 rfl rfl ?_
    refine s_iload_n B.1.1 1 dX11_out_1 rfl rfl ?_
    refine x_cvr (As := [.int l1]) (st := []) 13 rfl (by decide) B (fun a => mX_X11_connectionOf B.2.1 B.2.2.2.2.2.1 a l1) cc_X11_connectionOf cl_X11_70 cn_X11_connectionOf ce_X11_connectionOf ci_X11 cd_X11_connectionOf (by decide) rfl (Nat.le_of_ble_eq_true rfl) dX11_out_2 (fun r1 => ?_)
    refine s_rstore_n (i := 3) (lv' := [(3, va_rf r1), (0, va_rf (some l0)), (1, .int l1), (2, .int l2)]) B.1.1 dX11_out_5 rfl (by decide) rfl ?_
    refine s_iload_n B.1.1 3 dX11_out_6 rfl rfl ?_
    refine s_if_lt B.1.1 27 dX11_out_7 (by decide) ?_ ?_
    · refine s_iconst (v := (-1)) B.1.1 dX11_out_27 (by decide) ?_
      exact x_iret B dX11_out_28
    · refine s_iload_n B.1.1 3 dX11_out_10 rfl rfl ?_
      refine s_rload_n B.1.1 0 dX11_out_11 rfl rfl ?_
      refine hp_getI B.1 2 4 rfl (by decide) inX0 (by decide) fk_X0_4.1 fk_X0_4.2 cf_X11_113 dX11_out_12 (fun v2 => ?_)
      refine s_icmp_ge B.1.1 27 dX11_out_15 (by decide) ?_ ?_
      · refine s_iconst (v := (-1)) B.1.1 dX11_out_27 (by decide) ?_
        exact x_iret B dX11_out_28
      · refine s_rload_n B.1.1 0 dX11_out_18 rfl rfl ?_
        refine hp_getR B.1 2 3 rfl (by decide) inX0 (by decide) fk_X0_3 cf_X11_116 dX11_out_19 (fun v3 => ?_)
        refine s_iload_n B.1.1 3 dX11_out_22 rfl rfl ?_
        refine hp_Ai B.1 dX11_out_23 (fun v4 => ?_)
        refine s_goto B.1.1 28 dX11_out_24 (by decide) ?_
        exact x_iret B dX11_out_28
  exact MX.of hw hz ⟨rfl, rfl⟩ (by decide) (by simp [lg_sl, va_rf_cat, cat_i, cat_l, cat_r]) (mo_C_X11_out l0 l1 l2) M0
def C_X11_take (l0 : Nat) (l1 : Int32) (l2 : Int32) : Hp → Option ((Nat ⊕ Int32) × Hp) :=
  hCx 13 (some l0) (fun a => C_X11_connectionOf a l1) fun r1 =>
  if 0 ≤ l2 then (
    hgI 2 4 r1 fun v2 =>
    hCv 2 r1 (fun a => C_X0_drop a (imin l2 v2)) fun r3 =>
    hgI 2 4 r1 fun v4 =>
    rt (.inr (v4))
  ) else (
    hTh 1
  )
set_option maxRecDepth 10000 in
theorem mo_C_X11_take (l0 : Nat) (l1 : Int32) (l2 : Int32) : Mo (C_X11_take l0 l1 l2) := by
  unfold C_X11_take
  repeat' (with_reducible first | assumption | exact mo_rt _ | exact mo_zt _ | exact mo_no | apply mo_C_X11_connectionOf | apply mo_C_X0_drop | exact mo_hTh _ | exact mo_zx _ | refine mo_hCx (fun _ => ?_) (fun _ => ?_) | refine mo_ite ?_ ?_ | refine mo_hgI (fun _ => ?_) | refine mo_hgR (fun _ => ?_) | refine mo_hCv (fun _ => ?_) (fun _ => ?_) | refine mo_lq (fun _ => ?_) | refine mo_hpI ?_ | refine mo_hpR ?_ | refine mo_hAi (fun _ => ?_) | refine mo_hAr (fun _ => ?_) | refine mo_hWi ?_ | refine mo_hWr ?_ | refine mo_hLn (fun _ => ?_) | refine mo_hgL (fun _ => ?_) | refine mo_hpL ?_ | refine mo_hpZ ?_ | refine mo_bd ?_ (fun _ => ?_) | refine mo_hCi (fun _ => ?_) (fun _ => ?_) | refine mo_hNw (fun _ => ?_) | refine mo_hNa (fun _ => ?_) | refine mo_hCp ?_ | refine mo_hOi ?_ | refine mo_hAl (fun _ => ?_) | refine mo_hWl ?_ | refine mo_gd ?_ | refine mo_sLn (fun _ => ?_) | refine mo_sAt (fun _ => ?_) | refine mo_kLn (fun _ => ?_) | refine mo_kAt (fun _ => ?_))
set_option maxRecDepth 10000 in
theorem mX_X11_take {w : Wd} (hw : Wc w) (hz : Wz w) (l0 : Nat) (l1 : Int32) (l2 : Int32) : MX w yX11_take cX11_take 4 (some .int) 7 111 voI [va_rf (some l0), .int l1, .int l2] (C_X11_take l0 l1 l2) := by
  have M0 : ∀ g : Gm Hp (Nat ⊕ Int32), g.1 = w → Bz g cX11_take 4 RX11 voI (some .int) 7 111 "take" → Sm g 4 0 (lv_args 0 [va_rf (some l0), .int l1, .int l2]) [] (C_X11_take l0 l1 l2) := by
    intro g hg B
    subst hg
    unfold C_X11_take
    refine W_lva (lv := [(0, va_rf (some l0)), (1, .int l1), (2, .int l2)]) (by simp [lv_args, va_rf_cat, cat_i, cat_l, cat_r]) ?_
    refine s_rload_n B.1.1 0 dX11_take_0 rfl rfl ?_
    refine s_iload_n B.1.1 1 dX11_take_1 rfl rfl ?_
    refine x_cvr (As := [.int l1]) (st := []) 13 rfl (by decide) B (fun a => mX_X11_connectionOf B.2.1 B.2.2.2.2.2.1 a l1) cc_X11_connectionOf cl_X11_70 cn_X11_connectionOf ce_X11_connectionOf ci_X11 cd_X11_connectionOf (by decide) rfl (Nat.le_of_ble_eq_true rfl) dX11_take_2 (fun r1 => ?_)
    refine s_rstore_n (i := 3) (lv' := [(3, va_rf r1), (0, va_rf (some l0)), (1, .int l1), (2, .int l2)]) B.1.1 dX11_take_5 rfl (by decide) rfl ?_
    refine s_iload_n B.1.1 3 dX11_take_6 rfl rfl ?_
    refine s_if_ge B.1.1 18 dX11_take_7 (by decide) ?_ ?_
    · refine s_rload_n B.1.1 0 dX11_take_18 rfl rfl ?_
      refine s_iload_n B.1.1 3 dX11_take_19 rfl rfl ?_
      refine s_rload_n B.1.1 0 dX11_take_20 rfl rfl ?_
      refine hp_getI B.1 2 4 rfl (by decide) inX0 (by decide) fk_X0_4.1 fk_X0_4.2 cf_X11_113 dX11_take_21 (fun v2 => ?_)
      refine s_mmin B.1.1 B.1.2.1 tw_1076 (by decide) (by simp [va_rf_cat, cat_i, cat_l, cat_r]) dX11_take_24 ?_
      refine hp_cvv (As := [.int (imin l2 v2)]) (st := []) 2 rfl (by decide) B.1 (fun a => mC_X0_drop B.2.1 a (imin l2 v2)) cc_X0_drop cl_X11_125 cn_X0_drop ce_X0_drop ci_X0 cd_X0_drop (by decide) rfl (Nat.le_of_ble_eq_true rfl) dX11_take_27 (fun r3 => ?_)
      refine s_rload_n B.1.1 0 dX11_take_30 rfl rfl ?_
      refine hp_getI B.1 2 4 rfl (by decide) inX0 (by decide) fk_X0_4.1 fk_X0_4.2 cf_X11_113 dX11_take_31 (fun v4 => ?_)
      exact x_iret B dX11_take_34
    · exact x_throw B 1 rfl exk_1 exi_1 exg_1 exb_1 exo_1 (by decide) (Nat.le_of_ble_eq_true rfl) dX11_take_10 dX11_take_13 dX11_take_14 dX11_take_17
  exact MX.of hw hz ⟨rfl, rfl⟩ (by decide) (by simp [lg_sl, va_rf_cat, cat_i, cat_l, cat_r]) (mo_C_X11_take l0 l1 l2) M0
def C_X11_pending (l0 : Nat) (l1 : Int32) : Hp → Option ((Nat ⊕ Int32) × Hp) :=
  hCx 13 (some l0) (fun a => C_X11_connectionOf a l1) fun r1 =>
  hgI 2 8 r1 fun v2 =>
  rt (.inr (v2))
set_option maxRecDepth 10000 in
theorem mo_C_X11_pending (l0 : Nat) (l1 : Int32) : Mo (C_X11_pending l0 l1) := by
  unfold C_X11_pending
  repeat' (with_reducible first | assumption | exact mo_rt _ | exact mo_zt _ | exact mo_no | apply mo_C_X11_connectionOf | exact mo_hTh _ | exact mo_zx _ | refine mo_hCx (fun _ => ?_) (fun _ => ?_) | refine mo_ite ?_ ?_ | refine mo_hgI (fun _ => ?_) | refine mo_hgR (fun _ => ?_) | refine mo_hCv (fun _ => ?_) (fun _ => ?_) | refine mo_lq (fun _ => ?_) | refine mo_hpI ?_ | refine mo_hpR ?_ | refine mo_hAi (fun _ => ?_) | refine mo_hAr (fun _ => ?_) | refine mo_hWi ?_ | refine mo_hWr ?_ | refine mo_hLn (fun _ => ?_) | refine mo_hgL (fun _ => ?_) | refine mo_hpL ?_ | refine mo_hpZ ?_ | refine mo_bd ?_ (fun _ => ?_) | refine mo_hCi (fun _ => ?_) (fun _ => ?_) | refine mo_hNw (fun _ => ?_) | refine mo_hNa (fun _ => ?_) | refine mo_hCp ?_ | refine mo_hOi ?_ | refine mo_hAl (fun _ => ?_) | refine mo_hWl ?_ | refine mo_gd ?_ | refine mo_sLn (fun _ => ?_) | refine mo_sAt (fun _ => ?_) | refine mo_kLn (fun _ => ?_) | refine mo_kAt (fun _ => ?_))
set_option maxRecDepth 10000 in
theorem mX_X11_pending {w : Wd} (hw : Wc w) (hz : Wz w) (l0 : Nat) (l1 : Int32) : MX w yX11_pending cX11_pending 2 (some .int) 7 111 voI [va_rf (some l0), .int l1] (C_X11_pending l0 l1) := by
  have M0 : ∀ g : Gm Hp (Nat ⊕ Int32), g.1 = w → Bz g cX11_pending 2 RX11 voI (some .int) 7 111 "pending" → Sm g 2 0 (lv_args 0 [va_rf (some l0), .int l1]) [] (C_X11_pending l0 l1) := by
    intro g hg B
    subst hg
    unfold C_X11_pending
    refine W_lva (lv := [(0, va_rf (some l0)), (1, .int l1)]) (by simp [lv_args, va_rf_cat, cat_i, cat_l, cat_r]) ?_
    refine s_rload_n B.1.1 0 dX11_pending_0 rfl rfl ?_
    refine s_iload_n B.1.1 1 dX11_pending_1 rfl rfl ?_
    refine x_cvr (As := [.int l1]) (st := []) 13 rfl (by decide) B (fun a => mX_X11_connectionOf B.2.1 B.2.2.2.2.2.1 a l1) cc_X11_connectionOf cl_X11_70 cn_X11_connectionOf ce_X11_connectionOf ci_X11 cd_X11_connectionOf (by decide) rfl (Nat.le_of_ble_eq_true rfl) dX11_pending_2 (fun r1 => ?_)
    refine hp_getI B.1 2 8 rfl (by decide) inX0 (by decide) fk_X0_8.1 fk_X0_8.2 cf_X11_128 dX11_pending_5 (fun v2 => ?_)
    exact x_iret B dX11_pending_8
  exact MX.of hw hz ⟨rfl, rfl⟩ (by decide) (by simp [lg_sl, va_rf_cat, cat_i, cat_l, cat_r]) (mo_C_X11_pending l0 l1) M0
def C_X11_pass_J74 (l0 : Nat) : Hp → Option ((Nat ⊕ Int32) × Hp) :=
  hgI 13 13 (some l0) fun v1 =>
  rt (.inr (v1))
set_option maxRecDepth 10000 in
theorem mo_C_X11_pass_J74 (l0 : Nat) : Mo (C_X11_pass_J74 l0) := by
  unfold C_X11_pass_J74
  repeat' (with_reducible first | assumption | exact mo_rt _ | exact mo_zt _ | exact mo_no | exact mo_hTh _ | exact mo_zx _ | refine mo_hCx (fun _ => ?_) (fun _ => ?_) | refine mo_ite ?_ ?_ | refine mo_hgI (fun _ => ?_) | refine mo_hgR (fun _ => ?_) | refine mo_hCv (fun _ => ?_) (fun _ => ?_) | refine mo_lq (fun _ => ?_) | refine mo_hpI ?_ | refine mo_hpR ?_ | refine mo_hAi (fun _ => ?_) | refine mo_hAr (fun _ => ?_) | refine mo_hWi ?_ | refine mo_hWr ?_ | refine mo_hLn (fun _ => ?_) | refine mo_hgL (fun _ => ?_) | refine mo_hpL ?_ | refine mo_hpZ ?_ | refine mo_bd ?_ (fun _ => ?_) | refine mo_hCi (fun _ => ?_) (fun _ => ?_) | refine mo_hNw (fun _ => ?_) | refine mo_hNa (fun _ => ?_) | refine mo_hCp ?_ | refine mo_hOi ?_ | refine mo_hAl (fun _ => ?_) | refine mo_hWl ?_ | refine mo_gd ?_ | refine mo_sLn (fun _ => ?_) | refine mo_sAt (fun _ => ?_) | refine mo_kLn (fun _ => ?_) | refine mo_kAt (fun _ => ?_))
set_option maxRecDepth 10000 in
theorem sc_X11_pass_J74 {g : Gm Hp (Nat ⊕ Int32)} (B : Bz g cX11_pass 4 RX11 voI (some .int) 7 184 "pass") {l0 : Nat} : Sm g 4 74 [(0, va_rf (some l0))] [] (C_X11_pass_J74 l0) := by
  unfold C_X11_pass_J74
  refine s_rload_n B.1.1 0 dX11_pass_74 rfl rfl ?_
  refine hp_getI B.1 13 13 rfl (by decide) inX11 (by decide) fk_X11_13.1 fk_X11_13.2 cf_X11_134 dX11_pass_75 (fun v1 => ?_)
  exact x_iret B dX11_pass_78
def C_X11_pass_B33 (l0 : Nat) (kb : Int32 → Int32 → Int32 → Hp → Option ((Nat ⊕ Int32) × Hp)) (ke74 : Hp → Option ((Nat ⊕ Int32) × Hp)) (l1 : Int32) (l2 : Int32) (l3 : Int32) : Hp → Option ((Nat ⊕ Int32) × Hp) :=
  if l1 ≤ l3 then (
    ke74
  ) else (
    hgI 13 9 (some l0) fun v2 =>
    if l2 ≤ v2 then (
      ke74
    ) else (
      hCv 13 (some l0) (fun a => C_X11_nextEvent a) fun r3 =>
      hpI 13 9 (some l0) ((lmin l2.toInt64 r3).toInt32) <|
      hCv 13 (some l0) (fun a => C_X11_tick a) fun r4 =>
      hCv 13 (some l0) (fun a => C_X11_settle a) fun r5 =>
      kb l1 l2 (l3 + 1)
    )
  )
def C_X11_pass_L33 (l0 : Nat) (ke74 : Hp → Option ((Nat ⊕ Int32) × Hp)) : Nat → Int32 → Int32 → Int32 → Hp → Option ((Nat ⊕ Int32) × Hp)
  | 0, _, _, _ => no
  | n + 1, l1, l2, l3 => C_X11_pass_B33 l0 (fun l1 l2 l3 => C_X11_pass_L33 l0 ke74 n l1 l2 l3) ke74 l1 l2 l3
set_option maxRecDepth 10000 in
theorem mo_C_X11_pass_B33 (l0 : Nat) (kb : Int32 → Int32 → Int32 → Hp → Option ((Nat ⊕ Int32) × Hp)) (ke74 : Hp → Option ((Nat ⊕ Int32) × Hp)) (hkb : ∀ (l1 : Int32) (l2 : Int32) (l3 : Int32), Mo (kb l1 l2 l3)) (hke74 : Mo (ke74)) (l1 : Int32) (l2 : Int32) (l3 : Int32) : Mo (C_X11_pass_B33 l0 kb ke74 l1 l2 l3) := by
  unfold C_X11_pass_B33
  repeat' (with_reducible first | assumption | exact mo_rt _ | exact mo_zt _ | exact mo_no | apply mo_C_X11_nextEvent | apply mo_C_X11_tick | apply mo_C_X11_settle | apply hkb | apply hke74 | exact mo_hTh _ | exact mo_zx _ | refine mo_hCx (fun _ => ?_) (fun _ => ?_) | refine mo_ite ?_ ?_ | refine mo_hgI (fun _ => ?_) | refine mo_hgR (fun _ => ?_) | refine mo_hCv (fun _ => ?_) (fun _ => ?_) | refine mo_lq (fun _ => ?_) | refine mo_hpI ?_ | refine mo_hpR ?_ | refine mo_hAi (fun _ => ?_) | refine mo_hAr (fun _ => ?_) | refine mo_hWi ?_ | refine mo_hWr ?_ | refine mo_hLn (fun _ => ?_) | refine mo_hgL (fun _ => ?_) | refine mo_hpL ?_ | refine mo_hpZ ?_ | refine mo_bd ?_ (fun _ => ?_) | refine mo_hCi (fun _ => ?_) (fun _ => ?_) | refine mo_hNw (fun _ => ?_) | refine mo_hNa (fun _ => ?_) | refine mo_hCp ?_ | refine mo_hOi ?_ | refine mo_hAl (fun _ => ?_) | refine mo_hWl ?_ | refine mo_gd ?_ | refine mo_sLn (fun _ => ?_) | refine mo_sAt (fun _ => ?_) | refine mo_kLn (fun _ => ?_) | refine mo_kAt (fun _ => ?_))
set_option maxRecDepth 10000 in
theorem mo_C_X11_pass_L33 (l0 : Nat) (ke74 : Hp → Option ((Nat ⊕ Int32) × Hp)) (hke74 : Mo (ke74)) : ∀ (n : Nat) (l1 : Int32) (l2 : Int32) (l3 : Int32), Mo (C_X11_pass_L33 l0 ke74 n l1 l2 l3)
  | 0, _, _, _ => mo_no
  | n + 1, l1, l2, l3 => mo_C_X11_pass_B33 l0 _ ke74 (mo_C_X11_pass_L33 l0 ke74 hke74 n) hke74 l1 l2 l3
set_option maxRecDepth 10000 in
theorem sc_X11_pass_B33 {g : Gm Hp (Nat ⊕ Int32)} {kb : Int32 → Int32 → Int32 → Hp → Option ((Nat ⊕ Int32) × Hp)} {ke74 : Hp → Option ((Nat ⊕ Int32) × Hp)} (B : Bz g cX11_pass 4 RX11 voI (some .int) 7 184 "pass") {l0 : Nat} (hkb : ∀ (l1 : Int32) (l2 : Int32) (l3 : Int32), Sm g 4 33 [(0, va_rf (some l0)), (1, .int l1), (2, .int l2), (3, .int l3)] [] (kb l1 l2 l3)) (hke74 : Sm g 4 74 [(0, va_rf (some l0))] [] (ke74)) (l1 : Int32) (l2 : Int32) (l3 : Int32) : Sm g 4 33 [(0, va_rf (some l0)), (1, .int l1), (2, .int l2), (3, .int l3)] [] (C_X11_pass_B33 l0 kb ke74 l1 l2 l3) := by
  unfold C_X11_pass_B33
  refine s_iload_n B.1.1 3 dX11_pass_33 rfl rfl ?_
  refine s_iload_n B.1.1 1 dX11_pass_34 rfl rfl ?_
  refine s_icmp_ge B.1.1 74 dX11_pass_35 (by decide) ?_ ?_
  · exact Sm.lvs [0] rfl (hke74)
  · refine s_rload_n B.1.1 0 dX11_pass_38 rfl rfl ?_
    refine hp_getI B.1 13 9 rfl (by decide) inX11 (by decide) fk_X11_9.1 fk_X11_9.2 cf_X11_131 dX11_pass_39 (fun v2 => ?_)
    refine s_iload_n B.1.1 2 dX11_pass_42 rfl rfl ?_
    refine s_icmp_ge B.1.1 74 dX11_pass_43 (by decide) ?_ ?_
    · exact Sm.lvs [0] rfl (hke74)
    · refine s_rload_n B.1.1 0 dX11_pass_46 rfl rfl ?_
      refine s_iload_n B.1.1 2 dX11_pass_47 rfl rfl ?_
      refine s_i2l B.1.1 dX11_pass_48 ?_
      refine s_rload_n B.1.1 0 dX11_pass_49 rfl rfl ?_
      refine hp_cvl (As := []) (st := [.long l2.toInt64, va_rf (some l0)]) 13 rfl (by decide) B.1 (fun a => mC_X11_nextEvent B.2.1 a ) cc_X11_nextEvent cl_X11_137 cn_X11_nextEvent ce_X11_nextEvent ci_X11 cd_X11_nextEvent (by decide) rfl (Nat.le_of_ble_eq_true rfl) dX11_pass_50 (fun r3 => ?_)
      refine s_mminl B.1.1 B.1.2.1 tw_1472 (by decide) (Nat.le_of_ble_eq_true rfl) dX11_pass_53 ?_
      refine s_l2i B.1.1 dX11_pass_56 ?_
      refine hp_putI B.1 13 9 rfl (by decide) inX11 tyX11 tyX11_ok nmX11 (by decide) fk_X11_9.1 fk_X11_9.2 ft_X11_9 rfl cf_X11_131 dX11_pass_57 ?_
      refine s_rload_n B.1.1 0 dX11_pass_60 rfl rfl ?_
      refine hp_cvv (As := []) (st := []) 13 rfl (by decide) B.1 (fun a => mC_X11_tick B.2.1 a ) cc_X11_tick cl_X11_144 cn_X11_tick ce_X11_tick ci_X11 cd_X11_tick (by decide) rfl (Nat.le_of_ble_eq_true rfl) dX11_pass_61 (fun r4 => ?_)
      refine s_rload_n B.1.1 0 dX11_pass_64 rfl rfl ?_
      refine hp_cvv (As := []) (st := []) 13 rfl (by decide) B.1 (fun a => mC_X11_settle B.2.1 a ) cc_X11_settle cl_X11_110 cn_X11_settle ce_X11_settle ci_X11 cd_X11_settle (by decide) rfl (Nat.le_of_ble_eq_true rfl) dX11_pass_65 (fun r5 => ?_)
      refine s_iinc (v := l3 + 1) (lv' := [(3, .int (l3 + 1)), (0, va_rf (some l0)), (1, .int l1), (2, .int l2)]) B.1.1 3 dX11_pass_68 rfl rfl (by decide) rfl ?_
      refine s_goto B.1.1 33 dX11_pass_71 (by decide) ?_
      exact Sm.lvs [1, 2, 3, 0] rfl (hkb l1 l2 (l3 + 1))
set_option maxRecDepth 10000 in
theorem sc_X11_pass_L33 {g : Gm Hp (Nat ⊕ Int32)} {ke74 : Hp → Option ((Nat ⊕ Int32) × Hp)} (B : Bz g cX11_pass 4 RX11 voI (some .int) 7 184 "pass") {l0 : Nat} (hke74 : Sm g 4 74 [(0, va_rf (some l0))] [] (ke74)) : ∀ (n : Nat) (l1 : Int32) (l2 : Int32) (l3 : Int32), Sm g 4 33 [(0, va_rf (some l0)), (1, .int l1), (2, .int l2), (3, .int l3)] [] (C_X11_pass_L33 l0 ke74 n l1 l2 l3)
  | 0, _, _, _ => Sm.fail
  | n + 1, l1, l2, l3 => sc_X11_pass_B33 B (sc_X11_pass_L33 B hke74 n) hke74 l1 l2 l3
def C_X11_pass_J11 (l0 : Nat) : Hp → Option ((Nat ⊕ Int32) × Hp) :=
  hTh 1
set_option maxRecDepth 10000 in
theorem mo_C_X11_pass_J11 (l0 : Nat) : Mo (C_X11_pass_J11 l0) := by
  unfold C_X11_pass_J11
  repeat' (with_reducible first | assumption | exact mo_rt _ | exact mo_zt _ | exact mo_no | exact mo_hTh _ | exact mo_zx _ | refine mo_hCx (fun _ => ?_) (fun _ => ?_) | refine mo_ite ?_ ?_ | refine mo_hgI (fun _ => ?_) | refine mo_hgR (fun _ => ?_) | refine mo_hCv (fun _ => ?_) (fun _ => ?_) | refine mo_lq (fun _ => ?_) | refine mo_hpI ?_ | refine mo_hpR ?_ | refine mo_hAi (fun _ => ?_) | refine mo_hAr (fun _ => ?_) | refine mo_hWi ?_ | refine mo_hWr ?_ | refine mo_hLn (fun _ => ?_) | refine mo_hgL (fun _ => ?_) | refine mo_hpL ?_ | refine mo_hpZ ?_ | refine mo_bd ?_ (fun _ => ?_) | refine mo_hCi (fun _ => ?_) (fun _ => ?_) | refine mo_hNw (fun _ => ?_) | refine mo_hNa (fun _ => ?_) | refine mo_hCp ?_ | refine mo_hOi ?_ | refine mo_hAl (fun _ => ?_) | refine mo_hWl ?_ | refine mo_gd ?_ | refine mo_sLn (fun _ => ?_) | refine mo_sAt (fun _ => ?_) | refine mo_kLn (fun _ => ?_) | refine mo_kAt (fun _ => ?_))
set_option maxRecDepth 10000 in
theorem sc_X11_pass_J11 {g : Gm Hp (Nat ⊕ Int32)} (B : Bz g cX11_pass 4 RX11 voI (some .int) 7 184 "pass") {l0 : Nat} : Sm g 4 11 [] [] (C_X11_pass_J11 l0) := by
  unfold C_X11_pass_J11
  exact x_throw B 1 rfl exk_1 exi_1 exg_1 exb_1 exo_1 (by decide) (Nat.le_of_ble_eq_true rfl) dX11_pass_11 dX11_pass_14 dX11_pass_15 dX11_pass_18
def C_X11_pass (l0 : Nat) (l1 : Int32) : Hp → Option ((Nat ⊕ Int32) × Hp) :=
  if l1 < 0 then (
    hTh 1
  ) else (
    if l1 ≤ (4000 : Int32) then (
      hgI 13 9 (some l0) fun v6 =>
      lq (v6 + l1) fun x7 =>
      hpI 13 13 (some l0) (0 : Int32) <|
      C_X11_pass_L33 l0 (C_X11_pass_J74 l0) fu l1 x7 (0 : Int32)
    ) else (
      hTh 1
    )
  )
set_option maxRecDepth 10000 in
theorem mo_C_X11_pass (l0 : Nat) (l1 : Int32) : Mo (C_X11_pass l0 l1) := by
  unfold C_X11_pass
  repeat' (with_reducible first | assumption | exact mo_rt _ | exact mo_zt _ | exact mo_no | apply mo_C_X11_pass_L33 | apply mo_C_X11_pass_J74 | exact mo_hTh _ | exact mo_zx _ | refine mo_hCx (fun _ => ?_) (fun _ => ?_) | refine mo_ite ?_ ?_ | refine mo_hgI (fun _ => ?_) | refine mo_hgR (fun _ => ?_) | refine mo_hCv (fun _ => ?_) (fun _ => ?_) | refine mo_lq (fun _ => ?_) | refine mo_hpI ?_ | refine mo_hpR ?_ | refine mo_hAi (fun _ => ?_) | refine mo_hAr (fun _ => ?_) | refine mo_hWi ?_ | refine mo_hWr ?_ | refine mo_hLn (fun _ => ?_) | refine mo_hgL (fun _ => ?_) | refine mo_hpL ?_ | refine mo_hpZ ?_ | refine mo_bd ?_ (fun _ => ?_) | refine mo_hCi (fun _ => ?_) (fun _ => ?_) | refine mo_hNw (fun _ => ?_) | refine mo_hNa (fun _ => ?_) | refine mo_hCp ?_ | refine mo_hOi ?_ | refine mo_hAl (fun _ => ?_) | refine mo_hWl ?_ | refine mo_gd ?_ | refine mo_sLn (fun _ => ?_) | refine mo_sAt (fun _ => ?_) | refine mo_kLn (fun _ => ?_) | refine mo_kAt (fun _ => ?_))
set_option maxRecDepth 10000 in
theorem mX_X11_pass {w : Wd} (hw : Wc w) (hz : Wz w) (l0 : Nat) (l1 : Int32) : MX w yX11_pass cX11_pass 4 (some .int) 7 184 voI [va_rf (some l0), .int l1] (C_X11_pass l0 l1) := by
  have M0 : ∀ g : Gm Hp (Nat ⊕ Int32), g.1 = w → Bz g cX11_pass 4 RX11 voI (some .int) 7 184 "pass" → Sm g 4 0 (lv_args 0 [va_rf (some l0), .int l1]) [] (C_X11_pass l0 l1) := by
    intro g hg B
    subst hg
    unfold C_X11_pass
    refine W_lva (lv := [(0, va_rf (some l0)), (1, .int l1)]) (by simp [lv_args, va_rf_cat, cat_i, cat_l, cat_r]) ?_
    refine s_iload_n B.1.1 1 dX11_pass_0 rfl rfl ?_
    refine s_if_lt B.1.1 11 dX11_pass_1 (by decide) ?_ ?_
    · exact x_throw B 1 rfl exk_1 exi_1 exg_1 exb_1 exo_1 (by decide) (Nat.le_of_ble_eq_true rfl) dX11_pass_11 dX11_pass_14 dX11_pass_15 dX11_pass_18
    · refine s_iload_n B.1.1 1 dX11_pass_4 rfl rfl ?_
      refine s_sipush (v := (4000)) B.1.1 dX11_pass_5 (by decide) ?_
      refine s_icmp_le B.1.1 19 dX11_pass_8 (by decide) ?_ ?_
      · refine s_rload_n B.1.1 0 dX11_pass_19 rfl rfl ?_
        refine hp_getI B.1 13 9 rfl (by decide) inX11 (by decide) fk_X11_9.1 fk_X11_9.2 cf_X11_131 dX11_pass_20 (fun v6 => ?_)
        refine s_iload_n B.1.1 1 dX11_pass_23 rfl rfl ?_
        refine s_iadd B.1.1 dX11_pass_24 ?_
        refine s_lqi (fun x7 => ?_)
        refine s_istore_n (i := 2) (lv' := [(2, .int x7), (0, va_rf (some l0)), (1, .int l1)]) B.1.1 dX11_pass_25 rfl (by decide) rfl ?_
        refine s_rload_n B.1.1 1 dX11_pass_26 rfl rfl ?_
        refine s_iconst (v := 0) B.1.1 dX11_pass_27 (by decide) ?_
        refine hp_putI B.1 13 13 rfl (by decide) inX11 tyX11 tyX11_ok nmX11 (by decide) fk_X11_13.1 fk_X11_13.2 ft_X11_13 rfl cf_X11_134 dX11_pass_28 ?_
        refine s_iconst (v := 0) B.1.1 dX11_pass_31 (by decide) ?_
        refine s_istore_n (i := 3) (lv' := [(3, .int (0 : Int32)), (2, .int x7), (0, va_rf (some l0)), (1, .int l1)]) B.1.1 dX11_pass_32 rfl (by decide) rfl ?_
        exact Sm.lvs [2, 3, 1, 0] rfl (sc_X11_pass_L33 B (sc_X11_pass_J74 B) fu l1 x7 (0 : Int32))
      · exact x_throw B 1 rfl exk_1 exi_1 exg_1 exb_1 exo_1 (by decide) (Nat.le_of_ble_eq_true rfl) dX11_pass_11 dX11_pass_14 dX11_pass_15 dX11_pass_18
  exact MX.of hw hz ⟨rfl, rfl⟩ (by decide) (by simp [lg_sl, va_rf_cat, cat_i, cat_l, cat_r]) (mo_C_X11_pass l0 l1) M0
def C_X11_sessionOf_J19 (l0 : Nat) : Hp → Option ((Nat ⊕ (Option Nat)) × Hp) :=
  hTh 0
set_option maxRecDepth 10000 in
theorem mo_C_X11_sessionOf_J19 (l0 : Nat) : Mo (C_X11_sessionOf_J19 l0) := by
  unfold C_X11_sessionOf_J19
  repeat' (with_reducible first | assumption | exact mo_rt _ | exact mo_zt _ | exact mo_no | exact mo_hTh _ | exact mo_zx _ | refine mo_hCx (fun _ => ?_) (fun _ => ?_) | refine mo_ite ?_ ?_ | refine mo_hgI (fun _ => ?_) | refine mo_hgR (fun _ => ?_) | refine mo_hCv (fun _ => ?_) (fun _ => ?_) | refine mo_lq (fun _ => ?_) | refine mo_hpI ?_ | refine mo_hpR ?_ | refine mo_hAi (fun _ => ?_) | refine mo_hAr (fun _ => ?_) | refine mo_hWi ?_ | refine mo_hWr ?_ | refine mo_hLn (fun _ => ?_) | refine mo_hgL (fun _ => ?_) | refine mo_hpL ?_ | refine mo_hpZ ?_ | refine mo_bd ?_ (fun _ => ?_) | refine mo_hCi (fun _ => ?_) (fun _ => ?_) | refine mo_hNw (fun _ => ?_) | refine mo_hNa (fun _ => ?_) | refine mo_hCp ?_ | refine mo_hOi ?_ | refine mo_hAl (fun _ => ?_) | refine mo_hWl ?_ | refine mo_gd ?_ | refine mo_sLn (fun _ => ?_) | refine mo_sAt (fun _ => ?_) | refine mo_kLn (fun _ => ?_) | refine mo_kAt (fun _ => ?_))
set_option maxRecDepth 10000 in
theorem sc_X11_sessionOf_J19 {g : Gm Hp (Nat ⊕ (Option Nat))} (B : Bz g cX11_sessionOf 2 RX11 voR (some (.object "TopicBroker$Session")) 6 90 "sessionOf") {l0 : Nat} : Sm g 2 19 [] [] (C_X11_sessionOf_J19 l0) := by
  unfold C_X11_sessionOf_J19
  exact x_throw B 0 rfl exk_0 exi_0 exg_0 exb_0 exo_0 (by decide) (Nat.le_of_ble_eq_true rfl) dX11_sessionOf_19 dX11_sessionOf_22 dX11_sessionOf_23 dX11_sessionOf_26
def C_X11_sessionOf (l0 : Nat) (l1 : Int32) : Hp → Option ((Nat ⊕ (Option Nat)) × Hp) :=
  if l1 < 0 then (
    hTh 0
  ) else (
    if (12 : Int32) ≤ l1 then (
      hTh 0
    ) else (
      hgR 13 1 (some l0) fun v1 =>
      hAr 5 v1 l1 fun v2 =>
      if v2 = none then (
        hTh 0
      ) else (
        hgR 13 1 (some l0) fun v3 =>
        hAr 5 v3 l1 fun v4 =>
        rt (.inr (v4))
      )
    )
  )
set_option maxRecDepth 10000 in
theorem mo_C_X11_sessionOf (l0 : Nat) (l1 : Int32) : Mo (C_X11_sessionOf l0 l1) := by
  unfold C_X11_sessionOf
  repeat' (with_reducible first | assumption | exact mo_rt _ | exact mo_zt _ | exact mo_no | exact mo_hTh _ | exact mo_zx _ | refine mo_hCx (fun _ => ?_) (fun _ => ?_) | refine mo_ite ?_ ?_ | refine mo_hgI (fun _ => ?_) | refine mo_hgR (fun _ => ?_) | refine mo_hCv (fun _ => ?_) (fun _ => ?_) | refine mo_lq (fun _ => ?_) | refine mo_hpI ?_ | refine mo_hpR ?_ | refine mo_hAi (fun _ => ?_) | refine mo_hAr (fun _ => ?_) | refine mo_hWi ?_ | refine mo_hWr ?_ | refine mo_hLn (fun _ => ?_) | refine mo_hgL (fun _ => ?_) | refine mo_hpL ?_ | refine mo_hpZ ?_ | refine mo_bd ?_ (fun _ => ?_) | refine mo_hCi (fun _ => ?_) (fun _ => ?_) | refine mo_hNw (fun _ => ?_) | refine mo_hNa (fun _ => ?_) | refine mo_hCp ?_ | refine mo_hOi ?_ | refine mo_hAl (fun _ => ?_) | refine mo_hWl ?_ | refine mo_gd ?_ | refine mo_sLn (fun _ => ?_) | refine mo_sAt (fun _ => ?_) | refine mo_kLn (fun _ => ?_) | refine mo_kAt (fun _ => ?_))
set_option maxRecDepth 10000 in
theorem mX_X11_sessionOf {w : Wd} (hw : Wc w) (hz : Wz w) (l0 : Nat) (l1 : Int32) : MX w yX11_sessionOf cX11_sessionOf 2 (some (.object "TopicBroker$Session")) 6 90 voR [va_rf (some l0), .int l1] (C_X11_sessionOf l0 l1) := by
  have M0 : ∀ g : Gm Hp (Nat ⊕ (Option Nat)), g.1 = w → Bz g cX11_sessionOf 2 RX11 voR (some (.object "TopicBroker$Session")) 6 90 "sessionOf" → Sm g 2 0 (lv_args 0 [va_rf (some l0), .int l1]) [] (C_X11_sessionOf l0 l1) := by
    intro g hg B
    subst hg
    unfold C_X11_sessionOf
    refine W_lva (lv := [(0, va_rf (some l0)), (1, .int l1)]) (by simp [lv_args, va_rf_cat, cat_i, cat_l, cat_r]) ?_
    refine s_iload_n B.1.1 1 dX11_sessionOf_0 rfl rfl ?_
    refine s_if_lt B.1.1 19 dX11_sessionOf_1 (by decide) ?_ ?_
    · exact x_throw B 0 rfl exk_0 exi_0 exg_0 exb_0 exo_0 (by decide) (Nat.le_of_ble_eq_true rfl) dX11_sessionOf_19 dX11_sessionOf_22 dX11_sessionOf_23 dX11_sessionOf_26
    · refine s_iload_n B.1.1 1 dX11_sessionOf_4 rfl rfl ?_
      refine s_bipush (v := (12)) B.1.1 dX11_sessionOf_5 (by decide) ?_
      refine s_icmp_ge B.1.1 19 dX11_sessionOf_7 (by decide) ?_ ?_
      · exact x_throw B 0 rfl exk_0 exi_0 exg_0 exb_0 exo_0 (by decide) (Nat.le_of_ble_eq_true rfl) dX11_sessionOf_19 dX11_sessionOf_22 dX11_sessionOf_23 dX11_sessionOf_26
      · refine s_rload_n B.1.1 0 dX11_sessionOf_10 rfl rfl ?_
        refine hp_getR B.1 13 1 rfl (by decide) inX11 (by decide) fk_X11_1 cf_X11_20 dX11_sessionOf_11 (fun v1 => ?_)
        refine s_iload_n B.1.1 1 dX11_sessionOf_14 rfl rfl ?_
        refine hp_Ar B.1 5 (by decide) (fun _ => rfl) dX11_sessionOf_15 (fun v2 => ?_)
        refine s_ifnonnull B.1.1 27 dX11_sessionOf_16 (by decide) ?_ ?_
        · refine s_rload_n B.1.1 0 dX11_sessionOf_27 rfl rfl ?_
          refine hp_getR B.1 13 1 rfl (by decide) inX11 (by decide) fk_X11_1 cf_X11_20 dX11_sessionOf_28 (fun v3 => ?_)
          refine s_iload_n B.1.1 1 dX11_sessionOf_31 rfl rfl ?_
          refine hp_Ar B.1 5 (by decide) (fun _ => rfl) dX11_sessionOf_32 (fun v4 => ?_)
          exact x_aret B (Or.inl ⟨_, rfl⟩) dX11_sessionOf_33
        · exact x_throw B 0 rfl exk_0 exi_0 exg_0 exb_0 exo_0 (by decide) (Nat.le_of_ble_eq_true rfl) dX11_sessionOf_19 dX11_sessionOf_22 dX11_sessionOf_23 dX11_sessionOf_26
  exact MX.of hw hz ⟨rfl, rfl⟩ (by decide) (by simp [lg_sl, va_rf_cat, cat_i, cat_l, cat_r]) (mo_C_X11_sessionOf l0 l1) M0
def C_X11_session (l0 : Nat) (l1 : Int32) (l2 : Int32) : Hp → Option ((Nat ⊕ Int32) × Hp) :=
  hCx 13 (some l0) (fun a => C_X11_sessionOf a l1) fun r1 =>
  if l2 = 0 then (
    hgR 10 2 r1 fun v2 =>
    if v2 = none then (
      rt (.inr ((-1 : Int32)))
    ) else (
      hgR 10 2 r1 fun v3 =>
      hgI 2 0 v3 fun v4 =>
      rt (.inr (v4))
    )
  ) else
  if l2 = 1 then (
    hgI 10 4 r1 fun v5 =>
    rt (.inr (v5))
  ) else
  if l2 = 2 then (
    hgI 10 6 r1 fun v6 =>
    rt (.inr (v6))
  ) else
  if l2 = 3 then (
    hgI 10 8 r1 fun v7 =>
    rt (.inr (v7))
  ) else
  if l2 = 4 then (
    hgI 10 10 r1 fun v8 =>
    rt (.inr (v8))
  ) else
  if l2 = 5 then (
    hgR 10 11 r1 fun v9 =>
    if v9 = none then (
      rt (.inr ((0 : Int32)))
    ) else (
      rt (.inr ((1 : Int32)))
    )
  ) else
  if l2 = 6 then (
    hgR 10 1 r1 fun v10 =>
    hCv 9 v10 (fun a => C_X7_count a) fun r11 =>
    rt (.inr (r11))
  ) else
  if l2 = 7 then (
    hgI 10 16 r1 fun v12 =>
    rt (.inr (v12))
  ) else
  if l2 = 8 then (
    hgI 10 15 r1 fun v13 =>
    rt (.inr (v13))
  ) else
  (
    hTh 1
  )
set_option maxRecDepth 10000 in
theorem mo_C_X11_session (l0 : Nat) (l1 : Int32) (l2 : Int32) : Mo (C_X11_session l0 l1 l2) := by
  unfold C_X11_session
  repeat' (with_reducible first | assumption | exact mo_rt _ | exact mo_zt _ | exact mo_no | apply mo_C_X11_sessionOf | apply mo_C_X7_count | exact mo_hTh _ | exact mo_zx _ | refine mo_hCx (fun _ => ?_) (fun _ => ?_) | refine mo_ite ?_ ?_ | refine mo_hgI (fun _ => ?_) | refine mo_hgR (fun _ => ?_) | refine mo_hCv (fun _ => ?_) (fun _ => ?_) | refine mo_lq (fun _ => ?_) | refine mo_hpI ?_ | refine mo_hpR ?_ | refine mo_hAi (fun _ => ?_) | refine mo_hAr (fun _ => ?_) | refine mo_hWi ?_ | refine mo_hWr ?_ | refine mo_hLn (fun _ => ?_) | refine mo_hgL (fun _ => ?_) | refine mo_hpL ?_ | refine mo_hpZ ?_ | refine mo_bd ?_ (fun _ => ?_) | refine mo_hCi (fun _ => ?_) (fun _ => ?_) | refine mo_hNw (fun _ => ?_) | refine mo_hNa (fun _ => ?_) | refine mo_hCp ?_ | refine mo_hOi ?_ | refine mo_hAl (fun _ => ?_) | refine mo_hWl ?_ | refine mo_gd ?_ | refine mo_sLn (fun _ => ?_) | refine mo_sAt (fun _ => ?_) | refine mo_kLn (fun _ => ?_) | refine mo_kAt (fun _ => ?_))
set_option maxRecDepth 10000 in
theorem mX_X11_session {w : Wd} (hw : Wc w) (hz : Wz w) (l0 : Nat) (l1 : Int32) (l2 : Int32) : MX w yX11_session cX11_session 4 (some .int) 7 111 voI [va_rf (some l0), .int l1, .int l2] (C_X11_session l0 l1 l2) := by
  have M0 : ∀ g : Gm Hp (Nat ⊕ Int32), g.1 = w → Bz g cX11_session 4 RX11 voI (some .int) 7 111 "session" → Sm g 4 0 (lv_args 0 [va_rf (some l0), .int l1, .int l2]) [] (C_X11_session l0 l1 l2) := by
    intro g hg B
    subst hg
    unfold C_X11_session
    refine W_lva (lv := [(0, va_rf (some l0)), (1, .int l1), (2, .int l2)]) (by simp [lv_args, va_rf_cat, cat_i, cat_l, cat_r]) ?_
    refine s_rload_n B.1.1 0 dX11_session_0 rfl rfl ?_
    refine s_iload_n B.1.1 1 dX11_session_1 rfl rfl ?_
    refine x_cvr (As := [.int l1]) (st := []) 13 rfl (by decide) B (fun a => mX_X11_sessionOf B.2.1 B.2.2.2.2.2.1 a l1) cc_X11_sessionOf cl_X11_147 cn_X11_sessionOf ce_X11_sessionOf ci_X11 cd_X11_sessionOf (by decide) rfl (Nat.le_of_ble_eq_true rfl) dX11_session_2 (fun r1 => ?_)
    refine s_rstore_n (i := 3) (lv' := [(3, va_rf r1), (0, va_rf (some l0)), (1, .int l1), (2, .int l2)]) B.1.1 dX11_session_5 rfl (by decide) rfl ?_
    refine s_iload_n B.1.1 3 dX11_session_6 rfl rfl ?_
    refine s_sw1 B.1.1 0 56 dX11_session_7 (by decide) (by decide) rfl (by decide) ?_ (fun hn0 => ?_)
    · refine s_rload_n B.1.1 0 dX11_session_56 rfl rfl ?_
      refine hp_getR B.1 10 2 rfl (by decide) inX8 (by decide) fk_X8_2 cf_X11_151 dX11_session_57 (fun v2 => ?_)
      refine s_ifnonnull B.1.1 67 dX11_session_60 (by decide) ?_ ?_
      · refine s_rload_n B.1.1 0 dX11_session_67 rfl rfl ?_
        refine hp_getR B.1 10 2 rfl (by decide) inX8 (by decide) fk_X8_2 cf_X11_151 dX11_session_68 (fun v3 => ?_)
        refine hp_getI B.1 2 0 rfl (by decide) inX0 (by decide) fk_X0_0.1 fk_X0_0.2 cf_X11_155 dX11_session_71 (fun v4 => ?_)
        exact x_iret B dX11_session_74
      · refine s_iconst (v := (-1)) B.1.1 dX11_session_63 (by decide) ?_
        refine s_goto B.1.1 74 dX11_session_64 (by decide) ?_
        exact x_iret B dX11_session_74
    refine s_sw1 B.1.1 1 75 dX11_session_7 (by decide) (by decide) rfl (by decide) ?_ (fun hn1 => ?_)
    · refine s_rload_n B.1.1 0 dX11_session_75 rfl rfl ?_
      refine hp_getI B.1 10 4 rfl (by decide) inX8 (by decide) fk_X8_4.1 fk_X8_4.2 cf_X11_158 dX11_session_76 (fun v5 => ?_)
      exact x_iret B dX11_session_79
    refine s_sw1 B.1.1 2 80 dX11_session_7 (by decide) (by decide) rfl (by decide) ?_ (fun hn2 => ?_)
    · refine s_rload_n B.1.1 0 dX11_session_80 rfl rfl ?_
      refine hp_getI B.1 10 6 rfl (by decide) inX8 (by decide) fk_X8_6.1 fk_X8_6.2 cf_X11_161 dX11_session_81 (fun v6 => ?_)
      exact x_iret B dX11_session_84
    refine s_sw1 B.1.1 3 85 dX11_session_7 (by decide) (by decide) rfl (by decide) ?_ (fun hn3 => ?_)
    · refine s_rload_n B.1.1 0 dX11_session_85 rfl rfl ?_
      refine hp_getI B.1 10 8 rfl (by decide) inX8 (by decide) fk_X8_8.1 fk_X8_8.2 cf_X11_164 dX11_session_86 (fun v7 => ?_)
      exact x_iret B dX11_session_89
    refine s_sw1 B.1.1 4 90 dX11_session_7 (by decide) (by decide) rfl (by decide) ?_ (fun hn4 => ?_)
    · refine s_rload_n B.1.1 0 dX11_session_90 rfl rfl ?_
      refine hp_getI B.1 10 10 rfl (by decide) inX8 (by decide) fk_X8_10.1 fk_X8_10.2 cf_X11_167 dX11_session_91 (fun v8 => ?_)
      exact x_iret B dX11_session_94
    refine s_sw1 B.1.1 5 95 dX11_session_7 (by decide) (by decide) rfl (by decide) ?_ (fun hn5 => ?_)
    · refine s_rload_n B.1.1 0 dX11_session_95 rfl rfl ?_
      refine hp_getR B.1 10 11 rfl (by decide) inX8 (by decide) fk_X8_11 cf_X11_170 dX11_session_96 (fun v9 => ?_)
      refine s_ifnonnull B.1.1 106 dX11_session_99 (by decide) ?_ ?_
      · refine s_iconst (v := 1) B.1.1 dX11_session_106 (by decide) ?_
        exact x_iret B dX11_session_107
      · refine s_iconst (v := 0) B.1.1 dX11_session_102 (by decide) ?_
        refine s_goto B.1.1 107 dX11_session_103 (by decide) ?_
        exact x_iret B dX11_session_107
    refine s_sw1 B.1.1 6 108 dX11_session_7 (by decide) (by decide) rfl (by decide) ?_ (fun hn6 => ?_)
    · refine s_rload_n B.1.1 0 dX11_session_108 rfl rfl ?_
      refine hp_getR B.1 10 1 rfl (by decide) inX8 (by decide) fk_X8_1 cf_X11_174 dX11_session_109 (fun v10 => ?_)
      refine hp_cvi (As := []) (st := []) 9 rfl (by decide) B.1 (fun a => mC_X7_count B.2.1 a ) cc_X7_count cl_X11_178 cn_X7_count ce_X7_count ci_X7 cd_X7_count (by decide) rfl (Nat.le_of_ble_eq_true rfl) dX11_session_112 (fun r11 => ?_)
      exact x_iret B dX11_session_115
    refine s_sw1 B.1.1 7 116 dX11_session_7 (by decide) (by decide) rfl (by decide) ?_ (fun hn7 => ?_)
    · refine s_rload_n B.1.1 0 dX11_session_116 rfl rfl ?_
      refine hp_getI B.1 10 16 rfl (by decide) inX8 (by decide) fk_X8_16.1 fk_X8_16.2 cf_X11_184 dX11_session_117 (fun v12 => ?_)
      exact x_iret B dX11_session_120
    refine s_sw1 B.1.1 8 121 dX11_session_7 (by decide) (by decide) rfl (by decide) ?_ (fun hn8 => ?_)
    · refine s_rload_n B.1.1 0 dX11_session_121 rfl rfl ?_
      refine hp_getI B.1 10 15 rfl (by decide) inX8 (by decide) fk_X8_15.1 fk_X8_15.2 cf_X11_187 dX11_session_122 (fun v13 => ?_)
      exact x_iret B dX11_session_125
    have hout : (l2).toInt < 0 ∨ 8 < (l2).toInt := by
      have z0 : ¬ (l2).toInt = 0 := sw_ne hn0 (by decide); have z1 : ¬ (l2).toInt = 1 := sw_ne hn1 (by decide); have z2 : ¬ (l2).toInt = 2 := sw_ne hn2 (by decide); have z3 : ¬ (l2).toInt = 3 := sw_ne hn3 (by decide); have z4 : ¬ (l2).toInt = 4 := sw_ne hn4 (by decide); have z5 : ¬ (l2).toInt = 5 := sw_ne hn5 (by decide); have z6 : ¬ (l2).toInt = 6 := sw_ne hn6 (by decide); have z7 : ¬ (l2).toInt = 7 := sw_ne hn7 (by decide); have z8 : ¬ (l2).toInt = 8 := sw_ne hn8 (by decide); omega
    refine s_swD B.1.1 126 dX11_session_7 hout (by decide) ?_
    exact x_throw B 1 rfl exk_1 exi_1 exg_1 exb_1 exo_1 (by decide) (Nat.le_of_ble_eq_true rfl) dX11_session_126 dX11_session_129 dX11_session_130 dX11_session_133
  exact MX.of hw hz ⟨rfl, rfl⟩ (by decide) (by simp [lg_sl, va_rf_cat, cat_i, cat_l, cat_r]) (mo_C_X11_session l0 l1 l2) M0
def C_X11_expiry (l0 : Nat) (l1 : Int32) : Hp → Option ((Nat ⊕ Int64) × Hp) :=
  hCx 13 (some l0) (fun a => C_X11_sessionOf a l1) fun r1 =>
  hgL 10 13 r1 fun v2 =>
  rt (.inr (v2))
set_option maxRecDepth 10000 in
theorem mo_C_X11_expiry (l0 : Nat) (l1 : Int32) : Mo (C_X11_expiry l0 l1) := by
  unfold C_X11_expiry
  repeat' (with_reducible first | assumption | exact mo_rt _ | exact mo_zt _ | exact mo_no | apply mo_C_X11_sessionOf | exact mo_hTh _ | exact mo_zx _ | refine mo_hCx (fun _ => ?_) (fun _ => ?_) | refine mo_ite ?_ ?_ | refine mo_hgI (fun _ => ?_) | refine mo_hgR (fun _ => ?_) | refine mo_hCv (fun _ => ?_) (fun _ => ?_) | refine mo_lq (fun _ => ?_) | refine mo_hpI ?_ | refine mo_hpR ?_ | refine mo_hAi (fun _ => ?_) | refine mo_hAr (fun _ => ?_) | refine mo_hWi ?_ | refine mo_hWr ?_ | refine mo_hLn (fun _ => ?_) | refine mo_hgL (fun _ => ?_) | refine mo_hpL ?_ | refine mo_hpZ ?_ | refine mo_bd ?_ (fun _ => ?_) | refine mo_hCi (fun _ => ?_) (fun _ => ?_) | refine mo_hNw (fun _ => ?_) | refine mo_hNa (fun _ => ?_) | refine mo_hCp ?_ | refine mo_hOi ?_ | refine mo_hAl (fun _ => ?_) | refine mo_hWl ?_ | refine mo_gd ?_ | refine mo_sLn (fun _ => ?_) | refine mo_sAt (fun _ => ?_) | refine mo_kLn (fun _ => ?_) | refine mo_kAt (fun _ => ?_))
set_option maxRecDepth 10000 in
theorem mX_X11_expiry {w : Wd} (hw : Wc w) (hz : Wz w) (l0 : Nat) (l1 : Int32) : MX w yX11_expiry cX11_expiry 2 (some .long) 7 111 voL [va_rf (some l0), .int l1] (C_X11_expiry l0 l1) := by
  have M0 : ∀ g : Gm Hp (Nat ⊕ Int64), g.1 = w → Bz g cX11_expiry 2 RX11 voL (some .long) 7 111 "expiry" → Sm g 2 0 (lv_args 0 [va_rf (some l0), .int l1]) [] (C_X11_expiry l0 l1) := by
    intro g hg B
    subst hg
    unfold C_X11_expiry
    refine W_lva (lv := [(0, va_rf (some l0)), (1, .int l1)]) (by simp [lv_args, va_rf_cat, cat_i, cat_l, cat_r]) ?_
    refine s_rload_n B.1.1 0 dX11_expiry_0 rfl rfl ?_
    refine s_iload_n B.1.1 1 dX11_expiry_1 rfl rfl ?_
    refine x_cvr (As := [.int l1]) (st := []) 13 rfl (by decide) B (fun a => mX_X11_sessionOf B.2.1 B.2.2.2.2.2.1 a l1) cc_X11_sessionOf cl_X11_147 cn_X11_sessionOf ce_X11_sessionOf ci_X11 cd_X11_sessionOf (by decide) rfl (Nat.le_of_ble_eq_true rfl) dX11_expiry_2 (fun r1 => ?_)
    refine hp_getL B.1 10 13 rfl (by decide) inX8 (by decide) fk_X8_13 cf_X11_190 dX11_expiry_5 (fun v2 => ?_)
    exact x_lret B dX11_expiry_8
  exact MX.of hw hz ⟨rfl, rfl⟩ (by decide) (by simp [lg_sl, va_rf_cat, cat_i, cat_l, cat_r]) (mo_C_X11_expiry l0 l1) M0
def C_X11_id (l0 : Nat) (l1 : Int32) (l2 : Int32) : Hp → Option ((Nat ⊕ Int32) × Hp) :=
  hCx 13 (some l0) (fun a => C_X11_sessionOf a l1) fun r1 =>
  hgR 10 1 r1 fun v2 =>
  hCv 9 v2 (fun a => C_X7_at a l2) fun r3 =>
  rt (.inr (r3))
set_option maxRecDepth 10000 in
theorem mo_C_X11_id (l0 : Nat) (l1 : Int32) (l2 : Int32) : Mo (C_X11_id l0 l1 l2) := by
  unfold C_X11_id
  repeat' (with_reducible first | assumption | exact mo_rt _ | exact mo_zt _ | exact mo_no | apply mo_C_X11_sessionOf | apply mo_C_X7_at | exact mo_hTh _ | exact mo_zx _ | refine mo_hCx (fun _ => ?_) (fun _ => ?_) | refine mo_ite ?_ ?_ | refine mo_hgI (fun _ => ?_) | refine mo_hgR (fun _ => ?_) | refine mo_hCv (fun _ => ?_) (fun _ => ?_) | refine mo_lq (fun _ => ?_) | refine mo_hpI ?_ | refine mo_hpR ?_ | refine mo_hAi (fun _ => ?_) | refine mo_hAr (fun _ => ?_) | refine mo_hWi ?_ | refine mo_hWr ?_ | refine mo_hLn (fun _ => ?_) | refine mo_hgL (fun _ => ?_) | refine mo_hpL ?_ | refine mo_hpZ ?_ | refine mo_bd ?_ (fun _ => ?_) | refine mo_hCi (fun _ => ?_) (fun _ => ?_) | refine mo_hNw (fun _ => ?_) | refine mo_hNa (fun _ => ?_) | refine mo_hCp ?_ | refine mo_hOi ?_ | refine mo_hAl (fun _ => ?_) | refine mo_hWl ?_ | refine mo_gd ?_ | refine mo_sLn (fun _ => ?_) | refine mo_sAt (fun _ => ?_) | refine mo_kLn (fun _ => ?_) | refine mo_kAt (fun _ => ?_))
set_option maxRecDepth 10000 in
theorem mX_X11_id {w : Wd} (hw : Wc w) (hz : Wz w) (l0 : Nat) (l1 : Int32) (l2 : Int32) : MX w yX11_id cX11_id 3 (some .int) 7 111 voI [va_rf (some l0), .int l1, .int l2] (C_X11_id l0 l1 l2) := by
  have M0 : ∀ g : Gm Hp (Nat ⊕ Int32), g.1 = w → Bz g cX11_id 3 RX11 voI (some .int) 7 111 "id" → Sm g 3 0 (lv_args 0 [va_rf (some l0), .int l1, .int l2]) [] (C_X11_id l0 l1 l2) := by
    intro g hg B
    subst hg
    unfold C_X11_id
    refine W_lva (lv := [(0, va_rf (some l0)), (1, .int l1), (2, .int l2)]) (by simp [lv_args, va_rf_cat, cat_i, cat_l, cat_r]) ?_
    refine s_rload_n B.1.1 0 dX11_id_0 rfl rfl ?_
    refine s_iload_n B.1.1 1 dX11_id_1 rfl rfl ?_
    refine x_cvr (As := [.int l1]) (st := []) 13 rfl (by decide) B (fun a => mX_X11_sessionOf B.2.1 B.2.2.2.2.2.1 a l1) cc_X11_sessionOf cl_X11_147 cn_X11_sessionOf ce_X11_sessionOf ci_X11 cd_X11_sessionOf (by decide) rfl (Nat.le_of_ble_eq_true rfl) dX11_id_2 (fun r1 => ?_)
    refine hp_getR B.1 10 1 rfl (by decide) inX8 (by decide) fk_X8_1 cf_X11_174 dX11_id_5 (fun v2 => ?_)
    refine s_iload_n B.1.1 2 dX11_id_8 rfl rfl ?_
    refine hp_cvi (As := [.int l2]) (st := []) 9 rfl (by decide) B.1 (fun a => mC_X7_at B.2.1 a l2) cc_X7_at cl_X11_194 cn_X7_at ce_X7_at ci_X7 cd_X7_at (by decide) rfl (Nat.le_of_ble_eq_true rfl) dX11_id_9 (fun r3 => ?_)
    exact x_iret B dX11_id_12
  exact MX.of hw hz ⟨rfl, rfl⟩ (by decide) (by simp [lg_sl, va_rf_cat, cat_i, cat_l, cat_r]) (mo_C_X11_id l0 l1 l2) M0
def C_X11_subscriptionOf_J18 (l0 : Nat) : Hp → Option ((Nat ⊕ (Option Nat)) × Hp) :=
  hTh 0
set_option maxRecDepth 10000 in
theorem mo_C_X11_subscriptionOf_J18 (l0 : Nat) : Mo (C_X11_subscriptionOf_J18 l0) := by
  unfold C_X11_subscriptionOf_J18
  repeat' (with_reducible first | assumption | exact mo_rt _ | exact mo_zt _ | exact mo_no | exact mo_hTh _ | exact mo_zx _ | refine mo_hCx (fun _ => ?_) (fun _ => ?_) | refine mo_ite ?_ ?_ | refine mo_hgI (fun _ => ?_) | refine mo_hgR (fun _ => ?_) | refine mo_hCv (fun _ => ?_) (fun _ => ?_) | refine mo_lq (fun _ => ?_) | refine mo_hpI ?_ | refine mo_hpR ?_ | refine mo_hAi (fun _ => ?_) | refine mo_hAr (fun _ => ?_) | refine mo_hWi ?_ | refine mo_hWr ?_ | refine mo_hLn (fun _ => ?_) | refine mo_hgL (fun _ => ?_) | refine mo_hpL ?_ | refine mo_hpZ ?_ | refine mo_bd ?_ (fun _ => ?_) | refine mo_hCi (fun _ => ?_) (fun _ => ?_) | refine mo_hNw (fun _ => ?_) | refine mo_hNa (fun _ => ?_) | refine mo_hCp ?_ | refine mo_hOi ?_ | refine mo_hAl (fun _ => ?_) | refine mo_hWl ?_ | refine mo_gd ?_ | refine mo_sLn (fun _ => ?_) | refine mo_sAt (fun _ => ?_) | refine mo_kLn (fun _ => ?_) | refine mo_kAt (fun _ => ?_))
set_option maxRecDepth 10000 in
theorem sc_X11_subscriptionOf_J18 {g : Gm Hp (Nat ⊕ (Option Nat))} (B : Bz g cX11_subscriptionOf 4 RX11 voR (some (.object "TopicBroker$Subscription")) 7 111 "subscriptionOf") {l0 : Nat} : Sm g 4 18 [] [] (C_X11_subscriptionOf_J18 l0) := by
  unfold C_X11_subscriptionOf_J18
  exact x_throw B 0 rfl exk_0 exi_0 exg_0 exb_0 exo_0 (by decide) (Nat.le_of_ble_eq_true rfl) dX11_subscriptionOf_18 dX11_subscriptionOf_21 dX11_subscriptionOf_22 dX11_subscriptionOf_25
def C_X11_subscriptionOf (l0 : Nat) (l1 : Int32) (l2 : Int32) : Hp → Option ((Nat ⊕ (Option Nat)) × Hp) :=
  hCx 13 (some l0) (fun a => C_X11_sessionOf a l1) fun r1 =>
  if l2 < 0 then (
    hTh 0
  ) else (
    hgI 10 4 r1 fun v2 =>
    if l2 < v2 then (
      hgR 10 3 r1 fun v3 =>
      hAr 6 v3 l2 fun v4 =>
      rt (.inr (v4))
    ) else (
      hTh 0
    )
  )
set_option maxRecDepth 10000 in
theorem mo_C_X11_subscriptionOf (l0 : Nat) (l1 : Int32) (l2 : Int32) : Mo (C_X11_subscriptionOf l0 l1 l2) := by
  unfold C_X11_subscriptionOf
  repeat' (with_reducible first | assumption | exact mo_rt _ | exact mo_zt _ | exact mo_no | apply mo_C_X11_sessionOf | exact mo_hTh _ | exact mo_zx _ | refine mo_hCx (fun _ => ?_) (fun _ => ?_) | refine mo_ite ?_ ?_ | refine mo_hgI (fun _ => ?_) | refine mo_hgR (fun _ => ?_) | refine mo_hCv (fun _ => ?_) (fun _ => ?_) | refine mo_lq (fun _ => ?_) | refine mo_hpI ?_ | refine mo_hpR ?_ | refine mo_hAi (fun _ => ?_) | refine mo_hAr (fun _ => ?_) | refine mo_hWi ?_ | refine mo_hWr ?_ | refine mo_hLn (fun _ => ?_) | refine mo_hgL (fun _ => ?_) | refine mo_hpL ?_ | refine mo_hpZ ?_ | refine mo_bd ?_ (fun _ => ?_) | refine mo_hCi (fun _ => ?_) (fun _ => ?_) | refine mo_hNw (fun _ => ?_) | refine mo_hNa (fun _ => ?_) | refine mo_hCp ?_ | refine mo_hOi ?_ | refine mo_hAl (fun _ => ?_) | refine mo_hWl ?_ | refine mo_gd ?_ | refine mo_sLn (fun _ => ?_) | refine mo_sAt (fun _ => ?_) | refine mo_kLn (fun _ => ?_) | refine mo_kAt (fun _ => ?_))
set_option maxRecDepth 10000 in
theorem mX_X11_subscriptionOf {w : Wd} (hw : Wc w) (hz : Wz w) (l0 : Nat) (l1 : Int32) (l2 : Int32) : MX w yX11_subscriptionOf cX11_subscriptionOf 4 (some (.object "TopicBroker$Subscription")) 7 111 voR [va_rf (some l0), .int l1, .int l2] (C_X11_subscriptionOf l0 l1 l2) := by
  have M0 : ∀ g : Gm Hp (Nat ⊕ (Option Nat)), g.1 = w → Bz g cX11_subscriptionOf 4 RX11 voR (some (.object "TopicBroker$Subscription")) 7 111 "subscriptionOf" → Sm g 4 0 (lv_args 0 [va_rf (some l0), .int l1, .int l2]) [] (C_X11_subscriptionOf l0 l1 l2) := by
    intro g hg B
    subst hg
    unfold C_X11_subscriptionOf
    refine W_lva (lv := [(0, va_rf (some l0)), (1, .int l1), (2, .int l2)]) (by simp [lv_args, va_rf_cat, cat_i, cat_l, cat_r]) ?_
    refine s_rload_n B.1.1 0 dX11_subscriptionOf_0 rfl rfl ?_
    refine s_iload_n B.1.1 1 dX11_subscriptionOf_1 rfl rfl ?_
    refine x_cvr (As := [.int l1]) (st := []) 13 rfl (by decide) B (fun a => mX_X11_sessionOf B.2.1 B.2.2.2.2.2.1 a l1) cc_X11_sessionOf cl_X11_147 cn_X11_sessionOf ce_X11_sessionOf ci_X11 cd_X11_sessionOf (by decide) rfl (Nat.le_of_ble_eq_true rfl) dX11_subscriptionOf_2 (fun r1 => ?_)
    refine s_rstore_n (i := 3) (lv' := [(3, va_rf r1), (0, va_rf (some l0)), (1, .int l1), (2, .int l2)]) B.1.1 dX11_subscriptionOf_5 rfl (by decide) rfl ?_
    refine s_iload_n B.1.1 3 dX11_subscriptionOf_6 rfl rfl ?_
    refine s_if_lt B.1.1 18 dX11_subscriptionOf_7 (by decide) ?_ ?_
    · exact x_throw B 0 rfl exk_0 exi_0 exg_0 exb_0 exo_0 (by decide) (Nat.le_of_ble_eq_true rfl) dX11_subscriptionOf_18 dX11_subscriptionOf_21 dX11_subscriptionOf_22 dX11_subscriptionOf_25
    · refine s_iload_n B.1.1 3 dX11_subscriptionOf_10 rfl rfl ?_
      refine s_rload_n B.1.1 0 dX11_subscriptionOf_11 rfl rfl ?_
      refine hp_getI B.1 10 4 rfl (by decide) inX8 (by decide) fk_X8_4.1 fk_X8_4.2 cf_X11_158 dX11_subscriptionOf_12 (fun v2 => ?_)
      refine s_icmp_lt B.1.1 26 dX11_subscriptionOf_15 (by decide) ?_ ?_
      · refine s_rload_n B.1.1 0 dX11_subscriptionOf_26 rfl rfl ?_
        refine hp_getR B.1 10 3 rfl (by decide) inX8 (by decide) fk_X8_3 cf_X11_261 dX11_subscriptionOf_27 (fun v3 => ?_)
        refine s_iload_n B.1.1 3 dX11_subscriptionOf_30 rfl rfl ?_
        refine hp_Ar B.1 6 (by decide) (fun _ => rfl) dX11_subscriptionOf_31 (fun v4 => ?_)
        exact x_aret B (Or.inl ⟨_, rfl⟩) dX11_subscriptionOf_32
      · exact x_throw B 0 rfl exk_0 exi_0 exg_0 exb_0 exo_0 (by decide) (Nat.le_of_ble_eq_true rfl) dX11_subscriptionOf_18 dX11_subscriptionOf_21 dX11_subscriptionOf_22 dX11_subscriptionOf_25
  exact MX.of hw hz ⟨rfl, rfl⟩ (by decide) (by simp [lg_sl, va_rf_cat, cat_i, cat_l, cat_r]) (mo_C_X11_subscriptionOf l0 l1 l2) M0
def C_X11_subscription (l0 : Nat) (l1 : Int32) (l2 : Int32) (l3 : Int32) : Hp → Option ((Nat ⊕ Int32) × Hp) :=
  hCx 13 (some l0) (fun a => C_X11_subscriptionOf a l1 l2) fun r1 =>
  if l3 = 0 then (
    hgI 11 2 r1 fun v2 =>
    rt (.inr (v2))
  ) else
  if l3 = 1 then (
    hgI 11 3 r1 fun v3 =>
    rt (.inr (v3))
  ) else
  if l3 = 2 then (
    hgR 11 0 r1 fun v4 =>
    hCv 9 v4 (fun a => C_X7_count a) fun r5 =>
    rt (.inr (r5))
  ) else
  if l3 = 3 then (
    hgI 11 4 r1 fun v6 =>
    rt (.inr (v6))
  ) else
  (
    hTh 1
  )
set_option maxRecDepth 10000 in
theorem mo_C_X11_subscription (l0 : Nat) (l1 : Int32) (l2 : Int32) (l3 : Int32) : Mo (C_X11_subscription l0 l1 l2 l3) := by
  unfold C_X11_subscription
  repeat' (with_reducible first | assumption | exact mo_rt _ | exact mo_zt _ | exact mo_no | apply mo_C_X11_subscriptionOf | apply mo_C_X7_count | exact mo_hTh _ | exact mo_zx _ | refine mo_hCx (fun _ => ?_) (fun _ => ?_) | refine mo_ite ?_ ?_ | refine mo_hgI (fun _ => ?_) | refine mo_hgR (fun _ => ?_) | refine mo_hCv (fun _ => ?_) (fun _ => ?_) | refine mo_lq (fun _ => ?_) | refine mo_hpI ?_ | refine mo_hpR ?_ | refine mo_hAi (fun _ => ?_) | refine mo_hAr (fun _ => ?_) | refine mo_hWi ?_ | refine mo_hWr ?_ | refine mo_hLn (fun _ => ?_) | refine mo_hgL (fun _ => ?_) | refine mo_hpL ?_ | refine mo_hpZ ?_ | refine mo_bd ?_ (fun _ => ?_) | refine mo_hCi (fun _ => ?_) (fun _ => ?_) | refine mo_hNw (fun _ => ?_) | refine mo_hNa (fun _ => ?_) | refine mo_hCp ?_ | refine mo_hOi ?_ | refine mo_hAl (fun _ => ?_) | refine mo_hWl ?_ | refine mo_gd ?_ | refine mo_sLn (fun _ => ?_) | refine mo_sAt (fun _ => ?_) | refine mo_kLn (fun _ => ?_) | refine mo_kAt (fun _ => ?_))
set_option maxRecDepth 10000 in
theorem mX_X11_subscription {w : Wd} (hw : Wc w) (hz : Wz w) (l0 : Nat) (l1 : Int32) (l2 : Int32) (l3 : Int32) : MX w yX11_subscription cX11_subscription 5 (some .int) 8 134 voI [va_rf (some l0), .int l1, .int l2, .int l3] (C_X11_subscription l0 l1 l2 l3) := by
  have M0 : ∀ g : Gm Hp (Nat ⊕ Int32), g.1 = w → Bz g cX11_subscription 5 RX11 voI (some .int) 8 134 "subscription" → Sm g 5 0 (lv_args 0 [va_rf (some l0), .int l1, .int l2, .int l3]) [] (C_X11_subscription l0 l1 l2 l3) := by
    intro g hg B
    subst hg
    unfold C_X11_subscription
    refine W_lva (lv := [(0, va_rf (some l0)), (1, .int l1), (2, .int l2), (3, .int l3)]) (by simp [lv_args, va_rf_cat, cat_i, cat_l, cat_r]) ?_
    refine s_rload_n B.1.1 0 dX11_subscription_0 rfl rfl ?_
    refine s_iload_n B.1.1 1 dX11_subscription_1 rfl rfl ?_
    refine s_iload_n B.1.1 2 dX11_subscription_2 rfl rfl ?_
    refine x_cvr (As := [.int l1, .int l2]) (st := []) 13 rfl (by decide) B (fun a => mX_X11_subscriptionOf B.2.1 B.2.2.2.2.2.1 a l1 l2) cc_X11_subscriptionOf cl_X11_197 cn_X11_subscriptionOf ce_X11_subscriptionOf ci_X11 cd_X11_subscriptionOf (by decide) rfl (Nat.le_of_ble_eq_true rfl) dX11_subscription_3 (fun r1 => ?_)
    refine s_rstore (i := 4) (lv' := [(4, va_rf r1), (0, va_rf (some l0)), (1, .int l1), (2, .int l2), (3, .int l3)]) B.1.1 dX11_subscription_6 (by decide) rfl ?_
    refine s_iload_n B.1.1 4 dX11_subscription_8 rfl rfl ?_
    refine s_sw1 B.1.1 0 40 dX11_subscription_9 (by decide) (by decide) rfl (by decide) ?_ (fun hn0 => ?_)
    · refine s_rload B.1.1 0 dX11_subscription_40 rfl ?_
      refine hp_getI B.1 11 2 rfl (by decide) inX9 (by decide) fk_X9_2.1 fk_X9_2.2 cf_X11_201 dX11_subscription_42 (fun v2 => ?_)
      exact x_iret B dX11_subscription_45
    refine s_sw1 B.1.1 1 46 dX11_subscription_9 (by decide) (by decide) rfl (by decide) ?_ (fun hn1 => ?_)
    · refine s_rload B.1.1 0 dX11_subscription_46 rfl ?_
      refine hp_getI B.1 11 3 rfl (by decide) inX9 (by decide) fk_X9_3.1 fk_X9_3.2 cf_X11_206 dX11_subscription_48 (fun v3 => ?_)
      exact x_iret B dX11_subscription_51
    refine s_sw1 B.1.1 2 52 dX11_subscription_9 (by decide) (by decide) rfl (by decide) ?_ (fun hn2 => ?_)
    · refine s_rload B.1.1 0 dX11_subscription_52 rfl ?_
      refine hp_getR B.1 11 0 rfl (by decide) inX9 (by decide) fk_X9_0 cf_X11_209 dX11_subscription_54 (fun v4 => ?_)
      refine hp_cvi (As := []) (st := []) 9 rfl (by decide) B.1 (fun a => mC_X7_count B.2.1 a ) cc_X7_count cl_X11_178 cn_X7_count ce_X7_count ci_X7 cd_X7_count (by decide) rfl (Nat.le_of_ble_eq_true rfl) dX11_subscription_57 (fun r5 => ?_)
      exact x_iret B dX11_subscription_60
    refine s_sw1 B.1.1 3 61 dX11_subscription_9 (by decide) (by decide) rfl (by decide) ?_ (fun hn3 => ?_)
    · refine s_rload B.1.1 0 dX11_subscription_61 rfl ?_
      refine hp_getI B.1 11 4 rfl (by decide) inX9 (by decide) fk_X9_4.1 fk_X9_4.2 cf_X11_212 dX11_subscription_63 (fun v6 => ?_)
      exact x_iret B dX11_subscription_66
    have hout : (l3).toInt < 0 ∨ 3 < (l3).toInt := by
      have z0 : ¬ (l3).toInt = 0 := sw_ne hn0 (by decide); have z1 : ¬ (l3).toInt = 1 := sw_ne hn1 (by decide); have z2 : ¬ (l3).toInt = 2 := sw_ne hn2 (by decide); have z3 : ¬ (l3).toInt = 3 := sw_ne hn3 (by decide); omega
    refine s_swD B.1.1 67 dX11_subscription_9 hout (by decide) ?_
    exact x_throw B 1 rfl exk_1 exi_1 exg_1 exb_1 exo_1 (by decide) (Nat.le_of_ble_eq_true rfl) dX11_subscription_67 dX11_subscription_70 dX11_subscription_71 dX11_subscription_74
  exact MX.of hw hz ⟨rfl, rfl⟩ (by decide) (by simp [lg_sl, va_rf_cat, cat_i, cat_l, cat_r]) (mo_C_X11_subscription l0 l1 l2 l3) M0
def C_X11_filter (l0 : Nat) (l1 : Int32) (l2 : Int32) (l3 : Int32) : Hp → Option ((Nat ⊕ Int32) × Hp) :=
  hCx 13 (some l0) (fun a => C_X11_subscriptionOf a l1 l2) fun r1 =>
  hgR 11 0 r1 fun v2 =>
  hCv 9 v2 (fun a => C_X7_at a l3) fun r3 =>
  rt (.inr (r3))
set_option maxRecDepth 10000 in
theorem mo_C_X11_filter (l0 : Nat) (l1 : Int32) (l2 : Int32) (l3 : Int32) : Mo (C_X11_filter l0 l1 l2 l3) := by
  unfold C_X11_filter
  repeat' (with_reducible first | assumption | exact mo_rt _ | exact mo_zt _ | exact mo_no | apply mo_C_X11_subscriptionOf | apply mo_C_X7_at | exact mo_hTh _ | exact mo_zx _ | refine mo_hCx (fun _ => ?_) (fun _ => ?_) | refine mo_ite ?_ ?_ | refine mo_hgI (fun _ => ?_) | refine mo_hgR (fun _ => ?_) | refine mo_hCv (fun _ => ?_) (fun _ => ?_) | refine mo_lq (fun _ => ?_) | refine mo_hpI ?_ | refine mo_hpR ?_ | refine mo_hAi (fun _ => ?_) | refine mo_hAr (fun _ => ?_) | refine mo_hWi ?_ | refine mo_hWr ?_ | refine mo_hLn (fun _ => ?_) | refine mo_hgL (fun _ => ?_) | refine mo_hpL ?_ | refine mo_hpZ ?_ | refine mo_bd ?_ (fun _ => ?_) | refine mo_hCi (fun _ => ?_) (fun _ => ?_) | refine mo_hNw (fun _ => ?_) | refine mo_hNa (fun _ => ?_) | refine mo_hCp ?_ | refine mo_hOi ?_ | refine mo_hAl (fun _ => ?_) | refine mo_hWl ?_ | refine mo_gd ?_ | refine mo_sLn (fun _ => ?_) | refine mo_sAt (fun _ => ?_) | refine mo_kLn (fun _ => ?_) | refine mo_kAt (fun _ => ?_))
set_option maxRecDepth 10000 in
theorem mX_X11_filter {w : Wd} (hw : Wc w) (hz : Wz w) (l0 : Nat) (l1 : Int32) (l2 : Int32) (l3 : Int32) : MX w yX11_filter cX11_filter 4 (some .int) 8 134 voI [va_rf (some l0), .int l1, .int l2, .int l3] (C_X11_filter l0 l1 l2 l3) := by
  have M0 : ∀ g : Gm Hp (Nat ⊕ Int32), g.1 = w → Bz g cX11_filter 4 RX11 voI (some .int) 8 134 "filter" → Sm g 4 0 (lv_args 0 [va_rf (some l0), .int l1, .int l2, .int l3]) [] (C_X11_filter l0 l1 l2 l3) := by
    intro g hg B
    subst hg
    unfold C_X11_filter
    refine W_lva (lv := [(0, va_rf (some l0)), (1, .int l1), (2, .int l2), (3, .int l3)]) (by simp [lv_args, va_rf_cat, cat_i, cat_l, cat_r]) ?_
    refine s_rload_n B.1.1 0 dX11_filter_0 rfl rfl ?_
    refine s_iload_n B.1.1 1 dX11_filter_1 rfl rfl ?_
    refine s_iload_n B.1.1 2 dX11_filter_2 rfl rfl ?_
    refine x_cvr (As := [.int l1, .int l2]) (st := []) 13 rfl (by decide) B (fun a => mX_X11_subscriptionOf B.2.1 B.2.2.2.2.2.1 a l1 l2) cc_X11_subscriptionOf cl_X11_197 cn_X11_subscriptionOf ce_X11_subscriptionOf ci_X11 cd_X11_subscriptionOf (by decide) rfl (Nat.le_of_ble_eq_true rfl) dX11_filter_3 (fun r1 => ?_)
    refine hp_getR B.1 11 0 rfl (by decide) inX9 (by decide) fk_X9_0 cf_X11_209 dX11_filter_6 (fun v2 => ?_)
    refine s_iload_n B.1.1 3 dX11_filter_9 rfl rfl ?_
    refine hp_cvi (As := [.int l3]) (st := []) 9 rfl (by decide) B.1 (fun a => mC_X7_at B.2.1 a l3) cc_X7_at cl_X11_194 cn_X7_at ce_X7_at ci_X7 cd_X7_at (by decide) rfl (Nat.le_of_ble_eq_true rfl) dX11_filter_10 (fun r3 => ?_)
    exact x_iret B dX11_filter_13
  exact MX.of hw hz ⟨rfl, rfl⟩ (by decide) (by simp [lg_sl, va_rf_cat, cat_i, cat_l, cat_r]) (mo_C_X11_filter l0 l1 l2 l3) M0
def C_X11_retained_J9 (l0 : Nat) : Hp → Option ((Nat ⊕ Int32) × Hp) :=
  hTh 1
set_option maxRecDepth 10000 in
theorem mo_C_X11_retained_J9 (l0 : Nat) : Mo (C_X11_retained_J9 l0) := by
  unfold C_X11_retained_J9
  repeat' (with_reducible first | assumption | exact mo_rt _ | exact mo_zt _ | exact mo_no | exact mo_hTh _ | exact mo_zx _ | refine mo_hCx (fun _ => ?_) (fun _ => ?_) | refine mo_ite ?_ ?_ | refine mo_hgI (fun _ => ?_) | refine mo_hgR (fun _ => ?_) | refine mo_hCv (fun _ => ?_) (fun _ => ?_) | refine mo_lq (fun _ => ?_) | refine mo_hpI ?_ | refine mo_hpR ?_ | refine mo_hAi (fun _ => ?_) | refine mo_hAr (fun _ => ?_) | refine mo_hWi ?_ | refine mo_hWr ?_ | refine mo_hLn (fun _ => ?_) | refine mo_hgL (fun _ => ?_) | refine mo_hpL ?_ | refine mo_hpZ ?_ | refine mo_bd ?_ (fun _ => ?_) | refine mo_hCi (fun _ => ?_) (fun _ => ?_) | refine mo_hNw (fun _ => ?_) | refine mo_hNa (fun _ => ?_) | refine mo_hCp ?_ | refine mo_hOi ?_ | refine mo_hAl (fun _ => ?_) | refine mo_hWl ?_ | refine mo_gd ?_ | refine mo_sLn (fun _ => ?_) | refine mo_sAt (fun _ => ?_) | refine mo_kLn (fun _ => ?_) | refine mo_kAt (fun _ => ?_))
set_option maxRecDepth 10000 in
theorem sc_X11_retained_J9 {g : Gm Hp (Nat ⊕ Int32)} (B : Bz g cX11_retained 4 RX11 voI (some .int) 6 90 "retained") {l0 : Nat} : Sm g 4 9 [] [] (C_X11_retained_J9 l0) := by
  unfold C_X11_retained_J9
  exact x_throw B 1 rfl exk_1 exi_1 exg_1 exb_1 exo_1 (by decide) (Nat.le_of_ble_eq_true rfl) dX11_retained_9 dX11_retained_12 dX11_retained_13 dX11_retained_16
def C_X11_retained (l0 : Nat) (l1 : Int32) (l2 : Int32) : Hp → Option ((Nat ⊕ Int32) × Hp) :=
  if l2 < 0 then (
    hTh 1
  ) else (
    if l2 ≤ (3 : Int32) then (
      hgR 13 2 (some l0) fun v1 =>
      hCv 8 v1 (fun a => C_X6_get a l1) fun r2 =>
      if r2 = none then (
        rt (.inr ((-1 : Int32)))
      ) else (
        if l2 = 0 then (
          hgR 5 0 r2 fun v3 =>
          hCv 9 v3 (fun a => C_X7_count a) fun r4 =>
          rt (.inr (r4))
        ) else
        if l2 = 1 then (
          hgR 5 1 r2 fun v5 =>
          hCv 9 v5 (fun a => C_X7_count a) fun r6 =>
          rt (.inr (r6))
        ) else
        if l2 = 2 then (
          hgI 5 2 r2 fun v7 =>
          rt (.inr (v7))
        ) else
        (
          hgL 5 7 r2 fun v8 =>
          if (lg_cmp v8 (-1 : Int64)) = 0 then (
            rt (.inr ((-1 : Int32)))
          ) else (
            hgI 13 9 (some l0) fun v9 =>
            hCv 5 r2 (fun a => C_X3_left a v9) fun r10 =>
            rt (.inr ((lmin (2147483647 : Int64) r10).toInt32))
          )
        )
      )
    ) else (
      hTh 1
    )
  )
set_option maxRecDepth 10000 in
theorem mo_C_X11_retained (l0 : Nat) (l1 : Int32) (l2 : Int32) : Mo (C_X11_retained l0 l1 l2) := by
  unfold C_X11_retained
  repeat' (with_reducible first | assumption | exact mo_rt _ | exact mo_zt _ | exact mo_no | apply mo_C_X6_get | apply mo_C_X7_count | apply mo_C_X3_left | exact mo_hTh _ | exact mo_zx _ | refine mo_hCx (fun _ => ?_) (fun _ => ?_) | refine mo_ite ?_ ?_ | refine mo_hgI (fun _ => ?_) | refine mo_hgR (fun _ => ?_) | refine mo_hCv (fun _ => ?_) (fun _ => ?_) | refine mo_lq (fun _ => ?_) | refine mo_hpI ?_ | refine mo_hpR ?_ | refine mo_hAi (fun _ => ?_) | refine mo_hAr (fun _ => ?_) | refine mo_hWi ?_ | refine mo_hWr ?_ | refine mo_hLn (fun _ => ?_) | refine mo_hgL (fun _ => ?_) | refine mo_hpL ?_ | refine mo_hpZ ?_ | refine mo_bd ?_ (fun _ => ?_) | refine mo_hCi (fun _ => ?_) (fun _ => ?_) | refine mo_hNw (fun _ => ?_) | refine mo_hNa (fun _ => ?_) | refine mo_hCp ?_ | refine mo_hOi ?_ | refine mo_hAl (fun _ => ?_) | refine mo_hWl ?_ | refine mo_gd ?_ | refine mo_sLn (fun _ => ?_) | refine mo_sAt (fun _ => ?_) | refine mo_kLn (fun _ => ?_) | refine mo_kAt (fun _ => ?_))
set_option maxRecDepth 10000 in
theorem mX_X11_retained {w : Wd} (hw : Wc w) (hz : Wz w) (l0 : Nat) (l1 : Int32) (l2 : Int32) : MX w yX11_retained cX11_retained 4 (some .int) 6 90 voI [va_rf (some l0), .int l1, .int l2] (C_X11_retained l0 l1 l2) := by
  have M0 : ∀ g : Gm Hp (Nat ⊕ Int32), g.1 = w → Bz g cX11_retained 4 RX11 voI (some .int) 6 90 "retained" → Sm g 4 0 (lv_args 0 [va_rf (some l0), .int l1, .int l2]) [] (C_X11_retained l0 l1 l2) := by
    intro g hg B
    subst hg
    unfold C_X11_retained
    refine W_lva (lv := [(0, va_rf (some l0)), (1, .int l1), (2, .int l2)]) (by simp [lv_args, va_rf_cat, cat_i, cat_l, cat_r]) ?_
    refine s_iload_n B.1.1 2 dX11_retained_0 rfl rfl ?_
    refine s_if_lt B.1.1 9 dX11_retained_1 (by decide) ?_ ?_
    · exact x_throw B 1 rfl exk_1 exi_1 exg_1 exb_1 exo_1 (by decide) (Nat.le_of_ble_eq_true rfl) dX11_retained_9 dX11_retained_12 dX11_retained_13 dX11_retained_16
    · refine s_iload_n B.1.1 2 dX11_retained_4 rfl rfl ?_
      refine s_iconst (v := 3) B.1.1 dX11_retained_5 (by decide) ?_
      refine s_icmp_le B.1.1 17 dX11_retained_6 (by decide) ?_ ?_
      · refine s_rload_n B.1.1 0 dX11_retained_17 rfl rfl ?_
        refine hp_getR B.1 13 2 rfl (by decide) inX11 (by decide) fk_X11_2 cf_X11_27 dX11_retained_18 (fun v1 => ?_)
        refine s_iload_n B.1.1 1 dX11_retained_21 rfl rfl ?_
        refine hp_cvr (As := [.int l1]) (st := []) 8 rfl (by decide) B.1 (fun a => mC_X6_get B.2.1 a l1) cc_X6_get cl_X11_215 cn_X6_get ce_X6_get ci_X6 cd_X6_get (by decide) rfl (Nat.le_of_ble_eq_true rfl) dX11_retained_22 (fun r2 => ?_)
        refine s_rstore_n (i := 3) (lv' := [(3, va_rf r2), (0, va_rf (some l0)), (1, .int l1), (2, .int l2)]) B.1.1 dX11_retained_25 rfl (by decide) rfl ?_
        refine s_rload_n B.1.1 0 dX11_retained_26 rfl rfl ?_
        refine s_ifnonnull B.1.1 32 dX11_retained_27 (by decide) ?_ ?_
        · refine s_iload_n B.1.1 3 dX11_retained_32 rfl rfl ?_
          refine s_sw1 B.1.1 0 60 dX11_retained_33 (by decide) (by decide) rfl (by decide) ?_ (fun hn0 => ?_)
          · refine s_rload_n B.1.1 0 dX11_retained_60 rfl rfl ?_
            refine hp_getR B.1 5 0 rfl (by decide) inX3 (by decide) fk_X3_0 cf_X11_219 dX11_retained_61 (fun v3 => ?_)
            refine hp_cvi (As := []) (st := []) 9 rfl (by decide) B.1 (fun a => mC_X7_count B.2.1 a ) cc_X7_count cl_X11_178 cn_X7_count ce_X7_count ci_X7 cd_X7_count (by decide) rfl (Nat.le_of_ble_eq_true rfl) dX11_retained_64 (fun r4 => ?_)
            exact x_iret B dX11_retained_67
          refine s_sw1 B.1.1 1 68 dX11_retained_33 (by decide) (by decide) rfl (by decide) ?_ (fun hn1 => ?_)
          · refine s_rload_n B.1.1 0 dX11_retained_68 rfl rfl ?_
            refine hp_getR B.1 5 1 rfl (by decide) inX3 (by decide) fk_X3_1 cf_X11_224 dX11_retained_69 (fun v5 => ?_)
            refine hp_cvi (As := []) (st := []) 9 rfl (by decide) B.1 (fun a => mC_X7_count B.2.1 a ) cc_X7_count cl_X11_178 cn_X7_count ce_X7_count ci_X7 cd_X7_count (by decide) rfl (Nat.le_of_ble_eq_true rfl) dX11_retained_72 (fun r6 => ?_)
            exact x_iret B dX11_retained_75
          refine s_sw1 B.1.1 2 76 dX11_retained_33 (by decide) (by decide) rfl (by decide) ?_ (fun hn2 => ?_)
          · refine s_rload_n B.1.1 0 dX11_retained_76 rfl rfl ?_
            refine hp_getI B.1 5 2 rfl (by decide) inX3 (by decide) fk_X3_2.1 fk_X3_2.2 cf_X11_227 dX11_retained_77 (fun v7 => ?_)
            exact x_iret B dX11_retained_80
          have hout : (l2).toInt < 0 ∨ 2 < (l2).toInt := by
            have z0 : ¬ (l2).toInt = 0 := sw_ne hn0 (by decide); have z1 : ¬ (l2).toInt = 1 := sw_ne hn1 (by decide); have z2 : ¬ (l2).toInt = 2 := sw_ne hn2 (by decide); omega
          refine s_swD B.1.1 81 dX11_retained_33 hout (by decide) ?_
          refine s_rload_n B.1.1 0 dX11_retained_81 rfl rfl ?_
          refine hp_getL B.1 5 7 rfl (by decide) inX3 (by decide) fk_X3_7 cf_X11_230 dX11_retained_82 (fun v8 => ?_)
          refine s_ldc2 (v := (-1)) B.1.1 tw_1126 dX11_retained_85 ?_
          refine s_lcmp B.1.1 dX11_retained_88 ?_
          refine s_if_ne B.1.1 96 dX11_retained_89 (by decide) ?_ ?_
          · refine s_ldc2 (v := (2147483647)) B.1.1 tw_1546 dX11_retained_96 ?_
            refine s_rload_n B.1.1 0 dX11_retained_99 rfl rfl ?_
            refine s_rload_n B.1.1 1 dX11_retained_100 rfl rfl ?_
            refine hp_getI B.1 13 9 rfl (by decide) inX11 (by decide) fk_X11_9.1 fk_X11_9.2 cf_X11_131 dX11_retained_101 (fun v9 => ?_)
            refine hp_cvl (As := [.int v9]) (st := [.long (2147483647 : Int64)]) 5 rfl (by decide) B.1 (fun a => mC_X3_left B.2.1 a v9) cc_X3_left cl_X11_237 cn_X3_left ce_X3_left ci_X3 cd_X3_left (by decide) rfl (Nat.le_of_ble_eq_true rfl) dX11_retained_104 (fun r10 => ?_)
            refine s_mminl B.1.1 B.1.2.1 tw_1472 (by decide) (Nat.le_of_ble_eq_true rfl) dX11_retained_107 ?_
            refine s_l2i B.1.1 dX11_retained_110 ?_
            exact x_iret B dX11_retained_111
          · refine s_iconst (v := (-1)) B.1.1 dX11_retained_92 (by decide) ?_
            refine s_goto B.1.1 111 dX11_retained_93 (by decide) ?_
            exact x_iret B dX11_retained_111
        · refine s_iconst (v := (-1)) B.1.1 dX11_retained_30 (by decide) ?_
          exact x_iret B dX11_retained_31
      · exact x_throw B 1 rfl exk_1 exi_1 exg_1 exb_1 exo_1 (by decide) (Nat.le_of_ble_eq_true rfl) dX11_retained_9 dX11_retained_12 dX11_retained_13 dX11_retained_16
  exact MX.of hw hz ⟨rfl, rfl⟩ (by decide) (by simp [lg_sl, va_rf_cat, cat_i, cat_l, cat_r]) (mo_C_X11_retained l0 l1 l2) M0
def C_X11_told (l0 : Nat) (l1 : Int32) : Hp → Option ((Nat ⊕ Int32) × Hp) :=
  if l1 = 0 then (
    hCv 13 (some l0) (fun a => C_X11_countSessions a) fun r1 =>
    rt (.inr (r1))
  ) else
  if l1 = 1 then (
    hgR 13 2 (some l0) fun v2 =>
    hgI 8 1 v2 fun v3 =>
    rt (.inr (v3))
  ) else
  if l1 = 2 then (
    hgI 13 10 (some l0) fun v4 =>
    rt (.inr (v4))
  ) else
  if l1 = 3 then (
    hCv 13 (some l0) (fun a => C_X11_countSent a) fun r5 =>
    rt (.inr (r5))
  ) else
  if l1 = 4 then (
    hgI 13 11 (some l0) fun v6 =>
    rt (.inr (v6))
  ) else
  if l1 = 5 then (
    hgI 13 12 (some l0) fun v7 =>
    rt (.inr (v7))
  ) else
  if l1 = 6 then (
    hgI 13 9 (some l0) fun v8 =>
    rt (.inr (v8))
  ) else
  if l1 = 7 then (
    hgI 13 14 (some l0) fun v9 =>
    rt (.inr (v9))
  ) else
  (
    hTh 1
  )
set_option maxRecDepth 10000 in
theorem mo_C_X11_told (l0 : Nat) (l1 : Int32) : Mo (C_X11_told l0 l1) := by
  unfold C_X11_told
  repeat' (with_reducible first | assumption | exact mo_rt _ | exact mo_zt _ | exact mo_no | apply mo_C_X11_countSessions | apply mo_C_X11_countSent | exact mo_hTh _ | exact mo_zx _ | refine mo_hCx (fun _ => ?_) (fun _ => ?_) | refine mo_ite ?_ ?_ | refine mo_hgI (fun _ => ?_) | refine mo_hgR (fun _ => ?_) | refine mo_hCv (fun _ => ?_) (fun _ => ?_) | refine mo_lq (fun _ => ?_) | refine mo_hpI ?_ | refine mo_hpR ?_ | refine mo_hAi (fun _ => ?_) | refine mo_hAr (fun _ => ?_) | refine mo_hWi ?_ | refine mo_hWr ?_ | refine mo_hLn (fun _ => ?_) | refine mo_hgL (fun _ => ?_) | refine mo_hpL ?_ | refine mo_hpZ ?_ | refine mo_bd ?_ (fun _ => ?_) | refine mo_hCi (fun _ => ?_) (fun _ => ?_) | refine mo_hNw (fun _ => ?_) | refine mo_hNa (fun _ => ?_) | refine mo_hCp ?_ | refine mo_hOi ?_ | refine mo_hAl (fun _ => ?_) | refine mo_hWl ?_ | refine mo_gd ?_ | refine mo_sLn (fun _ => ?_) | refine mo_sAt (fun _ => ?_) | refine mo_kLn (fun _ => ?_) | refine mo_kAt (fun _ => ?_))
set_option maxRecDepth 10000 in
theorem mX_X11_told {w : Wd} (hw : Wc w) (hz : Wz w) (l0 : Nat) (l1 : Int32) : MX w yX11_told cX11_told 2 (some .int) 6 90 voI [va_rf (some l0), .int l1] (C_X11_told l0 l1) := by
  have M0 : ∀ g : Gm Hp (Nat ⊕ Int32), g.1 = w → Bz g cX11_told 2 RX11 voI (some .int) 6 90 "told" → Sm g 2 0 (lv_args 0 [va_rf (some l0), .int l1]) [] (C_X11_told l0 l1) := by
    intro g hg B
    subst hg
    unfold C_X11_told
    refine W_lva (lv := [(0, va_rf (some l0)), (1, .int l1)]) (by simp [lv_args, va_rf_cat, cat_i, cat_l, cat_r]) ?_
    refine s_iload_n B.1.1 1 dX11_told_0 rfl rfl ?_
    refine s_sw1 B.1.1 0 48 dX11_told_1 (by decide) (by decide) rfl (by decide) ?_ (fun hn0 => ?_)
    · refine s_rload_n B.1.1 0 dX11_told_48 rfl rfl ?_
      refine hp_cvi (As := []) (st := []) 13 rfl (by decide) B.1 (fun a => mC_X11_countSessions B.2.1 a ) cc_X11_countSessions cl_X11_241 cn_X11_countSessions ce_X11_countSessions ci_X11 cd_X11_countSessions (by decide) rfl (Nat.le_of_ble_eq_true rfl) dX11_told_49 (fun r1 => ?_)
      exact x_iret B dX11_told_52
    refine s_sw1 B.1.1 1 53 dX11_told_1 (by decide) (by decide) rfl (by decide) ?_ (fun hn1 => ?_)
    · refine s_rload_n B.1.1 0 dX11_told_53 rfl rfl ?_
      refine hp_getR B.1 13 2 rfl (by decide) inX11 (by decide) fk_X11_2 cf_X11_27 dX11_told_54 (fun v2 => ?_)
      refine hp_getI B.1 8 1 rfl (by decide) inX6 (by decide) fk_X6_1.1 fk_X6_1.2 cf_X11_244 dX11_told_57 (fun v3 => ?_)
      exact x_iret B dX11_told_60
    refine s_sw1 B.1.1 2 61 dX11_told_1 (by decide) (by decide) rfl (by decide) ?_ (fun hn2 => ?_)
    · refine s_rload_n B.1.1 0 dX11_told_61 rfl rfl ?_
      refine hp_getI B.1 13 10 rfl (by decide) inX11 (by decide) fk_X11_10.1 fk_X11_10.2 cf_X11_87 dX11_told_62 (fun v4 => ?_)
      exact x_iret B dX11_told_65
    refine s_sw1 B.1.1 3 66 dX11_told_1 (by decide) (by decide) rfl (by decide) ?_ (fun hn3 => ?_)
    · refine s_rload_n B.1.1 0 dX11_told_66 rfl rfl ?_
      refine hp_cvi (As := []) (st := []) 13 rfl (by decide) B.1 (fun a => mC_X11_countSent B.2.1 a ) cc_X11_countSent cl_X11_246 cn_X11_countSent ce_X11_countSent ci_X11 cd_X11_countSent (by decide) rfl (Nat.le_of_ble_eq_true rfl) dX11_told_67 (fun r5 => ?_)
      exact x_iret B dX11_told_70
    refine s_sw1 B.1.1 4 71 dX11_told_1 (by decide) (by decide) rfl (by decide) ?_ (fun hn4 => ?_)
    · refine s_rload_n B.1.1 0 dX11_told_71 rfl rfl ?_
      refine hp_getI B.1 13 11 rfl (by decide) inX11 (by decide) fk_X11_11.1 fk_X11_11.2 cf_X11_249 dX11_told_72 (fun v6 => ?_)
      exact x_iret B dX11_told_75
    refine s_sw1 B.1.1 5 76 dX11_told_1 (by decide) (by decide) rfl (by decide) ?_ (fun hn5 => ?_)
    · refine s_rload_n B.1.1 0 dX11_told_76 rfl rfl ?_
      refine hp_getI B.1 13 12 rfl (by decide) inX11 (by decide) fk_X11_12.1 fk_X11_12.2 cf_X11_252 dX11_told_77 (fun v7 => ?_)
      exact x_iret B dX11_told_80
    refine s_sw1 B.1.1 6 81 dX11_told_1 (by decide) (by decide) rfl (by decide) ?_ (fun hn6 => ?_)
    · refine s_rload_n B.1.1 0 dX11_told_81 rfl rfl ?_
      refine hp_getI B.1 13 9 rfl (by decide) inX11 (by decide) fk_X11_9.1 fk_X11_9.2 cf_X11_131 dX11_told_82 (fun v8 => ?_)
      exact x_iret B dX11_told_85
    refine s_sw1 B.1.1 7 86 dX11_told_1 (by decide) (by decide) rfl (by decide) ?_ (fun hn7 => ?_)
    · refine s_rload_n B.1.1 0 dX11_told_86 rfl rfl ?_
      refine hp_getI B.1 13 14 rfl (by decide) inX11 (by decide) fk_X11_14.1 fk_X11_14.2 cf_X11_255 dX11_told_87 (fun v9 => ?_)
      exact x_iret B dX11_told_90
    have hout : (l1).toInt < 0 ∨ 7 < (l1).toInt := by
      have z0 : ¬ (l1).toInt = 0 := sw_ne hn0 (by decide); have z1 : ¬ (l1).toInt = 1 := sw_ne hn1 (by decide); have z2 : ¬ (l1).toInt = 2 := sw_ne hn2 (by decide); have z3 : ¬ (l1).toInt = 3 := sw_ne hn3 (by decide); have z4 : ¬ (l1).toInt = 4 := sw_ne hn4 (by decide); have z5 : ¬ (l1).toInt = 5 := sw_ne hn5 (by decide); have z6 : ¬ (l1).toInt = 6 := sw_ne hn6 (by decide); have z7 : ¬ (l1).toInt = 7 := sw_ne hn7 (by decide); omega
    refine s_swD B.1.1 91 dX11_told_1 hout (by decide) ?_
    exact x_throw B 1 rfl exk_1 exi_1 exg_1 exb_1 exo_1 (by decide) (Nat.le_of_ble_eq_true rfl) dX11_told_91 dX11_told_94 dX11_told_95 dX11_told_98
  exact MX.of hw hz ⟨rfl, rfl⟩ (by decide) (by simp [lg_sl, va_rf_cat, cat_i, cat_l, cat_r]) (mo_C_X11_told l0 l1) M0
