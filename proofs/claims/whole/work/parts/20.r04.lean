def R_properties_J101 : RS → Option (Unit × RS) :=
  rI 77 fun v1 =>
  wI 78 (v1) <|
  rt ()
set_option maxRecDepth 10000 in
theorem sm_properties_J101 {g : Gm RS Unit} (B : Br g cX12_properties 5 voV none 6 128) : Sm g 5 101 [(0, .ref g.1.2.2.2.2.2)] [] (R_properties_J101) := by
  unfold R_properties_J101
  refine s_aload_n B.1 0 dX12_properties_101 rfl rfl ?_
  refine s_aload_n B.1 0 dX12_properties_102 rfl rfl ?_
  refine rr_getI B 77 mh_77 mk_77 mf_77 dX12_properties_103 (fun v1 => ?_)
  refine rr_putI B 78 mh_78 mk_78 mf_78 dX12_properties_106 ?_
  exact s_vret B.1 B.2.1 dX12_properties_109
def R_properties_B75 (kb : Int64 → RS → Option (Unit × RS)) (ke101 : RS → Option (Unit × RS)) (l1 : Int64) : RS → Option (Unit × RS) :=
  rI 76 fun v2 =>
  rI 78 fun v3 =>
  if v3 ≤ v2 then (
    ke101
  ) else (
    rI 79 fun v4 =>
    if v4 = 0 then (
      bd (R_property l1) fun r5 =>
      kb l1
    ) else (
      ke101
    )
  )
def R_properties_L75 (ke101 : RS → Option (Unit × RS)) : Nat → Int64 → RS → Option (Unit × RS)
  | 0, _ => no
  | n + 1, l1 => R_properties_B75 (fun l1 => R_properties_L75 ke101 n l1) ke101 l1
set_option maxRecDepth 10000 in
theorem sm_properties_B75 {g : Gm RS Unit} {kb : Int64 → RS → Option (Unit × RS)} {ke101 : RS → Option (Unit × RS)} (B : Br g cX12_properties 5 voV none 6 128) (hkb : ∀ (l1 : Int64), Sm g 5 75 [(0, .ref g.1.2.2.2.2.2), (1, .long l1)] [] (kb l1)) (hke101 : Sm g 5 101 [(0, .ref g.1.2.2.2.2.2)] [] (ke101)) (l1 : Int64) : Sm g 5 75 [(0, .ref g.1.2.2.2.2.2), (1, .long l1)] [] (R_properties_B75 kb ke101 l1) := by
  unfold R_properties_B75
  refine s_aload_n B.1 0 dX12_properties_75 rfl rfl ?_
  refine rr_getI B 76 mh_76 mk_76 mf_76 dX12_properties_76 (fun v2 => ?_)
  refine s_aload_n B.1 0 dX12_properties_79 rfl rfl ?_
  refine rr_getI B 78 mh_78 mk_78 mf_78 dX12_properties_80 (fun v3 => ?_)
  refine s_icmp_ge B.1 101 dX12_properties_83 (by decide) ?_ ?_
  · exact Sm.lvs [0] rfl (hke101)
  · refine s_aload_n B.1 0 dX12_properties_86 rfl rfl ?_
    refine rr_getI B 79 mh_79 mk_79 mf_79 dX12_properties_87 (fun v4 => ?_)
    refine s_if_ne B.1 101 dX12_properties_90 (by decide) ?_ ?_
    · exact Sm.lvs [0] rfl (hke101)
    · refine s_aload_n B.1 0 dX12_properties_93 rfl rfl ?_
      refine s_lload_n B.1 1 dX12_properties_94 rfl rfl ?_
      refine rr_cvv (As := [.long l1]) (st := []) B (m_property B.ok l1) mc_property ml_property mi_property me_property ini12 md_property (by decide) rfl (Nat.le_of_ble_eq_true rfl) dX12_properties_95 (fun r5 => ?_)
      refine s_goto B.1 75 dX12_properties_98 (by decide) ?_
      exact Sm.lvs [0, 1] rfl (hkb l1)
set_option maxRecDepth 10000 in
theorem sm_properties_L75 {g : Gm RS Unit} {ke101 : RS → Option (Unit × RS)} (B : Br g cX12_properties 5 voV none 6 128) (hke101 : Sm g 5 101 [(0, .ref g.1.2.2.2.2.2)] [] (ke101)) : ∀ (n : Nat) (l1 : Int64), Sm g 5 75 [(0, .ref g.1.2.2.2.2.2), (1, .long l1)] [] (R_properties_L75 ke101 n l1)
  | 0, _ => Sm.fail
  | n + 1, l1 => sm_properties_B75 B (sm_properties_L75 B hke101 n) hke101 l1
def R_properties_J21 (l1 : Int64) : RS → Option (Unit × RS) :=
  wI 87 ((0 : Int32)) <|
  bd (R_variable) fun r6 =>
  rI 79 fun v7 =>
  if v7 = 0 then (
    rI 76 fun v8 =>
    rI 77 fun v9 =>
    if (lg_cmp (v8.toInt64 + r6) v9.toInt64) ≤ 0 then (
      rI 76 fun v10 =>
      wI 78 ((v10.toInt64 + r6).toInt32) <|
      R_properties_L75 (R_properties_J101) fu l1
    ) else (
      bd (R_fails (129 : Int32)) fun r11 =>
      rt ()
    )
  ) else (
    rt ()
  )
set_option maxRecDepth 10000 in
theorem sm_properties_J21 {g : Gm RS Unit} (B : Br g cX12_properties 5 voV none 6 128) (l1 : Int64) : Sm g 5 21 [(0, .ref g.1.2.2.2.2.2), (1, .long l1)] [] (R_properties_J21 l1) := by
  unfold R_properties_J21
  refine s_aload_n B.1 0 dX12_properties_21 rfl rfl ?_
  refine s_iconst (v := 0) B.1 dX12_properties_22 (by decide) ?_
  refine rr_putI B 87 mh_87 mk_87 mf_87 dX12_properties_23 ?_
  refine s_aload_n B.1 0 dX12_properties_26 rfl rfl ?_
  refine rr_cvl (As := []) (st := []) B (m_variable B.ok) mc_variable ml_variable mi_variable me_variable ini12 md_variable (by decide) rfl (Nat.le_of_ble_eq_true rfl) dX12_properties_27 (fun r6 => ?_)
  refine s_lstore_n (lv' := [(3, .long r6), (0, .ref g.1.2.2.2.2.2), (1, .long l1)]) B.1 dX12_properties_30 rfl (by decide) rfl ?_
  refine s_aload_n B.1 1 dX12_properties_31 rfl rfl ?_
  refine rr_getI B 79 mh_79 mk_79 mf_79 dX12_properties_32 (fun v7 => ?_)
  refine s_if_eq B.1 39 dX12_properties_35 (by decide) ?_ ?_
  · refine s_aload_n B.1 1 dX12_properties_39 rfl rfl ?_
    refine rr_getI B 76 mh_76 mk_76 mf_76 dX12_properties_40 (fun v8 => ?_)
    refine s_i2l B.1 dX12_properties_43 ?_
    refine s_lload_n B.1 0 dX12_properties_44 rfl rfl ?_
    refine s_ladd B.1 dX12_properties_45 ?_
    refine s_aload_n B.1 1 dX12_properties_46 rfl rfl ?_
    refine rr_getI B 77 mh_77 mk_77 mf_77 dX12_properties_47 (fun v9 => ?_)
    refine s_i2l B.1 dX12_properties_50 ?_
    refine s_lcmp B.1 dX12_properties_51 ?_
    refine s_if_le B.1 63 dX12_properties_52 (by decide) ?_ ?_
    · refine s_aload_n B.1 1 dX12_properties_63 rfl rfl ?_
      refine s_aload_n B.1 1 dX12_properties_64 rfl rfl ?_
      refine rr_getI B 76 mh_76 mk_76 mf_76 dX12_properties_65 (fun v10 => ?_)
      refine s_i2l B.1 dX12_properties_68 ?_
      refine s_lload_n B.1 0 dX12_properties_69 rfl rfl ?_
      refine s_ladd B.1 dX12_properties_70 ?_
      refine s_l2i B.1 dX12_properties_71 ?_
      refine rr_putI B 78 mh_78 mk_78 mf_78 dX12_properties_72 ?_
      exact Sm.lvs [1, 2] rfl (sm_properties_L75 B (sm_properties_J101 B) fu l1)
    · refine s_aload_n B.1 1 dX12_properties_55 rfl rfl ?_
      refine s_sipush (v := (129)) B.1 dX12_properties_56 (by decide) ?_
      refine rr_cvv (As := [.int (129 : Int32)]) (st := []) B (m_fails B.ok (129 : Int32)) mc_fails ml_fails mi_fails me_fails ini12 md_fails (by decide) rfl (Nat.le_of_ble_eq_true rfl) dX12_properties_59 (fun r11 => ?_)
      exact s_vret B.1 B.2.1 dX12_properties_62
  · exact s_vret B.1 B.2.1 dX12_properties_38
def R_properties_B2 (kb : Int64 → Int32 → RS → Option (Unit × RS)) (ke21 : Int64 → RS → Option (Unit × RS)) (l1 : Int64) (l3 : Int32) : RS → Option (Unit × RS) :=
  if (64 : Int32) ≤ l3 then (
    ke21 l1
  ) else (
    wA 82 l3 (vp_nar .boolean (0 : Int32)) <|
    kb l1 (l3 + 1)
  )
def R_properties_L2 (ke21 : Int64 → RS → Option (Unit × RS)) : Nat → Int64 → Int32 → RS → Option (Unit × RS)
  | 0, _, _ => no
  | n + 1, l1, l3 => R_properties_B2 (fun l1 l3 => R_properties_L2 ke21 n l1 l3) ke21 l1 l3
set_option maxRecDepth 10000 in
theorem sm_properties_B2 {g : Gm RS Unit} {kb : Int64 → Int32 → RS → Option (Unit × RS)} {ke21 : Int64 → RS → Option (Unit × RS)} (B : Br g cX12_properties 5 voV none 6 128) (hkb : ∀ (l1 : Int64) (l3 : Int32), Sm g 5 2 [(0, .ref g.1.2.2.2.2.2), (1, .long l1), (3, .int l3)] [] (kb l1 l3)) (hke21 : ∀ (l1 : Int64), Sm g 5 21 [(0, .ref g.1.2.2.2.2.2), (1, .long l1)] [] (ke21 l1)) (l1 : Int64) (l3 : Int32) : Sm g 5 2 [(0, .ref g.1.2.2.2.2.2), (1, .long l1), (3, .int l3)] [] (R_properties_B2 kb ke21 l1 l3) := by
  unfold R_properties_B2
  refine s_iload_n B.1 2 dX12_properties_2 rfl rfl ?_
  refine s_bipush (v := (64)) B.1 dX12_properties_3 (by decide) ?_
  refine s_icmp_ge B.1 21 dX12_properties_5 (by decide) ?_ ?_
  · exact Sm.lvs [0, 1] rfl (hke21 l1)
  · refine s_aload_n B.1 0 dX12_properties_8 rfl rfl ?_
    refine rr_getA B 82 mh_82 mn_82 mf_82 dX12_properties_9 ?_
    refine s_iload_n B.1 2 dX12_properties_12 rfl rfl ?_
    refine s_iconst (v := 0) B.1 dX12_properties_13 (by decide) ?_
    refine rr_zast B 82 mh_82 mk_82 dX12_properties_14 ?_
    refine s_iinc (v := l3 + 1) (lv' := [(3, .int (l3 + 1)), (0, .ref g.1.2.2.2.2.2), (1, .long l1)]) B.1 2 dX12_properties_15 rfl rfl (by decide) rfl ?_
    refine s_goto B.1 2 dX12_properties_18 (by decide) ?_
    exact Sm.lvs [1, 2, 0] rfl (hkb l1 (l3 + 1))
set_option maxRecDepth 10000 in
theorem sm_properties_L2 {g : Gm RS Unit} {ke21 : Int64 → RS → Option (Unit × RS)} (B : Br g cX12_properties 5 voV none 6 128) (hke21 : ∀ (l1 : Int64), Sm g 5 21 [(0, .ref g.1.2.2.2.2.2), (1, .long l1)] [] (ke21 l1)) : ∀ (n : Nat) (l1 : Int64) (l3 : Int32), Sm g 5 2 [(0, .ref g.1.2.2.2.2.2), (1, .long l1), (3, .int l3)] [] (R_properties_L2 ke21 n l1 l3)
  | 0, _, _ => Sm.fail
  | n + 1, l1, l3 => sm_properties_B2 B (sm_properties_L2 B hke21 n) hke21 l1 l3
def R_properties (l1 : Int64) : RS → Option (Unit × RS) :=
  R_properties_L2 (fun l1 => R_properties_J21 l1) fu l1 (0 : Int32)
set_option maxRecDepth 10000 in
theorem m_properties {w : Wd} (hw : Wok w) (l1 : Int64) : MR w yX12_properties cX12_properties 5 none 6 128 voV [.ref w.2.2.2.2.2, .long l1] (R_properties l1) := by
  refine MR.of hw rfl (Nat.le_of_ble_eq_true rfl) (fun g hg B => ?_)
  subst hg
  unfold R_properties
  show Sm g 5 0 [(0, .ref g.1.2.2.2.2.2), (1, .long l1)] [] _
  refine s_iconst (v := 0) B.1 dX12_properties_0 (by decide) ?_
  refine s_istore_n (lv' := [(3, .int (0 : Int32)), (0, .ref g.1.2.2.2.2.2), (1, .long l1)]) B.1 dX12_properties_1 rfl (by decide) rfl ?_
  exact Sm.lvs [1, 2, 0] rfl (sm_properties_L2 B (fun l1 => sm_properties_J21 B l1) fu l1 (0 : Int32))
def R_answered_J380 (s1 : Int32) (s2 : Int32) (s3 : Int32) : RS → Option (Unit × RS) :=
  bd (R_answer s1 s2 s3) fun r1 =>
  rt ()
set_option maxRecDepth 10000 in
theorem sm_answered_J380 {g : Gm RS Unit} (B : Br g cX12_answered 9 voV none 7 154) (s1 : Int32) (s2 : Int32) (s3 : Int32) : Sm g 9 380 [] [.int s3, .int s2, .int s1, .ref g.1.2.2.2.2.2] (R_answered_J380 s1 s2 s3) := by
  unfold R_answered_J380
  refine rr_cvv (As := [.int s1, .int s2, .int s3]) (st := []) B (m_answer B.ok s1 s2 s3) mc_answer ml_answer mi_answer me_answer ini12 md_answer (by decide) rfl (Nat.le_of_ble_eq_true rfl) dX12_answered_380 (fun r1 => ?_)
  exact s_vret B.1 B.2.1 dX12_answered_383
def R_answered_J364 (l3 : Int32) (l7 : Int32) : RS → Option (Unit × RS) :=
  if l7 < 0 then (
    R_answered_J380 (112 : Int32) l3 (146 : Int32)
  ) else (
    R_answered_J380 (112 : Int32) l3 (0 : Int32)
  )
set_option maxRecDepth 10000 in
theorem sm_answered_J364 {g : Gm RS Unit} (B : Br g cX12_answered 9 voV none 7 154) (l3 : Int32) (l7 : Int32) : Sm g 9 364 [(0, .ref g.1.2.2.2.2.2), (3, .int l3), (7, .int l7)] [] (R_answered_J364 l3 l7) := by
  unfold R_answered_J364
  refine s_aload_n B.1 0 dX12_answered_364 rfl rfl ?_
  refine s_bipush (v := (112)) B.1 dX12_answered_365 (by decide) ?_
  refine s_iload_n B.1 1 dX12_answered_367 rfl rfl ?_
  refine s_iload B.1 2 dX12_answered_368 rfl ?_
  refine s_if_lt B.1 377 dX12_answered_370 (by decide) ?_ ?_
  · refine s_sipush (v := (146)) B.1 dX12_answered_377 (by decide) ?_
    exact Sm.lvs [] rfl (sm_answered_J380 B (112 : Int32) l3 (146 : Int32))
  · refine s_iconst (v := 0) B.1 dX12_answered_373 (by decide) ?_
    refine s_goto B.1 380 dX12_answered_374 (by decide) ?_
    exact Sm.lvs [] rfl (sm_answered_J380 B (112 : Int32) l3 (0 : Int32))
def R_answered_J354 (l2 : Int32) (l3 : Int32) (l7 : Int32) : RS → Option (Unit × RS) :=
  rA 43 l2 fun v2 =>
  wA 43 l2 (v2 - (1 : Int32)) <|
  R_answered_J364 l3 l7
set_option maxRecDepth 10000 in
theorem sm_answered_J354 {g : Gm RS Unit} (B : Br g cX12_answered 9 voV none 7 154) (l2 : Int32) (l3 : Int32) (l7 : Int32) : Sm g 9 354 [(0, .ref g.1.2.2.2.2.2), (2, .int l2), (3, .int l3), (7, .int l7)] [] (R_answered_J354 l2 l3 l7) := by
  unfold R_answered_J354
  refine s_aload_n B.1 0 dX12_answered_354 rfl rfl ?_
  refine rr_getA B 43 mh_43 mn_43 mf_43 dX12_answered_355 ?_
  refine s_iload_n B.1 1 dX12_answered_358 rfl rfl ?_
  refine s_dup2 B.1 dX12_answered_359 rfl rfl ?_
  refine rr_iald B 43 mh_43 mk_43 dX12_answered_360 (fun v2 => ?_)
  refine s_iconst (v := 1) B.1 dX12_answered_361 (by decide) ?_
  refine s_isub B.1 dX12_answered_362 ?_
  refine rr_iast B 43 mh_43 mk_43 dX12_answered_363 ?_
  exact Sm.lvs [0, 2, 3] rfl (sm_answered_J364 B l3 l7)
def R_answered_B309 (kb : Int32 → Int32 → Int32 → Int32 → RS → Option (Unit × RS)) (ke354 : Int32 → Int32 → Int32 → RS → Option (Unit × RS)) (l2 : Int32) (l3 : Int32) (l7 : Int32) (l8 : Int32) : RS → Option (Unit × RS) :=
  rA 43 l2 fun v3 =>
  if v3 ≤ (l8 + (1 : Int32)) then (
    ke354 l2 l3 l7
  ) else (
    rA 44 ((((8 : Int32) * l2) + l8) + (1 : Int32)) fun v4 =>
    wA 44 (((8 : Int32) * l2) + l8) v4 <|
    kb l2 l3 l7 (l8 + 1)
  )
def R_answered_L309 (ke354 : Int32 → Int32 → Int32 → RS → Option (Unit × RS)) : Nat → Int32 → Int32 → Int32 → Int32 → RS → Option (Unit × RS)
  | 0, _, _, _, _ => no
  | n + 1, l2, l3, l7, l8 => R_answered_B309 (fun l2 l3 l7 l8 => R_answered_L309 ke354 n l2 l3 l7 l8) ke354 l2 l3 l7 l8
set_option maxRecDepth 10000 in
theorem sm_answered_B309 {g : Gm RS Unit} {kb : Int32 → Int32 → Int32 → Int32 → RS → Option (Unit × RS)} {ke354 : Int32 → Int32 → Int32 → RS → Option (Unit × RS)} (B : Br g cX12_answered 9 voV none 7 154) (hkb : ∀ (l2 : Int32) (l3 : Int32) (l7 : Int32) (l8 : Int32), Sm g 9 309 [(0, .ref g.1.2.2.2.2.2), (2, .int l2), (3, .int l3), (7, .int l7), (8, .int l8)] [] (kb l2 l3 l7 l8)) (hke354 : ∀ (l2 : Int32) (l3 : Int32) (l7 : Int32), Sm g 9 354 [(0, .ref g.1.2.2.2.2.2), (2, .int l2), (3, .int l3), (7, .int l7)] [] (ke354 l2 l3 l7)) (l2 : Int32) (l3 : Int32) (l7 : Int32) (l8 : Int32) : Sm g 9 309 [(0, .ref g.1.2.2.2.2.2), (2, .int l2), (3, .int l3), (7, .int l7), (8, .int l8)] [] (R_answered_B309 kb ke354 l2 l3 l7 l8) := by
  unfold R_answered_B309
  refine s_iload B.1 4 dX12_answered_309 rfl ?_
  refine s_iconst (v := 1) B.1 dX12_answered_311 (by decide) ?_
  refine s_iadd B.1 dX12_answered_312 ?_
  refine s_aload_n B.1 0 dX12_answered_313 rfl rfl ?_
  refine rr_getA B 43 mh_43 mn_43 mf_43 dX12_answered_314 ?_
  refine s_iload_n B.1 1 dX12_answered_317 rfl rfl ?_
  refine rr_iald B 43 mh_43 mk_43 dX12_answered_318 (fun v3 => ?_)
  refine s_icmp_ge B.1 354 dX12_answered_319 (by decide) ?_ ?_
  · exact Sm.lvs [0, 1, 2, 3] rfl (hke354 l2 l3 l7)
  · refine s_aload_n B.1 0 dX12_answered_322 rfl rfl ?_
    refine rr_getA B 44 mh_44 mn_44 mf_44 dX12_answered_323 ?_
    refine s_bipush (v := (8)) B.1 dX12_answered_326 (by decide) ?_
    refine s_iload_n B.1 1 dX12_answered_328 rfl rfl ?_
    refine s_imul B.1 dX12_answered_329 ?_
    refine s_iload B.1 4 dX12_answered_330 rfl ?_
    refine s_iadd B.1 dX12_answered_332 ?_
    refine s_aload_n B.1 0 dX12_answered_333 rfl rfl ?_
    refine rr_getA B 44 mh_44 mn_44 mf_44 dX12_answered_334 ?_
    refine s_bipush (v := (8)) B.1 dX12_answered_337 (by decide) ?_
    refine s_iload_n B.1 1 dX12_answered_339 rfl rfl ?_
    refine s_imul B.1 dX12_answered_340 ?_
    refine s_iload B.1 4 dX12_answered_341 rfl ?_
    refine s_iadd B.1 dX12_answered_343 ?_
    refine s_iconst (v := 1) B.1 dX12_answered_344 (by decide) ?_
    refine s_iadd B.1 dX12_answered_345 ?_
    refine rr_iald B 44 mh_44 mk_44 dX12_answered_346 (fun v4 => ?_)
    refine rr_iast B 44 mh_44 mk_44 dX12_answered_347 ?_
    refine s_iinc (v := l8 + 1) (lv' := [(8, .int (l8 + 1)), (0, .ref g.1.2.2.2.2.2), (2, .int l2), (3, .int l3), (7, .int l7)]) B.1 4 dX12_answered_348 rfl rfl (by decide) rfl ?_
    refine s_goto B.1 309 dX12_answered_351 (by decide) ?_
    exact Sm.lvs [1, 2, 3, 4, 0] rfl (hkb l2 l3 l7 (l8 + 1))
set_option maxRecDepth 10000 in
theorem sm_answered_L309 {g : Gm RS Unit} {ke354 : Int32 → Int32 → Int32 → RS → Option (Unit × RS)} (B : Br g cX12_answered 9 voV none 7 154) (hke354 : ∀ (l2 : Int32) (l3 : Int32) (l7 : Int32), Sm g 9 354 [(0, .ref g.1.2.2.2.2.2), (2, .int l2), (3, .int l3), (7, .int l7)] [] (ke354 l2 l3 l7)) : ∀ (n : Nat) (l2 : Int32) (l3 : Int32) (l7 : Int32) (l8 : Int32), Sm g 9 309 [(0, .ref g.1.2.2.2.2.2), (2, .int l2), (3, .int l3), (7, .int l7), (8, .int l8)] [] (R_answered_L309 ke354 n l2 l3 l7 l8)
  | 0, _, _, _, _ => Sm.fail
  | n + 1, l2, l3, l7, l8 => sm_answered_B309 B (sm_answered_L309 B hke354 n) hke354 l2 l3 l7 l8
def R_answered_J255 (s1 : Int32) (s2 : Int32) (s3 : Int32) : RS → Option (Unit × RS) :=
  bd (R_answer s1 s2 s3) fun r5 =>
  rt ()
set_option maxRecDepth 10000 in
theorem sm_answered_J255 {g : Gm RS Unit} (B : Br g cX12_answered 9 voV none 7 154) (s1 : Int32) (s2 : Int32) (s3 : Int32) : Sm g 9 255 [] [.int s3, .int s2, .int s1, .ref g.1.2.2.2.2.2] (R_answered_J255 s1 s2 s3) := by
  unfold R_answered_J255
  refine rr_cvv (As := [.int s1, .int s2, .int s3]) (st := []) B (m_answer B.ok s1 s2 s3) mc_answer ml_answer mi_answer me_answer ini12 md_answer (by decide) rfl (Nat.le_of_ble_eq_true rfl) dX12_answered_255 (fun r5 => ?_)
  refine s_goto B.1 383 dX12_answered_258 (by decide) ?_
  exact s_vret B.1 B.2.1 dX12_answered_383
def R_answered_J239 (l3 : Int32) (l7 : Int32) : RS → Option (Unit × RS) :=
  if l7 = 0 then (
    R_answered_J255 (98 : Int32) l3 (146 : Int32)
  ) else (
    R_answered_J255 (98 : Int32) l3 (0 : Int32)
  )
set_option maxRecDepth 10000 in
theorem sm_answered_J239 {g : Gm RS Unit} (B : Br g cX12_answered 9 voV none 7 154) (l3 : Int32) (l7 : Int32) : Sm g 9 239 [(0, .ref g.1.2.2.2.2.2), (3, .int l3), (7, .int l7)] [] (R_answered_J239 l3 l7) := by
  unfold R_answered_J239
  refine s_aload_n B.1 0 dX12_answered_239 rfl rfl ?_
  refine s_bipush (v := (98)) B.1 dX12_answered_240 (by decide) ?_
  refine s_iload_n B.1 1 dX12_answered_242 rfl rfl ?_
  refine s_iload B.1 2 dX12_answered_243 rfl ?_
  refine s_if_eq B.1 252 dX12_answered_245 (by decide) ?_ ?_
  · refine s_sipush (v := (146)) B.1 dX12_answered_252 (by decide) ?_
    exact Sm.lvs [] rfl (sm_answered_J255 B (98 : Int32) l3 (146 : Int32))
  · refine s_iconst (v := 0) B.1 dX12_answered_248 (by decide) ?_
    refine s_goto B.1 255 dX12_answered_249 (by decide) ?_
    exact Sm.lvs [] rfl (sm_answered_J255 B (98 : Int32) l3 (0 : Int32))
def R_answered_J226 (l3 : Int32) (l6 : Int32) (l7 : Int32) : RS → Option (Unit × RS) :=
  if l7 = 0 then (
    R_answered_J239 l3 l7
  ) else (
    wA 37 l6 (vp_nar .boolean (1 : Int32)) <|
    R_answered_J239 l3 l7
  )
set_option maxRecDepth 10000 in
theorem sm_answered_J226 {g : Gm RS Unit} (B : Br g cX12_answered 9 voV none 7 154) (l3 : Int32) (l6 : Int32) (l7 : Int32) : Sm g 9 226 [(0, .ref g.1.2.2.2.2.2), (3, .int l3), (6, .int l6), (7, .int l7)] [] (R_answered_J226 l3 l6 l7) := by
  unfold R_answered_J226
  refine s_iload B.1 3 dX12_answered_226 rfl ?_
  refine s_if_eq B.1 239 dX12_answered_228 (by decide) ?_ ?_
  · exact Sm.lvs [0, 1, 3] rfl (sm_answered_J239 B l3 l7)
  · refine s_aload_n B.1 0 dX12_answered_231 rfl rfl ?_
    refine rr_getA B 37 mh_37 mn_37 mf_37 dX12_answered_232 ?_
    refine s_iload B.1 2 dX12_answered_235 rfl ?_
    refine s_iconst (v := 1) B.1 dX12_answered_237 (by decide) ?_
    refine rr_zast B 37 mh_37 mk_37 dX12_answered_238 ?_
    exact Sm.lvs [0, 1, 3] rfl (sm_answered_J239 B l3 l7)
def R_answered_J201 (l2 : Int32) (l3 : Int32) (l4 : Int32) (l5 : Int32) (l6 : Int32) (s0 : Int32) : RS → Option (Unit × RS) :=
  if s0 = 0 then (
    R_answered_J226 l3 l6 s0
  ) else (
    if l4 < (128 : Int32) then (
      R_answered_J226 l3 l6 s0
    ) else (
      bd (R_leave l2 l5) fun r6 =>
      rt ()
    )
  )
set_option maxRecDepth 10000 in
theorem sm_answered_J201 {g : Gm RS Unit} (B : Br g cX12_answered 9 voV none 7 154) (l2 : Int32) (l3 : Int32) (l4 : Int32) (l5 : Int32) (l6 : Int32) (s0 : Int32) : Sm g 9 201 [(0, .ref g.1.2.2.2.2.2), (2, .int l2), (3, .int l3), (4, .int l4), (5, .int l5), (6, .int l6)] [.int s0] (R_answered_J201 l2 l3 l4 l5 l6 s0) := by
  unfold R_answered_J201
  refine s_istore (lv' := [(7, .int s0), (0, .ref g.1.2.2.2.2.2), (2, .int l2), (3, .int l3), (4, .int l4), (5, .int l5), (6, .int l6)]) B.1 dX12_answered_201 (by decide) rfl ?_
  refine s_iload B.1 0 dX12_answered_203 rfl ?_
  refine s_if_eq B.1 226 dX12_answered_205 (by decide) ?_ ?_
  · exact Sm.lvs [1, 3, 6, 0] rfl (sm_answered_J226 B l3 l6 s0)
  · refine s_iload B.1 4 dX12_answered_208 rfl ?_
    refine s_sipush (v := (128)) B.1 dX12_answered_210 (by decide) ?_
    refine s_icmp_lt B.1 226 dX12_answered_213 (by decide) ?_ ?_
    · exact Sm.lvs [1, 3, 6, 0] rfl (sm_answered_J226 B l3 l6 s0)
    · refine s_aload_n B.1 1 dX12_answered_216 rfl rfl ?_
      refine s_iload_n B.1 2 dX12_answered_217 rfl rfl ?_
      refine s_iload B.1 5 dX12_answered_218 rfl ?_
      refine rr_cvv (As := [.int l2, .int l5]) (st := []) B (m_leave B.ok l2 l5) mc_leave ml_leave mi_leave me_leave ini12 md_leave (by decide) rfl (Nat.le_of_ble_eq_true rfl) dX12_answered_220 (fun r6 => ?_)
      refine s_goto B.1 258 dX12_answered_223 (by decide) ?_
      refine s_goto B.1 383 dX12_answered_258 (by decide) ?_
      exact s_vret B.1 B.2.1 dX12_answered_383
def R_answered_J200 (l2 : Int32) (l3 : Int32) (l4 : Int32) (l5 : Int32) (l6 : Int32) : RS → Option (Unit × RS) :=
  R_answered_J201 l2 l3 l4 l5 l6 (0 : Int32)
set_option maxRecDepth 10000 in
theorem sm_answered_J200 {g : Gm RS Unit} (B : Br g cX12_answered 9 voV none 7 154) (l2 : Int32) (l3 : Int32) (l4 : Int32) (l5 : Int32) (l6 : Int32) : Sm g 9 200 [(0, .ref g.1.2.2.2.2.2), (2, .int l2), (3, .int l3), (4, .int l4), (5, .int l5), (6, .int l6)] [] (R_answered_J200 l2 l3 l4 l5 l6) := by
  unfold R_answered_J200
  refine s_iconst (v := 0) B.1 dX12_answered_200 (by decide) ?_
  exact Sm.lvs [0, 1, 2, 3, 4, 5] rfl (sm_answered_J201 B l2 l3 l4 l5 l6 (0 : Int32))
def R_answered_J119 (l1 : Int32) (l2 : Int32) (l3 : Int32) (l4 : Int32) : RS → Option (Unit × RS) :=
  rI 79 fun v7 =>
  if v7 = 0 then (
    bd (R_wayOf l2 l3) fun r8 =>
    lq (((16 : Int32) * l2) + r8) fun x9 =>
    if l1 = (4 : Int32) then (
      if r8 < 0 then (
        rt ()
      ) else (
        rA 34 x9 fun v14 =>
        if v14 = (1 : Int32) then (
          bd (R_leave l2 r8) fun r15 =>
          rt ()
        ) else (
          rt ()
        )
      )
    ) else (
      if l1 = (5 : Int32) then (
        if r8 < 0 then (
          R_answered_J200 l2 l3 l4 r8 x9
        ) else (
          rA 34 x9 fun v13 =>
          if v13 = (2 : Int32) then (
            R_answered_J201 l2 l3 l4 r8 x9 (1 : Int32)
          ) else (
            R_answered_J200 l2 l3 l4 r8 x9
          )
        )
      ) else (
        if l1 = (7 : Int32) then (
          if r8 < 0 then (
            rt ()
          ) else (
            rA 37 x9 fun v11 =>
            if v11 = 0 then (
              rt ()
            ) else (
              bd (R_leave l2 r8) fun r12 =>
              rt ()
            )
          )
        ) else (
          bd (R_holds l2 l3) fun r10 =>
          if r10 < 0 then (
            R_answered_J364 l3 r10
          ) else (
            R_answered_L309 (fun l2 l3 l7 => R_answered_J354 l2 l3 l7) fu l2 l3 r10 r10
          )
        )
      )
    )
  ) else (
    rt ()
  )
set_option maxRecDepth 10000 in
theorem sm_answered_J119 {g : Gm RS Unit} (B : Br g cX12_answered 9 voV none 7 154) (l1 : Int32) (l2 : Int32) (l3 : Int32) (l4 : Int32) : Sm g 9 119 [(0, .ref g.1.2.2.2.2.2), (1, .int l1), (2, .int l2), (3, .int l3), (4, .int l4)] [] (R_answered_J119 l1 l2 l3 l4) := by
  unfold R_answered_J119
  refine s_aload_n B.1 0 dX12_answered_119 rfl rfl ?_
  refine rr_getI B 79 mh_79 mk_79 mf_79 dX12_answered_120 (fun v7 => ?_)
  refine s_if_eq B.1 127 dX12_answered_123 (by decide) ?_ ?_
  · refine s_aload_n B.1 0 dX12_answered_127 rfl rfl ?_
    refine s_iload_n B.1 2 dX12_answered_128 rfl rfl ?_
    refine s_iload_n B.1 3 dX12_answered_129 rfl rfl ?_
    refine rr_cvi (As := [.int l2, .int l3]) (st := []) B (m_wayOf B.ok l2 l3) mc_wayOf ml_wayOf mi_wayOf me_wayOf ini12 md_wayOf (by decide) rfl (Nat.le_of_ble_eq_true rfl) dX12_answered_130 (fun r8 => ?_)
    refine s_istore (lv' := [(5, .int r8), (0, .ref g.1.2.2.2.2.2), (1, .int l1), (2, .int l2), (3, .int l3), (4, .int l4)]) B.1 dX12_answered_133 (by decide) rfl ?_
    refine s_bipush (v := (16)) B.1 dX12_answered_135 (by decide) ?_
    refine s_iload_n B.1 3 dX12_answered_137 rfl rfl ?_
    refine s_imul B.1 dX12_answered_138 ?_
    refine s_iload B.1 0 dX12_answered_139 rfl ?_
    refine s_iadd B.1 dX12_answered_141 ?_
    refine s_lqi (fun x9 => ?_)
    refine s_istore (lv' := [(6, .int x9), (5, .int r8), (0, .ref g.1.2.2.2.2.2), (1, .int l1), (2, .int l2), (3, .int l3), (4, .int l4)]) B.1 dX12_answered_142 (by decide) rfl ?_
    refine s_iload_n B.1 3 dX12_answered_144 rfl rfl ?_
    refine s_iconst (v := 4) B.1 dX12_answered_145 (by decide) ?_
    refine s_icmp_ne B.1 175 dX12_answered_146 (by decide) ?_ ?_
    · refine s_iload_n B.1 3 dX12_answered_175 rfl rfl ?_
      refine s_iconst (v := 5) B.1 dX12_answered_176 (by decide) ?_
      refine s_icmp_ne B.1 261 dX12_answered_177 (by decide) ?_ ?_
      · refine s_iload_n B.1 3 dX12_answered_261 rfl rfl ?_
        refine s_bipush (v := (7)) B.1 dX12_answered_262 (by decide) ?_
        refine s_icmp_ne B.1 292 dX12_answered_264 (by decide) ?_ ?_
        · refine s_aload_n B.1 2 dX12_answered_292 rfl rfl ?_
          refine s_iload_n B.1 4 dX12_answered_293 rfl rfl ?_
          refine s_iload_n B.1 5 dX12_answered_294 rfl rfl ?_
          refine rr_cvi (As := [.int l2, .int l3]) (st := []) B (m_holds B.ok l2 l3) mc_holds ml_holds mi_holds me_holds ini12 md_holds (by decide) rfl (Nat.le_of_ble_eq_true rfl) dX12_answered_295 (fun r10 => ?_)
          refine s_istore (lv' := [(7, .int r10), (6, .int x9), (5, .int r8), (0, .ref g.1.2.2.2.2.2), (1, .int l1), (2, .int l2), (3, .int l3), (4, .int l4)]) B.1 dX12_answered_298 (by decide) rfl ?_
          refine s_iload B.1 0 dX12_answered_300 rfl ?_
          refine s_if_lt B.1 364 dX12_answered_302 (by decide) ?_ ?_
          · exact Sm.lvs [3, 6, 0] rfl (sm_answered_J364 B l3 r10)
          · refine s_iload B.1 0 dX12_answered_305 rfl ?_
            refine s_istore (lv' := [(8, .int r10), (7, .int r10), (6, .int x9), (5, .int r8), (0, .ref g.1.2.2.2.2.2), (1, .int l1), (2, .int l2), (3, .int l3), (4, .int l4)]) B.1 dX12_answered_307 (by decide) rfl ?_
            exact Sm.lvs [4, 6, 7, 1, 0] rfl (sm_answered_L309 B (fun l2 l3 l7 => sm_answered_J354 B l2 l3 l7) fu l2 l3 r10 r10)
        · refine s_iload B.1 1 dX12_answered_267 rfl ?_
          refine s_if_lt B.1 383 dX12_answered_269 (by decide) ?_ ?_
          · exact s_vret B.1 B.2.1 dX12_answered_383
          · refine s_aload_n B.1 2 dX12_answered_272 rfl rfl ?_
            refine rr_getA B 37 mh_37 mn_37 mf_37 dX12_answered_273 ?_
            refine s_iload B.1 0 dX12_answered_276 rfl ?_
            refine rr_zald B 37 mh_37 mk_37 dX12_answered_278 (fun v11 => ?_)
            refine s_if_eq B.1 383 dX12_answered_279 (by decide) ?_ ?_
            · exact s_vret B.1 B.2.1 dX12_answered_383
            · refine s_aload_n B.1 2 dX12_answered_282 rfl rfl ?_
              refine s_iload_n B.1 4 dX12_answered_283 rfl rfl ?_
              refine s_iload B.1 1 dX12_answered_284 rfl ?_
              refine rr_cvv (As := [.int l2, .int r8]) (st := []) B (m_leave B.ok l2 r8) mc_leave ml_leave mi_leave me_leave ini12 md_leave (by decide) rfl (Nat.le_of_ble_eq_true rfl) dX12_answered_286 (fun r12 => ?_)
              refine s_goto B.1 383 dX12_answered_289 (by decide) ?_
              exact s_vret B.1 B.2.1 dX12_answered_383
      · refine s_iload B.1 1 dX12_answered_180 rfl ?_
        refine s_if_lt B.1 200 dX12_answered_182 (by decide) ?_ ?_
        · exact Sm.lvs [2, 4, 5, 6, 1, 0] rfl (sm_answered_J200 B l2 l3 l4 r8 x9)
        · refine s_aload_n B.1 2 dX12_answered_185 rfl rfl ?_
          refine rr_getA B 34 mh_34 mn_34 mf_34 dX12_answered_186 ?_
          refine s_iload B.1 0 dX12_answered_189 rfl ?_
          refine rr_iald B 34 mh_34 mk_34 dX12_answered_191 (fun v13 => ?_)
          refine s_iconst (v := 2) B.1 dX12_answered_192 (by decide) ?_
          refine s_icmp_ne B.1 200 dX12_answered_193 (by decide) ?_ ?_
          · exact Sm.lvs [2, 4, 5, 6, 1, 0] rfl (sm_answered_J200 B l2 l3 l4 r8 x9)
          · refine s_iconst (v := 1) B.1 dX12_answered_196 (by decide) ?_
            refine s_goto B.1 201 dX12_answered_197 (by decide) ?_
            exact Sm.lvs [2, 4, 5, 6, 1, 0] rfl (sm_answered_J201 B l2 l3 l4 r8 x9 (1 : Int32))
    · refine s_iload B.1 1 dX12_answered_149 rfl ?_
      refine s_if_lt B.1 383 dX12_answered_151 (by decide) ?_ ?_
      · exact s_vret B.1 B.2.1 dX12_answered_383
      · refine s_aload_n B.1 2 dX12_answered_154 rfl rfl ?_
        refine rr_getA B 34 mh_34 mn_34 mf_34 dX12_answered_155 ?_
        refine s_iload B.1 0 dX12_answered_158 rfl ?_
        refine rr_iald B 34 mh_34 mk_34 dX12_answered_160 (fun v14 => ?_)
        refine s_iconst (v := 1) B.1 dX12_answered_161 (by decide) ?_
        refine s_icmp_ne B.1 383 dX12_answered_162 (by decide) ?_ ?_
        · exact s_vret B.1 B.2.1 dX12_answered_383
        · refine s_aload_n B.1 2 dX12_answered_165 rfl rfl ?_
          refine s_iload_n B.1 4 dX12_answered_166 rfl rfl ?_
          refine s_iload B.1 1 dX12_answered_167 rfl ?_
          refine rr_cvv (As := [.int l2, .int r8]) (st := []) B (m_leave B.ok l2 r8) mc_leave ml_leave mi_leave me_leave ini12 md_leave (by decide) rfl (Nat.le_of_ble_eq_true rfl) dX12_answered_169 (fun r15 => ?_)
          refine s_goto B.1 383 dX12_answered_172 (by decide) ?_
          exact s_vret B.1 B.2.1 dX12_answered_383
  · exact s_vret B.1 B.2.1 dX12_answered_126
def R_answered_J94 (l1 : Int32) (l2 : Int32) (l3 : Int32) (l4 : Int32) : RS → Option (Unit × RS) :=
  rI 79 fun v16 =>
  if v16 = 0 then (
    rI 76 fun v17 =>
    rI 77 fun v18 =>
    if v18 ≤ v17 then (
      R_answered_J119 l1 l2 l3 l4
    ) else (
      bd (R_fails (129 : Int32)) fun r19 =>
      R_answered_J119 l1 l2 l3 l4
    )
  ) else (
    R_answered_J119 l1 l2 l3 l4
  )
set_option maxRecDepth 10000 in
theorem sm_answered_J94 {g : Gm RS Unit} (B : Br g cX12_answered 9 voV none 7 154) (l1 : Int32) (l2 : Int32) (l3 : Int32) (l4 : Int32) : Sm g 9 94 [(0, .ref g.1.2.2.2.2.2), (1, .int l1), (2, .int l2), (3, .int l3), (4, .int l4)] [] (R_answered_J94 l1 l2 l3 l4) := by
  unfold R_answered_J94
  refine s_aload_n B.1 0 dX12_answered_94 rfl rfl ?_
  refine rr_getI B 79 mh_79 mk_79 mf_79 dX12_answered_95 (fun v16 => ?_)
  refine s_if_ne B.1 119 dX12_answered_98 (by decide) ?_ ?_
  · exact Sm.lvs [0, 1, 2, 3, 4] rfl (sm_answered_J119 B l1 l2 l3 l4)
  · refine s_aload_n B.1 0 dX12_answered_101 rfl rfl ?_
    refine rr_getI B 76 mh_76 mk_76 mf_76 dX12_answered_102 (fun v17 => ?_)
    refine s_aload_n B.1 0 dX12_answered_105 rfl rfl ?_
    refine rr_getI B 77 mh_77 mk_77 mf_77 dX12_answered_106 (fun v18 => ?_)
    refine s_icmp_ge B.1 119 dX12_answered_109 (by decide) ?_ ?_
    · exact Sm.lvs [0, 1, 2, 3, 4] rfl (sm_answered_J119 B l1 l2 l3 l4)
    · refine s_aload_n B.1 0 dX12_answered_112 rfl rfl ?_
      refine s_sipush (v := (129)) B.1 dX12_answered_113 (by decide) ?_
      refine rr_cvv (As := [.int (129 : Int32)]) (st := []) B (m_fails B.ok (129 : Int32)) mc_fails ml_fails mi_fails me_fails ini12 md_fails (by decide) rfl (Nat.le_of_ble_eq_true rfl) dX12_answered_116 (fun r19 => ?_)
      exact Sm.lvs [0, 1, 2, 3, 4] rfl (sm_answered_J119 B l1 l2 l3 l4)
def R_answered_J59 (l1 : Int32) (l2 : Int32) (l3 : Int32) (s0 : Int32) : RS → Option (Unit × RS) :=
  rI 79 fun v20 =>
  if v20 = 0 then (
    rI 76 fun v21 =>
    rI 77 fun v22 =>
    if v22 ≤ v21 then (
      R_answered_J94 l1 l2 l3 s0
    ) else (
      bd (R_bit (31 : Int32)) fun r23 =>
      bd (R_bit (38 : Int32)) fun r24 =>
      bd (R_properties (r23 ||| r24)) fun r25 =>
      R_answered_J94 l1 l2 l3 s0
    )
  ) else (
    R_answered_J94 l1 l2 l3 s0
  )
set_option maxRecDepth 10000 in
theorem sm_answered_J59 {g : Gm RS Unit} (B : Br g cX12_answered 9 voV none 7 154) (l1 : Int32) (l2 : Int32) (l3 : Int32) (s0 : Int32) : Sm g 9 59 [(0, .ref g.1.2.2.2.2.2), (1, .int l1), (2, .int l2), (3, .int l3)] [.int s0] (R_answered_J59 l1 l2 l3 s0) := by
  unfold R_answered_J59
  refine s_istore (lv' := [(4, .int s0), (0, .ref g.1.2.2.2.2.2), (1, .int l1), (2, .int l2), (3, .int l3)]) B.1 dX12_answered_59 (by decide) rfl ?_
  refine s_aload_n B.1 1 dX12_answered_61 rfl rfl ?_
  refine rr_getI B 79 mh_79 mk_79 mf_79 dX12_answered_62 (fun v20 => ?_)
  refine s_if_ne B.1 94 dX12_answered_65 (by decide) ?_ ?_
  · exact Sm.lvs [1, 2, 3, 4, 0] rfl (sm_answered_J94 B l1 l2 l3 s0)
  · refine s_aload_n B.1 1 dX12_answered_68 rfl rfl ?_
    refine rr_getI B 76 mh_76 mk_76 mf_76 dX12_answered_69 (fun v21 => ?_)
    refine s_aload_n B.1 1 dX12_answered_72 rfl rfl ?_
    refine rr_getI B 77 mh_77 mk_77 mf_77 dX12_answered_73 (fun v22 => ?_)
    refine s_icmp_ge B.1 94 dX12_answered_76 (by decide) ?_ ?_
    · exact Sm.lvs [1, 2, 3, 4, 0] rfl (sm_answered_J94 B l1 l2 l3 s0)
    · refine s_aload_n B.1 1 dX12_answered_79 rfl rfl ?_
      refine s_bipush (v := (31)) B.1 dX12_answered_80 (by decide) ?_
      refine rr_csl (As := [.int (31 : Int32)]) (st := [.ref g.1.2.2.2.2.2]) B (m_bit B.ok (31 : Int32)) mc_bit ml_bit ms_bit ini12 md_bit (by decide) rfl (Nat.le_of_ble_eq_true rfl) dX12_answered_82 (fun r23 => ?_)
      refine s_bipush (v := (38)) B.1 dX12_answered_85 (by decide) ?_
      refine rr_csl (As := [.int (38 : Int32)]) (st := [.long r23, .ref g.1.2.2.2.2.2]) B (m_bit B.ok (38 : Int32)) mc_bit ml_bit ms_bit ini12 md_bit (by decide) rfl (Nat.le_of_ble_eq_true rfl) dX12_answered_87 (fun r24 => ?_)
      refine s_lor B.1 dX12_answered_90 ?_
      refine rr_cvv (As := [.long (r23 ||| r24)]) (st := []) B (m_properties B.ok (r23 ||| r24)) mc_properties ml_properties mi_properties me_properties ini12 md_properties (by decide) rfl (Nat.le_of_ble_eq_true rfl) dX12_answered_91 (fun r25 => ?_)
      exact Sm.lvs [1, 2, 3, 4, 0] rfl (sm_answered_J94 B l1 l2 l3 s0)
def R_answered_J58 (l1 : Int32) (l2 : Int32) (l3 : Int32) : RS → Option (Unit × RS) :=
  R_answered_J59 l1 l2 l3 (0 : Int32)
set_option maxRecDepth 10000 in
theorem sm_answered_J58 {g : Gm RS Unit} (B : Br g cX12_answered 9 voV none 7 154) (l1 : Int32) (l2 : Int32) (l3 : Int32) : Sm g 9 58 [(0, .ref g.1.2.2.2.2.2), (1, .int l1), (2, .int l2), (3, .int l3)] [] (R_answered_J58 l1 l2 l3) := by
  unfold R_answered_J58
  refine s_iconst (v := 0) B.1 dX12_answered_58 (by decide) ?_
  exact Sm.lvs [0, 1, 2, 3] rfl (sm_answered_J59 B l1 l2 l3 (0 : Int32))
def R_answered_J33 (l1 : Int32) (l2 : Int32) (l3 : Int32) : RS → Option (Unit × RS) :=
  rI 79 fun v26 =>
  if v26 = 0 then (
    rI 76 fun v27 =>
    rI 77 fun v28 =>
    if v28 ≤ v27 then (
      R_answered_J58 l1 l2 l3
    ) else (
      bd (R_one) fun r29 =>
      R_answered_J59 l1 l2 l3 r29
    )
  ) else (
    R_answered_J58 l1 l2 l3
  )
set_option maxRecDepth 10000 in
theorem sm_answered_J33 {g : Gm RS Unit} (B : Br g cX12_answered 9 voV none 7 154) (l1 : Int32) (l2 : Int32) (l3 : Int32) : Sm g 9 33 [(0, .ref g.1.2.2.2.2.2), (1, .int l1), (2, .int l2), (3, .int l3)] [] (R_answered_J33 l1 l2 l3) := by
  unfold R_answered_J33
  refine s_aload_n B.1 0 dX12_answered_33 rfl rfl ?_
  refine rr_getI B 79 mh_79 mk_79 mf_79 dX12_answered_34 (fun v26 => ?_)
  refine s_if_ne B.1 58 dX12_answered_37 (by decide) ?_ ?_
  · exact Sm.lvs [0, 1, 2, 3] rfl (sm_answered_J58 B l1 l2 l3)
  · refine s_aload_n B.1 0 dX12_answered_40 rfl rfl ?_
    refine rr_getI B 76 mh_76 mk_76 mf_76 dX12_answered_41 (fun v27 => ?_)
    refine s_aload_n B.1 0 dX12_answered_44 rfl rfl ?_
    refine rr_getI B 77 mh_77 mk_77 mf_77 dX12_answered_45 (fun v28 => ?_)
    refine s_icmp_ge B.1 58 dX12_answered_48 (by decide) ?_ ?_
    · exact Sm.lvs [0, 1, 2, 3] rfl (sm_answered_J58 B l1 l2 l3)
    · refine s_aload_n B.1 0 dX12_answered_51 rfl rfl ?_
      refine rr_cvi (As := []) (st := []) B (m_one B.ok) mc_one ml_one mi_one me_one ini12 md_one (by decide) rfl (Nat.le_of_ble_eq_true rfl) dX12_answered_52 (fun r29 => ?_)
      refine s_goto B.1 59 dX12_answered_55 (by decide) ?_
      exact Sm.lvs [0, 1, 2, 3] rfl (sm_answered_J59 B l1 l2 l3 r29)
def R_answered (l1 : Int32) : RS → Option (Unit × RS) :=
  rI 75 fun v30 =>
  rA 7 v30 fun v31 =>
  bd (R_two) fun r32 =>
  rI 79 fun v33 =>
  if v33 = 0 then (
    if r32 = 0 then (
      bd (R_fails (130 : Int32)) fun r34 =>
      R_answered_J33 l1 v31 r32
    ) else (
      R_answered_J33 l1 v31 r32
    )
  ) else (
    R_answered_J33 l1 v31 r32
  )
set_option maxRecDepth 10000 in
theorem m_answered {w : Wd} (hw : Wok w) (l1 : Int32) : MR w yX12_answered cX12_answered 9 none 7 154 voV [.ref w.2.2.2.2.2, .int l1] (R_answered l1) := by
  refine MR.of hw rfl (Nat.le_of_ble_eq_true rfl) (fun g hg B => ?_)
  subst hg
  unfold R_answered
  show Sm g 9 0 [(0, .ref g.1.2.2.2.2.2), (1, .int l1)] [] _
  refine s_aload_n B.1 0 dX12_answered_0 rfl rfl ?_
  refine rr_getA B 7 mh_7 mn_7 mf_7 dX12_answered_1 ?_
  refine s_aload_n B.1 0 dX12_answered_4 rfl rfl ?_
  refine rr_getI B 75 mh_75 mk_75 mf_75 dX12_answered_5 (fun v30 => ?_)
  refine rr_iald B 7 mh_7 mk_7 dX12_answered_8 (fun v31 => ?_)
  refine s_istore_n (lv' := [(2, .int v31), (0, .ref g.1.2.2.2.2.2), (1, .int l1)]) B.1 dX12_answered_9 rfl (by decide) rfl ?_
  refine s_aload_n B.1 1 dX12_answered_10 rfl rfl ?_
  refine rr_cvi (As := []) (st := []) B (m_two B.ok) mc_two ml_two mi_two me_two ini12 md_two (by decide) rfl (Nat.le_of_ble_eq_true rfl) dX12_answered_11 (fun r32 => ?_)
  refine s_istore_n (lv' := [(3, .int r32), (2, .int v31), (0, .ref g.1.2.2.2.2.2), (1, .int l1)]) B.1 dX12_answered_14 rfl (by decide) rfl ?_
  refine s_aload_n B.1 2 dX12_answered_15 rfl rfl ?_
  refine rr_getI B 79 mh_79 mk_79 mf_79 dX12_answered_16 (fun v33 => ?_)
  refine s_if_ne B.1 33 dX12_answered_19 (by decide) ?_ ?_
  · exact Sm.lvs [2, 3, 1, 0] rfl (sm_answered_J33 B l1 v31 r32)
  · refine s_iload_n B.1 0 dX12_answered_22 rfl rfl ?_
    refine s_if_ne B.1 33 dX12_answered_23 (by decide) ?_ ?_
    · exact Sm.lvs [2, 3, 1, 0] rfl (sm_answered_J33 B l1 v31 r32)
    · refine s_aload_n B.1 2 dX12_answered_26 rfl rfl ?_
      refine s_sipush (v := (130)) B.1 dX12_answered_27 (by decide) ?_
      refine rr_cvv (As := [.int (130 : Int32)]) (st := []) B (m_fails B.ok (130 : Int32)) mc_fails ml_fails mi_fails me_fails ini12 md_fails (by decide) rfl (Nat.le_of_ble_eq_true rfl) dX12_answered_30 (fun r34 => ?_)
      exact Sm.lvs [2, 3, 1, 0] rfl (sm_answered_J33 B l1 v31 r32)
def R_again_J143 (l1 : Int32) (l2 : Int32) : RS → Option (Unit × RS) :=
  wA 31 l1 l2 <|
  rt ()
set_option maxRecDepth 10000 in
theorem sm_again_J143 {g : Gm RS Unit} (B : Br g cX12_again 7 voV none 3 77) (l1 : Int32) (l2 : Int32) : Sm g 7 143 [(0, .ref g.1.2.2.2.2.2), (1, .int l1), (2, .int l2)] [] (R_again_J143 l1 l2) := by
  unfold R_again_J143
  refine s_aload_n B.1 0 dX12_again_143 rfl rfl ?_
  refine rr_getA B 31 mh_31 mn_31 mf_31 dX12_again_144 ?_
  refine s_iload_n B.1 1 dX12_again_147 rfl rfl ?_
  refine s_iload_n B.1 2 dX12_again_148 rfl rfl ?_
  refine rr_iast B 31 mh_31 mk_31 dX12_again_149 ?_
  exact s_vret B.1 B.2.1 dX12_again_150
def R_again_J117 (kb : Int32 → Int32 → Int32 → Int32 → RS → Option (Unit × RS)) (ke143 : Int32 → Int32 → RS → Option (Unit × RS)) (l1 : Int32) (l2 : Int32) (l3 : Int32) (l4 : Int32) (l5 : Int32) (l6 : Int32) : RS → Option (Unit × RS) :=
  if l6 = 0 then (
    kb l1 l2 l3 (l4 + 1)
  ) else (
    bd (R_moveWay l5 (((16 : Int32) * l1) + l2)) fun r1 =>
    kb l1 (l2 + 1) l3 (l4 + 1)
  )
set_option maxRecDepth 10000 in
theorem sm_again_J117 {g : Gm RS Unit} {kb : Int32 → Int32 → Int32 → Int32 → RS → Option (Unit × RS)} {ke143 : Int32 → Int32 → RS → Option (Unit × RS)} (B : Br g cX12_again 7 voV none 3 77) (hkb : ∀ (l1 : Int32) (l2 : Int32) (l3 : Int32) (l4 : Int32), Sm g 7 12 [(0, .ref g.1.2.2.2.2.2), (1, .int l1), (2, .int l2), (3, .int l3), (4, .int l4)] [] (kb l1 l2 l3 l4)) (hke143 : ∀ (l1 : Int32) (l2 : Int32), Sm g 7 143 [(0, .ref g.1.2.2.2.2.2), (1, .int l1), (2, .int l2)] [] (ke143 l1 l2)) (l1 : Int32) (l2 : Int32) (l3 : Int32) (l4 : Int32) (l5 : Int32) (l6 : Int32) : Sm g 7 117 [(0, .ref g.1.2.2.2.2.2), (1, .int l1), (2, .int l2), (3, .int l3), (4, .int l4), (5, .int l5), (6, .int l6)] [] (R_again_J117 kb ke143 l1 l2 l3 l4 l5 l6) := by
  unfold R_again_J117
  refine s_iload B.1 6 dX12_again_117 rfl ?_
  refine s_if_eq B.1 137 dX12_again_119 (by decide) ?_ ?_
  · refine s_iinc (v := l4 + 1) (lv' := [(4, .int (l4 + 1)), (0, .ref g.1.2.2.2.2.2), (1, .int l1), (2, .int l2), (3, .int l3), (5, .int l5), (6, .int l6)]) B.1 4 dX12_again_137 rfl rfl (by decide) rfl ?_
    refine s_goto B.1 12 dX12_again_140 (by decide) ?_
    exact Sm.lvs [1, 2, 3, 4, 0] rfl (hkb l1 l2 l3 (l4 + 1))
  · refine s_aload_n B.1 0 dX12_again_122 rfl rfl ?_
    refine s_iload B.1 5 dX12_again_123 rfl ?_
    refine s_bipush (v := (16)) B.1 dX12_again_125 (by decide) ?_
    refine s_iload_n B.1 1 dX12_again_127 rfl rfl ?_
    refine s_imul B.1 dX12_again_128 ?_
    refine s_iload_n B.1 2 dX12_again_129 rfl rfl ?_
    refine s_iinc (v := l2 + 1) (lv' := [(2, .int (l2 + 1)), (0, .ref g.1.2.2.2.2.2), (1, .int l1), (3, .int l3), (4, .int l4), (5, .int l5), (6, .int l6)]) B.1 2 dX12_again_130 rfl rfl (by decide) rfl ?_
    refine s_iadd B.1 dX12_again_133 ?_
    refine rr_cvv (As := [.int l5, .int (((16 : Int32) * l1) + l2)]) (st := []) B (m_moveWay B.ok l5 (((16 : Int32) * l1) + l2)) mc_moveWay ml_moveWay mi_moveWay me_moveWay ini12 md_moveWay (by decide) rfl (Nat.le_of_ble_eq_true rfl) dX12_again_134 (fun r1 => ?_)
    refine s_iinc (v := l4 + 1) (lv' := [(4, .int (l4 + 1)), (2, .int (l2 + 1)), (0, .ref g.1.2.2.2.2.2), (1, .int l1), (3, .int l3), (5, .int l5), (6, .int l6)]) B.1 4 dX12_again_137 rfl rfl (by decide) rfl ?_
    refine s_goto B.1 12 dX12_again_140 (by decide) ?_
    exact Sm.lvs [2, 3, 1, 4, 0] rfl (hkb l1 (l2 + 1) l3 (l4 + 1))
def R_again_B12 (kb : Int32 → Int32 → Int32 → Int32 → RS → Option (Unit × RS)) (ke143 : Int32 → Int32 → RS → Option (Unit × RS)) (l1 : Int32) (l2 : Int32) (l3 : Int32) (l4 : Int32) : RS → Option (Unit × RS) :=
  if l3 ≤ l4 then (
    ke143 l1 l2
  ) else (
    lq (((16 : Int32) * l1) + l4) fun x2 =>
    rA 37 x2 fun v3 =>
    if v3 = 0 then (
      rA 33 x2 fun v4 =>
      rA 34 x2 fun v5 =>
      rA 35 x2 fun v6 =>
      rA 36 x2 fun v7 =>
      rA 32 x2 fun v8 =>
      bd (R_sendPublish l1 v4 v5 v6 v7 v8 (1 : Int32)) fun r9 =>
      R_again_J117 kb ke143 l1 l2 l3 l4 x2 r9
    ) else (
      rA 15 l1 fun v10 =>
      rA 32 x2 fun v11 =>
      rA 32 x2 fun v12 =>
      bd (R_short4 v10 (98 : Int32) (2 : Int32) (v11 >>> ((8 : Int32) &&& 31)) v12 (4 : Int32)) fun r13 =>
      R_again_J117 kb ke143 l1 l2 l3 l4 x2 (1 : Int32)
    )
  )
def R_again_L12 (ke143 : Int32 → Int32 → RS → Option (Unit × RS)) : Nat → Int32 → Int32 → Int32 → Int32 → RS → Option (Unit × RS)
  | 0, _, _, _, _ => no
  | n + 1, l1, l2, l3, l4 => R_again_B12 (fun l1 l2 l3 l4 => R_again_L12 ke143 n l1 l2 l3 l4) ke143 l1 l2 l3 l4
set_option maxRecDepth 10000 in
theorem sm_again_B12 {g : Gm RS Unit} {kb : Int32 → Int32 → Int32 → Int32 → RS → Option (Unit × RS)} {ke143 : Int32 → Int32 → RS → Option (Unit × RS)} (B : Br g cX12_again 7 voV none 3 77) (hkb : ∀ (l1 : Int32) (l2 : Int32) (l3 : Int32) (l4 : Int32), Sm g 7 12 [(0, .ref g.1.2.2.2.2.2), (1, .int l1), (2, .int l2), (3, .int l3), (4, .int l4)] [] (kb l1 l2 l3 l4)) (hke143 : ∀ (l1 : Int32) (l2 : Int32), Sm g 7 143 [(0, .ref g.1.2.2.2.2.2), (1, .int l1), (2, .int l2)] [] (ke143 l1 l2)) (l1 : Int32) (l2 : Int32) (l3 : Int32) (l4 : Int32) : Sm g 7 12 [(0, .ref g.1.2.2.2.2.2), (1, .int l1), (2, .int l2), (3, .int l3), (4, .int l4)] [] (R_again_B12 kb ke143 l1 l2 l3 l4) := by
  unfold R_again_B12
  refine s_iload B.1 4 dX12_again_12 rfl ?_
  refine s_iload_n B.1 3 dX12_again_14 rfl rfl ?_
  refine s_icmp_ge B.1 143 dX12_again_15 (by decide) ?_ ?_
  · exact Sm.lvs [0, 1, 2] rfl (hke143 l1 l2)
  · refine s_bipush (v := (16)) B.1 dX12_again_18 (by decide) ?_
    refine s_iload_n B.1 1 dX12_again_20 rfl rfl ?_
    refine s_imul B.1 dX12_again_21 ?_
    refine s_iload B.1 4 dX12_again_22 rfl ?_
    refine s_iadd B.1 dX12_again_24 ?_
    refine s_lqi (fun x2 => ?_)
    refine s_istore (lv' := [(5, .int x2), (0, .ref g.1.2.2.2.2.2), (1, .int l1), (2, .int l2), (3, .int l3), (4, .int l4)]) B.1 dX12_again_25 (by decide) rfl ?_
    refine s_iconst (v := 1) B.1 dX12_again_27 (by decide) ?_
    refine s_istore (lv' := [(6, .int (1 : Int32)), (5, .int x2), (0, .ref g.1.2.2.2.2.2), (1, .int l1), (2, .int l2), (3, .int l3), (4, .int l4)]) B.1 dX12_again_28 (by decide) rfl ?_
    refine s_aload_n B.1 2 dX12_again_30 rfl rfl ?_
    refine rr_getA B 37 mh_37 mn_37 mf_37 dX12_again_31 ?_
    refine s_iload B.1 1 dX12_again_34 rfl ?_
    refine rr_zald B 37 mh_37 mk_37 dX12_again_36 (fun v3 => ?_)
    refine s_if_eq B.1 74 dX12_again_37 (by decide) ?_ ?_
    · refine s_aload_n B.1 2 dX12_again_74 rfl rfl ?_
      refine s_iload_n B.1 3 dX12_again_75 rfl rfl ?_
      refine s_aload_n B.1 2 dX12_again_76 rfl rfl ?_
      refine rr_getA B 33 mh_33 mn_33 mf_33 dX12_again_77 ?_
      refine s_iload B.1 1 dX12_again_80 rfl ?_
      refine rr_iald B 33 mh_33 mk_33 dX12_again_82 (fun v4 => ?_)
      refine s_aload_n B.1 2 dX12_again_83 rfl rfl ?_
      refine rr_getA B 34 mh_34 mn_34 mf_34 dX12_again_84 ?_
      refine s_iload B.1 1 dX12_again_87 rfl ?_
      refine rr_iald B 34 mh_34 mk_34 dX12_again_89 (fun v5 => ?_)
      refine s_aload_n B.1 2 dX12_again_90 rfl rfl ?_
      refine rr_getA B 35 mh_35 mn_35 mf_35 dX12_again_91 ?_
      refine s_iload B.1 1 dX12_again_94 rfl ?_
      refine rr_iald B 35 mh_35 mk_35 dX12_again_96 (fun v6 => ?_)
      refine s_aload_n B.1 2 dX12_again_97 rfl rfl ?_
      refine rr_getA B 36 mh_36 mn_36 mf_36 dX12_again_98 ?_
      refine s_iload B.1 1 dX12_again_101 rfl ?_
      refine rr_iald B 36 mh_36 mk_36 dX12_again_103 (fun v7 => ?_)
      refine s_aload_n B.1 2 dX12_again_104 rfl rfl ?_
      refine rr_getA B 32 mh_32 mn_32 mf_32 dX12_again_105 ?_
      refine s_iload B.1 1 dX12_again_108 rfl ?_
      refine rr_iald B 32 mh_32 mk_32 dX12_again_110 (fun v8 => ?_)
      refine s_iconst (v := 1) B.1 dX12_again_111 (by decide) ?_
      refine rr_cvi (As := [.int l1, .int v4, .int v5, .int v6, .int v7, .int v8, .int (1 : Int32)]) (st := []) B (m_sendPublish B.ok l1 v4 v5 v6 v7 v8 (1 : Int32)) mc_sendPublish ml_sendPublish mi_sendPublish me_sendPublish ini12 md_sendPublish (by decide) rfl (Nat.le_of_ble_eq_true rfl) dX12_again_112 (fun r9 => ?_)
      refine s_istore (lv' := [(6, .int r9), (5, .int x2), (0, .ref g.1.2.2.2.2.2), (1, .int l1), (2, .int l2), (3, .int l3), (4, .int l4)]) B.1 dX12_again_115 (by decide) rfl ?_
      exact Sm.lvs [2, 3, 4, 5, 6, 1, 0] rfl (sm_again_J117 B hkb hke143 l1 l2 l3 l4 x2 r9)
    · refine s_aload_n B.1 2 dX12_again_40 rfl rfl ?_
      refine s_aload_n B.1 2 dX12_again_41 rfl rfl ?_
      refine rr_getA B 15 mh_15 mn_15 mf_15 dX12_again_42 ?_
      refine s_iload_n B.1 3 dX12_again_45 rfl rfl ?_
      refine rr_iald B 15 mh_15 mk_15 dX12_again_46 (fun v10 => ?_)
      refine s_bipush (v := (98)) B.1 dX12_again_47 (by decide) ?_
      refine s_iconst (v := 2) B.1 dX12_again_49 (by decide) ?_
      refine s_aload_n B.1 2 dX12_again_50 rfl rfl ?_
      refine rr_getA B 32 mh_32 mn_32 mf_32 dX12_again_51 ?_
      refine s_iload B.1 1 dX12_again_54 rfl ?_
      refine rr_iald B 32 mh_32 mk_32 dX12_again_56 (fun v11 => ?_)
      refine s_bipush (v := (8)) B.1 dX12_again_57 (by decide) ?_
      refine s_ishr B.1 dX12_again_59 ?_
      refine s_aload_n B.1 2 dX12_again_60 rfl rfl ?_
      refine rr_getA B 32 mh_32 mn_32 mf_32 dX12_again_61 ?_
      refine s_iload B.1 1 dX12_again_64 rfl ?_
      refine rr_iald B 32 mh_32 mk_32 dX12_again_66 (fun v12 => ?_)
      refine s_iconst (v := 4) B.1 dX12_again_67 (by decide) ?_
      refine rr_cvv (As := [.int v10, .int (98 : Int32), .int (2 : Int32), .int (v11 >>> ((8 : Int32) &&& 31)), .int v12, .int (4 : Int32)]) (st := []) B (m_short4 B.ok v10 (98 : Int32) (2 : Int32) (v11 >>> ((8 : Int32) &&& 31)) v12 (4 : Int32)) mc_short4 ml_short4 mi_short4 me_short4 ini12 md_short4 (by decide) rfl (Nat.le_of_ble_eq_true rfl) dX12_again_68 (fun r13 => ?_)
      refine s_goto B.1 117 dX12_again_71 (by decide) ?_
      exact Sm.lvs [2, 3, 4, 5, 6, 1, 0] rfl (sm_again_J117 B hkb hke143 l1 l2 l3 l4 x2 (1 : Int32))
set_option maxRecDepth 10000 in
theorem sm_again_L12 {g : Gm RS Unit} {ke143 : Int32 → Int32 → RS → Option (Unit × RS)} (B : Br g cX12_again 7 voV none 3 77) (hke143 : ∀ (l1 : Int32) (l2 : Int32), Sm g 7 143 [(0, .ref g.1.2.2.2.2.2), (1, .int l1), (2, .int l2)] [] (ke143 l1 l2)) : ∀ (n : Nat) (l1 : Int32) (l2 : Int32) (l3 : Int32) (l4 : Int32), Sm g 7 12 [(0, .ref g.1.2.2.2.2.2), (1, .int l1), (2, .int l2), (3, .int l3), (4, .int l4)] [] (R_again_L12 ke143 n l1 l2 l3 l4)
  | 0, _, _, _, _ => Sm.fail
  | n + 1, l1, l2, l3, l4 => sm_again_B12 B (sm_again_L12 B hke143 n) hke143 l1 l2 l3 l4
def R_again (l1 : Int32) : RS → Option (Unit × RS) :=
  rA 31 l1 fun v14 =>
  R_again_L12 (fun l1 l2 => R_again_J143 l1 l2) fu l1 (0 : Int32) v14 (0 : Int32)
set_option maxRecDepth 10000 in
theorem m_again {w : Wd} (hw : Wok w) (l1 : Int32) : MR w yX12_again cX12_again 7 none 3 77 voV [.ref w.2.2.2.2.2, .int l1] (R_again l1) := by
  refine MR.of hw rfl (Nat.le_of_ble_eq_true rfl) (fun g hg B => ?_)
  subst hg
  unfold R_again
  show Sm g 7 0 [(0, .ref g.1.2.2.2.2.2), (1, .int l1)] [] _
  refine s_iconst (v := 0) B.1 dX12_again_0 (by decide) ?_
  refine s_istore_n (lv' := [(2, .int (0 : Int32)), (0, .ref g.1.2.2.2.2.2), (1, .int l1)]) B.1 dX12_again_1 rfl (by decide) rfl ?_
  refine s_aload_n B.1 1 dX12_again_2 rfl rfl ?_
  refine rr_getA B 31 mh_31 mn_31 mf_31 dX12_again_3 ?_
  refine s_iload_n B.1 2 dX12_again_6 rfl rfl ?_
  refine rr_iald B 31 mh_31 mk_31 dX12_again_7 (fun v14 => ?_)
  refine s_istore_n (lv' := [(3, .int v14), (2, .int (0 : Int32)), (0, .ref g.1.2.2.2.2.2), (1, .int l1)]) B.1 dX12_again_8 rfl (by decide) rfl ?_
  refine s_iconst (v := 0) B.1 dX12_again_9 (by decide) ?_
  refine s_istore (lv' := [(4, .int (0 : Int32)), (3, .int v14), (2, .int (0 : Int32)), (0, .ref g.1.2.2.2.2.2), (1, .int l1)]) B.1 dX12_again_10 (by decide) rfl ?_
  exact Sm.lvs [3, 4, 2, 1, 0] rfl (sm_again_L12 B (fun l1 l2 => sm_again_J143 B l1 l2) fu l1 (0 : Int32) v14 (0 : Int32))
def R_client_J101 (l1 : Nat) : RS → Option (Int32 × RS) :=
  rt ((-1 : Int32))
set_option maxRecDepth 10000 in
theorem sm_client_J101 {g : Gm RS Int32} (B : Br g cX12_client 7 voI (some .int) 0 0) {l1 : Nat} (hl11 : l1 < 99) (hl12 : mK l1 = 2) : Sm g 7 101 [] [] (R_client_J101 l1) := by
  unfold R_client_J101
  refine s_iconst (v := (-1)) B.1 dX12_client_101 (by decide) ?_
  exact s_iret B.1 B.2.1 dX12_client_102
def R_client_J92 (l1 : Nat) (l4 : Int32) : RS → Option (Int32 × RS) :=
  rt (l4)
set_option maxRecDepth 10000 in
theorem sm_client_J92 {g : Gm RS Int32} (B : Br g cX12_client 7 voI (some .int) 0 0) {l1 : Nat} (hl11 : l1 < 99) (hl12 : mK l1 = 2) (l4 : Int32) : Sm g 7 92 [(4, .int l4)] [] (R_client_J92 l1 l4) := by
  unfold R_client_J92
  refine s_iload B.1 0 dX12_client_92 rfl ?_
  exact s_iret B.1 B.2.1 dX12_client_94
def R_client_J87 (l1 : Nat) (kb : Int32 → Int32 → Int32 → RS → Option (Int32 × RS)) (ke92 : Int32 → RS → Option (Int32 × RS)) (ke101 : RS → Option (Int32 × RS)) (l2 : Int32) (l3 : Int32) (l4 : Int32) (l5 : Int32) : RS → Option (Int32 × RS) :=
  if l5 = 0 then (
    kb l2 l3 (l4 + 1)
  ) else (
    ke92 l4
  )
set_option maxRecDepth 10000 in
theorem sm_client_J87 {g : Gm RS Int32} {kb : Int32 → Int32 → Int32 → RS → Option (Int32 × RS)} {ke92 : Int32 → RS → Option (Int32 × RS)} {ke101 : RS → Option (Int32 × RS)} (B : Br g cX12_client 7 voI (some .int) 0 0) {l1 : Nat} (hl11 : l1 < 99) (hl12 : mK l1 = 2) (hkb : ∀ (l2 : Int32) (l3 : Int32) (l4 : Int32), Sm g 7 3 [(0, .ref g.1.2.2.2.2.2), (1, .ref (g.1.2.2.2.2.2 + mO l1)), (2, .int l2), (3, .int l3), (4, .int l4)] [] (kb l2 l3 l4)) (hke92 : ∀ (l4 : Int32), Sm g 7 92 [(4, .int l4)] [] (ke92 l4)) (hke101 : Sm g 7 101 [] [] (ke101)) (l2 : Int32) (l3 : Int32) (l4 : Int32) (l5 : Int32) : Sm g 7 87 [(0, .ref g.1.2.2.2.2.2), (1, .ref (g.1.2.2.2.2.2 + mO l1)), (2, .int l2), (3, .int l3), (4, .int l4), (5, .int l5)] [] (R_client_J87 l1 kb ke92 ke101 l2 l3 l4 l5) := by
  unfold R_client_J87
  refine s_iload B.1 5 dX12_client_87 rfl ?_
  refine s_if_eq B.1 95 dX12_client_89 (by decide) ?_ ?_
  · refine s_iinc (v := l4 + 1) (lv' := [(4, .int (l4 + 1)), (0, .ref g.1.2.2.2.2.2), (1, .ref (g.1.2.2.2.2.2 + mO l1)), (2, .int l2), (3, .int l3), (5, .int l5)]) B.1 4 dX12_client_95 rfl rfl (by decide) rfl ?_
    refine s_goto B.1 3 dX12_client_98 (by decide) ?_
    exact Sm.lvs [1, 2, 3, 4, 0] rfl (hkb l2 l3 (l4 + 1))
  · exact Sm.lvs [4] rfl (hke92 l4)
def R_client_J79 (l1 : Nat) (kb : Int32 → Int32 → Int32 → Int32 → Int32 → RS → Option (Int32 × RS)) (ke87 : Int32 → Int32 → Int32 → Int32 → RS → Option (Int32 × RS)) (l2 : Int32) (l3 : Int32) (l4 : Int32) (l6 : Int32) (s0 : Int32) : RS → Option (Int32 × RS) :=
  kb l2 l3 l4 s0 (l6 + 1)
set_option maxRecDepth 10000 in
theorem sm_client_J79 {g : Gm RS Int32} {kb : Int32 → Int32 → Int32 → Int32 → Int32 → RS → Option (Int32 × RS)} {ke87 : Int32 → Int32 → Int32 → Int32 → RS → Option (Int32 × RS)} (B : Br g cX12_client 7 voI (some .int) 0 0) {l1 : Nat} (hl11 : l1 < 99) (hl12 : mK l1 = 2) (hkb : ∀ (l2 : Int32) (l3 : Int32) (l4 : Int32) (l5 : Int32) (l6 : Int32), Sm g 7 41 [(0, .ref g.1.2.2.2.2.2), (1, .ref (g.1.2.2.2.2.2 + mO l1)), (2, .int l2), (3, .int l3), (4, .int l4), (5, .int l5), (6, .int l6)] [] (kb l2 l3 l4 l5 l6)) (hke87 : ∀ (l2 : Int32) (l3 : Int32) (l4 : Int32) (l5 : Int32), Sm g 7 87 [(0, .ref g.1.2.2.2.2.2), (1, .ref (g.1.2.2.2.2.2 + mO l1)), (2, .int l2), (3, .int l3), (4, .int l4), (5, .int l5)] [] (ke87 l2 l3 l4 l5)) (l2 : Int32) (l3 : Int32) (l4 : Int32) (l6 : Int32) (s0 : Int32) : Sm g 7 79 [(0, .ref g.1.2.2.2.2.2), (1, .ref (g.1.2.2.2.2.2 + mO l1)), (2, .int l2), (3, .int l3), (4, .int l4), (6, .int l6)] [.int s0] (R_client_J79 l1 kb ke87 l2 l3 l4 l6 s0) := by
  unfold R_client_J79
  refine s_istore (lv' := [(5, .int s0), (0, .ref g.1.2.2.2.2.2), (1, .ref (g.1.2.2.2.2.2 + mO l1)), (2, .int l2), (3, .int l3), (4, .int l4), (6, .int l6)]) B.1 dX12_client_79 (by decide) rfl ?_
  refine s_iinc (v := l6 + 1) (lv' := [(6, .int (l6 + 1)), (5, .int s0), (0, .ref g.1.2.2.2.2.2), (1, .ref (g.1.2.2.2.2.2 + mO l1)), (2, .int l2), (3, .int l3), (4, .int l4)]) B.1 6 dX12_client_81 rfl rfl (by decide) rfl ?_
  refine s_goto B.1 41 dX12_client_84 (by decide) ?_
  exact Sm.lvs [2, 3, 4, 5, 6, 1, 0] rfl (hkb l2 l3 l4 s0 (l6 + 1))
def R_client_B41 (l1 : Nat) (kb : Int32 → Int32 → Int32 → Int32 → Int32 → RS → Option (Int32 × RS)) (ke87 : Int32 → Int32 → Int32 → Int32 → RS → Option (Int32 × RS)) (l2 : Int32) (l3 : Int32) (l4 : Int32) (l5 : Int32) (l6 : Int32) : RS → Option (Int32 × RS) :=
  if l3 ≤ l6 then (
    ke87 l2 l3 l4 l5
  ) else (
    if l5 = 0 then (
      ke87 l2 l3 l4 l5
    ) else (
      rA 14 (((20 : Int32) * l4) + l6) fun v1 =>
      rA l1 (l2 + l6) fun v2 =>
      if v1 = v2 then (
        R_client_J79 l1 kb ke87 l2 l3 l4 l6 (1 : Int32)
      ) else (
        R_client_J79 l1 kb ke87 l2 l3 l4 l6 (0 : Int32)
      )
    )
  )
def R_client_L41 (l1 : Nat) (ke87 : Int32 → Int32 → Int32 → Int32 → RS → Option (Int32 × RS)) : Nat → Int32 → Int32 → Int32 → Int32 → Int32 → RS → Option (Int32 × RS)
  | 0, _, _, _, _, _ => no
  | n + 1, l2, l3, l4, l5, l6 => R_client_B41 l1 (fun l2 l3 l4 l5 l6 => R_client_L41 l1 ke87 n l2 l3 l4 l5 l6) ke87 l2 l3 l4 l5 l6
set_option maxRecDepth 10000 in
theorem sm_client_B41 {g : Gm RS Int32} {kb : Int32 → Int32 → Int32 → Int32 → Int32 → RS → Option (Int32 × RS)} {ke87 : Int32 → Int32 → Int32 → Int32 → RS → Option (Int32 × RS)} (B : Br g cX12_client 7 voI (some .int) 0 0) {l1 : Nat} (hl11 : l1 < 99) (hl12 : mK l1 = 2) (hkb : ∀ (l2 : Int32) (l3 : Int32) (l4 : Int32) (l5 : Int32) (l6 : Int32), Sm g 7 41 [(0, .ref g.1.2.2.2.2.2), (1, .ref (g.1.2.2.2.2.2 + mO l1)), (2, .int l2), (3, .int l3), (4, .int l4), (5, .int l5), (6, .int l6)] [] (kb l2 l3 l4 l5 l6)) (hke87 : ∀ (l2 : Int32) (l3 : Int32) (l4 : Int32) (l5 : Int32), Sm g 7 87 [(0, .ref g.1.2.2.2.2.2), (1, .ref (g.1.2.2.2.2.2 + mO l1)), (2, .int l2), (3, .int l3), (4, .int l4), (5, .int l5)] [] (ke87 l2 l3 l4 l5)) (l2 : Int32) (l3 : Int32) (l4 : Int32) (l5 : Int32) (l6 : Int32) : Sm g 7 41 [(0, .ref g.1.2.2.2.2.2), (1, .ref (g.1.2.2.2.2.2 + mO l1)), (2, .int l2), (3, .int l3), (4, .int l4), (5, .int l5), (6, .int l6)] [] (R_client_B41 l1 kb ke87 l2 l3 l4 l5 l6) := by
  unfold R_client_B41
  refine s_iload B.1 6 dX12_client_41 rfl ?_
  refine s_iload_n B.1 3 dX12_client_43 rfl rfl ?_
  refine s_icmp_ge B.1 87 dX12_client_44 (by decide) ?_ ?_
  · exact Sm.lvs [0, 1, 2, 3, 4, 5] rfl (hke87 l2 l3 l4 l5)
  · refine s_iload B.1 5 dX12_client_47 rfl ?_
    refine s_if_eq B.1 87 dX12_client_49 (by decide) ?_ ?_
    · exact Sm.lvs [0, 1, 2, 3, 4, 5] rfl (hke87 l2 l3 l4 l5)
    · refine s_aload_n B.1 0 dX12_client_52 rfl rfl ?_
      refine rr_getA B 14 mh_14 mn_14 mf_14 dX12_client_53 ?_
      refine s_bipush (v := (20)) B.1 dX12_client_56 (by decide) ?_
      refine s_iload B.1 4 dX12_client_58 rfl ?_
      refine s_imul B.1 dX12_client_60 ?_
      refine s_iload B.1 6 dX12_client_61 rfl ?_
      refine s_iadd B.1 dX12_client_63 ?_
      refine rr_bald B 14 mh_14 mk_14 dX12_client_64 (fun v1 => ?_)
      refine s_aload_n B.1 1 dX12_client_65 rfl rfl ?_
      refine s_iload_n B.1 2 dX12_client_66 rfl rfl ?_
      refine s_iload B.1 6 dX12_client_67 rfl ?_
      refine s_iadd B.1 dX12_client_69 ?_
      refine rr_bald B l1 hl11 hl12 dX12_client_70 (fun v2 => ?_)
      refine s_icmp_ne B.1 78 dX12_client_71 (by decide) ?_ ?_
      · refine s_iconst (v := 0) B.1 dX12_client_78 (by decide) ?_
        exact Sm.lvs [0, 1, 2, 3, 4, 6] rfl (sm_client_J79 B hl11 hl12 hkb hke87 l2 l3 l4 l6 (0 : Int32))
      · refine s_iconst (v := 1) B.1 dX12_client_74 (by decide) ?_
        refine s_goto B.1 79 dX12_client_75 (by decide) ?_
        exact Sm.lvs [0, 1, 2, 3, 4, 6] rfl (sm_client_J79 B hl11 hl12 hkb hke87 l2 l3 l4 l6 (1 : Int32))
set_option maxRecDepth 10000 in
theorem sm_client_L41 {g : Gm RS Int32} {ke87 : Int32 → Int32 → Int32 → Int32 → RS → Option (Int32 × RS)} (B : Br g cX12_client 7 voI (some .int) 0 0) {l1 : Nat} (hl11 : l1 < 99) (hl12 : mK l1 = 2) (hke87 : ∀ (l2 : Int32) (l3 : Int32) (l4 : Int32) (l5 : Int32), Sm g 7 87 [(0, .ref g.1.2.2.2.2.2), (1, .ref (g.1.2.2.2.2.2 + mO l1)), (2, .int l2), (3, .int l3), (4, .int l4), (5, .int l5)] [] (ke87 l2 l3 l4 l5)) : ∀ (n : Nat) (l2 : Int32) (l3 : Int32) (l4 : Int32) (l5 : Int32) (l6 : Int32), Sm g 7 41 [(0, .ref g.1.2.2.2.2.2), (1, .ref (g.1.2.2.2.2.2 + mO l1)), (2, .int l2), (3, .int l3), (4, .int l4), (5, .int l5), (6, .int l6)] [] (R_client_L41 l1 ke87 n l2 l3 l4 l5 l6)
  | 0, _, _, _, _, _ => Sm.fail
  | n + 1, l2, l3, l4, l5, l6 => sm_client_B41 B hl11 hl12 (sm_client_L41 B hl11 hl12 hke87 n) hke87 l2 l3 l4 l5 l6
def R_client_J36 (l1 : Nat) (kb : Int32 → Int32 → Int32 → RS → Option (Int32 × RS)) (ke92 : Int32 → RS → Option (Int32 × RS)) (ke101 : RS → Option (Int32 × RS)) (l2 : Int32) (l3 : Int32) (l4 : Int32) (s0 : Int32) : RS → Option (Int32 × RS) :=
  R_client_L41 l1 (fun l2 l3 l4 l5 => R_client_J87 l1 kb ke92 ke101 l2 l3 l4 l5) fu l2 l3 l4 s0 (0 : Int32)
set_option maxRecDepth 10000 in
theorem sm_client_J36 {g : Gm RS Int32} {kb : Int32 → Int32 → Int32 → RS → Option (Int32 × RS)} {ke92 : Int32 → RS → Option (Int32 × RS)} {ke101 : RS → Option (Int32 × RS)} (B : Br g cX12_client 7 voI (some .int) 0 0) {l1 : Nat} (hl11 : l1 < 99) (hl12 : mK l1 = 2) (hkb : ∀ (l2 : Int32) (l3 : Int32) (l4 : Int32), Sm g 7 3 [(0, .ref g.1.2.2.2.2.2), (1, .ref (g.1.2.2.2.2.2 + mO l1)), (2, .int l2), (3, .int l3), (4, .int l4)] [] (kb l2 l3 l4)) (hke92 : ∀ (l4 : Int32), Sm g 7 92 [(4, .int l4)] [] (ke92 l4)) (hke101 : Sm g 7 101 [] [] (ke101)) (l2 : Int32) (l3 : Int32) (l4 : Int32) (s0 : Int32) : Sm g 7 36 [(0, .ref g.1.2.2.2.2.2), (1, .ref (g.1.2.2.2.2.2 + mO l1)), (2, .int l2), (3, .int l3), (4, .int l4)] [.int s0] (R_client_J36 l1 kb ke92 ke101 l2 l3 l4 s0) := by
  unfold R_client_J36
  refine s_istore (lv' := [(5, .int s0), (0, .ref g.1.2.2.2.2.2), (1, .ref (g.1.2.2.2.2.2 + mO l1)), (2, .int l2), (3, .int l3), (4, .int l4)]) B.1 dX12_client_36 (by decide) rfl ?_
  refine s_iconst (v := 0) B.1 dX12_client_38 (by decide) ?_
  refine s_istore (lv' := [(6, .int (0 : Int32)), (5, .int s0), (0, .ref g.1.2.2.2.2.2), (1, .ref (g.1.2.2.2.2.2 + mO l1)), (2, .int l2), (3, .int l3), (4, .int l4)]) B.1 dX12_client_39 (by decide) rfl ?_
  exact Sm.lvs [2, 3, 4, 5, 6, 1, 0] rfl (sm_client_L41 B hl11 hl12 (fun l2 l3 l4 l5 => sm_client_J87 B hl11 hl12 hkb hke92 hke101 l2 l3 l4 l5) fu l2 l3 l4 s0 (0 : Int32))
def R_client_J35 (l1 : Nat) (kb : Int32 → Int32 → Int32 → RS → Option (Int32 × RS)) (ke92 : Int32 → RS → Option (Int32 × RS)) (ke101 : RS → Option (Int32 × RS)) (l2 : Int32) (l3 : Int32) (l4 : Int32) : RS → Option (Int32 × RS) :=
  R_client_J36 l1 kb ke92 ke101 l2 l3 l4 (0 : Int32)
set_option maxRecDepth 10000 in
theorem sm_client_J35 {g : Gm RS Int32} {kb : Int32 → Int32 → Int32 → RS → Option (Int32 × RS)} {ke92 : Int32 → RS → Option (Int32 × RS)} {ke101 : RS → Option (Int32 × RS)} (B : Br g cX12_client 7 voI (some .int) 0 0) {l1 : Nat} (hl11 : l1 < 99) (hl12 : mK l1 = 2) (hkb : ∀ (l2 : Int32) (l3 : Int32) (l4 : Int32), Sm g 7 3 [(0, .ref g.1.2.2.2.2.2), (1, .ref (g.1.2.2.2.2.2 + mO l1)), (2, .int l2), (3, .int l3), (4, .int l4)] [] (kb l2 l3 l4)) (hke92 : ∀ (l4 : Int32), Sm g 7 92 [(4, .int l4)] [] (ke92 l4)) (hke101 : Sm g 7 101 [] [] (ke101)) (l2 : Int32) (l3 : Int32) (l4 : Int32) : Sm g 7 35 [(0, .ref g.1.2.2.2.2.2), (1, .ref (g.1.2.2.2.2.2 + mO l1)), (2, .int l2), (3, .int l3), (4, .int l4)] [] (R_client_J35 l1 kb ke92 ke101 l2 l3 l4) := by
  unfold R_client_J35
  refine s_iconst (v := 0) B.1 dX12_client_35 (by decide) ?_
  exact Sm.lvs [0, 1, 2, 3, 4] rfl (sm_client_J36 B hl11 hl12 hkb hke92 hke101 l2 l3 l4 (0 : Int32))
def R_client_B3 (l1 : Nat) (kb : Int32 → Int32 → Int32 → RS → Option (Int32 × RS)) (ke92 : Int32 → RS → Option (Int32 × RS)) (ke101 : RS → Option (Int32 × RS)) (l2 : Int32) (l3 : Int32) (l4 : Int32) : RS → Option (Int32 × RS) :=
  if (12 : Int32) ≤ l4 then (
    ke101
  ) else (
    rA 11 l4 fun v3 =>
    if v3 = 0 then (
      R_client_J35 l1 kb ke92 ke101 l2 l3 l4
    ) else (
      rA 13 l4 fun v4 =>
      if v4 = l3 then (
        R_client_J36 l1 kb ke92 ke101 l2 l3 l4 (1 : Int32)
      ) else (
        R_client_J35 l1 kb ke92 ke101 l2 l3 l4
      )
    )
  )
def R_client_L3 (l1 : Nat) (ke92 : Int32 → RS → Option (Int32 × RS)) (ke101 : RS → Option (Int32 × RS)) : Nat → Int32 → Int32 → Int32 → RS → Option (Int32 × RS)
  | 0, _, _, _ => no
  | n + 1, l2, l3, l4 => R_client_B3 l1 (fun l2 l3 l4 => R_client_L3 l1 ke92 ke101 n l2 l3 l4) ke92 ke101 l2 l3 l4
set_option maxRecDepth 10000 in
theorem sm_client_B3 {g : Gm RS Int32} {kb : Int32 → Int32 → Int32 → RS → Option (Int32 × RS)} {ke92 : Int32 → RS → Option (Int32 × RS)} {ke101 : RS → Option (Int32 × RS)} (B : Br g cX12_client 7 voI (some .int) 0 0) {l1 : Nat} (hl11 : l1 < 99) (hl12 : mK l1 = 2) (hkb : ∀ (l2 : Int32) (l3 : Int32) (l4 : Int32), Sm g 7 3 [(0, .ref g.1.2.2.2.2.2), (1, .ref (g.1.2.2.2.2.2 + mO l1)), (2, .int l2), (3, .int l3), (4, .int l4)] [] (kb l2 l3 l4)) (hke92 : ∀ (l4 : Int32), Sm g 7 92 [(4, .int l4)] [] (ke92 l4)) (hke101 : Sm g 7 101 [] [] (ke101)) (l2 : Int32) (l3 : Int32) (l4 : Int32) : Sm g 7 3 [(0, .ref g.1.2.2.2.2.2), (1, .ref (g.1.2.2.2.2.2 + mO l1)), (2, .int l2), (3, .int l3), (4, .int l4)] [] (R_client_B3 l1 kb ke92 ke101 l2 l3 l4) := by
  unfold R_client_B3
  refine s_iload B.1 4 dX12_client_3 rfl ?_
  refine s_bipush (v := (12)) B.1 dX12_client_5 (by decide) ?_
  refine s_icmp_ge B.1 101 dX12_client_7 (by decide) ?_ ?_
  · exact Sm.lvs [] rfl (hke101)
  · refine s_aload_n B.1 0 dX12_client_10 rfl rfl ?_
    refine rr_getA B 11 mh_11 mn_11 mf_11 dX12_client_11 ?_
    refine s_iload B.1 4 dX12_client_14 rfl ?_
    refine rr_zald B 11 mh_11 mk_11 dX12_client_16 (fun v3 => ?_)
    refine s_if_eq B.1 35 dX12_client_17 (by decide) ?_ ?_
    · exact Sm.lvs [0, 1, 2, 3, 4] rfl (sm_client_J35 B hl11 hl12 hkb hke92 hke101 l2 l3 l4)
    · refine s_aload_n B.1 0 dX12_client_20 rfl rfl ?_
      refine rr_getA B 13 mh_13 mn_13 mf_13 dX12_client_21 ?_
      refine s_iload B.1 4 dX12_client_24 rfl ?_
      refine rr_iald B 13 mh_13 mk_13 dX12_client_26 (fun v4 => ?_)
      refine s_iload_n B.1 3 dX12_client_27 rfl rfl ?_
      refine s_icmp_ne B.1 35 dX12_client_28 (by decide) ?_ ?_
      · exact Sm.lvs [0, 1, 2, 3, 4] rfl (sm_client_J35 B hl11 hl12 hkb hke92 hke101 l2 l3 l4)
      · refine s_iconst (v := 1) B.1 dX12_client_31 (by decide) ?_
        refine s_goto B.1 36 dX12_client_32 (by decide) ?_
        exact Sm.lvs [0, 1, 2, 3, 4] rfl (sm_client_J36 B hl11 hl12 hkb hke92 hke101 l2 l3 l4 (1 : Int32))
set_option maxRecDepth 10000 in
theorem sm_client_L3 {g : Gm RS Int32} {ke92 : Int32 → RS → Option (Int32 × RS)} {ke101 : RS → Option (Int32 × RS)} (B : Br g cX12_client 7 voI (some .int) 0 0) {l1 : Nat} (hl11 : l1 < 99) (hl12 : mK l1 = 2) (hke92 : ∀ (l4 : Int32), Sm g 7 92 [(4, .int l4)] [] (ke92 l4)) (hke101 : Sm g 7 101 [] [] (ke101)) : ∀ (n : Nat) (l2 : Int32) (l3 : Int32) (l4 : Int32), Sm g 7 3 [(0, .ref g.1.2.2.2.2.2), (1, .ref (g.1.2.2.2.2.2 + mO l1)), (2, .int l2), (3, .int l3), (4, .int l4)] [] (R_client_L3 l1 ke92 ke101 n l2 l3 l4)
  | 0, _, _, _ => Sm.fail
  | n + 1, l2, l3, l4 => sm_client_B3 B hl11 hl12 (sm_client_L3 B hl11 hl12 hke92 hke101 n) hke92 hke101 l2 l3 l4
def R_client (l1 : Nat) (l2 : Int32) (l3 : Int32) : RS → Option (Int32 × RS) :=
  R_client_L3 l1 (fun l4 => R_client_J92 l1 l4) (R_client_J101 l1) fu l2 l3 (0 : Int32)
set_option maxRecDepth 10000 in
theorem m_client {w : Wd} (hw : Wok w) (l1 : Nat) (l2 : Int32) (l3 : Int32) (hl11 : l1 < 99) (hl12 : mK l1 = 2) : MR w yX12_client cX12_client 7 (some .int) 0 0 voI [.ref w.2.2.2.2.2, .ref (w.2.2.2.2.2 + mO l1), .int l2, .int l3] (R_client l1 l2 l3) := by
  refine MR.of hw rfl (Nat.le_of_ble_eq_true rfl) (fun g hg B => ?_)
  subst hg
  unfold R_client
  show Sm g 7 0 [(0, .ref g.1.2.2.2.2.2), (1, .ref (g.1.2.2.2.2.2 + mO l1)), (2, .int l2), (3, .int l3)] [] _
  refine s_iconst (v := 0) B.1 dX12_client_0 (by decide) ?_
  refine s_istore (lv' := [(4, .int (0 : Int32)), (0, .ref g.1.2.2.2.2.2), (1, .ref (g.1.2.2.2.2.2 + mO l1)), (2, .int l2), (3, .int l3)]) B.1 dX12_client_1 (by decide) rfl ?_
  exact Sm.lvs [1, 2, 3, 4, 0] rfl (sm_client_L3 B hl11 hl12 (fun l4 => sm_client_J92 B hl11 hl12 l4) (sm_client_J101 B hl11 hl12) fu l2 l3 (0 : Int32))
def R_free_J25 : RS → Option (Int32 × RS) :=
  rt ((-1 : Int32))
set_option maxRecDepth 10000 in
theorem sm_free_J25 {g : Gm RS Int32} (B : Br g cX12_free 2 voI (some .int) 0 0) : Sm g 2 25 [] [] (R_free_J25) := by
  unfold R_free_J25
  refine s_iconst (v := (-1)) B.1 dX12_free_25 (by decide) ?_
  exact s_iret B.1 B.2.1 dX12_free_26
def R_free_J17 (l1 : Int32) : RS → Option (Int32 × RS) :=
  rt (l1)
set_option maxRecDepth 10000 in
theorem sm_free_J17 {g : Gm RS Int32} (B : Br g cX12_free 2 voI (some .int) 0 0) (l1 : Int32) : Sm g 2 17 [(1, .int l1)] [] (R_free_J17 l1) := by
  unfold R_free_J17
  refine s_iload_n B.1 0 dX12_free_17 rfl rfl ?_
  exact s_iret B.1 B.2.1 dX12_free_18
def R_free_B2 (kb : Int32 → RS → Option (Int32 × RS)) (ke17 : Int32 → RS → Option (Int32 × RS)) (ke25 : RS → Option (Int32 × RS)) (l1 : Int32) : RS → Option (Int32 × RS) :=
  if (12 : Int32) ≤ l1 then (
    ke25
  ) else (
    rA 11 l1 fun v1 =>
    if v1 = 0 then (
      ke17 l1
    ) else (
      kb (l1 + 1)
    )
  )
def R_free_L2 (ke17 : Int32 → RS → Option (Int32 × RS)) (ke25 : RS → Option (Int32 × RS)) : Nat → Int32 → RS → Option (Int32 × RS)
  | 0, _ => no
  | n + 1, l1 => R_free_B2 (fun l1 => R_free_L2 ke17 ke25 n l1) ke17 ke25 l1
set_option maxRecDepth 10000 in
theorem sm_free_B2 {g : Gm RS Int32} {kb : Int32 → RS → Option (Int32 × RS)} {ke17 : Int32 → RS → Option (Int32 × RS)} {ke25 : RS → Option (Int32 × RS)} (B : Br g cX12_free 2 voI (some .int) 0 0) (hkb : ∀ (l1 : Int32), Sm g 2 2 [(0, .ref g.1.2.2.2.2.2), (1, .int l1)] [] (kb l1)) (hke17 : ∀ (l1 : Int32), Sm g 2 17 [(1, .int l1)] [] (ke17 l1)) (hke25 : Sm g 2 25 [] [] (ke25)) (l1 : Int32) : Sm g 2 2 [(0, .ref g.1.2.2.2.2.2), (1, .int l1)] [] (R_free_B2 kb ke17 ke25 l1) := by
  unfold R_free_B2
  refine s_iload_n B.1 1 dX12_free_2 rfl rfl ?_
  refine s_bipush (v := (12)) B.1 dX12_free_3 (by decide) ?_
  refine s_icmp_ge B.1 25 dX12_free_5 (by decide) ?_ ?_
  · exact Sm.lvs [] rfl (hke25)
  · refine s_aload_n B.1 0 dX12_free_8 rfl rfl ?_
    refine rr_getA B 11 mh_11 mn_11 mf_11 dX12_free_9 ?_
    refine s_iload_n B.1 1 dX12_free_12 rfl rfl ?_
    refine rr_zald B 11 mh_11 mk_11 dX12_free_13 (fun v1 => ?_)
    refine s_if_ne B.1 19 dX12_free_14 (by decide) ?_ ?_
    · refine s_iinc (v := l1 + 1) (lv' := [(1, .int (l1 + 1)), (0, .ref g.1.2.2.2.2.2)]) B.1 1 dX12_free_19 rfl rfl (by decide) rfl ?_
      refine s_goto B.1 2 dX12_free_22 (by decide) ?_
      exact Sm.lvs [1, 0] rfl (hkb (l1 + 1))
    · exact Sm.lvs [1] rfl (hke17 l1)
set_option maxRecDepth 10000 in
theorem sm_free_L2 {g : Gm RS Int32} {ke17 : Int32 → RS → Option (Int32 × RS)} {ke25 : RS → Option (Int32 × RS)} (B : Br g cX12_free 2 voI (some .int) 0 0) (hke17 : ∀ (l1 : Int32), Sm g 2 17 [(1, .int l1)] [] (ke17 l1)) (hke25 : Sm g 2 25 [] [] (ke25)) : ∀ (n : Nat) (l1 : Int32), Sm g 2 2 [(0, .ref g.1.2.2.2.2.2), (1, .int l1)] [] (R_free_L2 ke17 ke25 n l1)
  | 0, _ => Sm.fail
  | n + 1, l1 => sm_free_B2 B (sm_free_L2 B hke17 hke25 n) hke17 hke25 l1
def R_free : RS → Option (Int32 × RS) :=
  R_free_L2 (fun l1 => R_free_J17 l1) (R_free_J25) fu (0 : Int32)
set_option maxRecDepth 10000 in
theorem m_free {w : Wd} (hw : Wok w) : MR w yX12_free cX12_free 2 (some .int) 0 0 voI [.ref w.2.2.2.2.2] (R_free) := by
  refine MR.of hw rfl (Nat.le_of_ble_eq_true rfl) (fun g hg B => ?_)
  subst hg
  unfold R_free
  show Sm g 2 0 [(0, .ref g.1.2.2.2.2.2)] [] _
  refine s_iconst (v := 0) B.1 dX12_free_0 (by decide) ?_
  refine s_istore_n (lv' := [(1, .int (0 : Int32)), (0, .ref g.1.2.2.2.2.2)]) B.1 dX12_free_1 rfl (by decide) rfl ?_
  exact Sm.lvs [1, 0] rfl (sm_free_L2 B (fun l1 => sm_free_J17 B l1) (sm_free_J25 B) fu (0 : Int32))
def R_isTopic_J64 (l0 : Nat) (l3 : Int32) : RS → Option (Int32 × RS) :=
  zt (l3)
set_option maxRecDepth 10000 in
theorem sm_isTopic_J64 {g : Gm RS Int32} (B : Br g cX12_isTopic 5 voI (some .boolean) 0 0) {l0 : Nat} (hl01 : l0 < 99) (hl02 : mK l0 = 2) (l3 : Int32) : Sm g 5 64 [(3, .int l3)] [] (R_isTopic_J64 l0 l3) := by
  unfold R_isTopic_J64
  refine s_iload_n B.1 0 dX12_isTopic_64 rfl rfl ?_
  exact s_zret B.1 B.2.1 dX12_isTopic_65
def R_isTopic_J57 (l0 : Nat) (kb : Int32 → Int32 → Int32 → Int32 → RS → Option (Int32 × RS)) (ke64 : Int32 → RS → Option (Int32 × RS)) (l1 : Int32) (l2 : Int32) (l4 : Int32) (s0 : Int32) : RS → Option (Int32 × RS) :=
  kb l1 l2 s0 (l4 + 1)
set_option maxRecDepth 10000 in
theorem sm_isTopic_J57 {g : Gm RS Int32} {kb : Int32 → Int32 → Int32 → Int32 → RS → Option (Int32 × RS)} {ke64 : Int32 → RS → Option (Int32 × RS)} (B : Br g cX12_isTopic 5 voI (some .boolean) 0 0) {l0 : Nat} (hl01 : l0 < 99) (hl02 : mK l0 = 2) (hkb : ∀ (l1 : Int32) (l2 : Int32) (l3 : Int32) (l4 : Int32), Sm g 5 20 [(0, .ref (g.1.2.2.2.2.2 + mO l0)), (1, .int l1), (2, .int l2), (3, .int l3), (4, .int l4)] [] (kb l1 l2 l3 l4)) (hke64 : ∀ (l3 : Int32), Sm g 5 64 [(3, .int l3)] [] (ke64 l3)) (l1 : Int32) (l2 : Int32) (l4 : Int32) (s0 : Int32) : Sm g 5 57 [(0, .ref (g.1.2.2.2.2.2 + mO l0)), (1, .int l1), (2, .int l2), (4, .int l4)] [.int s0] (R_isTopic_J57 l0 kb ke64 l1 l2 l4 s0) := by
  unfold R_isTopic_J57
  refine s_istore_n (lv' := [(3, .int s0), (0, .ref (g.1.2.2.2.2.2 + mO l0)), (1, .int l1), (2, .int l2), (4, .int l4)]) B.1 dX12_isTopic_57 rfl (by decide) rfl ?_
  refine s_iinc (v := l4 + 1) (lv' := [(4, .int (l4 + 1)), (3, .int s0), (0, .ref (g.1.2.2.2.2.2 + mO l0)), (1, .int l1), (2, .int l2)]) B.1 4 dX12_isTopic_58 rfl rfl (by decide) rfl ?_
  refine s_goto B.1 20 dX12_isTopic_61 (by decide) ?_
  exact Sm.lvs [2, 3, 4, 1, 0] rfl (hkb l1 l2 s0 (l4 + 1))
def R_isTopic_J56 (l0 : Nat) (kb : Int32 → Int32 → Int32 → Int32 → RS → Option (Int32 × RS)) (ke64 : Int32 → RS → Option (Int32 × RS)) (l1 : Int32) (l2 : Int32) (l4 : Int32) : RS → Option (Int32 × RS) :=
  R_isTopic_J57 l0 kb ke64 l1 l2 l4 (0 : Int32)
set_option maxRecDepth 10000 in
theorem sm_isTopic_J56 {g : Gm RS Int32} {kb : Int32 → Int32 → Int32 → Int32 → RS → Option (Int32 × RS)} {ke64 : Int32 → RS → Option (Int32 × RS)} (B : Br g cX12_isTopic 5 voI (some .boolean) 0 0) {l0 : Nat} (hl01 : l0 < 99) (hl02 : mK l0 = 2) (hkb : ∀ (l1 : Int32) (l2 : Int32) (l3 : Int32) (l4 : Int32), Sm g 5 20 [(0, .ref (g.1.2.2.2.2.2 + mO l0)), (1, .int l1), (2, .int l2), (3, .int l3), (4, .int l4)] [] (kb l1 l2 l3 l4)) (hke64 : ∀ (l3 : Int32), Sm g 5 64 [(3, .int l3)] [] (ke64 l3)) (l1 : Int32) (l2 : Int32) (l4 : Int32) : Sm g 5 56 [(0, .ref (g.1.2.2.2.2.2 + mO l0)), (1, .int l1), (2, .int l2), (4, .int l4)] [] (R_isTopic_J56 l0 kb ke64 l1 l2 l4) := by
  unfold R_isTopic_J56
  refine s_iconst (v := 0) B.1 dX12_isTopic_56 (by decide) ?_
  exact Sm.lvs [0, 1, 2, 3] rfl (sm_isTopic_J57 B hl01 hl02 hkb hke64 l1 l2 l4 (0 : Int32))
def R_isTopic_B20 (l0 : Nat) (kb : Int32 → Int32 → Int32 → Int32 → RS → Option (Int32 × RS)) (ke64 : Int32 → RS → Option (Int32 × RS)) (l1 : Int32) (l2 : Int32) (l3 : Int32) (l4 : Int32) : RS → Option (Int32 × RS) :=
  if l2 ≤ l4 then (
    ke64 l3
  ) else (
    if l3 = 0 then (
      ke64 l3
    ) else (
      rA l0 (l1 + l4) fun v1 =>
      if v1 = (43 : Int32) then (
        R_isTopic_J56 l0 kb ke64 l1 l2 l4
      ) else (
        rA l0 (l1 + l4) fun v2 =>
        if v2 = (35 : Int32) then (
          R_isTopic_J56 l0 kb ke64 l1 l2 l4
        ) else (
          R_isTopic_J57 l0 kb ke64 l1 l2 l4 (1 : Int32)
        )
      )
    )
  )
def R_isTopic_L20 (l0 : Nat) (ke64 : Int32 → RS → Option (Int32 × RS)) : Nat → Int32 → Int32 → Int32 → Int32 → RS → Option (Int32 × RS)
  | 0, _, _, _, _ => no
  | n + 1, l1, l2, l3, l4 => R_isTopic_B20 l0 (fun l1 l2 l3 l4 => R_isTopic_L20 l0 ke64 n l1 l2 l3 l4) ke64 l1 l2 l3 l4
set_option maxRecDepth 10000 in
theorem sm_isTopic_B20 {g : Gm RS Int32} {kb : Int32 → Int32 → Int32 → Int32 → RS → Option (Int32 × RS)} {ke64 : Int32 → RS → Option (Int32 × RS)} (B : Br g cX12_isTopic 5 voI (some .boolean) 0 0) {l0 : Nat} (hl01 : l0 < 99) (hl02 : mK l0 = 2) (hkb : ∀ (l1 : Int32) (l2 : Int32) (l3 : Int32) (l4 : Int32), Sm g 5 20 [(0, .ref (g.1.2.2.2.2.2 + mO l0)), (1, .int l1), (2, .int l2), (3, .int l3), (4, .int l4)] [] (kb l1 l2 l3 l4)) (hke64 : ∀ (l3 : Int32), Sm g 5 64 [(3, .int l3)] [] (ke64 l3)) (l1 : Int32) (l2 : Int32) (l3 : Int32) (l4 : Int32) : Sm g 5 20 [(0, .ref (g.1.2.2.2.2.2 + mO l0)), (1, .int l1), (2, .int l2), (3, .int l3), (4, .int l4)] [] (R_isTopic_B20 l0 kb ke64 l1 l2 l3 l4) := by
  unfold R_isTopic_B20
  refine s_iload B.1 4 dX12_isTopic_20 rfl ?_
  refine s_iload_n B.1 2 dX12_isTopic_22 rfl rfl ?_
  refine s_icmp_ge B.1 64 dX12_isTopic_23 (by decide) ?_ ?_
  · exact Sm.lvs [3] rfl (hke64 l3)
  · refine s_iload_n B.1 3 dX12_isTopic_26 rfl rfl ?_
    refine s_if_eq B.1 64 dX12_isTopic_27 (by decide) ?_ ?_
    · exact Sm.lvs [3] rfl (hke64 l3)
    · refine s_aload_n B.1 0 dX12_isTopic_30 rfl rfl ?_
      refine s_iload_n B.1 1 dX12_isTopic_31 rfl rfl ?_
      refine s_iload B.1 4 dX12_isTopic_32 rfl ?_
      refine s_iadd B.1 dX12_isTopic_34 ?_
      refine rr_bald B l0 hl01 hl02 dX12_isTopic_35 (fun v1 => ?_)
      refine s_bipush (v := (43)) B.1 dX12_isTopic_36 (by decide) ?_
      refine s_icmp_eq B.1 56 dX12_isTopic_38 (by decide) ?_ ?_
      · exact Sm.lvs [0, 1, 2, 4] rfl (sm_isTopic_J56 B hl01 hl02 hkb hke64 l1 l2 l4)
      · refine s_aload_n B.1 0 dX12_isTopic_41 rfl rfl ?_
        refine s_iload_n B.1 1 dX12_isTopic_42 rfl rfl ?_
        refine s_iload B.1 4 dX12_isTopic_43 rfl ?_
        refine s_iadd B.1 dX12_isTopic_45 ?_
        refine rr_bald B l0 hl01 hl02 dX12_isTopic_46 (fun v2 => ?_)
        refine s_bipush (v := (35)) B.1 dX12_isTopic_47 (by decide) ?_
        refine s_icmp_eq B.1 56 dX12_isTopic_49 (by decide) ?_ ?_
        · exact Sm.lvs [0, 1, 2, 4] rfl (sm_isTopic_J56 B hl01 hl02 hkb hke64 l1 l2 l4)
        · refine s_iconst (v := 1) B.1 dX12_isTopic_52 (by decide) ?_
          refine s_goto B.1 57 dX12_isTopic_53 (by decide) ?_
          exact Sm.lvs [0, 1, 2, 4] rfl (sm_isTopic_J57 B hl01 hl02 hkb hke64 l1 l2 l4 (1 : Int32))
set_option maxRecDepth 10000 in
theorem sm_isTopic_L20 {g : Gm RS Int32} {ke64 : Int32 → RS → Option (Int32 × RS)} (B : Br g cX12_isTopic 5 voI (some .boolean) 0 0) {l0 : Nat} (hl01 : l0 < 99) (hl02 : mK l0 = 2) (hke64 : ∀ (l3 : Int32), Sm g 5 64 [(3, .int l3)] [] (ke64 l3)) : ∀ (n : Nat) (l1 : Int32) (l2 : Int32) (l3 : Int32) (l4 : Int32), Sm g 5 20 [(0, .ref (g.1.2.2.2.2.2 + mO l0)), (1, .int l1), (2, .int l2), (3, .int l3), (4, .int l4)] [] (R_isTopic_L20 l0 ke64 n l1 l2 l3 l4)
  | 0, _, _, _, _ => Sm.fail
  | n + 1, l1, l2, l3, l4 => sm_isTopic_B20 B hl01 hl02 (sm_isTopic_L20 B hl01 hl02 hke64 n) hke64 l1 l2 l3 l4
def R_isTopic_J16 (l0 : Nat) (l1 : Int32) (l2 : Int32) (s0 : Int32) : RS → Option (Int32 × RS) :=
  R_isTopic_L20 l0 (fun l3 => R_isTopic_J64 l0 l3) fu l1 l2 s0 (0 : Int32)
set_option maxRecDepth 10000 in
theorem sm_isTopic_J16 {g : Gm RS Int32} (B : Br g cX12_isTopic 5 voI (some .boolean) 0 0) {l0 : Nat} (hl01 : l0 < 99) (hl02 : mK l0 = 2) (l1 : Int32) (l2 : Int32) (s0 : Int32) : Sm g 5 16 [(0, .ref (g.1.2.2.2.2.2 + mO l0)), (1, .int l1), (2, .int l2)] [.int s0] (R_isTopic_J16 l0 l1 l2 s0) := by
  unfold R_isTopic_J16
  refine s_istore_n (lv' := [(3, .int s0), (0, .ref (g.1.2.2.2.2.2 + mO l0)), (1, .int l1), (2, .int l2)]) B.1 dX12_isTopic_16 rfl (by decide) rfl ?_
  refine s_iconst (v := 0) B.1 dX12_isTopic_17 (by decide) ?_
  refine s_istore (lv' := [(4, .int (0 : Int32)), (3, .int s0), (0, .ref (g.1.2.2.2.2.2 + mO l0)), (1, .int l1), (2, .int l2)]) B.1 dX12_isTopic_18 (by decide) rfl ?_
  exact Sm.lvs [2, 3, 4, 1, 0] rfl (sm_isTopic_L20 B hl01 hl02 (fun l3 => sm_isTopic_J64 B hl01 hl02 l3) fu l1 l2 s0 (0 : Int32))
def R_isTopic_J15 (l0 : Nat) (l1 : Int32) (l2 : Int32) : RS → Option (Int32 × RS) :=
  R_isTopic_J16 l0 l1 l2 (0 : Int32)
set_option maxRecDepth 10000 in
theorem sm_isTopic_J15 {g : Gm RS Int32} (B : Br g cX12_isTopic 5 voI (some .boolean) 0 0) {l0 : Nat} (hl01 : l0 < 99) (hl02 : mK l0 = 2) (l1 : Int32) (l2 : Int32) : Sm g 5 15 [(0, .ref (g.1.2.2.2.2.2 + mO l0)), (1, .int l1), (2, .int l2)] [] (R_isTopic_J15 l0 l1 l2) := by
  unfold R_isTopic_J15
  refine s_iconst (v := 0) B.1 dX12_isTopic_15 (by decide) ?_
  exact Sm.lvs [0, 1, 2] rfl (sm_isTopic_J16 B hl01 hl02 l1 l2 (0 : Int32))
def R_isTopic (l0 : Nat) (l1 : Int32) (l2 : Int32) : RS → Option (Int32 × RS) :=
  if l2 < (1 : Int32) then (
    R_isTopic_J15 l0 l1 l2
  ) else (
    if (64 : Int32) < l2 then (
      R_isTopic_J15 l0 l1 l2
    ) else (
      R_isTopic_J16 l0 l1 l2 (1 : Int32)
    )
  )
set_option maxRecDepth 10000 in
theorem m_isTopic {w : Wd} (hw : Wok w) (l0 : Nat) (l1 : Int32) (l2 : Int32) (hl01 : l0 < 99) (hl02 : mK l0 = 2) : MR w yX12_isTopic cX12_isTopic 5 (some .boolean) 0 0 voI [.ref (w.2.2.2.2.2 + mO l0), .int l1, .int l2] (R_isTopic l0 l1 l2) := by
  refine MR.of hw rfl (Nat.le_of_ble_eq_true rfl) (fun g hg B => ?_)
  subst hg
  unfold R_isTopic
  show Sm g 5 0 [(0, .ref (g.1.2.2.2.2.2 + mO l0)), (1, .int l1), (2, .int l2)] [] _
  refine s_iload_n B.1 2 dX12_isTopic_0 rfl rfl ?_
  refine s_iconst (v := 1) B.1 dX12_isTopic_1 (by decide) ?_
  refine s_icmp_lt B.1 15 dX12_isTopic_2 (by decide) ?_ ?_
  · exact Sm.lvs [0, 1, 2] rfl (sm_isTopic_J15 B hl01 hl02 l1 l2)
  · refine s_iload_n B.1 2 dX12_isTopic_5 rfl rfl ?_
    refine s_bipush (v := (64)) B.1 dX12_isTopic_6 (by decide) ?_
    refine s_icmp_gt B.1 15 dX12_isTopic_8 (by decide) ?_ ?_
    · exact Sm.lvs [0, 1, 2] rfl (sm_isTopic_J15 B hl01 hl02 l1 l2)
    · refine s_iconst (v := 1) B.1 dX12_isTopic_11 (by decide) ?_
      refine s_goto B.1 16 dX12_isTopic_12 (by decide) ?_
      exact Sm.lvs [0, 1, 2] rfl (sm_isTopic_J16 B hl01 hl02 l1 l2 (1 : Int32))
def R_copy_J33 (l1 : Int32) (l3 : Int32) : RS → Option (Int32 × RS) :=
  rt (l1 + l3)
set_option maxRecDepth 10000 in
theorem sm_copy_J33 {g : Gm RS Int32} (B : Br g cX12_copy 5 voI (some .int) 0 0) (l1 : Int32) (l3 : Int32) : Sm g 5 33 [(1, .int l1), (3, .int l3)] [] (R_copy_J33 l1 l3) := by
  unfold R_copy_J33
  refine s_iload_n B.1 0 dX12_copy_33 rfl rfl ?_
  refine s_iload_n B.1 1 dX12_copy_34 rfl rfl ?_
  refine s_iadd B.1 dX12_copy_35 ?_
  exact s_iret B.1 B.2.1 dX12_copy_36
def R_copy_B3 (kb : Int32 → Int32 → Int32 → Int32 → RS → Option (Int32 × RS)) (ke33 : Int32 → Int32 → RS → Option (Int32 × RS)) (l1 : Int32) (l2 : Int32) (l3 : Int32) (l4 : Int32) : RS → Option (Int32 × RS) :=
  if l3 ≤ l4 then (
    ke33 l1 l3
  ) else (
    rA 6 (l2 + l4) fun v1 =>
    wA 45 (l1 + l4) (vp_nar .byte v1) <|
    kb l1 l2 l3 (l4 + 1)
  )
def R_copy_L3 (ke33 : Int32 → Int32 → RS → Option (Int32 × RS)) : Nat → Int32 → Int32 → Int32 → Int32 → RS → Option (Int32 × RS)
  | 0, _, _, _, _ => no
  | n + 1, l1, l2, l3, l4 => R_copy_B3 (fun l1 l2 l3 l4 => R_copy_L3 ke33 n l1 l2 l3 l4) ke33 l1 l2 l3 l4
set_option maxRecDepth 10000 in
theorem sm_copy_B3 {g : Gm RS Int32} {kb : Int32 → Int32 → Int32 → Int32 → RS → Option (Int32 × RS)} {ke33 : Int32 → Int32 → RS → Option (Int32 × RS)} (B : Br g cX12_copy 5 voI (some .int) 0 0) (hkb : ∀ (l1 : Int32) (l2 : Int32) (l3 : Int32) (l4 : Int32), Sm g 5 3 [(0, .ref g.1.2.2.2.2.2), (1, .int l1), (2, .int l2), (3, .int l3), (4, .int l4)] [] (kb l1 l2 l3 l4)) (hke33 : ∀ (l1 : Int32) (l3 : Int32), Sm g 5 33 [(1, .int l1), (3, .int l3)] [] (ke33 l1 l3)) (l1 : Int32) (l2 : Int32) (l3 : Int32) (l4 : Int32) : Sm g 5 3 [(0, .ref g.1.2.2.2.2.2), (1, .int l1), (2, .int l2), (3, .int l3), (4, .int l4)] [] (R_copy_B3 kb ke33 l1 l2 l3 l4) := by
  unfold R_copy_B3
  refine s_iload B.1 4 dX12_copy_3 rfl ?_
  refine s_iload_n B.1 3 dX12_copy_5 rfl rfl ?_
  refine s_icmp_ge B.1 33 dX12_copy_6 (by decide) ?_ ?_
  · exact Sm.lvs [1, 3] rfl (hke33 l1 l3)
  · refine s_aload_n B.1 0 dX12_copy_9 rfl rfl ?_
    refine rr_getA B 45 mh_45 mn_45 mf_45 dX12_copy_10 ?_
    refine s_iload_n B.1 1 dX12_copy_13 rfl rfl ?_
    refine s_iload B.1 4 dX12_copy_14 rfl ?_
    refine s_iadd B.1 dX12_copy_16 ?_
    refine s_aload_n B.1 0 dX12_copy_17 rfl rfl ?_
    refine rr_getA B 6 mh_6 mn_6 mf_6 dX12_copy_18 ?_
    refine s_iload_n B.1 2 dX12_copy_21 rfl rfl ?_
    refine s_iload B.1 4 dX12_copy_22 rfl ?_
    refine s_iadd B.1 dX12_copy_24 ?_
    refine rr_bald B 6 mh_6 mk_6 dX12_copy_25 (fun v1 => ?_)
    refine rr_bast B 45 mh_45 mk_45 dX12_copy_26 ?_
    refine s_iinc (v := l4 + 1) (lv' := [(4, .int (l4 + 1)), (0, .ref g.1.2.2.2.2.2), (1, .int l1), (2, .int l2), (3, .int l3)]) B.1 4 dX12_copy_27 rfl rfl (by decide) rfl ?_
    refine s_goto B.1 3 dX12_copy_30 (by decide) ?_
    exact Sm.lvs [1, 2, 3, 4, 0] rfl (hkb l1 l2 l3 (l4 + 1))
set_option maxRecDepth 10000 in
theorem sm_copy_L3 {g : Gm RS Int32} {ke33 : Int32 → Int32 → RS → Option (Int32 × RS)} (B : Br g cX12_copy 5 voI (some .int) 0 0) (hke33 : ∀ (l1 : Int32) (l3 : Int32), Sm g 5 33 [(1, .int l1), (3, .int l3)] [] (ke33 l1 l3)) : ∀ (n : Nat) (l1 : Int32) (l2 : Int32) (l3 : Int32) (l4 : Int32), Sm g 5 3 [(0, .ref g.1.2.2.2.2.2), (1, .int l1), (2, .int l2), (3, .int l3), (4, .int l4)] [] (R_copy_L3 ke33 n l1 l2 l3 l4)
  | 0, _, _, _, _ => Sm.fail
  | n + 1, l1, l2, l3, l4 => sm_copy_B3 B (sm_copy_L3 B hke33 n) hke33 l1 l2 l3 l4
def R_copy (l1 : Int32) (l2 : Int32) (l3 : Int32) : RS → Option (Int32 × RS) :=
  R_copy_L3 (fun l1 l3 => R_copy_J33 l1 l3) fu l1 l2 l3 (0 : Int32)
set_option maxRecDepth 10000 in
theorem m_copy {w : Wd} (hw : Wok w) (l1 : Int32) (l2 : Int32) (l3 : Int32) : MR w yX12_copy cX12_copy 5 (some .int) 0 0 voI [.ref w.2.2.2.2.2, .int l1, .int l2, .int l3] (R_copy l1 l2 l3) := by
  refine MR.of hw rfl (Nat.le_of_ble_eq_true rfl) (fun g hg B => ?_)
  subst hg
  unfold R_copy
  show Sm g 5 0 [(0, .ref g.1.2.2.2.2.2), (1, .int l1), (2, .int l2), (3, .int l3)] [] _
  refine s_iconst (v := 0) B.1 dX12_copy_0 (by decide) ?_
  refine s_istore (lv' := [(4, .int (0 : Int32)), (0, .ref g.1.2.2.2.2.2), (1, .int l1), (2, .int l2), (3, .int l3)]) B.1 dX12_copy_1 (by decide) rfl ?_
  exact Sm.lvs [1, 2, 3, 4, 0] rfl (sm_copy_L3 B (fun l1 l3 => sm_copy_J33 B l1 l3) fu l1 l2 l3 (0 : Int32))
def R_message_J679 (l5 : Int32) (s1 : Int32) (s2 : Int32) : RS → Option (Int32 × RS) :=
  wA 62 s1 s2 <|
  rt (l5)
set_option maxRecDepth 10000 in
theorem sm_message_J679 {g : Gm RS Int32} (B : Br g cX12_message 8 voI (some .int) 1 24) (l5 : Int32) (s1 : Int32) (s2 : Int32) : Sm g 8 679 [(5, .int l5)] [.int s2, .int s1, .ref (g.1.2.2.2.2.2 + mO 62)] (R_message_J679 l5 s1 s2) := by
  unfold R_message_J679
  refine rr_iast B 62 mh_62 mk_62 dX12_message_679 ?_
  refine s_iload B.1 0 dX12_message_680 rfl ?_
  exact s_iret B.1 B.2.1 dX12_message_682
def R_message_J626 (l3 : Int32) (l4 : Int32) (l5 : Int32) : RS → Option (Int32 × RS) :=
  wA 60 l5 l3 <|
  wA 61 l5 l4 <|
  rI 75 fun v1 =>
  rA 7 v1 fun v2 =>
  if 0 ≤ v2 then (
    rI 75 fun v3 =>
    rA 7 v3 fun v4 =>
    rA 12 v4 fun v5 =>
    R_message_J679 l5 l5 v5
  ) else (
    R_message_J679 l5 l5 (0 : Int32)
  )
set_option maxRecDepth 10000 in
theorem sm_message_J626 {g : Gm RS Int32} (B : Br g cX12_message 8 voI (some .int) 1 24) (l3 : Int32) (l4 : Int32) (l5 : Int32) : Sm g 8 626 [(0, .ref g.1.2.2.2.2.2), (3, .int l3), (4, .int l4), (5, .int l5)] [] (R_message_J626 l3 l4 l5) := by
  unfold R_message_J626
  refine s_aload_n B.1 0 dX12_message_626 rfl rfl ?_
  refine rr_getA B 60 mh_60 mn_60 mf_60 dX12_message_627 ?_
  refine s_iload B.1 3 dX12_message_630 rfl ?_
  refine s_iload_n B.1 1 dX12_message_632 rfl rfl ?_
  refine rr_iast B 60 mh_60 mk_60 dX12_message_633 ?_
  refine s_aload_n B.1 0 dX12_message_634 rfl rfl ?_
  refine rr_getA B 61 mh_61 mn_61 mf_61 dX12_message_635 ?_
  refine s_iload B.1 3 dX12_message_638 rfl ?_
  refine s_iload B.1 2 dX12_message_640 rfl ?_
  refine rr_iast B 61 mh_61 mk_61 dX12_message_642 ?_
  refine s_aload_n B.1 0 dX12_message_643 rfl rfl ?_
  refine rr_getA B 62 mh_62 mn_62 mf_62 dX12_message_644 ?_
  refine s_iload B.1 3 dX12_message_647 rfl ?_
  refine s_aload_n B.1 0 dX12_message_649 rfl rfl ?_
  refine rr_getA B 7 mh_7 mn_7 mf_7 dX12_message_650 ?_
  refine s_aload_n B.1 0 dX12_message_653 rfl rfl ?_
  refine rr_getI B 75 mh_75 mk_75 mf_75 dX12_message_654 (fun v1 => ?_)
  refine rr_iald B 7 mh_7 mk_7 dX12_message_657 (fun v2 => ?_)
  refine s_if_ge B.1 665 dX12_message_658 (by decide) ?_ ?_
  · refine s_aload_n B.1 0 dX12_message_665 rfl rfl ?_
    refine rr_getA B 12 mh_12 mn_12 mf_12 dX12_message_666 ?_
    refine s_aload_n B.1 0 dX12_message_669 rfl rfl ?_
    refine rr_getA B 7 mh_7 mn_7 mf_7 dX12_message_670 ?_
    refine s_aload_n B.1 0 dX12_message_673 rfl rfl ?_
    refine rr_getI B 75 mh_75 mk_75 mf_75 dX12_message_674 (fun v3 => ?_)
    refine rr_iald B 7 mh_7 mk_7 dX12_message_677 (fun v4 => ?_)
    refine rr_iald B 12 mh_12 mk_12 dX12_message_678 (fun v5 => ?_)
    exact Sm.lvs [3] rfl (sm_message_J679 B l5 l5 v5)
  · refine s_iconst (v := 0) B.1 dX12_message_661 (by decide) ?_
    refine s_goto B.1 679 dX12_message_662 (by decide) ?_
    exact Sm.lvs [3] rfl (sm_message_J679 B l5 l5 (0 : Int32))
def R_message_B594 (kb : Int32 → Int32 → Int32 → Int32 → Int32 → RS → Option (Int32 × RS)) (ke626 : Int32 → Int32 → Int32 → RS → Option (Int32 × RS)) (l3 : Int32) (l4 : Int32) (l5 : Int32) (l6 : Int32) (l7 : Int32) : RS → Option (Int32 × RS) :=
  rI 87 fun v6 =>
  if v6 ≤ l7 then (
    ke626 l3 l4 l5
  ) else (
    rA 86 l7 fun v7 =>
    wA 45 l6 (vp_nar .byte v7) <|
    kb l3 l4 l5 (l6 + 1) (l7 + 1)
  )
def R_message_L594 (ke626 : Int32 → Int32 → Int32 → RS → Option (Int32 × RS)) : Nat → Int32 → Int32 → Int32 → Int32 → Int32 → RS → Option (Int32 × RS)
  | 0, _, _, _, _, _ => no
  | n + 1, l3, l4, l5, l6, l7 => R_message_B594 (fun l3 l4 l5 l6 l7 => R_message_L594 ke626 n l3 l4 l5 l6 l7) ke626 l3 l4 l5 l6 l7
set_option maxRecDepth 10000 in
theorem sm_message_B594 {g : Gm RS Int32} {kb : Int32 → Int32 → Int32 → Int32 → Int32 → RS → Option (Int32 × RS)} {ke626 : Int32 → Int32 → Int32 → RS → Option (Int32 × RS)} (B : Br g cX12_message 8 voI (some .int) 1 24) (hkb : ∀ (l3 : Int32) (l4 : Int32) (l5 : Int32) (l6 : Int32) (l7 : Int32), Sm g 8 594 [(0, .ref g.1.2.2.2.2.2), (3, .int l3), (4, .int l4), (5, .int l5), (6, .int l6), (7, .int l7)] [] (kb l3 l4 l5 l6 l7)) (hke626 : ∀ (l3 : Int32) (l4 : Int32) (l5 : Int32), Sm g 8 626 [(0, .ref g.1.2.2.2.2.2), (3, .int l3), (4, .int l4), (5, .int l5)] [] (ke626 l3 l4 l5)) (l3 : Int32) (l4 : Int32) (l5 : Int32) (l6 : Int32) (l7 : Int32) : Sm g 8 594 [(0, .ref g.1.2.2.2.2.2), (3, .int l3), (4, .int l4), (5, .int l5), (6, .int l6), (7, .int l7)] [] (R_message_B594 kb ke626 l3 l4 l5 l6 l7) := by
  unfold R_message_B594
  refine s_iload B.1 5 dX12_message_594 rfl ?_
  refine s_aload_n B.1 0 dX12_message_596 rfl rfl ?_
  refine rr_getI B 87 mh_87 mk_87 mf_87 dX12_message_597 (fun v6 => ?_)
  refine s_icmp_ge B.1 626 dX12_message_600 (by decide) ?_ ?_
  · exact Sm.lvs [0, 1, 2, 3] rfl (hke626 l3 l4 l5)
  · refine s_aload_n B.1 0 dX12_message_603 rfl rfl ?_
    refine rr_getA B 45 mh_45 mn_45 mf_45 dX12_message_604 ?_
    refine s_iload B.1 4 dX12_message_607 rfl ?_
    refine s_iinc (v := l6 + 1) (lv' := [(6, .int (l6 + 1)), (0, .ref g.1.2.2.2.2.2), (3, .int l3), (4, .int l4), (5, .int l5), (7, .int l7)]) B.1 4 dX12_message_609 rfl rfl (by decide) rfl ?_
    refine s_aload_n B.1 1 dX12_message_612 rfl rfl ?_
    refine rr_getA B 86 mh_86 mn_86 mf_86 dX12_message_613 ?_
    refine s_iload B.1 5 dX12_message_616 rfl ?_
    refine rr_bald B 86 mh_86 mk_86 dX12_message_618 (fun v7 => ?_)
    refine rr_bast B 45 mh_45 mk_45 dX12_message_619 ?_
    refine s_iinc (v := l7 + 1) (lv' := [(7, .int (l7 + 1)), (6, .int (l6 + 1)), (0, .ref g.1.2.2.2.2.2), (3, .int l3), (4, .int l4), (5, .int l5)]) B.1 5 dX12_message_620 rfl rfl (by decide) rfl ?_
    refine s_goto B.1 594 dX12_message_623 (by decide) ?_
    exact Sm.lvs [2, 3, 4, 5, 1, 0] rfl (hkb l3 l4 l5 (l6 + 1) (l7 + 1))
set_option maxRecDepth 10000 in
theorem sm_message_L594 {g : Gm RS Int32} {ke626 : Int32 → Int32 → Int32 → RS → Option (Int32 × RS)} (B : Br g cX12_message 8 voI (some .int) 1 24) (hke626 : ∀ (l3 : Int32) (l4 : Int32) (l5 : Int32), Sm g 8 626 [(0, .ref g.1.2.2.2.2.2), (3, .int l3), (4, .int l4), (5, .int l5)] [] (ke626 l3 l4 l5)) : ∀ (n : Nat) (l3 : Int32) (l4 : Int32) (l5 : Int32) (l6 : Int32) (l7 : Int32), Sm g 8 594 [(0, .ref g.1.2.2.2.2.2), (3, .int l3), (4, .int l4), (5, .int l5), (6, .int l6), (7, .int l7)] [] (R_message_L594 ke626 n l3 l4 l5 l6 l7)
  | 0, _, _, _, _, _ => Sm.fail
  | n + 1, l3, l4, l5, l6, l7 => sm_message_B594 B (sm_message_L594 B hke626 n) hke626 l3 l4 l5 l6 l7
def R_message_J569 (l3 : Int32) (l4 : Int32) (l5 : Int32) (s0 : Int32) : RS → Option (Int32 × RS) :=
  wA 58 l5 s0 <|
  rI 87 fun v8 =>
  wA 59 l5 v8 <|
  R_message_L594 (fun l3 l4 l5 => R_message_J626 l3 l4 l5) fu l3 l4 l5 s0 (0 : Int32)
set_option maxRecDepth 10000 in
theorem sm_message_J569 {g : Gm RS Int32} (B : Br g cX12_message 8 voI (some .int) 1 24) (l3 : Int32) (l4 : Int32) (l5 : Int32) (s0 : Int32) : Sm g 8 569 [(0, .ref g.1.2.2.2.2.2), (3, .int l3), (4, .int l4), (5, .int l5)] [.int s0] (R_message_J569 l3 l4 l5 s0) := by
  unfold R_message_J569
  refine s_istore (lv' := [(6, .int s0), (0, .ref g.1.2.2.2.2.2), (3, .int l3), (4, .int l4), (5, .int l5)]) B.1 dX12_message_569 (by decide) rfl ?_
  refine s_aload_n B.1 1 dX12_message_571 rfl rfl ?_
  refine rr_getA B 58 mh_58 mn_58 mf_58 dX12_message_572 ?_
  refine s_iload B.1 4 dX12_message_575 rfl ?_
  refine s_iload B.1 0 dX12_message_577 rfl ?_
  refine rr_iast B 58 mh_58 mk_58 dX12_message_579 ?_
  refine s_aload_n B.1 1 dX12_message_580 rfl rfl ?_
  refine rr_getA B 59 mh_59 mn_59 mf_59 dX12_message_581 ?_
  refine s_iload B.1 4 dX12_message_584 rfl ?_
  refine s_aload_n B.1 1 dX12_message_586 rfl rfl ?_
  refine rr_getI B 87 mh_87 mk_87 mf_87 dX12_message_587 (fun v8 => ?_)
  refine rr_iast B 59 mh_59 mk_59 dX12_message_590 ?_
  refine s_iconst (v := 0) B.1 dX12_message_591 (by decide) ?_
  refine s_istore (lv' := [(7, .int (0 : Int32)), (6, .int s0), (0, .ref g.1.2.2.2.2.2), (3, .int l3), (4, .int l4), (5, .int l5)]) B.1 dX12_message_592 (by decide) rfl ?_
  exact Sm.lvs [2, 3, 4, 5, 1, 0] rfl (sm_message_L594 B (fun l3 l4 l5 => sm_message_J626 B l3 l4 l5) fu l3 l4 l5 s0 (0 : Int32))
def R_message_J533 (l3 : Int32) (l4 : Int32) (l5 : Int32) (l6 : Int32) (s1 : Int32) (s2 : Int32) : RS → Option (Int32 × RS) :=
  wA 57 s1 s2 <|
  rA 82 (9 : Int32) fun v9 =>
  if v9 = 0 then (
    R_message_J569 l3 l4 l5 l6
  ) else (
    rA 84 (9 : Int32) fun v10 =>
    rA 85 (9 : Int32) fun v11 =>
    bd (R_copy l6 v10 v11) fun r12 =>
    R_message_J569 l3 l4 l5 r12
  )
set_option maxRecDepth 10000 in
theorem sm_message_J533 {g : Gm RS Int32} (B : Br g cX12_message 8 voI (some .int) 1 24) (l3 : Int32) (l4 : Int32) (l5 : Int32) (l6 : Int32) (s1 : Int32) (s2 : Int32) : Sm g 8 533 [(0, .ref g.1.2.2.2.2.2), (3, .int l3), (4, .int l4), (5, .int l5), (6, .int l6)] [.int s2, .int s1, .ref (g.1.2.2.2.2.2 + mO 57)] (R_message_J533 l3 l4 l5 l6 s1 s2) := by
  unfold R_message_J533
  refine rr_iast B 57 mh_57 mk_57 dX12_message_533 ?_
  refine s_aload_n B.1 0 dX12_message_534 rfl rfl ?_
  refine rr_getA B 82 mh_82 mn_82 mf_82 dX12_message_535 ?_
  refine s_bipush (v := (9)) B.1 dX12_message_538 (by decide) ?_
  refine rr_zald B 82 mh_82 mk_82 dX12_message_540 (fun v9 => ?_)
  refine s_if_eq B.1 567 dX12_message_541 (by decide) ?_ ?_
  · refine s_iload B.1 4 dX12_message_567 rfl ?_
    exact Sm.lvs [0, 1, 2, 3] rfl (sm_message_J569 B l3 l4 l5 l6)
  · refine s_aload_n B.1 0 dX12_message_544 rfl rfl ?_
    refine s_iload B.1 4 dX12_message_545 rfl ?_
    refine s_aload_n B.1 0 dX12_message_547 rfl rfl ?_
    refine rr_getA B 84 mh_84 mn_84 mf_84 dX12_message_548 ?_
    refine s_bipush (v := (9)) B.1 dX12_message_551 (by decide) ?_
    refine rr_iald B 84 mh_84 mk_84 dX12_message_553 (fun v10 => ?_)
    refine s_aload_n B.1 0 dX12_message_554 rfl rfl ?_
    refine rr_getA B 85 mh_85 mn_85 mf_85 dX12_message_555 ?_
    refine s_bipush (v := (9)) B.1 dX12_message_558 (by decide) ?_
    refine rr_iald B 85 mh_85 mk_85 dX12_message_560 (fun v11 => ?_)
    refine rr_cvi (As := [.int l6, .int v10, .int v11]) (st := []) B (m_copy B.ok l6 v10 v11) mc_copy ml_copy mi_copy me_copy ini12 md_copy (by decide) rfl (Nat.le_of_ble_eq_true rfl) dX12_message_561 (fun r12 => ?_)
    refine s_goto B.1 569 dX12_message_564 (by decide) ?_
    exact Sm.lvs [0, 1, 2, 3] rfl (sm_message_J569 B l3 l4 l5 r12)
def R_message_J495 (l3 : Int32) (l4 : Int32) (l5 : Int32) (s0 : Int32) : RS → Option (Int32 × RS) :=
  wA 56 l5 s0 <|
  rA 82 (9 : Int32) fun v13 =>
  if v13 = 0 then (
    R_message_J533 l3 l4 l5 s0 l5 (-1 : Int32)
  ) else (
    rA 85 (9 : Int32) fun v14 =>
    R_message_J533 l3 l4 l5 s0 l5 v14
  )
set_option maxRecDepth 10000 in
theorem sm_message_J495 {g : Gm RS Int32} (B : Br g cX12_message 8 voI (some .int) 1 24) (l3 : Int32) (l4 : Int32) (l5 : Int32) (s0 : Int32) : Sm g 8 495 [(0, .ref g.1.2.2.2.2.2), (3, .int l3), (4, .int l4), (5, .int l5)] [.int s0] (R_message_J495 l3 l4 l5 s0) := by
  unfold R_message_J495
  refine s_istore (lv' := [(6, .int s0), (0, .ref g.1.2.2.2.2.2), (3, .int l3), (4, .int l4), (5, .int l5)]) B.1 dX12_message_495 (by decide) rfl ?_
  refine s_aload_n B.1 1 dX12_message_497 rfl rfl ?_
  refine rr_getA B 56 mh_56 mn_56 mf_56 dX12_message_498 ?_
  refine s_iload B.1 4 dX12_message_501 rfl ?_
  refine s_iload B.1 0 dX12_message_503 rfl ?_
  refine rr_iast B 56 mh_56 mk_56 dX12_message_505 ?_
  refine s_aload_n B.1 1 dX12_message_506 rfl rfl ?_
  refine rr_getA B 57 mh_57 mn_57 mf_57 dX12_message_507 ?_
  refine s_iload B.1 4 dX12_message_510 rfl ?_
  refine s_aload_n B.1 1 dX12_message_512 rfl rfl ?_
  refine rr_getA B 82 mh_82 mn_82 mf_82 dX12_message_513 ?_
  refine s_bipush (v := (9)) B.1 dX12_message_516 (by decide) ?_
  refine rr_zald B 82 mh_82 mk_82 dX12_message_518 (fun v13 => ?_)
  refine s_if_eq B.1 532 dX12_message_519 (by decide) ?_ ?_
  · refine s_iconst (v := (-1)) B.1 dX12_message_532 (by decide) ?_
    exact Sm.lvs [1, 2, 3, 4, 0] rfl (sm_message_J533 B l3 l4 l5 s0 l5 (-1 : Int32))
  · refine s_aload_n B.1 1 dX12_message_522 rfl rfl ?_
    refine rr_getA B 85 mh_85 mn_85 mf_85 dX12_message_523 ?_
    refine s_bipush (v := (9)) B.1 dX12_message_526 (by decide) ?_
    refine rr_iald B 85 mh_85 mk_85 dX12_message_528 (fun v14 => ?_)
    refine s_goto B.1 533 dX12_message_529 (by decide) ?_
    exact Sm.lvs [1, 2, 3, 4, 0] rfl (sm_message_J533 B l3 l4 l5 s0 l5 v14)
def R_message_J459 (l3 : Int32) (l4 : Int32) (l5 : Int32) (l6 : Int32) (s1 : Int32) (s2 : Int32) : RS → Option (Int32 × RS) :=
  wA 55 s1 s2 <|
  rA 82 (8 : Int32) fun v15 =>
  if v15 = 0 then (
    R_message_J495 l3 l4 l5 l6
  ) else (
    rA 84 (8 : Int32) fun v16 =>
    rA 85 (8 : Int32) fun v17 =>
    bd (R_copy l6 v16 v17) fun r18 =>
    R_message_J495 l3 l4 l5 r18
  )
set_option maxRecDepth 10000 in
theorem sm_message_J459 {g : Gm RS Int32} (B : Br g cX12_message 8 voI (some .int) 1 24) (l3 : Int32) (l4 : Int32) (l5 : Int32) (l6 : Int32) (s1 : Int32) (s2 : Int32) : Sm g 8 459 [(0, .ref g.1.2.2.2.2.2), (3, .int l3), (4, .int l4), (5, .int l5), (6, .int l6)] [.int s2, .int s1, .ref (g.1.2.2.2.2.2 + mO 55)] (R_message_J459 l3 l4 l5 l6 s1 s2) := by
  unfold R_message_J459
  refine rr_iast B 55 mh_55 mk_55 dX12_message_459 ?_
  refine s_aload_n B.1 0 dX12_message_460 rfl rfl ?_
  refine rr_getA B 82 mh_82 mn_82 mf_82 dX12_message_461 ?_
  refine s_bipush (v := (8)) B.1 dX12_message_464 (by decide) ?_
  refine rr_zald B 82 mh_82 mk_82 dX12_message_466 (fun v15 => ?_)
  refine s_if_eq B.1 493 dX12_message_467 (by decide) ?_ ?_
  · refine s_iload B.1 4 dX12_message_493 rfl ?_
    exact Sm.lvs [0, 1, 2, 3] rfl (sm_message_J495 B l3 l4 l5 l6)
  · refine s_aload_n B.1 0 dX12_message_470 rfl rfl ?_
    refine s_iload B.1 4 dX12_message_471 rfl ?_
    refine s_aload_n B.1 0 dX12_message_473 rfl rfl ?_
    refine rr_getA B 84 mh_84 mn_84 mf_84 dX12_message_474 ?_
    refine s_bipush (v := (8)) B.1 dX12_message_477 (by decide) ?_
    refine rr_iald B 84 mh_84 mk_84 dX12_message_479 (fun v16 => ?_)
    refine s_aload_n B.1 0 dX12_message_480 rfl rfl ?_
    refine rr_getA B 85 mh_85 mn_85 mf_85 dX12_message_481 ?_
    refine s_bipush (v := (8)) B.1 dX12_message_484 (by decide) ?_
    refine rr_iald B 85 mh_85 mk_85 dX12_message_486 (fun v17 => ?_)
    refine rr_cvi (As := [.int l6, .int v16, .int v17]) (st := []) B (m_copy B.ok l6 v16 v17) mc_copy ml_copy mi_copy me_copy ini12 md_copy (by decide) rfl (Nat.le_of_ble_eq_true rfl) dX12_message_487 (fun r18 => ?_)
    refine s_goto B.1 495 dX12_message_490 (by decide) ?_
    exact Sm.lvs [0, 1, 2, 3] rfl (sm_message_J495 B l3 l4 l5 r18)
def R_message_J421 (l3 : Int32) (l4 : Int32) (l5 : Int32) (s0 : Int32) : RS → Option (Int32 × RS) :=
  wA 54 l5 s0 <|
  rA 82 (8 : Int32) fun v19 =>
  if v19 = 0 then (
    R_message_J459 l3 l4 l5 s0 l5 (-1 : Int32)
  ) else (
    rA 85 (8 : Int32) fun v20 =>
    R_message_J459 l3 l4 l5 s0 l5 v20
  )
set_option maxRecDepth 10000 in
theorem sm_message_J421 {g : Gm RS Int32} (B : Br g cX12_message 8 voI (some .int) 1 24) (l3 : Int32) (l4 : Int32) (l5 : Int32) (s0 : Int32) : Sm g 8 421 [(0, .ref g.1.2.2.2.2.2), (3, .int l3), (4, .int l4), (5, .int l5)] [.int s0] (R_message_J421 l3 l4 l5 s0) := by
  unfold R_message_J421
  refine s_istore (lv' := [(6, .int s0), (0, .ref g.1.2.2.2.2.2), (3, .int l3), (4, .int l4), (5, .int l5)]) B.1 dX12_message_421 (by decide) rfl ?_
  refine s_aload_n B.1 1 dX12_message_423 rfl rfl ?_
  refine rr_getA B 54 mh_54 mn_54 mf_54 dX12_message_424 ?_
  refine s_iload B.1 4 dX12_message_427 rfl ?_
  refine s_iload B.1 0 dX12_message_429 rfl ?_
  refine rr_iast B 54 mh_54 mk_54 dX12_message_431 ?_
  refine s_aload_n B.1 1 dX12_message_432 rfl rfl ?_
  refine rr_getA B 55 mh_55 mn_55 mf_55 dX12_message_433 ?_
  refine s_iload B.1 4 dX12_message_436 rfl ?_
  refine s_aload_n B.1 1 dX12_message_438 rfl rfl ?_
  refine rr_getA B 82 mh_82 mn_82 mf_82 dX12_message_439 ?_
  refine s_bipush (v := (8)) B.1 dX12_message_442 (by decide) ?_
  refine rr_zald B 82 mh_82 mk_82 dX12_message_444 (fun v19 => ?_)
  refine s_if_eq B.1 458 dX12_message_445 (by decide) ?_ ?_
  · refine s_iconst (v := (-1)) B.1 dX12_message_458 (by decide) ?_
    exact Sm.lvs [1, 2, 3, 4, 0] rfl (sm_message_J459 B l3 l4 l5 s0 l5 (-1 : Int32))
  · refine s_aload_n B.1 1 dX12_message_448 rfl rfl ?_
    refine rr_getA B 85 mh_85 mn_85 mf_85 dX12_message_449 ?_
    refine s_bipush (v := (8)) B.1 dX12_message_452 (by decide) ?_
    refine rr_iald B 85 mh_85 mk_85 dX12_message_454 (fun v20 => ?_)
    refine s_goto B.1 459 dX12_message_455 (by decide) ?_
    exact Sm.lvs [1, 2, 3, 4, 0] rfl (sm_message_J459 B l3 l4 l5 s0 l5 v20)
def R_message_J388 (l3 : Int32) (l4 : Int32) (l5 : Int32) (l6 : Int32) (s1 : Int32) (s2 : Int32) : RS → Option (Int32 × RS) :=
  wA 53 s1 s2 <|
  rA 82 (3 : Int32) fun v21 =>
  if v21 = 0 then (
    R_message_J421 l3 l4 l5 l6
  ) else (
    rA 84 (3 : Int32) fun v22 =>
    rA 85 (3 : Int32) fun v23 =>
    bd (R_copy l6 v22 v23) fun r24 =>
    R_message_J421 l3 l4 l5 r24
  )
set_option maxRecDepth 10000 in
theorem sm_message_J388 {g : Gm RS Int32} (B : Br g cX12_message 8 voI (some .int) 1 24) (l3 : Int32) (l4 : Int32) (l5 : Int32) (l6 : Int32) (s1 : Int32) (s2 : Int32) : Sm g 8 388 [(0, .ref g.1.2.2.2.2.2), (3, .int l3), (4, .int l4), (5, .int l5), (6, .int l6)] [.int s2, .int s1, .ref (g.1.2.2.2.2.2 + mO 53)] (R_message_J388 l3 l4 l5 l6 s1 s2) := by
  unfold R_message_J388
  refine rr_iast B 53 mh_53 mk_53 dX12_message_388 ?_
  refine s_aload_n B.1 0 dX12_message_389 rfl rfl ?_
  refine rr_getA B 82 mh_82 mn_82 mf_82 dX12_message_390 ?_
  refine s_iconst (v := 3) B.1 dX12_message_393 (by decide) ?_
  refine rr_zald B 82 mh_82 mk_82 dX12_message_394 (fun v21 => ?_)
  refine s_if_eq B.1 419 dX12_message_395 (by decide) ?_ ?_
  · refine s_iload B.1 4 dX12_message_419 rfl ?_
    exact Sm.lvs [0, 1, 2, 3] rfl (sm_message_J421 B l3 l4 l5 l6)
  · refine s_aload_n B.1 0 dX12_message_398 rfl rfl ?_
    refine s_iload B.1 4 dX12_message_399 rfl ?_
    refine s_aload_n B.1 0 dX12_message_401 rfl rfl ?_
    refine rr_getA B 84 mh_84 mn_84 mf_84 dX12_message_402 ?_
    refine s_iconst (v := 3) B.1 dX12_message_405 (by decide) ?_
    refine rr_iald B 84 mh_84 mk_84 dX12_message_406 (fun v22 => ?_)
    refine s_aload_n B.1 0 dX12_message_407 rfl rfl ?_
    refine rr_getA B 85 mh_85 mn_85 mf_85 dX12_message_408 ?_
    refine s_iconst (v := 3) B.1 dX12_message_411 (by decide) ?_
    refine rr_iald B 85 mh_85 mk_85 dX12_message_412 (fun v23 => ?_)
    refine rr_cvi (As := [.int l6, .int v22, .int v23]) (st := []) B (m_copy B.ok l6 v22 v23) mc_copy ml_copy mi_copy me_copy ini12 md_copy (by decide) rfl (Nat.le_of_ble_eq_true rfl) dX12_message_413 (fun r24 => ?_)
    refine s_goto B.1 421 dX12_message_416 (by decide) ?_
    exact Sm.lvs [0, 1, 2, 3] rfl (sm_message_J421 B l3 l4 l5 r24)
def R_message_J342 (l3 : Int32) (l4 : Int32) (l5 : Int32) (l6 : Int32) (s1 : Int32) (s2 : Int64) : RS → Option (Int32 × RS) :=
  wL 50 s1 s2 <|
  rI 66 fun v25 =>
  wA 51 l5 v25 <|
  wA 52 l5 l6 <|
  rA 82 (3 : Int32) fun v26 =>
  if v26 = 0 then (
    R_message_J388 l3 l4 l5 l6 l5 (-1 : Int32)
  ) else (
    rA 85 (3 : Int32) fun v27 =>
    R_message_J388 l3 l4 l5 l6 l5 v27
  )
set_option maxRecDepth 10000 in
theorem sm_message_J342 {g : Gm RS Int32} (B : Br g cX12_message 8 voI (some .int) 1 24) (l3 : Int32) (l4 : Int32) (l5 : Int32) (l6 : Int32) (s1 : Int32) (s2 : Int64) : Sm g 8 342 [(0, .ref g.1.2.2.2.2.2), (3, .int l3), (4, .int l4), (5, .int l5), (6, .int l6)] [.long s2, .int s1, .ref (g.1.2.2.2.2.2 + mO 50)] (R_message_J342 l3 l4 l5 l6 s1 s2) := by
  unfold R_message_J342
  refine rr_last B 50 mh_50 mk_50 dX12_message_342 ?_
  refine s_aload_n B.1 0 dX12_message_343 rfl rfl ?_
  refine rr_getA B 51 mh_51 mn_51 mf_51 dX12_message_344 ?_
  refine s_iload B.1 3 dX12_message_347 rfl ?_
  refine s_aload_n B.1 0 dX12_message_349 rfl rfl ?_
  refine rr_getI B 66 mh_66 mk_66 mf_66 dX12_message_350 (fun v25 => ?_)
  refine rr_iast B 51 mh_51 mk_51 dX12_message_353 ?_
  refine s_aload_n B.1 0 dX12_message_354 rfl rfl ?_
  refine rr_getA B 52 mh_52 mn_52 mf_52 dX12_message_355 ?_
  refine s_iload B.1 3 dX12_message_358 rfl ?_
  refine s_iload B.1 4 dX12_message_360 rfl ?_
  refine rr_iast B 52 mh_52 mk_52 dX12_message_362 ?_
  refine s_aload_n B.1 0 dX12_message_363 rfl rfl ?_
  refine rr_getA B 53 mh_53 mn_53 mf_53 dX12_message_364 ?_
  refine s_iload B.1 3 dX12_message_367 rfl ?_
  refine s_aload_n B.1 0 dX12_message_369 rfl rfl ?_
  refine rr_getA B 82 mh_82 mn_82 mf_82 dX12_message_370 ?_
  refine s_iconst (v := 3) B.1 dX12_message_373 (by decide) ?_
  refine rr_zald B 82 mh_82 mk_82 dX12_message_374 (fun v26 => ?_)
  refine s_if_eq B.1 387 dX12_message_375 (by decide) ?_ ?_
  · refine s_iconst (v := (-1)) B.1 dX12_message_387 (by decide) ?_
    exact Sm.lvs [0, 1, 2, 3, 4] rfl (sm_message_J388 B l3 l4 l5 l6 l5 (-1 : Int32))
  · refine s_aload_n B.1 0 dX12_message_378 rfl rfl ?_
    refine rr_getA B 85 mh_85 mn_85 mf_85 dX12_message_379 ?_
    refine s_iconst (v := 3) B.1 dX12_message_382 (by decide) ?_
    refine rr_iald B 85 mh_85 mk_85 dX12_message_383 (fun v27 => ?_)
    refine s_goto B.1 388 dX12_message_384 (by decide) ?_
    exact Sm.lvs [0, 1, 2, 3, 4] rfl (sm_message_J388 B l3 l4 l5 l6 l5 v27)
def R_message_J314 (l3 : Int32) (l4 : Int32) (l5 : Int32) (l6 : Int32) (s1 : Int32) (s2 : Int32) : RS → Option (Int32 × RS) :=
  wA 49 s1 s2 <|
  rA 82 (2 : Int32) fun v28 =>
  if v28 = 0 then (
    R_message_J342 l3 l4 l5 l6 l5 (-1 : Int64)
  ) else (
    rL 83 (2 : Int32) fun v29 =>
    R_message_J342 l3 l4 l5 l6 l5 v29
  )
set_option maxRecDepth 10000 in
theorem sm_message_J314 {g : Gm RS Int32} (B : Br g cX12_message 8 voI (some .int) 1 24) (l3 : Int32) (l4 : Int32) (l5 : Int32) (l6 : Int32) (s1 : Int32) (s2 : Int32) : Sm g 8 314 [(0, .ref g.1.2.2.2.2.2), (3, .int l3), (4, .int l4), (5, .int l5), (6, .int l6)] [.int s2, .int s1, .ref (g.1.2.2.2.2.2 + mO 49)] (R_message_J314 l3 l4 l5 l6 s1 s2) := by
  unfold R_message_J314
  refine rr_iast B 49 mh_49 mk_49 dX12_message_314 ?_
  refine s_aload_n B.1 0 dX12_message_315 rfl rfl ?_
  refine rr_getA B 50 mh_50 mn_50 mf_50 dX12_message_316 ?_
  refine s_iload B.1 3 dX12_message_319 rfl ?_
  refine s_aload_n B.1 0 dX12_message_321 rfl rfl ?_
  refine rr_getA B 82 mh_82 mn_82 mf_82 dX12_message_322 ?_
  refine s_iconst (v := 2) B.1 dX12_message_325 (by decide) ?_
  refine rr_zald B 82 mh_82 mk_82 dX12_message_326 (fun v28 => ?_)
  refine s_if_eq B.1 339 dX12_message_327 (by decide) ?_ ?_
  · refine s_ldc2 (v := (-1)) B.1 tw_1920 dX12_message_339 ?_
    exact Sm.lvs [0, 1, 2, 3, 4] rfl (sm_message_J342 B l3 l4 l5 l6 l5 (-1 : Int64))
  · refine s_aload_n B.1 0 dX12_message_330 rfl rfl ?_
    refine rr_getA B 83 mh_83 mn_83 mf_83 dX12_message_331 ?_
    refine s_iconst (v := 2) B.1 dX12_message_334 (by decide) ?_
    refine rr_lald B 83 mh_83 mk_83 dX12_message_335 (fun v29 => ?_)
    refine s_goto B.1 342 dX12_message_336 (by decide) ?_
    exact Sm.lvs [0, 1, 2, 3, 4] rfl (sm_message_J342 B l3 l4 l5 l6 l5 v29)
def R_message_J261 (l1 : Int32) (l2 : Int32) (l3 : Int32) (l4 : Int32) (l5 : Int32) (l6 : Int32) : RS → Option (Int32 × RS) :=
  wA 47 l5 l6 <|
  wA 48 l5 l2 <|
  bd (R_copy l6 l1 l2) fun r30 =>
  rA 82 (1 : Int32) fun v31 =>
  if v31 = 0 then (
    R_message_J314 l3 l4 l5 r30 l5 (-1 : Int32)
  ) else (
    rL 83 (1 : Int32) fun v32 =>
    R_message_J314 l3 l4 l5 r30 l5 v32.toInt32
  )
set_option maxRecDepth 10000 in
theorem sm_message_J261 {g : Gm RS Int32} (B : Br g cX12_message 8 voI (some .int) 1 24) (l1 : Int32) (l2 : Int32) (l3 : Int32) (l4 : Int32) (l5 : Int32) (l6 : Int32) : Sm g 8 261 [(0, .ref g.1.2.2.2.2.2), (1, .int l1), (2, .int l2), (3, .int l3), (4, .int l4), (5, .int l5), (6, .int l6)] [] (R_message_J261 l1 l2 l3 l4 l5 l6) := by
  unfold R_message_J261
  refine s_aload_n B.1 0 dX12_message_261 rfl rfl ?_
  refine rr_getA B 47 mh_47 mn_47 mf_47 dX12_message_262 ?_
  refine s_iload B.1 5 dX12_message_265 rfl ?_
  refine s_iload B.1 6 dX12_message_267 rfl ?_
  refine rr_iast B 47 mh_47 mk_47 dX12_message_269 ?_
  refine s_aload_n B.1 0 dX12_message_270 rfl rfl ?_
  refine rr_getA B 48 mh_48 mn_48 mf_48 dX12_message_271 ?_
  refine s_iload B.1 5 dX12_message_274 rfl ?_
  refine s_iload_n B.1 2 dX12_message_276 rfl rfl ?_
  refine rr_iast B 48 mh_48 mk_48 dX12_message_277 ?_
  refine s_aload_n B.1 0 dX12_message_278 rfl rfl ?_
  refine s_iload B.1 6 dX12_message_279 rfl ?_
  refine s_iload_n B.1 1 dX12_message_281 rfl rfl ?_
  refine s_iload_n B.1 2 dX12_message_282 rfl rfl ?_
  refine rr_cvi (As := [.int l6, .int l1, .int l2]) (st := []) B (m_copy B.ok l6 l1 l2) mc_copy ml_copy mi_copy me_copy ini12 md_copy (by decide) rfl (Nat.le_of_ble_eq_true rfl) dX12_message_283 (fun r30 => ?_)
  refine s_istore (lv' := [(6, .int r30), (0, .ref g.1.2.2.2.2.2), (1, .int l1), (2, .int l2), (3, .int l3), (4, .int l4), (5, .int l5)]) B.1 dX12_message_286 (by decide) rfl ?_
  refine s_aload_n B.1 1 dX12_message_288 rfl rfl ?_
  refine rr_getA B 49 mh_49 mn_49 mf_49 dX12_message_289 ?_
  refine s_iload B.1 6 dX12_message_292 rfl ?_
  refine s_aload_n B.1 1 dX12_message_294 rfl rfl ?_
  refine rr_getA B 82 mh_82 mn_82 mf_82 dX12_message_295 ?_
  refine s_iconst (v := 1) B.1 dX12_message_298 (by decide) ?_
  refine rr_zald B 82 mh_82 mk_82 dX12_message_299 (fun v31 => ?_)
  refine s_if_eq B.1 313 dX12_message_300 (by decide) ?_ ?_
  · refine s_iconst (v := (-1)) B.1 dX12_message_313 (by decide) ?_
    exact Sm.lvs [1, 4, 5, 6, 0] rfl (sm_message_J314 B l3 l4 l5 r30 l5 (-1 : Int32))
  · refine s_aload_n B.1 1 dX12_message_303 rfl rfl ?_
    refine rr_getA B 83 mh_83 mn_83 mf_83 dX12_message_304 ?_
    refine s_iconst (v := 1) B.1 dX12_message_307 (by decide) ?_
    refine rr_lald B 83 mh_83 mk_83 dX12_message_308 (fun v32 => ?_)
    refine s_l2i B.1 dX12_message_309 ?_
    refine s_goto B.1 314 dX12_message_310 (by decide) ?_
    exact Sm.lvs [1, 4, 5, 6, 0] rfl (sm_message_J314 B l3 l4 l5 r30 l5 v32.toInt32)
def R_message_B229 (kb : Int32 → Int32 → Int32 → Int32 → Int32 → Int32 → Int32 → RS → Option (Int32 × RS)) (ke261 : Int32 → Int32 → Int32 → Int32 → Int32 → Int32 → RS → Option (Int32 × RS)) (l1 : Int32) (l2 : Int32) (l3 : Int32) (l4 : Int32) (l5 : Int32) (l6 : Int32) (l7 : Int32) : RS → Option (Int32 × RS) :=
  rI 98 fun v33 =>
  if v33 ≤ l7 then (
    ke261 l1 l2 l3 l4 l5 l6
  ) else (
    rA 97 l7 fun v34 =>
    wA 45 l6 (vp_nar .byte v34) <|
    kb l1 l2 l3 l4 l5 (l6 + 1) (l7 + 1)
  )
def R_message_L229 (ke261 : Int32 → Int32 → Int32 → Int32 → Int32 → Int32 → RS → Option (Int32 × RS)) : Nat → Int32 → Int32 → Int32 → Int32 → Int32 → Int32 → Int32 → RS → Option (Int32 × RS)
  | 0, _, _, _, _, _, _, _ => no
  | n + 1, l1, l2, l3, l4, l5, l6, l7 => R_message_B229 (fun l1 l2 l3 l4 l5 l6 l7 => R_message_L229 ke261 n l1 l2 l3 l4 l5 l6 l7) ke261 l1 l2 l3 l4 l5 l6 l7
set_option maxRecDepth 10000 in
theorem sm_message_B229 {g : Gm RS Int32} {kb : Int32 → Int32 → Int32 → Int32 → Int32 → Int32 → Int32 → RS → Option (Int32 × RS)} {ke261 : Int32 → Int32 → Int32 → Int32 → Int32 → Int32 → RS → Option (Int32 × RS)} (B : Br g cX12_message 8 voI (some .int) 1 24) (hkb : ∀ (l1 : Int32) (l2 : Int32) (l3 : Int32) (l4 : Int32) (l5 : Int32) (l6 : Int32) (l7 : Int32), Sm g 8 229 [(0, .ref g.1.2.2.2.2.2), (1, .int l1), (2, .int l2), (3, .int l3), (4, .int l4), (5, .int l5), (6, .int l6), (7, .int l7)] [] (kb l1 l2 l3 l4 l5 l6 l7)) (hke261 : ∀ (l1 : Int32) (l2 : Int32) (l3 : Int32) (l4 : Int32) (l5 : Int32) (l6 : Int32), Sm g 8 261 [(0, .ref g.1.2.2.2.2.2), (1, .int l1), (2, .int l2), (3, .int l3), (4, .int l4), (5, .int l5), (6, .int l6)] [] (ke261 l1 l2 l3 l4 l5 l6)) (l1 : Int32) (l2 : Int32) (l3 : Int32) (l4 : Int32) (l5 : Int32) (l6 : Int32) (l7 : Int32) : Sm g 8 229 [(0, .ref g.1.2.2.2.2.2), (1, .int l1), (2, .int l2), (3, .int l3), (4, .int l4), (5, .int l5), (6, .int l6), (7, .int l7)] [] (R_message_B229 kb ke261 l1 l2 l3 l4 l5 l6 l7) := by
  unfold R_message_B229
  refine s_iload B.1 7 dX12_message_229 rfl ?_
  refine s_aload_n B.1 0 dX12_message_231 rfl rfl ?_
  refine rr_getI B 98 mh_98 mk_98 mf_98 dX12_message_232 (fun v33 => ?_)
  refine s_icmp_ge B.1 261 dX12_message_235 (by decide) ?_ ?_
  · exact Sm.lvs [0, 1, 2, 3, 4, 5, 6] rfl (hke261 l1 l2 l3 l4 l5 l6)
  · refine s_aload_n B.1 0 dX12_message_238 rfl rfl ?_
    refine rr_getA B 45 mh_45 mn_45 mf_45 dX12_message_239 ?_
    refine s_iload B.1 6 dX12_message_242 rfl ?_
    refine s_iinc (v := l6 + 1) (lv' := [(6, .int (l6 + 1)), (0, .ref g.1.2.2.2.2.2), (1, .int l1), (2, .int l2), (3, .int l3), (4, .int l4), (5, .int l5), (7, .int l7)]) B.1 6 dX12_message_244 rfl rfl (by decide) rfl ?_
    refine s_aload_n B.1 1 dX12_message_247 rfl rfl ?_
    refine rr_getA B 97 mh_97 mn_97 mf_97 dX12_message_248 ?_
    refine s_iload B.1 7 dX12_message_251 rfl ?_
    refine rr_bald B 97 mh_97 mk_97 dX12_message_253 (fun v34 => ?_)
    refine rr_bast B 45 mh_45 mk_45 dX12_message_254 ?_
    refine s_iinc (v := l7 + 1) (lv' := [(7, .int (l7 + 1)), (6, .int (l6 + 1)), (0, .ref g.1.2.2.2.2.2), (1, .int l1), (2, .int l2), (3, .int l3), (4, .int l4), (5, .int l5)]) B.1 7 dX12_message_255 rfl rfl (by decide) rfl ?_
    refine s_goto B.1 229 dX12_message_258 (by decide) ?_
    exact Sm.lvs [2, 3, 4, 5, 6, 7, 1, 0] rfl (hkb l1 l2 l3 l4 l5 (l6 + 1) (l7 + 1))
set_option maxRecDepth 10000 in
theorem sm_message_L229 {g : Gm RS Int32} {ke261 : Int32 → Int32 → Int32 → Int32 → Int32 → Int32 → RS → Option (Int32 × RS)} (B : Br g cX12_message 8 voI (some .int) 1 24) (hke261 : ∀ (l1 : Int32) (l2 : Int32) (l3 : Int32) (l4 : Int32) (l5 : Int32) (l6 : Int32), Sm g 8 261 [(0, .ref g.1.2.2.2.2.2), (1, .int l1), (2, .int l2), (3, .int l3), (4, .int l4), (5, .int l5), (6, .int l6)] [] (ke261 l1 l2 l3 l4 l5 l6)) : ∀ (n : Nat) (l1 : Int32) (l2 : Int32) (l3 : Int32) (l4 : Int32) (l5 : Int32) (l6 : Int32) (l7 : Int32), Sm g 8 229 [(0, .ref g.1.2.2.2.2.2), (1, .int l1), (2, .int l2), (3, .int l3), (4, .int l4), (5, .int l5), (6, .int l6), (7, .int l7)] [] (R_message_L229 ke261 n l1 l2 l3 l4 l5 l6 l7)
  | 0, _, _, _, _, _, _, _ => Sm.fail
  | n + 1, l1, l2, l3, l4, l5, l6, l7 => sm_message_B229 B (sm_message_L229 B hke261 n) hke261 l1 l2 l3 l4 l5 l6 l7
def R_message_J207 (l1 : Int32) (l2 : Int32) (l3 : Int32) (l4 : Int32) (l5 : Int32) : RS → Option (Int32 × RS) :=
  lq ((480 : Int32) * l5) fun x35 =>
  rI 98 fun v36 =>
  wA 46 l5 v36 <|
  R_message_L229 (fun l1 l2 l3 l4 l5 l6 => R_message_J261 l1 l2 l3 l4 l5 l6) fu l1 l2 l3 l4 l5 x35 (0 : Int32)
set_option maxRecDepth 10000 in
theorem sm_message_J207 {g : Gm RS Int32} (B : Br g cX12_message 8 voI (some .int) 1 24) (l1 : Int32) (l2 : Int32) (l3 : Int32) (l4 : Int32) (l5 : Int32) : Sm g 8 207 [(0, .ref g.1.2.2.2.2.2), (1, .int l1), (2, .int l2), (3, .int l3), (4, .int l4), (5, .int l5)] [] (R_message_J207 l1 l2 l3 l4 l5) := by
  unfold R_message_J207
  refine s_sipush (v := (480)) B.1 dX12_message_207 (by decide) ?_
  refine s_iload B.1 5 dX12_message_210 rfl ?_
  refine s_imul B.1 dX12_message_212 ?_
  refine s_lqi (fun x35 => ?_)
  refine s_istore (lv' := [(6, .int x35), (0, .ref g.1.2.2.2.2.2), (1, .int l1), (2, .int l2), (3, .int l3), (4, .int l4), (5, .int l5)]) B.1 dX12_message_213 (by decide) rfl ?_
  refine s_aload_n B.1 1 dX12_message_215 rfl rfl ?_
  refine rr_getA B 46 mh_46 mn_46 mf_46 dX12_message_216 ?_
  refine s_iload B.1 6 dX12_message_219 rfl ?_
  refine s_aload_n B.1 1 dX12_message_221 rfl rfl ?_
  refine rr_getI B 98 mh_98 mk_98 mf_98 dX12_message_222 (fun v36 => ?_)
  refine rr_iast B 46 mh_46 mk_46 dX12_message_225 ?_
  refine s_iconst (v := 0) B.1 dX12_message_226 (by decide) ?_
  refine s_istore (lv' := [(7, .int (0 : Int32)), (6, .int x35), (0, .ref g.1.2.2.2.2.2), (1, .int l1), (2, .int l2), (3, .int l3), (4, .int l4), (5, .int l5)]) B.1 dX12_message_227 (by decide) rfl ?_
  exact Sm.lvs [2, 3, 4, 5, 6, 7, 1, 0] rfl (sm_message_L229 B (fun l1 l2 l3 l4 l5 l6 => sm_message_J261 B l1 l2 l3 l4 l5 l6) fu l1 l2 l3 l4 l5 x35 (0 : Int32))
def R_message_B191 (kb : Int32 → Int32 → Int32 → Int32 → Int32 → RS → Option (Int32 × RS)) (ke207 : Int32 → Int32 → Int32 → Int32 → Int32 → RS → Option (Int32 × RS)) (l1 : Int32) (l2 : Int32) (l3 : Int32) (l4 : Int32) (l5 : Int32) : RS → Option (Int32 × RS) :=
  rA 63 l5 fun v37 =>
  if v37 = 0 then (
    ke207 l1 l2 l3 l4 l5
  ) else (
    kb l1 l2 l3 l4 (l5 + 1)
  )
def R_message_L191 (ke207 : Int32 → Int32 → Int32 → Int32 → Int32 → RS → Option (Int32 × RS)) : Nat → Int32 → Int32 → Int32 → Int32 → Int32 → RS → Option (Int32 × RS)
  | 0, _, _, _, _, _ => no
  | n + 1, l1, l2, l3, l4, l5 => R_message_B191 (fun l1 l2 l3 l4 l5 => R_message_L191 ke207 n l1 l2 l3 l4 l5) ke207 l1 l2 l3 l4 l5
set_option maxRecDepth 10000 in
theorem sm_message_B191 {g : Gm RS Int32} {kb : Int32 → Int32 → Int32 → Int32 → Int32 → RS → Option (Int32 × RS)} {ke207 : Int32 → Int32 → Int32 → Int32 → Int32 → RS → Option (Int32 × RS)} (B : Br g cX12_message 8 voI (some .int) 1 24) (hkb : ∀ (l1 : Int32) (l2 : Int32) (l3 : Int32) (l4 : Int32) (l5 : Int32), Sm g 8 191 [(0, .ref g.1.2.2.2.2.2), (1, .int l1), (2, .int l2), (3, .int l3), (4, .int l4), (5, .int l5)] [] (kb l1 l2 l3 l4 l5)) (hke207 : ∀ (l1 : Int32) (l2 : Int32) (l3 : Int32) (l4 : Int32) (l5 : Int32), Sm g 8 207 [(0, .ref g.1.2.2.2.2.2), (1, .int l1), (2, .int l2), (3, .int l3), (4, .int l4), (5, .int l5)] [] (ke207 l1 l2 l3 l4 l5)) (l1 : Int32) (l2 : Int32) (l3 : Int32) (l4 : Int32) (l5 : Int32) : Sm g 8 191 [(0, .ref g.1.2.2.2.2.2), (1, .int l1), (2, .int l2), (3, .int l3), (4, .int l4), (5, .int l5)] [] (R_message_B191 kb ke207 l1 l2 l3 l4 l5) := by
  unfold R_message_B191
  refine s_aload_n B.1 0 dX12_message_191 rfl rfl ?_
  refine rr_getA B 63 mh_63 mn_63 mf_63 dX12_message_192 ?_
  refine s_iload B.1 5 dX12_message_195 rfl ?_
  refine rr_zald B 63 mh_63 mk_63 dX12_message_197 (fun v37 => ?_)
  refine s_if_eq B.1 207 dX12_message_198 (by decide) ?_ ?_
  · exact Sm.lvs [0, 1, 2, 3, 4, 5] rfl (hke207 l1 l2 l3 l4 l5)
  · refine s_iinc (v := l5 + 1) (lv' := [(5, .int (l5 + 1)), (0, .ref g.1.2.2.2.2.2), (1, .int l1), (2, .int l2), (3, .int l3), (4, .int l4)]) B.1 5 dX12_message_201 rfl rfl (by decide) rfl ?_
    refine s_goto B.1 191 dX12_message_204 (by decide) ?_
    exact Sm.lvs [1, 2, 3, 4, 5, 0] rfl (hkb l1 l2 l3 l4 (l5 + 1))
set_option maxRecDepth 10000 in
theorem sm_message_L191 {g : Gm RS Int32} {ke207 : Int32 → Int32 → Int32 → Int32 → Int32 → RS → Option (Int32 × RS)} (B : Br g cX12_message 8 voI (some .int) 1 24) (hke207 : ∀ (l1 : Int32) (l2 : Int32) (l3 : Int32) (l4 : Int32) (l5 : Int32), Sm g 8 207 [(0, .ref g.1.2.2.2.2.2), (1, .int l1), (2, .int l2), (3, .int l3), (4, .int l4), (5, .int l5)] [] (ke207 l1 l2 l3 l4 l5)) : ∀ (n : Nat) (l1 : Int32) (l2 : Int32) (l3 : Int32) (l4 : Int32) (l5 : Int32), Sm g 8 191 [(0, .ref g.1.2.2.2.2.2), (1, .int l1), (2, .int l2), (3, .int l3), (4, .int l4), (5, .int l5)] [] (R_message_L191 ke207 n l1 l2 l3 l4 l5)
  | 0, _, _, _, _, _ => Sm.fail
  | n + 1, l1, l2, l3, l4, l5 => sm_message_B191 B (sm_message_L191 B hke207 n) hke207 l1 l2 l3 l4 l5
def R_message_J188 (l1 : Int32) (l2 : Int32) (l3 : Int32) (l4 : Int32) : RS → Option (Int32 × RS) :=
  R_message_L191 (fun l1 l2 l3 l4 l5 => R_message_J207 l1 l2 l3 l4 l5) fu l1 l2 l3 l4 (0 : Int32)
set_option maxRecDepth 10000 in
theorem sm_message_J188 {g : Gm RS Int32} (B : Br g cX12_message 8 voI (some .int) 1 24) (l1 : Int32) (l2 : Int32) (l3 : Int32) (l4 : Int32) : Sm g 8 188 [(0, .ref g.1.2.2.2.2.2), (1, .int l1), (2, .int l2), (3, .int l3), (4, .int l4)] [] (R_message_J188 l1 l2 l3 l4) := by
  unfold R_message_J188
  refine s_iconst (v := 0) B.1 dX12_message_188 (by decide) ?_
  refine s_istore (lv' := [(5, .int (0 : Int32)), (0, .ref g.1.2.2.2.2.2), (1, .int l1), (2, .int l2), (3, .int l3), (4, .int l4)]) B.1 dX12_message_189 (by decide) rfl ?_
  exact Sm.lvs [1, 2, 3, 4, 5, 0] rfl (sm_message_L191 B (fun l1 l2 l3 l4 l5 => sm_message_J207 B l1 l2 l3 l4 l5) fu l1 l2 l3 l4 (0 : Int32))
def R_message_J182 (kb : Int32 → Int32 → Int32 → Int32 → Int32 → RS → Option (Int32 × RS)) (ke188 : Int32 → Int32 → Int32 → Int32 → RS → Option (Int32 × RS)) (l1 : Int32) (l2 : Int32) (l3 : Int32) (l4 : Int32) (l5 : Int32) : RS → Option (Int32 × RS) :=
  kb l1 l2 l3 l4 (l5 + 1)
set_option maxRecDepth 10000 in
theorem sm_message_J182 {g : Gm RS Int32} {kb : Int32 → Int32 → Int32 → Int32 → Int32 → RS → Option (Int32 × RS)} {ke188 : Int32 → Int32 → Int32 → Int32 → RS → Option (Int32 × RS)} (B : Br g cX12_message 8 voI (some .int) 1 24) (hkb : ∀ (l1 : Int32) (l2 : Int32) (l3 : Int32) (l4 : Int32) (l5 : Int32), Sm g 8 59 [(0, .ref g.1.2.2.2.2.2), (1, .int l1), (2, .int l2), (3, .int l3), (4, .int l4), (5, .int l5)] [] (kb l1 l2 l3 l4 l5)) (hke188 : ∀ (l1 : Int32) (l2 : Int32) (l3 : Int32) (l4 : Int32), Sm g 8 188 [(0, .ref g.1.2.2.2.2.2), (1, .int l1), (2, .int l2), (3, .int l3), (4, .int l4)] [] (ke188 l1 l2 l3 l4)) (l1 : Int32) (l2 : Int32) (l3 : Int32) (l4 : Int32) (l5 : Int32) : Sm g 8 182 [(0, .ref g.1.2.2.2.2.2), (1, .int l1), (2, .int l2), (3, .int l3), (4, .int l4), (5, .int l5)] [] (R_message_J182 kb ke188 l1 l2 l3 l4 l5) := by
  unfold R_message_J182
  refine s_iinc (v := l5 + 1) (lv' := [(5, .int (l5 + 1)), (0, .ref g.1.2.2.2.2.2), (1, .int l1), (2, .int l2), (3, .int l3), (4, .int l4)]) B.1 5 dX12_message_182 rfl rfl (by decide) rfl ?_
  refine s_goto B.1 59 dX12_message_185 (by decide) ?_
  exact Sm.lvs [1, 2, 3, 4, 5, 0] rfl (hkb l1 l2 l3 l4 (l5 + 1))
def R_message_B145 (kb : Int32 → Int32 → Int32 → Int32 → Int32 → Int32 → RS → Option (Int32 × RS)) (ke182 : Int32 → Int32 → Int32 → Int32 → Int32 → RS → Option (Int32 × RS)) (l1 : Int32) (l2 : Int32) (l3 : Int32) (l4 : Int32) (l5 : Int32) (l6 : Int32) : RS → Option (Int32 × RS) :=
  rA 38 l5 fun v38 =>
  if v38 ≤ l6 then (
    ke182 l1 l2 l3 l4 l5
  ) else (
    rA 39 (((24 : Int32) * l5) + l6) fun v39 =>
    wA 63 v39 (vp_nar .boolean (1 : Int32)) <|
    kb l1 l2 l3 l4 l5 (l6 + 1)
  )
def R_message_L145 (ke182 : Int32 → Int32 → Int32 → Int32 → Int32 → RS → Option (Int32 × RS)) : Nat → Int32 → Int32 → Int32 → Int32 → Int32 → Int32 → RS → Option (Int32 × RS)
  | 0, _, _, _, _, _, _ => no
  | n + 1, l1, l2, l3, l4, l5, l6 => R_message_B145 (fun l1 l2 l3 l4 l5 l6 => R_message_L145 ke182 n l1 l2 l3 l4 l5 l6) ke182 l1 l2 l3 l4 l5 l6
set_option maxRecDepth 10000 in
theorem sm_message_B145 {g : Gm RS Int32} {kb : Int32 → Int32 → Int32 → Int32 → Int32 → Int32 → RS → Option (Int32 × RS)} {ke182 : Int32 → Int32 → Int32 → Int32 → Int32 → RS → Option (Int32 × RS)} (B : Br g cX12_message 8 voI (some .int) 1 24) (hkb : ∀ (l1 : Int32) (l2 : Int32) (l3 : Int32) (l4 : Int32) (l5 : Int32) (l6 : Int32), Sm g 8 145 [(0, .ref g.1.2.2.2.2.2), (1, .int l1), (2, .int l2), (3, .int l3), (4, .int l4), (5, .int l5), (6, .int l6)] [] (kb l1 l2 l3 l4 l5 l6)) (hke182 : ∀ (l1 : Int32) (l2 : Int32) (l3 : Int32) (l4 : Int32) (l5 : Int32), Sm g 8 182 [(0, .ref g.1.2.2.2.2.2), (1, .int l1), (2, .int l2), (3, .int l3), (4, .int l4), (5, .int l5)] [] (ke182 l1 l2 l3 l4 l5)) (l1 : Int32) (l2 : Int32) (l3 : Int32) (l4 : Int32) (l5 : Int32) (l6 : Int32) : Sm g 8 145 [(0, .ref g.1.2.2.2.2.2), (1, .int l1), (2, .int l2), (3, .int l3), (4, .int l4), (5, .int l5), (6, .int l6)] [] (R_message_B145 kb ke182 l1 l2 l3 l4 l5 l6) := by
  unfold R_message_B145
  refine s_iload B.1 6 dX12_message_145 rfl ?_
  refine s_aload_n B.1 0 dX12_message_147 rfl rfl ?_
  refine rr_getA B 38 mh_38 mn_38 mf_38 dX12_message_148 ?_
  refine s_iload B.1 5 dX12_message_151 rfl ?_
  refine rr_iald B 38 mh_38 mk_38 dX12_message_153 (fun v38 => ?_)
  refine s_icmp_ge B.1 182 dX12_message_154 (by decide) ?_ ?_
  · exact Sm.lvs [0, 1, 2, 3, 4, 5] rfl (hke182 l1 l2 l3 l4 l5)
  · refine s_aload_n B.1 0 dX12_message_157 rfl rfl ?_
    refine rr_getA B 63 mh_63 mn_63 mf_63 dX12_message_158 ?_
    refine s_aload_n B.1 0 dX12_message_161 rfl rfl ?_
    refine rr_getA B 39 mh_39 mn_39 mf_39 dX12_message_162 ?_
    refine s_bipush (v := (24)) B.1 dX12_message_165 (by decide) ?_
    refine s_iload B.1 5 dX12_message_167 rfl ?_
    refine s_imul B.1 dX12_message_169 ?_
    refine s_iload B.1 6 dX12_message_170 rfl ?_
    refine s_iadd B.1 dX12_message_172 ?_
    refine rr_iald B 39 mh_39 mk_39 dX12_message_173 (fun v39 => ?_)
    refine s_iconst (v := 1) B.1 dX12_message_174 (by decide) ?_
    refine rr_zast B 63 mh_63 mk_63 dX12_message_175 ?_
    refine s_iinc (v := l6 + 1) (lv' := [(6, .int (l6 + 1)), (0, .ref g.1.2.2.2.2.2), (1, .int l1), (2, .int l2), (3, .int l3), (4, .int l4), (5, .int l5)]) B.1 6 dX12_message_176 rfl rfl (by decide) rfl ?_
    refine s_goto B.1 145 dX12_message_179 (by decide) ?_
    exact Sm.lvs [1, 2, 3, 4, 5, 6, 0] rfl (hkb l1 l2 l3 l4 l5 (l6 + 1))
set_option maxRecDepth 10000 in
theorem sm_message_L145 {g : Gm RS Int32} {ke182 : Int32 → Int32 → Int32 → Int32 → Int32 → RS → Option (Int32 × RS)} (B : Br g cX12_message 8 voI (some .int) 1 24) (hke182 : ∀ (l1 : Int32) (l2 : Int32) (l3 : Int32) (l4 : Int32) (l5 : Int32), Sm g 8 182 [(0, .ref g.1.2.2.2.2.2), (1, .int l1), (2, .int l2), (3, .int l3), (4, .int l4), (5, .int l5)] [] (ke182 l1 l2 l3 l4 l5)) : ∀ (n : Nat) (l1 : Int32) (l2 : Int32) (l3 : Int32) (l4 : Int32) (l5 : Int32) (l6 : Int32), Sm g 8 145 [(0, .ref g.1.2.2.2.2.2), (1, .int l1), (2, .int l2), (3, .int l3), (4, .int l4), (5, .int l5), (6, .int l6)] [] (R_message_L145 ke182 n l1 l2 l3 l4 l5 l6)
  | 0, _, _, _, _, _, _ => Sm.fail
  | n + 1, l1, l2, l3, l4, l5, l6 => sm_message_B145 B (sm_message_L145 B hke182 n) hke182 l1 l2 l3 l4 l5 l6
def R_message_J142 (kb : Int32 → Int32 → Int32 → Int32 → Int32 → RS → Option (Int32 × RS)) (ke188 : Int32 → Int32 → Int32 → Int32 → RS → Option (Int32 × RS)) (l1 : Int32) (l2 : Int32) (l3 : Int32) (l4 : Int32) (l5 : Int32) : RS → Option (Int32 × RS) :=
  R_message_L145 (fun l1 l2 l3 l4 l5 => R_message_J182 kb ke188 l1 l2 l3 l4 l5) fu l1 l2 l3 l4 l5 (0 : Int32)
set_option maxRecDepth 10000 in
theorem sm_message_J142 {g : Gm RS Int32} {kb : Int32 → Int32 → Int32 → Int32 → Int32 → RS → Option (Int32 × RS)} {ke188 : Int32 → Int32 → Int32 → Int32 → RS → Option (Int32 × RS)} (B : Br g cX12_message 8 voI (some .int) 1 24) (hkb : ∀ (l1 : Int32) (l2 : Int32) (l3 : Int32) (l4 : Int32) (l5 : Int32), Sm g 8 59 [(0, .ref g.1.2.2.2.2.2), (1, .int l1), (2, .int l2), (3, .int l3), (4, .int l4), (5, .int l5)] [] (kb l1 l2 l3 l4 l5)) (hke188 : ∀ (l1 : Int32) (l2 : Int32) (l3 : Int32) (l4 : Int32), Sm g 8 188 [(0, .ref g.1.2.2.2.2.2), (1, .int l1), (2, .int l2), (3, .int l3), (4, .int l4)] [] (ke188 l1 l2 l3 l4)) (l1 : Int32) (l2 : Int32) (l3 : Int32) (l4 : Int32) (l5 : Int32) : Sm g 8 142 [(0, .ref g.1.2.2.2.2.2), (1, .int l1), (2, .int l2), (3, .int l3), (4, .int l4), (5, .int l5)] [] (R_message_J142 kb ke188 l1 l2 l3 l4 l5) := by
  unfold R_message_J142
  refine s_iconst (v := 0) B.1 dX12_message_142 (by decide) ?_
  refine s_istore (lv' := [(6, .int (0 : Int32)), (0, .ref g.1.2.2.2.2.2), (1, .int l1), (2, .int l2), (3, .int l3), (4, .int l4), (5, .int l5)]) B.1 dX12_message_143 (by decide) rfl ?_
  exact Sm.lvs [1, 2, 3, 4, 5, 6, 0] rfl (sm_message_L145 B (fun l1 l2 l3 l4 l5 => sm_message_J182 B hkb hke188 l1 l2 l3 l4 l5) fu l1 l2 l3 l4 l5 (0 : Int32))
def R_message_B105 (kb : Int32 → Int32 → Int32 → Int32 → Int32 → Int32 → RS → Option (Int32 × RS)) (ke142 : Int32 → Int32 → Int32 → Int32 → Int32 → RS → Option (Int32 × RS)) (l1 : Int32) (l2 : Int32) (l3 : Int32) (l4 : Int32) (l5 : Int32) (l6 : Int32) : RS → Option (Int32 × RS) :=
  rA 31 l5 fun v40 =>
  if v40 ≤ l6 then (
    ke142 l1 l2 l3 l4 l5
  ) else (
    rA 33 (((16 : Int32) * l5) + l6) fun v41 =>
    wA 63 v41 (vp_nar .boolean (1 : Int32)) <|
    kb l1 l2 l3 l4 l5 (l6 + 1)
  )
def R_message_L105 (ke142 : Int32 → Int32 → Int32 → Int32 → Int32 → RS → Option (Int32 × RS)) : Nat → Int32 → Int32 → Int32 → Int32 → Int32 → Int32 → RS → Option (Int32 × RS)
  | 0, _, _, _, _, _, _ => no
  | n + 1, l1, l2, l3, l4, l5, l6 => R_message_B105 (fun l1 l2 l3 l4 l5 l6 => R_message_L105 ke142 n l1 l2 l3 l4 l5 l6) ke142 l1 l2 l3 l4 l5 l6
set_option maxRecDepth 10000 in
theorem sm_message_B105 {g : Gm RS Int32} {kb : Int32 → Int32 → Int32 → Int32 → Int32 → Int32 → RS → Option (Int32 × RS)} {ke142 : Int32 → Int32 → Int32 → Int32 → Int32 → RS → Option (Int32 × RS)} (B : Br g cX12_message 8 voI (some .int) 1 24) (hkb : ∀ (l1 : Int32) (l2 : Int32) (l3 : Int32) (l4 : Int32) (l5 : Int32) (l6 : Int32), Sm g 8 105 [(0, .ref g.1.2.2.2.2.2), (1, .int l1), (2, .int l2), (3, .int l3), (4, .int l4), (5, .int l5), (6, .int l6)] [] (kb l1 l2 l3 l4 l5 l6)) (hke142 : ∀ (l1 : Int32) (l2 : Int32) (l3 : Int32) (l4 : Int32) (l5 : Int32), Sm g 8 142 [(0, .ref g.1.2.2.2.2.2), (1, .int l1), (2, .int l2), (3, .int l3), (4, .int l4), (5, .int l5)] [] (ke142 l1 l2 l3 l4 l5)) (l1 : Int32) (l2 : Int32) (l3 : Int32) (l4 : Int32) (l5 : Int32) (l6 : Int32) : Sm g 8 105 [(0, .ref g.1.2.2.2.2.2), (1, .int l1), (2, .int l2), (3, .int l3), (4, .int l4), (5, .int l5), (6, .int l6)] [] (R_message_B105 kb ke142 l1 l2 l3 l4 l5 l6) := by
  unfold R_message_B105
  refine s_iload B.1 6 dX12_message_105 rfl ?_
  refine s_aload_n B.1 0 dX12_message_107 rfl rfl ?_
  refine rr_getA B 31 mh_31 mn_31 mf_31 dX12_message_108 ?_
  refine s_iload B.1 5 dX12_message_111 rfl ?_
  refine rr_iald B 31 mh_31 mk_31 dX12_message_113 (fun v40 => ?_)
  refine s_icmp_ge B.1 142 dX12_message_114 (by decide) ?_ ?_
  · exact Sm.lvs [0, 1, 2, 3, 4, 5] rfl (hke142 l1 l2 l3 l4 l5)
  · refine s_aload_n B.1 0 dX12_message_117 rfl rfl ?_
    refine rr_getA B 63 mh_63 mn_63 mf_63 dX12_message_118 ?_
    refine s_aload_n B.1 0 dX12_message_121 rfl rfl ?_
    refine rr_getA B 33 mh_33 mn_33 mf_33 dX12_message_122 ?_
    refine s_bipush (v := (16)) B.1 dX12_message_125 (by decide) ?_
    refine s_iload B.1 5 dX12_message_127 rfl ?_
    refine s_imul B.1 dX12_message_129 ?_
    refine s_iload B.1 6 dX12_message_130 rfl ?_
    refine s_iadd B.1 dX12_message_132 ?_
    refine rr_iald B 33 mh_33 mk_33 dX12_message_133 (fun v41 => ?_)
    refine s_iconst (v := 1) B.1 dX12_message_134 (by decide) ?_
    refine rr_zast B 63 mh_63 mk_63 dX12_message_135 ?_
    refine s_iinc (v := l6 + 1) (lv' := [(6, .int (l6 + 1)), (0, .ref g.1.2.2.2.2.2), (1, .int l1), (2, .int l2), (3, .int l3), (4, .int l4), (5, .int l5)]) B.1 6 dX12_message_136 rfl rfl (by decide) rfl ?_
    refine s_goto B.1 105 dX12_message_139 (by decide) ?_
    exact Sm.lvs [1, 2, 3, 4, 5, 6, 0] rfl (hkb l1 l2 l3 l4 l5 (l6 + 1))
set_option maxRecDepth 10000 in
theorem sm_message_L105 {g : Gm RS Int32} {ke142 : Int32 → Int32 → Int32 → Int32 → Int32 → RS → Option (Int32 × RS)} (B : Br g cX12_message 8 voI (some .int) 1 24) (hke142 : ∀ (l1 : Int32) (l2 : Int32) (l3 : Int32) (l4 : Int32) (l5 : Int32), Sm g 8 142 [(0, .ref g.1.2.2.2.2.2), (1, .int l1), (2, .int l2), (3, .int l3), (4, .int l4), (5, .int l5)] [] (ke142 l1 l2 l3 l4 l5)) : ∀ (n : Nat) (l1 : Int32) (l2 : Int32) (l3 : Int32) (l4 : Int32) (l5 : Int32) (l6 : Int32), Sm g 8 105 [(0, .ref g.1.2.2.2.2.2), (1, .int l1), (2, .int l2), (3, .int l3), (4, .int l4), (5, .int l5), (6, .int l6)] [] (R_message_L105 ke142 n l1 l2 l3 l4 l5 l6)
  | 0, _, _, _, _, _, _ => Sm.fail
  | n + 1, l1, l2, l3, l4, l5, l6 => sm_message_B105 B (sm_message_L105 B hke142 n) hke142 l1 l2 l3 l4 l5 l6
def R_message_J102 (kb : Int32 → Int32 → Int32 → Int32 → Int32 → RS → Option (Int32 × RS)) (ke188 : Int32 → Int32 → Int32 → Int32 → RS → Option (Int32 × RS)) (l1 : Int32) (l2 : Int32) (l3 : Int32) (l4 : Int32) (l5 : Int32) : RS → Option (Int32 × RS) :=
  R_message_L105 (fun l1 l2 l3 l4 l5 => R_message_J142 kb ke188 l1 l2 l3 l4 l5) fu l1 l2 l3 l4 l5 (0 : Int32)
set_option maxRecDepth 10000 in
theorem sm_message_J102 {g : Gm RS Int32} {kb : Int32 → Int32 → Int32 → Int32 → Int32 → RS → Option (Int32 × RS)} {ke188 : Int32 → Int32 → Int32 → Int32 → RS → Option (Int32 × RS)} (B : Br g cX12_message 8 voI (some .int) 1 24) (hkb : ∀ (l1 : Int32) (l2 : Int32) (l3 : Int32) (l4 : Int32) (l5 : Int32), Sm g 8 59 [(0, .ref g.1.2.2.2.2.2), (1, .int l1), (2, .int l2), (3, .int l3), (4, .int l4), (5, .int l5)] [] (kb l1 l2 l3 l4 l5)) (hke188 : ∀ (l1 : Int32) (l2 : Int32) (l3 : Int32) (l4 : Int32), Sm g 8 188 [(0, .ref g.1.2.2.2.2.2), (1, .int l1), (2, .int l2), (3, .int l3), (4, .int l4)] [] (ke188 l1 l2 l3 l4)) (l1 : Int32) (l2 : Int32) (l3 : Int32) (l4 : Int32) (l5 : Int32) : Sm g 8 102 [(0, .ref g.1.2.2.2.2.2), (1, .int l1), (2, .int l2), (3, .int l3), (4, .int l4), (5, .int l5)] [] (R_message_J102 kb ke188 l1 l2 l3 l4 l5) := by
  unfold R_message_J102
  refine s_iconst (v := 0) B.1 dX12_message_102 (by decide) ?_
  refine s_istore (lv' := [(6, .int (0 : Int32)), (0, .ref g.1.2.2.2.2.2), (1, .int l1), (2, .int l2), (3, .int l3), (4, .int l4), (5, .int l5)]) B.1 dX12_message_103 (by decide) rfl ?_
  exact Sm.lvs [1, 2, 3, 4, 5, 6, 0] rfl (sm_message_L105 B (fun l1 l2 l3 l4 l5 => sm_message_J142 B hkb hke188 l1 l2 l3 l4 l5) fu l1 l2 l3 l4 l5 (0 : Int32))
def R_message_B59 (kb : Int32 → Int32 → Int32 → Int32 → Int32 → RS → Option (Int32 × RS)) (ke188 : Int32 → Int32 → Int32 → Int32 → RS → Option (Int32 × RS)) (l1 : Int32) (l2 : Int32) (l3 : Int32) (l4 : Int32) (l5 : Int32) : RS → Option (Int32 × RS) :=
  if (12 : Int32) ≤ l5 then (
    ke188 l1 l2 l3 l4
  ) else (
    rA 11 l5 fun v42 =>
    if v42 = 0 then (
      R_message_J182 kb ke188 l1 l2 l3 l4 l5
    ) else (
      rA 20 l5 fun v43 =>
      if v43 < 0 then (
        R_message_J102 kb ke188 l1 l2 l3 l4 l5
      ) else (
        rA 20 l5 fun v44 =>
        wA 63 v44 (vp_nar .boolean (1 : Int32)) <|
        R_message_J102 kb ke188 l1 l2 l3 l4 l5
      )
    )
  )
def R_message_L59 (ke188 : Int32 → Int32 → Int32 → Int32 → RS → Option (Int32 × RS)) : Nat → Int32 → Int32 → Int32 → Int32 → Int32 → RS → Option (Int32 × RS)
  | 0, _, _, _, _, _ => no
  | n + 1, l1, l2, l3, l4, l5 => R_message_B59 (fun l1 l2 l3 l4 l5 => R_message_L59 ke188 n l1 l2 l3 l4 l5) ke188 l1 l2 l3 l4 l5
set_option maxRecDepth 10000 in
theorem sm_message_B59 {g : Gm RS Int32} {kb : Int32 → Int32 → Int32 → Int32 → Int32 → RS → Option (Int32 × RS)} {ke188 : Int32 → Int32 → Int32 → Int32 → RS → Option (Int32 × RS)} (B : Br g cX12_message 8 voI (some .int) 1 24) (hkb : ∀ (l1 : Int32) (l2 : Int32) (l3 : Int32) (l4 : Int32) (l5 : Int32), Sm g 8 59 [(0, .ref g.1.2.2.2.2.2), (1, .int l1), (2, .int l2), (3, .int l3), (4, .int l4), (5, .int l5)] [] (kb l1 l2 l3 l4 l5)) (hke188 : ∀ (l1 : Int32) (l2 : Int32) (l3 : Int32) (l4 : Int32), Sm g 8 188 [(0, .ref g.1.2.2.2.2.2), (1, .int l1), (2, .int l2), (3, .int l3), (4, .int l4)] [] (ke188 l1 l2 l3 l4)) (l1 : Int32) (l2 : Int32) (l3 : Int32) (l4 : Int32) (l5 : Int32) : Sm g 8 59 [(0, .ref g.1.2.2.2.2.2), (1, .int l1), (2, .int l2), (3, .int l3), (4, .int l4), (5, .int l5)] [] (R_message_B59 kb ke188 l1 l2 l3 l4 l5) := by
  unfold R_message_B59
  refine s_iload B.1 5 dX12_message_59 rfl ?_
  refine s_bipush (v := (12)) B.1 dX12_message_61 (by decide) ?_
  refine s_icmp_ge B.1 188 dX12_message_63 (by decide) ?_ ?_
  · exact Sm.lvs [0, 1, 2, 3, 4] rfl (hke188 l1 l2 l3 l4)
  · refine s_aload_n B.1 0 dX12_message_66 rfl rfl ?_
    refine rr_getA B 11 mh_11 mn_11 mf_11 dX12_message_67 ?_
    refine s_iload B.1 5 dX12_message_70 rfl ?_
    refine rr_zald B 11 mh_11 mk_11 dX12_message_72 (fun v42 => ?_)
    refine s_if_ne B.1 79 dX12_message_73 (by decide) ?_ ?_
    · refine s_aload_n B.1 0 dX12_message_79 rfl rfl ?_
      refine rr_getA B 20 mh_20 mn_20 mf_20 dX12_message_80 ?_
      refine s_iload B.1 5 dX12_message_83 rfl ?_
      refine rr_iald B 20 mh_20 mk_20 dX12_message_85 (fun v43 => ?_)
      refine s_if_lt B.1 102 dX12_message_86 (by decide) ?_ ?_
      · exact Sm.lvs [0, 1, 2, 3, 4, 5] rfl (sm_message_J102 B hkb hke188 l1 l2 l3 l4 l5)
      · refine s_aload_n B.1 0 dX12_message_89 rfl rfl ?_
        refine rr_getA B 63 mh_63 mn_63 mf_63 dX12_message_90 ?_
        refine s_aload_n B.1 0 dX12_message_93 rfl rfl ?_
        refine rr_getA B 20 mh_20 mn_20 mf_20 dX12_message_94 ?_
        refine s_iload B.1 5 dX12_message_97 rfl ?_
        refine rr_iald B 20 mh_20 mk_20 dX12_message_99 (fun v44 => ?_)
        refine s_iconst (v := 1) B.1 dX12_message_100 (by decide) ?_
        refine rr_zast B 63 mh_63 mk_63 dX12_message_101 ?_
        exact Sm.lvs [0, 1, 2, 3, 4, 5] rfl (sm_message_J102 B hkb hke188 l1 l2 l3 l4 l5)
    · refine s_goto B.1 182 dX12_message_76 (by decide) ?_
      exact Sm.lvs [0, 1, 2, 3, 4, 5] rfl (sm_message_J182 B hkb hke188 l1 l2 l3 l4 l5)
set_option maxRecDepth 10000 in
theorem sm_message_L59 {g : Gm RS Int32} {ke188 : Int32 → Int32 → Int32 → Int32 → RS → Option (Int32 × RS)} (B : Br g cX12_message 8 voI (some .int) 1 24) (hke188 : ∀ (l1 : Int32) (l2 : Int32) (l3 : Int32) (l4 : Int32), Sm g 8 188 [(0, .ref g.1.2.2.2.2.2), (1, .int l1), (2, .int l2), (3, .int l3), (4, .int l4)] [] (ke188 l1 l2 l3 l4)) : ∀ (n : Nat) (l1 : Int32) (l2 : Int32) (l3 : Int32) (l4 : Int32) (l5 : Int32), Sm g 8 59 [(0, .ref g.1.2.2.2.2.2), (1, .int l1), (2, .int l2), (3, .int l3), (4, .int l4), (5, .int l5)] [] (R_message_L59 ke188 n l1 l2 l3 l4 l5)
  | 0, _, _, _, _, _ => Sm.fail
  | n + 1, l1, l2, l3, l4, l5 => sm_message_B59 B (sm_message_L59 B hke188 n) hke188 l1 l2 l3 l4 l5
def R_message_J56 (l1 : Int32) (l2 : Int32) (l3 : Int32) (l4 : Int32) : RS → Option (Int32 × RS) :=
  R_message_L59 (fun l1 l2 l3 l4 => R_message_J188 l1 l2 l3 l4) fu l1 l2 l3 l4 (0 : Int32)
set_option maxRecDepth 10000 in
theorem sm_message_J56 {g : Gm RS Int32} (B : Br g cX12_message 8 voI (some .int) 1 24) (l1 : Int32) (l2 : Int32) (l3 : Int32) (l4 : Int32) : Sm g 8 56 [(0, .ref g.1.2.2.2.2.2), (1, .int l1), (2, .int l2), (3, .int l3), (4, .int l4)] [] (R_message_J56 l1 l2 l3 l4) := by
  unfold R_message_J56
  refine s_iconst (v := 0) B.1 dX12_message_56 (by decide) ?_
  refine s_istore (lv' := [(5, .int (0 : Int32)), (0, .ref g.1.2.2.2.2.2), (1, .int l1), (2, .int l2), (3, .int l3), (4, .int l4)]) B.1 dX12_message_57 (by decide) rfl ?_
  exact Sm.lvs [1, 2, 3, 4, 5, 0] rfl (sm_message_L59 B (fun l1 l2 l3 l4 => sm_message_J188 B l1 l2 l3 l4) fu l1 l2 l3 l4 (0 : Int32))
def R_message_B28 (kb : Int32 → Int32 → Int32 → Int32 → Int32 → RS → Option (Int32 × RS)) (ke56 : Int32 → Int32 → Int32 → Int32 → RS → Option (Int32 × RS)) (l1 : Int32) (l2 : Int32) (l3 : Int32) (l4 : Int32) (l5 : Int32) : RS → Option (Int32 × RS) :=
  rI 65 fun v45 =>
  if v45 ≤ l5 then (
    ke56 l1 l2 l3 l4
  ) else (
    rA 64 l5 fun v46 =>
    wA 63 v46 (vp_nar .boolean (1 : Int32)) <|
    kb l1 l2 l3 l4 (l5 + 1)
  )
def R_message_L28 (ke56 : Int32 → Int32 → Int32 → Int32 → RS → Option (Int32 × RS)) : Nat → Int32 → Int32 → Int32 → Int32 → Int32 → RS → Option (Int32 × RS)
  | 0, _, _, _, _, _ => no
  | n + 1, l1, l2, l3, l4, l5 => R_message_B28 (fun l1 l2 l3 l4 l5 => R_message_L28 ke56 n l1 l2 l3 l4 l5) ke56 l1 l2 l3 l4 l5
set_option maxRecDepth 10000 in
theorem sm_message_B28 {g : Gm RS Int32} {kb : Int32 → Int32 → Int32 → Int32 → Int32 → RS → Option (Int32 × RS)} {ke56 : Int32 → Int32 → Int32 → Int32 → RS → Option (Int32 × RS)} (B : Br g cX12_message 8 voI (some .int) 1 24) (hkb : ∀ (l1 : Int32) (l2 : Int32) (l3 : Int32) (l4 : Int32) (l5 : Int32), Sm g 8 28 [(0, .ref g.1.2.2.2.2.2), (1, .int l1), (2, .int l2), (3, .int l3), (4, .int l4), (5, .int l5)] [] (kb l1 l2 l3 l4 l5)) (hke56 : ∀ (l1 : Int32) (l2 : Int32) (l3 : Int32) (l4 : Int32), Sm g 8 56 [(0, .ref g.1.2.2.2.2.2), (1, .int l1), (2, .int l2), (3, .int l3), (4, .int l4)] [] (ke56 l1 l2 l3 l4)) (l1 : Int32) (l2 : Int32) (l3 : Int32) (l4 : Int32) (l5 : Int32) : Sm g 8 28 [(0, .ref g.1.2.2.2.2.2), (1, .int l1), (2, .int l2), (3, .int l3), (4, .int l4), (5, .int l5)] [] (R_message_B28 kb ke56 l1 l2 l3 l4 l5) := by
  unfold R_message_B28
  refine s_iload B.1 5 dX12_message_28 rfl ?_
  refine s_aload_n B.1 0 dX12_message_30 rfl rfl ?_
  refine rr_getI B 65 mh_65 mk_65 mf_65 dX12_message_31 (fun v45 => ?_)
  refine s_icmp_ge B.1 56 dX12_message_34 (by decide) ?_ ?_
  · exact Sm.lvs [0, 1, 2, 3, 4] rfl (hke56 l1 l2 l3 l4)
  · refine s_aload_n B.1 0 dX12_message_37 rfl rfl ?_
    refine rr_getA B 63 mh_63 mn_63 mf_63 dX12_message_38 ?_
    refine s_aload_n B.1 0 dX12_message_41 rfl rfl ?_
    refine rr_getA B 64 mh_64 mn_64 mf_64 dX12_message_42 ?_
    refine s_iload B.1 5 dX12_message_45 rfl ?_
    refine rr_iald B 64 mh_64 mk_64 dX12_message_47 (fun v46 => ?_)
    refine s_iconst (v := 1) B.1 dX12_message_48 (by decide) ?_
    refine rr_zast B 63 mh_63 mk_63 dX12_message_49 ?_
    refine s_iinc (v := l5 + 1) (lv' := [(5, .int (l5 + 1)), (0, .ref g.1.2.2.2.2.2), (1, .int l1), (2, .int l2), (3, .int l3), (4, .int l4)]) B.1 5 dX12_message_50 rfl rfl (by decide) rfl ?_
    refine s_goto B.1 28 dX12_message_53 (by decide) ?_
    exact Sm.lvs [1, 2, 3, 4, 5, 0] rfl (hkb l1 l2 l3 l4 (l5 + 1))
set_option maxRecDepth 10000 in
theorem sm_message_L28 {g : Gm RS Int32} {ke56 : Int32 → Int32 → Int32 → Int32 → RS → Option (Int32 × RS)} (B : Br g cX12_message 8 voI (some .int) 1 24) (hke56 : ∀ (l1 : Int32) (l2 : Int32) (l3 : Int32) (l4 : Int32), Sm g 8 56 [(0, .ref g.1.2.2.2.2.2), (1, .int l1), (2, .int l2), (3, .int l3), (4, .int l4)] [] (ke56 l1 l2 l3 l4)) : ∀ (n : Nat) (l1 : Int32) (l2 : Int32) (l3 : Int32) (l4 : Int32) (l5 : Int32), Sm g 8 28 [(0, .ref g.1.2.2.2.2.2), (1, .int l1), (2, .int l2), (3, .int l3), (4, .int l4), (5, .int l5)] [] (R_message_L28 ke56 n l1 l2 l3 l4 l5)
  | 0, _, _, _, _, _ => Sm.fail
  | n + 1, l1, l2, l3, l4, l5 => sm_message_B28 B (sm_message_L28 B hke56 n) hke56 l1 l2 l3 l4 l5
def R_message_J25 (l1 : Int32) (l2 : Int32) (l3 : Int32) (l4 : Int32) : RS → Option (Int32 × RS) :=
  R_message_L28 (fun l1 l2 l3 l4 => R_message_J56 l1 l2 l3 l4) fu l1 l2 l3 l4 (0 : Int32)
set_option maxRecDepth 10000 in
theorem sm_message_J25 {g : Gm RS Int32} (B : Br g cX12_message 8 voI (some .int) 1 24) (l1 : Int32) (l2 : Int32) (l3 : Int32) (l4 : Int32) : Sm g 8 25 [(0, .ref g.1.2.2.2.2.2), (1, .int l1), (2, .int l2), (3, .int l3), (4, .int l4)] [] (R_message_J25 l1 l2 l3 l4) := by
  unfold R_message_J25
  refine s_iconst (v := 0) B.1 dX12_message_25 (by decide) ?_
  refine s_istore (lv' := [(5, .int (0 : Int32)), (0, .ref g.1.2.2.2.2.2), (1, .int l1), (2, .int l2), (3, .int l3), (4, .int l4)]) B.1 dX12_message_26 (by decide) rfl ?_
  exact Sm.lvs [1, 2, 3, 4, 5, 0] rfl (sm_message_L28 B (fun l1 l2 l3 l4 => sm_message_J56 B l1 l2 l3 l4) fu l1 l2 l3 l4 (0 : Int32))
def R_message_B3 (kb : Int32 → Int32 → Int32 → Int32 → Int32 → RS → Option (Int32 × RS)) (ke25 : Int32 → Int32 → Int32 → Int32 → RS → Option (Int32 × RS)) (l1 : Int32) (l2 : Int32) (l3 : Int32) (l4 : Int32) (l5 : Int32) : RS → Option (Int32 × RS) :=
  if (640 : Int32) ≤ l5 then (
    ke25 l1 l2 l3 l4
  ) else (
    wA 63 l5 (vp_nar .boolean (0 : Int32)) <|
    kb l1 l2 l3 l4 (l5 + 1)
  )
def R_message_L3 (ke25 : Int32 → Int32 → Int32 → Int32 → RS → Option (Int32 × RS)) : Nat → Int32 → Int32 → Int32 → Int32 → Int32 → RS → Option (Int32 × RS)
  | 0, _, _, _, _, _ => no
  | n + 1, l1, l2, l3, l4, l5 => R_message_B3 (fun l1 l2 l3 l4 l5 => R_message_L3 ke25 n l1 l2 l3 l4 l5) ke25 l1 l2 l3 l4 l5
set_option maxRecDepth 10000 in
theorem sm_message_B3 {g : Gm RS Int32} {kb : Int32 → Int32 → Int32 → Int32 → Int32 → RS → Option (Int32 × RS)} {ke25 : Int32 → Int32 → Int32 → Int32 → RS → Option (Int32 × RS)} (B : Br g cX12_message 8 voI (some .int) 1 24) (hkb : ∀ (l1 : Int32) (l2 : Int32) (l3 : Int32) (l4 : Int32) (l5 : Int32), Sm g 8 3 [(0, .ref g.1.2.2.2.2.2), (1, .int l1), (2, .int l2), (3, .int l3), (4, .int l4), (5, .int l5)] [] (kb l1 l2 l3 l4 l5)) (hke25 : ∀ (l1 : Int32) (l2 : Int32) (l3 : Int32) (l4 : Int32), Sm g 8 25 [(0, .ref g.1.2.2.2.2.2), (1, .int l1), (2, .int l2), (3, .int l3), (4, .int l4)] [] (ke25 l1 l2 l3 l4)) (l1 : Int32) (l2 : Int32) (l3 : Int32) (l4 : Int32) (l5 : Int32) : Sm g 8 3 [(0, .ref g.1.2.2.2.2.2), (1, .int l1), (2, .int l2), (3, .int l3), (4, .int l4), (5, .int l5)] [] (R_message_B3 kb ke25 l1 l2 l3 l4 l5) := by
  unfold R_message_B3
  refine s_iload B.1 5 dX12_message_3 rfl ?_
  refine s_sipush (v := (640)) B.1 dX12_message_5 (by decide) ?_
  refine s_icmp_ge B.1 25 dX12_message_8 (by decide) ?_ ?_
  · exact Sm.lvs [0, 1, 2, 3, 4] rfl (hke25 l1 l2 l3 l4)
  · refine s_aload_n B.1 0 dX12_message_11 rfl rfl ?_
    refine rr_getA B 63 mh_63 mn_63 mf_63 dX12_message_12 ?_
    refine s_iload B.1 5 dX12_message_15 rfl ?_
    refine s_iconst (v := 0) B.1 dX12_message_17 (by decide) ?_
    refine rr_zast B 63 mh_63 mk_63 dX12_message_18 ?_
    refine s_iinc (v := l5 + 1) (lv' := [(5, .int (l5 + 1)), (0, .ref g.1.2.2.2.2.2), (1, .int l1), (2, .int l2), (3, .int l3), (4, .int l4)]) B.1 5 dX12_message_19 rfl rfl (by decide) rfl ?_
    refine s_goto B.1 3 dX12_message_22 (by decide) ?_
    exact Sm.lvs [1, 2, 3, 4, 5, 0] rfl (hkb l1 l2 l3 l4 (l5 + 1))
set_option maxRecDepth 10000 in
theorem sm_message_L3 {g : Gm RS Int32} {ke25 : Int32 → Int32 → Int32 → Int32 → RS → Option (Int32 × RS)} (B : Br g cX12_message 8 voI (some .int) 1 24) (hke25 : ∀ (l1 : Int32) (l2 : Int32) (l3 : Int32) (l4 : Int32), Sm g 8 25 [(0, .ref g.1.2.2.2.2.2), (1, .int l1), (2, .int l2), (3, .int l3), (4, .int l4)] [] (ke25 l1 l2 l3 l4)) : ∀ (n : Nat) (l1 : Int32) (l2 : Int32) (l3 : Int32) (l4 : Int32) (l5 : Int32), Sm g 8 3 [(0, .ref g.1.2.2.2.2.2), (1, .int l1), (2, .int l2), (3, .int l3), (4, .int l4), (5, .int l5)] [] (R_message_L3 ke25 n l1 l2 l3 l4 l5)
  | 0, _, _, _, _, _ => Sm.fail
  | n + 1, l1, l2, l3, l4, l5 => sm_message_B3 B (sm_message_L3 B hke25 n) hke25 l1 l2 l3 l4 l5
def R_message (l1 : Int32) (l2 : Int32) (l3 : Int32) (l4 : Int32) : RS → Option (Int32 × RS) :=
  R_message_L3 (fun l1 l2 l3 l4 => R_message_J25 l1 l2 l3 l4) fu l1 l2 l3 l4 (0 : Int32)
set_option maxRecDepth 10000 in
theorem m_message {w : Wd} (hw : Wok w) (l1 : Int32) (l2 : Int32) (l3 : Int32) (l4 : Int32) : MR w yX12_message cX12_message 8 (some .int) 1 24 voI [.ref w.2.2.2.2.2, .int l1, .int l2, .int l3, .int l4] (R_message l1 l2 l3 l4) := by
  refine MR.of hw rfl (Nat.le_of_ble_eq_true rfl) (fun g hg B => ?_)
  subst hg
  unfold R_message
  show Sm g 8 0 [(0, .ref g.1.2.2.2.2.2), (1, .int l1), (2, .int l2), (3, .int l3), (4, .int l4)] [] _
  refine s_iconst (v := 0) B.1 dX12_message_0 (by decide) ?_
  refine s_istore (lv' := [(5, .int (0 : Int32)), (0, .ref g.1.2.2.2.2.2), (1, .int l1), (2, .int l2), (3, .int l3), (4, .int l4)]) B.1 dX12_message_1 (by decide) rfl ?_
  exact Sm.lvs [1, 2, 3, 4, 5, 0] rfl (sm_message_L3 B (fun l1 l2 l3 l4 => sm_message_J25 B l1 l2 l3 l4) fu l1 l2 l3 l4 (0 : Int32))
