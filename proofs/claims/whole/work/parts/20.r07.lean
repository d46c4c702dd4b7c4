def R_subscribe_J418 : RS → Option (Unit × RS) :=
  rt ()
set_option maxRecDepth 10000 in
theorem sm_subscribe_J418 {g : Gm RS Unit} (B : Br g cX12_subscribe 6 voV none 7 155) : Sm g 6 418 [] [] (R_subscribe_J418) := by
  unfold R_subscribe_J418
  exact s_vret B.1 B.2.1 dX12_subscribe_418
def R_subscribe_B398 (kb : Int32 → Int32 → Int32 → RS → Option (Unit × RS)) (ke418 : RS → Option (Unit × RS)) (l1 : Int32) (l4 : Int32) (l5 : Int32) : RS → Option (Unit × RS) :=
  if l4 ≤ l5 then (
    ke418
  ) else (
    bd (R_show l1 l5) fun r1 =>
    kb l1 l4 (l5 + 1)
  )
def R_subscribe_L398 (ke418 : RS → Option (Unit × RS)) : Nat → Int32 → Int32 → Int32 → RS → Option (Unit × RS)
  | 0, _, _, _ => no
  | n + 1, l1, l4, l5 => R_subscribe_B398 (fun l1 l4 l5 => R_subscribe_L398 ke418 n l1 l4 l5) ke418 l1 l4 l5
set_option maxRecDepth 10000 in
theorem sm_subscribe_B398 {g : Gm RS Unit} {kb : Int32 → Int32 → Int32 → RS → Option (Unit × RS)} {ke418 : RS → Option (Unit × RS)} (B : Br g cX12_subscribe 6 voV none 7 155) (hkb : ∀ (l1 : Int32) (l4 : Int32) (l5 : Int32), Sm g 6 398 [(0, .ref g.1.2.2.2.2.2), (1, .int l1), (4, .int l4), (5, .int l5)] [] (kb l1 l4 l5)) (hke418 : Sm g 6 418 [] [] (ke418)) (l1 : Int32) (l4 : Int32) (l5 : Int32) : Sm g 6 398 [(0, .ref g.1.2.2.2.2.2), (1, .int l1), (4, .int l4), (5, .int l5)] [] (R_subscribe_B398 kb ke418 l1 l4 l5) := by
  unfold R_subscribe_B398
  refine s_iload B.1 3 dX12_subscribe_398 rfl ?_
  refine s_iload B.1 2 dX12_subscribe_400 rfl ?_
  refine s_icmp_ge B.1 418 dX12_subscribe_402 (by decide) ?_ ?_
  · exact Sm.lvs [] rfl (hke418)
  · refine s_aload_n B.1 0 dX12_subscribe_405 rfl rfl ?_
    refine s_iload_n B.1 1 dX12_subscribe_406 rfl rfl ?_
    refine s_iload B.1 3 dX12_subscribe_407 rfl ?_
    refine rr_cvv (As := [.int l1, .int l5]) (st := []) B (m_show B.ok l1 l5) mc_show ml_show mi_show me_show ini12 md_show (by decide) rfl (Nat.le_of_ble_eq_true rfl) dX12_subscribe_409 (fun r1 => ?_)
    refine s_iinc (v := l5 + 1) (lv' := [(5, .int (l5 + 1)), (0, .ref g.1.2.2.2.2.2), (1, .int l1), (4, .int l4)]) B.1 3 dX12_subscribe_412 rfl rfl (by decide) rfl ?_
    refine s_goto B.1 398 dX12_subscribe_415 (by decide) ?_
    exact Sm.lvs [1, 2, 3, 0] rfl (hkb l1 l4 (l5 + 1))
set_option maxRecDepth 10000 in
theorem sm_subscribe_L398 {g : Gm RS Unit} {ke418 : RS → Option (Unit × RS)} (B : Br g cX12_subscribe 6 voV none 7 155) (hke418 : Sm g 6 418 [] [] (ke418)) : ∀ (n : Nat) (l1 : Int32) (l4 : Int32) (l5 : Int32), Sm g 6 398 [(0, .ref g.1.2.2.2.2.2), (1, .int l1), (4, .int l4), (5, .int l5)] [] (R_subscribe_L398 ke418 n l1 l4 l5)
  | 0, _, _, _ => Sm.fail
  | n + 1, l1, l4, l5 => sm_subscribe_B398 B (sm_subscribe_L398 B hke418 n) hke418 l1 l4 l5
def R_subscribe_J384 (l1 : Int32) (l4 : Int32) : RS → Option (Unit × RS) :=
  rI 75 fun v2 =>
  bd (R_sendBody v2 (144 : Int32)) fun r3 =>
  R_subscribe_L398 (R_subscribe_J418) fu l1 l4 (0 : Int32)
set_option maxRecDepth 10000 in
theorem sm_subscribe_J384 {g : Gm RS Unit} (B : Br g cX12_subscribe 6 voV none 7 155) (l1 : Int32) (l4 : Int32) : Sm g 6 384 [(0, .ref g.1.2.2.2.2.2), (1, .int l1), (4, .int l4)] [] (R_subscribe_J384 l1 l4) := by
  unfold R_subscribe_J384
  refine s_aload_n B.1 0 dX12_subscribe_384 rfl rfl ?_
  refine s_aload_n B.1 0 dX12_subscribe_385 rfl rfl ?_
  refine rr_getI B 75 mh_75 mk_75 mf_75 dX12_subscribe_386 (fun v2 => ?_)
  refine s_sipush (v := (144)) B.1 dX12_subscribe_389 (by decide) ?_
  refine rr_cvv (As := [.int v2, .int (144 : Int32)]) (st := []) B (m_sendBody B.ok v2 (144 : Int32)) mc_sendBody ml_sendBody mi_sendBody me_sendBody ini12 md_sendBody (by decide) rfl (Nat.le_of_ble_eq_true rfl) dX12_subscribe_392 (fun r3 => ?_)
  refine s_iconst (v := 0) B.1 dX12_subscribe_395 (by decide) ?_
  refine s_istore (lv' := [(5, .int (0 : Int32)), (0, .ref g.1.2.2.2.2.2), (1, .int l1), (4, .int l4)]) B.1 dX12_subscribe_396 (by decide) rfl ?_
  exact Sm.lvs [1, 2, 3, 0] rfl (sm_subscribe_L398 B (sm_subscribe_J418 B) fu l1 l4 (0 : Int32))
def R_subscribe_B360 (kb : Int32 → Int32 → Int32 → RS → Option (Unit × RS)) (ke384 : Int32 → Int32 → RS → Option (Unit × RS)) (l1 : Int32) (l4 : Int32) (l5 : Int32) : RS → Option (Unit × RS) :=
  if l4 ≤ l5 then (
    ke384 l1 l4
  ) else (
    rA 92 l5 fun v4 =>
    bd (R_byteOf v4) fun r5 =>
    kb l1 l4 (l5 + 1)
  )
def R_subscribe_L360 (ke384 : Int32 → Int32 → RS → Option (Unit × RS)) : Nat → Int32 → Int32 → Int32 → RS → Option (Unit × RS)
  | 0, _, _, _ => no
  | n + 1, l1, l4, l5 => R_subscribe_B360 (fun l1 l4 l5 => R_subscribe_L360 ke384 n l1 l4 l5) ke384 l1 l4 l5
set_option maxRecDepth 10000 in
theorem sm_subscribe_B360 {g : Gm RS Unit} {kb : Int32 → Int32 → Int32 → RS → Option (Unit × RS)} {ke384 : Int32 → Int32 → RS → Option (Unit × RS)} (B : Br g cX12_subscribe 6 voV none 7 155) (hkb : ∀ (l1 : Int32) (l4 : Int32) (l5 : Int32), Sm g 6 360 [(0, .ref g.1.2.2.2.2.2), (1, .int l1), (4, .int l4), (5, .int l5)] [] (kb l1 l4 l5)) (hke384 : ∀ (l1 : Int32) (l4 : Int32), Sm g 6 384 [(0, .ref g.1.2.2.2.2.2), (1, .int l1), (4, .int l4)] [] (ke384 l1 l4)) (l1 : Int32) (l4 : Int32) (l5 : Int32) : Sm g 6 360 [(0, .ref g.1.2.2.2.2.2), (1, .int l1), (4, .int l4), (5, .int l5)] [] (R_subscribe_B360 kb ke384 l1 l4 l5) := by
  unfold R_subscribe_B360
  refine s_iload B.1 3 dX12_subscribe_360 rfl ?_
  refine s_iload B.1 2 dX12_subscribe_362 rfl ?_
  refine s_icmp_ge B.1 384 dX12_subscribe_364 (by decide) ?_ ?_
  · exact Sm.lvs [0, 1, 2] rfl (hke384 l1 l4)
  · refine s_aload_n B.1 0 dX12_subscribe_367 rfl rfl ?_
    refine s_aload_n B.1 0 dX12_subscribe_368 rfl rfl ?_
    refine rr_getA B 92 mh_92 mn_92 mf_92 dX12_subscribe_369 ?_
    refine s_iload B.1 3 dX12_subscribe_372 rfl ?_
    refine rr_iald B 92 mh_92 mk_92 dX12_subscribe_374 (fun v4 => ?_)
    refine rr_cvv (As := [.int v4]) (st := []) B (m_byteOf B.ok v4) mc_byteOf ml_byteOf mi_byteOf me_byteOf ini12 md_byteOf (by decide) rfl (Nat.le_of_ble_eq_true rfl) dX12_subscribe_375 (fun r5 => ?_)
    refine s_iinc (v := l5 + 1) (lv' := [(5, .int (l5 + 1)), (0, .ref g.1.2.2.2.2.2), (1, .int l1), (4, .int l4)]) B.1 3 dX12_subscribe_378 rfl rfl (by decide) rfl ?_
    refine s_goto B.1 360 dX12_subscribe_381 (by decide) ?_
    exact Sm.lvs [1, 2, 3, 0] rfl (hkb l1 l4 (l5 + 1))
set_option maxRecDepth 10000 in
theorem sm_subscribe_L360 {g : Gm RS Unit} {ke384 : Int32 → Int32 → RS → Option (Unit × RS)} (B : Br g cX12_subscribe 6 voV none 7 155) (hke384 : ∀ (l1 : Int32) (l4 : Int32), Sm g 6 384 [(0, .ref g.1.2.2.2.2.2), (1, .int l1), (4, .int l4)] [] (ke384 l1 l4)) : ∀ (n : Nat) (l1 : Int32) (l4 : Int32) (l5 : Int32), Sm g 6 360 [(0, .ref g.1.2.2.2.2.2), (1, .int l1), (4, .int l4), (5, .int l5)] [] (R_subscribe_L360 ke384 n l1 l4 l5)
  | 0, _, _, _ => Sm.fail
  | n + 1, l1, l4, l5 => sm_subscribe_B360 B (sm_subscribe_L360 B hke384 n) hke384 l1 l4 l5
def R_subscribe_J334 (l1 : Int32) (l2 : Int32) (l4 : Int32) : RS → Option (Unit × RS) :=
  wI 91 ((0 : Int32)) <|
  bd (R_byteOf (l2 >>> ((8 : Int32) &&& 31))) fun r6 =>
  bd (R_byteOf l2) fun r7 =>
  bd (R_byteOf (0 : Int32)) fun r8 =>
  R_subscribe_L360 (fun l1 l4 => R_subscribe_J384 l1 l4) fu l1 l4 (0 : Int32)
set_option maxRecDepth 10000 in
theorem sm_subscribe_J334 {g : Gm RS Unit} (B : Br g cX12_subscribe 6 voV none 7 155) (l1 : Int32) (l2 : Int32) (l4 : Int32) : Sm g 6 334 [(0, .ref g.1.2.2.2.2.2), (1, .int l1), (2, .int l2), (4, .int l4)] [] (R_subscribe_J334 l1 l2 l4) := by
  unfold R_subscribe_J334
  refine s_aload_n B.1 0 dX12_subscribe_334 rfl rfl ?_
  refine s_iconst (v := 0) B.1 dX12_subscribe_335 (by decide) ?_
  refine rr_putI B 91 mh_91 mk_91 mf_91 dX12_subscribe_336 ?_
  refine s_aload_n B.1 0 dX12_subscribe_339 rfl rfl ?_
  refine s_iload_n B.1 2 dX12_subscribe_340 rfl rfl ?_
  refine s_bipush (v := (8)) B.1 dX12_subscribe_341 (by decide) ?_
  refine s_ishr B.1 dX12_subscribe_343 ?_
  refine rr_cvv (As := [.int (l2 >>> ((8 : Int32) &&& 31))]) (st := []) B (m_byteOf B.ok (l2 >>> ((8 : Int32) &&& 31))) mc_byteOf ml_byteOf mi_byteOf me_byteOf ini12 md_byteOf (by decide) rfl (Nat.le_of_ble_eq_true rfl) dX12_subscribe_344 (fun r6 => ?_)
  refine s_aload_n B.1 0 dX12_subscribe_347 rfl rfl ?_
  refine s_iload_n B.1 2 dX12_subscribe_348 rfl rfl ?_
  refine rr_cvv (As := [.int l2]) (st := []) B (m_byteOf B.ok l2) mc_byteOf ml_byteOf mi_byteOf me_byteOf ini12 md_byteOf (by decide) rfl (Nat.le_of_ble_eq_true rfl) dX12_subscribe_349 (fun r7 => ?_)
  refine s_aload_n B.1 0 dX12_subscribe_352 rfl rfl ?_
  refine s_iconst (v := 0) B.1 dX12_subscribe_353 (by decide) ?_
  refine rr_cvv (As := [.int (0 : Int32)]) (st := []) B (m_byteOf B.ok (0 : Int32)) mc_byteOf ml_byteOf mi_byteOf me_byteOf ini12 md_byteOf (by decide) rfl (Nat.le_of_ble_eq_true rfl) dX12_subscribe_354 (fun r8 => ?_)
  refine s_iconst (v := 0) B.1 dX12_subscribe_357 (by decide) ?_
  refine s_istore (lv' := [(5, .int (0 : Int32)), (0, .ref g.1.2.2.2.2.2), (1, .int l1), (2, .int l2), (4, .int l4)]) B.1 dX12_subscribe_358 (by decide) rfl ?_
  exact Sm.lvs [1, 2, 4, 0] rfl (sm_subscribe_L360 B (fun l1 l4 => sm_subscribe_J384 B l1 l4) fu l1 l4 (0 : Int32))
def R_subscribe_B306 (kb : Int32 → Int32 → Int32 → Int32 → Int32 → RS → Option (Unit × RS)) (ke334 : Int32 → Int32 → Int32 → RS → Option (Unit × RS)) (l1 : Int32) (l2 : Int32) (l3 : Int32) (l4 : Int32) (l5 : Int32) : RS → Option (Unit × RS) :=
  if l4 ≤ l5 then (
    ke334 l1 l2 l4
  ) else (
    bd (R_subscribeOne l1 l5 l3) fun r9 =>
    wA 92 l5 r9 <|
    kb l1 l2 l3 l4 (l5 + 1)
  )
def R_subscribe_L306 (ke334 : Int32 → Int32 → Int32 → RS → Option (Unit × RS)) : Nat → Int32 → Int32 → Int32 → Int32 → Int32 → RS → Option (Unit × RS)
  | 0, _, _, _, _, _ => no
  | n + 1, l1, l2, l3, l4, l5 => R_subscribe_B306 (fun l1 l2 l3 l4 l5 => R_subscribe_L306 ke334 n l1 l2 l3 l4 l5) ke334 l1 l2 l3 l4 l5
set_option maxRecDepth 10000 in
theorem sm_subscribe_B306 {g : Gm RS Unit} {kb : Int32 → Int32 → Int32 → Int32 → Int32 → RS → Option (Unit × RS)} {ke334 : Int32 → Int32 → Int32 → RS → Option (Unit × RS)} (B : Br g cX12_subscribe 6 voV none 7 155) (hkb : ∀ (l1 : Int32) (l2 : Int32) (l3 : Int32) (l4 : Int32) (l5 : Int32), Sm g 6 306 [(0, .ref g.1.2.2.2.2.2), (1, .int l1), (2, .int l2), (3, .int l3), (4, .int l4), (5, .int l5)] [] (kb l1 l2 l3 l4 l5)) (hke334 : ∀ (l1 : Int32) (l2 : Int32) (l4 : Int32), Sm g 6 334 [(0, .ref g.1.2.2.2.2.2), (1, .int l1), (2, .int l2), (4, .int l4)] [] (ke334 l1 l2 l4)) (l1 : Int32) (l2 : Int32) (l3 : Int32) (l4 : Int32) (l5 : Int32) : Sm g 6 306 [(0, .ref g.1.2.2.2.2.2), (1, .int l1), (2, .int l2), (3, .int l3), (4, .int l4), (5, .int l5)] [] (R_subscribe_B306 kb ke334 l1 l2 l3 l4 l5) := by
  unfold R_subscribe_B306
  refine s_iload B.1 5 dX12_subscribe_306 rfl ?_
  refine s_iload B.1 4 dX12_subscribe_308 rfl ?_
  refine s_icmp_ge B.1 334 dX12_subscribe_310 (by decide) ?_ ?_
  · exact Sm.lvs [0, 1, 2, 4] rfl (hke334 l1 l2 l4)
  · refine s_aload_n B.1 0 dX12_subscribe_313 rfl rfl ?_
    refine rr_getA B 92 mh_92 mn_92 mf_92 dX12_subscribe_314 ?_
    refine s_iload B.1 5 dX12_subscribe_317 rfl ?_
    refine s_aload_n B.1 0 dX12_subscribe_319 rfl rfl ?_
    refine s_iload_n B.1 1 dX12_subscribe_320 rfl rfl ?_
    refine s_iload B.1 5 dX12_subscribe_321 rfl ?_
    refine s_iload_n B.1 3 dX12_subscribe_323 rfl rfl ?_
    refine rr_cvi (As := [.int l1, .int l5, .int l3]) (st := [.int l5, .ref (g.1.2.2.2.2.2 + mO 92)]) B (m_subscribeOne B.ok l1 l5 l3) mc_subscribeOne ml_subscribeOne mi_subscribeOne me_subscribeOne ini12 md_subscribeOne (by decide) rfl (Nat.le_of_ble_eq_true rfl) dX12_subscribe_324 (fun r9 => ?_)
    refine rr_iast B 92 mh_92 mk_92 dX12_subscribe_327 ?_
    refine s_iinc (v := l5 + 1) (lv' := [(5, .int (l5 + 1)), (0, .ref g.1.2.2.2.2.2), (1, .int l1), (2, .int l2), (3, .int l3), (4, .int l4)]) B.1 5 dX12_subscribe_328 rfl rfl (by decide) rfl ?_
    refine s_goto B.1 306 dX12_subscribe_331 (by decide) ?_
    exact Sm.lvs [1, 2, 3, 4, 5, 0] rfl (hkb l1 l2 l3 l4 (l5 + 1))
set_option maxRecDepth 10000 in
theorem sm_subscribe_L306 {g : Gm RS Unit} {ke334 : Int32 → Int32 → Int32 → RS → Option (Unit × RS)} (B : Br g cX12_subscribe 6 voV none 7 155) (hke334 : ∀ (l1 : Int32) (l2 : Int32) (l4 : Int32), Sm g 6 334 [(0, .ref g.1.2.2.2.2.2), (1, .int l1), (2, .int l2), (4, .int l4)] [] (ke334 l1 l2 l4)) : ∀ (n : Nat) (l1 : Int32) (l2 : Int32) (l3 : Int32) (l4 : Int32) (l5 : Int32), Sm g 6 306 [(0, .ref g.1.2.2.2.2.2), (1, .int l1), (2, .int l2), (3, .int l3), (4, .int l4), (5, .int l5)] [] (R_subscribe_L306 ke334 n l1 l2 l3 l4 l5)
  | 0, _, _, _, _, _ => Sm.fail
  | n + 1, l1, l2, l3, l4, l5 => sm_subscribe_B306 B (sm_subscribe_L306 B hke334 n) hke334 l1 l2 l3 l4 l5
def R_subscribe_J295 (l1 : Int32) (l2 : Int32) (l3 : Int32) (l4 : Int32) : RS → Option (Unit × RS) :=
  rI 79 fun v10 =>
  if v10 = 0 then (
    R_subscribe_L306 (fun l1 l2 l4 => R_subscribe_J334 l1 l2 l4) fu l1 l2 l3 l4 (0 : Int32)
  ) else (
    rt ()
  )
set_option maxRecDepth 10000 in
theorem sm_subscribe_J295 {g : Gm RS Unit} (B : Br g cX12_subscribe 6 voV none 7 155) (l1 : Int32) (l2 : Int32) (l3 : Int32) (l4 : Int32) : Sm g 6 295 [(0, .ref g.1.2.2.2.2.2), (1, .int l1), (2, .int l2), (3, .int l3), (4, .int l4)] [] (R_subscribe_J295 l1 l2 l3 l4) := by
  unfold R_subscribe_J295
  refine s_aload_n B.1 0 dX12_subscribe_295 rfl rfl ?_
  refine rr_getI B 79 mh_79 mk_79 mf_79 dX12_subscribe_296 (fun v10 => ?_)
  refine s_if_eq B.1 303 dX12_subscribe_299 (by decide) ?_ ?_
  · refine s_iconst (v := 0) B.1 dX12_subscribe_303 (by decide) ?_
    refine s_istore (lv' := [(5, .int (0 : Int32)), (0, .ref g.1.2.2.2.2.2), (1, .int l1), (2, .int l2), (3, .int l3), (4, .int l4)]) B.1 dX12_subscribe_304 (by decide) rfl ?_
    exact Sm.lvs [1, 2, 3, 4, 5, 0] rfl (sm_subscribe_L306 B (fun l1 l2 l4 => sm_subscribe_J334 B l1 l2 l4) fu l1 l2 l3 l4 (0 : Int32))
  · exact s_vret B.1 B.2.1 dX12_subscribe_302
def R_subscribe_J251 (kb : Int32 → Int32 → Int32 → Int32 → RS → Option (Unit × RS)) (ke295 : Int32 → Int32 → Int32 → Int32 → RS → Option (Unit × RS)) (l1 : Int32) (l2 : Int32) (l3 : Int32) (l4 : Int32) (l5 : Int32) : RS → Option (Unit × RS) :=
  rI 79 fun v11 =>
  if v11 = 0 then (
    rI 80 fun v12 =>
    wA 93 l4 v12 <|
    rI 81 fun v13 =>
    wA 94 l4 v13 <|
    wA 95 l4 l5 <|
    kb l1 l2 l3 (l4 + 1)
  ) else (
    kb l1 l2 l3 l4
  )
set_option maxRecDepth 10000 in
theorem sm_subscribe_J251 {g : Gm RS Unit} {kb : Int32 → Int32 → Int32 → Int32 → RS → Option (Unit × RS)} {ke295 : Int32 → Int32 → Int32 → Int32 → RS → Option (Unit × RS)} (B : Br g cX12_subscribe 6 voV none 7 155) (hkb : ∀ (l1 : Int32) (l2 : Int32) (l3 : Int32) (l4 : Int32), Sm g 6 143 [(0, .ref g.1.2.2.2.2.2), (1, .int l1), (2, .int l2), (3, .int l3), (4, .int l4)] [] (kb l1 l2 l3 l4)) (hke295 : ∀ (l1 : Int32) (l2 : Int32) (l3 : Int32) (l4 : Int32), Sm g 6 295 [(0, .ref g.1.2.2.2.2.2), (1, .int l1), (2, .int l2), (3, .int l3), (4, .int l4)] [] (ke295 l1 l2 l3 l4)) (l1 : Int32) (l2 : Int32) (l3 : Int32) (l4 : Int32) (l5 : Int32) : Sm g 6 251 [(0, .ref g.1.2.2.2.2.2), (1, .int l1), (2, .int l2), (3, .int l3), (4, .int l4), (5, .int l5)] [] (R_subscribe_J251 kb ke295 l1 l2 l3 l4 l5) := by
  unfold R_subscribe_J251
  refine s_aload_n B.1 0 dX12_subscribe_251 rfl rfl ?_
  refine rr_getI B 79 mh_79 mk_79 mf_79 dX12_subscribe_252 (fun v11 => ?_)
  refine s_if_ne B.1 292 dX12_subscribe_255 (by decide) ?_ ?_
  · refine s_goto B.1 143 dX12_subscribe_292 (by decide) ?_
    exact Sm.lvs [0, 1, 2, 3, 4] rfl (hkb l1 l2 l3 l4)
  · refine s_aload_n B.1 0 dX12_subscribe_258 rfl rfl ?_
    refine rr_getA B 93 mh_93 mn_93 mf_93 dX12_subscribe_259 ?_
    refine s_iload B.1 4 dX12_subscribe_262 rfl ?_
    refine s_aload_n B.1 0 dX12_subscribe_264 rfl rfl ?_
    refine rr_getI B 80 mh_80 mk_80 mf_80 dX12_subscribe_265 (fun v12 => ?_)
    refine rr_iast B 93 mh_93 mk_93 dX12_subscribe_268 ?_
    refine s_aload_n B.1 0 dX12_subscribe_269 rfl rfl ?_
    refine rr_getA B 94 mh_94 mn_94 mf_94 dX12_subscribe_270 ?_
    refine s_iload B.1 4 dX12_subscribe_273 rfl ?_
    refine s_aload_n B.1 0 dX12_subscribe_275 rfl rfl ?_
    refine rr_getI B 81 mh_81 mk_81 mf_81 dX12_subscribe_276 (fun v13 => ?_)
    refine rr_iast B 94 mh_94 mk_94 dX12_subscribe_279 ?_
    refine s_aload_n B.1 0 dX12_subscribe_280 rfl rfl ?_
    refine rr_getA B 95 mh_95 mn_95 mf_95 dX12_subscribe_281 ?_
    refine s_iload B.1 4 dX12_subscribe_284 rfl ?_
    refine s_iload B.1 5 dX12_subscribe_286 rfl ?_
    refine rr_iast B 95 mh_95 mk_95 dX12_subscribe_288 ?_
    refine s_iinc (v := l4 + 1) (lv' := [(4, .int (l4 + 1)), (0, .ref g.1.2.2.2.2.2), (1, .int l1), (2, .int l2), (3, .int l3), (5, .int l5)]) B.1 4 dX12_subscribe_289 rfl rfl (by decide) rfl ?_
    refine s_goto B.1 143 dX12_subscribe_292 (by decide) ?_
    exact Sm.lvs [1, 2, 3, 4, 0] rfl (hkb l1 l2 l3 (l4 + 1))
def R_subscribe_J244 (kb : Int32 → Int32 → Int32 → Int32 → RS → Option (Unit × RS)) (ke295 : Int32 → Int32 → Int32 → Int32 → RS → Option (Unit × RS)) (l1 : Int32) (l2 : Int32) (l3 : Int32) (l4 : Int32) (l5 : Int32) : RS → Option (Unit × RS) :=
  bd (R_fails (130 : Int32)) fun r14 =>
  R_subscribe_J251 kb ke295 l1 l2 l3 l4 l5
set_option maxRecDepth 10000 in
theorem sm_subscribe_J244 {g : Gm RS Unit} {kb : Int32 → Int32 → Int32 → Int32 → RS → Option (Unit × RS)} {ke295 : Int32 → Int32 → Int32 → Int32 → RS → Option (Unit × RS)} (B : Br g cX12_subscribe 6 voV none 7 155) (hkb : ∀ (l1 : Int32) (l2 : Int32) (l3 : Int32) (l4 : Int32), Sm g 6 143 [(0, .ref g.1.2.2.2.2.2), (1, .int l1), (2, .int l2), (3, .int l3), (4, .int l4)] [] (kb l1 l2 l3 l4)) (hke295 : ∀ (l1 : Int32) (l2 : Int32) (l3 : Int32) (l4 : Int32), Sm g 6 295 [(0, .ref g.1.2.2.2.2.2), (1, .int l1), (2, .int l2), (3, .int l3), (4, .int l4)] [] (ke295 l1 l2 l3 l4)) (l1 : Int32) (l2 : Int32) (l3 : Int32) (l4 : Int32) (l5 : Int32) : Sm g 6 244 [(0, .ref g.1.2.2.2.2.2), (1, .int l1), (2, .int l2), (3, .int l3), (4, .int l4), (5, .int l5)] [] (R_subscribe_J244 kb ke295 l1 l2 l3 l4 l5) := by
  unfold R_subscribe_J244
  refine s_aload_n B.1 0 dX12_subscribe_244 rfl rfl ?_
  refine s_sipush (v := (130)) B.1 dX12_subscribe_245 (by decide) ?_
  refine rr_cvv (As := [.int (130 : Int32)]) (st := []) B (m_fails B.ok (130 : Int32)) mc_fails ml_fails mi_fails me_fails ini12 md_fails (by decide) rfl (Nat.le_of_ble_eq_true rfl) dX12_subscribe_248 (fun r14 => ?_)
  exact Sm.lvs [0, 1, 2, 3, 4, 5] rfl (sm_subscribe_J251 B hkb hke295 l1 l2 l3 l4 l5)
def R_subscribe_J194 (kb : Int32 → Int32 → Int32 → Int32 → RS → Option (Unit × RS)) (ke295 : Int32 → Int32 → Int32 → Int32 → RS → Option (Unit × RS)) (l1 : Int32) (l2 : Int32) (l3 : Int32) (l4 : Int32) (l5 : Int32) : RS → Option (Unit × RS) :=
  rI 79 fun v15 =>
  if v15 = 0 then (
    if (l5 &&& (3 : Int32)) = (3 : Int32) then (
      R_subscribe_J244 kb ke295 l1 l2 l3 l4 l5
    ) else (
      if ((l5 >>> ((4 : Int32) &&& 31)) &&& (3 : Int32)) = (3 : Int32) then (
        R_subscribe_J244 kb ke295 l1 l2 l3 l4 l5
      ) else (
        if (l5 &&& (4 : Int32)) = 0 then (
          R_subscribe_J251 kb ke295 l1 l2 l3 l4 l5
        ) else (
          rI 80 fun v16 =>
          rI 81 fun v17 =>
          bd (R_isShare 6 v16 v17) fun r18 =>
          if r18 = 0 then (
            R_subscribe_J251 kb ke295 l1 l2 l3 l4 l5
          ) else (
            R_subscribe_J244 kb ke295 l1 l2 l3 l4 l5
          )
        )
      )
    )
  ) else (
    R_subscribe_J251 kb ke295 l1 l2 l3 l4 l5
  )
set_option maxRecDepth 10000 in
theorem sm_subscribe_J194 {g : Gm RS Unit} {kb : Int32 → Int32 → Int32 → Int32 → RS → Option (Unit × RS)} {ke295 : Int32 → Int32 → Int32 → Int32 → RS → Option (Unit × RS)} (B : Br g cX12_subscribe 6 voV none 7 155) (hkb : ∀ (l1 : Int32) (l2 : Int32) (l3 : Int32) (l4 : Int32), Sm g 6 143 [(0, .ref g.1.2.2.2.2.2), (1, .int l1), (2, .int l2), (3, .int l3), (4, .int l4)] [] (kb l1 l2 l3 l4)) (hke295 : ∀ (l1 : Int32) (l2 : Int32) (l3 : Int32) (l4 : Int32), Sm g 6 295 [(0, .ref g.1.2.2.2.2.2), (1, .int l1), (2, .int l2), (3, .int l3), (4, .int l4)] [] (ke295 l1 l2 l3 l4)) (l1 : Int32) (l2 : Int32) (l3 : Int32) (l4 : Int32) (l5 : Int32) : Sm g 6 194 [(0, .ref g.1.2.2.2.2.2), (1, .int l1), (2, .int l2), (3, .int l3), (4, .int l4), (5, .int l5)] [] (R_subscribe_J194 kb ke295 l1 l2 l3 l4 l5) := by
  unfold R_subscribe_J194
  refine s_aload_n B.1 0 dX12_subscribe_194 rfl rfl ?_
  refine rr_getI B 79 mh_79 mk_79 mf_79 dX12_subscribe_195 (fun v15 => ?_)
  refine s_if_ne B.1 251 dX12_subscribe_198 (by decide) ?_ ?_
  · exact Sm.lvs [0, 1, 2, 3, 4, 5] rfl (sm_subscribe_J251 B hkb hke295 l1 l2 l3 l4 l5)
  · refine s_iload B.1 5 dX12_subscribe_201 rfl ?_
    refine s_iconst (v := 3) B.1 dX12_subscribe_203 (by decide) ?_
    refine s_iand B.1 dX12_subscribe_204 ?_
    refine s_iconst (v := 3) B.1 dX12_subscribe_205 (by decide) ?_
    refine s_icmp_eq B.1 244 dX12_subscribe_206 (by decide) ?_ ?_
    · exact Sm.lvs [0, 1, 2, 3, 4, 5] rfl (sm_subscribe_J244 B hkb hke295 l1 l2 l3 l4 l5)
    · refine s_iload B.1 5 dX12_subscribe_209 rfl ?_
      refine s_iconst (v := 4) B.1 dX12_subscribe_211 (by decide) ?_
      refine s_ishr B.1 dX12_subscribe_212 ?_
      refine s_iconst (v := 3) B.1 dX12_subscribe_213 (by decide) ?_
      refine s_iand B.1 dX12_subscribe_214 ?_
      refine s_iconst (v := 3) B.1 dX12_subscribe_215 (by decide) ?_
      refine s_icmp_eq B.1 244 dX12_subscribe_216 (by decide) ?_ ?_
      · exact Sm.lvs [0, 1, 2, 3, 4, 5] rfl (sm_subscribe_J244 B hkb hke295 l1 l2 l3 l4 l5)
      · refine s_iload B.1 5 dX12_subscribe_219 rfl ?_
        refine s_iconst (v := 4) B.1 dX12_subscribe_221 (by decide) ?_
        refine s_iand B.1 dX12_subscribe_222 ?_
        refine s_if_eq B.1 251 dX12_subscribe_223 (by decide) ?_ ?_
        · exact Sm.lvs [0, 1, 2, 3, 4, 5] rfl (sm_subscribe_J251 B hkb hke295 l1 l2 l3 l4 l5)
        · refine s_aload_n B.1 0 dX12_subscribe_226 rfl rfl ?_
          refine rr_getA B 6 mh_6 mn_6 mf_6 dX12_subscribe_227 ?_
          refine s_aload_n B.1 0 dX12_subscribe_230 rfl rfl ?_
          refine rr_getI B 80 mh_80 mk_80 mf_80 dX12_subscribe_231 (fun v16 => ?_)
          refine s_aload_n B.1 0 dX12_subscribe_234 rfl rfl ?_
          refine rr_getI B 81 mh_81 mk_81 mf_81 dX12_subscribe_235 (fun v17 => ?_)
          refine rr_csi (As := [.ref (g.1.2.2.2.2.2 + mO 6), .int v16, .int v17]) (st := []) B (m_isShare B.ok 6 v16 v17 mh_6 mk_6) mc_isShare ml_isShare ms_isShare ini12 md_isShare (by decide) rfl (Nat.le_of_ble_eq_true rfl) dX12_subscribe_238 (fun r18 => ?_)
          refine s_if_eq B.1 251 dX12_subscribe_241 (by decide) ?_ ?_
          · exact Sm.lvs [0, 1, 2, 3, 4, 5] rfl (sm_subscribe_J251 B hkb hke295 l1 l2 l3 l4 l5)
          · exact Sm.lvs [0, 1, 2, 3, 4, 5] rfl (sm_subscribe_J244 B hkb hke295 l1 l2 l3 l4 l5)
def R_subscribe_B143 (kb : Int32 → Int32 → Int32 → Int32 → RS → Option (Unit × RS)) (ke295 : Int32 → Int32 → Int32 → Int32 → RS → Option (Unit × RS)) (l1 : Int32) (l2 : Int32) (l3 : Int32) (l4 : Int32) : RS → Option (Unit × RS) :=
  rI 79 fun v19 =>
  if v19 = 0 then (
    rI 76 fun v20 =>
    rI 77 fun v21 =>
    if v21 ≤ v20 then (
      ke295 l1 l2 l3 l4
    ) else (
      bd (R_string) fun r22 =>
      bd (R_one) fun r23 =>
      rI 79 fun v24 =>
      if v24 = 0 then (
        if (r23 &&& (192 : Int32)) = 0 then (
          R_subscribe_J194 kb ke295 l1 l2 l3 l4 r23
        ) else (
          bd (R_fails (129 : Int32)) fun r25 =>
          R_subscribe_J194 kb ke295 l1 l2 l3 l4 r23
        )
      ) else (
        R_subscribe_J194 kb ke295 l1 l2 l3 l4 r23
      )
    )
  ) else (
    ke295 l1 l2 l3 l4
  )
def R_subscribe_L143 (ke295 : Int32 → Int32 → Int32 → Int32 → RS → Option (Unit × RS)) : Nat → Int32 → Int32 → Int32 → Int32 → RS → Option (Unit × RS)
  | 0, _, _, _, _ => no
  | n + 1, l1, l2, l3, l4 => R_subscribe_B143 (fun l1 l2 l3 l4 => R_subscribe_L143 ke295 n l1 l2 l3 l4) ke295 l1 l2 l3 l4
set_option maxRecDepth 10000 in
theorem sm_subscribe_B143 {g : Gm RS Unit} {kb : Int32 → Int32 → Int32 → Int32 → RS → Option (Unit × RS)} {ke295 : Int32 → Int32 → Int32 → Int32 → RS → Option (Unit × RS)} (B : Br g cX12_subscribe 6 voV none 7 155) (hkb : ∀ (l1 : Int32) (l2 : Int32) (l3 : Int32) (l4 : Int32), Sm g 6 143 [(0, .ref g.1.2.2.2.2.2), (1, .int l1), (2, .int l2), (3, .int l3), (4, .int l4)] [] (kb l1 l2 l3 l4)) (hke295 : ∀ (l1 : Int32) (l2 : Int32) (l3 : Int32) (l4 : Int32), Sm g 6 295 [(0, .ref g.1.2.2.2.2.2), (1, .int l1), (2, .int l2), (3, .int l3), (4, .int l4)] [] (ke295 l1 l2 l3 l4)) (l1 : Int32) (l2 : Int32) (l3 : Int32) (l4 : Int32) : Sm g 6 143 [(0, .ref g.1.2.2.2.2.2), (1, .int l1), (2, .int l2), (3, .int l3), (4, .int l4)] [] (R_subscribe_B143 kb ke295 l1 l2 l3 l4) := by
  unfold R_subscribe_B143
  refine s_aload_n B.1 0 dX12_subscribe_143 rfl rfl ?_
  refine rr_getI B 79 mh_79 mk_79 mf_79 dX12_subscribe_144 (fun v19 => ?_)
  refine s_if_ne B.1 295 dX12_subscribe_147 (by decide) ?_ ?_
  · exact Sm.lvs [0, 1, 2, 3, 4] rfl (hke295 l1 l2 l3 l4)
  · refine s_aload_n B.1 0 dX12_subscribe_150 rfl rfl ?_
    refine rr_getI B 76 mh_76 mk_76 mf_76 dX12_subscribe_151 (fun v20 => ?_)
    refine s_aload_n B.1 0 dX12_subscribe_154 rfl rfl ?_
    refine rr_getI B 77 mh_77 mk_77 mf_77 dX12_subscribe_155 (fun v21 => ?_)
    refine s_icmp_ge B.1 295 dX12_subscribe_158 (by decide) ?_ ?_
    · exact Sm.lvs [0, 1, 2, 3, 4] rfl (hke295 l1 l2 l3 l4)
    · refine s_aload_n B.1 0 dX12_subscribe_161 rfl rfl ?_
      refine rr_cvv (As := []) (st := []) B (m_string B.ok) mc_string ml_string mi_string me_string ini12 md_string (by decide) rfl (Nat.le_of_ble_eq_true rfl) dX12_subscribe_162 (fun r22 => ?_)
      refine s_aload_n B.1 0 dX12_subscribe_165 rfl rfl ?_
      refine rr_cvi (As := []) (st := []) B (m_one B.ok) mc_one ml_one mi_one me_one ini12 md_one (by decide) rfl (Nat.le_of_ble_eq_true rfl) dX12_subscribe_166 (fun r23 => ?_)
      refine s_istore (lv' := [(5, .int r23), (0, .ref g.1.2.2.2.2.2), (1, .int l1), (2, .int l2), (3, .int l3), (4, .int l4)]) B.1 dX12_subscribe_169 (by decide) rfl ?_
      refine s_aload_n B.1 1 dX12_subscribe_171 rfl rfl ?_
      refine rr_getI B 79 mh_79 mk_79 mf_79 dX12_subscribe_172 (fun v24 => ?_)
      refine s_if_ne B.1 194 dX12_subscribe_175 (by decide) ?_ ?_
      · exact Sm.lvs [1, 2, 3, 4, 5, 0] rfl (sm_subscribe_J194 B hkb hke295 l1 l2 l3 l4 r23)
      · refine s_iload B.1 0 dX12_subscribe_178 rfl ?_
        refine s_sipush (v := (192)) B.1 dX12_subscribe_180 (by decide) ?_
        refine s_iand B.1 dX12_subscribe_183 ?_
        refine s_if_eq B.1 194 dX12_subscribe_184 (by decide) ?_ ?_
        · exact Sm.lvs [1, 2, 3, 4, 5, 0] rfl (sm_subscribe_J194 B hkb hke295 l1 l2 l3 l4 r23)
        · refine s_aload_n B.1 1 dX12_subscribe_187 rfl rfl ?_
          refine s_sipush (v := (129)) B.1 dX12_subscribe_188 (by decide) ?_
          refine rr_cvv (As := [.int (129 : Int32)]) (st := []) B (m_fails B.ok (129 : Int32)) mc_fails ml_fails mi_fails me_fails ini12 md_fails (by decide) rfl (Nat.le_of_ble_eq_true rfl) dX12_subscribe_191 (fun r25 => ?_)
          exact Sm.lvs [1, 2, 3, 4, 5, 0] rfl (sm_subscribe_J194 B hkb hke295 l1 l2 l3 l4 r23)
set_option maxRecDepth 10000 in
theorem sm_subscribe_L143 {g : Gm RS Unit} {ke295 : Int32 → Int32 → Int32 → Int32 → RS → Option (Unit × RS)} (B : Br g cX12_subscribe 6 voV none 7 155) (hke295 : ∀ (l1 : Int32) (l2 : Int32) (l3 : Int32) (l4 : Int32), Sm g 6 295 [(0, .ref g.1.2.2.2.2.2), (1, .int l1), (2, .int l2), (3, .int l3), (4, .int l4)] [] (ke295 l1 l2 l3 l4)) : ∀ (n : Nat) (l1 : Int32) (l2 : Int32) (l3 : Int32) (l4 : Int32), Sm g 6 143 [(0, .ref g.1.2.2.2.2.2), (1, .int l1), (2, .int l2), (3, .int l3), (4, .int l4)] [] (R_subscribe_L143 ke295 n l1 l2 l3 l4)
  | 0, _, _, _, _ => Sm.fail
  | n + 1, l1, l2, l3, l4 => sm_subscribe_B143 B (sm_subscribe_L143 B hke295 n) hke295 l1 l2 l3 l4
def R_subscribe_J114 (l1 : Int32) (l2 : Int32) (s0 : Int32) : RS → Option (Unit × RS) :=
  rI 79 fun v26 =>
  if v26 = 0 then (
    rI 76 fun v27 =>
    rI 77 fun v28 =>
    if v27 = v28 then (
      bd (R_fails (130 : Int32)) fun r29 =>
      R_subscribe_L143 (fun l1 l2 l3 l4 => R_subscribe_J295 l1 l2 l3 l4) fu l1 l2 s0 (0 : Int32)
    ) else (
      R_subscribe_L143 (fun l1 l2 l3 l4 => R_subscribe_J295 l1 l2 l3 l4) fu l1 l2 s0 (0 : Int32)
    )
  ) else (
    R_subscribe_L143 (fun l1 l2 l3 l4 => R_subscribe_J295 l1 l2 l3 l4) fu l1 l2 s0 (0 : Int32)
  )
set_option maxRecDepth 10000 in
theorem sm_subscribe_J114 {g : Gm RS Unit} (B : Br g cX12_subscribe 6 voV none 7 155) (l1 : Int32) (l2 : Int32) (s0 : Int32) : Sm g 6 114 [(0, .ref g.1.2.2.2.2.2), (1, .int l1), (2, .int l2)] [.int s0] (R_subscribe_J114 l1 l2 s0) := by
  unfold R_subscribe_J114
  refine s_istore_n (lv' := [(3, .int s0), (0, .ref g.1.2.2.2.2.2), (1, .int l1), (2, .int l2)]) B.1 dX12_subscribe_114 rfl (by decide) rfl ?_
  refine s_iconst (v := 0) B.1 dX12_subscribe_115 (by decide) ?_
  refine s_istore (lv' := [(4, .int (0 : Int32)), (3, .int s0), (0, .ref g.1.2.2.2.2.2), (1, .int l1), (2, .int l2)]) B.1 dX12_subscribe_116 (by decide) rfl ?_
  refine s_aload_n B.1 2 dX12_subscribe_118 rfl rfl ?_
  refine rr_getI B 79 mh_79 mk_79 mf_79 dX12_subscribe_119 (fun v26 => ?_)
  refine s_if_ne B.1 143 dX12_subscribe_122 (by decide) ?_ ?_
  · exact Sm.lvs [2, 3, 4, 1, 0] rfl (sm_subscribe_L143 B (fun l1 l2 l3 l4 => sm_subscribe_J295 B l1 l2 l3 l4) fu l1 l2 s0 (0 : Int32))
  · refine s_aload_n B.1 2 dX12_subscribe_125 rfl rfl ?_
    refine rr_getI B 76 mh_76 mk_76 mf_76 dX12_subscribe_126 (fun v27 => ?_)
    refine s_aload_n B.1 2 dX12_subscribe_129 rfl rfl ?_
    refine rr_getI B 77 mh_77 mk_77 mf_77 dX12_subscribe_130 (fun v28 => ?_)
    refine s_icmp_ne B.1 143 dX12_subscribe_133 (by decide) ?_ ?_
    · exact Sm.lvs [2, 3, 4, 1, 0] rfl (sm_subscribe_L143 B (fun l1 l2 l3 l4 => sm_subscribe_J295 B l1 l2 l3 l4) fu l1 l2 s0 (0 : Int32))
    · refine s_aload_n B.1 2 dX12_subscribe_136 rfl rfl ?_
      refine s_sipush (v := (130)) B.1 dX12_subscribe_137 (by decide) ?_
      refine rr_cvv (As := [.int (130 : Int32)]) (st := []) B (m_fails B.ok (130 : Int32)) mc_fails ml_fails mi_fails me_fails ini12 md_fails (by decide) rfl (Nat.le_of_ble_eq_true rfl) dX12_subscribe_140 (fun r29 => ?_)
      exact Sm.lvs [2, 3, 4, 1, 0] rfl (sm_subscribe_L143 B (fun l1 l2 l3 l4 => sm_subscribe_J295 B l1 l2 l3 l4) fu l1 l2 s0 (0 : Int32))
def R_subscribe_J92 (l1 : Int32) (l2 : Int32) : RS → Option (Unit × RS) :=
  rA 82 (11 : Int32) fun v30 =>
  if v30 = 0 then (
    R_subscribe_J114 l1 l2 (0 : Int32)
  ) else (
    rL 83 (11 : Int32) fun v31 =>
    R_subscribe_J114 l1 l2 v31.toInt32
  )
set_option maxRecDepth 10000 in
theorem sm_subscribe_J92 {g : Gm RS Unit} (B : Br g cX12_subscribe 6 voV none 7 155) (l1 : Int32) (l2 : Int32) : Sm g 6 92 [(0, .ref g.1.2.2.2.2.2), (1, .int l1), (2, .int l2)] [] (R_subscribe_J92 l1 l2) := by
  unfold R_subscribe_J92
  refine s_aload_n B.1 0 dX12_subscribe_92 rfl rfl ?_
  refine rr_getA B 82 mh_82 mn_82 mf_82 dX12_subscribe_93 ?_
  refine s_bipush (v := (11)) B.1 dX12_subscribe_96 (by decide) ?_
  refine rr_zald B 82 mh_82 mk_82 dX12_subscribe_98 (fun v30 => ?_)
  refine s_if_eq B.1 113 dX12_subscribe_99 (by decide) ?_ ?_
  · refine s_iconst (v := 0) B.1 dX12_subscribe_113 (by decide) ?_
    exact Sm.lvs [0, 1, 2] rfl (sm_subscribe_J114 B l1 l2 (0 : Int32))
  · refine s_aload_n B.1 0 dX12_subscribe_102 rfl rfl ?_
    refine rr_getA B 83 mh_83 mn_83 mf_83 dX12_subscribe_103 ?_
    refine s_bipush (v := (11)) B.1 dX12_subscribe_106 (by decide) ?_
    refine rr_lald B 83 mh_83 mk_83 dX12_subscribe_108 (fun v31 => ?_)
    refine s_l2i B.1 dX12_subscribe_109 ?_
    refine s_goto B.1 114 dX12_subscribe_110 (by decide) ?_
    exact Sm.lvs [0, 1, 2] rfl (sm_subscribe_J114 B l1 l2 v31.toInt32)
def R_subscribe_J33 (l1 : Int32) (l2 : Int32) : RS → Option (Unit × RS) :=
  rI 79 fun v32 =>
  if v32 = 0 then (
    bd (R_bit (11 : Int32)) fun r33 =>
    bd (R_bit (38 : Int32)) fun r34 =>
    bd (R_properties (r33 ||| r34)) fun r35 =>
    rI 79 fun v36 =>
    if v36 = 0 then (
      rA 82 (11 : Int32) fun v37 =>
      if v37 = 0 then (
        R_subscribe_J92 l1 l2
      ) else (
        rL 83 (11 : Int32) fun v38 =>
        if (lg_cmp v38 (0 : Int64)) = 0 then (
          bd (R_fails (130 : Int32)) fun r39 =>
          R_subscribe_J92 l1 l2
        ) else (
          R_subscribe_J92 l1 l2
        )
      )
    ) else (
      R_subscribe_J92 l1 l2
    )
  ) else (
    rt ()
  )
set_option maxRecDepth 10000 in
theorem sm_subscribe_J33 {g : Gm RS Unit} (B : Br g cX12_subscribe 6 voV none 7 155) (l1 : Int32) (l2 : Int32) : Sm g 6 33 [(0, .ref g.1.2.2.2.2.2), (1, .int l1), (2, .int l2)] [] (R_subscribe_J33 l1 l2) := by
  unfold R_subscribe_J33
  refine s_aload_n B.1 0 dX12_subscribe_33 rfl rfl ?_
  refine rr_getI B 79 mh_79 mk_79 mf_79 dX12_subscribe_34 (fun v32 => ?_)
  refine s_if_eq B.1 41 dX12_subscribe_37 (by decide) ?_ ?_
  · refine s_aload_n B.1 0 dX12_subscribe_41 rfl rfl ?_
    refine s_bipush (v := (11)) B.1 dX12_subscribe_42 (by decide) ?_
    refine rr_csl (As := [.int (11 : Int32)]) (st := [.ref g.1.2.2.2.2.2]) B (m_bit B.ok (11 : Int32)) mc_bit ml_bit ms_bit ini12 md_bit (by decide) rfl (Nat.le_of_ble_eq_true rfl) dX12_subscribe_44 (fun r33 => ?_)
    refine s_bipush (v := (38)) B.1 dX12_subscribe_47 (by decide) ?_
    refine rr_csl (As := [.int (38 : Int32)]) (st := [.long r33, .ref g.1.2.2.2.2.2]) B (m_bit B.ok (38 : Int32)) mc_bit ml_bit ms_bit ini12 md_bit (by decide) rfl (Nat.le_of_ble_eq_true rfl) dX12_subscribe_49 (fun r34 => ?_)
    refine s_lor B.1 dX12_subscribe_52 ?_
    refine rr_cvv (As := [.long (r33 ||| r34)]) (st := []) B (m_properties B.ok (r33 ||| r34)) mc_properties ml_properties mi_properties me_properties ini12 md_properties (by decide) rfl (Nat.le_of_ble_eq_true rfl) dX12_subscribe_53 (fun r35 => ?_)
    refine s_aload_n B.1 0 dX12_subscribe_56 rfl rfl ?_
    refine rr_getI B 79 mh_79 mk_79 mf_79 dX12_subscribe_57 (fun v36 => ?_)
    refine s_if_ne B.1 92 dX12_subscribe_60 (by decide) ?_ ?_
    · exact Sm.lvs [0, 1, 2] rfl (sm_subscribe_J92 B l1 l2)
    · refine s_aload_n B.1 0 dX12_subscribe_63 rfl rfl ?_
      refine rr_getA B 82 mh_82 mn_82 mf_82 dX12_subscribe_64 ?_
      refine s_bipush (v := (11)) B.1 dX12_subscribe_67 (by decide) ?_
      refine rr_zald B 82 mh_82 mk_82 dX12_subscribe_69 (fun v37 => ?_)
      refine s_if_eq B.1 92 dX12_subscribe_70 (by decide) ?_ ?_
      · exact Sm.lvs [0, 1, 2] rfl (sm_subscribe_J92 B l1 l2)
      · refine s_aload_n B.1 0 dX12_subscribe_73 rfl rfl ?_
        refine rr_getA B 83 mh_83 mn_83 mf_83 dX12_subscribe_74 ?_
        refine s_bipush (v := (11)) B.1 dX12_subscribe_77 (by decide) ?_
        refine rr_lald B 83 mh_83 mk_83 dX12_subscribe_79 (fun v38 => ?_)
        refine s_lconst (v := 0) B.1 dX12_subscribe_80 (by decide) ?_
        refine s_lcmp B.1 dX12_subscribe_81 ?_
        refine s_if_ne B.1 92 dX12_subscribe_82 (by decide) ?_ ?_
        · exact Sm.lvs [0, 1, 2] rfl (sm_subscribe_J92 B l1 l2)
        · refine s_aload_n B.1 0 dX12_subscribe_85 rfl rfl ?_
          refine s_sipush (v := (130)) B.1 dX12_subscribe_86 (by decide) ?_
          refine rr_cvv (As := [.int (130 : Int32)]) (st := []) B (m_fails B.ok (130 : Int32)) mc_fails ml_fails mi_fails me_fails ini12 md_fails (by decide) rfl (Nat.le_of_ble_eq_true rfl) dX12_subscribe_89 (fun r39 => ?_)
          exact Sm.lvs [0, 1, 2] rfl (sm_subscribe_J92 B l1 l2)
  · exact s_vret B.1 B.2.1 dX12_subscribe_40
def R_subscribe : RS → Option (Unit × RS) :=
  rI 75 fun v40 =>
  rA 7 v40 fun v41 =>
  bd (R_two) fun r42 =>
  rI 79 fun v43 =>
  if v43 = 0 then (
    if r42 = 0 then (
      bd (R_fails (130 : Int32)) fun r44 =>
      R_subscribe_J33 v41 r42
    ) else (
      R_subscribe_J33 v41 r42
    )
  ) else (
    R_subscribe_J33 v41 r42
  )
set_option maxRecDepth 10000 in
theorem m_subscribe {w : Wd} (hw : Wok w) : MR w yX12_subscribe cX12_subscribe 6 none 7 155 voV [.ref w.2.2.2.2.2] (R_subscribe) := by
  refine MR.of hw rfl (Nat.le_of_ble_eq_true rfl) (fun g hg B => ?_)
  subst hg
  unfold R_subscribe
  show Sm g 6 0 [(0, .ref g.1.2.2.2.2.2)] [] _
  refine s_aload_n B.1 0 dX12_subscribe_0 rfl rfl ?_
  refine rr_getA B 7 mh_7 mn_7 mf_7 dX12_subscribe_1 ?_
  refine s_aload_n B.1 0 dX12_subscribe_4 rfl rfl ?_
  refine rr_getI B 75 mh_75 mk_75 mf_75 dX12_subscribe_5 (fun v40 => ?_)
  refine rr_iald B 7 mh_7 mk_7 dX12_subscribe_8 (fun v41 => ?_)
  refine s_istore_n (lv' := [(1, .int v41), (0, .ref g.1.2.2.2.2.2)]) B.1 dX12_subscribe_9 rfl (by decide) rfl ?_
  refine s_aload_n B.1 1 dX12_subscribe_10 rfl rfl ?_
  refine rr_cvi (As := []) (st := []) B (m_two B.ok) mc_two ml_two mi_two me_two ini12 md_two (by decide) rfl (Nat.le_of_ble_eq_true rfl) dX12_subscribe_11 (fun r42 => ?_)
  refine s_istore_n (lv' := [(2, .int r42), (1, .int v41), (0, .ref g.1.2.2.2.2.2)]) B.1 dX12_subscribe_14 rfl (by decide) rfl ?_
  refine s_aload_n B.1 2 dX12_subscribe_15 rfl rfl ?_
  refine rr_getI B 79 mh_79 mk_79 mf_79 dX12_subscribe_16 (fun v43 => ?_)
  refine s_if_ne B.1 33 dX12_subscribe_19 (by decide) ?_ ?_
  · exact Sm.lvs [2, 1, 0] rfl (sm_subscribe_J33 B v41 r42)
  · refine s_iload_n B.1 0 dX12_subscribe_22 rfl rfl ?_
    refine s_if_ne B.1 33 dX12_subscribe_23 (by decide) ?_ ?_
    · exact Sm.lvs [2, 1, 0] rfl (sm_subscribe_J33 B v41 r42)
    · refine s_aload_n B.1 2 dX12_subscribe_26 rfl rfl ?_
      refine s_sipush (v := (130)) B.1 dX12_subscribe_27 (by decide) ?_
      refine rr_cvv (As := [.int (130 : Int32)]) (st := []) B (m_fails B.ok (130 : Int32)) mc_fails ml_fails mi_fails me_fails ini12 md_fails (by decide) rfl (Nat.le_of_ble_eq_true rfl) dX12_subscribe_30 (fun r44 => ?_)
      exact Sm.lvs [2, 1, 0] rfl (sm_subscribe_J33 B v41 r42)
def R_unsubscribeOne_J157 (l1 : Int32) : RS → Option (Unit × RS) :=
  rA 24 l1 fun v1 =>
  wA 24 l1 (v1 - (1 : Int32)) <|
  rt ()
set_option maxRecDepth 10000 in
theorem sm_unsubscribeOne_J157 {g : Gm RS Unit} (B : Br g cX12_unsubscribeOne 6 voV none 0 0) (l1 : Int32) : Sm g 6 157 [(0, .ref g.1.2.2.2.2.2), (1, .int l1)] [] (R_unsubscribeOne_J157 l1) := by
  unfold R_unsubscribeOne_J157
  refine s_aload_n B.1 0 dX12_unsubscribeOne_157 rfl rfl ?_
  refine rr_getA B 24 mh_24 mn_24 mf_24 dX12_unsubscribeOne_158 ?_
  refine s_iload_n B.1 1 dX12_unsubscribeOne_161 rfl rfl ?_
  refine s_dup2 B.1 dX12_unsubscribeOne_162 rfl rfl ?_
  refine rr_iald B 24 mh_24 mk_24 dX12_unsubscribeOne_163 (fun v1 => ?_)
  refine s_iconst (v := 1) B.1 dX12_unsubscribeOne_164 (by decide) ?_
  refine s_isub B.1 dX12_unsubscribeOne_165 ?_
  refine rr_iast B 24 mh_24 mk_24 dX12_unsubscribeOne_166 ?_
  exact s_vret B.1 B.2.1 dX12_unsubscribeOne_167
def R_unsubscribeOne_J87 (kb : Int32 → Int32 → RS → Option (Unit × RS)) (ke157 : Int32 → RS → Option (Unit × RS)) (l1 : Int32) (l3 : Int32) (l4 : Int32) : RS → Option (Unit × RS) :=
  rA 27 (l4 + (1 : Int32)) fun v2 =>
  wA 27 l4 v2 <|
  rA 28 (l4 + (1 : Int32)) fun v3 =>
  wA 28 l4 v3 <|
  rA 29 (l4 + (1 : Int32)) fun v4 =>
  wA 29 l4 v4 <|
  rA 30 (l4 + (1 : Int32)) fun v5 =>
  wA 30 l4 v5 <|
  kb l1 (l3 + 1)
set_option maxRecDepth 10000 in
theorem sm_unsubscribeOne_J87 {g : Gm RS Unit} {kb : Int32 → Int32 → RS → Option (Unit × RS)} {ke157 : Int32 → RS → Option (Unit × RS)} (B : Br g cX12_unsubscribeOne 6 voV none 0 0) (hkb : ∀ (l1 : Int32) (l3 : Int32), Sm g 6 2 [(0, .ref g.1.2.2.2.2.2), (1, .int l1), (3, .int l3)] [] (kb l1 l3)) (hke157 : ∀ (l1 : Int32), Sm g 6 157 [(0, .ref g.1.2.2.2.2.2), (1, .int l1)] [] (ke157 l1)) (l1 : Int32) (l3 : Int32) (l4 : Int32) : Sm g 6 87 [(0, .ref g.1.2.2.2.2.2), (1, .int l1), (3, .int l3), (4, .int l4)] [] (R_unsubscribeOne_J87 kb ke157 l1 l3 l4) := by
  unfold R_unsubscribeOne_J87
  refine s_aload_n B.1 0 dX12_unsubscribeOne_87 rfl rfl ?_
  refine rr_getA B 27 mh_27 mn_27 mf_27 dX12_unsubscribeOne_88 ?_
  refine s_iload B.1 3 dX12_unsubscribeOne_91 rfl ?_
  refine s_aload_n B.1 0 dX12_unsubscribeOne_93 rfl rfl ?_
  refine rr_getA B 27 mh_27 mn_27 mf_27 dX12_unsubscribeOne_94 ?_
  refine s_iload B.1 3 dX12_unsubscribeOne_97 rfl ?_
  refine s_iconst (v := 1) B.1 dX12_unsubscribeOne_99 (by decide) ?_
  refine s_iadd B.1 dX12_unsubscribeOne_100 ?_
  refine rr_iald B 27 mh_27 mk_27 dX12_unsubscribeOne_101 (fun v2 => ?_)
  refine rr_iast B 27 mh_27 mk_27 dX12_unsubscribeOne_102 ?_
  refine s_aload_n B.1 0 dX12_unsubscribeOne_103 rfl rfl ?_
  refine rr_getA B 28 mh_28 mn_28 mf_28 dX12_unsubscribeOne_104 ?_
  refine s_iload B.1 3 dX12_unsubscribeOne_107 rfl ?_
  refine s_aload_n B.1 0 dX12_unsubscribeOne_109 rfl rfl ?_
  refine rr_getA B 28 mh_28 mn_28 mf_28 dX12_unsubscribeOne_110 ?_
  refine s_iload B.1 3 dX12_unsubscribeOne_113 rfl ?_
  refine s_iconst (v := 1) B.1 dX12_unsubscribeOne_115 (by decide) ?_
  refine s_iadd B.1 dX12_unsubscribeOne_116 ?_
  refine rr_iald B 28 mh_28 mk_28 dX12_unsubscribeOne_117 (fun v3 => ?_)
  refine rr_iast B 28 mh_28 mk_28 dX12_unsubscribeOne_118 ?_
  refine s_aload_n B.1 0 dX12_unsubscribeOne_119 rfl rfl ?_
  refine rr_getA B 29 mh_29 mn_29 mf_29 dX12_unsubscribeOne_120 ?_
  refine s_iload B.1 3 dX12_unsubscribeOne_123 rfl ?_
  refine s_aload_n B.1 0 dX12_unsubscribeOne_125 rfl rfl ?_
  refine rr_getA B 29 mh_29 mn_29 mf_29 dX12_unsubscribeOne_126 ?_
  refine s_iload B.1 3 dX12_unsubscribeOne_129 rfl ?_
  refine s_iconst (v := 1) B.1 dX12_unsubscribeOne_131 (by decide) ?_
  refine s_iadd B.1 dX12_unsubscribeOne_132 ?_
  refine rr_iald B 29 mh_29 mk_29 dX12_unsubscribeOne_133 (fun v4 => ?_)
  refine rr_iast B 29 mh_29 mk_29 dX12_unsubscribeOne_134 ?_
  refine s_aload_n B.1 0 dX12_unsubscribeOne_135 rfl rfl ?_
  refine rr_getA B 30 mh_30 mn_30 mf_30 dX12_unsubscribeOne_136 ?_
  refine s_iload B.1 3 dX12_unsubscribeOne_139 rfl ?_
  refine s_aload_n B.1 0 dX12_unsubscribeOne_141 rfl rfl ?_
  refine rr_getA B 30 mh_30 mn_30 mf_30 dX12_unsubscribeOne_142 ?_
  refine s_iload B.1 3 dX12_unsubscribeOne_145 rfl ?_
  refine s_iconst (v := 1) B.1 dX12_unsubscribeOne_147 (by decide) ?_
  refine s_iadd B.1 dX12_unsubscribeOne_148 ?_
  refine rr_iald B 30 mh_30 mk_30 dX12_unsubscribeOne_149 (fun v5 => ?_)
  refine rr_iast B 30 mh_30 mk_30 dX12_unsubscribeOne_150 ?_
  refine s_iinc (v := l3 + 1) (lv' := [(3, .int (l3 + 1)), (0, .ref g.1.2.2.2.2.2), (1, .int l1), (4, .int l4)]) B.1 2 dX12_unsubscribeOne_151 rfl rfl (by decide) rfl ?_
  refine s_goto B.1 2 dX12_unsubscribeOne_154 (by decide) ?_
  exact Sm.lvs [1, 2, 0] rfl (hkb l1 (l3 + 1))
def R_unsubscribeOne_B41 (kb : Int32 → Int32 → Int32 → Int32 → RS → Option (Unit × RS)) (ke87 : Int32 → Int32 → Int32 → RS → Option (Unit × RS)) (l1 : Int32) (l3 : Int32) (l4 : Int32) (l5 : Int32) : RS → Option (Unit × RS) :=
  rA 25 l4 fun v6 =>
  if v6 ≤ l5 then (
    ke87 l1 l3 l4
  ) else (
    rA 26 (((64 : Int32) * (l4 + (1 : Int32))) + l5) fun v7 =>
    wA 26 (((64 : Int32) * l4) + l5) (vp_nar .byte v7) <|
    kb l1 l3 l4 (l5 + 1)
  )
def R_unsubscribeOne_L41 (ke87 : Int32 → Int32 → Int32 → RS → Option (Unit × RS)) : Nat → Int32 → Int32 → Int32 → Int32 → RS → Option (Unit × RS)
  | 0, _, _, _, _ => no
  | n + 1, l1, l3, l4, l5 => R_unsubscribeOne_B41 (fun l1 l3 l4 l5 => R_unsubscribeOne_L41 ke87 n l1 l3 l4 l5) ke87 l1 l3 l4 l5
set_option maxRecDepth 10000 in
theorem sm_unsubscribeOne_B41 {g : Gm RS Unit} {kb : Int32 → Int32 → Int32 → Int32 → RS → Option (Unit × RS)} {ke87 : Int32 → Int32 → Int32 → RS → Option (Unit × RS)} (B : Br g cX12_unsubscribeOne 6 voV none 0 0) (hkb : ∀ (l1 : Int32) (l3 : Int32) (l4 : Int32) (l5 : Int32), Sm g 6 41 [(0, .ref g.1.2.2.2.2.2), (1, .int l1), (3, .int l3), (4, .int l4), (5, .int l5)] [] (kb l1 l3 l4 l5)) (hke87 : ∀ (l1 : Int32) (l3 : Int32) (l4 : Int32), Sm g 6 87 [(0, .ref g.1.2.2.2.2.2), (1, .int l1), (3, .int l3), (4, .int l4)] [] (ke87 l1 l3 l4)) (l1 : Int32) (l3 : Int32) (l4 : Int32) (l5 : Int32) : Sm g 6 41 [(0, .ref g.1.2.2.2.2.2), (1, .int l1), (3, .int l3), (4, .int l4), (5, .int l5)] [] (R_unsubscribeOne_B41 kb ke87 l1 l3 l4 l5) := by
  unfold R_unsubscribeOne_B41
  refine s_iload B.1 4 dX12_unsubscribeOne_41 rfl ?_
  refine s_aload_n B.1 0 dX12_unsubscribeOne_43 rfl rfl ?_
  refine rr_getA B 25 mh_25 mn_25 mf_25 dX12_unsubscribeOne_44 ?_
  refine s_iload B.1 3 dX12_unsubscribeOne_47 rfl ?_
  refine rr_iald B 25 mh_25 mk_25 dX12_unsubscribeOne_49 (fun v6 => ?_)
  refine s_icmp_ge B.1 87 dX12_unsubscribeOne_50 (by decide) ?_ ?_
  · exact Sm.lvs [0, 1, 2, 3] rfl (hke87 l1 l3 l4)
  · refine s_aload_n B.1 0 dX12_unsubscribeOne_53 rfl rfl ?_
    refine rr_getA B 26 mh_26 mn_26 mf_26 dX12_unsubscribeOne_54 ?_
    refine s_bipush (v := (64)) B.1 dX12_unsubscribeOne_57 (by decide) ?_
    refine s_iload B.1 3 dX12_unsubscribeOne_59 rfl ?_
    refine s_imul B.1 dX12_unsubscribeOne_61 ?_
    refine s_iload B.1 4 dX12_unsubscribeOne_62 rfl ?_
    refine s_iadd B.1 dX12_unsubscribeOne_64 ?_
    refine s_aload_n B.1 0 dX12_unsubscribeOne_65 rfl rfl ?_
    refine rr_getA B 26 mh_26 mn_26 mf_26 dX12_unsubscribeOne_66 ?_
    refine s_bipush (v := (64)) B.1 dX12_unsubscribeOne_69 (by decide) ?_
    refine s_iload B.1 3 dX12_unsubscribeOne_71 rfl ?_
    refine s_iconst (v := 1) B.1 dX12_unsubscribeOne_73 (by decide) ?_
    refine s_iadd B.1 dX12_unsubscribeOne_74 ?_
    refine s_imul B.1 dX12_unsubscribeOne_75 ?_
    refine s_iload B.1 4 dX12_unsubscribeOne_76 rfl ?_
    refine s_iadd B.1 dX12_unsubscribeOne_78 ?_
    refine rr_bald B 26 mh_26 mk_26 dX12_unsubscribeOne_79 (fun v7 => ?_)
    refine rr_bast B 26 mh_26 mk_26 dX12_unsubscribeOne_80 ?_
    refine s_iinc (v := l5 + 1) (lv' := [(5, .int (l5 + 1)), (0, .ref g.1.2.2.2.2.2), (1, .int l1), (3, .int l3), (4, .int l4)]) B.1 4 dX12_unsubscribeOne_81 rfl rfl (by decide) rfl ?_
    refine s_goto B.1 41 dX12_unsubscribeOne_84 (by decide) ?_
    exact Sm.lvs [1, 2, 3, 4, 0] rfl (hkb l1 l3 l4 (l5 + 1))
set_option maxRecDepth 10000 in
theorem sm_unsubscribeOne_L41 {g : Gm RS Unit} {ke87 : Int32 → Int32 → Int32 → RS → Option (Unit × RS)} (B : Br g cX12_unsubscribeOne 6 voV none 0 0) (hke87 : ∀ (l1 : Int32) (l3 : Int32) (l4 : Int32), Sm g 6 87 [(0, .ref g.1.2.2.2.2.2), (1, .int l1), (3, .int l3), (4, .int l4)] [] (ke87 l1 l3 l4)) : ∀ (n : Nat) (l1 : Int32) (l3 : Int32) (l4 : Int32) (l5 : Int32), Sm g 6 41 [(0, .ref g.1.2.2.2.2.2), (1, .int l1), (3, .int l3), (4, .int l4), (5, .int l5)] [] (R_unsubscribeOne_L41 ke87 n l1 l3 l4 l5)
  | 0, _, _, _, _ => Sm.fail
  | n + 1, l1, l3, l4, l5 => sm_unsubscribeOne_B41 B (sm_unsubscribeOne_L41 B hke87 n) hke87 l1 l3 l4 l5
def R_unsubscribeOne_B2 (kb : Int32 → Int32 → RS → Option (Unit × RS)) (ke157 : Int32 → RS → Option (Unit × RS)) (l1 : Int32) (l3 : Int32) : RS → Option (Unit × RS) :=
  rA 24 l1 fun v8 =>
  if v8 ≤ (l3 + (1 : Int32)) then (
    ke157 l1
  ) else (
    lq (((8 : Int32) * l1) + l3) fun x9 =>
    rA 25 (x9 + (1 : Int32)) fun v10 =>
    wA 25 x9 v10 <|
    R_unsubscribeOne_L41 (fun l1 l3 l4 => R_unsubscribeOne_J87 kb ke157 l1 l3 l4) fu l1 l3 x9 (0 : Int32)
  )
def R_unsubscribeOne_L2 (ke157 : Int32 → RS → Option (Unit × RS)) : Nat → Int32 → Int32 → RS → Option (Unit × RS)
  | 0, _, _ => no
  | n + 1, l1, l3 => R_unsubscribeOne_B2 (fun l1 l3 => R_unsubscribeOne_L2 ke157 n l1 l3) ke157 l1 l3
set_option maxRecDepth 10000 in
theorem sm_unsubscribeOne_B2 {g : Gm RS Unit} {kb : Int32 → Int32 → RS → Option (Unit × RS)} {ke157 : Int32 → RS → Option (Unit × RS)} (B : Br g cX12_unsubscribeOne 6 voV none 0 0) (hkb : ∀ (l1 : Int32) (l3 : Int32), Sm g 6 2 [(0, .ref g.1.2.2.2.2.2), (1, .int l1), (3, .int l3)] [] (kb l1 l3)) (hke157 : ∀ (l1 : Int32), Sm g 6 157 [(0, .ref g.1.2.2.2.2.2), (1, .int l1)] [] (ke157 l1)) (l1 : Int32) (l3 : Int32) : Sm g 6 2 [(0, .ref g.1.2.2.2.2.2), (1, .int l1), (3, .int l3)] [] (R_unsubscribeOne_B2 kb ke157 l1 l3) := by
  unfold R_unsubscribeOne_B2
  refine s_iload_n B.1 2 dX12_unsubscribeOne_2 rfl rfl ?_
  refine s_iconst (v := 1) B.1 dX12_unsubscribeOne_3 (by decide) ?_
  refine s_iadd B.1 dX12_unsubscribeOne_4 ?_
  refine s_aload_n B.1 0 dX12_unsubscribeOne_5 rfl rfl ?_
  refine rr_getA B 24 mh_24 mn_24 mf_24 dX12_unsubscribeOne_6 ?_
  refine s_iload_n B.1 1 dX12_unsubscribeOne_9 rfl rfl ?_
  refine rr_iald B 24 mh_24 mk_24 dX12_unsubscribeOne_10 (fun v8 => ?_)
  refine s_icmp_ge B.1 157 dX12_unsubscribeOne_11 (by decide) ?_ ?_
  · exact Sm.lvs [0, 1] rfl (hke157 l1)
  · refine s_bipush (v := (8)) B.1 dX12_unsubscribeOne_14 (by decide) ?_
    refine s_iload_n B.1 1 dX12_unsubscribeOne_16 rfl rfl ?_
    refine s_imul B.1 dX12_unsubscribeOne_17 ?_
    refine s_iload_n B.1 2 dX12_unsubscribeOne_18 rfl rfl ?_
    refine s_iadd B.1 dX12_unsubscribeOne_19 ?_
    refine s_lqi (fun x9 => ?_)
    refine s_istore (lv' := [(4, .int x9), (0, .ref g.1.2.2.2.2.2), (1, .int l1), (3, .int l3)]) B.1 dX12_unsubscribeOne_20 (by decide) rfl ?_
    refine s_aload_n B.1 1 dX12_unsubscribeOne_22 rfl rfl ?_
    refine rr_getA B 25 mh_25 mn_25 mf_25 dX12_unsubscribeOne_23 ?_
    refine s_iload B.1 0 dX12_unsubscribeOne_26 rfl ?_
    refine s_aload_n B.1 1 dX12_unsubscribeOne_28 rfl rfl ?_
    refine rr_getA B 25 mh_25 mn_25 mf_25 dX12_unsubscribeOne_29 ?_
    refine s_iload B.1 0 dX12_unsubscribeOne_32 rfl ?_
    refine s_iconst (v := 1) B.1 dX12_unsubscribeOne_34 (by decide) ?_
    refine s_iadd B.1 dX12_unsubscribeOne_35 ?_
    refine rr_iald B 25 mh_25 mk_25 dX12_unsubscribeOne_36 (fun v10 => ?_)
    refine rr_iast B 25 mh_25 mk_25 dX12_unsubscribeOne_37 ?_
    refine s_iconst (v := 0) B.1 dX12_unsubscribeOne_38 (by decide) ?_
    refine s_istore (lv' := [(5, .int (0 : Int32)), (4, .int x9), (0, .ref g.1.2.2.2.2.2), (1, .int l1), (3, .int l3)]) B.1 dX12_unsubscribeOne_39 (by decide) rfl ?_
    exact Sm.lvs [2, 3, 4, 1, 0] rfl (sm_unsubscribeOne_L41 B (fun l1 l3 l4 => sm_unsubscribeOne_J87 B hkb hke157 l1 l3 l4) fu l1 l3 x9 (0 : Int32))
set_option maxRecDepth 10000 in
theorem sm_unsubscribeOne_L2 {g : Gm RS Unit} {ke157 : Int32 → RS → Option (Unit × RS)} (B : Br g cX12_unsubscribeOne 6 voV none 0 0) (hke157 : ∀ (l1 : Int32), Sm g 6 157 [(0, .ref g.1.2.2.2.2.2), (1, .int l1)] [] (ke157 l1)) : ∀ (n : Nat) (l1 : Int32) (l3 : Int32), Sm g 6 2 [(0, .ref g.1.2.2.2.2.2), (1, .int l1), (3, .int l3)] [] (R_unsubscribeOne_L2 ke157 n l1 l3)
  | 0, _, _ => Sm.fail
  | n + 1, l1, l3 => sm_unsubscribeOne_B2 B (sm_unsubscribeOne_L2 B hke157 n) hke157 l1 l3
def R_unsubscribeOne (l1 : Int32) (l2 : Int32) : RS → Option (Unit × RS) :=
  R_unsubscribeOne_L2 (fun l1 => R_unsubscribeOne_J157 l1) fu l1 l2
set_option maxRecDepth 10000 in
theorem m_unsubscribeOne {w : Wd} (hw : Wok w) (l1 : Int32) (l2 : Int32) : MR w yX12_unsubscribeOne cX12_unsubscribeOne 6 none 0 0 voV [.ref w.2.2.2.2.2, .int l1, .int l2] (R_unsubscribeOne l1 l2) := by
  refine MR.of hw rfl (Nat.le_of_ble_eq_true rfl) (fun g hg B => ?_)
  subst hg
  unfold R_unsubscribeOne
  show Sm g 6 0 [(0, .ref g.1.2.2.2.2.2), (1, .int l1), (2, .int l2)] [] _
  refine s_iload_n B.1 2 dX12_unsubscribeOne_0 rfl rfl ?_
  refine s_istore_n (lv' := [(3, .int l2), (0, .ref g.1.2.2.2.2.2), (1, .int l1), (2, .int l2)]) B.1 dX12_unsubscribeOne_1 rfl (by decide) rfl ?_
  exact Sm.lvs [1, 2, 0] rfl (sm_unsubscribeOne_L2 B (fun l1 => sm_unsubscribeOne_J157 B l1) fu l1 l2)
def R_unsubscribe_J319 : RS → Option (Unit × RS) :=
  rI 75 fun v1 =>
  bd (R_sendBody v1 (176 : Int32)) fun r2 =>
  rt ()
set_option maxRecDepth 10000 in
theorem sm_unsubscribe_J319 {g : Gm RS Unit} (B : Br g cX12_unsubscribe 7 voV none 7 152) : Sm g 7 319 [(0, .ref g.1.2.2.2.2.2)] [] (R_unsubscribe_J319) := by
  unfold R_unsubscribe_J319
  refine s_aload_n B.1 0 dX12_unsubscribe_319 rfl rfl ?_
  refine s_aload_n B.1 0 dX12_unsubscribe_320 rfl rfl ?_
  refine rr_getI B 75 mh_75 mk_75 mf_75 dX12_unsubscribe_321 (fun v1 => ?_)
  refine s_sipush (v := (176)) B.1 dX12_unsubscribe_324 (by decide) ?_
  refine rr_cvv (As := [.int v1, .int (176 : Int32)]) (st := []) B (m_sendBody B.ok v1 (176 : Int32)) mc_sendBody ml_sendBody mi_sendBody me_sendBody ini12 md_sendBody (by decide) rfl (Nat.le_of_ble_eq_true rfl) dX12_unsubscribe_327 (fun r2 => ?_)
  exact s_vret B.1 B.2.1 dX12_unsubscribe_330
def R_unsubscribe_B296 (kb : Int32 → Int32 → RS → Option (Unit × RS)) (ke319 : RS → Option (Unit × RS)) (l3 : Int32) (l4 : Int32) : RS → Option (Unit × RS) :=
  if l3 ≤ l4 then (
    ke319
  ) else (
    rA 92 l4 fun v3 =>
    bd (R_byteOf v3) fun r4 =>
    kb l3 (l4 + 1)
  )
def R_unsubscribe_L296 (ke319 : RS → Option (Unit × RS)) : Nat → Int32 → Int32 → RS → Option (Unit × RS)
  | 0, _, _ => no
  | n + 1, l3, l4 => R_unsubscribe_B296 (fun l3 l4 => R_unsubscribe_L296 ke319 n l3 l4) ke319 l3 l4
set_option maxRecDepth 10000 in
theorem sm_unsubscribe_B296 {g : Gm RS Unit} {kb : Int32 → Int32 → RS → Option (Unit × RS)} {ke319 : RS → Option (Unit × RS)} (B : Br g cX12_unsubscribe 7 voV none 7 152) (hkb : ∀ (l3 : Int32) (l4 : Int32), Sm g 7 296 [(0, .ref g.1.2.2.2.2.2), (3, .int l3), (4, .int l4)] [] (kb l3 l4)) (hke319 : Sm g 7 319 [(0, .ref g.1.2.2.2.2.2)] [] (ke319)) (l3 : Int32) (l4 : Int32) : Sm g 7 296 [(0, .ref g.1.2.2.2.2.2), (3, .int l3), (4, .int l4)] [] (R_unsubscribe_B296 kb ke319 l3 l4) := by
  unfold R_unsubscribe_B296
  refine s_iload B.1 2 dX12_unsubscribe_296 rfl ?_
  refine s_iload_n B.1 1 dX12_unsubscribe_298 rfl rfl ?_
  refine s_icmp_ge B.1 319 dX12_unsubscribe_299 (by decide) ?_ ?_
  · exact Sm.lvs [0] rfl (hke319)
  · refine s_aload_n B.1 0 dX12_unsubscribe_302 rfl rfl ?_
    refine s_aload_n B.1 0 dX12_unsubscribe_303 rfl rfl ?_
    refine rr_getA B 92 mh_92 mn_92 mf_92 dX12_unsubscribe_304 ?_
    refine s_iload B.1 2 dX12_unsubscribe_307 rfl ?_
    refine rr_iald B 92 mh_92 mk_92 dX12_unsubscribe_309 (fun v3 => ?_)
    refine rr_cvv (As := [.int v3]) (st := []) B (m_byteOf B.ok v3) mc_byteOf ml_byteOf mi_byteOf me_byteOf ini12 md_byteOf (by decide) rfl (Nat.le_of_ble_eq_true rfl) dX12_unsubscribe_310 (fun r4 => ?_)
    refine s_iinc (v := l4 + 1) (lv' := [(4, .int (l4 + 1)), (0, .ref g.1.2.2.2.2.2), (3, .int l3)]) B.1 2 dX12_unsubscribe_313 rfl rfl (by decide) rfl ?_
    refine s_goto B.1 296 dX12_unsubscribe_316 (by decide) ?_
    exact Sm.lvs [1, 2, 0] rfl (hkb l3 (l4 + 1))
set_option maxRecDepth 10000 in
theorem sm_unsubscribe_L296 {g : Gm RS Unit} {ke319 : RS → Option (Unit × RS)} (B : Br g cX12_unsubscribe 7 voV none 7 152) (hke319 : Sm g 7 319 [(0, .ref g.1.2.2.2.2.2)] [] (ke319)) : ∀ (n : Nat) (l3 : Int32) (l4 : Int32), Sm g 7 296 [(0, .ref g.1.2.2.2.2.2), (3, .int l3), (4, .int l4)] [] (R_unsubscribe_L296 ke319 n l3 l4)
  | 0, _, _ => Sm.fail
  | n + 1, l3, l4 => sm_unsubscribe_B296 B (sm_unsubscribe_L296 B hke319 n) hke319 l3 l4
def R_unsubscribe_J270 (l2 : Int32) (l3 : Int32) : RS → Option (Unit × RS) :=
  wI 91 ((0 : Int32)) <|
  bd (R_byteOf (l2 >>> ((8 : Int32) &&& 31))) fun r5 =>
  bd (R_byteOf l2) fun r6 =>
  bd (R_byteOf (0 : Int32)) fun r7 =>
  R_unsubscribe_L296 (R_unsubscribe_J319) fu l3 (0 : Int32)
set_option maxRecDepth 10000 in
theorem sm_unsubscribe_J270 {g : Gm RS Unit} (B : Br g cX12_unsubscribe 7 voV none 7 152) (l2 : Int32) (l3 : Int32) : Sm g 7 270 [(0, .ref g.1.2.2.2.2.2), (2, .int l2), (3, .int l3)] [] (R_unsubscribe_J270 l2 l3) := by
  unfold R_unsubscribe_J270
  refine s_aload_n B.1 0 dX12_unsubscribe_270 rfl rfl ?_
  refine s_iconst (v := 0) B.1 dX12_unsubscribe_271 (by decide) ?_
  refine rr_putI B 91 mh_91 mk_91 mf_91 dX12_unsubscribe_272 ?_
  refine s_aload_n B.1 0 dX12_unsubscribe_275 rfl rfl ?_
  refine s_iload_n B.1 1 dX12_unsubscribe_276 rfl rfl ?_
  refine s_bipush (v := (8)) B.1 dX12_unsubscribe_277 (by decide) ?_
  refine s_ishr B.1 dX12_unsubscribe_279 ?_
  refine rr_cvv (As := [.int (l2 >>> ((8 : Int32) &&& 31))]) (st := []) B (m_byteOf B.ok (l2 >>> ((8 : Int32) &&& 31))) mc_byteOf ml_byteOf mi_byteOf me_byteOf ini12 md_byteOf (by decide) rfl (Nat.le_of_ble_eq_true rfl) dX12_unsubscribe_280 (fun r5 => ?_)
  refine s_aload_n B.1 0 dX12_unsubscribe_283 rfl rfl ?_
  refine s_iload_n B.1 1 dX12_unsubscribe_284 rfl rfl ?_
  refine rr_cvv (As := [.int l2]) (st := []) B (m_byteOf B.ok l2) mc_byteOf ml_byteOf mi_byteOf me_byteOf ini12 md_byteOf (by decide) rfl (Nat.le_of_ble_eq_true rfl) dX12_unsubscribe_285 (fun r6 => ?_)
  refine s_aload_n B.1 0 dX12_unsubscribe_288 rfl rfl ?_
  refine s_iconst (v := 0) B.1 dX12_unsubscribe_289 (by decide) ?_
  refine rr_cvv (As := [.int (0 : Int32)]) (st := []) B (m_byteOf B.ok (0 : Int32)) mc_byteOf ml_byteOf mi_byteOf me_byteOf ini12 md_byteOf (by decide) rfl (Nat.le_of_ble_eq_true rfl) dX12_unsubscribe_290 (fun r7 => ?_)
  refine s_iconst (v := 0) B.1 dX12_unsubscribe_293 (by decide) ?_
  refine s_istore (lv' := [(4, .int (0 : Int32)), (0, .ref g.1.2.2.2.2.2), (2, .int l2), (3, .int l3)]) B.1 dX12_unsubscribe_294 (by decide) rfl ?_
  exact Sm.lvs [1, 3, 0] rfl (sm_unsubscribe_L296 B (sm_unsubscribe_J319 B) fu l3 (0 : Int32))
def R_unsubscribe_J246 (kb : Int32 → Int32 → Int32 → Int32 → RS → Option (Unit × RS)) (ke270 : Int32 → Int32 → RS → Option (Unit × RS)) (l1 : Int32) (l2 : Int32) (l3 : Int32) (l4 : Int32) (l5 : Int32) (l6 : Int32) (s1 : Int32) (s2 : Int32) : RS → Option (Unit × RS) :=
  wA 92 s1 s2 <|
  if l6 = 0 then (
    kb l1 l2 l3 (l4 + 1)
  ) else (
    if l5 < 0 then (
      kb l1 l2 l3 (l4 + 1)
    ) else (
      bd (R_unsubscribeOne l1 l5) fun r8 =>
      kb l1 l2 l3 (l4 + 1)
    )
  )
set_option maxRecDepth 10000 in
theorem sm_unsubscribe_J246 {g : Gm RS Unit} {kb : Int32 → Int32 → Int32 → Int32 → RS → Option (Unit × RS)} {ke270 : Int32 → Int32 → RS → Option (Unit × RS)} (B : Br g cX12_unsubscribe 7 voV none 7 152) (hkb : ∀ (l1 : Int32) (l2 : Int32) (l3 : Int32) (l4 : Int32), Sm g 7 136 [(0, .ref g.1.2.2.2.2.2), (1, .int l1), (2, .int l2), (3, .int l3), (4, .int l4)] [] (kb l1 l2 l3 l4)) (hke270 : ∀ (l2 : Int32) (l3 : Int32), Sm g 7 270 [(0, .ref g.1.2.2.2.2.2), (2, .int l2), (3, .int l3)] [] (ke270 l2 l3)) (l1 : Int32) (l2 : Int32) (l3 : Int32) (l4 : Int32) (l5 : Int32) (l6 : Int32) (s1 : Int32) (s2 : Int32) : Sm g 7 246 [(0, .ref g.1.2.2.2.2.2), (1, .int l1), (2, .int l2), (3, .int l3), (4, .int l4), (5, .int l5), (6, .int l6)] [.int s2, .int s1, .ref (g.1.2.2.2.2.2 + mO 92)] (R_unsubscribe_J246 kb ke270 l1 l2 l3 l4 l5 l6 s1 s2) := by
  unfold R_unsubscribe_J246
  refine rr_iast B 92 mh_92 mk_92 dX12_unsubscribe_246 ?_
  refine s_iload B.1 6 dX12_unsubscribe_247 rfl ?_
  refine s_if_eq B.1 264 dX12_unsubscribe_249 (by decide) ?_ ?_
  · refine s_iinc (v := l4 + 1) (lv' := [(4, .int (l4 + 1)), (0, .ref g.1.2.2.2.2.2), (1, .int l1), (2, .int l2), (3, .int l3), (5, .int l5), (6, .int l6)]) B.1 4 dX12_unsubscribe_264 rfl rfl (by decide) rfl ?_
    refine s_goto B.1 136 dX12_unsubscribe_267 (by decide) ?_
    exact Sm.lvs [1, 2, 3, 4, 0] rfl (hkb l1 l2 l3 (l4 + 1))
  · refine s_iload B.1 5 dX12_unsubscribe_252 rfl ?_
    refine s_if_lt B.1 264 dX12_unsubscribe_254 (by decide) ?_ ?_
    · refine s_iinc (v := l4 + 1) (lv' := [(4, .int (l4 + 1)), (0, .ref g.1.2.2.2.2.2), (1, .int l1), (2, .int l2), (3, .int l3), (5, .int l5), (6, .int l6)]) B.1 4 dX12_unsubscribe_264 rfl rfl (by decide) rfl ?_
      refine s_goto B.1 136 dX12_unsubscribe_267 (by decide) ?_
      exact Sm.lvs [1, 2, 3, 4, 0] rfl (hkb l1 l2 l3 (l4 + 1))
    · refine s_aload_n B.1 0 dX12_unsubscribe_257 rfl rfl ?_
      refine s_iload_n B.1 1 dX12_unsubscribe_258 rfl rfl ?_
      refine s_iload B.1 5 dX12_unsubscribe_259 rfl ?_
      refine rr_cvv (As := [.int l1, .int l5]) (st := []) B (m_unsubscribeOne B.ok l1 l5) mc_unsubscribeOne ml_unsubscribeOne mi_unsubscribeOne me_unsubscribeOne ini12 md_unsubscribeOne (by decide) rfl (Nat.le_of_ble_eq_true rfl) dX12_unsubscribe_261 (fun r8 => ?_)
      refine s_iinc (v := l4 + 1) (lv' := [(4, .int (l4 + 1)), (0, .ref g.1.2.2.2.2.2), (1, .int l1), (2, .int l2), (3, .int l3), (5, .int l5), (6, .int l6)]) B.1 4 dX12_unsubscribe_264 rfl rfl (by decide) rfl ?_
      refine s_goto B.1 136 dX12_unsubscribe_267 (by decide) ?_
      exact Sm.lvs [1, 2, 3, 4, 0] rfl (hkb l1 l2 l3 (l4 + 1))
def R_unsubscribe_J216 (kb : Int32 → Int32 → Int32 → Int32 → RS → Option (Unit × RS)) (ke270 : Int32 → Int32 → RS → Option (Unit × RS)) (l1 : Int32) (l2 : Int32) (l3 : Int32) (l4 : Int32) (l5 : Int32) (s0 : Int32) : RS → Option (Unit × RS) :=
  if s0 = 0 then (
    R_unsubscribe_J246 kb ke270 l1 l2 l3 l4 l5 s0 l4 (143 : Int32)
  ) else (
    if 0 ≤ l5 then (
      R_unsubscribe_J246 kb ke270 l1 l2 l3 l4 l5 s0 l4 (0 : Int32)
    ) else (
      R_unsubscribe_J246 kb ke270 l1 l2 l3 l4 l5 s0 l4 (17 : Int32)
    )
  )
set_option maxRecDepth 10000 in
theorem sm_unsubscribe_J216 {g : Gm RS Unit} {kb : Int32 → Int32 → Int32 → Int32 → RS → Option (Unit × RS)} {ke270 : Int32 → Int32 → RS → Option (Unit × RS)} (B : Br g cX12_unsubscribe 7 voV none 7 152) (hkb : ∀ (l1 : Int32) (l2 : Int32) (l3 : Int32) (l4 : Int32), Sm g 7 136 [(0, .ref g.1.2.2.2.2.2), (1, .int l1), (2, .int l2), (3, .int l3), (4, .int l4)] [] (kb l1 l2 l3 l4)) (hke270 : ∀ (l2 : Int32) (l3 : Int32), Sm g 7 270 [(0, .ref g.1.2.2.2.2.2), (2, .int l2), (3, .int l3)] [] (ke270 l2 l3)) (l1 : Int32) (l2 : Int32) (l3 : Int32) (l4 : Int32) (l5 : Int32) (s0 : Int32) : Sm g 7 216 [(0, .ref g.1.2.2.2.2.2), (1, .int l1), (2, .int l2), (3, .int l3), (4, .int l4), (5, .int l5)] [.int s0] (R_unsubscribe_J216 kb ke270 l1 l2 l3 l4 l5 s0) := by
  unfold R_unsubscribe_J216
  refine s_istore (lv' := [(6, .int s0), (0, .ref g.1.2.2.2.2.2), (1, .int l1), (2, .int l2), (3, .int l3), (4, .int l4), (5, .int l5)]) B.1 dX12_unsubscribe_216 (by decide) rfl ?_
  refine s_aload_n B.1 1 dX12_unsubscribe_218 rfl rfl ?_
  refine rr_getA B 92 mh_92 mn_92 mf_92 dX12_unsubscribe_219 ?_
  refine s_iload B.1 5 dX12_unsubscribe_222 rfl ?_
  refine s_iload B.1 0 dX12_unsubscribe_224 rfl ?_
  refine s_if_ne B.1 235 dX12_unsubscribe_226 (by decide) ?_ ?_
  · refine s_iload B.1 6 dX12_unsubscribe_235 rfl ?_
    refine s_if_ge B.1 245 dX12_unsubscribe_237 (by decide) ?_ ?_
    · refine s_iconst (v := 0) B.1 dX12_unsubscribe_245 (by decide) ?_
      exact Sm.lvs [1, 2, 3, 4, 5, 6, 0] rfl (sm_unsubscribe_J246 B hkb hke270 l1 l2 l3 l4 l5 s0 l4 (0 : Int32))
    · refine s_bipush (v := (17)) B.1 dX12_unsubscribe_240 (by decide) ?_
      refine s_goto B.1 246 dX12_unsubscribe_242 (by decide) ?_
      exact Sm.lvs [1, 2, 3, 4, 5, 6, 0] rfl (sm_unsubscribe_J246 B hkb hke270 l1 l2 l3 l4 l5 s0 l4 (17 : Int32))
  · refine s_sipush (v := (143)) B.1 dX12_unsubscribe_229 (by decide) ?_
    refine s_goto B.1 246 dX12_unsubscribe_232 (by decide) ?_
    exact Sm.lvs [1, 2, 3, 4, 5, 6, 0] rfl (sm_unsubscribe_J246 B hkb hke270 l1 l2 l3 l4 l5 s0 l4 (143 : Int32))
def R_unsubscribe_J211 (kb : Int32 → Int32 → Int32 → Int32 → RS → Option (Unit × RS)) (ke270 : Int32 → Int32 → RS → Option (Unit × RS)) (l1 : Int32) (l2 : Int32) (l3 : Int32) (l4 : Int32) (l5 : Int32) : RS → Option (Unit × RS) :=
  R_unsubscribe_J216 kb ke270 l1 l2 l3 l4 l5 (1 : Int32)
set_option maxRecDepth 10000 in
theorem sm_unsubscribe_J211 {g : Gm RS Unit} {kb : Int32 → Int32 → Int32 → Int32 → RS → Option (Unit × RS)} {ke270 : Int32 → Int32 → RS → Option (Unit × RS)} (B : Br g cX12_unsubscribe 7 voV none 7 152) (hkb : ∀ (l1 : Int32) (l2 : Int32) (l3 : Int32) (l4 : Int32), Sm g 7 136 [(0, .ref g.1.2.2.2.2.2), (1, .int l1), (2, .int l2), (3, .int l3), (4, .int l4)] [] (kb l1 l2 l3 l4)) (hke270 : ∀ (l2 : Int32) (l3 : Int32), Sm g 7 270 [(0, .ref g.1.2.2.2.2.2), (2, .int l2), (3, .int l3)] [] (ke270 l2 l3)) (l1 : Int32) (l2 : Int32) (l3 : Int32) (l4 : Int32) (l5 : Int32) : Sm g 7 211 [(0, .ref g.1.2.2.2.2.2), (1, .int l1), (2, .int l2), (3, .int l3), (4, .int l4), (5, .int l5)] [] (R_unsubscribe_J211 kb ke270 l1 l2 l3 l4 l5) := by
  unfold R_unsubscribe_J211
  refine s_iconst (v := 1) B.1 dX12_unsubscribe_211 (by decide) ?_
  refine s_goto B.1 216 dX12_unsubscribe_212 (by decide) ?_
  exact Sm.lvs [0, 1, 2, 3, 4, 5] rfl (sm_unsubscribe_J216 B hkb hke270 l1 l2 l3 l4 l5 (1 : Int32))
def R_unsubscribe_B136 (kb : Int32 → Int32 → Int32 → Int32 → RS → Option (Unit × RS)) (ke270 : Int32 → Int32 → RS → Option (Unit × RS)) (l1 : Int32) (l2 : Int32) (l3 : Int32) (l4 : Int32) : RS → Option (Unit × RS) :=
  if l3 ≤ l4 then (
    ke270 l2 l3
  ) else (
    rA 93 l4 fun v9 =>
    rA 94 l4 fun v10 =>
    bd (R_subscriptionOf l1 v9 v10) fun r11 =>
    rA 93 l4 fun v12 =>
    rA 94 l4 fun v13 =>
    bd (R_isFilter 6 v12 v13) fun r14 =>
    if r14 = 0 then (
      rA 93 l4 fun v15 =>
      rA 94 l4 fun v16 =>
      bd (R_shareAt 6 v15 v16) fun r17 =>
      if r17 ≤ 0 then (
        R_unsubscribe_J216 kb ke270 l1 l2 l3 l4 r11 (0 : Int32)
      ) else (
        R_unsubscribe_J211 kb ke270 l1 l2 l3 l4 r11
      )
    ) else (
      R_unsubscribe_J211 kb ke270 l1 l2 l3 l4 r11
    )
  )
def R_unsubscribe_L136 (ke270 : Int32 → Int32 → RS → Option (Unit × RS)) : Nat → Int32 → Int32 → Int32 → Int32 → RS → Option (Unit × RS)
  | 0, _, _, _, _ => no
  | n + 1, l1, l2, l3, l4 => R_unsubscribe_B136 (fun l1 l2 l3 l4 => R_unsubscribe_L136 ke270 n l1 l2 l3 l4) ke270 l1 l2 l3 l4
set_option maxRecDepth 10000 in
theorem sm_unsubscribe_B136 {g : Gm RS Unit} {kb : Int32 → Int32 → Int32 → Int32 → RS → Option (Unit × RS)} {ke270 : Int32 → Int32 → RS → Option (Unit × RS)} (B : Br g cX12_unsubscribe 7 voV none 7 152) (hkb : ∀ (l1 : Int32) (l2 : Int32) (l3 : Int32) (l4 : Int32), Sm g 7 136 [(0, .ref g.1.2.2.2.2.2), (1, .int l1), (2, .int l2), (3, .int l3), (4, .int l4)] [] (kb l1 l2 l3 l4)) (hke270 : ∀ (l2 : Int32) (l3 : Int32), Sm g 7 270 [(0, .ref g.1.2.2.2.2.2), (2, .int l2), (3, .int l3)] [] (ke270 l2 l3)) (l1 : Int32) (l2 : Int32) (l3 : Int32) (l4 : Int32) : Sm g 7 136 [(0, .ref g.1.2.2.2.2.2), (1, .int l1), (2, .int l2), (3, .int l3), (4, .int l4)] [] (R_unsubscribe_B136 kb ke270 l1 l2 l3 l4) := by
  unfold R_unsubscribe_B136
  refine s_iload B.1 4 dX12_unsubscribe_136 rfl ?_
  refine s_iload_n B.1 3 dX12_unsubscribe_138 rfl rfl ?_
  refine s_icmp_ge B.1 270 dX12_unsubscribe_139 (by decide) ?_ ?_
  · exact Sm.lvs [0, 2, 3] rfl (hke270 l2 l3)
  · refine s_aload_n B.1 0 dX12_unsubscribe_142 rfl rfl ?_
    refine s_iload_n B.1 1 dX12_unsubscribe_143 rfl rfl ?_
    refine s_aload_n B.1 0 dX12_unsubscribe_144 rfl rfl ?_
    refine rr_getA B 93 mh_93 mn_93 mf_93 dX12_unsubscribe_145 ?_
    refine s_iload B.1 4 dX12_unsubscribe_148 rfl ?_
    refine rr_iald B 93 mh_93 mk_93 dX12_unsubscribe_150 (fun v9 => ?_)
    refine s_aload_n B.1 0 dX12_unsubscribe_151 rfl rfl ?_
    refine rr_getA B 94 mh_94 mn_94 mf_94 dX12_unsubscribe_152 ?_
    refine s_iload B.1 4 dX12_unsubscribe_155 rfl ?_
    refine rr_iald B 94 mh_94 mk_94 dX12_unsubscribe_157 (fun v10 => ?_)
    refine rr_cvi (As := [.int l1, .int v9, .int v10]) (st := []) B (m_subscriptionOf B.ok l1 v9 v10) mc_subscriptionOf ml_subscriptionOf mi_subscriptionOf me_subscriptionOf ini12 md_subscriptionOf (by decide) rfl (Nat.le_of_ble_eq_true rfl) dX12_unsubscribe_158 (fun r11 => ?_)
    refine s_istore (lv' := [(5, .int r11), (0, .ref g.1.2.2.2.2.2), (1, .int l1), (2, .int l2), (3, .int l3), (4, .int l4)]) B.1 dX12_unsubscribe_161 (by decide) rfl ?_
    refine s_aload_n B.1 1 dX12_unsubscribe_163 rfl rfl ?_
    refine rr_getA B 6 mh_6 mn_6 mf_6 dX12_unsubscribe_164 ?_
    refine s_aload_n B.1 1 dX12_unsubscribe_167 rfl rfl ?_
    refine rr_getA B 93 mh_93 mn_93 mf_93 dX12_unsubscribe_168 ?_
    refine s_iload B.1 5 dX12_unsubscribe_171 rfl ?_
    refine rr_iald B 93 mh_93 mk_93 dX12_unsubscribe_173 (fun v12 => ?_)
    refine s_aload_n B.1 1 dX12_unsubscribe_174 rfl rfl ?_
    refine rr_getA B 94 mh_94 mn_94 mf_94 dX12_unsubscribe_175 ?_
    refine s_iload B.1 5 dX12_unsubscribe_178 rfl ?_
    refine rr_iald B 94 mh_94 mk_94 dX12_unsubscribe_180 (fun v13 => ?_)
    refine rr_csi (As := [.ref (g.1.2.2.2.2.2 + mO 6), .int v12, .int v13]) (st := []) B (m_isFilter B.ok 6 v12 v13 mh_6 mk_6) mc_isFilter ml_isFilter ms_isFilter ini12 md_isFilter (by decide) rfl (Nat.le_of_ble_eq_true rfl) dX12_unsubscribe_181 (fun r14 => ?_)
    refine s_if_ne B.1 211 dX12_unsubscribe_184 (by decide) ?_ ?_
    · exact Sm.lvs [1, 2, 3, 4, 5, 0] rfl (sm_unsubscribe_J211 B hkb hke270 l1 l2 l3 l4 r11)
    · refine s_aload_n B.1 1 dX12_unsubscribe_187 rfl rfl ?_
      refine rr_getA B 6 mh_6 mn_6 mf_6 dX12_unsubscribe_188 ?_
      refine s_aload_n B.1 1 dX12_unsubscribe_191 rfl rfl ?_
      refine rr_getA B 93 mh_93 mn_93 mf_93 dX12_unsubscribe_192 ?_
      refine s_iload B.1 5 dX12_unsubscribe_195 rfl ?_
      refine rr_iald B 93 mh_93 mk_93 dX12_unsubscribe_197 (fun v15 => ?_)
      refine s_aload_n B.1 1 dX12_unsubscribe_198 rfl rfl ?_
      refine rr_getA B 94 mh_94 mn_94 mf_94 dX12_unsubscribe_199 ?_
      refine s_iload B.1 5 dX12_unsubscribe_202 rfl ?_
      refine rr_iald B 94 mh_94 mk_94 dX12_unsubscribe_204 (fun v16 => ?_)
      refine rr_csi (As := [.ref (g.1.2.2.2.2.2 + mO 6), .int v15, .int v16]) (st := []) B (m_shareAt B.ok 6 v15 v16 mh_6 mk_6) mc_shareAt ml_shareAt ms_shareAt ini12 md_shareAt (by decide) rfl (Nat.le_of_ble_eq_true rfl) dX12_unsubscribe_205 (fun r17 => ?_)
      refine s_if_le B.1 215 dX12_unsubscribe_208 (by decide) ?_ ?_
      · refine s_iconst (v := 0) B.1 dX12_unsubscribe_215 (by decide) ?_
        exact Sm.lvs [1, 2, 3, 4, 5, 0] rfl (sm_unsubscribe_J216 B hkb hke270 l1 l2 l3 l4 r11 (0 : Int32))
      · exact Sm.lvs [1, 2, 3, 4, 5, 0] rfl (sm_unsubscribe_J211 B hkb hke270 l1 l2 l3 l4 r11)
set_option maxRecDepth 10000 in
theorem sm_unsubscribe_L136 {g : Gm RS Unit} {ke270 : Int32 → Int32 → RS → Option (Unit × RS)} (B : Br g cX12_unsubscribe 7 voV none 7 152) (hke270 : ∀ (l2 : Int32) (l3 : Int32), Sm g 7 270 [(0, .ref g.1.2.2.2.2.2), (2, .int l2), (3, .int l3)] [] (ke270 l2 l3)) : ∀ (n : Nat) (l1 : Int32) (l2 : Int32) (l3 : Int32) (l4 : Int32), Sm g 7 136 [(0, .ref g.1.2.2.2.2.2), (1, .int l1), (2, .int l2), (3, .int l3), (4, .int l4)] [] (R_unsubscribe_L136 ke270 n l1 l2 l3 l4)
  | 0, _, _, _, _ => Sm.fail
  | n + 1, l1, l2, l3, l4 => sm_unsubscribe_B136 B (sm_unsubscribe_L136 B hke270 n) hke270 l1 l2 l3 l4
def R_unsubscribe_J125 (l1 : Int32) (l2 : Int32) (l3 : Int32) : RS → Option (Unit × RS) :=
  rI 79 fun v18 =>
  if v18 = 0 then (
    R_unsubscribe_L136 (fun l2 l3 => R_unsubscribe_J270 l2 l3) fu l1 l2 l3 (0 : Int32)
  ) else (
    rt ()
  )
set_option maxRecDepth 10000 in
theorem sm_unsubscribe_J125 {g : Gm RS Unit} (B : Br g cX12_unsubscribe 7 voV none 7 152) (l1 : Int32) (l2 : Int32) (l3 : Int32) : Sm g 7 125 [(0, .ref g.1.2.2.2.2.2), (1, .int l1), (2, .int l2), (3, .int l3)] [] (R_unsubscribe_J125 l1 l2 l3) := by
  unfold R_unsubscribe_J125
  refine s_aload_n B.1 0 dX12_unsubscribe_125 rfl rfl ?_
  refine rr_getI B 79 mh_79 mk_79 mf_79 dX12_unsubscribe_126 (fun v18 => ?_)
  refine s_if_eq B.1 133 dX12_unsubscribe_129 (by decide) ?_ ?_
  · refine s_iconst (v := 0) B.1 dX12_unsubscribe_133 (by decide) ?_
    refine s_istore (lv' := [(4, .int (0 : Int32)), (0, .ref g.1.2.2.2.2.2), (1, .int l1), (2, .int l2), (3, .int l3)]) B.1 dX12_unsubscribe_134 (by decide) rfl ?_
    exact Sm.lvs [1, 2, 3, 4, 0] rfl (sm_unsubscribe_L136 B (fun l2 l3 => sm_unsubscribe_J270 B l2 l3) fu l1 l2 l3 (0 : Int32))
  · exact s_vret B.1 B.2.1 dX12_unsubscribe_132
def R_unsubscribe_B77 (kb : Int32 → Int32 → Int32 → RS → Option (Unit × RS)) (ke125 : Int32 → Int32 → Int32 → RS → Option (Unit × RS)) (l1 : Int32) (l2 : Int32) (l3 : Int32) : RS → Option (Unit × RS) :=
  rI 79 fun v19 =>
  if v19 = 0 then (
    rI 76 fun v20 =>
    rI 77 fun v21 =>
    if v21 ≤ v20 then (
      ke125 l1 l2 l3
    ) else (
      bd (R_string) fun r22 =>
      rI 80 fun v23 =>
      wA 93 l3 v23 <|
      rI 81 fun v24 =>
      wA 94 l3 v24 <|
      kb l1 l2 (l3 + 1)
    )
  ) else (
    ke125 l1 l2 l3
  )
def R_unsubscribe_L77 (ke125 : Int32 → Int32 → Int32 → RS → Option (Unit × RS)) : Nat → Int32 → Int32 → Int32 → RS → Option (Unit × RS)
  | 0, _, _, _ => no
  | n + 1, l1, l2, l3 => R_unsubscribe_B77 (fun l1 l2 l3 => R_unsubscribe_L77 ke125 n l1 l2 l3) ke125 l1 l2 l3
set_option maxRecDepth 10000 in
theorem sm_unsubscribe_B77 {g : Gm RS Unit} {kb : Int32 → Int32 → Int32 → RS → Option (Unit × RS)} {ke125 : Int32 → Int32 → Int32 → RS → Option (Unit × RS)} (B : Br g cX12_unsubscribe 7 voV none 7 152) (hkb : ∀ (l1 : Int32) (l2 : Int32) (l3 : Int32), Sm g 7 77 [(0, .ref g.1.2.2.2.2.2), (1, .int l1), (2, .int l2), (3, .int l3)] [] (kb l1 l2 l3)) (hke125 : ∀ (l1 : Int32) (l2 : Int32) (l3 : Int32), Sm g 7 125 [(0, .ref g.1.2.2.2.2.2), (1, .int l1), (2, .int l2), (3, .int l3)] [] (ke125 l1 l2 l3)) (l1 : Int32) (l2 : Int32) (l3 : Int32) : Sm g 7 77 [(0, .ref g.1.2.2.2.2.2), (1, .int l1), (2, .int l2), (3, .int l3)] [] (R_unsubscribe_B77 kb ke125 l1 l2 l3) := by
  unfold R_unsubscribe_B77
  refine s_aload_n B.1 0 dX12_unsubscribe_77 rfl rfl ?_
  refine rr_getI B 79 mh_79 mk_79 mf_79 dX12_unsubscribe_78 (fun v19 => ?_)
  refine s_if_ne B.1 125 dX12_unsubscribe_81 (by decide) ?_ ?_
  · exact Sm.lvs [0, 1, 2, 3] rfl (hke125 l1 l2 l3)
  · refine s_aload_n B.1 0 dX12_unsubscribe_84 rfl rfl ?_
    refine rr_getI B 76 mh_76 mk_76 mf_76 dX12_unsubscribe_85 (fun v20 => ?_)
    refine s_aload_n B.1 0 dX12_unsubscribe_88 rfl rfl ?_
    refine rr_getI B 77 mh_77 mk_77 mf_77 dX12_unsubscribe_89 (fun v21 => ?_)
    refine s_icmp_ge B.1 125 dX12_unsubscribe_92 (by decide) ?_ ?_
    · exact Sm.lvs [0, 1, 2, 3] rfl (hke125 l1 l2 l3)
    · refine s_aload_n B.1 0 dX12_unsubscribe_95 rfl rfl ?_
      refine rr_cvv (As := []) (st := []) B (m_string B.ok) mc_string ml_string mi_string me_string ini12 md_string (by decide) rfl (Nat.le_of_ble_eq_true rfl) dX12_unsubscribe_96 (fun r22 => ?_)
      refine s_aload_n B.1 0 dX12_unsubscribe_99 rfl rfl ?_
      refine rr_getA B 93 mh_93 mn_93 mf_93 dX12_unsubscribe_100 ?_
      refine s_iload_n B.1 3 dX12_unsubscribe_103 rfl rfl ?_
      refine s_aload_n B.1 0 dX12_unsubscribe_104 rfl rfl ?_
      refine rr_getI B 80 mh_80 mk_80 mf_80 dX12_unsubscribe_105 (fun v23 => ?_)
      refine rr_iast B 93 mh_93 mk_93 dX12_unsubscribe_108 ?_
      refine s_aload_n B.1 0 dX12_unsubscribe_109 rfl rfl ?_
      refine rr_getA B 94 mh_94 mn_94 mf_94 dX12_unsubscribe_110 ?_
      refine s_iload_n B.1 3 dX12_unsubscribe_113 rfl rfl ?_
      refine s_aload_n B.1 0 dX12_unsubscribe_114 rfl rfl ?_
      refine rr_getI B 81 mh_81 mk_81 mf_81 dX12_unsubscribe_115 (fun v24 => ?_)
      refine rr_iast B 94 mh_94 mk_94 dX12_unsubscribe_118 ?_
      refine s_iinc (v := l3 + 1) (lv' := [(3, .int (l3 + 1)), (0, .ref g.1.2.2.2.2.2), (1, .int l1), (2, .int l2)]) B.1 3 dX12_unsubscribe_119 rfl rfl (by decide) rfl ?_
      refine s_goto B.1 77 dX12_unsubscribe_122 (by decide) ?_
      exact Sm.lvs [1, 2, 3, 0] rfl (hkb l1 l2 (l3 + 1))
set_option maxRecDepth 10000 in
theorem sm_unsubscribe_L77 {g : Gm RS Unit} {ke125 : Int32 → Int32 → Int32 → RS → Option (Unit × RS)} (B : Br g cX12_unsubscribe 7 voV none 7 152) (hke125 : ∀ (l1 : Int32) (l2 : Int32) (l3 : Int32), Sm g 7 125 [(0, .ref g.1.2.2.2.2.2), (1, .int l1), (2, .int l2), (3, .int l3)] [] (ke125 l1 l2 l3)) : ∀ (n : Nat) (l1 : Int32) (l2 : Int32) (l3 : Int32), Sm g 7 77 [(0, .ref g.1.2.2.2.2.2), (1, .int l1), (2, .int l2), (3, .int l3)] [] (R_unsubscribe_L77 ke125 n l1 l2 l3)
  | 0, _, _, _ => Sm.fail
  | n + 1, l1, l2, l3 => sm_unsubscribe_B77 B (sm_unsubscribe_L77 B hke125 n) hke125 l1 l2 l3
def R_unsubscribe_J33 (l1 : Int32) (l2 : Int32) : RS → Option (Unit × RS) :=
  rI 79 fun v25 =>
  if v25 = 0 then (
    bd (R_bit (38 : Int32)) fun r26 =>
    bd (R_properties r26) fun r27 =>
    rI 79 fun v28 =>
    if v28 = 0 then (
      rI 76 fun v29 =>
      rI 77 fun v30 =>
      if v29 = v30 then (
        bd (R_fails (130 : Int32)) fun r31 =>
        R_unsubscribe_L77 (fun l1 l2 l3 => R_unsubscribe_J125 l1 l2 l3) fu l1 l2 (0 : Int32)
      ) else (
        R_unsubscribe_L77 (fun l1 l2 l3 => R_unsubscribe_J125 l1 l2 l3) fu l1 l2 (0 : Int32)
      )
    ) else (
      R_unsubscribe_L77 (fun l1 l2 l3 => R_unsubscribe_J125 l1 l2 l3) fu l1 l2 (0 : Int32)
    )
  ) else (
    rt ()
  )
set_option maxRecDepth 10000 in
theorem sm_unsubscribe_J33 {g : Gm RS Unit} (B : Br g cX12_unsubscribe 7 voV none 7 152) (l1 : Int32) (l2 : Int32) : Sm g 7 33 [(0, .ref g.1.2.2.2.2.2), (1, .int l1), (2, .int l2)] [] (R_unsubscribe_J33 l1 l2) := by
  unfold R_unsubscribe_J33
  refine s_aload_n B.1 0 dX12_unsubscribe_33 rfl rfl ?_
  refine rr_getI B 79 mh_79 mk_79 mf_79 dX12_unsubscribe_34 (fun v25 => ?_)
  refine s_if_eq B.1 41 dX12_unsubscribe_37 (by decide) ?_ ?_
  · refine s_aload_n B.1 0 dX12_unsubscribe_41 rfl rfl ?_
    refine s_bipush (v := (38)) B.1 dX12_unsubscribe_42 (by decide) ?_
    refine rr_csl (As := [.int (38 : Int32)]) (st := [.ref g.1.2.2.2.2.2]) B (m_bit B.ok (38 : Int32)) mc_bit ml_bit ms_bit ini12 md_bit (by decide) rfl (Nat.le_of_ble_eq_true rfl) dX12_unsubscribe_44 (fun r26 => ?_)
    refine rr_cvv (As := [.long r26]) (st := []) B (m_properties B.ok r26) mc_properties ml_properties mi_properties me_properties ini12 md_properties (by decide) rfl (Nat.le_of_ble_eq_true rfl) dX12_unsubscribe_47 (fun r27 => ?_)
    refine s_iconst (v := 0) B.1 dX12_unsubscribe_50 (by decide) ?_
    refine s_istore_n (lv' := [(3, .int (0 : Int32)), (0, .ref g.1.2.2.2.2.2), (1, .int l1), (2, .int l2)]) B.1 dX12_unsubscribe_51 rfl (by decide) rfl ?_
    refine s_aload_n B.1 1 dX12_unsubscribe_52 rfl rfl ?_
    refine rr_getI B 79 mh_79 mk_79 mf_79 dX12_unsubscribe_53 (fun v28 => ?_)
    refine s_if_ne B.1 77 dX12_unsubscribe_56 (by decide) ?_ ?_
    · exact Sm.lvs [1, 2, 3, 0] rfl (sm_unsubscribe_L77 B (fun l1 l2 l3 => sm_unsubscribe_J125 B l1 l2 l3) fu l1 l2 (0 : Int32))
    · refine s_aload_n B.1 1 dX12_unsubscribe_59 rfl rfl ?_
      refine rr_getI B 76 mh_76 mk_76 mf_76 dX12_unsubscribe_60 (fun v29 => ?_)
      refine s_aload_n B.1 1 dX12_unsubscribe_63 rfl rfl ?_
      refine rr_getI B 77 mh_77 mk_77 mf_77 dX12_unsubscribe_64 (fun v30 => ?_)
      refine s_icmp_ne B.1 77 dX12_unsubscribe_67 (by decide) ?_ ?_
      · exact Sm.lvs [1, 2, 3, 0] rfl (sm_unsubscribe_L77 B (fun l1 l2 l3 => sm_unsubscribe_J125 B l1 l2 l3) fu l1 l2 (0 : Int32))
      · refine s_aload_n B.1 1 dX12_unsubscribe_70 rfl rfl ?_
        refine s_sipush (v := (130)) B.1 dX12_unsubscribe_71 (by decide) ?_
        refine rr_cvv (As := [.int (130 : Int32)]) (st := []) B (m_fails B.ok (130 : Int32)) mc_fails ml_fails mi_fails me_fails ini12 md_fails (by decide) rfl (Nat.le_of_ble_eq_true rfl) dX12_unsubscribe_74 (fun r31 => ?_)
        exact Sm.lvs [1, 2, 3, 0] rfl (sm_unsubscribe_L77 B (fun l1 l2 l3 => sm_unsubscribe_J125 B l1 l2 l3) fu l1 l2 (0 : Int32))
  · exact s_vret B.1 B.2.1 dX12_unsubscribe_40
def R_unsubscribe : RS → Option (Unit × RS) :=
  rI 75 fun v32 =>
  rA 7 v32 fun v33 =>
  bd (R_two) fun r34 =>
  rI 79 fun v35 =>
  if v35 = 0 then (
    if r34 = 0 then (
      bd (R_fails (130 : Int32)) fun r36 =>
      R_unsubscribe_J33 v33 r34
    ) else (
      R_unsubscribe_J33 v33 r34
    )
  ) else (
    R_unsubscribe_J33 v33 r34
  )
set_option maxRecDepth 10000 in
theorem m_unsubscribe {w : Wd} (hw : Wok w) : MR w yX12_unsubscribe cX12_unsubscribe 7 none 7 152 voV [.ref w.2.2.2.2.2] (R_unsubscribe) := by
  refine MR.of hw rfl (Nat.le_of_ble_eq_true rfl) (fun g hg B => ?_)
  subst hg
  unfold R_unsubscribe
  show Sm g 7 0 [(0, .ref g.1.2.2.2.2.2)] [] _
  refine s_aload_n B.1 0 dX12_unsubscribe_0 rfl rfl ?_
  refine rr_getA B 7 mh_7 mn_7 mf_7 dX12_unsubscribe_1 ?_
  refine s_aload_n B.1 0 dX12_unsubscribe_4 rfl rfl ?_
  refine rr_getI B 75 mh_75 mk_75 mf_75 dX12_unsubscribe_5 (fun v32 => ?_)
  refine rr_iald B 7 mh_7 mk_7 dX12_unsubscribe_8 (fun v33 => ?_)
  refine s_istore_n (lv' := [(1, .int v33), (0, .ref g.1.2.2.2.2.2)]) B.1 dX12_unsubscribe_9 rfl (by decide) rfl ?_
  refine s_aload_n B.1 1 dX12_unsubscribe_10 rfl rfl ?_
  refine rr_cvi (As := []) (st := []) B (m_two B.ok) mc_two ml_two mi_two me_two ini12 md_two (by decide) rfl (Nat.le_of_ble_eq_true rfl) dX12_unsubscribe_11 (fun r34 => ?_)
  refine s_istore_n (lv' := [(2, .int r34), (1, .int v33), (0, .ref g.1.2.2.2.2.2)]) B.1 dX12_unsubscribe_14 rfl (by decide) rfl ?_
  refine s_aload_n B.1 2 dX12_unsubscribe_15 rfl rfl ?_
  refine rr_getI B 79 mh_79 mk_79 mf_79 dX12_unsubscribe_16 (fun v35 => ?_)
  refine s_if_ne B.1 33 dX12_unsubscribe_19 (by decide) ?_ ?_
  · exact Sm.lvs [2, 1, 0] rfl (sm_unsubscribe_J33 B v33 r34)
  · refine s_iload_n B.1 0 dX12_unsubscribe_22 rfl rfl ?_
    refine s_if_ne B.1 33 dX12_unsubscribe_23 (by decide) ?_ ?_
    · exact Sm.lvs [2, 1, 0] rfl (sm_unsubscribe_J33 B v33 r34)
    · refine s_aload_n B.1 2 dX12_unsubscribe_26 rfl rfl ?_
      refine s_sipush (v := (130)) B.1 dX12_unsubscribe_27 (by decide) ?_
      refine rr_cvv (As := [.int (130 : Int32)]) (st := []) B (m_fails B.ok (130 : Int32)) mc_fails ml_fails mi_fails me_fails ini12 md_fails (by decide) rfl (Nat.le_of_ble_eq_true rfl) dX12_unsubscribe_30 (fun r36 => ?_)
      exact Sm.lvs [2, 1, 0] rfl (sm_unsubscribe_J33 B v33 r34)
def R_take__J199 (l2 : Int32) (l3 : Int32) (l6 : Int32) : RS → Option (Unit × RS) :=
  if l2 = (1 : Int32) then (
    bd (R_connect) fun r7 =>
    rt ()
  ) else (
    if l2 = (3 : Int32) then (
      bd (R_publish l6 (l3 &&& (1 : Int32))) fun r6 =>
      rt ()
    ) else (
      if (8 : Int32) ≤ l2 then (
        if l2 = (8 : Int32) then (
          bd (R_subscribe) fun r4 =>
          rt ()
        ) else (
          if l2 = (10 : Int32) then (
            bd (R_unsubscribe) fun r3 =>
            rt ()
          ) else (
            if l2 = (12 : Int32) then (
              bd (R_ping) fun r2 =>
              rt ()
            ) else (
              bd (R_disconnect) fun r1 =>
              rt ()
            )
          )
        )
      ) else (
        bd (R_answered l2) fun r5 =>
        rt ()
      )
    )
  )
set_option maxRecDepth 10000 in
theorem sm_take__J199 {g : Gm RS Unit} (B : Br g cX12_take_ 7 voV none 10 263) (l2 : Int32) (l3 : Int32) (l6 : Int32) : Sm g 7 199 [(0, .ref g.1.2.2.2.2.2), (2, .int l2), (3, .int l3), (6, .int l6)] [] (R_take__J199 l2 l3 l6) := by
  unfold R_take__J199
  refine s_iload_n B.1 1 dX12_take__199 rfl rfl ?_
  refine s_iconst (v := 1) B.1 dX12_take__200 (by decide) ?_
  refine s_icmp_ne B.1 211 dX12_take__201 (by decide) ?_ ?_
  · refine s_iload_n B.1 1 dX12_take__211 rfl rfl ?_
    refine s_iconst (v := 3) B.1 dX12_take__212 (by decide) ?_
    refine s_icmp_ne B.1 228 dX12_take__213 (by decide) ?_ ?_
    · refine s_iload_n B.1 1 dX12_take__228 rfl rfl ?_
      refine s_bipush (v := (8)) B.1 dX12_take__229 (by decide) ?_
      refine s_icmp_ge B.1 242 dX12_take__231 (by decide) ?_ ?_
      · refine s_iload_n B.1 1 dX12_take__242 rfl rfl ?_
        refine s_bipush (v := (8)) B.1 dX12_take__243 (by decide) ?_
        refine s_icmp_ne B.1 255 dX12_take__245 (by decide) ?_ ?_
        · refine s_iload_n B.1 1 dX12_take__255 rfl rfl ?_
          refine s_bipush (v := (10)) B.1 dX12_take__256 (by decide) ?_
          refine s_icmp_ne B.1 268 dX12_take__258 (by decide) ?_ ?_
          · refine s_iload_n B.1 1 dX12_take__268 rfl rfl ?_
            refine s_bipush (v := (12)) B.1 dX12_take__269 (by decide) ?_
            refine s_icmp_ne B.1 281 dX12_take__271 (by decide) ?_ ?_
            · refine s_aload_n B.1 0 dX12_take__281 rfl rfl ?_
              refine rr_cvv (As := []) (st := []) B (m_disconnect B.ok) mc_disconnect ml_disconnect mi_disconnect me_disconnect ini12 md_disconnect (by decide) rfl (Nat.le_of_ble_eq_true rfl) dX12_take__282 (fun r1 => ?_)
              exact s_vret B.1 B.2.1 dX12_take__285
            · refine s_aload_n B.1 0 dX12_take__274 rfl rfl ?_
              refine rr_cvv (As := []) (st := []) B (m_ping B.ok) mc_ping ml_ping mi_ping me_ping ini12 md_ping (by decide) rfl (Nat.le_of_ble_eq_true rfl) dX12_take__275 (fun r2 => ?_)
              refine s_goto B.1 285 dX12_take__278 (by decide) ?_
              exact s_vret B.1 B.2.1 dX12_take__285
          · refine s_aload_n B.1 0 dX12_take__261 rfl rfl ?_
            refine rr_cvv (As := []) (st := []) B (m_unsubscribe B.ok) mc_unsubscribe ml_unsubscribe mi_unsubscribe me_unsubscribe ini12 md_unsubscribe (by decide) rfl (Nat.le_of_ble_eq_true rfl) dX12_take__262 (fun r3 => ?_)
            refine s_goto B.1 285 dX12_take__265 (by decide) ?_
            exact s_vret B.1 B.2.1 dX12_take__285
        · refine s_aload_n B.1 0 dX12_take__248 rfl rfl ?_
          refine rr_cvv (As := []) (st := []) B (m_subscribe B.ok) mc_subscribe ml_subscribe mi_subscribe me_subscribe ini12 md_subscribe (by decide) rfl (Nat.le_of_ble_eq_true rfl) dX12_take__249 (fun r4 => ?_)
          refine s_goto B.1 285 dX12_take__252 (by decide) ?_
          exact s_vret B.1 B.2.1 dX12_take__285
      · refine s_aload_n B.1 0 dX12_take__234 rfl rfl ?_
        refine s_iload_n B.1 1 dX12_take__235 rfl rfl ?_
        refine rr_cvv (As := [.int l2]) (st := []) B (m_answered B.ok l2) mc_answered ml_answered mi_answered me_answered ini12 md_answered (by decide) rfl (Nat.le_of_ble_eq_true rfl) dX12_take__236 (fun r5 => ?_)
        refine s_goto B.1 285 dX12_take__239 (by decide) ?_
        exact s_vret B.1 B.2.1 dX12_take__285
    · refine s_aload_n B.1 0 dX12_take__216 rfl rfl ?_
      refine s_iload B.1 3 dX12_take__217 rfl ?_
      refine s_iload_n B.1 2 dX12_take__219 rfl rfl ?_
      refine s_iconst (v := 1) B.1 dX12_take__220 (by decide) ?_
      refine s_iand B.1 dX12_take__221 ?_
      refine rr_cvv (As := [.int l6, .int (l3 &&& (1 : Int32))]) (st := []) B (m_publish B.ok l6 (l3 &&& (1 : Int32))) mc_publish ml_publish mi_publish me_publish ini12 md_publish (by decide) rfl (Nat.le_of_ble_eq_true rfl) dX12_take__222 (fun r6 => ?_)
      refine s_goto B.1 285 dX12_take__225 (by decide) ?_
      exact s_vret B.1 B.2.1 dX12_take__285
  · refine s_aload_n B.1 0 dX12_take__204 rfl rfl ?_
    refine rr_cvv (As := []) (st := []) B (m_connect B.ok) mc_connect ml_connect mi_connect me_connect ini12 md_connect (by decide) rfl (Nat.le_of_ble_eq_true rfl) dX12_take__205 (fun r7 => ?_)
    refine s_goto B.1 285 dX12_take__208 (by decide) ?_
    exact s_vret B.1 B.2.1 dX12_take__285
def R_take__J189 : RS → Option (Unit × RS) :=
  bd (R_fails (129 : Int32)) fun r8 =>
  rt ()
set_option maxRecDepth 10000 in
theorem sm_take__J189 {g : Gm RS Unit} (B : Br g cX12_take_ 7 voV none 10 263) : Sm g 7 189 [(0, .ref g.1.2.2.2.2.2)] [] (R_take__J189) := by
  unfold R_take__J189
  refine s_aload_n B.1 0 dX12_take__189 rfl rfl ?_
  refine s_sipush (v := (129)) B.1 dX12_take__190 (by decide) ?_
  refine rr_cvv (As := [.int (129 : Int32)]) (st := []) B (m_fails B.ok (129 : Int32)) mc_fails ml_fails mi_fails me_fails ini12 md_fails (by decide) rfl (Nat.le_of_ble_eq_true rfl) dX12_take__193 (fun r8 => ?_)
  refine s_goto B.1 285 dX12_take__196 (by decide) ?_
  exact s_vret B.1 B.2.1 dX12_take__285
def R_take__J133 (l2 : Int32) (l3 : Int32) (l4 : Int32) (s0 : Int32) : RS → Option (Unit × RS) :=
  lq ((l3 >>> ((1 : Int32) &&& 31)) &&& (3 : Int32)) fun x9 =>
  if l4 = 0 then (
    if l2 = (3 : Int32) then (
      if x9 = (3 : Int32) then (
        R_take__J189
      ) else (
        if x9 = 0 then (
          if (l3 &&& (8 : Int32)) = 0 then (
            R_take__J199 l2 l3 x9
          ) else (
            R_take__J189
          )
        ) else (
          R_take__J199 l2 l3 x9
        )
      )
    ) else (
      if l3 = s0 then (
        R_take__J199 l2 l3 x9
      ) else (
        R_take__J189
      )
    )
  ) else (
    bd (R_fails (130 : Int32)) fun r10 =>
    rt ()
  )
set_option maxRecDepth 10000 in
theorem sm_take__J133 {g : Gm RS Unit} (B : Br g cX12_take_ 7 voV none 10 263) (l2 : Int32) (l3 : Int32) (l4 : Int32) (s0 : Int32) : Sm g 7 133 [(0, .ref g.1.2.2.2.2.2), (2, .int l2), (3, .int l3), (4, .int l4)] [.int s0] (R_take__J133 l2 l3 l4 s0) := by
  unfold R_take__J133
  refine s_istore (lv' := [(5, .int s0), (0, .ref g.1.2.2.2.2.2), (2, .int l2), (3, .int l3), (4, .int l4)]) B.1 dX12_take__133 (by decide) rfl ?_
  refine s_iload_n B.1 3 dX12_take__135 rfl rfl ?_
  refine s_iconst (v := 1) B.1 dX12_take__136 (by decide) ?_
  refine s_ishr B.1 dX12_take__137 ?_
  refine s_iconst (v := 3) B.1 dX12_take__138 (by decide) ?_
  refine s_iand B.1 dX12_take__139 ?_
  refine s_lqi (fun x9 => ?_)
  refine s_istore (lv' := [(6, .int x9), (5, .int s0), (0, .ref g.1.2.2.2.2.2), (2, .int l2), (3, .int l3), (4, .int l4)]) B.1 dX12_take__140 (by decide) rfl ?_
  refine s_iload B.1 5 dX12_take__142 rfl ?_
  refine s_if_eq B.1 157 dX12_take__144 (by decide) ?_ ?_
  · refine s_iload_n B.1 3 dX12_take__157 rfl rfl ?_
    refine s_iconst (v := 3) B.1 dX12_take__158 (by decide) ?_
    refine s_icmp_ne B.1 183 dX12_take__159 (by decide) ?_ ?_
    · refine s_iload_n B.1 4 dX12_take__183 rfl rfl ?_
      refine s_iload B.1 1 dX12_take__184 rfl ?_
      refine s_icmp_eq B.1 199 dX12_take__186 (by decide) ?_ ?_
      · exact Sm.lvs [2, 3, 4, 0] rfl (sm_take__J199 B l2 l3 x9)
      · exact Sm.lvs [2] rfl (sm_take__J189 B)
    · refine s_iload B.1 0 dX12_take__162 rfl ?_
      refine s_iconst (v := 3) B.1 dX12_take__164 (by decide) ?_
      refine s_icmp_eq B.1 189 dX12_take__165 (by decide) ?_ ?_
      · exact Sm.lvs [2] rfl (sm_take__J189 B)
      · refine s_iload B.1 0 dX12_take__168 rfl ?_
        refine s_if_ne B.1 199 dX12_take__170 (by decide) ?_ ?_
        · exact Sm.lvs [2, 3, 4, 0] rfl (sm_take__J199 B l2 l3 x9)
        · refine s_iload_n B.1 4 dX12_take__173 rfl rfl ?_
          refine s_bipush (v := (8)) B.1 dX12_take__174 (by decide) ?_
          refine s_iand B.1 dX12_take__176 ?_
          refine s_if_eq B.1 199 dX12_take__177 (by decide) ?_ ?_
          · exact Sm.lvs [2, 3, 4, 0] rfl (sm_take__J199 B l2 l3 x9)
          · refine s_goto B.1 189 dX12_take__180 (by decide) ?_
            exact Sm.lvs [2] rfl (sm_take__J189 B)
  · refine s_aload_n B.1 2 dX12_take__147 rfl rfl ?_
    refine s_sipush (v := (130)) B.1 dX12_take__148 (by decide) ?_
    refine rr_cvv (As := [.int (130 : Int32)]) (st := []) B (m_fails B.ok (130 : Int32)) mc_fails ml_fails mi_fails me_fails ini12 md_fails (by decide) rfl (Nat.le_of_ble_eq_true rfl) dX12_take__151 (fun r10 => ?_)
    refine s_goto B.1 285 dX12_take__154 (by decide) ?_
    exact s_vret B.1 B.2.1 dX12_take__285
def R_take__J128 (l2 : Int32) (l3 : Int32) (l4 : Int32) : RS → Option (Unit × RS) :=
  R_take__J133 l2 l3 l4 (2 : Int32)
set_option maxRecDepth 10000 in
theorem sm_take__J128 {g : Gm RS Unit} (B : Br g cX12_take_ 7 voV none 10 263) (l2 : Int32) (l3 : Int32) (l4 : Int32) : Sm g 7 128 [(0, .ref g.1.2.2.2.2.2), (2, .int l2), (3, .int l3), (4, .int l4)] [] (R_take__J128 l2 l3 l4) := by
  unfold R_take__J128
  refine s_iconst (v := 2) B.1 dX12_take__128 (by decide) ?_
  refine s_goto B.1 133 dX12_take__129 (by decide) ?_
  exact Sm.lvs [0, 1, 2, 3] rfl (sm_take__J133 B l2 l3 l4 (2 : Int32))
def R_take__J108 (l2 : Int32) (l3 : Int32) (s0 : Int32) : RS → Option (Unit × RS) :=
  if l2 = (6 : Int32) then (
    R_take__J128 l2 l3 s0
  ) else (
    if l2 = (8 : Int32) then (
      R_take__J128 l2 l3 s0
    ) else (
      if l2 = (10 : Int32) then (
        R_take__J128 l2 l3 s0
      ) else (
        R_take__J133 l2 l3 s0 (0 : Int32)
      )
    )
  )
set_option maxRecDepth 10000 in
theorem sm_take__J108 {g : Gm RS Unit} (B : Br g cX12_take_ 7 voV none 10 263) (l2 : Int32) (l3 : Int32) (s0 : Int32) : Sm g 7 108 [(0, .ref g.1.2.2.2.2.2), (2, .int l2), (3, .int l3)] [.int s0] (R_take__J108 l2 l3 s0) := by
  unfold R_take__J108
  refine s_istore (lv' := [(4, .int s0), (0, .ref g.1.2.2.2.2.2), (2, .int l2), (3, .int l3)]) B.1 dX12_take__108 (by decide) rfl ?_
  refine s_iload_n B.1 2 dX12_take__110 rfl rfl ?_
  refine s_bipush (v := (6)) B.1 dX12_take__111 (by decide) ?_
  refine s_icmp_eq B.1 128 dX12_take__113 (by decide) ?_ ?_
  · exact Sm.lvs [1, 2, 3, 0] rfl (sm_take__J128 B l2 l3 s0)
  · refine s_iload_n B.1 2 dX12_take__116 rfl rfl ?_
    refine s_bipush (v := (8)) B.1 dX12_take__117 (by decide) ?_
    refine s_icmp_eq B.1 128 dX12_take__119 (by decide) ?_ ?_
    · exact Sm.lvs [1, 2, 3, 0] rfl (sm_take__J128 B l2 l3 s0)
    · refine s_iload_n B.1 2 dX12_take__122 rfl rfl ?_
      refine s_bipush (v := (10)) B.1 dX12_take__123 (by decide) ?_
      refine s_icmp_ne B.1 132 dX12_take__125 (by decide) ?_ ?_
      · refine s_iconst (v := 0) B.1 dX12_take__132 (by decide) ?_
        exact Sm.lvs [1, 2, 3, 0] rfl (sm_take__J133 B l2 l3 s0 (0 : Int32))
      · exact Sm.lvs [1, 2, 3, 0] rfl (sm_take__J128 B l2 l3 s0)
def R_take__J107 (l2 : Int32) (l3 : Int32) : RS → Option (Unit × RS) :=
  R_take__J108 l2 l3 (0 : Int32)
set_option maxRecDepth 10000 in
theorem sm_take__J107 {g : Gm RS Unit} (B : Br g cX12_take_ 7 voV none 10 263) (l2 : Int32) (l3 : Int32) : Sm g 7 107 [(0, .ref g.1.2.2.2.2.2), (2, .int l2), (3, .int l3)] [] (R_take__J107 l2 l3) := by
  unfold R_take__J107
  refine s_iconst (v := 0) B.1 dX12_take__107 (by decide) ?_
  exact Sm.lvs [0, 1, 2] rfl (sm_take__J108 B l2 l3 (0 : Int32))
def R_take__J103 (l2 : Int32) (l3 : Int32) : RS → Option (Unit × RS) :=
  R_take__J108 l2 l3 (1 : Int32)
set_option maxRecDepth 10000 in
theorem sm_take__J103 {g : Gm RS Unit} (B : Br g cX12_take_ 7 voV none 10 263) (l2 : Int32) (l3 : Int32) : Sm g 7 103 [(0, .ref g.1.2.2.2.2.2), (2, .int l2), (3, .int l3)] [] (R_take__J103 l2 l3) := by
  unfold R_take__J103
  refine s_iconst (v := 1) B.1 dX12_take__103 (by decide) ?_
  refine s_goto B.1 108 dX12_take__104 (by decide) ?_
  exact Sm.lvs [0, 1, 2] rfl (sm_take__J108 B l2 l3 (1 : Int32))
def R_take__J53 (l2 : Int32) (l3 : Int32) : RS → Option (Unit × RS) :=
  if l2 = 0 then (
    R_take__J103 l2 l3
  ) else (
    if l2 = (2 : Int32) then (
      R_take__J103 l2 l3
    ) else (
      if l2 = (9 : Int32) then (
        R_take__J103 l2 l3
      ) else (
        if l2 = (11 : Int32) then (
          R_take__J103 l2 l3
        ) else (
          if l2 = (13 : Int32) then (
            R_take__J103 l2 l3
          ) else (
            if l2 = (15 : Int32) then (
              R_take__J103 l2 l3
            ) else (
              if l2 = (1 : Int32) then (
                rI 75 fun v11 =>
                rA 7 v11 fun v12 =>
                if v12 < 0 then (
                  R_take__J107 l2 l3
                ) else (
                  R_take__J103 l2 l3
                )
              ) else (
                R_take__J107 l2 l3
              )
            )
          )
        )
      )
    )
  )
set_option maxRecDepth 10000 in
theorem sm_take__J53 {g : Gm RS Unit} (B : Br g cX12_take_ 7 voV none 10 263) (l2 : Int32) (l3 : Int32) : Sm g 7 53 [(0, .ref g.1.2.2.2.2.2), (2, .int l2), (3, .int l3)] [] (R_take__J53 l2 l3) := by
  unfold R_take__J53
  refine s_iload_n B.1 1 dX12_take__53 rfl rfl ?_
  refine s_if_eq B.1 103 dX12_take__54 (by decide) ?_ ?_
  · exact Sm.lvs [0, 1, 2] rfl (sm_take__J103 B l2 l3)
  · refine s_iload_n B.1 1 dX12_take__57 rfl rfl ?_
    refine s_iconst (v := 2) B.1 dX12_take__58 (by decide) ?_
    refine s_icmp_eq B.1 103 dX12_take__59 (by decide) ?_ ?_
    · exact Sm.lvs [0, 1, 2] rfl (sm_take__J103 B l2 l3)
    · refine s_iload_n B.1 1 dX12_take__62 rfl rfl ?_
      refine s_bipush (v := (9)) B.1 dX12_take__63 (by decide) ?_
      refine s_icmp_eq B.1 103 dX12_take__65 (by decide) ?_ ?_
      · exact Sm.lvs [0, 1, 2] rfl (sm_take__J103 B l2 l3)
      · refine s_iload_n B.1 1 dX12_take__68 rfl rfl ?_
        refine s_bipush (v := (11)) B.1 dX12_take__69 (by decide) ?_
        refine s_icmp_eq B.1 103 dX12_take__71 (by decide) ?_ ?_
        · exact Sm.lvs [0, 1, 2] rfl (sm_take__J103 B l2 l3)
        · refine s_iload_n B.1 1 dX12_take__74 rfl rfl ?_
          refine s_bipush (v := (13)) B.1 dX12_take__75 (by decide) ?_
          refine s_icmp_eq B.1 103 dX12_take__77 (by decide) ?_ ?_
          · exact Sm.lvs [0, 1, 2] rfl (sm_take__J103 B l2 l3)
          · refine s_iload_n B.1 1 dX12_take__80 rfl rfl ?_
            refine s_bipush (v := (15)) B.1 dX12_take__81 (by decide) ?_
            refine s_icmp_eq B.1 103 dX12_take__83 (by decide) ?_ ?_
            · exact Sm.lvs [0, 1, 2] rfl (sm_take__J103 B l2 l3)
            · refine s_iload_n B.1 1 dX12_take__86 rfl rfl ?_
              refine s_iconst (v := 1) B.1 dX12_take__87 (by decide) ?_
              refine s_icmp_ne B.1 107 dX12_take__88 (by decide) ?_ ?_
              · exact Sm.lvs [0, 1, 2] rfl (sm_take__J107 B l2 l3)
              · refine s_aload_n B.1 0 dX12_take__91 rfl rfl ?_
                refine rr_getA B 7 mh_7 mn_7 mf_7 dX12_take__92 ?_
                refine s_aload_n B.1 0 dX12_take__95 rfl rfl ?_
                refine rr_getI B 75 mh_75 mk_75 mf_75 dX12_take__96 (fun v11 => ?_)
                refine rr_iald B 7 mh_7 mk_7 dX12_take__99 (fun v12 => ?_)
                refine s_if_lt B.1 107 dX12_take__100 (by decide) ?_ ?_
                · exact Sm.lvs [0, 1, 2] rfl (sm_take__J107 B l2 l3)
                · exact Sm.lvs [0, 1, 2] rfl (sm_take__J103 B l2 l3)
def R_take_ : RS → Option (Unit × RS) :=
  rI 75 fun v13 =>
  rA 6 ((410 : Int32) * v13) fun v14 =>
  lq (v14 &&& (255 : Int32)) fun x15 =>
  lq (x15 >>> ((4 : Int32) &&& 31)) fun x16 =>
  lq (x15 &&& (15 : Int32)) fun x17 =>
  rI 75 fun v18 =>
  rA 7 v18 fun v19 =>
  if 0 ≤ v19 then (
    R_take__J53 x16 x17
  ) else (
    if x16 = (1 : Int32) then (
      R_take__J53 x16 x17
    ) else (
      rI 75 fun v20 =>
      bd (R_lost v20) fun r21 =>
      rt ()
    )
  )
set_option maxRecDepth 10000 in
theorem m_take_ {w : Wd} (hw : Wok w) : MR w yX12_take_ cX12_take_ 7 none 10 263 voV [.ref w.2.2.2.2.2] (R_take_) := by
  refine MR.of hw rfl (Nat.le_of_ble_eq_true rfl) (fun g hg B => ?_)
  subst hg
  unfold R_take_
  show Sm g 7 0 [(0, .ref g.1.2.2.2.2.2)] [] _
  refine s_aload_n B.1 0 dX12_take__0 rfl rfl ?_
  refine rr_getA B 6 mh_6 mn_6 mf_6 dX12_take__1 ?_
  refine s_sipush (v := (410)) B.1 dX12_take__4 (by decide) ?_
  refine s_aload_n B.1 0 dX12_take__7 rfl rfl ?_
  refine rr_getI B 75 mh_75 mk_75 mf_75 dX12_take__8 (fun v13 => ?_)
  refine s_imul B.1 dX12_take__11 ?_
  refine rr_bald B 6 mh_6 mk_6 dX12_take__12 (fun v14 => ?_)
  refine s_sipush (v := (255)) B.1 dX12_take__13 (by decide) ?_
  refine s_iand B.1 dX12_take__16 ?_
  refine s_lqi (fun x15 => ?_)
  refine s_istore_n (lv' := [(1, .int x15), (0, .ref g.1.2.2.2.2.2)]) B.1 dX12_take__17 rfl (by decide) rfl ?_
  refine s_iload_n B.1 0 dX12_take__18 rfl rfl ?_
  refine s_iconst (v := 4) B.1 dX12_take__19 (by decide) ?_
  refine s_ishr B.1 dX12_take__20 ?_
  refine s_lqi (fun x16 => ?_)
  refine s_istore_n (lv' := [(2, .int x16), (1, .int x15), (0, .ref g.1.2.2.2.2.2)]) B.1 dX12_take__21 rfl (by decide) rfl ?_
  refine s_iload_n B.1 1 dX12_take__22 rfl rfl ?_
  refine s_bipush (v := (15)) B.1 dX12_take__23 (by decide) ?_
  refine s_iand B.1 dX12_take__25 ?_
  refine s_lqi (fun x17 => ?_)
  refine s_istore_n (lv' := [(3, .int x17), (2, .int x16), (1, .int x15), (0, .ref g.1.2.2.2.2.2)]) B.1 dX12_take__26 rfl (by decide) rfl ?_
  refine s_aload_n B.1 3 dX12_take__27 rfl rfl ?_
  refine rr_getA B 7 mh_7 mn_7 mf_7 dX12_take__28 ?_
  refine s_aload_n B.1 3 dX12_take__31 rfl rfl ?_
  refine rr_getI B 75 mh_75 mk_75 mf_75 dX12_take__32 (fun v18 => ?_)
  refine rr_iald B 7 mh_7 mk_7 dX12_take__35 (fun v19 => ?_)
  refine s_if_ge B.1 53 dX12_take__36 (by decide) ?_ ?_
  · exact Sm.lvs [3, 1, 0] rfl (sm_take__J53 B x16 x17)
  · refine s_iload_n B.1 1 dX12_take__39 rfl rfl ?_
    refine s_iconst (v := 1) B.1 dX12_take__40 (by decide) ?_
    refine s_icmp_eq B.1 53 dX12_take__41 (by decide) ?_ ?_
    · exact Sm.lvs [3, 1, 0] rfl (sm_take__J53 B x16 x17)
    · refine s_aload_n B.1 3 dX12_take__44 rfl rfl ?_
      refine s_aload_n B.1 3 dX12_take__45 rfl rfl ?_
      refine rr_getI B 75 mh_75 mk_75 mf_75 dX12_take__46 (fun v20 => ?_)
      refine rr_cvv (As := [.int v20]) (st := []) B (m_lost B.ok v20) mc_lost ml_lost mi_lost me_lost ini12 md_lost (by decide) rfl (Nat.le_of_ble_eq_true rfl) dX12_take__49 (fun r21 => ?_)
      exact s_vret B.1 B.2.1 dX12_take__52
