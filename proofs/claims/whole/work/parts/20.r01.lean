def R_wayOf_J35 : RS → Option (Int32 × RS) :=
  rt ((-1 : Int32))
set_option maxRecDepth 10000 in
theorem sm_wayOf_J35 {g : Gm RS Int32} (B : Br g cX12_wayOf 4 voI (some .int) 0 0) : Sm g 4 35 [] [] (R_wayOf_J35) := by
  unfold R_wayOf_J35
  refine s_iconst (v := (-1)) B.1 dX12_wayOf_35 (by decide) ?_
  exact s_iret B.1 B.2.1 dX12_wayOf_36
def R_wayOf_J27 (l3 : Int32) : RS → Option (Int32 × RS) :=
  rt (l3)
set_option maxRecDepth 10000 in
theorem sm_wayOf_J27 {g : Gm RS Int32} (B : Br g cX12_wayOf 4 voI (some .int) 0 0) (l3 : Int32) : Sm g 4 27 [(3, .int l3)] [] (R_wayOf_J27 l3) := by
  unfold R_wayOf_J27
  refine s_iload_n B.1 0 dX12_wayOf_27 rfl rfl ?_
  exact s_iret B.1 B.2.1 dX12_wayOf_28
def R_wayOf_B2 (kb : Int32 → Int32 → Int32 → RS → Option (Int32 × RS)) (ke27 : Int32 → RS → Option (Int32 × RS)) (ke35 : RS → Option (Int32 × RS)) (l1 : Int32) (l2 : Int32) (l3 : Int32) : RS → Option (Int32 × RS) :=
  rA 31 l1 fun v1 =>
  if v1 ≤ l3 then (
    ke35
  ) else (
    rA 32 (((16 : Int32) * l1) + l3) fun v2 =>
    if v2 = l2 then (
      ke27 l3
    ) else (
      kb l1 l2 (l3 + 1)
    )
  )
def R_wayOf_L2 (ke27 : Int32 → RS → Option (Int32 × RS)) (ke35 : RS → Option (Int32 × RS)) : Nat → Int32 → Int32 → Int32 → RS → Option (Int32 × RS)
  | 0, _, _, _ => no
  | n + 1, l1, l2, l3 => R_wayOf_B2 (fun l1 l2 l3 => R_wayOf_L2 ke27 ke35 n l1 l2 l3) ke27 ke35 l1 l2 l3
set_option maxRecDepth 10000 in
theorem sm_wayOf_B2 {g : Gm RS Int32} {kb : Int32 → Int32 → Int32 → RS → Option (Int32 × RS)} {ke27 : Int32 → RS → Option (Int32 × RS)} {ke35 : RS → Option (Int32 × RS)} (B : Br g cX12_wayOf 4 voI (some .int) 0 0) (hkb : ∀ (l1 : Int32) (l2 : Int32) (l3 : Int32), Sm g 4 2 [(0, .ref g.1.2.2.2.2.2), (1, .int l1), (2, .int l2), (3, .int l3)] [] (kb l1 l2 l3)) (hke27 : ∀ (l3 : Int32), Sm g 4 27 [(3, .int l3)] [] (ke27 l3)) (hke35 : Sm g 4 35 [] [] (ke35)) (l1 : Int32) (l2 : Int32) (l3 : Int32) : Sm g 4 2 [(0, .ref g.1.2.2.2.2.2), (1, .int l1), (2, .int l2), (3, .int l3)] [] (R_wayOf_B2 kb ke27 ke35 l1 l2 l3) := by
  unfold R_wayOf_B2
  refine s_iload_n B.1 3 dX12_wayOf_2 rfl rfl ?_
  refine s_aload_n B.1 0 dX12_wayOf_3 rfl rfl ?_
  refine rr_getA B 31 mh_31 mn_31 mf_31 dX12_wayOf_4 ?_
  refine s_iload_n B.1 1 dX12_wayOf_7 rfl rfl ?_
  refine rr_iald B 31 mh_31 mk_31 dX12_wayOf_8 (fun v1 => ?_)
  refine s_icmp_ge B.1 35 dX12_wayOf_9 (by decide) ?_ ?_
  · exact Sm.lvs [] rfl (hke35)
  · refine s_aload_n B.1 0 dX12_wayOf_12 rfl rfl ?_
    refine rr_getA B 32 mh_32 mn_32 mf_32 dX12_wayOf_13 ?_
    refine s_bipush (v := (16)) B.1 dX12_wayOf_16 (by decide) ?_
    refine s_iload_n B.1 1 dX12_wayOf_18 rfl rfl ?_
    refine s_imul B.1 dX12_wayOf_19 ?_
    refine s_iload_n B.1 3 dX12_wayOf_20 rfl rfl ?_
    refine s_iadd B.1 dX12_wayOf_21 ?_
    refine rr_iald B 32 mh_32 mk_32 dX12_wayOf_22 (fun v2 => ?_)
    refine s_iload_n B.1 2 dX12_wayOf_23 rfl rfl ?_
    refine s_icmp_ne B.1 29 dX12_wayOf_24 (by decide) ?_ ?_
    · refine s_iinc (v := l3 + 1) (lv' := [(3, .int (l3 + 1)), (0, .ref g.1.2.2.2.2.2), (1, .int l1), (2, .int l2)]) B.1 3 dX12_wayOf_29 rfl rfl (by decide) rfl ?_
      refine s_goto B.1 2 dX12_wayOf_32 (by decide) ?_
      exact Sm.lvs [1, 2, 3, 0] rfl (hkb l1 l2 (l3 + 1))
    · exact Sm.lvs [3] rfl (hke27 l3)
set_option maxRecDepth 10000 in
theorem sm_wayOf_L2 {g : Gm RS Int32} {ke27 : Int32 → RS → Option (Int32 × RS)} {ke35 : RS → Option (Int32 × RS)} (B : Br g cX12_wayOf 4 voI (some .int) 0 0) (hke27 : ∀ (l3 : Int32), Sm g 4 27 [(3, .int l3)] [] (ke27 l3)) (hke35 : Sm g 4 35 [] [] (ke35)) : ∀ (n : Nat) (l1 : Int32) (l2 : Int32) (l3 : Int32), Sm g 4 2 [(0, .ref g.1.2.2.2.2.2), (1, .int l1), (2, .int l2), (3, .int l3)] [] (R_wayOf_L2 ke27 ke35 n l1 l2 l3)
  | 0, _, _, _ => Sm.fail
  | n + 1, l1, l2, l3 => sm_wayOf_B2 B (sm_wayOf_L2 B hke27 hke35 n) hke27 hke35 l1 l2 l3
def R_wayOf (l1 : Int32) (l2 : Int32) : RS → Option (Int32 × RS) :=
  R_wayOf_L2 (fun l3 => R_wayOf_J27 l3) (R_wayOf_J35) fu l1 l2 (0 : Int32)
set_option maxRecDepth 10000 in
theorem m_wayOf {w : Wd} (hw : Wok w) (l1 : Int32) (l2 : Int32) : MR w yX12_wayOf cX12_wayOf 4 (some .int) 0 0 voI [.ref w.2.2.2.2.2, .int l1, .int l2] (R_wayOf l1 l2) := by
  refine MR.of hw rfl (Nat.le_of_ble_eq_true rfl) (fun g hg B => ?_)
  subst hg
  unfold R_wayOf
  show Sm g 4 0 [(0, .ref g.1.2.2.2.2.2), (1, .int l1), (2, .int l2)] [] _
  refine s_iconst (v := 0) B.1 dX12_wayOf_0 (by decide) ?_
  refine s_istore_n (lv' := [(3, .int (0 : Int32)), (0, .ref g.1.2.2.2.2.2), (1, .int l1), (2, .int l2)]) B.1 dX12_wayOf_1 rfl (by decide) rfl ?_
  exact Sm.lvs [1, 2, 3, 0] rfl (sm_wayOf_L2 B (fun l3 => sm_wayOf_J27 B l3) (sm_wayOf_J35 B) fu l1 l2 (0 : Int32))
def R_begin_J28 (l1 : Int32) (l2 : Int32) (l3 : Int32) (l4 : Int32) (l5 : Int32) (l6 : Int32) : RS → Option (Unit × RS) :=
  bd (R_sendPublish l1 l2 l3 l4 l5 l6 (0 : Int32)) fun r1 =>
  if r1 = 0 then (
    rt ()
  ) else (
    rA 31 l1 fun v2 =>
    wA 31 l1 (v2 + (1 : Int32)) <|
    lq (((16 : Int32) * l1) + v2) fun x3 =>
    wA 32 x3 l6 <|
    wA 33 x3 l2 <|
    wA 34 x3 l3 <|
    wA 35 x3 l4 <|
    wA 36 x3 l5 <|
    wA 37 x3 (vp_nar .boolean (0 : Int32)) <|
    rt ()
  )
set_option maxRecDepth 10000 in
theorem sm_begin_J28 {g : Gm RS Unit} (B : Br g cX12_begin 8 voV none 3 77) (l1 : Int32) (l2 : Int32) (l3 : Int32) (l4 : Int32) (l5 : Int32) (l6 : Int32) : Sm g 8 28 [(0, .ref g.1.2.2.2.2.2), (1, .int l1), (2, .int l2), (3, .int l3), (4, .int l4), (5, .int l5), (6, .int l6)] [] (R_begin_J28 l1 l2 l3 l4 l5 l6) := by
  unfold R_begin_J28
  refine s_aload_n B.1 0 dX12_begin_28 rfl rfl ?_
  refine s_iload_n B.1 1 dX12_begin_29 rfl rfl ?_
  refine s_iload_n B.1 2 dX12_begin_30 rfl rfl ?_
  refine s_iload_n B.1 3 dX12_begin_31 rfl rfl ?_
  refine s_iload B.1 4 dX12_begin_32 rfl ?_
  refine s_iload B.1 5 dX12_begin_34 rfl ?_
  refine s_iload B.1 6 dX12_begin_36 rfl ?_
  refine s_iconst (v := 0) B.1 dX12_begin_38 (by decide) ?_
  refine rr_cvi (As := [.int l1, .int l2, .int l3, .int l4, .int l5, .int l6, .int (0 : Int32)]) (st := []) B (m_sendPublish B.ok l1 l2 l3 l4 l5 l6 (0 : Int32)) mc_sendPublish ml_sendPublish mi_sendPublish me_sendPublish ini12 md_sendPublish (by decide) rfl (Nat.le_of_ble_eq_true rfl) dX12_begin_39 (fun r1 => ?_)
  refine s_if_ne B.1 46 dX12_begin_42 (by decide) ?_ ?_
  · refine s_bipush (v := (16)) B.1 dX12_begin_46 (by decide) ?_
    refine s_iload_n B.1 1 dX12_begin_48 rfl rfl ?_
    refine s_imul B.1 dX12_begin_49 ?_
    refine s_aload_n B.1 0 dX12_begin_50 rfl rfl ?_
    refine rr_getA B 31 mh_31 mn_31 mf_31 dX12_begin_51 ?_
    refine s_iload_n B.1 1 dX12_begin_54 rfl rfl ?_
    refine s_dup2 B.1 dX12_begin_55 rfl rfl ?_
    refine rr_iald B 31 mh_31 mk_31 dX12_begin_56 (fun v2 => ?_)
    refine s_dup_x2 B.1 dX12_begin_57 rfl rfl rfl ?_
    refine s_iconst (v := 1) B.1 dX12_begin_58 (by decide) ?_
    refine s_iadd B.1 dX12_begin_59 ?_
    refine rr_iast B 31 mh_31 mk_31 dX12_begin_60 ?_
    refine s_iadd B.1 dX12_begin_61 ?_
    refine s_lqi (fun x3 => ?_)
    refine s_istore (lv' := [(7, .int x3), (0, .ref g.1.2.2.2.2.2), (1, .int l1), (2, .int l2), (3, .int l3), (4, .int l4), (5, .int l5), (6, .int l6)]) B.1 dX12_begin_62 (by decide) rfl ?_
    refine s_aload_n B.1 1 dX12_begin_64 rfl rfl ?_
    refine rr_getA B 32 mh_32 mn_32 mf_32 dX12_begin_65 ?_
    refine s_iload B.1 0 dX12_begin_68 rfl ?_
    refine s_iload B.1 7 dX12_begin_70 rfl ?_
    refine rr_iast B 32 mh_32 mk_32 dX12_begin_72 ?_
    refine s_aload_n B.1 1 dX12_begin_73 rfl rfl ?_
    refine rr_getA B 33 mh_33 mn_33 mf_33 dX12_begin_74 ?_
    refine s_iload B.1 0 dX12_begin_77 rfl ?_
    refine s_iload_n B.1 3 dX12_begin_79 rfl rfl ?_
    refine rr_iast B 33 mh_33 mk_33 dX12_begin_80 ?_
    refine s_aload_n B.1 1 dX12_begin_81 rfl rfl ?_
    refine rr_getA B 34 mh_34 mn_34 mf_34 dX12_begin_82 ?_
    refine s_iload B.1 0 dX12_begin_85 rfl ?_
    refine s_iload_n B.1 4 dX12_begin_87 rfl rfl ?_
    refine rr_iast B 34 mh_34 mk_34 dX12_begin_88 ?_
    refine s_aload_n B.1 1 dX12_begin_89 rfl rfl ?_
    refine rr_getA B 35 mh_35 mn_35 mf_35 dX12_begin_90 ?_
    refine s_iload B.1 0 dX12_begin_93 rfl ?_
    refine s_iload B.1 5 dX12_begin_95 rfl ?_
    refine rr_iast B 35 mh_35 mk_35 dX12_begin_97 ?_
    refine s_aload_n B.1 1 dX12_begin_98 rfl rfl ?_
    refine rr_getA B 36 mh_36 mn_36 mf_36 dX12_begin_99 ?_
    refine s_iload B.1 0 dX12_begin_102 rfl ?_
    refine s_iload B.1 6 dX12_begin_104 rfl ?_
    refine rr_iast B 36 mh_36 mk_36 dX12_begin_106 ?_
    refine s_aload_n B.1 1 dX12_begin_107 rfl rfl ?_
    refine rr_getA B 37 mh_37 mn_37 mf_37 dX12_begin_108 ?_
    refine s_iload B.1 0 dX12_begin_111 rfl ?_
    refine s_iconst (v := 0) B.1 dX12_begin_113 (by decide) ?_
    refine rr_zast B 37 mh_37 mk_37 dX12_begin_114 ?_
    exact s_vret B.1 B.2.1 dX12_begin_115
  · exact s_vret B.1 B.2.1 dX12_begin_45
def R_begin_B12 (kb : Int32 → Int32 → Int32 → Int32 → Int32 → Int32 → RS → Option (Unit × RS)) (ke28 : Int32 → Int32 → Int32 → Int32 → Int32 → Int32 → RS → Option (Unit × RS)) (l1 : Int32) (l2 : Int32) (l3 : Int32) (l4 : Int32) (l5 : Int32) (l6 : Int32) : RS → Option (Unit × RS) :=
  bd (R_wayOf l1 l6) fun r4 =>
  if r4 < 0 then (
    ke28 l1 l2 l3 l4 l5 l6
  ) else (
    kb l1 l2 l3 l4 l5 (l6 + 1)
  )
def R_begin_L12 (ke28 : Int32 → Int32 → Int32 → Int32 → Int32 → Int32 → RS → Option (Unit × RS)) : Nat → Int32 → Int32 → Int32 → Int32 → Int32 → Int32 → RS → Option (Unit × RS)
  | 0, _, _, _, _, _, _ => no
  | n + 1, l1, l2, l3, l4, l5, l6 => R_begin_B12 (fun l1 l2 l3 l4 l5 l6 => R_begin_L12 ke28 n l1 l2 l3 l4 l5 l6) ke28 l1 l2 l3 l4 l5 l6
set_option maxRecDepth 10000 in
theorem sm_begin_B12 {g : Gm RS Unit} {kb : Int32 → Int32 → Int32 → Int32 → Int32 → Int32 → RS → Option (Unit × RS)} {ke28 : Int32 → Int32 → Int32 → Int32 → Int32 → Int32 → RS → Option (Unit × RS)} (B : Br g cX12_begin 8 voV none 3 77) (hkb : ∀ (l1 : Int32) (l2 : Int32) (l3 : Int32) (l4 : Int32) (l5 : Int32) (l6 : Int32), Sm g 8 12 [(0, .ref g.1.2.2.2.2.2), (1, .int l1), (2, .int l2), (3, .int l3), (4, .int l4), (5, .int l5), (6, .int l6)] [] (kb l1 l2 l3 l4 l5 l6)) (hke28 : ∀ (l1 : Int32) (l2 : Int32) (l3 : Int32) (l4 : Int32) (l5 : Int32) (l6 : Int32), Sm g 8 28 [(0, .ref g.1.2.2.2.2.2), (1, .int l1), (2, .int l2), (3, .int l3), (4, .int l4), (5, .int l5), (6, .int l6)] [] (ke28 l1 l2 l3 l4 l5 l6)) (l1 : Int32) (l2 : Int32) (l3 : Int32) (l4 : Int32) (l5 : Int32) (l6 : Int32) : Sm g 8 12 [(0, .ref g.1.2.2.2.2.2), (1, .int l1), (2, .int l2), (3, .int l3), (4, .int l4), (5, .int l5), (6, .int l6)] [] (R_begin_B12 kb ke28 l1 l2 l3 l4 l5 l6) := by
  unfold R_begin_B12
  refine s_aload_n B.1 0 dX12_begin_12 rfl rfl ?_
  refine s_iload_n B.1 1 dX12_begin_13 rfl rfl ?_
  refine s_iload B.1 6 dX12_begin_14 rfl ?_
  refine rr_cvi (As := [.int l1, .int l6]) (st := []) B (m_wayOf B.ok l1 l6) mc_wayOf ml_wayOf mi_wayOf me_wayOf ini12 md_wayOf (by decide) rfl (Nat.le_of_ble_eq_true rfl) dX12_begin_16 (fun r4 => ?_)
  refine s_if_lt B.1 28 dX12_begin_19 (by decide) ?_ ?_
  · exact Sm.lvs [0, 1, 2, 3, 4, 5, 6] rfl (hke28 l1 l2 l3 l4 l5 l6)
  · refine s_iinc (v := l6 + 1) (lv' := [(6, .int (l6 + 1)), (0, .ref g.1.2.2.2.2.2), (1, .int l1), (2, .int l2), (3, .int l3), (4, .int l4), (5, .int l5)]) B.1 6 dX12_begin_22 rfl rfl (by decide) rfl ?_
    refine s_goto B.1 12 dX12_begin_25 (by decide) ?_
    exact Sm.lvs [1, 2, 3, 4, 5, 6, 0] rfl (hkb l1 l2 l3 l4 l5 (l6 + 1))
set_option maxRecDepth 10000 in
theorem sm_begin_L12 {g : Gm RS Unit} {ke28 : Int32 → Int32 → Int32 → Int32 → Int32 → Int32 → RS → Option (Unit × RS)} (B : Br g cX12_begin 8 voV none 3 77) (hke28 : ∀ (l1 : Int32) (l2 : Int32) (l3 : Int32) (l4 : Int32) (l5 : Int32) (l6 : Int32), Sm g 8 28 [(0, .ref g.1.2.2.2.2.2), (1, .int l1), (2, .int l2), (3, .int l3), (4, .int l4), (5, .int l5), (6, .int l6)] [] (ke28 l1 l2 l3 l4 l5 l6)) : ∀ (n : Nat) (l1 : Int32) (l2 : Int32) (l3 : Int32) (l4 : Int32) (l5 : Int32) (l6 : Int32), Sm g 8 12 [(0, .ref g.1.2.2.2.2.2), (1, .int l1), (2, .int l2), (3, .int l3), (4, .int l4), (5, .int l5), (6, .int l6)] [] (R_begin_L12 ke28 n l1 l2 l3 l4 l5 l6)
  | 0, _, _, _, _, _, _ => Sm.fail
  | n + 1, l1, l2, l3, l4, l5, l6 => sm_begin_B12 B (sm_begin_L12 B hke28 n) hke28 l1 l2 l3 l4 l5 l6
def R_begin (l1 : Int32) (l2 : Int32) (l3 : Int32) (l4 : Int32) (l5 : Int32) : RS → Option (Unit × RS) :=
  bd (R_gone l2) fun r5 =>
  if r5 = 0 then (
    R_begin_L12 (fun l1 l2 l3 l4 l5 l6 => R_begin_J28 l1 l2 l3 l4 l5 l6) fu l1 l2 l3 l4 l5 (1 : Int32)
  ) else (
    rt ()
  )
set_option maxRecDepth 10000 in
theorem m_begin {w : Wd} (hw : Wok w) (l1 : Int32) (l2 : Int32) (l3 : Int32) (l4 : Int32) (l5 : Int32) : MR w yX12_begin cX12_begin 8 none 3 77 voV [.ref w.2.2.2.2.2, .int l1, .int l2, .int l3, .int l4, .int l5] (R_begin l1 l2 l3 l4 l5) := by
  refine MR.of hw rfl (Nat.le_of_ble_eq_true rfl) (fun g hg B => ?_)
  subst hg
  unfold R_begin
  show Sm g 8 0 [(0, .ref g.1.2.2.2.2.2), (1, .int l1), (2, .int l2), (3, .int l3), (4, .int l4), (5, .int l5)] [] _
  refine s_aload_n B.1 0 dX12_begin_0 rfl rfl ?_
  refine s_iload_n B.1 2 dX12_begin_1 rfl rfl ?_
  refine rr_cvi (As := [.int l2]) (st := []) B (m_gone B.ok l2) mc_gone ml_gone mi_gone me_gone ini12 md_gone (by decide) rfl (Nat.le_of_ble_eq_true rfl) dX12_begin_2 (fun r5 => ?_)
  refine s_if_eq B.1 9 dX12_begin_5 (by decide) ?_ ?_
  · refine s_iconst (v := 1) B.1 dX12_begin_9 (by decide) ?_
    refine s_istore (lv' := [(6, .int (1 : Int32)), (0, .ref g.1.2.2.2.2.2), (1, .int l1), (2, .int l2), (3, .int l3), (4, .int l4), (5, .int l5)]) B.1 dX12_begin_10 (by decide) rfl ?_
    exact Sm.lvs [1, 2, 3, 4, 5, 6, 0] rfl (sm_begin_L12 B (fun l1 l2 l3 l4 l5 l6 => sm_begin_J28 B l1 l2 l3 l4 l5 l6) fu l1 l2 l3 l4 l5 (1 : Int32))
  · exact s_vret B.1 B.2.1 dX12_begin_8
def R_mayGo (l1 : Int32) : RS → Option (Int32 × RS) :=
  rA 15 l1 fun v1 =>
  if v1 < 0 then (
    zt ((0 : Int32))
  ) else (
    rA 31 l1 fun v2 =>
    rA 17 l1 fun v3 =>
    if (imin v3 (16 : Int32)) ≤ v2 then (
      zt ((0 : Int32))
    ) else (
      zt ((1 : Int32))
    )
  )
set_option maxRecDepth 10000 in
theorem m_mayGo {w : Wd} (hw : Wok w) (l1 : Int32) : MR w yX12_mayGo cX12_mayGo 2 (some .boolean) 1 23 voI [.ref w.2.2.2.2.2, .int l1] (R_mayGo l1) := by
  refine MR.of hw rfl (Nat.le_of_ble_eq_true rfl) (fun g hg B => ?_)
  subst hg
  unfold R_mayGo
  show Sm g 2 0 [(0, .ref g.1.2.2.2.2.2), (1, .int l1)] [] _
  refine s_aload_n B.1 0 dX12_mayGo_0 rfl rfl ?_
  refine rr_getA B 15 mh_15 mn_15 mf_15 dX12_mayGo_1 ?_
  refine s_iload_n B.1 1 dX12_mayGo_4 rfl rfl ?_
  refine rr_iald B 15 mh_15 mk_15 dX12_mayGo_5 (fun v1 => ?_)
  refine s_if_lt B.1 33 dX12_mayGo_6 (by decide) ?_ ?_
  · refine s_iconst (v := 0) B.1 dX12_mayGo_33 (by decide) ?_
    exact s_zret B.1 B.2.1 dX12_mayGo_34
  · refine s_aload_n B.1 0 dX12_mayGo_9 rfl rfl ?_
    refine rr_getA B 31 mh_31 mn_31 mf_31 dX12_mayGo_10 ?_
    refine s_iload_n B.1 1 dX12_mayGo_13 rfl rfl ?_
    refine rr_iald B 31 mh_31 mk_31 dX12_mayGo_14 (fun v2 => ?_)
    refine s_aload_n B.1 0 dX12_mayGo_15 rfl rfl ?_
    refine rr_getA B 17 mh_17 mn_17 mf_17 dX12_mayGo_16 ?_
    refine s_iload_n B.1 1 dX12_mayGo_19 rfl rfl ?_
    refine rr_iald B 17 mh_17 mk_17 dX12_mayGo_20 (fun v3 => ?_)
    refine s_bipush (v := (16)) B.1 dX12_mayGo_21 (by decide) ?_
    refine s_mmin B.1 B.2.1.fx tw_1978 (by decide) (Nat.le_of_ble_eq_true rfl) dX12_mayGo_23 ?_
    refine s_icmp_ge B.1 33 dX12_mayGo_26 (by decide) ?_ ?_
    · refine s_iconst (v := 0) B.1 dX12_mayGo_33 (by decide) ?_
      exact s_zret B.1 B.2.1 dX12_mayGo_34
    · refine s_iconst (v := 1) B.1 dX12_mayGo_29 (by decide) ?_
      refine s_goto B.1 34 dX12_mayGo_30 (by decide) ?_
      exact s_zret B.1 B.2.1 dX12_mayGo_34
def R_deliver_J117 (l1 : Int32) (l2 : Int32) (l3 : Int32) (l4 : Int32) (l5 : Int32) : RS → Option (Unit × RS) :=
  rA 38 l4 fun v1 =>
  if (24 : Int32) ≤ v1 then (
    rI 70 fun v2 =>
    wI 70 (v2 + (1 : Int32)) <|
    rt ()
  ) else (
    rA 38 l4 fun v3 =>
    wA 38 l4 (v3 + (1 : Int32)) <|
    lq (((24 : Int32) * l4) + v3) fun x4 =>
    wA 39 x4 l2 <|
    wA 40 x4 l5 <|
    wA 41 x4 l3 <|
    rA 28 l1 fun v5 =>
    wA 42 x4 v5 <|
    rt ()
  )
set_option maxRecDepth 10000 in
theorem sm_deliver_J117 {g : Gm RS Unit} (B : Br g cX12_deliver 7 voV none 4 104) (l1 : Int32) (l2 : Int32) (l3 : Int32) (l4 : Int32) (l5 : Int32) : Sm g 7 117 [(0, .ref g.1.2.2.2.2.2), (1, .int l1), (2, .int l2), (3, .int l3), (4, .int l4), (5, .int l5)] [] (R_deliver_J117 l1 l2 l3 l4 l5) := by
  unfold R_deliver_J117
  refine s_aload_n B.1 0 dX12_deliver_117 rfl rfl ?_
  refine rr_getA B 38 mh_38 mn_38 mf_38 dX12_deliver_118 ?_
  refine s_iload B.1 4 dX12_deliver_121 rfl ?_
  refine rr_iald B 38 mh_38 mk_38 dX12_deliver_123 (fun v1 => ?_)
  refine s_bipush (v := (24)) B.1 dX12_deliver_124 (by decide) ?_
  refine s_icmp_ge B.1 190 dX12_deliver_126 (by decide) ?_ ?_
  · refine s_aload_n B.1 0 dX12_deliver_190 rfl rfl ?_
    refine s_dup B.1 dX12_deliver_191 rfl ?_
    refine rr_getI B 70 mh_70 mk_70 mf_70 dX12_deliver_192 (fun v2 => ?_)
    refine s_iconst (v := 1) B.1 dX12_deliver_195 (by decide) ?_
    refine s_iadd B.1 dX12_deliver_196 ?_
    refine rr_putI B 70 mh_70 mk_70 mf_70 dX12_deliver_197 ?_
    exact s_vret B.1 B.2.1 dX12_deliver_200
  · refine s_bipush (v := (24)) B.1 dX12_deliver_129 (by decide) ?_
    refine s_iload B.1 4 dX12_deliver_131 rfl ?_
    refine s_imul B.1 dX12_deliver_133 ?_
    refine s_aload_n B.1 0 dX12_deliver_134 rfl rfl ?_
    refine rr_getA B 38 mh_38 mn_38 mf_38 dX12_deliver_135 ?_
    refine s_iload B.1 4 dX12_deliver_138 rfl ?_
    refine s_dup2 B.1 dX12_deliver_140 rfl rfl ?_
    refine rr_iald B 38 mh_38 mk_38 dX12_deliver_141 (fun v3 => ?_)
    refine s_dup_x2 B.1 dX12_deliver_142 rfl rfl rfl ?_
    refine s_iconst (v := 1) B.1 dX12_deliver_143 (by decide) ?_
    refine s_iadd B.1 dX12_deliver_144 ?_
    refine rr_iast B 38 mh_38 mk_38 dX12_deliver_145 ?_
    refine s_iadd B.1 dX12_deliver_146 ?_
    refine s_lqi (fun x4 => ?_)
    refine s_istore (lv' := [(6, .int x4), (0, .ref g.1.2.2.2.2.2), (1, .int l1), (2, .int l2), (3, .int l3), (4, .int l4), (5, .int l5)]) B.1 dX12_deliver_147 (by decide) rfl ?_
    refine s_aload_n B.1 1 dX12_deliver_149 rfl rfl ?_
    refine rr_getA B 39 mh_39 mn_39 mf_39 dX12_deliver_150 ?_
    refine s_iload B.1 0 dX12_deliver_153 rfl ?_
    refine s_iload_n B.1 3 dX12_deliver_155 rfl rfl ?_
    refine rr_iast B 39 mh_39 mk_39 dX12_deliver_156 ?_
    refine s_aload_n B.1 1 dX12_deliver_157 rfl rfl ?_
    refine rr_getA B 40 mh_40 mn_40 mf_40 dX12_deliver_158 ?_
    refine s_iload B.1 0 dX12_deliver_161 rfl ?_
    refine s_iload B.1 6 dX12_deliver_163 rfl ?_
    refine rr_iast B 40 mh_40 mk_40 dX12_deliver_165 ?_
    refine s_aload_n B.1 1 dX12_deliver_166 rfl rfl ?_
    refine rr_getA B 41 mh_41 mn_41 mf_41 dX12_deliver_167 ?_
    refine s_iload B.1 0 dX12_deliver_170 rfl ?_
    refine s_iload_n B.1 4 dX12_deliver_172 rfl rfl ?_
    refine rr_iast B 41 mh_41 mk_41 dX12_deliver_173 ?_
    refine s_aload_n B.1 1 dX12_deliver_174 rfl rfl ?_
    refine rr_getA B 42 mh_42 mn_42 mf_42 dX12_deliver_175 ?_
    refine s_iload B.1 0 dX12_deliver_178 rfl ?_
    refine s_aload_n B.1 1 dX12_deliver_180 rfl rfl ?_
    refine rr_getA B 28 mh_28 mn_28 mf_28 dX12_deliver_181 ?_
    refine s_iload_n B.1 2 dX12_deliver_184 rfl rfl ?_
    refine rr_iald B 28 mh_28 mk_28 dX12_deliver_185 (fun v5 => ?_)
    refine rr_iast B 42 mh_42 mk_42 dX12_deliver_186 ?_
    refine s_goto B.1 200 dX12_deliver_187 (by decide) ?_
    exact s_vret B.1 B.2.1 dX12_deliver_200
def R_deliver (l1 : Int32) (l2 : Int32) (l3 : Int32) : RS → Option (Unit × RS) :=
  lq (l1 / (8 : Int32)) fun x6 =>
  rA 60 l2 fun v7 =>
  rA 27 l1 fun v8 =>
  lq (imin v7 (v8 &&& (3 : Int32))) fun x9 =>
  rA 29 l1 fun v10 =>
  wA 29 l1 (v10 + (1 : Int32)) <|
  if x9 = 0 then (
    rA 15 x6 fun v15 =>
    if v15 < 0 then (
      rt ()
    ) else (
      bd (R_gone l2) fun r16 =>
      if r16 = 0 then (
        rA 28 l1 fun v17 =>
        bd (R_sendPublish x6 l2 (0 : Int32) l3 v17 (0 : Int32) (0 : Int32)) fun r18 =>
        rt ()
      ) else (
        rt ()
      )
    )
  ) else (
    rA 38 x6 fun v11 =>
    if v11 = 0 then (
      bd (R_mayGo x6) fun r12 =>
      if r12 = 0 then (
        R_deliver_J117 l1 l2 l3 x6 x9
      ) else (
        rA 28 l1 fun v13 =>
        bd (R_begin x6 l2 x9 l3 v13) fun r14 =>
        rt ()
      )
    ) else (
      R_deliver_J117 l1 l2 l3 x6 x9
    )
  )
set_option maxRecDepth 10000 in
theorem m_deliver {w : Wd} (hw : Wok w) (l1 : Int32) (l2 : Int32) (l3 : Int32) : MR w yX12_deliver cX12_deliver 7 none 4 104 voV [.ref w.2.2.2.2.2, .int l1, .int l2, .int l3] (R_deliver l1 l2 l3) := by
  refine MR.of hw rfl (Nat.le_of_ble_eq_true rfl) (fun g hg B => ?_)
  subst hg
  unfold R_deliver
  show Sm g 7 0 [(0, .ref g.1.2.2.2.2.2), (1, .int l1), (2, .int l2), (3, .int l3)] [] _
  refine s_iload_n B.1 1 dX12_deliver_0 rfl rfl ?_
  refine s_bipush (v := (8)) B.1 dX12_deliver_1 (by decide) ?_
  refine s_idiv B.1 dX12_deliver_3 (by decide) ?_
  refine s_lqi (fun x6 => ?_)
  refine s_istore (lv' := [(4, .int x6), (0, .ref g.1.2.2.2.2.2), (1, .int l1), (2, .int l2), (3, .int l3)]) B.1 dX12_deliver_4 (by decide) rfl ?_
  refine s_aload_n B.1 1 dX12_deliver_6 rfl rfl ?_
  refine rr_getA B 60 mh_60 mn_60 mf_60 dX12_deliver_7 ?_
  refine s_iload_n B.1 3 dX12_deliver_10 rfl rfl ?_
  refine rr_iald B 60 mh_60 mk_60 dX12_deliver_11 (fun v7 => ?_)
  refine s_aload_n B.1 1 dX12_deliver_12 rfl rfl ?_
  refine rr_getA B 27 mh_27 mn_27 mf_27 dX12_deliver_13 ?_
  refine s_iload_n B.1 2 dX12_deliver_16 rfl rfl ?_
  refine rr_iald B 27 mh_27 mk_27 dX12_deliver_17 (fun v8 => ?_)
  refine s_iconst (v := 3) B.1 dX12_deliver_18 (by decide) ?_
  refine s_iand B.1 dX12_deliver_19 ?_
  refine s_mmin B.1 B.2.1.fx tw_1978 (by decide) (Nat.le_of_ble_eq_true rfl) dX12_deliver_20 ?_
  refine s_lqi (fun x9 => ?_)
  refine s_istore (lv' := [(5, .int x9), (4, .int x6), (0, .ref g.1.2.2.2.2.2), (1, .int l1), (2, .int l2), (3, .int l3)]) B.1 dX12_deliver_23 (by decide) rfl ?_
  refine s_aload_n B.1 2 dX12_deliver_25 rfl rfl ?_
  refine rr_getA B 29 mh_29 mn_29 mf_29 dX12_deliver_26 ?_
  refine s_iload_n B.1 3 dX12_deliver_29 rfl rfl ?_
  refine s_dup2 B.1 dX12_deliver_30 rfl rfl ?_
  refine rr_iald B 29 mh_29 mk_29 dX12_deliver_31 (fun v10 => ?_)
  refine s_iconst (v := 1) B.1 dX12_deliver_32 (by decide) ?_
  refine s_iadd B.1 dX12_deliver_33 ?_
  refine rr_iast B 29 mh_29 mk_29 dX12_deliver_34 ?_
  refine s_iload B.1 0 dX12_deliver_35 rfl ?_
  refine s_if_ne B.1 79 dX12_deliver_37 (by decide) ?_ ?_
  · refine s_aload_n B.1 2 dX12_deliver_79 rfl rfl ?_
    refine rr_getA B 38 mh_38 mn_38 mf_38 dX12_deliver_80 ?_
    refine s_iload B.1 1 dX12_deliver_83 rfl ?_
    refine rr_iald B 38 mh_38 mk_38 dX12_deliver_85 (fun v11 => ?_)
    refine s_if_ne B.1 117 dX12_deliver_86 (by decide) ?_ ?_
    · exact Sm.lvs [2, 3, 4, 5, 1, 0] rfl (sm_deliver_J117 B l1 l2 l3 x6 x9)
    · refine s_aload_n B.1 2 dX12_deliver_89 rfl rfl ?_
      refine s_iload B.1 1 dX12_deliver_90 rfl ?_
      refine rr_cvi (As := [.int x6]) (st := []) B (m_mayGo B.ok x6) mc_mayGo ml_mayGo mi_mayGo me_mayGo ini12 md_mayGo (by decide) rfl (Nat.le_of_ble_eq_true rfl) dX12_deliver_92 (fun r12 => ?_)
      refine s_if_eq B.1 117 dX12_deliver_95 (by decide) ?_ ?_
      · exact Sm.lvs [2, 3, 4, 5, 1, 0] rfl (sm_deliver_J117 B l1 l2 l3 x6 x9)
      · refine s_aload_n B.1 2 dX12_deliver_98 rfl rfl ?_
        refine s_iload B.1 1 dX12_deliver_99 rfl ?_
        refine s_iload_n B.1 4 dX12_deliver_101 rfl rfl ?_
        refine s_iload B.1 0 dX12_deliver_102 rfl ?_
        refine s_iload_n B.1 5 dX12_deliver_104 rfl rfl ?_
        refine s_aload_n B.1 2 dX12_deliver_105 rfl rfl ?_
        refine rr_getA B 28 mh_28 mn_28 mf_28 dX12_deliver_106 ?_
        refine s_iload_n B.1 3 dX12_deliver_109 rfl rfl ?_
        refine rr_iald B 28 mh_28 mk_28 dX12_deliver_110 (fun v13 => ?_)
        refine rr_cvv (As := [.int x6, .int l2, .int x9, .int l3, .int v13]) (st := []) B (m_begin B.ok x6 l2 x9 l3 v13) mc_begin ml_begin mi_begin me_begin ini12 md_begin (by decide) rfl (Nat.le_of_ble_eq_true rfl) dX12_deliver_111 (fun r14 => ?_)
        refine s_goto B.1 200 dX12_deliver_114 (by decide) ?_
        exact s_vret B.1 B.2.1 dX12_deliver_200
  · refine s_aload_n B.1 2 dX12_deliver_40 rfl rfl ?_
    refine rr_getA B 15 mh_15 mn_15 mf_15 dX12_deliver_41 ?_
    refine s_iload B.1 1 dX12_deliver_44 rfl ?_
    refine rr_iald B 15 mh_15 mk_15 dX12_deliver_46 (fun v15 => ?_)
    refine s_if_lt B.1 200 dX12_deliver_47 (by decide) ?_ ?_
    · exact s_vret B.1 B.2.1 dX12_deliver_200
    · refine s_aload_n B.1 2 dX12_deliver_50 rfl rfl ?_
      refine s_iload_n B.1 4 dX12_deliver_51 rfl rfl ?_
      refine rr_cvi (As := [.int l2]) (st := []) B (m_gone B.ok l2) mc_gone ml_gone mi_gone me_gone ini12 md_gone (by decide) rfl (Nat.le_of_ble_eq_true rfl) dX12_deliver_52 (fun r16 => ?_)
      refine s_if_ne B.1 200 dX12_deliver_55 (by decide) ?_ ?_
      · exact s_vret B.1 B.2.1 dX12_deliver_200
      · refine s_aload_n B.1 2 dX12_deliver_58 rfl rfl ?_
        refine s_iload B.1 1 dX12_deliver_59 rfl ?_
        refine s_iload_n B.1 4 dX12_deliver_61 rfl rfl ?_
        refine s_iconst (v := 0) B.1 dX12_deliver_62 (by decide) ?_
        refine s_iload_n B.1 5 dX12_deliver_63 rfl rfl ?_
        refine s_aload_n B.1 2 dX12_deliver_64 rfl rfl ?_
        refine rr_getA B 28 mh_28 mn_28 mf_28 dX12_deliver_65 ?_
        refine s_iload_n B.1 3 dX12_deliver_68 rfl rfl ?_
        refine rr_iald B 28 mh_28 mk_28 dX12_deliver_69 (fun v17 => ?_)
        refine s_iconst (v := 0) B.1 dX12_deliver_70 (by decide) ?_
        refine s_iconst (v := 0) B.1 dX12_deliver_71 (by decide) ?_
        refine rr_cvi (As := [.int x6, .int l2, .int (0 : Int32), .int l3, .int v17, .int (0 : Int32), .int (0 : Int32)]) (st := []) B (m_sendPublish B.ok x6 l2 (0 : Int32) l3 v17 (0 : Int32) (0 : Int32)) mc_sendPublish ml_sendPublish mi_sendPublish me_sendPublish ini12 md_sendPublish (by decide) rfl (Nat.le_of_ble_eq_true rfl) dX12_deliver_72 (fun r18 => ?_)
        refine s_pop B.1 dX12_deliver_75 rfl ?_
        refine s_goto B.1 200 dX12_deliver_76 (by decide) ?_
        exact s_vret B.1 B.2.1 dX12_deliver_200
def R_isFirst_J52 : RS → Option (Int32 × RS) :=
  zt ((1 : Int32))
set_option maxRecDepth 10000 in
theorem sm_isFirst_J52 {g : Gm RS Int32} (B : Br g cX12_isFirst 3 voI (some .boolean) 1 24) : Sm g 3 52 [] [] (R_isFirst_J52) := by
  unfold R_isFirst_J52
  refine s_iconst (v := 1) B.1 dX12_isFirst_52 (by decide) ?_
  exact s_zret B.1 B.2.1 dX12_isFirst_53
def R_isFirst_J44 : RS → Option (Int32 × RS) :=
  zt ((0 : Int32))
set_option maxRecDepth 10000 in
theorem sm_isFirst_J44 {g : Gm RS Int32} (B : Br g cX12_isFirst 3 voI (some .boolean) 1 24) : Sm g 3 44 [] [] (R_isFirst_J44) := by
  unfold R_isFirst_J44
  refine s_iconst (v := 0) B.1 dX12_isFirst_44 (by decide) ?_
  exact s_zret B.1 B.2.1 dX12_isFirst_45
def R_isFirst_B2 (kb : Int32 → Int32 → RS → Option (Int32 × RS)) (ke44 : RS → Option (Int32 × RS)) (ke52 : RS → Option (Int32 × RS)) (l1 : Int32) (l2 : Int32) : RS → Option (Int32 × RS) :=
  if l1 ≤ l2 then (
    ke52
  ) else (
    rA 11 (l2 / (8 : Int32)) fun v1 =>
    if v1 = 0 then (
      kb l1 (l2 + 1)
    ) else (
      rA 24 (l2 / (8 : Int32)) fun v2 =>
      if v2 ≤ (l2 - l2 / (8 : Int32) * (8 : Int32)) then (
        kb l1 (l2 + 1)
      ) else (
        bd (R_sameFilter l1 l2) fun r3 =>
        if r3 = 0 then (
          kb l1 (l2 + 1)
        ) else (
          ke44
        )
      )
    )
  )
def R_isFirst_L2 (ke44 : RS → Option (Int32 × RS)) (ke52 : RS → Option (Int32 × RS)) : Nat → Int32 → Int32 → RS → Option (Int32 × RS)
  | 0, _, _ => no
  | n + 1, l1, l2 => R_isFirst_B2 (fun l1 l2 => R_isFirst_L2 ke44 ke52 n l1 l2) ke44 ke52 l1 l2
set_option maxRecDepth 10000 in
theorem sm_isFirst_B2 {g : Gm RS Int32} {kb : Int32 → Int32 → RS → Option (Int32 × RS)} {ke44 : RS → Option (Int32 × RS)} {ke52 : RS → Option (Int32 × RS)} (B : Br g cX12_isFirst 3 voI (some .boolean) 1 24) (hkb : ∀ (l1 : Int32) (l2 : Int32), Sm g 3 2 [(0, .ref g.1.2.2.2.2.2), (1, .int l1), (2, .int l2)] [] (kb l1 l2)) (hke44 : Sm g 3 44 [] [] (ke44)) (hke52 : Sm g 3 52 [] [] (ke52)) (l1 : Int32) (l2 : Int32) : Sm g 3 2 [(0, .ref g.1.2.2.2.2.2), (1, .int l1), (2, .int l2)] [] (R_isFirst_B2 kb ke44 ke52 l1 l2) := by
  unfold R_isFirst_B2
  refine s_iload_n B.1 2 dX12_isFirst_2 rfl rfl ?_
  refine s_iload_n B.1 1 dX12_isFirst_3 rfl rfl ?_
  refine s_icmp_ge B.1 52 dX12_isFirst_4 (by decide) ?_ ?_
  · exact Sm.lvs [] rfl (hke52)
  · refine s_aload_n B.1 0 dX12_isFirst_7 rfl rfl ?_
    refine rr_getA B 11 mh_11 mn_11 mf_11 dX12_isFirst_8 ?_
    refine s_iload_n B.1 2 dX12_isFirst_11 rfl rfl ?_
    refine s_bipush (v := (8)) B.1 dX12_isFirst_12 (by decide) ?_
    refine s_idiv B.1 dX12_isFirst_14 (by decide) ?_
    refine rr_zald B 11 mh_11 mk_11 dX12_isFirst_15 (fun v1 => ?_)
    refine s_if_eq B.1 46 dX12_isFirst_16 (by decide) ?_ ?_
    · refine s_iinc (v := l2 + 1) (lv' := [(2, .int (l2 + 1)), (0, .ref g.1.2.2.2.2.2), (1, .int l1)]) B.1 2 dX12_isFirst_46 rfl rfl (by decide) rfl ?_
      refine s_goto B.1 2 dX12_isFirst_49 (by decide) ?_
      exact Sm.lvs [1, 2, 0] rfl (hkb l1 (l2 + 1))
    · refine s_iload_n B.1 2 dX12_isFirst_19 rfl rfl ?_
      refine s_bipush (v := (8)) B.1 dX12_isFirst_20 (by decide) ?_
      refine s_irem B.1 dX12_isFirst_22 (by decide) ?_
      refine s_aload_n B.1 0 dX12_isFirst_23 rfl rfl ?_
      refine rr_getA B 24 mh_24 mn_24 mf_24 dX12_isFirst_24 ?_
      refine s_iload_n B.1 2 dX12_isFirst_27 rfl rfl ?_
      refine s_bipush (v := (8)) B.1 dX12_isFirst_28 (by decide) ?_
      refine s_idiv B.1 dX12_isFirst_30 (by decide) ?_
      refine rr_iald B 24 mh_24 mk_24 dX12_isFirst_31 (fun v2 => ?_)
      refine s_icmp_ge B.1 46 dX12_isFirst_32 (by decide) ?_ ?_
      · refine s_iinc (v := l2 + 1) (lv' := [(2, .int (l2 + 1)), (0, .ref g.1.2.2.2.2.2), (1, .int l1)]) B.1 2 dX12_isFirst_46 rfl rfl (by decide) rfl ?_
        refine s_goto B.1 2 dX12_isFirst_49 (by decide) ?_
        exact Sm.lvs [1, 2, 0] rfl (hkb l1 (l2 + 1))
      · refine s_aload_n B.1 0 dX12_isFirst_35 rfl rfl ?_
        refine s_iload_n B.1 1 dX12_isFirst_36 rfl rfl ?_
        refine s_iload_n B.1 2 dX12_isFirst_37 rfl rfl ?_
        refine rr_cvi (As := [.int l1, .int l2]) (st := []) B (m_sameFilter B.ok l1 l2) mc_sameFilter ml_sameFilter mi_sameFilter me_sameFilter ini12 md_sameFilter (by decide) rfl (Nat.le_of_ble_eq_true rfl) dX12_isFirst_38 (fun r3 => ?_)
        refine s_if_eq B.1 46 dX12_isFirst_41 (by decide) ?_ ?_
        · refine s_iinc (v := l2 + 1) (lv' := [(2, .int (l2 + 1)), (0, .ref g.1.2.2.2.2.2), (1, .int l1)]) B.1 2 dX12_isFirst_46 rfl rfl (by decide) rfl ?_
          refine s_goto B.1 2 dX12_isFirst_49 (by decide) ?_
          exact Sm.lvs [1, 2, 0] rfl (hkb l1 (l2 + 1))
        · exact Sm.lvs [] rfl (hke44)
set_option maxRecDepth 10000 in
theorem sm_isFirst_L2 {g : Gm RS Int32} {ke44 : RS → Option (Int32 × RS)} {ke52 : RS → Option (Int32 × RS)} (B : Br g cX12_isFirst 3 voI (some .boolean) 1 24) (hke44 : Sm g 3 44 [] [] (ke44)) (hke52 : Sm g 3 52 [] [] (ke52)) : ∀ (n : Nat) (l1 : Int32) (l2 : Int32), Sm g 3 2 [(0, .ref g.1.2.2.2.2.2), (1, .int l1), (2, .int l2)] [] (R_isFirst_L2 ke44 ke52 n l1 l2)
  | 0, _, _ => Sm.fail
  | n + 1, l1, l2 => sm_isFirst_B2 B (sm_isFirst_L2 B hke44 hke52 n) hke44 hke52 l1 l2
def R_isFirst (l1 : Int32) : RS → Option (Int32 × RS) :=
  R_isFirst_L2 (R_isFirst_J44) (R_isFirst_J52) fu l1 (0 : Int32)
set_option maxRecDepth 10000 in
theorem m_isFirst {w : Wd} (hw : Wok w) (l1 : Int32) : MR w yX12_isFirst cX12_isFirst 3 (some .boolean) 1 24 voI [.ref w.2.2.2.2.2, .int l1] (R_isFirst l1) := by
  refine MR.of hw rfl (Nat.le_of_ble_eq_true rfl) (fun g hg B => ?_)
  subst hg
  unfold R_isFirst
  show Sm g 3 0 [(0, .ref g.1.2.2.2.2.2), (1, .int l1)] [] _
  refine s_iconst (v := 0) B.1 dX12_isFirst_0 (by decide) ?_
  refine s_istore_n (lv' := [(2, .int (0 : Int32)), (0, .ref g.1.2.2.2.2.2), (1, .int l1)]) B.1 dX12_isFirst_1 rfl (by decide) rfl ?_
  exact Sm.lvs [1, 2, 0] rfl (sm_isFirst_L2 B (sm_isFirst_J44 B) (sm_isFirst_J52 B) fu l1 (0 : Int32))
def R_isShare (l0 : Nat) (l1 : Int32) (l2 : Int32) : RS → Option (Int32 × RS) :=
  if l2 < (7 : Int32) then (
    zt ((0 : Int32))
  ) else (
    rA l0 l1 fun v1 =>
    if v1 = (36 : Int32) then (
      rA l0 (l1 + (1 : Int32)) fun v2 =>
      if v2 = (115 : Int32) then (
        rA l0 (l1 + (2 : Int32)) fun v3 =>
        if v3 = (104 : Int32) then (
          rA l0 (l1 + (3 : Int32)) fun v4 =>
          if v4 = (97 : Int32) then (
            rA l0 (l1 + (4 : Int32)) fun v5 =>
            if v5 = (114 : Int32) then (
              rA l0 (l1 + (5 : Int32)) fun v6 =>
              if v6 = (101 : Int32) then (
                rA l0 (l1 + (6 : Int32)) fun v7 =>
                if v7 = (47 : Int32) then (
                  zt ((1 : Int32))
                ) else (
                  zt ((0 : Int32))
                )
              ) else (
                zt ((0 : Int32))
              )
            ) else (
              zt ((0 : Int32))
            )
          ) else (
            zt ((0 : Int32))
          )
        ) else (
          zt ((0 : Int32))
        )
      ) else (
        zt ((0 : Int32))
      )
    ) else (
      zt ((0 : Int32))
    )
  )
set_option maxRecDepth 10000 in
theorem m_isShare {w : Wd} (hw : Wok w) (l0 : Nat) (l1 : Int32) (l2 : Int32) (hl01 : l0 < 99) (hl02 : mK l0 = 2) : MR w yX12_isShare cX12_isShare 3 (some .boolean) 0 0 voI [.ref (w.2.2.2.2.2 + mO l0), .int l1, .int l2] (R_isShare l0 l1 l2) := by
  refine MR.of hw rfl (Nat.le_of_ble_eq_true rfl) (fun g hg B => ?_)
  subst hg
  unfold R_isShare
  show Sm g 3 0 [(0, .ref (g.1.2.2.2.2.2 + mO l0)), (1, .int l1), (2, .int l2)] [] _
  refine s_iload_n B.1 2 dX12_isShare_0 rfl rfl ?_
  refine s_bipush (v := (7)) B.1 dX12_isShare_1 (by decide) ?_
  refine s_icmp_lt B.1 79 dX12_isShare_3 (by decide) ?_ ?_
  · refine s_iconst (v := 0) B.1 dX12_isShare_79 (by decide) ?_
    exact s_zret B.1 B.2.1 dX12_isShare_80
  · refine s_aload_n B.1 0 dX12_isShare_6 rfl rfl ?_
    refine s_iload_n B.1 1 dX12_isShare_7 rfl rfl ?_
    refine rr_bald B l0 hl01 hl02 dX12_isShare_8 (fun v1 => ?_)
    refine s_bipush (v := (36)) B.1 dX12_isShare_9 (by decide) ?_
    refine s_icmp_ne B.1 79 dX12_isShare_11 (by decide) ?_ ?_
    · refine s_iconst (v := 0) B.1 dX12_isShare_79 (by decide) ?_
      exact s_zret B.1 B.2.1 dX12_isShare_80
    · refine s_aload_n B.1 0 dX12_isShare_14 rfl rfl ?_
      refine s_iload_n B.1 1 dX12_isShare_15 rfl rfl ?_
      refine s_iconst (v := 1) B.1 dX12_isShare_16 (by decide) ?_
      refine s_iadd B.1 dX12_isShare_17 ?_
      refine rr_bald B l0 hl01 hl02 dX12_isShare_18 (fun v2 => ?_)
      refine s_bipush (v := (115)) B.1 dX12_isShare_19 (by decide) ?_
      refine s_icmp_ne B.1 79 dX12_isShare_21 (by decide) ?_ ?_
      · refine s_iconst (v := 0) B.1 dX12_isShare_79 (by decide) ?_
        exact s_zret B.1 B.2.1 dX12_isShare_80
      · refine s_aload_n B.1 0 dX12_isShare_24 rfl rfl ?_
        refine s_iload_n B.1 1 dX12_isShare_25 rfl rfl ?_
        refine s_iconst (v := 2) B.1 dX12_isShare_26 (by decide) ?_
        refine s_iadd B.1 dX12_isShare_27 ?_
        refine rr_bald B l0 hl01 hl02 dX12_isShare_28 (fun v3 => ?_)
        refine s_bipush (v := (104)) B.1 dX12_isShare_29 (by decide) ?_
        refine s_icmp_ne B.1 79 dX12_isShare_31 (by decide) ?_ ?_
        · refine s_iconst (v := 0) B.1 dX12_isShare_79 (by decide) ?_
          exact s_zret B.1 B.2.1 dX12_isShare_80
        · refine s_aload_n B.1 0 dX12_isShare_34 rfl rfl ?_
          refine s_iload_n B.1 1 dX12_isShare_35 rfl rfl ?_
          refine s_iconst (v := 3) B.1 dX12_isShare_36 (by decide) ?_
          refine s_iadd B.1 dX12_isShare_37 ?_
          refine rr_bald B l0 hl01 hl02 dX12_isShare_38 (fun v4 => ?_)
          refine s_bipush (v := (97)) B.1 dX12_isShare_39 (by decide) ?_
          refine s_icmp_ne B.1 79 dX12_isShare_41 (by decide) ?_ ?_
          · refine s_iconst (v := 0) B.1 dX12_isShare_79 (by decide) ?_
            exact s_zret B.1 B.2.1 dX12_isShare_80
          · refine s_aload_n B.1 0 dX12_isShare_44 rfl rfl ?_
            refine s_iload_n B.1 1 dX12_isShare_45 rfl rfl ?_
            refine s_iconst (v := 4) B.1 dX12_isShare_46 (by decide) ?_
            refine s_iadd B.1 dX12_isShare_47 ?_
            refine rr_bald B l0 hl01 hl02 dX12_isShare_48 (fun v5 => ?_)
            refine s_bipush (v := (114)) B.1 dX12_isShare_49 (by decide) ?_
            refine s_icmp_ne B.1 79 dX12_isShare_51 (by decide) ?_ ?_
            · refine s_iconst (v := 0) B.1 dX12_isShare_79 (by decide) ?_
              exact s_zret B.1 B.2.1 dX12_isShare_80
            · refine s_aload_n B.1 0 dX12_isShare_54 rfl rfl ?_
              refine s_iload_n B.1 1 dX12_isShare_55 rfl rfl ?_
              refine s_iconst (v := 5) B.1 dX12_isShare_56 (by decide) ?_
              refine s_iadd B.1 dX12_isShare_57 ?_
              refine rr_bald B l0 hl01 hl02 dX12_isShare_58 (fun v6 => ?_)
              refine s_bipush (v := (101)) B.1 dX12_isShare_59 (by decide) ?_
              refine s_icmp_ne B.1 79 dX12_isShare_61 (by decide) ?_ ?_
              · refine s_iconst (v := 0) B.1 dX12_isShare_79 (by decide) ?_
                exact s_zret B.1 B.2.1 dX12_isShare_80
              · refine s_aload_n B.1 0 dX12_isShare_64 rfl rfl ?_
                refine s_iload_n B.1 1 dX12_isShare_65 rfl rfl ?_
                refine s_bipush (v := (6)) B.1 dX12_isShare_66 (by decide) ?_
                refine s_iadd B.1 dX12_isShare_68 ?_
                refine rr_bald B l0 hl01 hl02 dX12_isShare_69 (fun v7 => ?_)
                refine s_bipush (v := (47)) B.1 dX12_isShare_70 (by decide) ?_
                refine s_icmp_ne B.1 79 dX12_isShare_72 (by decide) ?_ ?_
                · refine s_iconst (v := 0) B.1 dX12_isShare_79 (by decide) ?_
                  exact s_zret B.1 B.2.1 dX12_isShare_80
                · refine s_iconst (v := 1) B.1 dX12_isShare_75 (by decide) ?_
                  refine s_goto B.1 80 dX12_isShare_76 (by decide) ?_
                  exact s_zret B.1 B.2.1 dX12_isShare_80
def R_isFilter_J129 (l0 : Nat) : RS → Option (Int32 × RS) :=
  zt ((1 : Int32))
set_option maxRecDepth 10000 in
theorem sm_isFilter_J129 {g : Gm RS Int32} (B : Br g cX12_isFilter 7 voI (some .boolean) 1 22) {l0 : Nat} (hl01 : l0 < 99) (hl02 : mK l0 = 2) : Sm g 7 129 [] [] (R_isFilter_J129 l0) := by
  unfold R_isFilter_J129
  refine s_iconst (v := 1) B.1 dX12_isFilter_129 (by decide) ?_
  exact s_zret B.1 B.2.1 dX12_isFilter_130
def R_isFilter_J121 (l0 : Nat) : RS → Option (Int32 × RS) :=
  zt ((0 : Int32))
set_option maxRecDepth 10000 in
theorem sm_isFilter_J121 {g : Gm RS Int32} (B : Br g cX12_isFilter 7 voI (some .boolean) 1 22) {l0 : Nat} (hl01 : l0 < 99) (hl02 : mK l0 = 2) : Sm g 7 121 [] [] (R_isFilter_J121 l0) := by
  unfold R_isFilter_J121
  refine s_iconst (v := 0) B.1 dX12_isFilter_121 (by decide) ?_
  exact s_zret B.1 B.2.1 dX12_isFilter_122
def R_isFilter_J102 (l0 : Nat) (kb : Int32 → Int32 → Int32 → RS → Option (Int32 × RS)) (ke121 : RS → Option (Int32 × RS)) (ke129 : RS → Option (Int32 × RS)) (l1 : Int32) (l2 : Int32) (l3 : Int32) (l4 : Int32) (l5 : Int32) : RS → Option (Int32 × RS) :=
  if l4 = (35 : Int32) then (
    if l5 = 0 then (
      ke121
    ) else (
      if l3 = (l2 - (1 : Int32)) then (
        kb l1 l2 (l3 + 1)
      ) else (
        ke121
      )
    )
  ) else (
    kb l1 l2 (l3 + 1)
  )
set_option maxRecDepth 10000 in
theorem sm_isFilter_J102 {g : Gm RS Int32} {kb : Int32 → Int32 → Int32 → RS → Option (Int32 × RS)} {ke121 : RS → Option (Int32 × RS)} {ke129 : RS → Option (Int32 × RS)} (B : Br g cX12_isFilter 7 voI (some .boolean) 1 22) {l0 : Nat} (hl01 : l0 < 99) (hl02 : mK l0 = 2) (hkb : ∀ (l1 : Int32) (l2 : Int32) (l3 : Int32), Sm g 7 24 [(0, .ref (g.1.2.2.2.2.2 + mO l0)), (1, .int l1), (2, .int l2), (3, .int l3)] [] (kb l1 l2 l3)) (hke121 : Sm g 7 121 [] [] (ke121)) (hke129 : Sm g 7 129 [] [] (ke129)) (l1 : Int32) (l2 : Int32) (l3 : Int32) (l4 : Int32) (l5 : Int32) : Sm g 7 102 [(0, .ref (g.1.2.2.2.2.2 + mO l0)), (1, .int l1), (2, .int l2), (3, .int l3), (4, .int l4), (5, .int l5)] [] (R_isFilter_J102 l0 kb ke121 ke129 l1 l2 l3 l4 l5) := by
  unfold R_isFilter_J102
  refine s_iload B.1 4 dX12_isFilter_102 rfl ?_
  refine s_bipush (v := (35)) B.1 dX12_isFilter_104 (by decide) ?_
  refine s_icmp_ne B.1 123 dX12_isFilter_106 (by decide) ?_ ?_
  · refine s_iinc (v := l3 + 1) (lv' := [(3, .int (l3 + 1)), (0, .ref (g.1.2.2.2.2.2 + mO l0)), (1, .int l1), (2, .int l2), (4, .int l4), (5, .int l5)]) B.1 3 dX12_isFilter_123 rfl rfl (by decide) rfl ?_
    refine s_goto B.1 24 dX12_isFilter_126 (by decide) ?_
    exact Sm.lvs [1, 2, 3, 0] rfl (hkb l1 l2 (l3 + 1))
  · refine s_iload B.1 5 dX12_isFilter_109 rfl ?_
    refine s_if_eq B.1 121 dX12_isFilter_111 (by decide) ?_ ?_
    · exact Sm.lvs [] rfl (hke121)
    · refine s_iload_n B.1 3 dX12_isFilter_114 rfl rfl ?_
      refine s_iload_n B.1 2 dX12_isFilter_115 rfl rfl ?_
      refine s_iconst (v := 1) B.1 dX12_isFilter_116 (by decide) ?_
      refine s_isub B.1 dX12_isFilter_117 ?_
      refine s_icmp_eq B.1 123 dX12_isFilter_118 (by decide) ?_ ?_
      · refine s_iinc (v := l3 + 1) (lv' := [(3, .int (l3 + 1)), (0, .ref (g.1.2.2.2.2.2 + mO l0)), (1, .int l1), (2, .int l2), (4, .int l4), (5, .int l5)]) B.1 3 dX12_isFilter_123 rfl rfl (by decide) rfl ?_
        refine s_goto B.1 24 dX12_isFilter_126 (by decide) ?_
        exact Sm.lvs [1, 2, 3, 0] rfl (hkb l1 l2 (l3 + 1))
      · exact Sm.lvs [] rfl (hke121)
def R_isFilter_J83 (l0 : Nat) (kb : Int32 → Int32 → Int32 → RS → Option (Int32 × RS)) (ke121 : RS → Option (Int32 × RS)) (ke129 : RS → Option (Int32 × RS)) (l1 : Int32) (l2 : Int32) (l3 : Int32) (l4 : Int32) (l5 : Int32) (s0 : Int32) : RS → Option (Int32 × RS) :=
  if l4 = (43 : Int32) then (
    if l5 = 0 then (
      ke121
    ) else (
      if s0 = 0 then (
        ke121
      ) else (
        R_isFilter_J102 l0 kb ke121 ke129 l1 l2 l3 l4 l5
      )
    )
  ) else (
    R_isFilter_J102 l0 kb ke121 ke129 l1 l2 l3 l4 l5
  )
set_option maxRecDepth 10000 in
theorem sm_isFilter_J83 {g : Gm RS Int32} {kb : Int32 → Int32 → Int32 → RS → Option (Int32 × RS)} {ke121 : RS → Option (Int32 × RS)} {ke129 : RS → Option (Int32 × RS)} (B : Br g cX12_isFilter 7 voI (some .boolean) 1 22) {l0 : Nat} (hl01 : l0 < 99) (hl02 : mK l0 = 2) (hkb : ∀ (l1 : Int32) (l2 : Int32) (l3 : Int32), Sm g 7 24 [(0, .ref (g.1.2.2.2.2.2 + mO l0)), (1, .int l1), (2, .int l2), (3, .int l3)] [] (kb l1 l2 l3)) (hke121 : Sm g 7 121 [] [] (ke121)) (hke129 : Sm g 7 129 [] [] (ke129)) (l1 : Int32) (l2 : Int32) (l3 : Int32) (l4 : Int32) (l5 : Int32) (s0 : Int32) : Sm g 7 83 [(0, .ref (g.1.2.2.2.2.2 + mO l0)), (1, .int l1), (2, .int l2), (3, .int l3), (4, .int l4), (5, .int l5)] [.int s0] (R_isFilter_J83 l0 kb ke121 ke129 l1 l2 l3 l4 l5 s0) := by
  unfold R_isFilter_J83
  refine s_istore (lv' := [(6, .int s0), (0, .ref (g.1.2.2.2.2.2 + mO l0)), (1, .int l1), (2, .int l2), (3, .int l3), (4, .int l4), (5, .int l5)]) B.1 dX12_isFilter_83 (by decide) rfl ?_
  refine s_iload B.1 5 dX12_isFilter_85 rfl ?_
  refine s_bipush (v := (43)) B.1 dX12_isFilter_87 (by decide) ?_
  refine s_icmp_ne B.1 102 dX12_isFilter_89 (by decide) ?_ ?_
  · exact Sm.lvs [1, 2, 3, 4, 5, 6] rfl (sm_isFilter_J102 B hl01 hl02 hkb hke121 hke129 l1 l2 l3 l4 l5)
  · refine s_iload B.1 6 dX12_isFilter_92 rfl ?_
    refine s_if_eq B.1 121 dX12_isFilter_94 (by decide) ?_ ?_
    · exact Sm.lvs [] rfl (hke121)
    · refine s_iload B.1 0 dX12_isFilter_97 rfl ?_
      refine s_if_eq B.1 121 dX12_isFilter_99 (by decide) ?_ ?_
      · exact Sm.lvs [] rfl (hke121)
      · exact Sm.lvs [1, 2, 3, 4, 5, 6] rfl (sm_isFilter_J102 B hl01 hl02 hkb hke121 hke129 l1 l2 l3 l4 l5)
def R_isFilter_J78 (l0 : Nat) (kb : Int32 → Int32 → Int32 → RS → Option (Int32 × RS)) (ke121 : RS → Option (Int32 × RS)) (ke129 : RS → Option (Int32 × RS)) (l1 : Int32) (l2 : Int32) (l3 : Int32) (l4 : Int32) (l5 : Int32) : RS → Option (Int32 × RS) :=
  R_isFilter_J83 l0 kb ke121 ke129 l1 l2 l3 l4 l5 (1 : Int32)
set_option maxRecDepth 10000 in
theorem sm_isFilter_J78 {g : Gm RS Int32} {kb : Int32 → Int32 → Int32 → RS → Option (Int32 × RS)} {ke121 : RS → Option (Int32 × RS)} {ke129 : RS → Option (Int32 × RS)} (B : Br g cX12_isFilter 7 voI (some .boolean) 1 22) {l0 : Nat} (hl01 : l0 < 99) (hl02 : mK l0 = 2) (hkb : ∀ (l1 : Int32) (l2 : Int32) (l3 : Int32), Sm g 7 24 [(0, .ref (g.1.2.2.2.2.2 + mO l0)), (1, .int l1), (2, .int l2), (3, .int l3)] [] (kb l1 l2 l3)) (hke121 : Sm g 7 121 [] [] (ke121)) (hke129 : Sm g 7 129 [] [] (ke129)) (l1 : Int32) (l2 : Int32) (l3 : Int32) (l4 : Int32) (l5 : Int32) : Sm g 7 78 [(0, .ref (g.1.2.2.2.2.2 + mO l0)), (1, .int l1), (2, .int l2), (3, .int l3), (4, .int l4), (5, .int l5)] [] (R_isFilter_J78 l0 kb ke121 ke129 l1 l2 l3 l4 l5) := by
  unfold R_isFilter_J78
  refine s_iconst (v := 1) B.1 dX12_isFilter_78 (by decide) ?_
  refine s_goto B.1 83 dX12_isFilter_79 (by decide) ?_
  exact Sm.lvs [0, 1, 2, 3, 4, 5] rfl (sm_isFilter_J83 B hl01 hl02 hkb hke121 hke129 l1 l2 l3 l4 l5 (1 : Int32))
def R_isFilter_J57 (l0 : Nat) (kb : Int32 → Int32 → Int32 → RS → Option (Int32 × RS)) (ke121 : RS → Option (Int32 × RS)) (ke129 : RS → Option (Int32 × RS)) (l1 : Int32) (l2 : Int32) (l3 : Int32) (l4 : Int32) (s0 : Int32) : RS → Option (Int32 × RS) :=
  if l3 = (l2 - (1 : Int32)) then (
    R_isFilter_J78 l0 kb ke121 ke129 l1 l2 l3 l4 s0
  ) else (
    rA l0 ((l1 + l3) + (1 : Int32)) fun v1 =>
    if v1 = (47 : Int32) then (
      R_isFilter_J78 l0 kb ke121 ke129 l1 l2 l3 l4 s0
    ) else (
      R_isFilter_J83 l0 kb ke121 ke129 l1 l2 l3 l4 s0 (0 : Int32)
    )
  )
set_option maxRecDepth 10000 in
theorem sm_isFilter_J57 {g : Gm RS Int32} {kb : Int32 → Int32 → Int32 → RS → Option (Int32 × RS)} {ke121 : RS → Option (Int32 × RS)} {ke129 : RS → Option (Int32 × RS)} (B : Br g cX12_isFilter 7 voI (some .boolean) 1 22) {l0 : Nat} (hl01 : l0 < 99) (hl02 : mK l0 = 2) (hkb : ∀ (l1 : Int32) (l2 : Int32) (l3 : Int32), Sm g 7 24 [(0, .ref (g.1.2.2.2.2.2 + mO l0)), (1, .int l1), (2, .int l2), (3, .int l3)] [] (kb l1 l2 l3)) (hke121 : Sm g 7 121 [] [] (ke121)) (hke129 : Sm g 7 129 [] [] (ke129)) (l1 : Int32) (l2 : Int32) (l3 : Int32) (l4 : Int32) (s0 : Int32) : Sm g 7 57 [(0, .ref (g.1.2.2.2.2.2 + mO l0)), (1, .int l1), (2, .int l2), (3, .int l3), (4, .int l4)] [.int s0] (R_isFilter_J57 l0 kb ke121 ke129 l1 l2 l3 l4 s0) := by
  unfold R_isFilter_J57
  refine s_istore (lv' := [(5, .int s0), (0, .ref (g.1.2.2.2.2.2 + mO l0)), (1, .int l1), (2, .int l2), (3, .int l3), (4, .int l4)]) B.1 dX12_isFilter_57 (by decide) rfl ?_
  refine s_iload_n B.1 4 dX12_isFilter_59 rfl rfl ?_
  refine s_iload_n B.1 3 dX12_isFilter_60 rfl rfl ?_
  refine s_iconst (v := 1) B.1 dX12_isFilter_61 (by decide) ?_
  refine s_isub B.1 dX12_isFilter_62 ?_
  refine s_icmp_eq B.1 78 dX12_isFilter_63 (by decide) ?_ ?_
  · exact Sm.lvs [1, 2, 3, 4, 5, 0] rfl (sm_isFilter_J78 B hl01 hl02 hkb hke121 hke129 l1 l2 l3 l4 s0)
  · refine s_aload_n B.1 1 dX12_isFilter_66 rfl rfl ?_
    refine s_iload_n B.1 2 dX12_isFilter_67 rfl rfl ?_
    refine s_iload_n B.1 4 dX12_isFilter_68 rfl rfl ?_
    refine s_iadd B.1 dX12_isFilter_69 ?_
    refine s_iconst (v := 1) B.1 dX12_isFilter_70 (by decide) ?_
    refine s_iadd B.1 dX12_isFilter_71 ?_
    refine rr_bald B l0 hl01 hl02 dX12_isFilter_72 (fun v1 => ?_)
    refine s_bipush (v := (47)) B.1 dX12_isFilter_73 (by decide) ?_
    refine s_icmp_ne B.1 82 dX12_isFilter_75 (by decide) ?_ ?_
    · refine s_iconst (v := 0) B.1 dX12_isFilter_82 (by decide) ?_
      exact Sm.lvs [1, 2, 3, 4, 5, 0] rfl (sm_isFilter_J83 B hl01 hl02 hkb hke121 hke129 l1 l2 l3 l4 s0 (0 : Int32))
    · exact Sm.lvs [1, 2, 3, 4, 5, 0] rfl (sm_isFilter_J78 B hl01 hl02 hkb hke121 hke129 l1 l2 l3 l4 s0)
def R_isFilter_J52 (l0 : Nat) (kb : Int32 → Int32 → Int32 → RS → Option (Int32 × RS)) (ke121 : RS → Option (Int32 × RS)) (ke129 : RS → Option (Int32 × RS)) (l1 : Int32) (l2 : Int32) (l3 : Int32) (l4 : Int32) : RS → Option (Int32 × RS) :=
  R_isFilter_J57 l0 kb ke121 ke129 l1 l2 l3 l4 (1 : Int32)
set_option maxRecDepth 10000 in
theorem sm_isFilter_J52 {g : Gm RS Int32} {kb : Int32 → Int32 → Int32 → RS → Option (Int32 × RS)} {ke121 : RS → Option (Int32 × RS)} {ke129 : RS → Option (Int32 × RS)} (B : Br g cX12_isFilter 7 voI (some .boolean) 1 22) {l0 : Nat} (hl01 : l0 < 99) (hl02 : mK l0 = 2) (hkb : ∀ (l1 : Int32) (l2 : Int32) (l3 : Int32), Sm g 7 24 [(0, .ref (g.1.2.2.2.2.2 + mO l0)), (1, .int l1), (2, .int l2), (3, .int l3)] [] (kb l1 l2 l3)) (hke121 : Sm g 7 121 [] [] (ke121)) (hke129 : Sm g 7 129 [] [] (ke129)) (l1 : Int32) (l2 : Int32) (l3 : Int32) (l4 : Int32) : Sm g 7 52 [(0, .ref (g.1.2.2.2.2.2 + mO l0)), (1, .int l1), (2, .int l2), (3, .int l3), (4, .int l4)] [] (R_isFilter_J52 l0 kb ke121 ke129 l1 l2 l3 l4) := by
  unfold R_isFilter_J52
  refine s_iconst (v := 1) B.1 dX12_isFilter_52 (by decide) ?_
  refine s_goto B.1 57 dX12_isFilter_53 (by decide) ?_
  exact Sm.lvs [0, 1, 2, 3, 4] rfl (sm_isFilter_J57 B hl01 hl02 hkb hke121 hke129 l1 l2 l3 l4 (1 : Int32))
def R_isFilter_B24 (l0 : Nat) (kb : Int32 → Int32 → Int32 → RS → Option (Int32 × RS)) (ke121 : RS → Option (Int32 × RS)) (ke129 : RS → Option (Int32 × RS)) (l1 : Int32) (l2 : Int32) (l3 : Int32) : RS → Option (Int32 × RS) :=
  if l2 ≤ l3 then (
    ke129
  ) else (
    rA l0 (l1 + l3) fun v2 =>
    if l3 = 0 then (
      R_isFilter_J52 l0 kb ke121 ke129 l1 l2 l3 v2
    ) else (
      rA l0 ((l1 + l3) - (1 : Int32)) fun v3 =>
      if v3 = (47 : Int32) then (
        R_isFilter_J52 l0 kb ke121 ke129 l1 l2 l3 v2
      ) else (
        R_isFilter_J57 l0 kb ke121 ke129 l1 l2 l3 v2 (0 : Int32)
      )
    )
  )
def R_isFilter_L24 (l0 : Nat) (ke121 : RS → Option (Int32 × RS)) (ke129 : RS → Option (Int32 × RS)) : Nat → Int32 → Int32 → Int32 → RS → Option (Int32 × RS)
  | 0, _, _, _ => no
  | n + 1, l1, l2, l3 => R_isFilter_B24 l0 (fun l1 l2 l3 => R_isFilter_L24 l0 ke121 ke129 n l1 l2 l3) ke121 ke129 l1 l2 l3
set_option maxRecDepth 10000 in
theorem sm_isFilter_B24 {g : Gm RS Int32} {kb : Int32 → Int32 → Int32 → RS → Option (Int32 × RS)} {ke121 : RS → Option (Int32 × RS)} {ke129 : RS → Option (Int32 × RS)} (B : Br g cX12_isFilter 7 voI (some .boolean) 1 22) {l0 : Nat} (hl01 : l0 < 99) (hl02 : mK l0 = 2) (hkb : ∀ (l1 : Int32) (l2 : Int32) (l3 : Int32), Sm g 7 24 [(0, .ref (g.1.2.2.2.2.2 + mO l0)), (1, .int l1), (2, .int l2), (3, .int l3)] [] (kb l1 l2 l3)) (hke121 : Sm g 7 121 [] [] (ke121)) (hke129 : Sm g 7 129 [] [] (ke129)) (l1 : Int32) (l2 : Int32) (l3 : Int32) : Sm g 7 24 [(0, .ref (g.1.2.2.2.2.2 + mO l0)), (1, .int l1), (2, .int l2), (3, .int l3)] [] (R_isFilter_B24 l0 kb ke121 ke129 l1 l2 l3) := by
  unfold R_isFilter_B24
  refine s_iload_n B.1 3 dX12_isFilter_24 rfl rfl ?_
  refine s_iload_n B.1 2 dX12_isFilter_25 rfl rfl ?_
  refine s_icmp_ge B.1 129 dX12_isFilter_26 (by decide) ?_ ?_
  · exact Sm.lvs [] rfl (hke129)
  · refine s_aload_n B.1 0 dX12_isFilter_29 rfl rfl ?_
    refine s_iload_n B.1 1 dX12_isFilter_30 rfl rfl ?_
    refine s_iload_n B.1 3 dX12_isFilter_31 rfl rfl ?_
    refine s_iadd B.1 dX12_isFilter_32 ?_
    refine rr_bald B l0 hl01 hl02 dX12_isFilter_33 (fun v2 => ?_)
    refine s_istore (lv' := [(4, .int v2), (0, .ref (g.1.2.2.2.2.2 + mO l0)), (1, .int l1), (2, .int l2), (3, .int l3)]) B.1 dX12_isFilter_34 (by decide) rfl ?_
    refine s_iload_n B.1 4 dX12_isFilter_36 rfl rfl ?_
    refine s_if_eq B.1 52 dX12_isFilter_37 (by decide) ?_ ?_
    · exact Sm.lvs [1, 2, 3, 4, 0] rfl (sm_isFilter_J52 B hl01 hl02 hkb hke121 hke129 l1 l2 l3 v2)
    · refine s_aload_n B.1 1 dX12_isFilter_40 rfl rfl ?_
      refine s_iload_n B.1 2 dX12_isFilter_41 rfl rfl ?_
      refine s_iload_n B.1 4 dX12_isFilter_42 rfl rfl ?_
      refine s_iadd B.1 dX12_isFilter_43 ?_
      refine s_iconst (v := 1) B.1 dX12_isFilter_44 (by decide) ?_
      refine s_isub B.1 dX12_isFilter_45 ?_
      refine rr_bald B l0 hl01 hl02 dX12_isFilter_46 (fun v3 => ?_)
      refine s_bipush (v := (47)) B.1 dX12_isFilter_47 (by decide) ?_
      refine s_icmp_ne B.1 56 dX12_isFilter_49 (by decide) ?_ ?_
      · refine s_iconst (v := 0) B.1 dX12_isFilter_56 (by decide) ?_
        exact Sm.lvs [1, 2, 3, 4, 0] rfl (sm_isFilter_J57 B hl01 hl02 hkb hke121 hke129 l1 l2 l3 v2 (0 : Int32))
      · exact Sm.lvs [1, 2, 3, 4, 0] rfl (sm_isFilter_J52 B hl01 hl02 hkb hke121 hke129 l1 l2 l3 v2)
set_option maxRecDepth 10000 in
theorem sm_isFilter_L24 {g : Gm RS Int32} {ke121 : RS → Option (Int32 × RS)} {ke129 : RS → Option (Int32 × RS)} (B : Br g cX12_isFilter 7 voI (some .boolean) 1 22) {l0 : Nat} (hl01 : l0 < 99) (hl02 : mK l0 = 2) (hke121 : Sm g 7 121 [] [] (ke121)) (hke129 : Sm g 7 129 [] [] (ke129)) : ∀ (n : Nat) (l1 : Int32) (l2 : Int32) (l3 : Int32), Sm g 7 24 [(0, .ref (g.1.2.2.2.2.2 + mO l0)), (1, .int l1), (2, .int l2), (3, .int l3)] [] (R_isFilter_L24 l0 ke121 ke129 n l1 l2 l3)
  | 0, _, _, _ => Sm.fail
  | n + 1, l1, l2, l3 => sm_isFilter_B24 B hl01 hl02 (sm_isFilter_L24 B hl01 hl02 hke121 hke129 n) hke121 hke129 l1 l2 l3
def R_isFilter (l0 : Nat) (l1 : Int32) (l2 : Int32) : RS → Option (Int32 × RS) :=
  if l2 < (1 : Int32) then (
    zt ((0 : Int32))
  ) else (
    if (64 : Int32) < l2 then (
      zt ((0 : Int32))
    ) else (
      bd (R_isShare l0 l1 l2) fun r4 =>
      if r4 = 0 then (
        R_isFilter_L24 l0 (R_isFilter_J121 l0) (R_isFilter_J129 l0) fu l1 l2 (0 : Int32)
      ) else (
        zt ((0 : Int32))
      )
    )
  )
set_option maxRecDepth 10000 in
theorem m_isFilter {w : Wd} (hw : Wok w) (l0 : Nat) (l1 : Int32) (l2 : Int32) (hl01 : l0 < 99) (hl02 : mK l0 = 2) : MR w yX12_isFilter cX12_isFilter 7 (some .boolean) 1 22 voI [.ref (w.2.2.2.2.2 + mO l0), .int l1, .int l2] (R_isFilter l0 l1 l2) := by
  refine MR.of hw rfl (Nat.le_of_ble_eq_true rfl) (fun g hg B => ?_)
  subst hg
  unfold R_isFilter
  show Sm g 7 0 [(0, .ref (g.1.2.2.2.2.2 + mO l0)), (1, .int l1), (2, .int l2)] [] _
  refine s_iload_n B.1 2 dX12_isFilter_0 rfl rfl ?_
  refine s_iconst (v := 1) B.1 dX12_isFilter_1 (by decide) ?_
  refine s_icmp_lt B.1 20 dX12_isFilter_2 (by decide) ?_ ?_
  · refine s_iconst (v := 0) B.1 dX12_isFilter_20 (by decide) ?_
    exact s_zret B.1 B.2.1 dX12_isFilter_21
  · refine s_iload_n B.1 2 dX12_isFilter_5 rfl rfl ?_
    refine s_bipush (v := (64)) B.1 dX12_isFilter_6 (by decide) ?_
    refine s_icmp_gt B.1 20 dX12_isFilter_8 (by decide) ?_ ?_
    · refine s_iconst (v := 0) B.1 dX12_isFilter_20 (by decide) ?_
      exact s_zret B.1 B.2.1 dX12_isFilter_21
    · refine s_aload_n B.1 0 dX12_isFilter_11 rfl rfl ?_
      refine s_iload_n B.1 1 dX12_isFilter_12 rfl rfl ?_
      refine s_iload_n B.1 2 dX12_isFilter_13 rfl rfl ?_
      refine rr_csi (As := [.ref (g.1.2.2.2.2.2 + mO l0), .int l1, .int l2]) (st := []) B (m_isShare B.ok l0 l1 l2 hl01 hl02) mc_isShare ml_isShare ms_isShare ini12 md_isShare (by decide) rfl (Nat.le_of_ble_eq_true rfl) dX12_isFilter_14 (fun r4 => ?_)
      refine s_if_eq B.1 22 dX12_isFilter_17 (by decide) ?_ ?_
      · refine s_iconst (v := 0) B.1 dX12_isFilter_22 (by decide) ?_
        refine s_istore_n (lv' := [(3, .int (0 : Int32)), (0, .ref (g.1.2.2.2.2.2 + mO l0)), (1, .int l1), (2, .int l2)]) B.1 dX12_isFilter_23 rfl (by decide) rfl ?_
        exact Sm.lvs [1, 2, 3, 0] rfl (sm_isFilter_L24 B hl01 hl02 (sm_isFilter_J121 B hl01 hl02) (sm_isFilter_J129 B hl01 hl02) fu l1 l2 (0 : Int32))
      · refine s_iconst (v := 0) B.1 dX12_isFilter_20 (by decide) ?_
        exact s_zret B.1 B.2.1 dX12_isFilter_21
def R_shareAt_J63 (l0 : Nat) (l1 : Int32) (l2 : Int32) (l3 : Int32) : RS → Option (Int32 × RS) :=
  if l3 ≤ (7 : Int32) then (
    rt ((0 : Int32))
  ) else (
    if l2 ≤ l3 then (
      rt ((0 : Int32))
    ) else (
      bd (R_isFilter l0 ((l1 + l3) + (1 : Int32)) ((l2 - l3) - (1 : Int32))) fun r1 =>
      if r1 = 0 then (
        rt ((0 : Int32))
      ) else (
        rt (l3 + (1 : Int32))
      )
    )
  )
set_option maxRecDepth 10000 in
theorem sm_shareAt_J63 {g : Gm RS Int32} (B : Br g cX12_shareAt 4 voI (some .int) 2 48) {l0 : Nat} (hl01 : l0 < 99) (hl02 : mK l0 = 2) (l1 : Int32) (l2 : Int32) (l3 : Int32) : Sm g 4 63 [(0, .ref (g.1.2.2.2.2.2 + mO l0)), (1, .int l1), (2, .int l2), (3, .int l3)] [] (R_shareAt_J63 l0 l1 l2 l3) := by
  unfold R_shareAt_J63
  refine s_iload_n B.1 3 dX12_shareAt_63 rfl rfl ?_
  refine s_bipush (v := (7)) B.1 dX12_shareAt_64 (by decide) ?_
  refine s_icmp_le B.1 97 dX12_shareAt_66 (by decide) ?_ ?_
  · refine s_iconst (v := 0) B.1 dX12_shareAt_97 (by decide) ?_
    exact s_iret B.1 B.2.1 dX12_shareAt_98
  · refine s_iload_n B.1 3 dX12_shareAt_69 rfl rfl ?_
    refine s_iload_n B.1 2 dX12_shareAt_70 rfl rfl ?_
    refine s_icmp_ge B.1 97 dX12_shareAt_71 (by decide) ?_ ?_
    · refine s_iconst (v := 0) B.1 dX12_shareAt_97 (by decide) ?_
      exact s_iret B.1 B.2.1 dX12_shareAt_98
    · refine s_aload_n B.1 0 dX12_shareAt_74 rfl rfl ?_
      refine s_iload_n B.1 1 dX12_shareAt_75 rfl rfl ?_
      refine s_iload_n B.1 3 dX12_shareAt_76 rfl rfl ?_
      refine s_iadd B.1 dX12_shareAt_77 ?_
      refine s_iconst (v := 1) B.1 dX12_shareAt_78 (by decide) ?_
      refine s_iadd B.1 dX12_shareAt_79 ?_
      refine s_iload_n B.1 2 dX12_shareAt_80 rfl rfl ?_
      refine s_iload_n B.1 3 dX12_shareAt_81 rfl rfl ?_
      refine s_isub B.1 dX12_shareAt_82 ?_
      refine s_iconst (v := 1) B.1 dX12_shareAt_83 (by decide) ?_
      refine s_isub B.1 dX12_shareAt_84 ?_
      refine rr_csi (As := [.ref (g.1.2.2.2.2.2 + mO l0), .int ((l1 + l3) + (1 : Int32)), .int ((l2 - l3) - (1 : Int32))]) (st := []) B (m_isFilter B.ok l0 ((l1 + l3) + (1 : Int32)) ((l2 - l3) - (1 : Int32)) hl01 hl02) mc_isFilter ml_isFilter ms_isFilter ini12 md_isFilter (by decide) rfl (Nat.le_of_ble_eq_true rfl) dX12_shareAt_85 (fun r1 => ?_)
      refine s_if_eq B.1 97 dX12_shareAt_88 (by decide) ?_ ?_
      · refine s_iconst (v := 0) B.1 dX12_shareAt_97 (by decide) ?_
        exact s_iret B.1 B.2.1 dX12_shareAt_98
      · refine s_iload_n B.1 3 dX12_shareAt_91 rfl rfl ?_
        refine s_iconst (v := 1) B.1 dX12_shareAt_92 (by decide) ?_
        refine s_iadd B.1 dX12_shareAt_93 ?_
        refine s_goto B.1 98 dX12_shareAt_94 (by decide) ?_
        exact s_iret B.1 B.2.1 dX12_shareAt_98
def R_shareAt_J55 (l0 : Nat) : RS → Option (Int32 × RS) :=
  rt ((0 : Int32))
set_option maxRecDepth 10000 in
theorem sm_shareAt_J55 {g : Gm RS Int32} (B : Br g cX12_shareAt 4 voI (some .int) 2 48) {l0 : Nat} (hl01 : l0 < 99) (hl02 : mK l0 = 2) : Sm g 4 55 [] [] (R_shareAt_J55 l0) := by
  unfold R_shareAt_J55
  refine s_iconst (v := 0) B.1 dX12_shareAt_55 (by decide) ?_
  exact s_iret B.1 B.2.1 dX12_shareAt_56
def R_shareAt_B20 (l0 : Nat) (kb : Int32 → Int32 → Int32 → RS → Option (Int32 × RS)) (ke55 : RS → Option (Int32 × RS)) (ke63 : Int32 → Int32 → Int32 → RS → Option (Int32 × RS)) (l1 : Int32) (l2 : Int32) (l3 : Int32) : RS → Option (Int32 × RS) :=
  if l2 ≤ l3 then (
    ke63 l1 l2 l3
  ) else (
    rA l0 (l1 + l3) fun v2 =>
    if v2 = (47 : Int32) then (
      ke63 l1 l2 l3
    ) else (
      rA l0 (l1 + l3) fun v3 =>
      if v3 = (43 : Int32) then (
        ke55
      ) else (
        rA l0 (l1 + l3) fun v4 =>
        if v4 = (35 : Int32) then (
          ke55
        ) else (
          kb l1 l2 (l3 + 1)
        )
      )
    )
  )
def R_shareAt_L20 (l0 : Nat) (ke55 : RS → Option (Int32 × RS)) (ke63 : Int32 → Int32 → Int32 → RS → Option (Int32 × RS)) : Nat → Int32 → Int32 → Int32 → RS → Option (Int32 × RS)
  | 0, _, _, _ => no
  | n + 1, l1, l2, l3 => R_shareAt_B20 l0 (fun l1 l2 l3 => R_shareAt_L20 l0 ke55 ke63 n l1 l2 l3) ke55 ke63 l1 l2 l3
set_option maxRecDepth 10000 in
theorem sm_shareAt_B20 {g : Gm RS Int32} {kb : Int32 → Int32 → Int32 → RS → Option (Int32 × RS)} {ke55 : RS → Option (Int32 × RS)} {ke63 : Int32 → Int32 → Int32 → RS → Option (Int32 × RS)} (B : Br g cX12_shareAt 4 voI (some .int) 2 48) {l0 : Nat} (hl01 : l0 < 99) (hl02 : mK l0 = 2) (hkb : ∀ (l1 : Int32) (l2 : Int32) (l3 : Int32), Sm g 4 20 [(0, .ref (g.1.2.2.2.2.2 + mO l0)), (1, .int l1), (2, .int l2), (3, .int l3)] [] (kb l1 l2 l3)) (hke55 : Sm g 4 55 [] [] (ke55)) (hke63 : ∀ (l1 : Int32) (l2 : Int32) (l3 : Int32), Sm g 4 63 [(0, .ref (g.1.2.2.2.2.2 + mO l0)), (1, .int l1), (2, .int l2), (3, .int l3)] [] (ke63 l1 l2 l3)) (l1 : Int32) (l2 : Int32) (l3 : Int32) : Sm g 4 20 [(0, .ref (g.1.2.2.2.2.2 + mO l0)), (1, .int l1), (2, .int l2), (3, .int l3)] [] (R_shareAt_B20 l0 kb ke55 ke63 l1 l2 l3) := by
  unfold R_shareAt_B20
  refine s_iload_n B.1 3 dX12_shareAt_20 rfl rfl ?_
  refine s_iload_n B.1 2 dX12_shareAt_21 rfl rfl ?_
  refine s_icmp_ge B.1 63 dX12_shareAt_22 (by decide) ?_ ?_
  · exact Sm.lvs [0, 1, 2, 3] rfl (hke63 l1 l2 l3)
  · refine s_aload_n B.1 0 dX12_shareAt_25 rfl rfl ?_
    refine s_iload_n B.1 1 dX12_shareAt_26 rfl rfl ?_
    refine s_iload_n B.1 3 dX12_shareAt_27 rfl rfl ?_
    refine s_iadd B.1 dX12_shareAt_28 ?_
    refine rr_bald B l0 hl01 hl02 dX12_shareAt_29 (fun v2 => ?_)
    refine s_bipush (v := (47)) B.1 dX12_shareAt_30 (by decide) ?_
    refine s_icmp_eq B.1 63 dX12_shareAt_32 (by decide) ?_ ?_
    · exact Sm.lvs [0, 1, 2, 3] rfl (hke63 l1 l2 l3)
    · refine s_aload_n B.1 0 dX12_shareAt_35 rfl rfl ?_
      refine s_iload_n B.1 1 dX12_shareAt_36 rfl rfl ?_
      refine s_iload_n B.1 3 dX12_shareAt_37 rfl rfl ?_
      refine s_iadd B.1 dX12_shareAt_38 ?_
      refine rr_bald B l0 hl01 hl02 dX12_shareAt_39 (fun v3 => ?_)
      refine s_bipush (v := (43)) B.1 dX12_shareAt_40 (by decide) ?_
      refine s_icmp_eq B.1 55 dX12_shareAt_42 (by decide) ?_ ?_
      · exact Sm.lvs [] rfl (hke55)
      · refine s_aload_n B.1 0 dX12_shareAt_45 rfl rfl ?_
        refine s_iload_n B.1 1 dX12_shareAt_46 rfl rfl ?_
        refine s_iload_n B.1 3 dX12_shareAt_47 rfl rfl ?_
        refine s_iadd B.1 dX12_shareAt_48 ?_
        refine rr_bald B l0 hl01 hl02 dX12_shareAt_49 (fun v4 => ?_)
        refine s_bipush (v := (35)) B.1 dX12_shareAt_50 (by decide) ?_
        refine s_icmp_ne B.1 57 dX12_shareAt_52 (by decide) ?_ ?_
        · refine s_iinc (v := l3 + 1) (lv' := [(3, .int (l3 + 1)), (0, .ref (g.1.2.2.2.2.2 + mO l0)), (1, .int l1), (2, .int l2)]) B.1 3 dX12_shareAt_57 rfl rfl (by decide) rfl ?_
          refine s_goto B.1 20 dX12_shareAt_60 (by decide) ?_
          exact Sm.lvs [1, 2, 3, 0] rfl (hkb l1 l2 (l3 + 1))
        · exact Sm.lvs [] rfl (hke55)
set_option maxRecDepth 10000 in
theorem sm_shareAt_L20 {g : Gm RS Int32} {ke55 : RS → Option (Int32 × RS)} {ke63 : Int32 → Int32 → Int32 → RS → Option (Int32 × RS)} (B : Br g cX12_shareAt 4 voI (some .int) 2 48) {l0 : Nat} (hl01 : l0 < 99) (hl02 : mK l0 = 2) (hke55 : Sm g 4 55 [] [] (ke55)) (hke63 : ∀ (l1 : Int32) (l2 : Int32) (l3 : Int32), Sm g 4 63 [(0, .ref (g.1.2.2.2.2.2 + mO l0)), (1, .int l1), (2, .int l2), (3, .int l3)] [] (ke63 l1 l2 l3)) : ∀ (n : Nat) (l1 : Int32) (l2 : Int32) (l3 : Int32), Sm g 4 20 [(0, .ref (g.1.2.2.2.2.2 + mO l0)), (1, .int l1), (2, .int l2), (3, .int l3)] [] (R_shareAt_L20 l0 ke55 ke63 n l1 l2 l3)
  | 0, _, _, _ => Sm.fail
  | n + 1, l1, l2, l3 => sm_shareAt_B20 B hl01 hl02 (sm_shareAt_L20 B hl01 hl02 hke55 hke63 n) hke55 hke63 l1 l2 l3
def R_shareAt (l0 : Nat) (l1 : Int32) (l2 : Int32) : RS → Option (Int32 × RS) :=
  bd (R_isShare l0 l1 l2) fun r5 =>
  if r5 = 0 then (
    rt ((0 : Int32))
  ) else (
    if l2 ≤ (64 : Int32) then (
      R_shareAt_L20 l0 (R_shareAt_J55 l0) (fun l1 l2 l3 => R_shareAt_J63 l0 l1 l2 l3) fu l1 l2 (7 : Int32)
    ) else (
      rt ((0 : Int32))
    )
  )
set_option maxRecDepth 10000 in
theorem m_shareAt {w : Wd} (hw : Wok w) (l0 : Nat) (l1 : Int32) (l2 : Int32) (hl01 : l0 < 99) (hl02 : mK l0 = 2) : MR w yX12_shareAt cX12_shareAt 4 (some .int) 2 48 voI [.ref (w.2.2.2.2.2 + mO l0), .int l1, .int l2] (R_shareAt l0 l1 l2) := by
  refine MR.of hw rfl (Nat.le_of_ble_eq_true rfl) (fun g hg B => ?_)
  subst hg
  unfold R_shareAt
  show Sm g 4 0 [(0, .ref (g.1.2.2.2.2.2 + mO l0)), (1, .int l1), (2, .int l2)] [] _
  refine s_aload_n B.1 0 dX12_shareAt_0 rfl rfl ?_
  refine s_iload_n B.1 1 dX12_shareAt_1 rfl rfl ?_
  refine s_iload_n B.1 2 dX12_shareAt_2 rfl rfl ?_
  refine rr_csi (As := [.ref (g.1.2.2.2.2.2 + mO l0), .int l1, .int l2]) (st := []) B (m_isShare B.ok l0 l1 l2 hl01 hl02) mc_isShare ml_isShare ms_isShare ini12 md_isShare (by decide) rfl (Nat.le_of_ble_eq_true rfl) dX12_shareAt_3 (fun r5 => ?_)
  refine s_if_eq B.1 15 dX12_shareAt_6 (by decide) ?_ ?_
  · refine s_iconst (v := 0) B.1 dX12_shareAt_15 (by decide) ?_
    exact s_iret B.1 B.2.1 dX12_shareAt_16
  · refine s_iload_n B.1 2 dX12_shareAt_9 rfl rfl ?_
    refine s_bipush (v := (64)) B.1 dX12_shareAt_10 (by decide) ?_
    refine s_icmp_le B.1 17 dX12_shareAt_12 (by decide) ?_ ?_
    · refine s_bipush (v := (7)) B.1 dX12_shareAt_17 (by decide) ?_
      refine s_istore_n (lv' := [(3, .int (7 : Int32)), (0, .ref (g.1.2.2.2.2.2 + mO l0)), (1, .int l1), (2, .int l2)]) B.1 dX12_shareAt_19 rfl (by decide) rfl ?_
      exact Sm.lvs [1, 2, 3, 0] rfl (sm_shareAt_L20 B hl01 hl02 (sm_shareAt_J55 B hl01 hl02) (fun l1 l2 l3 => sm_shareAt_J63 B hl01 hl02 l1 l2 l3) fu l1 l2 (7 : Int32))
    · refine s_iconst (v := 0) B.1 dX12_shareAt_15 (by decide) ?_
      exact s_iret B.1 B.2.1 dX12_shareAt_16
def R_isShared (l1 : Int32) : RS → Option (Int32 × RS) :=
  rA 25 l1 fun v1 =>
  bd (R_shareAt 26 ((64 : Int32) * l1) v1) fun r2 =>
  if r2 ≤ 0 then (
    zt ((0 : Int32))
  ) else (
    zt ((1 : Int32))
  )
set_option maxRecDepth 10000 in
theorem m_isShared {w : Wd} (hw : Wok w) (l1 : Int32) : MR w yX12_isShared cX12_isShared 2 (some .boolean) 3 71 voI [.ref w.2.2.2.2.2, .int l1] (R_isShared l1) := by
  refine MR.of hw rfl (Nat.le_of_ble_eq_true rfl) (fun g hg B => ?_)
  subst hg
  unfold R_isShared
  show Sm g 2 0 [(0, .ref g.1.2.2.2.2.2), (1, .int l1)] [] _
  refine s_aload_n B.1 0 dX12_isShared_0 rfl rfl ?_
  refine rr_getA B 26 mh_26 mn_26 mf_26 dX12_isShared_1 ?_
  refine s_bipush (v := (64)) B.1 dX12_isShared_4 (by decide) ?_
  refine s_iload_n B.1 1 dX12_isShared_6 rfl rfl ?_
  refine s_imul B.1 dX12_isShared_7 ?_
  refine s_aload_n B.1 0 dX12_isShared_8 rfl rfl ?_
  refine rr_getA B 25 mh_25 mn_25 mf_25 dX12_isShared_9 ?_
  refine s_iload_n B.1 1 dX12_isShared_12 rfl rfl ?_
  refine rr_iald B 25 mh_25 mk_25 dX12_isShared_13 (fun v1 => ?_)
  refine rr_csi (As := [.ref (g.1.2.2.2.2.2 + mO 26), .int ((64 : Int32) * l1), .int v1]) (st := []) B (m_shareAt B.ok 26 ((64 : Int32) * l1) v1 mh_26 mk_26) mc_shareAt ml_shareAt ms_shareAt ini12 md_shareAt (by decide) rfl (Nat.le_of_ble_eq_true rfl) dX12_isShared_14 (fun r2 => ?_)
  refine s_if_le B.1 24 dX12_isShared_17 (by decide) ?_ ?_
  · refine s_iconst (v := 0) B.1 dX12_isShared_24 (by decide) ?_
    exact s_zret B.1 B.2.1 dX12_isShared_25
  · refine s_iconst (v := 1) B.1 dX12_isShared_20 (by decide) ?_
    refine s_goto B.1 25 dX12_isShared_21 (by decide) ?_
    exact s_zret B.1 B.2.1 dX12_isShared_25
def R_matches_J342 (l5 : Int32) (l7 : Int32) : RS → Option (Int32 × RS) :=
  if l7 = l5 then (
    zt ((1 : Int32))
  ) else (
    zt ((0 : Int32))
  )
set_option maxRecDepth 10000 in
theorem sm_matches_J342 {g : Gm RS Int32} (B : Br g cX12_matches 10 voI (some .boolean) 0 0) (l5 : Int32) (l7 : Int32) : Sm g 10 342 [(5, .int l5), (7, .int l7)] [] (R_matches_J342 l5 l7) := by
  unfold R_matches_J342
  refine s_iload B.1 1 dX12_matches_342 rfl ?_
  refine s_iload B.1 0 dX12_matches_344 rfl ?_
  refine s_icmp_ne B.1 353 dX12_matches_346 (by decide) ?_ ?_
  · refine s_iconst (v := 0) B.1 dX12_matches_353 (by decide) ?_
    exact s_zret B.1 B.2.1 dX12_matches_354
  · refine s_iconst (v := 1) B.1 dX12_matches_349 (by decide) ?_
    refine s_goto B.1 354 dX12_matches_350 (by decide) ?_
    exact s_zret B.1 B.2.1 dX12_matches_354
def R_matches_J328 : RS → Option (Int32 × RS) :=
  zt ((0 : Int32))
set_option maxRecDepth 10000 in
theorem sm_matches_J328 {g : Gm RS Int32} (B : Br g cX12_matches 10 voI (some .boolean) 0 0) : Sm g 10 328 [] [] (R_matches_J328) := by
  unfold R_matches_J328
  refine s_iconst (v := 0) B.1 dX12_matches_328 (by decide) ?_
  exact s_zret B.1 B.2.1 dX12_matches_329
def R_matches_J286 (l1 : Int32) (l2 : Int32) (l6 : Int32) : RS → Option (Int32 × RS) :=
  if l6 = l2 then (
    zt ((1 : Int32))
  ) else (
    if l6 = (l2 - (2 : Int32)) then (
      rA 26 ((l1 + l6) + (1 : Int32)) fun v1 =>
      if v1 = (35 : Int32) then (
        zt ((1 : Int32))
      ) else (
        zt ((0 : Int32))
      )
    ) else (
      zt ((0 : Int32))
    )
  )
set_option maxRecDepth 10000 in
theorem sm_matches_J286 {g : Gm RS Int32} (B : Br g cX12_matches 10 voI (some .boolean) 0 0) (l1 : Int32) (l2 : Int32) (l6 : Int32) : Sm g 10 286 [(0, .ref g.1.2.2.2.2.2), (1, .int l1), (2, .int l2), (6, .int l6)] [] (R_matches_J286 l1 l2 l6) := by
  unfold R_matches_J286
  refine s_iload B.1 3 dX12_matches_286 rfl ?_
  refine s_iload_n B.1 2 dX12_matches_288 rfl rfl ?_
  refine s_icmp_eq B.1 316 dX12_matches_289 (by decide) ?_ ?_
  · refine s_iconst (v := 1) B.1 dX12_matches_316 (by decide) ?_
    refine s_goto B.1 321 dX12_matches_317 (by decide) ?_
    exact s_zret B.1 B.2.1 dX12_matches_321
  · refine s_iload B.1 3 dX12_matches_292 rfl ?_
    refine s_iload_n B.1 2 dX12_matches_294 rfl rfl ?_
    refine s_iconst (v := 2) B.1 dX12_matches_295 (by decide) ?_
    refine s_isub B.1 dX12_matches_296 ?_
    refine s_icmp_ne B.1 320 dX12_matches_297 (by decide) ?_ ?_
    · refine s_iconst (v := 0) B.1 dX12_matches_320 (by decide) ?_
      exact s_zret B.1 B.2.1 dX12_matches_321
    · refine s_aload_n B.1 0 dX12_matches_300 rfl rfl ?_
      refine rr_getA B 26 mh_26 mn_26 mf_26 dX12_matches_301 ?_
      refine s_iload_n B.1 1 dX12_matches_304 rfl rfl ?_
      refine s_iload B.1 3 dX12_matches_305 rfl ?_
      refine s_iadd B.1 dX12_matches_307 ?_
      refine s_iconst (v := 1) B.1 dX12_matches_308 (by decide) ?_
      refine s_iadd B.1 dX12_matches_309 ?_
      refine rr_bald B 26 mh_26 mk_26 dX12_matches_310 (fun v1 => ?_)
      refine s_bipush (v := (35)) B.1 dX12_matches_311 (by decide) ?_
      refine s_icmp_ne B.1 320 dX12_matches_313 (by decide) ?_ ?_
      · refine s_iconst (v := 0) B.1 dX12_matches_320 (by decide) ?_
        exact s_zret B.1 B.2.1 dX12_matches_321
      · refine s_iconst (v := 1) B.1 dX12_matches_316 (by decide) ?_
        refine s_goto B.1 321 dX12_matches_317 (by decide) ?_
        exact s_zret B.1 B.2.1 dX12_matches_321
def R_matches_J277 : RS → Option (Int32 × RS) :=
  zt ((0 : Int32))
set_option maxRecDepth 10000 in
theorem sm_matches_J277 {g : Gm RS Int32} (B : Br g cX12_matches 10 voI (some .boolean) 0 0) : Sm g 10 277 [] [] (R_matches_J277) := by
  unfold R_matches_J277
  refine s_iconst (v := 0) B.1 dX12_matches_277 (by decide) ?_
  exact s_zret B.1 B.2.1 dX12_matches_278
def R_matches_J100 : RS → Option (Int32 × RS) :=
  zt ((1 : Int32))
set_option maxRecDepth 10000 in
theorem sm_matches_J100 {g : Gm RS Int32} (B : Br g cX12_matches 10 voI (some .boolean) 0 0) : Sm g 10 100 [] [] (R_matches_J100) := by
  unfold R_matches_J100
  refine s_iconst (v := 1) B.1 dX12_matches_100 (by decide) ?_
  exact s_zret B.1 B.2.1 dX12_matches_101
def R_matches_J265 (kb : Int32 → Int32 → Int32 → Int32 → Int32 → Int32 → RS → Option (Int32 × RS)) (ke100 : RS → Option (Int32 × RS)) (ke277 : RS → Option (Int32 × RS)) (ke286 : Int32 → Int32 → Int32 → RS → Option (Int32 × RS)) (ke328 : RS → Option (Int32 × RS)) (ke342 : Int32 → Int32 → RS → Option (Int32 × RS)) (l1 : Int32) (l2 : Int32) (l4 : Int32) (l5 : Int32) (l6 : Int32) (l7 : Int32) (l8 : Int32) (s0 : Int32) : RS → Option (Int32 × RS) :=
  if l8 = 0 then (
    ke277
  ) else (
    if s0 = 0 then (
      ke277
    ) else (
      if l7 = l5 then (
        ke286 l1 l2 l6
      ) else (
        if l6 = l2 then (
          ke328
        ) else (
          if (l6 + 1) = l2 then (
            ke342 l5 (l7 + 1)
          ) else (
            kb l1 l2 l4 l5 (l6 + 1) (l7 + 1)
          )
        )
      )
    )
  )
set_option maxRecDepth 10000 in
theorem sm_matches_J265 {g : Gm RS Int32} {kb : Int32 → Int32 → Int32 → Int32 → Int32 → Int32 → RS → Option (Int32 × RS)} {ke100 : RS → Option (Int32 × RS)} {ke277 : RS → Option (Int32 × RS)} {ke286 : Int32 → Int32 → Int32 → RS → Option (Int32 × RS)} {ke328 : RS → Option (Int32 × RS)} {ke342 : Int32 → Int32 → RS → Option (Int32 × RS)} (B : Br g cX12_matches 10 voI (some .boolean) 0 0) (hkb : ∀ (l1 : Int32) (l2 : Int32) (l4 : Int32) (l5 : Int32) (l6 : Int32) (l7 : Int32), Sm g 10 57 [(0, .ref g.1.2.2.2.2.2), (1, .int l1), (2, .int l2), (4, .int l4), (5, .int l5), (6, .int l6), (7, .int l7)] [] (kb l1 l2 l4 l5 l6 l7)) (hke100 : Sm g 10 100 [] [] (ke100)) (hke277 : Sm g 10 277 [] [] (ke277)) (hke286 : ∀ (l1 : Int32) (l2 : Int32) (l6 : Int32), Sm g 10 286 [(0, .ref g.1.2.2.2.2.2), (1, .int l1), (2, .int l2), (6, .int l6)] [] (ke286 l1 l2 l6)) (hke328 : Sm g 10 328 [] [] (ke328)) (hke342 : ∀ (l5 : Int32) (l7 : Int32), Sm g 10 342 [(5, .int l5), (7, .int l7)] [] (ke342 l5 l7)) (l1 : Int32) (l2 : Int32) (l4 : Int32) (l5 : Int32) (l6 : Int32) (l7 : Int32) (l8 : Int32) (s0 : Int32) : Sm g 10 265 [(0, .ref g.1.2.2.2.2.2), (1, .int l1), (2, .int l2), (4, .int l4), (5, .int l5), (6, .int l6), (7, .int l7), (8, .int l8)] [.int s0] (R_matches_J265 kb ke100 ke277 ke286 ke328 ke342 l1 l2 l4 l5 l6 l7 l8 s0) := by
  unfold R_matches_J265
  refine s_istore (lv' := [(9, .int s0), (0, .ref g.1.2.2.2.2.2), (1, .int l1), (2, .int l2), (4, .int l4), (5, .int l5), (6, .int l6), (7, .int l7), (8, .int l8)]) B.1 dX12_matches_265 (by decide) rfl ?_
  refine s_iload B.1 8 dX12_matches_267 rfl ?_
  refine s_if_eq B.1 277 dX12_matches_269 (by decide) ?_ ?_
  · exact Sm.lvs [] rfl (hke277)
  · refine s_iload B.1 0 dX12_matches_272 rfl ?_
    refine s_if_ne B.1 279 dX12_matches_274 (by decide) ?_ ?_
    · refine s_iload B.1 7 dX12_matches_279 rfl ?_
      refine s_iload B.1 5 dX12_matches_281 rfl ?_
      refine s_icmp_ne B.1 322 dX12_matches_283 (by decide) ?_ ?_
      · refine s_iload B.1 6 dX12_matches_322 rfl ?_
        refine s_iload_n B.1 3 dX12_matches_324 rfl rfl ?_
        refine s_icmp_ne B.1 330 dX12_matches_325 (by decide) ?_ ?_
        · refine s_iinc (v := l6 + 1) (lv' := [(6, .int (l6 + 1)), (9, .int s0), (0, .ref g.1.2.2.2.2.2), (1, .int l1), (2, .int l2), (4, .int l4), (5, .int l5), (7, .int l7), (8, .int l8)]) B.1 6 dX12_matches_330 rfl rfl (by decide) rfl ?_
          refine s_iinc (v := l7 + 1) (lv' := [(7, .int (l7 + 1)), (6, .int (l6 + 1)), (9, .int s0), (0, .ref g.1.2.2.2.2.2), (1, .int l1), (2, .int l2), (4, .int l4), (5, .int l5), (8, .int l8)]) B.1 7 dX12_matches_333 rfl rfl (by decide) rfl ?_
          refine s_iload B.1 1 dX12_matches_336 rfl ?_
          refine s_iload_n B.1 5 dX12_matches_338 rfl rfl ?_
          refine s_icmp_ne B.1 355 dX12_matches_339 (by decide) ?_ ?_
          · refine s_goto B.1 57 dX12_matches_355 (by decide) ?_
            exact Sm.lvs [3, 4, 5, 6, 7, 1, 0] rfl (hkb l1 l2 l4 l5 (l6 + 1) (l7 + 1))
          · exact Sm.lvs [7, 0] rfl (hke342 l5 (l7 + 1))
        · exact Sm.lvs [] rfl (hke328)
      · exact Sm.lvs [1, 2, 3, 6] rfl (hke286 l1 l2 l6)
    · exact Sm.lvs [] rfl (hke277)
def R_matches_J260 (kb : Int32 → Int32 → Int32 → Int32 → Int32 → Int32 → RS → Option (Int32 × RS)) (ke100 : RS → Option (Int32 × RS)) (ke277 : RS → Option (Int32 × RS)) (ke286 : Int32 → Int32 → Int32 → RS → Option (Int32 × RS)) (ke328 : RS → Option (Int32 × RS)) (ke342 : Int32 → Int32 → RS → Option (Int32 × RS)) (l1 : Int32) (l2 : Int32) (l4 : Int32) (l5 : Int32) (l6 : Int32) (l7 : Int32) (l8 : Int32) : RS → Option (Int32 × RS) :=
  R_matches_J265 kb ke100 ke277 ke286 ke328 ke342 l1 l2 l4 l5 l6 l7 l8 (1 : Int32)
set_option maxRecDepth 10000 in
theorem sm_matches_J260 {g : Gm RS Int32} {kb : Int32 → Int32 → Int32 → Int32 → Int32 → Int32 → RS → Option (Int32 × RS)} {ke100 : RS → Option (Int32 × RS)} {ke277 : RS → Option (Int32 × RS)} {ke286 : Int32 → Int32 → Int32 → RS → Option (Int32 × RS)} {ke328 : RS → Option (Int32 × RS)} {ke342 : Int32 → Int32 → RS → Option (Int32 × RS)} (B : Br g cX12_matches 10 voI (some .boolean) 0 0) (hkb : ∀ (l1 : Int32) (l2 : Int32) (l4 : Int32) (l5 : Int32) (l6 : Int32) (l7 : Int32), Sm g 10 57 [(0, .ref g.1.2.2.2.2.2), (1, .int l1), (2, .int l2), (4, .int l4), (5, .int l5), (6, .int l6), (7, .int l7)] [] (kb l1 l2 l4 l5 l6 l7)) (hke100 : Sm g 10 100 [] [] (ke100)) (hke277 : Sm g 10 277 [] [] (ke277)) (hke286 : ∀ (l1 : Int32) (l2 : Int32) (l6 : Int32), Sm g 10 286 [(0, .ref g.1.2.2.2.2.2), (1, .int l1), (2, .int l2), (6, .int l6)] [] (ke286 l1 l2 l6)) (hke328 : Sm g 10 328 [] [] (ke328)) (hke342 : ∀ (l5 : Int32) (l7 : Int32), Sm g 10 342 [(5, .int l5), (7, .int l7)] [] (ke342 l5 l7)) (l1 : Int32) (l2 : Int32) (l4 : Int32) (l5 : Int32) (l6 : Int32) (l7 : Int32) (l8 : Int32) : Sm g 10 260 [(0, .ref g.1.2.2.2.2.2), (1, .int l1), (2, .int l2), (4, .int l4), (5, .int l5), (6, .int l6), (7, .int l7), (8, .int l8)] [] (R_matches_J260 kb ke100 ke277 ke286 ke328 ke342 l1 l2 l4 l5 l6 l7 l8) := by
  unfold R_matches_J260
  refine s_iconst (v := 1) B.1 dX12_matches_260 (by decide) ?_
  refine s_goto B.1 265 dX12_matches_261 (by decide) ?_
  exact Sm.lvs [0, 1, 2, 3, 4, 5, 6, 7] rfl (sm_matches_J265 B hkb hke100 hke277 hke286 hke328 hke342 l1 l2 l4 l5 l6 l7 l8 (1 : Int32))
def R_matches_J236 (kb : Int32 → Int32 → Int32 → Int32 → Int32 → Int32 → RS → Option (Int32 × RS)) (ke100 : RS → Option (Int32 × RS)) (ke277 : RS → Option (Int32 × RS)) (ke286 : Int32 → Int32 → Int32 → RS → Option (Int32 × RS)) (ke328 : RS → Option (Int32 × RS)) (ke342 : Int32 → Int32 → RS → Option (Int32 × RS)) (l1 : Int32) (l2 : Int32) (l4 : Int32) (l5 : Int32) (l6 : Int32) (l7 : Int32) (s0 : Int32) : RS → Option (Int32 × RS) :=
  if l7 = l5 then (
    R_matches_J260 kb ke100 ke277 ke286 ke328 ke342 l1 l2 l4 l5 l6 l7 s0
  ) else (
    rA 45 (l4 + l7) fun v2 =>
    if v2 = (47 : Int32) then (
      R_matches_J260 kb ke100 ke277 ke286 ke328 ke342 l1 l2 l4 l5 l6 l7 s0
    ) else (
      R_matches_J265 kb ke100 ke277 ke286 ke328 ke342 l1 l2 l4 l5 l6 l7 s0 (0 : Int32)
    )
  )
set_option maxRecDepth 10000 in
theorem sm_matches_J236 {g : Gm RS Int32} {kb : Int32 → Int32 → Int32 → Int32 → Int32 → Int32 → RS → Option (Int32 × RS)} {ke100 : RS → Option (Int32 × RS)} {ke277 : RS → Option (Int32 × RS)} {ke286 : Int32 → Int32 → Int32 → RS → Option (Int32 × RS)} {ke328 : RS → Option (Int32 × RS)} {ke342 : Int32 → Int32 → RS → Option (Int32 × RS)} (B : Br g cX12_matches 10 voI (some .boolean) 0 0) (hkb : ∀ (l1 : Int32) (l2 : Int32) (l4 : Int32) (l5 : Int32) (l6 : Int32) (l7 : Int32), Sm g 10 57 [(0, .ref g.1.2.2.2.2.2), (1, .int l1), (2, .int l2), (4, .int l4), (5, .int l5), (6, .int l6), (7, .int l7)] [] (kb l1 l2 l4 l5 l6 l7)) (hke100 : Sm g 10 100 [] [] (ke100)) (hke277 : Sm g 10 277 [] [] (ke277)) (hke286 : ∀ (l1 : Int32) (l2 : Int32) (l6 : Int32), Sm g 10 286 [(0, .ref g.1.2.2.2.2.2), (1, .int l1), (2, .int l2), (6, .int l6)] [] (ke286 l1 l2 l6)) (hke328 : Sm g 10 328 [] [] (ke328)) (hke342 : ∀ (l5 : Int32) (l7 : Int32), Sm g 10 342 [(5, .int l5), (7, .int l7)] [] (ke342 l5 l7)) (l1 : Int32) (l2 : Int32) (l4 : Int32) (l5 : Int32) (l6 : Int32) (l7 : Int32) (s0 : Int32) : Sm g 10 236 [(0, .ref g.1.2.2.2.2.2), (1, .int l1), (2, .int l2), (4, .int l4), (5, .int l5), (6, .int l6), (7, .int l7)] [.int s0] (R_matches_J236 kb ke100 ke277 ke286 ke328 ke342 l1 l2 l4 l5 l6 l7 s0) := by
  unfold R_matches_J236
  refine s_istore (lv' := [(8, .int s0), (0, .ref g.1.2.2.2.2.2), (1, .int l1), (2, .int l2), (4, .int l4), (5, .int l5), (6, .int l6), (7, .int l7)]) B.1 dX12_matches_236 (by decide) rfl ?_
  refine s_iload B.1 7 dX12_matches_238 rfl ?_
  refine s_iload B.1 5 dX12_matches_240 rfl ?_
  refine s_icmp_eq B.1 260 dX12_matches_242 (by decide) ?_ ?_
  · exact Sm.lvs [1, 2, 3, 4, 5, 6, 7, 0] rfl (sm_matches_J260 B hkb hke100 hke277 hke286 hke328 hke342 l1 l2 l4 l5 l6 l7 s0)
  · refine s_aload_n B.1 1 dX12_matches_245 rfl rfl ?_
    refine rr_getA B 45 mh_45 mn_45 mf_45 dX12_matches_246 ?_
    refine s_iload B.1 4 dX12_matches_249 rfl ?_
    refine s_iload B.1 7 dX12_matches_251 rfl ?_
    refine s_iadd B.1 dX12_matches_253 ?_
    refine rr_bald B 45 mh_45 mk_45 dX12_matches_254 (fun v2 => ?_)
    refine s_bipush (v := (47)) B.1 dX12_matches_255 (by decide) ?_
    refine s_icmp_ne B.1 264 dX12_matches_257 (by decide) ?_ ?_
    · refine s_iconst (v := 0) B.1 dX12_matches_264 (by decide) ?_
      exact Sm.lvs [1, 2, 3, 4, 5, 6, 7, 0] rfl (sm_matches_J265 B hkb hke100 hke277 hke286 hke328 hke342 l1 l2 l4 l5 l6 l7 s0 (0 : Int32))
    · exact Sm.lvs [1, 2, 3, 4, 5, 6, 7, 0] rfl (sm_matches_J260 B hkb hke100 hke277 hke286 hke328 hke342 l1 l2 l4 l5 l6 l7 s0)
def R_matches_J231 (kb : Int32 → Int32 → Int32 → Int32 → Int32 → Int32 → RS → Option (Int32 × RS)) (ke100 : RS → Option (Int32 × RS)) (ke277 : RS → Option (Int32 × RS)) (ke286 : Int32 → Int32 → Int32 → RS → Option (Int32 × RS)) (ke328 : RS → Option (Int32 × RS)) (ke342 : Int32 → Int32 → RS → Option (Int32 × RS)) (l1 : Int32) (l2 : Int32) (l4 : Int32) (l5 : Int32) (l6 : Int32) (l7 : Int32) : RS → Option (Int32 × RS) :=
  R_matches_J236 kb ke100 ke277 ke286 ke328 ke342 l1 l2 l4 l5 l6 l7 (1 : Int32)
set_option maxRecDepth 10000 in
theorem sm_matches_J231 {g : Gm RS Int32} {kb : Int32 → Int32 → Int32 → Int32 → Int32 → Int32 → RS → Option (Int32 × RS)} {ke100 : RS → Option (Int32 × RS)} {ke277 : RS → Option (Int32 × RS)} {ke286 : Int32 → Int32 → Int32 → RS → Option (Int32 × RS)} {ke328 : RS → Option (Int32 × RS)} {ke342 : Int32 → Int32 → RS → Option (Int32 × RS)} (B : Br g cX12_matches 10 voI (some .boolean) 0 0) (hkb : ∀ (l1 : Int32) (l2 : Int32) (l4 : Int32) (l5 : Int32) (l6 : Int32) (l7 : Int32), Sm g 10 57 [(0, .ref g.1.2.2.2.2.2), (1, .int l1), (2, .int l2), (4, .int l4), (5, .int l5), (6, .int l6), (7, .int l7)] [] (kb l1 l2 l4 l5 l6 l7)) (hke100 : Sm g 10 100 [] [] (ke100)) (hke277 : Sm g 10 277 [] [] (ke277)) (hke286 : ∀ (l1 : Int32) (l2 : Int32) (l6 : Int32), Sm g 10 286 [(0, .ref g.1.2.2.2.2.2), (1, .int l1), (2, .int l2), (6, .int l6)] [] (ke286 l1 l2 l6)) (hke328 : Sm g 10 328 [] [] (ke328)) (hke342 : ∀ (l5 : Int32) (l7 : Int32), Sm g 10 342 [(5, .int l5), (7, .int l7)] [] (ke342 l5 l7)) (l1 : Int32) (l2 : Int32) (l4 : Int32) (l5 : Int32) (l6 : Int32) (l7 : Int32) : Sm g 10 231 [(0, .ref g.1.2.2.2.2.2), (1, .int l1), (2, .int l2), (4, .int l4), (5, .int l5), (6, .int l6), (7, .int l7)] [] (R_matches_J231 kb ke100 ke277 ke286 ke328 ke342 l1 l2 l4 l5 l6 l7) := by
  unfold R_matches_J231
  refine s_iconst (v := 1) B.1 dX12_matches_231 (by decide) ?_
  refine s_goto B.1 236 dX12_matches_232 (by decide) ?_
  exact Sm.lvs [0, 1, 2, 3, 4, 5, 6] rfl (sm_matches_J236 B hkb hke100 hke277 hke286 hke328 hke342 l1 l2 l4 l5 l6 l7 (1 : Int32))
def R_matches_J211 (kb : Int32 → Int32 → Int32 → Int32 → Int32 → Int32 → RS → Option (Int32 × RS)) (ke100 : RS → Option (Int32 × RS)) (ke277 : RS → Option (Int32 × RS)) (ke286 : Int32 → Int32 → Int32 → RS → Option (Int32 × RS)) (ke328 : RS → Option (Int32 × RS)) (ke342 : Int32 → Int32 → RS → Option (Int32 × RS)) (l1 : Int32) (l2 : Int32) (l4 : Int32) (l5 : Int32) (l6 : Int32) (l7 : Int32) : RS → Option (Int32 × RS) :=
  if l6 = l2 then (
    R_matches_J231 kb ke100 ke277 ke286 ke328 ke342 l1 l2 l4 l5 l6 l7
  ) else (
    rA 26 (l1 + l6) fun v3 =>
    if v3 = (47 : Int32) then (
      R_matches_J231 kb ke100 ke277 ke286 ke328 ke342 l1 l2 l4 l5 l6 l7
    ) else (
      R_matches_J236 kb ke100 ke277 ke286 ke328 ke342 l1 l2 l4 l5 l6 l7 (0 : Int32)
    )
  )
set_option maxRecDepth 10000 in
theorem sm_matches_J211 {g : Gm RS Int32} {kb : Int32 → Int32 → Int32 → Int32 → Int32 → Int32 → RS → Option (Int32 × RS)} {ke100 : RS → Option (Int32 × RS)} {ke277 : RS → Option (Int32 × RS)} {ke286 : Int32 → Int32 → Int32 → RS → Option (Int32 × RS)} {ke328 : RS → Option (Int32 × RS)} {ke342 : Int32 → Int32 → RS → Option (Int32 × RS)} (B : Br g cX12_matches 10 voI (some .boolean) 0 0) (hkb : ∀ (l1 : Int32) (l2 : Int32) (l4 : Int32) (l5 : Int32) (l6 : Int32) (l7 : Int32), Sm g 10 57 [(0, .ref g.1.2.2.2.2.2), (1, .int l1), (2, .int l2), (4, .int l4), (5, .int l5), (6, .int l6), (7, .int l7)] [] (kb l1 l2 l4 l5 l6 l7)) (hke100 : Sm g 10 100 [] [] (ke100)) (hke277 : Sm g 10 277 [] [] (ke277)) (hke286 : ∀ (l1 : Int32) (l2 : Int32) (l6 : Int32), Sm g 10 286 [(0, .ref g.1.2.2.2.2.2), (1, .int l1), (2, .int l2), (6, .int l6)] [] (ke286 l1 l2 l6)) (hke328 : Sm g 10 328 [] [] (ke328)) (hke342 : ∀ (l5 : Int32) (l7 : Int32), Sm g 10 342 [(5, .int l5), (7, .int l7)] [] (ke342 l5 l7)) (l1 : Int32) (l2 : Int32) (l4 : Int32) (l5 : Int32) (l6 : Int32) (l7 : Int32) : Sm g 10 211 [(0, .ref g.1.2.2.2.2.2), (1, .int l1), (2, .int l2), (4, .int l4), (5, .int l5), (6, .int l6), (7, .int l7)] [] (R_matches_J211 kb ke100 ke277 ke286 ke328 ke342 l1 l2 l4 l5 l6 l7) := by
  unfold R_matches_J211
  refine s_iload B.1 5 dX12_matches_211 rfl ?_
  refine s_iload_n B.1 2 dX12_matches_213 rfl rfl ?_
  refine s_icmp_eq B.1 231 dX12_matches_214 (by decide) ?_ ?_
  · exact Sm.lvs [0, 1, 2, 3, 4, 5, 6] rfl (sm_matches_J231 B hkb hke100 hke277 hke286 hke328 hke342 l1 l2 l4 l5 l6 l7)
  · refine s_aload_n B.1 0 dX12_matches_217 rfl rfl ?_
    refine rr_getA B 26 mh_26 mn_26 mf_26 dX12_matches_218 ?_
    refine s_iload_n B.1 1 dX12_matches_221 rfl rfl ?_
    refine s_iload B.1 5 dX12_matches_222 rfl ?_
    refine s_iadd B.1 dX12_matches_224 ?_
    refine rr_bald B 26 mh_26 mk_26 dX12_matches_225 (fun v3 => ?_)
    refine s_bipush (v := (47)) B.1 dX12_matches_226 (by decide) ?_
    refine s_icmp_ne B.1 235 dX12_matches_228 (by decide) ?_ ?_
    · refine s_iconst (v := 0) B.1 dX12_matches_235 (by decide) ?_
      exact Sm.lvs [0, 1, 2, 3, 4, 5, 6] rfl (sm_matches_J236 B hkb hke100 hke277 hke286 hke328 hke342 l1 l2 l4 l5 l6 l7 (0 : Int32))
    · exact Sm.lvs [0, 1, 2, 3, 4, 5, 6] rfl (sm_matches_J231 B hkb hke100 hke277 hke286 hke328 hke342 l1 l2 l4 l5 l6 l7)
def R_matches_B153 (kb : Int32 → Int32 → Int32 → Int32 → Int32 → Int32 → RS → Option (Int32 × RS)) (ke211 : Int32 → Int32 → Int32 → Int32 → Int32 → Int32 → RS → Option (Int32 × RS)) (l1 : Int32) (l2 : Int32) (l4 : Int32) (l5 : Int32) (l6 : Int32) (l7 : Int32) : RS → Option (Int32 × RS) :=
  if l2 ≤ l6 then (
    ke211 l1 l2 l4 l5 l6 l7
  ) else (
    rA 26 (l1 + l6) fun v4 =>
    if v4 = (47 : Int32) then (
      ke211 l1 l2 l4 l5 l6 l7
    ) else (
      if l5 ≤ l7 then (
        ke211 l1 l2 l4 l5 l6 l7
      ) else (
        rA 45 (l4 + l7) fun v5 =>
        rA 26 (l1 + l6) fun v6 =>
        if v5 = v6 then (
          kb l1 l2 l4 l5 (l6 + 1) (l7 + 1)
        ) else (
          ke211 l1 l2 l4 l5 l6 l7
        )
      )
    )
  )
def R_matches_L153 (ke211 : Int32 → Int32 → Int32 → Int32 → Int32 → Int32 → RS → Option (Int32 × RS)) : Nat → Int32 → Int32 → Int32 → Int32 → Int32 → Int32 → RS → Option (Int32 × RS)
  | 0, _, _, _, _, _, _ => no
  | n + 1, l1, l2, l4, l5, l6, l7 => R_matches_B153 (fun l1 l2 l4 l5 l6 l7 => R_matches_L153 ke211 n l1 l2 l4 l5 l6 l7) ke211 l1 l2 l4 l5 l6 l7
set_option maxRecDepth 10000 in
theorem sm_matches_B153 {g : Gm RS Int32} {kb : Int32 → Int32 → Int32 → Int32 → Int32 → Int32 → RS → Option (Int32 × RS)} {ke211 : Int32 → Int32 → Int32 → Int32 → Int32 → Int32 → RS → Option (Int32 × RS)} (B : Br g cX12_matches 10 voI (some .boolean) 0 0) (hkb : ∀ (l1 : Int32) (l2 : Int32) (l4 : Int32) (l5 : Int32) (l6 : Int32) (l7 : Int32), Sm g 10 153 [(0, .ref g.1.2.2.2.2.2), (1, .int l1), (2, .int l2), (4, .int l4), (5, .int l5), (6, .int l6), (7, .int l7)] [] (kb l1 l2 l4 l5 l6 l7)) (hke211 : ∀ (l1 : Int32) (l2 : Int32) (l4 : Int32) (l5 : Int32) (l6 : Int32) (l7 : Int32), Sm g 10 211 [(0, .ref g.1.2.2.2.2.2), (1, .int l1), (2, .int l2), (4, .int l4), (5, .int l5), (6, .int l6), (7, .int l7)] [] (ke211 l1 l2 l4 l5 l6 l7)) (l1 : Int32) (l2 : Int32) (l4 : Int32) (l5 : Int32) (l6 : Int32) (l7 : Int32) : Sm g 10 153 [(0, .ref g.1.2.2.2.2.2), (1, .int l1), (2, .int l2), (4, .int l4), (5, .int l5), (6, .int l6), (7, .int l7)] [] (R_matches_B153 kb ke211 l1 l2 l4 l5 l6 l7) := by
  unfold R_matches_B153
  refine s_iload B.1 5 dX12_matches_153 rfl ?_
  refine s_iload_n B.1 2 dX12_matches_155 rfl rfl ?_
  refine s_icmp_ge B.1 211 dX12_matches_156 (by decide) ?_ ?_
  · exact Sm.lvs [0, 1, 2, 3, 4, 5, 6] rfl (hke211 l1 l2 l4 l5 l6 l7)
  · refine s_aload_n B.1 0 dX12_matches_159 rfl rfl ?_
    refine rr_getA B 26 mh_26 mn_26 mf_26 dX12_matches_160 ?_
    refine s_iload_n B.1 1 dX12_matches_163 rfl rfl ?_
    refine s_iload B.1 5 dX12_matches_164 rfl ?_
    refine s_iadd B.1 dX12_matches_166 ?_
    refine rr_bald B 26 mh_26 mk_26 dX12_matches_167 (fun v4 => ?_)
    refine s_bipush (v := (47)) B.1 dX12_matches_168 (by decide) ?_
    refine s_icmp_eq B.1 211 dX12_matches_170 (by decide) ?_ ?_
    · exact Sm.lvs [0, 1, 2, 3, 4, 5, 6] rfl (hke211 l1 l2 l4 l5 l6 l7)
    · refine s_iload B.1 6 dX12_matches_173 rfl ?_
      refine s_iload B.1 4 dX12_matches_175 rfl ?_
      refine s_icmp_ge B.1 211 dX12_matches_177 (by decide) ?_ ?_
      · exact Sm.lvs [0, 1, 2, 3, 4, 5, 6] rfl (hke211 l1 l2 l4 l5 l6 l7)
      · refine s_aload_n B.1 0 dX12_matches_180 rfl rfl ?_
        refine rr_getA B 45 mh_45 mn_45 mf_45 dX12_matches_181 ?_
        refine s_iload B.1 3 dX12_matches_184 rfl ?_
        refine s_iload B.1 6 dX12_matches_186 rfl ?_
        refine s_iadd B.1 dX12_matches_188 ?_
        refine rr_bald B 45 mh_45 mk_45 dX12_matches_189 (fun v5 => ?_)
        refine s_aload_n B.1 0 dX12_matches_190 rfl rfl ?_
        refine rr_getA B 26 mh_26 mn_26 mf_26 dX12_matches_191 ?_
        refine s_iload_n B.1 1 dX12_matches_194 rfl rfl ?_
        refine s_iload B.1 5 dX12_matches_195 rfl ?_
        refine s_iadd B.1 dX12_matches_197 ?_
        refine rr_bald B 26 mh_26 mk_26 dX12_matches_198 (fun v6 => ?_)
        refine s_icmp_ne B.1 211 dX12_matches_199 (by decide) ?_ ?_
        · exact Sm.lvs [0, 1, 2, 3, 4, 5, 6] rfl (hke211 l1 l2 l4 l5 l6 l7)
        · refine s_iinc (v := l6 + 1) (lv' := [(6, .int (l6 + 1)), (0, .ref g.1.2.2.2.2.2), (1, .int l1), (2, .int l2), (4, .int l4), (5, .int l5), (7, .int l7)]) B.1 5 dX12_matches_202 rfl rfl (by decide) rfl ?_
          refine s_iinc (v := l7 + 1) (lv' := [(7, .int (l7 + 1)), (6, .int (l6 + 1)), (0, .ref g.1.2.2.2.2.2), (1, .int l1), (2, .int l2), (4, .int l4), (5, .int l5)]) B.1 6 dX12_matches_205 rfl rfl (by decide) rfl ?_
          refine s_goto B.1 153 dX12_matches_208 (by decide) ?_
          exact Sm.lvs [2, 3, 4, 5, 6, 1, 0] rfl (hkb l1 l2 l4 l5 (l6 + 1) (l7 + 1))
set_option maxRecDepth 10000 in
theorem sm_matches_L153 {g : Gm RS Int32} {ke211 : Int32 → Int32 → Int32 → Int32 → Int32 → Int32 → RS → Option (Int32 × RS)} (B : Br g cX12_matches 10 voI (some .boolean) 0 0) (hke211 : ∀ (l1 : Int32) (l2 : Int32) (l4 : Int32) (l5 : Int32) (l6 : Int32) (l7 : Int32), Sm g 10 211 [(0, .ref g.1.2.2.2.2.2), (1, .int l1), (2, .int l2), (4, .int l4), (5, .int l5), (6, .int l6), (7, .int l7)] [] (ke211 l1 l2 l4 l5 l6 l7)) : ∀ (n : Nat) (l1 : Int32) (l2 : Int32) (l4 : Int32) (l5 : Int32) (l6 : Int32) (l7 : Int32), Sm g 10 153 [(0, .ref g.1.2.2.2.2.2), (1, .int l1), (2, .int l2), (4, .int l4), (5, .int l5), (6, .int l6), (7, .int l7)] [] (R_matches_L153 ke211 n l1 l2 l4 l5 l6 l7)
  | 0, _, _, _, _, _, _ => Sm.fail
  | n + 1, l1, l2, l4, l5, l6, l7 => sm_matches_B153 B (sm_matches_L153 B hke211 n) hke211 l1 l2 l4 l5 l6 l7
def R_matches_B125 (kb : Int32 → Int32 → Int32 → Int32 → Int32 → Int32 → RS → Option (Int32 × RS)) (ke211 : Int32 → Int32 → Int32 → Int32 → Int32 → Int32 → RS → Option (Int32 × RS)) (l1 : Int32) (l2 : Int32) (l4 : Int32) (l5 : Int32) (l6 : Int32) (l7 : Int32) : RS → Option (Int32 × RS) :=
  if l5 ≤ l7 then (
    ke211 l1 l2 l4 l5 l6 l7
  ) else (
    rA 45 (l4 + l7) fun v7 =>
    if v7 = (47 : Int32) then (
      ke211 l1 l2 l4 l5 l6 l7
    ) else (
      kb l1 l2 l4 l5 l6 (l7 + 1)
    )
  )
def R_matches_L125 (ke211 : Int32 → Int32 → Int32 → Int32 → Int32 → Int32 → RS → Option (Int32 × RS)) : Nat → Int32 → Int32 → Int32 → Int32 → Int32 → Int32 → RS → Option (Int32 × RS)
  | 0, _, _, _, _, _, _ => no
  | n + 1, l1, l2, l4, l5, l6, l7 => R_matches_B125 (fun l1 l2 l4 l5 l6 l7 => R_matches_L125 ke211 n l1 l2 l4 l5 l6 l7) ke211 l1 l2 l4 l5 l6 l7
set_option maxRecDepth 10000 in
theorem sm_matches_B125 {g : Gm RS Int32} {kb : Int32 → Int32 → Int32 → Int32 → Int32 → Int32 → RS → Option (Int32 × RS)} {ke211 : Int32 → Int32 → Int32 → Int32 → Int32 → Int32 → RS → Option (Int32 × RS)} (B : Br g cX12_matches 10 voI (some .boolean) 0 0) (hkb : ∀ (l1 : Int32) (l2 : Int32) (l4 : Int32) (l5 : Int32) (l6 : Int32) (l7 : Int32), Sm g 10 125 [(0, .ref g.1.2.2.2.2.2), (1, .int l1), (2, .int l2), (4, .int l4), (5, .int l5), (6, .int l6), (7, .int l7)] [] (kb l1 l2 l4 l5 l6 l7)) (hke211 : ∀ (l1 : Int32) (l2 : Int32) (l4 : Int32) (l5 : Int32) (l6 : Int32) (l7 : Int32), Sm g 10 211 [(0, .ref g.1.2.2.2.2.2), (1, .int l1), (2, .int l2), (4, .int l4), (5, .int l5), (6, .int l6), (7, .int l7)] [] (ke211 l1 l2 l4 l5 l6 l7)) (l1 : Int32) (l2 : Int32) (l4 : Int32) (l5 : Int32) (l6 : Int32) (l7 : Int32) : Sm g 10 125 [(0, .ref g.1.2.2.2.2.2), (1, .int l1), (2, .int l2), (4, .int l4), (5, .int l5), (6, .int l6), (7, .int l7)] [] (R_matches_B125 kb ke211 l1 l2 l4 l5 l6 l7) := by
  unfold R_matches_B125
  refine s_iload B.1 6 dX12_matches_125 rfl ?_
  refine s_iload B.1 4 dX12_matches_127 rfl ?_
  refine s_icmp_ge B.1 211 dX12_matches_129 (by decide) ?_ ?_
  · exact Sm.lvs [0, 1, 2, 3, 4, 5, 6] rfl (hke211 l1 l2 l4 l5 l6 l7)
  · refine s_aload_n B.1 0 dX12_matches_132 rfl rfl ?_
    refine rr_getA B 45 mh_45 mn_45 mf_45 dX12_matches_133 ?_
    refine s_iload B.1 3 dX12_matches_136 rfl ?_
    refine s_iload B.1 6 dX12_matches_138 rfl ?_
    refine s_iadd B.1 dX12_matches_140 ?_
    refine rr_bald B 45 mh_45 mk_45 dX12_matches_141 (fun v7 => ?_)
    refine s_bipush (v := (47)) B.1 dX12_matches_142 (by decide) ?_
    refine s_icmp_eq B.1 211 dX12_matches_144 (by decide) ?_ ?_
    · exact Sm.lvs [0, 1, 2, 3, 4, 5, 6] rfl (hke211 l1 l2 l4 l5 l6 l7)
    · refine s_iinc (v := l7 + 1) (lv' := [(7, .int (l7 + 1)), (0, .ref g.1.2.2.2.2.2), (1, .int l1), (2, .int l2), (4, .int l4), (5, .int l5), (6, .int l6)]) B.1 6 dX12_matches_147 rfl rfl (by decide) rfl ?_
      refine s_goto B.1 125 dX12_matches_150 (by decide) ?_
      exact Sm.lvs [1, 2, 3, 4, 5, 6, 0] rfl (hkb l1 l2 l4 l5 l6 (l7 + 1))
set_option maxRecDepth 10000 in
theorem sm_matches_L125 {g : Gm RS Int32} {ke211 : Int32 → Int32 → Int32 → Int32 → Int32 → Int32 → RS → Option (Int32 × RS)} (B : Br g cX12_matches 10 voI (some .boolean) 0 0) (hke211 : ∀ (l1 : Int32) (l2 : Int32) (l4 : Int32) (l5 : Int32) (l6 : Int32) (l7 : Int32), Sm g 10 211 [(0, .ref g.1.2.2.2.2.2), (1, .int l1), (2, .int l2), (4, .int l4), (5, .int l5), (6, .int l6), (7, .int l7)] [] (ke211 l1 l2 l4 l5 l6 l7)) : ∀ (n : Nat) (l1 : Int32) (l2 : Int32) (l4 : Int32) (l5 : Int32) (l6 : Int32) (l7 : Int32), Sm g 10 125 [(0, .ref g.1.2.2.2.2.2), (1, .int l1), (2, .int l2), (4, .int l4), (5, .int l5), (6, .int l6), (7, .int l7)] [] (R_matches_L125 ke211 n l1 l2 l4 l5 l6 l7)
  | 0, _, _, _, _, _, _ => Sm.fail
  | n + 1, l1, l2, l4, l5, l6, l7 => sm_matches_B125 B (sm_matches_L125 B hke211 n) hke211 l1 l2 l4 l5 l6 l7
def R_matches_J102 (kb : Int32 → Int32 → Int32 → Int32 → Int32 → Int32 → RS → Option (Int32 × RS)) (ke100 : RS → Option (Int32 × RS)) (ke277 : RS → Option (Int32 × RS)) (ke286 : Int32 → Int32 → Int32 → RS → Option (Int32 × RS)) (ke328 : RS → Option (Int32 × RS)) (ke342 : Int32 → Int32 → RS → Option (Int32 × RS)) (l1 : Int32) (l2 : Int32) (l4 : Int32) (l5 : Int32) (l6 : Int32) (l7 : Int32) : RS → Option (Int32 × RS) :=
  if l2 ≤ l6 then (
    R_matches_L153 (fun l1 l2 l4 l5 l6 l7 => R_matches_J211 kb ke100 ke277 ke286 ke328 ke342 l1 l2 l4 l5 l6 l7) fu l1 l2 l4 l5 l6 l7
  ) else (
    rA 26 (l1 + l6) fun v8 =>
    if v8 = (43 : Int32) then (
      R_matches_L125 (fun l1 l2 l4 l5 l6 l7 => R_matches_J211 kb ke100 ke277 ke286 ke328 ke342 l1 l2 l4 l5 l6 l7) fu l1 l2 l4 l5 (l6 + 1) l7
    ) else (
      R_matches_L153 (fun l1 l2 l4 l5 l6 l7 => R_matches_J211 kb ke100 ke277 ke286 ke328 ke342 l1 l2 l4 l5 l6 l7) fu l1 l2 l4 l5 l6 l7
    )
  )
set_option maxRecDepth 10000 in
theorem sm_matches_J102 {g : Gm RS Int32} {kb : Int32 → Int32 → Int32 → Int32 → Int32 → Int32 → RS → Option (Int32 × RS)} {ke100 : RS → Option (Int32 × RS)} {ke277 : RS → Option (Int32 × RS)} {ke286 : Int32 → Int32 → Int32 → RS → Option (Int32 × RS)} {ke328 : RS → Option (Int32 × RS)} {ke342 : Int32 → Int32 → RS → Option (Int32 × RS)} (B : Br g cX12_matches 10 voI (some .boolean) 0 0) (hkb : ∀ (l1 : Int32) (l2 : Int32) (l4 : Int32) (l5 : Int32) (l6 : Int32) (l7 : Int32), Sm g 10 57 [(0, .ref g.1.2.2.2.2.2), (1, .int l1), (2, .int l2), (4, .int l4), (5, .int l5), (6, .int l6), (7, .int l7)] [] (kb l1 l2 l4 l5 l6 l7)) (hke100 : Sm g 10 100 [] [] (ke100)) (hke277 : Sm g 10 277 [] [] (ke277)) (hke286 : ∀ (l1 : Int32) (l2 : Int32) (l6 : Int32), Sm g 10 286 [(0, .ref g.1.2.2.2.2.2), (1, .int l1), (2, .int l2), (6, .int l6)] [] (ke286 l1 l2 l6)) (hke328 : Sm g 10 328 [] [] (ke328)) (hke342 : ∀ (l5 : Int32) (l7 : Int32), Sm g 10 342 [(5, .int l5), (7, .int l7)] [] (ke342 l5 l7)) (l1 : Int32) (l2 : Int32) (l4 : Int32) (l5 : Int32) (l6 : Int32) (l7 : Int32) : Sm g 10 102 [(0, .ref g.1.2.2.2.2.2), (1, .int l1), (2, .int l2), (4, .int l4), (5, .int l5), (6, .int l6), (7, .int l7)] [] (R_matches_J102 kb ke100 ke277 ke286 ke328 ke342 l1 l2 l4 l5 l6 l7) := by
  unfold R_matches_J102
  refine s_iload B.1 5 dX12_matches_102 rfl ?_
  refine s_iload_n B.1 2 dX12_matches_104 rfl rfl ?_
  refine s_icmp_ge B.1 153 dX12_matches_105 (by decide) ?_ ?_
  · exact Sm.lvs [0, 1, 2, 3, 4, 5, 6] rfl (sm_matches_L153 B (fun l1 l2 l4 l5 l6 l7 => sm_matches_J211 B hkb hke100 hke277 hke286 hke328 hke342 l1 l2 l4 l5 l6 l7) fu l1 l2 l4 l5 l6 l7)
  · refine s_aload_n B.1 0 dX12_matches_108 rfl rfl ?_
    refine rr_getA B 26 mh_26 mn_26 mf_26 dX12_matches_109 ?_
    refine s_iload_n B.1 1 dX12_matches_112 rfl rfl ?_
    refine s_iload B.1 5 dX12_matches_113 rfl ?_
    refine s_iadd B.1 dX12_matches_115 ?_
    refine rr_bald B 26 mh_26 mk_26 dX12_matches_116 (fun v8 => ?_)
    refine s_bipush (v := (43)) B.1 dX12_matches_117 (by decide) ?_
    refine s_icmp_ne B.1 153 dX12_matches_119 (by decide) ?_ ?_
    · exact Sm.lvs [0, 1, 2, 3, 4, 5, 6] rfl (sm_matches_L153 B (fun l1 l2 l4 l5 l6 l7 => sm_matches_J211 B hkb hke100 hke277 hke286 hke328 hke342 l1 l2 l4 l5 l6 l7) fu l1 l2 l4 l5 l6 l7)
    · refine s_iinc (v := l6 + 1) (lv' := [(6, .int (l6 + 1)), (0, .ref g.1.2.2.2.2.2), (1, .int l1), (2, .int l2), (4, .int l4), (5, .int l5), (7, .int l7)]) B.1 5 dX12_matches_122 rfl rfl (by decide) rfl ?_
      exact Sm.lvs [1, 2, 3, 4, 5, 0, 6] rfl (sm_matches_L125 B (fun l1 l2 l4 l5 l6 l7 => sm_matches_J211 B hkb hke100 hke277 hke286 hke328 hke342 l1 l2 l4 l5 l6 l7) fu l1 l2 l4 l5 (l6 + 1) l7)
def R_matches_B57 (kb : Int32 → Int32 → Int32 → Int32 → Int32 → Int32 → RS → Option (Int32 × RS)) (ke100 : RS → Option (Int32 × RS)) (ke277 : RS → Option (Int32 × RS)) (ke286 : Int32 → Int32 → Int32 → RS → Option (Int32 × RS)) (ke328 : RS → Option (Int32 × RS)) (ke342 : Int32 → Int32 → RS → Option (Int32 × RS)) (l1 : Int32) (l2 : Int32) (l4 : Int32) (l5 : Int32) (l6 : Int32) (l7 : Int32) : RS → Option (Int32 × RS) :=
  rA 26 (l1 + l6) fun v9 =>
  if v9 = (35 : Int32) then (
    if l6 = (l2 - (1 : Int32)) then (
      if l6 = 0 then (
        ke100
      ) else (
        rA 26 ((l1 + l6) - (1 : Int32)) fun v10 =>
        if v10 = (47 : Int32) then (
          ke100
        ) else (
          R_matches_J102 kb ke100 ke277 ke286 ke328 ke342 l1 l2 l4 l5 l6 l7
        )
      )
    ) else (
      R_matches_J102 kb ke100 ke277 ke286 ke328 ke342 l1 l2 l4 l5 l6 l7
    )
  ) else (
    R_matches_J102 kb ke100 ke277 ke286 ke328 ke342 l1 l2 l4 l5 l6 l7
  )
def R_matches_L57 (ke100 : RS → Option (Int32 × RS)) (ke277 : RS → Option (Int32 × RS)) (ke286 : Int32 → Int32 → Int32 → RS → Option (Int32 × RS)) (ke328 : RS → Option (Int32 × RS)) (ke342 : Int32 → Int32 → RS → Option (Int32 × RS)) : Nat → Int32 → Int32 → Int32 → Int32 → Int32 → Int32 → RS → Option (Int32 × RS)
  | 0, _, _, _, _, _, _ => no
  | n + 1, l1, l2, l4, l5, l6, l7 => R_matches_B57 (fun l1 l2 l4 l5 l6 l7 => R_matches_L57 ke100 ke277 ke286 ke328 ke342 n l1 l2 l4 l5 l6 l7) ke100 ke277 ke286 ke328 ke342 l1 l2 l4 l5 l6 l7
set_option maxRecDepth 10000 in
theorem sm_matches_B57 {g : Gm RS Int32} {kb : Int32 → Int32 → Int32 → Int32 → Int32 → Int32 → RS → Option (Int32 × RS)} {ke100 : RS → Option (Int32 × RS)} {ke277 : RS → Option (Int32 × RS)} {ke286 : Int32 → Int32 → Int32 → RS → Option (Int32 × RS)} {ke328 : RS → Option (Int32 × RS)} {ke342 : Int32 → Int32 → RS → Option (Int32 × RS)} (B : Br g cX12_matches 10 voI (some .boolean) 0 0) (hkb : ∀ (l1 : Int32) (l2 : Int32) (l4 : Int32) (l5 : Int32) (l6 : Int32) (l7 : Int32), Sm g 10 57 [(0, .ref g.1.2.2.2.2.2), (1, .int l1), (2, .int l2), (4, .int l4), (5, .int l5), (6, .int l6), (7, .int l7)] [] (kb l1 l2 l4 l5 l6 l7)) (hke100 : Sm g 10 100 [] [] (ke100)) (hke277 : Sm g 10 277 [] [] (ke277)) (hke286 : ∀ (l1 : Int32) (l2 : Int32) (l6 : Int32), Sm g 10 286 [(0, .ref g.1.2.2.2.2.2), (1, .int l1), (2, .int l2), (6, .int l6)] [] (ke286 l1 l2 l6)) (hke328 : Sm g 10 328 [] [] (ke328)) (hke342 : ∀ (l5 : Int32) (l7 : Int32), Sm g 10 342 [(5, .int l5), (7, .int l7)] [] (ke342 l5 l7)) (l1 : Int32) (l2 : Int32) (l4 : Int32) (l5 : Int32) (l6 : Int32) (l7 : Int32) : Sm g 10 57 [(0, .ref g.1.2.2.2.2.2), (1, .int l1), (2, .int l2), (4, .int l4), (5, .int l5), (6, .int l6), (7, .int l7)] [] (R_matches_B57 kb ke100 ke277 ke286 ke328 ke342 l1 l2 l4 l5 l6 l7) := by
  unfold R_matches_B57
  refine s_aload_n B.1 0 dX12_matches_57 rfl rfl ?_
  refine rr_getA B 26 mh_26 mn_26 mf_26 dX12_matches_58 ?_
  refine s_iload_n B.1 1 dX12_matches_61 rfl rfl ?_
  refine s_iload B.1 5 dX12_matches_62 rfl ?_
  refine s_iadd B.1 dX12_matches_64 ?_
  refine rr_bald B 26 mh_26 mk_26 dX12_matches_65 (fun v9 => ?_)
  refine s_bipush (v := (35)) B.1 dX12_matches_66 (by decide) ?_
  refine s_icmp_ne B.1 102 dX12_matches_68 (by decide) ?_ ?_
  · exact Sm.lvs [0, 1, 2, 3, 4, 5, 6] rfl (sm_matches_J102 B hkb hke100 hke277 hke286 hke328 hke342 l1 l2 l4 l5 l6 l7)
  · refine s_iload B.1 5 dX12_matches_71 rfl ?_
    refine s_iload_n B.1 2 dX12_matches_73 rfl rfl ?_
    refine s_iconst (v := 1) B.1 dX12_matches_74 (by decide) ?_
    refine s_isub B.1 dX12_matches_75 ?_
    refine s_icmp_ne B.1 102 dX12_matches_76 (by decide) ?_ ?_
    · exact Sm.lvs [0, 1, 2, 3, 4, 5, 6] rfl (sm_matches_J102 B hkb hke100 hke277 hke286 hke328 hke342 l1 l2 l4 l5 l6 l7)
    · refine s_iload B.1 5 dX12_matches_79 rfl ?_
      refine s_if_eq B.1 100 dX12_matches_81 (by decide) ?_ ?_
      · exact Sm.lvs [] rfl (hke100)
      · refine s_aload_n B.1 0 dX12_matches_84 rfl rfl ?_
        refine rr_getA B 26 mh_26 mn_26 mf_26 dX12_matches_85 ?_
        refine s_iload_n B.1 1 dX12_matches_88 rfl rfl ?_
        refine s_iload B.1 5 dX12_matches_89 rfl ?_
        refine s_iadd B.1 dX12_matches_91 ?_
        refine s_iconst (v := 1) B.1 dX12_matches_92 (by decide) ?_
        refine s_isub B.1 dX12_matches_93 ?_
        refine rr_bald B 26 mh_26 mk_26 dX12_matches_94 (fun v10 => ?_)
        refine s_bipush (v := (47)) B.1 dX12_matches_95 (by decide) ?_
        refine s_icmp_ne B.1 102 dX12_matches_97 (by decide) ?_ ?_
        · exact Sm.lvs [0, 1, 2, 3, 4, 5, 6] rfl (sm_matches_J102 B hkb hke100 hke277 hke286 hke328 hke342 l1 l2 l4 l5 l6 l7)
        · exact Sm.lvs [] rfl (hke100)
set_option maxRecDepth 10000 in
theorem sm_matches_L57 {g : Gm RS Int32} {ke100 : RS → Option (Int32 × RS)} {ke277 : RS → Option (Int32 × RS)} {ke286 : Int32 → Int32 → Int32 → RS → Option (Int32 × RS)} {ke328 : RS → Option (Int32 × RS)} {ke342 : Int32 → Int32 → RS → Option (Int32 × RS)} (B : Br g cX12_matches 10 voI (some .boolean) 0 0) (hke100 : Sm g 10 100 [] [] (ke100)) (hke277 : Sm g 10 277 [] [] (ke277)) (hke286 : ∀ (l1 : Int32) (l2 : Int32) (l6 : Int32), Sm g 10 286 [(0, .ref g.1.2.2.2.2.2), (1, .int l1), (2, .int l2), (6, .int l6)] [] (ke286 l1 l2 l6)) (hke328 : Sm g 10 328 [] [] (ke328)) (hke342 : ∀ (l5 : Int32) (l7 : Int32), Sm g 10 342 [(5, .int l5), (7, .int l7)] [] (ke342 l5 l7)) : ∀ (n : Nat) (l1 : Int32) (l2 : Int32) (l4 : Int32) (l5 : Int32) (l6 : Int32) (l7 : Int32), Sm g 10 57 [(0, .ref g.1.2.2.2.2.2), (1, .int l1), (2, .int l2), (4, .int l4), (5, .int l5), (6, .int l6), (7, .int l7)] [] (R_matches_L57 ke100 ke277 ke286 ke328 ke342 n l1 l2 l4 l5 l6 l7)
  | 0, _, _, _, _, _, _ => Sm.fail
  | n + 1, l1, l2, l4, l5, l6, l7 => sm_matches_B57 B (sm_matches_L57 B hke100 hke277 hke286 hke328 hke342 n) hke100 hke277 hke286 hke328 hke342 l1 l2 l4 l5 l6 l7
def R_matches_J51 (l1 : Int32) (l2 : Int32) (l4 : Int32) (l5 : Int32) : RS → Option (Int32 × RS) :=
  R_matches_L57 (R_matches_J100) (R_matches_J277) (fun l1 l2 l6 => R_matches_J286 l1 l2 l6) (R_matches_J328) (fun l5 l7 => R_matches_J342 l5 l7) fu l1 l2 l4 l5 (0 : Int32) (0 : Int32)
set_option maxRecDepth 10000 in
theorem sm_matches_J51 {g : Gm RS Int32} (B : Br g cX12_matches 10 voI (some .boolean) 0 0) (l1 : Int32) (l2 : Int32) (l4 : Int32) (l5 : Int32) : Sm g 10 51 [(0, .ref g.1.2.2.2.2.2), (1, .int l1), (2, .int l2), (4, .int l4), (5, .int l5)] [] (R_matches_J51 l1 l2 l4 l5) := by
  unfold R_matches_J51
  refine s_iconst (v := 0) B.1 dX12_matches_51 (by decide) ?_
  refine s_istore (lv' := [(6, .int (0 : Int32)), (0, .ref g.1.2.2.2.2.2), (1, .int l1), (2, .int l2), (4, .int l4), (5, .int l5)]) B.1 dX12_matches_52 (by decide) rfl ?_
  refine s_iconst (v := 0) B.1 dX12_matches_54 (by decide) ?_
  refine s_istore (lv' := [(7, .int (0 : Int32)), (6, .int (0 : Int32)), (0, .ref g.1.2.2.2.2.2), (1, .int l1), (2, .int l2), (4, .int l4), (5, .int l5)]) B.1 dX12_matches_55 (by decide) rfl ?_
  exact Sm.lvs [2, 3, 4, 5, 6, 1, 0] rfl (sm_matches_L57 B (sm_matches_J100 B) (sm_matches_J277 B) (fun l1 l2 l6 => sm_matches_J286 B l1 l2 l6) (sm_matches_J328 B) (fun l5 l7 => sm_matches_J342 B l5 l7) fu l1 l2 l4 l5 (0 : Int32) (0 : Int32))
def R_matches (l1 : Int32) (l2 : Int32) (l3 : Int32) : RS → Option (Int32 × RS) :=
  lq ((480 : Int32) * l3) fun x11 =>
  rA 46 l3 fun v12 =>
  rA 45 x11 fun v13 =>
  if v13 = (36 : Int32) then (
    rA 26 l1 fun v14 =>
    if v14 = (43 : Int32) then (
      zt ((0 : Int32))
    ) else (
      rA 26 l1 fun v15 =>
      if v15 = (35 : Int32) then (
        zt ((0 : Int32))
      ) else (
        R_matches_J51 l1 l2 x11 v12
      )
    )
  ) else (
    R_matches_J51 l1 l2 x11 v12
  )
set_option maxRecDepth 10000 in
theorem m_matches {w : Wd} (hw : Wok w) (l1 : Int32) (l2 : Int32) (l3 : Int32) : MR w yX12_matches cX12_matches 10 (some .boolean) 0 0 voI [.ref w.2.2.2.2.2, .int l1, .int l2, .int l3] (R_matches l1 l2 l3) := by
  refine MR.of hw rfl (Nat.le_of_ble_eq_true rfl) (fun g hg B => ?_)
  subst hg
  unfold R_matches
  show Sm g 10 0 [(0, .ref g.1.2.2.2.2.2), (1, .int l1), (2, .int l2), (3, .int l3)] [] _
  refine s_sipush (v := (480)) B.1 dX12_matches_0 (by decide) ?_
  refine s_iload_n B.1 3 dX12_matches_3 rfl rfl ?_
  refine s_imul B.1 dX12_matches_4 ?_
  refine s_lqi (fun x11 => ?_)
  refine s_istore (lv' := [(4, .int x11), (0, .ref g.1.2.2.2.2.2), (1, .int l1), (2, .int l2), (3, .int l3)]) B.1 dX12_matches_5 (by decide) rfl ?_
  refine s_aload_n B.1 1 dX12_matches_7 rfl rfl ?_
  refine rr_getA B 46 mh_46 mn_46 mf_46 dX12_matches_8 ?_
  refine s_iload_n B.1 4 dX12_matches_11 rfl rfl ?_
  refine rr_iald B 46 mh_46 mk_46 dX12_matches_12 (fun v12 => ?_)
  refine s_istore (lv' := [(5, .int v12), (4, .int x11), (0, .ref g.1.2.2.2.2.2), (1, .int l1), (2, .int l2), (3, .int l3)]) B.1 dX12_matches_13 (by decide) rfl ?_
  refine s_aload_n B.1 2 dX12_matches_15 rfl rfl ?_
  refine rr_getA B 45 mh_45 mn_45 mf_45 dX12_matches_16 ?_
  refine s_iload B.1 1 dX12_matches_19 rfl ?_
  refine rr_bald B 45 mh_45 mk_45 dX12_matches_21 (fun v13 => ?_)
  refine s_bipush (v := (36)) B.1 dX12_matches_22 (by decide) ?_
  refine s_icmp_ne B.1 51 dX12_matches_24 (by decide) ?_ ?_
  · exact Sm.lvs [2, 3, 4, 1, 0] rfl (sm_matches_J51 B l1 l2 x11 v12)
  · refine s_aload_n B.1 2 dX12_matches_27 rfl rfl ?_
    refine rr_getA B 26 mh_26 mn_26 mf_26 dX12_matches_28 ?_
    refine s_iload_n B.1 3 dX12_matches_31 rfl rfl ?_
    refine rr_bald B 26 mh_26 mk_26 dX12_matches_32 (fun v14 => ?_)
    refine s_bipush (v := (43)) B.1 dX12_matches_33 (by decide) ?_
    refine s_icmp_eq B.1 49 dX12_matches_35 (by decide) ?_ ?_
    · refine s_iconst (v := 0) B.1 dX12_matches_49 (by decide) ?_
      exact s_zret B.1 B.2.1 dX12_matches_50
    · refine s_aload_n B.1 2 dX12_matches_38 rfl rfl ?_
      refine rr_getA B 26 mh_26 mn_26 mf_26 dX12_matches_39 ?_
      refine s_iload_n B.1 3 dX12_matches_42 rfl rfl ?_
      refine rr_bald B 26 mh_26 mk_26 dX12_matches_43 (fun v15 => ?_)
      refine s_bipush (v := (35)) B.1 dX12_matches_44 (by decide) ?_
      refine s_icmp_ne B.1 51 dX12_matches_46 (by decide) ?_ ?_
      · exact Sm.lvs [2, 3, 4, 1, 0] rfl (sm_matches_J51 B l1 l2 x11 v12)
      · refine s_iconst (v := 0) B.1 dX12_matches_49 (by decide) ?_
        exact s_zret B.1 B.2.1 dX12_matches_50
