def R_thrown : RS → Option (Int32 × RS) :=
  rI 0 fun v1 =>
  rt (v1)
set_option maxRecDepth 10000 in
theorem m_thrown {w : Wd} (hw : Wok w) : MR w yX12_thrown cX12_thrown 1 (some .int) 0 0 voI [.ref w.2.2.2.2.2] (R_thrown) := by
  refine MR.of hw rfl (Nat.le_of_ble_eq_true rfl) (fun g hg B => ?_)
  subst hg
  unfold R_thrown
  show Sm g 1 0 [(0, .ref g.1.2.2.2.2.2)] [] _
  refine s_aload_n B.1 0 dX12_thrown_0 rfl rfl ?_
  refine rr_getI B 0 mh_0 mk_0 mf_0 dX12_thrown_1 (fun v1 => ?_)
  exact s_iret B.1 B.2.1 dX12_thrown_4
def R_refuses (l1 : Int32) : RS → Option (Int32 × RS) :=
  wI 0 (l1) <|
  if l1 = 0 then (
    zt ((0 : Int32))
  ) else (
    zt ((1 : Int32))
  )
set_option maxRecDepth 10000 in
theorem m_refuses {w : Wd} (hw : Wok w) (l1 : Int32) : MR w yX12_refuses cX12_refuses 2 (some .boolean) 0 0 voI [.ref w.2.2.2.2.2, .int l1] (R_refuses l1) := by
  refine MR.of hw rfl (Nat.le_of_ble_eq_true rfl) (fun g hg B => ?_)
  subst hg
  unfold R_refuses
  show Sm g 2 0 [(0, .ref g.1.2.2.2.2.2), (1, .int l1)] [] _
  refine s_aload_n B.1 0 dX12_refuses_0 rfl rfl ?_
  refine s_iload_n B.1 1 dX12_refuses_1 rfl rfl ?_
  refine rr_putI B 0 mh_0 mk_0 mf_0 dX12_refuses_2 ?_
  refine s_iload_n B.1 1 dX12_refuses_5 rfl rfl ?_
  refine s_if_eq B.1 13 dX12_refuses_6 (by decide) ?_ ?_
  · refine s_iconst (v := 0) B.1 dX12_refuses_13 (by decide) ?_
    exact s_zret B.1 B.2.1 dX12_refuses_14
  · refine s_iconst (v := 1) B.1 dX12_refuses_9 (by decide) ?_
    refine s_goto B.1 14 dX12_refuses_10 (by decide) ?_
    exact s_zret B.1 B.2.1 dX12_refuses_14
def R_isConnection (l0 : Int32) : RS → Option (Int32 × RS) :=
  if l0 < 0 then (
    zt ((0 : Int32))
  ) else (
    if (8 : Int32) ≤ l0 then (
      zt ((0 : Int32))
    ) else (
      zt ((1 : Int32))
    )
  )
set_option maxRecDepth 10000 in
theorem m_isConnection {w : Wd} (hw : Wok w) (l0 : Int32) : MR w yX12_isConnection cX12_isConnection 1 (some .boolean) 0 0 voI [.int l0] (R_isConnection l0) := by
  refine MR.of hw rfl (Nat.le_of_ble_eq_true rfl) (fun g hg B => ?_)
  subst hg
  unfold R_isConnection
  show Sm g 1 0 [(0, .int l0)] [] _
  refine s_iload_n B.1 0 dX12_isConnection_0 rfl rfl ?_
  refine s_if_lt B.1 14 dX12_isConnection_1 (by decide) ?_ ?_
  · refine s_iconst (v := 0) B.1 dX12_isConnection_14 (by decide) ?_
    exact s_zret B.1 B.2.1 dX12_isConnection_15
  · refine s_iload_n B.1 0 dX12_isConnection_4 rfl rfl ?_
    refine s_bipush (v := (8)) B.1 dX12_isConnection_5 (by decide) ?_
    refine s_icmp_ge B.1 14 dX12_isConnection_7 (by decide) ?_ ?_
    · refine s_iconst (v := 0) B.1 dX12_isConnection_14 (by decide) ?_
      exact s_zret B.1 B.2.1 dX12_isConnection_15
    · refine s_iconst (v := 1) B.1 dX12_isConnection_10 (by decide) ?_
      refine s_goto B.1 15 dX12_isConnection_11 (by decide) ?_
      exact s_zret B.1 B.2.1 dX12_isConnection_15
def R_hasSession (l1 : Int32) : RS → Option (Int32 × RS) :=
  if l1 < 0 then (
    zt ((0 : Int32))
  ) else (
    if (12 : Int32) ≤ l1 then (
      zt ((0 : Int32))
    ) else (
      rA 11 l1 fun v1 =>
      if v1 = 0 then (
        zt ((0 : Int32))
      ) else (
        zt ((1 : Int32))
      )
    )
  )
set_option maxRecDepth 10000 in
theorem m_hasSession {w : Wd} (hw : Wok w) (l1 : Int32) : MR w yX12_hasSession cX12_hasSession 2 (some .boolean) 0 0 voI [.ref w.2.2.2.2.2, .int l1] (R_hasSession l1) := by
  refine MR.of hw rfl (Nat.le_of_ble_eq_true rfl) (fun g hg B => ?_)
  subst hg
  unfold R_hasSession
  show Sm g 2 0 [(0, .ref g.1.2.2.2.2.2), (1, .int l1)] [] _
  refine s_iload_n B.1 1 dX12_hasSession_0 rfl rfl ?_
  refine s_if_lt B.1 23 dX12_hasSession_1 (by decide) ?_ ?_
  · refine s_iconst (v := 0) B.1 dX12_hasSession_23 (by decide) ?_
    exact s_zret B.1 B.2.1 dX12_hasSession_24
  · refine s_iload_n B.1 1 dX12_hasSession_4 rfl rfl ?_
    refine s_bipush (v := (12)) B.1 dX12_hasSession_5 (by decide) ?_
    refine s_icmp_ge B.1 23 dX12_hasSession_7 (by decide) ?_ ?_
    · refine s_iconst (v := 0) B.1 dX12_hasSession_23 (by decide) ?_
      exact s_zret B.1 B.2.1 dX12_hasSession_24
    · refine s_aload_n B.1 0 dX12_hasSession_10 rfl rfl ?_
      refine rr_getA B 11 mh_11 mn_11 mf_11 dX12_hasSession_11 ?_
      refine s_iload_n B.1 1 dX12_hasSession_14 rfl rfl ?_
      refine rr_zald B 11 mh_11 mk_11 dX12_hasSession_15 (fun v1 => ?_)
      refine s_if_eq B.1 23 dX12_hasSession_16 (by decide) ?_ ?_
      · refine s_iconst (v := 0) B.1 dX12_hasSession_23 (by decide) ?_
        exact s_zret B.1 B.2.1 dX12_hasSession_24
      · refine s_iconst (v := 1) B.1 dX12_hasSession_19 (by decide) ?_
        refine s_goto B.1 24 dX12_hasSession_20 (by decide) ?_
        exact s_zret B.1 B.2.1 dX12_hasSession_24
def R_open_J92 : RS → Option (Unit × RS) :=
  rt ()
set_option maxRecDepth 10000 in
theorem sm_open_J92 {g : Gm RS Unit} (B : Br g cX12_open 3 voV none 1 21) : Sm g 3 92 [] [] (R_open_J92) := by
  unfold R_open_J92
  exact s_vret B.1 B.2.1 dX12_open_92
def R_open_B70 (kb : Int32 → Int32 → RS → Option (Unit × RS)) (ke92 : RS → Option (Unit × RS)) (l1 : Int32) (l2 : Int32) : RS → Option (Unit × RS) :=
  if (4 : Int32) ≤ l2 then (
    ke92
  ) else (
    wA 9 (((4 : Int32) * l1) + l2) (0 : Int32) <|
    kb l1 (l2 + 1)
  )
def R_open_L70 (ke92 : RS → Option (Unit × RS)) : Nat → Int32 → Int32 → RS → Option (Unit × RS)
  | 0, _, _ => no
  | n + 1, l1, l2 => R_open_B70 (fun l1 l2 => R_open_L70 ke92 n l1 l2) ke92 l1 l2
set_option maxRecDepth 10000 in
theorem sm_open_B70 {g : Gm RS Unit} {kb : Int32 → Int32 → RS → Option (Unit × RS)} {ke92 : RS → Option (Unit × RS)} (B : Br g cX12_open 3 voV none 1 21) (hkb : ∀ (l1 : Int32) (l2 : Int32), Sm g 3 70 [(0, .ref g.1.2.2.2.2.2), (1, .int l1), (2, .int l2)] [] (kb l1 l2)) (hke92 : Sm g 3 92 [] [] (ke92)) (l1 : Int32) (l2 : Int32) : Sm g 3 70 [(0, .ref g.1.2.2.2.2.2), (1, .int l1), (2, .int l2)] [] (R_open_B70 kb ke92 l1 l2) := by
  unfold R_open_B70
  refine s_iload_n B.1 2 dX12_open_70 rfl rfl ?_
  refine s_iconst (v := 4) B.1 dX12_open_71 (by decide) ?_
  refine s_icmp_ge B.1 92 dX12_open_72 (by decide) ?_ ?_
  · exact Sm.lvs [] rfl (hke92)
  · refine s_aload_n B.1 0 dX12_open_75 rfl rfl ?_
    refine rr_getA B 9 mh_9 mn_9 mf_9 dX12_open_76 ?_
    refine s_iconst (v := 4) B.1 dX12_open_79 (by decide) ?_
    refine s_iload_n B.1 1 dX12_open_80 rfl rfl ?_
    refine s_imul B.1 dX12_open_81 ?_
    refine s_iload_n B.1 2 dX12_open_82 rfl rfl ?_
    refine s_iadd B.1 dX12_open_83 ?_
    refine s_iconst (v := 0) B.1 dX12_open_84 (by decide) ?_
    refine rr_iast B 9 mh_9 mk_9 dX12_open_85 ?_
    refine s_iinc (v := l2 + 1) (lv' := [(2, .int (l2 + 1)), (0, .ref g.1.2.2.2.2.2), (1, .int l1)]) B.1 2 dX12_open_86 rfl rfl (by decide) rfl ?_
    refine s_goto B.1 70 dX12_open_89 (by decide) ?_
    exact Sm.lvs [1, 2, 0] rfl (hkb l1 (l2 + 1))
set_option maxRecDepth 10000 in
theorem sm_open_L70 {g : Gm RS Unit} {ke92 : RS → Option (Unit × RS)} (B : Br g cX12_open 3 voV none 1 21) (hke92 : Sm g 3 92 [] [] (ke92)) : ∀ (n : Nat) (l1 : Int32) (l2 : Int32), Sm g 3 70 [(0, .ref g.1.2.2.2.2.2), (1, .int l1), (2, .int l2)] [] (R_open_L70 ke92 n l1 l2)
  | 0, _, _ => Sm.fail
  | n + 1, l1, l2 => sm_open_B70 B (sm_open_L70 B hke92 n) hke92 l1 l2
def R_open_J26 (l1 : Int32) (s1 : Int32) : RS → Option (Unit × RS) :=
  bd (R_refuses s1) fun r1 =>
  if r1 = 0 then (
    wA 1 l1 (vp_nar .boolean (1 : Int32)) <|
    wA 2 l1 (vp_nar .boolean (0 : Int32)) <|
    wA 3 l1 (0 : Int32) <|
    wA 5 l1 (0 : Int32) <|
    wA 7 l1 (-1 : Int32) <|
    R_open_L70 (R_open_J92) fu l1 (0 : Int32)
  ) else (
    rt ()
  )
set_option maxRecDepth 10000 in
theorem sm_open_J26 {g : Gm RS Unit} (B : Br g cX12_open 3 voV none 1 21) (l1 : Int32) (s1 : Int32) : Sm g 3 26 [(0, .ref g.1.2.2.2.2.2), (1, .int l1)] [.int s1, .ref g.1.2.2.2.2.2] (R_open_J26 l1 s1) := by
  unfold R_open_J26
  refine rr_cvi (As := [.int s1]) (st := []) B (m_refuses B.ok s1) mc_refuses ml_refuses mi_refuses me_refuses ini12 md_refuses (by decide) rfl (Nat.le_of_ble_eq_true rfl) dX12_open_26 (fun r1 => ?_)
  refine s_if_eq B.1 33 dX12_open_29 (by decide) ?_ ?_
  · refine s_aload_n B.1 0 dX12_open_33 rfl rfl ?_
    refine rr_getA B 1 mh_1 mn_1 mf_1 dX12_open_34 ?_
    refine s_iload_n B.1 1 dX12_open_37 rfl rfl ?_
    refine s_iconst (v := 1) B.1 dX12_open_38 (by decide) ?_
    refine rr_zast B 1 mh_1 mk_1 dX12_open_39 ?_
    refine s_aload_n B.1 0 dX12_open_40 rfl rfl ?_
    refine rr_getA B 2 mh_2 mn_2 mf_2 dX12_open_41 ?_
    refine s_iload_n B.1 1 dX12_open_44 rfl rfl ?_
    refine s_iconst (v := 0) B.1 dX12_open_45 (by decide) ?_
    refine rr_zast B 2 mh_2 mk_2 dX12_open_46 ?_
    refine s_aload_n B.1 0 dX12_open_47 rfl rfl ?_
    refine rr_getA B 3 mh_3 mn_3 mf_3 dX12_open_48 ?_
    refine s_iload_n B.1 1 dX12_open_51 rfl rfl ?_
    refine s_iconst (v := 0) B.1 dX12_open_52 (by decide) ?_
    refine rr_iast B 3 mh_3 mk_3 dX12_open_53 ?_
    refine s_aload_n B.1 0 dX12_open_54 rfl rfl ?_
    refine rr_getA B 5 mh_5 mn_5 mf_5 dX12_open_55 ?_
    refine s_iload_n B.1 1 dX12_open_58 rfl rfl ?_
    refine s_iconst (v := 0) B.1 dX12_open_59 (by decide) ?_
    refine rr_iast B 5 mh_5 mk_5 dX12_open_60 ?_
    refine s_aload_n B.1 0 dX12_open_61 rfl rfl ?_
    refine rr_getA B 7 mh_7 mn_7 mf_7 dX12_open_62 ?_
    refine s_iload_n B.1 1 dX12_open_65 rfl rfl ?_
    refine s_iconst (v := (-1)) B.1 dX12_open_66 (by decide) ?_
    refine rr_iast B 7 mh_7 mk_7 dX12_open_67 ?_
    refine s_iconst (v := 0) B.1 dX12_open_68 (by decide) ?_
    refine s_istore_n (lv' := [(2, .int (0 : Int32)), (0, .ref g.1.2.2.2.2.2), (1, .int l1)]) B.1 dX12_open_69 rfl (by decide) rfl ?_
    exact Sm.lvs [1, 2, 0] rfl (sm_open_L70 B (sm_open_J92 B) fu l1 (0 : Int32))
  · exact s_vret B.1 B.2.1 dX12_open_32
def R_open (l1 : Int32) : RS → Option (Unit × RS) :=
  bd (R_isConnection l1) fun r2 =>
  if r2 = 0 then (
    R_open_J26 l1 (1 : Int32)
  ) else (
    rA 1 l1 fun v3 =>
    if v3 = 0 then (
      R_open_J26 l1 (0 : Int32)
    ) else (
      R_open_J26 l1 (2 : Int32)
    )
  )
set_option maxRecDepth 10000 in
theorem m_open {w : Wd} (hw : Wok w) (l1 : Int32) : MR w yX12_open cX12_open 3 none 1 21 voV [.ref w.2.2.2.2.2, .int l1] (R_open l1) := by
  refine MR.of hw rfl (Nat.le_of_ble_eq_true rfl) (fun g hg B => ?_)
  subst hg
  unfold R_open
  show Sm g 3 0 [(0, .ref g.1.2.2.2.2.2), (1, .int l1)] [] _
  refine s_aload_n B.1 0 dX12_open_0 rfl rfl ?_
  refine s_iload_n B.1 1 dX12_open_1 rfl rfl ?_
  refine rr_csi (As := [.int l1]) (st := [.ref g.1.2.2.2.2.2]) B (m_isConnection B.ok l1) mc_isConnection ml_isConnection ms_isConnection ini12 md_isConnection (by decide) rfl (Nat.le_of_ble_eq_true rfl) dX12_open_2 (fun r2 => ?_)
  refine s_if_ne B.1 12 dX12_open_5 (by decide) ?_ ?_
  · refine s_aload_n B.1 0 dX12_open_12 rfl rfl ?_
    refine rr_getA B 1 mh_1 mn_1 mf_1 dX12_open_13 ?_
    refine s_iload_n B.1 1 dX12_open_16 rfl rfl ?_
    refine rr_zald B 1 mh_1 mk_1 dX12_open_17 (fun v3 => ?_)
    refine s_if_eq B.1 25 dX12_open_18 (by decide) ?_ ?_
    · refine s_iconst (v := 0) B.1 dX12_open_25 (by decide) ?_
      exact Sm.lvs [0, 1] rfl (sm_open_J26 B l1 (0 : Int32))
    · refine s_iconst (v := 2) B.1 dX12_open_21 (by decide) ?_
      refine s_goto B.1 26 dX12_open_22 (by decide) ?_
      exact Sm.lvs [0, 1] rfl (sm_open_J26 B l1 (2 : Int32))
  · refine s_iconst (v := 1) B.1 dX12_open_8 (by decide) ?_
    refine s_goto B.1 26 dX12_open_9 (by decide) ?_
    exact Sm.lvs [0, 1] rfl (sm_open_J26 B l1 (1 : Int32))
def R_put (l1 : Int32) : RS → Option (Unit × RS) :=
  rI 89 fun v1 =>
  wI 89 (v1 + (1 : Int32)) <|
  wA 88 v1 (vp_nar .byte l1.toInt8.toInt32) <|
  rt ()
set_option maxRecDepth 10000 in
theorem m_put {w : Wd} (hw : Wok w) (l1 : Int32) : MR w yX12_put cX12_put 2 none 0 0 voV [.ref w.2.2.2.2.2, .int l1] (R_put l1) := by
  refine MR.of hw rfl (Nat.le_of_ble_eq_true rfl) (fun g hg B => ?_)
  subst hg
  unfold R_put
  show Sm g 2 0 [(0, .ref g.1.2.2.2.2.2), (1, .int l1)] [] _
  refine s_aload_n B.1 0 dX12_put_0 rfl rfl ?_
  refine rr_getA B 88 mh_88 mn_88 mf_88 dX12_put_1 ?_
  refine s_aload_n B.1 0 dX12_put_4 rfl rfl ?_
  refine s_dup B.1 dX12_put_5 rfl ?_
  refine rr_getI B 89 mh_89 mk_89 mf_89 dX12_put_6 (fun v1 => ?_)
  refine s_dup_x1 B.1 dX12_put_9 rfl rfl ?_
  refine s_iconst (v := 1) B.1 dX12_put_10 (by decide) ?_
  refine s_iadd B.1 dX12_put_11 ?_
  refine rr_putI B 89 mh_89 mk_89 mf_89 dX12_put_12 ?_
  refine s_iload_n B.1 1 dX12_put_15 rfl rfl ?_
  refine s_i2b B.1 dX12_put_16 ?_
  refine rr_bast B 88 mh_88 mk_88 dX12_put_17 ?_
  exact s_vret B.1 B.2.1 dX12_put_18
def R_send_J85 (l1 : Int32) : RS → Option (Unit × RS) :=
  rA 3 l1 fun v1 =>
  rI 89 fun v2 =>
  wA 3 l1 (v1 + v2) <|
  rI 68 fun v3 =>
  wI 68 (v3 + (1 : Int32)) <|
  rt ()
set_option maxRecDepth 10000 in
theorem sm_send_J85 {g : Gm RS Unit} (B : Br g cX12_send 3 voV none 0 0) (l1 : Int32) : Sm g 3 85 [(0, .ref g.1.2.2.2.2.2), (1, .int l1)] [] (R_send_J85 l1) := by
  unfold R_send_J85
  refine s_aload_n B.1 0 dX12_send_85 rfl rfl ?_
  refine rr_getA B 3 mh_3 mn_3 mf_3 dX12_send_86 ?_
  refine s_iload_n B.1 1 dX12_send_89 rfl rfl ?_
  refine s_dup2 B.1 dX12_send_90 rfl rfl ?_
  refine rr_iald B 3 mh_3 mk_3 dX12_send_91 (fun v1 => ?_)
  refine s_aload_n B.1 0 dX12_send_92 rfl rfl ?_
  refine rr_getI B 89 mh_89 mk_89 mf_89 dX12_send_93 (fun v2 => ?_)
  refine s_iadd B.1 dX12_send_96 ?_
  refine rr_iast B 3 mh_3 mk_3 dX12_send_97 ?_
  refine s_aload_n B.1 0 dX12_send_98 rfl rfl ?_
  refine s_dup B.1 dX12_send_99 rfl ?_
  refine rr_getI B 68 mh_68 mk_68 mf_68 dX12_send_100 (fun v3 => ?_)
  refine s_iconst (v := 1) B.1 dX12_send_103 (by decide) ?_
  refine s_iadd B.1 dX12_send_104 ?_
  refine rr_putI B 68 mh_68 mk_68 mf_68 dX12_send_105 ?_
  exact s_vret B.1 B.2.1 dX12_send_108
def R_send_B46 (kb : Int32 → Int32 → RS → Option (Unit × RS)) (ke85 : Int32 → RS → Option (Unit × RS)) (l1 : Int32) (l2 : Int32) : RS → Option (Unit × RS) :=
  rI 89 fun v4 =>
  if v4 ≤ l2 then (
    ke85 l1
  ) else (
    rA 3 l1 fun v5 =>
    rA 88 l2 fun v6 =>
    wA 4 ((((2000 : Int32) * l1) + v5) + l2) (vp_nar .byte v6) <|
    kb l1 (l2 + 1)
  )
def R_send_L46 (ke85 : Int32 → RS → Option (Unit × RS)) : Nat → Int32 → Int32 → RS → Option (Unit × RS)
  | 0, _, _ => no
  | n + 1, l1, l2 => R_send_B46 (fun l1 l2 => R_send_L46 ke85 n l1 l2) ke85 l1 l2
set_option maxRecDepth 10000 in
theorem sm_send_B46 {g : Gm RS Unit} {kb : Int32 → Int32 → RS → Option (Unit × RS)} {ke85 : Int32 → RS → Option (Unit × RS)} (B : Br g cX12_send 3 voV none 0 0) (hkb : ∀ (l1 : Int32) (l2 : Int32), Sm g 3 46 [(0, .ref g.1.2.2.2.2.2), (1, .int l1), (2, .int l2)] [] (kb l1 l2)) (hke85 : ∀ (l1 : Int32), Sm g 3 85 [(0, .ref g.1.2.2.2.2.2), (1, .int l1)] [] (ke85 l1)) (l1 : Int32) (l2 : Int32) : Sm g 3 46 [(0, .ref g.1.2.2.2.2.2), (1, .int l1), (2, .int l2)] [] (R_send_B46 kb ke85 l1 l2) := by
  unfold R_send_B46
  refine s_iload_n B.1 2 dX12_send_46 rfl rfl ?_
  refine s_aload_n B.1 0 dX12_send_47 rfl rfl ?_
  refine rr_getI B 89 mh_89 mk_89 mf_89 dX12_send_48 (fun v4 => ?_)
  refine s_icmp_ge B.1 85 dX12_send_51 (by decide) ?_ ?_
  · exact Sm.lvs [0, 1] rfl (hke85 l1)
  · refine s_aload_n B.1 0 dX12_send_54 rfl rfl ?_
    refine rr_getA B 4 mh_4 mn_4 mf_4 dX12_send_55 ?_
    refine s_sipush (v := (2000)) B.1 dX12_send_58 (by decide) ?_
    refine s_iload_n B.1 1 dX12_send_61 rfl rfl ?_
    refine s_imul B.1 dX12_send_62 ?_
    refine s_aload_n B.1 0 dX12_send_63 rfl rfl ?_
    refine rr_getA B 3 mh_3 mn_3 mf_3 dX12_send_64 ?_
    refine s_iload_n B.1 1 dX12_send_67 rfl rfl ?_
    refine rr_iald B 3 mh_3 mk_3 dX12_send_68 (fun v5 => ?_)
    refine s_iadd B.1 dX12_send_69 ?_
    refine s_iload_n B.1 2 dX12_send_70 rfl rfl ?_
    refine s_iadd B.1 dX12_send_71 ?_
    refine s_aload_n B.1 0 dX12_send_72 rfl rfl ?_
    refine rr_getA B 88 mh_88 mn_88 mf_88 dX12_send_73 ?_
    refine s_iload_n B.1 2 dX12_send_76 rfl rfl ?_
    refine rr_bald B 88 mh_88 mk_88 dX12_send_77 (fun v6 => ?_)
    refine rr_bast B 4 mh_4 mk_4 dX12_send_78 ?_
    refine s_iinc (v := l2 + 1) (lv' := [(2, .int (l2 + 1)), (0, .ref g.1.2.2.2.2.2), (1, .int l1)]) B.1 2 dX12_send_79 rfl rfl (by decide) rfl ?_
    refine s_goto B.1 46 dX12_send_82 (by decide) ?_
    exact Sm.lvs [1, 2, 0] rfl (hkb l1 (l2 + 1))
set_option maxRecDepth 10000 in
theorem sm_send_L46 {g : Gm RS Unit} {ke85 : Int32 → RS → Option (Unit × RS)} (B : Br g cX12_send 3 voV none 0 0) (hke85 : ∀ (l1 : Int32), Sm g 3 85 [(0, .ref g.1.2.2.2.2.2), (1, .int l1)] [] (ke85 l1)) : ∀ (n : Nat) (l1 : Int32) (l2 : Int32), Sm g 3 46 [(0, .ref g.1.2.2.2.2.2), (1, .int l1), (2, .int l2)] [] (R_send_L46 ke85 n l1 l2)
  | 0, _, _ => Sm.fail
  | n + 1, l1, l2 => sm_send_B46 B (sm_send_L46 B hke85 n) hke85 l1 l2
def R_send (l1 : Int32) : RS → Option (Unit × RS) :=
  rA 1 l1 fun v7 =>
  if v7 = 0 then (
    rt ()
  ) else (
    rA 2 l1 fun v8 =>
    if v8 = 0 then (
      rA 3 l1 fun v9 =>
      rI 89 fun v10 =>
      if (v9 + v10) ≤ (2000 : Int32) then (
        R_send_L46 (fun l1 => R_send_J85 l1) fu l1 (0 : Int32)
      ) else (
        wA 2 l1 (vp_nar .boolean (1 : Int32)) <|
        rt ()
      )
    ) else (
      rt ()
    )
  )
set_option maxRecDepth 10000 in
theorem m_send {w : Wd} (hw : Wok w) (l1 : Int32) : MR w yX12_send cX12_send 3 none 0 0 voV [.ref w.2.2.2.2.2, .int l1] (R_send l1) := by
  refine MR.of hw rfl (Nat.le_of_ble_eq_true rfl) (fun g hg B => ?_)
  subst hg
  unfold R_send
  show Sm g 3 0 [(0, .ref g.1.2.2.2.2.2), (1, .int l1)] [] _
  refine s_aload_n B.1 0 dX12_send_0 rfl rfl ?_
  refine rr_getA B 1 mh_1 mn_1 mf_1 dX12_send_1 ?_
  refine s_iload_n B.1 1 dX12_send_4 rfl rfl ?_
  refine rr_zald B 1 mh_1 mk_1 dX12_send_5 (fun v7 => ?_)
  refine s_if_eq B.1 18 dX12_send_6 (by decide) ?_ ?_
  · exact s_vret B.1 B.2.1 dX12_send_18
  · refine s_aload_n B.1 0 dX12_send_9 rfl rfl ?_
    refine rr_getA B 2 mh_2 mn_2 mf_2 dX12_send_10 ?_
    refine s_iload_n B.1 1 dX12_send_13 rfl rfl ?_
    refine rr_zald B 2 mh_2 mk_2 dX12_send_14 (fun v8 => ?_)
    refine s_if_eq B.1 19 dX12_send_15 (by decide) ?_ ?_
    · refine s_aload_n B.1 0 dX12_send_19 rfl rfl ?_
      refine rr_getA B 3 mh_3 mn_3 mf_3 dX12_send_20 ?_
      refine s_iload_n B.1 1 dX12_send_23 rfl rfl ?_
      refine rr_iald B 3 mh_3 mk_3 dX12_send_24 (fun v9 => ?_)
      refine s_aload_n B.1 0 dX12_send_25 rfl rfl ?_
      refine rr_getI B 89 mh_89 mk_89 mf_89 dX12_send_26 (fun v10 => ?_)
      refine s_iadd B.1 dX12_send_29 ?_
      refine s_sipush (v := (2000)) B.1 dX12_send_30 (by decide) ?_
      refine s_icmp_le B.1 44 dX12_send_33 (by decide) ?_ ?_
      · refine s_iconst (v := 0) B.1 dX12_send_44 (by decide) ?_
        refine s_istore_n (lv' := [(2, .int (0 : Int32)), (0, .ref g.1.2.2.2.2.2), (1, .int l1)]) B.1 dX12_send_45 rfl (by decide) rfl ?_
        exact Sm.lvs [1, 2, 0] rfl (sm_send_L46 B (fun l1 => sm_send_J85 B l1) fu l1 (0 : Int32))
      · refine s_aload_n B.1 0 dX12_send_36 rfl rfl ?_
        refine rr_getA B 2 mh_2 mn_2 mf_2 dX12_send_37 ?_
        refine s_iload_n B.1 1 dX12_send_40 rfl rfl ?_
        refine s_iconst (v := 1) B.1 dX12_send_41 (by decide) ?_
        refine rr_zast B 2 mh_2 mk_2 dX12_send_42 ?_
        exact s_vret B.1 B.2.1 dX12_send_43
    · exact s_vret B.1 B.2.1 dX12_send_18
def R_connackFault (l1 : Int32) (l2 : Int32) : RS → Option (Unit × RS) :=
  wI 89 ((0 : Int32)) <|
  bd (R_put (32 : Int32)) fun r1 =>
  bd (R_put (3 : Int32)) fun r2 =>
  bd (R_put (0 : Int32)) fun r3 =>
  bd (R_put l2) fun r4 =>
  bd (R_put (0 : Int32)) fun r5 =>
  bd (R_send l1) fun r6 =>
  rt ()
set_option maxRecDepth 10000 in
theorem m_connackFault {w : Wd} (hw : Wok w) (l1 : Int32) (l2 : Int32) : MR w yX12_connackFault cX12_connackFault 3 none 1 22 voV [.ref w.2.2.2.2.2, .int l1, .int l2] (R_connackFault l1 l2) := by
  refine MR.of hw rfl (Nat.le_of_ble_eq_true rfl) (fun g hg B => ?_)
  subst hg
  unfold R_connackFault
  show Sm g 3 0 [(0, .ref g.1.2.2.2.2.2), (1, .int l1), (2, .int l2)] [] _
  refine s_aload_n B.1 0 dX12_connackFault_0 rfl rfl ?_
  refine s_iconst (v := 0) B.1 dX12_connackFault_1 (by decide) ?_
  refine rr_putI B 89 mh_89 mk_89 mf_89 dX12_connackFault_2 ?_
  refine s_aload_n B.1 0 dX12_connackFault_5 rfl rfl ?_
  refine s_bipush (v := (32)) B.1 dX12_connackFault_6 (by decide) ?_
  refine rr_cvv (As := [.int (32 : Int32)]) (st := []) B (m_put B.ok (32 : Int32)) mc_put ml_put mi_put me_put ini12 md_put (by decide) rfl (Nat.le_of_ble_eq_true rfl) dX12_connackFault_8 (fun r1 => ?_)
  refine s_aload_n B.1 0 dX12_connackFault_11 rfl rfl ?_
  refine s_iconst (v := 3) B.1 dX12_connackFault_12 (by decide) ?_
  refine rr_cvv (As := [.int (3 : Int32)]) (st := []) B (m_put B.ok (3 : Int32)) mc_put ml_put mi_put me_put ini12 md_put (by decide) rfl (Nat.le_of_ble_eq_true rfl) dX12_connackFault_13 (fun r2 => ?_)
  refine s_aload_n B.1 0 dX12_connackFault_16 rfl rfl ?_
  refine s_iconst (v := 0) B.1 dX12_connackFault_17 (by decide) ?_
  refine rr_cvv (As := [.int (0 : Int32)]) (st := []) B (m_put B.ok (0 : Int32)) mc_put ml_put mi_put me_put ini12 md_put (by decide) rfl (Nat.le_of_ble_eq_true rfl) dX12_connackFault_18 (fun r3 => ?_)
  refine s_aload_n B.1 0 dX12_connackFault_21 rfl rfl ?_
  refine s_iload_n B.1 2 dX12_connackFault_22 rfl rfl ?_
  refine rr_cvv (As := [.int l2]) (st := []) B (m_put B.ok l2) mc_put ml_put mi_put me_put ini12 md_put (by decide) rfl (Nat.le_of_ble_eq_true rfl) dX12_connackFault_23 (fun r4 => ?_)
  refine s_aload_n B.1 0 dX12_connackFault_26 rfl rfl ?_
  refine s_iconst (v := 0) B.1 dX12_connackFault_27 (by decide) ?_
  refine rr_cvv (As := [.int (0 : Int32)]) (st := []) B (m_put B.ok (0 : Int32)) mc_put ml_put mi_put me_put ini12 md_put (by decide) rfl (Nat.le_of_ble_eq_true rfl) dX12_connackFault_28 (fun r5 => ?_)
  refine s_aload_n B.1 0 dX12_connackFault_31 rfl rfl ?_
  refine s_iload_n B.1 1 dX12_connackFault_32 rfl rfl ?_
  refine rr_cvv (As := [.int l1]) (st := []) B (m_send B.ok l1) mc_send ml_send mi_send me_send ini12 md_send (by decide) rfl (Nat.le_of_ble_eq_true rfl) dX12_connackFault_33 (fun r6 => ?_)
  exact s_vret B.1 B.2.1 dX12_connackFault_36
def R_sameFilter_J78 (l3 : Int32) : RS → Option (Int32 × RS) :=
  zt (l3)
set_option maxRecDepth 10000 in
theorem sm_sameFilter_J78 {g : Gm RS Int32} (B : Br g cX12_sameFilter 5 voI (some .boolean) 0 0) (l3 : Int32) : Sm g 5 78 [(3, .int l3)] [] (R_sameFilter_J78 l3) := by
  unfold R_sameFilter_J78
  refine s_iload_n B.1 0 dX12_sameFilter_78 rfl rfl ?_
  exact s_zret B.1 B.2.1 dX12_sameFilter_79
def R_sameFilter_J71 (kb : Int32 → Int32 → Int32 → Int32 → RS → Option (Int32 × RS)) (ke78 : Int32 → RS → Option (Int32 × RS)) (l1 : Int32) (l2 : Int32) (l4 : Int32) (s0 : Int32) : RS → Option (Int32 × RS) :=
  kb l1 l2 s0 (l4 + 1)
set_option maxRecDepth 10000 in
theorem sm_sameFilter_J71 {g : Gm RS Int32} {kb : Int32 → Int32 → Int32 → Int32 → RS → Option (Int32 × RS)} {ke78 : Int32 → RS → Option (Int32 × RS)} (B : Br g cX12_sameFilter 5 voI (some .boolean) 0 0) (hkb : ∀ (l1 : Int32) (l2 : Int32) (l3 : Int32) (l4 : Int32), Sm g 5 24 [(0, .ref g.1.2.2.2.2.2), (1, .int l1), (2, .int l2), (3, .int l3), (4, .int l4)] [] (kb l1 l2 l3 l4)) (hke78 : ∀ (l3 : Int32), Sm g 5 78 [(3, .int l3)] [] (ke78 l3)) (l1 : Int32) (l2 : Int32) (l4 : Int32) (s0 : Int32) : Sm g 5 71 [(0, .ref g.1.2.2.2.2.2), (1, .int l1), (2, .int l2), (4, .int l4)] [.int s0] (R_sameFilter_J71 kb ke78 l1 l2 l4 s0) := by
  unfold R_sameFilter_J71
  refine s_istore_n (lv' := [(3, .int s0), (0, .ref g.1.2.2.2.2.2), (1, .int l1), (2, .int l2), (4, .int l4)]) B.1 dX12_sameFilter_71 rfl (by decide) rfl ?_
  refine s_iinc (v := l4 + 1) (lv' := [(4, .int (l4 + 1)), (3, .int s0), (0, .ref g.1.2.2.2.2.2), (1, .int l1), (2, .int l2)]) B.1 4 dX12_sameFilter_72 rfl rfl (by decide) rfl ?_
  refine s_goto B.1 24 dX12_sameFilter_75 (by decide) ?_
  exact Sm.lvs [2, 3, 4, 1, 0] rfl (hkb l1 l2 s0 (l4 + 1))
def R_sameFilter_B24 (kb : Int32 → Int32 → Int32 → Int32 → RS → Option (Int32 × RS)) (ke78 : Int32 → RS → Option (Int32 × RS)) (l1 : Int32) (l2 : Int32) (l3 : Int32) (l4 : Int32) : RS → Option (Int32 × RS) :=
  rA 25 l1 fun v1 =>
  if v1 ≤ l4 then (
    ke78 l3
  ) else (
    if l3 = 0 then (
      ke78 l3
    ) else (
      rA 26 (((64 : Int32) * l1) + l4) fun v2 =>
      rA 26 (((64 : Int32) * l2) + l4) fun v3 =>
      if v2 = v3 then (
        R_sameFilter_J71 kb ke78 l1 l2 l4 (1 : Int32)
      ) else (
        R_sameFilter_J71 kb ke78 l1 l2 l4 (0 : Int32)
      )
    )
  )
def R_sameFilter_L24 (ke78 : Int32 → RS → Option (Int32 × RS)) : Nat → Int32 → Int32 → Int32 → Int32 → RS → Option (Int32 × RS)
  | 0, _, _, _, _ => no
  | n + 1, l1, l2, l3, l4 => R_sameFilter_B24 (fun l1 l2 l3 l4 => R_sameFilter_L24 ke78 n l1 l2 l3 l4) ke78 l1 l2 l3 l4
set_option maxRecDepth 10000 in
theorem sm_sameFilter_B24 {g : Gm RS Int32} {kb : Int32 → Int32 → Int32 → Int32 → RS → Option (Int32 × RS)} {ke78 : Int32 → RS → Option (Int32 × RS)} (B : Br g cX12_sameFilter 5 voI (some .boolean) 0 0) (hkb : ∀ (l1 : Int32) (l2 : Int32) (l3 : Int32) (l4 : Int32), Sm g 5 24 [(0, .ref g.1.2.2.2.2.2), (1, .int l1), (2, .int l2), (3, .int l3), (4, .int l4)] [] (kb l1 l2 l3 l4)) (hke78 : ∀ (l3 : Int32), Sm g 5 78 [(3, .int l3)] [] (ke78 l3)) (l1 : Int32) (l2 : Int32) (l3 : Int32) (l4 : Int32) : Sm g 5 24 [(0, .ref g.1.2.2.2.2.2), (1, .int l1), (2, .int l2), (3, .int l3), (4, .int l4)] [] (R_sameFilter_B24 kb ke78 l1 l2 l3 l4) := by
  unfold R_sameFilter_B24
  refine s_iload B.1 4 dX12_sameFilter_24 rfl ?_
  refine s_aload_n B.1 0 dX12_sameFilter_26 rfl rfl ?_
  refine rr_getA B 25 mh_25 mn_25 mf_25 dX12_sameFilter_27 ?_
  refine s_iload_n B.1 1 dX12_sameFilter_30 rfl rfl ?_
  refine rr_iald B 25 mh_25 mk_25 dX12_sameFilter_31 (fun v1 => ?_)
  refine s_icmp_ge B.1 78 dX12_sameFilter_32 (by decide) ?_ ?_
  · exact Sm.lvs [3] rfl (hke78 l3)
  · refine s_iload_n B.1 3 dX12_sameFilter_35 rfl rfl ?_
    refine s_if_eq B.1 78 dX12_sameFilter_36 (by decide) ?_ ?_
    · exact Sm.lvs [3] rfl (hke78 l3)
    · refine s_aload_n B.1 0 dX12_sameFilter_39 rfl rfl ?_
      refine rr_getA B 26 mh_26 mn_26 mf_26 dX12_sameFilter_40 ?_
      refine s_bipush (v := (64)) B.1 dX12_sameFilter_43 (by decide) ?_
      refine s_iload_n B.1 1 dX12_sameFilter_45 rfl rfl ?_
      refine s_imul B.1 dX12_sameFilter_46 ?_
      refine s_iload B.1 4 dX12_sameFilter_47 rfl ?_
      refine s_iadd B.1 dX12_sameFilter_49 ?_
      refine rr_bald B 26 mh_26 mk_26 dX12_sameFilter_50 (fun v2 => ?_)
      refine s_aload_n B.1 0 dX12_sameFilter_51 rfl rfl ?_
      refine rr_getA B 26 mh_26 mn_26 mf_26 dX12_sameFilter_52 ?_
      refine s_bipush (v := (64)) B.1 dX12_sameFilter_55 (by decide) ?_
      refine s_iload_n B.1 2 dX12_sameFilter_57 rfl rfl ?_
      refine s_imul B.1 dX12_sameFilter_58 ?_
      refine s_iload B.1 4 dX12_sameFilter_59 rfl ?_
      refine s_iadd B.1 dX12_sameFilter_61 ?_
      refine rr_bald B 26 mh_26 mk_26 dX12_sameFilter_62 (fun v3 => ?_)
      refine s_icmp_ne B.1 70 dX12_sameFilter_63 (by decide) ?_ ?_
      · refine s_iconst (v := 0) B.1 dX12_sameFilter_70 (by decide) ?_
        exact Sm.lvs [0, 1, 2, 4] rfl (sm_sameFilter_J71 B hkb hke78 l1 l2 l4 (0 : Int32))
      · refine s_iconst (v := 1) B.1 dX12_sameFilter_66 (by decide) ?_
        refine s_goto B.1 71 dX12_sameFilter_67 (by decide) ?_
        exact Sm.lvs [0, 1, 2, 4] rfl (sm_sameFilter_J71 B hkb hke78 l1 l2 l4 (1 : Int32))
set_option maxRecDepth 10000 in
theorem sm_sameFilter_L24 {g : Gm RS Int32} {ke78 : Int32 → RS → Option (Int32 × RS)} (B : Br g cX12_sameFilter 5 voI (some .boolean) 0 0) (hke78 : ∀ (l3 : Int32), Sm g 5 78 [(3, .int l3)] [] (ke78 l3)) : ∀ (n : Nat) (l1 : Int32) (l2 : Int32) (l3 : Int32) (l4 : Int32), Sm g 5 24 [(0, .ref g.1.2.2.2.2.2), (1, .int l1), (2, .int l2), (3, .int l3), (4, .int l4)] [] (R_sameFilter_L24 ke78 n l1 l2 l3 l4)
  | 0, _, _, _, _ => Sm.fail
  | n + 1, l1, l2, l3, l4 => sm_sameFilter_B24 B (sm_sameFilter_L24 B hke78 n) hke78 l1 l2 l3 l4
def R_sameFilter_J20 (l1 : Int32) (l2 : Int32) (s0 : Int32) : RS → Option (Int32 × RS) :=
  R_sameFilter_L24 (fun l3 => R_sameFilter_J78 l3) fu l1 l2 s0 (0 : Int32)
set_option maxRecDepth 10000 in
theorem sm_sameFilter_J20 {g : Gm RS Int32} (B : Br g cX12_sameFilter 5 voI (some .boolean) 0 0) (l1 : Int32) (l2 : Int32) (s0 : Int32) : Sm g 5 20 [(0, .ref g.1.2.2.2.2.2), (1, .int l1), (2, .int l2)] [.int s0] (R_sameFilter_J20 l1 l2 s0) := by
  unfold R_sameFilter_J20
  refine s_istore_n (lv' := [(3, .int s0), (0, .ref g.1.2.2.2.2.2), (1, .int l1), (2, .int l2)]) B.1 dX12_sameFilter_20 rfl (by decide) rfl ?_
  refine s_iconst (v := 0) B.1 dX12_sameFilter_21 (by decide) ?_
  refine s_istore (lv' := [(4, .int (0 : Int32)), (3, .int s0), (0, .ref g.1.2.2.2.2.2), (1, .int l1), (2, .int l2)]) B.1 dX12_sameFilter_22 (by decide) rfl ?_
  exact Sm.lvs [2, 3, 4, 1, 0] rfl (sm_sameFilter_L24 B (fun l3 => sm_sameFilter_J78 B l3) fu l1 l2 s0 (0 : Int32))
def R_sameFilter (l1 : Int32) (l2 : Int32) : RS → Option (Int32 × RS) :=
  rA 25 l1 fun v4 =>
  rA 25 l2 fun v5 =>
  if v4 = v5 then (
    R_sameFilter_J20 l1 l2 (1 : Int32)
  ) else (
    R_sameFilter_J20 l1 l2 (0 : Int32)
  )
set_option maxRecDepth 10000 in
theorem m_sameFilter {w : Wd} (hw : Wok w) (l1 : Int32) (l2 : Int32) : MR w yX12_sameFilter cX12_sameFilter 5 (some .boolean) 0 0 voI [.ref w.2.2.2.2.2, .int l1, .int l2] (R_sameFilter l1 l2) := by
  refine MR.of hw rfl (Nat.le_of_ble_eq_true rfl) (fun g hg B => ?_)
  subst hg
  unfold R_sameFilter
  show Sm g 5 0 [(0, .ref g.1.2.2.2.2.2), (1, .int l1), (2, .int l2)] [] _
  refine s_aload_n B.1 0 dX12_sameFilter_0 rfl rfl ?_
  refine rr_getA B 25 mh_25 mn_25 mf_25 dX12_sameFilter_1 ?_
  refine s_iload_n B.1 1 dX12_sameFilter_4 rfl rfl ?_
  refine rr_iald B 25 mh_25 mk_25 dX12_sameFilter_5 (fun v4 => ?_)
  refine s_aload_n B.1 0 dX12_sameFilter_6 rfl rfl ?_
  refine rr_getA B 25 mh_25 mn_25 mf_25 dX12_sameFilter_7 ?_
  refine s_iload_n B.1 2 dX12_sameFilter_10 rfl rfl ?_
  refine rr_iald B 25 mh_25 mk_25 dX12_sameFilter_11 (fun v5 => ?_)
  refine s_icmp_ne B.1 19 dX12_sameFilter_12 (by decide) ?_ ?_
  · refine s_iconst (v := 0) B.1 dX12_sameFilter_19 (by decide) ?_
    exact Sm.lvs [0, 1, 2] rfl (sm_sameFilter_J20 B l1 l2 (0 : Int32))
  · refine s_iconst (v := 1) B.1 dX12_sameFilter_15 (by decide) ?_
    refine s_goto B.1 20 dX12_sameFilter_16 (by decide) ?_
    exact Sm.lvs [0, 1, 2] rfl (sm_sameFilter_J20 B l1 l2 (1 : Int32))
def R_chosen_J136 (l2 : Int32) : RS → Option (Int32 × RS) :=
  rt (l2)
set_option maxRecDepth 10000 in
theorem sm_chosen_J136 {g : Gm RS Int32} (B : Br g cX12_chosen 7 voI (some .int) 1 24) (l2 : Int32) : Sm g 7 136 [(2, .int l2)] [] (R_chosen_J136 l2) := by
  unfold R_chosen_J136
  refine s_iload_n B.1 0 dX12_chosen_136 rfl rfl ?_
  exact s_iret B.1 B.2.1 dX12_chosen_137
def R_chosen_J128 (kb : Int32 → Int32 → Int32 → RS → Option (Int32 × RS)) (ke136 : Int32 → RS → Option (Int32 × RS)) (l1 : Int32) (l3 : Int32) : RS → Option (Int32 × RS) :=
  kb l1 l3 (l3 + 1)
set_option maxRecDepth 10000 in
theorem sm_chosen_J128 {g : Gm RS Int32} {kb : Int32 → Int32 → Int32 → RS → Option (Int32 × RS)} {ke136 : Int32 → RS → Option (Int32 × RS)} (B : Br g cX12_chosen 7 voI (some .int) 1 24) (hkb : ∀ (l1 : Int32) (l2 : Int32) (l3 : Int32), Sm g 7 4 [(0, .ref g.1.2.2.2.2.2), (1, .int l1), (2, .int l2), (3, .int l3)] [] (kb l1 l2 l3)) (hke136 : ∀ (l2 : Int32), Sm g 7 136 [(2, .int l2)] [] (ke136 l2)) (l1 : Int32) (l3 : Int32) : Sm g 7 128 [(0, .ref g.1.2.2.2.2.2), (1, .int l1), (3, .int l3)] [] (R_chosen_J128 kb ke136 l1 l3) := by
  unfold R_chosen_J128
  refine s_iload_n B.1 2 dX12_chosen_128 rfl rfl ?_
  refine s_istore_n (lv' := [(2, .int l3), (0, .ref g.1.2.2.2.2.2), (1, .int l1), (3, .int l3)]) B.1 dX12_chosen_129 rfl (by decide) rfl ?_
  refine s_iinc (v := l3 + 1) (lv' := [(3, .int (l3 + 1)), (2, .int l3), (0, .ref g.1.2.2.2.2.2), (1, .int l1)]) B.1 3 dX12_chosen_130 rfl rfl (by decide) rfl ?_
  refine s_goto B.1 4 dX12_chosen_133 (by decide) ?_
  exact Sm.lvs [2, 3, 1, 0] rfl (hkb l1 l3 (l3 + 1))
def R_chosen_J106 (kb : Int32 → Int32 → Int32 → RS → Option (Int32 × RS)) (ke136 : Int32 → RS → Option (Int32 × RS)) (l1 : Int32) (l2 : Int32) (l3 : Int32) (l5 : Int32) (l6 : Int32) : RS → Option (Int32 × RS) :=
  if l5 = l6 then (
    rA 30 l3 fun v1 =>
    rA 30 l2 fun v2 =>
    if v2 ≤ v1 then (
      kb l1 l2 (l3 + 1)
    ) else (
      R_chosen_J128 kb ke136 l1 l3
    )
  ) else (
    kb l1 l2 (l3 + 1)
  )
set_option maxRecDepth 10000 in
theorem sm_chosen_J106 {g : Gm RS Int32} {kb : Int32 → Int32 → Int32 → RS → Option (Int32 × RS)} {ke136 : Int32 → RS → Option (Int32 × RS)} (B : Br g cX12_chosen 7 voI (some .int) 1 24) (hkb : ∀ (l1 : Int32) (l2 : Int32) (l3 : Int32), Sm g 7 4 [(0, .ref g.1.2.2.2.2.2), (1, .int l1), (2, .int l2), (3, .int l3)] [] (kb l1 l2 l3)) (hke136 : ∀ (l2 : Int32), Sm g 7 136 [(2, .int l2)] [] (ke136 l2)) (l1 : Int32) (l2 : Int32) (l3 : Int32) (l5 : Int32) (l6 : Int32) : Sm g 7 106 [(0, .ref g.1.2.2.2.2.2), (1, .int l1), (2, .int l2), (3, .int l3), (5, .int l5), (6, .int l6)] [] (R_chosen_J106 kb ke136 l1 l2 l3 l5 l6) := by
  unfold R_chosen_J106
  refine s_iload B.1 4 dX12_chosen_106 rfl ?_
  refine s_iload B.1 5 dX12_chosen_108 rfl ?_
  refine s_icmp_ne B.1 130 dX12_chosen_110 (by decide) ?_ ?_
  · refine s_iinc (v := l3 + 1) (lv' := [(3, .int (l3 + 1)), (0, .ref g.1.2.2.2.2.2), (1, .int l1), (2, .int l2), (5, .int l5), (6, .int l6)]) B.1 3 dX12_chosen_130 rfl rfl (by decide) rfl ?_
    refine s_goto B.1 4 dX12_chosen_133 (by decide) ?_
    exact Sm.lvs [1, 2, 3, 0] rfl (hkb l1 l2 (l3 + 1))
  · refine s_aload_n B.1 0 dX12_chosen_113 rfl rfl ?_
    refine rr_getA B 30 mh_30 mn_30 mf_30 dX12_chosen_114 ?_
    refine s_iload_n B.1 3 dX12_chosen_117 rfl rfl ?_
    refine rr_iald B 30 mh_30 mk_30 dX12_chosen_118 (fun v1 => ?_)
    refine s_aload_n B.1 0 dX12_chosen_119 rfl rfl ?_
    refine rr_getA B 30 mh_30 mn_30 mf_30 dX12_chosen_120 ?_
    refine s_iload_n B.1 2 dX12_chosen_123 rfl rfl ?_
    refine rr_iald B 30 mh_30 mk_30 dX12_chosen_124 (fun v2 => ?_)
    refine s_icmp_ge B.1 130 dX12_chosen_125 (by decide) ?_ ?_
    · refine s_iinc (v := l3 + 1) (lv' := [(3, .int (l3 + 1)), (0, .ref g.1.2.2.2.2.2), (1, .int l1), (2, .int l2), (5, .int l5), (6, .int l6)]) B.1 3 dX12_chosen_130 rfl rfl (by decide) rfl ?_
      refine s_goto B.1 4 dX12_chosen_133 (by decide) ?_
      exact Sm.lvs [1, 2, 3, 0] rfl (hkb l1 l2 (l3 + 1))
    · exact Sm.lvs [0, 1, 3] rfl (sm_chosen_J128 B hkb hke136 l1 l3)
def R_chosen_J90 (kb : Int32 → Int32 → Int32 → RS → Option (Int32 × RS)) (ke136 : Int32 → RS → Option (Int32 × RS)) (l1 : Int32) (l2 : Int32) (l3 : Int32) (l5 : Int32) (s0 : Int32) : RS → Option (Int32 × RS) :=
  if l2 < 0 then (
    R_chosen_J128 kb ke136 l1 l3
  ) else (
    if l5 = 0 then (
      R_chosen_J106 kb ke136 l1 l2 l3 l5 s0
    ) else (
      if s0 = 0 then (
        R_chosen_J128 kb ke136 l1 l3
      ) else (
        R_chosen_J106 kb ke136 l1 l2 l3 l5 s0
      )
    )
  )
set_option maxRecDepth 10000 in
theorem sm_chosen_J90 {g : Gm RS Int32} {kb : Int32 → Int32 → Int32 → RS → Option (Int32 × RS)} {ke136 : Int32 → RS → Option (Int32 × RS)} (B : Br g cX12_chosen 7 voI (some .int) 1 24) (hkb : ∀ (l1 : Int32) (l2 : Int32) (l3 : Int32), Sm g 7 4 [(0, .ref g.1.2.2.2.2.2), (1, .int l1), (2, .int l2), (3, .int l3)] [] (kb l1 l2 l3)) (hke136 : ∀ (l2 : Int32), Sm g 7 136 [(2, .int l2)] [] (ke136 l2)) (l1 : Int32) (l2 : Int32) (l3 : Int32) (l5 : Int32) (s0 : Int32) : Sm g 7 90 [(0, .ref g.1.2.2.2.2.2), (1, .int l1), (2, .int l2), (3, .int l3), (5, .int l5)] [.int s0] (R_chosen_J90 kb ke136 l1 l2 l3 l5 s0) := by
  unfold R_chosen_J90
  refine s_istore (lv' := [(6, .int s0), (0, .ref g.1.2.2.2.2.2), (1, .int l1), (2, .int l2), (3, .int l3), (5, .int l5)]) B.1 dX12_chosen_90 (by decide) rfl ?_
  refine s_iload_n B.1 3 dX12_chosen_92 rfl rfl ?_
  refine s_if_lt B.1 128 dX12_chosen_93 (by decide) ?_ ?_
  · exact Sm.lvs [1, 2, 4] rfl (sm_chosen_J128 B hkb hke136 l1 l3)
  · refine s_iload B.1 5 dX12_chosen_96 rfl ?_
    refine s_if_eq B.1 106 dX12_chosen_98 (by decide) ?_ ?_
    · exact Sm.lvs [1, 2, 3, 4, 5, 0] rfl (sm_chosen_J106 B hkb hke136 l1 l2 l3 l5 s0)
    · refine s_iload B.1 0 dX12_chosen_101 rfl ?_
      refine s_if_eq B.1 128 dX12_chosen_103 (by decide) ?_ ?_
      · exact Sm.lvs [1, 2, 4] rfl (sm_chosen_J128 B hkb hke136 l1 l3)
      · exact Sm.lvs [1, 2, 3, 4, 5, 0] rfl (sm_chosen_J106 B hkb hke136 l1 l2 l3 l5 s0)
def R_chosen_J89 (kb : Int32 → Int32 → Int32 → RS → Option (Int32 × RS)) (ke136 : Int32 → RS → Option (Int32 × RS)) (l1 : Int32) (l2 : Int32) (l3 : Int32) (l5 : Int32) : RS → Option (Int32 × RS) :=
  R_chosen_J90 kb ke136 l1 l2 l3 l5 (0 : Int32)
set_option maxRecDepth 10000 in
theorem sm_chosen_J89 {g : Gm RS Int32} {kb : Int32 → Int32 → Int32 → RS → Option (Int32 × RS)} {ke136 : Int32 → RS → Option (Int32 × RS)} (B : Br g cX12_chosen 7 voI (some .int) 1 24) (hkb : ∀ (l1 : Int32) (l2 : Int32) (l3 : Int32), Sm g 7 4 [(0, .ref g.1.2.2.2.2.2), (1, .int l1), (2, .int l2), (3, .int l3)] [] (kb l1 l2 l3)) (hke136 : ∀ (l2 : Int32), Sm g 7 136 [(2, .int l2)] [] (ke136 l2)) (l1 : Int32) (l2 : Int32) (l3 : Int32) (l5 : Int32) : Sm g 7 89 [(0, .ref g.1.2.2.2.2.2), (1, .int l1), (2, .int l2), (3, .int l3), (5, .int l5)] [] (R_chosen_J89 kb ke136 l1 l2 l3 l5) := by
  unfold R_chosen_J89
  refine s_iconst (v := 0) B.1 dX12_chosen_89 (by decide) ?_
  exact Sm.lvs [0, 1, 2, 3, 4] rfl (sm_chosen_J90 B hkb hke136 l1 l2 l3 l5 (0 : Int32))
def R_chosen_J67 (kb : Int32 → Int32 → Int32 → RS → Option (Int32 × RS)) (ke136 : Int32 → RS → Option (Int32 × RS)) (l1 : Int32) (l2 : Int32) (l3 : Int32) (s0 : Int32) : RS → Option (Int32 × RS) :=
  if l2 < 0 then (
    R_chosen_J89 kb ke136 l1 l2 l3 s0
  ) else (
    rA 15 (l2 / (8 : Int32)) fun v3 =>
    if v3 < 0 then (
      R_chosen_J89 kb ke136 l1 l2 l3 s0
    ) else (
      R_chosen_J90 kb ke136 l1 l2 l3 s0 (1 : Int32)
    )
  )
set_option maxRecDepth 10000 in
theorem sm_chosen_J67 {g : Gm RS Int32} {kb : Int32 → Int32 → Int32 → RS → Option (Int32 × RS)} {ke136 : Int32 → RS → Option (Int32 × RS)} (B : Br g cX12_chosen 7 voI (some .int) 1 24) (hkb : ∀ (l1 : Int32) (l2 : Int32) (l3 : Int32), Sm g 7 4 [(0, .ref g.1.2.2.2.2.2), (1, .int l1), (2, .int l2), (3, .int l3)] [] (kb l1 l2 l3)) (hke136 : ∀ (l2 : Int32), Sm g 7 136 [(2, .int l2)] [] (ke136 l2)) (l1 : Int32) (l2 : Int32) (l3 : Int32) (s0 : Int32) : Sm g 7 67 [(0, .ref g.1.2.2.2.2.2), (1, .int l1), (2, .int l2), (3, .int l3)] [.int s0] (R_chosen_J67 kb ke136 l1 l2 l3 s0) := by
  unfold R_chosen_J67
  refine s_istore (lv' := [(5, .int s0), (0, .ref g.1.2.2.2.2.2), (1, .int l1), (2, .int l2), (3, .int l3)]) B.1 dX12_chosen_67 (by decide) rfl ?_
  refine s_iload_n B.1 3 dX12_chosen_69 rfl rfl ?_
  refine s_if_lt B.1 89 dX12_chosen_70 (by decide) ?_ ?_
  · exact Sm.lvs [1, 2, 3, 4, 0] rfl (sm_chosen_J89 B hkb hke136 l1 l2 l3 s0)
  · refine s_aload_n B.1 1 dX12_chosen_73 rfl rfl ?_
    refine rr_getA B 15 mh_15 mn_15 mf_15 dX12_chosen_74 ?_
    refine s_iload_n B.1 3 dX12_chosen_77 rfl rfl ?_
    refine s_bipush (v := (8)) B.1 dX12_chosen_78 (by decide) ?_
    refine s_idiv B.1 dX12_chosen_80 (by decide) ?_
    refine rr_iald B 15 mh_15 mk_15 dX12_chosen_81 (fun v3 => ?_)
    refine s_if_lt B.1 89 dX12_chosen_82 (by decide) ?_ ?_
    · exact Sm.lvs [1, 2, 3, 4, 0] rfl (sm_chosen_J89 B hkb hke136 l1 l2 l3 s0)
    · refine s_iconst (v := 1) B.1 dX12_chosen_85 (by decide) ?_
      refine s_goto B.1 90 dX12_chosen_86 (by decide) ?_
      exact Sm.lvs [1, 2, 3, 4, 0] rfl (sm_chosen_J90 B hkb hke136 l1 l2 l3 s0 (1 : Int32))
def R_chosen_B4 (kb : Int32 → Int32 → Int32 → RS → Option (Int32 × RS)) (ke136 : Int32 → RS → Option (Int32 × RS)) (l1 : Int32) (l2 : Int32) (l3 : Int32) : RS → Option (Int32 × RS) :=
  if (96 : Int32) ≤ l3 then (
    ke136 l2
  ) else (
    lq (l3 / (8 : Int32)) fun x4 =>
    rA 11 x4 fun v5 =>
    if v5 = 0 then (
      kb l1 l2 (l3 + 1)
    ) else (
      rA 24 x4 fun v6 =>
      if v6 ≤ (l3 - l3 / (8 : Int32) * (8 : Int32)) then (
        kb l1 l2 (l3 + 1)
      ) else (
        bd (R_sameFilter l1 l3) fun r7 =>
        if r7 = 0 then (
          kb l1 l2 (l3 + 1)
        ) else (
          rA 15 x4 fun v8 =>
          if v8 < 0 then (
            R_chosen_J67 kb ke136 l1 l2 l3 (0 : Int32)
          ) else (
            R_chosen_J67 kb ke136 l1 l2 l3 (1 : Int32)
          )
        )
      )
    )
  )
def R_chosen_L4 (ke136 : Int32 → RS → Option (Int32 × RS)) : Nat → Int32 → Int32 → Int32 → RS → Option (Int32 × RS)
  | 0, _, _, _ => no
  | n + 1, l1, l2, l3 => R_chosen_B4 (fun l1 l2 l3 => R_chosen_L4 ke136 n l1 l2 l3) ke136 l1 l2 l3
set_option maxRecDepth 10000 in
theorem sm_chosen_B4 {g : Gm RS Int32} {kb : Int32 → Int32 → Int32 → RS → Option (Int32 × RS)} {ke136 : Int32 → RS → Option (Int32 × RS)} (B : Br g cX12_chosen 7 voI (some .int) 1 24) (hkb : ∀ (l1 : Int32) (l2 : Int32) (l3 : Int32), Sm g 7 4 [(0, .ref g.1.2.2.2.2.2), (1, .int l1), (2, .int l2), (3, .int l3)] [] (kb l1 l2 l3)) (hke136 : ∀ (l2 : Int32), Sm g 7 136 [(2, .int l2)] [] (ke136 l2)) (l1 : Int32) (l2 : Int32) (l3 : Int32) : Sm g 7 4 [(0, .ref g.1.2.2.2.2.2), (1, .int l1), (2, .int l2), (3, .int l3)] [] (R_chosen_B4 kb ke136 l1 l2 l3) := by
  unfold R_chosen_B4
  refine s_iload_n B.1 3 dX12_chosen_4 rfl rfl ?_
  refine s_bipush (v := (96)) B.1 dX12_chosen_5 (by decide) ?_
  refine s_icmp_ge B.1 136 dX12_chosen_7 (by decide) ?_ ?_
  · exact Sm.lvs [2] rfl (hke136 l2)
  · refine s_iload_n B.1 3 dX12_chosen_10 rfl rfl ?_
    refine s_bipush (v := (8)) B.1 dX12_chosen_11 (by decide) ?_
    refine s_idiv B.1 dX12_chosen_13 (by decide) ?_
    refine s_lqi (fun x4 => ?_)
    refine s_istore (lv' := [(4, .int x4), (0, .ref g.1.2.2.2.2.2), (1, .int l1), (2, .int l2), (3, .int l3)]) B.1 dX12_chosen_14 (by decide) rfl ?_
    refine s_aload_n B.1 1 dX12_chosen_16 rfl rfl ?_
    refine rr_getA B 11 mh_11 mn_11 mf_11 dX12_chosen_17 ?_
    refine s_iload B.1 0 dX12_chosen_20 rfl ?_
    refine rr_zald B 11 mh_11 mk_11 dX12_chosen_22 (fun v5 => ?_)
    refine s_if_eq B.1 130 dX12_chosen_23 (by decide) ?_ ?_
    · refine s_iinc (v := l3 + 1) (lv' := [(3, .int (l3 + 1)), (4, .int x4), (0, .ref g.1.2.2.2.2.2), (1, .int l1), (2, .int l2)]) B.1 4 dX12_chosen_130 rfl rfl (by decide) rfl ?_
      refine s_goto B.1 4 dX12_chosen_133 (by decide) ?_
      exact Sm.lvs [2, 3, 4, 0] rfl (hkb l1 l2 (l3 + 1))
    · refine s_iload_n B.1 4 dX12_chosen_26 rfl rfl ?_
      refine s_bipush (v := (8)) B.1 dX12_chosen_27 (by decide) ?_
      refine s_irem B.1 dX12_chosen_29 (by decide) ?_
      refine s_aload_n B.1 1 dX12_chosen_30 rfl rfl ?_
      refine rr_getA B 24 mh_24 mn_24 mf_24 dX12_chosen_31 ?_
      refine s_iload B.1 0 dX12_chosen_34 rfl ?_
      refine rr_iald B 24 mh_24 mk_24 dX12_chosen_36 (fun v6 => ?_)
      refine s_icmp_ge B.1 130 dX12_chosen_37 (by decide) ?_ ?_
      · refine s_iinc (v := l3 + 1) (lv' := [(3, .int (l3 + 1)), (4, .int x4), (0, .ref g.1.2.2.2.2.2), (1, .int l1), (2, .int l2)]) B.1 4 dX12_chosen_130 rfl rfl (by decide) rfl ?_
        refine s_goto B.1 4 dX12_chosen_133 (by decide) ?_
        exact Sm.lvs [2, 3, 4, 0] rfl (hkb l1 l2 (l3 + 1))
      · refine s_aload_n B.1 1 dX12_chosen_40 rfl rfl ?_
        refine s_iload_n B.1 2 dX12_chosen_41 rfl rfl ?_
        refine s_iload_n B.1 4 dX12_chosen_42 rfl rfl ?_
        refine rr_cvi (As := [.int l1, .int l3]) (st := []) B (m_sameFilter B.ok l1 l3) mc_sameFilter ml_sameFilter mi_sameFilter me_sameFilter ini12 md_sameFilter (by decide) rfl (Nat.le_of_ble_eq_true rfl) dX12_chosen_43 (fun r7 => ?_)
        refine s_if_ne B.1 52 dX12_chosen_46 (by decide) ?_ ?_
        · refine s_aload_n B.1 1 dX12_chosen_52 rfl rfl ?_
          refine rr_getA B 15 mh_15 mn_15 mf_15 dX12_chosen_53 ?_
          refine s_iload B.1 0 dX12_chosen_56 rfl ?_
          refine rr_iald B 15 mh_15 mk_15 dX12_chosen_58 (fun v8 => ?_)
          refine s_if_lt B.1 66 dX12_chosen_59 (by decide) ?_ ?_
          · refine s_iconst (v := 0) B.1 dX12_chosen_66 (by decide) ?_
            exact Sm.lvs [1, 2, 3, 4] rfl (sm_chosen_J67 B hkb hke136 l1 l2 l3 (0 : Int32))
          · refine s_iconst (v := 1) B.1 dX12_chosen_62 (by decide) ?_
            refine s_goto B.1 67 dX12_chosen_63 (by decide) ?_
            exact Sm.lvs [1, 2, 3, 4] rfl (sm_chosen_J67 B hkb hke136 l1 l2 l3 (1 : Int32))
        · refine s_goto B.1 130 dX12_chosen_49 (by decide) ?_
          refine s_iinc (v := l3 + 1) (lv' := [(3, .int (l3 + 1)), (4, .int x4), (0, .ref g.1.2.2.2.2.2), (1, .int l1), (2, .int l2)]) B.1 4 dX12_chosen_130 rfl rfl (by decide) rfl ?_
          refine s_goto B.1 4 dX12_chosen_133 (by decide) ?_
          exact Sm.lvs [2, 3, 4, 0] rfl (hkb l1 l2 (l3 + 1))
set_option maxRecDepth 10000 in
theorem sm_chosen_L4 {g : Gm RS Int32} {ke136 : Int32 → RS → Option (Int32 × RS)} (B : Br g cX12_chosen 7 voI (some .int) 1 24) (hke136 : ∀ (l2 : Int32), Sm g 7 136 [(2, .int l2)] [] (ke136 l2)) : ∀ (n : Nat) (l1 : Int32) (l2 : Int32) (l3 : Int32), Sm g 7 4 [(0, .ref g.1.2.2.2.2.2), (1, .int l1), (2, .int l2), (3, .int l3)] [] (R_chosen_L4 ke136 n l1 l2 l3)
  | 0, _, _, _ => Sm.fail
  | n + 1, l1, l2, l3 => sm_chosen_B4 B (sm_chosen_L4 B hke136 n) hke136 l1 l2 l3
def R_chosen (l1 : Int32) : RS → Option (Int32 × RS) :=
  R_chosen_L4 (fun l2 => R_chosen_J136 l2) fu l1 (-1 : Int32) l1
set_option maxRecDepth 10000 in
theorem m_chosen {w : Wd} (hw : Wok w) (l1 : Int32) : MR w yX12_chosen cX12_chosen 7 (some .int) 1 24 voI [.ref w.2.2.2.2.2, .int l1] (R_chosen l1) := by
  refine MR.of hw rfl (Nat.le_of_ble_eq_true rfl) (fun g hg B => ?_)
  subst hg
  unfold R_chosen
  show Sm g 7 0 [(0, .ref g.1.2.2.2.2.2), (1, .int l1)] [] _
  refine s_iconst (v := (-1)) B.1 dX12_chosen_0 (by decide) ?_
  refine s_istore_n (lv' := [(2, .int (-1 : Int32)), (0, .ref g.1.2.2.2.2.2), (1, .int l1)]) B.1 dX12_chosen_1 rfl (by decide) rfl ?_
  refine s_iload_n B.1 2 dX12_chosen_2 rfl rfl ?_
  refine s_istore_n (lv' := [(3, .int l1), (2, .int (-1 : Int32)), (0, .ref g.1.2.2.2.2.2), (1, .int l1)]) B.1 dX12_chosen_3 rfl (by decide) rfl ?_
  exact Sm.lvs [2, 3, 1, 0] rfl (sm_chosen_L4 B (fun l2 => sm_chosen_J136 B l2) fu l1 (-1 : Int32) l1)
def R_gone (l1 : Int32) : RS → Option (Int32 × RS) :=
  rL 50 l1 fun v1 =>
  if (lg_cmp v1 (0 : Int64)) < 0 then (
    zt ((0 : Int32))
  ) else (
    rI 66 fun v2 =>
    rA 51 l1 fun v3 =>
    rL 50 l1 fun v4 =>
    if (lg_cmp ((v2 - v3).toInt64) v4) < 0 then (
      zt ((0 : Int32))
    ) else (
      zt ((1 : Int32))
    )
  )
set_option maxRecDepth 10000 in
theorem m_gone {w : Wd} (hw : Wok w) (l1 : Int32) : MR w yX12_gone cX12_gone 2 (some .boolean) 0 0 voI [.ref w.2.2.2.2.2, .int l1] (R_gone l1) := by
  refine MR.of hw rfl (Nat.le_of_ble_eq_true rfl) (fun g hg B => ?_)
  subst hg
  unfold R_gone
  show Sm g 2 0 [(0, .ref g.1.2.2.2.2.2), (1, .int l1)] [] _
  refine s_aload_n B.1 0 dX12_gone_0 rfl rfl ?_
  refine rr_getA B 50 mh_50 mn_50 mf_50 dX12_gone_1 ?_
  refine s_iload_n B.1 1 dX12_gone_4 rfl rfl ?_
  refine rr_lald B 50 mh_50 mk_50 dX12_gone_5 (fun v1 => ?_)
  refine s_lconst (v := 0) B.1 dX12_gone_6 (by decide) ?_
  refine s_lcmp B.1 dX12_gone_7 ?_
  refine s_if_lt B.1 37 dX12_gone_8 (by decide) ?_ ?_
  · refine s_iconst (v := 0) B.1 dX12_gone_37 (by decide) ?_
    exact s_zret B.1 B.2.1 dX12_gone_38
  · refine s_aload_n B.1 0 dX12_gone_11 rfl rfl ?_
    refine rr_getI B 66 mh_66 mk_66 mf_66 dX12_gone_12 (fun v2 => ?_)
    refine s_aload_n B.1 0 dX12_gone_15 rfl rfl ?_
    refine rr_getA B 51 mh_51 mn_51 mf_51 dX12_gone_16 ?_
    refine s_iload_n B.1 1 dX12_gone_19 rfl rfl ?_
    refine rr_iald B 51 mh_51 mk_51 dX12_gone_20 (fun v3 => ?_)
    refine s_isub B.1 dX12_gone_21 ?_
    refine s_i2l B.1 dX12_gone_22 ?_
    refine s_aload_n B.1 0 dX12_gone_23 rfl rfl ?_
    refine rr_getA B 50 mh_50 mn_50 mf_50 dX12_gone_24 ?_
    refine s_iload_n B.1 1 dX12_gone_27 rfl rfl ?_
    refine rr_lald B 50 mh_50 mk_50 dX12_gone_28 (fun v4 => ?_)
    refine s_lcmp B.1 dX12_gone_29 ?_
    refine s_if_lt B.1 37 dX12_gone_30 (by decide) ?_ ?_
    · refine s_iconst (v := 0) B.1 dX12_gone_37 (by decide) ?_
      exact s_zret B.1 B.2.1 dX12_gone_38
    · refine s_iconst (v := 1) B.1 dX12_gone_33 (by decide) ?_
      refine s_goto B.1 38 dX12_gone_34 (by decide) ?_
      exact s_zret B.1 B.2.1 dX12_gone_38
def R_byteOf (l1 : Int32) : RS → Option (Unit × RS) :=
  rI 91 fun v1 =>
  wI 91 (v1 + (1 : Int32)) <|
  wA 90 v1 (vp_nar .byte l1.toInt8.toInt32) <|
  rt ()
set_option maxRecDepth 10000 in
theorem m_byteOf {w : Wd} (hw : Wok w) (l1 : Int32) : MR w yX12_byteOf cX12_byteOf 2 none 0 0 voV [.ref w.2.2.2.2.2, .int l1] (R_byteOf l1) := by
  refine MR.of hw rfl (Nat.le_of_ble_eq_true rfl) (fun g hg B => ?_)
  subst hg
  unfold R_byteOf
  show Sm g 2 0 [(0, .ref g.1.2.2.2.2.2), (1, .int l1)] [] _
  refine s_aload_n B.1 0 dX12_byteOf_0 rfl rfl ?_
  refine rr_getA B 90 mh_90 mn_90 mf_90 dX12_byteOf_1 ?_
  refine s_aload_n B.1 0 dX12_byteOf_4 rfl rfl ?_
  refine s_dup B.1 dX12_byteOf_5 rfl ?_
  refine rr_getI B 91 mh_91 mk_91 mf_91 dX12_byteOf_6 (fun v1 => ?_)
  refine s_dup_x1 B.1 dX12_byteOf_9 rfl rfl ?_
  refine s_iconst (v := 1) B.1 dX12_byteOf_10 (by decide) ?_
  refine s_iadd B.1 dX12_byteOf_11 ?_
  refine rr_putI B 91 mh_91 mk_91 mf_91 dX12_byteOf_12 ?_
  refine s_iload_n B.1 1 dX12_byteOf_15 rfl rfl ?_
  refine s_i2b B.1 dX12_byteOf_16 ?_
  refine rr_bast B 90 mh_90 mk_90 dX12_byteOf_17 ?_
  exact s_vret B.1 B.2.1 dX12_byteOf_18
def R_part_J51 : RS → Option (Unit × RS) :=
  rt ()
set_option maxRecDepth 10000 in
theorem sm_part_J51 {g : Gm RS Unit} (B : Br g cX12_part 5 voV none 1 21) : Sm g 5 51 [] [] (R_part_J51) := by
  unfold R_part_J51
  exact s_vret B.1 B.2.1 dX12_part_51
def R_part_B26 (kb : Int32 → Int32 → Int32 → RS → Option (Unit × RS)) (ke51 : RS → Option (Unit × RS)) (l2 : Int32) (l3 : Int32) (l4 : Int32) : RS → Option (Unit × RS) :=
  if l3 ≤ l4 then (
    ke51
  ) else (
    rA 45 (l2 + l4) fun v1 =>
    bd (R_byteOf v1) fun r2 =>
    kb l2 l3 (l4 + 1)
  )
def R_part_L26 (ke51 : RS → Option (Unit × RS)) : Nat → Int32 → Int32 → Int32 → RS → Option (Unit × RS)
  | 0, _, _, _ => no
  | n + 1, l2, l3, l4 => R_part_B26 (fun l2 l3 l4 => R_part_L26 ke51 n l2 l3 l4) ke51 l2 l3 l4
set_option maxRecDepth 10000 in
theorem sm_part_B26 {g : Gm RS Unit} {kb : Int32 → Int32 → Int32 → RS → Option (Unit × RS)} {ke51 : RS → Option (Unit × RS)} (B : Br g cX12_part 5 voV none 1 21) (hkb : ∀ (l2 : Int32) (l3 : Int32) (l4 : Int32), Sm g 5 26 [(0, .ref g.1.2.2.2.2.2), (2, .int l2), (3, .int l3), (4, .int l4)] [] (kb l2 l3 l4)) (hke51 : Sm g 5 51 [] [] (ke51)) (l2 : Int32) (l3 : Int32) (l4 : Int32) : Sm g 5 26 [(0, .ref g.1.2.2.2.2.2), (2, .int l2), (3, .int l3), (4, .int l4)] [] (R_part_B26 kb ke51 l2 l3 l4) := by
  unfold R_part_B26
  refine s_iload B.1 3 dX12_part_26 rfl ?_
  refine s_iload_n B.1 2 dX12_part_28 rfl rfl ?_
  refine s_icmp_ge B.1 51 dX12_part_29 (by decide) ?_ ?_
  · exact Sm.lvs [] rfl (hke51)
  · refine s_aload_n B.1 0 dX12_part_32 rfl rfl ?_
    refine s_aload_n B.1 0 dX12_part_33 rfl rfl ?_
    refine rr_getA B 45 mh_45 mn_45 mf_45 dX12_part_34 ?_
    refine s_iload_n B.1 1 dX12_part_37 rfl rfl ?_
    refine s_iload B.1 3 dX12_part_38 rfl ?_
    refine s_iadd B.1 dX12_part_40 ?_
    refine rr_bald B 45 mh_45 mk_45 dX12_part_41 (fun v1 => ?_)
    refine rr_cvv (As := [.int v1]) (st := []) B (m_byteOf B.ok v1) mc_byteOf ml_byteOf mi_byteOf me_byteOf ini12 md_byteOf (by decide) rfl (Nat.le_of_ble_eq_true rfl) dX12_part_42 (fun r2 => ?_)
    refine s_iinc (v := l4 + 1) (lv' := [(4, .int (l4 + 1)), (0, .ref g.1.2.2.2.2.2), (2, .int l2), (3, .int l3)]) B.1 3 dX12_part_45 rfl rfl (by decide) rfl ?_
    refine s_goto B.1 26 dX12_part_48 (by decide) ?_
    exact Sm.lvs [1, 2, 3, 0] rfl (hkb l2 l3 (l4 + 1))
set_option maxRecDepth 10000 in
theorem sm_part_L26 {g : Gm RS Unit} {ke51 : RS → Option (Unit × RS)} (B : Br g cX12_part 5 voV none 1 21) (hke51 : Sm g 5 51 [] [] (ke51)) : ∀ (n : Nat) (l2 : Int32) (l3 : Int32) (l4 : Int32), Sm g 5 26 [(0, .ref g.1.2.2.2.2.2), (2, .int l2), (3, .int l3), (4, .int l4)] [] (R_part_L26 ke51 n l2 l3 l4)
  | 0, _, _, _ => Sm.fail
  | n + 1, l2, l3, l4 => sm_part_B26 B (sm_part_L26 B hke51 n) hke51 l2 l3 l4
def R_part (l1 : Int32) (l2 : Int32) (l3 : Int32) : RS → Option (Unit × RS) :=
  if 0 ≤ l3 then (
    bd (R_byteOf l1) fun r3 =>
    bd (R_byteOf (l3 >>> ((8 : Int32) &&& 31))) fun r4 =>
    bd (R_byteOf l3) fun r5 =>
    R_part_L26 (R_part_J51) fu l2 l3 (0 : Int32)
  ) else (
    rt ()
  )
set_option maxRecDepth 10000 in
theorem m_part {w : Wd} (hw : Wok w) (l1 : Int32) (l2 : Int32) (l3 : Int32) : MR w yX12_part cX12_part 5 none 1 21 voV [.ref w.2.2.2.2.2, .int l1, .int l2, .int l3] (R_part l1 l2 l3) := by
  refine MR.of hw rfl (Nat.le_of_ble_eq_true rfl) (fun g hg B => ?_)
  subst hg
  unfold R_part
  show Sm g 5 0 [(0, .ref g.1.2.2.2.2.2), (1, .int l1), (2, .int l2), (3, .int l3)] [] _
  refine s_iload_n B.1 3 dX12_part_0 rfl rfl ?_
  refine s_if_ge B.1 5 dX12_part_1 (by decide) ?_ ?_
  · refine s_aload_n B.1 0 dX12_part_5 rfl rfl ?_
    refine s_iload_n B.1 1 dX12_part_6 rfl rfl ?_
    refine rr_cvv (As := [.int l1]) (st := []) B (m_byteOf B.ok l1) mc_byteOf ml_byteOf mi_byteOf me_byteOf ini12 md_byteOf (by decide) rfl (Nat.le_of_ble_eq_true rfl) dX12_part_7 (fun r3 => ?_)
    refine s_aload_n B.1 0 dX12_part_10 rfl rfl ?_
    refine s_iload_n B.1 3 dX12_part_11 rfl rfl ?_
    refine s_bipush (v := (8)) B.1 dX12_part_12 (by decide) ?_
    refine s_ishr B.1 dX12_part_14 ?_
    refine rr_cvv (As := [.int (l3 >>> ((8 : Int32) &&& 31))]) (st := []) B (m_byteOf B.ok (l3 >>> ((8 : Int32) &&& 31))) mc_byteOf ml_byteOf mi_byteOf me_byteOf ini12 md_byteOf (by decide) rfl (Nat.le_of_ble_eq_true rfl) dX12_part_15 (fun r4 => ?_)
    refine s_aload_n B.1 0 dX12_part_18 rfl rfl ?_
    refine s_iload_n B.1 3 dX12_part_19 rfl rfl ?_
    refine rr_cvv (As := [.int l3]) (st := []) B (m_byteOf B.ok l3) mc_byteOf ml_byteOf mi_byteOf me_byteOf ini12 md_byteOf (by decide) rfl (Nat.le_of_ble_eq_true rfl) dX12_part_20 (fun r5 => ?_)
    refine s_iconst (v := 0) B.1 dX12_part_23 (by decide) ?_
    refine s_istore (lv' := [(4, .int (0 : Int32)), (0, .ref g.1.2.2.2.2.2), (1, .int l1), (2, .int l2), (3, .int l3)]) B.1 dX12_part_24 (by decide) rfl ?_
    exact Sm.lvs [1, 3, 4, 0] rfl (sm_part_L26 B (sm_part_J51 B) fu l2 l3 (0 : Int32))
  · exact s_vret B.1 B.2.1 dX12_part_4
def R_variableOf_J32 (l3 : Int64) : RS → Option (Unit × RS) :=
  bd (R_byteOf l3.toInt32) fun r1 =>
  rt ()
set_option maxRecDepth 10000 in
theorem sm_variableOf_J32 {g : Gm RS Unit} (B : Br g cX12_variableOf 5 voV none 1 21) (l3 : Int64) : Sm g 5 32 [(0, .ref g.1.2.2.2.2.2), (3, .long l3)] [] (R_variableOf_J32 l3) := by
  unfold R_variableOf_J32
  refine s_aload_n B.1 0 dX12_variableOf_32 rfl rfl ?_
  refine s_lload_n B.1 1 dX12_variableOf_33 rfl rfl ?_
  refine s_l2i B.1 dX12_variableOf_34 ?_
  refine rr_cvv (As := [.int l3.toInt32]) (st := []) B (m_byteOf B.ok l3.toInt32) mc_byteOf ml_byteOf mi_byteOf me_byteOf ini12 md_byteOf (by decide) rfl (Nat.le_of_ble_eq_true rfl) dX12_variableOf_35 (fun r1 => ?_)
  exact s_vret B.1 B.2.1 dX12_variableOf_38
def R_variableOf_B2 (kb : Int64 → RS → Option (Unit × RS)) (ke32 : Int64 → RS → Option (Unit × RS)) (l3 : Int64) : RS → Option (Unit × RS) :=
  if (lg_cmp l3 (127 : Int64)) ≤ 0 then (
    ke32 l3
  ) else (
    bd (R_byteOf (((l3 &&& (127 : Int64)).toInt32) ||| (128 : Int32))) fun r2 =>
    lq (lshr6 l3 (7 : Int32)) fun x3 =>
    kb x3
  )
def R_variableOf_L2 (ke32 : Int64 → RS → Option (Unit × RS)) : Nat → Int64 → RS → Option (Unit × RS)
  | 0, _ => no
  | n + 1, l3 => R_variableOf_B2 (fun l3 => R_variableOf_L2 ke32 n l3) ke32 l3
set_option maxRecDepth 10000 in
theorem sm_variableOf_B2 {g : Gm RS Unit} {kb : Int64 → RS → Option (Unit × RS)} {ke32 : Int64 → RS → Option (Unit × RS)} (B : Br g cX12_variableOf 5 voV none 1 21) (hkb : ∀ (l3 : Int64), Sm g 5 2 [(0, .ref g.1.2.2.2.2.2), (3, .long l3)] [] (kb l3)) (hke32 : ∀ (l3 : Int64), Sm g 5 32 [(0, .ref g.1.2.2.2.2.2), (3, .long l3)] [] (ke32 l3)) (l3 : Int64) : Sm g 5 2 [(0, .ref g.1.2.2.2.2.2), (3, .long l3)] [] (R_variableOf_B2 kb ke32 l3) := by
  unfold R_variableOf_B2
  refine s_lload_n B.1 1 dX12_variableOf_2 rfl rfl ?_
  refine s_ldc2 (v := (127)) B.1 tw_1992 dX12_variableOf_3 ?_
  refine s_lcmp B.1 dX12_variableOf_6 ?_
  refine s_if_le B.1 32 dX12_variableOf_7 (by decide) ?_ ?_
  · exact Sm.lvs [0, 1] rfl (hke32 l3)
  · refine s_aload_n B.1 0 dX12_variableOf_10 rfl rfl ?_
    refine s_lload_n B.1 1 dX12_variableOf_11 rfl rfl ?_
    refine s_ldc2 (v := (127)) B.1 tw_1992 dX12_variableOf_12 ?_
    refine s_land B.1 dX12_variableOf_15 ?_
    refine s_l2i B.1 dX12_variableOf_16 ?_
    refine s_sipush (v := (128)) B.1 dX12_variableOf_17 (by decide) ?_
    refine s_ior B.1 dX12_variableOf_20 ?_
    refine rr_cvv (As := [.int (((l3 &&& (127 : Int64)).toInt32) ||| (128 : Int32))]) (st := []) B (m_byteOf B.ok (((l3 &&& (127 : Int64)).toInt32) ||| (128 : Int32))) mc_byteOf ml_byteOf mi_byteOf me_byteOf ini12 md_byteOf (by decide) rfl (Nat.le_of_ble_eq_true rfl) dX12_variableOf_21 (fun r2 => ?_)
    refine s_lload_n B.1 1 dX12_variableOf_24 rfl rfl ?_
    refine s_bipush (v := (7)) B.1 dX12_variableOf_25 (by decide) ?_
    refine s_lshr B.1 dX12_variableOf_27 ?_
    refine s_lql (fun x3 => ?_)
    refine s_lstore_n (lv' := [(3, .long x3), (0, .ref g.1.2.2.2.2.2)]) B.1 dX12_variableOf_28 rfl (by decide) rfl ?_
    refine s_goto B.1 2 dX12_variableOf_29 (by decide) ?_
    exact Sm.lvs [1, 0] rfl (hkb x3)
set_option maxRecDepth 10000 in
theorem sm_variableOf_L2 {g : Gm RS Unit} {ke32 : Int64 → RS → Option (Unit × RS)} (B : Br g cX12_variableOf 5 voV none 1 21) (hke32 : ∀ (l3 : Int64), Sm g 5 32 [(0, .ref g.1.2.2.2.2.2), (3, .long l3)] [] (ke32 l3)) : ∀ (n : Nat) (l3 : Int64), Sm g 5 2 [(0, .ref g.1.2.2.2.2.2), (3, .long l3)] [] (R_variableOf_L2 ke32 n l3)
  | 0, _ => Sm.fail
  | n + 1, l3 => sm_variableOf_B2 B (sm_variableOf_L2 B hke32 n) hke32 l3
def R_variableOf (l1 : Int64) : RS → Option (Unit × RS) :=
  R_variableOf_L2 (fun l3 => R_variableOf_J32 l3) fu l1
set_option maxRecDepth 10000 in
theorem m_variableOf {w : Wd} (hw : Wok w) (l1 : Int64) : MR w yX12_variableOf cX12_variableOf 5 none 1 21 voV [.ref w.2.2.2.2.2, .long l1] (R_variableOf l1) := by
  refine MR.of hw rfl (Nat.le_of_ble_eq_true rfl) (fun g hg B => ?_)
  subst hg
  unfold R_variableOf
  show Sm g 5 0 [(0, .ref g.1.2.2.2.2.2), (1, .long l1)] [] _
  refine s_lload_n B.1 1 dX12_variableOf_0 rfl rfl ?_
  refine s_lstore_n (lv' := [(3, .long l1), (0, .ref g.1.2.2.2.2.2), (1, .long l1)]) B.1 dX12_variableOf_1 rfl (by decide) rfl ?_
  exact Sm.lvs [1, 0] rfl (sm_variableOf_L2 B (fun l3 => sm_variableOf_J32 B l3) fu l1)
def R_wrap_J84 : RS → Option (Unit × RS) :=
  rt ()
set_option maxRecDepth 10000 in
theorem sm_wrap_J84 {g : Gm RS Unit} (B : Br g cX12_wrap 4 voV none 1 21) : Sm g 4 84 [] [] (R_wrap_J84) := by
  unfold R_wrap_J84
  exact s_vret B.1 B.2.1 dX12_wrap_84
def R_wrap_B48 (kb : Int32 → RS → Option (Unit × RS)) (ke84 : RS → Option (Unit × RS)) (l3 : Int32) : RS → Option (Unit × RS) :=
  rI 91 fun v1 =>
  if v1 ≤ l3 then (
    ke84
  ) else (
    rI 89 fun v2 =>
    wI 89 (v2 + (1 : Int32)) <|
    rA 90 l3 fun v3 =>
    wA 88 v2 (vp_nar .byte v3) <|
    kb (l3 + 1)
  )
def R_wrap_L48 (ke84 : RS → Option (Unit × RS)) : Nat → Int32 → RS → Option (Unit × RS)
  | 0, _ => no
  | n + 1, l3 => R_wrap_B48 (fun l3 => R_wrap_L48 ke84 n l3) ke84 l3
set_option maxRecDepth 10000 in
theorem sm_wrap_B48 {g : Gm RS Unit} {kb : Int32 → RS → Option (Unit × RS)} {ke84 : RS → Option (Unit × RS)} (B : Br g cX12_wrap 4 voV none 1 21) (hkb : ∀ (l3 : Int32), Sm g 4 48 [(0, .ref g.1.2.2.2.2.2), (3, .int l3)] [] (kb l3)) (hke84 : Sm g 4 84 [] [] (ke84)) (l3 : Int32) : Sm g 4 48 [(0, .ref g.1.2.2.2.2.2), (3, .int l3)] [] (R_wrap_B48 kb ke84 l3) := by
  unfold R_wrap_B48
  refine s_iload_n B.1 1 dX12_wrap_48 rfl rfl ?_
  refine s_aload_n B.1 0 dX12_wrap_49 rfl rfl ?_
  refine rr_getI B 91 mh_91 mk_91 mf_91 dX12_wrap_50 (fun v1 => ?_)
  refine s_icmp_ge B.1 84 dX12_wrap_53 (by decide) ?_ ?_
  · exact Sm.lvs [] rfl (hke84)
  · refine s_aload_n B.1 0 dX12_wrap_56 rfl rfl ?_
    refine rr_getA B 88 mh_88 mn_88 mf_88 dX12_wrap_57 ?_
    refine s_aload_n B.1 0 dX12_wrap_60 rfl rfl ?_
    refine s_dup B.1 dX12_wrap_61 rfl ?_
    refine rr_getI B 89 mh_89 mk_89 mf_89 dX12_wrap_62 (fun v2 => ?_)
    refine s_dup_x1 B.1 dX12_wrap_65 rfl rfl ?_
    refine s_iconst (v := 1) B.1 dX12_wrap_66 (by decide) ?_
    refine s_iadd B.1 dX12_wrap_67 ?_
    refine rr_putI B 89 mh_89 mk_89 mf_89 dX12_wrap_68 ?_
    refine s_aload_n B.1 0 dX12_wrap_71 rfl rfl ?_
    refine rr_getA B 90 mh_90 mn_90 mf_90 dX12_wrap_72 ?_
    refine s_iload_n B.1 1 dX12_wrap_75 rfl rfl ?_
    refine rr_bald B 90 mh_90 mk_90 dX12_wrap_76 (fun v3 => ?_)
    refine rr_bast B 88 mh_88 mk_88 dX12_wrap_77 ?_
    refine s_iinc (v := l3 + 1) (lv' := [(3, .int (l3 + 1)), (0, .ref g.1.2.2.2.2.2)]) B.1 1 dX12_wrap_78 rfl rfl (by decide) rfl ?_
    refine s_goto B.1 48 dX12_wrap_81 (by decide) ?_
    exact Sm.lvs [1, 0] rfl (hkb (l3 + 1))
set_option maxRecDepth 10000 in
theorem sm_wrap_L48 {g : Gm RS Unit} {ke84 : RS → Option (Unit × RS)} (B : Br g cX12_wrap 4 voV none 1 21) (hke84 : Sm g 4 84 [] [] (ke84)) : ∀ (n : Nat) (l3 : Int32), Sm g 4 48 [(0, .ref g.1.2.2.2.2.2), (3, .int l3)] [] (R_wrap_L48 ke84 n l3)
  | 0, _ => Sm.fail
  | n + 1, l3 => sm_wrap_B48 B (sm_wrap_L48 B hke84 n) hke84 l3
def R_wrap_J41 (l2 : Int32) : RS → Option (Unit × RS) :=
  bd (R_put l2) fun r4 =>
  R_wrap_L48 (R_wrap_J84) fu (0 : Int32)
set_option maxRecDepth 10000 in
theorem sm_wrap_J41 {g : Gm RS Unit} (B : Br g cX12_wrap 4 voV none 1 21) (l2 : Int32) : Sm g 4 41 [(0, .ref g.1.2.2.2.2.2), (2, .int l2)] [] (R_wrap_J41 l2) := by
  unfold R_wrap_J41
  refine s_aload_n B.1 0 dX12_wrap_41 rfl rfl ?_
  refine s_iload_n B.1 1 dX12_wrap_42 rfl rfl ?_
  refine rr_cvv (As := [.int l2]) (st := []) B (m_put B.ok l2) mc_put ml_put mi_put me_put ini12 md_put (by decide) rfl (Nat.le_of_ble_eq_true rfl) dX12_wrap_43 (fun r4 => ?_)
  refine s_iconst (v := 0) B.1 dX12_wrap_46 (by decide) ?_
  refine s_istore_n (lv' := [(3, .int (0 : Int32)), (0, .ref g.1.2.2.2.2.2), (2, .int l2)]) B.1 dX12_wrap_47 rfl (by decide) rfl ?_
  exact Sm.lvs [1, 0] rfl (sm_wrap_L48 B (sm_wrap_J84 B) fu (0 : Int32))
def R_wrap_B15 (kb : Int32 → RS → Option (Unit × RS)) (ke41 : Int32 → RS → Option (Unit × RS)) (l2 : Int32) : RS → Option (Unit × RS) :=
  if l2 ≤ (127 : Int32) then (
    ke41 l2
  ) else (
    bd (R_put ((l2 &&& (127 : Int32)) ||| (128 : Int32))) fun r5 =>
    lq (l2 >>> ((7 : Int32) &&& 31)) fun x6 =>
    kb x6
  )
def R_wrap_L15 (ke41 : Int32 → RS → Option (Unit × RS)) : Nat → Int32 → RS → Option (Unit × RS)
  | 0, _ => no
  | n + 1, l2 => R_wrap_B15 (fun l2 => R_wrap_L15 ke41 n l2) ke41 l2
set_option maxRecDepth 10000 in
theorem sm_wrap_B15 {g : Gm RS Unit} {kb : Int32 → RS → Option (Unit × RS)} {ke41 : Int32 → RS → Option (Unit × RS)} (B : Br g cX12_wrap 4 voV none 1 21) (hkb : ∀ (l2 : Int32), Sm g 4 15 [(0, .ref g.1.2.2.2.2.2), (2, .int l2)] [] (kb l2)) (hke41 : ∀ (l2 : Int32), Sm g 4 41 [(0, .ref g.1.2.2.2.2.2), (2, .int l2)] [] (ke41 l2)) (l2 : Int32) : Sm g 4 15 [(0, .ref g.1.2.2.2.2.2), (2, .int l2)] [] (R_wrap_B15 kb ke41 l2) := by
  unfold R_wrap_B15
  refine s_iload_n B.1 1 dX12_wrap_15 rfl rfl ?_
  refine s_bipush (v := (127)) B.1 dX12_wrap_16 (by decide) ?_
  refine s_icmp_le B.1 41 dX12_wrap_18 (by decide) ?_ ?_
  · exact Sm.lvs [0, 1] rfl (hke41 l2)
  · refine s_aload_n B.1 0 dX12_wrap_21 rfl rfl ?_
    refine s_iload_n B.1 1 dX12_wrap_22 rfl rfl ?_
    refine s_bipush (v := (127)) B.1 dX12_wrap_23 (by decide) ?_
    refine s_iand B.1 dX12_wrap_25 ?_
    refine s_sipush (v := (128)) B.1 dX12_wrap_26 (by decide) ?_
    refine s_ior B.1 dX12_wrap_29 ?_
    refine rr_cvv (As := [.int ((l2 &&& (127 : Int32)) ||| (128 : Int32))]) (st := []) B (m_put B.ok ((l2 &&& (127 : Int32)) ||| (128 : Int32))) mc_put ml_put mi_put me_put ini12 md_put (by decide) rfl (Nat.le_of_ble_eq_true rfl) dX12_wrap_30 (fun r5 => ?_)
    refine s_iload_n B.1 1 dX12_wrap_33 rfl rfl ?_
    refine s_bipush (v := (7)) B.1 dX12_wrap_34 (by decide) ?_
    refine s_ishr B.1 dX12_wrap_36 ?_
    refine s_lqi (fun x6 => ?_)
    refine s_istore_n (lv' := [(2, .int x6), (0, .ref g.1.2.2.2.2.2)]) B.1 dX12_wrap_37 rfl (by decide) rfl ?_
    refine s_goto B.1 15 dX12_wrap_38 (by decide) ?_
    exact Sm.lvs [1, 0] rfl (hkb x6)
set_option maxRecDepth 10000 in
theorem sm_wrap_L15 {g : Gm RS Unit} {ke41 : Int32 → RS → Option (Unit × RS)} (B : Br g cX12_wrap 4 voV none 1 21) (hke41 : ∀ (l2 : Int32), Sm g 4 41 [(0, .ref g.1.2.2.2.2.2), (2, .int l2)] [] (ke41 l2)) : ∀ (n : Nat) (l2 : Int32), Sm g 4 15 [(0, .ref g.1.2.2.2.2.2), (2, .int l2)] [] (R_wrap_L15 ke41 n l2)
  | 0, _ => Sm.fail
  | n + 1, l2 => sm_wrap_B15 B (sm_wrap_L15 B hke41 n) hke41 l2
def R_wrap (l1 : Int32) : RS → Option (Unit × RS) :=
  wI 89 ((0 : Int32)) <|
  bd (R_put l1) fun r7 =>
  rI 91 fun v8 =>
  R_wrap_L15 (fun l2 => R_wrap_J41 l2) fu v8
set_option maxRecDepth 10000 in
theorem m_wrap {w : Wd} (hw : Wok w) (l1 : Int32) : MR w yX12_wrap cX12_wrap 4 none 1 21 voV [.ref w.2.2.2.2.2, .int l1] (R_wrap l1) := by
  refine MR.of hw rfl (Nat.le_of_ble_eq_true rfl) (fun g hg B => ?_)
  subst hg
  unfold R_wrap
  show Sm g 4 0 [(0, .ref g.1.2.2.2.2.2), (1, .int l1)] [] _
  refine s_aload_n B.1 0 dX12_wrap_0 rfl rfl ?_
  refine s_iconst (v := 0) B.1 dX12_wrap_1 (by decide) ?_
  refine rr_putI B 89 mh_89 mk_89 mf_89 dX12_wrap_2 ?_
  refine s_aload_n B.1 0 dX12_wrap_5 rfl rfl ?_
  refine s_iload_n B.1 1 dX12_wrap_6 rfl rfl ?_
  refine rr_cvv (As := [.int l1]) (st := []) B (m_put B.ok l1) mc_put ml_put mi_put me_put ini12 md_put (by decide) rfl (Nat.le_of_ble_eq_true rfl) dX12_wrap_7 (fun r7 => ?_)
  refine s_aload_n B.1 0 dX12_wrap_10 rfl rfl ?_
  refine rr_getI B 91 mh_91 mk_91 mf_91 dX12_wrap_11 (fun v8 => ?_)
  refine s_istore_n (lv' := [(2, .int v8), (0, .ref g.1.2.2.2.2.2), (1, .int l1)]) B.1 dX12_wrap_14 rfl (by decide) rfl ?_
  exact Sm.lvs [1, 0] rfl (sm_wrap_L15 B (fun l2 => sm_wrap_J41 B l2) fu v8)
def R_sendPublish_J485 (l1 : Int32) (l3 : Int32) (l4 : Int32) (l7 : Int32) : RS → Option (Int32 × RS) :=
  bd (R_wrap ((((48 : Int32) ||| ((8 : Int32) * l7)) ||| ((2 : Int32) * l3)) ||| l4)) fun r1 =>
  rI 89 fun v2 =>
  rL 18 l1 fun v3 =>
  if (lg_cmp v2.toInt64 v3) ≤ 0 then (
    rA 15 l1 fun v4 =>
    bd (R_send v4) fun r5 =>
    zt ((1 : Int32))
  ) else (
    rI 70 fun v6 =>
    wI 70 (v6 + (1 : Int32)) <|
    zt ((0 : Int32))
  )
set_option maxRecDepth 10000 in
theorem sm_sendPublish_J485 {g : Gm RS Int32} (B : Br g cX12_sendPublish 13 voI (some .boolean) 2 45) (l1 : Int32) (l3 : Int32) (l4 : Int32) (l7 : Int32) : Sm g 13 485 [(0, .ref g.1.2.2.2.2.2), (1, .int l1), (3, .int l3), (4, .int l4), (7, .int l7)] [] (R_sendPublish_J485 l1 l3 l4 l7) := by
  unfold R_sendPublish_J485
  refine s_aload_n B.1 0 dX12_sendPublish_485 rfl rfl ?_
  refine s_bipush (v := (48)) B.1 dX12_sendPublish_486 (by decide) ?_
  refine s_bipush (v := (8)) B.1 dX12_sendPublish_488 (by decide) ?_
  refine s_iload B.1 4 dX12_sendPublish_490 rfl ?_
  refine s_imul B.1 dX12_sendPublish_492 ?_
  refine s_ior B.1 dX12_sendPublish_493 ?_
  refine s_iconst (v := 2) B.1 dX12_sendPublish_494 (by decide) ?_
  refine s_iload_n B.1 2 dX12_sendPublish_495 rfl rfl ?_
  refine s_imul B.1 dX12_sendPublish_496 ?_
  refine s_ior B.1 dX12_sendPublish_497 ?_
  refine s_iload B.1 3 dX12_sendPublish_498 rfl ?_
  refine s_ior B.1 dX12_sendPublish_500 ?_
  refine rr_cvv (As := [.int ((((48 : Int32) ||| ((8 : Int32) * l7)) ||| ((2 : Int32) * l3)) ||| l4)]) (st := []) B (m_wrap B.ok ((((48 : Int32) ||| ((8 : Int32) * l7)) ||| ((2 : Int32) * l3)) ||| l4)) mc_wrap ml_wrap mi_wrap me_wrap ini12 md_wrap (by decide) rfl (Nat.le_of_ble_eq_true rfl) dX12_sendPublish_501 (fun r1 => ?_)
  refine s_aload_n B.1 0 dX12_sendPublish_504 rfl rfl ?_
  refine rr_getI B 89 mh_89 mk_89 mf_89 dX12_sendPublish_505 (fun v2 => ?_)
  refine s_i2l B.1 dX12_sendPublish_508 ?_
  refine s_aload_n B.1 0 dX12_sendPublish_509 rfl rfl ?_
  refine rr_getA B 18 mh_18 mn_18 mf_18 dX12_sendPublish_510 ?_
  refine s_iload_n B.1 1 dX12_sendPublish_513 rfl rfl ?_
  refine rr_lald B 18 mh_18 mk_18 dX12_sendPublish_514 (fun v3 => ?_)
  refine s_lcmp B.1 dX12_sendPublish_515 ?_
  refine s_if_le B.1 531 dX12_sendPublish_516 (by decide) ?_ ?_
  · refine s_aload_n B.1 0 dX12_sendPublish_531 rfl rfl ?_
    refine s_aload_n B.1 0 dX12_sendPublish_532 rfl rfl ?_
    refine rr_getA B 15 mh_15 mn_15 mf_15 dX12_sendPublish_533 ?_
    refine s_iload_n B.1 1 dX12_sendPublish_536 rfl rfl ?_
    refine rr_iald B 15 mh_15 mk_15 dX12_sendPublish_537 (fun v4 => ?_)
    refine rr_cvv (As := [.int v4]) (st := []) B (m_send B.ok v4) mc_send ml_send mi_send me_send ini12 md_send (by decide) rfl (Nat.le_of_ble_eq_true rfl) dX12_sendPublish_538 (fun r5 => ?_)
    refine s_iconst (v := 1) B.1 dX12_sendPublish_541 (by decide) ?_
    exact s_zret B.1 B.2.1 dX12_sendPublish_542
  · refine s_aload_n B.1 0 dX12_sendPublish_519 rfl rfl ?_
    refine s_dup B.1 dX12_sendPublish_520 rfl ?_
    refine rr_getI B 70 mh_70 mk_70 mf_70 dX12_sendPublish_521 (fun v6 => ?_)
    refine s_iconst (v := 1) B.1 dX12_sendPublish_524 (by decide) ?_
    refine s_iadd B.1 dX12_sendPublish_525 ?_
    refine rr_putI B 70 mh_70 mk_70 mf_70 dX12_sendPublish_526 ?_
    refine s_iconst (v := 0) B.1 dX12_sendPublish_529 (by decide) ?_
    exact s_zret B.1 B.2.1 dX12_sendPublish_530
def R_sendPublish_B450 (kb : Int32 → Int32 → Int32 → Int32 → Int32 → Int32 → RS → Option (Int32 × RS)) (ke485 : Int32 → Int32 → Int32 → Int32 → RS → Option (Int32 × RS)) (l1 : Int32) (l2 : Int32) (l3 : Int32) (l4 : Int32) (l7 : Int32) (l10 : Int32) : RS → Option (Int32 × RS) :=
  rA 48 l2 fun v7 =>
  if v7 ≤ l10 then (
    ke485 l1 l3 l4 l7
  ) else (
    rA 47 l2 fun v8 =>
    rA 45 (v8 + l10) fun v9 =>
    bd (R_byteOf v9) fun r10 =>
    kb l1 l2 l3 l4 l7 (l10 + 1)
  )
def R_sendPublish_L450 (ke485 : Int32 → Int32 → Int32 → Int32 → RS → Option (Int32 × RS)) : Nat → Int32 → Int32 → Int32 → Int32 → Int32 → Int32 → RS → Option (Int32 × RS)
  | 0, _, _, _, _, _, _ => no
  | n + 1, l1, l2, l3, l4, l7, l10 => R_sendPublish_B450 (fun l1 l2 l3 l4 l7 l10 => R_sendPublish_L450 ke485 n l1 l2 l3 l4 l7 l10) ke485 l1 l2 l3 l4 l7 l10
set_option maxRecDepth 10000 in
theorem sm_sendPublish_B450 {g : Gm RS Int32} {kb : Int32 → Int32 → Int32 → Int32 → Int32 → Int32 → RS → Option (Int32 × RS)} {ke485 : Int32 → Int32 → Int32 → Int32 → RS → Option (Int32 × RS)} (B : Br g cX12_sendPublish 13 voI (some .boolean) 2 45) (hkb : ∀ (l1 : Int32) (l2 : Int32) (l3 : Int32) (l4 : Int32) (l7 : Int32) (l10 : Int32), Sm g 13 450 [(0, .ref g.1.2.2.2.2.2), (1, .int l1), (2, .int l2), (3, .int l3), (4, .int l4), (7, .int l7), (10, .int l10)] [] (kb l1 l2 l3 l4 l7 l10)) (hke485 : ∀ (l1 : Int32) (l3 : Int32) (l4 : Int32) (l7 : Int32), Sm g 13 485 [(0, .ref g.1.2.2.2.2.2), (1, .int l1), (3, .int l3), (4, .int l4), (7, .int l7)] [] (ke485 l1 l3 l4 l7)) (l1 : Int32) (l2 : Int32) (l3 : Int32) (l4 : Int32) (l7 : Int32) (l10 : Int32) : Sm g 13 450 [(0, .ref g.1.2.2.2.2.2), (1, .int l1), (2, .int l2), (3, .int l3), (4, .int l4), (7, .int l7), (10, .int l10)] [] (R_sendPublish_B450 kb ke485 l1 l2 l3 l4 l7 l10) := by
  unfold R_sendPublish_B450
  refine s_iload B.1 6 dX12_sendPublish_450 rfl ?_
  refine s_aload_n B.1 0 dX12_sendPublish_452 rfl rfl ?_
  refine rr_getA B 48 mh_48 mn_48 mf_48 dX12_sendPublish_453 ?_
  refine s_iload_n B.1 2 dX12_sendPublish_456 rfl rfl ?_
  refine rr_iald B 48 mh_48 mk_48 dX12_sendPublish_457 (fun v7 => ?_)
  refine s_icmp_ge B.1 485 dX12_sendPublish_458 (by decide) ?_ ?_
  · exact Sm.lvs [0, 1, 3, 4, 5] rfl (hke485 l1 l3 l4 l7)
  · refine s_aload_n B.1 0 dX12_sendPublish_461 rfl rfl ?_
    refine s_aload_n B.1 0 dX12_sendPublish_462 rfl rfl ?_
    refine rr_getA B 45 mh_45 mn_45 mf_45 dX12_sendPublish_463 ?_
    refine s_aload_n B.1 0 dX12_sendPublish_466 rfl rfl ?_
    refine rr_getA B 47 mh_47 mn_47 mf_47 dX12_sendPublish_467 ?_
    refine s_iload_n B.1 2 dX12_sendPublish_470 rfl rfl ?_
    refine rr_iald B 47 mh_47 mk_47 dX12_sendPublish_471 (fun v8 => ?_)
    refine s_iload B.1 6 dX12_sendPublish_472 rfl ?_
    refine s_iadd B.1 dX12_sendPublish_474 ?_
    refine rr_bald B 45 mh_45 mk_45 dX12_sendPublish_475 (fun v9 => ?_)
    refine rr_cvv (As := [.int v9]) (st := []) B (m_byteOf B.ok v9) mc_byteOf ml_byteOf mi_byteOf me_byteOf ini12 md_byteOf (by decide) rfl (Nat.le_of_ble_eq_true rfl) dX12_sendPublish_476 (fun r10 => ?_)
    refine s_iinc (v := l10 + 1) (lv' := [(10, .int (l10 + 1)), (0, .ref g.1.2.2.2.2.2), (1, .int l1), (2, .int l2), (3, .int l3), (4, .int l4), (7, .int l7)]) B.1 6 dX12_sendPublish_479 rfl rfl (by decide) rfl ?_
    refine s_goto B.1 450 dX12_sendPublish_482 (by decide) ?_
    exact Sm.lvs [1, 2, 3, 4, 5, 6, 0] rfl (hkb l1 l2 l3 l4 l7 (l10 + 1))
set_option maxRecDepth 10000 in
theorem sm_sendPublish_L450 {g : Gm RS Int32} {ke485 : Int32 → Int32 → Int32 → Int32 → RS → Option (Int32 × RS)} (B : Br g cX12_sendPublish 13 voI (some .boolean) 2 45) (hke485 : ∀ (l1 : Int32) (l3 : Int32) (l4 : Int32) (l7 : Int32), Sm g 13 485 [(0, .ref g.1.2.2.2.2.2), (1, .int l1), (3, .int l3), (4, .int l4), (7, .int l7)] [] (ke485 l1 l3 l4 l7)) : ∀ (n : Nat) (l1 : Int32) (l2 : Int32) (l3 : Int32) (l4 : Int32) (l7 : Int32) (l10 : Int32), Sm g 13 450 [(0, .ref g.1.2.2.2.2.2), (1, .int l1), (2, .int l2), (3, .int l3), (4, .int l4), (7, .int l7), (10, .int l10)] [] (R_sendPublish_L450 ke485 n l1 l2 l3 l4 l7 l10)
  | 0, _, _, _, _, _, _ => Sm.fail
  | n + 1, l1, l2, l3, l4, l7, l10 => sm_sendPublish_B450 B (sm_sendPublish_L450 B hke485 n) hke485 l1 l2 l3 l4 l7 l10
def R_sendPublish_J447 (l1 : Int32) (l2 : Int32) (l3 : Int32) (l4 : Int32) (l7 : Int32) : RS → Option (Int32 × RS) :=
  R_sendPublish_L450 (fun l1 l3 l4 l7 => R_sendPublish_J485 l1 l3 l4 l7) fu l1 l2 l3 l4 l7 (0 : Int32)
set_option maxRecDepth 10000 in
theorem sm_sendPublish_J447 {g : Gm RS Int32} (B : Br g cX12_sendPublish 13 voI (some .boolean) 2 45) (l1 : Int32) (l2 : Int32) (l3 : Int32) (l4 : Int32) (l7 : Int32) : Sm g 13 447 [(0, .ref g.1.2.2.2.2.2), (1, .int l1), (2, .int l2), (3, .int l3), (4, .int l4), (7, .int l7)] [] (R_sendPublish_J447 l1 l2 l3 l4 l7) := by
  unfold R_sendPublish_J447
  refine s_iconst (v := 0) B.1 dX12_sendPublish_447 (by decide) ?_
  refine s_istore (lv' := [(10, .int (0 : Int32)), (0, .ref g.1.2.2.2.2.2), (1, .int l1), (2, .int l2), (3, .int l3), (4, .int l4), (7, .int l7)]) B.1 dX12_sendPublish_448 (by decide) rfl ?_
  exact Sm.lvs [1, 2, 3, 4, 5, 6, 0] rfl (sm_sendPublish_L450 B (fun l1 l3 l4 l7 => sm_sendPublish_J485 B l1 l3 l4 l7) fu l1 l2 l3 l4 l7 (0 : Int32))
def R_sendPublish_B416 (kb : Int32 → Int32 → Int32 → Int32 → Int32 → Int32 → Int32 → RS → Option (Int32 × RS)) (ke447 : Int32 → Int32 → Int32 → Int32 → Int32 → RS → Option (Int32 × RS)) (l1 : Int32) (l2 : Int32) (l3 : Int32) (l4 : Int32) (l7 : Int32) (l8 : Int32) (l10 : Int32) : RS → Option (Int32 × RS) :=
  if l8 ≤ l10 then (
    ke447 l1 l2 l3 l4 l7
  ) else (
    rA 58 l2 fun v11 =>
    rA 45 (v11 + l10) fun v12 =>
    bd (R_byteOf v12) fun r13 =>
    kb l1 l2 l3 l4 l7 l8 (l10 + 1)
  )
def R_sendPublish_L416 (ke447 : Int32 → Int32 → Int32 → Int32 → Int32 → RS → Option (Int32 × RS)) : Nat → Int32 → Int32 → Int32 → Int32 → Int32 → Int32 → Int32 → RS → Option (Int32 × RS)
  | 0, _, _, _, _, _, _, _ => no
  | n + 1, l1, l2, l3, l4, l7, l8, l10 => R_sendPublish_B416 (fun l1 l2 l3 l4 l7 l8 l10 => R_sendPublish_L416 ke447 n l1 l2 l3 l4 l7 l8 l10) ke447 l1 l2 l3 l4 l7 l8 l10
set_option maxRecDepth 10000 in
theorem sm_sendPublish_B416 {g : Gm RS Int32} {kb : Int32 → Int32 → Int32 → Int32 → Int32 → Int32 → Int32 → RS → Option (Int32 × RS)} {ke447 : Int32 → Int32 → Int32 → Int32 → Int32 → RS → Option (Int32 × RS)} (B : Br g cX12_sendPublish 13 voI (some .boolean) 2 45) (hkb : ∀ (l1 : Int32) (l2 : Int32) (l3 : Int32) (l4 : Int32) (l7 : Int32) (l8 : Int32) (l10 : Int32), Sm g 13 416 [(0, .ref g.1.2.2.2.2.2), (1, .int l1), (2, .int l2), (3, .int l3), (4, .int l4), (7, .int l7), (8, .int l8), (10, .int l10)] [] (kb l1 l2 l3 l4 l7 l8 l10)) (hke447 : ∀ (l1 : Int32) (l2 : Int32) (l3 : Int32) (l4 : Int32) (l7 : Int32), Sm g 13 447 [(0, .ref g.1.2.2.2.2.2), (1, .int l1), (2, .int l2), (3, .int l3), (4, .int l4), (7, .int l7)] [] (ke447 l1 l2 l3 l4 l7)) (l1 : Int32) (l2 : Int32) (l3 : Int32) (l4 : Int32) (l7 : Int32) (l8 : Int32) (l10 : Int32) : Sm g 13 416 [(0, .ref g.1.2.2.2.2.2), (1, .int l1), (2, .int l2), (3, .int l3), (4, .int l4), (7, .int l7), (8, .int l8), (10, .int l10)] [] (R_sendPublish_B416 kb ke447 l1 l2 l3 l4 l7 l8 l10) := by
  unfold R_sendPublish_B416
  refine s_iload B.1 7 dX12_sendPublish_416 rfl ?_
  refine s_iload B.1 6 dX12_sendPublish_418 rfl ?_
  refine s_icmp_ge B.1 447 dX12_sendPublish_420 (by decide) ?_ ?_
  · exact Sm.lvs [0, 1, 2, 3, 4, 5] rfl (hke447 l1 l2 l3 l4 l7)
  · refine s_aload_n B.1 0 dX12_sendPublish_423 rfl rfl ?_
    refine s_aload_n B.1 0 dX12_sendPublish_424 rfl rfl ?_
    refine rr_getA B 45 mh_45 mn_45 mf_45 dX12_sendPublish_425 ?_
    refine s_aload_n B.1 0 dX12_sendPublish_428 rfl rfl ?_
    refine rr_getA B 58 mh_58 mn_58 mf_58 dX12_sendPublish_429 ?_
    refine s_iload_n B.1 2 dX12_sendPublish_432 rfl rfl ?_
    refine rr_iald B 58 mh_58 mk_58 dX12_sendPublish_433 (fun v11 => ?_)
    refine s_iload B.1 7 dX12_sendPublish_434 rfl ?_
    refine s_iadd B.1 dX12_sendPublish_436 ?_
    refine rr_bald B 45 mh_45 mk_45 dX12_sendPublish_437 (fun v12 => ?_)
    refine rr_cvv (As := [.int v12]) (st := []) B (m_byteOf B.ok v12) mc_byteOf ml_byteOf mi_byteOf me_byteOf ini12 md_byteOf (by decide) rfl (Nat.le_of_ble_eq_true rfl) dX12_sendPublish_438 (fun r13 => ?_)
    refine s_iinc (v := l10 + 1) (lv' := [(10, .int (l10 + 1)), (0, .ref g.1.2.2.2.2.2), (1, .int l1), (2, .int l2), (3, .int l3), (4, .int l4), (7, .int l7), (8, .int l8)]) B.1 7 dX12_sendPublish_441 rfl rfl (by decide) rfl ?_
    refine s_goto B.1 416 dX12_sendPublish_444 (by decide) ?_
    exact Sm.lvs [1, 2, 3, 4, 5, 6, 7, 0] rfl (hkb l1 l2 l3 l4 l7 l8 (l10 + 1))
set_option maxRecDepth 10000 in
theorem sm_sendPublish_L416 {g : Gm RS Int32} {ke447 : Int32 → Int32 → Int32 → Int32 → Int32 → RS → Option (Int32 × RS)} (B : Br g cX12_sendPublish 13 voI (some .boolean) 2 45) (hke447 : ∀ (l1 : Int32) (l2 : Int32) (l3 : Int32) (l4 : Int32) (l7 : Int32), Sm g 13 447 [(0, .ref g.1.2.2.2.2.2), (1, .int l1), (2, .int l2), (3, .int l3), (4, .int l4), (7, .int l7)] [] (ke447 l1 l2 l3 l4 l7)) : ∀ (n : Nat) (l1 : Int32) (l2 : Int32) (l3 : Int32) (l4 : Int32) (l7 : Int32) (l8 : Int32) (l10 : Int32), Sm g 13 416 [(0, .ref g.1.2.2.2.2.2), (1, .int l1), (2, .int l2), (3, .int l3), (4, .int l4), (7, .int l7), (8, .int l8), (10, .int l10)] [] (R_sendPublish_L416 ke447 n l1 l2 l3 l4 l7 l8 l10)
  | 0, _, _, _, _, _, _, _ => Sm.fail
  | n + 1, l1, l2, l3, l4, l7, l8, l10 => sm_sendPublish_B416 B (sm_sendPublish_L416 B hke447 n) hke447 l1 l2 l3 l4 l7 l8 l10
def R_sendPublish_J413 (l1 : Int32) (l2 : Int32) (l3 : Int32) (l4 : Int32) (l7 : Int32) (l8 : Int32) : RS → Option (Int32 × RS) :=
  R_sendPublish_L416 (fun l1 l2 l3 l4 l7 => R_sendPublish_J447 l1 l2 l3 l4 l7) fu l1 l2 l3 l4 l7 l8 (0 : Int32)
set_option maxRecDepth 10000 in
theorem sm_sendPublish_J413 {g : Gm RS Int32} (B : Br g cX12_sendPublish 13 voI (some .boolean) 2 45) (l1 : Int32) (l2 : Int32) (l3 : Int32) (l4 : Int32) (l7 : Int32) (l8 : Int32) : Sm g 13 413 [(0, .ref g.1.2.2.2.2.2), (1, .int l1), (2, .int l2), (3, .int l3), (4, .int l4), (7, .int l7), (8, .int l8)] [] (R_sendPublish_J413 l1 l2 l3 l4 l7 l8) := by
  unfold R_sendPublish_J413
  refine s_iconst (v := 0) B.1 dX12_sendPublish_413 (by decide) ?_
  refine s_istore (lv' := [(10, .int (0 : Int32)), (0, .ref g.1.2.2.2.2.2), (1, .int l1), (2, .int l2), (3, .int l3), (4, .int l4), (7, .int l7), (8, .int l8)]) B.1 dX12_sendPublish_414 (by decide) rfl ?_
  exact Sm.lvs [1, 2, 3, 4, 5, 6, 7, 0] rfl (sm_sendPublish_L416 B (fun l1 l2 l3 l4 l7 => sm_sendPublish_J447 B l1 l2 l3 l4 l7) fu l1 l2 l3 l4 l7 l8 (0 : Int32))
def R_sendPublish_J342 (l1 : Int32) (l2 : Int32) (l3 : Int32) (l4 : Int32) (l5 : Int32) (l7 : Int32) (l8 : Int32) : RS → Option (Int32 × RS) :=
  rA 52 l2 fun v14 =>
  rA 53 l2 fun v15 =>
  bd (R_part (3 : Int32) v14 v15) fun r16 =>
  rA 54 l2 fun v17 =>
  rA 55 l2 fun v18 =>
  bd (R_part (8 : Int32) v17 v18) fun r19 =>
  rA 56 l2 fun v20 =>
  rA 57 l2 fun v21 =>
  bd (R_part (9 : Int32) v20 v21) fun r22 =>
  if l5 = 0 then (
    R_sendPublish_J413 l1 l2 l3 l4 l7 l8
  ) else (
    bd (R_byteOf (11 : Int32)) fun r23 =>
    bd (R_variableOf l5.toInt64) fun r24 =>
    R_sendPublish_J413 l1 l2 l3 l4 l7 l8
  )
set_option maxRecDepth 10000 in
theorem sm_sendPublish_J342 {g : Gm RS Int32} (B : Br g cX12_sendPublish 13 voI (some .boolean) 2 45) (l1 : Int32) (l2 : Int32) (l3 : Int32) (l4 : Int32) (l5 : Int32) (l7 : Int32) (l8 : Int32) : Sm g 13 342 [(0, .ref g.1.2.2.2.2.2), (1, .int l1), (2, .int l2), (3, .int l3), (4, .int l4), (5, .int l5), (7, .int l7), (8, .int l8)] [] (R_sendPublish_J342 l1 l2 l3 l4 l5 l7 l8) := by
  unfold R_sendPublish_J342
  refine s_aload_n B.1 0 dX12_sendPublish_342 rfl rfl ?_
  refine s_iconst (v := 3) B.1 dX12_sendPublish_343 (by decide) ?_
  refine s_aload_n B.1 0 dX12_sendPublish_344 rfl rfl ?_
  refine rr_getA B 52 mh_52 mn_52 mf_52 dX12_sendPublish_345 ?_
  refine s_iload_n B.1 2 dX12_sendPublish_348 rfl rfl ?_
  refine rr_iald B 52 mh_52 mk_52 dX12_sendPublish_349 (fun v14 => ?_)
  refine s_aload_n B.1 0 dX12_sendPublish_350 rfl rfl ?_
  refine rr_getA B 53 mh_53 mn_53 mf_53 dX12_sendPublish_351 ?_
  refine s_iload_n B.1 2 dX12_sendPublish_354 rfl rfl ?_
  refine rr_iald B 53 mh_53 mk_53 dX12_sendPublish_355 (fun v15 => ?_)
  refine rr_cvv (As := [.int (3 : Int32), .int v14, .int v15]) (st := []) B (m_part B.ok (3 : Int32) v14 v15) mc_part ml_part mi_part me_part ini12 md_part (by decide) rfl (Nat.le_of_ble_eq_true rfl) dX12_sendPublish_356 (fun r16 => ?_)
  refine s_aload_n B.1 0 dX12_sendPublish_359 rfl rfl ?_
  refine s_bipush (v := (8)) B.1 dX12_sendPublish_360 (by decide) ?_
  refine s_aload_n B.1 0 dX12_sendPublish_362 rfl rfl ?_
  refine rr_getA B 54 mh_54 mn_54 mf_54 dX12_sendPublish_363 ?_
  refine s_iload_n B.1 2 dX12_sendPublish_366 rfl rfl ?_
  refine rr_iald B 54 mh_54 mk_54 dX12_sendPublish_367 (fun v17 => ?_)
  refine s_aload_n B.1 0 dX12_sendPublish_368 rfl rfl ?_
  refine rr_getA B 55 mh_55 mn_55 mf_55 dX12_sendPublish_369 ?_
  refine s_iload_n B.1 2 dX12_sendPublish_372 rfl rfl ?_
  refine rr_iald B 55 mh_55 mk_55 dX12_sendPublish_373 (fun v18 => ?_)
  refine rr_cvv (As := [.int (8 : Int32), .int v17, .int v18]) (st := []) B (m_part B.ok (8 : Int32) v17 v18) mc_part ml_part mi_part me_part ini12 md_part (by decide) rfl (Nat.le_of_ble_eq_true rfl) dX12_sendPublish_374 (fun r19 => ?_)
  refine s_aload_n B.1 0 dX12_sendPublish_377 rfl rfl ?_
  refine s_bipush (v := (9)) B.1 dX12_sendPublish_378 (by decide) ?_
  refine s_aload_n B.1 0 dX12_sendPublish_380 rfl rfl ?_
  refine rr_getA B 56 mh_56 mn_56 mf_56 dX12_sendPublish_381 ?_
  refine s_iload_n B.1 2 dX12_sendPublish_384 rfl rfl ?_
  refine rr_iald B 56 mh_56 mk_56 dX12_sendPublish_385 (fun v20 => ?_)
  refine s_aload_n B.1 0 dX12_sendPublish_386 rfl rfl ?_
  refine rr_getA B 57 mh_57 mn_57 mf_57 dX12_sendPublish_387 ?_
  refine s_iload_n B.1 2 dX12_sendPublish_390 rfl rfl ?_
  refine rr_iald B 57 mh_57 mk_57 dX12_sendPublish_391 (fun v21 => ?_)
  refine rr_cvv (As := [.int (9 : Int32), .int v20, .int v21]) (st := []) B (m_part B.ok (9 : Int32) v20 v21) mc_part ml_part mi_part me_part ini12 md_part (by decide) rfl (Nat.le_of_ble_eq_true rfl) dX12_sendPublish_392 (fun r22 => ?_)
  refine s_iload B.1 5 dX12_sendPublish_395 rfl ?_
  refine s_if_eq B.1 413 dX12_sendPublish_397 (by decide) ?_ ?_
  · exact Sm.lvs [0, 1, 2, 3, 4, 6, 7] rfl (sm_sendPublish_J413 B l1 l2 l3 l4 l7 l8)
  · refine s_aload_n B.1 0 dX12_sendPublish_400 rfl rfl ?_
    refine s_bipush (v := (11)) B.1 dX12_sendPublish_401 (by decide) ?_
    refine rr_cvv (As := [.int (11 : Int32)]) (st := []) B (m_byteOf B.ok (11 : Int32)) mc_byteOf ml_byteOf mi_byteOf me_byteOf ini12 md_byteOf (by decide) rfl (Nat.le_of_ble_eq_true rfl) dX12_sendPublish_403 (fun r23 => ?_)
    refine s_aload_n B.1 0 dX12_sendPublish_406 rfl rfl ?_
    refine s_iload B.1 5 dX12_sendPublish_407 rfl ?_
    refine s_i2l B.1 dX12_sendPublish_409 ?_
    refine rr_cvv (As := [.long l5.toInt64]) (st := []) B (m_variableOf B.ok l5.toInt64) mc_variableOf ml_variableOf mi_variableOf me_variableOf ini12 md_variableOf (by decide) rfl (Nat.le_of_ble_eq_true rfl) dX12_sendPublish_410 (fun r24 => ?_)
    exact Sm.lvs [0, 1, 2, 3, 4, 6, 7] rfl (sm_sendPublish_J413 B l1 l2 l3 l4 l7 l8)
def R_sendPublish_B321 (kb : Int32 → Int32 → Int32 → Int32 → Int32 → Int32 → Int32 → Int64 → Int32 → RS → Option (Int32 × RS)) (ke342 : Int32 → Int32 → Int32 → Int32 → Int32 → Int32 → Int32 → RS → Option (Int32 × RS)) (l1 : Int32) (l2 : Int32) (l3 : Int32) (l4 : Int32) (l5 : Int32) (l7 : Int32) (l8 : Int32) (l10 : Int64) (l12 : Int32) : RS → Option (Int32 × RS) :=
  if l12 < 0 then (
    ke342 l1 l2 l3 l4 l5 l7 l8
  ) else (
    bd (R_byteOf ((lshr6 l10 l12).toInt32)) fun r25 =>
    kb l1 l2 l3 l4 l5 l7 l8 l10 (l12 + (-8))
  )
def R_sendPublish_L321 (ke342 : Int32 → Int32 → Int32 → Int32 → Int32 → Int32 → Int32 → RS → Option (Int32 × RS)) : Nat → Int32 → Int32 → Int32 → Int32 → Int32 → Int32 → Int32 → Int64 → Int32 → RS → Option (Int32 × RS)
  | 0, _, _, _, _, _, _, _, _, _ => no
  | n + 1, l1, l2, l3, l4, l5, l7, l8, l10, l12 => R_sendPublish_B321 (fun l1 l2 l3 l4 l5 l7 l8 l10 l12 => R_sendPublish_L321 ke342 n l1 l2 l3 l4 l5 l7 l8 l10 l12) ke342 l1 l2 l3 l4 l5 l7 l8 l10 l12
set_option maxRecDepth 10000 in
theorem sm_sendPublish_B321 {g : Gm RS Int32} {kb : Int32 → Int32 → Int32 → Int32 → Int32 → Int32 → Int32 → Int64 → Int32 → RS → Option (Int32 × RS)} {ke342 : Int32 → Int32 → Int32 → Int32 → Int32 → Int32 → Int32 → RS → Option (Int32 × RS)} (B : Br g cX12_sendPublish 13 voI (some .boolean) 2 45) (hkb : ∀ (l1 : Int32) (l2 : Int32) (l3 : Int32) (l4 : Int32) (l5 : Int32) (l7 : Int32) (l8 : Int32) (l10 : Int64) (l12 : Int32), Sm g 13 321 [(0, .ref g.1.2.2.2.2.2), (1, .int l1), (2, .int l2), (3, .int l3), (4, .int l4), (5, .int l5), (7, .int l7), (8, .int l8), (10, .long l10), (12, .int l12)] [] (kb l1 l2 l3 l4 l5 l7 l8 l10 l12)) (hke342 : ∀ (l1 : Int32) (l2 : Int32) (l3 : Int32) (l4 : Int32) (l5 : Int32) (l7 : Int32) (l8 : Int32), Sm g 13 342 [(0, .ref g.1.2.2.2.2.2), (1, .int l1), (2, .int l2), (3, .int l3), (4, .int l4), (5, .int l5), (7, .int l7), (8, .int l8)] [] (ke342 l1 l2 l3 l4 l5 l7 l8)) (l1 : Int32) (l2 : Int32) (l3 : Int32) (l4 : Int32) (l5 : Int32) (l7 : Int32) (l8 : Int32) (l10 : Int64) (l12 : Int32) : Sm g 13 321 [(0, .ref g.1.2.2.2.2.2), (1, .int l1), (2, .int l2), (3, .int l3), (4, .int l4), (5, .int l5), (7, .int l7), (8, .int l8), (10, .long l10), (12, .int l12)] [] (R_sendPublish_B321 kb ke342 l1 l2 l3 l4 l5 l7 l8 l10 l12) := by
  unfold R_sendPublish_B321
  refine s_iload B.1 9 dX12_sendPublish_321 rfl ?_
  refine s_if_lt B.1 342 dX12_sendPublish_323 (by decide) ?_ ?_
  · exact Sm.lvs [0, 1, 2, 3, 4, 5, 6, 7] rfl (hke342 l1 l2 l3 l4 l5 l7 l8)
  · refine s_aload_n B.1 0 dX12_sendPublish_326 rfl rfl ?_
    refine s_lload B.1 8 dX12_sendPublish_327 rfl ?_
    refine s_iload B.1 9 dX12_sendPublish_329 rfl ?_
    refine s_lshr B.1 dX12_sendPublish_331 ?_
    refine s_l2i B.1 dX12_sendPublish_332 ?_
    refine rr_cvv (As := [.int ((lshr6 l10 l12).toInt32)]) (st := []) B (m_byteOf B.ok ((lshr6 l10 l12).toInt32)) mc_byteOf ml_byteOf mi_byteOf me_byteOf ini12 md_byteOf (by decide) rfl (Nat.le_of_ble_eq_true rfl) dX12_sendPublish_333 (fun r25 => ?_)
    refine s_iinc (v := l12 + (-8)) (lv' := [(12, .int (l12 + (-8))), (0, .ref g.1.2.2.2.2.2), (1, .int l1), (2, .int l2), (3, .int l3), (4, .int l4), (5, .int l5), (7, .int l7), (8, .int l8), (10, .long l10)]) B.1 9 dX12_sendPublish_336 rfl rfl (by decide) rfl ?_
    refine s_goto B.1 321 dX12_sendPublish_339 (by decide) ?_
    exact Sm.lvs [1, 2, 3, 4, 5, 6, 7, 8, 9, 0] rfl (hkb l1 l2 l3 l4 l5 l7 l8 l10 (l12 + (-8)))
set_option maxRecDepth 10000 in
theorem sm_sendPublish_L321 {g : Gm RS Int32} {ke342 : Int32 → Int32 → Int32 → Int32 → Int32 → Int32 → Int32 → RS → Option (Int32 × RS)} (B : Br g cX12_sendPublish 13 voI (some .boolean) 2 45) (hke342 : ∀ (l1 : Int32) (l2 : Int32) (l3 : Int32) (l4 : Int32) (l5 : Int32) (l7 : Int32) (l8 : Int32), Sm g 13 342 [(0, .ref g.1.2.2.2.2.2), (1, .int l1), (2, .int l2), (3, .int l3), (4, .int l4), (5, .int l5), (7, .int l7), (8, .int l8)] [] (ke342 l1 l2 l3 l4 l5 l7 l8)) : ∀ (n : Nat) (l1 : Int32) (l2 : Int32) (l3 : Int32) (l4 : Int32) (l5 : Int32) (l7 : Int32) (l8 : Int32) (l10 : Int64) (l12 : Int32), Sm g 13 321 [(0, .ref g.1.2.2.2.2.2), (1, .int l1), (2, .int l2), (3, .int l3), (4, .int l4), (5, .int l5), (7, .int l7), (8, .int l8), (10, .long l10), (12, .int l12)] [] (R_sendPublish_L321 ke342 n l1 l2 l3 l4 l5 l7 l8 l10 l12)
  | 0, _, _, _, _, _, _, _, _, _ => Sm.fail
  | n + 1, l1, l2, l3, l4, l5, l7, l8, l10, l12 => sm_sendPublish_B321 B (sm_sendPublish_L321 B hke342 n) hke342 l1 l2 l3 l4 l5 l7 l8 l10 l12
def R_sendPublish_J276 (l1 : Int32) (l2 : Int32) (l3 : Int32) (l4 : Int32) (l5 : Int32) (l7 : Int32) (l8 : Int32) : RS → Option (Int32 × RS) :=
  rL 50 l2 fun v26 =>
  if (lg_cmp v26 (0 : Int64)) < 0 then (
    R_sendPublish_J342 l1 l2 l3 l4 l5 l7 l8
  ) else (
    rL 50 l2 fun v27 =>
    rI 66 fun v28 =>
    rA 51 l2 fun v29 =>
    lq (lmax (0 : Int64) (v27 - ((v28 - v29).toInt64))) fun x30 =>
    bd (R_byteOf (2 : Int32)) fun r31 =>
    R_sendPublish_L321 (fun l1 l2 l3 l4 l5 l7 l8 => R_sendPublish_J342 l1 l2 l3 l4 l5 l7 l8) fu l1 l2 l3 l4 l5 l7 l8 x30 (24 : Int32)
  )
set_option maxRecDepth 10000 in
theorem sm_sendPublish_J276 {g : Gm RS Int32} (B : Br g cX12_sendPublish 13 voI (some .boolean) 2 45) (l1 : Int32) (l2 : Int32) (l3 : Int32) (l4 : Int32) (l5 : Int32) (l7 : Int32) (l8 : Int32) : Sm g 13 276 [(0, .ref g.1.2.2.2.2.2), (1, .int l1), (2, .int l2), (3, .int l3), (4, .int l4), (5, .int l5), (7, .int l7), (8, .int l8)] [] (R_sendPublish_J276 l1 l2 l3 l4 l5 l7 l8) := by
  unfold R_sendPublish_J276
  refine s_aload_n B.1 0 dX12_sendPublish_276 rfl rfl ?_
  refine rr_getA B 50 mh_50 mn_50 mf_50 dX12_sendPublish_277 ?_
  refine s_iload_n B.1 2 dX12_sendPublish_280 rfl rfl ?_
  refine rr_lald B 50 mh_50 mk_50 dX12_sendPublish_281 (fun v26 => ?_)
  refine s_lconst (v := 0) B.1 dX12_sendPublish_282 (by decide) ?_
  refine s_lcmp B.1 dX12_sendPublish_283 ?_
  refine s_if_lt B.1 342 dX12_sendPublish_284 (by decide) ?_ ?_
  · exact Sm.lvs [0, 1, 2, 3, 4, 5, 6, 7] rfl (sm_sendPublish_J342 B l1 l2 l3 l4 l5 l7 l8)
  · refine s_lconst (v := 0) B.1 dX12_sendPublish_287 (by decide) ?_
    refine s_aload_n B.1 0 dX12_sendPublish_288 rfl rfl ?_
    refine rr_getA B 50 mh_50 mn_50 mf_50 dX12_sendPublish_289 ?_
    refine s_iload_n B.1 2 dX12_sendPublish_292 rfl rfl ?_
    refine rr_lald B 50 mh_50 mk_50 dX12_sendPublish_293 (fun v27 => ?_)
    refine s_aload_n B.1 0 dX12_sendPublish_294 rfl rfl ?_
    refine rr_getI B 66 mh_66 mk_66 mf_66 dX12_sendPublish_295 (fun v28 => ?_)
    refine s_aload_n B.1 0 dX12_sendPublish_298 rfl rfl ?_
    refine rr_getA B 51 mh_51 mn_51 mf_51 dX12_sendPublish_299 ?_
    refine s_iload_n B.1 2 dX12_sendPublish_302 rfl rfl ?_
    refine rr_iald B 51 mh_51 mk_51 dX12_sendPublish_303 (fun v29 => ?_)
    refine s_isub B.1 dX12_sendPublish_304 ?_
    refine s_i2l B.1 dX12_sendPublish_305 ?_
    refine s_lsub B.1 dX12_sendPublish_306 ?_
    refine s_mmaxl B.1 B.2.1.fx tw_1993 (by decide) (Nat.le_of_ble_eq_true rfl) dX12_sendPublish_307 ?_
    refine s_lql (fun x30 => ?_)
    refine s_lstore (lv' := [(10, .long x30), (0, .ref g.1.2.2.2.2.2), (1, .int l1), (2, .int l2), (3, .int l3), (4, .int l4), (5, .int l5), (7, .int l7), (8, .int l8)]) B.1 dX12_sendPublish_310 (by decide) rfl ?_
    refine s_aload_n B.1 1 dX12_sendPublish_312 rfl rfl ?_
    refine s_iconst (v := 2) B.1 dX12_sendPublish_313 (by decide) ?_
    refine rr_cvv (As := [.int (2 : Int32)]) (st := []) B (m_byteOf B.ok (2 : Int32)) mc_byteOf ml_byteOf mi_byteOf me_byteOf ini12 md_byteOf (by decide) rfl (Nat.le_of_ble_eq_true rfl) dX12_sendPublish_314 (fun r31 => ?_)
    refine s_bipush (v := (24)) B.1 dX12_sendPublish_317 (by decide) ?_
    refine s_istore (lv' := [(12, .int (24 : Int32)), (10, .long x30), (0, .ref g.1.2.2.2.2.2), (1, .int l1), (2, .int l2), (3, .int l3), (4, .int l4), (5, .int l5), (7, .int l7), (8, .int l8)]) B.1 dX12_sendPublish_319 (by decide) rfl ?_
    exact Sm.lvs [2, 3, 4, 5, 6, 7, 8, 9, 1, 0] rfl (sm_sendPublish_L321 B (fun l1 l2 l3 l4 l5 l7 l8 => sm_sendPublish_J342 B l1 l2 l3 l4 l5 l7 l8) fu l1 l2 l3 l4 l5 l7 l8 x30 (24 : Int32))
def R_sendPublish_J242 (l1 : Int32) (l2 : Int32) (l3 : Int32) (l4 : Int32) (l5 : Int32) (l7 : Int32) (l8 : Int32) (s0 : Int32) (s1 : Int32) : RS → Option (Int32 × RS) :=
  lq (s0 + s1) fun x32 =>
  bd (R_variableOf x32.toInt64) fun r33 =>
  rA 49 l2 fun v34 =>
  if v34 < 0 then (
    R_sendPublish_J276 l1 l2 l3 l4 l5 l7 l8
  ) else (
    bd (R_byteOf (1 : Int32)) fun r35 =>
    rA 49 l2 fun v36 =>
    bd (R_byteOf v36) fun r37 =>
    R_sendPublish_J276 l1 l2 l3 l4 l5 l7 l8
  )
set_option maxRecDepth 10000 in
theorem sm_sendPublish_J242 {g : Gm RS Int32} (B : Br g cX12_sendPublish 13 voI (some .boolean) 2 45) (l1 : Int32) (l2 : Int32) (l3 : Int32) (l4 : Int32) (l5 : Int32) (l7 : Int32) (l8 : Int32) (s0 : Int32) (s1 : Int32) : Sm g 13 242 [(0, .ref g.1.2.2.2.2.2), (1, .int l1), (2, .int l2), (3, .int l3), (4, .int l4), (5, .int l5), (7, .int l7), (8, .int l8)] [.int s1, .int s0] (R_sendPublish_J242 l1 l2 l3 l4 l5 l7 l8 s0 s1) := by
  unfold R_sendPublish_J242
  refine s_iadd B.1 dX12_sendPublish_242 ?_
  refine s_lqi (fun x32 => ?_)
  refine s_istore (lv' := [(9, .int x32), (0, .ref g.1.2.2.2.2.2), (1, .int l1), (2, .int l2), (3, .int l3), (4, .int l4), (5, .int l5), (7, .int l7), (8, .int l8)]) B.1 dX12_sendPublish_243 (by decide) rfl ?_
  refine s_aload_n B.1 1 dX12_sendPublish_245 rfl rfl ?_
  refine s_iload B.1 0 dX12_sendPublish_246 rfl ?_
  refine s_i2l B.1 dX12_sendPublish_248 ?_
  refine rr_cvv (As := [.long x32.toInt64]) (st := []) B (m_variableOf B.ok x32.toInt64) mc_variableOf ml_variableOf mi_variableOf me_variableOf ini12 md_variableOf (by decide) rfl (Nat.le_of_ble_eq_true rfl) dX12_sendPublish_249 (fun r33 => ?_)
  refine s_aload_n B.1 1 dX12_sendPublish_252 rfl rfl ?_
  refine rr_getA B 49 mh_49 mn_49 mf_49 dX12_sendPublish_253 ?_
  refine s_iload_n B.1 3 dX12_sendPublish_256 rfl rfl ?_
  refine rr_iald B 49 mh_49 mk_49 dX12_sendPublish_257 (fun v34 => ?_)
  refine s_if_lt B.1 276 dX12_sendPublish_258 (by decide) ?_ ?_
  · exact Sm.lvs [1, 2, 3, 4, 5, 6, 7, 8] rfl (sm_sendPublish_J276 B l1 l2 l3 l4 l5 l7 l8)
  · refine s_aload_n B.1 1 dX12_sendPublish_261 rfl rfl ?_
    refine s_iconst (v := 1) B.1 dX12_sendPublish_262 (by decide) ?_
    refine rr_cvv (As := [.int (1 : Int32)]) (st := []) B (m_byteOf B.ok (1 : Int32)) mc_byteOf ml_byteOf mi_byteOf me_byteOf ini12 md_byteOf (by decide) rfl (Nat.le_of_ble_eq_true rfl) dX12_sendPublish_263 (fun r35 => ?_)
    refine s_aload_n B.1 1 dX12_sendPublish_266 rfl rfl ?_
    refine s_aload_n B.1 1 dX12_sendPublish_267 rfl rfl ?_
    refine rr_getA B 49 mh_49 mn_49 mf_49 dX12_sendPublish_268 ?_
    refine s_iload_n B.1 3 dX12_sendPublish_271 rfl rfl ?_
    refine rr_iald B 49 mh_49 mk_49 dX12_sendPublish_272 (fun v36 => ?_)
    refine rr_cvv (As := [.int v36]) (st := []) B (m_byteOf B.ok v36) mc_byteOf ml_byteOf mi_byteOf me_byteOf ini12 md_byteOf (by decide) rfl (Nat.le_of_ble_eq_true rfl) dX12_sendPublish_273 (fun r37 => ?_)
    exact Sm.lvs [1, 2, 3, 4, 5, 6, 7, 8] rfl (sm_sendPublish_J276 B l1 l2 l3 l4 l5 l7 l8)
def R_sendPublish_J188 (l1 : Int32) (l2 : Int32) (l3 : Int32) (l4 : Int32) (l5 : Int32) (l7 : Int32) (l8 : Int32) (s0 : Int32) (s1 : Int32) : RS → Option (Int32 × RS) :=
  lq ((s0 + s1) + l8) fun x38 =>
  if l5 = 0 then (
    R_sendPublish_J242 l1 l2 l3 l4 l5 l7 l8 x38 (0 : Int32)
  ) else (
    if (128 : Int32) ≤ l5 then (
      if (16384 : Int32) ≤ l5 then (
        if (2097152 : Int32) ≤ l5 then (
          R_sendPublish_J242 l1 l2 l3 l4 l5 l7 l8 x38 (5 : Int32)
        ) else (
          R_sendPublish_J242 l1 l2 l3 l4 l5 l7 l8 x38 (4 : Int32)
        )
      ) else (
        R_sendPublish_J242 l1 l2 l3 l4 l5 l7 l8 x38 (3 : Int32)
      )
    ) else (
      R_sendPublish_J242 l1 l2 l3 l4 l5 l7 l8 x38 (2 : Int32)
    )
  )
set_option maxRecDepth 10000 in
theorem sm_sendPublish_J188 {g : Gm RS Int32} (B : Br g cX12_sendPublish 13 voI (some .boolean) 2 45) (l1 : Int32) (l2 : Int32) (l3 : Int32) (l4 : Int32) (l5 : Int32) (l7 : Int32) (l8 : Int32) (s0 : Int32) (s1 : Int32) : Sm g 13 188 [(0, .ref g.1.2.2.2.2.2), (1, .int l1), (2, .int l2), (3, .int l3), (4, .int l4), (5, .int l5), (7, .int l7), (8, .int l8)] [.int s1, .int s0] (R_sendPublish_J188 l1 l2 l3 l4 l5 l7 l8 s0 s1) := by
  unfold R_sendPublish_J188
  refine s_iadd B.1 dX12_sendPublish_188 ?_
  refine s_iload B.1 7 dX12_sendPublish_189 rfl ?_
  refine s_iadd B.1 dX12_sendPublish_191 ?_
  refine s_lqi (fun x38 => ?_)
  refine s_istore (lv' := [(9, .int x38), (0, .ref g.1.2.2.2.2.2), (1, .int l1), (2, .int l2), (3, .int l3), (4, .int l4), (5, .int l5), (7, .int l7), (8, .int l8)]) B.1 dX12_sendPublish_192 (by decide) rfl ?_
  refine s_iload B.1 0 dX12_sendPublish_194 rfl ?_
  refine s_iload B.1 6 dX12_sendPublish_196 rfl ?_
  refine s_if_ne B.1 205 dX12_sendPublish_198 (by decide) ?_ ?_
  · refine s_iload B.1 6 dX12_sendPublish_205 rfl ?_
    refine s_sipush (v := (128)) B.1 dX12_sendPublish_207 (by decide) ?_
    refine s_icmp_ge B.1 217 dX12_sendPublish_210 (by decide) ?_ ?_
    · refine s_iload B.1 6 dX12_sendPublish_217 rfl ?_
      refine s_sipush (v := (16384)) B.1 dX12_sendPublish_219 (by decide) ?_
      refine s_icmp_ge B.1 229 dX12_sendPublish_222 (by decide) ?_ ?_
      · refine s_iload B.1 6 dX12_sendPublish_229 rfl ?_
        refine s_ldcw (v := (2097152)) B.1 tw_1987 dX12_sendPublish_231 ?_
        refine s_icmp_ge B.1 241 dX12_sendPublish_234 (by decide) ?_ ?_
        · refine s_iconst (v := 5) B.1 dX12_sendPublish_241 (by decide) ?_
          exact Sm.lvs [1, 2, 3, 4, 5, 6, 7, 8] rfl (sm_sendPublish_J242 B l1 l2 l3 l4 l5 l7 l8 x38 (5 : Int32))
        · refine s_iconst (v := 4) B.1 dX12_sendPublish_237 (by decide) ?_
          refine s_goto B.1 242 dX12_sendPublish_238 (by decide) ?_
          exact Sm.lvs [1, 2, 3, 4, 5, 6, 7, 8] rfl (sm_sendPublish_J242 B l1 l2 l3 l4 l5 l7 l8 x38 (4 : Int32))
      · refine s_iconst (v := 3) B.1 dX12_sendPublish_225 (by decide) ?_
        refine s_goto B.1 242 dX12_sendPublish_226 (by decide) ?_
        exact Sm.lvs [1, 2, 3, 4, 5, 6, 7, 8] rfl (sm_sendPublish_J242 B l1 l2 l3 l4 l5 l7 l8 x38 (3 : Int32))
    · refine s_iconst (v := 2) B.1 dX12_sendPublish_213 (by decide) ?_
      refine s_goto B.1 242 dX12_sendPublish_214 (by decide) ?_
      exact Sm.lvs [1, 2, 3, 4, 5, 6, 7, 8] rfl (sm_sendPublish_J242 B l1 l2 l3 l4 l5 l7 l8 x38 (2 : Int32))
  · refine s_iconst (v := 0) B.1 dX12_sendPublish_201 (by decide) ?_
    refine s_goto B.1 242 dX12_sendPublish_202 (by decide) ?_
    exact Sm.lvs [1, 2, 3, 4, 5, 6, 7, 8] rfl (sm_sendPublish_J242 B l1 l2 l3 l4 l5 l7 l8 x38 (0 : Int32))
def R_sendPublish_J166 (l1 : Int32) (l2 : Int32) (l3 : Int32) (l4 : Int32) (l5 : Int32) (l7 : Int32) (l8 : Int32) (s0 : Int32) (s1 : Int32) : RS → Option (Int32 × RS) :=
  rA 57 l2 fun v39 =>
  if 0 ≤ v39 then (
    rA 57 l2 fun v40 =>
    R_sendPublish_J188 l1 l2 l3 l4 l5 l7 l8 (s0 + s1) ((3 : Int32) + v40)
  ) else (
    R_sendPublish_J188 l1 l2 l3 l4 l5 l7 l8 (s0 + s1) (0 : Int32)
  )
set_option maxRecDepth 10000 in
theorem sm_sendPublish_J166 {g : Gm RS Int32} (B : Br g cX12_sendPublish 13 voI (some .boolean) 2 45) (l1 : Int32) (l2 : Int32) (l3 : Int32) (l4 : Int32) (l5 : Int32) (l7 : Int32) (l8 : Int32) (s0 : Int32) (s1 : Int32) : Sm g 13 166 [(0, .ref g.1.2.2.2.2.2), (1, .int l1), (2, .int l2), (3, .int l3), (4, .int l4), (5, .int l5), (7, .int l7), (8, .int l8)] [.int s1, .int s0] (R_sendPublish_J166 l1 l2 l3 l4 l5 l7 l8 s0 s1) := by
  unfold R_sendPublish_J166
  refine s_iadd B.1 dX12_sendPublish_166 ?_
  refine s_aload_n B.1 0 dX12_sendPublish_167 rfl rfl ?_
  refine rr_getA B 57 mh_57 mn_57 mf_57 dX12_sendPublish_168 ?_
  refine s_iload_n B.1 2 dX12_sendPublish_171 rfl rfl ?_
  refine rr_iald B 57 mh_57 mk_57 dX12_sendPublish_172 (fun v39 => ?_)
  refine s_if_ge B.1 180 dX12_sendPublish_173 (by decide) ?_ ?_
  · refine s_iconst (v := 3) B.1 dX12_sendPublish_180 (by decide) ?_
    refine s_aload_n B.1 0 dX12_sendPublish_181 rfl rfl ?_
    refine rr_getA B 57 mh_57 mn_57 mf_57 dX12_sendPublish_182 ?_
    refine s_iload_n B.1 2 dX12_sendPublish_185 rfl rfl ?_
    refine rr_iald B 57 mh_57 mk_57 dX12_sendPublish_186 (fun v40 => ?_)
    refine s_iadd B.1 dX12_sendPublish_187 ?_
    exact Sm.lvs [0, 1, 2, 3, 4, 5, 6, 7] rfl (sm_sendPublish_J188 B l1 l2 l3 l4 l5 l7 l8 (s0 + s1) ((3 : Int32) + v40))
  · refine s_iconst (v := 0) B.1 dX12_sendPublish_176 (by decide) ?_
    refine s_goto B.1 188 dX12_sendPublish_177 (by decide) ?_
    exact Sm.lvs [0, 1, 2, 3, 4, 5, 6, 7] rfl (sm_sendPublish_J188 B l1 l2 l3 l4 l5 l7 l8 (s0 + s1) (0 : Int32))
def R_sendPublish_J144 (l1 : Int32) (l2 : Int32) (l3 : Int32) (l4 : Int32) (l5 : Int32) (l7 : Int32) (l8 : Int32) (s0 : Int32) (s1 : Int32) : RS → Option (Int32 × RS) :=
  rA 55 l2 fun v41 =>
  if 0 ≤ v41 then (
    rA 55 l2 fun v42 =>
    R_sendPublish_J166 l1 l2 l3 l4 l5 l7 l8 (s0 + s1) ((3 : Int32) + v42)
  ) else (
    R_sendPublish_J166 l1 l2 l3 l4 l5 l7 l8 (s0 + s1) (0 : Int32)
  )
set_option maxRecDepth 10000 in
theorem sm_sendPublish_J144 {g : Gm RS Int32} (B : Br g cX12_sendPublish 13 voI (some .boolean) 2 45) (l1 : Int32) (l2 : Int32) (l3 : Int32) (l4 : Int32) (l5 : Int32) (l7 : Int32) (l8 : Int32) (s0 : Int32) (s1 : Int32) : Sm g 13 144 [(0, .ref g.1.2.2.2.2.2), (1, .int l1), (2, .int l2), (3, .int l3), (4, .int l4), (5, .int l5), (7, .int l7), (8, .int l8)] [.int s1, .int s0] (R_sendPublish_J144 l1 l2 l3 l4 l5 l7 l8 s0 s1) := by
  unfold R_sendPublish_J144
  refine s_iadd B.1 dX12_sendPublish_144 ?_
  refine s_aload_n B.1 0 dX12_sendPublish_145 rfl rfl ?_
  refine rr_getA B 55 mh_55 mn_55 mf_55 dX12_sendPublish_146 ?_
  refine s_iload_n B.1 2 dX12_sendPublish_149 rfl rfl ?_
  refine rr_iald B 55 mh_55 mk_55 dX12_sendPublish_150 (fun v41 => ?_)
  refine s_if_ge B.1 158 dX12_sendPublish_151 (by decide) ?_ ?_
  · refine s_iconst (v := 3) B.1 dX12_sendPublish_158 (by decide) ?_
    refine s_aload_n B.1 0 dX12_sendPublish_159 rfl rfl ?_
    refine rr_getA B 55 mh_55 mn_55 mf_55 dX12_sendPublish_160 ?_
    refine s_iload_n B.1 2 dX12_sendPublish_163 rfl rfl ?_
    refine rr_iald B 55 mh_55 mk_55 dX12_sendPublish_164 (fun v42 => ?_)
    refine s_iadd B.1 dX12_sendPublish_165 ?_
    exact Sm.lvs [0, 1, 2, 3, 4, 5, 6, 7] rfl (sm_sendPublish_J166 B l1 l2 l3 l4 l5 l7 l8 (s0 + s1) ((3 : Int32) + v42))
  · refine s_iconst (v := 0) B.1 dX12_sendPublish_154 (by decide) ?_
    refine s_goto B.1 166 dX12_sendPublish_155 (by decide) ?_
    exact Sm.lvs [0, 1, 2, 3, 4, 5, 6, 7] rfl (sm_sendPublish_J166 B l1 l2 l3 l4 l5 l7 l8 (s0 + s1) (0 : Int32))
def R_sendPublish_J122 (l1 : Int32) (l2 : Int32) (l3 : Int32) (l4 : Int32) (l5 : Int32) (l7 : Int32) (l8 : Int32) (s0 : Int32) (s1 : Int32) : RS → Option (Int32 × RS) :=
  rA 53 l2 fun v43 =>
  if 0 ≤ v43 then (
    rA 53 l2 fun v44 =>
    R_sendPublish_J144 l1 l2 l3 l4 l5 l7 l8 (s0 + s1) ((3 : Int32) + v44)
  ) else (
    R_sendPublish_J144 l1 l2 l3 l4 l5 l7 l8 (s0 + s1) (0 : Int32)
  )
set_option maxRecDepth 10000 in
theorem sm_sendPublish_J122 {g : Gm RS Int32} (B : Br g cX12_sendPublish 13 voI (some .boolean) 2 45) (l1 : Int32) (l2 : Int32) (l3 : Int32) (l4 : Int32) (l5 : Int32) (l7 : Int32) (l8 : Int32) (s0 : Int32) (s1 : Int32) : Sm g 13 122 [(0, .ref g.1.2.2.2.2.2), (1, .int l1), (2, .int l2), (3, .int l3), (4, .int l4), (5, .int l5), (7, .int l7), (8, .int l8)] [.int s1, .int s0] (R_sendPublish_J122 l1 l2 l3 l4 l5 l7 l8 s0 s1) := by
  unfold R_sendPublish_J122
  refine s_iadd B.1 dX12_sendPublish_122 ?_
  refine s_aload_n B.1 0 dX12_sendPublish_123 rfl rfl ?_
  refine rr_getA B 53 mh_53 mn_53 mf_53 dX12_sendPublish_124 ?_
  refine s_iload_n B.1 2 dX12_sendPublish_127 rfl rfl ?_
  refine rr_iald B 53 mh_53 mk_53 dX12_sendPublish_128 (fun v43 => ?_)
  refine s_if_ge B.1 136 dX12_sendPublish_129 (by decide) ?_ ?_
  · refine s_iconst (v := 3) B.1 dX12_sendPublish_136 (by decide) ?_
    refine s_aload_n B.1 0 dX12_sendPublish_137 rfl rfl ?_
    refine rr_getA B 53 mh_53 mn_53 mf_53 dX12_sendPublish_138 ?_
    refine s_iload_n B.1 2 dX12_sendPublish_141 rfl rfl ?_
    refine rr_iald B 53 mh_53 mk_53 dX12_sendPublish_142 (fun v44 => ?_)
    refine s_iadd B.1 dX12_sendPublish_143 ?_
    exact Sm.lvs [0, 1, 2, 3, 4, 5, 6, 7] rfl (sm_sendPublish_J144 B l1 l2 l3 l4 l5 l7 l8 (s0 + s1) ((3 : Int32) + v44))
  · refine s_iconst (v := 0) B.1 dX12_sendPublish_132 (by decide) ?_
    refine s_goto B.1 144 dX12_sendPublish_133 (by decide) ?_
    exact Sm.lvs [0, 1, 2, 3, 4, 5, 6, 7] rfl (sm_sendPublish_J144 B l1 l2 l3 l4 l5 l7 l8 (s0 + s1) (0 : Int32))
def R_sendPublish_J106 (l1 : Int32) (l2 : Int32) (l3 : Int32) (l4 : Int32) (l5 : Int32) (l7 : Int32) (l8 : Int32) (s0 : Int32) : RS → Option (Int32 × RS) :=
  rL 50 l2 fun v45 =>
  if 0 ≤ (lg_cmp v45 (0 : Int64)) then (
    R_sendPublish_J122 l1 l2 l3 l4 l5 l7 l8 s0 (5 : Int32)
  ) else (
    R_sendPublish_J122 l1 l2 l3 l4 l5 l7 l8 s0 (0 : Int32)
  )
set_option maxRecDepth 10000 in
theorem sm_sendPublish_J106 {g : Gm RS Int32} (B : Br g cX12_sendPublish 13 voI (some .boolean) 2 45) (l1 : Int32) (l2 : Int32) (l3 : Int32) (l4 : Int32) (l5 : Int32) (l7 : Int32) (l8 : Int32) (s0 : Int32) : Sm g 13 106 [(0, .ref g.1.2.2.2.2.2), (1, .int l1), (2, .int l2), (3, .int l3), (4, .int l4), (5, .int l5), (7, .int l7), (8, .int l8)] [.int s0] (R_sendPublish_J106 l1 l2 l3 l4 l5 l7 l8 s0) := by
  unfold R_sendPublish_J106
  refine s_aload_n B.1 0 dX12_sendPublish_106 rfl rfl ?_
  refine rr_getA B 50 mh_50 mn_50 mf_50 dX12_sendPublish_107 ?_
  refine s_iload_n B.1 2 dX12_sendPublish_110 rfl rfl ?_
  refine rr_lald B 50 mh_50 mk_50 dX12_sendPublish_111 (fun v45 => ?_)
  refine s_lconst (v := 0) B.1 dX12_sendPublish_112 (by decide) ?_
  refine s_lcmp B.1 dX12_sendPublish_113 ?_
  refine s_if_ge B.1 121 dX12_sendPublish_114 (by decide) ?_ ?_
  · refine s_iconst (v := 5) B.1 dX12_sendPublish_121 (by decide) ?_
    exact Sm.lvs [0, 1, 2, 3, 4, 5, 6, 7] rfl (sm_sendPublish_J122 B l1 l2 l3 l4 l5 l7 l8 s0 (5 : Int32))
  · refine s_iconst (v := 0) B.1 dX12_sendPublish_117 (by decide) ?_
    refine s_goto B.1 122 dX12_sendPublish_118 (by decide) ?_
    exact Sm.lvs [0, 1, 2, 3, 4, 5, 6, 7] rfl (sm_sendPublish_J122 B l1 l2 l3 l4 l5 l7 l8 s0 (0 : Int32))
def R_sendPublish_J84 (l1 : Int32) (l2 : Int32) (l3 : Int32) (l4 : Int32) (l5 : Int32) (l7 : Int32) : RS → Option (Int32 × RS) :=
  rA 59 l2 fun v46 =>
  rA 49 l2 fun v47 =>
  if 0 ≤ v47 then (
    R_sendPublish_J106 l1 l2 l3 l4 l5 l7 v46 (2 : Int32)
  ) else (
    R_sendPublish_J106 l1 l2 l3 l4 l5 l7 v46 (0 : Int32)
  )
set_option maxRecDepth 10000 in
theorem sm_sendPublish_J84 {g : Gm RS Int32} (B : Br g cX12_sendPublish 13 voI (some .boolean) 2 45) (l1 : Int32) (l2 : Int32) (l3 : Int32) (l4 : Int32) (l5 : Int32) (l7 : Int32) : Sm g 13 84 [(0, .ref g.1.2.2.2.2.2), (1, .int l1), (2, .int l2), (3, .int l3), (4, .int l4), (5, .int l5), (7, .int l7)] [] (R_sendPublish_J84 l1 l2 l3 l4 l5 l7) := by
  unfold R_sendPublish_J84
  refine s_aload_n B.1 0 dX12_sendPublish_84 rfl rfl ?_
  refine rr_getA B 59 mh_59 mn_59 mf_59 dX12_sendPublish_85 ?_
  refine s_iload_n B.1 2 dX12_sendPublish_88 rfl rfl ?_
  refine rr_iald B 59 mh_59 mk_59 dX12_sendPublish_89 (fun v46 => ?_)
  refine s_istore (lv' := [(8, .int v46), (0, .ref g.1.2.2.2.2.2), (1, .int l1), (2, .int l2), (3, .int l3), (4, .int l4), (5, .int l5), (7, .int l7)]) B.1 dX12_sendPublish_90 (by decide) rfl ?_
  refine s_aload_n B.1 1 dX12_sendPublish_92 rfl rfl ?_
  refine rr_getA B 49 mh_49 mn_49 mf_49 dX12_sendPublish_93 ?_
  refine s_iload_n B.1 3 dX12_sendPublish_96 rfl rfl ?_
  refine rr_iald B 49 mh_49 mk_49 dX12_sendPublish_97 (fun v47 => ?_)
  refine s_if_ge B.1 105 dX12_sendPublish_98 (by decide) ?_ ?_
  · refine s_iconst (v := 2) B.1 dX12_sendPublish_105 (by decide) ?_
    exact Sm.lvs [1, 2, 3, 4, 5, 6, 7, 0] rfl (sm_sendPublish_J106 B l1 l2 l3 l4 l5 l7 v46 (2 : Int32))
  · refine s_iconst (v := 0) B.1 dX12_sendPublish_101 (by decide) ?_
    refine s_goto B.1 106 dX12_sendPublish_102 (by decide) ?_
    exact Sm.lvs [1, 2, 3, 4, 5, 6, 7, 0] rfl (sm_sendPublish_J106 B l1 l2 l3 l4 l5 l7 v46 (0 : Int32))
def R_sendPublish_J65 (l1 : Int32) (l2 : Int32) (l3 : Int32) (l4 : Int32) (l5 : Int32) (l6 : Int32) (l7 : Int32) : RS → Option (Int32 × RS) :=
  if l3 ≤ 0 then (
    R_sendPublish_J84 l1 l2 l3 l4 l5 l7
  ) else (
    bd (R_byteOf (l6 >>> ((8 : Int32) &&& 31))) fun r48 =>
    bd (R_byteOf l6) fun r49 =>
    R_sendPublish_J84 l1 l2 l3 l4 l5 l7
  )
set_option maxRecDepth 10000 in
theorem sm_sendPublish_J65 {g : Gm RS Int32} (B : Br g cX12_sendPublish 13 voI (some .boolean) 2 45) (l1 : Int32) (l2 : Int32) (l3 : Int32) (l4 : Int32) (l5 : Int32) (l6 : Int32) (l7 : Int32) : Sm g 13 65 [(0, .ref g.1.2.2.2.2.2), (1, .int l1), (2, .int l2), (3, .int l3), (4, .int l4), (5, .int l5), (6, .int l6), (7, .int l7)] [] (R_sendPublish_J65 l1 l2 l3 l4 l5 l6 l7) := by
  unfold R_sendPublish_J65
  refine s_iload_n B.1 3 dX12_sendPublish_65 rfl rfl ?_
  refine s_if_le B.1 84 dX12_sendPublish_66 (by decide) ?_ ?_
  · exact Sm.lvs [0, 1, 2, 3, 4, 5, 7] rfl (sm_sendPublish_J84 B l1 l2 l3 l4 l5 l7)
  · refine s_aload_n B.1 0 dX12_sendPublish_69 rfl rfl ?_
    refine s_iload B.1 6 dX12_sendPublish_70 rfl ?_
    refine s_bipush (v := (8)) B.1 dX12_sendPublish_72 (by decide) ?_
    refine s_ishr B.1 dX12_sendPublish_74 ?_
    refine rr_cvv (As := [.int (l6 >>> ((8 : Int32) &&& 31))]) (st := []) B (m_byteOf B.ok (l6 >>> ((8 : Int32) &&& 31))) mc_byteOf ml_byteOf mi_byteOf me_byteOf ini12 md_byteOf (by decide) rfl (Nat.le_of_ble_eq_true rfl) dX12_sendPublish_75 (fun r48 => ?_)
    refine s_aload_n B.1 0 dX12_sendPublish_78 rfl rfl ?_
    refine s_iload B.1 6 dX12_sendPublish_79 rfl ?_
    refine rr_cvv (As := [.int l6]) (st := []) B (m_byteOf B.ok l6) mc_byteOf ml_byteOf mi_byteOf me_byteOf ini12 md_byteOf (by decide) rfl (Nat.le_of_ble_eq_true rfl) dX12_sendPublish_81 (fun r49 => ?_)
    exact Sm.lvs [0, 1, 2, 3, 4, 5, 7] rfl (sm_sendPublish_J84 B l1 l2 l3 l4 l5 l7)
def R_sendPublish_B31 (kb : Int32 → Int32 → Int32 → Int32 → Int32 → Int32 → Int32 → Int32 → RS → Option (Int32 × RS)) (ke65 : Int32 → Int32 → Int32 → Int32 → Int32 → Int32 → Int32 → RS → Option (Int32 × RS)) (l1 : Int32) (l2 : Int32) (l3 : Int32) (l4 : Int32) (l5 : Int32) (l6 : Int32) (l7 : Int32) (l8 : Int32) : RS → Option (Int32 × RS) :=
  rA 46 l2 fun v50 =>
  if v50 ≤ l8 then (
    ke65 l1 l2 l3 l4 l5 l6 l7
  ) else (
    rA 45 (((480 : Int32) * l2) + l8) fun v51 =>
    bd (R_byteOf v51) fun r52 =>
    kb l1 l2 l3 l4 l5 l6 l7 (l8 + 1)
  )
def R_sendPublish_L31 (ke65 : Int32 → Int32 → Int32 → Int32 → Int32 → Int32 → Int32 → RS → Option (Int32 × RS)) : Nat → Int32 → Int32 → Int32 → Int32 → Int32 → Int32 → Int32 → Int32 → RS → Option (Int32 × RS)
  | 0, _, _, _, _, _, _, _, _ => no
  | n + 1, l1, l2, l3, l4, l5, l6, l7, l8 => R_sendPublish_B31 (fun l1 l2 l3 l4 l5 l6 l7 l8 => R_sendPublish_L31 ke65 n l1 l2 l3 l4 l5 l6 l7 l8) ke65 l1 l2 l3 l4 l5 l6 l7 l8
set_option maxRecDepth 10000 in
theorem sm_sendPublish_B31 {g : Gm RS Int32} {kb : Int32 → Int32 → Int32 → Int32 → Int32 → Int32 → Int32 → Int32 → RS → Option (Int32 × RS)} {ke65 : Int32 → Int32 → Int32 → Int32 → Int32 → Int32 → Int32 → RS → Option (Int32 × RS)} (B : Br g cX12_sendPublish 13 voI (some .boolean) 2 45) (hkb : ∀ (l1 : Int32) (l2 : Int32) (l3 : Int32) (l4 : Int32) (l5 : Int32) (l6 : Int32) (l7 : Int32) (l8 : Int32), Sm g 13 31 [(0, .ref g.1.2.2.2.2.2), (1, .int l1), (2, .int l2), (3, .int l3), (4, .int l4), (5, .int l5), (6, .int l6), (7, .int l7), (8, .int l8)] [] (kb l1 l2 l3 l4 l5 l6 l7 l8)) (hke65 : ∀ (l1 : Int32) (l2 : Int32) (l3 : Int32) (l4 : Int32) (l5 : Int32) (l6 : Int32) (l7 : Int32), Sm g 13 65 [(0, .ref g.1.2.2.2.2.2), (1, .int l1), (2, .int l2), (3, .int l3), (4, .int l4), (5, .int l5), (6, .int l6), (7, .int l7)] [] (ke65 l1 l2 l3 l4 l5 l6 l7)) (l1 : Int32) (l2 : Int32) (l3 : Int32) (l4 : Int32) (l5 : Int32) (l6 : Int32) (l7 : Int32) (l8 : Int32) : Sm g 13 31 [(0, .ref g.1.2.2.2.2.2), (1, .int l1), (2, .int l2), (3, .int l3), (4, .int l4), (5, .int l5), (6, .int l6), (7, .int l7), (8, .int l8)] [] (R_sendPublish_B31 kb ke65 l1 l2 l3 l4 l5 l6 l7 l8) := by
  unfold R_sendPublish_B31
  refine s_iload B.1 8 dX12_sendPublish_31 rfl ?_
  refine s_aload_n B.1 0 dX12_sendPublish_33 rfl rfl ?_
  refine rr_getA B 46 mh_46 mn_46 mf_46 dX12_sendPublish_34 ?_
  refine s_iload_n B.1 2 dX12_sendPublish_37 rfl rfl ?_
  refine rr_iald B 46 mh_46 mk_46 dX12_sendPublish_38 (fun v50 => ?_)
  refine s_icmp_ge B.1 65 dX12_sendPublish_39 (by decide) ?_ ?_
  · exact Sm.lvs [0, 1, 2, 3, 4, 5, 6, 7] rfl (hke65 l1 l2 l3 l4 l5 l6 l7)
  · refine s_aload_n B.1 0 dX12_sendPublish_42 rfl rfl ?_
    refine s_aload_n B.1 0 dX12_sendPublish_43 rfl rfl ?_
    refine rr_getA B 45 mh_45 mn_45 mf_45 dX12_sendPublish_44 ?_
    refine s_sipush (v := (480)) B.1 dX12_sendPublish_47 (by decide) ?_
    refine s_iload_n B.1 2 dX12_sendPublish_50 rfl rfl ?_
    refine s_imul B.1 dX12_sendPublish_51 ?_
    refine s_iload B.1 8 dX12_sendPublish_52 rfl ?_
    refine s_iadd B.1 dX12_sendPublish_54 ?_
    refine rr_bald B 45 mh_45 mk_45 dX12_sendPublish_55 (fun v51 => ?_)
    refine rr_cvv (As := [.int v51]) (st := []) B (m_byteOf B.ok v51) mc_byteOf ml_byteOf mi_byteOf me_byteOf ini12 md_byteOf (by decide) rfl (Nat.le_of_ble_eq_true rfl) dX12_sendPublish_56 (fun r52 => ?_)
    refine s_iinc (v := l8 + 1) (lv' := [(8, .int (l8 + 1)), (0, .ref g.1.2.2.2.2.2), (1, .int l1), (2, .int l2), (3, .int l3), (4, .int l4), (5, .int l5), (6, .int l6), (7, .int l7)]) B.1 8 dX12_sendPublish_59 rfl rfl (by decide) rfl ?_
    refine s_goto B.1 31 dX12_sendPublish_62 (by decide) ?_
    exact Sm.lvs [1, 2, 3, 4, 5, 6, 7, 8, 0] rfl (hkb l1 l2 l3 l4 l5 l6 l7 (l8 + 1))
set_option maxRecDepth 10000 in
theorem sm_sendPublish_L31 {g : Gm RS Int32} {ke65 : Int32 → Int32 → Int32 → Int32 → Int32 → Int32 → Int32 → RS → Option (Int32 × RS)} (B : Br g cX12_sendPublish 13 voI (some .boolean) 2 45) (hke65 : ∀ (l1 : Int32) (l2 : Int32) (l3 : Int32) (l4 : Int32) (l5 : Int32) (l6 : Int32) (l7 : Int32), Sm g 13 65 [(0, .ref g.1.2.2.2.2.2), (1, .int l1), (2, .int l2), (3, .int l3), (4, .int l4), (5, .int l5), (6, .int l6), (7, .int l7)] [] (ke65 l1 l2 l3 l4 l5 l6 l7)) : ∀ (n : Nat) (l1 : Int32) (l2 : Int32) (l3 : Int32) (l4 : Int32) (l5 : Int32) (l6 : Int32) (l7 : Int32) (l8 : Int32), Sm g 13 31 [(0, .ref g.1.2.2.2.2.2), (1, .int l1), (2, .int l2), (3, .int l3), (4, .int l4), (5, .int l5), (6, .int l6), (7, .int l7), (8, .int l8)] [] (R_sendPublish_L31 ke65 n l1 l2 l3 l4 l5 l6 l7 l8)
  | 0, _, _, _, _, _, _, _, _ => Sm.fail
  | n + 1, l1, l2, l3, l4, l5, l6, l7, l8 => sm_sendPublish_B31 B (sm_sendPublish_L31 B hke65 n) hke65 l1 l2 l3 l4 l5 l6 l7 l8
def R_sendPublish (l1 : Int32) (l2 : Int32) (l3 : Int32) (l4 : Int32) (l5 : Int32) (l6 : Int32) (l7 : Int32) : RS → Option (Int32 × RS) :=
  wI 91 ((0 : Int32)) <|
  rA 46 l2 fun v53 =>
  bd (R_byteOf (v53 >>> ((8 : Int32) &&& 31))) fun r54 =>
  rA 46 l2 fun v55 =>
  bd (R_byteOf v55) fun r56 =>
  R_sendPublish_L31 (fun l1 l2 l3 l4 l5 l6 l7 => R_sendPublish_J65 l1 l2 l3 l4 l5 l6 l7) fu l1 l2 l3 l4 l5 l6 l7 (0 : Int32)
set_option maxRecDepth 10000 in
theorem m_sendPublish {w : Wd} (hw : Wok w) (l1 : Int32) (l2 : Int32) (l3 : Int32) (l4 : Int32) (l5 : Int32) (l6 : Int32) (l7 : Int32) : MR w yX12_sendPublish cX12_sendPublish 13 (some .boolean) 2 45 voI [.ref w.2.2.2.2.2, .int l1, .int l2, .int l3, .int l4, .int l5, .int l6, .int l7] (R_sendPublish l1 l2 l3 l4 l5 l6 l7) := by
  refine MR.of hw rfl (Nat.le_of_ble_eq_true rfl) (fun g hg B => ?_)
  subst hg
  unfold R_sendPublish
  show Sm g 13 0 [(0, .ref g.1.2.2.2.2.2), (1, .int l1), (2, .int l2), (3, .int l3), (4, .int l4), (5, .int l5), (6, .int l6), (7, .int l7)] [] _
  refine s_aload_n B.1 0 dX12_sendPublish_0 rfl rfl ?_
  refine s_iconst (v := 0) B.1 dX12_sendPublish_1 (by decide) ?_
  refine rr_putI B 91 mh_91 mk_91 mf_91 dX12_sendPublish_2 ?_
  refine s_aload_n B.1 0 dX12_sendPublish_5 rfl rfl ?_
  refine s_aload_n B.1 0 dX12_sendPublish_6 rfl rfl ?_
  refine rr_getA B 46 mh_46 mn_46 mf_46 dX12_sendPublish_7 ?_
  refine s_iload_n B.1 2 dX12_sendPublish_10 rfl rfl ?_
  refine rr_iald B 46 mh_46 mk_46 dX12_sendPublish_11 (fun v53 => ?_)
  refine s_bipush (v := (8)) B.1 dX12_sendPublish_12 (by decide) ?_
  refine s_ishr B.1 dX12_sendPublish_14 ?_
  refine rr_cvv (As := [.int (v53 >>> ((8 : Int32) &&& 31))]) (st := []) B (m_byteOf B.ok (v53 >>> ((8 : Int32) &&& 31))) mc_byteOf ml_byteOf mi_byteOf me_byteOf ini12 md_byteOf (by decide) rfl (Nat.le_of_ble_eq_true rfl) dX12_sendPublish_15 (fun r54 => ?_)
  refine s_aload_n B.1 0 dX12_sendPublish_18 rfl rfl ?_
  refine s_aload_n B.1 0 dX12_sendPublish_19 rfl rfl ?_
  refine rr_getA B 46 mh_46 mn_46 mf_46 dX12_sendPublish_20 ?_
  refine s_iload_n B.1 2 dX12_sendPublish_23 rfl rfl ?_
  refine rr_iald B 46 mh_46 mk_46 dX12_sendPublish_24 (fun v55 => ?_)
  refine rr_cvv (As := [.int v55]) (st := []) B (m_byteOf B.ok v55) mc_byteOf ml_byteOf mi_byteOf me_byteOf ini12 md_byteOf (by decide) rfl (Nat.le_of_ble_eq_true rfl) dX12_sendPublish_25 (fun r56 => ?_)
  refine s_iconst (v := 0) B.1 dX12_sendPublish_28 (by decide) ?_
  refine s_istore (lv' := [(8, .int (0 : Int32)), (0, .ref g.1.2.2.2.2.2), (1, .int l1), (2, .int l2), (3, .int l3), (4, .int l4), (5, .int l5), (6, .int l6), (7, .int l7)]) B.1 dX12_sendPublish_29 (by decide) rfl ?_
  exact Sm.lvs [1, 2, 3, 4, 5, 6, 7, 8, 0] rfl (sm_sendPublish_L31 B (fun l1 l2 l3 l4 l5 l6 l7 => sm_sendPublish_J65 B l1 l2 l3 l4 l5 l6 l7) fu l1 l2 l3 l4 l5 l6 l7 (0 : Int32))
