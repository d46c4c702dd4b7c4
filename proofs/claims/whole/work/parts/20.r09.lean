def R_expiry_J14 (l1 : Int32) (s1 : Int32) : RS → Option (Int64 × RS) :=
  bd (R_refuses s1) fun r1 =>
  if r1 = 0 then (
    rL 16 l1 fun v2 =>
    rt (v2)
  ) else (
    rt ((0 : Int64))
  )
set_option maxRecDepth 10000 in
theorem sm_expiry_J14 {g : Gm RS Int64} (B : Br g cX12_expiry 2 voL (some .long) 1 21) (l1 : Int32) (s1 : Int32) : Sm g 2 14 [(0, .ref g.1.2.2.2.2.2), (1, .int l1)] [.int s1, .ref g.1.2.2.2.2.2] (R_expiry_J14 l1 s1) := by
  unfold R_expiry_J14
  refine rr_cvi (As := [.int s1]) (st := []) B (m_refuses B.ok s1) mc_refuses ml_refuses mi_refuses me_refuses ini12 md_refuses (by decide) rfl (Nat.le_of_ble_eq_true rfl) dX12_expiry_14 (fun r1 => ?_)
  refine s_if_eq B.1 24 dX12_expiry_17 (by decide) ?_ ?_
  · refine s_aload_n B.1 0 dX12_expiry_24 rfl rfl ?_
    refine rr_getA B 16 mh_16 mn_16 mf_16 dX12_expiry_25 ?_
    refine s_iload_n B.1 1 dX12_expiry_28 rfl rfl ?_
    refine rr_lald B 16 mh_16 mk_16 dX12_expiry_29 (fun v2 => ?_)
    exact s_lret B.1 B.2.1 dX12_expiry_30
  · refine s_lconst (v := 0) B.1 dX12_expiry_20 (by decide) ?_
    refine s_goto B.1 30 dX12_expiry_21 (by decide) ?_
    exact s_lret B.1 B.2.1 dX12_expiry_30
def R_expiry (l1 : Int32) : RS → Option (Int64 × RS) :=
  bd (R_hasSession l1) fun r3 =>
  if r3 = 0 then (
    R_expiry_J14 l1 (1 : Int32)
  ) else (
    R_expiry_J14 l1 (0 : Int32)
  )
set_option maxRecDepth 10000 in
theorem m_expiry {w : Wd} (hw : Wok w) (l1 : Int32) : MR w yX12_expiry cX12_expiry 2 (some .long) 1 21 voL [.ref w.2.2.2.2.2, .int l1] (R_expiry l1) := by
  refine MR.of hw rfl (Nat.le_of_ble_eq_true rfl) (fun g hg B => ?_)
  subst hg
  unfold R_expiry
  show Sm g 2 0 [(0, .ref g.1.2.2.2.2.2), (1, .int l1)] [] _
  refine s_aload_n B.1 0 dX12_expiry_0 rfl rfl ?_
  refine s_aload_n B.1 0 dX12_expiry_1 rfl rfl ?_
  refine s_iload_n B.1 1 dX12_expiry_2 rfl rfl ?_
  refine rr_cvi (As := [.int l1]) (st := [.ref g.1.2.2.2.2.2]) B (m_hasSession B.ok l1) mc_hasSession ml_hasSession mi_hasSession me_hasSession ini12 md_hasSession (by decide) rfl (Nat.le_of_ble_eq_true rfl) dX12_expiry_3 (fun r3 => ?_)
  refine s_if_eq B.1 13 dX12_expiry_6 (by decide) ?_ ?_
  · refine s_iconst (v := 1) B.1 dX12_expiry_13 (by decide) ?_
    exact Sm.lvs [0, 1] rfl (sm_expiry_J14 B l1 (1 : Int32))
  · refine s_iconst (v := 0) B.1 dX12_expiry_9 (by decide) ?_
    refine s_goto B.1 14 dX12_expiry_10 (by decide) ?_
    exact Sm.lvs [0, 1] rfl (sm_expiry_J14 B l1 (0 : Int32))
def R_id_J14 (l1 : Int32) (l2 : Int32) (s1 : Int32) : RS → Option (Int32 × RS) :=
  bd (R_refuses s1) fun r1 =>
  if r1 = 0 then (
    if l2 < 0 then (
      rt ((-1 : Int32))
    ) else (
      rA 13 l1 fun v2 =>
      if v2 ≤ l2 then (
        rt ((-1 : Int32))
      ) else (
        rA 14 (((20 : Int32) * l1) + l2) fun v3 =>
        rt (v3 &&& (255 : Int32))
      )
    )
  ) else (
    rt ((0 : Int32))
  )
set_option maxRecDepth 10000 in
theorem sm_id_J14 {g : Gm RS Int32} (B : Br g cX12_id 3 voI (some .int) 1 21) (l1 : Int32) (l2 : Int32) (s1 : Int32) : Sm g 3 14 [(0, .ref g.1.2.2.2.2.2), (1, .int l1), (2, .int l2)] [.int s1, .ref g.1.2.2.2.2.2] (R_id_J14 l1 l2 s1) := by
  unfold R_id_J14
  refine rr_cvi (As := [.int s1]) (st := []) B (m_refuses B.ok s1) mc_refuses ml_refuses mi_refuses me_refuses ini12 md_refuses (by decide) rfl (Nat.le_of_ble_eq_true rfl) dX12_id_14 (fun r1 => ?_)
  refine s_if_eq B.1 22 dX12_id_17 (by decide) ?_ ?_
  · refine s_iload_n B.1 2 dX12_id_22 rfl rfl ?_
    refine s_if_lt B.1 54 dX12_id_23 (by decide) ?_ ?_
    · refine s_iconst (v := (-1)) B.1 dX12_id_54 (by decide) ?_
      exact s_iret B.1 B.2.1 dX12_id_55
    · refine s_iload_n B.1 2 dX12_id_26 rfl rfl ?_
      refine s_aload_n B.1 0 dX12_id_27 rfl rfl ?_
      refine rr_getA B 13 mh_13 mn_13 mf_13 dX12_id_28 ?_
      refine s_iload_n B.1 1 dX12_id_31 rfl rfl ?_
      refine rr_iald B 13 mh_13 mk_13 dX12_id_32 (fun v2 => ?_)
      refine s_icmp_ge B.1 54 dX12_id_33 (by decide) ?_ ?_
      · refine s_iconst (v := (-1)) B.1 dX12_id_54 (by decide) ?_
        exact s_iret B.1 B.2.1 dX12_id_55
      · refine s_aload_n B.1 0 dX12_id_36 rfl rfl ?_
        refine rr_getA B 14 mh_14 mn_14 mf_14 dX12_id_37 ?_
        refine s_bipush (v := (20)) B.1 dX12_id_40 (by decide) ?_
        refine s_iload_n B.1 1 dX12_id_42 rfl rfl ?_
        refine s_imul B.1 dX12_id_43 ?_
        refine s_iload_n B.1 2 dX12_id_44 rfl rfl ?_
        refine s_iadd B.1 dX12_id_45 ?_
        refine rr_bald B 14 mh_14 mk_14 dX12_id_46 (fun v3 => ?_)
        refine s_sipush (v := (255)) B.1 dX12_id_47 (by decide) ?_
        refine s_iand B.1 dX12_id_50 ?_
        refine s_goto B.1 55 dX12_id_51 (by decide) ?_
        exact s_iret B.1 B.2.1 dX12_id_55
  · refine s_iconst (v := 0) B.1 dX12_id_20 (by decide) ?_
    exact s_iret B.1 B.2.1 dX12_id_21
def R_id (l1 : Int32) (l2 : Int32) : RS → Option (Int32 × RS) :=
  bd (R_hasSession l1) fun r4 =>
  if r4 = 0 then (
    R_id_J14 l1 l2 (1 : Int32)
  ) else (
    R_id_J14 l1 l2 (0 : Int32)
  )
set_option maxRecDepth 10000 in
theorem m_id {w : Wd} (hw : Wok w) (l1 : Int32) (l2 : Int32) : MR w yX12_id cX12_id 3 (some .int) 1 21 voI [.ref w.2.2.2.2.2, .int l1, .int l2] (R_id l1 l2) := by
  refine MR.of hw rfl (Nat.le_of_ble_eq_true rfl) (fun g hg B => ?_)
  subst hg
  unfold R_id
  show Sm g 3 0 [(0, .ref g.1.2.2.2.2.2), (1, .int l1), (2, .int l2)] [] _
  refine s_aload_n B.1 0 dX12_id_0 rfl rfl ?_
  refine s_aload_n B.1 0 dX12_id_1 rfl rfl ?_
  refine s_iload_n B.1 1 dX12_id_2 rfl rfl ?_
  refine rr_cvi (As := [.int l1]) (st := [.ref g.1.2.2.2.2.2]) B (m_hasSession B.ok l1) mc_hasSession ml_hasSession mi_hasSession me_hasSession ini12 md_hasSession (by decide) rfl (Nat.le_of_ble_eq_true rfl) dX12_id_3 (fun r4 => ?_)
  refine s_if_eq B.1 13 dX12_id_6 (by decide) ?_ ?_
  · refine s_iconst (v := 1) B.1 dX12_id_13 (by decide) ?_
    exact Sm.lvs [0, 1, 2] rfl (sm_id_J14 B l1 l2 (1 : Int32))
  · refine s_iconst (v := 0) B.1 dX12_id_9 (by decide) ?_
    refine s_goto B.1 14 dX12_id_10 (by decide) ?_
    exact Sm.lvs [0, 1, 2] rfl (sm_id_J14 B l1 l2 (0 : Int32))
def R_hasSub (l1 : Int32) (l2 : Int32) : RS → Option (Int32 × RS) :=
  bd (R_hasSession l1) fun r1 =>
  if r1 = 0 then (
    zt ((0 : Int32))
  ) else (
    if l2 < 0 then (
      zt ((0 : Int32))
    ) else (
      rA 24 l1 fun v2 =>
      if v2 ≤ l2 then (
        zt ((0 : Int32))
      ) else (
        zt ((1 : Int32))
      )
    )
  )
set_option maxRecDepth 10000 in
theorem m_hasSub {w : Wd} (hw : Wok w) (l1 : Int32) (l2 : Int32) : MR w yX12_hasSub cX12_hasSub 3 (some .boolean) 1 21 voI [.ref w.2.2.2.2.2, .int l1, .int l2] (R_hasSub l1 l2) := by
  refine MR.of hw rfl (Nat.le_of_ble_eq_true rfl) (fun g hg B => ?_)
  subst hg
  unfold R_hasSub
  show Sm g 3 0 [(0, .ref g.1.2.2.2.2.2), (1, .int l1), (2, .int l2)] [] _
  refine s_aload_n B.1 0 dX12_hasSub_0 rfl rfl ?_
  refine s_iload_n B.1 1 dX12_hasSub_1 rfl rfl ?_
  refine rr_cvi (As := [.int l1]) (st := []) B (m_hasSession B.ok l1) mc_hasSession ml_hasSession mi_hasSession me_hasSession ini12 md_hasSession (by decide) rfl (Nat.le_of_ble_eq_true rfl) dX12_hasSub_2 (fun r1 => ?_)
  refine s_if_eq B.1 26 dX12_hasSub_5 (by decide) ?_ ?_
  · refine s_iconst (v := 0) B.1 dX12_hasSub_26 (by decide) ?_
    exact s_zret B.1 B.2.1 dX12_hasSub_27
  · refine s_iload_n B.1 2 dX12_hasSub_8 rfl rfl ?_
    refine s_if_lt B.1 26 dX12_hasSub_9 (by decide) ?_ ?_
    · refine s_iconst (v := 0) B.1 dX12_hasSub_26 (by decide) ?_
      exact s_zret B.1 B.2.1 dX12_hasSub_27
    · refine s_iload_n B.1 2 dX12_hasSub_12 rfl rfl ?_
      refine s_aload_n B.1 0 dX12_hasSub_13 rfl rfl ?_
      refine rr_getA B 24 mh_24 mn_24 mf_24 dX12_hasSub_14 ?_
      refine s_iload_n B.1 1 dX12_hasSub_17 rfl rfl ?_
      refine rr_iald B 24 mh_24 mk_24 dX12_hasSub_18 (fun v2 => ?_)
      refine s_icmp_ge B.1 26 dX12_hasSub_19 (by decide) ?_ ?_
      · refine s_iconst (v := 0) B.1 dX12_hasSub_26 (by decide) ?_
        exact s_zret B.1 B.2.1 dX12_hasSub_27
      · refine s_iconst (v := 1) B.1 dX12_hasSub_22 (by decide) ?_
        refine s_goto B.1 27 dX12_hasSub_23 (by decide) ?_
        exact s_zret B.1 B.2.1 dX12_hasSub_27
def R_subscription_J28 (l1 : Int32) (l2 : Int32) (l3 : Int32) (s1 : Int32) : RS → Option (Int32 × RS) :=
  bd (R_refuses s1) fun r1 =>
  if r1 = 0 then (
    lq (((8 : Int32) * l1) + l2) fun x2 =>
    if l3 = 0 then (
      rA 27 x2 fun v6 =>
      rt (v6)
    ) else (
      if l3 = (1 : Int32) then (
        rA 28 x2 fun v5 =>
        rt (v5)
      ) else (
        if l3 = (2 : Int32) then (
          rA 25 x2 fun v4 =>
          rt (v4)
        ) else (
          rA 29 x2 fun v3 =>
          rt (v3)
        )
      )
    )
  ) else (
    rt ((0 : Int32))
  )
set_option maxRecDepth 10000 in
theorem sm_subscription_J28 {g : Gm RS Int32} (B : Br g cX12_subscription 5 voI (some .int) 2 43) (l1 : Int32) (l2 : Int32) (l3 : Int32) (s1 : Int32) : Sm g 5 28 [(0, .ref g.1.2.2.2.2.2), (1, .int l1), (2, .int l2), (3, .int l3)] [.int s1, .ref g.1.2.2.2.2.2] (R_subscription_J28 l1 l2 l3 s1) := by
  unfold R_subscription_J28
  refine rr_cvi (As := [.int s1]) (st := []) B (m_refuses B.ok s1) mc_refuses ml_refuses mi_refuses me_refuses ini12 md_refuses (by decide) rfl (Nat.le_of_ble_eq_true rfl) dX12_subscription_28 (fun r1 => ?_)
  refine s_if_eq B.1 36 dX12_subscription_31 (by decide) ?_ ?_
  · refine s_bipush (v := (8)) B.1 dX12_subscription_36 (by decide) ?_
    refine s_iload_n B.1 1 dX12_subscription_38 rfl rfl ?_
    refine s_imul B.1 dX12_subscription_39 ?_
    refine s_iload_n B.1 2 dX12_subscription_40 rfl rfl ?_
    refine s_iadd B.1 dX12_subscription_41 ?_
    refine s_lqi (fun x2 => ?_)
    refine s_istore (lv' := [(4, .int x2), (0, .ref g.1.2.2.2.2.2), (1, .int l1), (2, .int l2), (3, .int l3)]) B.1 dX12_subscription_42 (by decide) rfl ?_
    refine s_iload_n B.1 4 dX12_subscription_44 rfl rfl ?_
    refine s_if_ne B.1 58 dX12_subscription_45 (by decide) ?_ ?_
    · refine s_iload_n B.1 4 dX12_subscription_58 rfl rfl ?_
      refine s_iconst (v := 1) B.1 dX12_subscription_59 (by decide) ?_
      refine s_icmp_ne B.1 73 dX12_subscription_60 (by decide) ?_ ?_
      · refine s_iload_n B.1 4 dX12_subscription_73 rfl rfl ?_
        refine s_iconst (v := 2) B.1 dX12_subscription_74 (by decide) ?_
        refine s_icmp_ne B.1 88 dX12_subscription_75 (by decide) ?_ ?_
        · refine s_aload_n B.1 1 dX12_subscription_88 rfl rfl ?_
          refine rr_getA B 29 mh_29 mn_29 mf_29 dX12_subscription_89 ?_
          refine s_iload B.1 0 dX12_subscription_92 rfl ?_
          refine rr_iald B 29 mh_29 mk_29 dX12_subscription_94 (fun v3 => ?_)
          exact s_iret B.1 B.2.1 dX12_subscription_95
        · refine s_aload_n B.1 1 dX12_subscription_78 rfl rfl ?_
          refine rr_getA B 25 mh_25 mn_25 mf_25 dX12_subscription_79 ?_
          refine s_iload B.1 0 dX12_subscription_82 rfl ?_
          refine rr_iald B 25 mh_25 mk_25 dX12_subscription_84 (fun v4 => ?_)
          refine s_goto B.1 95 dX12_subscription_85 (by decide) ?_
          exact s_iret B.1 B.2.1 dX12_subscription_95
      · refine s_aload_n B.1 1 dX12_subscription_63 rfl rfl ?_
        refine rr_getA B 28 mh_28 mn_28 mf_28 dX12_subscription_64 ?_
        refine s_iload B.1 0 dX12_subscription_67 rfl ?_
        refine rr_iald B 28 mh_28 mk_28 dX12_subscription_69 (fun v5 => ?_)
        refine s_goto B.1 95 dX12_subscription_70 (by decide) ?_
        exact s_iret B.1 B.2.1 dX12_subscription_95
    · refine s_aload_n B.1 1 dX12_subscription_48 rfl rfl ?_
      refine rr_getA B 27 mh_27 mn_27 mf_27 dX12_subscription_49 ?_
      refine s_iload B.1 0 dX12_subscription_52 rfl ?_
      refine rr_iald B 27 mh_27 mk_27 dX12_subscription_54 (fun v6 => ?_)
      refine s_goto B.1 95 dX12_subscription_55 (by decide) ?_
      exact s_iret B.1 B.2.1 dX12_subscription_95
  · refine s_iconst (v := 0) B.1 dX12_subscription_34 (by decide) ?_
    exact s_iret B.1 B.2.1 dX12_subscription_35
def R_subscription_J23 (l1 : Int32) (l2 : Int32) (l3 : Int32) : RS → Option (Int32 × RS) :=
  R_subscription_J28 l1 l2 l3 (2 : Int32)
set_option maxRecDepth 10000 in
theorem sm_subscription_J23 {g : Gm RS Int32} (B : Br g cX12_subscription 5 voI (some .int) 2 43) (l1 : Int32) (l2 : Int32) (l3 : Int32) : Sm g 5 23 [(0, .ref g.1.2.2.2.2.2), (1, .int l1), (2, .int l2), (3, .int l3)] [.ref g.1.2.2.2.2.2] (R_subscription_J23 l1 l2 l3) := by
  unfold R_subscription_J23
  refine s_iconst (v := 2) B.1 dX12_subscription_23 (by decide) ?_
  refine s_goto B.1 28 dX12_subscription_24 (by decide) ?_
  exact Sm.lvs [0, 1, 2, 3] rfl (sm_subscription_J28 B l1 l2 l3 (2 : Int32))
def R_subscription (l1 : Int32) (l2 : Int32) (l3 : Int32) : RS → Option (Int32 × RS) :=
  bd (R_hasSub l1 l2) fun r7 =>
  if r7 = 0 then (
    R_subscription_J28 l1 l2 l3 (1 : Int32)
  ) else (
    if l3 < 0 then (
      R_subscription_J23 l1 l2 l3
    ) else (
      if l3 ≤ (3 : Int32) then (
        R_subscription_J28 l1 l2 l3 (0 : Int32)
      ) else (
        R_subscription_J23 l1 l2 l3
      )
    )
  )
set_option maxRecDepth 10000 in
theorem m_subscription {w : Wd} (hw : Wok w) (l1 : Int32) (l2 : Int32) (l3 : Int32) : MR w yX12_subscription cX12_subscription 5 (some .int) 2 43 voI [.ref w.2.2.2.2.2, .int l1, .int l2, .int l3] (R_subscription l1 l2 l3) := by
  refine MR.of hw rfl (Nat.le_of_ble_eq_true rfl) (fun g hg B => ?_)
  subst hg
  unfold R_subscription
  show Sm g 5 0 [(0, .ref g.1.2.2.2.2.2), (1, .int l1), (2, .int l2), (3, .int l3)] [] _
  refine s_aload_n B.1 0 dX12_subscription_0 rfl rfl ?_
  refine s_aload_n B.1 0 dX12_subscription_1 rfl rfl ?_
  refine s_iload_n B.1 1 dX12_subscription_2 rfl rfl ?_
  refine s_iload_n B.1 2 dX12_subscription_3 rfl rfl ?_
  refine rr_cvi (As := [.int l1, .int l2]) (st := [.ref g.1.2.2.2.2.2]) B (m_hasSub B.ok l1 l2) mc_hasSub ml_hasSub mi_hasSub me_hasSub ini12 md_hasSub (by decide) rfl (Nat.le_of_ble_eq_true rfl) dX12_subscription_4 (fun r7 => ?_)
  refine s_if_ne B.1 14 dX12_subscription_7 (by decide) ?_ ?_
  · refine s_iload_n B.1 3 dX12_subscription_14 rfl rfl ?_
    refine s_if_lt B.1 23 dX12_subscription_15 (by decide) ?_ ?_
    · exact Sm.lvs [0, 1, 2, 3] rfl (sm_subscription_J23 B l1 l2 l3)
    · refine s_iload_n B.1 3 dX12_subscription_18 rfl rfl ?_
      refine s_iconst (v := 3) B.1 dX12_subscription_19 (by decide) ?_
      refine s_icmp_le B.1 27 dX12_subscription_20 (by decide) ?_ ?_
      · refine s_iconst (v := 0) B.1 dX12_subscription_27 (by decide) ?_
        exact Sm.lvs [0, 1, 2, 3] rfl (sm_subscription_J28 B l1 l2 l3 (0 : Int32))
      · exact Sm.lvs [0, 1, 2, 3] rfl (sm_subscription_J23 B l1 l2 l3)
  · refine s_iconst (v := 1) B.1 dX12_subscription_10 (by decide) ?_
    refine s_goto B.1 28 dX12_subscription_11 (by decide) ?_
    exact Sm.lvs [0, 1, 2, 3] rfl (sm_subscription_J28 B l1 l2 l3 (1 : Int32))
def R_filter_J15 (l1 : Int32) (l2 : Int32) (l3 : Int32) (s1 : Int32) : RS → Option (Int32 × RS) :=
  bd (R_refuses s1) fun r1 =>
  if r1 = 0 then (
    lq (((8 : Int32) * l1) + l2) fun x2 =>
    if l3 < 0 then (
      rt ((-1 : Int32))
    ) else (
      rA 25 x2 fun v3 =>
      if v3 ≤ l3 then (
        rt ((-1 : Int32))
      ) else (
        rA 26 (((64 : Int32) * x2) + l3) fun v4 =>
        rt (v4 &&& (255 : Int32))
      )
    )
  ) else (
    rt ((0 : Int32))
  )
set_option maxRecDepth 10000 in
theorem sm_filter_J15 {g : Gm RS Int32} (B : Br g cX12_filter 5 voI (some .int) 2 43) (l1 : Int32) (l2 : Int32) (l3 : Int32) (s1 : Int32) : Sm g 5 15 [(0, .ref g.1.2.2.2.2.2), (1, .int l1), (2, .int l2), (3, .int l3)] [.int s1, .ref g.1.2.2.2.2.2] (R_filter_J15 l1 l2 l3 s1) := by
  unfold R_filter_J15
  refine rr_cvi (As := [.int s1]) (st := []) B (m_refuses B.ok s1) mc_refuses ml_refuses mi_refuses me_refuses ini12 md_refuses (by decide) rfl (Nat.le_of_ble_eq_true rfl) dX12_filter_15 (fun r1 => ?_)
  refine s_if_eq B.1 23 dX12_filter_18 (by decide) ?_ ?_
  · refine s_bipush (v := (8)) B.1 dX12_filter_23 (by decide) ?_
    refine s_iload_n B.1 1 dX12_filter_25 rfl rfl ?_
    refine s_imul B.1 dX12_filter_26 ?_
    refine s_iload_n B.1 2 dX12_filter_27 rfl rfl ?_
    refine s_iadd B.1 dX12_filter_28 ?_
    refine s_lqi (fun x2 => ?_)
    refine s_istore (lv' := [(4, .int x2), (0, .ref g.1.2.2.2.2.2), (1, .int l1), (2, .int l2), (3, .int l3)]) B.1 dX12_filter_29 (by decide) rfl ?_
    refine s_iload_n B.1 4 dX12_filter_31 rfl rfl ?_
    refine s_if_lt B.1 65 dX12_filter_32 (by decide) ?_ ?_
    · refine s_iconst (v := (-1)) B.1 dX12_filter_65 (by decide) ?_
      exact s_iret B.1 B.2.1 dX12_filter_66
    · refine s_iload_n B.1 4 dX12_filter_35 rfl rfl ?_
      refine s_aload_n B.1 1 dX12_filter_36 rfl rfl ?_
      refine rr_getA B 25 mh_25 mn_25 mf_25 dX12_filter_37 ?_
      refine s_iload B.1 0 dX12_filter_40 rfl ?_
      refine rr_iald B 25 mh_25 mk_25 dX12_filter_42 (fun v3 => ?_)
      refine s_icmp_ge B.1 65 dX12_filter_43 (by decide) ?_ ?_
      · refine s_iconst (v := (-1)) B.1 dX12_filter_65 (by decide) ?_
        exact s_iret B.1 B.2.1 dX12_filter_66
      · refine s_aload_n B.1 1 dX12_filter_46 rfl rfl ?_
        refine rr_getA B 26 mh_26 mn_26 mf_26 dX12_filter_47 ?_
        refine s_bipush (v := (64)) B.1 dX12_filter_50 (by decide) ?_
        refine s_iload B.1 0 dX12_filter_52 rfl ?_
        refine s_imul B.1 dX12_filter_54 ?_
        refine s_iload_n B.1 4 dX12_filter_55 rfl rfl ?_
        refine s_iadd B.1 dX12_filter_56 ?_
        refine rr_bald B 26 mh_26 mk_26 dX12_filter_57 (fun v4 => ?_)
        refine s_sipush (v := (255)) B.1 dX12_filter_58 (by decide) ?_
        refine s_iand B.1 dX12_filter_61 ?_
        refine s_goto B.1 66 dX12_filter_62 (by decide) ?_
        exact s_iret B.1 B.2.1 dX12_filter_66
  · refine s_iconst (v := 0) B.1 dX12_filter_21 (by decide) ?_
    exact s_iret B.1 B.2.1 dX12_filter_22
def R_filter (l1 : Int32) (l2 : Int32) (l3 : Int32) : RS → Option (Int32 × RS) :=
  bd (R_hasSub l1 l2) fun r5 =>
  if r5 = 0 then (
    R_filter_J15 l1 l2 l3 (1 : Int32)
  ) else (
    R_filter_J15 l1 l2 l3 (0 : Int32)
  )
set_option maxRecDepth 10000 in
theorem m_filter {w : Wd} (hw : Wok w) (l1 : Int32) (l2 : Int32) (l3 : Int32) : MR w yX12_filter cX12_filter 5 (some .int) 2 43 voI [.ref w.2.2.2.2.2, .int l1, .int l2, .int l3] (R_filter l1 l2 l3) := by
  refine MR.of hw rfl (Nat.le_of_ble_eq_true rfl) (fun g hg B => ?_)
  subst hg
  unfold R_filter
  show Sm g 5 0 [(0, .ref g.1.2.2.2.2.2), (1, .int l1), (2, .int l2), (3, .int l3)] [] _
  refine s_aload_n B.1 0 dX12_filter_0 rfl rfl ?_
  refine s_aload_n B.1 0 dX12_filter_1 rfl rfl ?_
  refine s_iload_n B.1 1 dX12_filter_2 rfl rfl ?_
  refine s_iload_n B.1 2 dX12_filter_3 rfl rfl ?_
  refine rr_cvi (As := [.int l1, .int l2]) (st := [.ref g.1.2.2.2.2.2]) B (m_hasSub B.ok l1 l2) mc_hasSub ml_hasSub mi_hasSub me_hasSub ini12 md_hasSub (by decide) rfl (Nat.le_of_ble_eq_true rfl) dX12_filter_4 (fun r5 => ?_)
  refine s_if_eq B.1 14 dX12_filter_7 (by decide) ?_ ?_
  · refine s_iconst (v := 1) B.1 dX12_filter_14 (by decide) ?_
    exact Sm.lvs [0, 1, 2, 3] rfl (sm_filter_J15 B l1 l2 l3 (1 : Int32))
  · refine s_iconst (v := 0) B.1 dX12_filter_10 (by decide) ?_
    refine s_goto B.1 15 dX12_filter_11 (by decide) ?_
    exact Sm.lvs [0, 1, 2, 3] rfl (sm_filter_J15 B l1 l2 l3 (0 : Int32))
def R_retained_J15 (l1 : Int32) (l2 : Int32) (s1 : Int32) : RS → Option (Int32 × RS) :=
  bd (R_refuses s1) fun r1 =>
  if r1 = 0 then (
    bd (R_purge) fun r2 =>
    if l1 < 0 then (
      rt ((-1 : Int32))
    ) else (
      rI 65 fun v3 =>
      if l1 < v3 then (
        rA 64 l1 fun v4 =>
        if l2 = (3 : Int32) then (
          rL 50 v4 fun v8 =>
          if 0 ≤ (lg_cmp v8 (0 : Int64)) then (
            rL 50 v4 fun v9 =>
            rI 66 fun v10 =>
            rA 51 v4 fun v11 =>
            rt ((lmin (2147483647 : Int64) (v9 - ((v10 - v11).toInt64))).toInt32)
          ) else (
            rt ((-1 : Int32))
          )
        ) else (
          if l2 = 0 then (
            rA 46 v4 fun v7 =>
            rt (v7)
          ) else (
            if l2 = (1 : Int32) then (
              rA 48 v4 fun v6 =>
              rt (v6)
            ) else (
              rA 60 v4 fun v5 =>
              rt (v5)
            )
          )
        )
      ) else (
        rt ((-1 : Int32))
      )
    )
  ) else (
    rt ((0 : Int32))
  )
set_option maxRecDepth 10000 in
theorem sm_retained_J15 {g : Gm RS Int32} (B : Br g cX12_retained 4 voI (some .int) 2 43) (l1 : Int32) (l2 : Int32) (s1 : Int32) : Sm g 4 15 [(0, .ref g.1.2.2.2.2.2), (1, .int l1), (2, .int l2)] [.int s1, .ref g.1.2.2.2.2.2] (R_retained_J15 l1 l2 s1) := by
  unfold R_retained_J15
  refine rr_cvi (As := [.int s1]) (st := []) B (m_refuses B.ok s1) mc_refuses ml_refuses mi_refuses me_refuses ini12 md_refuses (by decide) rfl (Nat.le_of_ble_eq_true rfl) dX12_retained_15 (fun r1 => ?_)
  refine s_if_eq B.1 23 dX12_retained_18 (by decide) ?_ ?_
  · refine s_aload_n B.1 0 dX12_retained_23 rfl rfl ?_
    refine rr_cvv (As := []) (st := []) B (m_purge B.ok) mc_purge ml_purge mi_purge me_purge ini12 md_purge (by decide) rfl (Nat.le_of_ble_eq_true rfl) dX12_retained_24 (fun r2 => ?_)
    refine s_iload_n B.1 1 dX12_retained_27 rfl rfl ?_
    refine s_if_lt B.1 39 dX12_retained_28 (by decide) ?_ ?_
    · refine s_iconst (v := (-1)) B.1 dX12_retained_39 (by decide) ?_
      exact s_iret B.1 B.2.1 dX12_retained_40
    · refine s_iload_n B.1 1 dX12_retained_31 rfl rfl ?_
      refine s_aload_n B.1 0 dX12_retained_32 rfl rfl ?_
      refine rr_getI B 65 mh_65 mk_65 mf_65 dX12_retained_33 (fun v3 => ?_)
      refine s_icmp_lt B.1 41 dX12_retained_36 (by decide) ?_ ?_
      · refine s_aload_n B.1 0 dX12_retained_41 rfl rfl ?_
        refine rr_getA B 64 mh_64 mn_64 mf_64 dX12_retained_42 ?_
        refine s_iload_n B.1 1 dX12_retained_45 rfl rfl ?_
        refine rr_iald B 64 mh_64 mk_64 dX12_retained_46 (fun v4 => ?_)
        refine s_istore_n (lv' := [(3, .int v4), (0, .ref g.1.2.2.2.2.2), (1, .int l1), (2, .int l2)]) B.1 dX12_retained_47 rfl (by decide) rfl ?_
        refine s_iload_n B.1 3 dX12_retained_48 rfl rfl ?_
        refine s_iconst (v := 3) B.1 dX12_retained_49 (by decide) ?_
        refine s_icmp_ne B.1 95 dX12_retained_50 (by decide) ?_ ?_
        · refine s_iload_n B.1 3 dX12_retained_95 rfl rfl ?_
          refine s_if_ne B.1 108 dX12_retained_96 (by decide) ?_ ?_
          · refine s_iload_n B.1 3 dX12_retained_108 rfl rfl ?_
            refine s_iconst (v := 1) B.1 dX12_retained_109 (by decide) ?_
            refine s_icmp_ne B.1 122 dX12_retained_110 (by decide) ?_ ?_
            · refine s_aload_n B.1 1 dX12_retained_122 rfl rfl ?_
              refine rr_getA B 60 mh_60 mn_60 mf_60 dX12_retained_123 ?_
              refine s_iload_n B.1 0 dX12_retained_126 rfl rfl ?_
              refine rr_iald B 60 mh_60 mk_60 dX12_retained_127 (fun v5 => ?_)
              exact s_iret B.1 B.2.1 dX12_retained_128
            · refine s_aload_n B.1 1 dX12_retained_113 rfl rfl ?_
              refine rr_getA B 48 mh_48 mn_48 mf_48 dX12_retained_114 ?_
              refine s_iload_n B.1 0 dX12_retained_117 rfl rfl ?_
              refine rr_iald B 48 mh_48 mk_48 dX12_retained_118 (fun v6 => ?_)
              refine s_goto B.1 128 dX12_retained_119 (by decide) ?_
              exact s_iret B.1 B.2.1 dX12_retained_128
          · refine s_aload_n B.1 1 dX12_retained_99 rfl rfl ?_
            refine rr_getA B 46 mh_46 mn_46 mf_46 dX12_retained_100 ?_
            refine s_iload_n B.1 0 dX12_retained_103 rfl rfl ?_
            refine rr_iald B 46 mh_46 mk_46 dX12_retained_104 (fun v7 => ?_)
            refine s_goto B.1 128 dX12_retained_105 (by decide) ?_
            exact s_iret B.1 B.2.1 dX12_retained_128
        · refine s_aload_n B.1 1 dX12_retained_53 rfl rfl ?_
          refine rr_getA B 50 mh_50 mn_50 mf_50 dX12_retained_54 ?_
          refine s_iload_n B.1 0 dX12_retained_57 rfl rfl ?_
          refine rr_lald B 50 mh_50 mk_50 dX12_retained_58 (fun v8 => ?_)
          refine s_lconst (v := 0) B.1 dX12_retained_59 (by decide) ?_
          refine s_lcmp B.1 dX12_retained_60 ?_
          refine s_if_ge B.1 68 dX12_retained_61 (by decide) ?_ ?_
          · refine s_ldc2 (v := (2147483647)) B.1 tw_2243 dX12_retained_68 ?_
            refine s_aload_n B.1 1 dX12_retained_71 rfl rfl ?_
            refine rr_getA B 50 mh_50 mn_50 mf_50 dX12_retained_72 ?_
            refine s_iload_n B.1 0 dX12_retained_75 rfl rfl ?_
            refine rr_lald B 50 mh_50 mk_50 dX12_retained_76 (fun v9 => ?_)
            refine s_aload_n B.1 1 dX12_retained_77 rfl rfl ?_
            refine rr_getI B 66 mh_66 mk_66 mf_66 dX12_retained_78 (fun v10 => ?_)
            refine s_aload_n B.1 1 dX12_retained_81 rfl rfl ?_
            refine rr_getA B 51 mh_51 mn_51 mf_51 dX12_retained_82 ?_
            refine s_iload_n B.1 0 dX12_retained_85 rfl rfl ?_
            refine rr_iald B 51 mh_51 mk_51 dX12_retained_86 (fun v11 => ?_)
            refine s_isub B.1 dX12_retained_87 ?_
            refine s_i2l B.1 dX12_retained_88 ?_
            refine s_lsub B.1 dX12_retained_89 ?_
            refine s_mminl B.1 B.2.1.fx tw_2244 (by decide) (Nat.le_of_ble_eq_true rfl) dX12_retained_90 ?_
            refine s_l2i B.1 dX12_retained_93 ?_
            exact s_iret B.1 B.2.1 dX12_retained_94
          · refine s_iconst (v := (-1)) B.1 dX12_retained_64 (by decide) ?_
            refine s_goto B.1 94 dX12_retained_65 (by decide) ?_
            exact s_iret B.1 B.2.1 dX12_retained_94
      · refine s_iconst (v := (-1)) B.1 dX12_retained_39 (by decide) ?_
        exact s_iret B.1 B.2.1 dX12_retained_40
  · refine s_iconst (v := 0) B.1 dX12_retained_21 (by decide) ?_
    exact s_iret B.1 B.2.1 dX12_retained_22
def R_retained_J10 (l1 : Int32) (l2 : Int32) : RS → Option (Int32 × RS) :=
  R_retained_J15 l1 l2 (1 : Int32)
set_option maxRecDepth 10000 in
theorem sm_retained_J10 {g : Gm RS Int32} (B : Br g cX12_retained 4 voI (some .int) 2 43) (l1 : Int32) (l2 : Int32) : Sm g 4 10 [(0, .ref g.1.2.2.2.2.2), (1, .int l1), (2, .int l2)] [.ref g.1.2.2.2.2.2] (R_retained_J10 l1 l2) := by
  unfold R_retained_J10
  refine s_iconst (v := 1) B.1 dX12_retained_10 (by decide) ?_
  refine s_goto B.1 15 dX12_retained_11 (by decide) ?_
  exact Sm.lvs [0, 1, 2] rfl (sm_retained_J15 B l1 l2 (1 : Int32))
def R_retained (l1 : Int32) (l2 : Int32) : RS → Option (Int32 × RS) :=
  if l2 < 0 then (
    R_retained_J10 l1 l2
  ) else (
    if l2 ≤ (3 : Int32) then (
      R_retained_J15 l1 l2 (0 : Int32)
    ) else (
      R_retained_J10 l1 l2
    )
  )
set_option maxRecDepth 10000 in
theorem m_retained {w : Wd} (hw : Wok w) (l1 : Int32) (l2 : Int32) : MR w yX12_retained cX12_retained 4 (some .int) 2 43 voI [.ref w.2.2.2.2.2, .int l1, .int l2] (R_retained l1 l2) := by
  refine MR.of hw rfl (Nat.le_of_ble_eq_true rfl) (fun g hg B => ?_)
  subst hg
  unfold R_retained
  show Sm g 4 0 [(0, .ref g.1.2.2.2.2.2), (1, .int l1), (2, .int l2)] [] _
  refine s_aload_n B.1 0 dX12_retained_0 rfl rfl ?_
  refine s_iload_n B.1 2 dX12_retained_1 rfl rfl ?_
  refine s_if_lt B.1 10 dX12_retained_2 (by decide) ?_ ?_
  · exact Sm.lvs [0, 1, 2] rfl (sm_retained_J10 B l1 l2)
  · refine s_iload_n B.1 2 dX12_retained_5 rfl rfl ?_
    refine s_iconst (v := 3) B.1 dX12_retained_6 (by decide) ?_
    refine s_icmp_le B.1 14 dX12_retained_7 (by decide) ?_ ?_
    · refine s_iconst (v := 0) B.1 dX12_retained_14 (by decide) ?_
      exact Sm.lvs [0, 1, 2] rfl (sm_retained_J15 B l1 l2 (0 : Int32))
    · exact Sm.lvs [0, 1, 2] rfl (sm_retained_J10 B l1 l2)
def R_kept_J92 (l3 : Int32) (s1 : Int32) : RS → Option (Int32 × RS) :=
  rA 45 (s1 + l3) fun v1 =>
  rt (v1 &&& (255 : Int32))
set_option maxRecDepth 10000 in
theorem sm_kept_J92 {g : Gm RS Int32} (B : Br g cX12_kept 6 voI (some .int) 2 43) (l3 : Int32) (s1 : Int32) : Sm g 6 92 [(3, .int l3)] [.int s1, .ref (g.1.2.2.2.2.2 + mO 45)] (R_kept_J92 l3 s1) := by
  unfold R_kept_J92
  refine s_iload_n B.1 0 dX12_kept_92 rfl rfl ?_
  refine s_iadd B.1 dX12_kept_93 ?_
  refine rr_bald B 45 mh_45 mk_45 dX12_kept_94 (fun v1 => ?_)
  refine s_sipush (v := (255)) B.1 dX12_kept_95 (by decide) ?_
  refine s_iand B.1 dX12_kept_98 ?_
  exact s_iret B.1 B.2.1 dX12_kept_99
def R_kept_J52 (l2 : Int32) (l3 : Int32) (l4 : Int32) (s0 : Int32) : RS → Option (Int32 × RS) :=
  if l3 < 0 then (
    rt ((-1 : Int32))
  ) else (
    if l3 < s0 then (
      if l2 = 0 then (
        R_kept_J92 l3 ((480 : Int32) * l4)
      ) else (
        rA 47 l4 fun v2 =>
        R_kept_J92 l3 v2
      )
    ) else (
      rt ((-1 : Int32))
    )
  )
set_option maxRecDepth 10000 in
theorem sm_kept_J52 {g : Gm RS Int32} (B : Br g cX12_kept 6 voI (some .int) 2 43) (l2 : Int32) (l3 : Int32) (l4 : Int32) (s0 : Int32) : Sm g 6 52 [(0, .ref g.1.2.2.2.2.2), (2, .int l2), (3, .int l3), (4, .int l4)] [.int s0] (R_kept_J52 l2 l3 l4 s0) := by
  unfold R_kept_J52
  refine s_istore (lv' := [(5, .int s0), (0, .ref g.1.2.2.2.2.2), (2, .int l2), (3, .int l3), (4, .int l4)]) B.1 dX12_kept_52 (by decide) rfl ?_
  refine s_iload_n B.1 3 dX12_kept_54 rfl rfl ?_
  refine s_if_lt B.1 64 dX12_kept_55 (by decide) ?_ ?_
  · refine s_iconst (v := (-1)) B.1 dX12_kept_64 (by decide) ?_
    refine s_goto B.1 99 dX12_kept_65 (by decide) ?_
    exact s_iret B.1 B.2.1 dX12_kept_99
  · refine s_iload_n B.1 3 dX12_kept_58 rfl rfl ?_
    refine s_iload B.1 0 dX12_kept_59 rfl ?_
    refine s_icmp_lt B.1 68 dX12_kept_61 (by decide) ?_ ?_
    · refine s_aload_n B.1 1 dX12_kept_68 rfl rfl ?_
      refine rr_getA B 45 mh_45 mn_45 mf_45 dX12_kept_69 ?_
      refine s_iload_n B.1 2 dX12_kept_72 rfl rfl ?_
      refine s_if_eq B.1 86 dX12_kept_73 (by decide) ?_ ?_
      · refine s_sipush (v := (480)) B.1 dX12_kept_86 (by decide) ?_
        refine s_iload B.1 4 dX12_kept_89 rfl ?_
        refine s_imul B.1 dX12_kept_91 ?_
        exact Sm.lvs [3] rfl (sm_kept_J92 B l3 ((480 : Int32) * l4))
      · refine s_aload_n B.1 1 dX12_kept_76 rfl rfl ?_
        refine rr_getA B 47 mh_47 mn_47 mf_47 dX12_kept_77 ?_
        refine s_iload B.1 4 dX12_kept_80 rfl ?_
        refine rr_iald B 47 mh_47 mk_47 dX12_kept_82 (fun v2 => ?_)
        refine s_goto B.1 92 dX12_kept_83 (by decide) ?_
        exact Sm.lvs [3] rfl (sm_kept_J92 B l3 v2)
    · refine s_iconst (v := (-1)) B.1 dX12_kept_64 (by decide) ?_
      refine s_goto B.1 99 dX12_kept_65 (by decide) ?_
      exact s_iret B.1 B.2.1 dX12_kept_99
def R_kept (l1 : Int32) (l2 : Int32) (l3 : Int32) : RS → Option (Int32 × RS) :=
  wI 0 ((0 : Int32)) <|
  bd (R_purge) fun r3 =>
  if l1 < 0 then (
    rt ((-1 : Int32))
  ) else (
    rI 65 fun v4 =>
    if l1 < v4 then (
      rA 64 l1 fun v5 =>
      if l2 = 0 then (
        rA 46 v5 fun v6 =>
        R_kept_J52 l2 l3 v5 v6
      ) else (
        rA 48 v5 fun v7 =>
        R_kept_J52 l2 l3 v5 v7
      )
    ) else (
      rt ((-1 : Int32))
    )
  )
set_option maxRecDepth 10000 in
theorem m_kept {w : Wd} (hw : Wok w) (l1 : Int32) (l2 : Int32) (l3 : Int32) : MR w yX12_kept cX12_kept 6 (some .int) 2 43 voI [.ref w.2.2.2.2.2, .int l1, .int l2, .int l3] (R_kept l1 l2 l3) := by
  refine MR.of hw rfl (Nat.le_of_ble_eq_true rfl) (fun g hg B => ?_)
  subst hg
  unfold R_kept
  show Sm g 6 0 [(0, .ref g.1.2.2.2.2.2), (1, .int l1), (2, .int l2), (3, .int l3)] [] _
  refine s_aload_n B.1 0 dX12_kept_0 rfl rfl ?_
  refine s_iconst (v := 0) B.1 dX12_kept_1 (by decide) ?_
  refine rr_putI B 0 mh_0 mk_0 mf_0 dX12_kept_2 ?_
  refine s_aload_n B.1 0 dX12_kept_5 rfl rfl ?_
  refine rr_cvv (As := []) (st := []) B (m_purge B.ok) mc_purge ml_purge mi_purge me_purge ini12 md_purge (by decide) rfl (Nat.le_of_ble_eq_true rfl) dX12_kept_6 (fun r3 => ?_)
  refine s_iload_n B.1 1 dX12_kept_9 rfl rfl ?_
  refine s_if_lt B.1 21 dX12_kept_10 (by decide) ?_ ?_
  · refine s_iconst (v := (-1)) B.1 dX12_kept_21 (by decide) ?_
    exact s_iret B.1 B.2.1 dX12_kept_22
  · refine s_iload_n B.1 1 dX12_kept_13 rfl rfl ?_
    refine s_aload_n B.1 0 dX12_kept_14 rfl rfl ?_
    refine rr_getI B 65 mh_65 mk_65 mf_65 dX12_kept_15 (fun v4 => ?_)
    refine s_icmp_lt B.1 23 dX12_kept_18 (by decide) ?_ ?_
    · refine s_aload_n B.1 0 dX12_kept_23 rfl rfl ?_
      refine rr_getA B 64 mh_64 mn_64 mf_64 dX12_kept_24 ?_
      refine s_iload_n B.1 1 dX12_kept_27 rfl rfl ?_
      refine rr_iald B 64 mh_64 mk_64 dX12_kept_28 (fun v5 => ?_)
      refine s_istore (lv' := [(4, .int v5), (0, .ref g.1.2.2.2.2.2), (1, .int l1), (2, .int l2), (3, .int l3)]) B.1 dX12_kept_29 (by decide) rfl ?_
      refine s_iload_n B.1 3 dX12_kept_31 rfl rfl ?_
      refine s_if_eq B.1 45 dX12_kept_32 (by decide) ?_ ?_
      · refine s_aload_n B.1 1 dX12_kept_45 rfl rfl ?_
        refine rr_getA B 46 mh_46 mn_46 mf_46 dX12_kept_46 ?_
        refine s_iload B.1 0 dX12_kept_49 rfl ?_
        refine rr_iald B 46 mh_46 mk_46 dX12_kept_51 (fun v6 => ?_)
        exact Sm.lvs [1, 3, 4, 0] rfl (sm_kept_J52 B l2 l3 v5 v6)
      · refine s_aload_n B.1 1 dX12_kept_35 rfl rfl ?_
        refine rr_getA B 48 mh_48 mn_48 mf_48 dX12_kept_36 ?_
        refine s_iload B.1 0 dX12_kept_39 rfl ?_
        refine rr_iald B 48 mh_48 mk_48 dX12_kept_41 (fun v7 => ?_)
        refine s_goto B.1 52 dX12_kept_42 (by decide) ?_
        exact Sm.lvs [1, 3, 4, 0] rfl (sm_kept_J52 B l2 l3 v5 v7)
    · refine s_iconst (v := (-1)) B.1 dX12_kept_21 (by decide) ?_
      exact s_iret B.1 B.2.1 dX12_kept_22
def R_told_J61 (l1 : Int32) (l2 : Int32) : RS → Option (Int32 × RS) :=
  if l1 = 0 then (
    rt (l2)
  ) else
  if l1 = 1 then (
    rI 65 fun v1 =>
    rt (v1)
  ) else
  if l1 = 2 then (
    rI 67 fun v2 =>
    rt (v2)
  ) else
  if l1 = 3 then (
    rI 68 fun v3 =>
    rt (v3)
  ) else
  if l1 = 4 then (
    rI 69 fun v4 =>
    rt (v4)
  ) else
  if l1 = 5 then (
    rI 70 fun v5 =>
    rt (v5)
  ) else
  if l1 = 6 then (
    rI 66 fun v6 =>
    rt (v6)
  ) else
  (
    rI 72 fun v7 =>
    rt (v7)
  )
set_option maxRecDepth 10000 in
theorem sm_told_J61 {g : Gm RS Int32} (B : Br g cX12_told 4 voI (some .int) 2 43) (l1 : Int32) (l2 : Int32) : Sm g 4 61 [(0, .ref g.1.2.2.2.2.2), (1, .int l1), (2, .int l2)] [] (R_told_J61 l1 l2) := by
  unfold R_told_J61
  refine s_iload_n B.1 1 dX12_told_61 rfl rfl ?_
  refine s_sw1 B.1 0 104 dX12_told_62 (by decide) (by decide) rfl (by decide) ?_ (fun hn0 => ?_)
  · refine s_iload_n B.1 2 dX12_told_104 rfl rfl ?_
    exact s_iret B.1 B.2.1 dX12_told_105
  refine s_sw1 B.1 1 106 dX12_told_62 (by decide) (by decide) rfl (by decide) ?_ (fun hn1 => ?_)
  · refine s_aload_n B.1 0 dX12_told_106 rfl rfl ?_
    refine rr_getI B 65 mh_65 mk_65 mf_65 dX12_told_107 (fun v1 => ?_)
    exact s_iret B.1 B.2.1 dX12_told_110
  refine s_sw1 B.1 2 111 dX12_told_62 (by decide) (by decide) rfl (by decide) ?_ (fun hn2 => ?_)
  · refine s_aload_n B.1 0 dX12_told_111 rfl rfl ?_
    refine rr_getI B 67 mh_67 mk_67 mf_67 dX12_told_112 (fun v2 => ?_)
    exact s_iret B.1 B.2.1 dX12_told_115
  refine s_sw1 B.1 3 116 dX12_told_62 (by decide) (by decide) rfl (by decide) ?_ (fun hn3 => ?_)
  · refine s_aload_n B.1 0 dX12_told_116 rfl rfl ?_
    refine rr_getI B 68 mh_68 mk_68 mf_68 dX12_told_117 (fun v3 => ?_)
    exact s_iret B.1 B.2.1 dX12_told_120
  refine s_sw1 B.1 4 121 dX12_told_62 (by decide) (by decide) rfl (by decide) ?_ (fun hn4 => ?_)
  · refine s_aload_n B.1 0 dX12_told_121 rfl rfl ?_
    refine rr_getI B 69 mh_69 mk_69 mf_69 dX12_told_122 (fun v4 => ?_)
    exact s_iret B.1 B.2.1 dX12_told_125
  refine s_sw1 B.1 5 126 dX12_told_62 (by decide) (by decide) rfl (by decide) ?_ (fun hn5 => ?_)
  · refine s_aload_n B.1 0 dX12_told_126 rfl rfl ?_
    refine rr_getI B 70 mh_70 mk_70 mf_70 dX12_told_127 (fun v5 => ?_)
    exact s_iret B.1 B.2.1 dX12_told_130
  refine s_sw1 B.1 6 131 dX12_told_62 (by decide) (by decide) rfl (by decide) ?_ (fun hn6 => ?_)
  · refine s_aload_n B.1 0 dX12_told_131 rfl rfl ?_
    refine rr_getI B 66 mh_66 mk_66 mf_66 dX12_told_132 (fun v6 => ?_)
    exact s_iret B.1 B.2.1 dX12_told_135
  have hout : (l1).toInt < 0 ∨ 6 < (l1).toInt := by
    have z0 : ¬ (l1).toInt = 0 := sw_ne hn0 (by decide); have z1 : ¬ (l1).toInt = 1 := sw_ne hn1 (by decide); have z2 : ¬ (l1).toInt = 2 := sw_ne hn2 (by decide); have z3 : ¬ (l1).toInt = 3 := sw_ne hn3 (by decide); have z4 : ¬ (l1).toInt = 4 := sw_ne hn4 (by decide); have z5 : ¬ (l1).toInt = 5 := sw_ne hn5 (by decide); have z6 : ¬ (l1).toInt = 6 := sw_ne hn6 (by decide); omega
  refine s_swD B.1 136 dX12_told_62 hout (by decide) ?_
  refine s_aload_n B.1 0 dX12_told_136 rfl rfl ?_
  refine rr_getI B 72 mh_72 mk_72 mf_72 dX12_told_137 (fun v7 => ?_)
  exact s_iret B.1 B.2.1 dX12_told_140
def R_told_J53 (kb : Int32 → Int32 → Int32 → RS → Option (Int32 × RS)) (ke61 : Int32 → Int32 → RS → Option (Int32 × RS)) (l1 : Int32) (l3 : Int32) (s0 : Int32) (s1 : Int32) : RS → Option (Int32 × RS) :=
  lq (s0 + s1) fun x8 =>
  kb l1 x8 (l3 + 1)
set_option maxRecDepth 10000 in
theorem sm_told_J53 {g : Gm RS Int32} {kb : Int32 → Int32 → Int32 → RS → Option (Int32 × RS)} {ke61 : Int32 → Int32 → RS → Option (Int32 × RS)} (B : Br g cX12_told 4 voI (some .int) 2 43) (hkb : ∀ (l1 : Int32) (l2 : Int32) (l3 : Int32), Sm g 4 32 [(0, .ref g.1.2.2.2.2.2), (1, .int l1), (2, .int l2), (3, .int l3)] [] (kb l1 l2 l3)) (hke61 : ∀ (l1 : Int32) (l2 : Int32), Sm g 4 61 [(0, .ref g.1.2.2.2.2.2), (1, .int l1), (2, .int l2)] [] (ke61 l1 l2)) (l1 : Int32) (l3 : Int32) (s0 : Int32) (s1 : Int32) : Sm g 4 53 [(0, .ref g.1.2.2.2.2.2), (1, .int l1), (3, .int l3)] [.int s1, .int s0] (R_told_J53 kb ke61 l1 l3 s0 s1) := by
  unfold R_told_J53
  refine s_iadd B.1 dX12_told_53 ?_
  refine s_lqi (fun x8 => ?_)
  refine s_istore_n (lv' := [(2, .int x8), (0, .ref g.1.2.2.2.2.2), (1, .int l1), (3, .int l3)]) B.1 dX12_told_54 rfl (by decide) rfl ?_
  refine s_iinc (v := l3 + 1) (lv' := [(3, .int (l3 + 1)), (2, .int x8), (0, .ref g.1.2.2.2.2.2), (1, .int l1)]) B.1 3 dX12_told_55 rfl rfl (by decide) rfl ?_
  refine s_goto B.1 32 dX12_told_58 (by decide) ?_
  exact Sm.lvs [2, 3, 1, 0] rfl (hkb l1 x8 (l3 + 1))
def R_told_B32 (kb : Int32 → Int32 → Int32 → RS → Option (Int32 × RS)) (ke61 : Int32 → Int32 → RS → Option (Int32 × RS)) (l1 : Int32) (l2 : Int32) (l3 : Int32) : RS → Option (Int32 × RS) :=
  if (12 : Int32) ≤ l3 then (
    ke61 l1 l2
  ) else (
    rA 11 l3 fun v9 =>
    if v9 = 0 then (
      R_told_J53 kb ke61 l1 l3 l2 (0 : Int32)
    ) else (
      R_told_J53 kb ke61 l1 l3 l2 (1 : Int32)
    )
  )
def R_told_L32 (ke61 : Int32 → Int32 → RS → Option (Int32 × RS)) : Nat → Int32 → Int32 → Int32 → RS → Option (Int32 × RS)
  | 0, _, _, _ => no
  | n + 1, l1, l2, l3 => R_told_B32 (fun l1 l2 l3 => R_told_L32 ke61 n l1 l2 l3) ke61 l1 l2 l3
set_option maxRecDepth 10000 in
theorem sm_told_B32 {g : Gm RS Int32} {kb : Int32 → Int32 → Int32 → RS → Option (Int32 × RS)} {ke61 : Int32 → Int32 → RS → Option (Int32 × RS)} (B : Br g cX12_told 4 voI (some .int) 2 43) (hkb : ∀ (l1 : Int32) (l2 : Int32) (l3 : Int32), Sm g 4 32 [(0, .ref g.1.2.2.2.2.2), (1, .int l1), (2, .int l2), (3, .int l3)] [] (kb l1 l2 l3)) (hke61 : ∀ (l1 : Int32) (l2 : Int32), Sm g 4 61 [(0, .ref g.1.2.2.2.2.2), (1, .int l1), (2, .int l2)] [] (ke61 l1 l2)) (l1 : Int32) (l2 : Int32) (l3 : Int32) : Sm g 4 32 [(0, .ref g.1.2.2.2.2.2), (1, .int l1), (2, .int l2), (3, .int l3)] [] (R_told_B32 kb ke61 l1 l2 l3) := by
  unfold R_told_B32
  refine s_iload_n B.1 3 dX12_told_32 rfl rfl ?_
  refine s_bipush (v := (12)) B.1 dX12_told_33 (by decide) ?_
  refine s_icmp_ge B.1 61 dX12_told_35 (by decide) ?_ ?_
  · exact Sm.lvs [0, 1, 2] rfl (hke61 l1 l2)
  · refine s_iload_n B.1 2 dX12_told_38 rfl rfl ?_
    refine s_aload_n B.1 0 dX12_told_39 rfl rfl ?_
    refine rr_getA B 11 mh_11 mn_11 mf_11 dX12_told_40 ?_
    refine s_iload_n B.1 3 dX12_told_43 rfl rfl ?_
    refine rr_zald B 11 mh_11 mk_11 dX12_told_44 (fun v9 => ?_)
    refine s_if_eq B.1 52 dX12_told_45 (by decide) ?_ ?_
    · refine s_iconst (v := 0) B.1 dX12_told_52 (by decide) ?_
      exact Sm.lvs [0, 1, 3] rfl (sm_told_J53 B hkb hke61 l1 l3 l2 (0 : Int32))
    · refine s_iconst (v := 1) B.1 dX12_told_48 (by decide) ?_
      refine s_goto B.1 53 dX12_told_49 (by decide) ?_
      exact Sm.lvs [0, 1, 3] rfl (sm_told_J53 B hkb hke61 l1 l3 l2 (1 : Int32))
set_option maxRecDepth 10000 in
theorem sm_told_L32 {g : Gm RS Int32} {ke61 : Int32 → Int32 → RS → Option (Int32 × RS)} (B : Br g cX12_told 4 voI (some .int) 2 43) (hke61 : ∀ (l1 : Int32) (l2 : Int32), Sm g 4 61 [(0, .ref g.1.2.2.2.2.2), (1, .int l1), (2, .int l2)] [] (ke61 l1 l2)) : ∀ (n : Nat) (l1 : Int32) (l2 : Int32) (l3 : Int32), Sm g 4 32 [(0, .ref g.1.2.2.2.2.2), (1, .int l1), (2, .int l2), (3, .int l3)] [] (R_told_L32 ke61 n l1 l2 l3)
  | 0, _, _, _ => Sm.fail
  | n + 1, l1, l2, l3 => sm_told_B32 B (sm_told_L32 B hke61 n) hke61 l1 l2 l3
def R_told_J16 (l1 : Int32) (s1 : Int32) : RS → Option (Int32 × RS) :=
  bd (R_refuses s1) fun r10 =>
  if r10 = 0 then (
    bd (R_purge) fun r11 =>
    R_told_L32 (fun l1 l2 => R_told_J61 l1 l2) fu l1 (0 : Int32) (0 : Int32)
  ) else (
    rt ((0 : Int32))
  )
set_option maxRecDepth 10000 in
theorem sm_told_J16 {g : Gm RS Int32} (B : Br g cX12_told 4 voI (some .int) 2 43) (l1 : Int32) (s1 : Int32) : Sm g 4 16 [(0, .ref g.1.2.2.2.2.2), (1, .int l1)] [.int s1, .ref g.1.2.2.2.2.2] (R_told_J16 l1 s1) := by
  unfold R_told_J16
  refine rr_cvi (As := [.int s1]) (st := []) B (m_refuses B.ok s1) mc_refuses ml_refuses mi_refuses me_refuses ini12 md_refuses (by decide) rfl (Nat.le_of_ble_eq_true rfl) dX12_told_16 (fun r10 => ?_)
  refine s_if_eq B.1 24 dX12_told_19 (by decide) ?_ ?_
  · refine s_aload_n B.1 0 dX12_told_24 rfl rfl ?_
    refine rr_cvv (As := []) (st := []) B (m_purge B.ok) mc_purge ml_purge mi_purge me_purge ini12 md_purge (by decide) rfl (Nat.le_of_ble_eq_true rfl) dX12_told_25 (fun r11 => ?_)
    refine s_iconst (v := 0) B.1 dX12_told_28 (by decide) ?_
    refine s_istore_n (lv' := [(2, .int (0 : Int32)), (0, .ref g.1.2.2.2.2.2), (1, .int l1)]) B.1 dX12_told_29 rfl (by decide) rfl ?_
    refine s_iconst (v := 0) B.1 dX12_told_30 (by decide) ?_
    refine s_istore_n (lv' := [(3, .int (0 : Int32)), (2, .int (0 : Int32)), (0, .ref g.1.2.2.2.2.2), (1, .int l1)]) B.1 dX12_told_31 rfl (by decide) rfl ?_
    exact Sm.lvs [2, 3, 1, 0] rfl (sm_told_L32 B (fun l1 l2 => sm_told_J61 B l1 l2) fu l1 (0 : Int32) (0 : Int32))
  · refine s_iconst (v := 0) B.1 dX12_told_22 (by decide) ?_
    exact s_iret B.1 B.2.1 dX12_told_23
def R_told_J11 (l1 : Int32) : RS → Option (Int32 × RS) :=
  R_told_J16 l1 (1 : Int32)
set_option maxRecDepth 10000 in
theorem sm_told_J11 {g : Gm RS Int32} (B : Br g cX12_told 4 voI (some .int) 2 43) (l1 : Int32) : Sm g 4 11 [(0, .ref g.1.2.2.2.2.2), (1, .int l1)] [.ref g.1.2.2.2.2.2] (R_told_J11 l1) := by
  unfold R_told_J11
  refine s_iconst (v := 1) B.1 dX12_told_11 (by decide) ?_
  refine s_goto B.1 16 dX12_told_12 (by decide) ?_
  exact Sm.lvs [0, 1] rfl (sm_told_J16 B l1 (1 : Int32))
def R_told (l1 : Int32) : RS → Option (Int32 × RS) :=
  if l1 < 0 then (
    R_told_J11 l1
  ) else (
    if l1 ≤ (7 : Int32) then (
      R_told_J16 l1 (0 : Int32)
    ) else (
      R_told_J11 l1
    )
  )
set_option maxRecDepth 10000 in
theorem m_told {w : Wd} (hw : Wok w) (l1 : Int32) : MR w yX12_told cX12_told 4 (some .int) 2 43 voI [.ref w.2.2.2.2.2, .int l1] (R_told l1) := by
  refine MR.of hw rfl (Nat.le_of_ble_eq_true rfl) (fun g hg B => ?_)
  subst hg
  unfold R_told
  show Sm g 4 0 [(0, .ref g.1.2.2.2.2.2), (1, .int l1)] [] _
  refine s_aload_n B.1 0 dX12_told_0 rfl rfl ?_
  refine s_iload_n B.1 1 dX12_told_1 rfl rfl ?_
  refine s_if_lt B.1 11 dX12_told_2 (by decide) ?_ ?_
  · exact Sm.lvs [0, 1] rfl (sm_told_J11 B l1)
  · refine s_iload_n B.1 1 dX12_told_5 rfl rfl ?_
    refine s_bipush (v := (7)) B.1 dX12_told_6 (by decide) ?_
    refine s_icmp_le B.1 15 dX12_told_8 (by decide) ?_ ?_
    · refine s_iconst (v := 0) B.1 dX12_told_15 (by decide) ?_
      exact Sm.lvs [0, 1] rfl (sm_told_J16 B l1 (0 : Int32))
    · exact Sm.lvs [0, 1] rfl (sm_told_J11 B l1)
