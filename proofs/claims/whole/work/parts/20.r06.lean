def R_disconnect_J197 : RS → Option (Unit × RS) :=
  rI 75 fun v1 =>
  bd (R_lost v1) fun r2 =>
  rt ()
set_option maxRecDepth 10000 in
theorem sm_disconnect_J197 {g : Gm RS Unit} (B : Br g cX12_disconnect 5 voV none 9 222) : Sm g 5 197 [(0, .ref g.1.2.2.2.2.2)] [] (R_disconnect_J197) := by
  unfold R_disconnect_J197
  refine s_aload_n B.1 0 dX12_disconnect_197 rfl rfl ?_
  refine s_aload_n B.1 0 dX12_disconnect_198 rfl rfl ?_
  refine rr_getI B 75 mh_75 mk_75 mf_75 dX12_disconnect_199 (fun v1 => ?_)
  refine rr_cvv (As := [.int v1]) (st := []) B (m_lost B.ok v1) mc_lost ml_lost mi_lost me_lost ini12 md_lost (by decide) rfl (Nat.le_of_ble_eq_true rfl) dX12_disconnect_202 (fun r2 => ?_)
  exact s_vret B.1 B.2.1 dX12_disconnect_205
def R_disconnect_J186 (l1 : Int32) (l2 : Int32) : RS → Option (Unit × RS) :=
  if l2 = 0 then (
    wA 20 l1 (-1 : Int32) <|
    R_disconnect_J197
  ) else (
    R_disconnect_J197
  )
set_option maxRecDepth 10000 in
theorem sm_disconnect_J186 {g : Gm RS Unit} (B : Br g cX12_disconnect 5 voV none 9 222) (l1 : Int32) (l2 : Int32) : Sm g 5 186 [(0, .ref g.1.2.2.2.2.2), (1, .int l1), (2, .int l2)] [] (R_disconnect_J186 l1 l2) := by
  unfold R_disconnect_J186
  refine s_iload_n B.1 2 dX12_disconnect_186 rfl rfl ?_
  refine s_if_ne B.1 197 dX12_disconnect_187 (by decide) ?_ ?_
  · exact Sm.lvs [0] rfl (sm_disconnect_J197 B)
  · refine s_aload_n B.1 0 dX12_disconnect_190 rfl rfl ?_
    refine rr_getA B 20 mh_20 mn_20 mf_20 dX12_disconnect_191 ?_
    refine s_iload_n B.1 1 dX12_disconnect_194 rfl rfl ?_
    refine s_iconst (v := (-1)) B.1 dX12_disconnect_195 (by decide) ?_
    refine rr_iast B 20 mh_20 mk_20 dX12_disconnect_196 ?_
    exact Sm.lvs [0] rfl (sm_disconnect_J197 B)
def R_disconnect_J160 (l1 : Int32) (l2 : Int32) (l4 : Int32) : RS → Option (Unit × RS) :=
  rI 79 fun v3 =>
  if v3 = 0 then (
    if l4 = 0 then (
      R_disconnect_J186 l1 l2
    ) else (
      rL 83 (17 : Int32) fun v4 =>
      wL 16 l1 v4 <|
      R_disconnect_J186 l1 l2
    )
  ) else (
    rt ()
  )
set_option maxRecDepth 10000 in
theorem sm_disconnect_J160 {g : Gm RS Unit} (B : Br g cX12_disconnect 5 voV none 9 222) (l1 : Int32) (l2 : Int32) (l4 : Int32) : Sm g 5 160 [(0, .ref g.1.2.2.2.2.2), (1, .int l1), (2, .int l2), (4, .int l4)] [] (R_disconnect_J160 l1 l2 l4) := by
  unfold R_disconnect_J160
  refine s_aload_n B.1 0 dX12_disconnect_160 rfl rfl ?_
  refine rr_getI B 79 mh_79 mk_79 mf_79 dX12_disconnect_161 (fun v3 => ?_)
  refine s_if_eq B.1 168 dX12_disconnect_164 (by decide) ?_ ?_
  · refine s_iload B.1 3 dX12_disconnect_168 rfl ?_
    refine s_if_eq B.1 186 dX12_disconnect_170 (by decide) ?_ ?_
    · exact Sm.lvs [0, 1, 2] rfl (sm_disconnect_J186 B l1 l2)
    · refine s_aload_n B.1 0 dX12_disconnect_173 rfl rfl ?_
      refine rr_getA B 16 mh_16 mn_16 mf_16 dX12_disconnect_174 ?_
      refine s_iload_n B.1 1 dX12_disconnect_177 rfl rfl ?_
      refine s_aload_n B.1 0 dX12_disconnect_178 rfl rfl ?_
      refine rr_getA B 83 mh_83 mn_83 mf_83 dX12_disconnect_179 ?_
      refine s_bipush (v := (17)) B.1 dX12_disconnect_182 (by decide) ?_
      refine rr_lald B 83 mh_83 mk_83 dX12_disconnect_184 (fun v4 => ?_)
      refine rr_last B 16 mh_16 mk_16 dX12_disconnect_185 ?_
      exact Sm.lvs [0, 1, 2] rfl (sm_disconnect_J186 B l1 l2)
  · exact s_vret B.1 B.2.1 dX12_disconnect_167
def R_disconnect_J116 (l1 : Int32) (l2 : Int32) (s0 : Int32) : RS → Option (Unit × RS) :=
  rI 79 fun v5 =>
  if v5 = 0 then (
    if s0 = 0 then (
      R_disconnect_J160 l1 l2 s0
    ) else (
      rL 83 (17 : Int32) fun v6 =>
      if (lg_cmp v6 (0 : Int64)) = 0 then (
        R_disconnect_J160 l1 l2 s0
      ) else (
        rL 16 l1 fun v7 =>
        if (lg_cmp v7 (0 : Int64)) = 0 then (
          bd (R_fails (130 : Int32)) fun r8 =>
          R_disconnect_J160 l1 l2 s0
        ) else (
          R_disconnect_J160 l1 l2 s0
        )
      )
    )
  ) else (
    R_disconnect_J160 l1 l2 s0
  )
set_option maxRecDepth 10000 in
theorem sm_disconnect_J116 {g : Gm RS Unit} (B : Br g cX12_disconnect 5 voV none 9 222) (l1 : Int32) (l2 : Int32) (s0 : Int32) : Sm g 5 116 [(0, .ref g.1.2.2.2.2.2), (1, .int l1), (2, .int l2)] [.int s0] (R_disconnect_J116 l1 l2 s0) := by
  unfold R_disconnect_J116
  refine s_istore (lv' := [(4, .int s0), (0, .ref g.1.2.2.2.2.2), (1, .int l1), (2, .int l2)]) B.1 dX12_disconnect_116 (by decide) rfl ?_
  refine s_aload_n B.1 1 dX12_disconnect_118 rfl rfl ?_
  refine rr_getI B 79 mh_79 mk_79 mf_79 dX12_disconnect_119 (fun v5 => ?_)
  refine s_if_ne B.1 160 dX12_disconnect_122 (by decide) ?_ ?_
  · exact Sm.lvs [1, 2, 3, 0] rfl (sm_disconnect_J160 B l1 l2 s0)
  · refine s_iload B.1 0 dX12_disconnect_125 rfl ?_
    refine s_if_eq B.1 160 dX12_disconnect_127 (by decide) ?_ ?_
    · exact Sm.lvs [1, 2, 3, 0] rfl (sm_disconnect_J160 B l1 l2 s0)
    · refine s_aload_n B.1 1 dX12_disconnect_130 rfl rfl ?_
      refine rr_getA B 83 mh_83 mn_83 mf_83 dX12_disconnect_131 ?_
      refine s_bipush (v := (17)) B.1 dX12_disconnect_134 (by decide) ?_
      refine rr_lald B 83 mh_83 mk_83 dX12_disconnect_136 (fun v6 => ?_)
      refine s_lconst (v := 0) B.1 dX12_disconnect_137 (by decide) ?_
      refine s_lcmp B.1 dX12_disconnect_138 ?_
      refine s_if_eq B.1 160 dX12_disconnect_139 (by decide) ?_ ?_
      · exact Sm.lvs [1, 2, 3, 0] rfl (sm_disconnect_J160 B l1 l2 s0)
      · refine s_aload_n B.1 1 dX12_disconnect_142 rfl rfl ?_
        refine rr_getA B 16 mh_16 mn_16 mf_16 dX12_disconnect_143 ?_
        refine s_iload_n B.1 2 dX12_disconnect_146 rfl rfl ?_
        refine rr_lald B 16 mh_16 mk_16 dX12_disconnect_147 (fun v7 => ?_)
        refine s_lconst (v := 0) B.1 dX12_disconnect_148 (by decide) ?_
        refine s_lcmp B.1 dX12_disconnect_149 ?_
        refine s_if_ne B.1 160 dX12_disconnect_150 (by decide) ?_ ?_
        · exact Sm.lvs [1, 2, 3, 0] rfl (sm_disconnect_J160 B l1 l2 s0)
        · refine s_aload_n B.1 1 dX12_disconnect_153 rfl rfl ?_
          refine s_sipush (v := (130)) B.1 dX12_disconnect_154 (by decide) ?_
          refine rr_cvv (As := [.int (130 : Int32)]) (st := []) B (m_fails B.ok (130 : Int32)) mc_fails ml_fails mi_fails me_fails ini12 md_fails (by decide) rfl (Nat.le_of_ble_eq_true rfl) dX12_disconnect_157 (fun r8 => ?_)
          exact Sm.lvs [1, 2, 3, 0] rfl (sm_disconnect_J160 B l1 l2 s0)
def R_disconnect_J115 (l1 : Int32) (l2 : Int32) : RS → Option (Unit × RS) :=
  R_disconnect_J116 l1 l2 (0 : Int32)
set_option maxRecDepth 10000 in
theorem sm_disconnect_J115 {g : Gm RS Unit} (B : Br g cX12_disconnect 5 voV none 9 222) (l1 : Int32) (l2 : Int32) : Sm g 5 115 [(0, .ref g.1.2.2.2.2.2), (1, .int l1), (2, .int l2)] [] (R_disconnect_J115 l1 l2) := by
  unfold R_disconnect_J115
  refine s_iconst (v := 0) B.1 dX12_disconnect_115 (by decide) ?_
  exact Sm.lvs [0, 1, 2] rfl (sm_disconnect_J116 B l1 l2 (0 : Int32))
def R_disconnect_J97 (l1 : Int32) (l2 : Int32) (l3 : Int32) : RS → Option (Unit × RS) :=
  if l3 = 0 then (
    R_disconnect_J115 l1 l2
  ) else (
    rA 82 (17 : Int32) fun v9 =>
    if v9 = 0 then (
      R_disconnect_J115 l1 l2
    ) else (
      R_disconnect_J116 l1 l2 (1 : Int32)
    )
  )
set_option maxRecDepth 10000 in
theorem sm_disconnect_J97 {g : Gm RS Unit} (B : Br g cX12_disconnect 5 voV none 9 222) (l1 : Int32) (l2 : Int32) (l3 : Int32) : Sm g 5 97 [(0, .ref g.1.2.2.2.2.2), (1, .int l1), (2, .int l2), (3, .int l3)] [] (R_disconnect_J97 l1 l2 l3) := by
  unfold R_disconnect_J97
  refine s_iload_n B.1 3 dX12_disconnect_97 rfl rfl ?_
  refine s_if_eq B.1 115 dX12_disconnect_98 (by decide) ?_ ?_
  · exact Sm.lvs [0, 1, 2] rfl (sm_disconnect_J115 B l1 l2)
  · refine s_aload_n B.1 0 dX12_disconnect_101 rfl rfl ?_
    refine rr_getA B 82 mh_82 mn_82 mf_82 dX12_disconnect_102 ?_
    refine s_bipush (v := (17)) B.1 dX12_disconnect_105 (by decide) ?_
    refine rr_zald B 82 mh_82 mk_82 dX12_disconnect_107 (fun v9 => ?_)
    refine s_if_eq B.1 115 dX12_disconnect_108 (by decide) ?_ ?_
    · exact Sm.lvs [0, 1, 2] rfl (sm_disconnect_J115 B l1 l2)
    · refine s_iconst (v := 1) B.1 dX12_disconnect_111 (by decide) ?_
      refine s_goto B.1 116 dX12_disconnect_112 (by decide) ?_
      exact Sm.lvs [0, 1, 2] rfl (sm_disconnect_J116 B l1 l2 (1 : Int32))
def R_disconnect_J72 (l1 : Int32) (l2 : Int32) (l3 : Int32) : RS → Option (Unit × RS) :=
  rI 79 fun v10 =>
  if v10 = 0 then (
    rI 76 fun v11 =>
    rI 77 fun v12 =>
    if v12 ≤ v11 then (
      R_disconnect_J97 l1 l2 l3
    ) else (
      bd (R_fails (129 : Int32)) fun r13 =>
      R_disconnect_J97 l1 l2 l3
    )
  ) else (
    R_disconnect_J97 l1 l2 l3
  )
set_option maxRecDepth 10000 in
theorem sm_disconnect_J72 {g : Gm RS Unit} (B : Br g cX12_disconnect 5 voV none 9 222) (l1 : Int32) (l2 : Int32) (l3 : Int32) : Sm g 5 72 [(0, .ref g.1.2.2.2.2.2), (1, .int l1), (2, .int l2), (3, .int l3)] [] (R_disconnect_J72 l1 l2 l3) := by
  unfold R_disconnect_J72
  refine s_aload_n B.1 0 dX12_disconnect_72 rfl rfl ?_
  refine rr_getI B 79 mh_79 mk_79 mf_79 dX12_disconnect_73 (fun v10 => ?_)
  refine s_if_ne B.1 97 dX12_disconnect_76 (by decide) ?_ ?_
  · exact Sm.lvs [0, 1, 2, 3] rfl (sm_disconnect_J97 B l1 l2 l3)
  · refine s_aload_n B.1 0 dX12_disconnect_79 rfl rfl ?_
    refine rr_getI B 76 mh_76 mk_76 mf_76 dX12_disconnect_80 (fun v11 => ?_)
    refine s_aload_n B.1 0 dX12_disconnect_83 rfl rfl ?_
    refine rr_getI B 77 mh_77 mk_77 mf_77 dX12_disconnect_84 (fun v12 => ?_)
    refine s_icmp_ge B.1 97 dX12_disconnect_87 (by decide) ?_ ?_
    · exact Sm.lvs [0, 1, 2, 3] rfl (sm_disconnect_J97 B l1 l2 l3)
    · refine s_aload_n B.1 0 dX12_disconnect_90 rfl rfl ?_
      refine s_sipush (v := (129)) B.1 dX12_disconnect_91 (by decide) ?_
      refine rr_cvv (As := [.int (129 : Int32)]) (st := []) B (m_fails B.ok (129 : Int32)) mc_fails ml_fails mi_fails me_fails ini12 md_fails (by decide) rfl (Nat.le_of_ble_eq_true rfl) dX12_disconnect_94 (fun r13 => ?_)
      exact Sm.lvs [0, 1, 2, 3] rfl (sm_disconnect_J97 B l1 l2 l3)
def R_disconnect_J46 (l1 : Int32) (l2 : Int32) (s0 : Int32) : RS → Option (Unit × RS) :=
  if s0 = 0 then (
    R_disconnect_J72 l1 l2 s0
  ) else (
    bd (R_bit (17 : Int32)) fun r14 =>
    bd (R_bit (31 : Int32)) fun r15 =>
    bd (R_bit (38 : Int32)) fun r16 =>
    bd (R_properties ((r14 ||| r15) ||| r16)) fun r17 =>
    R_disconnect_J72 l1 l2 s0
  )
set_option maxRecDepth 10000 in
theorem sm_disconnect_J46 {g : Gm RS Unit} (B : Br g cX12_disconnect 5 voV none 9 222) (l1 : Int32) (l2 : Int32) (s0 : Int32) : Sm g 5 46 [(0, .ref g.1.2.2.2.2.2), (1, .int l1), (2, .int l2)] [.int s0] (R_disconnect_J46 l1 l2 s0) := by
  unfold R_disconnect_J46
  refine s_istore_n (lv' := [(3, .int s0), (0, .ref g.1.2.2.2.2.2), (1, .int l1), (2, .int l2)]) B.1 dX12_disconnect_46 rfl (by decide) rfl ?_
  refine s_iload_n B.1 0 dX12_disconnect_47 rfl rfl ?_
  refine s_if_eq B.1 72 dX12_disconnect_48 (by decide) ?_ ?_
  · exact Sm.lvs [1, 2, 3, 0] rfl (sm_disconnect_J72 B l1 l2 s0)
  · refine s_aload_n B.1 1 dX12_disconnect_51 rfl rfl ?_
    refine s_bipush (v := (17)) B.1 dX12_disconnect_52 (by decide) ?_
    refine rr_csl (As := [.int (17 : Int32)]) (st := [.ref g.1.2.2.2.2.2]) B (m_bit B.ok (17 : Int32)) mc_bit ml_bit ms_bit ini12 md_bit (by decide) rfl (Nat.le_of_ble_eq_true rfl) dX12_disconnect_54 (fun r14 => ?_)
    refine s_bipush (v := (31)) B.1 dX12_disconnect_57 (by decide) ?_
    refine rr_csl (As := [.int (31 : Int32)]) (st := [.long r14, .ref g.1.2.2.2.2.2]) B (m_bit B.ok (31 : Int32)) mc_bit ml_bit ms_bit ini12 md_bit (by decide) rfl (Nat.le_of_ble_eq_true rfl) dX12_disconnect_59 (fun r15 => ?_)
    refine s_lor B.1 dX12_disconnect_62 ?_
    refine s_bipush (v := (38)) B.1 dX12_disconnect_63 (by decide) ?_
    refine rr_csl (As := [.int (38 : Int32)]) (st := [.long (r14 ||| r15), .ref g.1.2.2.2.2.2]) B (m_bit B.ok (38 : Int32)) mc_bit ml_bit ms_bit ini12 md_bit (by decide) rfl (Nat.le_of_ble_eq_true rfl) dX12_disconnect_65 (fun r16 => ?_)
    refine s_lor B.1 dX12_disconnect_68 ?_
    refine rr_cvv (As := [.long ((r14 ||| r15) ||| r16)]) (st := []) B (m_properties B.ok ((r14 ||| r15) ||| r16)) mc_properties ml_properties mi_properties me_properties ini12 md_properties (by decide) rfl (Nat.le_of_ble_eq_true rfl) dX12_disconnect_69 (fun r17 => ?_)
    exact Sm.lvs [1, 2, 3, 0] rfl (sm_disconnect_J72 B l1 l2 s0)
def R_disconnect_J29 (l1 : Int32) (s0 : Int32) : RS → Option (Unit × RS) :=
  rI 76 fun v18 =>
  rI 77 fun v19 =>
  if v19 ≤ v18 then (
    R_disconnect_J46 l1 s0 (0 : Int32)
  ) else (
    R_disconnect_J46 l1 s0 (1 : Int32)
  )
set_option maxRecDepth 10000 in
theorem sm_disconnect_J29 {g : Gm RS Unit} (B : Br g cX12_disconnect 5 voV none 9 222) (l1 : Int32) (s0 : Int32) : Sm g 5 29 [(0, .ref g.1.2.2.2.2.2), (1, .int l1)] [.int s0] (R_disconnect_J29 l1 s0) := by
  unfold R_disconnect_J29
  refine s_istore_n (lv' := [(2, .int s0), (0, .ref g.1.2.2.2.2.2), (1, .int l1)]) B.1 dX12_disconnect_29 rfl (by decide) rfl ?_
  refine s_aload_n B.1 1 dX12_disconnect_30 rfl rfl ?_
  refine rr_getI B 76 mh_76 mk_76 mf_76 dX12_disconnect_31 (fun v18 => ?_)
  refine s_aload_n B.1 1 dX12_disconnect_34 rfl rfl ?_
  refine rr_getI B 77 mh_77 mk_77 mf_77 dX12_disconnect_35 (fun v19 => ?_)
  refine s_icmp_ge B.1 45 dX12_disconnect_38 (by decide) ?_ ?_
  · refine s_iconst (v := 0) B.1 dX12_disconnect_45 (by decide) ?_
    exact Sm.lvs [1, 2, 0] rfl (sm_disconnect_J46 B l1 s0 (0 : Int32))
  · refine s_iconst (v := 1) B.1 dX12_disconnect_41 (by decide) ?_
    refine s_goto B.1 46 dX12_disconnect_42 (by decide) ?_
    exact Sm.lvs [1, 2, 0] rfl (sm_disconnect_J46 B l1 s0 (1 : Int32))
def R_disconnect : RS → Option (Unit × RS) :=
  rI 75 fun v20 =>
  rA 7 v20 fun v21 =>
  rI 76 fun v22 =>
  rI 77 fun v23 =>
  if v23 ≤ v22 then (
    R_disconnect_J29 v21 (0 : Int32)
  ) else (
    bd (R_one) fun r24 =>
    R_disconnect_J29 v21 r24
  )
set_option maxRecDepth 10000 in
theorem m_disconnect {w : Wd} (hw : Wok w) : MR w yX12_disconnect cX12_disconnect 5 none 9 222 voV [.ref w.2.2.2.2.2] (R_disconnect) := by
  refine MR.of hw rfl (Nat.le_of_ble_eq_true rfl) (fun g hg B => ?_)
  subst hg
  unfold R_disconnect
  show Sm g 5 0 [(0, .ref g.1.2.2.2.2.2)] [] _
  refine s_aload_n B.1 0 dX12_disconnect_0 rfl rfl ?_
  refine rr_getA B 7 mh_7 mn_7 mf_7 dX12_disconnect_1 ?_
  refine s_aload_n B.1 0 dX12_disconnect_4 rfl rfl ?_
  refine rr_getI B 75 mh_75 mk_75 mf_75 dX12_disconnect_5 (fun v20 => ?_)
  refine rr_iald B 7 mh_7 mk_7 dX12_disconnect_8 (fun v21 => ?_)
  refine s_istore_n (lv' := [(1, .int v21), (0, .ref g.1.2.2.2.2.2)]) B.1 dX12_disconnect_9 rfl (by decide) rfl ?_
  refine s_aload_n B.1 1 dX12_disconnect_10 rfl rfl ?_
  refine rr_getI B 76 mh_76 mk_76 mf_76 dX12_disconnect_11 (fun v22 => ?_)
  refine s_aload_n B.1 1 dX12_disconnect_14 rfl rfl ?_
  refine rr_getI B 77 mh_77 mk_77 mf_77 dX12_disconnect_15 (fun v23 => ?_)
  refine s_icmp_ge B.1 28 dX12_disconnect_18 (by decide) ?_ ?_
  · refine s_iconst (v := 0) B.1 dX12_disconnect_28 (by decide) ?_
    exact Sm.lvs [1, 0] rfl (sm_disconnect_J29 B v21 (0 : Int32))
  · refine s_aload_n B.1 1 dX12_disconnect_21 rfl rfl ?_
    refine rr_cvi (As := []) (st := []) B (m_one B.ok) mc_one ml_one mi_one me_one ini12 md_one (by decide) rfl (Nat.le_of_ble_eq_true rfl) dX12_disconnect_22 (fun r24 => ?_)
    refine s_goto B.1 29 dX12_disconnect_25 (by decide) ?_
    exact Sm.lvs [1, 0] rfl (sm_disconnect_J29 B v21 r24)
def R_ping_J18 : RS → Option (Unit × RS) :=
  rI 79 fun v1 =>
  if v1 = 0 then (
    rI 75 fun v2 =>
    bd (R_short4 v2 (208 : Int32) (0 : Int32) (0 : Int32) (0 : Int32) (2 : Int32)) fun r3 =>
    rt ()
  ) else (
    rt ()
  )
set_option maxRecDepth 10000 in
theorem sm_ping_J18 {g : Gm RS Unit} (B : Br g cX12_ping 1 voV none 2 48) : Sm g 1 18 [(0, .ref g.1.2.2.2.2.2)] [] (R_ping_J18) := by
  unfold R_ping_J18
  refine s_aload_n B.1 0 dX12_ping_18 rfl rfl ?_
  refine rr_getI B 79 mh_79 mk_79 mf_79 dX12_ping_19 (fun v1 => ?_)
  refine s_if_eq B.1 26 dX12_ping_22 (by decide) ?_ ?_
  · refine s_aload_n B.1 0 dX12_ping_26 rfl rfl ?_
    refine s_aload_n B.1 0 dX12_ping_27 rfl rfl ?_
    refine rr_getI B 75 mh_75 mk_75 mf_75 dX12_ping_28 (fun v2 => ?_)
    refine s_sipush (v := (208)) B.1 dX12_ping_31 (by decide) ?_
    refine s_iconst (v := 0) B.1 dX12_ping_34 (by decide) ?_
    refine s_iconst (v := 0) B.1 dX12_ping_35 (by decide) ?_
    refine s_iconst (v := 0) B.1 dX12_ping_36 (by decide) ?_
    refine s_iconst (v := 2) B.1 dX12_ping_37 (by decide) ?_
    refine rr_cvv (As := [.int v2, .int (208 : Int32), .int (0 : Int32), .int (0 : Int32), .int (0 : Int32), .int (2 : Int32)]) (st := []) B (m_short4 B.ok v2 (208 : Int32) (0 : Int32) (0 : Int32) (0 : Int32) (2 : Int32)) mc_short4 ml_short4 mi_short4 me_short4 ini12 md_short4 (by decide) rfl (Nat.le_of_ble_eq_true rfl) dX12_ping_38 (fun r3 => ?_)
    exact s_vret B.1 B.2.1 dX12_ping_41
  · exact s_vret B.1 B.2.1 dX12_ping_25
def R_ping : RS → Option (Unit × RS) :=
  rI 76 fun v4 =>
  rI 77 fun v5 =>
  if v5 ≤ v4 then (
    R_ping_J18
  ) else (
    bd (R_fails (129 : Int32)) fun r6 =>
    R_ping_J18
  )
set_option maxRecDepth 10000 in
theorem m_ping {w : Wd} (hw : Wok w) : MR w yX12_ping cX12_ping 1 none 2 48 voV [.ref w.2.2.2.2.2] (R_ping) := by
  refine MR.of hw rfl (Nat.le_of_ble_eq_true rfl) (fun g hg B => ?_)
  subst hg
  unfold R_ping
  show Sm g 1 0 [(0, .ref g.1.2.2.2.2.2)] [] _
  refine s_aload_n B.1 0 dX12_ping_0 rfl rfl ?_
  refine rr_getI B 76 mh_76 mk_76 mf_76 dX12_ping_1 (fun v4 => ?_)
  refine s_aload_n B.1 0 dX12_ping_4 rfl rfl ?_
  refine rr_getI B 77 mh_77 mk_77 mf_77 dX12_ping_5 (fun v5 => ?_)
  refine s_icmp_ge B.1 18 dX12_ping_8 (by decide) ?_ ?_
  · exact Sm.lvs [0] rfl (sm_ping_J18 B)
  · refine s_aload_n B.1 0 dX12_ping_11 rfl rfl ?_
    refine s_sipush (v := (129)) B.1 dX12_ping_12 (by decide) ?_
    refine rr_cvv (As := [.int (129 : Int32)]) (st := []) B (m_fails B.ok (129 : Int32)) mc_fails ml_fails mi_fails me_fails ini12 md_fails (by decide) rfl (Nat.le_of_ble_eq_true rfl) dX12_ping_15 (fun r6 => ?_)
    exact Sm.lvs [0] rfl (sm_ping_J18 B)
def R_publish_J615 (s1 : Int32) (s2 : Int32) (s3 : Int32) : RS → Option (Unit × RS) :=
  bd (R_answer s1 s2 s3) fun r1 =>
  rt ()
set_option maxRecDepth 10000 in
theorem sm_publish_J615 {g : Gm RS Unit} (B : Br g cX12_publish 10 voV none 7 157) (s1 : Int32) (s2 : Int32) (s3 : Int32) : Sm g 10 615 [] [.int s3, .int s2, .int s1, .ref g.1.2.2.2.2.2] (R_publish_J615 s1 s2 s3) := by
  unfold R_publish_J615
  refine rr_cvv (As := [.int s1, .int s2, .int s3]) (st := []) B (m_answer B.ok s1 s2 s3) mc_answer ml_answer mi_answer me_answer ini12 md_answer (by decide) rfl (Nat.le_of_ble_eq_true rfl) dX12_publish_615 (fun r1 => ?_)
  exact s_vret B.1 B.2.1 dX12_publish_618
def R_publish_J602 (l6 : Int32) (l9 : Int32) (s1 : Int32) : RS → Option (Unit × RS) :=
  if l9 = 0 then (
    R_publish_J615 s1 l6 (16 : Int32)
  ) else (
    R_publish_J615 s1 l6 (0 : Int32)
  )
set_option maxRecDepth 10000 in
theorem sm_publish_J602 {g : Gm RS Unit} (B : Br g cX12_publish 10 voV none 7 157) (l6 : Int32) (l9 : Int32) (s1 : Int32) : Sm g 10 602 [(6, .int l6), (9, .int l9)] [.int s1, .ref g.1.2.2.2.2.2] (R_publish_J602 l6 l9 s1) := by
  unfold R_publish_J602
  refine s_iload B.1 0 dX12_publish_602 rfl ?_
  refine s_iload B.1 1 dX12_publish_604 rfl ?_
  refine s_if_eq B.1 613 dX12_publish_606 (by decide) ?_ ?_
  · refine s_bipush (v := (16)) B.1 dX12_publish_613 (by decide) ?_
    exact Sm.lvs [] rfl (sm_publish_J615 B s1 l6 (16 : Int32))
  · refine s_iconst (v := 0) B.1 dX12_publish_609 (by decide) ?_
    refine s_goto B.1 615 dX12_publish_610 (by decide) ?_
    exact Sm.lvs [] rfl (sm_publish_J615 B s1 l6 (0 : Int32))
def R_publish_J585 (l1 : Int32) (l6 : Int32) (l9 : Int32) : RS → Option (Unit × RS) :=
  if l1 ≤ 0 then (
    rt ()
  ) else (
    if l1 = (1 : Int32) then (
      R_publish_J602 l6 l9 (64 : Int32)
    ) else (
      R_publish_J602 l6 l9 (80 : Int32)
    )
  )
set_option maxRecDepth 10000 in
theorem sm_publish_J585 {g : Gm RS Unit} (B : Br g cX12_publish 10 voV none 7 157) (l1 : Int32) (l6 : Int32) (l9 : Int32) : Sm g 10 585 [(0, .ref g.1.2.2.2.2.2), (1, .int l1), (6, .int l6), (9, .int l9)] [] (R_publish_J585 l1 l6 l9) := by
  unfold R_publish_J585
  refine s_iload_n B.1 1 dX12_publish_585 rfl rfl ?_
  refine s_if_le B.1 618 dX12_publish_586 (by decide) ?_ ?_
  · exact s_vret B.1 B.2.1 dX12_publish_618
  · refine s_aload_n B.1 0 dX12_publish_589 rfl rfl ?_
    refine s_iload_n B.1 1 dX12_publish_590 rfl rfl ?_
    refine s_iconst (v := 1) B.1 dX12_publish_591 (by decide) ?_
    refine s_icmp_ne B.1 600 dX12_publish_592 (by decide) ?_ ?_
    · refine s_bipush (v := (80)) B.1 dX12_publish_600 (by decide) ?_
      exact Sm.lvs [2, 3] rfl (sm_publish_J602 B l6 l9 (80 : Int32))
    · refine s_bipush (v := (64)) B.1 dX12_publish_595 (by decide) ?_
      refine s_goto B.1 602 dX12_publish_597 (by decide) ?_
      exact Sm.lvs [2, 3] rfl (sm_publish_J602 B l6 l9 (64 : Int32))
def R_publish_J549 (l1 : Int32) (l3 : Int32) (l6 : Int32) (l8 : Int32) : RS → Option (Unit × RS) :=
  bd (R_distribute l8) fun r2 =>
  if l1 = (2 : Int32) then (
    rA 43 l3 fun v3 =>
    wA 43 l3 (v3 + (1 : Int32)) <|
    wA 44 (((8 : Int32) * l3) + v3) l6 <|
    R_publish_J585 l1 l6 r2
  ) else (
    R_publish_J585 l1 l6 r2
  )
set_option maxRecDepth 10000 in
theorem sm_publish_J549 {g : Gm RS Unit} (B : Br g cX12_publish 10 voV none 7 157) (l1 : Int32) (l3 : Int32) (l6 : Int32) (l8 : Int32) : Sm g 10 549 [(0, .ref g.1.2.2.2.2.2), (1, .int l1), (3, .int l3), (6, .int l6), (8, .int l8)] [] (R_publish_J549 l1 l3 l6 l8) := by
  unfold R_publish_J549
  refine s_aload_n B.1 0 dX12_publish_549 rfl rfl ?_
  refine s_iload B.1 4 dX12_publish_550 rfl ?_
  refine rr_cvi (As := [.int l8]) (st := []) B (m_distribute B.ok l8) mc_distribute ml_distribute mi_distribute me_distribute ini12 md_distribute (by decide) rfl (Nat.le_of_ble_eq_true rfl) dX12_publish_552 (fun r2 => ?_)
  refine s_istore (lv' := [(9, .int r2), (0, .ref g.1.2.2.2.2.2), (1, .int l1), (3, .int l3), (6, .int l6), (8, .int l8)]) B.1 dX12_publish_555 (by decide) rfl ?_
  refine s_iload_n B.1 2 dX12_publish_557 rfl rfl ?_
  refine s_iconst (v := 2) B.1 dX12_publish_558 (by decide) ?_
  refine s_icmp_ne B.1 585 dX12_publish_559 (by decide) ?_ ?_
  · exact Sm.lvs [1, 2, 4, 0] rfl (sm_publish_J585 B l1 l6 r2)
  · refine s_aload_n B.1 1 dX12_publish_562 rfl rfl ?_
    refine rr_getA B 44 mh_44 mn_44 mf_44 dX12_publish_563 ?_
    refine s_bipush (v := (8)) B.1 dX12_publish_566 (by decide) ?_
    refine s_iload_n B.1 3 dX12_publish_568 rfl rfl ?_
    refine s_imul B.1 dX12_publish_569 ?_
    refine s_aload_n B.1 1 dX12_publish_570 rfl rfl ?_
    refine rr_getA B 43 mh_43 mn_43 mf_43 dX12_publish_571 ?_
    refine s_iload_n B.1 3 dX12_publish_574 rfl rfl ?_
    refine s_dup2 B.1 dX12_publish_575 rfl rfl ?_
    refine rr_iald B 43 mh_43 mk_43 dX12_publish_576 (fun v3 => ?_)
    refine s_dup_x2 B.1 dX12_publish_577 rfl rfl rfl ?_
    refine s_iconst (v := 1) B.1 dX12_publish_578 (by decide) ?_
    refine s_iadd B.1 dX12_publish_579 ?_
    refine rr_iast B 43 mh_43 mk_43 dX12_publish_580 ?_
    refine s_iadd B.1 dX12_publish_581 ?_
    refine s_iload B.1 4 dX12_publish_582 rfl ?_
    refine rr_iast B 44 mh_44 mk_44 dX12_publish_584 ?_
    exact Sm.lvs [1, 2, 4, 0] rfl (sm_publish_J585 B l1 l6 r2)
def R_publish_J540 (l6 : Int32) (s1 : Int32) : RS → Option (Unit × RS) :=
  bd (R_answer s1 l6 (151 : Int32)) fun r4 =>
  rt ()
set_option maxRecDepth 10000 in
theorem sm_publish_J540 {g : Gm RS Unit} (B : Br g cX12_publish 10 voV none 7 157) (l6 : Int32) (s1 : Int32) : Sm g 10 540 [(6, .int l6)] [.int s1, .ref g.1.2.2.2.2.2] (R_publish_J540 l6 s1) := by
  unfold R_publish_J540
  refine s_iload B.1 0 dX12_publish_540 rfl ?_
  refine s_sipush (v := (151)) B.1 dX12_publish_542 (by decide) ?_
  refine rr_cvv (As := [.int s1, .int l6, .int (151 : Int32)]) (st := []) B (m_answer B.ok s1 l6 (151 : Int32)) mc_answer ml_answer mi_answer me_answer ini12 md_answer (by decide) rfl (Nat.le_of_ble_eq_true rfl) dX12_publish_545 (fun r4 => ?_)
  exact s_vret B.1 B.2.1 dX12_publish_548
def R_publish_J488 (l1 : Int32) (l2 : Int32) (l3 : Int32) (l6 : Int32) : RS → Option (Unit × RS) :=
  rI 76 fun v5 =>
  rI 77 fun v6 =>
  rI 76 fun v7 =>
  bd (R_message v5 (v6 - v7) l1 l2) fun r8 =>
  if l2 = (1 : Int32) then (
    bd (R_keep r8) fun r9 =>
    if r9 = 0 then (
      if l1 ≤ 0 then (
        rt ()
      ) else (
        if l1 = (1 : Int32) then (
          R_publish_J540 l6 (64 : Int32)
        ) else (
          R_publish_J540 l6 (80 : Int32)
        )
      )
    ) else (
      R_publish_J549 l1 l3 l6 r8
    )
  ) else (
    R_publish_J549 l1 l3 l6 r8
  )
set_option maxRecDepth 10000 in
theorem sm_publish_J488 {g : Gm RS Unit} (B : Br g cX12_publish 10 voV none 7 157) (l1 : Int32) (l2 : Int32) (l3 : Int32) (l6 : Int32) : Sm g 10 488 [(0, .ref g.1.2.2.2.2.2), (1, .int l1), (2, .int l2), (3, .int l3), (6, .int l6)] [] (R_publish_J488 l1 l2 l3 l6) := by
  unfold R_publish_J488
  refine s_aload_n B.1 0 dX12_publish_488 rfl rfl ?_
  refine s_aload_n B.1 0 dX12_publish_489 rfl rfl ?_
  refine rr_getI B 76 mh_76 mk_76 mf_76 dX12_publish_490 (fun v5 => ?_)
  refine s_aload_n B.1 0 dX12_publish_493 rfl rfl ?_
  refine rr_getI B 77 mh_77 mk_77 mf_77 dX12_publish_494 (fun v6 => ?_)
  refine s_aload_n B.1 0 dX12_publish_497 rfl rfl ?_
  refine rr_getI B 76 mh_76 mk_76 mf_76 dX12_publish_498 (fun v7 => ?_)
  refine s_isub B.1 dX12_publish_501 ?_
  refine s_iload_n B.1 1 dX12_publish_502 rfl rfl ?_
  refine s_iload_n B.1 2 dX12_publish_503 rfl rfl ?_
  refine rr_cvi (As := [.int v5, .int (v6 - v7), .int l1, .int l2]) (st := []) B (m_message B.ok v5 (v6 - v7) l1 l2) mc_message ml_message mi_message me_message ini12 md_message (by decide) rfl (Nat.le_of_ble_eq_true rfl) dX12_publish_504 (fun r8 => ?_)
  refine s_istore (lv' := [(8, .int r8), (0, .ref g.1.2.2.2.2.2), (1, .int l1), (2, .int l2), (3, .int l3), (6, .int l6)]) B.1 dX12_publish_507 (by decide) rfl ?_
  refine s_iload_n B.1 3 dX12_publish_509 rfl rfl ?_
  refine s_iconst (v := 1) B.1 dX12_publish_510 (by decide) ?_
  refine s_icmp_ne B.1 549 dX12_publish_511 (by decide) ?_ ?_
  · exact Sm.lvs [1, 2, 4, 5, 0] rfl (sm_publish_J549 B l1 l3 l6 r8)
  · refine s_aload_n B.1 1 dX12_publish_514 rfl rfl ?_
    refine s_iload B.1 0 dX12_publish_515 rfl ?_
    refine rr_cvi (As := [.int r8]) (st := []) B (m_keep B.ok r8) mc_keep ml_keep mi_keep me_keep ini12 md_keep (by decide) rfl (Nat.le_of_ble_eq_true rfl) dX12_publish_517 (fun r9 => ?_)
    refine s_if_ne B.1 549 dX12_publish_520 (by decide) ?_ ?_
    · exact Sm.lvs [1, 2, 4, 5, 0] rfl (sm_publish_J549 B l1 l3 l6 r8)
    · refine s_iload_n B.1 2 dX12_publish_523 rfl rfl ?_
      refine s_if_le B.1 548 dX12_publish_524 (by decide) ?_ ?_
      · exact s_vret B.1 B.2.1 dX12_publish_548
      · refine s_aload_n B.1 1 dX12_publish_527 rfl rfl ?_
        refine s_iload_n B.1 2 dX12_publish_528 rfl rfl ?_
        refine s_iconst (v := 1) B.1 dX12_publish_529 (by decide) ?_
        refine s_icmp_ne B.1 538 dX12_publish_530 (by decide) ?_ ?_
        · refine s_bipush (v := (80)) B.1 dX12_publish_538 (by decide) ?_
          exact Sm.lvs [5] rfl (sm_publish_J540 B l6 (80 : Int32))
        · refine s_bipush (v := (64)) B.1 dX12_publish_533 (by decide) ?_
          refine s_goto B.1 540 dX12_publish_535 (by decide) ?_
          exact Sm.lvs [5] rfl (sm_publish_J540 B l6 (64 : Int32))
def R_publish_J464 (l1 : Int32) (l2 : Int32) (l3 : Int32) (l6 : Int32) : RS → Option (Unit × RS) :=
  if l1 = (2 : Int32) then (
    rA 43 l3 fun v10 =>
    if v10 = (8 : Int32) then (
      bd (R_fails (147 : Int32)) fun r11 =>
      rt ()
    ) else (
      R_publish_J488 l1 l2 l3 l6
    )
  ) else (
    R_publish_J488 l1 l2 l3 l6
  )
set_option maxRecDepth 10000 in
theorem sm_publish_J464 {g : Gm RS Unit} (B : Br g cX12_publish 10 voV none 7 157) (l1 : Int32) (l2 : Int32) (l3 : Int32) (l6 : Int32) : Sm g 10 464 [(0, .ref g.1.2.2.2.2.2), (1, .int l1), (2, .int l2), (3, .int l3), (6, .int l6)] [] (R_publish_J464 l1 l2 l3 l6) := by
  unfold R_publish_J464
  refine s_iload_n B.1 1 dX12_publish_464 rfl rfl ?_
  refine s_iconst (v := 2) B.1 dX12_publish_465 (by decide) ?_
  refine s_icmp_ne B.1 488 dX12_publish_466 (by decide) ?_ ?_
  · exact Sm.lvs [0, 1, 2, 3, 4] rfl (sm_publish_J488 B l1 l2 l3 l6)
  · refine s_aload_n B.1 0 dX12_publish_469 rfl rfl ?_
    refine rr_getA B 43 mh_43 mn_43 mf_43 dX12_publish_470 ?_
    refine s_iload_n B.1 3 dX12_publish_473 rfl rfl ?_
    refine rr_iald B 43 mh_43 mk_43 dX12_publish_474 (fun v10 => ?_)
    refine s_bipush (v := (8)) B.1 dX12_publish_475 (by decide) ?_
    refine s_icmp_ne B.1 488 dX12_publish_477 (by decide) ?_ ?_
    · exact Sm.lvs [0, 1, 2, 3, 4] rfl (sm_publish_J488 B l1 l2 l3 l6)
    · refine s_aload_n B.1 0 dX12_publish_480 rfl rfl ?_
      refine s_sipush (v := (147)) B.1 dX12_publish_481 (by decide) ?_
      refine rr_cvv (As := [.int (147 : Int32)]) (st := []) B (m_fails B.ok (147 : Int32)) mc_fails ml_fails mi_fails me_fails ini12 md_fails (by decide) rfl (Nat.le_of_ble_eq_true rfl) dX12_publish_484 (fun r11 => ?_)
      exact s_vret B.1 B.2.1 dX12_publish_487
def R_publish_J439 (l1 : Int32) (l2 : Int32) (l3 : Int32) (l6 : Int32) : RS → Option (Unit × RS) :=
  if l1 = (2 : Int32) then (
    bd (R_holds l3 l6) fun r12 =>
    if r12 < 0 then (
      R_publish_J464 l1 l2 l3 l6
    ) else (
      bd (R_answer (80 : Int32) l6 (0 : Int32)) fun r13 =>
      rt ()
    )
  ) else (
    R_publish_J464 l1 l2 l3 l6
  )
set_option maxRecDepth 10000 in
theorem sm_publish_J439 {g : Gm RS Unit} (B : Br g cX12_publish 10 voV none 7 157) (l1 : Int32) (l2 : Int32) (l3 : Int32) (l6 : Int32) : Sm g 10 439 [(0, .ref g.1.2.2.2.2.2), (1, .int l1), (2, .int l2), (3, .int l3), (6, .int l6)] [] (R_publish_J439 l1 l2 l3 l6) := by
  unfold R_publish_J439
  refine s_iload_n B.1 1 dX12_publish_439 rfl rfl ?_
  refine s_iconst (v := 2) B.1 dX12_publish_440 (by decide) ?_
  refine s_icmp_ne B.1 464 dX12_publish_441 (by decide) ?_ ?_
  · exact Sm.lvs [0, 1, 2, 3, 4] rfl (sm_publish_J464 B l1 l2 l3 l6)
  · refine s_aload_n B.1 0 dX12_publish_444 rfl rfl ?_
    refine s_iload_n B.1 3 dX12_publish_445 rfl rfl ?_
    refine s_iload B.1 4 dX12_publish_446 rfl ?_
    refine rr_cvi (As := [.int l3, .int l6]) (st := []) B (m_holds B.ok l3 l6) mc_holds ml_holds mi_holds me_holds ini12 md_holds (by decide) rfl (Nat.le_of_ble_eq_true rfl) dX12_publish_448 (fun r12 => ?_)
    refine s_if_lt B.1 464 dX12_publish_451 (by decide) ?_ ?_
    · exact Sm.lvs [0, 1, 2, 3, 4] rfl (sm_publish_J464 B l1 l2 l3 l6)
    · refine s_aload_n B.1 0 dX12_publish_454 rfl rfl ?_
      refine s_bipush (v := (80)) B.1 dX12_publish_455 (by decide) ?_
      refine s_iload B.1 4 dX12_publish_457 rfl ?_
      refine s_iconst (v := 0) B.1 dX12_publish_459 (by decide) ?_
      refine rr_cvv (As := [.int (80 : Int32), .int l6, .int (0 : Int32)]) (st := []) B (m_answer B.ok (80 : Int32) l6 (0 : Int32)) mc_answer ml_answer mi_answer me_answer ini12 md_answer (by decide) rfl (Nat.le_of_ble_eq_true rfl) dX12_publish_460 (fun r13 => ?_)
      exact s_vret B.1 B.2.1 dX12_publish_463
def R_publish_B404 (kb : Int32 → Int32 → Int32 → Int32 → Int32 → Int32 → RS → Option (Unit × RS)) (ke439 : Int32 → Int32 → Int32 → Int32 → RS → Option (Unit × RS)) (l1 : Int32) (l2 : Int32) (l3 : Int32) (l6 : Int32) (l7 : Int32) (l8 : Int32) : RS → Option (Unit × RS) :=
  rI 98 fun v14 =>
  if v14 ≤ l8 then (
    ke439 l1 l2 l3 l6
  ) else (
    rA 97 l8 fun v15 =>
    wA 10 (((64 : Int32) * l7) + l8) (vp_nar .byte v15) <|
    kb l1 l2 l3 l6 l7 (l8 + 1)
  )
def R_publish_L404 (ke439 : Int32 → Int32 → Int32 → Int32 → RS → Option (Unit × RS)) : Nat → Int32 → Int32 → Int32 → Int32 → Int32 → Int32 → RS → Option (Unit × RS)
  | 0, _, _, _, _, _, _ => no
  | n + 1, l1, l2, l3, l6, l7, l8 => R_publish_B404 (fun l1 l2 l3 l6 l7 l8 => R_publish_L404 ke439 n l1 l2 l3 l6 l7 l8) ke439 l1 l2 l3 l6 l7 l8
set_option maxRecDepth 10000 in
theorem sm_publish_B404 {g : Gm RS Unit} {kb : Int32 → Int32 → Int32 → Int32 → Int32 → Int32 → RS → Option (Unit × RS)} {ke439 : Int32 → Int32 → Int32 → Int32 → RS → Option (Unit × RS)} (B : Br g cX12_publish 10 voV none 7 157) (hkb : ∀ (l1 : Int32) (l2 : Int32) (l3 : Int32) (l6 : Int32) (l7 : Int32) (l8 : Int32), Sm g 10 404 [(0, .ref g.1.2.2.2.2.2), (1, .int l1), (2, .int l2), (3, .int l3), (6, .int l6), (7, .int l7), (8, .int l8)] [] (kb l1 l2 l3 l6 l7 l8)) (hke439 : ∀ (l1 : Int32) (l2 : Int32) (l3 : Int32) (l6 : Int32), Sm g 10 439 [(0, .ref g.1.2.2.2.2.2), (1, .int l1), (2, .int l2), (3, .int l3), (6, .int l6)] [] (ke439 l1 l2 l3 l6)) (l1 : Int32) (l2 : Int32) (l3 : Int32) (l6 : Int32) (l7 : Int32) (l8 : Int32) : Sm g 10 404 [(0, .ref g.1.2.2.2.2.2), (1, .int l1), (2, .int l2), (3, .int l3), (6, .int l6), (7, .int l7), (8, .int l8)] [] (R_publish_B404 kb ke439 l1 l2 l3 l6 l7 l8) := by
  unfold R_publish_B404
  refine s_iload B.1 6 dX12_publish_404 rfl ?_
  refine s_aload_n B.1 0 dX12_publish_406 rfl rfl ?_
  refine rr_getI B 98 mh_98 mk_98 mf_98 dX12_publish_407 (fun v14 => ?_)
  refine s_icmp_ge B.1 439 dX12_publish_410 (by decide) ?_ ?_
  · exact Sm.lvs [0, 1, 2, 3, 4] rfl (hke439 l1 l2 l3 l6)
  · refine s_aload_n B.1 0 dX12_publish_413 rfl rfl ?_
    refine rr_getA B 10 mh_10 mn_10 mf_10 dX12_publish_414 ?_
    refine s_bipush (v := (64)) B.1 dX12_publish_417 (by decide) ?_
    refine s_iload B.1 5 dX12_publish_419 rfl ?_
    refine s_imul B.1 dX12_publish_421 ?_
    refine s_iload B.1 6 dX12_publish_422 rfl ?_
    refine s_iadd B.1 dX12_publish_424 ?_
    refine s_aload_n B.1 0 dX12_publish_425 rfl rfl ?_
    refine rr_getA B 97 mh_97 mn_97 mf_97 dX12_publish_426 ?_
    refine s_iload B.1 6 dX12_publish_429 rfl ?_
    refine rr_bald B 97 mh_97 mk_97 dX12_publish_431 (fun v15 => ?_)
    refine rr_bast B 10 mh_10 mk_10 dX12_publish_432 ?_
    refine s_iinc (v := l8 + 1) (lv' := [(8, .int (l8 + 1)), (0, .ref g.1.2.2.2.2.2), (1, .int l1), (2, .int l2), (3, .int l3), (6, .int l6), (7, .int l7)]) B.1 6 dX12_publish_433 rfl rfl (by decide) rfl ?_
    refine s_goto B.1 404 dX12_publish_436 (by decide) ?_
    exact Sm.lvs [1, 2, 3, 4, 5, 6, 0] rfl (hkb l1 l2 l3 l6 l7 (l8 + 1))
set_option maxRecDepth 10000 in
theorem sm_publish_L404 {g : Gm RS Unit} {ke439 : Int32 → Int32 → Int32 → Int32 → RS → Option (Unit × RS)} (B : Br g cX12_publish 10 voV none 7 157) (hke439 : ∀ (l1 : Int32) (l2 : Int32) (l3 : Int32) (l6 : Int32), Sm g 10 439 [(0, .ref g.1.2.2.2.2.2), (1, .int l1), (2, .int l2), (3, .int l3), (6, .int l6)] [] (ke439 l1 l2 l3 l6)) : ∀ (n : Nat) (l1 : Int32) (l2 : Int32) (l3 : Int32) (l6 : Int32) (l7 : Int32) (l8 : Int32), Sm g 10 404 [(0, .ref g.1.2.2.2.2.2), (1, .int l1), (2, .int l2), (3, .int l3), (6, .int l6), (7, .int l7), (8, .int l8)] [] (R_publish_L404 ke439 n l1 l2 l3 l6 l7 l8)
  | 0, _, _, _, _, _, _ => Sm.fail
  | n + 1, l1, l2, l3, l6, l7, l8 => sm_publish_B404 B (sm_publish_L404 B hke439 n) hke439 l1 l2 l3 l6 l7 l8
def R_publish_J385 (l1 : Int32) (l2 : Int32) (l3 : Int32) (l6 : Int32) (l7 : Int32) : RS → Option (Unit × RS) :=
  if l7 < 0 then (
    R_publish_J439 l1 l2 l3 l6
  ) else (
    rI 98 fun v16 =>
    wA 9 l7 v16 <|
    R_publish_L404 (fun l1 l2 l3 l6 => R_publish_J439 l1 l2 l3 l6) fu l1 l2 l3 l6 l7 (0 : Int32)
  )
set_option maxRecDepth 10000 in
theorem sm_publish_J385 {g : Gm RS Unit} (B : Br g cX12_publish 10 voV none 7 157) (l1 : Int32) (l2 : Int32) (l3 : Int32) (l6 : Int32) (l7 : Int32) : Sm g 10 385 [(0, .ref g.1.2.2.2.2.2), (1, .int l1), (2, .int l2), (3, .int l3), (6, .int l6), (7, .int l7)] [] (R_publish_J385 l1 l2 l3 l6 l7) := by
  unfold R_publish_J385
  refine s_iload B.1 5 dX12_publish_385 rfl ?_
  refine s_if_lt B.1 439 dX12_publish_387 (by decide) ?_ ?_
  · exact Sm.lvs [0, 1, 2, 3, 4] rfl (sm_publish_J439 B l1 l2 l3 l6)
  · refine s_aload_n B.1 0 dX12_publish_390 rfl rfl ?_
    refine rr_getA B 9 mh_9 mn_9 mf_9 dX12_publish_391 ?_
    refine s_iload B.1 5 dX12_publish_394 rfl ?_
    refine s_aload_n B.1 0 dX12_publish_396 rfl rfl ?_
    refine rr_getI B 98 mh_98 mk_98 mf_98 dX12_publish_397 (fun v16 => ?_)
    refine rr_iast B 9 mh_9 mk_9 dX12_publish_400 ?_
    refine s_iconst (v := 0) B.1 dX12_publish_401 (by decide) ?_
    refine s_istore (lv' := [(8, .int (0 : Int32)), (0, .ref g.1.2.2.2.2.2), (1, .int l1), (2, .int l2), (3, .int l3), (6, .int l6), (7, .int l7)]) B.1 dX12_publish_402 (by decide) rfl ?_
    exact Sm.lvs [1, 2, 3, 4, 5, 6, 0] rfl (sm_publish_L404 B (fun l1 l2 l3 l6 => sm_publish_J439 B l1 l2 l3 l6) fu l1 l2 l3 l6 l7 (0 : Int32))
def R_publish_J378 (kb : Int32 → Int32 → Int32 → Int32 → Int32 → Int32 → Int32 → Int32 → RS → Option (Unit × RS)) (ke385 : Int32 → Int32 → Int32 → Int32 → Int32 → RS → Option (Unit × RS)) (l1 : Int32) (l2 : Int32) (l3 : Int32) (l4 : Int32) (l5 : Int32) (l6 : Int32) (l7 : Int32) (l8 : Int32) (s1 : Int32) (s2 : Int32) : RS → Option (Unit × RS) :=
  wA 97 s1 (vp_nar .byte s2) <|
  kb l1 l2 l3 l4 l5 l6 l7 (l8 + 1)
set_option maxRecDepth 10000 in
theorem sm_publish_J378 {g : Gm RS Unit} {kb : Int32 → Int32 → Int32 → Int32 → Int32 → Int32 → Int32 → Int32 → RS → Option (Unit × RS)} {ke385 : Int32 → Int32 → Int32 → Int32 → Int32 → RS → Option (Unit × RS)} (B : Br g cX12_publish 10 voV none 7 157) (hkb : ∀ (l1 : Int32) (l2 : Int32) (l3 : Int32) (l4 : Int32) (l5 : Int32) (l6 : Int32) (l7 : Int32) (l8 : Int32), Sm g 10 332 [(0, .ref g.1.2.2.2.2.2), (1, .int l1), (2, .int l2), (3, .int l3), (4, .int l4), (5, .int l5), (6, .int l6), (7, .int l7), (8, .int l8)] [] (kb l1 l2 l3 l4 l5 l6 l7 l8)) (hke385 : ∀ (l1 : Int32) (l2 : Int32) (l3 : Int32) (l6 : Int32) (l7 : Int32), Sm g 10 385 [(0, .ref g.1.2.2.2.2.2), (1, .int l1), (2, .int l2), (3, .int l3), (6, .int l6), (7, .int l7)] [] (ke385 l1 l2 l3 l6 l7)) (l1 : Int32) (l2 : Int32) (l3 : Int32) (l4 : Int32) (l5 : Int32) (l6 : Int32) (l7 : Int32) (l8 : Int32) (s1 : Int32) (s2 : Int32) : Sm g 10 378 [(0, .ref g.1.2.2.2.2.2), (1, .int l1), (2, .int l2), (3, .int l3), (4, .int l4), (5, .int l5), (6, .int l6), (7, .int l7), (8, .int l8)] [.int s2, .int s1, .ref (g.1.2.2.2.2.2 + mO 97)] (R_publish_J378 kb ke385 l1 l2 l3 l4 l5 l6 l7 l8 s1 s2) := by
  unfold R_publish_J378
  refine rr_bast B 97 mh_97 mk_97 dX12_publish_378 ?_
  refine s_iinc (v := l8 + 1) (lv' := [(8, .int (l8 + 1)), (0, .ref g.1.2.2.2.2.2), (1, .int l1), (2, .int l2), (3, .int l3), (4, .int l4), (5, .int l5), (6, .int l6), (7, .int l7)]) B.1 8 dX12_publish_379 rfl rfl (by decide) rfl ?_
  refine s_goto B.1 332 dX12_publish_382 (by decide) ?_
  exact Sm.lvs [1, 2, 3, 4, 5, 6, 7, 8, 0] rfl (hkb l1 l2 l3 l4 l5 l6 l7 (l8 + 1))
def R_publish_B332 (kb : Int32 → Int32 → Int32 → Int32 → Int32 → Int32 → Int32 → Int32 → RS → Option (Unit × RS)) (ke385 : Int32 → Int32 → Int32 → Int32 → Int32 → RS → Option (Unit × RS)) (l1 : Int32) (l2 : Int32) (l3 : Int32) (l4 : Int32) (l5 : Int32) (l6 : Int32) (l7 : Int32) (l8 : Int32) : RS → Option (Unit × RS) :=
  rI 98 fun v17 =>
  if v17 ≤ l8 then (
    ke385 l1 l2 l3 l6 l7
  ) else (
    if l5 = 0 then (
      rA 10 (((64 : Int32) * l7) + l8) fun v19 =>
      R_publish_J378 kb ke385 l1 l2 l3 l4 l5 l6 l7 l8 l8 v19
    ) else (
      rA 6 (l4 + l8) fun v18 =>
      R_publish_J378 kb ke385 l1 l2 l3 l4 l5 l6 l7 l8 l8 v18
    )
  )
def R_publish_L332 (ke385 : Int32 → Int32 → Int32 → Int32 → Int32 → RS → Option (Unit × RS)) : Nat → Int32 → Int32 → Int32 → Int32 → Int32 → Int32 → Int32 → Int32 → RS → Option (Unit × RS)
  | 0, _, _, _, _, _, _, _, _ => no
  | n + 1, l1, l2, l3, l4, l5, l6, l7, l8 => R_publish_B332 (fun l1 l2 l3 l4 l5 l6 l7 l8 => R_publish_L332 ke385 n l1 l2 l3 l4 l5 l6 l7 l8) ke385 l1 l2 l3 l4 l5 l6 l7 l8
set_option maxRecDepth 10000 in
theorem sm_publish_B332 {g : Gm RS Unit} {kb : Int32 → Int32 → Int32 → Int32 → Int32 → Int32 → Int32 → Int32 → RS → Option (Unit × RS)} {ke385 : Int32 → Int32 → Int32 → Int32 → Int32 → RS → Option (Unit × RS)} (B : Br g cX12_publish 10 voV none 7 157) (hkb : ∀ (l1 : Int32) (l2 : Int32) (l3 : Int32) (l4 : Int32) (l5 : Int32) (l6 : Int32) (l7 : Int32) (l8 : Int32), Sm g 10 332 [(0, .ref g.1.2.2.2.2.2), (1, .int l1), (2, .int l2), (3, .int l3), (4, .int l4), (5, .int l5), (6, .int l6), (7, .int l7), (8, .int l8)] [] (kb l1 l2 l3 l4 l5 l6 l7 l8)) (hke385 : ∀ (l1 : Int32) (l2 : Int32) (l3 : Int32) (l6 : Int32) (l7 : Int32), Sm g 10 385 [(0, .ref g.1.2.2.2.2.2), (1, .int l1), (2, .int l2), (3, .int l3), (6, .int l6), (7, .int l7)] [] (ke385 l1 l2 l3 l6 l7)) (l1 : Int32) (l2 : Int32) (l3 : Int32) (l4 : Int32) (l5 : Int32) (l6 : Int32) (l7 : Int32) (l8 : Int32) : Sm g 10 332 [(0, .ref g.1.2.2.2.2.2), (1, .int l1), (2, .int l2), (3, .int l3), (4, .int l4), (5, .int l5), (6, .int l6), (7, .int l7), (8, .int l8)] [] (R_publish_B332 kb ke385 l1 l2 l3 l4 l5 l6 l7 l8) := by
  unfold R_publish_B332
  refine s_iload B.1 8 dX12_publish_332 rfl ?_
  refine s_aload_n B.1 0 dX12_publish_334 rfl rfl ?_
  refine rr_getI B 98 mh_98 mk_98 mf_98 dX12_publish_335 (fun v17 => ?_)
  refine s_icmp_ge B.1 385 dX12_publish_338 (by decide) ?_ ?_
  · exact Sm.lvs [0, 1, 2, 3, 6, 7] rfl (hke385 l1 l2 l3 l6 l7)
  · refine s_aload_n B.1 0 dX12_publish_341 rfl rfl ?_
    refine rr_getA B 97 mh_97 mn_97 mf_97 dX12_publish_342 ?_
    refine s_iload B.1 8 dX12_publish_345 rfl ?_
    refine s_iload B.1 5 dX12_publish_347 rfl ?_
    refine s_if_ne B.1 368 dX12_publish_349 (by decide) ?_ ?_
    · refine s_aload_n B.1 0 dX12_publish_368 rfl rfl ?_
      refine rr_getA B 6 mh_6 mn_6 mf_6 dX12_publish_369 ?_
      refine s_iload B.1 4 dX12_publish_372 rfl ?_
      refine s_iload B.1 8 dX12_publish_374 rfl ?_
      refine s_iadd B.1 dX12_publish_376 ?_
      refine rr_bald B 6 mh_6 mk_6 dX12_publish_377 (fun v18 => ?_)
      exact Sm.lvs [0, 1, 2, 3, 4, 5, 6, 7, 8] rfl (sm_publish_J378 B hkb hke385 l1 l2 l3 l4 l5 l6 l7 l8 l8 v18)
    · refine s_aload_n B.1 0 dX12_publish_352 rfl rfl ?_
      refine rr_getA B 10 mh_10 mn_10 mf_10 dX12_publish_353 ?_
      refine s_bipush (v := (64)) B.1 dX12_publish_356 (by decide) ?_
      refine s_iload B.1 7 dX12_publish_358 rfl ?_
      refine s_imul B.1 dX12_publish_360 ?_
      refine s_iload B.1 8 dX12_publish_361 rfl ?_
      refine s_iadd B.1 dX12_publish_363 ?_
      refine rr_bald B 10 mh_10 mk_10 dX12_publish_364 (fun v19 => ?_)
      refine s_goto B.1 378 dX12_publish_365 (by decide) ?_
      exact Sm.lvs [0, 1, 2, 3, 4, 5, 6, 7, 8] rfl (sm_publish_J378 B hkb hke385 l1 l2 l3 l4 l5 l6 l7 l8 l8 v19)
set_option maxRecDepth 10000 in
theorem sm_publish_L332 {g : Gm RS Unit} {ke385 : Int32 → Int32 → Int32 → Int32 → Int32 → RS → Option (Unit × RS)} (B : Br g cX12_publish 10 voV none 7 157) (hke385 : ∀ (l1 : Int32) (l2 : Int32) (l3 : Int32) (l6 : Int32) (l7 : Int32), Sm g 10 385 [(0, .ref g.1.2.2.2.2.2), (1, .int l1), (2, .int l2), (3, .int l3), (6, .int l6), (7, .int l7)] [] (ke385 l1 l2 l3 l6 l7)) : ∀ (n : Nat) (l1 : Int32) (l2 : Int32) (l3 : Int32) (l4 : Int32) (l5 : Int32) (l6 : Int32) (l7 : Int32) (l8 : Int32), Sm g 10 332 [(0, .ref g.1.2.2.2.2.2), (1, .int l1), (2, .int l2), (3, .int l3), (4, .int l4), (5, .int l5), (6, .int l6), (7, .int l7), (8, .int l8)] [] (R_publish_L332 ke385 n l1 l2 l3 l4 l5 l6 l7 l8)
  | 0, _, _, _, _, _, _, _, _ => Sm.fail
  | n + 1, l1, l2, l3, l4, l5, l6, l7, l8 => sm_publish_B332 B (sm_publish_L332 B hke385 n) hke385 l1 l2 l3 l4 l5 l6 l7 l8
def R_publish_J326 (l1 : Int32) (l2 : Int32) (l3 : Int32) (l4 : Int32) (l5 : Int32) (l6 : Int32) (l7 : Int32) (s1 : Int32) : RS → Option (Unit × RS) :=
  wI 98 (s1) <|
  R_publish_L332 (fun l1 l2 l3 l6 l7 => R_publish_J385 l1 l2 l3 l6 l7) fu l1 l2 l3 l4 l5 l6 l7 (0 : Int32)
set_option maxRecDepth 10000 in
theorem sm_publish_J326 {g : Gm RS Unit} (B : Br g cX12_publish 10 voV none 7 157) (l1 : Int32) (l2 : Int32) (l3 : Int32) (l4 : Int32) (l5 : Int32) (l6 : Int32) (l7 : Int32) (s1 : Int32) : Sm g 10 326 [(0, .ref g.1.2.2.2.2.2), (1, .int l1), (2, .int l2), (3, .int l3), (4, .int l4), (5, .int l5), (6, .int l6), (7, .int l7)] [.int s1, .ref g.1.2.2.2.2.2] (R_publish_J326 l1 l2 l3 l4 l5 l6 l7 s1) := by
  unfold R_publish_J326
  refine rr_putI B 98 mh_98 mk_98 mf_98 dX12_publish_326 ?_
  refine s_iconst (v := 0) B.1 dX12_publish_329 (by decide) ?_
  refine s_istore (lv' := [(8, .int (0 : Int32)), (0, .ref g.1.2.2.2.2.2), (1, .int l1), (2, .int l2), (3, .int l3), (4, .int l4), (5, .int l5), (6, .int l6), (7, .int l7)]) B.1 dX12_publish_330 (by decide) rfl ?_
  exact Sm.lvs [1, 2, 3, 4, 5, 6, 7, 8, 0] rfl (sm_publish_L332 B (fun l1 l2 l3 l6 l7 => sm_publish_J385 B l1 l2 l3 l6 l7) fu l1 l2 l3 l4 l5 l6 l7 (0 : Int32))
def R_publish_J308 (l1 : Int32) (l2 : Int32) (l3 : Int32) (l4 : Int32) (l5 : Int32) (l6 : Int32) (l7 : Int32) : RS → Option (Unit × RS) :=
  if l5 = 0 then (
    rA 9 l7 fun v20 =>
    R_publish_J326 l1 l2 l3 l4 l5 l6 l7 v20
  ) else (
    R_publish_J326 l1 l2 l3 l4 l5 l6 l7 l5
  )
set_option maxRecDepth 10000 in
theorem sm_publish_J308 {g : Gm RS Unit} (B : Br g cX12_publish 10 voV none 7 157) (l1 : Int32) (l2 : Int32) (l3 : Int32) (l4 : Int32) (l5 : Int32) (l6 : Int32) (l7 : Int32) : Sm g 10 308 [(0, .ref g.1.2.2.2.2.2), (1, .int l1), (2, .int l2), (3, .int l3), (4, .int l4), (5, .int l5), (6, .int l6), (7, .int l7)] [] (R_publish_J308 l1 l2 l3 l4 l5 l6 l7) := by
  unfold R_publish_J308
  refine s_aload_n B.1 0 dX12_publish_308 rfl rfl ?_
  refine s_iload B.1 5 dX12_publish_309 rfl ?_
  refine s_if_ne B.1 324 dX12_publish_311 (by decide) ?_ ?_
  · refine s_iload B.1 5 dX12_publish_324 rfl ?_
    exact Sm.lvs [0, 1, 2, 3, 4, 5, 6, 7] rfl (sm_publish_J326 B l1 l2 l3 l4 l5 l6 l7 l5)
  · refine s_aload_n B.1 0 dX12_publish_314 rfl rfl ?_
    refine rr_getA B 9 mh_9 mn_9 mf_9 dX12_publish_315 ?_
    refine s_iload B.1 7 dX12_publish_318 rfl ?_
    refine rr_iald B 9 mh_9 mk_9 dX12_publish_320 (fun v20 => ?_)
    refine s_goto B.1 326 dX12_publish_321 (by decide) ?_
    exact Sm.lvs [0, 1, 2, 3, 4, 5, 6, 7] rfl (sm_publish_J326 B l1 l2 l3 l4 l5 l6 l7 v20)
def R_publish_J300 : RS → Option (Unit × RS) :=
  bd (R_fails (130 : Int32)) fun r21 =>
  rt ()
set_option maxRecDepth 10000 in
theorem sm_publish_J300 {g : Gm RS Unit} (B : Br g cX12_publish 10 voV none 7 157) : Sm g 10 300 [(0, .ref g.1.2.2.2.2.2)] [] (R_publish_J300) := by
  unfold R_publish_J300
  refine s_aload_n B.1 0 dX12_publish_300 rfl rfl ?_
  refine s_sipush (v := (130)) B.1 dX12_publish_301 (by decide) ?_
  refine rr_cvv (As := [.int (130 : Int32)]) (st := []) B (m_fails B.ok (130 : Int32)) mc_fails ml_fails mi_fails me_fails ini12 md_fails (by decide) rfl (Nat.le_of_ble_eq_true rfl) dX12_publish_304 (fun r21 => ?_)
  exact s_vret B.1 B.2.1 dX12_publish_307
def R_publish_J278 (l1 : Int32) (l2 : Int32) (l3 : Int32) (l4 : Int32) (l5 : Int32) (l6 : Int32) (s0 : Int32) : RS → Option (Unit × RS) :=
  if l5 = 0 then (
    if s0 < 0 then (
      R_publish_J300
    ) else (
      rA 9 s0 fun v22 =>
      if v22 = 0 then (
        R_publish_J300
      ) else (
        R_publish_J308 l1 l2 l3 l4 l5 l6 s0
      )
    )
  ) else (
    R_publish_J308 l1 l2 l3 l4 l5 l6 s0
  )
set_option maxRecDepth 10000 in
theorem sm_publish_J278 {g : Gm RS Unit} (B : Br g cX12_publish 10 voV none 7 157) (l1 : Int32) (l2 : Int32) (l3 : Int32) (l4 : Int32) (l5 : Int32) (l6 : Int32) (s0 : Int32) : Sm g 10 278 [(0, .ref g.1.2.2.2.2.2), (1, .int l1), (2, .int l2), (3, .int l3), (4, .int l4), (5, .int l5), (6, .int l6)] [.int s0] (R_publish_J278 l1 l2 l3 l4 l5 l6 s0) := by
  unfold R_publish_J278
  refine s_istore (lv' := [(7, .int s0), (0, .ref g.1.2.2.2.2.2), (1, .int l1), (2, .int l2), (3, .int l3), (4, .int l4), (5, .int l5), (6, .int l6)]) B.1 dX12_publish_278 (by decide) rfl ?_
  refine s_iload B.1 6 dX12_publish_280 rfl ?_
  refine s_if_ne B.1 308 dX12_publish_282 (by decide) ?_ ?_
  · exact Sm.lvs [1, 2, 3, 4, 5, 6, 7, 0] rfl (sm_publish_J308 B l1 l2 l3 l4 l5 l6 s0)
  · refine s_iload B.1 0 dX12_publish_285 rfl ?_
    refine s_if_lt B.1 300 dX12_publish_287 (by decide) ?_ ?_
    · exact Sm.lvs [1] rfl (sm_publish_J300 B)
    · refine s_aload_n B.1 1 dX12_publish_290 rfl rfl ?_
      refine rr_getA B 9 mh_9 mn_9 mf_9 dX12_publish_291 ?_
      refine s_iload B.1 0 dX12_publish_294 rfl ?_
      refine rr_iald B 9 mh_9 mk_9 dX12_publish_296 (fun v22 => ?_)
      refine s_if_ne B.1 308 dX12_publish_297 (by decide) ?_ ?_
      · exact Sm.lvs [1, 2, 3, 4, 5, 6, 7, 0] rfl (sm_publish_J308 B l1 l2 l3 l4 l5 l6 s0)
      · exact Sm.lvs [1] rfl (sm_publish_J300 B)
def R_publish_J239 (l1 : Int32) (l2 : Int32) (l3 : Int32) (l4 : Int32) (l5 : Int32) (l6 : Int32) : RS → Option (Unit × RS) :=
  rI 79 fun v23 =>
  if v23 = 0 then (
    rA 82 (35 : Int32) fun v24 =>
    if v24 = 0 then (
      R_publish_J278 l1 l2 l3 l4 l5 l6 (-1 : Int32)
    ) else (
      rI 75 fun v25 =>
      rL 83 (35 : Int32) fun v26 =>
      R_publish_J278 l1 l2 l3 l4 l5 l6 ((((4 : Int32) * v25) + v26.toInt32) - (1 : Int32))
    )
  ) else (
    rt ()
  )
set_option maxRecDepth 10000 in
theorem sm_publish_J239 {g : Gm RS Unit} (B : Br g cX12_publish 10 voV none 7 157) (l1 : Int32) (l2 : Int32) (l3 : Int32) (l4 : Int32) (l5 : Int32) (l6 : Int32) : Sm g 10 239 [(0, .ref g.1.2.2.2.2.2), (1, .int l1), (2, .int l2), (3, .int l3), (4, .int l4), (5, .int l5), (6, .int l6)] [] (R_publish_J239 l1 l2 l3 l4 l5 l6) := by
  unfold R_publish_J239
  refine s_aload_n B.1 0 dX12_publish_239 rfl rfl ?_
  refine rr_getI B 79 mh_79 mk_79 mf_79 dX12_publish_240 (fun v23 => ?_)
  refine s_if_eq B.1 247 dX12_publish_243 (by decide) ?_ ?_
  · refine s_aload_n B.1 0 dX12_publish_247 rfl rfl ?_
    refine rr_getA B 82 mh_82 mn_82 mf_82 dX12_publish_248 ?_
    refine s_bipush (v := (35)) B.1 dX12_publish_251 (by decide) ?_
    refine rr_zald B 82 mh_82 mk_82 dX12_publish_253 (fun v24 => ?_)
    refine s_if_eq B.1 277 dX12_publish_254 (by decide) ?_ ?_
    · refine s_iconst (v := (-1)) B.1 dX12_publish_277 (by decide) ?_
      exact Sm.lvs [0, 1, 2, 3, 4, 5, 6] rfl (sm_publish_J278 B l1 l2 l3 l4 l5 l6 (-1 : Int32))
    · refine s_iconst (v := 4) B.1 dX12_publish_257 (by decide) ?_
      refine s_aload_n B.1 0 dX12_publish_258 rfl rfl ?_
      refine rr_getI B 75 mh_75 mk_75 mf_75 dX12_publish_259 (fun v25 => ?_)
      refine s_imul B.1 dX12_publish_262 ?_
      refine s_aload_n B.1 0 dX12_publish_263 rfl rfl ?_
      refine rr_getA B 83 mh_83 mn_83 mf_83 dX12_publish_264 ?_
      refine s_bipush (v := (35)) B.1 dX12_publish_267 (by decide) ?_
      refine rr_lald B 83 mh_83 mk_83 dX12_publish_269 (fun v26 => ?_)
      refine s_l2i B.1 dX12_publish_270 ?_
      refine s_iadd B.1 dX12_publish_271 ?_
      refine s_iconst (v := 1) B.1 dX12_publish_272 (by decide) ?_
      refine s_isub B.1 dX12_publish_273 ?_
      refine s_goto B.1 278 dX12_publish_274 (by decide) ?_
      exact Sm.lvs [0, 1, 2, 3, 4, 5, 6] rfl (sm_publish_J278 B l1 l2 l3 l4 l5 l6 ((((4 : Int32) * v25) + v26.toInt32) - (1 : Int32)))
  · exact s_vret B.1 B.2.1 dX12_publish_246
def R_publish_J232 (l1 : Int32) (l2 : Int32) (l3 : Int32) (l4 : Int32) (l5 : Int32) (l6 : Int32) : RS → Option (Unit × RS) :=
  bd (R_fails (148 : Int32)) fun r27 =>
  R_publish_J239 l1 l2 l3 l4 l5 l6
set_option maxRecDepth 10000 in
theorem sm_publish_J232 {g : Gm RS Unit} (B : Br g cX12_publish 10 voV none 7 157) (l1 : Int32) (l2 : Int32) (l3 : Int32) (l4 : Int32) (l5 : Int32) (l6 : Int32) : Sm g 10 232 [(0, .ref g.1.2.2.2.2.2), (1, .int l1), (2, .int l2), (3, .int l3), (4, .int l4), (5, .int l5), (6, .int l6)] [] (R_publish_J232 l1 l2 l3 l4 l5 l6) := by
  unfold R_publish_J232
  refine s_aload_n B.1 0 dX12_publish_232 rfl rfl ?_
  refine s_sipush (v := (148)) B.1 dX12_publish_233 (by decide) ?_
  refine rr_cvv (As := [.int (148 : Int32)]) (st := []) B (m_fails B.ok (148 : Int32)) mc_fails ml_fails mi_fails me_fails ini12 md_fails (by decide) rfl (Nat.le_of_ble_eq_true rfl) dX12_publish_236 (fun r27 => ?_)
  exact Sm.lvs [0, 1, 2, 3, 4, 5, 6] rfl (sm_publish_J239 B l1 l2 l3 l4 l5 l6)
def R_publish_J189 (l1 : Int32) (l2 : Int32) (l3 : Int32) (l4 : Int32) (l5 : Int32) (l6 : Int32) : RS → Option (Unit × RS) :=
  rI 79 fun v28 =>
  if v28 = 0 then (
    rA 82 (35 : Int32) fun v29 =>
    if v29 = 0 then (
      R_publish_J239 l1 l2 l3 l4 l5 l6
    ) else (
      rL 83 (35 : Int32) fun v30 =>
      if (lg_cmp v30 (0 : Int64)) = 0 then (
        R_publish_J232 l1 l2 l3 l4 l5 l6
      ) else (
        rL 83 (35 : Int32) fun v31 =>
        if (lg_cmp v31 (4 : Int64)) ≤ 0 then (
          R_publish_J239 l1 l2 l3 l4 l5 l6
        ) else (
          R_publish_J232 l1 l2 l3 l4 l5 l6
        )
      )
    )
  ) else (
    R_publish_J239 l1 l2 l3 l4 l5 l6
  )
set_option maxRecDepth 10000 in
theorem sm_publish_J189 {g : Gm RS Unit} (B : Br g cX12_publish 10 voV none 7 157) (l1 : Int32) (l2 : Int32) (l3 : Int32) (l4 : Int32) (l5 : Int32) (l6 : Int32) : Sm g 10 189 [(0, .ref g.1.2.2.2.2.2), (1, .int l1), (2, .int l2), (3, .int l3), (4, .int l4), (5, .int l5), (6, .int l6)] [] (R_publish_J189 l1 l2 l3 l4 l5 l6) := by
  unfold R_publish_J189
  refine s_aload_n B.1 0 dX12_publish_189 rfl rfl ?_
  refine rr_getI B 79 mh_79 mk_79 mf_79 dX12_publish_190 (fun v28 => ?_)
  refine s_if_ne B.1 239 dX12_publish_193 (by decide) ?_ ?_
  · exact Sm.lvs [0, 1, 2, 3, 4, 5, 6] rfl (sm_publish_J239 B l1 l2 l3 l4 l5 l6)
  · refine s_aload_n B.1 0 dX12_publish_196 rfl rfl ?_
    refine rr_getA B 82 mh_82 mn_82 mf_82 dX12_publish_197 ?_
    refine s_bipush (v := (35)) B.1 dX12_publish_200 (by decide) ?_
    refine rr_zald B 82 mh_82 mk_82 dX12_publish_202 (fun v29 => ?_)
    refine s_if_eq B.1 239 dX12_publish_203 (by decide) ?_ ?_
    · exact Sm.lvs [0, 1, 2, 3, 4, 5, 6] rfl (sm_publish_J239 B l1 l2 l3 l4 l5 l6)
    · refine s_aload_n B.1 0 dX12_publish_206 rfl rfl ?_
      refine rr_getA B 83 mh_83 mn_83 mf_83 dX12_publish_207 ?_
      refine s_bipush (v := (35)) B.1 dX12_publish_210 (by decide) ?_
      refine rr_lald B 83 mh_83 mk_83 dX12_publish_212 (fun v30 => ?_)
      refine s_lconst (v := 0) B.1 dX12_publish_213 (by decide) ?_
      refine s_lcmp B.1 dX12_publish_214 ?_
      refine s_if_eq B.1 232 dX12_publish_215 (by decide) ?_ ?_
      · exact Sm.lvs [0, 1, 2, 3, 4, 5, 6] rfl (sm_publish_J232 B l1 l2 l3 l4 l5 l6)
      · refine s_aload_n B.1 0 dX12_publish_218 rfl rfl ?_
        refine rr_getA B 83 mh_83 mn_83 mf_83 dX12_publish_219 ?_
        refine s_bipush (v := (35)) B.1 dX12_publish_222 (by decide) ?_
        refine rr_lald B 83 mh_83 mk_83 dX12_publish_224 (fun v31 => ?_)
        refine s_ldc2 (v := (4)) B.1 tw_2124 dX12_publish_225 ?_
        refine s_lcmp B.1 dX12_publish_228 ?_
        refine s_if_le B.1 239 dX12_publish_229 (by decide) ?_ ?_
        · exact Sm.lvs [0, 1, 2, 3, 4, 5, 6] rfl (sm_publish_J239 B l1 l2 l3 l4 l5 l6)
        · exact Sm.lvs [0, 1, 2, 3, 4, 5, 6] rfl (sm_publish_J232 B l1 l2 l3 l4 l5 l6)
def R_publish_J91 (l1 : Int32) (l2 : Int32) (l3 : Int32) (l4 : Int32) (l5 : Int32) (l6 : Int32) : RS → Option (Unit × RS) :=
  rI 79 fun v32 =>
  if v32 = 0 then (
    bd (R_bit (1 : Int32)) fun r33 =>
    bd (R_bit (2 : Int32)) fun r34 =>
    bd (R_bit (3 : Int32)) fun r35 =>
    bd (R_bit (8 : Int32)) fun r36 =>
    bd (R_bit (9 : Int32)) fun r37 =>
    bd (R_bit (35 : Int32)) fun r38 =>
    bd (R_bit (38 : Int32)) fun r39 =>
    bd (R_properties ((((((r33 ||| r34) ||| r35) ||| r36) ||| r37) ||| r38) ||| r39)) fun r40 =>
    rI 79 fun v41 =>
    if v41 = 0 then (
      rA 82 (8 : Int32) fun v42 =>
      if v42 = 0 then (
        R_publish_J189 l1 l2 l3 l4 l5 l6
      ) else (
        rA 84 (8 : Int32) fun v43 =>
        rA 85 (8 : Int32) fun v44 =>
        bd (R_isTopic 6 v43 v44) fun r45 =>
        if r45 = 0 then (
          bd (R_fails (130 : Int32)) fun r46 =>
          R_publish_J189 l1 l2 l3 l4 l5 l6
        ) else (
          R_publish_J189 l1 l2 l3 l4 l5 l6
        )
      )
    ) else (
      R_publish_J189 l1 l2 l3 l4 l5 l6
    )
  ) else (
    rt ()
  )
set_option maxRecDepth 10000 in
theorem sm_publish_J91 {g : Gm RS Unit} (B : Br g cX12_publish 10 voV none 7 157) (l1 : Int32) (l2 : Int32) (l3 : Int32) (l4 : Int32) (l5 : Int32) (l6 : Int32) : Sm g 10 91 [(0, .ref g.1.2.2.2.2.2), (1, .int l1), (2, .int l2), (3, .int l3), (4, .int l4), (5, .int l5), (6, .int l6)] [] (R_publish_J91 l1 l2 l3 l4 l5 l6) := by
  unfold R_publish_J91
  refine s_aload_n B.1 0 dX12_publish_91 rfl rfl ?_
  refine rr_getI B 79 mh_79 mk_79 mf_79 dX12_publish_92 (fun v32 => ?_)
  refine s_if_eq B.1 99 dX12_publish_95 (by decide) ?_ ?_
  · refine s_aload_n B.1 0 dX12_publish_99 rfl rfl ?_
    refine s_iconst (v := 1) B.1 dX12_publish_100 (by decide) ?_
    refine rr_csl (As := [.int (1 : Int32)]) (st := [.ref g.1.2.2.2.2.2]) B (m_bit B.ok (1 : Int32)) mc_bit ml_bit ms_bit ini12 md_bit (by decide) rfl (Nat.le_of_ble_eq_true rfl) dX12_publish_101 (fun r33 => ?_)
    refine s_iconst (v := 2) B.1 dX12_publish_104 (by decide) ?_
    refine rr_csl (As := [.int (2 : Int32)]) (st := [.long r33, .ref g.1.2.2.2.2.2]) B (m_bit B.ok (2 : Int32)) mc_bit ml_bit ms_bit ini12 md_bit (by decide) rfl (Nat.le_of_ble_eq_true rfl) dX12_publish_105 (fun r34 => ?_)
    refine s_lor B.1 dX12_publish_108 ?_
    refine s_iconst (v := 3) B.1 dX12_publish_109 (by decide) ?_
    refine rr_csl (As := [.int (3 : Int32)]) (st := [.long (r33 ||| r34), .ref g.1.2.2.2.2.2]) B (m_bit B.ok (3 : Int32)) mc_bit ml_bit ms_bit ini12 md_bit (by decide) rfl (Nat.le_of_ble_eq_true rfl) dX12_publish_110 (fun r35 => ?_)
    refine s_lor B.1 dX12_publish_113 ?_
    refine s_bipush (v := (8)) B.1 dX12_publish_114 (by decide) ?_
    refine rr_csl (As := [.int (8 : Int32)]) (st := [.long ((r33 ||| r34) ||| r35), .ref g.1.2.2.2.2.2]) B (m_bit B.ok (8 : Int32)) mc_bit ml_bit ms_bit ini12 md_bit (by decide) rfl (Nat.le_of_ble_eq_true rfl) dX12_publish_116 (fun r36 => ?_)
    refine s_lor B.1 dX12_publish_119 ?_
    refine s_bipush (v := (9)) B.1 dX12_publish_120 (by decide) ?_
    refine rr_csl (As := [.int (9 : Int32)]) (st := [.long (((r33 ||| r34) ||| r35) ||| r36), .ref g.1.2.2.2.2.2]) B (m_bit B.ok (9 : Int32)) mc_bit ml_bit ms_bit ini12 md_bit (by decide) rfl (Nat.le_of_ble_eq_true rfl) dX12_publish_122 (fun r37 => ?_)
    refine s_lor B.1 dX12_publish_125 ?_
    refine s_bipush (v := (35)) B.1 dX12_publish_126 (by decide) ?_
    refine rr_csl (As := [.int (35 : Int32)]) (st := [.long ((((r33 ||| r34) ||| r35) ||| r36) ||| r37), .ref g.1.2.2.2.2.2]) B (m_bit B.ok (35 : Int32)) mc_bit ml_bit ms_bit ini12 md_bit (by decide) rfl (Nat.le_of_ble_eq_true rfl) dX12_publish_128 (fun r38 => ?_)
    refine s_lor B.1 dX12_publish_131 ?_
    refine s_bipush (v := (38)) B.1 dX12_publish_132 (by decide) ?_
    refine rr_csl (As := [.int (38 : Int32)]) (st := [.long (((((r33 ||| r34) ||| r35) ||| r36) ||| r37) ||| r38), .ref g.1.2.2.2.2.2]) B (m_bit B.ok (38 : Int32)) mc_bit ml_bit ms_bit ini12 md_bit (by decide) rfl (Nat.le_of_ble_eq_true rfl) dX12_publish_134 (fun r39 => ?_)
    refine s_lor B.1 dX12_publish_137 ?_
    refine rr_cvv (As := [.long ((((((r33 ||| r34) ||| r35) ||| r36) ||| r37) ||| r38) ||| r39)]) (st := []) B (m_properties B.ok ((((((r33 ||| r34) ||| r35) ||| r36) ||| r37) ||| r38) ||| r39)) mc_properties ml_properties mi_properties me_properties ini12 md_properties (by decide) rfl (Nat.le_of_ble_eq_true rfl) dX12_publish_138 (fun r40 => ?_)
    refine s_aload_n B.1 0 dX12_publish_141 rfl rfl ?_
    refine rr_getI B 79 mh_79 mk_79 mf_79 dX12_publish_142 (fun v41 => ?_)
    refine s_if_ne B.1 189 dX12_publish_145 (by decide) ?_ ?_
    · exact Sm.lvs [0, 1, 2, 3, 4, 5, 6] rfl (sm_publish_J189 B l1 l2 l3 l4 l5 l6)
    · refine s_aload_n B.1 0 dX12_publish_148 rfl rfl ?_
      refine rr_getA B 82 mh_82 mn_82 mf_82 dX12_publish_149 ?_
      refine s_bipush (v := (8)) B.1 dX12_publish_152 (by decide) ?_
      refine rr_zald B 82 mh_82 mk_82 dX12_publish_154 (fun v42 => ?_)
      refine s_if_eq B.1 189 dX12_publish_155 (by decide) ?_ ?_
      · exact Sm.lvs [0, 1, 2, 3, 4, 5, 6] rfl (sm_publish_J189 B l1 l2 l3 l4 l5 l6)
      · refine s_aload_n B.1 0 dX12_publish_158 rfl rfl ?_
        refine rr_getA B 6 mh_6 mn_6 mf_6 dX12_publish_159 ?_
        refine s_aload_n B.1 0 dX12_publish_162 rfl rfl ?_
        refine rr_getA B 84 mh_84 mn_84 mf_84 dX12_publish_163 ?_
        refine s_bipush (v := (8)) B.1 dX12_publish_166 (by decide) ?_
        refine rr_iald B 84 mh_84 mk_84 dX12_publish_168 (fun v43 => ?_)
        refine s_aload_n B.1 0 dX12_publish_169 rfl rfl ?_
        refine rr_getA B 85 mh_85 mn_85 mf_85 dX12_publish_170 ?_
        refine s_bipush (v := (8)) B.1 dX12_publish_173 (by decide) ?_
        refine rr_iald B 85 mh_85 mk_85 dX12_publish_175 (fun v44 => ?_)
        refine rr_csi (As := [.ref (g.1.2.2.2.2.2 + mO 6), .int v43, .int v44]) (st := []) B (m_isTopic B.ok 6 v43 v44 mh_6 mk_6) mc_isTopic ml_isTopic ms_isTopic ini12 md_isTopic (by decide) rfl (Nat.le_of_ble_eq_true rfl) dX12_publish_176 (fun r45 => ?_)
        refine s_if_ne B.1 189 dX12_publish_179 (by decide) ?_ ?_
        · exact Sm.lvs [0, 1, 2, 3, 4, 5, 6] rfl (sm_publish_J189 B l1 l2 l3 l4 l5 l6)
        · refine s_aload_n B.1 0 dX12_publish_182 rfl rfl ?_
          refine s_sipush (v := (130)) B.1 dX12_publish_183 (by decide) ?_
          refine rr_cvv (As := [.int (130 : Int32)]) (st := []) B (m_fails B.ok (130 : Int32)) mc_fails ml_fails mi_fails me_fails ini12 md_fails (by decide) rfl (Nat.le_of_ble_eq_true rfl) dX12_publish_186 (fun r46 => ?_)
          exact Sm.lvs [0, 1, 2, 3, 4, 5, 6] rfl (sm_publish_J189 B l1 l2 l3 l4 l5 l6)
  · exact s_vret B.1 B.2.1 dX12_publish_98
def R_publish_J59 (l1 : Int32) (l2 : Int32) (l3 : Int32) (l4 : Int32) (l5 : Int32) : RS → Option (Unit × RS) :=
  if l1 ≤ 0 then (
    R_publish_J91 l1 l2 l3 l4 l5 (0 : Int32)
  ) else (
    bd (R_two) fun r47 =>
    rI 79 fun v48 =>
    if v48 = 0 then (
      if r47 = 0 then (
        bd (R_fails (130 : Int32)) fun r49 =>
        R_publish_J91 l1 l2 l3 l4 l5 r47
      ) else (
        R_publish_J91 l1 l2 l3 l4 l5 r47
      )
    ) else (
      R_publish_J91 l1 l2 l3 l4 l5 r47
    )
  )
set_option maxRecDepth 10000 in
theorem sm_publish_J59 {g : Gm RS Unit} (B : Br g cX12_publish 10 voV none 7 157) (l1 : Int32) (l2 : Int32) (l3 : Int32) (l4 : Int32) (l5 : Int32) : Sm g 10 59 [(0, .ref g.1.2.2.2.2.2), (1, .int l1), (2, .int l2), (3, .int l3), (4, .int l4), (5, .int l5)] [] (R_publish_J59 l1 l2 l3 l4 l5) := by
  unfold R_publish_J59
  refine s_iconst (v := 0) B.1 dX12_publish_59 (by decide) ?_
  refine s_istore (lv' := [(6, .int (0 : Int32)), (0, .ref g.1.2.2.2.2.2), (1, .int l1), (2, .int l2), (3, .int l3), (4, .int l4), (5, .int l5)]) B.1 dX12_publish_60 (by decide) rfl ?_
  refine s_iload_n B.1 2 dX12_publish_62 rfl rfl ?_
  refine s_if_le B.1 91 dX12_publish_63 (by decide) ?_ ?_
  · exact Sm.lvs [1, 2, 3, 4, 5, 6, 0] rfl (sm_publish_J91 B l1 l2 l3 l4 l5 (0 : Int32))
  · refine s_aload_n B.1 1 dX12_publish_66 rfl rfl ?_
    refine rr_cvi (As := []) (st := []) B (m_two B.ok) mc_two ml_two mi_two me_two ini12 md_two (by decide) rfl (Nat.le_of_ble_eq_true rfl) dX12_publish_67 (fun r47 => ?_)
    refine s_istore (lv' := [(6, .int r47), (0, .ref g.1.2.2.2.2.2), (1, .int l1), (2, .int l2), (3, .int l3), (4, .int l4), (5, .int l5)]) B.1 dX12_publish_70 (by decide) rfl ?_
    refine s_aload_n B.1 1 dX12_publish_72 rfl rfl ?_
    refine rr_getI B 79 mh_79 mk_79 mf_79 dX12_publish_73 (fun v48 => ?_)
    refine s_if_ne B.1 91 dX12_publish_76 (by decide) ?_ ?_
    · exact Sm.lvs [1, 2, 3, 4, 5, 6, 0] rfl (sm_publish_J91 B l1 l2 l3 l4 l5 r47)
    · refine s_iload B.1 0 dX12_publish_79 rfl ?_
      refine s_if_ne B.1 91 dX12_publish_81 (by decide) ?_ ?_
      · exact Sm.lvs [1, 2, 3, 4, 5, 6, 0] rfl (sm_publish_J91 B l1 l2 l3 l4 l5 r47)
      · refine s_aload_n B.1 1 dX12_publish_84 rfl rfl ?_
        refine s_sipush (v := (130)) B.1 dX12_publish_85 (by decide) ?_
        refine rr_cvv (As := [.int (130 : Int32)]) (st := []) B (m_fails B.ok (130 : Int32)) mc_fails ml_fails mi_fails me_fails ini12 md_fails (by decide) rfl (Nat.le_of_ble_eq_true rfl) dX12_publish_88 (fun r49 => ?_)
        exact Sm.lvs [1, 2, 3, 4, 5, 6, 0] rfl (sm_publish_J91 B l1 l2 l3 l4 l5 r47)
def R_publish (l1 : Int32) (l2 : Int32) : RS → Option (Unit × RS) :=
  rI 75 fun v50 =>
  rA 7 v50 fun v51 =>
  bd (R_string) fun r52 =>
  rI 80 fun v53 =>
  rI 81 fun v54 =>
  rI 79 fun v55 =>
  if v55 = 0 then (
    if v54 ≤ 0 then (
      R_publish_J59 l1 l2 v51 v53 v54
    ) else (
      bd (R_isTopic 6 v53 v54) fun r56 =>
      if r56 = 0 then (
        bd (R_fails (144 : Int32)) fun r57 =>
        R_publish_J59 l1 l2 v51 v53 v54
      ) else (
        R_publish_J59 l1 l2 v51 v53 v54
      )
    )
  ) else (
    R_publish_J59 l1 l2 v51 v53 v54
  )
set_option maxRecDepth 10000 in
theorem m_publish {w : Wd} (hw : Wok w) (l1 : Int32) (l2 : Int32) : MR w yX12_publish cX12_publish 10 none 7 157 voV [.ref w.2.2.2.2.2, .int l1, .int l2] (R_publish l1 l2) := by
  refine MR.of hw rfl (Nat.le_of_ble_eq_true rfl) (fun g hg B => ?_)
  subst hg
  unfold R_publish
  show Sm g 10 0 [(0, .ref g.1.2.2.2.2.2), (1, .int l1), (2, .int l2)] [] _
  refine s_aload_n B.1 0 dX12_publish_0 rfl rfl ?_
  refine rr_getA B 7 mh_7 mn_7 mf_7 dX12_publish_1 ?_
  refine s_aload_n B.1 0 dX12_publish_4 rfl rfl ?_
  refine rr_getI B 75 mh_75 mk_75 mf_75 dX12_publish_5 (fun v50 => ?_)
  refine rr_iald B 7 mh_7 mk_7 dX12_publish_8 (fun v51 => ?_)
  refine s_istore_n (lv' := [(3, .int v51), (0, .ref g.1.2.2.2.2.2), (1, .int l1), (2, .int l2)]) B.1 dX12_publish_9 rfl (by decide) rfl ?_
  refine s_aload_n B.1 1 dX12_publish_10 rfl rfl ?_
  refine rr_cvv (As := []) (st := []) B (m_string B.ok) mc_string ml_string mi_string me_string ini12 md_string (by decide) rfl (Nat.le_of_ble_eq_true rfl) dX12_publish_11 (fun r52 => ?_)
  refine s_aload_n B.1 1 dX12_publish_14 rfl rfl ?_
  refine rr_getI B 80 mh_80 mk_80 mf_80 dX12_publish_15 (fun v53 => ?_)
  refine s_istore (lv' := [(4, .int v53), (3, .int v51), (0, .ref g.1.2.2.2.2.2), (1, .int l1), (2, .int l2)]) B.1 dX12_publish_18 (by decide) rfl ?_
  refine s_aload_n B.1 2 dX12_publish_20 rfl rfl ?_
  refine rr_getI B 81 mh_81 mk_81 mf_81 dX12_publish_21 (fun v54 => ?_)
  refine s_istore (lv' := [(5, .int v54), (4, .int v53), (3, .int v51), (0, .ref g.1.2.2.2.2.2), (1, .int l1), (2, .int l2)]) B.1 dX12_publish_24 (by decide) rfl ?_
  refine s_aload_n B.1 3 dX12_publish_26 rfl rfl ?_
  refine rr_getI B 79 mh_79 mk_79 mf_79 dX12_publish_27 (fun v55 => ?_)
  refine s_if_ne B.1 59 dX12_publish_30 (by decide) ?_ ?_
  · exact Sm.lvs [3, 4, 5, 2, 1, 0] rfl (sm_publish_J59 B l1 l2 v51 v53 v54)
  · refine s_iload B.1 0 dX12_publish_33 rfl ?_
    refine s_if_le B.1 59 dX12_publish_35 (by decide) ?_ ?_
    · exact Sm.lvs [3, 4, 5, 2, 1, 0] rfl (sm_publish_J59 B l1 l2 v51 v53 v54)
    · refine s_aload_n B.1 3 dX12_publish_38 rfl rfl ?_
      refine rr_getA B 6 mh_6 mn_6 mf_6 dX12_publish_39 ?_
      refine s_iload B.1 1 dX12_publish_42 rfl ?_
      refine s_iload B.1 0 dX12_publish_44 rfl ?_
      refine rr_csi (As := [.ref (g.1.2.2.2.2.2 + mO 6), .int v53, .int v54]) (st := []) B (m_isTopic B.ok 6 v53 v54 mh_6 mk_6) mc_isTopic ml_isTopic ms_isTopic ini12 md_isTopic (by decide) rfl (Nat.le_of_ble_eq_true rfl) dX12_publish_46 (fun r56 => ?_)
      refine s_if_ne B.1 59 dX12_publish_49 (by decide) ?_ ?_
      · exact Sm.lvs [3, 4, 5, 2, 1, 0] rfl (sm_publish_J59 B l1 l2 v51 v53 v54)
      · refine s_aload_n B.1 3 dX12_publish_52 rfl rfl ?_
        refine s_sipush (v := (144)) B.1 dX12_publish_53 (by decide) ?_
        refine rr_cvv (As := [.int (144 : Int32)]) (st := []) B (m_fails B.ok (144 : Int32)) mc_fails ml_fails mi_fails me_fails ini12 md_fails (by decide) rfl (Nat.le_of_ble_eq_true rfl) dX12_publish_56 (fun r57 => ?_)
        exact Sm.lvs [3, 4, 5, 2, 1, 0] rfl (sm_publish_J59 B l1 l2 v51 v53 v54)
def R_subscriptionOf_J107 : RS → Option (Int32 × RS) :=
  rt ((-1 : Int32))
set_option maxRecDepth 10000 in
theorem sm_subscriptionOf_J107 {g : Gm RS Int32} (B : Br g cX12_subscriptionOf 8 voI (some .int) 0 0) : Sm g 8 107 [] [] (R_subscriptionOf_J107) := by
  unfold R_subscriptionOf_J107
  refine s_iconst (v := (-1)) B.1 dX12_subscriptionOf_107 (by decide) ?_
  exact s_iret B.1 B.2.1 dX12_subscriptionOf_108
def R_subscriptionOf_J98 (l4 : Int32) : RS → Option (Int32 × RS) :=
  rt (l4)
set_option maxRecDepth 10000 in
theorem sm_subscriptionOf_J98 {g : Gm RS Int32} (B : Br g cX12_subscriptionOf 8 voI (some .int) 0 0) (l4 : Int32) : Sm g 8 98 [(4, .int l4)] [] (R_subscriptionOf_J98 l4) := by
  unfold R_subscriptionOf_J98
  refine s_iload B.1 0 dX12_subscriptionOf_98 rfl ?_
  exact s_iret B.1 B.2.1 dX12_subscriptionOf_100
def R_subscriptionOf_J93 (kb : Int32 → Int32 → Int32 → Int32 → RS → Option (Int32 × RS)) (ke98 : Int32 → RS → Option (Int32 × RS)) (ke107 : RS → Option (Int32 × RS)) (l1 : Int32) (l2 : Int32) (l3 : Int32) (l4 : Int32) (l6 : Int32) : RS → Option (Int32 × RS) :=
  if l6 = 0 then (
    kb l1 l2 l3 (l4 + 1)
  ) else (
    ke98 l4
  )
set_option maxRecDepth 10000 in
theorem sm_subscriptionOf_J93 {g : Gm RS Int32} {kb : Int32 → Int32 → Int32 → Int32 → RS → Option (Int32 × RS)} {ke98 : Int32 → RS → Option (Int32 × RS)} {ke107 : RS → Option (Int32 × RS)} (B : Br g cX12_subscriptionOf 8 voI (some .int) 0 0) (hkb : ∀ (l1 : Int32) (l2 : Int32) (l3 : Int32) (l4 : Int32), Sm g 8 3 [(0, .ref g.1.2.2.2.2.2), (1, .int l1), (2, .int l2), (3, .int l3), (4, .int l4)] [] (kb l1 l2 l3 l4)) (hke98 : ∀ (l4 : Int32), Sm g 8 98 [(4, .int l4)] [] (ke98 l4)) (hke107 : Sm g 8 107 [] [] (ke107)) (l1 : Int32) (l2 : Int32) (l3 : Int32) (l4 : Int32) (l6 : Int32) : Sm g 8 93 [(0, .ref g.1.2.2.2.2.2), (1, .int l1), (2, .int l2), (3, .int l3), (4, .int l4), (6, .int l6)] [] (R_subscriptionOf_J93 kb ke98 ke107 l1 l2 l3 l4 l6) := by
  unfold R_subscriptionOf_J93
  refine s_iload B.1 5 dX12_subscriptionOf_93 rfl ?_
  refine s_if_eq B.1 101 dX12_subscriptionOf_95 (by decide) ?_ ?_
  · refine s_iinc (v := l4 + 1) (lv' := [(4, .int (l4 + 1)), (0, .ref g.1.2.2.2.2.2), (1, .int l1), (2, .int l2), (3, .int l3), (6, .int l6)]) B.1 4 dX12_subscriptionOf_101 rfl rfl (by decide) rfl ?_
    refine s_goto B.1 3 dX12_subscriptionOf_104 (by decide) ?_
    exact Sm.lvs [1, 2, 3, 4, 0] rfl (hkb l1 l2 l3 (l4 + 1))
  · exact Sm.lvs [4] rfl (hke98 l4)
def R_subscriptionOf_J85 (kb : Int32 → Int32 → Int32 → Int32 → Int32 → Int32 → Int32 → RS → Option (Int32 × RS)) (ke93 : Int32 → Int32 → Int32 → Int32 → Int32 → RS → Option (Int32 × RS)) (l1 : Int32) (l2 : Int32) (l3 : Int32) (l4 : Int32) (l5 : Int32) (l7 : Int32) (s0 : Int32) : RS → Option (Int32 × RS) :=
  kb l1 l2 l3 l4 l5 s0 (l7 + 1)
set_option maxRecDepth 10000 in
theorem sm_subscriptionOf_J85 {g : Gm RS Int32} {kb : Int32 → Int32 → Int32 → Int32 → Int32 → Int32 → Int32 → RS → Option (Int32 × RS)} {ke93 : Int32 → Int32 → Int32 → Int32 → Int32 → RS → Option (Int32 × RS)} (B : Br g cX12_subscriptionOf 8 voI (some .int) 0 0) (hkb : ∀ (l1 : Int32) (l2 : Int32) (l3 : Int32) (l4 : Int32) (l5 : Int32) (l6 : Int32) (l7 : Int32), Sm g 8 44 [(0, .ref g.1.2.2.2.2.2), (1, .int l1), (2, .int l2), (3, .int l3), (4, .int l4), (5, .int l5), (6, .int l6), (7, .int l7)] [] (kb l1 l2 l3 l4 l5 l6 l7)) (hke93 : ∀ (l1 : Int32) (l2 : Int32) (l3 : Int32) (l4 : Int32) (l6 : Int32), Sm g 8 93 [(0, .ref g.1.2.2.2.2.2), (1, .int l1), (2, .int l2), (3, .int l3), (4, .int l4), (6, .int l6)] [] (ke93 l1 l2 l3 l4 l6)) (l1 : Int32) (l2 : Int32) (l3 : Int32) (l4 : Int32) (l5 : Int32) (l7 : Int32) (s0 : Int32) : Sm g 8 85 [(0, .ref g.1.2.2.2.2.2), (1, .int l1), (2, .int l2), (3, .int l3), (4, .int l4), (5, .int l5), (7, .int l7)] [.int s0] (R_subscriptionOf_J85 kb ke93 l1 l2 l3 l4 l5 l7 s0) := by
  unfold R_subscriptionOf_J85
  refine s_istore (lv' := [(6, .int s0), (0, .ref g.1.2.2.2.2.2), (1, .int l1), (2, .int l2), (3, .int l3), (4, .int l4), (5, .int l5), (7, .int l7)]) B.1 dX12_subscriptionOf_85 (by decide) rfl ?_
  refine s_iinc (v := l7 + 1) (lv' := [(7, .int (l7 + 1)), (6, .int s0), (0, .ref g.1.2.2.2.2.2), (1, .int l1), (2, .int l2), (3, .int l3), (4, .int l4), (5, .int l5)]) B.1 7 dX12_subscriptionOf_87 rfl rfl (by decide) rfl ?_
  refine s_goto B.1 44 dX12_subscriptionOf_90 (by decide) ?_
  exact Sm.lvs [2, 3, 4, 5, 6, 7, 1, 0] rfl (hkb l1 l2 l3 l4 l5 s0 (l7 + 1))
def R_subscriptionOf_B44 (kb : Int32 → Int32 → Int32 → Int32 → Int32 → Int32 → Int32 → RS → Option (Int32 × RS)) (ke93 : Int32 → Int32 → Int32 → Int32 → Int32 → RS → Option (Int32 × RS)) (l1 : Int32) (l2 : Int32) (l3 : Int32) (l4 : Int32) (l5 : Int32) (l6 : Int32) (l7 : Int32) : RS → Option (Int32 × RS) :=
  if l3 ≤ l7 then (
    ke93 l1 l2 l3 l4 l6
  ) else (
    if l6 = 0 then (
      ke93 l1 l2 l3 l4 l6
    ) else (
      rA 26 (((64 : Int32) * l5) + l7) fun v1 =>
      rA 6 (l2 + l7) fun v2 =>
      if v1 = v2 then (
        R_subscriptionOf_J85 kb ke93 l1 l2 l3 l4 l5 l7 (1 : Int32)
      ) else (
        R_subscriptionOf_J85 kb ke93 l1 l2 l3 l4 l5 l7 (0 : Int32)
      )
    )
  )
def R_subscriptionOf_L44 (ke93 : Int32 → Int32 → Int32 → Int32 → Int32 → RS → Option (Int32 × RS)) : Nat → Int32 → Int32 → Int32 → Int32 → Int32 → Int32 → Int32 → RS → Option (Int32 × RS)
  | 0, _, _, _, _, _, _, _ => no
  | n + 1, l1, l2, l3, l4, l5, l6, l7 => R_subscriptionOf_B44 (fun l1 l2 l3 l4 l5 l6 l7 => R_subscriptionOf_L44 ke93 n l1 l2 l3 l4 l5 l6 l7) ke93 l1 l2 l3 l4 l5 l6 l7
set_option maxRecDepth 10000 in
theorem sm_subscriptionOf_B44 {g : Gm RS Int32} {kb : Int32 → Int32 → Int32 → Int32 → Int32 → Int32 → Int32 → RS → Option (Int32 × RS)} {ke93 : Int32 → Int32 → Int32 → Int32 → Int32 → RS → Option (Int32 × RS)} (B : Br g cX12_subscriptionOf 8 voI (some .int) 0 0) (hkb : ∀ (l1 : Int32) (l2 : Int32) (l3 : Int32) (l4 : Int32) (l5 : Int32) (l6 : Int32) (l7 : Int32), Sm g 8 44 [(0, .ref g.1.2.2.2.2.2), (1, .int l1), (2, .int l2), (3, .int l3), (4, .int l4), (5, .int l5), (6, .int l6), (7, .int l7)] [] (kb l1 l2 l3 l4 l5 l6 l7)) (hke93 : ∀ (l1 : Int32) (l2 : Int32) (l3 : Int32) (l4 : Int32) (l6 : Int32), Sm g 8 93 [(0, .ref g.1.2.2.2.2.2), (1, .int l1), (2, .int l2), (3, .int l3), (4, .int l4), (6, .int l6)] [] (ke93 l1 l2 l3 l4 l6)) (l1 : Int32) (l2 : Int32) (l3 : Int32) (l4 : Int32) (l5 : Int32) (l6 : Int32) (l7 : Int32) : Sm g 8 44 [(0, .ref g.1.2.2.2.2.2), (1, .int l1), (2, .int l2), (3, .int l3), (4, .int l4), (5, .int l5), (6, .int l6), (7, .int l7)] [] (R_subscriptionOf_B44 kb ke93 l1 l2 l3 l4 l5 l6 l7) := by
  unfold R_subscriptionOf_B44
  refine s_iload B.1 7 dX12_subscriptionOf_44 rfl ?_
  refine s_iload_n B.1 3 dX12_subscriptionOf_46 rfl rfl ?_
  refine s_icmp_ge B.1 93 dX12_subscriptionOf_47 (by decide) ?_ ?_
  · exact Sm.lvs [0, 1, 2, 3, 4, 6] rfl (hke93 l1 l2 l3 l4 l6)
  · refine s_iload B.1 6 dX12_subscriptionOf_50 rfl ?_
    refine s_if_eq B.1 93 dX12_subscriptionOf_52 (by decide) ?_ ?_
    · exact Sm.lvs [0, 1, 2, 3, 4, 6] rfl (hke93 l1 l2 l3 l4 l6)
    · refine s_aload_n B.1 0 dX12_subscriptionOf_55 rfl rfl ?_
      refine rr_getA B 26 mh_26 mn_26 mf_26 dX12_subscriptionOf_56 ?_
      refine s_bipush (v := (64)) B.1 dX12_subscriptionOf_59 (by decide) ?_
      refine s_iload B.1 5 dX12_subscriptionOf_61 rfl ?_
      refine s_imul B.1 dX12_subscriptionOf_63 ?_
      refine s_iload B.1 7 dX12_subscriptionOf_64 rfl ?_
      refine s_iadd B.1 dX12_subscriptionOf_66 ?_
      refine rr_bald B 26 mh_26 mk_26 dX12_subscriptionOf_67 (fun v1 => ?_)
      refine s_aload_n B.1 0 dX12_subscriptionOf_68 rfl rfl ?_
      refine rr_getA B 6 mh_6 mn_6 mf_6 dX12_subscriptionOf_69 ?_
      refine s_iload_n B.1 2 dX12_subscriptionOf_72 rfl rfl ?_
      refine s_iload B.1 7 dX12_subscriptionOf_73 rfl ?_
      refine s_iadd B.1 dX12_subscriptionOf_75 ?_
      refine rr_bald B 6 mh_6 mk_6 dX12_subscriptionOf_76 (fun v2 => ?_)
      refine s_icmp_ne B.1 84 dX12_subscriptionOf_77 (by decide) ?_ ?_
      · refine s_iconst (v := 0) B.1 dX12_subscriptionOf_84 (by decide) ?_
        exact Sm.lvs [0, 1, 2, 3, 4, 5, 7] rfl (sm_subscriptionOf_J85 B hkb hke93 l1 l2 l3 l4 l5 l7 (0 : Int32))
      · refine s_iconst (v := 1) B.1 dX12_subscriptionOf_80 (by decide) ?_
        refine s_goto B.1 85 dX12_subscriptionOf_81 (by decide) ?_
        exact Sm.lvs [0, 1, 2, 3, 4, 5, 7] rfl (sm_subscriptionOf_J85 B hkb hke93 l1 l2 l3 l4 l5 l7 (1 : Int32))
set_option maxRecDepth 10000 in
theorem sm_subscriptionOf_L44 {g : Gm RS Int32} {ke93 : Int32 → Int32 → Int32 → Int32 → Int32 → RS → Option (Int32 × RS)} (B : Br g cX12_subscriptionOf 8 voI (some .int) 0 0) (hke93 : ∀ (l1 : Int32) (l2 : Int32) (l3 : Int32) (l4 : Int32) (l6 : Int32), Sm g 8 93 [(0, .ref g.1.2.2.2.2.2), (1, .int l1), (2, .int l2), (3, .int l3), (4, .int l4), (6, .int l6)] [] (ke93 l1 l2 l3 l4 l6)) : ∀ (n : Nat) (l1 : Int32) (l2 : Int32) (l3 : Int32) (l4 : Int32) (l5 : Int32) (l6 : Int32) (l7 : Int32), Sm g 8 44 [(0, .ref g.1.2.2.2.2.2), (1, .int l1), (2, .int l2), (3, .int l3), (4, .int l4), (5, .int l5), (6, .int l6), (7, .int l7)] [] (R_subscriptionOf_L44 ke93 n l1 l2 l3 l4 l5 l6 l7)
  | 0, _, _, _, _, _, _, _ => Sm.fail
  | n + 1, l1, l2, l3, l4, l5, l6, l7 => sm_subscriptionOf_B44 B (sm_subscriptionOf_L44 B hke93 n) hke93 l1 l2 l3 l4 l5 l6 l7
def R_subscriptionOf_J39 (kb : Int32 → Int32 → Int32 → Int32 → RS → Option (Int32 × RS)) (ke98 : Int32 → RS → Option (Int32 × RS)) (ke107 : RS → Option (Int32 × RS)) (l1 : Int32) (l2 : Int32) (l3 : Int32) (l4 : Int32) (l5 : Int32) (s0 : Int32) : RS → Option (Int32 × RS) :=
  R_subscriptionOf_L44 (fun l1 l2 l3 l4 l6 => R_subscriptionOf_J93 kb ke98 ke107 l1 l2 l3 l4 l6) fu l1 l2 l3 l4 l5 s0 (0 : Int32)
set_option maxRecDepth 10000 in
theorem sm_subscriptionOf_J39 {g : Gm RS Int32} {kb : Int32 → Int32 → Int32 → Int32 → RS → Option (Int32 × RS)} {ke98 : Int32 → RS → Option (Int32 × RS)} {ke107 : RS → Option (Int32 × RS)} (B : Br g cX12_subscriptionOf 8 voI (some .int) 0 0) (hkb : ∀ (l1 : Int32) (l2 : Int32) (l3 : Int32) (l4 : Int32), Sm g 8 3 [(0, .ref g.1.2.2.2.2.2), (1, .int l1), (2, .int l2), (3, .int l3), (4, .int l4)] [] (kb l1 l2 l3 l4)) (hke98 : ∀ (l4 : Int32), Sm g 8 98 [(4, .int l4)] [] (ke98 l4)) (hke107 : Sm g 8 107 [] [] (ke107)) (l1 : Int32) (l2 : Int32) (l3 : Int32) (l4 : Int32) (l5 : Int32) (s0 : Int32) : Sm g 8 39 [(0, .ref g.1.2.2.2.2.2), (1, .int l1), (2, .int l2), (3, .int l3), (4, .int l4), (5, .int l5)] [.int s0] (R_subscriptionOf_J39 kb ke98 ke107 l1 l2 l3 l4 l5 s0) := by
  unfold R_subscriptionOf_J39
  refine s_istore (lv' := [(6, .int s0), (0, .ref g.1.2.2.2.2.2), (1, .int l1), (2, .int l2), (3, .int l3), (4, .int l4), (5, .int l5)]) B.1 dX12_subscriptionOf_39 (by decide) rfl ?_
  refine s_iconst (v := 0) B.1 dX12_subscriptionOf_41 (by decide) ?_
  refine s_istore (lv' := [(7, .int (0 : Int32)), (6, .int s0), (0, .ref g.1.2.2.2.2.2), (1, .int l1), (2, .int l2), (3, .int l3), (4, .int l4), (5, .int l5)]) B.1 dX12_subscriptionOf_42 (by decide) rfl ?_
  exact Sm.lvs [2, 3, 4, 5, 6, 7, 1, 0] rfl (sm_subscriptionOf_L44 B (fun l1 l2 l3 l4 l6 => sm_subscriptionOf_J93 B hkb hke98 hke107 l1 l2 l3 l4 l6) fu l1 l2 l3 l4 l5 s0 (0 : Int32))
def R_subscriptionOf_B3 (kb : Int32 → Int32 → Int32 → Int32 → RS → Option (Int32 × RS)) (ke98 : Int32 → RS → Option (Int32 × RS)) (ke107 : RS → Option (Int32 × RS)) (l1 : Int32) (l2 : Int32) (l3 : Int32) (l4 : Int32) : RS → Option (Int32 × RS) :=
  rA 24 l1 fun v3 =>
  if v3 ≤ l4 then (
    ke107
  ) else (
    lq (((8 : Int32) * l1) + l4) fun x4 =>
    rA 25 x4 fun v5 =>
    if v5 = l3 then (
      R_subscriptionOf_J39 kb ke98 ke107 l1 l2 l3 l4 x4 (1 : Int32)
    ) else (
      R_subscriptionOf_J39 kb ke98 ke107 l1 l2 l3 l4 x4 (0 : Int32)
    )
  )
def R_subscriptionOf_L3 (ke98 : Int32 → RS → Option (Int32 × RS)) (ke107 : RS → Option (Int32 × RS)) : Nat → Int32 → Int32 → Int32 → Int32 → RS → Option (Int32 × RS)
  | 0, _, _, _, _ => no
  | n + 1, l1, l2, l3, l4 => R_subscriptionOf_B3 (fun l1 l2 l3 l4 => R_subscriptionOf_L3 ke98 ke107 n l1 l2 l3 l4) ke98 ke107 l1 l2 l3 l4
set_option maxRecDepth 10000 in
theorem sm_subscriptionOf_B3 {g : Gm RS Int32} {kb : Int32 → Int32 → Int32 → Int32 → RS → Option (Int32 × RS)} {ke98 : Int32 → RS → Option (Int32 × RS)} {ke107 : RS → Option (Int32 × RS)} (B : Br g cX12_subscriptionOf 8 voI (some .int) 0 0) (hkb : ∀ (l1 : Int32) (l2 : Int32) (l3 : Int32) (l4 : Int32), Sm g 8 3 [(0, .ref g.1.2.2.2.2.2), (1, .int l1), (2, .int l2), (3, .int l3), (4, .int l4)] [] (kb l1 l2 l3 l4)) (hke98 : ∀ (l4 : Int32), Sm g 8 98 [(4, .int l4)] [] (ke98 l4)) (hke107 : Sm g 8 107 [] [] (ke107)) (l1 : Int32) (l2 : Int32) (l3 : Int32) (l4 : Int32) : Sm g 8 3 [(0, .ref g.1.2.2.2.2.2), (1, .int l1), (2, .int l2), (3, .int l3), (4, .int l4)] [] (R_subscriptionOf_B3 kb ke98 ke107 l1 l2 l3 l4) := by
  unfold R_subscriptionOf_B3
  refine s_iload B.1 4 dX12_subscriptionOf_3 rfl ?_
  refine s_aload_n B.1 0 dX12_subscriptionOf_5 rfl rfl ?_
  refine rr_getA B 24 mh_24 mn_24 mf_24 dX12_subscriptionOf_6 ?_
  refine s_iload_n B.1 1 dX12_subscriptionOf_9 rfl rfl ?_
  refine rr_iald B 24 mh_24 mk_24 dX12_subscriptionOf_10 (fun v3 => ?_)
  refine s_icmp_ge B.1 107 dX12_subscriptionOf_11 (by decide) ?_ ?_
  · exact Sm.lvs [] rfl (hke107)
  · refine s_bipush (v := (8)) B.1 dX12_subscriptionOf_14 (by decide) ?_
    refine s_iload_n B.1 1 dX12_subscriptionOf_16 rfl rfl ?_
    refine s_imul B.1 dX12_subscriptionOf_17 ?_
    refine s_iload B.1 4 dX12_subscriptionOf_18 rfl ?_
    refine s_iadd B.1 dX12_subscriptionOf_20 ?_
    refine s_lqi (fun x4 => ?_)
    refine s_istore (lv' := [(5, .int x4), (0, .ref g.1.2.2.2.2.2), (1, .int l1), (2, .int l2), (3, .int l3), (4, .int l4)]) B.1 dX12_subscriptionOf_21 (by decide) rfl ?_
    refine s_aload_n B.1 1 dX12_subscriptionOf_23 rfl rfl ?_
    refine rr_getA B 25 mh_25 mn_25 mf_25 dX12_subscriptionOf_24 ?_
    refine s_iload B.1 0 dX12_subscriptionOf_27 rfl ?_
    refine rr_iald B 25 mh_25 mk_25 dX12_subscriptionOf_29 (fun v5 => ?_)
    refine s_iload_n B.1 4 dX12_subscriptionOf_30 rfl rfl ?_
    refine s_icmp_ne B.1 38 dX12_subscriptionOf_31 (by decide) ?_ ?_
    · refine s_iconst (v := 0) B.1 dX12_subscriptionOf_38 (by decide) ?_
      exact Sm.lvs [1, 2, 3, 4, 5, 0] rfl (sm_subscriptionOf_J39 B hkb hke98 hke107 l1 l2 l3 l4 x4 (0 : Int32))
    · refine s_iconst (v := 1) B.1 dX12_subscriptionOf_34 (by decide) ?_
      refine s_goto B.1 39 dX12_subscriptionOf_35 (by decide) ?_
      exact Sm.lvs [1, 2, 3, 4, 5, 0] rfl (sm_subscriptionOf_J39 B hkb hke98 hke107 l1 l2 l3 l4 x4 (1 : Int32))
set_option maxRecDepth 10000 in
theorem sm_subscriptionOf_L3 {g : Gm RS Int32} {ke98 : Int32 → RS → Option (Int32 × RS)} {ke107 : RS → Option (Int32 × RS)} (B : Br g cX12_subscriptionOf 8 voI (some .int) 0 0) (hke98 : ∀ (l4 : Int32), Sm g 8 98 [(4, .int l4)] [] (ke98 l4)) (hke107 : Sm g 8 107 [] [] (ke107)) : ∀ (n : Nat) (l1 : Int32) (l2 : Int32) (l3 : Int32) (l4 : Int32), Sm g 8 3 [(0, .ref g.1.2.2.2.2.2), (1, .int l1), (2, .int l2), (3, .int l3), (4, .int l4)] [] (R_subscriptionOf_L3 ke98 ke107 n l1 l2 l3 l4)
  | 0, _, _, _, _ => Sm.fail
  | n + 1, l1, l2, l3, l4 => sm_subscriptionOf_B3 B (sm_subscriptionOf_L3 B hke98 hke107 n) hke98 hke107 l1 l2 l3 l4
def R_subscriptionOf (l1 : Int32) (l2 : Int32) (l3 : Int32) : RS → Option (Int32 × RS) :=
  R_subscriptionOf_L3 (fun l4 => R_subscriptionOf_J98 l4) (R_subscriptionOf_J107) fu l1 l2 l3 (0 : Int32)
set_option maxRecDepth 10000 in
theorem m_subscriptionOf {w : Wd} (hw : Wok w) (l1 : Int32) (l2 : Int32) (l3 : Int32) : MR w yX12_subscriptionOf cX12_subscriptionOf 8 (some .int) 0 0 voI [.ref w.2.2.2.2.2, .int l1, .int l2, .int l3] (R_subscriptionOf l1 l2 l3) := by
  refine MR.of hw rfl (Nat.le_of_ble_eq_true rfl) (fun g hg B => ?_)
  subst hg
  unfold R_subscriptionOf
  show Sm g 8 0 [(0, .ref g.1.2.2.2.2.2), (1, .int l1), (2, .int l2), (3, .int l3)] [] _
  refine s_iconst (v := 0) B.1 dX12_subscriptionOf_0 (by decide) ?_
  refine s_istore (lv' := [(4, .int (0 : Int32)), (0, .ref g.1.2.2.2.2.2), (1, .int l1), (2, .int l2), (3, .int l3)]) B.1 dX12_subscriptionOf_1 (by decide) rfl ?_
  exact Sm.lvs [1, 2, 3, 4, 0] rfl (sm_subscriptionOf_L3 B (fun l4 => sm_subscriptionOf_J98 B l4) (sm_subscriptionOf_J107 B) fu l1 l2 l3 (0 : Int32))
def R_show_J138 : RS → Option (Unit × RS) :=
  rt ()
set_option maxRecDepth 10000 in
theorem sm_show_J138 {g : Gm RS Unit} (B : Br g cX12_show 6 voV none 5 130) : Sm g 6 138 [] [] (R_show_J138) := by
  unfold R_show_J138
  exact s_vret B.1 B.2.1 dX12_show_138
def R_show_B93 (kb : Int32 → Int32 → RS → Option (Unit × RS)) (ke138 : RS → Option (Unit × RS)) (l4 : Int32) (l5 : Int32) : RS → Option (Unit × RS) :=
  rI 65 fun v1 =>
  if v1 ≤ l5 then (
    ke138
  ) else (
    rA 64 l5 fun v2 =>
    bd (R_takes l4 v2) fun r3 =>
    if r3 = 0 then (
      kb l4 (l5 + 1)
    ) else (
      rA 64 l5 fun v4 =>
      bd (R_deliver l4 v4 (1 : Int32)) fun r5 =>
      kb l4 (l5 + 1)
    )
  )
def R_show_L93 (ke138 : RS → Option (Unit × RS)) : Nat → Int32 → Int32 → RS → Option (Unit × RS)
  | 0, _, _ => no
  | n + 1, l4, l5 => R_show_B93 (fun l4 l5 => R_show_L93 ke138 n l4 l5) ke138 l4 l5
set_option maxRecDepth 10000 in
theorem sm_show_B93 {g : Gm RS Unit} {kb : Int32 → Int32 → RS → Option (Unit × RS)} {ke138 : RS → Option (Unit × RS)} (B : Br g cX12_show 6 voV none 5 130) (hkb : ∀ (l4 : Int32) (l5 : Int32), Sm g 6 93 [(0, .ref g.1.2.2.2.2.2), (4, .int l4), (5, .int l5)] [] (kb l4 l5)) (hke138 : Sm g 6 138 [] [] (ke138)) (l4 : Int32) (l5 : Int32) : Sm g 6 93 [(0, .ref g.1.2.2.2.2.2), (4, .int l4), (5, .int l5)] [] (R_show_B93 kb ke138 l4 l5) := by
  unfold R_show_B93
  refine s_iload B.1 2 dX12_show_93 rfl ?_
  refine s_aload_n B.1 0 dX12_show_95 rfl rfl ?_
  refine rr_getI B 65 mh_65 mk_65 mf_65 dX12_show_96 (fun v1 => ?_)
  refine s_icmp_ge B.1 138 dX12_show_99 (by decide) ?_ ?_
  · exact Sm.lvs [] rfl (hke138)
  · refine s_aload_n B.1 0 dX12_show_102 rfl rfl ?_
    refine s_iload B.1 1 dX12_show_103 rfl ?_
    refine s_aload_n B.1 0 dX12_show_105 rfl rfl ?_
    refine rr_getA B 64 mh_64 mn_64 mf_64 dX12_show_106 ?_
    refine s_iload B.1 2 dX12_show_109 rfl ?_
    refine rr_iald B 64 mh_64 mk_64 dX12_show_111 (fun v2 => ?_)
    refine rr_cvi (As := [.int l4, .int v2]) (st := []) B (m_takes B.ok l4 v2) mc_takes ml_takes mi_takes me_takes ini12 md_takes (by decide) rfl (Nat.le_of_ble_eq_true rfl) dX12_show_112 (fun r3 => ?_)
    refine s_if_eq B.1 132 dX12_show_115 (by decide) ?_ ?_
    · refine s_iinc (v := l5 + 1) (lv' := [(5, .int (l5 + 1)), (0, .ref g.1.2.2.2.2.2), (4, .int l4)]) B.1 2 dX12_show_132 rfl rfl (by decide) rfl ?_
      refine s_goto B.1 93 dX12_show_135 (by decide) ?_
      exact Sm.lvs [1, 2, 0] rfl (hkb l4 (l5 + 1))
    · refine s_aload_n B.1 0 dX12_show_118 rfl rfl ?_
      refine s_iload B.1 1 dX12_show_119 rfl ?_
      refine s_aload_n B.1 0 dX12_show_121 rfl rfl ?_
      refine rr_getA B 64 mh_64 mn_64 mf_64 dX12_show_122 ?_
      refine s_iload B.1 2 dX12_show_125 rfl ?_
      refine rr_iald B 64 mh_64 mk_64 dX12_show_127 (fun v4 => ?_)
      refine s_iconst (v := 1) B.1 dX12_show_128 (by decide) ?_
      refine rr_cvv (As := [.int l4, .int v4, .int (1 : Int32)]) (st := []) B (m_deliver B.ok l4 v4 (1 : Int32)) mc_deliver ml_deliver mi_deliver me_deliver ini12 md_deliver (by decide) rfl (Nat.le_of_ble_eq_true rfl) dX12_show_129 (fun r5 => ?_)
      refine s_iinc (v := l5 + 1) (lv' := [(5, .int (l5 + 1)), (0, .ref g.1.2.2.2.2.2), (4, .int l4)]) B.1 2 dX12_show_132 rfl rfl (by decide) rfl ?_
      refine s_goto B.1 93 dX12_show_135 (by decide) ?_
      exact Sm.lvs [1, 2, 0] rfl (hkb l4 (l5 + 1))
set_option maxRecDepth 10000 in
theorem sm_show_L93 {g : Gm RS Unit} {ke138 : RS → Option (Unit × RS)} (B : Br g cX12_show 6 voV none 5 130) (hke138 : Sm g 6 138 [] [] (ke138)) : ∀ (n : Nat) (l4 : Int32) (l5 : Int32), Sm g 6 93 [(0, .ref g.1.2.2.2.2.2), (4, .int l4), (5, .int l5)] [] (R_show_L93 ke138 n l4 l5)
  | 0, _, _ => Sm.fail
  | n + 1, l4, l5 => sm_show_B93 B (sm_show_L93 B hke138 n) hke138 l4 l5
def R_show_J62 (l1 : Int32) (l2 : Int32) : RS → Option (Unit × RS) :=
  rA 93 l2 fun v6 =>
  rA 94 l2 fun v7 =>
  bd (R_subscriptionOf l1 v6 v7) fun r8 =>
  lq (((8 : Int32) * l1) + r8) fun x9 =>
  bd (R_purge) fun r10 =>
  R_show_L93 (R_show_J138) fu x9 (0 : Int32)
set_option maxRecDepth 10000 in
theorem sm_show_J62 {g : Gm RS Unit} (B : Br g cX12_show 6 voV none 5 130) (l1 : Int32) (l2 : Int32) : Sm g 6 62 [(0, .ref g.1.2.2.2.2.2), (1, .int l1), (2, .int l2)] [] (R_show_J62 l1 l2) := by
  unfold R_show_J62
  refine s_bipush (v := (8)) B.1 dX12_show_62 (by decide) ?_
  refine s_iload_n B.1 1 dX12_show_64 rfl rfl ?_
  refine s_imul B.1 dX12_show_65 ?_
  refine s_aload_n B.1 0 dX12_show_66 rfl rfl ?_
  refine s_iload_n B.1 1 dX12_show_67 rfl rfl ?_
  refine s_aload_n B.1 0 dX12_show_68 rfl rfl ?_
  refine rr_getA B 93 mh_93 mn_93 mf_93 dX12_show_69 ?_
  refine s_iload_n B.1 2 dX12_show_72 rfl rfl ?_
  refine rr_iald B 93 mh_93 mk_93 dX12_show_73 (fun v6 => ?_)
  refine s_aload_n B.1 0 dX12_show_74 rfl rfl ?_
  refine rr_getA B 94 mh_94 mn_94 mf_94 dX12_show_75 ?_
  refine s_iload_n B.1 2 dX12_show_78 rfl rfl ?_
  refine rr_iald B 94 mh_94 mk_94 dX12_show_79 (fun v7 => ?_)
  refine rr_cvi (As := [.int l1, .int v6, .int v7]) (st := [.int ((8 : Int32) * l1)]) B (m_subscriptionOf B.ok l1 v6 v7) mc_subscriptionOf ml_subscriptionOf mi_subscriptionOf me_subscriptionOf ini12 md_subscriptionOf (by decide) rfl (Nat.le_of_ble_eq_true rfl) dX12_show_80 (fun r8 => ?_)
  refine s_iadd B.1 dX12_show_83 ?_
  refine s_lqi (fun x9 => ?_)
  refine s_istore (lv' := [(4, .int x9), (0, .ref g.1.2.2.2.2.2), (1, .int l1), (2, .int l2)]) B.1 dX12_show_84 (by decide) rfl ?_
  refine s_aload_n B.1 1 dX12_show_86 rfl rfl ?_
  refine rr_cvv (As := []) (st := []) B (m_purge B.ok) mc_purge ml_purge mi_purge me_purge ini12 md_purge (by decide) rfl (Nat.le_of_ble_eq_true rfl) dX12_show_87 (fun r10 => ?_)
  refine s_iconst (v := 0) B.1 dX12_show_90 (by decide) ?_
  refine s_istore (lv' := [(5, .int (0 : Int32)), (4, .int x9), (0, .ref g.1.2.2.2.2.2), (1, .int l1), (2, .int l2)]) B.1 dX12_show_91 (by decide) rfl ?_
  exact Sm.lvs [2, 1, 0] rfl (sm_show_L93 B (sm_show_J138 B) fu x9 (0 : Int32))
def R_show (l1 : Int32) (l2 : Int32) : RS → Option (Unit × RS) :=
  rA 95 l2 fun v11 =>
  lq ((v11 >>> ((4 : Int32) &&& 31)) &&& (3 : Int32)) fun x12 =>
  rA 92 l2 fun v13 =>
  if (2 : Int32) < v13 then (
    rt ()
  ) else (
    rA 93 l2 fun v14 =>
    rA 94 l2 fun v15 =>
    bd (R_shareAt 6 v14 v15) fun r16 =>
    if 0 < r16 then (
      rt ()
    ) else (
      if x12 = 0 then (
        R_show_J62 l1 l2
      ) else (
        if x12 = (1 : Int32) then (
          rA 96 l2 fun v17 =>
          if v17 = 0 then (
            rt ()
          ) else (
            R_show_J62 l1 l2
          )
        ) else (
          rt ()
        )
      )
    )
  )
set_option maxRecDepth 10000 in
theorem m_show {w : Wd} (hw : Wok w) (l1 : Int32) (l2 : Int32) : MR w yX12_show cX12_show 6 none 5 130 voV [.ref w.2.2.2.2.2, .int l1, .int l2] (R_show l1 l2) := by
  refine MR.of hw rfl (Nat.le_of_ble_eq_true rfl) (fun g hg B => ?_)
  subst hg
  unfold R_show
  show Sm g 6 0 [(0, .ref g.1.2.2.2.2.2), (1, .int l1), (2, .int l2)] [] _
  refine s_aload_n B.1 0 dX12_show_0 rfl rfl ?_
  refine rr_getA B 95 mh_95 mn_95 mf_95 dX12_show_1 ?_
  refine s_iload_n B.1 2 dX12_show_4 rfl rfl ?_
  refine rr_iald B 95 mh_95 mk_95 dX12_show_5 (fun v11 => ?_)
  refine s_iconst (v := 4) B.1 dX12_show_6 (by decide) ?_
  refine s_ishr B.1 dX12_show_7 ?_
  refine s_iconst (v := 3) B.1 dX12_show_8 (by decide) ?_
  refine s_iand B.1 dX12_show_9 ?_
  refine s_lqi (fun x12 => ?_)
  refine s_istore_n (lv' := [(3, .int x12), (0, .ref g.1.2.2.2.2.2), (1, .int l1), (2, .int l2)]) B.1 dX12_show_10 rfl (by decide) rfl ?_
  refine s_aload_n B.1 1 dX12_show_11 rfl rfl ?_
  refine rr_getA B 92 mh_92 mn_92 mf_92 dX12_show_12 ?_
  refine s_iload_n B.1 3 dX12_show_15 rfl rfl ?_
  refine rr_iald B 92 mh_92 mk_92 dX12_show_16 (fun v13 => ?_)
  refine s_iconst (v := 2) B.1 dX12_show_17 (by decide) ?_
  refine s_icmp_gt B.1 61 dX12_show_18 (by decide) ?_ ?_
  · exact s_vret B.1 B.2.1 dX12_show_61
  · refine s_aload_n B.1 1 dX12_show_21 rfl rfl ?_
    refine rr_getA B 6 mh_6 mn_6 mf_6 dX12_show_22 ?_
    refine s_aload_n B.1 1 dX12_show_25 rfl rfl ?_
    refine rr_getA B 93 mh_93 mn_93 mf_93 dX12_show_26 ?_
    refine s_iload_n B.1 3 dX12_show_29 rfl rfl ?_
    refine rr_iald B 93 mh_93 mk_93 dX12_show_30 (fun v14 => ?_)
    refine s_aload_n B.1 1 dX12_show_31 rfl rfl ?_
    refine rr_getA B 94 mh_94 mn_94 mf_94 dX12_show_32 ?_
    refine s_iload_n B.1 3 dX12_show_35 rfl rfl ?_
    refine rr_iald B 94 mh_94 mk_94 dX12_show_36 (fun v15 => ?_)
    refine rr_csi (As := [.ref (g.1.2.2.2.2.2 + mO 6), .int v14, .int v15]) (st := []) B (m_shareAt B.ok 6 v14 v15 mh_6 mk_6) mc_shareAt ml_shareAt ms_shareAt ini12 md_shareAt (by decide) rfl (Nat.le_of_ble_eq_true rfl) dX12_show_37 (fun r16 => ?_)
    refine s_if_gt B.1 61 dX12_show_40 (by decide) ?_ ?_
    · exact s_vret B.1 B.2.1 dX12_show_61
    · refine s_iload_n B.1 0 dX12_show_43 rfl rfl ?_
      refine s_if_eq B.1 62 dX12_show_44 (by decide) ?_ ?_
      · exact Sm.lvs [1, 2, 3] rfl (sm_show_J62 B l1 l2)
      · refine s_iload_n B.1 0 dX12_show_47 rfl rfl ?_
        refine s_iconst (v := 1) B.1 dX12_show_48 (by decide) ?_
        refine s_icmp_ne B.1 61 dX12_show_49 (by decide) ?_ ?_
        · exact s_vret B.1 B.2.1 dX12_show_61
        · refine s_aload_n B.1 1 dX12_show_52 rfl rfl ?_
          refine rr_getA B 96 mh_96 mn_96 mf_96 dX12_show_53 ?_
          refine s_iload_n B.1 3 dX12_show_56 rfl rfl ?_
          refine rr_zald B 96 mh_96 mk_96 dX12_show_57 (fun v17 => ?_)
          refine s_if_ne B.1 62 dX12_show_58 (by decide) ?_ ?_
          · exact Sm.lvs [1, 2, 3] rfl (sm_show_J62 B l1 l2)
          · exact s_vret B.1 B.2.1 dX12_show_61
def R_subscribeOne_J186 (l1 : Int32) (l2 : Int32) (l3 : Int32) (l6 : Int32) : RS → Option (Int32 × RS) :=
  rA 95 l2 fun v1 =>
  wA 27 (((8 : Int32) * l1) + l6) v1 <|
  wA 28 (((8 : Int32) * l1) + l6) l3 <|
  rA 95 l2 fun v2 =>
  rt (v2 &&& (3 : Int32))
set_option maxRecDepth 10000 in
theorem sm_subscribeOne_J186 {g : Gm RS Int32} (B : Br g cX12_subscribeOne 9 voI (some .int) 3 71) (l1 : Int32) (l2 : Int32) (l3 : Int32) (l6 : Int32) : Sm g 9 186 [(0, .ref g.1.2.2.2.2.2), (1, .int l1), (2, .int l2), (3, .int l3), (6, .int l6)] [] (R_subscribeOne_J186 l1 l2 l3 l6) := by
  unfold R_subscribeOne_J186
  refine s_aload_n B.1 0 dX12_subscribeOne_186 rfl rfl ?_
  refine rr_getA B 27 mh_27 mn_27 mf_27 dX12_subscribeOne_187 ?_
  refine s_bipush (v := (8)) B.1 dX12_subscribeOne_190 (by decide) ?_
  refine s_iload_n B.1 1 dX12_subscribeOne_192 rfl rfl ?_
  refine s_imul B.1 dX12_subscribeOne_193 ?_
  refine s_iload B.1 4 dX12_subscribeOne_194 rfl ?_
  refine s_iadd B.1 dX12_subscribeOne_196 ?_
  refine s_aload_n B.1 0 dX12_subscribeOne_197 rfl rfl ?_
  refine rr_getA B 95 mh_95 mn_95 mf_95 dX12_subscribeOne_198 ?_
  refine s_iload_n B.1 2 dX12_subscribeOne_201 rfl rfl ?_
  refine rr_iald B 95 mh_95 mk_95 dX12_subscribeOne_202 (fun v1 => ?_)
  refine rr_iast B 27 mh_27 mk_27 dX12_subscribeOne_203 ?_
  refine s_aload_n B.1 0 dX12_subscribeOne_204 rfl rfl ?_
  refine rr_getA B 28 mh_28 mn_28 mf_28 dX12_subscribeOne_205 ?_
  refine s_bipush (v := (8)) B.1 dX12_subscribeOne_208 (by decide) ?_
  refine s_iload_n B.1 1 dX12_subscribeOne_210 rfl rfl ?_
  refine s_imul B.1 dX12_subscribeOne_211 ?_
  refine s_iload B.1 4 dX12_subscribeOne_212 rfl ?_
  refine s_iadd B.1 dX12_subscribeOne_214 ?_
  refine s_iload_n B.1 3 dX12_subscribeOne_215 rfl rfl ?_
  refine rr_iast B 28 mh_28 mk_28 dX12_subscribeOne_216 ?_
  refine s_aload_n B.1 0 dX12_subscribeOne_217 rfl rfl ?_
  refine rr_getA B 95 mh_95 mn_95 mf_95 dX12_subscribeOne_218 ?_
  refine s_iload_n B.1 2 dX12_subscribeOne_221 rfl rfl ?_
  refine rr_iald B 95 mh_95 mk_95 dX12_subscribeOne_222 (fun v2 => ?_)
  refine s_iconst (v := 3) B.1 dX12_subscribeOne_223 (by decide) ?_
  refine s_iand B.1 dX12_subscribeOne_224 ?_
  exact s_iret B.1 B.2.1 dX12_subscribeOne_225
def R_subscribeOne_J170 (l1 : Int32) (l2 : Int32) (l3 : Int32) (l6 : Int32) (l7 : Int32) : RS → Option (Int32 × RS) :=
  wA 29 l7 (0 : Int32) <|
  wA 30 l7 (0 : Int32) <|
  R_subscribeOne_J186 l1 l2 l3 l6
set_option maxRecDepth 10000 in
theorem sm_subscribeOne_J170 {g : Gm RS Int32} (B : Br g cX12_subscribeOne 9 voI (some .int) 3 71) (l1 : Int32) (l2 : Int32) (l3 : Int32) (l6 : Int32) (l7 : Int32) : Sm g 9 170 [(0, .ref g.1.2.2.2.2.2), (1, .int l1), (2, .int l2), (3, .int l3), (6, .int l6), (7, .int l7)] [] (R_subscribeOne_J170 l1 l2 l3 l6 l7) := by
  unfold R_subscribeOne_J170
  refine s_aload_n B.1 0 dX12_subscribeOne_170 rfl rfl ?_
  refine rr_getA B 29 mh_29 mn_29 mf_29 dX12_subscribeOne_171 ?_
  refine s_iload B.1 5 dX12_subscribeOne_174 rfl ?_
  refine s_iconst (v := 0) B.1 dX12_subscribeOne_176 (by decide) ?_
  refine rr_iast B 29 mh_29 mk_29 dX12_subscribeOne_177 ?_
  refine s_aload_n B.1 0 dX12_subscribeOne_178 rfl rfl ?_
  refine rr_getA B 30 mh_30 mn_30 mf_30 dX12_subscribeOne_179 ?_
  refine s_iload B.1 5 dX12_subscribeOne_182 rfl ?_
  refine s_iconst (v := 0) B.1 dX12_subscribeOne_184 (by decide) ?_
  refine rr_iast B 30 mh_30 mk_30 dX12_subscribeOne_185 ?_
  exact Sm.lvs [0, 1, 2, 3, 4] rfl (sm_subscribeOne_J186 B l1 l2 l3 l6)
def R_subscribeOne_B134 (kb : Int32 → Int32 → Int32 → Int32 → Int32 → Int32 → Int32 → Int32 → RS → Option (Int32 × RS)) (ke170 : Int32 → Int32 → Int32 → Int32 → Int32 → RS → Option (Int32 × RS)) (l1 : Int32) (l2 : Int32) (l3 : Int32) (l4 : Int32) (l5 : Int32) (l6 : Int32) (l7 : Int32) (l8 : Int32) : RS → Option (Int32 × RS) :=
  if l5 ≤ l8 then (
    ke170 l1 l2 l3 l6 l7
  ) else (
    rA 6 (l4 + l8) fun v3 =>
    wA 26 (((64 : Int32) * l7) + l8) (vp_nar .byte v3) <|
    kb l1 l2 l3 l4 l5 l6 l7 (l8 + 1)
  )
def R_subscribeOne_L134 (ke170 : Int32 → Int32 → Int32 → Int32 → Int32 → RS → Option (Int32 × RS)) : Nat → Int32 → Int32 → Int32 → Int32 → Int32 → Int32 → Int32 → Int32 → RS → Option (Int32 × RS)
  | 0, _, _, _, _, _, _, _, _ => no
  | n + 1, l1, l2, l3, l4, l5, l6, l7, l8 => R_subscribeOne_B134 (fun l1 l2 l3 l4 l5 l6 l7 l8 => R_subscribeOne_L134 ke170 n l1 l2 l3 l4 l5 l6 l7 l8) ke170 l1 l2 l3 l4 l5 l6 l7 l8
set_option maxRecDepth 10000 in
theorem sm_subscribeOne_B134 {g : Gm RS Int32} {kb : Int32 → Int32 → Int32 → Int32 → Int32 → Int32 → Int32 → Int32 → RS → Option (Int32 × RS)} {ke170 : Int32 → Int32 → Int32 → Int32 → Int32 → RS → Option (Int32 × RS)} (B : Br g cX12_subscribeOne 9 voI (some .int) 3 71) (hkb : ∀ (l1 : Int32) (l2 : Int32) (l3 : Int32) (l4 : Int32) (l5 : Int32) (l6 : Int32) (l7 : Int32) (l8 : Int32), Sm g 9 134 [(0, .ref g.1.2.2.2.2.2), (1, .int l1), (2, .int l2), (3, .int l3), (4, .int l4), (5, .int l5), (6, .int l6), (7, .int l7), (8, .int l8)] [] (kb l1 l2 l3 l4 l5 l6 l7 l8)) (hke170 : ∀ (l1 : Int32) (l2 : Int32) (l3 : Int32) (l6 : Int32) (l7 : Int32), Sm g 9 170 [(0, .ref g.1.2.2.2.2.2), (1, .int l1), (2, .int l2), (3, .int l3), (6, .int l6), (7, .int l7)] [] (ke170 l1 l2 l3 l6 l7)) (l1 : Int32) (l2 : Int32) (l3 : Int32) (l4 : Int32) (l5 : Int32) (l6 : Int32) (l7 : Int32) (l8 : Int32) : Sm g 9 134 [(0, .ref g.1.2.2.2.2.2), (1, .int l1), (2, .int l2), (3, .int l3), (4, .int l4), (5, .int l5), (6, .int l6), (7, .int l7), (8, .int l8)] [] (R_subscribeOne_B134 kb ke170 l1 l2 l3 l4 l5 l6 l7 l8) := by
  unfold R_subscribeOne_B134
  refine s_iload B.1 8 dX12_subscribeOne_134 rfl ?_
  refine s_iload B.1 5 dX12_subscribeOne_136 rfl ?_
  refine s_icmp_ge B.1 170 dX12_subscribeOne_138 (by decide) ?_ ?_
  · exact Sm.lvs [0, 1, 2, 3, 6, 7] rfl (hke170 l1 l2 l3 l6 l7)
  · refine s_aload_n B.1 0 dX12_subscribeOne_141 rfl rfl ?_
    refine rr_getA B 26 mh_26 mn_26 mf_26 dX12_subscribeOne_142 ?_
    refine s_bipush (v := (64)) B.1 dX12_subscribeOne_145 (by decide) ?_
    refine s_iload B.1 7 dX12_subscribeOne_147 rfl ?_
    refine s_imul B.1 dX12_subscribeOne_149 ?_
    refine s_iload B.1 8 dX12_subscribeOne_150 rfl ?_
    refine s_iadd B.1 dX12_subscribeOne_152 ?_
    refine s_aload_n B.1 0 dX12_subscribeOne_153 rfl rfl ?_
    refine rr_getA B 6 mh_6 mn_6 mf_6 dX12_subscribeOne_154 ?_
    refine s_iload B.1 4 dX12_subscribeOne_157 rfl ?_
    refine s_iload B.1 8 dX12_subscribeOne_159 rfl ?_
    refine s_iadd B.1 dX12_subscribeOne_161 ?_
    refine rr_bald B 6 mh_6 mk_6 dX12_subscribeOne_162 (fun v3 => ?_)
    refine rr_bast B 26 mh_26 mk_26 dX12_subscribeOne_163 ?_
    refine s_iinc (v := l8 + 1) (lv' := [(8, .int (l8 + 1)), (0, .ref g.1.2.2.2.2.2), (1, .int l1), (2, .int l2), (3, .int l3), (4, .int l4), (5, .int l5), (6, .int l6), (7, .int l7)]) B.1 8 dX12_subscribeOne_164 rfl rfl (by decide) rfl ?_
    refine s_goto B.1 134 dX12_subscribeOne_167 (by decide) ?_
    exact Sm.lvs [1, 2, 3, 4, 5, 6, 7, 8, 0] rfl (hkb l1 l2 l3 l4 l5 l6 l7 (l8 + 1))
set_option maxRecDepth 10000 in
theorem sm_subscribeOne_L134 {g : Gm RS Int32} {ke170 : Int32 → Int32 → Int32 → Int32 → Int32 → RS → Option (Int32 × RS)} (B : Br g cX12_subscribeOne 9 voI (some .int) 3 71) (hke170 : ∀ (l1 : Int32) (l2 : Int32) (l3 : Int32) (l6 : Int32) (l7 : Int32), Sm g 9 170 [(0, .ref g.1.2.2.2.2.2), (1, .int l1), (2, .int l2), (3, .int l3), (6, .int l6), (7, .int l7)] [] (ke170 l1 l2 l3 l6 l7)) : ∀ (n : Nat) (l1 : Int32) (l2 : Int32) (l3 : Int32) (l4 : Int32) (l5 : Int32) (l6 : Int32) (l7 : Int32) (l8 : Int32), Sm g 9 134 [(0, .ref g.1.2.2.2.2.2), (1, .int l1), (2, .int l2), (3, .int l3), (4, .int l4), (5, .int l5), (6, .int l6), (7, .int l7), (8, .int l8)] [] (R_subscribeOne_L134 ke170 n l1 l2 l3 l4 l5 l6 l7 l8)
  | 0, _, _, _, _, _, _, _, _ => Sm.fail
  | n + 1, l1, l2, l3, l4, l5, l6, l7, l8 => sm_subscribeOne_B134 B (sm_subscribeOne_L134 B hke170 n) hke170 l1 l2 l3 l4 l5 l6 l7 l8
def R_subscribeOne_J95 (l1 : Int32) (l2 : Int32) (l3 : Int32) (l4 : Int32) (l5 : Int32) (l6 : Int32) : RS → Option (Int32 × RS) :=
  if 0 ≤ l6 then (
    R_subscribeOne_J186 l1 l2 l3 l6
  ) else (
    rA 24 l1 fun v4 =>
    wA 24 l1 (v4 + (1 : Int32)) <|
    lq (((8 : Int32) * l1) + v4) fun x5 =>
    wA 25 x5 l5 <|
    R_subscribeOne_L134 (fun l1 l2 l3 l6 l7 => R_subscribeOne_J170 l1 l2 l3 l6 l7) fu l1 l2 l3 l4 l5 v4 x5 (0 : Int32)
  )
set_option maxRecDepth 10000 in
theorem sm_subscribeOne_J95 {g : Gm RS Int32} (B : Br g cX12_subscribeOne 9 voI (some .int) 3 71) (l1 : Int32) (l2 : Int32) (l3 : Int32) (l4 : Int32) (l5 : Int32) (l6 : Int32) : Sm g 9 95 [(0, .ref g.1.2.2.2.2.2), (1, .int l1), (2, .int l2), (3, .int l3), (4, .int l4), (5, .int l5), (6, .int l6)] [] (R_subscribeOne_J95 l1 l2 l3 l4 l5 l6) := by
  unfold R_subscribeOne_J95
  refine s_iload B.1 6 dX12_subscribeOne_95 rfl ?_
  refine s_if_ge B.1 186 dX12_subscribeOne_97 (by decide) ?_ ?_
  · exact Sm.lvs [0, 1, 2, 3, 6] rfl (sm_subscribeOne_J186 B l1 l2 l3 l6)
  · refine s_aload_n B.1 0 dX12_subscribeOne_100 rfl rfl ?_
    refine rr_getA B 24 mh_24 mn_24 mf_24 dX12_subscribeOne_101 ?_
    refine s_iload_n B.1 1 dX12_subscribeOne_104 rfl rfl ?_
    refine s_dup2 B.1 dX12_subscribeOne_105 rfl rfl ?_
    refine rr_iald B 24 mh_24 mk_24 dX12_subscribeOne_106 (fun v4 => ?_)
    refine s_dup_x2 B.1 dX12_subscribeOne_107 rfl rfl rfl ?_
    refine s_iconst (v := 1) B.1 dX12_subscribeOne_108 (by decide) ?_
    refine s_iadd B.1 dX12_subscribeOne_109 ?_
    refine rr_iast B 24 mh_24 mk_24 dX12_subscribeOne_110 ?_
    refine s_istore (lv' := [(6, .int v4), (0, .ref g.1.2.2.2.2.2), (1, .int l1), (2, .int l2), (3, .int l3), (4, .int l4), (5, .int l5)]) B.1 dX12_subscribeOne_111 (by decide) rfl ?_
    refine s_bipush (v := (8)) B.1 dX12_subscribeOne_113 (by decide) ?_
    refine s_iload_n B.1 2 dX12_subscribeOne_115 rfl rfl ?_
    refine s_imul B.1 dX12_subscribeOne_116 ?_
    refine s_iload B.1 0 dX12_subscribeOne_117 rfl ?_
    refine s_iadd B.1 dX12_subscribeOne_119 ?_
    refine s_lqi (fun x5 => ?_)
    refine s_istore (lv' := [(7, .int x5), (6, .int v4), (0, .ref g.1.2.2.2.2.2), (1, .int l1), (2, .int l2), (3, .int l3), (4, .int l4), (5, .int l5)]) B.1 dX12_subscribeOne_120 (by decide) rfl ?_
    refine s_aload_n B.1 2 dX12_subscribeOne_122 rfl rfl ?_
    refine rr_getA B 25 mh_25 mn_25 mf_25 dX12_subscribeOne_123 ?_
    refine s_iload B.1 0 dX12_subscribeOne_126 rfl ?_
    refine s_iload B.1 7 dX12_subscribeOne_128 rfl ?_
    refine rr_iast B 25 mh_25 mk_25 dX12_subscribeOne_130 ?_
    refine s_iconst (v := 0) B.1 dX12_subscribeOne_131 (by decide) ?_
    refine s_istore (lv' := [(8, .int (0 : Int32)), (7, .int x5), (6, .int v4), (0, .ref g.1.2.2.2.2.2), (1, .int l1), (2, .int l2), (3, .int l3), (4, .int l4), (5, .int l5)]) B.1 dX12_subscribeOne_132 (by decide) rfl ?_
    exact Sm.lvs [3, 4, 5, 6, 7, 8, 2, 1, 0] rfl (sm_subscribeOne_L134 B (fun l1 l2 l3 l6 l7 => sm_subscribeOne_J170 B l1 l2 l3 l6 l7) fu l1 l2 l3 l4 l5 v4 x5 (0 : Int32))
def R_subscribeOne_J74 (l1 : Int32) (l2 : Int32) (l3 : Int32) (l4 : Int32) (l5 : Int32) (l6 : Int32) (s1 : Int32) (s2 : Int32) : RS → Option (Int32 × RS) :=
  wA 96 s1 (vp_nar .boolean s2) <|
  if 0 ≤ l6 then (
    R_subscribeOne_J95 l1 l2 l3 l4 l5 l6
  ) else (
    rA 24 l1 fun v6 =>
    if v6 = (8 : Int32) then (
      rt ((151 : Int32))
    ) else (
      R_subscribeOne_J95 l1 l2 l3 l4 l5 l6
    )
  )
set_option maxRecDepth 10000 in
theorem sm_subscribeOne_J74 {g : Gm RS Int32} (B : Br g cX12_subscribeOne 9 voI (some .int) 3 71) (l1 : Int32) (l2 : Int32) (l3 : Int32) (l4 : Int32) (l5 : Int32) (l6 : Int32) (s1 : Int32) (s2 : Int32) : Sm g 9 74 [(0, .ref g.1.2.2.2.2.2), (1, .int l1), (2, .int l2), (3, .int l3), (4, .int l4), (5, .int l5), (6, .int l6)] [.int s2, .int s1, .ref (g.1.2.2.2.2.2 + mO 96)] (R_subscribeOne_J74 l1 l2 l3 l4 l5 l6 s1 s2) := by
  unfold R_subscribeOne_J74
  refine rr_zast B 96 mh_96 mk_96 dX12_subscribeOne_74 ?_
  refine s_iload B.1 6 dX12_subscribeOne_75 rfl ?_
  refine s_if_ge B.1 95 dX12_subscribeOne_77 (by decide) ?_ ?_
  · exact Sm.lvs [0, 1, 2, 3, 4, 5, 6] rfl (sm_subscribeOne_J95 B l1 l2 l3 l4 l5 l6)
  · refine s_aload_n B.1 0 dX12_subscribeOne_80 rfl rfl ?_
    refine rr_getA B 24 mh_24 mn_24 mf_24 dX12_subscribeOne_81 ?_
    refine s_iload_n B.1 1 dX12_subscribeOne_84 rfl rfl ?_
    refine rr_iald B 24 mh_24 mk_24 dX12_subscribeOne_85 (fun v6 => ?_)
    refine s_bipush (v := (8)) B.1 dX12_subscribeOne_86 (by decide) ?_
    refine s_icmp_ne B.1 95 dX12_subscribeOne_88 (by decide) ?_ ?_
    · exact Sm.lvs [0, 1, 2, 3, 4, 5, 6] rfl (sm_subscribeOne_J95 B l1 l2 l3 l4 l5 l6)
    · refine s_sipush (v := (151)) B.1 dX12_subscribeOne_91 (by decide) ?_
      exact s_iret B.1 B.2.1 dX12_subscribeOne_94
def R_subscribeOne_J48 (l1 : Int32) (l2 : Int32) (l3 : Int32) (l4 : Int32) (l5 : Int32) : RS → Option (Int32 × RS) :=
  bd (R_subscriptionOf l1 l4 l5) fun r7 =>
  if 0 ≤ r7 then (
    R_subscribeOne_J74 l1 l2 l3 l4 l5 r7 l2 (0 : Int32)
  ) else (
    R_subscribeOne_J74 l1 l2 l3 l4 l5 r7 l2 (1 : Int32)
  )
set_option maxRecDepth 10000 in
theorem sm_subscribeOne_J48 {g : Gm RS Int32} (B : Br g cX12_subscribeOne 9 voI (some .int) 3 71) (l1 : Int32) (l2 : Int32) (l3 : Int32) (l4 : Int32) (l5 : Int32) : Sm g 9 48 [(0, .ref g.1.2.2.2.2.2), (1, .int l1), (2, .int l2), (3, .int l3), (4, .int l4), (5, .int l5)] [] (R_subscribeOne_J48 l1 l2 l3 l4 l5) := by
  unfold R_subscribeOne_J48
  refine s_aload_n B.1 0 dX12_subscribeOne_48 rfl rfl ?_
  refine s_iload_n B.1 1 dX12_subscribeOne_49 rfl rfl ?_
  refine s_iload B.1 4 dX12_subscribeOne_50 rfl ?_
  refine s_iload B.1 5 dX12_subscribeOne_52 rfl ?_
  refine rr_cvi (As := [.int l1, .int l4, .int l5]) (st := []) B (m_subscriptionOf B.ok l1 l4 l5) mc_subscriptionOf ml_subscriptionOf mi_subscriptionOf me_subscriptionOf ini12 md_subscriptionOf (by decide) rfl (Nat.le_of_ble_eq_true rfl) dX12_subscribeOne_54 (fun r7 => ?_)
  refine s_istore (lv' := [(6, .int r7), (0, .ref g.1.2.2.2.2.2), (1, .int l1), (2, .int l2), (3, .int l3), (4, .int l4), (5, .int l5)]) B.1 dX12_subscribeOne_57 (by decide) rfl ?_
  refine s_aload_n B.1 1 dX12_subscribeOne_59 rfl rfl ?_
  refine rr_getA B 96 mh_96 mn_96 mf_96 dX12_subscribeOne_60 ?_
  refine s_iload_n B.1 3 dX12_subscribeOne_63 rfl rfl ?_
  refine s_iload B.1 0 dX12_subscribeOne_64 rfl ?_
  refine s_if_ge B.1 73 dX12_subscribeOne_66 (by decide) ?_ ?_
  · refine s_iconst (v := 0) B.1 dX12_subscribeOne_73 (by decide) ?_
    exact Sm.lvs [1, 2, 3, 4, 5, 6, 0] rfl (sm_subscribeOne_J74 B l1 l2 l3 l4 l5 r7 l2 (0 : Int32))
  · refine s_iconst (v := 1) B.1 dX12_subscribeOne_69 (by decide) ?_
    refine s_goto B.1 74 dX12_subscribeOne_70 (by decide) ?_
    exact Sm.lvs [1, 2, 3, 4, 5, 6, 0] rfl (sm_subscribeOne_J74 B l1 l2 l3 l4 l5 r7 l2 (1 : Int32))
def R_subscribeOne (l1 : Int32) (l2 : Int32) (l3 : Int32) : RS → Option (Int32 × RS) :=
  rA 93 l2 fun v8 =>
  rA 94 l2 fun v9 =>
  bd (R_isFilter 6 v8 v9) fun r10 =>
  if r10 = 0 then (
    bd (R_shareAt 6 v8 v9) fun r11 =>
    if r11 = 0 then (
      rt ((143 : Int32))
    ) else (
      R_subscribeOne_J48 l1 l2 l3 v8 v9
    )
  ) else (
    R_subscribeOne_J48 l1 l2 l3 v8 v9
  )
set_option maxRecDepth 10000 in
theorem m_subscribeOne {w : Wd} (hw : Wok w) (l1 : Int32) (l2 : Int32) (l3 : Int32) : MR w yX12_subscribeOne cX12_subscribeOne 9 (some .int) 3 71 voI [.ref w.2.2.2.2.2, .int l1, .int l2, .int l3] (R_subscribeOne l1 l2 l3) := by
  refine MR.of hw rfl (Nat.le_of_ble_eq_true rfl) (fun g hg B => ?_)
  subst hg
  unfold R_subscribeOne
  show Sm g 9 0 [(0, .ref g.1.2.2.2.2.2), (1, .int l1), (2, .int l2), (3, .int l3)] [] _
  refine s_aload_n B.1 0 dX12_subscribeOne_0 rfl rfl ?_
  refine rr_getA B 93 mh_93 mn_93 mf_93 dX12_subscribeOne_1 ?_
  refine s_iload_n B.1 2 dX12_subscribeOne_4 rfl rfl ?_
  refine rr_iald B 93 mh_93 mk_93 dX12_subscribeOne_5 (fun v8 => ?_)
  refine s_istore (lv' := [(4, .int v8), (0, .ref g.1.2.2.2.2.2), (1, .int l1), (2, .int l2), (3, .int l3)]) B.1 dX12_subscribeOne_6 (by decide) rfl ?_
  refine s_aload_n B.1 1 dX12_subscribeOne_8 rfl rfl ?_
  refine rr_getA B 94 mh_94 mn_94 mf_94 dX12_subscribeOne_9 ?_
  refine s_iload_n B.1 3 dX12_subscribeOne_12 rfl rfl ?_
  refine rr_iald B 94 mh_94 mk_94 dX12_subscribeOne_13 (fun v9 => ?_)
  refine s_istore (lv' := [(5, .int v9), (4, .int v8), (0, .ref g.1.2.2.2.2.2), (1, .int l1), (2, .int l2), (3, .int l3)]) B.1 dX12_subscribeOne_14 (by decide) rfl ?_
  refine s_aload_n B.1 2 dX12_subscribeOne_16 rfl rfl ?_
  refine rr_getA B 6 mh_6 mn_6 mf_6 dX12_subscribeOne_17 ?_
  refine s_iload B.1 1 dX12_subscribeOne_20 rfl ?_
  refine s_iload B.1 0 dX12_subscribeOne_22 rfl ?_
  refine rr_csi (As := [.ref (g.1.2.2.2.2.2 + mO 6), .int v8, .int v9]) (st := []) B (m_isFilter B.ok 6 v8 v9 mh_6 mk_6) mc_isFilter ml_isFilter ms_isFilter ini12 md_isFilter (by decide) rfl (Nat.le_of_ble_eq_true rfl) dX12_subscribeOne_24 (fun r10 => ?_)
  refine s_if_ne B.1 48 dX12_subscribeOne_27 (by decide) ?_ ?_
  · exact Sm.lvs [2, 3, 4, 5, 1, 0] rfl (sm_subscribeOne_J48 B l1 l2 l3 v8 v9)
  · refine s_aload_n B.1 2 dX12_subscribeOne_30 rfl rfl ?_
    refine rr_getA B 6 mh_6 mn_6 mf_6 dX12_subscribeOne_31 ?_
    refine s_iload B.1 1 dX12_subscribeOne_34 rfl ?_
    refine s_iload B.1 0 dX12_subscribeOne_36 rfl ?_
    refine rr_csi (As := [.ref (g.1.2.2.2.2.2 + mO 6), .int v8, .int v9]) (st := []) B (m_shareAt B.ok 6 v8 v9 mh_6 mk_6) mc_shareAt ml_shareAt ms_shareAt ini12 md_shareAt (by decide) rfl (Nat.le_of_ble_eq_true rfl) dX12_subscribeOne_38 (fun r11 => ?_)
    refine s_if_ne B.1 48 dX12_subscribeOne_41 (by decide) ?_ ?_
    · exact Sm.lvs [2, 3, 4, 5, 1, 0] rfl (sm_subscribeOne_J48 B l1 l2 l3 v8 v9)
    · refine s_sipush (v := (143)) B.1 dX12_subscribeOne_44 (by decide) ?_
      exact s_iret B.1 B.2.1 dX12_subscribeOne_47
