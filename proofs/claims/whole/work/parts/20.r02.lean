def R_takes (l1 : Int32) (l2 : Int32) : RS → Option (Int32 × RS) :=
  rA 25 l1 fun v1 =>
  bd (R_shareAt 26 ((64 : Int32) * l1) v1) fun r2 =>
  rA 25 l1 fun v3 =>
  bd (R_matches (((64 : Int32) * l1) + r2) (v3 - r2) l2) fun r4 =>
  zt (r4)
set_option maxRecDepth 10000 in
theorem m_takes {w : Wd} (hw : Wok w) (l1 : Int32) (l2 : Int32) : MR w yX12_takes cX12_takes 4 (some .boolean) 3 71 voI [.ref w.2.2.2.2.2, .int l1, .int l2] (R_takes l1 l2) := by
  refine MR.of hw rfl (Nat.le_of_ble_eq_true rfl) (fun g hg B => ?_)
  subst hg
  unfold R_takes
  show Sm g 4 0 [(0, .ref g.1.2.2.2.2.2), (1, .int l1), (2, .int l2)] [] _
  refine s_aload_n B.1 0 dX12_takes_0 rfl rfl ?_
  refine rr_getA B 26 mh_26 mn_26 mf_26 dX12_takes_1 ?_
  refine s_bipush (v := (64)) B.1 dX12_takes_4 (by decide) ?_
  refine s_iload_n B.1 1 dX12_takes_6 rfl rfl ?_
  refine s_imul B.1 dX12_takes_7 ?_
  refine s_aload_n B.1 0 dX12_takes_8 rfl rfl ?_
  refine rr_getA B 25 mh_25 mn_25 mf_25 dX12_takes_9 ?_
  refine s_iload_n B.1 1 dX12_takes_12 rfl rfl ?_
  refine rr_iald B 25 mh_25 mk_25 dX12_takes_13 (fun v1 => ?_)
  refine rr_csi (As := [.ref (g.1.2.2.2.2.2 + mO 26), .int ((64 : Int32) * l1), .int v1]) (st := []) B (m_shareAt B.ok 26 ((64 : Int32) * l1) v1 mh_26 mk_26) mc_shareAt ml_shareAt ms_shareAt ini12 md_shareAt (by decide) rfl (Nat.le_of_ble_eq_true rfl) dX12_takes_14 (fun r2 => ?_)
  refine s_istore_n (lv' := [(3, .int r2), (0, .ref g.1.2.2.2.2.2), (1, .int l1), (2, .int l2)]) B.1 dX12_takes_17 rfl (by decide) rfl ?_
  refine s_aload_n B.1 1 dX12_takes_18 rfl rfl ?_
  refine s_bipush (v := (64)) B.1 dX12_takes_19 (by decide) ?_
  refine s_iload_n B.1 2 dX12_takes_21 rfl rfl ?_
  refine s_imul B.1 dX12_takes_22 ?_
  refine s_iload_n B.1 0 dX12_takes_23 rfl rfl ?_
  refine s_iadd B.1 dX12_takes_24 ?_
  refine s_aload_n B.1 1 dX12_takes_25 rfl rfl ?_
  refine rr_getA B 25 mh_25 mn_25 mf_25 dX12_takes_26 ?_
  refine s_iload_n B.1 2 dX12_takes_29 rfl rfl ?_
  refine rr_iald B 25 mh_25 mk_25 dX12_takes_30 (fun v3 => ?_)
  refine s_iload_n B.1 0 dX12_takes_31 rfl rfl ?_
  refine s_isub B.1 dX12_takes_32 ?_
  refine s_iload_n B.1 3 dX12_takes_33 rfl rfl ?_
  refine rr_cvi (As := [.int (((64 : Int32) * l1) + r2), .int (v3 - r2), .int l2]) (st := []) B (m_matches B.ok (((64 : Int32) * l1) + r2) (v3 - r2) l2) mc_matches ml_matches mi_matches me_matches ini12 md_matches (by decide) rfl (Nat.le_of_ble_eq_true rfl) dX12_takes_34 (fun r4 => ?_)
  exact s_zret B.1 B.2.1 dX12_takes_37
def R_distribute_J198 (l2 : Int32) : RS → Option (Int32 × RS) :=
  zt (l2)
set_option maxRecDepth 10000 in
theorem sm_distribute_J198 {g : Gm RS Int32} (B : Br g cX12_distribute 8 voI (some .boolean) 5 130) (l2 : Int32) : Sm g 8 198 [(2, .int l2)] [] (R_distribute_J198 l2) := by
  unfold R_distribute_J198
  refine s_iload_n B.1 0 dX12_distribute_198 rfl rfl ?_
  exact s_zret B.1 B.2.1 dX12_distribute_199
def R_distribute_J192 (kb : Int32 → Int32 → Int32 → RS → Option (Int32 × RS)) (ke198 : Int32 → RS → Option (Int32 × RS)) (l1 : Int32) (l2 : Int32) (l3 : Int32) : RS → Option (Int32 × RS) :=
  kb l1 l2 (l3 + 1)
set_option maxRecDepth 10000 in
theorem sm_distribute_J192 {g : Gm RS Int32} {kb : Int32 → Int32 → Int32 → RS → Option (Int32 × RS)} {ke198 : Int32 → RS → Option (Int32 × RS)} (B : Br g cX12_distribute 8 voI (some .boolean) 5 130) (hkb : ∀ (l1 : Int32) (l2 : Int32) (l3 : Int32), Sm g 8 14 [(0, .ref g.1.2.2.2.2.2), (1, .int l1), (2, .int l2), (3, .int l3)] [] (kb l1 l2 l3)) (hke198 : ∀ (l2 : Int32), Sm g 8 198 [(2, .int l2)] [] (ke198 l2)) (l1 : Int32) (l2 : Int32) (l3 : Int32) : Sm g 8 192 [(0, .ref g.1.2.2.2.2.2), (1, .int l1), (2, .int l2), (3, .int l3)] [] (R_distribute_J192 kb ke198 l1 l2 l3) := by
  unfold R_distribute_J192
  refine s_iinc (v := l3 + 1) (lv' := [(3, .int (l3 + 1)), (0, .ref g.1.2.2.2.2.2), (1, .int l1), (2, .int l2)]) B.1 3 dX12_distribute_192 rfl rfl (by decide) rfl ?_
  refine s_goto B.1 14 dX12_distribute_195 (by decide) ?_
  exact Sm.lvs [1, 2, 3, 0] rfl (hkb l1 l2 (l3 + 1))
def R_distribute_J170 (kb : Int32 → Int32 → Int32 → Int32 → RS → Option (Int32 × RS)) (ke192 : Int32 → Int32 → Int32 → RS → Option (Int32 × RS)) (l1 : Int32) (l3 : Int32) (l4 : Int32) (l7 : Int32) (s1 : Int32) (s2 : Int32) (s3 : Int32) : RS → Option (Int32 × RS) :=
  bd (R_deliver s1 s2 s3) fun r1 =>
  rI 69 fun v2 =>
  wA 30 l7 v2 <|
  kb l1 (1 : Int32) l3 (l4 + 1)
set_option maxRecDepth 10000 in
theorem sm_distribute_J170 {g : Gm RS Int32} {kb : Int32 → Int32 → Int32 → Int32 → RS → Option (Int32 × RS)} {ke192 : Int32 → Int32 → Int32 → RS → Option (Int32 × RS)} (B : Br g cX12_distribute 8 voI (some .boolean) 5 130) (hkb : ∀ (l1 : Int32) (l2 : Int32) (l3 : Int32) (l4 : Int32), Sm g 8 23 [(0, .ref g.1.2.2.2.2.2), (1, .int l1), (2, .int l2), (3, .int l3), (4, .int l4)] [] (kb l1 l2 l3 l4)) (hke192 : ∀ (l1 : Int32) (l2 : Int32) (l3 : Int32), Sm g 8 192 [(0, .ref g.1.2.2.2.2.2), (1, .int l1), (2, .int l2), (3, .int l3)] [] (ke192 l1 l2 l3)) (l1 : Int32) (l3 : Int32) (l4 : Int32) (l7 : Int32) (s1 : Int32) (s2 : Int32) (s3 : Int32) : Sm g 8 170 [(0, .ref g.1.2.2.2.2.2), (1, .int l1), (3, .int l3), (4, .int l4), (7, .int l7)] [.int s3, .int s2, .int s1, .ref g.1.2.2.2.2.2] (R_distribute_J170 kb ke192 l1 l3 l4 l7 s1 s2 s3) := by
  unfold R_distribute_J170
  refine rr_cvv (As := [.int s1, .int s2, .int s3]) (st := []) B (m_deliver B.ok s1 s2 s3) mc_deliver ml_deliver mi_deliver me_deliver ini12 md_deliver (by decide) rfl (Nat.le_of_ble_eq_true rfl) dX12_distribute_170 (fun r1 => ?_)
  refine s_aload_n B.1 0 dX12_distribute_173 rfl rfl ?_
  refine rr_getA B 30 mh_30 mn_30 mf_30 dX12_distribute_174 ?_
  refine s_iload B.1 4 dX12_distribute_177 rfl ?_
  refine s_aload_n B.1 0 dX12_distribute_179 rfl rfl ?_
  refine rr_getI B 69 mh_69 mk_69 mf_69 dX12_distribute_180 (fun v2 => ?_)
  refine rr_iast B 30 mh_30 mk_30 dX12_distribute_183 ?_
  refine s_iconst (v := 1) B.1 dX12_distribute_184 (by decide) ?_
  refine s_istore_n (lv' := [(2, .int (1 : Int32)), (0, .ref g.1.2.2.2.2.2), (1, .int l1), (3, .int l3), (4, .int l4), (7, .int l7)]) B.1 dX12_distribute_185 rfl (by decide) rfl ?_
  refine s_iinc (v := l4 + 1) (lv' := [(4, .int (l4 + 1)), (2, .int (1 : Int32)), (0, .ref g.1.2.2.2.2.2), (1, .int l1), (3, .int l3), (7, .int l7)]) B.1 4 dX12_distribute_186 rfl rfl (by decide) rfl ?_
  refine s_goto B.1 23 dX12_distribute_189 (by decide) ?_
  exact Sm.lvs [2, 3, 1, 4, 0] rfl (hkb l1 (1 : Int32) l3 (l4 + 1))
def R_distribute_J141 (kb : Int32 → Int32 → Int32 → Int32 → RS → Option (Int32 × RS)) (ke192 : Int32 → Int32 → Int32 → RS → Option (Int32 × RS)) (l1 : Int32) (l3 : Int32) (l4 : Int32) (s0 : Int32) : RS → Option (Int32 × RS) :=
  rA 27 s0 fun v3 =>
  if (v3 &&& (8 : Int32)) = 0 then (
    R_distribute_J170 kb ke192 l1 l3 l4 s0 s0 l1 (0 : Int32)
  ) else (
    rA 61 l1 fun v4 =>
    R_distribute_J170 kb ke192 l1 l3 l4 s0 s0 l1 v4
  )
set_option maxRecDepth 10000 in
theorem sm_distribute_J141 {g : Gm RS Int32} {kb : Int32 → Int32 → Int32 → Int32 → RS → Option (Int32 × RS)} {ke192 : Int32 → Int32 → Int32 → RS → Option (Int32 × RS)} (B : Br g cX12_distribute 8 voI (some .boolean) 5 130) (hkb : ∀ (l1 : Int32) (l2 : Int32) (l3 : Int32) (l4 : Int32), Sm g 8 23 [(0, .ref g.1.2.2.2.2.2), (1, .int l1), (2, .int l2), (3, .int l3), (4, .int l4)] [] (kb l1 l2 l3 l4)) (hke192 : ∀ (l1 : Int32) (l2 : Int32) (l3 : Int32), Sm g 8 192 [(0, .ref g.1.2.2.2.2.2), (1, .int l1), (2, .int l2), (3, .int l3)] [] (ke192 l1 l2 l3)) (l1 : Int32) (l3 : Int32) (l4 : Int32) (s0 : Int32) : Sm g 8 141 [(0, .ref g.1.2.2.2.2.2), (1, .int l1), (3, .int l3), (4, .int l4)] [.int s0] (R_distribute_J141 kb ke192 l1 l3 l4 s0) := by
  unfold R_distribute_J141
  refine s_istore (lv' := [(7, .int s0), (0, .ref g.1.2.2.2.2.2), (1, .int l1), (3, .int l3), (4, .int l4)]) B.1 dX12_distribute_141 (by decide) rfl ?_
  refine s_aload_n B.1 1 dX12_distribute_143 rfl rfl ?_
  refine s_iload B.1 0 dX12_distribute_144 rfl ?_
  refine s_iload_n B.1 2 dX12_distribute_146 rfl rfl ?_
  refine s_aload_n B.1 1 dX12_distribute_147 rfl rfl ?_
  refine rr_getA B 27 mh_27 mn_27 mf_27 dX12_distribute_148 ?_
  refine s_iload B.1 0 dX12_distribute_151 rfl ?_
  refine rr_iald B 27 mh_27 mk_27 dX12_distribute_153 (fun v3 => ?_)
  refine s_bipush (v := (8)) B.1 dX12_distribute_154 (by decide) ?_
  refine s_iand B.1 dX12_distribute_156 ?_
  refine s_if_eq B.1 169 dX12_distribute_157 (by decide) ?_ ?_
  · refine s_iconst (v := 0) B.1 dX12_distribute_169 (by decide) ?_
    exact Sm.lvs [1, 2, 3, 4, 0] rfl (sm_distribute_J170 B hkb hke192 l1 l3 l4 s0 s0 l1 (0 : Int32))
  · refine s_aload_n B.1 1 dX12_distribute_160 rfl rfl ?_
    refine rr_getA B 61 mh_61 mn_61 mf_61 dX12_distribute_161 ?_
    refine s_iload_n B.1 2 dX12_distribute_164 rfl rfl ?_
    refine rr_iald B 61 mh_61 mk_61 dX12_distribute_165 (fun v4 => ?_)
    refine s_goto B.1 170 dX12_distribute_166 (by decide) ?_
    exact Sm.lvs [1, 2, 3, 4, 0] rfl (sm_distribute_J170 B hkb hke192 l1 l3 l4 s0 s0 l1 v4)
def R_distribute_J125 (kb : Int32 → Int32 → Int32 → Int32 → RS → Option (Int32 × RS)) (ke192 : Int32 → Int32 → Int32 → RS → Option (Int32 × RS)) (l1 : Int32) (l3 : Int32) (l4 : Int32) (l5 : Int32) (l6 : Int32) : RS → Option (Int32 × RS) :=
  if l6 = 0 then (
    R_distribute_J141 kb ke192 l1 l3 l4 l5
  ) else (
    bd (R_chosen l5) fun r5 =>
    R_distribute_J141 kb ke192 l1 l3 l4 r5
  )
set_option maxRecDepth 10000 in
theorem sm_distribute_J125 {g : Gm RS Int32} {kb : Int32 → Int32 → Int32 → Int32 → RS → Option (Int32 × RS)} {ke192 : Int32 → Int32 → Int32 → RS → Option (Int32 × RS)} (B : Br g cX12_distribute 8 voI (some .boolean) 5 130) (hkb : ∀ (l1 : Int32) (l2 : Int32) (l3 : Int32) (l4 : Int32), Sm g 8 23 [(0, .ref g.1.2.2.2.2.2), (1, .int l1), (2, .int l2), (3, .int l3), (4, .int l4)] [] (kb l1 l2 l3 l4)) (hke192 : ∀ (l1 : Int32) (l2 : Int32) (l3 : Int32), Sm g 8 192 [(0, .ref g.1.2.2.2.2.2), (1, .int l1), (2, .int l2), (3, .int l3)] [] (ke192 l1 l2 l3)) (l1 : Int32) (l3 : Int32) (l4 : Int32) (l5 : Int32) (l6 : Int32) : Sm g 8 125 [(0, .ref g.1.2.2.2.2.2), (1, .int l1), (3, .int l3), (4, .int l4), (5, .int l5), (6, .int l6)] [] (R_distribute_J125 kb ke192 l1 l3 l4 l5 l6) := by
  unfold R_distribute_J125
  refine s_iload B.1 5 dX12_distribute_125 rfl ?_
  refine s_if_eq B.1 139 dX12_distribute_127 (by decide) ?_ ?_
  · refine s_iload B.1 4 dX12_distribute_139 rfl ?_
    exact Sm.lvs [0, 1, 2, 3] rfl (sm_distribute_J141 B hkb hke192 l1 l3 l4 l5)
  · refine s_aload_n B.1 0 dX12_distribute_130 rfl rfl ?_
    refine s_iload B.1 4 dX12_distribute_131 rfl ?_
    refine rr_cvi (As := [.int l5]) (st := []) B (m_chosen B.ok l5) mc_chosen ml_chosen mi_chosen me_chosen ini12 md_chosen (by decide) rfl (Nat.le_of_ble_eq_true rfl) dX12_distribute_133 (fun r5 => ?_)
    refine s_goto B.1 141 dX12_distribute_136 (by decide) ?_
    exact Sm.lvs [0, 1, 2, 3] rfl (sm_distribute_J141 B hkb hke192 l1 l3 l4 r5)
def R_distribute_J108 (kb : Int32 → Int32 → Int32 → Int32 → RS → Option (Int32 × RS)) (ke192 : Int32 → Int32 → Int32 → RS → Option (Int32 × RS)) (l1 : Int32) (l2 : Int32) (l3 : Int32) (l4 : Int32) (l5 : Int32) (l6 : Int32) : RS → Option (Int32 × RS) :=
  if l6 = 0 then (
    R_distribute_J125 kb ke192 l1 l3 l4 l5 l6
  ) else (
    bd (R_isFirst l5) fun r6 =>
    if r6 = 0 then (
      kb l1 l2 l3 (l4 + 1)
    ) else (
      R_distribute_J125 kb ke192 l1 l3 l4 l5 l6
    )
  )
set_option maxRecDepth 10000 in
theorem sm_distribute_J108 {g : Gm RS Int32} {kb : Int32 → Int32 → Int32 → Int32 → RS → Option (Int32 × RS)} {ke192 : Int32 → Int32 → Int32 → RS → Option (Int32 × RS)} (B : Br g cX12_distribute 8 voI (some .boolean) 5 130) (hkb : ∀ (l1 : Int32) (l2 : Int32) (l3 : Int32) (l4 : Int32), Sm g 8 23 [(0, .ref g.1.2.2.2.2.2), (1, .int l1), (2, .int l2), (3, .int l3), (4, .int l4)] [] (kb l1 l2 l3 l4)) (hke192 : ∀ (l1 : Int32) (l2 : Int32) (l3 : Int32), Sm g 8 192 [(0, .ref g.1.2.2.2.2.2), (1, .int l1), (2, .int l2), (3, .int l3)] [] (ke192 l1 l2 l3)) (l1 : Int32) (l2 : Int32) (l3 : Int32) (l4 : Int32) (l5 : Int32) (l6 : Int32) : Sm g 8 108 [(0, .ref g.1.2.2.2.2.2), (1, .int l1), (2, .int l2), (3, .int l3), (4, .int l4), (5, .int l5), (6, .int l6)] [] (R_distribute_J108 kb ke192 l1 l2 l3 l4 l5 l6) := by
  unfold R_distribute_J108
  refine s_iload B.1 6 dX12_distribute_108 rfl ?_
  refine s_if_eq B.1 125 dX12_distribute_110 (by decide) ?_ ?_
  · exact Sm.lvs [0, 1, 3, 4, 5, 6] rfl (sm_distribute_J125 B hkb hke192 l1 l3 l4 l5 l6)
  · refine s_aload_n B.1 0 dX12_distribute_113 rfl rfl ?_
    refine s_iload B.1 5 dX12_distribute_114 rfl ?_
    refine rr_cvi (As := [.int l5]) (st := []) B (m_isFirst B.ok l5) mc_isFirst ml_isFirst mi_isFirst me_isFirst ini12 md_isFirst (by decide) rfl (Nat.le_of_ble_eq_true rfl) dX12_distribute_116 (fun r6 => ?_)
    refine s_if_ne B.1 125 dX12_distribute_119 (by decide) ?_ ?_
    · exact Sm.lvs [0, 1, 3, 4, 5, 6] rfl (sm_distribute_J125 B hkb hke192 l1 l3 l4 l5 l6)
    · refine s_goto B.1 186 dX12_distribute_122 (by decide) ?_
      refine s_iinc (v := l4 + 1) (lv' := [(4, .int (l4 + 1)), (0, .ref g.1.2.2.2.2.2), (1, .int l1), (2, .int l2), (3, .int l3), (5, .int l5), (6, .int l6)]) B.1 4 dX12_distribute_186 rfl rfl (by decide) rfl ?_
      refine s_goto B.1 23 dX12_distribute_189 (by decide) ?_
      exact Sm.lvs [1, 2, 3, 4, 0] rfl (hkb l1 l2 l3 (l4 + 1))
def R_distribute_B23 (kb : Int32 → Int32 → Int32 → Int32 → RS → Option (Int32 × RS)) (ke192 : Int32 → Int32 → Int32 → RS → Option (Int32 × RS)) (l1 : Int32) (l2 : Int32) (l3 : Int32) (l4 : Int32) : RS → Option (Int32 × RS) :=
  rA 11 l3 fun v7 =>
  if v7 = 0 then (
    ke192 l1 l2 l3
  ) else (
    rA 24 l3 fun v8 =>
    if v8 ≤ l4 then (
      ke192 l1 l2 l3
    ) else (
      lq (((8 : Int32) * l3) + l4) fun x9 =>
      bd (R_takes x9 l1) fun r10 =>
      if r10 = 0 then (
        kb l1 l2 l3 (l4 + 1)
      ) else (
        bd (R_isShared x9) fun r11 =>
        if r11 = 0 then (
          rA 27 x9 fun v12 =>
          if (v12 &&& (4 : Int32)) = 0 then (
            R_distribute_J108 kb ke192 l1 l2 l3 l4 x9 r11
          ) else (
            rA 12 l3 fun v13 =>
            rA 62 l1 fun v14 =>
            if v13 = v14 then (
              kb l1 l2 l3 (l4 + 1)
            ) else (
              R_distribute_J108 kb ke192 l1 l2 l3 l4 x9 r11
            )
          )
        ) else (
          R_distribute_J108 kb ke192 l1 l2 l3 l4 x9 r11
        )
      )
    )
  )
def R_distribute_L23 (ke192 : Int32 → Int32 → Int32 → RS → Option (Int32 × RS)) : Nat → Int32 → Int32 → Int32 → Int32 → RS → Option (Int32 × RS)
  | 0, _, _, _, _ => no
  | n + 1, l1, l2, l3, l4 => R_distribute_B23 (fun l1 l2 l3 l4 => R_distribute_L23 ke192 n l1 l2 l3 l4) ke192 l1 l2 l3 l4
set_option maxRecDepth 10000 in
theorem sm_distribute_B23 {g : Gm RS Int32} {kb : Int32 → Int32 → Int32 → Int32 → RS → Option (Int32 × RS)} {ke192 : Int32 → Int32 → Int32 → RS → Option (Int32 × RS)} (B : Br g cX12_distribute 8 voI (some .boolean) 5 130) (hkb : ∀ (l1 : Int32) (l2 : Int32) (l3 : Int32) (l4 : Int32), Sm g 8 23 [(0, .ref g.1.2.2.2.2.2), (1, .int l1), (2, .int l2), (3, .int l3), (4, .int l4)] [] (kb l1 l2 l3 l4)) (hke192 : ∀ (l1 : Int32) (l2 : Int32) (l3 : Int32), Sm g 8 192 [(0, .ref g.1.2.2.2.2.2), (1, .int l1), (2, .int l2), (3, .int l3)] [] (ke192 l1 l2 l3)) (l1 : Int32) (l2 : Int32) (l3 : Int32) (l4 : Int32) : Sm g 8 23 [(0, .ref g.1.2.2.2.2.2), (1, .int l1), (2, .int l2), (3, .int l3), (4, .int l4)] [] (R_distribute_B23 kb ke192 l1 l2 l3 l4) := by
  unfold R_distribute_B23
  refine s_aload_n B.1 0 dX12_distribute_23 rfl rfl ?_
  refine rr_getA B 11 mh_11 mn_11 mf_11 dX12_distribute_24 ?_
  refine s_iload_n B.1 3 dX12_distribute_27 rfl rfl ?_
  refine rr_zald B 11 mh_11 mk_11 dX12_distribute_28 (fun v7 => ?_)
  refine s_if_eq B.1 192 dX12_distribute_29 (by decide) ?_ ?_
  · exact Sm.lvs [0, 1, 2, 3] rfl (hke192 l1 l2 l3)
  · refine s_iload B.1 4 dX12_distribute_32 rfl ?_
    refine s_aload_n B.1 0 dX12_distribute_34 rfl rfl ?_
    refine rr_getA B 24 mh_24 mn_24 mf_24 dX12_distribute_35 ?_
    refine s_iload_n B.1 3 dX12_distribute_38 rfl rfl ?_
    refine rr_iald B 24 mh_24 mk_24 dX12_distribute_39 (fun v8 => ?_)
    refine s_icmp_ge B.1 192 dX12_distribute_40 (by decide) ?_ ?_
    · exact Sm.lvs [0, 1, 2, 3] rfl (hke192 l1 l2 l3)
    · refine s_bipush (v := (8)) B.1 dX12_distribute_43 (by decide) ?_
      refine s_iload_n B.1 3 dX12_distribute_45 rfl rfl ?_
      refine s_imul B.1 dX12_distribute_46 ?_
      refine s_iload B.1 4 dX12_distribute_47 rfl ?_
      refine s_iadd B.1 dX12_distribute_49 ?_
      refine s_lqi (fun x9 => ?_)
      refine s_istore (lv' := [(5, .int x9), (0, .ref g.1.2.2.2.2.2), (1, .int l1), (2, .int l2), (3, .int l3), (4, .int l4)]) B.1 dX12_distribute_50 (by decide) rfl ?_
      refine s_aload_n B.1 1 dX12_distribute_52 rfl rfl ?_
      refine s_iload B.1 0 dX12_distribute_53 rfl ?_
      refine s_iload_n B.1 2 dX12_distribute_55 rfl rfl ?_
      refine rr_cvi (As := [.int x9, .int l1]) (st := []) B (m_takes B.ok x9 l1) mc_takes ml_takes mi_takes me_takes ini12 md_takes (by decide) rfl (Nat.le_of_ble_eq_true rfl) dX12_distribute_56 (fun r10 => ?_)
      refine s_if_ne B.1 65 dX12_distribute_59 (by decide) ?_ ?_
      · refine s_aload_n B.1 1 dX12_distribute_65 rfl rfl ?_
        refine s_iload B.1 0 dX12_distribute_66 rfl ?_
        refine rr_cvi (As := [.int x9]) (st := []) B (m_isShared B.ok x9) mc_isShared ml_isShared mi_isShared me_isShared ini12 md_isShared (by decide) rfl (Nat.le_of_ble_eq_true rfl) dX12_distribute_68 (fun r11 => ?_)
        refine s_istore (lv' := [(6, .int r11), (5, .int x9), (0, .ref g.1.2.2.2.2.2), (1, .int l1), (2, .int l2), (3, .int l3), (4, .int l4)]) B.1 dX12_distribute_71 (by decide) rfl ?_
        refine s_iload B.1 0 dX12_distribute_73 rfl ?_
        refine s_if_ne B.1 108 dX12_distribute_75 (by decide) ?_ ?_
        · exact Sm.lvs [2, 3, 4, 5, 6, 1, 0] rfl (sm_distribute_J108 B hkb hke192 l1 l2 l3 l4 x9 r11)
        · refine s_aload_n B.1 2 dX12_distribute_78 rfl rfl ?_
          refine rr_getA B 27 mh_27 mn_27 mf_27 dX12_distribute_79 ?_
          refine s_iload B.1 1 dX12_distribute_82 rfl ?_
          refine rr_iald B 27 mh_27 mk_27 dX12_distribute_84 (fun v12 => ?_)
          refine s_iconst (v := 4) B.1 dX12_distribute_85 (by decide) ?_
          refine s_iand B.1 dX12_distribute_86 ?_
          refine s_if_eq B.1 108 dX12_distribute_87 (by decide) ?_ ?_
          · exact Sm.lvs [2, 3, 4, 5, 6, 1, 0] rfl (sm_distribute_J108 B hkb hke192 l1 l2 l3 l4 x9 r11)
          · refine s_aload_n B.1 2 dX12_distribute_90 rfl rfl ?_
            refine rr_getA B 12 mh_12 mn_12 mf_12 dX12_distribute_91 ?_
            refine s_iload_n B.1 5 dX12_distribute_94 rfl rfl ?_
            refine rr_iald B 12 mh_12 mk_12 dX12_distribute_95 (fun v13 => ?_)
            refine s_aload_n B.1 2 dX12_distribute_96 rfl rfl ?_
            refine rr_getA B 62 mh_62 mn_62 mf_62 dX12_distribute_97 ?_
            refine s_iload_n B.1 3 dX12_distribute_100 rfl rfl ?_
            refine rr_iald B 62 mh_62 mk_62 dX12_distribute_101 (fun v14 => ?_)
            refine s_icmp_ne B.1 108 dX12_distribute_102 (by decide) ?_ ?_
            · exact Sm.lvs [2, 3, 4, 5, 6, 1, 0] rfl (sm_distribute_J108 B hkb hke192 l1 l2 l3 l4 x9 r11)
            · refine s_goto B.1 186 dX12_distribute_105 (by decide) ?_
              refine s_iinc (v := l4 + 1) (lv' := [(4, .int (l4 + 1)), (6, .int r11), (5, .int x9), (0, .ref g.1.2.2.2.2.2), (1, .int l1), (2, .int l2), (3, .int l3)]) B.1 6 dX12_distribute_186 rfl rfl (by decide) rfl ?_
              refine s_goto B.1 23 dX12_distribute_189 (by decide) ?_
              exact Sm.lvs [3, 4, 5, 6, 0] rfl (hkb l1 l2 l3 (l4 + 1))
      · refine s_goto B.1 186 dX12_distribute_62 (by decide) ?_
        refine s_iinc (v := l4 + 1) (lv' := [(4, .int (l4 + 1)), (5, .int x9), (0, .ref g.1.2.2.2.2.2), (1, .int l1), (2, .int l2), (3, .int l3)]) B.1 5 dX12_distribute_186 rfl rfl (by decide) rfl ?_
        refine s_goto B.1 23 dX12_distribute_189 (by decide) ?_
        exact Sm.lvs [2, 3, 4, 5, 0] rfl (hkb l1 l2 l3 (l4 + 1))
set_option maxRecDepth 10000 in
theorem sm_distribute_L23 {g : Gm RS Int32} {ke192 : Int32 → Int32 → Int32 → RS → Option (Int32 × RS)} (B : Br g cX12_distribute 8 voI (some .boolean) 5 130) (hke192 : ∀ (l1 : Int32) (l2 : Int32) (l3 : Int32), Sm g 8 192 [(0, .ref g.1.2.2.2.2.2), (1, .int l1), (2, .int l2), (3, .int l3)] [] (ke192 l1 l2 l3)) : ∀ (n : Nat) (l1 : Int32) (l2 : Int32) (l3 : Int32) (l4 : Int32), Sm g 8 23 [(0, .ref g.1.2.2.2.2.2), (1, .int l1), (2, .int l2), (3, .int l3), (4, .int l4)] [] (R_distribute_L23 ke192 n l1 l2 l3 l4)
  | 0, _, _, _, _ => Sm.fail
  | n + 1, l1, l2, l3, l4 => sm_distribute_B23 B (sm_distribute_L23 B hke192 n) hke192 l1 l2 l3 l4
def R_distribute_B14 (kb : Int32 → Int32 → Int32 → RS → Option (Int32 × RS)) (ke198 : Int32 → RS → Option (Int32 × RS)) (l1 : Int32) (l2 : Int32) (l3 : Int32) : RS → Option (Int32 × RS) :=
  if (12 : Int32) ≤ l3 then (
    ke198 l2
  ) else (
    R_distribute_L23 (fun l1 l2 l3 => R_distribute_J192 kb ke198 l1 l2 l3) fu l1 l2 l3 (0 : Int32)
  )
def R_distribute_L14 (ke198 : Int32 → RS → Option (Int32 × RS)) : Nat → Int32 → Int32 → Int32 → RS → Option (Int32 × RS)
  | 0, _, _, _ => no
  | n + 1, l1, l2, l3 => R_distribute_B14 (fun l1 l2 l3 => R_distribute_L14 ke198 n l1 l2 l3) ke198 l1 l2 l3
set_option maxRecDepth 10000 in
theorem sm_distribute_B14 {g : Gm RS Int32} {kb : Int32 → Int32 → Int32 → RS → Option (Int32 × RS)} {ke198 : Int32 → RS → Option (Int32 × RS)} (B : Br g cX12_distribute 8 voI (some .boolean) 5 130) (hkb : ∀ (l1 : Int32) (l2 : Int32) (l3 : Int32), Sm g 8 14 [(0, .ref g.1.2.2.2.2.2), (1, .int l1), (2, .int l2), (3, .int l3)] [] (kb l1 l2 l3)) (hke198 : ∀ (l2 : Int32), Sm g 8 198 [(2, .int l2)] [] (ke198 l2)) (l1 : Int32) (l2 : Int32) (l3 : Int32) : Sm g 8 14 [(0, .ref g.1.2.2.2.2.2), (1, .int l1), (2, .int l2), (3, .int l3)] [] (R_distribute_B14 kb ke198 l1 l2 l3) := by
  unfold R_distribute_B14
  refine s_iload_n B.1 3 dX12_distribute_14 rfl rfl ?_
  refine s_bipush (v := (12)) B.1 dX12_distribute_15 (by decide) ?_
  refine s_icmp_ge B.1 198 dX12_distribute_17 (by decide) ?_ ?_
  · exact Sm.lvs [2] rfl (hke198 l2)
  · refine s_iconst (v := 0) B.1 dX12_distribute_20 (by decide) ?_
    refine s_istore (lv' := [(4, .int (0 : Int32)), (0, .ref g.1.2.2.2.2.2), (1, .int l1), (2, .int l2), (3, .int l3)]) B.1 dX12_distribute_21 (by decide) rfl ?_
    exact Sm.lvs [1, 2, 3, 4, 0] rfl (sm_distribute_L23 B (fun l1 l2 l3 => sm_distribute_J192 B hkb hke198 l1 l2 l3) fu l1 l2 l3 (0 : Int32))
set_option maxRecDepth 10000 in
theorem sm_distribute_L14 {g : Gm RS Int32} {ke198 : Int32 → RS → Option (Int32 × RS)} (B : Br g cX12_distribute 8 voI (some .boolean) 5 130) (hke198 : ∀ (l2 : Int32), Sm g 8 198 [(2, .int l2)] [] (ke198 l2)) : ∀ (n : Nat) (l1 : Int32) (l2 : Int32) (l3 : Int32), Sm g 8 14 [(0, .ref g.1.2.2.2.2.2), (1, .int l1), (2, .int l2), (3, .int l3)] [] (R_distribute_L14 ke198 n l1 l2 l3)
  | 0, _, _, _ => Sm.fail
  | n + 1, l1, l2, l3 => sm_distribute_B14 B (sm_distribute_L14 B hke198 n) hke198 l1 l2 l3
def R_distribute (l1 : Int32) : RS → Option (Int32 × RS) :=
  rI 69 fun v15 =>
  wI 69 (v15 + (1 : Int32)) <|
  R_distribute_L14 (fun l2 => R_distribute_J198 l2) fu l1 (0 : Int32) (0 : Int32)
set_option maxRecDepth 10000 in
theorem m_distribute {w : Wd} (hw : Wok w) (l1 : Int32) : MR w yX12_distribute cX12_distribute 8 (some .boolean) 5 130 voI [.ref w.2.2.2.2.2, .int l1] (R_distribute l1) := by
  refine MR.of hw rfl (Nat.le_of_ble_eq_true rfl) (fun g hg B => ?_)
  subst hg
  unfold R_distribute
  show Sm g 8 0 [(0, .ref g.1.2.2.2.2.2), (1, .int l1)] [] _
  refine s_aload_n B.1 0 dX12_distribute_0 rfl rfl ?_
  refine s_dup B.1 dX12_distribute_1 rfl ?_
  refine rr_getI B 69 mh_69 mk_69 mf_69 dX12_distribute_2 (fun v15 => ?_)
  refine s_iconst (v := 1) B.1 dX12_distribute_5 (by decide) ?_
  refine s_iadd B.1 dX12_distribute_6 ?_
  refine rr_putI B 69 mh_69 mk_69 mf_69 dX12_distribute_7 ?_
  refine s_iconst (v := 0) B.1 dX12_distribute_10 (by decide) ?_
  refine s_istore_n (lv' := [(2, .int (0 : Int32)), (0, .ref g.1.2.2.2.2.2), (1, .int l1)]) B.1 dX12_distribute_11 rfl (by decide) rfl ?_
  refine s_iconst (v := 0) B.1 dX12_distribute_12 (by decide) ?_
  refine s_istore_n (lv' := [(3, .int (0 : Int32)), (2, .int (0 : Int32)), (0, .ref g.1.2.2.2.2.2), (1, .int l1)]) B.1 dX12_distribute_13 rfl (by decide) rfl ?_
  exact Sm.lvs [2, 3, 1, 0] rfl (sm_distribute_L14 B (fun l2 => sm_distribute_J198 B l2) fu l1 (0 : Int32) (0 : Int32))
def R_purge_J46 (l1 : Int32) : RS → Option (Unit × RS) :=
  wI 65 (l1) <|
  rt ()
set_option maxRecDepth 10000 in
theorem sm_purge_J46 {g : Gm RS Unit} (B : Br g cX12_purge 3 voV none 1 21) (l1 : Int32) : Sm g 3 46 [(0, .ref g.1.2.2.2.2.2), (1, .int l1)] [] (R_purge_J46 l1) := by
  unfold R_purge_J46
  refine s_aload_n B.1 0 dX12_purge_46 rfl rfl ?_
  refine s_iload_n B.1 1 dX12_purge_47 rfl rfl ?_
  refine rr_putI B 65 mh_65 mk_65 mf_65 dX12_purge_48 ?_
  exact s_vret B.1 B.2.1 dX12_purge_51
def R_purge_B4 (kb : Int32 → Int32 → RS → Option (Unit × RS)) (ke46 : Int32 → RS → Option (Unit × RS)) (l1 : Int32) (l2 : Int32) : RS → Option (Unit × RS) :=
  rI 65 fun v1 =>
  if v1 ≤ l2 then (
    ke46 l1
  ) else (
    rA 64 l2 fun v2 =>
    bd (R_gone v2) fun r3 =>
    if r3 = 0 then (
      rA 64 l2 fun v4 =>
      wA 64 l1 v4 <|
      kb (l1 + 1) (l2 + 1)
    ) else (
      kb l1 (l2 + 1)
    )
  )
def R_purge_L4 (ke46 : Int32 → RS → Option (Unit × RS)) : Nat → Int32 → Int32 → RS → Option (Unit × RS)
  | 0, _, _ => no
  | n + 1, l1, l2 => R_purge_B4 (fun l1 l2 => R_purge_L4 ke46 n l1 l2) ke46 l1 l2
set_option maxRecDepth 10000 in
theorem sm_purge_B4 {g : Gm RS Unit} {kb : Int32 → Int32 → RS → Option (Unit × RS)} {ke46 : Int32 → RS → Option (Unit × RS)} (B : Br g cX12_purge 3 voV none 1 21) (hkb : ∀ (l1 : Int32) (l2 : Int32), Sm g 3 4 [(0, .ref g.1.2.2.2.2.2), (1, .int l1), (2, .int l2)] [] (kb l1 l2)) (hke46 : ∀ (l1 : Int32), Sm g 3 46 [(0, .ref g.1.2.2.2.2.2), (1, .int l1)] [] (ke46 l1)) (l1 : Int32) (l2 : Int32) : Sm g 3 4 [(0, .ref g.1.2.2.2.2.2), (1, .int l1), (2, .int l2)] [] (R_purge_B4 kb ke46 l1 l2) := by
  unfold R_purge_B4
  refine s_iload_n B.1 2 dX12_purge_4 rfl rfl ?_
  refine s_aload_n B.1 0 dX12_purge_5 rfl rfl ?_
  refine rr_getI B 65 mh_65 mk_65 mf_65 dX12_purge_6 (fun v1 => ?_)
  refine s_icmp_ge B.1 46 dX12_purge_9 (by decide) ?_ ?_
  · exact Sm.lvs [0, 1] rfl (hke46 l1)
  · refine s_aload_n B.1 0 dX12_purge_12 rfl rfl ?_
    refine s_aload_n B.1 0 dX12_purge_13 rfl rfl ?_
    refine rr_getA B 64 mh_64 mn_64 mf_64 dX12_purge_14 ?_
    refine s_iload_n B.1 2 dX12_purge_17 rfl rfl ?_
    refine rr_iald B 64 mh_64 mk_64 dX12_purge_18 (fun v2 => ?_)
    refine rr_cvi (As := [.int v2]) (st := []) B (m_gone B.ok v2) mc_gone ml_gone mi_gone me_gone ini12 md_gone (by decide) rfl (Nat.le_of_ble_eq_true rfl) dX12_purge_19 (fun r3 => ?_)
    refine s_if_ne B.1 40 dX12_purge_22 (by decide) ?_ ?_
    · refine s_iinc (v := l2 + 1) (lv' := [(2, .int (l2 + 1)), (0, .ref g.1.2.2.2.2.2), (1, .int l1)]) B.1 2 dX12_purge_40 rfl rfl (by decide) rfl ?_
      refine s_goto B.1 4 dX12_purge_43 (by decide) ?_
      exact Sm.lvs [1, 2, 0] rfl (hkb l1 (l2 + 1))
    · refine s_aload_n B.1 0 dX12_purge_25 rfl rfl ?_
      refine rr_getA B 64 mh_64 mn_64 mf_64 dX12_purge_26 ?_
      refine s_iload_n B.1 1 dX12_purge_29 rfl rfl ?_
      refine s_iinc (v := l1 + 1) (lv' := [(1, .int (l1 + 1)), (0, .ref g.1.2.2.2.2.2), (2, .int l2)]) B.1 1 dX12_purge_30 rfl rfl (by decide) rfl ?_
      refine s_aload_n B.1 1 dX12_purge_33 rfl rfl ?_
      refine rr_getA B 64 mh_64 mn_64 mf_64 dX12_purge_34 ?_
      refine s_iload_n B.1 2 dX12_purge_37 rfl rfl ?_
      refine rr_iald B 64 mh_64 mk_64 dX12_purge_38 (fun v4 => ?_)
      refine rr_iast B 64 mh_64 mk_64 dX12_purge_39 ?_
      refine s_iinc (v := l2 + 1) (lv' := [(2, .int (l2 + 1)), (1, .int (l1 + 1)), (0, .ref g.1.2.2.2.2.2)]) B.1 2 dX12_purge_40 rfl rfl (by decide) rfl ?_
      refine s_goto B.1 4 dX12_purge_43 (by decide) ?_
      exact Sm.lvs [2, 1, 0] rfl (hkb (l1 + 1) (l2 + 1))
set_option maxRecDepth 10000 in
theorem sm_purge_L4 {g : Gm RS Unit} {ke46 : Int32 → RS → Option (Unit × RS)} (B : Br g cX12_purge 3 voV none 1 21) (hke46 : ∀ (l1 : Int32), Sm g 3 46 [(0, .ref g.1.2.2.2.2.2), (1, .int l1)] [] (ke46 l1)) : ∀ (n : Nat) (l1 : Int32) (l2 : Int32), Sm g 3 4 [(0, .ref g.1.2.2.2.2.2), (1, .int l1), (2, .int l2)] [] (R_purge_L4 ke46 n l1 l2)
  | 0, _, _ => Sm.fail
  | n + 1, l1, l2 => sm_purge_B4 B (sm_purge_L4 B hke46 n) hke46 l1 l2
def R_purge : RS → Option (Unit × RS) :=
  R_purge_L4 (fun l1 => R_purge_J46 l1) fu (0 : Int32) (0 : Int32)
set_option maxRecDepth 10000 in
theorem m_purge {w : Wd} (hw : Wok w) : MR w yX12_purge cX12_purge 3 none 1 21 voV [.ref w.2.2.2.2.2] (R_purge) := by
  refine MR.of hw rfl (Nat.le_of_ble_eq_true rfl) (fun g hg B => ?_)
  subst hg
  unfold R_purge
  show Sm g 3 0 [(0, .ref g.1.2.2.2.2.2)] [] _
  refine s_iconst (v := 0) B.1 dX12_purge_0 (by decide) ?_
  refine s_istore_n (lv' := [(1, .int (0 : Int32)), (0, .ref g.1.2.2.2.2.2)]) B.1 dX12_purge_1 rfl (by decide) rfl ?_
  refine s_iconst (v := 0) B.1 dX12_purge_2 (by decide) ?_
  refine s_istore_n (lv' := [(2, .int (0 : Int32)), (1, .int (0 : Int32)), (0, .ref g.1.2.2.2.2.2)]) B.1 dX12_purge_3 rfl (by decide) rfl ?_
  exact Sm.lvs [2, 1, 0] rfl (sm_purge_L4 B (fun l1 => sm_purge_J46 B l1) fu (0 : Int32) (0 : Int32))
def R_sameTopic_J80 (l3 : Int32) : RS → Option (Int32 × RS) :=
  zt (l3)
set_option maxRecDepth 10000 in
theorem sm_sameTopic_J80 {g : Gm RS Int32} (B : Br g cX12_sameTopic 5 voI (some .boolean) 0 0) (l3 : Int32) : Sm g 5 80 [(3, .int l3)] [] (R_sameTopic_J80 l3) := by
  unfold R_sameTopic_J80
  refine s_iload_n B.1 0 dX12_sameTopic_80 rfl rfl ?_
  exact s_zret B.1 B.2.1 dX12_sameTopic_81
def R_sameTopic_J73 (kb : Int32 → Int32 → Int32 → Int32 → RS → Option (Int32 × RS)) (ke80 : Int32 → RS → Option (Int32 × RS)) (l1 : Int32) (l2 : Int32) (l4 : Int32) (s0 : Int32) : RS → Option (Int32 × RS) :=
  kb l1 l2 s0 (l4 + 1)
set_option maxRecDepth 10000 in
theorem sm_sameTopic_J73 {g : Gm RS Int32} {kb : Int32 → Int32 → Int32 → Int32 → RS → Option (Int32 × RS)} {ke80 : Int32 → RS → Option (Int32 × RS)} (B : Br g cX12_sameTopic 5 voI (some .boolean) 0 0) (hkb : ∀ (l1 : Int32) (l2 : Int32) (l3 : Int32) (l4 : Int32), Sm g 5 24 [(0, .ref g.1.2.2.2.2.2), (1, .int l1), (2, .int l2), (3, .int l3), (4, .int l4)] [] (kb l1 l2 l3 l4)) (hke80 : ∀ (l3 : Int32), Sm g 5 80 [(3, .int l3)] [] (ke80 l3)) (l1 : Int32) (l2 : Int32) (l4 : Int32) (s0 : Int32) : Sm g 5 73 [(0, .ref g.1.2.2.2.2.2), (1, .int l1), (2, .int l2), (4, .int l4)] [.int s0] (R_sameTopic_J73 kb ke80 l1 l2 l4 s0) := by
  unfold R_sameTopic_J73
  refine s_istore_n (lv' := [(3, .int s0), (0, .ref g.1.2.2.2.2.2), (1, .int l1), (2, .int l2), (4, .int l4)]) B.1 dX12_sameTopic_73 rfl (by decide) rfl ?_
  refine s_iinc (v := l4 + 1) (lv' := [(4, .int (l4 + 1)), (3, .int s0), (0, .ref g.1.2.2.2.2.2), (1, .int l1), (2, .int l2)]) B.1 4 dX12_sameTopic_74 rfl rfl (by decide) rfl ?_
  refine s_goto B.1 24 dX12_sameTopic_77 (by decide) ?_
  exact Sm.lvs [2, 3, 4, 1, 0] rfl (hkb l1 l2 s0 (l4 + 1))
def R_sameTopic_B24 (kb : Int32 → Int32 → Int32 → Int32 → RS → Option (Int32 × RS)) (ke80 : Int32 → RS → Option (Int32 × RS)) (l1 : Int32) (l2 : Int32) (l3 : Int32) (l4 : Int32) : RS → Option (Int32 × RS) :=
  rA 46 l1 fun v1 =>
  if v1 ≤ l4 then (
    ke80 l3
  ) else (
    if l3 = 0 then (
      ke80 l3
    ) else (
      rA 45 (((480 : Int32) * l1) + l4) fun v2 =>
      rA 45 (((480 : Int32) * l2) + l4) fun v3 =>
      if v2 = v3 then (
        R_sameTopic_J73 kb ke80 l1 l2 l4 (1 : Int32)
      ) else (
        R_sameTopic_J73 kb ke80 l1 l2 l4 (0 : Int32)
      )
    )
  )
def R_sameTopic_L24 (ke80 : Int32 → RS → Option (Int32 × RS)) : Nat → Int32 → Int32 → Int32 → Int32 → RS → Option (Int32 × RS)
  | 0, _, _, _, _ => no
  | n + 1, l1, l2, l3, l4 => R_sameTopic_B24 (fun l1 l2 l3 l4 => R_sameTopic_L24 ke80 n l1 l2 l3 l4) ke80 l1 l2 l3 l4
set_option maxRecDepth 10000 in
theorem sm_sameTopic_B24 {g : Gm RS Int32} {kb : Int32 → Int32 → Int32 → Int32 → RS → Option (Int32 × RS)} {ke80 : Int32 → RS → Option (Int32 × RS)} (B : Br g cX12_sameTopic 5 voI (some .boolean) 0 0) (hkb : ∀ (l1 : Int32) (l2 : Int32) (l3 : Int32) (l4 : Int32), Sm g 5 24 [(0, .ref g.1.2.2.2.2.2), (1, .int l1), (2, .int l2), (3, .int l3), (4, .int l4)] [] (kb l1 l2 l3 l4)) (hke80 : ∀ (l3 : Int32), Sm g 5 80 [(3, .int l3)] [] (ke80 l3)) (l1 : Int32) (l2 : Int32) (l3 : Int32) (l4 : Int32) : Sm g 5 24 [(0, .ref g.1.2.2.2.2.2), (1, .int l1), (2, .int l2), (3, .int l3), (4, .int l4)] [] (R_sameTopic_B24 kb ke80 l1 l2 l3 l4) := by
  unfold R_sameTopic_B24
  refine s_iload B.1 4 dX12_sameTopic_24 rfl ?_
  refine s_aload_n B.1 0 dX12_sameTopic_26 rfl rfl ?_
  refine rr_getA B 46 mh_46 mn_46 mf_46 dX12_sameTopic_27 ?_
  refine s_iload_n B.1 1 dX12_sameTopic_30 rfl rfl ?_
  refine rr_iald B 46 mh_46 mk_46 dX12_sameTopic_31 (fun v1 => ?_)
  refine s_icmp_ge B.1 80 dX12_sameTopic_32 (by decide) ?_ ?_
  · exact Sm.lvs [3] rfl (hke80 l3)
  · refine s_iload_n B.1 3 dX12_sameTopic_35 rfl rfl ?_
    refine s_if_eq B.1 80 dX12_sameTopic_36 (by decide) ?_ ?_
    · exact Sm.lvs [3] rfl (hke80 l3)
    · refine s_aload_n B.1 0 dX12_sameTopic_39 rfl rfl ?_
      refine rr_getA B 45 mh_45 mn_45 mf_45 dX12_sameTopic_40 ?_
      refine s_sipush (v := (480)) B.1 dX12_sameTopic_43 (by decide) ?_
      refine s_iload_n B.1 1 dX12_sameTopic_46 rfl rfl ?_
      refine s_imul B.1 dX12_sameTopic_47 ?_
      refine s_iload B.1 4 dX12_sameTopic_48 rfl ?_
      refine s_iadd B.1 dX12_sameTopic_50 ?_
      refine rr_bald B 45 mh_45 mk_45 dX12_sameTopic_51 (fun v2 => ?_)
      refine s_aload_n B.1 0 dX12_sameTopic_52 rfl rfl ?_
      refine rr_getA B 45 mh_45 mn_45 mf_45 dX12_sameTopic_53 ?_
      refine s_sipush (v := (480)) B.1 dX12_sameTopic_56 (by decide) ?_
      refine s_iload_n B.1 2 dX12_sameTopic_59 rfl rfl ?_
      refine s_imul B.1 dX12_sameTopic_60 ?_
      refine s_iload B.1 4 dX12_sameTopic_61 rfl ?_
      refine s_iadd B.1 dX12_sameTopic_63 ?_
      refine rr_bald B 45 mh_45 mk_45 dX12_sameTopic_64 (fun v3 => ?_)
      refine s_icmp_ne B.1 72 dX12_sameTopic_65 (by decide) ?_ ?_
      · refine s_iconst (v := 0) B.1 dX12_sameTopic_72 (by decide) ?_
        exact Sm.lvs [0, 1, 2, 4] rfl (sm_sameTopic_J73 B hkb hke80 l1 l2 l4 (0 : Int32))
      · refine s_iconst (v := 1) B.1 dX12_sameTopic_68 (by decide) ?_
        refine s_goto B.1 73 dX12_sameTopic_69 (by decide) ?_
        exact Sm.lvs [0, 1, 2, 4] rfl (sm_sameTopic_J73 B hkb hke80 l1 l2 l4 (1 : Int32))
set_option maxRecDepth 10000 in
theorem sm_sameTopic_L24 {g : Gm RS Int32} {ke80 : Int32 → RS → Option (Int32 × RS)} (B : Br g cX12_sameTopic 5 voI (some .boolean) 0 0) (hke80 : ∀ (l3 : Int32), Sm g 5 80 [(3, .int l3)] [] (ke80 l3)) : ∀ (n : Nat) (l1 : Int32) (l2 : Int32) (l3 : Int32) (l4 : Int32), Sm g 5 24 [(0, .ref g.1.2.2.2.2.2), (1, .int l1), (2, .int l2), (3, .int l3), (4, .int l4)] [] (R_sameTopic_L24 ke80 n l1 l2 l3 l4)
  | 0, _, _, _, _ => Sm.fail
  | n + 1, l1, l2, l3, l4 => sm_sameTopic_B24 B (sm_sameTopic_L24 B hke80 n) hke80 l1 l2 l3 l4
def R_sameTopic_J20 (l1 : Int32) (l2 : Int32) (s0 : Int32) : RS → Option (Int32 × RS) :=
  R_sameTopic_L24 (fun l3 => R_sameTopic_J80 l3) fu l1 l2 s0 (0 : Int32)
set_option maxRecDepth 10000 in
theorem sm_sameTopic_J20 {g : Gm RS Int32} (B : Br g cX12_sameTopic 5 voI (some .boolean) 0 0) (l1 : Int32) (l2 : Int32) (s0 : Int32) : Sm g 5 20 [(0, .ref g.1.2.2.2.2.2), (1, .int l1), (2, .int l2)] [.int s0] (R_sameTopic_J20 l1 l2 s0) := by
  unfold R_sameTopic_J20
  refine s_istore_n (lv' := [(3, .int s0), (0, .ref g.1.2.2.2.2.2), (1, .int l1), (2, .int l2)]) B.1 dX12_sameTopic_20 rfl (by decide) rfl ?_
  refine s_iconst (v := 0) B.1 dX12_sameTopic_21 (by decide) ?_
  refine s_istore (lv' := [(4, .int (0 : Int32)), (3, .int s0), (0, .ref g.1.2.2.2.2.2), (1, .int l1), (2, .int l2)]) B.1 dX12_sameTopic_22 (by decide) rfl ?_
  exact Sm.lvs [2, 3, 4, 1, 0] rfl (sm_sameTopic_L24 B (fun l3 => sm_sameTopic_J80 B l3) fu l1 l2 s0 (0 : Int32))
def R_sameTopic (l1 : Int32) (l2 : Int32) : RS → Option (Int32 × RS) :=
  rA 46 l1 fun v4 =>
  rA 46 l2 fun v5 =>
  if v4 = v5 then (
    R_sameTopic_J20 l1 l2 (1 : Int32)
  ) else (
    R_sameTopic_J20 l1 l2 (0 : Int32)
  )
set_option maxRecDepth 10000 in
theorem m_sameTopic {w : Wd} (hw : Wok w) (l1 : Int32) (l2 : Int32) : MR w yX12_sameTopic cX12_sameTopic 5 (some .boolean) 0 0 voI [.ref w.2.2.2.2.2, .int l1, .int l2] (R_sameTopic l1 l2) := by
  refine MR.of hw rfl (Nat.le_of_ble_eq_true rfl) (fun g hg B => ?_)
  subst hg
  unfold R_sameTopic
  show Sm g 5 0 [(0, .ref g.1.2.2.2.2.2), (1, .int l1), (2, .int l2)] [] _
  refine s_aload_n B.1 0 dX12_sameTopic_0 rfl rfl ?_
  refine rr_getA B 46 mh_46 mn_46 mf_46 dX12_sameTopic_1 ?_
  refine s_iload_n B.1 1 dX12_sameTopic_4 rfl rfl ?_
  refine rr_iald B 46 mh_46 mk_46 dX12_sameTopic_5 (fun v4 => ?_)
  refine s_aload_n B.1 0 dX12_sameTopic_6 rfl rfl ?_
  refine rr_getA B 46 mh_46 mn_46 mf_46 dX12_sameTopic_7 ?_
  refine s_iload_n B.1 2 dX12_sameTopic_10 rfl rfl ?_
  refine rr_iald B 46 mh_46 mk_46 dX12_sameTopic_11 (fun v5 => ?_)
  refine s_icmp_ne B.1 19 dX12_sameTopic_12 (by decide) ?_ ?_
  · refine s_iconst (v := 0) B.1 dX12_sameTopic_19 (by decide) ?_
    exact Sm.lvs [0, 1, 2] rfl (sm_sameTopic_J20 B l1 l2 (0 : Int32))
  · refine s_iconst (v := 1) B.1 dX12_sameTopic_15 (by decide) ?_
    refine s_goto B.1 20 dX12_sameTopic_16 (by decide) ?_
    exact Sm.lvs [0, 1, 2] rfl (sm_sameTopic_J20 B l1 l2 (1 : Int32))
def R_keep_J83 : RS → Option (Int32 × RS) :=
  rI 65 fun v1 =>
  wI 65 (v1 - (1 : Int32)) <|
  zt ((1 : Int32))
set_option maxRecDepth 10000 in
theorem sm_keep_J83 {g : Gm RS Int32} (B : Br g cX12_keep 4 voI (some .boolean) 2 43) : Sm g 4 83 [(0, .ref g.1.2.2.2.2.2)] [] (R_keep_J83) := by
  unfold R_keep_J83
  refine s_aload_n B.1 0 dX12_keep_83 rfl rfl ?_
  refine s_dup B.1 dX12_keep_84 rfl ?_
  refine rr_getI B 65 mh_65 mk_65 mf_65 dX12_keep_85 (fun v1 => ?_)
  refine s_iconst (v := 1) B.1 dX12_keep_88 (by decide) ?_
  refine s_isub B.1 dX12_keep_89 ?_
  refine rr_putI B 65 mh_65 mk_65 mf_65 dX12_keep_90 ?_
  refine s_iconst (v := 1) B.1 dX12_keep_93 (by decide) ?_
  exact s_zret B.1 B.2.1 dX12_keep_94
def R_keep_B53 (kb : Int32 → RS → Option (Int32 × RS)) (ke83 : RS → Option (Int32 × RS)) (l3 : Int32) : RS → Option (Int32 × RS) :=
  rI 65 fun v2 =>
  if v2 ≤ (l3 + (1 : Int32)) then (
    ke83
  ) else (
    rA 64 (l3 + (1 : Int32)) fun v3 =>
    wA 64 l3 v3 <|
    kb (l3 + 1)
  )
def R_keep_L53 (ke83 : RS → Option (Int32 × RS)) : Nat → Int32 → RS → Option (Int32 × RS)
  | 0, _ => no
  | n + 1, l3 => R_keep_B53 (fun l3 => R_keep_L53 ke83 n l3) ke83 l3
set_option maxRecDepth 10000 in
theorem sm_keep_B53 {g : Gm RS Int32} {kb : Int32 → RS → Option (Int32 × RS)} {ke83 : RS → Option (Int32 × RS)} (B : Br g cX12_keep 4 voI (some .boolean) 2 43) (hkb : ∀ (l3 : Int32), Sm g 4 53 [(0, .ref g.1.2.2.2.2.2), (3, .int l3)] [] (kb l3)) (hke83 : Sm g 4 83 [(0, .ref g.1.2.2.2.2.2)] [] (ke83)) (l3 : Int32) : Sm g 4 53 [(0, .ref g.1.2.2.2.2.2), (3, .int l3)] [] (R_keep_B53 kb ke83 l3) := by
  unfold R_keep_B53
  refine s_iload_n B.1 1 dX12_keep_53 rfl rfl ?_
  refine s_iconst (v := 1) B.1 dX12_keep_54 (by decide) ?_
  refine s_iadd B.1 dX12_keep_55 ?_
  refine s_aload_n B.1 0 dX12_keep_56 rfl rfl ?_
  refine rr_getI B 65 mh_65 mk_65 mf_65 dX12_keep_57 (fun v2 => ?_)
  refine s_icmp_ge B.1 83 dX12_keep_60 (by decide) ?_ ?_
  · exact Sm.lvs [0] rfl (hke83)
  · refine s_aload_n B.1 0 dX12_keep_63 rfl rfl ?_
    refine rr_getA B 64 mh_64 mn_64 mf_64 dX12_keep_64 ?_
    refine s_iload_n B.1 1 dX12_keep_67 rfl rfl ?_
    refine s_aload_n B.1 0 dX12_keep_68 rfl rfl ?_
    refine rr_getA B 64 mh_64 mn_64 mf_64 dX12_keep_69 ?_
    refine s_iload_n B.1 1 dX12_keep_72 rfl rfl ?_
    refine s_iconst (v := 1) B.1 dX12_keep_73 (by decide) ?_
    refine s_iadd B.1 dX12_keep_74 ?_
    refine rr_iald B 64 mh_64 mk_64 dX12_keep_75 (fun v3 => ?_)
    refine rr_iast B 64 mh_64 mk_64 dX12_keep_76 ?_
    refine s_iinc (v := l3 + 1) (lv' := [(3, .int (l3 + 1)), (0, .ref g.1.2.2.2.2.2)]) B.1 1 dX12_keep_77 rfl rfl (by decide) rfl ?_
    refine s_goto B.1 53 dX12_keep_80 (by decide) ?_
    exact Sm.lvs [1, 0] rfl (hkb (l3 + 1))
set_option maxRecDepth 10000 in
theorem sm_keep_L53 {g : Gm RS Int32} {ke83 : RS → Option (Int32 × RS)} (B : Br g cX12_keep 4 voI (some .boolean) 2 43) (hke83 : Sm g 4 83 [(0, .ref g.1.2.2.2.2.2)] [] (ke83)) : ∀ (n : Nat) (l3 : Int32), Sm g 4 53 [(0, .ref g.1.2.2.2.2.2), (3, .int l3)] [] (R_keep_L53 ke83 n l3)
  | 0, _ => Sm.fail
  | n + 1, l3 => sm_keep_B53 B (sm_keep_L53 B hke83 n) hke83 l3
def R_keep_J34 (l1 : Int32) (l2 : Int32) : RS → Option (Int32 × RS) :=
  rA 48 l1 fun v4 =>
  if v4 = 0 then (
    rI 65 fun v7 =>
    if v7 ≤ l2 then (
      zt ((1 : Int32))
    ) else (
      R_keep_L53 (R_keep_J83) fu l2
    )
  ) else (
    if l2 = (16 : Int32) then (
      zt ((0 : Int32))
    ) else (
      wA 64 l2 l1 <|
      rI 65 fun v5 =>
      if l2 = v5 then (
        rI 65 fun v6 =>
        wI 65 (v6 + (1 : Int32)) <|
        zt ((1 : Int32))
      ) else (
        zt ((1 : Int32))
      )
    )
  )
set_option maxRecDepth 10000 in
theorem sm_keep_J34 {g : Gm RS Int32} (B : Br g cX12_keep 4 voI (some .boolean) 2 43) (l1 : Int32) (l2 : Int32) : Sm g 4 34 [(0, .ref g.1.2.2.2.2.2), (1, .int l1), (2, .int l2)] [] (R_keep_J34 l1 l2) := by
  unfold R_keep_J34
  refine s_aload_n B.1 0 dX12_keep_34 rfl rfl ?_
  refine rr_getA B 48 mh_48 mn_48 mf_48 dX12_keep_35 ?_
  refine s_iload_n B.1 1 dX12_keep_38 rfl rfl ?_
  refine rr_iald B 48 mh_48 mk_48 dX12_keep_39 (fun v4 => ?_)
  refine s_if_ne B.1 95 dX12_keep_40 (by decide) ?_ ?_
  · refine s_iload_n B.1 2 dX12_keep_95 rfl rfl ?_
    refine s_bipush (v := (16)) B.1 dX12_keep_96 (by decide) ?_
    refine s_icmp_ne B.1 103 dX12_keep_98 (by decide) ?_ ?_
    · refine s_aload_n B.1 0 dX12_keep_103 rfl rfl ?_
      refine rr_getA B 64 mh_64 mn_64 mf_64 dX12_keep_104 ?_
      refine s_iload_n B.1 2 dX12_keep_107 rfl rfl ?_
      refine s_iload_n B.1 1 dX12_keep_108 rfl rfl ?_
      refine rr_iast B 64 mh_64 mk_64 dX12_keep_109 ?_
      refine s_iload_n B.1 2 dX12_keep_110 rfl rfl ?_
      refine s_aload_n B.1 0 dX12_keep_111 rfl rfl ?_
      refine rr_getI B 65 mh_65 mk_65 mf_65 dX12_keep_112 (fun v5 => ?_)
      refine s_icmp_ne B.1 128 dX12_keep_115 (by decide) ?_ ?_
      · refine s_iconst (v := 1) B.1 dX12_keep_128 (by decide) ?_
        exact s_zret B.1 B.2.1 dX12_keep_129
      · refine s_aload_n B.1 0 dX12_keep_118 rfl rfl ?_
        refine s_dup B.1 dX12_keep_119 rfl ?_
        refine rr_getI B 65 mh_65 mk_65 mf_65 dX12_keep_120 (fun v6 => ?_)
        refine s_iconst (v := 1) B.1 dX12_keep_123 (by decide) ?_
        refine s_iadd B.1 dX12_keep_124 ?_
        refine rr_putI B 65 mh_65 mk_65 mf_65 dX12_keep_125 ?_
        refine s_iconst (v := 1) B.1 dX12_keep_128 (by decide) ?_
        exact s_zret B.1 B.2.1 dX12_keep_129
    · refine s_iconst (v := 0) B.1 dX12_keep_101 (by decide) ?_
      exact s_zret B.1 B.2.1 dX12_keep_102
  · refine s_iload_n B.1 2 dX12_keep_43 rfl rfl ?_
    refine s_aload_n B.1 0 dX12_keep_44 rfl rfl ?_
    refine rr_getI B 65 mh_65 mk_65 mf_65 dX12_keep_45 (fun v7 => ?_)
    refine s_icmp_ge B.1 93 dX12_keep_48 (by decide) ?_ ?_
    · refine s_iconst (v := 1) B.1 dX12_keep_93 (by decide) ?_
      exact s_zret B.1 B.2.1 dX12_keep_94
    · refine s_iload_n B.1 2 dX12_keep_51 rfl rfl ?_
      refine s_istore_n (lv' := [(3, .int l2), (0, .ref g.1.2.2.2.2.2), (1, .int l1), (2, .int l2)]) B.1 dX12_keep_52 rfl (by decide) rfl ?_
      exact Sm.lvs [1, 0] rfl (sm_keep_L53 B (sm_keep_J83 B) fu l2)
def R_keep_B6 (kb : Int32 → Int32 → RS → Option (Int32 × RS)) (ke34 : Int32 → Int32 → RS → Option (Int32 × RS)) (l1 : Int32) (l2 : Int32) : RS → Option (Int32 × RS) :=
  rI 65 fun v8 =>
  if v8 ≤ l2 then (
    ke34 l1 l2
  ) else (
    rA 64 l2 fun v9 =>
    bd (R_sameTopic v9 l1) fun r10 =>
    if r10 = 0 then (
      kb l1 (l2 + 1)
    ) else (
      ke34 l1 l2
    )
  )
def R_keep_L6 (ke34 : Int32 → Int32 → RS → Option (Int32 × RS)) : Nat → Int32 → Int32 → RS → Option (Int32 × RS)
  | 0, _, _ => no
  | n + 1, l1, l2 => R_keep_B6 (fun l1 l2 => R_keep_L6 ke34 n l1 l2) ke34 l1 l2
set_option maxRecDepth 10000 in
theorem sm_keep_B6 {g : Gm RS Int32} {kb : Int32 → Int32 → RS → Option (Int32 × RS)} {ke34 : Int32 → Int32 → RS → Option (Int32 × RS)} (B : Br g cX12_keep 4 voI (some .boolean) 2 43) (hkb : ∀ (l1 : Int32) (l2 : Int32), Sm g 4 6 [(0, .ref g.1.2.2.2.2.2), (1, .int l1), (2, .int l2)] [] (kb l1 l2)) (hke34 : ∀ (l1 : Int32) (l2 : Int32), Sm g 4 34 [(0, .ref g.1.2.2.2.2.2), (1, .int l1), (2, .int l2)] [] (ke34 l1 l2)) (l1 : Int32) (l2 : Int32) : Sm g 4 6 [(0, .ref g.1.2.2.2.2.2), (1, .int l1), (2, .int l2)] [] (R_keep_B6 kb ke34 l1 l2) := by
  unfold R_keep_B6
  refine s_iload_n B.1 2 dX12_keep_6 rfl rfl ?_
  refine s_aload_n B.1 0 dX12_keep_7 rfl rfl ?_
  refine rr_getI B 65 mh_65 mk_65 mf_65 dX12_keep_8 (fun v8 => ?_)
  refine s_icmp_ge B.1 34 dX12_keep_11 (by decide) ?_ ?_
  · exact Sm.lvs [0, 1, 2] rfl (hke34 l1 l2)
  · refine s_aload_n B.1 0 dX12_keep_14 rfl rfl ?_
    refine s_aload_n B.1 0 dX12_keep_15 rfl rfl ?_
    refine rr_getA B 64 mh_64 mn_64 mf_64 dX12_keep_16 ?_
    refine s_iload_n B.1 2 dX12_keep_19 rfl rfl ?_
    refine rr_iald B 64 mh_64 mk_64 dX12_keep_20 (fun v9 => ?_)
    refine s_iload_n B.1 1 dX12_keep_21 rfl rfl ?_
    refine rr_cvi (As := [.int v9, .int l1]) (st := []) B (m_sameTopic B.ok v9 l1) mc_sameTopic ml_sameTopic mi_sameTopic me_sameTopic ini12 md_sameTopic (by decide) rfl (Nat.le_of_ble_eq_true rfl) dX12_keep_22 (fun r10 => ?_)
    refine s_if_ne B.1 34 dX12_keep_25 (by decide) ?_ ?_
    · exact Sm.lvs [0, 1, 2] rfl (hke34 l1 l2)
    · refine s_iinc (v := l2 + 1) (lv' := [(2, .int (l2 + 1)), (0, .ref g.1.2.2.2.2.2), (1, .int l1)]) B.1 2 dX12_keep_28 rfl rfl (by decide) rfl ?_
      refine s_goto B.1 6 dX12_keep_31 (by decide) ?_
      exact Sm.lvs [1, 2, 0] rfl (hkb l1 (l2 + 1))
set_option maxRecDepth 10000 in
theorem sm_keep_L6 {g : Gm RS Int32} {ke34 : Int32 → Int32 → RS → Option (Int32 × RS)} (B : Br g cX12_keep 4 voI (some .boolean) 2 43) (hke34 : ∀ (l1 : Int32) (l2 : Int32), Sm g 4 34 [(0, .ref g.1.2.2.2.2.2), (1, .int l1), (2, .int l2)] [] (ke34 l1 l2)) : ∀ (n : Nat) (l1 : Int32) (l2 : Int32), Sm g 4 6 [(0, .ref g.1.2.2.2.2.2), (1, .int l1), (2, .int l2)] [] (R_keep_L6 ke34 n l1 l2)
  | 0, _, _ => Sm.fail
  | n + 1, l1, l2 => sm_keep_B6 B (sm_keep_L6 B hke34 n) hke34 l1 l2
def R_keep (l1 : Int32) : RS → Option (Int32 × RS) :=
  bd (R_purge) fun r11 =>
  R_keep_L6 (fun l1 l2 => R_keep_J34 l1 l2) fu l1 (0 : Int32)
set_option maxRecDepth 10000 in
theorem m_keep {w : Wd} (hw : Wok w) (l1 : Int32) : MR w yX12_keep cX12_keep 4 (some .boolean) 2 43 voI [.ref w.2.2.2.2.2, .int l1] (R_keep l1) := by
  refine MR.of hw rfl (Nat.le_of_ble_eq_true rfl) (fun g hg B => ?_)
  subst hg
  unfold R_keep
  show Sm g 4 0 [(0, .ref g.1.2.2.2.2.2), (1, .int l1)] [] _
  refine s_aload_n B.1 0 dX12_keep_0 rfl rfl ?_
  refine rr_cvv (As := []) (st := []) B (m_purge B.ok) mc_purge ml_purge mi_purge me_purge ini12 md_purge (by decide) rfl (Nat.le_of_ble_eq_true rfl) dX12_keep_1 (fun r11 => ?_)
  refine s_iconst (v := 0) B.1 dX12_keep_4 (by decide) ?_
  refine s_istore_n (lv' := [(2, .int (0 : Int32)), (0, .ref g.1.2.2.2.2.2), (1, .int l1)]) B.1 dX12_keep_5 rfl (by decide) rfl ?_
  exact Sm.lvs [1, 2, 0] rfl (sm_keep_L6 B (fun l1 l2 => sm_keep_J34 B l1 l2) fu l1 (0 : Int32))
def R_comes_J68 (l2 : Int32) : RS → Option (Unit × RS) :=
  bd (R_distribute l2) fun r1 =>
  rt ()
set_option maxRecDepth 10000 in
theorem sm_comes_J68 {g : Gm RS Unit} (B : Br g cX12_comes 3 voV none 6 157) (l2 : Int32) : Sm g 3 68 [(0, .ref g.1.2.2.2.2.2), (2, .int l2)] [] (R_comes_J68 l2) := by
  unfold R_comes_J68
  refine s_aload_n B.1 0 dX12_comes_68 rfl rfl ?_
  refine s_iload_n B.1 1 dX12_comes_69 rfl rfl ?_
  refine rr_cvi (As := [.int l2]) (st := []) B (m_distribute B.ok l2) mc_distribute ml_distribute mi_distribute me_distribute ini12 md_distribute (by decide) rfl (Nat.le_of_ble_eq_true rfl) dX12_comes_70 (fun r1 => ?_)
  refine s_pop B.1 dX12_comes_73 rfl ?_
  exact s_vret B.1 B.2.1 dX12_comes_74
def R_comes (l1 : Int32) : RS → Option (Unit × RS) :=
  rA 20 l1 fun v2 =>
  wA 20 l1 (-1 : Int32) <|
  wL 22 l1 (-1 : Int64) <|
  wA 63 v2 (vp_nar .boolean (1 : Int32)) <|
  rI 66 fun v3 =>
  wA 51 v2 v3 <|
  rA 12 l1 fun v4 =>
  wA 62 v2 v4 <|
  rA 61 v2 fun v5 =>
  if v5 = (1 : Int32) then (
    bd (R_keep v2) fun r6 =>
    R_comes_J68 v2
  ) else (
    R_comes_J68 v2
  )
set_option maxRecDepth 10000 in
theorem m_comes {w : Wd} (hw : Wok w) (l1 : Int32) : MR w yX12_comes cX12_comes 3 none 6 157 voV [.ref w.2.2.2.2.2, .int l1] (R_comes l1) := by
  refine MR.of hw rfl (Nat.le_of_ble_eq_true rfl) (fun g hg B => ?_)
  subst hg
  unfold R_comes
  show Sm g 3 0 [(0, .ref g.1.2.2.2.2.2), (1, .int l1)] [] _
  refine s_aload_n B.1 0 dX12_comes_0 rfl rfl ?_
  refine rr_getA B 20 mh_20 mn_20 mf_20 dX12_comes_1 ?_
  refine s_iload_n B.1 1 dX12_comes_4 rfl rfl ?_
  refine rr_iald B 20 mh_20 mk_20 dX12_comes_5 (fun v2 => ?_)
  refine s_istore_n (lv' := [(2, .int v2), (0, .ref g.1.2.2.2.2.2), (1, .int l1)]) B.1 dX12_comes_6 rfl (by decide) rfl ?_
  refine s_aload_n B.1 1 dX12_comes_7 rfl rfl ?_
  refine rr_getA B 20 mh_20 mn_20 mf_20 dX12_comes_8 ?_
  refine s_iload_n B.1 2 dX12_comes_11 rfl rfl ?_
  refine s_iconst (v := (-1)) B.1 dX12_comes_12 (by decide) ?_
  refine rr_iast B 20 mh_20 mk_20 dX12_comes_13 ?_
  refine s_aload_n B.1 1 dX12_comes_14 rfl rfl ?_
  refine rr_getA B 22 mh_22 mn_22 mf_22 dX12_comes_15 ?_
  refine s_iload_n B.1 2 dX12_comes_18 rfl rfl ?_
  refine s_ldc2 (v := (-1)) B.1 tw_1920 dX12_comes_19 ?_
  refine rr_last B 22 mh_22 mk_22 dX12_comes_22 ?_
  refine s_aload_n B.1 1 dX12_comes_23 rfl rfl ?_
  refine rr_getA B 63 mh_63 mn_63 mf_63 dX12_comes_24 ?_
  refine s_iload_n B.1 0 dX12_comes_27 rfl rfl ?_
  refine s_iconst (v := 1) B.1 dX12_comes_28 (by decide) ?_
  refine rr_zast B 63 mh_63 mk_63 dX12_comes_29 ?_
  refine s_aload_n B.1 1 dX12_comes_30 rfl rfl ?_
  refine rr_getA B 51 mh_51 mn_51 mf_51 dX12_comes_31 ?_
  refine s_iload_n B.1 0 dX12_comes_34 rfl rfl ?_
  refine s_aload_n B.1 1 dX12_comes_35 rfl rfl ?_
  refine rr_getI B 66 mh_66 mk_66 mf_66 dX12_comes_36 (fun v3 => ?_)
  refine rr_iast B 51 mh_51 mk_51 dX12_comes_39 ?_
  refine s_aload_n B.1 1 dX12_comes_40 rfl rfl ?_
  refine rr_getA B 62 mh_62 mn_62 mf_62 dX12_comes_41 ?_
  refine s_iload_n B.1 0 dX12_comes_44 rfl rfl ?_
  refine s_aload_n B.1 1 dX12_comes_45 rfl rfl ?_
  refine rr_getA B 12 mh_12 mn_12 mf_12 dX12_comes_46 ?_
  refine s_iload_n B.1 2 dX12_comes_49 rfl rfl ?_
  refine rr_iald B 12 mh_12 mk_12 dX12_comes_50 (fun v4 => ?_)
  refine rr_iast B 62 mh_62 mk_62 dX12_comes_51 ?_
  refine s_aload_n B.1 1 dX12_comes_52 rfl rfl ?_
  refine rr_getA B 61 mh_61 mn_61 mf_61 dX12_comes_53 ?_
  refine s_iload_n B.1 0 dX12_comes_56 rfl rfl ?_
  refine rr_iald B 61 mh_61 mk_61 dX12_comes_57 (fun v5 => ?_)
  refine s_iconst (v := 1) B.1 dX12_comes_58 (by decide) ?_
  refine s_icmp_ne B.1 68 dX12_comes_59 (by decide) ?_ ?_
  · exact Sm.lvs [1, 0] rfl (sm_comes_J68 B v2)
  · refine s_aload_n B.1 1 dX12_comes_62 rfl rfl ?_
    refine s_iload_n B.1 0 dX12_comes_63 rfl rfl ?_
    refine rr_cvi (As := [.int v2]) (st := []) B (m_keep B.ok v2) mc_keep ml_keep mi_keep me_keep ini12 md_keep (by decide) rfl (Nat.le_of_ble_eq_true rfl) dX12_comes_64 (fun r6 => ?_)
    refine s_pop B.1 dX12_comes_67 rfl ?_
    exact Sm.lvs [1, 0] rfl (sm_comes_J68 B v2)
def R_ends_J14 (l1 : Int32) : RS → Option (Unit × RS) :=
  wA 11 l1 (vp_nar .boolean (0 : Int32)) <|
  wA 24 l1 (0 : Int32) <|
  wA 31 l1 (0 : Int32) <|
  wA 38 l1 (0 : Int32) <|
  wA 43 l1 (0 : Int32) <|
  rI 74 fun v1 =>
  wI 74 (v1 + (1 : Int32)) <|
  rt ()
set_option maxRecDepth 10000 in
theorem sm_ends_J14 {g : Gm RS Unit} (B : Br g cX12_ends 2 voV none 7 179) (l1 : Int32) : Sm g 2 14 [(0, .ref g.1.2.2.2.2.2), (1, .int l1)] [] (R_ends_J14 l1) := by
  unfold R_ends_J14
  refine s_aload_n B.1 0 dX12_ends_14 rfl rfl ?_
  refine rr_getA B 11 mh_11 mn_11 mf_11 dX12_ends_15 ?_
  refine s_iload_n B.1 1 dX12_ends_18 rfl rfl ?_
  refine s_iconst (v := 0) B.1 dX12_ends_19 (by decide) ?_
  refine rr_zast B 11 mh_11 mk_11 dX12_ends_20 ?_
  refine s_aload_n B.1 0 dX12_ends_21 rfl rfl ?_
  refine rr_getA B 24 mh_24 mn_24 mf_24 dX12_ends_22 ?_
  refine s_iload_n B.1 1 dX12_ends_25 rfl rfl ?_
  refine s_iconst (v := 0) B.1 dX12_ends_26 (by decide) ?_
  refine rr_iast B 24 mh_24 mk_24 dX12_ends_27 ?_
  refine s_aload_n B.1 0 dX12_ends_28 rfl rfl ?_
  refine rr_getA B 31 mh_31 mn_31 mf_31 dX12_ends_29 ?_
  refine s_iload_n B.1 1 dX12_ends_32 rfl rfl ?_
  refine s_iconst (v := 0) B.1 dX12_ends_33 (by decide) ?_
  refine rr_iast B 31 mh_31 mk_31 dX12_ends_34 ?_
  refine s_aload_n B.1 0 dX12_ends_35 rfl rfl ?_
  refine rr_getA B 38 mh_38 mn_38 mf_38 dX12_ends_36 ?_
  refine s_iload_n B.1 1 dX12_ends_39 rfl rfl ?_
  refine s_iconst (v := 0) B.1 dX12_ends_40 (by decide) ?_
  refine rr_iast B 38 mh_38 mk_38 dX12_ends_41 ?_
  refine s_aload_n B.1 0 dX12_ends_42 rfl rfl ?_
  refine rr_getA B 43 mh_43 mn_43 mf_43 dX12_ends_43 ?_
  refine s_iload_n B.1 1 dX12_ends_46 rfl rfl ?_
  refine s_iconst (v := 0) B.1 dX12_ends_47 (by decide) ?_
  refine rr_iast B 43 mh_43 mk_43 dX12_ends_48 ?_
  refine s_aload_n B.1 0 dX12_ends_49 rfl rfl ?_
  refine s_dup B.1 dX12_ends_50 rfl ?_
  refine rr_getI B 74 mh_74 mk_74 mf_74 dX12_ends_51 (fun v1 => ?_)
  refine s_iconst (v := 1) B.1 dX12_ends_54 (by decide) ?_
  refine s_iadd B.1 dX12_ends_55 ?_
  refine rr_putI B 74 mh_74 mk_74 mf_74 dX12_ends_56 ?_
  exact s_vret B.1 B.2.1 dX12_ends_59
def R_ends (l1 : Int32) : RS → Option (Unit × RS) :=
  rA 20 l1 fun v2 =>
  if v2 < 0 then (
    R_ends_J14 l1
  ) else (
    bd (R_comes l1) fun r3 =>
    R_ends_J14 l1
  )
set_option maxRecDepth 10000 in
theorem m_ends {w : Wd} (hw : Wok w) (l1 : Int32) : MR w yX12_ends cX12_ends 2 none 7 179 voV [.ref w.2.2.2.2.2, .int l1] (R_ends l1) := by
  refine MR.of hw rfl (Nat.le_of_ble_eq_true rfl) (fun g hg B => ?_)
  subst hg
  unfold R_ends
  show Sm g 2 0 [(0, .ref g.1.2.2.2.2.2), (1, .int l1)] [] _
  refine s_aload_n B.1 0 dX12_ends_0 rfl rfl ?_
  refine rr_getA B 20 mh_20 mn_20 mf_20 dX12_ends_1 ?_
  refine s_iload_n B.1 1 dX12_ends_4 rfl rfl ?_
  refine rr_iald B 20 mh_20 mk_20 dX12_ends_5 (fun v2 => ?_)
  refine s_if_lt B.1 14 dX12_ends_6 (by decide) ?_ ?_
  · exact Sm.lvs [0, 1] rfl (sm_ends_J14 B l1)
  · refine s_aload_n B.1 0 dX12_ends_9 rfl rfl ?_
    refine s_iload_n B.1 1 dX12_ends_10 rfl rfl ?_
    refine rr_cvv (As := [.int l1]) (st := []) B (m_comes B.ok l1) mc_comes ml_comes mi_comes me_comes ini12 md_comes (by decide) rfl (Nat.le_of_ble_eq_true rfl) dX12_ends_11 (fun r3 => ?_)
    exact Sm.lvs [0, 1] rfl (sm_ends_J14 B l1)
def R_lost_J181 (s1 : Int32) (s2 : Int64) : RS → Option (Unit × RS) :=
  wL 23 s1 s2 <|
  rt ()
set_option maxRecDepth 10000 in
theorem sm_lost_J181 {g : Gm RS Unit} (B : Br g cX12_lost 3 voV none 8 200) (s1 : Int32) (s2 : Int64) : Sm g 3 181 [] [.long s2, .int s1, .ref (g.1.2.2.2.2.2 + mO 23)] (R_lost_J181 s1 s2) := by
  unfold R_lost_J181
  refine rr_last B 23 mh_23 mk_23 dX12_lost_181 ?_
  exact s_vret B.1 B.2.1 dX12_lost_182
def R_lost_J126 (l2 : Int32) : RS → Option (Unit × RS) :=
  rL 16 l2 fun v1 =>
  if (lg_cmp v1 (0 : Int64)) = 0 then (
    bd (R_ends l2) fun r5 =>
    rt ()
  ) else (
    rL 16 l2 fun v2 =>
    if (lg_cmp v2 (4294967295 : Int64)) = 0 then (
      R_lost_J181 l2 (-1 : Int64)
    ) else (
      rI 66 fun v3 =>
      rL 16 l2 fun v4 =>
      R_lost_J181 l2 (v3.toInt64 + v4)
    )
  )
set_option maxRecDepth 10000 in
theorem sm_lost_J126 {g : Gm RS Unit} (B : Br g cX12_lost 3 voV none 8 200) (l2 : Int32) : Sm g 3 126 [(0, .ref g.1.2.2.2.2.2), (2, .int l2)] [] (R_lost_J126 l2) := by
  unfold R_lost_J126
  refine s_aload_n B.1 0 dX12_lost_126 rfl rfl ?_
  refine rr_getA B 16 mh_16 mn_16 mf_16 dX12_lost_127 ?_
  refine s_iload_n B.1 1 dX12_lost_130 rfl rfl ?_
  refine rr_lald B 16 mh_16 mk_16 dX12_lost_131 (fun v1 => ?_)
  refine s_lconst (v := 0) B.1 dX12_lost_132 (by decide) ?_
  refine s_lcmp B.1 dX12_lost_133 ?_
  refine s_if_ne B.1 145 dX12_lost_134 (by decide) ?_ ?_
  · refine s_aload_n B.1 0 dX12_lost_145 rfl rfl ?_
    refine rr_getA B 23 mh_23 mn_23 mf_23 dX12_lost_146 ?_
    refine s_iload_n B.1 1 dX12_lost_149 rfl rfl ?_
    refine s_aload_n B.1 0 dX12_lost_150 rfl rfl ?_
    refine rr_getA B 16 mh_16 mn_16 mf_16 dX12_lost_151 ?_
    refine s_iload_n B.1 1 dX12_lost_154 rfl rfl ?_
    refine rr_lald B 16 mh_16 mk_16 dX12_lost_155 (fun v2 => ?_)
    refine s_ldc2 (v := (4294967295)) B.1 tw_2018 dX12_lost_156 ?_
    refine s_lcmp B.1 dX12_lost_159 ?_
    refine s_if_ne B.1 169 dX12_lost_160 (by decide) ?_ ?_
    · refine s_aload_n B.1 0 dX12_lost_169 rfl rfl ?_
      refine rr_getI B 66 mh_66 mk_66 mf_66 dX12_lost_170 (fun v3 => ?_)
      refine s_i2l B.1 dX12_lost_173 ?_
      refine s_aload_n B.1 0 dX12_lost_174 rfl rfl ?_
      refine rr_getA B 16 mh_16 mn_16 mf_16 dX12_lost_175 ?_
      refine s_iload_n B.1 1 dX12_lost_178 rfl rfl ?_
      refine rr_lald B 16 mh_16 mk_16 dX12_lost_179 (fun v4 => ?_)
      refine s_ladd B.1 dX12_lost_180 ?_
      exact Sm.lvs [] rfl (sm_lost_J181 B l2 (v3.toInt64 + v4))
    · refine s_ldc2 (v := (-1)) B.1 tw_1920 dX12_lost_163 ?_
      refine s_goto B.1 181 dX12_lost_166 (by decide) ?_
      exact Sm.lvs [] rfl (sm_lost_J181 B l2 (-1 : Int64))
  · refine s_aload_n B.1 0 dX12_lost_137 rfl rfl ?_
    refine s_iload_n B.1 1 dX12_lost_138 rfl rfl ?_
    refine rr_cvv (As := [.int l2]) (st := []) B (m_ends B.ok l2) mc_ends ml_ends mi_ends me_ends ini12 md_ends (by decide) rfl (Nat.le_of_ble_eq_true rfl) dX12_lost_139 (fun r5 => ?_)
    refine s_goto B.1 182 dX12_lost_142 (by decide) ?_
    exact s_vret B.1 B.2.1 dX12_lost_182
def R_lost_J99 (l2 : Int32) : RS → Option (Unit × RS) :=
  rA 20 l2 fun v6 =>
  if v6 < 0 then (
    R_lost_J126 l2
  ) else (
    rI 66 fun v7 =>
    rL 21 l2 fun v8 =>
    wL 22 l2 (v7.toInt64 + v8) <|
    R_lost_J126 l2
  )
set_option maxRecDepth 10000 in
theorem sm_lost_J99 {g : Gm RS Unit} (B : Br g cX12_lost 3 voV none 8 200) (l2 : Int32) : Sm g 3 99 [(0, .ref g.1.2.2.2.2.2), (2, .int l2)] [] (R_lost_J99 l2) := by
  unfold R_lost_J99
  refine s_aload_n B.1 0 dX12_lost_99 rfl rfl ?_
  refine rr_getA B 20 mh_20 mn_20 mf_20 dX12_lost_100 ?_
  refine s_iload_n B.1 1 dX12_lost_103 rfl rfl ?_
  refine rr_iald B 20 mh_20 mk_20 dX12_lost_104 (fun v6 => ?_)
  refine s_if_lt B.1 126 dX12_lost_105 (by decide) ?_ ?_
  · exact Sm.lvs [0, 1] rfl (sm_lost_J126 B l2)
  · refine s_aload_n B.1 0 dX12_lost_108 rfl rfl ?_
    refine rr_getA B 22 mh_22 mn_22 mf_22 dX12_lost_109 ?_
    refine s_iload_n B.1 1 dX12_lost_112 rfl rfl ?_
    refine s_aload_n B.1 0 dX12_lost_113 rfl rfl ?_
    refine rr_getI B 66 mh_66 mk_66 mf_66 dX12_lost_114 (fun v7 => ?_)
    refine s_i2l B.1 dX12_lost_117 ?_
    refine s_aload_n B.1 0 dX12_lost_118 rfl rfl ?_
    refine rr_getA B 21 mh_21 mn_21 mf_21 dX12_lost_119 ?_
    refine s_iload_n B.1 1 dX12_lost_122 rfl rfl ?_
    refine rr_lald B 21 mh_21 mk_21 dX12_lost_123 (fun v8 => ?_)
    refine s_ladd B.1 dX12_lost_124 ?_
    refine rr_last B 22 mh_22 mk_22 dX12_lost_125 ?_
    exact Sm.lvs [0, 1] rfl (sm_lost_J126 B l2)
def R_lost_J45 (l1 : Int32) : RS → Option (Unit × RS) :=
  rA 7 l1 fun v9 =>
  wA 7 l1 (-1 : Int32) <|
  if 0 ≤ v9 then (
    wA 15 v9 (-1 : Int32) <|
    rA 20 v9 fun v10 =>
    if v10 < 0 then (
      R_lost_J99 v9
    ) else (
      rL 21 v9 fun v11 =>
      if (lg_cmp v11 (0 : Int64)) = 0 then (
        bd (R_comes v9) fun r12 =>
        R_lost_J126 v9
      ) else (
        R_lost_J99 v9
      )
    )
  ) else (
    rt ()
  )
set_option maxRecDepth 10000 in
theorem sm_lost_J45 {g : Gm RS Unit} (B : Br g cX12_lost 3 voV none 8 200) (l1 : Int32) : Sm g 3 45 [(0, .ref g.1.2.2.2.2.2), (1, .int l1)] [] (R_lost_J45 l1) := by
  unfold R_lost_J45
  refine s_aload_n B.1 0 dX12_lost_45 rfl rfl ?_
  refine rr_getA B 7 mh_7 mn_7 mf_7 dX12_lost_46 ?_
  refine s_iload_n B.1 1 dX12_lost_49 rfl rfl ?_
  refine rr_iald B 7 mh_7 mk_7 dX12_lost_50 (fun v9 => ?_)
  refine s_istore_n (lv' := [(2, .int v9), (0, .ref g.1.2.2.2.2.2), (1, .int l1)]) B.1 dX12_lost_51 rfl (by decide) rfl ?_
  refine s_aload_n B.1 1 dX12_lost_52 rfl rfl ?_
  refine rr_getA B 7 mh_7 mn_7 mf_7 dX12_lost_53 ?_
  refine s_iload_n B.1 2 dX12_lost_56 rfl rfl ?_
  refine s_iconst (v := (-1)) B.1 dX12_lost_57 (by decide) ?_
  refine rr_iast B 7 mh_7 mk_7 dX12_lost_58 ?_
  refine s_iload_n B.1 0 dX12_lost_59 rfl rfl ?_
  refine s_if_ge B.1 64 dX12_lost_60 (by decide) ?_ ?_
  · refine s_aload_n B.1 1 dX12_lost_64 rfl rfl ?_
    refine rr_getA B 15 mh_15 mn_15 mf_15 dX12_lost_65 ?_
    refine s_iload_n B.1 0 dX12_lost_68 rfl rfl ?_
    refine s_iconst (v := (-1)) B.1 dX12_lost_69 (by decide) ?_
    refine rr_iast B 15 mh_15 mk_15 dX12_lost_70 ?_
    refine s_aload_n B.1 1 dX12_lost_71 rfl rfl ?_
    refine rr_getA B 20 mh_20 mn_20 mf_20 dX12_lost_72 ?_
    refine s_iload_n B.1 0 dX12_lost_75 rfl rfl ?_
    refine rr_iald B 20 mh_20 mk_20 dX12_lost_76 (fun v10 => ?_)
    refine s_if_lt B.1 99 dX12_lost_77 (by decide) ?_ ?_
    · exact Sm.lvs [1, 0] rfl (sm_lost_J99 B v9)
    · refine s_aload_n B.1 1 dX12_lost_80 rfl rfl ?_
      refine rr_getA B 21 mh_21 mn_21 mf_21 dX12_lost_81 ?_
      refine s_iload_n B.1 0 dX12_lost_84 rfl rfl ?_
      refine rr_lald B 21 mh_21 mk_21 dX12_lost_85 (fun v11 => ?_)
      refine s_lconst (v := 0) B.1 dX12_lost_86 (by decide) ?_
      refine s_lcmp B.1 dX12_lost_87 ?_
      refine s_if_ne B.1 99 dX12_lost_88 (by decide) ?_ ?_
      · exact Sm.lvs [1, 0] rfl (sm_lost_J99 B v9)
      · refine s_aload_n B.1 1 dX12_lost_91 rfl rfl ?_
        refine s_iload_n B.1 0 dX12_lost_92 rfl rfl ?_
        refine rr_cvv (As := [.int v9]) (st := []) B (m_comes B.ok v9) mc_comes ml_comes mi_comes me_comes ini12 md_comes (by decide) rfl (Nat.le_of_ble_eq_true rfl) dX12_lost_93 (fun r12 => ?_)
        refine s_goto B.1 126 dX12_lost_96 (by decide) ?_
        exact Sm.lvs [1, 0] rfl (sm_lost_J126 B v9)
  · exact s_vret B.1 B.2.1 dX12_lost_63
def R_lost_B23 (kb : Int32 → Int32 → RS → Option (Unit × RS)) (ke45 : Int32 → RS → Option (Unit × RS)) (l1 : Int32) (l2 : Int32) : RS → Option (Unit × RS) :=
  if (4 : Int32) ≤ l2 then (
    ke45 l1
  ) else (
    wA 9 (((4 : Int32) * l1) + l2) (0 : Int32) <|
    kb l1 (l2 + 1)
  )
def R_lost_L23 (ke45 : Int32 → RS → Option (Unit × RS)) : Nat → Int32 → Int32 → RS → Option (Unit × RS)
  | 0, _, _ => no
  | n + 1, l1, l2 => R_lost_B23 (fun l1 l2 => R_lost_L23 ke45 n l1 l2) ke45 l1 l2
set_option maxRecDepth 10000 in
theorem sm_lost_B23 {g : Gm RS Unit} {kb : Int32 → Int32 → RS → Option (Unit × RS)} {ke45 : Int32 → RS → Option (Unit × RS)} (B : Br g cX12_lost 3 voV none 8 200) (hkb : ∀ (l1 : Int32) (l2 : Int32), Sm g 3 23 [(0, .ref g.1.2.2.2.2.2), (1, .int l1), (2, .int l2)] [] (kb l1 l2)) (hke45 : ∀ (l1 : Int32), Sm g 3 45 [(0, .ref g.1.2.2.2.2.2), (1, .int l1)] [] (ke45 l1)) (l1 : Int32) (l2 : Int32) : Sm g 3 23 [(0, .ref g.1.2.2.2.2.2), (1, .int l1), (2, .int l2)] [] (R_lost_B23 kb ke45 l1 l2) := by
  unfold R_lost_B23
  refine s_iload_n B.1 2 dX12_lost_23 rfl rfl ?_
  refine s_iconst (v := 4) B.1 dX12_lost_24 (by decide) ?_
  refine s_icmp_ge B.1 45 dX12_lost_25 (by decide) ?_ ?_
  · exact Sm.lvs [0, 1] rfl (hke45 l1)
  · refine s_aload_n B.1 0 dX12_lost_28 rfl rfl ?_
    refine rr_getA B 9 mh_9 mn_9 mf_9 dX12_lost_29 ?_
    refine s_iconst (v := 4) B.1 dX12_lost_32 (by decide) ?_
    refine s_iload_n B.1 1 dX12_lost_33 rfl rfl ?_
    refine s_imul B.1 dX12_lost_34 ?_
    refine s_iload_n B.1 2 dX12_lost_35 rfl rfl ?_
    refine s_iadd B.1 dX12_lost_36 ?_
    refine s_iconst (v := 0) B.1 dX12_lost_37 (by decide) ?_
    refine rr_iast B 9 mh_9 mk_9 dX12_lost_38 ?_
    refine s_iinc (v := l2 + 1) (lv' := [(2, .int (l2 + 1)), (0, .ref g.1.2.2.2.2.2), (1, .int l1)]) B.1 2 dX12_lost_39 rfl rfl (by decide) rfl ?_
    refine s_goto B.1 23 dX12_lost_42 (by decide) ?_
    exact Sm.lvs [1, 2, 0] rfl (hkb l1 (l2 + 1))
set_option maxRecDepth 10000 in
theorem sm_lost_L23 {g : Gm RS Unit} {ke45 : Int32 → RS → Option (Unit × RS)} (B : Br g cX12_lost 3 voV none 8 200) (hke45 : ∀ (l1 : Int32), Sm g 3 45 [(0, .ref g.1.2.2.2.2.2), (1, .int l1)] [] (ke45 l1)) : ∀ (n : Nat) (l1 : Int32) (l2 : Int32), Sm g 3 23 [(0, .ref g.1.2.2.2.2.2), (1, .int l1), (2, .int l2)] [] (R_lost_L23 ke45 n l1 l2)
  | 0, _, _ => Sm.fail
  | n + 1, l1, l2 => sm_lost_B23 B (sm_lost_L23 B hke45 n) hke45 l1 l2
def R_lost (l1 : Int32) : RS → Option (Unit × RS) :=
  wA 1 l1 (vp_nar .boolean (0 : Int32)) <|
  wA 2 l1 (vp_nar .boolean (0 : Int32)) <|
  wA 5 l1 (0 : Int32) <|
  R_lost_L23 (fun l1 => R_lost_J45 l1) fu l1 (0 : Int32)
set_option maxRecDepth 10000 in
theorem m_lost {w : Wd} (hw : Wok w) (l1 : Int32) : MR w yX12_lost cX12_lost 3 none 8 200 voV [.ref w.2.2.2.2.2, .int l1] (R_lost l1) := by
  refine MR.of hw rfl (Nat.le_of_ble_eq_true rfl) (fun g hg B => ?_)
  subst hg
  unfold R_lost
  show Sm g 3 0 [(0, .ref g.1.2.2.2.2.2), (1, .int l1)] [] _
  refine s_aload_n B.1 0 dX12_lost_0 rfl rfl ?_
  refine rr_getA B 1 mh_1 mn_1 mf_1 dX12_lost_1 ?_
  refine s_iload_n B.1 1 dX12_lost_4 rfl rfl ?_
  refine s_iconst (v := 0) B.1 dX12_lost_5 (by decide) ?_
  refine rr_zast B 1 mh_1 mk_1 dX12_lost_6 ?_
  refine s_aload_n B.1 0 dX12_lost_7 rfl rfl ?_
  refine rr_getA B 2 mh_2 mn_2 mf_2 dX12_lost_8 ?_
  refine s_iload_n B.1 1 dX12_lost_11 rfl rfl ?_
  refine s_iconst (v := 0) B.1 dX12_lost_12 (by decide) ?_
  refine rr_zast B 2 mh_2 mk_2 dX12_lost_13 ?_
  refine s_aload_n B.1 0 dX12_lost_14 rfl rfl ?_
  refine rr_getA B 5 mh_5 mn_5 mf_5 dX12_lost_15 ?_
  refine s_iload_n B.1 1 dX12_lost_18 rfl rfl ?_
  refine s_iconst (v := 0) B.1 dX12_lost_19 (by decide) ?_
  refine rr_iast B 5 mh_5 mk_5 dX12_lost_20 ?_
  refine s_iconst (v := 0) B.1 dX12_lost_21 (by decide) ?_
  refine s_istore_n (lv' := [(2, .int (0 : Int32)), (0, .ref g.1.2.2.2.2.2), (1, .int l1)]) B.1 dX12_lost_22 rfl (by decide) rfl ?_
  exact Sm.lvs [1, 2, 0] rfl (sm_lost_L23 B (fun l1 => sm_lost_J45 B l1) fu l1 (0 : Int32))
def R_short4 (l1 : Int32) (l2 : Int32) (l3 : Int32) (l4 : Int32) (l5 : Int32) (l6 : Int32) : RS → Option (Unit × RS) :=
  wI 89 ((0 : Int32)) <|
  bd (R_put l2) fun r1 =>
  bd (R_put l3) fun r2 =>
  bd (R_put l4) fun r3 =>
  bd (R_put l5) fun r4 =>
  wI 89 (l6) <|
  bd (R_send l1) fun r5 =>
  rt ()
set_option maxRecDepth 10000 in
theorem m_short4 {w : Wd} (hw : Wok w) (l1 : Int32) (l2 : Int32) (l3 : Int32) (l4 : Int32) (l5 : Int32) (l6 : Int32) : MR w yX12_short4 cX12_short4 7 none 1 22 voV [.ref w.2.2.2.2.2, .int l1, .int l2, .int l3, .int l4, .int l5, .int l6] (R_short4 l1 l2 l3 l4 l5 l6) := by
  refine MR.of hw rfl (Nat.le_of_ble_eq_true rfl) (fun g hg B => ?_)
  subst hg
  unfold R_short4
  show Sm g 7 0 [(0, .ref g.1.2.2.2.2.2), (1, .int l1), (2, .int l2), (3, .int l3), (4, .int l4), (5, .int l5), (6, .int l6)] [] _
  refine s_aload_n B.1 0 dX12_short4_0 rfl rfl ?_
  refine s_iconst (v := 0) B.1 dX12_short4_1 (by decide) ?_
  refine rr_putI B 89 mh_89 mk_89 mf_89 dX12_short4_2 ?_
  refine s_aload_n B.1 0 dX12_short4_5 rfl rfl ?_
  refine s_iload_n B.1 2 dX12_short4_6 rfl rfl ?_
  refine rr_cvv (As := [.int l2]) (st := []) B (m_put B.ok l2) mc_put ml_put mi_put me_put ini12 md_put (by decide) rfl (Nat.le_of_ble_eq_true rfl) dX12_short4_7 (fun r1 => ?_)
  refine s_aload_n B.1 0 dX12_short4_10 rfl rfl ?_
  refine s_iload_n B.1 3 dX12_short4_11 rfl rfl ?_
  refine rr_cvv (As := [.int l3]) (st := []) B (m_put B.ok l3) mc_put ml_put mi_put me_put ini12 md_put (by decide) rfl (Nat.le_of_ble_eq_true rfl) dX12_short4_12 (fun r2 => ?_)
  refine s_aload_n B.1 0 dX12_short4_15 rfl rfl ?_
  refine s_iload B.1 4 dX12_short4_16 rfl ?_
  refine rr_cvv (As := [.int l4]) (st := []) B (m_put B.ok l4) mc_put ml_put mi_put me_put ini12 md_put (by decide) rfl (Nat.le_of_ble_eq_true rfl) dX12_short4_18 (fun r3 => ?_)
  refine s_aload_n B.1 0 dX12_short4_21 rfl rfl ?_
  refine s_iload B.1 5 dX12_short4_22 rfl ?_
  refine rr_cvv (As := [.int l5]) (st := []) B (m_put B.ok l5) mc_put ml_put mi_put me_put ini12 md_put (by decide) rfl (Nat.le_of_ble_eq_true rfl) dX12_short4_24 (fun r4 => ?_)
  refine s_aload_n B.1 0 dX12_short4_27 rfl rfl ?_
  refine s_iload B.1 6 dX12_short4_28 rfl ?_
  refine rr_putI B 89 mh_89 mk_89 mf_89 dX12_short4_30 ?_
  refine s_aload_n B.1 0 dX12_short4_33 rfl rfl ?_
  refine s_iload_n B.1 1 dX12_short4_34 rfl rfl ?_
  refine rr_cvv (As := [.int l1]) (st := []) B (m_send B.ok l1) mc_send ml_send mi_send me_send ini12 md_send (by decide) rfl (Nat.le_of_ble_eq_true rfl) dX12_short4_35 (fun r5 => ?_)
  exact s_vret B.1 B.2.1 dX12_short4_38
def R_fail_J51 (l1 : Int32) : RS → Option (Unit × RS) :=
  bd (R_lost l1) fun r1 =>
  rt ()
set_option maxRecDepth 10000 in
theorem sm_fail_J51 {g : Gm RS Unit} (B : Br g cX12_fail 4 voV none 9 222) (l1 : Int32) : Sm g 4 51 [(0, .ref g.1.2.2.2.2.2), (1, .int l1)] [] (R_fail_J51 l1) := by
  unfold R_fail_J51
  refine s_aload_n B.1 0 dX12_fail_51 rfl rfl ?_
  refine s_iload_n B.1 1 dX12_fail_52 rfl rfl ?_
  refine rr_cvv (As := [.int l1]) (st := []) B (m_lost B.ok l1) mc_lost ml_lost mi_lost me_lost ini12 md_lost (by decide) rfl (Nat.le_of_ble_eq_true rfl) dX12_fail_53 (fun r1 => ?_)
  exact s_vret B.1 B.2.1 dX12_fail_56
def R_fail (l1 : Int32) (l2 : Int32) : RS → Option (Unit × RS) :=
  rA 6 ((410 : Int32) * l1) fun v2 =>
  lq ((v2 >>> ((4 : Int32) &&& 31)) &&& (15 : Int32)) fun x3 =>
  rA 7 l1 fun v4 =>
  if v4 < 0 then (
    if x3 = (1 : Int32) then (
      bd (R_connackFault l1 l2) fun r5 =>
      R_fail_J51 l1
    ) else (
      R_fail_J51 l1
    )
  ) else (
    bd (R_short4 l1 (224 : Int32) (2 : Int32) l2 (0 : Int32) (4 : Int32)) fun r6 =>
    R_fail_J51 l1
  )
set_option maxRecDepth 10000 in
theorem m_fail {w : Wd} (hw : Wok w) (l1 : Int32) (l2 : Int32) : MR w yX12_fail cX12_fail 4 none 9 222 voV [.ref w.2.2.2.2.2, .int l1, .int l2] (R_fail l1 l2) := by
  refine MR.of hw rfl (Nat.le_of_ble_eq_true rfl) (fun g hg B => ?_)
  subst hg
  unfold R_fail
  show Sm g 4 0 [(0, .ref g.1.2.2.2.2.2), (1, .int l1), (2, .int l2)] [] _
  refine s_aload_n B.1 0 dX12_fail_0 rfl rfl ?_
  refine rr_getA B 6 mh_6 mn_6 mf_6 dX12_fail_1 ?_
  refine s_sipush (v := (410)) B.1 dX12_fail_4 (by decide) ?_
  refine s_iload_n B.1 1 dX12_fail_7 rfl rfl ?_
  refine s_imul B.1 dX12_fail_8 ?_
  refine rr_bald B 6 mh_6 mk_6 dX12_fail_9 (fun v2 => ?_)
  refine s_iconst (v := 4) B.1 dX12_fail_10 (by decide) ?_
  refine s_ishr B.1 dX12_fail_11 ?_
  refine s_bipush (v := (15)) B.1 dX12_fail_12 (by decide) ?_
  refine s_iand B.1 dX12_fail_14 ?_
  refine s_lqi (fun x3 => ?_)
  refine s_istore_n (lv' := [(3, .int x3), (0, .ref g.1.2.2.2.2.2), (1, .int l1), (2, .int l2)]) B.1 dX12_fail_15 rfl (by decide) rfl ?_
  refine s_aload_n B.1 1 dX12_fail_16 rfl rfl ?_
  refine rr_getA B 7 mh_7 mn_7 mf_7 dX12_fail_17 ?_
  refine s_iload_n B.1 2 dX12_fail_20 rfl rfl ?_
  refine rr_iald B 7 mh_7 mk_7 dX12_fail_21 (fun v4 => ?_)
  refine s_if_lt B.1 40 dX12_fail_22 (by decide) ?_ ?_
  · refine s_iload_n B.1 0 dX12_fail_40 rfl rfl ?_
    refine s_iconst (v := 1) B.1 dX12_fail_41 (by decide) ?_
    refine s_icmp_ne B.1 51 dX12_fail_42 (by decide) ?_ ?_
    · exact Sm.lvs [1, 2] rfl (sm_fail_J51 B l1)
    · refine s_aload_n B.1 1 dX12_fail_45 rfl rfl ?_
      refine s_iload_n B.1 2 dX12_fail_46 rfl rfl ?_
      refine s_iload_n B.1 3 dX12_fail_47 rfl rfl ?_
      refine rr_cvv (As := [.int l1, .int l2]) (st := []) B (m_connackFault B.ok l1 l2) mc_connackFault ml_connackFault mi_connackFault me_connackFault ini12 md_connackFault (by decide) rfl (Nat.le_of_ble_eq_true rfl) dX12_fail_48 (fun r5 => ?_)
      exact Sm.lvs [1, 2] rfl (sm_fail_J51 B l1)
  · refine s_aload_n B.1 1 dX12_fail_25 rfl rfl ?_
    refine s_iload_n B.1 2 dX12_fail_26 rfl rfl ?_
    refine s_sipush (v := (224)) B.1 dX12_fail_27 (by decide) ?_
    refine s_iconst (v := 2) B.1 dX12_fail_30 (by decide) ?_
    refine s_iload_n B.1 3 dX12_fail_31 rfl rfl ?_
    refine s_iconst (v := 0) B.1 dX12_fail_32 (by decide) ?_
    refine s_iconst (v := 4) B.1 dX12_fail_33 (by decide) ?_
    refine rr_cvv (As := [.int l1, .int (224 : Int32), .int (2 : Int32), .int l2, .int (0 : Int32), .int (4 : Int32)]) (st := []) B (m_short4 B.ok l1 (224 : Int32) (2 : Int32) l2 (0 : Int32) (4 : Int32)) mc_short4 ml_short4 mi_short4 me_short4 ini12 md_short4 (by decide) rfl (Nat.le_of_ble_eq_true rfl) dX12_fail_34 (fun r6 => ?_)
    refine s_goto B.1 51 dX12_fail_37 (by decide) ?_
    exact Sm.lvs [1, 2] rfl (sm_fail_J51 B l1)
def R_settle_J42 : RS → Option (Unit × RS) :=
  rt ()
set_option maxRecDepth 10000 in
theorem sm_settle_J42 {g : Gm RS Unit} (B : Br g cX12_settle 2 voV none 9 222) : Sm g 2 42 [] [] (R_settle_J42) := by
  unfold R_settle_J42
  exact s_vret B.1 B.2.1 dX12_settle_42
def R_settle_B2 (kb : Int32 → RS → Option (Unit × RS)) (ke42 : RS → Option (Unit × RS)) (l1 : Int32) : RS → Option (Unit × RS) :=
  if (8 : Int32) ≤ l1 then (
    ke42
  ) else (
    rA 1 l1 fun v1 =>
    if v1 = 0 then (
      kb (l1 + 1)
    ) else (
      rA 2 l1 fun v2 =>
      if v2 = 0 then (
        kb (l1 + 1)
      ) else (
        bd (R_lost l1) fun r3 =>
        kb (0 : Int32)
      )
    )
  )
def R_settle_L2 (ke42 : RS → Option (Unit × RS)) : Nat → Int32 → RS → Option (Unit × RS)
  | 0, _ => no
  | n + 1, l1 => R_settle_B2 (fun l1 => R_settle_L2 ke42 n l1) ke42 l1
set_option maxRecDepth 10000 in
theorem sm_settle_B2 {g : Gm RS Unit} {kb : Int32 → RS → Option (Unit × RS)} {ke42 : RS → Option (Unit × RS)} (B : Br g cX12_settle 2 voV none 9 222) (hkb : ∀ (l1 : Int32), Sm g 2 2 [(0, .ref g.1.2.2.2.2.2), (1, .int l1)] [] (kb l1)) (hke42 : Sm g 2 42 [] [] (ke42)) (l1 : Int32) : Sm g 2 2 [(0, .ref g.1.2.2.2.2.2), (1, .int l1)] [] (R_settle_B2 kb ke42 l1) := by
  unfold R_settle_B2
  refine s_iload_n B.1 1 dX12_settle_2 rfl rfl ?_
  refine s_bipush (v := (8)) B.1 dX12_settle_3 (by decide) ?_
  refine s_icmp_ge B.1 42 dX12_settle_5 (by decide) ?_ ?_
  · exact Sm.lvs [] rfl (hke42)
  · refine s_aload_n B.1 0 dX12_settle_8 rfl rfl ?_
    refine rr_getA B 1 mh_1 mn_1 mf_1 dX12_settle_9 ?_
    refine s_iload_n B.1 1 dX12_settle_12 rfl rfl ?_
    refine rr_zald B 1 mh_1 mk_1 dX12_settle_13 (fun v1 => ?_)
    refine s_if_eq B.1 36 dX12_settle_14 (by decide) ?_ ?_
    · refine s_iinc (v := l1 + 1) (lv' := [(1, .int (l1 + 1)), (0, .ref g.1.2.2.2.2.2)]) B.1 1 dX12_settle_36 rfl rfl (by decide) rfl ?_
      refine s_goto B.1 2 dX12_settle_39 (by decide) ?_
      exact Sm.lvs [1, 0] rfl (hkb (l1 + 1))
    · refine s_aload_n B.1 0 dX12_settle_17 rfl rfl ?_
      refine rr_getA B 2 mh_2 mn_2 mf_2 dX12_settle_18 ?_
      refine s_iload_n B.1 1 dX12_settle_21 rfl rfl ?_
      refine rr_zald B 2 mh_2 mk_2 dX12_settle_22 (fun v2 => ?_)
      refine s_if_eq B.1 36 dX12_settle_23 (by decide) ?_ ?_
      · refine s_iinc (v := l1 + 1) (lv' := [(1, .int (l1 + 1)), (0, .ref g.1.2.2.2.2.2)]) B.1 1 dX12_settle_36 rfl rfl (by decide) rfl ?_
        refine s_goto B.1 2 dX12_settle_39 (by decide) ?_
        exact Sm.lvs [1, 0] rfl (hkb (l1 + 1))
      · refine s_aload_n B.1 0 dX12_settle_26 rfl rfl ?_
        refine s_iload_n B.1 1 dX12_settle_27 rfl rfl ?_
        refine rr_cvv (As := [.int l1]) (st := []) B (m_lost B.ok l1) mc_lost ml_lost mi_lost me_lost ini12 md_lost (by decide) rfl (Nat.le_of_ble_eq_true rfl) dX12_settle_28 (fun r3 => ?_)
        refine s_iconst (v := 0) B.1 dX12_settle_31 (by decide) ?_
        refine s_istore_n (lv' := [(1, .int (0 : Int32)), (0, .ref g.1.2.2.2.2.2)]) B.1 dX12_settle_32 rfl (by decide) rfl ?_
        refine s_goto B.1 2 dX12_settle_33 (by decide) ?_
        exact Sm.lvs [1, 0] rfl (hkb (0 : Int32))
set_option maxRecDepth 10000 in
theorem sm_settle_L2 {g : Gm RS Unit} {ke42 : RS → Option (Unit × RS)} (B : Br g cX12_settle 2 voV none 9 222) (hke42 : Sm g 2 42 [] [] (ke42)) : ∀ (n : Nat) (l1 : Int32), Sm g 2 2 [(0, .ref g.1.2.2.2.2.2), (1, .int l1)] [] (R_settle_L2 ke42 n l1)
  | 0, _ => Sm.fail
  | n + 1, l1 => sm_settle_B2 B (sm_settle_L2 B hke42 n) hke42 l1
def R_settle : RS → Option (Unit × RS) :=
  R_settle_L2 (R_settle_J42) fu (0 : Int32)
set_option maxRecDepth 10000 in
theorem m_settle {w : Wd} (hw : Wok w) : MR w yX12_settle cX12_settle 2 none 9 222 voV [.ref w.2.2.2.2.2] (R_settle) := by
  refine MR.of hw rfl (Nat.le_of_ble_eq_true rfl) (fun g hg B => ?_)
  subst hg
  unfold R_settle
  show Sm g 2 0 [(0, .ref g.1.2.2.2.2.2)] [] _
  refine s_iconst (v := 0) B.1 dX12_settle_0 (by decide) ?_
  refine s_istore_n (lv' := [(1, .int (0 : Int32)), (0, .ref g.1.2.2.2.2.2)]) B.1 dX12_settle_1 rfl (by decide) rfl ?_
  exact Sm.lvs [1, 0] rfl (sm_settle_L2 B (sm_settle_J42 B) fu (0 : Int32))
def R_answer_J45 : RS → Option (Unit × RS) :=
  rI 75 fun v1 =>
  bd (R_send v1) fun r2 =>
  rt ()
set_option maxRecDepth 10000 in
theorem sm_answer_J45 {g : Gm RS Unit} (B : Br g cX12_answer 4 voV none 1 22) : Sm g 4 45 [(0, .ref g.1.2.2.2.2.2)] [] (R_answer_J45) := by
  unfold R_answer_J45
  refine s_aload_n B.1 0 dX12_answer_45 rfl rfl ?_
  refine s_aload_n B.1 0 dX12_answer_46 rfl rfl ?_
  refine rr_getI B 75 mh_75 mk_75 mf_75 dX12_answer_47 (fun v1 => ?_)
  refine rr_cvv (As := [.int v1]) (st := []) B (m_send B.ok v1) mc_send ml_send mi_send me_send ini12 md_send (by decide) rfl (Nat.le_of_ble_eq_true rfl) dX12_answer_50 (fun r2 => ?_)
  exact s_vret B.1 B.2.1 dX12_answer_53
def R_answer_J20 (l2 : Int32) (l3 : Int32) (s1 : Int32) : RS → Option (Unit × RS) :=
  bd (R_put s1) fun r3 =>
  bd (R_put (l2 >>> ((8 : Int32) &&& 31))) fun r4 =>
  bd (R_put l2) fun r5 =>
  if l3 = 0 then (
    R_answer_J45
  ) else (
    bd (R_put l3) fun r6 =>
    R_answer_J45
  )
set_option maxRecDepth 10000 in
theorem sm_answer_J20 {g : Gm RS Unit} (B : Br g cX12_answer 4 voV none 1 22) (l2 : Int32) (l3 : Int32) (s1 : Int32) : Sm g 4 20 [(0, .ref g.1.2.2.2.2.2), (2, .int l2), (3, .int l3)] [.int s1, .ref g.1.2.2.2.2.2] (R_answer_J20 l2 l3 s1) := by
  unfold R_answer_J20
  refine rr_cvv (As := [.int s1]) (st := []) B (m_put B.ok s1) mc_put ml_put mi_put me_put ini12 md_put (by decide) rfl (Nat.le_of_ble_eq_true rfl) dX12_answer_20 (fun r3 => ?_)
  refine s_aload_n B.1 0 dX12_answer_23 rfl rfl ?_
  refine s_iload_n B.1 1 dX12_answer_24 rfl rfl ?_
  refine s_bipush (v := (8)) B.1 dX12_answer_25 (by decide) ?_
  refine s_ishr B.1 dX12_answer_27 ?_
  refine rr_cvv (As := [.int (l2 >>> ((8 : Int32) &&& 31))]) (st := []) B (m_put B.ok (l2 >>> ((8 : Int32) &&& 31))) mc_put ml_put mi_put me_put ini12 md_put (by decide) rfl (Nat.le_of_ble_eq_true rfl) dX12_answer_28 (fun r4 => ?_)
  refine s_aload_n B.1 0 dX12_answer_31 rfl rfl ?_
  refine s_iload_n B.1 1 dX12_answer_32 rfl rfl ?_
  refine rr_cvv (As := [.int l2]) (st := []) B (m_put B.ok l2) mc_put ml_put mi_put me_put ini12 md_put (by decide) rfl (Nat.le_of_ble_eq_true rfl) dX12_answer_33 (fun r5 => ?_)
  refine s_iload_n B.1 2 dX12_answer_36 rfl rfl ?_
  refine s_if_eq B.1 45 dX12_answer_37 (by decide) ?_ ?_
  · exact Sm.lvs [0] rfl (sm_answer_J45 B)
  · refine s_aload_n B.1 0 dX12_answer_40 rfl rfl ?_
    refine s_iload_n B.1 2 dX12_answer_41 rfl rfl ?_
    refine rr_cvv (As := [.int l3]) (st := []) B (m_put B.ok l3) mc_put ml_put mi_put me_put ini12 md_put (by decide) rfl (Nat.le_of_ble_eq_true rfl) dX12_answer_42 (fun r6 => ?_)
    exact Sm.lvs [0] rfl (sm_answer_J45 B)
def R_answer (l1 : Int32) (l2 : Int32) (l3 : Int32) : RS → Option (Unit × RS) :=
  wI 89 ((0 : Int32)) <|
  bd (R_put l1) fun r7 =>
  if l3 = 0 then (
    R_answer_J20 l2 l3 (2 : Int32)
  ) else (
    R_answer_J20 l2 l3 (3 : Int32)
  )
set_option maxRecDepth 10000 in
theorem m_answer {w : Wd} (hw : Wok w) (l1 : Int32) (l2 : Int32) (l3 : Int32) : MR w yX12_answer cX12_answer 4 none 1 22 voV [.ref w.2.2.2.2.2, .int l1, .int l2, .int l3] (R_answer l1 l2 l3) := by
  refine MR.of hw rfl (Nat.le_of_ble_eq_true rfl) (fun g hg B => ?_)
  subst hg
  unfold R_answer
  show Sm g 4 0 [(0, .ref g.1.2.2.2.2.2), (1, .int l1), (2, .int l2), (3, .int l3)] [] _
  refine s_aload_n B.1 0 dX12_answer_0 rfl rfl ?_
  refine s_iconst (v := 0) B.1 dX12_answer_1 (by decide) ?_
  refine rr_putI B 89 mh_89 mk_89 mf_89 dX12_answer_2 ?_
  refine s_aload_n B.1 0 dX12_answer_5 rfl rfl ?_
  refine s_iload_n B.1 1 dX12_answer_6 rfl rfl ?_
  refine rr_cvv (As := [.int l1]) (st := []) B (m_put B.ok l1) mc_put ml_put mi_put me_put ini12 md_put (by decide) rfl (Nat.le_of_ble_eq_true rfl) dX12_answer_7 (fun r7 => ?_)
  refine s_aload_n B.1 0 dX12_answer_10 rfl rfl ?_
  refine s_iload_n B.1 3 dX12_answer_11 rfl rfl ?_
  refine s_if_ne B.1 19 dX12_answer_12 (by decide) ?_ ?_
  · refine s_iconst (v := 3) B.1 dX12_answer_19 (by decide) ?_
    exact Sm.lvs [0, 2, 3] rfl (sm_answer_J20 B l2 l3 (3 : Int32))
  · refine s_iconst (v := 2) B.1 dX12_answer_15 (by decide) ?_
    refine s_goto B.1 20 dX12_answer_16 (by decide) ?_
    exact Sm.lvs [0, 2, 3] rfl (sm_answer_J20 B l2 l3 (2 : Int32))
