def R_name_J216 : RS → Option (Unit × RS) :=
  rt ()
set_option maxRecDepth 10000 in
theorem sm_name_J216 {g : Gm RS Unit} (B : Br g cX12_name 6 voV none 1 26) : Sm g 6 216 [] [] (R_name_J216) := by
  unfold R_name_J216
  exact s_vret B.1 B.2.1 dX12_name_216
def R_name_J213 (kb : Int32 → Int32 → RS → Option (Unit × RS)) (ke216 : RS → Option (Unit × RS)) (l1 : Int32) (l2 : Int32) : RS → Option (Unit × RS) :=
  kb l1 l2
set_option maxRecDepth 10000 in
theorem sm_name_J213 {g : Gm RS Unit} {kb : Int32 → Int32 → RS → Option (Unit × RS)} {ke216 : RS → Option (Unit × RS)} (B : Br g cX12_name 6 voV none 1 26) (hkb : ∀ (l1 : Int32) (l2 : Int32), Sm g 6 12 [(0, .ref g.1.2.2.2.2.2), (1, .int l1), (2, .int l2)] [] (kb l1 l2)) (hke216 : Sm g 6 216 [] [] (ke216)) (l1 : Int32) (l2 : Int32) : Sm g 6 213 [(0, .ref g.1.2.2.2.2.2), (1, .int l1), (2, .int l2)] [] (R_name_J213 kb ke216 l1 l2) := by
  unfold R_name_J213
  refine s_goto B.1 12 dX12_name_213 (by decide) ?_
  exact Sm.lvs [0, 1, 2] rfl (hkb l1 l2)
def R_name_B180 (kb : Int32 → Int32 → Int32 → Int32 → RS → Option (Unit × RS)) (ke213 : Int32 → Int32 → RS → Option (Unit × RS)) (l1 : Int32) (l2 : Int32) (l3 : Int32) (l5 : Int32) : RS → Option (Unit × RS) :=
  if ((4 : Int32) + l3) ≤ l5 then (
    ke213 l1 l2
  ) else (
    rA 90 l5 fun v1 =>
    wA 14 (((20 : Int32) * l1) + l5) (vp_nar .byte v1) <|
    kb l1 l2 l3 (l5 + 1)
  )
def R_name_L180 (ke213 : Int32 → Int32 → RS → Option (Unit × RS)) : Nat → Int32 → Int32 → Int32 → Int32 → RS → Option (Unit × RS)
  | 0, _, _, _, _ => no
  | n + 1, l1, l2, l3, l5 => R_name_B180 (fun l1 l2 l3 l5 => R_name_L180 ke213 n l1 l2 l3 l5) ke213 l1 l2 l3 l5
set_option maxRecDepth 10000 in
theorem sm_name_B180 {g : Gm RS Unit} {kb : Int32 → Int32 → Int32 → Int32 → RS → Option (Unit × RS)} {ke213 : Int32 → Int32 → RS → Option (Unit × RS)} (B : Br g cX12_name 6 voV none 1 26) (hkb : ∀ (l1 : Int32) (l2 : Int32) (l3 : Int32) (l5 : Int32), Sm g 6 180 [(0, .ref g.1.2.2.2.2.2), (1, .int l1), (2, .int l2), (3, .int l3), (5, .int l5)] [] (kb l1 l2 l3 l5)) (hke213 : ∀ (l1 : Int32) (l2 : Int32), Sm g 6 213 [(0, .ref g.1.2.2.2.2.2), (1, .int l1), (2, .int l2)] [] (ke213 l1 l2)) (l1 : Int32) (l2 : Int32) (l3 : Int32) (l5 : Int32) : Sm g 6 180 [(0, .ref g.1.2.2.2.2.2), (1, .int l1), (2, .int l2), (3, .int l3), (5, .int l5)] [] (R_name_B180 kb ke213 l1 l2 l3 l5) := by
  unfold R_name_B180
  refine s_iload B.1 4 dX12_name_180 rfl ?_
  refine s_iconst (v := 4) B.1 dX12_name_182 (by decide) ?_
  refine s_iload_n B.1 3 dX12_name_183 rfl rfl ?_
  refine s_iadd B.1 dX12_name_184 ?_
  refine s_icmp_ge B.1 213 dX12_name_185 (by decide) ?_ ?_
  · exact Sm.lvs [0, 1, 2] rfl (hke213 l1 l2)
  · refine s_aload_n B.1 0 dX12_name_188 rfl rfl ?_
    refine rr_getA B 14 mh_14 mn_14 mf_14 dX12_name_189 ?_
    refine s_bipush (v := (20)) B.1 dX12_name_192 (by decide) ?_
    refine s_iload_n B.1 1 dX12_name_194 rfl rfl ?_
    refine s_imul B.1 dX12_name_195 ?_
    refine s_iload B.1 4 dX12_name_196 rfl ?_
    refine s_iadd B.1 dX12_name_198 ?_
    refine s_aload_n B.1 0 dX12_name_199 rfl rfl ?_
    refine rr_getA B 90 mh_90 mn_90 mf_90 dX12_name_200 ?_
    refine s_iload B.1 4 dX12_name_203 rfl ?_
    refine rr_bald B 90 mh_90 mk_90 dX12_name_205 (fun v1 => ?_)
    refine rr_bast B 14 mh_14 mk_14 dX12_name_206 ?_
    refine s_iinc (v := l5 + 1) (lv' := [(5, .int (l5 + 1)), (0, .ref g.1.2.2.2.2.2), (1, .int l1), (2, .int l2), (3, .int l3)]) B.1 4 dX12_name_207 rfl rfl (by decide) rfl ?_
    refine s_goto B.1 180 dX12_name_210 (by decide) ?_
    exact Sm.lvs [1, 2, 3, 4, 0] rfl (hkb l1 l2 l3 (l5 + 1))
set_option maxRecDepth 10000 in
theorem sm_name_L180 {g : Gm RS Unit} {ke213 : Int32 → Int32 → RS → Option (Unit × RS)} (B : Br g cX12_name 6 voV none 1 26) (hke213 : ∀ (l1 : Int32) (l2 : Int32), Sm g 6 213 [(0, .ref g.1.2.2.2.2.2), (1, .int l1), (2, .int l2)] [] (ke213 l1 l2)) : ∀ (n : Nat) (l1 : Int32) (l2 : Int32) (l3 : Int32) (l5 : Int32), Sm g 6 180 [(0, .ref g.1.2.2.2.2.2), (1, .int l1), (2, .int l2), (3, .int l3), (5, .int l5)] [] (R_name_L180 ke213 n l1 l2 l3 l5)
  | 0, _, _, _, _ => Sm.fail
  | n + 1, l1, l2, l3, l5 => sm_name_B180 B (sm_name_L180 B hke213 n) hke213 l1 l2 l3 l5
def R_name_J160 (kb : Int32 → Int32 → RS → Option (Unit × RS)) (ke216 : RS → Option (Unit × RS)) (l1 : Int32) (l3 : Int32) (s0 : Int32) : RS → Option (Unit × RS) :=
  wA 11 l1 (vp_nar .boolean (1 : Int32)) <|
  wA 13 l1 ((4 : Int32) + l3) <|
  R_name_L180 (fun l1 l2 => R_name_J213 kb ke216 l1 l2) fu l1 s0 l3 (0 : Int32)
set_option maxRecDepth 10000 in
theorem sm_name_J160 {g : Gm RS Unit} {kb : Int32 → Int32 → RS → Option (Unit × RS)} {ke216 : RS → Option (Unit × RS)} (B : Br g cX12_name 6 voV none 1 26) (hkb : ∀ (l1 : Int32) (l2 : Int32), Sm g 6 12 [(0, .ref g.1.2.2.2.2.2), (1, .int l1), (2, .int l2)] [] (kb l1 l2)) (hke216 : Sm g 6 216 [] [] (ke216)) (l1 : Int32) (l3 : Int32) (s0 : Int32) : Sm g 6 160 [(0, .ref g.1.2.2.2.2.2), (1, .int l1), (3, .int l3)] [.int s0] (R_name_J160 kb ke216 l1 l3 s0) := by
  unfold R_name_J160
  refine s_istore_n (lv' := [(2, .int s0), (0, .ref g.1.2.2.2.2.2), (1, .int l1), (3, .int l3)]) B.1 dX12_name_160 rfl (by decide) rfl ?_
  refine s_aload_n B.1 1 dX12_name_161 rfl rfl ?_
  refine rr_getA B 11 mh_11 mn_11 mf_11 dX12_name_162 ?_
  refine s_iload_n B.1 2 dX12_name_165 rfl rfl ?_
  refine s_iconst (v := 1) B.1 dX12_name_166 (by decide) ?_
  refine rr_zast B 11 mh_11 mk_11 dX12_name_167 ?_
  refine s_aload_n B.1 1 dX12_name_168 rfl rfl ?_
  refine rr_getA B 13 mh_13 mn_13 mf_13 dX12_name_169 ?_
  refine s_iload_n B.1 2 dX12_name_172 rfl rfl ?_
  refine s_iconst (v := 4) B.1 dX12_name_173 (by decide) ?_
  refine s_iload_n B.1 3 dX12_name_174 rfl rfl ?_
  refine s_iadd B.1 dX12_name_175 ?_
  refine rr_iast B 13 mh_13 mk_13 dX12_name_176 ?_
  refine s_iconst (v := 0) B.1 dX12_name_177 (by decide) ?_
  refine s_istore (lv' := [(5, .int (0 : Int32)), (2, .int s0), (0, .ref g.1.2.2.2.2.2), (1, .int l1), (3, .int l3)]) B.1 dX12_name_178 (by decide) rfl ?_
  exact Sm.lvs [2, 3, 1, 4, 0] rfl (sm_name_L180 B (fun l1 l2 => sm_name_J213 B hkb hke216 l1 l2) fu l1 s0 l3 (0 : Int32))
def R_name_J133 (kb : Int32 → Int32 → RS → Option (Unit × RS)) (ke216 : RS → Option (Unit × RS)) (l1 : Int32) (l3 : Int32) : RS → Option (Unit × RS) :=
  wA 11 l1 (vp_nar .boolean (0 : Int32)) <|
  bd (R_client 90 (0 : Int32) ((4 : Int32) + l3)) fun r2 =>
  if 0 ≤ r2 then (
    R_name_J160 kb ke216 l1 l3 (0 : Int32)
  ) else (
    R_name_J160 kb ke216 l1 l3 (1 : Int32)
  )
set_option maxRecDepth 10000 in
theorem sm_name_J133 {g : Gm RS Unit} {kb : Int32 → Int32 → RS → Option (Unit × RS)} {ke216 : RS → Option (Unit × RS)} (B : Br g cX12_name 6 voV none 1 26) (hkb : ∀ (l1 : Int32) (l2 : Int32), Sm g 6 12 [(0, .ref g.1.2.2.2.2.2), (1, .int l1), (2, .int l2)] [] (kb l1 l2)) (hke216 : Sm g 6 216 [] [] (ke216)) (l1 : Int32) (l3 : Int32) : Sm g 6 133 [(0, .ref g.1.2.2.2.2.2), (1, .int l1), (3, .int l3)] [] (R_name_J133 kb ke216 l1 l3) := by
  unfold R_name_J133
  refine s_aload_n B.1 0 dX12_name_133 rfl rfl ?_
  refine rr_getA B 11 mh_11 mn_11 mf_11 dX12_name_134 ?_
  refine s_iload_n B.1 1 dX12_name_137 rfl rfl ?_
  refine s_iconst (v := 0) B.1 dX12_name_138 (by decide) ?_
  refine rr_zast B 11 mh_11 mk_11 dX12_name_139 ?_
  refine s_aload_n B.1 0 dX12_name_140 rfl rfl ?_
  refine s_aload_n B.1 0 dX12_name_141 rfl rfl ?_
  refine rr_getA B 90 mh_90 mn_90 mf_90 dX12_name_142 ?_
  refine s_iconst (v := 0) B.1 dX12_name_145 (by decide) ?_
  refine s_iconst (v := 4) B.1 dX12_name_146 (by decide) ?_
  refine s_iload_n B.1 2 dX12_name_147 rfl rfl ?_
  refine s_iadd B.1 dX12_name_148 ?_
  refine rr_cvi (As := [.ref (g.1.2.2.2.2.2 + mO 90), .int (0 : Int32), .int ((4 : Int32) + l3)]) (st := []) B (m_client B.ok 90 (0 : Int32) ((4 : Int32) + l3) mh_90 mk_90) mc_client ml_client mi_client me_client ini12 md_client (by decide) rfl (Nat.le_of_ble_eq_true rfl) dX12_name_149 (fun r2 => ?_)
  refine s_if_ge B.1 159 dX12_name_152 (by decide) ?_ ?_
  · refine s_iconst (v := 0) B.1 dX12_name_159 (by decide) ?_
    exact Sm.lvs [0, 1, 2] rfl (sm_name_J160 B hkb hke216 l1 l3 (0 : Int32))
  · refine s_iconst (v := 1) B.1 dX12_name_155 (by decide) ?_
    refine s_goto B.1 160 dX12_name_156 (by decide) ?_
    exact Sm.lvs [0, 1, 2] rfl (sm_name_J160 B hkb hke216 l1 l3 (1 : Int32))
def R_name_B91 (kb : Int32 → Int32 → Int32 → Int32 → RS → Option (Unit × RS)) (ke133 : Int32 → Int32 → RS → Option (Unit × RS)) (l1 : Int32) (l3 : Int32) (l4 : Int32) (l5 : Int32) : RS → Option (Unit × RS) :=
  if l3 ≤ l5 then (
    ke133 l1 l3
  ) else (
    rI 71 fun v3 =>
    gd (¬ l4 = 0) <|
    wA 90 ((4 : Int32) + l5) (vp_nar .byte (((48 : Int32) + ((v3 / l4) - (v3 / l4) / (10 : Int32) * (10 : Int32))).toInt8.toInt32)) <|
    lq (l4 / (10 : Int32)) fun x4 =>
    kb l1 l3 x4 (l5 + 1)
  )
def R_name_L91 (ke133 : Int32 → Int32 → RS → Option (Unit × RS)) : Nat → Int32 → Int32 → Int32 → Int32 → RS → Option (Unit × RS)
  | 0, _, _, _, _ => no
  | n + 1, l1, l3, l4, l5 => R_name_B91 (fun l1 l3 l4 l5 => R_name_L91 ke133 n l1 l3 l4 l5) ke133 l1 l3 l4 l5
set_option maxRecDepth 10000 in
theorem sm_name_B91 {g : Gm RS Unit} {kb : Int32 → Int32 → Int32 → Int32 → RS → Option (Unit × RS)} {ke133 : Int32 → Int32 → RS → Option (Unit × RS)} (B : Br g cX12_name 6 voV none 1 26) (hkb : ∀ (l1 : Int32) (l3 : Int32) (l4 : Int32) (l5 : Int32), Sm g 6 91 [(0, .ref g.1.2.2.2.2.2), (1, .int l1), (3, .int l3), (4, .int l4), (5, .int l5)] [] (kb l1 l3 l4 l5)) (hke133 : ∀ (l1 : Int32) (l3 : Int32), Sm g 6 133 [(0, .ref g.1.2.2.2.2.2), (1, .int l1), (3, .int l3)] [] (ke133 l1 l3)) (l1 : Int32) (l3 : Int32) (l4 : Int32) (l5 : Int32) : Sm g 6 91 [(0, .ref g.1.2.2.2.2.2), (1, .int l1), (3, .int l3), (4, .int l4), (5, .int l5)] [] (R_name_B91 kb ke133 l1 l3 l4 l5) := by
  unfold R_name_B91
  refine s_iload B.1 4 dX12_name_91 rfl ?_
  refine s_iload_n B.1 2 dX12_name_93 rfl rfl ?_
  refine s_icmp_ge B.1 133 dX12_name_94 (by decide) ?_ ?_
  · exact Sm.lvs [0, 1, 2] rfl (hke133 l1 l3)
  · refine s_aload_n B.1 0 dX12_name_97 rfl rfl ?_
    refine rr_getA B 90 mh_90 mn_90 mf_90 dX12_name_98 ?_
    refine s_iconst (v := 4) B.1 dX12_name_101 (by decide) ?_
    refine s_iload B.1 4 dX12_name_102 rfl ?_
    refine s_iadd B.1 dX12_name_104 ?_
    refine s_bipush (v := (48)) B.1 dX12_name_105 (by decide) ?_
    refine s_aload_n B.1 0 dX12_name_107 rfl rfl ?_
    refine rr_getI B 71 mh_71 mk_71 mf_71 dX12_name_108 (fun v3 => ?_)
    refine s_iload B.1 3 dX12_name_111 rfl ?_
    refine Sm.guard fun hne => ?_
    refine s_idiv B.1 dX12_name_113 hne ?_
    refine s_bipush (v := (10)) B.1 dX12_name_114 (by decide) ?_
    refine s_irem B.1 dX12_name_116 (by decide) ?_
    refine s_iadd B.1 dX12_name_117 ?_
    refine s_i2b B.1 dX12_name_118 ?_
    refine rr_bast B 90 mh_90 mk_90 dX12_name_119 ?_
    refine s_iload B.1 3 dX12_name_120 rfl ?_
    refine s_bipush (v := (10)) B.1 dX12_name_122 (by decide) ?_
    refine s_idiv B.1 dX12_name_124 (by decide) ?_
    refine s_lqi (fun x4 => ?_)
    refine s_istore (lv' := [(4, .int x4), (0, .ref g.1.2.2.2.2.2), (1, .int l1), (3, .int l3), (5, .int l5)]) B.1 dX12_name_125 (by decide) rfl ?_
    refine s_iinc (v := l5 + 1) (lv' := [(5, .int (l5 + 1)), (4, .int x4), (0, .ref g.1.2.2.2.2.2), (1, .int l1), (3, .int l3)]) B.1 4 dX12_name_127 rfl rfl (by decide) rfl ?_
    refine s_goto B.1 91 dX12_name_130 (by decide) ?_
    exact Sm.lvs [2, 3, 4, 1, 0] rfl (hkb l1 l3 x4 (l5 + 1))
set_option maxRecDepth 10000 in
theorem sm_name_L91 {g : Gm RS Unit} {ke133 : Int32 → Int32 → RS → Option (Unit × RS)} (B : Br g cX12_name 6 voV none 1 26) (hke133 : ∀ (l1 : Int32) (l3 : Int32), Sm g 6 133 [(0, .ref g.1.2.2.2.2.2), (1, .int l1), (3, .int l3)] [] (ke133 l1 l3)) : ∀ (n : Nat) (l1 : Int32) (l3 : Int32) (l4 : Int32) (l5 : Int32), Sm g 6 91 [(0, .ref g.1.2.2.2.2.2), (1, .int l1), (3, .int l3), (4, .int l4), (5, .int l5)] [] (R_name_L91 ke133 n l1 l3 l4 l5)
  | 0, _, _, _, _ => Sm.fail
  | n + 1, l1, l3, l4, l5 => sm_name_B91 B (sm_name_L91 B hke133 n) hke133 l1 l3 l4 l5
def R_name_J56 (kb : Int32 → Int32 → RS → Option (Unit × RS)) (ke216 : RS → Option (Unit × RS)) (l1 : Int32) (l3 : Int32) (l4 : Int32) : RS → Option (Unit × RS) :=
  wA 90 (0 : Int32) (vp_nar .byte (97 : Int32)) <|
  wA 90 (1 : Int32) (vp_nar .byte (117 : Int32)) <|
  wA 90 (2 : Int32) (vp_nar .byte (116 : Int32)) <|
  wA 90 (3 : Int32) (vp_nar .byte (111 : Int32)) <|
  R_name_L91 (fun l1 l3 => R_name_J133 kb ke216 l1 l3) fu l1 l3 l4 (0 : Int32)
set_option maxRecDepth 10000 in
theorem sm_name_J56 {g : Gm RS Unit} {kb : Int32 → Int32 → RS → Option (Unit × RS)} {ke216 : RS → Option (Unit × RS)} (B : Br g cX12_name 6 voV none 1 26) (hkb : ∀ (l1 : Int32) (l2 : Int32), Sm g 6 12 [(0, .ref g.1.2.2.2.2.2), (1, .int l1), (2, .int l2)] [] (kb l1 l2)) (hke216 : Sm g 6 216 [] [] (ke216)) (l1 : Int32) (l3 : Int32) (l4 : Int32) : Sm g 6 56 [(0, .ref g.1.2.2.2.2.2), (1, .int l1), (3, .int l3), (4, .int l4)] [] (R_name_J56 kb ke216 l1 l3 l4) := by
  unfold R_name_J56
  refine s_aload_n B.1 0 dX12_name_56 rfl rfl ?_
  refine rr_getA B 90 mh_90 mn_90 mf_90 dX12_name_57 ?_
  refine s_iconst (v := 0) B.1 dX12_name_60 (by decide) ?_
  refine s_bipush (v := (97)) B.1 dX12_name_61 (by decide) ?_
  refine rr_bast B 90 mh_90 mk_90 dX12_name_63 ?_
  refine s_aload_n B.1 0 dX12_name_64 rfl rfl ?_
  refine rr_getA B 90 mh_90 mn_90 mf_90 dX12_name_65 ?_
  refine s_iconst (v := 1) B.1 dX12_name_68 (by decide) ?_
  refine s_bipush (v := (117)) B.1 dX12_name_69 (by decide) ?_
  refine rr_bast B 90 mh_90 mk_90 dX12_name_71 ?_
  refine s_aload_n B.1 0 dX12_name_72 rfl rfl ?_
  refine rr_getA B 90 mh_90 mn_90 mf_90 dX12_name_73 ?_
  refine s_iconst (v := 2) B.1 dX12_name_76 (by decide) ?_
  refine s_bipush (v := (116)) B.1 dX12_name_77 (by decide) ?_
  refine rr_bast B 90 mh_90 mk_90 dX12_name_79 ?_
  refine s_aload_n B.1 0 dX12_name_80 rfl rfl ?_
  refine rr_getA B 90 mh_90 mn_90 mf_90 dX12_name_81 ?_
  refine s_iconst (v := 3) B.1 dX12_name_84 (by decide) ?_
  refine s_bipush (v := (111)) B.1 dX12_name_85 (by decide) ?_
  refine rr_bast B 90 mh_90 mk_90 dX12_name_87 ?_
  refine s_iconst (v := 0) B.1 dX12_name_88 (by decide) ?_
  refine s_istore (lv' := [(5, .int (0 : Int32)), (0, .ref g.1.2.2.2.2.2), (1, .int l1), (3, .int l3), (4, .int l4)]) B.1 dX12_name_89 (by decide) rfl ?_
  exact Sm.lvs [1, 2, 3, 4, 0] rfl (sm_name_L91 B (fun l1 l3 => sm_name_J133 B hkb hke216 l1 l3) fu l1 l3 l4 (0 : Int32))
def R_name_B31 (kb : Int32 → Int32 → Int32 → RS → Option (Unit × RS)) (ke56 : Int32 → Int32 → Int32 → RS → Option (Unit × RS)) (l1 : Int32) (l3 : Int32) (l4 : Int32) : RS → Option (Unit × RS) :=
  rI 71 fun v5 =>
  gd (¬ l4 = 0) <|
  if (v5 / l4) ≤ (9 : Int32) then (
    ke56 l1 l3 l4
  ) else (
    lq (l4 * (10 : Int32)) fun x6 =>
    kb l1 (l3 + 1) x6
  )
def R_name_L31 (ke56 : Int32 → Int32 → Int32 → RS → Option (Unit × RS)) : Nat → Int32 → Int32 → Int32 → RS → Option (Unit × RS)
  | 0, _, _, _ => no
  | n + 1, l1, l3, l4 => R_name_B31 (fun l1 l3 l4 => R_name_L31 ke56 n l1 l3 l4) ke56 l1 l3 l4
set_option maxRecDepth 10000 in
theorem sm_name_B31 {g : Gm RS Unit} {kb : Int32 → Int32 → Int32 → RS → Option (Unit × RS)} {ke56 : Int32 → Int32 → Int32 → RS → Option (Unit × RS)} (B : Br g cX12_name 6 voV none 1 26) (hkb : ∀ (l1 : Int32) (l3 : Int32) (l4 : Int32), Sm g 6 31 [(0, .ref g.1.2.2.2.2.2), (1, .int l1), (3, .int l3), (4, .int l4)] [] (kb l1 l3 l4)) (hke56 : ∀ (l1 : Int32) (l3 : Int32) (l4 : Int32), Sm g 6 56 [(0, .ref g.1.2.2.2.2.2), (1, .int l1), (3, .int l3), (4, .int l4)] [] (ke56 l1 l3 l4)) (l1 : Int32) (l3 : Int32) (l4 : Int32) : Sm g 6 31 [(0, .ref g.1.2.2.2.2.2), (1, .int l1), (3, .int l3), (4, .int l4)] [] (R_name_B31 kb ke56 l1 l3 l4) := by
  unfold R_name_B31
  refine s_aload_n B.1 0 dX12_name_31 rfl rfl ?_
  refine rr_getI B 71 mh_71 mk_71 mf_71 dX12_name_32 (fun v5 => ?_)
  refine s_iload B.1 3 dX12_name_35 rfl ?_
  refine Sm.guard fun hne => ?_
  refine s_idiv B.1 dX12_name_37 hne ?_
  refine s_bipush (v := (9)) B.1 dX12_name_38 (by decide) ?_
  refine s_icmp_le B.1 56 dX12_name_40 (by decide) ?_ ?_
  · exact Sm.lvs [0, 1, 2, 3] rfl (hke56 l1 l3 l4)
  · refine s_iload B.1 3 dX12_name_43 rfl ?_
    refine s_bipush (v := (10)) B.1 dX12_name_45 (by decide) ?_
    refine s_imul B.1 dX12_name_47 ?_
    refine s_lqi (fun x6 => ?_)
    refine s_istore (lv' := [(4, .int x6), (0, .ref g.1.2.2.2.2.2), (1, .int l1), (3, .int l3)]) B.1 dX12_name_48 (by decide) rfl ?_
    refine s_iinc (v := l3 + 1) (lv' := [(3, .int (l3 + 1)), (4, .int x6), (0, .ref g.1.2.2.2.2.2), (1, .int l1)]) B.1 3 dX12_name_50 rfl rfl (by decide) rfl ?_
    refine s_goto B.1 31 dX12_name_53 (by decide) ?_
    exact Sm.lvs [2, 3, 0, 1] rfl (hkb l1 (l3 + 1) x6)
set_option maxRecDepth 10000 in
theorem sm_name_L31 {g : Gm RS Unit} {ke56 : Int32 → Int32 → Int32 → RS → Option (Unit × RS)} (B : Br g cX12_name 6 voV none 1 26) (hke56 : ∀ (l1 : Int32) (l3 : Int32) (l4 : Int32), Sm g 6 56 [(0, .ref g.1.2.2.2.2.2), (1, .int l1), (3, .int l3), (4, .int l4)] [] (ke56 l1 l3 l4)) : ∀ (n : Nat) (l1 : Int32) (l3 : Int32) (l4 : Int32), Sm g 6 31 [(0, .ref g.1.2.2.2.2.2), (1, .int l1), (3, .int l3), (4, .int l4)] [] (R_name_L31 ke56 n l1 l3 l4)
  | 0, _, _, _ => Sm.fail
  | n + 1, l1, l3, l4 => sm_name_B31 B (sm_name_L31 B hke56 n) hke56 l1 l3 l4
def R_name_B12 (kb : Int32 → Int32 → RS → Option (Unit × RS)) (ke216 : RS → Option (Unit × RS)) (l1 : Int32) (l2 : Int32) : RS → Option (Unit × RS) :=
  if l2 = 0 then (
    rI 71 fun v7 =>
    wI 71 (v7 + (1 : Int32)) <|
    R_name_L31 (fun l1 l3 l4 => R_name_J56 kb ke216 l1 l3 l4) fu l1 (1 : Int32) (1 : Int32)
  ) else (
    ke216
  )
def R_name_L12 (ke216 : RS → Option (Unit × RS)) : Nat → Int32 → Int32 → RS → Option (Unit × RS)
  | 0, _, _ => no
  | n + 1, l1, l2 => R_name_B12 (fun l1 l2 => R_name_L12 ke216 n l1 l2) ke216 l1 l2
set_option maxRecDepth 10000 in
theorem sm_name_B12 {g : Gm RS Unit} {kb : Int32 → Int32 → RS → Option (Unit × RS)} {ke216 : RS → Option (Unit × RS)} (B : Br g cX12_name 6 voV none 1 26) (hkb : ∀ (l1 : Int32) (l2 : Int32), Sm g 6 12 [(0, .ref g.1.2.2.2.2.2), (1, .int l1), (2, .int l2)] [] (kb l1 l2)) (hke216 : Sm g 6 216 [] [] (ke216)) (l1 : Int32) (l2 : Int32) : Sm g 6 12 [(0, .ref g.1.2.2.2.2.2), (1, .int l1), (2, .int l2)] [] (R_name_B12 kb ke216 l1 l2) := by
  unfold R_name_B12
  refine s_iload_n B.1 2 dX12_name_12 rfl rfl ?_
  refine s_if_ne B.1 216 dX12_name_13 (by decide) ?_ ?_
  · exact Sm.lvs [] rfl (hke216)
  · refine s_aload_n B.1 0 dX12_name_16 rfl rfl ?_
    refine s_dup B.1 dX12_name_17 rfl ?_
    refine rr_getI B 71 mh_71 mk_71 mf_71 dX12_name_18 (fun v7 => ?_)
    refine s_iconst (v := 1) B.1 dX12_name_21 (by decide) ?_
    refine s_iadd B.1 dX12_name_22 ?_
    refine rr_putI B 71 mh_71 mk_71 mf_71 dX12_name_23 ?_
    refine s_iconst (v := 1) B.1 dX12_name_26 (by decide) ?_
    refine s_istore_n (lv' := [(3, .int (1 : Int32)), (0, .ref g.1.2.2.2.2.2), (1, .int l1), (2, .int l2)]) B.1 dX12_name_27 rfl (by decide) rfl ?_
    refine s_iconst (v := 1) B.1 dX12_name_28 (by decide) ?_
    refine s_istore (lv' := [(4, .int (1 : Int32)), (3, .int (1 : Int32)), (0, .ref g.1.2.2.2.2.2), (1, .int l1), (2, .int l2)]) B.1 dX12_name_29 (by decide) rfl ?_
    exact Sm.lvs [2, 3, 1, 0] rfl (sm_name_L31 B (fun l1 l3 l4 => sm_name_J56 B hkb hke216 l1 l3 l4) fu l1 (1 : Int32) (1 : Int32))
set_option maxRecDepth 10000 in
theorem sm_name_L12 {g : Gm RS Unit} {ke216 : RS → Option (Unit × RS)} (B : Br g cX12_name 6 voV none 1 26) (hke216 : Sm g 6 216 [] [] (ke216)) : ∀ (n : Nat) (l1 : Int32) (l2 : Int32), Sm g 6 12 [(0, .ref g.1.2.2.2.2.2), (1, .int l1), (2, .int l2)] [] (R_name_L12 ke216 n l1 l2)
  | 0, _, _ => Sm.fail
  | n + 1, l1, l2 => sm_name_B12 B (sm_name_L12 B hke216 n) hke216 l1 l2
def R_name (l1 : Int32) : RS → Option (Unit × RS) :=
  rI 72 fun v8 =>
  wI 72 (v8 + (1 : Int32)) <|
  R_name_L12 (R_name_J216) fu l1 (0 : Int32)
set_option maxRecDepth 10000 in
theorem m_name {w : Wd} (hw : Wok w) (l1 : Int32) : MR w yX12_name cX12_name 6 none 1 26 voV [.ref w.2.2.2.2.2, .int l1] (R_name l1) := by
  refine MR.of hw rfl (Nat.le_of_ble_eq_true rfl) (fun g hg B => ?_)
  subst hg
  unfold R_name
  show Sm g 6 0 [(0, .ref g.1.2.2.2.2.2), (1, .int l1)] [] _
  refine s_aload_n B.1 0 dX12_name_0 rfl rfl ?_
  refine s_dup B.1 dX12_name_1 rfl ?_
  refine rr_getI B 72 mh_72 mk_72 mf_72 dX12_name_2 (fun v8 => ?_)
  refine s_iconst (v := 1) B.1 dX12_name_5 (by decide) ?_
  refine s_iadd B.1 dX12_name_6 ?_
  refine rr_putI B 72 mh_72 mk_72 mf_72 dX12_name_7 ?_
  refine s_iconst (v := 0) B.1 dX12_name_10 (by decide) ?_
  refine s_istore_n (lv' := [(2, .int (0 : Int32)), (0, .ref g.1.2.2.2.2.2), (1, .int l1)]) B.1 dX12_name_11 rfl (by decide) rfl ?_
  exact Sm.lvs [1, 2, 0] rfl (sm_name_L12 B (sm_name_J216 B) fu l1 (0 : Int32))
def R_sendBody (l1 : Int32) (l2 : Int32) : RS → Option (Unit × RS) :=
  bd (R_wrap l2) fun r1 =>
  bd (R_send l1) fun r2 =>
  rt ()
set_option maxRecDepth 10000 in
theorem m_sendBody {w : Wd} (hw : Wok w) (l1 : Int32) (l2 : Int32) : MR w yX12_sendBody cX12_sendBody 3 none 2 44 voV [.ref w.2.2.2.2.2, .int l1, .int l2] (R_sendBody l1 l2) := by
  refine MR.of hw rfl (Nat.le_of_ble_eq_true rfl) (fun g hg B => ?_)
  subst hg
  unfold R_sendBody
  show Sm g 3 0 [(0, .ref g.1.2.2.2.2.2), (1, .int l1), (2, .int l2)] [] _
  refine s_aload_n B.1 0 dX12_sendBody_0 rfl rfl ?_
  refine s_iload_n B.1 2 dX12_sendBody_1 rfl rfl ?_
  refine rr_cvv (As := [.int l2]) (st := []) B (m_wrap B.ok l2) mc_wrap ml_wrap mi_wrap me_wrap ini12 md_wrap (by decide) rfl (Nat.le_of_ble_eq_true rfl) dX12_sendBody_2 (fun r1 => ?_)
  refine s_aload_n B.1 0 dX12_sendBody_5 rfl rfl ?_
  refine s_iload_n B.1 1 dX12_sendBody_6 rfl rfl ?_
  refine rr_cvv (As := [.int l1]) (st := []) B (m_send B.ok l1) mc_send ml_send mi_send me_send ini12 md_send (by decide) rfl (Nat.le_of_ble_eq_true rfl) dX12_sendBody_7 (fun r2 => ?_)
  exact s_vret B.1 B.2.1 dX12_sendBody_10
def R_connect_J1340 (l18 : Int32) : RS → Option (Unit × RS) :=
  rI 75 fun v1 =>
  bd (R_sendBody v1 (32 : Int32)) fun r2 =>
  bd (R_again l18) fun r3 =>
  bd (R_pump l18) fun r4 =>
  rt ()
set_option maxRecDepth 10000 in
theorem sm_connect_J1340 {g : Gm RS Unit} (B : Br g cX12_connect 22 voV none 9 222) (l18 : Int32) : Sm g 22 1340 [(0, .ref g.1.2.2.2.2.2), (18, .int l18)] [] (R_connect_J1340 l18) := by
  unfold R_connect_J1340
  refine s_aload_n B.1 0 dX12_connect_1340 rfl rfl ?_
  refine s_aload_n B.1 0 dX12_connect_1341 rfl rfl ?_
  refine rr_getI B 75 mh_75 mk_75 mf_75 dX12_connect_1342 (fun v1 => ?_)
  refine s_bipush (v := (32)) B.1 dX12_connect_1345 (by decide) ?_
  refine rr_cvv (As := [.int v1, .int (32 : Int32)]) (st := []) B (m_sendBody B.ok v1 (32 : Int32)) mc_sendBody ml_sendBody mi_sendBody me_sendBody ini12 md_sendBody (by decide) rfl (Nat.le_of_ble_eq_true rfl) dX12_connect_1347 (fun r2 => ?_)
  refine s_aload_n B.1 0 dX12_connect_1350 rfl rfl ?_
  refine s_iload B.1 1 dX12_connect_1351 rfl ?_
  refine rr_cvv (As := [.int l18]) (st := []) B (m_again B.ok l18) mc_again ml_again mi_again me_again ini12 md_again (by decide) rfl (Nat.le_of_ble_eq_true rfl) dX12_connect_1353 (fun r3 => ?_)
  refine s_aload_n B.1 0 dX12_connect_1356 rfl rfl ?_
  refine s_iload B.1 1 dX12_connect_1357 rfl ?_
  refine rr_cvv (As := [.int l18]) (st := []) B (m_pump B.ok l18) mc_pump ml_pump mi_pump me_pump ini12 md_pump (by decide) rfl (Nat.le_of_ble_eq_true rfl) dX12_connect_1359 (fun r4 => ?_)
  exact s_vret B.1 B.2.1 dX12_connect_1362
def R_connect_B1305 (kb : Int32 → Int32 → RS → Option (Unit × RS)) (ke1340 : Int32 → RS → Option (Unit × RS)) (l18 : Int32) (l21 : Int32) : RS → Option (Unit × RS) :=
  rA 13 l18 fun v5 =>
  if v5 ≤ l21 then (
    ke1340 l18
  ) else (
    rA 14 (((20 : Int32) * l18) + l21) fun v6 =>
    bd (R_byteOf v6) fun r7 =>
    kb l18 (l21 + 1)
  )
def R_connect_L1305 (ke1340 : Int32 → RS → Option (Unit × RS)) : Nat → Int32 → Int32 → RS → Option (Unit × RS)
  | 0, _, _ => no
  | n + 1, l18, l21 => R_connect_B1305 (fun l18 l21 => R_connect_L1305 ke1340 n l18 l21) ke1340 l18 l21
set_option maxRecDepth 10000 in
theorem sm_connect_B1305 {g : Gm RS Unit} {kb : Int32 → Int32 → RS → Option (Unit × RS)} {ke1340 : Int32 → RS → Option (Unit × RS)} (B : Br g cX12_connect 22 voV none 9 222) (hkb : ∀ (l18 : Int32) (l21 : Int32), Sm g 22 1305 [(0, .ref g.1.2.2.2.2.2), (18, .int l18), (21, .int l21)] [] (kb l18 l21)) (hke1340 : ∀ (l18 : Int32), Sm g 22 1340 [(0, .ref g.1.2.2.2.2.2), (18, .int l18)] [] (ke1340 l18)) (l18 : Int32) (l21 : Int32) : Sm g 22 1305 [(0, .ref g.1.2.2.2.2.2), (18, .int l18), (21, .int l21)] [] (R_connect_B1305 kb ke1340 l18 l21) := by
  unfold R_connect_B1305
  refine s_iload B.1 2 dX12_connect_1305 rfl ?_
  refine s_aload_n B.1 0 dX12_connect_1307 rfl rfl ?_
  refine rr_getA B 13 mh_13 mn_13 mf_13 dX12_connect_1308 ?_
  refine s_iload B.1 1 dX12_connect_1311 rfl ?_
  refine rr_iald B 13 mh_13 mk_13 dX12_connect_1313 (fun v5 => ?_)
  refine s_icmp_ge B.1 1340 dX12_connect_1314 (by decide) ?_ ?_
  · exact Sm.lvs [0, 1] rfl (hke1340 l18)
  · refine s_aload_n B.1 0 dX12_connect_1317 rfl rfl ?_
    refine s_aload_n B.1 0 dX12_connect_1318 rfl rfl ?_
    refine rr_getA B 14 mh_14 mn_14 mf_14 dX12_connect_1319 ?_
    refine s_bipush (v := (20)) B.1 dX12_connect_1322 (by decide) ?_
    refine s_iload B.1 1 dX12_connect_1324 rfl ?_
    refine s_imul B.1 dX12_connect_1326 ?_
    refine s_iload B.1 2 dX12_connect_1327 rfl ?_
    refine s_iadd B.1 dX12_connect_1329 ?_
    refine rr_bald B 14 mh_14 mk_14 dX12_connect_1330 (fun v6 => ?_)
    refine rr_cvv (As := [.int v6]) (st := []) B (m_byteOf B.ok v6) mc_byteOf ml_byteOf mi_byteOf me_byteOf ini12 md_byteOf (by decide) rfl (Nat.le_of_ble_eq_true rfl) dX12_connect_1331 (fun r7 => ?_)
    refine s_iinc (v := l21 + 1) (lv' := [(21, .int (l21 + 1)), (0, .ref g.1.2.2.2.2.2), (18, .int l18)]) B.1 2 dX12_connect_1334 rfl rfl (by decide) rfl ?_
    refine s_goto B.1 1305 dX12_connect_1337 (by decide) ?_
    exact Sm.lvs [1, 2, 0] rfl (hkb l18 (l21 + 1))
set_option maxRecDepth 10000 in
theorem sm_connect_L1305 {g : Gm RS Unit} {ke1340 : Int32 → RS → Option (Unit × RS)} (B : Br g cX12_connect 22 voV none 9 222) (hke1340 : ∀ (l18 : Int32), Sm g 22 1340 [(0, .ref g.1.2.2.2.2.2), (18, .int l18)] [] (ke1340 l18)) : ∀ (n : Nat) (l18 : Int32) (l21 : Int32), Sm g 22 1305 [(0, .ref g.1.2.2.2.2.2), (18, .int l18), (21, .int l21)] [] (R_connect_L1305 ke1340 n l18 l21)
  | 0, _, _ => Sm.fail
  | n + 1, l18, l21 => sm_connect_B1305 B (sm_connect_L1305 B hke1340 n) hke1340 l18 l21
def R_connect_J1210 (l18 : Int32) (l19 : Int32) (s1 : Int32) (s2 : Int32) : RS → Option (Unit × RS) :=
  bd (R_byteOf (s1 + s2)) fun r8 =>
  bd (R_byteOf (33 : Int32)) fun r9 =>
  bd (R_byteOf (0 : Int32)) fun r10 =>
  bd (R_byteOf (8 : Int32)) fun r11 =>
  bd (R_byteOf (39 : Int32)) fun r12 =>
  bd (R_byteOf (0 : Int32)) fun r13 =>
  bd (R_byteOf (0 : Int32)) fun r14 =>
  bd (R_byteOf (1 : Int32)) fun r15 =>
  bd (R_byteOf (147 : Int32)) fun r16 =>
  bd (R_byteOf (34 : Int32)) fun r17 =>
  bd (R_byteOf (0 : Int32)) fun r18 =>
  bd (R_byteOf (4 : Int32)) fun r19 =>
  if l19 = 0 then (
    R_connect_J1340 l18
  ) else (
    bd (R_byteOf (18 : Int32)) fun r20 =>
    bd (R_byteOf (0 : Int32)) fun r21 =>
    rA 13 l18 fun v22 =>
    bd (R_byteOf v22) fun r23 =>
    R_connect_L1305 (fun l18 => R_connect_J1340 l18) fu l18 (0 : Int32)
  )
set_option maxRecDepth 10000 in
theorem sm_connect_J1210 {g : Gm RS Unit} (B : Br g cX12_connect 22 voV none 9 222) (l18 : Int32) (l19 : Int32) (s1 : Int32) (s2 : Int32) : Sm g 22 1210 [(0, .ref g.1.2.2.2.2.2), (18, .int l18), (19, .int l19)] [.int s2, .int s1, .ref g.1.2.2.2.2.2] (R_connect_J1210 l18 l19 s1 s2) := by
  unfold R_connect_J1210
  refine s_iadd B.1 dX12_connect_1210 ?_
  refine rr_cvv (As := [.int (s1 + s2)]) (st := []) B (m_byteOf B.ok (s1 + s2)) mc_byteOf ml_byteOf mi_byteOf me_byteOf ini12 md_byteOf (by decide) rfl (Nat.le_of_ble_eq_true rfl) dX12_connect_1211 (fun r8 => ?_)
  refine s_aload_n B.1 0 dX12_connect_1214 rfl rfl ?_
  refine s_bipush (v := (33)) B.1 dX12_connect_1215 (by decide) ?_
  refine rr_cvv (As := [.int (33 : Int32)]) (st := []) B (m_byteOf B.ok (33 : Int32)) mc_byteOf ml_byteOf mi_byteOf me_byteOf ini12 md_byteOf (by decide) rfl (Nat.le_of_ble_eq_true rfl) dX12_connect_1217 (fun r9 => ?_)
  refine s_aload_n B.1 0 dX12_connect_1220 rfl rfl ?_
  refine s_iconst (v := 0) B.1 dX12_connect_1221 (by decide) ?_
  refine rr_cvv (As := [.int (0 : Int32)]) (st := []) B (m_byteOf B.ok (0 : Int32)) mc_byteOf ml_byteOf mi_byteOf me_byteOf ini12 md_byteOf (by decide) rfl (Nat.le_of_ble_eq_true rfl) dX12_connect_1222 (fun r10 => ?_)
  refine s_aload_n B.1 0 dX12_connect_1225 rfl rfl ?_
  refine s_bipush (v := (8)) B.1 dX12_connect_1226 (by decide) ?_
  refine rr_cvv (As := [.int (8 : Int32)]) (st := []) B (m_byteOf B.ok (8 : Int32)) mc_byteOf ml_byteOf mi_byteOf me_byteOf ini12 md_byteOf (by decide) rfl (Nat.le_of_ble_eq_true rfl) dX12_connect_1228 (fun r11 => ?_)
  refine s_aload_n B.1 0 dX12_connect_1231 rfl rfl ?_
  refine s_bipush (v := (39)) B.1 dX12_connect_1232 (by decide) ?_
  refine rr_cvv (As := [.int (39 : Int32)]) (st := []) B (m_byteOf B.ok (39 : Int32)) mc_byteOf ml_byteOf mi_byteOf me_byteOf ini12 md_byteOf (by decide) rfl (Nat.le_of_ble_eq_true rfl) dX12_connect_1234 (fun r12 => ?_)
  refine s_aload_n B.1 0 dX12_connect_1237 rfl rfl ?_
  refine s_iconst (v := 0) B.1 dX12_connect_1238 (by decide) ?_
  refine rr_cvv (As := [.int (0 : Int32)]) (st := []) B (m_byteOf B.ok (0 : Int32)) mc_byteOf ml_byteOf mi_byteOf me_byteOf ini12 md_byteOf (by decide) rfl (Nat.le_of_ble_eq_true rfl) dX12_connect_1239 (fun r13 => ?_)
  refine s_aload_n B.1 0 dX12_connect_1242 rfl rfl ?_
  refine s_iconst (v := 0) B.1 dX12_connect_1243 (by decide) ?_
  refine rr_cvv (As := [.int (0 : Int32)]) (st := []) B (m_byteOf B.ok (0 : Int32)) mc_byteOf ml_byteOf mi_byteOf me_byteOf ini12 md_byteOf (by decide) rfl (Nat.le_of_ble_eq_true rfl) dX12_connect_1244 (fun r14 => ?_)
  refine s_aload_n B.1 0 dX12_connect_1247 rfl rfl ?_
  refine s_iconst (v := 1) B.1 dX12_connect_1248 (by decide) ?_
  refine rr_cvv (As := [.int (1 : Int32)]) (st := []) B (m_byteOf B.ok (1 : Int32)) mc_byteOf ml_byteOf mi_byteOf me_byteOf ini12 md_byteOf (by decide) rfl (Nat.le_of_ble_eq_true rfl) dX12_connect_1249 (fun r15 => ?_)
  refine s_aload_n B.1 0 dX12_connect_1252 rfl rfl ?_
  refine s_sipush (v := (147)) B.1 dX12_connect_1253 (by decide) ?_
  refine rr_cvv (As := [.int (147 : Int32)]) (st := []) B (m_byteOf B.ok (147 : Int32)) mc_byteOf ml_byteOf mi_byteOf me_byteOf ini12 md_byteOf (by decide) rfl (Nat.le_of_ble_eq_true rfl) dX12_connect_1256 (fun r16 => ?_)
  refine s_aload_n B.1 0 dX12_connect_1259 rfl rfl ?_
  refine s_bipush (v := (34)) B.1 dX12_connect_1260 (by decide) ?_
  refine rr_cvv (As := [.int (34 : Int32)]) (st := []) B (m_byteOf B.ok (34 : Int32)) mc_byteOf ml_byteOf mi_byteOf me_byteOf ini12 md_byteOf (by decide) rfl (Nat.le_of_ble_eq_true rfl) dX12_connect_1262 (fun r17 => ?_)
  refine s_aload_n B.1 0 dX12_connect_1265 rfl rfl ?_
  refine s_iconst (v := 0) B.1 dX12_connect_1266 (by decide) ?_
  refine rr_cvv (As := [.int (0 : Int32)]) (st := []) B (m_byteOf B.ok (0 : Int32)) mc_byteOf ml_byteOf mi_byteOf me_byteOf ini12 md_byteOf (by decide) rfl (Nat.le_of_ble_eq_true rfl) dX12_connect_1267 (fun r18 => ?_)
  refine s_aload_n B.1 0 dX12_connect_1270 rfl rfl ?_
  refine s_iconst (v := 4) B.1 dX12_connect_1271 (by decide) ?_
  refine rr_cvv (As := [.int (4 : Int32)]) (st := []) B (m_byteOf B.ok (4 : Int32)) mc_byteOf ml_byteOf mi_byteOf me_byteOf ini12 md_byteOf (by decide) rfl (Nat.le_of_ble_eq_true rfl) dX12_connect_1272 (fun r19 => ?_)
  refine s_iload B.1 2 dX12_connect_1275 rfl ?_
  refine s_if_eq B.1 1340 dX12_connect_1277 (by decide) ?_ ?_
  · exact Sm.lvs [0, 1] rfl (sm_connect_J1340 B l18)
  · refine s_aload_n B.1 0 dX12_connect_1280 rfl rfl ?_
    refine s_bipush (v := (18)) B.1 dX12_connect_1281 (by decide) ?_
    refine rr_cvv (As := [.int (18 : Int32)]) (st := []) B (m_byteOf B.ok (18 : Int32)) mc_byteOf ml_byteOf mi_byteOf me_byteOf ini12 md_byteOf (by decide) rfl (Nat.le_of_ble_eq_true rfl) dX12_connect_1283 (fun r20 => ?_)
    refine s_aload_n B.1 0 dX12_connect_1286 rfl rfl ?_
    refine s_iconst (v := 0) B.1 dX12_connect_1287 (by decide) ?_
    refine rr_cvv (As := [.int (0 : Int32)]) (st := []) B (m_byteOf B.ok (0 : Int32)) mc_byteOf ml_byteOf mi_byteOf me_byteOf ini12 md_byteOf (by decide) rfl (Nat.le_of_ble_eq_true rfl) dX12_connect_1288 (fun r21 => ?_)
    refine s_aload_n B.1 0 dX12_connect_1291 rfl rfl ?_
    refine s_aload_n B.1 0 dX12_connect_1292 rfl rfl ?_
    refine rr_getA B 13 mh_13 mn_13 mf_13 dX12_connect_1293 ?_
    refine s_iload B.1 1 dX12_connect_1296 rfl ?_
    refine rr_iald B 13 mh_13 mk_13 dX12_connect_1298 (fun v22 => ?_)
    refine rr_cvv (As := [.int v22]) (st := []) B (m_byteOf B.ok v22) mc_byteOf ml_byteOf mi_byteOf me_byteOf ini12 md_byteOf (by decide) rfl (Nat.le_of_ble_eq_true rfl) dX12_connect_1299 (fun r23 => ?_)
    refine s_iconst (v := 0) B.1 dX12_connect_1302 (by decide) ?_
    refine s_istore (lv' := [(21, .int (0 : Int32)), (0, .ref g.1.2.2.2.2.2), (18, .int l18), (19, .int l19)]) B.1 dX12_connect_1303 (by decide) rfl ?_
    exact Sm.lvs [1, 2, 0] rfl (sm_connect_L1305 B (fun l18 => sm_connect_J1340 B l18) fu l18 (0 : Int32))
def R_connect_J1181 (l18 : Int32) (l19 : Int32) (s1 : Int32) : RS → Option (Unit × RS) :=
  bd (R_byteOf s1) fun r24 =>
  bd (R_byteOf (0 : Int32)) fun r25 =>
  if l19 = 0 then (
    R_connect_J1210 l18 l19 (11 : Int32) (0 : Int32)
  ) else (
    rA 13 l18 fun v26 =>
    R_connect_J1210 l18 l19 (11 : Int32) ((3 : Int32) + v26)
  )
set_option maxRecDepth 10000 in
theorem sm_connect_J1181 {g : Gm RS Unit} (B : Br g cX12_connect 22 voV none 9 222) (l18 : Int32) (l19 : Int32) (s1 : Int32) : Sm g 22 1181 [(0, .ref g.1.2.2.2.2.2), (18, .int l18), (19, .int l19)] [.int s1, .ref g.1.2.2.2.2.2] (R_connect_J1181 l18 l19 s1) := by
  unfold R_connect_J1181
  refine rr_cvv (As := [.int s1]) (st := []) B (m_byteOf B.ok s1) mc_byteOf ml_byteOf mi_byteOf me_byteOf ini12 md_byteOf (by decide) rfl (Nat.le_of_ble_eq_true rfl) dX12_connect_1181 (fun r24 => ?_)
  refine s_aload_n B.1 0 dX12_connect_1184 rfl rfl ?_
  refine s_iconst (v := 0) B.1 dX12_connect_1185 (by decide) ?_
  refine rr_cvv (As := [.int (0 : Int32)]) (st := []) B (m_byteOf B.ok (0 : Int32)) mc_byteOf ml_byteOf mi_byteOf me_byteOf ini12 md_byteOf (by decide) rfl (Nat.le_of_ble_eq_true rfl) dX12_connect_1186 (fun r25 => ?_)
  refine s_aload_n B.1 0 dX12_connect_1189 rfl rfl ?_
  refine s_bipush (v := (11)) B.1 dX12_connect_1190 (by decide) ?_
  refine s_iload B.1 2 dX12_connect_1192 rfl ?_
  refine s_if_eq B.1 1209 dX12_connect_1194 (by decide) ?_ ?_
  · refine s_iconst (v := 0) B.1 dX12_connect_1209 (by decide) ?_
    exact Sm.lvs [0, 1, 2] rfl (sm_connect_J1210 B l18 l19 (11 : Int32) (0 : Int32))
  · refine s_iconst (v := 3) B.1 dX12_connect_1197 (by decide) ?_
    refine s_aload_n B.1 0 dX12_connect_1198 rfl rfl ?_
    refine rr_getA B 13 mh_13 mn_13 mf_13 dX12_connect_1199 ?_
    refine s_iload B.1 1 dX12_connect_1202 rfl ?_
    refine rr_iald B 13 mh_13 mk_13 dX12_connect_1204 (fun v26 => ?_)
    refine s_iadd B.1 dX12_connect_1205 ?_
    refine s_goto B.1 1210 dX12_connect_1206 (by decide) ?_
    exact Sm.lvs [0, 1, 2] rfl (sm_connect_J1210 B l18 l19 (11 : Int32) ((3 : Int32) + v26))
def R_connect_J1165 (l18 : Int32) (l19 : Int32) (l20 : Int32) : RS → Option (Unit × RS) :=
  wI 91 ((0 : Int32)) <|
  if l20 = 0 then (
    R_connect_J1181 l18 l19 (0 : Int32)
  ) else (
    R_connect_J1181 l18 l19 (1 : Int32)
  )
set_option maxRecDepth 10000 in
theorem sm_connect_J1165 {g : Gm RS Unit} (B : Br g cX12_connect 22 voV none 9 222) (l18 : Int32) (l19 : Int32) (l20 : Int32) : Sm g 22 1165 [(0, .ref g.1.2.2.2.2.2), (18, .int l18), (19, .int l19), (20, .int l20)] [] (R_connect_J1165 l18 l19 l20) := by
  unfold R_connect_J1165
  refine s_aload_n B.1 0 dX12_connect_1165 rfl rfl ?_
  refine s_iconst (v := 0) B.1 dX12_connect_1166 (by decide) ?_
  refine rr_putI B 91 mh_91 mk_91 mf_91 dX12_connect_1167 ?_
  refine s_aload_n B.1 0 dX12_connect_1170 rfl rfl ?_
  refine s_iload B.1 3 dX12_connect_1171 rfl ?_
  refine s_if_eq B.1 1180 dX12_connect_1173 (by decide) ?_ ?_
  · refine s_iconst (v := 0) B.1 dX12_connect_1180 (by decide) ?_
    exact Sm.lvs [0, 1, 2] rfl (sm_connect_J1181 B l18 l19 (0 : Int32))
  · refine s_iconst (v := 1) B.1 dX12_connect_1176 (by decide) ?_
    refine s_goto B.1 1181 dX12_connect_1177 (by decide) ?_
    exact Sm.lvs [0, 1, 2] rfl (sm_connect_J1181 B l18 l19 (1 : Int32))
def R_connect_J1161 (l18 : Int32) (l19 : Int32) (l20 : Int32) (s1 : Int32) (s3 : Int32) (s4 : Int32) (s5 : Int32) (s6 : Int32) : RS → Option (Unit × RS) :=
  bd (R_message s3 s4 s5 s6) fun r27 =>
  wA 20 s1 r27 <|
  R_connect_J1165 l18 l19 l20
set_option maxRecDepth 10000 in
theorem sm_connect_J1161 {g : Gm RS Unit} (B : Br g cX12_connect 22 voV none 9 222) (l18 : Int32) (l19 : Int32) (l20 : Int32) (s1 : Int32) (s3 : Int32) (s4 : Int32) (s5 : Int32) (s6 : Int32) : Sm g 22 1161 [(0, .ref g.1.2.2.2.2.2), (18, .int l18), (19, .int l19), (20, .int l20)] [.int s6, .int s5, .int s4, .int s3, .ref g.1.2.2.2.2.2, .int s1, .ref (g.1.2.2.2.2.2 + mO 20)] (R_connect_J1161 l18 l19 l20 s1 s3 s4 s5 s6) := by
  unfold R_connect_J1161
  refine rr_cvi (As := [.int s3, .int s4, .int s5, .int s6]) (st := [.int s1, .ref (g.1.2.2.2.2.2 + mO 20)]) B (m_message B.ok s3 s4 s5 s6) mc_message ml_message mi_message me_message ini12 md_message (by decide) rfl (Nat.le_of_ble_eq_true rfl) dX12_connect_1161 (fun r27 => ?_)
  refine rr_iast B 20 mh_20 mk_20 dX12_connect_1164 ?_
  exact Sm.lvs [0, 1, 2, 3] rfl (sm_connect_J1165 B l18 l19 l20)
def R_connect_J1130 (l2 : Int32) (l4 : Int32) (l15 : Int32) (l16 : Int32) (l17 : Int32) (l18 : Int32) (l19 : Int32) (l20 : Int32) : RS → Option (Unit × RS) :=
  wI 98 (l15) <|
  if (l2 &&& (32 : Int32)) = 0 then (
    R_connect_J1161 l18 l19 l20 l18 l16 l17 l4 (0 : Int32)
  ) else (
    R_connect_J1161 l18 l19 l20 l18 l16 l17 l4 (1 : Int32)
  )
set_option maxRecDepth 10000 in
theorem sm_connect_J1130 {g : Gm RS Unit} (B : Br g cX12_connect 22 voV none 9 222) (l2 : Int32) (l4 : Int32) (l15 : Int32) (l16 : Int32) (l17 : Int32) (l18 : Int32) (l19 : Int32) (l20 : Int32) : Sm g 22 1130 [(0, .ref g.1.2.2.2.2.2), (2, .int l2), (4, .int l4), (15, .int l15), (16, .int l16), (17, .int l17), (18, .int l18), (19, .int l19), (20, .int l20)] [] (R_connect_J1130 l2 l4 l15 l16 l17 l18 l19 l20) := by
  unfold R_connect_J1130
  refine s_aload_n B.1 0 dX12_connect_1130 rfl rfl ?_
  refine s_iload B.1 3 dX12_connect_1131 rfl ?_
  refine rr_putI B 98 mh_98 mk_98 mf_98 dX12_connect_1133 ?_
  refine s_aload_n B.1 0 dX12_connect_1136 rfl rfl ?_
  refine rr_getA B 20 mh_20 mn_20 mf_20 dX12_connect_1137 ?_
  refine s_iload B.1 6 dX12_connect_1140 rfl ?_
  refine s_aload_n B.1 0 dX12_connect_1142 rfl rfl ?_
  refine s_iload B.1 4 dX12_connect_1143 rfl ?_
  refine s_iload B.1 5 dX12_connect_1145 rfl ?_
  refine s_iload B.1 2 dX12_connect_1147 rfl ?_
  refine s_iload_n B.1 1 dX12_connect_1149 rfl rfl ?_
  refine s_bipush (v := (32)) B.1 dX12_connect_1150 (by decide) ?_
  refine s_iand B.1 dX12_connect_1152 ?_
  refine s_if_eq B.1 1160 dX12_connect_1153 (by decide) ?_ ?_
  · refine s_iconst (v := 0) B.1 dX12_connect_1160 (by decide) ?_
    exact Sm.lvs [0, 6, 7, 8] rfl (sm_connect_J1161 B l18 l19 l20 l18 l16 l17 l4 (0 : Int32))
  · refine s_iconst (v := 1) B.1 dX12_connect_1156 (by decide) ?_
    refine s_goto B.1 1161 dX12_connect_1157 (by decide) ?_
    exact Sm.lvs [0, 6, 7, 8] rfl (sm_connect_J1161 B l18 l19 l20 l18 l16 l17 l4 (1 : Int32))
def R_connect_B1100 (kb : Int32 → Int32 → Int32 → Int32 → Int32 → Int32 → Int32 → Int32 → Int32 → Int32 → RS → Option (Unit × RS)) (ke1130 : Int32 → Int32 → Int32 → Int32 → Int32 → Int32 → Int32 → Int32 → RS → Option (Unit × RS)) (l2 : Int32) (l4 : Int32) (l14 : Int32) (l15 : Int32) (l16 : Int32) (l17 : Int32) (l18 : Int32) (l19 : Int32) (l20 : Int32) (l21 : Int32) : RS → Option (Unit × RS) :=
  if l15 ≤ l21 then (
    ke1130 l2 l4 l15 l16 l17 l18 l19 l20
  ) else (
    rA 6 (l14 + l21) fun v28 =>
    wA 97 l21 (vp_nar .byte v28) <|
    kb l2 l4 l14 l15 l16 l17 l18 l19 l20 (l21 + 1)
  )
def R_connect_L1100 (ke1130 : Int32 → Int32 → Int32 → Int32 → Int32 → Int32 → Int32 → Int32 → RS → Option (Unit × RS)) : Nat → Int32 → Int32 → Int32 → Int32 → Int32 → Int32 → Int32 → Int32 → Int32 → Int32 → RS → Option (Unit × RS)
  | 0, _, _, _, _, _, _, _, _, _, _ => no
  | n + 1, l2, l4, l14, l15, l16, l17, l18, l19, l20, l21 => R_connect_B1100 (fun l2 l4 l14 l15 l16 l17 l18 l19 l20 l21 => R_connect_L1100 ke1130 n l2 l4 l14 l15 l16 l17 l18 l19 l20 l21) ke1130 l2 l4 l14 l15 l16 l17 l18 l19 l20 l21
set_option maxRecDepth 10000 in
theorem sm_connect_B1100 {g : Gm RS Unit} {kb : Int32 → Int32 → Int32 → Int32 → Int32 → Int32 → Int32 → Int32 → Int32 → Int32 → RS → Option (Unit × RS)} {ke1130 : Int32 → Int32 → Int32 → Int32 → Int32 → Int32 → Int32 → Int32 → RS → Option (Unit × RS)} (B : Br g cX12_connect 22 voV none 9 222) (hkb : ∀ (l2 : Int32) (l4 : Int32) (l14 : Int32) (l15 : Int32) (l16 : Int32) (l17 : Int32) (l18 : Int32) (l19 : Int32) (l20 : Int32) (l21 : Int32), Sm g 22 1100 [(0, .ref g.1.2.2.2.2.2), (2, .int l2), (4, .int l4), (14, .int l14), (15, .int l15), (16, .int l16), (17, .int l17), (18, .int l18), (19, .int l19), (20, .int l20), (21, .int l21)] [] (kb l2 l4 l14 l15 l16 l17 l18 l19 l20 l21)) (hke1130 : ∀ (l2 : Int32) (l4 : Int32) (l15 : Int32) (l16 : Int32) (l17 : Int32) (l18 : Int32) (l19 : Int32) (l20 : Int32), Sm g 22 1130 [(0, .ref g.1.2.2.2.2.2), (2, .int l2), (4, .int l4), (15, .int l15), (16, .int l16), (17, .int l17), (18, .int l18), (19, .int l19), (20, .int l20)] [] (ke1130 l2 l4 l15 l16 l17 l18 l19 l20)) (l2 : Int32) (l4 : Int32) (l14 : Int32) (l15 : Int32) (l16 : Int32) (l17 : Int32) (l18 : Int32) (l19 : Int32) (l20 : Int32) (l21 : Int32) : Sm g 22 1100 [(0, .ref g.1.2.2.2.2.2), (2, .int l2), (4, .int l4), (14, .int l14), (15, .int l15), (16, .int l16), (17, .int l17), (18, .int l18), (19, .int l19), (20, .int l20), (21, .int l21)] [] (R_connect_B1100 kb ke1130 l2 l4 l14 l15 l16 l17 l18 l19 l20 l21) := by
  unfold R_connect_B1100
  refine s_iload B.1 10 dX12_connect_1100 rfl ?_
  refine s_iload B.1 4 dX12_connect_1102 rfl ?_
  refine s_icmp_ge B.1 1130 dX12_connect_1104 (by decide) ?_ ?_
  · exact Sm.lvs [0, 1, 2, 4, 5, 6, 7, 8, 9] rfl (hke1130 l2 l4 l15 l16 l17 l18 l19 l20)
  · refine s_aload_n B.1 0 dX12_connect_1107 rfl rfl ?_
    refine rr_getA B 97 mh_97 mn_97 mf_97 dX12_connect_1108 ?_
    refine s_iload B.1 10 dX12_connect_1111 rfl ?_
    refine s_aload_n B.1 0 dX12_connect_1113 rfl rfl ?_
    refine rr_getA B 6 mh_6 mn_6 mf_6 dX12_connect_1114 ?_
    refine s_iload B.1 3 dX12_connect_1117 rfl ?_
    refine s_iload B.1 10 dX12_connect_1119 rfl ?_
    refine s_iadd B.1 dX12_connect_1121 ?_
    refine rr_bald B 6 mh_6 mk_6 dX12_connect_1122 (fun v28 => ?_)
    refine rr_bast B 97 mh_97 mk_97 dX12_connect_1123 ?_
    refine s_iinc (v := l21 + 1) (lv' := [(21, .int (l21 + 1)), (0, .ref g.1.2.2.2.2.2), (2, .int l2), (4, .int l4), (14, .int l14), (15, .int l15), (16, .int l16), (17, .int l17), (18, .int l18), (19, .int l19), (20, .int l20)]) B.1 10 dX12_connect_1124 rfl rfl (by decide) rfl ?_
    refine s_goto B.1 1100 dX12_connect_1127 (by decide) ?_
    exact Sm.lvs [1, 2, 3, 4, 5, 6, 7, 8, 9, 10, 0] rfl (hkb l2 l4 l14 l15 l16 l17 l18 l19 l20 (l21 + 1))
set_option maxRecDepth 10000 in
theorem sm_connect_L1100 {g : Gm RS Unit} {ke1130 : Int32 → Int32 → Int32 → Int32 → Int32 → Int32 → Int32 → Int32 → RS → Option (Unit × RS)} (B : Br g cX12_connect 22 voV none 9 222) (hke1130 : ∀ (l2 : Int32) (l4 : Int32) (l15 : Int32) (l16 : Int32) (l17 : Int32) (l18 : Int32) (l19 : Int32) (l20 : Int32), Sm g 22 1130 [(0, .ref g.1.2.2.2.2.2), (2, .int l2), (4, .int l4), (15, .int l15), (16, .int l16), (17, .int l17), (18, .int l18), (19, .int l19), (20, .int l20)] [] (ke1130 l2 l4 l15 l16 l17 l18 l19 l20)) : ∀ (n : Nat) (l2 : Int32) (l4 : Int32) (l14 : Int32) (l15 : Int32) (l16 : Int32) (l17 : Int32) (l18 : Int32) (l19 : Int32) (l20 : Int32) (l21 : Int32), Sm g 22 1100 [(0, .ref g.1.2.2.2.2.2), (2, .int l2), (4, .int l4), (14, .int l14), (15, .int l15), (16, .int l16), (17, .int l17), (18, .int l18), (19, .int l19), (20, .int l20), (21, .int l21)] [] (R_connect_L1100 ke1130 n l2 l4 l14 l15 l16 l17 l18 l19 l20 l21)
  | 0, _, _, _, _, _, _, _, _, _, _ => Sm.fail
  | n + 1, l2, l4, l14, l15, l16, l17, l18, l19, l20, l21 => sm_connect_B1100 B (sm_connect_L1100 B hke1130 n) hke1130 l2 l4 l14 l15 l16 l17 l18 l19 l20 l21
def R_connect_J1096 (l2 : Int32) (l4 : Int32) (l14 : Int32) (l15 : Int32) (l16 : Int32) (l17 : Int32) (l18 : Int32) (l19 : Int32) (l20 : Int32) (s1 : Int32) (s2 : Int64) : RS → Option (Unit × RS) :=
  wL 21 s1 s2 <|
  R_connect_L1100 (fun l2 l4 l15 l16 l17 l18 l19 l20 => R_connect_J1130 l2 l4 l15 l16 l17 l18 l19 l20) fu l2 l4 l14 l15 l16 l17 l18 l19 l20 (0 : Int32)
set_option maxRecDepth 10000 in
theorem sm_connect_J1096 {g : Gm RS Unit} (B : Br g cX12_connect 22 voV none 9 222) (l2 : Int32) (l4 : Int32) (l14 : Int32) (l15 : Int32) (l16 : Int32) (l17 : Int32) (l18 : Int32) (l19 : Int32) (l20 : Int32) (s1 : Int32) (s2 : Int64) : Sm g 22 1096 [(0, .ref g.1.2.2.2.2.2), (2, .int l2), (4, .int l4), (14, .int l14), (15, .int l15), (16, .int l16), (17, .int l17), (18, .int l18), (19, .int l19), (20, .int l20)] [.long s2, .int s1, .ref (g.1.2.2.2.2.2 + mO 21)] (R_connect_J1096 l2 l4 l14 l15 l16 l17 l18 l19 l20 s1 s2) := by
  unfold R_connect_J1096
  refine rr_last B 21 mh_21 mk_21 dX12_connect_1096 ?_
  refine s_iconst (v := 0) B.1 dX12_connect_1097 (by decide) ?_
  refine s_istore (lv' := [(21, .int (0 : Int32)), (0, .ref g.1.2.2.2.2.2), (2, .int l2), (4, .int l4), (14, .int l14), (15, .int l15), (16, .int l16), (17, .int l17), (18, .int l18), (19, .int l19), (20, .int l20)]) B.1 dX12_connect_1098 (by decide) rfl ?_
  exact Sm.lvs [1, 2, 3, 4, 5, 6, 7, 8, 9, 10, 0] rfl (sm_connect_L1100 B (fun l2 l4 l15 l16 l17 l18 l19 l20 => sm_connect_J1130 B l2 l4 l15 l16 l17 l18 l19 l20) fu l2 l4 l14 l15 l16 l17 l18 l19 l20 (0 : Int32))
def R_connect_J979 (l2 : Int32) (l3 : Int32) (l4 : Int32) (l5 : Int32) (l6 : Int64) (l8 : Int32) (l9 : Int64) (l14 : Int32) (l15 : Int32) (l16 : Int32) (l17 : Int32) (l18 : Int32) (l19 : Int32) (l20 : Int32) : RS → Option (Unit × RS) :=
  wA 20 l18 (-1 : Int32) <|
  wL 22 l18 (-1 : Int64) <|
  wL 23 l18 (-1 : Int64) <|
  rI 75 fun v29 =>
  wA 15 l18 v29 <|
  rI 75 fun v30 =>
  wA 7 v30 l18 <|
  wL 16 l18 l6 <|
  wA 17 l18 l8 <|
  wL 18 l18 l9 <|
  wA 19 l18 l5 <|
  if l3 = 0 then (
    R_connect_J1165 l18 l19 l20
  ) else (
    rA 82 (24 : Int32) fun v31 =>
    if v31 = 0 then (
      R_connect_J1096 l2 l4 l14 l15 l16 l17 l18 l19 l20 l18 (0 : Int64)
    ) else (
      rL 83 (24 : Int32) fun v32 =>
      R_connect_J1096 l2 l4 l14 l15 l16 l17 l18 l19 l20 l18 v32
    )
  )
set_option maxRecDepth 10000 in
theorem sm_connect_J979 {g : Gm RS Unit} (B : Br g cX12_connect 22 voV none 9 222) (l2 : Int32) (l3 : Int32) (l4 : Int32) (l5 : Int32) (l6 : Int64) (l8 : Int32) (l9 : Int64) (l14 : Int32) (l15 : Int32) (l16 : Int32) (l17 : Int32) (l18 : Int32) (l19 : Int32) (l20 : Int32) : Sm g 22 979 [(0, .ref g.1.2.2.2.2.2), (2, .int l2), (3, .int l3), (4, .int l4), (5, .int l5), (6, .long l6), (8, .int l8), (9, .long l9), (14, .int l14), (15, .int l15), (16, .int l16), (17, .int l17), (18, .int l18), (19, .int l19), (20, .int l20)] [] (R_connect_J979 l2 l3 l4 l5 l6 l8 l9 l14 l15 l16 l17 l18 l19 l20) := by
  unfold R_connect_J979
  refine s_aload_n B.1 0 dX12_connect_979 rfl rfl ?_
  refine rr_getA B 20 mh_20 mn_20 mf_20 dX12_connect_980 ?_
  refine s_iload B.1 12 dX12_connect_983 rfl ?_
  refine s_iconst (v := (-1)) B.1 dX12_connect_985 (by decide) ?_
  refine rr_iast B 20 mh_20 mk_20 dX12_connect_986 ?_
  refine s_aload_n B.1 0 dX12_connect_987 rfl rfl ?_
  refine rr_getA B 22 mh_22 mn_22 mf_22 dX12_connect_988 ?_
  refine s_iload B.1 12 dX12_connect_991 rfl ?_
  refine s_ldc2 (v := (-1)) B.1 tw_1920 dX12_connect_993 ?_
  refine rr_last B 22 mh_22 mk_22 dX12_connect_996 ?_
  refine s_aload_n B.1 0 dX12_connect_997 rfl rfl ?_
  refine rr_getA B 23 mh_23 mn_23 mf_23 dX12_connect_998 ?_
  refine s_iload B.1 12 dX12_connect_1001 rfl ?_
  refine s_ldc2 (v := (-1)) B.1 tw_1920 dX12_connect_1003 ?_
  refine rr_last B 23 mh_23 mk_23 dX12_connect_1006 ?_
  refine s_aload_n B.1 0 dX12_connect_1007 rfl rfl ?_
  refine rr_getA B 15 mh_15 mn_15 mf_15 dX12_connect_1008 ?_
  refine s_iload B.1 12 dX12_connect_1011 rfl ?_
  refine s_aload_n B.1 0 dX12_connect_1013 rfl rfl ?_
  refine rr_getI B 75 mh_75 mk_75 mf_75 dX12_connect_1014 (fun v29 => ?_)
  refine rr_iast B 15 mh_15 mk_15 dX12_connect_1017 ?_
  refine s_aload_n B.1 0 dX12_connect_1018 rfl rfl ?_
  refine rr_getA B 7 mh_7 mn_7 mf_7 dX12_connect_1019 ?_
  refine s_aload_n B.1 0 dX12_connect_1022 rfl rfl ?_
  refine rr_getI B 75 mh_75 mk_75 mf_75 dX12_connect_1023 (fun v30 => ?_)
  refine s_iload B.1 12 dX12_connect_1026 rfl ?_
  refine rr_iast B 7 mh_7 mk_7 dX12_connect_1028 ?_
  refine s_aload_n B.1 0 dX12_connect_1029 rfl rfl ?_
  refine rr_getA B 16 mh_16 mn_16 mf_16 dX12_connect_1030 ?_
  refine s_iload B.1 12 dX12_connect_1033 rfl ?_
  refine s_lload B.1 5 dX12_connect_1035 rfl ?_
  refine rr_last B 16 mh_16 mk_16 dX12_connect_1037 ?_
  refine s_aload_n B.1 0 dX12_connect_1038 rfl rfl ?_
  refine rr_getA B 17 mh_17 mn_17 mf_17 dX12_connect_1039 ?_
  refine s_iload B.1 12 dX12_connect_1042 rfl ?_
  refine s_iload B.1 6 dX12_connect_1044 rfl ?_
  refine rr_iast B 17 mh_17 mk_17 dX12_connect_1046 ?_
  refine s_aload_n B.1 0 dX12_connect_1047 rfl rfl ?_
  refine rr_getA B 18 mh_18 mn_18 mf_18 dX12_connect_1048 ?_
  refine s_iload B.1 12 dX12_connect_1051 rfl ?_
  refine s_lload B.1 7 dX12_connect_1053 rfl ?_
  refine rr_last B 18 mh_18 mk_18 dX12_connect_1055 ?_
  refine s_aload_n B.1 0 dX12_connect_1056 rfl rfl ?_
  refine rr_getA B 19 mh_19 mn_19 mf_19 dX12_connect_1057 ?_
  refine s_iload B.1 12 dX12_connect_1060 rfl ?_
  refine s_iload B.1 4 dX12_connect_1062 rfl ?_
  refine rr_iast B 19 mh_19 mk_19 dX12_connect_1064 ?_
  refine s_iload_n B.1 2 dX12_connect_1065 rfl rfl ?_
  refine s_if_eq B.1 1165 dX12_connect_1066 (by decide) ?_ ?_
  · exact Sm.lvs [0, 12, 13, 14] rfl (sm_connect_J1165 B l18 l19 l20)
  · refine s_aload_n B.1 0 dX12_connect_1069 rfl rfl ?_
    refine rr_getA B 21 mh_21 mn_21 mf_21 dX12_connect_1070 ?_
    refine s_iload B.1 12 dX12_connect_1073 rfl ?_
    refine s_aload_n B.1 0 dX12_connect_1075 rfl rfl ?_
    refine rr_getA B 82 mh_82 mn_82 mf_82 dX12_connect_1076 ?_
    refine s_bipush (v := (24)) B.1 dX12_connect_1079 (by decide) ?_
    refine rr_zald B 82 mh_82 mk_82 dX12_connect_1081 (fun v31 => ?_)
    refine s_if_eq B.1 1095 dX12_connect_1082 (by decide) ?_ ?_
    · refine s_lconst (v := 0) B.1 dX12_connect_1095 (by decide) ?_
      exact Sm.lvs [0, 1, 3, 8, 9, 10, 11, 12, 13, 14] rfl (sm_connect_J1096 B l2 l4 l14 l15 l16 l17 l18 l19 l20 l18 (0 : Int64))
    · refine s_aload_n B.1 0 dX12_connect_1085 rfl rfl ?_
      refine rr_getA B 83 mh_83 mn_83 mf_83 dX12_connect_1086 ?_
      refine s_bipush (v := (24)) B.1 dX12_connect_1089 (by decide) ?_
      refine rr_lald B 83 mh_83 mk_83 dX12_connect_1091 (fun v32 => ?_)
      refine s_goto B.1 1096 dX12_connect_1092 (by decide) ?_
      exact Sm.lvs [0, 1, 3, 8, 9, 10, 11, 12, 13, 14] rfl (sm_connect_J1096 B l2 l4 l14 l15 l16 l17 l18 l19 l20 l18 v32)
def R_connect_B943 (kb : Int32 → Int32 → Int32 → Int32 → Int64 → Int32 → Int64 → Int32 → Int32 → Int32 → Int32 → Int32 → Int32 → Int32 → Int32 → Int32 → Int32 → RS → Option (Unit × RS)) (ke979 : Int32 → Int32 → Int32 → Int32 → Int64 → Int32 → Int64 → Int32 → Int32 → Int32 → Int32 → Int32 → Int32 → Int32 → RS → Option (Unit × RS)) (l2 : Int32) (l3 : Int32) (l4 : Int32) (l5 : Int32) (l6 : Int64) (l8 : Int32) (l9 : Int64) (l12 : Int32) (l13 : Int32) (l14 : Int32) (l15 : Int32) (l16 : Int32) (l17 : Int32) (l18 : Int32) (l19 : Int32) (l20 : Int32) (l21 : Int32) : RS → Option (Unit × RS) :=
  if l13 ≤ l21 then (
    ke979 l2 l3 l4 l5 l6 l8 l9 l14 l15 l16 l17 l18 l19 l20
  ) else (
    rA 6 (l12 + l21) fun v33 =>
    wA 14 (((20 : Int32) * l18) + l21) (vp_nar .byte v33) <|
    kb l2 l3 l4 l5 l6 l8 l9 l12 l13 l14 l15 l16 l17 l18 l19 l20 (l21 + 1)
  )
def R_connect_L943 (ke979 : Int32 → Int32 → Int32 → Int32 → Int64 → Int32 → Int64 → Int32 → Int32 → Int32 → Int32 → Int32 → Int32 → Int32 → RS → Option (Unit × RS)) : Nat → Int32 → Int32 → Int32 → Int32 → Int64 → Int32 → Int64 → Int32 → Int32 → Int32 → Int32 → Int32 → Int32 → Int32 → Int32 → Int32 → Int32 → RS → Option (Unit × RS)
  | 0, _, _, _, _, _, _, _, _, _, _, _, _, _, _, _, _, _ => no
  | n + 1, l2, l3, l4, l5, l6, l8, l9, l12, l13, l14, l15, l16, l17, l18, l19, l20, l21 => R_connect_B943 (fun l2 l3 l4 l5 l6 l8 l9 l12 l13 l14 l15 l16 l17 l18 l19 l20 l21 => R_connect_L943 ke979 n l2 l3 l4 l5 l6 l8 l9 l12 l13 l14 l15 l16 l17 l18 l19 l20 l21) ke979 l2 l3 l4 l5 l6 l8 l9 l12 l13 l14 l15 l16 l17 l18 l19 l20 l21
set_option maxRecDepth 10000 in
theorem sm_connect_B943 {g : Gm RS Unit} {kb : Int32 → Int32 → Int32 → Int32 → Int64 → Int32 → Int64 → Int32 → Int32 → Int32 → Int32 → Int32 → Int32 → Int32 → Int32 → Int32 → Int32 → RS → Option (Unit × RS)} {ke979 : Int32 → Int32 → Int32 → Int32 → Int64 → Int32 → Int64 → Int32 → Int32 → Int32 → Int32 → Int32 → Int32 → Int32 → RS → Option (Unit × RS)} (B : Br g cX12_connect 22 voV none 9 222) (hkb : ∀ (l2 : Int32) (l3 : Int32) (l4 : Int32) (l5 : Int32) (l6 : Int64) (l8 : Int32) (l9 : Int64) (l12 : Int32) (l13 : Int32) (l14 : Int32) (l15 : Int32) (l16 : Int32) (l17 : Int32) (l18 : Int32) (l19 : Int32) (l20 : Int32) (l21 : Int32), Sm g 22 943 [(0, .ref g.1.2.2.2.2.2), (2, .int l2), (3, .int l3), (4, .int l4), (5, .int l5), (6, .long l6), (8, .int l8), (9, .long l9), (12, .int l12), (13, .int l13), (14, .int l14), (15, .int l15), (16, .int l16), (17, .int l17), (18, .int l18), (19, .int l19), (20, .int l20), (21, .int l21)] [] (kb l2 l3 l4 l5 l6 l8 l9 l12 l13 l14 l15 l16 l17 l18 l19 l20 l21)) (hke979 : ∀ (l2 : Int32) (l3 : Int32) (l4 : Int32) (l5 : Int32) (l6 : Int64) (l8 : Int32) (l9 : Int64) (l14 : Int32) (l15 : Int32) (l16 : Int32) (l17 : Int32) (l18 : Int32) (l19 : Int32) (l20 : Int32), Sm g 22 979 [(0, .ref g.1.2.2.2.2.2), (2, .int l2), (3, .int l3), (4, .int l4), (5, .int l5), (6, .long l6), (8, .int l8), (9, .long l9), (14, .int l14), (15, .int l15), (16, .int l16), (17, .int l17), (18, .int l18), (19, .int l19), (20, .int l20)] [] (ke979 l2 l3 l4 l5 l6 l8 l9 l14 l15 l16 l17 l18 l19 l20)) (l2 : Int32) (l3 : Int32) (l4 : Int32) (l5 : Int32) (l6 : Int64) (l8 : Int32) (l9 : Int64) (l12 : Int32) (l13 : Int32) (l14 : Int32) (l15 : Int32) (l16 : Int32) (l17 : Int32) (l18 : Int32) (l19 : Int32) (l20 : Int32) (l21 : Int32) : Sm g 22 943 [(0, .ref g.1.2.2.2.2.2), (2, .int l2), (3, .int l3), (4, .int l4), (5, .int l5), (6, .long l6), (8, .int l8), (9, .long l9), (12, .int l12), (13, .int l13), (14, .int l14), (15, .int l15), (16, .int l16), (17, .int l17), (18, .int l18), (19, .int l19), (20, .int l20), (21, .int l21)] [] (R_connect_B943 kb ke979 l2 l3 l4 l5 l6 l8 l9 l12 l13 l14 l15 l16 l17 l18 l19 l20 l21) := by
  unfold R_connect_B943
  refine s_iload B.1 17 dX12_connect_943 rfl ?_
  refine s_iload B.1 9 dX12_connect_945 rfl ?_
  refine s_icmp_ge B.1 979 dX12_connect_947 (by decide) ?_ ?_
  · exact Sm.lvs [0, 1, 2, 3, 4, 5, 6, 7, 10, 11, 12, 13, 14, 15, 16] rfl (hke979 l2 l3 l4 l5 l6 l8 l9 l14 l15 l16 l17 l18 l19 l20)
  · refine s_aload_n B.1 0 dX12_connect_950 rfl rfl ?_
    refine rr_getA B 14 mh_14 mn_14 mf_14 dX12_connect_951 ?_
    refine s_bipush (v := (20)) B.1 dX12_connect_954 (by decide) ?_
    refine s_iload B.1 14 dX12_connect_956 rfl ?_
    refine s_imul B.1 dX12_connect_958 ?_
    refine s_iload B.1 17 dX12_connect_959 rfl ?_
    refine s_iadd B.1 dX12_connect_961 ?_
    refine s_aload_n B.1 0 dX12_connect_962 rfl rfl ?_
    refine rr_getA B 6 mh_6 mn_6 mf_6 dX12_connect_963 ?_
    refine s_iload B.1 8 dX12_connect_966 rfl ?_
    refine s_iload B.1 17 dX12_connect_968 rfl ?_
    refine s_iadd B.1 dX12_connect_970 ?_
    refine rr_bald B 6 mh_6 mk_6 dX12_connect_971 (fun v33 => ?_)
    refine rr_bast B 14 mh_14 mk_14 dX12_connect_972 ?_
    refine s_iinc (v := l21 + 1) (lv' := [(21, .int (l21 + 1)), (0, .ref g.1.2.2.2.2.2), (2, .int l2), (3, .int l3), (4, .int l4), (5, .int l5), (6, .long l6), (8, .int l8), (9, .long l9), (12, .int l12), (13, .int l13), (14, .int l14), (15, .int l15), (16, .int l16), (17, .int l17), (18, .int l18), (19, .int l19), (20, .int l20)]) B.1 17 dX12_connect_973 rfl rfl (by decide) rfl ?_
    refine s_goto B.1 943 dX12_connect_976 (by decide) ?_
    exact Sm.lvs [1, 2, 3, 4, 5, 6, 7, 8, 9, 10, 11, 12, 13, 14, 15, 16, 17, 0] rfl (hkb l2 l3 l4 l5 l6 l8 l9 l12 l13 l14 l15 l16 l17 l18 l19 l20 (l21 + 1))
set_option maxRecDepth 10000 in
theorem sm_connect_L943 {g : Gm RS Unit} {ke979 : Int32 → Int32 → Int32 → Int32 → Int64 → Int32 → Int64 → Int32 → Int32 → Int32 → Int32 → Int32 → Int32 → Int32 → RS → Option (Unit × RS)} (B : Br g cX12_connect 22 voV none 9 222) (hke979 : ∀ (l2 : Int32) (l3 : Int32) (l4 : Int32) (l5 : Int32) (l6 : Int64) (l8 : Int32) (l9 : Int64) (l14 : Int32) (l15 : Int32) (l16 : Int32) (l17 : Int32) (l18 : Int32) (l19 : Int32) (l20 : Int32), Sm g 22 979 [(0, .ref g.1.2.2.2.2.2), (2, .int l2), (3, .int l3), (4, .int l4), (5, .int l5), (6, .long l6), (8, .int l8), (9, .long l9), (14, .int l14), (15, .int l15), (16, .int l16), (17, .int l17), (18, .int l18), (19, .int l19), (20, .int l20)] [] (ke979 l2 l3 l4 l5 l6 l8 l9 l14 l15 l16 l17 l18 l19 l20)) : ∀ (n : Nat) (l2 : Int32) (l3 : Int32) (l4 : Int32) (l5 : Int32) (l6 : Int64) (l8 : Int32) (l9 : Int64) (l12 : Int32) (l13 : Int32) (l14 : Int32) (l15 : Int32) (l16 : Int32) (l17 : Int32) (l18 : Int32) (l19 : Int32) (l20 : Int32) (l21 : Int32), Sm g 22 943 [(0, .ref g.1.2.2.2.2.2), (2, .int l2), (3, .int l3), (4, .int l4), (5, .int l5), (6, .long l6), (8, .int l8), (9, .long l9), (12, .int l12), (13, .int l13), (14, .int l14), (15, .int l15), (16, .int l16), (17, .int l17), (18, .int l18), (19, .int l19), (20, .int l20), (21, .int l21)] [] (R_connect_L943 ke979 n l2 l3 l4 l5 l6 l8 l9 l12 l13 l14 l15 l16 l17 l18 l19 l20 l21)
  | 0, _, _, _, _, _, _, _, _, _, _, _, _, _, _, _, _, _ => Sm.fail
  | n + 1, l2, l3, l4, l5, l6, l8, l9, l12, l13, l14, l15, l16, l17, l18, l19, l20, l21 => sm_connect_B943 B (sm_connect_L943 B hke979 n) hke979 l2 l3 l4 l5 l6 l8 l9 l12 l13 l14 l15 l16 l17 l18 l19 l20 l21
def R_connect_J878 (l2 : Int32) (l3 : Int32) (l4 : Int32) (l5 : Int32) (l6 : Int64) (l8 : Int32) (l9 : Int64) (l12 : Int32) (l13 : Int32) (l14 : Int32) (l15 : Int32) (l16 : Int32) (l17 : Int32) (l18 : Int32) (l19 : Int32) (s0 : Int32) : RS → Option (Unit × RS) :=
  if s0 = 0 then (
    bd (R_free) fun r34 =>
    wA 11 r34 (vp_nar .boolean (1 : Int32)) <|
    rI 73 fun v35 =>
    wI 73 (v35 + (1 : Int32)) <|
    wA 12 r34 (v35 + (1 : Int32)) <|
    if l19 = 0 then (
      wA 13 r34 l13 <|
      R_connect_L943 (fun l2 l3 l4 l5 l6 l8 l9 l14 l15 l16 l17 l18 l19 l20 => R_connect_J979 l2 l3 l4 l5 l6 l8 l9 l14 l15 l16 l17 l18 l19 l20) fu l2 l3 l4 l5 l6 l8 l9 l12 l13 l14 l15 l16 l17 r34 l19 s0 (0 : Int32)
    ) else (
      bd (R_name r34) fun r36 =>
      R_connect_J979 l2 l3 l4 l5 l6 l8 l9 l14 l15 l16 l17 r34 l19 s0
    )
  ) else (
    R_connect_J979 l2 l3 l4 l5 l6 l8 l9 l14 l15 l16 l17 l18 l19 s0
  )
set_option maxRecDepth 10000 in
theorem sm_connect_J878 {g : Gm RS Unit} (B : Br g cX12_connect 22 voV none 9 222) (l2 : Int32) (l3 : Int32) (l4 : Int32) (l5 : Int32) (l6 : Int64) (l8 : Int32) (l9 : Int64) (l12 : Int32) (l13 : Int32) (l14 : Int32) (l15 : Int32) (l16 : Int32) (l17 : Int32) (l18 : Int32) (l19 : Int32) (s0 : Int32) : Sm g 22 878 [(0, .ref g.1.2.2.2.2.2), (2, .int l2), (3, .int l3), (4, .int l4), (5, .int l5), (6, .long l6), (8, .int l8), (9, .long l9), (12, .int l12), (13, .int l13), (14, .int l14), (15, .int l15), (16, .int l16), (17, .int l17), (18, .int l18), (19, .int l19)] [.int s0] (R_connect_J878 l2 l3 l4 l5 l6 l8 l9 l12 l13 l14 l15 l16 l17 l18 l19 s0) := by
  unfold R_connect_J878
  refine s_istore (lv' := [(20, .int s0), (0, .ref g.1.2.2.2.2.2), (2, .int l2), (3, .int l3), (4, .int l4), (5, .int l5), (6, .long l6), (8, .int l8), (9, .long l9), (12, .int l12), (13, .int l13), (14, .int l14), (15, .int l15), (16, .int l16), (17, .int l17), (18, .int l18), (19, .int l19)]) B.1 dX12_connect_878 (by decide) rfl ?_
  refine s_iload B.1 0 dX12_connect_880 rfl ?_
  refine s_if_ne B.1 979 dX12_connect_882 (by decide) ?_ ?_
  · exact Sm.lvs [1, 2, 3, 4, 5, 6, 7, 8, 11, 12, 13, 14, 15, 16, 0] rfl (sm_connect_J979 B l2 l3 l4 l5 l6 l8 l9 l14 l15 l16 l17 l18 l19 s0)
  · refine s_aload_n B.1 1 dX12_connect_885 rfl rfl ?_
    refine rr_cvi (As := []) (st := []) B (m_free B.ok) mc_free ml_free mi_free me_free ini12 md_free (by decide) rfl (Nat.le_of_ble_eq_true rfl) dX12_connect_886 (fun r34 => ?_)
    refine s_istore (lv' := [(18, .int r34), (20, .int s0), (0, .ref g.1.2.2.2.2.2), (2, .int l2), (3, .int l3), (4, .int l4), (5, .int l5), (6, .long l6), (8, .int l8), (9, .long l9), (12, .int l12), (13, .int l13), (14, .int l14), (15, .int l15), (16, .int l16), (17, .int l17), (19, .int l19)]) B.1 dX12_connect_889 (by decide) rfl ?_
    refine s_aload_n B.1 2 dX12_connect_891 rfl rfl ?_
    refine rr_getA B 11 mh_11 mn_11 mf_11 dX12_connect_892 ?_
    refine s_iload B.1 0 dX12_connect_895 rfl ?_
    refine s_iconst (v := 1) B.1 dX12_connect_897 (by decide) ?_
    refine rr_zast B 11 mh_11 mk_11 dX12_connect_898 ?_
    refine s_aload_n B.1 2 dX12_connect_899 rfl rfl ?_
    refine rr_getA B 12 mh_12 mn_12 mf_12 dX12_connect_900 ?_
    refine s_iload B.1 0 dX12_connect_903 rfl ?_
    refine s_aload_n B.1 2 dX12_connect_905 rfl rfl ?_
    refine s_dup B.1 dX12_connect_906 rfl ?_
    refine rr_getI B 73 mh_73 mk_73 mf_73 dX12_connect_907 (fun v35 => ?_)
    refine s_iconst (v := 1) B.1 dX12_connect_910 (by decide) ?_
    refine s_iadd B.1 dX12_connect_911 ?_
    refine s_dup_x1 B.1 dX12_connect_912 rfl rfl ?_
    refine rr_putI B 73 mh_73 mk_73 mf_73 dX12_connect_913 ?_
    refine rr_iast B 12 mh_12 mk_12 dX12_connect_916 ?_
    refine s_iload B.1 16 dX12_connect_917 rfl ?_
    refine s_if_eq B.1 931 dX12_connect_919 (by decide) ?_ ?_
    · refine s_aload_n B.1 2 dX12_connect_931 rfl rfl ?_
      refine rr_getA B 13 mh_13 mn_13 mf_13 dX12_connect_932 ?_
      refine s_iload B.1 0 dX12_connect_935 rfl ?_
      refine s_iload B.1 11 dX12_connect_937 rfl ?_
      refine rr_iast B 13 mh_13 mk_13 dX12_connect_939 ?_
      refine s_iconst (v := 0) B.1 dX12_connect_940 (by decide) ?_
      refine s_istore (lv' := [(21, .int (0 : Int32)), (18, .int r34), (20, .int s0), (0, .ref g.1.2.2.2.2.2), (2, .int l2), (3, .int l3), (4, .int l4), (5, .int l5), (6, .long l6), (8, .int l8), (9, .long l9), (12, .int l12), (13, .int l13), (14, .int l14), (15, .int l15), (16, .int l16), (17, .int l17), (19, .int l19)]) B.1 dX12_connect_941 (by decide) rfl ?_
      exact Sm.lvs [3, 4, 5, 6, 7, 8, 9, 10, 11, 12, 13, 14, 15, 16, 1, 17, 2, 0] rfl (sm_connect_L943 B (fun l2 l3 l4 l5 l6 l8 l9 l14 l15 l16 l17 l18 l19 l20 => sm_connect_J979 B l2 l3 l4 l5 l6 l8 l9 l14 l15 l16 l17 l18 l19 l20) fu l2 l3 l4 l5 l6 l8 l9 l12 l13 l14 l15 l16 l17 r34 l19 s0 (0 : Int32))
    · refine s_aload_n B.1 2 dX12_connect_922 rfl rfl ?_
      refine s_iload B.1 0 dX12_connect_923 rfl ?_
      refine rr_cvv (As := [.int r34]) (st := []) B (m_name B.ok r34) mc_name ml_name mi_name me_name ini12 md_name (by decide) rfl (Nat.le_of_ble_eq_true rfl) dX12_connect_925 (fun r36 => ?_)
      refine s_goto B.1 979 dX12_connect_928 (by decide) ?_
      exact Sm.lvs [2, 3, 4, 5, 6, 7, 8, 9, 12, 13, 14, 15, 0, 16, 1] rfl (sm_connect_J979 B l2 l3 l4 l5 l6 l8 l9 l14 l15 l16 l17 r34 l19 s0)
def R_connect_J877 (l2 : Int32) (l3 : Int32) (l4 : Int32) (l5 : Int32) (l6 : Int64) (l8 : Int32) (l9 : Int64) (l12 : Int32) (l13 : Int32) (l14 : Int32) (l15 : Int32) (l16 : Int32) (l17 : Int32) (l18 : Int32) (l19 : Int32) : RS → Option (Unit × RS) :=
  R_connect_J878 l2 l3 l4 l5 l6 l8 l9 l12 l13 l14 l15 l16 l17 l18 l19 (0 : Int32)
set_option maxRecDepth 10000 in
theorem sm_connect_J877 {g : Gm RS Unit} (B : Br g cX12_connect 22 voV none 9 222) (l2 : Int32) (l3 : Int32) (l4 : Int32) (l5 : Int32) (l6 : Int64) (l8 : Int32) (l9 : Int64) (l12 : Int32) (l13 : Int32) (l14 : Int32) (l15 : Int32) (l16 : Int32) (l17 : Int32) (l18 : Int32) (l19 : Int32) : Sm g 22 877 [(0, .ref g.1.2.2.2.2.2), (2, .int l2), (3, .int l3), (4, .int l4), (5, .int l5), (6, .long l6), (8, .int l8), (9, .long l9), (12, .int l12), (13, .int l13), (14, .int l14), (15, .int l15), (16, .int l16), (17, .int l17), (18, .int l18), (19, .int l19)] [] (R_connect_J877 l2 l3 l4 l5 l6 l8 l9 l12 l13 l14 l15 l16 l17 l18 l19) := by
  unfold R_connect_J877
  refine s_iconst (v := 0) B.1 dX12_connect_877 (by decide) ?_
  exact Sm.lvs [0, 1, 2, 3, 4, 5, 6, 7, 8, 9, 10, 11, 12, 13, 14, 15] rfl (sm_connect_J878 B l2 l3 l4 l5 l6 l8 l9 l12 l13 l14 l15 l16 l17 l18 l19 (0 : Int32))
def R_connect_J858 (l2 : Int32) (l3 : Int32) (l4 : Int32) (l5 : Int32) (l6 : Int64) (l8 : Int32) (l9 : Int64) (l12 : Int32) (l13 : Int32) (l14 : Int32) (l15 : Int32) (l16 : Int32) (l17 : Int32) (l18 : Int32) (l19 : Int32) : RS → Option (Unit × RS) :=
  if l18 < 0 then (
    R_connect_J877 l2 l3 l4 l5 l6 l8 l9 l12 l13 l14 l15 l16 l17 l18 l19
  ) else (
    rA 11 l18 fun v37 =>
    if v37 = 0 then (
      R_connect_J877 l2 l3 l4 l5 l6 l8 l9 l12 l13 l14 l15 l16 l17 l18 l19
    ) else (
      R_connect_J878 l2 l3 l4 l5 l6 l8 l9 l12 l13 l14 l15 l16 l17 l18 l19 (1 : Int32)
    )
  )
set_option maxRecDepth 10000 in
theorem sm_connect_J858 {g : Gm RS Unit} (B : Br g cX12_connect 22 voV none 9 222) (l2 : Int32) (l3 : Int32) (l4 : Int32) (l5 : Int32) (l6 : Int64) (l8 : Int32) (l9 : Int64) (l12 : Int32) (l13 : Int32) (l14 : Int32) (l15 : Int32) (l16 : Int32) (l17 : Int32) (l18 : Int32) (l19 : Int32) : Sm g 22 858 [(0, .ref g.1.2.2.2.2.2), (2, .int l2), (3, .int l3), (4, .int l4), (5, .int l5), (6, .long l6), (8, .int l8), (9, .long l9), (12, .int l12), (13, .int l13), (14, .int l14), (15, .int l15), (16, .int l16), (17, .int l17), (18, .int l18), (19, .int l19)] [] (R_connect_J858 l2 l3 l4 l5 l6 l8 l9 l12 l13 l14 l15 l16 l17 l18 l19) := by
  unfold R_connect_J858
  refine s_iload B.1 14 dX12_connect_858 rfl ?_
  refine s_if_lt B.1 877 dX12_connect_860 (by decide) ?_ ?_
  · exact Sm.lvs [0, 1, 2, 3, 4, 5, 6, 7, 8, 9, 10, 11, 12, 13, 14, 15] rfl (sm_connect_J877 B l2 l3 l4 l5 l6 l8 l9 l12 l13 l14 l15 l16 l17 l18 l19)
  · refine s_aload_n B.1 0 dX12_connect_863 rfl rfl ?_
    refine rr_getA B 11 mh_11 mn_11 mf_11 dX12_connect_864 ?_
    refine s_iload B.1 14 dX12_connect_867 rfl ?_
    refine rr_zald B 11 mh_11 mk_11 dX12_connect_869 (fun v37 => ?_)
    refine s_if_eq B.1 877 dX12_connect_870 (by decide) ?_ ?_
    · exact Sm.lvs [0, 1, 2, 3, 4, 5, 6, 7, 8, 9, 10, 11, 12, 13, 14, 15] rfl (sm_connect_J877 B l2 l3 l4 l5 l6 l8 l9 l12 l13 l14 l15 l16 l17 l18 l19)
    · refine s_iconst (v := 1) B.1 dX12_connect_873 (by decide) ?_
      refine s_goto B.1 878 dX12_connect_874 (by decide) ?_
      exact Sm.lvs [0, 1, 2, 3, 4, 5, 6, 7, 8, 9, 10, 11, 12, 13, 14, 15] rfl (sm_connect_J878 B l2 l3 l4 l5 l6 l8 l9 l12 l13 l14 l15 l16 l17 l18 l19 (1 : Int32))
def R_connect_J831 (l2 : Int32) (l3 : Int32) (l4 : Int32) (l5 : Int32) (l6 : Int64) (l8 : Int32) (l9 : Int64) (l12 : Int32) (l13 : Int32) (l14 : Int32) (l15 : Int32) (l16 : Int32) (l17 : Int32) (l18 : Int32) (l19 : Int32) : RS → Option (Unit × RS) :=
  if l18 < 0 then (
    R_connect_J858 l2 l3 l4 l5 l6 l8 l9 l12 l13 l14 l15 l16 l17 l18 l19
  ) else (
    rA 11 l18 fun v38 =>
    if v38 = 0 then (
      R_connect_J858 l2 l3 l4 l5 l6 l8 l9 l12 l13 l14 l15 l16 l17 l18 l19
    ) else (
      if (l2 &&& (2 : Int32)) = 0 then (
        R_connect_J858 l2 l3 l4 l5 l6 l8 l9 l12 l13 l14 l15 l16 l17 l18 l19
      ) else (
        bd (R_ends l18) fun r39 =>
        R_connect_J858 l2 l3 l4 l5 l6 l8 l9 l12 l13 l14 l15 l16 l17 l18 l19
      )
    )
  )
set_option maxRecDepth 10000 in
theorem sm_connect_J831 {g : Gm RS Unit} (B : Br g cX12_connect 22 voV none 9 222) (l2 : Int32) (l3 : Int32) (l4 : Int32) (l5 : Int32) (l6 : Int64) (l8 : Int32) (l9 : Int64) (l12 : Int32) (l13 : Int32) (l14 : Int32) (l15 : Int32) (l16 : Int32) (l17 : Int32) (l18 : Int32) (l19 : Int32) : Sm g 22 831 [(0, .ref g.1.2.2.2.2.2), (2, .int l2), (3, .int l3), (4, .int l4), (5, .int l5), (6, .long l6), (8, .int l8), (9, .long l9), (12, .int l12), (13, .int l13), (14, .int l14), (15, .int l15), (16, .int l16), (17, .int l17), (18, .int l18), (19, .int l19)] [] (R_connect_J831 l2 l3 l4 l5 l6 l8 l9 l12 l13 l14 l15 l16 l17 l18 l19) := by
  unfold R_connect_J831
  refine s_iload B.1 14 dX12_connect_831 rfl ?_
  refine s_if_lt B.1 858 dX12_connect_833 (by decide) ?_ ?_
  · exact Sm.lvs [0, 1, 2, 3, 4, 5, 6, 7, 8, 9, 10, 11, 12, 13, 14, 15] rfl (sm_connect_J858 B l2 l3 l4 l5 l6 l8 l9 l12 l13 l14 l15 l16 l17 l18 l19)
  · refine s_aload_n B.1 0 dX12_connect_836 rfl rfl ?_
    refine rr_getA B 11 mh_11 mn_11 mf_11 dX12_connect_837 ?_
    refine s_iload B.1 14 dX12_connect_840 rfl ?_
    refine rr_zald B 11 mh_11 mk_11 dX12_connect_842 (fun v38 => ?_)
    refine s_if_eq B.1 858 dX12_connect_843 (by decide) ?_ ?_
    · exact Sm.lvs [0, 1, 2, 3, 4, 5, 6, 7, 8, 9, 10, 11, 12, 13, 14, 15] rfl (sm_connect_J858 B l2 l3 l4 l5 l6 l8 l9 l12 l13 l14 l15 l16 l17 l18 l19)
    · refine s_iload_n B.1 1 dX12_connect_846 rfl rfl ?_
      refine s_iconst (v := 2) B.1 dX12_connect_847 (by decide) ?_
      refine s_iand B.1 dX12_connect_848 ?_
      refine s_if_eq B.1 858 dX12_connect_849 (by decide) ?_ ?_
      · exact Sm.lvs [0, 1, 2, 3, 4, 5, 6, 7, 8, 9, 10, 11, 12, 13, 14, 15] rfl (sm_connect_J858 B l2 l3 l4 l5 l6 l8 l9 l12 l13 l14 l15 l16 l17 l18 l19)
      · refine s_aload_n B.1 0 dX12_connect_852 rfl rfl ?_
        refine s_iload B.1 14 dX12_connect_853 rfl ?_
        refine rr_cvv (As := [.int l18]) (st := []) B (m_ends B.ok l18) mc_ends ml_ends mi_ends me_ends ini12 md_ends (by decide) rfl (Nat.le_of_ble_eq_true rfl) dX12_connect_855 (fun r39 => ?_)
        exact Sm.lvs [0, 1, 2, 3, 4, 5, 6, 7, 8, 9, 10, 11, 12, 13, 14, 15] rfl (sm_connect_J858 B l2 l3 l4 l5 l6 l8 l9 l12 l13 l14 l15 l16 l17 l18 l19)
def R_connect_J784 (l2 : Int32) (l3 : Int32) (l4 : Int32) (l5 : Int32) (l6 : Int64) (l8 : Int32) (l9 : Int64) (l12 : Int32) (l13 : Int32) (l14 : Int32) (l15 : Int32) (l16 : Int32) (l17 : Int32) (l18 : Int32) (s0 : Int32) : RS → Option (Unit × RS) :=
  if l18 < 0 then (
    R_connect_J831 l2 l3 l4 l5 l6 l8 l9 l12 l13 l14 l15 l16 l17 l18 s0
  ) else (
    rA 15 l18 fun v40 =>
    if v40 < 0 then (
      R_connect_J831 l2 l3 l4 l5 l6 l8 l9 l12 l13 l14 l15 l16 l17 l18 s0
    ) else (
      rA 15 l18 fun v41 =>
      bd (R_short4 v41 (224 : Int32) (2 : Int32) (142 : Int32) (0 : Int32) (4 : Int32)) fun r42 =>
      bd (R_lost v41) fun r43 =>
      R_connect_J831 l2 l3 l4 l5 l6 l8 l9 l12 l13 l14 l15 l16 l17 l18 s0
    )
  )
set_option maxRecDepth 10000 in
theorem sm_connect_J784 {g : Gm RS Unit} (B : Br g cX12_connect 22 voV none 9 222) (l2 : Int32) (l3 : Int32) (l4 : Int32) (l5 : Int32) (l6 : Int64) (l8 : Int32) (l9 : Int64) (l12 : Int32) (l13 : Int32) (l14 : Int32) (l15 : Int32) (l16 : Int32) (l17 : Int32) (l18 : Int32) (s0 : Int32) : Sm g 22 784 [(0, .ref g.1.2.2.2.2.2), (2, .int l2), (3, .int l3), (4, .int l4), (5, .int l5), (6, .long l6), (8, .int l8), (9, .long l9), (12, .int l12), (13, .int l13), (14, .int l14), (15, .int l15), (16, .int l16), (17, .int l17), (18, .int l18)] [.int s0] (R_connect_J784 l2 l3 l4 l5 l6 l8 l9 l12 l13 l14 l15 l16 l17 l18 s0) := by
  unfold R_connect_J784
  refine s_istore (lv' := [(19, .int s0), (0, .ref g.1.2.2.2.2.2), (2, .int l2), (3, .int l3), (4, .int l4), (5, .int l5), (6, .long l6), (8, .int l8), (9, .long l9), (12, .int l12), (13, .int l13), (14, .int l14), (15, .int l15), (16, .int l16), (17, .int l17), (18, .int l18)]) B.1 dX12_connect_784 (by decide) rfl ?_
  refine s_iload B.1 15 dX12_connect_786 rfl ?_
  refine s_if_lt B.1 831 dX12_connect_788 (by decide) ?_ ?_
  · exact Sm.lvs [1, 2, 3, 4, 5, 6, 7, 8, 9, 10, 11, 12, 13, 14, 15, 0] rfl (sm_connect_J831 B l2 l3 l4 l5 l6 l8 l9 l12 l13 l14 l15 l16 l17 l18 s0)
  · refine s_aload_n B.1 1 dX12_connect_791 rfl rfl ?_
    refine rr_getA B 15 mh_15 mn_15 mf_15 dX12_connect_792 ?_
    refine s_iload B.1 15 dX12_connect_795 rfl ?_
    refine rr_iald B 15 mh_15 mk_15 dX12_connect_797 (fun v40 => ?_)
    refine s_if_lt B.1 831 dX12_connect_798 (by decide) ?_ ?_
    · exact Sm.lvs [1, 2, 3, 4, 5, 6, 7, 8, 9, 10, 11, 12, 13, 14, 15, 0] rfl (sm_connect_J831 B l2 l3 l4 l5 l6 l8 l9 l12 l13 l14 l15 l16 l17 l18 s0)
    · refine s_aload_n B.1 1 dX12_connect_801 rfl rfl ?_
      refine rr_getA B 15 mh_15 mn_15 mf_15 dX12_connect_802 ?_
      refine s_iload B.1 15 dX12_connect_805 rfl ?_
      refine rr_iald B 15 mh_15 mk_15 dX12_connect_807 (fun v41 => ?_)
      refine s_istore (lv' := [(20, .int v41), (19, .int s0), (0, .ref g.1.2.2.2.2.2), (2, .int l2), (3, .int l3), (4, .int l4), (5, .int l5), (6, .long l6), (8, .int l8), (9, .long l9), (12, .int l12), (13, .int l13), (14, .int l14), (15, .int l15), (16, .int l16), (17, .int l17), (18, .int l18)]) B.1 dX12_connect_808 (by decide) rfl ?_
      refine s_aload_n B.1 2 dX12_connect_810 rfl rfl ?_
      refine s_iload B.1 0 dX12_connect_811 rfl ?_
      refine s_sipush (v := (224)) B.1 dX12_connect_813 (by decide) ?_
      refine s_iconst (v := 2) B.1 dX12_connect_816 (by decide) ?_
      refine s_sipush (v := (142)) B.1 dX12_connect_817 (by decide) ?_
      refine s_iconst (v := 0) B.1 dX12_connect_820 (by decide) ?_
      refine s_iconst (v := 4) B.1 dX12_connect_821 (by decide) ?_
      refine rr_cvv (As := [.int v41, .int (224 : Int32), .int (2 : Int32), .int (142 : Int32), .int (0 : Int32), .int (4 : Int32)]) (st := []) B (m_short4 B.ok v41 (224 : Int32) (2 : Int32) (142 : Int32) (0 : Int32) (4 : Int32)) mc_short4 ml_short4 mi_short4 me_short4 ini12 md_short4 (by decide) rfl (Nat.le_of_ble_eq_true rfl) dX12_connect_822 (fun r42 => ?_)
      refine s_aload_n B.1 2 dX12_connect_825 rfl rfl ?_
      refine s_iload B.1 0 dX12_connect_826 rfl ?_
      refine rr_cvv (As := [.int v41]) (st := []) B (m_lost B.ok v41) mc_lost ml_lost mi_lost me_lost ini12 md_lost (by decide) rfl (Nat.le_of_ble_eq_true rfl) dX12_connect_828 (fun r43 => ?_)
      exact Sm.lvs [2, 3, 4, 5, 6, 7, 8, 9, 10, 11, 12, 13, 14, 15, 16, 1] rfl (sm_connect_J831 B l2 l3 l4 l5 l6 l8 l9 l12 l13 l14 l15 l16 l17 l18 s0)
def R_connect_J774 (l2 : Int32) (l3 : Int32) (l4 : Int32) (l5 : Int32) (l6 : Int64) (l8 : Int32) (l9 : Int64) (l12 : Int32) (l13 : Int32) (l14 : Int32) (l15 : Int32) (l16 : Int32) (l17 : Int32) (l18 : Int32) : RS → Option (Unit × RS) :=
  if l13 = 0 then (
    R_connect_J784 l2 l3 l4 l5 l6 l8 l9 l12 l13 l14 l15 l16 l17 l18 (1 : Int32)
  ) else (
    R_connect_J784 l2 l3 l4 l5 l6 l8 l9 l12 l13 l14 l15 l16 l17 l18 (0 : Int32)
  )
set_option maxRecDepth 10000 in
theorem sm_connect_J774 {g : Gm RS Unit} (B : Br g cX12_connect 22 voV none 9 222) (l2 : Int32) (l3 : Int32) (l4 : Int32) (l5 : Int32) (l6 : Int64) (l8 : Int32) (l9 : Int64) (l12 : Int32) (l13 : Int32) (l14 : Int32) (l15 : Int32) (l16 : Int32) (l17 : Int32) (l18 : Int32) : Sm g 22 774 [(0, .ref g.1.2.2.2.2.2), (2, .int l2), (3, .int l3), (4, .int l4), (5, .int l5), (6, .long l6), (8, .int l8), (9, .long l9), (12, .int l12), (13, .int l13), (14, .int l14), (15, .int l15), (16, .int l16), (17, .int l17), (18, .int l18)] [] (R_connect_J774 l2 l3 l4 l5 l6 l8 l9 l12 l13 l14 l15 l16 l17 l18) := by
  unfold R_connect_J774
  refine s_iload B.1 9 dX12_connect_774 rfl ?_
  refine s_if_ne B.1 783 dX12_connect_776 (by decide) ?_ ?_
  · refine s_iconst (v := 0) B.1 dX12_connect_783 (by decide) ?_
    exact Sm.lvs [0, 1, 2, 3, 4, 5, 6, 7, 8, 9, 10, 11, 12, 13, 14] rfl (sm_connect_J784 B l2 l3 l4 l5 l6 l8 l9 l12 l13 l14 l15 l16 l17 l18 (0 : Int32))
  · refine s_iconst (v := 1) B.1 dX12_connect_779 (by decide) ?_
    refine s_goto B.1 784 dX12_connect_780 (by decide) ?_
    exact Sm.lvs [0, 1, 2, 3, 4, 5, 6, 7, 8, 9, 10, 11, 12, 13, 14] rfl (sm_connect_J784 B l2 l3 l4 l5 l6 l8 l9 l12 l13 l14 l15 l16 l17 l18 (1 : Int32))
def R_connect_J752 (l2 : Int32) (l3 : Int32) (l4 : Int32) (l5 : Int32) (l6 : Int64) (l8 : Int32) (l9 : Int64) (l12 : Int32) (l13 : Int32) (l14 : Int32) (l15 : Int32) (l16 : Int32) (l17 : Int32) (s0 : Int32) : RS → Option (Unit × RS) :=
  if 0 ≤ s0 then (
    R_connect_J774 l2 l3 l4 l5 l6 l8 l9 l12 l13 l14 l15 l16 l17 s0
  ) else (
    bd (R_free) fun r44 =>
    if 0 ≤ r44 then (
      R_connect_J774 l2 l3 l4 l5 l6 l8 l9 l12 l13 l14 l15 l16 l17 s0
    ) else (
      bd (R_fails (151 : Int32)) fun r45 =>
      rt ()
    )
  )
set_option maxRecDepth 10000 in
theorem sm_connect_J752 {g : Gm RS Unit} (B : Br g cX12_connect 22 voV none 9 222) (l2 : Int32) (l3 : Int32) (l4 : Int32) (l5 : Int32) (l6 : Int64) (l8 : Int32) (l9 : Int64) (l12 : Int32) (l13 : Int32) (l14 : Int32) (l15 : Int32) (l16 : Int32) (l17 : Int32) (s0 : Int32) : Sm g 22 752 [(0, .ref g.1.2.2.2.2.2), (2, .int l2), (3, .int l3), (4, .int l4), (5, .int l5), (6, .long l6), (8, .int l8), (9, .long l9), (12, .int l12), (13, .int l13), (14, .int l14), (15, .int l15), (16, .int l16), (17, .int l17)] [.int s0] (R_connect_J752 l2 l3 l4 l5 l6 l8 l9 l12 l13 l14 l15 l16 l17 s0) := by
  unfold R_connect_J752
  refine s_istore (lv' := [(18, .int s0), (0, .ref g.1.2.2.2.2.2), (2, .int l2), (3, .int l3), (4, .int l4), (5, .int l5), (6, .long l6), (8, .int l8), (9, .long l9), (12, .int l12), (13, .int l13), (14, .int l14), (15, .int l15), (16, .int l16), (17, .int l17)]) B.1 dX12_connect_752 (by decide) rfl ?_
  refine s_iload B.1 0 dX12_connect_754 rfl ?_
  refine s_if_ge B.1 774 dX12_connect_756 (by decide) ?_ ?_
  · exact Sm.lvs [1, 2, 3, 4, 5, 6, 7, 8, 9, 10, 11, 12, 13, 14, 0] rfl (sm_connect_J774 B l2 l3 l4 l5 l6 l8 l9 l12 l13 l14 l15 l16 l17 s0)
  · refine s_aload_n B.1 1 dX12_connect_759 rfl rfl ?_
    refine rr_cvi (As := []) (st := []) B (m_free B.ok) mc_free ml_free mi_free me_free ini12 md_free (by decide) rfl (Nat.le_of_ble_eq_true rfl) dX12_connect_760 (fun r44 => ?_)
    refine s_if_ge B.1 774 dX12_connect_763 (by decide) ?_ ?_
    · exact Sm.lvs [1, 2, 3, 4, 5, 6, 7, 8, 9, 10, 11, 12, 13, 14, 0] rfl (sm_connect_J774 B l2 l3 l4 l5 l6 l8 l9 l12 l13 l14 l15 l16 l17 s0)
    · refine s_aload_n B.1 1 dX12_connect_766 rfl rfl ?_
      refine s_sipush (v := (151)) B.1 dX12_connect_767 (by decide) ?_
      refine rr_cvv (As := [.int (151 : Int32)]) (st := []) B (m_fails B.ok (151 : Int32)) mc_fails ml_fails mi_fails me_fails ini12 md_fails (by decide) rfl (Nat.le_of_ble_eq_true rfl) dX12_connect_770 (fun r45 => ?_)
      exact s_vret B.1 B.2.1 dX12_connect_773
def R_connect_J723 (l2 : Int32) (l3 : Int32) (l4 : Int32) (l5 : Int32) (l6 : Int64) (l8 : Int32) (l9 : Int64) (l12 : Int32) (l13 : Int32) (l14 : Int32) (l15 : Int32) (l16 : Int32) (l17 : Int32) : RS → Option (Unit × RS) :=
  rI 79 fun v46 =>
  if v46 = 0 then (
    if l13 = 0 then (
      R_connect_J752 l2 l3 l4 l5 l6 l8 l9 l12 l13 l14 l15 l16 l17 (-1 : Int32)
    ) else (
      bd (R_client 6 l12 l13) fun r47 =>
      R_connect_J752 l2 l3 l4 l5 l6 l8 l9 l12 l13 l14 l15 l16 l17 r47
    )
  ) else (
    rt ()
  )
set_option maxRecDepth 10000 in
theorem sm_connect_J723 {g : Gm RS Unit} (B : Br g cX12_connect 22 voV none 9 222) (l2 : Int32) (l3 : Int32) (l4 : Int32) (l5 : Int32) (l6 : Int64) (l8 : Int32) (l9 : Int64) (l12 : Int32) (l13 : Int32) (l14 : Int32) (l15 : Int32) (l16 : Int32) (l17 : Int32) : Sm g 22 723 [(0, .ref g.1.2.2.2.2.2), (2, .int l2), (3, .int l3), (4, .int l4), (5, .int l5), (6, .long l6), (8, .int l8), (9, .long l9), (12, .int l12), (13, .int l13), (14, .int l14), (15, .int l15), (16, .int l16), (17, .int l17)] [] (R_connect_J723 l2 l3 l4 l5 l6 l8 l9 l12 l13 l14 l15 l16 l17) := by
  unfold R_connect_J723
  refine s_aload_n B.1 0 dX12_connect_723 rfl rfl ?_
  refine rr_getI B 79 mh_79 mk_79 mf_79 dX12_connect_724 (fun v46 => ?_)
  refine s_if_eq B.1 731 dX12_connect_727 (by decide) ?_ ?_
  · refine s_iload B.1 9 dX12_connect_731 rfl ?_
    refine s_if_ne B.1 740 dX12_connect_733 (by decide) ?_ ?_
    · refine s_aload_n B.1 0 dX12_connect_740 rfl rfl ?_
      refine s_aload_n B.1 0 dX12_connect_741 rfl rfl ?_
      refine rr_getA B 6 mh_6 mn_6 mf_6 dX12_connect_742 ?_
      refine s_iload B.1 8 dX12_connect_745 rfl ?_
      refine s_iload B.1 9 dX12_connect_747 rfl ?_
      refine rr_cvi (As := [.ref (g.1.2.2.2.2.2 + mO 6), .int l12, .int l13]) (st := []) B (m_client B.ok 6 l12 l13 mh_6 mk_6) mc_client ml_client mi_client me_client ini12 md_client (by decide) rfl (Nat.le_of_ble_eq_true rfl) dX12_connect_749 (fun r47 => ?_)
      exact Sm.lvs [0, 1, 2, 3, 4, 5, 6, 7, 8, 9, 10, 11, 12, 13] rfl (sm_connect_J752 B l2 l3 l4 l5 l6 l8 l9 l12 l13 l14 l15 l16 l17 r47)
    · refine s_iconst (v := (-1)) B.1 dX12_connect_736 (by decide) ?_
      refine s_goto B.1 752 dX12_connect_737 (by decide) ?_
      exact Sm.lvs [0, 1, 2, 3, 4, 5, 6, 7, 8, 9, 10, 11, 12, 13] rfl (sm_connect_J752 B l2 l3 l4 l5 l6 l8 l9 l12 l13 l14 l15 l16 l17 (-1 : Int32))
  · exact s_vret B.1 B.2.1 dX12_connect_730
def R_connect_J702 (l2 : Int32) (l3 : Int32) (l4 : Int32) (l5 : Int32) (l6 : Int64) (l8 : Int32) (l9 : Int64) (l12 : Int32) (l13 : Int32) (l14 : Int32) (l15 : Int32) (l16 : Int32) (l17 : Int32) : RS → Option (Unit × RS) :=
  rI 79 fun v48 =>
  if v48 = 0 then (
    if l13 ≤ (20 : Int32) then (
      R_connect_J723 l2 l3 l4 l5 l6 l8 l9 l12 l13 l14 l15 l16 l17
    ) else (
      bd (R_fails (133 : Int32)) fun r49 =>
      R_connect_J723 l2 l3 l4 l5 l6 l8 l9 l12 l13 l14 l15 l16 l17
    )
  ) else (
    R_connect_J723 l2 l3 l4 l5 l6 l8 l9 l12 l13 l14 l15 l16 l17
  )
set_option maxRecDepth 10000 in
theorem sm_connect_J702 {g : Gm RS Unit} (B : Br g cX12_connect 22 voV none 9 222) (l2 : Int32) (l3 : Int32) (l4 : Int32) (l5 : Int32) (l6 : Int64) (l8 : Int32) (l9 : Int64) (l12 : Int32) (l13 : Int32) (l14 : Int32) (l15 : Int32) (l16 : Int32) (l17 : Int32) : Sm g 22 702 [(0, .ref g.1.2.2.2.2.2), (2, .int l2), (3, .int l3), (4, .int l4), (5, .int l5), (6, .long l6), (8, .int l8), (9, .long l9), (12, .int l12), (13, .int l13), (14, .int l14), (15, .int l15), (16, .int l16), (17, .int l17)] [] (R_connect_J702 l2 l3 l4 l5 l6 l8 l9 l12 l13 l14 l15 l16 l17) := by
  unfold R_connect_J702
  refine s_aload_n B.1 0 dX12_connect_702 rfl rfl ?_
  refine rr_getI B 79 mh_79 mk_79 mf_79 dX12_connect_703 (fun v48 => ?_)
  refine s_if_ne B.1 723 dX12_connect_706 (by decide) ?_ ?_
  · exact Sm.lvs [0, 1, 2, 3, 4, 5, 6, 7, 8, 9, 10, 11, 12, 13] rfl (sm_connect_J723 B l2 l3 l4 l5 l6 l8 l9 l12 l13 l14 l15 l16 l17)
  · refine s_iload B.1 9 dX12_connect_709 rfl ?_
    refine s_bipush (v := (20)) B.1 dX12_connect_711 (by decide) ?_
    refine s_icmp_le B.1 723 dX12_connect_713 (by decide) ?_ ?_
    · exact Sm.lvs [0, 1, 2, 3, 4, 5, 6, 7, 8, 9, 10, 11, 12, 13] rfl (sm_connect_J723 B l2 l3 l4 l5 l6 l8 l9 l12 l13 l14 l15 l16 l17)
    · refine s_aload_n B.1 0 dX12_connect_716 rfl rfl ?_
      refine s_sipush (v := (133)) B.1 dX12_connect_717 (by decide) ?_
      refine rr_cvv (As := [.int (133 : Int32)]) (st := []) B (m_fails B.ok (133 : Int32)) mc_fails ml_fails mi_fails me_fails ini12 md_fails (by decide) rfl (Nat.le_of_ble_eq_true rfl) dX12_connect_720 (fun r49 => ?_)
      exact Sm.lvs [0, 1, 2, 3, 4, 5, 6, 7, 8, 9, 10, 11, 12, 13] rfl (sm_connect_J723 B l2 l3 l4 l5 l6 l8 l9 l12 l13 l14 l15 l16 l17)
def R_connect_J683 (l2 : Int32) (l3 : Int32) (l4 : Int32) (l5 : Int32) (l6 : Int64) (l8 : Int32) (l9 : Int64) (l11 : Int32) (l12 : Int32) (l13 : Int32) (l14 : Int32) (l15 : Int32) (l16 : Int32) (l17 : Int32) : RS → Option (Unit × RS) :=
  rI 79 fun v50 =>
  if v50 = 0 then (
    if l11 = 0 then (
      R_connect_J702 l2 l3 l4 l5 l6 l8 l9 l12 l13 l14 l15 l16 l17
    ) else (
      bd (R_fails (140 : Int32)) fun r51 =>
      R_connect_J702 l2 l3 l4 l5 l6 l8 l9 l12 l13 l14 l15 l16 l17
    )
  ) else (
    R_connect_J702 l2 l3 l4 l5 l6 l8 l9 l12 l13 l14 l15 l16 l17
  )
set_option maxRecDepth 10000 in
theorem sm_connect_J683 {g : Gm RS Unit} (B : Br g cX12_connect 22 voV none 9 222) (l2 : Int32) (l3 : Int32) (l4 : Int32) (l5 : Int32) (l6 : Int64) (l8 : Int32) (l9 : Int64) (l11 : Int32) (l12 : Int32) (l13 : Int32) (l14 : Int32) (l15 : Int32) (l16 : Int32) (l17 : Int32) : Sm g 22 683 [(0, .ref g.1.2.2.2.2.2), (2, .int l2), (3, .int l3), (4, .int l4), (5, .int l5), (6, .long l6), (8, .int l8), (9, .long l9), (11, .int l11), (12, .int l12), (13, .int l13), (14, .int l14), (15, .int l15), (16, .int l16), (17, .int l17)] [] (R_connect_J683 l2 l3 l4 l5 l6 l8 l9 l11 l12 l13 l14 l15 l16 l17) := by
  unfold R_connect_J683
  refine s_aload_n B.1 0 dX12_connect_683 rfl rfl ?_
  refine rr_getI B 79 mh_79 mk_79 mf_79 dX12_connect_684 (fun v50 => ?_)
  refine s_if_ne B.1 702 dX12_connect_687 (by decide) ?_ ?_
  · exact Sm.lvs [0, 1, 2, 3, 4, 5, 6, 7, 9, 10, 11, 12, 13, 14] rfl (sm_connect_J702 B l2 l3 l4 l5 l6 l8 l9 l12 l13 l14 l15 l16 l17)
  · refine s_iload B.1 8 dX12_connect_690 rfl ?_
    refine s_if_eq B.1 702 dX12_connect_692 (by decide) ?_ ?_
    · exact Sm.lvs [0, 1, 2, 3, 4, 5, 6, 7, 9, 10, 11, 12, 13, 14] rfl (sm_connect_J702 B l2 l3 l4 l5 l6 l8 l9 l12 l13 l14 l15 l16 l17)
    · refine s_aload_n B.1 0 dX12_connect_695 rfl rfl ?_
      refine s_sipush (v := (140)) B.1 dX12_connect_696 (by decide) ?_
      refine rr_cvv (As := [.int (140 : Int32)]) (st := []) B (m_fails B.ok (140 : Int32)) mc_fails ml_fails mi_fails me_fails ini12 md_fails (by decide) rfl (Nat.le_of_ble_eq_true rfl) dX12_connect_699 (fun r51 => ?_)
      exact Sm.lvs [0, 1, 2, 3, 4, 5, 6, 7, 9, 10, 11, 12, 13, 14] rfl (sm_connect_J702 B l2 l3 l4 l5 l6 l8 l9 l12 l13 l14 l15 l16 l17)
def R_connect_J658 (l2 : Int32) (l3 : Int32) (l4 : Int32) (l5 : Int32) (l6 : Int64) (l8 : Int32) (l9 : Int64) (l11 : Int32) (l12 : Int32) (l13 : Int32) (l14 : Int32) (l15 : Int32) (l16 : Int32) (l17 : Int32) : RS → Option (Unit × RS) :=
  rI 79 fun v52 =>
  if v52 = 0 then (
    rI 76 fun v53 =>
    rI 77 fun v54 =>
    if v54 ≤ v53 then (
      R_connect_J683 l2 l3 l4 l5 l6 l8 l9 l11 l12 l13 l14 l15 l16 l17
    ) else (
      bd (R_fails (129 : Int32)) fun r55 =>
      R_connect_J683 l2 l3 l4 l5 l6 l8 l9 l11 l12 l13 l14 l15 l16 l17
    )
  ) else (
    R_connect_J683 l2 l3 l4 l5 l6 l8 l9 l11 l12 l13 l14 l15 l16 l17
  )
set_option maxRecDepth 10000 in
theorem sm_connect_J658 {g : Gm RS Unit} (B : Br g cX12_connect 22 voV none 9 222) (l2 : Int32) (l3 : Int32) (l4 : Int32) (l5 : Int32) (l6 : Int64) (l8 : Int32) (l9 : Int64) (l11 : Int32) (l12 : Int32) (l13 : Int32) (l14 : Int32) (l15 : Int32) (l16 : Int32) (l17 : Int32) : Sm g 22 658 [(0, .ref g.1.2.2.2.2.2), (2, .int l2), (3, .int l3), (4, .int l4), (5, .int l5), (6, .long l6), (8, .int l8), (9, .long l9), (11, .int l11), (12, .int l12), (13, .int l13), (14, .int l14), (15, .int l15), (16, .int l16), (17, .int l17)] [] (R_connect_J658 l2 l3 l4 l5 l6 l8 l9 l11 l12 l13 l14 l15 l16 l17) := by
  unfold R_connect_J658
  refine s_aload_n B.1 0 dX12_connect_658 rfl rfl ?_
  refine rr_getI B 79 mh_79 mk_79 mf_79 dX12_connect_659 (fun v52 => ?_)
  refine s_if_ne B.1 683 dX12_connect_662 (by decide) ?_ ?_
  · exact Sm.lvs [0, 1, 2, 3, 4, 5, 6, 7, 8, 9, 10, 11, 12, 13, 14] rfl (sm_connect_J683 B l2 l3 l4 l5 l6 l8 l9 l11 l12 l13 l14 l15 l16 l17)
  · refine s_aload_n B.1 0 dX12_connect_665 rfl rfl ?_
    refine rr_getI B 76 mh_76 mk_76 mf_76 dX12_connect_666 (fun v53 => ?_)
    refine s_aload_n B.1 0 dX12_connect_669 rfl rfl ?_
    refine rr_getI B 77 mh_77 mk_77 mf_77 dX12_connect_670 (fun v54 => ?_)
    refine s_icmp_ge B.1 683 dX12_connect_673 (by decide) ?_ ?_
    · exact Sm.lvs [0, 1, 2, 3, 4, 5, 6, 7, 8, 9, 10, 11, 12, 13, 14] rfl (sm_connect_J683 B l2 l3 l4 l5 l6 l8 l9 l11 l12 l13 l14 l15 l16 l17)
    · refine s_aload_n B.1 0 dX12_connect_676 rfl rfl ?_
      refine s_sipush (v := (129)) B.1 dX12_connect_677 (by decide) ?_
      refine rr_cvv (As := [.int (129 : Int32)]) (st := []) B (m_fails B.ok (129 : Int32)) mc_fails ml_fails mi_fails me_fails ini12 md_fails (by decide) rfl (Nat.le_of_ble_eq_true rfl) dX12_connect_680 (fun r55 => ?_)
      exact Sm.lvs [0, 1, 2, 3, 4, 5, 6, 7, 8, 9, 10, 11, 12, 13, 14] rfl (sm_connect_J683 B l2 l3 l4 l5 l6 l8 l9 l11 l12 l13 l14 l15 l16 l17)
def R_connect_J640 (l2 : Int32) (l3 : Int32) (l4 : Int32) (l5 : Int32) (l6 : Int64) (l8 : Int32) (l9 : Int64) (l11 : Int32) (l12 : Int32) (l13 : Int32) (l14 : Int32) (l15 : Int32) (l16 : Int32) (l17 : Int32) : RS → Option (Unit × RS) :=
  if (l2 &&& (64 : Int32)) = 0 then (
    R_connect_J658 l2 l3 l4 l5 l6 l8 l9 l11 l12 l13 l14 l15 l16 l17
  ) else (
    rI 79 fun v56 =>
    if v56 = 0 then (
      bd (R_row) fun r57 =>
      R_connect_J658 l2 l3 l4 l5 l6 l8 l9 l11 l12 l13 l14 l15 l16 l17
    ) else (
      R_connect_J658 l2 l3 l4 l5 l6 l8 l9 l11 l12 l13 l14 l15 l16 l17
    )
  )
set_option maxRecDepth 10000 in
theorem sm_connect_J640 {g : Gm RS Unit} (B : Br g cX12_connect 22 voV none 9 222) (l2 : Int32) (l3 : Int32) (l4 : Int32) (l5 : Int32) (l6 : Int64) (l8 : Int32) (l9 : Int64) (l11 : Int32) (l12 : Int32) (l13 : Int32) (l14 : Int32) (l15 : Int32) (l16 : Int32) (l17 : Int32) : Sm g 22 640 [(0, .ref g.1.2.2.2.2.2), (2, .int l2), (3, .int l3), (4, .int l4), (5, .int l5), (6, .long l6), (8, .int l8), (9, .long l9), (11, .int l11), (12, .int l12), (13, .int l13), (14, .int l14), (15, .int l15), (16, .int l16), (17, .int l17)] [] (R_connect_J640 l2 l3 l4 l5 l6 l8 l9 l11 l12 l13 l14 l15 l16 l17) := by
  unfold R_connect_J640
  refine s_iload_n B.1 1 dX12_connect_640 rfl rfl ?_
  refine s_bipush (v := (64)) B.1 dX12_connect_641 (by decide) ?_
  refine s_iand B.1 dX12_connect_643 ?_
  refine s_if_eq B.1 658 dX12_connect_644 (by decide) ?_ ?_
  · exact Sm.lvs [0, 1, 2, 3, 4, 5, 6, 7, 8, 9, 10, 11, 12, 13, 14] rfl (sm_connect_J658 B l2 l3 l4 l5 l6 l8 l9 l11 l12 l13 l14 l15 l16 l17)
  · refine s_aload_n B.1 0 dX12_connect_647 rfl rfl ?_
    refine rr_getI B 79 mh_79 mk_79 mf_79 dX12_connect_648 (fun v56 => ?_)
    refine s_if_ne B.1 658 dX12_connect_651 (by decide) ?_ ?_
    · exact Sm.lvs [0, 1, 2, 3, 4, 5, 6, 7, 8, 9, 10, 11, 12, 13, 14] rfl (sm_connect_J658 B l2 l3 l4 l5 l6 l8 l9 l11 l12 l13 l14 l15 l16 l17)
    · refine s_aload_n B.1 0 dX12_connect_654 rfl rfl ?_
      refine rr_cvv (As := []) (st := []) B (m_row B.ok) mc_row ml_row mi_row me_row ini12 md_row (by decide) rfl (Nat.le_of_ble_eq_true rfl) dX12_connect_655 (fun r57 => ?_)
      exact Sm.lvs [0, 1, 2, 3, 4, 5, 6, 7, 8, 9, 10, 11, 12, 13, 14] rfl (sm_connect_J658 B l2 l3 l4 l5 l6 l8 l9 l11 l12 l13 l14 l15 l16 l17)
def R_connect_J621 (l2 : Int32) (l3 : Int32) (l4 : Int32) (l5 : Int32) (l6 : Int64) (l8 : Int32) (l9 : Int64) (l11 : Int32) (l12 : Int32) (l13 : Int32) (l14 : Int32) (l15 : Int32) (l16 : Int32) (l17 : Int32) : RS → Option (Unit × RS) :=
  if (l2 &&& (128 : Int32)) = 0 then (
    R_connect_J640 l2 l3 l4 l5 l6 l8 l9 l11 l12 l13 l14 l15 l16 l17
  ) else (
    rI 79 fun v58 =>
    if v58 = 0 then (
      bd (R_string) fun r59 =>
      R_connect_J640 l2 l3 l4 l5 l6 l8 l9 l11 l12 l13 l14 l15 l16 l17
    ) else (
      R_connect_J640 l2 l3 l4 l5 l6 l8 l9 l11 l12 l13 l14 l15 l16 l17
    )
  )
set_option maxRecDepth 10000 in
theorem sm_connect_J621 {g : Gm RS Unit} (B : Br g cX12_connect 22 voV none 9 222) (l2 : Int32) (l3 : Int32) (l4 : Int32) (l5 : Int32) (l6 : Int64) (l8 : Int32) (l9 : Int64) (l11 : Int32) (l12 : Int32) (l13 : Int32) (l14 : Int32) (l15 : Int32) (l16 : Int32) (l17 : Int32) : Sm g 22 621 [(0, .ref g.1.2.2.2.2.2), (2, .int l2), (3, .int l3), (4, .int l4), (5, .int l5), (6, .long l6), (8, .int l8), (9, .long l9), (11, .int l11), (12, .int l12), (13, .int l13), (14, .int l14), (15, .int l15), (16, .int l16), (17, .int l17)] [] (R_connect_J621 l2 l3 l4 l5 l6 l8 l9 l11 l12 l13 l14 l15 l16 l17) := by
  unfold R_connect_J621
  refine s_iload_n B.1 1 dX12_connect_621 rfl rfl ?_
  refine s_sipush (v := (128)) B.1 dX12_connect_622 (by decide) ?_
  refine s_iand B.1 dX12_connect_625 ?_
  refine s_if_eq B.1 640 dX12_connect_626 (by decide) ?_ ?_
  · exact Sm.lvs [0, 1, 2, 3, 4, 5, 6, 7, 8, 9, 10, 11, 12, 13, 14] rfl (sm_connect_J640 B l2 l3 l4 l5 l6 l8 l9 l11 l12 l13 l14 l15 l16 l17)
  · refine s_aload_n B.1 0 dX12_connect_629 rfl rfl ?_
    refine rr_getI B 79 mh_79 mk_79 mf_79 dX12_connect_630 (fun v58 => ?_)
    refine s_if_ne B.1 640 dX12_connect_633 (by decide) ?_ ?_
    · exact Sm.lvs [0, 1, 2, 3, 4, 5, 6, 7, 8, 9, 10, 11, 12, 13, 14] rfl (sm_connect_J640 B l2 l3 l4 l5 l6 l8 l9 l11 l12 l13 l14 l15 l16 l17)
    · refine s_aload_n B.1 0 dX12_connect_636 rfl rfl ?_
      refine rr_cvv (As := []) (st := []) B (m_string B.ok) mc_string ml_string mi_string me_string ini12 md_string (by decide) rfl (Nat.le_of_ble_eq_true rfl) dX12_connect_637 (fun r59 => ?_)
      exact Sm.lvs [0, 1, 2, 3, 4, 5, 6, 7, 8, 9, 10, 11, 12, 13, 14] rfl (sm_connect_J640 B l2 l3 l4 l5 l6 l8 l9 l11 l12 l13 l14 l15 l16 l17)
def R_connect_J609 (l2 : Int32) (l3 : Int32) (l4 : Int32) (l5 : Int32) (l6 : Int64) (l8 : Int32) (l9 : Int64) (l11 : Int32) (l12 : Int32) (l13 : Int32) (l14 : Int32) (l15 : Int32) : RS → Option (Unit × RS) :=
  rI 80 fun v60 =>
  rI 81 fun v61 =>
  R_connect_J621 l2 l3 l4 l5 l6 l8 l9 l11 l12 l13 l14 l15 v60 v61
set_option maxRecDepth 10000 in
theorem sm_connect_J609 {g : Gm RS Unit} (B : Br g cX12_connect 22 voV none 9 222) (l2 : Int32) (l3 : Int32) (l4 : Int32) (l5 : Int32) (l6 : Int64) (l8 : Int32) (l9 : Int64) (l11 : Int32) (l12 : Int32) (l13 : Int32) (l14 : Int32) (l15 : Int32) : Sm g 22 609 [(0, .ref g.1.2.2.2.2.2), (2, .int l2), (3, .int l3), (4, .int l4), (5, .int l5), (6, .long l6), (8, .int l8), (9, .long l9), (11, .int l11), (12, .int l12), (13, .int l13), (14, .int l14), (15, .int l15)] [] (R_connect_J609 l2 l3 l4 l5 l6 l8 l9 l11 l12 l13 l14 l15) := by
  unfold R_connect_J609
  refine s_aload_n B.1 0 dX12_connect_609 rfl rfl ?_
  refine rr_getI B 80 mh_80 mk_80 mf_80 dX12_connect_610 (fun v60 => ?_)
  refine s_istore (lv' := [(16, .int v60), (0, .ref g.1.2.2.2.2.2), (2, .int l2), (3, .int l3), (4, .int l4), (5, .int l5), (6, .long l6), (8, .int l8), (9, .long l9), (11, .int l11), (12, .int l12), (13, .int l13), (14, .int l14), (15, .int l15)]) B.1 dX12_connect_613 (by decide) rfl ?_
  refine s_aload_n B.1 1 dX12_connect_615 rfl rfl ?_
  refine rr_getI B 81 mh_81 mk_81 mf_81 dX12_connect_616 (fun v61 => ?_)
  refine s_istore (lv' := [(17, .int v61), (16, .int v60), (0, .ref g.1.2.2.2.2.2), (2, .int l2), (3, .int l3), (4, .int l4), (5, .int l5), (6, .long l6), (8, .int l8), (9, .long l9), (11, .int l11), (12, .int l12), (13, .int l13), (14, .int l14), (15, .int l15)]) B.1 dX12_connect_619 (by decide) rfl ?_
  exact Sm.lvs [2, 3, 4, 5, 6, 7, 8, 9, 10, 11, 12, 13, 14, 1, 0] rfl (sm_connect_J621 B l2 l3 l4 l5 l6 l8 l9 l11 l12 l13 l14 l15 v60 v61)
def R_connect_J598 (l2 : Int32) (l3 : Int32) (l4 : Int32) (l5 : Int32) (l6 : Int64) (l8 : Int32) (l9 : Int64) (l11 : Int32) (l12 : Int32) (l13 : Int32) (l14 : Int32) (l15 : Int32) : RS → Option (Unit × RS) :=
  rI 79 fun v62 =>
  if v62 = 0 then (
    bd (R_row) fun r63 =>
    R_connect_J609 l2 l3 l4 l5 l6 l8 l9 l11 l12 l13 l14 l15
  ) else (
    R_connect_J609 l2 l3 l4 l5 l6 l8 l9 l11 l12 l13 l14 l15
  )
set_option maxRecDepth 10000 in
theorem sm_connect_J598 {g : Gm RS Unit} (B : Br g cX12_connect 22 voV none 9 222) (l2 : Int32) (l3 : Int32) (l4 : Int32) (l5 : Int32) (l6 : Int64) (l8 : Int32) (l9 : Int64) (l11 : Int32) (l12 : Int32) (l13 : Int32) (l14 : Int32) (l15 : Int32) : Sm g 22 598 [(0, .ref g.1.2.2.2.2.2), (2, .int l2), (3, .int l3), (4, .int l4), (5, .int l5), (6, .long l6), (8, .int l8), (9, .long l9), (11, .int l11), (12, .int l12), (13, .int l13), (14, .int l14), (15, .int l15)] [] (R_connect_J598 l2 l3 l4 l5 l6 l8 l9 l11 l12 l13 l14 l15) := by
  unfold R_connect_J598
  refine s_aload_n B.1 0 dX12_connect_598 rfl rfl ?_
  refine rr_getI B 79 mh_79 mk_79 mf_79 dX12_connect_599 (fun v62 => ?_)
  refine s_if_ne B.1 609 dX12_connect_602 (by decide) ?_ ?_
  · exact Sm.lvs [0, 1, 2, 3, 4, 5, 6, 7, 8, 9, 10, 11, 12] rfl (sm_connect_J609 B l2 l3 l4 l5 l6 l8 l9 l11 l12 l13 l14 l15)
  · refine s_aload_n B.1 0 dX12_connect_605 rfl rfl ?_
    refine rr_cvv (As := []) (st := []) B (m_row B.ok) mc_row ml_row mi_row me_row ini12 md_row (by decide) rfl (Nat.le_of_ble_eq_true rfl) dX12_connect_606 (fun r63 => ?_)
    exact Sm.lvs [0, 1, 2, 3, 4, 5, 6, 7, 8, 9, 10, 11, 12] rfl (sm_connect_J609 B l2 l3 l4 l5 l6 l8 l9 l11 l12 l13 l14 l15)
def R_connect_J558 (l2 : Int32) (l3 : Int32) (l4 : Int32) (l5 : Int32) (l6 : Int64) (l8 : Int32) (l9 : Int64) (l11 : Int32) (l12 : Int32) (l13 : Int32) : RS → Option (Unit × RS) :=
  rI 80 fun v64 =>
  rI 81 fun v65 =>
  rI 79 fun v66 =>
  if v66 = 0 then (
    bd (R_isTopic 6 v64 v65) fun r67 =>
    if r67 = 0 then (
      bd (R_fails (144 : Int32)) fun r68 =>
      R_connect_J598 l2 l3 l4 l5 l6 l8 l9 l11 l12 l13 v64 v65
    ) else (
      R_connect_J598 l2 l3 l4 l5 l6 l8 l9 l11 l12 l13 v64 v65
    )
  ) else (
    R_connect_J598 l2 l3 l4 l5 l6 l8 l9 l11 l12 l13 v64 v65
  )
set_option maxRecDepth 10000 in
theorem sm_connect_J558 {g : Gm RS Unit} (B : Br g cX12_connect 22 voV none 9 222) (l2 : Int32) (l3 : Int32) (l4 : Int32) (l5 : Int32) (l6 : Int64) (l8 : Int32) (l9 : Int64) (l11 : Int32) (l12 : Int32) (l13 : Int32) : Sm g 22 558 [(0, .ref g.1.2.2.2.2.2), (2, .int l2), (3, .int l3), (4, .int l4), (5, .int l5), (6, .long l6), (8, .int l8), (9, .long l9), (11, .int l11), (12, .int l12), (13, .int l13)] [] (R_connect_J558 l2 l3 l4 l5 l6 l8 l9 l11 l12 l13) := by
  unfold R_connect_J558
  refine s_aload_n B.1 0 dX12_connect_558 rfl rfl ?_
  refine rr_getI B 80 mh_80 mk_80 mf_80 dX12_connect_559 (fun v64 => ?_)
  refine s_istore (lv' := [(14, .int v64), (0, .ref g.1.2.2.2.2.2), (2, .int l2), (3, .int l3), (4, .int l4), (5, .int l5), (6, .long l6), (8, .int l8), (9, .long l9), (11, .int l11), (12, .int l12), (13, .int l13)]) B.1 dX12_connect_562 (by decide) rfl ?_
  refine s_aload_n B.1 1 dX12_connect_564 rfl rfl ?_
  refine rr_getI B 81 mh_81 mk_81 mf_81 dX12_connect_565 (fun v65 => ?_)
  refine s_istore (lv' := [(15, .int v65), (14, .int v64), (0, .ref g.1.2.2.2.2.2), (2, .int l2), (3, .int l3), (4, .int l4), (5, .int l5), (6, .long l6), (8, .int l8), (9, .long l9), (11, .int l11), (12, .int l12), (13, .int l13)]) B.1 dX12_connect_568 (by decide) rfl ?_
  refine s_aload_n B.1 2 dX12_connect_570 rfl rfl ?_
  refine rr_getI B 79 mh_79 mk_79 mf_79 dX12_connect_571 (fun v66 => ?_)
  refine s_if_ne B.1 598 dX12_connect_574 (by decide) ?_ ?_
  · exact Sm.lvs [2, 3, 4, 5, 6, 7, 8, 9, 10, 11, 12, 1, 0] rfl (sm_connect_J598 B l2 l3 l4 l5 l6 l8 l9 l11 l12 l13 v64 v65)
  · refine s_aload_n B.1 2 dX12_connect_577 rfl rfl ?_
    refine rr_getA B 6 mh_6 mn_6 mf_6 dX12_connect_578 ?_
    refine s_iload B.1 1 dX12_connect_581 rfl ?_
    refine s_iload B.1 0 dX12_connect_583 rfl ?_
    refine rr_csi (As := [.ref (g.1.2.2.2.2.2 + mO 6), .int v64, .int v65]) (st := []) B (m_isTopic B.ok 6 v64 v65 mh_6 mk_6) mc_isTopic ml_isTopic ms_isTopic ini12 md_isTopic (by decide) rfl (Nat.le_of_ble_eq_true rfl) dX12_connect_585 (fun r67 => ?_)
    refine s_if_ne B.1 598 dX12_connect_588 (by decide) ?_ ?_
    · exact Sm.lvs [2, 3, 4, 5, 6, 7, 8, 9, 10, 11, 12, 1, 0] rfl (sm_connect_J598 B l2 l3 l4 l5 l6 l8 l9 l11 l12 l13 v64 v65)
    · refine s_aload_n B.1 2 dX12_connect_591 rfl rfl ?_
      refine s_sipush (v := (144)) B.1 dX12_connect_592 (by decide) ?_
      refine rr_cvv (As := [.int (144 : Int32)]) (st := []) B (m_fails B.ok (144 : Int32)) mc_fails ml_fails mi_fails me_fails ini12 md_fails (by decide) rfl (Nat.le_of_ble_eq_true rfl) dX12_connect_595 (fun r68 => ?_)
      exact Sm.lvs [2, 3, 4, 5, 6, 7, 8, 9, 10, 11, 12, 1, 0] rfl (sm_connect_J598 B l2 l3 l4 l5 l6 l8 l9 l11 l12 l13 v64 v65)
def R_connect_J547 (l2 : Int32) (l3 : Int32) (l4 : Int32) (l5 : Int32) (l6 : Int64) (l8 : Int32) (l9 : Int64) (l11 : Int32) (l12 : Int32) (l13 : Int32) : RS → Option (Unit × RS) :=
  rI 79 fun v69 =>
  if v69 = 0 then (
    bd (R_string) fun r70 =>
    R_connect_J558 l2 l3 l4 l5 l6 l8 l9 l11 l12 l13
  ) else (
    R_connect_J558 l2 l3 l4 l5 l6 l8 l9 l11 l12 l13
  )
set_option maxRecDepth 10000 in
theorem sm_connect_J547 {g : Gm RS Unit} (B : Br g cX12_connect 22 voV none 9 222) (l2 : Int32) (l3 : Int32) (l4 : Int32) (l5 : Int32) (l6 : Int64) (l8 : Int32) (l9 : Int64) (l11 : Int32) (l12 : Int32) (l13 : Int32) : Sm g 22 547 [(0, .ref g.1.2.2.2.2.2), (2, .int l2), (3, .int l3), (4, .int l4), (5, .int l5), (6, .long l6), (8, .int l8), (9, .long l9), (11, .int l11), (12, .int l12), (13, .int l13)] [] (R_connect_J547 l2 l3 l4 l5 l6 l8 l9 l11 l12 l13) := by
  unfold R_connect_J547
  refine s_aload_n B.1 0 dX12_connect_547 rfl rfl ?_
  refine rr_getI B 79 mh_79 mk_79 mf_79 dX12_connect_548 (fun v69 => ?_)
  refine s_if_ne B.1 558 dX12_connect_551 (by decide) ?_ ?_
  · exact Sm.lvs [0, 1, 2, 3, 4, 5, 6, 7, 8, 9, 10] rfl (sm_connect_J558 B l2 l3 l4 l5 l6 l8 l9 l11 l12 l13)
  · refine s_aload_n B.1 0 dX12_connect_554 rfl rfl ?_
    refine rr_cvv (As := []) (st := []) B (m_string B.ok) mc_string ml_string mi_string me_string ini12 md_string (by decide) rfl (Nat.le_of_ble_eq_true rfl) dX12_connect_555 (fun r70 => ?_)
    exact Sm.lvs [0, 1, 2, 3, 4, 5, 6, 7, 8, 9, 10] rfl (sm_connect_J558 B l2 l3 l4 l5 l6 l8 l9 l11 l12 l13)
def R_connect_J407 (l2 : Int32) (l3 : Int32) (l4 : Int32) (l5 : Int32) (l6 : Int64) (l8 : Int32) (s0 : Int64) : RS → Option (Unit × RS) :=
  rA 82 (21 : Int32) fun v71 =>
  bd (R_string) fun r72 =>
  rI 80 fun v73 =>
  rI 81 fun v74 =>
  if l3 = 0 then (
    R_connect_J621 l2 l3 l4 l5 l6 l8 s0 v71 v73 v74 (0 : Int32) (0 : Int32) (0 : Int32) (0 : Int32)
  ) else (
    rI 79 fun v75 =>
    if v75 = 0 then (
      bd (R_bit (1 : Int32)) fun r76 =>
      bd (R_bit (2 : Int32)) fun r77 =>
      bd (R_bit (3 : Int32)) fun r78 =>
      bd (R_bit (8 : Int32)) fun r79 =>
      bd (R_bit (9 : Int32)) fun r80 =>
      bd (R_bit (24 : Int32)) fun r81 =>
      bd (R_bit (38 : Int32)) fun r82 =>
      bd (R_properties ((((((r76 ||| r77) ||| r78) ||| r79) ||| r80) ||| r81) ||| r82)) fun r83 =>
      rI 79 fun v84 =>
      if v84 = 0 then (
        rA 82 (8 : Int32) fun v85 =>
        if v85 = 0 then (
          R_connect_J547 l2 l3 l4 l5 l6 l8 s0 v71 v73 v74
        ) else (
          rA 84 (8 : Int32) fun v86 =>
          rA 85 (8 : Int32) fun v87 =>
          bd (R_isTopic 6 v86 v87) fun r88 =>
          if r88 = 0 then (
            bd (R_fails (130 : Int32)) fun r89 =>
            R_connect_J547 l2 l3 l4 l5 l6 l8 s0 v71 v73 v74
          ) else (
            R_connect_J547 l2 l3 l4 l5 l6 l8 s0 v71 v73 v74
          )
        )
      ) else (
        R_connect_J547 l2 l3 l4 l5 l6 l8 s0 v71 v73 v74
      )
    ) else (
      R_connect_J621 l2 l3 l4 l5 l6 l8 s0 v71 v73 v74 (0 : Int32) (0 : Int32) (0 : Int32) (0 : Int32)
    )
  )
set_option maxRecDepth 10000 in
theorem sm_connect_J407 {g : Gm RS Unit} (B : Br g cX12_connect 22 voV none 9 222) (l2 : Int32) (l3 : Int32) (l4 : Int32) (l5 : Int32) (l6 : Int64) (l8 : Int32) (s0 : Int64) : Sm g 22 407 [(0, .ref g.1.2.2.2.2.2), (2, .int l2), (3, .int l3), (4, .int l4), (5, .int l5), (6, .long l6), (8, .int l8)] [.long s0] (R_connect_J407 l2 l3 l4 l5 l6 l8 s0) := by
  unfold R_connect_J407
  refine s_lstore (lv' := [(9, .long s0), (0, .ref g.1.2.2.2.2.2), (2, .int l2), (3, .int l3), (4, .int l4), (5, .int l5), (6, .long l6), (8, .int l8)]) B.1 dX12_connect_407 (by decide) rfl ?_
  refine s_aload_n B.1 1 dX12_connect_409 rfl rfl ?_
  refine rr_getA B 82 mh_82 mn_82 mf_82 dX12_connect_410 ?_
  refine s_bipush (v := (21)) B.1 dX12_connect_413 (by decide) ?_
  refine rr_zald B 82 mh_82 mk_82 dX12_connect_415 (fun v71 => ?_)
  refine s_istore (lv' := [(11, .int v71), (9, .long s0), (0, .ref g.1.2.2.2.2.2), (2, .int l2), (3, .int l3), (4, .int l4), (5, .int l5), (6, .long l6), (8, .int l8)]) B.1 dX12_connect_416 (by decide) rfl ?_
  refine s_aload_n B.1 2 dX12_connect_418 rfl rfl ?_
  refine rr_cvv (As := []) (st := []) B (m_string B.ok) mc_string ml_string mi_string me_string ini12 md_string (by decide) rfl (Nat.le_of_ble_eq_true rfl) dX12_connect_419 (fun r72 => ?_)
  refine s_aload_n B.1 2 dX12_connect_422 rfl rfl ?_
  refine rr_getI B 80 mh_80 mk_80 mf_80 dX12_connect_423 (fun v73 => ?_)
  refine s_istore (lv' := [(12, .int v73), (11, .int v71), (9, .long s0), (0, .ref g.1.2.2.2.2.2), (2, .int l2), (3, .int l3), (4, .int l4), (5, .int l5), (6, .long l6), (8, .int l8)]) B.1 dX12_connect_426 (by decide) rfl ?_
  refine s_aload_n B.1 3 dX12_connect_428 rfl rfl ?_
  refine rr_getI B 81 mh_81 mk_81 mf_81 dX12_connect_429 (fun v74 => ?_)
  refine s_istore (lv' := [(13, .int v74), (12, .int v73), (11, .int v71), (9, .long s0), (0, .ref g.1.2.2.2.2.2), (2, .int l2), (3, .int l3), (4, .int l4), (5, .int l5), (6, .long l6), (8, .int l8)]) B.1 dX12_connect_432 (by decide) rfl ?_
  refine s_iconst (v := 0) B.1 dX12_connect_434 (by decide) ?_
  refine s_istore (lv' := [(14, .int (0 : Int32)), (13, .int v74), (12, .int v73), (11, .int v71), (9, .long s0), (0, .ref g.1.2.2.2.2.2), (2, .int l2), (3, .int l3), (4, .int l4), (5, .int l5), (6, .long l6), (8, .int l8)]) B.1 dX12_connect_435 (by decide) rfl ?_
  refine s_iconst (v := 0) B.1 dX12_connect_437 (by decide) ?_
  refine s_istore (lv' := [(15, .int (0 : Int32)), (14, .int (0 : Int32)), (13, .int v74), (12, .int v73), (11, .int v71), (9, .long s0), (0, .ref g.1.2.2.2.2.2), (2, .int l2), (3, .int l3), (4, .int l4), (5, .int l5), (6, .long l6), (8, .int l8)]) B.1 dX12_connect_438 (by decide) rfl ?_
  refine s_iconst (v := 0) B.1 dX12_connect_440 (by decide) ?_
  refine s_istore (lv' := [(16, .int (0 : Int32)), (15, .int (0 : Int32)), (14, .int (0 : Int32)), (13, .int v74), (12, .int v73), (11, .int v71), (9, .long s0), (0, .ref g.1.2.2.2.2.2), (2, .int l2), (3, .int l3), (4, .int l4), (5, .int l5), (6, .long l6), (8, .int l8)]) B.1 dX12_connect_441 (by decide) rfl ?_
  refine s_iconst (v := 0) B.1 dX12_connect_443 (by decide) ?_
  refine s_istore (lv' := [(17, .int (0 : Int32)), (16, .int (0 : Int32)), (15, .int (0 : Int32)), (14, .int (0 : Int32)), (13, .int v74), (12, .int v73), (11, .int v71), (9, .long s0), (0, .ref g.1.2.2.2.2.2), (2, .int l2), (3, .int l3), (4, .int l4), (5, .int l5), (6, .long l6), (8, .int l8)]) B.1 dX12_connect_444 (by decide) rfl ?_
  refine s_iload_n B.1 10 dX12_connect_446 rfl rfl ?_
  refine s_if_eq B.1 621 dX12_connect_447 (by decide) ?_ ?_
  · exact Sm.lvs [8, 9, 10, 11, 12, 13, 14, 7, 6, 5, 4, 3, 2, 1, 0] rfl (sm_connect_J621 B l2 l3 l4 l5 l6 l8 s0 v71 v73 v74 (0 : Int32) (0 : Int32) (0 : Int32) (0 : Int32))
  · refine s_aload_n B.1 8 dX12_connect_450 rfl rfl ?_
    refine rr_getI B 79 mh_79 mk_79 mf_79 dX12_connect_451 (fun v75 => ?_)
    refine s_if_ne B.1 621 dX12_connect_454 (by decide) ?_ ?_
    · exact Sm.lvs [8, 9, 10, 11, 12, 13, 14, 7, 6, 5, 4, 3, 2, 1, 0] rfl (sm_connect_J621 B l2 l3 l4 l5 l6 l8 s0 v71 v73 v74 (0 : Int32) (0 : Int32) (0 : Int32) (0 : Int32))
    · refine s_aload_n B.1 8 dX12_connect_457 rfl rfl ?_
      refine s_iconst (v := 1) B.1 dX12_connect_458 (by decide) ?_
      refine rr_csl (As := [.int (1 : Int32)]) (st := [.ref g.1.2.2.2.2.2]) B (m_bit B.ok (1 : Int32)) mc_bit ml_bit ms_bit ini12 md_bit (by decide) rfl (Nat.le_of_ble_eq_true rfl) dX12_connect_459 (fun r76 => ?_)
      refine s_iconst (v := 2) B.1 dX12_connect_462 (by decide) ?_
      refine rr_csl (As := [.int (2 : Int32)]) (st := [.long r76, .ref g.1.2.2.2.2.2]) B (m_bit B.ok (2 : Int32)) mc_bit ml_bit ms_bit ini12 md_bit (by decide) rfl (Nat.le_of_ble_eq_true rfl) dX12_connect_463 (fun r77 => ?_)
      refine s_lor B.1 dX12_connect_466 ?_
      refine s_iconst (v := 3) B.1 dX12_connect_467 (by decide) ?_
      refine rr_csl (As := [.int (3 : Int32)]) (st := [.long (r76 ||| r77), .ref g.1.2.2.2.2.2]) B (m_bit B.ok (3 : Int32)) mc_bit ml_bit ms_bit ini12 md_bit (by decide) rfl (Nat.le_of_ble_eq_true rfl) dX12_connect_468 (fun r78 => ?_)
      refine s_lor B.1 dX12_connect_471 ?_
      refine s_bipush (v := (8)) B.1 dX12_connect_472 (by decide) ?_
      refine rr_csl (As := [.int (8 : Int32)]) (st := [.long ((r76 ||| r77) ||| r78), .ref g.1.2.2.2.2.2]) B (m_bit B.ok (8 : Int32)) mc_bit ml_bit ms_bit ini12 md_bit (by decide) rfl (Nat.le_of_ble_eq_true rfl) dX12_connect_474 (fun r79 => ?_)
      refine s_lor B.1 dX12_connect_477 ?_
      refine s_bipush (v := (9)) B.1 dX12_connect_478 (by decide) ?_
      refine rr_csl (As := [.int (9 : Int32)]) (st := [.long (((r76 ||| r77) ||| r78) ||| r79), .ref g.1.2.2.2.2.2]) B (m_bit B.ok (9 : Int32)) mc_bit ml_bit ms_bit ini12 md_bit (by decide) rfl (Nat.le_of_ble_eq_true rfl) dX12_connect_480 (fun r80 => ?_)
      refine s_lor B.1 dX12_connect_483 ?_
      refine s_bipush (v := (24)) B.1 dX12_connect_484 (by decide) ?_
      refine rr_csl (As := [.int (24 : Int32)]) (st := [.long ((((r76 ||| r77) ||| r78) ||| r79) ||| r80), .ref g.1.2.2.2.2.2]) B (m_bit B.ok (24 : Int32)) mc_bit ml_bit ms_bit ini12 md_bit (by decide) rfl (Nat.le_of_ble_eq_true rfl) dX12_connect_486 (fun r81 => ?_)
      refine s_lor B.1 dX12_connect_489 ?_
      refine s_bipush (v := (38)) B.1 dX12_connect_490 (by decide) ?_
      refine rr_csl (As := [.int (38 : Int32)]) (st := [.long (((((r76 ||| r77) ||| r78) ||| r79) ||| r80) ||| r81), .ref g.1.2.2.2.2.2]) B (m_bit B.ok (38 : Int32)) mc_bit ml_bit ms_bit ini12 md_bit (by decide) rfl (Nat.le_of_ble_eq_true rfl) dX12_connect_492 (fun r82 => ?_)
      refine s_lor B.1 dX12_connect_495 ?_
      refine rr_cvv (As := [.long ((((((r76 ||| r77) ||| r78) ||| r79) ||| r80) ||| r81) ||| r82)]) (st := []) B (m_properties B.ok ((((((r76 ||| r77) ||| r78) ||| r79) ||| r80) ||| r81) ||| r82)) mc_properties ml_properties mi_properties me_properties ini12 md_properties (by decide) rfl (Nat.le_of_ble_eq_true rfl) dX12_connect_496 (fun r83 => ?_)
      refine s_aload_n B.1 8 dX12_connect_499 rfl rfl ?_
      refine rr_getI B 79 mh_79 mk_79 mf_79 dX12_connect_500 (fun v84 => ?_)
      refine s_if_ne B.1 547 dX12_connect_503 (by decide) ?_ ?_
      · exact Sm.lvs [8, 9, 10, 11, 12, 13, 14, 7, 6, 5, 4] rfl (sm_connect_J547 B l2 l3 l4 l5 l6 l8 s0 v71 v73 v74)
      · refine s_aload_n B.1 8 dX12_connect_506 rfl rfl ?_
        refine rr_getA B 82 mh_82 mn_82 mf_82 dX12_connect_507 ?_
        refine s_bipush (v := (8)) B.1 dX12_connect_510 (by decide) ?_
        refine rr_zald B 82 mh_82 mk_82 dX12_connect_512 (fun v85 => ?_)
        refine s_if_eq B.1 547 dX12_connect_513 (by decide) ?_ ?_
        · exact Sm.lvs [8, 9, 10, 11, 12, 13, 14, 7, 6, 5, 4] rfl (sm_connect_J547 B l2 l3 l4 l5 l6 l8 s0 v71 v73 v74)
        · refine s_aload_n B.1 8 dX12_connect_516 rfl rfl ?_
          refine rr_getA B 6 mh_6 mn_6 mf_6 dX12_connect_517 ?_
          refine s_aload_n B.1 8 dX12_connect_520 rfl rfl ?_
          refine rr_getA B 84 mh_84 mn_84 mf_84 dX12_connect_521 ?_
          refine s_bipush (v := (8)) B.1 dX12_connect_524 (by decide) ?_
          refine rr_iald B 84 mh_84 mk_84 dX12_connect_526 (fun v86 => ?_)
          refine s_aload_n B.1 8 dX12_connect_527 rfl rfl ?_
          refine rr_getA B 85 mh_85 mn_85 mf_85 dX12_connect_528 ?_
          refine s_bipush (v := (8)) B.1 dX12_connect_531 (by decide) ?_
          refine rr_iald B 85 mh_85 mk_85 dX12_connect_533 (fun v87 => ?_)
          refine rr_csi (As := [.ref (g.1.2.2.2.2.2 + mO 6), .int v86, .int v87]) (st := []) B (m_isTopic B.ok 6 v86 v87 mh_6 mk_6) mc_isTopic ml_isTopic ms_isTopic ini12 md_isTopic (by decide) rfl (Nat.le_of_ble_eq_true rfl) dX12_connect_534 (fun r88 => ?_)
          refine s_if_ne B.1 547 dX12_connect_537 (by decide) ?_ ?_
          · exact Sm.lvs [8, 9, 10, 11, 12, 13, 14, 7, 6, 5, 4] rfl (sm_connect_J547 B l2 l3 l4 l5 l6 l8 s0 v71 v73 v74)
          · refine s_aload_n B.1 8 dX12_connect_540 rfl rfl ?_
            refine s_sipush (v := (130)) B.1 dX12_connect_541 (by decide) ?_
            refine rr_cvv (As := [.int (130 : Int32)]) (st := []) B (m_fails B.ok (130 : Int32)) mc_fails ml_fails mi_fails me_fails ini12 md_fails (by decide) rfl (Nat.le_of_ble_eq_true rfl) dX12_connect_544 (fun r89 => ?_)
            exact Sm.lvs [8, 9, 10, 11, 12, 13, 14, 7, 6, 5, 4] rfl (sm_connect_J547 B l2 l3 l4 l5 l6 l8 s0 v71 v73 v74)
def R_connect_J382 (l2 : Int32) (l3 : Int32) (l4 : Int32) (l5 : Int32) (l6 : Int64) (s0 : Int32) : RS → Option (Unit × RS) :=
  rA 82 (39 : Int32) fun v90 =>
  if v90 = 0 then (
    R_connect_J407 l2 l3 l4 l5 l6 s0 (9223372036854775807 : Int64)
  ) else (
    rL 83 (39 : Int32) fun v91 =>
    R_connect_J407 l2 l3 l4 l5 l6 s0 v91
  )
set_option maxRecDepth 10000 in
theorem sm_connect_J382 {g : Gm RS Unit} (B : Br g cX12_connect 22 voV none 9 222) (l2 : Int32) (l3 : Int32) (l4 : Int32) (l5 : Int32) (l6 : Int64) (s0 : Int32) : Sm g 22 382 [(0, .ref g.1.2.2.2.2.2), (2, .int l2), (3, .int l3), (4, .int l4), (5, .int l5), (6, .long l6)] [.int s0] (R_connect_J382 l2 l3 l4 l5 l6 s0) := by
  unfold R_connect_J382
  refine s_istore (lv' := [(8, .int s0), (0, .ref g.1.2.2.2.2.2), (2, .int l2), (3, .int l3), (4, .int l4), (5, .int l5), (6, .long l6)]) B.1 dX12_connect_382 (by decide) rfl ?_
  refine s_aload_n B.1 1 dX12_connect_384 rfl rfl ?_
  refine rr_getA B 82 mh_82 mn_82 mf_82 dX12_connect_385 ?_
  refine s_bipush (v := (39)) B.1 dX12_connect_388 (by decide) ?_
  refine rr_zald B 82 mh_82 mk_82 dX12_connect_390 (fun v90 => ?_)
  refine s_if_eq B.1 404 dX12_connect_391 (by decide) ?_ ?_
  · refine s_ldc2 (v := (9223372036854775807)) B.1 tw_2080 dX12_connect_404 ?_
    exact Sm.lvs [1, 2, 3, 4, 5, 6, 0] rfl (sm_connect_J407 B l2 l3 l4 l5 l6 s0 (9223372036854775807 : Int64))
  · refine s_aload_n B.1 1 dX12_connect_394 rfl rfl ?_
    refine rr_getA B 83 mh_83 mn_83 mf_83 dX12_connect_395 ?_
    refine s_bipush (v := (39)) B.1 dX12_connect_398 (by decide) ?_
    refine rr_lald B 83 mh_83 mk_83 dX12_connect_400 (fun v91 => ?_)
    refine s_goto B.1 407 dX12_connect_401 (by decide) ?_
    exact Sm.lvs [1, 2, 3, 4, 5, 6, 0] rfl (sm_connect_J407 B l2 l3 l4 l5 l6 s0 v91)
def R_connect_J356 (l2 : Int32) (l3 : Int32) (l4 : Int32) (l5 : Int32) (s0 : Int64) : RS → Option (Unit × RS) :=
  rA 82 (33 : Int32) fun v92 =>
  if v92 = 0 then (
    R_connect_J382 l2 l3 l4 l5 s0 (65535 : Int32)
  ) else (
    rL 83 (33 : Int32) fun v93 =>
    R_connect_J382 l2 l3 l4 l5 s0 v93.toInt32
  )
set_option maxRecDepth 10000 in
theorem sm_connect_J356 {g : Gm RS Unit} (B : Br g cX12_connect 22 voV none 9 222) (l2 : Int32) (l3 : Int32) (l4 : Int32) (l5 : Int32) (s0 : Int64) : Sm g 22 356 [(0, .ref g.1.2.2.2.2.2), (2, .int l2), (3, .int l3), (4, .int l4), (5, .int l5)] [.long s0] (R_connect_J356 l2 l3 l4 l5 s0) := by
  unfold R_connect_J356
  refine s_lstore (lv' := [(6, .long s0), (0, .ref g.1.2.2.2.2.2), (2, .int l2), (3, .int l3), (4, .int l4), (5, .int l5)]) B.1 dX12_connect_356 (by decide) rfl ?_
  refine s_aload_n B.1 1 dX12_connect_358 rfl rfl ?_
  refine rr_getA B 82 mh_82 mn_82 mf_82 dX12_connect_359 ?_
  refine s_bipush (v := (33)) B.1 dX12_connect_362 (by decide) ?_
  refine rr_zald B 82 mh_82 mk_82 dX12_connect_364 (fun v92 => ?_)
  refine s_if_eq B.1 379 dX12_connect_365 (by decide) ?_ ?_
  · refine s_ldcw (v := (65535)) B.1 tw_2079 dX12_connect_379 ?_
    exact Sm.lvs [1, 2, 3, 4, 5, 0] rfl (sm_connect_J382 B l2 l3 l4 l5 s0 (65535 : Int32))
  · refine s_aload_n B.1 1 dX12_connect_368 rfl rfl ?_
    refine rr_getA B 83 mh_83 mn_83 mf_83 dX12_connect_369 ?_
    refine s_bipush (v := (33)) B.1 dX12_connect_372 (by decide) ?_
    refine rr_lald B 83 mh_83 mk_83 dX12_connect_374 (fun v93 => ?_)
    refine s_l2i B.1 dX12_connect_375 ?_
    refine s_goto B.1 382 dX12_connect_376 (by decide) ?_
    exact Sm.lvs [1, 2, 3, 4, 5, 0] rfl (sm_connect_J382 B l2 l3 l4 l5 s0 v93.toInt32)
def R_connect_J327 (l2 : Int32) (l3 : Int32) (l4 : Int32) (l5 : Int32) : RS → Option (Unit × RS) :=
  rI 79 fun v94 =>
  if v94 = 0 then (
    rA 82 (17 : Int32) fun v95 =>
    if v95 = 0 then (
      R_connect_J356 l2 l3 l4 l5 (0 : Int64)
    ) else (
      rL 83 (17 : Int32) fun v96 =>
      R_connect_J356 l2 l3 l4 l5 v96
    )
  ) else (
    rt ()
  )
set_option maxRecDepth 10000 in
theorem sm_connect_J327 {g : Gm RS Unit} (B : Br g cX12_connect 22 voV none 9 222) (l2 : Int32) (l3 : Int32) (l4 : Int32) (l5 : Int32) : Sm g 22 327 [(0, .ref g.1.2.2.2.2.2), (2, .int l2), (3, .int l3), (4, .int l4), (5, .int l5)] [] (R_connect_J327 l2 l3 l4 l5) := by
  unfold R_connect_J327
  refine s_aload_n B.1 0 dX12_connect_327 rfl rfl ?_
  refine rr_getI B 79 mh_79 mk_79 mf_79 dX12_connect_328 (fun v94 => ?_)
  refine s_if_eq B.1 335 dX12_connect_331 (by decide) ?_ ?_
  · refine s_aload_n B.1 0 dX12_connect_335 rfl rfl ?_
    refine rr_getA B 82 mh_82 mn_82 mf_82 dX12_connect_336 ?_
    refine s_bipush (v := (17)) B.1 dX12_connect_339 (by decide) ?_
    refine rr_zald B 82 mh_82 mk_82 dX12_connect_341 (fun v95 => ?_)
    refine s_if_eq B.1 355 dX12_connect_342 (by decide) ?_ ?_
    · refine s_lconst (v := 0) B.1 dX12_connect_355 (by decide) ?_
      exact Sm.lvs [0, 1, 2, 3, 4] rfl (sm_connect_J356 B l2 l3 l4 l5 (0 : Int64))
    · refine s_aload_n B.1 0 dX12_connect_345 rfl rfl ?_
      refine rr_getA B 83 mh_83 mn_83 mf_83 dX12_connect_346 ?_
      refine s_bipush (v := (17)) B.1 dX12_connect_349 (by decide) ?_
      refine rr_lald B 83 mh_83 mk_83 dX12_connect_351 (fun v96 => ?_)
      refine s_goto B.1 356 dX12_connect_352 (by decide) ?_
      exact Sm.lvs [0, 1, 2, 3, 4] rfl (sm_connect_J356 B l2 l3 l4 l5 v96)
  · exact s_vret B.1 B.2.1 dX12_connect_334
def R_connect_J320 (l2 : Int32) (l3 : Int32) (l4 : Int32) (l5 : Int32) : RS → Option (Unit × RS) :=
  bd (R_fails (130 : Int32)) fun r97 =>
  R_connect_J327 l2 l3 l4 l5
set_option maxRecDepth 10000 in
theorem sm_connect_J320 {g : Gm RS Unit} (B : Br g cX12_connect 22 voV none 9 222) (l2 : Int32) (l3 : Int32) (l4 : Int32) (l5 : Int32) : Sm g 22 320 [(0, .ref g.1.2.2.2.2.2), (2, .int l2), (3, .int l3), (4, .int l4), (5, .int l5)] [] (R_connect_J320 l2 l3 l4 l5) := by
  unfold R_connect_J320
  refine s_aload_n B.1 0 dX12_connect_320 rfl rfl ?_
  refine s_sipush (v := (130)) B.1 dX12_connect_321 (by decide) ?_
  refine rr_cvv (As := [.int (130 : Int32)]) (st := []) B (m_fails B.ok (130 : Int32)) mc_fails ml_fails mi_fails me_fails ini12 md_fails (by decide) rfl (Nat.le_of_ble_eq_true rfl) dX12_connect_324 (fun r97 => ?_)
  exact Sm.lvs [0, 1, 2, 3, 4] rfl (sm_connect_J327 B l2 l3 l4 l5)
def R_connect_J300 (l2 : Int32) (l3 : Int32) (l4 : Int32) (l5 : Int32) : RS → Option (Unit × RS) :=
  rA 82 (22 : Int32) fun v98 =>
  if v98 = 0 then (
    R_connect_J327 l2 l3 l4 l5
  ) else (
    rA 82 (21 : Int32) fun v99 =>
    if v99 = 0 then (
      R_connect_J320 l2 l3 l4 l5
    ) else (
      R_connect_J327 l2 l3 l4 l5
    )
  )
set_option maxRecDepth 10000 in
theorem sm_connect_J300 {g : Gm RS Unit} (B : Br g cX12_connect 22 voV none 9 222) (l2 : Int32) (l3 : Int32) (l4 : Int32) (l5 : Int32) : Sm g 22 300 [(0, .ref g.1.2.2.2.2.2), (2, .int l2), (3, .int l3), (4, .int l4), (5, .int l5)] [] (R_connect_J300 l2 l3 l4 l5) := by
  unfold R_connect_J300
  refine s_aload_n B.1 0 dX12_connect_300 rfl rfl ?_
  refine rr_getA B 82 mh_82 mn_82 mf_82 dX12_connect_301 ?_
  refine s_bipush (v := (22)) B.1 dX12_connect_304 (by decide) ?_
  refine rr_zald B 82 mh_82 mk_82 dX12_connect_306 (fun v98 => ?_)
  refine s_if_eq B.1 327 dX12_connect_307 (by decide) ?_ ?_
  · exact Sm.lvs [0, 1, 2, 3, 4] rfl (sm_connect_J327 B l2 l3 l4 l5)
  · refine s_aload_n B.1 0 dX12_connect_310 rfl rfl ?_
    refine rr_getA B 82 mh_82 mn_82 mf_82 dX12_connect_311 ?_
    refine s_bipush (v := (21)) B.1 dX12_connect_314 (by decide) ?_
    refine rr_zald B 82 mh_82 mk_82 dX12_connect_316 (fun v99 => ?_)
    refine s_if_ne B.1 327 dX12_connect_317 (by decide) ?_ ?_
    · exact Sm.lvs [0, 1, 2, 3, 4] rfl (sm_connect_J327 B l2 l3 l4 l5)
    · exact Sm.lvs [0, 1, 2, 3, 4] rfl (sm_connect_J320 B l2 l3 l4 l5)
def R_connect_J278 (l2 : Int32) (l3 : Int32) (l4 : Int32) (l5 : Int32) : RS → Option (Unit × RS) :=
  rA 82 (39 : Int32) fun v100 =>
  if v100 = 0 then (
    R_connect_J300 l2 l3 l4 l5
  ) else (
    rL 83 (39 : Int32) fun v101 =>
    if (lg_cmp v101 (0 : Int64)) = 0 then (
      R_connect_J320 l2 l3 l4 l5
    ) else (
      R_connect_J300 l2 l3 l4 l5
    )
  )
set_option maxRecDepth 10000 in
theorem sm_connect_J278 {g : Gm RS Unit} (B : Br g cX12_connect 22 voV none 9 222) (l2 : Int32) (l3 : Int32) (l4 : Int32) (l5 : Int32) : Sm g 22 278 [(0, .ref g.1.2.2.2.2.2), (2, .int l2), (3, .int l3), (4, .int l4), (5, .int l5)] [] (R_connect_J278 l2 l3 l4 l5) := by
  unfold R_connect_J278
  refine s_aload_n B.1 0 dX12_connect_278 rfl rfl ?_
  refine rr_getA B 82 mh_82 mn_82 mf_82 dX12_connect_279 ?_
  refine s_bipush (v := (39)) B.1 dX12_connect_282 (by decide) ?_
  refine rr_zald B 82 mh_82 mk_82 dX12_connect_284 (fun v100 => ?_)
  refine s_if_eq B.1 300 dX12_connect_285 (by decide) ?_ ?_
  · exact Sm.lvs [0, 1, 2, 3, 4] rfl (sm_connect_J300 B l2 l3 l4 l5)
  · refine s_aload_n B.1 0 dX12_connect_288 rfl rfl ?_
    refine rr_getA B 83 mh_83 mn_83 mf_83 dX12_connect_289 ?_
    refine s_bipush (v := (39)) B.1 dX12_connect_292 (by decide) ?_
    refine rr_lald B 83 mh_83 mk_83 dX12_connect_294 (fun v101 => ?_)
    refine s_lconst (v := 0) B.1 dX12_connect_295 (by decide) ?_
    refine s_lcmp B.1 dX12_connect_296 ?_
    refine s_if_eq B.1 320 dX12_connect_297 (by decide) ?_ ?_
    · exact Sm.lvs [0, 1, 2, 3, 4] rfl (sm_connect_J320 B l2 l3 l4 l5)
    · exact Sm.lvs [0, 1, 2, 3, 4] rfl (sm_connect_J300 B l2 l3 l4 l5)
def R_connect_J178 (l2 : Int32) (l3 : Int32) (l4 : Int32) : RS → Option (Unit × RS) :=
  bd (R_two) fun r102 =>
  rI 79 fun v103 =>
  if v103 = 0 then (
    bd (R_bit (17 : Int32)) fun r104 =>
    bd (R_bit (21 : Int32)) fun r105 =>
    bd (R_bit (22 : Int32)) fun r106 =>
    bd (R_bit (23 : Int32)) fun r107 =>
    bd (R_bit (25 : Int32)) fun r108 =>
    bd (R_bit (33 : Int32)) fun r109 =>
    bd (R_bit (34 : Int32)) fun r110 =>
    bd (R_bit (38 : Int32)) fun r111 =>
    bd (R_bit (39 : Int32)) fun r112 =>
    bd (R_properties ((((((((r104 ||| r105) ||| r106) ||| r107) ||| r108) ||| r109) ||| r110) ||| r111) ||| r112)) fun r113 =>
    rI 79 fun v114 =>
    if v114 = 0 then (
      rA 82 (33 : Int32) fun v115 =>
      if v115 = 0 then (
        R_connect_J278 l2 l3 l4 r102
      ) else (
        rL 83 (33 : Int32) fun v116 =>
        if (lg_cmp v116 (0 : Int64)) = 0 then (
          R_connect_J320 l2 l3 l4 r102
        ) else (
          R_connect_J278 l2 l3 l4 r102
        )
      )
    ) else (
      R_connect_J327 l2 l3 l4 r102
    )
  ) else (
    rt ()
  )
set_option maxRecDepth 10000 in
theorem sm_connect_J178 {g : Gm RS Unit} (B : Br g cX12_connect 22 voV none 9 222) (l2 : Int32) (l3 : Int32) (l4 : Int32) : Sm g 22 178 [(0, .ref g.1.2.2.2.2.2), (2, .int l2), (3, .int l3), (4, .int l4)] [] (R_connect_J178 l2 l3 l4) := by
  unfold R_connect_J178
  refine s_aload_n B.1 0 dX12_connect_178 rfl rfl ?_
  refine rr_cvi (As := []) (st := []) B (m_two B.ok) mc_two ml_two mi_two me_two ini12 md_two (by decide) rfl (Nat.le_of_ble_eq_true rfl) dX12_connect_179 (fun r102 => ?_)
  refine s_istore (lv' := [(5, .int r102), (0, .ref g.1.2.2.2.2.2), (2, .int l2), (3, .int l3), (4, .int l4)]) B.1 dX12_connect_182 (by decide) rfl ?_
  refine s_aload_n B.1 1 dX12_connect_184 rfl rfl ?_
  refine rr_getI B 79 mh_79 mk_79 mf_79 dX12_connect_185 (fun v103 => ?_)
  refine s_if_eq B.1 192 dX12_connect_188 (by decide) ?_ ?_
  · refine s_aload_n B.1 1 dX12_connect_192 rfl rfl ?_
    refine s_bipush (v := (17)) B.1 dX12_connect_193 (by decide) ?_
    refine rr_csl (As := [.int (17 : Int32)]) (st := [.ref g.1.2.2.2.2.2]) B (m_bit B.ok (17 : Int32)) mc_bit ml_bit ms_bit ini12 md_bit (by decide) rfl (Nat.le_of_ble_eq_true rfl) dX12_connect_195 (fun r104 => ?_)
    refine s_bipush (v := (21)) B.1 dX12_connect_198 (by decide) ?_
    refine rr_csl (As := [.int (21 : Int32)]) (st := [.long r104, .ref g.1.2.2.2.2.2]) B (m_bit B.ok (21 : Int32)) mc_bit ml_bit ms_bit ini12 md_bit (by decide) rfl (Nat.le_of_ble_eq_true rfl) dX12_connect_200 (fun r105 => ?_)
    refine s_lor B.1 dX12_connect_203 ?_
    refine s_bipush (v := (22)) B.1 dX12_connect_204 (by decide) ?_
    refine rr_csl (As := [.int (22 : Int32)]) (st := [.long (r104 ||| r105), .ref g.1.2.2.2.2.2]) B (m_bit B.ok (22 : Int32)) mc_bit ml_bit ms_bit ini12 md_bit (by decide) rfl (Nat.le_of_ble_eq_true rfl) dX12_connect_206 (fun r106 => ?_)
    refine s_lor B.1 dX12_connect_209 ?_
    refine s_bipush (v := (23)) B.1 dX12_connect_210 (by decide) ?_
    refine rr_csl (As := [.int (23 : Int32)]) (st := [.long ((r104 ||| r105) ||| r106), .ref g.1.2.2.2.2.2]) B (m_bit B.ok (23 : Int32)) mc_bit ml_bit ms_bit ini12 md_bit (by decide) rfl (Nat.le_of_ble_eq_true rfl) dX12_connect_212 (fun r107 => ?_)
    refine s_lor B.1 dX12_connect_215 ?_
    refine s_bipush (v := (25)) B.1 dX12_connect_216 (by decide) ?_
    refine rr_csl (As := [.int (25 : Int32)]) (st := [.long (((r104 ||| r105) ||| r106) ||| r107), .ref g.1.2.2.2.2.2]) B (m_bit B.ok (25 : Int32)) mc_bit ml_bit ms_bit ini12 md_bit (by decide) rfl (Nat.le_of_ble_eq_true rfl) dX12_connect_218 (fun r108 => ?_)
    refine s_lor B.1 dX12_connect_221 ?_
    refine s_bipush (v := (33)) B.1 dX12_connect_222 (by decide) ?_
    refine rr_csl (As := [.int (33 : Int32)]) (st := [.long ((((r104 ||| r105) ||| r106) ||| r107) ||| r108), .ref g.1.2.2.2.2.2]) B (m_bit B.ok (33 : Int32)) mc_bit ml_bit ms_bit ini12 md_bit (by decide) rfl (Nat.le_of_ble_eq_true rfl) dX12_connect_224 (fun r109 => ?_)
    refine s_lor B.1 dX12_connect_227 ?_
    refine s_bipush (v := (34)) B.1 dX12_connect_228 (by decide) ?_
    refine rr_csl (As := [.int (34 : Int32)]) (st := [.long (((((r104 ||| r105) ||| r106) ||| r107) ||| r108) ||| r109), .ref g.1.2.2.2.2.2]) B (m_bit B.ok (34 : Int32)) mc_bit ml_bit ms_bit ini12 md_bit (by decide) rfl (Nat.le_of_ble_eq_true rfl) dX12_connect_230 (fun r110 => ?_)
    refine s_lor B.1 dX12_connect_233 ?_
    refine s_bipush (v := (38)) B.1 dX12_connect_234 (by decide) ?_
    refine rr_csl (As := [.int (38 : Int32)]) (st := [.long ((((((r104 ||| r105) ||| r106) ||| r107) ||| r108) ||| r109) ||| r110), .ref g.1.2.2.2.2.2]) B (m_bit B.ok (38 : Int32)) mc_bit ml_bit ms_bit ini12 md_bit (by decide) rfl (Nat.le_of_ble_eq_true rfl) dX12_connect_236 (fun r111 => ?_)
    refine s_lor B.1 dX12_connect_239 ?_
    refine s_bipush (v := (39)) B.1 dX12_connect_240 (by decide) ?_
    refine rr_csl (As := [.int (39 : Int32)]) (st := [.long (((((((r104 ||| r105) ||| r106) ||| r107) ||| r108) ||| r109) ||| r110) ||| r111), .ref g.1.2.2.2.2.2]) B (m_bit B.ok (39 : Int32)) mc_bit ml_bit ms_bit ini12 md_bit (by decide) rfl (Nat.le_of_ble_eq_true rfl) dX12_connect_242 (fun r112 => ?_)
    refine s_lor B.1 dX12_connect_245 ?_
    refine rr_cvv (As := [.long ((((((((r104 ||| r105) ||| r106) ||| r107) ||| r108) ||| r109) ||| r110) ||| r111) ||| r112)]) (st := []) B (m_properties B.ok ((((((((r104 ||| r105) ||| r106) ||| r107) ||| r108) ||| r109) ||| r110) ||| r111) ||| r112)) mc_properties ml_properties mi_properties me_properties ini12 md_properties (by decide) rfl (Nat.le_of_ble_eq_true rfl) dX12_connect_246 (fun r113 => ?_)
    refine s_aload_n B.1 1 dX12_connect_249 rfl rfl ?_
    refine rr_getI B 79 mh_79 mk_79 mf_79 dX12_connect_250 (fun v114 => ?_)
    refine s_if_ne B.1 327 dX12_connect_253 (by decide) ?_ ?_
    · exact Sm.lvs [1, 2, 3, 4, 0] rfl (sm_connect_J327 B l2 l3 l4 r102)
    · refine s_aload_n B.1 1 dX12_connect_256 rfl rfl ?_
      refine rr_getA B 82 mh_82 mn_82 mf_82 dX12_connect_257 ?_
      refine s_bipush (v := (33)) B.1 dX12_connect_260 (by decide) ?_
      refine rr_zald B 82 mh_82 mk_82 dX12_connect_262 (fun v115 => ?_)
      refine s_if_eq B.1 278 dX12_connect_263 (by decide) ?_ ?_
      · exact Sm.lvs [1, 2, 3, 4, 0] rfl (sm_connect_J278 B l2 l3 l4 r102)
      · refine s_aload_n B.1 1 dX12_connect_266 rfl rfl ?_
        refine rr_getA B 83 mh_83 mn_83 mf_83 dX12_connect_267 ?_
        refine s_bipush (v := (33)) B.1 dX12_connect_270 (by decide) ?_
        refine rr_lald B 83 mh_83 mk_83 dX12_connect_272 (fun v116 => ?_)
        refine s_lconst (v := 0) B.1 dX12_connect_273 (by decide) ?_
        refine s_lcmp B.1 dX12_connect_274 ?_
        refine s_if_eq B.1 320 dX12_connect_275 (by decide) ?_ ?_
        · exact Sm.lvs [1, 2, 3, 4, 0] rfl (sm_connect_J320 B l2 l3 l4 r102)
        · exact Sm.lvs [1, 2, 3, 4, 0] rfl (sm_connect_J278 B l2 l3 l4 r102)
  · exact s_vret B.1 B.2.1 dX12_connect_191
def R_connect_J171 (l2 : Int32) (l3 : Int32) (l4 : Int32) : RS → Option (Unit × RS) :=
  bd (R_fails (129 : Int32)) fun r117 =>
  R_connect_J178 l2 l3 l4
set_option maxRecDepth 10000 in
theorem sm_connect_J171 {g : Gm RS Unit} (B : Br g cX12_connect 22 voV none 9 222) (l2 : Int32) (l3 : Int32) (l4 : Int32) : Sm g 22 171 [(0, .ref g.1.2.2.2.2.2), (2, .int l2), (3, .int l3), (4, .int l4)] [] (R_connect_J171 l2 l3 l4) := by
  unfold R_connect_J171
  refine s_aload_n B.1 0 dX12_connect_171 rfl rfl ?_
  refine s_sipush (v := (129)) B.1 dX12_connect_172 (by decide) ?_
  refine rr_cvv (As := [.int (129 : Int32)]) (st := []) B (m_fails B.ok (129 : Int32)) mc_fails ml_fails mi_fails me_fails ini12 md_fails (by decide) rfl (Nat.le_of_ble_eq_true rfl) dX12_connect_175 (fun r117 => ?_)
  exact Sm.lvs [0, 1, 2, 3] rfl (sm_connect_J178 B l2 l3 l4)
def R_connect_J128 (l2 : Int32) (s0 : Int32) : RS → Option (Unit × RS) :=
  lq ((l2 >>> ((3 : Int32) &&& 31)) &&& (3 : Int32)) fun x118 =>
  rI 79 fun v119 =>
  if v119 = 0 then (
    if (l2 &&& (1 : Int32)) = 0 then (
      if x118 = (3 : Int32) then (
        R_connect_J171 l2 s0 x118
      ) else (
        if s0 = 0 then (
          if x118 = 0 then (
            if (l2 &&& (32 : Int32)) = 0 then (
              R_connect_J178 l2 s0 x118
            ) else (
              R_connect_J171 l2 s0 x118
            )
          ) else (
            R_connect_J171 l2 s0 x118
          )
        ) else (
          R_connect_J178 l2 s0 x118
        )
      )
    ) else (
      R_connect_J171 l2 s0 x118
    )
  ) else (
    R_connect_J178 l2 s0 x118
  )
set_option maxRecDepth 10000 in
theorem sm_connect_J128 {g : Gm RS Unit} (B : Br g cX12_connect 22 voV none 9 222) (l2 : Int32) (s0 : Int32) : Sm g 22 128 [(0, .ref g.1.2.2.2.2.2), (2, .int l2)] [.int s0] (R_connect_J128 l2 s0) := by
  unfold R_connect_J128
  refine s_istore_n (lv' := [(3, .int s0), (0, .ref g.1.2.2.2.2.2), (2, .int l2)]) B.1 dX12_connect_128 rfl (by decide) rfl ?_
  refine s_iload_n B.1 2 dX12_connect_129 rfl rfl ?_
  refine s_iconst (v := 3) B.1 dX12_connect_130 (by decide) ?_
  refine s_ishr B.1 dX12_connect_131 ?_
  refine s_iconst (v := 3) B.1 dX12_connect_132 (by decide) ?_
  refine s_iand B.1 dX12_connect_133 ?_
  refine s_lqi (fun x118 => ?_)
  refine s_istore (lv' := [(4, .int x118), (3, .int s0), (0, .ref g.1.2.2.2.2.2), (2, .int l2)]) B.1 dX12_connect_134 (by decide) rfl ?_
  refine s_aload_n B.1 2 dX12_connect_136 rfl rfl ?_
  refine rr_getI B 79 mh_79 mk_79 mf_79 dX12_connect_137 (fun v119 => ?_)
  refine s_if_ne B.1 178 dX12_connect_140 (by decide) ?_ ?_
  · exact Sm.lvs [2, 3, 1, 0] rfl (sm_connect_J178 B l2 s0 x118)
  · refine s_iload_n B.1 3 dX12_connect_143 rfl rfl ?_
    refine s_iconst (v := 1) B.1 dX12_connect_144 (by decide) ?_
    refine s_iand B.1 dX12_connect_145 ?_
    refine s_if_ne B.1 171 dX12_connect_146 (by decide) ?_ ?_
    · exact Sm.lvs [2, 3, 1, 0] rfl (sm_connect_J171 B l2 s0 x118)
    · refine s_iload B.1 0 dX12_connect_149 rfl ?_
      refine s_iconst (v := 3) B.1 dX12_connect_151 (by decide) ?_
      refine s_icmp_eq B.1 171 dX12_connect_152 (by decide) ?_ ?_
      · exact Sm.lvs [2, 3, 1, 0] rfl (sm_connect_J171 B l2 s0 x118)
      · refine s_iload_n B.1 1 dX12_connect_155 rfl rfl ?_
        refine s_if_ne B.1 178 dX12_connect_156 (by decide) ?_ ?_
        · exact Sm.lvs [2, 3, 1, 0] rfl (sm_connect_J178 B l2 s0 x118)
        · refine s_iload B.1 0 dX12_connect_159 rfl ?_
          refine s_if_ne B.1 171 dX12_connect_161 (by decide) ?_ ?_
          · exact Sm.lvs [2, 3, 1, 0] rfl (sm_connect_J171 B l2 s0 x118)
          · refine s_iload_n B.1 3 dX12_connect_164 rfl rfl ?_
            refine s_bipush (v := (32)) B.1 dX12_connect_165 (by decide) ?_
            refine s_iand B.1 dX12_connect_167 ?_
            refine s_if_eq B.1 178 dX12_connect_168 (by decide) ?_ ?_
            · exact Sm.lvs [2, 3, 1, 0] rfl (sm_connect_J178 B l2 s0 x118)
            · exact Sm.lvs [2, 3, 1, 0] rfl (sm_connect_J171 B l2 s0 x118)
def R_connect_J112 : RS → Option (Unit × RS) :=
  bd (R_one) fun r120 =>
  if (r120 &&& (4 : Int32)) = 0 then (
    R_connect_J128 r120 (0 : Int32)
  ) else (
    R_connect_J128 r120 (1 : Int32)
  )
set_option maxRecDepth 10000 in
theorem sm_connect_J112 {g : Gm RS Unit} (B : Br g cX12_connect 22 voV none 9 222) : Sm g 22 112 [(0, .ref g.1.2.2.2.2.2)] [] (R_connect_J112) := by
  unfold R_connect_J112
  refine s_aload_n B.1 0 dX12_connect_112 rfl rfl ?_
  refine rr_cvi (As := []) (st := []) B (m_one B.ok) mc_one ml_one mi_one me_one ini12 md_one (by decide) rfl (Nat.le_of_ble_eq_true rfl) dX12_connect_113 (fun r120 => ?_)
  refine s_istore_n (lv' := [(2, .int r120), (0, .ref g.1.2.2.2.2.2)]) B.1 dX12_connect_116 rfl (by decide) rfl ?_
  refine s_iload_n B.1 0 dX12_connect_117 rfl rfl ?_
  refine s_iconst (v := 4) B.1 dX12_connect_118 (by decide) ?_
  refine s_iand B.1 dX12_connect_119 ?_
  refine s_if_eq B.1 127 dX12_connect_120 (by decide) ?_ ?_
  · refine s_iconst (v := 0) B.1 dX12_connect_127 (by decide) ?_
    exact Sm.lvs [1, 0] rfl (sm_connect_J128 B r120 (0 : Int32))
  · refine s_iconst (v := 1) B.1 dX12_connect_123 (by decide) ?_
    refine s_goto B.1 128 dX12_connect_124 (by decide) ?_
    exact Sm.lvs [1, 0] rfl (sm_connect_J128 B r120 (1 : Int32))
def R_connect_J88 : RS → Option (Unit × RS) :=
  bd (R_one) fun r121 =>
  rI 79 fun v122 =>
  if v122 = 0 then (
    if r121 = (5 : Int32) then (
      R_connect_J112
    ) else (
      bd (R_fails (132 : Int32)) fun r123 =>
      R_connect_J112
    )
  ) else (
    R_connect_J112
  )
set_option maxRecDepth 10000 in
theorem sm_connect_J88 {g : Gm RS Unit} (B : Br g cX12_connect 22 voV none 9 222) : Sm g 22 88 [(0, .ref g.1.2.2.2.2.2)] [] (R_connect_J88) := by
  unfold R_connect_J88
  refine s_aload_n B.1 0 dX12_connect_88 rfl rfl ?_
  refine rr_cvi (As := []) (st := []) B (m_one B.ok) mc_one ml_one mi_one me_one ini12 md_one (by decide) rfl (Nat.le_of_ble_eq_true rfl) dX12_connect_89 (fun r121 => ?_)
  refine s_istore_n (lv' := [(1, .int r121), (0, .ref g.1.2.2.2.2.2)]) B.1 dX12_connect_92 rfl (by decide) rfl ?_
  refine s_aload_n B.1 1 dX12_connect_93 rfl rfl ?_
  refine rr_getI B 79 mh_79 mk_79 mf_79 dX12_connect_94 (fun v122 => ?_)
  refine s_if_ne B.1 112 dX12_connect_97 (by decide) ?_ ?_
  · exact Sm.lvs [1] rfl (sm_connect_J112 B)
  · refine s_iload_n B.1 0 dX12_connect_100 rfl rfl ?_
    refine s_iconst (v := 5) B.1 dX12_connect_101 (by decide) ?_
    refine s_icmp_eq B.1 112 dX12_connect_102 (by decide) ?_ ?_
    · exact Sm.lvs [1] rfl (sm_connect_J112 B)
    · refine s_aload_n B.1 1 dX12_connect_105 rfl rfl ?_
      refine s_sipush (v := (132)) B.1 dX12_connect_106 (by decide) ?_
      refine rr_cvv (As := [.int (132 : Int32)]) (st := []) B (m_fails B.ok (132 : Int32)) mc_fails ml_fails mi_fails me_fails ini12 md_fails (by decide) rfl (Nat.le_of_ble_eq_true rfl) dX12_connect_109 (fun r123 => ?_)
      exact Sm.lvs [1] rfl (sm_connect_J112 B)
def R_connect_J81 : RS → Option (Unit × RS) :=
  bd (R_fails (132 : Int32)) fun r124 =>
  R_connect_J88
set_option maxRecDepth 10000 in
theorem sm_connect_J81 {g : Gm RS Unit} (B : Br g cX12_connect 22 voV none 9 222) : Sm g 22 81 [(0, .ref g.1.2.2.2.2.2)] [] (R_connect_J81) := by
  unfold R_connect_J81
  refine s_aload_n B.1 0 dX12_connect_81 rfl rfl ?_
  refine s_sipush (v := (132)) B.1 dX12_connect_82 (by decide) ?_
  refine rr_cvv (As := [.int (132 : Int32)]) (st := []) B (m_fails B.ok (132 : Int32)) mc_fails ml_fails mi_fails me_fails ini12 md_fails (by decide) rfl (Nat.le_of_ble_eq_true rfl) dX12_connect_85 (fun r124 => ?_)
  exact Sm.lvs [0] rfl (sm_connect_J88 B)
def R_connect : RS → Option (Unit × RS) :=
  bd (R_string) fun r125 =>
  rI 79 fun v126 =>
  if v126 = 0 then (
    rI 81 fun v127 =>
    if v127 = (4 : Int32) then (
      rI 80 fun v128 =>
      rA 6 v128 fun v129 =>
      if v129 = (77 : Int32) then (
        rI 80 fun v130 =>
        rA 6 (v130 + (1 : Int32)) fun v131 =>
        if v131 = (81 : Int32) then (
          rI 80 fun v132 =>
          rA 6 (v132 + (2 : Int32)) fun v133 =>
          if v133 = (84 : Int32) then (
            rI 80 fun v134 =>
            rA 6 (v134 + (3 : Int32)) fun v135 =>
            if v135 = (84 : Int32) then (
              R_connect_J88
            ) else (
              R_connect_J81
            )
          ) else (
            R_connect_J81
          )
        ) else (
          R_connect_J81
        )
      ) else (
        R_connect_J81
      )
    ) else (
      R_connect_J81
    )
  ) else (
    R_connect_J88
  )
set_option maxRecDepth 10000 in
theorem m_connect {w : Wd} (hw : Wok w) : MR w yX12_connect cX12_connect 22 none 9 222 voV [.ref w.2.2.2.2.2] (R_connect) := by
  refine MR.of hw rfl (Nat.le_of_ble_eq_true rfl) (fun g hg B => ?_)
  subst hg
  unfold R_connect
  show Sm g 22 0 [(0, .ref g.1.2.2.2.2.2)] [] _
  refine s_aload_n B.1 0 dX12_connect_0 rfl rfl ?_
  refine rr_cvv (As := []) (st := []) B (m_string B.ok) mc_string ml_string mi_string me_string ini12 md_string (by decide) rfl (Nat.le_of_ble_eq_true rfl) dX12_connect_1 (fun r125 => ?_)
  refine s_aload_n B.1 0 dX12_connect_4 rfl rfl ?_
  refine rr_getI B 79 mh_79 mk_79 mf_79 dX12_connect_5 (fun v126 => ?_)
  refine s_if_ne B.1 88 dX12_connect_8 (by decide) ?_ ?_
  · exact Sm.lvs [0] rfl (sm_connect_J88 B)
  · refine s_aload_n B.1 0 dX12_connect_11 rfl rfl ?_
    refine rr_getI B 81 mh_81 mk_81 mf_81 dX12_connect_12 (fun v127 => ?_)
    refine s_iconst (v := 4) B.1 dX12_connect_15 (by decide) ?_
    refine s_icmp_ne B.1 81 dX12_connect_16 (by decide) ?_ ?_
    · exact Sm.lvs [0] rfl (sm_connect_J81 B)
    · refine s_aload_n B.1 0 dX12_connect_19 rfl rfl ?_
      refine rr_getA B 6 mh_6 mn_6 mf_6 dX12_connect_20 ?_
      refine s_aload_n B.1 0 dX12_connect_23 rfl rfl ?_
      refine rr_getI B 80 mh_80 mk_80 mf_80 dX12_connect_24 (fun v128 => ?_)
      refine rr_bald B 6 mh_6 mk_6 dX12_connect_27 (fun v129 => ?_)
      refine s_bipush (v := (77)) B.1 dX12_connect_28 (by decide) ?_
      refine s_icmp_ne B.1 81 dX12_connect_30 (by decide) ?_ ?_
      · exact Sm.lvs [0] rfl (sm_connect_J81 B)
      · refine s_aload_n B.1 0 dX12_connect_33 rfl rfl ?_
        refine rr_getA B 6 mh_6 mn_6 mf_6 dX12_connect_34 ?_
        refine s_aload_n B.1 0 dX12_connect_37 rfl rfl ?_
        refine rr_getI B 80 mh_80 mk_80 mf_80 dX12_connect_38 (fun v130 => ?_)
        refine s_iconst (v := 1) B.1 dX12_connect_41 (by decide) ?_
        refine s_iadd B.1 dX12_connect_42 ?_
        refine rr_bald B 6 mh_6 mk_6 dX12_connect_43 (fun v131 => ?_)
        refine s_bipush (v := (81)) B.1 dX12_connect_44 (by decide) ?_
        refine s_icmp_ne B.1 81 dX12_connect_46 (by decide) ?_ ?_
        · exact Sm.lvs [0] rfl (sm_connect_J81 B)
        · refine s_aload_n B.1 0 dX12_connect_49 rfl rfl ?_
          refine rr_getA B 6 mh_6 mn_6 mf_6 dX12_connect_50 ?_
          refine s_aload_n B.1 0 dX12_connect_53 rfl rfl ?_
          refine rr_getI B 80 mh_80 mk_80 mf_80 dX12_connect_54 (fun v132 => ?_)
          refine s_iconst (v := 2) B.1 dX12_connect_57 (by decide) ?_
          refine s_iadd B.1 dX12_connect_58 ?_
          refine rr_bald B 6 mh_6 mk_6 dX12_connect_59 (fun v133 => ?_)
          refine s_bipush (v := (84)) B.1 dX12_connect_60 (by decide) ?_
          refine s_icmp_ne B.1 81 dX12_connect_62 (by decide) ?_ ?_
          · exact Sm.lvs [0] rfl (sm_connect_J81 B)
          · refine s_aload_n B.1 0 dX12_connect_65 rfl rfl ?_
            refine rr_getA B 6 mh_6 mn_6 mf_6 dX12_connect_66 ?_
            refine s_aload_n B.1 0 dX12_connect_69 rfl rfl ?_
            refine rr_getI B 80 mh_80 mk_80 mf_80 dX12_connect_70 (fun v134 => ?_)
            refine s_iconst (v := 3) B.1 dX12_connect_73 (by decide) ?_
            refine s_iadd B.1 dX12_connect_74 ?_
            refine rr_bald B 6 mh_6 mk_6 dX12_connect_75 (fun v135 => ?_)
            refine s_bipush (v := (84)) B.1 dX12_connect_76 (by decide) ?_
            refine s_icmp_eq B.1 88 dX12_connect_78 (by decide) ?_ ?_
            · exact Sm.lvs [0] rfl (sm_connect_J88 B)
            · exact Sm.lvs [0] rfl (sm_connect_J81 B)
