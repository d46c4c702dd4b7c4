def R_wrong (l1 : Int32) (l2 : Int32) : RS → Option (Unit × RS) :=
  bd (R_fail l1 l2) fun r1 =>
  bd (R_settle) fun r2 =>
  rt ()
set_option maxRecDepth 10000 in
theorem m_wrong {w : Wd} (hw : Wok w) (l1 : Int32) (l2 : Int32) : MR w yX12_wrong cX12_wrong 3 none 10 245 voV [.ref w.2.2.2.2.2, .int l1, .int l2] (R_wrong l1 l2) := by
  refine MR.of hw rfl (Nat.le_of_ble_eq_true rfl) (fun g hg B => ?_)
  subst hg
  unfold R_wrong
  show Sm g 3 0 [(0, .ref g.1.2.2.2.2.2), (1, .int l1), (2, .int l2)] [] _
  refine s_aload_n B.1 0 dX12_wrong_0 rfl rfl ?_
  refine s_iload_n B.1 1 dX12_wrong_1 rfl rfl ?_
  refine s_iload_n B.1 2 dX12_wrong_2 rfl rfl ?_
  refine rr_cvv (As := [.int l1, .int l2]) (st := []) B (m_fail B.ok l1 l2) mc_fail ml_fail mi_fail me_fail ini12 md_fail (by decide) rfl (Nat.le_of_ble_eq_true rfl) dX12_wrong_3 (fun r1 => ?_)
  refine s_aload_n B.1 0 dX12_wrong_6 rfl rfl ?_
  refine rr_cvv (As := []) (st := []) B (m_settle B.ok) mc_settle ml_settle mi_settle me_settle ini12 md_settle (by decide) rfl (Nat.le_of_ble_eq_true rfl) dX12_wrong_7 (fun r2 => ?_)
  exact s_vret B.1 B.2.1 dX12_wrong_10
def R_look_J239 (l1 : Int32) : RS → Option (Int32 × RS) :=
  wA 5 l1 (0 : Int32) <|
  bd (R_settle) fun r1 =>
  zt ((1 : Int32))
set_option maxRecDepth 10000 in
theorem sm_look_J239 {g : Gm RS Int32} (B : Br g cX12_look 8 voI (some .boolean) 11 289) (l1 : Int32) : Sm g 8 239 [(0, .ref g.1.2.2.2.2.2), (1, .int l1)] [] (R_look_J239 l1) := by
  unfold R_look_J239
  refine s_aload_n B.1 0 dX12_look_239 rfl rfl ?_
  refine rr_getA B 5 mh_5 mn_5 mf_5 dX12_look_240 ?_
  refine s_iload_n B.1 1 dX12_look_243 rfl rfl ?_
  refine s_iconst (v := 0) B.1 dX12_look_244 (by decide) ?_
  refine rr_iast B 5 mh_5 mk_5 dX12_look_245 ?_
  refine s_aload_n B.1 0 dX12_look_246 rfl rfl ?_
  refine rr_cvv (As := []) (st := []) B (m_settle B.ok) mc_settle ml_settle mi_settle me_settle ini12 md_settle (by decide) rfl (Nat.le_of_ble_eq_true rfl) dX12_look_247 (fun r1 => ?_)
  refine s_iconst (v := 1) B.1 dX12_look_250 (by decide) ?_
  exact s_zret B.1 B.2.1 dX12_look_251
def R_look_J91 (l1 : Int32) (l2 : Int32) (l3 : Int64) (l5 : Int32) (l6 : Int32) : RS → Option (Int32 × RS) :=
  if l6 = 0 then (
    if l5 = (4 : Int32) then (
      bd (R_wrong l1 (129 : Int32)) fun r13 =>
      zt ((0 : Int32))
    ) else (
      zt ((0 : Int32))
    )
  ) else (
    if (lg_cmp l3 (400 : Int64)) ≤ 0 then (
      rA 5 l1 fun v2 =>
      if 0 ≤ (lg_cmp v2.toInt64 ((((1 : Int32) + l5).toInt64) + l3)) then (
        rI 67 fun v3 =>
        wI 67 (v3 + (1 : Int32)) <|
        rI 66 fun v4 =>
        wA 8 l1 v4 <|
        wI 75 (l1) <|
        wI 76 ((l2 + (1 : Int32)) + l5) <|
        rA 5 l1 fun v5 =>
        wI 77 (l2 + v5) <|
        rI 77 fun v6 =>
        wI 78 (v6) <|
        wI 79 ((0 : Int32)) <|
        bd (R_take_) fun r7 =>
        rA 1 l1 fun v8 =>
        if v8 = 0 then (
          R_look_J239 l1
        ) else (
          rI 79 fun v9 =>
          if v9 = 0 then (
            R_look_J239 l1
          ) else (
            rI 79 fun v10 =>
            bd (R_fail l1 v10) fun r11 =>
            R_look_J239 l1
          )
        )
      ) else (
        zt ((0 : Int32))
      )
    ) else (
      bd (R_wrong l1 (149 : Int32)) fun r12 =>
      zt ((0 : Int32))
    )
  )
set_option maxRecDepth 10000 in
theorem sm_look_J91 {g : Gm RS Int32} (B : Br g cX12_look 8 voI (some .boolean) 11 289) (l1 : Int32) (l2 : Int32) (l3 : Int64) (l5 : Int32) (l6 : Int32) : Sm g 8 91 [(0, .ref g.1.2.2.2.2.2), (1, .int l1), (2, .int l2), (3, .long l3), (5, .int l5), (6, .int l6)] [] (R_look_J91 l1 l2 l3 l5 l6) := by
  unfold R_look_J91
  refine s_iload B.1 5 dX12_look_91 rfl ?_
  refine s_if_ne B.1 112 dX12_look_93 (by decide) ?_ ?_
  · refine s_lload_n B.1 3 dX12_look_112 rfl rfl ?_
    refine s_ldc2 (v := (400)) B.1 tw_2023 dX12_look_113 ?_
    refine s_lcmp B.1 dX12_look_116 ?_
    refine s_if_le B.1 130 dX12_look_117 (by decide) ?_ ?_
    · refine s_aload_n B.1 0 dX12_look_130 rfl rfl ?_
      refine rr_getA B 5 mh_5 mn_5 mf_5 dX12_look_131 ?_
      refine s_iload_n B.1 1 dX12_look_134 rfl rfl ?_
      refine rr_iald B 5 mh_5 mk_5 dX12_look_135 (fun v2 => ?_)
      refine s_i2l B.1 dX12_look_136 ?_
      refine s_iconst (v := 1) B.1 dX12_look_137 (by decide) ?_
      refine s_iload B.1 4 dX12_look_138 rfl ?_
      refine s_iadd B.1 dX12_look_140 ?_
      refine s_i2l B.1 dX12_look_141 ?_
      refine s_lload_n B.1 3 dX12_look_142 rfl rfl ?_
      refine s_ladd B.1 dX12_look_143 ?_
      refine s_lcmp B.1 dX12_look_144 ?_
      refine s_if_ge B.1 150 dX12_look_145 (by decide) ?_ ?_
      · refine s_aload_n B.1 0 dX12_look_150 rfl rfl ?_
        refine s_dup B.1 dX12_look_151 rfl ?_
        refine rr_getI B 67 mh_67 mk_67 mf_67 dX12_look_152 (fun v3 => ?_)
        refine s_iconst (v := 1) B.1 dX12_look_155 (by decide) ?_
        refine s_iadd B.1 dX12_look_156 ?_
        refine rr_putI B 67 mh_67 mk_67 mf_67 dX12_look_157 ?_
        refine s_aload_n B.1 0 dX12_look_160 rfl rfl ?_
        refine rr_getA B 8 mh_8 mn_8 mf_8 dX12_look_161 ?_
        refine s_iload_n B.1 1 dX12_look_164 rfl rfl ?_
        refine s_aload_n B.1 0 dX12_look_165 rfl rfl ?_
        refine rr_getI B 66 mh_66 mk_66 mf_66 dX12_look_166 (fun v4 => ?_)
        refine rr_iast B 8 mh_8 mk_8 dX12_look_169 ?_
        refine s_aload_n B.1 0 dX12_look_170 rfl rfl ?_
        refine s_iload_n B.1 1 dX12_look_171 rfl rfl ?_
        refine rr_putI B 75 mh_75 mk_75 mf_75 dX12_look_172 ?_
        refine s_aload_n B.1 0 dX12_look_175 rfl rfl ?_
        refine s_iload_n B.1 2 dX12_look_176 rfl rfl ?_
        refine s_iconst (v := 1) B.1 dX12_look_177 (by decide) ?_
        refine s_iadd B.1 dX12_look_178 ?_
        refine s_iload B.1 4 dX12_look_179 rfl ?_
        refine s_iadd B.1 dX12_look_181 ?_
        refine rr_putI B 76 mh_76 mk_76 mf_76 dX12_look_182 ?_
        refine s_aload_n B.1 0 dX12_look_185 rfl rfl ?_
        refine s_iload_n B.1 2 dX12_look_186 rfl rfl ?_
        refine s_aload_n B.1 0 dX12_look_187 rfl rfl ?_
        refine rr_getA B 5 mh_5 mn_5 mf_5 dX12_look_188 ?_
        refine s_iload_n B.1 1 dX12_look_191 rfl rfl ?_
        refine rr_iald B 5 mh_5 mk_5 dX12_look_192 (fun v5 => ?_)
        refine s_iadd B.1 dX12_look_193 ?_
        refine rr_putI B 77 mh_77 mk_77 mf_77 dX12_look_194 ?_
        refine s_aload_n B.1 0 dX12_look_197 rfl rfl ?_
        refine s_aload_n B.1 0 dX12_look_198 rfl rfl ?_
        refine rr_getI B 77 mh_77 mk_77 mf_77 dX12_look_199 (fun v6 => ?_)
        refine rr_putI B 78 mh_78 mk_78 mf_78 dX12_look_202 ?_
        refine s_aload_n B.1 0 dX12_look_205 rfl rfl ?_
        refine s_iconst (v := 0) B.1 dX12_look_206 (by decide) ?_
        refine rr_putI B 79 mh_79 mk_79 mf_79 dX12_look_207 ?_
        refine s_aload_n B.1 0 dX12_look_210 rfl rfl ?_
        refine rr_cvv (As := []) (st := []) B (m_take_ B.ok) mc_take_ ml_take_ mi_take_ me_take_ ini12 md_take_ (by decide) rfl (Nat.le_of_ble_eq_true rfl) dX12_look_211 (fun r7 => ?_)
        refine s_aload_n B.1 0 dX12_look_214 rfl rfl ?_
        refine rr_getA B 1 mh_1 mn_1 mf_1 dX12_look_215 ?_
        refine s_iload_n B.1 1 dX12_look_218 rfl rfl ?_
        refine rr_zald B 1 mh_1 mk_1 dX12_look_219 (fun v8 => ?_)
        refine s_if_eq B.1 239 dX12_look_220 (by decide) ?_ ?_
        · exact Sm.lvs [0, 1] rfl (sm_look_J239 B l1)
        · refine s_aload_n B.1 0 dX12_look_223 rfl rfl ?_
          refine rr_getI B 79 mh_79 mk_79 mf_79 dX12_look_224 (fun v9 => ?_)
          refine s_if_eq B.1 239 dX12_look_227 (by decide) ?_ ?_
          · exact Sm.lvs [0, 1] rfl (sm_look_J239 B l1)
          · refine s_aload_n B.1 0 dX12_look_230 rfl rfl ?_
            refine s_iload_n B.1 1 dX12_look_231 rfl rfl ?_
            refine s_aload_n B.1 0 dX12_look_232 rfl rfl ?_
            refine rr_getI B 79 mh_79 mk_79 mf_79 dX12_look_233 (fun v10 => ?_)
            refine rr_cvv (As := [.int l1, .int v10]) (st := []) B (m_fail B.ok l1 v10) mc_fail ml_fail mi_fail me_fail ini12 md_fail (by decide) rfl (Nat.le_of_ble_eq_true rfl) dX12_look_236 (fun r11 => ?_)
            exact Sm.lvs [0, 1] rfl (sm_look_J239 B l1)
      · refine s_iconst (v := 0) B.1 dX12_look_148 (by decide) ?_
        exact s_zret B.1 B.2.1 dX12_look_149
    · refine s_aload_n B.1 0 dX12_look_120 rfl rfl ?_
      refine s_iload_n B.1 1 dX12_look_121 rfl rfl ?_
      refine s_sipush (v := (149)) B.1 dX12_look_122 (by decide) ?_
      refine rr_cvv (As := [.int l1, .int (149 : Int32)]) (st := []) B (m_wrong B.ok l1 (149 : Int32)) mc_wrong ml_wrong mi_wrong me_wrong ini12 md_wrong (by decide) rfl (Nat.le_of_ble_eq_true rfl) dX12_look_125 (fun r12 => ?_)
      refine s_iconst (v := 0) B.1 dX12_look_128 (by decide) ?_
      exact s_zret B.1 B.2.1 dX12_look_129
  · refine s_iload B.1 4 dX12_look_96 rfl ?_
    refine s_iconst (v := 4) B.1 dX12_look_98 (by decide) ?_
    refine s_icmp_ne B.1 110 dX12_look_99 (by decide) ?_ ?_
    · refine s_iconst (v := 0) B.1 dX12_look_110 (by decide) ?_
      exact s_zret B.1 B.2.1 dX12_look_111
    · refine s_aload_n B.1 0 dX12_look_102 rfl rfl ?_
      refine s_iload_n B.1 1 dX12_look_103 rfl rfl ?_
      refine s_sipush (v := (129)) B.1 dX12_look_104 (by decide) ?_
      refine rr_cvv (As := [.int l1, .int (129 : Int32)]) (st := []) B (m_wrong B.ok l1 (129 : Int32)) mc_wrong ml_wrong mi_wrong me_wrong ini12 md_wrong (by decide) rfl (Nat.le_of_ble_eq_true rfl) dX12_look_107 (fun r13 => ?_)
      refine s_iconst (v := 0) B.1 dX12_look_110 (by decide) ?_
      exact s_zret B.1 B.2.1 dX12_look_111
def R_look_J86 (kb : Int32 → Int32 → Int64 → Int32 → Int32 → RS → Option (Int32 × RS)) (ke91 : Int32 → Int32 → Int64 → Int32 → Int32 → RS → Option (Int32 × RS)) (l1 : Int32) (l2 : Int32) (l3 : Int64) (l5 : Int32) (s0 : Int32) : RS → Option (Int32 × RS) :=
  kb l1 l2 l3 l5 s0
set_option maxRecDepth 10000 in
theorem sm_look_J86 {g : Gm RS Int32} {kb : Int32 → Int32 → Int64 → Int32 → Int32 → RS → Option (Int32 × RS)} {ke91 : Int32 → Int32 → Int64 → Int32 → Int32 → RS → Option (Int32 × RS)} (B : Br g cX12_look 8 voI (some .boolean) 11 289) (hkb : ∀ (l1 : Int32) (l2 : Int32) (l3 : Int64) (l5 : Int32) (l6 : Int32), Sm g 8 14 [(0, .ref g.1.2.2.2.2.2), (1, .int l1), (2, .int l2), (3, .long l3), (5, .int l5), (6, .int l6)] [] (kb l1 l2 l3 l5 l6)) (hke91 : ∀ (l1 : Int32) (l2 : Int32) (l3 : Int64) (l5 : Int32) (l6 : Int32), Sm g 8 91 [(0, .ref g.1.2.2.2.2.2), (1, .int l1), (2, .int l2), (3, .long l3), (5, .int l5), (6, .int l6)] [] (ke91 l1 l2 l3 l5 l6)) (l1 : Int32) (l2 : Int32) (l3 : Int64) (l5 : Int32) (s0 : Int32) : Sm g 8 86 [(0, .ref g.1.2.2.2.2.2), (1, .int l1), (2, .int l2), (3, .long l3), (5, .int l5)] [.int s0] (R_look_J86 kb ke91 l1 l2 l3 l5 s0) := by
  unfold R_look_J86
  refine s_istore (lv' := [(6, .int s0), (0, .ref g.1.2.2.2.2.2), (1, .int l1), (2, .int l2), (3, .long l3), (5, .int l5)]) B.1 dX12_look_86 (by decide) rfl ?_
  refine s_goto B.1 14 dX12_look_88 (by decide) ?_
  exact Sm.lvs [1, 2, 3, 4, 5, 0] rfl (hkb l1 l2 l3 l5 s0)
def R_look_B14 (kb : Int32 → Int32 → Int64 → Int32 → Int32 → RS → Option (Int32 × RS)) (ke91 : Int32 → Int32 → Int64 → Int32 → Int32 → RS → Option (Int32 × RS)) (l1 : Int32) (l2 : Int32) (l3 : Int64) (l5 : Int32) (l6 : Int32) : RS → Option (Int32 × RS) :=
  if (4 : Int32) ≤ l5 then (
    ke91 l1 l2 l3 l5 l6
  ) else (
    rA 5 l1 fun v14 =>
    if v14 ≤ ((1 : Int32) + l5) then (
      ke91 l1 l2 l3 l5 l6
    ) else (
      if l6 = 0 then (
        rA 6 ((l2 + (1 : Int32)) + l5) fun v15 =>
        lq (v15 &&& (255 : Int32)) fun x16 =>
        lq (l3 ||| (lshl6 ((x16 &&& (127 : Int32)).toInt64) ((7 : Int32) * l5))) fun x17 =>
        if (128 : Int32) ≤ x16 then (
          R_look_J86 kb ke91 l1 l2 x17 (l5 + 1) (0 : Int32)
        ) else (
          R_look_J86 kb ke91 l1 l2 x17 (l5 + 1) (1 : Int32)
        )
      ) else (
        ke91 l1 l2 l3 l5 l6
      )
    )
  )
def R_look_L14 (ke91 : Int32 → Int32 → Int64 → Int32 → Int32 → RS → Option (Int32 × RS)) : Nat → Int32 → Int32 → Int64 → Int32 → Int32 → RS → Option (Int32 × RS)
  | 0, _, _, _, _, _ => no
  | n + 1, l1, l2, l3, l5, l6 => R_look_B14 (fun l1 l2 l3 l5 l6 => R_look_L14 ke91 n l1 l2 l3 l5 l6) ke91 l1 l2 l3 l5 l6
set_option maxRecDepth 10000 in
theorem sm_look_B14 {g : Gm RS Int32} {kb : Int32 → Int32 → Int64 → Int32 → Int32 → RS → Option (Int32 × RS)} {ke91 : Int32 → Int32 → Int64 → Int32 → Int32 → RS → Option (Int32 × RS)} (B : Br g cX12_look 8 voI (some .boolean) 11 289) (hkb : ∀ (l1 : Int32) (l2 : Int32) (l3 : Int64) (l5 : Int32) (l6 : Int32), Sm g 8 14 [(0, .ref g.1.2.2.2.2.2), (1, .int l1), (2, .int l2), (3, .long l3), (5, .int l5), (6, .int l6)] [] (kb l1 l2 l3 l5 l6)) (hke91 : ∀ (l1 : Int32) (l2 : Int32) (l3 : Int64) (l5 : Int32) (l6 : Int32), Sm g 8 91 [(0, .ref g.1.2.2.2.2.2), (1, .int l1), (2, .int l2), (3, .long l3), (5, .int l5), (6, .int l6)] [] (ke91 l1 l2 l3 l5 l6)) (l1 : Int32) (l2 : Int32) (l3 : Int64) (l5 : Int32) (l6 : Int32) : Sm g 8 14 [(0, .ref g.1.2.2.2.2.2), (1, .int l1), (2, .int l2), (3, .long l3), (5, .int l5), (6, .int l6)] [] (R_look_B14 kb ke91 l1 l2 l3 l5 l6) := by
  unfold R_look_B14
  refine s_iload B.1 4 dX12_look_14 rfl ?_
  refine s_iconst (v := 4) B.1 dX12_look_16 (by decide) ?_
  refine s_icmp_ge B.1 91 dX12_look_17 (by decide) ?_ ?_
  · exact Sm.lvs [0, 1, 2, 3, 4, 5] rfl (hke91 l1 l2 l3 l5 l6)
  · refine s_iconst (v := 1) B.1 dX12_look_20 (by decide) ?_
    refine s_iload B.1 4 dX12_look_21 rfl ?_
    refine s_iadd B.1 dX12_look_23 ?_
    refine s_aload_n B.1 0 dX12_look_24 rfl rfl ?_
    refine rr_getA B 5 mh_5 mn_5 mf_5 dX12_look_25 ?_
    refine s_iload_n B.1 1 dX12_look_28 rfl rfl ?_
    refine rr_iald B 5 mh_5 mk_5 dX12_look_29 (fun v14 => ?_)
    refine s_icmp_ge B.1 91 dX12_look_30 (by decide) ?_ ?_
    · exact Sm.lvs [0, 1, 2, 3, 4, 5] rfl (hke91 l1 l2 l3 l5 l6)
    · refine s_iload B.1 5 dX12_look_33 rfl ?_
      refine s_if_ne B.1 91 dX12_look_35 (by decide) ?_ ?_
      · exact Sm.lvs [0, 1, 2, 3, 4, 5] rfl (hke91 l1 l2 l3 l5 l6)
      · refine s_aload_n B.1 0 dX12_look_38 rfl rfl ?_
        refine rr_getA B 6 mh_6 mn_6 mf_6 dX12_look_39 ?_
        refine s_iload_n B.1 2 dX12_look_42 rfl rfl ?_
        refine s_iconst (v := 1) B.1 dX12_look_43 (by decide) ?_
        refine s_iadd B.1 dX12_look_44 ?_
        refine s_iload B.1 4 dX12_look_45 rfl ?_
        refine s_iadd B.1 dX12_look_47 ?_
        refine rr_bald B 6 mh_6 mk_6 dX12_look_48 (fun v15 => ?_)
        refine s_sipush (v := (255)) B.1 dX12_look_49 (by decide) ?_
        refine s_iand B.1 dX12_look_52 ?_
        refine s_lqi (fun x16 => ?_)
        refine s_istore (lv' := [(7, .int x16), (0, .ref g.1.2.2.2.2.2), (1, .int l1), (2, .int l2), (3, .long l3), (5, .int l5), (6, .int l6)]) B.1 dX12_look_53 (by decide) rfl ?_
        refine s_lload_n B.1 4 dX12_look_55 rfl rfl ?_
        refine s_iload B.1 0 dX12_look_56 rfl ?_
        refine s_bipush (v := (127)) B.1 dX12_look_58 (by decide) ?_
        refine s_iand B.1 dX12_look_60 ?_
        refine s_i2l B.1 dX12_look_61 ?_
        refine s_bipush (v := (7)) B.1 dX12_look_62 (by decide) ?_
        refine s_iload B.1 5 dX12_look_64 rfl ?_
        refine s_imul B.1 dX12_look_66 ?_
        refine s_lshl B.1 dX12_look_67 ?_
        refine s_lor B.1 dX12_look_68 ?_
        refine s_lql (fun x17 => ?_)
        refine s_lstore_n (lv' := [(3, .long x17), (7, .int x16), (0, .ref g.1.2.2.2.2.2), (1, .int l1), (2, .int l2), (5, .int l5), (6, .int l6)]) B.1 dX12_look_69 rfl (by decide) rfl ?_
        refine s_iinc (v := l5 + 1) (lv' := [(5, .int (l5 + 1)), (3, .long x17), (7, .int x16), (0, .ref g.1.2.2.2.2.2), (1, .int l1), (2, .int l2), (6, .int l6)]) B.1 5 dX12_look_70 rfl rfl (by decide) rfl ?_
        refine s_iload B.1 2 dX12_look_73 rfl ?_
        refine s_sipush (v := (128)) B.1 dX12_look_75 (by decide) ?_
        refine s_icmp_ge B.1 85 dX12_look_78 (by decide) ?_ ?_
        · refine s_iconst (v := 0) B.1 dX12_look_85 (by decide) ?_
          exact Sm.lvs [3, 4, 5, 1, 0] rfl (sm_look_J86 B hkb hke91 l1 l2 x17 (l5 + 1) (0 : Int32))
        · refine s_iconst (v := 1) B.1 dX12_look_81 (by decide) ?_
          refine s_goto B.1 86 dX12_look_82 (by decide) ?_
          exact Sm.lvs [3, 4, 5, 1, 0] rfl (sm_look_J86 B hkb hke91 l1 l2 x17 (l5 + 1) (1 : Int32))
set_option maxRecDepth 10000 in
theorem sm_look_L14 {g : Gm RS Int32} {ke91 : Int32 → Int32 → Int64 → Int32 → Int32 → RS → Option (Int32 × RS)} (B : Br g cX12_look 8 voI (some .boolean) 11 289) (hke91 : ∀ (l1 : Int32) (l2 : Int32) (l3 : Int64) (l5 : Int32) (l6 : Int32), Sm g 8 91 [(0, .ref g.1.2.2.2.2.2), (1, .int l1), (2, .int l2), (3, .long l3), (5, .int l5), (6, .int l6)] [] (ke91 l1 l2 l3 l5 l6)) : ∀ (n : Nat) (l1 : Int32) (l2 : Int32) (l3 : Int64) (l5 : Int32) (l6 : Int32), Sm g 8 14 [(0, .ref g.1.2.2.2.2.2), (1, .int l1), (2, .int l2), (3, .long l3), (5, .int l5), (6, .int l6)] [] (R_look_L14 ke91 n l1 l2 l3 l5 l6)
  | 0, _, _, _, _, _ => Sm.fail
  | n + 1, l1, l2, l3, l5, l6 => sm_look_B14 B (sm_look_L14 B hke91 n) hke91 l1 l2 l3 l5 l6
def R_look (l1 : Int32) : RS → Option (Int32 × RS) :=
  lq ((410 : Int32) * l1) fun x18 =>
  R_look_L14 (fun l1 l2 l3 l5 l6 => R_look_J91 l1 l2 l3 l5 l6) fu l1 x18 (0 : Int64) (0 : Int32) (0 : Int32)
set_option maxRecDepth 10000 in
theorem m_look {w : Wd} (hw : Wok w) (l1 : Int32) : MR w yX12_look cX12_look 8 (some .boolean) 11 289 voI [.ref w.2.2.2.2.2, .int l1] (R_look l1) := by
  refine MR.of hw rfl (Nat.le_of_ble_eq_true rfl) (fun g hg B => ?_)
  subst hg
  unfold R_look
  show Sm g 8 0 [(0, .ref g.1.2.2.2.2.2), (1, .int l1)] [] _
  refine s_sipush (v := (410)) B.1 dX12_look_0 (by decide) ?_
  refine s_iload_n B.1 1 dX12_look_3 rfl rfl ?_
  refine s_imul B.1 dX12_look_4 ?_
  refine s_lqi (fun x18 => ?_)
  refine s_istore_n (lv' := [(2, .int x18), (0, .ref g.1.2.2.2.2.2), (1, .int l1)]) B.1 dX12_look_5 rfl (by decide) rfl ?_
  refine s_lconst (v := 0) B.1 dX12_look_6 (by decide) ?_
  refine s_lstore_n (lv' := [(3, .long (0 : Int64)), (2, .int x18), (0, .ref g.1.2.2.2.2.2), (1, .int l1)]) B.1 dX12_look_7 rfl (by decide) rfl ?_
  refine s_iconst (v := 0) B.1 dX12_look_8 (by decide) ?_
  refine s_istore (lv' := [(5, .int (0 : Int32)), (3, .long (0 : Int64)), (2, .int x18), (0, .ref g.1.2.2.2.2.2), (1, .int l1)]) B.1 dX12_look_9 (by decide) rfl ?_
  refine s_iconst (v := 0) B.1 dX12_look_11 (by decide) ?_
  refine s_istore (lv' := [(6, .int (0 : Int32)), (5, .int (0 : Int32)), (3, .long (0 : Int64)), (2, .int x18), (0, .ref g.1.2.2.2.2.2), (1, .int l1)]) B.1 dX12_look_12 (by decide) rfl ?_
  exact Sm.lvs [4, 5, 3, 2, 1, 0] rfl (sm_look_L14 B (fun l1 l2 l3 l5 l6 => sm_look_J91 B l1 l2 l3 l5 l6) fu l1 x18 (0 : Int64) (0 : Int32) (0 : Int32))
def R_feed_J148 (l7 : Int32) : RS → Option (Int32 × RS) :=
  rt (l7)
set_option maxRecDepth 10000 in
theorem sm_feed_J148 {g : Gm RS Int32} (B : Br g cX12_feed 9 voI (some .int) 12 316) (l7 : Int32) : Sm g 9 148 [(7, .int l7)] [] (R_feed_J148 l7) := by
  unfold R_feed_J148
  refine s_iload B.1 0 dX12_feed_148 rfl ?_
  exact s_iret B.1 B.2.1 dX12_feed_150
def R_feed_J139 (kb : Int32 → Int64 → Int64 → Int32 → Int32 → Int32 → RS → Option (Int32 × RS)) (ke148 : Int32 → RS → Option (Int32 × RS)) (l1 : Int32) (l2 : Int64) (l4 : Int64) (l6 : Int32) (l8 : Int32) (s0 : Int32) (s1 : Int32) : RS → Option (Int32 × RS) :=
  lq (s0 + s1) fun x1 =>
  kb l1 l2 l4 l6 x1 (l8 + 1)
set_option maxRecDepth 10000 in
theorem sm_feed_J139 {g : Gm RS Int32} {kb : Int32 → Int64 → Int64 → Int32 → Int32 → Int32 → RS → Option (Int32 × RS)} {ke148 : Int32 → RS → Option (Int32 × RS)} (B : Br g cX12_feed 9 voI (some .int) 12 316) (hkb : ∀ (l1 : Int32) (l2 : Int64) (l4 : Int64) (l6 : Int32) (l7 : Int32) (l8 : Int32), Sm g 9 57 [(0, .ref g.1.2.2.2.2.2), (1, .int l1), (2, .long l2), (4, .long l4), (6, .int l6), (7, .int l7), (8, .int l8)] [] (kb l1 l2 l4 l6 l7 l8)) (hke148 : ∀ (l7 : Int32), Sm g 9 148 [(7, .int l7)] [] (ke148 l7)) (l1 : Int32) (l2 : Int64) (l4 : Int64) (l6 : Int32) (l8 : Int32) (s0 : Int32) (s1 : Int32) : Sm g 9 139 [(0, .ref g.1.2.2.2.2.2), (1, .int l1), (2, .long l2), (4, .long l4), (6, .int l6), (8, .int l8)] [.int s1, .int s0] (R_feed_J139 kb ke148 l1 l2 l4 l6 l8 s0 s1) := by
  unfold R_feed_J139
  refine s_iadd B.1 dX12_feed_139 ?_
  refine s_lqi (fun x1 => ?_)
  refine s_istore (lv' := [(7, .int x1), (0, .ref g.1.2.2.2.2.2), (1, .int l1), (2, .long l2), (4, .long l4), (6, .int l6), (8, .int l8)]) B.1 dX12_feed_140 (by decide) rfl ?_
  refine s_iinc (v := l8 + 1) (lv' := [(8, .int (l8 + 1)), (7, .int x1), (0, .ref g.1.2.2.2.2.2), (1, .int l1), (2, .long l2), (4, .long l4), (6, .int l6)]) B.1 6 dX12_feed_142 rfl rfl (by decide) rfl ?_
  refine s_goto B.1 57 dX12_feed_145 (by decide) ?_
  exact Sm.lvs [2, 3, 4, 5, 6, 1, 0] rfl (hkb l1 l2 l4 l6 x1 (l8 + 1))
def R_feed_J102 (kb : Int32 → Int64 → Int64 → Int32 → Int32 → Int32 → RS → Option (Int32 × RS)) (ke148 : Int32 → RS → Option (Int32 × RS)) (l1 : Int32) (l2 : Int64) (l4 : Int64) (l6 : Int32) (l7 : Int32) (l8 : Int32) (s1 : Int32) (s2 : Int64) : RS → Option (Int32 × RS) :=
  wA 6 s1 (vp_nar .byte (((lush6 s2 ((8 : Int32) * (l8 - l8 / (8 : Int32) * (8 : Int32)))).toInt32).toInt8.toInt32)) <|
  rA 5 l1 fun v2 =>
  wA 5 l1 (v2 + (1 : Int32)) <|
  bd (R_look l1) fun r3 =>
  if r3 = 0 then (
    R_feed_J139 kb ke148 l1 l2 l4 l6 l8 l7 (0 : Int32)
  ) else (
    R_feed_J139 kb ke148 l1 l2 l4 l6 l8 l7 (1 : Int32)
  )
set_option maxRecDepth 10000 in
theorem sm_feed_J102 {g : Gm RS Int32} {kb : Int32 → Int64 → Int64 → Int32 → Int32 → Int32 → RS → Option (Int32 × RS)} {ke148 : Int32 → RS → Option (Int32 × RS)} (B : Br g cX12_feed 9 voI (some .int) 12 316) (hkb : ∀ (l1 : Int32) (l2 : Int64) (l4 : Int64) (l6 : Int32) (l7 : Int32) (l8 : Int32), Sm g 9 57 [(0, .ref g.1.2.2.2.2.2), (1, .int l1), (2, .long l2), (4, .long l4), (6, .int l6), (7, .int l7), (8, .int l8)] [] (kb l1 l2 l4 l6 l7 l8)) (hke148 : ∀ (l7 : Int32), Sm g 9 148 [(7, .int l7)] [] (ke148 l7)) (l1 : Int32) (l2 : Int64) (l4 : Int64) (l6 : Int32) (l7 : Int32) (l8 : Int32) (s1 : Int32) (s2 : Int64) : Sm g 9 102 [(0, .ref g.1.2.2.2.2.2), (1, .int l1), (2, .long l2), (4, .long l4), (6, .int l6), (7, .int l7), (8, .int l8)] [.long s2, .int s1, .ref (g.1.2.2.2.2.2 + mO 6)] (R_feed_J102 kb ke148 l1 l2 l4 l6 l7 l8 s1 s2) := by
  unfold R_feed_J102
  refine s_bipush (v := (8)) B.1 dX12_feed_102 (by decide) ?_
  refine s_iload B.1 6 dX12_feed_104 rfl ?_
  refine s_bipush (v := (8)) B.1 dX12_feed_106 (by decide) ?_
  refine s_irem B.1 dX12_feed_108 (by decide) ?_
  refine s_imul B.1 dX12_feed_109 ?_
  refine s_lushr B.1 dX12_feed_110 ?_
  refine s_l2i B.1 dX12_feed_111 ?_
  refine s_i2b B.1 dX12_feed_112 ?_
  refine rr_bast B 6 mh_6 mk_6 dX12_feed_113 ?_
  refine s_aload_n B.1 0 dX12_feed_114 rfl rfl ?_
  refine rr_getA B 5 mh_5 mn_5 mf_5 dX12_feed_115 ?_
  refine s_iload_n B.1 1 dX12_feed_118 rfl rfl ?_
  refine s_dup2 B.1 dX12_feed_119 rfl rfl ?_
  refine rr_iald B 5 mh_5 mk_5 dX12_feed_120 (fun v2 => ?_)
  refine s_iconst (v := 1) B.1 dX12_feed_121 (by decide) ?_
  refine s_iadd B.1 dX12_feed_122 ?_
  refine rr_iast B 5 mh_5 mk_5 dX12_feed_123 ?_
  refine s_iload B.1 5 dX12_feed_124 rfl ?_
  refine s_aload_n B.1 0 dX12_feed_126 rfl rfl ?_
  refine s_iload_n B.1 1 dX12_feed_127 rfl rfl ?_
  refine rr_cvi (As := [.int l1]) (st := [.int l7]) B (m_look B.ok l1) mc_look ml_look mi_look me_look ini12 md_look (by decide) rfl (Nat.le_of_ble_eq_true rfl) dX12_feed_128 (fun r3 => ?_)
  refine s_if_eq B.1 138 dX12_feed_131 (by decide) ?_ ?_
  · refine s_iconst (v := 0) B.1 dX12_feed_138 (by decide) ?_
    exact Sm.lvs [0, 1, 2, 3, 4, 6] rfl (sm_feed_J139 B hkb hke148 l1 l2 l4 l6 l8 l7 (0 : Int32))
  · refine s_iconst (v := 1) B.1 dX12_feed_134 (by decide) ?_
    refine s_goto B.1 139 dX12_feed_135 (by decide) ?_
    exact Sm.lvs [0, 1, 2, 3, 4, 6] rfl (sm_feed_J139 B hkb hke148 l1 l2 l4 l6 l8 l7 (1 : Int32))
def R_feed_B57 (kb : Int32 → Int64 → Int64 → Int32 → Int32 → Int32 → RS → Option (Int32 × RS)) (ke148 : Int32 → RS → Option (Int32 × RS)) (l1 : Int32) (l2 : Int64) (l4 : Int64) (l6 : Int32) (l7 : Int32) (l8 : Int32) : RS → Option (Int32 × RS) :=
  if l6 ≤ l8 then (
    ke148 l7
  ) else (
    rA 1 l1 fun v4 =>
    if v4 = 0 then (
      ke148 l7
    ) else (
      rA 5 l1 fun v5 =>
      if (8 : Int32) ≤ l8 then (
        R_feed_J102 kb ke148 l1 l2 l4 l6 l7 l8 (((410 : Int32) * l1) + v5) l4
      ) else (
        R_feed_J102 kb ke148 l1 l2 l4 l6 l7 l8 (((410 : Int32) * l1) + v5) l2
      )
    )
  )
def R_feed_L57 (ke148 : Int32 → RS → Option (Int32 × RS)) : Nat → Int32 → Int64 → Int64 → Int32 → Int32 → Int32 → RS → Option (Int32 × RS)
  | 0, _, _, _, _, _, _ => no
  | n + 1, l1, l2, l4, l6, l7, l8 => R_feed_B57 (fun l1 l2 l4 l6 l7 l8 => R_feed_L57 ke148 n l1 l2 l4 l6 l7 l8) ke148 l1 l2 l4 l6 l7 l8
set_option maxRecDepth 10000 in
theorem sm_feed_B57 {g : Gm RS Int32} {kb : Int32 → Int64 → Int64 → Int32 → Int32 → Int32 → RS → Option (Int32 × RS)} {ke148 : Int32 → RS → Option (Int32 × RS)} (B : Br g cX12_feed 9 voI (some .int) 12 316) (hkb : ∀ (l1 : Int32) (l2 : Int64) (l4 : Int64) (l6 : Int32) (l7 : Int32) (l8 : Int32), Sm g 9 57 [(0, .ref g.1.2.2.2.2.2), (1, .int l1), (2, .long l2), (4, .long l4), (6, .int l6), (7, .int l7), (8, .int l8)] [] (kb l1 l2 l4 l6 l7 l8)) (hke148 : ∀ (l7 : Int32), Sm g 9 148 [(7, .int l7)] [] (ke148 l7)) (l1 : Int32) (l2 : Int64) (l4 : Int64) (l6 : Int32) (l7 : Int32) (l8 : Int32) : Sm g 9 57 [(0, .ref g.1.2.2.2.2.2), (1, .int l1), (2, .long l2), (4, .long l4), (6, .int l6), (7, .int l7), (8, .int l8)] [] (R_feed_B57 kb ke148 l1 l2 l4 l6 l7 l8) := by
  unfold R_feed_B57
  refine s_iload B.1 6 dX12_feed_57 rfl ?_
  refine s_iload B.1 4 dX12_feed_59 rfl ?_
  refine s_icmp_ge B.1 148 dX12_feed_61 (by decide) ?_ ?_
  · exact Sm.lvs [5] rfl (hke148 l7)
  · refine s_aload_n B.1 0 dX12_feed_64 rfl rfl ?_
    refine rr_getA B 1 mh_1 mn_1 mf_1 dX12_feed_65 ?_
    refine s_iload_n B.1 1 dX12_feed_68 rfl rfl ?_
    refine rr_zald B 1 mh_1 mk_1 dX12_feed_69 (fun v4 => ?_)
    refine s_if_eq B.1 148 dX12_feed_70 (by decide) ?_ ?_
    · exact Sm.lvs [5] rfl (hke148 l7)
    · refine s_aload_n B.1 0 dX12_feed_73 rfl rfl ?_
      refine rr_getA B 6 mh_6 mn_6 mf_6 dX12_feed_74 ?_
      refine s_sipush (v := (410)) B.1 dX12_feed_77 (by decide) ?_
      refine s_iload_n B.1 1 dX12_feed_80 rfl rfl ?_
      refine s_imul B.1 dX12_feed_81 ?_
      refine s_aload_n B.1 0 dX12_feed_82 rfl rfl ?_
      refine rr_getA B 5 mh_5 mn_5 mf_5 dX12_feed_83 ?_
      refine s_iload_n B.1 1 dX12_feed_86 rfl rfl ?_
      refine rr_iald B 5 mh_5 mk_5 dX12_feed_87 (fun v5 => ?_)
      refine s_iadd B.1 dX12_feed_88 ?_
      refine s_iload B.1 6 dX12_feed_89 rfl ?_
      refine s_bipush (v := (8)) B.1 dX12_feed_91 (by decide) ?_
      refine s_icmp_ge B.1 100 dX12_feed_93 (by decide) ?_ ?_
      · refine s_lload B.1 3 dX12_feed_100 rfl ?_
        exact Sm.lvs [0, 1, 2, 3, 4, 5, 6] rfl (sm_feed_J102 B hkb hke148 l1 l2 l4 l6 l7 l8 (((410 : Int32) * l1) + v5) l4)
      · refine s_lload_n B.1 2 dX12_feed_96 rfl rfl ?_
        refine s_goto B.1 102 dX12_feed_97 (by decide) ?_
        exact Sm.lvs [0, 1, 2, 3, 4, 5, 6] rfl (sm_feed_J102 B hkb hke148 l1 l2 l4 l6 l7 l8 (((410 : Int32) * l1) + v5) l2)
set_option maxRecDepth 10000 in
theorem sm_feed_L57 {g : Gm RS Int32} {ke148 : Int32 → RS → Option (Int32 × RS)} (B : Br g cX12_feed 9 voI (some .int) 12 316) (hke148 : ∀ (l7 : Int32), Sm g 9 148 [(7, .int l7)] [] (ke148 l7)) : ∀ (n : Nat) (l1 : Int32) (l2 : Int64) (l4 : Int64) (l6 : Int32) (l7 : Int32) (l8 : Int32), Sm g 9 57 [(0, .ref g.1.2.2.2.2.2), (1, .int l1), (2, .long l2), (4, .long l4), (6, .int l6), (7, .int l7), (8, .int l8)] [] (R_feed_L57 ke148 n l1 l2 l4 l6 l7 l8)
  | 0, _, _, _, _, _, _ => Sm.fail
  | n + 1, l1, l2, l4, l6, l7, l8 => sm_feed_B57 B (sm_feed_L57 B hke148 n) hke148 l1 l2 l4 l6 l7 l8
def R_feed_J43 (l1 : Int32) (l2 : Int64) (l4 : Int64) (l6 : Int32) (s1 : Int32) : RS → Option (Int32 × RS) :=
  bd (R_refuses s1) fun r6 =>
  if r6 = 0 then (
    R_feed_L57 (fun l7 => R_feed_J148 l7) fu l1 l2 l4 l6 (0 : Int32) (0 : Int32)
  ) else (
    rt ((0 : Int32))
  )
set_option maxRecDepth 10000 in
theorem sm_feed_J43 {g : Gm RS Int32} (B : Br g cX12_feed 9 voI (some .int) 12 316) (l1 : Int32) (l2 : Int64) (l4 : Int64) (l6 : Int32) (s1 : Int32) : Sm g 9 43 [(0, .ref g.1.2.2.2.2.2), (1, .int l1), (2, .long l2), (4, .long l4), (6, .int l6)] [.int s1, .ref g.1.2.2.2.2.2] (R_feed_J43 l1 l2 l4 l6 s1) := by
  unfold R_feed_J43
  refine rr_cvi (As := [.int s1]) (st := []) B (m_refuses B.ok s1) mc_refuses ml_refuses mi_refuses me_refuses ini12 md_refuses (by decide) rfl (Nat.le_of_ble_eq_true rfl) dX12_feed_43 (fun r6 => ?_)
  refine s_if_eq B.1 51 dX12_feed_46 (by decide) ?_ ?_
  · refine s_iconst (v := 0) B.1 dX12_feed_51 (by decide) ?_
    refine s_istore (lv' := [(7, .int (0 : Int32)), (0, .ref g.1.2.2.2.2.2), (1, .int l1), (2, .long l2), (4, .long l4), (6, .int l6)]) B.1 dX12_feed_52 (by decide) rfl ?_
    refine s_iconst (v := 0) B.1 dX12_feed_54 (by decide) ?_
    refine s_istore (lv' := [(8, .int (0 : Int32)), (7, .int (0 : Int32)), (0, .ref g.1.2.2.2.2.2), (1, .int l1), (2, .long l2), (4, .long l4), (6, .int l6)]) B.1 dX12_feed_55 (by decide) rfl ?_
    exact Sm.lvs [2, 3, 4, 5, 6, 1, 0] rfl (sm_feed_L57 B (fun l7 => sm_feed_J148 B l7) fu l1 l2 l4 l6 (0 : Int32) (0 : Int32))
  · refine s_iconst (v := 0) B.1 dX12_feed_49 (by decide) ?_
    exact s_iret B.1 B.2.1 dX12_feed_50
def R_feed_J25 (l1 : Int32) (l2 : Int64) (l4 : Int64) (l6 : Int32) : RS → Option (Int32 × RS) :=
  R_feed_J43 l1 l2 l4 l6 (2 : Int32)
set_option maxRecDepth 10000 in
theorem sm_feed_J25 {g : Gm RS Int32} (B : Br g cX12_feed 9 voI (some .int) 12 316) (l1 : Int32) (l2 : Int64) (l4 : Int64) (l6 : Int32) : Sm g 9 25 [(0, .ref g.1.2.2.2.2.2), (1, .int l1), (2, .long l2), (4, .long l4), (6, .int l6)] [.ref g.1.2.2.2.2.2] (R_feed_J25 l1 l2 l4 l6) := by
  unfold R_feed_J25
  refine s_iconst (v := 2) B.1 dX12_feed_25 (by decide) ?_
  refine s_goto B.1 43 dX12_feed_26 (by decide) ?_
  exact Sm.lvs [0, 1, 2, 3, 4] rfl (sm_feed_J43 B l1 l2 l4 l6 (2 : Int32))
def R_feed (l1 : Int32) (l2 : Int64) (l4 : Int64) (l6 : Int32) : RS → Option (Int32 × RS) :=
  bd (R_isConnection l1) fun r7 =>
  if r7 = 0 then (
    R_feed_J43 l1 l2 l4 l6 (1 : Int32)
  ) else (
    if l6 < (1 : Int32) then (
      R_feed_J25 l1 l2 l4 l6
    ) else (
      if l6 ≤ (16 : Int32) then (
        rA 1 l1 fun v8 =>
        if v8 = 0 then (
          R_feed_J43 l1 l2 l4 l6 (3 : Int32)
        ) else (
          R_feed_J43 l1 l2 l4 l6 (0 : Int32)
        )
      ) else (
        R_feed_J25 l1 l2 l4 l6
      )
    )
  )
set_option maxRecDepth 10000 in
theorem m_feed {w : Wd} (hw : Wok w) (l1 : Int32) (l2 : Int64) (l4 : Int64) (l6 : Int32) : MR w yX12_feed cX12_feed 9 (some .int) 12 316 voI [.ref w.2.2.2.2.2, .int l1, .long l2, .long l4, .int l6] (R_feed l1 l2 l4 l6) := by
  refine MR.of hw rfl (Nat.le_of_ble_eq_true rfl) (fun g hg B => ?_)
  subst hg
  unfold R_feed
  show Sm g 9 0 [(0, .ref g.1.2.2.2.2.2), (1, .int l1), (2, .long l2), (4, .long l4), (6, .int l6)] [] _
  refine s_aload_n B.1 0 dX12_feed_0 rfl rfl ?_
  refine s_iload_n B.1 1 dX12_feed_1 rfl rfl ?_
  refine rr_csi (As := [.int l1]) (st := [.ref g.1.2.2.2.2.2]) B (m_isConnection B.ok l1) mc_isConnection ml_isConnection ms_isConnection ini12 md_isConnection (by decide) rfl (Nat.le_of_ble_eq_true rfl) dX12_feed_2 (fun r7 => ?_)
  refine s_if_ne B.1 12 dX12_feed_5 (by decide) ?_ ?_
  · refine s_iload B.1 4 dX12_feed_12 rfl ?_
    refine s_iconst (v := 1) B.1 dX12_feed_14 (by decide) ?_
    refine s_icmp_lt B.1 25 dX12_feed_15 (by decide) ?_ ?_
    · exact Sm.lvs [0, 1, 2, 3, 4] rfl (sm_feed_J25 B l1 l2 l4 l6)
    · refine s_iload B.1 4 dX12_feed_18 rfl ?_
      refine s_bipush (v := (16)) B.1 dX12_feed_20 (by decide) ?_
      refine s_icmp_le B.1 29 dX12_feed_22 (by decide) ?_ ?_
      · refine s_aload_n B.1 0 dX12_feed_29 rfl rfl ?_
        refine rr_getA B 1 mh_1 mn_1 mf_1 dX12_feed_30 ?_
        refine s_iload_n B.1 1 dX12_feed_33 rfl rfl ?_
        refine rr_zald B 1 mh_1 mk_1 dX12_feed_34 (fun v8 => ?_)
        refine s_if_ne B.1 42 dX12_feed_35 (by decide) ?_ ?_
        · refine s_iconst (v := 0) B.1 dX12_feed_42 (by decide) ?_
          exact Sm.lvs [0, 1, 2, 3, 4] rfl (sm_feed_J43 B l1 l2 l4 l6 (0 : Int32))
        · refine s_iconst (v := 3) B.1 dX12_feed_38 (by decide) ?_
          refine s_goto B.1 43 dX12_feed_39 (by decide) ?_
          exact Sm.lvs [0, 1, 2, 3, 4] rfl (sm_feed_J43 B l1 l2 l4 l6 (3 : Int32))
      · exact Sm.lvs [0, 1, 2, 3, 4] rfl (sm_feed_J25 B l1 l2 l4 l6)
  · refine s_iconst (v := 1) B.1 dX12_feed_8 (by decide) ?_
    refine s_goto B.1 43 dX12_feed_9 (by decide) ?_
    exact Sm.lvs [0, 1, 2, 3, 4] rfl (sm_feed_J43 B l1 l2 l4 l6 (1 : Int32))
def R_lose_J26 (l1 : Int32) (s1 : Int32) : RS → Option (Unit × RS) :=
  bd (R_refuses s1) fun r1 =>
  if r1 = 0 then (
    bd (R_lost l1) fun r2 =>
    bd (R_settle) fun r3 =>
    rt ()
  ) else (
    rt ()
  )
set_option maxRecDepth 10000 in
theorem sm_lose_J26 {g : Gm RS Unit} (B : Br g cX12_lose 2 voV none 10 243) (l1 : Int32) (s1 : Int32) : Sm g 2 26 [(0, .ref g.1.2.2.2.2.2), (1, .int l1)] [.int s1, .ref g.1.2.2.2.2.2] (R_lose_J26 l1 s1) := by
  unfold R_lose_J26
  refine rr_cvi (As := [.int s1]) (st := []) B (m_refuses B.ok s1) mc_refuses ml_refuses mi_refuses me_refuses ini12 md_refuses (by decide) rfl (Nat.le_of_ble_eq_true rfl) dX12_lose_26 (fun r1 => ?_)
  refine s_if_eq B.1 33 dX12_lose_29 (by decide) ?_ ?_
  · refine s_aload_n B.1 0 dX12_lose_33 rfl rfl ?_
    refine s_iload_n B.1 1 dX12_lose_34 rfl rfl ?_
    refine rr_cvv (As := [.int l1]) (st := []) B (m_lost B.ok l1) mc_lost ml_lost mi_lost me_lost ini12 md_lost (by decide) rfl (Nat.le_of_ble_eq_true rfl) dX12_lose_35 (fun r2 => ?_)
    refine s_aload_n B.1 0 dX12_lose_38 rfl rfl ?_
    refine rr_cvv (As := []) (st := []) B (m_settle B.ok) mc_settle ml_settle mi_settle me_settle ini12 md_settle (by decide) rfl (Nat.le_of_ble_eq_true rfl) dX12_lose_39 (fun r3 => ?_)
    exact s_vret B.1 B.2.1 dX12_lose_42
  · exact s_vret B.1 B.2.1 dX12_lose_32
def R_lose (l1 : Int32) : RS → Option (Unit × RS) :=
  bd (R_isConnection l1) fun r4 =>
  if r4 = 0 then (
    R_lose_J26 l1 (1 : Int32)
  ) else (
    rA 1 l1 fun v5 =>
    if v5 = 0 then (
      R_lose_J26 l1 (2 : Int32)
    ) else (
      R_lose_J26 l1 (0 : Int32)
    )
  )
set_option maxRecDepth 10000 in
theorem m_lose {w : Wd} (hw : Wok w) (l1 : Int32) : MR w yX12_lose cX12_lose 2 none 10 243 voV [.ref w.2.2.2.2.2, .int l1] (R_lose l1) := by
  refine MR.of hw rfl (Nat.le_of_ble_eq_true rfl) (fun g hg B => ?_)
  subst hg
  unfold R_lose
  show Sm g 2 0 [(0, .ref g.1.2.2.2.2.2), (1, .int l1)] [] _
  refine s_aload_n B.1 0 dX12_lose_0 rfl rfl ?_
  refine s_iload_n B.1 1 dX12_lose_1 rfl rfl ?_
  refine rr_csi (As := [.int l1]) (st := [.ref g.1.2.2.2.2.2]) B (m_isConnection B.ok l1) mc_isConnection ml_isConnection ms_isConnection ini12 md_isConnection (by decide) rfl (Nat.le_of_ble_eq_true rfl) dX12_lose_2 (fun r4 => ?_)
  refine s_if_ne B.1 12 dX12_lose_5 (by decide) ?_ ?_
  · refine s_aload_n B.1 0 dX12_lose_12 rfl rfl ?_
    refine rr_getA B 1 mh_1 mn_1 mf_1 dX12_lose_13 ?_
    refine s_iload_n B.1 1 dX12_lose_16 rfl rfl ?_
    refine rr_zald B 1 mh_1 mk_1 dX12_lose_17 (fun v5 => ?_)
    refine s_if_ne B.1 25 dX12_lose_18 (by decide) ?_ ?_
    · refine s_iconst (v := 0) B.1 dX12_lose_25 (by decide) ?_
      exact Sm.lvs [0, 1] rfl (sm_lose_J26 B l1 (0 : Int32))
    · refine s_iconst (v := 2) B.1 dX12_lose_21 (by decide) ?_
      refine s_goto B.1 26 dX12_lose_22 (by decide) ?_
      exact Sm.lvs [0, 1] rfl (sm_lose_J26 B l1 (2 : Int32))
  · refine s_iconst (v := 1) B.1 dX12_lose_8 (by decide) ?_
    refine s_goto B.1 26 dX12_lose_9 (by decide) ?_
    exact Sm.lvs [0, 1] rfl (sm_lose_J26 B l1 (1 : Int32))
def R_isOpen_J13 (l1 : Int32) (s1 : Int32) : RS → Option (Int32 × RS) :=
  bd (R_refuses s1) fun r1 =>
  if r1 = 0 then (
    rA 1 l1 fun v2 =>
    if v2 = 0 then (
      zt ((0 : Int32))
    ) else (
      zt ((1 : Int32))
    )
  ) else (
    zt ((0 : Int32))
  )
set_option maxRecDepth 10000 in
theorem sm_isOpen_J13 {g : Gm RS Int32} (B : Br g cX12_isOpen 2 voI (some .boolean) 1 21) (l1 : Int32) (s1 : Int32) : Sm g 2 13 [(0, .ref g.1.2.2.2.2.2), (1, .int l1)] [.int s1, .ref g.1.2.2.2.2.2] (R_isOpen_J13 l1 s1) := by
  unfold R_isOpen_J13
  refine rr_cvi (As := [.int s1]) (st := []) B (m_refuses B.ok s1) mc_refuses ml_refuses mi_refuses me_refuses ini12 md_refuses (by decide) rfl (Nat.le_of_ble_eq_true rfl) dX12_isOpen_13 (fun r1 => ?_)
  refine s_if_ne B.1 32 dX12_isOpen_16 (by decide) ?_ ?_
  · refine s_iconst (v := 0) B.1 dX12_isOpen_32 (by decide) ?_
    exact s_zret B.1 B.2.1 dX12_isOpen_33
  · refine s_aload_n B.1 0 dX12_isOpen_19 rfl rfl ?_
    refine rr_getA B 1 mh_1 mn_1 mf_1 dX12_isOpen_20 ?_
    refine s_iload_n B.1 1 dX12_isOpen_23 rfl rfl ?_
    refine rr_zald B 1 mh_1 mk_1 dX12_isOpen_24 (fun v2 => ?_)
    refine s_if_eq B.1 32 dX12_isOpen_25 (by decide) ?_ ?_
    · refine s_iconst (v := 0) B.1 dX12_isOpen_32 (by decide) ?_
      exact s_zret B.1 B.2.1 dX12_isOpen_33
    · refine s_iconst (v := 1) B.1 dX12_isOpen_28 (by decide) ?_
      refine s_goto B.1 33 dX12_isOpen_29 (by decide) ?_
      exact s_zret B.1 B.2.1 dX12_isOpen_33
def R_isOpen (l1 : Int32) : RS → Option (Int32 × RS) :=
  bd (R_isConnection l1) fun r3 =>
  if r3 = 0 then (
    R_isOpen_J13 l1 (1 : Int32)
  ) else (
    R_isOpen_J13 l1 (0 : Int32)
  )
set_option maxRecDepth 10000 in
theorem m_isOpen {w : Wd} (hw : Wok w) (l1 : Int32) : MR w yX12_isOpen cX12_isOpen 2 (some .boolean) 1 21 voI [.ref w.2.2.2.2.2, .int l1] (R_isOpen l1) := by
  refine MR.of hw rfl (Nat.le_of_ble_eq_true rfl) (fun g hg B => ?_)
  subst hg
  unfold R_isOpen
  show Sm g 2 0 [(0, .ref g.1.2.2.2.2.2), (1, .int l1)] [] _
  refine s_aload_n B.1 0 dX12_isOpen_0 rfl rfl ?_
  refine s_iload_n B.1 1 dX12_isOpen_1 rfl rfl ?_
  refine rr_csi (As := [.int l1]) (st := [.ref g.1.2.2.2.2.2]) B (m_isConnection B.ok l1) mc_isConnection ml_isConnection ms_isConnection ini12 md_isConnection (by decide) rfl (Nat.le_of_ble_eq_true rfl) dX12_isOpen_2 (fun r3 => ?_)
  refine s_if_eq B.1 12 dX12_isOpen_5 (by decide) ?_ ?_
  · refine s_iconst (v := 1) B.1 dX12_isOpen_12 (by decide) ?_
    exact Sm.lvs [0, 1] rfl (sm_isOpen_J13 B l1 (1 : Int32))
  · refine s_iconst (v := 0) B.1 dX12_isOpen_8 (by decide) ?_
    refine s_goto B.1 13 dX12_isOpen_9 (by decide) ?_
    exact Sm.lvs [0, 1] rfl (sm_isOpen_J13 B l1 (0 : Int32))
def R_size_J13 (l1 : Int32) (s1 : Int32) : RS → Option (Int32 × RS) :=
  bd (R_refuses s1) fun r1 =>
  if r1 = 0 then (
    rA 3 l1 fun v2 =>
    rt (v2)
  ) else (
    rt ((0 : Int32))
  )
set_option maxRecDepth 10000 in
theorem sm_size_J13 {g : Gm RS Int32} (B : Br g cX12_size 2 voI (some .int) 1 21) (l1 : Int32) (s1 : Int32) : Sm g 2 13 [(0, .ref g.1.2.2.2.2.2), (1, .int l1)] [.int s1, .ref g.1.2.2.2.2.2] (R_size_J13 l1 s1) := by
  unfold R_size_J13
  refine rr_cvi (As := [.int s1]) (st := []) B (m_refuses B.ok s1) mc_refuses ml_refuses mi_refuses me_refuses ini12 md_refuses (by decide) rfl (Nat.le_of_ble_eq_true rfl) dX12_size_13 (fun r1 => ?_)
  refine s_if_eq B.1 23 dX12_size_16 (by decide) ?_ ?_
  · refine s_aload_n B.1 0 dX12_size_23 rfl rfl ?_
    refine rr_getA B 3 mh_3 mn_3 mf_3 dX12_size_24 ?_
    refine s_iload_n B.1 1 dX12_size_27 rfl rfl ?_
    refine rr_iald B 3 mh_3 mk_3 dX12_size_28 (fun v2 => ?_)
    exact s_iret B.1 B.2.1 dX12_size_29
  · refine s_iconst (v := 0) B.1 dX12_size_19 (by decide) ?_
    refine s_goto B.1 29 dX12_size_20 (by decide) ?_
    exact s_iret B.1 B.2.1 dX12_size_29
def R_size (l1 : Int32) : RS → Option (Int32 × RS) :=
  bd (R_isConnection l1) fun r3 =>
  if r3 = 0 then (
    R_size_J13 l1 (1 : Int32)
  ) else (
    R_size_J13 l1 (0 : Int32)
  )
set_option maxRecDepth 10000 in
theorem m_size {w : Wd} (hw : Wok w) (l1 : Int32) : MR w yX12_size cX12_size 2 (some .int) 1 21 voI [.ref w.2.2.2.2.2, .int l1] (R_size l1) := by
  refine MR.of hw rfl (Nat.le_of_ble_eq_true rfl) (fun g hg B => ?_)
  subst hg
  unfold R_size
  show Sm g 2 0 [(0, .ref g.1.2.2.2.2.2), (1, .int l1)] [] _
  refine s_aload_n B.1 0 dX12_size_0 rfl rfl ?_
  refine s_iload_n B.1 1 dX12_size_1 rfl rfl ?_
  refine rr_csi (As := [.int l1]) (st := [.ref g.1.2.2.2.2.2]) B (m_isConnection B.ok l1) mc_isConnection ml_isConnection ms_isConnection ini12 md_isConnection (by decide) rfl (Nat.le_of_ble_eq_true rfl) dX12_size_2 (fun r3 => ?_)
  refine s_if_eq B.1 12 dX12_size_5 (by decide) ?_ ?_
  · refine s_iconst (v := 1) B.1 dX12_size_12 (by decide) ?_
    exact Sm.lvs [0, 1] rfl (sm_size_J13 B l1 (1 : Int32))
  · refine s_iconst (v := 0) B.1 dX12_size_8 (by decide) ?_
    refine s_goto B.1 13 dX12_size_9 (by decide) ?_
    exact Sm.lvs [0, 1] rfl (sm_size_J13 B l1 (0 : Int32))
def R_out_J13 (l1 : Int32) (l2 : Int32) (s1 : Int32) : RS → Option (Int32 × RS) :=
  bd (R_refuses s1) fun r1 =>
  if r1 = 0 then (
    if l2 < 0 then (
      rt ((-1 : Int32))
    ) else (
      rA 3 l1 fun v2 =>
      if v2 ≤ l2 then (
        rt ((-1 : Int32))
      ) else (
        rA 4 (((2000 : Int32) * l1) + l2) fun v3 =>
        rt (v3 &&& (255 : Int32))
      )
    )
  ) else (
    rt ((0 : Int32))
  )
set_option maxRecDepth 10000 in
theorem sm_out_J13 {g : Gm RS Int32} (B : Br g cX12_out 3 voI (some .int) 1 21) (l1 : Int32) (l2 : Int32) (s1 : Int32) : Sm g 3 13 [(0, .ref g.1.2.2.2.2.2), (1, .int l1), (2, .int l2)] [.int s1, .ref g.1.2.2.2.2.2] (R_out_J13 l1 l2 s1) := by
  unfold R_out_J13
  refine rr_cvi (As := [.int s1]) (st := []) B (m_refuses B.ok s1) mc_refuses ml_refuses mi_refuses me_refuses ini12 md_refuses (by decide) rfl (Nat.le_of_ble_eq_true rfl) dX12_out_13 (fun r1 => ?_)
  refine s_if_eq B.1 21 dX12_out_16 (by decide) ?_ ?_
  · refine s_iload_n B.1 2 dX12_out_21 rfl rfl ?_
    refine s_if_lt B.1 54 dX12_out_22 (by decide) ?_ ?_
    · refine s_iconst (v := (-1)) B.1 dX12_out_54 (by decide) ?_
      exact s_iret B.1 B.2.1 dX12_out_55
    · refine s_iload_n B.1 2 dX12_out_25 rfl rfl ?_
      refine s_aload_n B.1 0 dX12_out_26 rfl rfl ?_
      refine rr_getA B 3 mh_3 mn_3 mf_3 dX12_out_27 ?_
      refine s_iload_n B.1 1 dX12_out_30 rfl rfl ?_
      refine rr_iald B 3 mh_3 mk_3 dX12_out_31 (fun v2 => ?_)
      refine s_icmp_ge B.1 54 dX12_out_32 (by decide) ?_ ?_
      · refine s_iconst (v := (-1)) B.1 dX12_out_54 (by decide) ?_
        exact s_iret B.1 B.2.1 dX12_out_55
      · refine s_aload_n B.1 0 dX12_out_35 rfl rfl ?_
        refine rr_getA B 4 mh_4 mn_4 mf_4 dX12_out_36 ?_
        refine s_sipush (v := (2000)) B.1 dX12_out_39 (by decide) ?_
        refine s_iload_n B.1 1 dX12_out_42 rfl rfl ?_
        refine s_imul B.1 dX12_out_43 ?_
        refine s_iload_n B.1 2 dX12_out_44 rfl rfl ?_
        refine s_iadd B.1 dX12_out_45 ?_
        refine rr_bald B 4 mh_4 mk_4 dX12_out_46 (fun v3 => ?_)
        refine s_sipush (v := (255)) B.1 dX12_out_47 (by decide) ?_
        refine s_iand B.1 dX12_out_50 ?_
        refine s_goto B.1 55 dX12_out_51 (by decide) ?_
        exact s_iret B.1 B.2.1 dX12_out_55
  · refine s_iconst (v := 0) B.1 dX12_out_19 (by decide) ?_
    exact s_iret B.1 B.2.1 dX12_out_20
def R_out (l1 : Int32) (l2 : Int32) : RS → Option (Int32 × RS) :=
  bd (R_isConnection l1) fun r4 =>
  if r4 = 0 then (
    R_out_J13 l1 l2 (1 : Int32)
  ) else (
    R_out_J13 l1 l2 (0 : Int32)
  )
set_option maxRecDepth 10000 in
theorem m_out {w : Wd} (hw : Wok w) (l1 : Int32) (l2 : Int32) : MR w yX12_out cX12_out 3 (some .int) 1 21 voI [.ref w.2.2.2.2.2, .int l1, .int l2] (R_out l1 l2) := by
  refine MR.of hw rfl (Nat.le_of_ble_eq_true rfl) (fun g hg B => ?_)
  subst hg
  unfold R_out
  show Sm g 3 0 [(0, .ref g.1.2.2.2.2.2), (1, .int l1), (2, .int l2)] [] _
  refine s_aload_n B.1 0 dX12_out_0 rfl rfl ?_
  refine s_iload_n B.1 1 dX12_out_1 rfl rfl ?_
  refine rr_csi (As := [.int l1]) (st := [.ref g.1.2.2.2.2.2]) B (m_isConnection B.ok l1) mc_isConnection ml_isConnection ms_isConnection ini12 md_isConnection (by decide) rfl (Nat.le_of_ble_eq_true rfl) dX12_out_2 (fun r4 => ?_)
  refine s_if_eq B.1 12 dX12_out_5 (by decide) ?_ ?_
  · refine s_iconst (v := 1) B.1 dX12_out_12 (by decide) ?_
    exact Sm.lvs [0, 1, 2] rfl (sm_out_J13 B l1 l2 (1 : Int32))
  · refine s_iconst (v := 0) B.1 dX12_out_8 (by decide) ?_
    refine s_goto B.1 13 dX12_out_9 (by decide) ?_
    exact Sm.lvs [0, 1, 2] rfl (sm_out_J13 B l1 l2 (0 : Int32))
def R_take_J88 (l1 : Int32) (l3 : Int32) : RS → Option (Int32 × RS) :=
  rA 3 l1 fun v1 =>
  wA 3 l1 (v1 - l3) <|
  rA 3 l1 fun v2 =>
  rt (v2)
set_option maxRecDepth 10000 in
theorem sm_take_J88 {g : Gm RS Int32} (B : Br g cX12_take 5 voI (some .int) 1 23) (l1 : Int32) (l3 : Int32) : Sm g 5 88 [(0, .ref g.1.2.2.2.2.2), (1, .int l1), (3, .int l3)] [] (R_take_J88 l1 l3) := by
  unfold R_take_J88
  refine s_aload_n B.1 0 dX12_take_88 rfl rfl ?_
  refine rr_getA B 3 mh_3 mn_3 mf_3 dX12_take_89 ?_
  refine s_iload_n B.1 1 dX12_take_92 rfl rfl ?_
  refine s_dup2 B.1 dX12_take_93 rfl rfl ?_
  refine rr_iald B 3 mh_3 mk_3 dX12_take_94 (fun v1 => ?_)
  refine s_iload_n B.1 2 dX12_take_95 rfl rfl ?_
  refine s_isub B.1 dX12_take_96 ?_
  refine rr_iast B 3 mh_3 mk_3 dX12_take_97 ?_
  refine s_aload_n B.1 0 dX12_take_98 rfl rfl ?_
  refine rr_getA B 3 mh_3 mn_3 mf_3 dX12_take_99 ?_
  refine s_iload_n B.1 1 dX12_take_102 rfl rfl ?_
  refine rr_iald B 3 mh_3 mk_3 dX12_take_103 (fun v2 => ?_)
  exact s_iret B.1 B.2.1 dX12_take_104
def R_take_B43 (kb : Int32 → Int32 → Int32 → RS → Option (Int32 × RS)) (ke88 : Int32 → Int32 → RS → Option (Int32 × RS)) (l1 : Int32) (l3 : Int32) (l4 : Int32) : RS → Option (Int32 × RS) :=
  rA 3 l1 fun v3 =>
  if v3 ≤ l4 then (
    ke88 l1 l3
  ) else (
    rA 4 (((2000 : Int32) * l1) + l4) fun v4 =>
    wA 4 ((((2000 : Int32) * l1) + l4) - l3) (vp_nar .byte v4) <|
    kb l1 l3 (l4 + 1)
  )
def R_take_L43 (ke88 : Int32 → Int32 → RS → Option (Int32 × RS)) : Nat → Int32 → Int32 → Int32 → RS → Option (Int32 × RS)
  | 0, _, _, _ => no
  | n + 1, l1, l3, l4 => R_take_B43 (fun l1 l3 l4 => R_take_L43 ke88 n l1 l3 l4) ke88 l1 l3 l4
set_option maxRecDepth 10000 in
theorem sm_take_B43 {g : Gm RS Int32} {kb : Int32 → Int32 → Int32 → RS → Option (Int32 × RS)} {ke88 : Int32 → Int32 → RS → Option (Int32 × RS)} (B : Br g cX12_take 5 voI (some .int) 1 23) (hkb : ∀ (l1 : Int32) (l3 : Int32) (l4 : Int32), Sm g 5 43 [(0, .ref g.1.2.2.2.2.2), (1, .int l1), (3, .int l3), (4, .int l4)] [] (kb l1 l3 l4)) (hke88 : ∀ (l1 : Int32) (l3 : Int32), Sm g 5 88 [(0, .ref g.1.2.2.2.2.2), (1, .int l1), (3, .int l3)] [] (ke88 l1 l3)) (l1 : Int32) (l3 : Int32) (l4 : Int32) : Sm g 5 43 [(0, .ref g.1.2.2.2.2.2), (1, .int l1), (3, .int l3), (4, .int l4)] [] (R_take_B43 kb ke88 l1 l3 l4) := by
  unfold R_take_B43
  refine s_iload B.1 3 dX12_take_43 rfl ?_
  refine s_aload_n B.1 0 dX12_take_45 rfl rfl ?_
  refine rr_getA B 3 mh_3 mn_3 mf_3 dX12_take_46 ?_
  refine s_iload_n B.1 1 dX12_take_49 rfl rfl ?_
  refine rr_iald B 3 mh_3 mk_3 dX12_take_50 (fun v3 => ?_)
  refine s_icmp_ge B.1 88 dX12_take_51 (by decide) ?_ ?_
  · exact Sm.lvs [0, 1, 2] rfl (hke88 l1 l3)
  · refine s_aload_n B.1 0 dX12_take_54 rfl rfl ?_
    refine rr_getA B 4 mh_4 mn_4 mf_4 dX12_take_55 ?_
    refine s_sipush (v := (2000)) B.1 dX12_take_58 (by decide) ?_
    refine s_iload_n B.1 1 dX12_take_61 rfl rfl ?_
    refine s_imul B.1 dX12_take_62 ?_
    refine s_iload B.1 3 dX12_take_63 rfl ?_
    refine s_iadd B.1 dX12_take_65 ?_
    refine s_iload_n B.1 2 dX12_take_66 rfl rfl ?_
    refine s_isub B.1 dX12_take_67 ?_
    refine s_aload_n B.1 0 dX12_take_68 rfl rfl ?_
    refine rr_getA B 4 mh_4 mn_4 mf_4 dX12_take_69 ?_
    refine s_sipush (v := (2000)) B.1 dX12_take_72 (by decide) ?_
    refine s_iload_n B.1 1 dX12_take_75 rfl rfl ?_
    refine s_imul B.1 dX12_take_76 ?_
    refine s_iload B.1 3 dX12_take_77 rfl ?_
    refine s_iadd B.1 dX12_take_79 ?_
    refine rr_bald B 4 mh_4 mk_4 dX12_take_80 (fun v4 => ?_)
    refine rr_bast B 4 mh_4 mk_4 dX12_take_81 ?_
    refine s_iinc (v := l4 + 1) (lv' := [(4, .int (l4 + 1)), (0, .ref g.1.2.2.2.2.2), (1, .int l1), (3, .int l3)]) B.1 3 dX12_take_82 rfl rfl (by decide) rfl ?_
    refine s_goto B.1 43 dX12_take_85 (by decide) ?_
    exact Sm.lvs [1, 2, 3, 0] rfl (hkb l1 l3 (l4 + 1))
set_option maxRecDepth 10000 in
theorem sm_take_L43 {g : Gm RS Int32} {ke88 : Int32 → Int32 → RS → Option (Int32 × RS)} (B : Br g cX12_take 5 voI (some .int) 1 23) (hke88 : ∀ (l1 : Int32) (l3 : Int32), Sm g 5 88 [(0, .ref g.1.2.2.2.2.2), (1, .int l1), (3, .int l3)] [] (ke88 l1 l3)) : ∀ (n : Nat) (l1 : Int32) (l3 : Int32) (l4 : Int32), Sm g 5 43 [(0, .ref g.1.2.2.2.2.2), (1, .int l1), (3, .int l3), (4, .int l4)] [] (R_take_L43 ke88 n l1 l3 l4)
  | 0, _, _, _ => Sm.fail
  | n + 1, l1, l3, l4 => sm_take_B43 B (sm_take_L43 B hke88 n) hke88 l1 l3 l4
def R_take_J21 (l1 : Int32) (l2 : Int32) (s1 : Int32) : RS → Option (Int32 × RS) :=
  bd (R_refuses s1) fun r5 =>
  if r5 = 0 then (
    rA 3 l1 fun v6 =>
    lq (imin l2 v6) fun x7 =>
    R_take_L43 (fun l1 l3 => R_take_J88 l1 l3) fu l1 x7 x7
  ) else (
    rt ((0 : Int32))
  )
set_option maxRecDepth 10000 in
theorem sm_take_J21 {g : Gm RS Int32} (B : Br g cX12_take 5 voI (some .int) 1 23) (l1 : Int32) (l2 : Int32) (s1 : Int32) : Sm g 5 21 [(0, .ref g.1.2.2.2.2.2), (1, .int l1), (2, .int l2)] [.int s1, .ref g.1.2.2.2.2.2] (R_take_J21 l1 l2 s1) := by
  unfold R_take_J21
  refine rr_cvi (As := [.int s1]) (st := []) B (m_refuses B.ok s1) mc_refuses ml_refuses mi_refuses me_refuses ini12 md_refuses (by decide) rfl (Nat.le_of_ble_eq_true rfl) dX12_take_21 (fun r5 => ?_)
  refine s_if_eq B.1 29 dX12_take_24 (by decide) ?_ ?_
  · refine s_iload_n B.1 2 dX12_take_29 rfl rfl ?_
    refine s_aload_n B.1 0 dX12_take_30 rfl rfl ?_
    refine rr_getA B 3 mh_3 mn_3 mf_3 dX12_take_31 ?_
    refine s_iload_n B.1 1 dX12_take_34 rfl rfl ?_
    refine rr_iald B 3 mh_3 mk_3 dX12_take_35 (fun v6 => ?_)
    refine s_mmin B.1 B.2.1.fx tw_1978 (by decide) (Nat.le_of_ble_eq_true rfl) dX12_take_36 ?_
    refine s_lqi (fun x7 => ?_)
    refine s_istore_n (lv' := [(3, .int x7), (0, .ref g.1.2.2.2.2.2), (1, .int l1), (2, .int l2)]) B.1 dX12_take_39 rfl (by decide) rfl ?_
    refine s_iload_n B.1 0 dX12_take_40 rfl rfl ?_
    refine s_istore (lv' := [(4, .int x7), (3, .int x7), (0, .ref g.1.2.2.2.2.2), (1, .int l1), (2, .int l2)]) B.1 dX12_take_41 (by decide) rfl ?_
    exact Sm.lvs [2, 3, 1, 0] rfl (sm_take_L43 B (fun l1 l3 => sm_take_J88 B l1 l3) fu l1 x7 x7)
  · refine s_iconst (v := 0) B.1 dX12_take_27 (by decide) ?_
    exact s_iret B.1 B.2.1 dX12_take_28
def R_take (l1 : Int32) (l2 : Int32) : RS → Option (Int32 × RS) :=
  bd (R_isConnection l1) fun r8 =>
  if r8 = 0 then (
    R_take_J21 l1 l2 (1 : Int32)
  ) else (
    if 0 ≤ l2 then (
      R_take_J21 l1 l2 (0 : Int32)
    ) else (
      R_take_J21 l1 l2 (2 : Int32)
    )
  )
set_option maxRecDepth 10000 in
theorem m_take {w : Wd} (hw : Wok w) (l1 : Int32) (l2 : Int32) : MR w yX12_take cX12_take 5 (some .int) 1 23 voI [.ref w.2.2.2.2.2, .int l1, .int l2] (R_take l1 l2) := by
  refine MR.of hw rfl (Nat.le_of_ble_eq_true rfl) (fun g hg B => ?_)
  subst hg
  unfold R_take
  show Sm g 5 0 [(0, .ref g.1.2.2.2.2.2), (1, .int l1), (2, .int l2)] [] _
  refine s_aload_n B.1 0 dX12_take_0 rfl rfl ?_
  refine s_iload_n B.1 1 dX12_take_1 rfl rfl ?_
  refine rr_csi (As := [.int l1]) (st := [.ref g.1.2.2.2.2.2]) B (m_isConnection B.ok l1) mc_isConnection ml_isConnection ms_isConnection ini12 md_isConnection (by decide) rfl (Nat.le_of_ble_eq_true rfl) dX12_take_2 (fun r8 => ?_)
  refine s_if_ne B.1 12 dX12_take_5 (by decide) ?_ ?_
  · refine s_iload_n B.1 2 dX12_take_12 rfl rfl ?_
    refine s_if_ge B.1 20 dX12_take_13 (by decide) ?_ ?_
    · refine s_iconst (v := 0) B.1 dX12_take_20 (by decide) ?_
      exact Sm.lvs [0, 1, 2] rfl (sm_take_J21 B l1 l2 (0 : Int32))
    · refine s_iconst (v := 2) B.1 dX12_take_16 (by decide) ?_
      refine s_goto B.1 21 dX12_take_17 (by decide) ?_
      exact Sm.lvs [0, 1, 2] rfl (sm_take_J21 B l1 l2 (2 : Int32))
  · refine s_iconst (v := 1) B.1 dX12_take_8 (by decide) ?_
    refine s_goto B.1 21 dX12_take_9 (by decide) ?_
    exact Sm.lvs [0, 1, 2] rfl (sm_take_J21 B l1 l2 (1 : Int32))
def R_pending_J13 (l1 : Int32) (s1 : Int32) : RS → Option (Int32 × RS) :=
  bd (R_refuses s1) fun r1 =>
  if r1 = 0 then (
    rA 5 l1 fun v2 =>
    rt (v2)
  ) else (
    rt ((0 : Int32))
  )
set_option maxRecDepth 10000 in
theorem sm_pending_J13 {g : Gm RS Int32} (B : Br g cX12_pending 2 voI (some .int) 1 21) (l1 : Int32) (s1 : Int32) : Sm g 2 13 [(0, .ref g.1.2.2.2.2.2), (1, .int l1)] [.int s1, .ref g.1.2.2.2.2.2] (R_pending_J13 l1 s1) := by
  unfold R_pending_J13
  refine rr_cvi (As := [.int s1]) (st := []) B (m_refuses B.ok s1) mc_refuses ml_refuses mi_refuses me_refuses ini12 md_refuses (by decide) rfl (Nat.le_of_ble_eq_true rfl) dX12_pending_13 (fun r1 => ?_)
  refine s_if_eq B.1 23 dX12_pending_16 (by decide) ?_ ?_
  · refine s_aload_n B.1 0 dX12_pending_23 rfl rfl ?_
    refine rr_getA B 5 mh_5 mn_5 mf_5 dX12_pending_24 ?_
    refine s_iload_n B.1 1 dX12_pending_27 rfl rfl ?_
    refine rr_iald B 5 mh_5 mk_5 dX12_pending_28 (fun v2 => ?_)
    exact s_iret B.1 B.2.1 dX12_pending_29
  · refine s_iconst (v := 0) B.1 dX12_pending_19 (by decide) ?_
    refine s_goto B.1 29 dX12_pending_20 (by decide) ?_
    exact s_iret B.1 B.2.1 dX12_pending_29
def R_pending (l1 : Int32) : RS → Option (Int32 × RS) :=
  bd (R_isConnection l1) fun r3 =>
  if r3 = 0 then (
    R_pending_J13 l1 (1 : Int32)
  ) else (
    R_pending_J13 l1 (0 : Int32)
  )
set_option maxRecDepth 10000 in
theorem m_pending {w : Wd} (hw : Wok w) (l1 : Int32) : MR w yX12_pending cX12_pending 2 (some .int) 1 21 voI [.ref w.2.2.2.2.2, .int l1] (R_pending l1) := by
  refine MR.of hw rfl (Nat.le_of_ble_eq_true rfl) (fun g hg B => ?_)
  subst hg
  unfold R_pending
  show Sm g 2 0 [(0, .ref g.1.2.2.2.2.2), (1, .int l1)] [] _
  refine s_aload_n B.1 0 dX12_pending_0 rfl rfl ?_
  refine s_iload_n B.1 1 dX12_pending_1 rfl rfl ?_
  refine rr_csi (As := [.int l1]) (st := [.ref g.1.2.2.2.2.2]) B (m_isConnection B.ok l1) mc_isConnection ml_isConnection ms_isConnection ini12 md_isConnection (by decide) rfl (Nat.le_of_ble_eq_true rfl) dX12_pending_2 (fun r3 => ?_)
  refine s_if_eq B.1 12 dX12_pending_5 (by decide) ?_ ?_
  · refine s_iconst (v := 1) B.1 dX12_pending_12 (by decide) ?_
    exact Sm.lvs [0, 1] rfl (sm_pending_J13 B l1 (1 : Int32))
  · refine s_iconst (v := 0) B.1 dX12_pending_8 (by decide) ?_
    refine s_goto B.1 13 dX12_pending_9 (by decide) ?_
    exact Sm.lvs [0, 1] rfl (sm_pending_J13 B l1 (0 : Int32))
def R_second_J233 : RS → Option (Unit × RS) :=
  bd (R_settle) fun r1 =>
  rt ()
set_option maxRecDepth 10000 in
theorem sm_second_J233 {g : Gm RS Unit} (B : Br g cX12_second 3 voV none 10 243) : Sm g 3 233 [(0, .ref g.1.2.2.2.2.2)] [] (R_second_J233) := by
  unfold R_second_J233
  refine s_aload_n B.1 0 dX12_second_233 rfl rfl ?_
  refine rr_cvv (As := []) (st := []) B (m_settle B.ok) mc_settle ml_settle mi_settle me_settle ini12 md_settle (by decide) rfl (Nat.le_of_ble_eq_true rfl) dX12_second_234 (fun r1 => ?_)
  exact s_vret B.1 B.2.1 dX12_second_237
def R_second_B172 (kb : Int32 → RS → Option (Unit × RS)) (ke233 : RS → Option (Unit × RS)) (l1 : Int32) : RS → Option (Unit × RS) :=
  if (12 : Int32) ≤ l1 then (
    ke233
  ) else (
    rA 11 l1 fun v2 =>
    if v2 = 0 then (
      kb (l1 + 1)
    ) else (
      rA 15 l1 fun v3 =>
      if 0 ≤ v3 then (
        kb (l1 + 1)
      ) else (
        rL 23 l1 fun v4 =>
        if (lg_cmp v4 (0 : Int64)) < 0 then (
          kb (l1 + 1)
        ) else (
          rL 23 l1 fun v5 =>
          rI 66 fun v6 =>
          if 0 < (lg_cmp v5 v6.toInt64) then (
            kb (l1 + 1)
          ) else (
            bd (R_ends l1) fun r7 =>
            kb (l1 + 1)
          )
        )
      )
    )
  )
def R_second_L172 (ke233 : RS → Option (Unit × RS)) : Nat → Int32 → RS → Option (Unit × RS)
  | 0, _ => no
  | n + 1, l1 => R_second_B172 (fun l1 => R_second_L172 ke233 n l1) ke233 l1
set_option maxRecDepth 10000 in
theorem sm_second_B172 {g : Gm RS Unit} {kb : Int32 → RS → Option (Unit × RS)} {ke233 : RS → Option (Unit × RS)} (B : Br g cX12_second 3 voV none 10 243) (hkb : ∀ (l1 : Int32), Sm g 3 172 [(0, .ref g.1.2.2.2.2.2), (1, .int l1)] [] (kb l1)) (hke233 : Sm g 3 233 [(0, .ref g.1.2.2.2.2.2)] [] (ke233)) (l1 : Int32) : Sm g 3 172 [(0, .ref g.1.2.2.2.2.2), (1, .int l1)] [] (R_second_B172 kb ke233 l1) := by
  unfold R_second_B172
  refine s_iload_n B.1 1 dX12_second_172 rfl rfl ?_
  refine s_bipush (v := (12)) B.1 dX12_second_173 (by decide) ?_
  refine s_icmp_ge B.1 233 dX12_second_175 (by decide) ?_ ?_
  · exact Sm.lvs [0] rfl (hke233)
  · refine s_aload_n B.1 0 dX12_second_178 rfl rfl ?_
    refine rr_getA B 11 mh_11 mn_11 mf_11 dX12_second_179 ?_
    refine s_iload_n B.1 1 dX12_second_182 rfl rfl ?_
    refine rr_zald B 11 mh_11 mk_11 dX12_second_183 (fun v2 => ?_)
    refine s_if_eq B.1 227 dX12_second_184 (by decide) ?_ ?_
    · refine s_iinc (v := l1 + 1) (lv' := [(1, .int (l1 + 1)), (0, .ref g.1.2.2.2.2.2)]) B.1 1 dX12_second_227 rfl rfl (by decide) rfl ?_
      refine s_goto B.1 172 dX12_second_230 (by decide) ?_
      exact Sm.lvs [1, 0] rfl (hkb (l1 + 1))
    · refine s_aload_n B.1 0 dX12_second_187 rfl rfl ?_
      refine rr_getA B 15 mh_15 mn_15 mf_15 dX12_second_188 ?_
      refine s_iload_n B.1 1 dX12_second_191 rfl rfl ?_
      refine rr_iald B 15 mh_15 mk_15 dX12_second_192 (fun v3 => ?_)
      refine s_if_ge B.1 227 dX12_second_193 (by decide) ?_ ?_
      · refine s_iinc (v := l1 + 1) (lv' := [(1, .int (l1 + 1)), (0, .ref g.1.2.2.2.2.2)]) B.1 1 dX12_second_227 rfl rfl (by decide) rfl ?_
        refine s_goto B.1 172 dX12_second_230 (by decide) ?_
        exact Sm.lvs [1, 0] rfl (hkb (l1 + 1))
      · refine s_aload_n B.1 0 dX12_second_196 rfl rfl ?_
        refine rr_getA B 23 mh_23 mn_23 mf_23 dX12_second_197 ?_
        refine s_iload_n B.1 1 dX12_second_200 rfl rfl ?_
        refine rr_lald B 23 mh_23 mk_23 dX12_second_201 (fun v4 => ?_)
        refine s_lconst (v := 0) B.1 dX12_second_202 (by decide) ?_
        refine s_lcmp B.1 dX12_second_203 ?_
        refine s_if_lt B.1 227 dX12_second_204 (by decide) ?_ ?_
        · refine s_iinc (v := l1 + 1) (lv' := [(1, .int (l1 + 1)), (0, .ref g.1.2.2.2.2.2)]) B.1 1 dX12_second_227 rfl rfl (by decide) rfl ?_
          refine s_goto B.1 172 dX12_second_230 (by decide) ?_
          exact Sm.lvs [1, 0] rfl (hkb (l1 + 1))
        · refine s_aload_n B.1 0 dX12_second_207 rfl rfl ?_
          refine rr_getA B 23 mh_23 mn_23 mf_23 dX12_second_208 ?_
          refine s_iload_n B.1 1 dX12_second_211 rfl rfl ?_
          refine rr_lald B 23 mh_23 mk_23 dX12_second_212 (fun v5 => ?_)
          refine s_aload_n B.1 0 dX12_second_213 rfl rfl ?_
          refine rr_getI B 66 mh_66 mk_66 mf_66 dX12_second_214 (fun v6 => ?_)
          refine s_i2l B.1 dX12_second_217 ?_
          refine s_lcmp B.1 dX12_second_218 ?_
          refine s_if_gt B.1 227 dX12_second_219 (by decide) ?_ ?_
          · refine s_iinc (v := l1 + 1) (lv' := [(1, .int (l1 + 1)), (0, .ref g.1.2.2.2.2.2)]) B.1 1 dX12_second_227 rfl rfl (by decide) rfl ?_
            refine s_goto B.1 172 dX12_second_230 (by decide) ?_
            exact Sm.lvs [1, 0] rfl (hkb (l1 + 1))
          · refine s_aload_n B.1 0 dX12_second_222 rfl rfl ?_
            refine s_iload_n B.1 1 dX12_second_223 rfl rfl ?_
            refine rr_cvv (As := [.int l1]) (st := []) B (m_ends B.ok l1) mc_ends ml_ends mi_ends me_ends ini12 md_ends (by decide) rfl (Nat.le_of_ble_eq_true rfl) dX12_second_224 (fun r7 => ?_)
            refine s_iinc (v := l1 + 1) (lv' := [(1, .int (l1 + 1)), (0, .ref g.1.2.2.2.2.2)]) B.1 1 dX12_second_227 rfl rfl (by decide) rfl ?_
            refine s_goto B.1 172 dX12_second_230 (by decide) ?_
            exact Sm.lvs [1, 0] rfl (hkb (l1 + 1))
set_option maxRecDepth 10000 in
theorem sm_second_L172 {g : Gm RS Unit} {ke233 : RS → Option (Unit × RS)} (B : Br g cX12_second 3 voV none 10 243) (hke233 : Sm g 3 233 [(0, .ref g.1.2.2.2.2.2)] [] (ke233)) : ∀ (n : Nat) (l1 : Int32), Sm g 3 172 [(0, .ref g.1.2.2.2.2.2), (1, .int l1)] [] (R_second_L172 ke233 n l1)
  | 0, _ => Sm.fail
  | n + 1, l1 => sm_second_B172 B (sm_second_L172 B hke233 n) hke233 l1
def R_second_J170 : RS → Option (Unit × RS) :=
  R_second_L172 (R_second_J233) fu (0 : Int32)
set_option maxRecDepth 10000 in
theorem sm_second_J170 {g : Gm RS Unit} (B : Br g cX12_second 3 voV none 10 243) : Sm g 3 170 [(0, .ref g.1.2.2.2.2.2)] [] (R_second_J170) := by
  unfold R_second_J170
  refine s_iconst (v := 0) B.1 dX12_second_170 (by decide) ?_
  refine s_istore_n (lv' := [(1, .int (0 : Int32)), (0, .ref g.1.2.2.2.2.2)]) B.1 dX12_second_171 rfl (by decide) rfl ?_
  exact Sm.lvs [1, 0] rfl (sm_second_L172 B (sm_second_J233 B) fu (0 : Int32))
def R_second_B111 (kb : Int32 → RS → Option (Unit × RS)) (ke170 : RS → Option (Unit × RS)) (l1 : Int32) : RS → Option (Unit × RS) :=
  if (12 : Int32) ≤ l1 then (
    ke170
  ) else (
    rA 11 l1 fun v8 =>
    if v8 = 0 then (
      kb (l1 + 1)
    ) else (
      rA 15 l1 fun v9 =>
      if 0 ≤ v9 then (
        kb (l1 + 1)
      ) else (
        rA 20 l1 fun v10 =>
        if v10 < 0 then (
          kb (l1 + 1)
        ) else (
          rL 22 l1 fun v11 =>
          rI 66 fun v12 =>
          if 0 < (lg_cmp v11 v12.toInt64) then (
            kb (l1 + 1)
          ) else (
            bd (R_comes l1) fun r13 =>
            kb (l1 + 1)
          )
        )
      )
    )
  )
def R_second_L111 (ke170 : RS → Option (Unit × RS)) : Nat → Int32 → RS → Option (Unit × RS)
  | 0, _ => no
  | n + 1, l1 => R_second_B111 (fun l1 => R_second_L111 ke170 n l1) ke170 l1
set_option maxRecDepth 10000 in
theorem sm_second_B111 {g : Gm RS Unit} {kb : Int32 → RS → Option (Unit × RS)} {ke170 : RS → Option (Unit × RS)} (B : Br g cX12_second 3 voV none 10 243) (hkb : ∀ (l1 : Int32), Sm g 3 111 [(0, .ref g.1.2.2.2.2.2), (1, .int l1)] [] (kb l1)) (hke170 : Sm g 3 170 [(0, .ref g.1.2.2.2.2.2)] [] (ke170)) (l1 : Int32) : Sm g 3 111 [(0, .ref g.1.2.2.2.2.2), (1, .int l1)] [] (R_second_B111 kb ke170 l1) := by
  unfold R_second_B111
  refine s_iload_n B.1 1 dX12_second_111 rfl rfl ?_
  refine s_bipush (v := (12)) B.1 dX12_second_112 (by decide) ?_
  refine s_icmp_ge B.1 170 dX12_second_114 (by decide) ?_ ?_
  · exact Sm.lvs [0] rfl (hke170)
  · refine s_aload_n B.1 0 dX12_second_117 rfl rfl ?_
    refine rr_getA B 11 mh_11 mn_11 mf_11 dX12_second_118 ?_
    refine s_iload_n B.1 1 dX12_second_121 rfl rfl ?_
    refine rr_zald B 11 mh_11 mk_11 dX12_second_122 (fun v8 => ?_)
    refine s_if_eq B.1 164 dX12_second_123 (by decide) ?_ ?_
    · refine s_iinc (v := l1 + 1) (lv' := [(1, .int (l1 + 1)), (0, .ref g.1.2.2.2.2.2)]) B.1 1 dX12_second_164 rfl rfl (by decide) rfl ?_
      refine s_goto B.1 111 dX12_second_167 (by decide) ?_
      exact Sm.lvs [1, 0] rfl (hkb (l1 + 1))
    · refine s_aload_n B.1 0 dX12_second_126 rfl rfl ?_
      refine rr_getA B 15 mh_15 mn_15 mf_15 dX12_second_127 ?_
      refine s_iload_n B.1 1 dX12_second_130 rfl rfl ?_
      refine rr_iald B 15 mh_15 mk_15 dX12_second_131 (fun v9 => ?_)
      refine s_if_ge B.1 164 dX12_second_132 (by decide) ?_ ?_
      · refine s_iinc (v := l1 + 1) (lv' := [(1, .int (l1 + 1)), (0, .ref g.1.2.2.2.2.2)]) B.1 1 dX12_second_164 rfl rfl (by decide) rfl ?_
        refine s_goto B.1 111 dX12_second_167 (by decide) ?_
        exact Sm.lvs [1, 0] rfl (hkb (l1 + 1))
      · refine s_aload_n B.1 0 dX12_second_135 rfl rfl ?_
        refine rr_getA B 20 mh_20 mn_20 mf_20 dX12_second_136 ?_
        refine s_iload_n B.1 1 dX12_second_139 rfl rfl ?_
        refine rr_iald B 20 mh_20 mk_20 dX12_second_140 (fun v10 => ?_)
        refine s_if_lt B.1 164 dX12_second_141 (by decide) ?_ ?_
        · refine s_iinc (v := l1 + 1) (lv' := [(1, .int (l1 + 1)), (0, .ref g.1.2.2.2.2.2)]) B.1 1 dX12_second_164 rfl rfl (by decide) rfl ?_
          refine s_goto B.1 111 dX12_second_167 (by decide) ?_
          exact Sm.lvs [1, 0] rfl (hkb (l1 + 1))
        · refine s_aload_n B.1 0 dX12_second_144 rfl rfl ?_
          refine rr_getA B 22 mh_22 mn_22 mf_22 dX12_second_145 ?_
          refine s_iload_n B.1 1 dX12_second_148 rfl rfl ?_
          refine rr_lald B 22 mh_22 mk_22 dX12_second_149 (fun v11 => ?_)
          refine s_aload_n B.1 0 dX12_second_150 rfl rfl ?_
          refine rr_getI B 66 mh_66 mk_66 mf_66 dX12_second_151 (fun v12 => ?_)
          refine s_i2l B.1 dX12_second_154 ?_
          refine s_lcmp B.1 dX12_second_155 ?_
          refine s_if_gt B.1 164 dX12_second_156 (by decide) ?_ ?_
          · refine s_iinc (v := l1 + 1) (lv' := [(1, .int (l1 + 1)), (0, .ref g.1.2.2.2.2.2)]) B.1 1 dX12_second_164 rfl rfl (by decide) rfl ?_
            refine s_goto B.1 111 dX12_second_167 (by decide) ?_
            exact Sm.lvs [1, 0] rfl (hkb (l1 + 1))
          · refine s_aload_n B.1 0 dX12_second_159 rfl rfl ?_
            refine s_iload_n B.1 1 dX12_second_160 rfl rfl ?_
            refine rr_cvv (As := [.int l1]) (st := []) B (m_comes B.ok l1) mc_comes ml_comes mi_comes me_comes ini12 md_comes (by decide) rfl (Nat.le_of_ble_eq_true rfl) dX12_second_161 (fun r13 => ?_)
            refine s_iinc (v := l1 + 1) (lv' := [(1, .int (l1 + 1)), (0, .ref g.1.2.2.2.2.2)]) B.1 1 dX12_second_164 rfl rfl (by decide) rfl ?_
            refine s_goto B.1 111 dX12_second_167 (by decide) ?_
            exact Sm.lvs [1, 0] rfl (hkb (l1 + 1))
set_option maxRecDepth 10000 in
theorem sm_second_L111 {g : Gm RS Unit} {ke170 : RS → Option (Unit × RS)} (B : Br g cX12_second 3 voV none 10 243) (hke170 : Sm g 3 170 [(0, .ref g.1.2.2.2.2.2)] [] (ke170)) : ∀ (n : Nat) (l1 : Int32), Sm g 3 111 [(0, .ref g.1.2.2.2.2.2), (1, .int l1)] [] (R_second_L111 ke170 n l1)
  | 0, _ => Sm.fail
  | n + 1, l1 => sm_second_B111 B (sm_second_L111 B hke170 n) hke170 l1
def R_second_J109 : RS → Option (Unit × RS) :=
  R_second_L111 (R_second_J170) fu (0 : Int32)
set_option maxRecDepth 10000 in
theorem sm_second_J109 {g : Gm RS Unit} (B : Br g cX12_second 3 voV none 10 243) : Sm g 3 109 [(0, .ref g.1.2.2.2.2.2)] [] (R_second_J109) := by
  unfold R_second_J109
  refine s_iconst (v := 0) B.1 dX12_second_109 (by decide) ?_
  refine s_istore_n (lv' := [(1, .int (0 : Int32)), (0, .ref g.1.2.2.2.2.2)]) B.1 dX12_second_110 rfl (by decide) rfl ?_
  exact Sm.lvs [1, 0] rfl (sm_second_L111 B (sm_second_J170 B) fu (0 : Int32))
def R_second_B12 (kb : Int32 → RS → Option (Unit × RS)) (ke109 : RS → Option (Unit × RS)) (l1 : Int32) : RS → Option (Unit × RS) :=
  if (8 : Int32) ≤ l1 then (
    ke109
  ) else (
    rA 1 l1 fun v14 =>
    if v14 = 0 then (
      kb (l1 + 1)
    ) else (
      rA 7 l1 fun v15 =>
      if 0 ≤ v15 then (
        rA 7 l1 fun v16 =>
        rA 19 v16 fun v17 =>
        if v17 = 0 then (
          kb (l1 + 1)
        ) else (
          rI 66 fun v18 =>
          rA 8 l1 fun v19 =>
          if 0 < (lg_cmp ((2 : Int64) * ((v18 - v19).toInt64)) ((3 : Int64) * v17.toInt64)) then (
            bd (R_short4 l1 (224 : Int32) (2 : Int32) (141 : Int32) (0 : Int32) (4 : Int32)) fun r20 =>
            bd (R_lost l1) fun r21 =>
            kb (l1 + 1)
          ) else (
            kb (l1 + 1)
          )
        )
      ) else (
        kb (l1 + 1)
      )
    )
  )
def R_second_L12 (ke109 : RS → Option (Unit × RS)) : Nat → Int32 → RS → Option (Unit × RS)
  | 0, _ => no
  | n + 1, l1 => R_second_B12 (fun l1 => R_second_L12 ke109 n l1) ke109 l1
set_option maxRecDepth 10000 in
theorem sm_second_B12 {g : Gm RS Unit} {kb : Int32 → RS → Option (Unit × RS)} {ke109 : RS → Option (Unit × RS)} (B : Br g cX12_second 3 voV none 10 243) (hkb : ∀ (l1 : Int32), Sm g 3 12 [(0, .ref g.1.2.2.2.2.2), (1, .int l1)] [] (kb l1)) (hke109 : Sm g 3 109 [(0, .ref g.1.2.2.2.2.2)] [] (ke109)) (l1 : Int32) : Sm g 3 12 [(0, .ref g.1.2.2.2.2.2), (1, .int l1)] [] (R_second_B12 kb ke109 l1) := by
  unfold R_second_B12
  refine s_iload_n B.1 1 dX12_second_12 rfl rfl ?_
  refine s_bipush (v := (8)) B.1 dX12_second_13 (by decide) ?_
  refine s_icmp_ge B.1 109 dX12_second_15 (by decide) ?_ ?_
  · exact Sm.lvs [0] rfl (hke109)
  · refine s_aload_n B.1 0 dX12_second_18 rfl rfl ?_
    refine rr_getA B 1 mh_1 mn_1 mf_1 dX12_second_19 ?_
    refine s_iload_n B.1 1 dX12_second_22 rfl rfl ?_
    refine rr_zald B 1 mh_1 mk_1 dX12_second_23 (fun v14 => ?_)
    refine s_if_eq B.1 103 dX12_second_24 (by decide) ?_ ?_
    · refine s_iinc (v := l1 + 1) (lv' := [(1, .int (l1 + 1)), (0, .ref g.1.2.2.2.2.2)]) B.1 1 dX12_second_103 rfl rfl (by decide) rfl ?_
      refine s_goto B.1 12 dX12_second_106 (by decide) ?_
      exact Sm.lvs [1, 0] rfl (hkb (l1 + 1))
    · refine s_aload_n B.1 0 dX12_second_27 rfl rfl ?_
      refine rr_getA B 7 mh_7 mn_7 mf_7 dX12_second_28 ?_
      refine s_iload_n B.1 1 dX12_second_31 rfl rfl ?_
      refine rr_iald B 7 mh_7 mk_7 dX12_second_32 (fun v15 => ?_)
      refine s_if_ge B.1 39 dX12_second_33 (by decide) ?_ ?_
      · refine s_aload_n B.1 0 dX12_second_39 rfl rfl ?_
        refine rr_getA B 19 mh_19 mn_19 mf_19 dX12_second_40 ?_
        refine s_aload_n B.1 0 dX12_second_43 rfl rfl ?_
        refine rr_getA B 7 mh_7 mn_7 mf_7 dX12_second_44 ?_
        refine s_iload_n B.1 1 dX12_second_47 rfl rfl ?_
        refine rr_iald B 7 mh_7 mk_7 dX12_second_48 (fun v16 => ?_)
        refine rr_iald B 19 mh_19 mk_19 dX12_second_49 (fun v17 => ?_)
        refine s_istore_n (lv' := [(2, .int v17), (0, .ref g.1.2.2.2.2.2), (1, .int l1)]) B.1 dX12_second_50 rfl (by decide) rfl ?_
        refine s_iload_n B.1 0 dX12_second_51 rfl rfl ?_
        refine s_if_eq B.1 103 dX12_second_52 (by decide) ?_ ?_
        · refine s_iinc (v := l1 + 1) (lv' := [(1, .int (l1 + 1)), (2, .int v17), (0, .ref g.1.2.2.2.2.2)]) B.1 2 dX12_second_103 rfl rfl (by decide) rfl ?_
          refine s_goto B.1 12 dX12_second_106 (by decide) ?_
          exact Sm.lvs [2, 0] rfl (hkb (l1 + 1))
        · refine s_ldc2 (v := (2)) B.1 tw_2205 dX12_second_55 ?_
          refine s_aload_n B.1 1 dX12_second_58 rfl rfl ?_
          refine rr_getI B 66 mh_66 mk_66 mf_66 dX12_second_59 (fun v18 => ?_)
          refine s_aload_n B.1 1 dX12_second_62 rfl rfl ?_
          refine rr_getA B 8 mh_8 mn_8 mf_8 dX12_second_63 ?_
          refine s_iload_n B.1 2 dX12_second_66 rfl rfl ?_
          refine rr_iald B 8 mh_8 mk_8 dX12_second_67 (fun v19 => ?_)
          refine s_isub B.1 dX12_second_68 ?_
          refine s_i2l B.1 dX12_second_69 ?_
          refine s_lmul B.1 dX12_second_70 ?_
          refine s_ldc2 (v := (3)) B.1 tw_2206 dX12_second_71 ?_
          refine s_iload_n B.1 0 dX12_second_74 rfl rfl ?_
          refine s_i2l B.1 dX12_second_75 ?_
          refine s_lmul B.1 dX12_second_76 ?_
          refine s_lcmp B.1 dX12_second_77 ?_
          refine s_if_gt B.1 84 dX12_second_78 (by decide) ?_ ?_
          · refine s_aload_n B.1 1 dX12_second_84 rfl rfl ?_
            refine s_iload_n B.1 2 dX12_second_85 rfl rfl ?_
            refine s_sipush (v := (224)) B.1 dX12_second_86 (by decide) ?_
            refine s_iconst (v := 2) B.1 dX12_second_89 (by decide) ?_
            refine s_sipush (v := (141)) B.1 dX12_second_90 (by decide) ?_
            refine s_iconst (v := 0) B.1 dX12_second_93 (by decide) ?_
            refine s_iconst (v := 4) B.1 dX12_second_94 (by decide) ?_
            refine rr_cvv (As := [.int l1, .int (224 : Int32), .int (2 : Int32), .int (141 : Int32), .int (0 : Int32), .int (4 : Int32)]) (st := []) B (m_short4 B.ok l1 (224 : Int32) (2 : Int32) (141 : Int32) (0 : Int32) (4 : Int32)) mc_short4 ml_short4 mi_short4 me_short4 ini12 md_short4 (by decide) rfl (Nat.le_of_ble_eq_true rfl) dX12_second_95 (fun r20 => ?_)
            refine s_aload_n B.1 1 dX12_second_98 rfl rfl ?_
            refine s_iload_n B.1 2 dX12_second_99 rfl rfl ?_
            refine rr_cvv (As := [.int l1]) (st := []) B (m_lost B.ok l1) mc_lost ml_lost mi_lost me_lost ini12 md_lost (by decide) rfl (Nat.le_of_ble_eq_true rfl) dX12_second_100 (fun r21 => ?_)
            refine s_iinc (v := l1 + 1) (lv' := [(1, .int (l1 + 1)), (2, .int v17), (0, .ref g.1.2.2.2.2.2)]) B.1 2 dX12_second_103 rfl rfl (by decide) rfl ?_
            refine s_goto B.1 12 dX12_second_106 (by decide) ?_
            exact Sm.lvs [2, 0] rfl (hkb (l1 + 1))
          · refine s_goto B.1 103 dX12_second_81 (by decide) ?_
            refine s_iinc (v := l1 + 1) (lv' := [(1, .int (l1 + 1)), (2, .int v17), (0, .ref g.1.2.2.2.2.2)]) B.1 2 dX12_second_103 rfl rfl (by decide) rfl ?_
            refine s_goto B.1 12 dX12_second_106 (by decide) ?_
            exact Sm.lvs [2, 0] rfl (hkb (l1 + 1))
      · refine s_goto B.1 103 dX12_second_36 (by decide) ?_
        refine s_iinc (v := l1 + 1) (lv' := [(1, .int (l1 + 1)), (0, .ref g.1.2.2.2.2.2)]) B.1 1 dX12_second_103 rfl rfl (by decide) rfl ?_
        refine s_goto B.1 12 dX12_second_106 (by decide) ?_
        exact Sm.lvs [1, 0] rfl (hkb (l1 + 1))
set_option maxRecDepth 10000 in
theorem sm_second_L12 {g : Gm RS Unit} {ke109 : RS → Option (Unit × RS)} (B : Br g cX12_second 3 voV none 10 243) (hke109 : Sm g 3 109 [(0, .ref g.1.2.2.2.2.2)] [] (ke109)) : ∀ (n : Nat) (l1 : Int32), Sm g 3 12 [(0, .ref g.1.2.2.2.2.2), (1, .int l1)] [] (R_second_L12 ke109 n l1)
  | 0, _ => Sm.fail
  | n + 1, l1 => sm_second_B12 B (sm_second_L12 B hke109 n) hke109 l1
def R_second : RS → Option (Unit × RS) :=
  rI 66 fun v22 =>
  wI 66 (v22 + (1 : Int32)) <|
  R_second_L12 (R_second_J109) fu (0 : Int32)
set_option maxRecDepth 10000 in
theorem m_second {w : Wd} (hw : Wok w) : MR w yX12_second cX12_second 3 none 10 243 voV [.ref w.2.2.2.2.2] (R_second) := by
  refine MR.of hw rfl (Nat.le_of_ble_eq_true rfl) (fun g hg B => ?_)
  subst hg
  unfold R_second
  show Sm g 3 0 [(0, .ref g.1.2.2.2.2.2)] [] _
  refine s_aload_n B.1 0 dX12_second_0 rfl rfl ?_
  refine s_dup B.1 dX12_second_1 rfl ?_
  refine rr_getI B 66 mh_66 mk_66 mf_66 dX12_second_2 (fun v22 => ?_)
  refine s_iconst (v := 1) B.1 dX12_second_5 (by decide) ?_
  refine s_iadd B.1 dX12_second_6 ?_
  refine rr_putI B 66 mh_66 mk_66 mf_66 dX12_second_7 ?_
  refine s_iconst (v := 0) B.1 dX12_second_10 (by decide) ?_
  refine s_istore_n (lv' := [(1, .int (0 : Int32)), (0, .ref g.1.2.2.2.2.2)]) B.1 dX12_second_11 rfl (by decide) rfl ?_
  exact Sm.lvs [1, 0] rfl (sm_second_L12 B (sm_second_J109 B) fu (0 : Int32))
def R_pass_J47 (l2 : Int32) : RS → Option (Int32 × RS) :=
  rI 74 fun v1 =>
  rt (v1 - l2)
set_option maxRecDepth 10000 in
theorem sm_pass_J47 {g : Gm RS Int32} (B : Br g cX12_pass 4 voI (some .int) 11 265) (l2 : Int32) : Sm g 4 47 [(0, .ref g.1.2.2.2.2.2), (2, .int l2)] [] (R_pass_J47 l2) := by
  unfold R_pass_J47
  refine s_aload_n B.1 0 dX12_pass_47 rfl rfl ?_
  refine rr_getI B 74 mh_74 mk_74 mf_74 dX12_pass_48 (fun v1 => ?_)
  refine s_iload_n B.1 1 dX12_pass_51 rfl rfl ?_
  refine s_isub B.1 dX12_pass_52 ?_
  exact s_iret B.1 B.2.1 dX12_pass_53
def R_pass_B32 (kb : Int32 → Int32 → Int32 → RS → Option (Int32 × RS)) (ke47 : Int32 → RS → Option (Int32 × RS)) (l1 : Int32) (l2 : Int32) (l3 : Int32) : RS → Option (Int32 × RS) :=
  if l1 ≤ l3 then (
    ke47 l2
  ) else (
    bd (R_second) fun r2 =>
    kb l1 l2 (l3 + 1)
  )
def R_pass_L32 (ke47 : Int32 → RS → Option (Int32 × RS)) : Nat → Int32 → Int32 → Int32 → RS → Option (Int32 × RS)
  | 0, _, _, _ => no
  | n + 1, l1, l2, l3 => R_pass_B32 (fun l1 l2 l3 => R_pass_L32 ke47 n l1 l2 l3) ke47 l1 l2 l3
set_option maxRecDepth 10000 in
theorem sm_pass_B32 {g : Gm RS Int32} {kb : Int32 → Int32 → Int32 → RS → Option (Int32 × RS)} {ke47 : Int32 → RS → Option (Int32 × RS)} (B : Br g cX12_pass 4 voI (some .int) 11 265) (hkb : ∀ (l1 : Int32) (l2 : Int32) (l3 : Int32), Sm g 4 32 [(0, .ref g.1.2.2.2.2.2), (1, .int l1), (2, .int l2), (3, .int l3)] [] (kb l1 l2 l3)) (hke47 : ∀ (l2 : Int32), Sm g 4 47 [(0, .ref g.1.2.2.2.2.2), (2, .int l2)] [] (ke47 l2)) (l1 : Int32) (l2 : Int32) (l3 : Int32) : Sm g 4 32 [(0, .ref g.1.2.2.2.2.2), (1, .int l1), (2, .int l2), (3, .int l3)] [] (R_pass_B32 kb ke47 l1 l2 l3) := by
  unfold R_pass_B32
  refine s_iload_n B.1 3 dX12_pass_32 rfl rfl ?_
  refine s_iload_n B.1 1 dX12_pass_33 rfl rfl ?_
  refine s_icmp_ge B.1 47 dX12_pass_34 (by decide) ?_ ?_
  · exact Sm.lvs [0, 2] rfl (hke47 l2)
  · refine s_aload_n B.1 0 dX12_pass_37 rfl rfl ?_
    refine rr_cvv (As := []) (st := []) B (m_second B.ok) mc_second ml_second mi_second me_second ini12 md_second (by decide) rfl (Nat.le_of_ble_eq_true rfl) dX12_pass_38 (fun r2 => ?_)
    refine s_iinc (v := l3 + 1) (lv' := [(3, .int (l3 + 1)), (0, .ref g.1.2.2.2.2.2), (1, .int l1), (2, .int l2)]) B.1 3 dX12_pass_41 rfl rfl (by decide) rfl ?_
    refine s_goto B.1 32 dX12_pass_44 (by decide) ?_
    exact Sm.lvs [1, 2, 3, 0] rfl (hkb l1 l2 (l3 + 1))
set_option maxRecDepth 10000 in
theorem sm_pass_L32 {g : Gm RS Int32} {ke47 : Int32 → RS → Option (Int32 × RS)} (B : Br g cX12_pass 4 voI (some .int) 11 265) (hke47 : ∀ (l2 : Int32), Sm g 4 47 [(0, .ref g.1.2.2.2.2.2), (2, .int l2)] [] (ke47 l2)) : ∀ (n : Nat) (l1 : Int32) (l2 : Int32) (l3 : Int32), Sm g 4 32 [(0, .ref g.1.2.2.2.2.2), (1, .int l1), (2, .int l2), (3, .int l3)] [] (R_pass_L32 ke47 n l1 l2 l3)
  | 0, _, _, _ => Sm.fail
  | n + 1, l1, l2, l3 => sm_pass_B32 B (sm_pass_L32 B hke47 n) hke47 l1 l2 l3
def R_pass_J17 (l1 : Int32) (s1 : Int32) : RS → Option (Int32 × RS) :=
  bd (R_refuses s1) fun r3 =>
  if r3 = 0 then (
    rI 74 fun v4 =>
    R_pass_L32 (fun l2 => R_pass_J47 l2) fu l1 v4 (0 : Int32)
  ) else (
    rt ((0 : Int32))
  )
set_option maxRecDepth 10000 in
theorem sm_pass_J17 {g : Gm RS Int32} (B : Br g cX12_pass 4 voI (some .int) 11 265) (l1 : Int32) (s1 : Int32) : Sm g 4 17 [(0, .ref g.1.2.2.2.2.2), (1, .int l1)] [.int s1, .ref g.1.2.2.2.2.2] (R_pass_J17 l1 s1) := by
  unfold R_pass_J17
  refine rr_cvi (As := [.int s1]) (st := []) B (m_refuses B.ok s1) mc_refuses ml_refuses mi_refuses me_refuses ini12 md_refuses (by decide) rfl (Nat.le_of_ble_eq_true rfl) dX12_pass_17 (fun r3 => ?_)
  refine s_if_eq B.1 25 dX12_pass_20 (by decide) ?_ ?_
  · refine s_aload_n B.1 0 dX12_pass_25 rfl rfl ?_
    refine rr_getI B 74 mh_74 mk_74 mf_74 dX12_pass_26 (fun v4 => ?_)
    refine s_istore_n (lv' := [(2, .int v4), (0, .ref g.1.2.2.2.2.2), (1, .int l1)]) B.1 dX12_pass_29 rfl (by decide) rfl ?_
    refine s_iconst (v := 0) B.1 dX12_pass_30 (by decide) ?_
    refine s_istore_n (lv' := [(3, .int (0 : Int32)), (2, .int v4), (0, .ref g.1.2.2.2.2.2), (1, .int l1)]) B.1 dX12_pass_31 rfl (by decide) rfl ?_
    exact Sm.lvs [2, 3, 1, 0] rfl (sm_pass_L32 B (fun l2 => sm_pass_J47 B l2) fu l1 v4 (0 : Int32))
  · refine s_iconst (v := 0) B.1 dX12_pass_23 (by decide) ?_
    exact s_iret B.1 B.2.1 dX12_pass_24
def R_pass_J12 (l1 : Int32) : RS → Option (Int32 × RS) :=
  R_pass_J17 l1 (1 : Int32)
set_option maxRecDepth 10000 in
theorem sm_pass_J12 {g : Gm RS Int32} (B : Br g cX12_pass 4 voI (some .int) 11 265) (l1 : Int32) : Sm g 4 12 [(0, .ref g.1.2.2.2.2.2), (1, .int l1)] [.ref g.1.2.2.2.2.2] (R_pass_J12 l1) := by
  unfold R_pass_J12
  refine s_iconst (v := 1) B.1 dX12_pass_12 (by decide) ?_
  refine s_goto B.1 17 dX12_pass_13 (by decide) ?_
  exact Sm.lvs [0, 1] rfl (sm_pass_J17 B l1 (1 : Int32))
def R_pass (l1 : Int32) : RS → Option (Int32 × RS) :=
  if l1 < 0 then (
    R_pass_J12 l1
  ) else (
    if l1 ≤ (4000 : Int32) then (
      R_pass_J17 l1 (0 : Int32)
    ) else (
      R_pass_J12 l1
    )
  )
set_option maxRecDepth 10000 in
theorem m_pass {w : Wd} (hw : Wok w) (l1 : Int32) : MR w yX12_pass cX12_pass 4 (some .int) 11 265 voI [.ref w.2.2.2.2.2, .int l1] (R_pass l1) := by
  refine MR.of hw rfl (Nat.le_of_ble_eq_true rfl) (fun g hg B => ?_)
  subst hg
  unfold R_pass
  show Sm g 4 0 [(0, .ref g.1.2.2.2.2.2), (1, .int l1)] [] _
  refine s_aload_n B.1 0 dX12_pass_0 rfl rfl ?_
  refine s_iload_n B.1 1 dX12_pass_1 rfl rfl ?_
  refine s_if_lt B.1 12 dX12_pass_2 (by decide) ?_ ?_
  · exact Sm.lvs [0, 1] rfl (sm_pass_J12 B l1)
  · refine s_iload_n B.1 1 dX12_pass_5 rfl rfl ?_
    refine s_sipush (v := (4000)) B.1 dX12_pass_6 (by decide) ?_
    refine s_icmp_le B.1 16 dX12_pass_9 (by decide) ?_ ?_
    · refine s_iconst (v := 0) B.1 dX12_pass_16 (by decide) ?_
      exact Sm.lvs [0, 1] rfl (sm_pass_J17 B l1 (0 : Int32))
    · exact Sm.lvs [0, 1] rfl (sm_pass_J12 B l1)
def R_isSession (l1 : Int32) : RS → Option (Int32 × RS) :=
  wI 0 ((0 : Int32)) <|
  bd (R_hasSession l1) fun r1 =>
  zt (r1)
set_option maxRecDepth 10000 in
theorem m_isSession {w : Wd} (hw : Wok w) (l1 : Int32) : MR w yX12_isSession cX12_isSession 2 (some .boolean) 1 21 voI [.ref w.2.2.2.2.2, .int l1] (R_isSession l1) := by
  refine MR.of hw rfl (Nat.le_of_ble_eq_true rfl) (fun g hg B => ?_)
  subst hg
  unfold R_isSession
  show Sm g 2 0 [(0, .ref g.1.2.2.2.2.2), (1, .int l1)] [] _
  refine s_aload_n B.1 0 dX12_isSession_0 rfl rfl ?_
  refine s_iconst (v := 0) B.1 dX12_isSession_1 (by decide) ?_
  refine rr_putI B 0 mh_0 mk_0 mf_0 dX12_isSession_2 ?_
  refine s_aload_n B.1 0 dX12_isSession_5 rfl rfl ?_
  refine s_iload_n B.1 1 dX12_isSession_6 rfl rfl ?_
  refine rr_cvi (As := [.int l1]) (st := []) B (m_hasSession B.ok l1) mc_hasSession ml_hasSession mi_hasSession me_hasSession ini12 md_hasSession (by decide) rfl (Nat.le_of_ble_eq_true rfl) dX12_isSession_7 (fun r1 => ?_)
  exact s_zret B.1 B.2.1 dX12_isSession_10
def R_session_J28 (l1 : Int32) (l2 : Int32) (s1 : Int32) : RS → Option (Int32 × RS) :=
  bd (R_refuses s1) fun r1 =>
  if r1 = 0 then (
    if l2 = 0 then (
      rA 15 l1 fun v2 =>
      rt (v2)
    ) else
    if l2 = 1 then (
      rA 24 l1 fun v3 =>
      rt (v3)
    ) else
    if l2 = 2 then (
      rA 31 l1 fun v4 =>
      rt (v4)
    ) else
    if l2 = 3 then (
      rA 38 l1 fun v5 =>
      rt (v5)
    ) else
    if l2 = 4 then (
      rA 43 l1 fun v6 =>
      rt (v6)
    ) else
    if l2 = 5 then (
      rA 20 l1 fun v7 =>
      if v7 < 0 then (
        rt ((0 : Int32))
      ) else (
        rt ((1 : Int32))
      )
    ) else
    if l2 = 6 then (
      rA 13 l1 fun v8 =>
      rt (v8)
    ) else
    if l2 = 7 then (
      rA 19 l1 fun v9 =>
      rt (v9)
    ) else
    (
      rA 17 l1 fun v10 =>
      rt (v10)
    )
  ) else (
    rt ((0 : Int32))
  )
set_option maxRecDepth 10000 in
theorem sm_session_J28 {g : Gm RS Int32} (B : Br g cX12_session 3 voI (some .int) 1 21) (l1 : Int32) (l2 : Int32) (s1 : Int32) : Sm g 3 28 [(0, .ref g.1.2.2.2.2.2), (1, .int l1), (2, .int l2)] [.int s1, .ref g.1.2.2.2.2.2] (R_session_J28 l1 l2 s1) := by
  unfold R_session_J28
  refine rr_cvi (As := [.int s1]) (st := []) B (m_refuses B.ok s1) mc_refuses ml_refuses mi_refuses me_refuses ini12 md_refuses (by decide) rfl (Nat.le_of_ble_eq_true rfl) dX12_session_28 (fun r1 => ?_)
  refine s_if_eq B.1 36 dX12_session_31 (by decide) ?_ ?_
  · refine s_iload_n B.1 2 dX12_session_36 rfl rfl ?_
    refine s_sw1 B.1 0 84 dX12_session_37 (by decide) (by decide) rfl (by decide) ?_ (fun hn0 => ?_)
    · refine s_aload_n B.1 0 dX12_session_84 rfl rfl ?_
      refine rr_getA B 15 mh_15 mn_15 mf_15 dX12_session_85 ?_
      refine s_iload_n B.1 1 dX12_session_88 rfl rfl ?_
      refine rr_iald B 15 mh_15 mk_15 dX12_session_89 (fun v2 => ?_)
      exact s_iret B.1 B.2.1 dX12_session_90
    refine s_sw1 B.1 1 91 dX12_session_37 (by decide) (by decide) rfl (by decide) ?_ (fun hn1 => ?_)
    · refine s_aload_n B.1 0 dX12_session_91 rfl rfl ?_
      refine rr_getA B 24 mh_24 mn_24 mf_24 dX12_session_92 ?_
      refine s_iload_n B.1 1 dX12_session_95 rfl rfl ?_
      refine rr_iald B 24 mh_24 mk_24 dX12_session_96 (fun v3 => ?_)
      exact s_iret B.1 B.2.1 dX12_session_97
    refine s_sw1 B.1 2 98 dX12_session_37 (by decide) (by decide) rfl (by decide) ?_ (fun hn2 => ?_)
    · refine s_aload_n B.1 0 dX12_session_98 rfl rfl ?_
      refine rr_getA B 31 mh_31 mn_31 mf_31 dX12_session_99 ?_
      refine s_iload_n B.1 1 dX12_session_102 rfl rfl ?_
      refine rr_iald B 31 mh_31 mk_31 dX12_session_103 (fun v4 => ?_)
      exact s_iret B.1 B.2.1 dX12_session_104
    refine s_sw1 B.1 3 105 dX12_session_37 (by decide) (by decide) rfl (by decide) ?_ (fun hn3 => ?_)
    · refine s_aload_n B.1 0 dX12_session_105 rfl rfl ?_
      refine rr_getA B 38 mh_38 mn_38 mf_38 dX12_session_106 ?_
      refine s_iload_n B.1 1 dX12_session_109 rfl rfl ?_
      refine rr_iald B 38 mh_38 mk_38 dX12_session_110 (fun v5 => ?_)
      exact s_iret B.1 B.2.1 dX12_session_111
    refine s_sw1 B.1 4 112 dX12_session_37 (by decide) (by decide) rfl (by decide) ?_ (fun hn4 => ?_)
    · refine s_aload_n B.1 0 dX12_session_112 rfl rfl ?_
      refine rr_getA B 43 mh_43 mn_43 mf_43 dX12_session_113 ?_
      refine s_iload_n B.1 1 dX12_session_116 rfl rfl ?_
      refine rr_iald B 43 mh_43 mk_43 dX12_session_117 (fun v6 => ?_)
      exact s_iret B.1 B.2.1 dX12_session_118
    refine s_sw1 B.1 5 119 dX12_session_37 (by decide) (by decide) rfl (by decide) ?_ (fun hn5 => ?_)
    · refine s_aload_n B.1 0 dX12_session_119 rfl rfl ?_
      refine rr_getA B 20 mh_20 mn_20 mf_20 dX12_session_120 ?_
      refine s_iload_n B.1 1 dX12_session_123 rfl rfl ?_
      refine rr_iald B 20 mh_20 mk_20 dX12_session_124 (fun v7 => ?_)
      refine s_if_lt B.1 132 dX12_session_125 (by decide) ?_ ?_
      · refine s_iconst (v := 0) B.1 dX12_session_132 (by decide) ?_
        exact s_iret B.1 B.2.1 dX12_session_133
      · refine s_iconst (v := 1) B.1 dX12_session_128 (by decide) ?_
        refine s_goto B.1 133 dX12_session_129 (by decide) ?_
        exact s_iret B.1 B.2.1 dX12_session_133
    refine s_sw1 B.1 6 134 dX12_session_37 (by decide) (by decide) rfl (by decide) ?_ (fun hn6 => ?_)
    · refine s_aload_n B.1 0 dX12_session_134 rfl rfl ?_
      refine rr_getA B 13 mh_13 mn_13 mf_13 dX12_session_135 ?_
      refine s_iload_n B.1 1 dX12_session_138 rfl rfl ?_
      refine rr_iald B 13 mh_13 mk_13 dX12_session_139 (fun v8 => ?_)
      exact s_iret B.1 B.2.1 dX12_session_140
    refine s_sw1 B.1 7 141 dX12_session_37 (by decide) (by decide) rfl (by decide) ?_ (fun hn7 => ?_)
    · refine s_aload_n B.1 0 dX12_session_141 rfl rfl ?_
      refine rr_getA B 19 mh_19 mn_19 mf_19 dX12_session_142 ?_
      refine s_iload_n B.1 1 dX12_session_145 rfl rfl ?_
      refine rr_iald B 19 mh_19 mk_19 dX12_session_146 (fun v9 => ?_)
      exact s_iret B.1 B.2.1 dX12_session_147
    have hout : (l2).toInt < 0 ∨ 7 < (l2).toInt := by
      have z0 : ¬ (l2).toInt = 0 := sw_ne hn0 (by decide); have z1 : ¬ (l2).toInt = 1 := sw_ne hn1 (by decide); have z2 : ¬ (l2).toInt = 2 := sw_ne hn2 (by decide); have z3 : ¬ (l2).toInt = 3 := sw_ne hn3 (by decide); have z4 : ¬ (l2).toInt = 4 := sw_ne hn4 (by decide); have z5 : ¬ (l2).toInt = 5 := sw_ne hn5 (by decide); have z6 : ¬ (l2).toInt = 6 := sw_ne hn6 (by decide); have z7 : ¬ (l2).toInt = 7 := sw_ne hn7 (by decide); omega
    refine s_swD B.1 148 dX12_session_37 hout (by decide) ?_
    refine s_aload_n B.1 0 dX12_session_148 rfl rfl ?_
    refine rr_getA B 17 mh_17 mn_17 mf_17 dX12_session_149 ?_
    refine s_iload_n B.1 1 dX12_session_152 rfl rfl ?_
    refine rr_iald B 17 mh_17 mk_17 dX12_session_153 (fun v10 => ?_)
    exact s_iret B.1 B.2.1 dX12_session_154
  · refine s_iconst (v := 0) B.1 dX12_session_34 (by decide) ?_
    exact s_iret B.1 B.2.1 dX12_session_35
def R_session_J23 (l1 : Int32) (l2 : Int32) : RS → Option (Int32 × RS) :=
  R_session_J28 l1 l2 (2 : Int32)
set_option maxRecDepth 10000 in
theorem sm_session_J23 {g : Gm RS Int32} (B : Br g cX12_session 3 voI (some .int) 1 21) (l1 : Int32) (l2 : Int32) : Sm g 3 23 [(0, .ref g.1.2.2.2.2.2), (1, .int l1), (2, .int l2)] [.ref g.1.2.2.2.2.2] (R_session_J23 l1 l2) := by
  unfold R_session_J23
  refine s_iconst (v := 2) B.1 dX12_session_23 (by decide) ?_
  refine s_goto B.1 28 dX12_session_24 (by decide) ?_
  exact Sm.lvs [0, 1, 2] rfl (sm_session_J28 B l1 l2 (2 : Int32))
def R_session (l1 : Int32) (l2 : Int32) : RS → Option (Int32 × RS) :=
  bd (R_hasSession l1) fun r11 =>
  if r11 = 0 then (
    R_session_J28 l1 l2 (1 : Int32)
  ) else (
    if l2 < 0 then (
      R_session_J23 l1 l2
    ) else (
      if l2 ≤ (8 : Int32) then (
        R_session_J28 l1 l2 (0 : Int32)
      ) else (
        R_session_J23 l1 l2
      )
    )
  )
set_option maxRecDepth 10000 in
theorem m_session {w : Wd} (hw : Wok w) (l1 : Int32) (l2 : Int32) : MR w yX12_session cX12_session 3 (some .int) 1 21 voI [.ref w.2.2.2.2.2, .int l1, .int l2] (R_session l1 l2) := by
  refine MR.of hw rfl (Nat.le_of_ble_eq_true rfl) (fun g hg B => ?_)
  subst hg
  unfold R_session
  show Sm g 3 0 [(0, .ref g.1.2.2.2.2.2), (1, .int l1), (2, .int l2)] [] _
  refine s_aload_n B.1 0 dX12_session_0 rfl rfl ?_
  refine s_aload_n B.1 0 dX12_session_1 rfl rfl ?_
  refine s_iload_n B.1 1 dX12_session_2 rfl rfl ?_
  refine rr_cvi (As := [.int l1]) (st := [.ref g.1.2.2.2.2.2]) B (m_hasSession B.ok l1) mc_hasSession ml_hasSession mi_hasSession me_hasSession ini12 md_hasSession (by decide) rfl (Nat.le_of_ble_eq_true rfl) dX12_session_3 (fun r11 => ?_)
  refine s_if_ne B.1 13 dX12_session_6 (by decide) ?_ ?_
  · refine s_iload_n B.1 2 dX12_session_13 rfl rfl ?_
    refine s_if_lt B.1 23 dX12_session_14 (by decide) ?_ ?_
    · exact Sm.lvs [0, 1, 2] rfl (sm_session_J23 B l1 l2)
    · refine s_iload_n B.1 2 dX12_session_17 rfl rfl ?_
      refine s_bipush (v := (8)) B.1 dX12_session_18 (by decide) ?_
      refine s_icmp_le B.1 27 dX12_session_20 (by decide) ?_ ?_
      · refine s_iconst (v := 0) B.1 dX12_session_27 (by decide) ?_
        exact Sm.lvs [0, 1, 2] rfl (sm_session_J28 B l1 l2 (0 : Int32))
      · exact Sm.lvs [0, 1, 2] rfl (sm_session_J23 B l1 l2)
  · refine s_iconst (v := 1) B.1 dX12_session_9 (by decide) ?_
    refine s_goto B.1 28 dX12_session_10 (by decide) ?_
    exact Sm.lvs [0, 1, 2] rfl (sm_session_J28 B l1 l2 (1 : Int32))
