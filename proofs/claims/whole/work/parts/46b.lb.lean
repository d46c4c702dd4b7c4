def C_L_law_J1296 (L : Nat) (xs : Nat → Int32) : Lz → Option (Unit × Lz) :=
  gd ((1 : Int32) = 1) (rt ())
set_option maxRecDepth 10000 in
theorem sc_L_law_J1296 {g : Gm Lz Unit} {b L : Nat} {xs : Nat → Int32} (B : Bw g b L xs) : Sm g 8 1296 [] [] (C_L_law_J1296 L xs) := by
  unfold C_L_law_J1296
  refine s_iconst (v := 1) B.1 dL_law_1296 (by decide) ?_
  exact l_end B dL_law_1297
def C_L_law_J1220 (L : Nat) (xs : Nat → Int32) (kb : Option Nat → Option Nat → Int32 → Lz → Option (Unit × Lz)) (ke1296 : Lz → Option (Unit × Lz)) (l1 : Option Nat) (l3 : Option Nat) (l4 : Int32) (s0 : Int32) (s2 : Int32) (s3 : Int32) : Lz → Option (Unit × Lz) :=
  sLD L xs (l4 + (3 : Int32)) fun v1 =>
  bd (lM (R_kept s2 s3 v1)) fun r2 =>
  if s0 = r2 then (
    kb l1 l3 (l4 + 7)
  ) else (
    no
  )
set_option maxRecDepth 10000 in
theorem sc_L_law_J1220 {g : Gm Lz Unit} {b L : Nat} {xs : Nat → Int32} {kb : Option Nat → Option Nat → Int32 → Lz → Option (Unit × Lz)} {ke1296 : Lz → Option (Unit × Lz)} (B : Bw g b L xs) (hkb : ∀ (l1 : Option Nat) (l3 : Option Nat) (l4 : Int32), Sm g 8 23 [(0, .ref b), (1, va_rf l1), (2, .ref g.1.2.2.2.2.2), (3, va_rf l3), (4, .int l4)] [] (kb l1 l3 l4)) (hke1296 : Sm g 8 1296 [] [] (ke1296)) (l1 : Option Nat) (l3 : Option Nat) (l4 : Int32) (s0 : Int32) (s2 : Int32) (s3 : Int32) : Sm g 8 1220 [(0, .ref b), (1, va_rf l1), (2, .ref g.1.2.2.2.2.2), (3, va_rf l3), (4, .int l4)] [.int s3, .int s2, .ref g.1.2.2.2.2.2, .int s0] (C_L_law_J1220 L xs kb ke1296 l1 l3 l4 s0 s2 s3) := by
  unfold C_L_law_J1220
  refine s_aload_n B.1 0 dL_law_1220 rfl rfl ?_
  refine s_iload B.1 4 dL_law_1221 rfl ?_
  refine s_iconst (v := 3) B.1 dL_law_1223 (by decide) ?_
  refine s_iadd B.1 dL_law_1224 ?_
  refine l_sld B dL_law_1225 (fun v1 => ?_)
  refine l_cmi (As := [.int s2, .int s3, .int v1]) (st := [.int s0]) B (m_kept B.2.2.2.2.2.1.1 s2 s3 v1) cc_X12_kept cl_L_140 cn_X12_kept ce_X12_kept ci_X12 cd_X12_kept (by decide) rfl (Nat.le_of_ble_eq_true rfl) dL_law_1226 (fun r2 => ?_)
  refine s_icmp_eq B.1 1290 dL_law_1229 (by decide) ?_ ?_
  · refine s_iinc (v := l4 + 7) (lv' := [(4, .int (l4 + 7)), (0, .ref b), (1, va_rf l1), (2, .ref g.1.2.2.2.2.2), (3, va_rf l3)]) B.1 4 dL_law_1290 rfl rfl (by decide) (by simp [va_rf_cat, cat_i, cat_l, cat_r]) ?_
    refine s_goto B.1 23 dL_law_1293 (by decide) ?_
    exact Sm.lvs [1, 2, 3, 4, 0] rfl (hkb l1 l3 (l4 + 7))
  · exact Sm.fail
def C_L_law_J1190 (L : Nat) (xs : Nat → Int32) (kb : Option Nat → Option Nat → Int32 → Lz → Option (Unit × Lz)) (ke1296 : Lz → Option (Unit × Lz)) (l1 : Option Nat) (l3 : Option Nat) (l4 : Int32) (s0 : Option Nat) (s1 : Int32) (s2 : Int32) : Lz → Option (Unit × Lz) :=
  sLD L xs (l4 + (3 : Int32)) fun v3 =>
  lCv 13 s0 (fun a => C_X11_kept a s1 s2 v3) fun r4 =>
  sLD L xs (l4 + (1 : Int32)) fun v5 =>
  sLD L xs (l4 + (2 : Int32)) fun v6 =>
  if v6 = 0 then (
    C_L_law_J1220 L xs kb ke1296 l1 l3 l4 r4 v5 (0 : Int32)
  ) else (
    C_L_law_J1220 L xs kb ke1296 l1 l3 l4 r4 v5 (1 : Int32)
  )
set_option maxRecDepth 10000 in
theorem sc_L_law_J1190 {g : Gm Lz Unit} {b L : Nat} {xs : Nat → Int32} {kb : Option Nat → Option Nat → Int32 → Lz → Option (Unit × Lz)} {ke1296 : Lz → Option (Unit × Lz)} (B : Bw g b L xs) (hkb : ∀ (l1 : Option Nat) (l3 : Option Nat) (l4 : Int32), Sm g 8 23 [(0, .ref b), (1, va_rf l1), (2, .ref g.1.2.2.2.2.2), (3, va_rf l3), (4, .int l4)] [] (kb l1 l3 l4)) (hke1296 : Sm g 8 1296 [] [] (ke1296)) (l1 : Option Nat) (l3 : Option Nat) (l4 : Int32) (s0 : Option Nat) (s1 : Int32) (s2 : Int32) : Sm g 8 1190 [(0, .ref b), (1, va_rf l1), (2, .ref g.1.2.2.2.2.2), (3, va_rf l3), (4, .int l4)] [.int s2, .int s1, va_rf s0] (C_L_law_J1190 L xs kb ke1296 l1 l3 l4 s0 s1 s2) := by
  unfold C_L_law_J1190
  refine s_aload_n B.1 0 dL_law_1190 rfl rfl ?_
  refine s_iload B.1 4 dL_law_1191 rfl ?_
  refine s_iconst (v := 3) B.1 dL_law_1193 (by decide) ?_
  refine s_iadd B.1 dL_law_1194 ?_
  refine l_sld B dL_law_1195 (fun v3 => ?_)
  refine l_cv (As := [.int s1, .int s2, .int v3]) (st := []) 13 rfl (by decide) B (fun a => mC_X11_kept B.2.2.2.2.1.1 a s1 s2 v3) cc_X11_kept cl_L_136 cn_X11_kept ce_X11_kept ci_X11 cd_X11_kept (by decide) rfl (Nat.le_of_ble_eq_true rfl) dL_law_1196 (fun r4 => ?_)
  refine s_aload_n B.1 2 dL_law_1199 rfl rfl ?_
  refine s_aload_n B.1 0 dL_law_1200 rfl rfl ?_
  refine s_iload B.1 4 dL_law_1201 rfl ?_
  refine s_iconst (v := 1) B.1 dL_law_1203 (by decide) ?_
  refine s_iadd B.1 dL_law_1204 ?_
  refine l_sld B dL_law_1205 (fun v5 => ?_)
  refine s_aload_n B.1 0 dL_law_1206 rfl rfl ?_
  refine s_iload B.1 4 dL_law_1207 rfl ?_
  refine s_iconst (v := 2) B.1 dL_law_1209 (by decide) ?_
  refine s_iadd B.1 dL_law_1210 ?_
  refine l_sld B dL_law_1211 (fun v6 => ?_)
  refine s_if_eq B.1 1219 dL_law_1212 (by decide) ?_ ?_
  · refine s_iconst (v := 0) B.1 dL_law_1219 (by decide) ?_
    exact Sm.lvs [0, 1, 2, 3, 4] rfl (sc_L_law_J1220 B hkb hke1296 l1 l3 l4 r4 v5 (0 : Int32))
  · refine s_iconst (v := 1) B.1 dL_law_1215 (by decide) ?_
    refine s_goto B.1 1220 dL_law_1216 (by decide) ?_
    exact Sm.lvs [0, 1, 2, 3, 4] rfl (sc_L_law_J1220 B hkb hke1296 l1 l3 l4 r4 v5 (1 : Int32))
def C_L_law_J412 (L : Nat) (xs : Nat → Int32) (kb : Option Nat → Option Nat → Int32 → Lz → Option (Unit × Lz)) (ke1296 : Lz → Option (Unit × Lz)) (l1 : Option Nat) (l3 : Option Nat) (l4 : Int32) (s0 : Int64) (s1 : Int64) : Lz → Option (Unit × Lz) :=
  if (lg_cmp s0 s1) = 0 then (
    kb l1 l3 (l4 + 7)
  ) else (
    no
  )
set_option maxRecDepth 10000 in
theorem sc_L_law_J412 {g : Gm Lz Unit} {b L : Nat} {xs : Nat → Int32} {kb : Option Nat → Option Nat → Int32 → Lz → Option (Unit × Lz)} {ke1296 : Lz → Option (Unit × Lz)} (B : Bw g b L xs) (hkb : ∀ (l1 : Option Nat) (l3 : Option Nat) (l4 : Int32), Sm g 8 23 [(0, .ref b), (1, va_rf l1), (2, .ref g.1.2.2.2.2.2), (3, va_rf l3), (4, .int l4)] [] (kb l1 l3 l4)) (hke1296 : Sm g 8 1296 [] [] (ke1296)) (l1 : Option Nat) (l3 : Option Nat) (l4 : Int32) (s0 : Int64) (s1 : Int64) : Sm g 8 412 [(0, .ref b), (1, va_rf l1), (2, .ref g.1.2.2.2.2.2), (3, va_rf l3), (4, .int l4)] [.long s1, .long s0] (C_L_law_J412 L xs kb ke1296 l1 l3 l4 s0 s1) := by
  unfold C_L_law_J412
  refine s_lcmp B.1 dL_law_412 ?_
  refine s_if_eq B.1 418 dL_law_413 (by decide) ?_ ?_
  · refine s_goto B.1 1290 dL_law_418 (by decide) ?_
    refine s_iinc (v := l4 + 7) (lv' := [(4, .int (l4 + 7)), (0, .ref b), (1, va_rf l1), (2, .ref g.1.2.2.2.2.2), (3, va_rf l3)]) B.1 4 dL_law_1290 rfl rfl (by decide) (by simp [va_rf_cat, cat_i, cat_l, cat_r]) ?_
    refine s_goto B.1 23 dL_law_1293 (by decide) ?_
    exact Sm.lvs [1, 2, 3, 4, 0] rfl (hkb l1 l3 (l4 + 7))
  · exact Sm.fail
def C_L_law_B23 (L : Nat) (xs : Nat → Int32) (kb : Option Nat → Option Nat → Int32 → Lz → Option (Unit × Lz)) (ke1296 : Lz → Option (Unit × Lz)) (l1 : Option Nat) (l3 : Option Nat) (l4 : Int32) : Lz → Option (Unit × Lz) :=
  if ((Int32.ofNat L) - (7 : Int32)) < l4 then (
    ke1296
  ) else (
    sLD L xs l4 fun v7 =>
    if (v7 &&& (31 : Int32)) = 0 then (
      sLD L xs (l4 + (1 : Int32)) fun v8 =>
      bd (lC (C_L_open l1 v8)) fun r9 =>
      sLD L xs (l4 + (1 : Int32)) fun v10 =>
      bd (lM (R_open v10)) fun r11 =>
      bd (lM (R_thrown)) fun r12 =>
      if r12 = r9 then (
        kb l1 l3 (l4 + 7)
      ) else (
        no
      )
    ) else
    if (v7 &&& (31 : Int32)) = 1 then (
      sLD L xs (l4 + (1 : Int32)) fun v13 =>
      sLD L xs (l4 + (2 : Int32)) fun v14 =>
      sLD L xs (l4 + (3 : Int32)) fun v15 =>
      sLD L xs (l4 + (4 : Int32)) fun v16 =>
      sLD L xs (l4 + (5 : Int32)) fun v17 =>
      sLD L xs (l4 + (6 : Int32)) fun v18 =>
      bd (lC (C_L_feed l1 v13 ((lshl6 v14.toInt64 (32 : Int32)) ||| (v15.toInt64 &&& (4294967295 : Int64))) ((lshl6 v16.toInt64 (32 : Int32)) ||| (v17.toInt64 &&& (4294967295 : Int64))) v18 l3)) fun r19 =>
      sLD L xs (l4 + (1 : Int32)) fun v20 =>
      sLD L xs (l4 + (2 : Int32)) fun v21 =>
      sLD L xs (l4 + (3 : Int32)) fun v22 =>
      sLD L xs (l4 + (4 : Int32)) fun v23 =>
      sLD L xs (l4 + (5 : Int32)) fun v24 =>
      sLD L xs (l4 + (6 : Int32)) fun v25 =>
      bd (lM (R_feed v20 ((lshl6 v21.toInt64 (32 : Int32)) ||| (v22.toInt64 &&& (4294967295 : Int64))) ((lshl6 v23.toInt64 (32 : Int32)) ||| (v24.toInt64 &&& (4294967295 : Int64))) v25)) fun r26 =>
      bd (lM (R_thrown)) fun r27 =>
      if r27 = r19 then (
        if r19 = 0 then (
          lAl l3 (0 : Int32) fun v28 =>
          if (lg_cmp v28 r26.toInt64) = 0 then (
            kb l1 l3 (l4 + 7)
          ) else (
            no
          )
        ) else (
          kb l1 l3 (l4 + 7)
        )
      ) else (
        no
      )
    ) else
    if (v7 &&& (31 : Int32)) = 2 then (
      sLD L xs (l4 + (1 : Int32)) fun v29 =>
      bd (lC (C_L_lose l1 v29)) fun r30 =>
      sLD L xs (l4 + (1 : Int32)) fun v31 =>
      bd (lM (R_lose v31)) fun r32 =>
      bd (lM (R_thrown)) fun r33 =>
      if r33 = r30 then (
        kb l1 l3 (l4 + 7)
      ) else (
        no
      )
    ) else
    if (v7 &&& (31 : Int32)) = 3 then (
      sLD L xs (l4 + (1 : Int32)) fun v34 =>
      bd (lC (C_L_isOpen l1 v34 l3)) fun r35 =>
      sLD L xs (l4 + (1 : Int32)) fun v36 =>
      bd (lM (R_isOpen v36)) fun r37 =>
      bd (lM (R_thrown)) fun r38 =>
      if r38 = r35 then (
        if r35 = 0 then (
          lAl l3 (0 : Int32) fun v39 =>
          if r37 = 0 then (
            C_L_law_J412 L xs kb ke1296 l1 l3 l4 v39 (0 : Int64)
          ) else (
            C_L_law_J412 L xs kb ke1296 l1 l3 l4 v39 (1 : Int64)
          )
        ) else (
          kb l1 l3 (l4 + 7)
        )
      ) else (
        no
      )
    ) else
    if (v7 &&& (31 : Int32)) = 4 then (
      sLD L xs (l4 + (1 : Int32)) fun v40 =>
      bd (lC (C_L_size l1 v40 l3)) fun r41 =>
      sLD L xs (l4 + (1 : Int32)) fun v42 =>
      bd (lM (R_size v42)) fun r43 =>
      bd (lM (R_thrown)) fun r44 =>
      if r44 = r41 then (
        if r41 = 0 then (
          lAl l3 (0 : Int32) fun v45 =>
          if (lg_cmp v45 r43.toInt64) = 0 then (
            kb l1 l3 (l4 + 7)
          ) else (
            no
          )
        ) else (
          kb l1 l3 (l4 + 7)
        )
      ) else (
        no
      )
    ) else
    if (v7 &&& (31 : Int32)) = 5 then (
      sLD L xs (l4 + (1 : Int32)) fun v46 =>
      sLD L xs (l4 + (2 : Int32)) fun v47 =>
      bd (lC (C_L_out l1 v46 v47 l3)) fun r48 =>
      sLD L xs (l4 + (1 : Int32)) fun v49 =>
      sLD L xs (l4 + (2 : Int32)) fun v50 =>
      bd (lM (R_out v49 v50)) fun r51 =>
      bd (lM (R_thrown)) fun r52 =>
      if r52 = r48 then (
        if r48 = 0 then (
          lAl l3 (0 : Int32) fun v53 =>
          if (lg_cmp v53 r51.toInt64) = 0 then (
            kb l1 l3 (l4 + 7)
          ) else (
            no
          )
        ) else (
          kb l1 l3 (l4 + 7)
        )
      ) else (
        no
      )
    ) else
    if (v7 &&& (31 : Int32)) = 6 then (
      sLD L xs (l4 + (1 : Int32)) fun v54 =>
      sLD L xs (l4 + (2 : Int32)) fun v55 =>
      bd (lC (C_L_take l1 v54 v55 l3)) fun r56 =>
      sLD L xs (l4 + (1 : Int32)) fun v57 =>
      sLD L xs (l4 + (2 : Int32)) fun v58 =>
      bd (lM (R_take v57 v58)) fun r59 =>
      bd (lM (R_thrown)) fun r60 =>
      if r60 = r56 then (
        if r56 = 0 then (
          lAl l3 (0 : Int32) fun v61 =>
          if (lg_cmp v61 r59.toInt64) = 0 then (
            kb l1 l3 (l4 + 7)
          ) else (
            no
          )
        ) else (
          kb l1 l3 (l4 + 7)
        )
      ) else (
        no
      )
    ) else
    if (v7 &&& (31 : Int32)) = 7 then (
      sLD L xs (l4 + (1 : Int32)) fun v62 =>
      bd (lC (C_L_pending l1 v62 l3)) fun r63 =>
      sLD L xs (l4 + (1 : Int32)) fun v64 =>
      bd (lM (R_pending v64)) fun r65 =>
      bd (lM (R_thrown)) fun r66 =>
      if r66 = r63 then (
        if r63 = 0 then (
          lAl l3 (0 : Int32) fun v67 =>
          if (lg_cmp v67 r65.toInt64) = 0 then (
            kb l1 l3 (l4 + 7)
          ) else (
            no
          )
        ) else (
          kb l1 l3 (l4 + 7)
        )
      ) else (
        no
      )
    ) else
    if (v7 &&& (31 : Int32)) = 8 then (
      sLD L xs (l4 + (1 : Int32)) fun v68 =>
      bd (lC (C_L_pass l1 v68 l3)) fun r69 =>
      sLD L xs (l4 + (1 : Int32)) fun v70 =>
      bd (lM (R_pass v70)) fun r71 =>
      bd (lM (R_thrown)) fun r72 =>
      if r72 = r69 then (
        if r69 = 0 then (
          lAl l3 (0 : Int32) fun v73 =>
          if (lg_cmp v73 r71.toInt64) = 0 then (
            kb l1 l3 (l4 + 7)
          ) else (
            no
          )
        ) else (
          kb l1 l3 (l4 + 7)
        )
      ) else (
        no
      )
    ) else
    if (v7 &&& (31 : Int32)) = 9 then (
      sLD L xs (l4 + (1 : Int32)) fun v74 =>
      lCv 13 l1 (fun a => C_X11_isSession a v74) fun r75 =>
      sLD L xs (l4 + (1 : Int32)) fun v76 =>
      bd (lM (R_isSession v76)) fun r77 =>
      if r75 = r77 then (
        kb l1 l3 (l4 + 7)
      ) else (
        no
      )
    ) else
    if (v7 &&& (31 : Int32)) = 10 then (
      sLD L xs (l4 + (1 : Int32)) fun v78 =>
      sLD L xs (l4 + (2 : Int32)) fun v79 =>
      bd (lC (C_L_session l1 v78 v79 l3)) fun r80 =>
      sLD L xs (l4 + (1 : Int32)) fun v81 =>
      sLD L xs (l4 + (2 : Int32)) fun v82 =>
      bd (lM (R_session v81 v82)) fun r83 =>
      bd (lM (R_thrown)) fun r84 =>
      if r84 = r80 then (
        if r80 = 0 then (
          lAl l3 (0 : Int32) fun v85 =>
          if (lg_cmp v85 r83.toInt64) = 0 then (
            kb l1 l3 (l4 + 7)
          ) else (
            no
          )
        ) else (
          kb l1 l3 (l4 + 7)
        )
      ) else (
        no
      )
    ) else
    if (v7 &&& (31 : Int32)) = 11 then (
      sLD L xs (l4 + (1 : Int32)) fun v86 =>
      bd (lC (C_L_expiry l1 v86 l3)) fun r87 =>
      sLD L xs (l4 + (1 : Int32)) fun v88 =>
      bd (lM (R_expiry v88)) fun r89 =>
      bd (lM (R_thrown)) fun r90 =>
      if r90 = r87 then (
        if r87 = 0 then (
          lAl l3 (0 : Int32) fun v91 =>
          if (lg_cmp v91 r89) = 0 then (
            kb l1 l3 (l4 + 7)
          ) else (
            no
          )
        ) else (
          kb l1 l3 (l4 + 7)
        )
      ) else (
        no
      )
    ) else
    if (v7 &&& (31 : Int32)) = 12 then (
      sLD L xs (l4 + (1 : Int32)) fun v92 =>
      sLD L xs (l4 + (2 : Int32)) fun v93 =>
      bd (lC (C_L_id l1 v92 v93 l3)) fun r94 =>
      sLD L xs (l4 + (1 : Int32)) fun v95 =>
      sLD L xs (l4 + (2 : Int32)) fun v96 =>
      bd (lM (R_id v95 v96)) fun r97 =>
      bd (lM (R_thrown)) fun r98 =>
      if r98 = r94 then (
        if r94 = 0 then (
          lAl l3 (0 : Int32) fun v99 =>
          if (lg_cmp v99 r97.toInt64) = 0 then (
            kb l1 l3 (l4 + 7)
          ) else (
            no
          )
        ) else (
          kb l1 l3 (l4 + 7)
        )
      ) else (
        no
      )
    ) else
    if (v7 &&& (31 : Int32)) = 13 then (
      sLD L xs (l4 + (1 : Int32)) fun v100 =>
      sLD L xs (l4 + (2 : Int32)) fun v101 =>
      sLD L xs (l4 + (3 : Int32)) fun v102 =>
      bd (lC (C_L_subscription l1 v100 v101 v102 l3)) fun r103 =>
      sLD L xs (l4 + (1 : Int32)) fun v104 =>
      sLD L xs (l4 + (2 : Int32)) fun v105 =>
      sLD L xs (l4 + (3 : Int32)) fun v106 =>
      bd (lM (R_subscription v104 v105 v106)) fun r107 =>
      bd (lM (R_thrown)) fun r108 =>
      if r108 = r103 then (
        if r103 = 0 then (
          lAl l3 (0 : Int32) fun v109 =>
          if (lg_cmp v109 r107.toInt64) = 0 then (
            kb l1 l3 (l4 + 7)
          ) else (
            no
          )
        ) else (
          kb l1 l3 (l4 + 7)
        )
      ) else (
        no
      )
    ) else
    if (v7 &&& (31 : Int32)) = 14 then (
      sLD L xs (l4 + (1 : Int32)) fun v110 =>
      sLD L xs (l4 + (2 : Int32)) fun v111 =>
      sLD L xs (l4 + (3 : Int32)) fun v112 =>
      bd (lC (C_L_filter l1 v110 v111 v112 l3)) fun r113 =>
      sLD L xs (l4 + (1 : Int32)) fun v114 =>
      sLD L xs (l4 + (2 : Int32)) fun v115 =>
      sLD L xs (l4 + (3 : Int32)) fun v116 =>
      bd (lM (R_filter v114 v115 v116)) fun r117 =>
      bd (lM (R_thrown)) fun r118 =>
      if r118 = r113 then (
        if r113 = 0 then (
          lAl l3 (0 : Int32) fun v119 =>
          if (lg_cmp v119 r117.toInt64) = 0 then (
            kb l1 l3 (l4 + 7)
          ) else (
            no
          )
        ) else (
          kb l1 l3 (l4 + 7)
        )
      ) else (
        no
      )
    ) else
    if (v7 &&& (31 : Int32)) = 15 then (
      sLD L xs (l4 + (1 : Int32)) fun v120 =>
      sLD L xs (l4 + (2 : Int32)) fun v121 =>
      bd (lC (C_L_retained l1 v120 v121 l3)) fun r122 =>
      sLD L xs (l4 + (1 : Int32)) fun v123 =>
      sLD L xs (l4 + (2 : Int32)) fun v124 =>
      bd (lM (R_retained v123 v124)) fun r125 =>
      bd (lM (R_thrown)) fun r126 =>
      if r126 = r122 then (
        if r122 = 0 then (
          lAl l3 (0 : Int32) fun v127 =>
          if (lg_cmp v127 r125.toInt64) = 0 then (
            kb l1 l3 (l4 + 7)
          ) else (
            no
          )
        ) else (
          kb l1 l3 (l4 + 7)
        )
      ) else (
        no
      )
    ) else
    if (v7 &&& (31 : Int32)) = 16 then (
      sLD L xs (l4 + (1 : Int32)) fun v128 =>
      sLD L xs (l4 + (2 : Int32)) fun v129 =>
      if v129 = 0 then (
        C_L_law_J1190 L xs kb ke1296 l1 l3 l4 l1 v128 (0 : Int32)
      ) else (
        C_L_law_J1190 L xs kb ke1296 l1 l3 l4 l1 v128 (1 : Int32)
      )
    ) else
    if (v7 &&& (31 : Int32)) = 17 then (
      sLD L xs (l4 + (1 : Int32)) fun v130 =>
      bd (lC (C_L_told l1 v130 l3)) fun r131 =>
      sLD L xs (l4 + (1 : Int32)) fun v132 =>
      bd (lM (R_told v132)) fun r133 =>
      bd (lM (R_thrown)) fun r134 =>
      if r134 = r131 then (
        if r131 = 0 then (
          lAl l3 (0 : Int32) fun v135 =>
          if (lg_cmp v135 r133.toInt64) = 0 then (
            kb l1 l3 (l4 + 7)
          ) else (
            no
          )
        ) else (
          kb l1 l3 (l4 + 7)
        )
      ) else (
        no
      )
    ) else
    (
      kb l1 l3 (l4 + 7)
    )
  )
def C_L_law_L23 (L : Nat) (xs : Nat → Int32) (ke1296 : Lz → Option (Unit × Lz)) : Nat → Option Nat → Option Nat → Int32 → Lz → Option (Unit × Lz)
  | 0, _, _, _ => no
  | n + 1, l1, l3, l4 => C_L_law_B23 L xs (fun l1 l3 l4 => C_L_law_L23 L xs ke1296 n l1 l3 l4) ke1296 l1 l3 l4
set_option maxRecDepth 10000 in
theorem sc_L_law_B23 {g : Gm Lz Unit} {b L : Nat} {xs : Nat → Int32} {kb : Option Nat → Option Nat → Int32 → Lz → Option (Unit × Lz)} {ke1296 : Lz → Option (Unit × Lz)} (B : Bw g b L xs) (hkb : ∀ (l1 : Option Nat) (l3 : Option Nat) (l4 : Int32), Sm g 8 23 [(0, .ref b), (1, va_rf l1), (2, .ref g.1.2.2.2.2.2), (3, va_rf l3), (4, .int l4)] [] (kb l1 l3 l4)) (hke1296 : Sm g 8 1296 [] [] (ke1296)) (l1 : Option Nat) (l3 : Option Nat) (l4 : Int32) : Sm g 8 23 [(0, .ref b), (1, va_rf l1), (2, .ref g.1.2.2.2.2.2), (3, va_rf l3), (4, .int l4)] [] (C_L_law_B23 L xs kb ke1296 l1 l3 l4) := by
  unfold C_L_law_B23
  refine s_iload B.1 4 dL_law_23 rfl ?_
  refine s_aload_n B.1 0 dL_law_25 rfl rfl ?_
  refine l_slen B dL_law_26 ?_
  refine s_bipush (v := (7)) B.1 dL_law_27 (by decide) ?_
  refine s_isub B.1 dL_law_29 ?_
  refine s_icmp_gt B.1 1296 dL_law_30 (by decide) ?_ ?_
  · exact Sm.lvs [] rfl (hke1296)
  · refine s_aload_n B.1 0 dL_law_33 rfl rfl ?_
    refine s_iload B.1 4 dL_law_34 rfl ?_
    refine l_sld B dL_law_36 (fun v7 => ?_)
    refine s_bipush (v := (31)) B.1 dL_law_37 (by decide) ?_
    refine s_iand B.1 dL_law_39 ?_
    refine s_sw1 B.1 0 128 dL_law_40 (by decide) (by decide) rfl (by decide) ?_ (fun hn0 => ?_)
    · refine s_rload_n B.1 1 dL_law_128 rfl rfl ?_
      refine s_aload_n B.1 0 dL_law_129 rfl rfl ?_
      refine s_iload B.1 4 dL_law_130 rfl ?_
      refine s_iconst (v := 1) B.1 dL_law_132 (by decide) ?_
      refine s_iadd B.1 dL_law_133 ?_
      refine l_sld B dL_law_134 (fun v8 => ?_)
      refine l_cw (As := [va_rf l1, .int v8]) (st := []) B (mW_L_open B.2.2.2.2.1.1 B.2.2.2.2.1.2.1 B.2.2.2.2.1.2.2 l1 v8) wc_L_open ll_74 ws_L_open ci_L wd_L_open (by decide) rfl (Nat.le_of_ble_eq_true rfl) dL_law_135 (fun r9 => ?_)
      refine s_istore (i := 5) (lv' := [(5, .int r9), (0, .ref b), (1, va_rf l1), (2, .ref g.1.2.2.2.2.2), (3, va_rf l3), (4, .int l4)]) B.1 dL_law_138 (by decide) rfl ?_
      refine s_aload_n B.1 3 dL_law_140 rfl rfl ?_
      refine s_aload_n B.1 1 dL_law_141 rfl rfl ?_
      refine s_iload B.1 5 dL_law_142 rfl ?_
      refine s_iconst (v := 1) B.1 dL_law_144 (by decide) ?_
      refine s_iadd B.1 dL_law_145 ?_
      refine l_sld B dL_law_146 (fun v10 => ?_)
      refine l_cmv (As := [.int v10]) (st := []) B (m_open B.2.2.2.2.2.1.1 v10) cc_X12_open cl_L_79 cn_X12_open ce_X12_open ci_X12 cd_X12_open (by decide) rfl (Nat.le_of_ble_eq_true rfl) dL_law_147 (fun r11 => ?_)
      refine s_aload_n B.1 3 dL_law_150 rfl rfl ?_
      refine l_cmi (As := []) (st := []) B (m_thrown B.2.2.2.2.2.1.1) cc_X12_thrown cl_L_80 cn_X12_thrown ce_X12_thrown ci_X12 cd_X12_thrown (by decide) rfl (Nat.le_of_ble_eq_true rfl) dL_law_151 (fun r12 => ?_)
      refine s_iload B.1 0 dL_law_154 rfl ?_
      refine s_icmp_eq B.1 161 dL_law_156 (by decide) ?_ ?_
      · refine s_goto B.1 1290 dL_law_161 (by decide) ?_
        refine s_iinc (v := l4 + 7) (lv' := [(4, .int (l4 + 7)), (5, .int r9), (0, .ref b), (1, va_rf l1), (2, .ref g.1.2.2.2.2.2), (3, va_rf l3)]) B.1 5 dL_law_1290 rfl rfl (by decide) (by simp [va_rf_cat, cat_i, cat_l, cat_r]) ?_
        refine s_goto B.1 23 dL_law_1293 (by decide) ?_
        exact Sm.lvs [2, 3, 4, 5, 0] rfl (hkb l1 l3 (l4 + 7))
      · exact Sm.fail
    refine s_sw1 B.1 1 164 dL_law_40 (by decide) (by decide) rfl (by decide) ?_ (fun hn1 => ?_)
    · refine s_rload_n B.1 1 dL_law_164 rfl rfl ?_
      refine s_aload_n B.1 0 dL_law_165 rfl rfl ?_
      refine s_iload B.1 4 dL_law_166 rfl ?_
      refine s_iconst (v := 1) B.1 dL_law_168 (by decide) ?_
      refine s_iadd B.1 dL_law_169 ?_
      refine l_sld B dL_law_170 (fun v13 => ?_)
      refine s_aload_n B.1 0 dL_law_171 rfl rfl ?_
      refine s_iload B.1 4 dL_law_172 rfl ?_
      refine s_iconst (v := 2) B.1 dL_law_174 (by decide) ?_
      refine s_iadd B.1 dL_law_175 ?_
      refine l_sld B dL_law_176 (fun v14 => ?_)
      refine s_i2l B.1 dL_law_177 ?_
      refine s_bipush (v := (32)) B.1 dL_law_178 (by decide) ?_
      refine s_lshl B.1 dL_law_180 ?_
      refine s_aload_n B.1 0 dL_law_181 rfl rfl ?_
      refine s_iload B.1 4 dL_law_182 rfl ?_
      refine s_iconst (v := 3) B.1 dL_law_184 (by decide) ?_
      refine s_iadd B.1 dL_law_185 ?_
      refine l_sld B dL_law_186 (fun v15 => ?_)
      refine s_i2l B.1 dL_law_187 ?_
      refine s_ldc2 (v := (4294967295)) B.1 tw_2253 dL_law_188 ?_
      refine s_land B.1 dL_law_191 ?_
      refine s_lor B.1 dL_law_192 ?_
      refine s_aload_n B.1 0 dL_law_193 rfl rfl ?_
      refine s_iload B.1 4 dL_law_194 rfl ?_
      refine s_iconst (v := 4) B.1 dL_law_196 (by decide) ?_
      refine s_iadd B.1 dL_law_197 ?_
      refine l_sld B dL_law_198 (fun v16 => ?_)
      refine s_i2l B.1 dL_law_199 ?_
      refine s_bipush (v := (32)) B.1 dL_law_200 (by decide) ?_
      refine s_lshl B.1 dL_law_202 ?_
      refine s_aload_n B.1 0 dL_law_203 rfl rfl ?_
      refine s_iload B.1 4 dL_law_204 rfl ?_
      refine s_iconst (v := 5) B.1 dL_law_206 (by decide) ?_
      refine s_iadd B.1 dL_law_207 ?_
      refine l_sld B dL_law_208 (fun v17 => ?_)
      refine s_i2l B.1 dL_law_209 ?_
      refine s_ldc2 (v := (4294967295)) B.1 tw_2253 dL_law_210 ?_
      refine s_land B.1 dL_law_213 ?_
      refine s_lor B.1 dL_law_214 ?_
      refine s_aload_n B.1 0 dL_law_215 rfl rfl ?_
      refine s_iload B.1 4 dL_law_216 rfl ?_
      refine s_bipush (v := (6)) B.1 dL_law_218 (by decide) ?_
      refine s_iadd B.1 dL_law_220 ?_
      refine l_sld B dL_law_221 (fun v18 => ?_)
      refine s_rload_n B.1 3 dL_law_222 rfl rfl ?_
      refine l_cw (As := [va_rf l1, .int v13, .long ((lshl6 v14.toInt64 (32 : Int32)) ||| (v15.toInt64 &&& (4294967295 : Int64))), .long ((lshl6 v16.toInt64 (32 : Int32)) ||| (v17.toInt64 &&& (4294967295 : Int64))), .int v18, va_rf l3]) (st := []) B (mW_L_feed B.2.2.2.2.1.1 B.2.2.2.2.1.2.1 B.2.2.2.2.1.2.2 l1 v13 ((lshl6 v14.toInt64 (32 : Int32)) ||| (v15.toInt64 &&& (4294967295 : Int64))) ((lshl6 v16.toInt64 (32 : Int32)) ||| (v17.toInt64 &&& (4294967295 : Int64))) v18 l3) wc_L_feed ll_86 ws_L_feed ci_L wd_L_feed (by decide) rfl (Nat.le_of_ble_eq_true rfl) dL_law_223 (fun r19 => ?_)
      refine s_istore (i := 5) (lv' := [(5, .int r19), (0, .ref b), (1, va_rf l1), (2, .ref g.1.2.2.2.2.2), (3, va_rf l3), (4, .int l4)]) B.1 dL_law_226 (by decide) rfl ?_
      refine s_aload_n B.1 3 dL_law_228 rfl rfl ?_
      refine s_aload_n B.1 1 dL_law_229 rfl rfl ?_
      refine s_iload B.1 5 dL_law_230 rfl ?_
      refine s_iconst (v := 1) B.1 dL_law_232 (by decide) ?_
      refine s_iadd B.1 dL_law_233 ?_
      refine l_sld B dL_law_234 (fun v20 => ?_)
      refine s_aload_n B.1 1 dL_law_235 rfl rfl ?_
      refine s_iload B.1 5 dL_law_236 rfl ?_
      refine s_iconst (v := 2) B.1 dL_law_238 (by decide) ?_
      refine s_iadd B.1 dL_law_239 ?_
      refine l_sld B dL_law_240 (fun v21 => ?_)
      refine s_i2l B.1 dL_law_241 ?_
      refine s_bipush (v := (32)) B.1 dL_law_242 (by decide) ?_
      refine s_lshl B.1 dL_law_244 ?_
      refine s_aload_n B.1 1 dL_law_245 rfl rfl ?_
      refine s_iload B.1 5 dL_law_246 rfl ?_
      refine s_iconst (v := 3) B.1 dL_law_248 (by decide) ?_
      refine s_iadd B.1 dL_law_249 ?_
      refine l_sld B dL_law_250 (fun v22 => ?_)
      refine s_i2l B.1 dL_law_251 ?_
      refine s_ldc2 (v := (4294967295)) B.1 tw_2253 dL_law_252 ?_
      refine s_land B.1 dL_law_255 ?_
      refine s_lor B.1 dL_law_256 ?_
      refine s_aload_n B.1 1 dL_law_257 rfl rfl ?_
      refine s_iload B.1 5 dL_law_258 rfl ?_
      refine s_iconst (v := 4) B.1 dL_law_260 (by decide) ?_
      refine s_iadd B.1 dL_law_261 ?_
      refine l_sld B dL_law_262 (fun v23 => ?_)
      refine s_i2l B.1 dL_law_263 ?_
      refine s_bipush (v := (32)) B.1 dL_law_264 (by decide) ?_
      refine s_lshl B.1 dL_law_266 ?_
      refine s_aload_n B.1 1 dL_law_267 rfl rfl ?_
      refine s_iload B.1 5 dL_law_268 rfl ?_
      refine s_iconst (v := 5) B.1 dL_law_270 (by decide) ?_
      refine s_iadd B.1 dL_law_271 ?_
      refine l_sld B dL_law_272 (fun v24 => ?_)
      refine s_i2l B.1 dL_law_273 ?_
      refine s_ldc2 (v := (4294967295)) B.1 tw_2253 dL_law_274 ?_
      refine s_land B.1 dL_law_277 ?_
      refine s_lor B.1 dL_law_278 ?_
      refine s_aload_n B.1 1 dL_law_279 rfl rfl ?_
      refine s_iload B.1 5 dL_law_280 rfl ?_
      refine s_bipush (v := (6)) B.1 dL_law_282 (by decide) ?_
      refine s_iadd B.1 dL_law_284 ?_
      refine l_sld B dL_law_285 (fun v25 => ?_)
      refine l_cmi (As := [.int v20, .long ((lshl6 v21.toInt64 (32 : Int32)) ||| (v22.toInt64 &&& (4294967295 : Int64))), .long ((lshl6 v23.toInt64 (32 : Int32)) ||| (v24.toInt64 &&& (4294967295 : Int64))), .int v25]) (st := []) B (m_feed B.2.2.2.2.2.1.1 v20 ((lshl6 v21.toInt64 (32 : Int32)) ||| (v22.toInt64 &&& (4294967295 : Int64))) ((lshl6 v23.toInt64 (32 : Int32)) ||| (v24.toInt64 &&& (4294967295 : Int64))) v25) cc_X12_feed cl_L_89 cn_X12_feed ce_X12_feed ci_X12 cd_X12_feed (by decide) rfl (Nat.le_of_ble_eq_true rfl) dL_law_286 (fun r26 => ?_)
      refine s_istore (i := 6) (lv' := [(6, .int r26), (5, .int r19), (0, .ref b), (1, va_rf l1), (2, .ref g.1.2.2.2.2.2), (3, va_rf l3), (4, .int l4)]) B.1 dL_law_289 (by decide) rfl ?_
      refine s_aload_n B.1 4 dL_law_291 rfl rfl ?_
      refine l_cmi (As := []) (st := []) B (m_thrown B.2.2.2.2.2.1.1) cc_X12_thrown cl_L_80 cn_X12_thrown ce_X12_thrown ci_X12 cd_X12_thrown (by decide) rfl (Nat.le_of_ble_eq_true rfl) dL_law_292 (fun r27 => ?_)
      refine s_iload B.1 1 dL_law_295 rfl ?_
      refine s_icmp_eq B.1 302 dL_law_297 (by decide) ?_ ?_
      · refine s_iload B.1 1 dL_law_302 rfl ?_
        refine s_if_ne B.1 319 dL_law_304 (by decide) ?_ ?_
        · refine s_goto B.1 1290 dL_law_319 (by decide) ?_
          refine s_iinc (v := l4 + 7) (lv' := [(4, .int (l4 + 7)), (6, .int r26), (5, .int r19), (0, .ref b), (1, va_rf l1), (2, .ref g.1.2.2.2.2.2), (3, va_rf l3)]) B.1 6 dL_law_1290 rfl rfl (by decide) (by simp [va_rf_cat, cat_i, cat_l, cat_r]) ?_
          refine s_goto B.1 23 dL_law_1293 (by decide) ?_
          exact Sm.lvs [3, 4, 5, 6, 0] rfl (hkb l1 l3 (l4 + 7))
        · refine s_rload_n B.1 5 dL_law_307 rfl rfl ?_
          refine s_iconst (v := 0) B.1 dL_law_308 (by decide) ?_
          refine l_Al B dL_law_309 (fun v28 => ?_)
          refine s_iload B.1 0 dL_law_310 rfl ?_
          refine s_i2l B.1 dL_law_312 ?_
          refine s_lcmp B.1 dL_law_313 ?_
          refine s_if_eq B.1 319 dL_law_314 (by decide) ?_ ?_
          · refine s_goto B.1 1290 dL_law_319 (by decide) ?_
            refine s_iinc (v := l4 + 7) (lv' := [(4, .int (l4 + 7)), (6, .int r26), (5, .int r19), (0, .ref b), (1, va_rf l1), (2, .ref g.1.2.2.2.2.2), (3, va_rf l3)]) B.1 6 dL_law_1290 rfl rfl (by decide) (by simp [va_rf_cat, cat_i, cat_l, cat_r]) ?_
            refine s_goto B.1 23 dL_law_1293 (by decide) ?_
            exact Sm.lvs [3, 4, 5, 6, 0] rfl (hkb l1 l3 (l4 + 7))
          · exact Sm.fail
      · exact Sm.fail
    refine s_sw1 B.1 2 322 dL_law_40 (by decide) (by decide) rfl (by decide) ?_ (fun hn2 => ?_)
    · refine s_rload_n B.1 1 dL_law_322 rfl rfl ?_
      refine s_aload_n B.1 0 dL_law_323 rfl rfl ?_
      refine s_iload B.1 4 dL_law_324 rfl ?_
      refine s_iconst (v := 1) B.1 dL_law_326 (by decide) ?_
      refine s_iadd B.1 dL_law_327 ?_
      refine l_sld B dL_law_328 (fun v29 => ?_)
      refine l_cw (As := [va_rf l1, .int v29]) (st := []) B (mW_L_lose B.2.2.2.2.1.1 B.2.2.2.2.1.2.1 B.2.2.2.2.1.2.2 l1 v29) wc_L_lose ll_90 ws_L_lose ci_L wd_L_lose (by decide) rfl (Nat.le_of_ble_eq_true rfl) dL_law_329 (fun r30 => ?_)
      refine s_istore (i := 5) (lv' := [(5, .int r30), (0, .ref b), (1, va_rf l1), (2, .ref g.1.2.2.2.2.2), (3, va_rf l3), (4, .int l4)]) B.1 dL_law_332 (by decide) rfl ?_
      refine s_aload_n B.1 3 dL_law_334 rfl rfl ?_
      refine s_aload_n B.1 1 dL_law_335 rfl rfl ?_
      refine s_iload B.1 5 dL_law_336 rfl ?_
      refine s_iconst (v := 1) B.1 dL_law_338 (by decide) ?_
      refine s_iadd B.1 dL_law_339 ?_
      refine l_sld B dL_law_340 (fun v31 => ?_)
      refine l_cmv (As := [.int v31]) (st := []) B (m_lose B.2.2.2.2.2.1.1 v31) cc_X12_lose cl_L_92 cn_X12_lose ce_X12_lose ci_X12 cd_X12_lose (by decide) rfl (Nat.le_of_ble_eq_true rfl) dL_law_341 (fun r32 => ?_)
      refine s_aload_n B.1 3 dL_law_344 rfl rfl ?_
      refine l_cmi (As := []) (st := []) B (m_thrown B.2.2.2.2.2.1.1) cc_X12_thrown cl_L_80 cn_X12_thrown ce_X12_thrown ci_X12 cd_X12_thrown (by decide) rfl (Nat.le_of_ble_eq_true rfl) dL_law_345 (fun r33 => ?_)
      refine s_iload B.1 0 dL_law_348 rfl ?_
      refine s_icmp_eq B.1 355 dL_law_350 (by decide) ?_ ?_
      · refine s_goto B.1 1290 dL_law_355 (by decide) ?_
        refine s_iinc (v := l4 + 7) (lv' := [(4, .int (l4 + 7)), (5, .int r30), (0, .ref b), (1, va_rf l1), (2, .ref g.1.2.2.2.2.2), (3, va_rf l3)]) B.1 5 dL_law_1290 rfl rfl (by decide) (by simp [va_rf_cat, cat_i, cat_l, cat_r]) ?_
        refine s_goto B.1 23 dL_law_1293 (by decide) ?_
        exact Sm.lvs [2, 3, 4, 5, 0] rfl (hkb l1 l3 (l4 + 7))
      · exact Sm.fail
    refine s_sw1 B.1 3 358 dL_law_40 (by decide) (by decide) rfl (by decide) ?_ (fun hn3 => ?_)
    · refine s_rload_n B.1 1 dL_law_358 rfl rfl ?_
      refine s_aload_n B.1 0 dL_law_359 rfl rfl ?_
      refine s_iload B.1 4 dL_law_360 rfl ?_
      refine s_iconst (v := 1) B.1 dL_law_362 (by decide) ?_
      refine s_iadd B.1 dL_law_363 ?_
      refine l_sld B dL_law_364 (fun v34 => ?_)
      refine s_rload_n B.1 3 dL_law_365 rfl rfl ?_
      refine l_cw (As := [va_rf l1, .int v34, va_rf l3]) (st := []) B (mW_L_isOpen B.2.2.2.2.1.1 B.2.2.2.2.1.2.1 B.2.2.2.2.1.2.2 l1 v34 l3) wc_L_isOpen ll_93 ws_L_isOpen ci_L wd_L_isOpen (by decide) rfl (Nat.le_of_ble_eq_true rfl) dL_law_366 (fun r35 => ?_)
      refine s_istore (i := 5) (lv' := [(5, .int r35), (0, .ref b), (1, va_rf l1), (2, .ref g.1.2.2.2.2.2), (3, va_rf l3), (4, .int l4)]) B.1 dL_law_369 (by decide) rfl ?_
      refine s_aload_n B.1 3 dL_law_371 rfl rfl ?_
      refine s_aload_n B.1 1 dL_law_372 rfl rfl ?_
      refine s_iload B.1 5 dL_law_373 rfl ?_
      refine s_iconst (v := 1) B.1 dL_law_375 (by decide) ?_
      refine s_iadd B.1 dL_law_376 ?_
      refine l_sld B dL_law_377 (fun v36 => ?_)
      refine l_cmi (As := [.int v36]) (st := []) B (m_isOpen B.2.2.2.2.2.1.1 v36) cc_X12_isOpen cl_L_96 cn_X12_isOpen ce_X12_isOpen ci_X12 cd_X12_isOpen (by decide) rfl (Nat.le_of_ble_eq_true rfl) dL_law_378 (fun r37 => ?_)
      refine s_istore (i := 6) (lv' := [(6, .int r37), (5, .int r35), (0, .ref b), (1, va_rf l1), (2, .ref g.1.2.2.2.2.2), (3, va_rf l3), (4, .int l4)]) B.1 dL_law_381 (by decide) rfl ?_
      refine s_aload_n B.1 4 dL_law_383 rfl rfl ?_
      refine l_cmi (As := []) (st := []) B (m_thrown B.2.2.2.2.2.1.1) cc_X12_thrown cl_L_80 cn_X12_thrown ce_X12_thrown ci_X12 cd_X12_thrown (by decide) rfl (Nat.le_of_ble_eq_true rfl) dL_law_384 (fun r38 => ?_)
      refine s_iload B.1 1 dL_law_387 rfl ?_
      refine s_icmp_eq B.1 394 dL_law_389 (by decide) ?_ ?_
      · refine s_iload B.1 1 dL_law_394 rfl ?_
        refine s_if_ne B.1 418 dL_law_396 (by decide) ?_ ?_
        · refine s_goto B.1 1290 dL_law_418 (by decide) ?_
          refine s_iinc (v := l4 + 7) (lv' := [(4, .int (l4 + 7)), (6, .int r37), (5, .int r35), (0, .ref b), (1, va_rf l1), (2, .ref g.1.2.2.2.2.2), (3, va_rf l3)]) B.1 6 dL_law_1290 rfl rfl (by decide) (by simp [va_rf_cat, cat_i, cat_l, cat_r]) ?_
          refine s_goto B.1 23 dL_law_1293 (by decide) ?_
          exact Sm.lvs [3, 4, 5, 6, 0] rfl (hkb l1 l3 (l4 + 7))
        · refine s_rload_n B.1 5 dL_law_399 rfl rfl ?_
          refine s_iconst (v := 0) B.1 dL_law_400 (by decide) ?_
          refine l_Al B dL_law_401 (fun v39 => ?_)
          refine s_iload B.1 0 dL_law_402 rfl ?_
          refine s_if_eq B.1 411 dL_law_404 (by decide) ?_ ?_
          · refine s_lconst (v := 0) B.1 dL_law_411 (by decide) ?_
            exact Sm.lvs [2, 3, 4, 5, 6] rfl (sc_L_law_J412 B hkb hke1296 l1 l3 l4 v39 (0 : Int64))
          · refine s_lconst (v := 1) B.1 dL_law_407 (by decide) ?_
            refine s_goto B.1 412 dL_law_408 (by decide) ?_
            exact Sm.lvs [2, 3, 4, 5, 6] rfl (sc_L_law_J412 B hkb hke1296 l1 l3 l4 v39 (1 : Int64))
      · exact Sm.fail
    refine s_sw1 B.1 4 421 dL_law_40 (by decide) (by decide) rfl (by decide) ?_ (fun hn4 => ?_)
    · refine s_rload_n B.1 1 dL_law_421 rfl rfl ?_
      refine s_aload_n B.1 0 dL_law_422 rfl rfl ?_
      refine s_iload B.1 4 dL_law_423 rfl ?_
      refine s_iconst (v := 1) B.1 dL_law_425 (by decide) ?_
      refine s_iadd B.1 dL_law_426 ?_
      refine l_sld B dL_law_427 (fun v40 => ?_)
      refine s_rload_n B.1 3 dL_law_428 rfl rfl ?_
      refine l_cw (As := [va_rf l1, .int v40, va_rf l3]) (st := []) B (mW_L_size B.2.2.2.2.1.1 B.2.2.2.2.1.2.1 B.2.2.2.2.1.2.2 l1 v40 l3) wc_L_size ll_97 ws_L_size ci_L wd_L_size (by decide) rfl (Nat.le_of_ble_eq_true rfl) dL_law_429 (fun r41 => ?_)
      refine s_istore (i := 5) (lv' := [(5, .int r41), (0, .ref b), (1, va_rf l1), (2, .ref g.1.2.2.2.2.2), (3, va_rf l3), (4, .int l4)]) B.1 dL_law_432 (by decide) rfl ?_
      refine s_aload_n B.1 3 dL_law_434 rfl rfl ?_
      refine s_aload_n B.1 1 dL_law_435 rfl rfl ?_
      refine s_iload B.1 5 dL_law_436 rfl ?_
      refine s_iconst (v := 1) B.1 dL_law_438 (by decide) ?_
      refine s_iadd B.1 dL_law_439 ?_
      refine l_sld B dL_law_440 (fun v42 => ?_)
      refine l_cmi (As := [.int v42]) (st := []) B (m_size B.2.2.2.2.2.1.1 v42) cc_X12_size cl_L_99 cn_X12_size ce_X12_size ci_X12 cd_X12_size (by decide) rfl (Nat.le_of_ble_eq_true rfl) dL_law_441 (fun r43 => ?_)
      refine s_istore (i := 6) (lv' := [(6, .int r43), (5, .int r41), (0, .ref b), (1, va_rf l1), (2, .ref g.1.2.2.2.2.2), (3, va_rf l3), (4, .int l4)]) B.1 dL_law_444 (by decide) rfl ?_
      refine s_aload_n B.1 4 dL_law_446 rfl rfl ?_
      refine l_cmi (As := []) (st := []) B (m_thrown B.2.2.2.2.2.1.1) cc_X12_thrown cl_L_80 cn_X12_thrown ce_X12_thrown ci_X12 cd_X12_thrown (by decide) rfl (Nat.le_of_ble_eq_true rfl) dL_law_447 (fun r44 => ?_)
      refine s_iload B.1 1 dL_law_450 rfl ?_
      refine s_icmp_eq B.1 457 dL_law_452 (by decide) ?_ ?_
      · refine s_iload B.1 1 dL_law_457 rfl ?_
        refine s_if_ne B.1 474 dL_law_459 (by decide) ?_ ?_
        · refine s_goto B.1 1290 dL_law_474 (by decide) ?_
          refine s_iinc (v := l4 + 7) (lv' := [(4, .int (l4 + 7)), (6, .int r43), (5, .int r41), (0, .ref b), (1, va_rf l1), (2, .ref g.1.2.2.2.2.2), (3, va_rf l3)]) B.1 6 dL_law_1290 rfl rfl (by decide) (by simp [va_rf_cat, cat_i, cat_l, cat_r]) ?_
          refine s_goto B.1 23 dL_law_1293 (by decide) ?_
          exact Sm.lvs [3, 4, 5, 6, 0] rfl (hkb l1 l3 (l4 + 7))
        · refine s_rload_n B.1 5 dL_law_462 rfl rfl ?_
          refine s_iconst (v := 0) B.1 dL_law_463 (by decide) ?_
          refine l_Al B dL_law_464 (fun v45 => ?_)
          refine s_iload B.1 0 dL_law_465 rfl ?_
          refine s_i2l B.1 dL_law_467 ?_
          refine s_lcmp B.1 dL_law_468 ?_
          refine s_if_eq B.1 474 dL_law_469 (by decide) ?_ ?_
          · refine s_goto B.1 1290 dL_law_474 (by decide) ?_
            refine s_iinc (v := l4 + 7) (lv' := [(4, .int (l4 + 7)), (6, .int r43), (5, .int r41), (0, .ref b), (1, va_rf l1), (2, .ref g.1.2.2.2.2.2), (3, va_rf l3)]) B.1 6 dL_law_1290 rfl rfl (by decide) (by simp [va_rf_cat, cat_i, cat_l, cat_r]) ?_
            refine s_goto B.1 23 dL_law_1293 (by decide) ?_
            exact Sm.lvs [3, 4, 5, 6, 0] rfl (hkb l1 l3 (l4 + 7))
          · exact Sm.fail
      · exact Sm.fail
    refine s_sw1 B.1 5 477 dL_law_40 (by decide) (by decide) rfl (by decide) ?_ (fun hn5 => ?_)
    · refine s_rload_n B.1 1 dL_law_477 rfl rfl ?_
      refine s_aload_n B.1 0 dL_law_478 rfl rfl ?_
      refine s_iload B.1 4 dL_law_479 rfl ?_
      refine s_iconst (v := 1) B.1 dL_law_481 (by decide) ?_
      refine s_iadd B.1 dL_law_482 ?_
      refine l_sld B dL_law_483 (fun v46 => ?_)
      refine s_aload_n B.1 0 dL_law_484 rfl rfl ?_
      refine s_iload B.1 4 dL_law_485 rfl ?_
      refine s_iconst (v := 2) B.1 dL_law_487 (by decide) ?_
      refine s_iadd B.1 dL_law_488 ?_
      refine l_sld B dL_law_489 (fun v47 => ?_)
      refine s_rload_n B.1 3 dL_law_490 rfl rfl ?_
      refine l_cw (As := [va_rf l1, .int v46, .int v47, va_rf l3]) (st := []) B (mW_L_out B.2.2.2.2.1.1 B.2.2.2.2.1.2.1 B.2.2.2.2.1.2.2 l1 v46 v47 l3) wc_L_out ll_100 ws_L_out ci_L wd_L_out (by decide) rfl (Nat.le_of_ble_eq_true rfl) dL_law_491 (fun r48 => ?_)
      refine s_istore (i := 5) (lv' := [(5, .int r48), (0, .ref b), (1, va_rf l1), (2, .ref g.1.2.2.2.2.2), (3, va_rf l3), (4, .int l4)]) B.1 dL_law_494 (by decide) rfl ?_
      refine s_aload_n B.1 3 dL_law_496 rfl rfl ?_
      refine s_aload_n B.1 1 dL_law_497 rfl rfl ?_
      refine s_iload B.1 5 dL_law_498 rfl ?_
      refine s_iconst (v := 1) B.1 dL_law_500 (by decide) ?_
      refine s_iadd B.1 dL_law_501 ?_
      refine l_sld B dL_law_502 (fun v49 => ?_)
      refine s_aload_n B.1 1 dL_law_503 rfl rfl ?_
      refine s_iload B.1 5 dL_law_504 rfl ?_
      refine s_iconst (v := 2) B.1 dL_law_506 (by decide) ?_
      refine s_iadd B.1 dL_law_507 ?_
      refine l_sld B dL_law_508 (fun v50 => ?_)
      refine l_cmi (As := [.int v49, .int v50]) (st := []) B (m_out B.2.2.2.2.2.1.1 v49 v50) cc_X12_out cl_L_103 cn_X12_out ce_X12_out ci_X12 cd_X12_out (by decide) rfl (Nat.le_of_ble_eq_true rfl) dL_law_509 (fun r51 => ?_)
      refine s_istore (i := 6) (lv' := [(6, .int r51), (5, .int r48), (0, .ref b), (1, va_rf l1), (2, .ref g.1.2.2.2.2.2), (3, va_rf l3), (4, .int l4)]) B.1 dL_law_512 (by decide) rfl ?_
      refine s_aload_n B.1 4 dL_law_514 rfl rfl ?_
      refine l_cmi (As := []) (st := []) B (m_thrown B.2.2.2.2.2.1.1) cc_X12_thrown cl_L_80 cn_X12_thrown ce_X12_thrown ci_X12 cd_X12_thrown (by decide) rfl (Nat.le_of_ble_eq_true rfl) dL_law_515 (fun r52 => ?_)
      refine s_iload B.1 1 dL_law_518 rfl ?_
      refine s_icmp_eq B.1 525 dL_law_520 (by decide) ?_ ?_
      · refine s_iload B.1 1 dL_law_525 rfl ?_
        refine s_if_ne B.1 542 dL_law_527 (by decide) ?_ ?_
        · refine s_goto B.1 1290 dL_law_542 (by decide) ?_
          refine s_iinc (v := l4 + 7) (lv' := [(4, .int (l4 + 7)), (6, .int r51), (5, .int r48), (0, .ref b), (1, va_rf l1), (2, .ref g.1.2.2.2.2.2), (3, va_rf l3)]) B.1 6 dL_law_1290 rfl rfl (by decide) (by simp [va_rf_cat, cat_i, cat_l, cat_r]) ?_
          refine s_goto B.1 23 dL_law_1293 (by decide) ?_
          exact Sm.lvs [3, 4, 5, 6, 0] rfl (hkb l1 l3 (l4 + 7))
        · refine s_rload_n B.1 5 dL_law_530 rfl rfl ?_
          refine s_iconst (v := 0) B.1 dL_law_531 (by decide) ?_
          refine l_Al B dL_law_532 (fun v53 => ?_)
          refine s_iload B.1 0 dL_law_533 rfl ?_
          refine s_i2l B.1 dL_law_535 ?_
          refine s_lcmp B.1 dL_law_536 ?_
          refine s_if_eq B.1 542 dL_law_537 (by decide) ?_ ?_
          · refine s_goto B.1 1290 dL_law_542 (by decide) ?_
            refine s_iinc (v := l4 + 7) (lv' := [(4, .int (l4 + 7)), (6, .int r51), (5, .int r48), (0, .ref b), (1, va_rf l1), (2, .ref g.1.2.2.2.2.2), (3, va_rf l3)]) B.1 6 dL_law_1290 rfl rfl (by decide) (by simp [va_rf_cat, cat_i, cat_l, cat_r]) ?_
            refine s_goto B.1 23 dL_law_1293 (by decide) ?_
            exact Sm.lvs [3, 4, 5, 6, 0] rfl (hkb l1 l3 (l4 + 7))
          · exact Sm.fail
      · exact Sm.fail
    refine s_sw1 B.1 6 545 dL_law_40 (by decide) (by decide) rfl (by decide) ?_ (fun hn6 => ?_)
    · refine s_rload_n B.1 1 dL_law_545 rfl rfl ?_
      refine s_aload_n B.1 0 dL_law_546 rfl rfl ?_
      refine s_iload B.1 4 dL_law_547 rfl ?_
      refine s_iconst (v := 1) B.1 dL_law_549 (by decide) ?_
      refine s_iadd B.1 dL_law_550 ?_
      refine l_sld B dL_law_551 (fun v54 => ?_)
      refine s_aload_n B.1 0 dL_law_552 rfl rfl ?_
      refine s_iload B.1 4 dL_law_553 rfl ?_
      refine s_iconst (v := 2) B.1 dL_law_555 (by decide) ?_
      refine s_iadd B.1 dL_law_556 ?_
      refine l_sld B dL_law_557 (fun v55 => ?_)
      refine s_rload_n B.1 3 dL_law_558 rfl rfl ?_
      refine l_cw (As := [va_rf l1, .int v54, .int v55, va_rf l3]) (st := []) B (mW_L_take B.2.2.2.2.1.1 B.2.2.2.2.1.2.1 B.2.2.2.2.1.2.2 l1 v54 v55 l3) wc_L_take ll_104 ws_L_take ci_L wd_L_take (by decide) rfl (Nat.le_of_ble_eq_true rfl) dL_law_559 (fun r56 => ?_)
      refine s_istore (i := 5) (lv' := [(5, .int r56), (0, .ref b), (1, va_rf l1), (2, .ref g.1.2.2.2.2.2), (3, va_rf l3), (4, .int l4)]) B.1 dL_law_562 (by decide) rfl ?_
      refine s_aload_n B.1 3 dL_law_564 rfl rfl ?_
      refine s_aload_n B.1 1 dL_law_565 rfl rfl ?_
      refine s_iload B.1 5 dL_law_566 rfl ?_
      refine s_iconst (v := 1) B.1 dL_law_568 (by decide) ?_
      refine s_iadd B.1 dL_law_569 ?_
      refine l_sld B dL_law_570 (fun v57 => ?_)
      refine s_aload_n B.1 1 dL_law_571 rfl rfl ?_
      refine s_iload B.1 5 dL_law_572 rfl ?_
      refine s_iconst (v := 2) B.1 dL_law_574 (by decide) ?_
      refine s_iadd B.1 dL_law_575 ?_
      refine l_sld B dL_law_576 (fun v58 => ?_)
      refine l_cmi (As := [.int v57, .int v58]) (st := []) B (m_take B.2.2.2.2.2.1.1 v57 v58) cc_X12_take cl_L_106 cn_X12_take ce_X12_take ci_X12 cd_X12_take (by decide) rfl (Nat.le_of_ble_eq_true rfl) dL_law_577 (fun r59 => ?_)
      refine s_istore (i := 6) (lv' := [(6, .int r59), (5, .int r56), (0, .ref b), (1, va_rf l1), (2, .ref g.1.2.2.2.2.2), (3, va_rf l3), (4, .int l4)]) B.1 dL_law_580 (by decide) rfl ?_
      refine s_aload_n B.1 4 dL_law_582 rfl rfl ?_
      refine l_cmi (As := []) (st := []) B (m_thrown B.2.2.2.2.2.1.1) cc_X12_thrown cl_L_80 cn_X12_thrown ce_X12_thrown ci_X12 cd_X12_thrown (by decide) rfl (Nat.le_of_ble_eq_true rfl) dL_law_583 (fun r60 => ?_)
      refine s_iload B.1 1 dL_law_586 rfl ?_
      refine s_icmp_eq B.1 593 dL_law_588 (by decide) ?_ ?_
      · refine s_iload B.1 1 dL_law_593 rfl ?_
        refine s_if_ne B.1 610 dL_law_595 (by decide) ?_ ?_
        · refine s_goto B.1 1290 dL_law_610 (by decide) ?_
          refine s_iinc (v := l4 + 7) (lv' := [(4, .int (l4 + 7)), (6, .int r59), (5, .int r56), (0, .ref b), (1, va_rf l1), (2, .ref g.1.2.2.2.2.2), (3, va_rf l3)]) B.1 6 dL_law_1290 rfl rfl (by decide) (by simp [va_rf_cat, cat_i, cat_l, cat_r]) ?_
          refine s_goto B.1 23 dL_law_1293 (by decide) ?_
          exact Sm.lvs [3, 4, 5, 6, 0] rfl (hkb l1 l3 (l4 + 7))
        · refine s_rload_n B.1 5 dL_law_598 rfl rfl ?_
          refine s_iconst (v := 0) B.1 dL_law_599 (by decide) ?_
          refine l_Al B dL_law_600 (fun v61 => ?_)
          refine s_iload B.1 0 dL_law_601 rfl ?_
          refine s_i2l B.1 dL_law_603 ?_
          refine s_lcmp B.1 dL_law_604 ?_
          refine s_if_eq B.1 610 dL_law_605 (by decide) ?_ ?_
          · refine s_goto B.1 1290 dL_law_610 (by decide) ?_
            refine s_iinc (v := l4 + 7) (lv' := [(4, .int (l4 + 7)), (6, .int r59), (5, .int r56), (0, .ref b), (1, va_rf l1), (2, .ref g.1.2.2.2.2.2), (3, va_rf l3)]) B.1 6 dL_law_1290 rfl rfl (by decide) (by simp [va_rf_cat, cat_i, cat_l, cat_r]) ?_
            refine s_goto B.1 23 dL_law_1293 (by decide) ?_
            exact Sm.lvs [3, 4, 5, 6, 0] rfl (hkb l1 l3 (l4 + 7))
          · exact Sm.fail
      · exact Sm.fail
    refine s_sw1 B.1 7 613 dL_law_40 (by decide) (by decide) rfl (by decide) ?_ (fun hn7 => ?_)
    · refine s_rload_n B.1 1 dL_law_613 rfl rfl ?_
      refine s_aload_n B.1 0 dL_law_614 rfl rfl ?_
      refine s_iload B.1 4 dL_law_615 rfl ?_
      refine s_iconst (v := 1) B.1 dL_law_617 (by decide) ?_
      refine s_iadd B.1 dL_law_618 ?_
      refine l_sld B dL_law_619 (fun v62 => ?_)
      refine s_rload_n B.1 3 dL_law_620 rfl rfl ?_
      refine l_cw (As := [va_rf l1, .int v62, va_rf l3]) (st := []) B (mW_L_pending B.2.2.2.2.1.1 B.2.2.2.2.1.2.1 B.2.2.2.2.1.2.2 l1 v62 l3) wc_L_pending ll_107 ws_L_pending ci_L wd_L_pending (by decide) rfl (Nat.le_of_ble_eq_true rfl) dL_law_621 (fun r63 => ?_)
      refine s_istore (i := 5) (lv' := [(5, .int r63), (0, .ref b), (1, va_rf l1), (2, .ref g.1.2.2.2.2.2), (3, va_rf l3), (4, .int l4)]) B.1 dL_law_624 (by decide) rfl ?_
      refine s_aload_n B.1 3 dL_law_626 rfl rfl ?_
      refine s_aload_n B.1 1 dL_law_627 rfl rfl ?_
      refine s_iload B.1 5 dL_law_628 rfl ?_
      refine s_iconst (v := 1) B.1 dL_law_630 (by decide) ?_
      refine s_iadd B.1 dL_law_631 ?_
      refine l_sld B dL_law_632 (fun v64 => ?_)
      refine l_cmi (As := [.int v64]) (st := []) B (m_pending B.2.2.2.2.2.1.1 v64) cc_X12_pending cl_L_109 cn_X12_pending ce_X12_pending ci_X12 cd_X12_pending (by decide) rfl (Nat.le_of_ble_eq_true rfl) dL_law_633 (fun r65 => ?_)
      refine s_istore (i := 6) (lv' := [(6, .int r65), (5, .int r63), (0, .ref b), (1, va_rf l1), (2, .ref g.1.2.2.2.2.2), (3, va_rf l3), (4, .int l4)]) B.1 dL_law_636 (by decide) rfl ?_
      refine s_aload_n B.1 4 dL_law_638 rfl rfl ?_
      refine l_cmi (As := []) (st := []) B (m_thrown B.2.2.2.2.2.1.1) cc_X12_thrown cl_L_80 cn_X12_thrown ce_X12_thrown ci_X12 cd_X12_thrown (by decide) rfl (Nat.le_of_ble_eq_true rfl) dL_law_639 (fun r66 => ?_)
      refine s_iload B.1 1 dL_law_642 rfl ?_
      refine s_icmp_eq B.1 649 dL_law_644 (by decide) ?_ ?_
      · refine s_iload B.1 1 dL_law_649 rfl ?_
        refine s_if_ne B.1 666 dL_law_651 (by decide) ?_ ?_
        · refine s_goto B.1 1290 dL_law_666 (by decide) ?_
          refine s_iinc (v := l4 + 7) (lv' := [(4, .int (l4 + 7)), (6, .int r65), (5, .int r63), (0, .ref b), (1, va_rf l1), (2, .ref g.1.2.2.2.2.2), (3, va_rf l3)]) B.1 6 dL_law_1290 rfl rfl (by decide) (by simp [va_rf_cat, cat_i, cat_l, cat_r]) ?_
          refine s_goto B.1 23 dL_law_1293 (by decide) ?_
          exact Sm.lvs [3, 4, 5, 6, 0] rfl (hkb l1 l3 (l4 + 7))
        · refine s_rload_n B.1 5 dL_law_654 rfl rfl ?_
          refine s_iconst (v := 0) B.1 dL_law_655 (by decide) ?_
          refine l_Al B dL_law_656 (fun v67 => ?_)
          refine s_iload B.1 0 dL_law_657 rfl ?_
          refine s_i2l B.1 dL_law_659 ?_
          refine s_lcmp B.1 dL_law_660 ?_
          refine s_if_eq B.1 666 dL_law_661 (by decide) ?_ ?_
          · refine s_goto B.1 1290 dL_law_666 (by decide) ?_
            refine s_iinc (v := l4 + 7) (lv' := [(4, .int (l4 + 7)), (6, .int r65), (5, .int r63), (0, .ref b), (1, va_rf l1), (2, .ref g.1.2.2.2.2.2), (3, va_rf l3)]) B.1 6 dL_law_1290 rfl rfl (by decide) (by simp [va_rf_cat, cat_i, cat_l, cat_r]) ?_
            refine s_goto B.1 23 dL_law_1293 (by decide) ?_
            exact Sm.lvs [3, 4, 5, 6, 0] rfl (hkb l1 l3 (l4 + 7))
          · exact Sm.fail
      · exact Sm.fail
    refine s_sw1 B.1 8 669 dL_law_40 (by decide) (by decide) rfl (by decide) ?_ (fun hn8 => ?_)
    · refine s_rload_n B.1 1 dL_law_669 rfl rfl ?_
      refine s_aload_n B.1 0 dL_law_670 rfl rfl ?_
      refine s_iload B.1 4 dL_law_671 rfl ?_
      refine s_iconst (v := 1) B.1 dL_law_673 (by decide) ?_
      refine s_iadd B.1 dL_law_674 ?_
      refine l_sld B dL_law_675 (fun v68 => ?_)
      refine s_rload_n B.1 3 dL_law_676 rfl rfl ?_
      refine l_cw (As := [va_rf l1, .int v68, va_rf l3]) (st := []) B (mW_L_pass B.2.2.2.2.1.1 B.2.2.2.2.1.2.1 B.2.2.2.2.1.2.2 l1 v68 l3) wc_L_pass ll_110 ws_L_pass ci_L wd_L_pass (by decide) rfl (Nat.le_of_ble_eq_true rfl) dL_law_677 (fun r69 => ?_)
      refine s_istore (i := 5) (lv' := [(5, .int r69), (0, .ref b), (1, va_rf l1), (2, .ref g.1.2.2.2.2.2), (3, va_rf l3), (4, .int l4)]) B.1 dL_law_680 (by decide) rfl ?_
      refine s_aload_n B.1 3 dL_law_682 rfl rfl ?_
      refine s_aload_n B.1 1 dL_law_683 rfl rfl ?_
      refine s_iload B.1 5 dL_law_684 rfl ?_
      refine s_iconst (v := 1) B.1 dL_law_686 (by decide) ?_
      refine s_iadd B.1 dL_law_687 ?_
      refine l_sld B dL_law_688 (fun v70 => ?_)
      refine l_cmi (As := [.int v70]) (st := []) B (m_pass B.2.2.2.2.2.1.1 v70) cc_X12_pass cl_L_112 cn_X12_pass ce_X12_pass ci_X12 cd_X12_pass (by decide) rfl (Nat.le_of_ble_eq_true rfl) dL_law_689 (fun r71 => ?_)
      refine s_istore (i := 6) (lv' := [(6, .int r71), (5, .int r69), (0, .ref b), (1, va_rf l1), (2, .ref g.1.2.2.2.2.2), (3, va_rf l3), (4, .int l4)]) B.1 dL_law_692 (by decide) rfl ?_
      refine s_aload_n B.1 4 dL_law_694 rfl rfl ?_
      refine l_cmi (As := []) (st := []) B (m_thrown B.2.2.2.2.2.1.1) cc_X12_thrown cl_L_80 cn_X12_thrown ce_X12_thrown ci_X12 cd_X12_thrown (by decide) rfl (Nat.le_of_ble_eq_true rfl) dL_law_695 (fun r72 => ?_)
      refine s_iload B.1 1 dL_law_698 rfl ?_
      refine s_icmp_eq B.1 705 dL_law_700 (by decide) ?_ ?_
      · refine s_iload B.1 1 dL_law_705 rfl ?_
        refine s_if_ne B.1 722 dL_law_707 (by decide) ?_ ?_
        · refine s_goto B.1 1290 dL_law_722 (by decide) ?_
          refine s_iinc (v := l4 + 7) (lv' := [(4, .int (l4 + 7)), (6, .int r71), (5, .int r69), (0, .ref b), (1, va_rf l1), (2, .ref g.1.2.2.2.2.2), (3, va_rf l3)]) B.1 6 dL_law_1290 rfl rfl (by decide) (by simp [va_rf_cat, cat_i, cat_l, cat_r]) ?_
          refine s_goto B.1 23 dL_law_1293 (by decide) ?_
          exact Sm.lvs [3, 4, 5, 6, 0] rfl (hkb l1 l3 (l4 + 7))
        · refine s_rload_n B.1 5 dL_law_710 rfl rfl ?_
          refine s_iconst (v := 0) B.1 dL_law_711 (by decide) ?_
          refine l_Al B dL_law_712 (fun v73 => ?_)
          refine s_iload B.1 0 dL_law_713 rfl ?_
          refine s_i2l B.1 dL_law_715 ?_
          refine s_lcmp B.1 dL_law_716 ?_
          refine s_if_eq B.1 722 dL_law_717 (by decide) ?_ ?_
          · refine s_goto B.1 1290 dL_law_722 (by decide) ?_
            refine s_iinc (v := l4 + 7) (lv' := [(4, .int (l4 + 7)), (6, .int r71), (5, .int r69), (0, .ref b), (1, va_rf l1), (2, .ref g.1.2.2.2.2.2), (3, va_rf l3)]) B.1 6 dL_law_1290 rfl rfl (by decide) (by simp [va_rf_cat, cat_i, cat_l, cat_r]) ?_
            refine s_goto B.1 23 dL_law_1293 (by decide) ?_
            exact Sm.lvs [3, 4, 5, 6, 0] rfl (hkb l1 l3 (l4 + 7))
          · exact Sm.fail
      · exact Sm.fail
    refine s_sw1 B.1 9 725 dL_law_40 (by decide) (by decide) rfl (by decide) ?_ (fun hn9 => ?_)
    · refine s_rload_n B.1 1 dL_law_725 rfl rfl ?_
      refine s_aload_n B.1 0 dL_law_726 rfl rfl ?_
      refine s_iload B.1 4 dL_law_727 rfl ?_
      refine s_iconst (v := 1) B.1 dL_law_729 (by decide) ?_
      refine s_iadd B.1 dL_law_730 ?_
      refine l_sld B dL_law_731 (fun v74 => ?_)
      refine l_cv (As := [.int v74]) (st := []) 13 rfl (by decide) B (fun a => mC_X11_isSession B.2.2.2.2.1.1 a v74) cc_X11_isSession cl_L_113 cn_X11_isSession ce_X11_isSession ci_X11 cd_X11_isSession (by decide) rfl (Nat.le_of_ble_eq_true rfl) dL_law_732 (fun r75 => ?_)
      refine s_aload_n B.1 2 dL_law_735 rfl rfl ?_
      refine s_aload_n B.1 0 dL_law_736 rfl rfl ?_
      refine s_iload B.1 4 dL_law_737 rfl ?_
      refine s_iconst (v := 1) B.1 dL_law_739 (by decide) ?_
      refine s_iadd B.1 dL_law_740 ?_
      refine l_sld B dL_law_741 (fun v76 => ?_)
      refine l_cmi (As := [.int v76]) (st := [.int r75]) B (m_isSession B.2.2.2.2.2.1.1 v76) cc_X12_isSession cl_L_116 cn_X12_isSession ce_X12_isSession ci_X12 cd_X12_isSession (by decide) rfl (Nat.le_of_ble_eq_true rfl) dL_law_742 (fun r77 => ?_)
      refine s_icmp_eq B.1 1290 dL_law_745 (by decide) ?_ ?_
      · refine s_iinc (v := l4 + 7) (lv' := [(4, .int (l4 + 7)), (0, .ref b), (1, va_rf l1), (2, .ref g.1.2.2.2.2.2), (3, va_rf l3)]) B.1 4 dL_law_1290 rfl rfl (by decide) (by simp [va_rf_cat, cat_i, cat_l, cat_r]) ?_
        refine s_goto B.1 23 dL_law_1293 (by decide) ?_
        exact Sm.lvs [1, 2, 3, 4, 0] rfl (hkb l1 l3 (l4 + 7))
      · exact Sm.fail
    refine s_sw1 B.1 10 750 dL_law_40 (by decide) (by decide) rfl (by decide) ?_ (fun hn10 => ?_)
    · refine s_rload_n B.1 1 dL_law_750 rfl rfl ?_
      refine s_aload_n B.1 0 dL_law_751 rfl rfl ?_
      refine s_iload B.1 4 dL_law_752 rfl ?_
      refine s_iconst (v := 1) B.1 dL_law_754 (by decide) ?_
      refine s_iadd B.1 dL_law_755 ?_
      refine l_sld B dL_law_756 (fun v78 => ?_)
      refine s_aload_n B.1 0 dL_law_757 rfl rfl ?_
      refine s_iload B.1 4 dL_law_758 rfl ?_
      refine s_iconst (v := 2) B.1 dL_law_760 (by decide) ?_
      refine s_iadd B.1 dL_law_761 ?_
      refine l_sld B dL_law_762 (fun v79 => ?_)
      refine s_rload_n B.1 3 dL_law_763 rfl rfl ?_
      refine l_cw (As := [va_rf l1, .int v78, .int v79, va_rf l3]) (st := []) B (mW_L_session B.2.2.2.2.1.1 B.2.2.2.2.1.2.1 B.2.2.2.2.1.2.2 l1 v78 v79 l3) wc_L_session ll_117 ws_L_session ci_L wd_L_session (by decide) rfl (Nat.le_of_ble_eq_true rfl) dL_law_764 (fun r80 => ?_)
      refine s_istore (i := 5) (lv' := [(5, .int r80), (0, .ref b), (1, va_rf l1), (2, .ref g.1.2.2.2.2.2), (3, va_rf l3), (4, .int l4)]) B.1 dL_law_767 (by decide) rfl ?_
      refine s_aload_n B.1 3 dL_law_769 rfl rfl ?_
      refine s_aload_n B.1 1 dL_law_770 rfl rfl ?_
      refine s_iload B.1 5 dL_law_771 rfl ?_
      refine s_iconst (v := 1) B.1 dL_law_773 (by decide) ?_
      refine s_iadd B.1 dL_law_774 ?_
      refine l_sld B dL_law_775 (fun v81 => ?_)
      refine s_aload_n B.1 1 dL_law_776 rfl rfl ?_
      refine s_iload B.1 5 dL_law_777 rfl ?_
      refine s_iconst (v := 2) B.1 dL_law_779 (by decide) ?_
      refine s_iadd B.1 dL_law_780 ?_
      refine l_sld B dL_law_781 (fun v82 => ?_)
      refine l_cmi (As := [.int v81, .int v82]) (st := []) B (m_session B.2.2.2.2.2.1.1 v81 v82) cc_X12_session cl_L_119 cn_X12_session ce_X12_session ci_X12 cd_X12_session (by decide) rfl (Nat.le_of_ble_eq_true rfl) dL_law_782 (fun r83 => ?_)
      refine s_istore (i := 6) (lv' := [(6, .int r83), (5, .int r80), (0, .ref b), (1, va_rf l1), (2, .ref g.1.2.2.2.2.2), (3, va_rf l3), (4, .int l4)]) B.1 dL_law_785 (by decide) rfl ?_
      refine s_aload_n B.1 4 dL_law_787 rfl rfl ?_
      refine l_cmi (As := []) (st := []) B (m_thrown B.2.2.2.2.2.1.1) cc_X12_thrown cl_L_80 cn_X12_thrown ce_X12_thrown ci_X12 cd_X12_thrown (by decide) rfl (Nat.le_of_ble_eq_true rfl) dL_law_788 (fun r84 => ?_)
      refine s_iload B.1 1 dL_law_791 rfl ?_
      refine s_icmp_eq B.1 798 dL_law_793 (by decide) ?_ ?_
      · refine s_iload B.1 1 dL_law_798 rfl ?_
        refine s_if_ne B.1 815 dL_law_800 (by decide) ?_ ?_
        · refine s_goto B.1 1290 dL_law_815 (by decide) ?_
          refine s_iinc (v := l4 + 7) (lv' := [(4, .int (l4 + 7)), (6, .int r83), (5, .int r80), (0, .ref b), (1, va_rf l1), (2, .ref g.1.2.2.2.2.2), (3, va_rf l3)]) B.1 6 dL_law_1290 rfl rfl (by decide) (by simp [va_rf_cat, cat_i, cat_l, cat_r]) ?_
          refine s_goto B.1 23 dL_law_1293 (by decide) ?_
          exact Sm.lvs [3, 4, 5, 6, 0] rfl (hkb l1 l3 (l4 + 7))
        · refine s_rload_n B.1 5 dL_law_803 rfl rfl ?_
          refine s_iconst (v := 0) B.1 dL_law_804 (by decide) ?_
          refine l_Al B dL_law_805 (fun v85 => ?_)
          refine s_iload B.1 0 dL_law_806 rfl ?_
          refine s_i2l B.1 dL_law_808 ?_
          refine s_lcmp B.1 dL_law_809 ?_
          refine s_if_eq B.1 815 dL_law_810 (by decide) ?_ ?_
          · refine s_goto B.1 1290 dL_law_815 (by decide) ?_
            refine s_iinc (v := l4 + 7) (lv' := [(4, .int (l4 + 7)), (6, .int r83), (5, .int r80), (0, .ref b), (1, va_rf l1), (2, .ref g.1.2.2.2.2.2), (3, va_rf l3)]) B.1 6 dL_law_1290 rfl rfl (by decide) (by simp [va_rf_cat, cat_i, cat_l, cat_r]) ?_
            refine s_goto B.1 23 dL_law_1293 (by decide) ?_
            exact Sm.lvs [3, 4, 5, 6, 0] rfl (hkb l1 l3 (l4 + 7))
          · exact Sm.fail
      · exact Sm.fail
    refine s_sw1 B.1 11 818 dL_law_40 (by decide) (by decide) rfl (by decide) ?_ (fun hn11 => ?_)
    · refine s_rload_n B.1 1 dL_law_818 rfl rfl ?_
      refine s_aload_n B.1 0 dL_law_819 rfl rfl ?_
      refine s_iload B.1 4 dL_law_820 rfl ?_
      refine s_iconst (v := 1) B.1 dL_law_822 (by decide) ?_
      refine s_iadd B.1 dL_law_823 ?_
      refine l_sld B dL_law_824 (fun v86 => ?_)
      refine s_rload_n B.1 3 dL_law_825 rfl rfl ?_
      refine l_cw (As := [va_rf l1, .int v86, va_rf l3]) (st := []) B (mW_L_expiry B.2.2.2.2.1.1 B.2.2.2.2.1.2.1 B.2.2.2.2.1.2.2 l1 v86 l3) wc_L_expiry ll_120 ws_L_expiry ci_L wd_L_expiry (by decide) rfl (Nat.le_of_ble_eq_true rfl) dL_law_826 (fun r87 => ?_)
      refine s_istore (i := 5) (lv' := [(5, .int r87), (0, .ref b), (1, va_rf l1), (2, .ref g.1.2.2.2.2.2), (3, va_rf l3), (4, .int l4)]) B.1 dL_law_829 (by decide) rfl ?_
      refine s_aload_n B.1 3 dL_law_831 rfl rfl ?_
      refine s_aload_n B.1 1 dL_law_832 rfl rfl ?_
      refine s_iload B.1 5 dL_law_833 rfl ?_
      refine s_iconst (v := 1) B.1 dL_law_835 (by decide) ?_
      refine s_iadd B.1 dL_law_836 ?_
      refine l_sld B dL_law_837 (fun v88 => ?_)
      refine l_cml (As := [.int v88]) (st := []) B (m_expiry B.2.2.2.2.2.1.1 v88) cc_X12_expiry cl_L_122 cn_X12_expiry ce_X12_expiry ci_X12 cd_X12_expiry (by decide) rfl (Nat.le_of_ble_eq_true rfl) dL_law_838 (fun r89 => ?_)
      refine s_lstore (i := 6) (lv' := [(6, .long r89), (5, .int r87), (0, .ref b), (1, va_rf l1), (2, .ref g.1.2.2.2.2.2), (3, va_rf l3), (4, .int l4)]) B.1 dL_law_841 (by decide) rfl ?_
      refine s_aload_n B.1 4 dL_law_843 rfl rfl ?_
      refine l_cmi (As := []) (st := []) B (m_thrown B.2.2.2.2.2.1.1) cc_X12_thrown cl_L_80 cn_X12_thrown ce_X12_thrown ci_X12 cd_X12_thrown (by decide) rfl (Nat.le_of_ble_eq_true rfl) dL_law_844 (fun r90 => ?_)
      refine s_iload B.1 1 dL_law_847 rfl ?_
      refine s_icmp_eq B.1 854 dL_law_849 (by decide) ?_ ?_
      · refine s_iload B.1 1 dL_law_854 rfl ?_
        refine s_if_ne B.1 870 dL_law_856 (by decide) ?_ ?_
        · refine s_goto B.1 1290 dL_law_870 (by decide) ?_
          refine s_iinc (v := l4 + 7) (lv' := [(4, .int (l4 + 7)), (6, .long r89), (5, .int r87), (0, .ref b), (1, va_rf l1), (2, .ref g.1.2.2.2.2.2), (3, va_rf l3)]) B.1 6 dL_law_1290 rfl rfl (by decide) (by simp [va_rf_cat, cat_i, cat_l, cat_r]) ?_
          refine s_goto B.1 23 dL_law_1293 (by decide) ?_
          exact Sm.lvs [3, 4, 5, 6, 0] rfl (hkb l1 l3 (l4 + 7))
        · refine s_rload_n B.1 5 dL_law_859 rfl rfl ?_
          refine s_iconst (v := 0) B.1 dL_law_860 (by decide) ?_
          refine l_Al B dL_law_861 (fun v91 => ?_)
          refine s_lload B.1 0 dL_law_862 rfl ?_
          refine s_lcmp B.1 dL_law_864 ?_
          refine s_if_eq B.1 870 dL_law_865 (by decide) ?_ ?_
          · refine s_goto B.1 1290 dL_law_870 (by decide) ?_
            refine s_iinc (v := l4 + 7) (lv' := [(4, .int (l4 + 7)), (6, .long r89), (5, .int r87), (0, .ref b), (1, va_rf l1), (2, .ref g.1.2.2.2.2.2), (3, va_rf l3)]) B.1 6 dL_law_1290 rfl rfl (by decide) (by simp [va_rf_cat, cat_i, cat_l, cat_r]) ?_
            refine s_goto B.1 23 dL_law_1293 (by decide) ?_
            exact Sm.lvs [3, 4, 5, 6, 0] rfl (hkb l1 l3 (l4 + 7))
          · exact Sm.fail
      · exact Sm.fail
    refine s_sw1 B.1 12 873 dL_law_40 (by decide) (by decide) rfl (by decide) ?_ (fun hn12 => ?_)
    · refine s_rload_n B.1 1 dL_law_873 rfl rfl ?_
      refine s_aload_n B.1 0 dL_law_874 rfl rfl ?_
      refine s_iload B.1 4 dL_law_875 rfl ?_
      refine s_iconst (v := 1) B.1 dL_law_877 (by decide) ?_
      refine s_iadd B.1 dL_law_878 ?_
      refine l_sld B dL_law_879 (fun v92 => ?_)
      refine s_aload_n B.1 0 dL_law_880 rfl rfl ?_
      refine s_iload B.1 4 dL_law_881 rfl ?_
      refine s_iconst (v := 2) B.1 dL_law_883 (by decide) ?_
      refine s_iadd B.1 dL_law_884 ?_
      refine l_sld B dL_law_885 (fun v93 => ?_)
      refine s_rload_n B.1 3 dL_law_886 rfl rfl ?_
      refine l_cw (As := [va_rf l1, .int v92, .int v93, va_rf l3]) (st := []) B (mW_L_id B.2.2.2.2.1.1 B.2.2.2.2.1.2.1 B.2.2.2.2.1.2.2 l1 v92 v93 l3) wc_L_id ll_123 ws_L_id ci_L wd_L_id (by decide) rfl (Nat.le_of_ble_eq_true rfl) dL_law_887 (fun r94 => ?_)
      refine s_istore (i := 5) (lv' := [(5, .int r94), (0, .ref b), (1, va_rf l1), (2, .ref g.1.2.2.2.2.2), (3, va_rf l3), (4, .int l4)]) B.1 dL_law_890 (by decide) rfl ?_
      refine s_aload_n B.1 3 dL_law_892 rfl rfl ?_
      refine s_aload_n B.1 1 dL_law_893 rfl rfl ?_
      refine s_iload B.1 5 dL_law_894 rfl ?_
      refine s_iconst (v := 1) B.1 dL_law_896 (by decide) ?_
      refine s_iadd B.1 dL_law_897 ?_
      refine l_sld B dL_law_898 (fun v95 => ?_)
      refine s_aload_n B.1 1 dL_law_899 rfl rfl ?_
      refine s_iload B.1 5 dL_law_900 rfl ?_
      refine s_iconst (v := 2) B.1 dL_law_902 (by decide) ?_
      refine s_iadd B.1 dL_law_903 ?_
      refine l_sld B dL_law_904 (fun v96 => ?_)
      refine l_cmi (As := [.int v95, .int v96]) (st := []) B (m_id B.2.2.2.2.2.1.1 v95 v96) cc_X12_id cl_L_125 cn_X12_id ce_X12_id ci_X12 cd_X12_id (by decide) rfl (Nat.le_of_ble_eq_true rfl) dL_law_905 (fun r97 => ?_)
      refine s_istore (i := 6) (lv' := [(6, .int r97), (5, .int r94), (0, .ref b), (1, va_rf l1), (2, .ref g.1.2.2.2.2.2), (3, va_rf l3), (4, .int l4)]) B.1 dL_law_908 (by decide) rfl ?_
      refine s_aload_n B.1 4 dL_law_910 rfl rfl ?_
      refine l_cmi (As := []) (st := []) B (m_thrown B.2.2.2.2.2.1.1) cc_X12_thrown cl_L_80 cn_X12_thrown ce_X12_thrown ci_X12 cd_X12_thrown (by decide) rfl (Nat.le_of_ble_eq_true rfl) dL_law_911 (fun r98 => ?_)
      refine s_iload B.1 1 dL_law_914 rfl ?_
      refine s_icmp_eq B.1 921 dL_law_916 (by decide) ?_ ?_
      · refine s_iload B.1 1 dL_law_921 rfl ?_
        refine s_if_ne B.1 938 dL_law_923 (by decide) ?_ ?_
        · refine s_goto B.1 1290 dL_law_938 (by decide) ?_
          refine s_iinc (v := l4 + 7) (lv' := [(4, .int (l4 + 7)), (6, .int r97), (5, .int r94), (0, .ref b), (1, va_rf l1), (2, .ref g.1.2.2.2.2.2), (3, va_rf l3)]) B.1 6 dL_law_1290 rfl rfl (by decide) (by simp [va_rf_cat, cat_i, cat_l, cat_r]) ?_
          refine s_goto B.1 23 dL_law_1293 (by decide) ?_
          exact Sm.lvs [3, 4, 5, 6, 0] rfl (hkb l1 l3 (l4 + 7))
        · refine s_rload_n B.1 5 dL_law_926 rfl rfl ?_
          refine s_iconst (v := 0) B.1 dL_law_927 (by decide) ?_
          refine l_Al B dL_law_928 (fun v99 => ?_)
          refine s_iload B.1 0 dL_law_929 rfl ?_
          refine s_i2l B.1 dL_law_931 ?_
          refine s_lcmp B.1 dL_law_932 ?_
          refine s_if_eq B.1 938 dL_law_933 (by decide) ?_ ?_
          · refine s_goto B.1 1290 dL_law_938 (by decide) ?_
            refine s_iinc (v := l4 + 7) (lv' := [(4, .int (l4 + 7)), (6, .int r97), (5, .int r94), (0, .ref b), (1, va_rf l1), (2, .ref g.1.2.2.2.2.2), (3, va_rf l3)]) B.1 6 dL_law_1290 rfl rfl (by decide) (by simp [va_rf_cat, cat_i, cat_l, cat_r]) ?_
            refine s_goto B.1 23 dL_law_1293 (by decide) ?_
            exact Sm.lvs [3, 4, 5, 6, 0] rfl (hkb l1 l3 (l4 + 7))
          · exact Sm.fail
      · exact Sm.fail
    refine s_sw1 B.1 13 941 dL_law_40 (by decide) (by decide) rfl (by decide) ?_ (fun hn13 => ?_)
    · refine s_rload_n B.1 1 dL_law_941 rfl rfl ?_
      refine s_aload_n B.1 0 dL_law_942 rfl rfl ?_
      refine s_iload B.1 4 dL_law_943 rfl ?_
      refine s_iconst (v := 1) B.1 dL_law_945 (by decide) ?_
      refine s_iadd B.1 dL_law_946 ?_
      refine l_sld B dL_law_947 (fun v100 => ?_)
      refine s_aload_n B.1 0 dL_law_948 rfl rfl ?_
      refine s_iload B.1 4 dL_law_949 rfl ?_
      refine s_iconst (v := 2) B.1 dL_law_951 (by decide) ?_
      refine s_iadd B.1 dL_law_952 ?_
      refine l_sld B dL_law_953 (fun v101 => ?_)
      refine s_aload_n B.1 0 dL_law_954 rfl rfl ?_
      refine s_iload B.1 4 dL_law_955 rfl ?_
      refine s_iconst (v := 3) B.1 dL_law_957 (by decide) ?_
      refine s_iadd B.1 dL_law_958 ?_
      refine l_sld B dL_law_959 (fun v102 => ?_)
      refine s_rload_n B.1 3 dL_law_960 rfl rfl ?_
      refine l_cw (As := [va_rf l1, .int v100, .int v101, .int v102, va_rf l3]) (st := []) B (mW_L_subscription B.2.2.2.2.1.1 B.2.2.2.2.1.2.1 B.2.2.2.2.1.2.2 l1 v100 v101 v102 l3) wc_L_subscription ll_126 ws_L_subscription ci_L wd_L_subscription (by decide) rfl (Nat.le_of_ble_eq_true rfl) dL_law_961 (fun r103 => ?_)
      refine s_istore (i := 5) (lv' := [(5, .int r103), (0, .ref b), (1, va_rf l1), (2, .ref g.1.2.2.2.2.2), (3, va_rf l3), (4, .int l4)]) B.1 dL_law_964 (by decide) rfl ?_
      refine s_aload_n B.1 3 dL_law_966 rfl rfl ?_
      refine s_aload_n B.1 1 dL_law_967 rfl rfl ?_
      refine s_iload B.1 5 dL_law_968 rfl ?_
      refine s_iconst (v := 1) B.1 dL_law_970 (by decide) ?_
      refine s_iadd B.1 dL_law_971 ?_
      refine l_sld B dL_law_972 (fun v104 => ?_)
      refine s_aload_n B.1 1 dL_law_973 rfl rfl ?_
      refine s_iload B.1 5 dL_law_974 rfl ?_
      refine s_iconst (v := 2) B.1 dL_law_976 (by decide) ?_
      refine s_iadd B.1 dL_law_977 ?_
      refine l_sld B dL_law_978 (fun v105 => ?_)
      refine s_aload_n B.1 1 dL_law_979 rfl rfl ?_
      refine s_iload B.1 5 dL_law_980 rfl ?_
      refine s_iconst (v := 3) B.1 dL_law_982 (by decide) ?_
      refine s_iadd B.1 dL_law_983 ?_
      refine l_sld B dL_law_984 (fun v106 => ?_)
      refine l_cmi (As := [.int v104, .int v105, .int v106]) (st := []) B (m_subscription B.2.2.2.2.2.1.1 v104 v105 v106) cc_X12_subscription cl_L_129 cn_X12_subscription ce_X12_subscription ci_X12 cd_X12_subscription (by decide) rfl (Nat.le_of_ble_eq_true rfl) dL_law_985 (fun r107 => ?_)
      refine s_istore (i := 6) (lv' := [(6, .int r107), (5, .int r103), (0, .ref b), (1, va_rf l1), (2, .ref g.1.2.2.2.2.2), (3, va_rf l3), (4, .int l4)]) B.1 dL_law_988 (by decide) rfl ?_
      refine s_aload_n B.1 4 dL_law_990 rfl rfl ?_
      refine l_cmi (As := []) (st := []) B (m_thrown B.2.2.2.2.2.1.1) cc_X12_thrown cl_L_80 cn_X12_thrown ce_X12_thrown ci_X12 cd_X12_thrown (by decide) rfl (Nat.le_of_ble_eq_true rfl) dL_law_991 (fun r108 => ?_)
      refine s_iload B.1 1 dL_law_994 rfl ?_
      refine s_icmp_eq B.1 1001 dL_law_996 (by decide) ?_ ?_
      · refine s_iload B.1 1 dL_law_1001 rfl ?_
        refine s_if_ne B.1 1018 dL_law_1003 (by decide) ?_ ?_
        · refine s_goto B.1 1290 dL_law_1018 (by decide) ?_
          refine s_iinc (v := l4 + 7) (lv' := [(4, .int (l4 + 7)), (6, .int r107), (5, .int r103), (0, .ref b), (1, va_rf l1), (2, .ref g.1.2.2.2.2.2), (3, va_rf l3)]) B.1 6 dL_law_1290 rfl rfl (by decide) (by simp [va_rf_cat, cat_i, cat_l, cat_r]) ?_
          refine s_goto B.1 23 dL_law_1293 (by decide) ?_
          exact Sm.lvs [3, 4, 5, 6, 0] rfl (hkb l1 l3 (l4 + 7))
        · refine s_rload_n B.1 5 dL_law_1006 rfl rfl ?_
          refine s_iconst (v := 0) B.1 dL_law_1007 (by decide) ?_
          refine l_Al B dL_law_1008 (fun v109 => ?_)
          refine s_iload B.1 0 dL_law_1009 rfl ?_
          refine s_i2l B.1 dL_law_1011 ?_
          refine s_lcmp B.1 dL_law_1012 ?_
          refine s_if_eq B.1 1018 dL_law_1013 (by decide) ?_ ?_
          · refine s_goto B.1 1290 dL_law_1018 (by decide) ?_
            refine s_iinc (v := l4 + 7) (lv' := [(4, .int (l4 + 7)), (6, .int r107), (5, .int r103), (0, .ref b), (1, va_rf l1), (2, .ref g.1.2.2.2.2.2), (3, va_rf l3)]) B.1 6 dL_law_1290 rfl rfl (by decide) (by simp [va_rf_cat, cat_i, cat_l, cat_r]) ?_
            refine s_goto B.1 23 dL_law_1293 (by decide) ?_
            exact Sm.lvs [3, 4, 5, 6, 0] rfl (hkb l1 l3 (l4 + 7))
          · exact Sm.fail
      · exact Sm.fail
    refine s_sw1 B.1 14 1021 dL_law_40 (by decide) (by decide) rfl (by decide) ?_ (fun hn14 => ?_)
    · refine s_rload_n B.1 1 dL_law_1021 rfl rfl ?_
      refine s_aload_n B.1 0 dL_law_1022 rfl rfl ?_
      refine s_iload B.1 4 dL_law_1023 rfl ?_
      refine s_iconst (v := 1) B.1 dL_law_1025 (by decide) ?_
      refine s_iadd B.1 dL_law_1026 ?_
      refine l_sld B dL_law_1027 (fun v110 => ?_)
      refine s_aload_n B.1 0 dL_law_1028 rfl rfl ?_
      refine s_iload B.1 4 dL_law_1029 rfl ?_
      refine s_iconst (v := 2) B.1 dL_law_1031 (by decide) ?_
      refine s_iadd B.1 dL_law_1032 ?_
      refine l_sld B dL_law_1033 (fun v111 => ?_)
      refine s_aload_n B.1 0 dL_law_1034 rfl rfl ?_
      refine s_iload B.1 4 dL_law_1035 rfl ?_
      refine s_iconst (v := 3) B.1 dL_law_1037 (by decide) ?_
      refine s_iadd B.1 dL_law_1038 ?_
      refine l_sld B dL_law_1039 (fun v112 => ?_)
      refine s_rload_n B.1 3 dL_law_1040 rfl rfl ?_
      refine l_cw (As := [va_rf l1, .int v110, .int v111, .int v112, va_rf l3]) (st := []) B (mW_L_filter B.2.2.2.2.1.1 B.2.2.2.2.1.2.1 B.2.2.2.2.1.2.2 l1 v110 v111 v112 l3) wc_L_filter ll_130 ws_L_filter ci_L wd_L_filter (by decide) rfl (Nat.le_of_ble_eq_true rfl) dL_law_1041 (fun r113 => ?_)
      refine s_istore (i := 5) (lv' := [(5, .int r113), (0, .ref b), (1, va_rf l1), (2, .ref g.1.2.2.2.2.2), (3, va_rf l3), (4, .int l4)]) B.1 dL_law_1044 (by decide) rfl ?_
      refine s_aload_n B.1 3 dL_law_1046 rfl rfl ?_
      refine s_aload_n B.1 1 dL_law_1047 rfl rfl ?_
      refine s_iload B.1 5 dL_law_1048 rfl ?_
      refine s_iconst (v := 1) B.1 dL_law_1050 (by decide) ?_
      refine s_iadd B.1 dL_law_1051 ?_
      refine l_sld B dL_law_1052 (fun v114 => ?_)
      refine s_aload_n B.1 1 dL_law_1053 rfl rfl ?_
      refine s_iload B.1 5 dL_law_1054 rfl ?_
      refine s_iconst (v := 2) B.1 dL_law_1056 (by decide) ?_
      refine s_iadd B.1 dL_law_1057 ?_
      refine l_sld B dL_law_1058 (fun v115 => ?_)
      refine s_aload_n B.1 1 dL_law_1059 rfl rfl ?_
      refine s_iload B.1 5 dL_law_1060 rfl ?_
      refine s_iconst (v := 3) B.1 dL_law_1062 (by decide) ?_
      refine s_iadd B.1 dL_law_1063 ?_
      refine l_sld B dL_law_1064 (fun v116 => ?_)
      refine l_cmi (As := [.int v114, .int v115, .int v116]) (st := []) B (m_filter B.2.2.2.2.2.1.1 v114 v115 v116) cc_X12_filter cl_L_132 cn_X12_filter ce_X12_filter ci_X12 cd_X12_filter (by decide) rfl (Nat.le_of_ble_eq_true rfl) dL_law_1065 (fun r117 => ?_)
      refine s_istore (i := 6) (lv' := [(6, .int r117), (5, .int r113), (0, .ref b), (1, va_rf l1), (2, .ref g.1.2.2.2.2.2), (3, va_rf l3), (4, .int l4)]) B.1 dL_law_1068 (by decide) rfl ?_
      refine s_aload_n B.1 4 dL_law_1070 rfl rfl ?_
      refine l_cmi (As := []) (st := []) B (m_thrown B.2.2.2.2.2.1.1) cc_X12_thrown cl_L_80 cn_X12_thrown ce_X12_thrown ci_X12 cd_X12_thrown (by decide) rfl (Nat.le_of_ble_eq_true rfl) dL_law_1071 (fun r118 => ?_)
      refine s_iload B.1 1 dL_law_1074 rfl ?_
      refine s_icmp_eq B.1 1081 dL_law_1076 (by decide) ?_ ?_
      · refine s_iload B.1 1 dL_law_1081 rfl ?_
        refine s_if_ne B.1 1098 dL_law_1083 (by decide) ?_ ?_
        · refine s_goto B.1 1290 dL_law_1098 (by decide) ?_
          refine s_iinc (v := l4 + 7) (lv' := [(4, .int (l4 + 7)), (6, .int r117), (5, .int r113), (0, .ref b), (1, va_rf l1), (2, .ref g.1.2.2.2.2.2), (3, va_rf l3)]) B.1 6 dL_law_1290 rfl rfl (by decide) (by simp [va_rf_cat, cat_i, cat_l, cat_r]) ?_
          refine s_goto B.1 23 dL_law_1293 (by decide) ?_
          exact Sm.lvs [3, 4, 5, 6, 0] rfl (hkb l1 l3 (l4 + 7))
        · refine s_rload_n B.1 5 dL_law_1086 rfl rfl ?_
          refine s_iconst (v := 0) B.1 dL_law_1087 (by decide) ?_
          refine l_Al B dL_law_1088 (fun v119 => ?_)
          refine s_iload B.1 0 dL_law_1089 rfl ?_
          refine s_i2l B.1 dL_law_1091 ?_
          refine s_lcmp B.1 dL_law_1092 ?_
          refine s_if_eq B.1 1098 dL_law_1093 (by decide) ?_ ?_
          · refine s_goto B.1 1290 dL_law_1098 (by decide) ?_
            refine s_iinc (v := l4 + 7) (lv' := [(4, .int (l4 + 7)), (6, .int r117), (5, .int r113), (0, .ref b), (1, va_rf l1), (2, .ref g.1.2.2.2.2.2), (3, va_rf l3)]) B.1 6 dL_law_1290 rfl rfl (by decide) (by simp [va_rf_cat, cat_i, cat_l, cat_r]) ?_
            refine s_goto B.1 23 dL_law_1293 (by decide) ?_
            exact Sm.lvs [3, 4, 5, 6, 0] rfl (hkb l1 l3 (l4 + 7))
          · exact Sm.fail
      · exact Sm.fail
    refine s_sw1 B.1 15 1101 dL_law_40 (by decide) (by decide) rfl (by decide) ?_ (fun hn15 => ?_)
    · refine s_rload_n B.1 1 dL_law_1101 rfl rfl ?_
      refine s_aload_n B.1 0 dL_law_1102 rfl rfl ?_
      refine s_iload B.1 4 dL_law_1103 rfl ?_
      refine s_iconst (v := 1) B.1 dL_law_1105 (by decide) ?_
      refine s_iadd B.1 dL_law_1106 ?_
      refine l_sld B dL_law_1107 (fun v120 => ?_)
      refine s_aload_n B.1 0 dL_law_1108 rfl rfl ?_
      refine s_iload B.1 4 dL_law_1109 rfl ?_
      refine s_iconst (v := 2) B.1 dL_law_1111 (by decide) ?_
      refine s_iadd B.1 dL_law_1112 ?_
      refine l_sld B dL_law_1113 (fun v121 => ?_)
      refine s_rload_n B.1 3 dL_law_1114 rfl rfl ?_
      refine l_cw (As := [va_rf l1, .int v120, .int v121, va_rf l3]) (st := []) B (mW_L_retained B.2.2.2.2.1.1 B.2.2.2.2.1.2.1 B.2.2.2.2.1.2.2 l1 v120 v121 l3) wc_L_retained ll_133 ws_L_retained ci_L wd_L_retained (by decide) rfl (Nat.le_of_ble_eq_true rfl) dL_law_1115 (fun r122 => ?_)
      refine s_istore (i := 5) (lv' := [(5, .int r122), (0, .ref b), (1, va_rf l1), (2, .ref g.1.2.2.2.2.2), (3, va_rf l3), (4, .int l4)]) B.1 dL_law_1118 (by decide) rfl ?_
      refine s_aload_n B.1 3 dL_law_1120 rfl rfl ?_
      refine s_aload_n B.1 1 dL_law_1121 rfl rfl ?_
      refine s_iload B.1 5 dL_law_1122 rfl ?_
      refine s_iconst (v := 1) B.1 dL_law_1124 (by decide) ?_
      refine s_iadd B.1 dL_law_1125 ?_
      refine l_sld B dL_law_1126 (fun v123 => ?_)
      refine s_aload_n B.1 1 dL_law_1127 rfl rfl ?_
      refine s_iload B.1 5 dL_law_1128 rfl ?_
      refine s_iconst (v := 2) B.1 dL_law_1130 (by decide) ?_
      refine s_iadd B.1 dL_law_1131 ?_
      refine l_sld B dL_law_1132 (fun v124 => ?_)
      refine l_cmi (As := [.int v123, .int v124]) (st := []) B (m_retained B.2.2.2.2.2.1.1 v123 v124) cc_X12_retained cl_L_135 cn_X12_retained ce_X12_retained ci_X12 cd_X12_retained (by decide) rfl (Nat.le_of_ble_eq_true rfl) dL_law_1133 (fun r125 => ?_)
      refine s_istore (i := 6) (lv' := [(6, .int r125), (5, .int r122), (0, .ref b), (1, va_rf l1), (2, .ref g.1.2.2.2.2.2), (3, va_rf l3), (4, .int l4)]) B.1 dL_law_1136 (by decide) rfl ?_
      refine s_aload_n B.1 4 dL_law_1138 rfl rfl ?_
      refine l_cmi (As := []) (st := []) B (m_thrown B.2.2.2.2.2.1.1) cc_X12_thrown cl_L_80 cn_X12_thrown ce_X12_thrown ci_X12 cd_X12_thrown (by decide) rfl (Nat.le_of_ble_eq_true rfl) dL_law_1139 (fun r126 => ?_)
      refine s_iload B.1 1 dL_law_1142 rfl ?_
      refine s_icmp_eq B.1 1149 dL_law_1144 (by decide) ?_ ?_
      · refine s_iload B.1 1 dL_law_1149 rfl ?_
        refine s_if_ne B.1 1166 dL_law_1151 (by decide) ?_ ?_
        · refine s_goto B.1 1290 dL_law_1166 (by decide) ?_
          refine s_iinc (v := l4 + 7) (lv' := [(4, .int (l4 + 7)), (6, .int r125), (5, .int r122), (0, .ref b), (1, va_rf l1), (2, .ref g.1.2.2.2.2.2), (3, va_rf l3)]) B.1 6 dL_law_1290 rfl rfl (by decide) (by simp [va_rf_cat, cat_i, cat_l, cat_r]) ?_
          refine s_goto B.1 23 dL_law_1293 (by decide) ?_
          exact Sm.lvs [3, 4, 5, 6, 0] rfl (hkb l1 l3 (l4 + 7))
        · refine s_rload_n B.1 5 dL_law_1154 rfl rfl ?_
          refine s_iconst (v := 0) B.1 dL_law_1155 (by decide) ?_
          refine l_Al B dL_law_1156 (fun v127 => ?_)
          refine s_iload B.1 0 dL_law_1157 rfl ?_
          refine s_i2l B.1 dL_law_1159 ?_
          refine s_lcmp B.1 dL_law_1160 ?_
          refine s_if_eq B.1 1166 dL_law_1161 (by decide) ?_ ?_
          · refine s_goto B.1 1290 dL_law_1166 (by decide) ?_
            refine s_iinc (v := l4 + 7) (lv' := [(4, .int (l4 + 7)), (6, .int r125), (5, .int r122), (0, .ref b), (1, va_rf l1), (2, .ref g.1.2.2.2.2.2), (3, va_rf l3)]) B.1 6 dL_law_1290 rfl rfl (by decide) (by simp [va_rf_cat, cat_i, cat_l, cat_r]) ?_
            refine s_goto B.1 23 dL_law_1293 (by decide) ?_
            exact Sm.lvs [3, 4, 5, 6, 0] rfl (hkb l1 l3 (l4 + 7))
          · exact Sm.fail
      · exact Sm.fail
    refine s_sw1 B.1 16 1169 dL_law_40 (by decide) (by decide) rfl (by decide) ?_ (fun hn16 => ?_)
    · refine s_rload_n B.1 1 dL_law_1169 rfl rfl ?_
      refine s_aload_n B.1 0 dL_law_1170 rfl rfl ?_
      refine s_iload B.1 4 dL_law_1171 rfl ?_
      refine s_iconst (v := 1) B.1 dL_law_1173 (by decide) ?_
      refine s_iadd B.1 dL_law_1174 ?_
      refine l_sld B dL_law_1175 (fun v128 => ?_)
      refine s_aload_n B.1 0 dL_law_1176 rfl rfl ?_
      refine s_iload B.1 4 dL_law_1177 rfl ?_
      refine s_iconst (v := 2) B.1 dL_law_1179 (by decide) ?_
      refine s_iadd B.1 dL_law_1180 ?_
      refine l_sld B dL_law_1181 (fun v129 => ?_)
      refine s_if_eq B.1 1189 dL_law_1182 (by decide) ?_ ?_
      · refine s_iconst (v := 0) B.1 dL_law_1189 (by decide) ?_
        exact Sm.lvs [0, 1, 2, 3, 4] rfl (sc_L_law_J1190 B hkb hke1296 l1 l3 l4 l1 v128 (0 : Int32))
      · refine s_iconst (v := 1) B.1 dL_law_1185 (by decide) ?_
        refine s_goto B.1 1190 dL_law_1186 (by decide) ?_
        exact Sm.lvs [0, 1, 2, 3, 4] rfl (sc_L_law_J1190 B hkb hke1296 l1 l3 l4 l1 v128 (1 : Int32))
    refine s_sw1 B.1 17 1234 dL_law_40 (by decide) (by decide) rfl (by decide) ?_ (fun hn17 => ?_)
    · refine s_rload_n B.1 1 dL_law_1234 rfl rfl ?_
      refine s_aload_n B.1 0 dL_law_1235 rfl rfl ?_
      refine s_iload B.1 4 dL_law_1236 rfl ?_
      refine s_iconst (v := 1) B.1 dL_law_1238 (by decide) ?_
      refine s_iadd B.1 dL_law_1239 ?_
      refine l_sld B dL_law_1240 (fun v130 => ?_)
      refine s_rload_n B.1 3 dL_law_1241 rfl rfl ?_
      refine l_cw (As := [va_rf l1, .int v130, va_rf l3]) (st := []) B (mW_L_told B.2.2.2.2.1.1 B.2.2.2.2.1.2.1 B.2.2.2.2.1.2.2 l1 v130 l3) wc_L_told ll_141 ws_L_told ci_L wd_L_told (by decide) rfl (Nat.le_of_ble_eq_true rfl) dL_law_1242 (fun r131 => ?_)
      refine s_istore (i := 5) (lv' := [(5, .int r131), (0, .ref b), (1, va_rf l1), (2, .ref g.1.2.2.2.2.2), (3, va_rf l3), (4, .int l4)]) B.1 dL_law_1245 (by decide) rfl ?_
      refine s_aload_n B.1 3 dL_law_1247 rfl rfl ?_
      refine s_aload_n B.1 1 dL_law_1248 rfl rfl ?_
      refine s_iload B.1 5 dL_law_1249 rfl ?_
      refine s_iconst (v := 1) B.1 dL_law_1251 (by decide) ?_
      refine s_iadd B.1 dL_law_1252 ?_
      refine l_sld B dL_law_1253 (fun v132 => ?_)
      refine l_cmi (As := [.int v132]) (st := []) B (m_told B.2.2.2.2.2.1.1 v132) cc_X12_told cl_L_143 cn_X12_told ce_X12_told ci_X12 cd_X12_told (by decide) rfl (Nat.le_of_ble_eq_true rfl) dL_law_1254 (fun r133 => ?_)
      refine s_istore (i := 6) (lv' := [(6, .int r133), (5, .int r131), (0, .ref b), (1, va_rf l1), (2, .ref g.1.2.2.2.2.2), (3, va_rf l3), (4, .int l4)]) B.1 dL_law_1257 (by decide) rfl ?_
      refine s_aload_n B.1 4 dL_law_1259 rfl rfl ?_
      refine l_cmi (As := []) (st := []) B (m_thrown B.2.2.2.2.2.1.1) cc_X12_thrown cl_L_80 cn_X12_thrown ce_X12_thrown ci_X12 cd_X12_thrown (by decide) rfl (Nat.le_of_ble_eq_true rfl) dL_law_1260 (fun r134 => ?_)
      refine s_iload B.1 1 dL_law_1263 rfl ?_
      refine s_icmp_eq B.1 1270 dL_law_1265 (by decide) ?_ ?_
      · refine s_iload B.1 1 dL_law_1270 rfl ?_
        refine s_if_ne B.1 1287 dL_law_1272 (by decide) ?_ ?_
        · refine s_goto B.1 1290 dL_law_1287 (by decide) ?_
          refine s_iinc (v := l4 + 7) (lv' := [(4, .int (l4 + 7)), (6, .int r133), (5, .int r131), (0, .ref b), (1, va_rf l1), (2, .ref g.1.2.2.2.2.2), (3, va_rf l3)]) B.1 6 dL_law_1290 rfl rfl (by decide) (by simp [va_rf_cat, cat_i, cat_l, cat_r]) ?_
          refine s_goto B.1 23 dL_law_1293 (by decide) ?_
          exact Sm.lvs [3, 4, 5, 6, 0] rfl (hkb l1 l3 (l4 + 7))
        · refine s_rload_n B.1 5 dL_law_1275 rfl rfl ?_
          refine s_iconst (v := 0) B.1 dL_law_1276 (by decide) ?_
          refine l_Al B dL_law_1277 (fun v135 => ?_)
          refine s_iload B.1 0 dL_law_1278 rfl ?_
          refine s_i2l B.1 dL_law_1280 ?_
          refine s_lcmp B.1 dL_law_1281 ?_
          refine s_if_eq B.1 1287 dL_law_1282 (by decide) ?_ ?_
          · refine s_goto B.1 1290 dL_law_1287 (by decide) ?_
            refine s_iinc (v := l4 + 7) (lv' := [(4, .int (l4 + 7)), (6, .int r133), (5, .int r131), (0, .ref b), (1, va_rf l1), (2, .ref g.1.2.2.2.2.2), (3, va_rf l3)]) B.1 6 dL_law_1290 rfl rfl (by decide) (by simp [va_rf_cat, cat_i, cat_l, cat_r]) ?_
            refine s_goto B.1 23 dL_law_1293 (by decide) ?_
            exact Sm.lvs [3, 4, 5, 6, 0] rfl (hkb l1 l3 (l4 + 7))
          · exact Sm.fail
      · exact Sm.fail
    have hout : (v7 &&& (31 : Int32)).toInt < 0 ∨ 17 < (v7 &&& (31 : Int32)).toInt := by
      have z0 : ¬ (v7 &&& (31 : Int32)).toInt = 0 := sw_ne hn0 (by decide); have z1 : ¬ (v7 &&& (31 : Int32)).toInt = 1 := sw_ne hn1 (by decide); have z2 : ¬ (v7 &&& (31 : Int32)).toInt = 2 := sw_ne hn2 (by decide); have z3 : ¬ (v7 &&& (31 : Int32)).toInt = 3 := sw_ne hn3 (by decide); have z4 : ¬ (v7 &&& (31 : Int32)).toInt = 4 := sw_ne hn4 (by decide); have z5 : ¬ (v7 &&& (31 : Int32)).toInt = 5 := sw_ne hn5 (by decide); have z6 : ¬ (v7 &&& (31 : Int32)).toInt = 6 := sw_ne hn6 (by decide); have z7 : ¬ (v7 &&& (31 : Int32)).toInt = 7 := sw_ne hn7 (by decide); have z8 : ¬ (v7 &&& (31 : Int32)).toInt = 8 := sw_ne hn8 (by decide); have z9 : ¬ (v7 &&& (31 : Int32)).toInt = 9 := sw_ne hn9 (by decide); have z10 : ¬ (v7 &&& (31 : Int32)).toInt = 10 := sw_ne hn10 (by decide); have z11 : ¬ (v7 &&& (31 : Int32)).toInt = 11 := sw_ne hn11 (by decide); have z12 : ¬ (v7 &&& (31 : Int32)).toInt = 12 := sw_ne hn12 (by decide); have z13 : ¬ (v7 &&& (31 : Int32)).toInt = 13 := sw_ne hn13 (by decide); have z14 : ¬ (v7 &&& (31 : Int32)).toInt = 14 := sw_ne hn14 (by decide); have z15 : ¬ (v7 &&& (31 : Int32)).toInt = 15 := sw_ne hn15 (by decide); have z16 : ¬ (v7 &&& (31 : Int32)).toInt = 16 := sw_ne hn16 (by decide); have z17 : ¬ (v7 &&& (31 : Int32)).toInt = 17 := sw_ne hn17 (by decide); omega
    refine s_swD B.1 1290 dL_law_40 hout (by decide) ?_
    refine s_iinc (v := l4 + 7) (lv' := [(4, .int (l4 + 7)), (0, .ref b), (1, va_rf l1), (2, .ref g.1.2.2.2.2.2), (3, va_rf l3)]) B.1 4 dL_law_1290 rfl rfl (by decide) (by simp [va_rf_cat, cat_i, cat_l, cat_r]) ?_
    refine s_goto B.1 23 dL_law_1293 (by decide) ?_
    exact Sm.lvs [1, 2, 3, 4, 0] rfl (hkb l1 l3 (l4 + 7))
set_option maxRecDepth 10000 in
theorem sc_L_law_L23 {g : Gm Lz Unit} {b L : Nat} {xs : Nat → Int32} {ke1296 : Lz → Option (Unit × Lz)} (B : Bw g b L xs) (hke1296 : Sm g 8 1296 [] [] (ke1296)) : ∀ (n : Nat) (l1 : Option Nat) (l3 : Option Nat) (l4 : Int32), Sm g 8 23 [(0, .ref b), (1, va_rf l1), (2, .ref g.1.2.2.2.2.2), (3, va_rf l3), (4, .int l4)] [] (C_L_law_L23 L xs ke1296 n l1 l3 l4)
  | 0, _, _, _ => Sm.fail
  | n + 1, l1, l3, l4 => sc_L_law_B23 B (sc_L_law_L23 B hke1296 n) hke1296 l1 l3 l4
def LAW (L : Nat) (xs : Nat → Int32) (l1 l3 : Option Nat) : Lz → Option (Unit × Lz) :=
  C_L_law_L23 L xs (C_L_law_J1296 L xs) fu l1 l3 (0 : Int32)
theorem law_20 {g : Gm Lz Unit} {b L : Nat} {xs : Nat → Int32} (B : Bw g b L xs) (l1 l3 : Option Nat) : Sm g 8 20 [(0, .ref b), (1, va_rf l1), (2, .ref g.1.2.2.2.2.2), (3, va_rf l3)] [] (LAW L xs l1 l3) := by
  unfold LAW
  refine s_iconst (v := 0) B.1 dL_law_20 (by decide) ?_
  refine s_istore (i := 4) (lv' := [(4, .int (0 : Int32)), (0, .ref b), (1, va_rf l1), (2, .ref g.1.2.2.2.2.2), (3, va_rf l3)]) B.1 dL_law_21 (by decide) (by simp [va_rf_cat, cat_i, cat_l, cat_r]) ?_
  exact Sm.lvs [1, 2, 3, 4, 0] rfl (sc_L_law_L23 B (sc_L_law_J1296 B) fu l1 l3 (0 : Int32))
