def R_bit (l0 : Int32) : RS → Option (Int64 × RS) :=
  rt (lshl6 (1 : Int64) l0)
set_option maxRecDepth 10000 in
theorem m_bit {w : Wd} (hw : Wok w) (l0 : Int32) : MR w yX12_bit cX12_bit 1 (some .long) 0 0 voL [.int l0] (R_bit l0) := by
  refine MR.of hw rfl (Nat.le_of_ble_eq_true rfl) (fun g hg B => ?_)
  subst hg
  unfold R_bit
  show Sm g 1 0 [(0, .int l0)] [] _
  refine s_lconst (v := 1) B.1 dX12_bit_0 (by decide) ?_
  refine s_iload_n B.1 0 dX12_bit_1 rfl rfl ?_
  refine s_lshl B.1 dX12_bit_2 ?_
  exact s_lret B.1 B.2.1 dX12_bit_3
def R_fails (l1 : Int32) : RS → Option (Unit × RS) :=
  rI 79 fun v1 =>
  if v1 = 0 then (
    wI 79 (l1) <|
    rt ()
  ) else (
    rt ()
  )
set_option maxRecDepth 10000 in
theorem m_fails {w : Wd} (hw : Wok w) (l1 : Int32) : MR w yX12_fails cX12_fails 2 none 0 0 voV [.ref w.2.2.2.2.2, .int l1] (R_fails l1) := by
  refine MR.of hw rfl (Nat.le_of_ble_eq_true rfl) (fun g hg B => ?_)
  subst hg
  unfold R_fails
  show Sm g 2 0 [(0, .ref g.1.2.2.2.2.2), (1, .int l1)] [] _
  refine s_aload_n B.1 0 dX12_fails_0 rfl rfl ?_
  refine rr_getI B 79 mh_79 mk_79 mf_79 dX12_fails_1 (fun v1 => ?_)
  refine s_if_ne B.1 12 dX12_fails_4 (by decide) ?_ ?_
  · exact s_vret B.1 B.2.1 dX12_fails_12
  · refine s_aload_n B.1 0 dX12_fails_7 rfl rfl ?_
    refine s_iload_n B.1 1 dX12_fails_8 rfl rfl ?_
    refine rr_putI B 79 mh_79 mk_79 mf_79 dX12_fails_9 ?_
    exact s_vret B.1 B.2.1 dX12_fails_12
def R_holds_J35 : RS → Option (Int32 × RS) :=
  rt ((-1 : Int32))
set_option maxRecDepth 10000 in
theorem sm_holds_J35 {g : Gm RS Int32} (B : Br g cX12_holds 4 voI (some .int) 0 0) : Sm g 4 35 [] [] (R_holds_J35) := by
  unfold R_holds_J35
  refine s_iconst (v := (-1)) B.1 dX12_holds_35 (by decide) ?_
  exact s_iret B.1 B.2.1 dX12_holds_36
def R_holds_J27 (l3 : Int32) : RS → Option (Int32 × RS) :=
  rt (l3)
set_option maxRecDepth 10000 in
theorem sm_holds_J27 {g : Gm RS Int32} (B : Br g cX12_holds 4 voI (some .int) 0 0) (l3 : Int32) : Sm g 4 27 [(3, .int l3)] [] (R_holds_J27 l3) := by
  unfold R_holds_J27
  refine s_iload_n B.1 0 dX12_holds_27 rfl rfl ?_
  exact s_iret B.1 B.2.1 dX12_holds_28
def R_holds_B2 (kb : Int32 → Int32 → Int32 → RS → Option (Int32 × RS)) (ke27 : Int32 → RS → Option (Int32 × RS)) (ke35 : RS → Option (Int32 × RS)) (l1 : Int32) (l2 : Int32) (l3 : Int32) : RS → Option (Int32 × RS) :=
  rA 43 l1 fun v1 =>
  if v1 ≤ l3 then (
    ke35
  ) else (
    rA 44 (((8 : Int32) * l1) + l3) fun v2 =>
    if v2 = l2 then (
      ke27 l3
    ) else (
      kb l1 l2 (l3 + 1)
    )
  )
def R_holds_L2 (ke27 : Int32 → RS → Option (Int32 × RS)) (ke35 : RS → Option (Int32 × RS)) : Nat → Int32 → Int32 → Int32 → RS → Option (Int32 × RS)
  | 0, _, _, _ => no
  | n + 1, l1, l2, l3 => R_holds_B2 (fun l1 l2 l3 => R_holds_L2 ke27 ke35 n l1 l2 l3) ke27 ke35 l1 l2 l3
set_option maxRecDepth 10000 in
theorem sm_holds_B2 {g : Gm RS Int32} {kb : Int32 → Int32 → Int32 → RS → Option (Int32 × RS)} {ke27 : Int32 → RS → Option (Int32 × RS)} {ke35 : RS → Option (Int32 × RS)} (B : Br g cX12_holds 4 voI (some .int) 0 0) (hkb : ∀ (l1 : Int32) (l2 : Int32) (l3 : Int32), Sm g 4 2 [(0, .ref g.1.2.2.2.2.2), (1, .int l1), (2, .int l2), (3, .int l3)] [] (kb l1 l2 l3)) (hke27 : ∀ (l3 : Int32), Sm g 4 27 [(3, .int l3)] [] (ke27 l3)) (hke35 : Sm g 4 35 [] [] (ke35)) (l1 : Int32) (l2 : Int32) (l3 : Int32) : Sm g 4 2 [(0, .ref g.1.2.2.2.2.2), (1, .int l1), (2, .int l2), (3, .int l3)] [] (R_holds_B2 kb ke27 ke35 l1 l2 l3) := by
  unfold R_holds_B2
  refine s_iload_n B.1 3 dX12_holds_2 rfl rfl ?_
  refine s_aload_n B.1 0 dX12_holds_3 rfl rfl ?_
  refine rr_getA B 43 mh_43 mn_43 mf_43 dX12_holds_4 ?_
  refine s_iload_n B.1 1 dX12_holds_7 rfl rfl ?_
  refine rr_iald B 43 mh_43 mk_43 dX12_holds_8 (fun v1 => ?_)
  refine s_icmp_ge B.1 35 dX12_holds_9 (by decide) ?_ ?_
  · exact Sm.lvs [] rfl (hke35)
  · refine s_aload_n B.1 0 dX12_holds_12 rfl rfl ?_
    refine rr_getA B 44 mh_44 mn_44 mf_44 dX12_holds_13 ?_
    refine s_bipush (v := (8)) B.1 dX12_holds_16 (by decide) ?_
    refine s_iload_n B.1 1 dX12_holds_18 rfl rfl ?_
    refine s_imul B.1 dX12_holds_19 ?_
    refine s_iload_n B.1 3 dX12_holds_20 rfl rfl ?_
    refine s_iadd B.1 dX12_holds_21 ?_
    refine rr_iald B 44 mh_44 mk_44 dX12_holds_22 (fun v2 => ?_)
    refine s_iload_n B.1 2 dX12_holds_23 rfl rfl ?_
    refine s_icmp_ne B.1 29 dX12_holds_24 (by decide) ?_ ?_
    · refine s_iinc (v := l3 + 1) (lv' := [(3, .int (l3 + 1)), (0, .ref g.1.2.2.2.2.2), (1, .int l1), (2, .int l2)]) B.1 3 dX12_holds_29 rfl rfl (by decide) rfl ?_
      refine s_goto B.1 2 dX12_holds_32 (by decide) ?_
      exact Sm.lvs [1, 2, 3, 0] rfl (hkb l1 l2 (l3 + 1))
    · exact Sm.lvs [3] rfl (hke27 l3)
set_option maxRecDepth 10000 in
theorem sm_holds_L2 {g : Gm RS Int32} {ke27 : Int32 → RS → Option (Int32 × RS)} {ke35 : RS → Option (Int32 × RS)} (B : Br g cX12_holds 4 voI (some .int) 0 0) (hke27 : ∀ (l3 : Int32), Sm g 4 27 [(3, .int l3)] [] (ke27 l3)) (hke35 : Sm g 4 35 [] [] (ke35)) : ∀ (n : Nat) (l1 : Int32) (l2 : Int32) (l3 : Int32), Sm g 4 2 [(0, .ref g.1.2.2.2.2.2), (1, .int l1), (2, .int l2), (3, .int l3)] [] (R_holds_L2 ke27 ke35 n l1 l2 l3)
  | 0, _, _, _ => Sm.fail
  | n + 1, l1, l2, l3 => sm_holds_B2 B (sm_holds_L2 B hke27 hke35 n) hke27 hke35 l1 l2 l3
def R_holds (l1 : Int32) (l2 : Int32) : RS → Option (Int32 × RS) :=
  R_holds_L2 (fun l3 => R_holds_J27 l3) (R_holds_J35) fu l1 l2 (0 : Int32)
set_option maxRecDepth 10000 in
theorem m_holds {w : Wd} (hw : Wok w) (l1 : Int32) (l2 : Int32) : MR w yX12_holds cX12_holds 4 (some .int) 0 0 voI [.ref w.2.2.2.2.2, .int l1, .int l2] (R_holds l1 l2) := by
  refine MR.of hw rfl (Nat.le_of_ble_eq_true rfl) (fun g hg B => ?_)
  subst hg
  unfold R_holds
  show Sm g 4 0 [(0, .ref g.1.2.2.2.2.2), (1, .int l1), (2, .int l2)] [] _
  refine s_iconst (v := 0) B.1 dX12_holds_0 (by decide) ?_
  refine s_istore_n (lv' := [(3, .int (0 : Int32)), (0, .ref g.1.2.2.2.2.2), (1, .int l1), (2, .int l2)]) B.1 dX12_holds_1 rfl (by decide) rfl ?_
  exact Sm.lvs [1, 2, 3, 0] rfl (sm_holds_L2 B (fun l3 => sm_holds_J27 B l3) (sm_holds_J35 B) fu l1 l2 (0 : Int32))
def R_moveWay (l1 : Int32) (l2 : Int32) : RS → Option (Unit × RS) :=
  rA 32 l1 fun v1 =>
  wA 32 l2 v1 <|
  rA 33 l1 fun v2 =>
  wA 33 l2 v2 <|
  rA 34 l1 fun v3 =>
  wA 34 l2 v3 <|
  rA 35 l1 fun v4 =>
  wA 35 l2 v4 <|
  rA 36 l1 fun v5 =>
  wA 36 l2 v5 <|
  rA 37 l1 fun v6 =>
  wA 37 l2 (vp_nar .boolean v6) <|
  rt ()
set_option maxRecDepth 10000 in
theorem m_moveWay {w : Wd} (hw : Wok w) (l1 : Int32) (l2 : Int32) : MR w yX12_moveWay cX12_moveWay 3 none 0 0 voV [.ref w.2.2.2.2.2, .int l1, .int l2] (R_moveWay l1 l2) := by
  refine MR.of hw rfl (Nat.le_of_ble_eq_true rfl) (fun g hg B => ?_)
  subst hg
  unfold R_moveWay
  show Sm g 3 0 [(0, .ref g.1.2.2.2.2.2), (1, .int l1), (2, .int l2)] [] _
  refine s_aload_n B.1 0 dX12_moveWay_0 rfl rfl ?_
  refine rr_getA B 32 mh_32 mn_32 mf_32 dX12_moveWay_1 ?_
  refine s_iload_n B.1 2 dX12_moveWay_4 rfl rfl ?_
  refine s_aload_n B.1 0 dX12_moveWay_5 rfl rfl ?_
  refine rr_getA B 32 mh_32 mn_32 mf_32 dX12_moveWay_6 ?_
  refine s_iload_n B.1 1 dX12_moveWay_9 rfl rfl ?_
  refine rr_iald B 32 mh_32 mk_32 dX12_moveWay_10 (fun v1 => ?_)
  refine rr_iast B 32 mh_32 mk_32 dX12_moveWay_11 ?_
  refine s_aload_n B.1 0 dX12_moveWay_12 rfl rfl ?_
  refine rr_getA B 33 mh_33 mn_33 mf_33 dX12_moveWay_13 ?_
  refine s_iload_n B.1 2 dX12_moveWay_16 rfl rfl ?_
  refine s_aload_n B.1 0 dX12_moveWay_17 rfl rfl ?_
  refine rr_getA B 33 mh_33 mn_33 mf_33 dX12_moveWay_18 ?_
  refine s_iload_n B.1 1 dX12_moveWay_21 rfl rfl ?_
  refine rr_iald B 33 mh_33 mk_33 dX12_moveWay_22 (fun v2 => ?_)
  refine rr_iast B 33 mh_33 mk_33 dX12_moveWay_23 ?_
  refine s_aload_n B.1 0 dX12_moveWay_24 rfl rfl ?_
  refine rr_getA B 34 mh_34 mn_34 mf_34 dX12_moveWay_25 ?_
  refine s_iload_n B.1 2 dX12_moveWay_28 rfl rfl ?_
  refine s_aload_n B.1 0 dX12_moveWay_29 rfl rfl ?_
  refine rr_getA B 34 mh_34 mn_34 mf_34 dX12_moveWay_30 ?_
  refine s_iload_n B.1 1 dX12_moveWay_33 rfl rfl ?_
  refine rr_iald B 34 mh_34 mk_34 dX12_moveWay_34 (fun v3 => ?_)
  refine rr_iast B 34 mh_34 mk_34 dX12_moveWay_35 ?_
  refine s_aload_n B.1 0 dX12_moveWay_36 rfl rfl ?_
  refine rr_getA B 35 mh_35 mn_35 mf_35 dX12_moveWay_37 ?_
  refine s_iload_n B.1 2 dX12_moveWay_40 rfl rfl ?_
  refine s_aload_n B.1 0 dX12_moveWay_41 rfl rfl ?_
  refine rr_getA B 35 mh_35 mn_35 mf_35 dX12_moveWay_42 ?_
  refine s_iload_n B.1 1 dX12_moveWay_45 rfl rfl ?_
  refine rr_iald B 35 mh_35 mk_35 dX12_moveWay_46 (fun v4 => ?_)
  refine rr_iast B 35 mh_35 mk_35 dX12_moveWay_47 ?_
  refine s_aload_n B.1 0 dX12_moveWay_48 rfl rfl ?_
  refine rr_getA B 36 mh_36 mn_36 mf_36 dX12_moveWay_49 ?_
  refine s_iload_n B.1 2 dX12_moveWay_52 rfl rfl ?_
  refine s_aload_n B.1 0 dX12_moveWay_53 rfl rfl ?_
  refine rr_getA B 36 mh_36 mn_36 mf_36 dX12_moveWay_54 ?_
  refine s_iload_n B.1 1 dX12_moveWay_57 rfl rfl ?_
  refine rr_iald B 36 mh_36 mk_36 dX12_moveWay_58 (fun v5 => ?_)
  refine rr_iast B 36 mh_36 mk_36 dX12_moveWay_59 ?_
  refine s_aload_n B.1 0 dX12_moveWay_60 rfl rfl ?_
  refine rr_getA B 37 mh_37 mn_37 mf_37 dX12_moveWay_61 ?_
  refine s_iload_n B.1 2 dX12_moveWay_64 rfl rfl ?_
  refine s_aload_n B.1 0 dX12_moveWay_65 rfl rfl ?_
  refine rr_getA B 37 mh_37 mn_37 mf_37 dX12_moveWay_66 ?_
  refine s_iload_n B.1 1 dX12_moveWay_69 rfl rfl ?_
  refine rr_zald B 37 mh_37 mk_37 dX12_moveWay_70 (fun v6 => ?_)
  refine rr_zast B 37 mh_37 mk_37 dX12_moveWay_71 ?_
  exact s_vret B.1 B.2.1 dX12_moveWay_72
def R_pump_J173 : RS → Option (Unit × RS) :=
  rt ()
set_option maxRecDepth 10000 in
theorem sm_pump_J173 {g : Gm RS Unit} (B : Br g cX12_pump 8 voV none 4 104) : Sm g 8 173 [] [] (R_pump_J173) := by
  unfold R_pump_J173
  exact s_vret B.1 B.2.1 dX12_pump_173
def R_pump_J158 (kb : Int32 → RS → Option (Unit × RS)) (ke173 : RS → Option (Unit × RS)) (l1 : Int32) (l3 : Int32) (l4 : Int32) (l5 : Int32) (l6 : Int32) : RS → Option (Unit × RS) :=
  bd (R_begin l1 l3 l4 l5 l6) fun r1 =>
  kb l1
set_option maxRecDepth 10000 in
theorem sm_pump_J158 {g : Gm RS Unit} {kb : Int32 → RS → Option (Unit × RS)} {ke173 : RS → Option (Unit × RS)} (B : Br g cX12_pump 8 voV none 4 104) (hkb : ∀ (l1 : Int32), Sm g 8 0 [(0, .ref g.1.2.2.2.2.2), (1, .int l1)] [] (kb l1)) (hke173 : Sm g 8 173 [] [] (ke173)) (l1 : Int32) (l3 : Int32) (l4 : Int32) (l5 : Int32) (l6 : Int32) : Sm g 8 158 [(0, .ref g.1.2.2.2.2.2), (1, .int l1), (3, .int l3), (4, .int l4), (5, .int l5), (6, .int l6)] [] (R_pump_J158 kb ke173 l1 l3 l4 l5 l6) := by
  unfold R_pump_J158
  refine s_aload_n B.1 0 dX12_pump_158 rfl rfl ?_
  refine s_iload_n B.1 1 dX12_pump_159 rfl rfl ?_
  refine s_iload_n B.1 2 dX12_pump_160 rfl rfl ?_
  refine s_iload B.1 3 dX12_pump_161 rfl ?_
  refine s_iload B.1 4 dX12_pump_163 rfl ?_
  refine s_iload B.1 5 dX12_pump_165 rfl ?_
  refine rr_cvv (As := [.int l1, .int l3, .int l4, .int l5, .int l6]) (st := []) B (m_begin B.ok l1 l3 l4 l5 l6) mc_begin ml_begin mi_begin me_begin ini12 md_begin (by decide) rfl (Nat.le_of_ble_eq_true rfl) dX12_pump_167 (fun r1 => ?_)
  refine s_goto B.1 0 dX12_pump_170 (by decide) ?_
  exact Sm.lvs [0, 1] rfl (hkb l1)
def R_pump_B75 (kb : Int32 → Int32 → Int32 → Int32 → Int32 → Int32 → Int32 → RS → Option (Unit × RS)) (ke158 : Int32 → Int32 → Int32 → Int32 → Int32 → RS → Option (Unit × RS)) (l1 : Int32) (l2 : Int32) (l3 : Int32) (l4 : Int32) (l5 : Int32) (l6 : Int32) (l7 : Int32) : RS → Option (Unit × RS) :=
  rA 38 l1 fun v2 =>
  if (l2 + v2) ≤ l7 then (
    ke158 l1 l3 l4 l5 l6
  ) else (
    rA 39 (l7 + (1 : Int32)) fun v3 =>
    wA 39 l7 v3 <|
    rA 40 (l7 + (1 : Int32)) fun v4 =>
    wA 40 l7 v4 <|
    rA 41 (l7 + (1 : Int32)) fun v5 =>
    wA 41 l7 v5 <|
    rA 42 (l7 + (1 : Int32)) fun v6 =>
    wA 42 l7 v6 <|
    kb l1 l2 l3 l4 l5 l6 (l7 + 1)
  )
def R_pump_L75 (ke158 : Int32 → Int32 → Int32 → Int32 → Int32 → RS → Option (Unit × RS)) : Nat → Int32 → Int32 → Int32 → Int32 → Int32 → Int32 → Int32 → RS → Option (Unit × RS)
  | 0, _, _, _, _, _, _, _ => no
  | n + 1, l1, l2, l3, l4, l5, l6, l7 => R_pump_B75 (fun l1 l2 l3 l4 l5 l6 l7 => R_pump_L75 ke158 n l1 l2 l3 l4 l5 l6 l7) ke158 l1 l2 l3 l4 l5 l6 l7
set_option maxRecDepth 10000 in
theorem sm_pump_B75 {g : Gm RS Unit} {kb : Int32 → Int32 → Int32 → Int32 → Int32 → Int32 → Int32 → RS → Option (Unit × RS)} {ke158 : Int32 → Int32 → Int32 → Int32 → Int32 → RS → Option (Unit × RS)} (B : Br g cX12_pump 8 voV none 4 104) (hkb : ∀ (l1 : Int32) (l2 : Int32) (l3 : Int32) (l4 : Int32) (l5 : Int32) (l6 : Int32) (l7 : Int32), Sm g 8 75 [(0, .ref g.1.2.2.2.2.2), (1, .int l1), (2, .int l2), (3, .int l3), (4, .int l4), (5, .int l5), (6, .int l6), (7, .int l7)] [] (kb l1 l2 l3 l4 l5 l6 l7)) (hke158 : ∀ (l1 : Int32) (l3 : Int32) (l4 : Int32) (l5 : Int32) (l6 : Int32), Sm g 8 158 [(0, .ref g.1.2.2.2.2.2), (1, .int l1), (3, .int l3), (4, .int l4), (5, .int l5), (6, .int l6)] [] (ke158 l1 l3 l4 l5 l6)) (l1 : Int32) (l2 : Int32) (l3 : Int32) (l4 : Int32) (l5 : Int32) (l6 : Int32) (l7 : Int32) : Sm g 8 75 [(0, .ref g.1.2.2.2.2.2), (1, .int l1), (2, .int l2), (3, .int l3), (4, .int l4), (5, .int l5), (6, .int l6), (7, .int l7)] [] (R_pump_B75 kb ke158 l1 l2 l3 l4 l5 l6 l7) := by
  unfold R_pump_B75
  refine s_iload B.1 7 dX12_pump_75 rfl ?_
  refine s_iload_n B.1 2 dX12_pump_77 rfl rfl ?_
  refine s_aload_n B.1 0 dX12_pump_78 rfl rfl ?_
  refine rr_getA B 38 mh_38 mn_38 mf_38 dX12_pump_79 ?_
  refine s_iload_n B.1 1 dX12_pump_82 rfl rfl ?_
  refine rr_iald B 38 mh_38 mk_38 dX12_pump_83 (fun v2 => ?_)
  refine s_iadd B.1 dX12_pump_84 ?_
  refine s_icmp_ge B.1 158 dX12_pump_85 (by decide) ?_ ?_
  · exact Sm.lvs [0, 1, 3, 4, 5, 6] rfl (hke158 l1 l3 l4 l5 l6)
  · refine s_aload_n B.1 0 dX12_pump_88 rfl rfl ?_
    refine rr_getA B 39 mh_39 mn_39 mf_39 dX12_pump_89 ?_
    refine s_iload B.1 7 dX12_pump_92 rfl ?_
    refine s_aload_n B.1 0 dX12_pump_94 rfl rfl ?_
    refine rr_getA B 39 mh_39 mn_39 mf_39 dX12_pump_95 ?_
    refine s_iload B.1 7 dX12_pump_98 rfl ?_
    refine s_iconst (v := 1) B.1 dX12_pump_100 (by decide) ?_
    refine s_iadd B.1 dX12_pump_101 ?_
    refine rr_iald B 39 mh_39 mk_39 dX12_pump_102 (fun v3 => ?_)
    refine rr_iast B 39 mh_39 mk_39 dX12_pump_103 ?_
    refine s_aload_n B.1 0 dX12_pump_104 rfl rfl ?_
    refine rr_getA B 40 mh_40 mn_40 mf_40 dX12_pump_105 ?_
    refine s_iload B.1 7 dX12_pump_108 rfl ?_
    refine s_aload_n B.1 0 dX12_pump_110 rfl rfl ?_
    refine rr_getA B 40 mh_40 mn_40 mf_40 dX12_pump_111 ?_
    refine s_iload B.1 7 dX12_pump_114 rfl ?_
    refine s_iconst (v := 1) B.1 dX12_pump_116 (by decide) ?_
    refine s_iadd B.1 dX12_pump_117 ?_
    refine rr_iald B 40 mh_40 mk_40 dX12_pump_118 (fun v4 => ?_)
    refine rr_iast B 40 mh_40 mk_40 dX12_pump_119 ?_
    refine s_aload_n B.1 0 dX12_pump_120 rfl rfl ?_
    refine rr_getA B 41 mh_41 mn_41 mf_41 dX12_pump_121 ?_
    refine s_iload B.1 7 dX12_pump_124 rfl ?_
    refine s_aload_n B.1 0 dX12_pump_126 rfl rfl ?_
    refine rr_getA B 41 mh_41 mn_41 mf_41 dX12_pump_127 ?_
    refine s_iload B.1 7 dX12_pump_130 rfl ?_
    refine s_iconst (v := 1) B.1 dX12_pump_132 (by decide) ?_
    refine s_iadd B.1 dX12_pump_133 ?_
    refine rr_iald B 41 mh_41 mk_41 dX12_pump_134 (fun v5 => ?_)
    refine rr_iast B 41 mh_41 mk_41 dX12_pump_135 ?_
    refine s_aload_n B.1 0 dX12_pump_136 rfl rfl ?_
    refine rr_getA B 42 mh_42 mn_42 mf_42 dX12_pump_137 ?_
    refine s_iload B.1 7 dX12_pump_140 rfl ?_
    refine s_aload_n B.1 0 dX12_pump_142 rfl rfl ?_
    refine rr_getA B 42 mh_42 mn_42 mf_42 dX12_pump_143 ?_
    refine s_iload B.1 7 dX12_pump_146 rfl ?_
    refine s_iconst (v := 1) B.1 dX12_pump_148 (by decide) ?_
    refine s_iadd B.1 dX12_pump_149 ?_
    refine rr_iald B 42 mh_42 mk_42 dX12_pump_150 (fun v6 => ?_)
    refine rr_iast B 42 mh_42 mk_42 dX12_pump_151 ?_
    refine s_iinc (v := l7 + 1) (lv' := [(7, .int (l7 + 1)), (0, .ref g.1.2.2.2.2.2), (1, .int l1), (2, .int l2), (3, .int l3), (4, .int l4), (5, .int l5), (6, .int l6)]) B.1 7 dX12_pump_152 rfl rfl (by decide) rfl ?_
    refine s_goto B.1 75 dX12_pump_155 (by decide) ?_
    exact Sm.lvs [1, 2, 3, 4, 5, 6, 7, 0] rfl (hkb l1 l2 l3 l4 l5 l6 (l7 + 1))
set_option maxRecDepth 10000 in
theorem sm_pump_L75 {g : Gm RS Unit} {ke158 : Int32 → Int32 → Int32 → Int32 → Int32 → RS → Option (Unit × RS)} (B : Br g cX12_pump 8 voV none 4 104) (hke158 : ∀ (l1 : Int32) (l3 : Int32) (l4 : Int32) (l5 : Int32) (l6 : Int32), Sm g 8 158 [(0, .ref g.1.2.2.2.2.2), (1, .int l1), (3, .int l3), (4, .int l4), (5, .int l5), (6, .int l6)] [] (ke158 l1 l3 l4 l5 l6)) : ∀ (n : Nat) (l1 : Int32) (l2 : Int32) (l3 : Int32) (l4 : Int32) (l5 : Int32) (l6 : Int32) (l7 : Int32), Sm g 8 75 [(0, .ref g.1.2.2.2.2.2), (1, .int l1), (2, .int l2), (3, .int l3), (4, .int l4), (5, .int l5), (6, .int l6), (7, .int l7)] [] (R_pump_L75 ke158 n l1 l2 l3 l4 l5 l6 l7)
  | 0, _, _, _, _, _, _, _ => Sm.fail
  | n + 1, l1, l2, l3, l4, l5, l6, l7 => sm_pump_B75 B (sm_pump_L75 B hke158 n) hke158 l1 l2 l3 l4 l5 l6 l7
def R_pump_B0 (kb : Int32 → RS → Option (Unit × RS)) (ke173 : RS → Option (Unit × RS)) (l1 : Int32) : RS → Option (Unit × RS) :=
  rA 11 l1 fun v7 =>
  if v7 = 0 then (
    ke173
  ) else (
    rA 38 l1 fun v8 =>
    if v8 ≤ 0 then (
      ke173
    ) else (
      bd (R_mayGo l1) fun r9 =>
      if r9 = 0 then (
        ke173
      ) else (
        lq ((24 : Int32) * l1) fun x10 =>
        rA 39 x10 fun v11 =>
        rA 40 x10 fun v12 =>
        rA 41 x10 fun v13 =>
        rA 42 x10 fun v14 =>
        rA 38 l1 fun v15 =>
        wA 38 l1 (v15 - (1 : Int32)) <|
        R_pump_L75 (fun l1 l3 l4 l5 l6 => R_pump_J158 kb ke173 l1 l3 l4 l5 l6) fu l1 x10 v11 v12 v13 v14 x10
      )
    )
  )
def R_pump_L0 (ke173 : RS → Option (Unit × RS)) : Nat → Int32 → RS → Option (Unit × RS)
  | 0, _ => no
  | n + 1, l1 => R_pump_B0 (fun l1 => R_pump_L0 ke173 n l1) ke173 l1
set_option maxRecDepth 10000 in
theorem sm_pump_B0 {g : Gm RS Unit} {kb : Int32 → RS → Option (Unit × RS)} {ke173 : RS → Option (Unit × RS)} (B : Br g cX12_pump 8 voV none 4 104) (hkb : ∀ (l1 : Int32), Sm g 8 0 [(0, .ref g.1.2.2.2.2.2), (1, .int l1)] [] (kb l1)) (hke173 : Sm g 8 173 [] [] (ke173)) (l1 : Int32) : Sm g 8 0 [(0, .ref g.1.2.2.2.2.2), (1, .int l1)] [] (R_pump_B0 kb ke173 l1) := by
  unfold R_pump_B0
  refine s_aload_n B.1 0 dX12_pump_0 rfl rfl ?_
  refine rr_getA B 11 mh_11 mn_11 mf_11 dX12_pump_1 ?_
  refine s_iload_n B.1 1 dX12_pump_4 rfl rfl ?_
  refine rr_zald B 11 mh_11 mk_11 dX12_pump_5 (fun v7 => ?_)
  refine s_if_eq B.1 173 dX12_pump_6 (by decide) ?_ ?_
  · exact Sm.lvs [] rfl (hke173)
  · refine s_aload_n B.1 0 dX12_pump_9 rfl rfl ?_
    refine rr_getA B 38 mh_38 mn_38 mf_38 dX12_pump_10 ?_
    refine s_iload_n B.1 1 dX12_pump_13 rfl rfl ?_
    refine rr_iald B 38 mh_38 mk_38 dX12_pump_14 (fun v8 => ?_)
    refine s_if_le B.1 173 dX12_pump_15 (by decide) ?_ ?_
    · exact Sm.lvs [] rfl (hke173)
    · refine s_aload_n B.1 0 dX12_pump_18 rfl rfl ?_
      refine s_iload_n B.1 1 dX12_pump_19 rfl rfl ?_
      refine rr_cvi (As := [.int l1]) (st := []) B (m_mayGo B.ok l1) mc_mayGo ml_mayGo mi_mayGo me_mayGo ini12 md_mayGo (by decide) rfl (Nat.le_of_ble_eq_true rfl) dX12_pump_20 (fun r9 => ?_)
      refine s_if_eq B.1 173 dX12_pump_23 (by decide) ?_ ?_
      · exact Sm.lvs [] rfl (hke173)
      · refine s_bipush (v := (24)) B.1 dX12_pump_26 (by decide) ?_
        refine s_iload_n B.1 1 dX12_pump_28 rfl rfl ?_
        refine s_imul B.1 dX12_pump_29 ?_
        refine s_lqi (fun x10 => ?_)
        refine s_istore_n (lv' := [(2, .int x10), (0, .ref g.1.2.2.2.2.2), (1, .int l1)]) B.1 dX12_pump_30 rfl (by decide) rfl ?_
        refine s_aload_n B.1 1 dX12_pump_31 rfl rfl ?_
        refine rr_getA B 39 mh_39 mn_39 mf_39 dX12_pump_32 ?_
        refine s_iload_n B.1 0 dX12_pump_35 rfl rfl ?_
        refine rr_iald B 39 mh_39 mk_39 dX12_pump_36 (fun v11 => ?_)
        refine s_istore_n (lv' := [(3, .int v11), (2, .int x10), (0, .ref g.1.2.2.2.2.2), (1, .int l1)]) B.1 dX12_pump_37 rfl (by decide) rfl ?_
        refine s_aload_n B.1 2 dX12_pump_38 rfl rfl ?_
        refine rr_getA B 40 mh_40 mn_40 mf_40 dX12_pump_39 ?_
        refine s_iload_n B.1 1 dX12_pump_42 rfl rfl ?_
        refine rr_iald B 40 mh_40 mk_40 dX12_pump_43 (fun v12 => ?_)
        refine s_istore (lv' := [(4, .int v12), (3, .int v11), (2, .int x10), (0, .ref g.1.2.2.2.2.2), (1, .int l1)]) B.1 dX12_pump_44 (by decide) rfl ?_
        refine s_aload_n B.1 3 dX12_pump_46 rfl rfl ?_
        refine rr_getA B 41 mh_41 mn_41 mf_41 dX12_pump_47 ?_
        refine s_iload_n B.1 2 dX12_pump_50 rfl rfl ?_
        refine rr_iald B 41 mh_41 mk_41 dX12_pump_51 (fun v13 => ?_)
        refine s_istore (lv' := [(5, .int v13), (4, .int v12), (3, .int v11), (2, .int x10), (0, .ref g.1.2.2.2.2.2), (1, .int l1)]) B.1 dX12_pump_52 (by decide) rfl ?_
        refine s_aload_n B.1 4 dX12_pump_54 rfl rfl ?_
        refine rr_getA B 42 mh_42 mn_42 mf_42 dX12_pump_55 ?_
        refine s_iload_n B.1 3 dX12_pump_58 rfl rfl ?_
        refine rr_iald B 42 mh_42 mk_42 dX12_pump_59 (fun v14 => ?_)
        refine s_istore (lv' := [(6, .int v14), (5, .int v13), (4, .int v12), (3, .int v11), (2, .int x10), (0, .ref g.1.2.2.2.2.2), (1, .int l1)]) B.1 dX12_pump_60 (by decide) rfl ?_
        refine s_aload_n B.1 5 dX12_pump_62 rfl rfl ?_
        refine rr_getA B 38 mh_38 mn_38 mf_38 dX12_pump_63 ?_
        refine s_iload_n B.1 6 dX12_pump_66 rfl rfl ?_
        refine s_dup2 B.1 dX12_pump_67 rfl rfl ?_
        refine rr_iald B 38 mh_38 mk_38 dX12_pump_68 (fun v15 => ?_)
        refine s_iconst (v := 1) B.1 dX12_pump_69 (by decide) ?_
        refine s_isub B.1 dX12_pump_70 ?_
        refine rr_iast B 38 mh_38 mk_38 dX12_pump_71 ?_
        refine s_iload_n B.1 4 dX12_pump_72 rfl rfl ?_
        refine s_istore (lv' := [(7, .int x10), (6, .int v14), (5, .int v13), (4, .int v12), (3, .int v11), (2, .int x10), (0, .ref g.1.2.2.2.2.2), (1, .int l1)]) B.1 dX12_pump_73 (by decide) rfl ?_
        exact Sm.lvs [6, 7, 5, 4, 3, 2, 1, 0] rfl (sm_pump_L75 B (fun l1 l3 l4 l5 l6 => sm_pump_J158 B hkb hke173 l1 l3 l4 l5 l6) fu l1 x10 v11 v12 v13 v14 x10)
set_option maxRecDepth 10000 in
theorem sm_pump_L0 {g : Gm RS Unit} {ke173 : RS → Option (Unit × RS)} (B : Br g cX12_pump 8 voV none 4 104) (hke173 : Sm g 8 173 [] [] (ke173)) : ∀ (n : Nat) (l1 : Int32), Sm g 8 0 [(0, .ref g.1.2.2.2.2.2), (1, .int l1)] [] (R_pump_L0 ke173 n l1)
  | 0, _ => Sm.fail
  | n + 1, l1 => sm_pump_B0 B (sm_pump_L0 B hke173 n) hke173 l1
def R_pump (l1 : Int32) : RS → Option (Unit × RS) :=
  R_pump_L0 (R_pump_J173) fu l1
set_option maxRecDepth 10000 in
theorem m_pump {w : Wd} (hw : Wok w) (l1 : Int32) : MR w yX12_pump cX12_pump 8 none 4 104 voV [.ref w.2.2.2.2.2, .int l1] (R_pump l1) := by
  refine MR.of hw rfl (Nat.le_of_ble_eq_true rfl) (fun g hg B => ?_)
  subst hg
  unfold R_pump
  show Sm g 8 0 [(0, .ref g.1.2.2.2.2.2), (1, .int l1)] [] _
  exact Sm.lvs [0, 1] rfl (sm_pump_L0 B (sm_pump_J173 B) fu l1)
def R_leave_J38 (l1 : Int32) : RS → Option (Unit × RS) :=
  rA 31 l1 fun v1 =>
  wA 31 l1 (v1 - (1 : Int32)) <|
  bd (R_pump l1) fun r2 =>
  rt ()
set_option maxRecDepth 10000 in
theorem sm_leave_J38 {g : Gm RS Unit} (B : Br g cX12_leave 4 voV none 5 131) (l1 : Int32) : Sm g 4 38 [(0, .ref g.1.2.2.2.2.2), (1, .int l1)] [] (R_leave_J38 l1) := by
  unfold R_leave_J38
  refine s_aload_n B.1 0 dX12_leave_38 rfl rfl ?_
  refine rr_getA B 31 mh_31 mn_31 mf_31 dX12_leave_39 ?_
  refine s_iload_n B.1 1 dX12_leave_42 rfl rfl ?_
  refine s_dup2 B.1 dX12_leave_43 rfl rfl ?_
  refine rr_iald B 31 mh_31 mk_31 dX12_leave_44 (fun v1 => ?_)
  refine s_iconst (v := 1) B.1 dX12_leave_45 (by decide) ?_
  refine s_isub B.1 dX12_leave_46 ?_
  refine rr_iast B 31 mh_31 mk_31 dX12_leave_47 ?_
  refine s_aload_n B.1 0 dX12_leave_48 rfl rfl ?_
  refine s_iload_n B.1 1 dX12_leave_49 rfl rfl ?_
  refine rr_cvv (As := [.int l1]) (st := []) B (m_pump B.ok l1) mc_pump ml_pump mi_pump me_pump ini12 md_pump (by decide) rfl (Nat.le_of_ble_eq_true rfl) dX12_leave_50 (fun r2 => ?_)
  exact s_vret B.1 B.2.1 dX12_leave_53
def R_leave_B2 (kb : Int32 → Int32 → RS → Option (Unit × RS)) (ke38 : Int32 → RS → Option (Unit × RS)) (l1 : Int32) (l3 : Int32) : RS → Option (Unit × RS) :=
  rA 31 l1 fun v3 =>
  if v3 ≤ (l3 + (1 : Int32)) then (
    ke38 l1
  ) else (
    bd (R_moveWay ((((16 : Int32) * l1) + l3) + (1 : Int32)) (((16 : Int32) * l1) + l3)) fun r4 =>
    kb l1 (l3 + 1)
  )
def R_leave_L2 (ke38 : Int32 → RS → Option (Unit × RS)) : Nat → Int32 → Int32 → RS → Option (Unit × RS)
  | 0, _, _ => no
  | n + 1, l1, l3 => R_leave_B2 (fun l1 l3 => R_leave_L2 ke38 n l1 l3) ke38 l1 l3
set_option maxRecDepth 10000 in
theorem sm_leave_B2 {g : Gm RS Unit} {kb : Int32 → Int32 → RS → Option (Unit × RS)} {ke38 : Int32 → RS → Option (Unit × RS)} (B : Br g cX12_leave 4 voV none 5 131) (hkb : ∀ (l1 : Int32) (l3 : Int32), Sm g 4 2 [(0, .ref g.1.2.2.2.2.2), (1, .int l1), (3, .int l3)] [] (kb l1 l3)) (hke38 : ∀ (l1 : Int32), Sm g 4 38 [(0, .ref g.1.2.2.2.2.2), (1, .int l1)] [] (ke38 l1)) (l1 : Int32) (l3 : Int32) : Sm g 4 2 [(0, .ref g.1.2.2.2.2.2), (1, .int l1), (3, .int l3)] [] (R_leave_B2 kb ke38 l1 l3) := by
  unfold R_leave_B2
  refine s_iload_n B.1 2 dX12_leave_2 rfl rfl ?_
  refine s_iconst (v := 1) B.1 dX12_leave_3 (by decide) ?_
  refine s_iadd B.1 dX12_leave_4 ?_
  refine s_aload_n B.1 0 dX12_leave_5 rfl rfl ?_
  refine rr_getA B 31 mh_31 mn_31 mf_31 dX12_leave_6 ?_
  refine s_iload_n B.1 1 dX12_leave_9 rfl rfl ?_
  refine rr_iald B 31 mh_31 mk_31 dX12_leave_10 (fun v3 => ?_)
  refine s_icmp_ge B.1 38 dX12_leave_11 (by decide) ?_ ?_
  · exact Sm.lvs [0, 1] rfl (hke38 l1)
  · refine s_aload_n B.1 0 dX12_leave_14 rfl rfl ?_
    refine s_bipush (v := (16)) B.1 dX12_leave_15 (by decide) ?_
    refine s_iload_n B.1 1 dX12_leave_17 rfl rfl ?_
    refine s_imul B.1 dX12_leave_18 ?_
    refine s_iload_n B.1 2 dX12_leave_19 rfl rfl ?_
    refine s_iadd B.1 dX12_leave_20 ?_
    refine s_iconst (v := 1) B.1 dX12_leave_21 (by decide) ?_
    refine s_iadd B.1 dX12_leave_22 ?_
    refine s_bipush (v := (16)) B.1 dX12_leave_23 (by decide) ?_
    refine s_iload_n B.1 1 dX12_leave_25 rfl rfl ?_
    refine s_imul B.1 dX12_leave_26 ?_
    refine s_iload_n B.1 2 dX12_leave_27 rfl rfl ?_
    refine s_iadd B.1 dX12_leave_28 ?_
    refine rr_cvv (As := [.int ((((16 : Int32) * l1) + l3) + (1 : Int32)), .int (((16 : Int32) * l1) + l3)]) (st := []) B (m_moveWay B.ok ((((16 : Int32) * l1) + l3) + (1 : Int32)) (((16 : Int32) * l1) + l3)) mc_moveWay ml_moveWay mi_moveWay me_moveWay ini12 md_moveWay (by decide) rfl (Nat.le_of_ble_eq_true rfl) dX12_leave_29 (fun r4 => ?_)
    refine s_iinc (v := l3 + 1) (lv' := [(3, .int (l3 + 1)), (0, .ref g.1.2.2.2.2.2), (1, .int l1)]) B.1 2 dX12_leave_32 rfl rfl (by decide) rfl ?_
    refine s_goto B.1 2 dX12_leave_35 (by decide) ?_
    exact Sm.lvs [1, 2, 0] rfl (hkb l1 (l3 + 1))
set_option maxRecDepth 10000 in
theorem sm_leave_L2 {g : Gm RS Unit} {ke38 : Int32 → RS → Option (Unit × RS)} (B : Br g cX12_leave 4 voV none 5 131) (hke38 : ∀ (l1 : Int32), Sm g 4 38 [(0, .ref g.1.2.2.2.2.2), (1, .int l1)] [] (ke38 l1)) : ∀ (n : Nat) (l1 : Int32) (l3 : Int32), Sm g 4 2 [(0, .ref g.1.2.2.2.2.2), (1, .int l1), (3, .int l3)] [] (R_leave_L2 ke38 n l1 l3)
  | 0, _, _ => Sm.fail
  | n + 1, l1, l3 => sm_leave_B2 B (sm_leave_L2 B hke38 n) hke38 l1 l3
def R_leave (l1 : Int32) (l2 : Int32) : RS → Option (Unit × RS) :=
  R_leave_L2 (fun l1 => R_leave_J38 l1) fu l1 l2
set_option maxRecDepth 10000 in
theorem m_leave {w : Wd} (hw : Wok w) (l1 : Int32) (l2 : Int32) : MR w yX12_leave cX12_leave 4 none 5 131 voV [.ref w.2.2.2.2.2, .int l1, .int l2] (R_leave l1 l2) := by
  refine MR.of hw rfl (Nat.le_of_ble_eq_true rfl) (fun g hg B => ?_)
  subst hg
  unfold R_leave
  show Sm g 4 0 [(0, .ref g.1.2.2.2.2.2), (1, .int l1), (2, .int l2)] [] _
  refine s_iload_n B.1 2 dX12_leave_0 rfl rfl ?_
  refine s_istore_n (lv' := [(3, .int l2), (0, .ref g.1.2.2.2.2.2), (1, .int l1), (2, .int l2)]) B.1 dX12_leave_1 rfl (by decide) rfl ?_
  exact Sm.lvs [1, 2, 0] rfl (sm_leave_L2 B (fun l1 => sm_leave_J38 B l1) fu l1 l2)
def R_one : RS → Option (Int32 × RS) :=
  rI 79 fun v1 =>
  if v1 = 0 then (
    rI 76 fun v2 =>
    rI 78 fun v3 =>
    if v2 < v3 then (
      rI 76 fun v4 =>
      wI 76 (v4 + (1 : Int32)) <|
      rA 6 v4 fun v5 =>
      rt (v5 &&& (255 : Int32))
    ) else (
      bd (R_fails (129 : Int32)) fun r6 =>
      rt ((0 : Int32))
    )
  ) else (
    rt ((0 : Int32))
  )
set_option maxRecDepth 10000 in
theorem m_one {w : Wd} (hw : Wok w) : MR w yX12_one cX12_one 1 (some .int) 1 21 voI [.ref w.2.2.2.2.2] (R_one) := by
  refine MR.of hw rfl (Nat.le_of_ble_eq_true rfl) (fun g hg B => ?_)
  subst hg
  unfold R_one
  show Sm g 1 0 [(0, .ref g.1.2.2.2.2.2)] [] _
  refine s_aload_n B.1 0 dX12_one_0 rfl rfl ?_
  refine rr_getI B 79 mh_79 mk_79 mf_79 dX12_one_1 (fun v1 => ?_)
  refine s_if_eq B.1 9 dX12_one_4 (by decide) ?_ ?_
  · refine s_aload_n B.1 0 dX12_one_9 rfl rfl ?_
    refine rr_getI B 76 mh_76 mk_76 mf_76 dX12_one_10 (fun v2 => ?_)
    refine s_aload_n B.1 0 dX12_one_13 rfl rfl ?_
    refine rr_getI B 78 mh_78 mk_78 mf_78 dX12_one_14 (fun v3 => ?_)
    refine s_icmp_lt B.1 29 dX12_one_17 (by decide) ?_ ?_
    · refine s_aload_n B.1 0 dX12_one_29 rfl rfl ?_
      refine rr_getA B 6 mh_6 mn_6 mf_6 dX12_one_30 ?_
      refine s_aload_n B.1 0 dX12_one_33 rfl rfl ?_
      refine s_dup B.1 dX12_one_34 rfl ?_
      refine rr_getI B 76 mh_76 mk_76 mf_76 dX12_one_35 (fun v4 => ?_)
      refine s_dup_x1 B.1 dX12_one_38 rfl rfl ?_
      refine s_iconst (v := 1) B.1 dX12_one_39 (by decide) ?_
      refine s_iadd B.1 dX12_one_40 ?_
      refine rr_putI B 76 mh_76 mk_76 mf_76 dX12_one_41 ?_
      refine rr_bald B 6 mh_6 mk_6 dX12_one_44 (fun v5 => ?_)
      refine s_sipush (v := (255)) B.1 dX12_one_45 (by decide) ?_
      refine s_iand B.1 dX12_one_48 ?_
      exact s_iret B.1 B.2.1 dX12_one_49
    · refine s_aload_n B.1 0 dX12_one_20 rfl rfl ?_
      refine s_sipush (v := (129)) B.1 dX12_one_21 (by decide) ?_
      refine rr_cvv (As := [.int (129 : Int32)]) (st := []) B (m_fails B.ok (129 : Int32)) mc_fails ml_fails mi_fails me_fails ini12 md_fails (by decide) rfl (Nat.le_of_ble_eq_true rfl) dX12_one_24 (fun r6 => ?_)
      refine s_iconst (v := 0) B.1 dX12_one_27 (by decide) ?_
      exact s_iret B.1 B.2.1 dX12_one_28
  · refine s_iconst (v := 0) B.1 dX12_one_7 (by decide) ?_
    exact s_iret B.1 B.2.1 dX12_one_8
def R_two_J27 : RS → Option (Int32 × RS) :=
  bd (R_one) fun r1 =>
  bd (R_one) fun r2 =>
  rt ((r1 <<< ((8 : Int32) &&& 31)) ||| r2)
set_option maxRecDepth 10000 in
theorem sm_two_J27 {g : Gm RS Int32} (B : Br g cX12_two 2 voI (some .int) 2 41) : Sm g 2 27 [(0, .ref g.1.2.2.2.2.2)] [] (R_two_J27) := by
  unfold R_two_J27
  refine s_aload_n B.1 0 dX12_two_27 rfl rfl ?_
  refine rr_cvi (As := []) (st := []) B (m_one B.ok) mc_one ml_one mi_one me_one ini12 md_one (by decide) rfl (Nat.le_of_ble_eq_true rfl) dX12_two_28 (fun r1 => ?_)
  refine s_istore_n (lv' := [(1, .int r1), (0, .ref g.1.2.2.2.2.2)]) B.1 dX12_two_31 rfl (by decide) rfl ?_
  refine s_iload_n B.1 0 dX12_two_32 rfl rfl ?_
  refine s_bipush (v := (8)) B.1 dX12_two_33 (by decide) ?_
  refine s_ishl B.1 dX12_two_35 ?_
  refine s_aload_n B.1 1 dX12_two_36 rfl rfl ?_
  refine rr_cvi (As := []) (st := [.int (r1 <<< ((8 : Int32) &&& 31))]) B (m_one B.ok) mc_one ml_one mi_one me_one ini12 md_one (by decide) rfl (Nat.le_of_ble_eq_true rfl) dX12_two_37 (fun r2 => ?_)
  refine s_ior B.1 dX12_two_40 ?_
  exact s_iret B.1 B.2.1 dX12_two_41
def R_two : RS → Option (Int32 × RS) :=
  rI 79 fun v3 =>
  if v3 = 0 then (
    rI 76 fun v4 =>
    rI 78 fun v5 =>
    if (v4 + (2 : Int32)) ≤ v5 then (
      R_two_J27
    ) else (
      bd (R_fails (129 : Int32)) fun r6 =>
      R_two_J27
    )
  ) else (
    R_two_J27
  )
set_option maxRecDepth 10000 in
theorem m_two {w : Wd} (hw : Wok w) : MR w yX12_two cX12_two 2 (some .int) 2 41 voI [.ref w.2.2.2.2.2] (R_two) := by
  refine MR.of hw rfl (Nat.le_of_ble_eq_true rfl) (fun g hg B => ?_)
  subst hg
  unfold R_two
  show Sm g 2 0 [(0, .ref g.1.2.2.2.2.2)] [] _
  refine s_aload_n B.1 0 dX12_two_0 rfl rfl ?_
  refine rr_getI B 79 mh_79 mk_79 mf_79 dX12_two_1 (fun v3 => ?_)
  refine s_if_ne B.1 27 dX12_two_4 (by decide) ?_ ?_
  · exact Sm.lvs [0] rfl (sm_two_J27 B)
  · refine s_aload_n B.1 0 dX12_two_7 rfl rfl ?_
    refine rr_getI B 76 mh_76 mk_76 mf_76 dX12_two_8 (fun v4 => ?_)
    refine s_iconst (v := 2) B.1 dX12_two_11 (by decide) ?_
    refine s_iadd B.1 dX12_two_12 ?_
    refine s_aload_n B.1 0 dX12_two_13 rfl rfl ?_
    refine rr_getI B 78 mh_78 mk_78 mf_78 dX12_two_14 (fun v5 => ?_)
    refine s_icmp_le B.1 27 dX12_two_17 (by decide) ?_ ?_
    · exact Sm.lvs [0] rfl (sm_two_J27 B)
    · refine s_aload_n B.1 0 dX12_two_20 rfl rfl ?_
      refine s_sipush (v := (129)) B.1 dX12_two_21 (by decide) ?_
      refine rr_cvv (As := [.int (129 : Int32)]) (st := []) B (m_fails B.ok (129 : Int32)) mc_fails ml_fails mi_fails me_fails ini12 md_fails (by decide) rfl (Nat.le_of_ble_eq_true rfl) dX12_two_24 (fun r6 => ?_)
      exact Sm.lvs [0] rfl (sm_two_J27 B)
def R_four_J27 : RS → Option (Int64 × RS) :=
  bd (R_two) fun r1 =>
  bd (R_two) fun r2 =>
  rt ((lshl6 r1.toInt64 (16 : Int32)) ||| r2.toInt64)
set_option maxRecDepth 10000 in
theorem sm_four_J27 {g : Gm RS Int64} (B : Br g cX12_four 3 voL (some .long) 3 62) : Sm g 3 27 [(0, .ref g.1.2.2.2.2.2)] [] (R_four_J27) := by
  unfold R_four_J27
  refine s_aload_n B.1 0 dX12_four_27 rfl rfl ?_
  refine rr_cvi (As := []) (st := []) B (m_two B.ok) mc_two ml_two mi_two me_two ini12 md_two (by decide) rfl (Nat.le_of_ble_eq_true rfl) dX12_four_28 (fun r1 => ?_)
  refine s_i2l B.1 dX12_four_31 ?_
  refine s_lstore_n (lv' := [(1, .long r1.toInt64), (0, .ref g.1.2.2.2.2.2)]) B.1 dX12_four_32 rfl (by decide) rfl ?_
  refine s_lload_n B.1 0 dX12_four_33 rfl rfl ?_
  refine s_bipush (v := (16)) B.1 dX12_four_34 (by decide) ?_
  refine s_lshl B.1 dX12_four_36 ?_
  refine s_aload_n B.1 1 dX12_four_37 rfl rfl ?_
  refine rr_cvi (As := []) (st := [.long (lshl6 r1.toInt64 (16 : Int32))]) B (m_two B.ok) mc_two ml_two mi_two me_two ini12 md_two (by decide) rfl (Nat.le_of_ble_eq_true rfl) dX12_four_38 (fun r2 => ?_)
  refine s_i2l B.1 dX12_four_41 ?_
  refine s_lor B.1 dX12_four_42 ?_
  exact s_lret B.1 B.2.1 dX12_four_43
def R_four : RS → Option (Int64 × RS) :=
  rI 79 fun v3 =>
  if v3 = 0 then (
    rI 76 fun v4 =>
    rI 78 fun v5 =>
    if (v4 + (4 : Int32)) ≤ v5 then (
      R_four_J27
    ) else (
      bd (R_fails (129 : Int32)) fun r6 =>
      R_four_J27
    )
  ) else (
    R_four_J27
  )
set_option maxRecDepth 10000 in
theorem m_four {w : Wd} (hw : Wok w) : MR w yX12_four cX12_four 3 (some .long) 3 62 voL [.ref w.2.2.2.2.2] (R_four) := by
  refine MR.of hw rfl (Nat.le_of_ble_eq_true rfl) (fun g hg B => ?_)
  subst hg
  unfold R_four
  show Sm g 3 0 [(0, .ref g.1.2.2.2.2.2)] [] _
  refine s_aload_n B.1 0 dX12_four_0 rfl rfl ?_
  refine rr_getI B 79 mh_79 mk_79 mf_79 dX12_four_1 (fun v3 => ?_)
  refine s_if_ne B.1 27 dX12_four_4 (by decide) ?_ ?_
  · exact Sm.lvs [0] rfl (sm_four_J27 B)
  · refine s_aload_n B.1 0 dX12_four_7 rfl rfl ?_
    refine rr_getI B 76 mh_76 mk_76 mf_76 dX12_four_8 (fun v4 => ?_)
    refine s_iconst (v := 4) B.1 dX12_four_11 (by decide) ?_
    refine s_iadd B.1 dX12_four_12 ?_
    refine s_aload_n B.1 0 dX12_four_13 rfl rfl ?_
    refine rr_getI B 78 mh_78 mk_78 mf_78 dX12_four_14 (fun v5 => ?_)
    refine s_icmp_le B.1 27 dX12_four_17 (by decide) ?_ ?_
    · exact Sm.lvs [0] rfl (sm_four_J27 B)
    · refine s_aload_n B.1 0 dX12_four_20 rfl rfl ?_
      refine s_sipush (v := (129)) B.1 dX12_four_21 (by decide) ?_
      refine rr_cvv (As := [.int (129 : Int32)]) (st := []) B (m_fails B.ok (129 : Int32)) mc_fails ml_fails mi_fails me_fails ini12 md_fails (by decide) rfl (Nat.le_of_ble_eq_true rfl) dX12_four_24 (fun r6 => ?_)
      exact Sm.lvs [0] rfl (sm_four_J27 B)
def R_row_J32 (l1 : Int32) : RS → Option (Unit × RS) :=
  rI 79 fun v1 =>
  if v1 = 0 then (
    rI 76 fun v2 =>
    wI 80 (v2) <|
    wI 81 (l1) <|
    rI 76 fun v3 =>
    wI 76 (v3 + l1) <|
    rt ()
  ) else (
    rt ()
  )
set_option maxRecDepth 10000 in
theorem sm_row_J32 {g : Gm RS Unit} (B : Br g cX12_row 2 voV none 3 62) (l1 : Int32) : Sm g 2 32 [(0, .ref g.1.2.2.2.2.2), (1, .int l1)] [] (R_row_J32 l1) := by
  unfold R_row_J32
  refine s_aload_n B.1 0 dX12_row_32 rfl rfl ?_
  refine rr_getI B 79 mh_79 mk_79 mf_79 dX12_row_33 (fun v1 => ?_)
  refine s_if_eq B.1 40 dX12_row_36 (by decide) ?_ ?_
  · refine s_aload_n B.1 0 dX12_row_40 rfl rfl ?_
    refine s_aload_n B.1 0 dX12_row_41 rfl rfl ?_
    refine rr_getI B 76 mh_76 mk_76 mf_76 dX12_row_42 (fun v2 => ?_)
    refine rr_putI B 80 mh_80 mk_80 mf_80 dX12_row_45 ?_
    refine s_aload_n B.1 0 dX12_row_48 rfl rfl ?_
    refine s_iload_n B.1 1 dX12_row_49 rfl rfl ?_
    refine rr_putI B 81 mh_81 mk_81 mf_81 dX12_row_50 ?_
    refine s_aload_n B.1 0 dX12_row_53 rfl rfl ?_
    refine s_dup B.1 dX12_row_54 rfl ?_
    refine rr_getI B 76 mh_76 mk_76 mf_76 dX12_row_55 (fun v3 => ?_)
    refine s_iload_n B.1 1 dX12_row_58 rfl rfl ?_
    refine s_iadd B.1 dX12_row_59 ?_
    refine rr_putI B 76 mh_76 mk_76 mf_76 dX12_row_60 ?_
    exact s_vret B.1 B.2.1 dX12_row_63
  · exact s_vret B.1 B.2.1 dX12_row_39
def R_row : RS → Option (Unit × RS) :=
  bd (R_two) fun r4 =>
  rI 79 fun v5 =>
  if v5 = 0 then (
    rI 76 fun v6 =>
    rI 78 fun v7 =>
    if (v6 + r4) ≤ v7 then (
      R_row_J32 r4
    ) else (
      bd (R_fails (129 : Int32)) fun r8 =>
      R_row_J32 r4
    )
  ) else (
    R_row_J32 r4
  )
set_option maxRecDepth 10000 in
theorem m_row {w : Wd} (hw : Wok w) : MR w yX12_row cX12_row 2 none 3 62 voV [.ref w.2.2.2.2.2] (R_row) := by
  refine MR.of hw rfl (Nat.le_of_ble_eq_true rfl) (fun g hg B => ?_)
  subst hg
  unfold R_row
  show Sm g 2 0 [(0, .ref g.1.2.2.2.2.2)] [] _
  refine s_aload_n B.1 0 dX12_row_0 rfl rfl ?_
  refine rr_cvi (As := []) (st := []) B (m_two B.ok) mc_two ml_two mi_two me_two ini12 md_two (by decide) rfl (Nat.le_of_ble_eq_true rfl) dX12_row_1 (fun r4 => ?_)
  refine s_istore_n (lv' := [(1, .int r4), (0, .ref g.1.2.2.2.2.2)]) B.1 dX12_row_4 rfl (by decide) rfl ?_
  refine s_aload_n B.1 1 dX12_row_5 rfl rfl ?_
  refine rr_getI B 79 mh_79 mk_79 mf_79 dX12_row_6 (fun v5 => ?_)
  refine s_if_ne B.1 32 dX12_row_9 (by decide) ?_ ?_
  · exact Sm.lvs [1, 0] rfl (sm_row_J32 B r4)
  · refine s_aload_n B.1 1 dX12_row_12 rfl rfl ?_
    refine rr_getI B 76 mh_76 mk_76 mf_76 dX12_row_13 (fun v6 => ?_)
    refine s_iload_n B.1 0 dX12_row_16 rfl rfl ?_
    refine s_iadd B.1 dX12_row_17 ?_
    refine s_aload_n B.1 1 dX12_row_18 rfl rfl ?_
    refine rr_getI B 78 mh_78 mk_78 mf_78 dX12_row_19 (fun v7 => ?_)
    refine s_icmp_le B.1 32 dX12_row_22 (by decide) ?_ ?_
    · exact Sm.lvs [1, 0] rfl (sm_row_J32 B r4)
    · refine s_aload_n B.1 1 dX12_row_25 rfl rfl ?_
      refine s_sipush (v := (129)) B.1 dX12_row_26 (by decide) ?_
      refine rr_cvv (As := [.int (129 : Int32)]) (st := []) B (m_fails B.ok (129 : Int32)) mc_fails ml_fails mi_fails me_fails ini12 md_fails (by decide) rfl (Nat.le_of_ble_eq_true rfl) dX12_row_29 (fun r8 => ?_)
      exact Sm.lvs [1, 0] rfl (sm_row_J32 B r4)
def R_isText_J283 : RS → Option (Int32 × RS) :=
  zt ((1 : Int32))
set_option maxRecDepth 10000 in
theorem sm_isText_J283 {g : Gm RS Int32} (B : Br g cX12_isText 9 voI (some .boolean) 0 0) : Sm g 9 283 [] [] (R_isText_J283) := by
  unfold R_isText_J283
  refine s_iconst (v := 1) B.1 dX12_isText_283 (by decide) ?_
  exact s_zret B.1 B.2.1 dX12_isText_284
def R_isText_J271 : RS → Option (Int32 × RS) :=
  zt ((0 : Int32))
set_option maxRecDepth 10000 in
theorem sm_isText_J271 {g : Gm RS Int32} (B : Br g cX12_isText 9 voI (some .boolean) 0 0) : Sm g 9 271 [] [] (R_isText_J271) := by
  unfold R_isText_J271
  refine s_iconst (v := 0) B.1 dX12_isText_271 (by decide) ?_
  exact s_zret B.1 B.2.1 dX12_isText_272
def R_isText_J198 : RS → Option (Int32 × RS) :=
  zt ((0 : Int32))
set_option maxRecDepth 10000 in
theorem sm_isText_J198 {g : Gm RS Int32} (B : Br g cX12_isText 9 voI (some .boolean) 0 0) : Sm g 9 198 [] [] (R_isText_J198) := by
  unfold R_isText_J198
  refine s_iconst (v := 0) B.1 dX12_isText_198 (by decide) ?_
  exact s_zret B.1 B.2.1 dX12_isText_199
def R_isText_J114 : RS → Option (Int32 × RS) :=
  zt ((0 : Int32))
set_option maxRecDepth 10000 in
theorem sm_isText_J114 {g : Gm RS Int32} (B : Br g cX12_isText 9 voI (some .boolean) 0 0) : Sm g 9 114 [] [] (R_isText_J114) := by
  unfold R_isText_J114
  refine s_iconst (v := 0) B.1 dX12_isText_114 (by decide) ?_
  exact s_zret B.1 B.2.1 dX12_isText_115
def R_isText_J273 (kb : Int32 → Int32 → Int32 → RS → Option (Int32 × RS)) (ke114 : RS → Option (Int32 × RS)) (ke198 : RS → Option (Int32 × RS)) (ke271 : RS → Option (Int32 × RS)) (ke283 : RS → Option (Int32 × RS)) (l1 : Int32) (l2 : Int32) (l3 : Int32) (l5 : Int32) : RS → Option (Int32 × RS) :=
  lq (l3 + (l5 + (1 : Int32))) fun x1 =>
  kb l1 l2 x1
set_option maxRecDepth 10000 in
theorem sm_isText_J273 {g : Gm RS Int32} {kb : Int32 → Int32 → Int32 → RS → Option (Int32 × RS)} {ke114 : RS → Option (Int32 × RS)} {ke198 : RS → Option (Int32 × RS)} {ke271 : RS → Option (Int32 × RS)} {ke283 : RS → Option (Int32 × RS)} (B : Br g cX12_isText 9 voI (some .boolean) 0 0) (hkb : ∀ (l1 : Int32) (l2 : Int32) (l3 : Int32), Sm g 9 2 [(0, .ref g.1.2.2.2.2.2), (1, .int l1), (2, .int l2), (3, .int l3)] [] (kb l1 l2 l3)) (hke114 : Sm g 9 114 [] [] (ke114)) (hke198 : Sm g 9 198 [] [] (ke198)) (hke271 : Sm g 9 271 [] [] (ke271)) (hke283 : Sm g 9 283 [] [] (ke283)) (l1 : Int32) (l2 : Int32) (l3 : Int32) (l5 : Int32) : Sm g 9 273 [(0, .ref g.1.2.2.2.2.2), (1, .int l1), (2, .int l2), (3, .int l3), (5, .int l5)] [] (R_isText_J273 kb ke114 ke198 ke271 ke283 l1 l2 l3 l5) := by
  unfold R_isText_J273
  refine s_iload_n B.1 3 dX12_isText_273 rfl rfl ?_
  refine s_iload B.1 4 dX12_isText_274 rfl ?_
  refine s_iconst (v := 1) B.1 dX12_isText_276 (by decide) ?_
  refine s_iadd B.1 dX12_isText_277 ?_
  refine s_iadd B.1 dX12_isText_278 ?_
  refine s_lqi (fun x1 => ?_)
  refine s_istore_n (lv' := [(3, .int x1), (0, .ref g.1.2.2.2.2.2), (1, .int l1), (2, .int l2), (5, .int l5)]) B.1 dX12_isText_279 rfl (by decide) rfl ?_
  refine s_goto B.1 2 dX12_isText_280 (by decide) ?_
  exact Sm.lvs [1, 2, 3, 0] rfl (hkb l1 l2 x1)
def R_isText_J249 (kb : Int32 → Int32 → Int32 → RS → Option (Int32 × RS)) (ke114 : RS → Option (Int32 × RS)) (ke198 : RS → Option (Int32 × RS)) (ke271 : RS → Option (Int32 × RS)) (ke283 : RS → Option (Int32 × RS)) (l1 : Int32) (l2 : Int32) (l3 : Int32) (l5 : Int32) (l6 : Int32) : RS → Option (Int32 × RS) :=
  if l5 = (3 : Int32) then (
    if l6 < (65536 : Int32) then (
      ke271
    ) else (
      if l6 ≤ (1114111 : Int32) then (
        R_isText_J273 kb ke114 ke198 ke271 ke283 l1 l2 l3 l5
      ) else (
        ke271
      )
    )
  ) else (
    R_isText_J273 kb ke114 ke198 ke271 ke283 l1 l2 l3 l5
  )
set_option maxRecDepth 10000 in
theorem sm_isText_J249 {g : Gm RS Int32} {kb : Int32 → Int32 → Int32 → RS → Option (Int32 × RS)} {ke114 : RS → Option (Int32 × RS)} {ke198 : RS → Option (Int32 × RS)} {ke271 : RS → Option (Int32 × RS)} {ke283 : RS → Option (Int32 × RS)} (B : Br g cX12_isText 9 voI (some .boolean) 0 0) (hkb : ∀ (l1 : Int32) (l2 : Int32) (l3 : Int32), Sm g 9 2 [(0, .ref g.1.2.2.2.2.2), (1, .int l1), (2, .int l2), (3, .int l3)] [] (kb l1 l2 l3)) (hke114 : Sm g 9 114 [] [] (ke114)) (hke198 : Sm g 9 198 [] [] (ke198)) (hke271 : Sm g 9 271 [] [] (ke271)) (hke283 : Sm g 9 283 [] [] (ke283)) (l1 : Int32) (l2 : Int32) (l3 : Int32) (l5 : Int32) (l6 : Int32) : Sm g 9 249 [(0, .ref g.1.2.2.2.2.2), (1, .int l1), (2, .int l2), (3, .int l3), (5, .int l5), (6, .int l6)] [] (R_isText_J249 kb ke114 ke198 ke271 ke283 l1 l2 l3 l5 l6) := by
  unfold R_isText_J249
  refine s_iload B.1 4 dX12_isText_249 rfl ?_
  refine s_iconst (v := 3) B.1 dX12_isText_251 (by decide) ?_
  refine s_icmp_ne B.1 273 dX12_isText_252 (by decide) ?_ ?_
  · exact Sm.lvs [0, 1, 2, 3, 4] rfl (sm_isText_J273 B hkb hke114 hke198 hke271 hke283 l1 l2 l3 l5)
  · refine s_iload B.1 5 dX12_isText_255 rfl ?_
    refine s_ldcw (v := (65536)) B.1 tw_2058 dX12_isText_257 ?_
    refine s_icmp_lt B.1 271 dX12_isText_260 (by decide) ?_ ?_
    · exact Sm.lvs [] rfl (hke271)
    · refine s_iload B.1 5 dX12_isText_263 rfl ?_
      refine s_ldcw (v := (1114111)) B.1 tw_2059 dX12_isText_265 ?_
      refine s_icmp_le B.1 273 dX12_isText_268 (by decide) ?_ ?_
      · exact Sm.lvs [0, 1, 2, 3, 4] rfl (sm_isText_J273 B hkb hke114 hke198 hke271 hke283 l1 l2 l3 l5)
      · exact Sm.lvs [] rfl (hke271)
def R_isText_J219 (kb : Int32 → Int32 → Int32 → RS → Option (Int32 × RS)) (ke114 : RS → Option (Int32 × RS)) (ke198 : RS → Option (Int32 × RS)) (ke271 : RS → Option (Int32 × RS)) (ke283 : RS → Option (Int32 × RS)) (l1 : Int32) (l2 : Int32) (l3 : Int32) (l5 : Int32) (l6 : Int32) : RS → Option (Int32 × RS) :=
  if l5 = (2 : Int32) then (
    if l6 < (2048 : Int32) then (
      ke271
    ) else (
      if l6 < (55296 : Int32) then (
        R_isText_J249 kb ke114 ke198 ke271 ke283 l1 l2 l3 l5 l6
      ) else (
        if l6 ≤ (57343 : Int32) then (
          ke271
        ) else (
          R_isText_J249 kb ke114 ke198 ke271 ke283 l1 l2 l3 l5 l6
        )
      )
    )
  ) else (
    R_isText_J249 kb ke114 ke198 ke271 ke283 l1 l2 l3 l5 l6
  )
set_option maxRecDepth 10000 in
theorem sm_isText_J219 {g : Gm RS Int32} {kb : Int32 → Int32 → Int32 → RS → Option (Int32 × RS)} {ke114 : RS → Option (Int32 × RS)} {ke198 : RS → Option (Int32 × RS)} {ke271 : RS → Option (Int32 × RS)} {ke283 : RS → Option (Int32 × RS)} (B : Br g cX12_isText 9 voI (some .boolean) 0 0) (hkb : ∀ (l1 : Int32) (l2 : Int32) (l3 : Int32), Sm g 9 2 [(0, .ref g.1.2.2.2.2.2), (1, .int l1), (2, .int l2), (3, .int l3)] [] (kb l1 l2 l3)) (hke114 : Sm g 9 114 [] [] (ke114)) (hke198 : Sm g 9 198 [] [] (ke198)) (hke271 : Sm g 9 271 [] [] (ke271)) (hke283 : Sm g 9 283 [] [] (ke283)) (l1 : Int32) (l2 : Int32) (l3 : Int32) (l5 : Int32) (l6 : Int32) : Sm g 9 219 [(0, .ref g.1.2.2.2.2.2), (1, .int l1), (2, .int l2), (3, .int l3), (5, .int l5), (6, .int l6)] [] (R_isText_J219 kb ke114 ke198 ke271 ke283 l1 l2 l3 l5 l6) := by
  unfold R_isText_J219
  refine s_iload B.1 4 dX12_isText_219 rfl ?_
  refine s_iconst (v := 2) B.1 dX12_isText_221 (by decide) ?_
  refine s_icmp_ne B.1 249 dX12_isText_222 (by decide) ?_ ?_
  · exact Sm.lvs [0, 1, 2, 3, 4, 5] rfl (sm_isText_J249 B hkb hke114 hke198 hke271 hke283 l1 l2 l3 l5 l6)
  · refine s_iload B.1 5 dX12_isText_225 rfl ?_
    refine s_sipush (v := (2048)) B.1 dX12_isText_227 (by decide) ?_
    refine s_icmp_lt B.1 271 dX12_isText_230 (by decide) ?_ ?_
    · exact Sm.lvs [] rfl (hke271)
    · refine s_iload B.1 5 dX12_isText_233 rfl ?_
      refine s_ldcw (v := (55296)) B.1 tw_2056 dX12_isText_235 ?_
      refine s_icmp_lt B.1 249 dX12_isText_238 (by decide) ?_ ?_
      · exact Sm.lvs [0, 1, 2, 3, 4, 5] rfl (sm_isText_J249 B hkb hke114 hke198 hke271 hke283 l1 l2 l3 l5 l6)
      · refine s_iload B.1 5 dX12_isText_241 rfl ?_
        refine s_ldcw (v := (57343)) B.1 tw_2057 dX12_isText_243 ?_
        refine s_icmp_le B.1 271 dX12_isText_246 (by decide) ?_ ?_
        · exact Sm.lvs [] rfl (hke271)
        · exact Sm.lvs [0, 1, 2, 3, 4, 5] rfl (sm_isText_J249 B hkb hke114 hke198 hke271 hke283 l1 l2 l3 l5 l6)
def R_isText_B158 (kb : Int32 → Int32 → Int32 → Int32 → Int32 → Int32 → RS → Option (Int32 × RS)) (ke198 : RS → Option (Int32 × RS)) (ke219 : Int32 → Int32 → Int32 → Int32 → Int32 → RS → Option (Int32 × RS)) (l1 : Int32) (l2 : Int32) (l3 : Int32) (l5 : Int32) (l6 : Int32) (l7 : Int32) : RS → Option (Int32 × RS) :=
  if l5 < l7 then (
    ke219 l1 l2 l3 l5 l6
  ) else (
    rA 6 ((l1 + l3) + l7) fun v2 =>
    lq (v2 &&& (255 : Int32)) fun x3 =>
    if x3 < (128 : Int32) then (
      ke198
    ) else (
      if x3 ≤ (191 : Int32) then (
        lq ((l6 <<< ((6 : Int32) &&& 31)) ||| (x3 &&& (63 : Int32))) fun x4 =>
        kb l1 l2 l3 l5 x4 (l7 + 1)
      ) else (
        ke198
      )
    )
  )
def R_isText_L158 (ke198 : RS → Option (Int32 × RS)) (ke219 : Int32 → Int32 → Int32 → Int32 → Int32 → RS → Option (Int32 × RS)) : Nat → Int32 → Int32 → Int32 → Int32 → Int32 → Int32 → RS → Option (Int32 × RS)
  | 0, _, _, _, _, _, _ => no
  | n + 1, l1, l2, l3, l5, l6, l7 => R_isText_B158 (fun l1 l2 l3 l5 l6 l7 => R_isText_L158 ke198 ke219 n l1 l2 l3 l5 l6 l7) ke198 ke219 l1 l2 l3 l5 l6 l7
set_option maxRecDepth 10000 in
theorem sm_isText_B158 {g : Gm RS Int32} {kb : Int32 → Int32 → Int32 → Int32 → Int32 → Int32 → RS → Option (Int32 × RS)} {ke198 : RS → Option (Int32 × RS)} {ke219 : Int32 → Int32 → Int32 → Int32 → Int32 → RS → Option (Int32 × RS)} (B : Br g cX12_isText 9 voI (some .boolean) 0 0) (hkb : ∀ (l1 : Int32) (l2 : Int32) (l3 : Int32) (l5 : Int32) (l6 : Int32) (l7 : Int32), Sm g 9 158 [(0, .ref g.1.2.2.2.2.2), (1, .int l1), (2, .int l2), (3, .int l3), (5, .int l5), (6, .int l6), (7, .int l7)] [] (kb l1 l2 l3 l5 l6 l7)) (hke198 : Sm g 9 198 [] [] (ke198)) (hke219 : ∀ (l1 : Int32) (l2 : Int32) (l3 : Int32) (l5 : Int32) (l6 : Int32), Sm g 9 219 [(0, .ref g.1.2.2.2.2.2), (1, .int l1), (2, .int l2), (3, .int l3), (5, .int l5), (6, .int l6)] [] (ke219 l1 l2 l3 l5 l6)) (l1 : Int32) (l2 : Int32) (l3 : Int32) (l5 : Int32) (l6 : Int32) (l7 : Int32) : Sm g 9 158 [(0, .ref g.1.2.2.2.2.2), (1, .int l1), (2, .int l2), (3, .int l3), (5, .int l5), (6, .int l6), (7, .int l7)] [] (R_isText_B158 kb ke198 ke219 l1 l2 l3 l5 l6 l7) := by
  unfold R_isText_B158
  refine s_iload B.1 6 dX12_isText_158 rfl ?_
  refine s_iload B.1 4 dX12_isText_160 rfl ?_
  refine s_icmp_gt B.1 219 dX12_isText_162 (by decide) ?_ ?_
  · exact Sm.lvs [0, 1, 2, 3, 4, 5] rfl (hke219 l1 l2 l3 l5 l6)
  · refine s_aload_n B.1 0 dX12_isText_165 rfl rfl ?_
    refine rr_getA B 6 mh_6 mn_6 mf_6 dX12_isText_166 ?_
    refine s_iload_n B.1 1 dX12_isText_169 rfl rfl ?_
    refine s_iload_n B.1 3 dX12_isText_170 rfl rfl ?_
    refine s_iadd B.1 dX12_isText_171 ?_
    refine s_iload B.1 6 dX12_isText_172 rfl ?_
    refine s_iadd B.1 dX12_isText_174 ?_
    refine rr_bald B 6 mh_6 mk_6 dX12_isText_175 (fun v2 => ?_)
    refine s_sipush (v := (255)) B.1 dX12_isText_176 (by decide) ?_
    refine s_iand B.1 dX12_isText_179 ?_
    refine s_lqi (fun x3 => ?_)
    refine s_istore (lv' := [(8, .int x3), (0, .ref g.1.2.2.2.2.2), (1, .int l1), (2, .int l2), (3, .int l3), (5, .int l5), (6, .int l6), (7, .int l7)]) B.1 dX12_isText_180 (by decide) rfl ?_
    refine s_iload B.1 0 dX12_isText_182 rfl ?_
    refine s_sipush (v := (128)) B.1 dX12_isText_184 (by decide) ?_
    refine s_icmp_lt B.1 198 dX12_isText_187 (by decide) ?_ ?_
    · exact Sm.lvs [] rfl (hke198)
    · refine s_iload B.1 0 dX12_isText_190 rfl ?_
      refine s_sipush (v := (191)) B.1 dX12_isText_192 (by decide) ?_
      refine s_icmp_le B.1 200 dX12_isText_195 (by decide) ?_ ?_
      · refine s_iload B.1 6 dX12_isText_200 rfl ?_
        refine s_bipush (v := (6)) B.1 dX12_isText_202 (by decide) ?_
        refine s_ishl B.1 dX12_isText_204 ?_
        refine s_iload B.1 0 dX12_isText_205 rfl ?_
        refine s_bipush (v := (63)) B.1 dX12_isText_207 (by decide) ?_
        refine s_iand B.1 dX12_isText_209 ?_
        refine s_ior B.1 dX12_isText_210 ?_
        refine s_lqi (fun x4 => ?_)
        refine s_istore (lv' := [(6, .int x4), (8, .int x3), (0, .ref g.1.2.2.2.2.2), (1, .int l1), (2, .int l2), (3, .int l3), (5, .int l5), (7, .int l7)]) B.1 dX12_isText_211 (by decide) rfl ?_
        refine s_iinc (v := l7 + 1) (lv' := [(7, .int (l7 + 1)), (6, .int x4), (8, .int x3), (0, .ref g.1.2.2.2.2.2), (1, .int l1), (2, .int l2), (3, .int l3), (5, .int l5)]) B.1 7 dX12_isText_213 rfl rfl (by decide) rfl ?_
        refine s_goto B.1 158 dX12_isText_216 (by decide) ?_
        exact Sm.lvs [3, 4, 5, 6, 7, 1, 0] rfl (hkb l1 l2 l3 l5 x4 (l7 + 1))
      · exact Sm.lvs [] rfl (hke198)
set_option maxRecDepth 10000 in
theorem sm_isText_L158 {g : Gm RS Int32} {ke198 : RS → Option (Int32 × RS)} {ke219 : Int32 → Int32 → Int32 → Int32 → Int32 → RS → Option (Int32 × RS)} (B : Br g cX12_isText 9 voI (some .boolean) 0 0) (hke198 : Sm g 9 198 [] [] (ke198)) (hke219 : ∀ (l1 : Int32) (l2 : Int32) (l3 : Int32) (l5 : Int32) (l6 : Int32), Sm g 9 219 [(0, .ref g.1.2.2.2.2.2), (1, .int l1), (2, .int l2), (3, .int l3), (5, .int l5), (6, .int l6)] [] (ke219 l1 l2 l3 l5 l6)) : ∀ (n : Nat) (l1 : Int32) (l2 : Int32) (l3 : Int32) (l5 : Int32) (l6 : Int32) (l7 : Int32), Sm g 9 158 [(0, .ref g.1.2.2.2.2.2), (1, .int l1), (2, .int l2), (3, .int l3), (5, .int l5), (6, .int l6), (7, .int l7)] [] (R_isText_L158 ke198 ke219 n l1 l2 l3 l5 l6 l7)
  | 0, _, _, _, _, _, _ => Sm.fail
  | n + 1, l1, l2, l3, l5, l6, l7 => sm_isText_B158 B (sm_isText_L158 B hke198 hke219 n) hke198 hke219 l1 l2 l3 l5 l6 l7
def R_isText_J153 (kb : Int32 → Int32 → Int32 → RS → Option (Int32 × RS)) (ke114 : RS → Option (Int32 × RS)) (ke198 : RS → Option (Int32 × RS)) (ke271 : RS → Option (Int32 × RS)) (ke283 : RS → Option (Int32 × RS)) (l1 : Int32) (l2 : Int32) (l3 : Int32) (l5 : Int32) (s0 : Int32) : RS → Option (Int32 × RS) :=
  R_isText_L158 (ke198) (fun l1 l2 l3 l5 l6 => R_isText_J219 kb ke114 ke198 ke271 ke283 l1 l2 l3 l5 l6) fu l1 l2 l3 l5 s0 (1 : Int32)
set_option maxRecDepth 10000 in
theorem sm_isText_J153 {g : Gm RS Int32} {kb : Int32 → Int32 → Int32 → RS → Option (Int32 × RS)} {ke114 : RS → Option (Int32 × RS)} {ke198 : RS → Option (Int32 × RS)} {ke271 : RS → Option (Int32 × RS)} {ke283 : RS → Option (Int32 × RS)} (B : Br g cX12_isText 9 voI (some .boolean) 0 0) (hkb : ∀ (l1 : Int32) (l2 : Int32) (l3 : Int32), Sm g 9 2 [(0, .ref g.1.2.2.2.2.2), (1, .int l1), (2, .int l2), (3, .int l3)] [] (kb l1 l2 l3)) (hke114 : Sm g 9 114 [] [] (ke114)) (hke198 : Sm g 9 198 [] [] (ke198)) (hke271 : Sm g 9 271 [] [] (ke271)) (hke283 : Sm g 9 283 [] [] (ke283)) (l1 : Int32) (l2 : Int32) (l3 : Int32) (l5 : Int32) (s0 : Int32) : Sm g 9 153 [(0, .ref g.1.2.2.2.2.2), (1, .int l1), (2, .int l2), (3, .int l3), (5, .int l5)] [.int s0] (R_isText_J153 kb ke114 ke198 ke271 ke283 l1 l2 l3 l5 s0) := by
  unfold R_isText_J153
  refine s_istore (lv' := [(6, .int s0), (0, .ref g.1.2.2.2.2.2), (1, .int l1), (2, .int l2), (3, .int l3), (5, .int l5)]) B.1 dX12_isText_153 (by decide) rfl ?_
  refine s_iconst (v := 1) B.1 dX12_isText_155 (by decide) ?_
  refine s_istore (lv' := [(7, .int (1 : Int32)), (6, .int s0), (0, .ref g.1.2.2.2.2.2), (1, .int l1), (2, .int l2), (3, .int l3), (5, .int l5)]) B.1 dX12_isText_156 (by decide) rfl ?_
  exact Sm.lvs [2, 3, 4, 5, 6, 1, 0] rfl (sm_isText_L158 B (hke198) (fun l1 l2 l3 l5 l6 => sm_isText_J219 B hkb hke114 hke198 hke271 hke283 l1 l2 l3 l5 l6) fu l1 l2 l3 l5 s0 (1 : Int32))
def R_isText_J152 (kb : Int32 → Int32 → Int32 → RS → Option (Int32 × RS)) (ke114 : RS → Option (Int32 × RS)) (ke198 : RS → Option (Int32 × RS)) (ke271 : RS → Option (Int32 × RS)) (ke283 : RS → Option (Int32 × RS)) (l1 : Int32) (l2 : Int32) (l3 : Int32) (l5 : Int32) (s0 : Int32) (s1 : Int32) : RS → Option (Int32 × RS) :=
  R_isText_J153 kb ke114 ke198 ke271 ke283 l1 l2 l3 l5 (s0 &&& s1)
set_option maxRecDepth 10000 in
theorem sm_isText_J152 {g : Gm RS Int32} {kb : Int32 → Int32 → Int32 → RS → Option (Int32 × RS)} {ke114 : RS → Option (Int32 × RS)} {ke198 : RS → Option (Int32 × RS)} {ke271 : RS → Option (Int32 × RS)} {ke283 : RS → Option (Int32 × RS)} (B : Br g cX12_isText 9 voI (some .boolean) 0 0) (hkb : ∀ (l1 : Int32) (l2 : Int32) (l3 : Int32), Sm g 9 2 [(0, .ref g.1.2.2.2.2.2), (1, .int l1), (2, .int l2), (3, .int l3)] [] (kb l1 l2 l3)) (hke114 : Sm g 9 114 [] [] (ke114)) (hke198 : Sm g 9 198 [] [] (ke198)) (hke271 : Sm g 9 271 [] [] (ke271)) (hke283 : Sm g 9 283 [] [] (ke283)) (l1 : Int32) (l2 : Int32) (l3 : Int32) (l5 : Int32) (s0 : Int32) (s1 : Int32) : Sm g 9 152 [(0, .ref g.1.2.2.2.2.2), (1, .int l1), (2, .int l2), (3, .int l3), (5, .int l5)] [.int s1, .int s0] (R_isText_J152 kb ke114 ke198 ke271 ke283 l1 l2 l3 l5 s0 s1) := by
  unfold R_isText_J152
  refine s_iand B.1 dX12_isText_152 ?_
  exact Sm.lvs [0, 1, 2, 3, 4] rfl (sm_isText_J153 B hkb hke114 hke198 hke271 hke283 l1 l2 l3 l5 (s0 &&& s1))
def R_isText_J94 (kb : Int32 → Int32 → Int32 → RS → Option (Int32 × RS)) (ke114 : RS → Option (Int32 × RS)) (ke198 : RS → Option (Int32 × RS)) (ke271 : RS → Option (Int32 × RS)) (ke283 : RS → Option (Int32 × RS)) (l1 : Int32) (l2 : Int32) (l3 : Int32) (l4 : Int32) (s0 : Int32) : RS → Option (Int32 × RS) :=
  if l4 = 0 then (
    ke114
  ) else (
    if s0 < 0 then (
      ke114
    ) else (
      if (l3 + s0) < l2 then (
        if s0 = 0 then (
          R_isText_J153 kb ke114 ke198 ke271 ke283 l1 l2 l3 s0 l4
        ) else (
          if s0 = (1 : Int32) then (
            R_isText_J152 kb ke114 ke198 ke271 ke283 l1 l2 l3 s0 l4 (31 : Int32)
          ) else (
            if s0 = (2 : Int32) then (
              R_isText_J152 kb ke114 ke198 ke271 ke283 l1 l2 l3 s0 l4 (15 : Int32)
            ) else (
              R_isText_J152 kb ke114 ke198 ke271 ke283 l1 l2 l3 s0 l4 (7 : Int32)
            )
          )
        )
      ) else (
        ke114
      )
    )
  )
set_option maxRecDepth 10000 in
theorem sm_isText_J94 {g : Gm RS Int32} {kb : Int32 → Int32 → Int32 → RS → Option (Int32 × RS)} {ke114 : RS → Option (Int32 × RS)} {ke198 : RS → Option (Int32 × RS)} {ke271 : RS → Option (Int32 × RS)} {ke283 : RS → Option (Int32 × RS)} (B : Br g cX12_isText 9 voI (some .boolean) 0 0) (hkb : ∀ (l1 : Int32) (l2 : Int32) (l3 : Int32), Sm g 9 2 [(0, .ref g.1.2.2.2.2.2), (1, .int l1), (2, .int l2), (3, .int l3)] [] (kb l1 l2 l3)) (hke114 : Sm g 9 114 [] [] (ke114)) (hke198 : Sm g 9 198 [] [] (ke198)) (hke271 : Sm g 9 271 [] [] (ke271)) (hke283 : Sm g 9 283 [] [] (ke283)) (l1 : Int32) (l2 : Int32) (l3 : Int32) (l4 : Int32) (s0 : Int32) : Sm g 9 94 [(0, .ref g.1.2.2.2.2.2), (1, .int l1), (2, .int l2), (3, .int l3), (4, .int l4)] [.int s0] (R_isText_J94 kb ke114 ke198 ke271 ke283 l1 l2 l3 l4 s0) := by
  unfold R_isText_J94
  refine s_istore (lv' := [(5, .int s0), (0, .ref g.1.2.2.2.2.2), (1, .int l1), (2, .int l2), (3, .int l3), (4, .int l4)]) B.1 dX12_isText_94 (by decide) rfl ?_
  refine s_iload B.1 5 dX12_isText_96 rfl ?_
  refine s_if_eq B.1 114 dX12_isText_98 (by decide) ?_ ?_
  · exact Sm.lvs [] rfl (hke114)
  · refine s_iload B.1 0 dX12_isText_101 rfl ?_
    refine s_if_lt B.1 114 dX12_isText_103 (by decide) ?_ ?_
    · exact Sm.lvs [] rfl (hke114)
    · refine s_iload_n B.1 4 dX12_isText_106 rfl rfl ?_
      refine s_iload B.1 0 dX12_isText_107 rfl ?_
      refine s_iadd B.1 dX12_isText_109 ?_
      refine s_iload_n B.1 3 dX12_isText_110 rfl rfl ?_
      refine s_icmp_lt B.1 116 dX12_isText_111 (by decide) ?_ ?_
      · refine s_iload B.1 0 dX12_isText_116 rfl ?_
        refine s_if_ne B.1 126 dX12_isText_118 (by decide) ?_ ?_
        · refine s_iload B.1 5 dX12_isText_126 rfl ?_
          refine s_iload B.1 0 dX12_isText_128 rfl ?_
          refine s_iconst (v := 1) B.1 dX12_isText_130 (by decide) ?_
          refine s_icmp_ne B.1 139 dX12_isText_131 (by decide) ?_ ?_
          · refine s_iload B.1 0 dX12_isText_139 rfl ?_
            refine s_iconst (v := 2) B.1 dX12_isText_141 (by decide) ?_
            refine s_icmp_ne B.1 150 dX12_isText_142 (by decide) ?_ ?_
            · refine s_bipush (v := (7)) B.1 dX12_isText_150 (by decide) ?_
              exact Sm.lvs [1, 2, 3, 4, 0] rfl (sm_isText_J152 B hkb hke114 hke198 hke271 hke283 l1 l2 l3 s0 l4 (7 : Int32))
            · refine s_bipush (v := (15)) B.1 dX12_isText_145 (by decide) ?_
              refine s_goto B.1 152 dX12_isText_147 (by decide) ?_
              exact Sm.lvs [1, 2, 3, 4, 0] rfl (sm_isText_J152 B hkb hke114 hke198 hke271 hke283 l1 l2 l3 s0 l4 (15 : Int32))
          · refine s_bipush (v := (31)) B.1 dX12_isText_134 (by decide) ?_
            refine s_goto B.1 152 dX12_isText_136 (by decide) ?_
            exact Sm.lvs [1, 2, 3, 4, 0] rfl (sm_isText_J152 B hkb hke114 hke198 hke271 hke283 l1 l2 l3 s0 l4 (31 : Int32))
        · refine s_iload B.1 5 dX12_isText_121 rfl ?_
          refine s_goto B.1 153 dX12_isText_123 (by decide) ?_
          exact Sm.lvs [1, 2, 3, 4, 0] rfl (sm_isText_J153 B hkb hke114 hke198 hke271 hke283 l1 l2 l3 s0 l4)
      · exact Sm.lvs [] rfl (hke114)
def R_isText_J93 (kb : Int32 → Int32 → Int32 → RS → Option (Int32 × RS)) (ke114 : RS → Option (Int32 × RS)) (ke198 : RS → Option (Int32 × RS)) (ke271 : RS → Option (Int32 × RS)) (ke283 : RS → Option (Int32 × RS)) (l1 : Int32) (l2 : Int32) (l3 : Int32) (l4 : Int32) : RS → Option (Int32 × RS) :=
  R_isText_J94 kb ke114 ke198 ke271 ke283 l1 l2 l3 l4 (-1 : Int32)
set_option maxRecDepth 10000 in
theorem sm_isText_J93 {g : Gm RS Int32} {kb : Int32 → Int32 → Int32 → RS → Option (Int32 × RS)} {ke114 : RS → Option (Int32 × RS)} {ke198 : RS → Option (Int32 × RS)} {ke271 : RS → Option (Int32 × RS)} {ke283 : RS → Option (Int32 × RS)} (B : Br g cX12_isText 9 voI (some .boolean) 0 0) (hkb : ∀ (l1 : Int32) (l2 : Int32) (l3 : Int32), Sm g 9 2 [(0, .ref g.1.2.2.2.2.2), (1, .int l1), (2, .int l2), (3, .int l3)] [] (kb l1 l2 l3)) (hke114 : Sm g 9 114 [] [] (ke114)) (hke198 : Sm g 9 198 [] [] (ke198)) (hke271 : Sm g 9 271 [] [] (ke271)) (hke283 : Sm g 9 283 [] [] (ke283)) (l1 : Int32) (l2 : Int32) (l3 : Int32) (l4 : Int32) : Sm g 9 93 [(0, .ref g.1.2.2.2.2.2), (1, .int l1), (2, .int l2), (3, .int l3), (4, .int l4)] [] (R_isText_J93 kb ke114 ke198 ke271 ke283 l1 l2 l3 l4) := by
  unfold R_isText_J93
  refine s_iconst (v := (-1)) B.1 dX12_isText_93 (by decide) ?_
  exact Sm.lvs [0, 1, 2, 3, 4] rfl (sm_isText_J94 B hkb hke114 hke198 hke271 hke283 l1 l2 l3 l4 (-1 : Int32))
def R_isText_J73 (kb : Int32 → Int32 → Int32 → RS → Option (Int32 × RS)) (ke114 : RS → Option (Int32 × RS)) (ke198 : RS → Option (Int32 × RS)) (ke271 : RS → Option (Int32 × RS)) (ke283 : RS → Option (Int32 × RS)) (l1 : Int32) (l2 : Int32) (l3 : Int32) (l4 : Int32) : RS → Option (Int32 × RS) :=
  if l4 < (240 : Int32) then (
    R_isText_J93 kb ke114 ke198 ke271 ke283 l1 l2 l3 l4
  ) else (
    if (245 : Int32) ≤ l4 then (
      R_isText_J93 kb ke114 ke198 ke271 ke283 l1 l2 l3 l4
    ) else (
      R_isText_J94 kb ke114 ke198 ke271 ke283 l1 l2 l3 l4 (3 : Int32)
    )
  )
set_option maxRecDepth 10000 in
theorem sm_isText_J73 {g : Gm RS Int32} {kb : Int32 → Int32 → Int32 → RS → Option (Int32 × RS)} {ke114 : RS → Option (Int32 × RS)} {ke198 : RS → Option (Int32 × RS)} {ke271 : RS → Option (Int32 × RS)} {ke283 : RS → Option (Int32 × RS)} (B : Br g cX12_isText 9 voI (some .boolean) 0 0) (hkb : ∀ (l1 : Int32) (l2 : Int32) (l3 : Int32), Sm g 9 2 [(0, .ref g.1.2.2.2.2.2), (1, .int l1), (2, .int l2), (3, .int l3)] [] (kb l1 l2 l3)) (hke114 : Sm g 9 114 [] [] (ke114)) (hke198 : Sm g 9 198 [] [] (ke198)) (hke271 : Sm g 9 271 [] [] (ke271)) (hke283 : Sm g 9 283 [] [] (ke283)) (l1 : Int32) (l2 : Int32) (l3 : Int32) (l4 : Int32) : Sm g 9 73 [(0, .ref g.1.2.2.2.2.2), (1, .int l1), (2, .int l2), (3, .int l3), (4, .int l4)] [] (R_isText_J73 kb ke114 ke198 ke271 ke283 l1 l2 l3 l4) := by
  unfold R_isText_J73
  refine s_iload B.1 4 dX12_isText_73 rfl ?_
  refine s_sipush (v := (240)) B.1 dX12_isText_75 (by decide) ?_
  refine s_icmp_lt B.1 93 dX12_isText_78 (by decide) ?_ ?_
  · exact Sm.lvs [0, 1, 2, 3, 4] rfl (sm_isText_J93 B hkb hke114 hke198 hke271 hke283 l1 l2 l3 l4)
  · refine s_iload B.1 4 dX12_isText_81 rfl ?_
    refine s_sipush (v := (245)) B.1 dX12_isText_83 (by decide) ?_
    refine s_icmp_ge B.1 93 dX12_isText_86 (by decide) ?_ ?_
    · exact Sm.lvs [0, 1, 2, 3, 4] rfl (sm_isText_J93 B hkb hke114 hke198 hke271 hke283 l1 l2 l3 l4)
    · refine s_iconst (v := 3) B.1 dX12_isText_89 (by decide) ?_
      refine s_goto B.1 94 dX12_isText_90 (by decide) ?_
      exact Sm.lvs [0, 1, 2, 3, 4] rfl (sm_isText_J94 B hkb hke114 hke198 hke271 hke283 l1 l2 l3 l4 (3 : Int32))
def R_isText_J53 (kb : Int32 → Int32 → Int32 → RS → Option (Int32 × RS)) (ke114 : RS → Option (Int32 × RS)) (ke198 : RS → Option (Int32 × RS)) (ke271 : RS → Option (Int32 × RS)) (ke283 : RS → Option (Int32 × RS)) (l1 : Int32) (l2 : Int32) (l3 : Int32) (l4 : Int32) : RS → Option (Int32 × RS) :=
  if l4 < (224 : Int32) then (
    R_isText_J73 kb ke114 ke198 ke271 ke283 l1 l2 l3 l4
  ) else (
    if (240 : Int32) ≤ l4 then (
      R_isText_J73 kb ke114 ke198 ke271 ke283 l1 l2 l3 l4
    ) else (
      R_isText_J94 kb ke114 ke198 ke271 ke283 l1 l2 l3 l4 (2 : Int32)
    )
  )
set_option maxRecDepth 10000 in
theorem sm_isText_J53 {g : Gm RS Int32} {kb : Int32 → Int32 → Int32 → RS → Option (Int32 × RS)} {ke114 : RS → Option (Int32 × RS)} {ke198 : RS → Option (Int32 × RS)} {ke271 : RS → Option (Int32 × RS)} {ke283 : RS → Option (Int32 × RS)} (B : Br g cX12_isText 9 voI (some .boolean) 0 0) (hkb : ∀ (l1 : Int32) (l2 : Int32) (l3 : Int32), Sm g 9 2 [(0, .ref g.1.2.2.2.2.2), (1, .int l1), (2, .int l2), (3, .int l3)] [] (kb l1 l2 l3)) (hke114 : Sm g 9 114 [] [] (ke114)) (hke198 : Sm g 9 198 [] [] (ke198)) (hke271 : Sm g 9 271 [] [] (ke271)) (hke283 : Sm g 9 283 [] [] (ke283)) (l1 : Int32) (l2 : Int32) (l3 : Int32) (l4 : Int32) : Sm g 9 53 [(0, .ref g.1.2.2.2.2.2), (1, .int l1), (2, .int l2), (3, .int l3), (4, .int l4)] [] (R_isText_J53 kb ke114 ke198 ke271 ke283 l1 l2 l3 l4) := by
  unfold R_isText_J53
  refine s_iload B.1 4 dX12_isText_53 rfl ?_
  refine s_sipush (v := (224)) B.1 dX12_isText_55 (by decide) ?_
  refine s_icmp_lt B.1 73 dX12_isText_58 (by decide) ?_ ?_
  · exact Sm.lvs [0, 1, 2, 3, 4] rfl (sm_isText_J73 B hkb hke114 hke198 hke271 hke283 l1 l2 l3 l4)
  · refine s_iload B.1 4 dX12_isText_61 rfl ?_
    refine s_sipush (v := (240)) B.1 dX12_isText_63 (by decide) ?_
    refine s_icmp_ge B.1 73 dX12_isText_66 (by decide) ?_ ?_
    · exact Sm.lvs [0, 1, 2, 3, 4] rfl (sm_isText_J73 B hkb hke114 hke198 hke271 hke283 l1 l2 l3 l4)
    · refine s_iconst (v := 2) B.1 dX12_isText_69 (by decide) ?_
      refine s_goto B.1 94 dX12_isText_70 (by decide) ?_
      exact Sm.lvs [0, 1, 2, 3, 4] rfl (sm_isText_J94 B hkb hke114 hke198 hke271 hke283 l1 l2 l3 l4 (2 : Int32))
def R_isText_B2 (kb : Int32 → Int32 → Int32 → RS → Option (Int32 × RS)) (ke114 : RS → Option (Int32 × RS)) (ke198 : RS → Option (Int32 × RS)) (ke271 : RS → Option (Int32 × RS)) (ke283 : RS → Option (Int32 × RS)) (l1 : Int32) (l2 : Int32) (l3 : Int32) : RS → Option (Int32 × RS) :=
  if l2 ≤ l3 then (
    ke283
  ) else (
    rA 6 (l1 + l3) fun v5 =>
    lq (v5 &&& (255 : Int32)) fun x6 =>
    if (128 : Int32) ≤ x6 then (
      if x6 < (194 : Int32) then (
        R_isText_J53 kb ke114 ke198 ke271 ke283 l1 l2 l3 x6
      ) else (
        if (224 : Int32) ≤ x6 then (
          R_isText_J53 kb ke114 ke198 ke271 ke283 l1 l2 l3 x6
        ) else (
          R_isText_J94 kb ke114 ke198 ke271 ke283 l1 l2 l3 x6 (1 : Int32)
        )
      )
    ) else (
      R_isText_J94 kb ke114 ke198 ke271 ke283 l1 l2 l3 x6 (0 : Int32)
    )
  )
def R_isText_L2 (ke114 : RS → Option (Int32 × RS)) (ke198 : RS → Option (Int32 × RS)) (ke271 : RS → Option (Int32 × RS)) (ke283 : RS → Option (Int32 × RS)) : Nat → Int32 → Int32 → Int32 → RS → Option (Int32 × RS)
  | 0, _, _, _ => no
  | n + 1, l1, l2, l3 => R_isText_B2 (fun l1 l2 l3 => R_isText_L2 ke114 ke198 ke271 ke283 n l1 l2 l3) ke114 ke198 ke271 ke283 l1 l2 l3
set_option maxRecDepth 10000 in
theorem sm_isText_B2 {g : Gm RS Int32} {kb : Int32 → Int32 → Int32 → RS → Option (Int32 × RS)} {ke114 : RS → Option (Int32 × RS)} {ke198 : RS → Option (Int32 × RS)} {ke271 : RS → Option (Int32 × RS)} {ke283 : RS → Option (Int32 × RS)} (B : Br g cX12_isText 9 voI (some .boolean) 0 0) (hkb : ∀ (l1 : Int32) (l2 : Int32) (l3 : Int32), Sm g 9 2 [(0, .ref g.1.2.2.2.2.2), (1, .int l1), (2, .int l2), (3, .int l3)] [] (kb l1 l2 l3)) (hke114 : Sm g 9 114 [] [] (ke114)) (hke198 : Sm g 9 198 [] [] (ke198)) (hke271 : Sm g 9 271 [] [] (ke271)) (hke283 : Sm g 9 283 [] [] (ke283)) (l1 : Int32) (l2 : Int32) (l3 : Int32) : Sm g 9 2 [(0, .ref g.1.2.2.2.2.2), (1, .int l1), (2, .int l2), (3, .int l3)] [] (R_isText_B2 kb ke114 ke198 ke271 ke283 l1 l2 l3) := by
  unfold R_isText_B2
  refine s_iload_n B.1 3 dX12_isText_2 rfl rfl ?_
  refine s_iload_n B.1 2 dX12_isText_3 rfl rfl ?_
  refine s_icmp_ge B.1 283 dX12_isText_4 (by decide) ?_ ?_
  · exact Sm.lvs [] rfl (hke283)
  · refine s_aload_n B.1 0 dX12_isText_7 rfl rfl ?_
    refine rr_getA B 6 mh_6 mn_6 mf_6 dX12_isText_8 ?_
    refine s_iload_n B.1 1 dX12_isText_11 rfl rfl ?_
    refine s_iload_n B.1 3 dX12_isText_12 rfl rfl ?_
    refine s_iadd B.1 dX12_isText_13 ?_
    refine rr_bald B 6 mh_6 mk_6 dX12_isText_14 (fun v5 => ?_)
    refine s_sipush (v := (255)) B.1 dX12_isText_15 (by decide) ?_
    refine s_iand B.1 dX12_isText_18 ?_
    refine s_lqi (fun x6 => ?_)
    refine s_istore (lv' := [(4, .int x6), (0, .ref g.1.2.2.2.2.2), (1, .int l1), (2, .int l2), (3, .int l3)]) B.1 dX12_isText_19 (by decide) rfl ?_
    refine s_iload B.1 0 dX12_isText_21 rfl ?_
    refine s_sipush (v := (128)) B.1 dX12_isText_23 (by decide) ?_
    refine s_icmp_ge B.1 33 dX12_isText_26 (by decide) ?_ ?_
    · refine s_iload B.1 0 dX12_isText_33 rfl ?_
      refine s_sipush (v := (194)) B.1 dX12_isText_35 (by decide) ?_
      refine s_icmp_lt B.1 53 dX12_isText_38 (by decide) ?_ ?_
      · exact Sm.lvs [1, 2, 3, 4, 0] rfl (sm_isText_J53 B hkb hke114 hke198 hke271 hke283 l1 l2 l3 x6)
      · refine s_iload B.1 0 dX12_isText_41 rfl ?_
        refine s_sipush (v := (224)) B.1 dX12_isText_43 (by decide) ?_
        refine s_icmp_ge B.1 53 dX12_isText_46 (by decide) ?_ ?_
        · exact Sm.lvs [1, 2, 3, 4, 0] rfl (sm_isText_J53 B hkb hke114 hke198 hke271 hke283 l1 l2 l3 x6)
        · refine s_iconst (v := 1) B.1 dX12_isText_49 (by decide) ?_
          refine s_goto B.1 94 dX12_isText_50 (by decide) ?_
          exact Sm.lvs [1, 2, 3, 4, 0] rfl (sm_isText_J94 B hkb hke114 hke198 hke271 hke283 l1 l2 l3 x6 (1 : Int32))
    · refine s_iconst (v := 0) B.1 dX12_isText_29 (by decide) ?_
      refine s_goto B.1 94 dX12_isText_30 (by decide) ?_
      exact Sm.lvs [1, 2, 3, 4, 0] rfl (sm_isText_J94 B hkb hke114 hke198 hke271 hke283 l1 l2 l3 x6 (0 : Int32))
set_option maxRecDepth 10000 in
theorem sm_isText_L2 {g : Gm RS Int32} {ke114 : RS → Option (Int32 × RS)} {ke198 : RS → Option (Int32 × RS)} {ke271 : RS → Option (Int32 × RS)} {ke283 : RS → Option (Int32 × RS)} (B : Br g cX12_isText 9 voI (some .boolean) 0 0) (hke114 : Sm g 9 114 [] [] (ke114)) (hke198 : Sm g 9 198 [] [] (ke198)) (hke271 : Sm g 9 271 [] [] (ke271)) (hke283 : Sm g 9 283 [] [] (ke283)) : ∀ (n : Nat) (l1 : Int32) (l2 : Int32) (l3 : Int32), Sm g 9 2 [(0, .ref g.1.2.2.2.2.2), (1, .int l1), (2, .int l2), (3, .int l3)] [] (R_isText_L2 ke114 ke198 ke271 ke283 n l1 l2 l3)
  | 0, _, _, _ => Sm.fail
  | n + 1, l1, l2, l3 => sm_isText_B2 B (sm_isText_L2 B hke114 hke198 hke271 hke283 n) hke114 hke198 hke271 hke283 l1 l2 l3
def R_isText (l1 : Int32) (l2 : Int32) : RS → Option (Int32 × RS) :=
  R_isText_L2 (R_isText_J114) (R_isText_J198) (R_isText_J271) (R_isText_J283) fu l1 l2 (0 : Int32)
set_option maxRecDepth 10000 in
theorem m_isText {w : Wd} (hw : Wok w) (l1 : Int32) (l2 : Int32) : MR w yX12_isText cX12_isText 9 (some .boolean) 0 0 voI [.ref w.2.2.2.2.2, .int l1, .int l2] (R_isText l1 l2) := by
  refine MR.of hw rfl (Nat.le_of_ble_eq_true rfl) (fun g hg B => ?_)
  subst hg
  unfold R_isText
  show Sm g 9 0 [(0, .ref g.1.2.2.2.2.2), (1, .int l1), (2, .int l2)] [] _
  refine s_iconst (v := 0) B.1 dX12_isText_0 (by decide) ?_
  refine s_istore_n (lv' := [(3, .int (0 : Int32)), (0, .ref g.1.2.2.2.2.2), (1, .int l1), (2, .int l2)]) B.1 dX12_isText_1 rfl (by decide) rfl ?_
  exact Sm.lvs [1, 2, 3, 0] rfl (sm_isText_L2 B (sm_isText_J114 B) (sm_isText_J198 B) (sm_isText_J271 B) (sm_isText_J283 B) fu l1 l2 (0 : Int32))
def R_string : RS → Option (Unit × RS) :=
  bd (R_row) fun r1 =>
  rI 79 fun v2 =>
  if v2 = 0 then (
    rI 80 fun v3 =>
    rI 81 fun v4 =>
    bd (R_isText v3 v4) fun r5 =>
    if r5 = 0 then (
      bd (R_fails (129 : Int32)) fun r6 =>
      rt ()
    ) else (
      rt ()
    )
  ) else (
    rt ()
  )
set_option maxRecDepth 10000 in
theorem m_string {w : Wd} (hw : Wok w) : MR w yX12_string cX12_string 1 none 4 83 voV [.ref w.2.2.2.2.2] (R_string) := by
  refine MR.of hw rfl (Nat.le_of_ble_eq_true rfl) (fun g hg B => ?_)
  subst hg
  unfold R_string
  show Sm g 1 0 [(0, .ref g.1.2.2.2.2.2)] [] _
  refine s_aload_n B.1 0 dX12_string_0 rfl rfl ?_
  refine rr_cvv (As := []) (st := []) B (m_row B.ok) mc_row ml_row mi_row me_row ini12 md_row (by decide) rfl (Nat.le_of_ble_eq_true rfl) dX12_string_1 (fun r1 => ?_)
  refine s_aload_n B.1 0 dX12_string_4 rfl rfl ?_
  refine rr_getI B 79 mh_79 mk_79 mf_79 dX12_string_5 (fun v2 => ?_)
  refine s_if_ne B.1 33 dX12_string_8 (by decide) ?_ ?_
  · exact s_vret B.1 B.2.1 dX12_string_33
  · refine s_aload_n B.1 0 dX12_string_11 rfl rfl ?_
    refine s_aload_n B.1 0 dX12_string_12 rfl rfl ?_
    refine rr_getI B 80 mh_80 mk_80 mf_80 dX12_string_13 (fun v3 => ?_)
    refine s_aload_n B.1 0 dX12_string_16 rfl rfl ?_
    refine rr_getI B 81 mh_81 mk_81 mf_81 dX12_string_17 (fun v4 => ?_)
    refine rr_cvi (As := [.int v3, .int v4]) (st := []) B (m_isText B.ok v3 v4) mc_isText ml_isText mi_isText me_isText ini12 md_isText (by decide) rfl (Nat.le_of_ble_eq_true rfl) dX12_string_20 (fun r5 => ?_)
    refine s_if_ne B.1 33 dX12_string_23 (by decide) ?_ ?_
    · exact s_vret B.1 B.2.1 dX12_string_33
    · refine s_aload_n B.1 0 dX12_string_26 rfl rfl ?_
      refine s_sipush (v := (129)) B.1 dX12_string_27 (by decide) ?_
      refine rr_cvv (As := [.int (129 : Int32)]) (st := []) B (m_fails B.ok (129 : Int32)) mc_fails ml_fails mi_fails me_fails ini12 md_fails (by decide) rfl (Nat.le_of_ble_eq_true rfl) dX12_string_30 (fun r6 => ?_)
      exact s_vret B.1 B.2.1 dX12_string_33
def R_variable_J54 : RS → Option (Int64 × RS) :=
  bd (R_fails (129 : Int32)) fun r1 =>
  rt ((0 : Int64))
set_option maxRecDepth 10000 in
theorem sm_variable_J54 {g : Gm RS Int64} (B : Br g cX12_variable 5 voL (some .long) 2 41) : Sm g 5 54 [(0, .ref g.1.2.2.2.2.2)] [] (R_variable_J54) := by
  unfold R_variable_J54
  refine s_aload_n B.1 0 dX12_variable_54 rfl rfl ?_
  refine s_sipush (v := (129)) B.1 dX12_variable_55 (by decide) ?_
  refine rr_cvv (As := [.int (129 : Int32)]) (st := []) B (m_fails B.ok (129 : Int32)) mc_fails ml_fails mi_fails me_fails ini12 md_fails (by decide) rfl (Nat.le_of_ble_eq_true rfl) dX12_variable_58 (fun r1 => ?_)
  refine s_lconst (v := 0) B.1 dX12_variable_61 (by decide) ?_
  exact s_lret B.1 B.2.1 dX12_variable_62
def R_variable_J46 (l1 : Int64) : RS → Option (Int64 × RS) :=
  rt (l1)
set_option maxRecDepth 10000 in
theorem sm_variable_J46 {g : Gm RS Int64} (B : Br g cX12_variable 5 voL (some .long) 2 41) (l1 : Int64) : Sm g 5 46 [(1, .long l1)] [] (R_variable_J46 l1) := by
  unfold R_variable_J46
  refine s_lload_n B.1 0 dX12_variable_46 rfl rfl ?_
  exact s_lret B.1 B.2.1 dX12_variable_47
def R_variable_J22 : RS → Option (Int64 × RS) :=
  rt ((0 : Int64))
set_option maxRecDepth 10000 in
theorem sm_variable_J22 {g : Gm RS Int64} (B : Br g cX12_variable 5 voL (some .long) 2 41) : Sm g 5 22 [] [] (R_variable_J22) := by
  unfold R_variable_J22
  refine s_lconst (v := 0) B.1 dX12_variable_22 (by decide) ?_
  exact s_lret B.1 B.2.1 dX12_variable_23
def R_variable_B4 (kb : Int64 → Int32 → RS → Option (Int64 × RS)) (ke22 : RS → Option (Int64 × RS)) (ke46 : Int64 → RS → Option (Int64 × RS)) (ke54 : RS → Option (Int64 × RS)) (l1 : Int64) (l3 : Int32) : RS → Option (Int64 × RS) :=
  if (4 : Int32) ≤ l3 then (
    ke54
  ) else (
    bd (R_one) fun r2 =>
    rI 79 fun v3 =>
    if v3 = 0 then (
      lq (l1 ||| (lshl6 ((r2 &&& (127 : Int32)).toInt64) ((7 : Int32) * l3))) fun x4 =>
      if (128 : Int32) ≤ r2 then (
        kb x4 (l3 + 1)
      ) else (
        ke46 x4
      )
    ) else (
      ke22
    )
  )
def R_variable_L4 (ke22 : RS → Option (Int64 × RS)) (ke46 : Int64 → RS → Option (Int64 × RS)) (ke54 : RS → Option (Int64 × RS)) : Nat → Int64 → Int32 → RS → Option (Int64 × RS)
  | 0, _, _ => no
  | n + 1, l1, l3 => R_variable_B4 (fun l1 l3 => R_variable_L4 ke22 ke46 ke54 n l1 l3) ke22 ke46 ke54 l1 l3
set_option maxRecDepth 10000 in
theorem sm_variable_B4 {g : Gm RS Int64} {kb : Int64 → Int32 → RS → Option (Int64 × RS)} {ke22 : RS → Option (Int64 × RS)} {ke46 : Int64 → RS → Option (Int64 × RS)} {ke54 : RS → Option (Int64 × RS)} (B : Br g cX12_variable 5 voL (some .long) 2 41) (hkb : ∀ (l1 : Int64) (l3 : Int32), Sm g 5 4 [(0, .ref g.1.2.2.2.2.2), (1, .long l1), (3, .int l3)] [] (kb l1 l3)) (hke22 : Sm g 5 22 [] [] (ke22)) (hke46 : ∀ (l1 : Int64), Sm g 5 46 [(1, .long l1)] [] (ke46 l1)) (hke54 : Sm g 5 54 [(0, .ref g.1.2.2.2.2.2)] [] (ke54)) (l1 : Int64) (l3 : Int32) : Sm g 5 4 [(0, .ref g.1.2.2.2.2.2), (1, .long l1), (3, .int l3)] [] (R_variable_B4 kb ke22 ke46 ke54 l1 l3) := by
  unfold R_variable_B4
  refine s_iload_n B.1 2 dX12_variable_4 rfl rfl ?_
  refine s_iconst (v := 4) B.1 dX12_variable_5 (by decide) ?_
  refine s_icmp_ge B.1 54 dX12_variable_6 (by decide) ?_ ?_
  · exact Sm.lvs [0] rfl (hke54)
  · refine s_aload_n B.1 0 dX12_variable_9 rfl rfl ?_
    refine rr_cvi (As := []) (st := []) B (m_one B.ok) mc_one ml_one mi_one me_one ini12 md_one (by decide) rfl (Nat.le_of_ble_eq_true rfl) dX12_variable_10 (fun r2 => ?_)
    refine s_istore (lv' := [(4, .int r2), (0, .ref g.1.2.2.2.2.2), (1, .long l1), (3, .int l3)]) B.1 dX12_variable_13 (by decide) rfl ?_
    refine s_aload_n B.1 1 dX12_variable_15 rfl rfl ?_
    refine rr_getI B 79 mh_79 mk_79 mf_79 dX12_variable_16 (fun v3 => ?_)
    refine s_if_eq B.1 24 dX12_variable_19 (by decide) ?_ ?_
    · refine s_lload_n B.1 2 dX12_variable_24 rfl rfl ?_
      refine s_iload B.1 0 dX12_variable_25 rfl ?_
      refine s_bipush (v := (127)) B.1 dX12_variable_27 (by decide) ?_
      refine s_iand B.1 dX12_variable_29 ?_
      refine s_i2l B.1 dX12_variable_30 ?_
      refine s_bipush (v := (7)) B.1 dX12_variable_31 (by decide) ?_
      refine s_iload_n B.1 3 dX12_variable_33 rfl rfl ?_
      refine s_imul B.1 dX12_variable_34 ?_
      refine s_lshl B.1 dX12_variable_35 ?_
      refine s_lor B.1 dX12_variable_36 ?_
      refine s_lql (fun x4 => ?_)
      refine s_lstore_n (lv' := [(1, .long x4), (4, .int r2), (0, .ref g.1.2.2.2.2.2), (3, .int l3)]) B.1 dX12_variable_37 rfl (by decide) rfl ?_
      refine s_iload B.1 1 dX12_variable_38 rfl ?_
      refine s_sipush (v := (128)) B.1 dX12_variable_40 (by decide) ?_
      refine s_icmp_ge B.1 48 dX12_variable_43 (by decide) ?_ ?_
      · refine s_iinc (v := l3 + 1) (lv' := [(3, .int (l3 + 1)), (1, .long x4), (4, .int r2), (0, .ref g.1.2.2.2.2.2)]) B.1 3 dX12_variable_48 rfl rfl (by decide) rfl ?_
        refine s_goto B.1 4 dX12_variable_51 (by decide) ?_
        exact Sm.lvs [3, 1, 0] rfl (hkb x4 (l3 + 1))
      · exact Sm.lvs [0] rfl (hke46 x4)
    · exact Sm.lvs [] rfl (hke22)
set_option maxRecDepth 10000 in
theorem sm_variable_L4 {g : Gm RS Int64} {ke22 : RS → Option (Int64 × RS)} {ke46 : Int64 → RS → Option (Int64 × RS)} {ke54 : RS → Option (Int64 × RS)} (B : Br g cX12_variable 5 voL (some .long) 2 41) (hke22 : Sm g 5 22 [] [] (ke22)) (hke46 : ∀ (l1 : Int64), Sm g 5 46 [(1, .long l1)] [] (ke46 l1)) (hke54 : Sm g 5 54 [(0, .ref g.1.2.2.2.2.2)] [] (ke54)) : ∀ (n : Nat) (l1 : Int64) (l3 : Int32), Sm g 5 4 [(0, .ref g.1.2.2.2.2.2), (1, .long l1), (3, .int l3)] [] (R_variable_L4 ke22 ke46 ke54 n l1 l3)
  | 0, _, _ => Sm.fail
  | n + 1, l1, l3 => sm_variable_B4 B (sm_variable_L4 B hke22 hke46 hke54 n) hke22 hke46 hke54 l1 l3
def R_variable : RS → Option (Int64 × RS) :=
  R_variable_L4 (R_variable_J22) (fun l1 => R_variable_J46 l1) (R_variable_J54) fu (0 : Int64) (0 : Int32)
set_option maxRecDepth 10000 in
theorem m_variable {w : Wd} (hw : Wok w) : MR w yX12_variable cX12_variable 5 (some .long) 2 41 voL [.ref w.2.2.2.2.2] (R_variable) := by
  refine MR.of hw rfl (Nat.le_of_ble_eq_true rfl) (fun g hg B => ?_)
  subst hg
  unfold R_variable
  show Sm g 5 0 [(0, .ref g.1.2.2.2.2.2)] [] _
  refine s_lconst (v := 0) B.1 dX12_variable_0 (by decide) ?_
  refine s_lstore_n (lv' := [(1, .long (0 : Int64)), (0, .ref g.1.2.2.2.2.2)]) B.1 dX12_variable_1 rfl (by decide) rfl ?_
  refine s_iconst (v := 0) B.1 dX12_variable_2 (by decide) ?_
  refine s_istore_n (lv' := [(3, .int (0 : Int32)), (1, .long (0 : Int64)), (0, .ref g.1.2.2.2.2.2)]) B.1 dX12_variable_3 rfl (by decide) rfl ?_
  exact Sm.lvs [2, 1, 0] rfl (sm_variable_L4 B (sm_variable_J22 B) (fun l1 => sm_variable_J46 B l1) (sm_variable_J54 B) fu (0 : Int64) (0 : Int32))
def R_property_J327 (l4 : Int32) : RS → Option (Unit × RS) :=
  rI 80 fun v1 =>
  wA 84 l4 v1 <|
  rI 81 fun v2 =>
  wA 85 l4 v2 <|
  rt ()
set_option maxRecDepth 10000 in
theorem sm_property_J327 {g : Gm RS Unit} (B : Br g cX12_property 6 voV none 5 103) (l4 : Int32) : Sm g 6 327 [(0, .ref g.1.2.2.2.2.2), (4, .int l4)] [] (R_property_J327 l4) := by
  unfold R_property_J327
  refine s_aload_n B.1 0 dX12_property_327 rfl rfl ?_
  refine rr_getA B 84 mh_84 mn_84 mf_84 dX12_property_328 ?_
  refine s_iload B.1 1 dX12_property_331 rfl ?_
  refine s_aload_n B.1 0 dX12_property_333 rfl rfl ?_
  refine rr_getI B 80 mh_80 mk_80 mf_80 dX12_property_334 (fun v1 => ?_)
  refine rr_iast B 84 mh_84 mk_84 dX12_property_337 ?_
  refine s_aload_n B.1 0 dX12_property_338 rfl rfl ?_
  refine rr_getA B 85 mh_85 mn_85 mf_85 dX12_property_339 ?_
  refine s_iload B.1 1 dX12_property_342 rfl ?_
  refine s_aload_n B.1 0 dX12_property_344 rfl rfl ?_
  refine rr_getI B 81 mh_81 mk_81 mf_81 dX12_property_345 (fun v2 => ?_)
  refine rr_iast B 85 mh_85 mk_85 dX12_property_348 ?_
  exact s_vret B.1 B.2.1 dX12_property_349
def R_property_J312 (l4 : Int32) : RS → Option (Unit × RS) :=
  R_property_J327 l4
set_option maxRecDepth 10000 in
theorem sm_property_J312 {g : Gm RS Unit} (B : Br g cX12_property 6 voV none 5 103) (l4 : Int32) : Sm g 6 312 [(0, .ref g.1.2.2.2.2.2), (4, .int l4)] [] (R_property_J312 l4) := by
  unfold R_property_J312
  refine s_goto B.1 327 dX12_property_312 (by decide) ?_
  exact Sm.lvs [0, 1] rfl (sm_property_J327 B l4)
def R_property_B267 (kb : Int32 → Int32 → RS → Option (Unit × RS)) (ke312 : Int32 → RS → Option (Unit × RS)) (l4 : Int32) (l5 : Int32) : RS → Option (Unit × RS) :=
  rI 76 fun v3 =>
  if v3 ≤ l5 then (
    ke312 l4
  ) else (
    rI 79 fun v4 =>
    if v4 = 0 then (
      rI 87 fun v5 =>
      wI 87 (v5 + (1 : Int32)) <|
      rA 6 l5 fun v6 =>
      wA 86 v5 (vp_nar .byte v6) <|
      kb l4 (l5 + 1)
    ) else (
      ke312 l4
    )
  )
def R_property_L267 (ke312 : Int32 → RS → Option (Unit × RS)) : Nat → Int32 → Int32 → RS → Option (Unit × RS)
  | 0, _, _ => no
  | n + 1, l4, l5 => R_property_B267 (fun l4 l5 => R_property_L267 ke312 n l4 l5) ke312 l4 l5
set_option maxRecDepth 10000 in
theorem sm_property_B267 {g : Gm RS Unit} {kb : Int32 → Int32 → RS → Option (Unit × RS)} {ke312 : Int32 → RS → Option (Unit × RS)} (B : Br g cX12_property 6 voV none 5 103) (hkb : ∀ (l4 : Int32) (l5 : Int32), Sm g 6 267 [(0, .ref g.1.2.2.2.2.2), (4, .int l4), (5, .int l5)] [] (kb l4 l5)) (hke312 : ∀ (l4 : Int32), Sm g 6 312 [(0, .ref g.1.2.2.2.2.2), (4, .int l4)] [] (ke312 l4)) (l4 : Int32) (l5 : Int32) : Sm g 6 267 [(0, .ref g.1.2.2.2.2.2), (4, .int l4), (5, .int l5)] [] (R_property_B267 kb ke312 l4 l5) := by
  unfold R_property_B267
  refine s_iload B.1 2 dX12_property_267 rfl ?_
  refine s_aload_n B.1 0 dX12_property_269 rfl rfl ?_
  refine rr_getI B 76 mh_76 mk_76 mf_76 dX12_property_270 (fun v3 => ?_)
  refine s_icmp_ge B.1 312 dX12_property_273 (by decide) ?_ ?_
  · exact Sm.lvs [0, 1] rfl (hke312 l4)
  · refine s_aload_n B.1 0 dX12_property_276 rfl rfl ?_
    refine rr_getI B 79 mh_79 mk_79 mf_79 dX12_property_277 (fun v4 => ?_)
    refine s_if_ne B.1 312 dX12_property_280 (by decide) ?_ ?_
    · exact Sm.lvs [0, 1] rfl (hke312 l4)
    · refine s_aload_n B.1 0 dX12_property_283 rfl rfl ?_
      refine rr_getA B 86 mh_86 mn_86 mf_86 dX12_property_284 ?_
      refine s_aload_n B.1 0 dX12_property_287 rfl rfl ?_
      refine s_dup B.1 dX12_property_288 rfl ?_
      refine rr_getI B 87 mh_87 mk_87 mf_87 dX12_property_289 (fun v5 => ?_)
      refine s_dup_x1 B.1 dX12_property_292 rfl rfl ?_
      refine s_iconst (v := 1) B.1 dX12_property_293 (by decide) ?_
      refine s_iadd B.1 dX12_property_294 ?_
      refine rr_putI B 87 mh_87 mk_87 mf_87 dX12_property_295 ?_
      refine s_aload_n B.1 0 dX12_property_298 rfl rfl ?_
      refine rr_getA B 6 mh_6 mn_6 mf_6 dX12_property_299 ?_
      refine s_iload B.1 2 dX12_property_302 rfl ?_
      refine rr_bald B 6 mh_6 mk_6 dX12_property_304 (fun v6 => ?_)
      refine rr_bast B 86 mh_86 mk_86 dX12_property_305 ?_
      refine s_iinc (v := l5 + 1) (lv' := [(5, .int (l5 + 1)), (0, .ref g.1.2.2.2.2.2), (4, .int l4)]) B.1 2 dX12_property_306 rfl rfl (by decide) rfl ?_
      refine s_goto B.1 267 dX12_property_309 (by decide) ?_
      exact Sm.lvs [1, 2, 0] rfl (hkb l4 (l5 + 1))
set_option maxRecDepth 10000 in
theorem sm_property_L267 {g : Gm RS Unit} {ke312 : Int32 → RS → Option (Unit × RS)} (B : Br g cX12_property 6 voV none 5 103) (hke312 : ∀ (l4 : Int32), Sm g 6 312 [(0, .ref g.1.2.2.2.2.2), (4, .int l4)] [] (ke312 l4)) : ∀ (n : Nat) (l4 : Int32) (l5 : Int32), Sm g 6 267 [(0, .ref g.1.2.2.2.2.2), (4, .int l4), (5, .int l5)] [] (R_property_L267 ke312 n l4 l5)
  | 0, _, _ => Sm.fail
  | n + 1, l4, l5 => sm_property_B267 B (sm_property_L267 B hke312 n) hke312 l4 l5
def R_property_J221 (l4 : Int32) : RS → Option (Unit × RS) :=
  bd (R_row) fun r7 =>
  R_property_J327 l4
set_option maxRecDepth 10000 in
theorem sm_property_J221 {g : Gm RS Unit} (B : Br g cX12_property 6 voV none 5 103) (l4 : Int32) : Sm g 6 221 [(0, .ref g.1.2.2.2.2.2), (4, .int l4)] [] (R_property_J221 l4) := by
  unfold R_property_J221
  refine s_aload_n B.1 0 dX12_property_221 rfl rfl ?_
  refine rr_cvv (As := []) (st := []) B (m_row B.ok) mc_row ml_row mi_row me_row ini12 md_row (by decide) rfl (Nat.le_of_ble_eq_true rfl) dX12_property_222 (fun r7 => ?_)
  refine s_goto B.1 327 dX12_property_225 (by decide) ?_
  exact Sm.lvs [0, 1] rfl (sm_property_J327 B l4)
def R_property_J200 (l4 : Int32) : RS → Option (Unit × RS) :=
  bd (R_string) fun r8 =>
  R_property_J327 l4
set_option maxRecDepth 10000 in
theorem sm_property_J200 {g : Gm RS Unit} (B : Br g cX12_property 6 voV none 5 103) (l4 : Int32) : Sm g 6 200 [(0, .ref g.1.2.2.2.2.2), (4, .int l4)] [] (R_property_J200 l4) := by
  unfold R_property_J200
  refine s_aload_n B.1 0 dX12_property_200 rfl rfl ?_
  refine rr_cvv (As := []) (st := []) B (m_string B.ok) mc_string ml_string mi_string me_string ini12 md_string (by decide) rfl (Nat.le_of_ble_eq_true rfl) dX12_property_201 (fun r8 => ?_)
  refine s_goto B.1 327 dX12_property_204 (by decide) ?_
  exact Sm.lvs [0, 1] rfl (sm_property_J327 B l4)
def R_property_J159 (l4 : Int32) : RS → Option (Unit × RS) :=
  bd (R_four) fun r9 =>
  wL 83 l4 r9 <|
  R_property_J327 l4
set_option maxRecDepth 10000 in
theorem sm_property_J159 {g : Gm RS Unit} (B : Br g cX12_property 6 voV none 5 103) (l4 : Int32) : Sm g 6 159 [(0, .ref g.1.2.2.2.2.2), (4, .int l4)] [] (R_property_J159 l4) := by
  unfold R_property_J159
  refine s_aload_n B.1 0 dX12_property_159 rfl rfl ?_
  refine rr_getA B 83 mh_83 mn_83 mf_83 dX12_property_160 ?_
  refine s_iload B.1 1 dX12_property_163 rfl ?_
  refine s_aload_n B.1 0 dX12_property_165 rfl rfl ?_
  refine rr_cvl (As := []) (st := [.int l4, .ref (g.1.2.2.2.2.2 + mO 83)]) B (m_four B.ok) mc_four ml_four mi_four me_four ini12 md_four (by decide) rfl (Nat.le_of_ble_eq_true rfl) dX12_property_166 (fun r9 => ?_)
  refine rr_last B 83 mh_83 mk_83 dX12_property_169 ?_
  refine s_goto B.1 327 dX12_property_170 (by decide) ?_
  exact Sm.lvs [0, 1] rfl (sm_property_J327 B l4)
def R_property_J91 (l4 : Int32) : RS → Option (Unit × RS) :=
  bd (R_one) fun r10 =>
  wL 83 l4 r10.toInt64 <|
  rI 79 fun v11 =>
  if v11 = 0 then (
    rL 83 l4 fun v12 =>
    if (lg_cmp v12 (1 : Int64)) ≤ 0 then (
      R_property_J327 l4
    ) else (
      bd (R_fails (129 : Int32)) fun r13 =>
      R_property_J327 l4
    )
  ) else (
    R_property_J327 l4
  )
set_option maxRecDepth 10000 in
theorem sm_property_J91 {g : Gm RS Unit} (B : Br g cX12_property 6 voV none 5 103) (l4 : Int32) : Sm g 6 91 [(0, .ref g.1.2.2.2.2.2), (4, .int l4)] [] (R_property_J91 l4) := by
  unfold R_property_J91
  refine s_aload_n B.1 0 dX12_property_91 rfl rfl ?_
  refine rr_getA B 83 mh_83 mn_83 mf_83 dX12_property_92 ?_
  refine s_iload B.1 1 dX12_property_95 rfl ?_
  refine s_aload_n B.1 0 dX12_property_97 rfl rfl ?_
  refine rr_cvi (As := []) (st := [.int l4, .ref (g.1.2.2.2.2.2 + mO 83)]) B (m_one B.ok) mc_one ml_one mi_one me_one ini12 md_one (by decide) rfl (Nat.le_of_ble_eq_true rfl) dX12_property_98 (fun r10 => ?_)
  refine s_i2l B.1 dX12_property_101 ?_
  refine rr_last B 83 mh_83 mk_83 dX12_property_102 ?_
  refine s_aload_n B.1 0 dX12_property_103 rfl rfl ?_
  refine rr_getI B 79 mh_79 mk_79 mf_79 dX12_property_104 (fun v11 => ?_)
  refine s_if_ne B.1 327 dX12_property_107 (by decide) ?_ ?_
  · exact Sm.lvs [0, 1] rfl (sm_property_J327 B l4)
  · refine s_aload_n B.1 0 dX12_property_110 rfl rfl ?_
    refine rr_getA B 83 mh_83 mn_83 mf_83 dX12_property_111 ?_
    refine s_iload B.1 1 dX12_property_114 rfl ?_
    refine rr_lald B 83 mh_83 mk_83 dX12_property_116 (fun v12 => ?_)
    refine s_lconst (v := 1) B.1 dX12_property_117 (by decide) ?_
    refine s_lcmp B.1 dX12_property_118 ?_
    refine s_if_le B.1 327 dX12_property_119 (by decide) ?_ ?_
    · exact Sm.lvs [0, 1] rfl (sm_property_J327 B l4)
    · refine s_aload_n B.1 0 dX12_property_122 rfl rfl ?_
      refine s_sipush (v := (129)) B.1 dX12_property_123 (by decide) ?_
      refine rr_cvv (As := [.int (129 : Int32)]) (st := []) B (m_fails B.ok (129 : Int32)) mc_fails ml_fails mi_fails me_fails ini12 md_fails (by decide) rfl (Nat.le_of_ble_eq_true rfl) dX12_property_126 (fun r13 => ?_)
      refine s_goto B.1 327 dX12_property_129 (by decide) ?_
      exact Sm.lvs [0, 1] rfl (sm_property_J327 B l4)
def R_property_J63 (l3 : Int32) (l4 : Int32) : RS → Option (Unit × RS) :=
  wA 82 l4 (vp_nar .boolean (1 : Int32)) <|
  if l4 = (1 : Int32) then (
    R_property_J91 l4
  ) else (
    if l4 = (23 : Int32) then (
      R_property_J91 l4
    ) else (
      if l4 = (25 : Int32) then (
        R_property_J91 l4
      ) else (
        if l4 = (2 : Int32) then (
          R_property_J159 l4
        ) else (
          if l4 = (17 : Int32) then (
            R_property_J159 l4
          ) else (
            if l4 = (24 : Int32) then (
              R_property_J159 l4
            ) else (
              if l4 = (39 : Int32) then (
                R_property_J159 l4
              ) else (
                if l4 = (3 : Int32) then (
                  R_property_J200 l4
                ) else (
                  if l4 = (8 : Int32) then (
                    R_property_J200 l4
                  ) else (
                    if l4 = (21 : Int32) then (
                      R_property_J200 l4
                    ) else (
                      if l4 = (31 : Int32) then (
                        R_property_J200 l4
                      ) else (
                        if l4 = (9 : Int32) then (
                          R_property_J221 l4
                        ) else (
                          if l4 = (22 : Int32) then (
                            R_property_J221 l4
                          ) else (
                            if l4 = (11 : Int32) then (
                              bd (R_variable) fun r17 =>
                              wL 83 l4 r17 <|
                              R_property_J327 l4
                            ) else (
                              if l4 = (38 : Int32) then (
                                bd (R_string) fun r15 =>
                                bd (R_string) fun r16 =>
                                R_property_L267 (fun l4 => R_property_J312 l4) fu l4 l3
                              ) else (
                                bd (R_two) fun r14 =>
                                wL 83 l4 r14.toInt64 <|
                                R_property_J327 l4
                              )
                            )
                          )
                        )
                      )
                    )
                  )
                )
              )
            )
          )
        )
      )
    )
  )
set_option maxRecDepth 10000 in
theorem sm_property_J63 {g : Gm RS Unit} (B : Br g cX12_property 6 voV none 5 103) (l3 : Int32) (l4 : Int32) : Sm g 6 63 [(0, .ref g.1.2.2.2.2.2), (3, .int l3), (4, .int l4)] [] (R_property_J63 l3 l4) := by
  unfold R_property_J63
  refine s_aload_n B.1 0 dX12_property_63 rfl rfl ?_
  refine rr_getA B 82 mh_82 mn_82 mf_82 dX12_property_64 ?_
  refine s_iload B.1 2 dX12_property_67 rfl ?_
  refine s_iconst (v := 1) B.1 dX12_property_69 (by decide) ?_
  refine rr_zast B 82 mh_82 mk_82 dX12_property_70 ?_
  refine s_iload B.1 2 dX12_property_71 rfl ?_
  refine s_iconst (v := 1) B.1 dX12_property_73 (by decide) ?_
  refine s_icmp_eq B.1 91 dX12_property_74 (by decide) ?_ ?_
  · exact Sm.lvs [0, 2] rfl (sm_property_J91 B l4)
  · refine s_iload B.1 2 dX12_property_77 rfl ?_
    refine s_bipush (v := (23)) B.1 dX12_property_79 (by decide) ?_
    refine s_icmp_eq B.1 91 dX12_property_81 (by decide) ?_ ?_
    · exact Sm.lvs [0, 2] rfl (sm_property_J91 B l4)
    · refine s_iload B.1 2 dX12_property_84 rfl ?_
      refine s_bipush (v := (25)) B.1 dX12_property_86 (by decide) ?_
      refine s_icmp_ne B.1 132 dX12_property_88 (by decide) ?_ ?_
      · refine s_iload B.1 2 dX12_property_132 rfl ?_
        refine s_iconst (v := 2) B.1 dX12_property_134 (by decide) ?_
        refine s_icmp_eq B.1 159 dX12_property_135 (by decide) ?_ ?_
        · exact Sm.lvs [0, 2] rfl (sm_property_J159 B l4)
        · refine s_iload B.1 2 dX12_property_138 rfl ?_
          refine s_bipush (v := (17)) B.1 dX12_property_140 (by decide) ?_
          refine s_icmp_eq B.1 159 dX12_property_142 (by decide) ?_ ?_
          · exact Sm.lvs [0, 2] rfl (sm_property_J159 B l4)
          · refine s_iload B.1 2 dX12_property_145 rfl ?_
            refine s_bipush (v := (24)) B.1 dX12_property_147 (by decide) ?_
            refine s_icmp_eq B.1 159 dX12_property_149 (by decide) ?_ ?_
            · exact Sm.lvs [0, 2] rfl (sm_property_J159 B l4)
            · refine s_iload B.1 2 dX12_property_152 rfl ?_
              refine s_bipush (v := (39)) B.1 dX12_property_154 (by decide) ?_
              refine s_icmp_ne B.1 173 dX12_property_156 (by decide) ?_ ?_
              · refine s_iload B.1 2 dX12_property_173 rfl ?_
                refine s_iconst (v := 3) B.1 dX12_property_175 (by decide) ?_
                refine s_icmp_eq B.1 200 dX12_property_176 (by decide) ?_ ?_
                · exact Sm.lvs [0, 2] rfl (sm_property_J200 B l4)
                · refine s_iload B.1 2 dX12_property_179 rfl ?_
                  refine s_bipush (v := (8)) B.1 dX12_property_181 (by decide) ?_
                  refine s_icmp_eq B.1 200 dX12_property_183 (by decide) ?_ ?_
                  · exact Sm.lvs [0, 2] rfl (sm_property_J200 B l4)
                  · refine s_iload B.1 2 dX12_property_186 rfl ?_
                    refine s_bipush (v := (21)) B.1 dX12_property_188 (by decide) ?_
                    refine s_icmp_eq B.1 200 dX12_property_190 (by decide) ?_ ?_
                    · exact Sm.lvs [0, 2] rfl (sm_property_J200 B l4)
                    · refine s_iload B.1 2 dX12_property_193 rfl ?_
                      refine s_bipush (v := (31)) B.1 dX12_property_195 (by decide) ?_
                      refine s_icmp_ne B.1 207 dX12_property_197 (by decide) ?_ ?_
                      · refine s_iload B.1 2 dX12_property_207 rfl ?_
                        refine s_bipush (v := (9)) B.1 dX12_property_209 (by decide) ?_
                        refine s_icmp_eq B.1 221 dX12_property_211 (by decide) ?_ ?_
                        · exact Sm.lvs [0, 2] rfl (sm_property_J221 B l4)
                        · refine s_iload B.1 2 dX12_property_214 rfl ?_
                          refine s_bipush (v := (22)) B.1 dX12_property_216 (by decide) ?_
                          refine s_icmp_ne B.1 228 dX12_property_218 (by decide) ?_ ?_
                          · refine s_iload B.1 2 dX12_property_228 rfl ?_
                            refine s_bipush (v := (11)) B.1 dX12_property_230 (by decide) ?_
                            refine s_icmp_ne B.1 249 dX12_property_232 (by decide) ?_ ?_
                            · refine s_iload B.1 2 dX12_property_249 rfl ?_
                              refine s_bipush (v := (38)) B.1 dX12_property_251 (by decide) ?_
                              refine s_icmp_ne B.1 315 dX12_property_253 (by decide) ?_ ?_
                              · refine s_aload_n B.1 0 dX12_property_315 rfl rfl ?_
                                refine rr_getA B 83 mh_83 mn_83 mf_83 dX12_property_316 ?_
                                refine s_iload B.1 2 dX12_property_319 rfl ?_
                                refine s_aload_n B.1 0 dX12_property_321 rfl rfl ?_
                                refine rr_cvi (As := []) (st := [.int l4, .ref (g.1.2.2.2.2.2 + mO 83)]) B (m_two B.ok) mc_two ml_two mi_two me_two ini12 md_two (by decide) rfl (Nat.le_of_ble_eq_true rfl) dX12_property_322 (fun r14 => ?_)
                                refine s_i2l B.1 dX12_property_325 ?_
                                refine rr_last B 83 mh_83 mk_83 dX12_property_326 ?_
                                exact Sm.lvs [0, 2] rfl (sm_property_J327 B l4)
                              · refine s_aload_n B.1 0 dX12_property_256 rfl rfl ?_
                                refine rr_cvv (As := []) (st := []) B (m_string B.ok) mc_string ml_string mi_string me_string ini12 md_string (by decide) rfl (Nat.le_of_ble_eq_true rfl) dX12_property_257 (fun r15 => ?_)
                                refine s_aload_n B.1 0 dX12_property_260 rfl rfl ?_
                                refine rr_cvv (As := []) (st := []) B (m_string B.ok) mc_string ml_string mi_string me_string ini12 md_string (by decide) rfl (Nat.le_of_ble_eq_true rfl) dX12_property_261 (fun r16 => ?_)
                                refine s_iload_n B.1 1 dX12_property_264 rfl rfl ?_
                                refine s_istore (lv' := [(5, .int l3), (0, .ref g.1.2.2.2.2.2), (3, .int l3), (4, .int l4)]) B.1 dX12_property_265 (by decide) rfl ?_
                                exact Sm.lvs [1, 3, 0] rfl (sm_property_L267 B (fun l4 => sm_property_J312 B l4) fu l4 l3)
                            · refine s_aload_n B.1 0 dX12_property_235 rfl rfl ?_
                              refine rr_getA B 83 mh_83 mn_83 mf_83 dX12_property_236 ?_
                              refine s_iload B.1 2 dX12_property_239 rfl ?_
                              refine s_aload_n B.1 0 dX12_property_241 rfl rfl ?_
                              refine rr_cvl (As := []) (st := [.int l4, .ref (g.1.2.2.2.2.2 + mO 83)]) B (m_variable B.ok) mc_variable ml_variable mi_variable me_variable ini12 md_variable (by decide) rfl (Nat.le_of_ble_eq_true rfl) dX12_property_242 (fun r17 => ?_)
                              refine rr_last B 83 mh_83 mk_83 dX12_property_245 ?_
                              refine s_goto B.1 327 dX12_property_246 (by decide) ?_
                              exact Sm.lvs [0, 2] rfl (sm_property_J327 B l4)
                          · exact Sm.lvs [0, 2] rfl (sm_property_J221 B l4)
                      · exact Sm.lvs [0, 2] rfl (sm_property_J200 B l4)
              · exact Sm.lvs [0, 2] rfl (sm_property_J159 B l4)
      · exact Sm.lvs [0, 2] rfl (sm_property_J91 B l4)
def R_property_J55 : RS → Option (Unit × RS) :=
  bd (R_fails (130 : Int32)) fun r18 =>
  rt ()
set_option maxRecDepth 10000 in
theorem sm_property_J55 {g : Gm RS Unit} (B : Br g cX12_property 6 voV none 5 103) : Sm g 6 55 [(0, .ref g.1.2.2.2.2.2)] [] (R_property_J55) := by
  unfold R_property_J55
  refine s_aload_n B.1 0 dX12_property_55 rfl rfl ?_
  refine s_sipush (v := (130)) B.1 dX12_property_56 (by decide) ?_
  refine rr_cvv (As := [.int (130 : Int32)]) (st := []) B (m_fails B.ok (130 : Int32)) mc_fails ml_fails mi_fails me_fails ini12 md_fails (by decide) rfl (Nat.le_of_ble_eq_true rfl) dX12_property_59 (fun r18 => ?_)
  exact s_vret B.1 B.2.1 dX12_property_62
def R_property (l1 : Int64) : RS → Option (Unit × RS) :=
  rI 76 fun v19 =>
  bd (R_one) fun r20 =>
  rI 79 fun v21 =>
  if v21 = 0 then (
    if (63 : Int32) < r20 then (
      R_property_J55
    ) else (
      bd (R_bit r20) fun r22 =>
      if (lg_cmp (l1 &&& r22) (0 : Int64)) = 0 then (
        R_property_J55
      ) else (
        if r20 = (38 : Int32) then (
          R_property_J63 v19 r20
        ) else (
          rA 82 r20 fun v23 =>
          if v23 = 0 then (
            R_property_J63 v19 r20
          ) else (
            R_property_J55
          )
        )
      )
    )
  ) else (
    rt ()
  )
set_option maxRecDepth 10000 in
theorem m_property {w : Wd} (hw : Wok w) (l1 : Int64) : MR w yX12_property cX12_property 6 none 5 103 voV [.ref w.2.2.2.2.2, .long l1] (R_property l1) := by
  refine MR.of hw rfl (Nat.le_of_ble_eq_true rfl) (fun g hg B => ?_)
  subst hg
  unfold R_property
  show Sm g 6 0 [(0, .ref g.1.2.2.2.2.2), (1, .long l1)] [] _
  refine s_aload_n B.1 0 dX12_property_0 rfl rfl ?_
  refine rr_getI B 76 mh_76 mk_76 mf_76 dX12_property_1 (fun v19 => ?_)
  refine s_istore_n (lv' := [(3, .int v19), (0, .ref g.1.2.2.2.2.2), (1, .long l1)]) B.1 dX12_property_4 rfl (by decide) rfl ?_
  refine s_aload_n B.1 1 dX12_property_5 rfl rfl ?_
  refine rr_cvi (As := []) (st := []) B (m_one B.ok) mc_one ml_one mi_one me_one ini12 md_one (by decide) rfl (Nat.le_of_ble_eq_true rfl) dX12_property_6 (fun r20 => ?_)
  refine s_istore (lv' := [(4, .int r20), (3, .int v19), (0, .ref g.1.2.2.2.2.2), (1, .long l1)]) B.1 dX12_property_9 (by decide) rfl ?_
  refine s_aload_n B.1 2 dX12_property_11 rfl rfl ?_
  refine rr_getI B 79 mh_79 mk_79 mf_79 dX12_property_12 (fun v21 => ?_)
  refine s_if_eq B.1 19 dX12_property_15 (by decide) ?_ ?_
  · refine s_iload B.1 0 dX12_property_19 rfl ?_
    refine s_bipush (v := (63)) B.1 dX12_property_21 (by decide) ?_
    refine s_icmp_gt B.1 55 dX12_property_23 (by decide) ?_ ?_
    · exact Sm.lvs [2] rfl (sm_property_J55 B)
    · refine s_lload_n B.1 3 dX12_property_26 rfl rfl ?_
      refine s_iload B.1 0 dX12_property_27 rfl ?_
      refine rr_csl (As := [.int r20]) (st := [.long l1]) B (m_bit B.ok r20) mc_bit ml_bit ms_bit ini12 md_bit (by decide) rfl (Nat.le_of_ble_eq_true rfl) dX12_property_29 (fun r22 => ?_)
      refine s_land B.1 dX12_property_32 ?_
      refine s_lconst (v := 0) B.1 dX12_property_33 (by decide) ?_
      refine s_lcmp B.1 dX12_property_34 ?_
      refine s_if_eq B.1 55 dX12_property_35 (by decide) ?_ ?_
      · exact Sm.lvs [2] rfl (sm_property_J55 B)
      · refine s_iload B.1 0 dX12_property_38 rfl ?_
        refine s_bipush (v := (38)) B.1 dX12_property_40 (by decide) ?_
        refine s_icmp_eq B.1 63 dX12_property_42 (by decide) ?_ ?_
        · exact Sm.lvs [2, 1, 0] rfl (sm_property_J63 B v19 r20)
        · refine s_aload_n B.1 2 dX12_property_45 rfl rfl ?_
          refine rr_getA B 82 mh_82 mn_82 mf_82 dX12_property_46 ?_
          refine s_iload B.1 0 dX12_property_49 rfl ?_
          refine rr_zald B 82 mh_82 mk_82 dX12_property_51 (fun v23 => ?_)
          refine s_if_eq B.1 63 dX12_property_52 (by decide) ?_ ?_
          · exact Sm.lvs [2, 1, 0] rfl (sm_property_J63 B v19 r20)
          · exact Sm.lvs [2] rfl (sm_property_J55 B)
  · exact s_vret B.1 B.2.1 dX12_property_18
