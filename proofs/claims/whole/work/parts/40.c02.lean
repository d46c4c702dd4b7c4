def C_X7_at (l0 : Nat) (l1 : Int32) : Hp → Option (Int32 × Hp) :=
  if l1 < 0 then (
    rt ((-1 : Int32))
  ) else (
    hgR 9 0 (some l0) fun v1 =>
    hLn 0 v1 fun v2 =>
    if v2 ≤ l1 then (
      rt ((-1 : Int32))
    ) else (
      hgR 9 0 (some l0) fun v3 =>
      hAi v3 l1 fun v4 =>
      rt (v4)
    )
  )
set_option maxRecDepth 10000 in
theorem mo_C_X7_at (l0 : Nat) (l1 : Int32) : Mo (C_X7_at l0 l1) := by
  unfold C_X7_at
  repeat' (with_reducible first | assumption | exact mo_rt _ | exact mo_zt _ | exact mo_no | refine mo_ite ?_ ?_ | refine mo_hgI (fun _ => ?_) | refine mo_hgR (fun _ => ?_) | refine mo_hCv (fun _ => ?_) (fun _ => ?_) | refine mo_lq (fun _ => ?_) | refine mo_hpI ?_ | refine mo_hpR ?_ | refine mo_hAi (fun _ => ?_) | refine mo_hAr (fun _ => ?_) | refine mo_hWi ?_ | refine mo_hWr ?_ | refine mo_hLn (fun _ => ?_) | refine mo_hgL (fun _ => ?_) | refine mo_hpL ?_ | refine mo_hpZ ?_ | refine mo_bd ?_ (fun _ => ?_) | refine mo_hCi (fun _ => ?_) (fun _ => ?_) | refine mo_hNw (fun _ => ?_) | refine mo_hNa (fun _ => ?_) | refine mo_hCp ?_ | refine mo_hOi ?_ | refine mo_hAl (fun _ => ?_) | refine mo_hWl ?_ | refine mo_gd ?_ | refine mo_sLn (fun _ => ?_) | refine mo_sAt (fun _ => ?_) | refine mo_kLn (fun _ => ?_) | refine mo_kAt (fun _ => ?_))
set_option maxRecDepth 10000 in
theorem mC_X7_at {w : Wd} (hw : Wc w) (l0 : Nat) (l1 : Int32) : MH w yX7_at cX7_at 2 (some .int) 0 0 voI [va_rf (some l0), .int l1] (C_X7_at l0 l1) := by
  have M0 : ∀ g : Gm Hp Int32, g.1 = w → Bx g cX7_at 2 RX7 voI (some .int) 0 0 "at" → Sm g 2 0 (lv_args 0 [va_rf (some l0), .int l1]) [] (C_X7_at l0 l1) := by
    intro g hg B
    subst hg
    unfold C_X7_at
    refine W_lva (lv := [(0, va_rf (some l0)), (1, .int l1)]) (by simp [lv_args, va_rf_cat, cat_i, cat_l, cat_r]) ?_
    refine s_iload_n B.1.1 1 dX7_at_0 rfl rfl ?_
    refine s_if_lt B.1.1 22 dX7_at_1 (by decide) ?_ ?_
    · refine s_iconst (v := (-1)) B.1.1 dX7_at_22 (by decide) ?_
      exact s_iret B.1.1 B.2.2.2.2 dX7_at_23
    · refine s_iload_n B.1.1 1 dX7_at_4 rfl rfl ?_
      refine s_rload_n B.1.1 0 dX7_at_5 rfl rfl ?_
      refine hp_getR B.1 9 0 rfl (by decide) inX7 (by decide) fk_X7_0 cf_X7_9 dX7_at_6 (fun v1 => ?_)
      refine hp_Ln B.1 0 (fun _ => rfl) dX7_at_9 (fun v2 => ?_)
      refine s_icmp_ge B.1.1 22 dX7_at_10 (by decide) ?_ ?_
      · refine s_iconst (v := (-1)) B.1.1 dX7_at_22 (by decide) ?_
        exact s_iret B.1.1 B.2.2.2.2 dX7_at_23
      · refine s_rload_n B.1.1 0 dX7_at_13 rfl rfl ?_
        refine hp_getR B.1 9 0 rfl (by decide) inX7 (by decide) fk_X7_0 cf_X7_9 dX7_at_14 (fun v3 => ?_)
        refine s_iload_n B.1.1 1 dX7_at_17 rfl rfl ?_
        refine hp_Ai B.1 dX7_at_18 (fun v4 => ?_)
        refine s_goto B.1.1 23 dX7_at_19 (by decide) ?_
        exact s_iret B.1.1 B.2.2.2.2 dX7_at_23
  exact MH.of hw ⟨rfl, rfl⟩ (by decide) (by simp [lg_sl, va_rf_cat, cat_i, cat_l, cat_r]) (mo_C_X7_at l0 l1) M0
def C_X9_matches_J166 (l0 : Nat) (l1 : Option Nat) (l3 : Int32) : Hp → Option (Int32 × Hp) :=
  hCv 9 l1 (fun a => C_X7_count a) fun r1 =>
  if l3 = r1 then (
    zt ((1 : Int32))
  ) else (
    zt ((0 : Int32))
  )
set_option maxRecDepth 10000 in
theorem mo_C_X9_matches_J166 (l0 : Nat) (l1 : Option Nat) (l3 : Int32) : Mo (C_X9_matches_J166 l0 l1 l3) := by
  unfold C_X9_matches_J166
  repeat' (with_reducible first | assumption | exact mo_rt _ | exact mo_zt _ | exact mo_no | apply mo_C_X7_count | refine mo_ite ?_ ?_ | refine mo_hgI (fun _ => ?_) | refine mo_hgR (fun _ => ?_) | refine mo_hCv (fun _ => ?_) (fun _ => ?_) | refine mo_lq (fun _ => ?_) | refine mo_hpI ?_ | refine mo_hpR ?_ | refine mo_hAi (fun _ => ?_) | refine mo_hAr (fun _ => ?_) | refine mo_hWi ?_ | refine mo_hWr ?_ | refine mo_hLn (fun _ => ?_) | refine mo_hgL (fun _ => ?_) | refine mo_hpL ?_ | refine mo_hpZ ?_ | refine mo_bd ?_ (fun _ => ?_) | refine mo_hCi (fun _ => ?_) (fun _ => ?_) | refine mo_hNw (fun _ => ?_) | refine mo_hNa (fun _ => ?_) | refine mo_hCp ?_ | refine mo_hOi ?_ | refine mo_hAl (fun _ => ?_) | refine mo_hWl ?_ | refine mo_gd ?_ | refine mo_sLn (fun _ => ?_) | refine mo_sAt (fun _ => ?_) | refine mo_kLn (fun _ => ?_) | refine mo_kAt (fun _ => ?_))
set_option maxRecDepth 10000 in
theorem sc_X9_matches_J166 {g : Gm Hp Int32} (B : Bx g cX9_matches 6 RX9 voI (some .boolean) 1 21 "matches") {l0 : Nat} (l1 : Option Nat) (l3 : Int32) : Sm g 6 166 [(1, va_rf l1), (3, .int l3)] [] (C_X9_matches_J166 l0 l1 l3) := by
  unfold C_X9_matches_J166
  refine s_iload_n B.1.1 1 dX9_matches_166 rfl rfl ?_
  refine s_rload_n B.1.1 0 dX9_matches_167 rfl rfl ?_
  refine hp_cvi (As := []) (st := [.int l3]) 9 rfl (by decide) B.1 (fun a => mC_X7_count B.2.1 a ) cc_X7_count cl_X9_23 cn_X7_count ce_X7_count ci_X7 cd_X7_count (by decide) rfl (Nat.le_of_ble_eq_true rfl) dX9_matches_168 (fun r1 => ?_)
  refine s_icmp_ne B.1.1 178 dX9_matches_171 (by decide) ?_ ?_
  · refine s_iconst (v := 0) B.1.1 dX9_matches_178 (by decide) ?_
    exact s_zret B.1.1 B.2.2.2.2 dX9_matches_179
  · refine s_iconst (v := 1) B.1.1 dX9_matches_174 (by decide) ?_
    refine s_goto B.1.1 179 dX9_matches_175 (by decide) ?_
    exact s_zret B.1.1 B.2.2.2.2 dX9_matches_179
def C_X9_matches_J123 (l0 : Nat) (l1 : Option Nat) (l3 : Int32) (l4 : Int32) (l5 : Int32) : Hp → Option (Int32 × Hp) :=
  hCv 9 l1 (fun a => C_X7_count a) fun r2 =>
  if l3 = r2 then (
    if l5 = (47 : Int32) then (
      hgR 11 0 (some l0) fun v3 =>
      hCv 9 v3 (fun a => C_X7_at a (l4 + (1 : Int32))) fun r4 =>
      if r4 = (35 : Int32) then (
        zt ((1 : Int32))
      ) else (
        zt ((0 : Int32))
      )
    ) else (
      zt ((0 : Int32))
    )
  ) else (
    zt ((0 : Int32))
  )
set_option maxRecDepth 10000 in
theorem mo_C_X9_matches_J123 (l0 : Nat) (l1 : Option Nat) (l3 : Int32) (l4 : Int32) (l5 : Int32) : Mo (C_X9_matches_J123 l0 l1 l3 l4 l5) := by
  unfold C_X9_matches_J123
  repeat' (with_reducible first | assumption | exact mo_rt _ | exact mo_zt _ | exact mo_no | apply mo_C_X7_count | apply mo_C_X7_at | refine mo_ite ?_ ?_ | refine mo_hgI (fun _ => ?_) | refine mo_hgR (fun _ => ?_) | refine mo_hCv (fun _ => ?_) (fun _ => ?_) | refine mo_lq (fun _ => ?_) | refine mo_hpI ?_ | refine mo_hpR ?_ | refine mo_hAi (fun _ => ?_) | refine mo_hAr (fun _ => ?_) | refine mo_hWi ?_ | refine mo_hWr ?_ | refine mo_hLn (fun _ => ?_) | refine mo_hgL (fun _ => ?_) | refine mo_hpL ?_ | refine mo_hpZ ?_ | refine mo_bd ?_ (fun _ => ?_) | refine mo_hCi (fun _ => ?_) (fun _ => ?_) | refine mo_hNw (fun _ => ?_) | refine mo_hNa (fun _ => ?_) | refine mo_hCp ?_ | refine mo_hOi ?_ | refine mo_hAl (fun _ => ?_) | refine mo_hWl ?_ | refine mo_gd ?_ | refine mo_sLn (fun _ => ?_) | refine mo_sAt (fun _ => ?_) | refine mo_kLn (fun _ => ?_) | refine mo_kAt (fun _ => ?_))
set_option maxRecDepth 10000 in
theorem sc_X9_matches_J123 {g : Gm Hp Int32} (B : Bx g cX9_matches 6 RX9 voI (some .boolean) 1 21 "matches") {l0 : Nat} (l1 : Option Nat) (l3 : Int32) (l4 : Int32) (l5 : Int32) : Sm g 6 123 [(0, va_rf (some l0)), (1, va_rf l1), (3, .int l3), (4, .int l4), (5, .int l5)] [] (C_X9_matches_J123 l0 l1 l3 l4 l5) := by
  unfold C_X9_matches_J123
  refine s_iload_n B.1.1 2 dX9_matches_123 rfl rfl ?_
  refine s_rload_n B.1.1 1 dX9_matches_124 rfl rfl ?_
  refine hp_cvi (As := []) (st := [.int l3]) 9 rfl (by decide) B.1 (fun a => mC_X7_count B.2.1 a ) cc_X7_count cl_X9_23 cn_X7_count ce_X7_count ci_X7 cd_X7_count (by decide) rfl (Nat.le_of_ble_eq_true rfl) dX9_matches_125 (fun r2 => ?_)
  refine s_icmp_ne B.1.1 158 dX9_matches_128 (by decide) ?_ ?_
  · refine s_iconst (v := 0) B.1.1 dX9_matches_158 (by decide) ?_
    exact s_zret B.1.1 B.2.2.2.2 dX9_matches_159
  · refine s_iload B.1.1 4 dX9_matches_131 rfl ?_
    refine s_bipush (v := (47)) B.1.1 dX9_matches_133 (by decide) ?_
    refine s_icmp_ne B.1.1 158 dX9_matches_135 (by decide) ?_ ?_
    · refine s_iconst (v := 0) B.1.1 dX9_matches_158 (by decide) ?_
      exact s_zret B.1.1 B.2.2.2.2 dX9_matches_159
    · refine s_rload_n B.1.1 0 dX9_matches_138 rfl rfl ?_
      refine hp_getR B.1 11 0 rfl (by decide) inX9 (by decide) fk_X9_0 cf_X9_7 dX9_matches_139 (fun v3 => ?_)
      refine s_iload B.1.1 3 dX9_matches_142 rfl ?_
      refine s_iconst (v := 1) B.1.1 dX9_matches_144 (by decide) ?_
      refine s_iadd B.1.1 dX9_matches_145 ?_
      refine hp_cvi (As := [.int (l4 + (1 : Int32))]) (st := []) 9 rfl (by decide) B.1 (fun a => mC_X7_at B.2.1 a (l4 + (1 : Int32))) cc_X7_at cl_X9_17 cn_X7_at ce_X7_at ci_X7 cd_X7_at (by decide) rfl (Nat.le_of_ble_eq_true rfl) dX9_matches_146 (fun r4 => ?_)
      refine s_bipush (v := (35)) B.1.1 dX9_matches_149 (by decide) ?_
      refine s_icmp_ne B.1.1 158 dX9_matches_151 (by decide) ?_ ?_
      · refine s_iconst (v := 0) B.1.1 dX9_matches_158 (by decide) ?_
        exact s_zret B.1.1 B.2.2.2.2 dX9_matches_159
      · refine s_iconst (v := 1) B.1.1 dX9_matches_154 (by decide) ?_
        refine s_goto B.1.1 159 dX9_matches_155 (by decide) ?_
        exact s_zret B.1.1 B.2.2.2.2 dX9_matches_159
def C_X9_matches_J74 (l0 : Nat) : Hp → Option (Int32 × Hp) :=
  zt ((1 : Int32))
set_option maxRecDepth 10000 in
theorem mo_C_X9_matches_J74 (l0 : Nat) : Mo (C_X9_matches_J74 l0) := by
  unfold C_X9_matches_J74
  repeat' (with_reducible first | assumption | exact mo_rt _ | exact mo_zt _ | exact mo_no | refine mo_ite ?_ ?_ | refine mo_hgI (fun _ => ?_) | refine mo_hgR (fun _ => ?_) | refine mo_hCv (fun _ => ?_) (fun _ => ?_) | refine mo_lq (fun _ => ?_) | refine mo_hpI ?_ | refine mo_hpR ?_ | refine mo_hAi (fun _ => ?_) | refine mo_hAr (fun _ => ?_) | refine mo_hWi ?_ | refine mo_hWr ?_ | refine mo_hLn (fun _ => ?_) | refine mo_hgL (fun _ => ?_) | refine mo_hpL ?_ | refine mo_hpZ ?_ | refine mo_bd ?_ (fun _ => ?_) | refine mo_hCi (fun _ => ?_) (fun _ => ?_) | refine mo_hNw (fun _ => ?_) | refine mo_hNa (fun _ => ?_) | refine mo_hCp ?_ | refine mo_hOi ?_ | refine mo_hAl (fun _ => ?_) | refine mo_hWl ?_ | refine mo_gd ?_ | refine mo_sLn (fun _ => ?_) | refine mo_sAt (fun _ => ?_) | refine mo_kLn (fun _ => ?_) | refine mo_kAt (fun _ => ?_))
set_option maxRecDepth 10000 in
theorem sc_X9_matches_J74 {g : Gm Hp Int32} (B : Bx g cX9_matches 6 RX9 voI (some .boolean) 1 21 "matches") {l0 : Nat} : Sm g 6 74 [] [] (C_X9_matches_J74 l0) := by
  unfold C_X9_matches_J74
  refine s_iconst (v := 1) B.1.1 dX9_matches_74 (by decide) ?_
  exact s_zret B.1.1 B.2.2.2.2 dX9_matches_75
def C_X9_matches_J160 (l0 : Nat) (kb : Option Nat → Int32 → Int32 → Hp → Option (Int32 × Hp)) (ke74 : Hp → Option (Int32 × Hp)) (ke123 : Option Nat → Int32 → Int32 → Int32 → Hp → Option (Int32 × Hp)) (ke166 : Option Nat → Int32 → Hp → Option (Int32 × Hp)) (l1 : Option Nat) (l3 : Int32) (l4 : Int32) : Hp → Option (Int32 × Hp) :=
  kb l1 l3 (l4 + 1)
set_option maxRecDepth 10000 in
theorem mo_C_X9_matches_J160 (l0 : Nat) (kb : Option Nat → Int32 → Int32 → Hp → Option (Int32 × Hp)) (ke74 : Hp → Option (Int32 × Hp)) (ke123 : Option Nat → Int32 → Int32 → Int32 → Hp → Option (Int32 × Hp)) (ke166 : Option Nat → Int32 → Hp → Option (Int32 × Hp)) (hkb : ∀ (l1 : Option Nat) (l3 : Int32) (l4 : Int32), Mo (kb l1 l3 l4)) (hke74 : Mo (ke74)) (hke123 : ∀ (l1 : Option Nat) (l3 : Int32) (l4 : Int32) (l5 : Int32), Mo (ke123 l1 l3 l4 l5)) (hke166 : ∀ (l1 : Option Nat) (l3 : Int32), Mo (ke166 l1 l3)) (l1 : Option Nat) (l3 : Int32) (l4 : Int32) : Mo (C_X9_matches_J160 l0 kb ke74 ke123 ke166 l1 l3 l4) := by
  unfold C_X9_matches_J160
  repeat' (with_reducible first | assumption | exact mo_rt _ | exact mo_zt _ | exact mo_no | apply hkb | apply hke74 | apply hke123 | apply hke166 | refine mo_ite ?_ ?_ | refine mo_hgI (fun _ => ?_) | refine mo_hgR (fun _ => ?_) | refine mo_hCv (fun _ => ?_) (fun _ => ?_) | refine mo_lq (fun _ => ?_) | refine mo_hpI ?_ | refine mo_hpR ?_ | refine mo_hAi (fun _ => ?_) | refine mo_hAr (fun _ => ?_) | refine mo_hWi ?_ | refine mo_hWr ?_ | refine mo_hLn (fun _ => ?_) | refine mo_hgL (fun _ => ?_) | refine mo_hpL ?_ | refine mo_hpZ ?_ | refine mo_bd ?_ (fun _ => ?_) | refine mo_hCi (fun _ => ?_) (fun _ => ?_) | refine mo_hNw (fun _ => ?_) | refine mo_hNa (fun _ => ?_) | refine mo_hCp ?_ | refine mo_hOi ?_ | refine mo_hAl (fun _ => ?_) | refine mo_hWl ?_ | refine mo_gd ?_ | refine mo_sLn (fun _ => ?_) | refine mo_sAt (fun _ => ?_) | refine mo_kLn (fun _ => ?_) | refine mo_kAt (fun _ => ?_))
set_option maxRecDepth 10000 in
theorem sc_X9_matches_J160 {g : Gm Hp Int32} {kb : Option Nat → Int32 → Int32 → Hp → Option (Int32 × Hp)} {ke74 : Hp → Option (Int32 × Hp)} {ke123 : Option Nat → Int32 → Int32 → Int32 → Hp → Option (Int32 × Hp)} {ke166 : Option Nat → Int32 → Hp → Option (Int32 × Hp)} (B : Bx g cX9_matches 6 RX9 voI (some .boolean) 1 21 "matches") {l0 : Nat} (hkb : ∀ (l1 : Option Nat) (l3 : Int32) (l4 : Int32), Sm g 6 44 [(0, va_rf (some l0)), (1, va_rf l1), (3, .int l3), (4, .int l4)] [] (kb l1 l3 l4)) (hke74 : Sm g 6 74 [] [] (ke74)) (hke123 : ∀ (l1 : Option Nat) (l3 : Int32) (l4 : Int32) (l5 : Int32), Sm g 6 123 [(0, va_rf (some l0)), (1, va_rf l1), (3, .int l3), (4, .int l4), (5, .int l5)] [] (ke123 l1 l3 l4 l5)) (hke166 : ∀ (l1 : Option Nat) (l3 : Int32), Sm g 6 166 [(1, va_rf l1), (3, .int l3)] [] (ke166 l1 l3)) (l1 : Option Nat) (l3 : Int32) (l4 : Int32) : Sm g 6 160 [(0, va_rf (some l0)), (1, va_rf l1), (3, .int l3), (4, .int l4)] [] (C_X9_matches_J160 l0 kb ke74 ke123 ke166 l1 l3 l4) := by
  unfold C_X9_matches_J160
  refine s_iinc (v := l4 + 1) (lv' := [(4, .int (l4 + 1)), (0, va_rf (some l0)), (1, va_rf l1), (3, .int l3)]) B.1.1 3 dX9_matches_160 rfl rfl (by decide) rfl ?_
  refine s_goto B.1.1 44 dX9_matches_163 (by decide) ?_
  exact Sm.lvs [1, 2, 3, 0] rfl (hkb l1 l3 (l4 + 1))
def C_X9_matches_B83 (l0 : Nat) (kb : Option Nat → Int32 → Int32 → Hp → Option (Int32 × Hp)) (ke160 : Option Nat → Int32 → Int32 → Hp → Option (Int32 × Hp)) (l1 : Option Nat) (l3 : Int32) (l4 : Int32) : Hp → Option (Int32 × Hp) :=
  hCv 9 l1 (fun a => C_X7_count a) fun r5 =>
  if r5 ≤ l3 then (
    ke160 l1 l3 l4
  ) else (
    hCv 9 l1 (fun a => C_X7_at a l3) fun r6 =>
    if r6 = (47 : Int32) then (
      ke160 l1 l3 l4
    ) else (
      kb l1 (l3 + 1) l4
    )
  )
def C_X9_matches_L83 (l0 : Nat) (ke160 : Option Nat → Int32 → Int32 → Hp → Option (Int32 × Hp)) : Nat → Option Nat → Int32 → Int32 → Hp → Option (Int32 × Hp)
  | 0, _, _, _ => no
  | n + 1, l1, l3, l4 => C_X9_matches_B83 l0 (fun l1 l3 l4 => C_X9_matches_L83 l0 ke160 n l1 l3 l4) ke160 l1 l3 l4
set_option maxRecDepth 10000 in
theorem mo_C_X9_matches_B83 (l0 : Nat) (kb : Option Nat → Int32 → Int32 → Hp → Option (Int32 × Hp)) (ke160 : Option Nat → Int32 → Int32 → Hp → Option (Int32 × Hp)) (hkb : ∀ (l1 : Option Nat) (l3 : Int32) (l4 : Int32), Mo (kb l1 l3 l4)) (hke160 : ∀ (l1 : Option Nat) (l3 : Int32) (l4 : Int32), Mo (ke160 l1 l3 l4)) (l1 : Option Nat) (l3 : Int32) (l4 : Int32) : Mo (C_X9_matches_B83 l0 kb ke160 l1 l3 l4) := by
  unfold C_X9_matches_B83
  repeat' (with_reducible first | assumption | exact mo_rt _ | exact mo_zt _ | exact mo_no | apply mo_C_X7_count | apply mo_C_X7_at | apply hkb | apply hke160 | refine mo_ite ?_ ?_ | refine mo_hgI (fun _ => ?_) | refine mo_hgR (fun _ => ?_) | refine mo_hCv (fun _ => ?_) (fun _ => ?_) | refine mo_lq (fun _ => ?_) | refine mo_hpI ?_ | refine mo_hpR ?_ | refine mo_hAi (fun _ => ?_) | refine mo_hAr (fun _ => ?_) | refine mo_hWi ?_ | refine mo_hWr ?_ | refine mo_hLn (fun _ => ?_) | refine mo_hgL (fun _ => ?_) | refine mo_hpL ?_ | refine mo_hpZ ?_ | refine mo_bd ?_ (fun _ => ?_) | refine mo_hCi (fun _ => ?_) (fun _ => ?_) | refine mo_hNw (fun _ => ?_) | refine mo_hNa (fun _ => ?_) | refine mo_hCp ?_ | refine mo_hOi ?_ | refine mo_hAl (fun _ => ?_) | refine mo_hWl ?_ | refine mo_gd ?_ | refine mo_sLn (fun _ => ?_) | refine mo_sAt (fun _ => ?_) | refine mo_kLn (fun _ => ?_) | refine mo_kAt (fun _ => ?_))
set_option maxRecDepth 10000 in
theorem mo_C_X9_matches_L83 (l0 : Nat) (ke160 : Option Nat → Int32 → Int32 → Hp → Option (Int32 × Hp)) (hke160 : ∀ (l1 : Option Nat) (l3 : Int32) (l4 : Int32), Mo (ke160 l1 l3 l4)) : ∀ (n : Nat) (l1 : Option Nat) (l3 : Int32) (l4 : Int32), Mo (C_X9_matches_L83 l0 ke160 n l1 l3 l4)
  | 0, _, _, _ => mo_no
  | n + 1, l1, l3, l4 => mo_C_X9_matches_B83 l0 _ ke160 (mo_C_X9_matches_L83 l0 ke160 hke160 n) hke160 l1 l3 l4
set_option maxRecDepth 10000 in
theorem sc_X9_matches_B83 {g : Gm Hp Int32} {kb : Option Nat → Int32 → Int32 → Hp → Option (Int32 × Hp)} {ke160 : Option Nat → Int32 → Int32 → Hp → Option (Int32 × Hp)} (B : Bx g cX9_matches 6 RX9 voI (some .boolean) 1 21 "matches") {l0 : Nat} (hkb : ∀ (l1 : Option Nat) (l3 : Int32) (l4 : Int32), Sm g 6 83 [(0, va_rf (some l0)), (1, va_rf l1), (3, .int l3), (4, .int l4)] [] (kb l1 l3 l4)) (hke160 : ∀ (l1 : Option Nat) (l3 : Int32) (l4 : Int32), Sm g 6 160 [(0, va_rf (some l0)), (1, va_rf l1), (3, .int l3), (4, .int l4)] [] (ke160 l1 l3 l4)) (l1 : Option Nat) (l3 : Int32) (l4 : Int32) : Sm g 6 83 [(0, va_rf (some l0)), (1, va_rf l1), (3, .int l3), (4, .int l4)] [] (C_X9_matches_B83 l0 kb ke160 l1 l3 l4) := by
  unfold C_X9_matches_B83
  refine s_iload_n B.1.1 2 dX9_matches_83 rfl rfl ?_
  refine s_rload_n B.1.1 1 dX9_matches_84 rfl rfl ?_
  refine hp_cvi (As := []) (st := [.int l3]) 9 rfl (by decide) B.1 (fun a => mC_X7_count B.2.1 a ) cc_X7_count cl_X9_23 cn_X7_count ce_X7_count ci_X7 cd_X7_count (by decide) rfl (Nat.le_of_ble_eq_true rfl) dX9_matches_85 (fun r5 => ?_)
  refine s_icmp_ge B.1.1 160 dX9_matches_88 (by decide) ?_ ?_
  · exact Sm.lvs [0, 1, 2, 3] rfl (hke160 l1 l3 l4)
  · refine s_rload_n B.1.1 1 dX9_matches_91 rfl rfl ?_
    refine s_iload_n B.1.1 2 dX9_matches_92 rfl rfl ?_
    refine hp_cvi (As := [.int l3]) (st := []) 9 rfl (by decide) B.1 (fun a => mC_X7_at B.2.1 a l3) cc_X7_at cl_X9_17 cn_X7_at ce_X7_at ci_X7 cd_X7_at (by decide) rfl (Nat.le_of_ble_eq_true rfl) dX9_matches_93 (fun r6 => ?_)
    refine s_bipush (v := (47)) B.1.1 dX9_matches_96 (by decide) ?_
    refine s_icmp_eq B.1.1 160 dX9_matches_98 (by decide) ?_ ?_
    · exact Sm.lvs [0, 1, 2, 3] rfl (hke160 l1 l3 l4)
    · refine s_iinc (v := l3 + 1) (lv' := [(3, .int (l3 + 1)), (0, va_rf (some l0)), (1, va_rf l1), (4, .int l4)]) B.1.1 2 dX9_matches_101 rfl rfl (by decide) rfl ?_
      refine s_goto B.1.1 83 dX9_matches_104 (by decide) ?_
      exact Sm.lvs [1, 2, 0, 3] rfl (hkb l1 (l3 + 1) l4)
set_option maxRecDepth 10000 in
theorem sc_X9_matches_L83 {g : Gm Hp Int32} {ke160 : Option Nat → Int32 → Int32 → Hp → Option (Int32 × Hp)} (B : Bx g cX9_matches 6 RX9 voI (some .boolean) 1 21 "matches") {l0 : Nat} (hke160 : ∀ (l1 : Option Nat) (l3 : Int32) (l4 : Int32), Sm g 6 160 [(0, va_rf (some l0)), (1, va_rf l1), (3, .int l3), (4, .int l4)] [] (ke160 l1 l3 l4)) : ∀ (n : Nat) (l1 : Option Nat) (l3 : Int32) (l4 : Int32), Sm g 6 83 [(0, va_rf (some l0)), (1, va_rf l1), (3, .int l3), (4, .int l4)] [] (C_X9_matches_L83 l0 ke160 n l1 l3 l4)
  | 0, _, _, _ => Sm.fail
  | n + 1, l1, l3, l4 => sc_X9_matches_B83 B (sc_X9_matches_L83 B hke160 n) hke160 l1 l3 l4
def C_X9_matches_B44 (l0 : Nat) (kb : Option Nat → Int32 → Int32 → Hp → Option (Int32 × Hp)) (ke74 : Hp → Option (Int32 × Hp)) (ke123 : Option Nat → Int32 → Int32 → Int32 → Hp → Option (Int32 × Hp)) (ke166 : Option Nat → Int32 → Hp → Option (Int32 × Hp)) (l1 : Option Nat) (l3 : Int32) (l4 : Int32) : Hp → Option (Int32 × Hp) :=
  hgR 11 0 (some l0) fun v7 =>
  hCv 9 v7 (fun a => C_X7_count a) fun r8 =>
  if r8 ≤ l4 then (
    ke166 l1 l3
  ) else (
    hgR 11 0 (some l0) fun v9 =>
    hCv 9 v9 (fun a => C_X7_at a l4) fun r10 =>
    if r10 = (35 : Int32) then (
      ke74
    ) else (
      if r10 = (43 : Int32) then (
        C_X9_matches_L83 l0 (fun l1 l3 l4 => C_X9_matches_J160 l0 kb ke74 ke123 ke166 l1 l3 l4) fu l1 l3 l4
      ) else (
        hCv 9 l1 (fun a => C_X7_at a l3) fun r11 =>
        if r10 = r11 then (
          C_X9_matches_J160 l0 kb ke74 ke123 ke166 l1 (l3 + 1) l4
        ) else (
          ke123 l1 l3 l4 r10
        )
      )
    )
  )
def C_X9_matches_L44 (l0 : Nat) (ke74 : Hp → Option (Int32 × Hp)) (ke123 : Option Nat → Int32 → Int32 → Int32 → Hp → Option (Int32 × Hp)) (ke166 : Option Nat → Int32 → Hp → Option (Int32 × Hp)) : Nat → Option Nat → Int32 → Int32 → Hp → Option (Int32 × Hp)
  | 0, _, _, _ => no
  | n + 1, l1, l3, l4 => C_X9_matches_B44 l0 (fun l1 l3 l4 => C_X9_matches_L44 l0 ke74 ke123 ke166 n l1 l3 l4) ke74 ke123 ke166 l1 l3 l4
set_option maxRecDepth 10000 in
theorem mo_C_X9_matches_B44 (l0 : Nat) (kb : Option Nat → Int32 → Int32 → Hp → Option (Int32 × Hp)) (ke74 : Hp → Option (Int32 × Hp)) (ke123 : Option Nat → Int32 → Int32 → Int32 → Hp → Option (Int32 × Hp)) (ke166 : Option Nat → Int32 → Hp → Option (Int32 × Hp)) (hkb : ∀ (l1 : Option Nat) (l3 : Int32) (l4 : Int32), Mo (kb l1 l3 l4)) (hke74 : Mo (ke74)) (hke123 : ∀ (l1 : Option Nat) (l3 : Int32) (l4 : Int32) (l5 : Int32), Mo (ke123 l1 l3 l4 l5)) (hke166 : ∀ (l1 : Option Nat) (l3 : Int32), Mo (ke166 l1 l3)) (l1 : Option Nat) (l3 : Int32) (l4 : Int32) : Mo (C_X9_matches_B44 l0 kb ke74 ke123 ke166 l1 l3 l4) := by
  unfold C_X9_matches_B44
  repeat' (with_reducible first | assumption | exact mo_rt _ | exact mo_zt _ | exact mo_no | apply mo_C_X7_count | apply mo_C_X7_at | apply mo_C_X9_matches_L83 | apply mo_C_X9_matches_J160 | apply hkb | apply hke74 | apply hke123 | apply hke166 | refine mo_ite ?_ ?_ | refine mo_hgI (fun _ => ?_) | refine mo_hgR (fun _ => ?_) | refine mo_hCv (fun _ => ?_) (fun _ => ?_) | refine mo_lq (fun _ => ?_) | refine mo_hpI ?_ | refine mo_hpR ?_ | refine mo_hAi (fun _ => ?_) | refine mo_hAr (fun _ => ?_) | refine mo_hWi ?_ | refine mo_hWr ?_ | refine mo_hLn (fun _ => ?_) | refine mo_hgL (fun _ => ?_) | refine mo_hpL ?_ | refine mo_hpZ ?_ | refine mo_bd ?_ (fun _ => ?_) | refine mo_hCi (fun _ => ?_) (fun _ => ?_) | refine mo_hNw (fun _ => ?_) | refine mo_hNa (fun _ => ?_) | refine mo_hCp ?_ | refine mo_hOi ?_ | refine mo_hAl (fun _ => ?_) | refine mo_hWl ?_ | refine mo_gd ?_ | refine mo_sLn (fun _ => ?_) | refine mo_sAt (fun _ => ?_) | refine mo_kLn (fun _ => ?_) | refine mo_kAt (fun _ => ?_))
set_option maxRecDepth 10000 in
theorem mo_C_X9_matches_L44 (l0 : Nat) (ke74 : Hp → Option (Int32 × Hp)) (ke123 : Option Nat → Int32 → Int32 → Int32 → Hp → Option (Int32 × Hp)) (ke166 : Option Nat → Int32 → Hp → Option (Int32 × Hp)) (hke74 : Mo (ke74)) (hke123 : ∀ (l1 : Option Nat) (l3 : Int32) (l4 : Int32) (l5 : Int32), Mo (ke123 l1 l3 l4 l5)) (hke166 : ∀ (l1 : Option Nat) (l3 : Int32), Mo (ke166 l1 l3)) : ∀ (n : Nat) (l1 : Option Nat) (l3 : Int32) (l4 : Int32), Mo (C_X9_matches_L44 l0 ke74 ke123 ke166 n l1 l3 l4)
  | 0, _, _, _ => mo_no
  | n + 1, l1, l3, l4 => mo_C_X9_matches_B44 l0 _ ke74 ke123 ke166 (mo_C_X9_matches_L44 l0 ke74 ke123 ke166 hke74 hke123 hke166 n) hke74 hke123 hke166 l1 l3 l4
set_option maxRecDepth 10000 in
theorem sc_X9_matches_B44 {g : Gm Hp Int32} {kb : Option Nat → Int32 → Int32 → Hp → Option (Int32 × Hp)} {ke74 : Hp → Option (Int32 × Hp)} {ke123 : Option Nat → Int32 → Int32 → Int32 → Hp → Option (Int32 × Hp)} {ke166 : Option Nat → Int32 → Hp → Option (Int32 × Hp)} (B : Bx g cX9_matches 6 RX9 voI (some .boolean) 1 21 "matches") {l0 : Nat} (hkb : ∀ (l1 : Option Nat) (l3 : Int32) (l4 : Int32), Sm g 6 44 [(0, va_rf (some l0)), (1, va_rf l1), (3, .int l3), (4, .int l4)] [] (kb l1 l3 l4)) (hke74 : Sm g 6 74 [] [] (ke74)) (hke123 : ∀ (l1 : Option Nat) (l3 : Int32) (l4 : Int32) (l5 : Int32), Sm g 6 123 [(0, va_rf (some l0)), (1, va_rf l1), (3, .int l3), (4, .int l4), (5, .int l5)] [] (ke123 l1 l3 l4 l5)) (hke166 : ∀ (l1 : Option Nat) (l3 : Int32), Sm g 6 166 [(1, va_rf l1), (3, .int l3)] [] (ke166 l1 l3)) (l1 : Option Nat) (l3 : Int32) (l4 : Int32) : Sm g 6 44 [(0, va_rf (some l0)), (1, va_rf l1), (3, .int l3), (4, .int l4)] [] (C_X9_matches_B44 l0 kb ke74 ke123 ke166 l1 l3 l4) := by
  unfold C_X9_matches_B44
  refine s_iload B.1.1 3 dX9_matches_44 rfl ?_
  refine s_rload_n B.1.1 0 dX9_matches_46 rfl rfl ?_
  refine hp_getR B.1 11 0 rfl (by decide) inX9 (by decide) fk_X9_0 cf_X9_7 dX9_matches_47 (fun v7 => ?_)
  refine hp_cvi (As := []) (st := [.int l4]) 9 rfl (by decide) B.1 (fun a => mC_X7_count B.2.1 a ) cc_X7_count cl_X9_23 cn_X7_count ce_X7_count ci_X7 cd_X7_count (by decide) rfl (Nat.le_of_ble_eq_true rfl) dX9_matches_50 (fun r8 => ?_)
  refine s_icmp_ge B.1.1 166 dX9_matches_53 (by decide) ?_ ?_
  · exact Sm.lvs [1, 2] rfl (hke166 l1 l3)
  · refine s_rload_n B.1.1 0 dX9_matches_56 rfl rfl ?_
    refine hp_getR B.1 11 0 rfl (by decide) inX9 (by decide) fk_X9_0 cf_X9_7 dX9_matches_57 (fun v9 => ?_)
    refine s_iload B.1.1 3 dX9_matches_60 rfl ?_
    refine hp_cvi (As := [.int l4]) (st := []) 9 rfl (by decide) B.1 (fun a => mC_X7_at B.2.1 a l4) cc_X7_at cl_X9_17 cn_X7_at ce_X7_at ci_X7 cd_X7_at (by decide) rfl (Nat.le_of_ble_eq_true rfl) dX9_matches_62 (fun r10 => ?_)
    refine s_istore (i := 5) (lv' := [(5, .int r10), (0, va_rf (some l0)), (1, va_rf l1), (3, .int l3), (4, .int l4)]) B.1.1 dX9_matches_65 (by decide) rfl ?_
    refine s_iload B.1.1 0 dX9_matches_67 rfl ?_
    refine s_bipush (v := (35)) B.1.1 dX9_matches_69 (by decide) ?_
    refine s_icmp_ne B.1.1 76 dX9_matches_71 (by decide) ?_ ?_
    · refine s_iload B.1.1 0 dX9_matches_76 rfl ?_
      refine s_bipush (v := (43)) B.1.1 dX9_matches_78 (by decide) ?_
      refine s_icmp_ne B.1.1 107 dX9_matches_80 (by decide) ?_ ?_
      · refine s_iload B.1.1 0 dX9_matches_107 rfl ?_
        refine s_rload_n B.1.1 2 dX9_matches_109 rfl rfl ?_
        refine s_iload_n B.1.1 3 dX9_matches_110 rfl rfl ?_
        refine hp_cvi (As := [.int l3]) (st := [.int r10]) 9 rfl (by decide) B.1 (fun a => mC_X7_at B.2.1 a l3) cc_X7_at cl_X9_17 cn_X7_at ce_X7_at ci_X7 cd_X7_at (by decide) rfl (Nat.le_of_ble_eq_true rfl) dX9_matches_111 (fun r11 => ?_)
        refine s_icmp_ne B.1.1 123 dX9_matches_114 (by decide) ?_ ?_
        · exact Sm.lvs [1, 2, 3, 4, 0] rfl (hke123 l1 l3 l4 r10)
        · refine s_iinc (v := l3 + 1) (lv' := [(3, .int (l3 + 1)), (5, .int r10), (0, va_rf (some l0)), (1, va_rf l1), (4, .int l4)]) B.1.1 3 dX9_matches_117 rfl rfl (by decide) rfl ?_
          refine s_goto B.1.1 160 dX9_matches_120 (by decide) ?_
          exact Sm.lvs [2, 3, 0, 4] rfl (sc_X9_matches_J160 B hkb hke74 hke123 hke166 l1 (l3 + 1) l4)
      · exact Sm.lvs [1, 2, 3, 4] rfl (sc_X9_matches_L83 B (fun l1 l3 l4 => sc_X9_matches_J160 B hkb hke74 hke123 hke166 l1 l3 l4) fu l1 l3 l4)
    · exact Sm.lvs [] rfl (hke74)
set_option maxRecDepth 10000 in
theorem sc_X9_matches_L44 {g : Gm Hp Int32} {ke74 : Hp → Option (Int32 × Hp)} {ke123 : Option Nat → Int32 → Int32 → Int32 → Hp → Option (Int32 × Hp)} {ke166 : Option Nat → Int32 → Hp → Option (Int32 × Hp)} (B : Bx g cX9_matches 6 RX9 voI (some .boolean) 1 21 "matches") {l0 : Nat} (hke74 : Sm g 6 74 [] [] (ke74)) (hke123 : ∀ (l1 : Option Nat) (l3 : Int32) (l4 : Int32) (l5 : Int32), Sm g 6 123 [(0, va_rf (some l0)), (1, va_rf l1), (3, .int l3), (4, .int l4), (5, .int l5)] [] (ke123 l1 l3 l4 l5)) (hke166 : ∀ (l1 : Option Nat) (l3 : Int32), Sm g 6 166 [(1, va_rf l1), (3, .int l3)] [] (ke166 l1 l3)) : ∀ (n : Nat) (l1 : Option Nat) (l3 : Int32) (l4 : Int32), Sm g 6 44 [(0, va_rf (some l0)), (1, va_rf l1), (3, .int l3), (4, .int l4)] [] (C_X9_matches_L44 l0 ke74 ke123 ke166 n l1 l3 l4)
  | 0, _, _, _ => Sm.fail
  | n + 1, l1, l3, l4 => sc_X9_matches_B44 B (sc_X9_matches_L44 B hke74 hke123 hke166 n) hke74 hke123 hke166 l1 l3 l4
def C_X9_matches_J36 (l0 : Nat) (l1 : Option Nat) : Hp → Option (Int32 × Hp) :=
  hgI 11 1 (some l0) fun v12 =>
  C_X9_matches_L44 l0 (C_X9_matches_J74 l0) (fun l1 l3 l4 l5 => C_X9_matches_J123 l0 l1 l3 l4 l5) (fun l1 l3 => C_X9_matches_J166 l0 l1 l3) fu l1 (0 : Int32) v12
set_option maxRecDepth 10000 in
theorem mo_C_X9_matches_J36 (l0 : Nat) (l1 : Option Nat) : Mo (C_X9_matches_J36 l0 l1) := by
  unfold C_X9_matches_J36
  repeat' (with_reducible first | assumption | exact mo_rt _ | exact mo_zt _ | exact mo_no | apply mo_C_X9_matches_L44 | apply mo_C_X9_matches_J74 | apply mo_C_X9_matches_J123 | apply mo_C_X9_matches_J166 | refine mo_ite ?_ ?_ | refine mo_hgI (fun _ => ?_) | refine mo_hgR (fun _ => ?_) | refine mo_hCv (fun _ => ?_) (fun _ => ?_) | refine mo_lq (fun _ => ?_) | refine mo_hpI ?_ | refine mo_hpR ?_ | refine mo_hAi (fun _ => ?_) | refine mo_hAr (fun _ => ?_) | refine mo_hWi ?_ | refine mo_hWr ?_ | refine mo_hLn (fun _ => ?_) | refine mo_hgL (fun _ => ?_) | refine mo_hpL ?_ | refine mo_hpZ ?_ | refine mo_bd ?_ (fun _ => ?_) | refine mo_hCi (fun _ => ?_) (fun _ => ?_) | refine mo_hNw (fun _ => ?_) | refine mo_hNa (fun _ => ?_) | refine mo_hCp ?_ | refine mo_hOi ?_ | refine mo_hAl (fun _ => ?_) | refine mo_hWl ?_ | refine mo_gd ?_ | refine mo_sLn (fun _ => ?_) | refine mo_sAt (fun _ => ?_) | refine mo_kLn (fun _ => ?_) | refine mo_kAt (fun _ => ?_))
set_option maxRecDepth 10000 in
theorem sc_X9_matches_J36 {g : Gm Hp Int32} (B : Bx g cX9_matches 6 RX9 voI (some .boolean) 1 21 "matches") {l0 : Nat} (l1 : Option Nat) : Sm g 6 36 [(0, va_rf (some l0)), (1, va_rf l1)] [] (C_X9_matches_J36 l0 l1) := by
  unfold C_X9_matches_J36
  refine s_iconst (v := 0) B.1.1 dX9_matches_36 (by decide) ?_
  refine s_istore_n (i := 3) (lv' := [(3, .int (0 : Int32)), (0, va_rf (some l0)), (1, va_rf l1)]) B.1.1 dX9_matches_37 rfl (by decide) rfl ?_
  refine s_rload_n B.1.1 1 dX9_matches_38 rfl rfl ?_
  refine hp_getI B.1 11 1 rfl (by decide) inX9 (by decide) fk_X9_1.1 fk_X9_1.2 cf_X9_13 dX9_matches_39 (fun v12 => ?_)
  refine s_istore (i := 4) (lv' := [(4, .int v12), (3, .int (0 : Int32)), (0, va_rf (some l0)), (1, va_rf l1)]) B.1.1 dX9_matches_42 (by decide) rfl ?_
  exact Sm.lvs [2, 3, 1, 0] rfl (sc_X9_matches_L44 B (sc_X9_matches_J74 B) (fun l1 l3 l4 l5 => sc_X9_matches_J123 B l1 l3 l4 l5) (fun l1 l3 => sc_X9_matches_J166 B l1 l3) fu l1 (0 : Int32) v12)
def C_X9_matches (l0 : Nat) (l1 : Option Nat) : Hp → Option (Int32 × Hp) :=
  hgR 11 0 (some l0) fun v13 =>
  hgI 11 1 (some l0) fun v14 =>
  hCv 9 v13 (fun a => C_X7_at a v14) fun r15 =>
  hCv 9 l1 (fun a => C_X7_at a (0 : Int32)) fun r16 =>
  if r16 = (36 : Int32) then (
    if r15 = (43 : Int32) then (
      zt ((0 : Int32))
    ) else (
      if r15 = (35 : Int32) then (
        zt ((0 : Int32))
      ) else (
        C_X9_matches_J36 l0 l1
      )
    )
  ) else (
    C_X9_matches_J36 l0 l1
  )
set_option maxRecDepth 10000 in
theorem mo_C_X9_matches (l0 : Nat) (l1 : Option Nat) : Mo (C_X9_matches l0 l1) := by
  unfold C_X9_matches
  repeat' (with_reducible first | assumption | exact mo_rt _ | exact mo_zt _ | exact mo_no | apply mo_C_X7_at | apply mo_C_X9_matches_J36 | refine mo_ite ?_ ?_ | refine mo_hgI (fun _ => ?_) | refine mo_hgR (fun _ => ?_) | refine mo_hCv (fun _ => ?_) (fun _ => ?_) | refine mo_lq (fun _ => ?_) | refine mo_hpI ?_ | refine mo_hpR ?_ | refine mo_hAi (fun _ => ?_) | refine mo_hAr (fun _ => ?_) | refine mo_hWi ?_ | refine mo_hWr ?_ | refine mo_hLn (fun _ => ?_) | refine mo_hgL (fun _ => ?_) | refine mo_hpL ?_ | refine mo_hpZ ?_ | refine mo_bd ?_ (fun _ => ?_) | refine mo_hCi (fun _ => ?_) (fun _ => ?_) | refine mo_hNw (fun _ => ?_) | refine mo_hNa (fun _ => ?_) | refine mo_hCp ?_ | refine mo_hOi ?_ | refine mo_hAl (fun _ => ?_) | refine mo_hWl ?_ | refine mo_gd ?_ | refine mo_sLn (fun _ => ?_) | refine mo_sAt (fun _ => ?_) | refine mo_kLn (fun _ => ?_) | refine mo_kAt (fun _ => ?_))
set_option maxRecDepth 10000 in
theorem mC_X9_matches {w : Wd} (hw : Wc w) (l0 : Nat) (l1 : Option Nat) : MH w yX9_matches cX9_matches 6 (some .boolean) 1 21 voI [va_rf (some l0), va_rf l1] (C_X9_matches l0 l1) := by
  have M0 : ∀ g : Gm Hp Int32, g.1 = w → Bx g cX9_matches 6 RX9 voI (some .boolean) 1 21 "matches" → Sm g 6 0 (lv_args 0 [va_rf (some l0), va_rf l1]) [] (C_X9_matches l0 l1) := by
    intro g hg B
    subst hg
    unfold C_X9_matches
    refine W_lva (lv := [(0, va_rf (some l0)), (1, va_rf l1)]) (by simp [lv_args, va_rf_cat, cat_i, cat_l, cat_r]) ?_
    refine s_rload_n B.1.1 0 dX9_matches_0 rfl rfl ?_
    refine hp_getR B.1 11 0 rfl (by decide) inX9 (by decide) fk_X9_0 cf_X9_7 dX9_matches_1 (fun v13 => ?_)
    refine s_rload_n B.1.1 0 dX9_matches_4 rfl rfl ?_
    refine hp_getI B.1 11 1 rfl (by decide) inX9 (by decide) fk_X9_1.1 fk_X9_1.2 cf_X9_13 dX9_matches_5 (fun v14 => ?_)
    refine hp_cvi (As := [.int v14]) (st := []) 9 rfl (by decide) B.1 (fun a => mC_X7_at B.2.1 a v14) cc_X7_at cl_X9_17 cn_X7_at ce_X7_at ci_X7 cd_X7_at (by decide) rfl (Nat.le_of_ble_eq_true rfl) dX9_matches_8 (fun r15 => ?_)
    refine s_istore_n (i := 2) (lv' := [(2, .int r15), (0, va_rf (some l0)), (1, va_rf l1)]) B.1.1 dX9_matches_11 rfl (by decide) (by simp [va_rf_cat, cat_i, cat_l, cat_r]) ?_
    refine s_rload_n B.1.1 2 dX9_matches_12 rfl rfl ?_
    refine s_iconst (v := 0) B.1.1 dX9_matches_13 (by decide) ?_
    refine hp_cvi (As := [.int (0 : Int32)]) (st := []) 9 rfl (by decide) B.1 (fun a => mC_X7_at B.2.1 a (0 : Int32)) cc_X7_at cl_X9_17 cn_X7_at ce_X7_at ci_X7 cd_X7_at (by decide) rfl (Nat.le_of_ble_eq_true rfl) dX9_matches_14 (fun r16 => ?_)
    refine s_bipush (v := (36)) B.1.1 dX9_matches_17 (by decide) ?_
    refine s_icmp_ne B.1.1 36 dX9_matches_19 (by decide) ?_ ?_
    · exact Sm.lvs [1, 2] rfl (sc_X9_matches_J36 B l1)
    · refine s_iload_n B.1.1 0 dX9_matches_22 rfl rfl ?_
      refine s_bipush (v := (43)) B.1.1 dX9_matches_23 (by decide) ?_
      refine s_icmp_eq B.1.1 34 dX9_matches_25 (by decide) ?_ ?_
      · refine s_iconst (v := 0) B.1.1 dX9_matches_34 (by decide) ?_
        exact s_zret B.1.1 B.2.2.2.2 dX9_matches_35
      · refine s_iload_n B.1.1 0 dX9_matches_28 rfl rfl ?_
        refine s_bipush (v := (35)) B.1.1 dX9_matches_29 (by decide) ?_
        refine s_icmp_ne B.1.1 36 dX9_matches_31 (by decide) ?_ ?_
        · exact Sm.lvs [1, 2] rfl (sc_X9_matches_J36 B l1)
        · refine s_iconst (v := 0) B.1.1 dX9_matches_34 (by decide) ?_
          exact s_zret B.1.1 B.2.2.2.2 dX9_matches_35
  exact MH.of hw ⟨rfl, rfl⟩ (by decide) (by simp [lg_sl, va_rf_cat, cat_i, cat_l, cat_r]) (mo_C_X9_matches l0 l1) M0
def C_X11_distribute_J162 (l0 : Nat) (l3 : Int32) : Hp → Option (Int32 × Hp) :=
  zt (l3)
set_option maxRecDepth 10000 in
theorem mo_C_X11_distribute_J162 (l0 : Nat) (l3 : Int32) : Mo (C_X11_distribute_J162 l0 l3) := by
  unfold C_X11_distribute_J162
  repeat' (with_reducible first | assumption | exact mo_rt _ | exact mo_zt _ | exact mo_no | refine mo_ite ?_ ?_ | refine mo_hgI (fun _ => ?_) | refine mo_hgR (fun _ => ?_) | refine mo_hCv (fun _ => ?_) (fun _ => ?_) | refine mo_lq (fun _ => ?_) | refine mo_hpI ?_ | refine mo_hpR ?_ | refine mo_hAi (fun _ => ?_) | refine mo_hAr (fun _ => ?_) | refine mo_hWi ?_ | refine mo_hWr ?_ | refine mo_hLn (fun _ => ?_) | refine mo_hgL (fun _ => ?_) | refine mo_hpL ?_ | refine mo_hpZ ?_ | refine mo_bd ?_ (fun _ => ?_) | refine mo_hCi (fun _ => ?_) (fun _ => ?_) | refine mo_hNw (fun _ => ?_) | refine mo_hNa (fun _ => ?_) | refine mo_hCp ?_ | refine mo_hOi ?_ | refine mo_hAl (fun _ => ?_) | refine mo_hWl ?_ | refine mo_gd ?_ | refine mo_sLn (fun _ => ?_) | refine mo_sAt (fun _ => ?_) | refine mo_kLn (fun _ => ?_) | refine mo_kAt (fun _ => ?_))
set_option maxRecDepth 10000 in
theorem sc_X11_distribute_J162 {g : Gm Hp Int32} (B : Bx g cX11_distribute 11 RX11 voI (some .boolean) 3 87 "distribute") {l0 : Nat} (l3 : Int32) : Sm g 11 162 [(3, .int l3)] [] (C_X11_distribute_J162 l0 l3) := by
  unfold C_X11_distribute_J162
  refine s_iload_n B.1.1 0 dX11_distribute_162 rfl rfl ?_
  exact s_zret B.1.1 B.2.2.2.2 dX11_distribute_163
def C_X11_distribute_J156 (l0 : Nat) (kb : Option Nat → Option Nat → Int32 → Int32 → Hp → Option (Int32 × Hp)) (ke162 : Int32 → Hp → Option (Int32 × Hp)) (l1 : Option Nat) (l2 : Option Nat) (l3 : Int32) (l4 : Int32) : Hp → Option (Int32 × Hp) :=
  kb l1 l2 l3 (l4 + 1)
set_option maxRecDepth 10000 in
theorem mo_C_X11_distribute_J156 (l0 : Nat) (kb : Option Nat → Option Nat → Int32 → Int32 → Hp → Option (Int32 × Hp)) (ke162 : Int32 → Hp → Option (Int32 × Hp)) (hkb : ∀ (l1 : Option Nat) (l2 : Option Nat) (l3 : Int32) (l4 : Int32), Mo (kb l1 l2 l3 l4)) (hke162 : ∀ (l3 : Int32), Mo (ke162 l3)) (l1 : Option Nat) (l2 : Option Nat) (l3 : Int32) (l4 : Int32) : Mo (C_X11_distribute_J156 l0 kb ke162 l1 l2 l3 l4) := by
  unfold C_X11_distribute_J156
  repeat' (with_reducible first | assumption | exact mo_rt _ | exact mo_zt _ | exact mo_no | apply hkb | apply hke162 | refine mo_ite ?_ ?_ | refine mo_hgI (fun _ => ?_) | refine mo_hgR (fun _ => ?_) | refine mo_hCv (fun _ => ?_) (fun _ => ?_) | refine mo_lq (fun _ => ?_) | refine mo_hpI ?_ | refine mo_hpR ?_ | refine mo_hAi (fun _ => ?_) | refine mo_hAr (fun _ => ?_) | refine mo_hWi ?_ | refine mo_hWr ?_ | refine mo_hLn (fun _ => ?_) | refine mo_hgL (fun _ => ?_) | refine mo_hpL ?_ | refine mo_hpZ ?_ | refine mo_bd ?_ (fun _ => ?_) | refine mo_hCi (fun _ => ?_) (fun _ => ?_) | refine mo_hNw (fun _ => ?_) | refine mo_hNa (fun _ => ?_) | refine mo_hCp ?_ | refine mo_hOi ?_ | refine mo_hAl (fun _ => ?_) | refine mo_hWl ?_ | refine mo_gd ?_ | refine mo_sLn (fun _ => ?_) | refine mo_sAt (fun _ => ?_) | refine mo_kLn (fun _ => ?_) | refine mo_kAt (fun _ => ?_))
set_option maxRecDepth 10000 in
theorem sc_X11_distribute_J156 {g : Gm Hp Int32} {kb : Option Nat → Option Nat → Int32 → Int32 → Hp → Option (Int32 × Hp)} {ke162 : Int32 → Hp → Option (Int32 × Hp)} (B : Bx g cX11_distribute 11 RX11 voI (some .boolean) 3 87 "distribute") {l0 : Nat} (hkb : ∀ (l1 : Option Nat) (l2 : Option Nat) (l3 : Int32) (l4 : Int32), Sm g 11 15 [(0, va_rf (some l0)), (1, va_rf l1), (2, va_rf l2), (3, .int l3), (4, .int l4)] [] (kb l1 l2 l3 l4)) (hke162 : ∀ (l3 : Int32), Sm g 11 162 [(3, .int l3)] [] (ke162 l3)) (l1 : Option Nat) (l2 : Option Nat) (l3 : Int32) (l4 : Int32) : Sm g 11 156 [(0, va_rf (some l0)), (1, va_rf l1), (2, va_rf l2), (3, .int l3), (4, .int l4)] [] (C_X11_distribute_J156 l0 kb ke162 l1 l2 l3 l4) := by
  unfold C_X11_distribute_J156
  refine s_iinc (v := l4 + 1) (lv' := [(4, .int (l4 + 1)), (0, va_rf (some l0)), (1, va_rf l1), (2, va_rf l2), (3, .int l3)]) B.1.1 4 dX11_distribute_156 rfl rfl (by decide) rfl ?_
  refine s_goto B.1.1 15 dX11_distribute_159 (by decide) ?_
  exact Sm.lvs [1, 2, 3, 4, 0] rfl (hkb l1 l2 l3 (l4 + 1))
def C_X11_distribute_J105 (l0 : Nat) (kb : Option Nat → Option Nat → Int32 → Int32 → Option Nat → Int32 → Hp → Option (Int32 × Hp)) (ke156 : Option Nat → Option Nat → Int32 → Int32 → Hp → Option (Int32 × Hp)) (l1 : Option Nat) (l2 : Option Nat) (l3 : Int32) (l4 : Int32) (l5 : Option Nat) (l6 : Int32) (l8 : Option Nat) (s0 : Int32) : Hp → Option (Int32 × Hp) :=
  if s0 = (-1 : Int32) then (
    kb l1 l2 l3 l4 l5 (l6 + 1)
  ) else (
    hgR 10 3 l8 fun v1 =>
    hAr 6 v1 s0 fun v2 =>
    hCv 13 (some l0) (fun a => C_X11_hand a l8 v2 l1 (0 : Int32)) fun r3 =>
    if r3 = none then (
      kb l1 l2 (1 : Int32) l4 l5 (l6 + 1)
    ) else (
      hCv 13 (some l0) (fun a => C_X11_deliver a l8 r3 (0 : Int32)) fun r4 =>
      kb l1 l2 (1 : Int32) l4 l5 (l6 + 1)
    )
  )
set_option maxRecDepth 10000 in
theorem mo_C_X11_distribute_J105 (l0 : Nat) (kb : Option Nat → Option Nat → Int32 → Int32 → Option Nat → Int32 → Hp → Option (Int32 × Hp)) (ke156 : Option Nat → Option Nat → Int32 → Int32 → Hp → Option (Int32 × Hp)) (hkb : ∀ (l1 : Option Nat) (l2 : Option Nat) (l3 : Int32) (l4 : Int32) (l5 : Option Nat) (l6 : Int32), Mo (kb l1 l2 l3 l4 l5 l6)) (hke156 : ∀ (l1 : Option Nat) (l2 : Option Nat) (l3 : Int32) (l4 : Int32), Mo (ke156 l1 l2 l3 l4)) (l1 : Option Nat) (l2 : Option Nat) (l3 : Int32) (l4 : Int32) (l5 : Option Nat) (l6 : Int32) (l8 : Option Nat) (s0 : Int32) : Mo (C_X11_distribute_J105 l0 kb ke156 l1 l2 l3 l4 l5 l6 l8 s0) := by
  unfold C_X11_distribute_J105
  repeat' (with_reducible first | assumption | exact mo_rt _ | exact mo_zt _ | exact mo_no | apply mo_C_X11_hand | apply mo_C_X11_deliver | apply hkb | apply hke156 | refine mo_ite ?_ ?_ | refine mo_hgI (fun _ => ?_) | refine mo_hgR (fun _ => ?_) | refine mo_hCv (fun _ => ?_) (fun _ => ?_) | refine mo_lq (fun _ => ?_) | refine mo_hpI ?_ | refine mo_hpR ?_ | refine mo_hAi (fun _ => ?_) | refine mo_hAr (fun _ => ?_) | refine mo_hWi ?_ | refine mo_hWr ?_ | refine mo_hLn (fun _ => ?_) | refine mo_hgL (fun _ => ?_) | refine mo_hpL ?_ | refine mo_hpZ ?_ | refine mo_bd ?_ (fun _ => ?_) | refine mo_hCi (fun _ => ?_) (fun _ => ?_) | refine mo_hNw (fun _ => ?_) | refine mo_hNa (fun _ => ?_) | refine mo_hCp ?_ | refine mo_hOi ?_ | refine mo_hAl (fun _ => ?_) | refine mo_hWl ?_ | refine mo_gd ?_ | refine mo_sLn (fun _ => ?_) | refine mo_sAt (fun _ => ?_) | refine mo_kLn (fun _ => ?_) | refine mo_kAt (fun _ => ?_))
set_option maxRecDepth 10000 in
theorem sc_X11_distribute_J105 {g : Gm Hp Int32} {kb : Option Nat → Option Nat → Int32 → Int32 → Option Nat → Int32 → Hp → Option (Int32 × Hp)} {ke156 : Option Nat → Option Nat → Int32 → Int32 → Hp → Option (Int32 × Hp)} (B : Bx g cX11_distribute 11 RX11 voI (some .boolean) 3 87 "distribute") {l0 : Nat} (hkb : ∀ (l1 : Option Nat) (l2 : Option Nat) (l3 : Int32) (l4 : Int32) (l5 : Option Nat) (l6 : Int32), Sm g 11 34 [(0, va_rf (some l0)), (1, va_rf l1), (2, va_rf l2), (3, .int l3), (4, .int l4), (5, va_rf l5), (6, .int l6)] [] (kb l1 l2 l3 l4 l5 l6)) (hke156 : ∀ (l1 : Option Nat) (l2 : Option Nat) (l3 : Int32) (l4 : Int32), Sm g 11 156 [(0, va_rf (some l0)), (1, va_rf l1), (2, va_rf l2), (3, .int l3), (4, .int l4)] [] (ke156 l1 l2 l3 l4)) (l1 : Option Nat) (l2 : Option Nat) (l3 : Int32) (l4 : Int32) (l5 : Option Nat) (l6 : Int32) (l8 : Option Nat) (s0 : Int32) : Sm g 11 105 [(0, va_rf (some l0)), (1, va_rf l1), (2, va_rf l2), (3, .int l3), (4, .int l4), (5, va_rf l5), (6, .int l6), (8, va_rf l8)] [.int s0] (C_X11_distribute_J105 l0 kb ke156 l1 l2 l3 l4 l5 l6 l8 s0) := by
  unfold C_X11_distribute_J105
  refine s_istore (i := 9) (lv' := [(9, .int s0), (0, va_rf (some l0)), (1, va_rf l1), (2, va_rf l2), (3, .int l3), (4, .int l4), (5, va_rf l5), (6, .int l6), (8, va_rf l8)]) B.1.1 dX11_distribute_105 (by decide) (by simp [va_rf_cat, cat_i, cat_l, cat_r]) ?_
  refine s_iload B.1.1 0 dX11_distribute_107 rfl ?_
  refine s_iconst (v := (-1)) B.1.1 dX11_distribute_109 (by decide) ?_
  refine s_icmp_ne B.1.1 116 dX11_distribute_110 (by decide) ?_ ?_
  · refine s_iconst (v := 1) B.1.1 dX11_distribute_116 (by decide) ?_
    refine s_istore_n (i := 3) (lv' := [(3, .int (1 : Int32)), (9, .int s0), (0, va_rf (some l0)), (1, va_rf l1), (2, va_rf l2), (4, .int l4), (5, va_rf l5), (6, .int l6), (8, va_rf l8)]) B.1.1 dX11_distribute_117 rfl (by decide) (by simp [va_rf_cat, cat_i, cat_l, cat_r]) ?_
    refine s_rload_n B.1.1 2 dX11_distribute_118 rfl rfl ?_
    refine s_rload B.1.1 8 dX11_distribute_119 rfl ?_
    refine s_rload B.1.1 8 dX11_distribute_121 rfl ?_
    refine hp_getR B.1 10 3 rfl (by decide) inX8 (by decide) fk_X8_3 cf_X11_261 dX11_distribute_123 (fun v1 => ?_)
    refine s_iload B.1.1 1 dX11_distribute_126 rfl ?_
    refine hp_Ar B.1 6 (by decide) (fun _ => rfl) dX11_distribute_128 (fun v2 => ?_)
    refine s_rload_n B.1.1 3 dX11_distribute_129 rfl rfl ?_
    refine s_iconst (v := 0) B.1.1 dX11_distribute_130 (by decide) ?_
    refine hp_cvr (As := [va_rf l8, va_rf v2, va_rf l1, .int (0 : Int32)]) (st := []) 13 rfl (by decide) B.1 (fun a => mC_X11_hand B.2.1 a l8 v2 l1 (0 : Int32)) cc_X11_hand cl_X11_516 cn_X11_hand ce_X11_hand ci_X11 cd_X11_hand (by decide) rfl (Nat.le_of_ble_eq_true rfl) dX11_distribute_131 (fun r3 => ?_)
    refine s_rstore (i := 10) (lv' := [(10, va_rf r3), (3, .int (1 : Int32)), (9, .int s0), (0, va_rf (some l0)), (1, va_rf l1), (2, va_rf l2), (4, .int l4), (5, va_rf l5), (6, .int l6), (8, va_rf l8)]) B.1.1 dX11_distribute_134 (by decide) rfl ?_
    refine s_rload B.1.1 0 dX11_distribute_136 rfl ?_
    refine s_ifnull B.1.1 150 dX11_distribute_138 (by decide) ?_ ?_
    · refine s_iinc (v := l6 + 1) (lv' := [(6, .int (l6 + 1)), (10, va_rf r3), (3, .int (1 : Int32)), (9, .int s0), (0, va_rf (some l0)), (1, va_rf l1), (2, va_rf l2), (4, .int l4), (5, va_rf l5), (8, va_rf l8)]) B.1.1 8 dX11_distribute_150 rfl rfl (by decide) (by simp [va_rf_cat, cat_i, cat_l, cat_r]) ?_
      refine s_goto B.1.1 34 dX11_distribute_153 (by decide) ?_
      exact Sm.lvs [4, 5, 6, 2, 7, 8, 0] rfl (hkb l1 l2 (1 : Int32) l4 l5 (l6 + 1))
    · refine s_rload_n B.1.1 3 dX11_distribute_141 rfl rfl ?_
      refine s_rload B.1.1 9 dX11_distribute_142 rfl ?_
      refine s_rload B.1.1 0 dX11_distribute_144 rfl ?_
      refine s_iconst (v := 0) B.1.1 dX11_distribute_146 (by decide) ?_
      refine hp_cvv (As := [va_rf l8, va_rf r3, .int (0 : Int32)]) (st := []) 13 rfl (by decide) B.1 (fun a => mC_X11_deliver B.2.1 a l8 r3 (0 : Int32)) cc_X11_deliver cl_X11_447 cn_X11_deliver ce_X11_deliver ci_X11 cd_X11_deliver (by decide) rfl (Nat.le_of_ble_eq_true rfl) dX11_distribute_147 (fun r4 => ?_)
      refine s_iinc (v := l6 + 1) (lv' := [(6, .int (l6 + 1)), (10, va_rf r3), (3, .int (1 : Int32)), (9, .int s0), (0, va_rf (some l0)), (1, va_rf l1), (2, va_rf l2), (4, .int l4), (5, va_rf l5), (8, va_rf l8)]) B.1.1 8 dX11_distribute_150 rfl rfl (by decide) (by simp [va_rf_cat, cat_i, cat_l, cat_r]) ?_
      refine s_goto B.1.1 34 dX11_distribute_153 (by decide) ?_
      exact Sm.lvs [4, 5, 6, 2, 7, 8, 0] rfl (hkb l1 l2 (1 : Int32) l4 l5 (l6 + 1))
  · refine s_goto B.1.1 150 dX11_distribute_113 (by decide) ?_
    refine s_iinc (v := l6 + 1) (lv' := [(6, .int (l6 + 1)), (9, .int s0), (0, va_rf (some l0)), (1, va_rf l1), (2, va_rf l2), (3, .int l3), (4, .int l4), (5, va_rf l5), (8, va_rf l8)]) B.1.1 7 dX11_distribute_150 rfl rfl (by decide) (by simp [va_rf_cat, cat_i, cat_l, cat_r]) ?_
    refine s_goto B.1.1 34 dX11_distribute_153 (by decide) ?_
    exact Sm.lvs [2, 3, 4, 5, 6, 7, 0] rfl (hkb l1 l2 l3 l4 l5 (l6 + 1))
def C_X11_distribute_J84 (l0 : Nat) (kb : Option Nat → Option Nat → Int32 → Int32 → Option Nat → Int32 → Hp → Option (Int32 × Hp)) (ke156 : Option Nat → Option Nat → Int32 → Int32 → Hp → Option (Int32 × Hp)) (l1 : Option Nat) (l2 : Option Nat) (l3 : Int32) (l4 : Int32) (l5 : Option Nat) (l6 : Int32) (l7 : Option Nat) (s0 : Option Nat) : Hp → Option (Int32 × Hp) :=
  if s0 = none then (
    C_X11_distribute_J105 l0 kb ke156 l1 l2 l3 l4 l5 l6 s0 (-1 : Int32)
  ) else (
    hgR 11 0 l7 fun v5 =>
    hCv 10 s0 (fun a => C_X8_indexOf a v5) fun r6 =>
    C_X11_distribute_J105 l0 kb ke156 l1 l2 l3 l4 l5 l6 s0 r6
  )
set_option maxRecDepth 10000 in
theorem mo_C_X11_distribute_J84 (l0 : Nat) (kb : Option Nat → Option Nat → Int32 → Int32 → Option Nat → Int32 → Hp → Option (Int32 × Hp)) (ke156 : Option Nat → Option Nat → Int32 → Int32 → Hp → Option (Int32 × Hp)) (hkb : ∀ (l1 : Option Nat) (l2 : Option Nat) (l3 : Int32) (l4 : Int32) (l5 : Option Nat) (l6 : Int32), Mo (kb l1 l2 l3 l4 l5 l6)) (hke156 : ∀ (l1 : Option Nat) (l2 : Option Nat) (l3 : Int32) (l4 : Int32), Mo (ke156 l1 l2 l3 l4)) (l1 : Option Nat) (l2 : Option Nat) (l3 : Int32) (l4 : Int32) (l5 : Option Nat) (l6 : Int32) (l7 : Option Nat) (s0 : Option Nat) : Mo (C_X11_distribute_J84 l0 kb ke156 l1 l2 l3 l4 l5 l6 l7 s0) := by
  unfold C_X11_distribute_J84
  repeat' (with_reducible first | assumption | exact mo_rt _ | exact mo_zt _ | exact mo_no | apply mo_C_X11_distribute_J105 | apply mo_C_X8_indexOf | apply hkb | apply hke156 | refine mo_ite ?_ ?_ | refine mo_hgI (fun _ => ?_) | refine mo_hgR (fun _ => ?_) | refine mo_hCv (fun _ => ?_) (fun _ => ?_) | refine mo_lq (fun _ => ?_) | refine mo_hpI ?_ | refine mo_hpR ?_ | refine mo_hAi (fun _ => ?_) | refine mo_hAr (fun _ => ?_) | refine mo_hWi ?_ | refine mo_hWr ?_ | refine mo_hLn (fun _ => ?_) | refine mo_hgL (fun _ => ?_) | refine mo_hpL ?_ | refine mo_hpZ ?_ | refine mo_bd ?_ (fun _ => ?_) | refine mo_hCi (fun _ => ?_) (fun _ => ?_) | refine mo_hNw (fun _ => ?_) | refine mo_hNa (fun _ => ?_) | refine mo_hCp ?_ | refine mo_hOi ?_ | refine mo_hAl (fun _ => ?_) | refine mo_hWl ?_ | refine mo_gd ?_ | refine mo_sLn (fun _ => ?_) | refine mo_sAt (fun _ => ?_) | refine mo_kLn (fun _ => ?_) | refine mo_kAt (fun _ => ?_))
set_option maxRecDepth 10000 in
theorem sc_X11_distribute_J84 {g : Gm Hp Int32} {kb : Option Nat → Option Nat → Int32 → Int32 → Option Nat → Int32 → Hp → Option (Int32 × Hp)} {ke156 : Option Nat → Option Nat → Int32 → Int32 → Hp → Option (Int32 × Hp)} (B : Bx g cX11_distribute 11 RX11 voI (some .boolean) 3 87 "distribute") {l0 : Nat} (hkb : ∀ (l1 : Option Nat) (l2 : Option Nat) (l3 : Int32) (l4 : Int32) (l5 : Option Nat) (l6 : Int32), Sm g 11 34 [(0, va_rf (some l0)), (1, va_rf l1), (2, va_rf l2), (3, .int l3), (4, .int l4), (5, va_rf l5), (6, .int l6)] [] (kb l1 l2 l3 l4 l5 l6)) (hke156 : ∀ (l1 : Option Nat) (l2 : Option Nat) (l3 : Int32) (l4 : Int32), Sm g 11 156 [(0, va_rf (some l0)), (1, va_rf l1), (2, va_rf l2), (3, .int l3), (4, .int l4)] [] (ke156 l1 l2 l3 l4)) (l1 : Option Nat) (l2 : Option Nat) (l3 : Int32) (l4 : Int32) (l5 : Option Nat) (l6 : Int32) (l7 : Option Nat) (s0 : Option Nat) : Sm g 11 84 [(0, va_rf (some l0)), (1, va_rf l1), (2, va_rf l2), (3, .int l3), (4, .int l4), (5, va_rf l5), (6, .int l6), (7, va_rf l7)] [va_rf s0] (C_X11_distribute_J84 l0 kb ke156 l1 l2 l3 l4 l5 l6 l7 s0) := by
  unfold C_X11_distribute_J84
  refine s_rstore (i := 8) (lv' := [(8, va_rf s0), (0, va_rf (some l0)), (1, va_rf l1), (2, va_rf l2), (3, .int l3), (4, .int l4), (5, va_rf l5), (6, .int l6), (7, va_rf l7)]) B.1.1 dX11_distribute_84 (by decide) (by simp [va_rf_cat, cat_i, cat_l, cat_r]) ?_
  refine s_rload B.1.1 0 dX11_distribute_86 rfl ?_
  refine s_ifnonnull B.1.1 95 dX11_distribute_88 (by decide) ?_ ?_
  · refine s_rload B.1.1 0 dX11_distribute_95 rfl ?_
    refine s_rload B.1.1 8 dX11_distribute_97 rfl ?_
    refine hp_getR B.1 11 0 rfl (by decide) inX9 (by decide) fk_X9_0 cf_X11_209 dX11_distribute_99 (fun v5 => ?_)
    refine hp_cvi (As := [va_rf v5]) (st := []) 10 rfl (by decide) B.1 (fun a => mC_X8_indexOf B.2.1 a v5) cc_X8_indexOf cl_X11_512 cn_X8_indexOf ce_X8_indexOf ci_X8 cd_X8_indexOf (by decide) rfl (Nat.le_of_ble_eq_true rfl) dX11_distribute_102 (fun r6 => ?_)
    exact Sm.lvs [1, 2, 3, 4, 5, 6, 7, 0] rfl (sc_X11_distribute_J105 B hkb hke156 l1 l2 l3 l4 l5 l6 s0 r6)
  · refine s_iconst (v := (-1)) B.1.1 dX11_distribute_91 (by decide) ?_
    refine s_goto B.1.1 105 dX11_distribute_92 (by decide) ?_
    exact Sm.lvs [1, 2, 3, 4, 5, 6, 7, 0] rfl (sc_X11_distribute_J105 B hkb hke156 l1 l2 l3 l4 l5 l6 s0 (-1 : Int32))
def C_X11_distribute_B34 (l0 : Nat) (kb : Option Nat → Option Nat → Int32 → Int32 → Option Nat → Int32 → Hp → Option (Int32 × Hp)) (ke156 : Option Nat → Option Nat → Int32 → Int32 → Hp → Option (Int32 × Hp)) (l1 : Option Nat) (l2 : Option Nat) (l3 : Int32) (l4 : Int32) (l5 : Option Nat) (l6 : Int32) : Hp → Option (Int32 × Hp) :=
  if l5 = none then (
    ke156 l1 l2 l3 l4
  ) else (
    hgI 10 4 l5 fun v7 =>
    if v7 ≤ l6 then (
      ke156 l1 l2 l3 l4
    ) else (
      hgR 10 3 l5 fun v8 =>
      hAr 6 v8 l6 fun v9 =>
      hgR 5 0 l1 fun v10 =>
      hCv 11 v9 (fun a => C_X9_matches a v10) fun r11 =>
      if r11 = 0 then (
        C_X11_distribute_J84 l0 kb ke156 l1 l2 l3 l4 l5 l6 v9 none
      ) else (
        hCv 13 (some l0) (fun a => C_X11_receiver a l5 v9 l2) fun r12 =>
        C_X11_distribute_J84 l0 kb ke156 l1 l2 l3 l4 l5 l6 v9 r12
      )
    )
  )
def C_X11_distribute_L34 (l0 : Nat) (ke156 : Option Nat → Option Nat → Int32 → Int32 → Hp → Option (Int32 × Hp)) : Nat → Option Nat → Option Nat → Int32 → Int32 → Option Nat → Int32 → Hp → Option (Int32 × Hp)
  | 0, _, _, _, _, _, _ => no
  | n + 1, l1, l2, l3, l4, l5, l6 => C_X11_distribute_B34 l0 (fun l1 l2 l3 l4 l5 l6 => C_X11_distribute_L34 l0 ke156 n l1 l2 l3 l4 l5 l6) ke156 l1 l2 l3 l4 l5 l6
set_option maxRecDepth 10000 in
theorem mo_C_X11_distribute_B34 (l0 : Nat) (kb : Option Nat → Option Nat → Int32 → Int32 → Option Nat → Int32 → Hp → Option (Int32 × Hp)) (ke156 : Option Nat → Option Nat → Int32 → Int32 → Hp → Option (Int32 × Hp)) (hkb : ∀ (l1 : Option Nat) (l2 : Option Nat) (l3 : Int32) (l4 : Int32) (l5 : Option Nat) (l6 : Int32), Mo (kb l1 l2 l3 l4 l5 l6)) (hke156 : ∀ (l1 : Option Nat) (l2 : Option Nat) (l3 : Int32) (l4 : Int32), Mo (ke156 l1 l2 l3 l4)) (l1 : Option Nat) (l2 : Option Nat) (l3 : Int32) (l4 : Int32) (l5 : Option Nat) (l6 : Int32) : Mo (C_X11_distribute_B34 l0 kb ke156 l1 l2 l3 l4 l5 l6) := by
  unfold C_X11_distribute_B34
  repeat' (with_reducible first | assumption | exact mo_rt _ | exact mo_zt _ | exact mo_no | apply mo_C_X9_matches | apply mo_C_X11_distribute_J84 | apply mo_C_X11_receiver | apply hkb | apply hke156 | refine mo_ite ?_ ?_ | refine mo_hgI (fun _ => ?_) | refine mo_hgR (fun _ => ?_) | refine mo_hCv (fun _ => ?_) (fun _ => ?_) | refine mo_lq (fun _ => ?_) | refine mo_hpI ?_ | refine mo_hpR ?_ | refine mo_hAi (fun _ => ?_) | refine mo_hAr (fun _ => ?_) | refine mo_hWi ?_ | refine mo_hWr ?_ | refine mo_hLn (fun _ => ?_) | refine mo_hgL (fun _ => ?_) | refine mo_hpL ?_ | refine mo_hpZ ?_ | refine mo_bd ?_ (fun _ => ?_) | refine mo_hCi (fun _ => ?_) (fun _ => ?_) | refine mo_hNw (fun _ => ?_) | refine mo_hNa (fun _ => ?_) | refine mo_hCp ?_ | refine mo_hOi ?_ | refine mo_hAl (fun _ => ?_) | refine mo_hWl ?_ | refine mo_gd ?_ | refine mo_sLn (fun _ => ?_) | refine mo_sAt (fun _ => ?_) | refine mo_kLn (fun _ => ?_) | refine mo_kAt (fun _ => ?_))
set_option maxRecDepth 10000 in
theorem mo_C_X11_distribute_L34 (l0 : Nat) (ke156 : Option Nat → Option Nat → Int32 → Int32 → Hp → Option (Int32 × Hp)) (hke156 : ∀ (l1 : Option Nat) (l2 : Option Nat) (l3 : Int32) (l4 : Int32), Mo (ke156 l1 l2 l3 l4)) : ∀ (n : Nat) (l1 : Option Nat) (l2 : Option Nat) (l3 : Int32) (l4 : Int32) (l5 : Option Nat) (l6 : Int32), Mo (C_X11_distribute_L34 l0 ke156 n l1 l2 l3 l4 l5 l6)
  | 0, _, _, _, _, _, _ => mo_no
  | n + 1, l1, l2, l3, l4, l5, l6 => mo_C_X11_distribute_B34 l0 _ ke156 (mo_C_X11_distribute_L34 l0 ke156 hke156 n) hke156 l1 l2 l3 l4 l5 l6
set_option maxRecDepth 10000 in
theorem sc_X11_distribute_B34 {g : Gm Hp Int32} {kb : Option Nat → Option Nat → Int32 → Int32 → Option Nat → Int32 → Hp → Option (Int32 × Hp)} {ke156 : Option Nat → Option Nat → Int32 → Int32 → Hp → Option (Int32 × Hp)} (B : Bx g cX11_distribute 11 RX11 voI (some .boolean) 3 87 "distribute") {l0 : Nat} (hkb : ∀ (l1 : Option Nat) (l2 : Option Nat) (l3 : Int32) (l4 : Int32) (l5 : Option Nat) (l6 : Int32), Sm g 11 34 [(0, va_rf (some l0)), (1, va_rf l1), (2, va_rf l2), (3, .int l3), (4, .int l4), (5, va_rf l5), (6, .int l6)] [] (kb l1 l2 l3 l4 l5 l6)) (hke156 : ∀ (l1 : Option Nat) (l2 : Option Nat) (l3 : Int32) (l4 : Int32), Sm g 11 156 [(0, va_rf (some l0)), (1, va_rf l1), (2, va_rf l2), (3, .int l3), (4, .int l4)] [] (ke156 l1 l2 l3 l4)) (l1 : Option Nat) (l2 : Option Nat) (l3 : Int32) (l4 : Int32) (l5 : Option Nat) (l6 : Int32) : Sm g 11 34 [(0, va_rf (some l0)), (1, va_rf l1), (2, va_rf l2), (3, .int l3), (4, .int l4), (5, va_rf l5), (6, .int l6)] [] (C_X11_distribute_B34 l0 kb ke156 l1 l2 l3 l4 l5 l6) := by
  unfold C_X11_distribute_B34
  refine s_rload B.1.1 5 dX11_distribute_34 rfl ?_
  refine s_ifnull B.1.1 156 dX11_distribute_36 (by decide) ?_ ?_
  · exact Sm.lvs [0, 1, 2, 3, 4] rfl (hke156 l1 l2 l3 l4)
  · refine s_iload B.1.1 6 dX11_distribute_39 rfl ?_
    refine s_rload B.1.1 5 dX11_distribute_41 rfl ?_
    refine hp_getI B.1 10 4 rfl (by decide) inX8 (by decide) fk_X8_4.1 fk_X8_4.2 cf_X11_158 dX11_distribute_43 (fun v7 => ?_)
    refine s_icmp_ge B.1.1 156 dX11_distribute_46 (by decide) ?_ ?_
    · exact Sm.lvs [0, 1, 2, 3, 4] rfl (hke156 l1 l2 l3 l4)
    · refine s_rload B.1.1 5 dX11_distribute_49 rfl ?_
      refine hp_getR B.1 10 3 rfl (by decide) inX8 (by decide) fk_X8_3 cf_X11_261 dX11_distribute_51 (fun v8 => ?_)
      refine s_iload B.1.1 6 dX11_distribute_54 rfl ?_
      refine hp_Ar B.1 6 (by decide) (fun _ => rfl) dX11_distribute_56 (fun v9 => ?_)
      refine s_rstore (i := 7) (lv' := [(7, va_rf v9), (0, va_rf (some l0)), (1, va_rf l1), (2, va_rf l2), (3, .int l3), (4, .int l4), (5, va_rf l5), (6, .int l6)]) B.1.1 dX11_distribute_57 (by decide) rfl ?_
      refine s_rload B.1.1 0 dX11_distribute_59 rfl ?_
      refine s_rload_n B.1.1 2 dX11_distribute_61 rfl rfl ?_
      refine hp_getR B.1 5 0 rfl (by decide) inX3 (by decide) fk_X3_0 cf_X11_219 dX11_distribute_62 (fun v10 => ?_)
      refine hp_cvi (As := [va_rf v10]) (st := []) 11 rfl (by decide) B.1 (fun a => mC_X9_matches B.2.1 a v10) cc_X9_matches cl_X11_505 cn_X9_matches ce_X9_matches ci_X9 cd_X9_matches (by decide) rfl (Nat.le_of_ble_eq_true rfl) dX11_distribute_65 (fun r11 => ?_)
      refine s_if_eq B.1.1 83 dX11_distribute_68 (by decide) ?_ ?_
      · refine s_null B.1.1 dX11_distribute_83 ?_
        exact Sm.lvs [1, 2, 3, 4, 5, 6, 7, 0] rfl (sc_X11_distribute_J84 B hkb hke156 l1 l2 l3 l4 l5 l6 v9 none)
      · refine s_rload_n B.1.1 1 dX11_distribute_71 rfl rfl ?_
        refine s_rload B.1.1 6 dX11_distribute_72 rfl ?_
        refine s_rload B.1.1 0 dX11_distribute_74 rfl ?_
        refine s_rload_n B.1.1 3 dX11_distribute_76 rfl rfl ?_
        refine hp_cvr (As := [va_rf l5, va_rf v9, va_rf l2]) (st := []) 13 rfl (by decide) B.1 (fun a => mC_X11_receiver B.2.1 a l5 v9 l2) cc_X11_receiver cl_X11_508 cn_X11_receiver ce_X11_receiver ci_X11 cd_X11_receiver (by decide) rfl (Nat.le_of_ble_eq_true rfl) dX11_distribute_77 (fun r12 => ?_)
        refine s_goto B.1.1 84 dX11_distribute_80 (by decide) ?_
        exact Sm.lvs [1, 2, 3, 4, 5, 6, 7, 0] rfl (sc_X11_distribute_J84 B hkb hke156 l1 l2 l3 l4 l5 l6 v9 r12)
set_option maxRecDepth 10000 in
theorem sc_X11_distribute_L34 {g : Gm Hp Int32} {ke156 : Option Nat → Option Nat → Int32 → Int32 → Hp → Option (Int32 × Hp)} (B : Bx g cX11_distribute 11 RX11 voI (some .boolean) 3 87 "distribute") {l0 : Nat} (hke156 : ∀ (l1 : Option Nat) (l2 : Option Nat) (l3 : Int32) (l4 : Int32), Sm g 11 156 [(0, va_rf (some l0)), (1, va_rf l1), (2, va_rf l2), (3, .int l3), (4, .int l4)] [] (ke156 l1 l2 l3 l4)) : ∀ (n : Nat) (l1 : Option Nat) (l2 : Option Nat) (l3 : Int32) (l4 : Int32) (l5 : Option Nat) (l6 : Int32), Sm g 11 34 [(0, va_rf (some l0)), (1, va_rf l1), (2, va_rf l2), (3, .int l3), (4, .int l4), (5, va_rf l5), (6, .int l6)] [] (C_X11_distribute_L34 l0 ke156 n l1 l2 l3 l4 l5 l6)
  | 0, _, _, _, _, _, _ => Sm.fail
  | n + 1, l1, l2, l3, l4, l5, l6 => sc_X11_distribute_B34 B (sc_X11_distribute_L34 B hke156 n) hke156 l1 l2 l3 l4 l5 l6
def C_X11_distribute_B15 (l0 : Nat) (kb : Option Nat → Option Nat → Int32 → Int32 → Hp → Option (Int32 × Hp)) (ke162 : Int32 → Hp → Option (Int32 × Hp)) (l1 : Option Nat) (l2 : Option Nat) (l3 : Int32) (l4 : Int32) : Hp → Option (Int32 × Hp) :=
  if (12 : Int32) ≤ l4 then (
    ke162 l3
  ) else (
    hgR 13 1 (some l0) fun v13 =>
    hAr 5 v13 l4 fun v14 =>
    C_X11_distribute_L34 l0 (fun l1 l2 l3 l4 => C_X11_distribute_J156 l0 kb ke162 l1 l2 l3 l4) fu l1 l2 l3 l4 v14 (0 : Int32)
  )
def C_X11_distribute_L15 (l0 : Nat) (ke162 : Int32 → Hp → Option (Int32 × Hp)) : Nat → Option Nat → Option Nat → Int32 → Int32 → Hp → Option (Int32 × Hp)
  | 0, _, _, _, _ => no
  | n + 1, l1, l2, l3, l4 => C_X11_distribute_B15 l0 (fun l1 l2 l3 l4 => C_X11_distribute_L15 l0 ke162 n l1 l2 l3 l4) ke162 l1 l2 l3 l4
set_option maxRecDepth 10000 in
theorem mo_C_X11_distribute_B15 (l0 : Nat) (kb : Option Nat → Option Nat → Int32 → Int32 → Hp → Option (Int32 × Hp)) (ke162 : Int32 → Hp → Option (Int32 × Hp)) (hkb : ∀ (l1 : Option Nat) (l2 : Option Nat) (l3 : Int32) (l4 : Int32), Mo (kb l1 l2 l3 l4)) (hke162 : ∀ (l3 : Int32), Mo (ke162 l3)) (l1 : Option Nat) (l2 : Option Nat) (l3 : Int32) (l4 : Int32) : Mo (C_X11_distribute_B15 l0 kb ke162 l1 l2 l3 l4) := by
  unfold C_X11_distribute_B15
  repeat' (with_reducible first | assumption | exact mo_rt _ | exact mo_zt _ | exact mo_no | apply mo_C_X11_distribute_L34 | apply mo_C_X11_distribute_J156 | apply hkb | apply hke162 | refine mo_ite ?_ ?_ | refine mo_hgI (fun _ => ?_) | refine mo_hgR (fun _ => ?_) | refine mo_hCv (fun _ => ?_) (fun _ => ?_) | refine mo_lq (fun _ => ?_) | refine mo_hpI ?_ | refine mo_hpR ?_ | refine mo_hAi (fun _ => ?_) | refine mo_hAr (fun _ => ?_) | refine mo_hWi ?_ | refine mo_hWr ?_ | refine mo_hLn (fun _ => ?_) | refine mo_hgL (fun _ => ?_) | refine mo_hpL ?_ | refine mo_hpZ ?_ | refine mo_bd ?_ (fun _ => ?_) | refine mo_hCi (fun _ => ?_) (fun _ => ?_) | refine mo_hNw (fun _ => ?_) | refine mo_hNa (fun _ => ?_) | refine mo_hCp ?_ | refine mo_hOi ?_ | refine mo_hAl (fun _ => ?_) | refine mo_hWl ?_ | refine mo_gd ?_ | refine mo_sLn (fun _ => ?_) | refine mo_sAt (fun _ => ?_) | refine mo_kLn (fun _ => ?_) | refine mo_kAt (fun _ => ?_))
set_option maxRecDepth 10000 in
theorem mo_C_X11_distribute_L15 (l0 : Nat) (ke162 : Int32 → Hp → Option (Int32 × Hp)) (hke162 : ∀ (l3 : Int32), Mo (ke162 l3)) : ∀ (n : Nat) (l1 : Option Nat) (l2 : Option Nat) (l3 : Int32) (l4 : Int32), Mo (C_X11_distribute_L15 l0 ke162 n l1 l2 l3 l4)
  | 0, _, _, _, _ => mo_no
  | n + 1, l1, l2, l3, l4 => mo_C_X11_distribute_B15 l0 _ ke162 (mo_C_X11_distribute_L15 l0 ke162 hke162 n) hke162 l1 l2 l3 l4
set_option maxRecDepth 10000 in
theorem sc_X11_distribute_B15 {g : Gm Hp Int32} {kb : Option Nat → Option Nat → Int32 → Int32 → Hp → Option (Int32 × Hp)} {ke162 : Int32 → Hp → Option (Int32 × Hp)} (B : Bx g cX11_distribute 11 RX11 voI (some .boolean) 3 87 "distribute") {l0 : Nat} (hkb : ∀ (l1 : Option Nat) (l2 : Option Nat) (l3 : Int32) (l4 : Int32), Sm g 11 15 [(0, va_rf (some l0)), (1, va_rf l1), (2, va_rf l2), (3, .int l3), (4, .int l4)] [] (kb l1 l2 l3 l4)) (hke162 : ∀ (l3 : Int32), Sm g 11 162 [(3, .int l3)] [] (ke162 l3)) (l1 : Option Nat) (l2 : Option Nat) (l3 : Int32) (l4 : Int32) : Sm g 11 15 [(0, va_rf (some l0)), (1, va_rf l1), (2, va_rf l2), (3, .int l3), (4, .int l4)] [] (C_X11_distribute_B15 l0 kb ke162 l1 l2 l3 l4) := by
  unfold C_X11_distribute_B15
  refine s_iload B.1.1 4 dX11_distribute_15 rfl ?_
  refine s_bipush (v := (12)) B.1.1 dX11_distribute_17 (by decide) ?_
  refine s_icmp_ge B.1.1 162 dX11_distribute_19 (by decide) ?_ ?_
  · exact Sm.lvs [3] rfl (hke162 l3)
  · refine s_rload_n B.1.1 0 dX11_distribute_22 rfl rfl ?_
    refine hp_getR B.1 13 1 rfl (by decide) inX11 (by decide) fk_X11_1 cf_X11_20 dX11_distribute_23 (fun v13 => ?_)
    refine s_iload B.1.1 4 dX11_distribute_26 rfl ?_
    refine hp_Ar B.1 5 (by decide) (fun _ => rfl) dX11_distribute_28 (fun v14 => ?_)
    refine s_rstore (i := 5) (lv' := [(5, va_rf v14), (0, va_rf (some l0)), (1, va_rf l1), (2, va_rf l2), (3, .int l3), (4, .int l4)]) B.1.1 dX11_distribute_29 (by decide) rfl ?_
    refine s_iconst (v := 0) B.1.1 dX11_distribute_31 (by decide) ?_
    refine s_istore (i := 6) (lv' := [(6, .int (0 : Int32)), (5, va_rf v14), (0, va_rf (some l0)), (1, va_rf l1), (2, va_rf l2), (3, .int l3), (4, .int l4)]) B.1.1 dX11_distribute_32 (by decide) (by simp [va_rf_cat, cat_i, cat_l, cat_r]) ?_
    exact Sm.lvs [2, 3, 4, 5, 6, 1, 0] rfl (sc_X11_distribute_L34 B (fun l1 l2 l3 l4 => sc_X11_distribute_J156 B hkb hke162 l1 l2 l3 l4) fu l1 l2 l3 l4 v14 (0 : Int32))
set_option maxRecDepth 10000 in
theorem sc_X11_distribute_L15 {g : Gm Hp Int32} {ke162 : Int32 → Hp → Option (Int32 × Hp)} (B : Bx g cX11_distribute 11 RX11 voI (some .boolean) 3 87 "distribute") {l0 : Nat} (hke162 : ∀ (l3 : Int32), Sm g 11 162 [(3, .int l3)] [] (ke162 l3)) : ∀ (n : Nat) (l1 : Option Nat) (l2 : Option Nat) (l3 : Int32) (l4 : Int32), Sm g 11 15 [(0, va_rf (some l0)), (1, va_rf l1), (2, va_rf l2), (3, .int l3), (4, .int l4)] [] (C_X11_distribute_L15 l0 ke162 n l1 l2 l3 l4)
  | 0, _, _, _, _ => Sm.fail
  | n + 1, l1, l2, l3, l4 => sc_X11_distribute_B15 B (sc_X11_distribute_L15 B hke162 n) hke162 l1 l2 l3 l4
def C_X11_distribute (l0 : Nat) (l1 : Option Nat) (l2 : Option Nat) : Hp → Option (Int32 × Hp) :=
  hgI 13 11 (some l0) fun v15 =>
  hpI 13 11 (some l0) (v15 + (1 : Int32)) <|
  C_X11_distribute_L15 l0 (fun l3 => C_X11_distribute_J162 l0 l3) fu l1 l2 (0 : Int32) (0 : Int32)
set_option maxRecDepth 10000 in
theorem mo_C_X11_distribute (l0 : Nat) (l1 : Option Nat) (l2 : Option Nat) : Mo (C_X11_distribute l0 l1 l2) := by
  unfold C_X11_distribute
  repeat' (with_reducible first | assumption | exact mo_rt _ | exact mo_zt _ | exact mo_no | apply mo_C_X11_distribute_L15 | apply mo_C_X11_distribute_J162 | refine mo_ite ?_ ?_ | refine mo_hgI (fun _ => ?_) | refine mo_hgR (fun _ => ?_) | refine mo_hCv (fun _ => ?_) (fun _ => ?_) | refine mo_lq (fun _ => ?_) | refine mo_hpI ?_ | refine mo_hpR ?_ | refine mo_hAi (fun _ => ?_) | refine mo_hAr (fun _ => ?_) | refine mo_hWi ?_ | refine mo_hWr ?_ | refine mo_hLn (fun _ => ?_) | refine mo_hgL (fun _ => ?_) | refine mo_hpL ?_ | refine mo_hpZ ?_ | refine mo_bd ?_ (fun _ => ?_) | refine mo_hCi (fun _ => ?_) (fun _ => ?_) | refine mo_hNw (fun _ => ?_) | refine mo_hNa (fun _ => ?_) | refine mo_hCp ?_ | refine mo_hOi ?_ | refine mo_hAl (fun _ => ?_) | refine mo_hWl ?_ | refine mo_gd ?_ | refine mo_sLn (fun _ => ?_) | refine mo_sAt (fun _ => ?_) | refine mo_kLn (fun _ => ?_) | refine mo_kAt (fun _ => ?_))
set_option maxRecDepth 10000 in
theorem mC_X11_distribute {w : Wd} (hw : Wc w) (l0 : Nat) (l1 : Option Nat) (l2 : Option Nat) : MH w yX11_distribute cX11_distribute 11 (some .boolean) 3 87 voI [va_rf (some l0), va_rf l1, va_rf l2] (C_X11_distribute l0 l1 l2) := by
  have M0 : ∀ g : Gm Hp Int32, g.1 = w → Bx g cX11_distribute 11 RX11 voI (some .boolean) 3 87 "distribute" → Sm g 11 0 (lv_args 0 [va_rf (some l0), va_rf l1, va_rf l2]) [] (C_X11_distribute l0 l1 l2) := by
    intro g hg B
    subst hg
    unfold C_X11_distribute
    refine W_lva (lv := [(0, va_rf (some l0)), (1, va_rf l1), (2, va_rf l2)]) (by simp [lv_args, va_rf_cat, cat_i, cat_l, cat_r]) ?_
    refine s_rload_n B.1.1 0 dX11_distribute_0 rfl rfl ?_
    refine s_dup B.1.1 dX11_distribute_1 rfl ?_
    refine hp_getI B.1 13 11 rfl (by decide) inX11 (by decide) fk_X11_11.1 fk_X11_11.2 cf_X11_249 dX11_distribute_2 (fun v15 => ?_)
    refine s_iconst (v := 1) B.1.1 dX11_distribute_5 (by decide) ?_
    refine s_iadd B.1.1 dX11_distribute_6 ?_
    refine hp_putI B.1 13 11 rfl (by decide) inX11 tyX11 tyX11_ok nmX11 (by decide) fk_X11_11.1 fk_X11_11.2 ft_X11_11 rfl cf_X11_249 dX11_distribute_7 ?_
    refine s_iconst (v := 0) B.1.1 dX11_distribute_10 (by decide) ?_
    refine s_istore_n (i := 3) (lv' := [(3, .int (0 : Int32)), (0, va_rf (some l0)), (1, va_rf l1), (2, va_rf l2)]) B.1.1 dX11_distribute_11 rfl (by decide) (by simp [va_rf_cat, cat_i, cat_l, cat_r]) ?_
    refine s_iconst (v := 0) B.1.1 dX11_distribute_12 (by decide) ?_
    refine s_istore (i := 4) (lv' := [(4, .int (0 : Int32)), (3, .int (0 : Int32)), (0, va_rf (some l0)), (1, va_rf l1), (2, va_rf l2)]) B.1.1 dX11_distribute_13 (by decide) rfl ?_
    exact Sm.lvs [2, 3, 4, 1, 0] rfl (sc_X11_distribute_L15 B (fun l3 => sc_X11_distribute_J162 B l3) fu l1 l2 (0 : Int32) (0 : Int32))
  exact MH.of hw ⟨rfl, rfl⟩ (by decide) (by simp [lg_sl, va_rf_cat, cat_i, cat_l, cat_r]) (mo_C_X11_distribute l0 l1 l2) M0
def C_X6_discard_J49 (l0 : Nat) : Hp → Option (Unit × Hp) :=
  hgR 8 0 (some l0) fun v1 =>
  hgI 8 1 (some l0) fun v2 =>
  hWr 9 5 v1 v2 none <|
  rt ()
set_option maxRecDepth 10000 in
theorem mo_C_X6_discard_J49 (l0 : Nat) : Mo (C_X6_discard_J49 l0) := by
  unfold C_X6_discard_J49
  repeat' (with_reducible first | assumption | exact mo_rt _ | exact mo_zt _ | exact mo_no | refine mo_ite ?_ ?_ | refine mo_hgI (fun _ => ?_) | refine mo_hgR (fun _ => ?_) | refine mo_hCv (fun _ => ?_) (fun _ => ?_) | refine mo_lq (fun _ => ?_) | refine mo_hpI ?_ | refine mo_hpR ?_ | refine mo_hAi (fun _ => ?_) | refine mo_hAr (fun _ => ?_) | refine mo_hWi ?_ | refine mo_hWr ?_ | refine mo_hLn (fun _ => ?_) | refine mo_hgL (fun _ => ?_) | refine mo_hpL ?_ | refine mo_hpZ ?_ | refine mo_bd ?_ (fun _ => ?_) | refine mo_hCi (fun _ => ?_) (fun _ => ?_) | refine mo_hNw (fun _ => ?_) | refine mo_hNa (fun _ => ?_) | refine mo_hCp ?_ | refine mo_hOi ?_ | refine mo_hAl (fun _ => ?_) | refine mo_hWl ?_ | refine mo_gd ?_ | refine mo_sLn (fun _ => ?_) | refine mo_sAt (fun _ => ?_) | refine mo_kLn (fun _ => ?_) | refine mo_kAt (fun _ => ?_))
set_option maxRecDepth 10000 in
theorem sc_X6_discard_J49 {g : Gm Hp Unit} (B : Bx g cX6_discard 3 RX6 voV none 0 0 "discard") {l0 : Nat} : Sm g 3 49 [(0, va_rf (some l0))] [] (C_X6_discard_J49 l0) := by
  unfold C_X6_discard_J49
  refine s_rload_n B.1.1 0 dX6_discard_49 rfl rfl ?_
  refine hp_getR B.1 8 0 rfl (by decide) inX6 (by decide) fk_X6_0 cf_X6_11 dX6_discard_50 (fun v1 => ?_)
  refine s_rload_n B.1.1 0 dX6_discard_53 rfl rfl ?_
  refine hp_getI B.1 8 1 rfl (by decide) inX6 (by decide) fk_X6_1.1 fk_X6_1.2 cf_X6_17 dX6_discard_54 (fun v2 => ?_)
  refine s_null B.1.1 dX6_discard_57 ?_
  refine hp_Wr B.1 9 5 (by decide) (fun _ => rfl) rfl (by decide) dX6_discard_58 ?_
  exact s_vret B.1.1 B.2.2.2.2 dX6_discard_59
def C_X6_discard_B21 (l0 : Nat) (kb : Int32 → Hp → Option (Unit × Hp)) (ke49 : Hp → Option (Unit × Hp)) (l2 : Int32) : Hp → Option (Unit × Hp) :=
  hgI 8 1 (some l0) fun v3 =>
  if v3 ≤ l2 then (
    ke49
  ) else (
    hgR 8 0 (some l0) fun v4 =>
    hgR 8 0 (some l0) fun v5 =>
    hAr 9 v5 (l2 + (1 : Int32)) fun v6 =>
    hWr 9 5 v4 l2 v6 <|
    kb (l2 + 1)
  )
def C_X6_discard_L21 (l0 : Nat) (ke49 : Hp → Option (Unit × Hp)) : Nat → Int32 → Hp → Option (Unit × Hp)
  | 0, _ => no
  | n + 1, l2 => C_X6_discard_B21 l0 (fun l2 => C_X6_discard_L21 l0 ke49 n l2) ke49 l2
set_option maxRecDepth 10000 in
theorem mo_C_X6_discard_B21 (l0 : Nat) (kb : Int32 → Hp → Option (Unit × Hp)) (ke49 : Hp → Option (Unit × Hp)) (hkb : ∀ (l2 : Int32), Mo (kb l2)) (hke49 : Mo (ke49)) (l2 : Int32) : Mo (C_X6_discard_B21 l0 kb ke49 l2) := by
  unfold C_X6_discard_B21
  repeat' (with_reducible first | assumption | exact mo_rt _ | exact mo_zt _ | exact mo_no | apply hkb | apply hke49 | refine mo_ite ?_ ?_ | refine mo_hgI (fun _ => ?_) | refine mo_hgR (fun _ => ?_) | refine mo_hCv (fun _ => ?_) (fun _ => ?_) | refine mo_lq (fun _ => ?_) | refine mo_hpI ?_ | refine mo_hpR ?_ | refine mo_hAi (fun _ => ?_) | refine mo_hAr (fun _ => ?_) | refine mo_hWi ?_ | refine mo_hWr ?_ | refine mo_hLn (fun _ => ?_) | refine mo_hgL (fun _ => ?_) | refine mo_hpL ?_ | refine mo_hpZ ?_ | refine mo_bd ?_ (fun _ => ?_) | refine mo_hCi (fun _ => ?_) (fun _ => ?_) | refine mo_hNw (fun _ => ?_) | refine mo_hNa (fun _ => ?_) | refine mo_hCp ?_ | refine mo_hOi ?_ | refine mo_hAl (fun _ => ?_) | refine mo_hWl ?_ | refine mo_gd ?_ | refine mo_sLn (fun _ => ?_) | refine mo_sAt (fun _ => ?_) | refine mo_kLn (fun _ => ?_) | refine mo_kAt (fun _ => ?_))
set_option maxRecDepth 10000 in
theorem mo_C_X6_discard_L21 (l0 : Nat) (ke49 : Hp → Option (Unit × Hp)) (hke49 : Mo (ke49)) : ∀ (n : Nat) (l2 : Int32), Mo (C_X6_discard_L21 l0 ke49 n l2)
  | 0, _ => mo_no
  | n + 1, l2 => mo_C_X6_discard_B21 l0 _ ke49 (mo_C_X6_discard_L21 l0 ke49 hke49 n) hke49 l2
set_option maxRecDepth 10000 in
theorem sc_X6_discard_B21 {g : Gm Hp Unit} {kb : Int32 → Hp → Option (Unit × Hp)} {ke49 : Hp → Option (Unit × Hp)} (B : Bx g cX6_discard 3 RX6 voV none 0 0 "discard") {l0 : Nat} (hkb : ∀ (l2 : Int32), Sm g 3 21 [(0, va_rf (some l0)), (2, .int l2)] [] (kb l2)) (hke49 : Sm g 3 49 [(0, va_rf (some l0))] [] (ke49)) (l2 : Int32) : Sm g 3 21 [(0, va_rf (some l0)), (2, .int l2)] [] (C_X6_discard_B21 l0 kb ke49 l2) := by
  unfold C_X6_discard_B21
  refine s_iload_n B.1.1 1 dX6_discard_21 rfl rfl ?_
  refine s_rload_n B.1.1 0 dX6_discard_22 rfl rfl ?_
  refine hp_getI B.1 8 1 rfl (by decide) inX6 (by decide) fk_X6_1.1 fk_X6_1.2 cf_X6_17 dX6_discard_23 (fun v3 => ?_)
  refine s_icmp_ge B.1.1 49 dX6_discard_26 (by decide) ?_ ?_
  · exact Sm.lvs [0] rfl (hke49)
  · refine s_rload_n B.1.1 0 dX6_discard_29 rfl rfl ?_
    refine hp_getR B.1 8 0 rfl (by decide) inX6 (by decide) fk_X6_0 cf_X6_11 dX6_discard_30 (fun v4 => ?_)
    refine s_iload_n B.1.1 1 dX6_discard_33 rfl rfl ?_
    refine s_rload_n B.1.1 0 dX6_discard_34 rfl rfl ?_
    refine hp_getR B.1 8 0 rfl (by decide) inX6 (by decide) fk_X6_0 cf_X6_11 dX6_discard_35 (fun v5 => ?_)
    refine s_iload_n B.1.1 1 dX6_discard_38 rfl rfl ?_
    refine s_iconst (v := 1) B.1.1 dX6_discard_39 (by decide) ?_
    refine s_iadd B.1.1 dX6_discard_40 ?_
    refine hp_Ar B.1 9 (by decide) (fun _ => rfl) dX6_discard_41 (fun v6 => ?_)
    refine hp_Wr B.1 9 5 (by decide) (fun _ => rfl) rfl (by decide) dX6_discard_42 ?_
    refine s_iinc (v := l2 + 1) (lv' := [(2, .int (l2 + 1)), (0, va_rf (some l0))]) B.1.1 1 dX6_discard_43 rfl rfl (by decide) rfl ?_
    refine s_goto B.1.1 21 dX6_discard_46 (by decide) ?_
    exact Sm.lvs [1, 0] rfl (hkb (l2 + 1))
set_option maxRecDepth 10000 in
theorem sc_X6_discard_L21 {g : Gm Hp Unit} {ke49 : Hp → Option (Unit × Hp)} (B : Bx g cX6_discard 3 RX6 voV none 0 0 "discard") {l0 : Nat} (hke49 : Sm g 3 49 [(0, va_rf (some l0))] [] (ke49)) : ∀ (n : Nat) (l2 : Int32), Sm g 3 21 [(0, va_rf (some l0)), (2, .int l2)] [] (C_X6_discard_L21 l0 ke49 n l2)
  | 0, _ => Sm.fail
  | n + 1, l2 => sc_X6_discard_B21 B (sc_X6_discard_L21 B hke49 n) hke49 l2
def C_X6_discard (l0 : Nat) (l1 : Int32) : Hp → Option (Unit × Hp) :=
  hgI 8 1 (some l0) fun v7 =>
  if l1 < v7 then (
    hgI 8 1 (some l0) fun v8 =>
    hpI 8 1 (some l0) (v8 - (1 : Int32)) <|
    C_X6_discard_L21 l0 (C_X6_discard_J49 l0) fu l1
  ) else (
    rt ()
  )
set_option maxRecDepth 10000 in
theorem mo_C_X6_discard (l0 : Nat) (l1 : Int32) : Mo (C_X6_discard l0 l1) := by
  unfold C_X6_discard
  repeat' (with_reducible first | assumption | exact mo_rt _ | exact mo_zt _ | exact mo_no | apply mo_C_X6_discard_L21 | apply mo_C_X6_discard_J49 | refine mo_ite ?_ ?_ | refine mo_hgI (fun _ => ?_) | refine mo_hgR (fun _ => ?_) | refine mo_hCv (fun _ => ?_) (fun _ => ?_) | refine mo_lq (fun _ => ?_) | refine mo_hpI ?_ | refine mo_hpR ?_ | refine mo_hAi (fun _ => ?_) | refine mo_hAr (fun _ => ?_) | refine mo_hWi ?_ | refine mo_hWr ?_ | refine mo_hLn (fun _ => ?_) | refine mo_hgL (fun _ => ?_) | refine mo_hpL ?_ | refine mo_hpZ ?_ | refine mo_bd ?_ (fun _ => ?_) | refine mo_hCi (fun _ => ?_) (fun _ => ?_) | refine mo_hNw (fun _ => ?_) | refine mo_hNa (fun _ => ?_) | refine mo_hCp ?_ | refine mo_hOi ?_ | refine mo_hAl (fun _ => ?_) | refine mo_hWl ?_ | refine mo_gd ?_ | refine mo_sLn (fun _ => ?_) | refine mo_sAt (fun _ => ?_) | refine mo_kLn (fun _ => ?_) | refine mo_kAt (fun _ => ?_))
set_option maxRecDepth 10000 in
theorem mC_X6_discard {w : Wd} (hw : Wc w) (l0 : Nat) (l1 : Int32) : MH w yX6_discard cX6_discard 3 none 0 0 voV [va_rf (some l0), .int l1] (C_X6_discard l0 l1) := by
  have M0 : ∀ g : Gm Hp Unit, g.1 = w → Bx g cX6_discard 3 RX6 voV none 0 0 "discard" → Sm g 3 0 (lv_args 0 [va_rf (some l0), .int l1]) [] (C_X6_discard l0 l1) := by
    intro g hg B
    subst hg
    unfold C_X6_discard
    refine W_lva (lv := [(0, va_rf (some l0)), (1, .int l1)]) (by simp [lv_args, va_rf_cat, cat_i, cat_l, cat_r]) ?_
    refine s_iload_n B.1.1 1 dX6_discard_0 rfl rfl ?_
    refine s_rload_n B.1.1 0 dX6_discard_1 rfl rfl ?_
    refine hp_getI B.1 8 1 rfl (by decide) inX6 (by decide) fk_X6_1.1 fk_X6_1.2 cf_X6_17 dX6_discard_2 (fun v7 => ?_)
    refine s_icmp_lt B.1.1 9 dX6_discard_5 (by decide) ?_ ?_
    · refine s_rload_n B.1.1 0 dX6_discard_9 rfl rfl ?_
      refine s_dup B.1.1 dX6_discard_10 rfl ?_
      refine hp_getI B.1 8 1 rfl (by decide) inX6 (by decide) fk_X6_1.1 fk_X6_1.2 cf_X6_17 dX6_discard_11 (fun v8 => ?_)
      refine s_iconst (v := 1) B.1.1 dX6_discard_14 (by decide) ?_
      refine s_isub B.1.1 dX6_discard_15 ?_
      refine hp_putI B.1 8 1 rfl (by decide) inX6 tyX6 tyX6_ok nmX6 (by decide) fk_X6_1.1 fk_X6_1.2 ft_X6_1 rfl cf_X6_17 dX6_discard_16 ?_
      refine s_iload_n B.1.1 1 dX6_discard_19 rfl rfl ?_
      refine s_istore_n (i := 2) (lv' := [(2, .int l1), (0, va_rf (some l0)), (1, .int l1)]) B.1.1 dX6_discard_20 rfl (by decide) rfl ?_
      exact Sm.lvs [1, 0] rfl (sc_X6_discard_L21 B (sc_X6_discard_J49 B) fu l1)
    · exact s_vret B.1.1 B.2.2.2.2 dX6_discard_8
  exact MH.of hw ⟨rfl, rfl⟩ (by decide) (by simp [lg_sl, va_rf_cat, cat_i, cat_l, cat_r]) (mo_C_X6_discard l0 l1) M0
def C_X6_keep_J35 (l0 : Nat) (l1 : Option Nat) (l2 : Int32) (l3 : Int32) : Hp → Option (Int32 × Hp) :=
  hgR 5 1 l1 fun v1 =>
  hCv 9 v1 (fun a => C_X7_count a) fun r2 =>
  if r2 = 0 then (
    hCv 8 (some l0) (fun a => C_X6_discard a l3) fun r7 =>
    zt ((1 : Int32))
  ) else (
    if l3 = (16 : Int32) then (
      zt ((0 : Int32))
    ) else (
      hgR 8 0 (some l0) fun v3 =>
      hWr 9 5 v3 l3 l1 <|
      hgI 8 1 (some l0) fun v4 =>
      hpI 8 1 (some l0) (imax v4 (l3 + (1 : Int32))) <|
      hCv 5 l1 (fun a => C_X3_isGone a l2) fun r5 =>
      if r5 = 0 then (
        zt ((1 : Int32))
      ) else (
        hCv 8 (some l0) (fun a => C_X6_discard a l3) fun r6 =>
        zt ((1 : Int32))
      )
    )
  )
set_option maxRecDepth 10000 in
theorem mo_C_X6_keep_J35 (l0 : Nat) (l1 : Option Nat) (l2 : Int32) (l3 : Int32) : Mo (C_X6_keep_J35 l0 l1 l2 l3) := by
  unfold C_X6_keep_J35
  repeat' (with_reducible first | assumption | exact mo_rt _ | exact mo_zt _ | exact mo_no | apply mo_C_X7_count | apply mo_C_X6_discard | apply mo_C_X3_isGone | refine mo_ite ?_ ?_ | refine mo_hgI (fun _ => ?_) | refine mo_hgR (fun _ => ?_) | refine mo_hCv (fun _ => ?_) (fun _ => ?_) | refine mo_lq (fun _ => ?_) | refine mo_hpI ?_ | refine mo_hpR ?_ | refine mo_hAi (fun _ => ?_) | refine mo_hAr (fun _ => ?_) | refine mo_hWi ?_ | refine mo_hWr ?_ | refine mo_hLn (fun _ => ?_) | refine mo_hgL (fun _ => ?_) | refine mo_hpL ?_ | refine mo_hpZ ?_ | refine mo_bd ?_ (fun _ => ?_) | refine mo_hCi (fun _ => ?_) (fun _ => ?_) | refine mo_hNw (fun _ => ?_) | refine mo_hNa (fun _ => ?_) | refine mo_hCp ?_ | refine mo_hOi ?_ | refine mo_hAl (fun _ => ?_) | refine mo_hWl ?_ | refine mo_gd ?_ | refine mo_sLn (fun _ => ?_) | refine mo_sAt (fun _ => ?_) | refine mo_kLn (fun _ => ?_) | refine mo_kAt (fun _ => ?_))
set_option maxRecDepth 10000 in
theorem sc_X6_keep_J35 {g : Gm Hp Int32} (B : Bx g cX6_keep 4 RX6 voI (some .boolean) 2 44 "keep") {l0 : Nat} (l1 : Option Nat) (l2 : Int32) (l3 : Int32) : Sm g 4 35 [(0, va_rf (some l0)), (1, va_rf l1), (2, .int l2), (3, .int l3)] [] (C_X6_keep_J35 l0 l1 l2 l3) := by
  unfold C_X6_keep_J35
  refine s_rload_n B.1.1 1 dX6_keep_35 rfl rfl ?_
  refine hp_getR B.1 5 1 rfl (by decide) inX3 (by decide) fk_X3_1 cf_X6_31 dX6_keep_36 (fun v1 => ?_)
  refine hp_cvi (As := []) (st := []) 9 rfl (by decide) B.1 (fun a => mC_X7_count B.2.1 a ) cc_X7_count cl_X6_34 cn_X7_count ce_X7_count ci_X7 cd_X7_count (by decide) rfl (Nat.le_of_ble_eq_true rfl) dX6_keep_39 (fun r2 => ?_)
  refine s_if_ne B.1.1 52 dX6_keep_42 (by decide) ?_ ?_
  · refine s_iload_n B.1.1 3 dX6_keep_52 rfl rfl ?_
    refine s_bipush (v := (16)) B.1.1 dX6_keep_53 (by decide) ?_
    refine s_icmp_ne B.1.1 60 dX6_keep_55 (by decide) ?_ ?_
    · refine s_rload_n B.1.1 0 dX6_keep_60 rfl rfl ?_
      refine hp_getR B.1 8 0 rfl (by decide) inX6 (by decide) fk_X6_0 cf_X6_11 dX6_keep_61 (fun v3 => ?_)
      refine s_iload_n B.1.1 3 dX6_keep_64 rfl rfl ?_
      refine s_rload_n B.1.1 1 dX6_keep_65 rfl rfl ?_
      refine hp_Wr B.1 9 5 (by decide) (fun _ => rfl) rfl (by decide) dX6_keep_66 ?_
      refine s_rload_n B.1.1 0 dX6_keep_67 rfl rfl ?_
      refine s_rload_n B.1.1 0 dX6_keep_68 rfl rfl ?_
      refine hp_getI B.1 8 1 rfl (by decide) inX6 (by decide) fk_X6_1.1 fk_X6_1.2 cf_X6_17 dX6_keep_69 (fun v4 => ?_)
      refine s_iload_n B.1.1 3 dX6_keep_72 rfl rfl ?_
      refine s_iconst (v := 1) B.1.1 dX6_keep_73 (by decide) ?_
      refine s_iadd B.1.1 dX6_keep_74 ?_
      refine s_mmax B.1.1 B.1.2.1 tw_1039 (by decide) (Nat.le_of_ble_eq_true rfl) dX6_keep_75 ?_
      refine hp_putI B.1 8 1 rfl (by decide) inX6 tyX6 tyX6_ok nmX6 (by decide) fk_X6_1.1 fk_X6_1.2 ft_X6_1 rfl cf_X6_17 dX6_keep_78 ?_
      refine s_rload_n B.1.1 1 dX6_keep_81 rfl rfl ?_
      refine s_iload_n B.1.1 2 dX6_keep_82 rfl rfl ?_
      refine hp_cvi (As := [.int l2]) (st := []) 5 rfl (by decide) B.1 (fun a => mC_X3_isGone B.2.1 a l2) cc_X3_isGone cl_X6_47 cn_X3_isGone ce_X3_isGone ci_X3 cd_X3_isGone (by decide) rfl (Nat.le_of_ble_eq_true rfl) dX6_keep_83 (fun r5 => ?_)
      refine s_if_eq B.1.1 94 dX6_keep_86 (by decide) ?_ ?_
      · refine s_iconst (v := 1) B.1.1 dX6_keep_94 (by decide) ?_
        exact s_zret B.1.1 B.2.2.2.2 dX6_keep_95
      · refine s_rload_n B.1.1 0 dX6_keep_89 rfl rfl ?_
        refine s_iload_n B.1.1 3 dX6_keep_90 rfl rfl ?_
        refine hp_cvv (As := [.int l3]) (st := []) 8 rfl (by decide) B.1 (fun a => mC_X6_discard B.2.1 a l3) cc_X6_discard cl_X6_37 cn_X6_discard ce_X6_discard ci_X6 cd_X6_discard (by decide) rfl (Nat.le_of_ble_eq_true rfl) dX6_keep_91 (fun r6 => ?_)
        refine s_iconst (v := 1) B.1.1 dX6_keep_94 (by decide) ?_
        exact s_zret B.1.1 B.2.2.2.2 dX6_keep_95
    · refine s_iconst (v := 0) B.1.1 dX6_keep_58 (by decide) ?_
      exact s_zret B.1.1 B.2.2.2.2 dX6_keep_59
  · refine s_rload_n B.1.1 0 dX6_keep_45 rfl rfl ?_
    refine s_iload_n B.1.1 3 dX6_keep_46 rfl rfl ?_
    refine hp_cvv (As := [.int l3]) (st := []) 8 rfl (by decide) B.1 (fun a => mC_X6_discard B.2.1 a l3) cc_X6_discard cl_X6_37 cn_X6_discard ce_X6_discard ci_X6 cd_X6_discard (by decide) rfl (Nat.le_of_ble_eq_true rfl) dX6_keep_47 (fun r7 => ?_)
    refine s_iconst (v := 1) B.1.1 dX6_keep_50 (by decide) ?_
    exact s_zret B.1.1 B.2.2.2.2 dX6_keep_51
def C_X6_keep_B2 (l0 : Nat) (kb : Option Nat → Int32 → Int32 → Hp → Option (Int32 × Hp)) (ke35 : Option Nat → Int32 → Int32 → Hp → Option (Int32 × Hp)) (l1 : Option Nat) (l2 : Int32) (l3 : Int32) : Hp → Option (Int32 × Hp) :=
  hgI 8 1 (some l0) fun v8 =>
  if v8 ≤ l3 then (
    ke35 l1 l2 l3
  ) else (
    hgR 8 0 (some l0) fun v9 =>
    hAr 9 v9 l3 fun v10 =>
    hgR 5 0 v10 fun v11 =>
    hgR 5 0 l1 fun v12 =>
    hCv 9 v11 (fun a => C_X7_same a v12) fun r13 =>
    if r13 = 0 then (
      kb l1 l2 (l3 + 1)
    ) else (
      ke35 l1 l2 l3
    )
  )
def C_X6_keep_L2 (l0 : Nat) (ke35 : Option Nat → Int32 → Int32 → Hp → Option (Int32 × Hp)) : Nat → Option Nat → Int32 → Int32 → Hp → Option (Int32 × Hp)
  | 0, _, _, _ => no
  | n + 1, l1, l2, l3 => C_X6_keep_B2 l0 (fun l1 l2 l3 => C_X6_keep_L2 l0 ke35 n l1 l2 l3) ke35 l1 l2 l3
set_option maxRecDepth 10000 in
theorem mo_C_X6_keep_B2 (l0 : Nat) (kb : Option Nat → Int32 → Int32 → Hp → Option (Int32 × Hp)) (ke35 : Option Nat → Int32 → Int32 → Hp → Option (Int32 × Hp)) (hkb : ∀ (l1 : Option Nat) (l2 : Int32) (l3 : Int32), Mo (kb l1 l2 l3)) (hke35 : ∀ (l1 : Option Nat) (l2 : Int32) (l3 : Int32), Mo (ke35 l1 l2 l3)) (l1 : Option Nat) (l2 : Int32) (l3 : Int32) : Mo (C_X6_keep_B2 l0 kb ke35 l1 l2 l3) := by
  unfold C_X6_keep_B2
  repeat' (with_reducible first | assumption | exact mo_rt _ | exact mo_zt _ | exact mo_no | apply mo_C_X7_same | apply hkb | apply hke35 | refine mo_ite ?_ ?_ | refine mo_hgI (fun _ => ?_) | refine mo_hgR (fun _ => ?_) | refine mo_hCv (fun _ => ?_) (fun _ => ?_) | refine mo_lq (fun _ => ?_) | refine mo_hpI ?_ | refine mo_hpR ?_ | refine mo_hAi (fun _ => ?_) | refine mo_hAr (fun _ => ?_) | refine mo_hWi ?_ | refine mo_hWr ?_ | refine mo_hLn (fun _ => ?_) | refine mo_hgL (fun _ => ?_) | refine mo_hpL ?_ | refine mo_hpZ ?_ | refine mo_bd ?_ (fun _ => ?_) | refine mo_hCi (fun _ => ?_) (fun _ => ?_) | refine mo_hNw (fun _ => ?_) | refine mo_hNa (fun _ => ?_) | refine mo_hCp ?_ | refine mo_hOi ?_ | refine mo_hAl (fun _ => ?_) | refine mo_hWl ?_ | refine mo_gd ?_ | refine mo_sLn (fun _ => ?_) | refine mo_sAt (fun _ => ?_) | refine mo_kLn (fun _ => ?_) | refine mo_kAt (fun _ => ?_))
set_option maxRecDepth 10000 in
theorem mo_C_X6_keep_L2 (l0 : Nat) (ke35 : Option Nat → Int32 → Int32 → Hp → Option (Int32 × Hp)) (hke35 : ∀ (l1 : Option Nat) (l2 : Int32) (l3 : Int32), Mo (ke35 l1 l2 l3)) : ∀ (n : Nat) (l1 : Option Nat) (l2 : Int32) (l3 : Int32), Mo (C_X6_keep_L2 l0 ke35 n l1 l2 l3)
  | 0, _, _, _ => mo_no
  | n + 1, l1, l2, l3 => mo_C_X6_keep_B2 l0 _ ke35 (mo_C_X6_keep_L2 l0 ke35 hke35 n) hke35 l1 l2 l3
set_option maxRecDepth 10000 in
theorem sc_X6_keep_B2 {g : Gm Hp Int32} {kb : Option Nat → Int32 → Int32 → Hp → Option (Int32 × Hp)} {ke35 : Option Nat → Int32 → Int32 → Hp → Option (Int32 × Hp)} (B : Bx g cX6_keep 4 RX6 voI (some .boolean) 2 44 "keep") {l0 : Nat} (hkb : ∀ (l1 : Option Nat) (l2 : Int32) (l3 : Int32), Sm g 4 2 [(0, va_rf (some l0)), (1, va_rf l1), (2, .int l2), (3, .int l3)] [] (kb l1 l2 l3)) (hke35 : ∀ (l1 : Option Nat) (l2 : Int32) (l3 : Int32), Sm g 4 35 [(0, va_rf (some l0)), (1, va_rf l1), (2, .int l2), (3, .int l3)] [] (ke35 l1 l2 l3)) (l1 : Option Nat) (l2 : Int32) (l3 : Int32) : Sm g 4 2 [(0, va_rf (some l0)), (1, va_rf l1), (2, .int l2), (3, .int l3)] [] (C_X6_keep_B2 l0 kb ke35 l1 l2 l3) := by
  unfold C_X6_keep_B2
  refine s_iload_n B.1.1 3 dX6_keep_2 rfl rfl ?_
  refine s_rload_n B.1.1 0 dX6_keep_3 rfl rfl ?_
  refine hp_getI B.1 8 1 rfl (by decide) inX6 (by decide) fk_X6_1.1 fk_X6_1.2 cf_X6_17 dX6_keep_4 (fun v8 => ?_)
  refine s_icmp_ge B.1.1 35 dX6_keep_7 (by decide) ?_ ?_
  · exact Sm.lvs [0, 1, 2, 3] rfl (hke35 l1 l2 l3)
  · refine s_rload_n B.1.1 0 dX6_keep_10 rfl rfl ?_
    refine hp_getR B.1 8 0 rfl (by decide) inX6 (by decide) fk_X6_0 cf_X6_11 dX6_keep_11 (fun v9 => ?_)
    refine s_iload_n B.1.1 3 dX6_keep_14 rfl rfl ?_
    refine hp_Ar B.1 9 (by decide) (fun _ => rfl) dX6_keep_15 (fun v10 => ?_)
    refine hp_getR B.1 5 0 rfl (by decide) inX3 (by decide) fk_X3_0 cf_X6_21 dX6_keep_16 (fun v11 => ?_)
    refine s_rload_n B.1.1 1 dX6_keep_19 rfl rfl ?_
    refine hp_getR B.1 5 0 rfl (by decide) inX3 (by decide) fk_X3_0 cf_X6_21 dX6_keep_20 (fun v12 => ?_)
    refine hp_cvi (As := [va_rf v12]) (st := []) 9 rfl (by decide) B.1 (fun a => mC_X7_same B.2.1 a v12) cc_X7_same cl_X6_25 cn_X7_same ce_X7_same ci_X7 cd_X7_same (by decide) rfl (Nat.le_of_ble_eq_true rfl) dX6_keep_23 (fun r13 => ?_)
    refine s_if_ne B.1.1 35 dX6_keep_26 (by decide) ?_ ?_
    · exact Sm.lvs [0, 1, 2, 3] rfl (hke35 l1 l2 l3)
    · refine s_iinc (v := l3 + 1) (lv' := [(3, .int (l3 + 1)), (0, va_rf (some l0)), (1, va_rf l1), (2, .int l2)]) B.1.1 3 dX6_keep_29 rfl rfl (by decide) rfl ?_
      refine s_goto B.1.1 2 dX6_keep_32 (by decide) ?_
      exact Sm.lvs [1, 2, 3, 0] rfl (hkb l1 l2 (l3 + 1))
set_option maxRecDepth 10000 in
theorem sc_X6_keep_L2 {g : Gm Hp Int32} {ke35 : Option Nat → Int32 → Int32 → Hp → Option (Int32 × Hp)} (B : Bx g cX6_keep 4 RX6 voI (some .boolean) 2 44 "keep") {l0 : Nat} (hke35 : ∀ (l1 : Option Nat) (l2 : Int32) (l3 : Int32), Sm g 4 35 [(0, va_rf (some l0)), (1, va_rf l1), (2, .int l2), (3, .int l3)] [] (ke35 l1 l2 l3)) : ∀ (n : Nat) (l1 : Option Nat) (l2 : Int32) (l3 : Int32), Sm g 4 2 [(0, va_rf (some l0)), (1, va_rf l1), (2, .int l2), (3, .int l3)] [] (C_X6_keep_L2 l0 ke35 n l1 l2 l3)
  | 0, _, _, _ => Sm.fail
  | n + 1, l1, l2, l3 => sc_X6_keep_B2 B (sc_X6_keep_L2 B hke35 n) hke35 l1 l2 l3
def C_X6_keep (l0 : Nat) (l1 : Option Nat) (l2 : Int32) : Hp → Option (Int32 × Hp) :=
  C_X6_keep_L2 l0 (fun l1 l2 l3 => C_X6_keep_J35 l0 l1 l2 l3) fu l1 l2 (0 : Int32)
set_option maxRecDepth 10000 in
theorem mo_C_X6_keep (l0 : Nat) (l1 : Option Nat) (l2 : Int32) : Mo (C_X6_keep l0 l1 l2) := by
  unfold C_X6_keep
  repeat' (with_reducible first | assumption | exact mo_rt _ | exact mo_zt _ | exact mo_no | apply mo_C_X6_keep_L2 | apply mo_C_X6_keep_J35 | refine mo_ite ?_ ?_ | refine mo_hgI (fun _ => ?_) | refine mo_hgR (fun _ => ?_) | refine mo_hCv (fun _ => ?_) (fun _ => ?_) | refine mo_lq (fun _ => ?_) | refine mo_hpI ?_ | refine mo_hpR ?_ | refine mo_hAi (fun _ => ?_) | refine mo_hAr (fun _ => ?_) | refine mo_hWi ?_ | refine mo_hWr ?_ | refine mo_hLn (fun _ => ?_) | refine mo_hgL (fun _ => ?_) | refine mo_hpL ?_ | refine mo_hpZ ?_ | refine mo_bd ?_ (fun _ => ?_) | refine mo_hCi (fun _ => ?_) (fun _ => ?_) | refine mo_hNw (fun _ => ?_) | refine mo_hNa (fun _ => ?_) | refine mo_hCp ?_ | refine mo_hOi ?_ | refine mo_hAl (fun _ => ?_) | refine mo_hWl ?_ | refine mo_gd ?_ | refine mo_sLn (fun _ => ?_) | refine mo_sAt (fun _ => ?_) | refine mo_kLn (fun _ => ?_) | refine mo_kAt (fun _ => ?_))
set_option maxRecDepth 10000 in
theorem mC_X6_keep {w : Wd} (hw : Wc w) (l0 : Nat) (l1 : Option Nat) (l2 : Int32) : MH w yX6_keep cX6_keep 4 (some .boolean) 2 44 voI [va_rf (some l0), va_rf l1, .int l2] (C_X6_keep l0 l1 l2) := by
  have M0 : ∀ g : Gm Hp Int32, g.1 = w → Bx g cX6_keep 4 RX6 voI (some .boolean) 2 44 "keep" → Sm g 4 0 (lv_args 0 [va_rf (some l0), va_rf l1, .int l2]) [] (C_X6_keep l0 l1 l2) := by
    intro g hg B
    subst hg
    unfold C_X6_keep
    refine W_lva (lv := [(0, va_rf (some l0)), (1, va_rf l1), (2, .int l2)]) (by simp [lv_args, va_rf_cat, cat_i, cat_l, cat_r]) ?_
    refine s_iconst (v := 0) B.1.1 dX6_keep_0 (by decide) ?_
    refine s_istore_n (i := 3) (lv' := [(3, .int (0 : Int32)), (0, va_rf (some l0)), (1, va_rf l1), (2, .int l2)]) B.1.1 dX6_keep_1 rfl (by decide) rfl ?_
    exact Sm.lvs [1, 2, 3, 0] rfl (sc_X6_keep_L2 B (fun l1 l2 l3 => sc_X6_keep_J35 B l1 l2 l3) fu l1 l2 (0 : Int32))
  exact MH.of hw ⟨rfl, rfl⟩ (by decide) (by simp [lg_sl, va_rf_cat, cat_i, cat_l, cat_r]) (mo_C_X6_keep l0 l1 l2) M0
def C_X11_comes_J43 (l0 : Nat) (l1 : Option Nat) (l2 : Option Nat) : Hp → Option (Unit × Hp) :=
  hCv 13 (some l0) (fun a => C_X11_distribute a l2 l1) fun r1 =>
  rt ()
set_option maxRecDepth 10000 in
theorem mo_C_X11_comes_J43 (l0 : Nat) (l1 : Option Nat) (l2 : Option Nat) : Mo (C_X11_comes_J43 l0 l1 l2) := by
  unfold C_X11_comes_J43
  repeat' (with_reducible first | assumption | exact mo_rt _ | exact mo_zt _ | exact mo_no | apply mo_C_X11_distribute | refine mo_ite ?_ ?_ | refine mo_hgI (fun _ => ?_) | refine mo_hgR (fun _ => ?_) | refine mo_hCv (fun _ => ?_) (fun _ => ?_) | refine mo_lq (fun _ => ?_) | refine mo_hpI ?_ | refine mo_hpR ?_ | refine mo_hAi (fun _ => ?_) | refine mo_hAr (fun _ => ?_) | refine mo_hWi ?_ | refine mo_hWr ?_ | refine mo_hLn (fun _ => ?_) | refine mo_hgL (fun _ => ?_) | refine mo_hpL ?_ | refine mo_hpZ ?_ | refine mo_bd ?_ (fun _ => ?_) | refine mo_hCi (fun _ => ?_) (fun _ => ?_) | refine mo_hNw (fun _ => ?_) | refine mo_hNa (fun _ => ?_) | refine mo_hCp ?_ | refine mo_hOi ?_ | refine mo_hAl (fun _ => ?_) | refine mo_hWl ?_ | refine mo_gd ?_ | refine mo_sLn (fun _ => ?_) | refine mo_sAt (fun _ => ?_) | refine mo_kLn (fun _ => ?_) | refine mo_kAt (fun _ => ?_))
set_option maxRecDepth 10000 in
theorem sc_X11_comes_J43 {g : Gm Hp Unit} (B : Bx g cX11_comes 3 RX11 voV none 4 117 "comes") {l0 : Nat} (l1 : Option Nat) (l2 : Option Nat) : Sm g 3 43 [(0, va_rf (some l0)), (1, va_rf l1), (2, va_rf l2)] [] (C_X11_comes_J43 l0 l1 l2) := by
  unfold C_X11_comes_J43
  refine s_rload_n B.1.1 0 dX11_comes_43 rfl rfl ?_
  refine s_rload_n B.1.1 2 dX11_comes_44 rfl rfl ?_
  refine s_rload_n B.1.1 1 dX11_comes_45 rfl rfl ?_
  refine hp_cvi (As := [va_rf l2, va_rf l1]) (st := []) 13 rfl (by decide) B.1 (fun a => mC_X11_distribute B.2.1 a l2 l1) cc_X11_distribute cl_X11_498 cn_X11_distribute ce_X11_distribute ci_X11 cd_X11_distribute (by decide) rfl (Nat.le_of_ble_eq_true rfl) dX11_comes_46 (fun r1 => ?_)
  refine s_pop B.1.1 dX11_comes_49 rfl ?_
  exact s_vret B.1.1 B.2.2.2.2 dX11_comes_50
def C_X11_comes (l0 : Nat) (l1 : Option Nat) : Hp → Option (Unit × Hp) :=
  hgR 10 11 l1 fun v2 =>
  if v2 = none then (
    rt ()
  ) else (
    hpR 10 11 l1 none <|
    hgI 13 9 (some l0) fun v3 =>
    hpI 5 8 v2 v3 <|
    hgI 5 3 v2 fun v4 =>
    if v4 = 0 then (
      C_X11_comes_J43 l0 l1 v2
    ) else (
      hgR 13 2 (some l0) fun v5 =>
      hgI 13 9 (some l0) fun v6 =>
      hCv 8 v5 (fun a => C_X6_keep a v2 v6) fun r7 =>
      C_X11_comes_J43 l0 l1 v2
    )
  )
set_option maxRecDepth 10000 in
theorem mo_C_X11_comes (l0 : Nat) (l1 : Option Nat) : Mo (C_X11_comes l0 l1) := by
  unfold C_X11_comes
  repeat' (with_reducible first | assumption | exact mo_rt _ | exact mo_zt _ | exact mo_no | apply mo_C_X11_comes_J43 | apply mo_C_X6_keep | refine mo_ite ?_ ?_ | refine mo_hgI (fun _ => ?_) | refine mo_hgR (fun _ => ?_) | refine mo_hCv (fun _ => ?_) (fun _ => ?_) | refine mo_lq (fun _ => ?_) | refine mo_hpI ?_ | refine mo_hpR ?_ | refine mo_hAi (fun _ => ?_) | refine mo_hAr (fun _ => ?_) | refine mo_hWi ?_ | refine mo_hWr ?_ | refine mo_hLn (fun _ => ?_) | refine mo_hgL (fun _ => ?_) | refine mo_hpL ?_ | refine mo_hpZ ?_ | refine mo_bd ?_ (fun _ => ?_) | refine mo_hCi (fun _ => ?_) (fun _ => ?_) | refine mo_hNw (fun _ => ?_) | refine mo_hNa (fun _ => ?_) | refine mo_hCp ?_ | refine mo_hOi ?_ | refine mo_hAl (fun _ => ?_) | refine mo_hWl ?_ | refine mo_gd ?_ | refine mo_sLn (fun _ => ?_) | refine mo_sAt (fun _ => ?_) | refine mo_kLn (fun _ => ?_) | refine mo_kAt (fun _ => ?_))
set_option maxRecDepth 10000 in
theorem mC_X11_comes {w : Wd} (hw : Wc w) (l0 : Nat) (l1 : Option Nat) : MH w yX11_comes cX11_comes 3 none 4 117 voV [va_rf (some l0), va_rf l1] (C_X11_comes l0 l1) := by
  have M0 : ∀ g : Gm Hp Unit, g.1 = w → Bx g cX11_comes 3 RX11 voV none 4 117 "comes" → Sm g 3 0 (lv_args 0 [va_rf (some l0), va_rf l1]) [] (C_X11_comes l0 l1) := by
    intro g hg B
    subst hg
    unfold C_X11_comes
    refine W_lva (lv := [(0, va_rf (some l0)), (1, va_rf l1)]) (by simp [lv_args, va_rf_cat, cat_i, cat_l, cat_r]) ?_
    refine s_rload_n B.1.1 1 dX11_comes_0 rfl rfl ?_
    refine hp_getR B.1 10 11 rfl (by decide) inX8 (by decide) fk_X8_11 cf_X11_170 dX11_comes_1 (fun v2 => ?_)
    refine s_rstore_n (i := 2) (lv' := [(2, va_rf v2), (0, va_rf (some l0)), (1, va_rf l1)]) B.1.1 dX11_comes_4 rfl (by decide) (by simp [va_rf_cat, cat_i, cat_l, cat_r]) ?_
    refine s_rload_n B.1.1 0 dX11_comes_5 rfl rfl ?_
    refine s_ifnonnull B.1.1 10 dX11_comes_6 (by decide) ?_ ?_
    · refine s_rload_n B.1.1 2 dX11_comes_10 rfl rfl ?_
      refine s_null B.1.1 dX11_comes_11 ?_
      refine hp_putR B.1 10 11 rfl (by decide) inX8 tyX8 tyX8_ok nmX8 (by decide) fk_X8_11 ft_X8_11 rfR rfl cf_X11_170 dX11_comes_12 ?_
      refine s_rload_n B.1.1 0 dX11_comes_15 rfl rfl ?_
      refine s_rload_n B.1.1 1 dX11_comes_16 rfl rfl ?_
      refine hp_getI B.1 13 9 rfl (by decide) inX11 (by decide) fk_X11_9.1 fk_X11_9.2 cf_X11_131 dX11_comes_17 (fun v3 => ?_)
      refine hp_putI B.1 5 8 rfl (by decide) inX3 tyX3 tyX3_ok nmX3 (by decide) fk_X3_8.1 fk_X3_8.2 ft_X3_8 rfl cf_X11_485 dX11_comes_20 ?_
      refine s_rload_n B.1.1 0 dX11_comes_23 rfl rfl ?_
      refine hp_getI B.1 5 3 rfl (by decide) inX3 (by decide) fk_X3_3.1 fk_X3_3.2 cf_X11_492 dX11_comes_24 (fun v4 => ?_)
      refine s_if_eq B.1.1 43 dX11_comes_27 (by decide) ?_ ?_
      · exact Sm.lvs [1, 2, 0] rfl (sc_X11_comes_J43 B l1 v2)
      · refine s_rload_n B.1.1 1 dX11_comes_30 rfl rfl ?_
        refine hp_getR B.1 13 2 rfl (by decide) inX11 (by decide) fk_X11_2 cf_X11_27 dX11_comes_31 (fun v5 => ?_)
        refine s_rload_n B.1.1 0 dX11_comes_34 rfl rfl ?_
        refine s_rload_n B.1.1 1 dX11_comes_35 rfl rfl ?_
        refine hp_getI B.1 13 9 rfl (by decide) inX11 (by decide) fk_X11_9.1 fk_X11_9.2 cf_X11_131 dX11_comes_36 (fun v6 => ?_)
        refine hp_cvi (As := [va_rf v2, .int v6]) (st := []) 8 rfl (by decide) B.1 (fun a => mC_X6_keep B.2.1 a v2 v6) cc_X6_keep cl_X11_495 cn_X6_keep ce_X6_keep ci_X6 cd_X6_keep (by decide) rfl (Nat.le_of_ble_eq_true rfl) dX11_comes_39 (fun r7 => ?_)
        refine s_pop B.1.1 dX11_comes_42 rfl ?_
        exact Sm.lvs [1, 2, 0] rfl (sc_X11_comes_J43 B l1 v2)
    · exact s_vret B.1.1 B.2.2.2.2 dX11_comes_9
  exact MH.of hw ⟨rfl, rfl⟩ (by decide) (by simp [lg_sl, va_rf_cat, cat_i, cat_l, cat_r]) (mo_C_X11_comes l0 l1) M0
def C_X11_remove (l0 : Nat) (l1 : Option Nat) : Hp → Option (Unit × Hp) :=
  hgR 13 1 (some l0) fun v1 =>
  hgI 10 0 l1 fun v2 =>
  hWr 5 10 v1 v2 none <|
  hgI 13 13 (some l0) fun v3 =>
  hpI 13 13 (some l0) (v3 + (1 : Int32)) <|
  rt ()
set_option maxRecDepth 10000 in
theorem mo_C_X11_remove (l0 : Nat) (l1 : Option Nat) : Mo (C_X11_remove l0 l1) := by
  unfold C_X11_remove
  repeat' (with_reducible first | assumption | exact mo_rt _ | exact mo_zt _ | exact mo_no | refine mo_ite ?_ ?_ | refine mo_hgI (fun _ => ?_) | refine mo_hgR (fun _ => ?_) | refine mo_hCv (fun _ => ?_) (fun _ => ?_) | refine mo_lq (fun _ => ?_) | refine mo_hpI ?_ | refine mo_hpR ?_ | refine mo_hAi (fun _ => ?_) | refine mo_hAr (fun _ => ?_) | refine mo_hWi ?_ | refine mo_hWr ?_ | refine mo_hLn (fun _ => ?_) | refine mo_hgL (fun _ => ?_) | refine mo_hpL ?_ | refine mo_hpZ ?_ | refine mo_bd ?_ (fun _ => ?_) | refine mo_hCi (fun _ => ?_) (fun _ => ?_) | refine mo_hNw (fun _ => ?_) | refine mo_hNa (fun _ => ?_) | refine mo_hCp ?_ | refine mo_hOi ?_ | refine mo_hAl (fun _ => ?_) | refine mo_hWl ?_ | refine mo_gd ?_ | refine mo_sLn (fun _ => ?_) | refine mo_sAt (fun _ => ?_) | refine mo_kLn (fun _ => ?_) | refine mo_kAt (fun _ => ?_))
set_option maxRecDepth 10000 in
theorem mC_X11_remove {w : Wd} (hw : Wc w) (l0 : Nat) (l1 : Option Nat) : MH w yX11_remove cX11_remove 2 none 0 0 voV [va_rf (some l0), va_rf l1] (C_X11_remove l0 l1) := by
  have M0 : ∀ g : Gm Hp Unit, g.1 = w → Bx g cX11_remove 2 RX11 voV none 0 0 "remove" → Sm g 2 0 (lv_args 0 [va_rf (some l0), va_rf l1]) [] (C_X11_remove l0 l1) := by
    intro g hg B
    subst hg
    unfold C_X11_remove
    refine W_lva (lv := [(0, va_rf (some l0)), (1, va_rf l1)]) (by simp [lv_args, va_rf_cat, cat_i, cat_l, cat_r]) ?_
    refine s_rload_n B.1.1 0 dX11_remove_0 rfl rfl ?_
    refine hp_getR B.1 13 1 rfl (by decide) inX11 (by decide) fk_X11_1 cf_X11_20 dX11_remove_1 (fun v1 => ?_)
    refine s_rload_n B.1.1 1 dX11_remove_4 rfl rfl ?_
    refine hp_getI B.1 10 0 rfl (by decide) inX8 (by decide) fk_X8_0.1 fk_X8_0.2 cf_X11_523 dX11_remove_5 (fun v2 => ?_)
    refine s_null B.1.1 dX11_remove_8 ?_
    refine hp_Wr B.1 5 10 (by decide) (fun _ => rfl) rfl (by decide) dX11_remove_9 ?_
    refine s_rload_n B.1.1 0 dX11_remove_10 rfl rfl ?_
    refine s_dup B.1.1 dX11_remove_11 rfl ?_
    refine hp_getI B.1 13 13 rfl (by decide) inX11 (by decide) fk_X11_13.1 fk_X11_13.2 cf_X11_134 dX11_remove_12 (fun v3 => ?_)
    refine s_iconst (v := 1) B.1.1 dX11_remove_15 (by decide) ?_
    refine s_iadd B.1.1 dX11_remove_16 ?_
    refine hp_putI B.1 13 13 rfl (by decide) inX11 tyX11 tyX11_ok nmX11 (by decide) fk_X11_13.1 fk_X11_13.2 ft_X11_13 rfl cf_X11_134 dX11_remove_17 ?_
    exact s_vret B.1.1 B.2.2.2.2 dX11_remove_20
  exact MH.of hw ⟨rfl, rfl⟩ (by decide) (by simp [lg_sl, va_rf_cat, cat_i, cat_l, cat_r]) (mo_C_X11_remove l0 l1) M0
def C_X11_end (l0 : Nat) (l1 : Option Nat) : Hp → Option (Unit × Hp) :=
  hCv 13 (some l0) (fun a => C_X11_comes a l1) fun r1 =>
  hCv 13 (some l0) (fun a => C_X11_remove a l1) fun r2 =>
  rt ()
set_option maxRecDepth 10000 in
theorem mo_C_X11_end (l0 : Nat) (l1 : Option Nat) : Mo (C_X11_end l0 l1) := by
  unfold C_X11_end
  repeat' (with_reducible first | assumption | exact mo_rt _ | exact mo_zt _ | exact mo_no | apply mo_C_X11_comes | apply mo_C_X11_remove | refine mo_ite ?_ ?_ | refine mo_hgI (fun _ => ?_) | refine mo_hgR (fun _ => ?_) | refine mo_hCv (fun _ => ?_) (fun _ => ?_) | refine mo_lq (fun _ => ?_) | refine mo_hpI ?_ | refine mo_hpR ?_ | refine mo_hAi (fun _ => ?_) | refine mo_hAr (fun _ => ?_) | refine mo_hWi ?_ | refine mo_hWr ?_ | refine mo_hLn (fun _ => ?_) | refine mo_hgL (fun _ => ?_) | refine mo_hpL ?_ | refine mo_hpZ ?_ | refine mo_bd ?_ (fun _ => ?_) | refine mo_hCi (fun _ => ?_) (fun _ => ?_) | refine mo_hNw (fun _ => ?_) | refine mo_hNa (fun _ => ?_) | refine mo_hCp ?_ | refine mo_hOi ?_ | refine mo_hAl (fun _ => ?_) | refine mo_hWl ?_ | refine mo_gd ?_ | refine mo_sLn (fun _ => ?_) | refine mo_sAt (fun _ => ?_) | refine mo_kLn (fun _ => ?_) | refine mo_kAt (fun _ => ?_))
set_option maxRecDepth 10000 in
theorem mC_X11_end {w : Wd} (hw : Wc w) (l0 : Nat) (l1 : Option Nat) : MH w yX11_end cX11_end 2 none 5 139 voV [va_rf (some l0), va_rf l1] (C_X11_end l0 l1) := by
  have M0 : ∀ g : Gm Hp Unit, g.1 = w → Bx g cX11_end 2 RX11 voV none 5 139 "end" → Sm g 2 0 (lv_args 0 [va_rf (some l0), va_rf l1]) [] (C_X11_end l0 l1) := by
    intro g hg B
    subst hg
    unfold C_X11_end
    refine W_lva (lv := [(0, va_rf (some l0)), (1, va_rf l1)]) (by simp [lv_args, va_rf_cat, cat_i, cat_l, cat_r]) ?_
    refine s_rload_n B.1.1 0 dX11_end_0 rfl rfl ?_
    refine s_rload_n B.1.1 1 dX11_end_1 rfl rfl ?_
    refine hp_cvv (As := [va_rf l1]) (st := []) 13 rfl (by decide) B.1 (fun a => mC_X11_comes B.2.1 a l1) cc_X11_comes cl_X11_613 cn_X11_comes ce_X11_comes ci_X11 cd_X11_comes (by decide) rfl (Nat.le_of_ble_eq_true rfl) dX11_end_2 (fun r1 => ?_)
    refine s_rload_n B.1.1 0 dX11_end_5 rfl rfl ?_
    refine s_rload_n B.1.1 1 dX11_end_6 rfl rfl ?_
    refine hp_cvv (As := [va_rf l1]) (st := []) 13 rfl (by decide) B.1 (fun a => mC_X11_remove B.2.1 a l1) cc_X11_remove cl_X11_616 cn_X11_remove ce_X11_remove ci_X11 cd_X11_remove (by decide) rfl (Nat.le_of_ble_eq_true rfl) dX11_end_7 (fun r2 => ?_)
    exact s_vret B.1.1 B.2.2.2.2 dX11_end_10
  exact MH.of hw ⟨rfl, rfl⟩ (by decide) (by simp [lg_sl, va_rf_cat, cat_i, cat_l, cat_r]) (mo_C_X11_end l0 l1) M0
def C_X11_find_J38 (l0 : Nat) : Hp → Option ((Option Nat) × Hp) :=
  rt (none)
set_option maxRecDepth 10000 in
theorem mo_C_X11_find_J38 (l0 : Nat) : Mo (C_X11_find_J38 l0) := by
  unfold C_X11_find_J38
  repeat' (with_reducible first | assumption | exact mo_rt _ | exact mo_zt _ | exact mo_no | refine mo_ite ?_ ?_ | refine mo_hgI (fun _ => ?_) | refine mo_hgR (fun _ => ?_) | refine mo_hCv (fun _ => ?_) (fun _ => ?_) | refine mo_lq (fun _ => ?_) | refine mo_hpI ?_ | refine mo_hpR ?_ | refine mo_hAi (fun _ => ?_) | refine mo_hAr (fun _ => ?_) | refine mo_hWi ?_ | refine mo_hWr ?_ | refine mo_hLn (fun _ => ?_) | refine mo_hgL (fun _ => ?_) | refine mo_hpL ?_ | refine mo_hpZ ?_ | refine mo_bd ?_ (fun _ => ?_) | refine mo_hCi (fun _ => ?_) (fun _ => ?_) | refine mo_hNw (fun _ => ?_) | refine mo_hNa (fun _ => ?_) | refine mo_hCp ?_ | refine mo_hOi ?_ | refine mo_hAl (fun _ => ?_) | refine mo_hWl ?_ | refine mo_gd ?_ | refine mo_sLn (fun _ => ?_) | refine mo_sAt (fun _ => ?_) | refine mo_kLn (fun _ => ?_) | refine mo_kAt (fun _ => ?_))
set_option maxRecDepth 10000 in
theorem sc_X11_find_J38 {g : Gm Hp (Option Nat)} (B : Bx g cX11_find 4 RX11 voR (some (.object "TopicBroker$Session")) 1 22 "find") {l0 : Nat} : Sm g 4 38 [] [] (C_X11_find_J38 l0) := by
  unfold C_X11_find_J38
  refine s_null B.1.1 dX11_find_38 ?_
  exact s_aret B.1.1 B.2.2.2.2 (Or.inl ⟨_, rfl⟩) dX11_find_39
def C_X11_find_J30 (l0 : Nat) (l3 : Option Nat) : Hp → Option ((Option Nat) × Hp) :=
  rt (l3)
set_option maxRecDepth 10000 in
theorem mo_C_X11_find_J30 (l0 : Nat) (l3 : Option Nat) : Mo (C_X11_find_J30 l0 l3) := by
  unfold C_X11_find_J30
  repeat' (with_reducible first | assumption | exact mo_rt _ | exact mo_zt _ | exact mo_no | refine mo_ite ?_ ?_ | refine mo_hgI (fun _ => ?_) | refine mo_hgR (fun _ => ?_) | refine mo_hCv (fun _ => ?_) (fun _ => ?_) | refine mo_lq (fun _ => ?_) | refine mo_hpI ?_ | refine mo_hpR ?_ | refine mo_hAi (fun _ => ?_) | refine mo_hAr (fun _ => ?_) | refine mo_hWi ?_ | refine mo_hWr ?_ | refine mo_hLn (fun _ => ?_) | refine mo_hgL (fun _ => ?_) | refine mo_hpL ?_ | refine mo_hpZ ?_ | refine mo_bd ?_ (fun _ => ?_) | refine mo_hCi (fun _ => ?_) (fun _ => ?_) | refine mo_hNw (fun _ => ?_) | refine mo_hNa (fun _ => ?_) | refine mo_hCp ?_ | refine mo_hOi ?_ | refine mo_hAl (fun _ => ?_) | refine mo_hWl ?_ | refine mo_gd ?_ | refine mo_sLn (fun _ => ?_) | refine mo_sAt (fun _ => ?_) | refine mo_kLn (fun _ => ?_) | refine mo_kAt (fun _ => ?_))
set_option maxRecDepth 10000 in
theorem sc_X11_find_J30 {g : Gm Hp (Option Nat)} (B : Bx g cX11_find 4 RX11 voR (some (.object "TopicBroker$Session")) 1 22 "find") {l0 : Nat} (l3 : Option Nat) : Sm g 4 30 [(3, va_rf l3)] [] (C_X11_find_J30 l0 l3) := by
  unfold C_X11_find_J30
  refine s_rload_n B.1.1 0 dX11_find_30 rfl rfl ?_
  exact s_aret B.1.1 B.2.2.2.2 (Or.inl ⟨_, rfl⟩) dX11_find_31
def C_X11_find_B2 (l0 : Nat) (kb : Option Nat → Int32 → Hp → Option ((Option Nat) × Hp)) (ke30 : Option Nat → Hp → Option ((Option Nat) × Hp)) (ke38 : Hp → Option ((Option Nat) × Hp)) (l1 : Option Nat) (l2 : Int32) : Hp → Option ((Option Nat) × Hp) :=
  if (12 : Int32) ≤ l2 then (
    ke38
  ) else (
    hgR 13 1 (some l0) fun v1 =>
    hAr 5 v1 l2 fun v2 =>
    if v2 = none then (
      kb l1 (l2 + 1)
    ) else (
      hgR 10 1 v2 fun v3 =>
      hCv 9 v3 (fun a => C_X7_same a l1) fun r4 =>
      if r4 = 0 then (
        kb l1 (l2 + 1)
      ) else (
        ke30 v2
      )
    )
  )
def C_X11_find_L2 (l0 : Nat) (ke30 : Option Nat → Hp → Option ((Option Nat) × Hp)) (ke38 : Hp → Option ((Option Nat) × Hp)) : Nat → Option Nat → Int32 → Hp → Option ((Option Nat) × Hp)
  | 0, _, _ => no
  | n + 1, l1, l2 => C_X11_find_B2 l0 (fun l1 l2 => C_X11_find_L2 l0 ke30 ke38 n l1 l2) ke30 ke38 l1 l2
set_option maxRecDepth 10000 in
theorem mo_C_X11_find_B2 (l0 : Nat) (kb : Option Nat → Int32 → Hp → Option ((Option Nat) × Hp)) (ke30 : Option Nat → Hp → Option ((Option Nat) × Hp)) (ke38 : Hp → Option ((Option Nat) × Hp)) (hkb : ∀ (l1 : Option Nat) (l2 : Int32), Mo (kb l1 l2)) (hke30 : ∀ (l3 : Option Nat), Mo (ke30 l3)) (hke38 : Mo (ke38)) (l1 : Option Nat) (l2 : Int32) : Mo (C_X11_find_B2 l0 kb ke30 ke38 l1 l2) := by
  unfold C_X11_find_B2
  repeat' (with_reducible first | assumption | exact mo_rt _ | exact mo_zt _ | exact mo_no | apply mo_C_X7_same | apply hkb | apply hke30 | apply hke38 | refine mo_ite ?_ ?_ | refine mo_hgI (fun _ => ?_) | refine mo_hgR (fun _ => ?_) | refine mo_hCv (fun _ => ?_) (fun _ => ?_) | refine mo_lq (fun _ => ?_) | refine mo_hpI ?_ | refine mo_hpR ?_ | refine mo_hAi (fun _ => ?_) | refine mo_hAr (fun _ => ?_) | refine mo_hWi ?_ | refine mo_hWr ?_ | refine mo_hLn (fun _ => ?_) | refine mo_hgL (fun _ => ?_) | refine mo_hpL ?_ | refine mo_hpZ ?_ | refine mo_bd ?_ (fun _ => ?_) | refine mo_hCi (fun _ => ?_) (fun _ => ?_) | refine mo_hNw (fun _ => ?_) | refine mo_hNa (fun _ => ?_) | refine mo_hCp ?_ | refine mo_hOi ?_ | refine mo_hAl (fun _ => ?_) | refine mo_hWl ?_ | refine mo_gd ?_ | refine mo_sLn (fun _ => ?_) | refine mo_sAt (fun _ => ?_) | refine mo_kLn (fun _ => ?_) | refine mo_kAt (fun _ => ?_))
set_option maxRecDepth 10000 in
theorem mo_C_X11_find_L2 (l0 : Nat) (ke30 : Option Nat → Hp → Option ((Option Nat) × Hp)) (ke38 : Hp → Option ((Option Nat) × Hp)) (hke30 : ∀ (l3 : Option Nat), Mo (ke30 l3)) (hke38 : Mo (ke38)) : ∀ (n : Nat) (l1 : Option Nat) (l2 : Int32), Mo (C_X11_find_L2 l0 ke30 ke38 n l1 l2)
  | 0, _, _ => mo_no
  | n + 1, l1, l2 => mo_C_X11_find_B2 l0 _ ke30 ke38 (mo_C_X11_find_L2 l0 ke30 ke38 hke30 hke38 n) hke30 hke38 l1 l2
set_option maxRecDepth 10000 in
theorem sc_X11_find_B2 {g : Gm Hp (Option Nat)} {kb : Option Nat → Int32 → Hp → Option ((Option Nat) × Hp)} {ke30 : Option Nat → Hp → Option ((Option Nat) × Hp)} {ke38 : Hp → Option ((Option Nat) × Hp)} (B : Bx g cX11_find 4 RX11 voR (some (.object "TopicBroker$Session")) 1 22 "find") {l0 : Nat} (hkb : ∀ (l1 : Option Nat) (l2 : Int32), Sm g 4 2 [(0, va_rf (some l0)), (1, va_rf l1), (2, .int l2)] [] (kb l1 l2)) (hke30 : ∀ (l3 : Option Nat), Sm g 4 30 [(3, va_rf l3)] [] (ke30 l3)) (hke38 : Sm g 4 38 [] [] (ke38)) (l1 : Option Nat) (l2 : Int32) : Sm g 4 2 [(0, va_rf (some l0)), (1, va_rf l1), (2, .int l2)] [] (C_X11_find_B2 l0 kb ke30 ke38 l1 l2) := by
  unfold C_X11_find_B2
  refine s_iload_n B.1.1 2 dX11_find_2 rfl rfl ?_
  refine s_bipush (v := (12)) B.1.1 dX11_find_3 (by decide) ?_
  refine s_icmp_ge B.1.1 38 dX11_find_5 (by decide) ?_ ?_
  · exact Sm.lvs [] rfl (hke38)
  · refine s_rload_n B.1.1 0 dX11_find_8 rfl rfl ?_
    refine hp_getR B.1 13 1 rfl (by decide) inX11 (by decide) fk_X11_1 cf_X11_20 dX11_find_9 (fun v1 => ?_)
    refine s_iload_n B.1.1 2 dX11_find_12 rfl rfl ?_
    refine hp_Ar B.1 5 (by decide) (fun _ => rfl) dX11_find_13 (fun v2 => ?_)
    refine s_rstore_n (i := 3) (lv' := [(3, va_rf v2), (0, va_rf (some l0)), (1, va_rf l1), (2, .int l2)]) B.1.1 dX11_find_14 rfl (by decide) rfl ?_
    refine s_rload_n B.1.1 0 dX11_find_15 rfl rfl ?_
    refine s_ifnull B.1.1 32 dX11_find_16 (by decide) ?_ ?_
    · refine s_iinc (v := l2 + 1) (lv' := [(2, .int (l2 + 1)), (3, va_rf v2), (0, va_rf (some l0)), (1, va_rf l1)]) B.1.1 3 dX11_find_32 rfl rfl (by decide) (by simp [va_rf_cat, cat_i, cat_l, cat_r]) ?_
      refine s_goto B.1.1 2 dX11_find_35 (by decide) ?_
      exact Sm.lvs [2, 3, 0] rfl (hkb l1 (l2 + 1))
    · refine s_rload_n B.1.1 0 dX11_find_19 rfl rfl ?_
      refine hp_getR B.1 10 1 rfl (by decide) inX8 (by decide) fk_X8_1 cf_X11_174 dX11_find_20 (fun v3 => ?_)
      refine s_rload_n B.1.1 2 dX11_find_23 rfl rfl ?_
      refine hp_cvi (As := [va_rf l1]) (st := []) 9 rfl (by decide) B.1 (fun a => mC_X7_same B.2.1 a l1) cc_X7_same cl_X11_367 cn_X7_same ce_X7_same ci_X7 cd_X7_same (by decide) rfl (Nat.le_of_ble_eq_true rfl) dX11_find_24 (fun r4 => ?_)
      refine s_if_eq B.1.1 32 dX11_find_27 (by decide) ?_ ?_
      · refine s_iinc (v := l2 + 1) (lv' := [(2, .int (l2 + 1)), (3, va_rf v2), (0, va_rf (some l0)), (1, va_rf l1)]) B.1.1 3 dX11_find_32 rfl rfl (by decide) (by simp [va_rf_cat, cat_i, cat_l, cat_r]) ?_
        refine s_goto B.1.1 2 dX11_find_35 (by decide) ?_
        exact Sm.lvs [2, 3, 0] rfl (hkb l1 (l2 + 1))
      · exact Sm.lvs [0] rfl (hke30 v2)
set_option maxRecDepth 10000 in
theorem sc_X11_find_L2 {g : Gm Hp (Option Nat)} {ke30 : Option Nat → Hp → Option ((Option Nat) × Hp)} {ke38 : Hp → Option ((Option Nat) × Hp)} (B : Bx g cX11_find 4 RX11 voR (some (.object "TopicBroker$Session")) 1 22 "find") {l0 : Nat} (hke30 : ∀ (l3 : Option Nat), Sm g 4 30 [(3, va_rf l3)] [] (ke30 l3)) (hke38 : Sm g 4 38 [] [] (ke38)) : ∀ (n : Nat) (l1 : Option Nat) (l2 : Int32), Sm g 4 2 [(0, va_rf (some l0)), (1, va_rf l1), (2, .int l2)] [] (C_X11_find_L2 l0 ke30 ke38 n l1 l2)
  | 0, _, _ => Sm.fail
  | n + 1, l1, l2 => sc_X11_find_B2 B (sc_X11_find_L2 B hke30 hke38 n) hke30 hke38 l1 l2
def C_X11_find (l0 : Nat) (l1 : Option Nat) : Hp → Option ((Option Nat) × Hp) :=
  C_X11_find_L2 l0 (fun l3 => C_X11_find_J30 l0 l3) (C_X11_find_J38 l0) fu l1 (0 : Int32)
set_option maxRecDepth 10000 in
theorem mo_C_X11_find (l0 : Nat) (l1 : Option Nat) : Mo (C_X11_find l0 l1) := by
  unfold C_X11_find
  repeat' (with_reducible first | assumption | exact mo_rt _ | exact mo_zt _ | exact mo_no | apply mo_C_X11_find_L2 | apply mo_C_X11_find_J30 | apply mo_C_X11_find_J38 | refine mo_ite ?_ ?_ | refine mo_hgI (fun _ => ?_) | refine mo_hgR (fun _ => ?_) | refine mo_hCv (fun _ => ?_) (fun _ => ?_) | refine mo_lq (fun _ => ?_) | refine mo_hpI ?_ | refine mo_hpR ?_ | refine mo_hAi (fun _ => ?_) | refine mo_hAr (fun _ => ?_) | refine mo_hWi ?_ | refine mo_hWr ?_ | refine mo_hLn (fun _ => ?_) | refine mo_hgL (fun _ => ?_) | refine mo_hpL ?_ | refine mo_hpZ ?_ | refine mo_bd ?_ (fun _ => ?_) | refine mo_hCi (fun _ => ?_) (fun _ => ?_) | refine mo_hNw (fun _ => ?_) | refine mo_hNa (fun _ => ?_) | refine mo_hCp ?_ | refine mo_hOi ?_ | refine mo_hAl (fun _ => ?_) | refine mo_hWl ?_ | refine mo_gd ?_ | refine mo_sLn (fun _ => ?_) | refine mo_sAt (fun _ => ?_) | refine mo_kLn (fun _ => ?_) | refine mo_kAt (fun _ => ?_))
set_option maxRecDepth 10000 in
theorem mC_X11_find {w : Wd} (hw : Wc w) (l0 : Nat) (l1 : Option Nat) : MH w yX11_find cX11_find 4 (some (.object "TopicBroker$Session")) 1 22 voR [va_rf (some l0), va_rf l1] (C_X11_find l0 l1) := by
  have M0 : ∀ g : Gm Hp (Option Nat), g.1 = w → Bx g cX11_find 4 RX11 voR (some (.object "TopicBroker$Session")) 1 22 "find" → Sm g 4 0 (lv_args 0 [va_rf (some l0), va_rf l1]) [] (C_X11_find l0 l1) := by
    intro g hg B
    subst hg
    unfold C_X11_find
    refine W_lva (lv := [(0, va_rf (some l0)), (1, va_rf l1)]) (by simp [lv_args, va_rf_cat, cat_i, cat_l, cat_r]) ?_
    refine s_iconst (v := 0) B.1.1 dX11_find_0 (by decide) ?_
    refine s_istore_n (i := 2) (lv' := [(2, .int (0 : Int32)), (0, va_rf (some l0)), (1, va_rf l1)]) B.1.1 dX11_find_1 rfl (by decide) (by simp [va_rf_cat, cat_i, cat_l, cat_r]) ?_
    exact Sm.lvs [1, 2, 0] rfl (sc_X11_find_L2 B (fun l3 => sc_X11_find_J30 B l3) (sc_X11_find_J38 B) fu l1 (0 : Int32))
  exact MH.of hw ⟨rfl, rfl⟩ (by decide) (by simp [lg_sl, va_rf_cat, cat_i, cat_l, cat_r]) (mo_C_X11_find l0 l1) M0
def C_X8_unqueue_J56 (l0 : Nat) (l1 : Option Nat) : Hp → Option ((Option Nat) × Hp) :=
  rt (l1)
set_option maxRecDepth 10000 in
theorem mo_C_X8_unqueue_J56 (l0 : Nat) (l1 : Option Nat) : Mo (C_X8_unqueue_J56 l0 l1) := by
  unfold C_X8_unqueue_J56
  repeat' (with_reducible first | assumption | exact mo_rt _ | exact mo_zt _ | exact mo_no | refine mo_ite ?_ ?_ | refine mo_hgI (fun _ => ?_) | refine mo_hgR (fun _ => ?_) | refine mo_hCv (fun _ => ?_) (fun _ => ?_) | refine mo_lq (fun _ => ?_) | refine mo_hpI ?_ | refine mo_hpR ?_ | refine mo_hAi (fun _ => ?_) | refine mo_hAr (fun _ => ?_) | refine mo_hWi ?_ | refine mo_hWr ?_ | refine mo_hLn (fun _ => ?_) | refine mo_hgL (fun _ => ?_) | refine mo_hpL ?_ | refine mo_hpZ ?_ | refine mo_bd ?_ (fun _ => ?_) | refine mo_hCi (fun _ => ?_) (fun _ => ?_) | refine mo_hNw (fun _ => ?_) | refine mo_hNa (fun _ => ?_) | refine mo_hCp ?_ | refine mo_hOi ?_ | refine mo_hAl (fun _ => ?_) | refine mo_hWl ?_ | refine mo_gd ?_ | refine mo_sLn (fun _ => ?_) | refine mo_sAt (fun _ => ?_) | refine mo_kLn (fun _ => ?_) | refine mo_kAt (fun _ => ?_))
set_option maxRecDepth 10000 in
theorem sc_X8_unqueue_J56 {g : Gm Hp (Option Nat)} (B : Bx g cX8_unqueue 3 RX8 voR (some (.object "TopicBroker$Delivery")) 0 0 "unqueue") {l0 : Nat} (l1 : Option Nat) : Sm g 3 56 [(1, va_rf l1)] [] (C_X8_unqueue_J56 l0 l1) := by
  unfold C_X8_unqueue_J56
  refine s_rload_n B.1.1 0 dX8_unqueue_56 rfl rfl ?_
  exact s_aret B.1.1 B.2.2.2.2 (Or.inl ⟨_, rfl⟩) dX8_unqueue_57
def C_X8_unqueue_B28 (l0 : Nat) (kb : Option Nat → Int32 → Hp → Option ((Option Nat) × Hp)) (ke56 : Option Nat → Hp → Option ((Option Nat) × Hp)) (l1 : Option Nat) (l2 : Int32) : Hp → Option ((Option Nat) × Hp) :=
  hgI 10 8 (some l0) fun v1 =>
  if v1 ≤ l2 then (
    ke56 l1
  ) else (
    hgR 10 7 (some l0) fun v2 =>
    hgR 10 7 (some l0) fun v3 =>
    hAr 7 v3 (l2 + (1 : Int32)) fun v4 =>
    hWr 7 3 v2 l2 v4 <|
    kb l1 (l2 + 1)
  )
def C_X8_unqueue_L28 (l0 : Nat) (ke56 : Option Nat → Hp → Option ((Option Nat) × Hp)) : Nat → Option Nat → Int32 → Hp → Option ((Option Nat) × Hp)
  | 0, _, _ => no
  | n + 1, l1, l2 => C_X8_unqueue_B28 l0 (fun l1 l2 => C_X8_unqueue_L28 l0 ke56 n l1 l2) ke56 l1 l2
set_option maxRecDepth 10000 in
theorem mo_C_X8_unqueue_B28 (l0 : Nat) (kb : Option Nat → Int32 → Hp → Option ((Option Nat) × Hp)) (ke56 : Option Nat → Hp → Option ((Option Nat) × Hp)) (hkb : ∀ (l1 : Option Nat) (l2 : Int32), Mo (kb l1 l2)) (hke56 : ∀ (l1 : Option Nat), Mo (ke56 l1)) (l1 : Option Nat) (l2 : Int32) : Mo (C_X8_unqueue_B28 l0 kb ke56 l1 l2) := by
  unfold C_X8_unqueue_B28
  repeat' (with_reducible first | assumption | exact mo_rt _ | exact mo_zt _ | exact mo_no | apply hkb | apply hke56 | refine mo_ite ?_ ?_ | refine mo_hgI (fun _ => ?_) | refine mo_hgR (fun _ => ?_) | refine mo_hCv (fun _ => ?_) (fun _ => ?_) | refine mo_lq (fun _ => ?_) | refine mo_hpI ?_ | refine mo_hpR ?_ | refine mo_hAi (fun _ => ?_) | refine mo_hAr (fun _ => ?_) | refine mo_hWi ?_ | refine mo_hWr ?_ | refine mo_hLn (fun _ => ?_) | refine mo_hgL (fun _ => ?_) | refine mo_hpL ?_ | refine mo_hpZ ?_ | refine mo_bd ?_ (fun _ => ?_) | refine mo_hCi (fun _ => ?_) (fun _ => ?_) | refine mo_hNw (fun _ => ?_) | refine mo_hNa (fun _ => ?_) | refine mo_hCp ?_ | refine mo_hOi ?_ | refine mo_hAl (fun _ => ?_) | refine mo_hWl ?_ | refine mo_gd ?_ | refine mo_sLn (fun _ => ?_) | refine mo_sAt (fun _ => ?_) | refine mo_kLn (fun _ => ?_) | refine mo_kAt (fun _ => ?_))
set_option maxRecDepth 10000 in
theorem mo_C_X8_unqueue_L28 (l0 : Nat) (ke56 : Option Nat → Hp → Option ((Option Nat) × Hp)) (hke56 : ∀ (l1 : Option Nat), Mo (ke56 l1)) : ∀ (n : Nat) (l1 : Option Nat) (l2 : Int32), Mo (C_X8_unqueue_L28 l0 ke56 n l1 l2)
  | 0, _, _ => mo_no
  | n + 1, l1, l2 => mo_C_X8_unqueue_B28 l0 _ ke56 (mo_C_X8_unqueue_L28 l0 ke56 hke56 n) hke56 l1 l2
set_option maxRecDepth 10000 in
theorem sc_X8_unqueue_B28 {g : Gm Hp (Option Nat)} {kb : Option Nat → Int32 → Hp → Option ((Option Nat) × Hp)} {ke56 : Option Nat → Hp → Option ((Option Nat) × Hp)} (B : Bx g cX8_unqueue 3 RX8 voR (some (.object "TopicBroker$Delivery")) 0 0 "unqueue") {l0 : Nat} (hkb : ∀ (l1 : Option Nat) (l2 : Int32), Sm g 3 28 [(0, va_rf (some l0)), (1, va_rf l1), (2, .int l2)] [] (kb l1 l2)) (hke56 : ∀ (l1 : Option Nat), Sm g 3 56 [(1, va_rf l1)] [] (ke56 l1)) (l1 : Option Nat) (l2 : Int32) : Sm g 3 28 [(0, va_rf (some l0)), (1, va_rf l1), (2, .int l2)] [] (C_X8_unqueue_B28 l0 kb ke56 l1 l2) := by
  unfold C_X8_unqueue_B28
  refine s_iload_n B.1.1 2 dX8_unqueue_28 rfl rfl ?_
  refine s_rload_n B.1.1 0 dX8_unqueue_29 rfl rfl ?_
  refine hp_getI B.1 10 8 rfl (by decide) inX8 (by decide) fk_X8_8.1 fk_X8_8.2 cf_X8_91 dX8_unqueue_30 (fun v1 => ?_)
  refine s_icmp_ge B.1.1 56 dX8_unqueue_33 (by decide) ?_ ?_
  · exact Sm.lvs [1] rfl (hke56 l1)
  · refine s_rload_n B.1.1 0 dX8_unqueue_36 rfl rfl ?_
    refine hp_getR B.1 10 7 rfl (by decide) inX8 (by decide) fk_X8_7 cf_X8_23 dX8_unqueue_37 (fun v2 => ?_)
    refine s_iload_n B.1.1 2 dX8_unqueue_40 rfl rfl ?_
    refine s_rload_n B.1.1 0 dX8_unqueue_41 rfl rfl ?_
    refine hp_getR B.1 10 7 rfl (by decide) inX8 (by decide) fk_X8_7 cf_X8_23 dX8_unqueue_42 (fun v3 => ?_)
    refine s_iload_n B.1.1 2 dX8_unqueue_45 rfl rfl ?_
    refine s_iconst (v := 1) B.1.1 dX8_unqueue_46 (by decide) ?_
    refine s_iadd B.1.1 dX8_unqueue_47 ?_
    refine hp_Ar B.1 7 (by decide) (fun _ => rfl) dX8_unqueue_48 (fun v4 => ?_)
    refine hp_Wr B.1 7 3 (by decide) (fun _ => rfl) rfl (by decide) dX8_unqueue_49 ?_
    refine s_iinc (v := l2 + 1) (lv' := [(2, .int (l2 + 1)), (0, va_rf (some l0)), (1, va_rf l1)]) B.1.1 2 dX8_unqueue_50 rfl rfl (by decide) (by simp [va_rf_cat, cat_i, cat_l, cat_r]) ?_
    refine s_goto B.1.1 28 dX8_unqueue_53 (by decide) ?_
    exact Sm.lvs [1, 2, 0] rfl (hkb l1 (l2 + 1))
set_option maxRecDepth 10000 in
theorem sc_X8_unqueue_L28 {g : Gm Hp (Option Nat)} {ke56 : Option Nat → Hp → Option ((Option Nat) × Hp)} (B : Bx g cX8_unqueue 3 RX8 voR (some (.object "TopicBroker$Delivery")) 0 0 "unqueue") {l0 : Nat} (hke56 : ∀ (l1 : Option Nat), Sm g 3 56 [(1, va_rf l1)] [] (ke56 l1)) : ∀ (n : Nat) (l1 : Option Nat) (l2 : Int32), Sm g 3 28 [(0, va_rf (some l0)), (1, va_rf l1), (2, .int l2)] [] (C_X8_unqueue_L28 l0 ke56 n l1 l2)
  | 0, _, _ => Sm.fail
  | n + 1, l1, l2 => sc_X8_unqueue_B28 B (sc_X8_unqueue_L28 B hke56 n) hke56 l1 l2
def C_X8_unqueue (l0 : Nat) : Hp → Option ((Option Nat) × Hp) :=
  hgI 10 8 (some l0) fun v5 =>
  if v5 = 0 then (
    rt (none)
  ) else (
    hgR 10 7 (some l0) fun v6 =>
    hAr 7 v6 (0 : Int32) fun v7 =>
    hgI 10 8 (some l0) fun v8 =>
    hpI 10 8 (some l0) (v8 - (1 : Int32)) <|
    C_X8_unqueue_L28 l0 (fun l1 => C_X8_unqueue_J56 l0 l1) fu v7 (0 : Int32)
  )
set_option maxRecDepth 10000 in
theorem mo_C_X8_unqueue (l0 : Nat) : Mo (C_X8_unqueue l0) := by
  unfold C_X8_unqueue
  repeat' (with_reducible first | assumption | exact mo_rt _ | exact mo_zt _ | exact mo_no | apply mo_C_X8_unqueue_L28 | apply mo_C_X8_unqueue_J56 | refine mo_ite ?_ ?_ | refine mo_hgI (fun _ => ?_) | refine mo_hgR (fun _ => ?_) | refine mo_hCv (fun _ => ?_) (fun _ => ?_) | refine mo_lq (fun _ => ?_) | refine mo_hpI ?_ | refine mo_hpR ?_ | refine mo_hAi (fun _ => ?_) | refine mo_hAr (fun _ => ?_) | refine mo_hWi ?_ | refine mo_hWr ?_ | refine mo_hLn (fun _ => ?_) | refine mo_hgL (fun _ => ?_) | refine mo_hpL ?_ | refine mo_hpZ ?_ | refine mo_bd ?_ (fun _ => ?_) | refine mo_hCi (fun _ => ?_) (fun _ => ?_) | refine mo_hNw (fun _ => ?_) | refine mo_hNa (fun _ => ?_) | refine mo_hCp ?_ | refine mo_hOi ?_ | refine mo_hAl (fun _ => ?_) | refine mo_hWl ?_ | refine mo_gd ?_ | refine mo_sLn (fun _ => ?_) | refine mo_sAt (fun _ => ?_) | refine mo_kLn (fun _ => ?_) | refine mo_kAt (fun _ => ?_))
set_option maxRecDepth 10000 in
theorem mC_X8_unqueue {w : Wd} (hw : Wc w) (l0 : Nat) : MH w yX8_unqueue cX8_unqueue 3 (some (.object "TopicBroker$Delivery")) 0 0 voR [va_rf (some l0)] (C_X8_unqueue l0) := by
  have M0 : ∀ g : Gm Hp (Option Nat), g.1 = w → Bx g cX8_unqueue 3 RX8 voR (some (.object "TopicBroker$Delivery")) 0 0 "unqueue" → Sm g 3 0 (lv_args 0 [va_rf (some l0)]) [] (C_X8_unqueue l0) := by
    intro g hg B
    subst hg
    unfold C_X8_unqueue
    refine W_lva (lv := [(0, va_rf (some l0))]) (by simp [lv_args, va_rf_cat, cat_i, cat_l, cat_r]) ?_
    refine s_rload_n B.1.1 0 dX8_unqueue_0 rfl rfl ?_
    refine hp_getI B.1 10 8 rfl (by decide) inX8 (by decide) fk_X8_8.1 fk_X8_8.2 cf_X8_91 dX8_unqueue_1 (fun v5 => ?_)
    refine s_if_ne B.1.1 9 dX8_unqueue_4 (by decide) ?_ ?_
    · refine s_rload_n B.1.1 0 dX8_unqueue_9 rfl rfl ?_
      refine hp_getR B.1 10 7 rfl (by decide) inX8 (by decide) fk_X8_7 cf_X8_23 dX8_unqueue_10 (fun v6 => ?_)
      refine s_iconst (v := 0) B.1.1 dX8_unqueue_13 (by decide) ?_
      refine hp_Ar B.1 7 (by decide) (fun _ => rfl) dX8_unqueue_14 (fun v7 => ?_)
      refine s_rstore_n (i := 1) (lv' := [(1, va_rf v7), (0, va_rf (some l0))]) B.1.1 dX8_unqueue_15 rfl (by decide) rfl ?_
      refine s_rload_n B.1.1 1 dX8_unqueue_16 rfl rfl ?_
      refine s_dup B.1.1 dX8_unqueue_17 rfl ?_
      refine hp_getI B.1 10 8 rfl (by decide) inX8 (by decide) fk_X8_8.1 fk_X8_8.2 cf_X8_91 dX8_unqueue_18 (fun v8 => ?_)
      refine s_iconst (v := 1) B.1.1 dX8_unqueue_21 (by decide) ?_
      refine s_isub B.1.1 dX8_unqueue_22 ?_
      refine hp_putI B.1 10 8 rfl (by decide) inX8 tyX8 tyX8_ok nmX8 (by decide) fk_X8_8.1 fk_X8_8.2 ft_X8_8 rfl cf_X8_91 dX8_unqueue_23 ?_
      refine s_iconst (v := 0) B.1.1 dX8_unqueue_26 (by decide) ?_
      refine s_istore_n (i := 2) (lv' := [(2, .int (0 : Int32)), (1, va_rf v7), (0, va_rf (some l0))]) B.1.1 dX8_unqueue_27 rfl (by decide) (by simp [va_rf_cat, cat_i, cat_l, cat_r]) ?_
      exact Sm.lvs [2, 1, 0] rfl (sc_X8_unqueue_L28 B (fun l1 => sc_X8_unqueue_J56 B l1) fu v7 (0 : Int32))
    · refine s_null B.1.1 dX8_unqueue_7 ?_
      exact s_aret B.1.1 B.2.2.2.2 (Or.inl ⟨_, rfl⟩) dX8_unqueue_8
  exact MH.of hw ⟨rfl, rfl⟩ (by decide) (by simp [lg_sl, va_rf_cat, cat_i, cat_l, cat_r]) (mo_C_X8_unqueue l0) M0
def C_X11_goOn_J63 (l0 : Nat) : Hp → Option (Unit × Hp) :=
  rt ()
set_option maxRecDepth 10000 in
theorem mo_C_X11_goOn_J63 (l0 : Nat) : Mo (C_X11_goOn_J63 l0) := by
  unfold C_X11_goOn_J63
  repeat' (with_reducible first | assumption | exact mo_rt _ | exact mo_zt _ | exact mo_no | refine mo_ite ?_ ?_ | refine mo_hgI (fun _ => ?_) | refine mo_hgR (fun _ => ?_) | refine mo_hCv (fun _ => ?_) (fun _ => ?_) | refine mo_lq (fun _ => ?_) | refine mo_hpI ?_ | refine mo_hpR ?_ | refine mo_hAi (fun _ => ?_) | refine mo_hAr (fun _ => ?_) | refine mo_hWi ?_ | refine mo_hWr ?_ | refine mo_hLn (fun _ => ?_) | refine mo_hgL (fun _ => ?_) | refine mo_hpL ?_ | refine mo_hpZ ?_ | refine mo_bd ?_ (fun _ => ?_) | refine mo_hCi (fun _ => ?_) (fun _ => ?_) | refine mo_hNw (fun _ => ?_) | refine mo_hNa (fun _ => ?_) | refine mo_hCp ?_ | refine mo_hOi ?_ | refine mo_hAl (fun _ => ?_) | refine mo_hWl ?_ | refine mo_gd ?_ | refine mo_sLn (fun _ => ?_) | refine mo_sAt (fun _ => ?_) | refine mo_kLn (fun _ => ?_) | refine mo_kAt (fun _ => ?_))
set_option maxRecDepth 10000 in
theorem sc_X11_goOn_J63 {g : Gm Hp Unit} (B : Bx g cX11_goOn 4 RX11 voV none 3 87 "goOn") {l0 : Nat} : Sm g 4 63 [] [] (C_X11_goOn_J63 l0) := by
  unfold C_X11_goOn_J63
  exact s_vret B.1.1 B.2.2.2.2 dX11_goOn_63
def C_X11_goOn_B2 (l0 : Nat) (kb : Option Nat → Int32 → Hp → Option (Unit × Hp)) (ke63 : Hp → Option (Unit × Hp)) (l1 : Option Nat) (l2 : Int32) : Hp → Option (Unit × Hp) :=
  if (24 : Int32) ≤ l2 then (
    ke63
  ) else (
    hgI 10 8 l1 fun v1 =>
    if v1 ≤ 0 then (
      ke63
    ) else (
      hCv 10 l1 (fun a => C_X8_maySend a) fun r2 =>
      if r2 = 0 then (
        ke63
      ) else (
        hCv 10 l1 (fun a => C_X8_unqueue a) fun r3 =>
        if r3 = none then (
          kb l1 (l2 + 1)
        ) else (
          hgR 3 0 r3 fun v4 =>
          hgI 13 9 (some l0) fun v5 =>
          hCv 5 v4 (fun a => C_X3_isGone a v5) fun r6 =>
          if r6 = 0 then (
            hCv 10 l1 (fun a => C_X8_depart a r3) fun r7 =>
            hCv 13 (some l0) (fun a => C_X11_deliver a l1 r3 (0 : Int32)) fun r8 =>
            kb l1 (l2 + 1)
          ) else (
            kb l1 (l2 + 1)
          )
        )
      )
    )
  )
def C_X11_goOn_L2 (l0 : Nat) (ke63 : Hp → Option (Unit × Hp)) : Nat → Option Nat → Int32 → Hp → Option (Unit × Hp)
  | 0, _, _ => no
  | n + 1, l1, l2 => C_X11_goOn_B2 l0 (fun l1 l2 => C_X11_goOn_L2 l0 ke63 n l1 l2) ke63 l1 l2
set_option maxRecDepth 10000 in
theorem mo_C_X11_goOn_B2 (l0 : Nat) (kb : Option Nat → Int32 → Hp → Option (Unit × Hp)) (ke63 : Hp → Option (Unit × Hp)) (hkb : ∀ (l1 : Option Nat) (l2 : Int32), Mo (kb l1 l2)) (hke63 : Mo (ke63)) (l1 : Option Nat) (l2 : Int32) : Mo (C_X11_goOn_B2 l0 kb ke63 l1 l2) := by
  unfold C_X11_goOn_B2
  repeat' (with_reducible first | assumption | exact mo_rt _ | exact mo_zt _ | exact mo_no | apply mo_C_X8_maySend | apply mo_C_X8_unqueue | apply mo_C_X3_isGone | apply mo_C_X8_depart | apply mo_C_X11_deliver | apply hkb | apply hke63 | refine mo_ite ?_ ?_ | refine mo_hgI (fun _ => ?_) | refine mo_hgR (fun _ => ?_) | refine mo_hCv (fun _ => ?_) (fun _ => ?_) | refine mo_lq (fun _ => ?_) | refine mo_hpI ?_ | refine mo_hpR ?_ | refine mo_hAi (fun _ => ?_) | refine mo_hAr (fun _ => ?_) | refine mo_hWi ?_ | refine mo_hWr ?_ | refine mo_hLn (fun _ => ?_) | refine mo_hgL (fun _ => ?_) | refine mo_hpL ?_ | refine mo_hpZ ?_ | refine mo_bd ?_ (fun _ => ?_) | refine mo_hCi (fun _ => ?_) (fun _ => ?_) | refine mo_hNw (fun _ => ?_) | refine mo_hNa (fun _ => ?_) | refine mo_hCp ?_ | refine mo_hOi ?_ | refine mo_hAl (fun _ => ?_) | refine mo_hWl ?_ | refine mo_gd ?_ | refine mo_sLn (fun _ => ?_) | refine mo_sAt (fun _ => ?_) | refine mo_kLn (fun _ => ?_) | refine mo_kAt (fun _ => ?_))
set_option maxRecDepth 10000 in
theorem mo_C_X11_goOn_L2 (l0 : Nat) (ke63 : Hp → Option (Unit × Hp)) (hke63 : Mo (ke63)) : ∀ (n : Nat) (l1 : Option Nat) (l2 : Int32), Mo (C_X11_goOn_L2 l0 ke63 n l1 l2)
  | 0, _, _ => mo_no
  | n + 1, l1, l2 => mo_C_X11_goOn_B2 l0 _ ke63 (mo_C_X11_goOn_L2 l0 ke63 hke63 n) hke63 l1 l2
set_option maxRecDepth 10000 in
theorem sc_X11_goOn_B2 {g : Gm Hp Unit} {kb : Option Nat → Int32 → Hp → Option (Unit × Hp)} {ke63 : Hp → Option (Unit × Hp)} (B : Bx g cX11_goOn 4 RX11 voV none 3 87 "goOn") {l0 : Nat} (hkb : ∀ (l1 : Option Nat) (l2 : Int32), Sm g 4 2 [(0, va_rf (some l0)), (1, va_rf l1), (2, .int l2)] [] (kb l1 l2)) (hke63 : Sm g 4 63 [] [] (ke63)) (l1 : Option Nat) (l2 : Int32) : Sm g 4 2 [(0, va_rf (some l0)), (1, va_rf l1), (2, .int l2)] [] (C_X11_goOn_B2 l0 kb ke63 l1 l2) := by
  unfold C_X11_goOn_B2
  refine s_iload_n B.1.1 2 dX11_goOn_2 rfl rfl ?_
  refine s_bipush (v := (24)) B.1.1 dX11_goOn_3 (by decide) ?_
  refine s_icmp_ge B.1.1 63 dX11_goOn_5 (by decide) ?_ ?_
  · exact Sm.lvs [] rfl (hke63)
  · refine s_rload_n B.1.1 1 dX11_goOn_8 rfl rfl ?_
    refine hp_getI B.1 10 8 rfl (by decide) inX8 (by decide) fk_X8_8.1 fk_X8_8.2 cf_X11_164 dX11_goOn_9 (fun v1 => ?_)
    refine s_if_le B.1.1 63 dX11_goOn_12 (by decide) ?_ ?_
    · exact Sm.lvs [] rfl (hke63)
    · refine s_rload_n B.1.1 1 dX11_goOn_15 rfl rfl ?_
      refine hp_cvi (As := []) (st := []) 10 rfl (by decide) B.1 (fun a => mC_X8_maySend B.2.1 a ) cc_X8_maySend cl_X11_525 cn_X8_maySend ce_X8_maySend ci_X8 cd_X8_maySend (by decide) rfl (Nat.le_of_ble_eq_true rfl) dX11_goOn_16 (fun r2 => ?_)
      refine s_if_eq B.1.1 63 dX11_goOn_19 (by decide) ?_ ?_
      · exact Sm.lvs [] rfl (hke63)
      · refine s_rload_n B.1.1 1 dX11_goOn_22 rfl rfl ?_
        refine hp_cvr (As := []) (st := []) 10 rfl (by decide) B.1 (fun a => mC_X8_unqueue B.2.1 a ) cc_X8_unqueue cl_X11_554 cn_X8_unqueue ce_X8_unqueue ci_X8 cd_X8_unqueue (by decide) rfl (Nat.le_of_ble_eq_true rfl) dX11_goOn_23 (fun r3 => ?_)
        refine s_rstore_n (i := 3) (lv' := [(3, va_rf r3), (0, va_rf (some l0)), (1, va_rf l1), (2, .int l2)]) B.1.1 dX11_goOn_26 rfl (by decide) rfl ?_
        refine s_rload_n B.1.1 0 dX11_goOn_27 rfl rfl ?_
        refine s_ifnull B.1.1 57 dX11_goOn_28 (by decide) ?_ ?_
        · refine s_iinc (v := l2 + 1) (lv' := [(2, .int (l2 + 1)), (3, va_rf r3), (0, va_rf (some l0)), (1, va_rf l1)]) B.1.1 3 dX11_goOn_57 rfl rfl (by decide) (by simp [va_rf_cat, cat_i, cat_l, cat_r]) ?_
          refine s_goto B.1.1 2 dX11_goOn_60 (by decide) ?_
          exact Sm.lvs [2, 3, 0] rfl (hkb l1 (l2 + 1))
        · refine s_rload_n B.1.1 0 dX11_goOn_31 rfl rfl ?_
          refine hp_getR B.1 3 0 rfl (by decide) inX1 (by decide) fk_X1_0 cf_X11_558 dX11_goOn_32 (fun v4 => ?_)
          refine s_rload_n B.1.1 1 dX11_goOn_35 rfl rfl ?_
          refine hp_getI B.1 13 9 rfl (by decide) inX11 (by decide) fk_X11_9.1 fk_X11_9.2 cf_X11_131 dX11_goOn_36 (fun v5 => ?_)
          refine hp_cvi (As := [.int v5]) (st := []) 5 rfl (by decide) B.1 (fun a => mC_X3_isGone B.2.1 a v5) cc_X3_isGone cl_X11_528 cn_X3_isGone ce_X3_isGone ci_X3 cd_X3_isGone (by decide) rfl (Nat.le_of_ble_eq_true rfl) dX11_goOn_39 (fun r6 => ?_)
          refine s_if_ne B.1.1 57 dX11_goOn_42 (by decide) ?_ ?_
          · refine s_iinc (v := l2 + 1) (lv' := [(2, .int (l2 + 1)), (3, va_rf r3), (0, va_rf (some l0)), (1, va_rf l1)]) B.1.1 3 dX11_goOn_57 rfl rfl (by decide) (by simp [va_rf_cat, cat_i, cat_l, cat_r]) ?_
            refine s_goto B.1.1 2 dX11_goOn_60 (by decide) ?_
            exact Sm.lvs [2, 3, 0] rfl (hkb l1 (l2 + 1))
          · refine s_rload_n B.1.1 2 dX11_goOn_45 rfl rfl ?_
            refine s_rload_n B.1.1 0 dX11_goOn_46 rfl rfl ?_
            refine hp_cvv (As := [va_rf r3]) (st := []) 10 rfl (by decide) B.1 (fun a => mC_X8_depart B.2.1 a r3) cc_X8_depart cl_X11_539 cn_X8_depart ce_X8_depart ci_X8 cd_X8_depart (by decide) rfl (Nat.le_of_ble_eq_true rfl) dX11_goOn_47 (fun r7 => ?_)
            refine s_rload_n B.1.1 1 dX11_goOn_50 rfl rfl ?_
            refine s_rload_n B.1.1 2 dX11_goOn_51 rfl rfl ?_
            refine s_rload_n B.1.1 0 dX11_goOn_52 rfl rfl ?_
            refine s_iconst (v := 0) B.1.1 dX11_goOn_53 (by decide) ?_
            refine hp_cvv (As := [va_rf l1, va_rf r3, .int (0 : Int32)]) (st := []) 13 rfl (by decide) B.1 (fun a => mC_X11_deliver B.2.1 a l1 r3 (0 : Int32)) cc_X11_deliver cl_X11_447 cn_X11_deliver ce_X11_deliver ci_X11 cd_X11_deliver (by decide) rfl (Nat.le_of_ble_eq_true rfl) dX11_goOn_54 (fun r8 => ?_)
            refine s_iinc (v := l2 + 1) (lv' := [(2, .int (l2 + 1)), (3, va_rf r3), (0, va_rf (some l0)), (1, va_rf l1)]) B.1.1 3 dX11_goOn_57 rfl rfl (by decide) (by simp [va_rf_cat, cat_i, cat_l, cat_r]) ?_
            refine s_goto B.1.1 2 dX11_goOn_60 (by decide) ?_
            exact Sm.lvs [2, 3, 0] rfl (hkb l1 (l2 + 1))
set_option maxRecDepth 10000 in
theorem sc_X11_goOn_L2 {g : Gm Hp Unit} {ke63 : Hp → Option (Unit × Hp)} (B : Bx g cX11_goOn 4 RX11 voV none 3 87 "goOn") {l0 : Nat} (hke63 : Sm g 4 63 [] [] (ke63)) : ∀ (n : Nat) (l1 : Option Nat) (l2 : Int32), Sm g 4 2 [(0, va_rf (some l0)), (1, va_rf l1), (2, .int l2)] [] (C_X11_goOn_L2 l0 ke63 n l1 l2)
  | 0, _, _ => Sm.fail
  | n + 1, l1, l2 => sc_X11_goOn_B2 B (sc_X11_goOn_L2 B hke63 n) hke63 l1 l2
def C_X11_goOn (l0 : Nat) (l1 : Option Nat) : Hp → Option (Unit × Hp) :=
  C_X11_goOn_L2 l0 (C_X11_goOn_J63 l0) fu l1 (0 : Int32)
set_option maxRecDepth 10000 in
theorem mo_C_X11_goOn (l0 : Nat) (l1 : Option Nat) : Mo (C_X11_goOn l0 l1) := by
  unfold C_X11_goOn
  repeat' (with_reducible first | assumption | exact mo_rt _ | exact mo_zt _ | exact mo_no | apply mo_C_X11_goOn_L2 | apply mo_C_X11_goOn_J63 | refine mo_ite ?_ ?_ | refine mo_hgI (fun _ => ?_) | refine mo_hgR (fun _ => ?_) | refine mo_hCv (fun _ => ?_) (fun _ => ?_) | refine mo_lq (fun _ => ?_) | refine mo_hpI ?_ | refine mo_hpR ?_ | refine mo_hAi (fun _ => ?_) | refine mo_hAr (fun _ => ?_) | refine mo_hWi ?_ | refine mo_hWr ?_ | refine mo_hLn (fun _ => ?_) | refine mo_hgL (fun _ => ?_) | refine mo_hpL ?_ | refine mo_hpZ ?_ | refine mo_bd ?_ (fun _ => ?_) | refine mo_hCi (fun _ => ?_) (fun _ => ?_) | refine mo_hNw (fun _ => ?_) | refine mo_hNa (fun _ => ?_) | refine mo_hCp ?_ | refine mo_hOi ?_ | refine mo_hAl (fun _ => ?_) | refine mo_hWl ?_ | refine mo_gd ?_ | refine mo_sLn (fun _ => ?_) | refine mo_sAt (fun _ => ?_) | refine mo_kLn (fun _ => ?_) | refine mo_kAt (fun _ => ?_))
set_option maxRecDepth 10000 in
theorem mC_X11_goOn {w : Wd} (hw : Wc w) (l0 : Nat) (l1 : Option Nat) : MH w yX11_goOn cX11_goOn 4 none 3 87 voV [va_rf (some l0), va_rf l1] (C_X11_goOn l0 l1) := by
  have M0 : ∀ g : Gm Hp Unit, g.1 = w → Bx g cX11_goOn 4 RX11 voV none 3 87 "goOn" → Sm g 4 0 (lv_args 0 [va_rf (some l0), va_rf l1]) [] (C_X11_goOn l0 l1) := by
    intro g hg B
    subst hg
    unfold C_X11_goOn
    refine W_lva (lv := [(0, va_rf (some l0)), (1, va_rf l1)]) (by simp [lv_args, va_rf_cat, cat_i, cat_l, cat_r]) ?_
    refine s_iconst (v := 0) B.1.1 dX11_goOn_0 (by decide) ?_
    refine s_istore_n (i := 2) (lv' := [(2, .int (0 : Int32)), (0, va_rf (some l0)), (1, va_rf l1)]) B.1.1 dX11_goOn_1 rfl (by decide) (by simp [va_rf_cat, cat_i, cat_l, cat_r]) ?_
    exact Sm.lvs [1, 2, 0] rfl (sc_X11_goOn_L2 B (sc_X11_goOn_J63 B) fu l1 (0 : Int32))
  exact MH.of hw ⟨rfl, rfl⟩ (by decide) (by simp [lg_sl, va_rf_cat, cat_i, cat_l, cat_r]) (mo_C_X11_goOn l0 l1) M0
def C_X0_close_J40 (l0 : Nat) : Hp → Option (Unit × Hp) :=
  rt ()
set_option maxRecDepth 10000 in
theorem mo_C_X0_close_J40 (l0 : Nat) : Mo (C_X0_close_J40 l0) := by
  unfold C_X0_close_J40
  repeat' (with_reducible first | assumption | exact mo_rt _ | exact mo_zt _ | exact mo_no | refine mo_ite ?_ ?_ | refine mo_hgI (fun _ => ?_) | refine mo_hgR (fun _ => ?_) | refine mo_hCv (fun _ => ?_) (fun _ => ?_) | refine mo_lq (fun _ => ?_) | refine mo_hpI ?_ | refine mo_hpR ?_ | refine mo_hAi (fun _ => ?_) | refine mo_hAr (fun _ => ?_) | refine mo_hWi ?_ | refine mo_hWr ?_ | refine mo_hLn (fun _ => ?_) | refine mo_hgL (fun _ => ?_) | refine mo_hpL ?_ | refine mo_hpZ ?_ | refine mo_bd ?_ (fun _ => ?_) | refine mo_hCi (fun _ => ?_) (fun _ => ?_) | refine mo_hNw (fun _ => ?_) | refine mo_hNa (fun _ => ?_) | refine mo_hCp ?_ | refine mo_hOi ?_ | refine mo_hAl (fun _ => ?_) | refine mo_hWl ?_ | refine mo_gd ?_ | refine mo_sLn (fun _ => ?_) | refine mo_sAt (fun _ => ?_) | refine mo_kLn (fun _ => ?_) | refine mo_kAt (fun _ => ?_))
set_option maxRecDepth 10000 in
theorem sc_X0_close_J40 {g : Gm Hp Unit} (B : Bx g cX0_close 2 RX0 voV none 0 0 "close") {l0 : Nat} : Sm g 2 40 [] [] (C_X0_close_J40 l0) := by
  unfold C_X0_close_J40
  exact s_vret B.1.1 B.2.2.2.2 dX0_close_40
def C_X0_close_B22 (l0 : Nat) (kb : Int32 → Hp → Option (Unit × Hp)) (ke40 : Hp → Option (Unit × Hp)) (l1 : Int32) : Hp → Option (Unit × Hp) :=
  if (4 : Int32) < l1 then (
    ke40
  ) else (
    hgR 2 11 (some l0) fun v1 =>
    hWr 8 9 v1 l1 none <|
    kb (l1 + 1)
  )
def C_X0_close_L22 (l0 : Nat) (ke40 : Hp → Option (Unit × Hp)) : Nat → Int32 → Hp → Option (Unit × Hp)
  | 0, _ => no
  | n + 1, l1 => C_X0_close_B22 l0 (fun l1 => C_X0_close_L22 l0 ke40 n l1) ke40 l1
set_option maxRecDepth 10000 in
theorem mo_C_X0_close_B22 (l0 : Nat) (kb : Int32 → Hp → Option (Unit × Hp)) (ke40 : Hp → Option (Unit × Hp)) (hkb : ∀ (l1 : Int32), Mo (kb l1)) (hke40 : Mo (ke40)) (l1 : Int32) : Mo (C_X0_close_B22 l0 kb ke40 l1) := by
  unfold C_X0_close_B22
  repeat' (with_reducible first | assumption | exact mo_rt _ | exact mo_zt _ | exact mo_no | apply hkb | apply hke40 | refine mo_ite ?_ ?_ | refine mo_hgI (fun _ => ?_) | refine mo_hgR (fun _ => ?_) | refine mo_hCv (fun _ => ?_) (fun _ => ?_) | refine mo_lq (fun _ => ?_) | refine mo_hpI ?_ | refine mo_hpR ?_ | refine mo_hAi (fun _ => ?_) | refine mo_hAr (fun _ => ?_) | refine mo_hWi ?_ | refine mo_hWr ?_ | refine mo_hLn (fun _ => ?_) | refine mo_hgL (fun _ => ?_) | refine mo_hpL ?_ | refine mo_hpZ ?_ | refine mo_bd ?_ (fun _ => ?_) | refine mo_hCi (fun _ => ?_) (fun _ => ?_) | refine mo_hNw (fun _ => ?_) | refine mo_hNa (fun _ => ?_) | refine mo_hCp ?_ | refine mo_hOi ?_ | refine mo_hAl (fun _ => ?_) | refine mo_hWl ?_ | refine mo_gd ?_ | refine mo_sLn (fun _ => ?_) | refine mo_sAt (fun _ => ?_) | refine mo_kLn (fun _ => ?_) | refine mo_kAt (fun _ => ?_))
set_option maxRecDepth 10000 in
theorem mo_C_X0_close_L22 (l0 : Nat) (ke40 : Hp → Option (Unit × Hp)) (hke40 : Mo (ke40)) : ∀ (n : Nat) (l1 : Int32), Mo (C_X0_close_L22 l0 ke40 n l1)
  | 0, _ => mo_no
  | n + 1, l1 => mo_C_X0_close_B22 l0 _ ke40 (mo_C_X0_close_L22 l0 ke40 hke40 n) hke40 l1
set_option maxRecDepth 10000 in
theorem sc_X0_close_B22 {g : Gm Hp Unit} {kb : Int32 → Hp → Option (Unit × Hp)} {ke40 : Hp → Option (Unit × Hp)} (B : Bx g cX0_close 2 RX0 voV none 0 0 "close") {l0 : Nat} (hkb : ∀ (l1 : Int32), Sm g 2 22 [(0, va_rf (some l0)), (1, .int l1)] [] (kb l1)) (hke40 : Sm g 2 40 [] [] (ke40)) (l1 : Int32) : Sm g 2 22 [(0, va_rf (some l0)), (1, .int l1)] [] (C_X0_close_B22 l0 kb ke40 l1) := by
  unfold C_X0_close_B22
  refine s_iload_n B.1.1 1 dX0_close_22 rfl rfl ?_
  refine s_iconst (v := 4) B.1.1 dX0_close_23 (by decide) ?_
  refine s_icmp_gt B.1.1 40 dX0_close_24 (by decide) ?_ ?_
  · exact Sm.lvs [] rfl (hke40)
  · refine s_rload_n B.1.1 0 dX0_close_27 rfl rfl ?_
    refine hp_getR B.1 2 11 rfl (by decide) inX0 (by decide) fk_X0_11 cf_X0_20 dX0_close_28 (fun v1 => ?_)
    refine s_iload_n B.1.1 1 dX0_close_31 rfl rfl ?_
    refine s_null B.1.1 dX0_close_32 ?_
    refine hp_Wr B.1 8 9 (by decide) (fun _ => rfl) rfl (by decide) dX0_close_33 ?_
    refine s_iinc (v := l1 + 1) (lv' := [(1, .int (l1 + 1)), (0, va_rf (some l0))]) B.1.1 1 dX0_close_34 rfl rfl (by decide) rfl ?_
    refine s_goto B.1.1 22 dX0_close_37 (by decide) ?_
    exact Sm.lvs [1, 0] rfl (hkb (l1 + 1))
set_option maxRecDepth 10000 in
theorem sc_X0_close_L22 {g : Gm Hp Unit} {ke40 : Hp → Option (Unit × Hp)} (B : Bx g cX0_close 2 RX0 voV none 0 0 "close") {l0 : Nat} (hke40 : Sm g 2 40 [] [] (ke40)) : ∀ (n : Nat) (l1 : Int32), Sm g 2 22 [(0, va_rf (some l0)), (1, .int l1)] [] (C_X0_close_L22 l0 ke40 n l1)
  | 0, _ => Sm.fail
  | n + 1, l1 => sc_X0_close_B22 B (sc_X0_close_L22 B hke40 n) hke40 l1
def C_X0_close (l0 : Nat) : Hp → Option (Unit × Hp) :=
  hpZ 2 1 (some l0) (0 : Int32) <|
  hpR 2 2 (some l0) none <|
  hpZ 2 5 (some l0) (0 : Int32) <|
  hpI 2 8 (some l0) (0 : Int32) <|
  C_X0_close_L22 l0 (C_X0_close_J40 l0) fu (0 : Int32)
set_option maxRecDepth 10000 in
theorem mo_C_X0_close (l0 : Nat) : Mo (C_X0_close l0) := by
  unfold C_X0_close
  repeat' (with_reducible first | assumption | exact mo_rt _ | exact mo_zt _ | exact mo_no | apply mo_C_X0_close_L22 | apply mo_C_X0_close_J40 | refine mo_ite ?_ ?_ | refine mo_hgI (fun _ => ?_) | refine mo_hgR (fun _ => ?_) | refine mo_hCv (fun _ => ?_) (fun _ => ?_) | refine mo_lq (fun _ => ?_) | refine mo_hpI ?_ | refine mo_hpR ?_ | refine mo_hAi (fun _ => ?_) | refine mo_hAr (fun _ => ?_) | refine mo_hWi ?_ | refine mo_hWr ?_ | refine mo_hLn (fun _ => ?_) | refine mo_hgL (fun _ => ?_) | refine mo_hpL ?_ | refine mo_hpZ ?_ | refine mo_bd ?_ (fun _ => ?_) | refine mo_hCi (fun _ => ?_) (fun _ => ?_) | refine mo_hNw (fun _ => ?_) | refine mo_hNa (fun _ => ?_) | refine mo_hCp ?_ | refine mo_hOi ?_ | refine mo_hAl (fun _ => ?_) | refine mo_hWl ?_ | refine mo_gd ?_ | refine mo_sLn (fun _ => ?_) | refine mo_sAt (fun _ => ?_) | refine mo_kLn (fun _ => ?_) | refine mo_kAt (fun _ => ?_))
set_option maxRecDepth 10000 in
theorem mC_X0_close {w : Wd} (hw : Wc w) (l0 : Nat) : MH w yX0_close cX0_close 2 none 0 0 voV [va_rf (some l0)] (C_X0_close l0) := by
  have M0 : ∀ g : Gm Hp Unit, g.1 = w → Bx g cX0_close 2 RX0 voV none 0 0 "close" → Sm g 2 0 (lv_args 0 [va_rf (some l0)]) [] (C_X0_close l0) := by
    intro g hg B
    subst hg
    unfold C_X0_close
    refine W_lva (lv := [(0, va_rf (some l0))]) (by simp [lv_args, va_rf_cat, cat_i, cat_l, cat_r]) ?_
    refine s_rload_n B.1.1 0 dX0_close_0 rfl rfl ?_
    refine s_iconst (v := 0) B.1.1 dX0_close_1 (by decide) ?_
    refine hp_putZ B.1 2 1 rfl (by decide) inX0 tyX0 tyX0_ok nmX0 (by decide) fk_X0_1.1 fk_X0_1.2 ft_X0_1 rfl cf_X0_28 dX0_close_2 ?_
    refine s_rload_n B.1.1 0 dX0_close_5 rfl rfl ?_
    refine s_null B.1.1 dX0_close_6 ?_
    refine hp_putR B.1 2 2 rfl (by decide) inX0 tyX0 tyX0_ok nmX0 (by decide) fk_X0_2 ft_X0_2 rfR rfl cf_X0_35 dX0_close_7 ?_
    refine s_rload_n B.1.1 0 dX0_close_10 rfl rfl ?_
    refine s_iconst (v := 0) B.1.1 dX0_close_11 (by decide) ?_
    refine hp_putZ B.1 2 5 rfl (by decide) inX0 tyX0 tyX0_ok nmX0 (by decide) fk_X0_5.1 fk_X0_5.2 ft_X0_5 rfl cf_X0_39 dX0_close_12 ?_
    refine s_rload_n B.1.1 0 dX0_close_15 rfl rfl ?_
    refine s_iconst (v := 0) B.1.1 dX0_close_16 (by decide) ?_
    refine hp_putI B.1 2 8 rfl (by decide) inX0 tyX0 tyX0_ok nmX0 (by decide) fk_X0_8.1 fk_X0_8.2 ft_X0_8 rfl cf_X0_42 dX0_close_17 ?_
    refine s_iconst (v := 0) B.1.1 dX0_close_20 (by decide) ?_
    refine s_istore_n (i := 1) (lv' := [(1, .int (0 : Int32)), (0, va_rf (some l0))]) B.1.1 dX0_close_21 rfl (by decide) rfl ?_
    exact Sm.lvs [1, 0] rfl (sc_X0_close_L22 B (sc_X0_close_J40 B) fu (0 : Int32))
  exact MH.of hw ⟨rfl, rfl⟩ (by decide) (by simp [lg_sl, va_rf_cat, cat_i, cat_l, cat_r]) (mo_C_X0_close l0) M0
def C_X11_lost_J50 (l0 : Nat) (l2 : Option Nat) : Hp → Option (Unit × Hp) :=
  hgL 10 13 l2 fun v1 =>
  if (lg_cmp v1 (0 : Int64)) = 0 then (
    hCv 13 (some l0) (fun a => C_X11_remove a l2) fun r2 =>
    rt ()
  ) else (
    rt ()
  )
set_option maxRecDepth 10000 in
theorem mo_C_X11_lost_J50 (l0 : Nat) (l2 : Option Nat) : Mo (C_X11_lost_J50 l0 l2) := by
  unfold C_X11_lost_J50
  repeat' (with_reducible first | assumption | exact mo_rt _ | exact mo_zt _ | exact mo_no | apply mo_C_X11_remove | refine mo_ite ?_ ?_ | refine mo_hgI (fun _ => ?_) | refine mo_hgR (fun _ => ?_) | refine mo_hCv (fun _ => ?_) (fun _ => ?_) | refine mo_lq (fun _ => ?_) | refine mo_hpI ?_ | refine mo_hpR ?_ | refine mo_hAi (fun _ => ?_) | refine mo_hAr (fun _ => ?_) | refine mo_hWi ?_ | refine mo_hWr ?_ | refine mo_hLn (fun _ => ?_) | refine mo_hgL (fun _ => ?_) | refine mo_hpL ?_ | refine mo_hpZ ?_ | refine mo_bd ?_ (fun _ => ?_) | refine mo_hCi (fun _ => ?_) (fun _ => ?_) | refine mo_hNw (fun _ => ?_) | refine mo_hNa (fun _ => ?_) | refine mo_hCp ?_ | refine mo_hOi ?_ | refine mo_hAl (fun _ => ?_) | refine mo_hWl ?_ | refine mo_gd ?_ | refine mo_sLn (fun _ => ?_) | refine mo_sAt (fun _ => ?_) | refine mo_kLn (fun _ => ?_) | refine mo_kAt (fun _ => ?_))
set_option maxRecDepth 10000 in
theorem sc_X11_lost_J50 {g : Gm Hp Unit} (B : Bx g cX11_lost 3 RX11 voV none 5 139 "lost") {l0 : Nat} (l2 : Option Nat) : Sm g 3 50 [(0, va_rf (some l0)), (2, va_rf l2)] [] (C_X11_lost_J50 l0 l2) := by
  unfold C_X11_lost_J50
  refine s_rload_n B.1.1 1 dX11_lost_50 rfl rfl ?_
  refine hp_getL B.1 10 13 rfl (by decide) inX8 (by decide) fk_X8_13 cf_X11_190 dX11_lost_51 (fun v1 => ?_)
  refine s_lconst (v := 0) B.1.1 dX11_lost_54 (by decide) ?_
  refine s_lcmp B.1.1 dX11_lost_55 ?_
  refine s_if_ne B.1.1 64 dX11_lost_56 (by decide) ?_ ?_
  · exact s_vret B.1.1 B.2.2.2.2 dX11_lost_64
  · refine s_rload_n B.1.1 0 dX11_lost_59 rfl rfl ?_
    refine s_rload_n B.1.1 1 dX11_lost_60 rfl rfl ?_
    refine hp_cvv (As := [va_rf l2]) (st := []) 13 rfl (by decide) B.1 (fun a => mC_X11_remove B.2.1 a l2) cc_X11_remove cl_X11_616 cn_X11_remove ce_X11_remove ci_X11 cd_X11_remove (by decide) rfl (Nat.le_of_ble_eq_true rfl) dX11_lost_61 (fun r2 => ?_)
    exact s_vret B.1.1 B.2.2.2.2 dX11_lost_64
def C_X11_lost_J45 (l0 : Nat) (l2 : Option Nat) : Hp → Option (Unit × Hp) :=
  hCv 13 (some l0) (fun a => C_X11_comes a l2) fun r3 =>
  C_X11_lost_J50 l0 l2
set_option maxRecDepth 10000 in
theorem mo_C_X11_lost_J45 (l0 : Nat) (l2 : Option Nat) : Mo (C_X11_lost_J45 l0 l2) := by
  unfold C_X11_lost_J45
  repeat' (with_reducible first | assumption | exact mo_rt _ | exact mo_zt _ | exact mo_no | apply mo_C_X11_comes | apply mo_C_X11_lost_J50 | refine mo_ite ?_ ?_ | refine mo_hgI (fun _ => ?_) | refine mo_hgR (fun _ => ?_) | refine mo_hCv (fun _ => ?_) (fun _ => ?_) | refine mo_lq (fun _ => ?_) | refine mo_hpI ?_ | refine mo_hpR ?_ | refine mo_hAi (fun _ => ?_) | refine mo_hAr (fun _ => ?_) | refine mo_hWi ?_ | refine mo_hWr ?_ | refine mo_hLn (fun _ => ?_) | refine mo_hgL (fun _ => ?_) | refine mo_hpL ?_ | refine mo_hpZ ?_ | refine mo_bd ?_ (fun _ => ?_) | refine mo_hCi (fun _ => ?_) (fun _ => ?_) | refine mo_hNw (fun _ => ?_) | refine mo_hNa (fun _ => ?_) | refine mo_hCp ?_ | refine mo_hOi ?_ | refine mo_hAl (fun _ => ?_) | refine mo_hWl ?_ | refine mo_gd ?_ | refine mo_sLn (fun _ => ?_) | refine mo_sAt (fun _ => ?_) | refine mo_kLn (fun _ => ?_) | refine mo_kAt (fun _ => ?_))
set_option maxRecDepth 10000 in
theorem sc_X11_lost_J45 {g : Gm Hp Unit} (B : Bx g cX11_lost 3 RX11 voV none 5 139 "lost") {l0 : Nat} (l2 : Option Nat) : Sm g 3 45 [(0, va_rf (some l0)), (2, va_rf l2)] [] (C_X11_lost_J45 l0 l2) := by
  unfold C_X11_lost_J45
  refine s_rload_n B.1.1 0 dX11_lost_45 rfl rfl ?_
  refine s_rload_n B.1.1 1 dX11_lost_46 rfl rfl ?_
  refine hp_cvv (As := [va_rf l2]) (st := []) 13 rfl (by decide) B.1 (fun a => mC_X11_comes B.2.1 a l2) cc_X11_comes cl_X11_613 cn_X11_comes ce_X11_comes ci_X11 cd_X11_comes (by decide) rfl (Nat.le_of_ble_eq_true rfl) dX11_lost_47 (fun r3 => ?_)
  exact Sm.lvs [0, 1] rfl (sc_X11_lost_J50 B l2)
def C_X11_lost (l0 : Nat) (l1 : Option Nat) : Hp → Option (Unit × Hp) :=
  hgR 2 2 l1 fun v4 =>
  hCv 2 l1 (fun a => C_X0_close a) fun r5 =>
  if v4 = none then (
    rt ()
  ) else (
    hpR 10 2 v4 none <|
    hgI 13 9 (some l0) fun v6 =>
    hpI 10 17 v4 v6 <|
    hgL 10 12 v4 fun v7 =>
    if (lg_cmp v7 (0 : Int64)) = 0 then (
      C_X11_lost_J45 l0 v4
    ) else (
      hgL 10 13 v4 fun v8 =>
      if (lg_cmp v8 (0 : Int64)) = 0 then (
        C_X11_lost_J45 l0 v4
      ) else (
        C_X11_lost_J50 l0 v4
      )
    )
  )
set_option maxRecDepth 10000 in
theorem mo_C_X11_lost (l0 : Nat) (l1 : Option Nat) : Mo (C_X11_lost l0 l1) := by
  unfold C_X11_lost
  repeat' (with_reducible first | assumption | exact mo_rt _ | exact mo_zt _ | exact mo_no | apply mo_C_X0_close | apply mo_C_X11_lost_J45 | apply mo_C_X11_lost_J50 | refine mo_ite ?_ ?_ | refine mo_hgI (fun _ => ?_) | refine mo_hgR (fun _ => ?_) | refine mo_hCv (fun _ => ?_) (fun _ => ?_) | refine mo_lq (fun _ => ?_) | refine mo_hpI ?_ | refine mo_hpR ?_ | refine mo_hAi (fun _ => ?_) | refine mo_hAr (fun _ => ?_) | refine mo_hWi ?_ | refine mo_hWr ?_ | refine mo_hLn (fun _ => ?_) | refine mo_hgL (fun _ => ?_) | refine mo_hpL ?_ | refine mo_hpZ ?_ | refine mo_bd ?_ (fun _ => ?_) | refine mo_hCi (fun _ => ?_) (fun _ => ?_) | refine mo_hNw (fun _ => ?_) | refine mo_hNa (fun _ => ?_) | refine mo_hCp ?_ | refine mo_hOi ?_ | refine mo_hAl (fun _ => ?_) | refine mo_hWl ?_ | refine mo_gd ?_ | refine mo_sLn (fun _ => ?_) | refine mo_sAt (fun _ => ?_) | refine mo_kLn (fun _ => ?_) | refine mo_kAt (fun _ => ?_))
set_option maxRecDepth 10000 in
theorem mC_X11_lost {w : Wd} (hw : Wc w) (l0 : Nat) (l1 : Option Nat) : MH w yX11_lost cX11_lost 3 none 5 139 voV [va_rf (some l0), va_rf l1] (C_X11_lost l0 l1) := by
  have M0 : ∀ g : Gm Hp Unit, g.1 = w → Bx g cX11_lost 3 RX11 voV none 5 139 "lost" → Sm g 3 0 (lv_args 0 [va_rf (some l0), va_rf l1]) [] (C_X11_lost l0 l1) := by
    intro g hg B
    subst hg
    unfold C_X11_lost
    refine W_lva (lv := [(0, va_rf (some l0)), (1, va_rf l1)]) (by simp [lv_args, va_rf_cat, cat_i, cat_l, cat_r]) ?_
    refine s_rload_n B.1.1 1 dX11_lost_0 rfl rfl ?_
    refine hp_getR B.1 2 2 rfl (by decide) inX0 (by decide) fk_X0_2 cf_X11_286 dX11_lost_1 (fun v4 => ?_)
    refine s_rstore_n (i := 2) (lv' := [(2, va_rf v4), (0, va_rf (some l0)), (1, va_rf l1)]) B.1.1 dX11_lost_4 rfl (by decide) (by simp [va_rf_cat, cat_i, cat_l, cat_r]) ?_
    refine s_rload_n B.1.1 2 dX11_lost_5 rfl rfl ?_
    refine hp_cvv (As := []) (st := []) 2 rfl (by decide) B.1 (fun a => mC_X0_close B.2.1 a ) cc_X0_close cl_X11_605 cn_X0_close ce_X0_close ci_X0 cd_X0_close (by decide) rfl (Nat.le_of_ble_eq_true rfl) dX11_lost_6 (fun r5 => ?_)
    refine s_rload_n B.1.1 0 dX11_lost_9 rfl rfl ?_
    refine s_ifnonnull B.1.1 14 dX11_lost_10 (by decide) ?_ ?_
    · refine s_rload_n B.1.1 0 dX11_lost_14 rfl rfl ?_
      refine s_null B.1.1 dX11_lost_15 ?_
      refine hp_putR B.1 10 2 rfl (by decide) inX8 tyX8 tyX8_ok nmX8 (by decide) fk_X8_2 ft_X8_2 rfR rfl cf_X11_151 dX11_lost_16 ?_
      refine s_rload_n B.1.1 0 dX11_lost_19 rfl rfl ?_
      refine s_rload_n B.1.1 1 dX11_lost_20 rfl rfl ?_
      refine hp_getI B.1 13 9 rfl (by decide) inX11 (by decide) fk_X11_9.1 fk_X11_9.2 cf_X11_131 dX11_lost_21 (fun v6 => ?_)
      refine hp_putI B.1 10 17 rfl (by decide) inX8 tyX8 tyX8_ok nmX8 (by decide) fk_X8_17.1 fk_X8_17.2 ft_X8_17 rfl cf_X11_608 dX11_lost_24 ?_
      refine s_rload_n B.1.1 0 dX11_lost_27 rfl rfl ?_
      refine hp_getL B.1 10 12 rfl (by decide) inX8 (by decide) fk_X8_12 cf_X11_610 dX11_lost_28 (fun v7 => ?_)
      refine s_lconst (v := 0) B.1.1 dX11_lost_31 (by decide) ?_
      refine s_lcmp B.1.1 dX11_lost_32 ?_
      refine s_if_eq B.1.1 45 dX11_lost_33 (by decide) ?_ ?_
      · exact Sm.lvs [1, 0] rfl (sc_X11_lost_J45 B v4)
      · refine s_rload_n B.1.1 0 dX11_lost_36 rfl rfl ?_
        refine hp_getL B.1 10 13 rfl (by decide) inX8 (by decide) fk_X8_13 cf_X11_190 dX11_lost_37 (fun v8 => ?_)
        refine s_lconst (v := 0) B.1.1 dX11_lost_40 (by decide) ?_
        refine s_lcmp B.1.1 dX11_lost_41 ?_
        refine s_if_ne B.1.1 50 dX11_lost_42 (by decide) ?_ ?_
        · exact Sm.lvs [1, 0] rfl (sc_X11_lost_J50 B v4)
        · exact Sm.lvs [1, 0] rfl (sc_X11_lost_J45 B v4)
    · exact s_vret B.1.1 B.2.2.2.2 dX11_lost_13
  exact MH.of hw ⟨rfl, rfl⟩ (by decide) (by simp [lg_sl, va_rf_cat, cat_i, cat_l, cat_r]) (mo_C_X11_lost l0 l1) M0
def C_X11_autoId_J118 (l0 : Nat) (l2 : Option Nat) : Hp → Option ((Option Nat) × Hp) :=
  hNw 9 1 fun o1 =>
  hCi o1 (fun a => C_X7_init a l2) fun r2 =>
  rt (o1)
set_option maxRecDepth 10000 in
theorem mo_C_X11_autoId_J118 (l0 : Nat) (l2 : Option Nat) : Mo (C_X11_autoId_J118 l0 l2) := by
  unfold C_X11_autoId_J118
  repeat' (with_reducible first | assumption | exact mo_rt _ | exact mo_zt _ | exact mo_no | apply mo_C_X7_init | refine mo_ite ?_ ?_ | refine mo_hgI (fun _ => ?_) | refine mo_hgR (fun _ => ?_) | refine mo_hCv (fun _ => ?_) (fun _ => ?_) | refine mo_lq (fun _ => ?_) | refine mo_hpI ?_ | refine mo_hpR ?_ | refine mo_hAi (fun _ => ?_) | refine mo_hAr (fun _ => ?_) | refine mo_hWi ?_ | refine mo_hWr ?_ | refine mo_hLn (fun _ => ?_) | refine mo_hgL (fun _ => ?_) | refine mo_hpL ?_ | refine mo_hpZ ?_ | refine mo_bd ?_ (fun _ => ?_) | refine mo_hCi (fun _ => ?_) (fun _ => ?_) | refine mo_hNw (fun _ => ?_) | refine mo_hNa (fun _ => ?_) | refine mo_hCp ?_ | refine mo_hOi ?_ | refine mo_hAl (fun _ => ?_) | refine mo_hWl ?_ | refine mo_gd ?_ | refine mo_sLn (fun _ => ?_) | refine mo_sAt (fun _ => ?_) | refine mo_kLn (fun _ => ?_) | refine mo_kAt (fun _ => ?_))
set_option maxRecDepth 10000 in
theorem sc_X11_autoId_J118 {g : Gm Hp (Option Nat)} (B : Bx g cX11_autoId 5 RX11 voR (some (.object "TopicBroker$Row")) 8 300 "autoId") {l0 : Nat} (l2 : Option Nat) : Sm g 5 118 [(2, va_rf l2)] [] (C_X11_autoId_J118 l0 l2) := by
  unfold C_X11_autoId_J118
  refine hp_Nw B.1 9 rfl (by decide) inX7 tyX7 tyX7_ok dfX7 tw_1269 tw_127 tw_5 dX11_autoId_118 (fun o1 => ?_)
  refine s_dup B.1.1 dX11_autoId_121 (va_rf_cat _) ?_
  refine s_rload_n B.1.1 0 dX11_autoId_122 rfl rfl ?_
  refine hp_cI (As := [va_rf l2]) (st := [va_rf o1]) B.1 (fun a => mC_X7_init B.2.1 a l2) cc_X7_init cl_X11_416 cn_X7_init ci_X7 rfl cd_X7_init (by decide) rfl (by simp [va_rf_cat, cat_i, cat_l, cat_r]) dX11_autoId_123 (fun r2 => ?_)
  exact s_aret B.1.1 B.2.2.2.2 (Or.inl ⟨_, rfl⟩) dX11_autoId_126
def C_X11_autoId_B85 (l0 : Nat) (kb : Option Nat → Int32 → Int32 → Hp → Option ((Option Nat) × Hp)) (ke118 : Option Nat → Hp → Option ((Option Nat) × Hp)) (l2 : Option Nat) (l3 : Int32) (l4 : Int32) : Hp → Option ((Option Nat) × Hp) :=
  sLn 2 fun v3 =>
  if l4 < v3 then (
    ke118 l2
  ) else (
    hWi l2 l4 ((48 : Int32) + (l3 - l3 / (10 : Int32) * (10 : Int32))) <|
    lq (l3 / (10 : Int32)) fun x4 =>
    kb l2 x4 (l4 + (-1))
  )
def C_X11_autoId_L85 (l0 : Nat) (ke118 : Option Nat → Hp → Option ((Option Nat) × Hp)) : Nat → Option Nat → Int32 → Int32 → Hp → Option ((Option Nat) × Hp)
  | 0, _, _, _ => no
  | n + 1, l2, l3, l4 => C_X11_autoId_B85 l0 (fun l2 l3 l4 => C_X11_autoId_L85 l0 ke118 n l2 l3 l4) ke118 l2 l3 l4
set_option maxRecDepth 10000 in
theorem mo_C_X11_autoId_B85 (l0 : Nat) (kb : Option Nat → Int32 → Int32 → Hp → Option ((Option Nat) × Hp)) (ke118 : Option Nat → Hp → Option ((Option Nat) × Hp)) (hkb : ∀ (l2 : Option Nat) (l3 : Int32) (l4 : Int32), Mo (kb l2 l3 l4)) (hke118 : ∀ (l2 : Option Nat), Mo (ke118 l2)) (l2 : Option Nat) (l3 : Int32) (l4 : Int32) : Mo (C_X11_autoId_B85 l0 kb ke118 l2 l3 l4) := by
  unfold C_X11_autoId_B85
  repeat' (with_reducible first | assumption | exact mo_rt _ | exact mo_zt _ | exact mo_no | apply hkb | apply hke118 | refine mo_ite ?_ ?_ | refine mo_hgI (fun _ => ?_) | refine mo_hgR (fun _ => ?_) | refine mo_hCv (fun _ => ?_) (fun _ => ?_) | refine mo_lq (fun _ => ?_) | refine mo_hpI ?_ | refine mo_hpR ?_ | refine mo_hAi (fun _ => ?_) | refine mo_hAr (fun _ => ?_) | refine mo_hWi ?_ | refine mo_hWr ?_ | refine mo_hLn (fun _ => ?_) | refine mo_hgL (fun _ => ?_) | refine mo_hpL ?_ | refine mo_hpZ ?_ | refine mo_bd ?_ (fun _ => ?_) | refine mo_hCi (fun _ => ?_) (fun _ => ?_) | refine mo_hNw (fun _ => ?_) | refine mo_hNa (fun _ => ?_) | refine mo_hCp ?_ | refine mo_hOi ?_ | refine mo_hAl (fun _ => ?_) | refine mo_hWl ?_ | refine mo_gd ?_ | refine mo_sLn (fun _ => ?_) | refine mo_sAt (fun _ => ?_) | refine mo_kLn (fun _ => ?_) | refine mo_kAt (fun _ => ?_))
set_option maxRecDepth 10000 in
theorem mo_C_X11_autoId_L85 (l0 : Nat) (ke118 : Option Nat → Hp → Option ((Option Nat) × Hp)) (hke118 : ∀ (l2 : Option Nat), Mo (ke118 l2)) : ∀ (n : Nat) (l2 : Option Nat) (l3 : Int32) (l4 : Int32), Mo (C_X11_autoId_L85 l0 ke118 n l2 l3 l4)
  | 0, _, _, _ => mo_no
  | n + 1, l2, l3, l4 => mo_C_X11_autoId_B85 l0 _ ke118 (mo_C_X11_autoId_L85 l0 ke118 hke118 n) hke118 l2 l3 l4
set_option maxRecDepth 10000 in
theorem sc_X11_autoId_B85 {g : Gm Hp (Option Nat)} {kb : Option Nat → Int32 → Int32 → Hp → Option ((Option Nat) × Hp)} {ke118 : Option Nat → Hp → Option ((Option Nat) × Hp)} (B : Bx g cX11_autoId 5 RX11 voR (some (.object "TopicBroker$Row")) 8 300 "autoId") {l0 : Nat} (hkb : ∀ (l2 : Option Nat) (l3 : Int32) (l4 : Int32), Sm g 5 85 [(2, va_rf l2), (3, .int l3), (4, .int l4)] [] (kb l2 l3 l4)) (hke118 : ∀ (l2 : Option Nat), Sm g 5 118 [(2, va_rf l2)] [] (ke118 l2)) (l2 : Option Nat) (l3 : Int32) (l4 : Int32) : Sm g 5 85 [(2, va_rf l2), (3, .int l3), (4, .int l4)] [] (C_X11_autoId_B85 l0 kb ke118 l2 l3 l4) := by
  unfold C_X11_autoId_B85
  refine s_iload B.1.1 2 dX11_autoId_85 rfl ?_
  refine s_ldwS B 2 405 (by decide +kernel) dX11_autoId_87 ?_
  refine s_sLn B 2 (by decide) tw_1267 (by decide) (Nat.le_of_ble_eq_true rfl) dX11_autoId_90 (fun v3 => ?_)
  refine s_icmp_lt B.1.1 118 dX11_autoId_93 (by decide) ?_ ?_
  · exact Sm.lvs [0] rfl (hke118 l2)
  · refine s_rload_n B.1.1 0 dX11_autoId_96 rfl rfl ?_
    refine s_iload B.1.1 2 dX11_autoId_97 rfl ?_
    refine s_bipush (v := (48)) B.1.1 dX11_autoId_99 (by decide) ?_
    refine s_iload_n B.1.1 1 dX11_autoId_101 rfl rfl ?_
    refine s_bipush (v := (10)) B.1.1 dX11_autoId_102 (by decide) ?_
    refine s_irem B.1.1 dX11_autoId_104 (by decide) ?_
    refine s_iadd B.1.1 dX11_autoId_105 ?_
    refine hp_Wi B.1 dX11_autoId_106 ?_
    refine s_iload_n B.1.1 1 dX11_autoId_107 rfl rfl ?_
    refine s_bipush (v := (10)) B.1.1 dX11_autoId_108 (by decide) ?_
    refine s_idiv B.1.1 dX11_autoId_110 (by decide) ?_
    refine s_lqi (fun x4 => ?_)
    refine s_istore_n (i := 3) (lv' := [(3, .int x4), (2, va_rf l2), (4, .int l4)]) B.1.1 dX11_autoId_111 rfl (by decide) (by simp [va_rf_cat, cat_i, cat_l, cat_r]) ?_
    refine s_iinc (v := l4 + (-1)) (lv' := [(4, .int (l4 + (-1))), (3, .int x4), (2, va_rf l2)]) B.1.1 2 dX11_autoId_112 rfl rfl (by decide) rfl ?_
    refine s_goto B.1.1 85 dX11_autoId_115 (by decide) ?_
    exact Sm.lvs [2, 1, 0] rfl (hkb l2 x4 (l4 + (-1)))
set_option maxRecDepth 10000 in
theorem sc_X11_autoId_L85 {g : Gm Hp (Option Nat)} {ke118 : Option Nat → Hp → Option ((Option Nat) × Hp)} (B : Bx g cX11_autoId 5 RX11 voR (some (.object "TopicBroker$Row")) 8 300 "autoId") {l0 : Nat} (hke118 : ∀ (l2 : Option Nat), Sm g 5 118 [(2, va_rf l2)] [] (ke118 l2)) : ∀ (n : Nat) (l2 : Option Nat) (l3 : Int32) (l4 : Int32), Sm g 5 85 [(2, va_rf l2), (3, .int l3), (4, .int l4)] [] (C_X11_autoId_L85 l0 ke118 n l2 l3 l4)
  | 0, _, _, _ => Sm.fail
  | n + 1, l2, l3, l4 => sc_X11_autoId_B85 B (sc_X11_autoId_L85 B hke118 n) hke118 l2 l3 l4
def C_X11_autoId_J74 (l0 : Nat) (l2 : Option Nat) : Hp → Option ((Option Nat) × Hp) :=
  hgI 13 15 (some l0) fun v5 =>
  hLn 0 l2 fun v6 =>
  lq (v6 - (1 : Int32)) fun x7 =>
  C_X11_autoId_L85 l0 (fun l2 => C_X11_autoId_J118 l0 l2) fu l2 v5 x7
set_option maxRecDepth 10000 in
theorem mo_C_X11_autoId_J74 (l0 : Nat) (l2 : Option Nat) : Mo (C_X11_autoId_J74 l0 l2) := by
  unfold C_X11_autoId_J74
  repeat' (with_reducible first | assumption | exact mo_rt _ | exact mo_zt _ | exact mo_no | apply mo_C_X11_autoId_L85 | apply mo_C_X11_autoId_J118 | refine mo_ite ?_ ?_ | refine mo_hgI (fun _ => ?_) | refine mo_hgR (fun _ => ?_) | refine mo_hCv (fun _ => ?_) (fun _ => ?_) | refine mo_lq (fun _ => ?_) | refine mo_hpI ?_ | refine mo_hpR ?_ | refine mo_hAi (fun _ => ?_) | refine mo_hAr (fun _ => ?_) | refine mo_hWi ?_ | refine mo_hWr ?_ | refine mo_hLn (fun _ => ?_) | refine mo_hgL (fun _ => ?_) | refine mo_hpL ?_ | refine mo_hpZ ?_ | refine mo_bd ?_ (fun _ => ?_) | refine mo_hCi (fun _ => ?_) (fun _ => ?_) | refine mo_hNw (fun _ => ?_) | refine mo_hNa (fun _ => ?_) | refine mo_hCp ?_ | refine mo_hOi ?_ | refine mo_hAl (fun _ => ?_) | refine mo_hWl ?_ | refine mo_gd ?_ | refine mo_sLn (fun _ => ?_) | refine mo_sAt (fun _ => ?_) | refine mo_kLn (fun _ => ?_) | refine mo_kAt (fun _ => ?_))
set_option maxRecDepth 10000 in
theorem sc_X11_autoId_J74 {g : Gm Hp (Option Nat)} (B : Bx g cX11_autoId 5 RX11 voR (some (.object "TopicBroker$Row")) 8 300 "autoId") {l0 : Nat} (l2 : Option Nat) : Sm g 5 74 [(0, va_rf (some l0)), (2, va_rf l2)] [] (C_X11_autoId_J74 l0 l2) := by
  unfold C_X11_autoId_J74
  refine s_rload_n B.1.1 0 dX11_autoId_74 rfl rfl ?_
  refine hp_getI B.1 13 15 rfl (by decide) inX11 (by decide) fk_X11_15.1 fk_X11_15.2 cf_X11_402 dX11_autoId_75 (fun v5 => ?_)
  refine s_istore_n (i := 3) (lv' := [(3, .int v5), (0, va_rf (some l0)), (2, va_rf l2)]) B.1.1 dX11_autoId_78 rfl (by decide) (by simp [va_rf_cat, cat_i, cat_l, cat_r]) ?_
  refine s_rload_n B.1.1 2 dX11_autoId_79 rfl rfl ?_
  refine hp_Ln B.1 0 (fun _ => rfl) dX11_autoId_80 (fun v6 => ?_)
  refine s_iconst (v := 1) B.1.1 dX11_autoId_81 (by decide) ?_
  refine s_isub B.1.1 dX11_autoId_82 ?_
  refine s_lqi (fun x7 => ?_)
  refine s_istore (i := 4) (lv' := [(4, .int x7), (3, .int v5), (0, va_rf (some l0)), (2, va_rf l2)]) B.1.1 dX11_autoId_83 (by decide) rfl ?_
  exact Sm.lvs [3, 1, 0] rfl (sc_X11_autoId_L85 B (fun l2 => sc_X11_autoId_J118 B l2) fu l2 v5 x7)
def C_X11_autoId_B48 (l0 : Nat) (kb : Option Nat → Int32 → Hp → Option ((Option Nat) × Hp)) (ke74 : Option Nat → Hp → Option ((Option Nat) × Hp)) (l2 : Option Nat) (l3 : Int32) : Hp → Option ((Option Nat) × Hp) :=
  sLn 2 fun v8 =>
  if v8 ≤ l3 then (
    ke74 l2
  ) else (
    sAt 2 l3 fun v9 =>
    hWi l2 l3 v9 <|
    kb l2 (l3 + 1)
  )
def C_X11_autoId_L48 (l0 : Nat) (ke74 : Option Nat → Hp → Option ((Option Nat) × Hp)) : Nat → Option Nat → Int32 → Hp → Option ((Option Nat) × Hp)
  | 0, _, _ => no
  | n + 1, l2, l3 => C_X11_autoId_B48 l0 (fun l2 l3 => C_X11_autoId_L48 l0 ke74 n l2 l3) ke74 l2 l3
set_option maxRecDepth 10000 in
theorem mo_C_X11_autoId_B48 (l0 : Nat) (kb : Option Nat → Int32 → Hp → Option ((Option Nat) × Hp)) (ke74 : Option Nat → Hp → Option ((Option Nat) × Hp)) (hkb : ∀ (l2 : Option Nat) (l3 : Int32), Mo (kb l2 l3)) (hke74 : ∀ (l2 : Option Nat), Mo (ke74 l2)) (l2 : Option Nat) (l3 : Int32) : Mo (C_X11_autoId_B48 l0 kb ke74 l2 l3) := by
  unfold C_X11_autoId_B48
  repeat' (with_reducible first | assumption | exact mo_rt _ | exact mo_zt _ | exact mo_no | apply hkb | apply hke74 | refine mo_ite ?_ ?_ | refine mo_hgI (fun _ => ?_) | refine mo_hgR (fun _ => ?_) | refine mo_hCv (fun _ => ?_) (fun _ => ?_) | refine mo_lq (fun _ => ?_) | refine mo_hpI ?_ | refine mo_hpR ?_ | refine mo_hAi (fun _ => ?_) | refine mo_hAr (fun _ => ?_) | refine mo_hWi ?_ | refine mo_hWr ?_ | refine mo_hLn (fun _ => ?_) | refine mo_hgL (fun _ => ?_) | refine mo_hpL ?_ | refine mo_hpZ ?_ | refine mo_bd ?_ (fun _ => ?_) | refine mo_hCi (fun _ => ?_) (fun _ => ?_) | refine mo_hNw (fun _ => ?_) | refine mo_hNa (fun _ => ?_) | refine mo_hCp ?_ | refine mo_hOi ?_ | refine mo_hAl (fun _ => ?_) | refine mo_hWl ?_ | refine mo_gd ?_ | refine mo_sLn (fun _ => ?_) | refine mo_sAt (fun _ => ?_) | refine mo_kLn (fun _ => ?_) | refine mo_kAt (fun _ => ?_))
set_option maxRecDepth 10000 in
theorem mo_C_X11_autoId_L48 (l0 : Nat) (ke74 : Option Nat → Hp → Option ((Option Nat) × Hp)) (hke74 : ∀ (l2 : Option Nat), Mo (ke74 l2)) : ∀ (n : Nat) (l2 : Option Nat) (l3 : Int32), Mo (C_X11_autoId_L48 l0 ke74 n l2 l3)
  | 0, _, _ => mo_no
  | n + 1, l2, l3 => mo_C_X11_autoId_B48 l0 _ ke74 (mo_C_X11_autoId_L48 l0 ke74 hke74 n) hke74 l2 l3
set_option maxRecDepth 10000 in
theorem sc_X11_autoId_B48 {g : Gm Hp (Option Nat)} {kb : Option Nat → Int32 → Hp → Option ((Option Nat) × Hp)} {ke74 : Option Nat → Hp → Option ((Option Nat) × Hp)} (B : Bx g cX11_autoId 5 RX11 voR (some (.object "TopicBroker$Row")) 8 300 "autoId") {l0 : Nat} (hkb : ∀ (l2 : Option Nat) (l3 : Int32), Sm g 5 48 [(0, va_rf (some l0)), (2, va_rf l2), (3, .int l3)] [] (kb l2 l3)) (hke74 : ∀ (l2 : Option Nat), Sm g 5 74 [(0, va_rf (some l0)), (2, va_rf l2)] [] (ke74 l2)) (l2 : Option Nat) (l3 : Int32) : Sm g 5 48 [(0, va_rf (some l0)), (2, va_rf l2), (3, .int l3)] [] (C_X11_autoId_B48 l0 kb ke74 l2 l3) := by
  unfold C_X11_autoId_B48
  refine s_iload_n B.1.1 2 dX11_autoId_48 rfl rfl ?_
  refine s_ldwS B 2 405 (by decide +kernel) dX11_autoId_49 ?_
  refine s_sLn B 2 (by decide) tw_1267 (by decide) (Nat.le_of_ble_eq_true rfl) dX11_autoId_52 (fun v8 => ?_)
  refine s_icmp_ge B.1.1 74 dX11_autoId_55 (by decide) ?_ ?_
  · exact Sm.lvs [0, 1] rfl (hke74 l2)
  · refine s_rload_n B.1.1 1 dX11_autoId_58 rfl rfl ?_
    refine s_iload_n B.1.1 2 dX11_autoId_59 rfl rfl ?_
    refine s_ldwS B 2 405 (by decide +kernel) dX11_autoId_60 ?_
    refine s_iload_n B.1.1 2 dX11_autoId_63 rfl rfl ?_
    refine s_sAt B 2 (by decide) tw_1268 (by decide) (by simp [va_rf_cat, cat_i, cat_l, cat_r]) dX11_autoId_64 (fun v9 => ?_)
    refine hp_Wi B.1 dX11_autoId_67 ?_
    refine s_iinc (v := l3 + 1) (lv' := [(3, .int (l3 + 1)), (0, va_rf (some l0)), (2, va_rf l2)]) B.1.1 2 dX11_autoId_68 rfl rfl (by decide) (by simp [va_rf_cat, cat_i, cat_l, cat_r]) ?_
    refine s_goto B.1.1 48 dX11_autoId_71 (by decide) ?_
    exact Sm.lvs [1, 2, 0] rfl (hkb l2 (l3 + 1))
set_option maxRecDepth 10000 in
theorem sc_X11_autoId_L48 {g : Gm Hp (Option Nat)} {ke74 : Option Nat → Hp → Option ((Option Nat) × Hp)} (B : Bx g cX11_autoId 5 RX11 voR (some (.object "TopicBroker$Row")) 8 300 "autoId") {l0 : Nat} (hke74 : ∀ (l2 : Option Nat), Sm g 5 74 [(0, va_rf (some l0)), (2, va_rf l2)] [] (ke74 l2)) : ∀ (n : Nat) (l2 : Option Nat) (l3 : Int32), Sm g 5 48 [(0, va_rf (some l0)), (2, va_rf l2), (3, .int l3)] [] (C_X11_autoId_L48 l0 ke74 n l2 l3)
  | 0, _, _ => Sm.fail
  | n + 1, l2, l3 => sc_X11_autoId_B48 B (sc_X11_autoId_L48 B hke74 n) hke74 l2 l3
def C_X11_autoId_J35 (l0 : Nat) (l1 : Int32) : Hp → Option ((Option Nat) × Hp) :=
  sLn 2 fun v10 =>
  hNa 0 (v10 + l1) fun o11 =>
  C_X11_autoId_L48 l0 (fun l2 => C_X11_autoId_J74 l0 l2) fu o11 (0 : Int32)
set_option maxRecDepth 10000 in
theorem mo_C_X11_autoId_J35 (l0 : Nat) (l1 : Int32) : Mo (C_X11_autoId_J35 l0 l1) := by
  unfold C_X11_autoId_J35
  repeat' (with_reducible first | assumption | exact mo_rt _ | exact mo_zt _ | exact mo_no | apply mo_C_X11_autoId_L48 | apply mo_C_X11_autoId_J74 | refine mo_ite ?_ ?_ | refine mo_hgI (fun _ => ?_) | refine mo_hgR (fun _ => ?_) | refine mo_hCv (fun _ => ?_) (fun _ => ?_) | refine mo_lq (fun _ => ?_) | refine mo_hpI ?_ | refine mo_hpR ?_ | refine mo_hAi (fun _ => ?_) | refine mo_hAr (fun _ => ?_) | refine mo_hWi ?_ | refine mo_hWr ?_ | refine mo_hLn (fun _ => ?_) | refine mo_hgL (fun _ => ?_) | refine mo_hpL ?_ | refine mo_hpZ ?_ | refine mo_bd ?_ (fun _ => ?_) | refine mo_hCi (fun _ => ?_) (fun _ => ?_) | refine mo_hNw (fun _ => ?_) | refine mo_hNa (fun _ => ?_) | refine mo_hCp ?_ | refine mo_hOi ?_ | refine mo_hAl (fun _ => ?_) | refine mo_hWl ?_ | refine mo_gd ?_ | refine mo_sLn (fun _ => ?_) | refine mo_sAt (fun _ => ?_) | refine mo_kLn (fun _ => ?_) | refine mo_kAt (fun _ => ?_))
set_option maxRecDepth 10000 in
theorem sc_X11_autoId_J35 {g : Gm Hp (Option Nat)} (B : Bx g cX11_autoId 5 RX11 voR (some (.object "TopicBroker$Row")) 8 300 "autoId") {l0 : Nat} (l1 : Int32) : Sm g 5 35 [(0, va_rf (some l0)), (1, .int l1)] [] (C_X11_autoId_J35 l0 l1) := by
  unfold C_X11_autoId_J35
  refine s_ldwS B 2 405 (by decide +kernel) dX11_autoId_35 ?_
  refine s_sLn B 2 (by decide) tw_1267 (by decide) (Nat.le_of_ble_eq_true rfl) dX11_autoId_38 (fun v10 => ?_)
  refine s_iload_n B.1.1 1 dX11_autoId_41 rfl rfl ?_
  refine s_iadd B.1.1 dX11_autoId_42 ?_
  refine hp_Na (atype := .int) B.1 0 rfl (by decide) tw_100 (fun _ => rfl) (fun _ _ => rfl) rfl (by decide) dX11_autoId_43 (fun o11 => ?_)
  refine s_rstore_n (i := 2) (lv' := [(2, va_rf o11), (0, va_rf (some l0)), (1, .int l1)]) B.1.1 dX11_autoId_45 rfl (by decide) rfl ?_
  refine s_iconst (v := 0) B.1.1 dX11_autoId_46 (by decide) ?_
  refine s_istore_n (i := 3) (lv' := [(3, .int (0 : Int32)), (2, va_rf o11), (0, va_rf (some l0)), (1, .int l1)]) B.1.1 dX11_autoId_47 rfl (by decide) (by simp [va_rf_cat, cat_i, cat_l, cat_r]) ?_
  exact Sm.lvs [2, 1, 0] rfl (sc_X11_autoId_L48 B (fun l2 => sc_X11_autoId_J74 B l2) fu o11 (0 : Int32))
def C_X11_autoId_B20 (l0 : Nat) (kb : Int32 → Int32 → Hp → Option ((Option Nat) × Hp)) (ke35 : Int32 → Hp → Option ((Option Nat) × Hp)) (l1 : Int32) (l2 : Int32) : Hp → Option ((Option Nat) × Hp) :=
  if l2 ≤ 0 then (
    ke35 l1
  ) else (
    lq (l2 / (10 : Int32)) fun x12 =>
    kb (l1 + 1) x12
  )
def C_X11_autoId_L20 (l0 : Nat) (ke35 : Int32 → Hp → Option ((Option Nat) × Hp)) : Nat → Int32 → Int32 → Hp → Option ((Option Nat) × Hp)
  | 0, _, _ => no
  | n + 1, l1, l2 => C_X11_autoId_B20 l0 (fun l1 l2 => C_X11_autoId_L20 l0 ke35 n l1 l2) ke35 l1 l2
set_option maxRecDepth 10000 in
theorem mo_C_X11_autoId_B20 (l0 : Nat) (kb : Int32 → Int32 → Hp → Option ((Option Nat) × Hp)) (ke35 : Int32 → Hp → Option ((Option Nat) × Hp)) (hkb : ∀ (l1 : Int32) (l2 : Int32), Mo (kb l1 l2)) (hke35 : ∀ (l1 : Int32), Mo (ke35 l1)) (l1 : Int32) (l2 : Int32) : Mo (C_X11_autoId_B20 l0 kb ke35 l1 l2) := by
  unfold C_X11_autoId_B20
  repeat' (with_reducible first | assumption | exact mo_rt _ | exact mo_zt _ | exact mo_no | apply hkb | apply hke35 | refine mo_ite ?_ ?_ | refine mo_hgI (fun _ => ?_) | refine mo_hgR (fun _ => ?_) | refine mo_hCv (fun _ => ?_) (fun _ => ?_) | refine mo_lq (fun _ => ?_) | refine mo_hpI ?_ | refine mo_hpR ?_ | refine mo_hAi (fun _ => ?_) | refine mo_hAr (fun _ => ?_) | refine mo_hWi ?_ | refine mo_hWr ?_ | refine mo_hLn (fun _ => ?_) | refine mo_hgL (fun _ => ?_) | refine mo_hpL ?_ | refine mo_hpZ ?_ | refine mo_bd ?_ (fun _ => ?_) | refine mo_hCi (fun _ => ?_) (fun _ => ?_) | refine mo_hNw (fun _ => ?_) | refine mo_hNa (fun _ => ?_) | refine mo_hCp ?_ | refine mo_hOi ?_ | refine mo_hAl (fun _ => ?_) | refine mo_hWl ?_ | refine mo_gd ?_ | refine mo_sLn (fun _ => ?_) | refine mo_sAt (fun _ => ?_) | refine mo_kLn (fun _ => ?_) | refine mo_kAt (fun _ => ?_))
set_option maxRecDepth 10000 in
theorem mo_C_X11_autoId_L20 (l0 : Nat) (ke35 : Int32 → Hp → Option ((Option Nat) × Hp)) (hke35 : ∀ (l1 : Int32), Mo (ke35 l1)) : ∀ (n : Nat) (l1 : Int32) (l2 : Int32), Mo (C_X11_autoId_L20 l0 ke35 n l1 l2)
  | 0, _, _ => mo_no
  | n + 1, l1, l2 => mo_C_X11_autoId_B20 l0 _ ke35 (mo_C_X11_autoId_L20 l0 ke35 hke35 n) hke35 l1 l2
set_option maxRecDepth 10000 in
theorem sc_X11_autoId_B20 {g : Gm Hp (Option Nat)} {kb : Int32 → Int32 → Hp → Option ((Option Nat) × Hp)} {ke35 : Int32 → Hp → Option ((Option Nat) × Hp)} (B : Bx g cX11_autoId 5 RX11 voR (some (.object "TopicBroker$Row")) 8 300 "autoId") {l0 : Nat} (hkb : ∀ (l1 : Int32) (l2 : Int32), Sm g 5 20 [(0, va_rf (some l0)), (1, .int l1), (2, .int l2)] [] (kb l1 l2)) (hke35 : ∀ (l1 : Int32), Sm g 5 35 [(0, va_rf (some l0)), (1, .int l1)] [] (ke35 l1)) (l1 : Int32) (l2 : Int32) : Sm g 5 20 [(0, va_rf (some l0)), (1, .int l1), (2, .int l2)] [] (C_X11_autoId_B20 l0 kb ke35 l1 l2) := by
  unfold C_X11_autoId_B20
  refine s_iload_n B.1.1 2 dX11_autoId_20 rfl rfl ?_
  refine s_if_le B.1.1 35 dX11_autoId_21 (by decide) ?_ ?_
  · exact Sm.lvs [0, 1] rfl (hke35 l1)
  · refine s_iinc (v := l1 + 1) (lv' := [(1, .int (l1 + 1)), (0, va_rf (some l0)), (2, .int l2)]) B.1.1 1 dX11_autoId_24 rfl rfl (by decide) rfl ?_
    refine s_iload_n B.1.1 2 dX11_autoId_27 rfl rfl ?_
    refine s_bipush (v := (10)) B.1.1 dX11_autoId_28 (by decide) ?_
    refine s_idiv B.1.1 dX11_autoId_30 (by decide) ?_
    refine s_lqi (fun x12 => ?_)
    refine s_istore_n (i := 2) (lv' := [(2, .int x12), (1, .int (l1 + 1)), (0, va_rf (some l0))]) B.1.1 dX11_autoId_31 rfl (by decide) rfl ?_
    refine s_goto B.1.1 20 dX11_autoId_32 (by decide) ?_
    exact Sm.lvs [2, 1, 0] rfl (hkb (l1 + 1) x12)
set_option maxRecDepth 10000 in
theorem sc_X11_autoId_L20 {g : Gm Hp (Option Nat)} {ke35 : Int32 → Hp → Option ((Option Nat) × Hp)} (B : Bx g cX11_autoId 5 RX11 voR (some (.object "TopicBroker$Row")) 8 300 "autoId") {l0 : Nat} (hke35 : ∀ (l1 : Int32), Sm g 5 35 [(0, va_rf (some l0)), (1, .int l1)] [] (ke35 l1)) : ∀ (n : Nat) (l1 : Int32) (l2 : Int32), Sm g 5 20 [(0, va_rf (some l0)), (1, .int l1), (2, .int l2)] [] (C_X11_autoId_L20 l0 ke35 n l1 l2)
  | 0, _, _ => Sm.fail
  | n + 1, l1, l2 => sc_X11_autoId_B20 B (sc_X11_autoId_L20 B hke35 n) hke35 l1 l2
def C_X11_autoId (l0 : Nat) : Hp → Option ((Option Nat) × Hp) :=
  hgI 13 15 (some l0) fun v13 =>
  hpI 13 15 (some l0) (v13 + (1 : Int32)) <|
  hgI 13 15 (some l0) fun v14 =>
  lq (v14 / (10 : Int32)) fun x15 =>
  C_X11_autoId_L20 l0 (fun l1 => C_X11_autoId_J35 l0 l1) fu (1 : Int32) x15
set_option maxRecDepth 10000 in
theorem mo_C_X11_autoId (l0 : Nat) : Mo (C_X11_autoId l0) := by
  unfold C_X11_autoId
  repeat' (with_reducible first | assumption | exact mo_rt _ | exact mo_zt _ | exact mo_no | apply mo_C_X11_autoId_L20 | apply mo_C_X11_autoId_J35 | refine mo_ite ?_ ?_ | refine mo_hgI (fun _ => ?_) | refine mo_hgR (fun _ => ?_) | refine mo_hCv (fun _ => ?_) (fun _ => ?_) | refine mo_lq (fun _ => ?_) | refine mo_hpI ?_ | refine mo_hpR ?_ | refine mo_hAi (fun _ => ?_) | refine mo_hAr (fun _ => ?_) | refine mo_hWi ?_ | refine mo_hWr ?_ | refine mo_hLn (fun _ => ?_) | refine mo_hgL (fun _ => ?_) | refine mo_hpL ?_ | refine mo_hpZ ?_ | refine mo_bd ?_ (fun _ => ?_) | refine mo_hCi (fun _ => ?_) (fun _ => ?_) | refine mo_hNw (fun _ => ?_) | refine mo_hNa (fun _ => ?_) | refine mo_hCp ?_ | refine mo_hOi ?_ | refine mo_hAl (fun _ => ?_) | refine mo_hWl ?_ | refine mo_gd ?_ | refine mo_sLn (fun _ => ?_) | refine mo_sAt (fun _ => ?_) | refine mo_kLn (fun _ => ?_) | refine mo_kAt (fun _ => ?_))
set_option maxRecDepth 10000 in
theorem mC_X11_autoId {w : Wd} (hw : Wc w) (l0 : Nat) : MH w yX11_autoId cX11_autoId 5 (some (.object "TopicBroker$Row")) 8 300 voR [va_rf (some l0)] (C_X11_autoId l0) := by
  have M0 : ∀ g : Gm Hp (Option Nat), g.1 = w → Bx g cX11_autoId 5 RX11 voR (some (.object "TopicBroker$Row")) 8 300 "autoId" → Sm g 5 0 (lv_args 0 [va_rf (some l0)]) [] (C_X11_autoId l0) := by
    intro g hg B
    subst hg
    unfold C_X11_autoId
    refine W_lva (lv := [(0, va_rf (some l0))]) (by simp [lv_args, va_rf_cat, cat_i, cat_l, cat_r]) ?_
    refine s_rload_n B.1.1 0 dX11_autoId_0 rfl rfl ?_
    refine s_dup B.1.1 dX11_autoId_1 rfl ?_
    refine hp_getI B.1 13 15 rfl (by decide) inX11 (by decide) fk_X11_15.1 fk_X11_15.2 cf_X11_402 dX11_autoId_2 (fun v13 => ?_)
    refine s_iconst (v := 1) B.1.1 dX11_autoId_5 (by decide) ?_
    refine s_iadd B.1.1 dX11_autoId_6 ?_
    refine hp_putI B.1 13 15 rfl (by decide) inX11 tyX11 tyX11_ok nmX11 (by decide) fk_X11_15.1 fk_X11_15.2 ft_X11_15 rfl cf_X11_402 dX11_autoId_7 ?_
    refine s_iconst (v := 1) B.1.1 dX11_autoId_10 (by decide) ?_
    refine s_istore_n (i := 1) (lv' := [(1, .int (1 : Int32)), (0, va_rf (some l0))]) B.1.1 dX11_autoId_11 rfl (by decide) rfl ?_
    refine s_rload_n B.1.1 1 dX11_autoId_12 rfl rfl ?_
    refine hp_getI B.1 13 15 rfl (by decide) inX11 (by decide) fk_X11_15.1 fk_X11_15.2 cf_X11_402 dX11_autoId_13 (fun v14 => ?_)
    refine s_bipush (v := (10)) B.1.1 dX11_autoId_16 (by decide) ?_
    refine s_idiv B.1.1 dX11_autoId_18 (by decide) ?_
    refine s_lqi (fun x15 => ?_)
    refine s_istore_n (i := 2) (lv' := [(2, .int x15), (1, .int (1 : Int32)), (0, va_rf (some l0))]) B.1.1 dX11_autoId_19 rfl (by decide) rfl ?_
    exact Sm.lvs [2, 1, 0] rfl (sc_X11_autoId_L20 B (fun l1 => sc_X11_autoId_J35 B l1) fu (1 : Int32) x15)
  exact MH.of hw ⟨rfl, rfl⟩ (by decide) (by simp [lg_sl, va_rf_cat, cat_i, cat_l, cat_r]) (mo_C_X11_autoId l0) M0
