def hh_L_open : List (Nat × Nat × Nat × Nat) := [(0, 5, 8, 13), (0, 5, 11, 15)]
def C_L_open (l0 : Option Nat) (l1 : Int32) : Hp → Option (Int32 × Hp) :=
  hTry 13 l0 (fun a => C_X11_open a l1) (fun e => if e = 0 then some 1 else if e = 2 then some 2 else none) fun r1 =>
  rt ((0 : Int32))
set_option maxRecDepth 10000 in
theorem mo_C_L_open (l0 : Option Nat) (l1 : Int32) : Mo (C_L_open l0 l1) := by
  unfold C_L_open
  repeat' (with_reducible first | assumption | exact mo_rt _ | exact mo_zt _ | exact mo_no | refine mo_hTry (fun _ => ?_) (fun _ => ?_) | apply mo_C_X11_open | refine mo_ite ?_ ?_ | refine mo_hgI (fun _ => ?_) | refine mo_hgR (fun _ => ?_) | refine mo_hCv (fun _ => ?_) (fun _ => ?_) | refine mo_lq (fun _ => ?_) | refine mo_hpI ?_ | refine mo_hpR ?_ | refine mo_hAi (fun _ => ?_) | refine mo_hAr (fun _ => ?_) | refine mo_hWi ?_ | refine mo_hWr ?_ | refine mo_hLn (fun _ => ?_) | refine mo_hgL (fun _ => ?_) | refine mo_hpL ?_ | refine mo_hpZ ?_ | refine mo_bd ?_ (fun _ => ?_) | refine mo_hCi (fun _ => ?_) (fun _ => ?_) | refine mo_hNw (fun _ => ?_) | refine mo_hNa (fun _ => ?_) | refine mo_hCp ?_ | refine mo_hOi ?_ | refine mo_hAl (fun _ => ?_) | refine mo_hWl ?_ | refine mo_gd ?_ | refine mo_sLn (fun _ => ?_) | refine mo_sAt (fun _ => ?_) | refine mo_kLn (fun _ => ?_) | refine mo_kAt (fun _ => ?_))
set_option maxRecDepth 10000 in
theorem mW_L_open {w : Wd} (hw : Wc w) (hz : Wz w) (hN : Wn w) (l0 : Option Nat) (l1 : Int32) : MHW w yL_open cL_open 3 hh_L_open 8 133 [va_rf l0, .int l1] (C_L_open l0 l1) := by
  have M0 : ∀ g : Gm Hp Int32, g.1 = w → Bl g cL_open 3 8 133 hh_L_open → Sm g 3 0 (lv_args 0 [va_rf l0, .int l1]) [] (C_L_open l0 l1) := by
    intro g hg B
    subst hg
    unfold C_L_open
    refine W_lva (lv := [(0, va_rf l0), (1, .int l1)]) (by simp [lv_args, va_rf_cat, cat_i, cat_l, cat_r]) ?_
    refine s_rload_n B.1.1 0 dL_open_0 rfl rfl ?_
    refine s_iload_n B.1.1 1 dL_open_1 rfl rfl ?_
    refine l_tryv (As := [.int l1]) (st := []) 13 rfl (by decide) B (fun a => mX_X11_open B.2.1 B.2.2.2.2.2.1 a l1) cc_X11_open cl_L_7 cn_X11_open ce_X11_open ci_X11 cd_X11_open (by decide) rfl (Nat.le_of_ble_eq_true rfl) dL_open_2 ?_ (fun r1 => ?_)
    · intro e k hk
      by_cases h0 : e = 0
      · subst h0
        have hk1 : k = 1 := by simpa using hk.symm
        subst hk1
        refine ⟨8, ⟨[], _, _, rfl, fun z hz => (List.not_mem_nil hz).elim, by decide, by decide, lc_0, rfl, by decide⟩, fun q => ?_⟩
        refine s_rstore_n (i := 2) (lv' := [(2, va_rf (some q)), (0, va_rf l0), (1, .int l1)]) B.1.1 dL_open_8 rfl (by decide) rfl ?_
        refine s_iconst (v := 1) B.1.1 dL_open_9 (by decide) ?_
        exact s_iret B.1.1 B.2.2.2.2.1 dL_open_10
      · 
        by_cases h1 : e = 2
        · subst h1
          have hk1 : k = 2 := by simpa using hk.symm
          subst hk1
          refine ⟨11, ⟨(tableOf hh_L_open).take 1, _, _, rfl, fun z hz => ?_, by decide, by decide, lc_2, rfl, by decide⟩, fun q => ?_⟩
          · simp only [hh_L_open, tableOf, List.map, List.take, List.mem_cons, List.not_mem_nil, or_false] at hz
            subst hz; exact ⟨by decide, 0, by decide, by decide, lc_0⟩
          · refine s_rstore_n (i := 2) (lv' := [(2, va_rf (some q)), (0, va_rf l0), (1, .int l1)]) B.1.1 dL_open_11 rfl (by decide) rfl ?_
            refine s_iconst (v := 2) B.1.1 dL_open_12 (by decide) ?_
            exact s_iret B.1.1 B.2.2.2.2.1 dL_open_13
        ·  simp [h0, h1] at hk
    · refine s_goto B.1.1 14 dL_open_5 (by decide) ?_
      refine s_iconst (v := 0) B.1.1 dL_open_14 (by decide) ?_
      exact s_iret B.1.1 B.2.2.2.2.1 dL_open_15
  exact MHW.of hw hz hN rfl (by simp [lg_sl, va_rf_cat, cat_i, cat_l, cat_r]) (mo_C_L_open l0 l1) M0
def hh_L_feed : List (Nat × Nat × Nat × Nat) := [(0, 15, 18, 13), (0, 15, 22, 21), (0, 15, 26, 15)]
def C_L_feed (l0 : Option Nat) (l1 : Int32) (l2 : Int64) (l4 : Int64) (l6 : Int32) (l7 : Option Nat) : Hp → Option (Int32 × Hp) :=
  hTry 13 l0 (fun a => C_X11_feed a l1 l2 l4 l6) (fun e => if e = 0 then some 1 else if e = 1 then some 2 else if e = 2 then some 3 else none) fun r1 =>
  hWl l7 (0 : Int32) r1.toInt64 <|
  rt ((0 : Int32))
set_option maxRecDepth 10000 in
theorem mo_C_L_feed (l0 : Option Nat) (l1 : Int32) (l2 : Int64) (l4 : Int64) (l6 : Int32) (l7 : Option Nat) : Mo (C_L_feed l0 l1 l2 l4 l6 l7) := by
  unfold C_L_feed
  repeat' (with_reducible first | assumption | exact mo_rt _ | exact mo_zt _ | exact mo_no | refine mo_hTry (fun _ => ?_) (fun _ => ?_) | apply mo_C_X11_feed | refine mo_ite ?_ ?_ | refine mo_hgI (fun _ => ?_) | refine mo_hgR (fun _ => ?_) | refine mo_hCv (fun _ => ?_) (fun _ => ?_) | refine mo_lq (fun _ => ?_) | refine mo_hpI ?_ | refine mo_hpR ?_ | refine mo_hAi (fun _ => ?_) | refine mo_hAr (fun _ => ?_) | refine mo_hWi ?_ | refine mo_hWr ?_ | refine mo_hLn (fun _ => ?_) | refine mo_hgL (fun _ => ?_) | refine mo_hpL ?_ | refine mo_hpZ ?_ | refine mo_bd ?_ (fun _ => ?_) | refine mo_hCi (fun _ => ?_) (fun _ => ?_) | refine mo_hNw (fun _ => ?_) | refine mo_hNa (fun _ => ?_) | refine mo_hCp ?_ | refine mo_hOi ?_ | refine mo_hAl (fun _ => ?_) | refine mo_hWl ?_ | refine mo_gd ?_ | refine mo_sLn (fun _ => ?_) | refine mo_sAt (fun _ => ?_) | refine mo_kLn (fun _ => ?_) | refine mo_kAt (fun _ => ?_))
set_option maxRecDepth 10000 in
theorem mW_L_feed {w : Wd} (hw : Wc w) (hz : Wz w) (hN : Wn w) (l0 : Option Nat) (l1 : Int32) (l2 : Int64) (l4 : Int64) (l6 : Int32) (l7 : Option Nat) : MHW w yL_feed cL_feed 9 hh_L_feed 15 477 [va_rf l0, .int l1, .long l2, .long l4, .int l6, va_rf l7] (C_L_feed l0 l1 l2 l4 l6 l7) := by
  have M0 : ∀ g : Gm Hp Int32, g.1 = w → Bl g cL_feed 9 15 477 hh_L_feed → Sm g 9 0 (lv_args 0 [va_rf l0, .int l1, .long l2, .long l4, .int l6, va_rf l7]) [] (C_L_feed l0 l1 l2 l4 l6 l7) := by
    intro g hg B
    subst hg
    unfold C_L_feed
    refine W_lva (lv := [(0, va_rf l0), (1, .int l1), (2, .long l2), (4, .long l4), (6, .int l6), (7, va_rf l7)]) (by simp [lv_args, va_rf_cat, cat_i, cat_l, cat_r]) ?_
    refine s_rload B.1.1 5 dL_feed_0 rfl ?_
    refine s_iconst (v := 0) B.1.1 dL_feed_2 (by decide) ?_
    refine s_rload_n B.1.1 0 dL_feed_3 rfl rfl ?_
    refine s_iload_n B.1.1 1 dL_feed_4 rfl rfl ?_
    refine s_lload_n B.1.1 2 dL_feed_5 rfl rfl ?_
    refine s_lload B.1.1 3 dL_feed_6 rfl ?_
    refine s_iload B.1.1 4 dL_feed_8 rfl ?_
    refine l_tryi (As := [.int l1, .long l2, .long l4, .int l6]) (st := [.int (0 : Int32), va_rf l7]) 13 rfl (by decide) B (fun a => mX_X11_feed B.2.1 B.2.2.2.2.2.1 a l1 l2 l4 l6) cc_X11_feed cl_L_17 cn_X11_feed ce_X11_feed ci_X11 cd_X11_feed (by decide) rfl (by simp [va_rf_cat, cat_i, cat_l, cat_r]) dL_feed_10 ?_ (fun r1 => ?_)
    · intro e k hk
      by_cases h0 : e = 0
      · subst h0
        have hk1 : k = 1 := by simpa using hk.symm
        subst hk1
        refine ⟨18, ⟨[], _, _, rfl, fun z hz => (List.not_mem_nil hz).elim, by decide, by decide, lc_0, rfl, by decide⟩, fun q => ?_⟩
        refine s_rstore (i := 8) (lv' := [(8, va_rf (some q)), (0, va_rf l0), (1, .int l1), (2, .long l2), (4, .long l4), (6, .int l6), (7, va_rf l7)]) B.1.1 dL_feed_18 (by decide) (by simp [va_rf_cat, cat_i, cat_l, cat_r]) ?_
        refine s_iconst (v := 1) B.1.1 dL_feed_20 (by decide) ?_
        exact s_iret B.1.1 B.2.2.2.2.1 dL_feed_21
      · 
        by_cases h1 : e = 1
        · subst h1
          have hk1 : k = 2 := by simpa using hk.symm
          subst hk1
          refine ⟨22, ⟨(tableOf hh_L_feed).take 1, _, _, rfl, fun z hz => ?_, by decide, by decide, lc_1, rfl, by decide⟩, fun q => ?_⟩
          · simp only [hh_L_feed, tableOf, List.map, List.take, List.mem_cons, List.not_mem_nil, or_false] at hz
            subst hz; exact ⟨by decide, 0, by decide, by decide, lc_0⟩
          · refine s_rstore (i := 8) (lv' := [(8, va_rf (some q)), (0, va_rf l0), (1, .int l1), (2, .long l2), (4, .long l4), (6, .int l6), (7, va_rf l7)]) B.1.1 dL_feed_22 (by decide) (by simp [va_rf_cat, cat_i, cat_l, cat_r]) ?_
            refine s_iconst (v := 2) B.1.1 dL_feed_24 (by decide) ?_
            exact s_iret B.1.1 B.2.2.2.2.1 dL_feed_25
        · 
          by_cases h2 : e = 2
          · subst h2
            have hk1 : k = 3 := by simpa using hk.symm
            subst hk1
            refine ⟨26, ⟨(tableOf hh_L_feed).take 2, _, _, rfl, fun z hz => ?_, by decide, by decide, lc_2, rfl, by decide⟩, fun q => ?_⟩
            · simp only [hh_L_feed, tableOf, List.map, List.take, List.mem_cons, List.not_mem_nil, or_false] at hz
              rcases hz with rfl | rfl
              · exact ⟨by decide, 0, by decide, by decide, lc_0⟩
              · exact ⟨by decide, 1, by decide, by decide, lc_1⟩
            · refine s_rstore (i := 8) (lv' := [(8, va_rf (some q)), (0, va_rf l0), (1, .int l1), (2, .long l2), (4, .long l4), (6, .int l6), (7, va_rf l7)]) B.1.1 dL_feed_26 (by decide) (by simp [va_rf_cat, cat_i, cat_l, cat_r]) ?_
              refine s_iconst (v := 3) B.1.1 dL_feed_28 (by decide) ?_
              exact s_iret B.1.1 B.2.2.2.2.1 dL_feed_29
          ·  simp [h0, h1, h2] at hk
    · refine s_i2l B.1.1 dL_feed_13 ?_
      refine hp_Wl B.1 dL_feed_14 ?_
      refine s_goto B.1.1 30 dL_feed_15 (by decide) ?_
      refine s_iconst (v := 0) B.1.1 dL_feed_30 (by decide) ?_
      exact s_iret B.1.1 B.2.2.2.2.1 dL_feed_31
  exact MHW.of hw hz hN rfl (by simp [lg_sl, va_rf_cat, cat_i, cat_l, cat_r]) (mo_C_L_feed l0 l1 l2 l4 l6 l7) M0
def hh_L_lose : List (Nat × Nat × Nat × Nat) := [(0, 5, 8, 13), (0, 5, 11, 15)]
def C_L_lose (l0 : Option Nat) (l1 : Int32) : Hp → Option (Int32 × Hp) :=
  hTry 13 l0 (fun a => C_X11_lose a l1) (fun e => if e = 0 then some 1 else if e = 2 then some 2 else none) fun r1 =>
  rt ((0 : Int32))
set_option maxRecDepth 10000 in
theorem mo_C_L_lose (l0 : Option Nat) (l1 : Int32) : Mo (C_L_lose l0 l1) := by
  unfold C_L_lose
  repeat' (with_reducible first | assumption | exact mo_rt _ | exact mo_zt _ | exact mo_no | refine mo_hTry (fun _ => ?_) (fun _ => ?_) | apply mo_C_X11_lose | refine mo_ite ?_ ?_ | refine mo_hgI (fun _ => ?_) | refine mo_hgR (fun _ => ?_) | refine mo_hCv (fun _ => ?_) (fun _ => ?_) | refine mo_lq (fun _ => ?_) | refine mo_hpI ?_ | refine mo_hpR ?_ | refine mo_hAi (fun _ => ?_) | refine mo_hAr (fun _ => ?_) | refine mo_hWi ?_ | refine mo_hWr ?_ | refine mo_hLn (fun _ => ?_) | refine mo_hgL (fun _ => ?_) | refine mo_hpL ?_ | refine mo_hpZ ?_ | refine mo_bd ?_ (fun _ => ?_) | refine mo_hCi (fun _ => ?_) (fun _ => ?_) | refine mo_hNw (fun _ => ?_) | refine mo_hNa (fun _ => ?_) | refine mo_hCp ?_ | refine mo_hOi ?_ | refine mo_hAl (fun _ => ?_) | refine mo_hWl ?_ | refine mo_gd ?_ | refine mo_sLn (fun _ => ?_) | refine mo_sAt (fun _ => ?_) | refine mo_kLn (fun _ => ?_) | refine mo_kAt (fun _ => ?_))
set_option maxRecDepth 10000 in
theorem mW_L_lose {w : Wd} (hw : Wc w) (hz : Wz w) (hN : Wn w) (l0 : Option Nat) (l1 : Int32) : MHW w yL_lose cL_lose 3 hh_L_lose 8 206 [va_rf l0, .int l1] (C_L_lose l0 l1) := by
  have M0 : ∀ g : Gm Hp Int32, g.1 = w → Bl g cL_lose 3 8 206 hh_L_lose → Sm g 3 0 (lv_args 0 [va_rf l0, .int l1]) [] (C_L_lose l0 l1) := by
    intro g hg B
    subst hg
    unfold C_L_lose
    refine W_lva (lv := [(0, va_rf l0), (1, .int l1)]) (by simp [lv_args, va_rf_cat, cat_i, cat_l, cat_r]) ?_
    refine s_rload_n B.1.1 0 dL_lose_0 rfl rfl ?_
    refine s_iload_n B.1.1 1 dL_lose_1 rfl rfl ?_
    refine l_tryv (As := [.int l1]) (st := []) 13 rfl (by decide) B (fun a => mX_X11_lose B.2.1 B.2.2.2.2.2.1 a l1) cc_X11_lose cl_L_23 cn_X11_lose ce_X11_lose ci_X11 cd_X11_lose (by decide) rfl (Nat.le_of_ble_eq_true rfl) dL_lose_2 ?_ (fun r1 => ?_)
    · intro e k hk
      by_cases h0 : e = 0
      · subst h0
        have hk1 : k = 1 := by simpa using hk.symm
        subst hk1
        refine ⟨8, ⟨[], _, _, rfl, fun z hz => (List.not_mem_nil hz).elim, by decide, by decide, lc_0, rfl, by decide⟩, fun q => ?_⟩
        refine s_rstore_n (i := 2) (lv' := [(2, va_rf (some q)), (0, va_rf l0), (1, .int l1)]) B.1.1 dL_lose_8 rfl (by decide) rfl ?_
        refine s_iconst (v := 1) B.1.1 dL_lose_9 (by decide) ?_
        exact s_iret B.1.1 B.2.2.2.2.1 dL_lose_10
      · 
        by_cases h1 : e = 2
        · subst h1
          have hk1 : k = 2 := by simpa using hk.symm
          subst hk1
          refine ⟨11, ⟨(tableOf hh_L_lose).take 1, _, _, rfl, fun z hz => ?_, by decide, by decide, lc_2, rfl, by decide⟩, fun q => ?_⟩
          · simp only [hh_L_lose, tableOf, List.map, List.take, List.mem_cons, List.not_mem_nil, or_false] at hz
            subst hz; exact ⟨by decide, 0, by decide, by decide, lc_0⟩
          · refine s_rstore_n (i := 2) (lv' := [(2, va_rf (some q)), (0, va_rf l0), (1, .int l1)]) B.1.1 dL_lose_11 rfl (by decide) rfl ?_
            refine s_iconst (v := 2) B.1.1 dL_lose_12 (by decide) ?_
            exact s_iret B.1.1 B.2.2.2.2.1 dL_lose_13
        ·  simp [h0, h1] at hk
    · refine s_goto B.1.1 14 dL_lose_5 (by decide) ?_
      refine s_iconst (v := 0) B.1.1 dL_lose_14 (by decide) ?_
      exact s_iret B.1.1 B.2.2.2.2.1 dL_lose_15
  exact MHW.of hw hz hN rfl (by simp [lg_sl, va_rf_cat, cat_i, cat_l, cat_r]) (mo_C_L_lose l0 l1) M0
def hh_L_isOpen : List (Nat × Nat × Nat × Nat) := [(0, 16, 19, 13)]
def C_L_isOpen_J15 (s0 : Option Nat) (s1 : Int32) (s2 : Int64) : Hp → Option (Int32 × Hp) :=
  hWl s0 s1 s2 <|
  rt ((0 : Int32))
set_option maxRecDepth 10000 in
theorem mo_C_L_isOpen_J15 (s0 : Option Nat) (s1 : Int32) (s2 : Int64) : Mo (C_L_isOpen_J15 s0 s1 s2) := by
  unfold C_L_isOpen_J15
  repeat' (with_reducible first | assumption | exact mo_rt _ | exact mo_zt _ | exact mo_no | refine mo_hTry (fun _ => ?_) (fun _ => ?_) | refine mo_ite ?_ ?_ | refine mo_hgI (fun _ => ?_) | refine mo_hgR (fun _ => ?_) | refine mo_hCv (fun _ => ?_) (fun _ => ?_) | refine mo_lq (fun _ => ?_) | refine mo_hpI ?_ | refine mo_hpR ?_ | refine mo_hAi (fun _ => ?_) | refine mo_hAr (fun _ => ?_) | refine mo_hWi ?_ | refine mo_hWr ?_ | refine mo_hLn (fun _ => ?_) | refine mo_hgL (fun _ => ?_) | refine mo_hpL ?_ | refine mo_hpZ ?_ | refine mo_bd ?_ (fun _ => ?_) | refine mo_hCi (fun _ => ?_) (fun _ => ?_) | refine mo_hNw (fun _ => ?_) | refine mo_hNa (fun _ => ?_) | refine mo_hCp ?_ | refine mo_hOi ?_ | refine mo_hAl (fun _ => ?_) | refine mo_hWl ?_ | refine mo_gd ?_ | refine mo_sLn (fun _ => ?_) | refine mo_sAt (fun _ => ?_) | refine mo_kLn (fun _ => ?_) | refine mo_kAt (fun _ => ?_))
set_option maxRecDepth 10000 in
theorem sc_L_isOpen_J15 {g : Gm Hp Int32} (B : Bl g cL_isOpen 4 8 132 hh_L_isOpen) (s0 : Option Nat) (s1 : Int32) (s2 : Int64) : Sm g 4 15 [] [.long s2, .int s1, va_rf s0] (C_L_isOpen_J15 s0 s1 s2) := by
  unfold C_L_isOpen_J15
  refine hp_Wl B.1 dL_isOpen_15 ?_
  refine s_goto B.1.1 22 dL_isOpen_16 (by decide) ?_
  refine s_iconst (v := 0) B.1.1 dL_isOpen_22 (by decide) ?_
  exact s_iret B.1.1 B.2.2.2.2.1 dL_isOpen_23
def C_L_isOpen (l0 : Option Nat) (l1 : Int32) (l2 : Option Nat) : Hp → Option (Int32 × Hp) :=
  hTry 13 l0 (fun a => C_X11_isOpen a l1) (fun e => if e = 0 then some 1 else none) fun r1 =>
  if r1 = 0 then (
    C_L_isOpen_J15 l2 (0 : Int32) (0 : Int64)
  ) else (
    C_L_isOpen_J15 l2 (0 : Int32) (1 : Int64)
  )
set_option maxRecDepth 10000 in
theorem mo_C_L_isOpen (l0 : Option Nat) (l1 : Int32) (l2 : Option Nat) : Mo (C_L_isOpen l0 l1 l2) := by
  unfold C_L_isOpen
  repeat' (with_reducible first | assumption | exact mo_rt _ | exact mo_zt _ | exact mo_no | refine mo_hTry (fun _ => ?_) (fun _ => ?_) | apply mo_C_X11_isOpen | apply mo_C_L_isOpen_J15 | refine mo_ite ?_ ?_ | refine mo_hgI (fun _ => ?_) | refine mo_hgR (fun _ => ?_) | refine mo_hCv (fun _ => ?_) (fun _ => ?_) | refine mo_lq (fun _ => ?_) | refine mo_hpI ?_ | refine mo_hpR ?_ | refine mo_hAi (fun _ => ?_) | refine mo_hAr (fun _ => ?_) | refine mo_hWi ?_ | refine mo_hWr ?_ | refine mo_hLn (fun _ => ?_) | refine mo_hgL (fun _ => ?_) | refine mo_hpL ?_ | refine mo_hpZ ?_ | refine mo_bd ?_ (fun _ => ?_) | refine mo_hCi (fun _ => ?_) (fun _ => ?_) | refine mo_hNw (fun _ => ?_) | refine mo_hNa (fun _ => ?_) | refine mo_hCp ?_ | refine mo_hOi ?_ | refine mo_hAl (fun _ => ?_) | refine mo_hWl ?_ | refine mo_gd ?_ | refine mo_sLn (fun _ => ?_) | refine mo_sAt (fun _ => ?_) | refine mo_kLn (fun _ => ?_) | refine mo_kAt (fun _ => ?_))
set_option maxRecDepth 10000 in
theorem mW_L_isOpen {w : Wd} (hw : Wc w) (hz : Wz w) (hN : Wn w) (l0 : Option Nat) (l1 : Int32) (l2 : Option Nat) : MHW w yL_isOpen cL_isOpen 4 hh_L_isOpen 8 132 [va_rf l0, .int l1, va_rf l2] (C_L_isOpen l0 l1 l2) := by
  have M0 : ∀ g : Gm Hp Int32, g.1 = w → Bl g cL_isOpen 4 8 132 hh_L_isOpen → Sm g 4 0 (lv_args 0 [va_rf l0, .int l1, va_rf l2]) [] (C_L_isOpen l0 l1 l2) := by
    intro g hg B
    subst hg
    unfold C_L_isOpen
    refine W_lva (lv := [(0, va_rf l0), (1, .int l1), (2, va_rf l2)]) (by simp [lv_args, va_rf_cat, cat_i, cat_l, cat_r]) ?_
    refine s_rload_n B.1.1 2 dL_isOpen_0 rfl rfl ?_
    refine s_iconst (v := 0) B.1.1 dL_isOpen_1 (by decide) ?_
    refine s_rload_n B.1.1 0 dL_isOpen_2 rfl rfl ?_
    refine s_iload_n B.1.1 1 dL_isOpen_3 rfl rfl ?_
    refine l_tryi (As := [.int l1]) (st := [.int (0 : Int32), va_rf l2]) 13 rfl (by decide) B (fun a => mX_X11_isOpen B.2.1 B.2.2.2.2.2.1 a l1) cc_X11_isOpen cl_L_26 cn_X11_isOpen ce_X11_isOpen ci_X11 cd_X11_isOpen (by decide) rfl (by simp [va_rf_cat, cat_i, cat_l, cat_r]) dL_isOpen_4 ?_ (fun r1 => ?_)
    · intro e k hk
      by_cases h0 : e = 0
      · subst h0
        have hk1 : k = 1 := by simpa using hk.symm
        subst hk1
        refine ⟨19, ⟨[], _, _, rfl, fun z hz => (List.not_mem_nil hz).elim, by decide, by decide, lc_0, rfl, by decide⟩, fun q => ?_⟩
        refine s_rstore_n (i := 3) (lv' := [(3, va_rf (some q)), (0, va_rf l0), (1, .int l1), (2, va_rf l2)]) B.1.1 dL_isOpen_19 rfl (by decide) (by simp [va_rf_cat, cat_i, cat_l, cat_r]) ?_
        refine s_iconst (v := 1) B.1.1 dL_isOpen_20 (by decide) ?_
        exact s_iret B.1.1 B.2.2.2.2.1 dL_isOpen_21
      ·  simp [h0] at hk
    · refine s_if_eq B.1.1 14 dL_isOpen_7 (by decide) ?_ ?_
      · refine s_lconst (v := 0) B.1.1 dL_isOpen_14 (by decide) ?_
        exact Sm.lvs [] rfl (sc_L_isOpen_J15 B l2 (0 : Int32) (0 : Int64))
      · refine s_lconst (v := 1) B.1.1 dL_isOpen_10 (by decide) ?_
        refine s_goto B.1.1 15 dL_isOpen_11 (by decide) ?_
        exact Sm.lvs [] rfl (sc_L_isOpen_J15 B l2 (0 : Int32) (1 : Int64))
  exact MHW.of hw hz hN rfl (by simp [lg_sl, va_rf_cat, cat_i, cat_l, cat_r]) (mo_C_L_isOpen l0 l1 l2) M0
def hh_L_size : List (Nat × Nat × Nat × Nat) := [(0, 9, 12, 13)]
def C_L_size (l0 : Option Nat) (l1 : Int32) (l2 : Option Nat) : Hp → Option (Int32 × Hp) :=
  hTry 13 l0 (fun a => C_X11_size a l1) (fun e => if e = 0 then some 1 else none) fun r1 =>
  hWl l2 (0 : Int32) r1.toInt64 <|
  rt ((0 : Int32))
set_option maxRecDepth 10000 in
theorem mo_C_L_size (l0 : Option Nat) (l1 : Int32) (l2 : Option Nat) : Mo (C_L_size l0 l1 l2) := by
  unfold C_L_size
  repeat' (with_reducible first | assumption | exact mo_rt _ | exact mo_zt _ | exact mo_no | refine mo_hTry (fun _ => ?_) (fun _ => ?_) | apply mo_C_X11_size | refine mo_ite ?_ ?_ | refine mo_hgI (fun _ => ?_) | refine mo_hgR (fun _ => ?_) | refine mo_hCv (fun _ => ?_) (fun _ => ?_) | refine mo_lq (fun _ => ?_) | refine mo_hpI ?_ | refine mo_hpR ?_ | refine mo_hAi (fun _ => ?_) | refine mo_hAr (fun _ => ?_) | refine mo_hWi ?_ | refine mo_hWr ?_ | refine mo_hLn (fun _ => ?_) | refine mo_hgL (fun _ => ?_) | refine mo_hpL ?_ | refine mo_hpZ ?_ | refine mo_bd ?_ (fun _ => ?_) | refine mo_hCi (fun _ => ?_) (fun _ => ?_) | refine mo_hNw (fun _ => ?_) | refine mo_hNa (fun _ => ?_) | refine mo_hCp ?_ | refine mo_hOi ?_ | refine mo_hAl (fun _ => ?_) | refine mo_hWl ?_ | refine mo_gd ?_ | refine mo_sLn (fun _ => ?_) | refine mo_sAt (fun _ => ?_) | refine mo_kLn (fun _ => ?_) | refine mo_kAt (fun _ => ?_))
set_option maxRecDepth 10000 in
theorem mW_L_size {w : Wd} (hw : Wc w) (hz : Wz w) (hN : Wn w) (l0 : Option Nat) (l1 : Int32) (l2 : Option Nat) : MHW w yL_size cL_size 4 hh_L_size 8 132 [va_rf l0, .int l1, va_rf l2] (C_L_size l0 l1 l2) := by
  have M0 : ∀ g : Gm Hp Int32, g.1 = w → Bl g cL_size 4 8 132 hh_L_size → Sm g 4 0 (lv_args 0 [va_rf l0, .int l1, va_rf l2]) [] (C_L_size l0 l1 l2) := by
    intro g hg B
    subst hg
    unfold C_L_size
    refine W_lva (lv := [(0, va_rf l0), (1, .int l1), (2, va_rf l2)]) (by simp [lv_args, va_rf_cat, cat_i, cat_l, cat_r]) ?_
    refine s_rload_n B.1.1 2 dL_size_0 rfl rfl ?_
    refine s_iconst (v := 0) B.1.1 dL_size_1 (by decide) ?_
    refine s_rload_n B.1.1 0 dL_size_2 rfl rfl ?_
    refine s_iload_n B.1.1 1 dL_size_3 rfl rfl ?_
    refine l_tryi (As := [.int l1]) (st := [.int (0 : Int32), va_rf l2]) 13 rfl (by decide) B (fun a => mX_X11_size B.2.1 B.2.2.2.2.2.1 a l1) cc_X11_size cl_L_30 cn_X11_size ce_X11_size ci_X11 cd_X11_size (by decide) rfl (by simp [va_rf_cat, cat_i, cat_l, cat_r]) dL_size_4 ?_ (fun r1 => ?_)
    · intro e k hk
      by_cases h0 : e = 0
      · subst h0
        have hk1 : k = 1 := by simpa using hk.symm
        subst hk1
        refine ⟨12, ⟨[], _, _, rfl, fun z hz => (List.not_mem_nil hz).elim, by decide, by decide, lc_0, rfl, by decide⟩, fun q => ?_⟩
        refine s_rstore_n (i := 3) (lv' := [(3, va_rf (some q)), (0, va_rf l0), (1, .int l1), (2, va_rf l2)]) B.1.1 dL_size_12 rfl (by decide) (by simp [va_rf_cat, cat_i, cat_l, cat_r]) ?_
        refine s_iconst (v := 1) B.1.1 dL_size_13 (by decide) ?_
        exact s_iret B.1.1 B.2.2.2.2.1 dL_size_14
      ·  simp [h0] at hk
    · refine s_i2l B.1.1 dL_size_7 ?_
      refine hp_Wl B.1 dL_size_8 ?_
      refine s_goto B.1.1 15 dL_size_9 (by decide) ?_
      refine s_iconst (v := 0) B.1.1 dL_size_15 (by decide) ?_
      exact s_iret B.1.1 B.2.2.2.2.1 dL_size_16
  exact MHW.of hw hz hN rfl (by simp [lg_sl, va_rf_cat, cat_i, cat_l, cat_r]) (mo_C_L_size l0 l1 l2) M0
def hh_L_out : List (Nat × Nat × Nat × Nat) := [(0, 10, 13, 13)]
def C_L_out (l0 : Option Nat) (l1 : Int32) (l2 : Int32) (l3 : Option Nat) : Hp → Option (Int32 × Hp) :=
  hTry 13 l0 (fun a => C_X11_out a l1 l2) (fun e => if e = 0 then some 1 else none) fun r1 =>
  hWl l3 (0 : Int32) r1.toInt64 <|
  rt ((0 : Int32))
set_option maxRecDepth 10000 in
theorem mo_C_L_out (l0 : Option Nat) (l1 : Int32) (l2 : Int32) (l3 : Option Nat) : Mo (C_L_out l0 l1 l2 l3) := by
  unfold C_L_out
  repeat' (with_reducible first | assumption | exact mo_rt _ | exact mo_zt _ | exact mo_no | refine mo_hTry (fun _ => ?_) (fun _ => ?_) | apply mo_C_X11_out | refine mo_ite ?_ ?_ | refine mo_hgI (fun _ => ?_) | refine mo_hgR (fun _ => ?_) | refine mo_hCv (fun _ => ?_) (fun _ => ?_) | refine mo_lq (fun _ => ?_) | refine mo_hpI ?_ | refine mo_hpR ?_ | refine mo_hAi (fun _ => ?_) | refine mo_hAr (fun _ => ?_) | refine mo_hWi ?_ | refine mo_hWr ?_ | refine mo_hLn (fun _ => ?_) | refine mo_hgL (fun _ => ?_) | refine mo_hpL ?_ | refine mo_hpZ ?_ | refine mo_bd ?_ (fun _ => ?_) | refine mo_hCi (fun _ => ?_) (fun _ => ?_) | refine mo_hNw (fun _ => ?_) | refine mo_hNa (fun _ => ?_) | refine mo_hCp ?_ | refine mo_hOi ?_ | refine mo_hAl (fun _ => ?_) | refine mo_hWl ?_ | refine mo_gd ?_ | refine mo_sLn (fun _ => ?_) | refine mo_sAt (fun _ => ?_) | refine mo_kLn (fun _ => ?_) | refine mo_kAt (fun _ => ?_))
set_option maxRecDepth 10000 in
theorem mW_L_out {w : Wd} (hw : Wc w) (hz : Wz w) (hN : Wn w) (l0 : Option Nat) (l1 : Int32) (l2 : Int32) (l3 : Option Nat) : MHW w yL_out cL_out 5 hh_L_out 8 134 [va_rf l0, .int l1, .int l2, va_rf l3] (C_L_out l0 l1 l2 l3) := by
  have M0 : ∀ g : Gm Hp Int32, g.1 = w → Bl g cL_out 5 8 134 hh_L_out → Sm g 5 0 (lv_args 0 [va_rf l0, .int l1, .int l2, va_rf l3]) [] (C_L_out l0 l1 l2 l3) := by
    intro g hg B
    subst hg
    unfold C_L_out
    refine W_lva (lv := [(0, va_rf l0), (1, .int l1), (2, .int l2), (3, va_rf l3)]) (by simp [lv_args, va_rf_cat, cat_i, cat_l, cat_r]) ?_
    refine s_rload_n B.1.1 3 dL_out_0 rfl rfl ?_
    refine s_iconst (v := 0) B.1.1 dL_out_1 (by decide) ?_
    refine s_rload_n B.1.1 0 dL_out_2 rfl rfl ?_
    refine s_iload_n B.1.1 1 dL_out_3 rfl rfl ?_
    refine s_iload_n B.1.1 2 dL_out_4 rfl rfl ?_
    refine l_tryi (As := [.int l1, .int l2]) (st := [.int (0 : Int32), va_rf l3]) 13 rfl (by decide) B (fun a => mX_X11_out B.2.1 B.2.2.2.2.2.1 a l1 l2) cc_X11_out cl_L_34 cn_X11_out ce_X11_out ci_X11 cd_X11_out (by decide) rfl (by simp [va_rf_cat, cat_i, cat_l, cat_r]) dL_out_5 ?_ (fun r1 => ?_)
    · intro e k hk
      by_cases h0 : e = 0
      · subst h0
        have hk1 : k = 1 := by simpa using hk.symm
        subst hk1
        refine ⟨13, ⟨[], _, _, rfl, fun z hz => (List.not_mem_nil hz).elim, by decide, by decide, lc_0, rfl, by decide⟩, fun q => ?_⟩
        refine s_rstore (i := 4) (lv' := [(4, va_rf (some q)), (0, va_rf l0), (1, .int l1), (2, .int l2), (3, va_rf l3)]) B.1.1 dL_out_13 (by decide) (by simp [va_rf_cat, cat_i, cat_l, cat_r]) ?_
        refine s_iconst (v := 1) B.1.1 dL_out_15 (by decide) ?_
        exact s_iret B.1.1 B.2.2.2.2.1 dL_out_16
      ·  simp [h0] at hk
    · refine s_i2l B.1.1 dL_out_8 ?_
      refine hp_Wl B.1 dL_out_9 ?_
      refine s_goto B.1.1 17 dL_out_10 (by decide) ?_
      refine s_iconst (v := 0) B.1.1 dL_out_17 (by decide) ?_
      exact s_iret B.1.1 B.2.2.2.2.1 dL_out_18
  exact MHW.of hw hz hN rfl (by simp [lg_sl, va_rf_cat, cat_i, cat_l, cat_r]) (mo_C_L_out l0 l1 l2 l3) M0
def hh_L_take : List (Nat × Nat × Nat × Nat) := [(0, 10, 13, 13), (0, 10, 17, 21)]
def C_L_take (l0 : Option Nat) (l1 : Int32) (l2 : Int32) (l3 : Option Nat) : Hp → Option (Int32 × Hp) :=
  hTry 13 l0 (fun a => C_X11_take a l1 l2) (fun e => if e = 0 then some 1 else if e = 1 then some 2 else none) fun r1 =>
  hWl l3 (0 : Int32) r1.toInt64 <|
  rt ((0 : Int32))
set_option maxRecDepth 10000 in
theorem mo_C_L_take (l0 : Option Nat) (l1 : Int32) (l2 : Int32) (l3 : Option Nat) : Mo (C_L_take l0 l1 l2 l3) := by
  unfold C_L_take
  repeat' (with_reducible first | assumption | exact mo_rt _ | exact mo_zt _ | exact mo_no | refine mo_hTry (fun _ => ?_) (fun _ => ?_) | apply mo_C_X11_take | refine mo_ite ?_ ?_ | refine mo_hgI (fun _ => ?_) | refine mo_hgR (fun _ => ?_) | refine mo_hCv (fun _ => ?_) (fun _ => ?_) | refine mo_lq (fun _ => ?_) | refine mo_hpI ?_ | refine mo_hpR ?_ | refine mo_hAi (fun _ => ?_) | refine mo_hAr (fun _ => ?_) | refine mo_hWi ?_ | refine mo_hWr ?_ | refine mo_hLn (fun _ => ?_) | refine mo_hgL (fun _ => ?_) | refine mo_hpL ?_ | refine mo_hpZ ?_ | refine mo_bd ?_ (fun _ => ?_) | refine mo_hCi (fun _ => ?_) (fun _ => ?_) | refine mo_hNw (fun _ => ?_) | refine mo_hNa (fun _ => ?_) | refine mo_hCp ?_ | refine mo_hOi ?_ | refine mo_hAl (fun _ => ?_) | refine mo_hWl ?_ | refine mo_gd ?_ | refine mo_sLn (fun _ => ?_) | refine mo_sAt (fun _ => ?_) | refine mo_kLn (fun _ => ?_) | refine mo_kAt (fun _ => ?_))
set_option maxRecDepth 10000 in
theorem mW_L_take {w : Wd} (hw : Wc w) (hz : Wz w) (hN : Wn w) (l0 : Option Nat) (l1 : Int32) (l2 : Int32) (l3 : Option Nat) : MHW w yL_take cL_take 5 hh_L_take 8 134 [va_rf l0, .int l1, .int l2, va_rf l3] (C_L_take l0 l1 l2 l3) := by
  have M0 : ∀ g : Gm Hp Int32, g.1 = w → Bl g cL_take 5 8 134 hh_L_take → Sm g 5 0 (lv_args 0 [va_rf l0, .int l1, .int l2, va_rf l3]) [] (C_L_take l0 l1 l2 l3) := by
    intro g hg B
    subst hg
    unfold C_L_take
    refine W_lva (lv := [(0, va_rf l0), (1, .int l1), (2, .int l2), (3, va_rf l3)]) (by simp [lv_args, va_rf_cat, cat_i, cat_l, cat_r]) ?_
    refine s_rload_n B.1.1 3 dL_take_0 rfl rfl ?_
    refine s_iconst (v := 0) B.1.1 dL_take_1 (by decide) ?_
    refine s_rload_n B.1.1 0 dL_take_2 rfl rfl ?_
    refine s_iload_n B.1.1 1 dL_take_3 rfl rfl ?_
    refine s_iload_n B.1.1 2 dL_take_4 rfl rfl ?_
    refine l_tryi (As := [.int l1, .int l2]) (st := [.int (0 : Int32), va_rf l3]) 13 rfl (by decide) B (fun a => mX_X11_take B.2.1 B.2.2.2.2.2.1 a l1 l2) cc_X11_take cl_L_38 cn_X11_take ce_X11_take ci_X11 cd_X11_take (by decide) rfl (by simp [va_rf_cat, cat_i, cat_l, cat_r]) dL_take_5 ?_ (fun r1 => ?_)
    · intro e k hk
      by_cases h0 : e = 0
      · subst h0
        have hk1 : k = 1 := by simpa using hk.symm
        subst hk1
        refine ⟨13, ⟨[], _, _, rfl, fun z hz => (List.not_mem_nil hz).elim, by decide, by decide, lc_0, rfl, by decide⟩, fun q => ?_⟩
        refine s_rstore (i := 4) (lv' := [(4, va_rf (some q)), (0, va_rf l0), (1, .int l1), (2, .int l2), (3, va_rf l3)]) B.1.1 dL_take_13 (by decide) (by simp [va_rf_cat, cat_i, cat_l, cat_r]) ?_
        refine s_iconst (v := 1) B.1.1 dL_take_15 (by decide) ?_
        exact s_iret B.1.1 B.2.2.2.2.1 dL_take_16
      · 
        by_cases h1 : e = 1
        · subst h1
          have hk1 : k = 2 := by simpa using hk.symm
          subst hk1
          refine ⟨17, ⟨(tableOf hh_L_take).take 1, _, _, rfl, fun z hz => ?_, by decide, by decide, lc_1, rfl, by decide⟩, fun q => ?_⟩
          · simp only [hh_L_take, tableOf, List.map, List.take, List.mem_cons, List.not_mem_nil, or_false] at hz
            subst hz; exact ⟨by decide, 0, by decide, by decide, lc_0⟩
          · refine s_rstore (i := 4) (lv' := [(4, va_rf (some q)), (0, va_rf l0), (1, .int l1), (2, .int l2), (3, va_rf l3)]) B.1.1 dL_take_17 (by decide) (by simp [va_rf_cat, cat_i, cat_l, cat_r]) ?_
            refine s_iconst (v := 2) B.1.1 dL_take_19 (by decide) ?_
            exact s_iret B.1.1 B.2.2.2.2.1 dL_take_20
        ·  simp [h0, h1] at hk
    · refine s_i2l B.1.1 dL_take_8 ?_
      refine hp_Wl B.1 dL_take_9 ?_
      refine s_goto B.1.1 21 dL_take_10 (by decide) ?_
      refine s_iconst (v := 0) B.1.1 dL_take_21 (by decide) ?_
      exact s_iret B.1.1 B.2.2.2.2.1 dL_take_22
  exact MHW.of hw hz hN rfl (by simp [lg_sl, va_rf_cat, cat_i, cat_l, cat_r]) (mo_C_L_take l0 l1 l2 l3) M0
def hh_L_pending : List (Nat × Nat × Nat × Nat) := [(0, 9, 12, 13)]
def C_L_pending (l0 : Option Nat) (l1 : Int32) (l2 : Option Nat) : Hp → Option (Int32 × Hp) :=
  hTry 13 l0 (fun a => C_X11_pending a l1) (fun e => if e = 0 then some 1 else none) fun r1 =>
  hWl l2 (0 : Int32) r1.toInt64 <|
  rt ((0 : Int32))
set_option maxRecDepth 10000 in
theorem mo_C_L_pending (l0 : Option Nat) (l1 : Int32) (l2 : Option Nat) : Mo (C_L_pending l0 l1 l2) := by
  unfold C_L_pending
  repeat' (with_reducible first | assumption | exact mo_rt _ | exact mo_zt _ | exact mo_no | refine mo_hTry (fun _ => ?_) (fun _ => ?_) | apply mo_C_X11_pending | refine mo_ite ?_ ?_ | refine mo_hgI (fun _ => ?_) | refine mo_hgR (fun _ => ?_) | refine mo_hCv (fun _ => ?_) (fun _ => ?_) | refine mo_lq (fun _ => ?_) | refine mo_hpI ?_ | refine mo_hpR ?_ | refine mo_hAi (fun _ => ?_) | refine mo_hAr (fun _ => ?_) | refine mo_hWi ?_ | refine mo_hWr ?_ | refine mo_hLn (fun _ => ?_) | refine mo_hgL (fun _ => ?_) | refine mo_hpL ?_ | refine mo_hpZ ?_ | refine mo_bd ?_ (fun _ => ?_) | refine mo_hCi (fun _ => ?_) (fun _ => ?_) | refine mo_hNw (fun _ => ?_) | refine mo_hNa (fun _ => ?_) | refine mo_hCp ?_ | refine mo_hOi ?_ | refine mo_hAl (fun _ => ?_) | refine mo_hWl ?_ | refine mo_gd ?_ | refine mo_sLn (fun _ => ?_) | refine mo_sAt (fun _ => ?_) | refine mo_kLn (fun _ => ?_) | refine mo_kAt (fun _ => ?_))
set_option maxRecDepth 10000 in
theorem mW_L_pending {w : Wd} (hw : Wc w) (hz : Wz w) (hN : Wn w) (l0 : Option Nat) (l1 : Int32) (l2 : Option Nat) : MHW w yL_pending cL_pending 4 hh_L_pending 8 132 [va_rf l0, .int l1, va_rf l2] (C_L_pending l0 l1 l2) := by
  have M0 : ∀ g : Gm Hp Int32, g.1 = w → Bl g cL_pending 4 8 132 hh_L_pending → Sm g 4 0 (lv_args 0 [va_rf l0, .int l1, va_rf l2]) [] (C_L_pending l0 l1 l2) := by
    intro g hg B
    subst hg
    unfold C_L_pending
    refine W_lva (lv := [(0, va_rf l0), (1, .int l1), (2, va_rf l2)]) (by simp [lv_args, va_rf_cat, cat_i, cat_l, cat_r]) ?_
    refine s_rload_n B.1.1 2 dL_pending_0 rfl rfl ?_
    refine s_iconst (v := 0) B.1.1 dL_pending_1 (by decide) ?_
    refine s_rload_n B.1.1 0 dL_pending_2 rfl rfl ?_
    refine s_iload_n B.1.1 1 dL_pending_3 rfl rfl ?_
    refine l_tryi (As := [.int l1]) (st := [.int (0 : Int32), va_rf l2]) 13 rfl (by decide) B (fun a => mX_X11_pending B.2.1 B.2.2.2.2.2.1 a l1) cc_X11_pending cl_L_41 cn_X11_pending ce_X11_pending ci_X11 cd_X11_pending (by decide) rfl (by simp [va_rf_cat, cat_i, cat_l, cat_r]) dL_pending_4 ?_ (fun r1 => ?_)
    · intro e k hk
      by_cases h0 : e = 0
      · subst h0
        have hk1 : k = 1 := by simpa using hk.symm
        subst hk1
        refine ⟨12, ⟨[], _, _, rfl, fun z hz => (List.not_mem_nil hz).elim, by decide, by decide, lc_0, rfl, by decide⟩, fun q => ?_⟩
        refine s_rstore_n (i := 3) (lv' := [(3, va_rf (some q)), (0, va_rf l0), (1, .int l1), (2, va_rf l2)]) B.1.1 dL_pending_12 rfl (by decide) (by simp [va_rf_cat, cat_i, cat_l, cat_r]) ?_
        refine s_iconst (v := 1) B.1.1 dL_pending_13 (by decide) ?_
        exact s_iret B.1.1 B.2.2.2.2.1 dL_pending_14
      ·  simp [h0] at hk
    · refine s_i2l B.1.1 dL_pending_7 ?_
      refine hp_Wl B.1 dL_pending_8 ?_
      refine s_goto B.1.1 15 dL_pending_9 (by decide) ?_
      refine s_iconst (v := 0) B.1.1 dL_pending_15 (by decide) ?_
      exact s_iret B.1.1 B.2.2.2.2.1 dL_pending_16
  exact MHW.of hw hz hN rfl (by simp [lg_sl, va_rf_cat, cat_i, cat_l, cat_r]) (mo_C_L_pending l0 l1 l2) M0
def hh_L_pass : List (Nat × Nat × Nat × Nat) := [(0, 9, 12, 21)]
def C_L_pass (l0 : Option Nat) (l1 : Int32) (l2 : Option Nat) : Hp → Option (Int32 × Hp) :=
  hTry 13 l0 (fun a => C_X11_pass a l1) (fun e => if e = 1 then some 1 else none) fun r1 =>
  hWl l2 (0 : Int32) r1.toInt64 <|
  rt ((0 : Int32))
set_option maxRecDepth 10000 in
theorem mo_C_L_pass (l0 : Option Nat) (l1 : Int32) (l2 : Option Nat) : Mo (C_L_pass l0 l1 l2) := by
  unfold C_L_pass
  repeat' (with_reducible first | assumption | exact mo_rt _ | exact mo_zt _ | exact mo_no | refine mo_hTry (fun _ => ?_) (fun _ => ?_) | apply mo_C_X11_pass | refine mo_ite ?_ ?_ | refine mo_hgI (fun _ => ?_) | refine mo_hgR (fun _ => ?_) | refine mo_hCv (fun _ => ?_) (fun _ => ?_) | refine mo_lq (fun _ => ?_) | refine mo_hpI ?_ | refine mo_hpR ?_ | refine mo_hAi (fun _ => ?_) | refine mo_hAr (fun _ => ?_) | refine mo_hWi ?_ | refine mo_hWr ?_ | refine mo_hLn (fun _ => ?_) | refine mo_hgL (fun _ => ?_) | refine mo_hpL ?_ | refine mo_hpZ ?_ | refine mo_bd ?_ (fun _ => ?_) | refine mo_hCi (fun _ => ?_) (fun _ => ?_) | refine mo_hNw (fun _ => ?_) | refine mo_hNa (fun _ => ?_) | refine mo_hCp ?_ | refine mo_hOi ?_ | refine mo_hAl (fun _ => ?_) | refine mo_hWl ?_ | refine mo_gd ?_ | refine mo_sLn (fun _ => ?_) | refine mo_sAt (fun _ => ?_) | refine mo_kLn (fun _ => ?_) | refine mo_kAt (fun _ => ?_))
set_option maxRecDepth 10000 in
theorem mW_L_pass {w : Wd} (hw : Wc w) (hz : Wz w) (hN : Wn w) (l0 : Option Nat) (l1 : Int32) (l2 : Option Nat) : MHW w yL_pass cL_pass 4 hh_L_pass 8 207 [va_rf l0, .int l1, va_rf l2] (C_L_pass l0 l1 l2) := by
  have M0 : ∀ g : Gm Hp Int32, g.1 = w → Bl g cL_pass 4 8 207 hh_L_pass → Sm g 4 0 (lv_args 0 [va_rf l0, .int l1, va_rf l2]) [] (C_L_pass l0 l1 l2) := by
    intro g hg B
    subst hg
    unfold C_L_pass
    refine W_lva (lv := [(0, va_rf l0), (1, .int l1), (2, va_rf l2)]) (by simp [lv_args, va_rf_cat, cat_i, cat_l, cat_r]) ?_
    refine s_rload_n B.1.1 2 dL_pass_0 rfl rfl ?_
    refine s_iconst (v := 0) B.1.1 dL_pass_1 (by decide) ?_
    refine s_rload_n B.1.1 0 dL_pass_2 rfl rfl ?_
    refine s_iload_n B.1.1 1 dL_pass_3 rfl rfl ?_
    refine l_tryi (As := [.int l1]) (st := [.int (0 : Int32), va_rf l2]) 13 rfl (by decide) B (fun a => mX_X11_pass B.2.1 B.2.2.2.2.2.1 a l1) cc_X11_pass cl_L_44 cn_X11_pass ce_X11_pass ci_X11 cd_X11_pass (by decide) rfl (by simp [va_rf_cat, cat_i, cat_l, cat_r]) dL_pass_4 ?_ (fun r1 => ?_)
    · intro e k hk
      by_cases h0 : e = 1
      · subst h0
        have hk1 : k = 1 := by simpa using hk.symm
        subst hk1
        refine ⟨12, ⟨[], _, _, rfl, fun z hz => (List.not_mem_nil hz).elim, by decide, by decide, lc_1, rfl, by decide⟩, fun q => ?_⟩
        refine s_rstore_n (i := 3) (lv' := [(3, va_rf (some q)), (0, va_rf l0), (1, .int l1), (2, va_rf l2)]) B.1.1 dL_pass_12 rfl (by decide) (by simp [va_rf_cat, cat_i, cat_l, cat_r]) ?_
        refine s_iconst (v := 1) B.1.1 dL_pass_13 (by decide) ?_
        exact s_iret B.1.1 B.2.2.2.2.1 dL_pass_14
      ·  simp [h0] at hk
    · refine s_i2l B.1.1 dL_pass_7 ?_
      refine hp_Wl B.1 dL_pass_8 ?_
      refine s_goto B.1.1 15 dL_pass_9 (by decide) ?_
      refine s_iconst (v := 0) B.1.1 dL_pass_15 (by decide) ?_
      exact s_iret B.1.1 B.2.2.2.2.1 dL_pass_16
  exact MHW.of hw hz hN rfl (by simp [lg_sl, va_rf_cat, cat_i, cat_l, cat_r]) (mo_C_L_pass l0 l1 l2) M0
def hh_L_session : List (Nat × Nat × Nat × Nat) := [(0, 10, 13, 13), (0, 10, 17, 21)]
def C_L_session (l0 : Option Nat) (l1 : Int32) (l2 : Int32) (l3 : Option Nat) : Hp → Option (Int32 × Hp) :=
  hTry 13 l0 (fun a => C_X11_session a l1 l2) (fun e => if e = 0 then some 1 else if e = 1 then some 2 else none) fun r1 =>
  hWl l3 (0 : Int32) r1.toInt64 <|
  rt ((0 : Int32))
set_option maxRecDepth 10000 in
theorem mo_C_L_session (l0 : Option Nat) (l1 : Int32) (l2 : Int32) (l3 : Option Nat) : Mo (C_L_session l0 l1 l2 l3) := by
  unfold C_L_session
  repeat' (with_reducible first | assumption | exact mo_rt _ | exact mo_zt _ | exact mo_no | refine mo_hTry (fun _ => ?_) (fun _ => ?_) | apply mo_C_X11_session | refine mo_ite ?_ ?_ | refine mo_hgI (fun _ => ?_) | refine mo_hgR (fun _ => ?_) | refine mo_hCv (fun _ => ?_) (fun _ => ?_) | refine mo_lq (fun _ => ?_) | refine mo_hpI ?_ | refine mo_hpR ?_ | refine mo_hAi (fun _ => ?_) | refine mo_hAr (fun _ => ?_) | refine mo_hWi ?_ | refine mo_hWr ?_ | refine mo_hLn (fun _ => ?_) | refine mo_hgL (fun _ => ?_) | refine mo_hpL ?_ | refine mo_hpZ ?_ | refine mo_bd ?_ (fun _ => ?_) | refine mo_hCi (fun _ => ?_) (fun _ => ?_) | refine mo_hNw (fun _ => ?_) | refine mo_hNa (fun _ => ?_) | refine mo_hCp ?_ | refine mo_hOi ?_ | refine mo_hAl (fun _ => ?_) | refine mo_hWl ?_ | refine mo_gd ?_ | refine mo_sLn (fun _ => ?_) | refine mo_sAt (fun _ => ?_) | refine mo_kLn (fun _ => ?_) | refine mo_kAt (fun _ => ?_))
set_option maxRecDepth 10000 in
theorem mW_L_session {w : Wd} (hw : Wc w) (hz : Wz w) (hN : Wn w) (l0 : Option Nat) (l1 : Int32) (l2 : Int32) (l3 : Option Nat) : MHW w yL_session cL_session 5 hh_L_session 8 134 [va_rf l0, .int l1, .int l2, va_rf l3] (C_L_session l0 l1 l2 l3) := by
  have M0 : ∀ g : Gm Hp Int32, g.1 = w → Bl g cL_session 5 8 134 hh_L_session → Sm g 5 0 (lv_args 0 [va_rf l0, .int l1, .int l2, va_rf l3]) [] (C_L_session l0 l1 l2 l3) := by
    intro g hg B
    subst hg
    unfold C_L_session
    refine W_lva (lv := [(0, va_rf l0), (1, .int l1), (2, .int l2), (3, va_rf l3)]) (by simp [lv_args, va_rf_cat, cat_i, cat_l, cat_r]) ?_
    refine s_rload_n B.1.1 3 dL_session_0 rfl rfl ?_
    refine s_iconst (v := 0) B.1.1 dL_session_1 (by decide) ?_
    refine s_rload_n B.1.1 0 dL_session_2 rfl rfl ?_
    refine s_iload_n B.1.1 1 dL_session_3 rfl rfl ?_
    refine s_iload_n B.1.1 2 dL_session_4 rfl rfl ?_
    refine l_tryi (As := [.int l1, .int l2]) (st := [.int (0 : Int32), va_rf l3]) 13 rfl (by decide) B (fun a => mX_X11_session B.2.1 B.2.2.2.2.2.1 a l1 l2) cc_X11_session cl_L_47 cn_X11_session ce_X11_session ci_X11 cd_X11_session (by decide) rfl (by simp [va_rf_cat, cat_i, cat_l, cat_r]) dL_session_5 ?_ (fun r1 => ?_)
    · intro e k hk
      by_cases h0 : e = 0
      · subst h0
        have hk1 : k = 1 := by simpa using hk.symm
        subst hk1
        refine ⟨13, ⟨[], _, _, rfl, fun z hz => (List.not_mem_nil hz).elim, by decide, by decide, lc_0, rfl, by decide⟩, fun q => ?_⟩
        refine s_rstore (i := 4) (lv' := [(4, va_rf (some q)), (0, va_rf l0), (1, .int l1), (2, .int l2), (3, va_rf l3)]) B.1.1 dL_session_13 (by decide) (by simp [va_rf_cat, cat_i, cat_l, cat_r]) ?_
        refine s_iconst (v := 1) B.1.1 dL_session_15 (by decide) ?_
        exact s_iret B.1.1 B.2.2.2.2.1 dL_session_16
      · 
        by_cases h1 : e = 1
        · subst h1
          have hk1 : k = 2 := by simpa using hk.symm
          subst hk1
          refine ⟨17, ⟨(tableOf hh_L_session).take 1, _, _, rfl, fun z hz => ?_, by decide, by decide, lc_1, rfl, by decide⟩, fun q => ?_⟩
          · simp only [hh_L_session, tableOf, List.map, List.take, List.mem_cons, List.not_mem_nil, or_false] at hz
            subst hz; exact ⟨by decide, 0, by decide, by decide, lc_0⟩
          · refine s_rstore (i := 4) (lv' := [(4, va_rf (some q)), (0, va_rf l0), (1, .int l1), (2, .int l2), (3, va_rf l3)]) B.1.1 dL_session_17 (by decide) (by simp [va_rf_cat, cat_i, cat_l, cat_r]) ?_
            refine s_iconst (v := 2) B.1.1 dL_session_19 (by decide) ?_
            exact s_iret B.1.1 B.2.2.2.2.1 dL_session_20
        ·  simp [h0, h1] at hk
    · refine s_i2l B.1.1 dL_session_8 ?_
      refine hp_Wl B.1 dL_session_9 ?_
      refine s_goto B.1.1 21 dL_session_10 (by decide) ?_
      refine s_iconst (v := 0) B.1.1 dL_session_21 (by decide) ?_
      exact s_iret B.1.1 B.2.2.2.2.1 dL_session_22
  exact MHW.of hw hz hN rfl (by simp [lg_sl, va_rf_cat, cat_i, cat_l, cat_r]) (mo_C_L_session l0 l1 l2 l3) M0
def hh_L_expiry : List (Nat × Nat × Nat × Nat) := [(0, 8, 11, 13)]
def C_L_expiry (l0 : Option Nat) (l1 : Int32) (l2 : Option Nat) : Hp → Option (Int32 × Hp) :=
  hTry 13 l0 (fun a => C_X11_expiry a l1) (fun e => if e = 0 then some 1 else none) fun r1 =>
  hWl l2 (0 : Int32) r1 <|
  rt ((0 : Int32))
set_option maxRecDepth 10000 in
theorem mo_C_L_expiry (l0 : Option Nat) (l1 : Int32) (l2 : Option Nat) : Mo (C_L_expiry l0 l1 l2) := by
  unfold C_L_expiry
  repeat' (with_reducible first | assumption | exact mo_rt _ | exact mo_zt _ | exact mo_no | refine mo_hTry (fun _ => ?_) (fun _ => ?_) | apply mo_C_X11_expiry | refine mo_ite ?_ ?_ | refine mo_hgI (fun _ => ?_) | refine mo_hgR (fun _ => ?_) | refine mo_hCv (fun _ => ?_) (fun _ => ?_) | refine mo_lq (fun _ => ?_) | refine mo_hpI ?_ | refine mo_hpR ?_ | refine mo_hAi (fun _ => ?_) | refine mo_hAr (fun _ => ?_) | refine mo_hWi ?_ | refine mo_hWr ?_ | refine mo_hLn (fun _ => ?_) | refine mo_hgL (fun _ => ?_) | refine mo_hpL ?_ | refine mo_hpZ ?_ | refine mo_bd ?_ (fun _ => ?_) | refine mo_hCi (fun _ => ?_) (fun _ => ?_) | refine mo_hNw (fun _ => ?_) | refine mo_hNa (fun _ => ?_) | refine mo_hCp ?_ | refine mo_hOi ?_ | refine mo_hAl (fun _ => ?_) | refine mo_hWl ?_ | refine mo_gd ?_ | refine mo_sLn (fun _ => ?_) | refine mo_sAt (fun _ => ?_) | refine mo_kLn (fun _ => ?_) | refine mo_kAt (fun _ => ?_))
set_option maxRecDepth 10000 in
theorem mW_L_expiry {w : Wd} (hw : Wc w) (hz : Wz w) (hN : Wn w) (l0 : Option Nat) (l1 : Int32) (l2 : Option Nat) : MHW w yL_expiry cL_expiry 4 hh_L_expiry 8 132 [va_rf l0, .int l1, va_rf l2] (C_L_expiry l0 l1 l2) := by
  have M0 : ∀ g : Gm Hp Int32, g.1 = w → Bl g cL_expiry 4 8 132 hh_L_expiry → Sm g 4 0 (lv_args 0 [va_rf l0, .int l1, va_rf l2]) [] (C_L_expiry l0 l1 l2) := by
    intro g hg B
    subst hg
    unfold C_L_expiry
    refine W_lva (lv := [(0, va_rf l0), (1, .int l1), (2, va_rf l2)]) (by simp [lv_args, va_rf_cat, cat_i, cat_l, cat_r]) ?_
    refine s_rload_n B.1.1 2 dL_expiry_0 rfl rfl ?_
    refine s_iconst (v := 0) B.1.1 dL_expiry_1 (by decide) ?_
    refine s_rload_n B.1.1 0 dL_expiry_2 rfl rfl ?_
    refine s_iload_n B.1.1 1 dL_expiry_3 rfl rfl ?_
    refine l_tryl (As := [.int l1]) (st := [.int (0 : Int32), va_rf l2]) 13 rfl (by decide) B (fun a => mX_X11_expiry B.2.1 B.2.2.2.2.2.1 a l1) cc_X11_expiry cl_L_50 cn_X11_expiry ce_X11_expiry ci_X11 cd_X11_expiry (by decide) rfl (by simp [va_rf_cat, cat_i, cat_l, cat_r]) dL_expiry_4 ?_ (fun r1 => ?_)
    · intro e k hk
      by_cases h0 : e = 0
      · subst h0
        have hk1 : k = 1 := by simpa using hk.symm
        subst hk1
        refine ⟨11, ⟨[], _, _, rfl, fun z hz => (List.not_mem_nil hz).elim, by decide, by decide, lc_0, rfl, by decide⟩, fun q => ?_⟩
        refine s_rstore_n (i := 3) (lv' := [(3, va_rf (some q)), (0, va_rf l0), (1, .int l1), (2, va_rf l2)]) B.1.1 dL_expiry_11 rfl (by decide) (by simp [va_rf_cat, cat_i, cat_l, cat_r]) ?_
        refine s_iconst (v := 1) B.1.1 dL_expiry_12 (by decide) ?_
        exact s_iret B.1.1 B.2.2.2.2.1 dL_expiry_13
      ·  simp [h0] at hk
    · refine hp_Wl B.1 dL_expiry_7 ?_
      refine s_goto B.1.1 14 dL_expiry_8 (by decide) ?_
      refine s_iconst (v := 0) B.1.1 dL_expiry_14 (by decide) ?_
      exact s_iret B.1.1 B.2.2.2.2.1 dL_expiry_15
  exact MHW.of hw hz hN rfl (by simp [lg_sl, va_rf_cat, cat_i, cat_l, cat_r]) (mo_C_L_expiry l0 l1 l2) M0
def hh_L_id : List (Nat × Nat × Nat × Nat) := [(0, 10, 13, 13)]
def C_L_id (l0 : Option Nat) (l1 : Int32) (l2 : Int32) (l3 : Option Nat) : Hp → Option (Int32 × Hp) :=
  hTry 13 l0 (fun a => C_X11_id a l1 l2) (fun e => if e = 0 then some 1 else none) fun r1 =>
  hWl l3 (0 : Int32) r1.toInt64 <|
  rt ((0 : Int32))
set_option maxRecDepth 10000 in
theorem mo_C_L_id (l0 : Option Nat) (l1 : Int32) (l2 : Int32) (l3 : Option Nat) : Mo (C_L_id l0 l1 l2 l3) := by
  unfold C_L_id
  repeat' (with_reducible first | assumption | exact mo_rt _ | exact mo_zt _ | exact mo_no | refine mo_hTry (fun _ => ?_) (fun _ => ?_) | apply mo_C_X11_id | refine mo_ite ?_ ?_ | refine mo_hgI (fun _ => ?_) | refine mo_hgR (fun _ => ?_) | refine mo_hCv (fun _ => ?_) (fun _ => ?_) | refine mo_lq (fun _ => ?_) | refine mo_hpI ?_ | refine mo_hpR ?_ | refine mo_hAi (fun _ => ?_) | refine mo_hAr (fun _ => ?_) | refine mo_hWi ?_ | refine mo_hWr ?_ | refine mo_hLn (fun _ => ?_) | refine mo_hgL (fun _ => ?_) | refine mo_hpL ?_ | refine mo_hpZ ?_ | refine mo_bd ?_ (fun _ => ?_) | refine mo_hCi (fun _ => ?_) (fun _ => ?_) | refine mo_hNw (fun _ => ?_) | refine mo_hNa (fun _ => ?_) | refine mo_hCp ?_ | refine mo_hOi ?_ | refine mo_hAl (fun _ => ?_) | refine mo_hWl ?_ | refine mo_gd ?_ | refine mo_sLn (fun _ => ?_) | refine mo_sAt (fun _ => ?_) | refine mo_kLn (fun _ => ?_) | refine mo_kAt (fun _ => ?_))
set_option maxRecDepth 10000 in
theorem mW_L_id {w : Wd} (hw : Wc w) (hz : Wz w) (hN : Wn w) (l0 : Option Nat) (l1 : Int32) (l2 : Int32) (l3 : Option Nat) : MHW w yL_id cL_id 5 hh_L_id 8 133 [va_rf l0, .int l1, .int l2, va_rf l3] (C_L_id l0 l1 l2 l3) := by
  have M0 : ∀ g : Gm Hp Int32, g.1 = w → Bl g cL_id 5 8 133 hh_L_id → Sm g 5 0 (lv_args 0 [va_rf l0, .int l1, .int l2, va_rf l3]) [] (C_L_id l0 l1 l2 l3) := by
    intro g hg B
    subst hg
    unfold C_L_id
    refine W_lva (lv := [(0, va_rf l0), (1, .int l1), (2, .int l2), (3, va_rf l3)]) (by simp [lv_args, va_rf_cat, cat_i, cat_l, cat_r]) ?_
    refine s_rload_n B.1.1 3 dL_id_0 rfl rfl ?_
    refine s_iconst (v := 0) B.1.1 dL_id_1 (by decide) ?_
    refine s_rload_n B.1.1 0 dL_id_2 rfl rfl ?_
    refine s_iload_n B.1.1 1 dL_id_3 rfl rfl ?_
    refine s_iload_n B.1.1 2 dL_id_4 rfl rfl ?_
    refine l_tryi (As := [.int l1, .int l2]) (st := [.int (0 : Int32), va_rf l3]) 13 rfl (by decide) B (fun a => mX_X11_id B.2.1 B.2.2.2.2.2.1 a l1 l2) cc_X11_id cl_L_54 cn_X11_id ce_X11_id ci_X11 cd_X11_id (by decide) rfl (by simp [va_rf_cat, cat_i, cat_l, cat_r]) dL_id_5 ?_ (fun r1 => ?_)
    · intro e k hk
      by_cases h0 : e = 0
      · subst h0
        have hk1 : k = 1 := by simpa using hk.symm
        subst hk1
        refine ⟨13, ⟨[], _, _, rfl, fun z hz => (List.not_mem_nil hz).elim, by decide, by decide, lc_0, rfl, by decide⟩, fun q => ?_⟩
        refine s_rstore (i := 4) (lv' := [(4, va_rf (some q)), (0, va_rf l0), (1, .int l1), (2, .int l2), (3, va_rf l3)]) B.1.1 dL_id_13 (by decide) (by simp [va_rf_cat, cat_i, cat_l, cat_r]) ?_
        refine s_iconst (v := 1) B.1.1 dL_id_15 (by decide) ?_
        exact s_iret B.1.1 B.2.2.2.2.1 dL_id_16
      ·  simp [h0] at hk
    · refine s_i2l B.1.1 dL_id_8 ?_
      refine hp_Wl B.1 dL_id_9 ?_
      refine s_goto B.1.1 17 dL_id_10 (by decide) ?_
      refine s_iconst (v := 0) B.1.1 dL_id_17 (by decide) ?_
      exact s_iret B.1.1 B.2.2.2.2.1 dL_id_18
  exact MHW.of hw hz hN rfl (by simp [lg_sl, va_rf_cat, cat_i, cat_l, cat_r]) (mo_C_L_id l0 l1 l2 l3) M0
def hh_L_subscription : List (Nat × Nat × Nat × Nat) := [(0, 12, 15, 13), (0, 12, 19, 21)]
def C_L_subscription (l0 : Option Nat) (l1 : Int32) (l2 : Int32) (l3 : Int32) (l4 : Option Nat) : Hp → Option (Int32 × Hp) :=
  hTry 13 l0 (fun a => C_X11_subscription a l1 l2 l3) (fun e => if e = 0 then some 1 else if e = 1 then some 2 else none) fun r1 =>
  hWl l4 (0 : Int32) r1.toInt64 <|
  rt ((0 : Int32))
set_option maxRecDepth 10000 in
theorem mo_C_L_subscription (l0 : Option Nat) (l1 : Int32) (l2 : Int32) (l3 : Int32) (l4 : Option Nat) : Mo (C_L_subscription l0 l1 l2 l3 l4) := by
  unfold C_L_subscription
  repeat' (with_reducible first | assumption | exact mo_rt _ | exact mo_zt _ | exact mo_no | refine mo_hTry (fun _ => ?_) (fun _ => ?_) | apply mo_C_X11_subscription | refine mo_ite ?_ ?_ | refine mo_hgI (fun _ => ?_) | refine mo_hgR (fun _ => ?_) | refine mo_hCv (fun _ => ?_) (fun _ => ?_) | refine mo_lq (fun _ => ?_) | refine mo_hpI ?_ | refine mo_hpR ?_ | refine mo_hAi (fun _ => ?_) | refine mo_hAr (fun _ => ?_) | refine mo_hWi ?_ | refine mo_hWr ?_ | refine mo_hLn (fun _ => ?_) | refine mo_hgL (fun _ => ?_) | refine mo_hpL ?_ | refine mo_hpZ ?_ | refine mo_bd ?_ (fun _ => ?_) | refine mo_hCi (fun _ => ?_) (fun _ => ?_) | refine mo_hNw (fun _ => ?_) | refine mo_hNa (fun _ => ?_) | refine mo_hCp ?_ | refine mo_hOi ?_ | refine mo_hAl (fun _ => ?_) | refine mo_hWl ?_ | refine mo_gd ?_ | refine mo_sLn (fun _ => ?_) | refine mo_sAt (fun _ => ?_) | refine mo_kLn (fun _ => ?_) | refine mo_kAt (fun _ => ?_))
set_option maxRecDepth 10000 in
theorem mW_L_subscription {w : Wd} (hw : Wc w) (hz : Wz w) (hN : Wn w) (l0 : Option Nat) (l1 : Int32) (l2 : Int32) (l3 : Int32) (l4 : Option Nat) : MHW w yL_subscription cL_subscription 6 hh_L_subscription 9 158 [va_rf l0, .int l1, .int l2, .int l3, va_rf l4] (C_L_subscription l0 l1 l2 l3 l4) := by
  have M0 : ∀ g : Gm Hp Int32, g.1 = w → Bl g cL_subscription 6 9 158 hh_L_subscription → Sm g 6 0 (lv_args 0 [va_rf l0, .int l1, .int l2, .int l3, va_rf l4]) [] (C_L_subscription l0 l1 l2 l3 l4) := by
    intro g hg B
    subst hg
    unfold C_L_subscription
    refine W_lva (lv := [(0, va_rf l0), (1, .int l1), (2, .int l2), (3, .int l3), (4, va_rf l4)]) (by simp [lv_args, va_rf_cat, cat_i, cat_l, cat_r]) ?_
    refine s_rload B.1.1 4 dL_subscription_0 rfl ?_
    refine s_iconst (v := 0) B.1.1 dL_subscription_2 (by decide) ?_
    refine s_rload_n B.1.1 0 dL_subscription_3 rfl rfl ?_
    refine s_iload_n B.1.1 1 dL_subscription_4 rfl rfl ?_
    refine s_iload_n B.1.1 2 dL_subscription_5 rfl rfl ?_
    refine s_iload_n B.1.1 3 dL_subscription_6 rfl rfl ?_
    refine l_tryi (As := [.int l1, .int l2, .int l3]) (st := [.int (0 : Int32), va_rf l4]) 13 rfl (by decide) B (fun a => mX_X11_subscription B.2.1 B.2.2.2.2.2.1 a l1 l2 l3) cc_X11_subscription cl_L_57 cn_X11_subscription ce_X11_subscription ci_X11 cd_X11_subscription (by decide) rfl (by simp [va_rf_cat, cat_i, cat_l, cat_r]) dL_subscription_7 ?_ (fun r1 => ?_)
    · intro e k hk
      by_cases h0 : e = 0
      · subst h0
        have hk1 : k = 1 := by simpa using hk.symm
        subst hk1
        refine ⟨15, ⟨[], _, _, rfl, fun z hz => (List.not_mem_nil hz).elim, by decide, by decide, lc_0, rfl, by decide⟩, fun q => ?_⟩
        refine s_rstore (i := 5) (lv' := [(5, va_rf (some q)), (0, va_rf l0), (1, .int l1), (2, .int l2), (3, .int l3), (4, va_rf l4)]) B.1.1 dL_subscription_15 (by decide) (by simp [va_rf_cat, cat_i, cat_l, cat_r]) ?_
        refine s_iconst (v := 1) B.1.1 dL_subscription_17 (by decide) ?_
        exact s_iret B.1.1 B.2.2.2.2.1 dL_subscription_18
      · 
        by_cases h1 : e = 1
        · subst h1
          have hk1 : k = 2 := by simpa using hk.symm
          subst hk1
          refine ⟨19, ⟨(tableOf hh_L_subscription).take 1, _, _, rfl, fun z hz => ?_, by decide, by decide, lc_1, rfl, by decide⟩, fun q => ?_⟩
          · simp only [hh_L_subscription, tableOf, List.map, List.take, List.mem_cons, List.not_mem_nil, or_false] at hz
            subst hz; exact ⟨by decide, 0, by decide, by decide, lc_0⟩
          · refine s_rstore (i := 5) (lv' := [(5, va_rf (some q)), (0, va_rf l0), (1, .int l1), (2, .int l2), (3, .int l3), (4, va_rf l4)]) B.1.1 dL_subscription_19 (by decide) (by simp [va_rf_cat, cat_i, cat_l, cat_r]) ?_
            refine s_iconst (v := 2) B.1.1 dL_subscription_21 (by decide) ?_
            exact s_iret B.1.1 B.2.2.2.2.1 dL_subscription_22
        ·  simp [h0, h1] at hk
    · refine s_i2l B.1.1 dL_subscription_10 ?_
      refine hp_Wl B.1 dL_subscription_11 ?_
      refine s_goto B.1.1 23 dL_subscription_12 (by decide) ?_
      refine s_iconst (v := 0) B.1.1 dL_subscription_23 (by decide) ?_
      exact s_iret B.1.1 B.2.2.2.2.1 dL_subscription_24
  exact MHW.of hw hz hN rfl (by simp [lg_sl, va_rf_cat, cat_i, cat_l, cat_r]) (mo_C_L_subscription l0 l1 l2 l3 l4) M0
def hh_L_filter : List (Nat × Nat × Nat × Nat) := [(0, 12, 15, 13)]
def C_L_filter (l0 : Option Nat) (l1 : Int32) (l2 : Int32) (l3 : Int32) (l4 : Option Nat) : Hp → Option (Int32 × Hp) :=
  hTry 13 l0 (fun a => C_X11_filter a l1 l2 l3) (fun e => if e = 0 then some 1 else none) fun r1 =>
  hWl l4 (0 : Int32) r1.toInt64 <|
  rt ((0 : Int32))
set_option maxRecDepth 10000 in
theorem mo_C_L_filter (l0 : Option Nat) (l1 : Int32) (l2 : Int32) (l3 : Int32) (l4 : Option Nat) : Mo (C_L_filter l0 l1 l2 l3 l4) := by
  unfold C_L_filter
  repeat' (with_reducible first | assumption | exact mo_rt _ | exact mo_zt _ | exact mo_no | refine mo_hTry (fun _ => ?_) (fun _ => ?_) | apply mo_C_X11_filter | refine mo_ite ?_ ?_ | refine mo_hgI (fun _ => ?_) | refine mo_hgR (fun _ => ?_) | refine mo_hCv (fun _ => ?_) (fun _ => ?_) | refine mo_lq (fun _ => ?_) | refine mo_hpI ?_ | refine mo_hpR ?_ | refine mo_hAi (fun _ => ?_) | refine mo_hAr (fun _ => ?_) | refine mo_hWi ?_ | refine mo_hWr ?_ | refine mo_hLn (fun _ => ?_) | refine mo_hgL (fun _ => ?_) | refine mo_hpL ?_ | refine mo_hpZ ?_ | refine mo_bd ?_ (fun _ => ?_) | refine mo_hCi (fun _ => ?_) (fun _ => ?_) | refine mo_hNw (fun _ => ?_) | refine mo_hNa (fun _ => ?_) | refine mo_hCp ?_ | refine mo_hOi ?_ | refine mo_hAl (fun _ => ?_) | refine mo_hWl ?_ | refine mo_gd ?_ | refine mo_sLn (fun _ => ?_) | refine mo_sAt (fun _ => ?_) | refine mo_kLn (fun _ => ?_) | refine mo_kAt (fun _ => ?_))
set_option maxRecDepth 10000 in
theorem mW_L_filter {w : Wd} (hw : Wc w) (hz : Wz w) (hN : Wn w) (l0 : Option Nat) (l1 : Int32) (l2 : Int32) (l3 : Int32) (l4 : Option Nat) : MHW w yL_filter cL_filter 6 hh_L_filter 9 157 [va_rf l0, .int l1, .int l2, .int l3, va_rf l4] (C_L_filter l0 l1 l2 l3 l4) := by
  have M0 : ∀ g : Gm Hp Int32, g.1 = w → Bl g cL_filter 6 9 157 hh_L_filter → Sm g 6 0 (lv_args 0 [va_rf l0, .int l1, .int l2, .int l3, va_rf l4]) [] (C_L_filter l0 l1 l2 l3 l4) := by
    intro g hg B
    subst hg
    unfold C_L_filter
    refine W_lva (lv := [(0, va_rf l0), (1, .int l1), (2, .int l2), (3, .int l3), (4, va_rf l4)]) (by simp [lv_args, va_rf_cat, cat_i, cat_l, cat_r]) ?_
    refine s_rload B.1.1 4 dL_filter_0 rfl ?_
    refine s_iconst (v := 0) B.1.1 dL_filter_2 (by decide) ?_
    refine s_rload_n B.1.1 0 dL_filter_3 rfl rfl ?_
    refine s_iload_n B.1.1 1 dL_filter_4 rfl rfl ?_
    refine s_iload_n B.1.1 2 dL_filter_5 rfl rfl ?_
    refine s_iload_n B.1.1 3 dL_filter_6 rfl rfl ?_
    refine l_tryi (As := [.int l1, .int l2, .int l3]) (st := [.int (0 : Int32), va_rf l4]) 13 rfl (by decide) B (fun a => mX_X11_filter B.2.1 B.2.2.2.2.2.1 a l1 l2 l3) cc_X11_filter cl_L_61 cn_X11_filter ce_X11_filter ci_X11 cd_X11_filter (by decide) rfl (by simp [va_rf_cat, cat_i, cat_l, cat_r]) dL_filter_7 ?_ (fun r1 => ?_)
    · intro e k hk
      by_cases h0 : e = 0
      · subst h0
        have hk1 : k = 1 := by simpa using hk.symm
        subst hk1
        refine ⟨15, ⟨[], _, _, rfl, fun z hz => (List.not_mem_nil hz).elim, by decide, by decide, lc_0, rfl, by decide⟩, fun q => ?_⟩
        refine s_rstore (i := 5) (lv' := [(5, va_rf (some q)), (0, va_rf l0), (1, .int l1), (2, .int l2), (3, .int l3), (4, va_rf l4)]) B.1.1 dL_filter_15 (by decide) (by simp [va_rf_cat, cat_i, cat_l, cat_r]) ?_
        refine s_iconst (v := 1) B.1.1 dL_filter_17 (by decide) ?_
        exact s_iret B.1.1 B.2.2.2.2.1 dL_filter_18
      ·  simp [h0] at hk
    · refine s_i2l B.1.1 dL_filter_10 ?_
      refine hp_Wl B.1 dL_filter_11 ?_
      refine s_goto B.1.1 19 dL_filter_12 (by decide) ?_
      refine s_iconst (v := 0) B.1.1 dL_filter_19 (by decide) ?_
      exact s_iret B.1.1 B.2.2.2.2.1 dL_filter_20
  exact MHW.of hw hz hN rfl (by simp [lg_sl, va_rf_cat, cat_i, cat_l, cat_r]) (mo_C_L_filter l0 l1 l2 l3 l4) M0
def hh_L_retained : List (Nat × Nat × Nat × Nat) := [(0, 10, 13, 21)]
def C_L_retained (l0 : Option Nat) (l1 : Int32) (l2 : Int32) (l3 : Option Nat) : Hp → Option (Int32 × Hp) :=
  hTry 13 l0 (fun a => C_X11_retained a l1 l2) (fun e => if e = 1 then some 1 else none) fun r1 =>
  hWl l3 (0 : Int32) r1.toInt64 <|
  rt ((0 : Int32))
set_option maxRecDepth 10000 in
theorem mo_C_L_retained (l0 : Option Nat) (l1 : Int32) (l2 : Int32) (l3 : Option Nat) : Mo (C_L_retained l0 l1 l2 l3) := by
  unfold C_L_retained
  repeat' (with_reducible first | assumption | exact mo_rt _ | exact mo_zt _ | exact mo_no | refine mo_hTry (fun _ => ?_) (fun _ => ?_) | apply mo_C_X11_retained | refine mo_ite ?_ ?_ | refine mo_hgI (fun _ => ?_) | refine mo_hgR (fun _ => ?_) | refine mo_hCv (fun _ => ?_) (fun _ => ?_) | refine mo_lq (fun _ => ?_) | refine mo_hpI ?_ | refine mo_hpR ?_ | refine mo_hAi (fun _ => ?_) | refine mo_hAr (fun _ => ?_) | refine mo_hWi ?_ | refine mo_hWr ?_ | refine mo_hLn (fun _ => ?_) | refine mo_hgL (fun _ => ?_) | refine mo_hpL ?_ | refine mo_hpZ ?_ | refine mo_bd ?_ (fun _ => ?_) | refine mo_hCi (fun _ => ?_) (fun _ => ?_) | refine mo_hNw (fun _ => ?_) | refine mo_hNa (fun _ => ?_) | refine mo_hCp ?_ | refine mo_hOi ?_ | refine mo_hAl (fun _ => ?_) | refine mo_hWl ?_ | refine mo_gd ?_ | refine mo_sLn (fun _ => ?_) | refine mo_sAt (fun _ => ?_) | refine mo_kLn (fun _ => ?_) | refine mo_kAt (fun _ => ?_))
set_option maxRecDepth 10000 in
theorem mW_L_retained {w : Wd} (hw : Wc w) (hz : Wz w) (hN : Wn w) (l0 : Option Nat) (l1 : Int32) (l2 : Int32) (l3 : Option Nat) : MHW w yL_retained cL_retained 5 hh_L_retained 7 113 [va_rf l0, .int l1, .int l2, va_rf l3] (C_L_retained l0 l1 l2 l3) := by
  have M0 : ∀ g : Gm Hp Int32, g.1 = w → Bl g cL_retained 5 7 113 hh_L_retained → Sm g 5 0 (lv_args 0 [va_rf l0, .int l1, .int l2, va_rf l3]) [] (C_L_retained l0 l1 l2 l3) := by
    intro g hg B
    subst hg
    unfold C_L_retained
    refine W_lva (lv := [(0, va_rf l0), (1, .int l1), (2, .int l2), (3, va_rf l3)]) (by simp [lv_args, va_rf_cat, cat_i, cat_l, cat_r]) ?_
    refine s_rload_n B.1.1 3 dL_retained_0 rfl rfl ?_
    refine s_iconst (v := 0) B.1.1 dL_retained_1 (by decide) ?_
    refine s_rload_n B.1.1 0 dL_retained_2 rfl rfl ?_
    refine s_iload_n B.1.1 1 dL_retained_3 rfl rfl ?_
    refine s_iload_n B.1.1 2 dL_retained_4 rfl rfl ?_
    refine l_tryi (As := [.int l1, .int l2]) (st := [.int (0 : Int32), va_rf l3]) 13 rfl (by decide) B (fun a => mX_X11_retained B.2.1 B.2.2.2.2.2.1 a l1 l2) cc_X11_retained cl_L_64 cn_X11_retained ce_X11_retained ci_X11 cd_X11_retained (by decide) rfl (by simp [va_rf_cat, cat_i, cat_l, cat_r]) dL_retained_5 ?_ (fun r1 => ?_)
    · intro e k hk
      by_cases h0 : e = 1
      · subst h0
        have hk1 : k = 1 := by simpa using hk.symm
        subst hk1
        refine ⟨13, ⟨[], _, _, rfl, fun z hz => (List.not_mem_nil hz).elim, by decide, by decide, lc_1, rfl, by decide⟩, fun q => ?_⟩
        refine s_rstore (i := 4) (lv' := [(4, va_rf (some q)), (0, va_rf l0), (1, .int l1), (2, .int l2), (3, va_rf l3)]) B.1.1 dL_retained_13 (by decide) (by simp [va_rf_cat, cat_i, cat_l, cat_r]) ?_
        refine s_iconst (v := 1) B.1.1 dL_retained_15 (by decide) ?_
        exact s_iret B.1.1 B.2.2.2.2.1 dL_retained_16
      ·  simp [h0] at hk
    · refine s_i2l B.1.1 dL_retained_8 ?_
      refine hp_Wl B.1 dL_retained_9 ?_
      refine s_goto B.1.1 17 dL_retained_10 (by decide) ?_
      refine s_iconst (v := 0) B.1.1 dL_retained_17 (by decide) ?_
      exact s_iret B.1.1 B.2.2.2.2.1 dL_retained_18
  exact MHW.of hw hz hN rfl (by simp [lg_sl, va_rf_cat, cat_i, cat_l, cat_r]) (mo_C_L_retained l0 l1 l2 l3) M0
def hh_L_told : List (Nat × Nat × Nat × Nat) := [(0, 9, 12, 21)]
def C_L_told (l0 : Option Nat) (l1 : Int32) (l2 : Option Nat) : Hp → Option (Int32 × Hp) :=
  hTry 13 l0 (fun a => C_X11_told a l1) (fun e => if e = 1 then some 1 else none) fun r1 =>
  hWl l2 (0 : Int32) r1.toInt64 <|
  rt ((0 : Int32))
set_option maxRecDepth 10000 in
theorem mo_C_L_told (l0 : Option Nat) (l1 : Int32) (l2 : Option Nat) : Mo (C_L_told l0 l1 l2) := by
  unfold C_L_told
  repeat' (with_reducible first | assumption | exact mo_rt _ | exact mo_zt _ | exact mo_no | refine mo_hTry (fun _ => ?_) (fun _ => ?_) | apply mo_C_X11_told | refine mo_ite ?_ ?_ | refine mo_hgI (fun _ => ?_) | refine mo_hgR (fun _ => ?_) | refine mo_hCv (fun _ => ?_) (fun _ => ?_) | refine mo_lq (fun _ => ?_) | refine mo_hpI ?_ | refine mo_hpR ?_ | refine mo_hAi (fun _ => ?_) | refine mo_hAr (fun _ => ?_) | refine mo_hWi ?_ | refine mo_hWr ?_ | refine mo_hLn (fun _ => ?_) | refine mo_hgL (fun _ => ?_) | refine mo_hpL ?_ | refine mo_hpZ ?_ | refine mo_bd ?_ (fun _ => ?_) | refine mo_hCi (fun _ => ?_) (fun _ => ?_) | refine mo_hNw (fun _ => ?_) | refine mo_hNa (fun _ => ?_) | refine mo_hCp ?_ | refine mo_hOi ?_ | refine mo_hAl (fun _ => ?_) | refine mo_hWl ?_ | refine mo_gd ?_ | refine mo_sLn (fun _ => ?_) | refine mo_sAt (fun _ => ?_) | refine mo_kLn (fun _ => ?_) | refine mo_kAt (fun _ => ?_))
set_option maxRecDepth 10000 in
theorem mW_L_told {w : Wd} (hw : Wc w) (hz : Wz w) (hN : Wn w) (l0 : Option Nat) (l1 : Int32) (l2 : Option Nat) : MHW w yL_told cL_told 4 hh_L_told 7 111 [va_rf l0, .int l1, va_rf l2] (C_L_told l0 l1 l2) := by
  have M0 : ∀ g : Gm Hp Int32, g.1 = w → Bl g cL_told 4 7 111 hh_L_told → Sm g 4 0 (lv_args 0 [va_rf l0, .int l1, va_rf l2]) [] (C_L_told l0 l1 l2) := by
    intro g hg B
    subst hg
    unfold C_L_told
    refine W_lva (lv := [(0, va_rf l0), (1, .int l1), (2, va_rf l2)]) (by simp [lv_args, va_rf_cat, cat_i, cat_l, cat_r]) ?_
    refine s_rload_n B.1.1 2 dL_told_0 rfl rfl ?_
    refine s_iconst (v := 0) B.1.1 dL_told_1 (by decide) ?_
    refine s_rload_n B.1.1 0 dL_told_2 rfl rfl ?_
    refine s_iload_n B.1.1 1 dL_told_3 rfl rfl ?_
    refine l_tryi (As := [.int l1]) (st := [.int (0 : Int32), va_rf l2]) 13 rfl (by decide) B (fun a => mX_X11_told B.2.1 B.2.2.2.2.2.1 a l1) cc_X11_told cl_L_67 cn_X11_told ce_X11_told ci_X11 cd_X11_told (by decide) rfl (by simp [va_rf_cat, cat_i, cat_l, cat_r]) dL_told_4 ?_ (fun r1 => ?_)
    · intro e k hk
      by_cases h0 : e = 1
      · subst h0
        have hk1 : k = 1 := by simpa using hk.symm
        subst hk1
        refine ⟨12, ⟨[], _, _, rfl, fun z hz => (List.not_mem_nil hz).elim, by decide, by decide, lc_1, rfl, by decide⟩, fun q => ?_⟩
        refine s_rstore_n (i := 3) (lv' := [(3, va_rf (some q)), (0, va_rf l0), (1, .int l1), (2, va_rf l2)]) B.1.1 dL_told_12 rfl (by decide) (by simp [va_rf_cat, cat_i, cat_l, cat_r]) ?_
        refine s_iconst (v := 1) B.1.1 dL_told_13 (by decide) ?_
        exact s_iret B.1.1 B.2.2.2.2.1 dL_told_14
      ·  simp [h0] at hk
    · refine s_i2l B.1.1 dL_told_7 ?_
      refine hp_Wl B.1 dL_told_8 ?_
      refine s_goto B.1.1 15 dL_told_9 (by decide) ?_
      refine s_iconst (v := 0) B.1.1 dL_told_15 (by decide) ?_
      exact s_iret B.1.1 B.2.2.2.2.1 dL_told_16
  exact MHW.of hw hz hN rfl (by simp [lg_sl, va_rf_cat, cat_i, cat_l, cat_r]) (mo_C_L_told l0 l1 l2) M0
