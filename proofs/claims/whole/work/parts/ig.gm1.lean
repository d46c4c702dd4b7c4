/-! ===== programs of the model that never touch the way ===== -/
section GM1
variable {A : Nat → Nat → Int32}
theorem gm_R_put {l1 : Int32}  : Gw A (R_put l1) := by
  unfold R_put
  repeat' first | with_reducible exact gm_rt | with_reducible exact gm_zt | with_reducible exact gm_no | with_reducible apply gm_rI | with_reducible apply gm_wI | with_reducible apply gm_rA (by decide) | with_reducible apply gm_wA (by decide) | with_reducible apply gm_rL | with_reducible apply gm_lq | with_reducible apply gm_if | with_reducible apply gm_gd | with_reducible apply gm_bd | intro _
theorem gm_R_send_J85 {l1 : Int32}  : Gw A (R_send_J85 l1) := by
  unfold R_send_J85
  repeat' first | with_reducible exact gm_rt | with_reducible exact gm_zt | with_reducible exact gm_no | with_reducible apply gm_rI | with_reducible apply gm_wI | with_reducible apply gm_rA (by decide) | with_reducible apply gm_wA (by decide) | with_reducible apply gm_rL | with_reducible apply gm_lq | with_reducible apply gm_if | with_reducible apply gm_gd | with_reducible apply gm_bd | intro _
theorem gm_R_send_B46 {kb : Int32 → Int32 → RS → Option (Unit × RS)} {ke85 : Int32 → RS → Option (Unit × RS)} {l1 : Int32} {l2 : Int32} (hkb : ∀ z0 z1, Gw A (kb z0 z1)) (hke85 : ∀ z0, Gw A (ke85 z0)) : Gw A (R_send_B46 kb ke85 l1 l2) := by
  unfold R_send_B46
  repeat' first | with_reducible exact gm_rt | with_reducible exact gm_zt | with_reducible exact gm_no | with_reducible apply gm_rI | with_reducible apply gm_wI | with_reducible apply gm_rA (by decide) | with_reducible apply gm_wA (by decide) | with_reducible apply gm_rL | with_reducible apply gm_lq | with_reducible apply gm_if | with_reducible apply gm_gd | with_reducible apply hkb | with_reducible apply hke85 | with_reducible apply gm_bd | intro _
theorem gm_R_send_L46 {ke85 : Int32 → RS → Option (Unit × RS)} (hke85 : ∀ z0, Gw A (ke85 z0)) : ∀ (n : Nat) (v0 : Int32) (v1 : Int32), Gw A (R_send_L46 ke85 n v0 v1) := by
  intro n
  induction n with
  | zero => intros; exact gm_no
  | succ n ih =>
    intro v0 v1
    apply gm_R_send_B46
    repeat' first | with_reducible apply ih | with_reducible apply hke85 | intro _
theorem gm_R_send {l1 : Int32}  : Gw A (R_send l1) := by
  unfold R_send
  repeat' first | with_reducible exact gm_rt | with_reducible exact gm_zt | with_reducible exact gm_no | with_reducible apply gm_rI | with_reducible apply gm_wI | with_reducible apply gm_rA (by decide) | with_reducible apply gm_wA (by decide) | with_reducible apply gm_rL | with_reducible apply gm_lq | with_reducible apply gm_if | with_reducible apply gm_gd | with_reducible apply gm_R_send_L46 | with_reducible apply gm_R_send_J85 | with_reducible apply gm_bd | intro _
theorem gm_R_byteOf {l1 : Int32}  : Gw A (R_byteOf l1) := by
  unfold R_byteOf
  repeat' first | with_reducible exact gm_rt | with_reducible exact gm_zt | with_reducible exact gm_no | with_reducible apply gm_rI | with_reducible apply gm_wI | with_reducible apply gm_rA (by decide) | with_reducible apply gm_wA (by decide) | with_reducible apply gm_rL | with_reducible apply gm_lq | with_reducible apply gm_if | with_reducible apply gm_gd | with_reducible apply gm_bd | intro _
theorem gm_R_part_J51   : Gw A (R_part_J51) := by
  unfold R_part_J51
  repeat' first | with_reducible exact gm_rt | with_reducible exact gm_zt | with_reducible exact gm_no | with_reducible apply gm_rI | with_reducible apply gm_wI | with_reducible apply gm_rA (by decide) | with_reducible apply gm_wA (by decide) | with_reducible apply gm_rL | with_reducible apply gm_lq | with_reducible apply gm_if | with_reducible apply gm_gd | with_reducible apply gm_bd | intro _
theorem gm_R_part_B26 {kb : Int32 → Int32 → Int32 → RS → Option (Unit × RS)} {ke51 : RS → Option (Unit × RS)} {l2 : Int32} {l3 : Int32} {l4 : Int32} (hkb : ∀ z0 z1 z2, Gw A (kb z0 z1 z2)) (hke51 : Gw A ke51) : Gw A (R_part_B26 kb ke51 l2 l3 l4) := by
  unfold R_part_B26
  repeat' first | with_reducible exact gm_rt | with_reducible exact gm_zt | with_reducible exact gm_no | with_reducible apply gm_rI | with_reducible apply gm_wI | with_reducible apply gm_rA (by decide) | with_reducible apply gm_wA (by decide) | with_reducible apply gm_rL | with_reducible apply gm_lq | with_reducible apply gm_if | with_reducible apply gm_gd | with_reducible apply hkb | with_reducible apply hke51 | with_reducible apply gm_R_byteOf | with_reducible apply gm_bd | intro _
theorem gm_R_part_L26 {ke51 : RS → Option (Unit × RS)} (hke51 : Gw A ke51) : ∀ (n : Nat) (v0 : Int32) (v1 : Int32) (v2 : Int32), Gw A (R_part_L26 ke51 n v0 v1 v2) := by
  intro n
  induction n with
  | zero => intros; exact gm_no
  | succ n ih =>
    intro v0 v1 v2
    apply gm_R_part_B26
    repeat' first | with_reducible apply ih | with_reducible apply hke51 | intro _
theorem gm_R_part {l1 : Int32} {l2 : Int32} {l3 : Int32}  : Gw A (R_part l1 l2 l3) := by
  unfold R_part
  repeat' first | with_reducible exact gm_rt | with_reducible exact gm_zt | with_reducible exact gm_no | with_reducible apply gm_rI | with_reducible apply gm_wI | with_reducible apply gm_rA (by decide) | with_reducible apply gm_wA (by decide) | with_reducible apply gm_rL | with_reducible apply gm_lq | with_reducible apply gm_if | with_reducible apply gm_gd | with_reducible apply gm_R_byteOf | with_reducible apply gm_R_part_L26 | with_reducible apply gm_R_part_J51 | with_reducible apply gm_bd | intro _
theorem gm_R_variableOf_J32 {l3 : Int64}  : Gw A (R_variableOf_J32 l3) := by
  unfold R_variableOf_J32
  repeat' first | with_reducible exact gm_rt | with_reducible exact gm_zt | with_reducible exact gm_no | with_reducible apply gm_rI | with_reducible apply gm_wI | with_reducible apply gm_rA (by decide) | with_reducible apply gm_wA (by decide) | with_reducible apply gm_rL | with_reducible apply gm_lq | with_reducible apply gm_if | with_reducible apply gm_gd | with_reducible apply gm_R_byteOf | with_reducible apply gm_bd | intro _
theorem gm_R_variableOf_B2 {kb : Int64 → RS → Option (Unit × RS)} {ke32 : Int64 → RS → Option (Unit × RS)} {l3 : Int64} (hkb : ∀ z0, Gw A (kb z0)) (hke32 : ∀ z0, Gw A (ke32 z0)) : Gw A (R_variableOf_B2 kb ke32 l3) := by
  unfold R_variableOf_B2
  repeat' first | with_reducible exact gm_rt | with_reducible exact gm_zt | with_reducible exact gm_no | with_reducible apply gm_rI | with_reducible apply gm_wI | with_reducible apply gm_rA (by decide) | with_reducible apply gm_wA (by decide) | with_reducible apply gm_rL | with_reducible apply gm_lq | with_reducible apply gm_if | with_reducible apply gm_gd | with_reducible apply hkb | with_reducible apply hke32 | with_reducible apply gm_R_byteOf | with_reducible apply gm_bd | intro _
theorem gm_R_variableOf_L2 {ke32 : Int64 → RS → Option (Unit × RS)} (hke32 : ∀ z0, Gw A (ke32 z0)) : ∀ (n : Nat) (v0 : Int64), Gw A (R_variableOf_L2 ke32 n v0) := by
  intro n
  induction n with
  | zero => intros; exact gm_no
  | succ n ih =>
    intro v0
    apply gm_R_variableOf_B2
    repeat' first | with_reducible apply ih | with_reducible apply hke32 | intro _
theorem gm_R_variableOf {l1 : Int64}  : Gw A (R_variableOf l1) := by
  unfold R_variableOf
  repeat' first | with_reducible exact gm_rt | with_reducible exact gm_zt | with_reducible exact gm_no | with_reducible apply gm_rI | with_reducible apply gm_wI | with_reducible apply gm_rA (by decide) | with_reducible apply gm_wA (by decide) | with_reducible apply gm_rL | with_reducible apply gm_lq | with_reducible apply gm_if | with_reducible apply gm_gd | with_reducible apply gm_R_variableOf_L2 | with_reducible apply gm_R_variableOf_J32 | with_reducible apply gm_bd | intro _
theorem gm_R_wrap_J84   : Gw A (R_wrap_J84) := by
  unfold R_wrap_J84
  repeat' first | with_reducible exact gm_rt | with_reducible exact gm_zt | with_reducible exact gm_no | with_reducible apply gm_rI | with_reducible apply gm_wI | with_reducible apply gm_rA (by decide) | with_reducible apply gm_wA (by decide) | with_reducible apply gm_rL | with_reducible apply gm_lq | with_reducible apply gm_if | with_reducible apply gm_gd | with_reducible apply gm_bd | intro _
theorem gm_R_wrap_B48 {kb : Int32 → RS → Option (Unit × RS)} {ke84 : RS → Option (Unit × RS)} {l3 : Int32} (hkb : ∀ z0, Gw A (kb z0)) (hke84 : Gw A ke84) : Gw A (R_wrap_B48 kb ke84 l3) := by
  unfold R_wrap_B48
  repeat' first | with_reducible exact gm_rt | with_reducible exact gm_zt | with_reducible exact gm_no | with_reducible apply gm_rI | with_reducible apply gm_wI | with_reducible apply gm_rA (by decide) | with_reducible apply gm_wA (by decide) | with_reducible apply gm_rL | with_reducible apply gm_lq | with_reducible apply gm_if | with_reducible apply gm_gd | with_reducible apply hkb | with_reducible apply hke84 | with_reducible apply gm_bd | intro _
theorem gm_R_wrap_L48 {ke84 : RS → Option (Unit × RS)} (hke84 : Gw A ke84) : ∀ (n : Nat) (v0 : Int32), Gw A (R_wrap_L48 ke84 n v0) := by
  intro n
  induction n with
  | zero => intros; exact gm_no
  | succ n ih =>
    intro v0
    apply gm_R_wrap_B48
    repeat' first | with_reducible apply ih | with_reducible apply hke84 | intro _
theorem gm_R_wrap_J41 {l2 : Int32}  : Gw A (R_wrap_J41 l2) := by
  unfold R_wrap_J41
  repeat' first | with_reducible exact gm_rt | with_reducible exact gm_zt | with_reducible exact gm_no | with_reducible apply gm_rI | with_reducible apply gm_wI | with_reducible apply gm_rA (by decide) | with_reducible apply gm_wA (by decide) | with_reducible apply gm_rL | with_reducible apply gm_lq | with_reducible apply gm_if | with_reducible apply gm_gd | with_reducible apply gm_R_wrap_L48 | with_reducible apply gm_R_wrap_J84 | with_reducible apply gm_R_put | with_reducible apply gm_bd | intro _
theorem gm_R_wrap_B15 {kb : Int32 → RS → Option (Unit × RS)} {ke41 : Int32 → RS → Option (Unit × RS)} {l2 : Int32} (hkb : ∀ z0, Gw A (kb z0)) (hke41 : ∀ z0, Gw A (ke41 z0)) : Gw A (R_wrap_B15 kb ke41 l2) := by
  unfold R_wrap_B15
  repeat' first | with_reducible exact gm_rt | with_reducible exact gm_zt | with_reducible exact gm_no | with_reducible apply gm_rI | with_reducible apply gm_wI | with_reducible apply gm_rA (by decide) | with_reducible apply gm_wA (by decide) | with_reducible apply gm_rL | with_reducible apply gm_lq | with_reducible apply gm_if | with_reducible apply gm_gd | with_reducible apply hkb | with_reducible apply hke41 | with_reducible apply gm_R_put | with_reducible apply gm_bd | intro _
theorem gm_R_wrap_L15 {ke41 : Int32 → RS → Option (Unit × RS)} (hke41 : ∀ z0, Gw A (ke41 z0)) : ∀ (n : Nat) (v0 : Int32), Gw A (R_wrap_L15 ke41 n v0) := by
  intro n
  induction n with
  | zero => intros; exact gm_no
  | succ n ih =>
    intro v0
    apply gm_R_wrap_B15
    repeat' first | with_reducible apply ih | with_reducible apply hke41 | intro _
theorem gm_R_wrap {l1 : Int32}  : Gw A (R_wrap l1) := by
  unfold R_wrap
  repeat' first | with_reducible exact gm_rt | with_reducible exact gm_zt | with_reducible exact gm_no | with_reducible apply gm_rI | with_reducible apply gm_wI | with_reducible apply gm_rA (by decide) | with_reducible apply gm_wA (by decide) | with_reducible apply gm_rL | with_reducible apply gm_lq | with_reducible apply gm_if | with_reducible apply gm_gd | with_reducible apply gm_R_put | with_reducible apply gm_R_wrap_L15 | with_reducible apply gm_R_wrap_J41 | with_reducible apply gm_bd | intro _
theorem gm_R_sendPublish_J485 {l1 : Int32} {l3 : Int32} {l4 : Int32} {l7 : Int32}  : Gw A (R_sendPublish_J485 l1 l3 l4 l7) := by
  unfold R_sendPublish_J485
  repeat' first | with_reducible exact gm_rt | with_reducible exact gm_zt | with_reducible exact gm_no | with_reducible apply gm_rI | with_reducible apply gm_wI | with_reducible apply gm_rA (by decide) | with_reducible apply gm_wA (by decide) | with_reducible apply gm_rL | with_reducible apply gm_lq | with_reducible apply gm_if | with_reducible apply gm_gd | with_reducible apply gm_R_wrap | with_reducible apply gm_R_send | with_reducible apply gm_bd | intro _
theorem gm_R_sendPublish_B450 {kb : Int32 → Int32 → Int32 → Int32 → Int32 → Int32 → RS → Option (Int32 × RS)} {ke485 : Int32 → Int32 → Int32 → Int32 → RS → Option (Int32 × RS)} {l1 : Int32} {l2 : Int32} {l3 : Int32} {l4 : Int32} {l7 : Int32} {l10 : Int32} (hkb : ∀ z0 z1 z2 z3 z4 z5, Gw A (kb z0 z1 z2 z3 z4 z5)) (hke485 : ∀ z0 z1 z2 z3, Gw A (ke485 z0 z1 z2 z3)) : Gw A (R_sendPublish_B450 kb ke485 l1 l2 l3 l4 l7 l10) := by
  unfold R_sendPublish_B450
  repeat' first | with_reducible exact gm_rt | with_reducible exact gm_zt | with_reducible exact gm_no | with_reducible apply gm_rI | with_reducible apply gm_wI | with_reducible apply gm_rA (by decide) | with_reducible apply gm_wA (by decide) | with_reducible apply gm_rL | with_reducible apply gm_lq | with_reducible apply gm_if | with_reducible apply gm_gd | with_reducible apply hkb | with_reducible apply hke485 | with_reducible apply gm_R_byteOf | with_reducible apply gm_bd | intro _
theorem gm_R_sendPublish_L450 {ke485 : Int32 → Int32 → Int32 → Int32 → RS → Option (Int32 × RS)} (hke485 : ∀ z0 z1 z2 z3, Gw A (ke485 z0 z1 z2 z3)) : ∀ (n : Nat) (v0 : Int32) (v1 : Int32) (v2 : Int32) (v3 : Int32) (v4 : Int32) (v5 : Int32), Gw A (R_sendPublish_L450 ke485 n v0 v1 v2 v3 v4 v5) := by
  intro n
  induction n with
  | zero => intros; exact gm_no
  | succ n ih =>
    intro v0 v1 v2 v3 v4 v5
    apply gm_R_sendPublish_B450
    repeat' first | with_reducible apply ih | with_reducible apply hke485 | intro _
theorem gm_R_sendPublish_J447 {l1 : Int32} {l2 : Int32} {l3 : Int32} {l4 : Int32} {l7 : Int32}  : Gw A (R_sendPublish_J447 l1 l2 l3 l4 l7) := by
  unfold R_sendPublish_J447
  repeat' first | with_reducible exact gm_rt | with_reducible exact gm_zt | with_reducible exact gm_no | with_reducible apply gm_rI | with_reducible apply gm_wI | with_reducible apply gm_rA (by decide) | with_reducible apply gm_wA (by decide) | with_reducible apply gm_rL | with_reducible apply gm_lq | with_reducible apply gm_if | with_reducible apply gm_gd | with_reducible apply gm_R_sendPublish_J485 | with_reducible apply gm_R_sendPublish_L450 | with_reducible apply gm_bd | intro _
theorem gm_R_sendPublish_B416 {kb : Int32 → Int32 → Int32 → Int32 → Int32 → Int32 → Int32 → RS → Option (Int32 × RS)} {ke447 : Int32 → Int32 → Int32 → Int32 → Int32 → RS → Option (Int32 × RS)} {l1 : Int32} {l2 : Int32} {l3 : Int32} {l4 : Int32} {l7 : Int32} {l8 : Int32} {l10 : Int32} (hkb : ∀ z0 z1 z2 z3 z4 z5 z6, Gw A (kb z0 z1 z2 z3 z4 z5 z6)) (hke447 : ∀ z0 z1 z2 z3 z4, Gw A (ke447 z0 z1 z2 z3 z4)) : Gw A (R_sendPublish_B416 kb ke447 l1 l2 l3 l4 l7 l8 l10) := by
  unfold R_sendPublish_B416
  repeat' first | with_reducible exact gm_rt | with_reducible exact gm_zt | with_reducible exact gm_no | with_reducible apply gm_rI | with_reducible apply gm_wI | with_reducible apply gm_rA (by decide) | with_reducible apply gm_wA (by decide) | with_reducible apply gm_rL | with_reducible apply gm_lq | with_reducible apply gm_if | with_reducible apply gm_gd | with_reducible apply hkb | with_reducible apply hke447 | with_reducible apply gm_R_byteOf | with_reducible apply gm_bd | intro _
theorem gm_R_sendPublish_L416 {ke447 : Int32 → Int32 → Int32 → Int32 → Int32 → RS → Option (Int32 × RS)} (hke447 : ∀ z0 z1 z2 z3 z4, Gw A (ke447 z0 z1 z2 z3 z4)) : ∀ (n : Nat) (v0 : Int32) (v1 : Int32) (v2 : Int32) (v3 : Int32) (v4 : Int32) (v5 : Int32) (v6 : Int32), Gw A (R_sendPublish_L416 ke447 n v0 v1 v2 v3 v4 v5 v6) := by
  intro n
  induction n with
  | zero => intros; exact gm_no
  | succ n ih =>
    intro v0 v1 v2 v3 v4 v5 v6
    apply gm_R_sendPublish_B416
    repeat' first | with_reducible apply ih | with_reducible apply hke447 | intro _
theorem gm_R_sendPublish_J413 {l1 : Int32} {l2 : Int32} {l3 : Int32} {l4 : Int32} {l7 : Int32} {l8 : Int32}  : Gw A (R_sendPublish_J413 l1 l2 l3 l4 l7 l8) := by
  unfold R_sendPublish_J413
  repeat' first | with_reducible exact gm_rt | with_reducible exact gm_zt | with_reducible exact gm_no | with_reducible apply gm_rI | with_reducible apply gm_wI | with_reducible apply gm_rA (by decide) | with_reducible apply gm_wA (by decide) | with_reducible apply gm_rL | with_reducible apply gm_lq | with_reducible apply gm_if | with_reducible apply gm_gd | with_reducible apply gm_R_sendPublish_J447 | with_reducible apply gm_R_sendPublish_L416 | with_reducible apply gm_bd | intro _
theorem gm_R_sendPublish_J342 {l1 : Int32} {l2 : Int32} {l3 : Int32} {l4 : Int32} {l5 : Int32} {l7 : Int32} {l8 : Int32}  : Gw A (R_sendPublish_J342 l1 l2 l3 l4 l5 l7 l8) := by
  unfold R_sendPublish_J342
  repeat' first | with_reducible exact gm_rt | with_reducible exact gm_zt | with_reducible exact gm_no | with_reducible apply gm_rI | with_reducible apply gm_wI | with_reducible apply gm_rA (by decide) | with_reducible apply gm_wA (by decide) | with_reducible apply gm_rL | with_reducible apply gm_lq | with_reducible apply gm_if | with_reducible apply gm_gd | with_reducible apply gm_R_sendPublish_J413 | with_reducible apply gm_R_byteOf | with_reducible apply gm_R_variableOf | with_reducible apply gm_R_part | with_reducible apply gm_bd | intro _
theorem gm_R_sendPublish_B321 {kb : Int32 → Int32 → Int32 → Int32 → Int32 → Int32 → Int32 → Int64 → Int32 → RS → Option (Int32 × RS)} {ke342 : Int32 → Int32 → Int32 → Int32 → Int32 → Int32 → Int32 → RS → Option (Int32 × RS)} {l1 : Int32} {l2 : Int32} {l3 : Int32} {l4 : Int32} {l5 : Int32} {l7 : Int32} {l8 : Int32} {l10 : Int64} {l12 : Int32} (hkb : ∀ z0 z1 z2 z3 z4 z5 z6 z7 z8, Gw A (kb z0 z1 z2 z3 z4 z5 z6 z7 z8)) (hke342 : ∀ z0 z1 z2 z3 z4 z5 z6, Gw A (ke342 z0 z1 z2 z3 z4 z5 z6)) : Gw A (R_sendPublish_B321 kb ke342 l1 l2 l3 l4 l5 l7 l8 l10 l12) := by
  unfold R_sendPublish_B321
  repeat' first | with_reducible exact gm_rt | with_reducible exact gm_zt | with_reducible exact gm_no | with_reducible apply gm_rI | with_reducible apply gm_wI | with_reducible apply gm_rA (by decide) | with_reducible apply gm_wA (by decide) | with_reducible apply gm_rL | with_reducible apply gm_lq | with_reducible apply gm_if | with_reducible apply gm_gd | with_reducible apply hkb | with_reducible apply hke342 | with_reducible apply gm_R_byteOf | with_reducible apply gm_bd | intro _
theorem gm_R_sendPublish_L321 {ke342 : Int32 → Int32 → Int32 → Int32 → Int32 → Int32 → Int32 → RS → Option (Int32 × RS)} (hke342 : ∀ z0 z1 z2 z3 z4 z5 z6, Gw A (ke342 z0 z1 z2 z3 z4 z5 z6)) : ∀ (n : Nat) (v0 : Int32) (v1 : Int32) (v2 : Int32) (v3 : Int32) (v4 : Int32) (v5 : Int32) (v6 : Int32) (v7 : Int64) (v8 : Int32), Gw A (R_sendPublish_L321 ke342 n v0 v1 v2 v3 v4 v5 v6 v7 v8) := by
  intro n
  induction n with
  | zero => intros; exact gm_no
  | succ n ih =>
    intro v0 v1 v2 v3 v4 v5 v6 v7 v8
    apply gm_R_sendPublish_B321
    repeat' first | with_reducible apply ih | with_reducible apply hke342 | intro _
theorem gm_R_sendPublish_J276 {l1 : Int32} {l2 : Int32} {l3 : Int32} {l4 : Int32} {l5 : Int32} {l7 : Int32} {l8 : Int32}  : Gw A (R_sendPublish_J276 l1 l2 l3 l4 l5 l7 l8) := by
  unfold R_sendPublish_J276
  repeat' first | with_reducible exact gm_rt | with_reducible exact gm_zt | with_reducible exact gm_no | with_reducible apply gm_rI | with_reducible apply gm_wI | with_reducible apply gm_rA (by decide) | with_reducible apply gm_wA (by decide) | with_reducible apply gm_rL | with_reducible apply gm_lq | with_reducible apply gm_if | with_reducible apply gm_gd | with_reducible apply gm_R_byteOf | with_reducible apply gm_R_sendPublish_L321 | with_reducible apply gm_R_sendPublish_J342 | with_reducible apply gm_bd | intro _
theorem gm_R_sendPublish_J242 {l1 : Int32} {l2 : Int32} {l3 : Int32} {l4 : Int32} {l5 : Int32} {l7 : Int32} {l8 : Int32} {s0 : Int32} {s1 : Int32}  : Gw A (R_sendPublish_J242 l1 l2 l3 l4 l5 l7 l8 s0 s1) := by
  unfold R_sendPublish_J242
  repeat' first | with_reducible exact gm_rt | with_reducible exact gm_zt | with_reducible exact gm_no | with_reducible apply gm_rI | with_reducible apply gm_wI | with_reducible apply gm_rA (by decide) | with_reducible apply gm_wA (by decide) | with_reducible apply gm_rL | with_reducible apply gm_lq | with_reducible apply gm_if | with_reducible apply gm_gd | with_reducible apply gm_R_byteOf | with_reducible apply gm_R_variableOf | with_reducible apply gm_R_sendPublish_J276 | with_reducible apply gm_bd | intro _
theorem gm_R_sendPublish_J188 {l1 : Int32} {l2 : Int32} {l3 : Int32} {l4 : Int32} {l5 : Int32} {l7 : Int32} {l8 : Int32} {s0 : Int32} {s1 : Int32}  : Gw A (R_sendPublish_J188 l1 l2 l3 l4 l5 l7 l8 s0 s1) := by
  unfold R_sendPublish_J188
  repeat' first | with_reducible exact gm_rt | with_reducible exact gm_zt | with_reducible exact gm_no | with_reducible apply gm_rI | with_reducible apply gm_wI | with_reducible apply gm_rA (by decide) | with_reducible apply gm_wA (by decide) | with_reducible apply gm_rL | with_reducible apply gm_lq | with_reducible apply gm_if | with_reducible apply gm_gd | with_reducible apply gm_R_sendPublish_J242 | with_reducible apply gm_bd | intro _
theorem gm_R_sendPublish_J166 {l1 : Int32} {l2 : Int32} {l3 : Int32} {l4 : Int32} {l5 : Int32} {l7 : Int32} {l8 : Int32} {s0 : Int32} {s1 : Int32}  : Gw A (R_sendPublish_J166 l1 l2 l3 l4 l5 l7 l8 s0 s1) := by
  unfold R_sendPublish_J166
  repeat' first | with_reducible exact gm_rt | with_reducible exact gm_zt | with_reducible exact gm_no | with_reducible apply gm_rI | with_reducible apply gm_wI | with_reducible apply gm_rA (by decide) | with_reducible apply gm_wA (by decide) | with_reducible apply gm_rL | with_reducible apply gm_lq | with_reducible apply gm_if | with_reducible apply gm_gd | with_reducible apply gm_R_sendPublish_J188 | with_reducible apply gm_bd | intro _
theorem gm_R_sendPublish_J144 {l1 : Int32} {l2 : Int32} {l3 : Int32} {l4 : Int32} {l5 : Int32} {l7 : Int32} {l8 : Int32} {s0 : Int32} {s1 : Int32}  : Gw A (R_sendPublish_J144 l1 l2 l3 l4 l5 l7 l8 s0 s1) := by
  unfold R_sendPublish_J144
  repeat' first | with_reducible exact gm_rt | with_reducible exact gm_zt | with_reducible exact gm_no | with_reducible apply gm_rI | with_reducible apply gm_wI | with_reducible apply gm_rA (by decide) | with_reducible apply gm_wA (by decide) | with_reducible apply gm_rL | with_reducible apply gm_lq | with_reducible apply gm_if | with_reducible apply gm_gd | with_reducible apply gm_R_sendPublish_J166 | with_reducible apply gm_bd | intro _
theorem gm_R_sendPublish_J122 {l1 : Int32} {l2 : Int32} {l3 : Int32} {l4 : Int32} {l5 : Int32} {l7 : Int32} {l8 : Int32} {s0 : Int32} {s1 : Int32}  : Gw A (R_sendPublish_J122 l1 l2 l3 l4 l5 l7 l8 s0 s1) := by
  unfold R_sendPublish_J122
  repeat' first | with_reducible exact gm_rt | with_reducible exact gm_zt | with_reducible exact gm_no | with_reducible apply gm_rI | with_reducible apply gm_wI | with_reducible apply gm_rA (by decide) | with_reducible apply gm_wA (by decide) | with_reducible apply gm_rL | with_reducible apply gm_lq | with_reducible apply gm_if | with_reducible apply gm_gd | with_reducible apply gm_R_sendPublish_J144 | with_reducible apply gm_bd | intro _
theorem gm_R_sendPublish_J106 {l1 : Int32} {l2 : Int32} {l3 : Int32} {l4 : Int32} {l5 : Int32} {l7 : Int32} {l8 : Int32} {s0 : Int32}  : Gw A (R_sendPublish_J106 l1 l2 l3 l4 l5 l7 l8 s0) := by
  unfold R_sendPublish_J106
  repeat' first | with_reducible exact gm_rt | with_reducible exact gm_zt | with_reducible exact gm_no | with_reducible apply gm_rI | with_reducible apply gm_wI | with_reducible apply gm_rA (by decide) | with_reducible apply gm_wA (by decide) | with_reducible apply gm_rL | with_reducible apply gm_lq | with_reducible apply gm_if | with_reducible apply gm_gd | with_reducible apply gm_R_sendPublish_J122 | with_reducible apply gm_bd | intro _
theorem gm_R_sendPublish_J84 {l1 : Int32} {l2 : Int32} {l3 : Int32} {l4 : Int32} {l5 : Int32} {l7 : Int32}  : Gw A (R_sendPublish_J84 l1 l2 l3 l4 l5 l7) := by
  unfold R_sendPublish_J84
  repeat' first | with_reducible exact gm_rt | with_reducible exact gm_zt | with_reducible exact gm_no | with_reducible apply gm_rI | with_reducible apply gm_wI | with_reducible apply gm_rA (by decide) | with_reducible apply gm_wA (by decide) | with_reducible apply gm_rL | with_reducible apply gm_lq | with_reducible apply gm_if | with_reducible apply gm_gd | with_reducible apply gm_R_sendPublish_J106 | with_reducible apply gm_bd | intro _
theorem gm_R_sendPublish_J65 {l1 : Int32} {l2 : Int32} {l3 : Int32} {l4 : Int32} {l5 : Int32} {l6 : Int32} {l7 : Int32}  : Gw A (R_sendPublish_J65 l1 l2 l3 l4 l5 l6 l7) := by
  unfold R_sendPublish_J65
  repeat' first | with_reducible exact gm_rt | with_reducible exact gm_zt | with_reducible exact gm_no | with_reducible apply gm_rI | with_reducible apply gm_wI | with_reducible apply gm_rA (by decide) | with_reducible apply gm_wA (by decide) | with_reducible apply gm_rL | with_reducible apply gm_lq | with_reducible apply gm_if | with_reducible apply gm_gd | with_reducible apply gm_R_byteOf | with_reducible apply gm_R_sendPublish_J84 | with_reducible apply gm_bd | intro _
theorem gm_R_sendPublish_B31 {kb : Int32 → Int32 → Int32 → Int32 → Int32 → Int32 → Int32 → Int32 → RS → Option (Int32 × RS)} {ke65 : Int32 → Int32 → Int32 → Int32 → Int32 → Int32 → Int32 → RS → Option (Int32 × RS)} {l1 : Int32} {l2 : Int32} {l3 : Int32} {l4 : Int32} {l5 : Int32} {l6 : Int32} {l7 : Int32} {l8 : Int32} (hkb : ∀ z0 z1 z2 z3 z4 z5 z6 z7, Gw A (kb z0 z1 z2 z3 z4 z5 z6 z7)) (hke65 : ∀ z0 z1 z2 z3 z4 z5 z6, Gw A (ke65 z0 z1 z2 z3 z4 z5 z6)) : Gw A (R_sendPublish_B31 kb ke65 l1 l2 l3 l4 l5 l6 l7 l8) := by
  unfold R_sendPublish_B31
  repeat' first | with_reducible exact gm_rt | with_reducible exact gm_zt | with_reducible exact gm_no | with_reducible apply gm_rI | with_reducible apply gm_wI | with_reducible apply gm_rA (by decide) | with_reducible apply gm_wA (by decide) | with_reducible apply gm_rL | with_reducible apply gm_lq | with_reducible apply gm_if | with_reducible apply gm_gd | with_reducible apply hkb | with_reducible apply hke65 | with_reducible apply gm_R_byteOf | with_reducible apply gm_bd | intro _
theorem gm_R_sendPublish_L31 {ke65 : Int32 → Int32 → Int32 → Int32 → Int32 → Int32 → Int32 → RS → Option (Int32 × RS)} (hke65 : ∀ z0 z1 z2 z3 z4 z5 z6, Gw A (ke65 z0 z1 z2 z3 z4 z5 z6)) : ∀ (n : Nat) (v0 : Int32) (v1 : Int32) (v2 : Int32) (v3 : Int32) (v4 : Int32) (v5 : Int32) (v6 : Int32) (v7 : Int32), Gw A (R_sendPublish_L31 ke65 n v0 v1 v2 v3 v4 v5 v6 v7) := by
  intro n
  induction n with
  | zero => intros; exact gm_no
  | succ n ih =>
    intro v0 v1 v2 v3 v4 v5 v6 v7
    apply gm_R_sendPublish_B31
    repeat' first | with_reducible apply ih | with_reducible apply hke65 | intro _
theorem gm_R_sendPublish {l1 : Int32} {l2 : Int32} {l3 : Int32} {l4 : Int32} {l5 : Int32} {l6 : Int32} {l7 : Int32}  : Gw A (R_sendPublish l1 l2 l3 l4 l5 l6 l7) := by
  unfold R_sendPublish
  repeat' first | with_reducible exact gm_rt | with_reducible exact gm_zt | with_reducible exact gm_no | with_reducible apply gm_rI | with_reducible apply gm_wI | with_reducible apply gm_rA (by decide) | with_reducible apply gm_wA (by decide) | with_reducible apply gm_rL | with_reducible apply gm_lq | with_reducible apply gm_if | with_reducible apply gm_gd | with_reducible apply gm_R_byteOf | with_reducible apply gm_R_sendPublish_L31 | with_reducible apply gm_R_sendPublish_J65 | with_reducible apply gm_bd | intro _
theorem gm_R_short4 {l1 : Int32} {l2 : Int32} {l3 : Int32} {l4 : Int32} {l5 : Int32} {l6 : Int32}  : Gw A (R_short4 l1 l2 l3 l4 l5 l6) := by
  unfold R_short4
  repeat' first | with_reducible exact gm_rt | with_reducible exact gm_zt | with_reducible exact gm_no | with_reducible apply gm_rI | with_reducible apply gm_wI | with_reducible apply gm_rA (by decide) | with_reducible apply gm_wA (by decide) | with_reducible apply gm_rL | with_reducible apply gm_lq | with_reducible apply gm_if | with_reducible apply gm_gd | with_reducible apply gm_R_put | with_reducible apply gm_R_send | with_reducible apply gm_bd | intro _
end GM1
