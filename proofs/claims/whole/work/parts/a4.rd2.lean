/-! ===== reading: two, four, a VARIABLE ===== -/
section RD2
variable {x i p L f n c e : Nat} {h h' : Hp} {r r' : RS} {bs : List Nat}
theorem Sc.st (s : Sc x c e h h' r r') (T : Stat x h) : Stat x h' := T.sto s.1.1
def b2 (bs : List Nat) (p : Nat) : Nat := 256 * bs.getD p 0 + bs.getD (p + 1) 0
theorem By.two (B : By bs) (p : Nat) : b2 bs p < 65536 := by
  have h1 := B.at p
  have h2 := B.at (p + 1)
  unfold b2
  omega
theorem Rd.by (D : Rd x i bs p L f h r) : By bs := D.2.2.1.2.1
theorem Rd.byte (D : Rd x i bs p L f h r) (T : Stat x h) {q : Nat} (hq : q < bs.length) {α : Type} {g : Int32 → Hp → Option (α × Hp)} {Q : α → Hp → Prop} {h1 : Hp} (hk : hkd h1 = hkd h) (hl : hln h1 = hln h) (ha : hai h1 = hai h) : wp (hAi (some (cA x i + 2)) (nn q) g) h1 Q ↔ wp (g (nn (bs.getD q 0))) h1 Q := by
  obtain ⟨k1, k2⟩ := D.pk T
  have hL := D.2.2.1.2.2.1
  have := D.1.2.2.2 q hq
  rw [Nat.zero_add] at this
  rw [wn_Ai (by rw [hk]; exact k1) (by rw [hl, k2]; omega) (by omega), ha, this]
theorem qc_two_f (T : Stat x h) (F : Fa x f h) : C_X5_two (x + 37) h = some (0, h) := by
  have hh : wp (C_X5_two (x + 37)) h (fun w h' => w = 0 ∧ h' = h) := by
    unfold C_X5_two
    rw [wp_Cv T.rd]
    refine wp.get (qc_has_f T F) ?_
    rw [wp_pos rfl, wp_rt]
    exact ⟨rfl, rfl⟩
  obtain ⟨_, h', e1, e2, e3⟩ := hh
  rw [e1, e2, e3]
theorem qc_four_f (T : Stat x h) (F : Fa x f h) : C_X5_four (x + 37) h = some (0, h) := by
  have hh : wp (C_X5_four (x + 37)) h (fun w h' => w = 0 ∧ h' = h) := by
    unfold C_X5_four
    rw [wp_Cv T.rd]
    refine wp.get (qc_has_f T F) ?_
    rw [wp_pos rfl, wp_rt]
    exact ⟨rfl, rfl⟩
  obtain ⟨_, h', e1, e2, e3⟩ := hh
  rw [e1, e2, e3]
theorem qc_variable_f (T : Stat x h) (F : Fa x f h) : C_X5_variable (x + 37) h = some (0, h) := by
  have hh : wp (C_X5_variable (x + 37)) h (fun w h' => w = 0 ∧ h' = h) := by
    unfold C_X5_variable
    obtain ⟨g, hg⟩ : ∃ g, fu = g + 1 := ⟨4999, rfl⟩
    rw [hg]
    show wp (C_X5_variable_B4 (x + 37) _ _ _ 0 0) h _
    unfold C_X5_variable_B4 C_X5_variable_J64
    rw [wp_neg (by decide), wp_Cv T.rd]
    refine wp.get (qc_has_f T F) ?_
    rw [wp_pos rfl, wp_Cv T.rd]
    refine wp.get (qc_fail_f T F) ?_
    rw [wp_rt]
    exact ⟨rfl, rfl⟩
  obtain ⟨_, h', e1, e2, e3⟩ := hh
  rw [e1, e2, e3]
theorem qc_number_f (T : Stat x h) (F : Fa x f h) : C_X5_number (x + 37) h = some (0, h) := by
  have hh : wp (C_X5_number (x + 37)) h (fun w h' => w = 0 ∧ h' = h) := by
    unfold C_X5_number
    rw [wp_Cv T.rd]
    refine wp.get (qc_two_f T F) ?_
    rw [wp_pos rfl, wp_Cv T.rd]
    refine wp.get (qc_fail_f T F) ?_
    rw [wp_rt]
    exact ⟨rfl, rfl⟩
  obtain ⟨_, h', e1, e2, e3⟩ := hh
  rw [e1, e2, e3]
theorem qc_left_f (T : Stat x h) (F : Fa x f h) : C_X5_left (x + 37) h = some (0, h) := by
  have e : hfi h (100 * 7 + 4) (x + 37) = nn f := F.1
  have hh : wp (C_X5_left (x + 37)) h (fun w h' => w = 0 ∧ h' = h) := by
    unfold C_X5_left
    rw [wp_gI T.rd, e, wp_neg (nn_ne0 (by have := F.2.2; omega) F.2.1), wp_rt]
    exact ⟨rfl, rfl⟩
  obtain ⟨_, h', e1, e2, e3⟩ := hh
  rw [e1, e2, e3]
theorem qc_finish_f (T : Stat x h) (F : Fa x f h) : C_X5_finish (x + 37) h = some ((), h) := by
  have hh : wp (C_X5_finish (x + 37)) h (fun _ h' => h' = h) := by
    unfold C_X5_finish
    rw [wp_Cv T.rd]
    refine wp.get (qc_left_f T F) ?_
    rw [wp_pos (by decide), wp_rt]
  obtain ⟨_, h', e1, e2⟩ := hh
  rw [e1, e2]
theorem qc_row_f (T : Stat x h) (F : Fa x f h) {v : Int32} : C_X5_row (x + 37) v h = some (some (x + 38), h) := by
  have e : hfr h (100 * 7 + 0) (x + 37) = some (x + 38) := T.2.2.2.1.2.1
  have hh : wp (C_X5_row (x + 37) v) h (fun w h' => w = some (x + 38) ∧ h' = h) := by
    unfold C_X5_row
    rw [wp_Cv T.rd]
    refine wp.get (qc_has_f T F) ?_
    rw [wp_pos rfl, wp_gR T.rd, e, wp_rt]
    exact ⟨rfl, rfl⟩
  obtain ⟨_, h', e1, e2, e3⟩ := hh
  rw [e1, e2, e3]
theorem Rd.left (D : Rd x i bs p L 0 h r) (T : Stat x h) : C_X5_left (x + 37) h = some (nn (L - p), h) := by
  obtain ⟨⟨a1, a2, a3, a4⟩, ⟨b1, b2, b3, b4⟩, ⟨c1, c2, c3, c4, c5, c6⟩, d⟩ := D
  obtain ⟨d1, d2, d3, d4, d5⟩ := d rfl
  have e : hfi h (100 * 7 + 4) (x + 37) = 0 := a3
  have e2 : hfi h (100 * 7 + 2) (x + 37) = nn p := a2
  have e3 : hfi h (100 * 7 + 3) (x + 37) = nn L := d1
  have hh : wp (C_X5_left (x + 37)) h (fun w h' => w = nn (L - p) ∧ h' = h) := by
    unfold C_X5_left
    rw [wp_gI T.rd, e, wp_pos rfl, wp_gI T.rd, e3, wp_gI T.rd, e2, wp_rt, nn_sub d4]
    exact ⟨rfl, rfl⟩
  obtain ⟨_, h', e1, e2, e3⟩ := hh
  rw [e1, e2, e3]
theorem Rd.finish (D : Rd x i bs p L 0 h r) (T : Stat x h) : C_X5_finish (x + 37) h = some ((), if p < L then sfi h 704 (x + 37) (nn 129) else h) := by
  have hd := D.2.2.2 rfl
  have hL := D.2.2.1.2.2.1
  have hh : wp (C_X5_finish (x + 37)) h (fun _ h' => h' = if p < L then sfi h 704 (x + 37) (nn 129) else h) := by
    unfold C_X5_finish
    rw [wp_Cv T.rd]
    refine wp.get (D.left T) ?_
    by_cases g : p < L
    · rw [wp_neg (by rw [show (0 : Int32) = nn 0 from rfl, nn_le (by omega) (by omega)]; omega), wp_Cv T.rd]
      refine wp.get (qc_fail T D.1.2.2.1) ?_
      rw [wp_rt, if_pos g]
      rfl
    · rw [wp_pos (by rw [show (0 : Int32) = nn 0 from rfl, nn_le (by omega) (by omega)]; omega), wp_rt, if_neg g]
  obtain ⟨_, h', e1, e2⟩ := hh
  rw [e1, e2]
theorem Rd.two (D : Rd x i bs p L 0 h r) (T : Stat x h) (hp : p + 2 ≤ L) : C_X5_two (x + 37) h = some (nn (b2 bs p), sfi h 702 (x + 37) (nn (p + 2))) ∧ R_two r = some (nn (b2 bs p), sI r 76 (nn (410 * i + (p + 2)))) := by
  have D0 := D
  have B := D.by
  have eh := D.has1 T (n := 2) (by omega)
  obtain ⟨⟨a1, a2, a3, a4⟩, ⟨b1, b2', b3, b4⟩, ⟨c1, c2, c3, c4, c5, c6⟩, d⟩ := D
  obtain ⟨d1, d2, d3, d4, d5⟩ := d rfl
  have e2 : hfi h (100 * 7 + 2) (x + 37) = nn p := a2
  have e1 : hfr h (100 * 7 + 1) (x + 37) = some (cA x i + 2) := a1
  constructor
  · have hh : wp (C_X5_two (x + 37)) h (fun w h' => w = nn (b2 bs p) ∧ h' = sfi h 702 (x + 37) (nn (p + 2))) := by
      unfold C_X5_two
      rw [wp_Cv T.rd]
      refine wp.get eh ?_
      rw [wp_neg (by decide), wp_gI T.rd, e2, wp_pI T.rd, l_2, nn_add, wp_gR (by exact T.rd), hfr_sfi, e1, wp_gI (by exact T.rd), hfi_sfi, if_pos ⟨rfl, rfl⟩, nn_sub (by omega), show p + 2 - 2 = p by omega, D0.byte T (by omega) (by rfl) (by rfl) (by rfl), wp_gR (by exact T.rd), hfr_sfi, e1, wp_gI (by exact T.rd), hfi_sfi, if_pos ⟨rfl, rfl⟩, l_1, nn_sub (by omega), show p + 2 - 1 = p + 1 by omega, D0.byte T (by omega) (by rfl) (by rfl) (by rfl), wp_rt, two_nn (B.at p) (B.at (p + 1))]
      exact ⟨rfl, rfl⟩
    obtain ⟨_, h', e1, e2, e3⟩ := hh
    rw [e1, e2, e3]
  · have hh : wp R_two r (fun w r' => w = nn (b2 bs p) ∧ r' = sI r 76 (nn (410 * i + (p + 2)))) := by
      unfold R_two R_two_J27
      rw [wp_rI, b3, wp_pos (show nn 0 = (0 : Int32) from rfl), wp_rI, d2, wp_rI, d3, l_2, nn_add, wp_pos (by rw [nn_le (by omega) (by omega)]; omega), wp_bd]
      refine wp.get (D0.one T (by omega)).2 ?_
      rw [wp_bd]
      refine wp.get ((D0.mv (p' := p + 1) (by omega) (by omega)).one ((Sc.mv (r := r) (w := 0)).st T) (by omega)).2 ?_
      rw [wp_rt, two_nn (B.at p) (B.at (p + 1)), sI_sI]
      exact ⟨rfl, rfl⟩
    obtain ⟨_, h', e1, e2, e3⟩ := hh
    rw [e1, e2, e3]
theorem Rd.two0 (D : Rd x i bs p L 0 h r) (T : Stat x h) (hp : L < p + 2) : C_X5_two (x + 37) h = some (0, sfi h 704 (x + 37) (nn 129)) ∧ R_two r = some (0, sI r 79 (nn 129)) := by
  have eh := D.has0 T (n := 2) (by omega) (by omega)
  have D1 := D.fl (v := 129) (by omega) (by omega)
  obtain ⟨⟨a1, a2, a3, a4⟩, ⟨b1, b2', b3, b4⟩, ⟨c1, c2, c3, c4, c5, c6⟩, d⟩ := D
  obtain ⟨d1, d2, d3, d4, d5⟩ := d rfl
  constructor
  · have hh : wp (C_X5_two (x + 37)) h (fun w h' => w = 0 ∧ h' = sfi h 704 (x + 37) (nn 129)) := by
      unfold C_X5_two
      rw [wp_Cv T.rd]
      refine wp.get eh ?_
      rw [wp_pos rfl, wp_rt]
      exact ⟨rfl, rfl⟩
    obtain ⟨_, h', e1, e2, e3⟩ := hh
    rw [e1, e2, e3]
  · have hh : wp R_two r (fun w r' => w = 0 ∧ r' = sI r 79 (nn 129)) := by
      unfold R_two R_two_J27
      rw [wp_rI, b3, wp_pos (show nn 0 = (0 : Int32) from rfl), wp_rI, d2, wp_rI, d3, l_2, nn_add, wp_neg (by rw [nn_le (by omega) (by omega)]; omega), wp_bd]
      refine wp.get (qm_fails b3) ?_
      rw [wp_bd]
      refine wp.get (qm_one_f (f := 129) (by rw [sI_1, if_pos rfl]; rfl) (by omega) (by omega)) ?_
      rw [wp_bd]
      refine wp.get (qm_one_f (f := 129) (by rw [sI_1, if_pos rfl]; rfl) (by omega) (by omega)) ?_
      rw [wp_rt]
      exact ⟨rfl, rfl⟩
    obtain ⟨_, h', e1, e2, e3⟩ := hh
    rw [e1, e2, e3]
theorem sim_two (D : Rd x i bs p L 0 h r) (T : Stat x h) : Sim (C_X5_two (x + 37)) h (R_two) r (fun v h' w r' => w = v ∧ Sc x 0 0 h h' r r' ∧ ((p + 2 ≤ L ∧ v = nn (b2 bs p) ∧ Rd x i bs (p + 2) L 0 h' r') ∨ (v = 0 ∧ Rd x i bs p L 129 h' r'))) := by
  by_cases g : p + 2 ≤ L
  · obtain ⟨e1, e2⟩ := D.two T g
    exact ⟨_, _, _, _, e1, e2, rfl, Sc.mv, Or.inl ⟨g, rfl, D.mv (by omega) (by omega)⟩⟩
  · obtain ⟨e1, e2⟩ := D.two0 T (by omega)
    exact ⟨_, _, _, _, e1, e2, rfl, Sc.fl, Or.inr ⟨rfl, D.fl (by omega) (by omega)⟩⟩
def b4 (bs : List Nat) (p : Nat) : Nat := 65536 * b2 bs p + b2 bs (p + 2)
theorem By.four (B : By bs) (p : Nat) : b4 bs p < 4294967296 := by
  have h1 := B.two p
  have h2 := B.two (p + 2)
  unfold b4
  omega
theorem sim_four (D : Rd x i bs p L 0 h r) (T : Stat x h) : Sim (C_X5_four (x + 37)) h (R_four) r (fun v h' w r' => w = v ∧ Sc x 0 0 h h' r r' ∧ ((p + 4 ≤ L ∧ v = n6 (b4 bs p) ∧ Rd x i bs (p + 4) L 0 h' r') ∨ (v = 0 ∧ Rd x i bs p L 129 h' r'))) := by
  have D0 := D
  have B := D.by
  obtain ⟨⟨a1, a2, a3, a4⟩, ⟨b1, b2', b3, b4'⟩, ⟨c1, c2, c3, c4, c5, c6⟩, d⟩ := D
  obtain ⟨d1, d2, d3, d4, d5⟩ := d rfl
  have e2 : hfi h (100 * 7 + 2) (x + 37) = nn p := a2
  have e1 : hfr h (100 * 7 + 1) (x + 37) = some (cA x i + 2) := a1
  by_cases g : p + 4 ≤ L
  · have hc : wp (C_X5_four (x + 37)) h (fun w h' => w = n6 (b4 bs p) ∧ h' = sfi h 702 (x + 37) (nn (p + 4))) := by
      unfold C_X5_four
      rw [wp_Cv T.rd]
      refine wp.get (D0.has1 T (n := 4) (by omega)) ?_
      rw [wp_neg (by decide), wp_gI T.rd, e2, wp_pI T.rd, l_4, nn_add, wp_gR (by exact T.rd), hfr_sfi, e1, wp_gI (by exact T.rd), hfi_sfi, if_pos ⟨rfl, rfl⟩, nn_sub (by omega), show p + 4 - 4 = p by omega, D0.byte T (by omega) (by rfl) (by rfl) (by rfl)]
      rw [wp_gR (by exact T.rd), hfr_sfi, e1, wp_gI (by exact T.rd), hfi_sfi, if_pos ⟨rfl, rfl⟩, l_3, nn_sub (by omega), show p + 4 - 3 = p + 1 by omega, D0.byte T (by omega) (by rfl) (by rfl) (by rfl), wp_lq, two_nn (B.at p) (B.at (p + 1))]
      rw [wp_gR (by exact T.rd), hfr_sfi, e1, wp_gI (by exact T.rd), hfi_sfi, if_pos ⟨rfl, rfl⟩, l_2, nn_sub (by omega), show p + 4 - 2 = p + 2 by omega, D0.byte T (by omega) (by rfl) (by rfl) (by rfl)]
      rw [wp_gR (by exact T.rd), hfr_sfi, e1, wp_gI (by exact T.rd), hfi_sfi, if_pos ⟨rfl, rfl⟩, l_1, nn_sub (by omega), show p + 4 - 1 = p + 3 by omega, D0.byte T (by omega) (by rfl) (by rfl) (by rfl), wp_rt]
      have q0 := B.two p
      unfold b2 at q0
      have q1 := B.at (p + 2)
      have q2 := B.at (p + 3)
      refine ⟨?_, rfl⟩
      rw [nn_shl8 (by omega), n6_nn (by omega), n6_nn (by omega), n6_nn (by omega), n6_shl16 (by omega), n6_or 16 (by omega) (by omega)]
      have := n6_or (a := 256 * (256 * bs.getD p 0 + bs.getD (p + 1) 0) + bs.getD (p + 2) 0) (b := bs.getD (p + 3) 0) 8 (by omega) (by omega)
      rw [show 2 ^ 16 * (256 * bs.getD p 0 + bs.getD (p + 1) 0) + 2 ^ 8 * bs.getD (p + 2) 0 = 2 ^ 8 * (256 * (256 * bs.getD p 0 + bs.getD (p + 1) 0) + bs.getD (p + 2) 0) by omega, this]
      congr 1
      unfold b4 b2
      rw [show p + 2 + 1 = p + 3 from rfl]
      omega
    obtain ⟨_, h1, e3, e4, e5⟩ := hc
    have hm : wp R_four r (fun w r' => w = n6 (b4 bs p) ∧ r' = sI r 76 (nn (410 * i + (p + 4)))) := by
      unfold R_four R_four_J27
      rw [wp_rI, b3, wp_pos (show nn 0 = (0 : Int32) from rfl), wp_rI, d2, wp_rI, d3, l_4, nn_add, wp_pos (by rw [nn_le (by omega) (by omega)]; omega), wp_bd]
      refine wp.get (D0.two T (by omega)).2 ?_
      rw [wp_bd]
      refine wp.get ((D0.mv (p' := p + 2) (by omega) (by omega)).two ((Sc.mv (r := r) (w := 0)).st T) (by omega)).2 ?_
      have q1 := B.two p
      have q2 := B.two (p + 2)
      rw [wp_rt, sI_sI, n6_nn (by omega), n6_nn (by omega), n6_shl16 (by omega), n6_or 16 (by omega) (by omega)]
      exact ⟨rfl, rfl⟩
    obtain ⟨_, r1, e6, e7, e8⟩ := hm
    rw [e4, e5] at e3
    rw [e7, e8] at e6
    exact ⟨_, _, _, _, e3, e6, rfl, Sc.mv, Or.inl ⟨g, rfl, D0.mv (by omega) (by omega)⟩⟩
  · have hc : wp (C_X5_four (x + 37)) h (fun w h' => w = 0 ∧ h' = sfi h 704 (x + 37) (nn 129)) := by
      unfold C_X5_four
      rw [wp_Cv T.rd]
      refine wp.get (D0.has0 T (n := 4) (by omega) (by omega)) ?_
      rw [wp_pos rfl, wp_rt]
      exact ⟨rfl, rfl⟩
    obtain ⟨_, h1, e3, e4, e5⟩ := hc
    have f1 : ∀ q : RS, q.1 79 = nn 129 → R_two q = some (0, q) := fun q hq => by
      have hh : wp R_two q (fun w r' => w = 0 ∧ r' = q) := by
        unfold R_two R_two_J27
        rw [wp_rI, hq, wp_neg (by decide), wp_bd]
        refine wp.get (qm_one_f (f := 129) hq (by omega) (by omega)) ?_
        rw [wp_bd]
        refine wp.get (qm_one_f (f := 129) hq (by omega) (by omega)) ?_
        rw [wp_rt]
        exact ⟨rfl, rfl⟩
      obtain ⟨_, h', e1, e2, e3⟩ := hh
      rw [e1, e2, e3]
    have hm : wp R_four r (fun w r' => w = 0 ∧ r' = sI r 79 (nn 129)) := by
      unfold R_four R_four_J27
      rw [wp_rI, b3, wp_pos (show nn 0 = (0 : Int32) from rfl), wp_rI, d2, wp_rI, d3, l_4, nn_add, wp_neg (by rw [nn_le (by omega) (by omega)]; omega), wp_bd]
      refine wp.get (qm_fails b3) ?_
      rw [wp_bd]
      refine wp.get (f1 _ (by rw [sI_1, if_pos rfl]; rfl)) ?_
      rw [wp_bd]
      refine wp.get (f1 _ (by rw [sI_1, if_pos rfl]; rfl)) ?_
      rw [wp_rt]
      exact ⟨rfl, rfl⟩
    obtain ⟨_, r1, e6, e7, e8⟩ := hm
    rw [e4, e5] at e3
    rw [e7, e8] at e6
    exact ⟨_, _, _, _, e3, e6, rfl, Sc.fl, Or.inr ⟨rfl, D0.fl (by omega) (by omega)⟩⟩
theorem vstep {k a v : Nat} (hk : k < 4) (ha : a < 128) (hv : v < 2 ^ (7 * k)) : v + 2 ^ (7 * k) * a < 2 ^ (7 * (k + 1)) ∧ 2 ^ (7 * (k + 1)) ≤ 268435456 := by
  rcases (by omega : k = 0 ∨ k = 1 ∨ k = 2 ∨ k = 3) with g | g | g | g <;> subst g <;> omega
theorem sim_variable (D : Rd x i bs p L 0 h r) (T : Stat x h) : Sim (C_X5_variable (x + 37)) h (R_variable) r (fun v h' w r' => ∃ k, v = nn k ∧ w = n6 k ∧ k < 268435456 ∧ Sc x 0 0 h h' r r' ∧ ∃ p', p ≤ p' ∧ p' ≤ L ∧ ((p < p' ∧ Rd x i bs p' L 0 h' r') ∨ (k = 0 ∧ Rd x i bs p' L 129 h' r'))) := by
  unfold C_X5_variable R_variable
  have key : ∀ (c k v p' f g : Nat) (h1 : Hp) (r1 : RS), k + c = 4 → c < f → c < g → v < 2 ^ (7 * k) → p + k = p' → Rd x i bs p' L 0 h1 r1 → Sc x 0 0 h h1 r r1 → Sim (C_X5_variable_L4 (x + 37) (fun l1 => C_X5_variable_J56 (x + 37) l1) (C_X5_variable_J64 (x + 37)) f (nn v) (nn k)) h1 (R_variable_L4 (R_variable_J22) (fun l1 => R_variable_J46 l1) (R_variable_J54) g (n6 v) (nn k)) r1 (fun v h' w r' => ∃ k, v = nn k ∧ w = n6 k ∧ k < 268435456 ∧ Sc x 0 0 h h' r r' ∧ ∃ p', p ≤ p' ∧ p' ≤ L ∧ ((p < p' ∧ Rd x i bs p' L 0 h' r') ∨ (k = 0 ∧ Rd x i bs p' L 129 h' r'))) := by
    intro c
    induction c with
    | zero =>
      intro k v p' f g h1 r1 hk hf hg hv hp D1 s1
      obtain ⟨f', rfl⟩ : ∃ z, f = z + 1 := ⟨f - 1, by omega⟩
      obtain ⟨g', rfl⟩ : ∃ z, g = z + 1 := ⟨g - 1, by omega⟩
      have : k = 4 := by omega
      subst this
      have T1 := s1.st T
      show Sim (C_X5_variable_B4 (x + 37) _ _ _ (nn v) (nn 4)) h1 (R_variable_B4 _ _ _ _ (n6 v) (nn 4)) r1 _
      unfold C_X5_variable_B4 R_variable_B4 C_X5_variable_J64 R_variable_J54
      rw [sl_pos (by decide), sr_pos (by decide), sl_Cv T1.rd, Sim_l (e_bd (qc_fail T1 D1.1.2.2.1)), Sim_r (e_bd (qm_fails D1.2.1.2.2.1))]
      exact Sim.ret ⟨0, rfl, rfl, by omega, s1.tr Sc.fl, p', by omega, (D1.2.2.2 rfl).2.2.2.1, Or.inr ⟨rfl, D1.fl (v := 129) (by omega) (by omega)⟩⟩
    | succ c ih =>
      intro k v p' f g h1 r1 hk hf hg hv hp D1 s1
      obtain ⟨f', rfl⟩ : ∃ z, f = z + 1 := ⟨f - 1, by omega⟩
      obtain ⟨g', rfl⟩ : ∃ z, g = z + 1 := ⟨g - 1, by omega⟩
      have T1 := s1.st T
      have B := D1.by
      have hd := D1.2.2.2 rfl
      have hk4 : k < 4 := by omega
      show Sim (C_X5_variable_B4 (x + 37) _ _ _ (nn v) (nn k)) h1 (R_variable_B4 _ _ _ _ (n6 v) (nn k)) r1 _
      unfold C_X5_variable_B4 R_variable_B4
      rw [sl_neg (by rw [show (4 : Int32) = nn 4 from rfl, nn_le (by omega) (by omega)]; omega), sr_neg (by rw [show (4 : Int32) = nn 4 from rfl, nn_le (by omega) (by omega)]; omega), sl_Cv T1.rd]
      by_cases gp : p' < L
      · have eh1 : C_X5_has (x + 37) (1 : Int32) h1 = some (1, h1) := D1.has1 T1 (n := 1) (by omega)
        rw [Sim_l (e_bd eh1), sl_neg (by decide)]
        obtain ⟨_, e2⟩ := D1.one T1 gp
        have x1 : hfr h1 (100 * 7 + 1) (x + 37) = some (cA x i + 2) := D1.1.1
        have x2 : hfi h1 (100 * 7 + 2) (x + 37) = nn p' := D1.1.2.1
        obtain ⟨k1, k2⟩ := D1.pk T1
        have hb := D1.1.2.2.2 p' (by omega)
        rw [Nat.zero_add] at hb
        have hL := D1.2.2.1.2.2.1
        have e79 : (sI r1 76 (nn (410 * i + (p' + 1)))).1 79 = 0 := D1.2.1.2.2.1
        have q0 := B.at p'
        have q1 := vstep (a := bs.getD p' 0 % 128) hk4 (by omega) hv
        rw [sl_gR T1.rd, x1, sl_gI T1.rd, x2, sl_Ai k1 (by omega) (by omega), hb, sl_gI T1.rd, x2, sl_pI T1.rd, l_1, show nn p' + nn 1 = nn (p' + 1) from nn_add, sl_lq, Sim_r (e_bd e2), sr_rI, e79, sr_pos rfl, sr_lq, and127 (by omega), nn_shl7 (by omega) hk4, n6_nn (by omega), n6_shl7 (by omega) hk4, nn_ro _ hv (by omega), n6_ro _ hv (by omega)]
        have D2 := D1.mv (p' := p' + 1) (by omega) (by omega)
        have s2 := s1.tr (Sc.mv (h := h1) (r := r1) (v := nn (p' + 1)) (w := nn (410 * i + (p' + 1))))
        by_cases g128 : bs.getD p' 0 < 128
        · rw [sl_neg (by rw [show (128 : Int32) = nn 128 from rfl, nn_le (by omega) (by omega)]; omega), sr_neg (by rw [show (128 : Int32) = nn 128 from rfl, nn_le (by omega) (by omega)]; omega)]
          unfold C_X5_variable_J56 R_variable_J46
          exact Sim.ret ⟨_, rfl, rfl, by omega, s2, p' + 1, by omega, by omega, Or.inl ⟨by omega, D2⟩⟩
        · rw [sl_pos (by rw [show (128 : Int32) = nn 128 from rfl, nn_le (by omega) (by omega)]; omega), sr_pos (by rw [show (128 : Int32) = nn 128 from rfl, nn_le (by omega) (by omega)]; omega), nn_add]
          exact ih (k + 1) _ (p' + 1) f' g' _ _ (by omega) (by omega) (by omega) q1.1 (by omega) D2 s2
      · have eh1 : C_X5_has (x + 37) (1 : Int32) h1 = some (0, sfi h1 704 (x + 37) (nn 129)) := D1.has0 T1 (n := 1) (by omega) (by omega)
        rw [Sim_l (e_bd eh1), sl_pos rfl]
        obtain ⟨_, e2⟩ := D1.one0 T1 (by omega)
        have D2 := D1.fl (v := 129) (by omega) (by omega)
        have s2 := s1.tr (Sc.fl (h := h1) (r := r1) (v := nn 129) (w := nn 129))
        have e79 : (sI r1 79 (nn 129)).1 79 = nn 129 := by rw [sI_1, if_pos rfl]
        unfold C_X5_variable_J64 R_variable_J22
        show Sim (hCv 7 (some (x + 37)) _ _) (sfi h1 704 (x + 37) (nn 129)) _ _ _
        rw [sl_Cv (s2.st T).rd, Sim_l (e_bd (qc_fail_f (s2.st T) (D2.fa (by omega)))), Sim_r (e_bd e2), sr_rI, e79, sr_neg (by decide)]
        exact Sim.ret ⟨0, rfl, rfl, by omega, s2, p', by omega, by omega, Or.inr ⟨rfl, D2⟩⟩
  exact key 4 0 0 p fu fu h r (by omega) (by unfold fu; omega) (by unfold fu; omega) (by omega) (by omega) D Sc.rf
end RD2
