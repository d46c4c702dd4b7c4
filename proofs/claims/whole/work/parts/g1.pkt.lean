/-! ===== a whole packet ===== -/
section PKT
variable {x i p n s b f ec es ew len b0 : Nat} {e0 : Int32} {h h0 : Hp} {r r0 : RS} {bs : List Nat}
variable {kb : Int64 → Int64 → Int32 → Option Nat → Int32 → Int32 → Hp → Option ((Nat ⊕ Int32) × Hp)} {ke : Int32 → Hp → Option ((Nat ⊕ Int32) × Hp)} {l2 l4 : Int64} {l6 l8 l9 : Int32} {Φ : Nat ⊕ Int32 → Hp → Int32 → RS → Prop}
/-- a CONNECT on a connection with no session, by the class -/
def conK (x : Nat) (fl : Int32) : Hp → Option (Int32 × Hp) := hgR 13 6 (some x) fun v20 => hgR 13 3 (some x) fun v21 => hgR 13 4 (some x) fun v22 => hCv 4 v20 (fun a => C_X2_read a v21 v22 fl) fun r23 => hCv 13 (some x) (fun a => C_X11_greeted a) fun r24 => rt (r24)
theorem take_ev (D : Rd x i bs p bs.length 0 h r) (hl : 1 ≤ bs.length) : R_take_ r = (if 0 ≤ r.2.1 7 i then R_take__J53 (nn (bs.getD 0 0 / 16)) (nn (bs.getD 0 0 % 16)) else if nn (bs.getD 0 0 / 16) = (1 : Int32) then R_take__J53 (nn (bs.getD 0 0 / 16)) (nn (bs.getD 0 0 % 16)) else bd (R_lost (nn i)) fun _ => rt ()) r := by
  have hi := D.2.2.1.1
  have hb := D.by.at 0
  have e75 : r.1 75 = nn i := D.2.1.1
  have m0 : r.2.1 6 (410 * i) = sb (bs.getD 0 0) := D.2.1.2.2.2 0 (by omega)
  obtain ⟨t1, t2⟩ := type_or _ hb
  unfold R_take_ lq
  rw [x_rI, e75, show (410 : Int32) = nn 410 from rfl, nn_mul, x_rA mL_6 (by omega) (by omega), m0]
  dsimp only
  rw [t2.2, t1.1, t2.1, x_rI, e75, x_rA mL_7 hi (by omega)]
  by_cases g : 0 ≤ r.2.1 7 i
  · rw [if_pos g, if_pos g]
  · rw [if_neg g, if_neg g]
    by_cases g2 : nn (bs.getD 0 0 / 16) = (1 : Int32)
    · rw [if_pos g2, if_pos g2]
    · rw [if_neg g2, if_neg g2, x_rI, e75]
theorem sim_pkt (R : Rel x i 12 96 e0 h r) (hi : i < 8) (ho : r.2.1 1 i = 1) (h208 : hfi h 208 (cA x i) = 0) (h9 : hfi h 209 (cA x i) = nn p) (h10 : hfi h 210 (cA x i) = nn bs.length) (B : By bs) (hbl : bs.length ≤ 405) (hp2 : 2 ≤ p) (hpl : p ≤ bs.length) (hl : bs.length ≤ p + 400) (hC : Cg (hai h (cA x i + 2)) 0 bs) (hM : Mg (r.2.1 6) (410 * i) bs)
    (con : bs.getD 0 0 / 16 = 1 → r.2.1 7 i = -1 → Sim (bd (conK x (nn (bs.getD 0 0 % 16))) fun w => C_X11_feed_J126 x kb ke l2 l4 l6 (some (cA x i)) l8 l9 w) (obH x i p bs.length h) (bd (R_take__J53 (nn 1) (nn (bs.getD 0 0 % 16))) fun _ => mEnd i) (obM i p bs.length r) Φ)
    (kk : ∀ h' r', PE x i e0 bs.length (obH x i p bs.length h) (obM i p bs.length r) h' r' → Sim (C_X11_feed_J169 x kb ke l2 l4 l6 (some (cA x i)) l8 l9) h' (R_look_J239 (nn i)) r' Φ) :
    Sim (bd (C_X11_obey x (some (cA x i))) fun w => C_X11_feed_J126 x kb ke l2 l4 l6 (some (cA x i)) l8 l9 w) h (bd R_take_ fun _ => mEnd i) (obM i p bs.length r) Φ := by
  have T := R.st
  have hx := T.1
  have hcl := T.cl hi
  have hb := B.at 0
  have c0 : hai h (cA x i + 2) 0 = nn (bs.getD 0 0) := by
    have := hC 0 (by omega)
    rw [Nat.zero_add] at this
    exact this
  have m0 : r.2.1 6 (410 * i) = sb (bs.getD 0 0) := hM 0 (by omega)
  have q : Fm x [1310, 212, 701, 702, 703, 704] (fun _ => False) h (obH x i p bs.length h) := obH.fm
  have w : Ro [67, 8, 75, 76, 77, 78, 79] r (obM i p bs.length r) := obM.ro
  have D := ob_rd (r := r) (p := p) T hi B hbl (by omega) hpl hC hM
  have R2 : Rel x i 12 96 e0 (obH x i p bs.length h) (obM i p bs.length r) := R.ob2 hi
  rw [Sim_l (bd_l (ob_ev T hi h9 h10 hbl hb c0)), Sim_r (bd_l (take_ev D (by omega)))]
  obtain ⟨h1, eh1⟩ : ∃ z, z = obH x i p bs.length h := ⟨_, rfl⟩
  obtain ⟨r1, er1⟩ : ∃ z, z = obM i p bs.length r := ⟨_, rfl⟩
  rw [← eh1] at q D R2 con kk ⊢
  rw [← er1] at w D R2 con kk ⊢
  have T1 := R2.st
  obtain ⟨d1, _⟩ := T1.pk hi
  have c01 : hai h1 (cA x i + 2) 0 = nn (bs.getD 0 0) := by
    rw [(q.2.2 (cA x i + 2) (by omega) (fun z => z)).1]
    exact c0
  have m01 : r1.2.1 6 (410 * i) = sb (bs.getD 0 0) := by
    rw [w.gA (by decide)]
    exact m0
  have h2081 : hfi h1 208 (cA x i) = 0 := by
    rw [q.gi (by decide) (by omega)]
    exact h208
  have ho1 : r1.2.1 1 i = 1 := by
    rw [w.gA (by decide)]
    exact ho
  have e71 : r1.2.1 7 = r.2.1 7 := w.gA (by decide)
  have g1n : bs.getD 0 0 / 16 ≠ 1 → ¬ nn (bs.getD 0 0 / 16) = (1 : Int32) := fun g z => g (nn_inj (b := 1) (by omega) (by omega) z)
  rcases (R2.2.2.2.1 i hi).1.2.2.2 with ⟨a1, a2⟩ | ⟨s, b, hs, a1, _, _, a4, a5, a6⟩
  · have a2' : hfr h1 (100 * 2 + 2) (cA x i) = none := a2
    rw [if_neg (by rw [a1]; decide)]
    by_cases g : bs.getD 0 0 / 16 = 1
    · rw [if_pos (by rw [g]; rfl), g]
      have e : obK x (some (cA x i)) (nn 1) (nn (bs.getD 0 0 % 16)) h1 = conK x (nn (bs.getD 0 0 % 16)) h1 := by
        unfold obK
        rw [if_pos (by decide), e_gR d1, a2', if_pos rfl]
        rfl
      rw [Sim_l (bd_l e)]
      exact con g (by rw [← e71]; exact a1)
    · rw [if_neg (g1n g)]
      have e : obK x (some (cA x i)) (nn (bs.getD 0 0 / 16)) (nn (bs.getD 0 0 % 16)) h1 = some ((130 : Int32), h1) := by
        unfold obK C_X11_obey_J85
        rw [if_neg (g1n g), e_gR d1, a2', if_pos rfl]
        rfl
      rw [Sim_l (e_bd e)]
      exact non_end R2 hi a1 hb g c01 kk
  · have a6' : hfr h1 (100 * 2 + 2) (cA x i) = some b := a6
    rw [if_pos (by rw [a1]; exact nn_ge (by omega))]
    have e : obK x (some (cA x i)) (nn (bs.getD 0 0 / 16)) (nn (bs.getD 0 0 % 16)) h1 = C_X11_obey_J85 x (some (cA x i)) (nn (bs.getD 0 0 / 16)) (nn (bs.getD 0 0 % 16)) h1 := by
      unfold obK
      by_cases g : nn (bs.getD 0 0 / 16) = (1 : Int32)
      · rw [if_pos g, e_gR d1, a6', if_neg (by simp)]
      · rw [if_neg g]
    rw [Sim_l (bd_l e)]
    exact lv_end (sim_dsp R2 D hs a1 a5 ho1 hl hp2 (by omega) (by omega)) hi ho1 h2081 hb c01 m01 kk
end PKT
