/-! ===== the class makes a message ===== -/
section RAW
variable {x i k j a n M kid : Nat} {h h1 h' : Hp} {r : RS} {bs U ys : List Nat}
theorem e_Cpn {ρ : Type} {a0 a sp dp n : Nat} {P : Hp → Option (ρ × Hp)} (h0 : hkd h a0 = 101) (h1 : hkd h a = 101) (l0 : sp + n ≤ hln h a0) (l1 : dp + n ≤ hln h a) (b0 : sp < 2147483648) (b1 : dp < 2147483648) (b2 : n < 2147483648) : hCp (some a0) (nn sp) (some a) (nn dp) (nn n) P h = P (sai h a (va_cpy (hai h a0) (hai h a) sp dp n)) := by
  have q : hkd h a0 = 101 ∧ hkd h a = 101 ∧ 0 ≤ nn sp ∧ 0 ≤ nn dp ∧ 0 ≤ nn n ∧ (nn sp).toNatClampNeg + (nn n).toNatClampNeg ≤ hln h a0 ∧ (nn dp).toNatClampNeg + (nn n).toNatClampNeg ≤ hln h a := ⟨h0, h1, nn_ge b0, nn_ge b1, nn_ge b2, by rw [nn_N b0, nn_N b2]; exact l0, by rw [nn_N b1, nn_N b2]; exact l1⟩
  refine (if_pos q).trans ?_
  rw [nn_N b0, nn_N b1, nn_N b2]
theorem e_Nw {ρ : Type} {c n : Nat} {f : Option Nat → Hp → Option (ρ × Hp)} : hNw c n f h = f (some (hnx h)) (hob h c n) := rfl
theorem e_Ci {ρ α : Type} {a : Nat} {P : Nat → Hp → Option (α × Hp)} {f : α → Hp → Option (ρ × Hp)} : hCi (some a) P f h = bd (P a) f h := rfl
theorem kAt_00 {ρ : Type} {f : Int32 → Hp → Option (ρ × Hp)} : kAt 0 (nn 0) f = f (nn 1) := by
  funext σ
  have q : inr (nn 0) (klen 0) := by decide
  show gd (inr (nn 0) (klen 0)) (f ((kby.getD 0 []).getD (nn 0).toNatClampNeg 0)) σ = _
  rw [e_gd q]
  rfl
theorem kAt_10 {ρ : Type} {f : Int32 → Hp → Option (ρ × Hp)} : kAt 1 (nn 0) f = f (nn 3) := by
  funext σ
  have q : inr (nn 0) (klen 1) := by decide
  show gd (inr (nn 0) (klen 1)) (f ((kby.getD 1 []).getD (nn 0).toNatClampNeg 0)) σ = _
  rw [e_gd q]
  rfl
theorem kAt_11 {ρ : Type} {f : Int32 → Hp → Option (ρ × Hp)} : kAt 1 (nn 1) f = f (nn 8) := by
  funext σ
  have q : inr (nn 1) (klen 1) := by decide
  show gd (inr (nn 1) (klen 1)) (f ((kby.getD 1 []).getD (nn 1).toNatClampNeg 0)) σ = _
  rw [e_gd q]
  rfl
theorem kAt_12 {ρ : Type} {f : Int32 → Hp → Option (ρ × Hp)} : kAt 1 (nn 2) f = f (nn 9) := by
  funext σ
  have q : inr (nn 2) (klen 1) := by decide
  show gd (inr (nn 2) (klen 1)) (f ((kby.getD 1 []).getD (nn 2).toNatClampNeg 0)) σ = _
  rw [e_gd q]
  rfl
theorem kLn_0 {ρ : Type} {f : Int32 → Hp → Option (ρ × Hp)} : kLn 0 f = f (nn 1) := rfl
theorem kLn_1 {ρ : Type} {f : Int32 → Hp → Option (ρ × Hp)} : kLn 1 f = f (nn 3) := rfl
theorem Stat.pra (T : Stat x h) : (hfr h (100 * 6 + 1) (x + 40) = some (x + 41) ∧ hkd h (x + 41) = 104 ∧ hln h (x + 41) = 40) ∧ (hfr h (100 * 6 + 2) (x + 40) = some (x + 42) ∧ hkd h (x + 42) = 101 ∧ hln h (x + 42) = 40) ∧ (hfr h (100 * 6 + 3) (x + 40) = some (x + 43) ∧ hkd h (x + 43) = 101 ∧ hln h (x + 43) = 40) ∧ (hfr h (100 * 6 + 4) (x + 40) = some (x + 44) ∧ hkd h (x + 44) = 101 ∧ hln h (x + 44) = 400) := by
  obtain ⟨_, b1, b2, b3, b4, b5, b6, b7, b8, b9, b10, b11, b12⟩ := T.2.2.2.2.1
  exact ⟨⟨b1, b5, b6⟩, ⟨b2, b7, b8⟩, ⟨b3, b9, b10⟩, ⟨b4, b11, b12⟩⟩
/-- a key's bytes: from, to -/
theorem Pp.ft (P : Pp x i bs M U h r) (hk : k ∈ K0) (h38 : k ≠ 38) (g : M.testBit k = true) (hbl : bs.length ≤ 405) : ∃ s e, hai h (x + 42) k = nn s ∧ hai h (x + 43) k = nn e ∧ s ≤ e ∧ e ≤ bs.length ∧ rwK x bs M h k = sl bs s (e - s) := by
  obtain ⟨s, e, a1, a2, a3, a4, a5, _⟩ := P.2.1 k hk h38 g
  refine ⟨s, e, a1, a2, by omega, a5, ?_⟩
  unfold rwK
  rw [if_pos g, a1, a2, iN_nn (by omega), iN_nn (by omega)]
theorem raw_s4 {f c : Nat} {ke : Int32 → Hp → Option ((Option Nat) × Hp)} (T : Stat x h) (P : Pp x i bs M U h r) (hbl : bs.length ≤ 405) (hk : k ∈ K0) (h38 : k ≠ 38)
    (hL : ∀ {f : Int32 → Hp → Option (Option Nat × Hp)}, kLn kid f = f (nn c)) (hA : ∀ {f : Int32 → Hp → Option (Option Nat × Hp)}, kAt kid (nn j) f = f (nn k)) (hj : j < c) (hc : c < 100) :
    C_X4_raw_L4 (x + 40) kid ke (f + 1) (nn a) (nn j) h = C_X4_raw_L4 (x + 40) kid ke f (nn (a + (rwK x bs M h k).length)) (nn (j + 1)) h := by
  show C_X4_raw_B4 (x + 40) kid _ ke (nn a) (nn j) h = _
  obtain ⟨_, ⟨p1, p2, p3⟩, ⟨p4, p5, p6⟩, _⟩ := T.pra
  have k40 := K0.lt hk
  unfold C_X4_raw_B4 C_X4_raw_J42 lq
  rw [hL, if_neg (by rw [nn_le (by omega) (by omega)]; omega), hA, e_Cv T.pr, e_bd (qc_phas T P.1.1 P.1.2.1 k40)]
  by_cases g : M.testBit k = true
  · obtain ⟨s, e, a1, a2, a3, a4, a5⟩ := P.ft hk h38 g hbl
    rw [if_pos g, if_neg (by decide), e_gR T.pr, p4, hA, e_Ai p5 (nn_inr (by omega) (by omega)), nn_N (by omega), a2, e_gR T.pr, p1, hA, e_Ai p2 (nn_inr (by omega) (by omega)), nn_N (by omega), a1, nn_sub a3, nn_add, l_1, nn_add, a5, sl_len (by omega)]
  · have : rwK x bs M h k = [] := by
      unfold rwK
      rw [if_neg g]
    rw [if_neg g, if_pos rfl, l_1, l_0, nn_add, nn_add, this]
    rfl
/-- the row that is being filled -/
def RwI (x : Nat) (h : Hp) (n : Nat) (ys : List Nat) (h1 : Hp) : Prop := Fm x [] (fun _ => False) h h1 ∧ hnx h1 = hnx h + 1 ∧ hkd h1 (hnx h) = 101 ∧ hln h1 (hnx h) = n ∧ Cg (hai h1 (hnx h)) 0 ys ∧ (hcs h1).1 = (hcs h).1 + 1 ∧ (hcs h1).2 = (hcs h).2 + n
theorem raw_s60 {f c : Nat} {ke : Option Nat → Hp → Option ((Option Nat) × Hp)} (T : Stat x h) (P : Pp x i bs M U h r) (hi : i < 8) (B : By bs) (hC : Cg (hai h (cA x i + 2)) 0 bs) (hbl : bs.length ≤ 405) (hk : k ∈ K0) (h38 : k ≠ 38)
    (hL : ∀ {f : Int32 → Hp → Option (Option Nat × Hp)}, kLn kid f = f (nn c)) (hA : ∀ {f : Int32 → Hp → Option (Option Nat × Hp)}, kAt kid (nn j) f = f (nn k)) (hj : j < c) (hc : c < 100) (I : RwI x h n ys h1) (hn : (ys ++ rwK x bs M h k).length ≤ n) (hn2 : n ≤ 1000) :
    ∃ h2, C_X4_raw_L60 (x + 40) kid ke (f + 1) (some (hnx h)) (nn ys.length) (nn j) h1 = C_X4_raw_L60 (x + 40) kid ke f (some (hnx h)) (nn (ys ++ rwK x bs M h k).length) (nn (j + 1)) h2 ∧ RwI x h n (ys ++ rwK x bs M h k) h2 := by
  obtain ⟨i1, i2, i3, i4, i5, i6, i7⟩ := I
  have T1 : Stat x h1 := T.sto i1.1
  have hx := T.1
  obtain ⟨_, ⟨p1, p2, p3⟩, ⟨p4, p5, p6⟩, _⟩ := T1.pra
  have k40 := K0.lt hk
  have g600 : hfl h1 600 (x + 40) = n6 M := by rw [i1.gl (by decide) (by omega)]; exact P.1.1
  have g606 : hfr h1 (100 * 6 + 6) (x + 40) = some (cA x i + 2) := by
    have : hfr h1 606 (x + 40) = hfr h 606 (x + 40) := i1.gr (by decide) (by omega)
    exact this.trans P.2.2.2.1
  have e42 : hai h1 (x + 42) = hai h (x + 42) := (i1.2.2 _ (by omega) (fun z => z)).1
  have e43 : hai h1 (x + 43) = hai h (x + 43) := (i1.2.2 _ (by omega) (fun z => z)).1
  have ec2 : hai h1 (cA x i + 2) = hai h (cA x i + 2) := (i1.2.2 _ (by have := T.cl hi; omega) (fun z => z)).1
  have kc2 := T1.2.2.2.2.2.2 i hi
  by_cases g : M.testBit k = true
  · obtain ⟨s, e, a1, a2, a3, a4, a5⟩ := P.ft hk h38 g hbl
    have hl := sl_len (bs := bs) (q := s) (n := e - s) (by omega)
    rw [a5, List.length_append, hl] at hn
    refine ⟨sai h1 (hnx h) (va_cpy (hai h1 (cA x i + 2)) (hai h1 (hnx h)) s ys.length (e - s)), ?_, i1.ai (Or.inr (Nat.le_refl _)) (fun z => by have := z.2.1; omega), i2, i3, i4, ?_, i6, i7⟩
    · show C_X4_raw_B60 (x + 40) kid _ ke _ _ _ h1 = _
      unfold C_X4_raw_B60 lq
      rw [hL, if_neg (by rw [nn_le (by omega) (by omega)]; omega), hA, e_Cv T1.pr, e_bd (qc_phas T1 g600 P.1.2.1 k40), if_pos g, if_neg (by decide), e_gR T1.pr, p4, hA, e_Ai p5 (nn_inr (by omega) (by omega)), nn_N (by omega), e43, a2, e_gR T1.pr, p1, hA, e_Ai p2 (nn_inr (by omega) (by omega)), nn_N (by omega), e42, a1]
      show hgR 6 6 (some (x + 40)) _ h1 = _
      rw [e_gR T1.pr, g606, e_gR T1.pr, p1, hA, e_Ai p2 (nn_inr (by omega) (by omega)), nn_N (by omega), e42, a1, nn_sub a3]
      rw [e_Cpn kc2.2.2.2.2.2.2.2.1 i3 (by rw [kc2.2.2.2.2.2.2.2.2.1]; omega) (by rw [i4]; omega) (by omega) (by omega) (by omega), nn_add, l_1, nn_add, a5, List.length_append, hl]
    · rw [a5, hai_sai, if_pos rfl]
      refine Cg.app (fun q hq => ?_) (fun q hq => ?_)
      · unfold va_cpy
        rw [if_neg (by omega)]
        exact i5 q hq
      · rw [hl] at hq
        unfold va_cpy
        rw [if_pos (by omega), show s + (0 + ys.length + q - ys.length) = s + q by omega, ec2, sl_at hq (by omega)]
        have := hC (s + q) (by omega)
        rw [Nat.zero_add] at this
        exact this
  · have e0 : rwK x bs M h k = [] := by
      unfold rwK
      rw [if_neg g]
    rw [e0, List.append_nil]
    refine ⟨h1, ?_, i1, i2, i3, i4, i5, i6, i7⟩
    show C_X4_raw_B60 (x + 40) kid _ ke _ _ _ h1 = _
    unfold C_X4_raw_B60
    rw [hL, if_neg (by rw [nn_le (by omega) (by omega)]; omega), hA, e_Cv T1.pr, e_bd (qc_phas T1 g600 P.1.2.1 k40), if_neg g, if_pos rfl, l_1, nn_add]
/-- a new row of the class: nothing that was there changes -/
def RwN (x : Nat) (h : Hp) (c e : Nat) (h' : Hp) : Prop := Fm x [] (fun _ => False) h h' ∧ hnx h' = hnx h + c ∧ (hcs h').1 = (hcs h).1 + c ∧ (hcs h').2 = (hcs h).2 + e
theorem raw_end {l0 l1 : Nat} (I : RwI x h ys.length ys h1) (B : By ys) (hx : x + 130 ≤ hnx h) (hp : hkd h (hnx h - 1) ≠ 108) : ∃ h', C_X4_raw_J133 l0 l1 (some (hnx h)) h1 = some (some (hnx h + 1), h') ∧ RwN x h 2 (ys.length + 1) h' ∧ Rw x h' (hnx h + 1) ys ∧ hkd h' (hnx h + 1) = 10 := by
  obtain ⟨i1, i2, i3, i4, i5, i6, i7⟩ := I
  have hpk : hkd h1 (hnx h - 1) ≠ 108 := by
    rw [(i1.1.2.1 _ (by omega)).1]
    exact hp
  refine ⟨sfr (hob h1 9 1) 900 (hnx h + 1) (some (hnx h)), ?_, ⟨i1.ob.fr (Or.inr (by omega)) (Or.inr (by omega)), ?_, ?_, ?_⟩, ⟨?_, ?_, B, hnx h, ?_, ?_, ?_, ?_, ?_, Or.inr ⟨hx, ?_, ?_, ?_⟩⟩, ?_⟩
  · unfold C_X4_raw_J133
    have hkk : hkd (hob h1 9 1) (hnx h + 1) = 9 + 1 := by
      rw [hkd_hob, i2, if_pos rfl]
    have : C_X7_init (hnx h + 1) (some (hnx h)) (hob h1 9 1) = some ((), sfr (hob h1 9 1) 900 (hnx h + 1) (some (hnx h))) := by
      unfold C_X7_init
      show hpR 9 0 (some (hnx h + 1)) (some (hnx h)) (rt ()) (hob h1 9 1) = _
      rw [e_pR hkk]
      rfl
    show bd (C_X7_init (hnx h1) (some (hnx h))) (fun _ => rt (some (hnx h1))) (hob h1 9 1) = _
    rw [i2, e_bd this]
    rfl
  · rw [hnx_sfr, hnx_hob, i2]
  · rw [hcs_sfr, hc1_hob, i6]
  · rw [hcs_sfr, hc2_hob, i7]; omega
  · rw [hkd_sfr, hkd_hob, i2, if_pos rfl]
  · rw [hnx_sfr, hnx_hob, i2]; omega
  · rw [hfr_sfr, if_pos ⟨rfl, rfl⟩]
  · rw [hnx_sfr, hnx_hob, i2]; omega
  · rw [hkd_sfr, hkd_hob, i2, if_neg (by omega)]; exact i3
  · rw [hln_sfr, hln_hob]; exact i4
  · rw [hai_sfr, hai_hob]; exact i5
  · rw [hnx_sfr, hnx_hob, i2]; omega
  · rw [hkd_sfr, hkd_hob, i2, if_neg (by omega)]; exact i3
  · rw [hkd_sfr, hkd_hob, i2, if_neg (by omega)]; exact hpk
  · rw [hkd_sfr, hkd_hob, i2, if_pos rfl]
theorem RwI.new (hx : x + 130 ≤ hnx h) : RwI x h n [] (hay h 0 n) := by
  refine ⟨Fm.rf.ay (by omega), hnx_hay .., ?_, ?_, Cg.nil, ?_, ?_⟩
  · rw [hkd_hay, if_pos rfl]
  · rw [hln_hay, if_pos rfl]
  · rw [hc1_hay]
  · rw [hc2_hay]
theorem raw_e4 {f c : Nat} {ke : Int32 → Hp → Option ((Option Nat) × Hp)} {v : Int32} (hL : ∀ {f : Int32 → Hp → Option (Option Nat × Hp)}, kLn kid f = f (nn c)) : C_X4_raw_L4 (x + 40) kid ke (f + 1) v (nn c) h = ke v h := by
  show C_X4_raw_B4 (x + 40) kid _ ke v (nn c) h = _
  unfold C_X4_raw_B4
  rw [hL, if_pos (Int32.le_refl _)]
theorem raw_e60 {f c : Nat} {ke : Option Nat → Hp → Option ((Option Nat) × Hp)} {l3 : Option Nat} {v : Int32} (hL : ∀ {f : Int32 → Hp → Option (Option Nat × Hp)}, kLn kid f = f (nn c)) : C_X4_raw_L60 (x + 40) kid ke (f + 1) l3 v (nn c) h = ke l3 h := by
  show C_X4_raw_B60 (x + 40) kid _ ke l3 v (nn c) h = _
  unfold C_X4_raw_B60
  rw [hL, if_pos (Int32.le_refl _)]
theorem rwK.le (hbl : bs.length ≤ 405) : (rwK x bs M h k).length ≤ 405 := by
  unfold rwK
  split
  · unfold sl
    rw [List.length_take, List.length_drop]
    omega
  · exact Nat.zero_le _
theorem rwK.by (B : By bs) : By (rwK x bs M h k) := by
  unfold rwK
  split
  · exact sl_by B
  · exact By.nil
theorem qc_raw0 (T : Stat x h) (P : Pp x i bs M U h r) (hi : i < 8) (B : By bs) (hC : Cg (hai h (cA x i + 2)) 0 bs) (hbl : bs.length ≤ 405) (hp : hkd h (hnx h - 1) ≠ 108) : ∃ h', C_X4_raw (x + 40) 0 h = some (some (hnx h + 1), h') ∧ RwN x h 2 ((rwK x bs M h 1).length + 1) h' ∧ Rw x h' (hnx h + 1) (rwK x bs M h 1) ∧ hkd h' (hnx h + 1) = 10 := by
  have l1 : (rwK x bs M h 1).length ≤ 405 := rwK.le hbl
  obtain ⟨h2, e2, I2⟩ := raw_s60 (j := 0) (k := 1) (kid := 0) (c := 1) (f := 4999) (ys := []) (ke := fun l3 => C_X4_raw_J133 (x + 40) 0 l3) T P hi B hC hbl (by decide) (by decide) kLn_0 kAt_00 (by omega) (by omega) (RwI.new (n := (rwK x bs M h 1).length) T.1) (by rw [List.nil_append]; exact Nat.le_refl _) (by omega)
  rw [List.nil_append] at e2 I2
  obtain ⟨h', e3, q⟩ := raw_end (l0 := x + 40) (l1 := 0) I2 (rwK.by B) T.1 hp
  refine ⟨h', ?_, q⟩
  have e4 : C_X4_raw (x + 40) 0 h = C_X4_raw_J50 (x + 40) 0 (nn (0 + (rwK x bs M h 1).length)) h := by
    show C_X4_raw_L4 (x + 40) 0 (fun l2 => C_X4_raw_J50 (x + 40) 0 l2) (4998 + 1 + 1) (nn 0) (nn 0) h = _
    rw [raw_s4 (k := 1) (c := 1) T P hbl (by decide) (by decide) kLn_0 kAt_00 (by omega) (by omega), raw_e4 (c := 1) kLn_0]
  rw [e4, Nat.zero_add]
  unfold C_X4_raw_J50
  rw [e_Na ⟨nn_ge (by omega), by rw [nn_N (by omega)]; omega⟩, nn_N (by omega)]
  show C_X4_raw_L60 (x + 40) 0 _ (4999 + 1) (some (hnx h)) (nn ([] : List Nat).length) (nn 0) (hay h 0 (rwK x bs M h 1).length) = _
  rw [e2, raw_e60 (f := 4998) (c := 1) kLn_0]
  exact e3
theorem qc_raw1 (T : Stat x h) (P : Pp x i bs M U h r) (hi : i < 8) (B : By bs) (hC : Cg (hai h (cA x i + 2)) 0 bs) (hbl : bs.length ≤ 405) (hp : hkd h (hnx h - 1) ≠ 108) (hs : (rwK x bs M h 3).length + (rwK x bs M h 8).length + (rwK x bs M h 9).length ≤ 400) : ∃ h', C_X4_raw (x + 40) 1 h = some (some (hnx h + 1), h') ∧ RwN x h 2 ((rwK x bs M h 3 ++ (rwK x bs M h 8 ++ rwK x bs M h 9)).length + 1) h' ∧ Rw x h' (hnx h + 1) (rwK x bs M h 3 ++ (rwK x bs M h 8 ++ rwK x bs M h 9)) ∧ hkd h' (hnx h + 1) = 10 := by
  obtain ⟨n, hn⟩ : ∃ n, n = (rwK x bs M h 3).length + (rwK x bs M h 8).length + (rwK x bs M h 9).length := ⟨_, rfl⟩
  obtain ⟨h2, e2, I2⟩ := raw_s60 (j := 0) (k := 3) (kid := 1) (c := 3) (f := 4999) (ys := []) (ke := fun l3 => C_X4_raw_J133 (x + 40) 1 l3) T P hi B hC hbl (by decide) (by decide) kLn_1 kAt_10 (by omega) (by omega) (RwI.new (n := n) T.1) (by rw [List.nil_append]; omega) (by omega)
  rw [List.nil_append] at e2 I2
  obtain ⟨h3, e3, I3⟩ := raw_s60 (j := 1) (k := 8) (kid := 1) (c := 3) (f := 4998) (ke := fun l3 => C_X4_raw_J133 (x + 40) 1 l3) T P hi B hC hbl (by decide) (by decide) kLn_1 kAt_11 (by omega) (by omega) I2 (by rw [List.length_append]; omega) (by omega)
  obtain ⟨h4, e4, I4⟩ := raw_s60 (j := 2) (k := 9) (kid := 1) (c := 3) (f := 4997) (ke := fun l3 => C_X4_raw_J133 (x + 40) 1 l3) T P hi B hC hbl (by decide) (by decide) kLn_1 kAt_12 (by omega) (by omega) I3 (by rw [List.length_append, List.length_append]; omega) (by omega)
  rw [List.append_assoc] at e4 I4
  have hln : (rwK x bs M h 3 ++ (rwK x bs M h 8 ++ rwK x bs M h 9)).length = n := by
    rw [List.length_append, List.length_append]
    omega
  obtain ⟨h', e5, q⟩ := raw_end (l0 := x + 40) (l1 := 1) (ys := rwK x bs M h 3 ++ (rwK x bs M h 8 ++ rwK x bs M h 9)) (by rw [hln]; exact I4) ((rwK.by B).app ((rwK.by B).app (rwK.by B))) T.1 hp
  refine ⟨h', ?_, q⟩
  have e6 : C_X4_raw (x + 40) 1 h = C_X4_raw_J50 (x + 40) 1 (nn (0 + (rwK x bs M h 3).length + (rwK x bs M h 8).length + (rwK x bs M h 9).length)) h := by
    show C_X4_raw_L4 (x + 40) 1 (fun l2 => C_X4_raw_J50 (x + 40) 1 l2) (4996 + 1 + 1 + 1 + 1) (nn 0) (nn 0) h = _
    rw [raw_s4 (k := 3) (c := 3) T P hbl (by decide) (by decide) kLn_1 kAt_10 (by omega) (by omega), raw_s4 (k := 8) (c := 3) T P hbl (by decide) (by decide) kLn_1 kAt_11 (by omega) (by omega), raw_s4 (k := 9) (c := 3) T P hbl (by decide) (by decide) kLn_1 kAt_12 (by omega) (by omega), raw_e4 (c := 3) kLn_1]
  rw [e6, show 0 + (rwK x bs M h 3).length + (rwK x bs M h 8).length + (rwK x bs M h 9).length = n by omega]
  unfold C_X4_raw_J50
  rw [e_Na ⟨nn_ge (by omega), by rw [nn_N (by omega)]; omega⟩, nn_N (by omega)]
  show C_X4_raw_L60 (x + 40) 1 _ (4999 + 1) (some (hnx h)) (nn ([] : List Nat).length) (nn 0) (hay h 0 n) = _
  rw [e2]
  show C_X4_raw_L60 (x + 40) 1 _ (4998 + 1) (some (hnx h)) (nn (rwK x bs M h 3).length) (nn 1) h2 = _
  rw [e3]
  show C_X4_raw_L60 (x + 40) 1 _ (4997 + 1) (some (hnx h)) (nn (rwK x bs M h 3 ++ rwK x bs M h 8).length) (nn 2) h3 = _
  rw [e4]
  show C_X4_raw_L60 (x + 40) 1 _ (4996 + 1) _ _ (nn 3) h4 = _
  rw [raw_e60 (c := 3) kLn_1]
  exact e5
end RAW
