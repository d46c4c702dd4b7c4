/-! ===== a new session ===== -/
section NSE
variable {x ec es ew s b i sf a nb : Nat} {e0 : Int32} {h h' h1 : Hp} {r r' rN : RS} {l6 lw dw : Int64} {l8 lk : Int32} {ys : List Nat}
/-- what the class's new session is -/
def nsP (x sf a : Nat) (h h1 : Hp) : Prop := hnx h1 = hnx h + 5 ∧ Fm x [] (fun q => q = x + 34) h h1 ∧ Hx x (hnx h) 8 h h1 ∧ (∀ s', s' ≠ sf → har h1 (x + 34) s' = har h (x + 34) s') ∧ har h1 (x + 34) sf = some (hnx h) ∧ SesT x h1 sf (hnx h) ∧ hfr h1 1001 (hnx h) = some a ∧ hfr h1 1002 (hnx h) = none ∧ (hfi h1 1004 (hnx h) = 0 ∧ hfi h1 1006 (hnx h) = 0 ∧ hfi h1 1008 (hnx h) = 0 ∧ hfi h1 1010 (hnx h) = 0) ∧ (hcs h1).1 = (hcs h).1 + 5 ∧ (hcs h1).2 = (hcs h).2 + 74
def n0 (h : Hp) : Hp := hob h 10 18
def n1 (h : Hp) : Hp := sfr (hay (n0 h) 6 8) 1003 (hnx h) (some (hnx h + 1))
def n2 (h : Hp) : Hp := sfr (hay (n1 h) 7 16) 1005 (hnx h) (some (hnx h + 2))
def n3 (h : Hp) : Hp := sfr (hay (n2 h) 7 24) 1007 (hnx h) (some (hnx h + 3))
def n4 (h : Hp) : Hp := sfr (hay (n3 h) 0 8) 1009 (hnx h) (some (hnx h + 4))
def n5 (h : Hp) (sf a : Nat) : Hp := sfr (sfi (n4 h) 1000 (hnx h) (nn sf)) 1001 (hnx h) (some a)
def nsH (x : Nat) (h : Hp) (sf a : Nat) : Hp := sar (n5 h sf a) (x + 34) (va_up (har h (x + 34)) sf (some (hnx h)))
theorem n_nx : hnx (n0 h) = hnx h + 1 ∧ hnx (n1 h) = hnx h + 2 ∧ hnx (n2 h) = hnx h + 3 ∧ hnx (n3 h) = hnx h + 4 ∧ hnx (n4 h) = hnx h + 5 := ⟨rfl, rfl, rfl, rfl, rfl⟩
theorem n_kd {q : Nat} : hkd (n4 h) q = if q = hnx h + 4 then 101 else if q = hnx h + 3 then 108 else if q = hnx h + 2 then 108 else if q = hnx h + 1 then 107 else if q = hnx h then 11 else hkd h q := rfl
theorem n_ln {q : Nat} : hln (n4 h) q = if q = hnx h + 4 then 8 else if q = hnx h + 3 then 24 else if q = hnx h + 2 then 16 else if q = hnx h + 1 then 8 else hln h q := rfl
theorem n_fi {f q : Nat} : hfi (n4 h) f q = if q = hnx h then 0 else hfi h f q := rfl
theorem n_fr {f q : Nat} : hfr (n4 h) f q = if f = 1009 ∧ q = hnx h then some (hnx h + 4) else if f = 1007 ∧ q = hnx h then some (hnx h + 3) else if f = 1005 ∧ q = hnx h then some (hnx h + 2) else if f = 1003 ∧ q = hnx h then some (hnx h + 1) else if q = hnx h then none else hfr h f q := rfl
theorem n_hx (hx : x + 130 ≤ hnx h) : Hx x (hnx h) 8 h (nsH x h sf a) ∧ Fm x [] (fun q => q = x + 34) h (nsH x h sf a) := by
  have a0 : Fm x [] (fun q => q = x + 34) h (n0 h) := Fm.rf.ob
  have a1 : Fm x [] (fun q => q = x + 34) h (n1 h) := (a0.ay (by omega)).fr (Or.inr (Nat.le_refl _)) (Or.inr (Nat.le_refl _))
  have a2 : Fm x [] (fun q => q = x + 34) h (n2 h) := (a1.ay (by omega)).fr (Or.inr (Nat.le_refl _)) (Or.inr (Nat.le_refl _))
  have a3 : Fm x [] (fun q => q = x + 34) h (n3 h) := (a2.ay (by omega)).fr (Or.inr (Nat.le_refl _)) (Or.inr (Nat.le_refl _))
  have a4 : Fm x [] (fun q => q = x + 34) h (n4 h) := (a3.ay (by omega)).fr (Or.inr (Nat.le_refl _)) (Or.inr (Nat.le_refl _))
  have a5 : Fm x [] (fun q => q = x + 34) h (n5 h sf a) := (a4.fi (Or.inr (Nat.le_refl _)) (Or.inr (Nat.le_refl _))).fr (Or.inr (Nat.le_refl _)) (Or.inr (Nat.le_refl _))
  have a6 : Fm x [] (fun q => q = x + 34) h (nsH x h sf a) := a5.ar (Or.inl rfl) (by omega)
  refine ⟨⟨a6.1, fun f q hq _ => ?_, fun q hq hA => ?_⟩, a6⟩
  · exact a6.2.1 f (by exact List.not_mem_nil) q hq
  · exact a6.2.2 q hq (fun z => hA (Or.inr (Or.inr z)))
theorem qc_make (R : Rel x ec es ew e0 h r) (hs : sf < 12) (h0 : r.2.1 11 sf = 0) (hlt : ∀ s', s' < sf → r.2.1 11 s' = 1) : C_X11_makeSession x (some a) h = some (some (hnx h), nsH x h sf a) ∧ nsP x sf a h (nsH x h sf a) := by
  have T := R.st
  have hx := T.1
  have kx := T.2.1.1
  have k1 : hfr h (100 * 13 + 1) x = some (x + 34) := T.2.1.2.2.1
  obtain ⟨_, _, a3, a4, _⟩ := T.2.2.1
  have hnone : har h (x + 34) sf = none := by
    rcases R.2.2.2.2.1 sf hs with ⟨_, z⟩ | ⟨z, _⟩
    · exact z
    · rw [h0] at z
      exact absurd z (by decide)
  obtain ⟨b, eb⟩ : ∃ z, z = hnx h := ⟨_, rfl⟩
  have kd5 : ∀ q, hkd (n5 h sf a) q = hkd (n4 h) q := fun q => rfl
  have kb : hkd (n4 h) b = 11 := by rw [n_kd, if_neg (by omega), if_neg (by omega), if_neg (by omega), if_neg (by omega), if_pos eb]
  have init : C_X8_init b (nn sf) (some a) (n0 h) = some ((), n5 h sf a) := by
    have q0 : hkd (n0 h) b = 10 + 1 := by
      show (if b = hnx h then 11 else _) = _
      rw [if_pos eb]
    have q1 : hkd (hay (n0 h) 6 8) b = 10 + 1 := by
      show (if b = hnx h + 1 then 107 else _) = _
      rw [if_neg (by omega)]
      exact q0
    have q2 : hkd (hay (n1 h) 7 16) b = 10 + 1 := by
      show (if b = hnx h + 2 then 108 else _) = _
      rw [if_neg (by omega)]
      exact q1
    have q3 : hkd (hay (n2 h) 7 24) b = 10 + 1 := by
      show (if b = hnx h + 3 then 108 else _) = _
      rw [if_neg (by omega)]
      exact q2
    have q4 : hkd (hay (n3 h) 0 8) b = 10 + 1 := by
      show (if b = hnx h + 4 then 101 else _) = _
      rw [if_neg (by omega)]
      exact q3
    have oi : ∀ P : Hp → Option (Unit × Hp), hOi (some b) P (n0 h) = P (n0 h) := fun P => rfl
    have m1 : sfr (hay (n0 h) 6 (8 : Int32).toNatClampNeg) (100 * 10 + 3) b (some (hnx (n0 h))) = n1 h := by rw [eb]; rfl
    have m2 : sfr (hay (n1 h) 7 (16 : Int32).toNatClampNeg) (100 * 10 + 5) b (some (hnx (n1 h))) = n2 h := by rw [eb]; rfl
    have m3 : sfr (hay (n2 h) 7 (24 : Int32).toNatClampNeg) (100 * 10 + 7) b (some (hnx (n2 h))) = n3 h := by rw [eb]; rfl
    have m4 : sfr (hay (n3 h) 0 (8 : Int32).toNatClampNeg) (100 * 10 + 9) b (some (hnx (n3 h))) = n4 h := by rw [eb]; rfl
    have m5 : sfr (sfi (n4 h) (100 * 10 + 0) b (nn sf)) (100 * 10 + 1) b (some a) = n5 h sf a := by rw [eb]; rfl
    unfold C_X8_init
    rw [oi, e_Na (by decide), e_pR (c := 10) (by exact q1), m1, e_Na (by decide), e_pR (c := 10) (by exact q2), m2, e_Na (by decide), e_pR (c := 10) (by exact q3), m3, e_Na (by decide), e_pR (c := 10) (by exact q4), m4, e_pI (c := 10) kb, e_pR (c := 10) (by exact kb), m5]
    rfl
  have fx : ∀ q, q < hnx h → hkd (n5 h sf a) q = hkd h q ∧ hln (n5 h sf a) q = hln h q ∧ har (n5 h sf a) q = har h q := fun q hq => by
    refine ⟨?_, ?_, ?_⟩
    · rw [kd5, n_kd, if_neg (by omega), if_neg (by omega), if_neg (by omega), if_neg (by omega), if_neg (by omega)]
    · show hln (n4 h) q = _
      rw [n_ln, if_neg (by omega), if_neg (by omega), if_neg (by omega), if_neg (by omega)]
    · show (if q = hnx h + 4 then (fun _ => none) else if q = hnx h + 3 then (fun _ => none) else if q = hnx h + 2 then (fun _ => none) else if q = hnx h + 1 then (fun _ => none) else har h q) = _
      rw [if_neg (by omega), if_neg (by omega), if_neg (by omega), if_neg (by omega)]
  have j17 : C_X11_makeSession_J17 x (some a) (nn sf) h = some (some (hnx h), nsH x h sf a) := by
    obtain ⟨f1, f2, f3⟩ := fx (x + 34) (by omega)
    obtain ⟨g1, _, _⟩ := fx x (by omega)
    have kb5 : okr (n5 h sf a) 10 (some (hnx h)) = true := by
      show (hkd (n5 h sf a) (hnx h) == 11) = true
      rw [kd5, ← eb, kb]
      rfl
    unfold C_X11_makeSession_J17
    rw [e_gR (c := 13) kx, k1, e_Nw, e_Ci]
    show bd (C_X8_init (hnx h) (nn sf) (some a)) _ (n0 h) = _
    rw [eb] at init
    rw [e_bd init, e_Wr (t := 5) (c := 10) (by rw [f1]; exact a3) (nn_inr (by rw [f2, a4]; omega) (by omega)) kb5, nn_N (by omega), f3]
    show (hgR 13 1 (some x) _) (nsH x h sf a) = _
    rw [e_gR (c := 13) (by show hkd (n5 h sf a) x = _; rw [g1]; exact kx)]
    have e13 : hfr (nsH x h sf a) (100 * 13 + 1) x = some (x + 34) := by
      rw [(n_hx (sf := sf) (a := a) hx).2.gr (by exact List.not_mem_nil) (by omega)]
      exact k1
    rw [e13, e_Ar (t := 5) (by show hkd (n5 h sf a) (x + 34) = _; rw [f1]; exact a3) (nn_inr (by show sf < hln (n5 h sf a) (x + 34); rw [f2, a4]; omega) (by omega)), nn_N (by omega)]
    show some (har (sar (n5 h sf a) (x + 34) (va_up (har h (x + 34)) sf (some (hnx h)))) (x + 34) sf, _) = _
    rw [har_sar, if_pos rfl]
    show some ((if sf = sf then some (hnx h) else _), _) = _
    rw [if_pos rfl]
  have lp : ∀ (c q f : Nat), q + c = sf → c < f → C_X11_makeSession_L2 x (fun l1 l2 => C_X11_makeSession_J17 x l1 l2) (C_X11_makeSession_J45 x) f (some a) (nn q) h = C_X11_makeSession_J17 x (some a) (nn sf) h := by
    intro c
    induction c with
    | zero =>
      intro q f hq hf
      obtain ⟨f', rfl⟩ : ∃ z, f = z + 1 := ⟨f - 1, by omega⟩
      have : q = sf := by omega
      subst this
      show C_X11_makeSession_B2 x _ _ _ (some a) (nn q) h = _
      unfold C_X11_makeSession_B2
      rw [if_neg (by rw [show (12 : Int32) = nn 12 from rfl, nn_le (by omega) (by omega)]; omega), e_gR (c := 13) kx, k1, e_Ar (t := 5) a3 (nn_inr (by omega) (by omega)), nn_N (by omega), hnone, if_pos rfl]
    | succ c ih =>
      intro q f hq hf
      obtain ⟨f', rfl⟩ : ∃ z, f = z + 1 := ⟨f - 1, by omega⟩
      rw [← ih (q + 1) f' (by omega) (by omega)]
      show C_X11_makeSession_B2 x _ _ _ (some a) (nn q) h = _
      unfold C_X11_makeSession_B2
      rw [if_neg (by rw [show (12 : Int32) = nn 12 from rfl, nn_le (by omega) (by omega)]; omega), e_gR (c := 13) kx, k1, e_Ar (t := 5) a3 (nn_inr (by omega) (by omega)), nn_N (by omega)]
      rcases R.2.2.2.2.1 q (by omega) with ⟨z1, _⟩ | ⟨_, b', z2, _⟩
      · rw [hlt q (by omega)] at z1
        exact absurd z1 (by decide)
      · rw [z2, if_neg (by simp), show nn q + 1 = nn (q + 1) from nn_add]
  refine ⟨(lp sf 0 fu (by omega) (by unfold fu; omega)).trans j17, rfl, (n_hx hx).2, (n_hx hx).1, fun s' g => ?_, ?_, ⟨?_, by omega, by show hnx h + 4 < hnx h + 5; omega, ?_, ⟨?_, ?_, ?_⟩, ⟨?_, ?_, ?_⟩, ⟨?_, ?_, ?_⟩, ⟨?_, ?_, ?_⟩⟩, ?_, ?_, ⟨?_, ?_, ?_, ?_⟩, rfl, rfl⟩
  · unfold nsH
    rw [har_sar, if_pos rfl]
    show (if s' = sf then _ else _) = _
    rw [if_neg g]
  · unfold nsH
    rw [har_sar, if_pos rfl]
    show (if sf = sf then _ else _) = _
    rw [if_pos rfl]
  · rw [← eb]; exact kb
  · show (if 1000 = 1000 ∧ hnx h = hnx h then nn sf else _) = _
    rw [if_pos ⟨rfl, rfl⟩]
  · show (if 1003 = 1001 ∧ hnx h = hnx h then some a else hfr (n4 h) 1003 (hnx h)) = _
    rw [if_neg (by omega), n_fr, if_neg (by omega), if_neg (by omega), if_neg (by omega), if_pos ⟨rfl, rfl⟩]
  · show hkd (n4 h) (hnx h + 1) = _
    rw [n_kd, if_neg (by omega), if_neg (by omega), if_neg (by omega), if_pos rfl]
  · show hln (n4 h) (hnx h + 1) = _
    rw [n_ln, if_neg (by omega), if_neg (by omega), if_neg (by omega), if_pos rfl]
  · show (if 1005 = 1001 ∧ hnx h = hnx h then some a else hfr (n4 h) 1005 (hnx h)) = _
    rw [if_neg (by omega), n_fr, if_neg (by omega), if_neg (by omega), if_pos ⟨rfl, rfl⟩]
  · show hkd (n4 h) (hnx h + 2) = _
    rw [n_kd, if_neg (by omega), if_neg (by omega), if_pos rfl]
  · show hln (n4 h) (hnx h + 2) = _
    rw [n_ln, if_neg (by omega), if_neg (by omega), if_pos rfl]
  · show (if 1007 = 1001 ∧ hnx h = hnx h then some a else hfr (n4 h) 1007 (hnx h)) = _
    rw [if_neg (by omega), n_fr, if_neg (by omega), if_pos ⟨rfl, rfl⟩]
  · show hkd (n4 h) (hnx h + 3) = _
    rw [n_kd, if_neg (by omega), if_pos rfl]
  · show hln (n4 h) (hnx h + 3) = _
    rw [n_ln, if_neg (by omega), if_pos rfl]
  · show (if 1009 = 1001 ∧ hnx h = hnx h then some a else hfr (n4 h) 1009 (hnx h)) = _
    rw [if_neg (by omega), n_fr, if_pos ⟨rfl, rfl⟩]
  · show hkd (n4 h) (hnx h + 4) = _
    rw [n_kd, if_pos rfl]
  · show hln (n4 h) (hnx h + 4) = _
    rw [n_ln, if_pos rfl]
  · show (if 1001 = 1001 ∧ hnx h = hnx h then some a else _) = _
    rw [if_pos ⟨rfl, rfl⟩]
  · show (if 1002 = 1001 ∧ hnx h = hnx h then some a else hfr (n4 h) 1002 (hnx h)) = _
    rw [if_neg (by omega), n_fr, if_neg (by omega), if_neg (by omega), if_neg (by omega), if_neg (by omega), if_pos rfl]
  · show (if 1004 = 1000 ∧ hnx h = hnx h then nn sf else hfi (n4 h) 1004 (hnx h)) = _
    rw [if_neg (by omega), n_fi, if_pos rfl]
  · show (if 1006 = 1000 ∧ hnx h = hnx h then nn sf else hfi (n4 h) 1006 (hnx h)) = _
    rw [if_neg (by omega), n_fi, if_pos rfl]
  · show (if 1008 = 1000 ∧ hnx h = hnx h then nn sf else hfi (n4 h) 1008 (hnx h)) = _
    rw [if_neg (by omega), n_fi, if_pos rfl]
  · show (if 1010 = 1000 ∧ hnx h = hnx h then nn sf else hfi (n4 h) 1010 (hnx h)) = _
    rw [if_neg (by omega), n_fi, if_pos rfl]
end NSE
