/-! ===== a packet has come whole ===== -/
section OBY
variable {x i p n s b f ec es ew len b0 : Nat} {e0 : Int32} {h h0 : Hp} {r r0 : RS} {bs : List Nat}
variable {kb : Int64 → Int64 → Int32 → Option Nat → Int32 → Int32 → Hp → Option ((Nat ⊕ Int32) × Hp)} {ke : Int32 → Hp → Option ((Nat ⊕ Int32) × Hp)} {l2 l4 : Int64} {l6 l8 l9 : Int32} {Φ : Nat ⊕ Int32 → Hp → Int32 → RS → Prop}
def obA (x i : Nat) (h : Hp) : Hp := sfi (sfi h 1310 x (hfi h 1310 x + 1)) 212 (cA x i) (hfi h 1309 x)
def obH (x i p n : Nat) (h : Hp) : Hp := sfi (sfi (sfi (sfr (obA x i h) 701 (x + 37) (some (cA x i + 2))) 702 (x + 37) (nn p)) 703 (x + 37) (nn n)) 704 (x + 37) 0
def obB (i : Nat) (r : RS) : RS := sA (sI r 67 (r.1 67 + 1)) 8 i (r.1 66)
def obM (i p n : Nat) (r : RS) : RS := sI (sI (sI (sI (sI (obB i r) 75 (nn i)) 76 (nn (410 * i + p))) 77 (nn (410 * i + n))) 78 (nn (410 * i + n))) 79 0
theorem obA.fm : Fm x [1310, 212] (fun _ => False) h (obA x i h) := Fm.fi (Fm.fi Fm.rf (Or.inl (by decide)) (Or.inl (by decide))) (Or.inl (by decide)) (Or.inl (by decide))
theorem obB.ro : Ro [67, 8] r (obB i r) := (Ro.rf.i (by decide)).a (by decide)
theorem Rel.ob1 (R : Rel x i 12 96 e0 h r) (hi : i < 8) : Rel x i 12 96 e0 (obA x i h) (obB i r) := by
  have T := R.st
  have hx := T.1
  have hcl := T.cl hi
  have cdef : cA x i = x + 2 + 4 * i := rfl
  have p : Fm x [1310, 212] (fun _ => False) h (obA x i h) := obA.fm
  have w : Ro [67, 8] r (obB i r) := obB.ro
  have wx : Ho 12 i r (obB i r) := Ho.a (Ho.ii Ho.rf (by omega) (by omega)) (Or.inl ⟨by omega, by omega, rfl⟩)
  have px : Hx x (hnx h) i h (obA x i h) := Hx.fi (Hx.fi Hx.rf (Or.inl (Or.inr (Or.inr (Or.inr (Or.inr ⟨rfl, by omega⟩))))) (Or.inl (by decide))) (Or.inl (Or.inr (Or.inl ⟨hi, rfl⟩))) (Or.inl (by decide))
  obtain ⟨c1, c2, c3, _⟩ := R.2.2.2.1 i hi
  have G := R.2.1
  obtain ⟨t, t1, t2⟩ := G.1
  have e67 : (obB i r).1 67 = r.1 67 + 1 := by
    show (sI r 67 (r.1 67 + 1)).1 67 = _
    rw [sI_1, if_pos rfl]
  have e1310 : hfi (obA x i h) 1310 x = hfi h 1310 x + 1 := by
    unfold obA
    rw [hfi_sfi, if_neg (by omega), hfi_sfi, if_pos ⟨rfl, rfl⟩]
  have oth : ∀ f, f ≠ 1310 → f ≠ 212 → hfi (obA x i h) f x = hfi h f x := fun f f1 f2 => p.gi (by simp only [List.mem_cons, List.not_mem_nil, or_false]; omega) (by omega)
  have othm : ∀ k, k ≠ 67 → k ≠ 8 → (obB i r).1 k = r.1 k := fun k f1 f2 => w.gI (by simp only [List.mem_cons, List.not_mem_nil, or_false]; omega)
  have G' : Glo x (obA x i h) (obB i r) e0 := by
    obtain ⟨g1, g2, g3, g4, g5, g6, g7, g8⟩ := G
    refine ⟨?_, ?_, ?_, ?_, ?_, ?_, ?_, ?_⟩
    · rw [othm 66 (by omega) (by omega)]; exact g1
    · rw [oth 1309 (by omega) (by omega), othm 66 (by omega) (by omega)]; exact g2
    · rw [e1310, e67, g3]
    · rw [oth 1311 (by omega) (by omega), othm 69 (by omega) (by omega)]; exact g4
    · rw [oth 1312 (by omega) (by omega), othm 70 (by omega) (by omega)]; exact g5
    · rw [oth 1314 (by omega) (by omega), othm 72 (by omega) (by omega)]; exact g6
    · rw [oth 1315 (by omega) (by omega), othm 71 (by omega) (by omega)]; exact g7
    · rw [oth 1313 (by omega) (by omega), othm 74 (by omega) (by omega)]; exact g8
  have cA' : CoA x (obA x i h) (obB i r) i := by
    obtain ⟨a1, a2, a3, a4⟩ := c1
    refine ⟨?_, ?_, ⟨?_, t, ?_, ?_⟩, ?_⟩
    · rw [p.gi (by decide) (by omega), w.gA (by decide)]; exact a1
    · rw [p.gi (by decide) (by omega), w.gA (by decide), w.gA (by decide)]; exact a2
    · show hfi (sfi (sfi h 1310 x (hfi h 1310 x + 1)) 212 (cA x i) (hfi h 1309 x)) 212 (cA x i) = (sA (sI r 67 (r.1 67 + 1)) 8 i (r.1 66)).2.1 8 i
      rw [hfi_sfi, if_pos ⟨rfl, rfl⟩, sA_2, if_pos ⟨rfl, rfl⟩]
      exact G.2.1
    · rw [othm 66 (by omega) (by omega), t2, iN_nn (by omega)]
      exact Nat.le_refl _
    · show (sA (sI r 67 (r.1 67 + 1)) 8 i (r.1 66)).2.1 8 i = _
      rw [sA_2, if_pos ⟨rfl, rfl⟩, t2]
    · rw [p.gr (by decide) (by omega), w.gA (by decide), w.gA (by decide), w.gA (by decide), w.gA (by decide), (p.2.2 (x + 34) (by omega) (fun z => z)).2.1]
      exact a4
  refine R.cnn (i := i) px wx (p.2.2 (x + 34) (by omega) (fun z => z)).2.1 G' (by rw [sSum.fm T p (by decide), othm 68 (by omega) (by omega)]; exact R.2.2.1) (othm 73 (by omega) (by omega)) (fun i' _ _ z => z) (fun _ s' _ z => by rw [w.gA (by decide)]; exact z) (fun d hd => ⟨p.gr (by decide) hd, fun f hf => p.gi (by simp only [List.mem_cons, List.not_mem_nil, or_false] at hf ⊢; omega) hd⟩) (fun u hu f hf => p.gi (by simp only [List.mem_cons, List.not_mem_nil, or_false] at hf ⊢; omega) hu) (fun _ => ⟨cA', c2.fm T hi p w (by decide) (fun z => z) (by decide), c3.fm T hi p w (fun z => z) (by decide), fun z => absurd rfl z⟩)
theorem obH.fm : Fm x [1310, 212, 701, 702, 703, 704] (fun _ => False) h (obH x i p n h) := Fm.fi (Fm.fi (Fm.fi (Fm.fr (obA.fm.sub (by decide) (fun _ z => z)) (Or.inl (by decide)) (Or.inl (by decide))) (Or.inl (by decide)) (Or.inl (by decide))) (Or.inl (by decide)) (Or.inl (by decide))) (Or.inl (by decide)) (Or.inl (by decide))
theorem obM.ro : Ro [67, 8, 75, 76, 77, 78, 79] r (obM i p n r) := ((((((obB.ro (r := r) (i := i)).sub (by decide)).i (by decide)).i (by decide)).i (by decide)).i (by decide)).i (by decide)
theorem Rel.ob2 (R : Rel x i 12 96 e0 h r) (hi : i < 8) : Rel x i 12 96 e0 (obH x i p n h) (obM i p n r) := by
  have R1 := R.ob1 hi
  have T1 := R1.st
  have p2 : Fm x [701, 702, 703, 704] (fun _ => False) (obA x i h) (obH x i p n h) := Fm.fi (Fm.fi (Fm.fi (Fm.fr Fm.rf (Or.inl (by decide)) (Or.inl (by decide))) (Or.inl (by decide)) (Or.inl (by decide))) (Or.inl (by decide)) (Or.inl (by decide))) (Or.inl (by decide)) (Or.inl (by decide))
  have w2 : Ro [75, 76, 77, 78, 79] (obB i r) (obM i p n r) := ((((Ro.rf.i (by decide)).i (by decide)).i (by decide)).i (by decide)).i (by decide)
  obtain ⟨f, bs, W⟩ := R1.wr
  exact R1.scr (p2.sub (by decide) (fun _ z => z.elim)) (w2.sub (by decide)) ⟨f, bs, W.fmx T1 p2 (by decide) (fun z => z)⟩
theorem ob_rd (T : Stat x h) (hi : i < 8) (B : By bs) (hbl : bs.length ≤ 405) (hp : 1 ≤ p) (hpl : p ≤ bs.length) (hC : Cg (hai h (cA x i + 2)) 0 bs) (hM : Mg (r.2.1 6) (410 * i) bs) : Rd x i bs p bs.length 0 (obH x i p bs.length h) (obM i p bs.length r) := by
  have hx := T.1
  have hcl := T.cl hi
  have q : Fm x [1310, 212, 701, 702, 703, 704] (fun _ => False) h (obH x i p bs.length h) := obH.fm
  have w : Ro [67, 8, 75, 76, 77, 78, 79] r (obM i p bs.length r) := obM.ro
  have f1 : hfr (obH x i p bs.length h) 701 (x + 37) = some (cA x i + 2) := by
    show hfr (sfr (obA x i h) 701 (x + 37) (some (cA x i + 2))) 701 (x + 37) = _
    rw [hfr_sfr, if_pos ⟨rfl, rfl⟩]
  have f2 : hfi (obH x i p bs.length h) 702 (x + 37) = nn p := by
    unfold obH
    rw [hfi_sfi, if_neg (by omega), hfi_sfi, if_neg (by omega), hfi_sfi, if_pos ⟨rfl, rfl⟩]
  have f3 : hfi (obH x i p bs.length h) 703 (x + 37) = nn bs.length := by
    unfold obH
    rw [hfi_sfi, if_neg (by omega), hfi_sfi, if_pos ⟨rfl, rfl⟩]
  have f4 : hfi (obH x i p bs.length h) 704 (x + 37) = nn 0 := by
    unfold obH
    rw [hfi_sfi, if_pos ⟨rfl, rfl⟩]
    rfl
  have m75 : (obM i p bs.length r).1 75 = nn i := rfl
  have m76 : (obM i p bs.length r).1 76 = nn (410 * i + p) := rfl
  have m77 : (obM i p bs.length r).1 77 = nn (410 * i + bs.length) := rfl
  have m78 : (obM i p bs.length r).1 78 = nn (410 * i + bs.length) := rfl
  have m79 : (obM i p bs.length r).1 79 = nn 0 := rfl
  refine ⟨⟨f1, f2, f4, ?_⟩, ⟨m75, m77, m79, ?_⟩, ⟨hi, B, hbl, hpl, ⟨by omega, Or.inl rfl⟩, hp⟩, fun _ => ⟨f3, m76, m78, hpl, Nat.le_refl _⟩⟩
  · rw [(q.2.2 (cA x i + 2) (by omega) (fun z => z)).1]
    exact hC
  · rw [w.gA (by decide)]
    exact hM
/-- the class begins -/
def obK (x : Nat) (l1 : Option Nat) (t fl : Int32) : Hp → Option (Int32 × Hp) := if t = (1 : Int32) then (hgR 2 2 l1 fun v19 => if v19 = none then (hgR 13 6 (some x) fun v20 => hgR 13 3 (some x) fun v21 => hgR 13 4 (some x) fun v22 => hCv 4 v20 (fun a => C_X2_read a v21 v22 fl) fun r23 => hCv 13 (some x) (fun a => C_X11_greeted a) fun r24 => rt (r24)) else (C_X11_obey_J85 x l1 t fl)) else (C_X11_obey_J85 x l1 t fl)
theorem ob_ev (T : Stat x h) (hi : i < 8) (h9 : hfi h 209 (cA x i) = nn p) (h10 : hfi h 210 (cA x i) = nn n) (hn : n ≤ 405) (hb : b0 < 256) (c0 : hai h (cA x i + 2) 0 = nn b0) : C_X11_obey x (some (cA x i)) h = obK x (some (cA x i)) (nn (b0 / 16)) (nn (b0 % 16)) (obH x i p n h) := by
  have hx := T.1
  have hcl := T.cl hi
  have cdef : cA x i = x + 2 + 4 * i := rfl
  obtain ⟨k1, k2, k3⟩ := T.in3
  obtain ⟨c1, c2, c3, c4⟩ := T.pk hi
  have q : Fm x [1310, 212, 701, 702, 703, 704] (fun _ => False) h (obH x i p n h) := obH.fm
  have T2 : Stat x (obH x i p n h) := T.sto q.1
  have c0' : hai (obH x i p n h) (cA x i + 2) 0 = nn b0 := c0
  have e9 : hfi (sfi h 1310 x (hfi h 1310 x + 1)) (100 * 13 + 9) x = hfi h 1309 x := by
    rw [hfi_sfi, if_neg (by omega)]
  have g9 : hfi (obA x i h) (100 * 2 + 9) (cA x i) = nn p := by
    rw [obA.fm.gi (x := x) (by decide) (by omega)]
    exact h9
  have g10 : hfi (obA x i h) (100 * 2 + 10) (cA x i) = nn n := by
    rw [obA.fm.gi (x := x) (by decide) (by omega)]
    exact h10
  unfold C_X11_obey
  rw [e_gI k1, e_pI k1, e_gI (by exact k1), e9, e_pI (by exact c1)]
  show (hgR 13 3 (some x) _) (obA x i h) = _
  have k2a : hfr (obA x i h) (100 * 13 + 3) x = some (x + 37) := k2
  have c2a : hfr (obA x i h) (100 * 2 + 7) (cA x i) = some (cA x i + 2) := c2
  rw [e_gR (by exact k1), k2a, e_gR (by exact c1), c2a, e_gI (by exact c1), g9, e_gI (by exact c1), g10, e_Cv (by exact T.rd)]
  have eb : C_X5_begin (x + 37) (some (cA x i + 2)) (nn p) (nn n) (obA x i h) = some ((), obH x i p n h) := by
    unfold C_X5_begin
    rw [e_pR (by exact T.rd), e_pI (by exact T.rd), e_Ln (by exact c3), e_pI (by exact T.rd), e_pI (by exact T.rd)]
    have el : imin (nn n) (Int32.ofNat (hln (sfi (sfr (obA x i h) (100 * 7 + 1) (x + 37) (some (cA x i + 2))) (100 * 7 + 2) (x + 37) (nn p)) (cA x i + 2))) = nn n := by
      show imin (nn n) (nn (hln h (cA x i + 2))) = nn n
      rw [c4, imin_nn (by omega) (by omega), Nat.min_eq_left hn]
    rw [el]
    rfl
  obtain ⟨d1, d2, d3, d4⟩ := T2.pk hi
  rw [e_bd eb, e_Cv d1, e_bd (qc_type T2 hi hb c0'), e_gR d1, d2, show (0 : Int32) = nn 0 from rfl, e_Ai d3 (nn_inr (by omega) (by omega)), nn_N (by omega), c0']
  rw [(type_or b0 hb).2.1]
  rfl
end OBY
