/-! ===== properties: all of them ===== -/
def Pk (x i : Nat) (bs : List Nat) (h : Hp) (r : RS) (k : Nat) : Prop := ∃ s e, hai h (x + 42) k = nn s ∧ hai h (x + 43) k = nn e ∧ 1 ≤ s ∧ s + 1 < e ∧ e ≤ bs.length ∧ bs.getD s 0 = k ∧ (k ∈ kN → ∃ n, n ≤ bnd k ∧ hal h (x + 41) k = n6 n ∧ r.2.2 83 k = n6 n ∧ (k = 1 → e = s + 2 ∧ n = bs.getD (s + 1) 0)) ∧ (k ∈ kR → e = s + 3 + b2 bs (s + 1) ∧ r.2.1 84 k = nn (410 * i + (s + 3)) ∧ r.2.1 85 k = nn (b2 bs (s + 1)))
def Pu (x : Nat) (U : List Nat) (h : Hp) (r : RS) : Prop := hfi h 605 (x + 40) = nn U.length ∧ r.1 87 = nn U.length ∧ U.length < 400 ∧ By U ∧ Cg (hai h (x + 44)) 0 U ∧ Mg (r.2.1 86) 0 U
def Pq (x : Nat) (bs : List Nat) (M : Nat) (h : Hp) : Prop := (M.testBit 8 = false ∧ hfr h 607 (x + 40) = none) ∨ (M.testBit 8 = true ∧ ∃ a s, hfr h 607 (x + 40) = some a ∧ hai h (x + 42) 8 = nn s ∧ s < 500 ∧ Rw x h a (sl bs (s + 3) (b2 bs (s + 1))) ∧ s + 3 + b2 bs (s + 1) ≤ bs.length)
def Pp (x i : Nat) (bs : List Nat) (M : Nat) (U : List Nat) (h : Hp) (r : RS) : Prop := (hfl h 600 (x + 40) = n6 M ∧ M < 1099511627776 ∧ ∀ k, k < 64 → r.2.1 82 k = if M.testBit k = true then 1 else 0) ∧ (∀ k, k ∈ K0 → k ≠ 38 → M.testBit k = true → Pk x i bs h r k) ∧ Pu x U h r ∧ hfr h 606 (x + 40) = some (cA x i + 2) ∧ Pq x bs M h
def tk (x : Nat) (h : Hp) (M k : Nat) : Nat := if M.testBit k = true then iN (hai h (x + 43) k) - iN (hai h (x + 42) k) else 0
def Tot (x : Nat) (h : Hp) (M : Nat) : Nat := tk x h M 1 + tk x h M 3 + tk x h M 8 + tk x h M 9
def vF : List Nat := [600, 605, 606, 607, 701, 702, 703, 704]
def vA (x : Nat) : Nat → Prop := fun a => (x + 41 ≤ a ∧ a ≤ x + 44) ∨ a = x + 50
def vS : List Nat := [76, 78, 79, 80, 81, 82, 83, 84, 85, 86, 87]
def Sw (x c e : Nat) (h h' : Hp) (r r' : RS) : Prop := Fm x vF (vA x) h h' ∧ Ro vS r r' ∧ (hcs h').1 ≤ (hcs h).1 + c ∧ (hcs h').2 ≤ (hcs h).2 + e
theorem Sw.rf {x : Nat} {h : Hp} {r : RS} : Sw x 0 0 h h r r := ⟨Fm.rf, Ro.rf, Nat.le_refl _, Nat.le_refl _⟩
theorem Sw.tr {x c e c' e' : Nat} {h h1 h2 : Hp} {r r1 r2 : RS} (p : Sw x c e h h1 r r1) (q : Sw x c' e' h1 h2 r1 r2) : Sw x (c + c') (e + e') h h2 r r2 := ⟨p.1.tr q.1, p.2.1.tr q.2.1, by have := p.2.2.1; have := q.2.2.1; omega, by have := p.2.2.2; have := q.2.2.2; omega⟩
theorem Sw.le {x c e c' e' : Nat} {h h1 : Hp} {r r1 : RS} (p : Sw x c e h h1 r r1) (l1 : c ≤ c') (l2 : e ≤ e') : Sw x c' e' h h1 r r1 := ⟨p.1, p.2.1, by have := p.2.2.1; omega, by have := p.2.2.2; omega⟩
theorem Sc.sw {x c e : Nat} {h h1 : Hp} {r r1 : RS} (p : Sc x c e h h1 r r1) : Sw x c e h h1 r r1 := ⟨p.1.sub (by decide) (fun _ z => z.elim), p.2.1.sub (by decide), p.2.2⟩
theorem Sw.st {x c e : Nat} {h h1 : Hp} {r r1 : RS} (p : Sw x c e h h1 r r1) (T : Stat x h) : Stat x h1 := T.sto p.1.1
section PRP
variable {x i p L f n c e a q k M A : Nat} {h h' : Hp} {r r' : RS} {bs U : List Nat}
theorem Rd.lim {L' : Nat} (D : Rd x i bs p L f h r) (h1 : p ≤ L') (h2 : L' ≤ bs.length) : Rd x i bs p L' f (sfi h 703 (x + 37) (nn L')) (sI r 78 (nn (410 * i + L'))) := by
  obtain ⟨⟨a1, a2, a3, a4⟩, ⟨b1, b2, b3, b4⟩, ⟨c1, c2, c3, c4, c5, c6⟩, d⟩ := D
  refine ⟨⟨a1, by rw [hfi_sfi, if_neg (by omega)]; exact a2, by rw [hfi_sfi, if_neg (by omega)]; exact a3, a4⟩, ⟨b1, b2, b3, b4⟩, ⟨c1, c2, c3, c4, c5, c6⟩, fun g => ?_⟩
  obtain ⟨d1, d2, d3, d4, d5⟩ := d g
  exact ⟨by rw [hfi_sfi, if_pos ⟨rfl, rfl⟩], d2, by rw [sI_1, if_pos rfl], h1, h2⟩
/-- after a fault the limits don't matter -/
theorem Rd.any {L' : Nat} (D : Rd x i bs p L f h r) (hf : f ≠ 0) : Rd x i bs p L' f h r := ⟨D.1, D.2.1, D.2.2.1, fun z => absurd z hf⟩
theorem Sw.lim {v w : Int32} : Sw x 0 0 h (sfi h 703 (x + 37) v) r (sI r 78 w) := ⟨Fm.rf.fi (Or.inl (by decide)) (Or.inl (by decide)), Ro.rf.i (by decide), Nat.le_refl _, Nat.le_refl _⟩
theorem Stat.pr (T : Stat x h) : hkd h (x + 40) = 6 + 1 := T.2.2.2.2.1.1
theorem qc_phas (T : Stat x h) (hM : hfl h 600 (x + 40) = n6 M) (hM2 : M < 1099511627776) (hk : k < 40) : C_X4_has (x + 40) (nn k) h = some (if M.testBit k = true then 1 else 0, h) := by
  have e : hfl h (100 * 6 + 0) (x + 40) = n6 M := hM
  have hh : wp (C_X4_has (x + 40) (nn k)) h (fun v h' => v = (if M.testBit k = true then 1 else 0) ∧ h' = h) := by
    unfold C_X4_has
    rw [wp_gL T.pr, e]
    by_cases g : M.testBit k = true
    · rw [wp_pos ((bit_s (by omega) hk).mpr g), wp_zt, if_pos g]
      exact ⟨Or.inr rfl, rfl, rfl⟩
    · rw [wp_neg (fun z => g ((bit_s (by omega) hk).mp z)), wp_zt, if_neg g]
      exact ⟨Or.inl rfl, rfl, rfl⟩
  obtain ⟨_, h', e1, e2, e3⟩ := hh
  rw [e1, e2, e3]
theorem tb_or {M k k' : Nat} : (M ||| 2 ^ k).testBit k' = true ↔ M.testBit k' = true ∨ k = k' := by
  rw [Nat.testBit_or, Nat.testBit_two_pow, Bool.or_eq_true, decide_eq_true_iff]
theorem tb_orn {M k k' : Nat} (h : k ≠ k') : (M ||| 2 ^ k).testBit k' = M.testBit k' := by
  rw [Nat.testBit_or, Nat.testBit_two_pow_of_ne h, Bool.or_false]
theorem K0.lt (hk : k ∈ K0) : k < 40 := by
  simp only [K0, List.mem_cons, List.not_mem_nil, or_false] at hk
  omega
theorem or_lt40 (hM : M < 1099511627776) (hk : k < 40) : M ||| 2 ^ k < 1099511627776 := Nat.or_lt_two_pow (n := 40) hM (Nat.pow_lt_pow_right (by omega) hk)
/-- the class after the mark and the place of a key; after its value -/
def ppA (x : Nat) (h : Hp) (M k p : Nat) : Hp := sai (sfl h 600 (x + 40) (n6 (M ||| 2 ^ k))) (x + 42) (upd (hai h (x + 42)) k (nn p))
def ppC (x : Nat) (h : Hp) (k p' : Nat) (v : Int64) : Hp := sai (sal h (x + 41) (vp_updL (hal h (x + 41)) k v)) (x + 43) (upd (hai h (x + 43)) k (nn p'))
theorem ppA.fm (T : Stat x h) : Fm x [600] (fun a => a = x + 42) h (ppA x h M k p) := by
  have hx := T.1
  exact (Fm.rf.fl (Or.inl (by decide)) (Or.inl (by decide))).ai (Or.inl rfl) (fun z => by have := z.1; omega)
theorem Fm.al {F : List Nat} {A : Nat → Prop} {v : Nat → Int64} (p : Fm x F A h h') (ha : A a) : Fm x F A h (sal h' a v) := by
  refine ⟨⟨p.1.1, p.1.2.1, p.1.2.2.1, p.1.2.2.2.1, p.1.2.2.2.2⟩, p.2.1, fun c hc hB => ?_⟩
  have u := p.2.2 c hc hB
  refine ⟨u.1, u.2.1, ?_⟩
  rw [hal_sal, if_neg (fun z => hB (by rw [z]; exact ha))]
  exact u.2.2
theorem ppC.fm {v : Int64} {p' : Nat} (T : Stat x h) : Fm x [] (fun a => a = x + 41 ∨ a = x + 43) h (ppC x h k p' v) := by
  have hx := T.1
  exact (Fm.rf.al (Or.inl rfl)).ai (Or.inl (Or.inr rfl)) (fun z => by have := z.1; omega)
/-- a property that is no user's: what it leaves -/
theorem Pp.step {hb : Hp} {rb : RS} {v : Int64} {p' : Nat} (P : Pp x i bs M U h r) (T : Stat x h) (hk : k ∈ K0) (h38 : k ≠ 38) (hnb : M.testBit k = false) (hp1 : 1 ≤ p) (hkey : bs.getD p 0 = k)
    (hF : Fm x [702, 704, 607] (fun _ => False) (ppA x h M k p) hb) (hR : Rk k (sA r 82 k 1) rb) (hp' : p + 1 < p') (hp2 : p' ≤ bs.length) (hbl : bs.length ≤ 405)
    (hN : k ∈ kN → ∃ n, n ≤ bnd k ∧ v = n6 n ∧ rb.2.2 83 k = n6 n ∧ (k = 1 → p' = p + 1 + 1 ∧ n = bs.getD (p + 1) 0))
    (hQ : k ∈ kR → p' = p + 1 + 2 + b2 bs (p + 1) ∧ rb.2.1 84 k = nn (410 * i + (p + 1 + 2)) ∧ rb.2.1 85 k = nn (b2 bs (p + 1)))
    (h607 : k ≠ 8 → hfr hb 607 (x + 40) = hfr (ppA x h M k p) 607 (x + 40)) (h8 : k = 8 → ∃ a, hfr hb 607 (x + 40) = some a ∧ Rw x hb a (sl bs (p + 1 + 2) (b2 bs (p + 1)))) :
    Pp x i bs (M ||| 2 ^ k) U (ppC x hb k p' v) rb ∧ Tot x (ppC x hb k p' v) (M ||| 2 ^ k) ≤ Tot x h M + (p' - p) := by
  have hx := T.1
  have k40 := K0.lt hk
  obtain ⟨⟨m1, m2, m3⟩, pk, ⟨u1, u2, u3, u4, u5, u6⟩, p606, pq⟩ := P
  have pA := ppA.fm (M := M) (k := k) (p := p) T
  have TA : Stat x (ppA x h M k p) := T.sto pA.1
  have Tb : Stat x hb := TA.sto hF.1
  have pC := ppC.fm (v := v) (k := k) (p' := p') Tb
  have hxb := Tb.1
  have hxa := TA.1
  have a42 : hai (ppC x hb k p' v) (x + 42) = upd (hai h (x + 42)) k (nn p) := by
    rw [(pC.2.2 (x + 42) (by omega) (by omega)).1, (hF.2.2 (x + 42) (by omega) (fun z => z)).1]
    unfold ppA
    rw [hai_sai, if_pos rfl]
  have a43 : hai (ppC x hb k p' v) (x + 43) = upd (hai h (x + 43)) k (nn p') := by
    unfold ppC
    rw [hai_sai, if_pos rfl, (hF.2.2 (x + 43) (by omega) (fun z => z)).1, (pA.2.2 (x + 43) (by omega) (by omega)).1]
  have a41 : hal (ppC x hb k p' v) (x + 41) = vp_updL (hal h (x + 41)) k v := by
    unfold ppC
    rw [hal_sai, hal_sal, if_pos rfl, (hF.2.2 (x + 41) (by omega) (fun z => z)).2.2, (pA.2.2 (x + 41) (by omega) (by omega)).2.2]
  have a44 : hai (ppC x hb k p' v) (x + 44) = hai h (x + 44) := by
    rw [(pC.2.2 (x + 44) (by omega) (by omega)).1, (hF.2.2 (x + 44) (by omega) (fun z => z)).1, (pA.2.2 (x + 44) (by omega) (by omega)).1]
  have u_k : ∀ (g : Nat → Int32) (w : Int32), upd g k w k = w := fun g w => if_pos rfl
  have u_n : ∀ (g : Nat → Int32) (w : Int32) k', k' ≠ k → upd g k w k' = g k' := fun g w k' hk' => if_neg hk'
  have l_k : ∀ (g : Nat → Int64) (w : Int64), vp_updL g k w k = w := fun g w => if_pos rfl
  have l_n : ∀ (g : Nat → Int64) (w : Int64) k', k' ≠ k → vp_updL g k w k' = g k' := fun g w k' hk' => if_neg hk'
  have wR := hR.1
  have h38' : ∀ k', M.testBit k' = true → k' ≠ k := fun k' z e => by
    rw [e, hnb] at z
    cases z
  refine ⟨⟨⟨?_, or_lt40 m2 k40, fun k' hk' => ?_⟩, fun k' g1 g2 g3 => ?_, ⟨?_, ?_, u3, u4, by rw [a44]; exact u5, ?_⟩, ?_, ?_⟩, ?_⟩
  · rw [pC.gl (by decide) (by omega), hF.gl (by decide) (by omega)]
    unfold ppA
    rw [hfl_sai, hfl_sfl, if_pos ⟨rfl, rfl⟩]
  · rw [wR.gA (by decide), sA_2]
    by_cases g : k' = k
    · rw [if_pos ⟨rfl, g⟩, if_pos (tb_or.mpr (Or.inr g.symm))]
    · rw [if_neg (by omega), tb_orn (fun z => g z.symm)]
      exact m3 k' hk'
  · by_cases g : k' = k
    · subst g
      refine ⟨p, p', by rw [a42, u_k], by rw [a43, u_k], hp1, hp', hp2, hkey, fun z => ?_, fun z => ?_⟩
      · obtain ⟨n, n1, n2, n3, n4⟩ := hN z
        exact ⟨n, n1, by rw [a41, l_k, n2], n3, fun y => ⟨by have := (n4 y).1; omega, (n4 y).2⟩⟩
      · obtain ⟨n1, n2, n3⟩ := hQ z
        exact ⟨by omega, n2, n3⟩
    · have g3' : M.testBit k' = true := by
        rw [tb_orn (fun z => g z.symm)] at g3
        exact g3
      obtain ⟨s, e, b1, b2, b3, b4, b5, b6, b7, b8⟩ := pk k' g1 g2 g3'
      obtain ⟨q1, q2, q3⟩ := hR.2 k' g
      have q1' : rb.2.2 83 k' = r.2.2 83 k' := q1
      have q2' : rb.2.1 84 k' = r.2.1 84 k' := by rw [q2, sA_o (by decide)]
      have q3' : rb.2.1 85 k' = r.2.1 85 k' := by rw [q3, sA_o (by decide)]
      refine ⟨s, e, by rw [a42, u_n _ _ _ g]; exact b1, by rw [a43, u_n _ _ _ g]; exact b2, b3, b4, b5, b6, fun z => ?_, fun z => ?_⟩
      · obtain ⟨n, n1, n2, n3, n4⟩ := b7 z
        exact ⟨n, n1, by rw [a41, l_n _ _ _ g]; exact n2, by rw [q1']; exact n3, n4⟩
      · rw [q2', q3']
        exact b8 z
  · rw [pC.gi (by decide) (by omega), hF.gi (by decide) (by omega), pA.gi (by decide) (by omega)]
    exact u1
  · rw [wR.gI (by decide)]
    exact u2
  · rw [wR.gA (by decide), sA_o (by decide)]
    exact u6
  · rw [pC.gr (by decide) (by omega), hF.gr (by decide) (by omega), pA.gr (by decide) (by omega)]
    exact p606
  · by_cases g : k = 8
    · obtain ⟨a, a1, a2⟩ := h8 g
      have hq := hQ (by rw [g]; decide)
      refine Or.inr ⟨tb_or.mpr (Or.inr g), a, p, ?_, by rw [a42, ← g, u_k], by omega, a2.stp pC.1, by omega⟩
      rw [pC.gr (by decide) (by omega)]
      exact a1
    · have e607 : hfr (ppC x hb k p' v) 607 (x + 40) = hfr h 607 (x + 40) := by
        rw [pC.gr (by decide) (by omega), h607 g, pA.gr (by decide) (by omega)]
      rcases pq with ⟨y1, y2⟩ | ⟨y1, a, s, y2, y3, y4, y5, y6⟩
      · exact Or.inl ⟨by rw [tb_orn g]; exact y1, by rw [e607]; exact y2⟩
      · exact Or.inr ⟨by rw [tb_orn g]; exact y1, a, s, by rw [e607]; exact y2, by rw [a42, u_n _ _ _ (fun z => g z.symm)]; exact y3, y4, y5.stp ((pA.1.tr hF.1).tr pC.1), y6⟩
  · have tks : ∀ k', k' ≠ k → tk x (ppC x hb k p' v) (M ||| 2 ^ k) k' = tk x h M k' := fun k' hk' => by
      unfold tk
      rw [tb_orn (fun z => hk' z.symm), a42, a43, u_n _ _ _ hk', u_n _ _ _ hk']
    have tkk : tk x (ppC x hb k p' v) (M ||| 2 ^ k) k = p' - p := by
      unfold tk
      rw [if_pos (tb_or.mpr (Or.inr rfl)), a42, a43, u_k, u_k, iN_nn (by omega), iN_nn (by omega)]
    unfold Tot
    by_cases g1 : k = 1
    · rw [← g1, tkk, tks 3 (by omega), tks 8 (by omega), tks 9 (by omega)]; omega
    · by_cases g3 : k = 3
      · rw [← g3, tkk, tks 1 (by omega), tks 8 (by omega), tks 9 (by omega)]; omega
      · by_cases g8 : k = 8
        · rw [← g8, tkk, tks 3 (by omega), tks 1 (by omega), tks 9 (by omega)]; omega
        · by_cases g9 : k = 9
          · rw [← g9, tkk, tks 3 (by omega), tks 8 (by omega), tks 1 (by omega)]; omega
          · rw [tks 1 (by omega), tks 3 (by omega), tks 8 (by omega), tks 9 (by omega)]; omega
end PRP
