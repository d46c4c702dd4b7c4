/-! ===== one byte, by both ===== -/
section BYT
variable {x i p n s b f k ec es ew len b0 : Nat} {e0 : Int32} {h h' h0 : Hp} {r r' r0 : RS} {bs : List Nat}
def acH (x i k b : Nat) (h : Hp) : Hp := sfi (sai h (cA x i + 2) (upd (hai h (cA x i + 2)) k (nn b))) 208 (cA x i) (nn (k + 1))
def acM (i k b : Nat) (r : RS) : RS := sA (sA r 6 (410 * i + k) (sb b)) 5 i (nn (k + 1))
def aF : List Nat := [208, 209, 210]
def Af (x i : Nat) (h h' : Hp) : Prop := Fm x aF (fun a => a = cA x i + 2) h h' ∧ Hx x (hnx h) i h h' ∧ hcs h' = hcs h ∧ har h' = har h
theorem acM.ro : Ro [5, 6] r (acM i k b r) := (Ro.rf.a (by decide)).a (by decide)
theorem acM.ho (hk : k < 410) : Ho 12 i r (acM i k b r) := Ho.a (Ho.a Ho.rf (Or.inl ⟨by omega, by omega, by
  show (410 * i + k) / 410 = i
  omega⟩)) (Or.inl ⟨by omega, by omega, rfl⟩)
theorem acH.af (hi : i < 8) : Af x i h (acH x i k b h) := by
  have cdef : cA x i = x + 2 + 4 * i := rfl
  have nz : ¬ Fz x h (cA x i + 2) := fun z => by
    have := z.1
    omega
  exact ⟨Fm.fi (Fm.ai Fm.rf (Or.inl rfl) nz) (Or.inl (by decide)) (Or.inl (by decide)), Hx.fi (Hx.ai Hx.rf (Or.inl (Or.inr (Or.inl ⟨hi, by omega, by omega⟩))) nz) (Or.inl (Or.inr (Or.inl ⟨hi, rfl⟩))) (Or.inl (by decide)), rfl, rfl⟩
theorem Af.fi {g : Nat} {v : Int32} (A : Af x i h h') (hi : i < 8) (hg : g ∈ aF) : Af x i h (sfi h' g (cA x i) v) := ⟨A.1.fi (Or.inl hg) (Or.inl (by
  simp only [aF, List.mem_cons, List.not_mem_nil, or_false] at hg
  rcases hg with rfl | rfl | rfl <;> decide)), A.2.1.fi (Or.inl (Or.inr (Or.inl ⟨hi, rfl⟩))) (Or.inl (by
  simp only [aF, List.mem_cons, List.not_mem_nil, or_false] at hg
  rcases hg with rfl | rfl | rfl <;> decide)), A.2.2.1, A.2.2.2⟩
theorem Rel.inc (R : Rel x 8 12 96 e0 h r) (hi : i < 8) (A : Af x i h h') (w : Ro [5, 6] r r') (wx : Ho 12 i r r') : Rel x i 12 96 e0 h' r' := by
  have T := R.st
  have hx := T.1
  have cdef : cA x i = x + 2 + 4 * i := rfl
  obtain ⟨p, px, _, e34⟩ := A
  obtain ⟨c1, c2, c3, _⟩ := R.2.2.2.1 i hi
  refine R.cnn (i := i) px wx (by rw [e34]) (R.2.1.fm T p w (by decide) (by decide)) (by rw [sSum.fm T p (by decide), w.gI (by decide)]; exact R.2.2.1) (w.gI (by decide)) (fun i' _ _ _ => by omega) (fun _ s' _ z => by rw [w.gA (by decide)]; exact z) (fun d hd => ⟨p.gr (by decide) hd, fun f hf => p.gi (by simp only [aF, List.mem_cons, List.not_mem_nil, or_false] at hf ⊢; omega) hd⟩) (fun u hu f hf => p.gi (by simp only [aF, List.mem_cons, List.not_mem_nil, or_false] at hf ⊢; omega) hu) (fun _ => ⟨c1.fm T hi p w (by decide) (by omega) (by decide), c2.fm T hi p w (by decide) (by omega) (by decide), c3.fm T hi p w (by omega) (by decide), fun z => absurd rfl z⟩)
theorem Rel.in8 (R : Rel x i es ew e0 h r) (c : CoI x h r i) : Rel x 8 es ew e0 h r := by
  obtain ⟨T, G, sm, C, SS, U⟩ := R
  refine ⟨T, G, sm, fun i' hi' => ⟨(C i' hi').1, (C i' hi').2.1, (C i' hi').2.2.1, fun _ => ?_⟩, SS, U⟩
  by_cases g : i' = i
  · subst g
    exact c
  · exact (C i' hi').2.2.2 g
theorem Cg.tl {g : Nat → Int32} {o c : Nat} {t : List Nat} (q : Cg g o (c :: t)) : Cg g (o + 1) t := fun j hj => by
  have := q (j + 1) (by rw [List.length_cons]; omega)
  rw [show o + (j + 1) = o + 1 + j by omega] at this
  exact this
theorem Mg.tl {g : Nat → Int32} {o c : Nat} {t : List Nat} (q : Mg g o (c :: t)) : Mg g (o + 1) t := fun j hj => by
  have := q (j + 1) (by rw [List.length_cons]; omega)
  rw [show o + (j + 1) = o + 1 + j by omega] at this
  exact this
theorem acc_ev (T : Stat x h) (hi : i < 8) (hk : k < 405) (h8 : hfi h 208 (cA x i) = nn k) : C_X0_accept (cA x i) (nn b) h = C_X0_accept_J30 (cA x i) (nn b) (acH x i k b h) := by
  obtain ⟨c1, c2, c3, c4⟩ := T.pk hi
  have h8' : hfi h (100 * 2 + 8) (cA x i) = nn k := h8
  have h8'' : hfi (sai h (cA x i + 2) (upd (hai h (cA x i + 2)) k (nn b))) (100 * 2 + 8) (cA x i) = nn k := h8
  unfold C_X0_accept
  rw [e_gI c1, h8', if_neg (by rw [show (405 : Int32) = nn 405 from rfl, nn_le (by omega) (by omega)]; omega), e_gR c1, c2, e_gI c1, h8', e_Wi c3 (nn_inr (by omega) (by omega)), nn_N (by omega), e_gI (by exact c1), h8'', e_pI (by exact c1), show (1 : Int32) = nn 1 from rfl, nn_add]
  rfl
theorem x_wI {α : Type} {k : Nat} {v : Int32} {P : RS → Option (α × RS)} : wI k v P r = P (sI r k v) := rfl
theorem look0 : R_look (nn i) r = R_look_L14 (fun l1 l2 l3 l5 l6 => R_look_J91 l1 l2 l3 l5 l6) fu (nn i) (nn (410 * i)) (n6 0) (nn 0) 0 r := by
  unfold R_look lq
  rw [show (410 : Int32) = nn 410 from rfl, nn_mul]
  rfl
theorem j91_0 {a : Nat} {k : Nat} (hk : k < 256) : R_look_J91 (nn i) (nn (410 * i)) (n6 a) (nn k) 0 r = if k = 4 then (bd (R_wrong (nn i) (nn 129)) fun _ => zt (0 : Int32)) r else some (0, r) := by
  unfold R_look_J91
  rw [if_pos rfl]
  by_cases g : k = 4
  · rw [if_pos g, if_pos (by rw [g]; rfl)]
    rfl
  · rw [if_neg g, if_neg (fun z : nn k = (4 : Int32) => g (nn_inj (b := 4) (by omega) (by omega) z))]
    rfl
theorem j91_1 {v fo : Nat} (hi : i < 8) (hv : v < 256) (hfo : fo < 268435456) (hn : n ≤ 405) (h5 : r.2.1 5 i = nn n) : R_look_J91 (nn i) (nn (410 * i)) (n6 fo) (nn v) 1 r = if fo ≤ 400 then (if 1 + v + fo ≤ n then (bd R_take_ fun _ => mEnd i) (obM i (1 + v) n r) else some (0, r)) else (bd (R_wrong (nn i) (nn 149)) fun _ => zt (0 : Int32)) r := by
  unfold R_look_J91
  rw [if_neg (by decide)]
  have e400 : lg_cmp (n6 fo) (400 : Int64) ≤ 0 ↔ fo ≤ 400 := by
    rw [cmp_le, show (400 : Int64) = n6 400 from rfl, n6_le (by omega) (by omega)]
  by_cases g : fo ≤ 400
  · have ec : 0 ≤ lg_cmp (nn n).toInt64 (((1 : Int32) + nn v).toInt64 + n6 fo) ↔ 1 + v + fo ≤ n := by
      rw [cmp_ge, show (1 : Int32) = nn 1 from rfl, nn_add, n6_nn (by omega), n6_nn (by omega), n6_add, n6_le (by omega) (by omega)]
    rw [if_pos (e400.mpr g), if_pos g, x_rA mL_5 hi (by omega), h5]
    by_cases g2 : 1 + v + fo ≤ n
    · rw [if_pos (ec.mpr g2), if_pos g2, x_rI, x_wI, x_rI, x_wA mL_8 hi (by omega), x_wI, x_wI, x_rA mL_5 hi (by omega)]
      have e5 : (sI (sI (sA (sI r 67 (r.1 67 + 1)) 8 i ((sI r 67 (r.1 67 + 1)).1 66)) 75 (nn i)) 76 (nn (410 * i) + (1 : Int32) + nn v)).2.1 5 i = nn n := by
        show (sA (sI r 67 (r.1 67 + 1)) 8 i ((sI r 67 (r.1 67 + 1)).1 66)).2.1 5 i = nn n
        rw [sA_o (by decide)]
        exact h5
      rw [e5, x_wI, x_rI, x_wI, x_wI, show (1 : Int32) = nn 1 from rfl, nn_add, nn_add, nn_add, Nat.add_assoc]
      rfl
    · rw [if_neg (fun z => g2 (ec.mp z)), if_neg g2]
      rfl
  · rw [if_neg (fun z => g (e400.mp z)), if_neg g]
    rfl
theorem fv_lt : ∀ (t : List Nat) (k a : Nat), k + t.length ≤ 4 → a < 128 ^ k → fv k a t < 128 ^ (k + t.length) := by
  intro t
  induction t with
  | nil =>
    intro k a _ ha
    exact ha
  | cons c t ih =>
    intro k a hk ha
    rw [List.length_cons] at hk ⊢
    have := ih (k + 1) (a + (c % 128) * 128 ^ k) (by omega) (vst (by omega) ha).1
    rw [show k + 1 + t.length = k + (t.length + 1) by omega] at this
    exact this
/-- what one byte does: more is owed, a packet is whole, or it cannot be one -/
def AL (x i b : Nat) (bs : List Nat) (h : Hp) (r : RS) (v : Int32) (h' : Hp) : Prop :=
  (v = 1 ∧ CoI x h' (acM i bs.length b r) i ∧ R_look (nn i) (acM i bs.length b r) = some (0, acM i bs.length b r)) ∨
  (v = 2 ∧ ∃ p, 2 ≤ p ∧ p ≤ bs.length + 1 ∧ bs.length + 1 ≤ p + 400 ∧ hfi h' 208 (cA x i) = 0 ∧ hfi h' 209 (cA x i) = nn p ∧ hfi h' 210 (cA x i) = nn (bs.length + 1) ∧ R_look (nn i) (acM i bs.length b r) = (bd R_take_ fun _ => mEnd i) (obM i p (bs.length + 1) (acM i bs.length b r))) ∨
  (∃ f, (f = 129 ∨ f = 149) ∧ v = nn f ∧ R_look (nn i) (acM i bs.length b r) = (bd (R_wrong (nn i) (nn f)) fun _ => zt (0 : Int32)) (acM i bs.length b r))
theorem acc109 (T : Stat x h) (hi : i < 8) {m q : Nat} (h8 : hfi h 208 (cA x i) = nn m) (h10 : hfi h 210 (cA x i) = nn q) (hm : m < 2147483648) (hq : q < 2147483648) : C_X0_accept_J109 (cA x i) h = if q ≤ m then some (2, sfi h 208 (cA x i) 0) else some (1, h) := by
  obtain ⟨c1, c2, c3, c4⟩ := T.pk hi
  have h8' : hfi h (100 * 2 + 8) (cA x i) = nn m := h8
  have h10' : hfi h (100 * 2 + 10) (cA x i) = nn q := h10
  unfold C_X0_accept_J109
  rw [e_gI c1, h8', e_gI c1, h10']
  by_cases g : q ≤ m
  · rw [if_pos (by rw [nn_le hq hm]; exact g), if_pos g, e_pI c1]
    rfl
  · rw [if_neg (by rw [nn_le hq hm]; exact g), if_neg g]
    rfl
theorem acc_look (R : Rel x 8 12 96 e0 h r) (hi : i < 8) (ho : r.2.1 1 i = 1) (hb : b < 256) : ∃ bs v h', (By bs ∧ bs.length < 405 ∧ r.2.1 5 i = nn bs.length) ∧ C_X0_accept (cA x i) (nn b) h = some (v, h') ∧ Af x i h h' ∧ Cg (hai h' (cA x i + 2)) 0 (bs ++ [b]) ∧ Mg ((acM i bs.length b r).2.1 6) (410 * i) (bs ++ [b]) ∧ AL x i b bs h r v h' := by
  have T := R.st
  have hx := T.1
  have hcl := T.cl hi
  have cdef : cA x i = x + 2 + 4 * i := rfl
  obtain ⟨bs, b8, b5, bl, B, bC, bM, bo, bv⟩ := (R.2.2.2.1 i hi).2.2.2 (by omega)
  obtain ⟨h1, eh1⟩ : ∃ z, z = acH x i bs.length b h := ⟨_, rfl⟩
  obtain ⟨r1, er1⟩ : ∃ z, z = acM i bs.length b r := ⟨_, rfl⟩
  have A1 : Af x i h h1 := by
    rw [eh1]
    exact acH.af hi
  have w1 : Ro [5, 6] r r1 := by
    rw [er1]
    exact acM.ro
  have T1 : Stat x h1 := T.sto A1.1.1
  obtain ⟨c1, c2, c3, c4⟩ := T1.pk hi
  have x8 : hfi h1 208 (cA x i) = nn (bs.length + 1) := by
    rw [eh1]
    show hfi (sfi (sai h (cA x i + 2) (upd (hai h (cA x i + 2)) bs.length (nn b))) 208 (cA x i) (nn (bs.length + 1))) 208 (cA x i) = _
    rw [hfi_sfi, if_pos ⟨rfl, rfl⟩]
  have x9 : hfi h1 209 (cA x i) = hfi h 209 (cA x i) := by
    rw [eh1]
    show hfi (sfi (sai h (cA x i + 2) (upd (hai h (cA x i + 2)) bs.length (nn b))) 208 (cA x i) (nn (bs.length + 1))) 209 (cA x i) = _
    rw [hfi_sfi, if_neg (by omega)]
    rfl
  have x10 : hfi h1 210 (cA x i) = hfi h 210 (cA x i) := by
    rw [eh1]
    show hfi (sfi (sai h (cA x i + 2) (upd (hai h (cA x i + 2)) bs.length (nn b))) 208 (cA x i) (nn (bs.length + 1))) 210 (cA x i) = _
    rw [hfi_sfi, if_neg (by omega)]
    rfl
  have xC : Cg (hai h1 (cA x i + 2)) 0 (bs ++ [b]) := by
    have ea : hai h1 (cA x i + 2) = upd (hai h (cA x i + 2)) bs.length (nn b) := by
      rw [eh1]
      show hai (sai h (cA x i + 2) (upd (hai h (cA x i + 2)) bs.length (nn b))) (cA x i + 2) = _
      rw [hai_sai, if_pos rfl]
    rw [ea]
    refine bC.snoc ?_ (fun j hj => ?_)
    · show (if 0 + bs.length = bs.length then _ else _) = _
      rw [if_pos (by omega)]
    · show (if 0 + j = bs.length then _ else _) = _
      rw [if_neg (by omega)]
  have y5 : r1.2.1 5 i = nn (bs.length + 1) := by
    rw [er1]
    show (sA (sA r 6 (410 * i + bs.length) (sb b)) 5 i (nn (bs.length + 1))).2.1 5 i = _
    rw [sA_2, if_pos ⟨rfl, rfl⟩]
  have yM : Mg (r1.2.1 6) (410 * i) (bs ++ [b]) := by
    have ea : ∀ j, r1.2.1 6 j = if j = 410 * i + bs.length then sb b else r.2.1 6 j := fun j => by
      rw [er1]
      show (sA (sA r 6 (410 * i + bs.length) (sb b)) 5 i (nn (bs.length + 1))).2.1 6 j = _
      rw [sA_o (by decide), sA_2]
      by_cases g : j = 410 * i + bs.length
      · rw [if_pos ⟨rfl, g⟩, if_pos g]
      · rw [if_neg (fun z => g z.2), if_neg g]
    refine bM.snoc ?_ (fun j hj => ?_)
    · rw [ea, if_pos rfl]
    · rw [ea, if_neg (by omega)]
  have y1 : r1.2.1 1 i = 1 := by
    rw [w1.gA (by decide)]
    exact ho
  have B' : By (bs ++ [b]) := B.app (By.one hb)
  have ll : (bs ++ [b]).length = bs.length + 1 := by
    rw [List.length_append]
    rfl
  have ev := acc_ev (b := b) T hi bl b8
  rw [← eh1] at ev
  have hb128 : nn b < (128 : Int32) ↔ b < 128 := by
    rw [show (128 : Int32) = nn 128 from rfl, nn_lt (by omega) (by omega)]
  have x8' : hfi h1 (100 * 2 + 8) (cA x i) = nn (bs.length + 1) := x8
  -- CoI of the longer row
  have mkI : ∀ h2, Af x i h h2 → hfi h2 208 (cA x i) = nn (bs.length + 1) → Cg (hai h2 (cA x i + 2)) 0 (bs ++ [b]) → bs.length + 1 < 405 → (match vr 0 0 (bs ++ [b]).tail with
      | none => hfi h2 210 (cA x i) = 0 ∧ (bs ++ [b]).length ≤ 4
      | some (v, fo) => hfi h2 209 (cA x i) = nn (1 + v) ∧ hfi h2 210 (cA x i) = nn (1 + v + fo) ∧ (bs ++ [b]).length < 1 + v + fo ∧ fo ≤ 400 ∧ v ≤ 4) → CoI x h2 r1 i := fun h2 _ z1 z2 z3 z4 => ⟨bs ++ [b], by rw [ll]; exact z1, by rw [ll]; exact y5, by rw [ll]; exact z3, B', z2, yM, fun z => by
    rw [y1] at z
    exact absurd z (by decide), Or.inr z4⟩
  suffices fin : ∃ v h', C_X0_accept (cA x i) (nn b) h = some (v, h') ∧ Af x i h h' ∧ Cg (hai h' (cA x i + 2)) 0 (bs ++ [b]) ∧ Mg (r1.2.1 6) (410 * i) (bs ++ [b]) ∧ AL x i b bs h r v h' by
    obtain ⟨v, h', f1, f2, f3, f4, f5⟩ := fin
    exact ⟨bs, v, h', ⟨B, bl, b5⟩, f1, f2, f3, by rw [← er1]; exact f4, f5⟩
  unfold AL
  rw [← er1]
  cases bs with
  | nil =>
    have e1 : C_X0_accept_J30 (cA x i) (nn b) h1 = some (1, sfi h1 210 (cA x i) 0) := by
      unfold C_X0_accept_J30
      rw [e_gI c1, x8', if_pos (by decide), e_pI c1]
      rfl
    have A2 := A1.fi (v := 0) hi (show 210 ∈ aF by decide)
    refine ⟨1, _, ev.trans e1, A2, xC, yM, Or.inl ⟨rfl, ?_, ?_⟩⟩
    · refine mkI _ A2 ?_ xC (by decide) ⟨?_, by rw [ll]; decide⟩
      · rw [hfi_sfi, if_neg (by omega)]
        exact x8
      · rw [hfi_sfi, if_pos ⟨rfl, rfl⟩]
    · obtain ⟨a', e⟩ := (look_loop (r := r1) (ke := fun l1 l2 l3 l5 l6 => R_look_J91 l1 l2 l3 l5 l6) hi [] 0 0 fu y5 (by decide) (by decide) (fun j hj => absurd hj (Nat.not_lt_zero j)) By.nil (by unfold fu; decide)).1 rfl (by decide)
      rw [look0, e]
      exact j91_0 (by decide)
  | cons c u =>
    have bv' := bv.resolve_left (by simp)
    have et : (c :: u ++ [b]).tail = u ++ [b] := rfl
    have hu : (c :: u).length = u.length + 1 := rfl
    rw [hu] at bl b5 x8 y5 x8'
    have nk1 : ¬ nn (u.length + 1 + 1) = (1 : Int32) := fun z => by
      have := nn_inj (b := 1) (by omega) (by omega) z
      omega
    have Bu : By u := fun z hz => B z (List.mem_cons_of_mem _ hz)
    have But : By (u ++ [b]) := Bu.app (By.one hb)
    have lt : (u ++ [b]).length = u.length + 1 := by
      rw [List.length_append]
      rfl
    have tC : Cg (hai h1 (cA x i + 2)) 1 (u ++ [b]) := xC.tl
    have tM : Mg (r1.2.1 6) (410 * i + 1 + 0) (u ++ [b]) := yM.tl
    have LK := look_loop (r := r1) (ke := fun l1 l2 l3 l5 l6 => R_look_J91 l1 l2 l3 l5 l6) hi (u ++ [b]) 0 0 fu (by rw [y5, lt]; congr 1; omega) (by omega) (by decide) tM But (by unfold fu; omega)
    rw [← look0] at LK
    have x10' : hfi h1 (100 * 2 + 10) (cA x i) = hfi h 210 (cA x i) := x10
    have Lb : u.length + 1 + 1 ≤ 405 := by omega
    cases hv : vr 0 0 u with
    | none =>
      have bq : hfi h 210 (cA x i) = 0 ∧ u.length + 1 ≤ 4 := by
        have q := bv'
        rw [show (c :: u).tail = u from rfl, hv] at q
        exact q
      have vap := vr_app (b := b) u 0 0 Bu hb hv
      rw [Nat.zero_add] at vap
      by_cases g : b < 128
      · rw [if_pos g] at vap
        obtain ⟨fo, efo⟩ : ∃ z, z = fv 0 0 (u ++ [b]) := ⟨_, rfl⟩
        have hfo : fo < 268435456 := by
          have q := fv_lt (u ++ [b]) 0 0 (by omega) (by decide)
          have q2 : 128 ^ (0 + (u ++ [b]).length) ≤ 128 ^ 4 := Nat.pow_le_pow_right (by decide) (by omega)
          have q3 : 128 ^ 4 = 268435456 := by decide
          omega
        have ef : C_X0_following (cA x i) h1 = some (nn fo, h1) := by
          unfold C_X0_following
          rw [efo]
          exact fo_loop T1 hi (u ++ [b]) 0 0 fu (by rw [x8, lt]; congr 1; omega) (by omega) (by decide) tC (fun z hz => by have := But z hz; omega) (by unfold fu; omega)
        rw [← efo] at vap
        have LK2 := LK.2 _ _ vap (by omega)
        rw [j91_1 hi (by omega) hfo Lb y5] at LK2
        by_cases g4 : fo ≤ 400
        · rw [if_pos g4] at LK2
          obtain ⟨h3, eh3⟩ : ∃ z, z = sfi (sfi h1 209 (cA x i) (nn (u.length + 1 + 1))) 210 (cA x i) (nn (u.length + 1 + 1 + fo)) := ⟨_, rfl⟩
          have A3 : Af x i h h3 := by
            rw [eh3]
            exact (A1.fi hi (show 209 ∈ aF by decide)).fi hi (show 210 ∈ aF by decide)
          have z8 : hfi h3 208 (cA x i) = nn (u.length + 1 + 1) := by
            rw [eh3, hfi_sfi, if_neg (by omega), hfi_sfi, if_neg (by omega)]
            exact x8
          have z9 : hfi h3 209 (cA x i) = nn (u.length + 1 + 1) := by
            rw [eh3, hfi_sfi, if_neg (by omega), hfi_sfi, if_pos ⟨rfl, rfl⟩]
          have z10 : hfi h3 210 (cA x i) = nn (u.length + 1 + 1 + fo) := by
            rw [eh3, hfi_sfi, if_pos ⟨rfl, rfl⟩]
          have zC : Cg (hai h3 (cA x i + 2)) 0 (c :: u ++ [b]) := by
            rw [eh3]
            exact xC
          have e1 : C_X0_accept_J30 (cA x i) (nn b) h1 = if u.length + 1 + 1 + fo ≤ u.length + 1 + 1 then some (2, sfi h3 208 (cA x i) 0) else some (1, h3) := by
            have x8s : hfi (sfi h1 (100 * 2 + 9) (cA x i) (nn (u.length + 1 + 1))) (100 * 2 + 8) (cA x i) = nn (u.length + 1 + 1) := by
              rw [hfi_sfi, if_neg (by omega)]
              exact x8
            unfold C_X0_accept_J30
            rw [e_gI c1, x8', if_neg nk1, e_gI c1, x10', bq.1, if_pos rfl, if_pos (hb128.mpr g), e_Cv c1, e_bd ef, if_pos (by rw [show (400 : Int32) = nn 400 from rfl, nn_le (by omega) (by omega)]; exact g4), e_gI c1, x8', e_pI c1, e_gI (by exact c1), x8s, e_pI (by exact c1), nn_add]
            rw [show sfi (sfi h1 (100 * 2 + 9) (cA x i) (nn (u.length + 1 + 1))) (100 * 2 + 10) (cA x i) (nn (u.length + 1 + 1 + fo)) = h3 from eh3.symm]
            exact acc109 (T.sto A3.1.1) hi z8 z10 (by omega) (by omega)
          by_cases g0 : fo = 0
          · rw [if_pos (by omega)] at e1
            rw [if_pos (by omega)] at LK2
            refine ⟨2, _, ev.trans e1, A3.fi hi (show 208 ∈ aF by decide), zC, yM, Or.inr (Or.inl ⟨rfl, 1 + (u.length + 1), by omega, by rw [hu]; omega, by rw [hu]; omega, ?_, ?_, ?_, ?_⟩)⟩
            · rw [hfi_sfi, if_pos ⟨rfl, rfl⟩]
            · rw [hfi_sfi, if_neg (by omega), z9]
              congr 1
              omega
            · rw [hfi_sfi, if_neg (by omega), z10, hu, g0]
            · rw [hu]
              exact LK2
          · rw [if_neg (by omega)] at e1
            rw [if_neg (by omega)] at LK2
            refine ⟨1, _, ev.trans e1, A3, zC, yM, Or.inl ⟨rfl, mkI h3 A3 z8 zC (by rw [hu]; omega) ?_, LK2⟩⟩
            rw [et, vap]
            refine ⟨by rw [z9]; congr 1; omega, by rw [z10]; congr 1; omega, by rw [ll, hu]; omega, g4, by omega⟩
        · rw [if_neg g4] at LK2
          have e1 : C_X0_accept_J30 (cA x i) (nn b) h1 = some (149, h1) := by
            unfold C_X0_accept_J30
            rw [e_gI c1, x8', if_neg nk1, e_gI c1, x10', bq.1, if_pos rfl, if_pos (hb128.mpr g), e_Cv c1, e_bd ef, if_neg (by rw [show (400 : Int32) = nn 400 from rfl, nn_le (by omega) (by omega)]; exact g4)]
            rfl
          exact ⟨149, h1, ev.trans e1, A1, xC, yM, Or.inr (Or.inr ⟨149, Or.inr rfl, rfl, LK2⟩)⟩
      · rw [if_neg g] at vap
        obtain ⟨a', LK1⟩ := LK.1 vap (by omega)
        rw [j91_0 (by omega), Nat.zero_add, lt] at LK1
        have e1 : C_X0_accept_J30 (cA x i) (nn b) h1 = if u.length + 1 = 4 then some (129, h1) else some (1, h1) := by
          unfold C_X0_accept_J30
          rw [e_gI c1, x8', if_neg nk1, e_gI c1, x10', bq.1, if_pos rfl, if_neg (fun z => g (hb128.mp z)), e_gI c1, x8']
          by_cases g5 : u.length + 1 = 4
          · rw [if_pos g5, if_pos (by rw [show u.length + 1 + 1 = 5 by omega]; rfl)]
            rfl
          · rw [if_neg g5, if_neg (fun z : nn (u.length + 1 + 1) = (5 : Int32) => g5 (by have := nn_inj (b := 5) (by omega) (by omega) z; omega))]
            rfl
        by_cases g5 : u.length + 1 = 4
        · rw [if_pos g5] at e1 LK1
          exact ⟨129, h1, ev.trans e1, A1, xC, yM, Or.inr (Or.inr ⟨129, Or.inl rfl, rfl, LK1⟩)⟩
        · rw [if_neg g5] at e1 LK1
          refine ⟨1, h1, ev.trans e1, A1, xC, yM, Or.inl ⟨rfl, mkI h1 A1 x8 xC (by rw [hu]; omega) ?_, LK1⟩⟩
          rw [et, vap]
          exact ⟨by rw [x10]; exact bq.1, by rw [ll, hu]; omega⟩
    | some z =>
      obtain ⟨v, fo⟩ := z
      have bq : hfi h 209 (cA x i) = nn (1 + v) ∧ hfi h 210 (cA x i) = nn (1 + v + fo) ∧ u.length + 1 < 1 + v + fo ∧ fo ≤ 400 ∧ v ≤ 4 := by
        have q := bv'
        rw [show (c :: u).tail = u from rfl, hv] at q
        exact q
      obtain ⟨q9, q10, q1, q2, q3⟩ := bq
      have vap := vr_app2 (b := b) u 0 0 hv
      have v0 := (vr_lt _ _ _ hv).1
      have LK2 := LK.2 _ _ vap q3
      rw [j91_1 hi (by omega) (by omega) Lb y5, if_pos q2] at LK2
      have e1 : C_X0_accept_J30 (cA x i) (nn b) h1 = if 1 + v + fo ≤ u.length + 1 + 1 then some (2, sfi h1 208 (cA x i) 0) else some (1, h1) := by
        unfold C_X0_accept_J30
        rw [e_gI c1, x8', if_neg nk1, e_gI c1, x10', q10, if_neg (nn_ne0 (by omega) (by omega))]
        exact acc109 T1 hi x8 (x10.trans q10) (by omega) (by omega)
      by_cases g0 : 1 + v + fo ≤ u.length + 1 + 1
      · rw [if_pos g0] at e1 LK2
        refine ⟨2, _, ev.trans e1, A1.fi hi (show 208 ∈ aF by decide), xC, yM, Or.inr (Or.inl ⟨rfl, 1 + v, by omega, by rw [hu]; omega, by rw [hu]; omega, ?_, ?_, ?_, ?_⟩)⟩
        · rw [hfi_sfi, if_pos ⟨rfl, rfl⟩]
        · rw [hfi_sfi, if_neg (by omega), x9, q9]
        · rw [hfi_sfi, if_neg (by omega), x10, q10, hu]
          congr 1
          omega
        · rw [hu]
          exact LK2
      · rw [if_neg g0] at e1 LK2
        refine ⟨1, h1, ev.trans e1, A1, xC, yM, Or.inl ⟨rfl, mkI h1 A1 x8 xC (by rw [hu]; omega) ?_, LK2⟩⟩
        rw [et, vap]
        exact ⟨x9.trans q9, x10.trans q10, by rw [ll, hu]; omega, q2, q3⟩
end BYT
