/-! ===== the names that the broker gives ===== -/
section NAM
variable {x ec es ew s b a v n sf w : Nat} {e0 : Int32} {h h' : Hp} {r r' : RS} {ys : List Nat}
theorem sai_sai {h : Hp} {a : Nat} {F G : Nat → Int32} : sai (sai h a F) a G = sai h a G := by
  unfold sai
  simp only [Prod.mk.injEq, true_and, and_true]
  funext y
  show (if y = a then G else if y = a then F else _) = if y = a then G else _
  by_cases e : y = a
  · rw [if_pos e, if_pos e]
  · rw [if_neg e, if_neg e, if_neg e]
theorem sai_self {h : Hp} {a : Nat} : sai h a (hai h a) = h := by
  unfold sai
  have e : u1 h.2.2.2.2.2.2.1 a (hai h a) = h.2.2.2.2.2.2.1 := by
    funext y
    show (if y = a then hai h a else _) = _
    by_cases e : y = a
    · rw [if_pos e, e]; rfl
    · rw [if_neg e]
  rw [e]
/-- how many digits a number has, beside the last -/
def nd0 : Nat → Nat → Nat
  | 0, _ => 0
  | k + 1, w => if w = 0 then 0 else 1 + nd0 k (w / 10)
def nd (v : Nat) : Nat := 1 + nd0 7 (v / 10)
def dgt (n v j : Nat) : Nat := 48 + v / 10 ^ (n - 1 - j) % 10
def aut : List Nat := [97, 117, 116, 111]
def autoB (v : Nat) : List Nat := aut ++ (List.range (nd v)).map (dgt (nd v) v)
theorem nd0_le : ∀ k w, nd0 k w ≤ k := by
  intro k
  induction k with
  | zero => intro w; exact Nat.le_refl _
  | succ k ih =>
    intro w
    show (if w = 0 then 0 else 1 + nd0 k (w / 10)) ≤ k + 1
    have := ih (w / 10)
    by_cases z : w = 0
    · rw [if_pos z]; omega
    · rw [if_neg z]; omega
theorem nd0_pow : ∀ k w, w < 10 ^ k → w < 10 ^ nd0 k w := by
  intro k
  induction k with
  | zero => intro w hw; exact hw
  | succ k ih =>
    intro w hw
    show w < 10 ^ (if w = 0 then 0 else 1 + nd0 k (w / 10))
    by_cases z : w = 0
    · rw [if_pos z, z]; decide
    · rw [if_neg z]
      have h1 := ih (w / 10) (by rw [Nat.pow_succ] at hw; omega)
      rw [Nat.add_comm 1, Nat.pow_succ]
      omega
theorem nd_b : 1 ≤ nd v ∧ nd v ≤ 8 := by
  have := nd0_le 7 (v / 10)
  unfold nd
  omega
theorem nd_pow (hv : v < 100000000) : v < 10 ^ nd v := by
  have := nd0_pow 7 (v / 10) (by omega)
  unfold nd
  rw [Nat.add_comm 1, Nat.pow_succ]
  omega
theorem autoB_len : (autoB v).length = 4 + nd v := by
  unfold autoB
  rw [List.length_append, List.length_map, List.length_range]
  rfl
theorem dgt_b {j : Nat} : 48 ≤ dgt n v j ∧ dgt n v j ≤ 57 := by
  unfold dgt
  omega
theorem autoB_by : By (autoB v) := by
  refine By.app (by unfold By aut; decide) (fun c hc => ?_)
  obtain ⟨j, _, e⟩ := List.mem_map.mp hc
  have := dgt_b (n := nd v) (v := v) (j := j)
  omega
theorem autoB_a {k : Nat} (hk : k < 4) : (autoB v).getD k 0 = aut.getD k 0 := by
  unfold autoB
  rw [gD_app, if_pos (show k < aut.length from hk)]
theorem autoB_d {j : Nat} (hj : j < nd v) : (autoB v).getD (4 + j) 0 = dgt (nd v) v j := by
  unfold autoB
  rw [gD_app, if_neg (show ¬ 4 + j < aut.length by show ¬ 4 + j < 4; omega), show 4 + j - aut.length = j by show 4 + j - 4 = j; omega, List.getD_eq_getElem?_getD, List.getElem?_map, List.getElem?_range hj]
  rfl
theorem dig_inj : ∀ n v w, v < 10 ^ n → w < 10 ^ n → (∀ k, k < n → v / 10 ^ k % 10 = w / 10 ^ k % 10) → v = w := by
  intro n
  induction n with
  | zero => intro v w h1 h2 _; simp at h1 h2; omega
  | succ n ih =>
    intro v w h1 h2 h3
    rw [Nat.pow_succ] at h1 h2
    have e1 := ih (v / 10) (w / 10) (by omega) (by omega) (fun k hk => by
      have := h3 (k + 1) (by omega)
      rw [Nat.pow_succ, Nat.mul_comm, ← Nat.div_div_eq_div_mul, ← Nat.div_div_eq_div_mul] at this
      exact this)
    have e2 := h3 0 (by omega)
    simp at e2
    omega
theorem autoB_inj (hv : v < 100000000) (hw : w < 100000000) (e : autoB v = autoB w) : v = w := by
  have el : nd v = nd w := by
    have := congrArg List.length e
    rw [autoB_len, autoB_len] at this
    omega
  have p1 := nd_pow hv
  have p2 := nd_pow hw
  rw [← el] at p2
  refine dig_inj (nd v) v w p1 p2 (fun k hk => ?_)
  have e1 := autoB_d (v := v) (j := nd v - 1 - k) (by omega)
  have e2 := autoB_d (v := w) (j := nd v - 1 - k) (by omega)
  rw [e, e2, ← el] at e1
  unfold dgt at e1
  rw [show nd v - 1 - (nd v - 1 - k) = k by omega] at e1
  omega
/-- numbers of the broker's own, changed by both -/
theorem Rel.c72 (R : Rel x ec es ew e0 h r) {u : Int32} : Rel x ec es ew e0 (sfi h 1314 x u) (sI r 72 u) := by
  have T := R.st
  have hx := T.1
  have p : Fm x [1314] (fun _ => False) h (sfi h 1314 x u) := Fm.fi Fm.rf (Or.inl (by decide)) (Or.inl (by decide))
  have w : Ro [72] r (sI r 72 u) := Ro.rf.i (by decide)
  have px : Hx x (hnx h) 8 h (sfi h 1314 x u) := Hx.fi Hx.rf (Or.inl (Or.inr (Or.inr (Or.inr (Or.inr ⟨rfl, by omega⟩))))) (Or.inl (by decide))
  have wx : Ho 12 8 r (sI r 72 u) := Ho.rf.ii (by decide) (by decide)
  obtain ⟨g1, g2, g3, g4, g5, g6, g7, g8⟩ := R.2.1
  refine R.cnn (i := 8) px wx rfl ⟨g1, ?_, ?_, ?_, ?_, ?_, ?_, ?_⟩ (by rw [sSum.fm T p (by decide), w.gI (by decide)]; exact R.2.2.1) (w.gI (by decide)) (fun i' _ _ z => z) (fun z => by omega) (fun d hd => ⟨p.gr (by decide) hd, fun f hf => p.gi (by simp only [List.mem_cons, List.not_mem_nil, or_false] at hf ⊢; omega) hd⟩) (fun u' hu f hf => p.gi (by simp only [List.mem_cons, List.not_mem_nil, or_false] at hf ⊢; omega) hu) (fun z => by omega)
  · rw [p.gi (by decide) (by omega)]; exact g2
  · rw [p.gi (by decide) (by omega)]; exact g3
  · rw [p.gi (by decide) (by omega)]; exact g4
  · rw [p.gi (by decide) (by omega)]; exact g5
  · rw [hfi_sfi, if_pos ⟨rfl, rfl⟩, sI_1, if_pos rfl]
  · rw [p.gi (by decide) (by omega)]; exact g7
  · rw [p.gi (by decide) (by omega)]; exact g8
theorem Rel.c71 (R : Rel x ec es ew e0 h r) {u : Int32} : Rel x ec es ew e0 (sfi h 1315 x u) (sI r 71 u) := by
  have T := R.st
  have hx := T.1
  have p : Fm x [1315] (fun _ => False) h (sfi h 1315 x u) := Fm.fi Fm.rf (Or.inl (by decide)) (Or.inl (by decide))
  have w : Ro [71] r (sI r 71 u) := Ro.rf.i (by decide)
  have px : Hx x (hnx h) 8 h (sfi h 1315 x u) := Hx.fi Hx.rf (Or.inl (Or.inr (Or.inr (Or.inr (Or.inr ⟨rfl, by omega⟩))))) (Or.inl (by decide))
  have wx : Ho 12 8 r (sI r 71 u) := Ho.rf.ii (by decide) (by decide)
  obtain ⟨g1, g2, g3, g4, g5, g6, g7, g8⟩ := R.2.1
  refine R.cnn (i := 8) px wx rfl ⟨g1, ?_, ?_, ?_, ?_, ?_, ?_, ?_⟩ (by rw [sSum.fm T p (by decide), w.gI (by decide)]; exact R.2.2.1) (w.gI (by decide)) (fun i' _ _ z => z) (fun z => by omega) (fun d hd => ⟨p.gr (by decide) hd, fun f hf => p.gi (by simp only [List.mem_cons, List.not_mem_nil, or_false] at hf ⊢; omega) hd⟩) (fun u' hu f hf => p.gi (by simp only [List.mem_cons, List.not_mem_nil, or_false] at hf ⊢; omega) hu) (fun z => by omega)
  · rw [p.gi (by decide) (by omega)]; exact g2
  · rw [p.gi (by decide) (by omega)]; exact g3
  · rw [p.gi (by decide) (by omega)]; exact g4
  · rw [p.gi (by decide) (by omega)]; exact g5
  · rw [p.gi (by decide) (by omega)]; exact g6
  · rw [hfi_sfi, if_pos ⟨rfl, rfl⟩, sI_1, if_pos rfl]
  · rw [p.gi (by decide) (by omega)]; exact g8
/-- how many digits: by the class -/
theorem dig_c {ke : Int32 → Hp → Option (Option Nat × Hp)} : ∀ (k w j f : Nat), w < 10 ^ k → w < 2147483648 → k < f → C_X11_autoId_L20 x ke f (nn j) (nn w) h = ke (nn (j + nd0 k w)) h := by
  intro k
  induction k with
  | zero =>
    intro w j f hw hw2 hf
    obtain ⟨f', rfl⟩ : ∃ z, f = z + 1 := ⟨f - 1, by omega⟩
    have : w = 0 := by simp at hw; exact hw
    subst this
    show C_X11_autoId_B20 x _ ke (nn j) (nn 0) h = _
    unfold C_X11_autoId_B20
    rw [if_pos (by decide)]
    rfl
  | succ k ih =>
    intro w j f hw hw2 hf
    obtain ⟨f', rfl⟩ : ∃ z, f = z + 1 := ⟨f - 1, by omega⟩
    show C_X11_autoId_B20 x _ ke (nn j) (nn w) h = ke (nn (j + if w = 0 then 0 else 1 + nd0 k (w / 10))) h
    unfold C_X11_autoId_B20 lq
    by_cases z : w = 0
    · rw [z, if_pos (by decide), if_pos rfl]
      rfl
    · rw [if_neg (by rw [show (0 : Int32) = nn 0 from rfl, nn_le (by omega) (by omega)]; omega), if_neg z, show (10 : Int32) = nn 10 from rfl, nn_div (by omega) (by omega)]
      dsimp only
      rw [show nn j + 1 = nn (j + 1) from nn_add, ih (w / 10) (j + 1) f' (by rw [Nat.pow_succ] at hw; omega) (by omega) (by omega), Nat.add_assoc]
/-- the class writes a name -/
theorem auto_ev (R : Rel x ec es ew e0 h r) (hv : hfi h 1315 x = nn a) (ha : a < 90000000) (hK : hkd h (hnx h - 1) ≠ 108) : ∃ h', C_X11_autoId x h = some (some (hnx h + 1), h') ∧ Rel x ec es ew e0 h' (sI r 71 (nn (a + 1))) ∧ Rw x h' (hnx h + 1) (autoB (a + 1)) ∧ hnx h' = hnx h + 2 ∧ hkd h' (hnx h + 1) = 10 ∧ Fm x [1315] (fun _ => False) h h' ∧ hfi h' 1315 x = nn (a + 1) ∧ (hcs h').1 = (hcs h).1 + 2 ∧ (hcs h').2 ≤ (hcs h).2 + 13 := by
  have T := R.st
  have hx := T.1
  have kx := T.2.1.1
  obtain ⟨v, hvv⟩ : ∃ z, z = a + 1 := ⟨_, rfl⟩
  obtain ⟨n, hn⟩ : ∃ z, z = nd v := ⟨_, rfl⟩
  have nb := nd_b (v := v)
  rw [← hn] at nb
  obtain ⟨hB, ehB⟩ : ∃ z, z = sfi h 1315 x (nn v) := ⟨_, rfl⟩
  have FB : Fm x [1315] (fun _ => False) h hB := by
    rw [ehB]
    exact Fm.fi Fm.rf (Or.inl (by decide)) (Or.inl (by decide))
  have RB : Rel x ec es ew e0 hB (sI r 71 (nn v)) := by
    rw [ehB]
    exact R.c71
  have TB := RB.st
  have nB : hnx hB = hnx h := by rw [ehB]; rfl
  have vB : hfi hB (100 * 13 + 15) x = nn v := by
    rw [ehB]
    show hfi (sfi h 1315 x (nn v)) 1315 x = _
    rw [hfi_sfi, if_pos ⟨rfl, rfl⟩]
  obtain ⟨y, hy⟩ : ∃ z, z = hnx h := ⟨_, rfl⟩
  obtain ⟨h2, eh2⟩ : ∃ z, z = hay hB 0 (4 + n) := ⟨_, rfl⟩
  have kd2 : ∀ G, hkd (sai h2 y G) y = 101 := fun G => by
    rw [hkd_sai, eh2, hkd_hay, nB, hy, if_pos rfl]
  have ln2 : ∀ G, hln (sai h2 y G) y = 4 + n := fun G => by
    rw [hln_sai, eh2, hln_hay, nB, hy, if_pos rfl]
  have ai2 : ∀ G, hai (sai h2 y G) y = G := fun G => by
    rw [hai_sai, if_pos rfl]
  have kx2 : ∀ G, hkd (sai h2 y G) x = 13 + 1 := fun G => by
    rw [hkd_sai, eh2, hkd_hay, nB, if_neg (by omega), ehB]
    exact kx
  have vx2 : ∀ G, hfi (sai h2 y G) (100 * 13 + 15) x = nn v := fun G => by
    rw [hfi_sai, eh2, hfi_hay]
    exact vB
  -- from the right
  have L85 : ∀ (m f : Nat) (G : Nat → Int32), m ≤ n → m < f → (∀ q, q < 4 → G q = nn (aut.getD q 0)) → (∀ j, m ≤ j → j < n → G (4 + j) = nn (dgt n v j)) → ∃ G', Cg G' 0 (autoB v) ∧ C_X11_autoId_L85 x (fun l2 => C_X11_autoId_J118 x l2) f (some y) (nn (v / 10 ^ (n - m))) (nn (3 + m)) (sai h2 y G) = C_X11_autoId_J118 x (some y) (sai h2 y G') := by
    intro m
    induction m with
    | zero =>
      intro f G hm hf g1 g2
      obtain ⟨f', rfl⟩ : ∃ z, f = z + 1 := ⟨f - 1, by omega⟩
      refine ⟨G, fun k hk => ?_, ?_⟩
      · rw [Nat.zero_add]
        rw [autoB_len, ← hn] at hk
        by_cases z : k < 4
        · rw [g1 k z, autoB_a z]
        · have := g2 (k - 4) (by omega) (by omega)
          rw [show 4 + (k - 4) = k by omega] at this
          have e := autoB_d (v := v) (j := k - 4) (by omega)
          rw [show 4 + (k - 4) = k by omega, ← hn] at e
          rw [this, e]
      · show C_X11_autoId_B85 x _ _ (some y) _ (nn (3 + 0)) _ = _
        unfold C_X11_autoId_B85
        rw [e_sLn, if_pos (by decide)]
    | succ m ih =>
      intro f G hm hf g1 g2
      obtain ⟨f', rfl⟩ : ∃ z, f = z + 1 := ⟨f - 1, by omega⟩
      obtain ⟨u, hu⟩ : ∃ z, z = v / 10 ^ (n - (m + 1)) := ⟨_, rfl⟩
      have hu2 : u ≤ v := by rw [hu]; exact Nat.div_le_self _ _
      have hu3 : v / 10 ^ (n - m) = u / 10 := by
        rw [hu, Nat.div_div_eq_div_mul, ← Nat.pow_succ, show (n - (m + 1)).succ = n - m by omega]
      have hd : dgt n v m = 48 + u % 10 := by
        unfold dgt
        rw [hu, show n - 1 - m = n - (m + 1) by omega]
      obtain ⟨G', c1, c2⟩ := ih f' (upd G (4 + m) (nn (dgt n v m))) (by omega) (by omega) (fun q hq => by
        show (if q = 4 + m then _ else _) = _
        rw [if_neg (by omega)]
        exact g1 q hq) (fun j h1 h2 => by
        show (if 4 + j = 4 + m then _ else _) = _
        by_cases z : j = m
        · rw [if_pos (by omega), z]
        · rw [if_neg (by omega)]
          exact g2 j (by omega) h2)
      refine ⟨G', c1, ?_⟩
      rw [← c2, ← hu, hu3]
      show C_X11_autoId_B85 x _ _ (some y) (nn u) (nn (3 + (m + 1))) _ = _
      unfold C_X11_autoId_B85 lq
      rw [e_sLn, if_neg (by rw [show nn (slen 2) = nn 4 from rfl, nn_lt (by omega) (by omega)]; omega), e_Wi (kd2 G) (nn_inr (by rw [ln2]; omega) (by omega)), nn_N (by omega), ai2, sai_sai, show (10 : Int32) = nn 10 from rfl, nn_div (by omega) (by omega), nn_mul, nn_sub (by omega), show (48 : Int32) = nn 48 from rfl, nn_add, nn_dec (by omega)]
      dsimp only
      rw [hd, show 48 + (u - u / 10 * 10) = 48 + u % 10 by omega, show 3 + (m + 1) - 1 = 3 + m by omega, show 3 + (m + 1) = 4 + m by omega]
  -- from the left
  have L48 : ∀ (c k f : Nat) (G : Nat → Int32), k + c = 4 → c < f → (∀ q, q < k → G q = nn (aut.getD q 0)) → ∃ G', (∀ q, q < 4 → G' q = nn (aut.getD q 0)) ∧ C_X11_autoId_L48 x (fun l2 => C_X11_autoId_J74 x l2) f (some y) (nn k) (sai h2 y G) = C_X11_autoId_J74 x (some y) (sai h2 y G') := by
    intro c
    induction c with
    | zero =>
      intro k f G hk hf g1
      obtain ⟨f', rfl⟩ : ∃ z, f = z + 1 := ⟨f - 1, by omega⟩
      have : k = 4 := by omega
      subst this
      refine ⟨G, g1, ?_⟩
      show C_X11_autoId_B48 x _ _ (some y) (nn 4) _ = _
      unfold C_X11_autoId_B48
      rw [e_sLn, if_pos (by decide)]
    | succ c ih =>
      intro k f G hk hf g1
      obtain ⟨f', rfl⟩ : ∃ z, f = z + 1 := ⟨f - 1, by omega⟩
      have at2 : ∀ k, k < 4 → (sby.getD 2 []).getD k 0 = nn (aut.getD k 0) := by decide
      obtain ⟨G', c1, c2⟩ := ih (k + 1) f' (upd G k (nn (aut.getD k 0))) (by omega) (by omega) (fun q hq => by
        show (if q = k then _ else _) = _
        by_cases z : q = k
        · rw [if_pos z, z]
        · rw [if_neg z]
          exact g1 q (by omega))
      refine ⟨G', c1, ?_⟩
      rw [← c2]
      show C_X11_autoId_B48 x _ _ (some y) (nn k) _ = _
      unfold C_X11_autoId_B48
      rw [e_sLn, if_neg (by rw [show nn (slen 2) = nn 4 from rfl, nn_le (by omega) (by omega)]; omega), e_sAt (by show k < 4; omega) (by omega), at2 k (by omega), e_Wi (kd2 G) (nn_inr (by rw [ln2]; omega) (by omega)), nn_N (by omega), ai2, sai_sai, show nn k + 1 = nn (k + 1) from nn_add]
  obtain ⟨G1, g1, e48⟩ := L48 4 0 fu (hai h2 y) (by omega) (by unfold fu; omega) (fun q hq => by omega)
  obtain ⟨G2, g2, e85⟩ := L85 n fu G1 (Nat.le_refl _) (by unfold fu; omega) g1 (fun j h1 h2 => by omega)
  rw [sai_self] at e48
  have hK' : hkd hB (hnx hB - 1) ≠ 108 := by rw [nB, ehB]; exact hK
  have RI : RwI x hB (autoB v).length (autoB v) (sai h2 y G2) := by
    have I0 := RwI.new (x := x) (h := hB) (n := 4 + n) (by rw [nB]; omega)
    rw [← eh2] at I0
    have yB : y = hnx hB := by rw [nB, hy]
    refine ⟨I0.1.ai (Or.inr (by omega)) (fun z => by have := z.2.1; omega), I0.2.1, by rw [← yB]; exact kd2 G2, by rw [← yB, ln2, autoB_len, ← hn], by rw [← yB, ai2]; exact g2, ?_, ?_⟩
    · show (hcs h2).1 = _
      exact I0.2.2.2.2.2.1
    · show (hcs h2).2 = _
      rw [I0.2.2.2.2.2.2, autoB_len, ← hn]
  obtain ⟨h', e1, N1, W1, K1⟩ := raw_end (l0 := 0) (l1 := 0) RI autoB_by (by rw [nB]; omega) hK'
  rw [nB] at e1 W1 K1
  have ev : C_X11_autoId x h = some (some (hnx h + 1), h') := by
    have e13 : hfi h (100 * 13 + 15) x = nn a := hv
    unfold C_X11_autoId lq
    rw [e_gI (c := 13) kx, e13, show nn a + (1 : Int32) = nn v from by rw [hvv]; exact nn_add, e_pI (c := 13) kx]
    show (hgI 13 15 (some x) fun v14 => C_X11_autoId_L20 x (fun l1 => C_X11_autoId_J35 x l1) fu (1 : Int32) (v14 / (10 : Int32))) (sfi h 1315 x (nn v)) = _
    rw [← ehB, e_gI (c := 13) TB.2.1.1, vB, show (10 : Int32) = nn 10 from rfl, nn_div (by omega) (by omega), show (1 : Int32) = nn 1 from rfl, dig_c 7 (v / 10) 1 fu (by omega) (by omega) (by unfold fu; omega), show 1 + nd0 7 (v / 10) = n from hn.symm]
    unfold C_X11_autoId_J35
    rw [e_sLn, show nn (slen 2) + nn n = nn (4 + n) from nn_add, e_Na ⟨nn_ge (by omega), by rw [nn_N (by omega)]; omega⟩, nn_N (by omega), ← eh2, nB, ← hy]
    refine e48.trans ?_
    unfold C_X11_autoId_J74 lq
    rw [e_gI (c := 13) (kx2 G1), vx2, e_Ln (t := 0) (kd2 G1), ln2]
    dsimp only
    have e3 : Int32.ofNat (4 + n) - 1 = nn (3 + n) := by
      show nn (4 + n) - nn 1 = _
      rw [nn_sub (by omega), show 4 + n - 1 = 3 + n by omega]
    rw [e3]
    have e4 : nn v = nn (v / 10 ^ (n - n)) := by rw [Nat.sub_self, Nat.pow_zero, Nat.div_one]
    rw [e4]
    refine e85.trans ?_
    rw [hy]
    rw [hy] at e1
    exact e1
  rw [hvv] at hn W1 vB
  refine ⟨h', ev, ?_, W1, by rw [N1.2.1, nB], K1, FB.tr (N1.1.sub (by decide) (fun _ z => z)), ?_, ?_, ?_⟩
  · rw [← hvv]
    exact RB.new N1.1
  · rw [N1.1.gi (by decide) (by rw [nB]; omega)]
    exact vB
  · rw [N1.2.2.1, ehB]
    rfl
  · rw [N1.2.2.2, autoB_len, ehB, hvv, ← hn]
    show (hcs h).2 + _ ≤ _
    omega
end NAM
