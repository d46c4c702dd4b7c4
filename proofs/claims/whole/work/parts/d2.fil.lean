/-! ===== the model fills a slot ===== -/
/-- bytes are laid at place l of the store -/
def Cp (r r' : RS) (l : Nat) (ys : List Nat) : Prop := Ro [45] r r' ∧ Mg (r'.2.1 45) l ys ∧ ∀ q, (q < l ∨ l + ys.length ≤ q) → r'.2.1 45 q = r.2.1 45 q
/-- the list of the fields of a slot -/
def flS : List Nat := [46, 47, 48, 49, 50, 51, 52, 53, 54, 55, 56, 57, 58, 59, 60, 61, 62]
/-- only slot j changes -/
def Fi (j : Nat) (r r' : RS) : Prop := Ro slS r r' ∧ (∀ k ∈ flS, ∀ q, q ≠ j → r'.2.1 k q = r.2.1 k q ∧ r'.2.2 k q = r.2.2 k q) ∧ ∀ q, (q < 480 * j ∨ 480 * j + 480 ≤ q) → r'.2.1 45 q = r.2.1 45 q
section FIL
variable {j l n o k i : Nat} {r r' r1 : RS} {ys : List Nat}
theorem Fi.rf : Fi j r r := ⟨Ro.rf, fun _ _ _ _ => ⟨rfl, rfl⟩, fun _ _ => rfl⟩
theorem Fi.a {v : Int32} (p : Fi j r r') (hk : k ∈ flS) : Fi j r (sA r' k j v) := by
  have hk' : k ∈ slS := by
    simp only [flS, slS, List.mem_cons, List.not_mem_nil, or_false] at hk ⊢
    omega
  have k45 : k ≠ 45 := fun z => by
    rw [z] at hk
    exact absurd hk (by decide)
  refine ⟨p.1.a hk', fun k' hk'' q hq => ?_, fun q hq => ?_⟩
  · obtain ⟨a, b⟩ := p.2.1 k' hk'' q hq
    refine ⟨?_, b⟩
    rw [sA_2, if_neg (fun z => hq z.2)]
    exact a
  · rw [sA_2, if_neg (fun z => k45 z.1.symm)]
    exact p.2.2 q hq
theorem Fi.lo {v : Int64} (p : Fi j r r') (hk : k ∈ flS) : Fi j r (sL r' k j v) := by
  have hk' : k ∈ slS := by
    simp only [flS, slS, List.mem_cons, List.not_mem_nil, or_false] at hk ⊢
    omega
  refine ⟨p.1.l hk', fun k' hk'' q hq => ?_, fun q hq => ?_⟩
  · obtain ⟨a, b⟩ := p.2.1 k' hk'' q hq
    refine ⟨a, ?_⟩
    rw [sL_3, if_neg (fun z => hq z.2)]
    exact b
  · rw [sL_2]
    exact p.2.2 q hq
theorem Fi.cp (p : Fi j r r1) (c : Cp r1 r' l ys) (h1 : 480 * j ≤ l) (h2 : l + ys.length ≤ 480 * j + 480) : Fi j r r' := by
  refine ⟨p.1.tr (c.1.sub (by decide)), fun k' hk' q hq => ?_, fun q hq => ?_⟩
  · have k45 : k' ∉ [45] := fun z => by
      rw [List.mem_singleton.mp z] at hk'
      exact absurd hk' (by decide)
    rw [c.1.gA k45, c.1.gL k45]
    exact p.2.1 k' hk' q hq
  · rw [c.2.2 q (by omega)]
    exact p.2.2 q hq
theorem Fi.mk (p : Ro [63] r r') : Fi j r r' := ⟨p.sub (by decide), fun k hk q _ => by
  have k63 : k ∉ [63] := fun z => by
    rw [List.mem_singleton.mp z] at hk
    exact absurd hk (by decide)
  rw [p.gA k63, p.gL k63]
  exact ⟨rfl, rfl⟩, fun q _ => by rw [p.gA (by decide)]⟩
theorem Fi.tr {r2 : RS} (p : Fi j r r1) (q : Fi j r1 r2) : Fi j r r2 := ⟨p.1.tr q.1, fun k hk q' hq => ⟨((q.2.1 k hk q' hq).1).trans (p.2.1 k hk q' hq).1, ((q.2.1 k hk q' hq).2).trans (p.2.1 k hk q' hq).2⟩, fun q' hq => (q.2.2 q' hq).trans (p.2.2 q' hq)⟩
theorem Fi.sj (p : Fi j r r') {j' : Nat} (hj : j' ≠ j) : Sj r r' j' ∧ r'.2.1 51 j' = r.2.1 51 j' := by
  refine ⟨⟨fun k hk => (p.2.1 k ?_ j' hj).1, (p.2.1 50 (by decide) j' hj).2, fun q h1 h2 => p.2.2 q (by omega)⟩, (p.2.1 51 (by decide) j' hj).1⟩
  simp only [flS, List.mem_cons, List.not_mem_nil, or_false] at hk ⊢
  omega
/-- a step of laying bytes -/
theorem Cp.step {v : Nat} (c : Cp r r1 l ys) (hv : v < 256) : Cp r (sA r1 45 (l + ys.length) (sb v)) l (ys ++ [v]) := by
  refine ⟨c.1.a (by decide), ?_, fun q hq => ?_⟩
  · refine Mg.app (Mg.of c.2.1 (fun q hq => ?_)) (Mg.one ?_)
    · rw [sA_2, if_neg (by omega)]
    · rw [sA_2, if_pos ⟨rfl, rfl⟩]
  · rw [List.length_append, List.length_singleton] at hq
    rw [sA_2, if_neg (by omega)]
    exact c.2.2 q (by omega)
theorem Cp.nil : Cp r r l [] := ⟨Ro.rf, Mg.nil, fun _ _ => rfl⟩
theorem take_s {l : List Nat} {c : Nat} (h : c < l.length) : l.take (c + 1) = l.take c ++ [l.getD c 0] := take_snoc h
theorem qm_copy (hM : Mg (r.2.1 6) o ys) (B : By ys) (ho : o + ys.length ≤ 3280) (hl : l + ys.length ≤ 307200) (hys : ys.length ≤ 405) : ∃ r', R_copy (nn l) (nn o) (nn ys.length) r = some (nn (l + ys.length), r') ∧ Cp r r' l ys := by
  unfold R_copy
  have key : ∀ (c q f : Nat) (r1 : RS), q + c = ys.length → c < f → Cp r r1 l (ys.take q) → ∃ r', R_copy_L3 (fun l1 l3 => R_copy_J33 l1 l3) f (nn l) (nn o) (nn ys.length) (nn q) r1 = some (nn (l + ys.length), r') ∧ Cp r r' l ys := by
    intro c
    induction c with
    | zero =>
      intro q f r1 hq hf C
      obtain ⟨f', rfl⟩ : ∃ z, f = z + 1 := ⟨f - 1, by omega⟩
      have : q = ys.length := by omega
      subst this
      rw [List.take_length] at C
      refine ⟨r1, ?_, C⟩
      show R_copy_B3 _ _ (nn l) (nn o) (nn ys.length) (nn ys.length) r1 = _
      unfold R_copy_B3 R_copy_J33
      rw [if_pos (by rw [nn_le (by omega) (by omega)]; omega)]
      show rt (nn l + nn ys.length) r1 = _
      rw [nn_add]
      rfl
    | succ c ih =>
      intro q f r1 hq hf C
      obtain ⟨f', rfl⟩ : ∃ z, f = z + 1 := ⟨f - 1, by omega⟩
      have hql : q < ys.length := by omega
      have lt : (ys.take q).length = q := by rw [List.length_take]; omega
      have b256 := B.at q
      have C2 := C.step b256
      rw [← take_s hql, lt] at C2
      obtain ⟨r2, e1, e2⟩ := ih (q + 1) f' _ (by omega) (by omega) C2
      refine ⟨r2, ?_, e2⟩
      rw [← e1]
      show R_copy_B3 _ _ (nn l) (nn o) (nn ys.length) (nn q) r1 = _
      unfold R_copy_B3
      rw [if_neg (by rw [nn_le (by omega) (by omega)]; omega), nn_add, x_rA mL_6 (by omega) (by omega), C.1.gA (by decide), hM q hql, nn_add, x_wA mL_45 (by omega) (by omega), nar_sb b256, l_1, nn_add]
  exact key ys.length 0 fu r (by omega) (by unfold fu; omega) (by rw [List.take_zero]; exact Cp.nil)
/-- the topic is laid -/
theorem qm_ctop {ke : Int32 → Int32 → Int32 → Int32 → Int32 → Int32 → RS → Option (Int32 × RS)} {l1 l2 l3 l4 l5 : Int32} (hM : Mg (r.2.1 97) 0 ys) (B : By ys) (hn : r.1 98 = nn ys.length) (hl : l + ys.length ≤ 307200) (hys : ys.length ≤ 64) : ∃ r', R_message_L229 ke fu l1 l2 l3 l4 l5 (nn l) 0 r = ke l1 l2 l3 l4 l5 (nn (l + ys.length)) r' ∧ Cp r r' l ys := by
  have key : ∀ (c q f : Nat) (r1 : RS), q + c = ys.length → c < f → Cp r r1 l (ys.take q) → ∃ r', R_message_L229 ke f l1 l2 l3 l4 l5 (nn (l + q)) (nn q) r1 = ke l1 l2 l3 l4 l5 (nn (l + ys.length)) r' ∧ Cp r r' l ys := by
    intro c
    induction c with
    | zero =>
      intro q f r1 hq hf C
      obtain ⟨f', rfl⟩ : ∃ z, f = z + 1 := ⟨f - 1, by omega⟩
      have : q = ys.length := by omega
      subst this
      rw [List.take_length] at C
      refine ⟨r1, ?_, C⟩
      show R_message_B229 _ _ l1 l2 l3 l4 l5 _ (nn ys.length) r1 = _
      unfold R_message_B229
      rw [x_rI, C.1.gI (by decide), hn, if_pos (by rw [nn_le (by omega) (by omega)]; omega)]
    | succ c ih =>
      intro q f r1 hq hf C
      obtain ⟨f', rfl⟩ : ∃ z, f = z + 1 := ⟨f - 1, by omega⟩
      have hql : q < ys.length := by omega
      have lt : (ys.take q).length = q := by rw [List.length_take]; omega
      have b256 := B.at q
      have C2 := C.step b256
      rw [← take_s hql, lt] at C2
      obtain ⟨r2, e1, e2⟩ := ih (q + 1) f' _ (by omega) (by omega) C2
      refine ⟨r2, ?_, e2⟩
      rw [← e1]
      have hMq := hM q hql
      rw [Nat.zero_add] at hMq
      show R_message_B229 _ _ l1 l2 l3 l4 l5 (nn (l + q)) (nn q) r1 = _
      unfold R_message_B229
      rw [x_rI, C.1.gI (by decide), hn, if_neg (by rw [nn_le (by omega) (by omega)]; omega), x_rA mL_97 (by omega) (by omega), C.1.gA (by decide), hMq, x_wA mL_45 (by omega) (by omega), nar_sb b256, l_1, nn_add, nn_add]
      rfl
  exact key ys.length 0 fu r (by omega) (by unfold fu; omega) (by rw [List.take_zero]; exact Cp.nil)
/-- the user's properties are laid -/
theorem qm_cusr {ke : Int32 → Int32 → Int32 → RS → Option (Int32 × RS)} {l3 l4 l5 : Int32} (hM : Mg (r.2.1 86) 0 ys) (B : By ys) (hn : r.1 87 = nn ys.length) (hl : l + ys.length ≤ 307200) (hys : ys.length < 400) : ∃ r', R_message_L594 ke fu l3 l4 l5 (nn l) 0 r = ke l3 l4 l5 r' ∧ Cp r r' l ys := by
  have key : ∀ (c q f : Nat) (r1 : RS), q + c = ys.length → c < f → Cp r r1 l (ys.take q) → ∃ r', R_message_L594 ke f l3 l4 l5 (nn (l + q)) (nn q) r1 = ke l3 l4 l5 r' ∧ Cp r r' l ys := by
    intro c
    induction c with
    | zero =>
      intro q f r1 hq hf C
      obtain ⟨f', rfl⟩ : ∃ z, f = z + 1 := ⟨f - 1, by omega⟩
      have : q = ys.length := by omega
      subst this
      rw [List.take_length] at C
      refine ⟨r1, ?_, C⟩
      show R_message_B594 _ _ l3 l4 l5 _ (nn ys.length) r1 = _
      unfold R_message_B594
      rw [x_rI, C.1.gI (by decide), hn, if_pos (by rw [nn_le (by omega) (by omega)]; omega)]
    | succ c ih =>
      intro q f r1 hq hf C
      obtain ⟨f', rfl⟩ : ∃ z, f = z + 1 := ⟨f - 1, by omega⟩
      have hql : q < ys.length := by omega
      have lt : (ys.take q).length = q := by rw [List.length_take]; omega
      have b256 := B.at q
      have C2 := C.step b256
      rw [← take_s hql, lt] at C2
      obtain ⟨r2, e1, e2⟩ := ih (q + 1) f' _ (by omega) (by omega) C2
      refine ⟨r2, ?_, e2⟩
      rw [← e1]
      have hMq := hM q hql
      rw [Nat.zero_add] at hMq
      show R_message_B594 _ _ l3 l4 l5 (nn (l + q)) (nn q) r1 = _
      unfold R_message_B594
      rw [x_rI, C.1.gI (by decide), hn, if_neg (by rw [nn_le (by omega) (by omega)]; omega), x_rA mL_86 (by omega) (by omega), C.1.gA (by decide), hMq, x_wA mL_45 (by omega) (by omega), nar_sb b256, l_1, nn_add, nn_add]
      rfl
  exact key ys.length 0 fu r (by omega) (by unfold fu; omega) (by rw [List.take_zero]; exact Cp.nil)
/-- a part of the model's message: a property that is a row -/
def PT (key : Int32) (fa fs : Nat) (K : Int32 → RS → Option (Int32 × RS)) (l5 l6 : Int32) : RS → Option (Int32 × RS) :=
  wA fa l5 l6 <| rA 82 key fun v19 => if v19 = 0 then (wA fs l5 (-1 : Int32) <| rA 82 key fun v15 => if v15 = 0 then K l6 else rA 84 key fun v16 => rA 85 key fun v17 => bd (R_copy l6 v16 v17) fun r18 => K r18) else rA 85 key fun v20 => (wA fs l5 v20 <| rA 82 key fun v15 => if v15 = 0 then K l6 else rA 84 key fun v16 => rA 85 key fun v17 => bd (R_copy l6 v16 v17) fun r18 => K r18)
theorem qm_pRow {bs : List Nat} {s key fa fs : Nat} {K : Int32 → RS → Option (Int32 × RS)} (hk : key < 64) (hfa : mL fa = 640) (hfs : mL fs = 640) (hfa2 : fa ∈ flS) (hfs2 : fs ∈ flS) (hne : fa ≠ fs) (hj : j < 509) (hl : 480 * j ≤ l) (hM : Mg (r.2.1 6) (410 * i) bs) (B : By bs) (hbl : bs.length ≤ 405) (hi : i < 8)
    (hb : r.2.1 82 key = 0 ∨ (r.2.1 82 key = 1 ∧ r.2.1 84 key = nn (410 * i + (s + 3)) ∧ r.2.1 85 key = nn (b2 bs (s + 1)) ∧ s + 3 + b2 bs (s + 1) ≤ bs.length)) (hl2 : r.2.1 82 key = 1 → l + b2 bs (s + 1) ≤ 480 * j + 480) (hl3 : l ≤ 480 * j + 480) :
    ∃ r' l' lst, PT (nn key) fa fs K (nn j) (nn l) r = K (nn l') r' ∧ Fi j r r' ∧ Ro [fa, fs, 45] r r' ∧ (∀ S rz, Ro S r' rz → fa ∉ S → fs ∉ S → (∀ q, q < l' → rz.2.1 45 q = r'.2.1 45 q) → Prt rz j key fa fs lst) ∧ l ≤ l' ∧ (∀ q, q < l → r'.2.1 45 q = r.2.1 45 q) ∧ ((r.2.1 82 key = 0 ∧ l' = l ∧ lst = []) ∨ (r.2.1 82 key = 1 ∧ l' = l + b2 bs (s + 1) ∧ lst = key :: (b2 bs (s + 1) / 256) :: (b2 bs (s + 1) % 256) :: sl bs (s + 3) (b2 bs (s + 1)))) := by
  have fa82 : fa ≠ 82 ∧ fa ≠ 84 ∧ fa ≠ 85 ∧ fa ≠ 6 ∧ fa ≠ 45 := by
    simp only [flS, List.mem_cons, List.not_mem_nil, or_false] at hfa2
    omega
  have fs82 : fs ≠ 82 ∧ fs ≠ 84 ∧ fs ≠ 85 ∧ fs ≠ 6 ∧ fs ≠ 45 := by
    simp only [flS, List.mem_cons, List.not_mem_nil, or_false] at hfs2
    omega
  unfold PT
  rw [x_wA hfa (by omega) (by omega), x_rA mL_82 hk (by omega), sA_o (fun z => fa82.1 z.symm)]
  rcases hb with h0 | ⟨h1, h84, h85, hlen⟩
  · rw [h0, if_pos rfl, x_wA hfs (by omega) (by omega), x_rA mL_82 hk (by omega), sA_o (fun z => fs82.1 z.symm), sA_o (fun z => fa82.1 z.symm), h0, if_pos rfl]
    refine ⟨_, l, [], rfl, (Fi.rf.a hfa2).a hfs2, (Ro.rf.a (List.mem_cons_self ..)).a (by simp), fun S rz w n1 n2 _ => Or.inl ⟨by rw [w.gA n2, sA_2, if_pos ⟨rfl, rfl⟩], rfl⟩, Nat.le_refl _, fun q _ => by rw [sA_o (fun z => fs82.2.2.2.2 z.symm), sA_o (fun z => fa82.2.2.2.2 z.symm)], Or.inl ⟨rfl, rfl, rfl⟩⟩
  · have hb2 := B.two (s + 1)
    have hsl := sl_len (bs := bs) (q := s + 3) (n := b2 bs (s + 1)) hlen
    have hl2' := hl2 h1
    rw [h1, if_neg (by decide), x_rA mL_85 hk (by omega), sA_o (fun z => fa82.2.2.1 z.symm), h85, x_wA hfs (by omega) (by omega), x_rA mL_82 hk (by omega), sA_o (fun z => fs82.1 z.symm), sA_o (fun z => fa82.1 z.symm), h1, if_neg (by decide), x_rA mL_84 hk (by omega), sA_o (fun z => fs82.2.1 z.symm), sA_o (fun z => fa82.2.1 z.symm), h84, x_rA mL_85 hk (by omega), sA_o (fun z => fs82.2.2.1 z.symm), sA_o (fun z => fa82.2.2.1 z.symm), h85]
    have hM2 : Mg ((sA (sA r fa j (nn l)) fs j (nn (b2 bs (s + 1)))).2.1 6) (410 * i + (s + 3)) (sl bs (s + 3) (b2 bs (s + 1))) := by
      rw [sA_o (fun z => fs82.2.2.2.1 z.symm), sA_o (fun z => fa82.2.2.2.1 z.symm)]
      exact hM.slc hlen
    obtain ⟨r2, e1, C⟩ := qm_copy (l := l) hM2 (sl_by B) (by omega) (by omega) (by omega)
    rw [hsl] at e1
    rw [e_bd e1]
    have c45 : ∀ k, k ≠ 45 → r2.2.1 k = (sA (sA r fa j (nn l)) fs j (nn (b2 bs (s + 1)))).2.1 k := fun k hk => C.1.gA (fun z => hk (List.mem_singleton.mp z))
    refine ⟨r2, l + b2 bs (s + 1), _, rfl, ((Fi.rf.a hfa2).a hfs2).cp C hl (by omega), ((Ro.rf.a (List.mem_cons_self ..)).a (by simp)).tr (C.1.sub (by simp)), fun S rz w n1 n2 hs => Or.inr ⟨sl bs (s + 3) (b2 bs (s + 1)), ⟨l, ?_, ?_, C.2.1.of (fun q hq => hs (l + q) (by omega)), hl, by omega⟩, by omega, rfl⟩, by omega, fun q hq => ?_, Or.inr ⟨rfl, rfl, by rw [hsl]⟩⟩
    · rw [w.gA n1, c45 fa fa82.2.2.2.2, sA_o hne, sA_2, if_pos ⟨rfl, rfl⟩]
    · rw [w.gA n2, c45 fs fs82.2.2.2.2, sA_2, if_pos ⟨rfl, rfl⟩, hsl]
    · rw [C.2.2 q (by omega), sA_o (fun z => fs82.2.2.2.2 z.symm), sA_o (fun z => fa82.2.2.2.2 z.symm)]
end FIL
