/-! ===== what a packet leaves ===== -/
/-- what stays of connections and of the packet in hand -/
def Kp (x i : Nat) (h h' : Hp) (r r' : RS) : Prop := (r'.2.1 1 = r.2.1 1 ∧ r'.2.1 5 = r.2.1 5 ∧ r'.2.1 6 = r.2.1 6 ∧ r'.2.1 7 = r.2.1 7 ∧ r'.1 75 = r.1 75) ∧ hai h' (cA x i + 2) = hai h (cA x i + 2) ∧ hfi h' 208 (cA x i) = hfi h 208 (cA x i) ∧ ∀ k ∈ [0, 66, 67, 71, 72, 73], r'.1 k = r.1 k
theorem Kp.rf {x i : Nat} {h : Hp} {r : RS} : Kp x i h h r r := ⟨⟨rfl, rfl, rfl, rfl, rfl⟩, rfl, rfl, fun _ _ => rfl⟩
theorem Kp.tr {x i : Nat} {h h1 h2 : Hp} {r r1 r2 : RS} (p : Kp x i h h1 r r1) (q : Kp x i h1 h2 r1 r2) : Kp x i h h2 r r2 := ⟨⟨q.1.1.trans p.1.1, q.1.2.1.trans p.1.2.1, q.1.2.2.1.trans p.1.2.2.1, q.1.2.2.2.1.trans p.1.2.2.2.1, q.1.2.2.2.2.trans p.1.2.2.2.2⟩, q.2.1.trans p.2.1, q.2.2.1.trans p.2.2.1, fun k hk => (q.2.2.2 k hk).trans (p.2.2.2 k hk)⟩
section HDL
variable {x ec es ew s b i n k : Nat} {e0 : Int32} {h h' : Hp} {r r' : RS}
theorem Kp.of {F S : List Nat} {A : Nat → Prop} (p : Fm x F A h h') (w : Ro S r r') (T : Stat x h) (hi : i < 8) (hF : 208 ∉ F) (hA : ¬ A (cA x i + 2)) (hS : ∀ k ∈ [1, 5, 6, 7, 75, 0, 66, 67, 71, 72, 73], k ∉ S) : Kp x i h h' r r' := by
  have := T.cl hi
  exact ⟨⟨w.gA (hS 1 (by decide)), w.gA (hS 5 (by decide)), w.gA (hS 6 (by decide)), w.gA (hS 7 (by decide)), w.gI (hS 75 (by decide))⟩, (p.2.2 (cA x i + 2) (by omega) hA).1, p.gi hF (by omega), fun k hk => w.gI (hS k (by simp only [List.mem_cons, List.not_mem_nil, or_false] at hk ⊢; omega))⟩
theorem gA.ne (R : Rel x ec es ew e0 h r) (hi : i < 8) : ¬ gA x h (cA x i + 2) := fun z => by
  have hx := R.st.1
  rcases z with z | ⟨i', hi', z⟩ | ⟨s', b', h1', h2', z⟩
  · have : cA x i + 2 = x + 2 + 4 * i + 2 := rfl
    omega
  · have : cA x i' + 1 = x + 2 + 4 * i' + 1 := rfl
    have : cA x i + 2 = x + 2 + 4 * i + 2 := rfl
    omega
  · have := (R.ses h1' h2').1.2.1
    have : cA x i + 2 = x + 2 + 4 * i + 2 := rfl
    omega
theorem GH.kp (G : GH x h h' r r') (R : Rel x ec es ew e0 h r) (hi : i < 8) : Kp x i h h' r r' := Kp.of G.1 G.2.1 R.st hi (by decide) (gA.ne R hi) (by decide)
theorem GD.kp (G : GD x h h' r r') (R : Rel x ec es ew e0 h r) (hi : i < 8) : Kp x i h h' r r' := Kp.of G.1 G.2.1 R.st hi (by decide) (gA.ne R hi) (by decide)
theorem Oo.kp (p : Oo x h h') (w : Ro oS r r') (R : Rel x ec es ew e0 h r) (hi : i < 8) : Kp x i h h' r r' := Kp.of p.fm w R.st hi (by decide) (fun z => by
  rcases z with z | ⟨i', hi', z⟩
  · have : cA x i + 2 = x + 2 + 4 * i + 2 := rfl
    omega
  · have : cA x i' + 1 = x + 2 + 4 * i' + 1 := rfl
    have : cA x i + 2 = x + 2 + 4 * i + 2 := rfl
    omega) (by decide)
theorem Sw.kp {c e : Nat} (p : Sw x c e h h' r r') (T : Stat x h) (hi : i < 8) : Kp x i h h' r r' := Kp.of p.1 p.2.1 T hi (by decide) (fun z => by
  have : cA x i + 2 = x + 2 + 4 * i + 2 := rfl
  rcases z with z | z <;> omega) (by decide)
/-- reading changes nothing that the relation speaks of -/
theorem Sw.rel {c e : Nat} (p : Sw x c e h h' r r') (R : Rel x ec es ew e0 h r) : Rel x ec es ew e0 h' r' := by
  obtain ⟨f, bs, W⟩ := R.wr
  refine R.scr (p.1.sub (by decide) (fun a ha => ?_)) (p.2.1.sub (by decide)) ⟨f, bs, W.fmx R.st p.1 (by decide) (fun z => ?_)⟩
  · rcases ha with z | z
    · exact Or.inl z
    · exact Or.inr (Or.inr z)
  · rcases z with z | z <;> omega
theorem Sw.wn {c e : Nat} (p : Sw x c e h h' r r') : WN r' ≤ WN r := p.2.1.wn (by decide) (by decide) (by decide) (by decide)
/-- what a packet of len bytes leaves; v: what the class tells -/
def HP (x i : Nat) (e0 : Int32) (len : Nat) (h : Hp) (r : RS) (v : Int32) (h' : Hp) (r' : RS) : Prop := Rel x i 12 96 e0 h' r' ∧ Kp x i h h' r r' ∧ (∃ f, r'.1 79 = nn f ∧ v = nn f ∧ f < 256 ∧ (f = 0 ∨ 129 ≤ f)) ∧ (hcs h').1 + WN r' ≤ (hcs h).1 + WN r + 60 * len ∧ (hcs h').2 + 6 * WN r' ≤ (hcs h).2 + 6 * WN r + 700 * len
theorem HP.of {c e f len p L : Nat} {bs : List Nat} (R : Rel x i 12 96 e0 h r) (s : Sw x c e h h' r r') (hi : i < 8) (D : Rd x i bs p L f h' r') (hc : c ≤ 60 * len) (he : e ≤ 700 * len) : HP x i e0 len h r (nn f) h' r' := by
  refine ⟨s.rel R, s.kp R.st hi, ⟨f, D.2.1.2.2.1, rfl, D.2.2.1.2.2.2.2.1⟩, ?_, ?_⟩
  · have := s.2.2.1
    have := s.wn
    omega
  · have := s.2.2.2
    have := s.wn
    omega
/-- a fault that only the class still has to see to its end -/
theorem HP.fault {c e f len p L : Nat} {bs : List Nat} {v : Int32} (R : Rel x i 12 96 e0 h r) (s : Sw x c e h h' r r') (hi : i < 8) (D : Rd x i bs p L f h' r') (hc : c ≤ 60 * len) (he : e ≤ 700 * len) (hv : v = nn f) : HP x i e0 len h r v h' r' := by
  rw [hv]
  exact HP.of R s hi D hc he
theorem HP.tr {len : Nat} {h1 : Hp} {r1 : RS} {v : Int32} {c e : Nat} (R : Rel x i 12 96 e0 h r) (s : Sw x c e h h1 r r1) (hi : i < 8) (q1 : Rel x i 12 96 e0 h' r') (q2 : Kp x i h1 h' r1 r') (q3 : ∃ f, r'.1 79 = nn f ∧ v = nn f ∧ f < 256 ∧ (f = 0 ∨ 129 ≤ f)) (q4 : (hcs h').1 + WN r' + c ≤ (hcs h1).1 + WN r1 + 60 * len) (q5 : (hcs h').2 + 6 * WN r' + e ≤ (hcs h1).2 + 6 * WN r1 + 700 * len) : HP x i e0 len h r v h' r' := by
  refine ⟨q1, (s.kp R.st hi).tr q2, q3, ?_, ?_⟩
  · have := s.2.2.1
    have := s.wn
    omega
  · have := s.2.2.2
    have := s.wn
    omega
theorem Rel.at (R : Rel x ec es ew e0 h r) (hi : i < 8) (hs : s < 12) (h7 : r.2.1 7 i = nn s) : ∃ b, har h (x + 34) s = some b ∧ hfr h 202 (cA x i) = some b ∧ r.2.1 1 i = 1 ∧ r.2.1 15 s = nn i := by
  rcases (R.2.2.2.1 i hi).1.2.2.2 with ⟨a1, a2⟩ | ⟨s', b, a0, a1, a2, a3, a4, a5, a6⟩
  · rw [a1] at h7
    exact absurd h7 (neg_nn (by omega))
  · have : s' = s := nn_inj (by omega) (by omega) (a1.symm.trans h7)
    subst this
    exact ⟨b, a5, a6, a2, a4⟩
end HDL
