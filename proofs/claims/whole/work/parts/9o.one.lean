/-! ===== one session and one connection change; the others do not ===== -/
def ow (k n : Nat) : Nat := if k = 14 then n / 20 else if k = 26 then n / 512 else if k = 25 ∨ (27 ≤ k ∧ k ≤ 30) ∨ k = 44 then n / 8 else if 32 ≤ k ∧ k ≤ 37 then n / 16 else if 39 ≤ k ∧ k ≤ 42 then n / 24 else n
def oc (k n : Nat) : Nat := if k = 4 then n / 2000 else if k = 6 then n / 410 else if k = 9 then n / 4 else if k = 10 then n / 256 else n
def Pm (s i k n : Nat) : Prop := (1 ≤ k ∧ k ≤ 10 ∧ oc k n = i) ∨ (11 ≤ k ∧ k ≤ 44 ∧ ow k n = s) ∨ k = 0 ∨ k = 62 ∨ k = 63 ∨ 75 ≤ k
def Ho (s i : Nat) (r r' : RS) : Prop := (r'.1 65 = r.1 65 ∧ r'.1 66 = r.1 66) ∧ ∀ k n, ¬ Pm s i k n → r'.2.1 k n = r.2.1 k n ∧ r'.2.2 k n = r.2.2 k n
def Px (x b i f a : Nat) : Prop := (a = b ∧ 1002 ≤ f ∧ f ≤ 1017) ∨ (i < 8 ∧ a = cA x i) ∨ (300 ≤ f ∧ f ≤ 305) ∨ (1102 ≤ f ∧ f ≤ 1105) ∨ (a = x ∧ 1309 ≤ f)
def Ax (x b i a : Nat) : Prop := (b + 1 ≤ a ∧ a ≤ b + 4) ∨ (i < 8 ∧ cA x i + 1 ≤ a ∧ a ≤ cA x i + 3) ∨ a = x + 34
def Hx (x b i : Nat) (h h' : Hp) : Prop := Sto x h h' ∧ (∀ f a, a < hnx h → ¬ Px x b i f a → hfi h' f a = hfi h f a ∧ hfl h' f a = hfl h f a ∧ hfr h' f a = hfr h f a) ∧ ∀ a, a < hnx h → ¬ Ax x b i a → hai h' a = hai h a ∧ har h' a = har h a ∧ hal h' a = hal h a
section HOX
variable {x b s i k n : Nat} {h h' h1 : Hp} {r r' r1 : RS}
theorem Ho.rf : Ho s i r r := ⟨⟨rfl, rfl⟩, fun _ _ _ => ⟨rfl, rfl⟩⟩
theorem Ho.tr (p : Ho s i r r1) (q : Ho s i r1 r') : Ho s i r r' := ⟨⟨q.1.1.trans p.1.1, q.1.2.trans p.1.2⟩, fun k n hk => ⟨(q.2 k n hk).1.trans (p.2 k n hk).1, (q.2 k n hk).2.trans (p.2 k n hk).2⟩⟩
theorem Ho.a {v : Int32} (p : Ho s i r r') (hp : Pm s i k n) : Ho s i r (sA r' k n v) := ⟨p.1, fun k' n' hk => ⟨by
  rw [sA_2, if_neg (fun z => hk (by rw [z.1, z.2]; exact hp))]
  exact (p.2 k' n' hk).1, by rw [sA_3]; exact (p.2 k' n' hk).2⟩⟩
theorem Ho.l {v : Int64} (p : Ho s i r r') (hp : Pm s i k n) : Ho s i r (sL r' k n v) := ⟨p.1, fun k' n' hk => ⟨by rw [sL_2]; exact (p.2 k' n' hk).1, by
  rw [sL_3, if_neg (fun z => hk (by rw [z.1, z.2]; exact hp))]
  exact (p.2 k' n' hk).2⟩⟩
theorem Ho.ii {v : Int32} (p : Ho s i r r') (h1 : k ≠ 65) (h2 : k ≠ 66) : Ho s i r (sI r' k v) := ⟨⟨by rw [sI_1, if_neg (fun z => h1 z.symm)]; exact p.1.1, by rw [sI_1, if_neg (fun z => h2 z.symm)]; exact p.1.2⟩, fun k' n' hk => by rw [sI_2]; exact p.2 k' n' hk⟩
theorem Hx.rf : Hx x b i h h := ⟨Sto.rf, fun _ _ _ _ => ⟨rfl, rfl, rfl⟩, fun _ _ _ => ⟨rfl, rfl, rfl⟩⟩
theorem Hx.fi {f a : Nat} {v : Int32} (p : Hx x b i h h') (hp : Px x b i f a ∨ hnx h ≤ a) (hg : f ∉ finI ∨ hnx h ≤ a) : Hx x b i h (sfi h' f a v) := by
  refine ⟨p.1.fi hg, fun g c hc hq => ?_, p.2.2⟩
  obtain ⟨u1, u2, u3⟩ := p.2.1 g c hc hq
  refine ⟨?_, u2, u3⟩
  rw [hfi_sfi, if_neg]
  · exact u1
  · rintro ⟨rfl, rfl⟩
    rcases hp with z | z
    · exact hq z
    · omega
theorem Hx.fl {f a : Nat} {v : Int64} (p : Hx x b i h h') (hp : Px x b i f a ∨ hnx h ≤ a) (hg : f ≠ 507 ∨ hnx h ≤ a) : Hx x b i h (sfl h' f a v) := by
  refine ⟨p.1.fl hg, fun g c hc hq => ?_, p.2.2⟩
  obtain ⟨u1, u2, u3⟩ := p.2.1 g c hc hq
  refine ⟨u1, ?_, u3⟩
  rw [hfl_sfl, if_neg]
  · exact u2
  · rintro ⟨rfl, rfl⟩
    rcases hp with z | z
    · exact hq z
    · omega
theorem Hx.fr {f a : Nat} {v : Option Nat} (p : Hx x b i h h') (hp : Px x b i f a ∨ hnx h ≤ a) (hg : f ∉ finR ∨ hnx h ≤ a) : Hx x b i h (sfr h' f a v) := by
  refine ⟨p.1.fr hg, fun g c hc hq => ?_, p.2.2⟩
  obtain ⟨u1, u2, u3⟩ := p.2.1 g c hc hq
  refine ⟨u1, u2, ?_⟩
  rw [hfr_sfr, if_neg]
  · exact u3
  · rintro ⟨rfl, rfl⟩
    rcases hp with z | z
    · exact hq z
    · omega
theorem Hx.ai {a : Nat} {v : Nat → Int32} (p : Hx x b i h h') (ha : Ax x b i a ∨ hnx h ≤ a) (hz : ¬ Fz x h a) : Hx x b i h (sai h' a v) := by
  refine ⟨p.1.ai hz, p.2.1, fun c hc hB => ?_⟩
  have u := p.2.2 c hc hB
  have e : c ≠ a := fun e => by
    rcases ha with z | z
    · exact hB (by rw [e]; exact z)
    · omega
  exact ⟨by rw [hai_sai, if_neg e]; exact u.1, u.2.1, u.2.2⟩
theorem Hx.ar {a : Nat} {v : Nat → Option Nat} (p : Hx x b i h h') (ha : Ax x b i a ∨ hnx h ≤ a) (hz : a ≠ x + 1) : Hx x b i h (sar h' a v) := by
  refine ⟨p.1.ar hz, p.2.1, fun c hc hB => ?_⟩
  have u := p.2.2 c hc hB
  have e : c ≠ a := fun e => by
    rcases ha with z | z
    · exact hB (by rw [e]; exact z)
    · omega
  exact ⟨u.1, by rw [har_sar, if_neg e]; exact u.2.1, u.2.2⟩
theorem Hx.tr (p : Hx x b i h h1) (q : Hx x b i h1 h') : Hx x b i h h' := by
  refine ⟨p.1.tr q.1, fun f a ha hp => ?_, fun a ha hp => ?_⟩
  · have u := p.2.1 f a ha hp
    have v := q.2.1 f a (Nat.lt_of_lt_of_le ha p.1.1) hp
    exact ⟨v.1.trans u.1, v.2.1.trans u.2.1, v.2.2.trans u.2.2⟩
  · have u := p.2.2 a ha hp
    have v := q.2.2 a (Nat.lt_of_lt_of_le ha p.1.1) hp
    exact ⟨v.1.trans u.1, v.2.1.trans u.2.1, v.2.2.trans u.2.2⟩
end HOX
section ONE
variable {x ec es ew ec' es' s i b : Nat} {e0 e0' : Int32} {h h' : Hp} {r r' : RS}
theorem pm_c {k n i' : Nat} (hk1 : 1 ≤ k) (hk2 : k ≤ 10) (e : oc k n = i') (hi : i' ≠ i) : ¬ Pm s i k n := by
  rintro (z | z | z | z | z | z) <;> omega
theorem pm_s {k n s' : Nat} (hk1 : 11 ≤ k) (hk2 : k ≤ 44) (e : ow k n = s') (hs : s' ≠ s) : ¬ Pm s i k n := by
  rintro (z | z | z | z | z | z) <;> omega
theorem pm_m {k n : Nat} (hk1 : 45 ≤ k) (hk2 : k ≤ 61 ∨ k = 64) : ¬ Pm s i k n := by
  rintro (z | z | z | z | z | z) <;> omega
theorem Ho.sj (w : Ho s i r r') {j : Nat} : Sj r r' j := by
  refine ⟨fun k hk => (w.2 k j (pm_m ?_ ?_)).1, (w.2 50 j (pm_m (by omega) (by omega))).2, fun p _ _ => (w.2 45 p (pm_m (by omega) (by omega))).1⟩
  · simp only [List.mem_cons, List.not_mem_nil, or_false] at hk; omega
  · simp only [List.mem_cons, List.not_mem_nil, or_false] at hk; omega
theorem MpT.ho {m j : Nat} (c : MpT x h r m j) (p : Hx x b i h h') (w : Ho s i r r') (T : Stat x h) (hb : hnx h ≤ b ∨ hkd h b = 11) : MpT x h' r' m j := by
  obtain ⟨c1, c2⟩ := c
  obtain ⟨V, v1, v2, v3⟩ := c1
  have hm := v1.2.2.1
  have hm0 := v1.2.1
  refine ⟨⟨V, v1.sto p.1, v2.sj v3.1.2 w.sj, v3⟩, ?_⟩
  have hp : ¬ Px x b i 508 m := by
    rintro (z | z | z | z | z)
    · omega
    · have := z.2; simp only [cA] at this; omega
    · omega
    · omega
    · omega
  rw [(p.2.1 508 m hm hp).1, (w.2 51 j (pm_m (by omega) (by omega))).1, w.1.2]
  exact c2
theorem Rel.one (R : Rel x ec es ew e0 h r) (p : Hx x b i h h') (w : Ho s i r r')
    (hb : hnx h ≤ b ∨ (s < 12 ∧ har h (x + 34) s = some b))
    (h34 : ∀ s', s' ≠ s → har h' (x + 34) s' = har h (x + 34) s')
    (hG : Glo x h' r' e0') (hsum : r'.1 68 = sSum x h')
    (h73 : r'.1 73 = r.1 73 ∨ ∃ n n', r.1 73 = nn n ∧ r'.1 73 = nn n' ∧ n ≤ n' ∧ n' < 1073741824)
    (hec : ∀ i', i' < 8 → i' ≠ i → i' ≠ ec' → i' ≠ ec) (hes : ∀ s', s' < 12 → s' ≠ s → s' ≠ es' → s' ≠ es)
    (h7 : i < 8 → ∀ s', s' < 12 → s' ≠ s → r.2.1 7 i = nn s' → r'.2.1 7 i = nn s')
    (hC : ∀ i', i' < 8 → i' ≠ i → r.2.1 7 i' = nn s → s < 12 → r'.2.1 11 s = r.2.1 11 s ∧ r'.2.1 15 s = r.2.1 15 s ∧ har h' (x + 34) s = har h (x + 34) s)
    (hD : ∀ s' b' k d, s' < 12 → s' ≠ s → har h (x + 34) s' = some b' → k < 40 → act r s' k → dl h b' k = some d → hfr h' 300 d = hfr h 300 d ∧ ∀ f ∈ [301, 302, 303, 304, 305], hfi h' f d = hfi h f d)
    (hU : ∀ s' b' k u, s' < 12 → s' ≠ s → har h (x + 34) s' = some b' → k < iN (r.2.1 24 s') → har h (b' + 1) k = some u → ∀ f ∈ [1102, 1103, 1104, 1105], hfi h' f u = hfi h f u)
    (cI : i < 8 → CoA x h' r' i ∧ CoO x h' r' i ∧ CoL x h' r' i ∧ (i ≠ ec' → CoI x h' r' i))
    (cS : s < 12 → SesA x h' r' ew es' s)
    (uD1 : ∀ b1 k k' d, s < 12 → har h' (x + 34) s = some b1 → k < 40 → k' < 40 → act r' s k → act r' s k' → dl h' b1 k = some d → dl h' b1 k' = some d → k = k')
    (uD2 : ∀ b1 k d, s < 12 → har h' (x + 34) s = some b1 → k < 40 → act r' s k → dl h' b1 k = some d → ∀ s' b' k', s' < 12 → s' ≠ s → har h (x + 34) s' = some b' → k' < 40 → act r s' k' → dl h b' k' ≠ some d)
    (uS1 : ∀ b1 k k' u, s < 12 → har h' (x + 34) s = some b1 → k < iN (r'.2.1 24 s) → k' < iN (r'.2.1 24 s) → har h' (b1 + 1) k = some u → har h' (b1 + 1) k' = some u → k = k')
    (uS2 : ∀ b1 k u, s < 12 → har h' (x + 34) s = some b1 → k < iN (r'.2.1 24 s) → har h' (b1 + 1) k = some u → ∀ s' b' k', s' < 12 → s' ≠ s → har h (x + 34) s' = some b' → k' < iN (r.2.1 24 s') → har h (b' + 1) k' ≠ some u)
    (uB : s < 12 → r'.2.1 11 s = 1 → ∀ s', s' < 12 → s' ≠ s → r.2.1 11 s' = 1 → ¬ (r.2.1 12 s' = r'.2.1 12 s ∨ SId r s' r' s))
    (uW1 : ∀ s' b' m j, s' < 12 → s' ≠ s → har h (x + 34) s' = some b' → hfr h 1011 b' = some m → r.2.1 20 s' = nn j → s < 12 →
      (∀ b1, har h' (x + 34) s = some b1 → (hfr h' 1011 b1 ≠ some m ∧ r'.2.1 20 s ≠ nn j) ∧ ∀ k d, k < 40 → act r' s k → dl h' b1 k = some d → hfr h' 300 d ≠ some m) ∧ (r'.2.1 11 s = 1 → (∀ k, k < iN (r'.2.1 31 s) → r'.2.1 33 (16 * s + k) ≠ nn j) ∧ ∀ k, k < iN (r'.2.1 38 s) → r'.2.1 39 (24 * s + k) ≠ nn j))
    (uW2 : s < 12 → ∀ b1 m j, har h' (x + 34) s = some b1 → hfr h' 1011 b1 = some m → r'.2.1 20 s = nn j →
      (∀ s' b', s' < 12 → s' ≠ s → har h (x + 34) s' = some b' → hfr h 1011 b' ≠ some m ∧ r.2.1 20 s' ≠ nn j) ∧ (∀ s' b' k d, s' < 12 → s' ≠ s → har h (x + 34) s' = some b' → k < 40 → act r s' k → dl h b' k = some d → hfr h 300 d ≠ some m) ∧
      (∀ s' k, s' < 12 → s' ≠ s → r.2.1 11 s' = 1 → k < iN (r.2.1 31 s') → r.2.1 33 (16 * s' + k) ≠ nn j) ∧ (∀ s' k, s' < 12 → s' ≠ s → r.2.1 11 s' = 1 → k < iN (r.2.1 38 s') → r.2.1 39 (24 * s' + k) ≠ nn j) ∧
      (∀ k, k < iN (hfi h 801 (x + 35)) → har h (x + 36) k ≠ some m) ∧ (∀ k, k < iN (r.1 65) → r.2.1 64 k ≠ nn j) ∧
      (∀ k d, k < 40 → act r' s k → dl h' b1 k = some d → hfr h' 300 d ≠ some m) ∧ (r'.2.1 11 s = 1 → (∀ k, k < iN (r'.2.1 31 s) → r'.2.1 33 (16 * s + k) ≠ nn j) ∧ ∀ k, k < iN (r'.2.1 38 s) → r'.2.1 39 (24 * s + k) ≠ nn j))
    (uZ : s < 12 → r'.2.1 11 s = 0 → Zr r' s) :
    Rel x ec' es' ew e0' h' r' := by
  obtain ⟨T, G, sm, C, SS, U1, U2, U3, K, U4, f0, bs0, W⟩ := R
  have hx := T.1
  have hb' : hnx h ≤ b ∨ (hkd h b = 11 ∧ x + 130 ≤ b) := by
    rcases hb with z | ⟨z1, z2⟩
    · exact Or.inl z
    · have := ((SS s z1).at z2).2.1.1
      exact Or.inr ⟨this.1, this.2.1⟩
  have hbk : hnx h ≤ b ∨ hkd h b = 11 := hb'.imp id (fun z => z.1)
  have hbx : x + 130 ≤ b := by
    rcases hb' with z | z
    · omega
    · exact z.2
  have hM : ∀ m j, MpT x h r m j → MpT x h' r' m j := fun m j c => c.ho p w T hbk
  have gP : ∀ f a, a < x + 130 → a ≠ x → (∀ i', i' < 8 → a ≠ cA x i') → ¬ (300 ≤ f ∧ f ≤ 305) → ¬ (1102 ≤ f ∧ f ≤ 1105) → ¬ Px x b i f a := fun f a h1 h2 h3 h4 h5 => by
    rintro (z | z | z | z | z)
    · omega
    · exact h3 i z.1 z.2
    · exact h4 z
    · exact h5 z
    · omega
  have gA : ∀ a, a < x + 130 → a ≠ x + 34 → (x + 34 < a ∨ a < x + 2) → ¬ Ax x b i a := fun a h1 h2 h3 => by
    rintro (z | z | z)
    · omega
    · have := z.2; simp only [cA] at this; omega
    · omega
  -- other sessions
  have nb : ∀ s' b', s' < 12 → s' ≠ s → har h (x + 34) s' = some b' → b' ≠ b ∧ x + 130 ≤ b' ∧ b' + 4 < hnx h ∧ ∀ e, 1 ≤ e → e ≤ 4 → ¬ Ax x b i (b' + e) := fun s' b' h1 h2 h3 => by
    have T' := ((SS s' h1).at h3).2.1.1
    have q1 := T'.2.1
    have q2 := T'.2.2.1
    have key : ∀ e e', e ≤ 4 → e' ≤ 4 → b' + e ≠ b + e' := fun e e' he he' z => by
      rcases hb with y | ⟨y1, y2⟩
      · omega
      · have T0 := ((SS s y1).at y2).2.1.1
        rcases Nat.lt_trichotomy e e' with g | g | g
        · exact T0.ne T' (e' - e) (by omega) (by omega) (by omega)
        · have : b' = b := by omega
          subst this
          exact h2 (T'.inj T0 h1 y1)
        · exact T'.ne T0 (e - e') (by omega) (by omega) (by omega)
    refine ⟨fun z => key 0 0 (by omega) (by omega) (by omega), q1, q2, fun e h1 h2 => ?_⟩
    rintro (z | z | z)
    · exact key e (b' + e - b) (by omega) (by omega) (by omega)
    · have := z.2; simp only [cA] at this; omega
    · omega
  have gb : ∀ s' b', s' < 12 → s' ≠ s → har h (x + 34) s' = some b' → ∀ f, 1001 ≤ f → f ≤ 1017 → hfi h' f b' = hfi h f b' ∧ hfl h' f b' = hfl h f b' ∧ hfr h' f b' = hfr h f b' := fun s' b' h1 h2 h3 f f1 f2 => by
    obtain ⟨q1, q2, q3, _⟩ := nb s' b' h1 h2 h3
    refine p.2.1 f b' (by omega) ?_
    rintro (z | z | z | z | z)
    · exact q1 z.1
    · have := z.2; simp only [cA] at this; omega
    · omega
    · omega
    · omega
  have ga : ∀ s' b', s' < 12 → s' ≠ s → har h (x + 34) s' = some b' → ∀ e, 1 ≤ e → e ≤ 4 → hai h' (b' + e) = hai h (b' + e) ∧ har h' (b' + e) = har h (b' + e) := fun s' b' h1 h2 h3 e e1 e2 => by
    obtain ⟨q1, q2, q3, q4⟩ := nb s' b' h1 h2 h3
    have := p.2.2 (b' + e) (by omega) (q4 e e1 e2)
    exact ⟨this.1, this.2.1⟩
  have mA : ∀ k n s', 11 ≤ k → k ≤ 44 → ow k n = s' → s' ≠ s → r'.2.1 k n = r.2.1 k n ∧ r'.2.2 k n = r.2.2 k n := fun k n s' h1 h2 h3 h4 => w.2 k n (pm_s h1 h2 h3 h4)
  have mS : ∀ k s', s' ≠ s → k ∈ [11, 12, 13, 15, 16, 17, 18, 19, 20, 21, 22, 23, 24, 31, 38, 43] → r'.2.1 k s' = r.2.1 k s' ∧ r'.2.2 k s' = r.2.2 k s' := fun k s' h1 h2 => by
    simp only [List.mem_cons, List.not_mem_nil, or_false] at h2
    refine mA k s' s' (by omega) (by omega) ?_ h1
    unfold ow
    rw [if_neg (by omega), if_neg (by omega), if_neg (by omega), if_neg (by omega), if_neg (by omega)]
  have ea : ∀ s' k, s' ≠ s → (act r' s' k ↔ act r s' k) := fun s' k h1 => by
    unfold act
    rw [(mS 31 s' h1 (by decide)).1, (mS 38 s' h1 (by decide)).1]
  have ed : ∀ s' b' k, s' < 12 → s' ≠ s → har h (x + 34) s' = some b' → dl h' b' k = dl h b' k := fun s' b' k h1 h2 h3 => by
    unfold dl
    rw [(ga s' b' h1 h2 h3 2 (by omega) (by omega)).2, (ga s' b' h1 h2 h3 3 (by omega) (by omega)).2]
  have w8 : ∀ k n, n < 8 → n ≠ i → 1 ≤ k → k ≤ 10 → oc k n = n → r'.2.1 k n = r.2.1 k n := fun k n h1 h2 h3 h4 h5 => (w.2 k n (pm_c h3 h4 h5 h2)).1
  have ekp : kpt r' = kpt r := by
    have e : gon r' = gon r := by
      funext j
      unfold gon
      rw [(w.2 50 j (pm_m (by omega) (by omega))).2, (w.2 51 j (pm_m (by omega) (by omega))).1, w.1.2]
    have e2 : r'.2.1 64 = r.2.1 64 := by
      funext n
      exact (w.2 64 n (pm_m (by omega) (by omega))).1
    unfold kpt
    rw [e, w.1.1, e2]
  have e64 : r'.2.1 64 = r.2.1 64 := by
    funext n
    exact (w.2 64 n (pm_m (by omega) (by omega))).1
  have e801 : hfi h' 801 (x + 35) = hfi h 801 (x + 35) := (p.2.1 801 (x + 35) (by omega) (gP 801 (x + 35) (by omega) (by omega) (fun i' _ z => by simp only [cA] at z; omega) (by omega) (by omega))).1
  have e36 : har h' (x + 36) = har h (x + 36) := (p.2.2 (x + 36) (by omega) (gA _ (by omega) (by omega) (by omega))).2.1
  refine ⟨T.sto p.1, hG, hsum, fun i' hi' => ?_, fun s' hs' => ?_, ?_, ?_, ?_, ?_, ?_, f0, bs0, ?_⟩
  · by_cases gi : i' = i
    · subst gi
      exact cI hi'
    · obtain ⟨c1, c2, c3, c4⟩ := C i' hi'
      have hcl := T.cl hi'
      have fc : ∀ f, 200 ≤ f → f ≤ 212 → hfi h' f (cA x i') = hfi h f (cA x i') ∧ hfl h' f (cA x i') = hfl h f (cA x i') ∧ hfr h' f (cA x i') = hfr h f (cA x i') := fun f f1 f2 => by
        refine p.2.1 f (cA x i') (by omega) ?_
        rintro (z | z | z | z | z)
        · omega
        · have := z.2; simp only [cA] at this; omega
        · omega
        · omega
        · have := z.1; simp only [cA] at this; omega
      have fa : ∀ e, 1 ≤ e → e ≤ 3 → hai h' (cA x i' + e) = hai h (cA x i' + e) ∧ har h' (cA x i' + e) = har h (cA x i' + e) := fun e e1 e2 => by
        have := p.2.2 (cA x i' + e) (by omega) (by
          rintro (z | z | z)
          · have q1 := z.1; have q2 := z.2; simp only [cA] at q1 q2; omega
          · have := z.2; simp only [cA] at this; omega
          · simp only [cA] at z; omega)
        exact ⟨this.1, this.2.1⟩
      refine ⟨?_, ?_, ?_, fun hne => ?_⟩
      · obtain ⟨a1, a2, a3, a4⟩ := c1
        unfold CoA
        rw [(fc 201 (by omega) (by omega)).1, (fc 205 (by omega) (by omega)).1, (fc 212 (by omega) (by omega)).1, (fc 202 (by omega) (by omega)).2.2, w8 1 i' hi' gi (by omega) (by omega) rfl, w8 2 i' hi' gi (by omega) (by omega) rfl, w8 7 i' hi' gi (by omega) (by omega) rfl, w8 8 i' hi' gi (by omega) (by omega) rfl, w.1.2]
        refine ⟨a1, a2, a3, ?_⟩
        rcases a4 with z | ⟨s', b', z1, z2, z3, z4, z5, z6, z7⟩
        · exact Or.inl z
        · refine Or.inr ⟨s', b', z1, z2, z3, ?_⟩
          by_cases gs : s' = s
          · subst gs
            obtain ⟨y1, y2, y3⟩ := hC i' hi' gi z2 z1
            exact ⟨by rw [y1]; exact z4, by rw [y2]; exact z5, by rw [y3]; exact z6, z7⟩
          · exact ⟨by rw [(mS 11 s' gs (by decide)).1]; exact z4, by rw [(mS 15 s' gs (by decide)).1]; exact z5, by rw [h34 s' gs]; exact z6, z7⟩
      · obtain ⟨os, ⟨o1, o2, o3, o4⟩, o5, o6, o7, o8⟩ := c2
        refine ⟨os, ⟨by rw [(fc 204 (by omega) (by omega)).1]; exact o1, o2, by rw [(fa 1 (by omega) (by omega)).1]; exact o3, o4⟩, by rw [w8 3 i' hi' gi (by omega) (by omega) rfl]; exact o5, o6, o7.of (fun q hq => (w.2 4 _ (pm_c (i' := i') (by omega) (by omega) ?_ gi)).1), o8⟩
        show (2000 * i' + q) / 2000 = i'
        omega
      · intro k hk
        have e9 : r'.2.1 9 (4 * i' + k) = r.2.1 9 (4 * i' + k) := (w.2 9 _ (pm_c (i' := i') (by omega) (by omega) (show (4 * i' + k) / 4 = i' by omega) gi)).1
        rw [(fa 3 (by omega) (by omega)).2, e9]
        rcases c3 k hk with z | ⟨a, bs, z1, z2, z3, z4, z5, z6⟩
        · exact Or.inl z
        · refine Or.inr ⟨a, bs, z1, z2.stp p.1, z3, z4, z5.of (fun q hq => (w.2 10 _ (pm_c (i' := i') (by omega) (by omega) ?_ gi)).1), by rw [w8 1 i' hi' gi (by omega) (by omega) rfl]; exact z6⟩
          have : bs.length ≤ 64 := by
            unfold tpc at z3
            rw [Bool.and_eq_true] at z3
            exact (of_decide_eq_true z3.1).2
          show (64 * (4 * i' + k) + q) / 256 = i'
          omega
      · obtain ⟨bs, d1, d2, d3, d4, d5, d6, d7, d8⟩ := c4 (hec i' hi' gi hne)
        refine ⟨bs, by rw [(fc 208 (by omega) (by omega)).1]; exact d1, by rw [w8 5 i' hi' gi (by omega) (by omega) rfl]; exact d2, d3, d4, by rw [(fa 2 (by omega) (by omega)).1]; exact d5, d6.of (fun q hq => (w.2 6 _ (pm_c (i' := i') (by omega) (by omega) ?_ gi)).1), by rw [w8 1 i' hi' gi (by omega) (by omega) rfl]; exact d7, by rw [(fc 209 (by omega) (by omega)).1, (fc 210 (by omega) (by omega)).1]; exact d8⟩
        show (410 * i' + q) / 410 = i'
        omega
  · by_cases gs : s' = s
    · subst gs
      exact cS hs'
    · rcases SS s' hs' with c | ⟨c1, b', c2, c3, c4⟩
      · exact Or.inl (by rw [(mS 11 s' gs (by decide)).1, h34 s' gs]; exact c)
      · obtain ⟨n1, n2, n3, n4⟩ := nb s' b' hs' gs c2
        have B := gb s' b' hs' gs c2
        have A := ga s' b' hs' gs c2
        refine Or.inr ⟨by rw [(mS 11 s' gs (by decide)).1]; exact c1, b', by rw [h34 s' gs]; exact c2, ⟨c3.1.sto p.1, ?_, ?_, ?_, ?_, ?_, ?_, ?_, ?_⟩, fun g => ?_⟩
        · obtain ⟨a, bs, i1, i2, i3, i4, i5⟩ := c3.2.1
          refine ⟨a, bs, by rw [(B 1001 (by omega) (by omega)).2.2]; exact i1, i2.stp p.1, i3, by rw [(mS 13 s' gs (by decide)).1]; exact i4, i5.of (fun q hq => (mA 14 _ s' (by omega) (by omega) ?_ gs).1)⟩
          show (20 * s' + q) / 20 = s'
          omega
        · unfold SesV
          rw [(B 1013 (by omega) (by omega)).2.1, (B 1014 (by omega) (by omega)).2.1, (B 1015 (by omega) (by omega)).1, (B 1016 (by omega) (by omega)).1, (B 1002 (by omega) (by omega)).2.2, (mS 15 s' gs (by decide)).1, (mS 16 s' gs (by decide)).2, (mS 17 s' gs (by decide)).1, (mS 18 s' gs (by decide)).2, (mS 19 s' gs (by decide)).1]
          obtain ⟨v1, v2, v3, v4, v5⟩ := c3.2.2.1
          refine ⟨v1, v2, v3, v4, ?_⟩
          rcases v5 with z | ⟨i0, z1, z2, z3, z4⟩
          · exact Or.inl z
          · refine Or.inr ⟨i0, z1, z2, z3, ?_⟩
            by_cases gi : i0 = i
            · subst gi
              exact h7 z1 s' hs' gs z4
            · rw [w8 7 i0 z1 gi (by omega) (by omega) rfl]
              exact z4
        · unfold SesW
          rw [(B 1011 (by omega) (by omega)).2.2, (B 1012 (by omega) (by omega)).2.1, (mS 20 s' gs (by decide)).1, (mS 21 s' gs (by decide)).2]
          rcases c3.2.2.2.1 with z | ⟨m, j, z1, z2, z3, z4⟩
          · exact Or.inl z
          · exact Or.inr ⟨m, j, z1, z2, z3.to p.1 w.sj, z4⟩
        · obtain ⟨n, y1, y2, y3, y4, y5⟩ := c3.2.2.2.2.1
          refine ⟨n, y1, by rw [(B 1004 (by omega) (by omega)).1]; exact y2, by rw [(mS 24 s' gs (by decide)).1]; exact y3, fun k hk => ?_, fun k k' u u' bs st st' g1 g2 g3 g4 g5 g6 => ?_⟩
          · obtain ⟨u, u1, bs, st, o, id, d1, ⟨d2, d3⟩, d4, d5, d6, d7⟩ := y4 k hk
            have hu := hU s' b' k u hs' gs c2 (by rw [y3, iN_nn (by omega)]; exact hk) u1
            have wk : ∀ k', k' = 25 ∨ (27 ≤ k' ∧ k' ≤ 30) → r'.2.1 k' (8 * s' + k) = r.2.1 k' (8 * s' + k) := fun k' hk' => (mA k' _ s' (by omega) (by omega) (by
              unfold ow
              rw [if_neg (by omega), if_neg (by omega), if_pos (by omega)]
              omega) gs).1
            have hl := (fstart_lt d1.2.2.1).2.1
            refine ⟨u, by rw [(A 1 (by omega) (by omega)).2]; exact u1, bs, st, o, id, d1.sto p.1, ⟨by rw [wk 25 (by omega)]; exact d2, d3.of (fun q hq => (mA 26 _ s' (by omega) (by omega) ?_ gs).1)⟩, ?_⟩
            · show (64 * (8 * s' + k) + q) / 512 = s'
              omega
            · rw [hu 1102 (by decide), hu 1103 (by decide), hu 1104 (by decide), hu 1105 (by decide), wk 27 (by omega), wk 28 (by omega), wk 29 (by omega), wk 30 (by omega)]
              exact ⟨d4, d5, d6, d7⟩
          · rw [(A 1 (by omega) (by omega)).2] at g3 g4
            obtain ⟨v, v1, v2⟩ := y4 k g1
            obtain ⟨v', v1', v2'⟩ := y4 k' g2
            rw [g3] at v1
            cases v1
            rw [g4] at v1'
            cases v1'
            obtain ⟨bs1, st1, _, _, q1, _⟩ := v2
            obtain ⟨bs2, st2, _, _, q2, _⟩ := v2'
            have e1 := (q1.sto p.1).inj g5
            have e2 := (q2.sto p.1).inj g6
            subst e1
            exact y5 k k' u u' bs1 st1 st2 g1 g2 g3 g4 q1 (by rw [← e2]; exact q2)
        · obtain ⟨n, y1, y2, y3, y4, y5⟩ := c3.2.2.2.2.2.1
          have wk : ∀ k' k, 32 ≤ k' → k' ≤ 37 → k < 16 → r'.2.1 k' (16 * s' + k) = r.2.1 k' (16 * s' + k) := fun k' k h1 h2 h3 => (mA k' _ s' (by omega) (by omega) (by
              unfold ow
              rw [if_neg (by omega), if_neg (by omega), if_neg (by omega), if_pos (by omega)]
              omega) gs).1
          refine ⟨n, y1, by rw [(B 1006 (by omega) (by omega)).1]; exact y2, by rw [(mS 31 s' gs (by decide)).1]; exact y3, fun k hk => ?_, fun k k' g1 g2 g3 => ?_⟩
          · obtain ⟨d, d1, d2⟩ := y4 k hk
            have hd := hD s' b' k d hs' gs c2 (by omega) (by
              unfold act
              rw [if_pos (by omega), y3, iN_nn (by omega)]
              exact hk) (by
              unfold dl
              rw [if_pos (by omega)]
              exact d1)
            refine ⟨d, by rw [(A 2 (by omega) (by omega)).2]; exact d1, d2.chg p.1 hd.1 hd.2 (fun f hf => wk f k ?_ ?_ (by omega)) hM⟩
            · simp only [List.mem_cons, List.not_mem_nil, or_false] at hf; omega
            · simp only [List.mem_cons, List.not_mem_nil, or_false] at hf; omega
          · rw [wk 32 k (by omega) (by omega) (by omega), wk 32 k' (by omega) (by omega) (by omega)] at g3
            exact y5 k k' g1 g2 g3
        · obtain ⟨n, y1, y2, y3, y4⟩ := c3.2.2.2.2.2.2.1
          have wk : ∀ k' k, 39 ≤ k' → k' ≤ 42 → k < 24 → r'.2.1 k' (24 * s' + k) = r.2.1 k' (24 * s' + k) := fun k' k h1 h2 h3 => (mA k' _ s' (by omega) (by omega) (by
              unfold ow
              rw [if_neg (by omega), if_neg (by omega), if_neg (by omega), if_neg (by omega), if_pos (by omega)]
              omega) gs).1
          refine ⟨n, y1, by rw [(B 1008 (by omega) (by omega)).1]; exact y2, by rw [(mS 38 s' gs (by decide)).1]; exact y3, fun k hk => ?_⟩
          obtain ⟨d, d1, d2⟩ := y4 k hk
          have hd := hD s' b' (k + 16) d hs' gs c2 (by omega) (by
            unfold act
            rw [if_neg (by omega), y3, iN_nn (by omega)]
            omega) (by
            unfold dl
            rw [if_neg (by omega), Nat.add_sub_cancel]
            exact d1)
          refine ⟨d, by rw [(A 3 (by omega) (by omega)).2]; exact d1, d2.chg p.1 hd.1 (fun f hf => hd.2 f ?_) (fun f hf => wk f k ?_ ?_ (by omega)) hM⟩
          · simp only [List.mem_cons, List.not_mem_nil, or_false] at hf ⊢; omega
          · simp only [List.mem_cons, List.not_mem_nil, or_false] at hf; omega
          · simp only [List.mem_cons, List.not_mem_nil, or_false] at hf; omega
        · obtain ⟨lc, lm, y1, y2, y3, y4, y5, y6, y7, y8⟩ := c3.2.2.2.2.2.2.2.1
          have hll : lm.length ≤ 8 := by rw [← y2.length_eq]; exact y1
          refine ⟨lc, lm, y1, y2, y3, y4, by rw [(B 1010 (by omega) (by omega)).1]; exact y5, by rw [(mS 43 s' gs (by decide)).1]; exact y6, fun q hq => by rw [(A 4 (by omega) (by omega)).1]; exact y7 q hq, fun q hq => ?_⟩
          rw [(mA 44 _ s' (by omega) (by omega) (show (8 * s' + q) / 8 = s' by omega) gs).1]
          exact y8 q hq
        · obtain ⟨k, n, y1, y2, y3, y4, y5⟩ := c3.2.2.2.2.2.2.2.2
          rcases h73 with z | ⟨m, m', z1, z2, z3, z4⟩
          · exact ⟨k, n, by rw [(mS 12 s' gs (by decide)).1]; exact y1, by rw [z]; exact y2, y3, y4, y5⟩
          · have : n = m := nn_inj (by omega) (by omega) (y2.symm.trans z1)
            exact ⟨k, m', by rw [(mS 12 s' gs (by decide)).1]; exact y1, z2, y3, by omega, z4⟩
        · unfold SesZ
          rw [(B 1017 (by omega) (by omega)).1, (mS 15 s' gs (by decide)).1, (mS 16 s' gs (by decide)).2, (mS 20 s' gs (by decide)).1, (mS 21 s' gs (by decide)).2, (mS 22 s' gs (by decide)).2, (mS 23 s' gs (by decide)).2, w.1.2]
          exact c4 (hes s' hs' gs g)
  · intro s1 s2 b1 b2 k1 k2 d h1 h2 h3 h4 h5 h6 h7' h8 h9 h10
    by_cases g1 : s1 = s
    · by_cases g2 : s2 = s
      · subst g1
        subst g2
        rw [h3] at h4
        cases h4
        exact ⟨rfl, uD1 b1 k1 k2 d h1 h3 h5 h6 h7' h8 h9 h10⟩
      · subst g1
        rw [h34 s2 g2] at h4
        rw [ed s2 b2 k2 h2 g2 h4] at h10
        exact absurd h10 (uD2 b1 k1 d h1 h3 h5 h7' h9 s2 b2 k2 h2 g2 h4 h6 ((ea s2 k2 g2).mp h8))
    · by_cases g2 : s2 = s
      · subst g2
        rw [h34 s1 g1] at h3
        rw [ed s1 b1 k1 h1 g1 h3] at h9
        exact absurd h9 (uD2 b2 k2 d h2 h4 h6 h8 h10 s1 b1 k1 h1 g1 h3 h5 ((ea s1 k1 g1).mp h7'))
      · rw [h34 s1 g1] at h3
        rw [h34 s2 g2] at h4
        rw [ed s1 b1 k1 h1 g1 h3] at h9
        rw [ed s2 b2 k2 h2 g2 h4] at h10
        exact U1 s1 s2 b1 b2 k1 k2 d h1 h2 h3 h4 h5 h6 ((ea s1 k1 g1).mp h7') ((ea s2 k2 g2).mp h8) h9 h10
  · intro s1 s2 b1 b2 k1 k2 u h1 h2 h3 h4 h5 h6 h7' h8
    by_cases g1 : s1 = s
    · by_cases g2 : s2 = s
      · subst g1
        subst g2
        rw [h3] at h4
        cases h4
        exact ⟨rfl, uS1 b1 k1 k2 u h1 h3 h5 h6 h7' h8⟩
      · subst g1
        rw [h34 s2 g2] at h4
        rw [(ga s2 b2 h2 g2 h4 1 (by omega) (by omega)).2] at h8
        rw [(mS 24 s2 g2 (by decide)).1] at h6
        exact absurd h8 (uS2 b1 k1 u h1 h3 h5 h7' s2 b2 k2 h2 g2 h4 h6)
    · by_cases g2 : s2 = s
      · subst g2
        rw [h34 s1 g1] at h3
        rw [(ga s1 b1 h1 g1 h3 1 (by omega) (by omega)).2] at h7'
        rw [(mS 24 s1 g1 (by decide)).1] at h5
        exact absurd h7' (uS2 b2 k2 u h2 h4 h6 h8 s1 b1 k1 h1 g1 h3 h5)
      · rw [h34 s1 g1] at h3
        rw [h34 s2 g2] at h4
        rw [(ga s1 b1 h1 g1 h3 1 (by omega) (by omega)).2] at h7'
        rw [(ga s2 b2 h2 g2 h4 1 (by omega) (by omega)).2] at h8
        rw [(mS 24 s1 g1 (by decide)).1] at h5
        rw [(mS 24 s2 g2 (by decide)).1] at h6
        exact U2 s1 s2 b1 b2 k1 k2 u h1 h2 h3 h4 h5 h6 h7' h8
  · refine ⟨?_, fun s1 h1 h2 => ?_⟩
    · intro s1 s2 h1 h2 h3 h4 h5
      have sid : ∀ s', s' ≠ s → r'.2.1 13 s' = r.2.1 13 s' ∧ ∀ k, k < 20 → r'.2.1 14 (20 * s' + k) = r.2.1 14 (20 * s' + k) := fun s' g => ⟨(mS 13 s' g (by decide)).1, fun k hk => (mA 14 _ s' (by omega) (by omega) (show (20 * s' + k) / 20 = s' by omega) g).1⟩
      by_cases g1 : s1 = s
      · by_cases g2 : s2 = s
        · rw [g1, g2]
        · subst g1
          rw [(mS 11 s2 g2 (by decide)).1] at h4
          rw [(mS 12 s2 g2 (by decide)).1] at h5
          obtain ⟨y1, y2⟩ := sid s2 g2
          refine absurd ?_ (uB h1 h3 s2 h2 g2 h4)
          rcases h5 with z | ⟨z1, z2⟩
          · exact Or.inl z.symm
          · rw [y1] at z1
            refine Or.inr ⟨z1.symm, fun k k1 k2 => ?_⟩
            rw [← z1] at k2
            rw [z2 k k1 k2, y2 k k1]
      · by_cases g2 : s2 = s
        · subst g2
          rw [(mS 11 s1 g1 (by decide)).1] at h3
          rw [(mS 12 s1 g1 (by decide)).1] at h5
          obtain ⟨y1, y2⟩ := sid s1 g1
          refine absurd ?_ (uB h2 h4 s1 h1 g1 h3)
          rcases h5 with z | ⟨z1, z2⟩
          · exact Or.inl z
          · rw [y1] at z1
            refine Or.inr ⟨z1, fun k k1 k2 => ?_⟩
            have := z2 k k1 (by rw [y1]; exact k2)
            rw [y2 k k1] at this
            exact this
        · rw [(mS 11 s1 g1 (by decide)).1] at h3
          rw [(mS 11 s2 g2 (by decide)).1] at h4
          rw [(mS 12 s1 g1 (by decide)).1, (mS 12 s2 g2 (by decide)).1] at h5
          obtain ⟨y1, y2⟩ := sid s1 g1
          obtain ⟨x1, x2⟩ := sid s2 g2
          refine U3.1 s1 s2 h1 h2 h3 h4 ?_
          rcases h5 with z | ⟨z1, z2⟩
          · exact Or.inl z
          · rw [y1, x1] at z1
            refine Or.inr ⟨z1, fun k k1 k2 => ?_⟩
            have := z2 k k1 (by rw [y1]; exact k2)
            rw [y2 k k1, x2 k k1] at this
            exact this
    · by_cases g1 : s1 = s
      · rw [g1] at h1 h2 ⊢
        exact uZ h1 h2
      · rw [(mS 11 s1 g1 (by decide)).1] at h2
        obtain ⟨z1, z2, z3, z4⟩ := U3.2 s1 h1 h2
        exact ⟨by rw [(mS 24 s1 g1 (by decide)).1]; exact z1, by rw [(mS 31 s1 g1 (by decide)).1]; exact z2, by rw [(mS 38 s1 g1 (by decide)).1]; exact z3, by rw [(mS 43 s1 g1 (by decide)).1]; exact z4⟩
  · unfold Kep
    have e51 : r'.2.1 51 = r.2.1 51 := by
      funext n
      exact (w.2 51 n (pm_m (by omega) (by omega))).1
    rw [ekp, e801, e36, w.1.1, e64, e51, w.1.2]
    refine ⟨K.1, K.2.1, fun k hk => ?_⟩
    obtain ⟨m, m1, m2⟩ := K.2.2 k hk
    exact ⟨m, m1, hM _ _ m2⟩
  · intro s1 b1 m j h1 h2 h3 h4
    rw [e801, e36, w.1.1, e64]
    have e300 : ∀ s' b' k d, s' < 12 → s' ≠ s → har h (x + 34) s' = some b' → k < 40 → act r s' k → dl h b' k = some d → hfr h' 300 d = hfr h 300 d := fun s' b' k d q1 q2 q3 q4 q5 q6 => (hD s' b' k d q1 q2 q3 q4 q5 q6).1
    have e33 : ∀ s' k, s' ≠ s → k < 16 → r'.2.1 33 (16 * s' + k) = r.2.1 33 (16 * s' + k) := fun s' k q1 q2 => (mA 33 _ s' (by omega) (by omega) (show (16 * s' + k) / 16 = s' by omega) q1).1
    have e39 : ∀ s' k, s' ≠ s → k < 24 → r'.2.1 39 (24 * s' + k) = r.2.1 39 (24 * s' + k) := fun s' k q1 q2 => (mA 39 _ s' (by omega) (by omega) (show (24 * s' + k) / 24 = s' by omega) q1).1
    have c31 : ∀ s' k, s' < 12 → r.2.1 11 s' = 1 → k < iN (r.2.1 31 s') → k < 16 := fun s' k q1 q2 q3 => by
      rcases SS s' q1 with c | ⟨c1, b', c2, c3, c4⟩
      · rw [c.1] at q2; exact absurd q2 (by decide)
      · obtain ⟨n, y1, y2, y3, _⟩ := c3.2.2.2.2.2.1
        rw [y3, iN_nn (by omega)] at q3
        omega
    have c38 : ∀ s' k, s' < 12 → r.2.1 11 s' = 1 → k < iN (r.2.1 38 s') → k < 24 := fun s' k q1 q2 q3 => by
      rcases SS s' q1 with c | ⟨c1, b', c2, c3, c4⟩
      · rw [c.1] at q2; exact absurd q2 (by decide)
      · obtain ⟨n, y1, y2, y3, _⟩ := c3.2.2.2.2.2.2.1
        rw [y3, iN_nn (by omega)] at q3
        omega
    by_cases g1 : s1 = s
    · subst g1
      obtain ⟨q1, q2, q3, q4, q5, q6, q7, q8⟩ := uW2 h1 b1 m j h2 h3 h4
      refine ⟨fun s' b' y1 y2 y3 => ?_, fun s' b' k d y1 y2 y3 y4 y5 => ?_, fun s' k y1 y2 y3 => ?_, fun s' k y1 y2 y3 => ?_, q5, q6⟩
      · rw [h34 s' y2] at y3
        rw [(gb s' b' y1 y2 y3 1011 (by omega) (by omega)).2.2, (mS 20 s' y2 (by decide)).1]
        exact q1 s' b' y1 y2 y3
      · by_cases g2 : s' = s1
        · subst g2
          rw [h2] at y2
          cases y2
          exact q7 k d y3 y4 y5
        · rw [h34 s' g2] at y2
          rw [ed s' b' k y1 g2 y2] at y5
          rw [e300 s' b' k d y1 g2 y2 y3 ((ea s' k g2).mp y4) y5]
          exact q2 s' b' k d y1 g2 y2 y3 ((ea s' k g2).mp y4) y5
      · by_cases g2 : s' = s1
        · subst g2
          exact (q8 y2).1 k y3
        · rw [(mS 11 s' g2 (by decide)).1] at y2
          rw [(mS 31 s' g2 (by decide)).1] at y3
          rw [e33 s' k g2 (c31 s' k y1 y2 y3)]
          exact q3 s' k y1 g2 y2 y3
      · by_cases g2 : s' = s1
        · subst g2
          exact (q8 y2).2 k y3
        · rw [(mS 11 s' g2 (by decide)).1] at y2
          rw [(mS 38 s' g2 (by decide)).1] at y3
          rw [e39 s' k g2 (c38 s' k y1 y2 y3)]
          exact q4 s' k y1 g2 y2 y3
    · rw [h34 s1 g1] at h2
      rw [(gb s1 b1 h1 g1 h2 1011 (by omega) (by omega)).2.2] at h3
      rw [(mS 20 s1 g1 (by decide)).1] at h4
      obtain ⟨q1, q2, q3, q4, q5, q6⟩ := U4 s1 b1 m j h1 h2 h3 h4
      have o := uW1 s1 b1 m j h1 g1 h2 h3 h4
      refine ⟨fun s' b' y1 y2 y3 => ?_, fun s' b' k d y1 y2 y3 y4 y5 => ?_, fun s' k y1 y2 y3 => ?_, fun s' k y1 y2 y3 => ?_, q5, q6⟩
      · by_cases g2 : s' = s
        · subst g2
          exact ((o y1).1 b' y3).1
        · rw [h34 s' g2] at y3
          rw [(gb s' b' y1 g2 y3 1011 (by omega) (by omega)).2.2, (mS 20 s' g2 (by decide)).1]
          exact q1 s' b' y1 y2 y3
      · by_cases g2 : s' = s
        · subst g2
          exact ((o y1).1 b' y2).2 k d y3 y4 y5
        · rw [h34 s' g2] at y2
          rw [ed s' b' k y1 g2 y2] at y5
          rw [e300 s' b' k d y1 g2 y2 y3 ((ea s' k g2).mp y4) y5]
          exact q2 s' b' k d y1 y2 y3 ((ea s' k g2).mp y4) y5
      · by_cases g2 : s' = s
        · subst g2
          exact ((o y1).2 y2).1 k y3
        · rw [(mS 11 s' g2 (by decide)).1] at y2
          rw [(mS 31 s' g2 (by decide)).1] at y3
          rw [e33 s' k g2 (c31 s' k y1 y2 y3)]
          exact q3 s' k y1 y2 y3
      · by_cases g2 : s' = s
        · subst g2
          exact ((o y1).2 y2).2 k y3
        · rw [(mS 11 s' g2 (by decide)).1] at y2
          rw [(mS 38 s' g2 (by decide)).1] at y3
          rw [e39 s' k g2 (c38 s' k y1 y2 y3)]
          exact q4 s' k y1 y2 y3
  · obtain ⟨⟨a1, a2, a3, a4⟩, a5, a6, a7, a8, a9⟩ := W
    have nc : ∀ i', i' < 8 → x + 46 ≠ cA x i' := fun i' hi' z => by simp only [cA] at z; omega
    refine ⟨⟨?_, ?_, ?_, ?_⟩, ?_, ?_, ?_, a8, a9⟩
    · rw [(p.1.2.1 (x + 46) (by omega)).1]; exact a1
    · rw [(p.1.2.2.1 (x + 46) (by omega)).1 1201 (by decide)]; exact a2
    · rw [(p.1.2.1 (x + 46 + 1) (by omega)).1]; exact a3
    · rw [(p.1.2.1 (x + 46 + 1) (by omega)).2]; exact a4
    · rw [(p.2.1 1200 (x + 46) (by omega) (gP 1200 _ (by omega) (by omega) nc (by omega) (by omega))).1]; exact a5
    · rw [(p.2.1 1202 (x + 46) (by omega) (gP 1202 _ (by omega) (by omega) nc (by omega) (by omega))).1]; exact a6
    · rw [(p.2.2 (x + 46 + 1) (by omega) (gA _ (by omega) (by omega) (by omega))).1]; exact a7
end ONE
