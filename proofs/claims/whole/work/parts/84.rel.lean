/-! ===== what the class's heap and the model's state have in common: static part ===== -/
def Stat (x : Nat) (h : Hp) : Prop := x + 130 ≤ hnx h ∧
  (hkd h x = 14 ∧ hfr h 1300 x = some (x + 1) ∧ hfr h 1301 x = some (x + 34) ∧ hfr h 1302 x = some (x + 35) ∧ hfr h 1303 x = some (x + 37) ∧ hfr h 1304 x = some (x + 40) ∧ hfr h 1305 x = some (x + 46) ∧ hfr h 1306 x = some (x + 48) ∧ hfr h 1307 x = some (x + 49) ∧ hfr h 1308 x = some (x + 50)) ∧
  (hkd h (x + 1) = 105 ∧ hln h (x + 1) = 8 ∧ hkd h (x + 34) = 106 ∧ hln h (x + 34) = 12 ∧ hkd h (x + 35) = 9 ∧ hfr h 800 (x + 35) = some (x + 36) ∧ hkd h (x + 36) = 110 ∧ hln h (x + 36) = 16) ∧
  (hkd h (x + 37) = 8 ∧ hfr h 700 (x + 37) = some (x + 38) ∧ hkd h (x + 38) = 10 ∧ hfr h 900 (x + 38) = some (x + 39) ∧ hkd h (x + 39) = 101 ∧ hln h (x + 39) = 0) ∧
  (hkd h (x + 40) = 7 ∧ hfr h 601 (x + 40) = some (x + 41) ∧ hfr h 602 (x + 40) = some (x + 42) ∧ hfr h 603 (x + 40) = some (x + 43) ∧ hfr h 604 (x + 40) = some (x + 44) ∧ hkd h (x + 41) = 104 ∧ hln h (x + 41) = 40 ∧ hkd h (x + 42) = 101 ∧ hln h (x + 42) = 40 ∧ hkd h (x + 43) = 101 ∧ hln h (x + 43) = 40 ∧ hkd h (x + 44) = 101 ∧ hln h (x + 44) = 400) ∧
  (hkd h (x + 46) = 13 ∧ hfr h 1201 (x + 46) = some (x + 47) ∧ hkd h (x + 47) = 101 ∧ hln h (x + 47) = 600 ∧ hkd h (x + 48) = 5 ∧ hkd h (x + 49) = 4 ∧ hkd h (x + 50) = 101 ∧ hln h (x + 50) = 133 ∧ hkd h (x + 129) = 104 ∧ hln h (x + 129) = 1) ∧
  ∀ i, i < 8 → har h (x + 1) i = some (cA x i) ∧ hkd h (cA x i) = 3 ∧ hfi h 200 (cA x i) = nn i ∧ hfr h 203 (cA x i) = some (cA x i + 1) ∧ hkd h (cA x i + 1) = 101 ∧ hln h (cA x i + 1) = 2000 ∧ hfr h 207 (cA x i) = some (cA x i + 2) ∧ hkd h (cA x i + 2) = 101 ∧ hln h (cA x i + 2) = 405 ∧ hfr h 211 (cA x i) = some (cA x i + 3) ∧ hkd h (cA x i + 3) = 109 ∧ hln h (cA x i + 3) = 5
theorem Stat.sto {x : Nat} {h h' : Hp} (T : Stat x h) (s : Sto x h h') : Stat x h' := by
  obtain ⟨T1, T2, T3, T4, T5, T6, T7⟩ := T
  obtain ⟨s1, s2, s3, s4, s5⟩ := s
  have k : ∀ d, d < 130 → hkd h' (x + d) = hkd h (x + d) := fun d hd => (s2 _ (by omega)).1
  have l : ∀ d, d < 130 → hln h' (x + d) = hln h (x + d) := fun d hd => (s2 _ (by omega)).2
  have f : ∀ d, d < 130 → ∀ g ∈ finR, hfr h' g (x + d) = hfr h g (x + d) := fun d hd g hg => (s3 _ (by omega)).1 g hg
  have k0 : hkd h' x = hkd h x := k 0 (by omega)
  have f0 : ∀ g ∈ finR, hfr h' g x = hfr h g x := f 0 (by omega)
  refine ⟨by omega, ?_, ?_, ?_, ?_, ?_, fun i hi => ?_⟩
  · rw [k0, f0 1300 (by decide), f0 1301 (by decide), f0 1302 (by decide), f0 1303 (by decide), f0 1304 (by decide), f0 1305 (by decide), f0 1306 (by decide), f0 1307 (by decide), f0 1308 (by decide)]
    exact T2
  · rw [k 1 (by omega), l 1 (by omega), k 34 (by omega), l 34 (by omega), k 35 (by omega), f 35 (by omega) 800 (by decide), k 36 (by omega), l 36 (by omega)]
    exact T3
  · rw [k 37 (by omega), f 37 (by omega) 700 (by decide), k 38 (by omega), f 38 (by omega) 900 (by decide), k 39 (by omega), l 39 (by omega)]
    exact T4
  · rw [k 40 (by omega), f 40 (by omega) 601 (by decide), f 40 (by omega) 602 (by decide), f 40 (by omega) 603 (by decide), f 40 (by omega) 604 (by decide), k 41 (by omega), l 41 (by omega), k 42 (by omega), l 42 (by omega), k 43 (by omega), l 43 (by omega), k 44 (by omega), l 44 (by omega)]
    exact T5
  · rw [k 46 (by omega), f 46 (by omega) 1201 (by decide), k 47 (by omega), l 47 (by omega), k 48 (by omega), k 49 (by omega), k 50 (by omega), l 50 (by omega), k 129 (by omega), l 129 (by omega)]
    exact T6
  · have c : ∀ d, d < 4 → hkd h' (cA x i + d) = hkd h (cA x i + d) ∧ hln h' (cA x i + d) = hln h (cA x i + d) := fun d hd => s2 _ (by show x + 2 + 4 * i + d < _; omega)
    have c0 := c 0 (by omega)
    have c1 := c 1 (by omega)
    have c2 := c 2 (by omega)
    have c3 := c 3 (by omega)
    rw [Nat.add_zero] at c0
    have g := s3 (cA x i) (by show x + 2 + 4 * i < _; omega)
    rw [s5, c0.1, g.2.1 200 (by decide), g.1 203 (by decide), g.1 207 (by decide), g.1 211 (by decide), c1.1, c1.2, c2.1, c2.2, c3.1, c3.2]
    exact T7 i hi
/-- of the class's heap only the fields F of what was there, and the arrays A, change -/
def Fm (x : Nat) (F : List Nat) (A : Nat → Prop) (h h' : Hp) : Prop := Sto x h h' ∧ (∀ f, f ∉ F → ∀ a, a < hnx h → hfi h' f a = hfi h f a ∧ hfl h' f a = hfl h f a ∧ hfr h' f a = hfr h f a) ∧ ∀ a, a < hnx h → ¬ A a → hai h' a = hai h a ∧ har h' a = har h a ∧ hal h' a = hal h a
theorem Fm.rf {x : Nat} {F : List Nat} {A : Nat → Prop} {h : Hp} : Fm x F A h h := ⟨Sto.rf, fun _ _ _ _ => ⟨rfl, rfl, rfl⟩, fun _ _ _ => ⟨rfl, rfl, rfl⟩⟩
theorem Fm.tr {x : Nat} {F : List Nat} {A : Nat → Prop} {h h1 h2 : Hp} (p : Fm x F A h h1) (q : Fm x F A h1 h2) : Fm x F A h h2 := by
  refine ⟨p.1.tr q.1, fun f hf a ha => ?_, fun a ha hA => ?_⟩
  · have u := p.2.1 f hf a ha
    have v := q.2.1 f hf a (Nat.lt_of_lt_of_le ha p.1.1)
    exact ⟨v.1.trans u.1, v.2.1.trans u.2.1, v.2.2.trans u.2.2⟩
  · have u := p.2.2 a ha hA
    have v := q.2.2 a (Nat.lt_of_lt_of_le ha p.1.1) hA
    exact ⟨v.1.trans u.1, v.2.1.trans u.2.1, v.2.2.trans u.2.2⟩
theorem Fm.sub {x : Nat} {F G : List Nat} {A B : Nat → Prop} {h h' : Hp} (p : Fm x F A h h') (hF : ∀ f ∈ F, f ∈ G) (hA : ∀ a, A a → B a) : Fm x G B h h' := ⟨p.1, fun f hf => p.2.1 f (fun z => hf (hF f z)), fun a ha hB => p.2.2 a ha (fun z => hB (hA a z))⟩
section FMS
variable {x a f : Nat} {F : List Nat} {A : Nat → Prop} {h h' : Hp}
theorem Fm.fi {v : Int32} (p : Fm x F A h h') (hf : f ∈ F ∨ hnx h ≤ a) (hg : f ∉ finI ∨ hnx h ≤ a) : Fm x F A h (sfi h' f a v) := by
  refine ⟨p.1.fi hg, fun g hg' b hb => ?_, p.2.2⟩
  have u := p.2.1 g hg' b hb
  refine ⟨?_, u.2.1, u.2.2⟩
  rw [hfi_sfi, if_neg]
  · exact u.1
  · rintro ⟨rfl, rfl⟩
    rcases hf with z | z
    · exact hg' z
    · omega
theorem Fm.fl {v : Int64} (p : Fm x F A h h') (hf : f ∈ F ∨ hnx h ≤ a) (hg : f ≠ 507 ∨ hnx h ≤ a) : Fm x F A h (sfl h' f a v) := by
  refine ⟨p.1.fl hg, fun g hg' b hb => ?_, p.2.2⟩
  have u := p.2.1 g hg' b hb
  refine ⟨u.1, ?_, u.2.2⟩
  rw [hfl_sfl, if_neg]
  · exact u.2.1
  · rintro ⟨rfl, rfl⟩
    rcases hf with z | z
    · exact hg' z
    · omega
theorem Fm.fr {v : Option Nat} (p : Fm x F A h h') (hf : f ∈ F ∨ hnx h ≤ a) (hg : f ∉ finR ∨ hnx h ≤ a) : Fm x F A h (sfr h' f a v) := by
  refine ⟨p.1.fr hg, fun g hg' b hb => ?_, p.2.2⟩
  have u := p.2.1 g hg' b hb
  refine ⟨u.1, u.2.1, ?_⟩
  rw [hfr_sfr, if_neg]
  · exact u.2.2
  · rintro ⟨rfl, rfl⟩
    rcases hf with z | z
    · exact hg' z
    · omega
theorem Fm.ai {v : Nat → Int32} (p : Fm x F A h h') (ha : A a ∨ hnx h ≤ a) (hz : ¬ Fz x h a) : Fm x F A h (sai h' a v) := by
  refine ⟨p.1.ai hz, p.2.1, fun b hb hB => ?_⟩
  have u := p.2.2 b hb hB
  have e : b ≠ a := fun e => by
    rcases ha with z | z
    · exact hB (by rw [e]; exact z)
    · omega
  exact ⟨by rw [hai_sai, if_neg e]; exact u.1, u.2.1, u.2.2⟩
theorem Fm.ar {v : Nat → Option Nat} (p : Fm x F A h h') (ha : A a ∨ hnx h ≤ a) (hz : a ≠ x + 1) : Fm x F A h (sar h' a v) := by
  refine ⟨p.1.ar hz, p.2.1, fun b hb hB => ?_⟩
  have u := p.2.2 b hb hB
  have e : b ≠ a := fun e => by
    rcases ha with z | z
    · exact hB (by rw [e]; exact z)
    · omega
  exact ⟨u.1, by rw [har_sar, if_neg e]; exact u.2.1, u.2.2⟩
theorem Fm.ob {c n : Nat} (p : Fm x F A h h') : Fm x F A h (hob h' c n) := by
  have := p.1.1
  refine ⟨p.1.ob, fun g hg b hb => ?_, p.2.2⟩
  have u := p.2.1 g hg b hb
  rw [hfi_hob, hfl_hob, hfr_hob, if_neg (by omega), if_neg (by omega), if_neg (by omega)]
  exact u
theorem Fm.ay {c n : Nat} (p : Fm x F A h h') (hx : x + 1 < hnx h) : Fm x F A h (hay h' c n) := by
  have := p.1.1
  refine ⟨p.1.ay hx, p.2.1, fun b hb hB => ?_⟩
  have u := p.2.2 b hb hB
  rw [hai_hay, har_hay, hal_hay, if_neg (by omega), if_neg (by omega), if_neg (by omega)]
  exact u
theorem Fm.sk {n : Nat} (p : Fm x F A h h') : Fm x F A h (hsk h' n) := ⟨p.1.sk, p.2.1, p.2.2⟩
end FMS
theorem Wo.fm {x : Nat} {h h' : Hp} (W : Wo (x + 46) h h') : Fm x [1200, 1202] (fun a => a = x + 47) h h' := by
  have hz : ¬ Fz x h (x + 46 + 1) := fun z => by have := z.1; omega
  refine ⟨W.stp hz, fun f hf a ha => ?_, fun a ha hA => ?_⟩
  · obtain ⟨x1, x2, x3, x4, x5, x6, x7, x8, x9, x10⟩ := W
    refine ⟨x9 f a (fun _ => ?_), by rw [x4], by rw [x5]⟩
    simp only [List.mem_cons, List.not_mem_nil, or_false] at hf
    omega
  · obtain ⟨x1, x2, x3, x4, x5, x6, x7, x8, x9, x10⟩ := W
    exact ⟨x10 a hA, by rw [x7], by rw [x6]⟩
theorem Po.fm {x i : Nat} {h h' : Hp} (hi : i < 8) (P : Po x i h h') : Fm x [204, 205, 206] (fun a => a = cA x i + 1) h h' := by
  obtain ⟨x1, x2, x3, x4, x5, x6, x7, x8, x9, x10⟩ := P
  refine ⟨⟨by omega, fun a _ => by rw [x2, x3]; exact ⟨rfl, rfl⟩, fun a _ => ⟨fun f _ => by rw [x5], fun f hf => x9 f a ?_, by rw [x4]⟩, fun y z => x10 y ?_, by rw [x7]⟩, fun f hf a ha => ⟨x9 f a ?_, by rw [x4], by rw [x5]⟩, fun a ha hA => ⟨x10 a hA, by rw [x7], by rw [x6]⟩⟩
  · rintro ⟨_, z⟩
    simp only [finI, List.mem_cons, List.not_mem_nil, or_false] at hf
    omega
  · have := z.1
    show y ≠ x + 2 + 4 * i + 1
    omega
  · rintro ⟨_, z⟩
    exact hf (by simp only [List.mem_cons, List.not_mem_nil, or_false]; exact z)
