theorem first_or (n : Nat) (P : Nat → Prop) : ∃ a, a ≤ n ∧ (∀ i, i < a → ¬ P i) ∧ (a < n → P a) := by
  induction n with
  | zero => exact ⟨0, Nat.le_refl _, fun i hi => by omega, fun h => by omega⟩
  | succ n ih =>
    obtain ⟨a, a1, a2, a3⟩ := ih
    by_cases g : a < n
    · exact ⟨a, by omega, a2, fun _ => a3 g⟩
    · have e : a = n := by omega
      by_cases gp : P n
      · exact ⟨n, by omega, by rw [← e]; exact a2, fun _ => gp⟩
      · refine ⟨n + 1, Nat.le_refl _, fun i hi => ?_, fun h => by omega⟩
        by_cases ei : i = n
        · rw [ei]; exact gp
        · exact a2 i (by omega)
section KEM
variable {x ec es ew m j : Nat} {e0 : Int32} {h h' : Hp} {r r' : RS} {K ks : List Nat}
theorem Kep.mk (hKL : KL r' ks) (hKC : KC r' ks) (hf : ks.filter (fun j => !gon r' j) = K) (hc : hfi h' 801 (x + 35) = nn K.length) (he : ∀ k, k < K.length → ∃ m, har h' (x + 36) k = some m ∧ MpT x h' r' m (K.getD k 0)) : Kep x h' r' := by
  have ek : kpt r' = K := by rw [hKL.kp, hf]
  unfold Kep
  rw [ek]
  exact ⟨⟨ks.length, hKL.2.1, hKL.1, fun k hk => ⟨_, (hKL.2.2 k hk).2, (hKL.2.2 k hk).1, hKC _ (by
    rw [List.getD_eq_getElem?_getD, List.getElem?_eq_getElem hk]
    exact List.getElem_mem hk)⟩⟩, hc, he⟩
theorem filter_all {p : Nat → Bool} {l : List Nat} (h : ∀ q ∈ l, p q = true) : l.filter p = l := List.filter_eq_self.mpr h
theorem mem_getD {l : List Nat} {k : Nat} (hk : k < l.length) : l.getD k 0 ∈ l := by
  rw [List.getD_eq_getElem?_getD, List.getElem?_eq_getElem hk]
  exact List.getElem_mem hk
theorem getD_of_mem {l : List Nat} {q : Nat} (hq : q ∈ l) : ∃ k, k < l.length ∧ l.getD k 0 = q := by
  obtain ⟨k, k1, k2⟩ := List.getElem_of_mem hq
  refine ⟨k, k1, ?_⟩
  rw [List.getD_eq_getElem?_getD, List.getElem?_eq_getElem k1]
  exact k2
theorem mem_erase {l : List Nat} {a q : Nat} (hq : q ∈ l.eraseIdx a) : q ∈ l := List.mem_of_mem_eraseIdx hq
/-- the store after one was taken out -/
theorem Rel.out1 {a : Nat} (R : Rel x ec es ew e0 h r) (hK : KL r K) (hg : ∀ q ∈ K, gon r q = false) (hc : hfi h 801 (x + 35) = nn K.length) (he : ∀ k, k < K.length → ∃ m, har h (x + 36) k = some m ∧ MpT x h r m (K.getD k 0)) (ha : a < K.length) (w : Ro [64, 65] r r') (hK' : KL r' ks) (hKC : KC r' ks) (hks : ks.filter (fun j => !gon r' j) = K.eraseIdx a) (hq : ∀ q ∈ ks, q ∈ K ∨ ∀ s' b', s' < 12 → har h (x + 34) s' = some b' → r.2.1 20 s' ≠ nn q) :
    Rel x ec es ew e0 (sar (sfi h 801 (x + 35) (nn (K.length - 1))) (x + 36) (va_up (disF (har h (x + 36)) a (K.length - 1)) (K.length - 1) none)) r' ∧ Fm x [801] (fun a => a = x + 36) h (sar (sfi h 801 (x + 35) (nn (K.length - 1))) (x + 36) (va_up (disF (har h (x + 36)) a (K.length - 1)) (K.length - 1) none)) := by
  have hx := R.st.1
  have hl := hK.2.1
  have p : Fm x [801] (fun a => a = x + 36) h (sar (sfi h 801 (x + 35) (nn (K.length - 1))) (x + 36) (va_up (disF (har h (x + 36)) a (K.length - 1)) (K.length - 1) none)) := by
    refine Fm.ar (Fm.fi Fm.rf ?_ ?_) (Or.inl rfl) (by omega)
    · exact Or.inl (by decide)
    · exact Or.inl (by decide)
  have hle : (K.eraseIdx a).length = K.length - 1 := List.length_eraseIdx_of_lt ha
  have eF : ∀ k, k < K.length - 1 → va_up (disF (har h (x + 36)) a (K.length - 1)) (K.length - 1) none k = har h (x + 36) (if k < a then k else k + 1) := fun k hk => by
    show (if k = K.length - 1 then none else disF (har h (x + 36)) a (K.length - 1) k) = _
    rw [if_neg (by omega)]
    unfold disF
    by_cases g : k < a
    · rw [if_neg (by omega), if_pos g]
    · rw [if_pos (by omega), if_neg g]
  refine ⟨R.store p w (Kep.mk hK' hKC hks ?_ (fun k hk => ?_)) rfl rfl (fun s b m j h1 h2 h3 h4 => ?_), p⟩
  · rw [hfi_sar, hfi_sfi, if_pos ⟨rfl, rfl⟩, hle]
  · rw [hle] at hk
    obtain ⟨m', a1, a2⟩ := he (if k < a then k else k + 1) (by split <;> omega)
    refine ⟨m', ?_, ?_⟩
    · rw [har_sar, if_pos rfl, eF k hk]
      exact a1
    · rw [gD_erase]
      have : (if k < a then K.getD k 0 else K.getD (k + 1) 0) = K.getD (if k < a then k else k + 1) 0 := by split <;> rfl
      rw [this]
      exact a2.to p w (by decide) (by decide)
  · obtain ⟨_, _, _, _, q5, q6⟩ := R.2.2.2.2.2.2.2.2.2.1 s b m j h1 h2 h3 h4
    rw [hc, iN_nn (by omega)] at q5
    rw [hK.1, iN_nn (by omega)] at q6
    refine ⟨fun k hk => ?_, fun k hk => ?_⟩
    · rw [hfi_sar, hfi_sfi, if_pos ⟨rfl, rfl⟩, iN_nn (by omega)] at hk
      rw [har_sar, if_pos rfl, eF k hk]
      exact q5 _ (by split <;> omega)
    · rw [hK'.1, iN_nn (by have := hK'.2.1; omega)] at hk
      rw [(hK'.2.2 k hk).1]
      rcases hq _ (mem_getD hk) with z | z
      · obtain ⟨k0, z1, z2⟩ := getD_of_mem z
        have := q6 k0 z1
        rw [(hK.2.2 k0 z1).1, z2] at this
        exact this
      · intro e
        exact z s b h1 h2 (by rw [h4, e])
end KEM
