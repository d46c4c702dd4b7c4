/-! ===== loops that count up; which fields of the model change ===== -/
theorem up_loop {S ρ : Type} {L : Nat → Int32 → S → Option (ρ × S)} {Q : ρ → S → Prop} (I : Nat → S → Prop) (b : Nat)
    (hs : ∀ n k σ, k < b → I k σ → (∀ σ', I (k + 1) σ' → wp (L n (nn (k + 1))) σ' Q) → wp (L (n + 1) (nn k)) σ Q)
    (he : ∀ n σ, I b σ → wp (L (n + 1) (nn b)) σ Q) : ∀ (m k n : Nat) (σ : S), k + m = b → m < n → I k σ → wp (L n (nn k)) σ Q := by
  intro m
  induction m with
  | zero =>
    intro k n σ hk hn hi
    obtain ⟨n', rfl⟩ : ∃ z, n = z + 1 := ⟨n - 1, by omega⟩
    have e : k = b := by omega
    subst e
    exact he n' σ hi
  | succ m ih =>
    intro k n σ hk hn hi
    obtain ⟨n', rfl⟩ : ∃ z, n = z + 1 := ⟨n - 1, by omega⟩
    exact hs n' k σ (by omega) hi (fun σ' hi' => ih (k + 1) n' σ' (by omega) (by omega) hi')
def Ro (S : List Nat) (r r' : RS) : Prop := ∀ k, k ∉ S → r'.1 k = r.1 k ∧ r'.2.1 k = r.2.1 k ∧ r'.2.2 k = r.2.2 k
theorem Ro.rf {S : List Nat} {r : RS} : Ro S r r := fun _ _ => ⟨rfl, rfl, rfl⟩
theorem Ro.tr {S : List Nat} {r r1 r2 : RS} (x : Ro S r r1) (y : Ro S r1 r2) : Ro S r r2 := fun k hk => ⟨(y k hk).1.trans (x k hk).1, (y k hk).2.1.trans (x k hk).2.1, (y k hk).2.2.trans (x k hk).2.2⟩
theorem Ro.sub {S T : List Nat} {r r' : RS} (x : Ro S r r') (h : ∀ k ∈ S, k ∈ T) : Ro T r r' := fun k hk => x k (fun z => hk (h k z))
theorem Ro.i {S : List Nat} {r r' : RS} {k : Nat} {v : Int32} (x : Ro S r r') (h : k ∈ S) : Ro S r (sI r' k v) := fun j hj => by
  have e : j ≠ k := fun e => hj (by rw [e]; exact h)
  exact ⟨by rw [sI_1, if_neg e]; exact (x j hj).1, (x j hj).2.1, (x j hj).2.2⟩
theorem Ro.a {S : List Nat} {r r' : RS} {k i : Nat} {v : Int32} (x : Ro S r r') (h : k ∈ S) : Ro S r (sA r' k i v) := fun j hj => by
  have e : j ≠ k := fun e => hj (by rw [e]; exact h)
  exact ⟨(x j hj).1, by rw [sA_o e]; exact (x j hj).2.1, (x j hj).2.2⟩
theorem Ro.l {S : List Nat} {r r' : RS} {k i : Nat} {v : Int64} (x : Ro S r r') (h : k ∈ S) : Ro S r (sL r' k i v) := fun j hj => by
  have e : j ≠ k := fun e => hj (by rw [e]; exact h)
  exact ⟨(x j hj).1, (x j hj).2.1, by rw [sL_o e]; exact (x j hj).2.2⟩
