/-! ===== kept as a call ===== -/
section CA8
variable {x j i : Nat} {e0 : Int32} {h h' : Hp} {r r' : RS}
theorem kep_of (R : Rel x 8 12 96 e0 h r) (K : KL r (kpt r)) (l : Int32) : (∃ k m q, l = nn k ∧ k < 16 ∧ q < 640 ∧ C_X6_get (x + 35) l h = some (some m, h) ∧ MpT x h r m q ∧ r.2.1 64 k = nn q ∧ ¬ l < 0 ∧ l < r.1 65) ∨ (C_X6_get (x + 35) l h = some (none, h) ∧ (l < 0 ∨ (¬ l < 0 ∧ ¬ l < r.1 65))) := by
  have T := R.st
  have hk := R.2.2.2.2.2.2.2.2.1
  obtain ⟨_, _, _, _, a5, a6, a7, a8⟩ := T.2.2.1
  have k35 : hkd h (x + 35) = 8 + 1 := a5
  have e801 : hfi h (100 * 8 + 1) (x + 35) = nn (kpt r).length := hk.2.1
  have e800 : hfr h (100 * 8 + 0) (x + 35) = some (x + 36) := a6
  have kl := K.2.1
  unfold C_X6_get C_X6_get_J21
  by_cases g : l < 0
  · rw [if_pos g]
    exact Or.inr ⟨rfl, Or.inl g⟩
  · obtain ⟨k, ek, k31⟩ := nn_ex g
    rw [if_neg g, e_gI k35, e801, K.1, ek]
    by_cases g2 : k < (kpt r).length
    · obtain ⟨m, m1, m2⟩ := hk.2.2 k g2
      rw [if_neg (by rw [nn_le (by omega) (by omega)]; omega), e_gR k35, e800, e_Ar (t := 9) a7 (nn_inr (by omega) (by omega)), nn_N (by omega), m1]
      exact Or.inl ⟨k, m, (kpt r).getD k 0, rfl, by omega, (K.2.2 k g2).2, rfl, m2, (K.2.2 k g2).1, by rw [← ek]; exact g, by rw [nn_lt (by omega) (by omega)]; exact g2⟩
    · rw [if_pos (by rw [nn_le (by omega) (by omega)]; omega)]
      exact Or.inr ⟨rfl, Or.inr ⟨by rw [← ek]; exact g, by rw [nn_lt (by omega) (by omega)]; exact g2⟩⟩
end CA8
