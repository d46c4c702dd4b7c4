/-! ===== a session is removed ===== -/
section REM
variable {x ec es es' ew s b i : Nat} {e0 : Int32} {h : Hp} {r : RS}
def remH (h : Hp) (x s : Nat) : Hp := sfi (sar h (x + 34) (va_up (har h (x + 34)) s none)) 1313 x (hfi h 1313 x + 1)
def remM (r : RS) (s : Nat) : RS := sI (sA (sA (sA (sA (sA r 11 s 0) 24 s 0) 31 s 0) 38 s 0) 43 s 0) 74 (r.1 74 + 1)
theorem qc_remove (T : Stat x h) (S : SesT x h s b) (hs : s < 12) : C_X11_remove x (some b) h = some ((), remH h x s) := by
  have : wp (C_X11_remove x (some b)) h (fun _ h' => h' = remH h x s) := by
    unfold C_X11_remove
    have e1 : hfr h (100 * 13 + 1) x = some (x + 34) := T.2.1.2.2.1
    have e2 : hfi h (100 * 10 + 0) b = nn s := S.2.2.2.1
    rw [wp_gR T.2.1.1, e1, wp_gI S.1, e2, wn_Wr0 (by exact T.2.2.1.2.2.1) (by rw [T.2.2.1.2.2.2.1]; exact hs) (by omega), wp_gI (by exact T.2.1.1), wp_pI (by exact T.2.1.1), wp_rt]
    rfl
  obtain ⟨v, h', e1, e2⟩ := this
  rw [e1, e2]
theorem qm_rem (hs : s < 12) : R_ends_J14 (nn s) r = some ((), remM r s) := by
  have : wp (R_ends_J14 (nn s)) r (fun _ r' => r' = remM r s) := by
    unfold R_ends_J14
    rw [ww_11 hs, ww_24 hs, ww_31 hs, ww_38 hs, ww_43 hs, wp_rI, wp_wI, wp_rt]
    rfl
  obtain ⟨v, h', e1, e2⟩ := this
  rw [e1, e2]
theorem Rel.rem (R : Rel x ec es ew e0 h r) (hs : s < 12) (hb : har h (x + 34) s = some b) (h15 : r.2.1 15 s = -1) (hes : ∀ s', s' < 12 → s' ≠ s → s' ≠ es' → s' ≠ es) : Rel x ec es' ew e0 (remH h x s) (remM r s) := by
  have R0 := R
  obtain ⟨T, G, sm, C, SS, U1, U2, U3, K, U4, f0, bs0, W⟩ := R0
  have hx := T.1
  have px : Hx x b 8 h (remH h x s) := by
    unfold remH
    refine Hx.fi (Hx.ar Hx.rf ?_ (by omega)) ?_ ?_
    · exact Or.inl (Or.inr (Or.inr rfl))
    · exact Or.inl (Or.inr (Or.inr (Or.inr (Or.inr ⟨rfl, by omega⟩))))
    · exact Or.inl (by decide)
  have wx : Ho s 8 r (remM r s) := by
    unfold remM
    refine Ho.ii (Ho.a (Ho.a (Ho.a (Ho.a (Ho.a Ho.rf ?_) ?_) ?_) ?_) ?_) (by omega) (by omega)
    · exact Or.inr (Or.inl ⟨by omega, by omega, rfl⟩)
    · exact Or.inr (Or.inl ⟨by omega, by omega, rfl⟩)
    · exact Or.inr (Or.inl ⟨by omega, by omega, rfl⟩)
    · exact Or.inr (Or.inl ⟨by omega, by omega, rfl⟩)
    · exact Or.inr (Or.inl ⟨by omega, by omega, rfl⟩)
  have e34 : ∀ s', har (remH h x s) (x + 34) s' = if s' = s then none else har h (x + 34) s' := fun s' => by
    unfold remH
    rw [har_sfi, har_sar, if_pos rfl]
    rfl
  have p : Fm x [1313] (fun a => a = x + 34) h (remH h x s) := by
    unfold remH
    refine Fm.fi (Fm.ar Fm.rf (Or.inl rfl) (by omega)) ?_ ?_
    · exact Or.inl (by decide)
    · exact Or.inl (by decide)
  have n1 : har (remH h x s) (x + 34) s = none := by rw [e34, if_pos rfl]
  have e11 : (remM r s).2.1 11 s = 0 := by
    unfold remM
    rw [sI_2, sA_o (by decide), sA_o (by decide), sA_o (by decide), sA_o (by decide), sA_2, if_pos ⟨rfl, rfl⟩]
  refine R.one px wx (Or.inr ⟨hs, hb⟩) (fun s' g => by rw [e34, if_neg g]) ?_ ?_ (Or.inl rfl) (fun _ _ _ z => z) hes (fun z => by omega) (fun i' h1 _ h3 _ => ?_) (fun _ _ _ _ _ _ _ _ _ _ => ⟨rfl, fun f hf => ?_⟩) (fun _ _ _ _ _ _ _ _ _ f hf => ?_) (fun z => by omega) (fun _ => Or.inl ⟨e11, n1⟩) ?_ ?_ ?_ ?_ ?_ ?_ ?_ (fun _ _ => by unfold remM Zr; refine ⟨?_, ?_, ?_, ?_⟩ <;> simp [sI_2, sA_2])
  · obtain ⟨g1, g2, g3, g4, g5, g6, g7, g8⟩ := G
    refine ⟨g1, ?_, ?_, ?_, ?_, ?_, ?_, ?_⟩
    · rw [p.gi (f := 1309) (by decide) (by omega)]; exact g2
    · rw [p.gi (f := 1310) (by decide) (by omega)]; exact g3
    · rw [p.gi (f := 1311) (by decide) (by omega)]; exact g4
    · rw [p.gi (f := 1312) (by decide) (by omega)]; exact g5
    · rw [p.gi (f := 1314) (by decide) (by omega)]; exact g6
    · rw [p.gi (f := 1315) (by decide) (by omega)]; exact g7
    · show r.1 74 + 1 = hfi (remH h x s) 1313 x + e0
      unfold remH
      rw [hfi_sfi, if_pos ⟨rfl, rfl⟩, g8, Int32.add_assoc, Int32.add_assoc, Int32.add_comm e0 1]
  · rw [sSum.fm T p (by decide)]
    exact sm
  · rcases (C i' h1).1.2.2.2 with z | ⟨s2, b2, z1, z2, z3, z4, z5, z6, z7⟩
    · rw [z.1] at h3
      exact absurd h3 (by
        intro e
        have h0 : 0 ≤ nn s := nn_ge (by omega)
        exact absurd (show (0 : Int32) ≤ -1 by rw [e]; exact h0) (by decide))
    · have : s2 = s := nn_inj (by omega) (by omega) (z2.symm.trans h3)
      subst this
      rw [h15] at z5
      have h0 : 0 ≤ nn i' := nn_ge (by omega)
      exact absurd (show (0 : Int32) ≤ -1 by rw [z5]; exact h0) (by decide)
  · unfold remH
    simp only [List.mem_cons, List.not_mem_nil, or_false] at hf
    rw [hfi_sfi, if_neg (by omega)]
    rfl
  · unfold remH
    simp only [List.mem_cons, List.not_mem_nil, or_false] at hf
    rw [hfi_sfi, if_neg (by omega)]
    rfl
  · intro b1 _ _ _ _ z
    rw [n1] at z
    cases z
  · intro b1 _ _ _ z
    rw [n1] at z
    cases z
  · intro b1 _ _ _ _ z
    rw [n1] at z
    cases z
  · intro b1 _ _ _ z
    rw [n1] at z
    cases z
  · intro _ z
    rw [e11] at z
    exact absurd z (by decide)
  · intro s' b' m j _ _ _ _ _ _
    refine ⟨fun b1 z => ?_, fun z => ?_⟩
    · rw [n1] at z
      cases z
    · rw [e11] at z
      exact absurd z (by decide)
  · intro _ b1 m j z
    rw [n1] at z
    cases z
end REM
