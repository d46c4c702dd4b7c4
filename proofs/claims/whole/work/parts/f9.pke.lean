/-! ===== how a packet ends, how it begins ===== -/
theorem x_rv {α β : Type} {v : α} {f : α → Hp → Option (β × Hp)} {h : Hp} : bd (rt v) f h = f v h := rfl
section PKE
variable {x i p n s b f ec es ew len b0 : Nat} {e0 : Int32} {h h0 : Hp} {r r0 : RS} {bs : List Nat}
variable {kb : Int64 → Int64 → Int32 → Option Nat → Int32 → Int32 → Hp → Option ((Nat ⊕ Int32) × Hp)} {ke : Int32 → Hp → Option ((Nat ⊕ Int32) × Hp)} {l2 l4 : Int64} {l6 l8 l9 : Int32} {Φ : Nat ⊕ Int32 → Hp → Int32 → RS → Prop}
/-- numbers that are handed out -/
def Cn (r : RS) (c : Nat) : Prop := ∃ a b d, r.1 71 = nn a ∧ r.1 72 = nn b ∧ r.1 73 = nn d ∧ a ≤ c ∧ b ≤ c ∧ d ≤ c
def Cb (n : Nat) (r r' : RS) : Prop := (∀ c, Cn r c → Cn r' (c + n)) ∧ r'.1 66 = r.1 66 ∧ r'.1 0 = r.1 0
theorem Cb.of {r r' : RS} (e : ∀ k ∈ [0, 66, 71, 72, 73], r'.1 k = r.1 k) : Cb n r r' := ⟨fun c ⟨a, b, d, h1, h2, h3, h4, h5, h6⟩ => ⟨a, b, d, by rw [e 71 (by decide)]; exact h1, by rw [e 72 (by decide)]; exact h2, by rw [e 73 (by decide)]; exact h3, by omega, by omega, by omega⟩, e 66 (by decide), e 0 (by decide)⟩
theorem Cb.tr {m : Nat} {r r1 r2 : RS} (p : Cb n r r1) (q : Cb m r1 r2) : Cb (n + m) r r2 := ⟨fun c z => by
  have := q.1 _ (p.1 c z)
  rw [Nat.add_assoc] at this
  exact this, q.2.1.trans p.2.1, q.2.2.trans p.2.2⟩
def PE (x i : Nat) (e0 : Int32) (len : Nat) (h : Hp) (r : RS) (h' : Hp) (r' : RS) : Prop := Rel x i 12 96 e0 h' r' ∧ hfi h' 208 (cA x i) = 0 ∧ r'.1 67 = r.1 67 ∧ (hcs h').1 + WN r' ≤ (hcs h).1 + WN r + 60 * len ∧ (hcs h').2 + 6 * WN r' ≤ (hcs h).2 + 6 * WN r + 700 * len ∧ (∀ i', i' < 8 → i' ≠ i → iN (r'.2.1 5 i') ≤ iN (r.2.1 5 i')) ∧ Cb 20 r r'
theorem Rel.w8 (R : Rel x 8 es ew e0 h r) : Rel x ec es ew e0 h r := by
  obtain ⟨T, G, sm, C, SS, U⟩ := R
  exact ⟨T, G, sm, fun i hi => ⟨(C i hi).1, (C i hi).2.1, (C i hi).2.2.1, fun _ => (C i hi).2.2.2 (by omega)⟩, SS, U⟩
theorem Rel.nil (R : Rel x 8 es ew e0 h r) (hi : i < 8) (h1 : r.2.1 1 i = 0) : hfi h 208 (cA x i) = 0 := by
  obtain ⟨bs, a1, _, _, _, _, _, a7, _⟩ := (R.2.2.2.1 i hi).2.2.2 (by omega)
  rw [a1, a7 h1]
  rfl
/-- nothing has come of the next packet -/
theorem Rel.com (R : Rel x i 12 96 e0 h r) (hi : i < 8) (h208 : hfi h 208 (cA x i) = 0) : Rel x 8 12 96 e0 h (sA r 5 i 0) := by
  have T := R.st
  have p : Fm x [] (fun _ => False) h h := Fm.rf
  have w : Ro [5] r (sA r 5 i 0) := Ro.rf.a (by decide)
  have wx : Ho 12 i r (sA r 5 i 0) := Ho.a Ho.rf (Or.inl ⟨by omega, by omega, rfl⟩)
  obtain ⟨c1, c2, c3, _⟩ := R.2.2.2.1 i hi
  refine R.cnn (i := i) Hx.rf wx rfl (R.2.1.fm T p w (by decide) (by decide)) (by rw [w.gI (by decide)]; exact R.2.2.1) (w.gI (by decide)) (fun i' _ h2 _ => h2) (fun _ s' _ z => by rw [w.gA (by decide)]; exact z) (fun d _ => ⟨rfl, fun _ _ => rfl⟩) (fun u _ _ _ => rfl) (fun _ => ⟨c1.fm T hi p w (by decide) (fun z => z) (by decide), c2.fm T hi p w (by decide) (fun z => z) (by decide), c3.fm T hi p w (fun z => z) (by decide), fun _ => ⟨[], h208, ?_, by decide, By.nil, Cg.nil, Mg.nil, fun _ => rfl, Or.inl rfl⟩⟩)
  rw [sA_2, if_pos ⟨rfl, rfl⟩]
  rfl
/-- the model's end of a packet -/
def mEnd (i : Nat) : RS → Option (Int32 × RS) := rA 1 (nn i) fun v8 => if v8 = 0 then (R_look_J239 (nn i)) else (rI 79 fun v9 => if v9 = 0 then (R_look_J239 (nn i)) else (rI 79 fun v10 => bd (R_fail (nn i) v10) fun _ => R_look_J239 (nn i)))
theorem hp_end {v : Int32} (H : HP x i e0 len h0 r0 v h r) (hi : i < 8) (ho : r0.2.1 1 i = 1) (h208 : hfi h0 208 (cA x i) = 0) (hb : b0 < 256) (c0 : hai h0 (cA x i + 2) 0 = nn b0) (m0 : r0.2.1 6 (410 * i) = sb b0)
    (kk : ∀ h' r', PE x i e0 len h0 r0 h' r' → Sim (C_X11_feed_J169 x kb ke l2 l4 l6 (some (cA x i)) l8 l9) h' (R_look_J239 (nn i)) r' Φ) : Sim (C_X11_feed_J126 x kb ke l2 l4 l6 (some (cA x i)) l8 l9 v) h (mEnd i) r Φ := by
  obtain ⟨R, K, ⟨f, f1, f2, f3, f4⟩, c1, c2⟩ := H
  unfold C_X11_feed_J126 mEnd
  rw [sr_r1 hi, K.1.1, ho, sr_neg (by decide), sr_rI, f1, f2]
  by_cases g : f = 0
  · subst g
    rw [sl_neg (by decide), sl_neg (by decide), sl_pos (by decide), sr_pos (by decide)]
    exact kk h r ⟨R, K.2.2.1.trans h208, K.2.2.2 67 (by decide), c1, c2, fun i' _ _ => by rw [K.1.2.1]; exact Nat.le_refl _, Cb.of (fun k hk => K.2.2.2 k (by simp only [List.mem_cons, List.not_mem_nil, or_false] at hk ⊢; omega))⟩
  · have n3 : ¬ nn f = (3 : Int32) := fun z => by
      have := nn_inj (b := 3) (by omega) (by omega) z
      omega
    have n4 : ¬ nn f = (4 : Int32) := fun z => by
      have := nn_inj (b := 4) (by omega) (by omega) z
      omega
    rw [sl_neg n3, sl_neg n4, sl_neg (nn_ne0 (by omega) g), sr_neg (nn_ne0 (by omega) g), sr_rI, f1, sl_Cv R.st.2.1.1]
    refine Sim.seq (sim_refuse (b0 := b0) R hi (by rw [K.1.1]; exact ho) f3 hb (by rw [K.2.1]; exact c0) (by rw [K.1.2.2.1]; exact m0)) (fun _ h1 _ r1 z => ?_)
    obtain ⟨z1, z2, z3, z4, z5, z6⟩ := z
    exact kk h1 r1 ⟨z1.w8, z1.nil hi z2, z3.trans (K.2.2.2 67 (by decide)), by have := z4.1; omega, by have := z4.2; omega, fun i' g1 g2 => by rw [z5 i' g1 g2, K.1.2.1]; exact Nat.le_refl _, Cb.of (fun k hk => (z6 k hk).trans (K.2.2.2 k (by simp only [List.mem_cons, List.not_mem_nil, or_false] at hk ⊢; omega)))⟩
theorem bd_l {σ α β : Type} {M M' : σ → Option (α × σ)} {s s' : σ} {k : α → σ → Option (β × σ)} (e : M s = M' s') : bd M k s = bd M' k s' := by
  unfold bd
  rw [e]
theorem lost_end (R : Rel x i 12 96 e0 h r) (hi : i < 8) (h67 : r.1 67 = r0.1 67) (h5 : ∀ i', i' < 8 → i' ≠ i → iN (r.2.1 5 i') ≤ iN (r0.2.1 5 i')) (h73 : ∀ k ∈ [0, 66, 71, 72, 73], r.1 k = r0.1 k) (c1 : (hcs h).1 + WN r ≤ (hcs h0).1 + WN r0 + 60 * len) (c2 : (hcs h).2 + 6 * WN r ≤ (hcs h0).2 + 6 * WN r0 + 700 * len)
    {Kc : Unit → Hp → Option ((Nat ⊕ Int32) × Hp)}
    (kk : ∀ h' r', PE x i e0 len h0 r0 h' r' → Sim (Kc ()) h' (R_look_J239 (nn i)) r' Φ) : Sim (bd (C_X11_lost x (some (cA x i))) Kc) h (bd (bd (R_lost (nn i)) fun _ => rt ()) fun _ => mEnd i) r Φ := by
  rw [bd_assoc]
  refine Sim.seq (sim_lost (ec' := 8) R hi (fun i' _ h2 _ => h2)) (fun _ h2 _ r2 z => ?_)
  obtain ⟨z1, z2, z3, z4, z5⟩ := z
  rw [Sim_r x_rt]
  unfold mEnd
  rw [sr_r1 hi, z4, sr_pos rfl]
  exact kk h2 r2 ⟨z1.w8, z1.nil hi z4, (z2.2.1.gI (by decide)).trans h67, by have := z5.1; omega, by have := z5.2; omega, fun i' g1 g2 => by rw [(z3 i' g1 g2).2.1]; exact h5 i' g1 g2, Cb.of (fun k hk => (z2.2.1.gI (by simp only [List.mem_cons, List.not_mem_nil, or_false] at hk; rcases hk with rfl | rfl | rfl | rfl | rfl <;> decide)).trans (h73 k hk))⟩
theorem lv_end {P : Hp → Option (Int32 × Hp)} {M : RS → Option (Unit × RS)} (H : LvP x i e0 len h r (P h) (M r)) (hi : i < 8) (ho : r.2.1 1 i = 1) (h208 : hfi h 208 (cA x i) = 0) (hb : b0 < 256) (c0 : hai h (cA x i + 2) 0 = nn b0) (m0 : r.2.1 6 (410 * i) = sb b0)
    (kk : ∀ h' r', PE x i e0 len h r h' r' → Sim (C_X11_feed_J169 x kb ke l2 l4 l6 (some (cA x i)) l8 l9) h' (R_look_J239 (nn i)) r' Φ) : Sim (bd P fun w => C_X11_feed_J126 x kb ke l2 l4 l6 (some (cA x i)) l8 l9 w) h (bd M fun _ => mEnd i) r Φ := by
  obtain ⟨w, h1, r1, e1, z⟩ := H
  rcases z with ⟨w4, eM, R1, K1, c1, c2⟩ | ⟨eM, H⟩
  · rw [Sim_l (e_bd e1), Sim_r (M' := bd (bd (R_lost (nn i)) fun _ => rt ()) fun _ => mEnd i) (r' := r1) (bd_l eM), w4]
    unfold C_X11_feed_J126
    rw [sl_neg (by decide), sl_pos rfl, sl_Cv R1.st.2.1.1]
    exact lost_end R1 hi (K1.2.2.2 67 (by decide)) (fun i' _ _ => by rw [K1.1.2.1]; exact Nat.le_refl _) (fun k hk => K1.2.2.2 k (by simp only [List.mem_cons, List.not_mem_nil, or_false] at hk ⊢; omega)) c1 c2 kk
  · rw [Sim_l (e_bd e1), Sim_r (e_bd eM)]
    exact hp_end H hi ho h208 hb c0 m0 kk
/-- no session, and no CONNECT -/
theorem non_end (R : Rel x i 12 96 e0 h r) (hi : i < 8) (h7 : r.2.1 7 i = -1) (hb : b0 < 256) (ht : b0 / 16 ≠ 1) (c0 : hai h (cA x i + 2) 0 = nn b0)
    (kk : ∀ h' r', PE x i e0 len h r h' r' → Sim (C_X11_feed_J169 x kb ke l2 l4 l6 (some (cA x i)) l8 l9) h' (R_look_J239 (nn i)) r' Φ) : Sim (C_X11_feed_J126 x kb ke l2 l4 l6 (some (cA x i)) l8 l9 (130 : Int32)) h (bd (bd (R_lost (nn i)) fun _ => rt ()) fun _ => mEnd i) r Φ := by
  have T := R.st
  obtain ⟨c1, _⟩ := T.pk hi
  have a2 : hfr h (100 * 2 + 2) (cA x i) = none := by
    rcases (R.2.2.2.1 i hi).1.2.2.2 with ⟨_, a2⟩ | ⟨s, b, hs, a1, _⟩
    · exact a2
    · rw [h7] at a1
      exact absurd a1 (neg_nn (by omega))
  have gn : nn (b0 / 16) ≠ (1 : Int32) := fun z => ht (nn_inj (b := 1) (by omega) (by omega) z)
  unfold C_X11_feed_J126
  rw [sl_neg (by decide), sl_neg (by decide), sl_neg (by decide), sl_Cv T.2.1.1]
  have e : bd (C_X11_refuse x (some (cA x i)) (130 : Int32)) (fun _ => C_X11_feed_J169 x kb ke l2 l4 l6 (some (cA x i)) l8 l9) h = bd (bd (C_X11_lost x (some (cA x i))) fun _ => rt ()) (fun _ => C_X11_feed_J169 x kb ke l2 l4 l6 (some (cA x i)) l8 l9) h := by
    refine bd_l ?_
    unfold C_X11_refuse C_X11_refuse_J65
    rw [e_gR c1, a2, if_pos rfl, e_Cv c1, e_bd (qc_type T hi hb c0), if_neg gn, e_Cv T.2.1.1]
  rw [Sim_l e, bd_assoc]
  refine lost_end (h0 := h) (r0 := r) (len := len) R hi rfl (fun _ _ _ => Nat.le_refl _) (fun _ _ => rfl) (by omega) (by omega) (fun h' r' q => ?_)
  rw [Sim_l x_rv]
  exact kk h' r' q
end PKE
