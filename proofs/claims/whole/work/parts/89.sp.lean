/-! ===== short packets, by both ===== -/
/-- only what connections send, and the writer, changed -/
def Oo (x : Nat) (h h' : Hp) : Prop := (hnx h' = hnx h ∧ hkd h' = hkd h ∧ hln h' = hln h ∧ hfl h' = hfl h ∧ hfr h' = hfr h ∧ hal h' = hal h ∧ har h' = har h ∧ hcs h' = hcs h) ∧ (∀ f a, f ∉ [204, 205, 206, 1200, 1202] → hfi h' f a = hfi h f a) ∧ ∀ a, a ≠ x + 47 → (∀ i, i < 8 → a ≠ cA x i + 1) → hai h' a = hai h a
theorem Oo.rf {x : Nat} {h : Hp} : Oo x h h := ⟨⟨rfl, rfl, rfl, rfl, rfl, rfl, rfl, rfl⟩, fun _ _ _ => rfl, fun _ _ _ => rfl⟩
theorem Oo.tr {x : Nat} {h h1 h2 : Hp} (p : Oo x h h1) (q : Oo x h1 h2) : Oo x h h2 := by
  obtain ⟨⟨x1, x2, x3, x4, x5, x6, x7, x8⟩, x9, x10⟩ := p
  obtain ⟨⟨y1, y2, y3, y4, y5, y6, y7, y8⟩, y9, y10⟩ := q
  exact ⟨⟨y1.trans x1, y2.trans x2, y3.trans x3, y4.trans x4, y5.trans x5, y6.trans x6, y7.trans x7, y8.trans x8⟩, fun f a hf => (y9 f a hf).trans (x9 f a hf), fun a h1 h2 => (y10 a h1 h2).trans (x10 a h1 h2)⟩
theorem Wo.oo {x : Nat} {h h' : Hp} (W : Wo (x + 46) h h') : Oo x h h' := by
  obtain ⟨x1, x2, x3, x4, x5, x6, x7, x8, x9, x10⟩ := W
  refine ⟨⟨x1, x2, x3, x4, x5, x6, x7, x8⟩, fun f a hf => x9 f a (fun _ => ?_), fun a h1 _ => x10 a h1⟩
  simp only [List.mem_cons, List.not_mem_nil, or_false] at hf
  omega
theorem Po.oo {x i : Nat} {h h' : Hp} (hi : i < 8) (P : Po x i h h') : Oo x h h' := by
  obtain ⟨x1, x2, x3, x4, x5, x6, x7, x8, x9, x10⟩ := P
  refine ⟨⟨x1, x2, x3, x4, x5, x6, x7, x8⟩, fun f a hf => x9 f a ?_, fun a _ h2 => x10 a (h2 i hi)⟩
  rintro ⟨_, z⟩
  simp only [List.mem_cons, List.not_mem_nil, or_false] at hf
  omega
theorem Oo.fm {x : Nat} {h h' : Hp} (P : Oo x h h') : Fm x [204, 205, 206, 1200, 1202] (fun a => a = x + 47 ∨ ∃ i, i < 8 ∧ a = cA x i + 1) h h' := by
  obtain ⟨⟨x1, x2, x3, x4, x5, x6, x7, x8⟩, x9, x10⟩ := P
  refine ⟨⟨by omega, fun a _ => by rw [x2, x3]; exact ⟨rfl, rfl⟩, fun a _ => ⟨fun f _ => by rw [x5], fun f hf => x9 f a ?_, by rw [x4]⟩, fun y z => x10 y ?_ (fun i hi => ?_), by rw [x7]⟩, fun f hf a ha => ⟨x9 f a hf, by rw [x4], by rw [x5]⟩, fun a ha hA => ⟨x10 a (fun e => hA (Or.inl e)) (fun i hi e => hA (Or.inr ⟨i, hi, e⟩)), by rw [x7], by rw [x6]⟩⟩
  · simp only [finI, List.mem_cons, List.not_mem_nil, or_false] at hf ⊢
    omega
  · have := z.1; omega
  · have := z.1
    show y ≠ x + 2 + 4 * i + 1
    omega
def oS : List Nat := [2, 3, 4, 68, 88, 89, 90, 91]
section SHP
variable {x ec es ew i : Nat} {e0 : Int32} {h : Hp} {r : RS}
/-- a packet of one or two bytes of body, or more: made by both, then sent -/
theorem sim_mk {f : Nat} {h1 : Hp} {r1 : RS} {bs : List Nat} (R : Rel x ec es ew e0 h r) (hi : i < 8) (ho : r.2.1 1 i = 1) (W : Wo (x + 46) h h1) (H : WR (x + 46) h1 (nn f) bs) (w : Ro [88, 89, 90, 91] r r1) (P : PK r1 (f :: (vb 4 bs.length ++ bs))) (hf : f < 256) :
    Sim (C_X0_put (cA x i) (some (x + 46))) h1 (R_send (nn i)) r1 (fun _ h' _ r' => Rel x ec es ew e0 h' r' ∧ Oo x h h' ∧ Ro oS r r') := by
  have R1 : Rel x ec es ew e0 h1 r1 := R.scr W.sc (w.sub (by decide)) ⟨_, _, H⟩
  refine (sim_send R1 hi H P hf (by rw [w.gA (by decide)]; exact ho)).mono (fun _ h2 _ r2 z => ⟨z.1, W.oo.tr (z.2.1.oo hi), (w.sub (by decide)).tr (z.2.2.sub (by decide))⟩)
theorem Rel.st (R : Rel x ec es ew e0 h r) : Stat x h := R.1
theorem Rel.wr (R : Rel x ec es ew e0 h r) : ∃ f bs, WR (x + 46) h f bs := R.2.2.2.2.2.2.2.2.2.2
/-- the writer's reference and its own kind, in a heap where only the writer changed -/
theorem wref {h1 : Hp} (T : Stat x h) (W : Wo (x + 46) h h1) : hkd h1 x = 13 + 1 ∧ hfr h1 (100 * 13 + 5) x = some (x + 46) ∧ hkd h1 (x + 46) = 12 + 1 ∧ ∀ i, i < 8 → hkd h1 (cA x i) = 2 + 1 := by
  obtain ⟨x1, x2, x3, x4, x5, x6, x7, x8, x9, x10⟩ := W
  refine ⟨by rw [x2]; exact T.2.1.1, by rw [x5]; exact T.2.1.2.2.2.2.2.2.1, by rw [x2]; exact T.2.2.2.2.2.1.1, fun i hi => ?_⟩
  rw [x2]
  exact (T.2.2.2.2.2.2 i hi).2.1
theorem sim_bye {v : Nat} (R : Rel x ec es ew e0 h r) (hi : i < 8) (ho : r.2.1 1 i = 1) (hv : v < 256) :
    Sim (C_X11_sayFarewell x (some (cA x i)) (nn v)) h (R_short4 (nn i) 224 2 (nn v) 0 4) r (fun _ h' _ r' => Rel x ec es ew e0 h' r' ∧ Oo x h h' ∧ Ro oS r r') := by
  have T := R.st
  obtain ⟨f0, b0, W0⟩ := R.wr
  obtain ⟨k1, k2, k3, k4⟩ := wref T (Wo.rf (h := h))
  unfold C_X11_sayFarewell R_short4
  rw [sl_gR k1, k2, sl_Cv k3]
  refine Sim.seqL (qc_wbegin W0) (fun _ h1 z1 => ?_)
  obtain ⟨k1, k2, k3, k4⟩ := wref T z1.2
  rw [sl_gR k1, k2, sl_Cv k3]
  refine Sim.seqL (qc_one z1.1 (by simp)) (fun _ h2 z2 => ?_)
  have W2 := z1.2.tr z2.2
  obtain ⟨k1, k2, k3, k4⟩ := wref T W2
  rw [sl_gR k1, k2, sl_Cv k3]
  refine Sim.seqL (qc_one z2.1 (by simp)) (fun _ h3 z3 => ?_)
  have W3 := W2.tr z3.2
  obtain ⟨k1, k2, k3, k4⟩ := wref T W3
  rw [sl_gR k1, k2, sl_Cv (k4 i hi), sr_wI]
  have w0 : Ro [88, 89] r (sI r 89 (0 : Int32)) := Ro.rf.i (by decide)
  refine Sim.seqR (qm_put (bs := []) PK.zero (by simp)) (fun _ r1 y1 => ?_)
  refine Sim.seqR (qm_put y1.1 (by simp)) (fun _ r2 y2 => ?_)
  refine Sim.seqR (qm_put y2.1 (by simp)) (fun _ r3 y3 => ?_)
  refine Sim.seqR (qm_put y3.1 (by simp)) (fun _ r4 y4 => ?_)
  have w4 := (((w0.tr y1.2).tr y2.2).tr y3.2).tr y4.2
  have ev : lo8 (nn v) = v := by rw [lo8_nn (by omega)]; omega
  have P4 := y4.1
  have H3 := z3.1
  have e1 : lo8 (224 : Int32) = 224 := by decide
  have e2 : lo8 (2 : Int32) = 2 := by decide
  have e3 : lo8 (0 : Int32) = 0 := by decide
  rw [e1, e2, ev, e3] at P4
  rw [ev, e3] at H3
  rw [sr_wI]
  have w5 : Ro [88, 89] r (sI r4 89 (4 : Int32)) := w4.i (by decide)
  have P5 : PK (sI r4 89 (4 : Int32)) [224, 2, v, 0] := ⟨by rw [sI_1, if_pos rfl]; rfl, by rw [sI_2]; exact P4.2.1, P4.2.2⟩
  refine Sim.seq (sim_mk R hi ho W3 (f := 224) (bs := [v, 0]) H3 (w5.sub (by decide)) P5 (by omega)) (fun _ h' _ r' q => Sim.ret q)
theorem sim_ping (R : Rel x ec es ew e0 h r) (hi : i < 8) (ho : r.2.1 1 i = 1) {h1 : Hp} (W : Wo (x + 46) h h1) (H : WR (x + 46) h1 (208 : Int32) []) {α : Type} {f : Unit → Hp → Option (α × Hp)} {Φ : α → Hp → Unit → RS → Prop} (kk : ∀ h' r', Rel x ec es ew e0 h' r' → Oo x h h' → Ro oS r r' → Sim (f ()) h' (rt ()) r' Φ) :
    Sim (bd (C_X0_put (cA x i) (some (x + 46))) f) h1 (R_short4 (nn i) 208 0 0 0 2) r Φ := by
  unfold R_short4
  rw [sr_wI]
  have w0 : Ro [88, 89] r (sI r 89 (0 : Int32)) := Ro.rf.i (by decide)
  refine Sim.seqR (qm_put (bs := []) PK.zero (by simp)) (fun _ r1 y1 => ?_)
  refine Sim.seqR (qm_put y1.1 (by simp)) (fun _ r2 y2 => ?_)
  refine Sim.seqR (qm_put y2.1 (by simp)) (fun _ r3 y3 => ?_)
  refine Sim.seqR (qm_put y3.1 (by simp)) (fun _ r4 y4 => ?_)
  have w4 := (((w0.tr y1.2).tr y2.2).tr y3.2).tr y4.2
  have P4 := y4.1
  have e1 : lo8 (208 : Int32) = 208 := by decide
  have e3 : lo8 (0 : Int32) = 0 := by decide
  rw [e1, e3] at P4
  rw [sr_wI]
  have w5 : Ro [88, 89] r (sI r4 89 (2 : Int32)) := w4.i (by decide)
  have P5 : PK (sI r4 89 (2 : Int32)) [208, 0] := ⟨by rw [sI_1, if_pos rfl]; rfl, fun k hk => by
    rw [sI_2]
    have hk2 : k < 2 := hk
    have := P4.2.1 k (by simp; omega)
    rw [this]
    have hc : k = 0 ∨ k = 1 := by omega
    rcases hc with rfl | rfl <;> rfl, fun b hb => by
      simp only [List.mem_cons, List.not_mem_nil, or_false] at hb
      omega⟩
  refine Sim.seq (sim_mk R hi ho W (f := 208) (bs := []) H (w5.sub (by decide)) P5 (by omega)) (fun _ h' _ r' q => kk h' r' q.1 q.2.1 q.2.2)
theorem sim_answer {f num v : Nat} (R : Rel x ec es ew e0 h r) (hi : i < 8) (ho : r.2.1 1 i = 1) (hc : r.1 75 = nn i) (hf : f < 256) (hn : num < 65536) (hv : v < 256) :
    Sim (C_X11_answer x (some (cA x i)) (nn f) (nn num) (nn v)) h (R_answer (nn f) (nn num) (nn v)) r (fun _ h' _ r' => Rel x ec es ew e0 h' r' ∧ Oo x h h' ∧ Ro oS r r') := by
  have T := R.st
  obtain ⟨f0, b0, W0⟩ := R.wr
  obtain ⟨k1, k2, k3, k4⟩ := wref T (Wo.rf (h := h))
  unfold C_X11_answer R_answer
  rw [sl_gR k1, k2, sl_Cv k3]
  refine Sim.seqL (qc_wbegin W0) (fun _ h1 z1 => ?_)
  obtain ⟨k1, k2, k3, k4⟩ := wref T z1.2
  rw [sl_gR k1, k2, sl_Cv k3]
  refine Sim.seqL (qc_two z1.1 hn (by simp)) (fun _ h2 z2 => ?_)
  have W2 := z1.2.tr z2.2
  obtain ⟨k1, k2, k3, k4⟩ := wref T W2
  rw [sr_wI]
  have w0 : Ro [88, 89] r (sI r 89 (0 : Int32)) := Ro.rf.i (by decide)
  refine Sim.seqR (qm_put (bs := []) PK.zero (by simp)) (fun _ r1 y1 => ?_)
  have ef : lo8 (nn f) = f := by rw [lo8_nn (by omega)]; omega
  have en1 : lo8 (nn (num / 256)) = num / 256 := by rw [lo8_nn (by omega)]; omega
  have en2 : lo8 (nn num) = num % 256 := by rw [lo8_nn (by omega)]
  have ev : lo8 (nn v) = v := by rw [lo8_nn (by omega)]; omega
  have e2 : lo8 (2 : Int32) = 2 := by decide
  have e3 : lo8 (3 : Int32) = 3 := by decide
  by_cases h0 : v = 0
  · have hz : nn v = 0 := by rw [h0]; rfl
    rw [sl_pos hz, sr_pos hz]
    unfold C_X11_answer_J30 R_answer_J20
    rw [sl_gR k1, k2, sl_Cv (k4 i hi)]
    refine Sim.seqR (qm_put y1.1 (by simp)) (fun _ r2 y2 => ?_)
    rw [shr8 (by omega)]
    refine Sim.seqR (qm_put y2.1 (by simp)) (fun _ r3 y3 => ?_)
    refine Sim.seqR (qm_put y3.1 (by simp)) (fun _ r4 y4 => ?_)
    have w4 := (((w0.tr y1.2).tr y2.2).tr y3.2).tr y4.2
    have P4 := y4.1
    rw [ef, e2, en1, en2] at P4
    rw [sr_pos hz]
    unfold R_answer_J45
    have ec : r4.1 75 = nn i := (w4.gI (by decide)).trans hc
    rw [sr_rI, ec]
    exact Sim.seq (sim_mk R hi ho W2 (f := f) (bs := [num / 256, num % 256]) z2.1 (w4.sub (by decide)) P4 hf) (fun _ h' _ r' q => Sim.ret q)
  · have hz : ¬ nn v = 0 := fun e => h0 (nn_inj (by omega) (by omega) e)
    rw [sl_neg hz, sr_neg hz, sl_gR k1, k2, sl_Cv k3]
    refine Sim.seqL (qc_one z2.1 (by simp)) (fun _ h3 z3 => ?_)
    have W3 := W2.tr z3.2
    obtain ⟨k1, k2, k3, k4⟩ := wref T W3
    have H3 := z3.1
    rw [ev] at H3
    unfold C_X11_answer_J30 R_answer_J20
    rw [sl_gR k1, k2, sl_Cv (k4 i hi)]
    refine Sim.seqR (qm_put y1.1 (by simp)) (fun _ r2 y2 => ?_)
    rw [shr8 (by omega)]
    refine Sim.seqR (qm_put y2.1 (by simp)) (fun _ r3 y3 => ?_)
    refine Sim.seqR (qm_put y3.1 (by simp)) (fun _ r4 y4 => ?_)
    rw [sr_neg hz]
    refine Sim.seqR (qm_put y4.1 (by simp)) (fun _ r5 y5 => ?_)
    have w5 := ((((w0.tr y1.2).tr y2.2).tr y3.2).tr y4.2).tr y5.2
    have P5 := y5.1
    rw [ef, e3, en1, en2, ev] at P5
    unfold R_answer_J45
    have ec : r5.1 75 = nn i := (w5.gI (by decide)).trans hc
    rw [sr_rI, ec]
    exact Sim.seq (sim_mk R hi ho W3 (f := f) (bs := [num / 256, num % 256, v]) H3 (w5.sub (by decide)) P5 hf) (fun _ h' _ r' q => Sim.ret q)
end SHP
