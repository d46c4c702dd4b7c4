/-! ===== all that is on the way is sent again ===== -/
section AGN
variable {x ec es ew s b d n k i n0 l2 l4 : Nat} {e0 : Int32} {h : Hp} {r r' : RS} {A A' : Nat → Nat → Int32}
/-- a release, by both -/
theorem sim_rel {num : Nat} (R : Rel x ec es ew e0 h r) (hi : i < 8) (ho : r.2.1 1 i = 1) (hv : num < 65536) :
    Sim (C_X11_answer x (some (cA x i)) 98 (nn num) 0) h (R_short4 (nn i) 98 2 (nn num >>> ((8 : Int32) &&& 31)) (nn num) 4) r (fun _ h' _ r' => Rel x ec es ew e0 h' r' ∧ Oo x h h' ∧ Ro oS r r') := by
  have T := R.st
  obtain ⟨f0, b0, W0⟩ := R.wr
  obtain ⟨k1, k2, k3, k4⟩ := wref T (Wo.rf (h := h))
  unfold C_X11_answer R_short4
  rw [sl_gR k1, k2, sl_Cv k3]
  refine Sim.seqL (qc_wbegin W0) (fun _ h1 z1 => ?_)
  obtain ⟨k1, k2, k3, k4⟩ := wref T z1.2
  rw [sl_gR k1, k2, sl_Cv k3]
  refine Sim.seqL (qc_two z1.1 hv (by simp)) (fun _ h2 z2 => ?_)
  have W2 := z1.2.tr z2.2
  obtain ⟨k1, k2, k3, k4⟩ := wref T W2
  rw [sl_pos rfl]
  unfold C_X11_answer_J30
  rw [sl_gR k1, k2, sl_Cv (k4 i hi), sr_wI, shr8 (by omega)]
  have w0 : Ro [88, 89] r (sI r 89 (0 : Int32)) := Ro.rf.i (by decide)
  refine Sim.seqR (qm_put (bs := []) PK.zero (by simp)) (fun _ r1 y1 => ?_)
  refine Sim.seqR (qm_put y1.1 (by simp)) (fun _ r2 y2 => ?_)
  refine Sim.seqR (qm_put y2.1 (by simp)) (fun _ r3 y3 => ?_)
  refine Sim.seqR (qm_put y3.1 (by simp)) (fun _ r4 y4 => ?_)
  have w4 := (((w0.tr y1.2).tr y2.2).tr y3.2).tr y4.2
  have P4 := y4.1
  have H3 := z2.1
  have e1 : lo8 (98 : Int32) = 98 := by decide
  have e2 : lo8 (2 : Int32) = 2 := by decide
  have e3 : lo8 (nn (num / 256)) = num / 256 := by rw [lo8_nn (by omega)]; omega
  have e4 : lo8 (nn num) = num % 256 := lo8_nn (by omega)
  rw [e1, e2, e3, e4] at P4
  rw [sr_wI]
  have w5 : Ro [88, 89] r (sI r4 89 (4 : Int32)) := w4.i (by decide)
  have P5 : PK (sI r4 89 (4 : Int32)) [98, 2, num / 256, num % 256] := ⟨by rw [sI_1, if_pos rfl]; rfl, by rw [sI_2]; exact P4.2.1, P4.2.2⟩
  refine Sim.seq (sim_mk R hi ho W2 (f := 98) (bs := [num / 256, num % 256]) H3 (w5.sub (by decide)) P5 (by omega)) (fun _ h' _ r' q => Sim.ret q)
/-- places of the way that nobody counts make no difference -/
theorem Rel.wyq (R : Rel x ec es ew e0 h r) (hs : s < 12) (hb : har h (x + 34) s = some b) (hn : r.2.1 31 s = nn n) (hn2 : n ≤ 16) (w : Ro [32, 33, 34, 35, 36, 37] r r') (wx : Ho s 8 r r') (ag : ∀ q, q < n → ∀ f ∈ [32, 33, 34, 35, 36, 37], r'.2.1 f (16 * s + q) = r.2.1 f (16 * s + q)) : Rel x ec es ew e0 h r' := by
  have T := R.st
  obtain ⟨c11, Sb, Z0⟩ := (R.2.2.2.2.1 s hs).at hb
  have hbl := Sb.1.2.2.1
  have p : Fm x [] (fun _ => False) h h := Fm.rf
  have eac : ∀ k, act r' s k ↔ act r s k := fun k => by
    unfold act
    rw [w.gA (by decide), w.gA (by decide)]
  refine R.same (i := 8) (b := b) Hx.rf wx hs hb rfl (R.2.1.fm T p w (by decide) (by decide)) (by rw [w.gI (by decide)]; exact R.2.2.1) (w.gI (by decide)) (fun _ _ _ z => z) (fun _ _ _ z => z) (fun z => by omega) (by rw [w.gA (by decide)]) (by rw [w.gA (by decide)]) (fun i' h1 h2 h3 => by rw [w.gA (by decide)]) (fun d hd => Or.inr ⟨rfl, fun f hf => rfl⟩) (fun u hu => Or.inr (fun f hf => rfl)) (fun z => by omega) ⟨Sb.1, Sb.2.1.fm (by omega) p.1 w (by decide), Sb.2.2.1.fm (by omega) p w (by decide) (by decide), Sb.2.2.2.1.fm (by omega) p w (by decide) (by decide), Sb.2.2.2.2.1.fm hbl p w (by decide) (fun z => z) (by decide), ?_, Sb.2.2.2.2.2.2.1.fm hbl p w (by decide) (fun z => z) (by decide), Sb.2.2.2.2.2.2.2.1.fm hbl p w (by decide) (fun z => z) (by decide), Sb.2.2.2.2.2.2.2.2.fm w (by decide)⟩ (fun z => (Z0 z).fm (by omega) p w (by decide) (by decide)) (fun k d g1 g2 g3 => ⟨⟨k, g1, (eac k).mp g2, g3⟩, rfl⟩) (fun k k' d g1 g2 g3 g4 g5 g6 => (R.2.2.2.2.2.1 s s b b k k' d hs hs hb hb g1 g2 ((eac k).mp g3) ((eac k').mp g4) g5 g6).2) (fun k u g1 g2 => Or.inr ⟨k, by rw [w.gA (by decide)] at g1; exact g1, g2⟩) (fun k k' u g1 g2 g3 g4 => ?_) rfl (by rw [w.gA (by decide)]) (fun k hk => Or.inl ⟨k, ?_, ?_⟩) (fun k hk => Or.inr ⟨k, ?_, by rw [w.gA (by decide)]⟩)
  · obtain ⟨n', a1, a2, a3, a4, a5⟩ := Sb.2.2.2.2.2.1
    have en : n' = n := nn_inj (by omega) (by omega) (a3.symm.trans hn)
    subst en
    refine ⟨n', a1, a2, by rw [w.gA (by decide)]; exact a3, fun k hk => ?_, fun k k' h1 h2 h3 => ?_⟩
    · obtain ⟨d, d1, m, j, q, fl, id, num, y1, y2, y3, y4, y5⟩ := a4 k hk
      refine ⟨d, d1, m, j, q, fl, id, num, y1, y2, by rw [ag k hk 33 (by decide)]; exact y3, y4.to p w (by decide) (by decide), ?_⟩
      rw [ag k hk 34 (by decide), ag k hk 35 (by decide), ag k hk 36 (by decide), ag k hk 32 (by decide), ag k hk 37 (by decide)]
      exact y5
    · rw [ag k h1 32 (by decide), ag k' h2 32 (by decide)] at h3
      exact a5 k k' h1 h2 h3
  · rw [w.gA (by decide)] at g1 g2
    exact (R.2.2.2.2.2.2.1 s s b b k k' u hs hs hb hb g1 g2 g3 g4).2
  · rw [w.gA (by decide)] at hk; exact hk
  · rw [w.gA (by decide), hn, iN_nn (by omega)] at hk
    exact ag k hk 33 (by decide)
  · rw [w.gA (by decide)] at hk; exact hk
/-- the class's row and the model's rows in the middle of it -/
def AgI (s n0 l2 l4 : Nat) (A : Nat → Nat → Int32) (r : RS) : Prop := A 31 s = nn (l2 + (n0 - l4)) ∧ r.2.1 31 s = nn n0 ∧ (∀ s', s' ≠ s → A 31 s' = r.2.1 31 s') ∧ ∀ f ∈ [32, 33, 34, 35, 36, 37], (∀ q, q < l2 → A f (16 * s + q) = r.2.1 f (16 * s + q)) ∧ (∀ q, q < n0 - l4 → A f (16 * s + (l2 + q)) = r.2.1 f (16 * s + (l4 + q))) ∧ ∀ p, p / 16 ≠ s → A f p = r.2.1 f p
theorem fw_b {f : Nat} (hf : f ∈ [32, 33, 34, 35, 36, 37]) : 31 ≤ f ∧ f ≤ 37 := by
  simp only [List.mem_cons, List.not_mem_nil, or_false] at hf
  omega
/-- a place is moved by the model -/
def mvW (r : RS) (p p' : Nat) : RS := sA (sA (sA (sA (sA (sA r 32 p' (r.2.1 32 p)) 33 p' (r.2.1 33 p)) 34 p' (r.2.1 34 p)) 35 p' (r.2.1 35 p)) 36 p' (r.2.1 36 p)) 37 p' (r.2.1 37 p)
theorem mvW.ev {p p' : Nat} (hp : p < 192) (hp' : p' < 192) (h37 : r.2.1 37 p = 0 ∨ r.2.1 37 p = 1) : R_moveWay (nn p) (nn p') r = some ((), mvW r p p') := by
  unfold R_moveWay
  rw [x_rA mL_32 (by omega) (by omega), x_wA mL_32 (by omega) (by omega), x_rA mL_33 (by omega) (by omega), x_wA mL_33 (by omega) (by omega), x_rA mL_34 (by omega) (by omega), x_wA mL_34 (by omega) (by omega), x_rA mL_35 (by omega) (by omega), x_wA mL_35 (by omega) (by omega), x_rA mL_36 (by omega) (by omega), x_wA mL_36 (by omega) (by omega), x_rA mL_37 (by omega) (by omega), x_wA mL_37 (by omega) (by omega)]
  rw [sA_o (by decide), sA_o (by decide), sA_o (by decide), sA_o (by decide), sA_o (by decide), sA_o (by decide), sA_o (by decide), sA_o (by decide), sA_o (by decide), sA_o (by decide), sA_o (by decide), sA_o (by decide), sA_o (by decide), sA_o (by decide), sA_o (by decide)]
  have : vp_nar .boolean (r.2.1 37 p) = r.2.1 37 p := by
    rcases h37 with z | z <;> rw [z] <;> rfl
  rw [this]
  rfl
theorem mvW.rd {p p' f q : Nat} (hf : f ∈ [32, 33, 34, 35, 36, 37]) : (mvW r p p').2.1 f q = if q = p' then r.2.1 f p else r.2.1 f q := by
  unfold mvW
  simp only [List.mem_cons, List.not_mem_nil, or_false] at hf
  by_cases z : q = p'
  · rw [if_pos z]
    rcases hf with rfl | rfl | rfl | rfl | rfl | rfl <;> simp [sA_2, z]
  · rw [if_neg z]
    rcases hf with rfl | rfl | rfl | rfl | rfl | rfl <;> simp [sA_2, z]
theorem mvW.ro {p p' : Nat} : Ro [32, 33, 34, 35, 36, 37] r (mvW r p p') := (((((Ro.rf.a (by decide)).a (by decide)).a (by decide)).a (by decide)).a (by decide)).a (by decide)
theorem tw_eq {r r' : RS} (h1 : r'.1 = r.1) (h2 : ∀ k, ¬ (31 ≤ k ∧ k ≤ 37) → r'.2.1 k = r.2.1 k) (h3 : r'.2.2 = r.2.2) : tw A r' = tw A r := by
  refine Prod.ext h1 (Prod.ext ?_ h3)
  funext k
  show (if 31 ≤ k ∧ k ≤ 37 then A k else r'.2.1 k) = if 31 ≤ k ∧ k ≤ 37 then A k else r.2.1 k
  by_cases z : 31 ≤ k ∧ k ≤ 37
  · rw [if_pos z, if_pos z]
  · rw [if_neg z, if_neg z]
    exact h2 k z
theorem AgI.mv (I : AgI s n0 l2 l4 A r) (hl : l2 ≤ l4) (h4 : l4 < n0) (hn : n0 ≤ 16) : AgI s n0 (l2 + 1) (l4 + 1) A (mvW r (16 * s + l4) (16 * s + l2)) := by
  obtain ⟨a1, a2, a3, a4⟩ := I
  refine ⟨by rw [a1]; congr 1; omega, by rw [mvW.ro.gA (by decide)]; exact a2, fun s' g => by rw [mvW.ro.gA (by decide)]; exact a3 s' g, fun f hf => ?_⟩
  obtain ⟨b1, b2, b3⟩ := a4 f hf
  refine ⟨fun q hq => ?_, fun q hq => ?_, fun p hp => ?_⟩
  · rw [mvW.rd hf]
    by_cases z : q = l2
    · rw [if_pos (by omega), z]
      have := b2 0 (by omega)
      rw [Nat.add_zero, Nat.add_zero] at this
      exact this
    · rw [if_neg (by omega)]
      exact b1 q (by omega)
  · rw [mvW.rd hf, if_neg (by omega)]
    have := b2 (q + 1) (by omega)
    rw [show l2 + 1 + q = l2 + (q + 1) by omega, show l4 + 1 + q = l4 + (q + 1) by omega]
    exact this
  · rw [mvW.rd hf, if_neg (by omega)]
    exact b3 p hp
/-- a place is taken away in the class's row -/
def rmA (A : Nat → Nat → Int32) (s n k : Nat) : Nat → Nat → Int32 := fun f p => if f = 31 then (if p = s then nn (n - 1) else A 31 p) else if p / 16 = s ∧ k ≤ p % 16 ∧ p % 16 < n - 1 then A f (p + 1) else A f p
theorem rmA.le (hs : s < 12) (hn2 : n ≤ 16) : LeM s n k (tw A r) (tw (rmA A s n k) r) := by
  have w : Ro [31, 32, 33, 34, 35, 36, 37] (tw A r) (tw (rmA A s n k) r) := fun f hf => by
    have hf' : ¬ (31 ≤ f ∧ f ≤ 37) := fun z => hf (by simp only [List.mem_cons, List.not_mem_nil, or_false]; omega)
    exact ⟨rfl, by rw [tw_o hf', tw_o hf'], rfl⟩
  refine ⟨⟨⟨rfl, rfl⟩, fun f p hp => ⟨?_, rfl⟩⟩, w, ?_, fun q hq f hf => ?_⟩
  · by_cases z : 31 ≤ f ∧ f ≤ 37
    · rw [tw_i z, tw_i z]
      unfold rmA
      by_cases z1 : f = 31
      · subst z1
        rw [if_pos rfl]
        by_cases z2 : p = s
        · exact absurd (Or.inr (Or.inl ⟨by omega, by omega, z2⟩)) hp
        · rw [if_neg z2]
      · rw [if_neg z1]
        by_cases z2 : p / 16 = s ∧ k ≤ p % 16 ∧ p % 16 < n - 1
        · refine absurd (Or.inr (Or.inl ⟨by omega, by omega, ?_⟩)) hp
          unfold ow
          rw [if_neg (by omega), if_neg (by omega), if_neg (by omega), if_pos (by omega)]
          exact z2.1
        · rw [if_neg z2]
    · rw [tw_o z, tw_o z]
  · rw [tw_i ⟨by omega, by omega⟩]
    unfold rmA
    rw [if_pos rfl, if_pos rfl]
  · have fb := fw_b hf
    have f31 : f ≠ 31 := fun z => by rw [z] at hf; exact absurd hf (by decide)
    rw [tw_i fb, tw_i fb]
    unfold rmA
    rw [if_neg f31]
    by_cases z : q < k
    · rw [if_neg (by omega), if_pos z]
    · rw [if_pos (by omega), if_neg z, Nat.add_assoc]
theorem AgI.rm (I : AgI s n0 l2 l4 A r) (hl : l2 ≤ l4) (h4 : l4 < n0) (hn : n0 ≤ 16) : AgI s n0 l2 (l4 + 1) (rmA A s (l2 + (n0 - l4)) l2) r := by
  obtain ⟨a1, a2, a3, a4⟩ := I
  refine ⟨?_, a2, fun s' g => ?_, fun f hf => ?_⟩
  · unfold rmA
    rw [if_pos rfl, if_pos rfl]
    congr 1
    omega
  · unfold rmA
    rw [if_pos rfl, if_neg g]
    exact a3 s' g
  · obtain ⟨b1, b2, b3⟩ := a4 f hf
    have f31 : f ≠ 31 := fun z => by rw [z] at hf; exact absurd hf (by decide)
    refine ⟨fun q hq => ?_, fun q hq => ?_, fun p hp => ?_⟩
    · unfold rmA
      rw [if_neg f31, if_neg (by omega)]
      exact b1 q hq
    · unfold rmA
      rw [if_neg f31, if_pos (by omega)]
      have := b2 (q + 1) (by omega)
      rw [show 16 * s + (l2 + q) + 1 = 16 * s + (l2 + (q + 1)) by omega, show l4 + 1 + q = l4 + (q + 1) by omega]
      exact this
    · unfold rmA
      rw [if_neg f31, if_neg (by omega)]
      exact b3 p hp
end AGN
