/-! ===== the model's packets ===== -/
def PK (r : RS) (bs : List Nat) : Prop := r.1 89 = nn bs.length ∧ Mg (r.2.1 88) 0 bs ∧ By bs
def OutM (r : RS) (k : Nat) (os : List Nat) : Prop := r.2.1 3 k = nn os.length ∧ os.length ≤ 2000 ∧ Mg (r.2.1 4) (2000 * k) os ∧ By os
theorem Mg.snoc {f : Nat → Int32} {o b : Nat} {bs : List Nat} (h : Mg f o bs) {g : Nat → Int32} (hb : g (o + bs.length) = sb b) (e : ∀ i, i < bs.length → g (o + i) = f (o + i)) : Mg g o (bs ++ [b]) := (h.of e).app (Mg.one hb)
theorem qm_put {r : RS} {bs : List Nat} {v : Int32} (h : PK r bs) (hl : bs.length < 1200) : wp (R_put v) r (fun _ r' => PK r' (bs ++ [lo8 v]) ∧ Ro [88, 89] r r') := by
  unfold R_put
  rw [wp_rI, wp_wI, h.1, ww_88 hl, wp_rt, nar8]
  refine ⟨⟨?_, ?_, h.2.2.app (By.one (lo8_lt v))⟩, (Ro.rf.i (by decide)).a (by decide)⟩
  · rw [sA_1, sI_1, if_pos rfl, List.length_append]
    exact nn_add
  · refine h.2.1.snoc ?_ (fun i hi => ?_)
    · rw [sA_2, if_pos ⟨rfl, by omega⟩]
    · rw [sA_2, if_neg (by omega), sI_2]
theorem qm_send_loop {r : RS} {k : Nat} {os bs : List Nat} (hk : k < 8) (hp : PK r bs) (ho : OutM r k os) (hf : os.length + bs.length ≤ 2000) {ke : Int32 → RS → Option (Unit × RS)} {Q : Unit → RS → Prop} (hb : bs.length ≤ 1200)
    (he : ∀ r', Ro [4] r r' → Mg (r'.2.1 4) (2000 * k) (os ++ bs) → (∀ p, (p < 2000 * k + os.length ∨ 2000 * k + os.length + bs.length ≤ p) → r'.2.1 4 p = r.2.1 4 p) → wp (ke (nn k)) r' Q) : wp (R_send_L46 ke fu (nn k) (0 : Int32)) r Q := by
  refine up_loop (L := fun n l => R_send_L46 ke n (nn k) l) (fun i r' => Ro [4] r r' ∧ (∀ p, r'.2.1 4 p = if 2000 * k + os.length ≤ p ∧ p < 2000 * k + os.length + i then r.2.1 88 (p - (2000 * k + os.length)) else r.2.1 4 p)) bs.length ?_ ?_ bs.length 0 fu r (by omega) (by unfold fu; omega) ⟨Ro.rf, fun p => by rw [if_neg (by omega)]⟩
  · intro n i r' hi ⟨h1, h2⟩ kk
    show wp (R_send_B46 _ ke (nn k) (nn i)) r' Q
    unfold R_send_B46
    have e89 : r'.1 89 = nn bs.length := (h1 89 (by decide)).1.trans hp.1
    have e3 : r'.2.1 3 k = nn os.length := by rw [(h1 3 (by decide)).2.1]; exact ho.1
    have e88 : r'.2.1 88 i = sb (bs.getD i 0) := by
      rw [(h1 88 (by decide)).2.1]
      have := hp.2.1 i hi
      rwa [Nat.zero_add] at this
    rw [wp_rI, e89, wp_neg (by rw [nn_le (by omega) (by omega)]; omega), wr_3 hk, e3, wr_88 (by omega), e88, l_2000, nn_mul, nn_add, nn_add, ww_4 (by omega), nar_sb (hp.2.2.at i)]
    show wp (R_send_L46 ke n (nn k) (nn i + 1)) _ Q
    rw [l_1, nn_add]
    refine kk _ ⟨h1.a (by decide), fun p => ?_⟩
    rw [sA_2, h2 p]
    by_cases hp1 : p = 2000 * k + os.length + i
    · rw [if_pos ⟨rfl, hp1⟩, if_pos (by omega)]
      have e : p - (2000 * k + os.length) = 0 + i := by omega
      rw [e]
      exact (hp.2.1 i hi).symm
    · rw [if_neg (fun z => hp1 z.2)]
      by_cases hp2 : 2000 * k + os.length ≤ p ∧ p < 2000 * k + os.length + i
      · rw [if_pos hp2, if_pos (by omega)]
      · rw [if_neg hp2, if_neg (by omega)]
  · intro n r' ⟨h1, h2⟩
    show wp (R_send_B46 _ ke (nn k) (nn bs.length)) r' Q
    unfold R_send_B46
    have e89 : r'.1 89 = nn bs.length := (h1 89 (by decide)).1.trans hp.1
    rw [wp_rI, e89, wp_pos (by rw [nn_le (by omega) (by omega)]; omega)]
    refine he r' h1 ((ho.2.2.1.of (fun i hi => ?_)).app (fun i hi => ?_)) (fun p hp => ?_)
    · rw [h2, if_neg (by omega)]
    · have e : 2000 * k + os.length + i - (2000 * k + os.length) = 0 + i := by omega
      rw [h2, if_pos (by omega), e]
      exact hp.2.1 i hi
    · rw [h2, if_neg (by omega)]
theorem qm_send {r : RS} {k : Nat} {os bs : List Nat} (hk : k < 8) (hp : PK r bs) (ho : OutM r k os) (hb : bs.length ≤ 1200) : wp (R_send (nn k)) r (fun _ r' => Ro [2, 3, 4, 68] r r' ∧
    (if r.2.1 1 k = 0 ∨ r.2.1 2 k ≠ 0 then r' = r else if 2000 < os.length + bs.length then r' = sA r 2 k 1 else OutM r' k (os ++ bs) ∧ r'.2.1 2 = r.2.1 2 ∧ (∀ i, i ≠ k → r'.2.1 3 i = r.2.1 3 i) ∧ (∀ p, p < 2000 * k ∨ 2000 * k + 2000 ≤ p → r'.2.1 4 p = r.2.1 4 p) ∧ r'.1 68 = r.1 68 + 1)) := by
  have := ho.2.1
  unfold R_send
  rw [wr_1 hk]
  by_cases h1 : r.2.1 1 k = 0
  · rw [wp_pos h1, wp_rt]
    exact ⟨Ro.rf, by rw [if_pos (Or.inl h1)]⟩
  · rw [wp_neg h1, wr_2 hk]
    by_cases h2 : r.2.1 2 k = 0
    · rw [wp_pos h2, wr_3 hk, wp_rI, ho.1, hp.1, nn_add, l_2000]
      by_cases h3 : os.length + bs.length ≤ 2000
      · rw [wp_pos (by rw [nn_le (by omega) (by omega)]; exact h3)]
        refine qm_send_loop hk hp ho h3 hb (fun r' g1 g2 g3 => ?_)
        show wp (R_send_J85 (nn k)) r' _
        unfold R_send_J85
        rw [wr_3 hk, wp_rI, ww_3 hk, wp_rI, wp_wI, wp_rt]
        refine ⟨(((g1.sub (by decide)).a (by decide)).i (by decide)), ?_⟩
        have e3 : r'.2.1 3 = r.2.1 3 := (g1 3 (by decide)).2.1
        have e89 : r'.1 89 = r.1 89 := (g1 89 (by decide)).1
        rw [if_neg (fun z => z.elim h1 (fun z => z h2)), if_neg (by omega)]
        refine ⟨⟨?_, ?_, ?_, ho.2.2.2.app hp.2.2⟩, ?_, fun i hi => ?_, fun p hp' => ?_, ?_⟩
        · rw [sI_2, sA_2, if_pos ⟨rfl, rfl⟩, e3, e89, ho.1, hp.1, nn_add, List.length_append]
        · rw [List.length_append]; exact h3
        · rw [sI_2, sA_o (by decide)]; exact g2
        · rw [sI_2, sA_o (by decide)]; exact (g1 2 (by decide)).2.1
        · rw [sI_2, sA_2, if_neg (fun z => hi z.2), e3]
        · rw [sI_2, sA_o (by decide)]
          exact g3 p (by omega)
        · rw [sI_1, if_pos rfl, sA_1]
          have e68 : r'.1 68 = r.1 68 := (g1 68 (by decide)).1
          rw [e68]
      · rw [wp_neg (by rw [nn_le (by omega) (by omega)]; exact h3), ww_2 hk, wp_rt, nar_z1]
        refine ⟨Ro.rf.a (by decide), ?_⟩
        rw [if_neg (fun z => z.elim h1 (fun z => z h2)), if_pos (by omega)]
    · rw [wp_neg h2, wp_rt]
      exact ⟨Ro.rf, by rw [if_pos (Or.inr h2)]⟩
