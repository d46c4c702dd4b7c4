/-! ===== rows out of a packet ===== -/
/-- a new row of n bytes -/
def nRow (h : Hp) (n : Nat) (G : Nat → Int32) : Hp := sfr (sai (hay (hob h 9 1) 0 n) (hnx h + 1) G) 900 (hnx h) (some (hnx h + 1))
section ROW
variable {x i p L f n c e a q : Nat} {h h' : Hp} {r r' : RS} {bs ys : List Nat} {G : Nat → Int32}
theorem nRow.fm (hx : x + 130 ≤ hnx h) : Fm x [] (fun _ => False) h (nRow h n G) := by
  unfold nRow
  refine ((Fm.rf.ob.ay (by omega)).ai (Or.inr (by omega)) (fun z => by have := z.2.1; omega)).fr (Or.inr (Nat.le_refl _)) (Or.inr (Nat.le_refl _))
theorem nRow.rw (hx : x + 130 ≤ hnx h) (B : By ys) (hn : n = ys.length) (hG : Cg G 0 ys) : Rw x (nRow h n G) (hnx h) ys := by
  unfold nRow
  refine ⟨?_, ?_, B, hnx h + 1, ?_, ?_, ?_, ?_, ?_, Or.inr ⟨by omega, ?_, ?_, ?_⟩⟩
  · rw [hkd_sfr, hkd_sai, hkd_hay, if_neg (by rw [hnx_hob]; omega), hkd_hob, if_pos rfl]
  · rw [hnx_sfr, hnx_sai, hnx_hay, hnx_hob]; omega
  · rw [hfr_sfr, if_pos ⟨rfl, rfl⟩]
  · rw [hnx_sfr, hnx_sai, hnx_hay, hnx_hob]; omega
  · rw [hkd_sfr, hkd_sai, hkd_hay, if_pos (by rw [hnx_hob])]
  · rw [hln_sfr, hln_sai, hln_hay, if_pos (by rw [hnx_hob]), hn]
  · rw [hai_sfr, hai_sai, if_pos rfl]; exact hG
  · rw [hnx_sfr, hnx_sai, hnx_hay, hnx_hob]; omega
  · rw [hkd_sfr, hkd_sai, hkd_hay, if_pos (by rw [hnx_hob])]
  · rw [hkd_sfr, hkd_sai, hkd_hay, if_neg (by rw [hnx_hob]; omega), hkd_hob, if_pos (by omega)]
    omega
theorem nRow.cs : hnx (nRow h n G) = hnx h + 2 ∧ (hcs (nRow h n G)).1 = (hcs h).1 + 2 ∧ (hcs (nRow h n G)).2 = (hcs h).2 + (n + 1) := by
  refine ⟨rfl, rfl, ?_⟩
  show (hcs h).2 + 1 + n = _
  omega
/-- bytes q .. q + n - 1 -/
def sl (bs : List Nat) (q n : Nat) : List Nat := (bs.drop q).take n
theorem sl_len (hq : q + n ≤ bs.length) : (sl bs q n).length = n := by
  unfold sl
  rw [List.length_take, List.length_drop]
  omega
theorem sl_at {k : Nat} (hk : k < n) (hq : q + n ≤ bs.length) : (sl bs q n).getD k 0 = bs.getD (q + k) 0 := by
  unfold sl
  rw [List.getD_eq_getElem?_getD, List.getElem?_take_of_lt hk, List.getElem?_drop, ← List.getD_eq_getElem?_getD]
theorem sl_by (B : By bs) : By (sl bs q n) := fun b hb => B b (List.mem_of_mem_drop (List.mem_of_mem_take hb))
theorem Mg.slc {f : Nat → Int32} {o : Nat} (hM : Mg f o bs) (hq : q + n ≤ bs.length) : Mg f (o + q) (sl bs q n) := fun k hk => by
  rw [sl_len hq] at hk
  rw [sl_at hk hq, show o + q + k = o + (q + k) by omega]
  exact hM (q + k) (by omega)
/-- the class copies bytes into a new array -/
theorem qc_copy (hk : hkd h a = 101) (ha : a < hnx h) (hq : 1 ≤ q) (hl : q + n ≤ hln h a) (hl2 : hln h a ≤ 100000) : ∃ G, C_J7_copyOfRange_feecc (some a) (nn q) (nn (q + n)) h = some (some (hnx h), sai (hay h 0 n) (hnx h) G) ∧ ∀ k, k < n → G k = hai h a (q + k) := by
  have hh : wp (C_J7_copyOfRange_feecc (some a) (nn q) (nn (q + n))) h (fun v h' => v = some (hnx h) ∧ h' = sai (hay h 0 n) (hnx h) (va_cpy (hai (hay h 0 n) a) (hai (hay h 0 n) (hnx h)) q 0 n)) := by
    unfold C_J7_copyOfRange_feecc C_J7_copyOfRange_feecc_J10 C_J7_copyOfRangeInt_feecc C_J7_checkLength_df160
    rw [wp_neg (nn_ne0 (by omega) (by omega)), wp_bd, wp_bd, wp_pos (by rw [nn_le (by omega) (by omega)]; omega), wp_rt, wp_lq, nn_sub (by omega), show q + n - q = n by omega, wn_Na (by omega), wn_Ln (t := 0) (by rw [hkd_hay, if_neg (by omega)]; exact hk), hln_hay, if_neg (by omega), nn_sub (by omega), imin_nn (by omega) (by omega), show min (hln h a - q) n = n by omega, show (0 : Int32) = nn 0 from rfl, wn_Cp (by rw [hkd_hay, if_neg (by omega)]; exact hk) (by rw [hkd_hay, if_pos rfl]) (by rw [hln_hay, if_neg (by omega)]; exact hl) (by rw [hln_hay, if_pos rfl]; omega) (by omega) (by omega), wp_rt, wp_rt]
    exact ⟨rfl, rfl⟩
  obtain ⟨_, h', e1, e2, e3⟩ := hh
  refine ⟨_, by rw [e1, e2, e3], fun k hk' => ?_⟩
  have e4 : hai (hay h 0 n) a = hai h a := by rw [hai_hay, if_neg (by omega)]
  rw [e4]
  unfold va_cpy
  rw [if_pos (by omega)]
  rfl
end ROW
