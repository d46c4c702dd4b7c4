/-! ===== the class's packets ===== -/
def WR (w : Nat) (h : Hp) (f : Int32) (bs : List Nat) : Prop := (hkd h w = 13 ∧ hfr h 1201 w = some (w + 1) ∧ hkd h (w + 1) = 101 ∧ hln h (w + 1) = 600) ∧ hfi h 1200 w = f ∧ hfi h 1202 w = nn bs.length ∧ Cg (hai h (w + 1)) 0 bs ∧ By bs ∧ bs.length ≤ 600
/-- nothing but the writer changed -/
def Wo (w : Nat) (h h' : Hp) : Prop := hnx h' = hnx h ∧ hkd h' = hkd h ∧ hln h' = hln h ∧ hfl h' = hfl h ∧ hfr h' = hfr h ∧ hal h' = hal h ∧ har h' = har h ∧ hcs h' = hcs h ∧ (∀ f a, (a = w → f ≠ 1200 ∧ f ≠ 1202) → hfi h' f a = hfi h f a) ∧ ∀ a, a ≠ w + 1 → hai h' a = hai h a
theorem Wo.rf {w : Nat} {h : Hp} : Wo w h h := ⟨rfl, rfl, rfl, rfl, rfl, rfl, rfl, rfl, fun _ _ _ => rfl, fun _ _ => rfl⟩
theorem Wo.tr {w : Nat} {h h1 h2 : Hp} (x : Wo w h h1) (y : Wo w h1 h2) : Wo w h h2 := by
  obtain ⟨x1, x2, x3, x4, x5, x6, x7, x8, x9, x10⟩ := x
  obtain ⟨y1, y2, y3, y4, y5, y6, y7, y8, y9, y10⟩ := y
  exact ⟨y1.trans x1, y2.trans x2, y3.trans x3, y4.trans x4, y5.trans x5, y6.trans x6, y7.trans x7, y8.trans x8, fun f a ha => (y9 f a ha).trans (x9 f a ha), fun a ha => (y10 a ha).trans (x10 a ha)⟩
theorem Wo.fi {w f : Nat} {h : Hp} {v : Int32} (hf : f = 1200 ∨ f = 1202) : Wo w h (sfi h f w v) := ⟨rfl, rfl, rfl, rfl, rfl, rfl, rfl, rfl, fun g a ha => by rw [hfi_sfi, if_neg (fun z => by have := ha z.2; omega)], fun _ _ => rfl⟩
theorem Wo.ai {w : Nat} {h : Hp} {v : Nat → Int32} : Wo w h (sai h (w + 1) v) := ⟨rfl, rfl, rfl, rfl, rfl, rfl, rfl, rfl, fun _ _ _ => rfl, fun a ha => by rw [hai_sai, if_neg ha]⟩
theorem Cg.snoc {f : Nat → Int32} {o b : Nat} {bs : List Nat} (h : Cg f o bs) {g : Nat → Int32} (hb : g (o + bs.length) = nn b) (e : ∀ i, i < bs.length → g (o + i) = f (o + i)) : Cg g o (bs ++ [b]) := (h.of e).app (Cg.one hb)
/-- a byte is put behind the others -/
theorem WR.push {w : Nat} {h : Hp} {f : Int32} {bs : List Nat} {b : Nat} (H : WR w h f bs) (hb : b < 256) (hl : bs.length < 600) : WR w (sfi (sai h (w + 1) (upd (hai h (w + 1)) bs.length (nn b))) 1202 w (nn (bs.length + 1))) f (bs ++ [b]) ∧ Wo w h (sfi (sai h (w + 1) (upd (hai h (w + 1)) bs.length (nn b))) 1202 w (nn (bs.length + 1))) := by
  obtain ⟨⟨a1, a2, a3, a4⟩, a5, a6, a7, a8, a9⟩ := H
  refine ⟨⟨⟨a1, a2, a3, a4⟩, ?_, ?_, ?_, a8.app (By.one hb), ?_⟩, Wo.ai.tr (Wo.fi (Or.inr rfl))⟩
  · rw [hfi_sfi, if_neg (by omega)]; exact a5
  · rw [hfi_sfi, if_pos ⟨rfl, rfl⟩, List.length_append]; rfl
  · refine a7.snoc ?_ (fun i hi => ?_)
    · rw [hai_sfi, hai_sai, if_pos rfl]
      show (if 0 + bs.length = bs.length then _ else _) = _
      rw [if_pos (by omega)]
    · rw [hai_sfi, hai_sai, if_pos rfl]
      show (if 0 + i = bs.length then _ else _) = _
      rw [if_neg (by omega)]
  · rw [List.length_append]
    show bs.length + 1 ≤ 600
    omega
theorem qc_wbegin {w : Nat} {h : Hp} {f v : Int32} {bs : List Nat} (H : WR w h f bs) : wp (C_X10_begin w v) h (fun _ h' => WR w h' v [] ∧ Wo w h h') := by
  obtain ⟨⟨a1, a2, a3, a4⟩, a5, a6, a7, a8, a9⟩ := H
  unfold C_X10_begin
  rw [wp_pI a1, wp_pI (by exact a1), wp_rt]
  refine ⟨⟨⟨a1, a2, a3, a4⟩, ?_, ?_, Cg.nil, By.nil, Nat.zero_le _⟩, (Wo.fi (Or.inl rfl)).tr (Wo.fi (Or.inr rfl))⟩
  · rw [hfi_sfi, if_neg (by omega), hfi_sfi, if_pos ⟨rfl, rfl⟩]
  · rw [hfi_sfi, if_pos ⟨rfl, rfl⟩]; rfl
theorem qc_one {w : Nat} {h : Hp} {f v : Int32} {bs : List Nat} (H : WR w h f bs) (hl : bs.length < 600) : wp (C_X10_one w v) h (fun _ h' => WR w h' f (bs ++ [lo8 v]) ∧ Wo w h h') := by
  have P := H.push (lo8_lt v) hl
  obtain ⟨⟨a1, a2, a3, a4⟩, a5, a6, a7, a8, a9⟩ := H
  unfold C_X10_one
  rw [wp_gI a1, wp_neg (by show ¬ (600 : Int32) ≤ hfi h 1202 w; rw [a6, l_600, nn_le (by omega) (by omega)]; omega), wp_gR a1]
  show wp (hgI 12 2 (some w) fun v3 => hWi (hfr h 1201 w) v3 (v &&& (255 : Int32)) <| hgI 12 2 (some w) fun v4 => hpI 12 2 (some w) (v4 + (1 : Int32)) <| rt ()) h _
  rw [a2, wp_gI a1]
  show wp (hWi (some (w + 1)) (hfi h 1202 w) (v &&& (255 : Int32)) _) h _
  rw [a6, wp_Wi a3 (nn_inr (by omega) (by omega)), nn_N (by omega), and255, wp_gI (by exact a1)]
  show wp (hpI 12 2 (some w) (hfi h 1202 w + 1) _) _ _
  rw [a6, l_1, nn_add, wp_pI (by exact a1), wp_rt]
  exact P
