/-! ===== what never changes in the class's heap ===== -/
abbrev cA (x i : Nat) : Nat := x + 2 + 4 * i
def finR : List Nat := [203, 207, 211, 500, 501, 504, 505, 506, 601, 602, 603, 604, 700, 800, 900, 1001, 1003, 1005, 1007, 1009, 1100, 1201, 1300, 1301, 1302, 1303, 1304, 1305, 1306, 1307, 1308]
def finI : List Nat := [200, 502, 503, 1000, 1101]
/-- an array of bytes that nobody writes -/
def Fz (x : Nat) (h : Hp) (y : Nat) : Prop := x + 130 ≤ y ∧ y < hnx h ∧ hkd h y = 101 ∧ hkd h (y - 1) ≠ 108
def Sto (x : Nat) (h h' : Hp) : Prop := hnx h ≤ hnx h' ∧ (∀ a, a < hnx h → hkd h' a = hkd h a ∧ hln h' a = hln h a) ∧ (∀ a, a < hnx h → (∀ f ∈ finR, hfr h' f a = hfr h f a) ∧ (∀ f ∈ finI, hfi h' f a = hfi h f a) ∧ hfl h' 507 a = hfl h 507 a) ∧ (∀ y, Fz x h y → hai h' y = hai h y) ∧ har h' (x + 1) = har h (x + 1)
theorem Fz.stp {x y : Nat} {h h' : Hp} (z : Fz x h y) (s : Sto x h h') : Fz x h' y := by
  obtain ⟨z1, z2, z3, z4⟩ := z
  obtain ⟨s1, s2, s3, s4, s5⟩ := s
  exact ⟨z1, by omega, by rw [(s2 y z2).1]; exact z3, by rw [(s2 (y - 1) (by omega)).1]; exact z4⟩
theorem Sto.rf {x : Nat} {h : Hp} : Sto x h h := ⟨Nat.le_refl _, fun _ _ => ⟨rfl, rfl⟩, fun _ _ => ⟨fun _ _ => rfl, fun _ _ => rfl, rfl⟩, fun _ _ => rfl, rfl⟩
theorem Sto.tr {x : Nat} {h h1 h2 : Hp} (s : Sto x h h1) (t : Sto x h1 h2) : Sto x h h2 := by
  have hz : ∀ y, Fz x h y → Fz x h1 y := fun y z => z.stp s
  obtain ⟨s1, s2, s3, s4, s5⟩ := s
  obtain ⟨t1, t2, t3, t4, t5⟩ := t
  refine ⟨by omega, fun a ha => ?_, fun a ha => ?_, fun y z => (t4 y (hz y z)).trans (s4 y z), t5.trans s5⟩
  · have u := t2 a (by omega)
    have v := s2 a ha
    exact ⟨u.1.trans v.1, u.2.trans v.2⟩
  · have u := t3 a (by omega)
    have v := s3 a ha
    exact ⟨fun f hf => (u.1 f hf).trans (v.1 f hf), fun f hf => (u.2.1 f hf).trans (v.2.1 f hf), u.2.2.trans v.2.2⟩
section STP
variable {x a f n c : Nat} {h h' : Hp}
theorem Sto.fi {v : Int32} (s : Sto x h h') (hf : f ∉ finI ∨ hnx h ≤ a) : Sto x h (sfi h' f a v) := by
  obtain ⟨s1, s2, s3, s4, s5⟩ := s
  refine ⟨s1, s2, fun b hb => ⟨(s3 b hb).1, fun g hg => ?_, (s3 b hb).2.2⟩, s4, s5⟩
  rw [hfi_sfi, if_neg]
  · exact (s3 b hb).2.1 g hg
  · rintro ⟨rfl, rfl⟩
    rcases hf with hf | hf
    · exact hf hg
    · omega
theorem Sto.fl {v : Int64} (s : Sto x h h') (hf : f ≠ 507 ∨ hnx h ≤ a) : Sto x h (sfl h' f a v) := by
  obtain ⟨s1, s2, s3, s4, s5⟩ := s
  refine ⟨s1, s2, fun b hb => ⟨(s3 b hb).1, (s3 b hb).2.1, ?_⟩, s4, s5⟩
  rw [hfl_sfl, if_neg]
  · exact (s3 b hb).2.2
  · rintro ⟨rfl, rfl⟩
    rcases hf with hf | hf
    · exact hf rfl
    · omega
theorem Sto.fr {v : Option Nat} (s : Sto x h h') (hf : f ∉ finR ∨ hnx h ≤ a) : Sto x h (sfr h' f a v) := by
  obtain ⟨s1, s2, s3, s4, s5⟩ := s
  refine ⟨s1, s2, fun b hb => ⟨fun g hg => ?_, (s3 b hb).2.1, (s3 b hb).2.2⟩, s4, s5⟩
  rw [hfr_sfr, if_neg]
  · exact (s3 b hb).1 g hg
  · rintro ⟨rfl, rfl⟩
    rcases hf with hf | hf
    · exact hf hg
    · omega
theorem Sto.ai {v : Nat → Int32} (s : Sto x h h') (ha : ¬ Fz x h a) : Sto x h (sai h' a v) := by
  obtain ⟨s1, s2, s3, s4, s5⟩ := s
  refine ⟨s1, s2, s3, fun y z => ?_, s5⟩
  have e : y ≠ a := fun e => ha (by rw [← e]; exact z)
  rw [hai_sai, if_neg e]
  exact s4 y z
theorem Sto.al {v : Nat → Int64} (s : Sto x h h') : Sto x h (sal h' a v) := s
theorem Sto.ar {v : Nat → Option Nat} (s : Sto x h h') (ha : a ≠ x + 1) : Sto x h (sar h' a v) := by
  obtain ⟨s1, s2, s3, s4, s5⟩ := s
  refine ⟨s1, s2, s3, s4, ?_⟩
  rw [har_sar, if_neg (fun e => ha e.symm)]
  exact s5
theorem Sto.ob (s : Sto x h h') : Sto x h (hob h' c n) := by
  obtain ⟨s1, s2, s3, s4, s5⟩ := s
  refine ⟨by rw [hnx_hob]; omega, fun b hb => ?_, fun b hb => ?_, s4, s5⟩
  · rw [hkd_hob, if_neg (by omega), hln_hob]
    exact s2 b hb
  · refine ⟨fun g hg => ?_, fun g hg => ?_, ?_⟩
    · rw [hfr_hob, if_neg (by omega)]; exact (s3 b hb).1 g hg
    · rw [hfi_hob, if_neg (by omega)]; exact (s3 b hb).2.1 g hg
    · rw [hfl_hob, if_neg (by omega)]; exact (s3 b hb).2.2
theorem Sto.ay (s : Sto x h h') (hx : x + 1 < hnx h) : Sto x h (hay h' c n) := by
  obtain ⟨s1, s2, s3, s4, s5⟩ := s
  refine ⟨by rw [hnx_hay]; omega, fun b hb => ?_, s3, fun y z => ?_, ?_⟩
  · rw [hkd_hay, if_neg (by omega), hln_hay, if_neg (by omega)]
    exact s2 b hb
  · rw [hai_hay, if_neg (by have := z.2.1; omega)]
    exact s4 y z
  · rw [har_hay, if_neg (by omega)]
    exact s5
theorem Sto.sk (s : Sto x h h') : Sto x h (hsk h' n) := by
  obtain ⟨s1, s2, s3, s4, s5⟩ := s
  refine ⟨by rw [hnx_hsk]; omega, fun b hb => ?_, s3, s4, s5⟩
  rw [hkd_hsk, if_neg (by omega), hln_hsk]
  exact s2 b hb
theorem Wo.stp {w : Nat} (W : Wo w h h') (hf : ¬ Fz x h (w + 1)) : Sto x h h' := by
  obtain ⟨x1, x2, x3, x4, x5, x6, x7, x8, x9, x10⟩ := W
  refine ⟨by omega, fun a _ => by rw [x2, x3]; exact ⟨rfl, rfl⟩, fun a _ => ⟨fun f _ => by rw [x5], fun f hg => ?_, by rw [x4]⟩, fun y z => x10 y (fun e => hf (by rw [← e]; exact z)), by rw [x7]⟩
  refine x9 f a (fun _ => ?_)
  simp only [finI, List.mem_cons, List.not_mem_nil, or_false] at hg
  omega
end STP
/-- a row of bytes -/
def Rw (x : Nat) (h : Hp) (a : Nat) (bs : List Nat) : Prop := hkd h a = 10 ∧ a < hnx h ∧ By bs ∧ ∃ y, hfr h 900 a = some y ∧ y < hnx h ∧ hkd h y = 101 ∧ hln h y = bs.length ∧ Cg (hai h y) 0 bs ∧ (bs = [] ∨ Fz x h y)
theorem Rw.stp {x a : Nat} {h h' : Hp} {bs : List Nat} (R : Rw x h a bs) (s : Sto x h h') : Rw x h' a bs := by
  obtain ⟨r1, r2, r3, y, r4, r5, r6, r7, r8, r9⟩ := R
  have hz : Fz x h y → Fz x h' y := fun z => z.stp s
  obtain ⟨s1, s2, s3, s4, s5⟩ := s
  refine ⟨by rw [(s2 a r2).1]; exact r1, by omega, r3, y, by rw [(s3 a r2).1 900 (by decide)]; exact r4, by omega, by rw [(s2 y r5).1]; exact r6, by rw [(s2 y r5).2]; exact r7, ?_, ?_⟩
  · rcases r9 with r9 | r9
    · rw [r9]; exact Cg.nil
    · rw [s4 y r9]; exact r8
  · rcases r9 with r9 | r9
    · exact Or.inl r9
    · exact Or.inr (hz r9)
theorem Rw.at {x a : Nat} {h : Hp} {bs : List Nat} (R : Rw x h a bs) : ∃ y, hfr h 900 a = some y ∧ hkd h y = 101 ∧ hln h y = bs.length ∧ ∀ i, i < bs.length → hai h y i = nn (bs.getD i 0) := by
  obtain ⟨r1, r2, r3, y, r4, r5, r6, r7, r8, r9⟩ := R
  refine ⟨y, r4, r6, r7, fun i hi => ?_⟩
  have := r8 i hi
  rwa [Nat.zero_add] at this
