/-! ===== feed ===== -/
section FED
variable {x i n : Nat} {e0 : Int32} {h : Hp} {r : RS} {l2 l4 : Int64}
/-- what a call leaves, but for its cost -/
def Okr (x : Nat) (e0 : Int32) (h : Hp) (r : RS) : Prop := Rel x 8 12 96 e0 h r ∧ ∀ i, i < 8 → r.2.1 2 i = 0
theorem q7_or : ∀ q, q < 16 → (nn q &&& (7 : Int32)) = nn q - nn q / (8 : Int32) * (8 : Int32) := by decide +kernel
theorem Cn.le {r : RS} {c c' : Nat} (z : Cn r c) (l : c ≤ c') : Cn r c' := by
  obtain ⟨a, b, d, h1, h2, h3, h4, h5, h6⟩ := z
  exact ⟨a, b, d, h1, h2, h3, by omega, by omega, by omega⟩
def FP (x : Nat) (e0 : Int32) (m : Nat) (h : Hp) (r : RS) (v : Nat ⊕ Int32) (h' : Hp) (w : Int32) (r' : RS) : Prop := v = Sum.inr w ∧ Okr x e0 h' r' ∧ (hcs h').1 + WN r' + 60 * SB r' ≤ (hcs h).1 + WN r + 60 * SB r + 60 * m ∧ (hcs h').2 + 6 * WN r' + 700 * SB r' ≤ (hcs h).2 + 6 * WN r + 700 * SB r + 700 * m ∧ Cb (20 * m) r r'
theorem feed_loop (CN : ConP x) (hi : i < 8) (hn : n ≤ 16) : ∀ (m q f g : Nat) (h : Hp) (r : RS) (c0 l7 : Int32), q + m = n → m < f → m < g → Okr x e0 h r → r.1 67 = c0 + l7 → (∃ c, Cn r c ∧ c + 20 * m ≤ 1000000) →
    Sim (C_X11_feed_L53 x (fun l8 => C_X11_feed_J179 x l8) f l2 l4 (nn n) (some (cA x i)) c0 (nn q)) h (R_feed_L57 (fun l7 => R_feed_J148 l7) g (nn i) l2 l4 (nn n) l7 (nn q)) r (fun v h' w r' => FP x e0 m h r v h' w r') := by
  intro m
  induction m with
  | zero =>
    intro q f g h r c0 l7 hq hf hg O e67 hcn
    obtain ⟨f', rfl⟩ : ∃ z, f = z + 1 := ⟨f - 1, by omega⟩
    obtain ⟨g', rfl⟩ : ∃ z, g = z + 1 := ⟨g - 1, by omega⟩
    have T := O.1.st
    have k1 := T.2.1.1
    have g10 : hfi h (100 * 13 + 10) x = c0 + l7 := O.1.2.1.2.2.1.trans e67
    show Sim (C_X11_feed_B53 x _ _ l2 l4 (nn n) (some (cA x i)) c0 (nn q)) h (R_feed_B57 _ _ (nn i) l2 l4 (nn n) l7 (nn q)) r _
    unfold C_X11_feed_B53 R_feed_B57 C_X11_feed_J179 R_feed_J148
    rw [sl_pos (by rw [nn_le (by omega) (by omega)]; omega), sr_pos (by rw [nn_le (by omega) (by omega)]; omega), sl_gI k1, g10]
    exact Sim.ret ⟨by rw [Int32.add_comm, Int32.add_sub_cancel], O, by omega, by omega, Cb.of (fun _ _ => rfl)⟩
  | succ m ih =>
    intro q f g h r c0 l7 hq hf hg O e67 hcn
    obtain ⟨f', rfl⟩ : ∃ z, f = z + 1 := ⟨f - 1, by omega⟩
    obtain ⟨g', rfl⟩ : ∃ z, g = z + 1 := ⟨g - 1, by omega⟩
    have T := O.1.st
    have k1 := T.2.1.1
    obtain ⟨c1, _⟩ := T.pk hi
    have g10 : hfi h (100 * 13 + 10) x = c0 + l7 := O.1.2.1.2.2.1.trans e67
    have CA := (O.1.2.2.2.1 i hi).1.1
    have e1 : hfi h (100 * 2 + 1) (cA x i) = r.2.1 1 i := CA.1
    show Sim (C_X11_feed_B53 x _ _ l2 l4 (nn n) (some (cA x i)) c0 (nn q)) h (R_feed_B57 _ _ (nn i) l2 l4 (nn n) l7 (nn q)) r _
    unfold C_X11_feed_B53 R_feed_B57
    rw [sl_neg (by rw [nn_le (by omega) (by omega)]; omega), sr_neg (by rw [nn_le (by omega) (by omega)]; omega), sl_gI c1, e1, sr_r1 hi]
    rcases CA.2 with z | z
    · rw [z, sl_pos rfl, sr_pos rfl]
      unfold C_X11_feed_J179 R_feed_J148
      rw [sl_gI k1, g10]
      exact Sim.ret ⟨by rw [Int32.add_comm, Int32.add_sub_cancel], O, by omega, by omega, Cb.of (fun _ _ => rfl)⟩
    · rw [z, sl_neg (by decide), sr_neg (by decide), sr_r5 hi]
      have stp : ∀ s0 : Int64, Sim (C_X11_feed_J81 x (fun l2 l4 l6 l7 l8 l9 => C_X11_feed_L53 x (fun l8 => C_X11_feed_J179 x l8) f' l2 l4 l6 l7 l8 l9) (fun l8 => C_X11_feed_J179 x l8) l2 l4 (nn n) (some (cA x i)) c0 (nn q) s0) h (R_feed_J102 (fun l1 l2 l4 l6 l7 l8 => R_feed_L57 (fun l7 => R_feed_J148 l7) g' l1 l2 l4 l6 l7 l8) (fun l7 => R_feed_J148 l7) (nn i) l2 l4 (nn n) l7 (nn q) (((410 : Int32) * nn i) + r.2.1 5 i) s0) r (fun v h' w r' => FP x e0 (m + 1) h r v h' w r') := fun s0 => by
        obtain ⟨V, eV⟩ : ∃ z, z = (lush6 s0 ((8 : Int32) * (nn q &&& (7 : Int32)))).toInt32 := ⟨_, rfl⟩
        obtain ⟨k, hk, k5, S⟩ := sim_byte (s0 := s0) (l9 := nn q) (l2 := l2) (l4 := l4) (l6 := nn n) (l8 := c0) (ke := fun l8 => C_X11_feed_J179 x l8) CN (hcn.elim fun c z => z.1.le (by omega)) O.1 O.2 hi z (lo8_lt V) (by rw [← eV]; exact and255 V)
        rw [Sim_l (congrFun J81_split h)]
        unfold R_feed_J102
        have e5 : (sA r 6 (410 * i + k) (sb (lo8 V))).2.1 5 i = nn k := by
          rw [sA_o (by decide)]
          exact k5
        rw [k5, show (410 : Int32) = nn 410 from rfl, nn_mul, nn_add, sr_w6 (by omega), ← q7_or q (by omega), ← eV, nar8, sr_r5 hi, e5, show nn k + (1 : Int32) = nn (k + 1) from nn_add, sr_w5 hi]
        refine Sim.seq S (fun _ h' w r' B => ?_)
        obtain ⟨b1, b2, b3, b4, b5, b6, b7⟩ := B
        have go : ∀ w : Int32, r'.1 67 = r.1 67 + w → Sim (C_X11_feed_L53 x (fun l8 => C_X11_feed_J179 x l8) f' l2 l4 (nn n) (some (cA x i)) c0 (nn q + 1)) h' (R_feed_L57 (fun l7 => R_feed_J148 l7) g' (nn i) l2 l4 (nn n) (l7 + w) (nn q + 1)) r' (fun v h' w r' => FP x e0 (m + 1) h r v h' w r') := fun w ew => by
          rw [show nn q + 1 = nn (q + 1) from nn_add]
          refine (ih (q + 1) f' g' h' r' c0 (l7 + w) (by omega) (by omega) (by omega) ⟨b1, b2⟩ (by rw [ew, e67, Int32.add_assoc]) (hcn.elim fun c z => ⟨c + 20, b7.1 c z.1, by omega⟩)).mono (fun v h2 u r2 F => ?_)
          obtain ⟨f1, f2, f3, f4, f5⟩ := F
          refine ⟨f1, f2, by omega, by omega, ?_⟩
          rw [show 20 * (m + 1) = 20 + 20 * m by omega]
          exact b7.tr f5
        rcases b3 with rfl | rfl
        · rw [sr_pos rfl]
          exact go 0 b4
        · rw [sr_neg (by decide)]
          exact go 1 b4
      by_cases g8 : (8 : Int32) ≤ nn q
      · rw [sl_pos g8, sr_pos g8]
        exact stp l4
      · rw [sl_neg g8, sr_neg g8]
        exact stp l2
end FED
