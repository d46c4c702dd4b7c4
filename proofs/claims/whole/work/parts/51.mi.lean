/-! ===== the model's constructor: what it leaves ===== -/
def mlst : List (Nat × Nat × Int32) := [(1, 2, 8), (2, 2, 8), (3, 0, 8), (4, 1, 16000), (5, 0, 8), (6, 1, 3280), (7, 0, 8), (8, 0, 8), (9, 0, 32), (10, 1, 2048), (11, 2, 12), (12, 0, 12), (13, 0, 12), (14, 1, 240), (15, 0, 12), (16, 3, 12), (17, 0, 12), (18, 3, 12), (19, 0, 12), (20, 0, 12), (21, 3, 12), (22, 3, 12), (23, 3, 12), (24, 0, 12), (25, 0, 96), (26, 1, 6144), (27, 0, 96), (28, 0, 96), (29, 0, 96), (30, 0, 96), (31, 0, 12), (32, 0, 192), (33, 0, 192), (34, 0, 192), (35, 0, 192), (36, 0, 192), (37, 2, 192), (38, 0, 12), (39, 0, 288), (40, 0, 288), (41, 0, 288), (42, 0, 288), (43, 0, 12), (44, 0, 96), (45, 1, 307200), (46, 0, 640), (47, 0, 640), (48, 0, 640), (49, 0, 640), (50, 3, 640), (51, 0, 640), (52, 0, 640), (53, 0, 640), (54, 0, 640), (55, 0, 640), (56, 0, 640), (57, 0, 640), (58, 0, 640), (59, 0, 640), (60, 0, 640), (61, 0, 640), (62, 0, 640), (63, 2, 640), (64, 0, 16), (82, 2, 64), (83, 3, 64), (84, 0, 64), (85, 0, 64), (86, 1, 410), (88, 1, 1200), (90, 1, 1200), (92, 0, 410), (93, 0, 410), (94, 0, 410), (95, 0, 410), (96, 2, 410), (97, 1, 64)]
def mkp (a : Nat) (K : Hp → Option (Unit × Hp)) : List (Nat × Nat × Int32) → Hp → Option (Unit × Hp)
  | [] => K
  | x :: r => hNa x.2.1 x.2.2 fun o => hpR 14 x.1 (some a) o <| mkp a K r
set_option maxRecDepth 20000 in
theorem mi_eq (a : Nat) : C_X12_init a = hOi (some a) (mkp a (C_X12_init_L663 a (C_X12_init_J682 a) fu 0) mlst) := rfl
def sumN (r : List (Nat × Nat × Int32)) : Nat := (r.map fun x => x.2.2.toNatClampNeg).sum
theorem mkp_ev {a : Nat} {K : Hp → Option (Unit × Hp)} : ∀ (r : List (Nat × Nat × Int32)) (h : Hp), hkd h a = 15 → a < hnx h → (∀ x ∈ r, 0 ≤ x.2.2 ∧ x.2.2.toNatClampNeg ≤ 1000000) → (r.map (fun x => x.1)).Nodup →
    ∃ h', mkp a K r h = K h' ∧ hnx h' = hnx h + r.length ∧ (∀ b, b < hnx h → b ≠ a → Same h h' b) ∧ hkd h' a = 15 ∧ (∀ f, hfi h' f a = hfi h f a) ∧ (∀ f, (∀ x ∈ r, f ≠ 1400 + x.1) → hfr h' f a = hfr h f a) ∧
      (∀ (i : Nat) (x : Nat × Nat × Int32), r[i]? = some x → hfr h' (1400 + x.1) a = some (hnx h + i) ∧ hkd h' (hnx h + i) = 101 + x.2.1 ∧ hln h' (hnx h + i) = x.2.2.toNatClampNeg ∧ (∀ j, hai h' (hnx h + i) j = 0) ∧ (∀ j, hal h' (hnx h + i) j = 0)) ∧
      (hcs h').1 = (hcs h).1 + r.length ∧ (hcs h').2 = (hcs h).2 + sumN r := by
  intro r
  induction r with
  | nil =>
    intro h ha hl _ _
    exact ⟨h, rfl, rfl, fun b _ _ => Same.rf h b, ha, fun _ => rfl, fun _ _ => rfl, fun i x hx => by simp at hx, rfl, rfl⟩
  | cons x r ih =>
    intro h ha hl hb hn
    have hne : a ≠ hnx h := Nat.ne_of_lt hl
    obtain ⟨h1, e1⟩ : ∃ h1, h1 = sfr (hay h x.2.1 x.2.2.toNatClampNeg) (1400 + x.1) a (some (hnx h)) := ⟨_, rfl⟩
    have hK : Keep h (hay h x.2.1 x.2.2.toNatClampNeg) := Keep.ay h _ _
    have ha0 : hkd (hay h x.2.1 x.2.2.toNatClampNeg) a = 15 := (hK.2 a hl).1.trans ha
    have ha1 : hkd h1 a = 15 := by rw [e1]; exact ha0
    have hn1 : hnx h1 = hnx h + 1 := by rw [e1]; rfl
    have hs : mkp a K (x :: r) h = mkp a K r h1 := by
      show hNa x.2.1 x.2.2 (fun o => hpR 14 x.1 (some a) o <| mkp a K r) h = _
      rw [e_Na (hb x List.mem_cons_self)]
      rw [e_pR (c := 14) ha0, e1]
    have hnd := List.nodup_cons.mp (show (x.1 :: r.map (fun x => x.1)).Nodup from hn)
    obtain ⟨h', q1, q2, q3, q4, q5, q6, q7, q8, q9⟩ := ih h1 ha1 (by rw [hn1]; omega) (fun z hz => hb z (List.mem_cons_of_mem _ hz)) hnd.2
    have hS : ∀ b, b ≠ a → Same (hay h x.2.1 x.2.2.toNatClampNeg) h1 b := fun b hb => by rw [e1]; exact Same.fr hb
    refine ⟨h', hs.trans q1, by rw [q2, hn1, List.length_cons]; omega, fun b hb1 hb2 => ?_, q4, fun f => ?_, fun f hf => ?_, fun i y hy => ?_, ?_, ?_⟩
    · exact ((hK.2 b hb1).tr (hS b hb2)).tr (q3 b (by rw [hn1]; omega) hb2)
    · rw [q5 f, e1]
      exact (hK.2 a hl).2.2.1 f
    · rw [q6 f (fun z hz => hf z (List.mem_cons_of_mem _ hz)), e1]
      show (if f = 1400 + x.1 ∧ a = a then _ else _) = _
      rw [if_neg (fun z => hf x List.mem_cons_self z.1)]
      exact (hK.2 a hl).2.2.2.2.1 f
    · cases i with
      | zero =>
        have hy : x = y := by simpa using hy
        subst hy
        have hb3 : hnx h < hnx h1 := by rw [hn1]; omega
        have z := q3 (hnx h) hb3 (Ne.symm hne)
        have z1 := hS (hnx h) (Ne.symm hne)
        refine ⟨?_, ?_, ?_, fun j => ?_, fun j => ?_⟩
        · rw [q6 _ (fun w hw e => hnd.1 (by
            have e2 : x.1 = w.1 := by omega
            rw [e2]; exact List.mem_map.mpr ⟨w, hw, rfl⟩)), e1]
          show (if 1400 + x.1 = 1400 + x.1 ∧ a = a then _ else _) = _
          rw [if_pos ⟨rfl, rfl⟩]; rfl
        · show hkd h' (hnx h) = _
          rw [z.1, z1.1]
          show (if hnx h = hnx h then _ else _) = _
          rw [if_pos rfl]
        · show hln h' (hnx h) = _
          rw [z.2.1, z1.2.1]
          show (if hnx h = hnx h then _ else _) = _
          rw [if_pos rfl]
        · show hai h' (hnx h) j = _
          rw [z.2.2.2.2.2.1, z1.2.2.2.2.2.1]
          show (if hnx h = hnx h then (fun _ => 0) else _) j = _
          rw [if_pos rfl]
        · show hal h' (hnx h) j = _
          rw [z.2.2.2.2.2.2.1, z1.2.2.2.2.2.2.1]
          show (if hnx h = hnx h then (fun _ => 0) else _) j = _
          rw [if_pos rfl]
      | succ i =>
        have hy : r[i]? = some y := by simpa using hy
        have z := q7 i y hy
        rw [hn1] at z
        have e3 : hnx h + 1 + i = hnx h + (i + 1) := by omega
        rw [e3] at z
        exact z
    · rw [q8, e1, List.length_cons]
      show (hcs h).1 + 1 + _ = _
      omega
    · rw [q9, e1]
      show (hcs h).2 + x.2.2.toNatClampNeg + sumN r = (hcs h).2 + (x.2.2.toNatClampNeg + sumN r)
      omega
theorem of_ev {a q : Nat} {K : Hp → Option (Unit × Hp)} : ∀ (n k : Nat) (h : Hp), k + n = 8 → hkd h a = 15 → hfr h 1407 a = some q → hkd h q = 101 → hln h q = 8 → q ≠ a → ∀ fl, n < fl → ∀ l : Int32, l = Int32.ofNat k →
    ∃ h', C_X12_init_L663 a K fl l h = K h' ∧ hnx h' = hnx h ∧ hcs h' = hcs h ∧ (∀ b, b ≠ q → Same h h' b) ∧ hkd h' q = 101 ∧ hln h' q = 8 ∧ (∀ j, k ≤ j → j < 8 → hai h' q j = -1) ∧ (∀ j, j < k → hai h' q j = hai h q j) ∧ (∀ j, hal h' q j = hal h q j) := by
  intro n
  induction n with
  | zero =>
    intro k h hk ha hr hq hl hne fl hf l el
    subst el
    obtain ⟨fl', rfl⟩ : ∃ m, fl = m + 1 := ⟨fl - 1, by omega⟩
    have e : k = 8 := by omega
    subst e
    refine ⟨h, ?_, rfl, rfl, fun b _ => Same.rf h b, hq, hl, fun j h1 h2 => by omega, fun _ _ => rfl, fun _ => rfl⟩
    show C_X12_init_B663 a _ K _ h = _
    unfold C_X12_init_B663
    rw [if_pos (by decide)]
  | succ n ih =>
    intro k h hk ha hr hq hl hne fl hf l el
    subst el
    obtain ⟨fl', rfl⟩ : ∃ m, fl = m + 1 := ⟨fl - 1, by omega⟩
    have hk8 : k < 8 := by omega
    have hcl : (Int32.ofNat k).toNatClampNeg = k := Int32.toNatClampNeg_ofNat_of_lt (by omega)
    have h0 : 0 ≤ Int32.ofNat k ∧ ¬ (8 : Int32) ≤ Int32.ofNat k ∧ Int32.ofNat k + 1 = Int32.ofNat (k + 1) := by
      revert k
      intro k hk _ _
      have : ∀ k, k < 8 → 0 ≤ Int32.ofNat k ∧ ¬ (8 : Int32) ≤ Int32.ofNat k ∧ Int32.ofNat k + 1 = Int32.ofNat (k + 1) := by decide +kernel
      exact this k (by omega)
    obtain ⟨h1, e1⟩ : ∃ h1, h1 = sai h q (upd (hai h q) k (-1)) := ⟨_, rfl⟩
    have hs : C_X12_init_L663 a K (fl' + 1) (Int32.ofNat k) h = C_X12_init_L663 a K fl' (Int32.ofNat (k + 1)) h1 := by
      show C_X12_init_B663 a _ K _ h = _
      unfold C_X12_init_B663
      rw [if_neg h0.2.1, e_gR (c := 14) ha]
      show hWi (hfr h 1407 a) _ _ _ h = _
      rw [hr, e_Wi hq (by rw [hl]; exact ⟨h0.1, by rw [hcl]; exact hk8⟩), hcl, h0.2.2, e1]
    have hS : ∀ b, b ≠ q → Same h h1 b := fun b hb => by rw [e1]; exact Same.ai hb
    obtain ⟨h', q1, q2, q3, q4, q5, q6, q7, q8, q9⟩ := ih (k + 1) h1 (by omega) ((hS a (Ne.symm hne)).1.trans ha) (((hS a (Ne.symm hne)).2.2.2.2.1 _).trans hr) (by rw [e1]; exact hq) (by rw [e1]; exact hl) hne fl' (by omega) _ rfl
    have hai1 : hai h1 q = upd (hai h q) k (-1) := by
      rw [e1]
      show (if q = q then _ else _) = _
      rw [if_pos rfl]
    refine ⟨h', hs.trans q1, by rw [q2, e1]; rfl, by rw [q3, e1]; rfl, fun b hb => (hS b hb).tr (q4 b hb), q5, q6, fun j h1 h2 => ?_, fun j hj => ?_, fun j => by rw [q9 j, e1]; rfl⟩
    · by_cases e : j = k
      · rw [q8 j (by omega), hai1, e]
        simp [upd]
      · exact q7 j (by omega) h2
    · rw [q8 j (by omega), hai1]
      simp [upd, show j ≠ k by omega]
theorem mlst_ok : (∀ x ∈ mlst, 0 ≤ x.2.2 ∧ x.2.2.toNatClampNeg ≤ 1000000) ∧ (mlst.map (fun x => x.1)).Nodup ∧ mlst.length = 77 ∧ sumN mlst = 354780 := by decide +kernel
theorem mlst_at1 : ∀ k, k < 99 → (mK k = 0 ∨ mlst[mO k - 1]? = some (k, mK k - 1, Int32.ofNat (mL k))) := by decide +kernel
theorem mlst_at2 : ∀ k, k < 99 → (Int32.ofNat (mL k)).toNatClampNeg = mL k ∧ (mK k = 0 ∨ k = 7 ∨ mO k ≠ 7) := by decide +kernel
theorem mlst_at (k : Nat) (hk : k < 99) (hm : mK k ≠ 0) : mlst[mO k - 1]? = some (k, mK k - 1, Int32.ofNat (mL k)) ∧ (Int32.ofNat (mL k)).toNatClampNeg = mL k ∧ (k ≠ 7 → mO k ≠ 7) :=
  ⟨(mlst_at1 k hk).resolve_left hm, (mlst_at2 k hk).1, fun h => ((mlst_at2 k hk).2.resolve_left hm).resolve_left h⟩
theorem mlst_6 : mlst[6]? = some (7, 0, 8) := rfl
theorem e_Oi {a : Nat} {P : Hp → Option (Unit × Hp)} : hOi (some a) P = P := rfl
theorem mi_post {a : Nat} {h : Hp} (ha : hkd h a = 15) (hl : hnx h = a + 1) (hz : ∀ f, hfi h f a = 0) : ∃ h', C_X12_init a h = some ((), h') ∧ hnx h' = hnx h + 77 ∧ (∀ b, b < a → Same h h' b) ∧ (hcs h').1 = (hcs h).1 + 77 ∧ (hcs h').2 = (hcs h).2 + 354780 ∧ ∀ h2, hnx h' < hnx h2 → (∀ b, b < hnx h' → Same h' h2 b) → okM a h2 := by
  rw [mi_eq, e_Oi]
  obtain ⟨h1, q1, q2, q3, q4, q5, q6, q7, q8, q9⟩ := mkp_ev (a := a) (K := C_X12_init_L663 a (C_X12_init_J682 a) fu 0) mlst h ha (by omega) mlst_ok.1 mlst_ok.2.1
  rw [mlst_ok.2.2.1] at q2 q8
  rw [mlst_ok.2.2.2] at q9
  have z7 := q7 6 (7, 0, 8) mlst_6
  obtain ⟨h', p1, p2, p3, p4, p5, p6, p7, p8, p9⟩ := of_ev (a := a) (q := hnx h + 6) (K := C_X12_init_J682 a) 8 0 h1 rfl q4 z7.1 z7.2.1 (by rw [z7.2.2.1]; decide) (by omega) fu (by unfold fu; omega) 0 rfl
  refine ⟨h', ?_, by rw [p2, q2], fun b hb => (q3 b (by omega) (by omega)).tr (p4 b (by omega)), by rw [p3, q8], by rw [p3, q9], fun h2 hn hS => ?_⟩
  · rw [q1]
    rw [p1]; rfl
  · have ea : Same h1 h2 a := (p4 a (by omega)).tr (hS a (by omega))
    refine ⟨ea.1.trans q4, by omega, fun k hk hm => ?_, fun k hk hm => ?_⟩
    · rw [ea.2.2.1, q5, hz]
    · obtain ⟨m1, m2, m3⟩ := mlst_at k hk hm
      have mp := m_pos k hk hm
      have z := q7 (mO k - 1) _ m1
      have e : hnx h + (mO k - 1) = a + mO k := by omega
      rw [e] at z
      obtain ⟨z1, z2, z3, z4, z5⟩ := z
      have hS2 := hS (a + mO k) (by omega)
      refine ⟨(ea.2.2.2.2.1 _).trans z1, ?_, ?_, fun h4 j hj => ?_, fun h4 j hj => ?_⟩
      · rw [hS2.1]
        by_cases e7 : k = 7
        · subst e7
          have e8 : a + mO 7 = hnx h + 6 := by rw [hl]; show a + 7 = a + 1 + 6; omega
          rw [e8, p5]; rfl
        · rw [(p4 _ (by have := m3 e7; omega)).1]; exact z2
      · rw [hS2.2.1]
        by_cases e7 : k = 7
        · subst e7
          have e8 : a + mO 7 = hnx h + 6 := by rw [hl]; show a + 7 = a + 1 + 6; omega
          rw [e8, p6]; rfl
        · rw [(p4 _ (by have := m3 e7; omega)).2.1, z3]; exact m2
      · rw [hS2.2.2.2.2.2.2.1]
        have e7 : k ≠ 7 := fun e => by subst e; exact absurd h4 (by decide)
        rw [(p4 _ (by have := m3 e7; omega)).2.2.2.2.2.2.1]; exact z5 j
      · rw [hS2.2.2.2.2.2.1]
        by_cases e7 : k = 7
        · subst e7
          have e8 : a + mO 7 = hnx h + 6 := by rw [hl]; show a + 7 = a + 1 + 6; omega
          rw [e8, p7 j (Nat.zero_le _) hj]
          rfl
        · rw [(p4 _ (by have := m3 e7; omega)).2.2.2.2.2.1, z4 j]
          show 0 = if k = 7 then -1 else 0
          rw [if_neg e7]
