/-! ===== a name that nobody has: both find the same ===== -/
section NA3
variable {x ec es ew s b a v n sf w t : Nat} {e0 : Int32} {h h' : Hp} {r r' r0 : RS} {ys : List Nat}
theorem sI_eta {k : Nat} {v : Int32} (e : r.1 k = v) : sI r k v = r := by
  have : (sI r k v).1 = r.1 := by
    funext j
    rw [sI_1]
    by_cases z : j = k
    · rw [if_pos z, z, e]
    · rw [if_neg z]
  exact Prod.ext this rfl
/-- the class's loop and the model's, side by side: t tries were in vain -/
theorem name_loop {ke : RS → Option (Unit × RS)} (hs : sf < 12) (h11 : r0.2.1 11 sf = 0) (m11 : ∀ s, s < 12 → r0.2.1 11 s = 0 ∨ r0.2.1 11 s = 1) :
    ∀ (c t a f g : Nat) (l : List Nat) (h : Hp) (r rm : RS), t + c = 12 → c < f → c + 1 < g → l.length = t → l.Nodup → (∀ s ∈ l, s < 12 ∧ s ≠ sf ∧ ∃ u, u < a + 1 ∧ IdOf r0 s (autoB u)) → a + c < 80000000 → Rel x ec es ew e0 h r → r.2.1 = r0.2.1 → r.1 71 = nn (a + 1) → (∀ s, s ≠ sf → rm.2.1 11 s = r0.2.1 11 s) → (∀ s ys, s ≠ sf → ys.length ≤ 20 → (IdOf rm s ys ↔ IdOf r0 s ys)) → rm.1 71 = nn a → Rw x h (hnx h - 1) (autoB (a + 1)) → hkd h (hnx h - 1) = 10 →
      ∃ v h' r2 rm', a + 1 ≤ v ∧ v ≤ a + 1 + c ∧ C_X11_makeId_L17 x (fun l1 => C_X11_makeId_J42 x l1) f (some (hnx h - 1)) (nn t) h = some (some (hnx h' - 1), h') ∧ R_name_L12 ke (g + 1) (nn sf) 0 rm = ke rm' ∧ Rel x ec es ew e0 h' r2 ∧ r2 = sI r 71 (nn v) ∧ Rw x h' (hnx h' - 1) (autoB v) ∧ hkd h' (hnx h' - 1) = 10 ∧ Fm x [1315] (fun _ => False) h h' ∧ (∀ s, s < 12 → r0.2.1 11 s = 1 → ¬ IdOf r0 s (autoB v)) ∧ (hcs h').1 ≤ (hcs h).1 + 2 * c ∧ (hcs h').2 ≤ (hcs h).2 + 13 * c ∧ Ro [11, 13, 14, 71, 90] rm rm' ∧ rm'.1 71 = nn v ∧ (∀ s, s ≠ sf → rm'.2.1 11 s = rm.2.1 11 s ∧ rm'.2.1 13 s = rm.2.1 13 s) ∧ (∀ q, q / 20 ≠ sf → rm'.2.1 14 q = rm.2.1 14 q) ∧ rm'.2.1 11 sf = 1 ∧ IdOf rm' sf (autoB v) ∧ rm'.2.2 = rm.2.2 ∧ rm'.2.1 71 = rm.2.1 71 := by
  intro c
  induction c with
  | zero =>
    intro t a f g l h r rm ht hf hg hl hd hm
    exfalso
    have h2 : (sf :: l).Nodup := List.nodup_cons.mpr ⟨fun z => (hm sf z).2.1 rfl, hd⟩
    have := nodup_le 12 (sf :: l) h2 (fun q hq => by
      rcases List.mem_cons.mp hq with z | z
      · omega
      · exact (hm q z).1)
    have : l.length + 1 ≤ 12 := this
    omega
  | succ c ih =>
    intro t a f g l h r rm ht hf hg hl hd hm ha R hr h71 k11 kid m71 W hk
    obtain ⟨f', rfl⟩ : ∃ z, f = z + 1 := ⟨f - 1, by omega⟩
    obtain ⟨g', rfl⟩ : ∃ z, g = z + 1 := ⟨g - 1, by omega⟩
    have T := R.st
    have hx := T.1
    have kx := T.2.1.1
    have bl := autoB_len (v := a + 1)
    have nb := nd_b (v := a + 1)
    have idr : ∀ s, IdOf r s (autoB (a + 1)) ↔ IdOf r0 s (autoB (a + 1)) := fun s => by
      unfold IdOf
      rw [hr]
    have ct : C_X11_makeId_L17 x (fun l1 => C_X11_makeId_J42 x l1) (f' + 1) (some (hnx h - 1)) (nn t) h = (bd (C_X11_find x (some (hnx h - 1))) fun r1 => if r1 = none then (C_X11_makeId_J42 x (some (hnx h - 1))) else (hCv 13 (some x) (fun a => C_X11_autoId a) fun r2 => C_X11_makeId_L17 x (fun l1 => C_X11_makeId_J42 x l1) f' r2 (nn (t + 1)))) h := by
      show C_X11_makeId_B17 x _ _ (some (hnx h - 1)) (nn t) h = _
      unfold C_X11_makeId_B17
      rw [if_neg (by rw [show (12 : Int32) = nn 12 from rfl, nn_le (by omega) (by omega)]; omega), e_Cv (c := 13) kx, show nn t + 1 = nn (t + 1) from nn_add]
    obtain ⟨rm1, N1, tm⟩ := try_m (ke := ke) (f := g' + 1) (r := rm) hs (fun s h1 h2 => by rw [k11 s h2]; exact m11 s h1) m71 (by omega)
    rcases qc_fnd R W (by omega) with ⟨s, b, c1, c2, c3, c4, c5⟩ | ⟨c1, c2⟩
    · have a11 : r0.2.1 11 s = 1 := by rw [← hr]; exact ((R.2.2.2.2.1 s c1).at c2).1
      have sne : s ≠ sf := fun z => by
        rw [z, h11] at a11
        exact absurd a11 (by decide)
      have ic := (idr s).mp c3
      have tm' : R_name_L12 ke (g' + 1 + 1) (nn sf) 0 rm = R_name_L12 ke (g' + 1) (nn sf) 0 rm1 := by
        rcases tm with ⟨s', d1, d2, d3, d4, d5⟩ | ⟨d1, d2⟩
        · exact d5
        · exact absurd ((kid s _ sne (by omega)).mpr ic) (d1 s c1 sne (by rw [k11 s sne]; exact a11))
      have R71 : hfi h 1315 x = nn (a + 1) := R.2.1.2.2.2.2.2.2.1.trans h71
      obtain ⟨h1, e1, R1, W1, n1, k1, F1, v1, o1, o2⟩ := auto_ev R R71 (by omega) (by rw [hk]; decide)
      have n1' : hnx h + 1 = hnx h1 - 1 := by omega
      rw [n1'] at e1 W1 k1
      have snl : s ∉ l := fun z => by
        obtain ⟨_, _, u, u1, u2⟩ := hm s z
        have e := (id_iff (r := r0) (s := s) (bs := autoB u) (ys := autoB (a + 1)) u2.1 u2.2 autoB_by (by rw [autoB_len]; have := nd_b (v := u); omega) autoB_by (by omega)).mpr ic
        have := autoB_inj (by omega) (by omega) e
        omega
      obtain ⟨v, h2, r2, rm2, q1, q2, q3, q4, q5, q6, q7, q8, q9, q10, q11, q12, q13, q14, q15, q16, q17, q18, q19, q20⟩ := ih (t + 1) (a + 1) f' g' (s :: l) h1 (sI r 71 (nn (a + 1 + 1))) rm1 (by omega) (by omega) (by omega) (by rw [List.length_cons, hl]) (List.nodup_cons.mpr ⟨snl, hd⟩) (fun q hq => by
        rcases List.mem_cons.mp hq with z | z
        · rw [z]
          exact ⟨c1, sne, a + 1, by omega, ic⟩
        · obtain ⟨z1, z2, u, z3, z4⟩ := hm q z
          exact ⟨z1, z2, u, by omega, z4⟩) (by omega) R1 hr (by rw [sI_1, if_pos rfl]) (fun q hq => (N1.2.2.1 q hq).1.trans (k11 q hq)) (fun q ys hq hy => (N1.id hq hy).trans (kid q ys hq hy)) N1.2.1 W1 k1
      refine ⟨v, h2, r2, rm2, by omega, by omega, ?_, ?_, q5, ?_, q7, q8, F1.tr q9, q10, by omega, by omega, N1.1.tr q13, q14, fun q hq => ⟨(q15 q hq).1.trans (N1.2.2.1 q hq).1, (q15 q hq).2.trans (N1.2.2.1 q hq).2⟩, fun q hq => (q16 q hq).trans (N1.2.2.2.1 q hq), q17, q18, q19.trans N1.2.2.2.2.2.2.1, q20.trans N1.2.2.2.2.2.2.2⟩
      · rw [ct, e_bd c5, if_neg (by simp), e_Cv (c := 13) kx, e_bd e1]
        exact q3
      · rw [tm']
        exact q4
      · rw [q6, sI_sI]
    · have tm' : R_name_L12 ke (g' + 1 + 1) (nn sf) 0 rm = R_name_L12 ke (g' + 1) (nn sf) 1 rm1 := by
        rcases tm with ⟨s', d1, d2, d3, d4, d5⟩ | ⟨d1, d2⟩
        · exact absurd ((idr s').mpr ((kid s' _ d2 (by omega)).mp d4)) (c1 s' d1 (by rw [hr, ← k11 s' d2]; exact d3))
        · exact d2
      refine ⟨a + 1, h, r, rm1, by omega, by omega, ?_, ?_, R, ?_, W, hk, Fm.rf, fun s h1 h2 h3 => c1 s h1 (by rw [hr]; exact h2) ((idr s).mpr h3), by omega, by omega, N1.1, N1.2.1, N1.2.2.1, N1.2.2.2.1, N1.2.2.2.2.1, N1.2.2.2.2.2.1, N1.2.2.2.2.2.2.1, N1.2.2.2.2.2.2.2⟩
      · rw [ct, e_bd c2, if_pos rfl]
        rfl
      · rw [tm']
        show R_name_B12 _ ke (nn sf) 1 rm1 = _
        unfold R_name_B12
        rw [if_neg (by decide)]
      · exact (sI_eta h71).symm
end NA3
