/-! ===== the class: the packet of a message ===== -/
theorem Rw.wo {x a : Nat} {h h' : Hp} {bs : List Nat} (R : Rw x h a bs) (W : Wo (x + 46) h h') : Rw x h' a bs := by
  obtain ⟨r1, r2, r3, y, r4, r5, r6, r7, r8, r9⟩ := R
  obtain ⟨x1, x2, x3, x4, x5, x6, x7, x8, x9, x10⟩ := W
  refine ⟨by rw [x2]; exact r1, by omega, r3, y, by rw [x5]; exact r4, by omega, by rw [x2]; exact r6, by rw [x3]; exact r7, ?_, ?_⟩
  · rcases r9 with r9 | r9
    · rw [r9]; exact Cg.nil
    · rw [x10 y (by have := r9.1; omega)]; exact r8
  · rcases r9 with r9 | ⟨z1, z2, z3, z4⟩
    · exact Or.inl r9
    · exact Or.inr ⟨z1, by omega, by rw [x2]; exact z3, by rw [x2]; exact z4⟩
theorem MsC.wo {x m : Nat} {h h' : Hp} {V : MV} (M : MsC x h m V) (W : Wo (x + 46) h h') : MsC x h' m V := by
  obtain ⟨m1, m2, m3, ⟨t1, p1, q1⟩, ⟨t2, p2, q2⟩, ⟨t3, p3, q3⟩, ⟨t4, p4, q4⟩, ⟨t5, p5, q5⟩, m4, m5, m6⟩ := M
  have W' := W
  obtain ⟨x1, x2, x3, x4, x5, x6, x7, x8, x9, x10⟩ := W
  exact ⟨by rw [x2]; exact m1, m2, by omega, ⟨t1, by rw [x5]; exact p1, q1.wo W'⟩, ⟨t2, by rw [x5]; exact p2, q2.wo W'⟩, ⟨t3, by rw [x5]; exact p3, q3.wo W'⟩, ⟨t4, by rw [x5]; exact p4, q4.wo W'⟩, ⟨t5, by rw [x5]; exact p5, q5.wo W'⟩, by rw [x9 _ _ (fun e => by omega)]; exact m4, by rw [x9 _ _ (fun e => by omega)]; exact m5, by rw [x4]; exact m6⟩
theorem qc_count {x a : Nat} {h : Hp} {bs : List Nat} (R : Rw x h a bs) : C_X7_count a h = some (nn bs.length, h) := by
  obtain ⟨r1, r2, r3, y, r4, r5, r6, r7, r8, r9⟩ := R
  unfold C_X7_count
  rw [e_gR (c := 9) (k := 0) r1]
  show hLn 0 (hfr h 900 a) _ h = _
  rw [r4, e_Ln (t := 0) r6, r7]
  rfl
theorem qc_left {x m : Nat} {h : Hp} {V : MV} {tm : Int32} (M : MsC x h m V) : C_X3_left m tm h = some (lft V.2.2.2.2.2.2.2 tm (hfi h 508 m), h) := by
  have m1 := M.1
  have m6 : hfl h 507 m = V.2.2.2.2.2.2.2 := M.2.2.2.2.2.2.2.2.2.2
  unfold C_X3_left
  rw [e_gL (c := 5) (k := 7) m1, e_gI (c := 5) (k := 8) m1]
  show lq (hfl h 507 m - (tm - hfi h 508 m).toInt64) _ h = _
  rw [m6]
  unfold lq lft
  generalize V.2.2.2.2.2.2.2 - (tm - hfi h 508 m).toInt64 = y
  show (if lg_cmp y 0 ≤ 0 then rt (0 : Int64) else rt y) h = _
  by_cases hy : y ≤ 0
  · rw [if_pos (by rw [cmp_le]; exact hy), if_pos hy]; rfl
  · rw [if_neg (by rw [cmp_le]; exact hy), if_neg hy]; rfl
theorem cfirst : ∀ ag, ag ≤ 1 → ∀ q, q ≤ 2 → ∀ fl, fl ≤ 1 → ((((48 : Int32) ||| (if nn ag = 0 then 0 else 8)) ||| (nn q <<< ((1 : Int32) &&& 31))) ||| (if nn fl = 0 then 0 else 1)) = nn (48 + 8 * ag + 2 * q + fl) := by decide +kernel
/-- a delivery as it is sent: its message, quality, retain, identifier, number -/
def DlC (x : Nat) (h : Hp) (d m q fl id num : Nat) : Prop := hkd h d = 4 ∧ hfr h 300 d = some m ∧ hfi h 301 d = nn q ∧ hfi h 302 d = nn fl ∧ hfi h 303 d = nn id ∧ (q ≠ 0 → hfi h 304 d = nn num) ∧ d ≠ x + 46
theorem DlC.wo {x d m q fl id num : Nat} {h h' : Hp} (D : DlC x h d m q fl id num) (W : Wo (x + 46) h h') : DlC x h' d m q fl id num := by
  obtain ⟨d1, d2, d3, d4, d5, d6, d7⟩ := D
  obtain ⟨x1, x2, x3, x4, x5, x6, x7, x8, x9, x10⟩ := W
  exact ⟨by rw [x2]; exact d1, by rw [x5]; exact d2, by rw [x9 _ _ (fun e => absurd e d7)]; exact d3, by rw [x9 _ _ (fun e => absurd e d7)]; exact d4, by rw [x9 _ _ (fun e => absurd e d7)]; exact d5, fun hq => by rw [x9 _ _ (fun e => absurd e d7)]; exact d6 hq, d7⟩
section CPB
variable {x d m q fl id num ag : Nat} {h : Hp} {V : MV} {Q : Unit → Hp → Prop} {f : Int32} {tm : Int32}
theorem qc_J214' {bs : List Nat} (H : WR (x + 46) h f bs) (M : MsC x h m V) (hl : bs.length + V.2.2.2.2.1.length + V.2.1.length ≤ 600)
    (kk : ∀ h', WR (x + 46) h' f (bs ++ (V.2.2.2.2.1 ++ V.2.1)) → Wo (x + 46) h h' → Q () h') : wp (C_X10_publish_J214 (x + 46) (some m)) h Q := by
  have m1 := M.1
  obtain ⟨t5, p5, q5⟩ := M.2.2.2.2.2.2.2.1
  obtain ⟨t2, p2, q2⟩ := M.2.2.2.2.1
  unfold C_X10_publish_J214
  rw [wp_gR m1]
  show wp (hCv 12 (some (x + 46)) (fun a => C_X10_raw a (hfr h 506 m)) _) h Q
  rw [p5, wp_Cv H.1.1]
  refine (qc_raw H q5 (by omega)).mono (fun _ h1 z1 => ?_)
  have M1 := M.wo z1.2
  rw [wp_gR M1.1]
  show wp (hCv 12 (some (x + 46)) (fun a => C_X10_raw a (hfr h1 501 m)) _) h1 Q
  have p2' : hfr h1 501 m = some t2 := by rw [z1.2.2.2.2.2.1]; exact p2
  rw [p2', wp_Cv z1.1.1.1]
  refine (qc_raw z1.1 (q2.wo z1.2) (by rw [List.length_append]; omega)).mono (fun _ h2 z2 => ?_)
  rw [wp_rt]
  refine kk h2 ?_ (z1.2.tr z2.2)
  rw [← List.append_assoc]
  exact z2.1
theorem qc_J186' {bs : List Nat} {sz : Nat} (H : WR (x + 46) h f bs) (D : DlC x h d m q fl id num) (M : MsC x h m V) (hV : Vok V) (hid : id < 268435456) (hs : sz = if id = 0 then 0 else 1 + wd id) (hl2 : bs.length + V.2.2.2.1.length + 5 + V.2.2.2.2.1.length + V.2.1.length ≤ 600)
    (kk : ∀ h', WR (x + 46) h' f (bs ++ (V.2.2.2.1 ++ ((if id = 0 then [] else 11 :: vb 4 id) ++ (V.2.2.2.2.1 ++ V.2.1)))) → Wo (x + 46) h h' → Q () h') : wp (C_X10_publish_J186 (x + 46) (some d) (some m) (nn sz)) h Q := by
  have hV2 := hV.2.1
  have hwd := wd_le id
  obtain ⟨t4, p4, q4⟩ := M.2.2.2.2.2.2.1
  unfold C_X10_publish_J186
  rw [wp_gR M.1]
  show wp (hCv 12 (some (x + 46)) (fun a => C_X10_raw a (hfr h 505 m)) _) h Q
  rw [p4, wp_Cv H.1.1]
  refine (qc_raw H q4 (by omega)).mono (fun _ h1 z1 => ?_)
  have M1 := M.wo z1.2
  have D1 := D.wo z1.2
  by_cases hi : id = 0
  · rw [if_pos hi] at hs
    rw [wp_pos (by rw [hs]; decide)]
    refine qc_J214' z1.1 M1 (by simp only [List.length_append]; omega) (fun h2 z2 w2 => kk h2 ?_ (z1.2.tr w2))
    rw [if_pos hi]
    simp only [List.append_assoc, List.nil_append] at z2 ⊢
    exact z2
  · rw [if_neg hi] at hs
    rw [wp_neg (by rw [show (0 : Int32) = nn 0 from rfl, nn_le (by omega) (by omega)]; omega), wp_Cv z1.1.1.1]
    refine (qc_one z1.1 (by rw [List.length_append]; omega)).mono (fun _ h2 z2 => ?_)
    have D2 := D1.wo z2.2
    rw [wp_gI D2.1]
    show wp (hCv 12 (some (x + 46)) (fun a => C_X10_variable a (hfi h2 303 d)) _) h2 Q
    rw [D2.2.2.2.2.1, wp_Cv z2.1.1.1]
    have hvb := vb_len 4 id
    refine (qc_var z2.1 hid (by simp only [List.length_append, List.length_cons, List.length_nil]; omega)).mono (fun _ h3 z3 => ?_)
    have e11 : lo8 (11 : Int32) = 11 := by decide
    have z3' := z3.1
    rw [e11] at z3'
    refine qc_J214' z3' (M1.wo (z2.2.tr z3.2)) (by simp only [List.length_append, List.length_cons, List.length_nil]; omega) (fun h4 z4 w4 => kk h4 ?_ (((z1.2.tr z2.2).tr z3.2).tr w4))
    rw [if_neg hi]
    simp only [List.append_assoc, List.nil_append, List.cons_append] at z4 ⊢
    exact z4
theorem qc_J119 {bs : List Nat} {lf sz : Nat} (H : WR (x + 46) h f bs) (D : DlC x h d m q fl id num) (M : MsC x h m V) (hV : Vok V) (hl : bs.length ≤ 80) (hid : id < 268435456) (hs : sz = if id = 0 then 0 else 1 + wd id) (hlf : lf = if V.2.2.2.2.2.2.2 = -1 then 0 else 5)
    (kk : ∀ h', WR (x + 46) h' f (bs ++ (vb 4 (plen V id) ++ pubC V id (lft V.2.2.2.2.2.2.2 tm (hfi h 508 m)))) → Wo (x + 46) h h' → Q () h') : wp (C_X10_publish_J119 (x + 46) (some d) tm (some m) (nn lf) (nn sz)) h Q := by
  have hV2 := hV.2.1
  have hp := plen_le hV id
  have hvl := vb_len 4 (plen V id)
  obtain ⟨t3, p3, q3⟩ := M.2.2.2.2.2.1
  obtain ⟨t4, p4, q4⟩ := M.2.2.2.2.2.2.1
  obtain ⟨t5, p5, q5⟩ := M.2.2.2.2.2.2.2.1
  have hne : m ≠ x + 46 := by have := M.2.1; omega
  unfold C_X10_publish_J119
  rw [wp_gR M.1]
  show wp (hCv 9 (hfr h 504 m) _ _) h Q
  rw [p3, wp_Cv q3.1]
  refine wp.get (qc_count q3) ?_
  rw [wp_gR M.1]
  show wp (hCv 9 (hfr h 505 m) _ _) h Q
  rw [p4, wp_Cv q4.1]
  refine wp.get (qc_count q4) ?_
  rw [wp_gR M.1]
  show wp (hCv 9 (hfr h 506 m) _ _) h Q
  rw [p5, wp_Cv q5.1]
  refine wp.get (qc_count q5) ?_
  have epl : V.2.2.1.length + lf + V.2.2.2.1.length + sz + V.2.2.2.2.1.length = plen V id := by unfold plen; rw [hs, hlf]
  rw [nn_add, nn_add, nn_add, nn_add, epl, wp_Cv H.1.1]
  refine (qc_var H (by omega) (by omega)).mono (fun _ h1 z1 => ?_)
  have M1 := M.wo z1.2
  have p3' : hfr h1 504 m = some t3 := by rw [z1.2.2.2.2.2.1]; exact p3
  rw [wp_gR M1.1]
  show wp (hCv 12 (some (x + 46)) (fun a => C_X10_raw a (hfr h1 504 m)) _) h1 Q
  rw [p3', wp_Cv z1.1.1.1]
  refine (qc_raw z1.1 (q3.wo z1.2) (by rw [List.length_append]; omega)).mono (fun _ h2 z2 => ?_)
  have W2 := z1.2.tr z2.2
  have M2 := M.wo W2
  by_cases hlm : V.2.2.2.2.2.2.2 = -1
  · rw [if_pos hlm] at hlf
    rw [wp_pos (by rw [hlf]; decide)]
    have hb3 : V.2.2.1.length ≤ 2 ∨ True := Or.inr trivial
    refine qc_J186' z2.1 (D.wo W2) M2 hV hid hs (by simp only [List.length_append]; omega) (fun h3 z3 w3 => kk h3 ?_ (W2.tr w3))
    unfold pubC
    rw [if_pos hlm]
    simp only [List.append_assoc, List.nil_append] at z3 ⊢
    exact z3
  · rw [if_neg hlm] at hlf
    rw [wp_neg (by rw [hlf, show (0 : Int32) = nn 0 from rfl, nn_le (by omega) (by omega)]; omega), wp_Cv z2.1.1.1]
    refine (qc_one z2.1 (by simp only [List.length_append]; omega)).mono (fun _ h3 z3 => ?_)
    have W3 := W2.tr z3.2
    have M3 := M.wo W3
    rw [wp_Cv M3.1]
    refine wp.get (qc_left M3) ?_
    have e508 : hfi h3 508 m = hfi h 508 m := W3.2.2.2.2.2.2.2.2.1 508 m (fun e => absurd e hne)
    rw [wp_Cv z3.1.1.1, e508]
    refine (qc_four z3.1 (by simp only [List.length_append, List.length_cons, List.length_nil]; omega)).mono (fun _ h4 z4 => ?_)
    have W4 := W3.tr z4.2
    refine qc_J186' z4.1 (D.wo W4) (M.wo W4) hV hid hs (by simp only [List.length_append, List.length_cons, List.length_nil, f4_len]; omega) (fun h5 z5 w5 => kk h5 ?_ (W4.tr w5))
    have e2 : lo8 (2 : Int32) = 2 := by decide
    unfold pubC
    rw [if_neg hlm]
    rw [e2] at z5
    simp only [List.append_assoc, List.nil_append, List.cons_append] at z5 ⊢
    exact z5
theorem qc_pub {bs0 : List Nat} (H : WR (x + 46) h f bs0) (D : DlC x h d m q fl id num) (M : MsC x h m V) (hV : Vok V) (hid : id < 268435456) (hnum : num < 65536) (hq : q ≤ 2) (hf : fl ≤ 1) (ha : ag ≤ 1) : wp (C_X10_publish (x + 46) (some d) (nn ag) tm) h (fun _ h' => WR (x + 46) h' (nn (48 + 8 * ag + 2 * q + fl)) (pubB V q num id (lft V.2.2.2.2.2.2.2 tm (hfi h 508 m))) ∧ Wo (x + 46) h h') := by
  refine wp.abs (fun Q hQ => ?_)
  have hv1 := hV.1
  have hne : m ≠ x + 46 := by have := M.2.1; omega
  obtain ⟨t1, p1, q1⟩ := M.2.2.2.1
  have J39 : ∀ s1 s2 : Int32, s1 ||| s2 = nn (48 + 8 * ag + 2 * q + fl) → wp (C_X10_publish_J39 (x + 46) (some d) tm (some m) (some (x + 46)) s1 s2) h Q := by
    intro s1 s2 es
    unfold C_X10_publish_J39
    rw [es, wp_Cv H.1.1]
    refine (qc_wbegin H).mono (fun _ h1 z1 => ?_)
    have M1 := M.wo z1.2
    have p1' : hfr h1 500 m = some t1 := by rw [z1.2.2.2.2.2.1]; exact p1
    rw [wp_gR M1.1]
    show wp (hCv 9 (hfr h1 500 m) _ _) h1 Q
    rw [p1', wp_Cv (q1.wo z1.2).1]
    refine wp.get (qc_count (q1.wo z1.2)) ?_
    rw [wp_Cv z1.1.1.1]
    refine (qc_two z1.1 (by omega) (by simp)).mono (fun _ h2 z2 => ?_)
    have W2 := z1.2.tr z2.2
    have M2 := M.wo W2
    have p1'' : hfr h2 500 m = some t1 := by rw [W2.2.2.2.2.1]; exact p1
    rw [wp_gR M2.1]
    show wp (hCv 12 (some (x + 46)) (fun a => C_X10_raw a (hfr h2 500 m)) _) h2 Q
    rw [p1'', wp_Cv z2.1.1.1]
    refine (qc_raw z2.1 (q1.wo W2) (by simp; omega)).mono (fun _ h3 z3 => ?_)
    have W3 := W2.tr z3.2
    have D3 := D.wo W3
    have fin : ∀ (h4 : Hp) (ts : List Nat), ts = (if q = 0 then [] else [num / 256, num % 256]) → Wo (x + 46) h h4 → WR (x + 46) h4 (nn (48 + 8 * ag + 2 * q + fl)) ([] ++ [V.1.length / 256, V.1.length % 256] ++ V.1 ++ ts) → wp (C_X10_publish_J79 (x + 46) (some d) tm (some m)) h4 Q := by
      intro h4 ts et W4 z4
      have htl : ts.length ≤ 2 := by rw [et]; split <;> simp
      have M4 := M.wo W4
      have D4 := D.wo W4
      have e508 : hfi h4 508 m = hfi h 508 m := W4.2.2.2.2.2.2.2.2.1 508 m (fun e => absurd e hne)
      have m6 : hfl h4 507 m = V.2.2.2.2.2.2.2 := M4.2.2.2.2.2.2.2.2.2.2
      have done : ∀ (lf sz : Nat), sz = (if id = 0 then 0 else 1 + wd id) → lf = (if V.2.2.2.2.2.2.2 = -1 then 0 else 5) → wp (C_X10_publish_J119 (x + 46) (some d) tm (some m) (nn lf) (nn sz)) h4 Q := by
        intro lf sz hs hlf
        refine qc_J119 z4 D4 M4 hV (by simp only [List.length_append, List.length_cons, List.length_nil]; omega) hid hs hlf (fun h5 z5 w5 => hQ () h5 ⟨?_, W4.tr w5⟩)
        rw [e508] at z5
        have e : pubB V q num id (lft V.2.2.2.2.2.2.2 tm (hfi h 508 m)) = [] ++ [V.1.length / 256, V.1.length % 256] ++ V.1 ++ ts ++ (vb 4 (plen V id) ++ pubC V id (lft V.2.2.2.2.2.2.2 tm (hfi h 508 m))) := by
          unfold pubB pubC
          rw [et]
          simp only [List.append_assoc, List.cons_append, List.nil_append]
        rw [e]
        exact z5
      have J96 : ∀ lf : Nat, lf = (if V.2.2.2.2.2.2.2 = -1 then 0 else 5) → wp (C_X10_publish_J96 (x + 46) (some d) tm (some m) (nn lf)) h4 Q := by
        intro lf hlf
        unfold C_X10_publish_J96
        rw [wp_gI D4.1]
        show wp (if hfi h4 303 d = 0 then _ else _) h4 Q
        rw [D4.2.2.2.2.1]
        by_cases hi : id = 0
        · rw [wp_pos (by rw [hi]; rfl)]
          exact done lf 0 (by rw [if_pos hi]) hlf
        · rw [wp_neg (show ¬ nn id = (0 : Int32) from fun e => hi (nn_inj (by omega) (by omega) e)), wp_gI D4.1]
          show wp (hCv 12 (some (x + 46)) (fun a => C_X10_width a (hfi h4 303 d)) _) h4 Q
          rw [D4.2.2.2.2.1, wp_Cv z4.1.1]
          refine wp.get (qc_width (by omega)) ?_
          rw [l_1, nn_add]
          exact done lf _ (by rw [if_neg hi]) hlf
      unfold C_X10_publish_J79
      rw [wp_gL M4.1]
      show wp (if lg_cmp (hfl h4 507 m) (-1) = 0 then _ else _) h4 Q
      rw [m6]
      by_cases hlm : V.2.2.2.2.2.2.2 = -1
      · rw [wp_pos (cmp_eq.mpr hlm)]
        exact J96 0 (by rw [if_pos hlm])
      · rw [wp_neg (fun z => hlm (cmp_eq.mp z))]
        exact J96 5 (by rw [if_neg hlm])
    rw [wp_gI D3.1]
    show wp (if hfi h3 301 d ≤ 0 then _ else _) h3 Q
    rw [D3.2.2.1]
    by_cases h0 : q = 0
    · rw [wp_pos (by rw [h0]; decide)]
      exact fin h3 [] (by rw [if_pos h0]) W3 (by rw [List.append_nil]; exact z3.1)
    · rw [wp_neg (by rw [show (0 : Int32) = nn 0 from rfl, nn_le (by omega) (by omega)]; omega), wp_gI D3.1]
      show wp (hCv 12 (some (x + 46)) (fun a => C_X10_two a (hfi h3 304 d)) _) h3 Q
      rw [D3.2.2.2.2.2.1 h0, wp_Cv z3.1.1.1]
      refine (qc_two z3.1 hnum (by simp; omega)).mono (fun _ h4 z4 => ?_)
      exact fin h4 [num / 256, num % 256] (by rw [if_neg h0]) (W3.tr z4.2) z4.1
  have J19 : ∀ s2 : Int32, s2 = (if nn ag = 0 then 0 else 8) → wp (C_X10_publish_J19 (x + 46) (some d) tm (some m) (some (x + 46)) 48 s2) h Q := by
    intro s2 e2
    have cf := cfirst ag ha q hq fl hf
    rw [← e2] at cf
    unfold C_X10_publish_J19
    rw [wp_gI D.1, wp_gI D.1]
    show wp (if hfi h 302 d = 0 then C_X10_publish_J39 (x + 46) (some d) tm (some m) (some (x + 46)) ((48 ||| s2) ||| (hfi h 301 d <<< ((1 : Int32) &&& 31))) 0 else C_X10_publish_J39 (x + 46) (some d) tm (some m) (some (x + 46)) ((48 ||| s2) ||| (hfi h 301 d <<< ((1 : Int32) &&& 31))) 1) h Q
    rw [D.2.2.1, D.2.2.2.1]
    by_cases hr : nn fl = 0
    · rw [wp_pos hr]
      rw [if_pos hr] at cf
      exact J39 _ _ cf
    · rw [wp_neg hr]
      rw [if_neg hr] at cf
      exact J39 _ _ cf
  unfold C_X10_publish
  rw [wp_gR D.1]
  show wp (if nn ag = 0 then C_X10_publish_J19 (x + 46) (some d) tm (hfr h 300 d) (some (x + 46)) 48 0 else C_X10_publish_J19 (x + 46) (some d) tm (hfr h 300 d) (some (x + 46)) 48 8) h Q
  rw [D.2.1]
  by_cases hg : nn ag = 0
  · rw [wp_pos hg]
    exact J19 0 (by rw [if_pos hg])
  · rw [wp_neg hg]
    exact J19 8 (by rw [if_neg hg])
end CPB
