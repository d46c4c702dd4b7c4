/-! ===== CONNECT: the greeting, read by both: from its end ===== -/
section GRD
variable {x i p L f n s b M k fl ka oi ni q : Nat} {e0 : Int32} {h h' h0 : Hp} {r r' r0 : RS} {bs U : List Nat} {l6 l9 : Int64} {l8 l3 l4 l14 l15 l16 l17 l11 : Int32}
variable {α β : Type} {Kc : Hp → Option (α × Hp)} {Km : RS → Option (β × RS)} {Φ : α → Hp → β → RS → Prop}
/-- what the greeting holds -/
def GrE (x : Nat) (h : Hp) (fl ka : Nat) (l6 : Int64) (l8 : Int32) (l9 : Int64) : Prop := hfi h 401 (x + 48) = (if fl / 2 % 2 = 0 then 0 else 1) ∧ (hfi h 402 (x + 48) = nn ka ∧ ka < 65536) ∧ (hfl h 403 (x + 48) = l6 ∧ ∃ e, e ≤ 4294967295 ∧ l6 = n6 e) ∧ (hfi h 404 (x + 48) = l8 ∧ ∃ k, 1 ≤ k ∧ k ≤ 65535 ∧ l8 = nn k) ∧ ((hfl h 405 (x + 48) = -1 ∧ l9 = 9223372036854775807) ∨ ∃ z, 1 ≤ z ∧ z ≤ 4294967295 ∧ hfl h 405 (x + 48) = n6 z ∧ l9 = n6 z)
def GrD (x : Nat) (bs : List Nat) (h : Hp) (fl ka oi ni : Nat) (l6 : Int64) (l8 : Int32) (l9 : Int64) : Prop :=
  (∃ a, hfr h 400 (x + 48) = some a ∧ Rw x h a (sl bs oi ni)) ∧ oi + ni ≤ bs.length ∧ GrE x h fl ka l6 l8 l9
theorem GrE.fm {F : List Nat} {A : Nat → Prop} (c : GrE x h fl ka l6 l8 l9) (T : Stat x h) (p : Fm x F A h h') (hF : ∀ f ∈ [401, 402, 403, 404, 405], f ∉ F) : GrE x h' fl ka l6 l8 l9 := by
  have hx := T.1
  unfold GrE
  rw [p.gi (hF 401 (by decide)) (by omega), p.gi (hF 402 (by decide)) (by omega), p.gl (hF 403 (by decide)) (by omega), p.gi (hF 404 (by decide)) (by omega), p.gl (hF 405 (by decide)) (by omega)]
  exact c
/-- its will -/
def GrW (x i : Nat) (bs : List Nat) (n0 : Nat) (h : Hp) (r : RS) (fl : Nat) (l3 l4 l14 l15 l16 l17 : Int32) : Prop :=
  (l3 = 0 ∧ hfr h 406 (x + 48) = none) ∨ (l3 = 1 ∧ ∃ M U m ot nt op np q, Pp x i bs M U h r ∧ l4 = nn q ∧ l14 = nn (410 * i + ot) ∧ l15 = nn nt ∧ l16 = nn (410 * i + op) ∧ l17 = nn np ∧ ot + nt ≤ bs.length ∧ op + np ≤ bs.length ∧ 1 ≤ nt ∧ nt ≤ 64 ∧ Tot x h M + U.length + np ≤ 400 ∧ q ≤ 2 ∧ hfr h 406 (x + 48) = some m ∧ n0 ≤ m ∧ MsC x h m (sl bs ot nt, sl bs op np, rwK x bs M h 1, rwK x bs M h 3 ++ (rwK x bs M h 8 ++ rwK x bs M h 9), U, q, fl / 32 % 2, lifeK M r) ∧ hfl h 407 (x + 48) = (if M.testBit 24 = true then r.2.2 83 24 else 0) ∧ (M.testBit 24 = true → ∃ n, n ≤ 4294967295 ∧ r.2.2 83 24 = n6 n))
theorem GrD.fm {F : List Nat} {A : Nat → Prop} (c : GrD x bs h fl ka oi ni l6 l8 l9) (T : Stat x h) (p : Fm x F A h h') (hF : ∀ f ∈ [400, 401, 402, 403, 404, 405], f ∉ F) : GrD x bs h' fl ka oi ni l6 l8 l9 := by
  have hx := T.1
  obtain ⟨⟨a, a1, a2⟩, c1, c2⟩ := c
  exact ⟨⟨a, by rw [p.gr (hF 400 (by decide)) (by omega)]; exact a1, a2.stp p.1⟩, c1, c2.fm T p (fun f hf => hF f (by simp only [List.mem_cons, List.not_mem_nil, or_false] at hf ⊢; omega))⟩
theorem GrW.fm {F S : List Nat} {A : Nat → Prop} {n0 : Nat} (c : GrW x i bs n0 h r fl l3 l4 l14 l15 l16 l17) (T : Stat x h) (p : Fm x F A h h') (w : Ro S r r') (hF : ∀ f ∈ [406, 407, 600, 605, 606, 607], f ∉ F) (hA : ∀ a, x + 41 ≤ a → a ≤ x + 44 → ¬ A a) (hS : ∀ k ∈ [82, 83, 84, 85, 86, 87], k ∉ S) : GrW x i bs n0 h' r' fl l3 l4 l14 l15 l16 l17 := by
  have hx := T.1
  rcases c with ⟨c1, c2⟩ | ⟨c1, M, U, m, ot, nt, op, np, q, P, d1, d2, d3, d4, d5, d6, d7, d8, d9, d10, d11, d12, d12n, d13, d14, d15⟩
  · exact Or.inl ⟨c1, by rw [p.gr (hF 406 (by decide)) (by omega)]; exact c2⟩
  · obtain ⟨P', t⟩ := P.fm T p w (fun f hf => hF f (by simp only [List.mem_cons, List.not_mem_nil, or_false] at hf ⊢; omega)) hA hS
    have eL : lifeK M r' = lifeK M r := by
      unfold lifeK
      rw [w.gL (hS 83 (by decide))]
    refine Or.inr ⟨c1, M, U, m, ot, nt, op, np, q, P', d1, d2, d3, d4, d5, d6, d7, d8, d9, by rw [t]; exact d10, d11, by rw [p.gr (hF 406 (by decide)) (by omega)]; exact d12, d12n, ?_, by rw [p.gl (hF 407 (by decide)) (by omega), w.gL (hS 83 (by decide))]; exact d14, by rw [w.gL (hS 83 (by decide))]; exact d15⟩
    rw [rwK.fm p T (hA _ (by omega) (by omega)) (hA _ (by omega) (by omega)), rwK.fm p T (hA _ (by omega) (by omega)) (hA _ (by omega) (by omega)), rwK.fm p T (hA _ (by omega) (by omega)) (hA _ (by omega) (by omega)), rwK.fm p T (hA _ (by omega) (by omega)) (hA _ (by omega) (by omega)), eL]
    exact d13.sto p.1
/-- the greeting is good: go on -/
def GrOk (x i : Nat) (bs : List Nat) (h0 : Hp) (r0 : RS) (Kc : Hp → Option (α × Hp)) (Km : RS → Option (β × RS)) (Φ : α → Hp → β → RS → Prop) (fl : Nat) : Prop := ∀ (h : Hp) (r : RS) (ka oi ni : Nat) (l6 : Int64) (l8 : Int32) (l9 : Int64) (l3 l4 l14 l15 l16 l17 : Int32), Sg x (bs.length + 7) (bs.length + 420) h0 h r0 r → Rd x i bs bs.length bs.length 0 h r → GrD x bs h fl ka oi ni l6 l8 l9 → GrW x i bs (hnx h0) h r fl l3 l4 l14 l15 l16 l17 → ni ≤ 20 → hkd h (hnx h - 1) ≠ 108 → Sim Kc h (bd (R_connect_J723 (nn fl) l3 l4 (nn ka) l6 l8 l9 (nn (410 * i + oi)) (nn ni) l14 l15 l16 l17) fun _ => Km) r Φ
/-- it is not -/
def GrNo (x : Nat) (c e : Nat) (h0 : Hp) (r0 : RS) (Kc : Hp → Option (α × Hp)) (Km : RS → Option (β × RS)) (Φ : α → Hp → β → RS → Prop) : Prop := ∀ (h : Hp) (r : RS) (f : Nat), f ≠ 0 → f < 256 → 129 ≤ f → Sg x c e h0 h r0 r → hfi h 704 (x + 37) = nn f → r.1 79 = nn f → Sim Kc h Km r Φ
theorem gr_no {c e c' e' : Nat} {Pc : Hp → Option (Unit × Hp)} {Pm' : RS → Option (Unit × RS)} (N : GrNo x c e h0 r0 Kc Km Φ) (hf : f ≠ 0) (D : Rd x i bs p L f h r) (s : Sg x c' e' h0 h r0 r) (l1 : c' ≤ c) (l2 : e' ≤ e) (hc : ∃ h', Pc h = some ((), h') ∧ Sg x 0 0 h h' r r ∧ Fa x f h') (hm : Pm' r = some ((), r)) : Sim (bd Pc fun _ => Kc) h (bd Pm' fun _ => Km) r Φ := by
  have hf2 := D.2.2.1.2.2.2.2.1
  obtain ⟨h1, e1, s1, F1⟩ := hc
  rw [Sim_l (e_bd e1), Sim_r (e_bd hm)]
  exact N h1 r f hf hf2.1 (by omega) ((s.tr s1).le (by omega) (by omega)) F1.1 D.2.1.2.2.1
theorem gr266 {c : Nat} (ok : GrOk x i bs h0 r0 Kc Km Φ fl) (no : GrNo x (bs.length + 7) (bs.length + 420) h0 r0 Kc Km Φ) (T : Stat x h) (s : Sg x (bs.length + 7) (bs.length + 420) h0 h r0 r) (D : Rd x i bs bs.length bs.length 0 h r) (K : hkd h (hnx h - 1) ≠ 108) (G : GrD x bs h fl ka oi ni l6 l8 l9) (W : GrW x i bs (hnx h0) h r fl l3 l4 l14 l15 l16 l17) :
    Sim (bd (C_X2_read_J266 (x + 48) (some (x + 37))) fun _ => Kc) h (bd (R_connect_J702 (nn fl) l3 l4 (nn ka) l6 l8 l9 (nn (410 * i + oi)) (nn ni) l14 l15 l16 l17) fun _ => Km) r Φ := by
  obtain ⟨⟨a, a1, a2⟩, g2, _⟩ := id G
  have z79 : r.1 79 = 0 := D.2.1.2.2.1
  have hbl := D.2.2.1.2.2.1
  have a1' : hfr h (100 * 4 + 0) (x + 48) = some a := a1
  have ll : (sl bs oi ni).length = ni := sl_len g2
  have e1 : C_X2_read_J266 (x + 48) (some (x + 37)) h = (if nn ni ≤ (20 : Int32) then (rt ()) else (hCv 7 (some (x + 37)) (fun a => C_X5_fail a (133 : Int32)) fun _ => rt ())) h := by
    unfold C_X2_read_J266
    rw [e_gR T.gr.2, a1', e_Cv (c := 9) a2.1, e_bd (qc_count a2), ll]
  have m1 : R_connect_J702 (nn fl) l3 l4 (nn ka) l6 l8 l9 (nn (410 * i + oi)) (nn ni) l14 l15 l16 l17 r = (if nn ni ≤ (20 : Int32) then (R_connect_J723 (nn fl) l3 l4 (nn ka) l6 l8 l9 (nn (410 * i + oi)) (nn ni) l14 l15 l16 l17) else (bd (R_fails (133 : Int32)) fun _ => R_connect_J723 (nn fl) l3 l4 (nn ka) l6 l8 l9 (nn (410 * i + oi)) (nn ni) l14 l15 l16 l17)) r := by
    unfold R_connect_J702
    rw [x_rI, z79, if_pos rfl]
  rw [Sim_l (bd_l e1), Sim_r (bd_l m1)]
  by_cases z : ni ≤ 20
  · have z' : nn ni ≤ (20 : Int32) := by rw [show (20 : Int32) = nn 20 from rfl, nn_le (by omega) (by omega)]; exact z
    rw [if_pos z', if_pos z', Sim_l (e_bd (show rt () h = some ((), h) from rfl))]
    exact ok h r ka oi ni l6 l8 l9 l3 l4 l14 l15 l16 l17 s D G W z K
  · have z' : ¬ nn ni ≤ (20 : Int32) := by rw [show (20 : Int32) = nn 20 from rfl, nn_le (by omega) (by omega)]; exact z
    have D1 := D.fl (v := 133) (by omega) (by omega)
    have s1 := s.tr (Sc.fl (x := x) (h := h) (r := r) (v := nn 133) (w := nn 133)).sg
    have e2 : (if nn ni ≤ (20 : Int32) then (rt ()) else (hCv 7 (some (x + 37)) (fun a => C_X5_fail a (133 : Int32)) fun _ => rt ())) h = some ((), sfi h 704 (x + 37) (nn 133)) := by
      rw [if_neg z', e_Cv T.rd, e_bd (qc_fail T D.1.2.2.1)]
      rfl
    have m2 : (if nn ni ≤ (20 : Int32) then (R_connect_J723 (nn fl) l3 l4 (nn ka) l6 l8 l9 (nn (410 * i + oi)) (nn ni) l14 l15 l16 l17) else (bd (R_fails (133 : Int32)) fun _ => R_connect_J723 (nn fl) l3 l4 (nn ka) l6 l8 l9 (nn (410 * i + oi)) (nn ni) l14 l15 l16 l17)) r = some ((), sI r 79 (nn 133)) := by
      rw [if_neg z', e_bd (qm_fails z79)]
      exact mc723_f (f := 133) (by rw [sI_1, if_pos rfl]; rfl) (by omega) (by omega)
    rw [Sim_l (e_bd e2), Sim_r (e_bd m2)]
    exact no _ _ 133 (by omega) (by omega) (by omega) s1 D1.1.2.2.1 D1.2.1.2.2.1
/-- nothing is left over; no method is asked for -/
theorem gr250 {d : Nat} (hd : d ≤ 7) (ok : GrOk x i bs h0 r0 Kc Km Φ fl) (no : GrNo x (bs.length + 7) (bs.length + 420) h0 r0 Kc Km Φ) (T : Stat x h) (s : Sg x (p + d) (p + 60 * d) h0 h r0 r) (D : Rd x i bs p bs.length 0 h r) (K : hkd h (hnx h - 1) ≠ 108) (G : GrD x bs h fl ka oi ni l6 l8 l9) (W : GrW x i bs (hnx h0) h r fl l3 l4 l14 l15 l16 l17) :
    Sim (bd (C_X2_read_J250 (x + 48) (some (x + 37)) l11) fun _ => Kc) h (bd (R_connect_J658 (nn fl) l3 l4 (nn ka) l6 l8 l9 l11 (nn (410 * i + oi)) (nn ni) l14 l15 l16 l17) fun _ => Km) r Φ := by
  obtain ⟨⟨a, a1, a2⟩, g2, _⟩ := id G
  have hx := T.1
  have hi := D.2.2.1.1
  have z79 : r.1 79 = 0 := D.2.1.2.2.1
  have hbl := D.2.2.1.2.2.1
  have hpl := D.2.2.1.2.2.2.1
  have e76 : r.1 76 = nn (410 * i + p) := (D.2.2.2 rfl).2.1
  have e77 : r.1 77 = nn (410 * i + bs.length) := D.2.1.2.1
  have m1 : R_connect_J658 (nn fl) l3 l4 (nn ka) l6 l8 l9 l11 (nn (410 * i + oi)) (nn ni) l14 l15 l16 l17 r = (if nn (410 * i + bs.length) ≤ nn (410 * i + p) then (R_connect_J683 (nn fl) l3 l4 (nn ka) l6 l8 l9 l11 (nn (410 * i + oi)) (nn ni) l14 l15 l16 l17) else (bd (R_fails (129 : Int32)) fun _ => R_connect_J683 (nn fl) l3 l4 (nn ka) l6 l8 l9 l11 (nn (410 * i + oi)) (nn ni) l14 l15 l16 l17)) r := by
    unfold R_connect_J658
    rw [x_rI, z79, if_pos rfl, x_rI, x_rI, e76, e77]
  rw [Sim_r (bd_l m1)]
  by_cases z : p < bs.length
  · have z' : ¬ nn (410 * i + bs.length) ≤ nn (410 * i + p) := by rw [nn_le (by omega) (by omega)]; omega
    have D1 := D.fl (v := 129) (by omega) (by omega)
    have sf : Sc x 0 0 h (sfi h 704 (x + 37) (nn 129)) r (sI r 79 (nn 129)) := Sc.fl
    have s1 := s.tr sf.sg
    have T1 := sf.st T
    have a1' : hfr (sfi h 704 (x + 37) (nn 129)) 400 (x + 48) = some a := a1
    have ef := D.finish T
    rw [if_pos z] at ef
    have e1 := g250_f (l6 := l11) T1 (D1.fa (by omega)) a1' (a2.stp sf.1.1)
    have e2 : C_X2_read_J250 (x + 48) (some (x + 37)) l11 h = C_X2_read_J250 (x + 48) (some (x + 37)) l11 (sfi h 704 (x + 37) (nn 129)) := by
      unfold C_X2_read_J250
      rw [e_Cv T.rd, e_bd ef, e_Cv (by exact T.rd), e_bd (qc_finish_f T1 (D1.fa (by omega)))]
    rw [if_neg z', Sim_l (bd_l e2), Sim_l (e_bd e1), Sim_r (bd_l (e_bd (qm_fails z79))), Sim_r (e_bd (mc683_f (f := 129) (by rw [sI_1, if_pos rfl]; rfl) (by omega) (by omega)))]
    exact no _ _ 129 (by omega) (by omega) (by omega) (s1.le (by omega) (by omega)) D1.1.2.2.1 D1.2.1.2.2.1
  · have ep : p = bs.length := by omega
    subst ep
    have z' : nn (410 * i + bs.length) ≤ nn (410 * i + bs.length) := Int32.le_refl _
    have ef := D.finish T
    rw [if_neg z] at ef
    have e1 : C_X2_read_J250 (x + 48) (some (x + 37)) l11 h = (if l11 = 0 then (C_X2_read_J266 (x + 48) (some (x + 37))) else (hCv 7 (some (x + 37)) (fun a => C_X5_fail a (140 : Int32)) fun _ => C_X2_read_J266 (x + 48) (some (x + 37)))) h := by
      unfold C_X2_read_J250
      rw [e_Cv T.rd, e_bd ef]
    have m2 : R_connect_J683 (nn fl) l3 l4 (nn ka) l6 l8 l9 l11 (nn (410 * i + oi)) (nn ni) l14 l15 l16 l17 r = (if l11 = 0 then (R_connect_J702 (nn fl) l3 l4 (nn ka) l6 l8 l9 (nn (410 * i + oi)) (nn ni) l14 l15 l16 l17) else (bd (R_fails (140 : Int32)) fun _ => R_connect_J702 (nn fl) l3 l4 (nn ka) l6 l8 l9 (nn (410 * i + oi)) (nn ni) l14 l15 l16 l17)) r := by
      unfold R_connect_J683
      rw [x_rI, z79, if_pos rfl]
    rw [if_pos z', Sim_l (bd_l e1), Sim_r (bd_l m2)]
    by_cases y : l11 = 0
    · rw [if_pos y, if_pos y]
      exact gr266 (c := 0) ok no T (s.le (by omega) (by omega)) D K G W
    · have D1 := D.fl (v := 140) (by omega) (by omega)
      have sf : Sc x 0 0 h (sfi h 704 (x + 37) (nn 140)) r (sI r 79 (nn 140)) := Sc.fl
      have s1 := s.tr sf.sg
      have T1 := sf.st T
      have a1' : hfr (sfi h 704 (x + 37) (nn 140)) 400 (x + 48) = some a := a1
      have e3 : (hCv 7 (some (x + 37)) (fun a => C_X5_fail a (140 : Int32)) fun _ => C_X2_read_J266 (x + 48) (some (x + 37))) h = some ((), sfi h 704 (x + 37) (nn 140)) := by
        rw [e_Cv T.rd, e_bd (qc_fail T D.1.2.2.1)]
        exact g266_f T1 (D1.fa (by omega)) a1' (a2.stp sf.1.1)
      have m3 : (bd (R_fails (140 : Int32)) fun _ => R_connect_J702 (nn fl) l3 l4 (nn ka) l6 l8 l9 (nn (410 * i + oi)) (nn ni) l14 l15 l16 l17) r = some ((), sI r 79 (nn 140)) := by
        rw [e_bd (qm_fails z79)]
        unfold R_connect_J702
        rw [x_rI, show (sI r 79 (140 : Int32)).1 79 = nn 140 from by rw [sI_1, if_pos rfl]; rfl, if_neg (by decide)]
        exact mc723_f (f := 140) (by rw [sI_1, if_pos rfl]; rfl) (by omega) (by omega)
      rw [if_neg y, if_neg y, Sim_l (e_bd e3), Sim_r (e_bd m3)]
      exact no _ _ 140 (by omega) (by omega) (by omega) (s1.le (by omega) (by omega)) D1.1.2.2.1 D1.2.1.2.2.1
theorem and64 : ∀ fl, fl < 256 → ((nn fl &&& (64 : Int32)) = 0 ↔ fl / 64 % 2 = 0) := by decide +kernel
theorem and128 : ∀ fl, fl < 256 → ((nn fl &&& (128 : Int32)) = 0 ↔ fl / 128 % 2 = 0) := by decide +kernel
theorem gr236 {d : Nat} (hd : d ≤ 7) (ok : GrOk x i bs h0 r0 Kc Km Φ fl) (no : GrNo x (bs.length + 7) (bs.length + 420) h0 r0 Kc Km Φ) (T : Stat x h) (s : Sg x (p + d) (p + 60 * d) h0 h r0 r) (D : Rd x i bs p bs.length 0 h r) (K : hkd h (hnx h - 1) ≠ 108) (G : GrD x bs h fl ka oi ni l6 l8 l9) (W : GrW x i bs (hnx h0) h r fl l3 l4 l14 l15 l16 l17) :
    Sim (bd (C_X2_read_J236 (x + 48) (some (x + 37)) (nn fl) l11) fun _ => Kc) h (bd (R_connect_J640 (nn fl) l3 l4 (nn ka) l6 l8 l9 l11 (nn (410 * i + oi)) (nn ni) l14 l15 l16 l17) fun _ => Km) r Φ := by
  have hx := T.1
  have z79 : r.1 79 = 0 := D.2.1.2.2.1
  by_cases z : (nn fl &&& (64 : Int32)) = 0
  · have e1 : C_X2_read_J236 (x + 48) (some (x + 37)) (nn fl) l11 h = C_X2_read_J250 (x + 48) (some (x + 37)) l11 h := by
      unfold C_X2_read_J236
      rw [if_pos z]
    have m1 : R_connect_J640 (nn fl) l3 l4 (nn ka) l6 l8 l9 l11 (nn (410 * i + oi)) (nn ni) l14 l15 l16 l17 r = R_connect_J658 (nn fl) l3 l4 (nn ka) l6 l8 l9 l11 (nn (410 * i + oi)) (nn ni) l14 l15 l16 l17 r := by
      unfold R_connect_J640
      rw [if_pos z]
    rw [Sim_l (bd_l e1), Sim_r (bd_l m1)]
    exact gr250 hd ok no T s D K G W
  · have e1 : C_X2_read_J236 (x + 48) (some (x + 37)) (nn fl) l11 h = (bd (C_X5_row (x + 37) 0) fun _ => C_X2_read_J250 (x + 48) (some (x + 37)) l11) h := by
      unfold C_X2_read_J236
      rw [if_neg z, e_Cv T.rd]
    have m1 : R_connect_J640 (nn fl) l3 l4 (nn ka) l6 l8 l9 l11 (nn (410 * i + oi)) (nn ni) l14 l15 l16 l17 r = (bd R_row fun _ => R_connect_J658 (nn fl) l3 l4 (nn ka) l6 l8 l9 l11 (nn (410 * i + oi)) (nn ni) l14 l15 l16 l17) r := by
      unfold R_connect_J640
      rw [if_neg z, x_rI, z79, if_pos rfl]
    rw [Sim_l (bd_l e1), Sim_r (bd_l m1), bd_assoc, bd_assoc]
    refine Sim.seq (sim_row D T) (fun v h1 _ r1 y => ?_)
    obtain ⟨p', y1, y2, y3, y4⟩ := y
    have T1 := y1.st T
    have G1 := G.fm T y1.1 (by decide)
    have s1 := (s.tr y1.sg).le (show p + d + (p' - p) ≤ p' + d by omega) (show p + 60 * d + (p' - p) ≤ p' + 60 * d by omega)
    have W1 := W.fm T y1.1 y1.2.1 (by decide) (fun _ _ _ z => z) (by decide)
    rcases y4 with ⟨_, n1, k1, _, _, _, _, D1⟩ | ⟨_, D1⟩
    · exact gr250 hd ok no T1 s1 D1 (by rw [n1, show hnx h + 2 - 1 = hnx h + 1 by omega, k1]; decide) G1 W1
    · obtain ⟨⟨a, a1, a2⟩, _⟩ := G1
      have hpl := D1.2.2.1.2.2.2.1
      exact gr_no no (by omega) D1 s1 (by omega) (by omega) ⟨h1, g250_f T1 (D1.fa (by omega)) a1 a2, ⟨Fm.rf, Ro.rf, Nat.le_refl _, Nat.le_refl _⟩, D1.fa (by omega)⟩ (mc658_f D1.2.1.2.2.1 (by omega) (by omega))
theorem gr221 {d : Nat} (hd : d ≤ 7) (ok : GrOk x i bs h0 r0 Kc Km Φ fl) (no : GrNo x (bs.length + 7) (bs.length + 420) h0 r0 Kc Km Φ) (T : Stat x h) (s : Sg x (p + d) (p + 60 * d) h0 h r0 r) (D : Rd x i bs p bs.length 0 h r) (K : hkd h (hnx h - 1) ≠ 108) (G : GrD x bs h fl ka oi ni l6 l8 l9) (W : GrW x i bs (hnx h0) h r fl l3 l4 l14 l15 l16 l17) :
    Sim (bd (C_X2_read_J221 (x + 48) (some (x + 37)) (nn fl) l11) fun _ => Kc) h (bd (R_connect_J621 (nn fl) l3 l4 (nn ka) l6 l8 l9 l11 (nn (410 * i + oi)) (nn ni) l14 l15 l16 l17) fun _ => Km) r Φ := by
  have hx := T.1
  have z79 : r.1 79 = 0 := D.2.1.2.2.1
  by_cases z : (nn fl &&& (128 : Int32)) = 0
  · have e1 : C_X2_read_J221 (x + 48) (some (x + 37)) (nn fl) l11 h = C_X2_read_J236 (x + 48) (some (x + 37)) (nn fl) l11 h := by
      unfold C_X2_read_J221
      rw [if_pos z]
    have m1 : R_connect_J621 (nn fl) l3 l4 (nn ka) l6 l8 l9 l11 (nn (410 * i + oi)) (nn ni) l14 l15 l16 l17 r = R_connect_J640 (nn fl) l3 l4 (nn ka) l6 l8 l9 l11 (nn (410 * i + oi)) (nn ni) l14 l15 l16 l17 r := by
      unfold R_connect_J621
      rw [if_pos z]
    rw [Sim_l (bd_l e1), Sim_r (bd_l m1)]
    exact gr236 hd ok no T s D K G W
  · have e1 : C_X2_read_J221 (x + 48) (some (x + 37)) (nn fl) l11 h = (bd (C_X5_row (x + 37) 1) fun _ => C_X2_read_J236 (x + 48) (some (x + 37)) (nn fl) l11) h := by
      unfold C_X2_read_J221
      rw [if_neg z, e_Cv T.rd]
    have m1 : R_connect_J621 (nn fl) l3 l4 (nn ka) l6 l8 l9 l11 (nn (410 * i + oi)) (nn ni) l14 l15 l16 l17 r = (bd R_string fun _ => R_connect_J640 (nn fl) l3 l4 (nn ka) l6 l8 l9 l11 (nn (410 * i + oi)) (nn ni) l14 l15 l16 l17) r := by
      unfold R_connect_J621
      rw [if_neg z, x_rI, z79, if_pos rfl]
    rw [Sim_l (bd_l e1), Sim_r (bd_l m1), bd_assoc, bd_assoc]
    refine Sim.seq (sim_str D T) (fun v h1 _ r1 y => ?_)
    obtain ⟨⟨p', y1, y2, y3, y4⟩, _⟩ := y
    have T1 := y1.st T
    have G1 := G.fm T y1.1 (by decide)
    have s1 := (s.tr y1.sg).le (show p + d + (p' - p) ≤ p' + d by omega) (show p + 60 * d + (p' - p) ≤ p' + 60 * d by omega)
    have W1 := W.fm T y1.1 y1.2.1 (by decide) (fun _ _ _ z => z) (by decide)
    rcases y4 with ⟨_, n1, k1, _, _, _, _, D1⟩ | ⟨_, D1⟩
    · exact gr236 hd ok no T1 s1 D1 (by rw [n1, show hnx h + 2 - 1 = hnx h + 1 by omega, k1]; decide) G1 W1
    · obtain ⟨⟨a, a1, a2⟩, _⟩ := G1
      have hpl := D1.2.2.1.2.2.2.1
      exact gr_no no (by omega) D1 s1 (by omega) (by omega) ⟨h1, g236_f T1 (D1.fa (by omega)) a1 a2, ⟨Fm.rf, Ro.rf, Nat.le_refl _, Nat.le_refl _⟩, D1.fa (by omega)⟩ (mc640_f D1.2.1.2.2.1 (by omega) (by omega))
end GRD
