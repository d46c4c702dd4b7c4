/-! ===== the entries of a SUBSCRIBE are read, by both ===== -/
def yS : List Nat := [76, 78, 79, 80, 81, 82, 83, 84, 85, 86, 87, 92, 93, 94, 95, 96]
/-- reading, with entries noted -/
def Sy (x c e : Nat) (h h' : Hp) (r r' : RS) : Prop := Fm x vF (vA x) h h' ∧ Ro yS r r' ∧ (hcs h').1 ≤ (hcs h).1 + c ∧ (hcs h').2 ≤ (hcs h).2 + e
section CHK
variable {x i p L f n c e p0 : Nat} {e0 : Int32} {h h' h1 : Hp} {r r' r1 : RS} {bs ys : List Nat}
theorem Sy.rf : Sy x 0 0 h h r r := ⟨Fm.rf, Ro.rf, Nat.le_refl _, Nat.le_refl _⟩
theorem Sy.tr {c' e' : Nat} (p : Sy x c e h h1 r r1) (q : Sy x c' e' h1 h' r1 r') : Sy x (c + c') (e + e') h h' r r' := by
  obtain ⟨p1, p2, p3, p4⟩ := p
  obtain ⟨q1, q2, q3, q4⟩ := q
  exact ⟨p1.tr q1, p2.tr q2, by omega, by omega⟩
theorem Sy.le {c' e' : Nat} (p : Sy x c e h h1 r r1) (l1 : c ≤ c') (l2 : e ≤ e') : Sy x c' e' h h1 r r1 := ⟨p.1, p.2.1, by have := p.2.2.1; omega, by have := p.2.2.2; omega⟩
theorem Sw.sy (p : Sw x c e h h1 r r1) : Sy x c e h h1 r r1 := ⟨p.1, p.2.1.sub (by decide), p.2.2.1, p.2.2.2⟩
theorem Sy.st (p : Sy x c e h h1 r r1) (T : Stat x h) : Stat x h1 := T.sto p.1.1
theorem Sy.rel {ec es ew : Nat} (p : Sy x c e h h' r r') (R : Rel x ec es ew e0 h r) : Rel x ec es ew e0 h' r' := by
  obtain ⟨f, bs, W⟩ := R.wr
  refine R.scr (p.1.sub (by decide) (fun a ha => ?_)) (p.2.1.sub (by decide)) ⟨f, bs, W.fmx R.st p.1 (by decide) (fun z => ?_)⟩
  · rcases ha with z | z
    · exact Or.inl z
    · exact Or.inr (Or.inr z)
  · rcases z with z | z <;> omega
theorem Sy.wn (p : Sy x c e h h' r r') : WN r' ≤ WN r := p.2.1.wn (by decide) (by decide) (by decide) (by decide)
theorem Sy.kp (p : Sy x c e h h' r r') (T : Stat x h) (hi : i < 8) : Kp x i h h' r r' := Kp.of p.1 p.2.1 T hi (by decide) (fun z => by
  have : cA x i + 2 = x + 2 + 4 * i + 2 := rfl
  rcases z with z | z <;> omega) (by decide)
theorem Sy.a {k q : Nat} {v : Int32} (p : Sy x c e h h' r r') (hk : k ∈ yS) : Sy x c e h h' r (sA r' k q v) := ⟨p.1, p.2.1.a hk, p.2.2⟩
theorem Sy.hp {f len p' : Nat} (R : Rel x i 12 96 e0 h r) (s : Sy x c e h h' r r') (hi : i < 8) (D : Rd x i bs p' L f h' r') (hc : c ≤ 60 * len) (he : e ≤ 700 * len) : HP x i e0 len h r (nn f) h' r' := by
  refine ⟨s.rel R, s.kp R.st hi, ⟨f, D.2.1.2.2.1, rfl, D.2.2.1.2.2.2.2.1⟩, ?_, ?_⟩
  · have := s.2.2.1
    have := s.wn
    omega
  · have := s.2.2.2
    have := s.wn
    omega
/-- where entry e begins -/
def pz (bs : List Nat) (p0 : Nat) : Nat → Nat
  | 0 => p0
  | e + 1 => pz bs p0 e + b2 bs (pz bs p0 e) + 3
def Ent (bs : List Nat) (p : Nat) : Prop := p + 3 + b2 bs p ≤ bs.length ∧ u8c (sl bs (p + 2) (b2 bs p)) 0 128 191 = true ∧ bs.getD (p + 2 + b2 bs p) 0 < 64 ∧ bs.getD (p + 2 + b2 bs p) 0 % 4 ≤ 2
def eA (i : Nat) (bs : List Nat) (r : RS) (e p : Nat) : Prop := r.2.1 93 e = nn (410 * i + (p + 2)) ∧ r.2.1 94 e = nn (b2 bs p) ∧ r.2.1 95 e = nn (bs.getD (p + 2 + b2 bs p) 0)
theorem and192 : ∀ o, o < 256 → (nn o &&& (192 : Int32) = 0 ↔ o < 64) := by decide +kernel
theorem and48 : ∀ o, o < 256 → (nn o &&& (48 : Int32) = (48 : Int32) ↔ o / 16 % 4 = 3) := by decide +kernel
theorem sh43 : ∀ o, o < 256 → ((nn o >>> ((4 : Int32) &&& 31)) &&& (3 : Int32) = (3 : Int32) ↔ o / 16 % 4 = 3) := by decide +kernel
theorem and4b : ∀ o, o < 256 → (nn o &&& (4 : Int32) = 0 ↔ o / 4 % 2 = 0) := by decide +kernel
theorem and33 : ∀ o, o < 256 → (nn o &&& (3 : Int32) = (3 : Int32) ↔ o % 4 = 3) := by decide +kernel
theorem chkF {ke : Int32 → Hp → Option (Int32 × Hp)} {l1 l2 : Int32} (T : Stat x h) (F : Fa x f h) : C_X11_checkEntries_L4 x ke (n + 1) l1 l2 h = ke l1 h := by
  obtain ⟨k1, k2, _⟩ := T.in3
  show C_X11_checkEntries_B4 x _ ke l1 l2 h = _
  unfold C_X11_checkEntries_B4
  by_cases z : (133 : Int32) ≤ l2
  · rw [if_pos z]
  · rw [if_neg z, e_gR k1, k2, e_Cv T.rd, e_bd (qc_left_f T F), if_pos (by decide)]
theorem mchkF {ke : Int32 → Int32 → Int32 → Int32 → RS → Option (Unit × RS)} {l1 l2 l3 l4 : Int32} (hf : r.1 79 = nn f) (h1 : f ≠ 0) (h2 : f < 256) : R_subscribe_L143 ke (n + 1) l1 l2 l3 l4 r = ke l1 l2 l3 l4 r := by
  show R_subscribe_B143 _ ke l1 l2 l3 l4 r = _
  unfold R_subscribe_B143
  rw [x_rI, hf, if_neg (nn_ne0 (by omega) h1)]
/-- an entry whose reading failed -/
theorem chk58 {kb : Int32 → Int32 → Hp → Option (Int32 × Hp)} {ke : Int32 → Hp → Option (Int32 × Hp)} {l1 l2 : Int32} {l3 : Option Nat} : C_X11_checkEntries_J58 x kb ke l1 l2 l3 0 h = kb (l1 + 1) (l2 + 1) h := by
  unfold C_X11_checkEntries_J58 C_X11_checkEntries_J81
  rw [if_neg (by decide), if_neg (by decide), if_pos rfl, if_pos (by decide)]
/-- the class's look at an entry's options -/
theorem chk_opt {kb : Int32 → Int32 → Hp → Option (Int32 × Hp)} {ke : Int32 → Hp → Option (Int32 × Hp)} {l1 l2 : Int32} {t o : Nat} (T : Stat x h) (W : Rw x h t ys) (hyl : ys.length ≤ 405) (hfa : hfi h 704 (x + 37) = 0) (ho : o < 256) :
    (if nn o &&& (192 : Int32) = 0 then C_X11_checkEntries_J58 x kb ke l1 l2 (some t) (nn o) else (hgR 13 3 (some x) fun v12 => hCv 7 v12 (fun a => C_X5_fail a (129 : Int32)) fun _ => C_X11_checkEntries_J58 x kb ke l1 l2 (some t) (nn o))) h = kb (l1 + 1) (l2 + 1) (if 64 ≤ o then sfi h 704 (x + 37) (nn 129) else if o % 4 = 3 ∨ o / 16 % 4 = 3 ∨ (o / 4 % 2 = 1 ∧ pre ys = true) then sfi h 704 (x + 37) (nn 130) else h) := by
  obtain ⟨k1, k2, _⟩ := T.in3
  -- behind the first look
  have a58 : ∀ hh : Hp, Stat x hh → Rw x hh t ys → C_X11_checkEntries_J58 x kb ke l1 l2 (some t) (nn o) hh = (if o % 4 = 3 ∨ o / 16 % 4 = 3 ∨ (o / 4 % 2 = 1 ∧ pre ys = true) then C_X11_checkEntries_J106 x kb ke l1 l2 else kb (l1 + 1) (l2 + 1)) hh := by
    intro hh Th Wh
    have es := qc_shr (p := 0) Wh hyl (by omega)
    rw [List.drop_zero] at es
    unfold C_X11_checkEntries_J58 C_X11_checkEntries_J76 C_X11_checkEntries_J81
    by_cases g3 : o % 4 = 3
    · rw [if_pos ((and33 o ho).mpr g3), if_neg (by decide), if_pos (Or.inl g3)]
    · rw [if_neg (fun z => g3 ((and33 o ho).mp z))]
      by_cases g48 : o / 16 % 4 = 3
      · rw [if_pos ((and48 o ho).mpr g48), if_neg (by decide), if_pos (Or.inr (Or.inl g48))]
      · rw [if_neg (fun z => g48 ((and48 o ho).mp z)), if_pos rfl]
        by_cases g4 : o / 4 % 2 = 0
        · rw [if_pos ((and4b o ho).mpr g4), if_neg]
          rintro (z | z | z)
          · exact g3 z
          · exact g48 z
          · omega
        · rw [if_neg (fun z => g4 ((and4b o ho).mp z)), e_Cv (c := 9) Wh.1, e_bd (show C_X7_begins t (0 : Int32) 0 hh = _ from es)]
          by_cases gp : pre ys = true
          · rw [if_pos gp, if_neg (by decide), if_pos (Or.inr (Or.inr ⟨by omega, gp⟩))]
          · rw [if_neg gp, if_pos rfl, if_neg]
            rintro (z | z | z)
            · exact g3 z
            · exact g48 z
            · exact gp z.2
  have a106 : ∀ hh : Hp, Stat x hh → C_X11_checkEntries_J106 x kb ke l1 l2 hh = (bd (C_X5_fail (x + 37) (130 : Int32)) fun _ => kb (l1 + 1) (l2 + 1)) hh := by
    intro hh Th
    obtain ⟨j1, j2, _⟩ := Th.in3
    unfold C_X11_checkEntries_J106
    rw [e_gR j1, j2, e_Cv Th.rd]
  by_cases g64 : 64 ≤ o
  · rw [if_neg (fun z => by have := (and192 o ho).mp z; omega), if_pos g64, e_gR k1, k2, e_Cv T.rd, e_bd (qc_fail T hfa)]
    have F1 : Fm x [704] (fun _ => False) h (sfi h 704 (x + 37) (nn 129)) := Fm.rf.fi (Or.inl (by decide)) (Or.inl (by decide))
    have T1 : Stat x (sfi h 704 (x + 37) (nn 129)) := T.sto F1.1
    have Fa1 : Fa x 129 (sfi h 704 (x + 37) (nn 129)) := ⟨by rw [hfi_sfi, if_pos ⟨rfl, rfl⟩], by omega, by omega⟩
    show C_X11_checkEntries_J58 x kb ke l1 l2 (some t) (nn o) (sfi h 704 (x + 37) (nn 129)) = _
    rw [a58 _ T1 (W.stp F1.1)]
    split
    · rw [a106 _ T1, e_bd (qc_fail_f T1 Fa1)]
    · rfl
  · rw [if_pos ((and192 o ho).mpr (by omega)), if_neg g64, a58 h T W]
    split
    · rw [a106 h T, e_bd (qc_fail T hfa)]
      rfl
    · rfl
/-- the model's -/
theorem mchk_opt {kb : Int32 → Int32 → Int32 → Int32 → RS → Option (Unit × RS)} {ke : Int32 → Int32 → Int32 → Int32 → RS → Option (Unit × RS)} {l1 l2 l3 : Int32} {o a : Nat} (h79 : r.1 79 = 0) (h80 : r.1 80 = nn a) (h81 : r.1 81 = nn ys.length) (hM : Mg (r.2.1 6) a ys) (B : By ys) (ha : a + ys.length ≤ 3280) (ho : o < 256) (he : e < 410) :
    (rI 79 fun v24 => if v24 = 0 then (if nn o &&& (192 : Int32) = 0 then R_subscribe_J194 kb ke l1 l2 l3 (nn e) (nn o) else (bd (R_fails (129 : Int32)) fun _ => R_subscribe_J194 kb ke l1 l2 l3 (nn e) (nn o))) else R_subscribe_J194 kb ke l1 l2 l3 (nn e) (nn o)) r = (if 64 ≤ o then kb l1 l2 l3 (nn e) (sI r 79 (nn 129)) else if o % 4 = 3 ∨ o / 16 % 4 = 3 ∨ (o / 4 % 2 = 1 ∧ pre ys = true) then kb l1 l2 l3 (nn e) (sI r 79 (nn 130)) else kb l1 l2 l3 (nn (e + 1)) (sA (sA (sA r 93 e (nn a)) 94 e (nn ys.length)) 95 e (nn o))) := by
  have f251 : ∀ v, v ≠ 0 → v < 256 → R_subscribe_J251 kb ke l1 l2 l3 (nn e) (nn o) (sI r 79 (nn v)) = kb l1 l2 l3 (nn e) (sI r 79 (nn v)) := fun v h1 h2 => by
    unfold R_subscribe_J251
    rw [x_rI, sI_1, if_pos rfl, if_neg (nn_ne0 (by omega) h1)]
  have g251 : R_subscribe_J251 kb ke l1 l2 l3 (nn e) (nn o) r = kb l1 l2 l3 (nn (e + 1)) (sA (sA (sA r 93 e (nn a)) 94 e (nn ys.length)) 95 e (nn o)) := by
    unfold R_subscribe_J251
    rw [x_rI, h79, if_pos rfl, x_rI, h80, x_wA mL_93 he (by omega), x_rI, sA_1, h81, x_wA mL_94 he (by omega), x_wA mL_95 he (by omega), l_1, nn_add]
  have f244 : R_subscribe_J244 kb ke l1 l2 l3 (nn e) (nn o) r = kb l1 l2 l3 (nn e) (sI r 79 (nn 130)) := by
    unfold R_subscribe_J244
    rw [e_bd (show R_fails (130 : Int32) r = some ((), sI r 79 (nn 130)) from qm_fails h79), f251 130 (by omega) (by omega)]
  rw [x_rI, h79, if_pos rfl]
  by_cases g64 : 64 ≤ o
  · rw [if_neg (fun z => by have := (and192 o ho).mp z; omega), if_pos g64, e_bd (show R_fails (129 : Int32) r = some ((), sI r 79 (nn 129)) from qm_fails h79)]
    unfold R_subscribe_J194
    rw [x_rI, sI_1, if_pos rfl, if_neg (by decide), f251 129 (by omega) (by omega)]
  · rw [if_pos ((and192 o ho).mpr (by omega)), if_neg g64]
    unfold R_subscribe_J194
    rw [x_rI, h79, if_pos rfl]
    by_cases g3 : o % 4 = 3
    · rw [if_pos ((and33 o ho).mpr g3), if_pos (Or.inl g3), f244]
    · rw [if_neg (fun z => g3 ((and33 o ho).mp z))]
      by_cases g48 : o / 16 % 4 = 3
      · rw [if_pos ((sh43 o ho).mpr g48), if_pos (Or.inr (Or.inl g48)), f244]
      · rw [if_neg (fun z => g48 ((sh43 o ho).mp z))]
        by_cases g4 : o / 4 % 2 = 0
        · rw [if_pos ((and4b o ho).mpr g4), if_neg (by omega), g251]
        · rw [if_neg (fun z => g4 ((and4b o ho).mp z)), x_rI, h80, x_rI, h81, e_bd (qm_isShare (f0 := 6) hM B (by rw [mL_6]; exact ha) (by omega))]
          by_cases gp : pre ys = true
          · rw [if_pos gp, if_neg (by decide), if_pos (Or.inr (Or.inr ⟨by omega, gp⟩)), f244]
          · rw [if_neg gp, if_pos rfl, if_neg, g251]
            rintro (z | z | z)
            · exact g3 z
            · exact g48 z
            · exact gp z.2
/-- all entries -/
theorem chk_loop {ke : Int32 → Int32 → Int32 → Int32 → RS → Option (Unit × RS)} {l1 l2 l3 : Int32} (hlen : bs.length ≤ p0 + 398) : ∀ (c e f g : Nat) (h1 : Hp) (r1 : RS), bs.length - pz bs p0 e ≤ c → c + 1 < f → c + 1 < g → Stat x h1 → Rd x i bs (pz bs p0 e) bs.length 0 h1 r1 → (∀ e', e' < e → Ent bs (pz bs p0 e') ∧ eA i bs r1 e' (pz bs p0 e')) → p0 + 3 * e ≤ pz bs p0 e →
    ∃ v w h' r', C_X11_checkEntries_L4 x (fun l1 => C_X11_checkEntries_J125 x l1) f (nn e) (nn e) h1 = C_X11_checkEntries_J125 x v h' ∧ R_subscribe_L143 ke g l1 l2 l3 (nn e) r1 = ke l1 l2 l3 w r' ∧ ∃ p', pz bs p0 e ≤ p' ∧ p' ≤ bs.length ∧ Sy x (p' - pz bs p0 e) (p' - pz bs p0 e) h1 h' r1 r' ∧ ((∃ cnt, v = nn cnt ∧ w = nn cnt ∧ e ≤ cnt ∧ pz bs p0 cnt = bs.length ∧ p' = bs.length ∧ p0 + 3 * cnt ≤ bs.length ∧ Rd x i bs bs.length bs.length 0 h' r' ∧ ∀ e', e' < cnt → Ent bs (pz bs p0 e') ∧ eA i bs r' e' (pz bs p0 e')) ∨ ∃ fa, fa ≠ 0 ∧ v ≠ 0 ∧ Rd x i bs p' bs.length fa h' r') := by
  intro c
  induction c with
  | zero =>
    intro e f g h1 r1 hc hf hg T D hE h3
    obtain ⟨f', rfl⟩ : ∃ z, f = z + 1 := ⟨f - 1, by omega⟩
    obtain ⟨g', rfl⟩ : ∃ z, g = z + 1 := ⟨g - 1, by omega⟩
    obtain ⟨k1, k2, _⟩ := T.in3
    have hpl := D.2.2.1.2.2.2.1
    have hbl := D.2.2.1.2.2.1
    have hi := D.2.2.1.1
    have hd := D.2.2.2 rfl
    have ep : pz bs p0 e = bs.length := by omega
    refine ⟨nn e, nn e, h1, r1, ?_, ?_, bs.length, by omega, Nat.le_refl _, Sy.rf.le (by omega) (by omega), Or.inl ⟨e, rfl, rfl, Nat.le_refl _, ep, rfl, by omega, by rw [ep] at D; exact D, hE⟩⟩
    · show C_X11_checkEntries_B4 x _ _ (nn e) (nn e) h1 = _
      unfold C_X11_checkEntries_B4
      by_cases z : (133 : Int32) ≤ nn e
      · rw [if_pos z]
      · rw [if_neg z, e_gR k1, k2, e_Cv T.rd, e_bd (D.left T), if_pos (by rw [ep, Nat.sub_self]; decide)]
    · show R_subscribe_B143 _ ke l1 l2 l3 (nn e) r1 = _
      unfold R_subscribe_B143
      rw [x_rI, D.2.1.2.2.1, if_pos (show nn 0 = (0 : Int32) from rfl), x_rI, hd.2.1, x_rI, D.2.1.2.1, if_pos (by rw [nn_le (by omega) (by omega)]; omega)]
  | succ c ih =>
    intro e f g h1 r1 hc hf hg T D hE h3
    by_cases gp : pz bs p0 e < bs.length
    · obtain ⟨f', rfl⟩ : ∃ z, f = z + 1 := ⟨f - 1, by omega⟩
      obtain ⟨g', rfl⟩ : ∃ z, g = z + 1 := ⟨g - 1, by omega⟩
      obtain ⟨f'', rfl⟩ : ∃ z, f' = z + 1 := ⟨f' - 1, by omega⟩
      obtain ⟨g'', rfl⟩ : ∃ z, g' = z + 1 := ⟨g' - 1, by omega⟩
      obtain ⟨k1, k2, _⟩ := T.in3
      have hbl := D.2.2.1.2.2.1
      have hi := D.2.2.1.1
      have hd := D.2.2.2 rfl
      have B := D.by
      obtain ⟨p, ep⟩ : ∃ p, p = pz bs p0 e := ⟨_, rfl⟩
      rw [← ep] at gp h3 hc D hd
      obtain ⟨v, h2, w, r2, e1, e2, ⟨p2, z2, z3, z4, z5⟩, hu⟩ := sim_str D T
      have T2 := z2.st T
      obtain ⟨j1, j2, _⟩ := T2.in3
      -- the beginning of a round
      have cB : C_X11_checkEntries_L4 x (fun l1 => C_X11_checkEntries_J125 x l1) (f'' + 1 + 1) (nn e) (nn e) h1 = (bd (C_X5_one (x + 37)) fun r11 => if (r11 &&& (192 : Int32)) = 0 then (C_X11_checkEntries_J58 x (fun l1 l2 => C_X11_checkEntries_L4 x (fun l1 => C_X11_checkEntries_J125 x l1) (f'' + 1) l1 l2) (fun l1 => C_X11_checkEntries_J125 x l1) (nn e) (nn e) v r11) else (hgR 13 3 (some x) fun v12 => hCv 7 v12 (fun a => C_X5_fail a (129 : Int32)) fun _ => C_X11_checkEntries_J58 x (fun l1 l2 => C_X11_checkEntries_L4 x (fun l1 => C_X11_checkEntries_J125 x l1) (f'' + 1) l1 l2) (fun l1 => C_X11_checkEntries_J125 x l1) (nn e) (nn e) v r11)) h2 := by
        show C_X11_checkEntries_B4 x _ _ (nn e) (nn e) h1 = _
        unfold C_X11_checkEntries_B4
        rw [if_neg (by rw [show (133 : Int32) = nn 133 from rfl, nn_le (by omega) (by omega)]; omega), e_gR k1, k2, e_Cv T.rd, e_bd (D.left T), if_neg (by rw [l_0, nn_le (by omega) (by omega)]; omega), e_gR k1, k2, e_Cv T.rd, e_bd e1, e_gR j1, j2, e_Cv T2.rd]
      have mB : R_subscribe_L143 ke (g'' + 1 + 1) l1 l2 l3 (nn e) r1 = (bd (R_one) fun r23 => rI 79 fun v24 => if v24 = 0 then (if (r23 &&& (192 : Int32)) = 0 then (R_subscribe_J194 (fun l1 l2 l3 l4 => R_subscribe_L143 ke (g'' + 1) l1 l2 l3 l4) ke l1 l2 l3 (nn e) r23) else (bd (R_fails (129 : Int32)) fun r25 => R_subscribe_J194 (fun l1 l2 l3 l4 => R_subscribe_L143 ke (g'' + 1) l1 l2 l3 l4) ke l1 l2 l3 (nn e) r23)) else (R_subscribe_J194 (fun l1 l2 l3 l4 => R_subscribe_L143 ke (g'' + 1) l1 l2 l3 l4) ke l1 l2 l3 (nn e) r23)) r2 := by
        show R_subscribe_B143 _ ke l1 l2 l3 (nn e) r1 = _
        unfold R_subscribe_B143
        rw [x_rI, D.2.1.2.2.1, if_pos (show nn 0 = (0 : Int32) from rfl), x_rI, hd.2.1, x_rI, D.2.1.2.1, if_neg (by rw [nn_le (by omega) (by omega)]; omega), e_bd e2]
      -- a fault while reading
      have flt : ∀ (p3 fa : Nat) (h3 : Hp) (r3 : RS), fa ≠ 0 → Rd x i bs p3 bs.length fa h3 r3 → p ≤ p3 → p3 ≤ bs.length → Sy x (p3 - p) (p3 - p) h1 h3 r1 r3 → C_X5_one (x + 37) h2 = some (0, h3) → R_one r2 = some (0, r3) → ∃ v w h' r', C_X11_checkEntries_L4 x (fun l1 => C_X11_checkEntries_J125 x l1) (f'' + 1 + 1) (nn e) (nn e) h1 = C_X11_checkEntries_J125 x v h' ∧ R_subscribe_L143 ke (g'' + 1 + 1) l1 l2 l3 (nn e) r1 = ke l1 l2 l3 w r' ∧ ∃ p', pz bs p0 e ≤ p' ∧ p' ≤ bs.length ∧ Sy x (p' - pz bs p0 e) (p' - pz bs p0 e) h1 h' r1 r' ∧ ((∃ cnt, v = nn cnt ∧ w = nn cnt ∧ e ≤ cnt ∧ pz bs p0 cnt = bs.length ∧ p' = bs.length ∧ p0 + 3 * cnt ≤ bs.length ∧ Rd x i bs bs.length bs.length 0 h' r' ∧ ∀ e', e' < cnt → Ent bs (pz bs p0 e') ∧ eA i bs r' e' (pz bs p0 e')) ∨ ∃ fa, fa ≠ 0 ∧ v ≠ 0 ∧ Rd x i bs p' bs.length fa h' r') := by
        intro p3 fa h3 r3 hfa D3 y1 y2 s3 o1 o2
        have T3 := s3.st T
        have hf3 := D3.2.2.1.2.2.2.2.1
        refine ⟨nn (e + 1), nn e, h3, r3, ?_, ?_, p3, by rw [← ep]; exact y1, y2, by rw [← ep]; exact s3, Or.inr ⟨fa, hfa, nn_ne0 (by omega) (by omega), D3⟩⟩
        · rw [cB, e_bd o1, if_pos (by decide), chk58]
          show C_X11_checkEntries_L4 x _ (f'' + 1) (nn e + nn 1) (nn e + nn 1) h3 = _
          rw [nn_add, chkF T3 (D3.fa hfa)]
        · rw [mB, e_bd o2, x_rI, D3.2.1.2.2.1, if_neg (nn_ne0 (by omega) hfa)]
          unfold R_subscribe_J194 R_subscribe_J251
          rw [x_rI, D3.2.1.2.2.1, if_neg (nn_ne0 (by omega) hfa), x_rI, D3.2.1.2.2.1, if_neg (nn_ne0 (by omega) hfa)]
          exact mchkF D3.2.1.2.2.1 hfa hf3.1
      rcases z5 with ⟨g1, g2, g3, g4, g5, g6, g7, D2⟩ | ⟨g2, D2⟩
      · by_cases gl : p2 < bs.length
        · obtain ⟨o1, o2⟩ := D2.one T2 gl
          obtain ⟨o, eo⟩ : ∃ o, o = bs.getD p2 0 := ⟨_, rfl⟩
          have ho : o < 256 := by rw [eo]; exact B.at p2
          rw [← eo] at o1 o2
          have D3 := D2.mv (p' := p2 + 1) (by omega) (by omega)
          have s3 := z2.tr (Sc.mv (x := x) (h := h2) (r := r2) (v := nn (p2 + 1)) (w := nn (410 * i + (p2 + 1))))
          have T3 := s3.st T
          obtain ⟨h3', eh3⟩ : ∃ z, z = sfi h2 702 (x + 37) (nn (p2 + 1)) := ⟨_, rfl⟩
          obtain ⟨r3', er3⟩ : ∃ z, z = sI r2 76 (nn (410 * i + (p2 + 1))) := ⟨_, rfl⟩
          rw [← eh3] at o1 D3 s3 T3
          rw [← er3] at o2 D3 s3
          have sll := sl_len (bs := bs) (q := p + 2) (n := b2 bs p) (by omega)
          have W3 : Rw x h3' (hnx h1) (sl bs (p + 2) (b2 bs p)) := by
            rw [eh3]
            exact g5.stp (Sto.fi Sto.rf (Or.inl (by decide)))
          have x80 : r3'.1 80 = nn (410 * i + (p + 2)) := by rw [er3, sI_1, if_neg (by decide)]; exact g6
          have x81 : r3'.1 81 = nn (sl bs (p + 2) (b2 bs p)).length := by rw [er3, sI_1, if_neg (by decide), sll]; exact g7
          have co := chk_opt (kb := fun l1 l2 => C_X11_checkEntries_L4 x (fun l1 => C_X11_checkEntries_J125 x l1) (f'' + 1) l1 l2) (ke := fun l1 => C_X11_checkEntries_J125 x l1) (l1 := nn e) (l2 := nn e) T3 W3 (by omega) D3.1.2.2.1 ho
          have mo := mchk_opt (kb := fun l1 l2 l3 l4 => R_subscribe_L143 ke (g'' + 1) l1 l2 l3 l4) (ke := ke) (l1 := l1) (l2 := l2) (l3 := l3) (e := e) (r := r3') D3.2.1.2.2.1 x80 x81 (D3.2.1.2.2.2.slc (by omega)) (sl_by B) (by omega) ho (by omega)
          rw [g1] at cB
          have bad : ∀ v, v = 129 ∨ v = 130 → C_X11_checkEntries_L4 x (fun l1 => C_X11_checkEntries_J125 x l1) (f'' + 1 + 1) (nn e) (nn e) h1 = C_X11_checkEntries_L4 x (fun l1 => C_X11_checkEntries_J125 x l1) (f'' + 1) (nn e + 1) (nn e + 1) (sfi h3' 704 (x + 37) (nn v)) → R_subscribe_L143 ke (g'' + 1 + 1) l1 l2 l3 (nn e) r1 = R_subscribe_L143 ke (g'' + 1) l1 l2 l3 (nn e) (sI r3' 79 (nn v)) → ∃ v w h' r', C_X11_checkEntries_L4 x (fun l1 => C_X11_checkEntries_J125 x l1) (f'' + 1 + 1) (nn e) (nn e) h1 = C_X11_checkEntries_J125 x v h' ∧ R_subscribe_L143 ke (g'' + 1 + 1) l1 l2 l3 (nn e) r1 = ke l1 l2 l3 w r' ∧ ∃ p', pz bs p0 e ≤ p' ∧ p' ≤ bs.length ∧ Sy x (p' - pz bs p0 e) (p' - pz bs p0 e) h1 h' r1 r' ∧ ((∃ cnt, v = nn cnt ∧ w = nn cnt ∧ e ≤ cnt ∧ pz bs p0 cnt = bs.length ∧ p' = bs.length ∧ p0 + 3 * cnt ≤ bs.length ∧ Rd x i bs bs.length bs.length 0 h' r' ∧ ∀ e', e' < cnt → Ent bs (pz bs p0 e') ∧ eA i bs r' e' (pz bs p0 e')) ∨ ∃ fa, fa ≠ 0 ∧ v ≠ 0 ∧ Rd x i bs p' bs.length fa h' r') := by
            intro v hv q1 q2
            have D4 := D3.fl (v := v) (by omega) (by omega)
            have s4 := s3.tr (Sc.fl (x := x) (h := h3') (r := r3') (v := nn v) (w := nn v))
            refine ⟨nn (e + 1), nn e, _, _, ?_, ?_, p2 + 1, by omega, by omega, by rw [← ep]; exact s4.sw.sy.le (by omega) (by omega), Or.inr ⟨v, by omega, nn_ne0 (by omega) (by omega), D4⟩⟩
            · rw [q1, l_1, nn_add, chkF (s4.st T) (D4.fa (by omega))]
            · rw [q2, mchkF D4.2.1.2.2.1 (by omega) (by omega)]
          by_cases g64 : 64 ≤ o
          · rw [if_pos g64] at co mo
            exact bad 129 (Or.inl rfl) (by rw [cB, e_bd o1]; exact co) (by rw [mB, e_bd o2]; exact mo)
          · rw [if_neg g64] at co mo
            by_cases gb : o % 4 = 3 ∨ o / 16 % 4 = 3 ∨ (o / 4 % 2 = 1 ∧ pre (sl bs (p + 2) (b2 bs p)) = true)
            · rw [if_pos gb] at co mo
              exact bad 130 (Or.inr rfl) (by rw [cB, e_bd o1]; exact co) (by rw [mB, e_bd o2]; exact mo)
            · rw [if_neg gb] at co mo
              obtain ⟨r4, er4⟩ : ∃ z, z = sA (sA (sA r3' 93 e (nn (410 * i + (p + 2)))) 94 e (nn (sl bs (p + 2) (b2 bs p)).length)) 95 e (nn o) := ⟨_, rfl⟩
              rw [← er4] at mo
              have pzs : pz bs p0 (e + 1) = p2 + 1 := by
                show pz bs p0 e + b2 bs (pz bs p0 e) + 3 = p2 + 1
                rw [← ep]
                omega
              have s4 : Sy x (p2 + 1 - p) (p2 + 1 - p) h1 h3' r1 r4 := by
                rw [er4]
                exact (((s3.sw.sy.le (by omega) (by omega)).a (by decide)).a (by decide)).a (by decide)
              have w4 : Ro [93, 94, 95] r3' r4 := by
                rw [er4]
                exact ((Ro.rf.a (by decide)).a (by decide)).a (by decide)
              have D4 : Rd x i bs (p2 + 1) bs.length 0 h3' r4 := D3.fm T3 (F := []) (A := fun _ => False) Fm.rf w4 (by decide) (fun z => z) (by decide)
              have eo' : bs.getD (p + 2 + b2 bs p) 0 = o := by rw [← g4, eo]
              have hE4 : ∀ e', e' < e + 1 → Ent bs (pz bs p0 e') ∧ eA i bs r4 e' (pz bs p0 e') := by
                intro e' he'
                by_cases z : e' = e
                · subst z
                  rw [← ep]
                  refine ⟨⟨by omega, hu g1, by rw [eo']; omega, by rw [eo']; omega⟩, ?_, ?_, ?_⟩
                  · rw [er4, sA_o (by decide), sA_o (by decide), sA_2, if_pos ⟨rfl, rfl⟩]
                  · rw [er4, sA_o (by decide), sA_2, if_pos ⟨rfl, rfl⟩, sll]
                  · rw [er4, sA_2, if_pos ⟨rfl, rfl⟩, eo']
                · obtain ⟨y1, y2, y3, y4⟩ := hE e' (by omega)
                  have ge : ∀ k, k ∈ [93, 94, 95] → r4.2.1 k e' = r1.2.1 k e' := fun k hk => by
                    have : r3'.2.1 k = r1.2.1 k := s3.2.1.gA (fun z => by
                      simp only [rS, List.mem_cons, List.not_mem_nil, or_false] at hk z
                      omega)
                    rw [er4, sA_2, if_neg (fun y => z y.2), sA_2, if_neg (fun y => z y.2), sA_2, if_neg (fun y => z y.2), this]
                  exact ⟨y1, by rw [ge 93 (by decide)]; exact y2, by rw [ge 94 (by decide)]; exact y3, by rw [ge 95 (by decide)]; exact y4⟩
              obtain ⟨v', w', h', r', q1, q2, p', q3, q4, q5, q6⟩ := ih (e + 1) (f'' + 1) (g'' + 1) h3' r4 (by rw [pzs]; omega) (by omega) (by omega) T3 (by rw [pzs]; exact D4) hE4 (by rw [pzs]; omega)
              refine ⟨v', w', h', r', ?_, ?_, p', by omega, q4, by rw [pzs] at q5; rw [← ep]; exact (s4.tr q5).le (by omega) (by omega), ?_⟩
              · rw [cB, e_bd o1]
                refine co.trans ?_
                show C_X11_checkEntries_L4 x _ (f'' + 1) (nn e + nn 1) (nn e + nn 1) h3' = _
                rw [nn_add]
                exact q1
              · rw [mB, e_bd o2]
                exact mo.trans q2
              · rcases q6 with ⟨cnt, a1, a2, a3, a4⟩ | q6
                · exact Or.inl ⟨cnt, a1, a2, by omega, a4⟩
                · exact Or.inr q6
        · obtain ⟨o1, o2⟩ := D2.one0 T2 (by omega)
          have D3 := D2.fl (v := 129) (by omega) (by omega)
          have s3 := z2.tr (Sc.fl (x := x) (h := h2) (r := r2) (v := nn 129) (w := nn 129))
          exact flt p2 129 _ _ (by omega) D3 z3 z4 (s3.sw.sy.le (by omega) (by omega)) o1 o2
      · have hf2 := D2.2.2.1.2.2.2.2.1
        exact flt p2 129 h2 r2 (by omega) D2 z3 z4 z2.sw.sy (qc_one_f T2 (D2.fa (by omega))) (qm_one_f D2.2.1.2.2.1 (by omega) (by omega))
    · have hpl := D.2.2.1.2.2.2.1
      exact ih e f g h1 r1 (by omega) (by omega) (by omega) T D hE h3
end CHK
