/-! ===== a SUBSCRIBE is done, by both ===== -/
section SB2
variable {x i s b num p0 id cnt e p : Nat} {e0 : Int32} {h h' h0 : Hp} {r r' r0 : RS} {bs ys : List Nat}
theorem Rel.cls {ec es ew : Nat} (R : Rel x ec es ew e0 h r) (p : Fm x vF (vA x) h h') : Rel x ec es ew e0 h' r := by
  obtain ⟨f, bs, W⟩ := R.wr
  refine R.scr (p.sub (by decide) (fun a ha => ?_)) Ro.rf ⟨f, bs, W.fmx R.st p (by decide) (fun z => ?_)⟩
  · rcases ha with z | z
    · exact Or.inl z
    · exact Or.inr (Or.inr z)
  · rcases z with z | z <;> omega
/-- what is to be done about what is kept, for entry e at place p -/
def Dc (x s : Nat) (bs : List Nat) (h : Hp) (r : RS) (e p : Nat) : Prop := ∃ re, r.2.1 92 e = nn re ∧ re < 256 ∧
  (((hai h (x + 50) e = -1 ∨ hai h (x + 50) e = nn 8) ∧ (2 < re ∨ 0 < shA (sl bs (p + 2) (b2 bs p)) ∨ ¬ (bs.getD (p + 2 + b2 bs p) 0 / 16 = 0 ∨ (bs.getD (p + 2 + b2 bs p) 0 / 16 = 1 ∧ r.2.1 96 e ≠ 0)))) ∨
   (∃ k, k < 8 ∧ hai h (x + 50) e = nn k ∧ Pl x h r (sl bs (p + 2) (b2 bs p)) s k ∧ re ≤ 2 ∧ fstart (sl bs (p + 2) (b2 bs p)) = some 0 ∧ (bs.getD (p + 2 + b2 bs p) 0 / 16 = 0 ∨ (bs.getD (p + 2 + b2 bs p) 0 / 16 = 1 ∧ r.2.1 96 e ≠ 0))))
theorem Dc.to (D : Dc x s bs h r e p) (h92 : r'.2.1 92 e = r.2.1 92 e) (h96 : r'.2.1 96 e = r.2.1 96 e) (h50 : hai h' (x + 50) e = hai h (x + 50) e) (hP : ∀ zs k, Pl x h r zs s k → Pl x h' r' zs s k) : Dc x s bs h' r' e p := by
  obtain ⟨re, d1, d2, d3⟩ := D
  refine ⟨re, by rw [h92]; exact d1, d2, ?_⟩
  rw [h96, h50]
  rcases d3 with z | ⟨k, z1, z2, z3, z4⟩
  · exact Or.inl z
  · exact Or.inr ⟨k, z1, z2, hP _ _ z3, z4⟩
theorem Pl.bk {ec es k : Nat} (R : Rel x ec es 96 e0 h r) (hs : s < 12) (hb : har h (x + 34) s = some b) (P : Pl x h' r ys s k) (p : Sto x h h') (e34 : har h' (x + 34) = har h (x + 34)) (e1 : har h' (b + 1) = har h (b + 1)) : Pl x h r ys s k := by
  obtain ⟨b', n, u, st, p1, p2, p3, p4, p5, p6⟩ := P
  rw [e34, hb] at p1
  cases p1
  obtain ⟨n', q1, q2, q3, q4, q5⟩ := (R.ses hs hb).2.2.2.2.1
  have en : n' = n := nn_inj (by omega) (by omega) (q3.symm.trans p2)
  subst en
  obtain ⟨u', c1, bs', st', _, _, c2, _⟩ := q4 k p4
  rw [e1] at p5
  have eu : u' = u := Option.some.inj (c1.symm.trans p5)
  rw [eu] at c1 c2
  have := (c2.sto p).inj p6
  exact ⟨b, n', u, st', hb, q3, q1, p4, c1, by rw [← this]; exact c2⟩
/-- while entries are done -/
def sbI (x i s b num p0 : Nat) (e0 : Int32) (bs : List Nat) (h0 : Hp) (r0 : RS) (C E : Nat) (h : Hp) (r : RS) (e : Nat) : Prop :=
  Rel x i 12 96 e0 h r ∧ har h (x + 34) s = some b ∧ (∃ q, Rd x i bs (pz bs p0 e) bs.length 0 h q) ∧ (∃ rs : List Nat, rs.length = e ∧ WR (x + 46) h (nn 144) (num / 256 :: num % 256 :: 0 :: rs) ∧ ∀ e', e' < e → r.2.1 92 e' = nn (rs.getD e' 0)) ∧ (∀ e', e' < e → Dc x s bs h r e' (pz bs p0 e')) ∧ Kp x i h0 h r0 r ∧ r.1 79 = 0 ∧ (hcs h).1 + WN r ≤ (hcs h0).1 + WN r0 + C + 3 * e ∧ (hcs h).2 + 6 * WN r ≤ (hcs h0).2 + 6 * WN r0 + E + (pz bs p0 e - p0) + 7 * e
theorem sb_ar {a4 a1 a a0 w5 w4 w w0 E p p0 n e : Nat} (h1 : a4 ≤ a1 + 6) (h2 : a1 ≤ a + (n + 1)) (h3 : w5 ≤ w4) (h4 : w4 ≤ w) (h5 : a + 6 * w ≤ a0 + 6 * w0 + E + (p - p0) + 7 * e) (h6 : p0 ≤ p) : a4 + 6 * w5 ≤ a0 + 6 * w0 + E + (p + 2 + n + 1 - p0) + 7 * (e + 1) := by omega
theorem sb_ar1 {a4 a1 a a0 w5 w4 w w0 C e : Nat} (h1 : a4 ≤ a1 + 1) (h2 : a1 ≤ a + 2) (h3 : w5 ≤ w4) (h4 : w4 ≤ w) (h5 : a + w ≤ a0 + w0 + C + 3 * e) : a4 + w5 ≤ a0 + w0 + C + 3 * (e + 1) := by omega
theorem pz_le : p0 ≤ pz bs p0 e := by
  induction e with
  | zero => exact Nat.le_refl _
  | succ e ih =>
    show p0 ≤ pz bs p0 e + b2 bs (pz bs p0 e) + 3
    omega
theorem sim_sbB {Φ : Int32 → Hp → Unit → RS → Prop} {C E : Nat} (hi : i < 8) (hs : s < 12) (hid : id < 268435456) (hcnt : cnt ≤ 133) (hbl : bs.length ≤ 405) (hEnt : ∀ e', e' < cnt → Ent bs (pz bs p0 e')) (h6 : Mg (r0.2.1 6) (410 * i) bs)
    (kend : ∀ h r, sbI x i s b num p0 e0 bs h0 r0 C E h r cnt → (∀ e', e' < cnt → eA i bs r e' (pz bs p0 e')) → Sim (C_X11_subscribe_J208 x (some (cA x i)) (some b) (nn cnt)) h (R_subscribe_J334 (nn s) (nn num) (nn cnt)) r Φ) :
    ∀ (c e f g : Nat) (h : Hp) (r : RS), e + c = cnt → c < f → c < g → sbI x i s b num p0 e0 bs h0 r0 C E h r e → (∀ e', e' < cnt → eA i bs r e' (pz bs p0 e')) → Sim (C_X11_subscribe_L144 x (fun l1 l2 l7 => C_X11_subscribe_J208 x l1 l2 l7) f (some (cA x i)) (some b) (nn id) (nn cnt) (nn e)) h (R_subscribe_L306 (fun l1 l2 l4 => R_subscribe_J334 l1 l2 l4) g (nn s) (nn num) (nn id) (nn cnt) (nn e)) r Φ := by
  intro c
  induction c with
  | zero =>
    intro e f g h r he hf hg I hA
    obtain ⟨f', rfl⟩ : ∃ z, f = z + 1 := ⟨f - 1, by omega⟩
    obtain ⟨g', rfl⟩ : ∃ z, g = z + 1 := ⟨g - 1, by omega⟩
    have : e = cnt := by omega
    subst this
    show Sim (C_X11_subscribe_B144 x _ _ (some (cA x i)) (some b) (nn id) (nn e) (nn e)) h (R_subscribe_B306 _ _ (nn s) (nn num) (nn id) (nn e) (nn e)) r Φ
    unfold C_X11_subscribe_B144 R_subscribe_B306
    rw [sl_pos (Int32.le_refl _), sr_pos (Int32.le_refl _)]
    exact kend h r I hA
  | succ c ih =>
    intro e f g h r he hf hg I hA
    obtain ⟨f', rfl⟩ : ∃ z, f = z + 1 := ⟨f - 1, by omega⟩
    obtain ⟨g', rfl⟩ : ∃ z, g = z + 1 := ⟨g - 1, by omega⟩
    obtain ⟨R, hb, ⟨q, D⟩, ⟨rs, rl, W, r92⟩, hDc, K, h79, cc1, cc2⟩ := I
    have T := R.st
    have hx := T.1
    obtain ⟨k1, k2, k3⟩ := T.in3
    have B := D.by
    have hE := hEnt e (by omega)
    obtain ⟨a1, a2, a3⟩ := hA e (by omega)
    have hpz := pz_le (bs := bs) (p0 := p0) (e := e)
    obtain ⟨p, ep⟩ : ∃ p, p = pz bs p0 e := ⟨_, rfl⟩
    rw [← ep] at D hE a1 a2 a3 cc2 hpz
    obtain ⟨n1, n2, n3, n4⟩ := hE
    obtain ⟨o, eo⟩ : ∃ o, o = bs.getD (p + 2 + b2 bs p) 0 := ⟨_, rfl⟩
    rw [← eo] at a3 n3 n4
    obtain ⟨ys, ey⟩ : ∃ z, z = sl bs (p + 2) (b2 bs p) := ⟨_, rfl⟩
    have yl : ys.length = b2 bs p := by rw [ey]; exact sl_len (by omega)
    -- the row
    obtain ⟨G, hG, e1⟩ := D.row T 1 (Or.inr rfl) (by omega) (by omega)
    rw [if_pos (Or.inr n2)] at e1
    obtain ⟨s1, W1, D1, nx1, _⟩ := D.rowok T (by omega) (by omega) hG
    obtain ⟨h1, eh1⟩ : ∃ z, z = sfi (nRow (sfi h 702 (x + 37) (nn (p + 2))) (b2 bs p) G) 702 (x + 37) (nn (p + 2 + b2 bs p)) := ⟨_, rfl⟩
    rw [← eh1] at e1 s1 W1 D1 nx1
    rw [← ey] at W1
    have T1 := s1.st T
    obtain ⟨j1, j2, j3⟩ := T1.in3
    have F1 : Fm x vF (vA x) h h1 := s1.1.sub (by decide) (fun _ z => z.elim)
    -- the options
    have gl : p + 2 + b2 bs p < bs.length := by omega
    obtain ⟨o1, _⟩ := D1.one T1 gl
    rw [← eo] at o1
    have D2 := D1.mv (p' := p + 2 + b2 bs p + 1) (by omega) (by omega)
    obtain ⟨h2, eh2⟩ : ∃ z, z = sfi h1 702 (x + 37) (nn (p + 2 + b2 bs p + 1)) := ⟨_, rfl⟩
    rw [← eh2] at o1 D2
    have F12 : Fm x vF (vA x) h1 h2 := by
      rw [eh2]
      exact Fm.rf.fi (Or.inl (by decide)) (Or.inl (by decide))
    have F2 : Fm x vF (vA x) h h2 := F1.tr F12
    have T2 : Stat x h2 := T.sto F2.1
    obtain ⟨i1, i2, i3⟩ := T2.in3
    have W2 : Rw x h2 (hnx h) ys := W1.stp F12.1
    have R2 := R.cls F2
    have hb2 : har h2 (x + 34) s = some b := by rw [(F2.2.2 (x + 34) (by omega) (fun z => by rcases z with z | z <;> omega)).2.1]; exact hb
    have Sb2 := R2.ses hs hb2
    -- what is owed
    obtain ⟨v, v1, v2⟩ := idx_or R2 hs hb2 W2 (by omega)
    have eow := qc_owes R2 hs hb2 W2 (by omega) n3 v1
    obtain ⟨ow, how⟩ : ∃ z, z = (if (o / 16 = 0 ∨ (o / 16 = 1 ∧ v = -1)) ∧ fstart ys = some 0 then (if v = -1 then r.2.1 24 s else v) else -1) := ⟨_, rfl⟩
    rw [← how] at eow
    obtain ⟨h3, eh3⟩ : ∃ z, z = sai h2 (x + 50) (upd (hai h2 (x + 50)) e ow) := ⟨_, rfl⟩
    have F23 : Fm x vF (vA x) h2 h3 := by
      rw [eh3]
      exact Fm.rf.ai (Or.inl (Or.inr rfl)) (fun z => by have := z.1; omega)
    have F3 : Fm x vF (vA x) h h3 := F2.tr F23
    have T3 : Stat x h3 := T.sto F3.1
    obtain ⟨m1, m2, m3⟩ := T3.in3
    have R3 := R.cls F3
    have e34 : har h3 (x + 34) = har h (x + 34) := (F3.2.2 (x + 34) (by omega) (fun z => by rcases z with z | z <;> omega)).2.1
    have hb3 : har h3 (x + 34) s = some b := by rw [e34]; exact hb
    have Sb3 := R3.ses hs hb3
    have hbb := Sb3.1.2.1
    have hb4 := Sb3.1.2.2.1
    have W3 : Rw x h3 (hnx h) ys := W2.stp F23.1
    have h6' : Mg (r.2.1 6) (410 * i + (p + 2)) ys := by
      have e6 : r.2.1 6 = r0.2.1 6 := K.1.2.2.1
      rw [e6, ey]
      exact h6.slc (by omega)
    obtain ⟨re, h4, r4, c1, c2, re256, R4, F4, w4, o96, cst, hPl, hEn⟩ := sim_sub1 (oo := 410 * i + (p + 2)) (o := o) (id := id) (e := e) R3 hs hb3 W3 (by omega) h6' (by omega) (by omega) a1 (by rw [yl]; exact a2) a3 n3 n4 hid
    have T4 := R4.st
    have W4 : WR (x + 46) h4 (nn 144) (num / 256 :: num % 256 :: 0 :: rs) := (W.fmx T F3 (by decide) (fun z => by rcases z with z | z <;> omega)).fmx T3 F4 (by decide) (by omega)
    have wl : (num / 256 :: num % 256 :: 0 :: rs).length = e + 3 := by
      rw [List.length_cons, List.length_cons, List.length_cons, rl]
    obtain ⟨_, h5, e5, W5, Wo5⟩ := qc_one (v := nn re) W4 (by rw [wl]; omega)
    have elo : lo8 (nn re) = re := by rw [lo8_nn (by omega)]; omega
    rw [elo] at W5
    have F5 := Wo5.fm
    obtain ⟨r5, er5⟩ : ∃ z, z = sA r4 92 e (nn re) := ⟨_, rfl⟩
    have w5 : Ro [92] r4 r5 := by rw [er5]; exact Ro.rf.a (by decide)
    have R5 : Rel x i 12 96 e0 h5 r5 := R4.scr Wo5.sc (w5.sub (by decide)) ⟨_, _, W5⟩
    have e24 : har h4 (x + 34) = har h3 (x + 34) := (F4.2.2 (x + 34) (by omega) (by omega)).2.1
    have e25 : har h5 = har h4 := Wo5.2.2.2.2.2.2.1
    have hb5 : har h5 (x + 34) s = some b := by rw [e25, e24]; exact hb3
    have eb13 : har h3 (b + 1) = har h (b + 1) := (F3.2.2 (b + 1) (by have := (R.ses hs hb).1.2.2.1; omega) (fun z => by rcases z with z | z <;> omega)).2.1
    have eb23 : har h3 (b + 1) = har h2 (b + 1) := by rw [eh3]; rfl
    have hP : ∀ zs k, Pl x h r zs s k → Pl x h5 r5 zs s k := by
      intro zs k z
      have z3 : Pl x h3 r zs s k := z.to T hb (by have := (R.ses hs hb).1.2.2.1; omega) F3.1 e34 rfl eb13
      have z4 := hPl zs k z3
      exact z4.to T4 (by rw [e24]; exact hb3) (by have := F4.1.1; omega) F5.1 (by rw [e25]) (by rw [w5.gA (by decide)]) (by rw [e25])
    have h50 : ∀ q, q ≠ e → hai h5 (x + 50) q = hai h (x + 50) q := by
      intro q hq
      rw [(F5.2.2 (x + 50) (by have := T4.1; omega) (by omega)).1, (F4.2.2 (x + 50) (by have := T3.1; omega) (by omega)).1, eh3, hai_sai, if_pos rfl]
      show (if q = e then ow else hai h2 (x + 50) q) = _
      rw [if_neg hq, eh2, hai_sfi, (s1.1.2.2 (x + 50) (by omega) (fun z => z)).1]
    have h50e : hai h5 (x + 50) e = ow := by
      rw [(F5.2.2 (x + 50) (by have := T4.1; omega) (by omega)).1, (F4.2.2 (x + 50) (by have := T3.1; omega) (by omega)).1, eh3, hai_sai, if_pos rfl]
      show (if e = e then ow else hai h2 (x + 50) e) = _
      rw [if_pos rfl]
    have h96 : ∀ q, q ≠ e → r5.2.1 96 q = r.2.1 96 q := fun q hq => by rw [w5.gA (by decide), o96 q hq]
    have h92 : ∀ q, q ≠ e → r5.2.1 92 q = r.2.1 92 q := fun q hq => by rw [er5, sA_2, if_neg (fun y => hq y.2), w4.gA (by decide)]
    have h92e : r5.2.1 92 e = nn re := by rw [er5, sA_2, if_pos ⟨rfl, rfl⟩]
    have h96e : r5.2.1 96 e = r4.2.1 96 e := by rw [w5.gA (by decide)]
    have pzs : pz bs p0 (e + 1) = p + 2 + b2 bs p + 1 := by
      show pz bs p0 e + b2 bs (pz bs p0 e) + 3 = _
      rw [← ep]
      omega
    have v3 : (∃ k, k < 8 ∧ v = nn k ∧ Pl x h3 r ys s k) ∨ (v = -1 ∧ ∀ k, ¬ Pl x h3 r ys s k) := by
      rcases v2 with ⟨k, y1, y2, y3⟩ | ⟨y1, y2⟩
      · exact Or.inl ⟨k, y1, y2, y3.to T2 hb2 (by have := Sb2.1.2.2.1; omega) F23.1 (by rw [eh3]; rfl) rfl eb23⟩
      · exact Or.inr ⟨y1, fun k z => y2 k (Pl.bk R2 hs hb2 z F23.1 (by rw [eh3]; rfl) eb23)⟩
    have P45 : ∀ zs k, Pl x h4 r4 zs s k → Pl x h5 r5 zs s k := fun zs k z => z.to T4 (by rw [e24]; exact hb3) (by have := F4.1.1; omega) F5.1 (by rw [e25]) (by rw [w5.gA (by decide)]) (by rw [e25])
    have Dce : Dc x s bs h5 r5 e p := by
      unfold Dc
      rw [← ey, ← eo]
      refine ⟨re, h92e, re256, ?_⟩
      rw [h50e, h96e]
      have shp : ∀ st, fstart ys = some st → st ≠ 0 → 0 < shA ys := fun st hst h0 => by rw [shA_of hst]; omega
      rcases hEn with ⟨y1, y2, y3⟩ | ⟨y1, y2, y3, y4, y5⟩ | ⟨y1, y2, k, y3, y4, y5, y6, y7⟩ | ⟨y1, y2, n, y3, y4, y5, y6, y7, y8⟩
      · refine Or.inl ⟨Or.inl ?_, Or.inl (by omega)⟩
        rw [how, if_neg]
        rintro ⟨_, z⟩
        rw [y1] at z
        cases z
      · refine Or.inl ⟨?_, Or.inl (by omega)⟩
        have : v = -1 := by
          rcases v3 with ⟨k, z1, z2, z3⟩ | ⟨z1, _⟩
          · exact absurd z3 (y3 k)
          · exact z1
        rw [how, this]
        by_cases g : (o / 16 = 0 ∨ (o / 16 = 1 ∧ (-1 : Int32) = -1)) ∧ fstart ys = some 0
        · rw [if_pos g, if_pos rfl]
          exact Or.inr y4
        · rw [if_neg g]
          exact Or.inl rfl
      · have ev : v = nn k := by
          rcases v3 with ⟨k', z1, z2, z3⟩ | ⟨z1, z2⟩
          · rw [z2, Pl.uq R3 hs z3 y4]
          · exact absurd y4 (z2 k)
        have nv : ¬ v = -1 := by rw [ev]; exact nn_neg (by omega)
        rw [y6]
        by_cases g : o / 16 = 0
        · by_cases gf : fstart ys = some 0
          · refine Or.inr ⟨k, y3, ?_, P45 _ _ y5, by omega, gf, Or.inl g⟩
            rw [how, if_pos ⟨Or.inl g, gf⟩, if_neg nv, ev]
          · refine Or.inl ⟨Or.inl ?_, Or.inr (Or.inl ?_)⟩
            · rw [how, if_neg (fun z => gf z.2)]
            · cases hf : fstart ys with
              | none => exact absurd hf y1
              | some st => exact shp st hf (fun z => gf (by rw [hf, z]))
        · refine Or.inl ⟨Or.inl ?_, Or.inr (Or.inr ?_)⟩
          · rw [how, if_neg]
            rintro ⟨z | z, _⟩
            · exact g z
            · exact nv z.2
          · rintro (z | z)
            · exact g z
            · exact z.2 rfl
      · have ev : v = -1 := by
          rcases v3 with ⟨k', z1, z2, z3⟩ | ⟨z1, _⟩
          · exact absurd z3 (y4 k')
          · exact z1
        rw [y7]
        by_cases g : o / 16 = 0 ∨ o / 16 = 1
        · have gd : o / 16 = 0 ∨ (o / 16 = 1 ∧ (1 : Int32) ≠ 0) := by
            rcases g with z | z
            · exact Or.inl z
            · exact Or.inr ⟨z, by decide⟩
          have gv : o / 16 = 0 ∨ (o / 16 = 1 ∧ v = -1) := by
            rcases g with z | z
            · exact Or.inl z
            · exact Or.inr ⟨z, ev⟩
          by_cases gf : fstart ys = some 0
          · refine Or.inr ⟨n, y3, ?_, P45 _ _ y6, by omega, gf, gd⟩
            rw [how, if_pos ⟨gv, gf⟩, if_pos ev]
            exact y5
          · refine Or.inl ⟨Or.inl ?_, Or.inr (Or.inl ?_)⟩
            · rw [how, if_neg (fun z => gf z.2)]
            · cases hf : fstart ys with
              | none => exact absurd hf y1
              | some st => exact shp st hf (fun z => gf (by rw [hf, z]))
        · refine Or.inl ⟨Or.inl ?_, Or.inr (Or.inr ?_)⟩
          · rw [how, if_neg]
            rintro ⟨z | z, _⟩
            · exact g (Or.inl z)
            · exact g (Or.inr z.1)
          · rintro (z | z)
            · exact g (Or.inl z)
            · exact g (Or.inr z.1)
    have Kz : Kp x i h h5 r r5 := by
      have ca : cA x i + 2 = x + 2 + 4 * i + 2 := rfl
      exact ((Kp.of F3 (Ro.rf (S := [])) T hi (by decide) (fun z => by rcases z with z | z <;> omega) (by decide)).tr (Kp.of F4 w4 T3 hi (by decide) (by omega) (by decide))).tr (Kp.of F5 w5 T4 hi (by decide) (by omega) (by decide))
    have D5 : Rd x i bs (pz bs p0 (e + 1)) bs.length 0 h5 (sI (rwM q i (p + 2) (b2 bs p)) 76 (nn (410 * i + (p + 2 + b2 bs p + 1)))) := by
      rw [pzs]
      have ca : cA x i + 2 = x + 2 + 4 * i + 2 := rfl
      have F23' : Fm x [] (fun a => a = x + 50) h2 h3 := by
        rw [eh3]
        exact Fm.rf.ai (Or.inl rfl) (fun z => by have := z.1; omega)
      exact ((D2.fm T2 F23' (Ro.rf (S := [])) (by decide) (by omega) (by decide)).fm T3 F4 (Ro.rf (S := [])) (by decide) (by omega) (by decide)).fm T4 F5 (Ro.rf (S := [])) (by decide) (by omega) (by decide)
    have wn4 := w4.wn (by decide) (by decide) (by decide) (by decide)
    have wn5 := w5.wn (by decide) (by decide) (by decide) (by decide)
    have cs5 : hcs h5 = hcs h4 := Wo5.2.2.2.2.2.2.2.1
    have cs3 : hcs h3 = hcs h1 := by rw [eh3, hcs_sai, eh2, hcs_sfi]
    have cs1 := s1.2.2
    have I5 : sbI x i s b num p0 e0 bs h0 r0 C E h5 r5 (e + 1) := by
      refine ⟨R5, hb5, ⟨_, D5⟩, ⟨rs ++ [re], by rw [List.length_append, rl]; rfl, W5, fun e' he' => ?_⟩, fun e' he' => ?_, K.tr Kz, ?_, ?_, ?_⟩
      · rw [gD_app, rl]
        by_cases z : e' = e
        · subst z
          rw [if_neg (by omega), Nat.sub_self, h92e]
          rfl
        · rw [if_pos (by omega), h92 e' z, r92 e' (by omega)]
      · by_cases z : e' = e
        · subst z
          rw [← ep]
          exact Dce
        · exact (hDc e' (by omega)).to (h92 e' z) (h96 e' z) (h50 e' z) hP
      · rw [w5.gI (by decide), w4.gI (by decide)]
        exact h79
      · rw [cs5]
        have y := cst.1
        rw [cs3] at y
        exact sb_ar1 y cs1.1 wn5 wn4 cc1
      · rw [cs5, pzs]
        have y := cst.2
        rw [cs3] at y
        exact sb_ar y cs1.2 wn5 wn4 cc2 hpz
    have hA5 : ∀ e', e' < cnt → eA i bs r5 e' (pz bs p0 e') := by
      intro e' he'
      obtain ⟨y1, y2, y3⟩ := hA e' he'
      exact ⟨by rw [w5.gA (by decide), w4.gA (by decide)]; exact y1, by rw [w5.gA (by decide), w4.gA (by decide)]; exact y2, by rw [w5.gA (by decide), w4.gA (by decide)]; exact y3⟩
    have go := ih (e + 1) f' g' h5 r5 (by omega) (by omega) (by omega) I5 hA5
    have t6 := T2.2.2.2.2.2.1
    have e8 : hfr h2 (100 * 13 + 8) x = some (x + 50) := T2.2.1.2.2.2.2.2.2.2.2.2
    have e135 : hfr h3 (100 * 13 + 5) x = some (x + 46) := T3.2.1.2.2.2.2.2.2.1
    have cl : C_X11_subscribe_L144 x (fun l1 l2 l7 => C_X11_subscribe_J208 x l1 l2 l7) (f' + 1) (some (cA x i)) (some b) (nn id) (nn cnt) (nn e) h = C_X11_subscribe_L144 x (fun l1 l2 l7 => C_X11_subscribe_J208 x l1 l2 l7) f' (some (cA x i)) (some b) (nn id) (nn cnt) (nn (e + 1)) h5 := by
      show C_X11_subscribe_B144 x _ _ (some (cA x i)) (some b) (nn id) (nn cnt) (nn e) h = _
      unfold C_X11_subscribe_B144
      rw [if_neg (by rw [nn_le (by omega) (by omega)]; omega), e_gR k1, k2, e_Cv T.rd, e_bd e1, e_gR j1, j2, e_Cv T1.rd, e_bd o1, e_gR i1, e8, e_Cv (c := 10) Sb2.1.1, e_bd eow, e_Wi t6.2.2.2.2.2.2.1 (nn_inr (by rw [t6.2.2.2.2.2.2.2.1]; omega) (by omega)), nn_N (by omega), ← eh3, e_gR m1, e135, e_Cv (c := 10) Sb3.1.1, e_bd c1, e_Cv (c := 12) W4.1.1, e_bd e5, l_1, nn_add]
    have ml : R_subscribe_L306 (fun l1 l2 l4 => R_subscribe_J334 l1 l2 l4) (g' + 1) (nn s) (nn num) (nn id) (nn cnt) (nn e) r = R_subscribe_L306 (fun l1 l2 l4 => R_subscribe_J334 l1 l2 l4) g' (nn s) (nn num) (nn id) (nn cnt) (nn (e + 1)) r5 := by
      show R_subscribe_B306 _ _ (nn s) (nn num) (nn id) (nn cnt) (nn e) r = _
      unfold R_subscribe_B306
      rw [if_neg (by rw [nn_le (by omega) (by omega)]; omega), e_bd c2, x_wA mL_92 (by omega) (by omega), ← er5, l_1, nn_add]
    rw [Sim_l cl, Sim_r ml]
    exact go
end SB2
