/-! ===== reading: numbers ===== -/
theorem nn_or {a b : Nat} (i : Nat) (hb : b < 2 ^ i) (h : 2 ^ i * a + b < 2147483648) : nn (2 ^ i * a) ||| nn b = nn (2 ^ i * a + b) := by
  apply Int32.toBitVec.inj
  apply BitVec.eq_of_toNat_eq
  have e1 : (nn (2 ^ i * a) ||| nn b).toBitVec.toNat = ((2 ^ i * a) % 2 ^ 32) ||| (b % 2 ^ 32) := rfl
  have e3 : (nn (2 ^ i * a + b)).toBitVec.toNat = (2 ^ i * a + b) % 2 ^ 32 := rfl
  rw [e1, e3, Nat.mod_eq_of_lt (by omega), Nat.mod_eq_of_lt (by omega), Nat.mod_eq_of_lt (by omega), Nat.two_pow_add_eq_or_of_lt hb]
theorem n6_or {a b : Nat} (i : Nat) (hb : b < 2 ^ i) (h : 2 ^ i * a + b < 9223372036854775808) : n6 (2 ^ i * a) ||| n6 b = n6 (2 ^ i * a + b) := by
  apply Int64.toBitVec.inj
  apply BitVec.eq_of_toNat_eq
  have e1 : (n6 (2 ^ i * a) ||| n6 b).toBitVec.toNat = ((2 ^ i * a) % 2 ^ 64) ||| (b % 2 ^ 64) := rfl
  have e3 : (n6 (2 ^ i * a + b)).toBitVec.toNat = (2 ^ i * a + b) % 2 ^ 64 := rfl
  rw [e1, e3, Nat.mod_eq_of_lt (by omega), Nat.mod_eq_of_lt (by omega), Nat.mod_eq_of_lt (by omega), Nat.two_pow_add_eq_or_of_lt hb]
theorem nn_ro {a b : Nat} (i : Nat) (hb : b < 2 ^ i) (h : 2 ^ i * a + b < 2147483648) : nn b ||| nn (2 ^ i * a) = nn (b + 2 ^ i * a) := by
  rw [Int32.or_comm, nn_or i hb h, Nat.add_comm]
theorem n6_ro {a b : Nat} (i : Nat) (hb : b < 2 ^ i) (h : 2 ^ i * a + b < 9223372036854775808) : n6 b ||| n6 (2 ^ i * a) = n6 (b + 2 ^ i * a) := by
  rw [Int64.or_comm, n6_or i hb h, Nat.add_comm]
theorem nn_shl8 {a : Nat} (ha : a < 8388608) : nn a <<< ((8 : Int32) &&& 31) = nn (2 ^ 8 * a) := by
  apply Int32.toBitVec.inj
  apply BitVec.eq_of_toNat_eq
  have e1 : (nn a <<< ((8 : Int32) &&& 31)).toBitVec.toNat = ((a % 2 ^ 32) <<< 8) % 2 ^ 32 := rfl
  have e3 : (nn (2 ^ 8 * a)).toBitVec.toNat = (2 ^ 8 * a) % 2 ^ 32 := rfl
  rw [e1, e3, Nat.shiftLeft_eq]
  omega
theorem two_nn {a b : Nat} (ha : a < 256) (hb : b < 256) : (nn a <<< ((8 : Int32) &&& 31)) ||| nn b = nn (256 * a + b) := by
  rw [nn_shl8 (by omega)]
  exact nn_or 8 hb (by omega)
theorem n6_shl16 {a : Nat} (ha : a < 65536) : lshl6 (n6 a) (16 : Int32) = n6 (2 ^ 16 * a) := by
  apply Int64.toBitVec.inj
  apply BitVec.eq_of_toNat_eq
  have e1 : (lshl6 (n6 a) (16 : Int32)).toBitVec.toNat = ((a % 2 ^ 64) <<< 16) % 2 ^ 64 := rfl
  have e3 : (n6 (2 ^ 16 * a)).toBitVec.toNat = (2 ^ 16 * a) % 2 ^ 64 := rfl
  rw [e1, e3, Nat.shiftLeft_eq]
  omega
theorem nn_shl7 {a k : Nat} (ha : a < 128) (hk : k < 4) : nn a <<< (((7 : Int32) * nn k) &&& 31) = nn (2 ^ (7 * k) * a) := by
  apply Int32.toBitVec.inj
  apply BitVec.eq_of_toNat_eq
  rcases (by omega : k = 0 ∨ k = 1 ∨ k = 2 ∨ k = 3) with g | g | g | g <;> subst g
  · have e1 : (nn a <<< (((7 : Int32) * nn 0) &&& 31)).toBitVec.toNat = ((a % 2 ^ 32) <<< 0) % 2 ^ 32 := rfl
    have e3 : (nn (2 ^ (7 * 0) * a)).toBitVec.toNat = (2 ^ (7 * 0) * a) % 2 ^ 32 := rfl
    rw [e1, e3, Nat.shiftLeft_eq]
    omega
  · have e1 : (nn a <<< (((7 : Int32) * nn 1) &&& 31)).toBitVec.toNat = ((a % 2 ^ 32) <<< 7) % 2 ^ 32 := rfl
    have e3 : (nn (2 ^ (7 * 1) * a)).toBitVec.toNat = (2 ^ (7 * 1) * a) % 2 ^ 32 := rfl
    rw [e1, e3, Nat.shiftLeft_eq]
    omega
  · have e1 : (nn a <<< (((7 : Int32) * nn 2) &&& 31)).toBitVec.toNat = ((a % 2 ^ 32) <<< 14) % 2 ^ 32 := rfl
    have e3 : (nn (2 ^ (7 * 2) * a)).toBitVec.toNat = (2 ^ (7 * 2) * a) % 2 ^ 32 := rfl
    rw [e1, e3, Nat.shiftLeft_eq]
    omega
  · have e1 : (nn a <<< (((7 : Int32) * nn 3) &&& 31)).toBitVec.toNat = ((a % 2 ^ 32) <<< 21) % 2 ^ 32 := rfl
    have e3 : (nn (2 ^ (7 * 3) * a)).toBitVec.toNat = (2 ^ (7 * 3) * a) % 2 ^ 32 := rfl
    rw [e1, e3, Nat.shiftLeft_eq]
    omega
theorem n6_shl7 {a k : Nat} (ha : a < 128) (hk : k < 4) : lshl6 (n6 a) ((7 : Int32) * nn k) = n6 (2 ^ (7 * k) * a) := by
  apply Int64.toBitVec.inj
  apply BitVec.eq_of_toNat_eq
  rcases (by omega : k = 0 ∨ k = 1 ∨ k = 2 ∨ k = 3) with g | g | g | g <;> subst g
  · have e1 : (lshl6 (n6 a) ((7 : Int32) * nn 0)).toBitVec.toNat = ((a % 2 ^ 64) <<< 0) % 2 ^ 64 := rfl
    have e3 : (n6 (2 ^ (7 * 0) * a)).toBitVec.toNat = (2 ^ (7 * 0) * a) % 2 ^ 64 := rfl
    rw [e1, e3, Nat.shiftLeft_eq]
    omega
  · have e1 : (lshl6 (n6 a) ((7 : Int32) * nn 1)).toBitVec.toNat = ((a % 2 ^ 64) <<< 7) % 2 ^ 64 := rfl
    have e3 : (n6 (2 ^ (7 * 1) * a)).toBitVec.toNat = (2 ^ (7 * 1) * a) % 2 ^ 64 := rfl
    rw [e1, e3, Nat.shiftLeft_eq]
    omega
  · have e1 : (lshl6 (n6 a) ((7 : Int32) * nn 2)).toBitVec.toNat = ((a % 2 ^ 64) <<< 14) % 2 ^ 64 := rfl
    have e3 : (n6 (2 ^ (7 * 2) * a)).toBitVec.toNat = (2 ^ (7 * 2) * a) % 2 ^ 64 := rfl
    rw [e1, e3, Nat.shiftLeft_eq]
    omega
  · have e1 : (lshl6 (n6 a) ((7 : Int32) * nn 3)).toBitVec.toNat = ((a % 2 ^ 64) <<< 21) % 2 ^ 64 := rfl
    have e3 : (n6 (2 ^ (7 * 3) * a)).toBitVec.toNat = (2 ^ (7 * 3) * a) % 2 ^ 64 := rfl
    rw [e1, e3, Nat.shiftLeft_eq]
    omega
/-! ===== the reader of the class and the model's ===== -/
def rF : List Nat := [702, 704]
def rAr (_ : Nat) : Nat → Prop := fun _ => False
def rS : List Nat := [76, 79, 80, 81]
/-- what reading changes, and what it costs at most -/
def Sc (x c e : Nat) (h h' : Hp) (r r' : RS) : Prop := Fm x rF (rAr x) h h' ∧ Ro rS r r' ∧ (hcs h').1 ≤ (hcs h).1 + c ∧ (hcs h').2 ≤ (hcs h).2 + e
theorem Sc.rf {x : Nat} {h : Hp} {r : RS} : Sc x 0 0 h h r r := ⟨Fm.rf, Ro.rf, Nat.le_refl _, Nat.le_refl _⟩
theorem Sc.tr {x c e c' e' : Nat} {h h1 h2 : Hp} {r r1 r2 : RS} (p : Sc x c e h h1 r r1) (q : Sc x c' e' h1 h2 r1 r2) : Sc x (c + c') (e + e') h h2 r r2 := ⟨p.1.tr q.1, p.2.1.tr q.2.1, by have := p.2.2.1; have := q.2.2.1; omega, by have := p.2.2.2; have := q.2.2.2; omega⟩
theorem Sc.le {x c e c' e' : Nat} {h h1 : Hp} {r r1 : RS} (p : Sc x c e h h1 r r1) (l1 : c ≤ c') (l2 : e ≤ e') : Sc x c' e' h h1 r r1 := ⟨p.1, p.2.1, by have := p.2.2.1; omega, by have := p.2.2.2; omega⟩
def Rd (x i : Nat) (bs : List Nat) (p L f : Nat) (h : Hp) (r : RS) : Prop :=
  (hfr h 701 (x + 37) = some (cA x i + 2) ∧ hfi h 702 (x + 37) = nn p ∧ hfi h 704 (x + 37) = nn f ∧ Cg (hai h (cA x i + 2)) 0 bs) ∧
  (r.1 75 = nn i ∧ r.1 77 = nn (410 * i + bs.length) ∧ r.1 79 = nn f ∧ Mg (r.2.1 6) (410 * i) bs) ∧ (i < 8 ∧ By bs ∧ bs.length ≤ 405 ∧ p ≤ bs.length ∧ (f < 256 ∧ (f = 0 ∨ 129 ≤ f)) ∧ 1 ≤ p) ∧
  (f = 0 → hfi h 703 (x + 37) = nn L ∧ r.1 76 = nn (410 * i + p) ∧ r.1 78 = nn (410 * i + L) ∧ p ≤ L ∧ L ≤ bs.length)
section RDR
variable {x i p L f n c e : Nat} {h h' : Hp} {r r' : RS} {bs : List Nat}
theorem Rd.fm {F S : List Nat} {A : Nat → Prop} (D : Rd x i bs p L f h r) (T : Stat x h) (q : Fm x F A h h') (w : Ro S r r') (hF : ∀ f ∈ [701, 702, 703, 704], f ∉ F) (hA : ¬ A (cA x i + 2)) (hS : ∀ k ∈ [6, 75, 76, 77, 78, 79], k ∉ S) : Rd x i bs p L f h' r' := by
  obtain ⟨⟨a1, a2, a3, a4⟩, ⟨b1, b2, b3, b4⟩, ⟨c1, c2⟩, d⟩ := D
  have hx := T.1
  have hc := T.cl c1
  refine ⟨⟨by rw [q.gr (hF 701 (by decide)) (by omega)]; exact a1, by rw [q.gi (hF 702 (by decide)) (by omega)]; exact a2, by rw [q.gi (hF 704 (by decide)) (by omega)]; exact a3, by rw [(q.2.2 (cA x i + 2) (by omega) hA).1]; exact a4⟩, ⟨by rw [w.gI (hS 75 (by decide))]; exact b1, by rw [w.gI (hS 77 (by decide))]; exact b2, by rw [w.gI (hS 79 (by decide))]; exact b3, by rw [w.gA (hS 6 (by decide))]; exact b4⟩, ⟨c1, c2⟩, fun g => ?_⟩
  rw [q.gi (hF 703 (by decide)) (by omega), w.gI (hS 76 (by decide)), w.gI (hS 78 (by decide))]
  exact d g
theorem Stat.rd (T : Stat x h) : hkd h (x + 37) = 7 + 1 := T.2.2.2.1.1
/-- the place moves, the fault is set -/
theorem Rd.mv {p' : Nat} (D : Rd x i bs p L 0 h r) (hp : p' ≤ L) (hp1 : 1 ≤ p') : Rd x i bs p' L 0 (sfi h 702 (x + 37) (nn p')) (sI r 76 (nn (410 * i + p'))) := by
  obtain ⟨⟨a1, a2, a3, a4⟩, ⟨b1, b2, b3, b4⟩, ⟨c1, c2, c3, c4, c5, c6⟩, d⟩ := D
  obtain ⟨d1, d2, d3, d4, d5⟩ := d rfl
  refine ⟨⟨a1, by rw [hfi_sfi, if_pos ⟨rfl, rfl⟩], by rw [hfi_sfi, if_neg (by omega)]; exact a3, a4⟩, ⟨b1, b2, b3, b4⟩, ⟨c1, c2, c3, by omega, c5, hp1⟩, fun _ => ⟨by rw [hfi_sfi, if_neg (by omega)]; exact d1, by rw [sI_1, if_pos rfl], d3, hp, d5⟩⟩
theorem Rd.fl (D : Rd x i bs p L 0 h r) {v : Nat} (hv : v < 256) (hv0 : 129 ≤ v) : Rd x i bs p L v (sfi h 704 (x + 37) (nn v)) (sI r 79 (nn v)) := by
  obtain ⟨⟨a1, a2, a3, a4⟩, ⟨b1, b2, b3, b4⟩, ⟨c1, c2, c3, c4, c5, c6⟩, d⟩ := D
  exact ⟨⟨a1, by rw [hfi_sfi, if_neg (by omega)]; exact a2, by rw [hfi_sfi, if_pos ⟨rfl, rfl⟩], a4⟩, ⟨b1, b2, by rw [sI_1, if_pos rfl], b4⟩, ⟨c1, c2, c3, c4, ⟨hv, Or.inr hv0⟩, c6⟩, fun z => by omega⟩
theorem Sc.mv {v : Int32} {w : Int32} : Sc x 0 0 h (sfi h 702 (x + 37) v) r (sI r 76 w) := ⟨Fm.rf.fi (Or.inl (by decide)) (Or.inl (by decide)), Ro.rf.i (by decide), Nat.le_refl _, Nat.le_refl _⟩
theorem Sc.fl {v : Int32} {w : Int32} : Sc x 0 0 h (sfi h 704 (x + 37) v) r (sI r 79 w) := ⟨Fm.rf.fi (Or.inl (by decide)) (Or.inl (by decide)), Ro.rf.i (by decide), Nat.le_refl _, Nat.le_refl _⟩
theorem nn_ne0 {k : Nat} (h1 : k < 2147483648) (h2 : k ≠ 0) : nn k ≠ 0 := fun z => h2 (nn_inj (b := 0) h1 (by omega) z)
/-- after a fault the class's reader answers 0 and moves no more -/
def Fa (x f : Nat) (h : Hp) : Prop := hfi h 704 (x + 37) = nn f ∧ f ≠ 0 ∧ f < 256
theorem Rd.fa (D : Rd x i bs p L f h r) (hf : f ≠ 0) : Fa x f h := ⟨D.1.2.2.1, hf, D.2.2.1.2.2.2.2.1.1⟩
theorem qc_fail_f (T : Stat x h) (F : Fa x f h) {v : Int32} : C_X5_fail (x + 37) v h = some ((), h) := by
  have e : hfi h (100 * 7 + 4) (x + 37) = nn f := F.1
  have hh : wp (C_X5_fail (x + 37) v) h (fun _ h' => h' = h) := by
    unfold C_X5_fail
    rw [wp_gI T.rd, e, wp_neg (nn_ne0 (by have := F.2.2; omega) F.2.1), wp_rt]
  obtain ⟨_, h', e1, e2⟩ := hh
  rw [e1, e2]
theorem qc_fail (T : Stat x h) (hf : hfi h 704 (x + 37) = 0) {v : Int32} : C_X5_fail (x + 37) v h = some ((), sfi h 704 (x + 37) v) := by
  have e : hfi h (100 * 7 + 4) (x + 37) = 0 := hf
  have hh : wp (C_X5_fail (x + 37) v) h (fun _ h' => h' = sfi h 704 (x + 37) v) := by
    unfold C_X5_fail
    rw [wp_gI T.rd, e, wp_pos rfl, wp_pI T.rd, wp_rt]
  obtain ⟨_, h', e1, e2⟩ := hh
  rw [e1, e2]
theorem qm_fails (hf : r.1 79 = 0) {v : Int32} : R_fails v r = some ((), sI r 79 v) := by
  have hh : wp (R_fails v) r (fun _ r' => r' = sI r 79 v) := by
    unfold R_fails
    rw [wp_rI, hf, wp_pos rfl, wp_wI, wp_rt]
  obtain ⟨_, h', e1, e2⟩ := hh
  rw [e1, e2]
theorem qc_has_f (T : Stat x h) (F : Fa x f h) {v : Int32} : C_X5_has (x + 37) v h = some (0, h) := by
  have e : hfi h (100 * 7 + 4) (x + 37) = nn f := F.1
  have hh : wp (C_X5_has (x + 37) v) h (fun w h' => w = 0 ∧ h' = h) := by
    unfold C_X5_has C_X5_has_J27
    rw [wp_gI T.rd, e, wp_neg (nn_ne0 (by have := F.2.2; omega) F.2.1), wp_gI T.rd, e, wp_neg (nn_ne0 (by have := F.2.2; omega) F.2.1), wp_zt]
    exact ⟨Or.inl rfl, rfl, rfl⟩
  obtain ⟨_, h', e1, e2, e3⟩ := hh
  rw [e1, e2, e3]
theorem qc_has (T : Stat x h) (hf : hfi h 704 (x + 37) = 0) (hp : hfi h 702 (x + 37) = nn p) (hL : hfi h 703 (x + 37) = nn L) (hpL : p ≤ L) (hL2 : L ≤ 405) (hn : n < 2147483648) : C_X5_has (x + 37) (nn n) h = some (if p + n ≤ L then 1 else 0, if p + n ≤ L then h else sfi h 704 (x + 37) 129) := by
  have e : hfi h (100 * 7 + 4) (x + 37) = 0 := hf
  have e2 : hfi h (100 * 7 + 2) (x + 37) = nn p := hp
  have e3 : hfi h (100 * 7 + 3) (x + 37) = nn L := hL
  have hh : wp (C_X5_has (x + 37) (nn n)) h (fun w h' => w = (if p + n ≤ L then 1 else 0) ∧ h' = if p + n ≤ L then h else sfi h 704 (x + 37) 129) := by
    unfold C_X5_has C_X5_has_J27
    rw [wp_gI T.rd, e, wp_pos rfl, wp_gI T.rd, e3, wp_gI T.rd, e2, nn_sub hpL]
    by_cases g : p + n ≤ L
    · rw [wp_pos (by rw [nn_le (by omega) (by omega)]; omega), wp_gI T.rd, e, wp_pos rfl, wp_zt, if_pos g, if_pos g]
      exact ⟨Or.inr rfl, rfl, rfl⟩
    · have e' : hfi (sfi h (100 * 7 + 4) (x + 37) 129) (100 * 7 + 4) (x + 37) = 129 := by rw [hfi_sfi, if_pos ⟨rfl, rfl⟩]
      rw [wp_neg (by rw [nn_le (by omega) (by omega)]; omega), wp_pI T.rd, wp_gI (by exact T.rd), e', wp_neg (by decide), wp_zt, if_neg g, if_neg g]
      exact ⟨Or.inl rfl, rfl, rfl⟩
  obtain ⟨_, h', e1, e2, e3⟩ := hh
  rw [e1, e2, e3]
theorem Rd.has (D : Rd x i bs p L 0 h r) (T : Stat x h) (hn : n < 2147483648) : C_X5_has (x + 37) (nn n) h = some (if p + n ≤ L then 1 else 0, if p + n ≤ L then h else sfi h 704 (x + 37) 129) := by
  obtain ⟨⟨a1, a2, a3, a4⟩, _, ⟨c1, c2, c3, c4, c5, c6⟩, d⟩ := D
  obtain ⟨d1, d2, d3, d4, d5⟩ := d rfl
  exact qc_has T a3 a2 d1 d4 (by omega) hn
theorem Rd.has1 (D : Rd x i bs p L 0 h r) (T : Stat x h) (hn : p + n ≤ L) : C_X5_has (x + 37) (nn n) h = some (1, h) := by
  have hL := D.2.2.1.2.2.1
  have := (D.2.2.2 rfl).2.2.2.2
  rw [D.has T (by omega), if_pos hn, if_pos hn]
theorem Rd.has0 (D : Rd x i bs p L 0 h r) (T : Stat x h) (hn : L < p + n) (hn2 : n < 2147483648) : C_X5_has (x + 37) (nn n) h = some (0, sfi h 704 (x + 37) (nn 129)) := by
  rw [D.has T hn2, if_neg (by omega), if_neg (by omega)]
  rfl
/-- the next byte, of the class and of the model -/
theorem Rd.pk (D : Rd x i bs p L f h r) (T : Stat x h) : hkd h (cA x i + 2) = 101 ∧ hln h (cA x i + 2) = 405 := by
  have := T.2.2.2.2.2.2 i D.2.2.1.1
  exact ⟨this.2.2.2.2.2.2.2.1, this.2.2.2.2.2.2.2.2.1⟩
theorem qc_one_f (T : Stat x h) (F : Fa x f h) : C_X5_one (x + 37) h = some (0, h) := by
  have hh : wp (C_X5_one (x + 37)) h (fun w h' => w = 0 ∧ h' = h) := by
    unfold C_X5_one
    rw [wp_Cv T.rd]
    refine wp.get (qc_has_f T F) ?_
    rw [wp_pos rfl, wp_rt]
    exact ⟨rfl, rfl⟩
  obtain ⟨_, h', e1, e2, e3⟩ := hh
  rw [e1, e2, e3]
theorem qm_one_f (hf : r.1 79 = nn f) (h1 : f ≠ 0) (h2 : f < 256) : R_one r = some (0, r) := by
  have hh : wp R_one r (fun w r' => w = 0 ∧ r' = r) := by
    unfold R_one
    rw [wp_rI, hf, wp_neg (nn_ne0 (by omega) h1), wp_rt]
    exact ⟨rfl, rfl⟩
  obtain ⟨_, h', e1, e2, e3⟩ := hh
  rw [e1, e2, e3]
theorem Rd.one (D : Rd x i bs p L 0 h r) (T : Stat x h) (hp : p < L) : C_X5_one (x + 37) h = some (nn (bs.getD p 0), sfi h 702 (x + 37) (nn (p + 1))) ∧ R_one r = some (nn (bs.getD p 0), sI r 76 (nn (410 * i + (p + 1)))) := by
  obtain ⟨k1, k2⟩ := D.pk T
  have eh := D.has1 T (n := 1) (by omega)
  obtain ⟨⟨a1, a2, a3, a4⟩, ⟨b1, b2, b3, b4⟩, ⟨c1, c2, c3, c4, c5, c6⟩, d⟩ := D
  obtain ⟨d1, d2, d3, d4, d5⟩ := d rfl
  have e2 : hfi h (100 * 7 + 2) (x + 37) = nn p := a2
  have e1 : hfr h (100 * 7 + 1) (x + 37) = some (cA x i + 2) := a1
  constructor
  · have hh : wp (C_X5_one (x + 37)) h (fun w h' => w = nn (bs.getD p 0) ∧ h' = sfi h 702 (x + 37) (nn (p + 1))) := by
      unfold C_X5_one
      rw [wp_Cv T.rd]
      refine wp.get eh ?_
      rw [wp_neg (by decide), wp_gI T.rd, e2, wp_pI T.rd, l_1, nn_add, wp_gR (by exact T.rd), hfr_sfi, e1, wp_gI (by exact T.rd), hfi_sfi, if_pos ⟨rfl, rfl⟩, nn_sub (by omega), show p + 1 - 1 = p by omega, wn_Ai (by exact k1) (by show p < hln h (cA x i + 2); omega) (by omega), hai_sfi]
      have := a4 p (by omega)
      rw [Nat.zero_add] at this
      rw [this, wp_rt]
      exact ⟨rfl, rfl⟩
    obtain ⟨_, h', e1, e2, e3⟩ := hh
    rw [e1, e2, e3]
  · have hh : wp R_one r (fun w r' => w = nn (bs.getD p 0) ∧ r' = sI r 76 (nn (410 * i + (p + 1)))) := by
      unfold R_one
      rw [wp_rI, b3, wp_pos (show nn 0 = (0 : Int32) from rfl), wp_rI, d2, wp_rI, d3, wp_pos (by rw [nn_lt (by omega) (by omega)]; omega), wp_rI, d2, wp_wI, l_1, nn_add, wr_6 (by omega), sI_2, b4 p (by omega), wp_rt, sb_and _ (c2.at p)]
      exact ⟨rfl, rfl⟩
    obtain ⟨_, h', e1, e2, e3⟩ := hh
    rw [e1, e2, e3]
theorem Rd.one0 (D : Rd x i bs p L 0 h r) (T : Stat x h) (hp : p = L) : C_X5_one (x + 37) h = some (0, sfi h 704 (x + 37) (nn 129)) ∧ R_one r = some (0, sI r 79 (nn 129)) := by
  have eh := D.has0 T (n := 1) (by omega) (by omega)
  obtain ⟨⟨a1, a2, a3, a4⟩, ⟨b1, b2, b3, b4⟩, ⟨c1, c2, c3, c4, c5, c6⟩, d⟩ := D
  obtain ⟨d1, d2, d3, d4, d5⟩ := d rfl
  constructor
  · have hh : wp (C_X5_one (x + 37)) h (fun w h' => w = 0 ∧ h' = sfi h 704 (x + 37) (nn 129)) := by
      unfold C_X5_one
      rw [wp_Cv T.rd]
      refine wp.get eh ?_
      rw [wp_pos rfl, wp_rt]
      exact ⟨rfl, rfl⟩
    obtain ⟨_, h', e1, e2, e3⟩ := hh
    rw [e1, e2, e3]
  · have hh : wp R_one r (fun w r' => w = 0 ∧ r' = sI r 79 (nn 129)) := by
      unfold R_one
      rw [wp_rI, b3, wp_pos (show nn 0 = (0 : Int32) from rfl), wp_rI, d2, wp_rI, d3, wp_neg (by rw [nn_lt (by omega) (by omega)]; omega), wp_bd]
      refine wp.get (qm_fails b3) ?_
      rw [wp_rt]
      exact ⟨rfl, rfl⟩
    obtain ⟨_, h', e1, e2, e3⟩ := hh
    rw [e1, e2, e3]
theorem sim_one (D : Rd x i bs p L 0 h r) (T : Stat x h) : Sim (C_X5_one (x + 37)) h (R_one) r (fun v h' w r' => w = v ∧ Sc x 0 0 h h' r r' ∧ ((p < L ∧ v = nn (bs.getD p 0) ∧ Rd x i bs (p + 1) L 0 h' r') ∨ (v = 0 ∧ Rd x i bs p L 129 h' r'))) := by
  have hpL := (D.2.2.2 rfl).2.2.2.1
  by_cases g : p < L
  · obtain ⟨e1, e2⟩ := D.one T g
    exact ⟨_, _, _, _, e1, e2, rfl, Sc.mv, Or.inl ⟨g, rfl, D.mv (by omega) (by omega)⟩⟩
  · obtain ⟨e1, e2⟩ := D.one0 T (by omega)
    exact ⟨_, _, _, _, e1, e2, rfl, Sc.fl, Or.inr ⟨rfl, D.fl (by omega) (by omega)⟩⟩
end RDR
