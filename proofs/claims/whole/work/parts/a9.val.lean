/-! ===== properties: bits ===== -/
theorem lshr6_k {M k : Nat} (hM : M < 4611686018427387904) (hk : k < 40) : lshr6 (n6 M) (nn k) = n6 (M / 2 ^ k) := by
  have key : ∀ k, k < 40 → (((nn k).toInt64 &&& 63).toBitVec.smod 64).toNat = k := by decide +kernel
  apply Int64.toBitVec.inj
  apply BitVec.eq_of_toInt_eq
  have e1 : (lshr6 (n6 M) (nn k)).toBitVec = (n6 M).toBitVec.sshiftRight (((nn k).toInt64 &&& 63).toBitVec.smod 64).toNat := rfl
  rw [e1, key k hk, BitVec.toInt_sshiftRight]
  have e2 : (n6 M).toBitVec.toInt = (M : Int) := n6_I (by omega)
  have e3 : (n6 (M / 2 ^ k)).toBitVec.toInt = ((M / 2 ^ k : Nat) : Int) := n6_I (by have := Nat.div_le_self M (2 ^ k); omega)
  rw [e2, e3]
  rw [Int.shiftRight_eq_div_pow]
  rfl
theorem n6_and1 {k : Nat} (hk : k < 9223372036854775808) : n6 k &&& (1 : Int64) = n6 (k % 2) := by
  apply Int64.toBitVec.inj
  apply BitVec.eq_of_toNat_eq
  have e1 : (n6 k &&& (1 : Int64)).toBitVec.toNat = (k % 2 ^ 64) &&& 1 := rfl
  have e2 : (k % 2 ^ 64) &&& 1 = (k % 2 ^ 64) % 2 := Nat.and_two_pow_sub_one_eq_mod _ 1
  have e3 : (n6 (k % 2)).toBitVec.toNat = (k % 2) % 2 ^ 64 := rfl
  rw [e1, e2, e3]
  omega
theorem n6_orb {M N : Nat} (hM : M < 4611686018427387904) (hN : N < 4611686018427387904) : n6 M ||| n6 N = n6 (M ||| N) := by
  apply Int64.toBitVec.inj
  apply BitVec.eq_of_toNat_eq
  have e1 : (n6 M ||| n6 N).toBitVec.toNat = (M % 2 ^ 64) ||| (N % 2 ^ 64) := rfl
  have e3 : (n6 (M ||| N)).toBitVec.toNat = (M ||| N) % 2 ^ 64 := rfl
  have := Nat.or_lt_two_pow (x := M) (y := N) (n := 62) hM hN
  rw [e1, e3, Nat.mod_eq_of_lt (by omega), Nat.mod_eq_of_lt (by omega), Nat.mod_eq_of_lt (by omega)]
theorem n6_andb {M N : Nat} (hM : M < 4611686018427387904) (hN : N < 18446744073709551616) : n6 M &&& n6 N = n6 (M &&& N) := by
  apply Int64.toBitVec.inj
  apply BitVec.eq_of_toNat_eq
  have e1 : (n6 M &&& n6 N).toBitVec.toNat = (M % 2 ^ 64) &&& (N % 2 ^ 64) := rfl
  have e3 : (n6 (M &&& N)).toBitVec.toNat = (M &&& N) % 2 ^ 64 := rfl
  have := Nat.and_le_left (n := M) (m := N)
  rw [e1, e3, Nat.mod_eq_of_lt (by omega), Nat.mod_eq_of_lt (by omega), Nat.mod_eq_of_lt (by omega)]
theorem lshl6_1 : ∀ k, k < 64 → lshl6 (1 : Int64) (nn k) = n6 (2 ^ k) := by decide +kernel
theorem bit_s {M k : Nat} (hM : M < 4611686018427387904) (hk : k < 40) : lg_cmp ((lshr6 (n6 M) (nn k)) &&& (1 : Int64)) (1 : Int64) = 0 ↔ M.testBit k = true := by
  have h1 := Nat.div_le_self M (2 ^ k)
  rw [lshr6_k hM hk, n6_and1 (by omega), cmp_eq, show (1 : Int64) = n6 1 from rfl, n6_eq (by omega) (by omega), Nat.testBit_eq_decide_div_mod_eq, decide_eq_true_iff]
theorem bit_z {M k : Nat} (hM : M < 4611686018427387904) (hk : k < 40) : lg_cmp ((lshr6 (n6 M) (nn k)) &&& (1 : Int64)) (0 : Int64) = 0 ↔ M.testBit k = false := by
  have h1 := Nat.div_le_self M (2 ^ k)
  rw [lshr6_k hM hk, n6_and1 (by omega), cmp_eq, show (0 : Int64) = n6 0 from rfl, n6_eq (by omega) (by omega), Nat.testBit_eq_decide_div_mod_eq, decide_eq_false_iff_not]
  omega
theorem and_tp {M k : Nat} : M &&& 2 ^ k = 0 ↔ M.testBit k = false := by
  constructor
  · intro h
    have : (M &&& 2 ^ k).testBit k = false := by rw [h]; exact Nat.zero_testBit k
    rw [Nat.testBit_and, Nat.testBit_two_pow_self, Bool.and_true] at this
    exact this
  · intro h
    refine Nat.eq_of_testBit_eq (fun j => ?_)
    rw [Nat.testBit_and, Nat.zero_testBit]
    by_cases g : k = j
    · rw [← g, h, Bool.false_and]
    · rw [Nat.testBit_two_pow_of_ne g, Bool.and_false]
theorem bit_m {M k : Nat} (hM : M < 4611686018427387904) (hk : k < 64) : lg_cmp (n6 M &&& n6 (2 ^ k)) (0 : Int64) = 0 ↔ M.testBit k = false := by
  have h2 : 2 ^ k < 2 ^ 64 := Nat.pow_lt_pow_right (by omega) hk
  have h3 := Nat.and_le_left (n := M) (m := 2 ^ k)
  rw [n6_andb hM (by omega), cmp_eq, show (0 : Int64) = n6 0 from rfl, n6_eq (by omega) (by omega), and_tp]
/-! ===== properties: one value ===== -/
def kN : List Nat := [1, 2, 11, 17, 23, 24, 25, 33, 34, 35, 39]
def kR : List Nat := [3, 8, 9, 21, 22, 31]
def bnd (k : Nat) : Nat := if k = 1 ∨ k = 23 ∨ k = 25 then 1 else if k = 33 ∨ k = 34 ∨ k = 35 then 65535 else if k = 11 then 268435455 else 4294967295
/-- only place k of the model's rows 83, 84, 85 -/
def Rk (k : Nat) (r r' : RS) : Prop := Ro [76, 79, 80, 81, 83, 84, 85] r r' ∧ ∀ k', k' ≠ k → r'.2.2 83 k' = r.2.2 83 k' ∧ r'.2.1 84 k' = r.2.1 84 k' ∧ r'.2.1 85 k' = r.2.1 85 k'
def VP (x i : Nat) (bs : List Nat) (p L k : Nat) (h : Hp) (r : RS) (v : Int64) (h' : Hp) (r' : RS) : Prop := ∃ p' f, p ≤ p' ∧ p' ≤ L ∧ Rd x i bs p' L f h' r' ∧ Fm x [702, 704, 607] (fun _ => False) h h' ∧ Rk k r r' ∧ ((hcs h').1 ≤ (hcs h).1 + (p' - p) ∧ (hcs h').2 ≤ (hcs h).2 + (p' - p)) ∧ (k ≠ 8 → hfr h' 607 (x + 40) = hfr h 607 (x + 40)) ∧ (f = 0 → p < p' ∧ (k ∈ kN → ∃ n, n ≤ bnd k ∧ v = n6 n ∧ r'.2.2 83 k = n6 n ∧ (k = 1 → p' = p + 1 ∧ n = bs.getD p 0)) ∧ (k ∈ kR → p' = p + 2 + b2 bs p ∧ r'.2.1 84 k = nn (410 * i + (p + 2)) ∧ r'.2.1 85 k = nn (b2 bs p)) ∧ (k = 8 → ∃ a, hfr h' 607 (x + 40) = some a ∧ Rw x h' a (sl bs (p + 2) (b2 bs p))))
section VAL
variable {x i p L f n c e a q k : Nat} {h h' : Hp} {r r' : RS} {bs ys : List Nat}
theorem qm_327 (hk : k < 64) : R_property_J327 (nn k) r = some ((), sA (sA r 84 k (r.1 80)) 85 k (r.1 81)) := by
  have hh : wp (R_property_J327 (nn k)) r (fun _ r' => r' = sA (sA r 84 k (r.1 80)) 85 k (r.1 81)) := by
    unfold R_property_J327
    rw [wp_rI, ww_84 hk, wp_rI, ww_85 hk, wp_rt]
    rfl
  obtain ⟨_, r', e1, e2⟩ := hh
  rw [e1, e2]
/-- the end of a property of the model -/
theorem Rk.end {v : Int64} (hS : Ro rS r r') : Rk k r (sA (sA (sL r' 83 k v) 84 k (r'.1 80)) 85 k (r'.1 81)) := by
  refine ⟨(((hS.sub (by decide)).l (by decide)).a (by decide)).a (by decide), fun k' hk' => ⟨?_, ?_, ?_⟩⟩
  · rw [sA_3, sA_3, sL_3, if_neg (by omega), hS.gL (by decide)]
  · rw [sA_2, if_neg (by omega), sA_2, if_neg (by omega), sL_2, hS.gA (by decide)]
  · rw [sA_2, if_neg (by omega), sA_o (by decide), sL_2, hS.gA (by decide)]
theorem Rk.end0 (hS : Ro rS r r') : Rk k r (sA (sA r' 84 k (r'.1 80)) 85 k (r'.1 81)) := by
  refine ⟨((hS.sub (by decide)).a (by decide)).a (by decide), fun k' hk' => ⟨?_, ?_, ?_⟩⟩
  · rw [sA_3, sA_3, hS.gL (by decide)]
  · rw [sA_2, if_neg (by omega), sA_2, if_neg (by omega), hS.gA (by decide)]
  · rw [sA_2, if_neg (by omega), sA_o (by decide), hS.gA (by decide)]
theorem Rd.e3 {v : Int64} {u w : Int32} (D : Rd x i bs p L f h r) (T : Stat x h) : Rd x i bs p L f h (sA (sA (sL r 83 k v) 84 k u) 85 k w) := D.fm T (Fm.rf (F := []) (A := fun _ => False)) (S := [83, 84, 85]) (((Ro.rf.l (by decide)).a (by decide)).a (by decide)) (by decide) (fun z => z) (by decide)
theorem Rd.e2 {u w : Int32} (D : Rd x i bs p L f h r) (T : Stat x h) : Rd x i bs p L f h (sA (sA r 84 k u) 85 k w) := D.fm T (Fm.rf (F := []) (A := fun _ => False)) (S := [83, 84, 85]) ((Ro.rf.a (by decide)).a (by decide)) (by decide) (fun z => z) (by decide)
theorem e84 {u w : Int32} : (sA (sA r 84 k u) 85 k w).2.1 84 k = u ∧ (sA (sA r 84 k u) 85 k w).2.1 85 k = w := by
  refine ⟨?_, ?_⟩
  · rw [sA_o (by decide), sA_2, if_pos ⟨rfl, rfl⟩]
  · rw [sA_2, if_pos ⟨rfl, rfl⟩]
theorem e83 {v : Int64} {u w : Int32} : (sA (sA (sL r 83 k v) 84 k u) 85 k w).2.2 83 k = v := by
  rw [sA_3, sA_3, sL_3, if_pos ⟨rfl, rfl⟩]
theorem Sc.wf (s : Sc x c e h h' r r') : Fm x [702, 704, 607] (fun _ => False) h h' := s.1.sub (by decide) (fun _ z => z)
/-- one byte that is 0 or 1 -/
theorem sim_v1 (D : Rd x i bs p L 0 h r) (T : Stat x h) (hk : k = 1 ∨ k = 23 ∨ k = 25) : Sim (C_X4_value_J172 (x + 40) (some (x + 37))) h (R_property_J91 (nn k)) r (fun v h' _ r' => VP x i bs p L k h r v h' r') := by
  have hx := T.1
  have hd := D.2.2.2 rfl
  have hk64 : k < 64 := by omega
  have hn : k ∈ kR → False := fun z => by
    rcases hk with z1 | z1 | z1 <;> subst z1 <;> exact absurd z (by decide)
  unfold C_X4_value_J172 R_property_J91 C_X4_value_J189
  rw [sl_Cv T.rd]
  refine Sim.seq (sim_one D T) (fun v h1 w r1 z => ?_)
  obtain ⟨z1, z2, z3⟩ := z
  subst z1
  have T1 := z2.st T
  have e607 : hfr h1 607 (x + 40) = hfr h 607 (x + 40) := z2.1.gr (by decide) (by omega)
  have hb := D.by.at p
  rw [sr_w83 hk64, sr_rI]
  rcases z3 with ⟨g1, g2, D1⟩ | ⟨g2, D1⟩
  · have x79 : (sL r1 83 k w.toInt64).1 79 = 0 := D1.2.1.2.2.1
    have x83 : (sL r1 83 k w.toInt64).2.2 83 k = w.toInt64 := by rw [sL_3, if_pos ⟨rfl, rfl⟩]
    rw [x79, sr_pos rfl, sr_r83 hk64, x83, g2, n6_nn (by omega)]
    by_cases gb : bs.getD p 0 ≤ 1
    · rw [sl_pos (by rw [l_1, nn_le (by omega) (by omega)]; exact gb), sr_pos (by rw [cmp_le, show (1 : Int64) = n6 1 from rfl, n6_le (by omega) (by omega)]; exact gb), Sim_r (M' := rt ()) (qm_327 hk64)]
      refine Sim.ret ⟨p + 1, 0, by omega, by omega, D1.e3 T1, z2.wf, Rk.end z2.2.1, ⟨by have := z2.2.2.1; omega, by have := z2.2.2.2; omega⟩, fun _ => e607, fun _ => ⟨by omega, fun _ => ⟨bs.getD p 0, ?_, rfl, e83, fun _ => ⟨rfl, rfl⟩⟩, fun z => (hn z).elim, fun z => by omega⟩⟩
      unfold bnd
      rw [if_pos hk]
      exact gb
    · rw [sl_neg (by rw [l_1, nn_le (by omega) (by omega)]; exact gb), sr_neg (by rw [cmp_le, show (1 : Int64) = n6 1 from rfl, n6_le (by omega) (by omega)]; exact gb), sl_Cv T1.rd, Sim_l (e_bd (qc_fail T1 D1.1.2.2.1)), Sim_r (e_bd (qm_fails (by exact D1.2.1.2.2.1))), Sim_r (M' := rt ()) (qm_327 hk64)]
      have D2 := D1.fl (v := 129) (by omega) (by omega)
      have s2 := z2.tr (Sc.fl (h := h1) (r := r1) (v := 129) (w := 129))
      refine Sim.ret ⟨p + 1, 129, by omega, by omega, ?_, s2.wf, ?_, ⟨by have := s2.2.2.1; omega, by have := s2.2.2.2; omega⟩, fun _ => e607, fun z => by omega⟩
      · exact D2.e3 (s2.st T)
      · exact Rk.end s2.2.1
  · have x79 : (sL r1 83 k w.toInt64).1 79 = nn 129 := D1.2.1.2.2.1
    rw [x79, sr_neg (by decide), g2, sl_pos (by decide), Sim_r (M' := rt ()) (qm_327 hk64)]
    exact Sim.ret ⟨p, 129, by omega, by omega, D1.e3 T1, z2.wf, Rk.end z2.2.1, ⟨by have := z2.2.2.1; omega, by have := z2.2.2.2; omega⟩, fun _ => e607, fun z => by omega⟩
theorem sim_v4 (D : Rd x i bs p L 0 h r) (T : Stat x h) (hk : k = 2 ∨ k = 17 ∨ k = 24 ∨ k = 39) : Sim (C_X4_value_J192 (x + 40) (some (x + 37))) h (R_property_J159 (nn k)) r (fun v h' _ r' => VP x i bs p L k h r v h' r') := by
  have hx := T.1
  have hd := D.2.2.2 rfl
  have hk64 : k < 64 := by omega
  have hn : k ∈ kR → False := fun z => by
    rcases hk with z1 | z1 | z1 | z1 <;> subst z1 <;> exact absurd z (by decide)
  unfold C_X4_value_J192 R_property_J159
  rw [sl_Cv T.rd]
  refine Sim.seq (sim_four D T) (fun v h1 w r1 z => ?_)
  obtain ⟨z1, z2, z3⟩ := z
  subst z1
  have T1 := z2.st T
  have e607 : hfr h1 607 (x + 40) = hfr h 607 (x + 40) := z2.1.gr (by decide) (by omega)
  have hb := D.by.four p
  rw [sr_w83 hk64, Sim_r (M' := rt ()) (qm_327 hk64)]
  rcases z3 with ⟨g1, g2, D1⟩ | ⟨g2, D1⟩
  · refine Sim.ret ⟨p + 4, 0, by omega, by omega, D1.e3 T1, z2.wf, Rk.end z2.2.1, ⟨by have := z2.2.2.1; omega, by have := z2.2.2.2; omega⟩, fun _ => e607, fun _ => ⟨by omega, fun _ => ⟨b4 bs p, ?_, g2, e83.trans g2, fun z => by omega⟩, fun z => (hn z).elim, fun z => by omega⟩⟩
    unfold bnd
    rw [if_neg (by omega), if_neg (by omega), if_neg (by omega)]
    omega
  · exact Sim.ret ⟨p, 129, by omega, by omega, D1.e3 T1, z2.wf, Rk.end z2.2.1, ⟨by have := z2.2.2.1; omega, by have := z2.2.2.2; omega⟩, fun _ => e607, fun z => by omega⟩
theorem sim_v2 (D : Rd x i bs p L 0 h r) (T : Stat x h) (hk : k = 33 ∨ k = 34 ∨ k = 35) : Sim (C_X4_value_J203 (x + 40) (some (x + 37))) h (bd (R_two) fun r14 => wL 83 (nn k) r14.toInt64 <| R_property_J327 (nn k)) r (fun v h' _ r' => VP x i bs p L k h r v h' r') := by
  have hx := T.1
  have hd := D.2.2.2 rfl
  have hk64 : k < 64 := by omega
  have hn : k ∈ kR → False := fun z => by
    rcases hk with z1 | z1 | z1 <;> subst z1 <;> exact absurd z (by decide)
  unfold C_X4_value_J203
  rw [sl_Cv T.rd]
  refine Sim.seq (sim_two D T) (fun v h1 w r1 z => ?_)
  obtain ⟨z1, z2, z3⟩ := z
  subst z1
  have T1 := z2.st T
  have e607 : hfr h1 607 (x + 40) = hfr h 607 (x + 40) := z2.1.gr (by decide) (by omega)
  have hb := D.by.two p
  rw [sr_w83 hk64, Sim_r (M' := rt ()) (qm_327 hk64)]
  rcases z3 with ⟨g1, g2, D1⟩ | ⟨g2, D1⟩
  · have g3 : w.toInt64 = n6 (b2 bs p) := by rw [g2, n6_nn (by omega)]
    refine Sim.ret ⟨p + 2, 0, by omega, by omega, D1.e3 T1, z2.wf, Rk.end z2.2.1, ⟨by have := z2.2.2.1; omega, by have := z2.2.2.2; omega⟩, fun _ => e607, fun _ => ⟨by omega, fun _ => ⟨b2 bs p, ?_, g3, e83.trans g3, fun z => by omega⟩, fun z => (hn z).elim, fun z => by omega⟩⟩
    unfold bnd
    rw [if_neg (by omega), if_pos hk]
    omega
  · exact Sim.ret ⟨p, 129, by omega, by omega, D1.e3 T1, z2.wf, Rk.end z2.2.1, ⟨by have := z2.2.2.1; omega, by have := z2.2.2.2; omega⟩, fun _ => e607, fun z => by omega⟩
theorem sim_vv (D : Rd x i bs p L 0 h r) (T : Stat x h) : Sim (hCv 7 (some (x + 37)) (fun a => C_X5_variable a) fun r8 => rt (r8.toInt64)) h (bd (R_variable) fun r17 => wL 83 (nn 11) r17 <| R_property_J327 (nn 11)) r (fun v h' _ r' => VP x i bs p L 11 h r v h' r') := by
  have hx := T.1
  have hd := D.2.2.2 rfl
  rw [sl_Cv T.rd]
  refine Sim.seq (sim_variable D T) (fun v h1 w r1 z => ?_)
  obtain ⟨n, z0, z1, z3, z2, p', z4, z6, z5⟩ := z
  have T1 := z2.st T
  have e607 : hfr h1 607 (x + 40) = hfr h 607 (x + 40) := z2.1.gr (by decide) (by omega)
  rw [sr_w83 (by omega), Sim_r (M' := rt ()) (qm_327 (by omega))]
  have g3 : v.toInt64 = n6 n := by rw [z0, n6_nn (by omega)]
  rcases z5 with ⟨g1, D1⟩ | ⟨g2, D1⟩
  · have hd1 := D1.2.2.2 rfl
    refine Sim.ret ⟨p', 0, by omega, by omega, D1.e3 T1, z2.wf, Rk.end z2.2.1, ⟨by have := z2.2.2.1; omega, by have := z2.2.2.2; omega⟩, fun _ => e607, fun _ => ⟨by omega, fun _ => ⟨n, ?_, g3, e83.trans z1, fun z => by omega⟩, fun z => absurd z (by decide), fun z => by omega⟩⟩
    unfold bnd
    rw [if_neg (by omega), if_neg (by omega), if_pos rfl]
    omega
  · exact Sim.ret ⟨p', 129, by omega, by omega, D1.e3 T1, z2.wf, Rk.end z2.2.1, ⟨by have := z2.2.2.1; omega, by have := z2.2.2.2; omega⟩, fun _ => e607, fun z => by omega⟩
/-- a row of the class's RwP that was read for nothing but its place -/
theorem sim_vr {t : Int32} {Mr : RS → Option (Unit × RS)} (D : Rd x i bs p L 0 h r) (T : Stat x h) (hS : Sim (C_X5_row (x + 37) t) h Mr r (fun v h' _ r' => RwP x i bs p L h r v h' r')) (hk : k ∈ kR) (h8 : k ≠ 8) : Sim (hCv 7 (some (x + 37)) (fun a => C_X5_row a t) fun _ => rt (0 : Int64)) h (bd Mr fun _ => R_property_J327 (nn k)) r (fun v h' _ r' => VP x i bs p L k h r v h' r') := by
  have hx := T.1
  have hd := D.2.2.2 rfl
  have hk64 : k < 64 := by
    simp only [kR, List.mem_cons, List.not_mem_nil, or_false] at hk
    omega
  have hn : k ∈ kN → False := fun z => by
    simp only [kR, kN, List.mem_cons, List.not_mem_nil, or_false] at hk z
    omega
  rw [sl_Cv T.rd]
  refine Sim.seq hS (fun v h1 w r1 z => ?_)
  obtain ⟨p', z2, z3, z4, z5⟩ := z
  have T1 := z2.st T
  have e607 : hfr h1 607 (x + 40) = hfr h 607 (x + 40) := z2.1.gr (by decide) (by omega)
  rw [Sim_r (M' := rt ()) (qm_327 hk64)]
  rcases z5 with ⟨g1, g2, g3, g4, g5, g6, g7, D1⟩ | ⟨g2, D1⟩
  · exact Sim.ret ⟨p', 0, z3, z4, D1.e2 T1, z2.wf, Rk.end0 z2.2.1, ⟨z2.2.2.1, z2.2.2.2⟩, fun _ => e607, fun _ => ⟨by omega, fun z => (hn z).elim, fun _ => ⟨g4, e84.1.trans g6, e84.2.trans g7⟩, fun z => absurd z h8⟩⟩
  · exact Sim.ret ⟨p', 129, z3, z4, D1.e2 T1, z2.wf, Rk.end0 z2.2.1, ⟨z2.2.2.1, z2.2.2.2⟩, fun _ => e607, fun z => by omega⟩
theorem sim_v8 (D : Rd x i bs p L 0 h r) (T : Stat x h) : Sim (hCv 7 (some (x + 37)) (fun a => C_X5_row a (1 : Int32)) fun r7 => hpR 6 7 (some (x + 40)) r7 <| rt (0 : Int64)) h (R_property_J200 (nn 8)) r (fun v h' _ r' => VP x i bs p L 8 h r v h' r') := by
  have hx := T.1
  have hd := D.2.2.2 rfl
  unfold R_property_J200
  rw [sl_Cv T.rd]
  refine Sim.seq (sim_str D T) (fun v h1 w r1 z => ?_)
  obtain ⟨⟨p', z2, z3, z4, z5⟩, _⟩ := z
  have T1 := z2.st T
  rw [Sim_r (M' := rt ()) (qm_327 (by omega)), sl_pR T1.2.2.2.2.1.1]
  have pf : Fm x [607] (fun _ => False) h1 (sfr h1 607 (x + 40) v) := Fm.rf.fr (Or.inl (by decide)) (Or.inl (by decide))
  have T2 : Stat x (sfr h1 607 (x + 40) v) := T1.sto pf.1
  have pf2 : Fm x [702, 704, 607] (fun _ => False) h (sfr h1 607 (x + 40) v) := z2.wf.tr (pf.sub (by decide) (fun _ z => z))
  rcases z5 with ⟨g1, g2, g3, g4, g5, g6, g7, D1⟩ | ⟨g2, D1⟩
  · have D2 := D1.fm T1 pf (Ro.rf (S := [])) (by decide) (fun z => z) (by decide)
    refine Sim.ret ⟨p', 0, z3, z4, D2.e2 T2, pf2, Rk.end0 z2.2.1, ⟨z2.2.2.1, z2.2.2.2⟩, fun z => absurd rfl z, fun _ => ⟨by omega, fun z => absurd z (by decide), fun _ => ⟨g4, e84.1.trans g6, e84.2.trans g7⟩, fun _ => ⟨hnx h, ?_, g5.stp pf.1⟩⟩⟩
    show hfr (sfr h1 607 (x + 40) v) 607 (x + 40) = _
    rw [hfr_sfr, if_pos ⟨rfl, rfl⟩, g1]
  · have D2 := D1.fm T1 pf (Ro.rf (S := [])) (by decide) (fun z => z) (by decide)
    exact Sim.ret ⟨p', 129, z3, z4, D2.e2 T2, pf2, Rk.end0 z2.2.1, ⟨z2.2.2.1, z2.2.2.2⟩, fun z => absurd rfl z, fun z => by omega⟩
end VAL
