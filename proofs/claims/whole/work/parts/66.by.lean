/-! ===== bytes: 0 .. 255, as the class has them; signed, as the model has them ===== -/
def lo8 (v : Int32) : Nat := (v.toInt % 256).toNat
def sb (b : Nat) : Int32 := if b < 128 then nn b else nn b - 256
theorem lo8_lt (v : Int32) : lo8 v < 256 := by unfold lo8; omega
theorem u_int (v : Int32) : v.toInt % 256 = (v.toBitVec.toNat : Int) % 256 := by
  have e : v.toInt = Int.bmod v.toBitVec.toNat (2 ^ 32) := BitVec.toInt_eq_toNat_bmod v.toBitVec
  rw [e, Int.bmod_def]
  have h32 : ((2 ^ 32 : Nat) : Int) = 4294967296 := rfl
  rw [h32]
  split <;> omega
theorem and255 (v : Int32) : v &&& 255 = nn (lo8 v) := by
  apply Int32.toBitVec.inj
  apply BitVec.eq_of_toNat_eq
  have e1 : (v &&& 255).toBitVec.toNat = v.toBitVec.toNat &&& 255 := rfl
  have e2 : v.toBitVec.toNat &&& 255 = v.toBitVec.toNat % 256 := Nat.and_two_pow_sub_one_eq_mod _ 8
  have e3 : (nn (lo8 v)).toBitVec.toNat = lo8 v := by
    show (lo8 v) % 2 ^ 32 = _
    have := lo8_lt v
    omega
  rw [e1, e2, e3]
  unfold lo8
  rw [u_int]
  omega
theorem sb_I : ∀ b, b < 256 → (sb b).toInt = (if b < 128 then (b : Int) else (b : Int) - 256) := by decide +kernel
theorem sb_and : ∀ b, b < 256 → sb b &&& 255 = nn b := by decide +kernel
theorem nar_b (v : Int32) : vp_nar .byte v = v.toInt8.toInt32 := rfl
theorem nar_z1 : vp_nar .boolean (1 : Int32) = 1 := rfl
theorem nar_z0 : vp_nar .boolean (0 : Int32) = 0 := rfl
theorem bmod8 (z : Int) : z.bmod (2 ^ 8) = if z % 256 < 128 then z % 256 else z % 256 - 256 := by
  rw [Int.bmod_def]
  have h8 : ((2 ^ 8 : Nat) : Int) = 256 := rfl
  rw [h8]
  split <;> split <;> omega
theorem to8 (v : Int32) : v.toInt8.toInt32 = sb (lo8 v) := by
  apply Int32.toInt_inj.mp
  rw [Int8.toInt_toInt32, Int32.toInt_toInt8, bmod8, sb_I _ (lo8_lt v)]
  unfold lo8
  split <;> split <;> omega
theorem lo8_sb {b : Nat} (hb : b < 256) : lo8 (sb b) = b := by
  unfold lo8
  rw [sb_I b hb]
  split <;> omega
theorem lo8_nn {k : Nat} (hk : k < 2147483648) : lo8 (nn k) = k % 256 := by
  unfold lo8
  rw [nn_I hk]
  omega
/-- what the model's puts keep of an int -/
theorem nar8 (v : Int32) : vp_nar .byte v.toInt8.toInt32 = sb (lo8 v) := by
  rw [nar_b, to8, to8, lo8_sb (lo8_lt v)]
theorem nar_sb {b : Nat} (hb : b < 256) : vp_nar .byte (sb b) = sb b := by
  rw [nar_b, to8, lo8_sb hb]
theorem sb_inj {a b : Nat} (ha : a < 256) (hb : b < 256) : sb a = sb b ↔ a = b := ⟨fun e => by
  have := congrArg lo8 e
  rwa [lo8_sb ha, lo8_sb hb] at this, fun e => by rw [e]⟩
theorem sb_nn {b c : Nat} (hb : b < 256) (hc : c < 128) : sb b = nn c ↔ b = c := by
  have e : nn c = sb c := by unfold sb; rw [if_pos hc]
  rw [e]
  exact sb_inj hb (by omega)
theorem nn_inj {a b : Nat} (ha : a < 2147483648) (hb : b < 2147483648) (e : nn a = nn b) : a = b := (nn_eq ha hb).mp e
/-- a row of bytes at a place: in an array of the model, of the class -/
def Mg (f : Nat → Int32) (o : Nat) (bs : List Nat) : Prop := ∀ i, i < bs.length → f (o + i) = sb (bs.getD i 0)
def Cg (f : Nat → Int32) (o : Nat) (bs : List Nat) : Prop := ∀ i, i < bs.length → f (o + i) = nn (bs.getD i 0)
def By (bs : List Nat) : Prop := ∀ b ∈ bs, b < 256
theorem By.at {bs : List Nat} (h : By bs) (i : Nat) : bs.getD i 0 < 256 := by
  rw [List.getD_eq_getElem?_getD]
  cases e : bs[i]? with
  | none => exact Nat.zero_lt_succ _
  | some b => exact h b (List.mem_of_getElem? e)
theorem By.nil : By [] := fun b h => by cases h
theorem By.app {a b : List Nat} (ha : By a) (hb : By b) : By (a ++ b) := fun c hc => by
  rcases List.mem_append.mp hc with h | h
  · exact ha c h
  · exact hb c h
theorem By.one {b : Nat} (hb : b < 256) : By [b] := fun c hc => by
  rw [List.mem_singleton.mp hc]; exact hb
theorem Mg.nil {f : Nat → Int32} {o : Nat} : Mg f o [] := fun i hi => absurd hi (Nat.not_lt_zero i)
theorem Cg.nil {f : Nat → Int32} {o : Nat} : Cg f o [] := fun i hi => absurd hi (Nat.not_lt_zero i)
theorem gD_app {a b : List Nat} {i : Nat} : (a ++ b).getD i 0 = if i < a.length then a.getD i 0 else b.getD (i - a.length) 0 := by
  rw [List.getD_eq_getElem?_getD, List.getD_eq_getElem?_getD, List.getD_eq_getElem?_getD, List.getElem?_append]
  split <;> rfl
theorem Mg.app {f : Nat → Int32} {o : Nat} {a b : List Nat} (ha : Mg f o a) (hb : Mg f (o + a.length) b) : Mg f o (a ++ b) := fun i hi => by
  rw [gD_app]
  rw [List.length_append] at hi
  by_cases h : i < a.length
  · rw [if_pos h]; exact ha i h
  · rw [if_neg h]
    have := hb (i - a.length) (by omega)
    rw [← this]
    congr 1
    omega
theorem Cg.app {f : Nat → Int32} {o : Nat} {a b : List Nat} (ha : Cg f o a) (hb : Cg f (o + a.length) b) : Cg f o (a ++ b) := fun i hi => by
  rw [gD_app]
  rw [List.length_append] at hi
  by_cases h : i < a.length
  · rw [if_pos h]; exact ha i h
  · rw [if_neg h]
    have := hb (i - a.length) (by omega)
    rw [← this]
    congr 1
    omega
theorem Mg.of {f g : Nat → Int32} {o : Nat} {bs : List Nat} (h : Mg f o bs) (e : ∀ i, i < bs.length → g (o + i) = f (o + i)) : Mg g o bs := fun i hi => (e i hi).trans (h i hi)
theorem Cg.of {f g : Nat → Int32} {o : Nat} {bs : List Nat} (h : Cg f o bs) (e : ∀ i, i < bs.length → g (o + i) = f (o + i)) : Cg g o bs := fun i hi => (e i hi).trans (h i hi)
theorem Mg.one {f : Nat → Int32} {o b : Nat} (h : f o = sb b) : Mg f o [b] := fun i hi => by
  have e : i = 0 := by
    have : i < 1 := hi
    omega
  subst e
  exact h
theorem Cg.one {f : Nat → Int32} {o b : Nat} (h : f o = nn b) : Cg f o [b] := fun i hi => by
  have e : i = 0 := by
    have : i < 1 := hi
    omega
  subst e
  exact h
