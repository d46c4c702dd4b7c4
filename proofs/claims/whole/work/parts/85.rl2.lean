/-! ===== what the class's heap and the model's state have in common: part by part ===== -/
def iN (v : Int32) : Nat := v.toNatClampNeg
theorem iN_nn {k : Nat} (h : k < 2147483648) : iN (nn k) = k := nn_N h
/-- numbers of the broker's own -/
def Glo (x : Nat) (h : Hp) (r : RS) (e0 : Int32) : Prop := (∃ t, t ≤ 1073741823 ∧ r.1 66 = nn t) ∧ hfi h 1309 x = r.1 66 ∧ hfi h 1310 x = r.1 67 ∧ hfi h 1311 x = r.1 69 ∧ hfi h 1312 x = r.1 70 ∧ hfi h 1314 x = r.1 72 ∧ hfi h 1315 x = r.1 71 ∧ r.1 74 = hfi h 1313 x + e0
def sSum (x : Nat) (h : Hp) : Int32 := 0 + hfi h 206 (cA x 0) + hfi h 206 (cA x 1) + hfi h 206 (cA x 2) + hfi h 206 (cA x 3) + hfi h 206 (cA x 4) + hfi h 206 (cA x 5) + hfi h 206 (cA x 6) + hfi h 206 (cA x 7)
/-- connection i: open, choked, last, whose session -/
def CoA (x : Nat) (h : Hp) (r : RS) (i : Nat) : Prop := (hfi h 201 (cA x i) = r.2.1 1 i ∧ (r.2.1 1 i = 0 ∨ r.2.1 1 i = 1)) ∧ (hfi h 205 (cA x i) = r.2.1 2 i ∧ (r.2.1 2 i = 0 ∨ r.2.1 2 i = 1) ∧ (r.2.1 2 i = 1 → r.2.1 1 i = 1)) ∧ (hfi h 212 (cA x i) = r.2.1 8 i ∧ ∃ t, t ≤ iN (r.1 66) ∧ r.2.1 8 i = nn t) ∧ ((r.2.1 7 i = -1 ∧ hfr h 202 (cA x i) = none) ∨ ∃ s b, s < 12 ∧ r.2.1 7 i = nn s ∧ r.2.1 1 i = 1 ∧ r.2.1 11 s = 1 ∧ r.2.1 15 s = nn i ∧ har h (x + 34) s = some b ∧ hfr h 202 (cA x i) = some b)
def CoO (x : Nat) (h : Hp) (r : RS) (i : Nat) : Prop := ∃ os, OutC x h i os ∧ OutM r i os
def CoL (x : Nat) (h : Hp) (r : RS) (i : Nat) : Prop := ∀ k, k < 4 → (har h (cA x i + 3) (k + 1) = none ∧ r.2.1 9 (4 * i + k) = 0) ∨ ∃ a bs, har h (cA x i + 3) (k + 1) = some a ∧ Rw x h a bs ∧ tpc bs = true ∧ r.2.1 9 (4 * i + k) = nn bs.length ∧ Mg (r.2.1 10) (64 * (4 * i + k)) bs ∧ r.2.1 1 i = 1
/-- a message of the class and its slot of the model -/
def Mp (x : Nat) (h : Hp) (r : RS) (m j : Nat) : Prop := ∃ V, MsC x h m V ∧ MsM r j V ∧ Vok V
def MpT (x : Nat) (h : Hp) (r : RS) (m j : Nat) : Prop := Mp x h r m j ∧ hfi h 508 m = r.2.1 51 j ∧ ∃ c, c ≤ iN (r.1 66) ∧ r.2.1 51 j = nn c
/-- on the way, at place w; waiting, at place w -/
def Wy (x : Nat) (h : Hp) (r : RS) (w d : Nat) : Prop := ∃ m j q fl id num, (hkd h d = 4 ∧ x + 130 ≤ d ∧ d < hnx h) ∧ hfr h 300 d = some m ∧ r.2.1 33 w = nn j ∧ MpT x h r m j ∧ (hfi h 301 d = nn q ∧ r.2.1 34 w = nn q ∧ 1 ≤ q ∧ q ≤ 2) ∧ (hfi h 302 d = nn fl ∧ r.2.1 35 w = nn fl ∧ fl ≤ 1) ∧ (hfi h 303 d = nn id ∧ r.2.1 36 w = nn id ∧ id < 268435456) ∧ (hfi h 304 d = nn num ∧ r.2.1 32 w = nn num ∧ 1 ≤ num ∧ num ≤ 16) ∧ hfi h 305 d = r.2.1 37 w ∧ (r.2.1 37 w = 0 ∨ (r.2.1 37 w = 1 ∧ q = 2))
def Wt (x : Nat) (h : Hp) (r : RS) (w d : Nat) : Prop := ∃ m j q fl id, (hkd h d = 4 ∧ x + 130 ≤ d ∧ d < hnx h) ∧ hfr h 300 d = some m ∧ r.2.1 39 w = nn j ∧ MpT x h r m j ∧ (hfi h 301 d = nn q ∧ r.2.1 40 w = nn q ∧ 1 ≤ q ∧ q ≤ 2) ∧ (hfi h 302 d = nn fl ∧ r.2.1 41 w = nn fl ∧ fl ≤ 1) ∧ (hfi h 303 d = nn id ∧ r.2.1 42 w = nn id ∧ id < 268435456) ∧ hfi h 305 d = 0
/-- a subscription, at place w -/
def SubT (x : Nat) (h : Hp) (u : Nat) (bs : List Nat) (st : Nat) : Prop := (hkd h u = 12 ∧ x + 130 ≤ u ∧ u < hnx h) ∧ (∃ t, hfr h 1100 u = some t ∧ Rw x h t bs) ∧ fstart bs = some st ∧ hfi h 1101 u = nn st
def Sub (x : Nat) (h : Hp) (r : RS) (ew w u : Nat) : Prop := ∃ bs st o id, SubT x h u bs st ∧ (r.2.1 25 w = nn bs.length ∧ Mg (r.2.1 26) (64 * w) bs) ∧ (hfi h 1102 u = nn o ∧ r.2.1 27 w = nn o ∧ o < 64 ∧ o % 4 ≤ 2) ∧ (hfi h 1103 u = nn id ∧ r.2.1 28 w = nn id ∧ id < 268435456) ∧ hfi h 1104 u = r.2.1 29 w ∧ (0 < st → w ≠ ew → hfi h 1105 u = r.2.1 30 w)
/-- session s, at address b -/
def SesT (x : Nat) (h : Hp) (s b : Nat) : Prop := hkd h b = 11 ∧ x + 130 ≤ b ∧ b + 4 < hnx h ∧ hfi h 1000 b = nn s ∧ (hfr h 1003 b = some (b + 1) ∧ hkd h (b + 1) = 107 ∧ hln h (b + 1) = 8) ∧ (hfr h 1005 b = some (b + 2) ∧ hkd h (b + 2) = 108 ∧ hln h (b + 2) = 16) ∧ (hfr h 1007 b = some (b + 3) ∧ hkd h (b + 3) = 108 ∧ hln h (b + 3) = 24) ∧ (hfr h 1009 b = some (b + 4) ∧ hkd h (b + 4) = 101 ∧ hln h (b + 4) = 8)
def SesI (x : Nat) (h : Hp) (r : RS) (s b : Nat) : Prop := ∃ i bs, hfr h 1001 b = some i ∧ Rw x h i bs ∧ (1 ≤ bs.length ∧ bs.length ≤ 20) ∧ r.2.1 13 s = nn bs.length ∧ Mg (r.2.1 14) (20 * s) bs
def SesV (x : Nat) (h : Hp) (r : RS) (s b : Nat) : Prop := (hfl h 1013 b = r.2.2 16 s ∧ ∃ e, e ≤ 4294967295 ∧ r.2.2 16 s = n6 e) ∧ (hfi h 1015 b = r.2.1 17 s ∧ ∃ k, 1 ≤ k ∧ k ≤ 65535 ∧ r.2.1 17 s = nn k) ∧ ((hfl h 1014 b = -1 ∧ r.2.2 18 s = 9223372036854775807) ∨ ∃ z, 1 ≤ z ∧ z ≤ 4294967295 ∧ hfl h 1014 b = n6 z ∧ r.2.2 18 s = n6 z) ∧ (hfi h 1016 b = r.2.1 19 s ∧ ∃ k, k ≤ 65535 ∧ r.2.1 19 s = nn k) ∧ ((hfr h 1002 b = none ∧ r.2.1 15 s = -1) ∨ ∃ i, i < 8 ∧ hfr h 1002 b = some (cA x i) ∧ r.2.1 15 s = nn i ∧ r.2.1 7 i = nn s)
def SesW (x : Nat) (h : Hp) (r : RS) (s b : Nat) : Prop := (hfr h 1011 b = none ∧ r.2.1 20 s = -1) ∨ ∃ m j, hfr h 1011 b = some m ∧ r.2.1 20 s = nn j ∧ Mp x h r m j ∧ hfl h 1012 b = r.2.2 21 s ∧ ∃ e, e ≤ 4294967295 ∧ r.2.2 21 s = n6 e
def SesU (x : Nat) (h : Hp) (r : RS) (ew s b : Nat) : Prop := ∃ n, n ≤ 8 ∧ hfi h 1004 b = nn n ∧ r.2.1 24 s = nn n ∧ (∀ k, k < n → ∃ u, har h (b + 1) k = some u ∧ Sub x h r ew (8 * s + k) u) ∧ ∀ k k' u u' bs st st', k < n → k' < n → har h (b + 1) k = some u → har h (b + 1) k' = some u' → SubT x h u bs st → SubT x h u' bs st' → k = k'
def SesY (x : Nat) (h : Hp) (r : RS) (s b : Nat) : Prop := ∃ n, n ≤ 16 ∧ hfi h 1006 b = nn n ∧ r.2.1 31 s = nn n ∧ (∀ k, k < n → ∃ d, har h (b + 2) k = some d ∧ Wy x h r (16 * s + k) d) ∧ ∀ k k', k < n → k' < n → r.2.1 32 (16 * s + k) = r.2.1 32 (16 * s + k') → k = k'
def SesQ (x : Nat) (h : Hp) (r : RS) (s b : Nat) : Prop := ∃ n, n ≤ 24 ∧ hfi h 1008 b = nn n ∧ r.2.1 38 s = nn n ∧ ∀ k, k < n → ∃ d, har h (b + 3) k = some d ∧ Wt x h r (24 * s + k) d
def SesH (h : Hp) (r : RS) (s b : Nat) : Prop := ∃ lc lm : List Nat, lc.length ≤ 8 ∧ lc.Perm lm ∧ lm.Nodup ∧ (∀ v ∈ lm, v < 65536) ∧ hfi h 1010 b = nn lc.length ∧ r.2.1 43 s = nn lm.length ∧ (∀ i, i < lc.length → hai h (b + 4) i = nn (lc.getD i 0)) ∧ ∀ i, i < lm.length → r.2.1 44 (8 * s + i) = nn (lm.getD i 0)
def SesB (r : RS) (s : Nat) : Prop := ∃ k nb, r.2.1 12 s = nn k ∧ r.1 73 = nn nb ∧ 1 ≤ k ∧ k ≤ nb ∧ nb < 1073741824
/-- times of a session that is not online -/
def SesZ (h : Hp) (r : RS) (s b : Nat) : Prop := r.2.1 15 s = -1 → r.2.2 16 s ≠ 0 ∧ (∃ t, t ≤ iN (r.1 66) ∧ hfi h 1017 b = nn t) ∧ (0 ≤ r.2.1 20 s → r.2.2 22 s = (hfi h 1017 b).toInt64 + r.2.2 21 s ∧ r.2.2 21 s ≠ 0) ∧ r.2.2 23 s = if r.2.2 16 s = 4294967295 then -1 else (hfi h 1017 b).toInt64 + r.2.2 16 s
def Ses (x : Nat) (h : Hp) (r : RS) (ew s b : Nat) : Prop := SesT x h s b ∧ SesI x h r s b ∧ SesV x h r s b ∧ SesW x h r s b ∧ SesU x h r ew s b ∧ SesY x h r s b ∧ SesQ x h r s b ∧ SesH h r s b ∧ SesB r s
def SesA (x : Nat) (h : Hp) (r : RS) (ew es s : Nat) : Prop := (r.2.1 11 s = 0 ∧ har h (x + 34) s = none) ∨ (r.2.1 11 s = 1 ∧ ∃ b, har h (x + 34) s = some b ∧ Ses x h r ew s b ∧ (s ≠ es → SesZ h r s b))
/-- the place k of a session's deliveries: on the way (0 .. 15), waiting (16 .. 39) -/
def dl (h : Hp) (b k : Nat) : Option Nat := if k < 16 then har h (b + 2) k else har h (b + 3) (k - 16)
def act (r : RS) (s k : Nat) : Prop := if k < 16 then k < iN (r.2.1 31 s) else k - 16 < iN (r.2.1 38 s)
def UqD (x : Nat) (h : Hp) (r : RS) : Prop := ∀ s s' b b' k k' d, s < 12 → s' < 12 → har h (x + 34) s = some b → har h (x + 34) s' = some b' → k < 40 → k' < 40 → act r s k → act r s' k' → dl h b k = some d → dl h b' k' = some d → s = s' ∧ k = k'
def UqS (x : Nat) (h : Hp) (r : RS) : Prop := ∀ s s' b b' k k' u, s < 12 → s' < 12 → har h (x + 34) s = some b → har h (x + 34) s' = some b' → k < iN (r.2.1 24 s) → k' < iN (r.2.1 24 s') → har h (b + 1) k = some u → har h (b' + 1) k' = some u → s = s' ∧ k = k'
def SId (r : RS) (s : Nat) (r' : RS) (s' : Nat) : Prop := r.2.1 13 s = r'.2.1 13 s' ∧ ∀ k, k < 20 → k < iN (r.2.1 13 s) → r.2.1 14 (20 * s + k) = r'.2.1 14 (20 * s' + k)
/-- a place without a session holds nothing -/
def Zr (r : RS) (s : Nat) : Prop := r.2.1 24 s = 0 ∧ r.2.1 31 s = 0 ∧ r.2.1 38 s = 0 ∧ r.2.1 43 s = 0
def UqB (r : RS) : Prop := (∀ s s', s < 12 → s' < 12 → r.2.1 11 s = 1 → r.2.1 11 s' = 1 → r.2.1 12 s = r.2.1 12 s' ∨ SId r s r s' → s = s') ∧ ∀ s, s < 12 → r.2.1 11 s = 0 → Zr r s
/-- kept by the model and not gone -/
def gon (r : RS) (j : Nat) : Bool := decide (0 ≤ r.2.2 50 j ∧ r.2.2 50 j ≤ (r.1 66 - r.2.1 51 j).toInt64)
def kpt (r : RS) : List Nat := ((List.range (iN (r.1 65))).map (fun k => iN (r.2.1 64 k))).filter (fun j => !gon r j)
def Kep (x : Nat) (h : Hp) (r : RS) : Prop := (∃ n, n ≤ 16 ∧ r.1 65 = nn n ∧ ∀ k, k < n → ∃ j, j < 640 ∧ r.2.1 64 k = nn j ∧ ∃ c, c ≤ iN (r.1 66) ∧ r.2.1 51 j = nn c) ∧ hfi h 801 (x + 35) = nn (kpt r).length ∧ ∀ k, k < (kpt r).length → ∃ m, har h (x + 36) k = some m ∧ MpT x h r m ((kpt r).getD k 0)
/-- a will is nobody else's message -/
def UqW (x : Nat) (h : Hp) (r : RS) : Prop := ∀ s b m j, s < 12 → har h (x + 34) s = some b → hfr h 1011 b = some m → r.2.1 20 s = nn j →
  (∀ s' b', s' < 12 → s' ≠ s → har h (x + 34) s' = some b' → hfr h 1011 b' ≠ some m ∧ r.2.1 20 s' ≠ nn j) ∧
  (∀ s' b' k d, s' < 12 → har h (x + 34) s' = some b' → k < 40 → act r s' k → dl h b' k = some d → hfr h 300 d ≠ some m) ∧
  (∀ s' k, s' < 12 → r.2.1 11 s' = 1 → k < iN (r.2.1 31 s') → r.2.1 33 (16 * s' + k) ≠ nn j) ∧
  (∀ s' k, s' < 12 → r.2.1 11 s' = 1 → k < iN (r.2.1 38 s') → r.2.1 39 (24 * s' + k) ≠ nn j) ∧
  (∀ k, k < iN (hfi h 801 (x + 35)) → har h (x + 36) k ≠ some m) ∧
  ∀ k, k < iN (r.1 65) → r.2.1 64 k ≠ nn j
/-- what has come of a packet; the VARIABLE behind the first byte, as far as it has come: its bytes and value -/
def vr : Nat → Nat → List Nat → Option (Nat × Nat)
  | _, _, [] => none
  | k, a, b :: t => if b < 128 then some (k + 1, a + b * 128 ^ k) else vr (k + 1) (a + (b - 128) * 128 ^ k) t
def CoI (x : Nat) (h : Hp) (r : RS) (i : Nat) : Prop := ∃ bs, hfi h 208 (cA x i) = nn bs.length ∧ r.2.1 5 i = nn bs.length ∧ bs.length < 405 ∧ By bs ∧ Cg (hai h (cA x i + 2)) 0 bs ∧ Mg (r.2.1 6) (410 * i) bs ∧ (r.2.1 1 i = 0 → bs = []) ∧ (bs = [] ∨ match vr 0 0 bs.tail with
  | none => hfi h 210 (cA x i) = 0 ∧ bs.length ≤ 4
  | some (v, fo) => hfi h 209 (cA x i) = nn (1 + v) ∧ hfi h 210 (cA x i) = nn (1 + v + fo) ∧ bs.length < 1 + v + fo ∧ fo ≤ 400 ∧ v ≤ 4)
/-- all of it; ec: a connection whose packet is being read; es: a session that is being lost; ew: a subscription that is being served -/
def Rel (x : Nat) (ec es ew : Nat) (e0 : Int32) (h : Hp) (r : RS) : Prop := Stat x h ∧ Glo x h r e0 ∧ r.1 68 = sSum x h ∧ (∀ i, i < 8 → CoA x h r i ∧ CoO x h r i ∧ CoL x h r i ∧ (i ≠ ec → CoI x h r i)) ∧ (∀ s, s < 12 → SesA x h r ew es s) ∧ UqD x h r ∧ UqS x h r ∧ UqB r ∧ Kep x h r ∧ UqW x h r ∧ ∃ f bs, WR (x + 46) h f bs
