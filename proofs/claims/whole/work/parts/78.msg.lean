/-! ===== messages: what the class's object and the model's slot hold ===== -/
/-- topic, payload, the properties before LIFE, those behind it, the user's, quality, retain, life -/
abbrev MV : Type := List Nat × List Nat × List Nat × List Nat × List Nat × Nat × Nat × Int64
def Vok (V : MV) : Prop := (1 ≤ V.1.length ∧ V.1.length ≤ 64) ∧ V.2.1.length + V.2.2.1.length + V.2.2.2.1.length + V.2.2.2.2.1.length ≤ 400 ∧ V.2.2.2.2.2.1 ≤ 2 ∧ V.2.2.2.2.2.2.1 ≤ 1 ∧ (V.2.2.2.2.2.2.2 = -1 ∨ ∃ k, k ≤ 4294967295 ∧ V.2.2.2.2.2.2.2 = n6 k) ∧ (By V.1 ∧ By V.2.1 ∧ By V.2.2.1 ∧ By V.2.2.2.1 ∧ By V.2.2.2.2.1)
def MsC (x : Nat) (h : Hp) (m : Nat) (V : MV) : Prop := hkd h m = 6 ∧ x + 130 ≤ m ∧ m < hnx h ∧ (∃ t, hfr h 500 m = some t ∧ Rw x h t V.1) ∧ (∃ t, hfr h 501 m = some t ∧ Rw x h t V.2.1) ∧ (∃ t, hfr h 504 m = some t ∧ Rw x h t V.2.2.1) ∧ (∃ t, hfr h 505 m = some t ∧ Rw x h t V.2.2.2.1) ∧ (∃ t, hfr h 506 m = some t ∧ Rw x h t V.2.2.2.2.1) ∧ hfi h 502 m = nn V.2.2.2.2.2.1 ∧ hfi h 503 m = nn V.2.2.2.2.2.2.1 ∧ hfl h 507 m = V.2.2.2.2.2.2.2
theorem MsC.sto {x m : Nat} {h h' : Hp} {V : MV} (M : MsC x h m V) (s : Sto x h h') : MsC x h' m V := by
  obtain ⟨m1, m2, m3, ⟨t1, p1, q1⟩, ⟨t2, p2, q2⟩, ⟨t3, p3, q3⟩, ⟨t4, p4, q4⟩, ⟨t5, p5, q5⟩, m4, m5, m6⟩ := M
  have s2 := s.2.1 m m3
  have s3 := s.2.2.1 m m3
  refine ⟨by rw [s2.1]; exact m1, m2, by have := s.1; omega, ⟨t1, by rw [s3.1 500 (by decide)]; exact p1, q1.stp s⟩, ⟨t2, by rw [s3.1 501 (by decide)]; exact p2, q2.stp s⟩, ⟨t3, by rw [s3.1 504 (by decide)]; exact p3, q3.stp s⟩, ⟨t4, by rw [s3.1 505 (by decide)]; exact p4, q4.stp s⟩, ⟨t5, by rw [s3.1 506 (by decide)]; exact p5, q5.stp s⟩, by rw [s3.2.1 502 (by decide)]; exact m4, by rw [s3.2.1 503 (by decide)]; exact m5, by rw [s3.2.2]; exact m6⟩
/-- a row of bytes within slot j of the model's store -/
def Sl (r : RS) (j : Nat) (fa fs : Nat) (bs : List Nat) : Prop := ∃ o, r.2.1 fa j = nn o ∧ r.2.1 fs j = nn bs.length ∧ Mg (r.2.1 45) o bs ∧ 480 * j ≤ o ∧ o + bs.length ≤ 480 * j + 480
def Prt (r : RS) (j key fa fs : Nat) (l : List Nat) : Prop := (r.2.1 fs j = -1 ∧ l = []) ∨ ∃ bs, Sl r j fa fs bs ∧ bs.length < 65536 ∧ l = key :: (bs.length / 256) :: (bs.length % 256) :: bs
def MsM (r : RS) (j : Nat) (V : MV) : Prop := j < 640 ∧ (r.2.1 46 j = nn V.1.length ∧ Mg (r.2.1 45) (480 * j) V.1) ∧ Sl r j 47 48 V.2.1 ∧ ((r.2.1 49 j = -1 ∧ V.2.2.1 = []) ∨ ∃ b, b < 256 ∧ r.2.1 49 j = nn b ∧ V.2.2.1 = [1, b]) ∧ (∃ l3 l8 l9, Prt r j 3 52 53 l3 ∧ Prt r j 8 54 55 l8 ∧ Prt r j 9 56 57 l9 ∧ V.2.2.2.1 = l3 ++ (l8 ++ l9)) ∧ Sl r j 58 59 V.2.2.2.2.1 ∧ r.2.1 60 j = nn V.2.2.2.2.2.1 ∧ r.2.1 61 j = nn V.2.2.2.2.2.2.1 ∧ r.2.2 50 j = V.2.2.2.2.2.2.2
/-- slot j is as it was -/
def Sj (r r' : RS) (j : Nat) : Prop := (∀ k ∈ [46, 47, 48, 49, 52, 53, 54, 55, 56, 57, 58, 59, 60, 61], r'.2.1 k j = r.2.1 k j) ∧ r'.2.2 50 j = r.2.2 50 j ∧ ∀ p, 480 * j ≤ p → p < 480 * j + 480 → r'.2.1 45 p = r.2.1 45 p
theorem Sj.rf {r : RS} {j : Nat} : Sj r r j := ⟨fun _ _ => rfl, rfl, fun _ _ _ => rfl⟩
theorem Sj.tr {r r1 r2 : RS} {j : Nat} (x : Sj r r1 j) (y : Sj r1 r2 j) : Sj r r2 j := ⟨fun k hk => (y.1 k hk).trans (x.1 k hk), y.2.1.trans x.2.1, fun p h1 h2 => (y.2.2 p h1 h2).trans (x.2.2 p h1 h2)⟩
theorem Ro.sj {S : List Nat} {r r' : RS} {j : Nat} (R : Ro S r r') (hS : ∀ k ∈ [45, 46, 47, 48, 49, 50, 52, 53, 54, 55, 56, 57, 58, 59, 60, 61], k ∉ S) : Sj r r' j := by
  refine ⟨fun k hk => ?_, ?_, fun p _ _ => ?_⟩
  · have : k ∉ S := hS k (by
      simp only [List.mem_cons, List.not_mem_nil, or_false] at hk ⊢
      omega)
    rw [(R k this).2.1]
  · rw [(R 50 (hS 50 (by decide))).2.2]
  · rw [(R 45 (hS 45 (by decide))).2.1]
theorem Sl.sj {r r' : RS} {j fa fs : Nat} {bs : List Nat} (s : Sj r r' j) (ha : fa ∈ [46, 47, 48, 49, 52, 53, 54, 55, 56, 57, 58, 59, 60, 61]) (hs : fs ∈ [46, 47, 48, 49, 52, 53, 54, 55, 56, 57, 58, 59, 60, 61]) (l : Sl r j fa fs bs) : Sl r' j fa fs bs := by
  obtain ⟨o, l1, l2, l3, l4, l5⟩ := l
  exact ⟨o, by rw [s.1 fa ha]; exact l1, by rw [s.1 fs hs]; exact l2, l3.of (fun i hi => s.2.2 _ (by omega) (by omega)), l4, l5⟩
theorem Prt.sj {r r' : RS} {j key fa fs : Nat} {l : List Nat} (s : Sj r r' j) (ha : fa ∈ [46, 47, 48, 49, 52, 53, 54, 55, 56, 57, 58, 59, 60, 61]) (hs : fs ∈ [46, 47, 48, 49, 52, 53, 54, 55, 56, 57, 58, 59, 60, 61]) (p : Prt r j key fa fs l) : Prt r' j key fa fs l := by
  rcases p with p | ⟨bs, p1, p2, p3⟩
  · exact Or.inl ⟨by rw [s.1 fs hs]; exact p.1, p.2⟩
  · exact Or.inr ⟨bs, p1.sj s ha hs, p2, p3⟩
theorem MsM.sj {r r' : RS} {j : Nat} {V : MV} (hv : V.1.length ≤ 64) (s : Sj r r' j) (M : MsM r j V) : MsM r' j V := by
  obtain ⟨m1, ⟨m2, m3⟩, m4, m5, ⟨l3, l8, l9, n3, n8, n9, m6⟩, m7, m8, m9, m10⟩ := M
  refine ⟨m1, ⟨by rw [s.1 46 (by decide)]; exact m2, m3.of (fun i hi => s.2.2 _ (by omega) (by omega))⟩, m4.sj s (by decide) (by decide), ?_, ⟨l3, l8, l9, n3.sj s (by decide) (by decide), n8.sj s (by decide) (by decide), n9.sj s (by decide) (by decide), m6⟩, m7.sj s (by decide) (by decide), by rw [s.1 60 (by decide)]; exact m8, by rw [s.1 61 (by decide)]; exact m9, by rw [s.2.1]; exact m10⟩
  rw [s.1 49 (by decide)]
  exact m5
/-! ===== a message's packet ===== -/
def lft (life : Int64) (time came : Int32) : Int64 := if life - (time - came).toInt64 ≤ 0 then 0 else life - (time - came).toInt64
def plen (V : MV) (id : Nat) : Nat := V.2.2.1.length + (if V.2.2.2.2.2.2.2 = -1 then 0 else 5) + V.2.2.2.1.length + (if id = 0 then 0 else 1 + wd id) + V.2.2.2.2.1.length
def pubB (V : MV) (q num id : Nat) (left : Int64) : List Nat := [V.1.length / 256, V.1.length % 256] ++ V.1 ++ (if q = 0 then [] else [num / 256, num % 256]) ++ vb 4 (plen V id) ++ V.2.2.1 ++ (if V.2.2.2.2.2.2.2 = -1 then [] else 2 :: f4 left) ++ V.2.2.2.1 ++ (if id = 0 then [] else 11 :: vb 4 id) ++ V.2.2.2.2.1 ++ V.2.1
theorem wd_le (k : Nat) : wd k ≤ 4 := by
  unfold wd
  split
  · omega
  · split
    · omega
    · split <;> omega
theorem plen_le {V : MV} (hV : Vok V) (id : Nat) : plen V id ≤ 410 := by
  obtain ⟨v1, v2, _⟩ := hV
  unfold plen
  have := wd_le id
  split <;> split <;> omega
theorem f4_len (v : Int64) : (f4 v).length = 4 := rfl
theorem pubB_len {V : MV} (hV : Vok V) (q num id : Nat) (left : Int64) : (pubB V q num id left).length ≤ 500 := by
  obtain ⟨v1, v2, _⟩ := hV
  unfold pubB
  simp only [List.length_append, List.length_cons, List.length_nil]
  have h1 := vb_len 4 (plen V id)
  have h2 : (if q = 0 then ([] : List Nat) else [num / 256, num % 256]).length ≤ 2 := by split <;> simp
  have h3 : (if V.2.2.2.2.2.2.2 = -1 then ([] : List Nat) else 2 :: f4 left).length ≤ 5 := by
    split
    · simp
    · rw [List.length_cons, f4_len]
      omega
  have h4 : (if id = 0 then ([] : List Nat) else 11 :: vb 4 id).length ≤ 5 := by
    have := vb_len 4 id
    split
    · simp
    · rw [List.length_cons]
      omega
  omega
