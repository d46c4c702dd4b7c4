/-! ===== the model's state: its ints by field, its arrays by field; how the heap holds it ===== -/
def mkd : List Nat := [0, 3, 3, 1, 2, 1, 2, 1, 1, 1, 2, 3, 1, 1, 2, 1, 4, 1, 4, 1, 1, 4, 4, 4, 1, 1, 2, 1, 1, 1, 1, 1, 1, 1, 1, 1, 1, 3, 1, 1, 1, 1, 1, 1, 1, 2, 1, 1, 1, 1, 4, 1, 1, 1, 1, 1, 1, 1, 1, 1, 1, 1, 1, 3, 1, 0, 0, 0, 0, 0, 0, 0, 0, 0, 0, 0, 0, 0, 0, 0, 0, 0, 3, 4, 1, 1, 2, 0, 2, 0, 2, 0, 1, 1, 1, 1, 3, 2, 0]
def mof : List Nat := [0, 1, 2, 3, 4, 5, 6, 7, 8, 9, 10, 11, 12, 13, 14, 15, 16, 17, 18, 19, 20, 21, 22, 23, 24, 25, 26, 27, 28, 29, 30, 31, 32, 33, 34, 35, 36, 37, 38, 39, 40, 41, 42, 43, 44, 45, 46, 47, 48, 49, 50, 51, 52, 53, 54, 55, 56, 57, 58, 59, 60, 61, 62, 63, 64, 0, 0, 0, 0, 0, 0, 0, 0, 0, 0, 0, 0, 0, 0, 0, 0, 0, 65, 66, 67, 68, 69, 0, 70, 0, 71, 0, 72, 73, 74, 75, 76, 77, 0]
def mln : List Nat := [0, 8, 8, 8, 16000, 8, 3280, 8, 8, 32, 2048, 12, 12, 12, 240, 12, 12, 12, 12, 12, 12, 12, 12, 12, 12, 96, 6144, 96, 96, 96, 96, 12, 192, 192, 192, 192, 192, 192, 12, 288, 288, 288, 288, 12, 96, 307200, 640, 640, 640, 640, 640, 640, 640, 640, 640, 640, 640, 640, 640, 640, 640, 640, 640, 640, 16, 0, 0, 0, 0, 0, 0, 0, 0, 0, 0, 0, 0, 0, 0, 0, 0, 0, 64, 64, 64, 64, 410, 0, 1200, 0, 1200, 0, 410, 410, 410, 410, 410, 64, 0]
abbrev RS : Type := (Nat → Int32) × (Nat → Nat → Int32) × (Nat → Nat → Int64)
def rcs : RS → Nat × Nat := fun _ => (0, 0)
def mK (k : Nat) : Nat := mkd.getD k 0
def mO (k : Nat) : Nat := mof.getD k 0
def mL (k : Nat) : Nat := mln.getD k 0
def mV (m0 : Nat) (rs : RS) (k : Nat) : Value := if mK k = 0 then .int (rs.1 k) else .ref (m0 + mO k)
def mA (cA : Nat → ClassId) (rs : RS) (k : Nat) : Cell := if mK k = 4 then arrV (cA 3) (mL k) (fun j => .long (rs.2.2 k j)) else arrV (cA (mK k - 1)) (mL k) (fun j => .int (rs.2.1 k j))
def Rr (w : Wd) (rs : RS) (H : Heap) : Prop :=
  t_OB w.2.2.2.2.2 (w.1.1 14) 99 (w.1.2 14) H (mV w.2.2.2.2.2 rs) ∧ (∀ k, k < 99 → mK k ≠ 0 → H[w.2.2.2.2.2 + mO k]? = some (mA w.2.1 rs k)) ∧ ∀ q, w.2.2.2.2.2 ≤ q → q ≤ w.2.2.2.2.2 + 77 → w.2.2.2.1 q
def sI (rs : RS) (k : Nat) (v : Int32) : RS := (fun j => if j = k then v else rs.1 j, rs.2.1, rs.2.2)
def sA (rs : RS) (k i : Nat) (v : Int32) : RS := (rs.1, fun j => if j = k then upd (rs.2.1 j) i v else rs.2.1 j, rs.2.2)
def sL (rs : RS) (k i : Nat) (v : Int64) : RS := (rs.1, rs.2.1, fun j => if j = k then vp_updL (rs.2.2 j) i v else rs.2.2 j)
abbrev inr (i : Int32) (n : Nat) : Prop := 0 ≤ i ∧ i.toNatClampNeg < n
theorem inr_vp {i : Int32} {n : Nat} (h : inr i n) : vp_in i n := by
  rintro (q | q)
  · exact absurd h.1 (Int32.not_le.mpr q)
  · exact absurd h.2 (Nat.not_lt.mpr q)
/-- the model's own steps -/
def rI {ρ : Type} (k : Nat) (f : Int32 → RS → Option (ρ × RS)) : RS → Option (ρ × RS) := fun rs => f (rs.1 k) rs
def wI {ρ : Type} (k : Nat) (v : Int32) (P : RS → Option (ρ × RS)) : RS → Option (ρ × RS) := fun rs => P (sI rs k v)
def rA {ρ : Type} (k : Nat) (i : Int32) (f : Int32 → RS → Option (ρ × RS)) : RS → Option (ρ × RS) := fun rs => if inr i (mL k) then f (rs.2.1 k i.toNatClampNeg) rs else none
def rL {ρ : Type} (k : Nat) (i : Int32) (f : Int64 → RS → Option (ρ × RS)) : RS → Option (ρ × RS) := fun rs => if inr i (mL k) then f (rs.2.2 k i.toNatClampNeg) rs else none
def wA {ρ : Type} (k : Nat) (i v : Int32) (P : RS → Option (ρ × RS)) : RS → Option (ρ × RS) := fun rs => if inr i (mL k) then P (sA rs k i.toNatClampNeg v) else none
def wL {ρ : Type} (k : Nat) (i : Int32) (v : Int64) (P : RS → Option (ρ × RS)) : RS → Option (ρ × RS) := fun rs => if inr i (mL k) then P (sL rs k i.toNatClampNeg v) else none
theorem m_apart : ∀ k, k < 99 → ∀ j, j < 99 → mK k ≠ 0 → mK j ≠ 0 → mO k = mO j → k = j := by decide +kernel
theorem m_pos : ∀ k, k < 99 → mK k ≠ 0 → 0 < mO k ∧ mO k ≤ 77 := by decide +kernel
theorem m_int : ∀ k, k < 99 → mK k = 0 → (TX12 k).2.2.2 = false ∧ parseFieldDescriptor (TX12 k).2.2.1 = some .int := by decide +kernel
theorem m_fin : ∀ k, k < 99 → mK k ≠ 0 → True := fun _ _ _ => trivial
theorem inX12 : ∀ w ∈ wsX120, w ∈ TB := fun w h => by
  have h1 : w ∈ ([1669, 1671, 1673, 1675, 1677, 1679, 1681, 1683, 1685, 1687, 1689, 1691, 1693, 1695, 1697, 1699, 1701, 1703, 1705, 1707, 1709, 1711, 1713, 1715, 1717, 1719, 1721, 1723, 1725, 1727, 1729, 1731, 1733, 1735, 1737, 1739, 1741, 1743, 1745, 1747, 1749, 1751, 1753, 1755, 1757, 1759, 1761, 1763, 1765, 1767, 1769, 1771, 1773, 1775, 1777, 1779, 1781, 1783, 1785, 1787, 1789, 1791, 1793, 1795, 1797, 1799, 1801, 1803, 1805, 1807, 1809, 1811, 1813, 1815, 1817, 1819, 1821, 1823, 1825, 1827, 1829, 1831, 1833, 1835, 1837, 1839, 1841, 1843, 1845, 1847, 1849, 1851, 1853, 1855, 1857, 1859, 1861, 1863, 1865] : List Nat).filterMap (fun i => tables_1[i]?) := by
    have e : wsX120 = ([1669, 1671, 1673, 1675, 1677, 1679, 1681, 1683, 1685, 1687, 1689, 1691, 1693, 1695, 1697, 1699, 1701, 1703, 1705, 1707, 1709, 1711, 1713, 1715, 1717, 1719, 1721, 1723, 1725, 1727, 1729, 1731, 1733, 1735, 1737, 1739, 1741, 1743, 1745, 1747, 1749, 1751, 1753, 1755, 1757, 1759, 1761, 1763, 1765, 1767, 1769, 1771, 1773, 1775, 1777, 1779, 1781, 1783, 1785, 1787, 1789, 1791, 1793, 1795, 1797, 1799, 1801, 1803, 1805, 1807, 1809, 1811, 1813, 1815, 1817, 1819, 1821, 1823, 1825, 1827, 1829, 1831, 1833, 1835, 1837, 1839, 1841, 1843, 1845, 1847, 1849, 1851, 1853, 1855, 1857, 1859, 1861, 1863, 1865] : List Nat).filterMap (fun i => tables_1[i]?) := by decide +kernel
    rw [← e]; exact h
  obtain ⟨i, -, hi⟩ := List.mem_filterMap.mp h1
  refine TB_t (List.mem_of_getElem? hi) ?_
  obtain ⟨k, hk, rfl⟩ := List.mem_map.mp h
  unfold u_lay
  split <;> rfl
section OB
variable {p : Program} {l : Launch} {e : Env} {R : Room} {s : State} {m : MethodId} {args : Array Value} {below : List Frame} {meth : Method} {c : Code} {H : Heap} {locs : List Loc} {cells slots : Nat} {Q : State → Prop} {cc : ByteArray} {pc : Nat} {ls : Array Slot} {rest : List Value} {a : Nat}
theorem ob_get (hx : p.tables.exec = Jvm.exec) (hb : c.code = cc) {own C : String} {T : u_T} {N idx : Nat} {cC : ClassId} {iS : Nat → Nat} {V : Nat → Value} {Ts : List Cond} (hts : ∀ w ∈ Ts, w.before args s = true) (hin : ∀ w ∈ u_ws C T N, w ∈ Ts) (hown : s.vm.findClass own = some m.cls) (hK : u_Kn s C T N cC iS) (hO : t_OB a cC N iS H V) {k : Nat} (hk : k < N) (hlink : (Cond.fieldLink own idx (T k).1 (T k).2.1 (T k).2.2.1).before args s = true) (hd : decode cc pc = .ok (.getfield idx, 3))
    (kk : W p l e R s m args below meth c H locs cells slots Q (F0 m (pc + 3) ls (V k :: rest))) : W p l e R s m args below meth c H locs cells slots Q (F0 m pc ls (.ref a :: rest)) := by
  obtain ⟨cell, q1, q2, q3, q4⟩ := hO
  obtain ⟨hS, hfc, kC, hkC, hkind⟩ := hK
  obtain ⟨cf, kf, fi, f, hi, hsl⟩ := hS k hk
  refine W.getf hx hb hown hlink hi (u_facts hfc hkC (u_lays hts hin hk) hi).1 q1 (by rw [q3]; exact fun h => by cases h) (v := V k) ?_ rfl rfl hd kk
  rw [hsl, q4 k hk]
theorem ob_put (hx : p.tables.exec = Jvm.exec) (hb : c.code = cc) {own C : String} {T : u_T} {N idx : Nat} {cC : ClassId} {iS : Nat → Nat} {V : Nat → Value} {Ts : List Cond} (hts : ∀ w ∈ Ts, w.before args s = true) (hin : ∀ w ∈ u_ws C T N, w ∈ Ts) (ty0 : Nat → FieldType) (hty : ∀ k, k < N → parseFieldDescriptor (T k).2.2.1 = some (ty0 k)) (hnm : ∀ a, a < N → ∀ b, b < N → a ≠ b → (T a).2.1 ≠ (T b).2.1) (hown : s.vm.findClass own = some m.cls) (hK : u_Kn s C T N cC iS) (hO : t_OB a cC N iS H V) {k : Nat} (hk : k < N) (hlink : (Cond.fieldLink own idx (T k).1 (T k).2.1 (T k).2.2.1).before args s = true) (hfin : (T k).2.2.2 = false) {ty : FieldType} {v : Value} (hdd : parseFieldDescriptor (T k).2.2.1 = some ty) (hn : narrow ty v = v) (hfit : fits ty v = true) (hd : decode cc pc = .ok (.putfield idx, 3))
    (kk : ∀ (H1 : Heap) (i : Nat), t_OB a cC N iS H1 (updV V k v) → H1.size = H.size → (∀ q : Nat, q ≠ a → H1[q]? = H[q]?) → W p l e R s m args below meth c H1 (locs ++ [⟨a, i⟩]) cells slots Q (F0 m (pc + 3) ls rest)) : W p l e R s m args below meth c H locs cells slots Q (F0 m pc ls (v :: .ref a :: rest)) := by
  obtain ⟨cell, q1, q2, q3, q4⟩ := hO
  obtain ⟨hS, hfc, kC, hkC, hkind⟩ := hK
  have hap : ∀ x y, x < N → y < N → x ≠ y → iS x ≠ iS y := by
    intro x y hx hy hne
    obtain ⟨_, _, _, fa, hia, ea⟩ := hS x hx
    obtain ⟨_, _, _, fb, hib, eb⟩ := hS y hy
    rw [← ea, ← eb]
    refine u_apart (u_lays hts hin hx) (u_lays hts hin hy) hia hib ?_
    rw [(State.fieldFound?_type hia (hty x hx)).1, (State.fieldFound?_type hib (hty y hy)).1]
    exact hnm x hx y hy hne
  obtain ⟨cf, kf, fi, f, hi, hsl⟩ := hS k hk
  have hlay := hts _ (hin _ (u_in_lay hk))
  unfold u_lay at hlay
  rw [if_neg (by rw [hfin]; decide)] at hlay
  have hst := (u_facts hfc hkC (u_lays hts hin hk) hi).1
  have h6 := u_store hfc hkC hkind hlay hi hdd hn hfit
  refine W.putK hx hb (f := f) ⟨hown, hlink, ⟨_, _, _, hi⟩, hst⟩ (by rw [q2]; exact h6) q1 q3 (by rw [hsl]; exact k2_hasslot (q4 k hk)) rfl rfl hd fun H' e1 e2 e3 => ?_
  rw [hsl] at e1 ⊢
  exact kk H' _ ⟨_, e1, q2, q3, t_set q4 hap hk v⟩ e2 e3
theorem ar_iast (hx : p.tables.exec = Jvm.exec) (hb : c.code = cc) {cA : ClassId} {n : Nat} {f : Nat → Int32} (hA : ArrOfT s cA .int) (hc : H[a]? = some (arrV cA n (fun j => .int (f j)))) {i x : Int32} (hin : vp_in i n) (hd : decode cc pc = .ok (.iastore, 1))
    (kk : ∀ (H1 : Heap) (z : Nat), H1[a]? = some (arrV cA n (fun j => .int (upd f i.toNatClampNeg (x) j))) → H1.size = H.size → (∀ q : Nat, q ≠ a → H1[q]? = H[q]?) → W p l e R s m args below meth c H1 (locs ++ [⟨a, z⟩]) cells slots Q (F0 m (pc + 1) ls rest)) : W p l e R s m args below meth c H locs cells slots Q (F0 m pc ls (.int x :: .int i :: .ref a :: rest)) := by
  refine W.iast hx hb hc (hA n (fun j => .int (f j))) (fun q => by cases q) (by show ¬ (i < 0 ∨ (arrV _ _ _).slots.size ≤ _); rw [arrV_size]; exact hin) rfl rfl hd fun H1 e z oq => ?_
  refine kk H1 _ ?_ z oq
  rw [e, arrV_store]
  congr 2
  funext q
  by_cases hq : q = i.toNatClampNeg
  · subst hq
    simp [updV, upd]
    done
  · simp [updV, upd, hq]
theorem ar_bast (hx : p.tables.exec = Jvm.exec) (hb : c.code = cc) {cA : ClassId} {n : Nat} {f : Nat → Int32} (hA : ArrOfT s cA .byte) (hc : H[a]? = some (arrV cA n (fun j => .int (f j)))) {i x : Int32} (hin : vp_in i n) (hd : decode cc pc = .ok (.bastore, 1))
    (kk : ∀ (H1 : Heap) (z : Nat), H1[a]? = some (arrV cA n (fun j => .int (upd f i.toNatClampNeg (vp_nar .byte x) j))) → H1.size = H.size → (∀ q : Nat, q ≠ a → H1[q]? = H[q]?) → W p l e R s m args below meth c H1 (locs ++ [⟨a, z⟩]) cells slots Q (F0 m (pc + 1) ls rest)) : W p l e R s m args below meth c H locs cells slots Q (F0 m pc ls (.int x :: .int i :: .ref a :: rest)) := by
  refine W.bast hx hb hc (hA n (fun j => .int (f j))) (fun q => by cases q) (by show ¬ (i < 0 ∨ (arrV _ _ _).slots.size ≤ _); rw [arrV_size]; exact hin) rfl rfl hd fun H1 e z oq => ?_
  refine kk H1 _ ?_ z oq
  rw [e, arrV_store]
  congr 2
  funext q
  by_cases hq : q = i.toNatClampNeg
  · subst hq
    simp [updV, upd, vp_nar]
    try rfl
  · simp [updV, upd, hq]
theorem ar_zast (hx : p.tables.exec = Jvm.exec) (hb : c.code = cc) {cA : ClassId} {n : Nat} {f : Nat → Int32} (hA : ArrOfT s cA .boolean) (hc : H[a]? = some (arrV cA n (fun j => .int (f j)))) {i x : Int32} (hin : vp_in i n) (hd : decode cc pc = .ok (.bastore, 1))
    (kk : ∀ (H1 : Heap) (z : Nat), H1[a]? = some (arrV cA n (fun j => .int (upd f i.toNatClampNeg (vp_nar .boolean x) j))) → H1.size = H.size → (∀ q : Nat, q ≠ a → H1[q]? = H[q]?) → W p l e R s m args below meth c H1 (locs ++ [⟨a, z⟩]) cells slots Q (F0 m (pc + 1) ls rest)) : W p l e R s m args below meth c H locs cells slots Q (F0 m pc ls (.int x :: .int i :: .ref a :: rest)) := by
  refine W.zast hx hb hc (hA n (fun j => .int (f j))) (fun q => by cases q) (by show ¬ (i < 0 ∨ (arrV _ _ _).slots.size ≤ _); rw [arrV_size]; exact hin) rfl rfl hd fun H1 e z oq => ?_
  refine kk H1 _ ?_ z oq
  rw [e, arrV_store]
  congr 2
  funext q
  by_cases hq : q = i.toNatClampNeg
  · subst hq
    simp [updV, upd, vp_nar]
    try rfl
  · simp [updV, upd, hq]
theorem ar_last (hx : p.tables.exec = Jvm.exec) (hb : c.code = cc) {cA : ClassId} {n : Nat} {f : Nat → Int64} (hA : ArrOfT s cA .long) (hc : H[a]? = some (arrV cA n (fun j => .long (f j)))) {i : Int32} {x : Int64} (hin : vp_in i n) (hd : decode cc pc = .ok (.lastore, 1))
    (kk : ∀ (H1 : Heap) (z : Nat), H1[a]? = some (arrV cA n (fun j => .long (vp_updL f i.toNatClampNeg x j))) → H1.size = H.size → (∀ q : Nat, q ≠ a → H1[q]? = H[q]?) → W p l e R s m args below meth c H1 (locs ++ [⟨a, z⟩]) cells slots Q (F0 m (pc + 1) ls rest)) : W p l e R s m args below meth c H locs cells slots Q (F0 m pc ls (.long x :: .int i :: .ref a :: rest)) := by
  refine W.last hx hb hc (hA n (fun j => .long (f j))) (fun q => by cases q) (by show ¬ (i < 0 ∨ (arrV _ _ _).slots.size ≤ _); rw [arrV_size]; exact hin) rfl rfl hd fun H1 e z oq => ?_
  refine kk H1 _ ?_ z oq
  rw [e, arrV_store]
  congr 2
  funext q
  by_cases hq : q = i.toNatClampNeg
  · subst hq
    simp [updV, vp_updL]
  · simp [updV, vp_updL, hq]
end OB
/-- the model's methods: the bundle of what holds in one -/
def Br {ρ : Type} (g : Gm RS ρ) (cc : ByteArray) (nL : Nat) (vo : ρ → Option Value) (ret : Option FieldType) (fr lo : Nat) : Prop :=
  Cx g cc nL RX12 ∧ Rx g vo ret fr lo ∧ g.2.2.2.2.2.2.2.2.2.2.1 = Rr g.1 ∧ g.2.2.2.2.2.2.2.2.2.2.2.1 = rcs
section RSR
variable {ρ : Type} {g : Gm RS ρ} {cc : ByteArray} {nL pc : Nat} {lv : List (Nat × Value)} {st : List Value} {vo : ρ → Option Value} {ret : Option FieldType} {fr lo : Nat} {P : RS → Option (ρ × RS)}
theorem kn12 {w : Wd} {s : State} (h : GK w s) : u_Kn s RX12 TX12 99 (w.1.1 14) (w.1.2 14) := h.1.1 14 _ rfl
theorem arT {w : Wd} {s : State} (h : GK w s) (k : Nat) {ty : FieldType} (hk : (tyl w.2.1)[k]? = some (w.2.1 k, ty)) : ArrOfT s (w.2.1 k) ty := (h.1.2 k _ hk).1
theorem rr_getI (B : Br g cc nL vo ret fr lo) (k : Nat) (hk : k < 99) (h0 : mK k = 0) {idx : Nat} (hlink : Cond.fieldLink RX12 idx (TX12 k).1 (TX12 k).2.1 (TX12 k).2.2.1 ∈ TB) (d : decode cc pc = .ok (.getfield idx, 3)) {f : Int32 → RS → Option (ρ × RS)}
    (kk : ∀ v, Sm g nL (pc + 3) lv (.int v :: st) (f v)) : Sm g nL pc lv (.ref g.1.2.2.2.2.2 :: st) (rI k f) := by
  obtain ⟨w, p, e, R, s, m, args, below, meth, c, Rl, cs, b, Qf⟩ := g
  obtain ⟨⟨hx, hb, hml, hown, hts, hlocks, hG, hw⟩, -, eR, eC⟩ := B
  have eR : Rl = Rr w := eR
  have eC : cs = rcs := eC
  subst eR; subst eC
  refine ⟨fun σ r σ' hP => ⟨Nat.le_refl _, Nat.le_refl _⟩, fun σ r σ' H locs ls hP hR hS hl b1 b2 b3 b4 => ?_⟩
  refine ob_get hx hb hts inX12 hown (kn12 hG) hR.1 hk (hts _ hlink) d ?_
  rw [show mV w.2.2.2.2.2 σ k = .int (σ.1 k) by simp [mV, h0]]
  exact (kk (σ.1 k)).2 σ r σ' H locs ls hP hR hS hl b1 b2 b3 b4
theorem rr_getA (B : Br g cc nL vo ret fr lo) (k : Nat) (hk : k < 99) (h0 : mK k ≠ 0) {idx : Nat} (hlink : Cond.fieldLink RX12 idx (TX12 k).1 (TX12 k).2.1 (TX12 k).2.2.1 ∈ TB) (d : decode cc pc = .ok (.getfield idx, 3))
    (kk : Sm g nL (pc + 3) lv (.ref (g.1.2.2.2.2.2 + mO k) :: st) P) : Sm g nL pc lv (.ref g.1.2.2.2.2.2 :: st) P := by
  obtain ⟨w, p, e, R, s, m, args, below, meth, c, Rl, cs, b, Qf⟩ := g
  obtain ⟨⟨hx, hb, hml, hown, hts, hlocks, hG, hw⟩, -, eR, eC⟩ := B
  have eR : Rl = Rr w := eR
  have eC : cs = rcs := eC
  subst eR; subst eC
  refine ⟨kk.1, fun σ r σ' H locs ls hP hR hS hl b1 b2 b3 b4 => ?_⟩
  refine ob_get hx hb hts inX12 hown (kn12 hG) hR.1 hk (hts _ hlink) d ?_
  rw [show mV w.2.2.2.2.2 σ k = .ref (w.2.2.2.2.2 + mO k) by simp [mV, h0]]
  exact kk.2 σ r σ' H locs ls hP hR hS hl b1 b2 b3 b4
theorem rr_putI (B : Br g cc nL vo ret fr lo) (k : Nat) (hk : k < 99) (h0 : mK k = 0) {idx : Nat} (hlink : Cond.fieldLink RX12 idx (TX12 k).1 (TX12 k).2.1 (TX12 k).2.2.1 ∈ TB) (d : decode cc pc = .ok (.putfield idx, 3)) {v : Int32}
    (kk : Sm g nL (pc + 3) lv st P) : Sm g nL pc lv (.int v :: .ref g.1.2.2.2.2.2 :: st) (wI k v P) := by
  obtain ⟨w, p, e, R, s, m, args, below, meth, c, Rl, cs, b, Qf⟩ := g
  obtain ⟨⟨hx, hb, hml, hown, hts, hlocks, hG, hw⟩, -, eR, eC⟩ := B
  have eR : Rl = Rr w := eR
  have eC : cs = rcs := eC
  subst eR; subst eC
  refine ⟨fun σ r σ' hP => ⟨Nat.le_refl _, Nat.le_refl _⟩, fun σ r σ' H locs ls hP hR hS hl b1 b2 b3 b4 => ?_⟩
  obtain ⟨hf, hty⟩ := m_int k hk h0
  refine ob_put hx hb hts inX12 tyX12 tyX12_ok nmX12 hown (kn12 hG) hR.1 hk (hts _ hlink) hf (v := .int v) hty rfl rfl d (fun H1 i hO hz oq => ?_)
  refine kk.2 (sI σ k v) r σ' H1 _ ls hP ⟨t_OB.to hO (fun j hj => ?_), fun j hj hne => ?_, hR.2.2⟩ (hS.put hz oq (hR.2.2 _ (Nat.le_refl _) (Nat.le_add_right _ _))) hl b1 b2 b3 b4
  · by_cases e : j = k
    · subst e; simp [updV, mV, h0, sI]
    · simp [updV, mV, sI, e]
  · rw [oq _ (by have := m_pos j hj hne; omega)]
    exact hR.2.1 j hj hne
theorem rr_iald (B : Br g cc nL vo ret fr lo) (k : Nat) (hk : k < 99) (h0 : mK k = 1) {i : Int32} (d : decode cc pc = .ok (.iaload, 1)) {f : Int32 → RS → Option (ρ × RS)}
    (kk : ∀ v, Sm g nL (pc + 1) lv (.int v :: st) (f v)) : Sm g nL pc lv (.int i :: .ref (g.1.2.2.2.2.2 + mO k) :: st) (rA k i f) := by
  obtain ⟨w, p, e, R, s, m, args, below, meth, c, Rl, cs, b, Qf⟩ := g
  obtain ⟨⟨hx, hb, hml, hown, hts, hlocks, hG, hw⟩, -, eR, eC⟩ := B
  have eR : Rl = Rr w := eR
  have eC : cs = rcs := eC
  subst eR; subst eC
  refine ⟨fun σ r σ' hP => ⟨Nat.le_refl _, Nat.le_refl _⟩, fun σ r σ' H locs ls hP hR hS hl b1 b2 b3 b4 => ?_⟩
  unfold rA at hP
  by_cases hi : inr i (mL k)
  · rw [if_pos hi] at hP
    have hc := hR.2.1 k hk (by omega)
    rw [show mA w.2.1 σ k = arrV (w.2.1 0) (mL k) (fun j => .int (σ.2.1 k j)) by simp [mA, h0]] at hc
    refine W.iald (v := .int (σ.2.1 k i.toNatClampNeg)) hx hb hc (arT hG 0 rfl (mL k) (fun j => .int (σ.2.1 k j))) (fun q => by cases q) (by rw [arrV_size]; exact inr_vp hi) (by rw [arrV_read _ _ hi.2]) rfl rfl d ?_
    exact (kk _).2 σ r σ' H locs ls hP hR hS hl b1 b2 b3 b4
  · rw [if_neg hi] at hP; cases hP
theorem rr_bald (B : Br g cc nL vo ret fr lo) (k : Nat) (hk : k < 99) (h0 : mK k = 2) {i : Int32} (d : decode cc pc = .ok (.baload, 1)) {f : Int32 → RS → Option (ρ × RS)}
    (kk : ∀ v, Sm g nL (pc + 1) lv (.int v :: st) (f v)) : Sm g nL pc lv (.int i :: .ref (g.1.2.2.2.2.2 + mO k) :: st) (rA k i f) := by
  obtain ⟨w, p, e, R, s, m, args, below, meth, c, Rl, cs, b, Qf⟩ := g
  obtain ⟨⟨hx, hb, hml, hown, hts, hlocks, hG, hw⟩, -, eR, eC⟩ := B
  have eR : Rl = Rr w := eR
  have eC : cs = rcs := eC
  subst eR; subst eC
  refine ⟨fun σ r σ' hP => ⟨Nat.le_refl _, Nat.le_refl _⟩, fun σ r σ' H locs ls hP hR hS hl b1 b2 b3 b4 => ?_⟩
  unfold rA at hP
  by_cases hi : inr i (mL k)
  · rw [if_pos hi] at hP
    have hc := hR.2.1 k hk (by omega)
    rw [show mA w.2.1 σ k = arrV (w.2.1 1) (mL k) (fun j => .int (σ.2.1 k j)) by simp [mA, h0]] at hc
    refine W.bald (v := .int (σ.2.1 k i.toNatClampNeg)) hx hb hc (arT hG 1 rfl (mL k) (fun j => .int (σ.2.1 k j))) (fun q => by cases q) (by rw [arrV_size]; exact inr_vp hi) (by rw [arrV_read _ _ hi.2]) rfl rfl d ?_
    exact (kk _).2 σ r σ' H locs ls hP hR hS hl b1 b2 b3 b4
  · rw [if_neg hi] at hP; cases hP
theorem rr_zald (B : Br g cc nL vo ret fr lo) (k : Nat) (hk : k < 99) (h0 : mK k = 3) {i : Int32} (d : decode cc pc = .ok (.baload, 1)) {f : Int32 → RS → Option (ρ × RS)}
    (kk : ∀ v, Sm g nL (pc + 1) lv (.int v :: st) (f v)) : Sm g nL pc lv (.int i :: .ref (g.1.2.2.2.2.2 + mO k) :: st) (rA k i f) := by
  obtain ⟨w, p, e, R, s, m, args, below, meth, c, Rl, cs, b, Qf⟩ := g
  obtain ⟨⟨hx, hb, hml, hown, hts, hlocks, hG, hw⟩, -, eR, eC⟩ := B
  have eR : Rl = Rr w := eR
  have eC : cs = rcs := eC
  subst eR; subst eC
  refine ⟨fun σ r σ' hP => ⟨Nat.le_refl _, Nat.le_refl _⟩, fun σ r σ' H locs ls hP hR hS hl b1 b2 b3 b4 => ?_⟩
  unfold rA at hP
  by_cases hi : inr i (mL k)
  · rw [if_pos hi] at hP
    have hc := hR.2.1 k hk (by omega)
    rw [show mA w.2.1 σ k = arrV (w.2.1 2) (mL k) (fun j => .int (σ.2.1 k j)) by simp [mA, h0]] at hc
    refine W.zald (v := .int (σ.2.1 k i.toNatClampNeg)) hx hb hc (arT hG 2 rfl (mL k) (fun j => .int (σ.2.1 k j))) (fun q => by cases q) (by rw [arrV_size]; exact inr_vp hi) (by rw [arrV_read _ _ hi.2]) rfl rfl d ?_
    exact (kk _).2 σ r σ' H locs ls hP hR hS hl b1 b2 b3 b4
  · rw [if_neg hi] at hP; cases hP
theorem rr_lald (B : Br g cc nL vo ret fr lo) (k : Nat) (hk : k < 99) (h0 : mK k = 4) {i : Int32} (d : decode cc pc = .ok (.laload, 1)) {f : Int64 → RS → Option (ρ × RS)}
    (kk : ∀ v, Sm g nL (pc + 1) lv (.long v :: st) (f v)) : Sm g nL pc lv (.int i :: .ref (g.1.2.2.2.2.2 + mO k) :: st) (rL k i f) := by
  obtain ⟨w, p, e, R, s, m, args, below, meth, c, Rl, cs, b, Qf⟩ := g
  obtain ⟨⟨hx, hb, hml, hown, hts, hlocks, hG, hw⟩, -, eR, eC⟩ := B
  have eR : Rl = Rr w := eR
  have eC : cs = rcs := eC
  subst eR; subst eC
  refine ⟨fun σ r σ' hP => ⟨Nat.le_refl _, Nat.le_refl _⟩, fun σ r σ' H locs ls hP hR hS hl b1 b2 b3 b4 => ?_⟩
  unfold rL at hP
  by_cases hi : inr i (mL k)
  · rw [if_pos hi] at hP
    have hc := hR.2.1 k hk (by omega)
    rw [show mA w.2.1 σ k = arrV (w.2.1 3) (mL k) (fun j => .long (σ.2.2 k j)) by simp [mA, h0]] at hc
    refine W.lald (v := .long (σ.2.2 k i.toNatClampNeg)) hx hb hc (arT hG 3 rfl (mL k) (fun j => .long (σ.2.2 k j))) (fun q => by cases q) (by rw [arrV_size]; exact inr_vp hi) (by rw [arrV_read _ _ hi.2]) rfl rfl d ?_
    exact (kk _).2 σ r σ' H locs ls hP hR hS hl b1 b2 b3 b4
  · rw [if_neg hi] at hP; cases hP
theorem rr_iast (B : Br g cc nL vo ret fr lo) (k : Nat) (hk : k < 99) (h0 : mK k = 1) {i v : Int32} (d : decode cc pc = .ok (.iastore, 1))
    (kk : Sm g nL (pc + 1) lv st P) : Sm g nL pc lv (.int v :: .int i :: .ref (g.1.2.2.2.2.2 + mO k) :: st) (wA k i (v) P) := by
  obtain ⟨w, p, e, R, s, m, args, below, meth, c, Rl, cs, b, Qf⟩ := g
  obtain ⟨⟨hx, hb, hml, hown, hts, hlocks, hG, hw⟩, -, eR, eC⟩ := B
  have eR : Rl = Rr w := eR
  have eC : cs = rcs := eC
  subst eR; subst eC
  refine ⟨fun σ r σ' hP => ⟨Nat.le_refl _, Nat.le_refl _⟩, fun σ r σ' H locs ls hP hR hS hl b1 b2 b3 b4 => ?_⟩
  unfold wA at hP
  by_cases hi : inr i (mL k)
  · rw [if_pos hi] at hP
    have hc := hR.2.1 k hk (by omega)
    have hpos := m_pos k hk (by omega)
    rw [show mA w.2.1 σ k = arrV (w.2.1 0) (mL k) (fun j => .int (σ.2.1 k j)) by simp [mA, h0]] at hc
    refine ar_iast hx hb (arT hG 0 rfl) hc (inr_vp hi) d (fun H1 z e1 hz oq => ?_)
    refine kk.2 (sA σ k i.toNatClampNeg (v)) r σ' H1 _ ls hP ⟨t_OB.kept hR.1 (oq _ (by omega)), fun j hj hne => ?_, hR.2.2⟩ (hS.put hz oq (hR.2.2 _ (by omega) (by omega))) hl b1 b2 b3 b4
    by_cases e : j = k
    · subst e
      rw [e1]
      simp [mA, h0, sA]
    · rw [oq _ (fun q => e (m_apart j hj k hk hne (by omega) (by omega)))]
      rw [hR.2.1 j hj hne]
      simp [mA, sA, e]
  · rw [if_neg hi] at hP; cases hP
theorem rr_bast (B : Br g cc nL vo ret fr lo) (k : Nat) (hk : k < 99) (h0 : mK k = 2) {i v : Int32} (d : decode cc pc = .ok (.bastore, 1))
    (kk : Sm g nL (pc + 1) lv st P) : Sm g nL pc lv (.int v :: .int i :: .ref (g.1.2.2.2.2.2 + mO k) :: st) (wA k i (vp_nar .byte v) P) := by
  obtain ⟨w, p, e, R, s, m, args, below, meth, c, Rl, cs, b, Qf⟩ := g
  obtain ⟨⟨hx, hb, hml, hown, hts, hlocks, hG, hw⟩, -, eR, eC⟩ := B
  have eR : Rl = Rr w := eR
  have eC : cs = rcs := eC
  subst eR; subst eC
  refine ⟨fun σ r σ' hP => ⟨Nat.le_refl _, Nat.le_refl _⟩, fun σ r σ' H locs ls hP hR hS hl b1 b2 b3 b4 => ?_⟩
  unfold wA at hP
  by_cases hi : inr i (mL k)
  · rw [if_pos hi] at hP
    have hc := hR.2.1 k hk (by omega)
    have hpos := m_pos k hk (by omega)
    rw [show mA w.2.1 σ k = arrV (w.2.1 1) (mL k) (fun j => .int (σ.2.1 k j)) by simp [mA, h0]] at hc
    refine ar_bast hx hb (arT hG 1 rfl) hc (inr_vp hi) d (fun H1 z e1 hz oq => ?_)
    refine kk.2 (sA σ k i.toNatClampNeg (vp_nar .byte v)) r σ' H1 _ ls hP ⟨t_OB.kept hR.1 (oq _ (by omega)), fun j hj hne => ?_, hR.2.2⟩ (hS.put hz oq (hR.2.2 _ (by omega) (by omega))) hl b1 b2 b3 b4
    by_cases e : j = k
    · subst e
      rw [e1]
      simp [mA, h0, sA]
    · rw [oq _ (fun q => e (m_apart j hj k hk hne (by omega) (by omega)))]
      rw [hR.2.1 j hj hne]
      simp [mA, sA, e]
  · rw [if_neg hi] at hP; cases hP
theorem rr_zast (B : Br g cc nL vo ret fr lo) (k : Nat) (hk : k < 99) (h0 : mK k = 3) {i v : Int32} (d : decode cc pc = .ok (.bastore, 1))
    (kk : Sm g nL (pc + 1) lv st P) : Sm g nL pc lv (.int v :: .int i :: .ref (g.1.2.2.2.2.2 + mO k) :: st) (wA k i (vp_nar .boolean v) P) := by
  obtain ⟨w, p, e, R, s, m, args, below, meth, c, Rl, cs, b, Qf⟩ := g
  obtain ⟨⟨hx, hb, hml, hown, hts, hlocks, hG, hw⟩, -, eR, eC⟩ := B
  have eR : Rl = Rr w := eR
  have eC : cs = rcs := eC
  subst eR; subst eC
  refine ⟨fun σ r σ' hP => ⟨Nat.le_refl _, Nat.le_refl _⟩, fun σ r σ' H locs ls hP hR hS hl b1 b2 b3 b4 => ?_⟩
  unfold wA at hP
  by_cases hi : inr i (mL k)
  · rw [if_pos hi] at hP
    have hc := hR.2.1 k hk (by omega)
    have hpos := m_pos k hk (by omega)
    rw [show mA w.2.1 σ k = arrV (w.2.1 2) (mL k) (fun j => .int (σ.2.1 k j)) by simp [mA, h0]] at hc
    refine ar_zast hx hb (arT hG 2 rfl) hc (inr_vp hi) d (fun H1 z e1 hz oq => ?_)
    refine kk.2 (sA σ k i.toNatClampNeg (vp_nar .boolean v)) r σ' H1 _ ls hP ⟨t_OB.kept hR.1 (oq _ (by omega)), fun j hj hne => ?_, hR.2.2⟩ (hS.put hz oq (hR.2.2 _ (by omega) (by omega))) hl b1 b2 b3 b4
    by_cases e : j = k
    · subst e
      rw [e1]
      simp [mA, h0, sA]
    · rw [oq _ (fun q => e (m_apart j hj k hk hne (by omega) (by omega)))]
      rw [hR.2.1 j hj hne]
      simp [mA, sA, e]
  · rw [if_neg hi] at hP; cases hP
theorem rr_last (B : Br g cc nL vo ret fr lo) (k : Nat) (hk : k < 99) (h0 : mK k = 4) {i : Int32} {v : Int64} (d : decode cc pc = .ok (.lastore, 1))
    (kk : Sm g nL (pc + 1) lv st P) : Sm g nL pc lv (.long v :: .int i :: .ref (g.1.2.2.2.2.2 + mO k) :: st) (wL k i v P) := by
  obtain ⟨w, p, e, R, s, m, args, below, meth, c, Rl, cs, b, Qf⟩ := g
  obtain ⟨⟨hx, hb, hml, hown, hts, hlocks, hG, hw⟩, -, eR, eC⟩ := B
  have eR : Rl = Rr w := eR
  have eC : cs = rcs := eC
  subst eR; subst eC
  refine ⟨fun σ r σ' hP => ⟨Nat.le_refl _, Nat.le_refl _⟩, fun σ r σ' H locs ls hP hR hS hl b1 b2 b3 b4 => ?_⟩
  unfold wL at hP
  by_cases hi : inr i (mL k)
  · rw [if_pos hi] at hP
    have hc := hR.2.1 k hk (by omega)
    have hpos := m_pos k hk (by omega)
    rw [show mA w.2.1 σ k = arrV (w.2.1 3) (mL k) (fun j => .long (σ.2.2 k j)) by simp [mA, h0]] at hc
    refine ar_last hx hb (arT hG 3 rfl) hc (inr_vp hi) d (fun H1 z e1 hz oq => ?_)
    refine kk.2 (sL σ k i.toNatClampNeg v) r σ' H1 _ ls hP ⟨t_OB.kept hR.1 (oq _ (by omega)), fun j hj hne => ?_, hR.2.2⟩ (hS.put hz oq (hR.2.2 _ (by omega) (by omega))) hl b1 b2 b3 b4
    by_cases e : j = k
    · subst e
      rw [e1]
      simp [mA, h0, sL]
    · rw [oq _ (fun q => e (m_apart j hj k hk hne (by omega) (by omega)))]
      rw [hR.2.1 j hj hne]
      simp [mA, sL, e]
  · rw [if_neg hi] at hP; cases hP
end RSR
abbrev MR {ρ : Type} (w : Wd) (y : MethodName) (cc : ByteArray) (nL : Nat) (ret : Option FieldType) (fr lo : Nat) (vo : ρ → Option Value) (av : List Value) (P : RS → Option (ρ × RS)) : Prop := MC w (Rr w) rcs y cc nL ret fr lo vo av P
theorem MR.of {ρ : Type} {w : Wd} {y : MethodName} {cc : ByteArray} {nL : Nat} {ret : Option FieldType} {fr lo : Nat} {vo : ρ → Option Value} {av : List Value} {P : RS → Option (ρ × RS)}
    (hw : Wok w) (hy : y.cls = RX12) (hn : (lg_sl av).length ≤ nL)
    (h : ∀ g : Gm RS ρ, g.1 = w → Br g cc nL vo ret fr lo → Sm g nL 0 (lv_args 0 av) [] P) : MR w y cc nL ret fr lo vo av P :=
  MC.of hw (by rw [hy]; decide) hn (fun _ _ _ _ => ⟨Nat.le_refl _, Nat.le_refl _⟩) (fun g h1 h2 h3 X Y => h g h1 ⟨by rw [← hy]; exact X, Y, by rw [h2, h1], h3⟩)
section RCL
variable {ρ α : Type} {g : Gm RS ρ} {cc : ByteArray} {nL pc : Nat} {lv : List (Nat × Value)} {st : List Value} {vo : ρ → Option Value} {ret : Option FieldType} {fr lo : Nat} {vo' : α → Option Value} {y : MethodName} {cb : ByteArray} {n2 : Nat} {ret2 : Option FieldType} {fr2 lo2 idx : Nat} {As : List Value} {Pk : RS → Option (α × RS)} {f : α → RS → Option (ρ × RS)}
theorem rr_callV (B : Br g cc nL vo ret fr lo) (M : MR g.1 y cb n2 ret2 fr2 lo2 vo' (.ref g.1.2.2.2.2.2 :: As) Pk)
    (hcode : Cond.code y cb n2 ret2 ∈ TB) (hlink : Cond.methodLink RX12 idx y ∈ TB) (hin : Cond.instanceMethod y ∈ TB) (hsel : Cond.selects RX12 y y ∈ TB) (hini : Cond.initialized y.cls ∈ TB)
    (hd : y.cls ≠ "java/lang/invoke/MethodHandle" ∧ y.cls ≠ "java/lang/invoke/VarHandle" ∧ (parseMethodDescriptor y.desc).map (fun d => d.parameters.length) = some As.length)
    (hR : fr2 + 1 ≤ fr ∧ 8 + (n2 + 11) + lo2 ≤ lo) (hc : (st.map fun v => v.category).sum ≤ 8) (d : decode cc pc = .ok (.invokevirtual idx, 3))
    (k : ∀ r, Sm g nL (pc + 3) lv ((vo' r).toList ++ st) (f r)) : Sm g nL pc lv (As.reverse ++ .ref g.1.2.2.2.2.2 :: st) (bd Pk f) := by
  refine s_callV0 (fun _ => True) (C := RX12) B.1 B.2.1.fx (by rw [B.2.2.1, B.2.2.2]; exact M) (fun σ H _ hR => ?_) (fun σ r σ' h => ⟨trivial, h⟩) hcode hlink hin hsel hini hd hR hc d k
  rw [B.2.2.1] at hR
  obtain ⟨cell, q1, q2, q3, -⟩ := hR.1
  refine ⟨cell, q1, by rw [q3]; rfl, ?_⟩
  rw [q2]
  obtain ⟨w, p, e, R, s, m, args, below, meth, c, Rl, cs, b, Qf⟩ := g
  obtain ⟨⟨hx, hb, hml, hown, hts, hlocks, hG, hw⟩, -⟩ := B
  exact (kn12 hG).2.1
theorem rr_callS (B : Br g cc nL vo ret fr lo) (M : MR g.1 y cb n2 ret2 fr2 lo2 vo' As Pk)
    (hcode : Cond.code y cb n2 ret2 ∈ TB) (hlink : Cond.methodLink RX12 idx y ∈ TB) (hst : Cond.static y ∈ TB) (hini : Cond.initialized y.cls ∈ TB)
    (hd : y.cls ≠ "java/lang/invoke/MethodHandle" ∧ y.cls ≠ "java/lang/invoke/VarHandle" ∧ (parseMethodDescriptor y.desc).map (fun d => d.parameters.length) = some As.length)
    (hR : fr2 + 1 ≤ fr ∧ 8 + (n2 + 11) + lo2 ≤ lo) (hc : (st.map fun v => v.category).sum ≤ 8) (d : decode cc pc = .ok (.invokestatic idx, 3))
    (k : ∀ r, Sm g nL (pc + 3) lv ((vo' r).toList ++ st) (f r)) : Sm g nL pc lv (As.reverse ++ st) (bd Pk f) :=
  s_callS B.1 B.2.1.fx (by rw [B.2.2.1, B.2.2.2]; exact M) hcode hlink hst hini hd hR hc d k
end RCL
