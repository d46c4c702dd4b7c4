/-! ===== strings and constant arrays, by number: 0 $share/ 1 MQTT 2 auto; 0 BEFORE_LIFE 1 BEHIND_LIFE ===== -/
def sby : List (List Int32) := [[36, 115, 104, 97, 114, 101, 47], [77, 81, 84, 84], [97, 117, 116, 111]]
def stx : List String := ["$share/", "MQTT", "auto"]
def kby : List (List Int32) := [[1], [3, 8, 9]]
def knm : List String := ["BEFORE_LIFE", "BEHIND_LIFE"]
def slen (j : Nat) : Nat := (sby.getD j []).length
def klen (j : Nat) : Nat := (kby.getD j []).length
def slits : List (String × Nat × Nat) := [(RX2, 25, 1), (RX11, 591, 0), (RX7, 29, 0), (RX11, 405, 2)]
def XS (w : Wd) (U : State) : Prop :=
  (∀ j, j < 3 → va_O "java/lang/String" (w.2.1 (1000 + j)) w.2.2.2.1 U U.heap ∧ va_OF "java/lang/String" "coder" "B" (.int 0) (w.2.1 (1000 + j)) w.2.2.2.1 U U.heap ∧ va_OF "java/lang/String" "value" "[B" (.ref (w.2.1 (1010 + j))) (w.2.1 (1000 + j)) w.2.2.2.1 U U.heap ∧ va_T .byte (w.2.1 (1010 + j)) (slen j) (fun i => .int ((sby.getD j []).getD i 0)) w.2.2.2.1 U U.heap) ∧
  (∀ q ∈ slits, vk_R q.1 q.2.1 (stx.getD q.2.2 "") (w.2.1 (1000 + q.2.2)) U) ∧
  (∀ j, j < 2 → va_Z "TopicBroker" (knm.getD j "") "[I" (.ref (w.2.1 (1020 + j))) w.2.2.2.1 U U.heap ∧ va_T .int (w.2.1 (1020 + j)) (klen j) (fun i => .int ((kby.getD j []).getD i 0)) w.2.2.2.1 U U.heap) ∧
  va_Z "java/lang/String" "COMPACT_STRINGS" "Z" (.int 1) w.2.2.2.1 U U.heap ∧ va_Zq "jdk/internal/util/Preconditions" "SIOOBE_FORMATTER" "Ljava/util/function/BiFunction;" w.2.2.2.1 U U.heap
def XC (w : Wd) (U : State) : Prop := XK1 U ∧ XS w U
def Wc (w : Wd) : Prop := Wok w ∧ ∀ U, w.2.2.1 U → XC w U
/-- the bundle of a method of the class -/
def Bx {ρ : Type} (g : Gm Hp ρ) (cc : ByteArray) (nL : Nat) (own : String) (vo : ρ → Option Value) (ret : Option FieldType) (fr lo : Nat) (nm : String) : Prop :=
  Bc g cc nL own vo ret fr lo ∧ Wc g.1 ∧ XC g.1 g.2.2.2.2.1 ∧ g.2.2.2.2.2.2.2.2.1.name = nm ∧ Rx g vo ret fr lo
theorem cat_i (x : Int32) : (Value.int x).category = 1 := rfl
theorem cat_l (x : Int64) : (Value.long x).category = 2 := rfl
theorem cat_r (x : Nat) : (Value.ref x).category = 1 := rfl
theorem W_lva {S ρ : Type} {g : Gm S ρ} {nL pc : Nat} {lv0 lv : List (Nat × Value)} {st : List Value} {P : S → Option (ρ × S)} (h : lv0 = lv) (k : Sm g nL pc lv st P) : Sm g nL pc lv0 st P := h ▸ k
theorem rfR {n : String} : ∀ x : Option Nat, narrow (.object n) (va_rf x) = va_rf x ∧ fits (.object n) (va_rf x) = true := fun x => by cases x <;> exact ⟨rfl, rfl⟩
theorem rfA {n : FieldType} : ∀ x : Option Nat, narrow (.array n) (va_rf x) = va_rf x ∧ fits (.array n) (va_rf x) = true := fun x => by cases x <;> exact ⟨rfl, rfl⟩
/-- the judgement's first half needs no state: it holds for every g of these kinds -/
theorem MH.of {ρ : Type} {w : Wd} {y : MethodName} {cc : ByteArray} {nL : Nat} {ret : Option FieldType} {fr lo : Nat} {vo : ρ → Option Value} {av : List Value} {P : Hp → Option (ρ × Hp)} {own nm : String}
    (hw : Wc w) (hy : y.cls = own ∧ y.name = nm) (hpl : plainName own = true) (hn : (lg_sl av).length ≤ nL) (hmono : ∀ σ r σ', P σ = some (r, σ') → (hcs σ).1 ≤ (hcs σ').1 ∧ (hcs σ).2 ≤ (hcs σ').2)
    (h : ∀ g : Gm Hp ρ, g.1 = w → Bx g cc nL own vo ret fr lo nm → Sm g nL 0 (lv_args 0 av) [] P) : MH w y cc nL ret fr lo vo av P := by
  obtain ⟨rfl, rfl⟩ := hy
  refine ⟨hmono, fun σ r σ' hP => ?_⟩
  refine Met.ofW (cc := cc) (maxL := nL) (ret := ret) hpl rfl ?_
  intro p e s m args below meth c s₁ B hml hv
  obtain ⟨rfl, hR, hG⟩ := hv
  have hts0 := atoms_spec (ws := .code y cc nL ret :: TB) B.pre
  have hts : ∀ w ∈ TB, w.before av.toArray s = true := fun w hw => hts0 w (List.mem_cons_of_mem _ hw)
  have hown : s.vm.findClass y.cls = some m.cls := findClass_of_methodNamed B.named
  have hin : meth.name = y.name := (name_of_methodNamed B.named B.method).1
  have hl := lv_entry av (n := nL) hn
  rw [lg_entry_eq]
  have K := (h (w, p, e, (headSpec (.code y cc nL ret :: TB) { frames := fr, cells := (hcs σ').1 - (hcs σ).1, slots := (hcs σ').2 - (hcs σ).2, locals := lo }).room, s, m, av.toArray, below, meth, c, Rc w, hcs, hcs σ, (fun r σ' => MQ below (Qo (Rc w) w.2.2.2.1 vo r σ') av.toArray s ((hcs σ').1 - (hcs σ).1) ((hcs σ').2 - (hcs σ).2) w.2.2.2.1)) rfl
    ⟨⟨⟨B.exec, B.bytes, hml, hown, hts, B.notSynchronized, hG, hw.1⟩, ⟨rfl, rfl⟩, rfl, rfl⟩, hw, hw.2 s hG.2, hin, ⟨rfl, B.returns, rfl, rfl⟩⟩).2 σ r σ' s.heap [] _ hP hR va_S.rf hl (Nat.le_refl _) (Nat.le_refl _)
  have hm := hmono σ r σ' hP
  have K2 := K (by show _ ≤ _ + ((hcs σ').1 - (hcs σ).1); omega) (by show _ ≤ _ + ((hcs σ').2 - (hcs σ).2); omega)
  rw [Nat.sub_self, Nat.sub_self] at K2
  exact K2
/-! ===== no program gives cells back ===== -/
def Mo {ρ : Type} (P : Hp → Option (ρ × Hp)) : Prop := ∀ σ r σ', P σ = some (r, σ') → (hcs σ).1 ≤ (hcs σ').1 ∧ (hcs σ).2 ≤ (hcs σ').2
section MO
variable {ρ α : Type} {P P1 P2 : Hp → Option (ρ × Hp)}
theorem mo_rt (v : ρ) : Mo (rt v) := fun σ r σ' h => by cases h; exact ⟨Nat.le_refl _, Nat.le_refl _⟩
theorem mo_no : Mo (no : Hp → Option (ρ × Hp)) := fun σ r σ' h => by cases h
theorem mo_gd {q : Prop} [Decidable q] (h : Mo P) : Mo (gd q P) := fun σ r σ' hp => h σ r σ' (gd_some hp).2
theorem mo_zt (v : Int32) : Mo (zt v : Hp → Option (Int32 × Hp)) := mo_gd (mo_rt v)
theorem mo_ite {q : Prop} [Decidable q] (h1 : Mo P1) (h2 : Mo P2) : Mo (if q then P1 else P2) := by
  by_cases h : q
  · rw [if_pos h]; exact h1
  · rw [if_neg h]; exact h2
theorem mo_lq {β : Type} {v : β} {f : β → Hp → Option (ρ × Hp)} (h : ∀ x, Mo (f x)) : Mo (lq v f) := h v
theorem mo_bd {x : Hp → Option (α × Hp)} {f : α → Hp → Option (ρ × Hp)} (h1 : Mo x) (h2 : ∀ v, Mo (f v)) : Mo (bd x f) := fun σ r σ' hp => by
  obtain ⟨a, σ1, e1, e2⟩ := bd_some hp
  have m1 := h1 σ a σ1 e1
  have m2 := h2 a σ1 r σ' e2
  exact ⟨Nat.le_trans m1.1 m2.1, Nat.le_trans m1.2 m2.2⟩
theorem mo_hgI {c k : Nat} {r : Option Nat} {f : Int32 → Hp → Option (ρ × Hp)} (h : ∀ v, Mo (f v)) : Mo (hgI c k r f) := by
  intro σ r σ' hp
  unfold hgI at hp
  split at hp
  · split at hp
    · exact h _ σ r σ' hp
    · cases hp
  · cases hp
theorem mo_hgL {c k : Nat} {r : Option Nat} {f : Int64 → Hp → Option (ρ × Hp)} (h : ∀ v, Mo (f v)) : Mo (hgL c k r f) := by
  intro σ r σ' hp
  unfold hgL at hp
  split at hp
  · split at hp
    · exact h _ σ r σ' hp
    · cases hp
  · cases hp
theorem mo_hgR {c k : Nat} {r : Option Nat} {f : Option Nat → Hp → Option (ρ × Hp)} (h : ∀ v, Mo (f v)) : Mo (hgR c k r f) := by
  intro σ r σ' hp
  unfold hgR at hp
  split at hp
  · split at hp
    · exact h _ σ r σ' hp
    · cases hp
  · cases hp
theorem mo_hAi {r : Option Nat} {i : Int32} {f : Int32 → Hp → Option (ρ × Hp)} (h : ∀ v, Mo (f v)) : Mo (hAi r i f) := by
  intro σ r σ' hp
  unfold hAi at hp
  split at hp
  · split at hp
    · exact h _ σ r σ' hp
    · cases hp
  · cases hp
theorem mo_hAl {r : Option Nat} {i : Int32} {f : Int64 → Hp → Option (ρ × Hp)} (h : ∀ v, Mo (f v)) : Mo (hAl r i f) := by
  intro σ r σ' hp
  unfold hAl at hp
  split at hp
  · split at hp
    · exact h _ σ r σ' hp
    · cases hp
  · cases hp
theorem mo_hAr {t : Nat} {r : Option Nat} {i : Int32} {f : Option Nat → Hp → Option (ρ × Hp)} (h : ∀ v, Mo (f v)) : Mo (hAr t r i f) := by
  intro σ r σ' hp
  unfold hAr at hp
  split at hp
  · split at hp
    · exact h _ σ r σ' hp
    · cases hp
  · cases hp
theorem mo_hLn {t : Nat} {r : Option Nat} {f : Int32 → Hp → Option (ρ × Hp)} (h : ∀ v, Mo (f v)) : Mo (hLn t r f) := by
  intro σ r σ' hp
  unfold hLn at hp
  split at hp
  · split at hp
    · exact h _ σ r σ' hp
    · cases hp
  · cases hp
theorem mo_hpI {c k : Nat} {r : Option Nat} {v : Int32} (h : Mo P) : Mo (hpI c k r v P) := by
  intro σ r σ' hp
  unfold hpI at hp
  split at hp
  · split at hp
    · have m := h _ _ _ hp
      exact m
    · cases hp
  · cases hp
theorem mo_hpL {c k : Nat} {r : Option Nat} {v : Int64} (h : Mo P) : Mo (hpL c k r v P) := by
  intro σ r σ' hp
  unfold hpL at hp
  split at hp
  · split at hp
    · have m := h _ _ _ hp
      exact m
    · cases hp
  · cases hp
theorem mo_hpR {c k : Nat} {r v : Option Nat} (h : Mo P) : Mo (hpR c k r v P) := by
  intro σ r σ' hp
  unfold hpR at hp
  split at hp
  · split at hp
    · have m := h _ _ _ hp
      exact m
    · cases hp
  · cases hp
theorem mo_hWi {r : Option Nat} {i v : Int32} (h : Mo P) : Mo (hWi r i v P) := by
  intro σ r σ' hp
  unfold hWi at hp
  split at hp
  · split at hp
    · have m := h _ _ _ hp
      exact m
    · cases hp
  · cases hp
theorem mo_hWl {r : Option Nat} {i : Int32} {v : Int64} (h : Mo P) : Mo (hWl r i v P) := by
  intro σ r σ' hp
  unfold hWl at hp
  split at hp
  · split at hp
    · have m := h _ _ _ hp
      exact m
    · cases hp
  · cases hp
theorem mo_hWr {t c : Nat} {r v : Option Nat} {i : Int32} (h : Mo P) : Mo (hWr t c r i v P) := by
  intro σ r σ' hp
  unfold hWr at hp
  split at hp
  · split at hp
    · have m := h _ _ _ hp
      exact m
    · cases hp
  · cases hp
theorem mo_hCp {r1 r2 : Option Nat} {sp dp n : Int32} (h : Mo P) : Mo (hCp r1 sp r2 dp n P) := by
  intro σ r σ' hp
  unfold hCp at hp
  split at hp
  · split at hp
    · have m := h _ _ _ hp
      exact m
    · cases hp
  · cases hp
theorem mo_hpZ {c k : Nat} {r : Option Nat} {v : Int32} (h : Mo P) : Mo (hpZ c k r v P) := mo_gd (mo_hpI h)
theorem mo_hNw {c n : Nat} {f : Option Nat → Hp → Option (ρ × Hp)} (h : ∀ v, Mo (f v)) : Mo (hNw c n f) := fun σ r σ' hp => by
  have m := h _ (hob σ c n) r σ' hp
  exact ⟨Nat.le_trans (Nat.le_succ _) m.1, Nat.le_trans (Nat.le_add_right _ _) m.2⟩
theorem mo_hNa {t : Nat} {n : Int32} {f : Option Nat → Hp → Option (ρ × Hp)} (h : ∀ v, Mo (f v)) : Mo (hNa t n f) := fun σ r σ' hp => by
  unfold hNa at hp
  split at hp
  · have m := h _ (hay σ t n.toNatClampNeg) r σ' hp
    exact ⟨Nat.le_trans (Nat.le_succ _) m.1, Nat.le_trans (Nat.le_add_right _ _) m.2⟩
  · cases hp
theorem mo_hCv {c : Nat} {r : Option Nat} {Q : Nat → Hp → Option (α × Hp)} {f : α → Hp → Option (ρ × Hp)} (h1 : ∀ a, Mo (Q a)) (h2 : ∀ v, Mo (f v)) : Mo (hCv c r Q f) := by
  intro σ r σ' hp
  unfold hCv at hp
  split at hp
  · split at hp
    · exact mo_bd (h1 _) h2 σ r σ' hp
    · cases hp
  · cases hp
theorem mo_hCi {r : Option Nat} {Q : Nat → Hp → Option (α × Hp)} {f : α → Hp → Option (ρ × Hp)} (h1 : ∀ a, Mo (Q a)) (h2 : ∀ v, Mo (f v)) : Mo (hCi r Q f) := by
  cases r with
  | none => exact mo_no
  | some a => exact mo_bd (h1 a) h2
theorem mo_hOi {r : Option Nat} (h : Mo P) : Mo (hOi r P) := by
  cases r with
  | none => exact mo_no
  | some a => exact h
end MO
/-! ===== strings and constant arrays: the steps ===== -/
def sLn {S ρ : Type} (j : Nat) (f : Int32 → S → Option (ρ × S)) : S → Option (ρ × S) := f (Int32.ofNat (slen j))
def sAt {S ρ : Type} (j : Nat) (i : Int32) (f : Int32 → S → Option (ρ × S)) : S → Option (ρ × S) := gd (inr i (slen j)) (f ((sby.getD j []).getD i.toNatClampNeg 0))
def kLn {S ρ : Type} (j : Nat) (f : Int32 → S → Option (ρ × S)) : S → Option (ρ × S) := f (Int32.ofNat (klen j))
def kAt {S ρ : Type} (j : Nat) (i : Int32) (f : Int32 → S → Option (ρ × S)) : S → Option (ρ × S) := gd (inr i (klen j)) (f ((kby.getD j []).getD i.toNatClampNeg 0))
theorem mo_sLn {ρ : Type} {j : Nat} {f : Int32 → Hp → Option (ρ × Hp)} (h : ∀ v, Mo (f v)) : Mo (sLn j f) := h _
theorem mo_sAt {ρ : Type} {j : Nat} {i : Int32} {f : Int32 → Hp → Option (ρ × Hp)} (h : ∀ v, Mo (f v)) : Mo (sAt j i f) := mo_gd (h _)
theorem mo_kLn {ρ : Type} {j : Nat} {f : Int32 → Hp → Option (ρ × Hp)} (h : ∀ v, Mo (f v)) : Mo (kLn j f) := h _
theorem mo_kAt {ρ : Type} {j : Nat} {i : Int32} {f : Int32 → Hp → Option (ρ × Hp)} (h : ∀ v, Mo (f v)) : Mo (kAt j i f) := mo_gd (h _)
section STK
variable {ρ : Type} {g : Gm Hp ρ} {cc : ByteArray} {nL pc : Nat} {own nm : String} {lv : List (Nat × Value)} {st : List Value} {vo : ρ → Option Value} {ret : Option FieldType} {fr lo idx : Nat} {P : Hp → Option (ρ × Hp)}
theorem s_ldS (B : Bx g cc nL own vo ret fr lo nm) (j ix : Nat) (h : (own, ix, j) ∈ slits) (d : decode cc pc = .ok (.ldc ix, 2)) (k : Sm g nL (pc + 2) lv (.ref (g.1.2.1 (1000 + j)) :: st) P) : Sm g nL pc lv st P := by
  obtain ⟨w, p, e, R, s, m, args, below, meth, c, Rl, cs, b, Qf⟩ := g
  obtain ⟨⟨⟨hx, hb, hml, hown, hts, hlocks, hG, hw⟩, -⟩, -, ⟨-, hS⟩, -⟩ := B
  exact ⟨k.1, fun σ r σ' H locs ls hP hR hS' hl b1 b2 b3 b4 => va_ldcS hx hb hown (hS.2.1 _ h) d (k.2 σ r σ' H locs ls hP hR hS' hl b1 b2 b3 b4)⟩
theorem va_ldcwS {T : State} {p : Program} {l : Launch} {e : Env} {R : Room} {s : State} {m : MethodId} {args : Array Value} {below : List Frame} {meth : Method} {c : Code} {locs : List Loc} {cells slots : Nat} (X : Stand p l e R s m args below meth c T locs cells slots) (hexec : p.tables.exec = Jvm.exec) {own text : String} {index : Nat} {a : Addr} (hown : s.vm.findClass own = some m.cls)
    (hconst : (Cond.stringRef own index text).before #[] s = true) (hev : (Term.string own index).eval #[] s none [] s = some (.ref a)) {g : JFrame} (hg : g.method = m) (hdg : decode c.code g.pc = .ok (.ldc_w index, 3)) :
    ∀ target, Steps p.tables e below (T.setTop { g with pc := g.pc + 3, stack := .ref a :: g.stack }) target → Steps p.tables e below (T.setTop g) target := by
  obtain ⟨k, cf, i, a', hk, hcf, hcp, -, hr, hev'⟩ := Cond.stringRef_spec hown hconst
  cases hev.symm.trans hev'
  obtain ⟨k', hk', he⟩ := X.warmed.alike.2.2 _ _ hk
  have hr' : k'.resolved[index]? = some (some (.string a)) := by
    rcases X.warmed.entry hk hk' index with h | ⟨h, -⟩
    · rw [h]; exact hr
    · rw [hr] at h; cases h
  intro target hrest
  subst hg
  jvm_step X.here [hexec, hdg, ldc_w.wp_string (e := e) (s := T) (f := g) X.here.top hk' (by rw [he]; exact hcf) hcp hr']
  exact hrest
theorem s_ldwS (B : Bx g cc nL own vo ret fr lo nm) (j ix : Nat) (h : (own, ix, j) ∈ slits) (d : decode cc pc = .ok (.ldc_w ix, 3)) (k : Sm g nL (pc + 3) lv (.ref (g.1.2.1 (1000 + j)) :: st) P) : Sm g nL pc lv st P := by
  obtain ⟨w, p, e, R, s, m, args, below, meth, c, Rl, cs, b, Qf⟩ := g
  obtain ⟨⟨⟨hx, hb, hml, hown, hts, hlocks, hG, hw⟩, -⟩, -, ⟨-, hS⟩, -⟩ := B
  refine ⟨k.1, fun σ r σ' H locs ls hP hR hS' hl b1 b2 b3 b4 => ?_⟩
  have hZ := hS.2.1 _ h
  intro T hT X
  obtain ⟨t, a1, b1'⟩ := k.2 σ r σ' H locs ls hP hR hS' hl b1 b2 b3 b4 T hT X
  exact ⟨t, va_ldcwS X hx hown hZ.1 hZ.2 (g := F0 m pc ls st) rfl (by rw [hb]; exact d) t a1, b1'⟩
theorem s_gsK (B : Bx g cc nL own vo ret fr lo nm) (j : Nat) (hj : j < 2) {ix : Nat} (h : Cond.fieldLinkNest own ix "TopicBroker" (knm.getD j "") "[I" "TopicBroker" ∈ nwl) (d : decode cc pc = .ok (.getstatic ix, 3)) (k : Sm g nL (pc + 3) lv (.ref (g.1.2.1 (1020 + j)) :: st) P) : Sm g nL pc lv st P := by
  obtain ⟨w, p, e, R, s, m, args, below, meth, c, Rl, cs, b, Qf⟩ := g
  obtain ⟨⟨⟨hx, hb, hml, hown, hts, hlocks, hG, hw⟩, -⟩, -, ⟨hX, hS⟩, -⟩ := B
  exact ⟨k.1, fun σ r σ' H locs ls hP hR hS' hl b1 b2 b3 b4 => va_getsN hx hb (hS.2.2.1 j hj).1 hS' hown (va_Nw.use rfl (hX _ h)) (fun _ h => h) d (k.2 σ r σ' H locs ls hP hR hS' hl b1 b2 b3 b4)⟩
theorem s_kLn (B : Bx g cc nL own vo ret fr lo nm) (j : Nat) (hj : j < 2) (d : decode cc pc = .ok (.arraylength, 1)) {f : Int32 → Hp → Option (ρ × Hp)} (k : ∀ v, Sm g nL (pc + 1) lv (.int v :: st) (f v)) : Sm g nL pc lv (.ref (g.1.2.1 (1020 + j)) :: st) (kLn j f) := by
  obtain ⟨w, p, e, R, s, m, args, below, meth, c, Rl, cs, b, Qf⟩ := g
  obtain ⟨⟨⟨hx, hb, hml, hown, hts, hlocks, hG, hw⟩, -⟩, -, ⟨hX, hS⟩, -⟩ := B
  exact ⟨(k _).1, fun σ r σ' H locs ls hP hR hS' hl b1 b2 b3 b4 => va_tlen hx hb (hS.2.2.1 j hj).2 hS' rfl d ((k _).2 σ r σ' H locs ls hP hR hS' hl b1 b2 b3 b4)⟩
theorem s_kAt (B : Bx g cc nL own vo ret fr lo nm) (j : Nat) (hj : j < 2) {i : Int32} (d : decode cc pc = .ok (.iaload, 1)) {f : Int32 → Hp → Option (ρ × Hp)} (k : ∀ v, Sm g nL (pc + 1) lv (.int v :: st) (f v)) : Sm g nL pc lv (.int i :: .ref (g.1.2.1 (1020 + j)) :: st) (kAt j i f) := by
  refine Sm.guard fun hq => ?_
  obtain ⟨w, p, e, R, s, m, args, below, meth, c, Rl, cs, b, Qf⟩ := g
  obtain ⟨⟨⟨hx, hb, hml, hown, hts, hlocks, hG, hw⟩, -⟩, -, ⟨hX, hS⟩, -⟩ := B
  exact ⟨(k _).1, fun σ r σ' H locs ls hP hR hS' hl b1 b2 b3 b4 => va_ti hx hb (hS.2.2.1 j hj).2 hS' (inr_vp hq) rfl d ((k _).2 σ r σ' H locs ls hP hR hS' hl b1 b2 b3 b4)⟩
end STK
