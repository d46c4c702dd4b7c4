/-! ===== what is known at the law's start, and stays ===== -/
def wq (cA : Nat → ClassId) (A : Nat → Prop) (l : Launch) : Wd := ((fun _ => 0, fun _ _ => 0), cA, fun _ => True, A, l, 0)
theorem XS.to {w w' : Wd} {U : State} (hc : w'.2.1 = w.2.1) (hAB : ∀ q, w'.2.2.2.1 q → w.2.2.2.1 q) (h : XS w U) : XS w' U := by
  obtain ⟨h1, h2, h3, h4, h5⟩ := h
  unfold XS
  rw [hc]
  exact ⟨fun j hj => ⟨(h1 j hj).1.narrow hAB, (h1 j hj).2.1.narrow hAB, (h1 j hj).2.2.1.narrow hAB, (h1 j hj).2.2.2.narrow hAB⟩, h2, fun j hj => ⟨(h3 j hj).1.narrow hAB, (h3 j hj).2.narrow hAB⟩, h4.narrow hAB, h5.narrow hAB⟩
theorem XS.moved {w : Wd} {u U : State} (hW : u.WarmedH U.vm) (hq : ∀ a : Nat, a < u.heap.size → ¬ w.2.2.2.1 a → U.heap[a]? = u.heap[a]?) (h : XS w u) : XS w U := by
  obtain ⟨h1, h2, h3, h4, h5⟩ := h
  exact ⟨fun j hj => ⟨va_O.moved hW.alike ((h1 j hj).1.kept hq), va_OF.moved hW.alike ((h1 j hj).2.1.kept hq), va_OF.moved hW.alike ((h1 j hj).2.2.1.kept hq), va_T.moved hW.alike ((h1 j hj).2.2.2.kept hq)⟩, fun q hq' => vk_R.warm hW (h2 q hq'), fun j hj => ⟨va_Z.moved hW.alike ((h3 j hj).1.kept hq), va_T.moved hW.alike ((h3 j hj).2.kept hq)⟩, va_Z.moved hW.alike (h4.kept hq), va_Zq.moved hW.alike (h5.kept hq)⟩
theorem XS.calling {w : Wd} {U : State} (g : JFrame) (mk : MethodId) (a : Array Value) (h : XS w U) : XS w (U.calling g mk a) := by
  obtain ⟨h1, h2, h3, h4, h5⟩ := h
  have hv : U.vm.Alike (U.calling g mk a).vm := Vm.Alike.refl U.vm
  exact ⟨fun j hj => ⟨va_O.moved hv (h1 j hj).1, va_OF.moved hv (h1 j hj).2.1, va_OF.moved hv (h1 j hj).2.2.1, va_T.moved hv (h1 j hj).2.2.2⟩, fun q hq' => vk_R.same (u := U) rfl (h2 q hq'), fun j hj => ⟨va_Z.moved hv (h3 j hj).1, va_T.moved hv (h3 j hj).2⟩, va_Z.moved hv h4, va_Zq.moved hv h5⟩
theorem XE.to {w w' : Wd} {U : State} (hAB : ∀ q, w'.2.2.2.1 q → w.2.2.2.1 q) (h : XE w U) : XE w' U := ⟨h.1.narrow hAB, h.2.narrow hAB⟩
theorem XE.moved {w : Wd} {u U : State} (hW : u.WarmedH U.vm) (hq : ∀ a : Nat, a < u.heap.size → ¬ w.2.2.2.1 a → U.heap[a]? = u.heap[a]?) (h : XE w u) : XE w U := ⟨vx_Zq.moved hW.alike (h.1.kept hq), vx_Zq.moved hW.alike (h.2.kept hq)⟩
theorem XE.calling {w : Wd} {U : State} (g : JFrame) (mk : MethodId) (a : Array Value) (h : XE w U) : XE w (U.calling g mk a) := ⟨vx_Zq.moved (u := U) (U := U.calling g mk a) (Vm.Alike.refl U.vm) h.1, vx_Zq.moved (u := U) (U := U.calling g mk a) (Vm.Alike.refl U.vm) h.2⟩
def GE0 (cA : Nat → ClassId) (A : Nat → Prop) (l : Launch) (U : State) : Prop := XK1 U ∧ XS (wq cA A l) U ∧ XE (wq cA A l) U ∧ XN U
def wG (D : va_G) (cA : Nat → ClassId) (A0 : Nat → Prop) (l : Launch) (A : Nat → Prop) (m0 : Nat) : Wd := (D, cA, GE0 cA A0 l, A, l, m0)
theorem wG.ok {D : va_G} {cA : Nat → ClassId} {A0 A : Nat → Prop} {l : Launch} {m0 : Nat} (hA : ∀ q, A q → A0 q) : Wok (wG D cA A0 l A m0) := by
  refine ⟨fun u U locs h hW hS => ?_, fun U g mk a h => ?_⟩
  · obtain ⟨h1, h2, h3, h4⟩ := h
    have hq : ∀ a : Nat, a < u.heap.size → ¬ A0 a → U.heap[a]? = u.heap[a]? := fun a z1 z2 => hS.2.1 a z1 (fun z => z2 (hA a z))
    exact ⟨XK1.warm hW h1, XS.moved hW hq h2, XE.moved hW hq h3, fun e f z1 z2 z3 => va_Nc.moved hW.alike (h4 e f z1 z2 z3)⟩
  · obtain ⟨h1, h2, h3, h4⟩ := h
    exact ⟨XK1.calling g mk a h1, XS.calling g mk a h2, XE.calling g mk a h3, fun e f z1 z2 z3 => va_Nc.moved (u := U) (U := U.calling g mk a) (Vm.Alike.refl U.vm) (h4 e f z1 z2 z3)⟩
theorem wG.wc {D : va_G} {cA : Nat → ClassId} {A0 A : Nat → Prop} {l : Launch} {m0 : Nat} (hA : ∀ q, A q → A0 q) : Wc (wG D cA A0 l A m0) := ⟨wG.ok hA, fun U h => ⟨h.1, XS.to (w := wq cA A0 l) rfl hA h.2.1⟩⟩
theorem wG.wz {D : va_G} {cA : Nat → ClassId} {A0 A : Nat → Prop} {l : Launch} {m0 : Nat} (hl : l.stackTraces = false) (hA : ∀ q, A q → A0 q) : Wz (wG D cA A0 l A m0) := ⟨hl, fun U h => XE.to (w := wq cA A0 l) hA h.2.2.1⟩
theorem wG.wn {D : va_G} {cA : Nat → ClassId} {A0 A : Nat → Prop} {l : Launch} {m0 : Nat} : Wn (wG D cA A0 l A m0) := fun U h => h.2.2.2
theorem arr_cl {ty : FieldType} {s : State} {args : Array Value} (h : (Cond.arrayClass ty).before args s = true) (hr : ∀ c, va_RA s c ty = (s.vm.findClass ("[" ++ ty.toString) = some c)) : ∃ c, ArrOfT s c ty ∧ va_RA s c ty := by
  obtain ⟨c, k, comp, h1, h2, h3⟩ := Cond.arrayClass_spec h
  exact ⟨c, fun n z => ⟨fun k h => (by cases h), k, h2, comp, h3⟩, by rw [hr]; exact h1⟩
theorem arr_ov {C : String} {s : State} {args : Array Value} (h : (Cond.arrayOver (.object C)).before args s = true) : ∃ c, ArrOfT s c (.object C) ∧ va_RA s c (.object C) := by
  obtain ⟨comp, c, k, h1, h2, h3, h4, h5⟩ := Cond.arrayOver_spec h
  exact ⟨c, fun n z => ⟨fun k h => (by cases h), k, h3, comp, h4⟩, k, comp, h3, h4, h1, h5⟩
theorem inJ0 : ∀ w ∈ u_ws RJ0 TJ0 4, w ∈ TB := fun w h => by
  have h1 : w ∈ ([738, 740, 742, 744] : List Nat).filterMap (fun i => tables_1[i]?) := by
    have e : u_ws RJ0 TJ0 4 = ([738, 740, 742, 744] : List Nat).filterMap (fun i => tables_1[i]?) := by decide +kernel
    rw [← e]; exact h
  obtain ⟨i, -, hi⟩ := List.mem_filterMap.mp h1
  refine TB_t (List.mem_of_getElem? hi) ?_
  obtain ⟨k, hk, rfl⟩ := List.mem_map.mp h
  unfold u_lay
  split <;> rfl
theorem inJ4 : ∀ w ∈ u_ws RJ4 TJ4 4, w ∈ TB := fun w h => by
  have h1 : w ∈ ([536, 538, 540, 542] : List Nat).filterMap (fun i => tables_1[i]?) := by
    have e : u_ws RJ4 TJ4 4 = ([536, 538, 540, 542] : List Nat).filterMap (fun i => tables_1[i]?) := by decide +kernel
    rw [← e]; exact h
  obtain ⟨i, -, hi⟩ := List.mem_filterMap.mp h1
  refine TB_t (List.mem_of_getElem? hi) ?_
  obtain ⟨k, hk, rfl⟩ := List.mem_map.mp h
  unfold u_lay
  split <;> rfl
theorem nt_1 : Cond.initialized "TopicBroker" ∈ lw_tbl := List.mem_append_right _ (tq_1 (List.mem_of_getElem? (i := 1) rfl))
theorem nt_11 : Cond.initialized "java/lang/Throwable" ∈ lw_tbl := List.mem_append_right _ (tq_1 (List.mem_of_getElem? (i := 11) rfl))
theorem nt_21 : Cond.initialized "java/lang/String" ∈ lw_tbl := List.mem_append_right _ (tq_1 (List.mem_of_getElem? (i := 21) rfl))
theorem nt_26 : Cond.initialized "jdk/internal/util/Preconditions" ∈ lw_tbl := List.mem_append_right _ (tq_1 (List.mem_of_getElem? (i := 26) rfl))
theorem nt_32 : Cond.instantiable "TopicBroker" 16 ∈ lw_tbl := List.mem_append_right _ (tq_1 (List.mem_of_getElem? (i := 32) rfl))
theorem nt_40 : Cond.arrayOver (.object "TopicBroker$Connection") ∈ lw_tbl := List.mem_append_right _ (tq_1 (List.mem_of_getElem? (i := 40) rfl))
theorem nt_41 : Cond.instantiable "TopicBroker$Connection" 13 ∈ lw_tbl := List.mem_append_right _ (tq_1 (List.mem_of_getElem? (i := 41) rfl))
theorem nt_47 : Cond.arrayOver (.object "TopicBroker$Row") ∈ lw_tbl := List.mem_append_right _ (tq_1 (List.mem_of_getElem? (i := 47) rfl))
theorem nt_100 : Cond.arrayClass .int ∈ lw_tbl := List.mem_append_right _ (tq_1 (List.mem_of_getElem? (i := 100) rfl))
theorem nt_102 : Cond.arrayOver (.object "TopicBroker$Session") ∈ lw_tbl := List.mem_append_right _ (tq_1 (List.mem_of_getElem? (i := 102) rfl))
theorem nt_104 : Cond.instantiable "TopicBroker$Retained" 2 ∈ lw_tbl := List.mem_append_right _ (tq_1 (List.mem_of_getElem? (i := 104) rfl))
theorem nt_105 : Cond.methodLinkNest "TopicBroker" 26 ⟨"TopicBroker$Retained", "<init>", "()V"⟩ "TopicBroker" ∈ lw_tbl := List.mem_append_right _ (tq_1 (List.mem_of_getElem? (i := 105) rfl))
theorem nt_110 : Cond.arrayOver (.object "TopicBroker$Message") ∈ lw_tbl := List.mem_append_right _ (tq_1 (List.mem_of_getElem? (i := 110) rfl))
theorem nt_121 : Cond.instantiable "TopicBroker$Reader" 5 ∈ lw_tbl := List.mem_append_right _ (tq_1 (List.mem_of_getElem? (i := 121) rfl))
theorem nt_122 : Cond.methodLinkNest "TopicBroker" 33 ⟨"TopicBroker$Reader", "<init>", "()V"⟩ "TopicBroker" ∈ lw_tbl := List.mem_append_right _ (tq_1 (List.mem_of_getElem? (i := 122) rfl))
theorem nt_127 : Cond.instantiable "TopicBroker$Row" 1 ∈ lw_tbl := List.mem_append_right _ (tq_1 (List.mem_of_getElem? (i := 127) rfl))
theorem nt_161 : Cond.instantiable "TopicBroker$Properties" 8 ∈ lw_tbl := List.mem_append_right _ (tq_1 (List.mem_of_getElem? (i := 161) rfl))
theorem nt_162 : Cond.methodLinkNest "TopicBroker" 40 ⟨"TopicBroker$Properties", "<init>", "()V"⟩ "TopicBroker" ∈ lw_tbl := List.mem_append_right _ (tq_1 (List.mem_of_getElem? (i := 162) rfl))
theorem nt_191 : Cond.arrayClass .long ∈ lw_tbl := List.mem_append_right _ (tq_1 (List.mem_of_getElem? (i := 191) rfl))
theorem nt_193 : Cond.instantiable "TopicBroker$Writer" 3 ∈ lw_tbl := List.mem_append_right _ (tq_1 (List.mem_of_getElem? (i := 193) rfl))
theorem nt_194 : Cond.methodLinkNest "TopicBroker" 47 ⟨"TopicBroker$Writer", "<init>", "()V"⟩ "TopicBroker" ∈ lw_tbl := List.mem_append_right _ (tq_1 (List.mem_of_getElem? (i := 194) rfl))
theorem nt_212 : Cond.instantiable "TopicBroker$Greeting" 8 ∈ lw_tbl := List.mem_append_right _ (tq_1 (List.mem_of_getElem? (i := 212) rfl))
theorem nt_213 : Cond.methodLinkNest "TopicBroker" 54 ⟨"TopicBroker$Greeting", "<init>", "()V"⟩ "TopicBroker" ∈ lw_tbl := List.mem_append_right _ (tq_1 (List.mem_of_getElem? (i := 213) rfl))
theorem nt_245 : Cond.instantiable "TopicBroker$Delivery" 6 ∈ lw_tbl := List.mem_append_right _ (tq_2 (List.mem_of_getElem? (i := 5) rfl))
theorem nt_246 : Cond.methodLinkNest "TopicBroker" 61 ⟨"TopicBroker$Delivery", "<init>", "()V"⟩ "TopicBroker" ∈ lw_tbl := List.mem_append_right _ (tq_2 (List.mem_of_getElem? (i := 6) rfl))
theorem nt_357 : Cond.castable "java/lang/IndexOutOfBoundsException" "java/lang/IndexOutOfBoundsException" ∈ lw_tbl := List.mem_append_right _ (tq_2 (List.mem_of_getElem? (i := 117) rfl))
theorem nt_358 : Cond.declares ⟨"java/lang/RuntimeException", "<init>", "()V"⟩ ∈ lw_tbl := List.mem_append_right _ (tq_2 (List.mem_of_getElem? (i := 118) rfl))
theorem nt_359 : Cond.declares ⟨"java/lang/RuntimeException", "<init>", "(Ljava/lang/String;)V"⟩ ∈ lw_tbl := List.mem_append_right _ (tq_2 (List.mem_of_getElem? (i := 119) rfl))
theorem nt_360 : Cond.declares ⟨"java/lang/Exception", "<init>", "()V"⟩ ∈ lw_tbl := List.mem_append_right _ (tq_2 (List.mem_of_getElem? (i := 120) rfl))
theorem nt_361 : Cond.declares ⟨"java/lang/Exception", "<init>", "(Ljava/lang/String;)V"⟩ ∈ lw_tbl := List.mem_append_right _ (tq_2 (List.mem_of_getElem? (i := 121) rfl))
theorem nt_362 : Cond.declares ⟨"java/lang/Throwable", "<init>", "()V"⟩ ∈ lw_tbl := List.mem_append_right _ (tq_2 (List.mem_of_getElem? (i := 122) rfl))
theorem nt_363 : Cond.declares ⟨"java/lang/Throwable", "<init>", "(Ljava/lang/String;)V"⟩ ∈ lw_tbl := List.mem_append_right _ (tq_2 (List.mem_of_getElem? (i := 123) rfl))
theorem nt_382 : Cond.laysStatic "java/lang/Throwable" "UNASSIGNED_STACK" "[Ljava/lang/StackTraceElement;" ∈ lw_tbl := List.mem_append_right _ (tq_2 (List.mem_of_getElem? (i := 142) rfl))
theorem nt_384 : Cond.laysStatic "java/lang/Throwable" "SUPPRESSED_SENTINEL" "Ljava/util/List;" ∈ lw_tbl := List.mem_append_right _ (tq_2 (List.mem_of_getElem? (i := 144) rfl))
theorem nt_421 : Cond.castable "java/lang/IllegalStateException" "java/lang/IllegalStateException" ∈ lw_tbl := List.mem_append_right _ (tq_2 (List.mem_of_getElem? (i := 181) rfl))
theorem nt_448 : Cond.castable "java/lang/IllegalArgumentException" "java/lang/IllegalArgumentException" ∈ lw_tbl := List.mem_append_right _ (tq_2 (List.mem_of_getElem? (i := 208) rfl))
theorem nt_515 : Cond.instantiable "java/lang/StringBuilder" 4 ∈ lw_tbl := List.mem_append_right _ (tq_3 (List.mem_of_getElem? (i := 35) rfl))
theorem nt_524 : Cond.laysStatic "java/lang/String" "COMPACT_STRINGS" "Z" ∈ lw_tbl := List.mem_append_right _ (tq_3 (List.mem_of_getElem? (i := 44) rfl))
theorem nt_545 : Cond.arrayClass .byte ∈ lw_tbl := List.mem_append_right _ (tq_3 (List.mem_of_getElem? (i := 65) rfl))
theorem nt_583 : Cond.castable "[B" "java/lang/Cloneable" ∈ lw_tbl := List.mem_append_right _ (tq_3 (List.mem_of_getElem? (i := 103) rfl))
theorem nt_614 : Cond.laysStatic "jdk/internal/util/Preconditions" "SIOOBE_FORMATTER" "Ljava/util/function/BiFunction;" ∈ lw_tbl := List.mem_append_right _ (tq_3 (List.mem_of_getElem? (i := 134) rfl))
theorem nt_695 : Cond.instantiable "java/lang/String" 4 ∈ lw_tbl := List.mem_append_right _ (tq_3 (List.mem_of_getElem? (i := 215) rfl))
theorem nt_762 : Cond.castable "[I" "java/lang/Cloneable" ∈ lw_tbl := List.mem_append_right _ (tq_4 (List.mem_of_getElem? (i := 42) rfl))
theorem nt_772 : Cond.stringRef "TopicBroker$Greeting" 25 "MQTT" ∈ lw_tbl := List.mem_append_right _ (tq_4 (List.mem_of_getElem? (i := 52) rfl))
theorem nt_883 : Cond.instantiable "TopicBroker$Message" 9 ∈ lw_tbl := List.mem_append_right _ (tq_4 (List.mem_of_getElem? (i := 163) rfl))
theorem nt_931 : Cond.fieldLinkNest "TopicBroker$Properties" 118 "TopicBroker" "BEFORE_LIFE" "[I" "TopicBroker" ∈ lw_tbl := List.mem_append_right _ (tq_4 (List.mem_of_getElem? (i := 211) rfl))
theorem nt_932 : Cond.laysStatic "TopicBroker" "BEFORE_LIFE" "[I" ∈ lw_tbl := List.mem_append_right _ (tq_4 (List.mem_of_getElem? (i := 212) rfl))
theorem nt_939 : Cond.fieldLinkNest "TopicBroker$Properties" 128 "TopicBroker" "BEHIND_LIFE" "[I" "TopicBroker" ∈ lw_tbl := List.mem_append_right _ (tq_4 (List.mem_of_getElem? (i := 219) rfl))
theorem nt_940 : Cond.laysStatic "TopicBroker" "BEHIND_LIFE" "[I" ∈ lw_tbl := List.mem_append_right _ (tq_4 (List.mem_of_getElem? (i := 220) rfl))
theorem nt_1177 : Cond.stringRef "TopicBroker" 591 "$share/" ∈ lw_tbl := List.mem_append_right _ (tq_5 (List.mem_of_getElem? (i := 217) rfl))
theorem nt_1188 : Cond.stringRef "TopicBroker$Row" 29 "$share/" ∈ lw_tbl := List.mem_append_right _ (tq_5 (List.mem_of_getElem? (i := 228) rfl))
theorem nt_1203 : Cond.instantiable "TopicBroker$Subscription" 6 ∈ lw_tbl := List.mem_append_right _ (tq_6 (List.mem_of_getElem? (i := 3) rfl))
theorem nt_1266 : Cond.stringRef "TopicBroker" 405 "auto" ∈ lw_tbl := List.mem_append_right _ (tq_6 (List.mem_of_getElem? (i := 66) rfl))
theorem nt_1299 : Cond.instantiable "TopicBroker$Session" 18 ∈ lw_tbl := List.mem_append_right _ (tq_6 (List.mem_of_getElem? (i := 99) rfl))
theorem nt_1304 : Cond.arrayOver (.object "TopicBroker$Subscription") ∈ lw_tbl := List.mem_append_right _ (tq_6 (List.mem_of_getElem? (i := 104) rfl))
theorem nt_1306 : Cond.arrayOver (.object "TopicBroker$Delivery") ∈ lw_tbl := List.mem_append_right _ (tq_6 (List.mem_of_getElem? (i := 106) rfl))
theorem nt_1564 : Cond.instantiable "TopicBrokerModel" 99 ∈ lw_tbl := List.mem_append_right _ (tq_7 (List.mem_of_getElem? (i := 124) rfl))
theorem nt_1868 : Cond.arrayClass .boolean ∈ lw_tbl := List.mem_append_right _ (tq_8 (List.mem_of_getElem? (i := 188) rfl))
def TBs (args : Array Value) (s : State) : Prop := ∀ w ∈ lw_tbl, w.before args s = true
theorem start_K {s : State} {args : Array Value} (hts : TBs args s) : ∃ D : va_G, ∀ (k : Nat) (q : vw_C), vwCl[k]? = some q → u_Kn s q.1 q.2.1 q.2.2 (D.1 k) (D.2 k) := by
  have hT : ∀ w ∈ TB, w.before args s = true := fun w h => hts w (List.mem_filter.mp h).1
  obtain ⟨c0, iS0, hK0⟩ := u_known (C := RJ0) (T := TJ0) (N := 4) (n := 4) hT inJ0 (hts _ nt_695)
  obtain ⟨c1, iS1, hK1⟩ := u_known (C := RJ4) (T := TJ4) (N := 4) (n := 4) hT inJ4 (hts _ nt_515)
  obtain ⟨c2, iS2, hK2⟩ := u_known (C := RX0) (T := TX0) (N := 13) (n := 13) hT inX0 (hts _ nt_41)
  obtain ⟨c3, iS3, hK3⟩ := u_known (C := RX1) (T := TX1) (N := 6) (n := 6) hT inX1 (hts _ nt_245)
  obtain ⟨c4, iS4, hK4⟩ := u_known (C := RX2) (T := TX2) (N := 8) (n := 8) hT inX2 (hts _ nt_212)
  obtain ⟨c5, iS5, hK5⟩ := u_known (C := RX3) (T := TX3) (N := 9) (n := 9) hT inX3 (hts _ nt_883)
  obtain ⟨c6, iS6, hK6⟩ := u_known (C := RX4) (T := TX4) (N := 8) (n := 8) hT inX4 (hts _ nt_161)
  obtain ⟨c7, iS7, hK7⟩ := u_known (C := RX5) (T := TX5) (N := 5) (n := 5) hT inX5 (hts _ nt_121)
  obtain ⟨c8, iS8, hK8⟩ := u_known (C := RX6) (T := TX6) (N := 2) (n := 2) hT inX6 (hts _ nt_104)
  obtain ⟨c9, iS9, hK9⟩ := u_known (C := RX7) (T := TX7) (N := 1) (n := 1) hT inX7 (hts _ nt_127)
  obtain ⟨c10, iS10, hK10⟩ := u_known (C := RX8) (T := TX8) (N := 18) (n := 18) hT inX8 (hts _ nt_1299)
  obtain ⟨c11, iS11, hK11⟩ := u_known (C := RX9) (T := TX9) (N := 6) (n := 6) hT inX9 (hts _ nt_1203)
  obtain ⟨c12, iS12, hK12⟩ := u_known (C := RX10) (T := TX10) (N := 3) (n := 3) hT inX10 (hts _ nt_193)
  obtain ⟨c13, iS13, hK13⟩ := u_known (C := RX11) (T := TX11) (N := 16) (n := 16) hT inX11 (hts _ nt_32)
  obtain ⟨c14, iS14, hK14⟩ := u_known (C := RX12) (T := TX12) (N := 99) (n := 99) hT inX12 (hts _ nt_1564)
  refine ⟨(fun k => if k = 0 then c0 else if k = 1 then c1 else if k = 2 then c2 else if k = 3 then c3 else if k = 4 then c4 else if k = 5 then c5 else if k = 6 then c6 else if k = 7 then c7 else if k = 8 then c8 else if k = 9 then c9 else if k = 10 then c10 else if k = 11 then c11 else if k = 12 then c12 else if k = 13 then c13 else c14, fun k => if k = 0 then iS0 else if k = 1 then iS1 else if k = 2 then iS2 else if k = 3 then iS3 else if k = 4 then iS4 else if k = 5 then iS5 else if k = 6 then iS6 else if k = 7 then iS7 else if k = 8 then iS8 else if k = 9 then iS9 else if k = 10 then iS10 else if k = 11 then iS11 else if k = 12 then iS12 else if k = 13 then iS13 else iS14), fun k q hq => ?_⟩
  match k, hq with
  | 0, hq => cases hq; exact hK0
  | 1, hq => cases hq; exact hK1
  | 2, hq => cases hq; exact hK2
  | 3, hq => cases hq; exact hK3
  | 4, hq => cases hq; exact hK4
  | 5, hq => cases hq; exact hK5
  | 6, hq => cases hq; exact hK6
  | 7, hq => cases hq; exact hK7
  | 8, hq => cases hq; exact hK8
  | 9, hq => cases hq; exact hK9
  | 10, hq => cases hq; exact hK10
  | 11, hq => cases hq; exact hK11
  | 12, hq => cases hq; exact hK12
  | 13, hq => cases hq; exact hK13
  | 14, hq => cases hq; exact hK14
  | k + 15, hq => simp [vwCl] at hq
theorem start_A {s : State} {args : Array Value} (hts : TBs args s) : ∃ cA : Nat → ClassId, ∀ k, k < 10 → ArrOfT s (cA k) (aty.getD k .int) ∧ va_RA s (cA k) (aty.getD k .int) := by
  obtain ⟨c0, h0⟩ := arr_cl (hts _ nt_100) (fun _ => rfl)
  obtain ⟨c1, h1⟩ := arr_cl (hts _ nt_545) (fun _ => rfl)
  obtain ⟨c2, h2⟩ := arr_cl (hts _ nt_1868) (fun _ => rfl)
  obtain ⟨c3, h3⟩ := arr_cl (hts _ nt_191) (fun _ => rfl)
  obtain ⟨c4, h4⟩ := arr_ov (hts _ nt_40)
  obtain ⟨c5, h5⟩ := arr_ov (hts _ nt_102)
  obtain ⟨c6, h6⟩ := arr_ov (hts _ nt_1304)
  obtain ⟨c7, h7⟩ := arr_ov (hts _ nt_1306)
  obtain ⟨c8, h8⟩ := arr_ov (hts _ nt_47)
  obtain ⟨c9, h9⟩ := arr_ov (hts _ nt_110)
  refine ⟨fun k => if k = 0 then c0 else if k = 1 then c1 else if k = 2 then c2 else if k = 3 then c3 else if k = 4 then c4 else if k = 5 then c5 else if k = 6 then c6 else if k = 7 then c7 else if k = 8 then c8 else c9, fun k hk => ?_⟩
  match k, hk with
  | 0, _ => exact h0
  | 1, _ => exact h1
  | 2, _ => exact h2
  | 3, _ => exact h3
  | 4, _ => exact h4
  | 5, _ => exact h5
  | 6, _ => exact h6
  | 7, _ => exact h7
  | 8, _ => exact h8
  | 9, _ => exact h9
  | k + 10, hk => omega
theorem start_XK {s : State} {args : Array Value} (hts : TBs args s) : XK1 s := by
  intro w hw
  simp only [nwl, List.mem_cons, List.not_mem_nil, or_false] at hw
  rcases hw with rfl | rfl | rfl | rfl | rfl | rfl | rfl | rfl | rfl | rfl | rfl | rfl | rfl | rfl | rfl | rfl | rfl | rfl | rfl | rfl | rfl | rfl | rfl | rfl | rfl
  · exact va_AO.of (hts _ nt_40)
  · exact va_AO.of (hts _ nt_47)
  · exact va_AO.of (hts _ nt_102)
  · exact va_Nw.of rfl (hts _ nt_105)
  · exact va_AO.of (hts _ nt_110)
  · exact va_Nw.of rfl (hts _ nt_122)
  · exact va_Nw.of rfl (hts _ nt_162)
  · exact va_Nw.of rfl (hts _ nt_194)
  · exact va_Nw.of rfl (hts _ nt_213)
  · exact va_Nw.of rfl (hts _ nt_246)
  · exact va_Nw.of rfl (hts _ nt_357)
  · exact va_Nw.of rfl (hts _ nt_358)
  · exact va_Nw.of rfl (hts _ nt_359)
  · exact va_Nw.of rfl (hts _ nt_360)
  · exact va_Nw.of rfl (hts _ nt_361)
  · exact va_Nw.of rfl (hts _ nt_362)
  · exact va_Nw.of rfl (hts _ nt_363)
  · exact va_Nw.of rfl (hts _ nt_421)
  · exact va_Nw.of rfl (hts _ nt_448)
  · exact va_Nw.of rfl (hts _ nt_583)
  · exact va_Nw.of rfl (hts _ nt_762)
  · exact va_Nw.of rfl (hts _ nt_931)
  · exact va_Nw.of rfl (hts _ nt_939)
  · exact va_AO.of (hts _ nt_1304)
  · exact va_AO.of (hts _ nt_1306)
def NWC : Cond := Jvm.Cond.and given_1 narrow_1
def stm (j : Nat) : Term := if j = 0 then .string "TopicBroker" 591 else if j = 1 then .string "TopicBroker$Greeting" 25 else .string "TopicBroker" 405
def sln : List Nat := [7, 4, 4]
theorem fl_ex : ∀ i, i < 3 → Cond.exactly (stm i) "java/lang/String" ∈ flatC NWC := by decide +kernel
theorem fl_co : ∀ i, i < 3 → Cond.eq (.field (stm i) "java/lang/String" "coder" "B") (.int 0) ∈ flatC NWC := by decide +kernel
theorem fl_ar : ∀ i, i < 3 → Cond.arrayOf (.field (stm i) "java/lang/String" "value" "[B") .byte ∈ flatC NWC := by decide +kernel
theorem fl_le : ∀ i, i < 3 → Cond.eq (.length (.field (stm i) "java/lang/String" "value" "[B")) (.int (Int32.ofNat (sln.getD i 0))) ∈ flatC NWC := by decide +kernel
theorem fl_el : ∀ i, i < 3 → ∀ j, j < sln.getD i 0 → Cond.eq (.elem (.field (stm i) "java/lang/String" "value" "[B") (.int (Int32.ofNat j))) (.int ((sby.getD i []).getD j 0)) ∈ flatC NWC := by decide +kernel
theorem fl_ne : ∀ i, i < 3 → ∀ j, j < 3 → i ≠ j → Cond.not (Cond.eq (stm i) (stm j)) ∈ flatC NWC ∨ Cond.not (Cond.eq (stm j) (stm i)) ∈ flatC NWC := by decide +kernel
theorem fl_one : Cond.eq (.string "TopicBroker" 591) (.string "TopicBroker$Row" 29) ∈ flatC NWC := by decide +kernel
theorem fl_ka : ∀ j, j < 2 → Cond.arrayOf (.static "TopicBroker" (knm.getD j "") "[I") .int ∈ flatC NWC ∧ Cond.eq (.length (.static "TopicBroker" (knm.getD j "") "[I")) (.int (Int32.ofNat (klen j))) ∈ flatC NWC := by decide +kernel
theorem fl_ke : ∀ j, j < 2 → ∀ i, i < klen j → Cond.eq (.elem (.static "TopicBroker" (knm.getD j "") "[I") (.int (Int32.ofNat i))) (.int ((kby.getD j []).getD i 0)) ∈ flatC NWC := by decide +kernel
theorem fl_cs : Cond.eq (.static "java/lang/String" "COMPACT_STRINGS" "Z") (.int 1) ∈ flatC NWC := by decide +kernel
theorem fl_fm : Cond.isRef (.static "jdk/internal/util/Preconditions" "SIOOBE_FORMATTER" "Ljava/util/function/BiFunction;") ∈ flatC NWC := by decide +kernel
theorem fl_us : Cond.isRef (.static Bundle.tN "UNASSIGNED_STACK" Bundle.steD) ∈ flatC NWC := by decide +kernel
theorem fl_ss : Cond.isRef (.static Bundle.tN "SUPPRESSED_SENTINEL" Bundle.listD) ∈ flatC NWC := by decide +kernel
theorem fl_nc : ∀ e, e < 3 → ∀ f, f < 3 → e ≠ f → Cond.not (.castable (enm e) (enm f)) ∈ flatC NWC := by decide +kernel
theorem start_GE {s : State} {args : Array Value} (l : Launch) (cA0 : Nat → ClassId) (hts : TBs args s) (hgv : NWC.before args s = true) : ∃ cA : Nat → ClassId, (∀ k, k < 10 → cA k = cA0 k) ∧ GE0 cA (fun q => s.heap.size ≤ q) l s := by
  have hs := flat_of_before _ hgv
  have hA : ∀ a : Nat, a < s.heap.size → ¬ (fun q => s.heap.size ≤ q) a := fun a h => Nat.not_le.mpr h
  obtain ⟨adK, adV, hS, hE⟩ := vk_Sof (N := 3) (tm := stm) (len := sln) (byt := sby) (by decide) (fun i h => hs _ (fl_ex i h)) (fun i h => hs _ (fl_co i h)) (fun i h => hs _ (fl_ar i h)) (fun i h => hs _ (fl_le i h)) (fun i h j hj => hs _ (fl_el i h j hj)) (fun i j hi hj hij => (fl_ne i hi j hj hij).imp (hs _) (hs _)) hA
  have hk : ∀ j, ∃ t : Nat, j < 2 → va_Z "TopicBroker" (knm.getD j "") "[I" (.ref t) (fun q => s.heap.size ≤ q) s s.heap ∧ va_T .int t (klen j) (fun i => .int ((kby.getD j []).getD i 0)) (fun q => s.heap.size ≤ q) s s.heap := by
    intro j
    by_cases hj : j < 2
    · obtain ⟨t, ht, hT⟩ := va_Tof (f := fun i => .int ((kby.getD j []).getD i 0)) (A := fun q => s.heap.size ≤ q) (N := klen j) (by match j, hj with | 0, _ => decide | 1, _ => decide | k + 2, h => omega) (hs _ (fl_ka j hj).1) (va_eqt (hs _ (fl_ka j hj).2)) (fun i hi => va_eqt (hs _ (fl_ke j hj i hi))) hA
      refine ⟨t, fun _ => ⟨va_Zof ?_ (hts _ nt_1) ht hA, hT⟩⟩
      match j, hj with
      | 0, _ => exact hts _ nt_932
      | 1, _ => exact hts _ nt_940
      | k + 2, h => omega
    · exact ⟨0, fun h => absurd h hj⟩
  obtain ⟨ak, hak⟩ := Classical.axiomOfChoice hk
  refine ⟨fun k => if k < 10 then cA0 k else if k < 1010 then adK (k - 1000) else if k < 1020 then adV (k - 1010) else ak (k - 1020), fun k hk => if_pos hk, start_XK hts, ⟨?_, ?_, ?_, ?_, ?_⟩, ⟨?_, ?_⟩, ?_⟩
  · intro j hj
    match j, hj with
    | 0, _ => exact hS.1 0 (by decide)
    | 1, _ => exact hS.1 1 (by decide)
    | 2, _ => exact hS.1 2 (by decide)
    | k + 3, h => omega
  · intro q hq
    simp only [slits, List.mem_cons, List.not_mem_nil, or_false] at hq
    rcases hq with rfl | rfl | rfl | rfl
    · exact vk_R.of (hts _ nt_772) (hE 1 (by decide))
    · exact vk_R.of (hts _ nt_1177) (hE 0 (by decide))
    · exact vk_R.of (hts _ nt_1188) (va_eqR (hs _ fl_one) (hE 0 (by decide)))
    · exact vk_R.of (hts _ nt_1266) (hE 2 (by decide))
  · intro j hj
    match j, hj with
    | 0, h => exact hak 0 (by decide)
    | 1, h => exact hak 1 (by decide)
    | k + 2, h => omega
  · exact va_Zof (hts _ nt_524) (hts _ nt_21) (va_eqi (hs _ fl_cs)) hA
  · exact va_Zqof (hts _ nt_614) (hts _ nt_26) (hs _ fl_fm) hA
  · exact vx_Zqof (hts _ nt_382) (hts _ nt_11) (hs _ fl_us) hA
  · exact vx_Zqof (hts _ nt_384) (hts _ nt_11) (hs _ fl_ss) hA
  · exact fun e f h1 h2 h3 => va_Nc.of (hs _ (fl_nc e h1 f h2 h3))
