/-! ===== the law's invariant at the start ===== -/
section INI
variable {x : Nat} {h : Hp}
theorem rs0.a {k q : Nat} (hk : k ≠ 7) : rs0.2.1 k q = 0 := if_neg hk
theorem rs0.i {k : Nat} : rs0.1 k = 0 := rfl
theorem rs0.l {k q : Nat} : rs0.2.2 k q = 0 := rfl
theorem ini_stat (F : Fresh h x) (A : NewA h (x + 129) 3 1) (hn : hnx h = x + 130) : Stat x h := by
  obtain ⟨⟨k0, r0, k1, l1, i0, C⟩, ⟨r1, n1⟩, ⟨r2, n2⟩, ⟨r3, n3⟩, ⟨r4, n4⟩, ⟨r5, n5⟩, ⟨r6, n6⟩, ⟨r7, n7⟩, ⟨r8, n8⟩⟩ := F
  obtain ⟨a1, a2⟩ := n2.2.2.2.2 0 _ rfl
  obtain ⟨b1, b2⟩ := n4.2.2.2.2 0 _ rfl
  obtain ⟨b3, b4⟩ := n4.2.2.2.2 1 _ rfl
  obtain ⟨b5, b6⟩ := n4.2.2.2.2 2 _ rfl
  obtain ⟨b7, b8⟩ := n4.2.2.2.2 3 _ rfl
  obtain ⟨d1, d2⟩ := n5.2.2.2.2 0 _ rfl
  obtain ⟨e1, e2, e3, e4, e5, e6, e7⟩ := n3
  refine ⟨by omega, ⟨k0, r0, r1, r2, r3, r4, r5, r6, r7, r8⟩, ⟨k1, l1, n1.1, n1.2.1, n2.1, a1, a2.1, a2.2.1⟩, ⟨e1, e3, e5, e6, e7.1, e7.2.1⟩, ⟨n4.1, b1, b3, b5, b7, b2.1, b2.2.1, b4.1, b4.2.1, b6.1, b6.2.1, b8.1, b8.2.1⟩, ⟨n5.1, d1, d2.1, d2.2.1, n6.1, n7.1, n8.1, n8.2.1, A.1, A.2.1⟩, fun i hi => ?_⟩
  obtain ⟨c1, c2, c3, c4, c5, ⟨c6, c7, c8⟩, c9, c10, c11, c12⟩ := C i hi
  exact ⟨c1, c2, c3, c6, c10.1, c10.2.1, c7, c11.1, c11.2.1, c8, c12.1, c12.2.1⟩
theorem ini_rel (F : Fresh h x) (A : NewA h (x + 129) 3 1) (hn : hnx h = x + 130) : Rel x 8 12 96 0 h rs0 := by
  have T := ini_stat F A hn
  obtain ⟨⟨k0, r0, k1, l1, i0, C⟩, ⟨r1, n1⟩, ⟨r2, n2⟩, ⟨r3, n3⟩, ⟨r4, n4⟩, ⟨r5, n5⟩, ⟨r6, n6⟩, ⟨r7, n7⟩, ⟨r8, n8⟩⟩ := F
  have z34 : ∀ s, har h (x + 34) s = none := n1.2.2.2.2
  have cf : ∀ i, i < 8 → ∀ f, f ≠ 200 → hfi h f (cA x i) = 0 := fun i hi f hf => (C i hi).2.2.2.1 f hf
  have no : ∀ {s b : Nat} {p : Prop}, har h (x + 34) s = some b → p := fun {s b p} z => by
    rw [z34 s] at z
    cases z
  have kp : kpt rs0 = [] := rfl
  refine ⟨T, ⟨⟨0, by omega, rfl⟩, i0 _, i0 _, i0 _, i0 _, i0 _, i0 _, ?_⟩, ?_, fun i hi => ⟨⟨⟨?_, Or.inl rfl⟩, ⟨?_, Or.inl rfl, fun z => absurd (show (0 : Int32) = 1 from z) (by decide)⟩, ⟨?_, 0, Nat.zero_le _, rfl⟩, Or.inl ⟨rfl, ?_⟩⟩, ⟨[], ⟨?_, by decide, Cg.nil, By.nil⟩, ⟨rfl, by decide, Mg.nil, By.nil⟩⟩, fun k hk => Or.inl ⟨?_, rfl⟩, fun _ => ⟨[], ?_, rfl, by decide, By.nil, Cg.nil, Mg.nil, fun _ => rfl, Or.inl rfl⟩⟩, fun s hs => Or.inl ⟨rfl, z34 s⟩, ?_, ?_, ?_, ⟨⟨0, by omega, rfl, fun k hk => by omega⟩, ?_, ?_⟩, ?_, 0, [], ?_⟩
  · rw [i0]
    rfl
  · unfold sSum
    rw [cf 0 (by omega) _ (by omega), cf 1 (by omega) _ (by omega), cf 2 (by omega) _ (by omega), cf 3 (by omega) _ (by omega), cf 4 (by omega) _ (by omega), cf 5 (by omega) _ (by omega), cf 6 (by omega) _ (by omega), cf 7 (by omega) _ (by omega)]
    rfl
  · exact cf i hi _ (by omega)
  · exact cf i hi _ (by omega)
  · exact cf i hi _ (by omega)
  · exact (C i hi).2.2.2.2.2.2.1 _ (by omega) (by omega) (by omega)
  · exact cf i hi _ (by omega)
  · exact (C i hi).2.2.2.2.2.2.2.2.2.2.2.2.2 _
  · exact cf i hi _ (by omega)
  · intro s s' b b' k k' d _ _ z
    exact no z
  · intro s s' b b' k k' d _ _ z
    exact no z
  · exact ⟨fun s s' _ _ z => absurd (show (0 : Int32) = 1 from z) (by decide), fun s _ _ => ⟨rfl, rfl, rfl, rfl⟩⟩
  · rw [kp, n2.2.1]
    rfl
  · intro k hk
    rw [kp] at hk
    exact absurd hk (Nat.not_lt_zero _)
  · intro s b m j _ z
    exact no z
  · exact ⟨⟨n5.1, (n5.2.2.2.2 0 _ rfl).1, (n5.2.2.2.2 0 _ rfl).2.1, (n5.2.2.2.2 0 _ rfl).2.2.1⟩, n5.2.1 _, n5.2.1 _, Cg.nil, By.nil, by decide⟩
theorem ini_iv (F : Fresh h x) (A : NewA h (x + 129) 3 1) (hn : hnx h = x + 130) (c1 : (hcs h).1 = 130) (c2 : (hcs h).2 = 375602) : Iv x 0 h rs0 := by
  have w : WN rs0 = 0 := rfl
  have s : SB rs0 = 0 := rfl
  exact ⟨0, ⟨ini_rel F A hn, fun i _ => rfl⟩, ⟨0, rfl, by omega⟩, ⟨0, 0, 0, rfl, rfl, rfl, by omega, by omega, by omega⟩, by rw [w, s]; omega, by rw [w, s]; omega⟩
end INI
