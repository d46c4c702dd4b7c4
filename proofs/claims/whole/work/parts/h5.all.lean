/-! ===== all calls together ===== -/
section ALLC
variable {x : Nat}
theorem calls_of (CN : ConP x) (OP : ∀ v, OkX (Iv x) (fun e => if e = 0 then some 1 else if e = 2 then some 2 else none) (C_X11_open x v) (R_open v) (fun _ _ => True)) : Calls x (Iv x) :=
  ⟨OP, fun v a b n => call_feed CN v a b n, fun v => call_lose v, fun v => call_isOpen v, fun v => call_size v, fun v i => call_out v i, fun v n => call_take v n, fun v => call_pending v, fun n => call_pass n, fun s => call_isSession s, fun s w => call_session s w, fun s => call_expiry s, fun s i => call_id s i, fun s k w => call_subscription s k w, fun s k i => call_filter s k i, fun i w => call_retained i w, fun i p k hp => call_kept i p k hp, fun w => call_told w⟩
theorem Iv.bound {i : Nat} {h : Hp} {r : RS} (hi : i ≤ 512) (I : Iv x i h r) : (hcs h).1 ≤ 601024 ∧ (hcs h).2 ≤ 7293034 := by
  obtain ⟨e0, O, _, _, k1, k2⟩ := I
  omega
theorem Iv.up {i : Nat} {h : Hp} {r : RS} (I : Iv x i h r) : Iv x (i + 1) h r := by
  obtain ⟨e0, O, ⟨t, t1, t2⟩, cn, k1, k2⟩ := I
  exact ⟨e0, O, ⟨t, t1, by omega⟩, cn.le (by omega), by omega, by omega⟩
theorem Iv.seat {i : Nat} {h : Hp} {r : RS} (I : Iv x i h r) : hkd h x = 14 ∧ hkd h (x + 129) = 104 ∧ hln h (x + 129) = 1 := by
  obtain ⟨e0, O, _⟩ := I
  have T := O.1.st
  obtain ⟨_, _, _, _, _, _, _, _, a9, a10⟩ := T.2.2.2.2.2.1
  exact ⟨T.2.1.1, a9, a10⟩
end ALLC
