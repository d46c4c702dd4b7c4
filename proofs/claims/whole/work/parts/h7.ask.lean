/-! ===== the pure question, from what is still owed ===== -/
theorem ask_all {n L : Nat} {xs : Nat → Int32} (hL : L ≤ 3584) (CN : ConP n) (OP : ∀ v, OkX (Iv n) (fun e => if e = 0 then some 1 else if e = 2 then some 2 else none) (C_X11_open n v) (R_open v) (fun _ _ => True)) (h0 : ∀ h, Fresh h n → NewA h (n + 129) 3 1 → hnx h = n + 130 → (hcs h).1 = 130 → (hcs h).2 = 375602 → Iv n 0 h rs0) :
    ∃ σ', START n L xs (h00 n) = some ((), σ') ∧ (hcs σ').1 ≤ 601024 ∧ (hcs σ').2 ≤ 7293034 := ask_of hL seat_of (calls_of CN OP) h0 (fun _ _ _ hi I => I.bound hi)
