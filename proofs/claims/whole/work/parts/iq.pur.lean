/-! ===== the pure question is answered ===== -/
theorem pure_all {n L : Nat} {xs : Nat → Int32} (hL : L ≤ 3584) : ∃ σ', START n L xs (h00 n) = some ((), σ') ∧ (hcs σ').1 ≤ 601024 ∧ (hcs σ').2 ≤ 7293034 := ask_all hL con_all call_open (fun _ F A hn c1 c2 => ini_iv F A hn c1 c2)
