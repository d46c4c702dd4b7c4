/-! ===== reads behind writes: the class's heap ===== -/
section RBW
variable {h : Hp} {f a g b c n : Nat}
theorem hnx_sfi {v : Int32} : hnx (sfi h f a v) = hnx h := rfl
theorem hkd_sfi {v : Int32} : hkd (sfi h f a v) = hkd h := rfl
theorem hln_sfi {v : Int32} : hln (sfi h f a v) = hln h := rfl
theorem hfi_sfi {v : Int32} : hfi (sfi h f a v) g b = if g = f ∧ b = a then v else hfi h g b := rfl
theorem hfl_sfi {v : Int32} : hfl (sfi h f a v) = hfl h := rfl
theorem hfr_sfi {v : Int32} : hfr (sfi h f a v) = hfr h := rfl
theorem hai_sfi {v : Int32} : hai (sfi h f a v) = hai h := rfl
theorem hal_sfi {v : Int32} : hal (sfi h f a v) = hal h := rfl
theorem har_sfi {v : Int32} : har (sfi h f a v) = har h := rfl
theorem hcs_sfi {v : Int32} : hcs (sfi h f a v) = hcs h := rfl
theorem hnx_sfl {v : Int64} : hnx (sfl h f a v) = hnx h := rfl
theorem hkd_sfl {v : Int64} : hkd (sfl h f a v) = hkd h := rfl
theorem hln_sfl {v : Int64} : hln (sfl h f a v) = hln h := rfl
theorem hfi_sfl {v : Int64} : hfi (sfl h f a v) = hfi h := rfl
theorem hfl_sfl {v : Int64} : hfl (sfl h f a v) g b = if g = f ∧ b = a then v else hfl h g b := rfl
theorem hfr_sfl {v : Int64} : hfr (sfl h f a v) = hfr h := rfl
theorem hai_sfl {v : Int64} : hai (sfl h f a v) = hai h := rfl
theorem hal_sfl {v : Int64} : hal (sfl h f a v) = hal h := rfl
theorem har_sfl {v : Int64} : har (sfl h f a v) = har h := rfl
theorem hcs_sfl {v : Int64} : hcs (sfl h f a v) = hcs h := rfl
theorem hnx_sfr {v : Option Nat} : hnx (sfr h f a v) = hnx h := rfl
theorem hkd_sfr {v : Option Nat} : hkd (sfr h f a v) = hkd h := rfl
theorem hln_sfr {v : Option Nat} : hln (sfr h f a v) = hln h := rfl
theorem hfi_sfr {v : Option Nat} : hfi (sfr h f a v) = hfi h := rfl
theorem hfl_sfr {v : Option Nat} : hfl (sfr h f a v) = hfl h := rfl
theorem hfr_sfr {v : Option Nat} : hfr (sfr h f a v) g b = if g = f ∧ b = a then v else hfr h g b := rfl
theorem hai_sfr {v : Option Nat} : hai (sfr h f a v) = hai h := rfl
theorem hal_sfr {v : Option Nat} : hal (sfr h f a v) = hal h := rfl
theorem har_sfr {v : Option Nat} : har (sfr h f a v) = har h := rfl
theorem hcs_sfr {v : Option Nat} : hcs (sfr h f a v) = hcs h := rfl
theorem hnx_sai {v : Nat → Int32} : hnx (sai h a v) = hnx h := rfl
theorem hkd_sai {v : Nat → Int32} : hkd (sai h a v) = hkd h := rfl
theorem hln_sai {v : Nat → Int32} : hln (sai h a v) = hln h := rfl
theorem hfi_sai {v : Nat → Int32} : hfi (sai h a v) = hfi h := rfl
theorem hfl_sai {v : Nat → Int32} : hfl (sai h a v) = hfl h := rfl
theorem hfr_sai {v : Nat → Int32} : hfr (sai h a v) = hfr h := rfl
theorem hai_sai {v : Nat → Int32} : hai (sai h a v) b = if b = a then v else hai h b := rfl
theorem hal_sai {v : Nat → Int32} : hal (sai h a v) = hal h := rfl
theorem har_sai {v : Nat → Int32} : har (sai h a v) = har h := rfl
theorem hcs_sai {v : Nat → Int32} : hcs (sai h a v) = hcs h := rfl
theorem hnx_sal {v : Nat → Int64} : hnx (sal h a v) = hnx h := rfl
theorem hkd_sal {v : Nat → Int64} : hkd (sal h a v) = hkd h := rfl
theorem hln_sal {v : Nat → Int64} : hln (sal h a v) = hln h := rfl
theorem hfi_sal {v : Nat → Int64} : hfi (sal h a v) = hfi h := rfl
theorem hfl_sal {v : Nat → Int64} : hfl (sal h a v) = hfl h := rfl
theorem hfr_sal {v : Nat → Int64} : hfr (sal h a v) = hfr h := rfl
theorem hai_sal {v : Nat → Int64} : hai (sal h a v) = hai h := rfl
theorem hal_sal {v : Nat → Int64} : hal (sal h a v) b = if b = a then v else hal h b := rfl
theorem har_sal {v : Nat → Int64} : har (sal h a v) = har h := rfl
theorem hcs_sal {v : Nat → Int64} : hcs (sal h a v) = hcs h := rfl
theorem hnx_sar {v : Nat → Option Nat} : hnx (sar h a v) = hnx h := rfl
theorem hkd_sar {v : Nat → Option Nat} : hkd (sar h a v) = hkd h := rfl
theorem hln_sar {v : Nat → Option Nat} : hln (sar h a v) = hln h := rfl
theorem hfi_sar {v : Nat → Option Nat} : hfi (sar h a v) = hfi h := rfl
theorem hfl_sar {v : Nat → Option Nat} : hfl (sar h a v) = hfl h := rfl
theorem hfr_sar {v : Nat → Option Nat} : hfr (sar h a v) = hfr h := rfl
theorem hai_sar {v : Nat → Option Nat} : hai (sar h a v) = hai h := rfl
theorem hal_sar {v : Nat → Option Nat} : hal (sar h a v) = hal h := rfl
theorem har_sar {v : Nat → Option Nat} : har (sar h a v) b = if b = a then v else har h b := rfl
theorem hcs_sar {v : Nat → Option Nat} : hcs (sar h a v) = hcs h := rfl
theorem hnx_hob : hnx (hob h c n) = hnx h + 1 := rfl
theorem hkd_hob : hkd (hob h c n) b = if b = hnx h then c + 1 else hkd h b := rfl
theorem hln_hob : hln (hob h c n) = hln h := rfl
theorem hfi_hob : hfi (hob h c n) g b = if b = hnx h then 0 else hfi h g b := rfl
theorem hfl_hob : hfl (hob h c n) g b = if b = hnx h then 0 else hfl h g b := rfl
theorem hfr_hob : hfr (hob h c n) g b = if b = hnx h then none else hfr h g b := rfl
theorem hai_hob : hai (hob h c n) = hai h := rfl
theorem hal_hob : hal (hob h c n) = hal h := rfl
theorem har_hob : har (hob h c n) = har h := rfl
theorem hc1_hob : (hcs (hob h c n)).1 = (hcs h).1 + 1 := rfl
theorem hc2_hob : (hcs (hob h c n)).2 = (hcs h).2 + n := rfl
theorem hnx_hay : hnx (hay h c n) = hnx h + 1 := rfl
theorem hkd_hay : hkd (hay h c n) b = if b = hnx h then 101 + c else hkd h b := rfl
theorem hln_hay : hln (hay h c n) b = if b = hnx h then n else hln h b := rfl
theorem hfi_hay : hfi (hay h c n) = hfi h := rfl
theorem hfl_hay : hfl (hay h c n) = hfl h := rfl
theorem hfr_hay : hfr (hay h c n) = hfr h := rfl
theorem hai_hay : hai (hay h c n) b = if b = hnx h then (fun _ => 0) else hai h b := rfl
theorem hal_hay : hal (hay h c n) b = if b = hnx h then (fun _ => 0) else hal h b := rfl
theorem har_hay : har (hay h c n) b = if b = hnx h then (fun _ => none) else har h b := rfl
theorem hc1_hay : (hcs (hay h c n)).1 = (hcs h).1 + 1 := rfl
theorem hc2_hay : (hcs (hay h c n)).2 = (hcs h).2 + n := rfl
theorem hnx_hsk : hnx (hsk h n) = hnx h + 1 := rfl
theorem hkd_hsk : hkd (hsk h n) b = if b = hnx h then 0 else hkd h b := rfl
theorem hln_hsk : hln (hsk h n) = hln h := rfl
theorem hfi_hsk : hfi (hsk h n) = hfi h := rfl
theorem hfl_hsk : hfl (hsk h n) = hfl h := rfl
theorem hfr_hsk : hfr (hsk h n) = hfr h := rfl
theorem hai_hsk : hai (hsk h n) = hai h := rfl
theorem hal_hsk : hal (hsk h n) = hal h := rfl
theorem har_hsk : har (hsk h n) = har h := rfl
theorem hc1_hsk : (hcs (hsk h n)).1 = (hcs h).1 + 1 := rfl
theorem hc2_hsk : (hcs (hsk h n)).2 = (hcs h).2 + n := rfl
end RBW
