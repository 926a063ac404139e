/-! words more -/
theorem xw_oi : (Cond.instanceMethod objectInit) ∈ xw_g := xw_in (List.mem_of_getElem? (i := 69) (by decide +kernel)) (by decide +kernel)
theorem xw_oc : (Cond.code objectInit ⟨#[0xb1]⟩ 1 none) ∈ xw_g := xw_in (List.mem_of_getElem? (i := 70) (by decide +kernel)) (by decide +kernel)
