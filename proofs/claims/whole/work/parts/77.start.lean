/-! the start: what the tables give -/
theorem xs_arr {args : Array Value} {s : State} {ty : FieldType} (h : (Cond.arrayClass ty).before args s = true) : ∃ cA, ArrOfT s cA ty ∧ s.vm.findClass ("[" ++ ty.toString) = some cA := by
  obtain ⟨cA, kA, comp, h1, h2, h3⟩ := Cond.arrayClass_spec h
  exact ⟨cA, fun n z => ⟨fun k h => (by cases h), kA, h2, comp, h3⟩, h1⟩
theorem xs_K {args : Array Value} {s : State} (hts : ∀ w ∈ lw_tbl, w.before args s = true) : ∃ (D : va_G) (cI cZ cJ : ClassId), xc_K D cI cZ cJ s := by
  have hgs : ∀ w ∈ xw_g, w.before args s = true := fun w h => hts w (List.mem_filter.mp h).1
  obtain ⟨cB, iB, kB⟩ := u_known (ws := xw_g) (C := xn_B) (T := xn_TB) (N := 4) hgs xw_uB (hgs _ xw_24)
  obtain ⟨cC, iC, kC⟩ := u_known (ws := xw_g) (C := xn_C) (T := xn_TC) (N := 3) hgs xw_uC (hgs _ xw_65)
  obtain ⟨cD, iD, kD⟩ := u_known (ws := xw_g) (C := xn_D) (T := xn_TD) (N := 2) hgs xw_uD (hgs _ xw_82)
  obtain ⟨cR, iR, kR⟩ := u_known (ws := xw_g) (C := xn_R) (T := xn_TR) (N := 3) hgs xw_uR (hgs _ xw_47)
  obtain ⟨cS, iS, kS⟩ := u_known (ws := xw_g) (C := xn_S) (T := xn_TS) (N := 4) hgs xw_uS (hgs _ xw_95)
  obtain ⟨cL, iL, kL⟩ := u_known (ws := xw_g) (C := xn_L) (T := xn_TL) (N := 5) hgs xw_uL (hgs _ xw_16)
  obtain ⟨cM, iM, kM⟩ := u_known (ws := xw_g) (C := xn_M) (T := xn_TM) (N := 13) hgs xw_uM (hgs _ xw_521)
  obtain ⟨aI, eI, fI⟩ := xs_arr (hgs _ xw_45)
  obtain ⟨aZ, eZ, fZ⟩ := xs_arr (hgs _ xw_570)
  obtain ⟨aJ, eJ, fJ⟩ := xs_arr (hgs _ xw_710)
  refine ⟨(fun c => match c with | 0 => cB | 1 => cC | 2 => cD | 3 => cR | 4 => cS | 5 => cL | _ => cM, fun c => match c with | 0 => iB | 1 => iC | 2 => iD | 3 => iR | 4 => iS | 5 => iL | _ => iM), aI, aZ, aJ, ⟨fun c q hq => ?_, fun k q hq => ?_⟩, fun w hw => ?_⟩
  · rcases c with _ | _ | _ | _ | _ | _ | _ | c
    · cases Option.some.inj hq; exact kB
    · cases Option.some.inj hq; exact kC
    · cases Option.some.inj hq; exact kD
    · cases Option.some.inj hq; exact kR
    · cases Option.some.inj hq; exact kS
    · cases Option.some.inj hq; exact kL
    · cases Option.some.inj hq; exact kM
    · cases hq
  · rcases k with _ | _ | _ | k
    · cases Option.some.inj hq; exact ⟨eI, fI⟩
    · cases Option.some.inj hq; exact ⟨eZ, fZ⟩
    · cases Option.some.inj hq; exact ⟨eJ, fJ⟩
    · cases hq
  · have h1 : w ∈ lw_tbl := of_decide_eq_true (List.all_eq_true.mp (by decide +kernel : xc_nwL.all (fun w => decide (w ∈ lw_tbl)) = true) w hw)
    have h2 := xc_nwL_n w hw
    have h3 := hts w h1
    cases w <;> first | (exact absurd (show false = true from h2) (by decide)) | exact va_Nw.of rfl h3
