/-! walks: what refuses -/
set_option maxRecDepth 100000 in
set_option maxHeartbeats 4000000 in
theorem xt_L_requireDay (l : Launch) (hl0 : l.stackTraces = false) (D : va_G) (cI cZ cJ : ClassId) (sa : Nat → Nat) (x0 b0 r0 c0 d0 s0 : Nat) (b1 b2 gc dc : Nat) (d : Int32) : xc_Xv l xy_L_requireDay xb_L_requireDay 2 6 1 6 [.ref x0, .int d] D cI cZ cJ sa [(x0, .inr (5, [.ref b0, .ref r0, .ref c0, .ref d0, .ref s0])), (b0, .inr (0, [.ref b1, .ref b2, .int (nI gc), .int (nI dc)]))] (Unit) (fun _ => xo_in d dc = true) (fun E _ => E = xn_EX ∧ xo_in d dc = false) (fun _ => [(x0, .inr (5, [.ref b0, .ref r0, .ref c0, .ref d0, .ref s0])), (b0, .inr (0, [.ref b1, .ref b2, .int (nI gc), .int (nI dc)]))]) := by
  refine xc_Xv_of hl0 (by decide) (by decide) rfl (Nat.le_of_ble_eq_true rfl) ?_
  intro p e s m args below meth c Q ls A hAt hP hK hD hA hS hl hT0 hret hthr hpass
  obtain ⟨hx, hb, hml, hown, hts, hgs, hlk⟩ := id hAt
  have hT : ∀ w ∈ xw_g, w ∈ xc_ws xy_L_requireDay xb_L_requireDay 2 (none) := fun w h => List.mem_cons_of_mem _ h
  have hown : s.vm.findClass "WishLedger" = some m.cls := hown
  obtain ⟨H, hH0⟩ : ∃ H, H = s.heap := ⟨_, rfl⟩
  obtain ⟨locs, hL0⟩ : ∃ locs : List Loc, locs = [] := ⟨_, rfl⟩
  have hP : va_P D xn_cl [(x0, .inr (5, [.ref b0, .ref r0, .ref c0, .ref d0, .ref s0])), (b0, .inr (0, [.ref b1, .ref b2, .int (nI gc), .int (nI dc)]))] H := by rw [hH0]; exact hP
  have hS : va_S A s.heap H locs := by rw [hH0, hL0]; exact hS
  suffices hgo : W p l e (xc_rm 6 1 6) s m args below meth c H locs 0 0 Q (F0 m 0 ls []) by rw [hH0, hL0] at hgo; exact hgo
  clear hH0 hL0
  have hl : lv_has ls 2 [(0, .ref x0), (1, .int d)] := hl
  refine lv_iload_n hx hb xj_L_requireDay_0 rfl (lv_at hl 1 rfl) ?_
  refine lv_if_lt (tgt := 15) hx hb xj_L_requireDay_1 rfl (fun h1 => ?_) (fun h1 => ?_)
  · -- 15
    exact hthr xn_EX (()) H locs _ _ _ ls (⟨rfl, xo_in_1 h1⟩) hP hD hS hl.1 ⟨120, 170, 124, 2, _, xj_L_requireDay_15, xj_L_requireDay_18, xj_L_requireDay_19, xj_L_requireDay_21, xj_L_requireDay_24, xw_295, xw_13, rfl, Or.inr (Or.inr ⟨rfl, rfl⟩)⟩ (Nat.le_of_ble_eq_true rfl) (Nat.le_of_ble_eq_true rfl)
  · -- 4
    refine lv_iload_n hx hb xj_L_requireDay_4 rfl (lv_at hl 1 rfl) ?_
    refine lv_aload_n hx hb xj_L_requireDay_5 rfl (lv_at hl 0 rfl) ?_
    refine va_get (D := D) (ci := 5) (v := .ref b0) (C := xn_L) (T := xn_TL) (N := 5) hx hb hgs xw_uL hown hK.1 hP 0 rfl rfl 0 (by decide) (hgs _ xw_123) (fun _ h9 => h9) rfl xj_L_requireDay_6 ?_
    refine va_getN (D := D) (ci := 0) (v := .int (nI dc)) (C := xn_B) (T := xn_TB) (N := 4) hx hb hgs xw_uB hown hK.1 hP 1 rfl rfl 3 (by decide) (va_Nw.use rfl (hK.2 _ (List.mem_of_getElem? (i := 3) rfl))) (fun _ h9 => h9) rfl xj_L_requireDay_9 ?_
    refine lv_icmp_lt (tgt := 25) hx hb xj_L_requireDay_12 rfl (fun h12 => ?_) (fun h12 => ?_)
    · -- 25
      exact hret (()) H locs _ _ _ ls (xo_in_t h1 h12) hP hD hS (Nat.le_of_ble_eq_true rfl) (Nat.le_of_ble_eq_true rfl) xj_L_requireDay_25
    · -- 15
      exact hthr xn_EX (()) H locs _ _ _ ls (⟨rfl, xo_in_2 h12⟩) hP hD hS hl.1 ⟨120, 170, 124, 2, _, xj_L_requireDay_15, xj_L_requireDay_18, xj_L_requireDay_19, xj_L_requireDay_21, xj_L_requireDay_24, xw_295, xw_13, rfl, Or.inr (Or.inr ⟨rfl, rfl⟩)⟩ (Nat.le_of_ble_eq_true rfl) (Nat.le_of_ble_eq_true rfl)
set_option maxRecDepth 100000 in
set_option maxHeartbeats 4000000 in
theorem xt_L_requireGood (l : Launch) (hl0 : l.stackTraces = false) (D : va_G) (cI cZ cJ : ClassId) (sa : Nat → Nat) (x0 b0 r0 c0 d0 s0 : Nat) (b1 b2 gc dc : Nat) (d : Int32) : xc_Xv l xy_L_requireGood xb_L_requireGood 2 6 1 6 [.ref x0, .int d] D cI cZ cJ sa [(x0, .inr (5, [.ref b0, .ref r0, .ref c0, .ref d0, .ref s0])), (b0, .inr (0, [.ref b1, .ref b2, .int (nI gc), .int (nI dc)]))] (Unit) (fun _ => xo_in d gc = true) (fun E _ => E = xn_EX ∧ xo_in d gc = false) (fun _ => [(x0, .inr (5, [.ref b0, .ref r0, .ref c0, .ref d0, .ref s0])), (b0, .inr (0, [.ref b1, .ref b2, .int (nI gc), .int (nI dc)]))]) := by
  refine xc_Xv_of hl0 (by decide) (by decide) rfl (Nat.le_of_ble_eq_true rfl) ?_
  intro p e s m args below meth c Q ls A hAt hP hK hD hA hS hl hT0 hret hthr hpass
  obtain ⟨hx, hb, hml, hown, hts, hgs, hlk⟩ := id hAt
  have hT : ∀ w ∈ xw_g, w ∈ xc_ws xy_L_requireGood xb_L_requireGood 2 (none) := fun w h => List.mem_cons_of_mem _ h
  have hown : s.vm.findClass "WishLedger" = some m.cls := hown
  obtain ⟨H, hH0⟩ : ∃ H, H = s.heap := ⟨_, rfl⟩
  obtain ⟨locs, hL0⟩ : ∃ locs : List Loc, locs = [] := ⟨_, rfl⟩
  have hP : va_P D xn_cl [(x0, .inr (5, [.ref b0, .ref r0, .ref c0, .ref d0, .ref s0])), (b0, .inr (0, [.ref b1, .ref b2, .int (nI gc), .int (nI dc)]))] H := by rw [hH0]; exact hP
  have hS : va_S A s.heap H locs := by rw [hH0, hL0]; exact hS
  suffices hgo : W p l e (xc_rm 6 1 6) s m args below meth c H locs 0 0 Q (F0 m 0 ls []) by rw [hH0, hL0] at hgo; exact hgo
  clear hH0 hL0
  have hl : lv_has ls 2 [(0, .ref x0), (1, .int d)] := hl
  refine lv_iload_n hx hb xj_L_requireGood_0 rfl (lv_at hl 1 rfl) ?_
  refine lv_if_lt (tgt := 15) hx hb xj_L_requireGood_1 rfl (fun h1 => ?_) (fun h1 => ?_)
  · -- 15
    exact hthr xn_EX (()) H locs _ _ _ ls (⟨rfl, xo_in_1 h1⟩) hP hD hS hl.1 ⟨120, 175, 124, 3, _, xj_L_requireGood_15, xj_L_requireGood_18, xj_L_requireGood_19, xj_L_requireGood_21, xj_L_requireGood_24, xw_295, xw_13, rfl, Or.inr (Or.inr ⟨rfl, rfl⟩)⟩ (Nat.le_of_ble_eq_true rfl) (Nat.le_of_ble_eq_true rfl)
  · -- 4
    refine lv_iload_n hx hb xj_L_requireGood_4 rfl (lv_at hl 1 rfl) ?_
    refine lv_aload_n hx hb xj_L_requireGood_5 rfl (lv_at hl 0 rfl) ?_
    refine va_get (D := D) (ci := 5) (v := .ref b0) (C := xn_L) (T := xn_TL) (N := 5) hx hb hgs xw_uL hown hK.1 hP 0 rfl rfl 0 (by decide) (hgs _ xw_123) (fun _ h9 => h9) rfl xj_L_requireGood_6 ?_
    refine va_getN (D := D) (ci := 0) (v := .int (nI gc)) (C := xn_B) (T := xn_TB) (N := 4) hx hb hgs xw_uB hown hK.1 hP 1 rfl rfl 2 (by decide) (va_Nw.use rfl (hK.2 _ (List.mem_of_getElem? (i := 1) rfl))) (fun _ h9 => h9) rfl xj_L_requireGood_9 ?_
    refine lv_icmp_lt (tgt := 25) hx hb xj_L_requireGood_12 rfl (fun h12 => ?_) (fun h12 => ?_)
    · -- 25
      exact hret (()) H locs _ _ _ ls (xo_in_t h1 h12) hP hD hS (Nat.le_of_ble_eq_true rfl) (Nat.le_of_ble_eq_true rfl) xj_L_requireGood_25
    · -- 15
      exact hthr xn_EX (()) H locs _ _ _ ls (⟨rfl, xo_in_2 h12⟩) hP hD hS hl.1 ⟨120, 175, 124, 3, _, xj_L_requireGood_15, xj_L_requireGood_18, xj_L_requireGood_19, xj_L_requireGood_21, xj_L_requireGood_24, xw_295, xw_13, rfl, Or.inr (Or.inr ⟨rfl, rfl⟩)⟩ (Nat.le_of_ble_eq_true rfl) (Nat.le_of_ble_eq_true rfl)
set_option maxRecDepth 100000 in
set_option maxHeartbeats 4000000 in
theorem xt_L_requirePrice (l : Launch) (hl0 : l.stackTraces = false) (D : va_G) (cI cZ cJ : ClassId) (sa : Nat → Nat) (v : Int32) : xc_Xv l xy_L_requirePrice xb_L_requirePrice 1 6 1 6 [.int v] D cI cZ cJ sa [] (Unit) (fun _ => xo_rg v (nI 1) (nI 99) = true) (fun E _ => E = xn_EA ∧ xo_rg v (nI 1) (nI 99) = false) (fun _ => []) := by
  refine xc_Xv_of hl0 (by decide) (by decide) rfl (Nat.le_of_ble_eq_true rfl) ?_
  intro p e s m args below meth c Q ls A hAt hP hK hD hA hS hl hT0 hret hthr hpass
  obtain ⟨hx, hb, hml, hown, hts, hgs, hlk⟩ := id hAt
  have hT : ∀ w ∈ xw_g, w ∈ xc_ws xy_L_requirePrice xb_L_requirePrice 1 (none) := fun w h => List.mem_cons_of_mem _ h
  have hown : s.vm.findClass "WishLedger" = some m.cls := hown
  obtain ⟨H, hH0⟩ : ∃ H, H = s.heap := ⟨_, rfl⟩
  obtain ⟨locs, hL0⟩ : ∃ locs : List Loc, locs = [] := ⟨_, rfl⟩
  have hP : va_P D xn_cl [] H := by rw [hH0]; exact hP
  have hS : va_S A s.heap H locs := by rw [hH0, hL0]; exact hS
  suffices hgo : W p l e (xc_rm 6 1 6) s m args below meth c H locs 0 0 Q (F0 m 0 ls []) by rw [hH0, hL0] at hgo; exact hgo
  clear hH0 hL0
  have hl : lv_has ls 1 [(0, .int v)] := hl
  refine lv_iload_n hx hb xj_L_requirePrice_0 rfl (lv_at hl 0 rfl) ?_
  refine lv_iconst (v := nI 1) hx hb xj_L_requirePrice_1 (by decide) ?_
  refine lv_icmp_lt (tgt := 11) hx hb xj_L_requirePrice_2 rfl (fun h2 => ?_) (fun h2 => ?_)
  · -- 11
    exact hthr xn_EA (()) H locs _ _ _ ls (⟨rfl, xo_rg_1 h2⟩) hP hD hS hl.1 ⟨48, 177, 52, 4, _, xj_L_requirePrice_11, xj_L_requirePrice_14, xj_L_requirePrice_15, xj_L_requirePrice_17, xj_L_requirePrice_20, xw_187, xw_11, rfl, Or.inl ⟨rfl, rfl⟩⟩ (Nat.le_of_ble_eq_true rfl) (Nat.le_of_ble_eq_true rfl)
  · -- 5
    refine lv_iload_n hx hb xj_L_requirePrice_5 rfl (lv_at hl 0 rfl) ?_
    refine lv_bipush (v := nI 99) hx hb xj_L_requirePrice_6 (by decide) ?_
    refine lv_icmp_le (tgt := 21) hx hb xj_L_requirePrice_8 rfl (fun h8 => ?_) (fun h8 => ?_)
    · -- 21
      exact hret (()) H locs _ _ _ ls (xo_rg_t h2 h8) hP hD hS (Nat.le_of_ble_eq_true rfl) (Nat.le_of_ble_eq_true rfl) xj_L_requirePrice_21
    · -- 11
      exact hthr xn_EA (()) H locs _ _ _ ls (⟨rfl, xo_rg_2 h8⟩) hP hD hS hl.1 ⟨48, 177, 52, 4, _, xj_L_requirePrice_11, xj_L_requirePrice_14, xj_L_requirePrice_15, xj_L_requirePrice_17, xj_L_requirePrice_20, xw_187, xw_11, rfl, Or.inl ⟨rfl, rfl⟩⟩ (Nat.le_of_ble_eq_true rfl) (Nat.le_of_ble_eq_true rfl)
set_option maxRecDepth 100000 in
set_option maxHeartbeats 4000000 in
theorem xt_L_requireAmount (l : Launch) (hl0 : l.stackTraces = false) (D : va_G) (cI cZ cJ : ClassId) (sa : Nat → Nat) (v : Int32) : xc_Xv l xy_L_requireAmount xb_L_requireAmount 1 6 1 6 [.int v] D cI cZ cJ sa [] (Unit) (fun _ => xo_rg v 0 (nI 99) = true) (fun E _ => E = xn_EA ∧ xo_rg v 0 (nI 99) = false) (fun _ => []) := by
  refine xc_Xv_of hl0 (by decide) (by decide) rfl (Nat.le_of_ble_eq_true rfl) ?_
  intro p e s m args below meth c Q ls A hAt hP hK hD hA hS hl hT0 hret hthr hpass
  obtain ⟨hx, hb, hml, hown, hts, hgs, hlk⟩ := id hAt
  have hT : ∀ w ∈ xw_g, w ∈ xc_ws xy_L_requireAmount xb_L_requireAmount 1 (none) := fun w h => List.mem_cons_of_mem _ h
  have hown : s.vm.findClass "WishLedger" = some m.cls := hown
  obtain ⟨H, hH0⟩ : ∃ H, H = s.heap := ⟨_, rfl⟩
  obtain ⟨locs, hL0⟩ : ∃ locs : List Loc, locs = [] := ⟨_, rfl⟩
  have hP : va_P D xn_cl [] H := by rw [hH0]; exact hP
  have hS : va_S A s.heap H locs := by rw [hH0, hL0]; exact hS
  suffices hgo : W p l e (xc_rm 6 1 6) s m args below meth c H locs 0 0 Q (F0 m 0 ls []) by rw [hH0, hL0] at hgo; exact hgo
  clear hH0 hL0
  have hl : lv_has ls 1 [(0, .int v)] := hl
  refine lv_iload_n hx hb xj_L_requireAmount_0 rfl (lv_at hl 0 rfl) ?_
  refine lv_if_lt (tgt := 10) hx hb xj_L_requireAmount_1 rfl (fun h1 => ?_) (fun h1 => ?_)
  · -- 10
    exact hthr xn_EA (()) H locs _ _ _ ls (⟨rfl, xo_rg_1 h1⟩) hP hD hS hl.1 ⟨48, 179, 52, 5, _, xj_L_requireAmount_10, xj_L_requireAmount_13, xj_L_requireAmount_14, xj_L_requireAmount_16, xj_L_requireAmount_19, xw_187, xw_11, rfl, Or.inl ⟨rfl, rfl⟩⟩ (Nat.le_of_ble_eq_true rfl) (Nat.le_of_ble_eq_true rfl)
  · -- 4
    refine lv_iload_n hx hb xj_L_requireAmount_4 rfl (lv_at hl 0 rfl) ?_
    refine lv_bipush (v := nI 99) hx hb xj_L_requireAmount_5 (by decide) ?_
    refine lv_icmp_le (tgt := 20) hx hb xj_L_requireAmount_7 rfl (fun h7 => ?_) (fun h7 => ?_)
    · -- 20
      exact hret (()) H locs _ _ _ ls (xo_rg_t h1 h7) hP hD hS (Nat.le_of_ble_eq_true rfl) (Nat.le_of_ble_eq_true rfl) xj_L_requireAmount_20
    · -- 10
      exact hthr xn_EA (()) H locs _ _ _ ls (⟨rfl, xo_rg_2 h7⟩) hP hD hS hl.1 ⟨48, 179, 52, 5, _, xj_L_requireAmount_10, xj_L_requireAmount_13, xj_L_requireAmount_14, xj_L_requireAmount_16, xj_L_requireAmount_19, xw_187, xw_11, rfl, Or.inl ⟨rfl, rfl⟩⟩ (Nat.le_of_ble_eq_true rfl) (Nat.le_of_ble_eq_true rfl)
set_option maxRecDepth 100000 in
set_option maxHeartbeats 4000000 in
theorem xt_L_requireZeroOrOne (l : Launch) (hl0 : l.stackTraces = false) (D : va_G) (cI cZ cJ : ClassId) (sa : Nat → Nat) (v : Int32) : xc_Xv l xy_L_requireZeroOrOne xb_L_requireZeroOrOne 1 6 1 6 [.int v] D cI cZ cJ sa [] (Unit) (fun _ => xo_01 v = true) (fun E _ => E = xn_EA ∧ xo_01 v = false) (fun _ => []) := by
  refine xc_Xv_of hl0 (by decide) (by decide) rfl (Nat.le_of_ble_eq_true rfl) ?_
  intro p e s m args below meth c Q ls A hAt hP hK hD hA hS hl hT0 hret hthr hpass
  obtain ⟨hx, hb, hml, hown, hts, hgs, hlk⟩ := id hAt
  have hT : ∀ w ∈ xw_g, w ∈ xc_ws xy_L_requireZeroOrOne xb_L_requireZeroOrOne 1 (none) := fun w h => List.mem_cons_of_mem _ h
  have hown : s.vm.findClass "WishLedger" = some m.cls := hown
  obtain ⟨H, hH0⟩ : ∃ H, H = s.heap := ⟨_, rfl⟩
  obtain ⟨locs, hL0⟩ : ∃ locs : List Loc, locs = [] := ⟨_, rfl⟩
  have hP : va_P D xn_cl [] H := by rw [hH0]; exact hP
  have hS : va_S A s.heap H locs := by rw [hH0, hL0]; exact hS
  suffices hgo : W p l e (xc_rm 6 1 6) s m args below meth c H locs 0 0 Q (F0 m 0 ls []) by rw [hH0, hL0] at hgo; exact hgo
  clear hH0 hL0
  have hl : lv_has ls 1 [(0, .int v)] := hl
  refine lv_iload_n hx hb xj_L_requireZeroOrOne_0 rfl (lv_at hl 0 rfl) ?_
  refine lv_if_eq (tgt := 19) hx hb xj_L_requireZeroOrOne_1 rfl (fun h1 => ?_) (fun h1 => ?_)
  · -- 19
    exact hret (()) H locs _ _ _ ls (by unfold xo_01; rw [decide_eq_true h1]; rfl) hP hD hS (Nat.le_of_ble_eq_true rfl) (Nat.le_of_ble_eq_true rfl) xj_L_requireZeroOrOne_19
  · -- 4
    refine lv_iload_n hx hb xj_L_requireZeroOrOne_4 rfl (lv_at hl 0 rfl) ?_
    refine lv_iconst (v := nI 1) hx hb xj_L_requireZeroOrOne_5 (by decide) ?_
    refine lv_icmp_eq (tgt := 19) hx hb xj_L_requireZeroOrOne_6 rfl (fun h6 => ?_) (fun h6 => ?_)
    · -- 19
      exact hret (()) H locs _ _ _ ls (by unfold xo_01; rw [decide_eq_true h6, Bool.or_true]) hP hD hS (Nat.le_of_ble_eq_true rfl) (Nat.le_of_ble_eq_true rfl) xj_L_requireZeroOrOne_19
    · -- 9
      exact hthr xn_EA (()) H locs _ _ _ ls (⟨rfl, by unfold xo_01; rw [decide_eq_false h1, decide_eq_false h6]; rfl⟩) hP hD hS hl.1 ⟨48, 181, 52, 6, _, xj_L_requireZeroOrOne_9, xj_L_requireZeroOrOne_12, xj_L_requireZeroOrOne_13, xj_L_requireZeroOrOne_15, xj_L_requireZeroOrOne_18, xw_187, xw_11, rfl, Or.inl ⟨rfl, rfl⟩⟩ (Nat.le_of_ble_eq_true rfl) (Nat.le_of_ble_eq_true rfl)
