/-! walks: the calls of the reference -/
set_option maxRecDepth 100000 in
set_option maxHeartbeats 4000000 in
theorem xt_M_goods_ok (l : Launch) (D : va_G) (cI cZ cJ : ClassId) (m0 m1 m2 m3 m4 m5 m6 m7 m8 m9 m10 : Nat) (cd : Int32) (gc dc : Nat) (oP : Nat → Int32) (oA : Nat → Int32) (kn : Nat) (hok : xo_rg (nI kn) (nI 1) (nI 6) = true) : xc_Wv l xy_M_goods xb_M_goods 2 1 0 0 [.ref m0, .int (nI kn)] D cI cZ cJ [(m0, .inr (6, [.int cd, .int (nI gc), .int (nI dc), .ref m1, .ref m2, .ref m3, .ref m4, .ref m5, .ref m6, .ref m7, .ref m8, .ref m9, .ref m10])), (m3, .inl (cI, 6, .inl oP)), (m4, .inl (cI, 6, .inl oA))] (Unit) (fun _ => True) (fun _ => [(m0, .inr (6, [.int (nI 0), .int (nI kn), .int (nI 0), .ref m1, .ref m2, .ref m3, .ref m4, .ref m5, .ref m6, .ref m7, .ref m8, .ref m9, .ref m10])), (m3, .inl (cI, 6, .inl (xf_fill (fun _ => nI 1) 6 0 oP))), (m4, .inl (cI, 6, .inl (xf_fill (fun _ => nI 0) 6 0 oA)))]) := by
  refine xc_Wv_of (by decide) (Nat.le_of_ble_eq_true rfl) ?_
  intro p e s m args below meth c Q ls A hAt hin hP hK hD hA hS hl hret
  obtain ⟨hx, hb, hml, hown, hts, hgs, hlk⟩ := id hAt
  have hT : ∀ w ∈ xw_g, w ∈ xc_ws xy_M_goods xb_M_goods 2 (none) := fun w h => List.mem_cons_of_mem _ h
  have hown : s.vm.findClass "WishLedgerModel" = some m.cls := hown
  obtain ⟨H, hH0⟩ : ∃ H, H = s.heap := ⟨_, rfl⟩
  obtain ⟨locs, hL0⟩ : ∃ locs : List Loc, locs = [] := ⟨_, rfl⟩
  have hP : va_P D xn_cl [(m0, .inr (6, [.int cd, .int (nI gc), .int (nI dc), .ref m1, .ref m2, .ref m3, .ref m4, .ref m5, .ref m6, .ref m7, .ref m8, .ref m9, .ref m10])), (m3, .inl (cI, 6, .inl oP)), (m4, .inl (cI, 6, .inl oA))] H := by rw [hH0]; exact hP
  have hS : va_S A s.heap H locs := by rw [hH0, hL0]; exact hS
  suffices hgo : W p l e (xc_rm 1 0 0) s m args below meth c H locs 0 0 Q (F0 m 0 ls []) by rw [hH0, hL0] at hgo; exact hgo
  clear hH0 hL0
  have hl : lv_has ls 2 [(0, .ref m0), (1, .int (nI kn))] := hl
  refine lv_aload_n hx hb xj_M_goods_0 rfl (lv_at hl 0 rfl) ?_
  refine lv_iload_n hx hb xj_M_goods_1 rfl (lv_at hl 1 rfl) ?_
  refine lv_iconst (v := nI 1) hx hb xj_M_goods_2 (by decide) ?_
  refine lv_bipush (v := nI 6) hx hb xj_M_goods_3 (by decide) ?_
  refine xc_callS (av := [.int (nI kn), .int (nI 1), .int (nI 6)]) (rest := [.ref m0]) hAt hT (xt_M_in l D cI cZ cJ (nI kn) (nI 1) (nI 6)) xw_579 xw_7 xw_581 xw_580 (na := 3) rfl (by decide +kernel) ⟨Nat.le_of_ble_eq_true rfl, Nat.le_of_ble_eq_true rfl⟩ (hP.sub (ws' := []) [] rfl) hK hl.1 (Nat.le_of_ble_eq_true rfl) ⟨Nat.zero_le _, Nat.zero_le _⟩ xj_M_goods_5 ?_
  refine xr_top (y := nI 1) (by rw [hok]; rfl) ?_
  refine xr_ifeqN (tgt := 15) hx hb (by omega) xj_M_goods_8 rfl (fun h8 => absurd h8 (by omega)) (fun h8 => ?_)
  refine lv_iconst (v := nI 0) hx hb xj_M_goods_11 (by decide) ?_
  refine lv_goto (tgt := 16) hx hb xj_M_goods_12 rfl ?_
  refine va_put (D := D) (ci := 6) (v := .int (nI 0)) (ty := .int) (C := xn_M) (T := xn_TM) (N := 13) hx hb hgs xw_uM xn_tM xn_oM xn_nM hown hK.1 hP hD hS 0 rfl rfl 0 (by decide) (hgs _ xw_530) (fun _ h9 => h9) rfl (by decide +kernel) rfl rfl (Nat.le_of_ble_eq_true rfl) xj_M_goods_16 (fun H locs hP hD hS => ?_)
  have hP : va_P D xn_cl [(m0, .inr (6, [.int (nI 0), .int (nI gc), .int (nI dc), .ref m1, .ref m2, .ref m3, .ref m4, .ref m5, .ref m6, .ref m7, .ref m8, .ref m9, .ref m10])), (m3, .inl (cI, 6, .inl oP)), (m4, .inl (cI, 6, .inl oA))] H := hP
  have hD : va_D A [(m0, .inr (6, [.int (nI 0), .int (nI gc), .int (nI dc), .ref m1, .ref m2, .ref m3, .ref m4, .ref m5, .ref m6, .ref m7, .ref m8, .ref m9, .ref m10])), (m3, .inl (cI, 6, .inl oP)), (m4, .inl (cI, 6, .inl oA))] := hD
  refine lv_aload_n hx hb xj_M_goods_19 rfl (lv_at hl 0 rfl) ?_
  refine va_get (D := D) (ci := 6) (v := .int (nI 0)) (C := xn_M) (T := xn_TM) (N := 13) hx hb hgs xw_uM hown hK.1 hP 0 rfl rfl 0 (by decide) (hgs _ xw_530) (fun _ h9 => h9) rfl xj_M_goods_20 ?_
  refine lv_if_le (tgt := 27) hx hb xj_M_goods_23 rfl (fun h23 => ?_) (fun h23 => absurd h23 (by decide +kernel))
  refine lv_aload_n hx hb xj_M_goods_27 rfl (lv_at hl 0 rfl) ?_
  refine lv_iload_n hx hb xj_M_goods_28 rfl (lv_at hl 1 rfl) ?_
  refine va_put (D := D) (ci := 6) (v := .int (nI kn)) (ty := .int) (C := xn_M) (T := xn_TM) (N := 13) hx hb hgs xw_uM xn_tM xn_oM xn_nM hown hK.1 hP hD hS 0 rfl rfl 1 (by decide) (hgs _ xw_531) (fun _ h9 => h9) rfl (by decide +kernel) rfl rfl (Nat.le_of_ble_eq_true rfl) xj_M_goods_29 (fun H locs hP hD hS => ?_)
  have hP : va_P D xn_cl [(m0, .inr (6, [.int (nI 0), .int (nI kn), .int (nI dc), .ref m1, .ref m2, .ref m3, .ref m4, .ref m5, .ref m6, .ref m7, .ref m8, .ref m9, .ref m10])), (m3, .inl (cI, 6, .inl oP)), (m4, .inl (cI, 6, .inl oA))] H := hP
  have hD : va_D A [(m0, .inr (6, [.int (nI 0), .int (nI kn), .int (nI dc), .ref m1, .ref m2, .ref m3, .ref m4, .ref m5, .ref m6, .ref m7, .ref m8, .ref m9, .ref m10])), (m3, .inl (cI, 6, .inl oP)), (m4, .inl (cI, 6, .inl oA))] := hD
  refine lv_aload_n hx hb xj_M_goods_32 rfl (lv_at hl 0 rfl) ?_
  refine lv_iconst (v := nI 0) hx hb xj_M_goods_33 (by decide) ?_
  refine va_put (D := D) (ci := 6) (v := .int (nI 0)) (ty := .int) (C := xn_M) (T := xn_TM) (N := 13) hx hb hgs xw_uM xn_tM xn_oM xn_nM hown hK.1 hP hD hS 0 rfl rfl 2 (by decide) (hgs _ xw_532) (fun _ h9 => h9) rfl (by decide +kernel) rfl rfl (Nat.le_of_ble_eq_true rfl) xj_M_goods_34 (fun H locs hP hD hS => ?_)
  have hP : va_P D xn_cl [(m0, .inr (6, [.int (nI 0), .int (nI kn), .int (nI 0), .ref m1, .ref m2, .ref m3, .ref m4, .ref m5, .ref m6, .ref m7, .ref m8, .ref m9, .ref m10])), (m3, .inl (cI, 6, .inl oP)), (m4, .inl (cI, 6, .inl oA))] H := hP
  have hD : va_D A [(m0, .inr (6, [.int (nI 0), .int (nI kn), .int (nI 0), .ref m1, .ref m2, .ref m3, .ref m4, .ref m5, .ref m6, .ref m7, .ref m8, .ref m9, .ref m10])), (m3, .inl (cI, 6, .inl oP)), (m4, .inl (cI, 6, .inl oA))] := hD
  refine lv_aload_n hx hb xj_M_goods_37 rfl (lv_at hl 0 rfl) ?_
  refine xc_wVv (av := []) (rest := []) (wr := []) hAt hT (xt_M_forget l D cI cZ cJ m0 m1 m2 m3 m4 m5 m6 m7 m8 m9 m10 (nI 0) kn 0 oP oA ) xw_526 xw_7 xw_529 xw_528 xs_M_forget (C0 := xn_M) (q0 := 0) rfl rfl (na := 0) rfl (by decide +kernel) ⟨Nat.le_of_ble_eq_true rfl, Nat.le_of_ble_eq_true rfl⟩ hP hD hS hA [0, 1, 2] [] rfl rfl (by decide) (by decide) (by decide) hK hl.1 (Nat.le_of_ble_eq_true rfl) ⟨Nat.zero_le _, Nat.zero_le _⟩ xj_M_goods_38 (fun _ H locs _ hP hD hS => ?_)
  have hP : va_P D xn_cl [(m0, .inr (6, [.int (nI 0), .int (nI kn), .int (nI 0), .ref m1, .ref m2, .ref m3, .ref m4, .ref m5, .ref m6, .ref m7, .ref m8, .ref m9, .ref m10])), (m3, .inl (cI, 6, .inl (xf_fill (fun _ => nI 1) 6 0 oP))), (m4, .inl (cI, 6, .inl (xf_fill (fun _ => nI 0) 6 0 oA)))] H := hP
  have hD : va_D A [(m0, .inr (6, [.int (nI 0), .int (nI kn), .int (nI 0), .ref m1, .ref m2, .ref m3, .ref m4, .ref m5, .ref m6, .ref m7, .ref m8, .ref m9, .ref m10])), (m3, .inl (cI, 6, .inl (xf_fill (fun _ => nI 1) 6 0 oP))), (m4, .inl (cI, 6, .inl (xf_fill (fun _ => nI 0) 6 0 oA)))] := hD
  exact hret (()) H locs _ ls trivial hP hD hS xj_M_goods_41
set_option maxRecDepth 100000 in
set_option maxHeartbeats 4000000 in
theorem xt_M_goods_no (l : Launch) (D : va_G) (cI cZ cJ : ClassId) (m0 m1 m2 m3 m4 m5 m6 m7 m8 m9 m10 : Nat) (cd : Int32) (gc dc : Nat) (n : Int32) (hno : xo_rg n (nI 1) (nI 6) = false) : xc_Wv l xy_M_goods xb_M_goods 2 1 0 0 [.ref m0, .int n] D cI cZ cJ [(m0, .inr (6, [.int cd, .int (nI gc), .int (nI dc), .ref m1, .ref m2, .ref m3, .ref m4, .ref m5, .ref m6, .ref m7, .ref m8, .ref m9, .ref m10]))] (Unit) (fun _ => True) (fun _ => [(m0, .inr (6, [.int (nI 1), .int (nI gc), .int (nI dc), .ref m1, .ref m2, .ref m3, .ref m4, .ref m5, .ref m6, .ref m7, .ref m8, .ref m9, .ref m10]))]) := by
  refine xc_Wv_of (by decide) (Nat.le_of_ble_eq_true rfl) ?_
  intro p e s m args below meth c Q ls A hAt hin hP hK hD hA hS hl hret
  obtain ⟨hx, hb, hml, hown, hts, hgs, hlk⟩ := id hAt
  have hT : ∀ w ∈ xw_g, w ∈ xc_ws xy_M_goods xb_M_goods 2 (none) := fun w h => List.mem_cons_of_mem _ h
  have hown : s.vm.findClass "WishLedgerModel" = some m.cls := hown
  obtain ⟨H, hH0⟩ : ∃ H, H = s.heap := ⟨_, rfl⟩
  obtain ⟨locs, hL0⟩ : ∃ locs : List Loc, locs = [] := ⟨_, rfl⟩
  have hP : va_P D xn_cl [(m0, .inr (6, [.int cd, .int (nI gc), .int (nI dc), .ref m1, .ref m2, .ref m3, .ref m4, .ref m5, .ref m6, .ref m7, .ref m8, .ref m9, .ref m10]))] H := by rw [hH0]; exact hP
  have hS : va_S A s.heap H locs := by rw [hH0, hL0]; exact hS
  suffices hgo : W p l e (xc_rm 1 0 0) s m args below meth c H locs 0 0 Q (F0 m 0 ls []) by rw [hH0, hL0] at hgo; exact hgo
  clear hH0 hL0
  have hl : lv_has ls 2 [(0, .ref m0), (1, .int n)] := hl
  refine lv_aload_n hx hb xj_M_goods_0 rfl (lv_at hl 0 rfl) ?_
  refine lv_iload_n hx hb xj_M_goods_1 rfl (lv_at hl 1 rfl) ?_
  refine lv_iconst (v := nI 1) hx hb xj_M_goods_2 (by decide) ?_
  refine lv_bipush (v := nI 6) hx hb xj_M_goods_3 (by decide) ?_
  refine xc_callS (av := [.int n, .int (nI 1), .int (nI 6)]) (rest := [.ref m0]) hAt hT (xt_M_in l D cI cZ cJ n (nI 1) (nI 6)) xw_579 xw_7 xw_581 xw_580 (na := 3) rfl (by decide +kernel) ⟨Nat.le_of_ble_eq_true rfl, Nat.le_of_ble_eq_true rfl⟩ (hP.sub (ws' := []) [] rfl) hK hl.1 (Nat.le_of_ble_eq_true rfl) ⟨Nat.zero_le _, Nat.zero_le _⟩ xj_M_goods_5 ?_
  refine xr_top (y := nI 0) (by rw [hno]; rfl) ?_
  refine xr_ifeqN (tgt := 15) hx hb (by omega) xj_M_goods_8 rfl (fun h8 => ?_) (fun h8 => absurd h8 (by omega))
  refine lv_iconst (v := nI 1) hx hb xj_M_goods_15 (by decide) ?_
  refine va_put (D := D) (ci := 6) (v := .int (nI 1)) (ty := .int) (C := xn_M) (T := xn_TM) (N := 13) hx hb hgs xw_uM xn_tM xn_oM xn_nM hown hK.1 hP hD hS 0 rfl rfl 0 (by decide) (hgs _ xw_530) (fun _ h9 => h9) rfl (by decide +kernel) rfl rfl (Nat.le_of_ble_eq_true rfl) xj_M_goods_16 (fun H locs hP hD hS => ?_)
  have hP : va_P D xn_cl [(m0, .inr (6, [.int (nI 1), .int (nI gc), .int (nI dc), .ref m1, .ref m2, .ref m3, .ref m4, .ref m5, .ref m6, .ref m7, .ref m8, .ref m9, .ref m10]))] H := hP
  have hD : va_D A [(m0, .inr (6, [.int (nI 1), .int (nI gc), .int (nI dc), .ref m1, .ref m2, .ref m3, .ref m4, .ref m5, .ref m6, .ref m7, .ref m8, .ref m9, .ref m10]))] := hD
  refine lv_aload_n hx hb xj_M_goods_19 rfl (lv_at hl 0 rfl) ?_
  refine va_get (D := D) (ci := 6) (v := .int (nI 1)) (C := xn_M) (T := xn_TM) (N := 13) hx hb hgs xw_uM hown hK.1 hP 0 rfl rfl 0 (by decide) (hgs _ xw_530) (fun _ h9 => h9) rfl xj_M_goods_20 ?_
  refine lv_if_le (tgt := 27) hx hb xj_M_goods_23 rfl (fun h23 => absurd h23 (by decide +kernel)) (fun h23 => ?_)
  exact hret (()) H locs _ ls trivial hP hD hS xj_M_goods_26
set_option maxRecDepth 100000 in
set_option maxHeartbeats 4000000 in
theorem xt_M_day_ok (l : Launch) (D : va_G) (cI cZ cJ : ClassId) (m0 m1 m2 m3 m4 m5 m6 m7 m8 m9 m10 : Nat) (cd : Int32) (gc dc : Nat) (P : Nat → Int32) (A0 : Nat → Int32) (hd : dc < 12) : xc_Wi l xy_M_day xb_M_day 2 .int 1 0 0 [.ref m0] D cI cZ cJ [(m0, .inr (6, [.int cd, .int (nI gc), .int (nI dc), .ref m1, .ref m2, .ref m3, .ref m4, .ref m5, .ref m6, .ref m7, .ref m8, .ref m9, .ref m10])), (m1, .inl (cI, 78, .inl P)), (m2, .inl (cI, 78, .inl A0))] (Unit) (fun r _ => r = nI dc) (fun _ => [(m0, .inr (6, [.int (nI 0), .int (nI gc), .int (nI (dc + 1)), .ref m1, .ref m2, .ref m3, .ref m4, .ref m5, .ref m6, .ref m7, .ref m8, .ref m9, .ref m10])), (m1, .inl (cI, 78, .inl (xk_clr (nI 1) dc 6 0 P))), (m2, .inl (cI, 78, .inl (xk_clr (nI 0) dc 6 0 A0)))]) := by
  refine xc_Wi_of (by decide) (Nat.le_of_ble_eq_true rfl) ?_
  intro p e s m args below meth c Q ls A hAt hP hK hD hA hS hl hret
  obtain ⟨hx, hb, hml, hown, hts, hgs, hlk⟩ := id hAt
  have hT : ∀ w ∈ xw_g, w ∈ xc_ws xy_M_day xb_M_day 2 (some .int) := fun w h => List.mem_cons_of_mem _ h
  have hown : s.vm.findClass "WishLedgerModel" = some m.cls := hown
  obtain ⟨H, hH0⟩ : ∃ H, H = s.heap := ⟨_, rfl⟩
  obtain ⟨locs, hL0⟩ : ∃ locs : List Loc, locs = [] := ⟨_, rfl⟩
  have hP : va_P D xn_cl [(m0, .inr (6, [.int cd, .int (nI gc), .int (nI dc), .ref m1, .ref m2, .ref m3, .ref m4, .ref m5, .ref m6, .ref m7, .ref m8, .ref m9, .ref m10])), (m1, .inl (cI, 78, .inl P)), (m2, .inl (cI, 78, .inl A0))] H := by rw [hH0]; exact hP
  have hS : va_S A s.heap H locs := by rw [hH0, hL0]; exact hS
  suffices hgo : W p l e (xc_rm 1 0 0) s m args below meth c H locs 0 0 Q (F0 m 0 ls []) by rw [hH0, hL0] at hgo; exact hgo
  clear hH0 hL0
  have hl : lv_has ls 2 [(0, .ref m0)] := hl
  refine lv_aload_n hx hb xj_M_day_0 rfl (lv_at hl 0 rfl) ?_
  refine lv_aload_n hx hb xj_M_day_1 rfl (lv_at hl 0 rfl) ?_
  refine va_get (D := D) (ci := 6) (v := .int (nI dc)) (C := xn_M) (T := xn_TM) (N := 13) hx hb hgs xw_uM hown hK.1 hP 0 rfl rfl 2 (by decide) (hgs _ xw_532) (fun _ h9 => h9) rfl xj_M_day_2 ?_
  refine lv_bipush (v := nI 12) hx hb xj_M_day_5 (by decide) ?_
  refine xr_ne (tgt := 14) hx hb (by omega) (by omega) xj_M_day_7 rfl (fun h7 => ?_) (fun h7 => absurd h7 (by omega))
  refine lv_iconst (v := nI 0) hx hb xj_M_day_14 (by decide) ?_
  refine va_put (D := D) (ci := 6) (v := .int (nI 0)) (ty := .int) (C := xn_M) (T := xn_TM) (N := 13) hx hb hgs xw_uM xn_tM xn_oM xn_nM hown hK.1 hP hD hS 0 rfl rfl 0 (by decide) (hgs _ xw_530) (fun _ h9 => h9) rfl (by decide +kernel) rfl rfl (Nat.le_of_ble_eq_true rfl) xj_M_day_15 (fun H locs hP hD hS => ?_)
  have hP : va_P D xn_cl [(m0, .inr (6, [.int (nI 0), .int (nI gc), .int (nI dc), .ref m1, .ref m2, .ref m3, .ref m4, .ref m5, .ref m6, .ref m7, .ref m8, .ref m9, .ref m10])), (m1, .inl (cI, 78, .inl P)), (m2, .inl (cI, 78, .inl A0))] H := hP
  have hD : va_D A [(m0, .inr (6, [.int (nI 0), .int (nI gc), .int (nI dc), .ref m1, .ref m2, .ref m3, .ref m4, .ref m5, .ref m6, .ref m7, .ref m8, .ref m9, .ref m10])), (m1, .inl (cI, 78, .inl P)), (m2, .inl (cI, 78, .inl A0))] := hD
  refine lv_aload_n hx hb xj_M_day_18 rfl (lv_at hl 0 rfl) ?_
  refine va_get (D := D) (ci := 6) (v := .int (nI 0)) (C := xn_M) (T := xn_TM) (N := 13) hx hb hgs xw_uM hown hK.1 hP 0 rfl rfl 0 (by decide) (hgs _ xw_530) (fun _ h9 => h9) rfl xj_M_day_19 ?_
  refine lv_if_le (tgt := 27) hx hb xj_M_day_22 rfl (fun h22 => ?_) (fun h22 => absurd h22 (by decide +kernel))
  refine lv_iconst (v := nI 0) hx hb xj_M_day_27 (by decide) ?_
  refine lv_istore_n (lv' := [(1, .int (nI 0)), (0, .ref m0)]) hx hb xj_M_day_28 rfl hl (by decide) rfl (fun ls hl => ?_)
  have loop29 : ∀ (n : Nat) (i : Nat) (P2 : Nat → Int32) (A2 : Nat → Int32) (ls : Array Slot) (H : Heap) (locs : List Loc), i + n = 6 → (xk_clr (nI 1) dc n i P2 = xk_clr (nI 1) dc 6 0 P) → (xk_clr (nI 0) dc n i A2 = xk_clr (nI 0) dc 6 0 A0) → lv_has ls 2 [(0, .ref m0), (1, .int (nI i))] → va_P D xn_cl [(m0, .inr (6, [.int (nI 0), .int (nI gc), .int (nI dc), .ref m1, .ref m2, .ref m3, .ref m4, .ref m5, .ref m6, .ref m7, .ref m8, .ref m9, .ref m10])), (m1, .inl (cI, 78, .inl P2)), (m2, .inl (cI, 78, .inl A2))] H → va_D A [(m0, .inr (6, [.int (nI 0), .int (nI gc), .int (nI dc), .ref m1, .ref m2, .ref m3, .ref m4, .ref m5, .ref m6, .ref m7, .ref m8, .ref m9, .ref m10])), (m1, .inl (cI, 78, .inl P2)), (m2, .inl (cI, 78, .inl A2))] → va_S A s.heap H locs → W p l e (xc_rm 1 0 0) s m args below meth c H locs 0 0 Q (F0 m 29 ls []) := by
    intro n
    induction n with
    | zero =>
      intro i P2 A2 ls H locs hi29 hp ha hl hP hD hS
      refine lv_iload_n hx hb xj_M_day_29 rfl (lv_at hl 1 rfl) ?_
      refine lv_bipush (v := nI 6) hx hb xj_M_day_30 (by decide) ?_
      refine xr_ge (tgt := 71) hx hb (by omega) (by omega) xj_M_day_32 rfl (fun h32 => ?_) (fun h32 => absurd h32 (by omega))
      refine lv_aload_n hx hb xj_M_day_71 rfl (lv_at hl 0 rfl) ?_
      refine lv_dup hx hb xj_M_day_72 rfl ?_
      refine va_get (D := D) (ci := 6) (v := .int (nI dc)) (C := xn_M) (T := xn_TM) (N := 13) hx hb hgs xw_uM hown hK.1 hP 0 rfl rfl 2 (by decide) (hgs _ xw_532) (fun _ h9 => h9) rfl xj_M_day_73 ?_
      refine lv_iconst (v := nI 1) hx hb xj_M_day_76 (by decide) ?_
      refine xr_iadd hx hb xj_M_day_77 ?_
      refine va_put (D := D) (ci := 6) (v := .int (nI (dc + 1))) (ty := .int) (C := xn_M) (T := xn_TM) (N := 13) hx hb hgs xw_uM xn_tM xn_oM xn_nM hown hK.1 hP hD hS 0 rfl rfl 2 (by decide) (hgs _ xw_532) (fun _ h9 => h9) rfl (by decide +kernel) rfl rfl (Nat.le_of_ble_eq_true rfl) xj_M_day_78 (fun H locs hP hD hS => ?_)
      have hP : va_P D xn_cl [(m0, .inr (6, [.int (nI 0), .int (nI gc), .int (nI (dc + 1)), .ref m1, .ref m2, .ref m3, .ref m4, .ref m5, .ref m6, .ref m7, .ref m8, .ref m9, .ref m10])), (m1, .inl (cI, 78, .inl P2)), (m2, .inl (cI, 78, .inl A2))] H := hP
      have hD : va_D A [(m0, .inr (6, [.int (nI 0), .int (nI gc), .int (nI (dc + 1)), .ref m1, .ref m2, .ref m3, .ref m4, .ref m5, .ref m6, .ref m7, .ref m8, .ref m9, .ref m10])), (m1, .inl (cI, 78, .inl P2)), (m2, .inl (cI, 78, .inl A2))] := hD
      refine lv_aload_n hx hb xj_M_day_81 rfl (lv_at hl 0 rfl) ?_
      refine va_get (D := D) (ci := 6) (v := .int (nI (dc + 1))) (C := xn_M) (T := xn_TM) (N := 13) hx hb hgs xw_uM hown hK.1 hP 0 rfl rfl 2 (by decide) (hgs _ xw_532) (fun _ h9 => h9) rfl xj_M_day_82 ?_
      refine lv_iconst (v := nI 1) hx hb xj_M_day_85 (by decide) ?_
      refine xr_isub hx hb (by omega) xj_M_day_86 ?_
      obtain rfl : P2 = _ := hp
      obtain rfl : A2 = _ := ha
      exact hret (nI ((dc + 1) - 1)) (()) H locs _ ls rfl rfl hP hD hS xj_M_day_87
    | succ n ih29 =>
      intro i P2 A2 ls H locs hi29 hp ha hl hP hD hS
      refine lv_iload_n hx hb xj_M_day_29 rfl (lv_at hl 1 rfl) ?_
      refine lv_bipush (v := nI 6) hx hb xj_M_day_30 (by decide) ?_
      refine xr_ge (tgt := 71) hx hb (by omega) (by omega) xj_M_day_32 rfl (fun h32 => absurd h32 (by omega)) (fun h32 => ?_)
      refine lv_aload_n hx hb xj_M_day_35 rfl (lv_at hl 0 rfl) ?_
      refine va_get (D := D) (ci := 6) (v := .ref m1) (C := xn_M) (T := xn_TM) (N := 13) hx hb hgs xw_uM hown hK.1 hP 0 rfl rfl 3 (by decide) (hgs _ xw_533) (fun _ h9 => h9) rfl xj_M_day_36 ?_
      refine lv_bipush (v := nI 6) hx hb xj_M_day_39 (by decide) ?_
      refine lv_aload_n hx hb xj_M_day_41 rfl (lv_at hl 0 rfl) ?_
      refine va_get (D := D) (ci := 6) (v := .int (nI dc)) (C := xn_M) (T := xn_TM) (N := 13) hx hb hgs xw_uM hown hK.1 hP 0 rfl rfl 2 (by decide) (hgs _ xw_532) (fun _ h9 => h9) rfl xj_M_day_42 ?_
      refine xr_imul hx hb xj_M_day_45 ?_
      refine xr_top (y := nI (dc * 6)) (congrArg nI (Nat.mul_comm 6 dc)) ?_
      refine lv_iload_n hx hb xj_M_day_46 rfl (lv_at hl 1 rfl) ?_
      refine xr_iadd hx hb xj_M_day_47 ?_
      refine lv_iconst (v := nI 1) hx hb xj_M_day_48 (by decide) ?_
      refine xr_iast hx hb hK.1 hP hD hS 1 0 rfl rfl (by omega) (by decide) xj_M_day_49 (fun H locs hP hD hS => ?_)
      have hP : va_P D xn_cl [(m0, .inr (6, [.int (nI 0), .int (nI gc), .int (nI dc), .ref m1, .ref m2, .ref m3, .ref m4, .ref m5, .ref m6, .ref m7, .ref m8, .ref m9, .ref m10])), (m1, .inl (cI, 78, .inl (upd P2 ((dc * 6) + i) (nI 1)))), (m2, .inl (cI, 78, .inl A2))] H := hP
      have hD : va_D A [(m0, .inr (6, [.int (nI 0), .int (nI gc), .int (nI dc), .ref m1, .ref m2, .ref m3, .ref m4, .ref m5, .ref m6, .ref m7, .ref m8, .ref m9, .ref m10])), (m1, .inl (cI, 78, .inl (upd P2 ((dc * 6) + i) (nI 1)))), (m2, .inl (cI, 78, .inl A2))] := hD
      refine lv_aload_n hx hb xj_M_day_50 rfl (lv_at hl 0 rfl) ?_
      refine va_get (D := D) (ci := 6) (v := .ref m2) (C := xn_M) (T := xn_TM) (N := 13) hx hb hgs xw_uM hown hK.1 hP 0 rfl rfl 4 (by decide) (hgs _ xw_534) (fun _ h9 => h9) rfl xj_M_day_51 ?_
      refine lv_bipush (v := nI 6) hx hb xj_M_day_54 (by decide) ?_
      refine lv_aload_n hx hb xj_M_day_56 rfl (lv_at hl 0 rfl) ?_
      refine va_get (D := D) (ci := 6) (v := .int (nI dc)) (C := xn_M) (T := xn_TM) (N := 13) hx hb hgs xw_uM hown hK.1 hP 0 rfl rfl 2 (by decide) (hgs _ xw_532) (fun _ h9 => h9) rfl xj_M_day_57 ?_
      refine xr_imul hx hb xj_M_day_60 ?_
      refine xr_top (y := nI (dc * 6)) (congrArg nI (Nat.mul_comm 6 dc)) ?_
      refine lv_iload_n hx hb xj_M_day_61 rfl (lv_at hl 1 rfl) ?_
      refine xr_iadd hx hb xj_M_day_62 ?_
      refine lv_iconst (v := nI 0) hx hb xj_M_day_63 (by decide) ?_
      refine xr_iast hx hb hK.1 hP hD hS 2 0 rfl rfl (by omega) (by decide) xj_M_day_64 (fun H locs hP hD hS => ?_)
      have hP : va_P D xn_cl [(m0, .inr (6, [.int (nI 0), .int (nI gc), .int (nI dc), .ref m1, .ref m2, .ref m3, .ref m4, .ref m5, .ref m6, .ref m7, .ref m8, .ref m9, .ref m10])), (m1, .inl (cI, 78, .inl (upd P2 ((dc * 6) + i) (nI 1)))), (m2, .inl (cI, 78, .inl (upd A2 ((dc * 6) + i) (nI 0))))] H := hP
      have hD : va_D A [(m0, .inr (6, [.int (nI 0), .int (nI gc), .int (nI dc), .ref m1, .ref m2, .ref m3, .ref m4, .ref m5, .ref m6, .ref m7, .ref m8, .ref m9, .ref m10])), (m1, .inl (cI, 78, .inl (upd P2 ((dc * 6) + i) (nI 1)))), (m2, .inl (cI, 78, .inl (upd A2 ((dc * 6) + i) (nI 0))))] := hD
      refine lv_iinc (k := 1) (v := nI (i + 1)) (lv' := [(1, .int (nI (i + 1))), (0, .ref m0)]) hx hb xj_M_day_65 hl rfl (xr_inc _) (by decide) rfl (fun ls hl => ?_)
      refine lv_goto (tgt := 29) hx hb xj_M_day_68 rfl ?_
      exact ih29 (i + 1) (upd P2 ((dc * 6) + i) (nI 1)) (upd A2 ((dc * 6) + i) (nI 0)) ls _ _ (by omega) hp ha (lv_sub hl [1, 0] rfl) hP hD hS
  exact loop29 6 0 P A0 ls _ _ (by omega) rfl rfl (lv_sub hl [1, 0] rfl) hP hD hS
set_option maxRecDepth 100000 in
set_option maxHeartbeats 4000000 in
theorem xt_M_day_no (l : Launch) (D : va_G) (cI cZ cJ : ClassId) (m0 m1 m2 m3 m4 m5 m6 m7 m8 m9 m10 : Nat) (cd : Int32) (gc dc : Nat) (hd : dc = 12) : xc_Wi l xy_M_day xb_M_day 2 .int 1 0 0 [.ref m0] D cI cZ cJ [(m0, .inr (6, [.int cd, .int (nI gc), .int (nI dc), .ref m1, .ref m2, .ref m3, .ref m4, .ref m5, .ref m6, .ref m7, .ref m8, .ref m9, .ref m10]))] (Unit) (fun _ _ => True) (fun _ => [(m0, .inr (6, [.int (nI 1), .int (nI gc), .int (nI dc), .ref m1, .ref m2, .ref m3, .ref m4, .ref m5, .ref m6, .ref m7, .ref m8, .ref m9, .ref m10]))]) := by
  refine xc_Wi_of (by decide) (Nat.le_of_ble_eq_true rfl) ?_
  intro p e s m args below meth c Q ls A hAt hP hK hD hA hS hl hret
  obtain ⟨hx, hb, hml, hown, hts, hgs, hlk⟩ := id hAt
  have hT : ∀ w ∈ xw_g, w ∈ xc_ws xy_M_day xb_M_day 2 (some .int) := fun w h => List.mem_cons_of_mem _ h
  have hown : s.vm.findClass "WishLedgerModel" = some m.cls := hown
  obtain ⟨H, hH0⟩ : ∃ H, H = s.heap := ⟨_, rfl⟩
  obtain ⟨locs, hL0⟩ : ∃ locs : List Loc, locs = [] := ⟨_, rfl⟩
  have hP : va_P D xn_cl [(m0, .inr (6, [.int cd, .int (nI gc), .int (nI dc), .ref m1, .ref m2, .ref m3, .ref m4, .ref m5, .ref m6, .ref m7, .ref m8, .ref m9, .ref m10]))] H := by rw [hH0]; exact hP
  have hS : va_S A s.heap H locs := by rw [hH0, hL0]; exact hS
  suffices hgo : W p l e (xc_rm 1 0 0) s m args below meth c H locs 0 0 Q (F0 m 0 ls []) by rw [hH0, hL0] at hgo; exact hgo
  clear hH0 hL0
  have hl : lv_has ls 2 [(0, .ref m0)] := hl
  refine lv_aload_n hx hb xj_M_day_0 rfl (lv_at hl 0 rfl) ?_
  refine lv_aload_n hx hb xj_M_day_1 rfl (lv_at hl 0 rfl) ?_
  refine va_get (D := D) (ci := 6) (v := .int (nI dc)) (C := xn_M) (T := xn_TM) (N := 13) hx hb hgs xw_uM hown hK.1 hP 0 rfl rfl 2 (by decide) (hgs _ xw_532) (fun _ h9 => h9) rfl xj_M_day_2 ?_
  refine lv_bipush (v := nI 12) hx hb xj_M_day_5 (by decide) ?_
  refine xr_ne (tgt := 14) hx hb (by omega) (by omega) xj_M_day_7 rfl (fun h7 => absurd h7 (by omega)) (fun h7 => ?_)
  refine lv_iconst (v := nI 1) hx hb xj_M_day_10 (by decide) ?_
  refine lv_goto (tgt := 15) hx hb xj_M_day_11 rfl ?_
  refine va_put (D := D) (ci := 6) (v := .int (nI 1)) (ty := .int) (C := xn_M) (T := xn_TM) (N := 13) hx hb hgs xw_uM xn_tM xn_oM xn_nM hown hK.1 hP hD hS 0 rfl rfl 0 (by decide) (hgs _ xw_530) (fun _ h9 => h9) rfl (by decide +kernel) rfl rfl (Nat.le_of_ble_eq_true rfl) xj_M_day_15 (fun H locs hP hD hS => ?_)
  have hP : va_P D xn_cl [(m0, .inr (6, [.int (nI 1), .int (nI gc), .int (nI dc), .ref m1, .ref m2, .ref m3, .ref m4, .ref m5, .ref m6, .ref m7, .ref m8, .ref m9, .ref m10]))] H := hP
  have hD : va_D A [(m0, .inr (6, [.int (nI 1), .int (nI gc), .int (nI dc), .ref m1, .ref m2, .ref m3, .ref m4, .ref m5, .ref m6, .ref m7, .ref m8, .ref m9, .ref m10]))] := hD
  refine lv_aload_n hx hb xj_M_day_18 rfl (lv_at hl 0 rfl) ?_
  refine va_get (D := D) (ci := 6) (v := .int (nI 1)) (C := xn_M) (T := xn_TM) (N := 13) hx hb hgs xw_uM hown hK.1 hP 0 rfl rfl 0 (by decide) (hgs _ xw_530) (fun _ h9 => h9) rfl xj_M_day_19 ?_
  refine lv_if_le (tgt := 27) hx hb xj_M_day_22 rfl (fun h22 => absurd h22 (by decide +kernel)) (fun h22 => ?_)
  refine lv_iconst (v := nI 0) hx hb xj_M_day_25 (by decide) ?_
  exact hret (nI 0) (()) H locs _ ls trivial rfl hP hD hS xj_M_day_26
set_option maxRecDepth 100000 in
set_option maxHeartbeats 4000000 in
theorem xt_M_price_ok (l : Launch) (D : va_G) (cI cZ cJ : ClassId) (m0 m1 m2 m3 m4 m5 m6 m7 m8 m9 m10 : Nat) (cd : Int32) (gc dc : Nat) (P : Nat → Int32) (kd kg : Nat) (v : Int32) (hkd : kd < dc) (hkg : kg < gc) (hok : xo_rg v (nI 1) (nI 99) = true) (hg : gc ≤ 6) (hd : dc ≤ 12) : xc_Wi l xy_M_price xb_M_price 5 .int 2 0 0 [.ref m0, .int (nI kd), .int (nI kg), .int v] D cI cZ cJ [(m0, .inr (6, [.int cd, .int (nI gc), .int (nI dc), .ref m1, .ref m2, .ref m3, .ref m4, .ref m5, .ref m6, .ref m7, .ref m8, .ref m9, .ref m10])), (m1, .inl (cI, 78, .inl P))] (Unit) (fun r _ => r = P (kd * 6 + kg)) (fun _ => [(m0, .inr (6, [.int (nI 0), .int (nI gc), .int (nI dc), .ref m1, .ref m2, .ref m3, .ref m4, .ref m5, .ref m6, .ref m7, .ref m8, .ref m9, .ref m10])), (m1, .inl (cI, 78, .inl (upd P (kd * 6 + kg) v)))]) := by
  refine xc_Wi_of (by decide) (Nat.le_of_ble_eq_true rfl) ?_
  intro p e s m args below meth c Q ls A hAt hP hK hD hA hS hl hret
  obtain ⟨hx, hb, hml, hown, hts, hgs, hlk⟩ := id hAt
  have hT : ∀ w ∈ xw_g, w ∈ xc_ws xy_M_price xb_M_price 5 (some .int) := fun w h => List.mem_cons_of_mem _ h
  have hown : s.vm.findClass "WishLedgerModel" = some m.cls := hown
  obtain ⟨H, hH0⟩ : ∃ H, H = s.heap := ⟨_, rfl⟩
  obtain ⟨locs, hL0⟩ : ∃ locs : List Loc, locs = [] := ⟨_, rfl⟩
  have hP : va_P D xn_cl [(m0, .inr (6, [.int cd, .int (nI gc), .int (nI dc), .ref m1, .ref m2, .ref m3, .ref m4, .ref m5, .ref m6, .ref m7, .ref m8, .ref m9, .ref m10])), (m1, .inl (cI, 78, .inl P))] H := by rw [hH0]; exact hP
  have hS : va_S A s.heap H locs := by rw [hH0, hL0]; exact hS
  suffices hgo : W p l e (xc_rm 2 0 0) s m args below meth c H locs 0 0 Q (F0 m 0 ls []) by rw [hH0, hL0] at hgo; exact hgo
  clear hH0 hL0
  have hl : lv_has ls 5 [(0, .ref m0), (1, .int (nI kd)), (2, .int (nI kg)), (3, .int v)] := hl
  refine lv_aload_n hx hb xj_M_price_0 rfl (lv_at hl 0 rfl) ?_
  refine lv_aload_n hx hb xj_M_price_1 rfl (lv_at hl 0 rfl) ?_
  refine lv_iload_n hx hb xj_M_price_2 rfl (lv_at hl 1 rfl) ?_
  refine xc_callV (av := [.int (nI kd)]) (rest := [.ref m0]) hAt hT (xt_M_isDay l D cI cZ cJ m0 m1 m2 m3 m4 m5 m6 m7 m8 m9 m10 cd gc dc (nI kd) (by omega)) xw_590 xw_7 xw_593 xw_592 xs_M_isDay (C0 := xn_M) (q0 := 0) rfl rfl (na := 1) rfl (by decide +kernel) ⟨Nat.le_of_ble_eq_true rfl, Nat.le_of_ble_eq_true rfl⟩ (hP.sub (ws' := [(m0, .inr (6, [.int cd, .int (nI gc), .int (nI dc), .ref m1, .ref m2, .ref m3, .ref m4, .ref m5, .ref m6, .ref m7, .ref m8, .ref m9, .ref m10]))]) [0] rfl) hK hl.1 (Nat.le_of_ble_eq_true rfl) ⟨Nat.zero_le _, Nat.zero_le _⟩ xj_M_price_3 ?_
  refine xr_top (y := nI 1) (by rw [xo_in_n hkd (by omega)]; rfl) ?_
  refine xr_ifeqN (tgt := 23) hx hb (by omega) xj_M_price_6 rfl (fun h6 => absurd h6 (by omega)) (fun h6 => ?_)
  refine lv_iload_n hx hb xj_M_price_9 rfl (lv_at hl 2 rfl) ?_
  refine lv_iconst (v := nI 0) hx hb xj_M_price_10 (by decide) ?_
  refine lv_aload_n hx hb xj_M_price_11 rfl (lv_at hl 0 rfl) ?_
  refine va_get (D := D) (ci := 6) (v := .int (nI gc)) (C := xn_M) (T := xn_TM) (N := 13) hx hb hgs xw_uM hown hK.1 hP 0 rfl rfl 1 (by decide) (hgs _ xw_531) (fun _ h9 => h9) rfl xj_M_price_12 ?_
  refine lv_iconst (v := nI 1) hx hb xj_M_price_15 (by decide) ?_
  refine lv_isub hx hb xj_M_price_16 ?_
  refine xc_callS (av := [.int (nI kg), .int (nI 0), .int ((nI gc) - (nI 1))]) (rest := [.ref m0]) hAt hT (xt_M_in l D cI cZ cJ (nI kg) (nI 0) ((nI gc) - (nI 1))) xw_579 xw_7 xw_581 xw_580 (na := 3) rfl (by decide +kernel) ⟨Nat.le_of_ble_eq_true rfl, Nat.le_of_ble_eq_true rfl⟩ (hP.sub (ws' := []) [] rfl) hK hl.1 (Nat.le_of_ble_eq_true rfl) ⟨Nat.zero_le _, Nat.zero_le _⟩ xj_M_price_17 ?_
  refine xr_top (y := nI 1) (by rw [xo_day (by omega), xo_in_n hkg (by omega)]; rfl) ?_
  refine xr_ifneN (tgt := 27) hx hb (by omega) xj_M_price_20 rfl (fun h20 => ?_) (fun h20 => absurd h20 (by omega))
  refine lv_iload_n hx hb xj_M_price_27 rfl (lv_at hl 3 rfl) ?_
  refine lv_iconst (v := nI 1) hx hb xj_M_price_28 (by decide) ?_
  refine lv_bipush (v := nI 99) hx hb xj_M_price_29 (by decide) ?_
  refine xc_callS (av := [.int v, .int (nI 1), .int (nI 99)]) (rest := [.ref m0]) hAt hT (xt_M_in l D cI cZ cJ v (nI 1) (nI 99)) xw_579 xw_7 xw_581 xw_580 (na := 3) rfl (by decide +kernel) ⟨Nat.le_of_ble_eq_true rfl, Nat.le_of_ble_eq_true rfl⟩ (hP.sub (ws' := []) [] rfl) hK hl.1 (Nat.le_of_ble_eq_true rfl) ⟨Nat.zero_le _, Nat.zero_le _⟩ xj_M_price_31 ?_
  refine xr_top (y := nI 1) (by rw [hok]; rfl) ?_
  refine xr_ifneN (tgt := 41) hx hb (by omega) xj_M_price_34 rfl (fun h34 => ?_) (fun h34 => absurd h34 (by omega))
  refine lv_iconst (v := nI 0) hx hb xj_M_price_41 (by decide) ?_
  refine va_put (D := D) (ci := 6) (v := .int (nI 0)) (ty := .int) (C := xn_M) (T := xn_TM) (N := 13) hx hb hgs xw_uM xn_tM xn_oM xn_nM hown hK.1 hP hD hS 0 rfl rfl 0 (by decide) (hgs _ xw_530) (fun _ h9 => h9) rfl (by decide +kernel) rfl rfl (Nat.le_of_ble_eq_true rfl) xj_M_price_42 (fun H locs hP hD hS => ?_)
  have hP : va_P D xn_cl [(m0, .inr (6, [.int (nI 0), .int (nI gc), .int (nI dc), .ref m1, .ref m2, .ref m3, .ref m4, .ref m5, .ref m6, .ref m7, .ref m8, .ref m9, .ref m10])), (m1, .inl (cI, 78, .inl P))] H := hP
  have hD : va_D A [(m0, .inr (6, [.int (nI 0), .int (nI gc), .int (nI dc), .ref m1, .ref m2, .ref m3, .ref m4, .ref m5, .ref m6, .ref m7, .ref m8, .ref m9, .ref m10])), (m1, .inl (cI, 78, .inl P))] := hD
  refine lv_aload_n hx hb xj_M_price_45 rfl (lv_at hl 0 rfl) ?_
  refine va_get (D := D) (ci := 6) (v := .int (nI 0)) (C := xn_M) (T := xn_TM) (N := 13) hx hb hgs xw_uM hown hK.1 hP 0 rfl rfl 0 (by decide) (hgs _ xw_530) (fun _ h9 => h9) rfl xj_M_price_46 ?_
  refine lv_if_le (tgt := 54) hx hb xj_M_price_49 rfl (fun h49 => ?_) (fun h49 => absurd h49 (by decide +kernel))
  refine lv_aload_n hx hb xj_M_price_54 rfl (lv_at hl 0 rfl) ?_
  refine va_get (D := D) (ci := 6) (v := .ref m1) (C := xn_M) (T := xn_TM) (N := 13) hx hb hgs xw_uM hown hK.1 hP 0 rfl rfl 3 (by decide) (hgs _ xw_533) (fun _ h9 => h9) rfl xj_M_price_55 ?_
  refine lv_bipush (v := nI 6) hx hb xj_M_price_58 (by decide) ?_
  refine lv_iload_n hx hb xj_M_price_60 rfl (lv_at hl 1 rfl) ?_
  refine xr_imul hx hb xj_M_price_61 ?_
  refine xr_top (y := nI (kd * 6)) (congrArg nI (Nat.mul_comm 6 kd)) ?_
  refine lv_iload_n hx hb xj_M_price_62 rfl (lv_at hl 2 rfl) ?_
  refine xr_iadd hx hb xj_M_price_63 ?_
  refine xr_iald hx hb hK.1 hP 1 0 rfl rfl (by omega) (by decide) xj_M_price_64 ?_
  refine lv_istore (lv' := [(4, .int (P ((kd * 6) + kg))), (0, .ref m0), (1, .int (nI kd)), (2, .int (nI kg)), (3, .int v)]) hx hb xj_M_price_65 hl (by decide) rfl (fun ls hl => ?_)
  refine lv_aload_n hx hb xj_M_price_67 rfl (lv_at hl 1 rfl) ?_
  refine va_get (D := D) (ci := 6) (v := .ref m1) (C := xn_M) (T := xn_TM) (N := 13) hx hb hgs xw_uM hown hK.1 hP 0 rfl rfl 3 (by decide) (hgs _ xw_533) (fun _ h9 => h9) rfl xj_M_price_68 ?_
  refine lv_bipush (v := nI 6) hx hb xj_M_price_71 (by decide) ?_
  refine lv_iload_n hx hb xj_M_price_73 rfl (lv_at hl 2 rfl) ?_
  refine xr_imul hx hb xj_M_price_74 ?_
  refine xr_top (y := nI (kd * 6)) (congrArg nI (Nat.mul_comm 6 kd)) ?_
  refine lv_iload_n hx hb xj_M_price_75 rfl (lv_at hl 3 rfl) ?_
  refine xr_iadd hx hb xj_M_price_76 ?_
  refine lv_iload_n hx hb xj_M_price_77 rfl (lv_at hl 4 rfl) ?_
  refine xr_iast hx hb hK.1 hP hD hS 1 0 rfl rfl (by omega) (by decide) xj_M_price_78 (fun H locs hP hD hS => ?_)
  have hP : va_P D xn_cl [(m0, .inr (6, [.int (nI 0), .int (nI gc), .int (nI dc), .ref m1, .ref m2, .ref m3, .ref m4, .ref m5, .ref m6, .ref m7, .ref m8, .ref m9, .ref m10])), (m1, .inl (cI, 78, .inl (upd P ((kd * 6) + kg) v)))] H := hP
  have hD : va_D A [(m0, .inr (6, [.int (nI 0), .int (nI gc), .int (nI dc), .ref m1, .ref m2, .ref m3, .ref m4, .ref m5, .ref m6, .ref m7, .ref m8, .ref m9, .ref m10])), (m1, .inl (cI, 78, .inl (upd P ((kd * 6) + kg) v)))] := hD
  refine lv_iload hx hb xj_M_price_79 (lv_at hl 0 rfl) ?_
  exact hret (P ((kd * 6) + kg)) (()) H locs _ ls rfl rfl hP hD hS xj_M_price_81
set_option maxRecDepth 100000 in
set_option maxHeartbeats 4000000 in
theorem xt_M_price_no (l : Launch) (D : va_G) (cI cZ cJ : ClassId) (m0 m1 m2 m3 m4 m5 m6 m7 m8 m9 m10 : Nat) (cd : Int32) (gc dc : Nat) (d g v : Int32) (hno : ¬ xo_set dc gc d g (xo_rg v (nI 1) (nI 99)) = 0) (hg : gc ≤ 6) (hd : dc ≤ 12) : xc_Wi l xy_M_price xb_M_price 5 .int 2 0 0 [.ref m0, .int d, .int g, .int v] D cI cZ cJ [(m0, .inr (6, [.int cd, .int (nI gc), .int (nI dc), .ref m1, .ref m2, .ref m3, .ref m4, .ref m5, .ref m6, .ref m7, .ref m8, .ref m9, .ref m10]))] (Unit) (fun _ _ => True) (fun _ => [(m0, .inr (6, [.int (nI (xo_set dc gc d g (xo_rg v (nI 1) (nI 99)))), .int (nI gc), .int (nI dc), .ref m1, .ref m2, .ref m3, .ref m4, .ref m5, .ref m6, .ref m7, .ref m8, .ref m9, .ref m10]))]) := by
  refine xc_Wi_of (by decide) (Nat.le_of_ble_eq_true rfl) ?_
  intro p e s m args below meth c Q ls A hAt hP hK hD hA hS hl hret
  obtain ⟨hx, hb, hml, hown, hts, hgs, hlk⟩ := id hAt
  have hT : ∀ w ∈ xw_g, w ∈ xc_ws xy_M_price xb_M_price 5 (some .int) := fun w h => List.mem_cons_of_mem _ h
  have hown : s.vm.findClass "WishLedgerModel" = some m.cls := hown
  obtain ⟨H, hH0⟩ : ∃ H, H = s.heap := ⟨_, rfl⟩
  obtain ⟨locs, hL0⟩ : ∃ locs : List Loc, locs = [] := ⟨_, rfl⟩
  have hP : va_P D xn_cl [(m0, .inr (6, [.int cd, .int (nI gc), .int (nI dc), .ref m1, .ref m2, .ref m3, .ref m4, .ref m5, .ref m6, .ref m7, .ref m8, .ref m9, .ref m10]))] H := by rw [hH0]; exact hP
  have hS : va_S A s.heap H locs := by rw [hH0, hL0]; exact hS
  suffices hgo : W p l e (xc_rm 2 0 0) s m args below meth c H locs 0 0 Q (F0 m 0 ls []) by rw [hH0, hL0] at hgo; exact hgo
  clear hH0 hL0
  have hl : lv_has ls 5 [(0, .ref m0), (1, .int d), (2, .int g), (3, .int v)] := hl
  refine lv_aload_n hx hb xj_M_price_0 rfl (lv_at hl 0 rfl) ?_
  refine lv_aload_n hx hb xj_M_price_1 rfl (lv_at hl 0 rfl) ?_
  refine lv_iload_n hx hb xj_M_price_2 rfl (lv_at hl 1 rfl) ?_
  refine xc_callV (av := [.int d]) (rest := [.ref m0]) hAt hT (xt_M_isDay l D cI cZ cJ m0 m1 m2 m3 m4 m5 m6 m7 m8 m9 m10 cd gc dc d (by omega)) xw_590 xw_7 xw_593 xw_592 xs_M_isDay (C0 := xn_M) (q0 := 0) rfl rfl (na := 1) rfl (by decide +kernel) ⟨Nat.le_of_ble_eq_true rfl, Nat.le_of_ble_eq_true rfl⟩ (hP.sub (ws' := [(m0, .inr (6, [.int cd, .int (nI gc), .int (nI dc), .ref m1, .ref m2, .ref m3, .ref m4, .ref m5, .ref m6, .ref m7, .ref m8, .ref m9, .ref m10]))]) [0] rfl) hK hl.1 (Nat.le_of_ble_eq_true rfl) ⟨Nat.zero_le _, Nat.zero_le _⟩ xj_M_price_3 ?_
  refine xr_ifeq (tgt := 23) hx hb xj_M_price_6 rfl (fun h6 => ?_) (fun h6 => ?_)
  · -- 23
    refine lv_iconst (v := nI 1) hx hb xj_M_price_23 (by decide) ?_
    refine lv_goto (tgt := 42) hx hb xj_M_price_24 rfl ?_
    refine va_put (D := D) (ci := 6) (v := .int (nI 1)) (ty := .int) (C := xn_M) (T := xn_TM) (N := 13) hx hb hgs xw_uM xn_tM xn_oM xn_nM hown hK.1 hP hD hS 0 rfl rfl 0 (by decide) (hgs _ xw_530) (fun _ h9 => h9) rfl (by decide +kernel) rfl rfl (Nat.le_of_ble_eq_true rfl) xj_M_price_42 (fun H locs hP hD hS => ?_)
    have hP : va_P D xn_cl [(m0, .inr (6, [.int (nI 1), .int (nI gc), .int (nI dc), .ref m1, .ref m2, .ref m3, .ref m4, .ref m5, .ref m6, .ref m7, .ref m8, .ref m9, .ref m10]))] H := hP
    have hD : va_D A [(m0, .inr (6, [.int (nI 1), .int (nI gc), .int (nI dc), .ref m1, .ref m2, .ref m3, .ref m4, .ref m5, .ref m6, .ref m7, .ref m8, .ref m9, .ref m10]))] := hD
    refine lv_aload_n hx hb xj_M_price_45 rfl (lv_at hl 0 rfl) ?_
    refine va_get (D := D) (ci := 6) (v := .int (nI 1)) (C := xn_M) (T := xn_TM) (N := 13) hx hb hgs xw_uM hown hK.1 hP 0 rfl rfl 0 (by decide) (hgs _ xw_530) (fun _ h9 => h9) rfl xj_M_price_46 ?_
    refine lv_if_le (tgt := 54) hx hb xj_M_price_49 rfl (fun h49 => absurd h49 (by decide +kernel)) (fun h49 => ?_)
    refine lv_iconst (v := nI 0) hx hb xj_M_price_52 (by decide) ?_
    have e9 : xo_set dc gc d g (xo_rg v (nI 1) (nI 99)) = 1 := xo_set_d h6
    have hP : va_P D xn_cl [(m0, .inr (6, [.int (nI (xo_set dc gc d g (xo_rg v (nI 1) (nI 99)))), .int (nI gc), .int (nI dc), .ref m1, .ref m2, .ref m3, .ref m4, .ref m5, .ref m6, .ref m7, .ref m8, .ref m9, .ref m10]))] H := by rw [e9]; exact hP
    have hD : va_D A [(m0, .inr (6, [.int (nI (xo_set dc gc d g (xo_rg v (nI 1) (nI 99)))), .int (nI gc), .int (nI dc), .ref m1, .ref m2, .ref m3, .ref m4, .ref m5, .ref m6, .ref m7, .ref m8, .ref m9, .ref m10]))] := by rw [e9]; exact hD
    exact hret (nI 0) (()) H locs _ ls trivial rfl hP hD hS xj_M_price_53
  · -- 9
    refine lv_iload_n hx hb xj_M_price_9 rfl (lv_at hl 2 rfl) ?_
    refine lv_iconst (v := nI 0) hx hb xj_M_price_10 (by decide) ?_
    refine lv_aload_n hx hb xj_M_price_11 rfl (lv_at hl 0 rfl) ?_
    refine va_get (D := D) (ci := 6) (v := .int (nI gc)) (C := xn_M) (T := xn_TM) (N := 13) hx hb hgs xw_uM hown hK.1 hP 0 rfl rfl 1 (by decide) (hgs _ xw_531) (fun _ h9 => h9) rfl xj_M_price_12 ?_
    refine lv_iconst (v := nI 1) hx hb xj_M_price_15 (by decide) ?_
    refine lv_isub hx hb xj_M_price_16 ?_
    refine xc_callS (av := [.int g, .int (nI 0), .int ((nI gc) - (nI 1))]) (rest := [.ref m0]) hAt hT (xt_M_in l D cI cZ cJ g (nI 0) ((nI gc) - (nI 1))) xw_579 xw_7 xw_581 xw_580 (na := 3) rfl (by decide +kernel) ⟨Nat.le_of_ble_eq_true rfl, Nat.le_of_ble_eq_true rfl⟩ (hP.sub (ws' := []) [] rfl) hK hl.1 (Nat.le_of_ble_eq_true rfl) ⟨Nat.zero_le _, Nat.zero_le _⟩ xj_M_price_17 ?_
    refine xr_top (y := xf_bI (xo_in g gc)) (congrArg xf_bI (xo_day (by omega))) ?_
    refine xr_ifne (tgt := 27) hx hb xj_M_price_20 rfl (fun h20 => ?_) (fun h20 => ?_)
    · -- 27
      refine lv_iload_n hx hb xj_M_price_27 rfl (lv_at hl 3 rfl) ?_
      refine lv_iconst (v := nI 1) hx hb xj_M_price_28 (by decide) ?_
      refine lv_bipush (v := nI 99) hx hb xj_M_price_29 (by decide) ?_
      refine xc_callS (av := [.int v, .int (nI 1), .int (nI 99)]) (rest := [.ref m0]) hAt hT (xt_M_in l D cI cZ cJ v (nI 1) (nI 99)) xw_579 xw_7 xw_581 xw_580 (na := 3) rfl (by decide +kernel) ⟨Nat.le_of_ble_eq_true rfl, Nat.le_of_ble_eq_true rfl⟩ (hP.sub (ws' := []) [] rfl) hK hl.1 (Nat.le_of_ble_eq_true rfl) ⟨Nat.zero_le _, Nat.zero_le _⟩ xj_M_price_31 ?_
      refine xr_ifne (tgt := 41) hx hb xj_M_price_34 rfl (fun h34 => ?_) (fun h34 => ?_)
      · -- 41
        refine lv_iconst (v := nI 0) hx hb xj_M_price_41 (by decide) ?_
        refine va_put (D := D) (ci := 6) (v := .int (nI 0)) (ty := .int) (C := xn_M) (T := xn_TM) (N := 13) hx hb hgs xw_uM xn_tM xn_oM xn_nM hown hK.1 hP hD hS 0 rfl rfl 0 (by decide) (hgs _ xw_530) (fun _ h9 => h9) rfl (by decide +kernel) rfl rfl (Nat.le_of_ble_eq_true rfl) xj_M_price_42 (fun H locs hP hD hS => ?_)
        have hP : va_P D xn_cl [(m0, .inr (6, [.int (nI 0), .int (nI gc), .int (nI dc), .ref m1, .ref m2, .ref m3, .ref m4, .ref m5, .ref m6, .ref m7, .ref m8, .ref m9, .ref m10]))] H := hP
        have hD : va_D A [(m0, .inr (6, [.int (nI 0), .int (nI gc), .int (nI dc), .ref m1, .ref m2, .ref m3, .ref m4, .ref m5, .ref m6, .ref m7, .ref m8, .ref m9, .ref m10]))] := hD
        refine lv_aload_n hx hb xj_M_price_45 rfl (lv_at hl 0 rfl) ?_
        refine va_get (D := D) (ci := 6) (v := .int (nI 0)) (C := xn_M) (T := xn_TM) (N := 13) hx hb hgs xw_uM hown hK.1 hP 0 rfl rfl 0 (by decide) (hgs _ xw_530) (fun _ h9 => h9) rfl xj_M_price_46 ?_
        refine lv_if_le (tgt := 54) hx hb xj_M_price_49 rfl (fun h49 => ?_) (fun h49 => absurd h49 (by decide +kernel))
        exact absurd (xo_set_0 h6 h20 h34) hno
      · -- 37
        refine lv_iconst (v := nI 2) hx hb xj_M_price_37 (by decide) ?_
        refine lv_goto (tgt := 42) hx hb xj_M_price_38 rfl ?_
        refine va_put (D := D) (ci := 6) (v := .int (nI 2)) (ty := .int) (C := xn_M) (T := xn_TM) (N := 13) hx hb hgs xw_uM xn_tM xn_oM xn_nM hown hK.1 hP hD hS 0 rfl rfl 0 (by decide) (hgs _ xw_530) (fun _ h9 => h9) rfl (by decide +kernel) rfl rfl (Nat.le_of_ble_eq_true rfl) xj_M_price_42 (fun H locs hP hD hS => ?_)
        have hP : va_P D xn_cl [(m0, .inr (6, [.int (nI 2), .int (nI gc), .int (nI dc), .ref m1, .ref m2, .ref m3, .ref m4, .ref m5, .ref m6, .ref m7, .ref m8, .ref m9, .ref m10]))] H := hP
        have hD : va_D A [(m0, .inr (6, [.int (nI 2), .int (nI gc), .int (nI dc), .ref m1, .ref m2, .ref m3, .ref m4, .ref m5, .ref m6, .ref m7, .ref m8, .ref m9, .ref m10]))] := hD
        refine lv_aload_n hx hb xj_M_price_45 rfl (lv_at hl 0 rfl) ?_
        refine va_get (D := D) (ci := 6) (v := .int (nI 2)) (C := xn_M) (T := xn_TM) (N := 13) hx hb hgs xw_uM hown hK.1 hP 0 rfl rfl 0 (by decide) (hgs _ xw_530) (fun _ h9 => h9) rfl xj_M_price_46 ?_
        refine lv_if_le (tgt := 54) hx hb xj_M_price_49 rfl (fun h49 => absurd h49 (by decide +kernel)) (fun h49 => ?_)
        refine lv_iconst (v := nI 0) hx hb xj_M_price_52 (by decide) ?_
        have e9 : xo_set dc gc d g (xo_rg v (nI 1) (nI 99)) = 2 := xo_set_v h6 h20 h34
        have hP : va_P D xn_cl [(m0, .inr (6, [.int (nI (xo_set dc gc d g (xo_rg v (nI 1) (nI 99)))), .int (nI gc), .int (nI dc), .ref m1, .ref m2, .ref m3, .ref m4, .ref m5, .ref m6, .ref m7, .ref m8, .ref m9, .ref m10]))] H := by rw [e9]; exact hP
        have hD : va_D A [(m0, .inr (6, [.int (nI (xo_set dc gc d g (xo_rg v (nI 1) (nI 99)))), .int (nI gc), .int (nI dc), .ref m1, .ref m2, .ref m3, .ref m4, .ref m5, .ref m6, .ref m7, .ref m8, .ref m9, .ref m10]))] := by rw [e9]; exact hD
        exact hret (nI 0) (()) H locs _ ls trivial rfl hP hD hS xj_M_price_53
    · -- 23
      refine lv_iconst (v := nI 1) hx hb xj_M_price_23 (by decide) ?_
      refine lv_goto (tgt := 42) hx hb xj_M_price_24 rfl ?_
      refine va_put (D := D) (ci := 6) (v := .int (nI 1)) (ty := .int) (C := xn_M) (T := xn_TM) (N := 13) hx hb hgs xw_uM xn_tM xn_oM xn_nM hown hK.1 hP hD hS 0 rfl rfl 0 (by decide) (hgs _ xw_530) (fun _ h9 => h9) rfl (by decide +kernel) rfl rfl (Nat.le_of_ble_eq_true rfl) xj_M_price_42 (fun H locs hP hD hS => ?_)
      have hP : va_P D xn_cl [(m0, .inr (6, [.int (nI 1), .int (nI gc), .int (nI dc), .ref m1, .ref m2, .ref m3, .ref m4, .ref m5, .ref m6, .ref m7, .ref m8, .ref m9, .ref m10]))] H := hP
      have hD : va_D A [(m0, .inr (6, [.int (nI 1), .int (nI gc), .int (nI dc), .ref m1, .ref m2, .ref m3, .ref m4, .ref m5, .ref m6, .ref m7, .ref m8, .ref m9, .ref m10]))] := hD
      refine lv_aload_n hx hb xj_M_price_45 rfl (lv_at hl 0 rfl) ?_
      refine va_get (D := D) (ci := 6) (v := .int (nI 1)) (C := xn_M) (T := xn_TM) (N := 13) hx hb hgs xw_uM hown hK.1 hP 0 rfl rfl 0 (by decide) (hgs _ xw_530) (fun _ h9 => h9) rfl xj_M_price_46 ?_
      refine lv_if_le (tgt := 54) hx hb xj_M_price_49 rfl (fun h49 => absurd h49 (by decide +kernel)) (fun h49 => ?_)
      refine lv_iconst (v := nI 0) hx hb xj_M_price_52 (by decide) ?_
      have e9 : xo_set dc gc d g (xo_rg v (nI 1) (nI 99)) = 1 := xo_set_g h20
      have hP : va_P D xn_cl [(m0, .inr (6, [.int (nI (xo_set dc gc d g (xo_rg v (nI 1) (nI 99)))), .int (nI gc), .int (nI dc), .ref m1, .ref m2, .ref m3, .ref m4, .ref m5, .ref m6, .ref m7, .ref m8, .ref m9, .ref m10]))] H := by rw [e9]; exact hP
      have hD : va_D A [(m0, .inr (6, [.int (nI (xo_set dc gc d g (xo_rg v (nI 1) (nI 99)))), .int (nI gc), .int (nI dc), .ref m1, .ref m2, .ref m3, .ref m4, .ref m5, .ref m6, .ref m7, .ref m8, .ref m9, .ref m10]))] := by rw [e9]; exact hD
      exact hret (nI 0) (()) H locs _ ls trivial rfl hP hD hS xj_M_price_53
set_option maxRecDepth 100000 in
set_option maxHeartbeats 4000000 in
theorem xt_M_amount_ok (l : Launch) (D : va_G) (cI cZ cJ : ClassId) (m0 m1 m2 m3 m4 m5 m6 m7 m8 m9 m10 : Nat) (cd : Int32) (gc dc : Nat) (A0 : Nat → Int32) (kd kg : Nat) (v : Int32) (hkd : kd < dc) (hkg : kg < gc) (hok : xo_rg v (nI 0) (nI 99) = true) (hg : gc ≤ 6) (hd : dc ≤ 12) : xc_Wi l xy_M_amount xb_M_amount 5 .int 2 0 0 [.ref m0, .int (nI kd), .int (nI kg), .int v] D cI cZ cJ [(m0, .inr (6, [.int cd, .int (nI gc), .int (nI dc), .ref m1, .ref m2, .ref m3, .ref m4, .ref m5, .ref m6, .ref m7, .ref m8, .ref m9, .ref m10])), (m2, .inl (cI, 78, .inl A0))] (Unit) (fun r _ => r = A0 (kd * 6 + kg)) (fun _ => [(m0, .inr (6, [.int (nI 0), .int (nI gc), .int (nI dc), .ref m1, .ref m2, .ref m3, .ref m4, .ref m5, .ref m6, .ref m7, .ref m8, .ref m9, .ref m10])), (m2, .inl (cI, 78, .inl (upd A0 (kd * 6 + kg) v)))]) := by
  refine xc_Wi_of (by decide) (Nat.le_of_ble_eq_true rfl) ?_
  intro p e s m args below meth c Q ls A hAt hP hK hD hA hS hl hret
  obtain ⟨hx, hb, hml, hown, hts, hgs, hlk⟩ := id hAt
  have hT : ∀ w ∈ xw_g, w ∈ xc_ws xy_M_amount xb_M_amount 5 (some .int) := fun w h => List.mem_cons_of_mem _ h
  have hown : s.vm.findClass "WishLedgerModel" = some m.cls := hown
  obtain ⟨H, hH0⟩ : ∃ H, H = s.heap := ⟨_, rfl⟩
  obtain ⟨locs, hL0⟩ : ∃ locs : List Loc, locs = [] := ⟨_, rfl⟩
  have hP : va_P D xn_cl [(m0, .inr (6, [.int cd, .int (nI gc), .int (nI dc), .ref m1, .ref m2, .ref m3, .ref m4, .ref m5, .ref m6, .ref m7, .ref m8, .ref m9, .ref m10])), (m2, .inl (cI, 78, .inl A0))] H := by rw [hH0]; exact hP
  have hS : va_S A s.heap H locs := by rw [hH0, hL0]; exact hS
  suffices hgo : W p l e (xc_rm 2 0 0) s m args below meth c H locs 0 0 Q (F0 m 0 ls []) by rw [hH0, hL0] at hgo; exact hgo
  clear hH0 hL0
  have hl : lv_has ls 5 [(0, .ref m0), (1, .int (nI kd)), (2, .int (nI kg)), (3, .int v)] := hl
  refine lv_aload_n hx hb xj_M_amount_0 rfl (lv_at hl 0 rfl) ?_
  refine lv_aload_n hx hb xj_M_amount_1 rfl (lv_at hl 0 rfl) ?_
  refine lv_iload_n hx hb xj_M_amount_2 rfl (lv_at hl 1 rfl) ?_
  refine xc_callV (av := [.int (nI kd)]) (rest := [.ref m0]) hAt hT (xt_M_isDay l D cI cZ cJ m0 m1 m2 m3 m4 m5 m6 m7 m8 m9 m10 cd gc dc (nI kd) (by omega)) xw_590 xw_7 xw_593 xw_592 xs_M_isDay (C0 := xn_M) (q0 := 0) rfl rfl (na := 1) rfl (by decide +kernel) ⟨Nat.le_of_ble_eq_true rfl, Nat.le_of_ble_eq_true rfl⟩ (hP.sub (ws' := [(m0, .inr (6, [.int cd, .int (nI gc), .int (nI dc), .ref m1, .ref m2, .ref m3, .ref m4, .ref m5, .ref m6, .ref m7, .ref m8, .ref m9, .ref m10]))]) [0] rfl) hK hl.1 (Nat.le_of_ble_eq_true rfl) ⟨Nat.zero_le _, Nat.zero_le _⟩ xj_M_amount_3 ?_
  refine xr_top (y := nI 1) (by rw [xo_in_n hkd (by omega)]; rfl) ?_
  refine xr_ifeqN (tgt := 23) hx hb (by omega) xj_M_amount_6 rfl (fun h6 => absurd h6 (by omega)) (fun h6 => ?_)
  refine lv_iload_n hx hb xj_M_amount_9 rfl (lv_at hl 2 rfl) ?_
  refine lv_iconst (v := nI 0) hx hb xj_M_amount_10 (by decide) ?_
  refine lv_aload_n hx hb xj_M_amount_11 rfl (lv_at hl 0 rfl) ?_
  refine va_get (D := D) (ci := 6) (v := .int (nI gc)) (C := xn_M) (T := xn_TM) (N := 13) hx hb hgs xw_uM hown hK.1 hP 0 rfl rfl 1 (by decide) (hgs _ xw_531) (fun _ h9 => h9) rfl xj_M_amount_12 ?_
  refine lv_iconst (v := nI 1) hx hb xj_M_amount_15 (by decide) ?_
  refine lv_isub hx hb xj_M_amount_16 ?_
  refine xc_callS (av := [.int (nI kg), .int (nI 0), .int ((nI gc) - (nI 1))]) (rest := [.ref m0]) hAt hT (xt_M_in l D cI cZ cJ (nI kg) (nI 0) ((nI gc) - (nI 1))) xw_579 xw_7 xw_581 xw_580 (na := 3) rfl (by decide +kernel) ⟨Nat.le_of_ble_eq_true rfl, Nat.le_of_ble_eq_true rfl⟩ (hP.sub (ws' := []) [] rfl) hK hl.1 (Nat.le_of_ble_eq_true rfl) ⟨Nat.zero_le _, Nat.zero_le _⟩ xj_M_amount_17 ?_
  refine xr_top (y := nI 1) (by rw [xo_day (by omega), xo_in_n hkg (by omega)]; rfl) ?_
  refine xr_ifneN (tgt := 27) hx hb (by omega) xj_M_amount_20 rfl (fun h20 => ?_) (fun h20 => absurd h20 (by omega))
  refine lv_iload_n hx hb xj_M_amount_27 rfl (lv_at hl 3 rfl) ?_
  refine lv_iconst (v := nI 0) hx hb xj_M_amount_28 (by decide) ?_
  refine lv_bipush (v := nI 99) hx hb xj_M_amount_29 (by decide) ?_
  refine xc_callS (av := [.int v, .int (nI 0), .int (nI 99)]) (rest := [.ref m0]) hAt hT (xt_M_in l D cI cZ cJ v (nI 0) (nI 99)) xw_579 xw_7 xw_581 xw_580 (na := 3) rfl (by decide +kernel) ⟨Nat.le_of_ble_eq_true rfl, Nat.le_of_ble_eq_true rfl⟩ (hP.sub (ws' := []) [] rfl) hK hl.1 (Nat.le_of_ble_eq_true rfl) ⟨Nat.zero_le _, Nat.zero_le _⟩ xj_M_amount_31 ?_
  refine xr_top (y := nI 1) (by rw [hok]; rfl) ?_
  refine xr_ifneN (tgt := 41) hx hb (by omega) xj_M_amount_34 rfl (fun h34 => ?_) (fun h34 => absurd h34 (by omega))
  refine lv_iconst (v := nI 0) hx hb xj_M_amount_41 (by decide) ?_
  refine va_put (D := D) (ci := 6) (v := .int (nI 0)) (ty := .int) (C := xn_M) (T := xn_TM) (N := 13) hx hb hgs xw_uM xn_tM xn_oM xn_nM hown hK.1 hP hD hS 0 rfl rfl 0 (by decide) (hgs _ xw_530) (fun _ h9 => h9) rfl (by decide +kernel) rfl rfl (Nat.le_of_ble_eq_true rfl) xj_M_amount_42 (fun H locs hP hD hS => ?_)
  have hP : va_P D xn_cl [(m0, .inr (6, [.int (nI 0), .int (nI gc), .int (nI dc), .ref m1, .ref m2, .ref m3, .ref m4, .ref m5, .ref m6, .ref m7, .ref m8, .ref m9, .ref m10])), (m2, .inl (cI, 78, .inl A0))] H := hP
  have hD : va_D A [(m0, .inr (6, [.int (nI 0), .int (nI gc), .int (nI dc), .ref m1, .ref m2, .ref m3, .ref m4, .ref m5, .ref m6, .ref m7, .ref m8, .ref m9, .ref m10])), (m2, .inl (cI, 78, .inl A0))] := hD
  refine lv_aload_n hx hb xj_M_amount_45 rfl (lv_at hl 0 rfl) ?_
  refine va_get (D := D) (ci := 6) (v := .int (nI 0)) (C := xn_M) (T := xn_TM) (N := 13) hx hb hgs xw_uM hown hK.1 hP 0 rfl rfl 0 (by decide) (hgs _ xw_530) (fun _ h9 => h9) rfl xj_M_amount_46 ?_
  refine lv_if_le (tgt := 54) hx hb xj_M_amount_49 rfl (fun h49 => ?_) (fun h49 => absurd h49 (by decide +kernel))
  refine lv_aload_n hx hb xj_M_amount_54 rfl (lv_at hl 0 rfl) ?_
  refine va_get (D := D) (ci := 6) (v := .ref m2) (C := xn_M) (T := xn_TM) (N := 13) hx hb hgs xw_uM hown hK.1 hP 0 rfl rfl 4 (by decide) (hgs _ xw_534) (fun _ h9 => h9) rfl xj_M_amount_55 ?_
  refine lv_bipush (v := nI 6) hx hb xj_M_amount_58 (by decide) ?_
  refine lv_iload_n hx hb xj_M_amount_60 rfl (lv_at hl 1 rfl) ?_
  refine xr_imul hx hb xj_M_amount_61 ?_
  refine xr_top (y := nI (kd * 6)) (congrArg nI (Nat.mul_comm 6 kd)) ?_
  refine lv_iload_n hx hb xj_M_amount_62 rfl (lv_at hl 2 rfl) ?_
  refine xr_iadd hx hb xj_M_amount_63 ?_
  refine xr_iald hx hb hK.1 hP 1 0 rfl rfl (by omega) (by decide) xj_M_amount_64 ?_
  refine lv_istore (lv' := [(4, .int (A0 ((kd * 6) + kg))), (0, .ref m0), (1, .int (nI kd)), (2, .int (nI kg)), (3, .int v)]) hx hb xj_M_amount_65 hl (by decide) rfl (fun ls hl => ?_)
  refine lv_aload_n hx hb xj_M_amount_67 rfl (lv_at hl 1 rfl) ?_
  refine va_get (D := D) (ci := 6) (v := .ref m2) (C := xn_M) (T := xn_TM) (N := 13) hx hb hgs xw_uM hown hK.1 hP 0 rfl rfl 4 (by decide) (hgs _ xw_534) (fun _ h9 => h9) rfl xj_M_amount_68 ?_
  refine lv_bipush (v := nI 6) hx hb xj_M_amount_71 (by decide) ?_
  refine lv_iload_n hx hb xj_M_amount_73 rfl (lv_at hl 2 rfl) ?_
  refine xr_imul hx hb xj_M_amount_74 ?_
  refine xr_top (y := nI (kd * 6)) (congrArg nI (Nat.mul_comm 6 kd)) ?_
  refine lv_iload_n hx hb xj_M_amount_75 rfl (lv_at hl 3 rfl) ?_
  refine xr_iadd hx hb xj_M_amount_76 ?_
  refine lv_iload_n hx hb xj_M_amount_77 rfl (lv_at hl 4 rfl) ?_
  refine xr_iast hx hb hK.1 hP hD hS 1 0 rfl rfl (by omega) (by decide) xj_M_amount_78 (fun H locs hP hD hS => ?_)
  have hP : va_P D xn_cl [(m0, .inr (6, [.int (nI 0), .int (nI gc), .int (nI dc), .ref m1, .ref m2, .ref m3, .ref m4, .ref m5, .ref m6, .ref m7, .ref m8, .ref m9, .ref m10])), (m2, .inl (cI, 78, .inl (upd A0 ((kd * 6) + kg) v)))] H := hP
  have hD : va_D A [(m0, .inr (6, [.int (nI 0), .int (nI gc), .int (nI dc), .ref m1, .ref m2, .ref m3, .ref m4, .ref m5, .ref m6, .ref m7, .ref m8, .ref m9, .ref m10])), (m2, .inl (cI, 78, .inl (upd A0 ((kd * 6) + kg) v)))] := hD
  refine lv_iload hx hb xj_M_amount_79 (lv_at hl 0 rfl) ?_
  exact hret (A0 ((kd * 6) + kg)) (()) H locs _ ls rfl rfl hP hD hS xj_M_amount_81
set_option maxRecDepth 100000 in
set_option maxHeartbeats 4000000 in
theorem xt_M_amount_no (l : Launch) (D : va_G) (cI cZ cJ : ClassId) (m0 m1 m2 m3 m4 m5 m6 m7 m8 m9 m10 : Nat) (cd : Int32) (gc dc : Nat) (d g v : Int32) (hno : ¬ xo_set dc gc d g (xo_rg v (nI 0) (nI 99)) = 0) (hg : gc ≤ 6) (hd : dc ≤ 12) : xc_Wi l xy_M_amount xb_M_amount 5 .int 2 0 0 [.ref m0, .int d, .int g, .int v] D cI cZ cJ [(m0, .inr (6, [.int cd, .int (nI gc), .int (nI dc), .ref m1, .ref m2, .ref m3, .ref m4, .ref m5, .ref m6, .ref m7, .ref m8, .ref m9, .ref m10]))] (Unit) (fun _ _ => True) (fun _ => [(m0, .inr (6, [.int (nI (xo_set dc gc d g (xo_rg v (nI 0) (nI 99)))), .int (nI gc), .int (nI dc), .ref m1, .ref m2, .ref m3, .ref m4, .ref m5, .ref m6, .ref m7, .ref m8, .ref m9, .ref m10]))]) := by
  refine xc_Wi_of (by decide) (Nat.le_of_ble_eq_true rfl) ?_
  intro p e s m args below meth c Q ls A hAt hP hK hD hA hS hl hret
  obtain ⟨hx, hb, hml, hown, hts, hgs, hlk⟩ := id hAt
  have hT : ∀ w ∈ xw_g, w ∈ xc_ws xy_M_amount xb_M_amount 5 (some .int) := fun w h => List.mem_cons_of_mem _ h
  have hown : s.vm.findClass "WishLedgerModel" = some m.cls := hown
  obtain ⟨H, hH0⟩ : ∃ H, H = s.heap := ⟨_, rfl⟩
  obtain ⟨locs, hL0⟩ : ∃ locs : List Loc, locs = [] := ⟨_, rfl⟩
  have hP : va_P D xn_cl [(m0, .inr (6, [.int cd, .int (nI gc), .int (nI dc), .ref m1, .ref m2, .ref m3, .ref m4, .ref m5, .ref m6, .ref m7, .ref m8, .ref m9, .ref m10]))] H := by rw [hH0]; exact hP
  have hS : va_S A s.heap H locs := by rw [hH0, hL0]; exact hS
  suffices hgo : W p l e (xc_rm 2 0 0) s m args below meth c H locs 0 0 Q (F0 m 0 ls []) by rw [hH0, hL0] at hgo; exact hgo
  clear hH0 hL0
  have hl : lv_has ls 5 [(0, .ref m0), (1, .int d), (2, .int g), (3, .int v)] := hl
  refine lv_aload_n hx hb xj_M_amount_0 rfl (lv_at hl 0 rfl) ?_
  refine lv_aload_n hx hb xj_M_amount_1 rfl (lv_at hl 0 rfl) ?_
  refine lv_iload_n hx hb xj_M_amount_2 rfl (lv_at hl 1 rfl) ?_
  refine xc_callV (av := [.int d]) (rest := [.ref m0]) hAt hT (xt_M_isDay l D cI cZ cJ m0 m1 m2 m3 m4 m5 m6 m7 m8 m9 m10 cd gc dc d (by omega)) xw_590 xw_7 xw_593 xw_592 xs_M_isDay (C0 := xn_M) (q0 := 0) rfl rfl (na := 1) rfl (by decide +kernel) ⟨Nat.le_of_ble_eq_true rfl, Nat.le_of_ble_eq_true rfl⟩ (hP.sub (ws' := [(m0, .inr (6, [.int cd, .int (nI gc), .int (nI dc), .ref m1, .ref m2, .ref m3, .ref m4, .ref m5, .ref m6, .ref m7, .ref m8, .ref m9, .ref m10]))]) [0] rfl) hK hl.1 (Nat.le_of_ble_eq_true rfl) ⟨Nat.zero_le _, Nat.zero_le _⟩ xj_M_amount_3 ?_
  refine xr_ifeq (tgt := 23) hx hb xj_M_amount_6 rfl (fun h6 => ?_) (fun h6 => ?_)
  · -- 23
    refine lv_iconst (v := nI 1) hx hb xj_M_amount_23 (by decide) ?_
    refine lv_goto (tgt := 42) hx hb xj_M_amount_24 rfl ?_
    refine va_put (D := D) (ci := 6) (v := .int (nI 1)) (ty := .int) (C := xn_M) (T := xn_TM) (N := 13) hx hb hgs xw_uM xn_tM xn_oM xn_nM hown hK.1 hP hD hS 0 rfl rfl 0 (by decide) (hgs _ xw_530) (fun _ h9 => h9) rfl (by decide +kernel) rfl rfl (Nat.le_of_ble_eq_true rfl) xj_M_amount_42 (fun H locs hP hD hS => ?_)
    have hP : va_P D xn_cl [(m0, .inr (6, [.int (nI 1), .int (nI gc), .int (nI dc), .ref m1, .ref m2, .ref m3, .ref m4, .ref m5, .ref m6, .ref m7, .ref m8, .ref m9, .ref m10]))] H := hP
    have hD : va_D A [(m0, .inr (6, [.int (nI 1), .int (nI gc), .int (nI dc), .ref m1, .ref m2, .ref m3, .ref m4, .ref m5, .ref m6, .ref m7, .ref m8, .ref m9, .ref m10]))] := hD
    refine lv_aload_n hx hb xj_M_amount_45 rfl (lv_at hl 0 rfl) ?_
    refine va_get (D := D) (ci := 6) (v := .int (nI 1)) (C := xn_M) (T := xn_TM) (N := 13) hx hb hgs xw_uM hown hK.1 hP 0 rfl rfl 0 (by decide) (hgs _ xw_530) (fun _ h9 => h9) rfl xj_M_amount_46 ?_
    refine lv_if_le (tgt := 54) hx hb xj_M_amount_49 rfl (fun h49 => absurd h49 (by decide +kernel)) (fun h49 => ?_)
    refine lv_iconst (v := nI 0) hx hb xj_M_amount_52 (by decide) ?_
    have e9 : xo_set dc gc d g (xo_rg v (nI 0) (nI 99)) = 1 := xo_set_d h6
    have hP : va_P D xn_cl [(m0, .inr (6, [.int (nI (xo_set dc gc d g (xo_rg v (nI 0) (nI 99)))), .int (nI gc), .int (nI dc), .ref m1, .ref m2, .ref m3, .ref m4, .ref m5, .ref m6, .ref m7, .ref m8, .ref m9, .ref m10]))] H := by rw [e9]; exact hP
    have hD : va_D A [(m0, .inr (6, [.int (nI (xo_set dc gc d g (xo_rg v (nI 0) (nI 99)))), .int (nI gc), .int (nI dc), .ref m1, .ref m2, .ref m3, .ref m4, .ref m5, .ref m6, .ref m7, .ref m8, .ref m9, .ref m10]))] := by rw [e9]; exact hD
    exact hret (nI 0) (()) H locs _ ls trivial rfl hP hD hS xj_M_amount_53
  · -- 9
    refine lv_iload_n hx hb xj_M_amount_9 rfl (lv_at hl 2 rfl) ?_
    refine lv_iconst (v := nI 0) hx hb xj_M_amount_10 (by decide) ?_
    refine lv_aload_n hx hb xj_M_amount_11 rfl (lv_at hl 0 rfl) ?_
    refine va_get (D := D) (ci := 6) (v := .int (nI gc)) (C := xn_M) (T := xn_TM) (N := 13) hx hb hgs xw_uM hown hK.1 hP 0 rfl rfl 1 (by decide) (hgs _ xw_531) (fun _ h9 => h9) rfl xj_M_amount_12 ?_
    refine lv_iconst (v := nI 1) hx hb xj_M_amount_15 (by decide) ?_
    refine lv_isub hx hb xj_M_amount_16 ?_
    refine xc_callS (av := [.int g, .int (nI 0), .int ((nI gc) - (nI 1))]) (rest := [.ref m0]) hAt hT (xt_M_in l D cI cZ cJ g (nI 0) ((nI gc) - (nI 1))) xw_579 xw_7 xw_581 xw_580 (na := 3) rfl (by decide +kernel) ⟨Nat.le_of_ble_eq_true rfl, Nat.le_of_ble_eq_true rfl⟩ (hP.sub (ws' := []) [] rfl) hK hl.1 (Nat.le_of_ble_eq_true rfl) ⟨Nat.zero_le _, Nat.zero_le _⟩ xj_M_amount_17 ?_
    refine xr_top (y := xf_bI (xo_in g gc)) (congrArg xf_bI (xo_day (by omega))) ?_
    refine xr_ifne (tgt := 27) hx hb xj_M_amount_20 rfl (fun h20 => ?_) (fun h20 => ?_)
    · -- 27
      refine lv_iload_n hx hb xj_M_amount_27 rfl (lv_at hl 3 rfl) ?_
      refine lv_iconst (v := nI 0) hx hb xj_M_amount_28 (by decide) ?_
      refine lv_bipush (v := nI 99) hx hb xj_M_amount_29 (by decide) ?_
      refine xc_callS (av := [.int v, .int (nI 0), .int (nI 99)]) (rest := [.ref m0]) hAt hT (xt_M_in l D cI cZ cJ v (nI 0) (nI 99)) xw_579 xw_7 xw_581 xw_580 (na := 3) rfl (by decide +kernel) ⟨Nat.le_of_ble_eq_true rfl, Nat.le_of_ble_eq_true rfl⟩ (hP.sub (ws' := []) [] rfl) hK hl.1 (Nat.le_of_ble_eq_true rfl) ⟨Nat.zero_le _, Nat.zero_le _⟩ xj_M_amount_31 ?_
      refine xr_ifne (tgt := 41) hx hb xj_M_amount_34 rfl (fun h34 => ?_) (fun h34 => ?_)
      · -- 41
        refine lv_iconst (v := nI 0) hx hb xj_M_amount_41 (by decide) ?_
        refine va_put (D := D) (ci := 6) (v := .int (nI 0)) (ty := .int) (C := xn_M) (T := xn_TM) (N := 13) hx hb hgs xw_uM xn_tM xn_oM xn_nM hown hK.1 hP hD hS 0 rfl rfl 0 (by decide) (hgs _ xw_530) (fun _ h9 => h9) rfl (by decide +kernel) rfl rfl (Nat.le_of_ble_eq_true rfl) xj_M_amount_42 (fun H locs hP hD hS => ?_)
        have hP : va_P D xn_cl [(m0, .inr (6, [.int (nI 0), .int (nI gc), .int (nI dc), .ref m1, .ref m2, .ref m3, .ref m4, .ref m5, .ref m6, .ref m7, .ref m8, .ref m9, .ref m10]))] H := hP
        have hD : va_D A [(m0, .inr (6, [.int (nI 0), .int (nI gc), .int (nI dc), .ref m1, .ref m2, .ref m3, .ref m4, .ref m5, .ref m6, .ref m7, .ref m8, .ref m9, .ref m10]))] := hD
        refine lv_aload_n hx hb xj_M_amount_45 rfl (lv_at hl 0 rfl) ?_
        refine va_get (D := D) (ci := 6) (v := .int (nI 0)) (C := xn_M) (T := xn_TM) (N := 13) hx hb hgs xw_uM hown hK.1 hP 0 rfl rfl 0 (by decide) (hgs _ xw_530) (fun _ h9 => h9) rfl xj_M_amount_46 ?_
        refine lv_if_le (tgt := 54) hx hb xj_M_amount_49 rfl (fun h49 => ?_) (fun h49 => absurd h49 (by decide +kernel))
        exact absurd (xo_set_0 h6 h20 h34) hno
      · -- 37
        refine lv_iconst (v := nI 2) hx hb xj_M_amount_37 (by decide) ?_
        refine lv_goto (tgt := 42) hx hb xj_M_amount_38 rfl ?_
        refine va_put (D := D) (ci := 6) (v := .int (nI 2)) (ty := .int) (C := xn_M) (T := xn_TM) (N := 13) hx hb hgs xw_uM xn_tM xn_oM xn_nM hown hK.1 hP hD hS 0 rfl rfl 0 (by decide) (hgs _ xw_530) (fun _ h9 => h9) rfl (by decide +kernel) rfl rfl (Nat.le_of_ble_eq_true rfl) xj_M_amount_42 (fun H locs hP hD hS => ?_)
        have hP : va_P D xn_cl [(m0, .inr (6, [.int (nI 2), .int (nI gc), .int (nI dc), .ref m1, .ref m2, .ref m3, .ref m4, .ref m5, .ref m6, .ref m7, .ref m8, .ref m9, .ref m10]))] H := hP
        have hD : va_D A [(m0, .inr (6, [.int (nI 2), .int (nI gc), .int (nI dc), .ref m1, .ref m2, .ref m3, .ref m4, .ref m5, .ref m6, .ref m7, .ref m8, .ref m9, .ref m10]))] := hD
        refine lv_aload_n hx hb xj_M_amount_45 rfl (lv_at hl 0 rfl) ?_
        refine va_get (D := D) (ci := 6) (v := .int (nI 2)) (C := xn_M) (T := xn_TM) (N := 13) hx hb hgs xw_uM hown hK.1 hP 0 rfl rfl 0 (by decide) (hgs _ xw_530) (fun _ h9 => h9) rfl xj_M_amount_46 ?_
        refine lv_if_le (tgt := 54) hx hb xj_M_amount_49 rfl (fun h49 => absurd h49 (by decide +kernel)) (fun h49 => ?_)
        refine lv_iconst (v := nI 0) hx hb xj_M_amount_52 (by decide) ?_
        have e9 : xo_set dc gc d g (xo_rg v (nI 0) (nI 99)) = 2 := xo_set_v h6 h20 h34
        have hP : va_P D xn_cl [(m0, .inr (6, [.int (nI (xo_set dc gc d g (xo_rg v (nI 0) (nI 99)))), .int (nI gc), .int (nI dc), .ref m1, .ref m2, .ref m3, .ref m4, .ref m5, .ref m6, .ref m7, .ref m8, .ref m9, .ref m10]))] H := by rw [e9]; exact hP
        have hD : va_D A [(m0, .inr (6, [.int (nI (xo_set dc gc d g (xo_rg v (nI 0) (nI 99)))), .int (nI gc), .int (nI dc), .ref m1, .ref m2, .ref m3, .ref m4, .ref m5, .ref m6, .ref m7, .ref m8, .ref m9, .ref m10]))] := by rw [e9]; exact hD
        exact hret (nI 0) (()) H locs _ ls trivial rfl hP hD hS xj_M_amount_53
    · -- 23
      refine lv_iconst (v := nI 1) hx hb xj_M_amount_23 (by decide) ?_
      refine lv_goto (tgt := 42) hx hb xj_M_amount_24 rfl ?_
      refine va_put (D := D) (ci := 6) (v := .int (nI 1)) (ty := .int) (C := xn_M) (T := xn_TM) (N := 13) hx hb hgs xw_uM xn_tM xn_oM xn_nM hown hK.1 hP hD hS 0 rfl rfl 0 (by decide) (hgs _ xw_530) (fun _ h9 => h9) rfl (by decide +kernel) rfl rfl (Nat.le_of_ble_eq_true rfl) xj_M_amount_42 (fun H locs hP hD hS => ?_)
      have hP : va_P D xn_cl [(m0, .inr (6, [.int (nI 1), .int (nI gc), .int (nI dc), .ref m1, .ref m2, .ref m3, .ref m4, .ref m5, .ref m6, .ref m7, .ref m8, .ref m9, .ref m10]))] H := hP
      have hD : va_D A [(m0, .inr (6, [.int (nI 1), .int (nI gc), .int (nI dc), .ref m1, .ref m2, .ref m3, .ref m4, .ref m5, .ref m6, .ref m7, .ref m8, .ref m9, .ref m10]))] := hD
      refine lv_aload_n hx hb xj_M_amount_45 rfl (lv_at hl 0 rfl) ?_
      refine va_get (D := D) (ci := 6) (v := .int (nI 1)) (C := xn_M) (T := xn_TM) (N := 13) hx hb hgs xw_uM hown hK.1 hP 0 rfl rfl 0 (by decide) (hgs _ xw_530) (fun _ h9 => h9) rfl xj_M_amount_46 ?_
      refine lv_if_le (tgt := 54) hx hb xj_M_amount_49 rfl (fun h49 => absurd h49 (by decide +kernel)) (fun h49 => ?_)
      refine lv_iconst (v := nI 0) hx hb xj_M_amount_52 (by decide) ?_
      have e9 : xo_set dc gc d g (xo_rg v (nI 0) (nI 99)) = 1 := xo_set_g h20
      have hP : va_P D xn_cl [(m0, .inr (6, [.int (nI (xo_set dc gc d g (xo_rg v (nI 0) (nI 99)))), .int (nI gc), .int (nI dc), .ref m1, .ref m2, .ref m3, .ref m4, .ref m5, .ref m6, .ref m7, .ref m8, .ref m9, .ref m10]))] H := by rw [e9]; exact hP
      have hD : va_D A [(m0, .inr (6, [.int (nI (xo_set dc gc d g (xo_rg v (nI 0) (nI 99)))), .int (nI gc), .int (nI dc), .ref m1, .ref m2, .ref m3, .ref m4, .ref m5, .ref m6, .ref m7, .ref m8, .ref m9, .ref m10]))] := by rw [e9]; exact hD
      exact hret (nI 0) (()) H locs _ ls trivial rfl hP hD hS xj_M_amount_53
set_option maxRecDepth 100000 in
set_option maxHeartbeats 4000000 in
theorem xt_M_remove_ok (l : Launch) (D : va_G) (cI cZ cJ : ClassId) (m0 m1 m2 m3 m4 m5 m6 m7 m8 m9 m10 : Nat) (cd : Int32) (gc dc : Nat) (P : Nat → Int32) (A0 : Nat → Int32) (kd : Nat) (hkd : kd < dc) (hd : dc ≤ 12) : xc_Wv l xy_M_remove xb_M_remove 3 2 0 0 [.ref m0, .int (nI kd)] D cI cZ cJ [(m0, .inr (6, [.int cd, .int (nI gc), .int (nI dc), .ref m1, .ref m2, .ref m3, .ref m4, .ref m5, .ref m6, .ref m7, .ref m8, .ref m9, .ref m10])), (m1, .inl (cI, 78, .inl P)), (m2, .inl (cI, 78, .inl A0))] (Unit) (fun _ => True) (fun _ => [(m0, .inr (6, [.int (nI 0), .int (nI gc), .int (nI (dc - 1)), .ref m1, .ref m2, .ref m3, .ref m4, .ref m5, .ref m6, .ref m7, .ref m8, .ref m9, .ref m10])), (m1, .inl (cI, 78, .inl (xk_shf ((dc - 1) * 6 - kd * 6) (kd * 6) P))), (m2, .inl (cI, 78, .inl (xk_shf ((dc - 1) * 6 - kd * 6) (kd * 6) A0)))]) := by
  refine xc_Wv_of (by decide) (Nat.le_of_ble_eq_true rfl) ?_
  intro p e s m args below meth c Q ls A hAt hin hP hK hD hA hS hl hret
  obtain ⟨hx, hb, hml, hown, hts, hgs, hlk⟩ := id hAt
  have hT : ∀ w ∈ xw_g, w ∈ xc_ws xy_M_remove xb_M_remove 3 (none) := fun w h => List.mem_cons_of_mem _ h
  have hown : s.vm.findClass "WishLedgerModel" = some m.cls := hown
  obtain ⟨H, hH0⟩ : ∃ H, H = s.heap := ⟨_, rfl⟩
  obtain ⟨locs, hL0⟩ : ∃ locs : List Loc, locs = [] := ⟨_, rfl⟩
  have hP : va_P D xn_cl [(m0, .inr (6, [.int cd, .int (nI gc), .int (nI dc), .ref m1, .ref m2, .ref m3, .ref m4, .ref m5, .ref m6, .ref m7, .ref m8, .ref m9, .ref m10])), (m1, .inl (cI, 78, .inl P)), (m2, .inl (cI, 78, .inl A0))] H := by rw [hH0]; exact hP
  have hS : va_S A s.heap H locs := by rw [hH0, hL0]; exact hS
  suffices hgo : W p l e (xc_rm 2 0 0) s m args below meth c H locs 0 0 Q (F0 m 0 ls []) by rw [hH0, hL0] at hgo; exact hgo
  clear hH0 hL0
  have hl : lv_has ls 3 [(0, .ref m0), (1, .int (nI kd))] := hl
  refine lv_aload_n hx hb xj_M_remove_0 rfl (lv_at hl 0 rfl) ?_
  refine lv_aload_n hx hb xj_M_remove_1 rfl (lv_at hl 0 rfl) ?_
  refine lv_iload_n hx hb xj_M_remove_2 rfl (lv_at hl 1 rfl) ?_
  refine xc_callV (av := [.int (nI kd)]) (rest := [.ref m0]) hAt hT (xt_M_isDay l D cI cZ cJ m0 m1 m2 m3 m4 m5 m6 m7 m8 m9 m10 cd gc dc (nI kd) (by omega)) xw_590 xw_7 xw_593 xw_592 xs_M_isDay (C0 := xn_M) (q0 := 0) rfl rfl (na := 1) rfl (by decide +kernel) ⟨Nat.le_of_ble_eq_true rfl, Nat.le_of_ble_eq_true rfl⟩ (hP.sub (ws' := [(m0, .inr (6, [.int cd, .int (nI gc), .int (nI dc), .ref m1, .ref m2, .ref m3, .ref m4, .ref m5, .ref m6, .ref m7, .ref m8, .ref m9, .ref m10]))]) [0] rfl) hK hl.1 (Nat.le_of_ble_eq_true rfl) ⟨Nat.zero_le _, Nat.zero_le _⟩ xj_M_remove_3 ?_
  refine xr_top (y := nI 1) (by rw [xo_in_n hkd (by omega)]; rfl) ?_
  refine xr_ifeqN (tgt := 13) hx hb (by omega) xj_M_remove_6 rfl (fun h6 => absurd h6 (by omega)) (fun h6 => ?_)
  refine lv_iconst (v := nI 0) hx hb xj_M_remove_9 (by decide) ?_
  refine lv_goto (tgt := 14) hx hb xj_M_remove_10 rfl ?_
  refine va_put (D := D) (ci := 6) (v := .int (nI 0)) (ty := .int) (C := xn_M) (T := xn_TM) (N := 13) hx hb hgs xw_uM xn_tM xn_oM xn_nM hown hK.1 hP hD hS 0 rfl rfl 0 (by decide) (hgs _ xw_530) (fun _ h9 => h9) rfl (by decide +kernel) rfl rfl (Nat.le_of_ble_eq_true rfl) xj_M_remove_14 (fun H locs hP hD hS => ?_)
  have hP : va_P D xn_cl [(m0, .inr (6, [.int (nI 0), .int (nI gc), .int (nI dc), .ref m1, .ref m2, .ref m3, .ref m4, .ref m5, .ref m6, .ref m7, .ref m8, .ref m9, .ref m10])), (m1, .inl (cI, 78, .inl P)), (m2, .inl (cI, 78, .inl A0))] H := hP
  have hD : va_D A [(m0, .inr (6, [.int (nI 0), .int (nI gc), .int (nI dc), .ref m1, .ref m2, .ref m3, .ref m4, .ref m5, .ref m6, .ref m7, .ref m8, .ref m9, .ref m10])), (m1, .inl (cI, 78, .inl P)), (m2, .inl (cI, 78, .inl A0))] := hD
  refine lv_aload_n hx hb xj_M_remove_17 rfl (lv_at hl 0 rfl) ?_
  refine va_get (D := D) (ci := 6) (v := .int (nI 0)) (C := xn_M) (T := xn_TM) (N := 13) hx hb hgs xw_uM hown hK.1 hP 0 rfl rfl 0 (by decide) (hgs _ xw_530) (fun _ h9 => h9) rfl xj_M_remove_18 ?_
  refine lv_if_le (tgt := 25) hx hb xj_M_remove_21 rfl (fun h21 => ?_) (fun h21 => absurd h21 (by decide +kernel))
  refine lv_aload_n hx hb xj_M_remove_25 rfl (lv_at hl 0 rfl) ?_
  refine lv_dup hx hb xj_M_remove_26 rfl ?_
  refine va_get (D := D) (ci := 6) (v := .int (nI dc)) (C := xn_M) (T := xn_TM) (N := 13) hx hb hgs xw_uM hown hK.1 hP 0 rfl rfl 2 (by decide) (hgs _ xw_532) (fun _ h9 => h9) rfl xj_M_remove_27 ?_
  refine lv_iconst (v := nI 1) hx hb xj_M_remove_30 (by decide) ?_
  refine xr_isub hx hb (by omega) xj_M_remove_31 ?_
  refine va_put (D := D) (ci := 6) (v := .int (nI (dc - 1))) (ty := .int) (C := xn_M) (T := xn_TM) (N := 13) hx hb hgs xw_uM xn_tM xn_oM xn_nM hown hK.1 hP hD hS 0 rfl rfl 2 (by decide) (hgs _ xw_532) (fun _ h9 => h9) rfl (by decide +kernel) rfl rfl (Nat.le_of_ble_eq_true rfl) xj_M_remove_32 (fun H locs hP hD hS => ?_)
  have hP : va_P D xn_cl [(m0, .inr (6, [.int (nI 0), .int (nI gc), .int (nI (dc - 1)), .ref m1, .ref m2, .ref m3, .ref m4, .ref m5, .ref m6, .ref m7, .ref m8, .ref m9, .ref m10])), (m1, .inl (cI, 78, .inl P)), (m2, .inl (cI, 78, .inl A0))] H := hP
  have hD : va_D A [(m0, .inr (6, [.int (nI 0), .int (nI gc), .int (nI (dc - 1)), .ref m1, .ref m2, .ref m3, .ref m4, .ref m5, .ref m6, .ref m7, .ref m8, .ref m9, .ref m10])), (m1, .inl (cI, 78, .inl P)), (m2, .inl (cI, 78, .inl A0))] := hD
  refine lv_bipush (v := nI 6) hx hb xj_M_remove_35 (by decide) ?_
  refine lv_iload_n hx hb xj_M_remove_37 rfl (lv_at hl 1 rfl) ?_
  refine xr_imul hx hb xj_M_remove_38 ?_
  refine xr_top (y := nI (kd * 6)) (congrArg nI (Nat.mul_comm 6 kd)) ?_
  refine lv_istore_n (lv' := [(2, .int (nI (kd * 6))), (0, .ref m0), (1, .int (nI kd))]) hx hb xj_M_remove_39 rfl hl (by decide) rfl (fun ls hl => ?_)
  have loop40 : ∀ (n : Nat) (i : Nat) (P2 : Nat → Int32) (A2 : Nat → Int32) (ls : Array Slot) (H : Heap) (locs : List Loc), i + n = (dc - 1) * 6 → (xk_shf n i P2 = xk_shf ((dc - 1) * 6 - kd * 6) (kd * 6) P) → (xk_shf n i A2 = xk_shf ((dc - 1) * 6 - kd * 6) (kd * 6) A0) → lv_has ls 3 [(0, .ref m0), (2, .int (nI i))] → va_P D xn_cl [(m0, .inr (6, [.int (nI 0), .int (nI gc), .int (nI (dc - 1)), .ref m1, .ref m2, .ref m3, .ref m4, .ref m5, .ref m6, .ref m7, .ref m8, .ref m9, .ref m10])), (m1, .inl (cI, 78, .inl P2)), (m2, .inl (cI, 78, .inl A2))] H → va_D A [(m0, .inr (6, [.int (nI 0), .int (nI gc), .int (nI (dc - 1)), .ref m1, .ref m2, .ref m3, .ref m4, .ref m5, .ref m6, .ref m7, .ref m8, .ref m9, .ref m10])), (m1, .inl (cI, 78, .inl P2)), (m2, .inl (cI, 78, .inl A2))] → va_S A s.heap H locs → W p l e (xc_rm 2 0 0) s m args below meth c H locs 0 0 Q (F0 m 40 ls []) := by
    intro n
    induction n with
    | zero =>
      intro i P2 A2 ls H locs hi40 hp ha hl hP hD hS
      refine lv_iload_n hx hb xj_M_remove_40 rfl (lv_at hl 1 rfl) ?_
      refine lv_bipush (v := nI 6) hx hb xj_M_remove_41 (by decide) ?_
      refine lv_aload_n hx hb xj_M_remove_43 rfl (lv_at hl 0 rfl) ?_
      refine va_get (D := D) (ci := 6) (v := .int (nI (dc - 1))) (C := xn_M) (T := xn_TM) (N := 13) hx hb hgs xw_uM hown hK.1 hP 0 rfl rfl 2 (by decide) (hgs _ xw_532) (fun _ h9 => h9) rfl xj_M_remove_44 ?_
      refine xr_imul hx hb xj_M_remove_47 ?_
      refine xr_top (y := nI ((dc - 1) * 6)) (congrArg nI (Nat.mul_comm 6 (dc - 1))) ?_
      refine xr_ge (tgt := 87) hx hb (by omega) (by omega) xj_M_remove_48 rfl (fun h48 => ?_) (fun h48 => absurd h48 (by omega))
      obtain rfl : P2 = _ := hp
      obtain rfl : A2 = _ := ha
      exact hret (()) H locs _ ls trivial hP hD hS xj_M_remove_87
    | succ n ih40 =>
      intro i P2 A2 ls H locs hi40 hp ha hl hP hD hS
      refine lv_iload_n hx hb xj_M_remove_40 rfl (lv_at hl 1 rfl) ?_
      refine lv_bipush (v := nI 6) hx hb xj_M_remove_41 (by decide) ?_
      refine lv_aload_n hx hb xj_M_remove_43 rfl (lv_at hl 0 rfl) ?_
      refine va_get (D := D) (ci := 6) (v := .int (nI (dc - 1))) (C := xn_M) (T := xn_TM) (N := 13) hx hb hgs xw_uM hown hK.1 hP 0 rfl rfl 2 (by decide) (hgs _ xw_532) (fun _ h9 => h9) rfl xj_M_remove_44 ?_
      refine xr_imul hx hb xj_M_remove_47 ?_
      refine xr_top (y := nI ((dc - 1) * 6)) (congrArg nI (Nat.mul_comm 6 (dc - 1))) ?_
      refine xr_ge (tgt := 87) hx hb (by omega) (by omega) xj_M_remove_48 rfl (fun h48 => absurd h48 (by omega)) (fun h48 => ?_)
      refine lv_aload_n hx hb xj_M_remove_51 rfl (lv_at hl 0 rfl) ?_
      refine va_get (D := D) (ci := 6) (v := .ref m1) (C := xn_M) (T := xn_TM) (N := 13) hx hb hgs xw_uM hown hK.1 hP 0 rfl rfl 3 (by decide) (hgs _ xw_533) (fun _ h9 => h9) rfl xj_M_remove_52 ?_
      refine lv_iload_n hx hb xj_M_remove_55 rfl (lv_at hl 1 rfl) ?_
      refine lv_aload_n hx hb xj_M_remove_56 rfl (lv_at hl 0 rfl) ?_
      refine va_get (D := D) (ci := 6) (v := .ref m1) (C := xn_M) (T := xn_TM) (N := 13) hx hb hgs xw_uM hown hK.1 hP 0 rfl rfl 3 (by decide) (hgs _ xw_533) (fun _ h9 => h9) rfl xj_M_remove_57 ?_
      refine lv_iload_n hx hb xj_M_remove_60 rfl (lv_at hl 1 rfl) ?_
      refine lv_bipush (v := nI 6) hx hb xj_M_remove_61 (by decide) ?_
      refine xr_iadd hx hb xj_M_remove_63 ?_
      refine xr_iald hx hb hK.1 hP 1 0 rfl rfl (by omega) (by decide) xj_M_remove_64 ?_
      refine xr_iast hx hb hK.1 hP hD hS 1 0 rfl rfl (by omega) (by decide) xj_M_remove_65 (fun H locs hP hD hS => ?_)
      have hP : va_P D xn_cl [(m0, .inr (6, [.int (nI 0), .int (nI gc), .int (nI (dc - 1)), .ref m1, .ref m2, .ref m3, .ref m4, .ref m5, .ref m6, .ref m7, .ref m8, .ref m9, .ref m10])), (m1, .inl (cI, 78, .inl (upd P2 i (P2 (i + 6))))), (m2, .inl (cI, 78, .inl A2))] H := hP
      have hD : va_D A [(m0, .inr (6, [.int (nI 0), .int (nI gc), .int (nI (dc - 1)), .ref m1, .ref m2, .ref m3, .ref m4, .ref m5, .ref m6, .ref m7, .ref m8, .ref m9, .ref m10])), (m1, .inl (cI, 78, .inl (upd P2 i (P2 (i + 6))))), (m2, .inl (cI, 78, .inl A2))] := hD
      refine lv_aload_n hx hb xj_M_remove_66 rfl (lv_at hl 0 rfl) ?_
      refine va_get (D := D) (ci := 6) (v := .ref m2) (C := xn_M) (T := xn_TM) (N := 13) hx hb hgs xw_uM hown hK.1 hP 0 rfl rfl 4 (by decide) (hgs _ xw_534) (fun _ h9 => h9) rfl xj_M_remove_67 ?_
      refine lv_iload_n hx hb xj_M_remove_70 rfl (lv_at hl 1 rfl) ?_
      refine lv_aload_n hx hb xj_M_remove_71 rfl (lv_at hl 0 rfl) ?_
      refine va_get (D := D) (ci := 6) (v := .ref m2) (C := xn_M) (T := xn_TM) (N := 13) hx hb hgs xw_uM hown hK.1 hP 0 rfl rfl 4 (by decide) (hgs _ xw_534) (fun _ h9 => h9) rfl xj_M_remove_72 ?_
      refine lv_iload_n hx hb xj_M_remove_75 rfl (lv_at hl 1 rfl) ?_
      refine lv_bipush (v := nI 6) hx hb xj_M_remove_76 (by decide) ?_
      refine xr_iadd hx hb xj_M_remove_78 ?_
      refine xr_iald hx hb hK.1 hP 2 0 rfl rfl (by omega) (by decide) xj_M_remove_79 ?_
      refine xr_iast hx hb hK.1 hP hD hS 2 0 rfl rfl (by omega) (by decide) xj_M_remove_80 (fun H locs hP hD hS => ?_)
      have hP : va_P D xn_cl [(m0, .inr (6, [.int (nI 0), .int (nI gc), .int (nI (dc - 1)), .ref m1, .ref m2, .ref m3, .ref m4, .ref m5, .ref m6, .ref m7, .ref m8, .ref m9, .ref m10])), (m1, .inl (cI, 78, .inl (upd P2 i (P2 (i + 6))))), (m2, .inl (cI, 78, .inl (upd A2 i (A2 (i + 6)))))] H := hP
      have hD : va_D A [(m0, .inr (6, [.int (nI 0), .int (nI gc), .int (nI (dc - 1)), .ref m1, .ref m2, .ref m3, .ref m4, .ref m5, .ref m6, .ref m7, .ref m8, .ref m9, .ref m10])), (m1, .inl (cI, 78, .inl (upd P2 i (P2 (i + 6))))), (m2, .inl (cI, 78, .inl (upd A2 i (A2 (i + 6)))))] := hD
      refine lv_iinc (k := 1) (v := nI (i + 1)) (lv' := [(2, .int (nI (i + 1))), (0, .ref m0)]) hx hb xj_M_remove_81 hl rfl (xr_inc _) (by decide) rfl (fun ls hl => ?_)
      refine lv_goto (tgt := 40) hx hb xj_M_remove_84 rfl ?_
      exact ih40 (i + 1) (upd P2 i (P2 (i + 6))) (upd A2 i (A2 (i + 6))) ls _ _ (by omega) hp ha (lv_sub hl [1, 0] rfl) hP hD hS
  exact loop40 ((dc - 1) * 6 - kd * 6) (kd * 6) P A0 ls _ _ (by omega) rfl rfl (lv_sub hl [1, 0] rfl) hP hD hS
set_option maxRecDepth 100000 in
set_option maxHeartbeats 4000000 in
theorem xt_M_remove_no (l : Launch) (D : va_G) (cI cZ cJ : ClassId) (m0 m1 m2 m3 m4 m5 m6 m7 m8 m9 m10 : Nat) (cd : Int32) (gc dc : Nat) (d : Int32) (hno : xo_in d dc = false) (hd : dc ≤ 12) : xc_Wv l xy_M_remove xb_M_remove 3 2 0 0 [.ref m0, .int d] D cI cZ cJ [(m0, .inr (6, [.int cd, .int (nI gc), .int (nI dc), .ref m1, .ref m2, .ref m3, .ref m4, .ref m5, .ref m6, .ref m7, .ref m8, .ref m9, .ref m10]))] (Unit) (fun _ => True) (fun _ => [(m0, .inr (6, [.int (nI 1), .int (nI gc), .int (nI dc), .ref m1, .ref m2, .ref m3, .ref m4, .ref m5, .ref m6, .ref m7, .ref m8, .ref m9, .ref m10]))]) := by
  refine xc_Wv_of (by decide) (Nat.le_of_ble_eq_true rfl) ?_
  intro p e s m args below meth c Q ls A hAt hin hP hK hD hA hS hl hret
  obtain ⟨hx, hb, hml, hown, hts, hgs, hlk⟩ := id hAt
  have hT : ∀ w ∈ xw_g, w ∈ xc_ws xy_M_remove xb_M_remove 3 (none) := fun w h => List.mem_cons_of_mem _ h
  have hown : s.vm.findClass "WishLedgerModel" = some m.cls := hown
  obtain ⟨H, hH0⟩ : ∃ H, H = s.heap := ⟨_, rfl⟩
  obtain ⟨locs, hL0⟩ : ∃ locs : List Loc, locs = [] := ⟨_, rfl⟩
  have hP : va_P D xn_cl [(m0, .inr (6, [.int cd, .int (nI gc), .int (nI dc), .ref m1, .ref m2, .ref m3, .ref m4, .ref m5, .ref m6, .ref m7, .ref m8, .ref m9, .ref m10]))] H := by rw [hH0]; exact hP
  have hS : va_S A s.heap H locs := by rw [hH0, hL0]; exact hS
  suffices hgo : W p l e (xc_rm 2 0 0) s m args below meth c H locs 0 0 Q (F0 m 0 ls []) by rw [hH0, hL0] at hgo; exact hgo
  clear hH0 hL0
  have hl : lv_has ls 3 [(0, .ref m0), (1, .int d)] := hl
  refine lv_aload_n hx hb xj_M_remove_0 rfl (lv_at hl 0 rfl) ?_
  refine lv_aload_n hx hb xj_M_remove_1 rfl (lv_at hl 0 rfl) ?_
  refine lv_iload_n hx hb xj_M_remove_2 rfl (lv_at hl 1 rfl) ?_
  refine xc_callV (av := [.int d]) (rest := [.ref m0]) hAt hT (xt_M_isDay l D cI cZ cJ m0 m1 m2 m3 m4 m5 m6 m7 m8 m9 m10 cd gc dc d (by omega)) xw_590 xw_7 xw_593 xw_592 xs_M_isDay (C0 := xn_M) (q0 := 0) rfl rfl (na := 1) rfl (by decide +kernel) ⟨Nat.le_of_ble_eq_true rfl, Nat.le_of_ble_eq_true rfl⟩ (hP.sub (ws' := [(m0, .inr (6, [.int cd, .int (nI gc), .int (nI dc), .ref m1, .ref m2, .ref m3, .ref m4, .ref m5, .ref m6, .ref m7, .ref m8, .ref m9, .ref m10]))]) [0] rfl) hK hl.1 (Nat.le_of_ble_eq_true rfl) ⟨Nat.zero_le _, Nat.zero_le _⟩ xj_M_remove_3 ?_
  refine xr_top (y := nI 0) (by rw [hno]; rfl) ?_
  refine xr_ifeqN (tgt := 13) hx hb (by omega) xj_M_remove_6 rfl (fun h6 => ?_) (fun h6 => absurd h6 (by omega))
  refine lv_iconst (v := nI 1) hx hb xj_M_remove_13 (by decide) ?_
  refine va_put (D := D) (ci := 6) (v := .int (nI 1)) (ty := .int) (C := xn_M) (T := xn_TM) (N := 13) hx hb hgs xw_uM xn_tM xn_oM xn_nM hown hK.1 hP hD hS 0 rfl rfl 0 (by decide) (hgs _ xw_530) (fun _ h9 => h9) rfl (by decide +kernel) rfl rfl (Nat.le_of_ble_eq_true rfl) xj_M_remove_14 (fun H locs hP hD hS => ?_)
  have hP : va_P D xn_cl [(m0, .inr (6, [.int (nI 1), .int (nI gc), .int (nI dc), .ref m1, .ref m2, .ref m3, .ref m4, .ref m5, .ref m6, .ref m7, .ref m8, .ref m9, .ref m10]))] H := hP
  have hD : va_D A [(m0, .inr (6, [.int (nI 1), .int (nI gc), .int (nI dc), .ref m1, .ref m2, .ref m3, .ref m4, .ref m5, .ref m6, .ref m7, .ref m8, .ref m9, .ref m10]))] := hD
  refine lv_aload_n hx hb xj_M_remove_17 rfl (lv_at hl 0 rfl) ?_
  refine va_get (D := D) (ci := 6) (v := .int (nI 1)) (C := xn_M) (T := xn_TM) (N := 13) hx hb hgs xw_uM hown hK.1 hP 0 rfl rfl 0 (by decide) (hgs _ xw_530) (fun _ h9 => h9) rfl xj_M_remove_18 ?_
  refine lv_if_le (tgt := 25) hx hb xj_M_remove_21 rfl (fun h21 => absurd h21 (by decide +kernel)) (fun h21 => ?_)
  exact hret (()) H locs _ ls trivial hP hD hS xj_M_remove_24
set_option maxRecDepth 100000 in
set_option maxHeartbeats 4000000 in
theorem xt_M_cost_ok (l : Launch) (D : va_G) (cI cZ cJ : ClassId) (m0 m1 m2 m3 m4 m5 m6 m7 m8 m9 m10 : Nat) (cd : Int32) (gc dc : Nat) (P : Nat → Int32) (A0 : Nat → Int32) (ks kt : Nat) (hks : ks < dc) (hkt : kt < dc) (hg : gc ≤ 6) (hd : dc ≤ 12) : xc_Wi l xy_M_cost xb_M_cost 3 .int 2 0 0 [.ref m0, .int (nI ks), .int (nI kt)] D cI cZ cJ [(m0, .inr (6, [.int cd, .int (nI gc), .int (nI dc), .ref m1, .ref m2, .ref m3, .ref m4, .ref m5, .ref m6, .ref m7, .ref m8, .ref m9, .ref m10])), (m1, .inl (cI, 78, .inl P)), (m2, .inl (cI, 78, .inl A0))] (Unit) (fun r _ => r = xk_c gc P A0 ks kt) (fun _ => [(m0, .inr (6, [.int (nI 0), .int (nI gc), .int (nI dc), .ref m1, .ref m2, .ref m3, .ref m4, .ref m5, .ref m6, .ref m7, .ref m8, .ref m9, .ref m10])), (m1, .inl (cI, 78, .inl P)), (m2, .inl (cI, 78, .inl A0))]) := by
  refine xc_Wi_of (by decide) (Nat.le_of_ble_eq_true rfl) ?_
  intro p e s m args below meth c Q ls A hAt hP hK hD hA hS hl hret
  obtain ⟨hx, hb, hml, hown, hts, hgs, hlk⟩ := id hAt
  have hT : ∀ w ∈ xw_g, w ∈ xc_ws xy_M_cost xb_M_cost 3 (some .int) := fun w h => List.mem_cons_of_mem _ h
  have hown : s.vm.findClass "WishLedgerModel" = some m.cls := hown
  obtain ⟨H, hH0⟩ : ∃ H, H = s.heap := ⟨_, rfl⟩
  obtain ⟨locs, hL0⟩ : ∃ locs : List Loc, locs = [] := ⟨_, rfl⟩
  have hP : va_P D xn_cl [(m0, .inr (6, [.int cd, .int (nI gc), .int (nI dc), .ref m1, .ref m2, .ref m3, .ref m4, .ref m5, .ref m6, .ref m7, .ref m8, .ref m9, .ref m10])), (m1, .inl (cI, 78, .inl P)), (m2, .inl (cI, 78, .inl A0))] H := by rw [hH0]; exact hP
  have hS : va_S A s.heap H locs := by rw [hH0, hL0]; exact hS
  suffices hgo : W p l e (xc_rm 2 0 0) s m args below meth c H locs 0 0 Q (F0 m 0 ls []) by rw [hH0, hL0] at hgo; exact hgo
  clear hH0 hL0
  have hl : lv_has ls 3 [(0, .ref m0), (1, .int (nI ks)), (2, .int (nI kt))] := hl
  refine lv_aload_n hx hb xj_M_cost_0 rfl (lv_at hl 0 rfl) ?_
  refine lv_aload_n hx hb xj_M_cost_1 rfl (lv_at hl 0 rfl) ?_
  refine lv_iload_n hx hb xj_M_cost_2 rfl (lv_at hl 1 rfl) ?_
  refine xc_callV (av := [.int (nI ks)]) (rest := [.ref m0]) hAt hT (xt_M_isDay l D cI cZ cJ m0 m1 m2 m3 m4 m5 m6 m7 m8 m9 m10 cd gc dc (nI ks) (by omega)) xw_590 xw_7 xw_593 xw_592 xs_M_isDay (C0 := xn_M) (q0 := 0) rfl rfl (na := 1) rfl (by decide +kernel) ⟨Nat.le_of_ble_eq_true rfl, Nat.le_of_ble_eq_true rfl⟩ (hP.sub (ws' := [(m0, .inr (6, [.int cd, .int (nI gc), .int (nI dc), .ref m1, .ref m2, .ref m3, .ref m4, .ref m5, .ref m6, .ref m7, .ref m8, .ref m9, .ref m10]))]) [0] rfl) hK hl.1 (Nat.le_of_ble_eq_true rfl) ⟨Nat.zero_le _, Nat.zero_le _⟩ xj_M_cost_3 ?_
  refine xr_top (y := nI 1) (by rw [xo_in_n hks (by omega)]; rfl) ?_
  refine xr_ifeqN (tgt := 21) hx hb (by omega) xj_M_cost_6 rfl (fun h6 => absurd h6 (by omega)) (fun h6 => ?_)
  refine lv_aload_n hx hb xj_M_cost_9 rfl (lv_at hl 0 rfl) ?_
  refine lv_iload_n hx hb xj_M_cost_10 rfl (lv_at hl 2 rfl) ?_
  refine xc_callV (av := [.int (nI kt)]) (rest := [.ref m0]) hAt hT (xt_M_isDay l D cI cZ cJ m0 m1 m2 m3 m4 m5 m6 m7 m8 m9 m10 cd gc dc (nI kt) (by omega)) xw_590 xw_7 xw_593 xw_592 xs_M_isDay (C0 := xn_M) (q0 := 0) rfl rfl (na := 1) rfl (by decide +kernel) ⟨Nat.le_of_ble_eq_true rfl, Nat.le_of_ble_eq_true rfl⟩ (hP.sub (ws' := [(m0, .inr (6, [.int cd, .int (nI gc), .int (nI dc), .ref m1, .ref m2, .ref m3, .ref m4, .ref m5, .ref m6, .ref m7, .ref m8, .ref m9, .ref m10]))]) [0] rfl) hK hl.1 (Nat.le_of_ble_eq_true rfl) ⟨Nat.zero_le _, Nat.zero_le _⟩ xj_M_cost_11 ?_
  refine xr_top (y := nI 1) (by rw [xo_in_n hkt (by omega)]; rfl) ?_
  refine xr_ifeqN (tgt := 21) hx hb (by omega) xj_M_cost_14 rfl (fun h14 => absurd h14 (by omega)) (fun h14 => ?_)
  refine lv_iconst (v := nI 0) hx hb xj_M_cost_17 (by decide) ?_
  refine lv_goto (tgt := 22) hx hb xj_M_cost_18 rfl ?_
  refine va_put (D := D) (ci := 6) (v := .int (nI 0)) (ty := .int) (C := xn_M) (T := xn_TM) (N := 13) hx hb hgs xw_uM xn_tM xn_oM xn_nM hown hK.1 hP hD hS 0 rfl rfl 0 (by decide) (hgs _ xw_530) (fun _ h9 => h9) rfl (by decide +kernel) rfl rfl (Nat.le_of_ble_eq_true rfl) xj_M_cost_22 (fun H locs hP hD hS => ?_)
  have hP : va_P D xn_cl [(m0, .inr (6, [.int (nI 0), .int (nI gc), .int (nI dc), .ref m1, .ref m2, .ref m3, .ref m4, .ref m5, .ref m6, .ref m7, .ref m8, .ref m9, .ref m10])), (m1, .inl (cI, 78, .inl P)), (m2, .inl (cI, 78, .inl A0))] H := hP
  have hD : va_D A [(m0, .inr (6, [.int (nI 0), .int (nI gc), .int (nI dc), .ref m1, .ref m2, .ref m3, .ref m4, .ref m5, .ref m6, .ref m7, .ref m8, .ref m9, .ref m10])), (m1, .inl (cI, 78, .inl P)), (m2, .inl (cI, 78, .inl A0))] := hD
  refine lv_aload_n hx hb xj_M_cost_25 rfl (lv_at hl 0 rfl) ?_
  refine va_get (D := D) (ci := 6) (v := .int (nI 0)) (C := xn_M) (T := xn_TM) (N := 13) hx hb hgs xw_uM hown hK.1 hP 0 rfl rfl 0 (by decide) (hgs _ xw_530) (fun _ h9 => h9) rfl xj_M_cost_26 ?_
  refine lv_if_le (tgt := 36) hx hb xj_M_cost_29 rfl (fun h29 => ?_) (fun h29 => absurd h29 (by decide +kernel))
  refine lv_aload_n hx hb xj_M_cost_36 rfl (lv_at hl 0 rfl) ?_
  refine lv_iload_n hx hb xj_M_cost_37 rfl (lv_at hl 1 rfl) ?_
  refine lv_iload_n hx hb xj_M_cost_38 rfl (lv_at hl 2 rfl) ?_
  refine xc_callV (av := [.int (nI ks), .int (nI kt)]) (rest := []) hAt hT (xt_M_costs l D cI cZ cJ m0 m1 m2 m3 m4 m5 m6 m7 m8 m9 m10 (nI 0) gc dc P A0 ks kt (by omega) (by omega) (by omega)) xw_606 xw_7 xw_609 xw_608 xs_M_costs (C0 := xn_M) (q0 := 0) rfl rfl (na := 2) rfl (by decide +kernel) ⟨Nat.le_of_ble_eq_true rfl, Nat.le_of_ble_eq_true rfl⟩ (hP.sub (ws' := [(m0, .inr (6, [.int (nI 0), .int (nI gc), .int (nI dc), .ref m1, .ref m2, .ref m3, .ref m4, .ref m5, .ref m6, .ref m7, .ref m8, .ref m9, .ref m10])), (m1, .inl (cI, 78, .inl P)), (m2, .inl (cI, 78, .inl A0))]) [0, 1, 2] rfl) hK hl.1 (Nat.le_of_ble_eq_true rfl) ⟨Nat.zero_le _, Nat.zero_le _⟩ xj_M_cost_39 ?_
  exact hret (xk_c gc P A0 ks kt) (()) H locs _ ls rfl rfl hP hD hS xj_M_cost_42
set_option maxRecDepth 100000 in
set_option maxHeartbeats 4000000 in
theorem xt_M_cost_no (l : Launch) (D : va_G) (cI cZ cJ : ClassId) (m0 m1 m2 m3 m4 m5 m6 m7 m8 m9 m10 : Nat) (cd : Int32) (gc dc : Nat) (s1 t1 : Int32) (hno : (xo_in s1 dc && xo_in t1 dc) = false) (hd : dc ≤ 12) : xc_Wi l xy_M_cost xb_M_cost 3 .int 2 0 0 [.ref m0, .int s1, .int t1] D cI cZ cJ [(m0, .inr (6, [.int cd, .int (nI gc), .int (nI dc), .ref m1, .ref m2, .ref m3, .ref m4, .ref m5, .ref m6, .ref m7, .ref m8, .ref m9, .ref m10]))] (Unit) (fun _ _ => True) (fun _ => [(m0, .inr (6, [.int (nI 1), .int (nI gc), .int (nI dc), .ref m1, .ref m2, .ref m3, .ref m4, .ref m5, .ref m6, .ref m7, .ref m8, .ref m9, .ref m10]))]) := by
  refine xc_Wi_of (by decide) (Nat.le_of_ble_eq_true rfl) ?_
  intro p e s m args below meth c Q ls A hAt hP hK hD hA hS hl hret
  obtain ⟨hx, hb, hml, hown, hts, hgs, hlk⟩ := id hAt
  have hT : ∀ w ∈ xw_g, w ∈ xc_ws xy_M_cost xb_M_cost 3 (some .int) := fun w h => List.mem_cons_of_mem _ h
  have hown : s.vm.findClass "WishLedgerModel" = some m.cls := hown
  obtain ⟨H, hH0⟩ : ∃ H, H = s.heap := ⟨_, rfl⟩
  obtain ⟨locs, hL0⟩ : ∃ locs : List Loc, locs = [] := ⟨_, rfl⟩
  have hP : va_P D xn_cl [(m0, .inr (6, [.int cd, .int (nI gc), .int (nI dc), .ref m1, .ref m2, .ref m3, .ref m4, .ref m5, .ref m6, .ref m7, .ref m8, .ref m9, .ref m10]))] H := by rw [hH0]; exact hP
  have hS : va_S A s.heap H locs := by rw [hH0, hL0]; exact hS
  suffices hgo : W p l e (xc_rm 2 0 0) s m args below meth c H locs 0 0 Q (F0 m 0 ls []) by rw [hH0, hL0] at hgo; exact hgo
  clear hH0 hL0
  have hl : lv_has ls 3 [(0, .ref m0), (1, .int s1), (2, .int t1)] := hl
  refine lv_aload_n hx hb xj_M_cost_0 rfl (lv_at hl 0 rfl) ?_
  refine lv_aload_n hx hb xj_M_cost_1 rfl (lv_at hl 0 rfl) ?_
  refine lv_iload_n hx hb xj_M_cost_2 rfl (lv_at hl 1 rfl) ?_
  refine xc_callV (av := [.int s1]) (rest := [.ref m0]) hAt hT (xt_M_isDay l D cI cZ cJ m0 m1 m2 m3 m4 m5 m6 m7 m8 m9 m10 cd gc dc s1 (by omega)) xw_590 xw_7 xw_593 xw_592 xs_M_isDay (C0 := xn_M) (q0 := 0) rfl rfl (na := 1) rfl (by decide +kernel) ⟨Nat.le_of_ble_eq_true rfl, Nat.le_of_ble_eq_true rfl⟩ (hP.sub (ws' := [(m0, .inr (6, [.int cd, .int (nI gc), .int (nI dc), .ref m1, .ref m2, .ref m3, .ref m4, .ref m5, .ref m6, .ref m7, .ref m8, .ref m9, .ref m10]))]) [0] rfl) hK hl.1 (Nat.le_of_ble_eq_true rfl) ⟨Nat.zero_le _, Nat.zero_le _⟩ xj_M_cost_3 ?_
  refine xr_ifeq (tgt := 21) hx hb xj_M_cost_6 rfl (fun h6 => ?_) (fun h6 => ?_)
  · -- 21
    refine lv_iconst (v := nI 1) hx hb xj_M_cost_21 (by decide) ?_
    refine va_put (D := D) (ci := 6) (v := .int (nI 1)) (ty := .int) (C := xn_M) (T := xn_TM) (N := 13) hx hb hgs xw_uM xn_tM xn_oM xn_nM hown hK.1 hP hD hS 0 rfl rfl 0 (by decide) (hgs _ xw_530) (fun _ h9 => h9) rfl (by decide +kernel) rfl rfl (Nat.le_of_ble_eq_true rfl) xj_M_cost_22 (fun H locs hP hD hS => ?_)
    have hP : va_P D xn_cl [(m0, .inr (6, [.int (nI 1), .int (nI gc), .int (nI dc), .ref m1, .ref m2, .ref m3, .ref m4, .ref m5, .ref m6, .ref m7, .ref m8, .ref m9, .ref m10]))] H := hP
    have hD : va_D A [(m0, .inr (6, [.int (nI 1), .int (nI gc), .int (nI dc), .ref m1, .ref m2, .ref m3, .ref m4, .ref m5, .ref m6, .ref m7, .ref m8, .ref m9, .ref m10]))] := hD
    refine lv_aload_n hx hb xj_M_cost_25 rfl (lv_at hl 0 rfl) ?_
    refine va_get (D := D) (ci := 6) (v := .int (nI 1)) (C := xn_M) (T := xn_TM) (N := 13) hx hb hgs xw_uM hown hK.1 hP 0 rfl rfl 0 (by decide) (hgs _ xw_530) (fun _ h9 => h9) rfl xj_M_cost_26 ?_
    refine lv_if_le (tgt := 36) hx hb xj_M_cost_29 rfl (fun h29 => absurd h29 (by decide +kernel)) (fun h29 => ?_)
    refine lv_iconst (v := nI 0) hx hb xj_M_cost_32 (by decide) ?_
    refine lv_goto (tgt := 42) hx hb xj_M_cost_33 rfl ?_
    exact hret (nI 0) (()) H locs _ ls trivial rfl hP hD hS xj_M_cost_42
  · -- 9
    refine lv_aload_n hx hb xj_M_cost_9 rfl (lv_at hl 0 rfl) ?_
    refine lv_iload_n hx hb xj_M_cost_10 rfl (lv_at hl 2 rfl) ?_
    refine xc_callV (av := [.int t1]) (rest := [.ref m0]) hAt hT (xt_M_isDay l D cI cZ cJ m0 m1 m2 m3 m4 m5 m6 m7 m8 m9 m10 cd gc dc t1 (by omega)) xw_590 xw_7 xw_593 xw_592 xs_M_isDay (C0 := xn_M) (q0 := 0) rfl rfl (na := 1) rfl (by decide +kernel) ⟨Nat.le_of_ble_eq_true rfl, Nat.le_of_ble_eq_true rfl⟩ (hP.sub (ws' := [(m0, .inr (6, [.int cd, .int (nI gc), .int (nI dc), .ref m1, .ref m2, .ref m3, .ref m4, .ref m5, .ref m6, .ref m7, .ref m8, .ref m9, .ref m10]))]) [0] rfl) hK hl.1 (Nat.le_of_ble_eq_true rfl) ⟨Nat.zero_le _, Nat.zero_le _⟩ xj_M_cost_11 ?_
    refine xr_ifeq (tgt := 21) hx hb xj_M_cost_14 rfl (fun h14 => ?_) (fun h14 => ?_)
    · -- 21
      refine lv_iconst (v := nI 1) hx hb xj_M_cost_21 (by decide) ?_
      refine va_put (D := D) (ci := 6) (v := .int (nI 1)) (ty := .int) (C := xn_M) (T := xn_TM) (N := 13) hx hb hgs xw_uM xn_tM xn_oM xn_nM hown hK.1 hP hD hS 0 rfl rfl 0 (by decide) (hgs _ xw_530) (fun _ h9 => h9) rfl (by decide +kernel) rfl rfl (Nat.le_of_ble_eq_true rfl) xj_M_cost_22 (fun H locs hP hD hS => ?_)
      have hP : va_P D xn_cl [(m0, .inr (6, [.int (nI 1), .int (nI gc), .int (nI dc), .ref m1, .ref m2, .ref m3, .ref m4, .ref m5, .ref m6, .ref m7, .ref m8, .ref m9, .ref m10]))] H := hP
      have hD : va_D A [(m0, .inr (6, [.int (nI 1), .int (nI gc), .int (nI dc), .ref m1, .ref m2, .ref m3, .ref m4, .ref m5, .ref m6, .ref m7, .ref m8, .ref m9, .ref m10]))] := hD
      refine lv_aload_n hx hb xj_M_cost_25 rfl (lv_at hl 0 rfl) ?_
      refine va_get (D := D) (ci := 6) (v := .int (nI 1)) (C := xn_M) (T := xn_TM) (N := 13) hx hb hgs xw_uM hown hK.1 hP 0 rfl rfl 0 (by decide) (hgs _ xw_530) (fun _ h9 => h9) rfl xj_M_cost_26 ?_
      refine lv_if_le (tgt := 36) hx hb xj_M_cost_29 rfl (fun h29 => absurd h29 (by decide +kernel)) (fun h29 => ?_)
      refine lv_iconst (v := nI 0) hx hb xj_M_cost_32 (by decide) ?_
      refine lv_goto (tgt := 42) hx hb xj_M_cost_33 rfl ?_
      exact hret (nI 0) (()) H locs _ ls trivial rfl hP hD hS xj_M_cost_42
    · -- 17
      refine lv_iconst (v := nI 0) hx hb xj_M_cost_17 (by decide) ?_
      refine lv_goto (tgt := 22) hx hb xj_M_cost_18 rfl ?_
      refine va_put (D := D) (ci := 6) (v := .int (nI 0)) (ty := .int) (C := xn_M) (T := xn_TM) (N := 13) hx hb hgs xw_uM xn_tM xn_oM xn_nM hown hK.1 hP hD hS 0 rfl rfl 0 (by decide) (hgs _ xw_530) (fun _ h9 => h9) rfl (by decide +kernel) rfl rfl (Nat.le_of_ble_eq_true rfl) xj_M_cost_22 (fun H locs hP hD hS => ?_)
      have hP : va_P D xn_cl [(m0, .inr (6, [.int (nI 0), .int (nI gc), .int (nI dc), .ref m1, .ref m2, .ref m3, .ref m4, .ref m5, .ref m6, .ref m7, .ref m8, .ref m9, .ref m10]))] H := hP
      have hD : va_D A [(m0, .inr (6, [.int (nI 0), .int (nI gc), .int (nI dc), .ref m1, .ref m2, .ref m3, .ref m4, .ref m5, .ref m6, .ref m7, .ref m8, .ref m9, .ref m10]))] := hD
      refine lv_aload_n hx hb xj_M_cost_25 rfl (lv_at hl 0 rfl) ?_
      refine va_get (D := D) (ci := 6) (v := .int (nI 0)) (C := xn_M) (T := xn_TM) (N := 13) hx hb hgs xw_uM hown hK.1 hP 0 rfl rfl 0 (by decide) (hgs _ xw_530) (fun _ h9 => h9) rfl xj_M_cost_26 ?_
      refine lv_if_le (tgt := 36) hx hb xj_M_cost_29 rfl (fun h29 => ?_) (fun h29 => absurd h29 (by decide +kernel))
      exact absurd hno (by rw [h6, h14]; decide)
set_option maxRecDepth 100000 in
set_option maxHeartbeats 4000000 in
theorem xt_M_shown_ok (l : Launch) (D : va_G) (cI cZ cJ : ClassId) (m0 m1 m2 m3 m4 m5 m6 m7 m8 m9 m10 : Nat) (cd : Int32) (gc dc : Nat) (P : Nat → Int32) (A0 : Nat → Int32) (ks kt : Nat) (hks : ks < dc) (hkt : kt < dc) (hg : gc ≤ 6) (hd : dc ≤ 12) : xc_Wi l xy_M_shown xb_M_shown 3 .int 2 0 0 [.ref m0, .int (nI ks), .int (nI kt)] D cI cZ cJ [(m0, .inr (6, [.int cd, .int (nI gc), .int (nI dc), .ref m1, .ref m2, .ref m3, .ref m4, .ref m5, .ref m6, .ref m7, .ref m8, .ref m9, .ref m10])), (m1, .inl (cI, 78, .inl P)), (m2, .inl (cI, 78, .inl A0))] (Unit) (fun r _ => r = xo_sh (xk_c gc P A0 ks kt) (xk_c gc P A0 ks ks)) (fun _ => [(m0, .inr (6, [.int (nI 0), .int (nI gc), .int (nI dc), .ref m1, .ref m2, .ref m3, .ref m4, .ref m5, .ref m6, .ref m7, .ref m8, .ref m9, .ref m10])), (m1, .inl (cI, 78, .inl P)), (m2, .inl (cI, 78, .inl A0))]) := by
  refine xc_Wi_of (by decide) (Nat.le_of_ble_eq_true rfl) ?_
  intro p e s m args below meth c Q ls A hAt hP hK hD hA hS hl hret
  obtain ⟨hx, hb, hml, hown, hts, hgs, hlk⟩ := id hAt
  have hT : ∀ w ∈ xw_g, w ∈ xc_ws xy_M_shown xb_M_shown 3 (some .int) := fun w h => List.mem_cons_of_mem _ h
  have hown : s.vm.findClass "WishLedgerModel" = some m.cls := hown
  obtain ⟨H, hH0⟩ : ∃ H, H = s.heap := ⟨_, rfl⟩
  obtain ⟨locs, hL0⟩ : ∃ locs : List Loc, locs = [] := ⟨_, rfl⟩
  have hP : va_P D xn_cl [(m0, .inr (6, [.int cd, .int (nI gc), .int (nI dc), .ref m1, .ref m2, .ref m3, .ref m4, .ref m5, .ref m6, .ref m7, .ref m8, .ref m9, .ref m10])), (m1, .inl (cI, 78, .inl P)), (m2, .inl (cI, 78, .inl A0))] H := by rw [hH0]; exact hP
  have hS : va_S A s.heap H locs := by rw [hH0, hL0]; exact hS
  suffices hgo : W p l e (xc_rm 2 0 0) s m args below meth c H locs 0 0 Q (F0 m 0 ls []) by rw [hH0, hL0] at hgo; exact hgo
  clear hH0 hL0
  have hl : lv_has ls 3 [(0, .ref m0), (1, .int (nI ks)), (2, .int (nI kt))] := hl
  refine lv_aload_n hx hb xj_M_shown_0 rfl (lv_at hl 0 rfl) ?_
  refine lv_aload_n hx hb xj_M_shown_1 rfl (lv_at hl 0 rfl) ?_
  refine lv_iload_n hx hb xj_M_shown_2 rfl (lv_at hl 1 rfl) ?_
  refine xc_callV (av := [.int (nI ks)]) (rest := [.ref m0]) hAt hT (xt_M_isDay l D cI cZ cJ m0 m1 m2 m3 m4 m5 m6 m7 m8 m9 m10 cd gc dc (nI ks) (by omega)) xw_590 xw_7 xw_593 xw_592 xs_M_isDay (C0 := xn_M) (q0 := 0) rfl rfl (na := 1) rfl (by decide +kernel) ⟨Nat.le_of_ble_eq_true rfl, Nat.le_of_ble_eq_true rfl⟩ (hP.sub (ws' := [(m0, .inr (6, [.int cd, .int (nI gc), .int (nI dc), .ref m1, .ref m2, .ref m3, .ref m4, .ref m5, .ref m6, .ref m7, .ref m8, .ref m9, .ref m10]))]) [0] rfl) hK hl.1 (Nat.le_of_ble_eq_true rfl) ⟨Nat.zero_le _, Nat.zero_le _⟩ xj_M_shown_3 ?_
  refine xr_top (y := nI 1) (by rw [xo_in_n hks (by omega)]; rfl) ?_
  refine xr_ifeqN (tgt := 21) hx hb (by omega) xj_M_shown_6 rfl (fun h6 => absurd h6 (by omega)) (fun h6 => ?_)
  refine lv_aload_n hx hb xj_M_shown_9 rfl (lv_at hl 0 rfl) ?_
  refine lv_iload_n hx hb xj_M_shown_10 rfl (lv_at hl 2 rfl) ?_
  refine xc_callV (av := [.int (nI kt)]) (rest := [.ref m0]) hAt hT (xt_M_isDay l D cI cZ cJ m0 m1 m2 m3 m4 m5 m6 m7 m8 m9 m10 cd gc dc (nI kt) (by omega)) xw_590 xw_7 xw_593 xw_592 xs_M_isDay (C0 := xn_M) (q0 := 0) rfl rfl (na := 1) rfl (by decide +kernel) ⟨Nat.le_of_ble_eq_true rfl, Nat.le_of_ble_eq_true rfl⟩ (hP.sub (ws' := [(m0, .inr (6, [.int cd, .int (nI gc), .int (nI dc), .ref m1, .ref m2, .ref m3, .ref m4, .ref m5, .ref m6, .ref m7, .ref m8, .ref m9, .ref m10]))]) [0] rfl) hK hl.1 (Nat.le_of_ble_eq_true rfl) ⟨Nat.zero_le _, Nat.zero_le _⟩ xj_M_shown_11 ?_
  refine xr_top (y := nI 1) (by rw [xo_in_n hkt (by omega)]; rfl) ?_
  refine xr_ifeqN (tgt := 21) hx hb (by omega) xj_M_shown_14 rfl (fun h14 => absurd h14 (by omega)) (fun h14 => ?_)
  refine lv_iconst (v := nI 0) hx hb xj_M_shown_17 (by decide) ?_
  refine lv_goto (tgt := 22) hx hb xj_M_shown_18 rfl ?_
  refine va_put (D := D) (ci := 6) (v := .int (nI 0)) (ty := .int) (C := xn_M) (T := xn_TM) (N := 13) hx hb hgs xw_uM xn_tM xn_oM xn_nM hown hK.1 hP hD hS 0 rfl rfl 0 (by decide) (hgs _ xw_530) (fun _ h9 => h9) rfl (by decide +kernel) rfl rfl (Nat.le_of_ble_eq_true rfl) xj_M_shown_22 (fun H locs hP hD hS => ?_)
  have hP : va_P D xn_cl [(m0, .inr (6, [.int (nI 0), .int (nI gc), .int (nI dc), .ref m1, .ref m2, .ref m3, .ref m4, .ref m5, .ref m6, .ref m7, .ref m8, .ref m9, .ref m10])), (m1, .inl (cI, 78, .inl P)), (m2, .inl (cI, 78, .inl A0))] H := hP
  have hD : va_D A [(m0, .inr (6, [.int (nI 0), .int (nI gc), .int (nI dc), .ref m1, .ref m2, .ref m3, .ref m4, .ref m5, .ref m6, .ref m7, .ref m8, .ref m9, .ref m10])), (m1, .inl (cI, 78, .inl P)), (m2, .inl (cI, 78, .inl A0))] := hD
  refine lv_aload_n hx hb xj_M_shown_25 rfl (lv_at hl 0 rfl) ?_
  refine va_get (D := D) (ci := 6) (v := .int (nI 0)) (C := xn_M) (T := xn_TM) (N := 13) hx hb hgs xw_uM hown hK.1 hP 0 rfl rfl 0 (by decide) (hgs _ xw_530) (fun _ h9 => h9) rfl xj_M_shown_26 ?_
  refine lv_if_le (tgt := 34) hx hb xj_M_shown_29 rfl (fun h29 => ?_) (fun h29 => absurd h29 (by decide +kernel))
  refine lv_aload_n hx hb xj_M_shown_34 rfl (lv_at hl 0 rfl) ?_
  refine lv_iload_n hx hb xj_M_shown_35 rfl (lv_at hl 1 rfl) ?_
  refine lv_iload_n hx hb xj_M_shown_36 rfl (lv_at hl 2 rfl) ?_
  refine xc_callV (av := [.int (nI ks), .int (nI kt)]) (rest := []) hAt hT (xt_M_costs l D cI cZ cJ m0 m1 m2 m3 m4 m5 m6 m7 m8 m9 m10 (nI 0) gc dc P A0 ks kt (by omega) (by omega) (by omega)) xw_606 xw_7 xw_609 xw_608 xs_M_costs (C0 := xn_M) (q0 := 0) rfl rfl (na := 2) rfl (by decide +kernel) ⟨Nat.le_of_ble_eq_true rfl, Nat.le_of_ble_eq_true rfl⟩ (hP.sub (ws' := [(m0, .inr (6, [.int (nI 0), .int (nI gc), .int (nI dc), .ref m1, .ref m2, .ref m3, .ref m4, .ref m5, .ref m6, .ref m7, .ref m8, .ref m9, .ref m10])), (m1, .inl (cI, 78, .inl P)), (m2, .inl (cI, 78, .inl A0))]) [0, 1, 2] rfl) hK hl.1 (Nat.le_of_ble_eq_true rfl) ⟨Nat.zero_le _, Nat.zero_le _⟩ xj_M_shown_37 ?_
  refine lv_aload_n hx hb xj_M_shown_40 rfl (lv_at hl 0 rfl) ?_
  refine lv_iload_n hx hb xj_M_shown_41 rfl (lv_at hl 1 rfl) ?_
  refine lv_iload_n hx hb xj_M_shown_42 rfl (lv_at hl 1 rfl) ?_
  refine xc_callV (av := [.int (nI ks), .int (nI ks)]) (rest := [.int (xk_c gc P A0 ks kt)]) hAt hT (xt_M_costs l D cI cZ cJ m0 m1 m2 m3 m4 m5 m6 m7 m8 m9 m10 (nI 0) gc dc P A0 ks ks (by omega) (by omega) (by omega)) xw_606 xw_7 xw_609 xw_608 xs_M_costs (C0 := xn_M) (q0 := 0) rfl rfl (na := 2) rfl (by decide +kernel) ⟨Nat.le_of_ble_eq_true rfl, Nat.le_of_ble_eq_true rfl⟩ (hP.sub (ws' := [(m0, .inr (6, [.int (nI 0), .int (nI gc), .int (nI dc), .ref m1, .ref m2, .ref m3, .ref m4, .ref m5, .ref m6, .ref m7, .ref m8, .ref m9, .ref m10])), (m1, .inl (cI, 78, .inl P)), (m2, .inl (cI, 78, .inl A0))]) [0, 1, 2] rfl) hK hl.1 (Nat.le_of_ble_eq_true rfl) ⟨Nat.zero_le _, Nat.zero_le _⟩ xj_M_shown_43 ?_
  refine lv_icmp_ge (tgt := 53) hx hb xj_M_shown_46 rfl (fun h46 => ?_) (fun h46 => ?_)
  · -- 53
    refine lv_aload_n hx hb xj_M_shown_53 rfl (lv_at hl 0 rfl) ?_
    refine lv_iload_n hx hb xj_M_shown_54 rfl (lv_at hl 1 rfl) ?_
    refine lv_iload_n hx hb xj_M_shown_55 rfl (lv_at hl 2 rfl) ?_
    refine xc_callV (av := [.int (nI ks), .int (nI kt)]) (rest := []) hAt hT (xt_M_costs l D cI cZ cJ m0 m1 m2 m3 m4 m5 m6 m7 m8 m9 m10 (nI 0) gc dc P A0 ks kt (by omega) (by omega) (by omega)) xw_606 xw_7 xw_609 xw_608 xs_M_costs (C0 := xn_M) (q0 := 0) rfl rfl (na := 2) rfl (by decide +kernel) ⟨Nat.le_of_ble_eq_true rfl, Nat.le_of_ble_eq_true rfl⟩ (hP.sub (ws' := [(m0, .inr (6, [.int (nI 0), .int (nI gc), .int (nI dc), .ref m1, .ref m2, .ref m3, .ref m4, .ref m5, .ref m6, .ref m7, .ref m8, .ref m9, .ref m10])), (m1, .inl (cI, 78, .inl P)), (m2, .inl (cI, 78, .inl A0))]) [0, 1, 2] rfl) hK hl.1 (Nat.le_of_ble_eq_true rfl) ⟨Nat.zero_le _, Nat.zero_le _⟩ xj_M_shown_56 ?_
    refine lv_aload_n hx hb xj_M_shown_59 rfl (lv_at hl 0 rfl) ?_
    refine lv_iload_n hx hb xj_M_shown_60 rfl (lv_at hl 1 rfl) ?_
    refine lv_iload_n hx hb xj_M_shown_61 rfl (lv_at hl 1 rfl) ?_
    refine xc_callV (av := [.int (nI ks), .int (nI ks)]) (rest := [.int (xk_c gc P A0 ks kt)]) hAt hT (xt_M_costs l D cI cZ cJ m0 m1 m2 m3 m4 m5 m6 m7 m8 m9 m10 (nI 0) gc dc P A0 ks ks (by omega) (by omega) (by omega)) xw_606 xw_7 xw_609 xw_608 xs_M_costs (C0 := xn_M) (q0 := 0) rfl rfl (na := 2) rfl (by decide +kernel) ⟨Nat.le_of_ble_eq_true rfl, Nat.le_of_ble_eq_true rfl⟩ (hP.sub (ws' := [(m0, .inr (6, [.int (nI 0), .int (nI gc), .int (nI dc), .ref m1, .ref m2, .ref m3, .ref m4, .ref m5, .ref m6, .ref m7, .ref m8, .ref m9, .ref m10])), (m1, .inl (cI, 78, .inl P)), (m2, .inl (cI, 78, .inl A0))]) [0, 1, 2] rfl) hK hl.1 (Nat.le_of_ble_eq_true rfl) ⟨Nat.zero_le _, Nat.zero_le _⟩ xj_M_shown_62 ?_
    refine lv_icmp_ne (tgt := 72) hx hb xj_M_shown_65 rfl (fun h65 => ?_) (fun h65 => ?_)
    · -- 72
      refine lv_iconst (v := nI 0) hx hb xj_M_shown_72 (by decide) ?_
      exact hret (nI 0) (()) H locs _ ls (((if_pos h46).trans (if_neg h65)).symm) rfl hP hD hS xj_M_shown_73
    · -- 68
      refine lv_iconst (v := nI 1) hx hb xj_M_shown_68 (by decide) ?_
      refine lv_goto (tgt := 73) hx hb xj_M_shown_69 rfl ?_
      exact hret (nI 1) (()) H locs _ ls (((if_pos h46).trans (if_pos h65)).symm) rfl hP hD hS xj_M_shown_73
  · -- 49
    refine lv_iconst (v := nI 2) hx hb xj_M_shown_49 (by decide) ?_
    refine lv_goto (tgt := 73) hx hb xj_M_shown_50 rfl ?_
    exact hret (nI 2) (()) H locs _ ls ((if_neg h46).symm) rfl hP hD hS xj_M_shown_73
set_option maxRecDepth 100000 in
set_option maxHeartbeats 4000000 in
theorem xt_M_shown_no (l : Launch) (D : va_G) (cI cZ cJ : ClassId) (m0 m1 m2 m3 m4 m5 m6 m7 m8 m9 m10 : Nat) (cd : Int32) (gc dc : Nat) (s1 t1 : Int32) (hno : (xo_in s1 dc && xo_in t1 dc) = false) (hd : dc ≤ 12) : xc_Wi l xy_M_shown xb_M_shown 3 .int 2 0 0 [.ref m0, .int s1, .int t1] D cI cZ cJ [(m0, .inr (6, [.int cd, .int (nI gc), .int (nI dc), .ref m1, .ref m2, .ref m3, .ref m4, .ref m5, .ref m6, .ref m7, .ref m8, .ref m9, .ref m10]))] (Unit) (fun _ _ => True) (fun _ => [(m0, .inr (6, [.int (nI 1), .int (nI gc), .int (nI dc), .ref m1, .ref m2, .ref m3, .ref m4, .ref m5, .ref m6, .ref m7, .ref m8, .ref m9, .ref m10]))]) := by
  refine xc_Wi_of (by decide) (Nat.le_of_ble_eq_true rfl) ?_
  intro p e s m args below meth c Q ls A hAt hP hK hD hA hS hl hret
  obtain ⟨hx, hb, hml, hown, hts, hgs, hlk⟩ := id hAt
  have hT : ∀ w ∈ xw_g, w ∈ xc_ws xy_M_shown xb_M_shown 3 (some .int) := fun w h => List.mem_cons_of_mem _ h
  have hown : s.vm.findClass "WishLedgerModel" = some m.cls := hown
  obtain ⟨H, hH0⟩ : ∃ H, H = s.heap := ⟨_, rfl⟩
  obtain ⟨locs, hL0⟩ : ∃ locs : List Loc, locs = [] := ⟨_, rfl⟩
  have hP : va_P D xn_cl [(m0, .inr (6, [.int cd, .int (nI gc), .int (nI dc), .ref m1, .ref m2, .ref m3, .ref m4, .ref m5, .ref m6, .ref m7, .ref m8, .ref m9, .ref m10]))] H := by rw [hH0]; exact hP
  have hS : va_S A s.heap H locs := by rw [hH0, hL0]; exact hS
  suffices hgo : W p l e (xc_rm 2 0 0) s m args below meth c H locs 0 0 Q (F0 m 0 ls []) by rw [hH0, hL0] at hgo; exact hgo
  clear hH0 hL0
  have hl : lv_has ls 3 [(0, .ref m0), (1, .int s1), (2, .int t1)] := hl
  refine lv_aload_n hx hb xj_M_shown_0 rfl (lv_at hl 0 rfl) ?_
  refine lv_aload_n hx hb xj_M_shown_1 rfl (lv_at hl 0 rfl) ?_
  refine lv_iload_n hx hb xj_M_shown_2 rfl (lv_at hl 1 rfl) ?_
  refine xc_callV (av := [.int s1]) (rest := [.ref m0]) hAt hT (xt_M_isDay l D cI cZ cJ m0 m1 m2 m3 m4 m5 m6 m7 m8 m9 m10 cd gc dc s1 (by omega)) xw_590 xw_7 xw_593 xw_592 xs_M_isDay (C0 := xn_M) (q0 := 0) rfl rfl (na := 1) rfl (by decide +kernel) ⟨Nat.le_of_ble_eq_true rfl, Nat.le_of_ble_eq_true rfl⟩ (hP.sub (ws' := [(m0, .inr (6, [.int cd, .int (nI gc), .int (nI dc), .ref m1, .ref m2, .ref m3, .ref m4, .ref m5, .ref m6, .ref m7, .ref m8, .ref m9, .ref m10]))]) [0] rfl) hK hl.1 (Nat.le_of_ble_eq_true rfl) ⟨Nat.zero_le _, Nat.zero_le _⟩ xj_M_shown_3 ?_
  refine xr_ifeq (tgt := 21) hx hb xj_M_shown_6 rfl (fun h6 => ?_) (fun h6 => ?_)
  · -- 21
    refine lv_iconst (v := nI 1) hx hb xj_M_shown_21 (by decide) ?_
    refine va_put (D := D) (ci := 6) (v := .int (nI 1)) (ty := .int) (C := xn_M) (T := xn_TM) (N := 13) hx hb hgs xw_uM xn_tM xn_oM xn_nM hown hK.1 hP hD hS 0 rfl rfl 0 (by decide) (hgs _ xw_530) (fun _ h9 => h9) rfl (by decide +kernel) rfl rfl (Nat.le_of_ble_eq_true rfl) xj_M_shown_22 (fun H locs hP hD hS => ?_)
    have hP : va_P D xn_cl [(m0, .inr (6, [.int (nI 1), .int (nI gc), .int (nI dc), .ref m1, .ref m2, .ref m3, .ref m4, .ref m5, .ref m6, .ref m7, .ref m8, .ref m9, .ref m10]))] H := hP
    have hD : va_D A [(m0, .inr (6, [.int (nI 1), .int (nI gc), .int (nI dc), .ref m1, .ref m2, .ref m3, .ref m4, .ref m5, .ref m6, .ref m7, .ref m8, .ref m9, .ref m10]))] := hD
    refine lv_aload_n hx hb xj_M_shown_25 rfl (lv_at hl 0 rfl) ?_
    refine va_get (D := D) (ci := 6) (v := .int (nI 1)) (C := xn_M) (T := xn_TM) (N := 13) hx hb hgs xw_uM hown hK.1 hP 0 rfl rfl 0 (by decide) (hgs _ xw_530) (fun _ h9 => h9) rfl xj_M_shown_26 ?_
    refine lv_if_le (tgt := 34) hx hb xj_M_shown_29 rfl (fun h29 => absurd h29 (by decide +kernel)) (fun h29 => ?_)
    refine lv_iconst (v := nI 0) hx hb xj_M_shown_32 (by decide) ?_
    exact hret (nI 0) (()) H locs _ ls trivial rfl hP hD hS xj_M_shown_33
  · -- 9
    refine lv_aload_n hx hb xj_M_shown_9 rfl (lv_at hl 0 rfl) ?_
    refine lv_iload_n hx hb xj_M_shown_10 rfl (lv_at hl 2 rfl) ?_
    refine xc_callV (av := [.int t1]) (rest := [.ref m0]) hAt hT (xt_M_isDay l D cI cZ cJ m0 m1 m2 m3 m4 m5 m6 m7 m8 m9 m10 cd gc dc t1 (by omega)) xw_590 xw_7 xw_593 xw_592 xs_M_isDay (C0 := xn_M) (q0 := 0) rfl rfl (na := 1) rfl (by decide +kernel) ⟨Nat.le_of_ble_eq_true rfl, Nat.le_of_ble_eq_true rfl⟩ (hP.sub (ws' := [(m0, .inr (6, [.int cd, .int (nI gc), .int (nI dc), .ref m1, .ref m2, .ref m3, .ref m4, .ref m5, .ref m6, .ref m7, .ref m8, .ref m9, .ref m10]))]) [0] rfl) hK hl.1 (Nat.le_of_ble_eq_true rfl) ⟨Nat.zero_le _, Nat.zero_le _⟩ xj_M_shown_11 ?_
    refine xr_ifeq (tgt := 21) hx hb xj_M_shown_14 rfl (fun h14 => ?_) (fun h14 => ?_)
    · -- 21
      refine lv_iconst (v := nI 1) hx hb xj_M_shown_21 (by decide) ?_
      refine va_put (D := D) (ci := 6) (v := .int (nI 1)) (ty := .int) (C := xn_M) (T := xn_TM) (N := 13) hx hb hgs xw_uM xn_tM xn_oM xn_nM hown hK.1 hP hD hS 0 rfl rfl 0 (by decide) (hgs _ xw_530) (fun _ h9 => h9) rfl (by decide +kernel) rfl rfl (Nat.le_of_ble_eq_true rfl) xj_M_shown_22 (fun H locs hP hD hS => ?_)
      have hP : va_P D xn_cl [(m0, .inr (6, [.int (nI 1), .int (nI gc), .int (nI dc), .ref m1, .ref m2, .ref m3, .ref m4, .ref m5, .ref m6, .ref m7, .ref m8, .ref m9, .ref m10]))] H := hP
      have hD : va_D A [(m0, .inr (6, [.int (nI 1), .int (nI gc), .int (nI dc), .ref m1, .ref m2, .ref m3, .ref m4, .ref m5, .ref m6, .ref m7, .ref m8, .ref m9, .ref m10]))] := hD
      refine lv_aload_n hx hb xj_M_shown_25 rfl (lv_at hl 0 rfl) ?_
      refine va_get (D := D) (ci := 6) (v := .int (nI 1)) (C := xn_M) (T := xn_TM) (N := 13) hx hb hgs xw_uM hown hK.1 hP 0 rfl rfl 0 (by decide) (hgs _ xw_530) (fun _ h9 => h9) rfl xj_M_shown_26 ?_
      refine lv_if_le (tgt := 34) hx hb xj_M_shown_29 rfl (fun h29 => absurd h29 (by decide +kernel)) (fun h29 => ?_)
      refine lv_iconst (v := nI 0) hx hb xj_M_shown_32 (by decide) ?_
      exact hret (nI 0) (()) H locs _ ls trivial rfl hP hD hS xj_M_shown_33
    · -- 17
      refine lv_iconst (v := nI 0) hx hb xj_M_shown_17 (by decide) ?_
      refine lv_goto (tgt := 22) hx hb xj_M_shown_18 rfl ?_
      refine va_put (D := D) (ci := 6) (v := .int (nI 0)) (ty := .int) (C := xn_M) (T := xn_TM) (N := 13) hx hb hgs xw_uM xn_tM xn_oM xn_nM hown hK.1 hP hD hS 0 rfl rfl 0 (by decide) (hgs _ xw_530) (fun _ h9 => h9) rfl (by decide +kernel) rfl rfl (Nat.le_of_ble_eq_true rfl) xj_M_shown_22 (fun H locs hP hD hS => ?_)
      have hP : va_P D xn_cl [(m0, .inr (6, [.int (nI 0), .int (nI gc), .int (nI dc), .ref m1, .ref m2, .ref m3, .ref m4, .ref m5, .ref m6, .ref m7, .ref m8, .ref m9, .ref m10]))] H := hP
      have hD : va_D A [(m0, .inr (6, [.int (nI 0), .int (nI gc), .int (nI dc), .ref m1, .ref m2, .ref m3, .ref m4, .ref m5, .ref m6, .ref m7, .ref m8, .ref m9, .ref m10]))] := hD
      refine lv_aload_n hx hb xj_M_shown_25 rfl (lv_at hl 0 rfl) ?_
      refine va_get (D := D) (ci := 6) (v := .int (nI 0)) (C := xn_M) (T := xn_TM) (N := 13) hx hb hgs xw_uM hown hK.1 hP 0 rfl rfl 0 (by decide) (hgs _ xw_530) (fun _ h9 => h9) rfl xj_M_shown_26 ?_
      refine lv_if_le (tgt := 34) hx hb xj_M_shown_29 rfl (fun h29 => ?_) (fun h29 => absurd h29 (by decide +kernel))
      exact absurd hno (by rw [h6, h14]; decide)
set_option maxRecDepth 100000 in
set_option maxHeartbeats 4000000 in
theorem xt_M_chain_ok (l : Launch) (D : va_G) (cI cZ cJ : ClassId) (m0 m1 m2 m3 m4 m5 m6 m7 m8 m9 m10 : Nat) (cd : Int32) (gc dc : Nat) (P : Nat → Int32) (A0 : Nat → Int32) (gd : Nat → Bool) (bd : Nat → Bool) (ch : Nat → Bool) (st : Nat → Int32) (lf : Nat → Bool) (ks kt : Nat) (hks : ks < dc) (hkt : kt < dc) (hg : gc ≤ 6) (hd : dc ≤ 12) : xc_Wi l xy_M_chain xb_M_chain 3 .int 3 0 0 [.ref m0, .int (nI ks), .int (nI kt)] D cI cZ cJ [(m0, .inr (6, [.int cd, .int (nI gc), .int (nI dc), .ref m1, .ref m2, .ref m3, .ref m4, .ref m5, .ref m6, .ref m7, .ref m8, .ref m9, .ref m10])), (m1, .inl (cI, 78, .inl P)), (m2, .inl (cI, 78, .inl A0)), (m5, .inl (cZ, 169, .inl (xf_z gd))), (m6, .inl (cZ, 169, .inl (xf_z bd))), (m7, .inl (cZ, 169, .inl (xf_z ch))), (m8, .inl (cI, 169, .inl st)), (m9, .inl (cZ, 13, .inl (xf_z lf)))] (Unit) (fun r _ => r = if (xm_K dc (xm_L dc lf) (xm_G (xk_c gc P A0) (lN 1) (lN 1) dc gd) ch st).1 (13 * ks + kt) = true then (xm_K dc (xm_L dc lf) (xm_G (xk_c gc P A0) (lN 1) (lN 1) dc gd) ch st).2.1 (13 * ks + kt) else -1) (fun _ => [(m0, .inr (6, [.int (nI 0), .int (nI gc), .int (nI dc), .ref m1, .ref m2, .ref m3, .ref m4, .ref m5, .ref m6, .ref m7, .ref m8, .ref m9, .ref m10])), (m1, .inl (cI, 78, .inl P)), (m2, .inl (cI, 78, .inl A0)), (m5, .inl (cZ, 169, .inl (xf_z (xm_G (xk_c gc P A0) (lN 1) (lN 1) dc gd)))), (m6, .inl (cZ, 169, .inl (xf_z (xm_B (xk_c gc P A0) (lN 1) (lN 1) dc bd)))), (m7, .inl (cZ, 169, .inl (xf_z ((xm_K dc (xm_L dc lf) (xm_G (xk_c gc P A0) (lN 1) (lN 1) dc gd) ch st).1)))), (m8, .inl (cI, 169, .inl ((xm_K dc (xm_L dc lf) (xm_G (xk_c gc P A0) (lN 1) (lN 1) dc gd) ch st).2.1))), (m9, .inl (cZ, 13, .inl (xf_z (xm_L dc lf))))]) := by
  refine xc_Wi_of (by decide) (Nat.le_of_ble_eq_true rfl) ?_
  intro p e s m args below meth c Q ls A hAt hP hK hD hA hS hl hret
  obtain ⟨hx, hb, hml, hown, hts, hgs, hlk⟩ := id hAt
  have hT : ∀ w ∈ xw_g, w ∈ xc_ws xy_M_chain xb_M_chain 3 (some .int) := fun w h => List.mem_cons_of_mem _ h
  have hown : s.vm.findClass "WishLedgerModel" = some m.cls := hown
  obtain ⟨H, hH0⟩ : ∃ H, H = s.heap := ⟨_, rfl⟩
  obtain ⟨locs, hL0⟩ : ∃ locs : List Loc, locs = [] := ⟨_, rfl⟩
  have hP : va_P D xn_cl [(m0, .inr (6, [.int cd, .int (nI gc), .int (nI dc), .ref m1, .ref m2, .ref m3, .ref m4, .ref m5, .ref m6, .ref m7, .ref m8, .ref m9, .ref m10])), (m1, .inl (cI, 78, .inl P)), (m2, .inl (cI, 78, .inl A0)), (m5, .inl (cZ, 169, .inl (xf_z gd))), (m6, .inl (cZ, 169, .inl (xf_z bd))), (m7, .inl (cZ, 169, .inl (xf_z ch))), (m8, .inl (cI, 169, .inl st)), (m9, .inl (cZ, 13, .inl (xf_z lf)))] H := by rw [hH0]; exact hP
  have hS : va_S A s.heap H locs := by rw [hH0, hL0]; exact hS
  suffices hgo : W p l e (xc_rm 3 0 0) s m args below meth c H locs 0 0 Q (F0 m 0 ls []) by rw [hH0, hL0] at hgo; exact hgo
  clear hH0 hL0
  have hl : lv_has ls 3 [(0, .ref m0), (1, .int (nI ks)), (2, .int (nI kt))] := hl
  refine lv_aload_n hx hb xj_M_chain_0 rfl (lv_at hl 0 rfl) ?_
  refine lv_aload_n hx hb xj_M_chain_1 rfl (lv_at hl 0 rfl) ?_
  refine lv_iload_n hx hb xj_M_chain_2 rfl (lv_at hl 1 rfl) ?_
  refine xc_callV (av := [.int (nI ks)]) (rest := [.ref m0]) hAt hT (xt_M_isDay l D cI cZ cJ m0 m1 m2 m3 m4 m5 m6 m7 m8 m9 m10 cd gc dc (nI ks) (by omega)) xw_590 xw_7 xw_593 xw_592 xs_M_isDay (C0 := xn_M) (q0 := 0) rfl rfl (na := 1) rfl (by decide +kernel) ⟨Nat.le_of_ble_eq_true rfl, Nat.le_of_ble_eq_true rfl⟩ (hP.sub (ws' := [(m0, .inr (6, [.int cd, .int (nI gc), .int (nI dc), .ref m1, .ref m2, .ref m3, .ref m4, .ref m5, .ref m6, .ref m7, .ref m8, .ref m9, .ref m10]))]) [0] rfl) hK hl.1 (Nat.le_of_ble_eq_true rfl) ⟨Nat.zero_le _, Nat.zero_le _⟩ xj_M_chain_3 ?_
  refine xr_top (y := nI 1) (by rw [xo_in_n hks (by omega)]; rfl) ?_
  refine xr_ifeqN (tgt := 21) hx hb (by omega) xj_M_chain_6 rfl (fun h6 => absurd h6 (by omega)) (fun h6 => ?_)
  refine lv_aload_n hx hb xj_M_chain_9 rfl (lv_at hl 0 rfl) ?_
  refine lv_iload_n hx hb xj_M_chain_10 rfl (lv_at hl 2 rfl) ?_
  refine xc_callV (av := [.int (nI kt)]) (rest := [.ref m0]) hAt hT (xt_M_isDay l D cI cZ cJ m0 m1 m2 m3 m4 m5 m6 m7 m8 m9 m10 cd gc dc (nI kt) (by omega)) xw_590 xw_7 xw_593 xw_592 xs_M_isDay (C0 := xn_M) (q0 := 0) rfl rfl (na := 1) rfl (by decide +kernel) ⟨Nat.le_of_ble_eq_true rfl, Nat.le_of_ble_eq_true rfl⟩ (hP.sub (ws' := [(m0, .inr (6, [.int cd, .int (nI gc), .int (nI dc), .ref m1, .ref m2, .ref m3, .ref m4, .ref m5, .ref m6, .ref m7, .ref m8, .ref m9, .ref m10]))]) [0] rfl) hK hl.1 (Nat.le_of_ble_eq_true rfl) ⟨Nat.zero_le _, Nat.zero_le _⟩ xj_M_chain_11 ?_
  refine xr_top (y := nI 1) (by rw [xo_in_n hkt (by omega)]; rfl) ?_
  refine xr_ifeqN (tgt := 21) hx hb (by omega) xj_M_chain_14 rfl (fun h14 => absurd h14 (by omega)) (fun h14 => ?_)
  refine lv_iconst (v := nI 0) hx hb xj_M_chain_17 (by decide) ?_
  refine lv_goto (tgt := 22) hx hb xj_M_chain_18 rfl ?_
  refine va_put (D := D) (ci := 6) (v := .int (nI 0)) (ty := .int) (C := xn_M) (T := xn_TM) (N := 13) hx hb hgs xw_uM xn_tM xn_oM xn_nM hown hK.1 hP hD hS 0 rfl rfl 0 (by decide) (hgs _ xw_530) (fun _ h9 => h9) rfl (by decide +kernel) rfl rfl (Nat.le_of_ble_eq_true rfl) xj_M_chain_22 (fun H locs hP hD hS => ?_)
  have hP : va_P D xn_cl [(m0, .inr (6, [.int (nI 0), .int (nI gc), .int (nI dc), .ref m1, .ref m2, .ref m3, .ref m4, .ref m5, .ref m6, .ref m7, .ref m8, .ref m9, .ref m10])), (m1, .inl (cI, 78, .inl P)), (m2, .inl (cI, 78, .inl A0)), (m5, .inl (cZ, 169, .inl (xf_z gd))), (m6, .inl (cZ, 169, .inl (xf_z bd))), (m7, .inl (cZ, 169, .inl (xf_z ch))), (m8, .inl (cI, 169, .inl st)), (m9, .inl (cZ, 13, .inl (xf_z lf)))] H := hP
  have hD : va_D A [(m0, .inr (6, [.int (nI 0), .int (nI gc), .int (nI dc), .ref m1, .ref m2, .ref m3, .ref m4, .ref m5, .ref m6, .ref m7, .ref m8, .ref m9, .ref m10])), (m1, .inl (cI, 78, .inl P)), (m2, .inl (cI, 78, .inl A0)), (m5, .inl (cZ, 169, .inl (xf_z gd))), (m6, .inl (cZ, 169, .inl (xf_z bd))), (m7, .inl (cZ, 169, .inl (xf_z ch))), (m8, .inl (cI, 169, .inl st)), (m9, .inl (cZ, 13, .inl (xf_z lf)))] := hD
  refine lv_aload_n hx hb xj_M_chain_25 rfl (lv_at hl 0 rfl) ?_
  refine va_get (D := D) (ci := 6) (v := .int (nI 0)) (C := xn_M) (T := xn_TM) (N := 13) hx hb hgs xw_uM hown hK.1 hP 0 rfl rfl 0 (by decide) (hgs _ xw_530) (fun _ h9 => h9) rfl xj_M_chain_26 ?_
  refine lv_if_le (tgt := 34) hx hb xj_M_chain_29 rfl (fun h29 => ?_) (fun h29 => absurd h29 (by decide +kernel))
  refine lv_aload_n hx hb xj_M_chain_34 rfl (lv_at hl 0 rfl) ?_
  refine xc_wVv (av := []) (rest := []) (wr := []) hAt hT (xt_M_look l D cI cZ cJ m0 m1 m2 m3 m4 m5 m6 m7 m8 m9 m10 (nI 0) gc dc P A0 gd bd ch st lf (by omega) (by omega)) xw_618 xw_7 xw_621 xw_620 xs_M_look (C0 := xn_M) (q0 := 0) rfl rfl (na := 0) rfl (by decide +kernel) ⟨Nat.le_of_ble_eq_true rfl, Nat.le_of_ble_eq_true rfl⟩ hP hD hS hA [0, 1, 2, 3, 4, 5, 6, 7] [] rfl rfl (by decide) (by decide) (by decide) hK hl.1 (Nat.le_of_ble_eq_true rfl) ⟨Nat.zero_le _, Nat.zero_le _⟩ xj_M_chain_35 (fun _ H locs _ hP hD hS => ?_)
  have hP : va_P D xn_cl [(m0, .inr (6, [.int (nI 0), .int (nI gc), .int (nI dc), .ref m1, .ref m2, .ref m3, .ref m4, .ref m5, .ref m6, .ref m7, .ref m8, .ref m9, .ref m10])), (m1, .inl (cI, 78, .inl P)), (m2, .inl (cI, 78, .inl A0)), (m5, .inl (cZ, 169, .inl (xf_z (xm_G (xk_c gc P A0) (lN 1) (lN 1) dc gd)))), (m6, .inl (cZ, 169, .inl (xf_z (xm_B (xk_c gc P A0) (lN 1) (lN 1) dc bd)))), (m7, .inl (cZ, 169, .inl (xf_z ((xm_K dc (xm_L dc lf) (xm_G (xk_c gc P A0) (lN 1) (lN 1) dc gd) ch st).1)))), (m8, .inl (cI, 169, .inl ((xm_K dc (xm_L dc lf) (xm_G (xk_c gc P A0) (lN 1) (lN 1) dc gd) ch st).2.1))), (m9, .inl (cZ, 13, .inl (xf_z (xm_L dc lf))))] H := hP
  have hD : va_D A [(m0, .inr (6, [.int (nI 0), .int (nI gc), .int (nI dc), .ref m1, .ref m2, .ref m3, .ref m4, .ref m5, .ref m6, .ref m7, .ref m8, .ref m9, .ref m10])), (m1, .inl (cI, 78, .inl P)), (m2, .inl (cI, 78, .inl A0)), (m5, .inl (cZ, 169, .inl (xf_z (xm_G (xk_c gc P A0) (lN 1) (lN 1) dc gd)))), (m6, .inl (cZ, 169, .inl (xf_z (xm_B (xk_c gc P A0) (lN 1) (lN 1) dc bd)))), (m7, .inl (cZ, 169, .inl (xf_z ((xm_K dc (xm_L dc lf) (xm_G (xk_c gc P A0) (lN 1) (lN 1) dc gd) ch st).1)))), (m8, .inl (cI, 169, .inl ((xm_K dc (xm_L dc lf) (xm_G (xk_c gc P A0) (lN 1) (lN 1) dc gd) ch st).2.1))), (m9, .inl (cZ, 13, .inl (xf_z (xm_L dc lf))))] := hD
  refine lv_aload_n hx hb xj_M_chain_38 rfl (lv_at hl 0 rfl) ?_
  refine va_get (D := D) (ci := 6) (v := .ref m7) (C := xn_M) (T := xn_TM) (N := 13) hx hb hgs xw_uM hown hK.1 hP 0 rfl rfl 9 (by decide) (hgs _ xw_539) (fun _ h9 => h9) rfl xj_M_chain_39 ?_
  refine lv_bipush (v := nI 13) hx hb xj_M_chain_42 (by decide) ?_
  refine lv_iload_n hx hb xj_M_chain_44 rfl (lv_at hl 1 rfl) ?_
  refine xr_imul hx hb xj_M_chain_45 ?_
  refine lv_iload_n hx hb xj_M_chain_46 rfl (lv_at hl 2 rfl) ?_
  refine xr_iadd hx hb xj_M_chain_47 ?_
  refine xr_zald hx hb hK.1 hP 5 1 rfl rfl (by omega) (by decide) xj_M_chain_48 ?_
  refine xr_top (y := xf_bI ((((xm_K dc (xm_L dc lf) (xm_G (xk_c gc P A0) (lN 1) (lN 1) dc gd) ch st).1)) ((13 * ks) + kt))) rfl ?_
  refine xr_ifeq (tgt := 66) hx hb xj_M_chain_49 rfl (fun h49 => ?_) (fun h49 => ?_)
  · -- 66
    refine lv_iconst (v := (-1)) hx hb xj_M_chain_66 (by decide) ?_
    exact hret ((-1)) (()) H locs _ ls ((if_neg (by rw [h49]; decide)).symm) rfl hP hD hS xj_M_chain_67
  · -- 52
    refine lv_aload_n hx hb xj_M_chain_52 rfl (lv_at hl 0 rfl) ?_
    refine va_get (D := D) (ci := 6) (v := .ref m8) (C := xn_M) (T := xn_TM) (N := 13) hx hb hgs xw_uM hown hK.1 hP 0 rfl rfl 10 (by decide) (hgs _ xw_540) (fun _ h9 => h9) rfl xj_M_chain_53 ?_
    refine lv_bipush (v := nI 13) hx hb xj_M_chain_56 (by decide) ?_
    refine lv_iload_n hx hb xj_M_chain_58 rfl (lv_at hl 1 rfl) ?_
    refine xr_imul hx hb xj_M_chain_59 ?_
    refine lv_iload_n hx hb xj_M_chain_60 rfl (lv_at hl 2 rfl) ?_
    refine xr_iadd hx hb xj_M_chain_61 ?_
    refine xr_iald hx hb hK.1 hP 6 0 rfl rfl (by omega) (by decide) xj_M_chain_62 ?_
    refine lv_goto (tgt := 67) hx hb xj_M_chain_63 rfl ?_
    exact hret (((xm_K dc (xm_L dc lf) (xm_G (xk_c gc P A0) (lN 1) (lN 1) dc gd) ch st).2.1) ((13 * ks) + kt)) (()) H locs _ ls ((if_pos h49).symm) rfl hP hD hS xj_M_chain_67
set_option maxRecDepth 100000 in
set_option maxHeartbeats 4000000 in
theorem xt_M_chain_no (l : Launch) (D : va_G) (cI cZ cJ : ClassId) (m0 m1 m2 m3 m4 m5 m6 m7 m8 m9 m10 : Nat) (cd : Int32) (gc dc : Nat) (s1 t1 : Int32) (hno : (xo_in s1 dc && xo_in t1 dc) = false) (hd : dc ≤ 12) : xc_Wi l xy_M_chain xb_M_chain 3 .int 2 0 0 [.ref m0, .int s1, .int t1] D cI cZ cJ [(m0, .inr (6, [.int cd, .int (nI gc), .int (nI dc), .ref m1, .ref m2, .ref m3, .ref m4, .ref m5, .ref m6, .ref m7, .ref m8, .ref m9, .ref m10]))] (Unit) (fun _ _ => True) (fun _ => [(m0, .inr (6, [.int (nI 1), .int (nI gc), .int (nI dc), .ref m1, .ref m2, .ref m3, .ref m4, .ref m5, .ref m6, .ref m7, .ref m8, .ref m9, .ref m10]))]) := by
  refine xc_Wi_of (by decide) (Nat.le_of_ble_eq_true rfl) ?_
  intro p e s m args below meth c Q ls A hAt hP hK hD hA hS hl hret
  obtain ⟨hx, hb, hml, hown, hts, hgs, hlk⟩ := id hAt
  have hT : ∀ w ∈ xw_g, w ∈ xc_ws xy_M_chain xb_M_chain 3 (some .int) := fun w h => List.mem_cons_of_mem _ h
  have hown : s.vm.findClass "WishLedgerModel" = some m.cls := hown
  obtain ⟨H, hH0⟩ : ∃ H, H = s.heap := ⟨_, rfl⟩
  obtain ⟨locs, hL0⟩ : ∃ locs : List Loc, locs = [] := ⟨_, rfl⟩
  have hP : va_P D xn_cl [(m0, .inr (6, [.int cd, .int (nI gc), .int (nI dc), .ref m1, .ref m2, .ref m3, .ref m4, .ref m5, .ref m6, .ref m7, .ref m8, .ref m9, .ref m10]))] H := by rw [hH0]; exact hP
  have hS : va_S A s.heap H locs := by rw [hH0, hL0]; exact hS
  suffices hgo : W p l e (xc_rm 2 0 0) s m args below meth c H locs 0 0 Q (F0 m 0 ls []) by rw [hH0, hL0] at hgo; exact hgo
  clear hH0 hL0
  have hl : lv_has ls 3 [(0, .ref m0), (1, .int s1), (2, .int t1)] := hl
  refine lv_aload_n hx hb xj_M_chain_0 rfl (lv_at hl 0 rfl) ?_
  refine lv_aload_n hx hb xj_M_chain_1 rfl (lv_at hl 0 rfl) ?_
  refine lv_iload_n hx hb xj_M_chain_2 rfl (lv_at hl 1 rfl) ?_
  refine xc_callV (av := [.int s1]) (rest := [.ref m0]) hAt hT (xt_M_isDay l D cI cZ cJ m0 m1 m2 m3 m4 m5 m6 m7 m8 m9 m10 cd gc dc s1 (by omega)) xw_590 xw_7 xw_593 xw_592 xs_M_isDay (C0 := xn_M) (q0 := 0) rfl rfl (na := 1) rfl (by decide +kernel) ⟨Nat.le_of_ble_eq_true rfl, Nat.le_of_ble_eq_true rfl⟩ (hP.sub (ws' := [(m0, .inr (6, [.int cd, .int (nI gc), .int (nI dc), .ref m1, .ref m2, .ref m3, .ref m4, .ref m5, .ref m6, .ref m7, .ref m8, .ref m9, .ref m10]))]) [0] rfl) hK hl.1 (Nat.le_of_ble_eq_true rfl) ⟨Nat.zero_le _, Nat.zero_le _⟩ xj_M_chain_3 ?_
  refine xr_ifeq (tgt := 21) hx hb xj_M_chain_6 rfl (fun h6 => ?_) (fun h6 => ?_)
  · -- 21
    refine lv_iconst (v := nI 1) hx hb xj_M_chain_21 (by decide) ?_
    refine va_put (D := D) (ci := 6) (v := .int (nI 1)) (ty := .int) (C := xn_M) (T := xn_TM) (N := 13) hx hb hgs xw_uM xn_tM xn_oM xn_nM hown hK.1 hP hD hS 0 rfl rfl 0 (by decide) (hgs _ xw_530) (fun _ h9 => h9) rfl (by decide +kernel) rfl rfl (Nat.le_of_ble_eq_true rfl) xj_M_chain_22 (fun H locs hP hD hS => ?_)
    have hP : va_P D xn_cl [(m0, .inr (6, [.int (nI 1), .int (nI gc), .int (nI dc), .ref m1, .ref m2, .ref m3, .ref m4, .ref m5, .ref m6, .ref m7, .ref m8, .ref m9, .ref m10]))] H := hP
    have hD : va_D A [(m0, .inr (6, [.int (nI 1), .int (nI gc), .int (nI dc), .ref m1, .ref m2, .ref m3, .ref m4, .ref m5, .ref m6, .ref m7, .ref m8, .ref m9, .ref m10]))] := hD
    refine lv_aload_n hx hb xj_M_chain_25 rfl (lv_at hl 0 rfl) ?_
    refine va_get (D := D) (ci := 6) (v := .int (nI 1)) (C := xn_M) (T := xn_TM) (N := 13) hx hb hgs xw_uM hown hK.1 hP 0 rfl rfl 0 (by decide) (hgs _ xw_530) (fun _ h9 => h9) rfl xj_M_chain_26 ?_
    refine lv_if_le (tgt := 34) hx hb xj_M_chain_29 rfl (fun h29 => absurd h29 (by decide +kernel)) (fun h29 => ?_)
    refine lv_iconst (v := nI 0) hx hb xj_M_chain_32 (by decide) ?_
    exact hret (nI 0) (()) H locs _ ls trivial rfl hP hD hS xj_M_chain_33
  · -- 9
    refine lv_aload_n hx hb xj_M_chain_9 rfl (lv_at hl 0 rfl) ?_
    refine lv_iload_n hx hb xj_M_chain_10 rfl (lv_at hl 2 rfl) ?_
    refine xc_callV (av := [.int t1]) (rest := [.ref m0]) hAt hT (xt_M_isDay l D cI cZ cJ m0 m1 m2 m3 m4 m5 m6 m7 m8 m9 m10 cd gc dc t1 (by omega)) xw_590 xw_7 xw_593 xw_592 xs_M_isDay (C0 := xn_M) (q0 := 0) rfl rfl (na := 1) rfl (by decide +kernel) ⟨Nat.le_of_ble_eq_true rfl, Nat.le_of_ble_eq_true rfl⟩ (hP.sub (ws' := [(m0, .inr (6, [.int cd, .int (nI gc), .int (nI dc), .ref m1, .ref m2, .ref m3, .ref m4, .ref m5, .ref m6, .ref m7, .ref m8, .ref m9, .ref m10]))]) [0] rfl) hK hl.1 (Nat.le_of_ble_eq_true rfl) ⟨Nat.zero_le _, Nat.zero_le _⟩ xj_M_chain_11 ?_
    refine xr_ifeq (tgt := 21) hx hb xj_M_chain_14 rfl (fun h14 => ?_) (fun h14 => ?_)
    · -- 21
      refine lv_iconst (v := nI 1) hx hb xj_M_chain_21 (by decide) ?_
      refine va_put (D := D) (ci := 6) (v := .int (nI 1)) (ty := .int) (C := xn_M) (T := xn_TM) (N := 13) hx hb hgs xw_uM xn_tM xn_oM xn_nM hown hK.1 hP hD hS 0 rfl rfl 0 (by decide) (hgs _ xw_530) (fun _ h9 => h9) rfl (by decide +kernel) rfl rfl (Nat.le_of_ble_eq_true rfl) xj_M_chain_22 (fun H locs hP hD hS => ?_)
      have hP : va_P D xn_cl [(m0, .inr (6, [.int (nI 1), .int (nI gc), .int (nI dc), .ref m1, .ref m2, .ref m3, .ref m4, .ref m5, .ref m6, .ref m7, .ref m8, .ref m9, .ref m10]))] H := hP
      have hD : va_D A [(m0, .inr (6, [.int (nI 1), .int (nI gc), .int (nI dc), .ref m1, .ref m2, .ref m3, .ref m4, .ref m5, .ref m6, .ref m7, .ref m8, .ref m9, .ref m10]))] := hD
      refine lv_aload_n hx hb xj_M_chain_25 rfl (lv_at hl 0 rfl) ?_
      refine va_get (D := D) (ci := 6) (v := .int (nI 1)) (C := xn_M) (T := xn_TM) (N := 13) hx hb hgs xw_uM hown hK.1 hP 0 rfl rfl 0 (by decide) (hgs _ xw_530) (fun _ h9 => h9) rfl xj_M_chain_26 ?_
      refine lv_if_le (tgt := 34) hx hb xj_M_chain_29 rfl (fun h29 => absurd h29 (by decide +kernel)) (fun h29 => ?_)
      refine lv_iconst (v := nI 0) hx hb xj_M_chain_32 (by decide) ?_
      exact hret (nI 0) (()) H locs _ ls trivial rfl hP hD hS xj_M_chain_33
    · -- 17
      refine lv_iconst (v := nI 0) hx hb xj_M_chain_17 (by decide) ?_
      refine lv_goto (tgt := 22) hx hb xj_M_chain_18 rfl ?_
      refine va_put (D := D) (ci := 6) (v := .int (nI 0)) (ty := .int) (C := xn_M) (T := xn_TM) (N := 13) hx hb hgs xw_uM xn_tM xn_oM xn_nM hown hK.1 hP hD hS 0 rfl rfl 0 (by decide) (hgs _ xw_530) (fun _ h9 => h9) rfl (by decide +kernel) rfl rfl (Nat.le_of_ble_eq_true rfl) xj_M_chain_22 (fun H locs hP hD hS => ?_)
      have hP : va_P D xn_cl [(m0, .inr (6, [.int (nI 0), .int (nI gc), .int (nI dc), .ref m1, .ref m2, .ref m3, .ref m4, .ref m5, .ref m6, .ref m7, .ref m8, .ref m9, .ref m10]))] H := hP
      have hD : va_D A [(m0, .inr (6, [.int (nI 0), .int (nI gc), .int (nI dc), .ref m1, .ref m2, .ref m3, .ref m4, .ref m5, .ref m6, .ref m7, .ref m8, .ref m9, .ref m10]))] := hD
      refine lv_aload_n hx hb xj_M_chain_25 rfl (lv_at hl 0 rfl) ?_
      refine va_get (D := D) (ci := 6) (v := .int (nI 0)) (C := xn_M) (T := xn_TM) (N := 13) hx hb hgs xw_uM hown hK.1 hP 0 rfl rfl 0 (by decide) (hgs _ xw_530) (fun _ h9 => h9) rfl xj_M_chain_26 ?_
      refine lv_if_le (tgt := 34) hx hb xj_M_chain_29 rfl (fun h29 => ?_) (fun h29 => absurd h29 (by decide +kernel))
      exact absurd hno (by rw [h6, h14]; decide)
set_option maxRecDepth 100000 in
set_option maxHeartbeats 4000000 in
theorem xt_M_sensible_ok (l : Launch) (D : va_G) (cI cZ cJ : ClassId) (m0 m1 m2 m3 m4 m5 m6 m7 m8 m9 m10 : Nat) (cd : Int32) (gc dc : Nat) (P : Nat → Int32) (A0 : Nat → Int32) (gd : Nat → Bool) (bd : Nat → Bool) (ch : Nat → Bool) (st : Nat → Int32) (lf : Nat → Bool) (v : Int32) (hok : xo_01 v = true) (hg : gc ≤ 6) (hd : dc ≤ 12) : xc_Wi l xy_M_sensible xb_M_sensible 4 .boolean 3 0 0 [.ref m0, .int v] D cI cZ cJ [(m0, .inr (6, [.int cd, .int (nI gc), .int (nI dc), .ref m1, .ref m2, .ref m3, .ref m4, .ref m5, .ref m6, .ref m7, .ref m8, .ref m9, .ref m10])), (m1, .inl (cI, 78, .inl P)), (m2, .inl (cI, 78, .inl A0)), (m5, .inl (cZ, 169, .inl (xf_z gd))), (m6, .inl (cZ, 169, .inl (xf_z bd))), (m7, .inl (cZ, 169, .inl (xf_z ch))), (m8, .inl (cI, 169, .inl st)), (m9, .inl (cZ, 13, .inl (xf_z lf)))] ((Nat → Bool) × (Nat → Int32)) (fun r _ => r = xf_bI (if v = 0 then !xm_nf dc (xm_L dc lf) (xm_B (xk_c gc P A0) (lN 1) (lN 1) dc bd) (xm_K dc (xm_L dc lf) (xm_G (xk_c gc P A0) (lN 1) (lN 1) dc gd) ch st).1 else !xm_od dc (xm_G (xk_c gc P A0) (lN 1) (lN 1) dc gd) (xm_B (xk_c gc P A0) (lN 1) (lN 1) dc bd))) (fun u => [(m0, .inr (6, [.int (nI 0), .int (nI gc), .int (nI dc), .ref m1, .ref m2, .ref m3, .ref m4, .ref m5, .ref m6, .ref m7, .ref m8, .ref m9, .ref m10])), (m1, .inl (cI, 78, .inl P)), (m2, .inl (cI, 78, .inl A0)), (m5, .inl (cZ, 169, .inl (xf_z (xm_G (xk_c gc P A0) (lN 1) (lN 1) dc gd)))), (m6, .inl (cZ, 169, .inl (xf_z (xm_B (xk_c gc P A0) (lN 1) (lN 1) dc bd)))), (m7, .inl (cZ, 169, .inl (xf_z u.1))), (m8, .inl (cI, 169, .inl u.2)), (m9, .inl (cZ, 13, .inl (xf_z (xm_L dc lf))))]) := by
  refine xc_Wi_of (by decide) (Nat.le_of_ble_eq_true rfl) ?_
  intro p e s m args below meth c Q ls A hAt hP hK hD hA hS hl hret
  obtain ⟨hx, hb, hml, hown, hts, hgs, hlk⟩ := id hAt
  have hT : ∀ w ∈ xw_g, w ∈ xc_ws xy_M_sensible xb_M_sensible 4 (some .boolean) := fun w h => List.mem_cons_of_mem _ h
  have hown : s.vm.findClass "WishLedgerModel" = some m.cls := hown
  obtain ⟨H, hH0⟩ : ∃ H, H = s.heap := ⟨_, rfl⟩
  obtain ⟨locs, hL0⟩ : ∃ locs : List Loc, locs = [] := ⟨_, rfl⟩
  have hP : va_P D xn_cl [(m0, .inr (6, [.int cd, .int (nI gc), .int (nI dc), .ref m1, .ref m2, .ref m3, .ref m4, .ref m5, .ref m6, .ref m7, .ref m8, .ref m9, .ref m10])), (m1, .inl (cI, 78, .inl P)), (m2, .inl (cI, 78, .inl A0)), (m5, .inl (cZ, 169, .inl (xf_z gd))), (m6, .inl (cZ, 169, .inl (xf_z bd))), (m7, .inl (cZ, 169, .inl (xf_z ch))), (m8, .inl (cI, 169, .inl st)), (m9, .inl (cZ, 13, .inl (xf_z lf)))] H := by rw [hH0]; exact hP
  have hS : va_S A s.heap H locs := by rw [hH0, hL0]; exact hS
  suffices hgo : W p l e (xc_rm 3 0 0) s m args below meth c H locs 0 0 Q (F0 m 0 ls []) by rw [hH0, hL0] at hgo; exact hgo
  clear hH0 hL0
  have hl : lv_has ls 4 [(0, .ref m0), (1, .int v)] := hl
  refine lv_aload_n hx hb xj_M_sensible_0 rfl (lv_at hl 0 rfl) ?_
  refine lv_iload_n hx hb xj_M_sensible_1 rfl (lv_at hl 1 rfl) ?_
  refine lv_iconst (v := nI 0) hx hb xj_M_sensible_2 (by decide) ?_
  refine lv_iconst (v := nI 1) hx hb xj_M_sensible_3 (by decide) ?_
  refine xc_callS (av := [.int v, .int (nI 0), .int (nI 1)]) (rest := [.ref m0]) hAt hT (xt_M_in l D cI cZ cJ v (nI 0) (nI 1)) xw_579 xw_7 xw_581 xw_580 (na := 3) rfl (by decide +kernel) ⟨Nat.le_of_ble_eq_true rfl, Nat.le_of_ble_eq_true rfl⟩ (hP.sub (ws' := []) [] rfl) hK hl.1 (Nat.le_of_ble_eq_true rfl) ⟨Nat.zero_le _, Nat.zero_le _⟩ xj_M_sensible_4 ?_
  refine xr_top (y := nI 1) (by rw [xo_01_in, hok]; rfl) ?_
  refine xr_ifeqN (tgt := 14) hx hb (by omega) xj_M_sensible_7 rfl (fun h7 => absurd h7 (by omega)) (fun h7 => ?_)
  refine lv_iconst (v := nI 0) hx hb xj_M_sensible_10 (by decide) ?_
  refine lv_goto (tgt := 15) hx hb xj_M_sensible_11 rfl ?_
  refine va_put (D := D) (ci := 6) (v := .int (nI 0)) (ty := .int) (C := xn_M) (T := xn_TM) (N := 13) hx hb hgs xw_uM xn_tM xn_oM xn_nM hown hK.1 hP hD hS 0 rfl rfl 0 (by decide) (hgs _ xw_530) (fun _ h9 => h9) rfl (by decide +kernel) rfl rfl (Nat.le_of_ble_eq_true rfl) xj_M_sensible_15 (fun H locs hP hD hS => ?_)
  have hP : va_P D xn_cl [(m0, .inr (6, [.int (nI 0), .int (nI gc), .int (nI dc), .ref m1, .ref m2, .ref m3, .ref m4, .ref m5, .ref m6, .ref m7, .ref m8, .ref m9, .ref m10])), (m1, .inl (cI, 78, .inl P)), (m2, .inl (cI, 78, .inl A0)), (m5, .inl (cZ, 169, .inl (xf_z gd))), (m6, .inl (cZ, 169, .inl (xf_z bd))), (m7, .inl (cZ, 169, .inl (xf_z ch))), (m8, .inl (cI, 169, .inl st)), (m9, .inl (cZ, 13, .inl (xf_z lf)))] H := hP
  have hD : va_D A [(m0, .inr (6, [.int (nI 0), .int (nI gc), .int (nI dc), .ref m1, .ref m2, .ref m3, .ref m4, .ref m5, .ref m6, .ref m7, .ref m8, .ref m9, .ref m10])), (m1, .inl (cI, 78, .inl P)), (m2, .inl (cI, 78, .inl A0)), (m5, .inl (cZ, 169, .inl (xf_z gd))), (m6, .inl (cZ, 169, .inl (xf_z bd))), (m7, .inl (cZ, 169, .inl (xf_z ch))), (m8, .inl (cI, 169, .inl st)), (m9, .inl (cZ, 13, .inl (xf_z lf)))] := hD
  refine lv_aload_n hx hb xj_M_sensible_18 rfl (lv_at hl 0 rfl) ?_
  refine va_get (D := D) (ci := 6) (v := .int (nI 0)) (C := xn_M) (T := xn_TM) (N := 13) hx hb hgs xw_uM hown hK.1 hP 0 rfl rfl 0 (by decide) (hgs _ xw_530) (fun _ h9 => h9) rfl xj_M_sensible_19 ?_
  refine lv_if_le (tgt := 27) hx hb xj_M_sensible_22 rfl (fun h22 => ?_) (fun h22 => absurd h22 (by decide +kernel))
  refine lv_aload_n hx hb xj_M_sensible_27 rfl (lv_at hl 0 rfl) ?_
  refine lv_aload_n hx hb xj_M_sensible_28 rfl (lv_at hl 0 rfl) ?_
  refine va_get (D := D) (ci := 6) (v := .int (nI dc)) (C := xn_M) (T := xn_TM) (N := 13) hx hb hgs xw_uM hown hK.1 hP 0 rfl rfl 2 (by decide) (hgs _ xw_532) (fun _ h9 => h9) rfl xj_M_sensible_29 ?_
  refine lv_lconst (v := lN 1) hx hb xj_M_sensible_32 (by decide) ?_
  refine lv_lconst (v := lN 1) hx hb xj_M_sensible_33 (by decide) ?_
  refine xc_wVv (av := [.int (nI dc), .long (lN 1), .long (lN 1)]) (rest := []) (wr := [(m7, .inl (cZ, 169, .inl (xf_z ch))), (m8, .inl (cI, 169, .inl st))]) hAt hT (xt_M_relate l D cI cZ cJ m0 m1 m2 m3 m4 m5 m6 m7 m8 m9 m10 (nI 0) gc dc P A0 gd bd lf dc (lN 1) (lN 1) (by omega) (by omega)) xw_622 xw_7 xw_625 xw_624 xs_M_relate (C0 := xn_M) (q0 := 0) rfl rfl (na := 3) rfl (by decide +kernel) ⟨Nat.le_of_ble_eq_true rfl, Nat.le_of_ble_eq_true rfl⟩ hP hD hS hA [0, 1, 2, 3, 4, 7] [5, 6] rfl rfl (by decide) (by decide) (by decide) hK hl.1 (Nat.le_of_ble_eq_true rfl) ⟨Nat.zero_le _, Nat.zero_le _⟩ xj_M_sensible_34 (fun _ H locs _ hP hD hS => ?_)
  have hP : va_P D xn_cl [(m0, .inr (6, [.int (nI 0), .int (nI gc), .int (nI dc), .ref m1, .ref m2, .ref m3, .ref m4, .ref m5, .ref m6, .ref m7, .ref m8, .ref m9, .ref m10])), (m1, .inl (cI, 78, .inl P)), (m2, .inl (cI, 78, .inl A0)), (m5, .inl (cZ, 169, .inl (xf_z (xm_G (xk_c gc P A0) (lN 1) (lN 1) dc gd)))), (m6, .inl (cZ, 169, .inl (xf_z (xm_B (xk_c gc P A0) (lN 1) (lN 1) dc bd)))), (m7, .inl (cZ, 169, .inl (xf_z ch))), (m8, .inl (cI, 169, .inl st)), (m9, .inl (cZ, 13, .inl (xf_z (xm_L dc lf))))] H := va_P.sub hP [2, 3, 4, 5, 6, 0, 1, 7] rfl
  have hD : va_D A [(m0, .inr (6, [.int (nI 0), .int (nI gc), .int (nI dc), .ref m1, .ref m2, .ref m3, .ref m4, .ref m5, .ref m6, .ref m7, .ref m8, .ref m9, .ref m10])), (m1, .inl (cI, 78, .inl P)), (m2, .inl (cI, 78, .inl A0)), (m5, .inl (cZ, 169, .inl (xf_z (xm_G (xk_c gc P A0) (lN 1) (lN 1) dc gd)))), (m6, .inl (cZ, 169, .inl (xf_z (xm_B (xk_c gc P A0) (lN 1) (lN 1) dc bd)))), (m7, .inl (cZ, 169, .inl (xf_z ch))), (m8, .inl (cI, 169, .inl st)), (m9, .inl (cZ, 13, .inl (xf_z (xm_L dc lf))))] := va_D.sub hD [2, 3, 4, 5, 6, 0, 1, 7] (by decide) rfl
  refine lv_iload_n hx hb xj_M_sensible_37 rfl (lv_at hl 1 rfl) ?_
  refine lv_if_ne (tgt := 50) hx hb xj_M_sensible_38 rfl (fun h38 => ?_) (fun h38 => ?_)
  · -- 50
    refine lv_iconst (v := nI 0) hx hb xj_M_sensible_50 (by decide) ?_
    refine lv_istore_n (lv' := [(2, .int (nI 0)), (0, .ref m0), (1, .int v)]) hx hb xj_M_sensible_51 rfl hl (by decide) rfl (fun ls hl => ?_)
    have loop52 : ∀ (n : Nat) (i : Nat) (ls : Array Slot) (H : Heap) (locs : List Loc), i + n = dc → (xf_ex (fun s => xf_ex (fun t => (xm_G (xk_c gc P A0) (lN 1) (lN 1) dc gd) (13 * s + t) && (xm_B (xk_c gc P A0) (lN 1) (lN 1) dc bd) (13 * t + s)) dc 0) n i = xm_od dc (xm_G (xk_c gc P A0) (lN 1) (lN 1) dc gd) (xm_B (xk_c gc P A0) (lN 1) (lN 1) dc bd)) → lv_has ls 4 [(0, .ref m0), (1, .int v), (2, .int (nI i))] → va_P D xn_cl [(m0, .inr (6, [.int (nI 0), .int (nI gc), .int (nI dc), .ref m1, .ref m2, .ref m3, .ref m4, .ref m5, .ref m6, .ref m7, .ref m8, .ref m9, .ref m10])), (m1, .inl (cI, 78, .inl P)), (m2, .inl (cI, 78, .inl A0)), (m5, .inl (cZ, 169, .inl (xf_z (xm_G (xk_c gc P A0) (lN 1) (lN 1) dc gd)))), (m6, .inl (cZ, 169, .inl (xf_z (xm_B (xk_c gc P A0) (lN 1) (lN 1) dc bd)))), (m7, .inl (cZ, 169, .inl (xf_z ch))), (m8, .inl (cI, 169, .inl st)), (m9, .inl (cZ, 13, .inl (xf_z (xm_L dc lf))))] H → va_D A [(m0, .inr (6, [.int (nI 0), .int (nI gc), .int (nI dc), .ref m1, .ref m2, .ref m3, .ref m4, .ref m5, .ref m6, .ref m7, .ref m8, .ref m9, .ref m10])), (m1, .inl (cI, 78, .inl P)), (m2, .inl (cI, 78, .inl A0)), (m5, .inl (cZ, 169, .inl (xf_z (xm_G (xk_c gc P A0) (lN 1) (lN 1) dc gd)))), (m6, .inl (cZ, 169, .inl (xf_z (xm_B (xk_c gc P A0) (lN 1) (lN 1) dc bd)))), (m7, .inl (cZ, 169, .inl (xf_z ch))), (m8, .inl (cI, 169, .inl st)), (m9, .inl (cZ, 13, .inl (xf_z (xm_L dc lf))))] → va_S A s.heap H locs → W p l e (xc_rm 3 0 0) s m args below meth c H locs 0 0 Q (F0 m 52 ls []) := by
      intro n
      induction n with
      | zero =>
        intro i ls H locs hi52 hr hl hP hD hS
        refine lv_iload_n hx hb xj_M_sensible_52 rfl (lv_at hl 2 rfl) ?_
        refine lv_aload_n hx hb xj_M_sensible_53 rfl (lv_at hl 0 rfl) ?_
        refine va_get (D := D) (ci := 6) (v := .int (nI dc)) (C := xn_M) (T := xn_TM) (N := 13) hx hb hgs xw_uM hown hK.1 hP 0 rfl rfl 2 (by decide) (hgs _ xw_532) (fun _ h9 => h9) rfl xj_M_sensible_54 ?_
        refine xr_ge (tgt := 112) hx hb (by omega) (by omega) xj_M_sensible_57 rfl (fun h57 => ?_) (fun h57 => absurd h57 (by omega))
        refine lv_iconst (v := nI 1) hx hb xj_M_sensible_112 (by decide) ?_
        exact hret (nI 1) ((ch, st)) H locs _ ls (by rw [if_neg h38, show xm_od dc (xm_G (xk_c gc P A0) (lN 1) (lN 1) dc gd) (xm_B (xk_c gc P A0) (lN 1) (lN 1) dc bd) = false from hr.symm]; rfl) (xf_nar_b true) hP hD hS xj_M_sensible_113
      | succ n ih52 =>
        intro i ls H locs hi52 hr hl hP hD hS
        refine lv_iload_n hx hb xj_M_sensible_52 rfl (lv_at hl 2 rfl) ?_
        refine lv_aload_n hx hb xj_M_sensible_53 rfl (lv_at hl 0 rfl) ?_
        refine va_get (D := D) (ci := 6) (v := .int (nI dc)) (C := xn_M) (T := xn_TM) (N := 13) hx hb hgs xw_uM hown hK.1 hP 0 rfl rfl 2 (by decide) (hgs _ xw_532) (fun _ h9 => h9) rfl xj_M_sensible_54 ?_
        refine xr_ge (tgt := 112) hx hb (by omega) (by omega) xj_M_sensible_57 rfl (fun h57 => absurd h57 (by omega)) (fun h57 => ?_)
        refine lv_iconst (v := nI 0) hx hb xj_M_sensible_60 (by decide) ?_
        refine lv_istore_n (lv' := [(3, .int (nI 0)), (0, .ref m0), (1, .int v), (2, .int (nI i))]) hx hb xj_M_sensible_61 rfl hl (by decide) rfl (fun ls hl => ?_)
        have loop62 : ∀ (k : Nat) (j : Nat) (ls : Array Slot) (H : Heap) (locs : List Loc), j + k = dc → (xf_ex (fun t => (xm_G (xk_c gc P A0) (lN 1) (lN 1) dc gd) (13 * i + t) && (xm_B (xk_c gc P A0) (lN 1) (lN 1) dc bd) (13 * t + i)) k j = xf_ex (fun t => (xm_G (xk_c gc P A0) (lN 1) (lN 1) dc gd) (13 * i + t) && (xm_B (xk_c gc P A0) (lN 1) (lN 1) dc bd) (13 * t + i)) dc 0) → lv_has ls 4 [(0, .ref m0), (1, .int v), (2, .int (nI i)), (3, .int (nI j))] → va_P D xn_cl [(m0, .inr (6, [.int (nI 0), .int (nI gc), .int (nI dc), .ref m1, .ref m2, .ref m3, .ref m4, .ref m5, .ref m6, .ref m7, .ref m8, .ref m9, .ref m10])), (m1, .inl (cI, 78, .inl P)), (m2, .inl (cI, 78, .inl A0)), (m5, .inl (cZ, 169, .inl (xf_z (xm_G (xk_c gc P A0) (lN 1) (lN 1) dc gd)))), (m6, .inl (cZ, 169, .inl (xf_z (xm_B (xk_c gc P A0) (lN 1) (lN 1) dc bd)))), (m7, .inl (cZ, 169, .inl (xf_z ch))), (m8, .inl (cI, 169, .inl st)), (m9, .inl (cZ, 13, .inl (xf_z (xm_L dc lf))))] H → va_D A [(m0, .inr (6, [.int (nI 0), .int (nI gc), .int (nI dc), .ref m1, .ref m2, .ref m3, .ref m4, .ref m5, .ref m6, .ref m7, .ref m8, .ref m9, .ref m10])), (m1, .inl (cI, 78, .inl P)), (m2, .inl (cI, 78, .inl A0)), (m5, .inl (cZ, 169, .inl (xf_z (xm_G (xk_c gc P A0) (lN 1) (lN 1) dc gd)))), (m6, .inl (cZ, 169, .inl (xf_z (xm_B (xk_c gc P A0) (lN 1) (lN 1) dc bd)))), (m7, .inl (cZ, 169, .inl (xf_z ch))), (m8, .inl (cI, 169, .inl st)), (m9, .inl (cZ, 13, .inl (xf_z (xm_L dc lf))))] → va_S A s.heap H locs → W p l e (xc_rm 3 0 0) s m args below meth c H locs 0 0 Q (F0 m 62 ls []) := by
          intro k
          induction k with
          | zero =>
            intro j ls H locs hi62 hq hl hP hD hS
            refine lv_iload_n hx hb xj_M_sensible_62 rfl (lv_at hl 3 rfl) ?_
            refine lv_aload_n hx hb xj_M_sensible_63 rfl (lv_at hl 0 rfl) ?_
            refine va_get (D := D) (ci := 6) (v := .int (nI dc)) (C := xn_M) (T := xn_TM) (N := 13) hx hb hgs xw_uM hown hK.1 hP 0 rfl rfl 2 (by decide) (hgs _ xw_532) (fun _ h9 => h9) rfl xj_M_sensible_64 ?_
            refine xr_ge (tgt := 106) hx hb (by omega) (by omega) xj_M_sensible_67 rfl (fun h67 => ?_) (fun h67 => absurd h67 (by omega))
            refine lv_iinc (k := 2) (v := nI (i + 1)) (lv' := [(2, .int (nI (i + 1))), (0, .ref m0), (1, .int v), (3, .int (nI j))]) hx hb xj_M_sensible_106 hl rfl (xr_inc _) (by decide) rfl (fun ls hl => ?_)
            refine lv_goto (tgt := 52) hx hb xj_M_sensible_109 rfl ?_
            exact ih52 (i + 1) ls _ _ (by omega) ((xf_ex_f (P := (fun s => xf_ex (fun t => (xm_G (xk_c gc P A0) (lN 1) (lN 1) dc gd) (13 * s + t) && (xm_B (xk_c gc P A0) (lN 1) (lN 1) dc bd) (13 * t + s)) dc 0)) hq.symm).symm.trans hr) (lv_sub hl [1, 2, 0] rfl) hP hD hS
          | succ k ih62 =>
            intro j ls H locs hi62 hq hl hP hD hS
            refine lv_iload_n hx hb xj_M_sensible_62 rfl (lv_at hl 3 rfl) ?_
            refine lv_aload_n hx hb xj_M_sensible_63 rfl (lv_at hl 0 rfl) ?_
            refine va_get (D := D) (ci := 6) (v := .int (nI dc)) (C := xn_M) (T := xn_TM) (N := 13) hx hb hgs xw_uM hown hK.1 hP 0 rfl rfl 2 (by decide) (hgs _ xw_532) (fun _ h9 => h9) rfl xj_M_sensible_64 ?_
            refine xr_ge (tgt := 106) hx hb (by omega) (by omega) xj_M_sensible_67 rfl (fun h67 => absurd h67 (by omega)) (fun h67 => ?_)
            refine lv_aload_n hx hb xj_M_sensible_70 rfl (lv_at hl 0 rfl) ?_
            refine va_get (D := D) (ci := 6) (v := .ref m5) (C := xn_M) (T := xn_TM) (N := 13) hx hb hgs xw_uM hown hK.1 hP 0 rfl rfl 7 (by decide) (hgs _ xw_537) (fun _ h9 => h9) rfl xj_M_sensible_71 ?_
            refine lv_bipush (v := nI 13) hx hb xj_M_sensible_74 (by decide) ?_
            refine lv_iload_n hx hb xj_M_sensible_76 rfl (lv_at hl 2 rfl) ?_
            refine xr_imul hx hb xj_M_sensible_77 ?_
            refine lv_iload_n hx hb xj_M_sensible_78 rfl (lv_at hl 3 rfl) ?_
            refine xr_iadd hx hb xj_M_sensible_79 ?_
            refine xr_zald hx hb hK.1 hP 3 1 rfl rfl (by omega) (by decide) xj_M_sensible_80 ?_
            refine xr_top (y := xf_bI (((xm_G (xk_c gc P A0) (lN 1) (lN 1) dc gd)) ((13 * i) + j))) rfl ?_
            refine xr_ifeq (tgt := 100) hx hb xj_M_sensible_81 rfl (fun h81 => ?_) (fun h81 => ?_)
            · -- 100
              refine lv_iinc (k := 3) (v := nI (j + 1)) (lv' := [(3, .int (nI (j + 1))), (0, .ref m0), (1, .int v), (2, .int (nI i))]) hx hb xj_M_sensible_100 hl rfl (xr_inc _) (by decide) rfl (fun ls hl => ?_)
              refine lv_goto (tgt := 62) hx hb xj_M_sensible_103 rfl ?_
              exact ih62 (j + 1) ls _ _ (by omega) ((xf_ex_f (P := (fun t => (xm_G (xk_c gc P A0) (lN 1) (lN 1) dc gd) (13 * i + t) && (xm_B (xk_c gc P A0) (lN 1) (lN 1) dc bd) (13 * t + i))) (by simp only [h81, Bool.true_and, Bool.false_and, Bool.and_true, Bool.and_false, Bool.not_true, Bool.not_false])).symm.trans hq) (lv_sub hl [1, 2, 3, 0] rfl) hP hD hS
            · -- 84
              refine lv_aload_n hx hb xj_M_sensible_84 rfl (lv_at hl 0 rfl) ?_
              refine va_get (D := D) (ci := 6) (v := .ref m6) (C := xn_M) (T := xn_TM) (N := 13) hx hb hgs xw_uM hown hK.1 hP 0 rfl rfl 8 (by decide) (hgs _ xw_538) (fun _ h9 => h9) rfl xj_M_sensible_85 ?_
              refine lv_bipush (v := nI 13) hx hb xj_M_sensible_88 (by decide) ?_
              refine lv_iload_n hx hb xj_M_sensible_90 rfl (lv_at hl 3 rfl) ?_
              refine xr_imul hx hb xj_M_sensible_91 ?_
              refine lv_iload_n hx hb xj_M_sensible_92 rfl (lv_at hl 2 rfl) ?_
              refine xr_iadd hx hb xj_M_sensible_93 ?_
              refine xr_zald hx hb hK.1 hP 4 1 rfl rfl (by omega) (by decide) xj_M_sensible_94 ?_
              refine xr_top (y := xf_bI (((xm_B (xk_c gc P A0) (lN 1) (lN 1) dc bd)) ((13 * j) + i))) rfl ?_
              refine xr_ifeq (tgt := 100) hx hb xj_M_sensible_95 rfl (fun h95 => ?_) (fun h95 => ?_)
              · -- 100
                refine lv_iinc (k := 3) (v := nI (j + 1)) (lv' := [(3, .int (nI (j + 1))), (0, .ref m0), (1, .int v), (2, .int (nI i))]) hx hb xj_M_sensible_100 hl rfl (xr_inc _) (by decide) rfl (fun ls hl => ?_)
                refine lv_goto (tgt := 62) hx hb xj_M_sensible_103 rfl ?_
                exact ih62 (j + 1) ls _ _ (by omega) ((xf_ex_f (P := (fun t => (xm_G (xk_c gc P A0) (lN 1) (lN 1) dc gd) (13 * i + t) && (xm_B (xk_c gc P A0) (lN 1) (lN 1) dc bd) (13 * t + i))) (by simp only [h81, h95, Bool.true_and, Bool.false_and, Bool.and_true, Bool.and_false, Bool.not_true, Bool.not_false])).symm.trans hq) (lv_sub hl [1, 2, 3, 0] rfl) hP hD hS
              · -- 98
                refine lv_iconst (v := nI 0) hx hb xj_M_sensible_98 (by decide) ?_
                exact hret (nI 0) ((ch, st)) H locs _ ls (by rw [if_neg h38, show xm_od dc (xm_G (xk_c gc P A0) (lN 1) (lN 1) dc gd) (xm_B (xk_c gc P A0) (lN 1) (lN 1) dc bd) = true from ((xf_ex_t (P := (fun s => xf_ex (fun t => (xm_G (xk_c gc P A0) (lN 1) (lN 1) dc gd) (13 * s + t) && (xm_B (xk_c gc P A0) (lN 1) (lN 1) dc bd) (13 * t + s)) dc 0)) ((xf_ex_t (P := (fun t => (xm_G (xk_c gc P A0) (lN 1) (lN 1) dc gd) (13 * i + t) && (xm_B (xk_c gc P A0) (lN 1) (lN 1) dc bd) (13 * t + i))) (by simp only [h81, h95, Bool.true_and, Bool.false_and, Bool.and_true, Bool.and_false, Bool.not_true, Bool.not_false])).symm.trans hq).symm).symm.trans hr).symm]; rfl) (xf_nar_b false) hP hD hS xj_M_sensible_99
        exact loop62 dc 0 ls _ _ (by omega) rfl (lv_sub hl [1, 2, 3, 0] rfl) hP hD hS
    exact loop52 dc 0 ls _ _ (by omega) rfl (lv_sub hl [1, 2, 0] rfl) hP hD hS
  · -- 41
    refine lv_aload_n hx hb xj_M_sensible_41 rfl (lv_at hl 0 rfl) ?_
    refine lv_aload_n hx hb xj_M_sensible_42 rfl (lv_at hl 0 rfl) ?_
    refine va_get (D := D) (ci := 6) (v := .int (nI dc)) (C := xn_M) (T := xn_TM) (N := 13) hx hb hgs xw_uM hown hK.1 hP 0 rfl rfl 2 (by decide) (hgs _ xw_532) (fun _ h9 => h9) rfl xj_M_sensible_43 ?_
    refine xc_wVi (av := [.int (nI dc)]) (rest := []) (wr := [(m1, .inl (cI, 78, .inl P)), (m2, .inl (cI, 78, .inl A0))]) hAt hT (xt_M_isFine l D cI cZ cJ m0 m1 m2 m3 m4 m5 m6 m7 m8 m9 m10 (nI 0) gc dc (xm_G (xk_c gc P A0) (lN 1) (lN 1) dc gd) (xm_B (xk_c gc P A0) (lN 1) (lN 1) dc bd) ch st (xm_L dc lf) dc (by omega)) xw_638 xw_7 xw_641 xw_640 xs_M_isFine (C0 := xn_M) (q0 := 0) rfl rfl (na := 1) rfl (by decide +kernel) ⟨Nat.le_of_ble_eq_true rfl, Nat.le_of_ble_eq_true rfl⟩ hP hD hS hA [0, 3, 4, 5, 6, 7] [1, 2] rfl rfl (by decide) (by decide) (by decide) hK hl.1 (Nat.le_of_ble_eq_true rfl) ⟨Nat.zero_le _, Nat.zero_le _⟩ xj_M_sensible_46 (fun r46 _ H locs hr46 hP hD hS => ?_)
    obtain rfl : r46 = xf_bI (!xm_nf dc (xm_L dc lf) (xm_B (xk_c gc P A0) (lN 1) (lN 1) dc bd) (xm_K dc (xm_L dc lf) (xm_G (xk_c gc P A0) (lN 1) (lN 1) dc gd) ch st).1) := hr46
    have hP : va_P D xn_cl [(m0, .inr (6, [.int (nI 0), .int (nI gc), .int (nI dc), .ref m1, .ref m2, .ref m3, .ref m4, .ref m5, .ref m6, .ref m7, .ref m8, .ref m9, .ref m10])), (m1, .inl (cI, 78, .inl P)), (m2, .inl (cI, 78, .inl A0)), (m5, .inl (cZ, 169, .inl (xf_z (xm_G (xk_c gc P A0) (lN 1) (lN 1) dc gd)))), (m6, .inl (cZ, 169, .inl (xf_z (xm_B (xk_c gc P A0) (lN 1) (lN 1) dc bd)))), (m7, .inl (cZ, 169, .inl (xf_z ((xm_K dc (xm_L dc lf) (xm_G (xk_c gc P A0) (lN 1) (lN 1) dc gd) ch st).1)))), (m8, .inl (cI, 169, .inl ((xm_K dc (xm_L dc lf) (xm_G (xk_c gc P A0) (lN 1) (lN 1) dc gd) ch st).2.1))), (m9, .inl (cZ, 13, .inl (xf_z (xm_L dc lf))))] H := va_P.sub hP [2, 0, 1, 3, 4, 5, 6, 7] rfl
    have hD : va_D A [(m0, .inr (6, [.int (nI 0), .int (nI gc), .int (nI dc), .ref m1, .ref m2, .ref m3, .ref m4, .ref m5, .ref m6, .ref m7, .ref m8, .ref m9, .ref m10])), (m1, .inl (cI, 78, .inl P)), (m2, .inl (cI, 78, .inl A0)), (m5, .inl (cZ, 169, .inl (xf_z (xm_G (xk_c gc P A0) (lN 1) (lN 1) dc gd)))), (m6, .inl (cZ, 169, .inl (xf_z (xm_B (xk_c gc P A0) (lN 1) (lN 1) dc bd)))), (m7, .inl (cZ, 169, .inl (xf_z ((xm_K dc (xm_L dc lf) (xm_G (xk_c gc P A0) (lN 1) (lN 1) dc gd) ch st).1)))), (m8, .inl (cI, 169, .inl ((xm_K dc (xm_L dc lf) (xm_G (xk_c gc P A0) (lN 1) (lN 1) dc gd) ch st).2.1))), (m9, .inl (cZ, 13, .inl (xf_z (xm_L dc lf))))] := va_D.sub hD [2, 0, 1, 3, 4, 5, 6, 7] (by decide) rfl
    exact hret (xf_bI (!xm_nf dc (xm_L dc lf) (xm_B (xk_c gc P A0) (lN 1) (lN 1) dc bd) (xm_K dc (xm_L dc lf) (xm_G (xk_c gc P A0) (lN 1) (lN 1) dc gd) ch st).1)) (((xm_K dc (xm_L dc lf) (xm_G (xk_c gc P A0) (lN 1) (lN 1) dc gd) ch st).1, (xm_K dc (xm_L dc lf) (xm_G (xk_c gc P A0) (lN 1) (lN 1) dc gd) ch st).2.1)) H locs _ ls (congrArg xf_bI (if_pos h38).symm) (xf_nar_b _) hP hD hS xj_M_sensible_49
set_option maxRecDepth 100000 in
set_option maxHeartbeats 4000000 in
theorem xt_M_sensible_no (l : Launch) (D : va_G) (cI cZ cJ : ClassId) (m0 m1 m2 m3 m4 m5 m6 m7 m8 m9 m10 : Nat) (cd : Int32) (gc dc : Nat) (v : Int32) (hno : xo_01 v = false) : xc_Wi l xy_M_sensible xb_M_sensible 4 .boolean 3 0 0 [.ref m0, .int v] D cI cZ cJ [(m0, .inr (6, [.int cd, .int (nI gc), .int (nI dc), .ref m1, .ref m2, .ref m3, .ref m4, .ref m5, .ref m6, .ref m7, .ref m8, .ref m9, .ref m10]))] (Unit) (fun _ _ => True) (fun _ => [(m0, .inr (6, [.int (nI 1), .int (nI gc), .int (nI dc), .ref m1, .ref m2, .ref m3, .ref m4, .ref m5, .ref m6, .ref m7, .ref m8, .ref m9, .ref m10]))]) := by
  refine xc_Wi_of (by decide) (Nat.le_of_ble_eq_true rfl) ?_
  intro p e s m args below meth c Q ls A hAt hP hK hD hA hS hl hret
  obtain ⟨hx, hb, hml, hown, hts, hgs, hlk⟩ := id hAt
  have hT : ∀ w ∈ xw_g, w ∈ xc_ws xy_M_sensible xb_M_sensible 4 (some .boolean) := fun w h => List.mem_cons_of_mem _ h
  have hown : s.vm.findClass "WishLedgerModel" = some m.cls := hown
  obtain ⟨H, hH0⟩ : ∃ H, H = s.heap := ⟨_, rfl⟩
  obtain ⟨locs, hL0⟩ : ∃ locs : List Loc, locs = [] := ⟨_, rfl⟩
  have hP : va_P D xn_cl [(m0, .inr (6, [.int cd, .int (nI gc), .int (nI dc), .ref m1, .ref m2, .ref m3, .ref m4, .ref m5, .ref m6, .ref m7, .ref m8, .ref m9, .ref m10]))] H := by rw [hH0]; exact hP
  have hS : va_S A s.heap H locs := by rw [hH0, hL0]; exact hS
  suffices hgo : W p l e (xc_rm 3 0 0) s m args below meth c H locs 0 0 Q (F0 m 0 ls []) by rw [hH0, hL0] at hgo; exact hgo
  clear hH0 hL0
  have hl : lv_has ls 4 [(0, .ref m0), (1, .int v)] := hl
  refine lv_aload_n hx hb xj_M_sensible_0 rfl (lv_at hl 0 rfl) ?_
  refine lv_iload_n hx hb xj_M_sensible_1 rfl (lv_at hl 1 rfl) ?_
  refine lv_iconst (v := nI 0) hx hb xj_M_sensible_2 (by decide) ?_
  refine lv_iconst (v := nI 1) hx hb xj_M_sensible_3 (by decide) ?_
  refine xc_callS (av := [.int v, .int (nI 0), .int (nI 1)]) (rest := [.ref m0]) hAt hT (xt_M_in l D cI cZ cJ v (nI 0) (nI 1)) xw_579 xw_7 xw_581 xw_580 (na := 3) rfl (by decide +kernel) ⟨Nat.le_of_ble_eq_true rfl, Nat.le_of_ble_eq_true rfl⟩ (hP.sub (ws' := []) [] rfl) hK hl.1 (Nat.le_of_ble_eq_true rfl) ⟨Nat.zero_le _, Nat.zero_le _⟩ xj_M_sensible_4 ?_
  refine xr_top (y := nI 0) (by rw [xo_01_in, hno]; rfl) ?_
  refine xr_ifeqN (tgt := 14) hx hb (by omega) xj_M_sensible_7 rfl (fun h7 => ?_) (fun h7 => absurd h7 (by omega))
  refine lv_iconst (v := nI 1) hx hb xj_M_sensible_14 (by decide) ?_
  refine va_put (D := D) (ci := 6) (v := .int (nI 1)) (ty := .int) (C := xn_M) (T := xn_TM) (N := 13) hx hb hgs xw_uM xn_tM xn_oM xn_nM hown hK.1 hP hD hS 0 rfl rfl 0 (by decide) (hgs _ xw_530) (fun _ h9 => h9) rfl (by decide +kernel) rfl rfl (Nat.le_of_ble_eq_true rfl) xj_M_sensible_15 (fun H locs hP hD hS => ?_)
  have hP : va_P D xn_cl [(m0, .inr (6, [.int (nI 1), .int (nI gc), .int (nI dc), .ref m1, .ref m2, .ref m3, .ref m4, .ref m5, .ref m6, .ref m7, .ref m8, .ref m9, .ref m10]))] H := hP
  have hD : va_D A [(m0, .inr (6, [.int (nI 1), .int (nI gc), .int (nI dc), .ref m1, .ref m2, .ref m3, .ref m4, .ref m5, .ref m6, .ref m7, .ref m8, .ref m9, .ref m10]))] := hD
  refine lv_aload_n hx hb xj_M_sensible_18 rfl (lv_at hl 0 rfl) ?_
  refine va_get (D := D) (ci := 6) (v := .int (nI 1)) (C := xn_M) (T := xn_TM) (N := 13) hx hb hgs xw_uM hown hK.1 hP 0 rfl rfl 0 (by decide) (hgs _ xw_530) (fun _ h9 => h9) rfl xj_M_sensible_19 ?_
  refine lv_if_le (tgt := 27) hx hb xj_M_sensible_22 rfl (fun h22 => absurd h22 (by decide +kernel)) (fun h22 => ?_)
  refine lv_iconst (v := nI 0) hx hb xj_M_sensible_25 (by decide) ?_
  exact hret (nI 0) (()) H locs _ ls trivial (xf_nar_b false) hP hD hS xj_M_sensible_26
set_option maxRecDepth 100000 in
set_option maxHeartbeats 4000000 in
theorem xt_M_passes_ok (l : Launch) (D : va_G) (cI cZ cJ : ClassId) (m0 m1 m2 m3 m4 m5 m6 m7 m8 m9 m10 : Nat) (cd : Int32) (gc dc : Nat) (P : Nat → Int32) (A0 : Nat → Int32) (gd : Nat → Bool) (bd : Nat → Bool) (ch : Nat → Bool) (st : Nat → Int32) (lf : Nat → Bool) (up dn : Int32) (hok : xo_fr up dn = true) (hg : gc ≤ 6) (hd : dc ≤ 12) : xc_Wi l xy_M_passes xb_M_passes 3 .boolean 3 0 0 [.ref m0, .int up, .int dn] D cI cZ cJ [(m0, .inr (6, [.int cd, .int (nI gc), .int (nI dc), .ref m1, .ref m2, .ref m3, .ref m4, .ref m5, .ref m6, .ref m7, .ref m8, .ref m9, .ref m10])), (m1, .inl (cI, 78, .inl P)), (m2, .inl (cI, 78, .inl A0)), (m5, .inl (cZ, 169, .inl (xf_z gd))), (m6, .inl (cZ, 169, .inl (xf_z bd))), (m7, .inl (cZ, 169, .inl (xf_z ch))), (m8, .inl (cI, 169, .inl st)), (m9, .inl (cZ, 13, .inl (xf_z lf)))] (Unit) (fun r _ => r = xf_bI (!xm_nf dc (xm_L dc lf) (xm_B (xk_c gc P A0) up.toInt64 dn.toInt64 dc bd) (xm_K dc (xm_L dc lf) (xm_G (xk_c gc P A0) up.toInt64 dn.toInt64 dc gd) ch st).1)) (fun _ => [(m0, .inr (6, [.int (nI 0), .int (nI gc), .int (nI dc), .ref m1, .ref m2, .ref m3, .ref m4, .ref m5, .ref m6, .ref m7, .ref m8, .ref m9, .ref m10])), (m1, .inl (cI, 78, .inl P)), (m2, .inl (cI, 78, .inl A0)), (m5, .inl (cZ, 169, .inl (xf_z (xm_G (xk_c gc P A0) up.toInt64 dn.toInt64 dc gd)))), (m6, .inl (cZ, 169, .inl (xf_z (xm_B (xk_c gc P A0) up.toInt64 dn.toInt64 dc bd)))), (m7, .inl (cZ, 169, .inl (xf_z ((xm_K dc (xm_L dc lf) (xm_G (xk_c gc P A0) up.toInt64 dn.toInt64 dc gd) ch st).1)))), (m8, .inl (cI, 169, .inl ((xm_K dc (xm_L dc lf) (xm_G (xk_c gc P A0) up.toInt64 dn.toInt64 dc gd) ch st).2.1))), (m9, .inl (cZ, 13, .inl (xf_z (xm_L dc lf))))]) := by
  refine xc_Wi_of (by decide) (Nat.le_of_ble_eq_true rfl) ?_
  intro p e s m args below meth c Q ls A hAt hP hK hD hA hS hl hret
  obtain ⟨hx, hb, hml, hown, hts, hgs, hlk⟩ := id hAt
  have hT : ∀ w ∈ xw_g, w ∈ xc_ws xy_M_passes xb_M_passes 3 (some .boolean) := fun w h => List.mem_cons_of_mem _ h
  have hown : s.vm.findClass "WishLedgerModel" = some m.cls := hown
  obtain ⟨H, hH0⟩ : ∃ H, H = s.heap := ⟨_, rfl⟩
  obtain ⟨locs, hL0⟩ : ∃ locs : List Loc, locs = [] := ⟨_, rfl⟩
  have hP : va_P D xn_cl [(m0, .inr (6, [.int cd, .int (nI gc), .int (nI dc), .ref m1, .ref m2, .ref m3, .ref m4, .ref m5, .ref m6, .ref m7, .ref m8, .ref m9, .ref m10])), (m1, .inl (cI, 78, .inl P)), (m2, .inl (cI, 78, .inl A0)), (m5, .inl (cZ, 169, .inl (xf_z gd))), (m6, .inl (cZ, 169, .inl (xf_z bd))), (m7, .inl (cZ, 169, .inl (xf_z ch))), (m8, .inl (cI, 169, .inl st)), (m9, .inl (cZ, 13, .inl (xf_z lf)))] H := by rw [hH0]; exact hP
  have hS : va_S A s.heap H locs := by rw [hH0, hL0]; exact hS
  suffices hgo : W p l e (xc_rm 3 0 0) s m args below meth c H locs 0 0 Q (F0 m 0 ls []) by rw [hH0, hL0] at hgo; exact hgo
  clear hH0 hL0
  have hl : lv_has ls 3 [(0, .ref m0), (1, .int up), (2, .int dn)] := hl
  refine lv_aload_n hx hb xj_M_passes_0 rfl (lv_at hl 0 rfl) ?_
  refine lv_iload_n hx hb xj_M_passes_1 rfl (lv_at hl 2 rfl) ?_
  refine lv_iconst (v := nI 1) hx hb xj_M_passes_2 (by decide) ?_
  refine lv_ldc (v := nI 1000000) hx hb hown (hgs _ xw_666) xj_M_passes_3 ?_
  refine xc_callS (av := [.int dn, .int (nI 1), .int (nI 1000000)]) (rest := [.ref m0]) hAt hT (xt_M_in l D cI cZ cJ dn (nI 1) (nI 1000000)) xw_579 xw_7 xw_581 xw_580 (na := 3) rfl (by decide +kernel) ⟨Nat.le_of_ble_eq_true rfl, Nat.le_of_ble_eq_true rfl⟩ (hP.sub (ws' := []) [] rfl) hK hl.1 (Nat.le_of_ble_eq_true rfl) ⟨Nat.zero_le _, Nat.zero_le _⟩ xj_M_passes_5 ?_
  refine xr_top (y := nI 1) (by rw [(Bool.and_eq_true_iff.mp hok).1]; rfl) ?_
  refine xr_ifeqN (tgt := 24) hx hb (by omega) xj_M_passes_8 rfl (fun h8 => absurd h8 (by omega)) (fun h8 => ?_)
  refine lv_iload_n hx hb xj_M_passes_11 rfl (lv_at hl 1 rfl) ?_
  refine lv_iconst (v := nI 1) hx hb xj_M_passes_12 (by decide) ?_
  refine lv_iload_n hx hb xj_M_passes_13 rfl (lv_at hl 2 rfl) ?_
  refine xc_callS (av := [.int up, .int (nI 1), .int dn]) (rest := [.ref m0]) hAt hT (xt_M_in l D cI cZ cJ up (nI 1) dn) xw_579 xw_7 xw_581 xw_580 (na := 3) rfl (by decide +kernel) ⟨Nat.le_of_ble_eq_true rfl, Nat.le_of_ble_eq_true rfl⟩ (hP.sub (ws' := []) [] rfl) hK hl.1 (Nat.le_of_ble_eq_true rfl) ⟨Nat.zero_le _, Nat.zero_le _⟩ xj_M_passes_14 ?_
  refine xr_top (y := nI 1) (by rw [(Bool.and_eq_true_iff.mp hok).2]; rfl) ?_
  refine xr_ifeqN (tgt := 24) hx hb (by omega) xj_M_passes_17 rfl (fun h17 => absurd h17 (by omega)) (fun h17 => ?_)
  refine lv_iconst (v := nI 0) hx hb xj_M_passes_20 (by decide) ?_
  refine lv_goto (tgt := 25) hx hb xj_M_passes_21 rfl ?_
  refine va_put (D := D) (ci := 6) (v := .int (nI 0)) (ty := .int) (C := xn_M) (T := xn_TM) (N := 13) hx hb hgs xw_uM xn_tM xn_oM xn_nM hown hK.1 hP hD hS 0 rfl rfl 0 (by decide) (hgs _ xw_530) (fun _ h9 => h9) rfl (by decide +kernel) rfl rfl (Nat.le_of_ble_eq_true rfl) xj_M_passes_25 (fun H locs hP hD hS => ?_)
  have hP : va_P D xn_cl [(m0, .inr (6, [.int (nI 0), .int (nI gc), .int (nI dc), .ref m1, .ref m2, .ref m3, .ref m4, .ref m5, .ref m6, .ref m7, .ref m8, .ref m9, .ref m10])), (m1, .inl (cI, 78, .inl P)), (m2, .inl (cI, 78, .inl A0)), (m5, .inl (cZ, 169, .inl (xf_z gd))), (m6, .inl (cZ, 169, .inl (xf_z bd))), (m7, .inl (cZ, 169, .inl (xf_z ch))), (m8, .inl (cI, 169, .inl st)), (m9, .inl (cZ, 13, .inl (xf_z lf)))] H := hP
  have hD : va_D A [(m0, .inr (6, [.int (nI 0), .int (nI gc), .int (nI dc), .ref m1, .ref m2, .ref m3, .ref m4, .ref m5, .ref m6, .ref m7, .ref m8, .ref m9, .ref m10])), (m1, .inl (cI, 78, .inl P)), (m2, .inl (cI, 78, .inl A0)), (m5, .inl (cZ, 169, .inl (xf_z gd))), (m6, .inl (cZ, 169, .inl (xf_z bd))), (m7, .inl (cZ, 169, .inl (xf_z ch))), (m8, .inl (cI, 169, .inl st)), (m9, .inl (cZ, 13, .inl (xf_z lf)))] := hD
  refine lv_aload_n hx hb xj_M_passes_28 rfl (lv_at hl 0 rfl) ?_
  refine va_get (D := D) (ci := 6) (v := .int (nI 0)) (C := xn_M) (T := xn_TM) (N := 13) hx hb hgs xw_uM hown hK.1 hP 0 rfl rfl 0 (by decide) (hgs _ xw_530) (fun _ h9 => h9) rfl xj_M_passes_29 ?_
  refine lv_if_le (tgt := 37) hx hb xj_M_passes_32 rfl (fun h32 => ?_) (fun h32 => absurd h32 (by decide +kernel))
  refine lv_aload_n hx hb xj_M_passes_37 rfl (lv_at hl 0 rfl) ?_
  refine lv_aload_n hx hb xj_M_passes_38 rfl (lv_at hl 0 rfl) ?_
  refine va_get (D := D) (ci := 6) (v := .int (nI dc)) (C := xn_M) (T := xn_TM) (N := 13) hx hb hgs xw_uM hown hK.1 hP 0 rfl rfl 2 (by decide) (hgs _ xw_532) (fun _ h9 => h9) rfl xj_M_passes_39 ?_
  refine lv_iload_n hx hb xj_M_passes_42 rfl (lv_at hl 1 rfl) ?_
  refine lv_i2l hx hb xj_M_passes_43 rfl ?_
  refine lv_iload_n hx hb xj_M_passes_44 rfl (lv_at hl 2 rfl) ?_
  refine lv_i2l hx hb xj_M_passes_45 rfl ?_
  refine xc_wVv (av := [.int (nI dc), .long up.toInt64, .long dn.toInt64]) (rest := []) (wr := [(m7, .inl (cZ, 169, .inl (xf_z ch))), (m8, .inl (cI, 169, .inl st))]) hAt hT (xt_M_relate l D cI cZ cJ m0 m1 m2 m3 m4 m5 m6 m7 m8 m9 m10 (nI 0) gc dc P A0 gd bd lf dc up.toInt64 dn.toInt64 (by omega) (by omega)) xw_622 xw_7 xw_625 xw_624 xs_M_relate (C0 := xn_M) (q0 := 0) rfl rfl (na := 3) rfl (by decide +kernel) ⟨Nat.le_of_ble_eq_true rfl, Nat.le_of_ble_eq_true rfl⟩ hP hD hS hA [0, 1, 2, 3, 4, 7] [5, 6] rfl rfl (by decide) (by decide) (by decide) hK hl.1 (Nat.le_of_ble_eq_true rfl) ⟨Nat.zero_le _, Nat.zero_le _⟩ xj_M_passes_46 (fun _ H locs _ hP hD hS => ?_)
  have hP : va_P D xn_cl [(m0, .inr (6, [.int (nI 0), .int (nI gc), .int (nI dc), .ref m1, .ref m2, .ref m3, .ref m4, .ref m5, .ref m6, .ref m7, .ref m8, .ref m9, .ref m10])), (m1, .inl (cI, 78, .inl P)), (m2, .inl (cI, 78, .inl A0)), (m5, .inl (cZ, 169, .inl (xf_z (xm_G (xk_c gc P A0) up.toInt64 dn.toInt64 dc gd)))), (m6, .inl (cZ, 169, .inl (xf_z (xm_B (xk_c gc P A0) up.toInt64 dn.toInt64 dc bd)))), (m7, .inl (cZ, 169, .inl (xf_z ch))), (m8, .inl (cI, 169, .inl st)), (m9, .inl (cZ, 13, .inl (xf_z (xm_L dc lf))))] H := va_P.sub hP [2, 3, 4, 5, 6, 0, 1, 7] rfl
  have hD : va_D A [(m0, .inr (6, [.int (nI 0), .int (nI gc), .int (nI dc), .ref m1, .ref m2, .ref m3, .ref m4, .ref m5, .ref m6, .ref m7, .ref m8, .ref m9, .ref m10])), (m1, .inl (cI, 78, .inl P)), (m2, .inl (cI, 78, .inl A0)), (m5, .inl (cZ, 169, .inl (xf_z (xm_G (xk_c gc P A0) up.toInt64 dn.toInt64 dc gd)))), (m6, .inl (cZ, 169, .inl (xf_z (xm_B (xk_c gc P A0) up.toInt64 dn.toInt64 dc bd)))), (m7, .inl (cZ, 169, .inl (xf_z ch))), (m8, .inl (cI, 169, .inl st)), (m9, .inl (cZ, 13, .inl (xf_z (xm_L dc lf))))] := va_D.sub hD [2, 3, 4, 5, 6, 0, 1, 7] (by decide) rfl
  refine lv_aload_n hx hb xj_M_passes_49 rfl (lv_at hl 0 rfl) ?_
  refine lv_aload_n hx hb xj_M_passes_50 rfl (lv_at hl 0 rfl) ?_
  refine va_get (D := D) (ci := 6) (v := .int (nI dc)) (C := xn_M) (T := xn_TM) (N := 13) hx hb hgs xw_uM hown hK.1 hP 0 rfl rfl 2 (by decide) (hgs _ xw_532) (fun _ h9 => h9) rfl xj_M_passes_51 ?_
  refine xc_wVi (av := [.int (nI dc)]) (rest := []) (wr := [(m1, .inl (cI, 78, .inl P)), (m2, .inl (cI, 78, .inl A0))]) hAt hT (xt_M_isFine l D cI cZ cJ m0 m1 m2 m3 m4 m5 m6 m7 m8 m9 m10 (nI 0) gc dc (xm_G (xk_c gc P A0) up.toInt64 dn.toInt64 dc gd) (xm_B (xk_c gc P A0) up.toInt64 dn.toInt64 dc bd) ch st (xm_L dc lf) dc (by omega)) xw_638 xw_7 xw_641 xw_640 xs_M_isFine (C0 := xn_M) (q0 := 0) rfl rfl (na := 1) rfl (by decide +kernel) ⟨Nat.le_of_ble_eq_true rfl, Nat.le_of_ble_eq_true rfl⟩ hP hD hS hA [0, 3, 4, 5, 6, 7] [1, 2] rfl rfl (by decide) (by decide) (by decide) hK hl.1 (Nat.le_of_ble_eq_true rfl) ⟨Nat.zero_le _, Nat.zero_le _⟩ xj_M_passes_54 (fun r54 _ H locs hr54 hP hD hS => ?_)
  obtain rfl : r54 = xf_bI (!xm_nf dc (xm_L dc lf) (xm_B (xk_c gc P A0) up.toInt64 dn.toInt64 dc bd) (xm_K dc (xm_L dc lf) (xm_G (xk_c gc P A0) up.toInt64 dn.toInt64 dc gd) ch st).1) := hr54
  have hP : va_P D xn_cl [(m0, .inr (6, [.int (nI 0), .int (nI gc), .int (nI dc), .ref m1, .ref m2, .ref m3, .ref m4, .ref m5, .ref m6, .ref m7, .ref m8, .ref m9, .ref m10])), (m1, .inl (cI, 78, .inl P)), (m2, .inl (cI, 78, .inl A0)), (m5, .inl (cZ, 169, .inl (xf_z (xm_G (xk_c gc P A0) up.toInt64 dn.toInt64 dc gd)))), (m6, .inl (cZ, 169, .inl (xf_z (xm_B (xk_c gc P A0) up.toInt64 dn.toInt64 dc bd)))), (m7, .inl (cZ, 169, .inl (xf_z ((xm_K dc (xm_L dc lf) (xm_G (xk_c gc P A0) up.toInt64 dn.toInt64 dc gd) ch st).1)))), (m8, .inl (cI, 169, .inl ((xm_K dc (xm_L dc lf) (xm_G (xk_c gc P A0) up.toInt64 dn.toInt64 dc gd) ch st).2.1))), (m9, .inl (cZ, 13, .inl (xf_z (xm_L dc lf))))] H := va_P.sub hP [2, 0, 1, 3, 4, 5, 6, 7] rfl
  have hD : va_D A [(m0, .inr (6, [.int (nI 0), .int (nI gc), .int (nI dc), .ref m1, .ref m2, .ref m3, .ref m4, .ref m5, .ref m6, .ref m7, .ref m8, .ref m9, .ref m10])), (m1, .inl (cI, 78, .inl P)), (m2, .inl (cI, 78, .inl A0)), (m5, .inl (cZ, 169, .inl (xf_z (xm_G (xk_c gc P A0) up.toInt64 dn.toInt64 dc gd)))), (m6, .inl (cZ, 169, .inl (xf_z (xm_B (xk_c gc P A0) up.toInt64 dn.toInt64 dc bd)))), (m7, .inl (cZ, 169, .inl (xf_z ((xm_K dc (xm_L dc lf) (xm_G (xk_c gc P A0) up.toInt64 dn.toInt64 dc gd) ch st).1)))), (m8, .inl (cI, 169, .inl ((xm_K dc (xm_L dc lf) (xm_G (xk_c gc P A0) up.toInt64 dn.toInt64 dc gd) ch st).2.1))), (m9, .inl (cZ, 13, .inl (xf_z (xm_L dc lf))))] := va_D.sub hD [2, 0, 1, 3, 4, 5, 6, 7] (by decide) rfl
  exact hret (xf_bI (!xm_nf dc (xm_L dc lf) (xm_B (xk_c gc P A0) up.toInt64 dn.toInt64 dc bd) (xm_K dc (xm_L dc lf) (xm_G (xk_c gc P A0) up.toInt64 dn.toInt64 dc gd) ch st).1)) (()) H locs _ ls rfl (xf_nar_b _) hP hD hS xj_M_passes_57
set_option maxRecDepth 100000 in
set_option maxHeartbeats 4000000 in
theorem xt_M_passes_no (l : Launch) (D : va_G) (cI cZ cJ : ClassId) (m0 m1 m2 m3 m4 m5 m6 m7 m8 m9 m10 : Nat) (cd : Int32) (gc dc : Nat) (up dn : Int32) (hno : xo_fr up dn = false) : xc_Wi l xy_M_passes xb_M_passes 3 .boolean 3 0 0 [.ref m0, .int up, .int dn] D cI cZ cJ [(m0, .inr (6, [.int cd, .int (nI gc), .int (nI dc), .ref m1, .ref m2, .ref m3, .ref m4, .ref m5, .ref m6, .ref m7, .ref m8, .ref m9, .ref m10]))] (Unit) (fun _ _ => True) (fun _ => [(m0, .inr (6, [.int (nI 1), .int (nI gc), .int (nI dc), .ref m1, .ref m2, .ref m3, .ref m4, .ref m5, .ref m6, .ref m7, .ref m8, .ref m9, .ref m10]))]) := by
  refine xc_Wi_of (by decide) (Nat.le_of_ble_eq_true rfl) ?_
  intro p e s m args below meth c Q ls A hAt hP hK hD hA hS hl hret
  obtain ⟨hx, hb, hml, hown, hts, hgs, hlk⟩ := id hAt
  have hT : ∀ w ∈ xw_g, w ∈ xc_ws xy_M_passes xb_M_passes 3 (some .boolean) := fun w h => List.mem_cons_of_mem _ h
  have hown : s.vm.findClass "WishLedgerModel" = some m.cls := hown
  obtain ⟨H, hH0⟩ : ∃ H, H = s.heap := ⟨_, rfl⟩
  obtain ⟨locs, hL0⟩ : ∃ locs : List Loc, locs = [] := ⟨_, rfl⟩
  have hP : va_P D xn_cl [(m0, .inr (6, [.int cd, .int (nI gc), .int (nI dc), .ref m1, .ref m2, .ref m3, .ref m4, .ref m5, .ref m6, .ref m7, .ref m8, .ref m9, .ref m10]))] H := by rw [hH0]; exact hP
  have hS : va_S A s.heap H locs := by rw [hH0, hL0]; exact hS
  suffices hgo : W p l e (xc_rm 3 0 0) s m args below meth c H locs 0 0 Q (F0 m 0 ls []) by rw [hH0, hL0] at hgo; exact hgo
  clear hH0 hL0
  have hl : lv_has ls 3 [(0, .ref m0), (1, .int up), (2, .int dn)] := hl
  refine lv_aload_n hx hb xj_M_passes_0 rfl (lv_at hl 0 rfl) ?_
  refine lv_iload_n hx hb xj_M_passes_1 rfl (lv_at hl 2 rfl) ?_
  refine lv_iconst (v := nI 1) hx hb xj_M_passes_2 (by decide) ?_
  refine lv_ldc (v := nI 1000000) hx hb hown (hgs _ xw_666) xj_M_passes_3 ?_
  refine xc_callS (av := [.int dn, .int (nI 1), .int (nI 1000000)]) (rest := [.ref m0]) hAt hT (xt_M_in l D cI cZ cJ dn (nI 1) (nI 1000000)) xw_579 xw_7 xw_581 xw_580 (na := 3) rfl (by decide +kernel) ⟨Nat.le_of_ble_eq_true rfl, Nat.le_of_ble_eq_true rfl⟩ (hP.sub (ws' := []) [] rfl) hK hl.1 (Nat.le_of_ble_eq_true rfl) ⟨Nat.zero_le _, Nat.zero_le _⟩ xj_M_passes_5 ?_
  refine xr_ifeq (tgt := 24) hx hb xj_M_passes_8 rfl (fun h8 => ?_) (fun h8 => ?_)
  · -- 24
    refine lv_iconst (v := nI 1) hx hb xj_M_passes_24 (by decide) ?_
    refine va_put (D := D) (ci := 6) (v := .int (nI 1)) (ty := .int) (C := xn_M) (T := xn_TM) (N := 13) hx hb hgs xw_uM xn_tM xn_oM xn_nM hown hK.1 hP hD hS 0 rfl rfl 0 (by decide) (hgs _ xw_530) (fun _ h9 => h9) rfl (by decide +kernel) rfl rfl (Nat.le_of_ble_eq_true rfl) xj_M_passes_25 (fun H locs hP hD hS => ?_)
    have hP : va_P D xn_cl [(m0, .inr (6, [.int (nI 1), .int (nI gc), .int (nI dc), .ref m1, .ref m2, .ref m3, .ref m4, .ref m5, .ref m6, .ref m7, .ref m8, .ref m9, .ref m10]))] H := hP
    have hD : va_D A [(m0, .inr (6, [.int (nI 1), .int (nI gc), .int (nI dc), .ref m1, .ref m2, .ref m3, .ref m4, .ref m5, .ref m6, .ref m7, .ref m8, .ref m9, .ref m10]))] := hD
    refine lv_aload_n hx hb xj_M_passes_28 rfl (lv_at hl 0 rfl) ?_
    refine va_get (D := D) (ci := 6) (v := .int (nI 1)) (C := xn_M) (T := xn_TM) (N := 13) hx hb hgs xw_uM hown hK.1 hP 0 rfl rfl 0 (by decide) (hgs _ xw_530) (fun _ h9 => h9) rfl xj_M_passes_29 ?_
    refine lv_if_le (tgt := 37) hx hb xj_M_passes_32 rfl (fun h32 => absurd h32 (by decide +kernel)) (fun h32 => ?_)
    refine lv_iconst (v := nI 0) hx hb xj_M_passes_35 (by decide) ?_
    exact hret (nI 0) (()) H locs _ ls trivial (xf_nar_b false) hP hD hS xj_M_passes_36
  · -- 11
    refine lv_iload_n hx hb xj_M_passes_11 rfl (lv_at hl 1 rfl) ?_
    refine lv_iconst (v := nI 1) hx hb xj_M_passes_12 (by decide) ?_
    refine lv_iload_n hx hb xj_M_passes_13 rfl (lv_at hl 2 rfl) ?_
    refine xc_callS (av := [.int up, .int (nI 1), .int dn]) (rest := [.ref m0]) hAt hT (xt_M_in l D cI cZ cJ up (nI 1) dn) xw_579 xw_7 xw_581 xw_580 (na := 3) rfl (by decide +kernel) ⟨Nat.le_of_ble_eq_true rfl, Nat.le_of_ble_eq_true rfl⟩ (hP.sub (ws' := []) [] rfl) hK hl.1 (Nat.le_of_ble_eq_true rfl) ⟨Nat.zero_le _, Nat.zero_le _⟩ xj_M_passes_14 ?_
    refine xr_ifeq (tgt := 24) hx hb xj_M_passes_17 rfl (fun h17 => ?_) (fun h17 => ?_)
    · -- 24
      refine lv_iconst (v := nI 1) hx hb xj_M_passes_24 (by decide) ?_
      refine va_put (D := D) (ci := 6) (v := .int (nI 1)) (ty := .int) (C := xn_M) (T := xn_TM) (N := 13) hx hb hgs xw_uM xn_tM xn_oM xn_nM hown hK.1 hP hD hS 0 rfl rfl 0 (by decide) (hgs _ xw_530) (fun _ h9 => h9) rfl (by decide +kernel) rfl rfl (Nat.le_of_ble_eq_true rfl) xj_M_passes_25 (fun H locs hP hD hS => ?_)
      have hP : va_P D xn_cl [(m0, .inr (6, [.int (nI 1), .int (nI gc), .int (nI dc), .ref m1, .ref m2, .ref m3, .ref m4, .ref m5, .ref m6, .ref m7, .ref m8, .ref m9, .ref m10]))] H := hP
      have hD : va_D A [(m0, .inr (6, [.int (nI 1), .int (nI gc), .int (nI dc), .ref m1, .ref m2, .ref m3, .ref m4, .ref m5, .ref m6, .ref m7, .ref m8, .ref m9, .ref m10]))] := hD
      refine lv_aload_n hx hb xj_M_passes_28 rfl (lv_at hl 0 rfl) ?_
      refine va_get (D := D) (ci := 6) (v := .int (nI 1)) (C := xn_M) (T := xn_TM) (N := 13) hx hb hgs xw_uM hown hK.1 hP 0 rfl rfl 0 (by decide) (hgs _ xw_530) (fun _ h9 => h9) rfl xj_M_passes_29 ?_
      refine lv_if_le (tgt := 37) hx hb xj_M_passes_32 rfl (fun h32 => absurd h32 (by decide +kernel)) (fun h32 => ?_)
      refine lv_iconst (v := nI 0) hx hb xj_M_passes_35 (by decide) ?_
      exact hret (nI 0) (()) H locs _ ls trivial (xf_nar_b false) hP hD hS xj_M_passes_36
    · -- 20
      refine lv_iconst (v := nI 0) hx hb xj_M_passes_20 (by decide) ?_
      refine lv_goto (tgt := 25) hx hb xj_M_passes_21 rfl ?_
      refine va_put (D := D) (ci := 6) (v := .int (nI 0)) (ty := .int) (C := xn_M) (T := xn_TM) (N := 13) hx hb hgs xw_uM xn_tM xn_oM xn_nM hown hK.1 hP hD hS 0 rfl rfl 0 (by decide) (hgs _ xw_530) (fun _ h9 => h9) rfl (by decide +kernel) rfl rfl (Nat.le_of_ble_eq_true rfl) xj_M_passes_25 (fun H locs hP hD hS => ?_)
      have hP : va_P D xn_cl [(m0, .inr (6, [.int (nI 0), .int (nI gc), .int (nI dc), .ref m1, .ref m2, .ref m3, .ref m4, .ref m5, .ref m6, .ref m7, .ref m8, .ref m9, .ref m10]))] H := hP
      have hD : va_D A [(m0, .inr (6, [.int (nI 0), .int (nI gc), .int (nI dc), .ref m1, .ref m2, .ref m3, .ref m4, .ref m5, .ref m6, .ref m7, .ref m8, .ref m9, .ref m10]))] := hD
      refine lv_aload_n hx hb xj_M_passes_28 rfl (lv_at hl 0 rfl) ?_
      refine va_get (D := D) (ci := 6) (v := .int (nI 0)) (C := xn_M) (T := xn_TM) (N := 13) hx hb hgs xw_uM hown hK.1 hP 0 rfl rfl 0 (by decide) (hgs _ xw_530) (fun _ h9 => h9) rfl xj_M_passes_29 ?_
      refine lv_if_le (tgt := 37) hx hb xj_M_passes_32 rfl (fun h32 => ?_) (fun h32 => absurd h32 (by decide +kernel))
      exact absurd hno (by rw [xo_fr_t h8 h17]; decide)
set_option maxRecDepth 100000 in
set_option maxHeartbeats 4000000 in
theorem xt_M_offer_ok (l : Launch) (D : va_G) (cI cZ cJ : ClassId) (m0 m1 m2 m3 m4 m5 m6 m7 m8 m9 m10 : Nat) (cd : Int32) (gc dc : Nat) (oP : Nat → Int32) (oA : Nat → Int32) (kg : Nat) (pr am : Int32) (hkg : kg < gc) (hp : xo_rg pr (nI 1) (nI 99) = true) (ha : xo_rg am (nI 0) (nI 99) = true) (hg : gc ≤ 6) : xc_Wv l xy_M_offer xb_M_offer 4 2 0 0 [.ref m0, .int (nI kg), .int pr, .int am] D cI cZ cJ [(m0, .inr (6, [.int cd, .int (nI gc), .int (nI dc), .ref m1, .ref m2, .ref m3, .ref m4, .ref m5, .ref m6, .ref m7, .ref m8, .ref m9, .ref m10])), (m3, .inl (cI, 6, .inl oP)), (m4, .inl (cI, 6, .inl oA))] (Unit) (fun _ => True) (fun _ => [(m0, .inr (6, [.int (nI 0), .int (nI gc), .int (nI dc), .ref m1, .ref m2, .ref m3, .ref m4, .ref m5, .ref m6, .ref m7, .ref m8, .ref m9, .ref m10])), (m3, .inl (cI, 6, .inl (upd oP kg pr))), (m4, .inl (cI, 6, .inl (upd oA kg am)))]) := by
  refine xc_Wv_of (by decide) (Nat.le_of_ble_eq_true rfl) ?_
  intro p e s m args below meth c Q ls A hAt hin hP hK hD hA hS hl hret
  obtain ⟨hx, hb, hml, hown, hts, hgs, hlk⟩ := id hAt
  have hT : ∀ w ∈ xw_g, w ∈ xc_ws xy_M_offer xb_M_offer 4 (none) := fun w h => List.mem_cons_of_mem _ h
  have hown : s.vm.findClass "WishLedgerModel" = some m.cls := hown
  obtain ⟨H, hH0⟩ : ∃ H, H = s.heap := ⟨_, rfl⟩
  obtain ⟨locs, hL0⟩ : ∃ locs : List Loc, locs = [] := ⟨_, rfl⟩
  have hP : va_P D xn_cl [(m0, .inr (6, [.int cd, .int (nI gc), .int (nI dc), .ref m1, .ref m2, .ref m3, .ref m4, .ref m5, .ref m6, .ref m7, .ref m8, .ref m9, .ref m10])), (m3, .inl (cI, 6, .inl oP)), (m4, .inl (cI, 6, .inl oA))] H := by rw [hH0]; exact hP
  have hS : va_S A s.heap H locs := by rw [hH0, hL0]; exact hS
  suffices hgo : W p l e (xc_rm 2 0 0) s m args below meth c H locs 0 0 Q (F0 m 0 ls []) by rw [hH0, hL0] at hgo; exact hgo
  clear hH0 hL0
  have hl : lv_has ls 4 [(0, .ref m0), (1, .int (nI kg)), (2, .int pr), (3, .int am)] := hl
  refine lv_aload_n hx hb xj_M_offer_0 rfl (lv_at hl 0 rfl) ?_
  refine lv_iload_n hx hb xj_M_offer_1 rfl (lv_at hl 1 rfl) ?_
  refine lv_iconst (v := nI 0) hx hb xj_M_offer_2 (by decide) ?_
  refine lv_aload_n hx hb xj_M_offer_3 rfl (lv_at hl 0 rfl) ?_
  refine va_get (D := D) (ci := 6) (v := .int (nI gc)) (C := xn_M) (T := xn_TM) (N := 13) hx hb hgs xw_uM hown hK.1 hP 0 rfl rfl 1 (by decide) (hgs _ xw_531) (fun _ h9 => h9) rfl xj_M_offer_4 ?_
  refine lv_iconst (v := nI 1) hx hb xj_M_offer_7 (by decide) ?_
  refine lv_isub hx hb xj_M_offer_8 ?_
  refine xc_callS (av := [.int (nI kg), .int (nI 0), .int ((nI gc) - (nI 1))]) (rest := [.ref m0]) hAt hT (xt_M_in l D cI cZ cJ (nI kg) (nI 0) ((nI gc) - (nI 1))) xw_579 xw_7 xw_581 xw_580 (na := 3) rfl (by decide +kernel) ⟨Nat.le_of_ble_eq_true rfl, Nat.le_of_ble_eq_true rfl⟩ (hP.sub (ws' := []) [] rfl) hK hl.1 (Nat.le_of_ble_eq_true rfl) ⟨Nat.zero_le _, Nat.zero_le _⟩ xj_M_offer_9 ?_
  refine xr_top (y := nI 1) (by rw [xo_day (by omega), xo_in_n hkg (by omega)]; rfl) ?_
  refine xr_ifneN (tgt := 19) hx hb (by omega) xj_M_offer_12 rfl (fun h12 => ?_) (fun h12 => absurd h12 (by omega))
  refine lv_iload_n hx hb xj_M_offer_19 rfl (lv_at hl 2 rfl) ?_
  refine lv_iconst (v := nI 1) hx hb xj_M_offer_20 (by decide) ?_
  refine lv_bipush (v := nI 99) hx hb xj_M_offer_21 (by decide) ?_
  refine xc_callS (av := [.int pr, .int (nI 1), .int (nI 99)]) (rest := [.ref m0]) hAt hT (xt_M_in l D cI cZ cJ pr (nI 1) (nI 99)) xw_579 xw_7 xw_581 xw_580 (na := 3) rfl (by decide +kernel) ⟨Nat.le_of_ble_eq_true rfl, Nat.le_of_ble_eq_true rfl⟩ (hP.sub (ws' := []) [] rfl) hK hl.1 (Nat.le_of_ble_eq_true rfl) ⟨Nat.zero_le _, Nat.zero_le _⟩ xj_M_offer_23 ?_
  refine xr_top (y := nI 1) (by rw [hp]; rfl) ?_
  refine xr_ifeqN (tgt := 39) hx hb (by omega) xj_M_offer_26 rfl (fun h26 => absurd h26 (by omega)) (fun h26 => ?_)
  refine lv_iload_n hx hb xj_M_offer_29 rfl (lv_at hl 3 rfl) ?_
  refine lv_iconst (v := nI 0) hx hb xj_M_offer_30 (by decide) ?_
  refine lv_bipush (v := nI 99) hx hb xj_M_offer_31 (by decide) ?_
  refine xc_callS (av := [.int am, .int (nI 0), .int (nI 99)]) (rest := [.ref m0]) hAt hT (xt_M_in l D cI cZ cJ am (nI 0) (nI 99)) xw_579 xw_7 xw_581 xw_580 (na := 3) rfl (by decide +kernel) ⟨Nat.le_of_ble_eq_true rfl, Nat.le_of_ble_eq_true rfl⟩ (hP.sub (ws' := []) [] rfl) hK hl.1 (Nat.le_of_ble_eq_true rfl) ⟨Nat.zero_le _, Nat.zero_le _⟩ xj_M_offer_33 ?_
  refine xr_top (y := nI 1) (by rw [ha]; rfl) ?_
  refine xr_ifneN (tgt := 43) hx hb (by omega) xj_M_offer_36 rfl (fun h36 => ?_) (fun h36 => absurd h36 (by omega))
  refine lv_iconst (v := nI 0) hx hb xj_M_offer_43 (by decide) ?_
  refine va_put (D := D) (ci := 6) (v := .int (nI 0)) (ty := .int) (C := xn_M) (T := xn_TM) (N := 13) hx hb hgs xw_uM xn_tM xn_oM xn_nM hown hK.1 hP hD hS 0 rfl rfl 0 (by decide) (hgs _ xw_530) (fun _ h9 => h9) rfl (by decide +kernel) rfl rfl (Nat.le_of_ble_eq_true rfl) xj_M_offer_44 (fun H locs hP hD hS => ?_)
  have hP : va_P D xn_cl [(m0, .inr (6, [.int (nI 0), .int (nI gc), .int (nI dc), .ref m1, .ref m2, .ref m3, .ref m4, .ref m5, .ref m6, .ref m7, .ref m8, .ref m9, .ref m10])), (m3, .inl (cI, 6, .inl oP)), (m4, .inl (cI, 6, .inl oA))] H := hP
  have hD : va_D A [(m0, .inr (6, [.int (nI 0), .int (nI gc), .int (nI dc), .ref m1, .ref m2, .ref m3, .ref m4, .ref m5, .ref m6, .ref m7, .ref m8, .ref m9, .ref m10])), (m3, .inl (cI, 6, .inl oP)), (m4, .inl (cI, 6, .inl oA))] := hD
  refine lv_aload_n hx hb xj_M_offer_47 rfl (lv_at hl 0 rfl) ?_
  refine va_get (D := D) (ci := 6) (v := .int (nI 0)) (C := xn_M) (T := xn_TM) (N := 13) hx hb hgs xw_uM hown hK.1 hP 0 rfl rfl 0 (by decide) (hgs _ xw_530) (fun _ h9 => h9) rfl xj_M_offer_48 ?_
  refine lv_if_le (tgt := 55) hx hb xj_M_offer_51 rfl (fun h51 => ?_) (fun h51 => absurd h51 (by decide +kernel))
  refine lv_aload_n hx hb xj_M_offer_55 rfl (lv_at hl 0 rfl) ?_
  refine va_get (D := D) (ci := 6) (v := .ref m3) (C := xn_M) (T := xn_TM) (N := 13) hx hb hgs xw_uM hown hK.1 hP 0 rfl rfl 5 (by decide) (hgs _ xw_535) (fun _ h9 => h9) rfl xj_M_offer_56 ?_
  refine lv_iload_n hx hb xj_M_offer_59 rfl (lv_at hl 1 rfl) ?_
  refine lv_iload_n hx hb xj_M_offer_60 rfl (lv_at hl 2 rfl) ?_
  refine xr_iast hx hb hK.1 hP hD hS 1 0 rfl rfl (by omega) (by decide) xj_M_offer_61 (fun H locs hP hD hS => ?_)
  have hP : va_P D xn_cl [(m0, .inr (6, [.int (nI 0), .int (nI gc), .int (nI dc), .ref m1, .ref m2, .ref m3, .ref m4, .ref m5, .ref m6, .ref m7, .ref m8, .ref m9, .ref m10])), (m3, .inl (cI, 6, .inl (upd oP kg pr))), (m4, .inl (cI, 6, .inl oA))] H := hP
  have hD : va_D A [(m0, .inr (6, [.int (nI 0), .int (nI gc), .int (nI dc), .ref m1, .ref m2, .ref m3, .ref m4, .ref m5, .ref m6, .ref m7, .ref m8, .ref m9, .ref m10])), (m3, .inl (cI, 6, .inl (upd oP kg pr))), (m4, .inl (cI, 6, .inl oA))] := hD
  refine lv_aload_n hx hb xj_M_offer_62 rfl (lv_at hl 0 rfl) ?_
  refine va_get (D := D) (ci := 6) (v := .ref m4) (C := xn_M) (T := xn_TM) (N := 13) hx hb hgs xw_uM hown hK.1 hP 0 rfl rfl 6 (by decide) (hgs _ xw_536) (fun _ h9 => h9) rfl xj_M_offer_63 ?_
  refine lv_iload_n hx hb xj_M_offer_66 rfl (lv_at hl 1 rfl) ?_
  refine lv_iload_n hx hb xj_M_offer_67 rfl (lv_at hl 3 rfl) ?_
  refine xr_iast hx hb hK.1 hP hD hS 2 0 rfl rfl (by omega) (by decide) xj_M_offer_68 (fun H locs hP hD hS => ?_)
  have hP : va_P D xn_cl [(m0, .inr (6, [.int (nI 0), .int (nI gc), .int (nI dc), .ref m1, .ref m2, .ref m3, .ref m4, .ref m5, .ref m6, .ref m7, .ref m8, .ref m9, .ref m10])), (m3, .inl (cI, 6, .inl (upd oP kg pr))), (m4, .inl (cI, 6, .inl (upd oA kg am)))] H := hP
  have hD : va_D A [(m0, .inr (6, [.int (nI 0), .int (nI gc), .int (nI dc), .ref m1, .ref m2, .ref m3, .ref m4, .ref m5, .ref m6, .ref m7, .ref m8, .ref m9, .ref m10])), (m3, .inl (cI, 6, .inl (upd oP kg pr))), (m4, .inl (cI, 6, .inl (upd oA kg am)))] := hD
  exact hret (()) H locs _ ls trivial hP hD hS xj_M_offer_69
set_option maxRecDepth 100000 in
set_option maxHeartbeats 4000000 in
theorem xt_M_offer_no (l : Launch) (D : va_G) (cI cZ cJ : ClassId) (m0 m1 m2 m3 m4 m5 m6 m7 m8 m9 m10 : Nat) (cd : Int32) (gc dc : Nat) (g pr am : Int32) (hno : ¬ xo_off gc g (xo_rg pr (nI 1) (nI 99) && xo_rg am (nI 0) (nI 99)) = 0) (hg : gc ≤ 6) : xc_Wv l xy_M_offer xb_M_offer 4 2 0 0 [.ref m0, .int g, .int pr, .int am] D cI cZ cJ [(m0, .inr (6, [.int cd, .int (nI gc), .int (nI dc), .ref m1, .ref m2, .ref m3, .ref m4, .ref m5, .ref m6, .ref m7, .ref m8, .ref m9, .ref m10]))] (Unit) (fun _ => True) (fun _ => [(m0, .inr (6, [.int (nI (xo_off gc g (xo_rg pr (nI 1) (nI 99) && xo_rg am (nI 0) (nI 99)))), .int (nI gc), .int (nI dc), .ref m1, .ref m2, .ref m3, .ref m4, .ref m5, .ref m6, .ref m7, .ref m8, .ref m9, .ref m10]))]) := by
  refine xc_Wv_of (by decide) (Nat.le_of_ble_eq_true rfl) ?_
  intro p e s m args below meth c Q ls A hAt hin hP hK hD hA hS hl hret
  obtain ⟨hx, hb, hml, hown, hts, hgs, hlk⟩ := id hAt
  have hT : ∀ w ∈ xw_g, w ∈ xc_ws xy_M_offer xb_M_offer 4 (none) := fun w h => List.mem_cons_of_mem _ h
  have hown : s.vm.findClass "WishLedgerModel" = some m.cls := hown
  obtain ⟨H, hH0⟩ : ∃ H, H = s.heap := ⟨_, rfl⟩
  obtain ⟨locs, hL0⟩ : ∃ locs : List Loc, locs = [] := ⟨_, rfl⟩
  have hP : va_P D xn_cl [(m0, .inr (6, [.int cd, .int (nI gc), .int (nI dc), .ref m1, .ref m2, .ref m3, .ref m4, .ref m5, .ref m6, .ref m7, .ref m8, .ref m9, .ref m10]))] H := by rw [hH0]; exact hP
  have hS : va_S A s.heap H locs := by rw [hH0, hL0]; exact hS
  suffices hgo : W p l e (xc_rm 2 0 0) s m args below meth c H locs 0 0 Q (F0 m 0 ls []) by rw [hH0, hL0] at hgo; exact hgo
  clear hH0 hL0
  have hl : lv_has ls 4 [(0, .ref m0), (1, .int g), (2, .int pr), (3, .int am)] := hl
  refine lv_aload_n hx hb xj_M_offer_0 rfl (lv_at hl 0 rfl) ?_
  refine lv_iload_n hx hb xj_M_offer_1 rfl (lv_at hl 1 rfl) ?_
  refine lv_iconst (v := nI 0) hx hb xj_M_offer_2 (by decide) ?_
  refine lv_aload_n hx hb xj_M_offer_3 rfl (lv_at hl 0 rfl) ?_
  refine va_get (D := D) (ci := 6) (v := .int (nI gc)) (C := xn_M) (T := xn_TM) (N := 13) hx hb hgs xw_uM hown hK.1 hP 0 rfl rfl 1 (by decide) (hgs _ xw_531) (fun _ h9 => h9) rfl xj_M_offer_4 ?_
  refine lv_iconst (v := nI 1) hx hb xj_M_offer_7 (by decide) ?_
  refine lv_isub hx hb xj_M_offer_8 ?_
  refine xc_callS (av := [.int g, .int (nI 0), .int ((nI gc) - (nI 1))]) (rest := [.ref m0]) hAt hT (xt_M_in l D cI cZ cJ g (nI 0) ((nI gc) - (nI 1))) xw_579 xw_7 xw_581 xw_580 (na := 3) rfl (by decide +kernel) ⟨Nat.le_of_ble_eq_true rfl, Nat.le_of_ble_eq_true rfl⟩ (hP.sub (ws' := []) [] rfl) hK hl.1 (Nat.le_of_ble_eq_true rfl) ⟨Nat.zero_le _, Nat.zero_le _⟩ xj_M_offer_9 ?_
  refine xr_top (y := xf_bI (xo_in g gc)) (congrArg xf_bI (xo_day (by omega))) ?_
  refine xr_ifne (tgt := 19) hx hb xj_M_offer_12 rfl (fun h12 => ?_) (fun h12 => ?_)
  · -- 19
    refine lv_iload_n hx hb xj_M_offer_19 rfl (lv_at hl 2 rfl) ?_
    refine lv_iconst (v := nI 1) hx hb xj_M_offer_20 (by decide) ?_
    refine lv_bipush (v := nI 99) hx hb xj_M_offer_21 (by decide) ?_
    refine xc_callS (av := [.int pr, .int (nI 1), .int (nI 99)]) (rest := [.ref m0]) hAt hT (xt_M_in l D cI cZ cJ pr (nI 1) (nI 99)) xw_579 xw_7 xw_581 xw_580 (na := 3) rfl (by decide +kernel) ⟨Nat.le_of_ble_eq_true rfl, Nat.le_of_ble_eq_true rfl⟩ (hP.sub (ws' := []) [] rfl) hK hl.1 (Nat.le_of_ble_eq_true rfl) ⟨Nat.zero_le _, Nat.zero_le _⟩ xj_M_offer_23 ?_
    refine xr_ifeq (tgt := 39) hx hb xj_M_offer_26 rfl (fun h26 => ?_) (fun h26 => ?_)
    · -- 39
      refine lv_iconst (v := nI 2) hx hb xj_M_offer_39 (by decide) ?_
      refine lv_goto (tgt := 44) hx hb xj_M_offer_40 rfl ?_
      refine va_put (D := D) (ci := 6) (v := .int (nI 2)) (ty := .int) (C := xn_M) (T := xn_TM) (N := 13) hx hb hgs xw_uM xn_tM xn_oM xn_nM hown hK.1 hP hD hS 0 rfl rfl 0 (by decide) (hgs _ xw_530) (fun _ h9 => h9) rfl (by decide +kernel) rfl rfl (Nat.le_of_ble_eq_true rfl) xj_M_offer_44 (fun H locs hP hD hS => ?_)
      have hP : va_P D xn_cl [(m0, .inr (6, [.int (nI 2), .int (nI gc), .int (nI dc), .ref m1, .ref m2, .ref m3, .ref m4, .ref m5, .ref m6, .ref m7, .ref m8, .ref m9, .ref m10]))] H := hP
      have hD : va_D A [(m0, .inr (6, [.int (nI 2), .int (nI gc), .int (nI dc), .ref m1, .ref m2, .ref m3, .ref m4, .ref m5, .ref m6, .ref m7, .ref m8, .ref m9, .ref m10]))] := hD
      refine lv_aload_n hx hb xj_M_offer_47 rfl (lv_at hl 0 rfl) ?_
      refine va_get (D := D) (ci := 6) (v := .int (nI 2)) (C := xn_M) (T := xn_TM) (N := 13) hx hb hgs xw_uM hown hK.1 hP 0 rfl rfl 0 (by decide) (hgs _ xw_530) (fun _ h9 => h9) rfl xj_M_offer_48 ?_
      refine lv_if_le (tgt := 55) hx hb xj_M_offer_51 rfl (fun h51 => absurd h51 (by decide +kernel)) (fun h51 => ?_)
      have e9 : xo_off gc g (xo_rg pr (nI 1) (nI 99) && xo_rg am (nI 0) (nI 99)) = 2 := xo_off_v h12 (by rw [h26]; rfl)
      have hP : va_P D xn_cl [(m0, .inr (6, [.int (nI (xo_off gc g (xo_rg pr (nI 1) (nI 99) && xo_rg am (nI 0) (nI 99)))), .int (nI gc), .int (nI dc), .ref m1, .ref m2, .ref m3, .ref m4, .ref m5, .ref m6, .ref m7, .ref m8, .ref m9, .ref m10]))] H := by rw [e9]; exact hP
      have hD : va_D A [(m0, .inr (6, [.int (nI (xo_off gc g (xo_rg pr (nI 1) (nI 99) && xo_rg am (nI 0) (nI 99)))), .int (nI gc), .int (nI dc), .ref m1, .ref m2, .ref m3, .ref m4, .ref m5, .ref m6, .ref m7, .ref m8, .ref m9, .ref m10]))] := by rw [e9]; exact hD
      exact hret (()) H locs _ ls trivial hP hD hS xj_M_offer_54
    · -- 29
      refine lv_iload_n hx hb xj_M_offer_29 rfl (lv_at hl 3 rfl) ?_
      refine lv_iconst (v := nI 0) hx hb xj_M_offer_30 (by decide) ?_
      refine lv_bipush (v := nI 99) hx hb xj_M_offer_31 (by decide) ?_
      refine xc_callS (av := [.int am, .int (nI 0), .int (nI 99)]) (rest := [.ref m0]) hAt hT (xt_M_in l D cI cZ cJ am (nI 0) (nI 99)) xw_579 xw_7 xw_581 xw_580 (na := 3) rfl (by decide +kernel) ⟨Nat.le_of_ble_eq_true rfl, Nat.le_of_ble_eq_true rfl⟩ (hP.sub (ws' := []) [] rfl) hK hl.1 (Nat.le_of_ble_eq_true rfl) ⟨Nat.zero_le _, Nat.zero_le _⟩ xj_M_offer_33 ?_
      refine xr_ifne (tgt := 43) hx hb xj_M_offer_36 rfl (fun h36 => ?_) (fun h36 => ?_)
      · -- 43
        refine lv_iconst (v := nI 0) hx hb xj_M_offer_43 (by decide) ?_
        refine va_put (D := D) (ci := 6) (v := .int (nI 0)) (ty := .int) (C := xn_M) (T := xn_TM) (N := 13) hx hb hgs xw_uM xn_tM xn_oM xn_nM hown hK.1 hP hD hS 0 rfl rfl 0 (by decide) (hgs _ xw_530) (fun _ h9 => h9) rfl (by decide +kernel) rfl rfl (Nat.le_of_ble_eq_true rfl) xj_M_offer_44 (fun H locs hP hD hS => ?_)
        have hP : va_P D xn_cl [(m0, .inr (6, [.int (nI 0), .int (nI gc), .int (nI dc), .ref m1, .ref m2, .ref m3, .ref m4, .ref m5, .ref m6, .ref m7, .ref m8, .ref m9, .ref m10]))] H := hP
        have hD : va_D A [(m0, .inr (6, [.int (nI 0), .int (nI gc), .int (nI dc), .ref m1, .ref m2, .ref m3, .ref m4, .ref m5, .ref m6, .ref m7, .ref m8, .ref m9, .ref m10]))] := hD
        refine lv_aload_n hx hb xj_M_offer_47 rfl (lv_at hl 0 rfl) ?_
        refine va_get (D := D) (ci := 6) (v := .int (nI 0)) (C := xn_M) (T := xn_TM) (N := 13) hx hb hgs xw_uM hown hK.1 hP 0 rfl rfl 0 (by decide) (hgs _ xw_530) (fun _ h9 => h9) rfl xj_M_offer_48 ?_
        refine lv_if_le (tgt := 55) hx hb xj_M_offer_51 rfl (fun h51 => ?_) (fun h51 => absurd h51 (by decide +kernel))
        exact absurd (xo_off_0 h12 (by rw [h26, h36]; rfl)) hno
      · -- 39
        refine lv_iconst (v := nI 2) hx hb xj_M_offer_39 (by decide) ?_
        refine lv_goto (tgt := 44) hx hb xj_M_offer_40 rfl ?_
        refine va_put (D := D) (ci := 6) (v := .int (nI 2)) (ty := .int) (C := xn_M) (T := xn_TM) (N := 13) hx hb hgs xw_uM xn_tM xn_oM xn_nM hown hK.1 hP hD hS 0 rfl rfl 0 (by decide) (hgs _ xw_530) (fun _ h9 => h9) rfl (by decide +kernel) rfl rfl (Nat.le_of_ble_eq_true rfl) xj_M_offer_44 (fun H locs hP hD hS => ?_)
        have hP : va_P D xn_cl [(m0, .inr (6, [.int (nI 2), .int (nI gc), .int (nI dc), .ref m1, .ref m2, .ref m3, .ref m4, .ref m5, .ref m6, .ref m7, .ref m8, .ref m9, .ref m10]))] H := hP
        have hD : va_D A [(m0, .inr (6, [.int (nI 2), .int (nI gc), .int (nI dc), .ref m1, .ref m2, .ref m3, .ref m4, .ref m5, .ref m6, .ref m7, .ref m8, .ref m9, .ref m10]))] := hD
        refine lv_aload_n hx hb xj_M_offer_47 rfl (lv_at hl 0 rfl) ?_
        refine va_get (D := D) (ci := 6) (v := .int (nI 2)) (C := xn_M) (T := xn_TM) (N := 13) hx hb hgs xw_uM hown hK.1 hP 0 rfl rfl 0 (by decide) (hgs _ xw_530) (fun _ h9 => h9) rfl xj_M_offer_48 ?_
        refine lv_if_le (tgt := 55) hx hb xj_M_offer_51 rfl (fun h51 => absurd h51 (by decide +kernel)) (fun h51 => ?_)
        have e9 : xo_off gc g (xo_rg pr (nI 1) (nI 99) && xo_rg am (nI 0) (nI 99)) = 2 := xo_off_v h12 (by rw [h26, h36]; rfl)
        have hP : va_P D xn_cl [(m0, .inr (6, [.int (nI (xo_off gc g (xo_rg pr (nI 1) (nI 99) && xo_rg am (nI 0) (nI 99)))), .int (nI gc), .int (nI dc), .ref m1, .ref m2, .ref m3, .ref m4, .ref m5, .ref m6, .ref m7, .ref m8, .ref m9, .ref m10]))] H := by rw [e9]; exact hP
        have hD : va_D A [(m0, .inr (6, [.int (nI (xo_off gc g (xo_rg pr (nI 1) (nI 99) && xo_rg am (nI 0) (nI 99)))), .int (nI gc), .int (nI dc), .ref m1, .ref m2, .ref m3, .ref m4, .ref m5, .ref m6, .ref m7, .ref m8, .ref m9, .ref m10]))] := by rw [e9]; exact hD
        exact hret (()) H locs _ ls trivial hP hD hS xj_M_offer_54
  · -- 15
    refine lv_iconst (v := nI 1) hx hb xj_M_offer_15 (by decide) ?_
    refine lv_goto (tgt := 44) hx hb xj_M_offer_16 rfl ?_
    refine va_put (D := D) (ci := 6) (v := .int (nI 1)) (ty := .int) (C := xn_M) (T := xn_TM) (N := 13) hx hb hgs xw_uM xn_tM xn_oM xn_nM hown hK.1 hP hD hS 0 rfl rfl 0 (by decide) (hgs _ xw_530) (fun _ h9 => h9) rfl (by decide +kernel) rfl rfl (Nat.le_of_ble_eq_true rfl) xj_M_offer_44 (fun H locs hP hD hS => ?_)
    have hP : va_P D xn_cl [(m0, .inr (6, [.int (nI 1), .int (nI gc), .int (nI dc), .ref m1, .ref m2, .ref m3, .ref m4, .ref m5, .ref m6, .ref m7, .ref m8, .ref m9, .ref m10]))] H := hP
    have hD : va_D A [(m0, .inr (6, [.int (nI 1), .int (nI gc), .int (nI dc), .ref m1, .ref m2, .ref m3, .ref m4, .ref m5, .ref m6, .ref m7, .ref m8, .ref m9, .ref m10]))] := hD
    refine lv_aload_n hx hb xj_M_offer_47 rfl (lv_at hl 0 rfl) ?_
    refine va_get (D := D) (ci := 6) (v := .int (nI 1)) (C := xn_M) (T := xn_TM) (N := 13) hx hb hgs xw_uM hown hK.1 hP 0 rfl rfl 0 (by decide) (hgs _ xw_530) (fun _ h9 => h9) rfl xj_M_offer_48 ?_
    refine lv_if_le (tgt := 55) hx hb xj_M_offer_51 rfl (fun h51 => absurd h51 (by decide +kernel)) (fun h51 => ?_)
    have e9 : xo_off gc g (xo_rg pr (nI 1) (nI 99) && xo_rg am (nI 0) (nI 99)) = 1 := xo_off_g h12
    have hP : va_P D xn_cl [(m0, .inr (6, [.int (nI (xo_off gc g (xo_rg pr (nI 1) (nI 99) && xo_rg am (nI 0) (nI 99)))), .int (nI gc), .int (nI dc), .ref m1, .ref m2, .ref m3, .ref m4, .ref m5, .ref m6, .ref m7, .ref m8, .ref m9, .ref m10]))] H := by rw [e9]; exact hP
    have hD : va_D A [(m0, .inr (6, [.int (nI (xo_off gc g (xo_rg pr (nI 1) (nI 99) && xo_rg am (nI 0) (nI 99)))), .int (nI gc), .int (nI dc), .ref m1, .ref m2, .ref m3, .ref m4, .ref m5, .ref m6, .ref m7, .ref m8, .ref m9, .ref m10]))] := by rw [e9]; exact hD
    exact hret (()) H locs _ ls trivial hP hD hS xj_M_offer_54
set_option maxRecDepth 100000 in
set_option maxHeartbeats 4000000 in
theorem xt_M_fits (l : Launch) (D : va_G) (cI cZ cJ : ClassId) (m0 m1 m2 m3 m4 m5 m6 m7 m8 m9 m10 : Nat) (cd : Int32) (gc dc : Nat) (P : Nat → Int32) (A0 : Nat → Int32) (oP : Nat → Int32) (oA : Nat → Int32) (gd : Nat → Bool) (bd : Nat → Bool) (ch : Nat → Bool) (st : Nat → Int32) (lf : Nat → Bool) (hg : gc ≤ 6) (hd : dc ≤ 12) : xc_Wi l xy_M_fits xb_M_fits 2 .boolean 3 0 0 [.ref m0] D cI cZ cJ [(m0, .inr (6, [.int cd, .int (nI gc), .int (nI dc), .ref m1, .ref m2, .ref m3, .ref m4, .ref m5, .ref m6, .ref m7, .ref m8, .ref m9, .ref m10])), (m1, .inl (cI, 78, .inl P)), (m2, .inl (cI, 78, .inl A0)), (m3, .inl (cI, 6, .inl oP)), (m4, .inl (cI, 6, .inl oA)), (m5, .inl (cZ, 169, .inl (xf_z gd))), (m6, .inl (cZ, 169, .inl (xf_z bd))), (m7, .inl (cZ, 169, .inl (xf_z ch))), (m8, .inl (cI, 169, .inl st)), (m9, .inl (cZ, 13, .inl (xf_z lf)))] (Unit) (fun r _ => r = xf_bI (!xm_nf (dc + 1) (xm_L (dc + 1) lf) (xm_B (xk_c gc (xf_f2 oP (dc * 6) 6 0 P) (xf_f2 oA (dc * 6) 6 0 A0)) (lN 1) (lN 1) (dc + 1) bd) (xm_K (dc + 1) (xm_L (dc + 1) lf) (xm_G (xk_c gc (xf_f2 oP (dc * 6) 6 0 P) (xf_f2 oA (dc * 6) 6 0 A0)) (lN 1) (lN 1) (dc + 1) gd) ch st).1)) (fun _ => [(m0, .inr (6, [.int (nI 0), .int (nI gc), .int (nI dc), .ref m1, .ref m2, .ref m3, .ref m4, .ref m5, .ref m6, .ref m7, .ref m8, .ref m9, .ref m10])), (m1, .inl (cI, 78, .inl ((xf_f2 oP (dc * 6) 6 0 P)))), (m2, .inl (cI, 78, .inl ((xf_f2 oA (dc * 6) 6 0 A0)))), (m3, .inl (cI, 6, .inl oP)), (m4, .inl (cI, 6, .inl oA)), (m5, .inl (cZ, 169, .inl (xf_z (xm_G (xk_c gc (xf_f2 oP (dc * 6) 6 0 P) (xf_f2 oA (dc * 6) 6 0 A0)) (lN 1) (lN 1) (dc + 1) gd)))), (m6, .inl (cZ, 169, .inl (xf_z (xm_B (xk_c gc (xf_f2 oP (dc * 6) 6 0 P) (xf_f2 oA (dc * 6) 6 0 A0)) (lN 1) (lN 1) (dc + 1) bd)))), (m7, .inl (cZ, 169, .inl (xf_z ((xm_K (dc + 1) (xm_L (dc + 1) lf) (xm_G (xk_c gc (xf_f2 oP (dc * 6) 6 0 P) (xf_f2 oA (dc * 6) 6 0 A0)) (lN 1) (lN 1) (dc + 1) gd) ch st).1)))), (m8, .inl (cI, 169, .inl ((xm_K (dc + 1) (xm_L (dc + 1) lf) (xm_G (xk_c gc (xf_f2 oP (dc * 6) 6 0 P) (xf_f2 oA (dc * 6) 6 0 A0)) (lN 1) (lN 1) (dc + 1) gd) ch st).2.1))), (m9, .inl (cZ, 13, .inl (xf_z (xm_L (dc + 1) lf))))]) := by
  refine xc_Wi_of (by decide) (Nat.le_of_ble_eq_true rfl) ?_
  intro p e s m args below meth c Q ls A hAt hP hK hD hA hS hl hret
  obtain ⟨hx, hb, hml, hown, hts, hgs, hlk⟩ := id hAt
  have hT : ∀ w ∈ xw_g, w ∈ xc_ws xy_M_fits xb_M_fits 2 (some .boolean) := fun w h => List.mem_cons_of_mem _ h
  have hown : s.vm.findClass "WishLedgerModel" = some m.cls := hown
  obtain ⟨H, hH0⟩ : ∃ H, H = s.heap := ⟨_, rfl⟩
  obtain ⟨locs, hL0⟩ : ∃ locs : List Loc, locs = [] := ⟨_, rfl⟩
  have hP : va_P D xn_cl [(m0, .inr (6, [.int cd, .int (nI gc), .int (nI dc), .ref m1, .ref m2, .ref m3, .ref m4, .ref m5, .ref m6, .ref m7, .ref m8, .ref m9, .ref m10])), (m1, .inl (cI, 78, .inl P)), (m2, .inl (cI, 78, .inl A0)), (m3, .inl (cI, 6, .inl oP)), (m4, .inl (cI, 6, .inl oA)), (m5, .inl (cZ, 169, .inl (xf_z gd))), (m6, .inl (cZ, 169, .inl (xf_z bd))), (m7, .inl (cZ, 169, .inl (xf_z ch))), (m8, .inl (cI, 169, .inl st)), (m9, .inl (cZ, 13, .inl (xf_z lf)))] H := by rw [hH0]; exact hP
  have hS : va_S A s.heap H locs := by rw [hH0, hL0]; exact hS
  suffices hgo : W p l e (xc_rm 3 0 0) s m args below meth c H locs 0 0 Q (F0 m 0 ls []) by rw [hH0, hL0] at hgo; exact hgo
  clear hH0 hL0
  have hl : lv_has ls 2 [(0, .ref m0)] := hl
  refine lv_aload_n hx hb xj_M_fits_0 rfl (lv_at hl 0 rfl) ?_
  refine lv_iconst (v := nI 0) hx hb xj_M_fits_1 (by decide) ?_
  refine va_put (D := D) (ci := 6) (v := .int (nI 0)) (ty := .int) (C := xn_M) (T := xn_TM) (N := 13) hx hb hgs xw_uM xn_tM xn_oM xn_nM hown hK.1 hP hD hS 0 rfl rfl 0 (by decide) (hgs _ xw_530) (fun _ h9 => h9) rfl (by decide +kernel) rfl rfl (Nat.le_of_ble_eq_true rfl) xj_M_fits_2 (fun H locs hP hD hS => ?_)
  have hP : va_P D xn_cl [(m0, .inr (6, [.int (nI 0), .int (nI gc), .int (nI dc), .ref m1, .ref m2, .ref m3, .ref m4, .ref m5, .ref m6, .ref m7, .ref m8, .ref m9, .ref m10])), (m1, .inl (cI, 78, .inl P)), (m2, .inl (cI, 78, .inl A0)), (m3, .inl (cI, 6, .inl oP)), (m4, .inl (cI, 6, .inl oA)), (m5, .inl (cZ, 169, .inl (xf_z gd))), (m6, .inl (cZ, 169, .inl (xf_z bd))), (m7, .inl (cZ, 169, .inl (xf_z ch))), (m8, .inl (cI, 169, .inl st)), (m9, .inl (cZ, 13, .inl (xf_z lf)))] H := hP
  have hD : va_D A [(m0, .inr (6, [.int (nI 0), .int (nI gc), .int (nI dc), .ref m1, .ref m2, .ref m3, .ref m4, .ref m5, .ref m6, .ref m7, .ref m8, .ref m9, .ref m10])), (m1, .inl (cI, 78, .inl P)), (m2, .inl (cI, 78, .inl A0)), (m3, .inl (cI, 6, .inl oP)), (m4, .inl (cI, 6, .inl oA)), (m5, .inl (cZ, 169, .inl (xf_z gd))), (m6, .inl (cZ, 169, .inl (xf_z bd))), (m7, .inl (cZ, 169, .inl (xf_z ch))), (m8, .inl (cI, 169, .inl st)), (m9, .inl (cZ, 13, .inl (xf_z lf)))] := hD
  refine lv_iconst (v := nI 0) hx hb xj_M_fits_5 (by decide) ?_
  refine lv_istore_n (lv' := [(1, .int (nI 0)), (0, .ref m0)]) hx hb xj_M_fits_6 rfl hl (by decide) rfl (fun ls hl => ?_)
  have loop7 : ∀ (n : Nat) (i : Nat) (P2 : Nat → Int32) (A2 : Nat → Int32) (ls : Array Slot) (H : Heap) (locs : List Loc), i + n = 6 → (xf_f2 oP (dc * 6) n i P2 = xf_f2 oP (dc * 6) 6 0 P) → (xf_f2 oA (dc * 6) n i A2 = xf_f2 oA (dc * 6) 6 0 A0) → lv_has ls 2 [(0, .ref m0), (1, .int (nI i))] → va_P D xn_cl [(m0, .inr (6, [.int (nI 0), .int (nI gc), .int (nI dc), .ref m1, .ref m2, .ref m3, .ref m4, .ref m5, .ref m6, .ref m7, .ref m8, .ref m9, .ref m10])), (m1, .inl (cI, 78, .inl P2)), (m2, .inl (cI, 78, .inl A2)), (m3, .inl (cI, 6, .inl oP)), (m4, .inl (cI, 6, .inl oA)), (m5, .inl (cZ, 169, .inl (xf_z gd))), (m6, .inl (cZ, 169, .inl (xf_z bd))), (m7, .inl (cZ, 169, .inl (xf_z ch))), (m8, .inl (cI, 169, .inl st)), (m9, .inl (cZ, 13, .inl (xf_z lf)))] H → va_D A [(m0, .inr (6, [.int (nI 0), .int (nI gc), .int (nI dc), .ref m1, .ref m2, .ref m3, .ref m4, .ref m5, .ref m6, .ref m7, .ref m8, .ref m9, .ref m10])), (m1, .inl (cI, 78, .inl P2)), (m2, .inl (cI, 78, .inl A2)), (m3, .inl (cI, 6, .inl oP)), (m4, .inl (cI, 6, .inl oA)), (m5, .inl (cZ, 169, .inl (xf_z gd))), (m6, .inl (cZ, 169, .inl (xf_z bd))), (m7, .inl (cZ, 169, .inl (xf_z ch))), (m8, .inl (cI, 169, .inl st)), (m9, .inl (cZ, 13, .inl (xf_z lf)))] → va_S A s.heap H locs → W p l e (xc_rm 3 0 0) s m args below meth c H locs 0 0 Q (F0 m 7 ls []) := by
    intro n
    induction n with
    | zero =>
      intro i P2 A2 ls H locs hi7 hp ha hl hP hD hS
      refine lv_iload_n hx hb xj_M_fits_7 rfl (lv_at hl 1 rfl) ?_
      refine lv_bipush (v := nI 6) hx hb xj_M_fits_8 (by decide) ?_
      refine xr_ge (tgt := 59) hx hb (by omega) (by omega) xj_M_fits_10 rfl (fun h10 => ?_) (fun h10 => absurd h10 (by omega))
      obtain rfl : P2 = _ := hp
      obtain rfl : A2 = _ := ha
      refine lv_aload_n hx hb xj_M_fits_59 rfl (lv_at hl 0 rfl) ?_
      refine lv_aload_n hx hb xj_M_fits_60 rfl (lv_at hl 0 rfl) ?_
      refine va_get (D := D) (ci := 6) (v := .int (nI dc)) (C := xn_M) (T := xn_TM) (N := 13) hx hb hgs xw_uM hown hK.1 hP 0 rfl rfl 2 (by decide) (hgs _ xw_532) (fun _ h9 => h9) rfl xj_M_fits_61 ?_
      refine lv_iconst (v := nI 1) hx hb xj_M_fits_64 (by decide) ?_
      refine xr_iadd hx hb xj_M_fits_65 ?_
      refine lv_lconst (v := lN 1) hx hb xj_M_fits_66 (by decide) ?_
      refine lv_lconst (v := lN 1) hx hb xj_M_fits_67 (by decide) ?_
      refine xc_wVv (av := [.int (nI (dc + 1)), .long (lN 1), .long (lN 1)]) (rest := []) (wr := [(m3, .inl (cI, 6, .inl oP)), (m4, .inl (cI, 6, .inl oA)), (m7, .inl (cZ, 169, .inl (xf_z ch))), (m8, .inl (cI, 169, .inl st))]) hAt hT (xt_M_relate l D cI cZ cJ m0 m1 m2 m3 m4 m5 m6 m7 m8 m9 m10 (nI 0) gc dc (xf_f2 oP (dc * 6) 6 0 P) (xf_f2 oA (dc * 6) 6 0 A0) gd bd lf (dc + 1) (lN 1) (lN 1) (by omega) (by omega)) xw_622 xw_7 xw_625 xw_624 xs_M_relate (C0 := xn_M) (q0 := 0) rfl rfl (na := 3) rfl (by decide +kernel) ⟨Nat.le_of_ble_eq_true rfl, Nat.le_of_ble_eq_true rfl⟩ hP hD hS hA [0, 1, 2, 5, 6, 9] [3, 4, 7, 8] rfl rfl (by decide) (by decide) (by decide) hK hl.1 (Nat.le_of_ble_eq_true rfl) ⟨Nat.zero_le _, Nat.zero_le _⟩ xj_M_fits_68 (fun _ H locs _ hP hD hS => ?_)
      have hP : va_P D xn_cl [(m0, .inr (6, [.int (nI 0), .int (nI gc), .int (nI dc), .ref m1, .ref m2, .ref m3, .ref m4, .ref m5, .ref m6, .ref m7, .ref m8, .ref m9, .ref m10])), (m1, .inl (cI, 78, .inl (xf_f2 oP (dc * 6) 6 0 P))), (m2, .inl (cI, 78, .inl (xf_f2 oA (dc * 6) 6 0 A0))), (m3, .inl (cI, 6, .inl oP)), (m4, .inl (cI, 6, .inl oA)), (m5, .inl (cZ, 169, .inl (xf_z (xm_G (xk_c gc (xf_f2 oP (dc * 6) 6 0 P) (xf_f2 oA (dc * 6) 6 0 A0)) (lN 1) (lN 1) (dc + 1) gd)))), (m6, .inl (cZ, 169, .inl (xf_z (xm_B (xk_c gc (xf_f2 oP (dc * 6) 6 0 P) (xf_f2 oA (dc * 6) 6 0 A0)) (lN 1) (lN 1) (dc + 1) bd)))), (m7, .inl (cZ, 169, .inl (xf_z ch))), (m8, .inl (cI, 169, .inl st)), (m9, .inl (cZ, 13, .inl (xf_z (xm_L (dc + 1) lf))))] H := va_P.sub hP [4, 5, 6, 0, 1, 7, 8, 2, 3, 9] rfl
      have hD : va_D A [(m0, .inr (6, [.int (nI 0), .int (nI gc), .int (nI dc), .ref m1, .ref m2, .ref m3, .ref m4, .ref m5, .ref m6, .ref m7, .ref m8, .ref m9, .ref m10])), (m1, .inl (cI, 78, .inl (xf_f2 oP (dc * 6) 6 0 P))), (m2, .inl (cI, 78, .inl (xf_f2 oA (dc * 6) 6 0 A0))), (m3, .inl (cI, 6, .inl oP)), (m4, .inl (cI, 6, .inl oA)), (m5, .inl (cZ, 169, .inl (xf_z (xm_G (xk_c gc (xf_f2 oP (dc * 6) 6 0 P) (xf_f2 oA (dc * 6) 6 0 A0)) (lN 1) (lN 1) (dc + 1) gd)))), (m6, .inl (cZ, 169, .inl (xf_z (xm_B (xk_c gc (xf_f2 oP (dc * 6) 6 0 P) (xf_f2 oA (dc * 6) 6 0 A0)) (lN 1) (lN 1) (dc + 1) bd)))), (m7, .inl (cZ, 169, .inl (xf_z ch))), (m8, .inl (cI, 169, .inl st)), (m9, .inl (cZ, 13, .inl (xf_z (xm_L (dc + 1) lf))))] := va_D.sub hD [4, 5, 6, 0, 1, 7, 8, 2, 3, 9] (by decide) rfl
      refine lv_aload_n hx hb xj_M_fits_71 rfl (lv_at hl 0 rfl) ?_
      refine lv_aload_n hx hb xj_M_fits_72 rfl (lv_at hl 0 rfl) ?_
      refine va_get (D := D) (ci := 6) (v := .int (nI dc)) (C := xn_M) (T := xn_TM) (N := 13) hx hb hgs xw_uM hown hK.1 hP 0 rfl rfl 2 (by decide) (hgs _ xw_532) (fun _ h9 => h9) rfl xj_M_fits_73 ?_
      refine lv_iconst (v := nI 1) hx hb xj_M_fits_76 (by decide) ?_
      refine xr_iadd hx hb xj_M_fits_77 ?_
      refine xc_wVi (av := [.int (nI (dc + 1))]) (rest := []) (wr := [(m1, .inl (cI, 78, .inl (xf_f2 oP (dc * 6) 6 0 P))), (m2, .inl (cI, 78, .inl (xf_f2 oA (dc * 6) 6 0 A0))), (m3, .inl (cI, 6, .inl oP)), (m4, .inl (cI, 6, .inl oA))]) hAt hT (xt_M_isFine l D cI cZ cJ m0 m1 m2 m3 m4 m5 m6 m7 m8 m9 m10 (nI 0) gc dc (xm_G (xk_c gc (xf_f2 oP (dc * 6) 6 0 P) (xf_f2 oA (dc * 6) 6 0 A0)) (lN 1) (lN 1) (dc + 1) gd) (xm_B (xk_c gc (xf_f2 oP (dc * 6) 6 0 P) (xf_f2 oA (dc * 6) 6 0 A0)) (lN 1) (lN 1) (dc + 1) bd) ch st (xm_L (dc + 1) lf) (dc + 1) (by omega)) xw_638 xw_7 xw_641 xw_640 xs_M_isFine (C0 := xn_M) (q0 := 0) rfl rfl (na := 1) rfl (by decide +kernel) ⟨Nat.le_of_ble_eq_true rfl, Nat.le_of_ble_eq_true rfl⟩ hP hD hS hA [0, 5, 6, 7, 8, 9] [1, 2, 3, 4] rfl rfl (by decide) (by decide) (by decide) hK hl.1 (Nat.le_of_ble_eq_true rfl) ⟨Nat.zero_le _, Nat.zero_le _⟩ xj_M_fits_78 (fun r78 _ H locs hr78 hP hD hS => ?_)
      obtain rfl : r78 = xf_bI (!xm_nf (dc + 1) (xm_L (dc + 1) lf) (xm_B (xk_c gc (xf_f2 oP (dc * 6) 6 0 P) (xf_f2 oA (dc * 6) 6 0 A0)) (lN 1) (lN 1) (dc + 1) bd) (xm_K (dc + 1) (xm_L (dc + 1) lf) (xm_G (xk_c gc (xf_f2 oP (dc * 6) 6 0 P) (xf_f2 oA (dc * 6) 6 0 A0)) (lN 1) (lN 1) (dc + 1) gd) ch st).1) := hr78
      have hP : va_P D xn_cl [(m0, .inr (6, [.int (nI 0), .int (nI gc), .int (nI dc), .ref m1, .ref m2, .ref m3, .ref m4, .ref m5, .ref m6, .ref m7, .ref m8, .ref m9, .ref m10])), (m1, .inl (cI, 78, .inl (xf_f2 oP (dc * 6) 6 0 P))), (m2, .inl (cI, 78, .inl (xf_f2 oA (dc * 6) 6 0 A0))), (m3, .inl (cI, 6, .inl oP)), (m4, .inl (cI, 6, .inl oA)), (m5, .inl (cZ, 169, .inl (xf_z (xm_G (xk_c gc (xf_f2 oP (dc * 6) 6 0 P) (xf_f2 oA (dc * 6) 6 0 A0)) (lN 1) (lN 1) (dc + 1) gd)))), (m6, .inl (cZ, 169, .inl (xf_z (xm_B (xk_c gc (xf_f2 oP (dc * 6) 6 0 P) (xf_f2 oA (dc * 6) 6 0 A0)) (lN 1) (lN 1) (dc + 1) bd)))), (m7, .inl (cZ, 169, .inl (xf_z ((xm_K (dc + 1) (xm_L (dc + 1) lf) (xm_G (xk_c gc (xf_f2 oP (dc * 6) 6 0 P) (xf_f2 oA (dc * 6) 6 0 A0)) (lN 1) (lN 1) (dc + 1) gd) ch st).1)))), (m8, .inl (cI, 169, .inl ((xm_K (dc + 1) (xm_L (dc + 1) lf) (xm_G (xk_c gc (xf_f2 oP (dc * 6) 6 0 P) (xf_f2 oA (dc * 6) 6 0 A0)) (lN 1) (lN 1) (dc + 1) gd) ch st).2.1))), (m9, .inl (cZ, 13, .inl (xf_z (xm_L (dc + 1) lf))))] H := va_P.sub hP [4, 0, 1, 2, 3, 5, 6, 7, 8, 9] rfl
      have hD : va_D A [(m0, .inr (6, [.int (nI 0), .int (nI gc), .int (nI dc), .ref m1, .ref m2, .ref m3, .ref m4, .ref m5, .ref m6, .ref m7, .ref m8, .ref m9, .ref m10])), (m1, .inl (cI, 78, .inl (xf_f2 oP (dc * 6) 6 0 P))), (m2, .inl (cI, 78, .inl (xf_f2 oA (dc * 6) 6 0 A0))), (m3, .inl (cI, 6, .inl oP)), (m4, .inl (cI, 6, .inl oA)), (m5, .inl (cZ, 169, .inl (xf_z (xm_G (xk_c gc (xf_f2 oP (dc * 6) 6 0 P) (xf_f2 oA (dc * 6) 6 0 A0)) (lN 1) (lN 1) (dc + 1) gd)))), (m6, .inl (cZ, 169, .inl (xf_z (xm_B (xk_c gc (xf_f2 oP (dc * 6) 6 0 P) (xf_f2 oA (dc * 6) 6 0 A0)) (lN 1) (lN 1) (dc + 1) bd)))), (m7, .inl (cZ, 169, .inl (xf_z ((xm_K (dc + 1) (xm_L (dc + 1) lf) (xm_G (xk_c gc (xf_f2 oP (dc * 6) 6 0 P) (xf_f2 oA (dc * 6) 6 0 A0)) (lN 1) (lN 1) (dc + 1) gd) ch st).1)))), (m8, .inl (cI, 169, .inl ((xm_K (dc + 1) (xm_L (dc + 1) lf) (xm_G (xk_c gc (xf_f2 oP (dc * 6) 6 0 P) (xf_f2 oA (dc * 6) 6 0 A0)) (lN 1) (lN 1) (dc + 1) gd) ch st).2.1))), (m9, .inl (cZ, 13, .inl (xf_z (xm_L (dc + 1) lf))))] := va_D.sub hD [4, 0, 1, 2, 3, 5, 6, 7, 8, 9] (by decide) rfl
      exact hret (xf_bI (!xm_nf (dc + 1) (xm_L (dc + 1) lf) (xm_B (xk_c gc (xf_f2 oP (dc * 6) 6 0 P) (xf_f2 oA (dc * 6) 6 0 A0)) (lN 1) (lN 1) (dc + 1) bd) (xm_K (dc + 1) (xm_L (dc + 1) lf) (xm_G (xk_c gc (xf_f2 oP (dc * 6) 6 0 P) (xf_f2 oA (dc * 6) 6 0 A0)) (lN 1) (lN 1) (dc + 1) gd) ch st).1)) (()) H locs _ ls rfl (xf_nar_b _) hP hD hS xj_M_fits_81
    | succ n ih7 =>
      intro i P2 A2 ls H locs hi7 hp ha hl hP hD hS
      refine lv_iload_n hx hb xj_M_fits_7 rfl (lv_at hl 1 rfl) ?_
      refine lv_bipush (v := nI 6) hx hb xj_M_fits_8 (by decide) ?_
      refine xr_ge (tgt := 59) hx hb (by omega) (by omega) xj_M_fits_10 rfl (fun h10 => absurd h10 (by omega)) (fun h10 => ?_)
      refine lv_aload_n hx hb xj_M_fits_13 rfl (lv_at hl 0 rfl) ?_
      refine va_get (D := D) (ci := 6) (v := .ref m1) (C := xn_M) (T := xn_TM) (N := 13) hx hb hgs xw_uM hown hK.1 hP 0 rfl rfl 3 (by decide) (hgs _ xw_533) (fun _ h9 => h9) rfl xj_M_fits_14 ?_
      refine lv_bipush (v := nI 6) hx hb xj_M_fits_17 (by decide) ?_
      refine lv_aload_n hx hb xj_M_fits_19 rfl (lv_at hl 0 rfl) ?_
      refine va_get (D := D) (ci := 6) (v := .int (nI dc)) (C := xn_M) (T := xn_TM) (N := 13) hx hb hgs xw_uM hown hK.1 hP 0 rfl rfl 2 (by decide) (hgs _ xw_532) (fun _ h9 => h9) rfl xj_M_fits_20 ?_
      refine xr_imul hx hb xj_M_fits_23 ?_
      refine xr_top (y := nI (dc * 6)) (congrArg nI (Nat.mul_comm 6 dc)) ?_
      refine lv_iload_n hx hb xj_M_fits_24 rfl (lv_at hl 1 rfl) ?_
      refine xr_iadd hx hb xj_M_fits_25 ?_
      refine lv_aload_n hx hb xj_M_fits_26 rfl (lv_at hl 0 rfl) ?_
      refine va_get (D := D) (ci := 6) (v := .ref m3) (C := xn_M) (T := xn_TM) (N := 13) hx hb hgs xw_uM hown hK.1 hP 0 rfl rfl 5 (by decide) (hgs _ xw_535) (fun _ h9 => h9) rfl xj_M_fits_27 ?_
      refine lv_iload_n hx hb xj_M_fits_30 rfl (lv_at hl 1 rfl) ?_
      refine xr_iald hx hb hK.1 hP 3 0 rfl rfl (by omega) (by decide) xj_M_fits_31 ?_
      refine xr_iast hx hb hK.1 hP hD hS 1 0 rfl rfl (by omega) (by decide) xj_M_fits_32 (fun H locs hP hD hS => ?_)
      have hP : va_P D xn_cl [(m0, .inr (6, [.int (nI 0), .int (nI gc), .int (nI dc), .ref m1, .ref m2, .ref m3, .ref m4, .ref m5, .ref m6, .ref m7, .ref m8, .ref m9, .ref m10])), (m1, .inl (cI, 78, .inl (upd P2 ((dc * 6) + i) (oP i)))), (m2, .inl (cI, 78, .inl A2)), (m3, .inl (cI, 6, .inl oP)), (m4, .inl (cI, 6, .inl oA)), (m5, .inl (cZ, 169, .inl (xf_z gd))), (m6, .inl (cZ, 169, .inl (xf_z bd))), (m7, .inl (cZ, 169, .inl (xf_z ch))), (m8, .inl (cI, 169, .inl st)), (m9, .inl (cZ, 13, .inl (xf_z lf)))] H := hP
      have hD : va_D A [(m0, .inr (6, [.int (nI 0), .int (nI gc), .int (nI dc), .ref m1, .ref m2, .ref m3, .ref m4, .ref m5, .ref m6, .ref m7, .ref m8, .ref m9, .ref m10])), (m1, .inl (cI, 78, .inl (upd P2 ((dc * 6) + i) (oP i)))), (m2, .inl (cI, 78, .inl A2)), (m3, .inl (cI, 6, .inl oP)), (m4, .inl (cI, 6, .inl oA)), (m5, .inl (cZ, 169, .inl (xf_z gd))), (m6, .inl (cZ, 169, .inl (xf_z bd))), (m7, .inl (cZ, 169, .inl (xf_z ch))), (m8, .inl (cI, 169, .inl st)), (m9, .inl (cZ, 13, .inl (xf_z lf)))] := hD
      refine lv_aload_n hx hb xj_M_fits_33 rfl (lv_at hl 0 rfl) ?_
      refine va_get (D := D) (ci := 6) (v := .ref m2) (C := xn_M) (T := xn_TM) (N := 13) hx hb hgs xw_uM hown hK.1 hP 0 rfl rfl 4 (by decide) (hgs _ xw_534) (fun _ h9 => h9) rfl xj_M_fits_34 ?_
      refine lv_bipush (v := nI 6) hx hb xj_M_fits_37 (by decide) ?_
      refine lv_aload_n hx hb xj_M_fits_39 rfl (lv_at hl 0 rfl) ?_
      refine va_get (D := D) (ci := 6) (v := .int (nI dc)) (C := xn_M) (T := xn_TM) (N := 13) hx hb hgs xw_uM hown hK.1 hP 0 rfl rfl 2 (by decide) (hgs _ xw_532) (fun _ h9 => h9) rfl xj_M_fits_40 ?_
      refine xr_imul hx hb xj_M_fits_43 ?_
      refine xr_top (y := nI (dc * 6)) (congrArg nI (Nat.mul_comm 6 dc)) ?_
      refine lv_iload_n hx hb xj_M_fits_44 rfl (lv_at hl 1 rfl) ?_
      refine xr_iadd hx hb xj_M_fits_45 ?_
      refine lv_aload_n hx hb xj_M_fits_46 rfl (lv_at hl 0 rfl) ?_
      refine va_get (D := D) (ci := 6) (v := .ref m4) (C := xn_M) (T := xn_TM) (N := 13) hx hb hgs xw_uM hown hK.1 hP 0 rfl rfl 6 (by decide) (hgs _ xw_536) (fun _ h9 => h9) rfl xj_M_fits_47 ?_
      refine lv_iload_n hx hb xj_M_fits_50 rfl (lv_at hl 1 rfl) ?_
      refine xr_iald hx hb hK.1 hP 4 0 rfl rfl (by omega) (by decide) xj_M_fits_51 ?_
      refine xr_iast hx hb hK.1 hP hD hS 2 0 rfl rfl (by omega) (by decide) xj_M_fits_52 (fun H locs hP hD hS => ?_)
      have hP : va_P D xn_cl [(m0, .inr (6, [.int (nI 0), .int (nI gc), .int (nI dc), .ref m1, .ref m2, .ref m3, .ref m4, .ref m5, .ref m6, .ref m7, .ref m8, .ref m9, .ref m10])), (m1, .inl (cI, 78, .inl (upd P2 ((dc * 6) + i) (oP i)))), (m2, .inl (cI, 78, .inl (upd A2 ((dc * 6) + i) (oA i)))), (m3, .inl (cI, 6, .inl oP)), (m4, .inl (cI, 6, .inl oA)), (m5, .inl (cZ, 169, .inl (xf_z gd))), (m6, .inl (cZ, 169, .inl (xf_z bd))), (m7, .inl (cZ, 169, .inl (xf_z ch))), (m8, .inl (cI, 169, .inl st)), (m9, .inl (cZ, 13, .inl (xf_z lf)))] H := hP
      have hD : va_D A [(m0, .inr (6, [.int (nI 0), .int (nI gc), .int (nI dc), .ref m1, .ref m2, .ref m3, .ref m4, .ref m5, .ref m6, .ref m7, .ref m8, .ref m9, .ref m10])), (m1, .inl (cI, 78, .inl (upd P2 ((dc * 6) + i) (oP i)))), (m2, .inl (cI, 78, .inl (upd A2 ((dc * 6) + i) (oA i)))), (m3, .inl (cI, 6, .inl oP)), (m4, .inl (cI, 6, .inl oA)), (m5, .inl (cZ, 169, .inl (xf_z gd))), (m6, .inl (cZ, 169, .inl (xf_z bd))), (m7, .inl (cZ, 169, .inl (xf_z ch))), (m8, .inl (cI, 169, .inl st)), (m9, .inl (cZ, 13, .inl (xf_z lf)))] := hD
      refine lv_iinc (k := 1) (v := nI (i + 1)) (lv' := [(1, .int (nI (i + 1))), (0, .ref m0)]) hx hb xj_M_fits_53 hl rfl (xr_inc _) (by decide) rfl (fun ls hl => ?_)
      refine lv_goto (tgt := 7) hx hb xj_M_fits_56 rfl ?_
      exact ih7 (i + 1) (upd P2 ((dc * 6) + i) (oP i)) (upd A2 ((dc * 6) + i) (oA i)) ls _ _ (by omega) hp ha (lv_sub hl [1, 0] rfl) hP hD hS
  exact loop7 6 0 P A0 ls _ _ (by omega) rfl rfl (lv_sub hl [1, 0] rfl) hP hD hS
set_option maxRecDepth 100000 in
set_option maxHeartbeats 4000000 in
theorem xt_M_size (l : Launch) (D : va_G) (cI cZ cJ : ClassId) (m0 m1 m2 m3 m4 m5 m6 m7 m8 m9 m10 : Nat) (cd : Int32) (gc dc : Nat) : xc_Wi l xy_M_size xb_M_size 1 .int 0 0 0 [.ref m0] D cI cZ cJ [(m0, .inr (6, [.int cd, .int (nI gc), .int (nI dc), .ref m1, .ref m2, .ref m3, .ref m4, .ref m5, .ref m6, .ref m7, .ref m8, .ref m9, .ref m10]))] (Unit) (fun r _ => r = nI dc) (fun _ => [(m0, .inr (6, [.int (nI 0), .int (nI gc), .int (nI dc), .ref m1, .ref m2, .ref m3, .ref m4, .ref m5, .ref m6, .ref m7, .ref m8, .ref m9, .ref m10]))]) := by
  refine xc_Wi_of (by decide) (Nat.le_of_ble_eq_true rfl) ?_
  intro p e s m args below meth c Q ls A hAt hP hK hD hA hS hl hret
  obtain ⟨hx, hb, hml, hown, hts, hgs, hlk⟩ := id hAt
  have hT : ∀ w ∈ xw_g, w ∈ xc_ws xy_M_size xb_M_size 1 (some .int) := fun w h => List.mem_cons_of_mem _ h
  have hown : s.vm.findClass "WishLedgerModel" = some m.cls := hown
  obtain ⟨H, hH0⟩ : ∃ H, H = s.heap := ⟨_, rfl⟩
  obtain ⟨locs, hL0⟩ : ∃ locs : List Loc, locs = [] := ⟨_, rfl⟩
  have hP : va_P D xn_cl [(m0, .inr (6, [.int cd, .int (nI gc), .int (nI dc), .ref m1, .ref m2, .ref m3, .ref m4, .ref m5, .ref m6, .ref m7, .ref m8, .ref m9, .ref m10]))] H := by rw [hH0]; exact hP
  have hS : va_S A s.heap H locs := by rw [hH0, hL0]; exact hS
  suffices hgo : W p l e (xc_rm 0 0 0) s m args below meth c H locs 0 0 Q (F0 m 0 ls []) by rw [hH0, hL0] at hgo; exact hgo
  clear hH0 hL0
  have hl : lv_has ls 1 [(0, .ref m0)] := hl
  refine lv_aload_n hx hb xj_M_size_0 rfl (lv_at hl 0 rfl) ?_
  refine lv_iconst (v := nI 0) hx hb xj_M_size_1 (by decide) ?_
  refine va_put (D := D) (ci := 6) (v := .int (nI 0)) (ty := .int) (C := xn_M) (T := xn_TM) (N := 13) hx hb hgs xw_uM xn_tM xn_oM xn_nM hown hK.1 hP hD hS 0 rfl rfl 0 (by decide) (hgs _ xw_530) (fun _ h9 => h9) rfl (by decide +kernel) rfl rfl (Nat.le_of_ble_eq_true rfl) xj_M_size_2 (fun H locs hP hD hS => ?_)
  have hP : va_P D xn_cl [(m0, .inr (6, [.int (nI 0), .int (nI gc), .int (nI dc), .ref m1, .ref m2, .ref m3, .ref m4, .ref m5, .ref m6, .ref m7, .ref m8, .ref m9, .ref m10]))] H := hP
  have hD : va_D A [(m0, .inr (6, [.int (nI 0), .int (nI gc), .int (nI dc), .ref m1, .ref m2, .ref m3, .ref m4, .ref m5, .ref m6, .ref m7, .ref m8, .ref m9, .ref m10]))] := hD
  refine lv_aload_n hx hb xj_M_size_5 rfl (lv_at hl 0 rfl) ?_
  refine va_get (D := D) (ci := 6) (v := .int (nI dc)) (C := xn_M) (T := xn_TM) (N := 13) hx hb hgs xw_uM hown hK.1 hP 0 rfl rfl 2 (by decide) (hgs _ xw_532) (fun _ h9 => h9) rfl xj_M_size_6 ?_
  exact hret (nI dc) (()) H locs _ ls rfl rfl hP hD hS xj_M_size_9
