/-! walks: the calls -/
set_option maxRecDepth 100000 in
set_option maxHeartbeats 4000000 in
theorem xt_L_goods (l : Launch) (hl0 : l.stackTraces = false) (D : va_G) (cI cZ cJ : ClassId) (sa : Nat → Nat) (x0 b0 r0 c0 d0 s0 : Nat) (b1 b2 gc dc : Nat) (P A0 : Nat → Int32) (n : Int32) : xc_Xv l xy_L_goods xb_L_goods 2 7 1 6 [.ref x0, .int n] D cI cZ cJ sa [(x0, .inr (5, [.ref b0, .ref r0, .ref c0, .ref d0, .ref s0])), (b0, .inr (0, [.ref b1, .ref b2, .int (nI gc), .int (nI dc)])), (b1, .inl (cI, 78, .inl P)), (b2, .inl (cI, 78, .inl A0))] (Nat × Nat × (Nat → Int32) × (Nat → Int32)) (fun u => ∃ k, 1 ≤ k ∧ k ≤ 6 ∧ n = nI k ∧ u = (k, 0, xk_clr (nI 1) 12 6 0 P, xk_clr (nI 0) 12 6 0 A0)) (fun E u => E = xn_EA ∧ xo_rg n (nI 1) (nI 6) = false ∧ u = (gc, dc, P, A0)) (fun u => [(x0, .inr (5, [.ref b0, .ref r0, .ref c0, .ref d0, .ref s0])), (b0, .inr (0, [.ref b1, .ref b2, .int (nI u.1), .int (nI u.2.1)])), (b1, .inl (cI, 78, .inl u.2.2.1)), (b2, .inl (cI, 78, .inl u.2.2.2))]) := by
  refine xc_Xv_of hl0 (by decide) (by decide) rfl (Nat.le_of_ble_eq_true rfl) ?_
  intro p e s m args below meth c Q ls A hAt hP hK hD hA hS hl hT0 hret hthr hpass
  obtain ⟨hx, hb, hml, hown, hts, hgs, hlk⟩ := id hAt
  have hT : ∀ w ∈ xw_g, w ∈ xc_ws xy_L_goods xb_L_goods 2 (none) := fun w h => List.mem_cons_of_mem _ h
  have hown : s.vm.findClass "WishLedger" = some m.cls := hown
  obtain ⟨H, hH0⟩ : ∃ H, H = s.heap := ⟨_, rfl⟩
  obtain ⟨locs, hL0⟩ : ∃ locs : List Loc, locs = [] := ⟨_, rfl⟩
  have hP : va_P D xn_cl [(x0, .inr (5, [.ref b0, .ref r0, .ref c0, .ref d0, .ref s0])), (b0, .inr (0, [.ref b1, .ref b2, .int (nI gc), .int (nI dc)])), (b1, .inl (cI, 78, .inl P)), (b2, .inl (cI, 78, .inl A0))] H := by rw [hH0]; exact hP
  have hS : va_S A s.heap H locs := by rw [hH0, hL0]; exact hS
  suffices hgo : W p l e (xc_rm 7 1 6) s m args below meth c H locs 0 0 Q (F0 m 0 ls []) by rw [hH0, hL0] at hgo; exact hgo
  clear hH0 hL0
  have hl : lv_has ls 2 [(0, .ref x0), (1, .int n)] := hl
  refine lv_iload_n hx hb xj_L_goods_0 rfl (lv_at hl 1 rfl) ?_
  refine lv_iconst (v := nI 1) hx hb xj_L_goods_1 (by decide) ?_
  refine lv_icmp_lt (tgt := 11) hx hb xj_L_goods_2 rfl (fun h2 => ?_) (fun h2 => ?_)
  · -- 11
    exact hthr xn_EA ((gc, dc, P, A0)) H locs _ _ _ ls (⟨rfl, xo_rg_1 h2, rfl⟩) hP hD hS hl.1 ⟨48, 50, 52, 0, _, xj_L_goods_11, xj_L_goods_14, xj_L_goods_15, xj_L_goods_17, xj_L_goods_20, xw_187, xw_11, rfl, Or.inl ⟨rfl, rfl⟩⟩ (Nat.le_of_ble_eq_true rfl) (Nat.le_of_ble_eq_true rfl)
  · -- 5
    refine lv_iload_n hx hb xj_L_goods_5 rfl (lv_at hl 1 rfl) ?_
    refine lv_bipush (v := nI 6) hx hb xj_L_goods_6 (by decide) ?_
    refine lv_icmp_le (tgt := 21) hx hb xj_L_goods_8 rfl (fun h8 => ?_) (fun h8 => ?_)
    · -- 21
      have hrg := xo_rg_t h2 h8
      obtain ⟨kn, hk1, hk6, rfl⟩ := xo_rg_k (by omega) (by omega) hrg
      refine lv_aload_n hx hb xj_L_goods_21 rfl (lv_at hl 0 rfl) ?_
      refine va_get (D := D) (ci := 5) (v := .ref b0) (C := xn_L) (T := xn_TL) (N := 5) hx hb hgs xw_uL hown hK.1 hP 0 rfl rfl 0 (by decide) (hgs _ xw_123) (fun _ h9 => h9) rfl xj_L_goods_22 ?_
      refine lv_iload_n hx hb xj_L_goods_25 rfl (lv_at hl 1 rfl) ?_
      refine xc_wVNv (av := [.int (nI kn)]) (rest := []) (wr := [(x0, .inr (5, [.ref b0, .ref r0, .ref c0, .ref d0, .ref s0]))]) hAt hT (xt_B_start l D cI cZ cJ b0 b1 b2 gc dc P A0 kn) (List.mem_of_getElem? (i := 13) rfl) xw_2 xw_118 xw_117 xs_B_start (C0 := xn_B) (q0 := 0) rfl rfl (na := 1) rfl (by decide +kernel) ⟨Nat.le_of_ble_eq_true rfl, Nat.le_of_ble_eq_true rfl⟩ hP hD hS hA [1, 2, 3] [0] rfl rfl (by decide) (by decide) (by decide) hK hl.1 (Nat.le_of_ble_eq_true rfl) ⟨Nat.le_of_ble_eq_true rfl, Nat.le_of_ble_eq_true rfl⟩ xj_L_goods_26 (fun _ H locs _ hP hD hS => ?_)
      have hP : va_P D xn_cl [(x0, .inr (5, [.ref b0, .ref r0, .ref c0, .ref d0, .ref s0])), (b0, .inr (0, [.ref b1, .ref b2, .int (nI kn), .int (nI 0)])), (b1, .inl (cI, 78, .inl (xk_clr (nI 1) 12 6 0 P))), (b2, .inl (cI, 78, .inl (xk_clr (nI 0) 12 6 0 A0)))] H := hP
      have hD : va_D A [(x0, .inr (5, [.ref b0, .ref r0, .ref c0, .ref d0, .ref s0])), (b0, .inr (0, [.ref b1, .ref b2, .int (nI kn), .int (nI 0)])), (b1, .inl (cI, 78, .inl (xk_clr (nI 1) 12 6 0 P))), (b2, .inl (cI, 78, .inl (xk_clr (nI 0) 12 6 0 A0)))] := hD
      exact hret ((kn, 0, xk_clr (nI 1) 12 6 0 P, xk_clr (nI 0) 12 6 0 A0)) H locs _ _ _ ls (⟨kn, hk1, hk6, rfl, rfl⟩) hP hD hS (Nat.le_of_ble_eq_true rfl) (Nat.le_of_ble_eq_true rfl) xj_L_goods_29
    · -- 11
      exact hthr xn_EA ((gc, dc, P, A0)) H locs _ _ _ ls (⟨rfl, xo_rg_2 h8, rfl⟩) hP hD hS hl.1 ⟨48, 50, 52, 0, _, xj_L_goods_11, xj_L_goods_14, xj_L_goods_15, xj_L_goods_17, xj_L_goods_20, xw_187, xw_11, rfl, Or.inl ⟨rfl, rfl⟩⟩ (Nat.le_of_ble_eq_true rfl) (Nat.le_of_ble_eq_true rfl)
set_option maxRecDepth 100000 in
set_option maxHeartbeats 4000000 in
theorem xt_L_day (l : Launch) (hl0 : l.stackTraces = false) (D : va_G) (cI cZ cJ : ClassId) (sa : Nat → Nat) (x0 b0 r0 c0 d0 s0 : Nat) (b1 b2 gc dc : Nat) (P A0 : Nat → Int32) (hd : dc ≤ 12) : xc_Xi l xy_L_day xb_L_day 1 .int 7 1 6 [.ref x0] D cI cZ cJ sa [(x0, .inr (5, [.ref b0, .ref r0, .ref c0, .ref d0, .ref s0])), (b0, .inr (0, [.ref b1, .ref b2, .int (nI gc), .int (nI dc)])), (b1, .inl (cI, 78, .inl P)), (b2, .inl (cI, 78, .inl A0))] (Nat × (Nat → Int32) × (Nat → Int32)) (fun r u => dc < 12 ∧ r = nI dc ∧ u = (dc + 1, xk_clr (nI 1) dc 6 0 P, xk_clr (nI 0) dc 6 0 A0)) (fun E u => E = xn_ES ∧ dc = 12 ∧ u = (dc, P, A0)) (fun u => [(x0, .inr (5, [.ref b0, .ref r0, .ref c0, .ref d0, .ref s0])), (b0, .inr (0, [.ref b1, .ref b2, .int (nI gc), .int (nI u.1)])), (b1, .inl (cI, 78, .inl u.2.1)), (b2, .inl (cI, 78, .inl u.2.2))]) := by
  refine xc_Xi_of hl0 (by decide) (by decide) rfl (Nat.le_of_ble_eq_true rfl) ?_
  intro p e s m args below meth c Q ls A hAt hP hK hD hA hS hl hT0 hret hthr hpass
  obtain ⟨hx, hb, hml, hown, hts, hgs, hlk⟩ := id hAt
  have hT : ∀ w ∈ xw_g, w ∈ xc_ws xy_L_day xb_L_day 1 (some .int) := fun w h => List.mem_cons_of_mem _ h
  have hown : s.vm.findClass "WishLedger" = some m.cls := hown
  obtain ⟨H, hH0⟩ : ∃ H, H = s.heap := ⟨_, rfl⟩
  obtain ⟨locs, hL0⟩ : ∃ locs : List Loc, locs = [] := ⟨_, rfl⟩
  have hP : va_P D xn_cl [(x0, .inr (5, [.ref b0, .ref r0, .ref c0, .ref d0, .ref s0])), (b0, .inr (0, [.ref b1, .ref b2, .int (nI gc), .int (nI dc)])), (b1, .inl (cI, 78, .inl P)), (b2, .inl (cI, 78, .inl A0))] H := by rw [hH0]; exact hP
  have hS : va_S A s.heap H locs := by rw [hH0, hL0]; exact hS
  suffices hgo : W p l e (xc_rm 7 1 6) s m args below meth c H locs 0 0 Q (F0 m 0 ls []) by rw [hH0, hL0] at hgo; exact hgo
  clear hH0 hL0
  have hl : lv_has ls 1 [(0, .ref x0)] := hl
  refine lv_aload_n hx hb xj_L_day_0 rfl (lv_at hl 0 rfl) ?_
  refine va_get (D := D) (ci := 5) (v := .ref b0) (C := xn_L) (T := xn_TL) (N := 5) hx hb hgs xw_uL hown hK.1 hP 0 rfl rfl 0 (by decide) (hgs _ xw_123) (fun _ h9 => h9) rfl xj_L_day_1 ?_
  refine va_getN (D := D) (ci := 0) (v := .int (nI dc)) (C := xn_B) (T := xn_TB) (N := 4) hx hb hgs xw_uB hown hK.1 hP 1 rfl rfl 3 (by decide) (va_Nw.use rfl (hK.2 _ (List.mem_of_getElem? (i := 3) rfl))) (fun _ h9 => h9) rfl xj_L_day_4 ?_
  refine lv_bipush (v := nI 12) hx hb xj_L_day_7 (by decide) ?_
  refine xr_lt (tgt := 22) hx hb (by omega) (by omega) xj_L_day_9 rfl (fun h9 => ?_) (fun h9 => ?_)
  · -- 22
    refine lv_aload_n hx hb xj_L_day_22 rfl (lv_at hl 0 rfl) ?_
    refine va_get (D := D) (ci := 5) (v := .ref b0) (C := xn_L) (T := xn_TL) (N := 5) hx hb hgs xw_uL hown hK.1 hP 0 rfl rfl 0 (by decide) (hgs _ xw_123) (fun _ h9 => h9) rfl xj_L_day_23 ?_
    refine xc_wVNi (av := []) (rest := []) (wr := [(x0, .inr (5, [.ref b0, .ref r0, .ref c0, .ref d0, .ref s0]))]) hAt hT (xt_B_addDay l D cI cZ cJ b0 b1 b2 gc dc P A0 (by omega)) (List.mem_of_getElem? (i := 21) rfl) xw_2 xw_282 xw_281 xs_B_addDay (C0 := xn_B) (q0 := 0) rfl rfl (na := 0) rfl (by decide +kernel) ⟨Nat.le_of_ble_eq_true rfl, Nat.le_of_ble_eq_true rfl⟩ hP hD hS hA [1, 2, 3] [0] rfl rfl (by decide) (by decide) (by decide) hK hl.1 (Nat.le_of_ble_eq_true rfl) ⟨Nat.le_of_ble_eq_true rfl, Nat.le_of_ble_eq_true rfl⟩ xj_L_day_26 (fun r26 _ H locs hr26 hP hD hS => ?_)
    have hP : va_P D xn_cl [(x0, .inr (5, [.ref b0, .ref r0, .ref c0, .ref d0, .ref s0])), (b0, .inr (0, [.ref b1, .ref b2, .int (nI gc), .int (nI (dc + 1))])), (b1, .inl (cI, 78, .inl (xk_clr (nI 1) dc 6 0 P))), (b2, .inl (cI, 78, .inl (xk_clr (nI 0) dc 6 0 A0)))] H := hP
    have hD : va_D A [(x0, .inr (5, [.ref b0, .ref r0, .ref c0, .ref d0, .ref s0])), (b0, .inr (0, [.ref b1, .ref b2, .int (nI gc), .int (nI (dc + 1))])), (b1, .inl (cI, 78, .inl (xk_clr (nI 1) dc 6 0 P))), (b2, .inl (cI, 78, .inl (xk_clr (nI 0) dc 6 0 A0)))] := hD
    exact hret r26 ((dc + 1, xk_clr (nI 1) dc 6 0 P, xk_clr (nI 0) dc 6 0 A0)) H locs _ _ _ ls (⟨h9, hr26, rfl⟩) rfl hP hD hS (Nat.le_of_ble_eq_true rfl) (Nat.le_of_ble_eq_true rfl) xj_L_day_29
  · -- 12
    exact hthr xn_ES ((dc, P, A0)) H locs _ _ _ ls (⟨rfl, by omega, rfl⟩) hP hD hS hl.1 ⟨59, 61, 63, 1, _, xj_L_day_12, xj_L_day_15, xj_L_day_16, xj_L_day_18, xj_L_day_21, xw_263, xw_12, rfl, Or.inr (Or.inl ⟨rfl, rfl⟩)⟩ (Nat.le_of_ble_eq_true rfl) (Nat.le_of_ble_eq_true rfl)
set_option maxRecDepth 100000 in
set_option maxHeartbeats 4000000 in
theorem xt_L_price (l : Launch) (hl0 : l.stackTraces = false) (D : va_G) (cI cZ cJ : ClassId) (sa : Nat → Nat) (x0 b0 r0 c0 d0 s0 : Nat) (b1 b2 gc dc : Nat) (P A0 : Nat → Int32) (d g v : Int32) (hg : gc ≤ 6) (hd : dc ≤ 12) : xc_Xi l xy_L_price xb_L_price 4 .int 7 3 18 [.ref x0, .int d, .int g, .int v] D cI cZ cJ sa [(x0, .inr (5, [.ref b0, .ref r0, .ref c0, .ref d0, .ref s0])), (b0, .inr (0, [.ref b1, .ref b2, .int (nI gc), .int (nI dc)])), (b1, .inl (cI, 78, .inl P)), (b2, .inl (cI, 78, .inl A0))] ((Nat → Int32)) (fun r u => ∃ k j, k < dc ∧ j < gc ∧ d = nI k ∧ g = nI j ∧ xo_rg v (nI 1) (nI 99) = true ∧ r = P (k * 6 + j) ∧ u = upd P (k * 6 + j) v) (fun E u => u = P ∧ xo_c2 xn_EX xn_EA (xo_set dc gc d g (xo_rg v (nI 1) (nI 99))) E) (fun u => [(x0, .inr (5, [.ref b0, .ref r0, .ref c0, .ref d0, .ref s0])), (b0, .inr (0, [.ref b1, .ref b2, .int (nI gc), .int (nI dc)])), (b1, .inl (cI, 78, .inl u)), (b2, .inl (cI, 78, .inl A0))]) := by
  refine xc_Xi_of hl0 (by decide) (by decide) rfl (Nat.le_of_ble_eq_true rfl) ?_
  intro p e s m args below meth c Q ls A hAt hP hK hD hA hS hl hT0 hret hthr hpass
  obtain ⟨hx, hb, hml, hown, hts, hgs, hlk⟩ := id hAt
  have hT : ∀ w ∈ xw_g, w ∈ xc_ws xy_L_price xb_L_price 4 (some .int) := fun w h => List.mem_cons_of_mem _ h
  have hown : s.vm.findClass "WishLedger" = some m.cls := hown
  obtain ⟨H, hH0⟩ : ∃ H, H = s.heap := ⟨_, rfl⟩
  obtain ⟨locs, hL0⟩ : ∃ locs : List Loc, locs = [] := ⟨_, rfl⟩
  have hP : va_P D xn_cl [(x0, .inr (5, [.ref b0, .ref r0, .ref c0, .ref d0, .ref s0])), (b0, .inr (0, [.ref b1, .ref b2, .int (nI gc), .int (nI dc)])), (b1, .inl (cI, 78, .inl P)), (b2, .inl (cI, 78, .inl A0))] H := by rw [hH0]; exact hP
  have hS : va_S A s.heap H locs := by rw [hH0, hL0]; exact hS
  suffices hgo : W p l e (xc_rm 7 3 18) s m args below meth c H locs 0 0 Q (F0 m 0 ls []) by rw [hH0, hL0] at hgo; exact hgo
  clear hH0 hL0
  have hl : lv_has ls 4 [(0, .ref x0), (1, .int d), (2, .int g), (3, .int v)] := hl
  refine lv_aload_n hx hb xj_L_price_0 rfl (lv_at hl 0 rfl) ?_
  refine lv_iload_n hx hb xj_L_price_1 rfl (lv_at hl 1 rfl) ?_
  refine xc_xVv (av := [.int d]) (rest := []) (wr := [(b1, .inl (cI, 78, .inl P)), (b2, .inl (cI, 78, .inl A0))]) hAt hT (xt_L_requireDay l hl0 D cI cZ cJ sa x0 b0 r0 c0 d0 s0 b1 b2 gc dc d) xw_291 xw_1 xw_294 xw_293 xs_L_requireDay (C0 := xn_L) (q0 := 0) rfl rfl (na := 1) rfl (by decide +kernel) ⟨Nat.le_of_ble_eq_true rfl, Nat.le_of_ble_eq_true rfl⟩ hP hD hS hA [0, 1] [2, 3] rfl rfl (by decide) (by decide) (by decide) hK hT0 hl.1 (Nat.le_of_ble_eq_true rfl) ⟨Nat.le_of_ble_eq_true rfl, Nat.le_of_ble_eq_true rfl⟩ xj_L_price_2 (fun Ex ce q9 u9 H locs hf hP hD hS hq hv hcl => ?_) (fun _ H locs hf2 hP hD hS => ?_)
  · have hP : va_P D xn_cl [(x0, .inr (5, [.ref b0, .ref r0, .ref c0, .ref d0, .ref s0])), (b0, .inr (0, [.ref b1, .ref b2, .int (nI gc), .int (nI dc)])), (b1, .inl (cI, 78, .inl P)), (b2, .inl (cI, 78, .inl A0))] H := va_P.sub hP [2, 3, 0, 1] rfl
    have hD : va_D A [(x0, .inr (5, [.ref b0, .ref r0, .ref c0, .ref d0, .ref s0])), (b0, .inr (0, [.ref b1, .ref b2, .int (nI gc), .int (nI dc)])), (b1, .inl (cI, 78, .inl P)), (b2, .inl (cI, 78, .inl A0))] := va_D.sub hD [2, 3, 0, 1] (by decide) rfl
    exact hpass Ex ce q9 P H locs _ _ _ ls _ (⟨rfl, Or.inl ⟨hf.1, xo_set_d hf.2⟩⟩) hP hD hS hq hv hcl (Nat.le_of_ble_eq_true rfl) (Nat.le_of_ble_eq_true rfl)
  have hP : va_P D xn_cl [(x0, .inr (5, [.ref b0, .ref r0, .ref c0, .ref d0, .ref s0])), (b0, .inr (0, [.ref b1, .ref b2, .int (nI gc), .int (nI dc)])), (b1, .inl (cI, 78, .inl P)), (b2, .inl (cI, 78, .inl A0))] H := va_P.sub hP [2, 3, 0, 1] rfl
  have hD : va_D A [(x0, .inr (5, [.ref b0, .ref r0, .ref c0, .ref d0, .ref s0])), (b0, .inr (0, [.ref b1, .ref b2, .int (nI gc), .int (nI dc)])), (b1, .inl (cI, 78, .inl P)), (b2, .inl (cI, 78, .inl A0))] := va_D.sub hD [2, 3, 0, 1] (by decide) rfl
  refine lv_aload_n hx hb xj_L_price_5 rfl (lv_at hl 0 rfl) ?_
  refine lv_iload_n hx hb xj_L_price_6 rfl (lv_at hl 2 rfl) ?_
  refine xc_xVv (av := [.int g]) (rest := []) (wr := [(b1, .inl (cI, 78, .inl P)), (b2, .inl (cI, 78, .inl A0))]) hAt hT (xt_L_requireGood l hl0 D cI cZ cJ sa x0 b0 r0 c0 d0 s0 b1 b2 gc dc g) xw_311 xw_1 xw_314 xw_313 xs_L_requireGood (C0 := xn_L) (q0 := 0) rfl rfl (na := 1) rfl (by decide +kernel) ⟨Nat.le_of_ble_eq_true rfl, Nat.le_of_ble_eq_true rfl⟩ hP hD hS hA [0, 1] [2, 3] rfl rfl (by decide) (by decide) (by decide) hK hT0 hl.1 (Nat.le_of_ble_eq_true rfl) ⟨Nat.le_of_ble_eq_true rfl, Nat.le_of_ble_eq_true rfl⟩ xj_L_price_7 (fun Ex ce q9 u9 H locs hf hP hD hS hq hv hcl => ?_) (fun _ H locs hf7 hP hD hS => ?_)
  · have hP : va_P D xn_cl [(x0, .inr (5, [.ref b0, .ref r0, .ref c0, .ref d0, .ref s0])), (b0, .inr (0, [.ref b1, .ref b2, .int (nI gc), .int (nI dc)])), (b1, .inl (cI, 78, .inl P)), (b2, .inl (cI, 78, .inl A0))] H := va_P.sub hP [2, 3, 0, 1] rfl
    have hD : va_D A [(x0, .inr (5, [.ref b0, .ref r0, .ref c0, .ref d0, .ref s0])), (b0, .inr (0, [.ref b1, .ref b2, .int (nI gc), .int (nI dc)])), (b1, .inl (cI, 78, .inl P)), (b2, .inl (cI, 78, .inl A0))] := va_D.sub hD [2, 3, 0, 1] (by decide) rfl
    exact hpass Ex ce q9 P H locs _ _ _ ls _ (⟨rfl, Or.inl ⟨hf.1, xo_set_g hf.2⟩⟩) hP hD hS hq hv hcl (Nat.le_of_ble_eq_true rfl) (Nat.le_of_ble_eq_true rfl)
  have hP : va_P D xn_cl [(x0, .inr (5, [.ref b0, .ref r0, .ref c0, .ref d0, .ref s0])), (b0, .inr (0, [.ref b1, .ref b2, .int (nI gc), .int (nI dc)])), (b1, .inl (cI, 78, .inl P)), (b2, .inl (cI, 78, .inl A0))] H := va_P.sub hP [2, 3, 0, 1] rfl
  have hD : va_D A [(x0, .inr (5, [.ref b0, .ref r0, .ref c0, .ref d0, .ref s0])), (b0, .inr (0, [.ref b1, .ref b2, .int (nI gc), .int (nI dc)])), (b1, .inl (cI, 78, .inl P)), (b2, .inl (cI, 78, .inl A0))] := va_D.sub hD [2, 3, 0, 1] (by decide) rfl
  refine lv_iload_n hx hb xj_L_price_10 rfl (lv_at hl 3 rfl) ?_
  refine xc_xSv (av := [.int v]) (rest := []) (wr := [(x0, .inr (5, [.ref b0, .ref r0, .ref c0, .ref d0, .ref s0])), (b0, .inr (0, [.ref b1, .ref b2, .int (nI gc), .int (nI dc)])), (b1, .inl (cI, 78, .inl P)), (b2, .inl (cI, 78, .inl A0))]) hAt hT (xt_L_requirePrice l hl0 D cI cZ cJ sa v) xw_316 xw_1 xw_318 xw_317 (na := 1) rfl (by decide +kernel) ⟨Nat.le_of_ble_eq_true rfl, Nat.le_of_ble_eq_true rfl⟩ hP hD hS hA [] [0, 1, 2, 3] rfl rfl (by decide) (by decide) (by decide) hK hT0 hl.1 (Nat.le_of_ble_eq_true rfl) ⟨Nat.le_of_ble_eq_true rfl, Nat.le_of_ble_eq_true rfl⟩ xj_L_price_11 (fun Ex ce q9 u9 H locs hf hP hD hS hq hv hcl => ?_) (fun _ H locs hf11 hP hD hS => ?_)
  · have hP : va_P D xn_cl [(x0, .inr (5, [.ref b0, .ref r0, .ref c0, .ref d0, .ref s0])), (b0, .inr (0, [.ref b1, .ref b2, .int (nI gc), .int (nI dc)])), (b1, .inl (cI, 78, .inl P)), (b2, .inl (cI, 78, .inl A0))] H := va_P.sub hP [0, 1, 2, 3] rfl
    have hD : va_D A [(x0, .inr (5, [.ref b0, .ref r0, .ref c0, .ref d0, .ref s0])), (b0, .inr (0, [.ref b1, .ref b2, .int (nI gc), .int (nI dc)])), (b1, .inl (cI, 78, .inl P)), (b2, .inl (cI, 78, .inl A0))] := va_D.sub hD [0, 1, 2, 3] (by decide) rfl
    exact hpass Ex ce q9 P H locs _ _ _ ls _ (⟨rfl, Or.inr ⟨hf.1, xo_set_v hf2 hf7 hf.2⟩⟩) hP hD hS hq hv hcl (Nat.le_of_ble_eq_true rfl) (Nat.le_of_ble_eq_true rfl)
  have hP : va_P D xn_cl [(x0, .inr (5, [.ref b0, .ref r0, .ref c0, .ref d0, .ref s0])), (b0, .inr (0, [.ref b1, .ref b2, .int (nI gc), .int (nI dc)])), (b1, .inl (cI, 78, .inl P)), (b2, .inl (cI, 78, .inl A0))] H := hP
  have hD : va_D A [(x0, .inr (5, [.ref b0, .ref r0, .ref c0, .ref d0, .ref s0])), (b0, .inr (0, [.ref b1, .ref b2, .int (nI gc), .int (nI dc)])), (b1, .inl (cI, 78, .inl P)), (b2, .inl (cI, 78, .inl A0))] := hD
  obtain ⟨kd, hkd, rfl⟩ := xo_in_k (by omega) (id hf2)
  obtain ⟨kg, hkg, rfl⟩ := xo_in_k (by omega) (id hf7)
  refine lv_aload_n hx hb xj_L_price_14 rfl (lv_at hl 0 rfl) ?_
  refine va_get (D := D) (ci := 5) (v := .ref b0) (C := xn_L) (T := xn_TL) (N := 5) hx hb hgs xw_uL hown hK.1 hP 0 rfl rfl 0 (by decide) (hgs _ xw_123) (fun _ h9 => h9) rfl xj_L_price_15 ?_
  refine lv_iload_n hx hb xj_L_price_18 rfl (lv_at hl 1 rfl) ?_
  refine lv_iload_n hx hb xj_L_price_19 rfl (lv_at hl 2 rfl) ?_
  refine lv_iload_n hx hb xj_L_price_20 rfl (lv_at hl 3 rfl) ?_
  refine xc_wVNi (av := [.int (nI kd), .int (nI kg), .int v]) (rest := []) (wr := [(x0, .inr (5, [.ref b0, .ref r0, .ref c0, .ref d0, .ref s0]))]) hAt hT (xt_B_setPrice l D cI cZ cJ b0 b1 b2 gc dc P A0 kd kg v (by omega) (by omega)) (List.mem_of_getElem? (i := 22) rfl) xw_2 xw_323 xw_322 xs_B_setPrice (C0 := xn_B) (q0 := 0) rfl rfl (na := 3) rfl (by decide +kernel) ⟨Nat.le_of_ble_eq_true rfl, Nat.le_of_ble_eq_true rfl⟩ hP hD hS hA [1, 2, 3] [0] rfl rfl (by decide) (by decide) (by decide) hK hl.1 (Nat.le_of_ble_eq_true rfl) ⟨Nat.le_of_ble_eq_true rfl, Nat.le_of_ble_eq_true rfl⟩ xj_L_price_21 (fun r21 _ H locs hr21 hP hD hS => ?_)
  have hP : va_P D xn_cl [(x0, .inr (5, [.ref b0, .ref r0, .ref c0, .ref d0, .ref s0])), (b0, .inr (0, [.ref b1, .ref b2, .int (nI gc), .int (nI dc)])), (b1, .inl (cI, 78, .inl (upd P (kd * 6 + kg) v))), (b2, .inl (cI, 78, .inl A0))] H := hP
  have hD : va_D A [(x0, .inr (5, [.ref b0, .ref r0, .ref c0, .ref d0, .ref s0])), (b0, .inr (0, [.ref b1, .ref b2, .int (nI gc), .int (nI dc)])), (b1, .inl (cI, 78, .inl (upd P (kd * 6 + kg) v))), (b2, .inl (cI, 78, .inl A0))] := hD
  exact hret r21 (upd P (kd * 6 + kg) v) H locs _ _ _ ls (⟨kd, kg, hkd, hkg, rfl, rfl, hf11, hr21, rfl⟩) rfl hP hD hS (Nat.le_of_ble_eq_true rfl) (Nat.le_of_ble_eq_true rfl) xj_L_price_24
set_option maxRecDepth 100000 in
set_option maxHeartbeats 4000000 in
theorem xt_L_amount (l : Launch) (hl0 : l.stackTraces = false) (D : va_G) (cI cZ cJ : ClassId) (sa : Nat → Nat) (x0 b0 r0 c0 d0 s0 : Nat) (b1 b2 gc dc : Nat) (P A0 : Nat → Int32) (d g v : Int32) (hg : gc ≤ 6) (hd : dc ≤ 12) : xc_Xi l xy_L_amount xb_L_amount 4 .int 7 3 18 [.ref x0, .int d, .int g, .int v] D cI cZ cJ sa [(x0, .inr (5, [.ref b0, .ref r0, .ref c0, .ref d0, .ref s0])), (b0, .inr (0, [.ref b1, .ref b2, .int (nI gc), .int (nI dc)])), (b1, .inl (cI, 78, .inl P)), (b2, .inl (cI, 78, .inl A0))] ((Nat → Int32)) (fun r u => ∃ k j, k < dc ∧ j < gc ∧ d = nI k ∧ g = nI j ∧ xo_rg v 0 (nI 99) = true ∧ r = A0 (k * 6 + j) ∧ u = upd A0 (k * 6 + j) v) (fun E u => u = A0 ∧ xo_c2 xn_EX xn_EA (xo_set dc gc d g (xo_rg v 0 (nI 99))) E) (fun u => [(x0, .inr (5, [.ref b0, .ref r0, .ref c0, .ref d0, .ref s0])), (b0, .inr (0, [.ref b1, .ref b2, .int (nI gc), .int (nI dc)])), (b1, .inl (cI, 78, .inl P)), (b2, .inl (cI, 78, .inl u))]) := by
  refine xc_Xi_of hl0 (by decide) (by decide) rfl (Nat.le_of_ble_eq_true rfl) ?_
  intro p e s m args below meth c Q ls A hAt hP hK hD hA hS hl hT0 hret hthr hpass
  obtain ⟨hx, hb, hml, hown, hts, hgs, hlk⟩ := id hAt
  have hT : ∀ w ∈ xw_g, w ∈ xc_ws xy_L_amount xb_L_amount 4 (some .int) := fun w h => List.mem_cons_of_mem _ h
  have hown : s.vm.findClass "WishLedger" = some m.cls := hown
  obtain ⟨H, hH0⟩ : ∃ H, H = s.heap := ⟨_, rfl⟩
  obtain ⟨locs, hL0⟩ : ∃ locs : List Loc, locs = [] := ⟨_, rfl⟩
  have hP : va_P D xn_cl [(x0, .inr (5, [.ref b0, .ref r0, .ref c0, .ref d0, .ref s0])), (b0, .inr (0, [.ref b1, .ref b2, .int (nI gc), .int (nI dc)])), (b1, .inl (cI, 78, .inl P)), (b2, .inl (cI, 78, .inl A0))] H := by rw [hH0]; exact hP
  have hS : va_S A s.heap H locs := by rw [hH0, hL0]; exact hS
  suffices hgo : W p l e (xc_rm 7 3 18) s m args below meth c H locs 0 0 Q (F0 m 0 ls []) by rw [hH0, hL0] at hgo; exact hgo
  clear hH0 hL0
  have hl : lv_has ls 4 [(0, .ref x0), (1, .int d), (2, .int g), (3, .int v)] := hl
  refine lv_aload_n hx hb xj_L_amount_0 rfl (lv_at hl 0 rfl) ?_
  refine lv_iload_n hx hb xj_L_amount_1 rfl (lv_at hl 1 rfl) ?_
  refine xc_xVv (av := [.int d]) (rest := []) (wr := [(b1, .inl (cI, 78, .inl P)), (b2, .inl (cI, 78, .inl A0))]) hAt hT (xt_L_requireDay l hl0 D cI cZ cJ sa x0 b0 r0 c0 d0 s0 b1 b2 gc dc d) xw_291 xw_1 xw_294 xw_293 xs_L_requireDay (C0 := xn_L) (q0 := 0) rfl rfl (na := 1) rfl (by decide +kernel) ⟨Nat.le_of_ble_eq_true rfl, Nat.le_of_ble_eq_true rfl⟩ hP hD hS hA [0, 1] [2, 3] rfl rfl (by decide) (by decide) (by decide) hK hT0 hl.1 (Nat.le_of_ble_eq_true rfl) ⟨Nat.le_of_ble_eq_true rfl, Nat.le_of_ble_eq_true rfl⟩ xj_L_amount_2 (fun Ex ce q9 u9 H locs hf hP hD hS hq hv hcl => ?_) (fun _ H locs hf2 hP hD hS => ?_)
  · have hP : va_P D xn_cl [(x0, .inr (5, [.ref b0, .ref r0, .ref c0, .ref d0, .ref s0])), (b0, .inr (0, [.ref b1, .ref b2, .int (nI gc), .int (nI dc)])), (b1, .inl (cI, 78, .inl P)), (b2, .inl (cI, 78, .inl A0))] H := va_P.sub hP [2, 3, 0, 1] rfl
    have hD : va_D A [(x0, .inr (5, [.ref b0, .ref r0, .ref c0, .ref d0, .ref s0])), (b0, .inr (0, [.ref b1, .ref b2, .int (nI gc), .int (nI dc)])), (b1, .inl (cI, 78, .inl P)), (b2, .inl (cI, 78, .inl A0))] := va_D.sub hD [2, 3, 0, 1] (by decide) rfl
    exact hpass Ex ce q9 A0 H locs _ _ _ ls _ (⟨rfl, Or.inl ⟨hf.1, xo_set_d hf.2⟩⟩) hP hD hS hq hv hcl (Nat.le_of_ble_eq_true rfl) (Nat.le_of_ble_eq_true rfl)
  have hP : va_P D xn_cl [(x0, .inr (5, [.ref b0, .ref r0, .ref c0, .ref d0, .ref s0])), (b0, .inr (0, [.ref b1, .ref b2, .int (nI gc), .int (nI dc)])), (b1, .inl (cI, 78, .inl P)), (b2, .inl (cI, 78, .inl A0))] H := va_P.sub hP [2, 3, 0, 1] rfl
  have hD : va_D A [(x0, .inr (5, [.ref b0, .ref r0, .ref c0, .ref d0, .ref s0])), (b0, .inr (0, [.ref b1, .ref b2, .int (nI gc), .int (nI dc)])), (b1, .inl (cI, 78, .inl P)), (b2, .inl (cI, 78, .inl A0))] := va_D.sub hD [2, 3, 0, 1] (by decide) rfl
  refine lv_aload_n hx hb xj_L_amount_5 rfl (lv_at hl 0 rfl) ?_
  refine lv_iload_n hx hb xj_L_amount_6 rfl (lv_at hl 2 rfl) ?_
  refine xc_xVv (av := [.int g]) (rest := []) (wr := [(b1, .inl (cI, 78, .inl P)), (b2, .inl (cI, 78, .inl A0))]) hAt hT (xt_L_requireGood l hl0 D cI cZ cJ sa x0 b0 r0 c0 d0 s0 b1 b2 gc dc g) xw_311 xw_1 xw_314 xw_313 xs_L_requireGood (C0 := xn_L) (q0 := 0) rfl rfl (na := 1) rfl (by decide +kernel) ⟨Nat.le_of_ble_eq_true rfl, Nat.le_of_ble_eq_true rfl⟩ hP hD hS hA [0, 1] [2, 3] rfl rfl (by decide) (by decide) (by decide) hK hT0 hl.1 (Nat.le_of_ble_eq_true rfl) ⟨Nat.le_of_ble_eq_true rfl, Nat.le_of_ble_eq_true rfl⟩ xj_L_amount_7 (fun Ex ce q9 u9 H locs hf hP hD hS hq hv hcl => ?_) (fun _ H locs hf7 hP hD hS => ?_)
  · have hP : va_P D xn_cl [(x0, .inr (5, [.ref b0, .ref r0, .ref c0, .ref d0, .ref s0])), (b0, .inr (0, [.ref b1, .ref b2, .int (nI gc), .int (nI dc)])), (b1, .inl (cI, 78, .inl P)), (b2, .inl (cI, 78, .inl A0))] H := va_P.sub hP [2, 3, 0, 1] rfl
    have hD : va_D A [(x0, .inr (5, [.ref b0, .ref r0, .ref c0, .ref d0, .ref s0])), (b0, .inr (0, [.ref b1, .ref b2, .int (nI gc), .int (nI dc)])), (b1, .inl (cI, 78, .inl P)), (b2, .inl (cI, 78, .inl A0))] := va_D.sub hD [2, 3, 0, 1] (by decide) rfl
    exact hpass Ex ce q9 A0 H locs _ _ _ ls _ (⟨rfl, Or.inl ⟨hf.1, xo_set_g hf.2⟩⟩) hP hD hS hq hv hcl (Nat.le_of_ble_eq_true rfl) (Nat.le_of_ble_eq_true rfl)
  have hP : va_P D xn_cl [(x0, .inr (5, [.ref b0, .ref r0, .ref c0, .ref d0, .ref s0])), (b0, .inr (0, [.ref b1, .ref b2, .int (nI gc), .int (nI dc)])), (b1, .inl (cI, 78, .inl P)), (b2, .inl (cI, 78, .inl A0))] H := va_P.sub hP [2, 3, 0, 1] rfl
  have hD : va_D A [(x0, .inr (5, [.ref b0, .ref r0, .ref c0, .ref d0, .ref s0])), (b0, .inr (0, [.ref b1, .ref b2, .int (nI gc), .int (nI dc)])), (b1, .inl (cI, 78, .inl P)), (b2, .inl (cI, 78, .inl A0))] := va_D.sub hD [2, 3, 0, 1] (by decide) rfl
  refine lv_iload_n hx hb xj_L_amount_10 rfl (lv_at hl 3 rfl) ?_
  refine xc_xSv (av := [.int v]) (rest := []) (wr := [(x0, .inr (5, [.ref b0, .ref r0, .ref c0, .ref d0, .ref s0])), (b0, .inr (0, [.ref b1, .ref b2, .int (nI gc), .int (nI dc)])), (b1, .inl (cI, 78, .inl P)), (b2, .inl (cI, 78, .inl A0))]) hAt hT (xt_L_requireAmount l hl0 D cI cZ cJ sa v) xw_331 xw_1 xw_333 xw_332 (na := 1) rfl (by decide +kernel) ⟨Nat.le_of_ble_eq_true rfl, Nat.le_of_ble_eq_true rfl⟩ hP hD hS hA [] [0, 1, 2, 3] rfl rfl (by decide) (by decide) (by decide) hK hT0 hl.1 (Nat.le_of_ble_eq_true rfl) ⟨Nat.le_of_ble_eq_true rfl, Nat.le_of_ble_eq_true rfl⟩ xj_L_amount_11 (fun Ex ce q9 u9 H locs hf hP hD hS hq hv hcl => ?_) (fun _ H locs hf11 hP hD hS => ?_)
  · have hP : va_P D xn_cl [(x0, .inr (5, [.ref b0, .ref r0, .ref c0, .ref d0, .ref s0])), (b0, .inr (0, [.ref b1, .ref b2, .int (nI gc), .int (nI dc)])), (b1, .inl (cI, 78, .inl P)), (b2, .inl (cI, 78, .inl A0))] H := va_P.sub hP [0, 1, 2, 3] rfl
    have hD : va_D A [(x0, .inr (5, [.ref b0, .ref r0, .ref c0, .ref d0, .ref s0])), (b0, .inr (0, [.ref b1, .ref b2, .int (nI gc), .int (nI dc)])), (b1, .inl (cI, 78, .inl P)), (b2, .inl (cI, 78, .inl A0))] := va_D.sub hD [0, 1, 2, 3] (by decide) rfl
    exact hpass Ex ce q9 A0 H locs _ _ _ ls _ (⟨rfl, Or.inr ⟨hf.1, xo_set_v hf2 hf7 hf.2⟩⟩) hP hD hS hq hv hcl (Nat.le_of_ble_eq_true rfl) (Nat.le_of_ble_eq_true rfl)
  have hP : va_P D xn_cl [(x0, .inr (5, [.ref b0, .ref r0, .ref c0, .ref d0, .ref s0])), (b0, .inr (0, [.ref b1, .ref b2, .int (nI gc), .int (nI dc)])), (b1, .inl (cI, 78, .inl P)), (b2, .inl (cI, 78, .inl A0))] H := hP
  have hD : va_D A [(x0, .inr (5, [.ref b0, .ref r0, .ref c0, .ref d0, .ref s0])), (b0, .inr (0, [.ref b1, .ref b2, .int (nI gc), .int (nI dc)])), (b1, .inl (cI, 78, .inl P)), (b2, .inl (cI, 78, .inl A0))] := hD
  obtain ⟨kd, hkd, rfl⟩ := xo_in_k (by omega) (id hf2)
  obtain ⟨kg, hkg, rfl⟩ := xo_in_k (by omega) (id hf7)
  refine lv_aload_n hx hb xj_L_amount_14 rfl (lv_at hl 0 rfl) ?_
  refine va_get (D := D) (ci := 5) (v := .ref b0) (C := xn_L) (T := xn_TL) (N := 5) hx hb hgs xw_uL hown hK.1 hP 0 rfl rfl 0 (by decide) (hgs _ xw_123) (fun _ h9 => h9) rfl xj_L_amount_15 ?_
  refine lv_iload_n hx hb xj_L_amount_18 rfl (lv_at hl 1 rfl) ?_
  refine lv_iload_n hx hb xj_L_amount_19 rfl (lv_at hl 2 rfl) ?_
  refine lv_iload_n hx hb xj_L_amount_20 rfl (lv_at hl 3 rfl) ?_
  refine xc_wVNi (av := [.int (nI kd), .int (nI kg), .int v]) (rest := []) (wr := [(x0, .inr (5, [.ref b0, .ref r0, .ref c0, .ref d0, .ref s0]))]) hAt hT (xt_B_setAmount l D cI cZ cJ b0 b1 b2 gc dc P A0 kd kg v (by omega) (by omega)) (List.mem_of_getElem? (i := 23) rfl) xw_2 xw_338 xw_337 xs_B_setAmount (C0 := xn_B) (q0 := 0) rfl rfl (na := 3) rfl (by decide +kernel) ⟨Nat.le_of_ble_eq_true rfl, Nat.le_of_ble_eq_true rfl⟩ hP hD hS hA [1, 2, 3] [0] rfl rfl (by decide) (by decide) (by decide) hK hl.1 (Nat.le_of_ble_eq_true rfl) ⟨Nat.le_of_ble_eq_true rfl, Nat.le_of_ble_eq_true rfl⟩ xj_L_amount_21 (fun r21 _ H locs hr21 hP hD hS => ?_)
  have hP : va_P D xn_cl [(x0, .inr (5, [.ref b0, .ref r0, .ref c0, .ref d0, .ref s0])), (b0, .inr (0, [.ref b1, .ref b2, .int (nI gc), .int (nI dc)])), (b1, .inl (cI, 78, .inl P)), (b2, .inl (cI, 78, .inl (upd A0 (kd * 6 + kg) v)))] H := hP
  have hD : va_D A [(x0, .inr (5, [.ref b0, .ref r0, .ref c0, .ref d0, .ref s0])), (b0, .inr (0, [.ref b1, .ref b2, .int (nI gc), .int (nI dc)])), (b1, .inl (cI, 78, .inl P)), (b2, .inl (cI, 78, .inl (upd A0 (kd * 6 + kg) v)))] := hD
  exact hret r21 (upd A0 (kd * 6 + kg) v) H locs _ _ _ ls (⟨kd, kg, hkd, hkg, rfl, rfl, hf11, hr21, rfl⟩) rfl hP hD hS (Nat.le_of_ble_eq_true rfl) (Nat.le_of_ble_eq_true rfl) xj_L_amount_24
set_option maxRecDepth 100000 in
set_option maxHeartbeats 4000000 in
theorem xt_L_remove (l : Launch) (hl0 : l.stackTraces = false) (D : va_G) (cI cZ cJ : ClassId) (sa : Nat → Nat) (x0 b0 r0 c0 d0 s0 : Nat) (b1 b2 gc dc : Nat) (P A0 : Nat → Int32) (d : Int32) (hg : gc ≤ 6) (hd : dc ≤ 12) : xc_Xv l xy_L_remove xb_L_remove 2 7 1 6 [.ref x0, .int d] D cI cZ cJ sa [(x0, .inr (5, [.ref b0, .ref r0, .ref c0, .ref d0, .ref s0])), (b0, .inr (0, [.ref b1, .ref b2, .int (nI gc), .int (nI dc)])), (b1, .inl (cI, 78, .inl P)), (b2, .inl (cI, 78, .inl A0))] (Nat × (Nat → Int32) × (Nat → Int32)) (fun u => ∃ k, k < dc ∧ d = nI k ∧ u = (dc - 1, xk_shf ((dc - 1) * 6 - k * 6) (k * 6) P, xk_shf ((dc - 1) * 6 - k * 6) (k * 6) A0)) (fun E u => E = xn_EX ∧ xo_in d dc = false ∧ u = (dc, P, A0)) (fun u => [(x0, .inr (5, [.ref b0, .ref r0, .ref c0, .ref d0, .ref s0])), (b0, .inr (0, [.ref b1, .ref b2, .int (nI gc), .int (nI u.1)])), (b1, .inl (cI, 78, .inl u.2.1)), (b2, .inl (cI, 78, .inl u.2.2))]) := by
  refine xc_Xv_of hl0 (by decide) (by decide) rfl (Nat.le_of_ble_eq_true rfl) ?_
  intro p e s m args below meth c Q ls A hAt hP hK hD hA hS hl hT0 hret hthr hpass
  obtain ⟨hx, hb, hml, hown, hts, hgs, hlk⟩ := id hAt
  have hT : ∀ w ∈ xw_g, w ∈ xc_ws xy_L_remove xb_L_remove 2 (none) := fun w h => List.mem_cons_of_mem _ h
  have hown : s.vm.findClass "WishLedger" = some m.cls := hown
  obtain ⟨H, hH0⟩ : ∃ H, H = s.heap := ⟨_, rfl⟩
  obtain ⟨locs, hL0⟩ : ∃ locs : List Loc, locs = [] := ⟨_, rfl⟩
  have hP : va_P D xn_cl [(x0, .inr (5, [.ref b0, .ref r0, .ref c0, .ref d0, .ref s0])), (b0, .inr (0, [.ref b1, .ref b2, .int (nI gc), .int (nI dc)])), (b1, .inl (cI, 78, .inl P)), (b2, .inl (cI, 78, .inl A0))] H := by rw [hH0]; exact hP
  have hS : va_S A s.heap H locs := by rw [hH0, hL0]; exact hS
  suffices hgo : W p l e (xc_rm 7 1 6) s m args below meth c H locs 0 0 Q (F0 m 0 ls []) by rw [hH0, hL0] at hgo; exact hgo
  clear hH0 hL0
  have hl : lv_has ls 2 [(0, .ref x0), (1, .int d)] := hl
  refine lv_aload_n hx hb xj_L_remove_0 rfl (lv_at hl 0 rfl) ?_
  refine lv_iload_n hx hb xj_L_remove_1 rfl (lv_at hl 1 rfl) ?_
  refine xc_xVv (av := [.int d]) (rest := []) (wr := [(b1, .inl (cI, 78, .inl P)), (b2, .inl (cI, 78, .inl A0))]) hAt hT (xt_L_requireDay l hl0 D cI cZ cJ sa x0 b0 r0 c0 d0 s0 b1 b2 gc dc d) xw_291 xw_1 xw_294 xw_293 xs_L_requireDay (C0 := xn_L) (q0 := 0) rfl rfl (na := 1) rfl (by decide +kernel) ⟨Nat.le_of_ble_eq_true rfl, Nat.le_of_ble_eq_true rfl⟩ hP hD hS hA [0, 1] [2, 3] rfl rfl (by decide) (by decide) (by decide) hK hT0 hl.1 (Nat.le_of_ble_eq_true rfl) ⟨Nat.le_of_ble_eq_true rfl, Nat.le_of_ble_eq_true rfl⟩ xj_L_remove_2 (fun Ex ce q9 u9 H locs hf hP hD hS hq hv hcl => ?_) (fun _ H locs hf2 hP hD hS => ?_)
  · have hP : va_P D xn_cl [(x0, .inr (5, [.ref b0, .ref r0, .ref c0, .ref d0, .ref s0])), (b0, .inr (0, [.ref b1, .ref b2, .int (nI gc), .int (nI dc)])), (b1, .inl (cI, 78, .inl P)), (b2, .inl (cI, 78, .inl A0))] H := va_P.sub hP [2, 3, 0, 1] rfl
    have hD : va_D A [(x0, .inr (5, [.ref b0, .ref r0, .ref c0, .ref d0, .ref s0])), (b0, .inr (0, [.ref b1, .ref b2, .int (nI gc), .int (nI dc)])), (b1, .inl (cI, 78, .inl P)), (b2, .inl (cI, 78, .inl A0))] := va_D.sub hD [2, 3, 0, 1] (by decide) rfl
    exact hpass Ex ce q9 ((dc, P, A0)) H locs _ _ _ ls _ (⟨hf.1, hf.2, rfl⟩) hP hD hS hq hv hcl (Nat.le_of_ble_eq_true rfl) (Nat.le_of_ble_eq_true rfl)
  have hP : va_P D xn_cl [(x0, .inr (5, [.ref b0, .ref r0, .ref c0, .ref d0, .ref s0])), (b0, .inr (0, [.ref b1, .ref b2, .int (nI gc), .int (nI dc)])), (b1, .inl (cI, 78, .inl P)), (b2, .inl (cI, 78, .inl A0))] H := va_P.sub hP [2, 3, 0, 1] rfl
  have hD : va_D A [(x0, .inr (5, [.ref b0, .ref r0, .ref c0, .ref d0, .ref s0])), (b0, .inr (0, [.ref b1, .ref b2, .int (nI gc), .int (nI dc)])), (b1, .inl (cI, 78, .inl P)), (b2, .inl (cI, 78, .inl A0))] := va_D.sub hD [2, 3, 0, 1] (by decide) rfl
  obtain ⟨kd, hkd, rfl⟩ := xo_in_k (by omega) (id hf2)
  refine lv_aload_n hx hb xj_L_remove_5 rfl (lv_at hl 0 rfl) ?_
  refine va_get (D := D) (ci := 5) (v := .ref b0) (C := xn_L) (T := xn_TL) (N := 5) hx hb hgs xw_uL hown hK.1 hP 0 rfl rfl 0 (by decide) (hgs _ xw_123) (fun _ h9 => h9) rfl xj_L_remove_6 ?_
  refine lv_iload_n hx hb xj_L_remove_9 rfl (lv_at hl 1 rfl) ?_
  refine xc_wVNv (av := [.int (nI kd)]) (rest := []) (wr := [(x0, .inr (5, [.ref b0, .ref r0, .ref c0, .ref d0, .ref s0]))]) hAt hT (xt_B_takeAway l D cI cZ cJ b0 b1 b2 gc dc P A0 kd (by omega) (by omega)) (List.mem_of_getElem? (i := 24) rfl) xw_2 xw_349 xw_348 xs_B_takeAway (C0 := xn_B) (q0 := 0) rfl rfl (na := 1) rfl (by decide +kernel) ⟨Nat.le_of_ble_eq_true rfl, Nat.le_of_ble_eq_true rfl⟩ hP hD hS hA [1, 2, 3] [0] rfl rfl (by decide) (by decide) (by decide) hK hl.1 (Nat.le_of_ble_eq_true rfl) ⟨Nat.le_of_ble_eq_true rfl, Nat.le_of_ble_eq_true rfl⟩ xj_L_remove_10 (fun _ H locs _ hP hD hS => ?_)
  have hP : va_P D xn_cl [(x0, .inr (5, [.ref b0, .ref r0, .ref c0, .ref d0, .ref s0])), (b0, .inr (0, [.ref b1, .ref b2, .int (nI gc), .int (nI (dc - 1))])), (b1, .inl (cI, 78, .inl (xk_shf ((dc - 1) * 6 - kd * 6) (kd * 6) P))), (b2, .inl (cI, 78, .inl (xk_shf ((dc - 1) * 6 - kd * 6) (kd * 6) A0)))] H := hP
  have hD : va_D A [(x0, .inr (5, [.ref b0, .ref r0, .ref c0, .ref d0, .ref s0])), (b0, .inr (0, [.ref b1, .ref b2, .int (nI gc), .int (nI (dc - 1))])), (b1, .inl (cI, 78, .inl (xk_shf ((dc - 1) * 6 - kd * 6) (kd * 6) P))), (b2, .inl (cI, 78, .inl (xk_shf ((dc - 1) * 6 - kd * 6) (kd * 6) A0)))] := hD
  exact hret ((dc - 1, xk_shf ((dc - 1) * 6 - kd * 6) (kd * 6) P, xk_shf ((dc - 1) * 6 - kd * 6) (kd * 6) A0)) H locs _ _ _ ls (⟨kd, hkd, rfl, rfl⟩) hP hD hS (Nat.le_of_ble_eq_true rfl) (Nat.le_of_ble_eq_true rfl) xj_L_remove_13
set_option maxRecDepth 100000 in
set_option maxHeartbeats 4000000 in
theorem xt_L_cost (l : Launch) (hl0 : l.stackTraces = false) (D : va_G) (cI cZ cJ : ClassId) (sa : Nat → Nat) (x0 b0 r0 c0 d0 s0 : Nat) (b1 b2 gc dc : Nat) (P A0 : Nat → Int32) (s1 t1 : Int32) (hg : gc ≤ 6) (hd : dc ≤ 12) : xc_Xi l xy_L_cost xb_L_cost 3 .int 7 2 12 [.ref x0, .int s1, .int t1] D cI cZ cJ sa [(x0, .inr (5, [.ref b0, .ref r0, .ref c0, .ref d0, .ref s0])), (b0, .inr (0, [.ref b1, .ref b2, .int (nI gc), .int (nI dc)])), (b1, .inl (cI, 78, .inl P)), (b2, .inl (cI, 78, .inl A0))] (Unit) (fun r _ => ∃ k j, k < dc ∧ j < dc ∧ s1 = nI k ∧ t1 = nI j ∧ r = xk_c gc P A0 k j) (fun E _ => E = xn_EX ∧ (xo_in s1 dc && xo_in t1 dc) = false) (fun _ => [(x0, .inr (5, [.ref b0, .ref r0, .ref c0, .ref d0, .ref s0])), (b0, .inr (0, [.ref b1, .ref b2, .int (nI gc), .int (nI dc)])), (b1, .inl (cI, 78, .inl P)), (b2, .inl (cI, 78, .inl A0))]) := by
  refine xc_Xi_of hl0 (by decide) (by decide) rfl (Nat.le_of_ble_eq_true rfl) ?_
  intro p e s m args below meth c Q ls A hAt hP hK hD hA hS hl hT0 hret hthr hpass
  obtain ⟨hx, hb, hml, hown, hts, hgs, hlk⟩ := id hAt
  have hT : ∀ w ∈ xw_g, w ∈ xc_ws xy_L_cost xb_L_cost 3 (some .int) := fun w h => List.mem_cons_of_mem _ h
  have hown : s.vm.findClass "WishLedger" = some m.cls := hown
  obtain ⟨H, hH0⟩ : ∃ H, H = s.heap := ⟨_, rfl⟩
  obtain ⟨locs, hL0⟩ : ∃ locs : List Loc, locs = [] := ⟨_, rfl⟩
  have hP : va_P D xn_cl [(x0, .inr (5, [.ref b0, .ref r0, .ref c0, .ref d0, .ref s0])), (b0, .inr (0, [.ref b1, .ref b2, .int (nI gc), .int (nI dc)])), (b1, .inl (cI, 78, .inl P)), (b2, .inl (cI, 78, .inl A0))] H := by rw [hH0]; exact hP
  have hS : va_S A s.heap H locs := by rw [hH0, hL0]; exact hS
  suffices hgo : W p l e (xc_rm 7 2 12) s m args below meth c H locs 0 0 Q (F0 m 0 ls []) by rw [hH0, hL0] at hgo; exact hgo
  clear hH0 hL0
  have hl : lv_has ls 3 [(0, .ref x0), (1, .int s1), (2, .int t1)] := hl
  refine lv_aload_n hx hb xj_L_cost_0 rfl (lv_at hl 0 rfl) ?_
  refine lv_iload_n hx hb xj_L_cost_1 rfl (lv_at hl 1 rfl) ?_
  refine xc_xVv (av := [.int s1]) (rest := []) (wr := [(b1, .inl (cI, 78, .inl P)), (b2, .inl (cI, 78, .inl A0))]) hAt hT (xt_L_requireDay l hl0 D cI cZ cJ sa x0 b0 r0 c0 d0 s0 b1 b2 gc dc s1) xw_291 xw_1 xw_294 xw_293 xs_L_requireDay (C0 := xn_L) (q0 := 0) rfl rfl (na := 1) rfl (by decide +kernel) ⟨Nat.le_of_ble_eq_true rfl, Nat.le_of_ble_eq_true rfl⟩ hP hD hS hA [0, 1] [2, 3] rfl rfl (by decide) (by decide) (by decide) hK hT0 hl.1 (Nat.le_of_ble_eq_true rfl) ⟨Nat.le_of_ble_eq_true rfl, Nat.le_of_ble_eq_true rfl⟩ xj_L_cost_2 (fun Ex ce q9 u9 H locs hf hP hD hS hq hv hcl => ?_) (fun _ H locs hf2 hP hD hS => ?_)
  · have hP : va_P D xn_cl [(x0, .inr (5, [.ref b0, .ref r0, .ref c0, .ref d0, .ref s0])), (b0, .inr (0, [.ref b1, .ref b2, .int (nI gc), .int (nI dc)])), (b1, .inl (cI, 78, .inl P)), (b2, .inl (cI, 78, .inl A0))] H := va_P.sub hP [2, 3, 0, 1] rfl
    have hD : va_D A [(x0, .inr (5, [.ref b0, .ref r0, .ref c0, .ref d0, .ref s0])), (b0, .inr (0, [.ref b1, .ref b2, .int (nI gc), .int (nI dc)])), (b1, .inl (cI, 78, .inl P)), (b2, .inl (cI, 78, .inl A0))] := va_D.sub hD [2, 3, 0, 1] (by decide) rfl
    exact hpass Ex ce q9 (()) H locs _ _ _ ls _ (⟨hf.1, by rw [hf.2, Bool.false_and]⟩) hP hD hS hq hv hcl (Nat.le_of_ble_eq_true rfl) (Nat.le_of_ble_eq_true rfl)
  have hP : va_P D xn_cl [(x0, .inr (5, [.ref b0, .ref r0, .ref c0, .ref d0, .ref s0])), (b0, .inr (0, [.ref b1, .ref b2, .int (nI gc), .int (nI dc)])), (b1, .inl (cI, 78, .inl P)), (b2, .inl (cI, 78, .inl A0))] H := va_P.sub hP [2, 3, 0, 1] rfl
  have hD : va_D A [(x0, .inr (5, [.ref b0, .ref r0, .ref c0, .ref d0, .ref s0])), (b0, .inr (0, [.ref b1, .ref b2, .int (nI gc), .int (nI dc)])), (b1, .inl (cI, 78, .inl P)), (b2, .inl (cI, 78, .inl A0))] := va_D.sub hD [2, 3, 0, 1] (by decide) rfl
  refine lv_aload_n hx hb xj_L_cost_5 rfl (lv_at hl 0 rfl) ?_
  refine lv_iload_n hx hb xj_L_cost_6 rfl (lv_at hl 2 rfl) ?_
  refine xc_xVv (av := [.int t1]) (rest := []) (wr := [(b1, .inl (cI, 78, .inl P)), (b2, .inl (cI, 78, .inl A0))]) hAt hT (xt_L_requireDay l hl0 D cI cZ cJ sa x0 b0 r0 c0 d0 s0 b1 b2 gc dc t1) xw_291 xw_1 xw_294 xw_293 xs_L_requireDay (C0 := xn_L) (q0 := 0) rfl rfl (na := 1) rfl (by decide +kernel) ⟨Nat.le_of_ble_eq_true rfl, Nat.le_of_ble_eq_true rfl⟩ hP hD hS hA [0, 1] [2, 3] rfl rfl (by decide) (by decide) (by decide) hK hT0 hl.1 (Nat.le_of_ble_eq_true rfl) ⟨Nat.le_of_ble_eq_true rfl, Nat.le_of_ble_eq_true rfl⟩ xj_L_cost_7 (fun Ex ce q9 u9 H locs hf hP hD hS hq hv hcl => ?_) (fun _ H locs hf7 hP hD hS => ?_)
  · have hP : va_P D xn_cl [(x0, .inr (5, [.ref b0, .ref r0, .ref c0, .ref d0, .ref s0])), (b0, .inr (0, [.ref b1, .ref b2, .int (nI gc), .int (nI dc)])), (b1, .inl (cI, 78, .inl P)), (b2, .inl (cI, 78, .inl A0))] H := va_P.sub hP [2, 3, 0, 1] rfl
    have hD : va_D A [(x0, .inr (5, [.ref b0, .ref r0, .ref c0, .ref d0, .ref s0])), (b0, .inr (0, [.ref b1, .ref b2, .int (nI gc), .int (nI dc)])), (b1, .inl (cI, 78, .inl P)), (b2, .inl (cI, 78, .inl A0))] := va_D.sub hD [2, 3, 0, 1] (by decide) rfl
    exact hpass Ex ce q9 (()) H locs _ _ _ ls _ (⟨hf.1, by rw [hf.2, Bool.and_false]⟩) hP hD hS hq hv hcl (Nat.le_of_ble_eq_true rfl) (Nat.le_of_ble_eq_true rfl)
  have hP : va_P D xn_cl [(x0, .inr (5, [.ref b0, .ref r0, .ref c0, .ref d0, .ref s0])), (b0, .inr (0, [.ref b1, .ref b2, .int (nI gc), .int (nI dc)])), (b1, .inl (cI, 78, .inl P)), (b2, .inl (cI, 78, .inl A0))] H := va_P.sub hP [2, 3, 0, 1] rfl
  have hD : va_D A [(x0, .inr (5, [.ref b0, .ref r0, .ref c0, .ref d0, .ref s0])), (b0, .inr (0, [.ref b1, .ref b2, .int (nI gc), .int (nI dc)])), (b1, .inl (cI, 78, .inl P)), (b2, .inl (cI, 78, .inl A0))] := va_D.sub hD [2, 3, 0, 1] (by decide) rfl
  obtain ⟨ks, hks, rfl⟩ := xo_in_k (by omega) (id hf2)
  obtain ⟨kt, hkt, rfl⟩ := xo_in_k (by omega) (id hf7)
  refine lv_aload_n hx hb xj_L_cost_10 rfl (lv_at hl 0 rfl) ?_
  refine va_get (D := D) (ci := 5) (v := .ref b0) (C := xn_L) (T := xn_TL) (N := 5) hx hb hgs xw_uL hown hK.1 hP 0 rfl rfl 0 (by decide) (hgs _ xw_123) (fun _ h9 => h9) rfl xj_L_cost_11 ?_
  refine lv_iload_n hx hb xj_L_cost_14 rfl (lv_at hl 1 rfl) ?_
  refine lv_iload_n hx hb xj_L_cost_15 rfl (lv_at hl 2 rfl) ?_
  refine xc_callVN (av := [.int (nI ks), .int (nI kt)]) (rest := []) hAt hT (xt_B_costOf l D cI cZ cJ b0 b1 b2 gc dc P A0 ks kt (by omega) (by omega) (by omega)) (List.mem_of_getElem? (i := 25) rfl) xw_2 xw_165 xw_164 xs_B_costOf (C0 := xn_B) (q0 := 0) rfl rfl (na := 2) rfl (by decide +kernel) ⟨Nat.le_of_ble_eq_true rfl, Nat.le_of_ble_eq_true rfl⟩ (hP.sub (ws' := [(b0, .inr (0, [.ref b1, .ref b2, .int (nI gc), .int (nI dc)])), (b1, .inl (cI, 78, .inl P)), (b2, .inl (cI, 78, .inl A0))]) [1, 2, 3] rfl) hK hl.1 (Nat.le_of_ble_eq_true rfl) ⟨Nat.le_of_ble_eq_true rfl, Nat.le_of_ble_eq_true rfl⟩ xj_L_cost_16 ?_
  exact hret (xk_c gc P A0 ks kt) (()) H locs _ _ _ ls (⟨ks, kt, hks, hkt, rfl, rfl, rfl⟩) rfl hP hD hS (Nat.le_of_ble_eq_true rfl) (Nat.le_of_ble_eq_true rfl) xj_L_cost_19
set_option maxRecDepth 100000 in
set_option maxHeartbeats 4000000 in
theorem xt_L_shown (l : Launch) (hl0 : l.stackTraces = false) (D : va_G) (cI cZ cJ : ClassId) (sa : Nat → Nat) (x0 b0 r0 c0 d0 s0 : Nat) (b1 b2 gc dc : Nat) (P A0 : Nat → Int32) (s1 t1 : Int32) (hg : gc ≤ 6) (hd : dc ≤ 12) : xc_Xi l xy_L_shown xb_L_shown 5 .int 7 2 12 [.ref x0, .int s1, .int t1] D cI cZ cJ sa [(x0, .inr (5, [.ref b0, .ref r0, .ref c0, .ref d0, .ref s0])), (b0, .inr (0, [.ref b1, .ref b2, .int (nI gc), .int (nI dc)])), (b1, .inl (cI, 78, .inl P)), (b2, .inl (cI, 78, .inl A0))] (Unit) (fun r _ => ∃ k j, k < dc ∧ j < dc ∧ s1 = nI k ∧ t1 = nI j ∧ r = xo_sh (xk_c gc P A0 k j) (xk_c gc P A0 k k)) (fun E _ => E = xn_EX ∧ (xo_in s1 dc && xo_in t1 dc) = false) (fun _ => [(x0, .inr (5, [.ref b0, .ref r0, .ref c0, .ref d0, .ref s0])), (b0, .inr (0, [.ref b1, .ref b2, .int (nI gc), .int (nI dc)])), (b1, .inl (cI, 78, .inl P)), (b2, .inl (cI, 78, .inl A0))]) := by
  refine xc_Xi_of hl0 (by decide) (by decide) rfl (Nat.le_of_ble_eq_true rfl) ?_
  intro p e s m args below meth c Q ls A hAt hP hK hD hA hS hl hT0 hret hthr hpass
  obtain ⟨hx, hb, hml, hown, hts, hgs, hlk⟩ := id hAt
  have hT : ∀ w ∈ xw_g, w ∈ xc_ws xy_L_shown xb_L_shown 5 (some .int) := fun w h => List.mem_cons_of_mem _ h
  have hown : s.vm.findClass "WishLedger" = some m.cls := hown
  obtain ⟨H, hH0⟩ : ∃ H, H = s.heap := ⟨_, rfl⟩
  obtain ⟨locs, hL0⟩ : ∃ locs : List Loc, locs = [] := ⟨_, rfl⟩
  have hP : va_P D xn_cl [(x0, .inr (5, [.ref b0, .ref r0, .ref c0, .ref d0, .ref s0])), (b0, .inr (0, [.ref b1, .ref b2, .int (nI gc), .int (nI dc)])), (b1, .inl (cI, 78, .inl P)), (b2, .inl (cI, 78, .inl A0))] H := by rw [hH0]; exact hP
  have hS : va_S A s.heap H locs := by rw [hH0, hL0]; exact hS
  suffices hgo : W p l e (xc_rm 7 2 12) s m args below meth c H locs 0 0 Q (F0 m 0 ls []) by rw [hH0, hL0] at hgo; exact hgo
  clear hH0 hL0
  have hl : lv_has ls 5 [(0, .ref x0), (1, .int s1), (2, .int t1)] := hl
  refine lv_aload_n hx hb xj_L_shown_0 rfl (lv_at hl 0 rfl) ?_
  refine lv_iload_n hx hb xj_L_shown_1 rfl (lv_at hl 1 rfl) ?_
  refine xc_xVv (av := [.int s1]) (rest := []) (wr := [(b1, .inl (cI, 78, .inl P)), (b2, .inl (cI, 78, .inl A0))]) hAt hT (xt_L_requireDay l hl0 D cI cZ cJ sa x0 b0 r0 c0 d0 s0 b1 b2 gc dc s1) xw_291 xw_1 xw_294 xw_293 xs_L_requireDay (C0 := xn_L) (q0 := 0) rfl rfl (na := 1) rfl (by decide +kernel) ⟨Nat.le_of_ble_eq_true rfl, Nat.le_of_ble_eq_true rfl⟩ hP hD hS hA [0, 1] [2, 3] rfl rfl (by decide) (by decide) (by decide) hK hT0 hl.1 (Nat.le_of_ble_eq_true rfl) ⟨Nat.le_of_ble_eq_true rfl, Nat.le_of_ble_eq_true rfl⟩ xj_L_shown_2 (fun Ex ce q9 u9 H locs hf hP hD hS hq hv hcl => ?_) (fun _ H locs hf2 hP hD hS => ?_)
  · have hP : va_P D xn_cl [(x0, .inr (5, [.ref b0, .ref r0, .ref c0, .ref d0, .ref s0])), (b0, .inr (0, [.ref b1, .ref b2, .int (nI gc), .int (nI dc)])), (b1, .inl (cI, 78, .inl P)), (b2, .inl (cI, 78, .inl A0))] H := va_P.sub hP [2, 3, 0, 1] rfl
    have hD : va_D A [(x0, .inr (5, [.ref b0, .ref r0, .ref c0, .ref d0, .ref s0])), (b0, .inr (0, [.ref b1, .ref b2, .int (nI gc), .int (nI dc)])), (b1, .inl (cI, 78, .inl P)), (b2, .inl (cI, 78, .inl A0))] := va_D.sub hD [2, 3, 0, 1] (by decide) rfl
    exact hpass Ex ce q9 (()) H locs _ _ _ ls _ (⟨hf.1, by rw [hf.2, Bool.false_and]⟩) hP hD hS hq hv hcl (Nat.le_of_ble_eq_true rfl) (Nat.le_of_ble_eq_true rfl)
  have hP : va_P D xn_cl [(x0, .inr (5, [.ref b0, .ref r0, .ref c0, .ref d0, .ref s0])), (b0, .inr (0, [.ref b1, .ref b2, .int (nI gc), .int (nI dc)])), (b1, .inl (cI, 78, .inl P)), (b2, .inl (cI, 78, .inl A0))] H := va_P.sub hP [2, 3, 0, 1] rfl
  have hD : va_D A [(x0, .inr (5, [.ref b0, .ref r0, .ref c0, .ref d0, .ref s0])), (b0, .inr (0, [.ref b1, .ref b2, .int (nI gc), .int (nI dc)])), (b1, .inl (cI, 78, .inl P)), (b2, .inl (cI, 78, .inl A0))] := va_D.sub hD [2, 3, 0, 1] (by decide) rfl
  refine lv_aload_n hx hb xj_L_shown_5 rfl (lv_at hl 0 rfl) ?_
  refine lv_iload_n hx hb xj_L_shown_6 rfl (lv_at hl 2 rfl) ?_
  refine xc_xVv (av := [.int t1]) (rest := []) (wr := [(b1, .inl (cI, 78, .inl P)), (b2, .inl (cI, 78, .inl A0))]) hAt hT (xt_L_requireDay l hl0 D cI cZ cJ sa x0 b0 r0 c0 d0 s0 b1 b2 gc dc t1) xw_291 xw_1 xw_294 xw_293 xs_L_requireDay (C0 := xn_L) (q0 := 0) rfl rfl (na := 1) rfl (by decide +kernel) ⟨Nat.le_of_ble_eq_true rfl, Nat.le_of_ble_eq_true rfl⟩ hP hD hS hA [0, 1] [2, 3] rfl rfl (by decide) (by decide) (by decide) hK hT0 hl.1 (Nat.le_of_ble_eq_true rfl) ⟨Nat.le_of_ble_eq_true rfl, Nat.le_of_ble_eq_true rfl⟩ xj_L_shown_7 (fun Ex ce q9 u9 H locs hf hP hD hS hq hv hcl => ?_) (fun _ H locs hf7 hP hD hS => ?_)
  · have hP : va_P D xn_cl [(x0, .inr (5, [.ref b0, .ref r0, .ref c0, .ref d0, .ref s0])), (b0, .inr (0, [.ref b1, .ref b2, .int (nI gc), .int (nI dc)])), (b1, .inl (cI, 78, .inl P)), (b2, .inl (cI, 78, .inl A0))] H := va_P.sub hP [2, 3, 0, 1] rfl
    have hD : va_D A [(x0, .inr (5, [.ref b0, .ref r0, .ref c0, .ref d0, .ref s0])), (b0, .inr (0, [.ref b1, .ref b2, .int (nI gc), .int (nI dc)])), (b1, .inl (cI, 78, .inl P)), (b2, .inl (cI, 78, .inl A0))] := va_D.sub hD [2, 3, 0, 1] (by decide) rfl
    exact hpass Ex ce q9 (()) H locs _ _ _ ls _ (⟨hf.1, by rw [hf.2, Bool.and_false]⟩) hP hD hS hq hv hcl (Nat.le_of_ble_eq_true rfl) (Nat.le_of_ble_eq_true rfl)
  have hP : va_P D xn_cl [(x0, .inr (5, [.ref b0, .ref r0, .ref c0, .ref d0, .ref s0])), (b0, .inr (0, [.ref b1, .ref b2, .int (nI gc), .int (nI dc)])), (b1, .inl (cI, 78, .inl P)), (b2, .inl (cI, 78, .inl A0))] H := va_P.sub hP [2, 3, 0, 1] rfl
  have hD : va_D A [(x0, .inr (5, [.ref b0, .ref r0, .ref c0, .ref d0, .ref s0])), (b0, .inr (0, [.ref b1, .ref b2, .int (nI gc), .int (nI dc)])), (b1, .inl (cI, 78, .inl P)), (b2, .inl (cI, 78, .inl A0))] := va_D.sub hD [2, 3, 0, 1] (by decide) rfl
  obtain ⟨ks, hks, rfl⟩ := xo_in_k (by omega) (id hf2)
  obtain ⟨kt, hkt, rfl⟩ := xo_in_k (by omega) (id hf7)
  refine lv_aload_n hx hb xj_L_shown_10 rfl (lv_at hl 0 rfl) ?_
  refine va_get (D := D) (ci := 5) (v := .ref b0) (C := xn_L) (T := xn_TL) (N := 5) hx hb hgs xw_uL hown hK.1 hP 0 rfl rfl 0 (by decide) (hgs _ xw_123) (fun _ h9 => h9) rfl xj_L_shown_11 ?_
  refine lv_iload_n hx hb xj_L_shown_14 rfl (lv_at hl 1 rfl) ?_
  refine lv_iload_n hx hb xj_L_shown_15 rfl (lv_at hl 1 rfl) ?_
  refine xc_callVN (av := [.int (nI ks), .int (nI ks)]) (rest := []) hAt hT (xt_B_costOf l D cI cZ cJ b0 b1 b2 gc dc P A0 ks ks (by omega) (by omega) (by omega)) (List.mem_of_getElem? (i := 25) rfl) xw_2 xw_165 xw_164 xs_B_costOf (C0 := xn_B) (q0 := 0) rfl rfl (na := 2) rfl (by decide +kernel) ⟨Nat.le_of_ble_eq_true rfl, Nat.le_of_ble_eq_true rfl⟩ (hP.sub (ws' := [(b0, .inr (0, [.ref b1, .ref b2, .int (nI gc), .int (nI dc)])), (b1, .inl (cI, 78, .inl P)), (b2, .inl (cI, 78, .inl A0))]) [1, 2, 3] rfl) hK hl.1 (Nat.le_of_ble_eq_true rfl) ⟨Nat.le_of_ble_eq_true rfl, Nat.le_of_ble_eq_true rfl⟩ xj_L_shown_16 ?_
  refine lv_istore_n (lv' := [(3, .int (xk_c gc P A0 ks ks)), (0, .ref x0), (1, .int (nI ks)), (2, .int (nI kt))]) hx hb xj_L_shown_19 rfl hl (by decide) rfl (fun ls hl => ?_)
  refine lv_aload_n hx hb xj_L_shown_20 rfl (lv_at hl 1 rfl) ?_
  refine va_get (D := D) (ci := 5) (v := .ref b0) (C := xn_L) (T := xn_TL) (N := 5) hx hb hgs xw_uL hown hK.1 hP 0 rfl rfl 0 (by decide) (hgs _ xw_123) (fun _ h9 => h9) rfl xj_L_shown_21 ?_
  refine lv_iload_n hx hb xj_L_shown_24 rfl (lv_at hl 2 rfl) ?_
  refine lv_iload_n hx hb xj_L_shown_25 rfl (lv_at hl 3 rfl) ?_
  refine xc_callVN (av := [.int (nI ks), .int (nI kt)]) (rest := []) hAt hT (xt_B_costOf l D cI cZ cJ b0 b1 b2 gc dc P A0 ks kt (by omega) (by omega) (by omega)) (List.mem_of_getElem? (i := 25) rfl) xw_2 xw_165 xw_164 xs_B_costOf (C0 := xn_B) (q0 := 0) rfl rfl (na := 2) rfl (by decide +kernel) ⟨Nat.le_of_ble_eq_true rfl, Nat.le_of_ble_eq_true rfl⟩ (hP.sub (ws' := [(b0, .inr (0, [.ref b1, .ref b2, .int (nI gc), .int (nI dc)])), (b1, .inl (cI, 78, .inl P)), (b2, .inl (cI, 78, .inl A0))]) [1, 2, 3] rfl) hK hl.1 (Nat.le_of_ble_eq_true rfl) ⟨Nat.le_of_ble_eq_true rfl, Nat.le_of_ble_eq_true rfl⟩ xj_L_shown_26 ?_
  refine lv_istore (lv' := [(4, .int (xk_c gc P A0 ks kt)), (3, .int (xk_c gc P A0 ks ks)), (0, .ref x0), (1, .int (nI ks)), (2, .int (nI kt))]) hx hb xj_L_shown_29 hl (by decide) rfl (fun ls hl => ?_)
  refine lv_iload hx hb xj_L_shown_31 (lv_at hl 0 rfl) ?_
  refine lv_iload_n hx hb xj_L_shown_33 rfl (lv_at hl 1 rfl) ?_
  refine lv_icmp_ge (tgt := 39) hx hb xj_L_shown_34 rfl (fun h34 => ?_) (fun h34 => ?_)
  · -- 39
    refine lv_iload hx hb xj_L_shown_39 (lv_at hl 0 rfl) ?_
    refine lv_iload_n hx hb xj_L_shown_41 rfl (lv_at hl 1 rfl) ?_
    refine lv_icmp_ne (tgt := 49) hx hb xj_L_shown_42 rfl (fun h42 => ?_) (fun h42 => ?_)
    · -- 49
      refine lv_iconst (v := nI 0) hx hb xj_L_shown_49 (by decide) ?_
      exact hret (nI 0) (()) H locs _ _ _ ls (⟨ks, kt, hks, hkt, rfl, rfl, ((if_pos h34).trans (if_neg h42)).symm⟩) rfl hP hD hS (Nat.le_of_ble_eq_true rfl) (Nat.le_of_ble_eq_true rfl) xj_L_shown_50
    · -- 45
      refine lv_iconst (v := nI 1) hx hb xj_L_shown_45 (by decide) ?_
      refine lv_goto (tgt := 50) hx hb xj_L_shown_46 rfl ?_
      exact hret (nI 1) (()) H locs _ _ _ ls (⟨ks, kt, hks, hkt, rfl, rfl, ((if_pos h34).trans (if_pos h42)).symm⟩) rfl hP hD hS (Nat.le_of_ble_eq_true rfl) (Nat.le_of_ble_eq_true rfl) xj_L_shown_50
  · -- 37
    refine lv_iconst (v := nI 2) hx hb xj_L_shown_37 (by decide) ?_
    exact hret (nI 2) (()) H locs _ _ _ ls (⟨ks, kt, hks, hkt, rfl, rfl, (if_neg h34).symm⟩) rfl hP hD hS (Nat.le_of_ble_eq_true rfl) (Nat.le_of_ble_eq_true rfl) xj_L_shown_38
set_option maxRecDepth 100000 in
set_option maxHeartbeats 4000000 in
theorem xt_L_readRecord (l : Launch) (D : va_G) (cI cZ cJ : ClassId) (x0 b0 r0 c0 d0 s0 : Nat) (b1 b2 gc dc : Nat) (P A0 : Nat → Int32) (r1 r2 r3 : Nat) (G Bt C : Nat → Int32) (hg : gc ≤ 6) : xc_Wv l xy_L_readRecord xb_L_readRecord 1 4 0 0 [.ref x0] D cI cZ cJ [(x0, .inr (5, [.ref b0, .ref r0, .ref c0, .ref d0, .ref s0])), (b0, .inr (0, [.ref b1, .ref b2, .int (nI gc), .int (nI dc)])), (b1, .inl (cI, 78, .inl P)), (b2, .inl (cI, 78, .inl A0)), (r0, .inr (3, [.ref r1, .ref r2, .ref r3])), (r1, .inl (cI, 13, .inl G)), (r2, .inl (cI, 13, .inl Bt)), (r3, .inl (cI, 13, .inl C))] (Unit) (fun _ => True) (fun _ => [(x0, .inr (5, [.ref b0, .ref r0, .ref c0, .ref d0, .ref s0])), (b0, .inr (0, [.ref b1, .ref b2, .int (nI gc), .int (nI dc)])), (b1, .inl (cI, 78, .inl P)), (b2, .inl (cI, 78, .inl A0)), (r0, .inr (3, [.ref r1, .ref r2, .ref r3])), (r1, .inl (cI, 13, .inl (xo_G gc P A0 (xo_X dc) (nI 1) (nI 1) G))), (r2, .inl (cI, 13, .inl (xo_B gc P A0 (xo_X dc) (nI 1) (nI 1) Bt))), (r3, .inl (cI, 13, .inl C))]) := by
  refine xc_Wv_of (by decide) (Nat.le_of_ble_eq_true rfl) ?_
  intro p e s m args below meth c Q ls A hAt hin hP hK hD hA hS hl hret
  obtain ⟨hx, hb, hml, hown, hts, hgs, hlk⟩ := id hAt
  have hT : ∀ w ∈ xw_g, w ∈ xc_ws xy_L_readRecord xb_L_readRecord 1 (none) := fun w h => List.mem_cons_of_mem _ h
  have hown : s.vm.findClass "WishLedger" = some m.cls := hown
  obtain ⟨H, hH0⟩ : ∃ H, H = s.heap := ⟨_, rfl⟩
  obtain ⟨locs, hL0⟩ : ∃ locs : List Loc, locs = [] := ⟨_, rfl⟩
  have hP : va_P D xn_cl [(x0, .inr (5, [.ref b0, .ref r0, .ref c0, .ref d0, .ref s0])), (b0, .inr (0, [.ref b1, .ref b2, .int (nI gc), .int (nI dc)])), (b1, .inl (cI, 78, .inl P)), (b2, .inl (cI, 78, .inl A0)), (r0, .inr (3, [.ref r1, .ref r2, .ref r3])), (r1, .inl (cI, 13, .inl G)), (r2, .inl (cI, 13, .inl Bt)), (r3, .inl (cI, 13, .inl C))] H := by rw [hH0]; exact hP
  have hS : va_S A s.heap H locs := by rw [hH0, hL0]; exact hS
  suffices hgo : W p l e (xc_rm 4 0 0) s m args below meth c H locs 0 0 Q (F0 m 0 ls []) by rw [hH0, hL0] at hgo; exact hgo
  clear hH0 hL0
  have hl : lv_has ls 1 [(0, .ref x0)] := hl
  refine lv_aload_n hx hb xj_L_readRecord_0 rfl (lv_at hl 0 rfl) ?_
  refine va_get (D := D) (ci := 5) (v := .ref r0) (C := xn_L) (T := xn_TL) (N := 5) hx hb hgs xw_uL hown hK.1 hP 0 rfl rfl 1 (by decide) (hgs _ xw_124) (fun _ h9 => h9) rfl xj_L_readRecord_1 ?_
  refine lv_aload_n hx hb xj_L_readRecord_4 rfl (lv_at hl 0 rfl) ?_
  refine va_get (D := D) (ci := 5) (v := .ref b0) (C := xn_L) (T := xn_TL) (N := 5) hx hb hgs xw_uL hown hK.1 hP 0 rfl rfl 0 (by decide) (hgs _ xw_123) (fun _ h9 => h9) rfl xj_L_readRecord_5 ?_
  refine lv_aload_n hx hb xj_L_readRecord_8 rfl (lv_at hl 0 rfl) ?_
  refine va_get (D := D) (ci := 5) (v := .ref b0) (C := xn_L) (T := xn_TL) (N := 5) hx hb hgs xw_uL hown hK.1 hP 0 rfl rfl 0 (by decide) (hgs _ xw_123) (fun _ h9 => h9) rfl xj_L_readRecord_9 ?_
  refine xc_callVN (av := []) (rest := [.ref b0, .ref r0]) hAt hT (xt_B_everyDay l D cI cZ cJ b0 b1 b2 gc dc P A0) (List.mem_of_getElem? (i := 14) rfl) xw_2 xw_146 xw_145 xs_B_everyDay (C0 := xn_B) (q0 := 0) rfl rfl (na := 0) rfl (by decide +kernel) ⟨Nat.le_of_ble_eq_true rfl, Nat.le_of_ble_eq_true rfl⟩ (hP.sub (ws' := [(b0, .inr (0, [.ref b1, .ref b2, .int (nI gc), .int (nI dc)])), (b1, .inl (cI, 78, .inl P)), (b2, .inl (cI, 78, .inl A0))]) [1, 2, 3] rfl) hK hl.1 (Nat.le_of_ble_eq_true rfl) ⟨Nat.zero_le _, Nat.zero_le _⟩ xj_L_readRecord_12 ?_
  refine lv_iconst (v := nI 1) hx hb xj_L_readRecord_15 (by decide) ?_
  refine lv_iconst (v := nI 1) hx hb xj_L_readRecord_16 (by decide) ?_
  refine xc_wVNv (av := [.ref b0, .int (xf_bi (nI dc) - nI 1), .int (nI 1), .int (nI 1)]) (rest := []) (wr := [(x0, .inr (5, [.ref b0, .ref r0, .ref c0, .ref d0, .ref s0]))]) hAt hT (xt_R_read l D cI cZ cJ r0 r1 r2 r3 G Bt C b0 b1 b2 gc dc P A0 (xf_bi (nI dc) - nI 1) (nI 1) (nI 1) (by omega)) (List.mem_of_getElem? (i := 16) rfl) xw_3 xw_154 xw_153 xs_R_read (C0 := xn_R) (q0 := 0) rfl rfl (na := 4) rfl (by decide +kernel) ⟨Nat.le_of_ble_eq_true rfl, Nat.le_of_ble_eq_true rfl⟩ hP hD hS hA [4, 5, 6, 7, 1, 2, 3] [0] rfl rfl (by decide) (by decide) (by decide) hK hl.1 (Nat.le_of_ble_eq_true rfl) ⟨Nat.zero_le _, Nat.zero_le _⟩ xj_L_readRecord_17 (fun _ H locs _ hP hD hS => ?_)
  have hP : va_P D xn_cl [(x0, .inr (5, [.ref b0, .ref r0, .ref c0, .ref d0, .ref s0])), (b0, .inr (0, [.ref b1, .ref b2, .int (nI gc), .int (nI dc)])), (b1, .inl (cI, 78, .inl P)), (b2, .inl (cI, 78, .inl A0)), (r0, .inr (3, [.ref r1, .ref r2, .ref r3])), (r1, .inl (cI, 13, .inl (xf_fill (xk_rowG (xk_c gc P A0) (xf_bi (nI dc) - nI 1) (nI 1).toInt64 (nI 1).toInt64) 13 0 G))), (r2, .inl (cI, 13, .inl (xf_fill (xk_rowB (xk_c gc P A0) (xf_bi (nI dc) - nI 1) (nI 1).toInt64 (nI 1).toInt64) 13 0 Bt))), (r3, .inl (cI, 13, .inl C))] H := va_P.sub hP [0, 5, 6, 7, 1, 2, 3, 4] rfl
  have hD : va_D A [(x0, .inr (5, [.ref b0, .ref r0, .ref c0, .ref d0, .ref s0])), (b0, .inr (0, [.ref b1, .ref b2, .int (nI gc), .int (nI dc)])), (b1, .inl (cI, 78, .inl P)), (b2, .inl (cI, 78, .inl A0)), (r0, .inr (3, [.ref r1, .ref r2, .ref r3])), (r1, .inl (cI, 13, .inl (xf_fill (xk_rowG (xk_c gc P A0) (xf_bi (nI dc) - nI 1) (nI 1).toInt64 (nI 1).toInt64) 13 0 G))), (r2, .inl (cI, 13, .inl (xf_fill (xk_rowB (xk_c gc P A0) (xf_bi (nI dc) - nI 1) (nI 1).toInt64 (nI 1).toInt64) 13 0 Bt))), (r3, .inl (cI, 13, .inl C))] := va_D.sub hD [0, 5, 6, 7, 1, 2, 3, 4] (by decide) rfl
  exact hret (()) H locs _ ls trivial hP hD hS xj_L_readRecord_20
set_option maxRecDepth 100000 in
set_option maxHeartbeats 4000000 in
theorem xt_L_chain (l : Launch) (hl0 : l.stackTraces = false) (D : va_G) (cI cZ cJ : ClassId) (sa : Nat → Nat) (x0 b0 r0 c0 d0 s0 : Nat) (b1 b2 gc dc : Nat) (P A0 : Nat → Int32) (r1 r2 r3 : Nat) (G Bt C : Nat → Int32) (s1 t1 : Int32) (hg : gc ≤ 6) (hd : dc ≤ 12) : xc_Xi l xy_L_chain xb_L_chain 3 .int 7 2 12 [.ref x0, .int s1, .int t1] D cI cZ cJ sa [(x0, .inr (5, [.ref b0, .ref r0, .ref c0, .ref d0, .ref s0])), (b0, .inr (0, [.ref b1, .ref b2, .int (nI gc), .int (nI dc)])), (b1, .inl (cI, 78, .inl P)), (b2, .inl (cI, 78, .inl A0)), (r0, .inr (3, [.ref r1, .ref r2, .ref r3])), (r1, .inl (cI, 13, .inl G)), (r2, .inl (cI, 13, .inl Bt)), (r3, .inl (cI, 13, .inl C))] ((Nat → Int32) × (Nat → Int32)) (fun r _ => ∃ k j, k < dc ∧ j < dc ∧ s1 = nI k ∧ t1 = nI j ∧ r = xk_stp (xo_G gc P A0 (xo_X dc) (nI 1) (nI 1) G) j 13 1 (xo_G gc P A0 (xo_X dc) (nI 1) (nI 1) G k)) (fun E _ => E = xn_EX ∧ (xo_in s1 dc && xo_in t1 dc) = false) (fun u => [(x0, .inr (5, [.ref b0, .ref r0, .ref c0, .ref d0, .ref s0])), (b0, .inr (0, [.ref b1, .ref b2, .int (nI gc), .int (nI dc)])), (b1, .inl (cI, 78, .inl P)), (b2, .inl (cI, 78, .inl A0)), (r0, .inr (3, [.ref r1, .ref r2, .ref r3])), (r1, .inl (cI, 13, .inl u.1)), (r2, .inl (cI, 13, .inl u.2)), (r3, .inl (cI, 13, .inl C))]) := by
  refine xc_Xi_of hl0 (by decide) (by decide) rfl (Nat.le_of_ble_eq_true rfl) ?_
  intro p e s m args below meth c Q ls A hAt hP hK hD hA hS hl hT0 hret hthr hpass
  obtain ⟨hx, hb, hml, hown, hts, hgs, hlk⟩ := id hAt
  have hT : ∀ w ∈ xw_g, w ∈ xc_ws xy_L_chain xb_L_chain 3 (some .int) := fun w h => List.mem_cons_of_mem _ h
  have hown : s.vm.findClass "WishLedger" = some m.cls := hown
  obtain ⟨H, hH0⟩ : ∃ H, H = s.heap := ⟨_, rfl⟩
  obtain ⟨locs, hL0⟩ : ∃ locs : List Loc, locs = [] := ⟨_, rfl⟩
  have hP : va_P D xn_cl [(x0, .inr (5, [.ref b0, .ref r0, .ref c0, .ref d0, .ref s0])), (b0, .inr (0, [.ref b1, .ref b2, .int (nI gc), .int (nI dc)])), (b1, .inl (cI, 78, .inl P)), (b2, .inl (cI, 78, .inl A0)), (r0, .inr (3, [.ref r1, .ref r2, .ref r3])), (r1, .inl (cI, 13, .inl G)), (r2, .inl (cI, 13, .inl Bt)), (r3, .inl (cI, 13, .inl C))] H := by rw [hH0]; exact hP
  have hS : va_S A s.heap H locs := by rw [hH0, hL0]; exact hS
  suffices hgo : W p l e (xc_rm 7 2 12) s m args below meth c H locs 0 0 Q (F0 m 0 ls []) by rw [hH0, hL0] at hgo; exact hgo
  clear hH0 hL0
  have hl : lv_has ls 3 [(0, .ref x0), (1, .int s1), (2, .int t1)] := hl
  refine lv_aload_n hx hb xj_L_chain_0 rfl (lv_at hl 0 rfl) ?_
  refine lv_iload_n hx hb xj_L_chain_1 rfl (lv_at hl 1 rfl) ?_
  refine xc_xVv (av := [.int s1]) (rest := []) (wr := [(b1, .inl (cI, 78, .inl P)), (b2, .inl (cI, 78, .inl A0)), (r0, .inr (3, [.ref r1, .ref r2, .ref r3])), (r1, .inl (cI, 13, .inl G)), (r2, .inl (cI, 13, .inl Bt)), (r3, .inl (cI, 13, .inl C))]) hAt hT (xt_L_requireDay l hl0 D cI cZ cJ sa x0 b0 r0 c0 d0 s0 b1 b2 gc dc s1) xw_291 xw_1 xw_294 xw_293 xs_L_requireDay (C0 := xn_L) (q0 := 0) rfl rfl (na := 1) rfl (by decide +kernel) ⟨Nat.le_of_ble_eq_true rfl, Nat.le_of_ble_eq_true rfl⟩ hP hD hS hA [0, 1] [2, 3, 4, 5, 6, 7] rfl rfl (by decide) (by decide) (by decide) hK hT0 hl.1 (Nat.le_of_ble_eq_true rfl) ⟨Nat.le_of_ble_eq_true rfl, Nat.le_of_ble_eq_true rfl⟩ xj_L_chain_2 (fun Ex ce q9 u9 H locs hf hP hD hS hq hv hcl => ?_) (fun _ H locs hf2 hP hD hS => ?_)
  · have hP : va_P D xn_cl [(x0, .inr (5, [.ref b0, .ref r0, .ref c0, .ref d0, .ref s0])), (b0, .inr (0, [.ref b1, .ref b2, .int (nI gc), .int (nI dc)])), (b1, .inl (cI, 78, .inl P)), (b2, .inl (cI, 78, .inl A0)), (r0, .inr (3, [.ref r1, .ref r2, .ref r3])), (r1, .inl (cI, 13, .inl G)), (r2, .inl (cI, 13, .inl Bt)), (r3, .inl (cI, 13, .inl C))] H := va_P.sub hP [6, 7, 0, 1, 2, 3, 4, 5] rfl
    have hD : va_D A [(x0, .inr (5, [.ref b0, .ref r0, .ref c0, .ref d0, .ref s0])), (b0, .inr (0, [.ref b1, .ref b2, .int (nI gc), .int (nI dc)])), (b1, .inl (cI, 78, .inl P)), (b2, .inl (cI, 78, .inl A0)), (r0, .inr (3, [.ref r1, .ref r2, .ref r3])), (r1, .inl (cI, 13, .inl G)), (r2, .inl (cI, 13, .inl Bt)), (r3, .inl (cI, 13, .inl C))] := va_D.sub hD [6, 7, 0, 1, 2, 3, 4, 5] (by decide) rfl
    exact hpass Ex ce q9 ((G, Bt)) H locs _ _ _ ls _ (⟨hf.1, by rw [hf.2, Bool.false_and]⟩) hP hD hS hq hv hcl (Nat.le_of_ble_eq_true rfl) (Nat.le_of_ble_eq_true rfl)
  have hP : va_P D xn_cl [(x0, .inr (5, [.ref b0, .ref r0, .ref c0, .ref d0, .ref s0])), (b0, .inr (0, [.ref b1, .ref b2, .int (nI gc), .int (nI dc)])), (b1, .inl (cI, 78, .inl P)), (b2, .inl (cI, 78, .inl A0)), (r0, .inr (3, [.ref r1, .ref r2, .ref r3])), (r1, .inl (cI, 13, .inl G)), (r2, .inl (cI, 13, .inl Bt)), (r3, .inl (cI, 13, .inl C))] H := va_P.sub hP [6, 7, 0, 1, 2, 3, 4, 5] rfl
  have hD : va_D A [(x0, .inr (5, [.ref b0, .ref r0, .ref c0, .ref d0, .ref s0])), (b0, .inr (0, [.ref b1, .ref b2, .int (nI gc), .int (nI dc)])), (b1, .inl (cI, 78, .inl P)), (b2, .inl (cI, 78, .inl A0)), (r0, .inr (3, [.ref r1, .ref r2, .ref r3])), (r1, .inl (cI, 13, .inl G)), (r2, .inl (cI, 13, .inl Bt)), (r3, .inl (cI, 13, .inl C))] := va_D.sub hD [6, 7, 0, 1, 2, 3, 4, 5] (by decide) rfl
  refine lv_aload_n hx hb xj_L_chain_5 rfl (lv_at hl 0 rfl) ?_
  refine lv_iload_n hx hb xj_L_chain_6 rfl (lv_at hl 2 rfl) ?_
  refine xc_xVv (av := [.int t1]) (rest := []) (wr := [(b1, .inl (cI, 78, .inl P)), (b2, .inl (cI, 78, .inl A0)), (r0, .inr (3, [.ref r1, .ref r2, .ref r3])), (r1, .inl (cI, 13, .inl G)), (r2, .inl (cI, 13, .inl Bt)), (r3, .inl (cI, 13, .inl C))]) hAt hT (xt_L_requireDay l hl0 D cI cZ cJ sa x0 b0 r0 c0 d0 s0 b1 b2 gc dc t1) xw_291 xw_1 xw_294 xw_293 xs_L_requireDay (C0 := xn_L) (q0 := 0) rfl rfl (na := 1) rfl (by decide +kernel) ⟨Nat.le_of_ble_eq_true rfl, Nat.le_of_ble_eq_true rfl⟩ hP hD hS hA [0, 1] [2, 3, 4, 5, 6, 7] rfl rfl (by decide) (by decide) (by decide) hK hT0 hl.1 (Nat.le_of_ble_eq_true rfl) ⟨Nat.le_of_ble_eq_true rfl, Nat.le_of_ble_eq_true rfl⟩ xj_L_chain_7 (fun Ex ce q9 u9 H locs hf hP hD hS hq hv hcl => ?_) (fun _ H locs hf7 hP hD hS => ?_)
  · have hP : va_P D xn_cl [(x0, .inr (5, [.ref b0, .ref r0, .ref c0, .ref d0, .ref s0])), (b0, .inr (0, [.ref b1, .ref b2, .int (nI gc), .int (nI dc)])), (b1, .inl (cI, 78, .inl P)), (b2, .inl (cI, 78, .inl A0)), (r0, .inr (3, [.ref r1, .ref r2, .ref r3])), (r1, .inl (cI, 13, .inl G)), (r2, .inl (cI, 13, .inl Bt)), (r3, .inl (cI, 13, .inl C))] H := va_P.sub hP [6, 7, 0, 1, 2, 3, 4, 5] rfl
    have hD : va_D A [(x0, .inr (5, [.ref b0, .ref r0, .ref c0, .ref d0, .ref s0])), (b0, .inr (0, [.ref b1, .ref b2, .int (nI gc), .int (nI dc)])), (b1, .inl (cI, 78, .inl P)), (b2, .inl (cI, 78, .inl A0)), (r0, .inr (3, [.ref r1, .ref r2, .ref r3])), (r1, .inl (cI, 13, .inl G)), (r2, .inl (cI, 13, .inl Bt)), (r3, .inl (cI, 13, .inl C))] := va_D.sub hD [6, 7, 0, 1, 2, 3, 4, 5] (by decide) rfl
    exact hpass Ex ce q9 ((G, Bt)) H locs _ _ _ ls _ (⟨hf.1, by rw [hf.2, Bool.and_false]⟩) hP hD hS hq hv hcl (Nat.le_of_ble_eq_true rfl) (Nat.le_of_ble_eq_true rfl)
  have hP : va_P D xn_cl [(x0, .inr (5, [.ref b0, .ref r0, .ref c0, .ref d0, .ref s0])), (b0, .inr (0, [.ref b1, .ref b2, .int (nI gc), .int (nI dc)])), (b1, .inl (cI, 78, .inl P)), (b2, .inl (cI, 78, .inl A0)), (r0, .inr (3, [.ref r1, .ref r2, .ref r3])), (r1, .inl (cI, 13, .inl G)), (r2, .inl (cI, 13, .inl Bt)), (r3, .inl (cI, 13, .inl C))] H := va_P.sub hP [6, 7, 0, 1, 2, 3, 4, 5] rfl
  have hD : va_D A [(x0, .inr (5, [.ref b0, .ref r0, .ref c0, .ref d0, .ref s0])), (b0, .inr (0, [.ref b1, .ref b2, .int (nI gc), .int (nI dc)])), (b1, .inl (cI, 78, .inl P)), (b2, .inl (cI, 78, .inl A0)), (r0, .inr (3, [.ref r1, .ref r2, .ref r3])), (r1, .inl (cI, 13, .inl G)), (r2, .inl (cI, 13, .inl Bt)), (r3, .inl (cI, 13, .inl C))] := va_D.sub hD [6, 7, 0, 1, 2, 3, 4, 5] (by decide) rfl
  obtain ⟨ks, hks, rfl⟩ := xo_in_k (by omega) (id hf2)
  obtain ⟨kt, hkt, rfl⟩ := xo_in_k (by omega) (id hf7)
  refine lv_aload_n hx hb xj_L_chain_10 rfl (lv_at hl 0 rfl) ?_
  refine xc_wVv (av := []) (rest := []) (wr := []) hAt hT (xt_L_readRecord l D cI cZ cJ x0 b0 r0 c0 d0 s0 b1 b2 gc dc P A0 r1 r2 r3 G Bt C (by omega)) xw_372 xw_1 xw_375 xw_374 xs_L_readRecord (C0 := xn_L) (q0 := 0) rfl rfl (na := 0) rfl (by decide +kernel) ⟨Nat.le_of_ble_eq_true rfl, Nat.le_of_ble_eq_true rfl⟩ hP hD hS hA [0, 1, 2, 3, 4, 5, 6, 7] [] rfl rfl (by decide) (by decide) (by decide) hK hl.1 (Nat.le_of_ble_eq_true rfl) ⟨Nat.le_of_ble_eq_true rfl, Nat.le_of_ble_eq_true rfl⟩ xj_L_chain_11 (fun _ H locs _ hP hD hS => ?_)
  have hP : va_P D xn_cl [(x0, .inr (5, [.ref b0, .ref r0, .ref c0, .ref d0, .ref s0])), (b0, .inr (0, [.ref b1, .ref b2, .int (nI gc), .int (nI dc)])), (b1, .inl (cI, 78, .inl P)), (b2, .inl (cI, 78, .inl A0)), (r0, .inr (3, [.ref r1, .ref r2, .ref r3])), (r1, .inl (cI, 13, .inl (xo_G gc P A0 (xo_X dc) (nI 1) (nI 1) G))), (r2, .inl (cI, 13, .inl (xo_B gc P A0 (xo_X dc) (nI 1) (nI 1) Bt))), (r3, .inl (cI, 13, .inl C))] H := hP
  have hD : va_D A [(x0, .inr (5, [.ref b0, .ref r0, .ref c0, .ref d0, .ref s0])), (b0, .inr (0, [.ref b1, .ref b2, .int (nI gc), .int (nI dc)])), (b1, .inl (cI, 78, .inl P)), (b2, .inl (cI, 78, .inl A0)), (r0, .inr (3, [.ref r1, .ref r2, .ref r3])), (r1, .inl (cI, 13, .inl (xo_G gc P A0 (xo_X dc) (nI 1) (nI 1) G))), (r2, .inl (cI, 13, .inl (xo_B gc P A0 (xo_X dc) (nI 1) (nI 1) Bt))), (r3, .inl (cI, 13, .inl C))] := hD
  refine lv_aload_n hx hb xj_L_chain_14 rfl (lv_at hl 0 rfl) ?_
  refine va_get (D := D) (ci := 5) (v := .ref r0) (C := xn_L) (T := xn_TL) (N := 5) hx hb hgs xw_uL hown hK.1 hP 0 rfl rfl 1 (by decide) (hgs _ xw_124) (fun _ h9 => h9) rfl xj_L_chain_15 ?_
  refine lv_iload_n hx hb xj_L_chain_18 rfl (lv_at hl 1 rfl) ?_
  refine lv_iload_n hx hb xj_L_chain_19 rfl (lv_at hl 2 rfl) ?_
  refine xc_callVN (av := [.int (nI ks), .int (nI kt)]) (rest := []) hAt hT (xt_R_steps l D cI cZ cJ r0 r1 r2 r3 (xo_G gc P A0 (xo_X dc) (nI 1) (nI 1) G) (xo_B gc P A0 (xo_X dc) (nI 1) (nI 1) Bt) C ks kt (by omega)) (List.mem_of_getElem? (i := 26) rfl) xw_3 xw_379 xw_378 xs_R_steps (C0 := xn_R) (q0 := 0) rfl rfl (na := 2) rfl (by decide +kernel) ⟨Nat.le_of_ble_eq_true rfl, Nat.le_of_ble_eq_true rfl⟩ (hP.sub (ws' := [(r0, .inr (3, [.ref r1, .ref r2, .ref r3])), (r1, .inl (cI, 13, .inl (xo_G gc P A0 (xo_X dc) (nI 1) (nI 1) G))), (r2, .inl (cI, 13, .inl (xo_B gc P A0 (xo_X dc) (nI 1) (nI 1) Bt))), (r3, .inl (cI, 13, .inl C))]) [4, 5, 6, 7] rfl) hK hl.1 (Nat.le_of_ble_eq_true rfl) ⟨Nat.le_of_ble_eq_true rfl, Nat.le_of_ble_eq_true rfl⟩ xj_L_chain_20 ?_
  exact hret (xk_stp (xo_G gc P A0 (xo_X dc) (nI 1) (nI 1) G) kt 13 1 ((xo_G gc P A0 (xo_X dc) (nI 1) (nI 1) G) ks)) ((xo_G gc P A0 (xo_X dc) (nI 1) (nI 1) G, xo_B gc P A0 (xo_X dc) (nI 1) (nI 1) Bt)) H locs _ _ _ ls (⟨ks, kt, hks, hkt, rfl, rfl, rfl⟩) rfl hP hD hS (Nat.le_of_ble_eq_true rfl) (Nat.le_of_ble_eq_true rfl) xj_L_chain_23
set_option maxRecDepth 100000 in
set_option maxHeartbeats 4000000 in
theorem xt_L_sensible (l : Launch) (hl0 : l.stackTraces = false) (D : va_G) (cI cZ cJ : ClassId) (sa : Nat → Nat) (x0 b0 r0 c0 d0 s0 : Nat) (b1 b2 gc dc : Nat) (P A0 : Nat → Int32) (r1 r2 r3 : Nat) (G Bt C : Nat → Int32) (v : Int32) (hg : gc ≤ 6) (hd : dc ≤ 12) : xc_Xi l xy_L_sensible xb_L_sensible 2 .boolean 7 1 6 [.ref x0, .int v] D cI cZ cJ sa [(x0, .inr (5, [.ref b0, .ref r0, .ref c0, .ref d0, .ref s0])), (b0, .inr (0, [.ref b1, .ref b2, .int (nI gc), .int (nI dc)])), (b1, .inl (cI, 78, .inl P)), (b2, .inl (cI, 78, .inl A0)), (r0, .inr (3, [.ref r1, .ref r2, .ref r3])), (r1, .inl (cI, 13, .inl G)), (r2, .inl (cI, 13, .inl Bt)), (r3, .inl (cI, 13, .inl C))] ((Nat → Int32) × (Nat → Int32) × (Nat → Int32)) (fun r _ => xo_01 v = true ∧ r = xf_bI (if v = 0 then !xk_bad (xk_link (xo_G gc P A0 (xo_X dc) (nI 1) (nI 1) G) (xo_X dc) C) (xo_B gc P A0 (xo_X dc) (nI 1) (nI 1) Bt) else !xk_bad (xo_G gc P A0 (xo_X dc) (nI 1) (nI 1) G) (xo_B gc P A0 (xo_X dc) (nI 1) (nI 1) Bt))) (fun E _ => E = xn_EA ∧ xo_01 v = false) (fun u => [(x0, .inr (5, [.ref b0, .ref r0, .ref c0, .ref d0, .ref s0])), (b0, .inr (0, [.ref b1, .ref b2, .int (nI gc), .int (nI dc)])), (b1, .inl (cI, 78, .inl P)), (b2, .inl (cI, 78, .inl A0)), (r0, .inr (3, [.ref r1, .ref r2, .ref r3])), (r1, .inl (cI, 13, .inl u.1)), (r2, .inl (cI, 13, .inl u.2.1)), (r3, .inl (cI, 13, .inl u.2.2))]) := by
  refine xc_Xi_of hl0 (by decide) (by decide) rfl (Nat.le_of_ble_eq_true rfl) ?_
  intro p e s m args below meth c Q ls A hAt hP hK hD hA hS hl hT0 hret hthr hpass
  obtain ⟨hx, hb, hml, hown, hts, hgs, hlk⟩ := id hAt
  have hT : ∀ w ∈ xw_g, w ∈ xc_ws xy_L_sensible xb_L_sensible 2 (some .boolean) := fun w h => List.mem_cons_of_mem _ h
  have hown : s.vm.findClass "WishLedger" = some m.cls := hown
  obtain ⟨H, hH0⟩ : ∃ H, H = s.heap := ⟨_, rfl⟩
  obtain ⟨locs, hL0⟩ : ∃ locs : List Loc, locs = [] := ⟨_, rfl⟩
  have hP : va_P D xn_cl [(x0, .inr (5, [.ref b0, .ref r0, .ref c0, .ref d0, .ref s0])), (b0, .inr (0, [.ref b1, .ref b2, .int (nI gc), .int (nI dc)])), (b1, .inl (cI, 78, .inl P)), (b2, .inl (cI, 78, .inl A0)), (r0, .inr (3, [.ref r1, .ref r2, .ref r3])), (r1, .inl (cI, 13, .inl G)), (r2, .inl (cI, 13, .inl Bt)), (r3, .inl (cI, 13, .inl C))] H := by rw [hH0]; exact hP
  have hS : va_S A s.heap H locs := by rw [hH0, hL0]; exact hS
  suffices hgo : W p l e (xc_rm 7 1 6) s m args below meth c H locs 0 0 Q (F0 m 0 ls []) by rw [hH0, hL0] at hgo; exact hgo
  clear hH0 hL0
  have hl : lv_has ls 2 [(0, .ref x0), (1, .int v)] := hl
  refine lv_iload_n hx hb xj_L_sensible_0 rfl (lv_at hl 1 rfl) ?_
  refine xc_xSv (av := [.int v]) (rest := []) (wr := [(x0, .inr (5, [.ref b0, .ref r0, .ref c0, .ref d0, .ref s0])), (b0, .inr (0, [.ref b1, .ref b2, .int (nI gc), .int (nI dc)])), (b1, .inl (cI, 78, .inl P)), (b2, .inl (cI, 78, .inl A0)), (r0, .inr (3, [.ref r1, .ref r2, .ref r3])), (r1, .inl (cI, 13, .inl G)), (r2, .inl (cI, 13, .inl Bt)), (r3, .inl (cI, 13, .inl C))]) hAt hT (xt_L_requireZeroOrOne l hl0 D cI cZ cJ sa v) xw_391 xw_1 xw_393 xw_392 (na := 1) rfl (by decide +kernel) ⟨Nat.le_of_ble_eq_true rfl, Nat.le_of_ble_eq_true rfl⟩ hP hD hS hA [] [0, 1, 2, 3, 4, 5, 6, 7] rfl rfl (by decide) (by decide) (by decide) hK hT0 hl.1 (Nat.le_of_ble_eq_true rfl) ⟨Nat.le_of_ble_eq_true rfl, Nat.le_of_ble_eq_true rfl⟩ xj_L_sensible_1 (fun Ex ce q9 u9 H locs hf hP hD hS hq hv hcl => ?_) (fun _ H locs hf1 hP hD hS => ?_)
  · have hP : va_P D xn_cl [(x0, .inr (5, [.ref b0, .ref r0, .ref c0, .ref d0, .ref s0])), (b0, .inr (0, [.ref b1, .ref b2, .int (nI gc), .int (nI dc)])), (b1, .inl (cI, 78, .inl P)), (b2, .inl (cI, 78, .inl A0)), (r0, .inr (3, [.ref r1, .ref r2, .ref r3])), (r1, .inl (cI, 13, .inl G)), (r2, .inl (cI, 13, .inl Bt)), (r3, .inl (cI, 13, .inl C))] H := va_P.sub hP [0, 1, 2, 3, 4, 5, 6, 7] rfl
    have hD : va_D A [(x0, .inr (5, [.ref b0, .ref r0, .ref c0, .ref d0, .ref s0])), (b0, .inr (0, [.ref b1, .ref b2, .int (nI gc), .int (nI dc)])), (b1, .inl (cI, 78, .inl P)), (b2, .inl (cI, 78, .inl A0)), (r0, .inr (3, [.ref r1, .ref r2, .ref r3])), (r1, .inl (cI, 13, .inl G)), (r2, .inl (cI, 13, .inl Bt)), (r3, .inl (cI, 13, .inl C))] := va_D.sub hD [0, 1, 2, 3, 4, 5, 6, 7] (by decide) rfl
    exact hpass Ex ce q9 ((G, Bt, C)) H locs _ _ _ ls _ hf hP hD hS hq hv hcl (Nat.le_of_ble_eq_true rfl) (Nat.le_of_ble_eq_true rfl)
  have hP : va_P D xn_cl [(x0, .inr (5, [.ref b0, .ref r0, .ref c0, .ref d0, .ref s0])), (b0, .inr (0, [.ref b1, .ref b2, .int (nI gc), .int (nI dc)])), (b1, .inl (cI, 78, .inl P)), (b2, .inl (cI, 78, .inl A0)), (r0, .inr (3, [.ref r1, .ref r2, .ref r3])), (r1, .inl (cI, 13, .inl G)), (r2, .inl (cI, 13, .inl Bt)), (r3, .inl (cI, 13, .inl C))] H := hP
  have hD : va_D A [(x0, .inr (5, [.ref b0, .ref r0, .ref c0, .ref d0, .ref s0])), (b0, .inr (0, [.ref b1, .ref b2, .int (nI gc), .int (nI dc)])), (b1, .inl (cI, 78, .inl P)), (b2, .inl (cI, 78, .inl A0)), (r0, .inr (3, [.ref r1, .ref r2, .ref r3])), (r1, .inl (cI, 13, .inl G)), (r2, .inl (cI, 13, .inl Bt)), (r3, .inl (cI, 13, .inl C))] := hD
  refine lv_aload_n hx hb xj_L_sensible_4 rfl (lv_at hl 0 rfl) ?_
  refine xc_wVv (av := []) (rest := []) (wr := []) hAt hT (xt_L_readRecord l D cI cZ cJ x0 b0 r0 c0 d0 s0 b1 b2 gc dc P A0 r1 r2 r3 G Bt C (by omega)) xw_372 xw_1 xw_375 xw_374 xs_L_readRecord (C0 := xn_L) (q0 := 0) rfl rfl (na := 0) rfl (by decide +kernel) ⟨Nat.le_of_ble_eq_true rfl, Nat.le_of_ble_eq_true rfl⟩ hP hD hS hA [0, 1, 2, 3, 4, 5, 6, 7] [] rfl rfl (by decide) (by decide) (by decide) hK hl.1 (Nat.le_of_ble_eq_true rfl) ⟨Nat.le_of_ble_eq_true rfl, Nat.le_of_ble_eq_true rfl⟩ xj_L_sensible_5 (fun _ H locs _ hP hD hS => ?_)
  have hP : va_P D xn_cl [(x0, .inr (5, [.ref b0, .ref r0, .ref c0, .ref d0, .ref s0])), (b0, .inr (0, [.ref b1, .ref b2, .int (nI gc), .int (nI dc)])), (b1, .inl (cI, 78, .inl P)), (b2, .inl (cI, 78, .inl A0)), (r0, .inr (3, [.ref r1, .ref r2, .ref r3])), (r1, .inl (cI, 13, .inl (xo_G gc P A0 (xo_X dc) (nI 1) (nI 1) G))), (r2, .inl (cI, 13, .inl (xo_B gc P A0 (xo_X dc) (nI 1) (nI 1) Bt))), (r3, .inl (cI, 13, .inl C))] H := hP
  have hD : va_D A [(x0, .inr (5, [.ref b0, .ref r0, .ref c0, .ref d0, .ref s0])), (b0, .inr (0, [.ref b1, .ref b2, .int (nI gc), .int (nI dc)])), (b1, .inl (cI, 78, .inl P)), (b2, .inl (cI, 78, .inl A0)), (r0, .inr (3, [.ref r1, .ref r2, .ref r3])), (r1, .inl (cI, 13, .inl (xo_G gc P A0 (xo_X dc) (nI 1) (nI 1) G))), (r2, .inl (cI, 13, .inl (xo_B gc P A0 (xo_X dc) (nI 1) (nI 1) Bt))), (r3, .inl (cI, 13, .inl C))] := hD
  refine lv_iload_n hx hb xj_L_sensible_8 rfl (lv_at hl 1 rfl) ?_
  refine lv_if_ne (tgt := 29) hx hb xj_L_sensible_9 rfl (fun h9 => ?_) (fun h9 => ?_)
  · -- 29
    refine lv_aload_n hx hb xj_L_sensible_29 rfl (lv_at hl 0 rfl) ?_
    refine va_get (D := D) (ci := 5) (v := .ref r0) (C := xn_L) (T := xn_TL) (N := 5) hx hb hgs xw_uL hown hK.1 hP 0 rfl rfl 1 (by decide) (hgs _ xw_124) (fun _ h9 => h9) rfl xj_L_sensible_30 ?_
    refine xc_callVN (av := []) (rest := []) hAt hT (xt_R_hasPairAtOdds l D cI cZ cJ r0 r1 r2 r3 (xo_G gc P A0 (xo_X dc) (nI 1) (nI 1) G) (xo_B gc P A0 (xo_X dc) (nI 1) (nI 1) Bt) C) (List.mem_of_getElem? (i := 27) rfl) xw_3 xw_398 xw_397 xs_R_hasPairAtOdds (C0 := xn_R) (q0 := 0) rfl rfl (na := 0) rfl (by decide +kernel) ⟨Nat.le_of_ble_eq_true rfl, Nat.le_of_ble_eq_true rfl⟩ (hP.sub (ws' := [(r0, .inr (3, [.ref r1, .ref r2, .ref r3])), (r1, .inl (cI, 13, .inl (xo_G gc P A0 (xo_X dc) (nI 1) (nI 1) G))), (r2, .inl (cI, 13, .inl (xo_B gc P A0 (xo_X dc) (nI 1) (nI 1) Bt))), (r3, .inl (cI, 13, .inl C))]) [4, 5, 6, 7] rfl) hK hl.1 (Nat.le_of_ble_eq_true rfl) ⟨Nat.le_of_ble_eq_true rfl, Nat.le_of_ble_eq_true rfl⟩ xj_L_sensible_33 ?_
    refine xr_ifne (tgt := 43) hx hb xj_L_sensible_36 rfl (fun h36 => ?_) (fun h36 => ?_)
    · -- 43
      refine lv_iconst (v := nI 0) hx hb xj_L_sensible_43 (by decide) ?_
      exact hret (nI 0) ((xo_G gc P A0 (xo_X dc) (nI 1) (nI 1) G, xo_B gc P A0 (xo_X dc) (nI 1) (nI 1) Bt, C)) H locs _ _ _ ls (⟨hf1, by rw [if_neg h9, h36]; rfl⟩) (xf_nar_b false) hP hD hS (Nat.le_of_ble_eq_true rfl) (Nat.le_of_ble_eq_true rfl) xj_L_sensible_44
    · -- 39
      refine lv_iconst (v := nI 1) hx hb xj_L_sensible_39 (by decide) ?_
      refine lv_goto (tgt := 44) hx hb xj_L_sensible_40 rfl ?_
      exact hret (nI 1) ((xo_G gc P A0 (xo_X dc) (nI 1) (nI 1) G, xo_B gc P A0 (xo_X dc) (nI 1) (nI 1) Bt, C)) H locs _ _ _ ls (⟨hf1, by rw [if_neg h9, h36]; rfl⟩) (xf_nar_b true) hP hD hS (Nat.le_of_ble_eq_true rfl) (Nat.le_of_ble_eq_true rfl) xj_L_sensible_44
  · -- 12
    refine lv_aload_n hx hb xj_L_sensible_12 rfl (lv_at hl 0 rfl) ?_
    refine va_get (D := D) (ci := 5) (v := .ref r0) (C := xn_L) (T := xn_TL) (N := 5) hx hb hgs xw_uL hown hK.1 hP 0 rfl rfl 1 (by decide) (hgs _ xw_124) (fun _ h9 => h9) rfl xj_L_sensible_13 ?_
    refine lv_aload_n hx hb xj_L_sensible_16 rfl (lv_at hl 0 rfl) ?_
    refine va_get (D := D) (ci := 5) (v := .ref b0) (C := xn_L) (T := xn_TL) (N := 5) hx hb hgs xw_uL hown hK.1 hP 0 rfl rfl 0 (by decide) (hgs _ xw_123) (fun _ h9 => h9) rfl xj_L_sensible_17 ?_
    refine xc_callVN (av := []) (rest := [.ref r0]) hAt hT (xt_B_everyDay l D cI cZ cJ b0 b1 b2 gc dc P A0) (List.mem_of_getElem? (i := 14) rfl) xw_2 xw_146 xw_145 xs_B_everyDay (C0 := xn_B) (q0 := 0) rfl rfl (na := 0) rfl (by decide +kernel) ⟨Nat.le_of_ble_eq_true rfl, Nat.le_of_ble_eq_true rfl⟩ (hP.sub (ws' := [(b0, .inr (0, [.ref b1, .ref b2, .int (nI gc), .int (nI dc)])), (b1, .inl (cI, 78, .inl P)), (b2, .inl (cI, 78, .inl A0))]) [1, 2, 3] rfl) hK hl.1 (Nat.le_of_ble_eq_true rfl) ⟨Nat.le_of_ble_eq_true rfl, Nat.le_of_ble_eq_true rfl⟩ xj_L_sensible_20 ?_
    refine xr_top (y := xo_X dc) rfl ?_
    refine xc_wVNi (av := [.int (xo_X dc)]) (rest := []) (wr := [(x0, .inr (5, [.ref b0, .ref r0, .ref c0, .ref d0, .ref s0])), (b0, .inr (0, [.ref b1, .ref b2, .int (nI gc), .int (nI dc)])), (b1, .inl (cI, 78, .inl P)), (b2, .inl (cI, 78, .inl A0))]) hAt hT (xt_R_isSensibleWithin l D cI cZ cJ r0 r1 r2 r3 (xo_G gc P A0 (xo_X dc) (nI 1) (nI 1) G) (xo_B gc P A0 (xo_X dc) (nI 1) (nI 1) Bt) C (xo_X dc)) (List.mem_of_getElem? (i := 20) rfl) xw_3 xw_170 xw_169 xs_R_isSensibleWithin (C0 := xn_R) (q0 := 0) rfl rfl (na := 1) rfl (by decide +kernel) ⟨Nat.le_of_ble_eq_true rfl, Nat.le_of_ble_eq_true rfl⟩ hP hD hS hA [4, 5, 6, 7] [0, 1, 2, 3] rfl rfl (by decide) (by decide) (by decide) hK hl.1 (Nat.le_of_ble_eq_true rfl) ⟨Nat.le_of_ble_eq_true rfl, Nat.le_of_ble_eq_true rfl⟩ xj_L_sensible_23 (fun r23 _ H locs hr23 hP hD hS => ?_)
    subst hr23
    have hP : va_P D xn_cl [(x0, .inr (5, [.ref b0, .ref r0, .ref c0, .ref d0, .ref s0])), (b0, .inr (0, [.ref b1, .ref b2, .int (nI gc), .int (nI dc)])), (b1, .inl (cI, 78, .inl P)), (b2, .inl (cI, 78, .inl A0)), (r0, .inr (3, [.ref r1, .ref r2, .ref r3])), (r1, .inl (cI, 13, .inl (xo_G gc P A0 (xo_X dc) (nI 1) (nI 1) G))), (r2, .inl (cI, 13, .inl (xo_B gc P A0 (xo_X dc) (nI 1) (nI 1) Bt))), (r3, .inl (cI, 13, .inl (xk_link (xo_G gc P A0 (xo_X dc) (nI 1) (nI 1) G) (xo_X dc) C)))] H := hP
    have hD : va_D A [(x0, .inr (5, [.ref b0, .ref r0, .ref c0, .ref d0, .ref s0])), (b0, .inr (0, [.ref b1, .ref b2, .int (nI gc), .int (nI dc)])), (b1, .inl (cI, 78, .inl P)), (b2, .inl (cI, 78, .inl A0)), (r0, .inr (3, [.ref r1, .ref r2, .ref r3])), (r1, .inl (cI, 13, .inl (xo_G gc P A0 (xo_X dc) (nI 1) (nI 1) G))), (r2, .inl (cI, 13, .inl (xo_B gc P A0 (xo_X dc) (nI 1) (nI 1) Bt))), (r3, .inl (cI, 13, .inl (xk_link (xo_G gc P A0 (xo_X dc) (nI 1) (nI 1) G) (xo_X dc) C)))] := hD
    refine lv_goto (tgt := 44) hx hb xj_L_sensible_26 rfl ?_
    exact hret (xf_bI (!xk_bad (xk_link (xo_G gc P A0 (xo_X dc) (nI 1) (nI 1) G) (xo_X dc) C) (xo_B gc P A0 (xo_X dc) (nI 1) (nI 1) Bt))) ((xo_G gc P A0 (xo_X dc) (nI 1) (nI 1) G, xo_B gc P A0 (xo_X dc) (nI 1) (nI 1) Bt, xk_link (xo_G gc P A0 (xo_X dc) (nI 1) (nI 1) G) (xo_X dc) C)) H locs _ _ _ ls (⟨hf1, congrArg xf_bI (if_pos h9).symm⟩) (xf_nar_b (!xk_bad (xk_link (xo_G gc P A0 (xo_X dc) (nI 1) (nI 1) G) (xo_X dc) C) (xo_B gc P A0 (xo_X dc) (nI 1) (nI 1) Bt))) hP hD hS (Nat.le_of_ble_eq_true rfl) (Nat.le_of_ble_eq_true rfl) xj_L_sensible_44
set_option maxRecDepth 100000 in
set_option maxHeartbeats 4000000 in
theorem xt_L_passes (l : Launch) (hl0 : l.stackTraces = false) (D : va_G) (cI cZ cJ : ClassId) (sa : Nat → Nat) (x0 b0 r0 c0 d0 s0 : Nat) (b1 b2 gc dc : Nat) (P A0 : Nat → Int32) (r1 r2 r3 : Nat) (G Bt C : Nat → Int32) (up dn : Int32) (hg : gc ≤ 6) (hd : dc ≤ 12) : xc_Xi l xy_L_passes xb_L_passes 3 .boolean 7 1 6 [.ref x0, .int up, .int dn] D cI cZ cJ sa [(x0, .inr (5, [.ref b0, .ref r0, .ref c0, .ref d0, .ref s0])), (b0, .inr (0, [.ref b1, .ref b2, .int (nI gc), .int (nI dc)])), (b1, .inl (cI, 78, .inl P)), (b2, .inl (cI, 78, .inl A0)), (r0, .inr (3, [.ref r1, .ref r2, .ref r3])), (r1, .inl (cI, 13, .inl G)), (r2, .inl (cI, 13, .inl Bt)), (r3, .inl (cI, 13, .inl C))] ((Nat → Int32) × (Nat → Int32) × (Nat → Int32)) (fun r _ => xo_fr up dn = true ∧ r = xf_bI (!xk_bad (xk_link (xo_G gc P A0 (xo_X dc) up dn G) (xo_X dc) C) (xo_B gc P A0 (xo_X dc) up dn Bt))) (fun E _ => E = xn_EA ∧ xo_fr up dn = false) (fun u => [(x0, .inr (5, [.ref b0, .ref r0, .ref c0, .ref d0, .ref s0])), (b0, .inr (0, [.ref b1, .ref b2, .int (nI gc), .int (nI dc)])), (b1, .inl (cI, 78, .inl P)), (b2, .inl (cI, 78, .inl A0)), (r0, .inr (3, [.ref r1, .ref r2, .ref r3])), (r1, .inl (cI, 13, .inl u.1)), (r2, .inl (cI, 13, .inl u.2.1)), (r3, .inl (cI, 13, .inl u.2.2))]) := by
  refine xc_Xi_of hl0 (by decide) (by decide) rfl (Nat.le_of_ble_eq_true rfl) ?_
  intro p e s m args below meth c Q ls A hAt hP hK hD hA hS hl hT0 hret hthr hpass
  obtain ⟨hx, hb, hml, hown, hts, hgs, hlk⟩ := id hAt
  have hT : ∀ w ∈ xw_g, w ∈ xc_ws xy_L_passes xb_L_passes 3 (some .boolean) := fun w h => List.mem_cons_of_mem _ h
  have hown : s.vm.findClass "WishLedger" = some m.cls := hown
  obtain ⟨H, hH0⟩ : ∃ H, H = s.heap := ⟨_, rfl⟩
  obtain ⟨locs, hL0⟩ : ∃ locs : List Loc, locs = [] := ⟨_, rfl⟩
  have hP : va_P D xn_cl [(x0, .inr (5, [.ref b0, .ref r0, .ref c0, .ref d0, .ref s0])), (b0, .inr (0, [.ref b1, .ref b2, .int (nI gc), .int (nI dc)])), (b1, .inl (cI, 78, .inl P)), (b2, .inl (cI, 78, .inl A0)), (r0, .inr (3, [.ref r1, .ref r2, .ref r3])), (r1, .inl (cI, 13, .inl G)), (r2, .inl (cI, 13, .inl Bt)), (r3, .inl (cI, 13, .inl C))] H := by rw [hH0]; exact hP
  have hS : va_S A s.heap H locs := by rw [hH0, hL0]; exact hS
  suffices hgo : W p l e (xc_rm 7 1 6) s m args below meth c H locs 0 0 Q (F0 m 0 ls []) by rw [hH0, hL0] at hgo; exact hgo
  clear hH0 hL0
  have hl : lv_has ls 3 [(0, .ref x0), (1, .int up), (2, .int dn)] := hl
  refine lv_iload_n hx hb xj_L_passes_0 rfl (lv_at hl 2 rfl) ?_
  refine lv_iconst (v := nI 1) hx hb xj_L_passes_1 (by decide) ?_
  refine lv_icmp_lt (tgt := 21) hx hb xj_L_passes_2 rfl (fun h2 => ?_) (fun h2 => ?_)
  · -- 21
    exact hthr xn_EA ((G, Bt, C)) H locs _ _ _ ls (⟨rfl, xo_fr_1 (xo_rg_1 h2)⟩) hP hD hS hl.1 ⟨48, 130, 52, 9, _, xj_L_passes_21, xj_L_passes_24, xj_L_passes_25, xj_L_passes_27, xj_L_passes_30, xw_187, xw_11, rfl, Or.inl ⟨rfl, rfl⟩⟩ (Nat.le_of_ble_eq_true rfl) (Nat.le_of_ble_eq_true rfl)
  · -- 5
    refine lv_iload_n hx hb xj_L_passes_5 rfl (lv_at hl 2 rfl) ?_
    refine lv_ldc (v := nI 1000000) hx hb hown (hgs _ xw_441) xj_L_passes_6 ?_
    refine lv_icmp_gt (tgt := 21) hx hb xj_L_passes_8 rfl (fun h8 => ?_) (fun h8 => ?_)
    · -- 21
      exact hthr xn_EA ((G, Bt, C)) H locs _ _ _ ls (⟨rfl, xo_fr_1 (xo_rg_2 (xo_ngt h8))⟩) hP hD hS hl.1 ⟨48, 130, 52, 9, _, xj_L_passes_21, xj_L_passes_24, xj_L_passes_25, xj_L_passes_27, xj_L_passes_30, xw_187, xw_11, rfl, Or.inl ⟨rfl, rfl⟩⟩ (Nat.le_of_ble_eq_true rfl) (Nat.le_of_ble_eq_true rfl)
    · -- 11
      refine lv_iload_n hx hb xj_L_passes_11 rfl (lv_at hl 1 rfl) ?_
      refine lv_iconst (v := nI 1) hx hb xj_L_passes_12 (by decide) ?_
      refine lv_icmp_lt (tgt := 21) hx hb xj_L_passes_13 rfl (fun h13 => ?_) (fun h13 => ?_)
      · -- 21
        exact hthr xn_EA ((G, Bt, C)) H locs _ _ _ ls (⟨rfl, xo_fr_2 (xo_rg_1 h13)⟩) hP hD hS hl.1 ⟨48, 130, 52, 9, _, xj_L_passes_21, xj_L_passes_24, xj_L_passes_25, xj_L_passes_27, xj_L_passes_30, xw_187, xw_11, rfl, Or.inl ⟨rfl, rfl⟩⟩ (Nat.le_of_ble_eq_true rfl) (Nat.le_of_ble_eq_true rfl)
      · -- 16
        refine lv_iload_n hx hb xj_L_passes_16 rfl (lv_at hl 1 rfl) ?_
        refine lv_iload_n hx hb xj_L_passes_17 rfl (lv_at hl 2 rfl) ?_
        refine lv_icmp_le (tgt := 31) hx hb xj_L_passes_18 rfl (fun h18 => ?_) (fun h18 => ?_)
        · -- 31
          refine lv_aload_n hx hb xj_L_passes_31 rfl (lv_at hl 0 rfl) ?_
          refine va_get (D := D) (ci := 5) (v := .ref r0) (C := xn_L) (T := xn_TL) (N := 5) hx hb hgs xw_uL hown hK.1 hP 0 rfl rfl 1 (by decide) (hgs _ xw_124) (fun _ h9 => h9) rfl xj_L_passes_32 ?_
          refine lv_aload_n hx hb xj_L_passes_35 rfl (lv_at hl 0 rfl) ?_
          refine va_get (D := D) (ci := 5) (v := .ref b0) (C := xn_L) (T := xn_TL) (N := 5) hx hb hgs xw_uL hown hK.1 hP 0 rfl rfl 0 (by decide) (hgs _ xw_123) (fun _ h9 => h9) rfl xj_L_passes_36 ?_
          refine lv_aload_n hx hb xj_L_passes_39 rfl (lv_at hl 0 rfl) ?_
          refine va_get (D := D) (ci := 5) (v := .ref b0) (C := xn_L) (T := xn_TL) (N := 5) hx hb hgs xw_uL hown hK.1 hP 0 rfl rfl 0 (by decide) (hgs _ xw_123) (fun _ h9 => h9) rfl xj_L_passes_40 ?_
          refine xc_callVN (av := []) (rest := [.ref b0, .ref r0]) hAt hT (xt_B_everyDay l D cI cZ cJ b0 b1 b2 gc dc P A0) (List.mem_of_getElem? (i := 14) rfl) xw_2 xw_146 xw_145 xs_B_everyDay (C0 := xn_B) (q0 := 0) rfl rfl (na := 0) rfl (by decide +kernel) ⟨Nat.le_of_ble_eq_true rfl, Nat.le_of_ble_eq_true rfl⟩ (hP.sub (ws' := [(b0, .inr (0, [.ref b1, .ref b2, .int (nI gc), .int (nI dc)])), (b1, .inl (cI, 78, .inl P)), (b2, .inl (cI, 78, .inl A0))]) [1, 2, 3] rfl) hK hl.1 (Nat.le_of_ble_eq_true rfl) ⟨Nat.le_of_ble_eq_true rfl, Nat.le_of_ble_eq_true rfl⟩ xj_L_passes_43 ?_
          refine xr_top (y := xo_X dc) rfl ?_
          refine lv_iload_n hx hb xj_L_passes_46 rfl (lv_at hl 1 rfl) ?_
          refine lv_iload_n hx hb xj_L_passes_47 rfl (lv_at hl 2 rfl) ?_
          refine xc_wVNv (av := [.ref b0, .int (xo_X dc), .int up, .int dn]) (rest := []) (wr := [(x0, .inr (5, [.ref b0, .ref r0, .ref c0, .ref d0, .ref s0]))]) hAt hT (xt_R_read l D cI cZ cJ r0 r1 r2 r3 G Bt C b0 b1 b2 gc dc P A0 (xo_X dc) up dn (by omega)) (List.mem_of_getElem? (i := 16) rfl) xw_3 xw_154 xw_153 xs_R_read (C0 := xn_R) (q0 := 0) rfl rfl (na := 4) rfl (by decide +kernel) ⟨Nat.le_of_ble_eq_true rfl, Nat.le_of_ble_eq_true rfl⟩ hP hD hS hA [4, 5, 6, 7, 1, 2, 3] [0] rfl rfl (by decide) (by decide) (by decide) hK hl.1 (Nat.le_of_ble_eq_true rfl) ⟨Nat.le_of_ble_eq_true rfl, Nat.le_of_ble_eq_true rfl⟩ xj_L_passes_48 (fun _ H locs _ hP hD hS => ?_)
          have hP : va_P D xn_cl [(x0, .inr (5, [.ref b0, .ref r0, .ref c0, .ref d0, .ref s0])), (b0, .inr (0, [.ref b1, .ref b2, .int (nI gc), .int (nI dc)])), (b1, .inl (cI, 78, .inl P)), (b2, .inl (cI, 78, .inl A0)), (r0, .inr (3, [.ref r1, .ref r2, .ref r3])), (r1, .inl (cI, 13, .inl (xf_fill (xk_rowG (xk_c gc P A0) (xo_X dc) up.toInt64 dn.toInt64) 13 0 G))), (r2, .inl (cI, 13, .inl (xf_fill (xk_rowB (xk_c gc P A0) (xo_X dc) up.toInt64 dn.toInt64) 13 0 Bt))), (r3, .inl (cI, 13, .inl C))] H := va_P.sub hP [0, 5, 6, 7, 1, 2, 3, 4] rfl
          have hD : va_D A [(x0, .inr (5, [.ref b0, .ref r0, .ref c0, .ref d0, .ref s0])), (b0, .inr (0, [.ref b1, .ref b2, .int (nI gc), .int (nI dc)])), (b1, .inl (cI, 78, .inl P)), (b2, .inl (cI, 78, .inl A0)), (r0, .inr (3, [.ref r1, .ref r2, .ref r3])), (r1, .inl (cI, 13, .inl (xf_fill (xk_rowG (xk_c gc P A0) (xo_X dc) up.toInt64 dn.toInt64) 13 0 G))), (r2, .inl (cI, 13, .inl (xf_fill (xk_rowB (xk_c gc P A0) (xo_X dc) up.toInt64 dn.toInt64) 13 0 Bt))), (r3, .inl (cI, 13, .inl C))] := va_D.sub hD [0, 5, 6, 7, 1, 2, 3, 4] (by decide) rfl
          have hP : va_P D xn_cl [(x0, .inr (5, [.ref b0, .ref r0, .ref c0, .ref d0, .ref s0])), (b0, .inr (0, [.ref b1, .ref b2, .int (nI gc), .int (nI dc)])), (b1, .inl (cI, 78, .inl P)), (b2, .inl (cI, 78, .inl A0)), (r0, .inr (3, [.ref r1, .ref r2, .ref r3])), (r1, .inl (cI, 13, .inl (xo_G gc P A0 (xo_X dc) up dn G))), (r2, .inl (cI, 13, .inl (xo_B gc P A0 (xo_X dc) up dn Bt))), (r3, .inl (cI, 13, .inl C))] H := hP
          have hD : va_D A [(x0, .inr (5, [.ref b0, .ref r0, .ref c0, .ref d0, .ref s0])), (b0, .inr (0, [.ref b1, .ref b2, .int (nI gc), .int (nI dc)])), (b1, .inl (cI, 78, .inl P)), (b2, .inl (cI, 78, .inl A0)), (r0, .inr (3, [.ref r1, .ref r2, .ref r3])), (r1, .inl (cI, 13, .inl (xo_G gc P A0 (xo_X dc) up dn G))), (r2, .inl (cI, 13, .inl (xo_B gc P A0 (xo_X dc) up dn Bt))), (r3, .inl (cI, 13, .inl C))] := hD
          refine lv_aload_n hx hb xj_L_passes_51 rfl (lv_at hl 0 rfl) ?_
          refine va_get (D := D) (ci := 5) (v := .ref r0) (C := xn_L) (T := xn_TL) (N := 5) hx hb hgs xw_uL hown hK.1 hP 0 rfl rfl 1 (by decide) (hgs _ xw_124) (fun _ h9 => h9) rfl xj_L_passes_52 ?_
          refine lv_aload_n hx hb xj_L_passes_55 rfl (lv_at hl 0 rfl) ?_
          refine va_get (D := D) (ci := 5) (v := .ref b0) (C := xn_L) (T := xn_TL) (N := 5) hx hb hgs xw_uL hown hK.1 hP 0 rfl rfl 0 (by decide) (hgs _ xw_123) (fun _ h9 => h9) rfl xj_L_passes_56 ?_
          refine xc_callVN (av := []) (rest := [.ref r0]) hAt hT (xt_B_everyDay l D cI cZ cJ b0 b1 b2 gc dc P A0) (List.mem_of_getElem? (i := 14) rfl) xw_2 xw_146 xw_145 xs_B_everyDay (C0 := xn_B) (q0 := 0) rfl rfl (na := 0) rfl (by decide +kernel) ⟨Nat.le_of_ble_eq_true rfl, Nat.le_of_ble_eq_true rfl⟩ (hP.sub (ws' := [(b0, .inr (0, [.ref b1, .ref b2, .int (nI gc), .int (nI dc)])), (b1, .inl (cI, 78, .inl P)), (b2, .inl (cI, 78, .inl A0))]) [1, 2, 3] rfl) hK hl.1 (Nat.le_of_ble_eq_true rfl) ⟨Nat.le_of_ble_eq_true rfl, Nat.le_of_ble_eq_true rfl⟩ xj_L_passes_59 ?_
          refine xr_top (y := xo_X dc) rfl ?_
          refine xc_wVNi (av := [.int (xo_X dc)]) (rest := []) (wr := [(x0, .inr (5, [.ref b0, .ref r0, .ref c0, .ref d0, .ref s0])), (b0, .inr (0, [.ref b1, .ref b2, .int (nI gc), .int (nI dc)])), (b1, .inl (cI, 78, .inl P)), (b2, .inl (cI, 78, .inl A0))]) hAt hT (xt_R_isSensibleWithin l D cI cZ cJ r0 r1 r2 r3 (xo_G gc P A0 (xo_X dc) up dn G) (xo_B gc P A0 (xo_X dc) up dn Bt) C (xo_X dc)) (List.mem_of_getElem? (i := 20) rfl) xw_3 xw_170 xw_169 xs_R_isSensibleWithin (C0 := xn_R) (q0 := 0) rfl rfl (na := 1) rfl (by decide +kernel) ⟨Nat.le_of_ble_eq_true rfl, Nat.le_of_ble_eq_true rfl⟩ hP hD hS hA [4, 5, 6, 7] [0, 1, 2, 3] rfl rfl (by decide) (by decide) (by decide) hK hl.1 (Nat.le_of_ble_eq_true rfl) ⟨Nat.le_of_ble_eq_true rfl, Nat.le_of_ble_eq_true rfl⟩ xj_L_passes_62 (fun r62 _ H locs hr62 hP hD hS => ?_)
          subst hr62
          have hP : va_P D xn_cl [(x0, .inr (5, [.ref b0, .ref r0, .ref c0, .ref d0, .ref s0])), (b0, .inr (0, [.ref b1, .ref b2, .int (nI gc), .int (nI dc)])), (b1, .inl (cI, 78, .inl P)), (b2, .inl (cI, 78, .inl A0)), (r0, .inr (3, [.ref r1, .ref r2, .ref r3])), (r1, .inl (cI, 13, .inl (xo_G gc P A0 (xo_X dc) up dn G))), (r2, .inl (cI, 13, .inl (xo_B gc P A0 (xo_X dc) up dn Bt))), (r3, .inl (cI, 13, .inl (xk_link (xo_G gc P A0 (xo_X dc) up dn G) (xo_X dc) C)))] H := hP
          have hD : va_D A [(x0, .inr (5, [.ref b0, .ref r0, .ref c0, .ref d0, .ref s0])), (b0, .inr (0, [.ref b1, .ref b2, .int (nI gc), .int (nI dc)])), (b1, .inl (cI, 78, .inl P)), (b2, .inl (cI, 78, .inl A0)), (r0, .inr (3, [.ref r1, .ref r2, .ref r3])), (r1, .inl (cI, 13, .inl (xo_G gc P A0 (xo_X dc) up dn G))), (r2, .inl (cI, 13, .inl (xo_B gc P A0 (xo_X dc) up dn Bt))), (r3, .inl (cI, 13, .inl (xk_link (xo_G gc P A0 (xo_X dc) up dn G) (xo_X dc) C)))] := hD
          exact hret (xf_bI (!xk_bad (xk_link (xo_G gc P A0 (xo_X dc) up dn G) (xo_X dc) C) (xo_B gc P A0 (xo_X dc) up dn Bt))) ((xo_G gc P A0 (xo_X dc) up dn G, xo_B gc P A0 (xo_X dc) up dn Bt, xk_link (xo_G gc P A0 (xo_X dc) up dn G) (xo_X dc) C)) H locs _ _ _ ls (⟨xo_fr_t (xo_rg_t h2 (Int32.not_lt.mp h8)) (xo_rg_t h13 h18), rfl⟩) (xf_nar_b (!xk_bad (xk_link (xo_G gc P A0 (xo_X dc) up dn G) (xo_X dc) C) (xo_B gc P A0 (xo_X dc) up dn Bt))) hP hD hS (Nat.le_of_ble_eq_true rfl) (Nat.le_of_ble_eq_true rfl) xj_L_passes_65
        · -- 21
          exact hthr xn_EA ((G, Bt, C)) H locs _ _ _ ls (⟨rfl, xo_fr_2 (xo_rg_2 h18)⟩) hP hD hS hl.1 ⟨48, 130, 52, 9, _, xj_L_passes_21, xj_L_passes_24, xj_L_passes_25, xj_L_passes_27, xj_L_passes_30, xw_187, xw_11, rfl, Or.inl ⟨rfl, rfl⟩⟩ (Nat.le_of_ble_eq_true rfl) (Nat.le_of_ble_eq_true rfl)
set_option maxRecDepth 100000 in
set_option maxHeartbeats 4000000 in
theorem xt_L_fits (l : Launch) (D : va_G) (cI cZ cJ : ClassId) (x0 b0 r0 c0 d0 s0 : Nat) (b1 b2 gc dc : Nat) (P A0 : Nat → Int32) (r1 r2 r3 : Nat) (G Bt C : Nat → Int32) (hg : gc ≤ 6) : xc_Wi l xy_L_fits xb_L_fits 2 .boolean 4 0 0 [.ref x0] D cI cZ cJ [(x0, .inr (5, [.ref b0, .ref r0, .ref c0, .ref d0, .ref s0])), (b0, .inr (0, [.ref b1, .ref b2, .int (nI gc), .int (nI dc)])), (b1, .inl (cI, 78, .inl P)), (b2, .inl (cI, 78, .inl A0)), (r0, .inr (3, [.ref r1, .ref r2, .ref r3])), (r1, .inl (cI, 13, .inl G)), (r2, .inl (cI, 13, .inl Bt)), (r3, .inl (cI, 13, .inl C))] ((Nat → Int32) × (Nat → Int32) × (Nat → Int32)) (fun r _ => r = xf_bI (!xk_bad (xk_link (xo_G gc P A0 (xo_X dc ||| xf_bi (nI 12)) (nI 1) (nI 1) G) (xo_X dc ||| xf_bi (nI 12)) C) (xo_B gc P A0 (xo_X dc ||| xf_bi (nI 12)) (nI 1) (nI 1) Bt))) (fun u => [(x0, .inr (5, [.ref b0, .ref r0, .ref c0, .ref d0, .ref s0])), (b0, .inr (0, [.ref b1, .ref b2, .int (nI gc), .int (nI dc)])), (b1, .inl (cI, 78, .inl P)), (b2, .inl (cI, 78, .inl A0)), (r0, .inr (3, [.ref r1, .ref r2, .ref r3])), (r1, .inl (cI, 13, .inl u.1)), (r2, .inl (cI, 13, .inl u.2.1)), (r3, .inl (cI, 13, .inl u.2.2))]) := by
  refine xc_Wi_of (by decide) (Nat.le_of_ble_eq_true rfl) ?_
  intro p e s m args below meth c Q ls A hAt hP hK hD hA hS hl hret
  obtain ⟨hx, hb, hml, hown, hts, hgs, hlk⟩ := id hAt
  have hT : ∀ w ∈ xw_g, w ∈ xc_ws xy_L_fits xb_L_fits 2 (some .boolean) := fun w h => List.mem_cons_of_mem _ h
  have hown : s.vm.findClass "WishLedger" = some m.cls := hown
  obtain ⟨H, hH0⟩ : ∃ H, H = s.heap := ⟨_, rfl⟩
  obtain ⟨locs, hL0⟩ : ∃ locs : List Loc, locs = [] := ⟨_, rfl⟩
  have hP : va_P D xn_cl [(x0, .inr (5, [.ref b0, .ref r0, .ref c0, .ref d0, .ref s0])), (b0, .inr (0, [.ref b1, .ref b2, .int (nI gc), .int (nI dc)])), (b1, .inl (cI, 78, .inl P)), (b2, .inl (cI, 78, .inl A0)), (r0, .inr (3, [.ref r1, .ref r2, .ref r3])), (r1, .inl (cI, 13, .inl G)), (r2, .inl (cI, 13, .inl Bt)), (r3, .inl (cI, 13, .inl C))] H := by rw [hH0]; exact hP
  have hS : va_S A s.heap H locs := by rw [hH0, hL0]; exact hS
  suffices hgo : W p l e (xc_rm 4 0 0) s m args below meth c H locs 0 0 Q (F0 m 0 ls []) by rw [hH0, hL0] at hgo; exact hgo
  clear hH0 hL0
  have hl : lv_has ls 2 [(0, .ref x0)] := hl
  refine lv_aload_n hx hb xj_L_fits_0 rfl (lv_at hl 0 rfl) ?_
  refine va_get (D := D) (ci := 5) (v := .ref b0) (C := xn_L) (T := xn_TL) (N := 5) hx hb hgs xw_uL hown hK.1 hP 0 rfl rfl 0 (by decide) (hgs _ xw_123) (fun _ h9 => h9) rfl xj_L_fits_1 ?_
  refine xc_callVN (av := []) (rest := []) hAt hT (xt_B_everyDay l D cI cZ cJ b0 b1 b2 gc dc P A0) (List.mem_of_getElem? (i := 14) rfl) xw_2 xw_146 xw_145 xs_B_everyDay (C0 := xn_B) (q0 := 0) rfl rfl (na := 0) rfl (by decide +kernel) ⟨Nat.le_of_ble_eq_true rfl, Nat.le_of_ble_eq_true rfl⟩ (hP.sub (ws' := [(b0, .inr (0, [.ref b1, .ref b2, .int (nI gc), .int (nI dc)])), (b1, .inl (cI, 78, .inl P)), (b2, .inl (cI, 78, .inl A0))]) [1, 2, 3] rfl) hK hl.1 (Nat.le_of_ble_eq_true rfl) ⟨Nat.zero_le _, Nat.zero_le _⟩ xj_L_fits_4 ?_
  refine xr_top (y := xo_X dc) rfl ?_
  refine lv_bipush (v := nI 12) hx hb xj_L_fits_7 (by decide) ?_
  refine xc_callS (av := [.int (nI 12)]) (rest := [.int (xo_X dc)]) hAt hT (xt_L_bit l D cI cZ cJ (nI 12)) xw_150 xw_1 xw_149 xw_148 (na := 1) rfl (by decide +kernel) ⟨Nat.le_of_ble_eq_true rfl, Nat.le_of_ble_eq_true rfl⟩ (hP.sub (ws' := []) [] rfl) hK hl.1 (Nat.le_of_ble_eq_true rfl) ⟨Nat.zero_le _, Nat.zero_le _⟩ xj_L_fits_9 ?_
  refine lv_ior hx hb xj_L_fits_12 ?_
  refine lv_istore_n (lv' := [(1, .int ((xo_X dc) ||| (xf_bi (nI 12)))), (0, .ref x0)]) hx hb xj_L_fits_13 rfl hl (by decide) rfl (fun ls hl => ?_)
  refine lv_aload_n hx hb xj_L_fits_14 rfl (lv_at hl 1 rfl) ?_
  refine va_get (D := D) (ci := 5) (v := .ref r0) (C := xn_L) (T := xn_TL) (N := 5) hx hb hgs xw_uL hown hK.1 hP 0 rfl rfl 1 (by decide) (hgs _ xw_124) (fun _ h9 => h9) rfl xj_L_fits_15 ?_
  refine lv_aload_n hx hb xj_L_fits_18 rfl (lv_at hl 1 rfl) ?_
  refine va_get (D := D) (ci := 5) (v := .ref b0) (C := xn_L) (T := xn_TL) (N := 5) hx hb hgs xw_uL hown hK.1 hP 0 rfl rfl 0 (by decide) (hgs _ xw_123) (fun _ h9 => h9) rfl xj_L_fits_19 ?_
  refine lv_iload_n hx hb xj_L_fits_22 rfl (lv_at hl 0 rfl) ?_
  refine lv_iconst (v := nI 1) hx hb xj_L_fits_23 (by decide) ?_
  refine lv_iconst (v := nI 1) hx hb xj_L_fits_24 (by decide) ?_
  refine xc_wVNv (av := [.ref b0, .int ((xo_X dc) ||| (xf_bi (nI 12))), .int (nI 1), .int (nI 1)]) (rest := []) (wr := [(x0, .inr (5, [.ref b0, .ref r0, .ref c0, .ref d0, .ref s0]))]) hAt hT (xt_R_read l D cI cZ cJ r0 r1 r2 r3 G Bt C b0 b1 b2 gc dc P A0 ((xo_X dc) ||| (xf_bi (nI 12))) (nI 1) (nI 1) (by omega)) (List.mem_of_getElem? (i := 16) rfl) xw_3 xw_154 xw_153 xs_R_read (C0 := xn_R) (q0 := 0) rfl rfl (na := 4) rfl (by decide +kernel) ⟨Nat.le_of_ble_eq_true rfl, Nat.le_of_ble_eq_true rfl⟩ hP hD hS hA [4, 5, 6, 7, 1, 2, 3] [0] rfl rfl (by decide) (by decide) (by decide) hK hl.1 (Nat.le_of_ble_eq_true rfl) ⟨Nat.zero_le _, Nat.zero_le _⟩ xj_L_fits_25 (fun _ H locs _ hP hD hS => ?_)
  have hP : va_P D xn_cl [(x0, .inr (5, [.ref b0, .ref r0, .ref c0, .ref d0, .ref s0])), (b0, .inr (0, [.ref b1, .ref b2, .int (nI gc), .int (nI dc)])), (b1, .inl (cI, 78, .inl P)), (b2, .inl (cI, 78, .inl A0)), (r0, .inr (3, [.ref r1, .ref r2, .ref r3])), (r1, .inl (cI, 13, .inl (xf_fill (xk_rowG (xk_c gc P A0) ((xo_X dc) ||| (xf_bi (nI 12))) (nI 1).toInt64 (nI 1).toInt64) 13 0 G))), (r2, .inl (cI, 13, .inl (xf_fill (xk_rowB (xk_c gc P A0) ((xo_X dc) ||| (xf_bi (nI 12))) (nI 1).toInt64 (nI 1).toInt64) 13 0 Bt))), (r3, .inl (cI, 13, .inl C))] H := va_P.sub hP [0, 5, 6, 7, 1, 2, 3, 4] rfl
  have hD : va_D A [(x0, .inr (5, [.ref b0, .ref r0, .ref c0, .ref d0, .ref s0])), (b0, .inr (0, [.ref b1, .ref b2, .int (nI gc), .int (nI dc)])), (b1, .inl (cI, 78, .inl P)), (b2, .inl (cI, 78, .inl A0)), (r0, .inr (3, [.ref r1, .ref r2, .ref r3])), (r1, .inl (cI, 13, .inl (xf_fill (xk_rowG (xk_c gc P A0) ((xo_X dc) ||| (xf_bi (nI 12))) (nI 1).toInt64 (nI 1).toInt64) 13 0 G))), (r2, .inl (cI, 13, .inl (xf_fill (xk_rowB (xk_c gc P A0) ((xo_X dc) ||| (xf_bi (nI 12))) (nI 1).toInt64 (nI 1).toInt64) 13 0 Bt))), (r3, .inl (cI, 13, .inl C))] := va_D.sub hD [0, 5, 6, 7, 1, 2, 3, 4] (by decide) rfl
  have hP : va_P D xn_cl [(x0, .inr (5, [.ref b0, .ref r0, .ref c0, .ref d0, .ref s0])), (b0, .inr (0, [.ref b1, .ref b2, .int (nI gc), .int (nI dc)])), (b1, .inl (cI, 78, .inl P)), (b2, .inl (cI, 78, .inl A0)), (r0, .inr (3, [.ref r1, .ref r2, .ref r3])), (r1, .inl (cI, 13, .inl (xo_G gc P A0 (xo_X dc ||| xf_bi (nI 12)) (nI 1) (nI 1) G))), (r2, .inl (cI, 13, .inl (xo_B gc P A0 (xo_X dc ||| xf_bi (nI 12)) (nI 1) (nI 1) Bt))), (r3, .inl (cI, 13, .inl C))] H := hP
  have hD : va_D A [(x0, .inr (5, [.ref b0, .ref r0, .ref c0, .ref d0, .ref s0])), (b0, .inr (0, [.ref b1, .ref b2, .int (nI gc), .int (nI dc)])), (b1, .inl (cI, 78, .inl P)), (b2, .inl (cI, 78, .inl A0)), (r0, .inr (3, [.ref r1, .ref r2, .ref r3])), (r1, .inl (cI, 13, .inl (xo_G gc P A0 (xo_X dc ||| xf_bi (nI 12)) (nI 1) (nI 1) G))), (r2, .inl (cI, 13, .inl (xo_B gc P A0 (xo_X dc ||| xf_bi (nI 12)) (nI 1) (nI 1) Bt))), (r3, .inl (cI, 13, .inl C))] := hD
  refine lv_aload_n hx hb xj_L_fits_28 rfl (lv_at hl 1 rfl) ?_
  refine va_get (D := D) (ci := 5) (v := .ref r0) (C := xn_L) (T := xn_TL) (N := 5) hx hb hgs xw_uL hown hK.1 hP 0 rfl rfl 1 (by decide) (hgs _ xw_124) (fun _ h9 => h9) rfl xj_L_fits_29 ?_
  refine lv_iload_n hx hb xj_L_fits_32 rfl (lv_at hl 0 rfl) ?_
  refine xc_wVNi (av := [.int ((xo_X dc) ||| (xf_bi (nI 12)))]) (rest := []) (wr := [(x0, .inr (5, [.ref b0, .ref r0, .ref c0, .ref d0, .ref s0])), (b0, .inr (0, [.ref b1, .ref b2, .int (nI gc), .int (nI dc)])), (b1, .inl (cI, 78, .inl P)), (b2, .inl (cI, 78, .inl A0))]) hAt hT (xt_R_isSensibleWithin l D cI cZ cJ r0 r1 r2 r3 (xo_G gc P A0 (xo_X dc ||| xf_bi (nI 12)) (nI 1) (nI 1) G) (xo_B gc P A0 (xo_X dc ||| xf_bi (nI 12)) (nI 1) (nI 1) Bt) C ((xo_X dc) ||| (xf_bi (nI 12)))) (List.mem_of_getElem? (i := 20) rfl) xw_3 xw_170 xw_169 xs_R_isSensibleWithin (C0 := xn_R) (q0 := 0) rfl rfl (na := 1) rfl (by decide +kernel) ⟨Nat.le_of_ble_eq_true rfl, Nat.le_of_ble_eq_true rfl⟩ hP hD hS hA [4, 5, 6, 7] [0, 1, 2, 3] rfl rfl (by decide) (by decide) (by decide) hK hl.1 (Nat.le_of_ble_eq_true rfl) ⟨Nat.zero_le _, Nat.zero_le _⟩ xj_L_fits_33 (fun r33 _ H locs hr33 hP hD hS => ?_)
  subst hr33
  have hP : va_P D xn_cl [(x0, .inr (5, [.ref b0, .ref r0, .ref c0, .ref d0, .ref s0])), (b0, .inr (0, [.ref b1, .ref b2, .int (nI gc), .int (nI dc)])), (b1, .inl (cI, 78, .inl P)), (b2, .inl (cI, 78, .inl A0)), (r0, .inr (3, [.ref r1, .ref r2, .ref r3])), (r1, .inl (cI, 13, .inl (xo_G gc P A0 (xo_X dc ||| xf_bi (nI 12)) (nI 1) (nI 1) G))), (r2, .inl (cI, 13, .inl (xo_B gc P A0 (xo_X dc ||| xf_bi (nI 12)) (nI 1) (nI 1) Bt))), (r3, .inl (cI, 13, .inl (xk_link (xo_G gc P A0 (xo_X dc ||| xf_bi (nI 12)) (nI 1) (nI 1) G) ((xo_X dc) ||| (xf_bi (nI 12))) C)))] H := hP
  have hD : va_D A [(x0, .inr (5, [.ref b0, .ref r0, .ref c0, .ref d0, .ref s0])), (b0, .inr (0, [.ref b1, .ref b2, .int (nI gc), .int (nI dc)])), (b1, .inl (cI, 78, .inl P)), (b2, .inl (cI, 78, .inl A0)), (r0, .inr (3, [.ref r1, .ref r2, .ref r3])), (r1, .inl (cI, 13, .inl (xo_G gc P A0 (xo_X dc ||| xf_bi (nI 12)) (nI 1) (nI 1) G))), (r2, .inl (cI, 13, .inl (xo_B gc P A0 (xo_X dc ||| xf_bi (nI 12)) (nI 1) (nI 1) Bt))), (r3, .inl (cI, 13, .inl (xk_link (xo_G gc P A0 (xo_X dc ||| xf_bi (nI 12)) (nI 1) (nI 1) G) ((xo_X dc) ||| (xf_bi (nI 12))) C)))] := hD
  exact hret (xf_bI (!xk_bad (xk_link (xo_G gc P A0 (xo_X dc ||| xf_bi (nI 12)) (nI 1) (nI 1) G) ((xo_X dc) ||| (xf_bi (nI 12))) C) (xo_B gc P A0 (xo_X dc ||| xf_bi (nI 12)) (nI 1) (nI 1) Bt))) ((xo_G gc P A0 (xo_X dc ||| xf_bi (nI 12)) (nI 1) (nI 1) G, xo_B gc P A0 (xo_X dc ||| xf_bi (nI 12)) (nI 1) (nI 1) Bt, xk_link (xo_G gc P A0 (xo_X dc ||| xf_bi (nI 12)) (nI 1) (nI 1) G) (xo_X dc ||| xf_bi (nI 12)) C)) H locs _ ls rfl (xf_nar_b _) hP hD hS xj_L_fits_36
set_option maxRecDepth 100000 in
set_option maxHeartbeats 4000000 in
theorem xt_L_size (l : Launch) (D : va_G) (cI cZ cJ : ClassId) (x0 b0 r0 c0 d0 s0 : Nat) (b1 b2 gc dc : Nat) : xc_R l xy_L_size xb_L_size 1 .int 0 [.ref x0] D cI cZ cJ [(x0, .inr (5, [.ref b0, .ref r0, .ref c0, .ref d0, .ref s0])), (b0, .inr (0, [.ref b1, .ref b2, .int (nI gc), .int (nI dc)]))] (nI dc) := by
  refine xc_R_of (by decide) (Nat.le_of_ble_eq_true rfl) rfl ?_
  intro p e s m args below meth c Q ls hAt hP hK hl hret
  obtain ⟨hx, hb, hml, hown, hts, hgs, hlk⟩ := id hAt
  have hT : ∀ w ∈ xw_g, w ∈ xc_ws xy_L_size xb_L_size 1 (some .int) := fun w h => List.mem_cons_of_mem _ h
  have hown : s.vm.findClass "WishLedger" = some m.cls := hown
  have hl : lv_has ls 1 [(0, .ref x0)] := hl
  refine lv_aload_n hx hb xj_L_size_0 rfl (lv_at hl 0 rfl) ?_
  refine va_get (D := D) (ci := 5) (v := .ref b0) (C := xn_L) (T := xn_TL) (N := 5) hx hb hgs xw_uL hown hK.1 hP 0 rfl rfl 0 (by decide) (hgs _ xw_123) (fun _ h9 => h9) rfl xj_L_size_1 ?_
  refine va_getN (D := D) (ci := 0) (v := .int (nI dc)) (C := xn_B) (T := xn_TB) (N := 4) hx hb hgs xw_uB hown hK.1 hP 1 rfl rfl 3 (by decide) (va_Nw.use rfl (hK.2 _ (List.mem_of_getElem? (i := 3) rfl))) (fun _ h9 => h9) rfl xj_L_size_4 ?_
  exact xr_top rfl (hret _ _ xj_L_size_7)
set_option maxRecDepth 100000 in
set_option maxHeartbeats 4000000 in
theorem xt_L_order (l : Launch) (hl0 : l.stackTraces = false) (D : va_G) (cI cZ cJ : ClassId) (sa : Nat → Nat) (x0 b0 r0 c0 d0 s0 : Nat) (b1 b2 gc dc : Nat) (P A0 : Nat → Int32) (r1 r2 r3 : Nat) (G Bt C : Nat → Int32) (d : Int32) (hg : gc ≤ 6) (hd : dc ≤ 12) : xc_Xi l xy_L_order xb_L_order 4 .int 7 1 6 [.ref x0, .int d] D cI cZ cJ sa [(x0, .inr (5, [.ref b0, .ref r0, .ref c0, .ref d0, .ref s0])), (b0, .inr (0, [.ref b1, .ref b2, .int (nI gc), .int (nI dc)])), (b1, .inl (cI, 78, .inl P)), (b2, .inl (cI, 78, .inl A0)), (r0, .inr (3, [.ref r1, .ref r2, .ref r3])), (r1, .inl (cI, 13, .inl G)), (r2, .inl (cI, 13, .inl Bt)), (r3, .inl (cI, 13, .inl C))] ((Nat → Int32) × (Nat → Int32) × (Nat → Int32)) (fun r _ => ∃ k, k < dc ∧ d = nI k ∧ r = xk_best (xk_link (xo_G gc P A0 (xo_X dc) (nI 1) (nI 1) G) (xo_X dc) C) (xo_lf (xk_link (xo_G gc P A0 (xo_X dc) (nI 1) (nI 1) G) (xo_X dc) C) k (xo_X dc))) (fun E _ => E = xn_EX ∧ xo_in d dc = false) (fun u => [(x0, .inr (5, [.ref b0, .ref r0, .ref c0, .ref d0, .ref s0])), (b0, .inr (0, [.ref b1, .ref b2, .int (nI gc), .int (nI dc)])), (b1, .inl (cI, 78, .inl P)), (b2, .inl (cI, 78, .inl A0)), (r0, .inr (3, [.ref r1, .ref r2, .ref r3])), (r1, .inl (cI, 13, .inl u.1)), (r2, .inl (cI, 13, .inl u.2.1)), (r3, .inl (cI, 13, .inl u.2.2))]) := by
  refine xc_Xi_of hl0 (by decide) (by decide) rfl (Nat.le_of_ble_eq_true rfl) ?_
  intro p e s m args below meth c Q ls A hAt hP hK hD hA hS hl hT0 hret hthr hpass
  obtain ⟨hx, hb, hml, hown, hts, hgs, hlk⟩ := id hAt
  have hT : ∀ w ∈ xw_g, w ∈ xc_ws xy_L_order xb_L_order 4 (some .int) := fun w h => List.mem_cons_of_mem _ h
  have hown : s.vm.findClass "WishLedger" = some m.cls := hown
  obtain ⟨H, hH0⟩ : ∃ H, H = s.heap := ⟨_, rfl⟩
  obtain ⟨locs, hL0⟩ : ∃ locs : List Loc, locs = [] := ⟨_, rfl⟩
  have hP : va_P D xn_cl [(x0, .inr (5, [.ref b0, .ref r0, .ref c0, .ref d0, .ref s0])), (b0, .inr (0, [.ref b1, .ref b2, .int (nI gc), .int (nI dc)])), (b1, .inl (cI, 78, .inl P)), (b2, .inl (cI, 78, .inl A0)), (r0, .inr (3, [.ref r1, .ref r2, .ref r3])), (r1, .inl (cI, 13, .inl G)), (r2, .inl (cI, 13, .inl Bt)), (r3, .inl (cI, 13, .inl C))] H := by rw [hH0]; exact hP
  have hS : va_S A s.heap H locs := by rw [hH0, hL0]; exact hS
  suffices hgo : W p l e (xc_rm 7 1 6) s m args below meth c H locs 0 0 Q (F0 m 0 ls []) by rw [hH0, hL0] at hgo; exact hgo
  clear hH0 hL0
  have hl : lv_has ls 4 [(0, .ref x0), (1, .int d)] := hl
  refine lv_iload_n hx hb xj_L_order_0 rfl (lv_at hl 1 rfl) ?_
  refine lv_if_lt (tgt := 15) hx hb xj_L_order_1 rfl (fun h1 => ?_) (fun h1 => ?_)
  · -- 15
    exact hthr xn_EX ((G, Bt, C)) H locs _ _ _ ls (⟨rfl, xo_in_1 h1⟩) hP hD hS hl.1 ⟨120, 162, 124, 11, _, xj_L_order_15, xj_L_order_18, xj_L_order_19, xj_L_order_21, xj_L_order_24, xw_295, xw_13, rfl, Or.inr (Or.inr ⟨rfl, rfl⟩)⟩ (Nat.le_of_ble_eq_true rfl) (Nat.le_of_ble_eq_true rfl)
  · -- 4
    refine lv_iload_n hx hb xj_L_order_4 rfl (lv_at hl 1 rfl) ?_
    refine lv_aload_n hx hb xj_L_order_5 rfl (lv_at hl 0 rfl) ?_
    refine va_get (D := D) (ci := 5) (v := .ref b0) (C := xn_L) (T := xn_TL) (N := 5) hx hb hgs xw_uL hown hK.1 hP 0 rfl rfl 0 (by decide) (hgs _ xw_123) (fun _ h9 => h9) rfl xj_L_order_6 ?_
    refine va_getN (D := D) (ci := 0) (v := .int (nI dc)) (C := xn_B) (T := xn_TB) (N := 4) hx hb hgs xw_uB hown hK.1 hP 1 rfl rfl 3 (by decide) (va_Nw.use rfl (hK.2 _ (List.mem_of_getElem? (i := 3) rfl))) (fun _ h9 => h9) rfl xj_L_order_9 ?_
    refine lv_icmp_lt (tgt := 25) hx hb xj_L_order_12 rfl (fun h12 => ?_) (fun h12 => ?_)
    · -- 25
      have hio := xo_in_t h1 h12
      obtain ⟨kd, hkd, rfl⟩ := xo_in_k (by omega) (id hio)
      refine lv_aload_n hx hb xj_L_order_25 rfl (lv_at hl 0 rfl) ?_
      refine va_get (D := D) (ci := 5) (v := .ref b0) (C := xn_L) (T := xn_TL) (N := 5) hx hb hgs xw_uL hown hK.1 hP 0 rfl rfl 0 (by decide) (hgs _ xw_123) (fun _ h9 => h9) rfl xj_L_order_26 ?_
      refine xc_callVN (av := []) (rest := []) hAt hT (xt_B_everyDay l D cI cZ cJ b0 b1 b2 gc dc P A0) (List.mem_of_getElem? (i := 14) rfl) xw_2 xw_146 xw_145 xs_B_everyDay (C0 := xn_B) (q0 := 0) rfl rfl (na := 0) rfl (by decide +kernel) ⟨Nat.le_of_ble_eq_true rfl, Nat.le_of_ble_eq_true rfl⟩ (hP.sub (ws' := [(b0, .inr (0, [.ref b1, .ref b2, .int (nI gc), .int (nI dc)])), (b1, .inl (cI, 78, .inl P)), (b2, .inl (cI, 78, .inl A0))]) [1, 2, 3] rfl) hK hl.1 (Nat.le_of_ble_eq_true rfl) ⟨Nat.le_of_ble_eq_true rfl, Nat.le_of_ble_eq_true rfl⟩ xj_L_order_29 ?_
      refine xr_top (y := xo_X dc) rfl ?_
      refine lv_istore_n (lv' := [(2, .int (xo_X dc)), (0, .ref x0), (1, .int (nI kd))]) hx hb xj_L_order_32 rfl hl (by decide) rfl (fun ls hl => ?_)
      refine lv_aload_n hx hb xj_L_order_33 rfl (lv_at hl 1 rfl) ?_
      refine xc_wVv (av := []) (rest := []) (wr := []) hAt hT (xt_L_readRecord l D cI cZ cJ x0 b0 r0 c0 d0 s0 b1 b2 gc dc P A0 r1 r2 r3 G Bt C (by omega)) xw_372 xw_1 xw_375 xw_374 xs_L_readRecord (C0 := xn_L) (q0 := 0) rfl rfl (na := 0) rfl (by decide +kernel) ⟨Nat.le_of_ble_eq_true rfl, Nat.le_of_ble_eq_true rfl⟩ hP hD hS hA [0, 1, 2, 3, 4, 5, 6, 7] [] rfl rfl (by decide) (by decide) (by decide) hK hl.1 (Nat.le_of_ble_eq_true rfl) ⟨Nat.le_of_ble_eq_true rfl, Nat.le_of_ble_eq_true rfl⟩ xj_L_order_34 (fun _ H locs _ hP hD hS => ?_)
      have hP : va_P D xn_cl [(x0, .inr (5, [.ref b0, .ref r0, .ref c0, .ref d0, .ref s0])), (b0, .inr (0, [.ref b1, .ref b2, .int (nI gc), .int (nI dc)])), (b1, .inl (cI, 78, .inl P)), (b2, .inl (cI, 78, .inl A0)), (r0, .inr (3, [.ref r1, .ref r2, .ref r3])), (r1, .inl (cI, 13, .inl (xo_G gc P A0 (xo_X dc) (nI 1) (nI 1) G))), (r2, .inl (cI, 13, .inl (xo_B gc P A0 (xo_X dc) (nI 1) (nI 1) Bt))), (r3, .inl (cI, 13, .inl C))] H := hP
      have hD : va_D A [(x0, .inr (5, [.ref b0, .ref r0, .ref c0, .ref d0, .ref s0])), (b0, .inr (0, [.ref b1, .ref b2, .int (nI gc), .int (nI dc)])), (b1, .inl (cI, 78, .inl P)), (b2, .inl (cI, 78, .inl A0)), (r0, .inr (3, [.ref r1, .ref r2, .ref r3])), (r1, .inl (cI, 13, .inl (xo_G gc P A0 (xo_X dc) (nI 1) (nI 1) G))), (r2, .inl (cI, 13, .inl (xo_B gc P A0 (xo_X dc) (nI 1) (nI 1) Bt))), (r3, .inl (cI, 13, .inl C))] := hD
      refine lv_aload_n hx hb xj_L_order_37 rfl (lv_at hl 1 rfl) ?_
      refine va_get (D := D) (ci := 5) (v := .ref r0) (C := xn_L) (T := xn_TL) (N := 5) hx hb hgs xw_uL hown hK.1 hP 0 rfl rfl 1 (by decide) (hgs _ xw_124) (fun _ h9 => h9) rfl xj_L_order_38 ?_
      refine lv_iload_n hx hb xj_L_order_41 rfl (lv_at hl 0 rfl) ?_
      refine xc_wVNv (av := [.int (xo_X dc)]) (rest := []) (wr := [(x0, .inr (5, [.ref b0, .ref r0, .ref c0, .ref d0, .ref s0])), (b0, .inr (0, [.ref b1, .ref b2, .int (nI gc), .int (nI dc)])), (b1, .inl (cI, 78, .inl P)), (b2, .inl (cI, 78, .inl A0))]) hAt hT (xt_R_linkWithin l D cI cZ cJ r0 r1 r2 r3 (xo_G gc P A0 (xo_X dc) (nI 1) (nI 1) G) (xo_B gc P A0 (xo_X dc) (nI 1) (nI 1) Bt) C (xo_X dc)) (List.mem_of_getElem? (i := 37) rfl) xw_3 xw_174 xw_173 xs_R_linkWithin (C0 := xn_R) (q0 := 0) rfl rfl (na := 1) rfl (by decide +kernel) ⟨Nat.le_of_ble_eq_true rfl, Nat.le_of_ble_eq_true rfl⟩ hP hD hS hA [4, 5, 6, 7] [0, 1, 2, 3] rfl rfl (by decide) (by decide) (by decide) hK hl.1 (Nat.le_of_ble_eq_true rfl) ⟨Nat.le_of_ble_eq_true rfl, Nat.le_of_ble_eq_true rfl⟩ xj_L_order_42 (fun _ H locs _ hP hD hS => ?_)
      have hP : va_P D xn_cl [(x0, .inr (5, [.ref b0, .ref r0, .ref c0, .ref d0, .ref s0])), (b0, .inr (0, [.ref b1, .ref b2, .int (nI gc), .int (nI dc)])), (b1, .inl (cI, 78, .inl P)), (b2, .inl (cI, 78, .inl A0)), (r0, .inr (3, [.ref r1, .ref r2, .ref r3])), (r1, .inl (cI, 13, .inl (xo_G gc P A0 (xo_X dc) (nI 1) (nI 1) G))), (r2, .inl (cI, 13, .inl (xo_B gc P A0 (xo_X dc) (nI 1) (nI 1) Bt))), (r3, .inl (cI, 13, .inl (xk_link (xo_G gc P A0 (xo_X dc) (nI 1) (nI 1) G) (xo_X dc) C)))] H := hP
      have hD : va_D A [(x0, .inr (5, [.ref b0, .ref r0, .ref c0, .ref d0, .ref s0])), (b0, .inr (0, [.ref b1, .ref b2, .int (nI gc), .int (nI dc)])), (b1, .inl (cI, 78, .inl P)), (b2, .inl (cI, 78, .inl A0)), (r0, .inr (3, [.ref r1, .ref r2, .ref r3])), (r1, .inl (cI, 13, .inl (xo_G gc P A0 (xo_X dc) (nI 1) (nI 1) G))), (r2, .inl (cI, 13, .inl (xo_B gc P A0 (xo_X dc) (nI 1) (nI 1) Bt))), (r3, .inl (cI, 13, .inl (xk_link (xo_G gc P A0 (xo_X dc) (nI 1) (nI 1) G) (xo_X dc) C)))] := hD
      refine lv_iconst (v := nI 0) hx hb xj_L_order_45 (by decide) ?_
      refine lv_istore_n (lv' := [(3, .int (nI 0)), (2, .int (xo_X dc)), (0, .ref x0), (1, .int (nI kd))]) hx hb xj_L_order_46 rfl hl (by decide) rfl (fun ls hl => ?_)
      have loop47 : ∀ (n : Nat) (i : Nat) (y : Int32) (ls : Array Slot) (H : Heap) (locs : List Loc), i + n = kd → (xo_lf (xk_link (xo_G gc P A0 (xo_X dc) (nI 1) (nI 1) G) (xo_X dc) C) n y = xo_lf (xk_link (xo_G gc P A0 (xo_X dc) (nI 1) (nI 1) G) (xo_X dc) C) kd (xo_X dc)) → lv_has ls 4 [(0, .ref x0), (1, .int (nI kd)), (2, .int y), (3, .int (nI i))] → va_P D xn_cl [(x0, .inr (5, [.ref b0, .ref r0, .ref c0, .ref d0, .ref s0])), (b0, .inr (0, [.ref b1, .ref b2, .int (nI gc), .int (nI dc)])), (b1, .inl (cI, 78, .inl P)), (b2, .inl (cI, 78, .inl A0)), (r0, .inr (3, [.ref r1, .ref r2, .ref r3])), (r1, .inl (cI, 13, .inl (xo_G gc P A0 (xo_X dc) (nI 1) (nI 1) G))), (r2, .inl (cI, 13, .inl (xo_B gc P A0 (xo_X dc) (nI 1) (nI 1) Bt))), (r3, .inl (cI, 13, .inl (xk_link (xo_G gc P A0 (xo_X dc) (nI 1) (nI 1) G) (xo_X dc) C)))] H → va_D A [(x0, .inr (5, [.ref b0, .ref r0, .ref c0, .ref d0, .ref s0])), (b0, .inr (0, [.ref b1, .ref b2, .int (nI gc), .int (nI dc)])), (b1, .inl (cI, 78, .inl P)), (b2, .inl (cI, 78, .inl A0)), (r0, .inr (3, [.ref r1, .ref r2, .ref r3])), (r1, .inl (cI, 13, .inl (xo_G gc P A0 (xo_X dc) (nI 1) (nI 1) G))), (r2, .inl (cI, 13, .inl (xo_B gc P A0 (xo_X dc) (nI 1) (nI 1) Bt))), (r3, .inl (cI, 13, .inl (xk_link (xo_G gc P A0 (xo_X dc) (nI 1) (nI 1) G) (xo_X dc) C)))] → va_S A s.heap H locs → W p l e (xc_rm 7 1 6) s m args below meth c H locs 0 0 Q (F0 m 47 ls []) := by
        intro n
        induction n with
        | zero =>
          intro i y ls H locs hi47 hr hl hP hD hS
          refine lv_iload_n hx hb xj_L_order_47 rfl (lv_at hl 3 rfl) ?_
          refine lv_iload_n hx hb xj_L_order_48 rfl (lv_at hl 1 rfl) ?_
          refine xr_ge (tgt := 74) hx hb (by omega) (by omega) xj_L_order_49 rfl (fun h49 => ?_) (fun h49 => absurd h49 (by omega))
          refine lv_aload_n hx hb xj_L_order_74 rfl (lv_at hl 0 rfl) ?_
          refine va_get (D := D) (ci := 5) (v := .ref r0) (C := xn_L) (T := xn_TL) (N := 5) hx hb hgs xw_uL hown hK.1 hP 0 rfl rfl 1 (by decide) (hgs _ xw_124) (fun _ h9 => h9) rfl xj_L_order_75 ?_
          refine lv_iload_n hx hb xj_L_order_78 rfl (lv_at hl 2 rfl) ?_
          refine xc_callVN (av := [.int y]) (rest := []) hAt hT (xt_R_bestOf l D cI cZ cJ r0 r1 r2 r3 (xo_G gc P A0 (xo_X dc) (nI 1) (nI 1) G) (xo_B gc P A0 (xo_X dc) (nI 1) (nI 1) Bt) (xk_link (xo_G gc P A0 (xo_X dc) (nI 1) (nI 1) G) (xo_X dc) C) y) (List.mem_of_getElem? (i := 38) rfl) xw_3 xw_515 xw_514 xs_R_bestOf (C0 := xn_R) (q0 := 0) rfl rfl (na := 1) rfl (by decide +kernel) ⟨Nat.le_of_ble_eq_true rfl, Nat.le_of_ble_eq_true rfl⟩ (hP.sub (ws' := [(r0, .inr (3, [.ref r1, .ref r2, .ref r3])), (r1, .inl (cI, 13, .inl (xo_G gc P A0 (xo_X dc) (nI 1) (nI 1) G))), (r2, .inl (cI, 13, .inl (xo_B gc P A0 (xo_X dc) (nI 1) (nI 1) Bt))), (r3, .inl (cI, 13, .inl (xk_link (xo_G gc P A0 (xo_X dc) (nI 1) (nI 1) G) (xo_X dc) C)))]) [4, 5, 6, 7] rfl) hK hl.1 (Nat.le_of_ble_eq_true rfl) ⟨Nat.le_of_ble_eq_true rfl, Nat.le_of_ble_eq_true rfl⟩ xj_L_order_79 ?_
          exact hret (xk_best (xk_link (xo_G gc P A0 (xo_X dc) (nI 1) (nI 1) G) (xo_X dc) C) y) ((xo_G gc P A0 (xo_X dc) (nI 1) (nI 1) G, xo_B gc P A0 (xo_X dc) (nI 1) (nI 1) Bt, (xk_link (xo_G gc P A0 (xo_X dc) (nI 1) (nI 1) G) (xo_X dc) C))) H locs _ _ _ ls (⟨kd, hkd, rfl, by rw [show y = _ from hr]⟩) rfl hP hD hS (Nat.le_of_ble_eq_true rfl) (Nat.le_of_ble_eq_true rfl) xj_L_order_82
        | succ n ih47 =>
          intro i y ls H locs hi47 hr hl hP hD hS
          refine lv_iload_n hx hb xj_L_order_47 rfl (lv_at hl 3 rfl) ?_
          refine lv_iload_n hx hb xj_L_order_48 rfl (lv_at hl 1 rfl) ?_
          refine xr_ge (tgt := 74) hx hb (by omega) (by omega) xj_L_order_49 rfl (fun h49 => absurd h49 (by omega)) (fun h49 => ?_)
          refine lv_iload_n hx hb xj_L_order_52 rfl (lv_at hl 2 rfl) ?_
          refine lv_aload_n hx hb xj_L_order_53 rfl (lv_at hl 0 rfl) ?_
          refine va_get (D := D) (ci := 5) (v := .ref r0) (C := xn_L) (T := xn_TL) (N := 5) hx hb hgs xw_uL hown hK.1 hP 0 rfl rfl 1 (by decide) (hgs _ xw_124) (fun _ h9 => h9) rfl xj_L_order_54 ?_
          refine lv_iload_n hx hb xj_L_order_57 rfl (lv_at hl 2 rfl) ?_
          refine xc_callVN (av := [.int y]) (rest := [.int y]) hAt hT (xt_R_bestOf l D cI cZ cJ r0 r1 r2 r3 (xo_G gc P A0 (xo_X dc) (nI 1) (nI 1) G) (xo_B gc P A0 (xo_X dc) (nI 1) (nI 1) Bt) (xk_link (xo_G gc P A0 (xo_X dc) (nI 1) (nI 1) G) (xo_X dc) C) y) (List.mem_of_getElem? (i := 38) rfl) xw_3 xw_515 xw_514 xs_R_bestOf (C0 := xn_R) (q0 := 0) rfl rfl (na := 1) rfl (by decide +kernel) ⟨Nat.le_of_ble_eq_true rfl, Nat.le_of_ble_eq_true rfl⟩ (hP.sub (ws' := [(r0, .inr (3, [.ref r1, .ref r2, .ref r3])), (r1, .inl (cI, 13, .inl (xo_G gc P A0 (xo_X dc) (nI 1) (nI 1) G))), (r2, .inl (cI, 13, .inl (xo_B gc P A0 (xo_X dc) (nI 1) (nI 1) Bt))), (r3, .inl (cI, 13, .inl (xk_link (xo_G gc P A0 (xo_X dc) (nI 1) (nI 1) G) (xo_X dc) C)))]) [4, 5, 6, 7] rfl) hK hl.1 (Nat.le_of_ble_eq_true rfl) ⟨Nat.le_of_ble_eq_true rfl, Nat.le_of_ble_eq_true rfl⟩ xj_L_order_58 ?_
          refine xc_callS (av := [.int (xk_best (xk_link (xo_G gc P A0 (xo_X dc) (nI 1) (nI 1) G) (xo_X dc) C) y)]) (rest := [.int y]) hAt hT (xt_L_bit l D cI cZ cJ (xk_best (xk_link (xo_G gc P A0 (xo_X dc) (nI 1) (nI 1) G) (xo_X dc) C) y)) xw_150 xw_1 xw_149 xw_148 (na := 1) rfl (by decide +kernel) ⟨Nat.le_of_ble_eq_true rfl, Nat.le_of_ble_eq_true rfl⟩ (hP.sub (ws' := []) [] rfl) hK hl.1 (Nat.le_of_ble_eq_true rfl) ⟨Nat.le_of_ble_eq_true rfl, Nat.le_of_ble_eq_true rfl⟩ xj_L_order_61 ?_
          refine lv_iconst (v := (-1)) hx hb xj_L_order_64 (by decide) ?_
          refine lv_ixor hx hb xj_L_order_65 ?_
          refine lv_iand hx hb xj_L_order_66 ?_
          refine lv_istore_n (lv' := [(2, .int (y &&& ((xf_bi (xk_best (xk_link (xo_G gc P A0 (xo_X dc) (nI 1) (nI 1) G) (xo_X dc) C) y)) ^^^ ((-1))))), (0, .ref x0), (1, .int (nI kd)), (3, .int (nI i))]) hx hb xj_L_order_67 rfl hl (by decide) rfl (fun ls hl => ?_)
          refine lv_iinc (k := 3) (v := nI (i + 1)) (lv' := [(3, .int (nI (i + 1))), (2, .int (y &&& ((xf_bi (xk_best (xk_link (xo_G gc P A0 (xo_X dc) (nI 1) (nI 1) G) (xo_X dc) C) y)) ^^^ ((-1))))), (0, .ref x0), (1, .int (nI kd))]) hx hb xj_L_order_68 hl rfl (xr_inc _) (by decide) rfl (fun ls hl => ?_)
          refine lv_goto (tgt := 47) hx hb xj_L_order_71 rfl ?_
          exact ih47 (i + 1) (y &&& ((xf_bi (xk_best (xk_link (xo_G gc P A0 (xo_X dc) (nI 1) (nI 1) G) (xo_X dc) C) y)) ^^^ ((-1)))) ls _ _ (by omega) hr (lv_sub hl [2, 3, 1, 0] rfl) hP hD hS
      exact loop47 kd 0 (xo_X dc) ls _ _ (by omega) rfl (lv_sub hl [2, 3, 1, 0] rfl) hP hD hS
    · -- 15
      exact hthr xn_EX ((G, Bt, C)) H locs _ _ _ ls (⟨rfl, xo_in_2 h12⟩) hP hD hS hl.1 ⟨120, 162, 124, 11, _, xj_L_order_15, xj_L_order_18, xj_L_order_19, xj_L_order_21, xj_L_order_24, xw_295, xw_13, rfl, Or.inr (Or.inr ⟨rfl, rfl⟩)⟩ (Nat.le_of_ble_eq_true rfl) (Nat.le_of_ble_eq_true rfl)
