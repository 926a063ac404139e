/-! walks: Book, Relation (reading) -/
set_option maxRecDepth 100000 in
set_option maxHeartbeats 4000000 in
theorem xt_B_clearRow (l : Launch) (D : va_G) (cI cZ cJ : ClassId) (b0 b1 b2 gc dc : Nat) (P A0 : Nat → Int32) (r0 : Nat) (hr : r0 < 13) : xc_Wv l xy_B_clearRow xb_B_clearRow 3 0 0 0 [.ref b0, .int (nI r0)] D cI cZ cJ [(b0, .inr (0, [.ref b1, .ref b2, .int (nI gc), .int (nI dc)])), (b1, .inl (cI, 78, .inl P)), (b2, .inl (cI, 78, .inl A0))] (Unit) (fun _ => True) (fun _ => [(b0, .inr (0, [.ref b1, .ref b2, .int (nI gc), .int (nI dc)])), (b1, .inl (cI, 78, .inl (xk_clr (nI 1) r0 6 0 P))), (b2, .inl (cI, 78, .inl (xk_clr (nI 0) r0 6 0 A0)))]) := by
  refine xc_Wv_of (by decide) (Nat.le_of_ble_eq_true rfl) ?_
  intro p e s m args below meth c Q ls A hAt hin hP hK hD hA hS hl hret
  obtain ⟨hx, hb, hml, hown, hts, hgs, hlk⟩ := id hAt
  have hT : ∀ w ∈ xw_g, w ∈ xc_ws xy_B_clearRow xb_B_clearRow 3 (none) := fun w h => List.mem_cons_of_mem _ h
  have hown : s.vm.findClass "WishLedger$Book" = some m.cls := hown
  obtain ⟨H, hH0⟩ : ∃ H, H = s.heap := ⟨_, rfl⟩
  obtain ⟨locs, hL0⟩ : ∃ locs : List Loc, locs = [] := ⟨_, rfl⟩
  have hP : va_P D xn_cl [(b0, .inr (0, [.ref b1, .ref b2, .int (nI gc), .int (nI dc)])), (b1, .inl (cI, 78, .inl P)), (b2, .inl (cI, 78, .inl A0))] H := by rw [hH0]; exact hP
  have hS : va_S A s.heap H locs := by rw [hH0, hL0]; exact hS
  suffices hgo : W p l e (xc_rm 0 0 0) s m args below meth c H locs 0 0 Q (F0 m 0 ls []) by rw [hH0, hL0] at hgo; exact hgo
  clear hH0 hL0
  have hl : lv_has ls 3 [(0, .ref b0), (1, .int (nI r0))] := hl
  refine lv_iconst (v := nI 0) hx hb xj_B_clearRow_0 (by decide) ?_
  refine lv_istore_n (lv' := [(2, .int (nI 0)), (0, .ref b0), (1, .int (nI r0))]) hx hb xj_B_clearRow_1 rfl hl (by decide) rfl (fun ls hl => ?_)
  have loop2 : ∀ (n : Nat) (i : Nat) (P2 : Nat → Int32) (A2 : Nat → Int32) (ls : Array Slot) (H : Heap) (locs : List Loc), i + n = 6 → (xk_clr (nI 1) r0 n i P2 = xk_clr (nI 1) r0 6 0 P) → (xk_clr (nI 0) r0 n i A2 = xk_clr (nI 0) r0 6 0 A0) → lv_has ls 3 [(0, .ref b0), (1, .int (nI r0)), (2, .int (nI i))] → va_P D xn_cl [(b0, .inr (0, [.ref b1, .ref b2, .int (nI gc), .int (nI dc)])), (b1, .inl (cI, 78, .inl P2)), (b2, .inl (cI, 78, .inl A2))] H → va_D A [(b0, .inr (0, [.ref b1, .ref b2, .int (nI gc), .int (nI dc)])), (b1, .inl (cI, 78, .inl P2)), (b2, .inl (cI, 78, .inl A2))] → va_S A s.heap H locs → W p l e (xc_rm 0 0 0) s m args below meth c H locs 0 0 Q (F0 m 2 ls []) := by
    intro n
    induction n with
    | zero =>
      intro i P2 A2 ls H locs hi2 hp ha hl hP hD hS
      refine lv_iload_n hx hb xj_B_clearRow_2 rfl (lv_at hl 2 rfl) ?_
      refine lv_bipush (v := nI 6) hx hb xj_B_clearRow_3 (by decide) ?_
      refine xr_ge (tgt := 38) hx hb (by omega) (by omega) xj_B_clearRow_5 rfl (fun h5 => ?_) (fun h5 => absurd h5 (by omega))
      obtain rfl : P2 = _ := hp
      obtain rfl : A2 = _ := ha
      exact hret (()) H locs _ ls trivial hP hD hS xj_B_clearRow_38
    | succ n ih2 =>
      intro i P2 A2 ls H locs hi2 hp ha hl hP hD hS
      refine lv_iload_n hx hb xj_B_clearRow_2 rfl (lv_at hl 2 rfl) ?_
      refine lv_bipush (v := nI 6) hx hb xj_B_clearRow_3 (by decide) ?_
      refine xr_ge (tgt := 38) hx hb (by omega) (by omega) xj_B_clearRow_5 rfl (fun h5 => absurd h5 (by omega)) (fun h5 => ?_)
      refine lv_aload_n hx hb xj_B_clearRow_8 rfl (lv_at hl 0 rfl) ?_
      refine va_get (D := D) (ci := 0) (v := .ref b1) (C := xn_B) (T := xn_TB) (N := 4) hx hb hgs xw_uB hown hK.1 hP 0 rfl rfl 0 (by decide) (hgs _ xw_29) (fun _ h9 => h9) rfl xj_B_clearRow_9 ?_
      refine lv_iload_n hx hb xj_B_clearRow_12 rfl (lv_at hl 1 rfl) ?_
      refine lv_bipush (v := nI 6) hx hb xj_B_clearRow_13 (by decide) ?_
      refine xr_imul hx hb xj_B_clearRow_15 ?_
      refine lv_iload_n hx hb xj_B_clearRow_16 rfl (lv_at hl 2 rfl) ?_
      refine xr_iadd hx hb xj_B_clearRow_17 ?_
      refine lv_iconst (v := nI 1) hx hb xj_B_clearRow_18 (by decide) ?_
      refine xr_iast hx hb hK.1 hP hD hS 1 0 rfl rfl (by omega) (by decide) xj_B_clearRow_19 (fun H locs hP hD hS => ?_)
      have hP : va_P D xn_cl [(b0, .inr (0, [.ref b1, .ref b2, .int (nI gc), .int (nI dc)])), (b1, .inl (cI, 78, .inl (upd P2 ((r0 * 6) + i) (nI 1)))), (b2, .inl (cI, 78, .inl A2))] H := hP
      have hD : va_D A [(b0, .inr (0, [.ref b1, .ref b2, .int (nI gc), .int (nI dc)])), (b1, .inl (cI, 78, .inl (upd P2 ((r0 * 6) + i) (nI 1)))), (b2, .inl (cI, 78, .inl A2))] := hD
      refine lv_aload_n hx hb xj_B_clearRow_20 rfl (lv_at hl 0 rfl) ?_
      refine va_get (D := D) (ci := 0) (v := .ref b2) (C := xn_B) (T := xn_TB) (N := 4) hx hb hgs xw_uB hown hK.1 hP 0 rfl rfl 1 (by decide) (hgs _ xw_30) (fun _ h9 => h9) rfl xj_B_clearRow_21 ?_
      refine lv_iload_n hx hb xj_B_clearRow_24 rfl (lv_at hl 1 rfl) ?_
      refine lv_bipush (v := nI 6) hx hb xj_B_clearRow_25 (by decide) ?_
      refine xr_imul hx hb xj_B_clearRow_27 ?_
      refine lv_iload_n hx hb xj_B_clearRow_28 rfl (lv_at hl 2 rfl) ?_
      refine xr_iadd hx hb xj_B_clearRow_29 ?_
      refine lv_iconst (v := nI 0) hx hb xj_B_clearRow_30 (by decide) ?_
      refine xr_iast hx hb hK.1 hP hD hS 2 0 rfl rfl (by omega) (by decide) xj_B_clearRow_31 (fun H locs hP hD hS => ?_)
      have hP : va_P D xn_cl [(b0, .inr (0, [.ref b1, .ref b2, .int (nI gc), .int (nI dc)])), (b1, .inl (cI, 78, .inl (upd P2 ((r0 * 6) + i) (nI 1)))), (b2, .inl (cI, 78, .inl (upd A2 ((r0 * 6) + i) (nI 0))))] H := hP
      have hD : va_D A [(b0, .inr (0, [.ref b1, .ref b2, .int (nI gc), .int (nI dc)])), (b1, .inl (cI, 78, .inl (upd P2 ((r0 * 6) + i) (nI 1)))), (b2, .inl (cI, 78, .inl (upd A2 ((r0 * 6) + i) (nI 0))))] := hD
      refine lv_iinc (k := 2) (v := nI (i + 1)) (lv' := [(2, .int (nI (i + 1))), (0, .ref b0), (1, .int (nI r0))]) hx hb xj_B_clearRow_32 hl rfl (xr_inc _) (by decide) rfl (fun ls hl => ?_)
      refine lv_goto (tgt := 2) hx hb xj_B_clearRow_35 rfl ?_
      exact ih2 (i + 1) (upd P2 ((r0 * 6) + i) (nI 1)) (upd A2 ((r0 * 6) + i) (nI 0)) ls _ _ (by omega) hp ha (lv_sub hl [1, 2, 0] rfl) hP hD hS
  exact loop2 6 0 P A0 ls _ _ (by omega) rfl rfl (lv_sub hl [1, 2, 0] rfl) hP hD hS
set_option maxRecDepth 100000 in
set_option maxHeartbeats 4000000 in
theorem xt_B_start (l : Launch) (D : va_G) (cI cZ cJ : ClassId) (b0 b1 b2 gc dc : Nat) (P A0 : Nat → Int32) (g0 : Nat) : xc_Wv l xy_B_start xb_B_start 2 1 0 0 [.ref b0, .int (nI g0)] D cI cZ cJ [(b0, .inr (0, [.ref b1, .ref b2, .int (nI gc), .int (nI dc)])), (b1, .inl (cI, 78, .inl P)), (b2, .inl (cI, 78, .inl A0))] (Unit) (fun _ => True) (fun _ => [(b0, .inr (0, [.ref b1, .ref b2, .int (nI g0), .int (nI 0)])), (b1, .inl (cI, 78, .inl (xk_clr (nI 1) 12 6 0 P))), (b2, .inl (cI, 78, .inl (xk_clr (nI 0) 12 6 0 A0)))]) := by
  refine xc_Wv_of (by decide) (Nat.le_of_ble_eq_true rfl) ?_
  intro p e s m args below meth c Q ls A hAt hin hP hK hD hA hS hl hret
  obtain ⟨hx, hb, hml, hown, hts, hgs, hlk⟩ := id hAt
  have hT : ∀ w ∈ xw_g, w ∈ xc_ws xy_B_start xb_B_start 2 (none) := fun w h => List.mem_cons_of_mem _ h
  have hown : s.vm.findClass "WishLedger$Book" = some m.cls := hown
  obtain ⟨H, hH0⟩ : ∃ H, H = s.heap := ⟨_, rfl⟩
  obtain ⟨locs, hL0⟩ : ∃ locs : List Loc, locs = [] := ⟨_, rfl⟩
  have hP : va_P D xn_cl [(b0, .inr (0, [.ref b1, .ref b2, .int (nI gc), .int (nI dc)])), (b1, .inl (cI, 78, .inl P)), (b2, .inl (cI, 78, .inl A0))] H := by rw [hH0]; exact hP
  have hS : va_S A s.heap H locs := by rw [hH0, hL0]; exact hS
  suffices hgo : W p l e (xc_rm 1 0 0) s m args below meth c H locs 0 0 Q (F0 m 0 ls []) by rw [hH0, hL0] at hgo; exact hgo
  clear hH0 hL0
  have hl : lv_has ls 2 [(0, .ref b0), (1, .int (nI g0))] := hl
  refine lv_aload_n hx hb xj_B_start_0 rfl (lv_at hl 0 rfl) ?_
  refine lv_iload_n hx hb xj_B_start_1 rfl (lv_at hl 1 rfl) ?_
  refine va_put (D := D) (ci := 0) (v := .int (nI g0)) (ty := .int) (C := xn_B) (T := xn_TB) (N := 4) hx hb hgs xw_uB xn_tB xn_oB xn_nB hown hK.1 hP hD hS 0 rfl rfl 2 (by decide) (hgs _ xw_31) (fun _ h9 => h9) rfl (by decide +kernel) rfl rfl (Nat.le_of_ble_eq_true rfl) xj_B_start_2 (fun H locs hP hD hS => ?_)
  have hP : va_P D xn_cl [(b0, .inr (0, [.ref b1, .ref b2, .int (nI g0), .int (nI dc)])), (b1, .inl (cI, 78, .inl P)), (b2, .inl (cI, 78, .inl A0))] H := hP
  have hD : va_D A [(b0, .inr (0, [.ref b1, .ref b2, .int (nI g0), .int (nI dc)])), (b1, .inl (cI, 78, .inl P)), (b2, .inl (cI, 78, .inl A0))] := hD
  refine lv_aload_n hx hb xj_B_start_5 rfl (lv_at hl 0 rfl) ?_
  refine lv_iconst (v := nI 0) hx hb xj_B_start_6 (by decide) ?_
  refine va_put (D := D) (ci := 0) (v := .int (nI 0)) (ty := .int) (C := xn_B) (T := xn_TB) (N := 4) hx hb hgs xw_uB xn_tB xn_oB xn_nB hown hK.1 hP hD hS 0 rfl rfl 3 (by decide) (hgs _ xw_33) (fun _ h9 => h9) rfl (by decide +kernel) rfl rfl (Nat.le_of_ble_eq_true rfl) xj_B_start_7 (fun H locs hP hD hS => ?_)
  have hP : va_P D xn_cl [(b0, .inr (0, [.ref b1, .ref b2, .int (nI g0), .int (nI 0)])), (b1, .inl (cI, 78, .inl P)), (b2, .inl (cI, 78, .inl A0))] H := hP
  have hD : va_D A [(b0, .inr (0, [.ref b1, .ref b2, .int (nI g0), .int (nI 0)])), (b1, .inl (cI, 78, .inl P)), (b2, .inl (cI, 78, .inl A0))] := hD
  refine lv_aload_n hx hb xj_B_start_10 rfl (lv_at hl 0 rfl) ?_
  refine lv_bipush (v := nI 12) hx hb xj_B_start_11 (by decide) ?_
  refine xc_wVv (av := [.int (nI 12)]) (rest := []) (wr := []) hAt hT (xt_B_clearRow l D cI cZ cJ b0 b1 b2 g0 0 P A0 12 (by omega)) xw_119 xw_2 xw_122 xw_121 xs_B_clearRow (C0 := xn_B) (q0 := 0) rfl rfl (na := 1) rfl (by decide +kernel) ⟨Nat.le_of_ble_eq_true rfl, Nat.le_of_ble_eq_true rfl⟩ hP hD hS hA [0, 1, 2] [] rfl rfl (by decide) (by decide) (by decide) hK hl.1 (Nat.le_of_ble_eq_true rfl) ⟨Nat.zero_le _, Nat.zero_le _⟩ xj_B_start_13 (fun _ H locs _ hP hD hS => ?_)
  have hP : va_P D xn_cl [(b0, .inr (0, [.ref b1, .ref b2, .int (nI g0), .int (nI 0)])), (b1, .inl (cI, 78, .inl (xk_clr (nI 1) 12 6 0 P))), (b2, .inl (cI, 78, .inl (xk_clr (nI 0) 12 6 0 A0)))] H := hP
  have hD : va_D A [(b0, .inr (0, [.ref b1, .ref b2, .int (nI g0), .int (nI 0)])), (b1, .inl (cI, 78, .inl (xk_clr (nI 1) 12 6 0 P))), (b2, .inl (cI, 78, .inl (xk_clr (nI 0) 12 6 0 A0)))] := hD
  exact hret (()) H locs _ ls trivial hP hD hS xj_B_start_16
set_option maxRecDepth 100000 in
set_option maxHeartbeats 4000000 in
theorem xt_B_addDay (l : Launch) (D : va_G) (cI cZ cJ : ClassId) (b0 b1 b2 gc dc : Nat) (P A0 : Nat → Int32) (hd : dc < 12) : xc_Wi l xy_B_addDay xb_B_addDay 2 .int 1 0 0 [.ref b0] D cI cZ cJ [(b0, .inr (0, [.ref b1, .ref b2, .int (nI gc), .int (nI dc)])), (b1, .inl (cI, 78, .inl P)), (b2, .inl (cI, 78, .inl A0))] (Unit) (fun r _ => r = nI dc) (fun _ => [(b0, .inr (0, [.ref b1, .ref b2, .int (nI gc), .int (nI (dc + 1))])), (b1, .inl (cI, 78, .inl (xk_clr (nI 1) dc 6 0 P))), (b2, .inl (cI, 78, .inl (xk_clr (nI 0) dc 6 0 A0)))]) := by
  refine xc_Wi_of (by decide) (Nat.le_of_ble_eq_true rfl) ?_
  intro p e s m args below meth c Q ls A hAt hP hK hD hA hS hl hret
  obtain ⟨hx, hb, hml, hown, hts, hgs, hlk⟩ := id hAt
  have hT : ∀ w ∈ xw_g, w ∈ xc_ws xy_B_addDay xb_B_addDay 2 (some .int) := fun w h => List.mem_cons_of_mem _ h
  have hown : s.vm.findClass "WishLedger$Book" = some m.cls := hown
  obtain ⟨H, hH0⟩ : ∃ H, H = s.heap := ⟨_, rfl⟩
  obtain ⟨locs, hL0⟩ : ∃ locs : List Loc, locs = [] := ⟨_, rfl⟩
  have hP : va_P D xn_cl [(b0, .inr (0, [.ref b1, .ref b2, .int (nI gc), .int (nI dc)])), (b1, .inl (cI, 78, .inl P)), (b2, .inl (cI, 78, .inl A0))] H := by rw [hH0]; exact hP
  have hS : va_S A s.heap H locs := by rw [hH0, hL0]; exact hS
  suffices hgo : W p l e (xc_rm 1 0 0) s m args below meth c H locs 0 0 Q (F0 m 0 ls []) by rw [hH0, hL0] at hgo; exact hgo
  clear hH0 hL0
  have hl : lv_has ls 2 [(0, .ref b0)] := hl
  refine lv_aload_n hx hb xj_B_addDay_0 rfl (lv_at hl 0 rfl) ?_
  refine va_get (D := D) (ci := 0) (v := .int (nI dc)) (C := xn_B) (T := xn_TB) (N := 4) hx hb hgs xw_uB hown hK.1 hP 0 rfl rfl 3 (by decide) (hgs _ xw_33) (fun _ h9 => h9) rfl xj_B_addDay_1 ?_
  refine lv_istore_n (lv' := [(1, .int (nI dc)), (0, .ref b0)]) hx hb xj_B_addDay_4 rfl hl (by decide) rfl (fun ls hl => ?_)
  refine lv_aload_n hx hb xj_B_addDay_5 rfl (lv_at hl 1 rfl) ?_
  refine lv_iload_n hx hb xj_B_addDay_6 rfl (lv_at hl 0 rfl) ?_
  refine xc_wVv (av := [.int (nI dc)]) (rest := []) (wr := []) hAt hT (xt_B_clearRow l D cI cZ cJ b0 b1 b2 gc dc P A0 dc (by omega)) xw_119 xw_2 xw_122 xw_121 xs_B_clearRow (C0 := xn_B) (q0 := 0) rfl rfl (na := 1) rfl (by decide +kernel) ⟨Nat.le_of_ble_eq_true rfl, Nat.le_of_ble_eq_true rfl⟩ hP hD hS hA [0, 1, 2] [] rfl rfl (by decide) (by decide) (by decide) hK hl.1 (Nat.le_of_ble_eq_true rfl) ⟨Nat.zero_le _, Nat.zero_le _⟩ xj_B_addDay_7 (fun _ H locs _ hP hD hS => ?_)
  have hP : va_P D xn_cl [(b0, .inr (0, [.ref b1, .ref b2, .int (nI gc), .int (nI dc)])), (b1, .inl (cI, 78, .inl (xk_clr (nI 1) dc 6 0 P))), (b2, .inl (cI, 78, .inl (xk_clr (nI 0) dc 6 0 A0)))] H := hP
  have hD : va_D A [(b0, .inr (0, [.ref b1, .ref b2, .int (nI gc), .int (nI dc)])), (b1, .inl (cI, 78, .inl (xk_clr (nI 1) dc 6 0 P))), (b2, .inl (cI, 78, .inl (xk_clr (nI 0) dc 6 0 A0)))] := hD
  refine lv_aload_n hx hb xj_B_addDay_10 rfl (lv_at hl 1 rfl) ?_
  refine lv_dup hx hb xj_B_addDay_11 rfl ?_
  refine va_get (D := D) (ci := 0) (v := .int (nI dc)) (C := xn_B) (T := xn_TB) (N := 4) hx hb hgs xw_uB hown hK.1 hP 0 rfl rfl 3 (by decide) (hgs _ xw_33) (fun _ h9 => h9) rfl xj_B_addDay_12 ?_
  refine lv_iconst (v := nI 1) hx hb xj_B_addDay_15 (by decide) ?_
  refine xr_iadd hx hb xj_B_addDay_16 ?_
  refine va_put (D := D) (ci := 0) (v := .int (nI (dc + 1))) (ty := .int) (C := xn_B) (T := xn_TB) (N := 4) hx hb hgs xw_uB xn_tB xn_oB xn_nB hown hK.1 hP hD hS 0 rfl rfl 3 (by decide) (hgs _ xw_33) (fun _ h9 => h9) rfl (by decide +kernel) rfl rfl (Nat.le_of_ble_eq_true rfl) xj_B_addDay_17 (fun H locs hP hD hS => ?_)
  have hP : va_P D xn_cl [(b0, .inr (0, [.ref b1, .ref b2, .int (nI gc), .int (nI (dc + 1))])), (b1, .inl (cI, 78, .inl (xk_clr (nI 1) dc 6 0 P))), (b2, .inl (cI, 78, .inl (xk_clr (nI 0) dc 6 0 A0)))] H := hP
  have hD : va_D A [(b0, .inr (0, [.ref b1, .ref b2, .int (nI gc), .int (nI (dc + 1))])), (b1, .inl (cI, 78, .inl (xk_clr (nI 1) dc 6 0 P))), (b2, .inl (cI, 78, .inl (xk_clr (nI 0) dc 6 0 A0)))] := hD
  refine lv_iload_n hx hb xj_B_addDay_20 rfl (lv_at hl 0 rfl) ?_
  exact hret (nI dc) (()) H locs _ ls rfl rfl hP hD hS xj_B_addDay_21
set_option maxRecDepth 100000 in
set_option maxHeartbeats 4000000 in
theorem xt_B_takeAway (l : Launch) (D : va_G) (cI cZ cJ : ClassId) (b0 b1 b2 gc dc : Nat) (P A0 : Nat → Int32) (d0 : Nat) (hd : d0 < dc) (hd2 : dc ≤ 12) : xc_Wv l xy_B_takeAway xb_B_takeAway 3 0 0 0 [.ref b0, .int (nI d0)] D cI cZ cJ [(b0, .inr (0, [.ref b1, .ref b2, .int (nI gc), .int (nI dc)])), (b1, .inl (cI, 78, .inl P)), (b2, .inl (cI, 78, .inl A0))] (Unit) (fun _ => True) (fun _ => [(b0, .inr (0, [.ref b1, .ref b2, .int (nI gc), .int (nI (dc - 1))])), (b1, .inl (cI, 78, .inl (xk_shf ((dc - 1) * 6 - d0 * 6) (d0 * 6) P))), (b2, .inl (cI, 78, .inl (xk_shf ((dc - 1) * 6 - d0 * 6) (d0 * 6) A0)))]) := by
  refine xc_Wv_of (by decide) (Nat.le_of_ble_eq_true rfl) ?_
  intro p e s m args below meth c Q ls A hAt hin hP hK hD hA hS hl hret
  obtain ⟨hx, hb, hml, hown, hts, hgs, hlk⟩ := id hAt
  have hT : ∀ w ∈ xw_g, w ∈ xc_ws xy_B_takeAway xb_B_takeAway 3 (none) := fun w h => List.mem_cons_of_mem _ h
  have hown : s.vm.findClass "WishLedger$Book" = some m.cls := hown
  obtain ⟨H, hH0⟩ : ∃ H, H = s.heap := ⟨_, rfl⟩
  obtain ⟨locs, hL0⟩ : ∃ locs : List Loc, locs = [] := ⟨_, rfl⟩
  have hP : va_P D xn_cl [(b0, .inr (0, [.ref b1, .ref b2, .int (nI gc), .int (nI dc)])), (b1, .inl (cI, 78, .inl P)), (b2, .inl (cI, 78, .inl A0))] H := by rw [hH0]; exact hP
  have hS : va_S A s.heap H locs := by rw [hH0, hL0]; exact hS
  suffices hgo : W p l e (xc_rm 0 0 0) s m args below meth c H locs 0 0 Q (F0 m 0 ls []) by rw [hH0, hL0] at hgo; exact hgo
  clear hH0 hL0
  have hl : lv_has ls 3 [(0, .ref b0), (1, .int (nI d0))] := hl
  refine lv_aload_n hx hb xj_B_takeAway_0 rfl (lv_at hl 0 rfl) ?_
  refine lv_dup hx hb xj_B_takeAway_1 rfl ?_
  refine va_get (D := D) (ci := 0) (v := .int (nI dc)) (C := xn_B) (T := xn_TB) (N := 4) hx hb hgs xw_uB hown hK.1 hP 0 rfl rfl 3 (by decide) (hgs _ xw_33) (fun _ h9 => h9) rfl xj_B_takeAway_2 ?_
  refine lv_iconst (v := nI 1) hx hb xj_B_takeAway_5 (by decide) ?_
  refine xr_isub hx hb (by omega) xj_B_takeAway_6 ?_
  refine va_put (D := D) (ci := 0) (v := .int (nI (dc - 1))) (ty := .int) (C := xn_B) (T := xn_TB) (N := 4) hx hb hgs xw_uB xn_tB xn_oB xn_nB hown hK.1 hP hD hS 0 rfl rfl 3 (by decide) (hgs _ xw_33) (fun _ h9 => h9) rfl (by decide +kernel) rfl rfl (Nat.le_of_ble_eq_true rfl) xj_B_takeAway_7 (fun H locs hP hD hS => ?_)
  have hP : va_P D xn_cl [(b0, .inr (0, [.ref b1, .ref b2, .int (nI gc), .int (nI (dc - 1))])), (b1, .inl (cI, 78, .inl P)), (b2, .inl (cI, 78, .inl A0))] H := hP
  have hD : va_D A [(b0, .inr (0, [.ref b1, .ref b2, .int (nI gc), .int (nI (dc - 1))])), (b1, .inl (cI, 78, .inl P)), (b2, .inl (cI, 78, .inl A0))] := hD
  refine lv_iload_n hx hb xj_B_takeAway_10 rfl (lv_at hl 1 rfl) ?_
  refine lv_bipush (v := nI 6) hx hb xj_B_takeAway_11 (by decide) ?_
  refine xr_imul hx hb xj_B_takeAway_13 ?_
  refine lv_istore_n (lv' := [(2, .int (nI (d0 * 6))), (0, .ref b0), (1, .int (nI d0))]) hx hb xj_B_takeAway_14 rfl hl (by decide) rfl (fun ls hl => ?_)
  have loop15 : ∀ (n : Nat) (i : Nat) (P2 : Nat → Int32) (A2 : Nat → Int32) (ls : Array Slot) (H : Heap) (locs : List Loc), i + n = (dc - 1) * 6 → (xk_shf n i P2 = xk_shf ((dc - 1) * 6 - d0 * 6) (d0 * 6) P) → (xk_shf n i A2 = xk_shf ((dc - 1) * 6 - d0 * 6) (d0 * 6) A0) → lv_has ls 3 [(0, .ref b0), (2, .int (nI i))] → va_P D xn_cl [(b0, .inr (0, [.ref b1, .ref b2, .int (nI gc), .int (nI (dc - 1))])), (b1, .inl (cI, 78, .inl P2)), (b2, .inl (cI, 78, .inl A2))] H → va_D A [(b0, .inr (0, [.ref b1, .ref b2, .int (nI gc), .int (nI (dc - 1))])), (b1, .inl (cI, 78, .inl P2)), (b2, .inl (cI, 78, .inl A2))] → va_S A s.heap H locs → W p l e (xc_rm 0 0 0) s m args below meth c H locs 0 0 Q (F0 m 15 ls []) := by
    intro n
    induction n with
    | zero =>
      intro i P2 A2 ls H locs hi15 hp ha hl hP hD hS
      refine lv_iload_n hx hb xj_B_takeAway_15 rfl (lv_at hl 1 rfl) ?_
      refine lv_aload_n hx hb xj_B_takeAway_16 rfl (lv_at hl 0 rfl) ?_
      refine va_get (D := D) (ci := 0) (v := .int (nI (dc - 1))) (C := xn_B) (T := xn_TB) (N := 4) hx hb hgs xw_uB hown hK.1 hP 0 rfl rfl 3 (by decide) (hgs _ xw_33) (fun _ h9 => h9) rfl xj_B_takeAway_17 ?_
      refine lv_bipush (v := nI 6) hx hb xj_B_takeAway_20 (by decide) ?_
      refine xr_imul hx hb xj_B_takeAway_22 ?_
      refine xr_ge (tgt := 62) hx hb (by omega) (by omega) xj_B_takeAway_23 rfl (fun h23 => ?_) (fun h23 => absurd h23 (by omega))
      obtain rfl : P2 = _ := hp
      obtain rfl : A2 = _ := ha
      exact hret (()) H locs _ ls trivial hP hD hS xj_B_takeAway_62
    | succ n ih15 =>
      intro i P2 A2 ls H locs hi15 hp ha hl hP hD hS
      refine lv_iload_n hx hb xj_B_takeAway_15 rfl (lv_at hl 1 rfl) ?_
      refine lv_aload_n hx hb xj_B_takeAway_16 rfl (lv_at hl 0 rfl) ?_
      refine va_get (D := D) (ci := 0) (v := .int (nI (dc - 1))) (C := xn_B) (T := xn_TB) (N := 4) hx hb hgs xw_uB hown hK.1 hP 0 rfl rfl 3 (by decide) (hgs _ xw_33) (fun _ h9 => h9) rfl xj_B_takeAway_17 ?_
      refine lv_bipush (v := nI 6) hx hb xj_B_takeAway_20 (by decide) ?_
      refine xr_imul hx hb xj_B_takeAway_22 ?_
      refine xr_ge (tgt := 62) hx hb (by omega) (by omega) xj_B_takeAway_23 rfl (fun h23 => absurd h23 (by omega)) (fun h23 => ?_)
      refine lv_aload_n hx hb xj_B_takeAway_26 rfl (lv_at hl 0 rfl) ?_
      refine va_get (D := D) (ci := 0) (v := .ref b1) (C := xn_B) (T := xn_TB) (N := 4) hx hb hgs xw_uB hown hK.1 hP 0 rfl rfl 0 (by decide) (hgs _ xw_29) (fun _ h9 => h9) rfl xj_B_takeAway_27 ?_
      refine lv_iload_n hx hb xj_B_takeAway_30 rfl (lv_at hl 1 rfl) ?_
      refine lv_aload_n hx hb xj_B_takeAway_31 rfl (lv_at hl 0 rfl) ?_
      refine va_get (D := D) (ci := 0) (v := .ref b1) (C := xn_B) (T := xn_TB) (N := 4) hx hb hgs xw_uB hown hK.1 hP 0 rfl rfl 0 (by decide) (hgs _ xw_29) (fun _ h9 => h9) rfl xj_B_takeAway_32 ?_
      refine lv_iload_n hx hb xj_B_takeAway_35 rfl (lv_at hl 1 rfl) ?_
      refine lv_bipush (v := nI 6) hx hb xj_B_takeAway_36 (by decide) ?_
      refine xr_iadd hx hb xj_B_takeAway_38 ?_
      refine xr_iald hx hb hK.1 hP 1 0 rfl rfl (by omega) (by decide) xj_B_takeAway_39 ?_
      refine xr_iast hx hb hK.1 hP hD hS 1 0 rfl rfl (by omega) (by decide) xj_B_takeAway_40 (fun H locs hP hD hS => ?_)
      have hP : va_P D xn_cl [(b0, .inr (0, [.ref b1, .ref b2, .int (nI gc), .int (nI (dc - 1))])), (b1, .inl (cI, 78, .inl (upd P2 i (P2 (i + 6))))), (b2, .inl (cI, 78, .inl A2))] H := hP
      have hD : va_D A [(b0, .inr (0, [.ref b1, .ref b2, .int (nI gc), .int (nI (dc - 1))])), (b1, .inl (cI, 78, .inl (upd P2 i (P2 (i + 6))))), (b2, .inl (cI, 78, .inl A2))] := hD
      refine lv_aload_n hx hb xj_B_takeAway_41 rfl (lv_at hl 0 rfl) ?_
      refine va_get (D := D) (ci := 0) (v := .ref b2) (C := xn_B) (T := xn_TB) (N := 4) hx hb hgs xw_uB hown hK.1 hP 0 rfl rfl 1 (by decide) (hgs _ xw_30) (fun _ h9 => h9) rfl xj_B_takeAway_42 ?_
      refine lv_iload_n hx hb xj_B_takeAway_45 rfl (lv_at hl 1 rfl) ?_
      refine lv_aload_n hx hb xj_B_takeAway_46 rfl (lv_at hl 0 rfl) ?_
      refine va_get (D := D) (ci := 0) (v := .ref b2) (C := xn_B) (T := xn_TB) (N := 4) hx hb hgs xw_uB hown hK.1 hP 0 rfl rfl 1 (by decide) (hgs _ xw_30) (fun _ h9 => h9) rfl xj_B_takeAway_47 ?_
      refine lv_iload_n hx hb xj_B_takeAway_50 rfl (lv_at hl 1 rfl) ?_
      refine lv_bipush (v := nI 6) hx hb xj_B_takeAway_51 (by decide) ?_
      refine xr_iadd hx hb xj_B_takeAway_53 ?_
      refine xr_iald hx hb hK.1 hP 2 0 rfl rfl (by omega) (by decide) xj_B_takeAway_54 ?_
      refine xr_iast hx hb hK.1 hP hD hS 2 0 rfl rfl (by omega) (by decide) xj_B_takeAway_55 (fun H locs hP hD hS => ?_)
      have hP : va_P D xn_cl [(b0, .inr (0, [.ref b1, .ref b2, .int (nI gc), .int (nI (dc - 1))])), (b1, .inl (cI, 78, .inl (upd P2 i (P2 (i + 6))))), (b2, .inl (cI, 78, .inl (upd A2 i (A2 (i + 6)))))] H := hP
      have hD : va_D A [(b0, .inr (0, [.ref b1, .ref b2, .int (nI gc), .int (nI (dc - 1))])), (b1, .inl (cI, 78, .inl (upd P2 i (P2 (i + 6))))), (b2, .inl (cI, 78, .inl (upd A2 i (A2 (i + 6)))))] := hD
      refine lv_iinc (k := 1) (v := nI (i + 1)) (lv' := [(2, .int (nI (i + 1))), (0, .ref b0)]) hx hb xj_B_takeAway_56 hl rfl (xr_inc _) (by decide) rfl (fun ls hl => ?_)
      refine lv_goto (tgt := 15) hx hb xj_B_takeAway_59 rfl ?_
      exact ih15 (i + 1) (upd P2 i (P2 (i + 6))) (upd A2 i (A2 (i + 6))) ls _ _ (by omega) hp ha (lv_sub hl [1, 0] rfl) hP hD hS
  exact loop15 ((dc - 1) * 6 - d0 * 6) (d0 * 6) P A0 ls _ _ (by omega) rfl rfl (lv_sub hl [1, 0] rfl) hP hD hS
set_option maxRecDepth 100000 in
set_option maxHeartbeats 4000000 in
theorem xt_B_setPrice (l : Launch) (D : va_G) (cI cZ cJ : ClassId) (b0 b1 b2 gc dc : Nat) (P A0 : Nat → Int32) (r0 g0 : Nat) (v : Int32) (hr : r0 < 13) (hg : g0 < 6) : xc_Wi l xy_B_setPrice xb_B_setPrice 5 .int 0 0 0 [.ref b0, .int (nI r0), .int (nI g0), .int v] D cI cZ cJ [(b0, .inr (0, [.ref b1, .ref b2, .int (nI gc), .int (nI dc)])), (b1, .inl (cI, 78, .inl P)), (b2, .inl (cI, 78, .inl A0))] (Unit) (fun r _ => r = P (r0 * 6 + g0)) (fun _ => [(b0, .inr (0, [.ref b1, .ref b2, .int (nI gc), .int (nI dc)])), (b1, .inl (cI, 78, .inl (upd P (r0 * 6 + g0) v))), (b2, .inl (cI, 78, .inl A0))]) := by
  refine xc_Wi_of (by decide) (Nat.le_of_ble_eq_true rfl) ?_
  intro p e s m args below meth c Q ls A hAt hP hK hD hA hS hl hret
  obtain ⟨hx, hb, hml, hown, hts, hgs, hlk⟩ := id hAt
  have hT : ∀ w ∈ xw_g, w ∈ xc_ws xy_B_setPrice xb_B_setPrice 5 (some .int) := fun w h => List.mem_cons_of_mem _ h
  have hown : s.vm.findClass "WishLedger$Book" = some m.cls := hown
  obtain ⟨H, hH0⟩ : ∃ H, H = s.heap := ⟨_, rfl⟩
  obtain ⟨locs, hL0⟩ : ∃ locs : List Loc, locs = [] := ⟨_, rfl⟩
  have hP : va_P D xn_cl [(b0, .inr (0, [.ref b1, .ref b2, .int (nI gc), .int (nI dc)])), (b1, .inl (cI, 78, .inl P)), (b2, .inl (cI, 78, .inl A0))] H := by rw [hH0]; exact hP
  have hS : va_S A s.heap H locs := by rw [hH0, hL0]; exact hS
  suffices hgo : W p l e (xc_rm 0 0 0) s m args below meth c H locs 0 0 Q (F0 m 0 ls []) by rw [hH0, hL0] at hgo; exact hgo
  clear hH0 hL0
  have hl : lv_has ls 5 [(0, .ref b0), (1, .int (nI r0)), (2, .int (nI g0)), (3, .int v)] := hl
  refine lv_aload_n hx hb xj_B_setPrice_0 rfl (lv_at hl 0 rfl) ?_
  refine va_get (D := D) (ci := 0) (v := .ref b1) (C := xn_B) (T := xn_TB) (N := 4) hx hb hgs xw_uB hown hK.1 hP 0 rfl rfl 0 (by decide) (hgs _ xw_29) (fun _ h9 => h9) rfl xj_B_setPrice_1 ?_
  refine lv_iload_n hx hb xj_B_setPrice_4 rfl (lv_at hl 1 rfl) ?_
  refine lv_bipush (v := nI 6) hx hb xj_B_setPrice_5 (by decide) ?_
  refine xr_imul hx hb xj_B_setPrice_7 ?_
  refine lv_iload_n hx hb xj_B_setPrice_8 rfl (lv_at hl 2 rfl) ?_
  refine xr_iadd hx hb xj_B_setPrice_9 ?_
  refine xr_iald hx hb hK.1 hP 1 0 rfl rfl (by omega) (by decide) xj_B_setPrice_10 ?_
  refine lv_istore (lv' := [(4, .int (P ((r0 * 6) + g0))), (0, .ref b0), (1, .int (nI r0)), (2, .int (nI g0)), (3, .int v)]) hx hb xj_B_setPrice_11 hl (by decide) rfl (fun ls hl => ?_)
  refine lv_aload_n hx hb xj_B_setPrice_13 rfl (lv_at hl 1 rfl) ?_
  refine va_get (D := D) (ci := 0) (v := .ref b1) (C := xn_B) (T := xn_TB) (N := 4) hx hb hgs xw_uB hown hK.1 hP 0 rfl rfl 0 (by decide) (hgs _ xw_29) (fun _ h9 => h9) rfl xj_B_setPrice_14 ?_
  refine lv_iload_n hx hb xj_B_setPrice_17 rfl (lv_at hl 2 rfl) ?_
  refine lv_bipush (v := nI 6) hx hb xj_B_setPrice_18 (by decide) ?_
  refine xr_imul hx hb xj_B_setPrice_20 ?_
  refine lv_iload_n hx hb xj_B_setPrice_21 rfl (lv_at hl 3 rfl) ?_
  refine xr_iadd hx hb xj_B_setPrice_22 ?_
  refine lv_iload_n hx hb xj_B_setPrice_23 rfl (lv_at hl 4 rfl) ?_
  refine xr_iast hx hb hK.1 hP hD hS 1 0 rfl rfl (by omega) (by decide) xj_B_setPrice_24 (fun H locs hP hD hS => ?_)
  have hP : va_P D xn_cl [(b0, .inr (0, [.ref b1, .ref b2, .int (nI gc), .int (nI dc)])), (b1, .inl (cI, 78, .inl (upd P ((r0 * 6) + g0) v))), (b2, .inl (cI, 78, .inl A0))] H := hP
  have hD : va_D A [(b0, .inr (0, [.ref b1, .ref b2, .int (nI gc), .int (nI dc)])), (b1, .inl (cI, 78, .inl (upd P ((r0 * 6) + g0) v))), (b2, .inl (cI, 78, .inl A0))] := hD
  refine lv_iload hx hb xj_B_setPrice_25 (lv_at hl 0 rfl) ?_
  exact hret (P ((r0 * 6) + g0)) (()) H locs _ ls rfl rfl hP hD hS xj_B_setPrice_27
set_option maxRecDepth 100000 in
set_option maxHeartbeats 4000000 in
theorem xt_B_setAmount (l : Launch) (D : va_G) (cI cZ cJ : ClassId) (b0 b1 b2 gc dc : Nat) (P A0 : Nat → Int32) (r0 g0 : Nat) (v : Int32) (hr : r0 < 13) (hg : g0 < 6) : xc_Wi l xy_B_setAmount xb_B_setAmount 5 .int 0 0 0 [.ref b0, .int (nI r0), .int (nI g0), .int v] D cI cZ cJ [(b0, .inr (0, [.ref b1, .ref b2, .int (nI gc), .int (nI dc)])), (b1, .inl (cI, 78, .inl P)), (b2, .inl (cI, 78, .inl A0))] (Unit) (fun r _ => r = A0 (r0 * 6 + g0)) (fun _ => [(b0, .inr (0, [.ref b1, .ref b2, .int (nI gc), .int (nI dc)])), (b1, .inl (cI, 78, .inl P)), (b2, .inl (cI, 78, .inl (upd A0 (r0 * 6 + g0) v)))]) := by
  refine xc_Wi_of (by decide) (Nat.le_of_ble_eq_true rfl) ?_
  intro p e s m args below meth c Q ls A hAt hP hK hD hA hS hl hret
  obtain ⟨hx, hb, hml, hown, hts, hgs, hlk⟩ := id hAt
  have hT : ∀ w ∈ xw_g, w ∈ xc_ws xy_B_setAmount xb_B_setAmount 5 (some .int) := fun w h => List.mem_cons_of_mem _ h
  have hown : s.vm.findClass "WishLedger$Book" = some m.cls := hown
  obtain ⟨H, hH0⟩ : ∃ H, H = s.heap := ⟨_, rfl⟩
  obtain ⟨locs, hL0⟩ : ∃ locs : List Loc, locs = [] := ⟨_, rfl⟩
  have hP : va_P D xn_cl [(b0, .inr (0, [.ref b1, .ref b2, .int (nI gc), .int (nI dc)])), (b1, .inl (cI, 78, .inl P)), (b2, .inl (cI, 78, .inl A0))] H := by rw [hH0]; exact hP
  have hS : va_S A s.heap H locs := by rw [hH0, hL0]; exact hS
  suffices hgo : W p l e (xc_rm 0 0 0) s m args below meth c H locs 0 0 Q (F0 m 0 ls []) by rw [hH0, hL0] at hgo; exact hgo
  clear hH0 hL0
  have hl : lv_has ls 5 [(0, .ref b0), (1, .int (nI r0)), (2, .int (nI g0)), (3, .int v)] := hl
  refine lv_aload_n hx hb xj_B_setAmount_0 rfl (lv_at hl 0 rfl) ?_
  refine va_get (D := D) (ci := 0) (v := .ref b2) (C := xn_B) (T := xn_TB) (N := 4) hx hb hgs xw_uB hown hK.1 hP 0 rfl rfl 1 (by decide) (hgs _ xw_30) (fun _ h9 => h9) rfl xj_B_setAmount_1 ?_
  refine lv_iload_n hx hb xj_B_setAmount_4 rfl (lv_at hl 1 rfl) ?_
  refine lv_bipush (v := nI 6) hx hb xj_B_setAmount_5 (by decide) ?_
  refine xr_imul hx hb xj_B_setAmount_7 ?_
  refine lv_iload_n hx hb xj_B_setAmount_8 rfl (lv_at hl 2 rfl) ?_
  refine xr_iadd hx hb xj_B_setAmount_9 ?_
  refine xr_iald hx hb hK.1 hP 2 0 rfl rfl (by omega) (by decide) xj_B_setAmount_10 ?_
  refine lv_istore (lv' := [(4, .int (A0 ((r0 * 6) + g0))), (0, .ref b0), (1, .int (nI r0)), (2, .int (nI g0)), (3, .int v)]) hx hb xj_B_setAmount_11 hl (by decide) rfl (fun ls hl => ?_)
  refine lv_aload_n hx hb xj_B_setAmount_13 rfl (lv_at hl 1 rfl) ?_
  refine va_get (D := D) (ci := 0) (v := .ref b2) (C := xn_B) (T := xn_TB) (N := 4) hx hb hgs xw_uB hown hK.1 hP 0 rfl rfl 1 (by decide) (hgs _ xw_30) (fun _ h9 => h9) rfl xj_B_setAmount_14 ?_
  refine lv_iload_n hx hb xj_B_setAmount_17 rfl (lv_at hl 2 rfl) ?_
  refine lv_bipush (v := nI 6) hx hb xj_B_setAmount_18 (by decide) ?_
  refine xr_imul hx hb xj_B_setAmount_20 ?_
  refine lv_iload_n hx hb xj_B_setAmount_21 rfl (lv_at hl 3 rfl) ?_
  refine xr_iadd hx hb xj_B_setAmount_22 ?_
  refine lv_iload_n hx hb xj_B_setAmount_23 rfl (lv_at hl 4 rfl) ?_
  refine xr_iast hx hb hK.1 hP hD hS 2 0 rfl rfl (by omega) (by decide) xj_B_setAmount_24 (fun H locs hP hD hS => ?_)
  have hP : va_P D xn_cl [(b0, .inr (0, [.ref b1, .ref b2, .int (nI gc), .int (nI dc)])), (b1, .inl (cI, 78, .inl P)), (b2, .inl (cI, 78, .inl (upd A0 ((r0 * 6) + g0) v)))] H := hP
  have hD : va_D A [(b0, .inr (0, [.ref b1, .ref b2, .int (nI gc), .int (nI dc)])), (b1, .inl (cI, 78, .inl P)), (b2, .inl (cI, 78, .inl (upd A0 ((r0 * 6) + g0) v)))] := hD
  refine lv_iload hx hb xj_B_setAmount_25 (lv_at hl 0 rfl) ?_
  exact hret (A0 ((r0 * 6) + g0)) (()) H locs _ ls rfl rfl hP hD hS xj_B_setAmount_27
set_option maxRecDepth 100000 in
set_option maxHeartbeats 4000000 in
theorem xt_R_oneStepFrom (l : Launch) (D : va_G) (cI cZ cJ : ClassId) (r0 r1 r2 r3 : Nat) (G Bt C : Nat → Int32) (x : Int32) : xc_R l xy_R_oneStepFrom xb_R_oneStepFrom 4 .int 2 [.ref r0, .int x] D cI cZ cJ [(r0, .inr (3, [.ref r1, .ref r2, .ref r3])), (r1, .inl (cI, 13, .inl G)), (r2, .inl (cI, 13, .inl Bt)), (r3, .inl (cI, 13, .inl C))] (xk_ost G x 13 0 (nI 0)) := by
  refine xc_R_of (by decide) (Nat.le_of_ble_eq_true rfl) rfl ?_
  intro p e s m args below meth c Q ls hAt hP hK hl hret
  obtain ⟨hx, hb, hml, hown, hts, hgs, hlk⟩ := id hAt
  have hT : ∀ w ∈ xw_g, w ∈ xc_ws xy_R_oneStepFrom xb_R_oneStepFrom 4 (some .int) := fun w h => List.mem_cons_of_mem _ h
  have hown : s.vm.findClass "WishLedger$Relation" = some m.cls := hown
  have hl : lv_has ls 4 [(0, .ref r0), (1, .int x)] := hl
  refine lv_iconst (v := nI 0) hx hb xj_R_oneStepFrom_0 (by decide) ?_
  refine lv_istore_n (lv' := [(2, .int (nI 0)), (0, .ref r0), (1, .int x)]) hx hb xj_R_oneStepFrom_1 rfl hl (by decide) rfl (fun ls hl => ?_)
  refine lv_iconst (v := nI 0) hx hb xj_R_oneStepFrom_2 (by decide) ?_
  refine lv_istore_n (lv' := [(3, .int (nI 0)), (2, .int (nI 0)), (0, .ref r0), (1, .int x)]) hx hb xj_R_oneStepFrom_3 rfl hl (by decide) rfl (fun ls hl => ?_)
  have loop4 : ∀ (n : Nat) (i : Nat) (y : Int32) (ls : Array Slot), i + n = 13 → (xk_ost G x n i y = xk_ost G x 13 0 (nI 0)) → lv_has ls 4 [(0, .ref r0), (1, .int x), (2, .int y), (3, .int (nI i))] → W p l e (xc_rm 2 0 0) s m args below meth c s.heap [] 0 0 Q (F0 m 4 ls []) := by
    intro n
    induction n with
    | zero =>
      intro i y ls hi4 hr hl
      refine lv_iload_n hx hb xj_R_oneStepFrom_4 rfl (lv_at hl 3 rfl) ?_
      refine lv_bipush (v := nI 13) hx hb xj_R_oneStepFrom_5 (by decide) ?_
      refine xr_ge (tgt := 37) hx hb (by omega) (by omega) xj_R_oneStepFrom_7 rfl (fun h7 => ?_) (fun h7 => absurd h7 (by omega))
      refine lv_iload_n hx hb xj_R_oneStepFrom_37 rfl (lv_at hl 2 rfl) ?_
      exact xr_top hr (hret _ _ xj_R_oneStepFrom_38)
    | succ n ih4 =>
      intro i y ls hi4 hr hl
      refine lv_iload_n hx hb xj_R_oneStepFrom_4 rfl (lv_at hl 3 rfl) ?_
      refine lv_bipush (v := nI 13) hx hb xj_R_oneStepFrom_5 (by decide) ?_
      refine xr_ge (tgt := 37) hx hb (by omega) (by omega) xj_R_oneStepFrom_7 rfl (fun h7 => absurd h7 (by omega)) (fun h7 => ?_)
      refine lv_iload_n hx hb xj_R_oneStepFrom_10 rfl (lv_at hl 2 rfl) ?_
      refine lv_iload_n hx hb xj_R_oneStepFrom_11 rfl (lv_at hl 1 rfl) ?_
      refine lv_iload_n hx hb xj_R_oneStepFrom_12 rfl (lv_at hl 3 rfl) ?_
      refine xc_callSN (av := [.int x, .int (nI i)]) (rest := [.int y]) hAt hT (xt_L_has l D cI cZ cJ x (nI i)) (List.mem_of_getElem? (i := 17) rfl) xw_1 xw_157 xw_156 (na := 2) rfl (by decide +kernel) ⟨Nat.le_of_ble_eq_true rfl, Nat.le_of_ble_eq_true rfl⟩ (hP.sub (ws' := []) [] rfl) hK hl.1 (Nat.le_of_ble_eq_true rfl) ⟨Nat.zero_le _, Nat.zero_le _⟩ xj_R_oneStepFrom_13 ?_
      refine xr_ifeq (tgt := 28) hx hb xj_R_oneStepFrom_16 rfl (fun h16 => ?_) (fun h16 => ?_)
      · -- 28
        refine lv_iconst (v := nI 0) hx hb xj_R_oneStepFrom_28 (by decide) ?_
        refine lv_ior hx hb xj_R_oneStepFrom_29 ?_
        refine lv_istore_n (lv' := [(2, .int (y ||| (nI 0))), (0, .ref r0), (1, .int x), (3, .int (nI i))]) hx hb xj_R_oneStepFrom_30 rfl hl (by decide) rfl (fun ls hl => ?_)
        refine lv_iinc (k := 3) (v := nI (i + 1)) (lv' := [(3, .int (nI (i + 1))), (2, .int (y ||| (nI 0))), (0, .ref r0), (1, .int x)]) hx hb xj_R_oneStepFrom_31 hl rfl (xr_inc _) (by decide) rfl (fun ls hl => ?_)
        refine lv_goto (tgt := 4) hx hb xj_R_oneStepFrom_34 rfl ?_
        exact ih4 (i + 1) (y ||| (nI 0)) ls (by omega) ((xk_ost_0 h16).symm.trans hr) (lv_sub hl [2, 3, 1, 0] rfl)
      · -- 19
        refine lv_aload_n hx hb xj_R_oneStepFrom_19 rfl (lv_at hl 0 rfl) ?_
        refine va_get (D := D) (ci := 3) (v := .ref r1) (C := xn_R) (T := xn_TR) (N := 3) hx hb hgs xw_uR hown hK.1 hP 0 rfl rfl 0 (by decide) (hgs _ xw_52) (fun _ h9 => h9) rfl xj_R_oneStepFrom_20 ?_
        refine lv_iload_n hx hb xj_R_oneStepFrom_23 rfl (lv_at hl 3 rfl) ?_
        refine xr_iald hx hb hK.1 hP 1 0 rfl rfl (by omega) (by decide) xj_R_oneStepFrom_24 ?_
        refine lv_goto (tgt := 29) hx hb xj_R_oneStepFrom_25 rfl ?_
        refine lv_ior hx hb xj_R_oneStepFrom_29 ?_
        refine lv_istore_n (lv' := [(2, .int (y ||| (G i))), (0, .ref r0), (1, .int x), (3, .int (nI i))]) hx hb xj_R_oneStepFrom_30 rfl hl (by decide) rfl (fun ls hl => ?_)
        refine lv_iinc (k := 3) (v := nI (i + 1)) (lv' := [(3, .int (nI (i + 1))), (2, .int (y ||| (G i))), (0, .ref r0), (1, .int x)]) hx hb xj_R_oneStepFrom_31 hl rfl (xr_inc _) (by decide) rfl (fun ls hl => ?_)
        refine lv_goto (tgt := 4) hx hb xj_R_oneStepFrom_34 rfl ?_
        exact ih4 (i + 1) (y ||| (G i)) ls (by omega) ((xk_ost_1 h16).symm.trans hr) (lv_sub hl [2, 3, 1, 0] rfl)
  exact loop4 13 0 (nI 0) ls (by omega) rfl (lv_sub hl [2, 3, 1, 0] rfl)
set_option maxRecDepth 100000 in
set_option maxHeartbeats 4000000 in
theorem xt_R_isOutdone (l : Launch) (D : va_G) (cI cZ cJ : ClassId) (r0 r1 r2 r3 : Nat) (G Bt C : Nat → Int32) (s0 : Nat) (x : Int32) (hs : s0 < 13) : xc_R l xy_R_isOutdone xb_R_isOutdone 4 .boolean 2 [.ref r0, .int (nI s0), .int x] D cI cZ cJ [(r0, .inr (3, [.ref r1, .ref r2, .ref r3])), (r1, .inl (cI, 13, .inl G)), (r2, .inl (cI, 13, .inl Bt)), (r3, .inl (cI, 13, .inl C))] (xf_bI (xk_outd C x s0)) := by
  refine xc_R_of (by decide) (Nat.le_of_ble_eq_true rfl) (xf_nar_b _) ?_
  intro p e s m args below meth c Q ls hAt hP hK hl hret
  obtain ⟨hx, hb, hml, hown, hts, hgs, hlk⟩ := id hAt
  have hT : ∀ w ∈ xw_g, w ∈ xc_ws xy_R_isOutdone xb_R_isOutdone 4 (some .boolean) := fun w h => List.mem_cons_of_mem _ h
  have hown : s.vm.findClass "WishLedger$Relation" = some m.cls := hown
  have hl : lv_has ls 4 [(0, .ref r0), (1, .int (nI s0)), (2, .int x)] := hl
  refine lv_iconst (v := nI 0) hx hb xj_R_isOutdone_0 (by decide) ?_
  refine lv_istore_n (lv' := [(3, .int (nI 0)), (0, .ref r0), (1, .int (nI s0)), (2, .int x)]) hx hb xj_R_isOutdone_1 rfl hl (by decide) rfl (fun ls hl => ?_)
  have loop2 : ∀ (n : Nat) (i : Nat) (ls : Array Slot), i + n = 13 → (xf_ex (fun t => xf_hs x (nI t) && (xf_hs (C t) (nI s0) && !xf_hs (C s0) (nI t))) n i = xk_outd C x s0) → lv_has ls 4 [(0, .ref r0), (1, .int (nI s0)), (2, .int x), (3, .int (nI i))] → W p l e (xc_rm 2 0 0) s m args below meth c s.heap [] 0 0 Q (F0 m 2 ls []) := by
    intro n
    induction n with
    | zero =>
      intro i ls hi2 hr hl
      refine lv_iload_n hx hb xj_R_isOutdone_2 rfl (lv_at hl 3 rfl) ?_
      refine lv_bipush (v := nI 13) hx hb xj_R_isOutdone_3 (by decide) ?_
      refine xr_ge (tgt := 50) hx hb (by omega) (by omega) xj_R_isOutdone_5 rfl (fun h5 => ?_) (fun h5 => absurd h5 (by omega))
      refine lv_iconst (v := nI 0) hx hb xj_R_isOutdone_50 (by decide) ?_
      exact xr_top (congrArg xf_bI hr) (hret _ _ xj_R_isOutdone_51)
    | succ n ih2 =>
      intro i ls hi2 hr hl
      refine lv_iload_n hx hb xj_R_isOutdone_2 rfl (lv_at hl 3 rfl) ?_
      refine lv_bipush (v := nI 13) hx hb xj_R_isOutdone_3 (by decide) ?_
      refine xr_ge (tgt := 50) hx hb (by omega) (by omega) xj_R_isOutdone_5 rfl (fun h5 => absurd h5 (by omega)) (fun h5 => ?_)
      refine lv_iload_n hx hb xj_R_isOutdone_8 rfl (lv_at hl 2 rfl) ?_
      refine lv_iload_n hx hb xj_R_isOutdone_9 rfl (lv_at hl 3 rfl) ?_
      refine xc_callSN (av := [.int x, .int (nI i)]) (rest := []) hAt hT (xt_L_has l D cI cZ cJ x (nI i)) (List.mem_of_getElem? (i := 17) rfl) xw_1 xw_157 xw_156 (na := 2) rfl (by decide +kernel) ⟨Nat.le_of_ble_eq_true rfl, Nat.le_of_ble_eq_true rfl⟩ (hP.sub (ws' := []) [] rfl) hK hl.1 (Nat.le_of_ble_eq_true rfl) ⟨Nat.zero_le _, Nat.zero_le _⟩ xj_R_isOutdone_10 ?_
      refine xr_ifeq (tgt := 44) hx hb xj_R_isOutdone_13 rfl (fun h13 => ?_) (fun h13 => ?_)
      · -- 44
        refine lv_iinc (k := 3) (v := nI (i + 1)) (lv' := [(3, .int (nI (i + 1))), (0, .ref r0), (1, .int (nI s0)), (2, .int x)]) hx hb xj_R_isOutdone_44 hl rfl (xr_inc _) (by decide) rfl (fun ls hl => ?_)
        refine lv_goto (tgt := 2) hx hb xj_R_isOutdone_47 rfl ?_
        exact ih2 (i + 1) ls (by omega) ((xf_ex_f (P := (fun t => xf_hs x (nI t) && (xf_hs (C t) (nI s0) && !xf_hs (C s0) (nI t)))) (by simp only [h13, Bool.true_and, Bool.false_and, Bool.and_true, Bool.and_false, Bool.not_true, Bool.not_false])).symm.trans hr) (lv_sub hl [1, 2, 3, 0] rfl)
      · -- 16
        refine lv_aload_n hx hb xj_R_isOutdone_16 rfl (lv_at hl 0 rfl) ?_
        refine va_get (D := D) (ci := 3) (v := .ref r3) (C := xn_R) (T := xn_TR) (N := 3) hx hb hgs xw_uR hown hK.1 hP 0 rfl rfl 2 (by decide) (hgs _ xw_56) (fun _ h9 => h9) rfl xj_R_isOutdone_17 ?_
        refine lv_iload_n hx hb xj_R_isOutdone_20 rfl (lv_at hl 3 rfl) ?_
        refine xr_iald hx hb hK.1 hP 3 0 rfl rfl (by omega) (by decide) xj_R_isOutdone_21 ?_
        refine lv_iload_n hx hb xj_R_isOutdone_22 rfl (lv_at hl 1 rfl) ?_
        refine xc_callSN (av := [.int (C i), .int (nI s0)]) (rest := []) hAt hT (xt_L_has l D cI cZ cJ (C i) (nI s0)) (List.mem_of_getElem? (i := 17) rfl) xw_1 xw_157 xw_156 (na := 2) rfl (by decide +kernel) ⟨Nat.le_of_ble_eq_true rfl, Nat.le_of_ble_eq_true rfl⟩ (hP.sub (ws' := []) [] rfl) hK hl.1 (Nat.le_of_ble_eq_true rfl) ⟨Nat.zero_le _, Nat.zero_le _⟩ xj_R_isOutdone_23 ?_
        refine xr_ifeq (tgt := 44) hx hb xj_R_isOutdone_26 rfl (fun h26 => ?_) (fun h26 => ?_)
        · -- 44
          refine lv_iinc (k := 3) (v := nI (i + 1)) (lv' := [(3, .int (nI (i + 1))), (0, .ref r0), (1, .int (nI s0)), (2, .int x)]) hx hb xj_R_isOutdone_44 hl rfl (xr_inc _) (by decide) rfl (fun ls hl => ?_)
          refine lv_goto (tgt := 2) hx hb xj_R_isOutdone_47 rfl ?_
          exact ih2 (i + 1) ls (by omega) ((xf_ex_f (P := (fun t => xf_hs x (nI t) && (xf_hs (C t) (nI s0) && !xf_hs (C s0) (nI t)))) (by simp only [h13, h26, Bool.true_and, Bool.false_and, Bool.and_true, Bool.and_false, Bool.not_true, Bool.not_false])).symm.trans hr) (lv_sub hl [1, 2, 3, 0] rfl)
        · -- 29
          refine lv_aload_n hx hb xj_R_isOutdone_29 rfl (lv_at hl 0 rfl) ?_
          refine va_get (D := D) (ci := 3) (v := .ref r3) (C := xn_R) (T := xn_TR) (N := 3) hx hb hgs xw_uR hown hK.1 hP 0 rfl rfl 2 (by decide) (hgs _ xw_56) (fun _ h9 => h9) rfl xj_R_isOutdone_30 ?_
          refine lv_iload_n hx hb xj_R_isOutdone_33 rfl (lv_at hl 1 rfl) ?_
          refine xr_iald hx hb hK.1 hP 3 0 rfl rfl (by omega) (by decide) xj_R_isOutdone_34 ?_
          refine lv_iload_n hx hb xj_R_isOutdone_35 rfl (lv_at hl 3 rfl) ?_
          refine xc_callSN (av := [.int (C s0), .int (nI i)]) (rest := []) hAt hT (xt_L_has l D cI cZ cJ (C s0) (nI i)) (List.mem_of_getElem? (i := 17) rfl) xw_1 xw_157 xw_156 (na := 2) rfl (by decide +kernel) ⟨Nat.le_of_ble_eq_true rfl, Nat.le_of_ble_eq_true rfl⟩ (hP.sub (ws' := []) [] rfl) hK hl.1 (Nat.le_of_ble_eq_true rfl) ⟨Nat.zero_le _, Nat.zero_le _⟩ xj_R_isOutdone_36 ?_
          refine xr_ifne (tgt := 44) hx hb xj_R_isOutdone_39 rfl (fun h39 => ?_) (fun h39 => ?_)
          · -- 44
            refine lv_iinc (k := 3) (v := nI (i + 1)) (lv' := [(3, .int (nI (i + 1))), (0, .ref r0), (1, .int (nI s0)), (2, .int x)]) hx hb xj_R_isOutdone_44 hl rfl (xr_inc _) (by decide) rfl (fun ls hl => ?_)
            refine lv_goto (tgt := 2) hx hb xj_R_isOutdone_47 rfl ?_
            exact ih2 (i + 1) ls (by omega) ((xf_ex_f (P := (fun t => xf_hs x (nI t) && (xf_hs (C t) (nI s0) && !xf_hs (C s0) (nI t)))) (by simp only [h13, h26, h39, Bool.true_and, Bool.false_and, Bool.and_true, Bool.and_false, Bool.not_true, Bool.not_false])).symm.trans hr) (lv_sub hl [1, 2, 3, 0] rfl)
          · -- 42
            refine lv_iconst (v := nI 1) hx hb xj_R_isOutdone_42 (by decide) ?_
            exact xr_top (congrArg xf_bI ((xf_ex_t (P := (fun t => xf_hs x (nI t) && (xf_hs (C t) (nI s0) && !xf_hs (C s0) (nI t)))) (by simp only [h13, h26, h39, Bool.true_and, Bool.false_and, Bool.and_true, Bool.and_false, Bool.not_true, Bool.not_false])).symm.trans hr)) (hret _ _ xj_R_isOutdone_43)
  exact loop2 13 0 ls (by omega) rfl (lv_sub hl [1, 2, 3, 0] rfl)
set_option maxRecDepth 100000 in
set_option maxHeartbeats 4000000 in
theorem xt_R_bestOf (l : Launch) (D : va_G) (cI cZ cJ : ClassId) (r0 r1 r2 r3 : Nat) (G Bt C : Nat → Int32) (x : Int32) : xc_R l xy_R_bestOf xb_R_bestOf 3 .int 3 [.ref r0, .int x] D cI cZ cJ [(r0, .inr (3, [.ref r1, .ref r2, .ref r3])), (r1, .inl (cI, 13, .inl G)), (r2, .inl (cI, 13, .inl Bt)), (r3, .inl (cI, 13, .inl C))] (xk_best C x) := by
  refine xc_R_of (by decide) (Nat.le_of_ble_eq_true rfl) rfl ?_
  intro p e s m args below meth c Q ls hAt hP hK hl hret
  obtain ⟨hx, hb, hml, hown, hts, hgs, hlk⟩ := id hAt
  have hT : ∀ w ∈ xw_g, w ∈ xc_ws xy_R_bestOf xb_R_bestOf 3 (some .int) := fun w h => List.mem_cons_of_mem _ h
  have hown : s.vm.findClass "WishLedger$Relation" = some m.cls := hown
  have hl : lv_has ls 3 [(0, .ref r0), (1, .int x)] := hl
  refine lv_iconst (v := nI 0) hx hb xj_R_bestOf_0 (by decide) ?_
  refine lv_istore_n (lv' := [(2, .int (nI 0)), (0, .ref r0), (1, .int x)]) hx hb xj_R_bestOf_1 rfl hl (by decide) rfl (fun ls hl => ?_)
  have loop2 : ∀ (n : Nat) (i : Nat) (ls : Array Slot), i + n = 13 → (xf_fst (fun s => xf_hs x (nI s) && !xk_outd C x s) n i = xk_best C x) → lv_has ls 3 [(0, .ref r0), (1, .int x), (2, .int (nI i))] → W p l e (xc_rm 3 0 0) s m args below meth c s.heap [] 0 0 Q (F0 m 2 ls []) := by
    intro n
    induction n with
    | zero =>
      intro i ls hi2 hr hl
      refine lv_iload_n hx hb xj_R_bestOf_2 rfl (lv_at hl 2 rfl) ?_
      refine lv_bipush (v := nI 13) hx hb xj_R_bestOf_3 (by decide) ?_
      refine xr_ge (tgt := 33) hx hb (by omega) (by omega) xj_R_bestOf_5 rfl (fun h5 => ?_) (fun h5 => absurd h5 (by omega))
      refine lv_iconst (v := (-1)) hx hb xj_R_bestOf_33 (by decide) ?_
      exact xr_top hr (hret _ _ xj_R_bestOf_34)
    | succ n ih2 =>
      intro i ls hi2 hr hl
      refine lv_iload_n hx hb xj_R_bestOf_2 rfl (lv_at hl 2 rfl) ?_
      refine lv_bipush (v := nI 13) hx hb xj_R_bestOf_3 (by decide) ?_
      refine xr_ge (tgt := 33) hx hb (by omega) (by omega) xj_R_bestOf_5 rfl (fun h5 => absurd h5 (by omega)) (fun h5 => ?_)
      refine lv_iload_n hx hb xj_R_bestOf_8 rfl (lv_at hl 1 rfl) ?_
      refine lv_iload_n hx hb xj_R_bestOf_9 rfl (lv_at hl 2 rfl) ?_
      refine xc_callSN (av := [.int x, .int (nI i)]) (rest := []) hAt hT (xt_L_has l D cI cZ cJ x (nI i)) (List.mem_of_getElem? (i := 17) rfl) xw_1 xw_157 xw_156 (na := 2) rfl (by decide +kernel) ⟨Nat.le_of_ble_eq_true rfl, Nat.le_of_ble_eq_true rfl⟩ (hP.sub (ws' := []) [] rfl) hK hl.1 (Nat.le_of_ble_eq_true rfl) ⟨Nat.zero_le _, Nat.zero_le _⟩ xj_R_bestOf_10 ?_
      refine xr_ifeq (tgt := 27) hx hb xj_R_bestOf_13 rfl (fun h13 => ?_) (fun h13 => ?_)
      · -- 27
        refine lv_iinc (k := 2) (v := nI (i + 1)) (lv' := [(2, .int (nI (i + 1))), (0, .ref r0), (1, .int x)]) hx hb xj_R_bestOf_27 hl rfl (xr_inc _) (by decide) rfl (fun ls hl => ?_)
        refine lv_goto (tgt := 2) hx hb xj_R_bestOf_30 rfl ?_
        exact ih2 (i + 1) ls (by omega) ((xf_fst_f (P := (fun s => xf_hs x (nI s) && !xk_outd C x s)) (by simp only [h13, Bool.true_and, Bool.false_and, Bool.and_true, Bool.and_false, Bool.not_true, Bool.not_false])).symm.trans hr) (lv_sub hl [1, 2, 0] rfl)
      · -- 16
        refine lv_aload_n hx hb xj_R_bestOf_16 rfl (lv_at hl 0 rfl) ?_
        refine lv_iload_n hx hb xj_R_bestOf_17 rfl (lv_at hl 2 rfl) ?_
        refine lv_iload_n hx hb xj_R_bestOf_18 rfl (lv_at hl 1 rfl) ?_
        refine xc_callV (av := [.int (nI i), .int x]) (rest := []) hAt hT (xt_R_isOutdone l D cI cZ cJ r0 r1 r2 r3 G Bt C i x (by omega)) xw_516 xw_3 xw_519 xw_518 xs_R_isOutdone (C0 := xn_R) (q0 := 0) rfl rfl (na := 2) rfl (by decide +kernel) ⟨Nat.le_of_ble_eq_true rfl, Nat.le_of_ble_eq_true rfl⟩ (hP.sub (ws' := [(r0, .inr (3, [.ref r1, .ref r2, .ref r3])), (r1, .inl (cI, 13, .inl G)), (r2, .inl (cI, 13, .inl Bt)), (r3, .inl (cI, 13, .inl C))]) [0, 1, 2, 3] rfl) hK hl.1 (Nat.le_of_ble_eq_true rfl) ⟨Nat.zero_le _, Nat.zero_le _⟩ xj_R_bestOf_19 ?_
        refine xr_ifne (tgt := 27) hx hb xj_R_bestOf_22 rfl (fun h22 => ?_) (fun h22 => ?_)
        · -- 27
          refine lv_iinc (k := 2) (v := nI (i + 1)) (lv' := [(2, .int (nI (i + 1))), (0, .ref r0), (1, .int x)]) hx hb xj_R_bestOf_27 hl rfl (xr_inc _) (by decide) rfl (fun ls hl => ?_)
          refine lv_goto (tgt := 2) hx hb xj_R_bestOf_30 rfl ?_
          exact ih2 (i + 1) ls (by omega) ((xf_fst_f (P := (fun s => xf_hs x (nI s) && !xk_outd C x s)) (by simp only [h13, h22, Bool.true_and, Bool.false_and, Bool.and_true, Bool.and_false, Bool.not_true, Bool.not_false])).symm.trans hr) (lv_sub hl [1, 2, 0] rfl)
        · -- 25
          refine lv_iload_n hx hb xj_R_bestOf_25 rfl (lv_at hl 2 rfl) ?_
          exact xr_top ((xf_fst_t (P := (fun s => xf_hs x (nI s) && !xk_outd C x s)) (by simp only [h13, h22, Bool.true_and, Bool.false_and, Bool.and_true, Bool.and_false, Bool.not_true, Bool.not_false])).symm.trans hr) (hret _ _ xj_R_bestOf_26)
  exact loop2 13 0 ls (by omega) rfl (lv_sub hl [1, 2, 0] rfl)
set_option maxRecDepth 100000 in
set_option maxHeartbeats 4000000 in
theorem xt_R_steps (l : Launch) (D : va_G) (cI cZ cJ : ClassId) (r0 r1 r2 r3 : Nat) (G Bt C : Nat → Int32) (s0 t0 : Nat) (hs : s0 < 13) : xc_R l xy_R_steps xb_R_steps 5 .int 3 [.ref r0, .int (nI s0), .int (nI t0)] D cI cZ cJ [(r0, .inr (3, [.ref r1, .ref r2, .ref r3])), (r1, .inl (cI, 13, .inl G)), (r2, .inl (cI, 13, .inl Bt)), (r3, .inl (cI, 13, .inl C))] (xk_stp G t0 13 1 (G s0)) := by
  refine xc_R_of (by decide) (Nat.le_of_ble_eq_true rfl) rfl ?_
  intro p e s m args below meth c Q ls hAt hP hK hl hret
  obtain ⟨hx, hb, hml, hown, hts, hgs, hlk⟩ := id hAt
  have hT : ∀ w ∈ xw_g, w ∈ xc_ws xy_R_steps xb_R_steps 5 (some .int) := fun w h => List.mem_cons_of_mem _ h
  have hown : s.vm.findClass "WishLedger$Relation" = some m.cls := hown
  have hl : lv_has ls 5 [(0, .ref r0), (1, .int (nI s0)), (2, .int (nI t0))] := hl
  refine lv_aload_n hx hb xj_R_steps_0 rfl (lv_at hl 0 rfl) ?_
  refine va_get (D := D) (ci := 3) (v := .ref r1) (C := xn_R) (T := xn_TR) (N := 3) hx hb hgs xw_uR hown hK.1 hP 0 rfl rfl 0 (by decide) (hgs _ xw_52) (fun _ h9 => h9) rfl xj_R_steps_1 ?_
  refine lv_iload_n hx hb xj_R_steps_4 rfl (lv_at hl 1 rfl) ?_
  refine xr_iald hx hb hK.1 hP 1 0 rfl rfl (by omega) (by decide) xj_R_steps_5 ?_
  refine lv_istore_n (lv' := [(3, .int (G s0)), (0, .ref r0), (1, .int (nI s0)), (2, .int (nI t0))]) hx hb xj_R_steps_6 rfl hl (by decide) rfl (fun ls hl => ?_)
  refine lv_iconst (v := nI 1) hx hb xj_R_steps_7 (by decide) ?_
  refine lv_istore (lv' := [(4, .int (nI 1)), (3, .int (G s0)), (0, .ref r0), (1, .int (nI s0)), (2, .int (nI t0))]) hx hb xj_R_steps_8 hl (by decide) rfl (fun ls hl => ?_)
  have loop10 : ∀ (n : Nat) (i : Nat) (y : Int32) (ls : Array Slot), i + n = 14 → (xk_stp G t0 n i y = xk_stp G t0 13 1 (G s0)) → lv_has ls 5 [(0, .ref r0), (1, .int (nI s0)), (2, .int (nI t0)), (3, .int y), (4, .int (nI i))] → W p l e (xc_rm 3 0 0) s m args below meth c s.heap [] 0 0 Q (F0 m 10 ls []) := by
    intro n
    induction n with
    | zero =>
      intro i y ls hi10 hr hl
      refine lv_iload hx hb xj_R_steps_10 (lv_at hl 4 rfl) ?_
      refine lv_bipush (v := nI 13) hx hb xj_R_steps_12 (by decide) ?_
      refine xr_gt (tgt := 40) hx hb (by omega) (by omega) xj_R_steps_14 rfl (fun h14 => ?_) (fun h14 => absurd h14 (by omega))
      refine lv_iconst (v := (-1)) hx hb xj_R_steps_40 (by decide) ?_
      exact xr_top hr (hret _ _ xj_R_steps_41)
    | succ n ih10 =>
      intro i y ls hi10 hr hl
      refine lv_iload hx hb xj_R_steps_10 (lv_at hl 4 rfl) ?_
      refine lv_bipush (v := nI 13) hx hb xj_R_steps_12 (by decide) ?_
      refine xr_gt (tgt := 40) hx hb (by omega) (by omega) xj_R_steps_14 rfl (fun h14 => absurd h14 (by omega)) (fun h14 => ?_)
      refine lv_iload_n hx hb xj_R_steps_17 rfl (lv_at hl 3 rfl) ?_
      refine lv_iload_n hx hb xj_R_steps_18 rfl (lv_at hl 2 rfl) ?_
      refine xc_callSN (av := [.int y, .int (nI t0)]) (rest := []) hAt hT (xt_L_has l D cI cZ cJ y (nI t0)) (List.mem_of_getElem? (i := 17) rfl) xw_1 xw_157 xw_156 (na := 2) rfl (by decide +kernel) ⟨Nat.le_of_ble_eq_true rfl, Nat.le_of_ble_eq_true rfl⟩ (hP.sub (ws' := []) [] rfl) hK hl.1 (Nat.le_of_ble_eq_true rfl) ⟨Nat.zero_le _, Nat.zero_le _⟩ xj_R_steps_19 ?_
      refine xr_ifeq (tgt := 28) hx hb xj_R_steps_22 rfl (fun h22 => ?_) (fun h22 => ?_)
      · -- 28
        refine lv_aload_n hx hb xj_R_steps_28 rfl (lv_at hl 0 rfl) ?_
        refine lv_iload_n hx hb xj_R_steps_29 rfl (lv_at hl 3 rfl) ?_
        refine xc_callV (av := [.int y]) (rest := []) hAt hT (xt_R_oneStepFrom l D cI cZ cJ r0 r1 r2 r3 G Bt C y) xw_380 xw_3 xw_383 xw_382 xs_R_oneStepFrom (C0 := xn_R) (q0 := 0) rfl rfl (na := 1) rfl (by decide +kernel) ⟨Nat.le_of_ble_eq_true rfl, Nat.le_of_ble_eq_true rfl⟩ (hP.sub (ws' := [(r0, .inr (3, [.ref r1, .ref r2, .ref r3])), (r1, .inl (cI, 13, .inl G)), (r2, .inl (cI, 13, .inl Bt)), (r3, .inl (cI, 13, .inl C))]) [0, 1, 2, 3] rfl) hK hl.1 (Nat.le_of_ble_eq_true rfl) ⟨Nat.zero_le _, Nat.zero_le _⟩ xj_R_steps_30 ?_
        refine lv_istore_n (lv' := [(3, .int (xk_ost G y 13 0 (nI 0))), (0, .ref r0), (1, .int (nI s0)), (2, .int (nI t0)), (4, .int (nI i))]) hx hb xj_R_steps_33 rfl hl (by decide) rfl (fun ls hl => ?_)
        refine lv_iinc (k := 4) (v := nI (i + 1)) (lv' := [(4, .int (nI (i + 1))), (3, .int (xk_ost G y 13 0 (nI 0))), (0, .ref r0), (1, .int (nI s0)), (2, .int (nI t0))]) hx hb xj_R_steps_34 hl rfl (xr_inc _) (by decide) rfl (fun ls hl => ?_)
        refine lv_goto (tgt := 10) hx hb xj_R_steps_37 rfl ?_
        exact ih10 (i + 1) (xk_ost G y 13 0 (nI 0)) ls (by omega) ((xk_stp_0 h22).symm.trans hr) (lv_sub hl [2, 3, 4, 1, 0] rfl)
      · -- 25
        refine lv_iload hx hb xj_R_steps_25 (lv_at hl 4 rfl) ?_
        exact xr_top ((xk_stp_1 h22).symm.trans hr) (hret _ _ xj_R_steps_27)
  exact loop10 13 1 (G s0) ls (by omega) rfl (lv_sub hl [2, 3, 4, 1, 0] rfl)
set_option maxRecDepth 100000 in
set_option maxHeartbeats 4000000 in
theorem xt_R_hasPairAtOdds (l : Launch) (D : va_G) (cI cZ cJ : ClassId) (r0 r1 r2 r3 : Nat) (G Bt C : Nat → Int32) : xc_R l xy_R_hasPairAtOdds xb_R_hasPairAtOdds 3 .boolean 2 [.ref r0] D cI cZ cJ [(r0, .inr (3, [.ref r1, .ref r2, .ref r3])), (r1, .inl (cI, 13, .inl G)), (r2, .inl (cI, 13, .inl Bt)), (r3, .inl (cI, 13, .inl C))] (xf_bI (xk_bad G Bt)) := by
  refine xc_R_of (by decide) (Nat.le_of_ble_eq_true rfl) (xf_nar_b _) ?_
  intro p e s m args below meth c Q ls hAt hP hK hl hret
  obtain ⟨hx, hb, hml, hown, hts, hgs, hlk⟩ := id hAt
  have hT : ∀ w ∈ xw_g, w ∈ xc_ws xy_R_hasPairAtOdds xb_R_hasPairAtOdds 3 (some .boolean) := fun w h => List.mem_cons_of_mem _ h
  have hown : s.vm.findClass "WishLedger$Relation" = some m.cls := hown
  have hl : lv_has ls 3 [(0, .ref r0)] := hl
  refine lv_iconst (v := nI 0) hx hb xj_R_hasPairAtOdds_0 (by decide) ?_
  refine lv_istore_n (lv' := [(1, .int (nI 0)), (0, .ref r0)]) hx hb xj_R_hasPairAtOdds_1 rfl hl (by decide) rfl (fun ls hl => ?_)
  have loop2 : ∀ (n : Nat) (i : Nat) (ls : Array Slot), i + n = 13 → (xf_ex (fun s => xf_ex (fun t => xf_hs (G s) (nI t) && xf_hs (Bt t) (nI s)) 13 0) n i = xk_bad G Bt) → lv_has ls 3 [(0, .ref r0), (1, .int (nI i))] → W p l e (xc_rm 2 0 0) s m args below meth c s.heap [] 0 0 Q (F0 m 2 ls []) := by
    intro n
    induction n with
    | zero =>
      intro i ls hi2 hr hl
      refine lv_iload_n hx hb xj_R_hasPairAtOdds_2 rfl (lv_at hl 1 rfl) ?_
      refine lv_bipush (v := nI 13) hx hb xj_R_hasPairAtOdds_3 (by decide) ?_
      refine xr_ge (tgt := 56) hx hb (by omega) (by omega) xj_R_hasPairAtOdds_5 rfl (fun h5 => ?_) (fun h5 => absurd h5 (by omega))
      refine lv_iconst (v := nI 0) hx hb xj_R_hasPairAtOdds_56 (by decide) ?_
      exact xr_top (congrArg xf_bI hr) (hret _ _ xj_R_hasPairAtOdds_57)
    | succ n ih2 =>
      intro i ls hi2 hr hl
      refine lv_iload_n hx hb xj_R_hasPairAtOdds_2 rfl (lv_at hl 1 rfl) ?_
      refine lv_bipush (v := nI 13) hx hb xj_R_hasPairAtOdds_3 (by decide) ?_
      refine xr_ge (tgt := 56) hx hb (by omega) (by omega) xj_R_hasPairAtOdds_5 rfl (fun h5 => absurd h5 (by omega)) (fun h5 => ?_)
      refine lv_iconst (v := nI 0) hx hb xj_R_hasPairAtOdds_8 (by decide) ?_
      refine lv_istore_n (lv' := [(2, .int (nI 0)), (0, .ref r0), (1, .int (nI i))]) hx hb xj_R_hasPairAtOdds_9 rfl hl (by decide) rfl (fun ls hl => ?_)
      have loop10 : ∀ (k : Nat) (j : Nat) (ls : Array Slot), j + k = 13 → (xf_ex (fun t => xf_hs (G i) (nI t) && xf_hs (Bt t) (nI i)) k j = xf_ex (fun t => xf_hs (G i) (nI t) && xf_hs (Bt t) (nI i)) 13 0) → lv_has ls 3 [(0, .ref r0), (1, .int (nI i)), (2, .int (nI j))] → W p l e (xc_rm 2 0 0) s m args below meth c s.heap [] 0 0 Q (F0 m 10 ls []) := by
        intro k
        induction k with
        | zero =>
          intro j ls hi10 hq hl
          refine lv_iload_n hx hb xj_R_hasPairAtOdds_10 rfl (lv_at hl 2 rfl) ?_
          refine lv_bipush (v := nI 13) hx hb xj_R_hasPairAtOdds_11 (by decide) ?_
          refine xr_ge (tgt := 50) hx hb (by omega) (by omega) xj_R_hasPairAtOdds_13 rfl (fun h13 => ?_) (fun h13 => absurd h13 (by omega))
          refine lv_iinc (k := 1) (v := nI (i + 1)) (lv' := [(1, .int (nI (i + 1))), (0, .ref r0), (2, .int (nI j))]) hx hb xj_R_hasPairAtOdds_50 hl rfl (xr_inc _) (by decide) rfl (fun ls hl => ?_)
          refine lv_goto (tgt := 2) hx hb xj_R_hasPairAtOdds_53 rfl ?_
          exact ih2 (i + 1) ls (by omega) ((xf_ex_f (P := (fun s => xf_ex (fun t => xf_hs (G s) (nI t) && xf_hs (Bt t) (nI s)) 13 0)) hq.symm).symm.trans hr) (lv_sub hl [1, 0] rfl)
        | succ k ih10 =>
          intro j ls hi10 hq hl
          refine lv_iload_n hx hb xj_R_hasPairAtOdds_10 rfl (lv_at hl 2 rfl) ?_
          refine lv_bipush (v := nI 13) hx hb xj_R_hasPairAtOdds_11 (by decide) ?_
          refine xr_ge (tgt := 50) hx hb (by omega) (by omega) xj_R_hasPairAtOdds_13 rfl (fun h13 => absurd h13 (by omega)) (fun h13 => ?_)
          refine lv_aload_n hx hb xj_R_hasPairAtOdds_16 rfl (lv_at hl 0 rfl) ?_
          refine va_get (D := D) (ci := 3) (v := .ref r1) (C := xn_R) (T := xn_TR) (N := 3) hx hb hgs xw_uR hown hK.1 hP 0 rfl rfl 0 (by decide) (hgs _ xw_52) (fun _ h9 => h9) rfl xj_R_hasPairAtOdds_17 ?_
          refine lv_iload_n hx hb xj_R_hasPairAtOdds_20 rfl (lv_at hl 1 rfl) ?_
          refine xr_iald hx hb hK.1 hP 1 0 rfl rfl (by omega) (by decide) xj_R_hasPairAtOdds_21 ?_
          refine lv_iload_n hx hb xj_R_hasPairAtOdds_22 rfl (lv_at hl 2 rfl) ?_
          refine xc_callSN (av := [.int (G i), .int (nI j)]) (rest := []) hAt hT (xt_L_has l D cI cZ cJ (G i) (nI j)) (List.mem_of_getElem? (i := 17) rfl) xw_1 xw_157 xw_156 (na := 2) rfl (by decide +kernel) ⟨Nat.le_of_ble_eq_true rfl, Nat.le_of_ble_eq_true rfl⟩ (hP.sub (ws' := []) [] rfl) hK hl.1 (Nat.le_of_ble_eq_true rfl) ⟨Nat.zero_le _, Nat.zero_le _⟩ xj_R_hasPairAtOdds_23 ?_
          refine xr_ifeq (tgt := 44) hx hb xj_R_hasPairAtOdds_26 rfl (fun h26 => ?_) (fun h26 => ?_)
          · -- 44
            refine lv_iinc (k := 2) (v := nI (j + 1)) (lv' := [(2, .int (nI (j + 1))), (0, .ref r0), (1, .int (nI i))]) hx hb xj_R_hasPairAtOdds_44 hl rfl (xr_inc _) (by decide) rfl (fun ls hl => ?_)
            refine lv_goto (tgt := 10) hx hb xj_R_hasPairAtOdds_47 rfl ?_
            exact ih10 (j + 1) ls (by omega) ((xf_ex_f (P := (fun t => xf_hs (G i) (nI t) && xf_hs (Bt t) (nI i))) (by simp only [h26, Bool.true_and, Bool.false_and, Bool.and_true, Bool.and_false, Bool.not_true, Bool.not_false])).symm.trans hq) (lv_sub hl [1, 2, 0] rfl)
          · -- 29
            refine lv_aload_n hx hb xj_R_hasPairAtOdds_29 rfl (lv_at hl 0 rfl) ?_
            refine va_get (D := D) (ci := 3) (v := .ref r2) (C := xn_R) (T := xn_TR) (N := 3) hx hb hgs xw_uR hown hK.1 hP 0 rfl rfl 1 (by decide) (hgs _ xw_54) (fun _ h9 => h9) rfl xj_R_hasPairAtOdds_30 ?_
            refine lv_iload_n hx hb xj_R_hasPairAtOdds_33 rfl (lv_at hl 2 rfl) ?_
            refine xr_iald hx hb hK.1 hP 2 0 rfl rfl (by omega) (by decide) xj_R_hasPairAtOdds_34 ?_
            refine lv_iload_n hx hb xj_R_hasPairAtOdds_35 rfl (lv_at hl 1 rfl) ?_
            refine xc_callSN (av := [.int (Bt j), .int (nI i)]) (rest := []) hAt hT (xt_L_has l D cI cZ cJ (Bt j) (nI i)) (List.mem_of_getElem? (i := 17) rfl) xw_1 xw_157 xw_156 (na := 2) rfl (by decide +kernel) ⟨Nat.le_of_ble_eq_true rfl, Nat.le_of_ble_eq_true rfl⟩ (hP.sub (ws' := []) [] rfl) hK hl.1 (Nat.le_of_ble_eq_true rfl) ⟨Nat.zero_le _, Nat.zero_le _⟩ xj_R_hasPairAtOdds_36 ?_
            refine xr_ifeq (tgt := 44) hx hb xj_R_hasPairAtOdds_39 rfl (fun h39 => ?_) (fun h39 => ?_)
            · -- 44
              refine lv_iinc (k := 2) (v := nI (j + 1)) (lv' := [(2, .int (nI (j + 1))), (0, .ref r0), (1, .int (nI i))]) hx hb xj_R_hasPairAtOdds_44 hl rfl (xr_inc _) (by decide) rfl (fun ls hl => ?_)
              refine lv_goto (tgt := 10) hx hb xj_R_hasPairAtOdds_47 rfl ?_
              exact ih10 (j + 1) ls (by omega) ((xf_ex_f (P := (fun t => xf_hs (G i) (nI t) && xf_hs (Bt t) (nI i))) (by simp only [h26, h39, Bool.true_and, Bool.false_and, Bool.and_true, Bool.and_false, Bool.not_true, Bool.not_false])).symm.trans hq) (lv_sub hl [1, 2, 0] rfl)
            · -- 42
              refine lv_iconst (v := nI 1) hx hb xj_R_hasPairAtOdds_42 (by decide) ?_
              exact xr_top (congrArg xf_bI ((xf_ex_t (P := (fun s => xf_ex (fun t => xf_hs (G s) (nI t) && xf_hs (Bt t) (nI s)) 13 0)) ((xf_ex_t (P := (fun t => xf_hs (G i) (nI t) && xf_hs (Bt t) (nI i))) (by simp only [h26, h39, Bool.true_and, Bool.false_and, Bool.and_true, Bool.and_false, Bool.not_true, Bool.not_false])).symm.trans hq).symm).symm.trans hr)) (hret _ _ xj_R_hasPairAtOdds_43)
      exact loop10 13 0 ls (by omega) rfl (lv_sub hl [1, 2, 0] rfl)
  exact loop2 13 0 ls (by omega) rfl (lv_sub hl [1, 0] rfl)
