/-! walks: the reference -/
set_option maxRecDepth 100000 in
set_option maxHeartbeats 4000000 in
theorem xt_M_thrown (l : Launch) (D : va_G) (cI cZ cJ : ClassId) (m0 m1 m2 m3 m4 m5 m6 m7 m8 m9 m10 : Nat) (cd : Int32) (gc dc : Nat) : xc_R l xy_M_thrown xb_M_thrown 1 .int 0 [.ref m0] D cI cZ cJ [(m0, .inr (6, [.int cd, .int (nI gc), .int (nI dc), .ref m1, .ref m2, .ref m3, .ref m4, .ref m5, .ref m6, .ref m7, .ref m8, .ref m9, .ref m10]))] (cd) := by
  refine xc_R_of (by decide) (Nat.le_of_ble_eq_true rfl) rfl ?_
  intro p e s m args below meth c Q ls hAt hP hK hl hret
  obtain ⟨hx, hb, hml, hown, hts, hgs, hlk⟩ := id hAt
  have hT : ∀ w ∈ xw_g, w ∈ xc_ws xy_M_thrown xb_M_thrown 1 (some .int) := fun w h => List.mem_cons_of_mem _ h
  have hown : s.vm.findClass "WishLedgerModel" = some m.cls := hown
  have hl : lv_has ls 1 [(0, .ref m0)] := hl
  refine lv_aload_n hx hb xj_M_thrown_0 rfl (lv_at hl 0 rfl) ?_
  refine va_get (D := D) (ci := 6) (v := .int cd) (C := xn_M) (T := xn_TM) (N := 13) hx hb hgs xw_uM hown hK.1 hP 0 rfl rfl 0 (by decide) (hgs _ xw_530) (fun _ h9 => h9) rfl xj_M_thrown_1 ?_
  exact xr_top rfl (hret _ _ xj_M_thrown_4)
set_option maxRecDepth 100000 in
set_option maxHeartbeats 4000000 in
theorem xt_M_in (l : Launch) (D : va_G) (cI cZ cJ : ClassId) (v a b : Int32) : xc_R l xy_M_in xb_M_in 3 .boolean 0 [.int v, .int a, .int b] D cI cZ cJ [] (xf_bI (xo_rg v a b)) := by
  refine xc_R_of (by decide) (Nat.le_of_ble_eq_true rfl) (xf_nar_b _) ?_
  intro p e s m args below meth c Q ls hAt hP hK hl hret
  obtain ⟨hx, hb, hml, hown, hts, hgs, hlk⟩ := id hAt
  have hT : ∀ w ∈ xw_g, w ∈ xc_ws xy_M_in xb_M_in 3 (some .boolean) := fun w h => List.mem_cons_of_mem _ h
  have hown : s.vm.findClass "WishLedgerModel" = some m.cls := hown
  have hl : lv_has ls 3 [(0, .int v), (1, .int a), (2, .int b)] := hl
  refine lv_iload_n hx hb xj_M_in_0 rfl (lv_at hl 0 rfl) ?_
  refine lv_iload_n hx hb xj_M_in_1 rfl (lv_at hl 1 rfl) ?_
  refine lv_icmp_lt (tgt := 14) hx hb xj_M_in_2 rfl (fun h2 => ?_) (fun h2 => ?_)
  · -- 14
    refine lv_iconst (v := nI 0) hx hb xj_M_in_14 (by decide) ?_
    exact xr_top (by rw [xo_rg_1 h2]; rfl) (hret _ _ xj_M_in_15)
  · -- 5
    refine lv_iload_n hx hb xj_M_in_5 rfl (lv_at hl 0 rfl) ?_
    refine lv_iload_n hx hb xj_M_in_6 rfl (lv_at hl 2 rfl) ?_
    refine lv_icmp_gt (tgt := 14) hx hb xj_M_in_7 rfl (fun h7 => ?_) (fun h7 => ?_)
    · -- 14
      refine lv_iconst (v := nI 0) hx hb xj_M_in_14 (by decide) ?_
      exact xr_top (by rw [xo_rg_2 (xo_ngt h7)]; rfl) (hret _ _ xj_M_in_15)
    · -- 10
      refine lv_iconst (v := nI 1) hx hb xj_M_in_10 (by decide) ?_
      refine lv_goto (tgt := 15) hx hb xj_M_in_11 rfl ?_
      exact xr_top (by rw [xo_rg_t h2 (Int32.not_lt.mp h7)]; rfl) (hret _ _ xj_M_in_15)
set_option maxRecDepth 100000 in
set_option maxHeartbeats 4000000 in
theorem xt_M_isDay (l : Launch) (D : va_G) (cI cZ cJ : ClassId) (m0 m1 m2 m3 m4 m5 m6 m7 m8 m9 m10 : Nat) (cd : Int32) (gc dc : Nat) (d : Int32) (hd : dc ≤ 12) : xc_R l xy_M_isDay xb_M_isDay 2 .boolean 1 [.ref m0, .int d] D cI cZ cJ [(m0, .inr (6, [.int cd, .int (nI gc), .int (nI dc), .ref m1, .ref m2, .ref m3, .ref m4, .ref m5, .ref m6, .ref m7, .ref m8, .ref m9, .ref m10]))] (xf_bI (xo_in d dc)) := by
  refine xc_R_of (by decide) (Nat.le_of_ble_eq_true rfl) (xf_nar_b _) ?_
  intro p e s m args below meth c Q ls hAt hP hK hl hret
  obtain ⟨hx, hb, hml, hown, hts, hgs, hlk⟩ := id hAt
  have hT : ∀ w ∈ xw_g, w ∈ xc_ws xy_M_isDay xb_M_isDay 2 (some .boolean) := fun w h => List.mem_cons_of_mem _ h
  have hown : s.vm.findClass "WishLedgerModel" = some m.cls := hown
  have hl : lv_has ls 2 [(0, .ref m0), (1, .int d)] := hl
  refine lv_iload_n hx hb xj_M_isDay_0 rfl (lv_at hl 1 rfl) ?_
  refine lv_iconst (v := nI 0) hx hb xj_M_isDay_1 (by decide) ?_
  refine lv_aload_n hx hb xj_M_isDay_2 rfl (lv_at hl 0 rfl) ?_
  refine va_get (D := D) (ci := 6) (v := .int (nI dc)) (C := xn_M) (T := xn_TM) (N := 13) hx hb hgs xw_uM hown hK.1 hP 0 rfl rfl 2 (by decide) (hgs _ xw_532) (fun _ h9 => h9) rfl xj_M_isDay_3 ?_
  refine lv_iconst (v := nI 1) hx hb xj_M_isDay_6 (by decide) ?_
  refine lv_isub hx hb xj_M_isDay_7 ?_
  refine xc_callS (av := [.int d, .int (nI 0), .int ((nI dc) - (nI 1))]) (rest := []) hAt hT (xt_M_in l D cI cZ cJ d (nI 0) ((nI dc) - (nI 1))) xw_579 xw_7 xw_581 xw_580 (na := 3) rfl (by decide +kernel) ⟨Nat.le_of_ble_eq_true rfl, Nat.le_of_ble_eq_true rfl⟩ (hP.sub (ws' := []) [] rfl) hK hl.1 (Nat.le_of_ble_eq_true rfl) ⟨Nat.zero_le _, Nat.zero_le _⟩ xj_M_isDay_8 ?_
  exact xr_top (congrArg xf_bI (xo_day hd)) (hret _ _ xj_M_isDay_11)
set_option maxRecDepth 100000 in
set_option maxHeartbeats 4000000 in
theorem xt_M_forget (l : Launch) (D : va_G) (cI cZ cJ : ClassId) (m0 m1 m2 m3 m4 m5 m6 m7 m8 m9 m10 : Nat) (cd : Int32) (gc dc : Nat) (oP : Nat → Int32) (oA : Nat → Int32) : xc_Wv l xy_M_forget xb_M_forget 2 0 0 0 [.ref m0] D cI cZ cJ [(m0, .inr (6, [.int cd, .int (nI gc), .int (nI dc), .ref m1, .ref m2, .ref m3, .ref m4, .ref m5, .ref m6, .ref m7, .ref m8, .ref m9, .ref m10])), (m3, .inl (cI, 6, .inl oP)), (m4, .inl (cI, 6, .inl oA))] (Unit) (fun _ => True) (fun _ => [(m0, .inr (6, [.int cd, .int (nI gc), .int (nI dc), .ref m1, .ref m2, .ref m3, .ref m4, .ref m5, .ref m6, .ref m7, .ref m8, .ref m9, .ref m10])), (m3, .inl (cI, 6, .inl (xf_fill (fun _ => nI 1) 6 0 oP))), (m4, .inl (cI, 6, .inl (xf_fill (fun _ => nI 0) 6 0 oA)))]) := by
  refine xc_Wv_of (by decide) (Nat.le_of_ble_eq_true rfl) ?_
  intro p e s m args below meth c Q ls A hAt hin hP hK hD hA hS hl hret
  obtain ⟨hx, hb, hml, hown, hts, hgs, hlk⟩ := id hAt
  have hT : ∀ w ∈ xw_g, w ∈ xc_ws xy_M_forget xb_M_forget 2 (none) := fun w h => List.mem_cons_of_mem _ h
  have hown : s.vm.findClass "WishLedgerModel" = some m.cls := hown
  obtain ⟨H, hH0⟩ : ∃ H, H = s.heap := ⟨_, rfl⟩
  obtain ⟨locs, hL0⟩ : ∃ locs : List Loc, locs = [] := ⟨_, rfl⟩
  have hP : va_P D xn_cl [(m0, .inr (6, [.int cd, .int (nI gc), .int (nI dc), .ref m1, .ref m2, .ref m3, .ref m4, .ref m5, .ref m6, .ref m7, .ref m8, .ref m9, .ref m10])), (m3, .inl (cI, 6, .inl oP)), (m4, .inl (cI, 6, .inl oA))] H := by rw [hH0]; exact hP
  have hS : va_S A s.heap H locs := by rw [hH0, hL0]; exact hS
  suffices hgo : W p l e (xc_rm 0 0 0) s m args below meth c H locs 0 0 Q (F0 m 0 ls []) by rw [hH0, hL0] at hgo; exact hgo
  clear hH0 hL0
  have hl : lv_has ls 2 [(0, .ref m0)] := hl
  refine lv_iconst (v := nI 0) hx hb xj_M_forget_0 (by decide) ?_
  refine lv_istore_n (lv' := [(1, .int (nI 0)), (0, .ref m0)]) hx hb xj_M_forget_1 rfl hl (by decide) rfl (fun ls hl => ?_)
  have loop2 : ∀ (n : Nat) (i : Nat) (oP2 : Nat → Int32) (oA2 : Nat → Int32) (ls : Array Slot) (H : Heap) (locs : List Loc), i + n = 6 → (xf_fill (fun _ => nI 1) n i oP2 = xf_fill (fun _ => nI 1) 6 0 oP) → (xf_fill (fun _ => nI 0) n i oA2 = xf_fill (fun _ => nI 0) 6 0 oA) → lv_has ls 2 [(0, .ref m0), (1, .int (nI i))] → va_P D xn_cl [(m0, .inr (6, [.int cd, .int (nI gc), .int (nI dc), .ref m1, .ref m2, .ref m3, .ref m4, .ref m5, .ref m6, .ref m7, .ref m8, .ref m9, .ref m10])), (m3, .inl (cI, 6, .inl oP2)), (m4, .inl (cI, 6, .inl oA2))] H → va_D A [(m0, .inr (6, [.int cd, .int (nI gc), .int (nI dc), .ref m1, .ref m2, .ref m3, .ref m4, .ref m5, .ref m6, .ref m7, .ref m8, .ref m9, .ref m10])), (m3, .inl (cI, 6, .inl oP2)), (m4, .inl (cI, 6, .inl oA2))] → va_S A s.heap H locs → W p l e (xc_rm 0 0 0) s m args below meth c H locs 0 0 Q (F0 m 2 ls []) := by
    intro n
    induction n with
    | zero =>
      intro i oP2 oA2 ls H locs hi2 hp ha hl hP hD hS
      refine lv_iload_n hx hb xj_M_forget_2 rfl (lv_at hl 1 rfl) ?_
      refine lv_bipush (v := nI 6) hx hb xj_M_forget_3 (by decide) ?_
      refine xr_ge (tgt := 28) hx hb (by omega) (by omega) xj_M_forget_5 rfl (fun h5 => ?_) (fun h5 => absurd h5 (by omega))
      obtain rfl : oP2 = _ := hp
      obtain rfl : oA2 = _ := ha
      exact hret (()) H locs _ ls trivial hP hD hS xj_M_forget_28
    | succ n ih2 =>
      intro i oP2 oA2 ls H locs hi2 hp ha hl hP hD hS
      refine lv_iload_n hx hb xj_M_forget_2 rfl (lv_at hl 1 rfl) ?_
      refine lv_bipush (v := nI 6) hx hb xj_M_forget_3 (by decide) ?_
      refine xr_ge (tgt := 28) hx hb (by omega) (by omega) xj_M_forget_5 rfl (fun h5 => absurd h5 (by omega)) (fun h5 => ?_)
      refine lv_aload_n hx hb xj_M_forget_8 rfl (lv_at hl 0 rfl) ?_
      refine va_get (D := D) (ci := 6) (v := .ref m3) (C := xn_M) (T := xn_TM) (N := 13) hx hb hgs xw_uM hown hK.1 hP 0 rfl rfl 5 (by decide) (hgs _ xw_535) (fun _ h9 => h9) rfl xj_M_forget_9 ?_
      refine lv_iload_n hx hb xj_M_forget_12 rfl (lv_at hl 1 rfl) ?_
      refine lv_iconst (v := nI 1) hx hb xj_M_forget_13 (by decide) ?_
      refine xr_iast hx hb hK.1 hP hD hS 1 0 rfl rfl (by omega) (by decide) xj_M_forget_14 (fun H locs hP hD hS => ?_)
      have hP : va_P D xn_cl [(m0, .inr (6, [.int cd, .int (nI gc), .int (nI dc), .ref m1, .ref m2, .ref m3, .ref m4, .ref m5, .ref m6, .ref m7, .ref m8, .ref m9, .ref m10])), (m3, .inl (cI, 6, .inl (upd oP2 i (nI 1)))), (m4, .inl (cI, 6, .inl oA2))] H := hP
      have hD : va_D A [(m0, .inr (6, [.int cd, .int (nI gc), .int (nI dc), .ref m1, .ref m2, .ref m3, .ref m4, .ref m5, .ref m6, .ref m7, .ref m8, .ref m9, .ref m10])), (m3, .inl (cI, 6, .inl (upd oP2 i (nI 1)))), (m4, .inl (cI, 6, .inl oA2))] := hD
      refine lv_aload_n hx hb xj_M_forget_15 rfl (lv_at hl 0 rfl) ?_
      refine va_get (D := D) (ci := 6) (v := .ref m4) (C := xn_M) (T := xn_TM) (N := 13) hx hb hgs xw_uM hown hK.1 hP 0 rfl rfl 6 (by decide) (hgs _ xw_536) (fun _ h9 => h9) rfl xj_M_forget_16 ?_
      refine lv_iload_n hx hb xj_M_forget_19 rfl (lv_at hl 1 rfl) ?_
      refine lv_iconst (v := nI 0) hx hb xj_M_forget_20 (by decide) ?_
      refine xr_iast hx hb hK.1 hP hD hS 2 0 rfl rfl (by omega) (by decide) xj_M_forget_21 (fun H locs hP hD hS => ?_)
      have hP : va_P D xn_cl [(m0, .inr (6, [.int cd, .int (nI gc), .int (nI dc), .ref m1, .ref m2, .ref m3, .ref m4, .ref m5, .ref m6, .ref m7, .ref m8, .ref m9, .ref m10])), (m3, .inl (cI, 6, .inl (upd oP2 i (nI 1)))), (m4, .inl (cI, 6, .inl (upd oA2 i (nI 0))))] H := hP
      have hD : va_D A [(m0, .inr (6, [.int cd, .int (nI gc), .int (nI dc), .ref m1, .ref m2, .ref m3, .ref m4, .ref m5, .ref m6, .ref m7, .ref m8, .ref m9, .ref m10])), (m3, .inl (cI, 6, .inl (upd oP2 i (nI 1)))), (m4, .inl (cI, 6, .inl (upd oA2 i (nI 0))))] := hD
      refine lv_iinc (k := 1) (v := nI (i + 1)) (lv' := [(1, .int (nI (i + 1))), (0, .ref m0)]) hx hb xj_M_forget_22 hl rfl (xr_inc _) (by decide) rfl (fun ls hl => ?_)
      refine lv_goto (tgt := 2) hx hb xj_M_forget_25 rfl ?_
      exact ih2 (i + 1) (upd oP2 i (nI 1)) (upd oA2 i (nI 0)) ls _ _ (by omega) hp ha (lv_sub hl [1, 0] rfl) hP hD hS
  exact loop2 6 0 oP oA ls _ _ (by omega) rfl rfl (lv_sub hl [1, 0] rfl) hP hD hS
set_option maxRecDepth 100000 in
set_option maxHeartbeats 4000000 in
theorem xt_M_costs (l : Launch) (D : va_G) (cI cZ cJ : ClassId) (m0 m1 m2 m3 m4 m5 m6 m7 m8 m9 m10 : Nat) (cd : Int32) (gc dc : Nat) (P : Nat → Int32) (A0 : Nat → Int32) (s0 t0 : Nat) (hg : gc ≤ 6) (hs : s0 < 13) (ht : t0 < 13) : xc_R l xy_M_costs xb_M_costs 5 .int 0 [.ref m0, .int (nI s0), .int (nI t0)] D cI cZ cJ [(m0, .inr (6, [.int cd, .int (nI gc), .int (nI dc), .ref m1, .ref m2, .ref m3, .ref m4, .ref m5, .ref m6, .ref m7, .ref m8, .ref m9, .ref m10])), (m1, .inl (cI, 78, .inl P)), (m2, .inl (cI, 78, .inl A0))] (xk_c gc P A0 s0 t0) := by
  refine xc_R_of (by decide) (Nat.le_of_ble_eq_true rfl) rfl ?_
  intro p e s m args below meth c Q ls hAt hP hK hl hret
  obtain ⟨hx, hb, hml, hown, hts, hgs, hlk⟩ := id hAt
  have hT : ∀ w ∈ xw_g, w ∈ xc_ws xy_M_costs xb_M_costs 5 (some .int) := fun w h => List.mem_cons_of_mem _ h
  have hown : s.vm.findClass "WishLedgerModel" = some m.cls := hown
  have hl : lv_has ls 5 [(0, .ref m0), (1, .int (nI s0)), (2, .int (nI t0))] := hl
  refine lv_iconst (v := nI 0) hx hb xj_M_costs_0 (by decide) ?_
  refine lv_istore_n (lv' := [(3, .int (nI 0)), (0, .ref m0), (1, .int (nI s0)), (2, .int (nI t0))]) hx hb xj_M_costs_1 rfl hl (by decide) rfl (fun ls hl => ?_)
  refine lv_iconst (v := nI 0) hx hb xj_M_costs_2 (by decide) ?_
  refine lv_istore (lv' := [(4, .int (nI 0)), (3, .int (nI 0)), (0, .ref m0), (1, .int (nI s0)), (2, .int (nI t0))]) hx hb xj_M_costs_3 hl (by decide) rfl (fun ls hl => ?_)
  have loop5 : ∀ (n : Nat) (i : Nat) (x : Int32) (ls : Array Slot), i + n = gc → (xk_cost P A0 s0 t0 n i x = xk_c gc P A0 s0 t0) → lv_has ls 5 [(0, .ref m0), (1, .int (nI s0)), (2, .int (nI t0)), (3, .int x), (4, .int (nI i))] → W p l e (xc_rm 0 0 0) s m args below meth c s.heap [] 0 0 Q (F0 m 5 ls []) := by
    intro n
    induction n with
    | zero =>
      intro i x ls hi5 hr hl
      refine lv_iload hx hb xj_M_costs_5 (lv_at hl 4 rfl) ?_
      refine lv_aload_n hx hb xj_M_costs_7 rfl (lv_at hl 0 rfl) ?_
      refine va_get (D := D) (ci := 6) (v := .int (nI gc)) (C := xn_M) (T := xn_TM) (N := 13) hx hb hgs xw_uM hown hK.1 hP 0 rfl rfl 1 (by decide) (hgs _ xw_531) (fun _ h9 => h9) rfl xj_M_costs_8 ?_
      refine xr_ge (tgt := 48) hx hb (by omega) (by omega) xj_M_costs_11 rfl (fun h11 => ?_) (fun h11 => absurd h11 (by omega))
      refine lv_iload_n hx hb xj_M_costs_48 rfl (lv_at hl 3 rfl) ?_
      exact xr_top hr (hret _ _ xj_M_costs_49)
    | succ n ih5 =>
      intro i x ls hi5 hr hl
      refine lv_iload hx hb xj_M_costs_5 (lv_at hl 4 rfl) ?_
      refine lv_aload_n hx hb xj_M_costs_7 rfl (lv_at hl 0 rfl) ?_
      refine va_get (D := D) (ci := 6) (v := .int (nI gc)) (C := xn_M) (T := xn_TM) (N := 13) hx hb hgs xw_uM hown hK.1 hP 0 rfl rfl 1 (by decide) (hgs _ xw_531) (fun _ h9 => h9) rfl xj_M_costs_8 ?_
      refine xr_ge (tgt := 48) hx hb (by omega) (by omega) xj_M_costs_11 rfl (fun h11 => absurd h11 (by omega)) (fun h11 => ?_)
      refine lv_iload_n hx hb xj_M_costs_14 rfl (lv_at hl 3 rfl) ?_
      refine lv_aload_n hx hb xj_M_costs_15 rfl (lv_at hl 0 rfl) ?_
      refine va_get (D := D) (ci := 6) (v := .ref m1) (C := xn_M) (T := xn_TM) (N := 13) hx hb hgs xw_uM hown hK.1 hP 0 rfl rfl 3 (by decide) (hgs _ xw_533) (fun _ h9 => h9) rfl xj_M_costs_16 ?_
      refine lv_bipush (v := nI 6) hx hb xj_M_costs_19 (by decide) ?_
      refine lv_iload_n hx hb xj_M_costs_21 rfl (lv_at hl 1 rfl) ?_
      refine xr_imul hx hb xj_M_costs_22 ?_
      refine xr_top (y := nI (s0 * 6)) (congrArg nI (Nat.mul_comm 6 s0)) ?_
      refine lv_iload hx hb xj_M_costs_23 (lv_at hl 4 rfl) ?_
      refine xr_iadd hx hb xj_M_costs_25 ?_
      refine xr_iald hx hb hK.1 hP 1 0 rfl rfl (by omega) (by decide) xj_M_costs_26 ?_
      refine lv_aload_n hx hb xj_M_costs_27 rfl (lv_at hl 0 rfl) ?_
      refine va_get (D := D) (ci := 6) (v := .ref m2) (C := xn_M) (T := xn_TM) (N := 13) hx hb hgs xw_uM hown hK.1 hP 0 rfl rfl 4 (by decide) (hgs _ xw_534) (fun _ h9 => h9) rfl xj_M_costs_28 ?_
      refine lv_bipush (v := nI 6) hx hb xj_M_costs_31 (by decide) ?_
      refine lv_iload_n hx hb xj_M_costs_33 rfl (lv_at hl 2 rfl) ?_
      refine xr_imul hx hb xj_M_costs_34 ?_
      refine xr_top (y := nI (t0 * 6)) (congrArg nI (Nat.mul_comm 6 t0)) ?_
      refine lv_iload hx hb xj_M_costs_35 (lv_at hl 4 rfl) ?_
      refine xr_iadd hx hb xj_M_costs_37 ?_
      refine xr_iald hx hb hK.1 hP 2 0 rfl rfl (by omega) (by decide) xj_M_costs_38 ?_
      refine lv_imul hx hb xj_M_costs_39 ?_
      refine lv_iadd hx hb xj_M_costs_40 ?_
      refine lv_istore_n (lv' := [(3, .int (x + ((P ((s0 * 6) + i)) * (A0 ((t0 * 6) + i))))), (0, .ref m0), (1, .int (nI s0)), (2, .int (nI t0)), (4, .int (nI i))]) hx hb xj_M_costs_41 rfl hl (by decide) rfl (fun ls hl => ?_)
      refine lv_iinc (k := 4) (v := nI (i + 1)) (lv' := [(4, .int (nI (i + 1))), (3, .int (x + ((P ((s0 * 6) + i)) * (A0 ((t0 * 6) + i))))), (0, .ref m0), (1, .int (nI s0)), (2, .int (nI t0))]) hx hb xj_M_costs_42 hl rfl (xr_inc _) (by decide) rfl (fun ls hl => ?_)
      refine lv_goto (tgt := 5) hx hb xj_M_costs_45 rfl ?_
      exact ih5 (i + 1) (x + ((P ((s0 * 6) + i)) * (A0 ((t0 * 6) + i)))) ls (by omega) hr (lv_sub hl [2, 3, 4, 1, 0] rfl)
  exact loop5 gc 0 (nI 0) ls (by omega) rfl (lv_sub hl [2, 3, 4, 1, 0] rfl)
set_option maxRecDepth 100000 in
set_option maxHeartbeats 4000000 in
theorem xt_M_relate (l : Launch) (D : va_G) (cI cZ cJ : ClassId) (m0 m1 m2 m3 m4 m5 m6 m7 m8 m9 m10 : Nat) (cd : Int32) (gc dc : Nat) (P : Nat → Int32) (A0 : Nat → Int32) (gd : Nat → Bool) (bd : Nat → Bool) (lf : Nat → Bool) (k0 : Nat) (up dn : Int64) (hg : gc ≤ 6) (hk : k0 ≤ 13) : xc_Wv l xy_M_relate xb_M_relate 12 1 0 0 [.ref m0, .int (nI k0), .long up, .long dn] D cI cZ cJ [(m0, .inr (6, [.int cd, .int (nI gc), .int (nI dc), .ref m1, .ref m2, .ref m3, .ref m4, .ref m5, .ref m6, .ref m7, .ref m8, .ref m9, .ref m10])), (m1, .inl (cI, 78, .inl P)), (m2, .inl (cI, 78, .inl A0)), (m5, .inl (cZ, 169, .inl (xf_z gd))), (m6, .inl (cZ, 169, .inl (xf_z bd))), (m9, .inl (cZ, 13, .inl (xf_z lf)))] (Unit) (fun _ => True) (fun _ => [(m0, .inr (6, [.int cd, .int (nI gc), .int (nI dc), .ref m1, .ref m2, .ref m3, .ref m4, .ref m5, .ref m6, .ref m7, .ref m8, .ref m9, .ref m10])), (m1, .inl (cI, 78, .inl P)), (m2, .inl (cI, 78, .inl A0)), (m5, .inl (cZ, 169, .inl (xf_z (xm_G (xk_c gc P A0) up dn k0 gd)))), (m6, .inl (cZ, 169, .inl (xf_z (xm_B (xk_c gc P A0) up dn k0 bd)))), (m9, .inl (cZ, 13, .inl (xf_z (xm_L k0 lf))))]) := by
  refine xc_Wv_of (by decide) (Nat.le_of_ble_eq_true rfl) ?_
  intro p e s m args below meth c Q ls A hAt hin hP hK hD hA hS hl hret
  obtain ⟨hx, hb, hml, hown, hts, hgs, hlk⟩ := id hAt
  have hT : ∀ w ∈ xw_g, w ∈ xc_ws xy_M_relate xb_M_relate 12 (none) := fun w h => List.mem_cons_of_mem _ h
  have hown : s.vm.findClass "WishLedgerModel" = some m.cls := hown
  obtain ⟨H, hH0⟩ : ∃ H, H = s.heap := ⟨_, rfl⟩
  obtain ⟨locs, hL0⟩ : ∃ locs : List Loc, locs = [] := ⟨_, rfl⟩
  have hP : va_P D xn_cl [(m0, .inr (6, [.int cd, .int (nI gc), .int (nI dc), .ref m1, .ref m2, .ref m3, .ref m4, .ref m5, .ref m6, .ref m7, .ref m8, .ref m9, .ref m10])), (m1, .inl (cI, 78, .inl P)), (m2, .inl (cI, 78, .inl A0)), (m5, .inl (cZ, 169, .inl (xf_z gd))), (m6, .inl (cZ, 169, .inl (xf_z bd))), (m9, .inl (cZ, 13, .inl (xf_z lf)))] H := by rw [hH0]; exact hP
  have hS : va_S A s.heap H locs := by rw [hH0, hL0]; exact hS
  suffices hgo : W p l e (xc_rm 1 0 0) s m args below meth c H locs 0 0 Q (F0 m 0 ls []) by rw [hH0, hL0] at hgo; exact hgo
  clear hH0 hL0
  have hl : lv_has ls 12 [(0, .ref m0), (1, .int (nI k0)), (2, .long up), (4, .long dn)] := hl
  refine lv_iconst (v := nI 0) hx hb xj_M_relate_0 (by decide) ?_
  refine lv_istore (lv' := [(6, .int (nI 0)), (0, .ref m0), (1, .int (nI k0)), (2, .long up), (4, .long dn)]) hx hb xj_M_relate_1 hl (by decide) rfl (fun ls hl => ?_)
  have loop3 : ∀ (n : Nat) (i : Nat) (g2 : Nat → Bool) (b2 : Nat → Bool) (l2 : Nat → Bool) (ls : Array Slot) (H : Heap) (locs : List Loc), i + n = k0 → (xm_fr (xm_g (xk_c gc P A0) up dn) k0 n i g2 = xm_G (xk_c gc P A0) up dn k0 gd) → (xm_fr (xm_b (xk_c gc P A0) up dn) k0 n i b2 = xm_B (xk_c gc P A0) up dn k0 bd) → (xm_f1 (fun _ => true) n i l2 = xm_L k0 lf) → lv_has ls 12 [(0, .ref m0), (1, .int (nI k0)), (2, .long up), (4, .long dn), (6, .int (nI i))] → va_P D xn_cl [(m0, .inr (6, [.int cd, .int (nI gc), .int (nI dc), .ref m1, .ref m2, .ref m3, .ref m4, .ref m5, .ref m6, .ref m7, .ref m8, .ref m9, .ref m10])), (m1, .inl (cI, 78, .inl P)), (m2, .inl (cI, 78, .inl A0)), (m5, .inl (cZ, 169, .inl (xf_z g2))), (m6, .inl (cZ, 169, .inl (xf_z b2))), (m9, .inl (cZ, 13, .inl (xf_z l2)))] H → va_D A [(m0, .inr (6, [.int cd, .int (nI gc), .int (nI dc), .ref m1, .ref m2, .ref m3, .ref m4, .ref m5, .ref m6, .ref m7, .ref m8, .ref m9, .ref m10])), (m1, .inl (cI, 78, .inl P)), (m2, .inl (cI, 78, .inl A0)), (m5, .inl (cZ, 169, .inl (xf_z g2))), (m6, .inl (cZ, 169, .inl (xf_z b2))), (m9, .inl (cZ, 13, .inl (xf_z l2)))] → va_S A s.heap H locs → W p l e (xc_rm 1 0 0) s m args below meth c H locs 0 0 Q (F0 m 3 ls []) := by
    intro n
    induction n with
    | zero =>
      intro i g2 b2 l2 ls H locs hi3 hg1 hb1 hl1 hl hP hD hS
      refine lv_iload hx hb xj_M_relate_3 (lv_at hl 4 rfl) ?_
      refine lv_iload_n hx hb xj_M_relate_5 rfl (lv_at hl 1 rfl) ?_
      refine xr_ge (tgt := 131) hx hb (by omega) (by omega) xj_M_relate_6 rfl (fun h6 => ?_) (fun h6 => absurd h6 (by omega))
      obtain rfl : g2 = _ := hg1
      obtain rfl : b2 = _ := hb1
      obtain rfl : l2 = _ := hl1
      exact hret (()) H locs _ ls trivial hP hD hS xj_M_relate_131
    | succ n ih3 =>
      intro i g2 b2 l2 ls H locs hi3 hg1 hb1 hl1 hl hP hD hS
      refine lv_iload hx hb xj_M_relate_3 (lv_at hl 4 rfl) ?_
      refine lv_iload_n hx hb xj_M_relate_5 rfl (lv_at hl 1 rfl) ?_
      refine xr_ge (tgt := 131) hx hb (by omega) (by omega) xj_M_relate_6 rfl (fun h6 => absurd h6 (by omega)) (fun h6 => ?_)
      refine lv_aload_n hx hb xj_M_relate_9 rfl (lv_at hl 0 rfl) ?_
      refine va_get (D := D) (ci := 6) (v := .ref m9) (C := xn_M) (T := xn_TM) (N := 13) hx hb hgs xw_uM hown hK.1 hP 0 rfl rfl 11 (by decide) (hgs _ xw_541) (fun _ h9 => h9) rfl xj_M_relate_10 ?_
      refine lv_iload hx hb xj_M_relate_13 (lv_at hl 4 rfl) ?_
      refine lv_iconst (v := nI 1) hx hb xj_M_relate_15 (by decide) ?_
      refine xr_topz (b := true) rfl ?_
      refine xr_zast hx hb hK.1 hP hD hS 5 1 rfl rfl (by omega) (by decide) xj_M_relate_16 (fun H locs hP hD hS => ?_)
      rw [xf_z_up] at hP hD
      have hP : va_P D xn_cl [(m0, .inr (6, [.int cd, .int (nI gc), .int (nI dc), .ref m1, .ref m2, .ref m3, .ref m4, .ref m5, .ref m6, .ref m7, .ref m8, .ref m9, .ref m10])), (m1, .inl (cI, 78, .inl P)), (m2, .inl (cI, 78, .inl A0)), (m5, .inl (cZ, 169, .inl (xf_z g2))), (m6, .inl (cZ, 169, .inl (xf_z b2))), (m9, .inl (cZ, 13, .inl (xf_z (va_up l2 i true))))] H := hP
      have hD : va_D A [(m0, .inr (6, [.int cd, .int (nI gc), .int (nI dc), .ref m1, .ref m2, .ref m3, .ref m4, .ref m5, .ref m6, .ref m7, .ref m8, .ref m9, .ref m10])), (m1, .inl (cI, 78, .inl P)), (m2, .inl (cI, 78, .inl A0)), (m5, .inl (cZ, 169, .inl (xf_z g2))), (m6, .inl (cZ, 169, .inl (xf_z b2))), (m9, .inl (cZ, 13, .inl (xf_z (va_up l2 i true))))] := hD
      refine lv_iconst (v := nI 0) hx hb xj_M_relate_17 (by decide) ?_
      refine lv_istore (lv' := [(7, .int (nI 0)), (0, .ref m0), (1, .int (nI k0)), (2, .long up), (4, .long dn), (6, .int (nI i))]) hx hb xj_M_relate_18 hl (by decide) rfl (fun ls hl => ?_)
      have loop20 : ∀ (k : Nat) (j : Nat) (g3 : Nat → Bool) (b3 : Nat → Bool) (ls : Array Slot) (H : Heap) (locs : List Loc), j + k = k0 → (xm_f2 (xm_g (xk_c gc P A0) up dn i) (13 * i) k j g3 = xm_f2 (xm_g (xk_c gc P A0) up dn i) (13 * i) k0 0 g2) → (xm_f2 (xm_b (xk_c gc P A0) up dn i) (13 * i) k j b3 = xm_f2 (xm_b (xk_c gc P A0) up dn i) (13 * i) k0 0 b2) → lv_has ls 12 [(0, .ref m0), (1, .int (nI k0)), (2, .long up), (4, .long dn), (6, .int (nI i)), (7, .int (nI j))] → va_P D xn_cl [(m0, .inr (6, [.int cd, .int (nI gc), .int (nI dc), .ref m1, .ref m2, .ref m3, .ref m4, .ref m5, .ref m6, .ref m7, .ref m8, .ref m9, .ref m10])), (m1, .inl (cI, 78, .inl P)), (m2, .inl (cI, 78, .inl A0)), (m5, .inl (cZ, 169, .inl (xf_z g3))), (m6, .inl (cZ, 169, .inl (xf_z b3))), (m9, .inl (cZ, 13, .inl (xf_z (va_up l2 i true))))] H → va_D A [(m0, .inr (6, [.int cd, .int (nI gc), .int (nI dc), .ref m1, .ref m2, .ref m3, .ref m4, .ref m5, .ref m6, .ref m7, .ref m8, .ref m9, .ref m10])), (m1, .inl (cI, 78, .inl P)), (m2, .inl (cI, 78, .inl A0)), (m5, .inl (cZ, 169, .inl (xf_z g3))), (m6, .inl (cZ, 169, .inl (xf_z b3))), (m9, .inl (cZ, 13, .inl (xf_z (va_up l2 i true))))] → va_S A s.heap H locs → W p l e (xc_rm 1 0 0) s m args below meth c H locs 0 0 Q (F0 m 20 ls []) := by
        intro k
        induction k with
        | zero =>
          intro j g3 b3 ls H locs hi20 hg2 hb2 hl hP hD hS
          refine lv_iload hx hb xj_M_relate_20 (lv_at hl 5 rfl) ?_
          refine lv_iload_n hx hb xj_M_relate_22 rfl (lv_at hl 1 rfl) ?_
          refine xr_ge (tgt := 125) hx hb (by omega) (by omega) xj_M_relate_23 rfl (fun h23 => ?_) (fun h23 => absurd h23 (by omega))
          refine lv_iinc (k := 4) (v := nI (i + 1)) (lv' := [(6, .int (nI (i + 1))), (0, .ref m0), (1, .int (nI k0)), (2, .long up), (4, .long dn), (7, .int (nI j))]) hx hb xj_M_relate_125 hl rfl (xr_inc _) (by decide) rfl (fun ls hl => ?_)
          refine lv_goto (tgt := 3) hx hb xj_M_relate_128 rfl ?_
          exact ih3 (i + 1) g3 b3 ((va_up l2 i true)) ls _ _ (by omega) (by rw [show g3 = _ from hg2]; exact hg1) (by rw [show b3 = _ from hb2]; exact hb1) hl1 (lv_sub hl [1, 2, 3, 4, 0] rfl) hP hD hS
        | succ k ih20 =>
          intro j g3 b3 ls H locs hi20 hg2 hb2 hl hP hD hS
          refine lv_iload hx hb xj_M_relate_20 (lv_at hl 5 rfl) ?_
          refine lv_iload_n hx hb xj_M_relate_22 rfl (lv_at hl 1 rfl) ?_
          refine xr_ge (tgt := 125) hx hb (by omega) (by omega) xj_M_relate_23 rfl (fun h23 => absurd h23 (by omega)) (fun h23 => ?_)
          refine lv_lload_n hx hb xj_M_relate_26 rfl (lv_at hl 2 rfl) ?_
          refine lv_aload_n hx hb xj_M_relate_27 rfl (lv_at hl 0 rfl) ?_
          refine lv_iload hx hb xj_M_relate_28 (lv_at hl 4 rfl) ?_
          refine lv_iload hx hb xj_M_relate_30 (lv_at hl 4 rfl) ?_
          refine xc_callV (av := [.int (nI i), .int (nI i)]) (rest := [.long up]) hAt hT (xt_M_costs l D cI cZ cJ m0 m1 m2 m3 m4 m5 m6 m7 m8 m9 m10 cd gc dc P A0 i i (by omega) (by omega) (by omega)) xw_606 xw_7 xw_609 xw_608 xs_M_costs (C0 := xn_M) (q0 := 0) rfl rfl (na := 2) rfl (by decide +kernel) ⟨Nat.le_of_ble_eq_true rfl, Nat.le_of_ble_eq_true rfl⟩ (hP.sub (ws' := [(m0, .inr (6, [.int cd, .int (nI gc), .int (nI dc), .ref m1, .ref m2, .ref m3, .ref m4, .ref m5, .ref m6, .ref m7, .ref m8, .ref m9, .ref m10])), (m1, .inl (cI, 78, .inl P)), (m2, .inl (cI, 78, .inl A0))]) [0, 1, 2] rfl) hK hl.1 (Nat.le_of_ble_eq_true rfl) ⟨Nat.zero_le _, Nat.zero_le _⟩ xj_M_relate_32 ?_
          refine lv_i2l hx hb xj_M_relate_35 rfl ?_
          refine lv_lmul hx hb xj_M_relate_36 ?_
          refine lv_lstore (lv' := [(8, .long (up * ((xk_c gc P A0 i i).toInt64))), (0, .ref m0), (1, .int (nI k0)), (2, .long up), (4, .long dn), (6, .int (nI i)), (7, .int (nI j))]) hx hb xj_M_relate_37 hl (by decide) rfl (fun ls hl => ?_)
          refine lv_lload hx hb xj_M_relate_39 (lv_at hl 4 rfl) ?_
          refine lv_aload_n hx hb xj_M_relate_41 rfl (lv_at hl 1 rfl) ?_
          refine lv_iload hx hb xj_M_relate_42 (lv_at hl 5 rfl) ?_
          refine lv_iload hx hb xj_M_relate_44 (lv_at hl 6 rfl) ?_
          refine xc_callV (av := [.int (nI i), .int (nI j)]) (rest := [.long dn]) hAt hT (xt_M_costs l D cI cZ cJ m0 m1 m2 m3 m4 m5 m6 m7 m8 m9 m10 cd gc dc P A0 i j (by omega) (by omega) (by omega)) xw_606 xw_7 xw_609 xw_608 xs_M_costs (C0 := xn_M) (q0 := 0) rfl rfl (na := 2) rfl (by decide +kernel) ⟨Nat.le_of_ble_eq_true rfl, Nat.le_of_ble_eq_true rfl⟩ (hP.sub (ws' := [(m0, .inr (6, [.int cd, .int (nI gc), .int (nI dc), .ref m1, .ref m2, .ref m3, .ref m4, .ref m5, .ref m6, .ref m7, .ref m8, .ref m9, .ref m10])), (m1, .inl (cI, 78, .inl P)), (m2, .inl (cI, 78, .inl A0))]) [0, 1, 2] rfl) hK hl.1 (Nat.le_of_ble_eq_true rfl) ⟨Nat.zero_le _, Nat.zero_le _⟩ xj_M_relate_46 ?_
          refine lv_i2l hx hb xj_M_relate_49 rfl ?_
          refine lv_lmul hx hb xj_M_relate_50 ?_
          refine lv_lstore (lv' := [(10, .long (dn * ((xk_c gc P A0 i j).toInt64))), (8, .long (up * ((xk_c gc P A0 i i).toInt64))), (0, .ref m0), (1, .int (nI k0)), (2, .long up), (4, .long dn), (6, .int (nI i)), (7, .int (nI j))]) hx hb xj_M_relate_51 hl (by decide) rfl (fun ls hl => ?_)
          refine lv_aload_n hx hb xj_M_relate_53 rfl (lv_at hl 2 rfl) ?_
          refine va_get (D := D) (ci := 6) (v := .ref m5) (C := xn_M) (T := xn_TM) (N := 13) hx hb hgs xw_uM hown hK.1 hP 0 rfl rfl 7 (by decide) (hgs _ xw_537) (fun _ h9 => h9) rfl xj_M_relate_54 ?_
          refine lv_bipush (v := nI 13) hx hb xj_M_relate_57 (by decide) ?_
          refine lv_iload hx hb xj_M_relate_59 (lv_at hl 6 rfl) ?_
          refine xr_imul hx hb xj_M_relate_61 ?_
          refine lv_iload hx hb xj_M_relate_62 (lv_at hl 7 rfl) ?_
          refine xr_iadd hx hb xj_M_relate_64 ?_
          refine lv_iload hx hb xj_M_relate_65 (lv_at hl 6 rfl) ?_
          refine lv_iload hx hb xj_M_relate_67 (lv_at hl 7 rfl) ?_
          refine xr_eq (tgt := 80) hx hb (by omega) (by omega) xj_M_relate_69 rfl (fun h69 => ?_) (fun h69 => ?_)
          · -- 80
            refine lv_iconst (v := nI 1) hx hb xj_M_relate_80 (by decide) ?_
            refine lv_goto (tgt := 85) hx hb xj_M_relate_81 rfl ?_
            refine xr_topz (b := true) rfl ?_
            refine xr_zast hx hb hK.1 hP hD hS 3 1 rfl rfl (by omega) (by decide) xj_M_relate_85 (fun H locs hP hD hS => ?_)
            rw [xf_z_up] at hP hD
            have hP : va_P D xn_cl [(m0, .inr (6, [.int cd, .int (nI gc), .int (nI dc), .ref m1, .ref m2, .ref m3, .ref m4, .ref m5, .ref m6, .ref m7, .ref m8, .ref m9, .ref m10])), (m1, .inl (cI, 78, .inl P)), (m2, .inl (cI, 78, .inl A0)), (m5, .inl (cZ, 169, .inl (xf_z (va_up g3 ((13 * i) + j) true)))), (m6, .inl (cZ, 169, .inl (xf_z b3))), (m9, .inl (cZ, 13, .inl (xf_z (va_up l2 i true))))] H := hP
            have hD : va_D A [(m0, .inr (6, [.int cd, .int (nI gc), .int (nI dc), .ref m1, .ref m2, .ref m3, .ref m4, .ref m5, .ref m6, .ref m7, .ref m8, .ref m9, .ref m10])), (m1, .inl (cI, 78, .inl P)), (m2, .inl (cI, 78, .inl A0)), (m5, .inl (cZ, 169, .inl (xf_z (va_up g3 ((13 * i) + j) true)))), (m6, .inl (cZ, 169, .inl (xf_z b3))), (m9, .inl (cZ, 13, .inl (xf_z (va_up l2 i true))))] := hD
            refine lv_aload_n hx hb xj_M_relate_86 rfl (lv_at hl 2 rfl) ?_
            refine va_get (D := D) (ci := 6) (v := .ref m6) (C := xn_M) (T := xn_TM) (N := 13) hx hb hgs xw_uM hown hK.1 hP 0 rfl rfl 8 (by decide) (hgs _ xw_538) (fun _ h9 => h9) rfl xj_M_relate_87 ?_
            refine lv_bipush (v := nI 13) hx hb xj_M_relate_90 (by decide) ?_
            refine lv_iload hx hb xj_M_relate_92 (lv_at hl 6 rfl) ?_
            refine xr_imul hx hb xj_M_relate_94 ?_
            refine lv_iload hx hb xj_M_relate_95 (lv_at hl 7 rfl) ?_
            refine xr_iadd hx hb xj_M_relate_97 ?_
            refine lv_iload hx hb xj_M_relate_98 (lv_at hl 6 rfl) ?_
            refine lv_iload hx hb xj_M_relate_100 (lv_at hl 7 rfl) ?_
            refine xr_eq (tgt := 117) hx hb (by omega) (by omega) xj_M_relate_102 rfl (fun h102 => ?_) (fun h102 => ?_)
            · -- 117
              refine lv_iconst (v := nI 0) hx hb xj_M_relate_117 (by decide) ?_
              refine xr_topz (b := false) rfl ?_
              refine xr_zast hx hb hK.1 hP hD hS 4 1 rfl rfl (by omega) (by decide) xj_M_relate_118 (fun H locs hP hD hS => ?_)
              rw [xf_z_up] at hP hD
              have hP : va_P D xn_cl [(m0, .inr (6, [.int cd, .int (nI gc), .int (nI dc), .ref m1, .ref m2, .ref m3, .ref m4, .ref m5, .ref m6, .ref m7, .ref m8, .ref m9, .ref m10])), (m1, .inl (cI, 78, .inl P)), (m2, .inl (cI, 78, .inl A0)), (m5, .inl (cZ, 169, .inl (xf_z (va_up g3 ((13 * i) + j) true)))), (m6, .inl (cZ, 169, .inl (xf_z (va_up b3 ((13 * i) + j) false)))), (m9, .inl (cZ, 13, .inl (xf_z (va_up l2 i true))))] H := hP
              have hD : va_D A [(m0, .inr (6, [.int cd, .int (nI gc), .int (nI dc), .ref m1, .ref m2, .ref m3, .ref m4, .ref m5, .ref m6, .ref m7, .ref m8, .ref m9, .ref m10])), (m1, .inl (cI, 78, .inl P)), (m2, .inl (cI, 78, .inl A0)), (m5, .inl (cZ, 169, .inl (xf_z (va_up g3 ((13 * i) + j) true)))), (m6, .inl (cZ, 169, .inl (xf_z (va_up b3 ((13 * i) + j) false)))), (m9, .inl (cZ, 13, .inl (xf_z (va_up l2 i true))))] := hD
              refine lv_iinc (k := 7) (v := nI (j + 1)) (lv' := [(7, .int (nI (j + 1))), (10, .long (dn * ((xk_c gc P A0 i j).toInt64))), (8, .long (up * ((xk_c gc P A0 i i).toInt64))), (0, .ref m0), (1, .int (nI k0)), (2, .long up), (4, .long dn), (6, .int (nI i))]) hx hb xj_M_relate_119 hl rfl (xr_inc _) (by decide) rfl (fun ls hl => ?_)
              refine lv_goto (tgt := 20) hx hb xj_M_relate_122 rfl ?_
              exact ih20 (j + 1) ((va_up g3 ((13 * i) + j) true)) ((va_up b3 ((13 * i) + j) false)) ls _ _ (by omega) ((xm_f2_s (f := xm_g (xk_c gc P A0) up dn i) (xm_g_e h69)).symm.trans hg2) ((xm_f2_s (f := xm_b (xk_c gc P A0) up dn i) (xm_b_e h102)).symm.trans hb2) (lv_sub hl [3, 4, 5, 6, 7, 0] rfl) hP hD hS
            · -- 105
              refine lv_lload hx hb xj_M_relate_105 (lv_at hl 0 rfl) ?_
              refine lv_lload hx hb xj_M_relate_107 (lv_at hl 1 rfl) ?_
              refine xr_lge (tgt := 117) hx hb xj_M_relate_109 xj_M_relate_110 rfl (fun h110 => ?_) (fun h110 => ?_)
              · -- 117
                refine lv_iconst (v := nI 0) hx hb xj_M_relate_117 (by decide) ?_
                refine xr_topz (b := false) rfl ?_
                refine xr_zast hx hb hK.1 hP hD hS 4 1 rfl rfl (by omega) (by decide) xj_M_relate_118 (fun H locs hP hD hS => ?_)
                rw [xf_z_up] at hP hD
                have hP : va_P D xn_cl [(m0, .inr (6, [.int cd, .int (nI gc), .int (nI dc), .ref m1, .ref m2, .ref m3, .ref m4, .ref m5, .ref m6, .ref m7, .ref m8, .ref m9, .ref m10])), (m1, .inl (cI, 78, .inl P)), (m2, .inl (cI, 78, .inl A0)), (m5, .inl (cZ, 169, .inl (xf_z (va_up g3 ((13 * i) + j) true)))), (m6, .inl (cZ, 169, .inl (xf_z (va_up b3 ((13 * i) + j) false)))), (m9, .inl (cZ, 13, .inl (xf_z (va_up l2 i true))))] H := hP
                have hD : va_D A [(m0, .inr (6, [.int cd, .int (nI gc), .int (nI dc), .ref m1, .ref m2, .ref m3, .ref m4, .ref m5, .ref m6, .ref m7, .ref m8, .ref m9, .ref m10])), (m1, .inl (cI, 78, .inl P)), (m2, .inl (cI, 78, .inl A0)), (m5, .inl (cZ, 169, .inl (xf_z (va_up g3 ((13 * i) + j) true)))), (m6, .inl (cZ, 169, .inl (xf_z (va_up b3 ((13 * i) + j) false)))), (m9, .inl (cZ, 13, .inl (xf_z (va_up l2 i true))))] := hD
                refine lv_iinc (k := 7) (v := nI (j + 1)) (lv' := [(7, .int (nI (j + 1))), (10, .long (dn * ((xk_c gc P A0 i j).toInt64))), (8, .long (up * ((xk_c gc P A0 i i).toInt64))), (0, .ref m0), (1, .int (nI k0)), (2, .long up), (4, .long dn), (6, .int (nI i))]) hx hb xj_M_relate_119 hl rfl (xr_inc _) (by decide) rfl (fun ls hl => ?_)
                refine lv_goto (tgt := 20) hx hb xj_M_relate_122 rfl ?_
                exact ih20 (j + 1) ((va_up g3 ((13 * i) + j) true)) ((va_up b3 ((13 * i) + j) false)) ls _ _ (by omega) ((xm_f2_s (f := xm_g (xk_c gc P A0) up dn i) (xm_g_e h69)).symm.trans hg2) ((xm_f2_s (f := xm_b (xk_c gc P A0) up dn i) (xm_b_f h110)).symm.trans hb2) (lv_sub hl [3, 4, 5, 6, 7, 0] rfl) hP hD hS
              · -- 113
                refine lv_iconst (v := nI 1) hx hb xj_M_relate_113 (by decide) ?_
                refine lv_goto (tgt := 118) hx hb xj_M_relate_114 rfl ?_
                refine xr_topz (b := true) rfl ?_
                refine xr_zast hx hb hK.1 hP hD hS 4 1 rfl rfl (by omega) (by decide) xj_M_relate_118 (fun H locs hP hD hS => ?_)
                rw [xf_z_up] at hP hD
                have hP : va_P D xn_cl [(m0, .inr (6, [.int cd, .int (nI gc), .int (nI dc), .ref m1, .ref m2, .ref m3, .ref m4, .ref m5, .ref m6, .ref m7, .ref m8, .ref m9, .ref m10])), (m1, .inl (cI, 78, .inl P)), (m2, .inl (cI, 78, .inl A0)), (m5, .inl (cZ, 169, .inl (xf_z (va_up g3 ((13 * i) + j) true)))), (m6, .inl (cZ, 169, .inl (xf_z (va_up b3 ((13 * i) + j) true)))), (m9, .inl (cZ, 13, .inl (xf_z (va_up l2 i true))))] H := hP
                have hD : va_D A [(m0, .inr (6, [.int cd, .int (nI gc), .int (nI dc), .ref m1, .ref m2, .ref m3, .ref m4, .ref m5, .ref m6, .ref m7, .ref m8, .ref m9, .ref m10])), (m1, .inl (cI, 78, .inl P)), (m2, .inl (cI, 78, .inl A0)), (m5, .inl (cZ, 169, .inl (xf_z (va_up g3 ((13 * i) + j) true)))), (m6, .inl (cZ, 169, .inl (xf_z (va_up b3 ((13 * i) + j) true)))), (m9, .inl (cZ, 13, .inl (xf_z (va_up l2 i true))))] := hD
                refine lv_iinc (k := 7) (v := nI (j + 1)) (lv' := [(7, .int (nI (j + 1))), (10, .long (dn * ((xk_c gc P A0 i j).toInt64))), (8, .long (up * ((xk_c gc P A0 i i).toInt64))), (0, .ref m0), (1, .int (nI k0)), (2, .long up), (4, .long dn), (6, .int (nI i))]) hx hb xj_M_relate_119 hl rfl (xr_inc _) (by decide) rfl (fun ls hl => ?_)
                refine lv_goto (tgt := 20) hx hb xj_M_relate_122 rfl ?_
                exact ih20 (j + 1) ((va_up g3 ((13 * i) + j) true)) ((va_up b3 ((13 * i) + j) true)) ls _ _ (by omega) ((xm_f2_s (f := xm_g (xk_c gc P A0) up dn i) (xm_g_e h69)).symm.trans hg2) ((xm_f2_s (f := xm_b (xk_c gc P A0) up dn i) (xm_b_t h102 h110)).symm.trans hb2) (lv_sub hl [3, 4, 5, 6, 7, 0] rfl) hP hD hS
          · -- 72
            refine lv_lload hx hb xj_M_relate_72 (lv_at hl 0 rfl) ?_
            refine lv_lload hx hb xj_M_relate_74 (lv_at hl 1 rfl) ?_
            refine xr_lgt (tgt := 84) hx hb xj_M_relate_76 xj_M_relate_77 rfl (fun h77 => ?_) (fun h77 => ?_)
            · -- 84
              refine lv_iconst (v := nI 0) hx hb xj_M_relate_84 (by decide) ?_
              refine xr_topz (b := false) rfl ?_
              refine xr_zast hx hb hK.1 hP hD hS 3 1 rfl rfl (by omega) (by decide) xj_M_relate_85 (fun H locs hP hD hS => ?_)
              rw [xf_z_up] at hP hD
              have hP : va_P D xn_cl [(m0, .inr (6, [.int cd, .int (nI gc), .int (nI dc), .ref m1, .ref m2, .ref m3, .ref m4, .ref m5, .ref m6, .ref m7, .ref m8, .ref m9, .ref m10])), (m1, .inl (cI, 78, .inl P)), (m2, .inl (cI, 78, .inl A0)), (m5, .inl (cZ, 169, .inl (xf_z (va_up g3 ((13 * i) + j) false)))), (m6, .inl (cZ, 169, .inl (xf_z b3))), (m9, .inl (cZ, 13, .inl (xf_z (va_up l2 i true))))] H := hP
              have hD : va_D A [(m0, .inr (6, [.int cd, .int (nI gc), .int (nI dc), .ref m1, .ref m2, .ref m3, .ref m4, .ref m5, .ref m6, .ref m7, .ref m8, .ref m9, .ref m10])), (m1, .inl (cI, 78, .inl P)), (m2, .inl (cI, 78, .inl A0)), (m5, .inl (cZ, 169, .inl (xf_z (va_up g3 ((13 * i) + j) false)))), (m6, .inl (cZ, 169, .inl (xf_z b3))), (m9, .inl (cZ, 13, .inl (xf_z (va_up l2 i true))))] := hD
              refine lv_aload_n hx hb xj_M_relate_86 rfl (lv_at hl 2 rfl) ?_
              refine va_get (D := D) (ci := 6) (v := .ref m6) (C := xn_M) (T := xn_TM) (N := 13) hx hb hgs xw_uM hown hK.1 hP 0 rfl rfl 8 (by decide) (hgs _ xw_538) (fun _ h9 => h9) rfl xj_M_relate_87 ?_
              refine lv_bipush (v := nI 13) hx hb xj_M_relate_90 (by decide) ?_
              refine lv_iload hx hb xj_M_relate_92 (lv_at hl 6 rfl) ?_
              refine xr_imul hx hb xj_M_relate_94 ?_
              refine lv_iload hx hb xj_M_relate_95 (lv_at hl 7 rfl) ?_
              refine xr_iadd hx hb xj_M_relate_97 ?_
              refine lv_iload hx hb xj_M_relate_98 (lv_at hl 6 rfl) ?_
              refine lv_iload hx hb xj_M_relate_100 (lv_at hl 7 rfl) ?_
              refine xr_eq (tgt := 117) hx hb (by omega) (by omega) xj_M_relate_102 rfl (fun h102 => ?_) (fun h102 => ?_)
              · -- 117
                refine lv_iconst (v := nI 0) hx hb xj_M_relate_117 (by decide) ?_
                refine xr_topz (b := false) rfl ?_
                refine xr_zast hx hb hK.1 hP hD hS 4 1 rfl rfl (by omega) (by decide) xj_M_relate_118 (fun H locs hP hD hS => ?_)
                rw [xf_z_up] at hP hD
                have hP : va_P D xn_cl [(m0, .inr (6, [.int cd, .int (nI gc), .int (nI dc), .ref m1, .ref m2, .ref m3, .ref m4, .ref m5, .ref m6, .ref m7, .ref m8, .ref m9, .ref m10])), (m1, .inl (cI, 78, .inl P)), (m2, .inl (cI, 78, .inl A0)), (m5, .inl (cZ, 169, .inl (xf_z (va_up g3 ((13 * i) + j) false)))), (m6, .inl (cZ, 169, .inl (xf_z (va_up b3 ((13 * i) + j) false)))), (m9, .inl (cZ, 13, .inl (xf_z (va_up l2 i true))))] H := hP
                have hD : va_D A [(m0, .inr (6, [.int cd, .int (nI gc), .int (nI dc), .ref m1, .ref m2, .ref m3, .ref m4, .ref m5, .ref m6, .ref m7, .ref m8, .ref m9, .ref m10])), (m1, .inl (cI, 78, .inl P)), (m2, .inl (cI, 78, .inl A0)), (m5, .inl (cZ, 169, .inl (xf_z (va_up g3 ((13 * i) + j) false)))), (m6, .inl (cZ, 169, .inl (xf_z (va_up b3 ((13 * i) + j) false)))), (m9, .inl (cZ, 13, .inl (xf_z (va_up l2 i true))))] := hD
                refine lv_iinc (k := 7) (v := nI (j + 1)) (lv' := [(7, .int (nI (j + 1))), (10, .long (dn * ((xk_c gc P A0 i j).toInt64))), (8, .long (up * ((xk_c gc P A0 i i).toInt64))), (0, .ref m0), (1, .int (nI k0)), (2, .long up), (4, .long dn), (6, .int (nI i))]) hx hb xj_M_relate_119 hl rfl (xr_inc _) (by decide) rfl (fun ls hl => ?_)
                refine lv_goto (tgt := 20) hx hb xj_M_relate_122 rfl ?_
                exact ih20 (j + 1) ((va_up g3 ((13 * i) + j) false)) ((va_up b3 ((13 * i) + j) false)) ls _ _ (by omega) ((xm_f2_s (f := xm_g (xk_c gc P A0) up dn i) (xm_g_f h69 h77)).symm.trans hg2) ((xm_f2_s (f := xm_b (xk_c gc P A0) up dn i) (xm_b_e h102)).symm.trans hb2) (lv_sub hl [3, 4, 5, 6, 7, 0] rfl) hP hD hS
              · -- 105
                refine lv_lload hx hb xj_M_relate_105 (lv_at hl 0 rfl) ?_
                refine lv_lload hx hb xj_M_relate_107 (lv_at hl 1 rfl) ?_
                refine xr_lge (tgt := 117) hx hb xj_M_relate_109 xj_M_relate_110 rfl (fun h110 => ?_) (fun h110 => ?_)
                · -- 117
                  refine lv_iconst (v := nI 0) hx hb xj_M_relate_117 (by decide) ?_
                  refine xr_topz (b := false) rfl ?_
                  refine xr_zast hx hb hK.1 hP hD hS 4 1 rfl rfl (by omega) (by decide) xj_M_relate_118 (fun H locs hP hD hS => ?_)
                  rw [xf_z_up] at hP hD
                  have hP : va_P D xn_cl [(m0, .inr (6, [.int cd, .int (nI gc), .int (nI dc), .ref m1, .ref m2, .ref m3, .ref m4, .ref m5, .ref m6, .ref m7, .ref m8, .ref m9, .ref m10])), (m1, .inl (cI, 78, .inl P)), (m2, .inl (cI, 78, .inl A0)), (m5, .inl (cZ, 169, .inl (xf_z (va_up g3 ((13 * i) + j) false)))), (m6, .inl (cZ, 169, .inl (xf_z (va_up b3 ((13 * i) + j) false)))), (m9, .inl (cZ, 13, .inl (xf_z (va_up l2 i true))))] H := hP
                  have hD : va_D A [(m0, .inr (6, [.int cd, .int (nI gc), .int (nI dc), .ref m1, .ref m2, .ref m3, .ref m4, .ref m5, .ref m6, .ref m7, .ref m8, .ref m9, .ref m10])), (m1, .inl (cI, 78, .inl P)), (m2, .inl (cI, 78, .inl A0)), (m5, .inl (cZ, 169, .inl (xf_z (va_up g3 ((13 * i) + j) false)))), (m6, .inl (cZ, 169, .inl (xf_z (va_up b3 ((13 * i) + j) false)))), (m9, .inl (cZ, 13, .inl (xf_z (va_up l2 i true))))] := hD
                  refine lv_iinc (k := 7) (v := nI (j + 1)) (lv' := [(7, .int (nI (j + 1))), (10, .long (dn * ((xk_c gc P A0 i j).toInt64))), (8, .long (up * ((xk_c gc P A0 i i).toInt64))), (0, .ref m0), (1, .int (nI k0)), (2, .long up), (4, .long dn), (6, .int (nI i))]) hx hb xj_M_relate_119 hl rfl (xr_inc _) (by decide) rfl (fun ls hl => ?_)
                  refine lv_goto (tgt := 20) hx hb xj_M_relate_122 rfl ?_
                  exact ih20 (j + 1) ((va_up g3 ((13 * i) + j) false)) ((va_up b3 ((13 * i) + j) false)) ls _ _ (by omega) ((xm_f2_s (f := xm_g (xk_c gc P A0) up dn i) (xm_g_f h69 h77)).symm.trans hg2) ((xm_f2_s (f := xm_b (xk_c gc P A0) up dn i) (xm_b_f h110)).symm.trans hb2) (lv_sub hl [3, 4, 5, 6, 7, 0] rfl) hP hD hS
                · -- 113
                  refine lv_iconst (v := nI 1) hx hb xj_M_relate_113 (by decide) ?_
                  refine lv_goto (tgt := 118) hx hb xj_M_relate_114 rfl ?_
                  refine xr_topz (b := true) rfl ?_
                  refine xr_zast hx hb hK.1 hP hD hS 4 1 rfl rfl (by omega) (by decide) xj_M_relate_118 (fun H locs hP hD hS => ?_)
                  rw [xf_z_up] at hP hD
                  have hP : va_P D xn_cl [(m0, .inr (6, [.int cd, .int (nI gc), .int (nI dc), .ref m1, .ref m2, .ref m3, .ref m4, .ref m5, .ref m6, .ref m7, .ref m8, .ref m9, .ref m10])), (m1, .inl (cI, 78, .inl P)), (m2, .inl (cI, 78, .inl A0)), (m5, .inl (cZ, 169, .inl (xf_z (va_up g3 ((13 * i) + j) false)))), (m6, .inl (cZ, 169, .inl (xf_z (va_up b3 ((13 * i) + j) true)))), (m9, .inl (cZ, 13, .inl (xf_z (va_up l2 i true))))] H := hP
                  have hD : va_D A [(m0, .inr (6, [.int cd, .int (nI gc), .int (nI dc), .ref m1, .ref m2, .ref m3, .ref m4, .ref m5, .ref m6, .ref m7, .ref m8, .ref m9, .ref m10])), (m1, .inl (cI, 78, .inl P)), (m2, .inl (cI, 78, .inl A0)), (m5, .inl (cZ, 169, .inl (xf_z (va_up g3 ((13 * i) + j) false)))), (m6, .inl (cZ, 169, .inl (xf_z (va_up b3 ((13 * i) + j) true)))), (m9, .inl (cZ, 13, .inl (xf_z (va_up l2 i true))))] := hD
                  refine lv_iinc (k := 7) (v := nI (j + 1)) (lv' := [(7, .int (nI (j + 1))), (10, .long (dn * ((xk_c gc P A0 i j).toInt64))), (8, .long (up * ((xk_c gc P A0 i i).toInt64))), (0, .ref m0), (1, .int (nI k0)), (2, .long up), (4, .long dn), (6, .int (nI i))]) hx hb xj_M_relate_119 hl rfl (xr_inc _) (by decide) rfl (fun ls hl => ?_)
                  refine lv_goto (tgt := 20) hx hb xj_M_relate_122 rfl ?_
                  exact ih20 (j + 1) ((va_up g3 ((13 * i) + j) false)) ((va_up b3 ((13 * i) + j) true)) ls _ _ (by omega) ((xm_f2_s (f := xm_g (xk_c gc P A0) up dn i) (xm_g_f h69 h77)).symm.trans hg2) ((xm_f2_s (f := xm_b (xk_c gc P A0) up dn i) (xm_b_t h102 h110)).symm.trans hb2) (lv_sub hl [3, 4, 5, 6, 7, 0] rfl) hP hD hS
            · -- 80
              refine lv_iconst (v := nI 1) hx hb xj_M_relate_80 (by decide) ?_
              refine lv_goto (tgt := 85) hx hb xj_M_relate_81 rfl ?_
              refine xr_topz (b := true) rfl ?_
              refine xr_zast hx hb hK.1 hP hD hS 3 1 rfl rfl (by omega) (by decide) xj_M_relate_85 (fun H locs hP hD hS => ?_)
              rw [xf_z_up] at hP hD
              have hP : va_P D xn_cl [(m0, .inr (6, [.int cd, .int (nI gc), .int (nI dc), .ref m1, .ref m2, .ref m3, .ref m4, .ref m5, .ref m6, .ref m7, .ref m8, .ref m9, .ref m10])), (m1, .inl (cI, 78, .inl P)), (m2, .inl (cI, 78, .inl A0)), (m5, .inl (cZ, 169, .inl (xf_z (va_up g3 ((13 * i) + j) true)))), (m6, .inl (cZ, 169, .inl (xf_z b3))), (m9, .inl (cZ, 13, .inl (xf_z (va_up l2 i true))))] H := hP
              have hD : va_D A [(m0, .inr (6, [.int cd, .int (nI gc), .int (nI dc), .ref m1, .ref m2, .ref m3, .ref m4, .ref m5, .ref m6, .ref m7, .ref m8, .ref m9, .ref m10])), (m1, .inl (cI, 78, .inl P)), (m2, .inl (cI, 78, .inl A0)), (m5, .inl (cZ, 169, .inl (xf_z (va_up g3 ((13 * i) + j) true)))), (m6, .inl (cZ, 169, .inl (xf_z b3))), (m9, .inl (cZ, 13, .inl (xf_z (va_up l2 i true))))] := hD
              refine lv_aload_n hx hb xj_M_relate_86 rfl (lv_at hl 2 rfl) ?_
              refine va_get (D := D) (ci := 6) (v := .ref m6) (C := xn_M) (T := xn_TM) (N := 13) hx hb hgs xw_uM hown hK.1 hP 0 rfl rfl 8 (by decide) (hgs _ xw_538) (fun _ h9 => h9) rfl xj_M_relate_87 ?_
              refine lv_bipush (v := nI 13) hx hb xj_M_relate_90 (by decide) ?_
              refine lv_iload hx hb xj_M_relate_92 (lv_at hl 6 rfl) ?_
              refine xr_imul hx hb xj_M_relate_94 ?_
              refine lv_iload hx hb xj_M_relate_95 (lv_at hl 7 rfl) ?_
              refine xr_iadd hx hb xj_M_relate_97 ?_
              refine lv_iload hx hb xj_M_relate_98 (lv_at hl 6 rfl) ?_
              refine lv_iload hx hb xj_M_relate_100 (lv_at hl 7 rfl) ?_
              refine xr_eq (tgt := 117) hx hb (by omega) (by omega) xj_M_relate_102 rfl (fun h102 => ?_) (fun h102 => ?_)
              · -- 117
                refine lv_iconst (v := nI 0) hx hb xj_M_relate_117 (by decide) ?_
                refine xr_topz (b := false) rfl ?_
                refine xr_zast hx hb hK.1 hP hD hS 4 1 rfl rfl (by omega) (by decide) xj_M_relate_118 (fun H locs hP hD hS => ?_)
                rw [xf_z_up] at hP hD
                have hP : va_P D xn_cl [(m0, .inr (6, [.int cd, .int (nI gc), .int (nI dc), .ref m1, .ref m2, .ref m3, .ref m4, .ref m5, .ref m6, .ref m7, .ref m8, .ref m9, .ref m10])), (m1, .inl (cI, 78, .inl P)), (m2, .inl (cI, 78, .inl A0)), (m5, .inl (cZ, 169, .inl (xf_z (va_up g3 ((13 * i) + j) true)))), (m6, .inl (cZ, 169, .inl (xf_z (va_up b3 ((13 * i) + j) false)))), (m9, .inl (cZ, 13, .inl (xf_z (va_up l2 i true))))] H := hP
                have hD : va_D A [(m0, .inr (6, [.int cd, .int (nI gc), .int (nI dc), .ref m1, .ref m2, .ref m3, .ref m4, .ref m5, .ref m6, .ref m7, .ref m8, .ref m9, .ref m10])), (m1, .inl (cI, 78, .inl P)), (m2, .inl (cI, 78, .inl A0)), (m5, .inl (cZ, 169, .inl (xf_z (va_up g3 ((13 * i) + j) true)))), (m6, .inl (cZ, 169, .inl (xf_z (va_up b3 ((13 * i) + j) false)))), (m9, .inl (cZ, 13, .inl (xf_z (va_up l2 i true))))] := hD
                refine lv_iinc (k := 7) (v := nI (j + 1)) (lv' := [(7, .int (nI (j + 1))), (10, .long (dn * ((xk_c gc P A0 i j).toInt64))), (8, .long (up * ((xk_c gc P A0 i i).toInt64))), (0, .ref m0), (1, .int (nI k0)), (2, .long up), (4, .long dn), (6, .int (nI i))]) hx hb xj_M_relate_119 hl rfl (xr_inc _) (by decide) rfl (fun ls hl => ?_)
                refine lv_goto (tgt := 20) hx hb xj_M_relate_122 rfl ?_
                exact ih20 (j + 1) ((va_up g3 ((13 * i) + j) true)) ((va_up b3 ((13 * i) + j) false)) ls _ _ (by omega) ((xm_f2_s (f := xm_g (xk_c gc P A0) up dn i) (xm_g_t h77)).symm.trans hg2) ((xm_f2_s (f := xm_b (xk_c gc P A0) up dn i) (xm_b_e h102)).symm.trans hb2) (lv_sub hl [3, 4, 5, 6, 7, 0] rfl) hP hD hS
              · -- 105
                refine lv_lload hx hb xj_M_relate_105 (lv_at hl 0 rfl) ?_
                refine lv_lload hx hb xj_M_relate_107 (lv_at hl 1 rfl) ?_
                refine xr_lge (tgt := 117) hx hb xj_M_relate_109 xj_M_relate_110 rfl (fun h110 => ?_) (fun h110 => ?_)
                · -- 117
                  refine lv_iconst (v := nI 0) hx hb xj_M_relate_117 (by decide) ?_
                  refine xr_topz (b := false) rfl ?_
                  refine xr_zast hx hb hK.1 hP hD hS 4 1 rfl rfl (by omega) (by decide) xj_M_relate_118 (fun H locs hP hD hS => ?_)
                  rw [xf_z_up] at hP hD
                  have hP : va_P D xn_cl [(m0, .inr (6, [.int cd, .int (nI gc), .int (nI dc), .ref m1, .ref m2, .ref m3, .ref m4, .ref m5, .ref m6, .ref m7, .ref m8, .ref m9, .ref m10])), (m1, .inl (cI, 78, .inl P)), (m2, .inl (cI, 78, .inl A0)), (m5, .inl (cZ, 169, .inl (xf_z (va_up g3 ((13 * i) + j) true)))), (m6, .inl (cZ, 169, .inl (xf_z (va_up b3 ((13 * i) + j) false)))), (m9, .inl (cZ, 13, .inl (xf_z (va_up l2 i true))))] H := hP
                  have hD : va_D A [(m0, .inr (6, [.int cd, .int (nI gc), .int (nI dc), .ref m1, .ref m2, .ref m3, .ref m4, .ref m5, .ref m6, .ref m7, .ref m8, .ref m9, .ref m10])), (m1, .inl (cI, 78, .inl P)), (m2, .inl (cI, 78, .inl A0)), (m5, .inl (cZ, 169, .inl (xf_z (va_up g3 ((13 * i) + j) true)))), (m6, .inl (cZ, 169, .inl (xf_z (va_up b3 ((13 * i) + j) false)))), (m9, .inl (cZ, 13, .inl (xf_z (va_up l2 i true))))] := hD
                  refine lv_iinc (k := 7) (v := nI (j + 1)) (lv' := [(7, .int (nI (j + 1))), (10, .long (dn * ((xk_c gc P A0 i j).toInt64))), (8, .long (up * ((xk_c gc P A0 i i).toInt64))), (0, .ref m0), (1, .int (nI k0)), (2, .long up), (4, .long dn), (6, .int (nI i))]) hx hb xj_M_relate_119 hl rfl (xr_inc _) (by decide) rfl (fun ls hl => ?_)
                  refine lv_goto (tgt := 20) hx hb xj_M_relate_122 rfl ?_
                  exact ih20 (j + 1) ((va_up g3 ((13 * i) + j) true)) ((va_up b3 ((13 * i) + j) false)) ls _ _ (by omega) ((xm_f2_s (f := xm_g (xk_c gc P A0) up dn i) (xm_g_t h77)).symm.trans hg2) ((xm_f2_s (f := xm_b (xk_c gc P A0) up dn i) (xm_b_f h110)).symm.trans hb2) (lv_sub hl [3, 4, 5, 6, 7, 0] rfl) hP hD hS
                · -- 113
                  refine lv_iconst (v := nI 1) hx hb xj_M_relate_113 (by decide) ?_
                  refine lv_goto (tgt := 118) hx hb xj_M_relate_114 rfl ?_
                  refine xr_topz (b := true) rfl ?_
                  refine xr_zast hx hb hK.1 hP hD hS 4 1 rfl rfl (by omega) (by decide) xj_M_relate_118 (fun H locs hP hD hS => ?_)
                  rw [xf_z_up] at hP hD
                  have hP : va_P D xn_cl [(m0, .inr (6, [.int cd, .int (nI gc), .int (nI dc), .ref m1, .ref m2, .ref m3, .ref m4, .ref m5, .ref m6, .ref m7, .ref m8, .ref m9, .ref m10])), (m1, .inl (cI, 78, .inl P)), (m2, .inl (cI, 78, .inl A0)), (m5, .inl (cZ, 169, .inl (xf_z (va_up g3 ((13 * i) + j) true)))), (m6, .inl (cZ, 169, .inl (xf_z (va_up b3 ((13 * i) + j) true)))), (m9, .inl (cZ, 13, .inl (xf_z (va_up l2 i true))))] H := hP
                  have hD : va_D A [(m0, .inr (6, [.int cd, .int (nI gc), .int (nI dc), .ref m1, .ref m2, .ref m3, .ref m4, .ref m5, .ref m6, .ref m7, .ref m8, .ref m9, .ref m10])), (m1, .inl (cI, 78, .inl P)), (m2, .inl (cI, 78, .inl A0)), (m5, .inl (cZ, 169, .inl (xf_z (va_up g3 ((13 * i) + j) true)))), (m6, .inl (cZ, 169, .inl (xf_z (va_up b3 ((13 * i) + j) true)))), (m9, .inl (cZ, 13, .inl (xf_z (va_up l2 i true))))] := hD
                  refine lv_iinc (k := 7) (v := nI (j + 1)) (lv' := [(7, .int (nI (j + 1))), (10, .long (dn * ((xk_c gc P A0 i j).toInt64))), (8, .long (up * ((xk_c gc P A0 i i).toInt64))), (0, .ref m0), (1, .int (nI k0)), (2, .long up), (4, .long dn), (6, .int (nI i))]) hx hb xj_M_relate_119 hl rfl (xr_inc _) (by decide) rfl (fun ls hl => ?_)
                  refine lv_goto (tgt := 20) hx hb xj_M_relate_122 rfl ?_
                  exact ih20 (j + 1) ((va_up g3 ((13 * i) + j) true)) ((va_up b3 ((13 * i) + j) true)) ls _ _ (by omega) ((xm_f2_s (f := xm_g (xk_c gc P A0) up dn i) (xm_g_t h77)).symm.trans hg2) ((xm_f2_s (f := xm_b (xk_c gc P A0) up dn i) (xm_b_t h102 h110)).symm.trans hb2) (lv_sub hl [3, 4, 5, 6, 7, 0] rfl) hP hD hS
      exact loop20 k0 0 g2 b2 ls _ _ (by omega) rfl rfl (lv_sub hl [1, 2, 3, 4, 5, 0] rfl) hP hD hS
  exact loop3 k0 0 gd bd lf ls _ _ (by omega) rfl rfl rfl (lv_sub hl [1, 2, 3, 4, 0] rfl) hP hD hS
set_option maxRecDepth 100000 in
set_option maxHeartbeats 4000000 in
theorem xt_M_further (l : Launch) (D : va_G) (cI cZ cJ : ClassId) (m0 m1 m2 m3 m4 m5 m6 m7 m8 m9 m10 : Nat) (cd : Int32) (gc dc : Nat) (gd : Nat → Bool) (ch : Nat → Bool) (st : Nat → Int32) (lf : Nat → Bool) (k0 s0 u0 n0 : Nat) (hk : k0 ≤ 13) (hs : s0 < 13) (hu : u0 < 13) : xc_Wi l xy_M_further xb_M_further 7 .boolean 0 0 0 [.ref m0, .int (nI k0), .int (nI s0), .int (nI u0), .int (nI n0)] D cI cZ cJ [(m0, .inr (6, [.int cd, .int (nI gc), .int (nI dc), .ref m1, .ref m2, .ref m3, .ref m4, .ref m5, .ref m6, .ref m7, .ref m8, .ref m9, .ref m10])), (m5, .inl (cZ, 169, .inl (xf_z gd))), (m7, .inl (cZ, 169, .inl (xf_z ch))), (m8, .inl (cI, 169, .inl st)), (m9, .inl (cZ, 13, .inl (xf_z lf)))] (Unit) (fun r _ => r = xf_bI (xm_fu lf gd s0 u0 n0 k0 0 (ch, st, false)).2.2) (fun _ => [(m0, .inr (6, [.int cd, .int (nI gc), .int (nI dc), .ref m1, .ref m2, .ref m3, .ref m4, .ref m5, .ref m6, .ref m7, .ref m8, .ref m9, .ref m10])), (m5, .inl (cZ, 169, .inl (xf_z gd))), (m7, .inl (cZ, 169, .inl (xf_z ((xm_fu lf gd s0 u0 n0 k0 0 (ch, st, false)).1)))), (m8, .inl (cI, 169, .inl ((xm_fu lf gd s0 u0 n0 k0 0 (ch, st, false)).2.1))), (m9, .inl (cZ, 13, .inl (xf_z lf)))]) := by
  refine xc_Wi_of (by decide) (Nat.le_of_ble_eq_true rfl) ?_
  intro p e s m args below meth c Q ls A hAt hP hK hD hA hS hl hret
  obtain ⟨hx, hb, hml, hown, hts, hgs, hlk⟩ := id hAt
  have hT : ∀ w ∈ xw_g, w ∈ xc_ws xy_M_further xb_M_further 7 (some .boolean) := fun w h => List.mem_cons_of_mem _ h
  have hown : s.vm.findClass "WishLedgerModel" = some m.cls := hown
  obtain ⟨H, hH0⟩ : ∃ H, H = s.heap := ⟨_, rfl⟩
  obtain ⟨locs, hL0⟩ : ∃ locs : List Loc, locs = [] := ⟨_, rfl⟩
  have hP : va_P D xn_cl [(m0, .inr (6, [.int cd, .int (nI gc), .int (nI dc), .ref m1, .ref m2, .ref m3, .ref m4, .ref m5, .ref m6, .ref m7, .ref m8, .ref m9, .ref m10])), (m5, .inl (cZ, 169, .inl (xf_z gd))), (m7, .inl (cZ, 169, .inl (xf_z ch))), (m8, .inl (cI, 169, .inl st)), (m9, .inl (cZ, 13, .inl (xf_z lf)))] H := by rw [hH0]; exact hP
  have hS : va_S A s.heap H locs := by rw [hH0, hL0]; exact hS
  suffices hgo : W p l e (xc_rm 0 0 0) s m args below meth c H locs 0 0 Q (F0 m 0 ls []) by rw [hH0, hL0] at hgo; exact hgo
  clear hH0 hL0
  have hl : lv_has ls 7 [(0, .ref m0), (1, .int (nI k0)), (2, .int (nI s0)), (3, .int (nI u0)), (4, .int (nI n0))] := hl
  refine lv_iconst (v := nI 0) hx hb xj_M_further_0 (by decide) ?_
  refine lv_istore (lv' := [(5, .int (nI 0)), (0, .ref m0), (1, .int (nI k0)), (2, .int (nI s0)), (3, .int (nI u0)), (4, .int (nI n0))]) hx hb xj_M_further_1 hl (by decide) rfl (fun ls hl => ?_)
  refine lv_iconst (v := nI 0) hx hb xj_M_further_3 (by decide) ?_
  refine lv_istore (lv' := [(6, .int (nI 0)), (5, .int (nI 0)), (0, .ref m0), (1, .int (nI k0)), (2, .int (nI s0)), (3, .int (nI u0)), (4, .int (nI n0))]) hx hb xj_M_further_4 hl (by decide) rfl (fun ls hl => ?_)
  have loop6 : ∀ (n : Nat) (i : Nat) (fl : Bool) (c2 : Nat → Bool) (s2 : Nat → Int32) (ls : Array Slot) (H : Heap) (locs : List Loc), i + n = k0 → (xm_fu lf gd s0 u0 n0 n i (c2, s2, fl) = xm_fu lf gd s0 u0 n0 k0 0 (ch, st, false)) → lv_has ls 7 [(0, .ref m0), (1, .int (nI k0)), (2, .int (nI s0)), (3, .int (nI u0)), (4, .int (nI n0)), (5, .int (xf_bI fl)), (6, .int (nI i))] → va_P D xn_cl [(m0, .inr (6, [.int cd, .int (nI gc), .int (nI dc), .ref m1, .ref m2, .ref m3, .ref m4, .ref m5, .ref m6, .ref m7, .ref m8, .ref m9, .ref m10])), (m5, .inl (cZ, 169, .inl (xf_z gd))), (m7, .inl (cZ, 169, .inl (xf_z c2))), (m8, .inl (cI, 169, .inl s2)), (m9, .inl (cZ, 13, .inl (xf_z lf)))] H → va_D A [(m0, .inr (6, [.int cd, .int (nI gc), .int (nI dc), .ref m1, .ref m2, .ref m3, .ref m4, .ref m5, .ref m6, .ref m7, .ref m8, .ref m9, .ref m10])), (m5, .inl (cZ, 169, .inl (xf_z gd))), (m7, .inl (cZ, 169, .inl (xf_z c2))), (m8, .inl (cI, 169, .inl s2)), (m9, .inl (cZ, 13, .inl (xf_z lf)))] → va_S A s.heap H locs → W p l e (xc_rm 0 0 0) s m args below meth c H locs 0 0 Q (F0 m 6 ls []) := by
    intro n
    induction n with
    | zero =>
      intro i fl c2 s2 ls H locs hi6 hr hl hP hD hS
      refine lv_iload hx hb xj_M_further_6 (lv_at hl 6 rfl) ?_
      refine lv_iload_n hx hb xj_M_further_8 rfl (lv_at hl 1 rfl) ?_
      refine xr_ge (tgt := 91) hx hb (by omega) (by omega) xj_M_further_9 rfl (fun h9 => ?_) (fun h9 => absurd h9 (by omega))
      refine lv_iload hx hb xj_M_further_91 (lv_at hl 5 rfl) ?_
      have e8 : (c2, s2, fl) = xm_fu lf gd s0 u0 n0 k0 0 (ch, st, false) := hr
      obtain rfl : c2 = (xm_fu lf gd s0 u0 n0 k0 0 (ch, st, false)).1 := congrArg Prod.fst e8
      obtain rfl : s2 = (xm_fu lf gd s0 u0 n0 k0 0 (ch, st, false)).2.1 := congrArg (fun z => z.2.1) e8
      exact hret (xf_bI fl) (()) H locs _ ls (congrArg (fun z => xf_bI z.2.2) e8) (xf_nar_b _) hP hD hS xj_M_further_93
    | succ n ih6 =>
      intro i fl c2 s2 ls H locs hi6 hr hl hP hD hS
      refine lv_iload hx hb xj_M_further_6 (lv_at hl 6 rfl) ?_
      refine lv_iload_n hx hb xj_M_further_8 rfl (lv_at hl 1 rfl) ?_
      refine xr_ge (tgt := 91) hx hb (by omega) (by omega) xj_M_further_9 rfl (fun h9 => absurd h9 (by omega)) (fun h9 => ?_)
      refine lv_aload_n hx hb xj_M_further_12 rfl (lv_at hl 0 rfl) ?_
      refine va_get (D := D) (ci := 6) (v := .ref m9) (C := xn_M) (T := xn_TM) (N := 13) hx hb hgs xw_uM hown hK.1 hP 0 rfl rfl 11 (by decide) (hgs _ xw_541) (fun _ h9 => h9) rfl xj_M_further_13 ?_
      refine lv_iload hx hb xj_M_further_16 (lv_at hl 6 rfl) ?_
      refine xr_zald hx hb hK.1 hP 4 1 rfl rfl (by omega) (by decide) xj_M_further_18 ?_
      refine xr_top (y := xf_bI (lf i)) rfl ?_
      refine xr_ifeq (tgt := 85) hx hb xj_M_further_19 rfl (fun h19 => ?_) (fun h19 => ?_)
      · -- 85
        refine lv_iinc (k := 6) (v := nI (i + 1)) (lv' := [(6, .int (nI (i + 1))), (0, .ref m0), (1, .int (nI k0)), (2, .int (nI s0)), (3, .int (nI u0)), (4, .int (nI n0)), (5, .int (xf_bI fl))]) hx hb xj_M_further_85 hl rfl (xr_inc _) (by decide) rfl (fun ls hl => ?_)
        refine lv_goto (tgt := 6) hx hb xj_M_further_88 rfl ?_
        exact ih6 (i + 1) fl c2 s2 ls _ _ (by omega) ((xm_fu_0 (x := (c2, s2, fl)) (fun z => by rw [h19] at z; exact absurd z.1 (by decide))).symm.trans hr) (lv_sub hl [1, 2, 3, 4, 5, 6, 0] rfl) hP hD hS
      · -- 22
        refine lv_aload_n hx hb xj_M_further_22 rfl (lv_at hl 0 rfl) ?_
        refine va_get (D := D) (ci := 6) (v := .ref m5) (C := xn_M) (T := xn_TM) (N := 13) hx hb hgs xw_uM hown hK.1 hP 0 rfl rfl 7 (by decide) (hgs _ xw_537) (fun _ h9 => h9) rfl xj_M_further_23 ?_
        refine lv_bipush (v := nI 13) hx hb xj_M_further_26 (by decide) ?_
        refine lv_iload_n hx hb xj_M_further_28 rfl (lv_at hl 3 rfl) ?_
        refine xr_imul hx hb xj_M_further_29 ?_
        refine lv_iload hx hb xj_M_further_30 (lv_at hl 6 rfl) ?_
        refine xr_iadd hx hb xj_M_further_32 ?_
        refine xr_zald hx hb hK.1 hP 1 1 rfl rfl (by omega) (by decide) xj_M_further_33 ?_
        refine xr_top (y := xf_bI (gd ((13 * u0) + i))) rfl ?_
        refine xr_ifeq (tgt := 85) hx hb xj_M_further_34 rfl (fun h34 => ?_) (fun h34 => ?_)
        · -- 85
          refine lv_iinc (k := 6) (v := nI (i + 1)) (lv' := [(6, .int (nI (i + 1))), (0, .ref m0), (1, .int (nI k0)), (2, .int (nI s0)), (3, .int (nI u0)), (4, .int (nI n0)), (5, .int (xf_bI fl))]) hx hb xj_M_further_85 hl rfl (xr_inc _) (by decide) rfl (fun ls hl => ?_)
          refine lv_goto (tgt := 6) hx hb xj_M_further_88 rfl ?_
          exact ih6 (i + 1) fl c2 s2 ls _ _ (by omega) ((xm_fu_0 (x := (c2, s2, fl)) (fun z => by rw [h34] at z; exact absurd z.2.1 (by decide))).symm.trans hr) (lv_sub hl [1, 2, 3, 4, 5, 6, 0] rfl) hP hD hS
        · -- 37
          refine lv_aload_n hx hb xj_M_further_37 rfl (lv_at hl 0 rfl) ?_
          refine va_get (D := D) (ci := 6) (v := .ref m7) (C := xn_M) (T := xn_TM) (N := 13) hx hb hgs xw_uM hown hK.1 hP 0 rfl rfl 9 (by decide) (hgs _ xw_539) (fun _ h9 => h9) rfl xj_M_further_38 ?_
          refine lv_bipush (v := nI 13) hx hb xj_M_further_41 (by decide) ?_
          refine lv_iload_n hx hb xj_M_further_43 rfl (lv_at hl 2 rfl) ?_
          refine xr_imul hx hb xj_M_further_44 ?_
          refine lv_iload hx hb xj_M_further_45 (lv_at hl 6 rfl) ?_
          refine xr_iadd hx hb xj_M_further_47 ?_
          refine xr_zald hx hb hK.1 hP 2 1 rfl rfl (by omega) (by decide) xj_M_further_48 ?_
          refine xr_top (y := xf_bI (c2 ((13 * s0) + i))) rfl ?_
          refine xr_ifeq (tgt := 55) hx hb xj_M_further_49 rfl (fun h49 => ?_) (fun h49 => ?_)
          · -- 55
            refine lv_aload_n hx hb xj_M_further_55 rfl (lv_at hl 0 rfl) ?_
            refine va_get (D := D) (ci := 6) (v := .ref m7) (C := xn_M) (T := xn_TM) (N := 13) hx hb hgs xw_uM hown hK.1 hP 0 rfl rfl 9 (by decide) (hgs _ xw_539) (fun _ h9 => h9) rfl xj_M_further_56 ?_
            refine lv_bipush (v := nI 13) hx hb xj_M_further_59 (by decide) ?_
            refine lv_iload_n hx hb xj_M_further_61 rfl (lv_at hl 2 rfl) ?_
            refine xr_imul hx hb xj_M_further_62 ?_
            refine lv_iload hx hb xj_M_further_63 (lv_at hl 6 rfl) ?_
            refine xr_iadd hx hb xj_M_further_65 ?_
            refine lv_iconst (v := nI 1) hx hb xj_M_further_66 (by decide) ?_
            refine xr_topz (b := true) rfl ?_
            refine xr_zast hx hb hK.1 hP hD hS 2 1 rfl rfl (by omega) (by decide) xj_M_further_67 (fun H locs hP hD hS => ?_)
            rw [xf_z_up] at hP hD
            have hP : va_P D xn_cl [(m0, .inr (6, [.int cd, .int (nI gc), .int (nI dc), .ref m1, .ref m2, .ref m3, .ref m4, .ref m5, .ref m6, .ref m7, .ref m8, .ref m9, .ref m10])), (m5, .inl (cZ, 169, .inl (xf_z gd))), (m7, .inl (cZ, 169, .inl (xf_z (va_up c2 ((13 * s0) + i) true)))), (m8, .inl (cI, 169, .inl s2)), (m9, .inl (cZ, 13, .inl (xf_z lf)))] H := hP
            have hD : va_D A [(m0, .inr (6, [.int cd, .int (nI gc), .int (nI dc), .ref m1, .ref m2, .ref m3, .ref m4, .ref m5, .ref m6, .ref m7, .ref m8, .ref m9, .ref m10])), (m5, .inl (cZ, 169, .inl (xf_z gd))), (m7, .inl (cZ, 169, .inl (xf_z (va_up c2 ((13 * s0) + i) true)))), (m8, .inl (cI, 169, .inl s2)), (m9, .inl (cZ, 13, .inl (xf_z lf)))] := hD
            refine lv_aload_n hx hb xj_M_further_68 rfl (lv_at hl 0 rfl) ?_
            refine va_get (D := D) (ci := 6) (v := .ref m8) (C := xn_M) (T := xn_TM) (N := 13) hx hb hgs xw_uM hown hK.1 hP 0 rfl rfl 10 (by decide) (hgs _ xw_540) (fun _ h9 => h9) rfl xj_M_further_69 ?_
            refine lv_bipush (v := nI 13) hx hb xj_M_further_72 (by decide) ?_
            refine lv_iload_n hx hb xj_M_further_74 rfl (lv_at hl 2 rfl) ?_
            refine xr_imul hx hb xj_M_further_75 ?_
            refine lv_iload hx hb xj_M_further_76 (lv_at hl 6 rfl) ?_
            refine xr_iadd hx hb xj_M_further_78 ?_
            refine lv_iload hx hb xj_M_further_79 (lv_at hl 4 rfl) ?_
            refine xr_iast hx hb hK.1 hP hD hS 3 0 rfl rfl (by omega) (by decide) xj_M_further_81 (fun H locs hP hD hS => ?_)
            have hP : va_P D xn_cl [(m0, .inr (6, [.int cd, .int (nI gc), .int (nI dc), .ref m1, .ref m2, .ref m3, .ref m4, .ref m5, .ref m6, .ref m7, .ref m8, .ref m9, .ref m10])), (m5, .inl (cZ, 169, .inl (xf_z gd))), (m7, .inl (cZ, 169, .inl (xf_z (va_up c2 ((13 * s0) + i) true)))), (m8, .inl (cI, 169, .inl (upd s2 ((13 * s0) + i) (nI n0)))), (m9, .inl (cZ, 13, .inl (xf_z lf)))] H := hP
            have hD : va_D A [(m0, .inr (6, [.int cd, .int (nI gc), .int (nI dc), .ref m1, .ref m2, .ref m3, .ref m4, .ref m5, .ref m6, .ref m7, .ref m8, .ref m9, .ref m10])), (m5, .inl (cZ, 169, .inl (xf_z gd))), (m7, .inl (cZ, 169, .inl (xf_z (va_up c2 ((13 * s0) + i) true)))), (m8, .inl (cI, 169, .inl (upd s2 ((13 * s0) + i) (nI n0)))), (m9, .inl (cZ, 13, .inl (xf_z lf)))] := hD
            refine lv_iconst (v := nI 1) hx hb xj_M_further_82 (by decide) ?_
            refine lv_istore (lv' := [(5, .int (nI 1)), (0, .ref m0), (1, .int (nI k0)), (2, .int (nI s0)), (3, .int (nI u0)), (4, .int (nI n0)), (6, .int (nI i))]) hx hb xj_M_further_83 hl (by decide) rfl (fun ls hl => ?_)
            refine lv_iinc (k := 6) (v := nI (i + 1)) (lv' := [(6, .int (nI (i + 1))), (5, .int (nI 1)), (0, .ref m0), (1, .int (nI k0)), (2, .int (nI s0)), (3, .int (nI u0)), (4, .int (nI n0))]) hx hb xj_M_further_85 hl rfl (xr_inc _) (by decide) rfl (fun ls hl => ?_)
            refine lv_goto (tgt := 6) hx hb xj_M_further_88 rfl ?_
            exact ih6 (i + 1) true ((va_up c2 ((13 * s0) + i) true)) (upd s2 ((13 * s0) + i) (nI n0)) ls _ _ (by omega) ((xm_fu_1 (x := (c2, s2, fl)) h19 h34 h49).symm.trans hr) (lv_sub hl [2, 3, 4, 5, 6, 1, 0] rfl) hP hD hS
          · -- 52
            refine lv_goto (tgt := 85) hx hb xj_M_further_52 rfl ?_
            refine lv_iinc (k := 6) (v := nI (i + 1)) (lv' := [(6, .int (nI (i + 1))), (0, .ref m0), (1, .int (nI k0)), (2, .int (nI s0)), (3, .int (nI u0)), (4, .int (nI n0)), (5, .int (xf_bI fl))]) hx hb xj_M_further_85 hl rfl (xr_inc _) (by decide) rfl (fun ls hl => ?_)
            refine lv_goto (tgt := 6) hx hb xj_M_further_88 rfl ?_
            exact ih6 (i + 1) fl c2 s2 ls _ _ (by omega) ((xm_fu_0 (x := (c2, s2, fl)) (fun z => absurd (h49.symm.trans z.2.2) (by decide))).symm.trans hr) (lv_sub hl [1, 2, 3, 4, 5, 6, 0] rfl) hP hD hS
  exact loop6 k0 0 false ch st ls _ _ (by omega) rfl (lv_sub hl [2, 3, 4, 5, 6, 1, 0] rfl) hP hD hS
