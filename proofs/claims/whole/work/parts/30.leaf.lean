/-! walks: the least methods -/
set_option maxRecDepth 100000 in
set_option maxHeartbeats 4000000 in
theorem xt_L_bit (l : Launch) (D : va_G) (cI cZ cJ : ClassId) (d : Int32) : xc_R l xy_L_bit xb_L_bit 1 .int 0 [.int d] D cI cZ cJ [] (xf_bi d) := by
  refine xc_R_of (by decide) (Nat.le_of_ble_eq_true rfl) rfl ?_
  intro p e s m args below meth c Q ls hAt hP hK hl hret
  obtain ⟨hx, hb, hml, hown, hts, hgs, hlk⟩ := id hAt
  have hT : ∀ w ∈ xw_g, w ∈ xc_ws xy_L_bit xb_L_bit 1 (some .int) := fun w h => List.mem_cons_of_mem _ h
  have hown : s.vm.findClass "WishLedger" = some m.cls := hown
  have hl : lv_has ls 1 [(0, .int d)] := hl
  refine lv_iconst (v := nI 1) hx hb xj_L_bit_0 (by decide) ?_
  refine lv_iload_n hx hb xj_L_bit_1 rfl (lv_at hl 0 rfl) ?_
  refine lv_ishl hx hb xj_L_bit_2 ?_
  exact xr_top rfl (hret _ _ xj_L_bit_3)
set_option maxRecDepth 100000 in
set_option maxHeartbeats 4000000 in
theorem xt_L_has (l : Launch) (D : va_G) (cI cZ cJ : ClassId) (x d : Int32) : xc_R l xy_L_has xb_L_has 2 .boolean 1 [.int x, .int d] D cI cZ cJ [] (xf_bI (xf_hs x d)) := by
  refine xc_R_of (by decide) (Nat.le_of_ble_eq_true rfl) (xf_nar_b _) ?_
  intro p e s m args below meth c Q ls hAt hP hK hl hret
  obtain ⟨hx, hb, hml, hown, hts, hgs, hlk⟩ := id hAt
  have hT : ∀ w ∈ xw_g, w ∈ xc_ws xy_L_has xb_L_has 2 (some .boolean) := fun w h => List.mem_cons_of_mem _ h
  have hown : s.vm.findClass "WishLedger" = some m.cls := hown
  have hl : lv_has ls 2 [(0, .int x), (1, .int d)] := hl
  refine lv_iload_n hx hb xj_L_has_0 rfl (lv_at hl 0 rfl) ?_
  refine lv_iload_n hx hb xj_L_has_1 rfl (lv_at hl 1 rfl) ?_
  refine xc_callS (av := [.int d]) (rest := [.int x]) hAt hT (xt_L_bit l D cI cZ cJ d) xw_150 xw_1 xw_149 xw_148 (na := 1) rfl (by decide +kernel) ⟨Nat.le_of_ble_eq_true rfl, Nat.le_of_ble_eq_true rfl⟩ (hP.sub (ws' := []) [] rfl) hK hl.1 (Nat.le_of_ble_eq_true rfl) ⟨Nat.zero_le _, Nat.zero_le _⟩ xj_L_has_2 ?_
  refine lv_iand hx hb xj_L_has_5 ?_
  refine lv_if_eq (tgt := 13) hx hb xj_L_has_6 rfl (fun h6 => ?_) (fun h6 => ?_)
  · -- 13
    refine lv_iconst (v := nI 0) hx hb xj_L_has_13 (by decide) ?_
    exact xr_top ((xf_hs_f h6).symm) (hret _ _ xj_L_has_14)
  · -- 9
    refine lv_iconst (v := nI 1) hx hb xj_L_has_9 (by decide) ?_
    refine lv_goto (tgt := 14) hx hb xj_L_has_10 rfl ?_
    exact xr_top ((xf_hs_t h6).symm) (hret _ _ xj_L_has_14)
set_option maxRecDepth 100000 in
set_option maxHeartbeats 4000000 in
theorem xt_L_member (l : Launch) (D : va_G) (cI cZ cJ : ClassId) (x j : Int32) : xc_R l xy_L_member xb_L_member 4 .int 2 [.int x, .int j] D cI cZ cJ [] (xk_mem x j 13 0 0) := by
  refine xc_R_of (by decide) (Nat.le_of_ble_eq_true rfl) rfl ?_
  intro p e s m args below meth c Q ls hAt hP hK hl hret
  obtain ⟨hx, hb, hml, hown, hts, hgs, hlk⟩ := id hAt
  have hT : ∀ w ∈ xw_g, w ∈ xc_ws xy_L_member xb_L_member 4 (some .int) := fun w h => List.mem_cons_of_mem _ h
  have hown : s.vm.findClass "WishLedger" = some m.cls := hown
  have hl : lv_has ls 4 [(0, .int x), (1, .int j)] := hl
  refine lv_iconst (v := nI 0) hx hb xj_L_member_0 (by decide) ?_
  refine lv_istore_n (lv' := [(2, .int (nI 0)), (0, .int x), (1, .int j)]) hx hb xj_L_member_1 rfl hl (by decide) rfl (fun ls hl => ?_)
  refine lv_iconst (v := nI 0) hx hb xj_L_member_2 (by decide) ?_
  refine lv_istore_n (lv' := [(3, .int (nI 0)), (2, .int (nI 0)), (0, .int x), (1, .int j)]) hx hb xj_L_member_3 rfl hl (by decide) rfl (fun ls hl => ?_)
  have loop4 : ∀ (n : Nat) (i : Nat) (q : Nat) (ls : Array Slot), i + n = 13 → (xk_mem x j n i q = xk_mem x j 13 0 0) → (q ≤ i) → lv_has ls 4 [(0, .int x), (1, .int j), (2, .int (nI q)), (3, .int (nI i))] → W p l e (xc_rm 2 0 0) s m args below meth c s.heap [] 0 0 Q (F0 m 4 ls []) := by
    intro n
    induction n with
    | zero =>
      intro i q ls hi4 hr hq hl
      refine lv_iload_n hx hb xj_L_member_4 rfl (lv_at hl 3 rfl) ?_
      refine lv_bipush (v := nI 13) hx hb xj_L_member_5 (by decide) ?_
      refine xr_ge (tgt := 34) hx hb (by omega) (by omega) xj_L_member_7 rfl (fun h7 => ?_) (fun h7 => absurd h7 (by omega))
      refine lv_iconst (v := (-1)) hx hb xj_L_member_34 (by decide) ?_
      exact xr_top (by rw [← hr]; rfl) (hret _ _ xj_L_member_35)
    | succ n ih4 =>
      intro i q ls hi4 hr hq hl
      refine lv_iload_n hx hb xj_L_member_4 rfl (lv_at hl 3 rfl) ?_
      refine lv_bipush (v := nI 13) hx hb xj_L_member_5 (by decide) ?_
      refine xr_ge (tgt := 34) hx hb (by omega) (by omega) xj_L_member_7 rfl (fun h7 => absurd h7 (by omega)) (fun h7 => ?_)
      refine lv_iload_n hx hb xj_L_member_10 rfl (lv_at hl 0 rfl) ?_
      refine lv_iload_n hx hb xj_L_member_11 rfl (lv_at hl 3 rfl) ?_
      refine xc_callS (av := [.int x, .int (nI i)]) (rest := []) hAt hT (xt_L_has l D cI cZ cJ x (nI i)) xw_431 xw_1 xw_157 xw_156 (na := 2) rfl (by decide +kernel) ⟨Nat.le_of_ble_eq_true rfl, Nat.le_of_ble_eq_true rfl⟩ (hP.sub (ws' := []) [] rfl) hK hl.1 (Nat.le_of_ble_eq_true rfl) ⟨Nat.zero_le _, Nat.zero_le _⟩ xj_L_member_12 ?_
      refine xr_ifeq (tgt := 28) hx hb xj_L_member_15 rfl (fun h15 => ?_) (fun h15 => ?_)
      · -- 28
        refine lv_iinc (k := 3) (v := nI (i + 1)) (lv' := [(3, .int (nI (i + 1))), (0, .int x), (1, .int j), (2, .int (nI q))]) hx hb xj_L_member_28 hl rfl (xr_inc _) (by decide) rfl (fun ls hl => ?_)
        refine lv_goto (tgt := 4) hx hb xj_L_member_31 rfl ?_
        exact ih4 (i + 1) q ls (by omega) (by rw [← hr]; simp only [xk_mem, h15, if_true, if_false, Bool.false_eq_true]) (by omega) (lv_sub hl [1, 2, 3, 0] rfl)
      · -- 18
        refine lv_iload_n hx hb xj_L_member_18 rfl (lv_at hl 2 rfl) ?_
        refine lv_iload_n hx hb xj_L_member_19 rfl (lv_at hl 1 rfl) ?_
        refine lv_icmp_ne (tgt := 25) hx hb xj_L_member_20 rfl (fun h20 => ?_) (fun h20 => ?_)
        · -- 25
          refine lv_iinc (k := 2) (v := nI (q + 1)) (lv' := [(2, .int (nI (q + 1))), (0, .int x), (1, .int j), (3, .int (nI i))]) hx hb xj_L_member_25 hl rfl (xr_inc _) (by decide) rfl (fun ls hl => ?_)
          refine lv_iinc (k := 3) (v := nI (i + 1)) (lv' := [(3, .int (nI (i + 1))), (2, .int (nI (q + 1))), (0, .int x), (1, .int j)]) hx hb xj_L_member_28 hl rfl (xr_inc _) (by decide) rfl (fun ls hl => ?_)
          refine lv_goto (tgt := 4) hx hb xj_L_member_31 rfl ?_
          exact ih4 (i + 1) (q + 1) ls (by omega) (by rw [← hr]; simp only [xk_mem, h15, h20, if_true, if_false, Bool.false_eq_true]) (by omega) (lv_sub hl [2, 3, 1, 0] rfl)
        · -- 23
          refine lv_iload_n hx hb xj_L_member_23 rfl (lv_at hl 3 rfl) ?_
          exact xr_top (by rw [← hr]; simp only [xk_mem, h15, h20, if_true]) (hret _ _ xj_L_member_24)
  exact loop4 13 0 0 ls (by omega) rfl (Nat.le_refl 0) (lv_sub hl [2, 3, 1, 0] rfl)
set_option maxRecDepth 100000 in
set_option maxHeartbeats 4000000 in
theorem xt_B_costOf (l : Launch) (D : va_G) (cI cZ cJ : ClassId) (b0 b1 b2 gc dc : Nat) (P A0 : Nat → Int32) (s0 t0 : Nat) (hg : gc ≤ 6) (hs : s0 < 13) (ht : t0 < 13) : xc_R l xy_B_costOf xb_B_costOf 5 .int 0 [.ref b0, .int (nI s0), .int (nI t0)] D cI cZ cJ [(b0, .inr (0, [.ref b1, .ref b2, .int (nI gc), .int (nI dc)])), (b1, .inl (cI, 78, .inl P)), (b2, .inl (cI, 78, .inl A0))] (xk_c gc P A0 s0 t0) := by
  refine xc_R_of (by decide) (Nat.le_of_ble_eq_true rfl) rfl ?_
  intro p e s m args below meth c Q ls hAt hP hK hl hret
  obtain ⟨hx, hb, hml, hown, hts, hgs, hlk⟩ := id hAt
  have hT : ∀ w ∈ xw_g, w ∈ xc_ws xy_B_costOf xb_B_costOf 5 (some .int) := fun w h => List.mem_cons_of_mem _ h
  have hown : s.vm.findClass "WishLedger$Book" = some m.cls := hown
  have hl : lv_has ls 5 [(0, .ref b0), (1, .int (nI s0)), (2, .int (nI t0))] := hl
  refine lv_iconst (v := nI 0) hx hb xj_B_costOf_0 (by decide) ?_
  refine lv_istore_n (lv' := [(3, .int (nI 0)), (0, .ref b0), (1, .int (nI s0)), (2, .int (nI t0))]) hx hb xj_B_costOf_1 rfl hl (by decide) rfl (fun ls hl => ?_)
  refine lv_iconst (v := nI 0) hx hb xj_B_costOf_2 (by decide) ?_
  refine lv_istore (lv' := [(4, .int (nI 0)), (3, .int (nI 0)), (0, .ref b0), (1, .int (nI s0)), (2, .int (nI t0))]) hx hb xj_B_costOf_3 hl (by decide) rfl (fun ls hl => ?_)
  have loop5 : ∀ (n : Nat) (i : Nat) (x : Int32) (ls : Array Slot), i + n = gc → (xk_cost P A0 s0 t0 n i x = xk_c gc P A0 s0 t0) → lv_has ls 5 [(0, .ref b0), (1, .int (nI s0)), (2, .int (nI t0)), (3, .int x), (4, .int (nI i))] → W p l e (xc_rm 0 0 0) s m args below meth c s.heap [] 0 0 Q (F0 m 5 ls []) := by
    intro n
    induction n with
    | zero =>
      intro i x ls hi5 hr hl
      refine lv_iload hx hb xj_B_costOf_5 (lv_at hl 4 rfl) ?_
      refine lv_aload_n hx hb xj_B_costOf_7 rfl (lv_at hl 0 rfl) ?_
      refine va_get (D := D) (ci := 0) (v := .int (nI gc)) (C := xn_B) (T := xn_TB) (N := 4) hx hb hgs xw_uB hown hK.1 hP 0 rfl rfl 2 (by decide) (hgs _ xw_31) (fun _ h9 => h9) rfl xj_B_costOf_8 ?_
      refine xr_ge (tgt := 48) hx hb (by omega) (by omega) xj_B_costOf_11 rfl (fun h11 => ?_) (fun h11 => absurd h11 (by omega))
      refine lv_iload_n hx hb xj_B_costOf_48 rfl (lv_at hl 3 rfl) ?_
      exact xr_top hr (hret _ _ xj_B_costOf_49)
    | succ n ih5 =>
      intro i x ls hi5 hr hl
      refine lv_iload hx hb xj_B_costOf_5 (lv_at hl 4 rfl) ?_
      refine lv_aload_n hx hb xj_B_costOf_7 rfl (lv_at hl 0 rfl) ?_
      refine va_get (D := D) (ci := 0) (v := .int (nI gc)) (C := xn_B) (T := xn_TB) (N := 4) hx hb hgs xw_uB hown hK.1 hP 0 rfl rfl 2 (by decide) (hgs _ xw_31) (fun _ h9 => h9) rfl xj_B_costOf_8 ?_
      refine xr_ge (tgt := 48) hx hb (by omega) (by omega) xj_B_costOf_11 rfl (fun h11 => absurd h11 (by omega)) (fun h11 => ?_)
      refine lv_iload_n hx hb xj_B_costOf_14 rfl (lv_at hl 3 rfl) ?_
      refine lv_aload_n hx hb xj_B_costOf_15 rfl (lv_at hl 0 rfl) ?_
      refine va_get (D := D) (ci := 0) (v := .ref b1) (C := xn_B) (T := xn_TB) (N := 4) hx hb hgs xw_uB hown hK.1 hP 0 rfl rfl 0 (by decide) (hgs _ xw_29) (fun _ h9 => h9) rfl xj_B_costOf_16 ?_
      refine lv_iload_n hx hb xj_B_costOf_19 rfl (lv_at hl 1 rfl) ?_
      refine lv_bipush (v := nI 6) hx hb xj_B_costOf_20 (by decide) ?_
      refine xr_imul hx hb xj_B_costOf_22 ?_
      refine lv_iload hx hb xj_B_costOf_23 (lv_at hl 4 rfl) ?_
      refine xr_iadd hx hb xj_B_costOf_25 ?_
      refine xr_iald hx hb hK.1 hP 1 0 rfl rfl (by omega) (by decide) xj_B_costOf_26 ?_
      refine lv_aload_n hx hb xj_B_costOf_27 rfl (lv_at hl 0 rfl) ?_
      refine va_get (D := D) (ci := 0) (v := .ref b2) (C := xn_B) (T := xn_TB) (N := 4) hx hb hgs xw_uB hown hK.1 hP 0 rfl rfl 1 (by decide) (hgs _ xw_30) (fun _ h9 => h9) rfl xj_B_costOf_28 ?_
      refine lv_iload_n hx hb xj_B_costOf_31 rfl (lv_at hl 2 rfl) ?_
      refine lv_bipush (v := nI 6) hx hb xj_B_costOf_32 (by decide) ?_
      refine xr_imul hx hb xj_B_costOf_34 ?_
      refine lv_iload hx hb xj_B_costOf_35 (lv_at hl 4 rfl) ?_
      refine xr_iadd hx hb xj_B_costOf_37 ?_
      refine xr_iald hx hb hK.1 hP 2 0 rfl rfl (by omega) (by decide) xj_B_costOf_38 ?_
      refine lv_imul hx hb xj_B_costOf_39 ?_
      refine lv_iadd hx hb xj_B_costOf_40 ?_
      refine lv_istore_n (lv' := [(3, .int (x + ((P ((s0 * 6) + i)) * (A0 ((t0 * 6) + i))))), (0, .ref b0), (1, .int (nI s0)), (2, .int (nI t0)), (4, .int (nI i))]) hx hb xj_B_costOf_41 rfl hl (by decide) rfl (fun ls hl => ?_)
      refine lv_iinc (k := 4) (v := nI (i + 1)) (lv' := [(4, .int (nI (i + 1))), (3, .int (x + ((P ((s0 * 6) + i)) * (A0 ((t0 * 6) + i))))), (0, .ref b0), (1, .int (nI s0)), (2, .int (nI t0))]) hx hb xj_B_costOf_42 hl rfl (xr_inc _) (by decide) rfl (fun ls hl => ?_)
      refine lv_goto (tgt := 5) hx hb xj_B_costOf_45 rfl ?_
      exact ih5 (i + 1) (x + ((P ((s0 * 6) + i)) * (A0 ((t0 * 6) + i)))) ls (by omega) hr (lv_sub hl [2, 3, 4, 1, 0] rfl)
  exact loop5 gc 0 (nI 0) ls (by omega) rfl (lv_sub hl [2, 3, 4, 1, 0] rfl)
set_option maxRecDepth 100000 in
set_option maxHeartbeats 4000000 in
theorem xt_B_everyDay (l : Launch) (D : va_G) (cI cZ cJ : ClassId) (b0 b1 b2 gc dc : Nat) (P A0 : Nat → Int32) : xc_R l xy_B_everyDay xb_B_everyDay 1 .int 1 [.ref b0] D cI cZ cJ [(b0, .inr (0, [.ref b1, .ref b2, .int (nI gc), .int (nI dc)])), (b1, .inl (cI, 78, .inl P)), (b2, .inl (cI, 78, .inl A0))] (xf_bi (nI dc) - nI 1) := by
  refine xc_R_of (by decide) (Nat.le_of_ble_eq_true rfl) rfl ?_
  intro p e s m args below meth c Q ls hAt hP hK hl hret
  obtain ⟨hx, hb, hml, hown, hts, hgs, hlk⟩ := id hAt
  have hT : ∀ w ∈ xw_g, w ∈ xc_ws xy_B_everyDay xb_B_everyDay 1 (some .int) := fun w h => List.mem_cons_of_mem _ h
  have hown : s.vm.findClass "WishLedger$Book" = some m.cls := hown
  have hl : lv_has ls 1 [(0, .ref b0)] := hl
  refine lv_aload_n hx hb xj_B_everyDay_0 rfl (lv_at hl 0 rfl) ?_
  refine va_get (D := D) (ci := 0) (v := .int (nI dc)) (C := xn_B) (T := xn_TB) (N := 4) hx hb hgs xw_uB hown hK.1 hP 0 rfl rfl 3 (by decide) (hgs _ xw_33) (fun _ h9 => h9) rfl xj_B_everyDay_1 ?_
  refine xc_callSN (av := [.int (nI dc)]) (rest := []) hAt hT (xt_L_bit l D cI cZ cJ (nI dc)) (List.mem_of_getElem? (i := 15) rfl) xw_1 xw_149 xw_148 (na := 1) rfl (by decide +kernel) ⟨Nat.le_of_ble_eq_true rfl, Nat.le_of_ble_eq_true rfl⟩ (hP.sub (ws' := []) [] rfl) hK hl.1 (Nat.le_of_ble_eq_true rfl) ⟨Nat.zero_le _, Nat.zero_le _⟩ xj_B_everyDay_4 ?_
  refine lv_iconst (v := nI 1) hx hb xj_B_everyDay_7 (by decide) ?_
  refine lv_isub hx hb xj_B_everyDay_8 ?_
  exact xr_top rfl (hret _ _ xj_B_everyDay_9)
