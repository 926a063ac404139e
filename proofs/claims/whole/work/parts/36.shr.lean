/-! walks: ShrinkageFinder -/
set_option maxRecDepth 100000 in
set_option maxHeartbeats 4000000 in
theorem xt_S_isLess (l : Launch) (D : va_G) (cI cZ cJ : ClassId) (a b c0 d : Int64) : xc_R l xy_S_isLess xb_S_isLess 8 .boolean 0 [.long a, .long b, .long c0, .long d] D cI cZ cJ [] (xf_bI (xk_less a b c0 d)) := by
  refine xc_R_of (by decide) (Nat.le_of_ble_eq_true rfl) (xf_nar_b _) ?_
  intro p e s m args below meth c Q ls hAt hP hK hl hret
  obtain ⟨hx, hb, hml, hown, hts, hgs, hlk⟩ := id hAt
  have hT : ∀ w ∈ xw_g, w ∈ xc_ws xy_S_isLess xb_S_isLess 8 (some .boolean) := fun w h => List.mem_cons_of_mem _ h
  have hown : s.vm.findClass "WishLedger$ShrinkageFinder" = some m.cls := hown
  have hl : lv_has ls 8 [(0, .long a), (2, .long b), (4, .long c0), (6, .long d)] := hl
  refine lv_lload_n hx hb xj_S_isLess_0 rfl (lv_at hl 0 rfl) ?_
  refine lv_lload hx hb xj_S_isLess_1 (lv_at hl 3 rfl) ?_
  refine lv_lmul hx hb xj_S_isLess_3 ?_
  refine lv_lload hx hb xj_S_isLess_4 (lv_at hl 2 rfl) ?_
  refine lv_lload_n hx hb xj_S_isLess_6 rfl (lv_at hl 1 rfl) ?_
  refine lv_lmul hx hb xj_S_isLess_7 ?_
  refine xr_lge (tgt := 16) hx hb xj_S_isLess_8 xj_S_isLess_9 rfl (fun h9 => ?_) (fun h9 => ?_)
  · -- 16
    refine lv_iconst (v := nI 0) hx hb xj_S_isLess_16 (by decide) ?_
    exact xr_top ((xk_less_f h9).symm) (hret _ _ xj_S_isLess_17)
  · -- 12
    refine lv_iconst (v := nI 1) hx hb xj_S_isLess_12 (by decide) ?_
    refine lv_goto (tgt := 17) hx hb xj_S_isLess_13 rfl ?_
    exact xr_top ((xk_less_t h9).symm) (hret _ _ xj_S_isLess_17)
set_option maxRecDepth 100000 in
set_option maxHeartbeats 4000000 in
theorem xt_S_readSteps (l : Launch) (D : va_G) (cI cZ cJ : ClassId) (s0 s1 s2 : Nat) (U E : Nat → Int32) (f0 e0 : Int32) (b0 b1 b2 gc dc : Nat) (P A0 : Nat → Int32) (hg : gc ≤ 6) (hd : dc ≤ 12) : xc_Wv l xy_S_readSteps xb_S_readSteps 6 1 0 0 [.ref s0, .ref b0] D cI cZ cJ [(s0, .inr (4, [.ref s1, .ref s2, .int f0, .int e0])), (s1, .inl (cI, 144, .inl U)), (s2, .inl (cI, 144, .inl E)), (b0, .inr (0, [.ref b1, .ref b2, .int (nI gc), .int (nI dc)])), (b1, .inl (cI, 78, .inl P)), (b2, .inl (cI, 78, .inl A0))] (Unit) (fun _ => True) (fun _ => [(s0, .inr (4, [.ref s1, .ref s2, .int f0, .int e0])), (s1, .inl (cI, 144, .inl (xk_rs (xk_su (xk_c gc P A0)) dc dc 0 U))), (s2, .inl (cI, 144, .inl (xk_rs (xk_sd (xk_c gc P A0)) dc dc 0 E))), (b0, .inr (0, [.ref b1, .ref b2, .int (nI gc), .int (nI dc)])), (b1, .inl (cI, 78, .inl P)), (b2, .inl (cI, 78, .inl A0))]) := by
  refine xc_Wv_of (by decide) (Nat.le_of_ble_eq_true rfl) ?_
  intro p e s m args below meth c Q ls A hAt hin hP hK hD hA hS hl hret
  obtain ⟨hx, hb, hml, hown, hts, hgs, hlk⟩ := id hAt
  have hT : ∀ w ∈ xw_g, w ∈ xc_ws xy_S_readSteps xb_S_readSteps 6 (none) := fun w h => List.mem_cons_of_mem _ h
  have hown : s.vm.findClass "WishLedger$ShrinkageFinder" = some m.cls := hown
  obtain ⟨H, hH0⟩ : ∃ H, H = s.heap := ⟨_, rfl⟩
  obtain ⟨locs, hL0⟩ : ∃ locs : List Loc, locs = [] := ⟨_, rfl⟩
  have hP : va_P D xn_cl [(s0, .inr (4, [.ref s1, .ref s2, .int f0, .int e0])), (s1, .inl (cI, 144, .inl U)), (s2, .inl (cI, 144, .inl E)), (b0, .inr (0, [.ref b1, .ref b2, .int (nI gc), .int (nI dc)])), (b1, .inl (cI, 78, .inl P)), (b2, .inl (cI, 78, .inl A0))] H := by rw [hH0]; exact hP
  have hS : va_S A s.heap H locs := by rw [hH0, hL0]; exact hS
  suffices hgo : W p l e (xc_rm 1 0 0) s m args below meth c H locs 0 0 Q (F0 m 0 ls []) by rw [hH0, hL0] at hgo; exact hgo
  clear hH0 hL0
  have hl : lv_has ls 6 [(0, .ref s0), (1, .ref b0)] := hl
  refine lv_iconst (v := nI 0) hx hb xj_S_readSteps_0 (by decide) ?_
  refine lv_istore_n (lv' := [(2, .int (nI 0)), (0, .ref s0), (1, .ref b0)]) hx hb xj_S_readSteps_1 rfl hl (by decide) rfl (fun ls hl => ?_)
  have loop2 : ∀ (n : Nat) (i : Nat) (U2 : Nat → Int32) (E2 : Nat → Int32) (ls : Array Slot) (H : Heap) (locs : List Loc), i + n = dc → (xk_rs (xk_su (xk_c gc P A0)) dc n i U2 = xk_rs (xk_su (xk_c gc P A0)) dc dc 0 U) → (xk_rs (xk_sd (xk_c gc P A0)) dc n i E2 = xk_rs (xk_sd (xk_c gc P A0)) dc dc 0 E) → lv_has ls 6 [(0, .ref s0), (1, .ref b0), (2, .int (nI i))] → va_P D xn_cl [(s0, .inr (4, [.ref s1, .ref s2, .int f0, .int e0])), (s1, .inl (cI, 144, .inl U2)), (s2, .inl (cI, 144, .inl E2)), (b0, .inr (0, [.ref b1, .ref b2, .int (nI gc), .int (nI dc)])), (b1, .inl (cI, 78, .inl P)), (b2, .inl (cI, 78, .inl A0))] H → va_D A [(s0, .inr (4, [.ref s1, .ref s2, .int f0, .int e0])), (s1, .inl (cI, 144, .inl U2)), (s2, .inl (cI, 144, .inl E2)), (b0, .inr (0, [.ref b1, .ref b2, .int (nI gc), .int (nI dc)])), (b1, .inl (cI, 78, .inl P)), (b2, .inl (cI, 78, .inl A0))] → va_S A s.heap H locs → W p l e (xc_rm 1 0 0) s m args below meth c H locs 0 0 Q (F0 m 2 ls []) := by
    intro n
    induction n with
    | zero =>
      intro i U2 E2 ls H locs hi2 hu he hl hP hD hS
      refine lv_iload_n hx hb xj_S_readSteps_2 rfl (lv_at hl 2 rfl) ?_
      refine lv_aload_n hx hb xj_S_readSteps_3 rfl (lv_at hl 1 rfl) ?_
      refine va_getN (D := D) (ci := 0) (v := .int (nI dc)) (C := xn_B) (T := xn_TB) (N := 4) hx hb hgs xw_uB hown hK.1 hP 3 rfl rfl 3 (by decide) (va_Nw.use rfl (hK.2 _ (List.mem_of_getElem? (i := 2) rfl))) (fun _ h9 => h9) rfl xj_S_readSteps_4 ?_
      refine xr_ge (tgt := 108) hx hb (by omega) (by omega) xj_S_readSteps_7 rfl (fun h7 => ?_) (fun h7 => absurd h7 (by omega))
      obtain rfl : U2 = _ := hu
      obtain rfl : E2 = _ := he
      exact hret (()) H locs _ ls trivial hP hD hS xj_S_readSteps_108
    | succ n ih2 =>
      intro i U2 E2 ls H locs hi2 hu he hl hP hD hS
      refine lv_iload_n hx hb xj_S_readSteps_2 rfl (lv_at hl 2 rfl) ?_
      refine lv_aload_n hx hb xj_S_readSteps_3 rfl (lv_at hl 1 rfl) ?_
      refine va_getN (D := D) (ci := 0) (v := .int (nI dc)) (C := xn_B) (T := xn_TB) (N := 4) hx hb hgs xw_uB hown hK.1 hP 3 rfl rfl 3 (by decide) (va_Nw.use rfl (hK.2 _ (List.mem_of_getElem? (i := 2) rfl))) (fun _ h9 => h9) rfl xj_S_readSteps_4 ?_
      refine xr_ge (tgt := 108) hx hb (by omega) (by omega) xj_S_readSteps_7 rfl (fun h7 => absurd h7 (by omega)) (fun h7 => ?_)
      refine lv_aload_n hx hb xj_S_readSteps_10 rfl (lv_at hl 1 rfl) ?_
      refine lv_iload_n hx hb xj_S_readSteps_11 rfl (lv_at hl 2 rfl) ?_
      refine lv_iload_n hx hb xj_S_readSteps_12 rfl (lv_at hl 2 rfl) ?_
      refine xc_callVN (av := [.int (nI i), .int (nI i)]) (rest := []) hAt hT (xt_B_costOf l D cI cZ cJ b0 b1 b2 gc dc P A0 i i (by omega) (by omega) (by omega)) (List.mem_of_getElem? (i := 33) rfl) xw_2 xw_165 xw_164 xs_B_costOf (C0 := xn_B) (q0 := 0) rfl rfl (na := 2) rfl (by decide +kernel) ⟨Nat.le_of_ble_eq_true rfl, Nat.le_of_ble_eq_true rfl⟩ (hP.sub (ws' := [(b0, .inr (0, [.ref b1, .ref b2, .int (nI gc), .int (nI dc)])), (b1, .inl (cI, 78, .inl P)), (b2, .inl (cI, 78, .inl A0))]) [3, 4, 5] rfl) hK hl.1 (Nat.le_of_ble_eq_true rfl) ⟨Nat.zero_le _, Nat.zero_le _⟩ xj_S_readSteps_13 ?_
      refine lv_istore_n (lv' := [(3, .int (xk_c gc P A0 i i)), (0, .ref s0), (1, .ref b0), (2, .int (nI i))]) hx hb xj_S_readSteps_16 rfl hl (by decide) rfl (fun ls hl => ?_)
      refine lv_iconst (v := nI 0) hx hb xj_S_readSteps_17 (by decide) ?_
      refine lv_istore (lv' := [(4, .int (nI 0)), (3, .int (xk_c gc P A0 i i)), (0, .ref s0), (1, .ref b0), (2, .int (nI i))]) hx hb xj_S_readSteps_18 hl (by decide) rfl (fun ls hl => ?_)
      have loop20 : ∀ (k : Nat) (j : Nat) (U3 : Nat → Int32) (E3 : Nat → Int32) (ls : Array Slot) (H : Heap) (locs : List Loc), j + k = dc → (xf_f2 (xk_su (xk_c gc P A0) i) (i * 12) k j U3 = xf_f2 (xk_su (xk_c gc P A0) i) (i * 12) dc 0 U2) → (xf_f2 (xk_sd (xk_c gc P A0) i) (i * 12) k j E3 = xf_f2 (xk_sd (xk_c gc P A0) i) (i * 12) dc 0 E2) → lv_has ls 6 [(0, .ref s0), (1, .ref b0), (2, .int (nI i)), (3, .int (xk_c gc P A0 i i)), (4, .int (nI j))] → va_P D xn_cl [(s0, .inr (4, [.ref s1, .ref s2, .int f0, .int e0])), (s1, .inl (cI, 144, .inl U3)), (s2, .inl (cI, 144, .inl E3)), (b0, .inr (0, [.ref b1, .ref b2, .int (nI gc), .int (nI dc)])), (b1, .inl (cI, 78, .inl P)), (b2, .inl (cI, 78, .inl A0))] H → va_D A [(s0, .inr (4, [.ref s1, .ref s2, .int f0, .int e0])), (s1, .inl (cI, 144, .inl U3)), (s2, .inl (cI, 144, .inl E3)), (b0, .inr (0, [.ref b1, .ref b2, .int (nI gc), .int (nI dc)])), (b1, .inl (cI, 78, .inl P)), (b2, .inl (cI, 78, .inl A0))] → va_S A s.heap H locs → W p l e (xc_rm 1 0 0) s m args below meth c H locs 0 0 Q (F0 m 20 ls []) := by
        intro k
        induction k with
        | zero =>
          intro j U3 E3 ls H locs hi20 hu2 he2 hl hP hD hS
          refine lv_iload hx hb xj_S_readSteps_20 (lv_at hl 4 rfl) ?_
          refine lv_aload_n hx hb xj_S_readSteps_22 rfl (lv_at hl 1 rfl) ?_
          refine va_getN (D := D) (ci := 0) (v := .int (nI dc)) (C := xn_B) (T := xn_TB) (N := 4) hx hb hgs xw_uB hown hK.1 hP 3 rfl rfl 3 (by decide) (va_Nw.use rfl (hK.2 _ (List.mem_of_getElem? (i := 2) rfl))) (fun _ h9 => h9) rfl xj_S_readSteps_23 ?_
          refine xr_ge (tgt := 102) hx hb (by omega) (by omega) xj_S_readSteps_26 rfl (fun h26 => ?_) (fun h26 => absurd h26 (by omega))
          refine lv_iinc (k := 2) (v := nI (i + 1)) (lv' := [(2, .int (nI (i + 1))), (0, .ref s0), (1, .ref b0), (3, .int (xk_c gc P A0 i i)), (4, .int (nI j))]) hx hb xj_S_readSteps_102 hl rfl (xr_inc _) (by decide) rfl (fun ls hl => ?_)
          refine lv_goto (tgt := 2) hx hb xj_S_readSteps_105 rfl ?_
          exact ih2 (i + 1) U3 E3 ls _ _ (by omega) (by rw [show U3 = _ from hu2]; exact hu) (by rw [show E3 = _ from he2]; exact he) (lv_sub hl [1, 2, 0] rfl) hP hD hS
        | succ k ih20 =>
          intro j U3 E3 ls H locs hi20 hu2 he2 hl hP hD hS
          refine lv_iload hx hb xj_S_readSteps_20 (lv_at hl 4 rfl) ?_
          refine lv_aload_n hx hb xj_S_readSteps_22 rfl (lv_at hl 1 rfl) ?_
          refine va_getN (D := D) (ci := 0) (v := .int (nI dc)) (C := xn_B) (T := xn_TB) (N := 4) hx hb hgs xw_uB hown hK.1 hP 3 rfl rfl 3 (by decide) (va_Nw.use rfl (hK.2 _ (List.mem_of_getElem? (i := 2) rfl))) (fun _ h9 => h9) rfl xj_S_readSteps_23 ?_
          refine xr_ge (tgt := 102) hx hb (by omega) (by omega) xj_S_readSteps_26 rfl (fun h26 => absurd h26 (by omega)) (fun h26 => ?_)
          refine lv_iload_n hx hb xj_S_readSteps_29 rfl (lv_at hl 2 rfl) ?_
          refine lv_iload hx hb xj_S_readSteps_30 (lv_at hl 4 rfl) ?_
          refine xr_eq (tgt := 43) hx hb (by omega) (by omega) xj_S_readSteps_32 rfl (fun h32 => ?_) (fun h32 => ?_)
          · -- 43
            refine lv_iconst (v := nI 0) hx hb xj_S_readSteps_43 (by decide) ?_
            refine lv_istore (lv' := [(5, .int (nI 0)), (0, .ref s0), (1, .ref b0), (2, .int (nI i)), (3, .int (xk_c gc P A0 i i)), (4, .int (nI j))]) hx hb xj_S_readSteps_44 hl (by decide) rfl (fun ls hl => ?_)
            refine lv_aload_n hx hb xj_S_readSteps_46 rfl (lv_at hl 1 rfl) ?_
            refine va_get (D := D) (ci := 4) (v := .ref s1) (C := xn_S) (T := xn_TS) (N := 4) hx hb hgs xw_uS hown hK.1 hP 0 rfl rfl 0 (by decide) (hgs _ xw_100) (fun _ h9 => h9) rfl xj_S_readSteps_47 ?_
            refine lv_iload_n hx hb xj_S_readSteps_50 rfl (lv_at hl 3 rfl) ?_
            refine lv_bipush (v := nI 12) hx hb xj_S_readSteps_51 (by decide) ?_
            refine xr_imul hx hb xj_S_readSteps_53 ?_
            refine lv_iload hx hb xj_S_readSteps_54 (lv_at hl 5 rfl) ?_
            refine xr_iadd hx hb xj_S_readSteps_56 ?_
            refine lv_iload hx hb xj_S_readSteps_57 (lv_at hl 0 rfl) ?_
            refine xr_ifeqN (tgt := 72) hx hb (by omega) xj_S_readSteps_59 rfl (fun h59 => ?_) (fun h59 => absurd h59 (by omega))
            refine lv_iconst (v := nI 1) hx hb xj_S_readSteps_72 (by decide) ?_
            refine xr_iast hx hb hK.1 hP hD hS 1 0 rfl rfl (by omega) (by decide) xj_S_readSteps_73 (fun H locs hP hD hS => ?_)
            have hP : va_P D xn_cl [(s0, .inr (4, [.ref s1, .ref s2, .int f0, .int e0])), (s1, .inl (cI, 144, .inl (upd U3 ((i * 12) + j) (nI 1)))), (s2, .inl (cI, 144, .inl E3)), (b0, .inr (0, [.ref b1, .ref b2, .int (nI gc), .int (nI dc)])), (b1, .inl (cI, 78, .inl P)), (b2, .inl (cI, 78, .inl A0))] H := hP
            have hD : va_D A [(s0, .inr (4, [.ref s1, .ref s2, .int f0, .int e0])), (s1, .inl (cI, 144, .inl (upd U3 ((i * 12) + j) (nI 1)))), (s2, .inl (cI, 144, .inl E3)), (b0, .inr (0, [.ref b1, .ref b2, .int (nI gc), .int (nI dc)])), (b1, .inl (cI, 78, .inl P)), (b2, .inl (cI, 78, .inl A0))] := hD
            refine lv_aload_n hx hb xj_S_readSteps_74 rfl (lv_at hl 1 rfl) ?_
            refine va_get (D := D) (ci := 4) (v := .ref s2) (C := xn_S) (T := xn_TS) (N := 4) hx hb hgs xw_uS hown hK.1 hP 0 rfl rfl 1 (by decide) (hgs _ xw_101) (fun _ h9 => h9) rfl xj_S_readSteps_75 ?_
            refine lv_iload_n hx hb xj_S_readSteps_78 rfl (lv_at hl 3 rfl) ?_
            refine lv_bipush (v := nI 12) hx hb xj_S_readSteps_79 (by decide) ?_
            refine xr_imul hx hb xj_S_readSteps_81 ?_
            refine lv_iload hx hb xj_S_readSteps_82 (lv_at hl 5 rfl) ?_
            refine xr_iadd hx hb xj_S_readSteps_84 ?_
            refine lv_iload hx hb xj_S_readSteps_85 (lv_at hl 0 rfl) ?_
            refine xr_ifeqN (tgt := 94) hx hb (by omega) xj_S_readSteps_87 rfl (fun h87 => ?_) (fun h87 => absurd h87 (by omega))
            refine lv_iconst (v := nI 0) hx hb xj_S_readSteps_94 (by decide) ?_
            refine xr_iast hx hb hK.1 hP hD hS 2 0 rfl rfl (by omega) (by decide) xj_S_readSteps_95 (fun H locs hP hD hS => ?_)
            have hP : va_P D xn_cl [(s0, .inr (4, [.ref s1, .ref s2, .int f0, .int e0])), (s1, .inl (cI, 144, .inl (upd U3 ((i * 12) + j) (nI 1)))), (s2, .inl (cI, 144, .inl (upd E3 ((i * 12) + j) (nI 0)))), (b0, .inr (0, [.ref b1, .ref b2, .int (nI gc), .int (nI dc)])), (b1, .inl (cI, 78, .inl P)), (b2, .inl (cI, 78, .inl A0))] H := hP
            have hD : va_D A [(s0, .inr (4, [.ref s1, .ref s2, .int f0, .int e0])), (s1, .inl (cI, 144, .inl (upd U3 ((i * 12) + j) (nI 1)))), (s2, .inl (cI, 144, .inl (upd E3 ((i * 12) + j) (nI 0)))), (b0, .inr (0, [.ref b1, .ref b2, .int (nI gc), .int (nI dc)])), (b1, .inl (cI, 78, .inl P)), (b2, .inl (cI, 78, .inl A0))] := hD
            refine lv_iinc (k := 5) (v := nI (j + 1)) (lv' := [(4, .int (nI (j + 1))), (5, .int (nI 0)), (0, .ref s0), (1, .ref b0), (2, .int (nI i)), (3, .int (xk_c gc P A0 i i))]) hx hb xj_S_readSteps_96 hl rfl (xr_inc _) (by decide) rfl (fun ls hl => ?_)
            refine lv_goto (tgt := 20) hx hb xj_S_readSteps_99 rfl ?_
            exact ih20 (j + 1) (upd U3 ((i * 12) + j) (nI 1)) (upd E3 ((i * 12) + j) (nI 0)) ls _ _ (by omega) ((xf_f2_s (xk_su_f (Or.inl h32))).symm.trans hu2) ((xf_f2_s (xk_sd_f (Or.inl h32))).symm.trans he2) (lv_sub hl [2, 3, 4, 5, 0] rfl) hP hD hS
          · -- 35
            refine lv_iload_n hx hb xj_S_readSteps_35 rfl (lv_at hl 3 rfl) ?_
            refine lv_if_le (tgt := 43) hx hb xj_S_readSteps_36 rfl (fun h36 => ?_) (fun h36 => ?_)
            · -- 43
              refine lv_iconst (v := nI 0) hx hb xj_S_readSteps_43 (by decide) ?_
              refine lv_istore (lv' := [(5, .int (nI 0)), (0, .ref s0), (1, .ref b0), (2, .int (nI i)), (3, .int (xk_c gc P A0 i i)), (4, .int (nI j))]) hx hb xj_S_readSteps_44 hl (by decide) rfl (fun ls hl => ?_)
              refine lv_aload_n hx hb xj_S_readSteps_46 rfl (lv_at hl 1 rfl) ?_
              refine va_get (D := D) (ci := 4) (v := .ref s1) (C := xn_S) (T := xn_TS) (N := 4) hx hb hgs xw_uS hown hK.1 hP 0 rfl rfl 0 (by decide) (hgs _ xw_100) (fun _ h9 => h9) rfl xj_S_readSteps_47 ?_
              refine lv_iload_n hx hb xj_S_readSteps_50 rfl (lv_at hl 3 rfl) ?_
              refine lv_bipush (v := nI 12) hx hb xj_S_readSteps_51 (by decide) ?_
              refine xr_imul hx hb xj_S_readSteps_53 ?_
              refine lv_iload hx hb xj_S_readSteps_54 (lv_at hl 5 rfl) ?_
              refine xr_iadd hx hb xj_S_readSteps_56 ?_
              refine lv_iload hx hb xj_S_readSteps_57 (lv_at hl 0 rfl) ?_
              refine xr_ifeqN (tgt := 72) hx hb (by omega) xj_S_readSteps_59 rfl (fun h59 => ?_) (fun h59 => absurd h59 (by omega))
              refine lv_iconst (v := nI 1) hx hb xj_S_readSteps_72 (by decide) ?_
              refine xr_iast hx hb hK.1 hP hD hS 1 0 rfl rfl (by omega) (by decide) xj_S_readSteps_73 (fun H locs hP hD hS => ?_)
              have hP : va_P D xn_cl [(s0, .inr (4, [.ref s1, .ref s2, .int f0, .int e0])), (s1, .inl (cI, 144, .inl (upd U3 ((i * 12) + j) (nI 1)))), (s2, .inl (cI, 144, .inl E3)), (b0, .inr (0, [.ref b1, .ref b2, .int (nI gc), .int (nI dc)])), (b1, .inl (cI, 78, .inl P)), (b2, .inl (cI, 78, .inl A0))] H := hP
              have hD : va_D A [(s0, .inr (4, [.ref s1, .ref s2, .int f0, .int e0])), (s1, .inl (cI, 144, .inl (upd U3 ((i * 12) + j) (nI 1)))), (s2, .inl (cI, 144, .inl E3)), (b0, .inr (0, [.ref b1, .ref b2, .int (nI gc), .int (nI dc)])), (b1, .inl (cI, 78, .inl P)), (b2, .inl (cI, 78, .inl A0))] := hD
              refine lv_aload_n hx hb xj_S_readSteps_74 rfl (lv_at hl 1 rfl) ?_
              refine va_get (D := D) (ci := 4) (v := .ref s2) (C := xn_S) (T := xn_TS) (N := 4) hx hb hgs xw_uS hown hK.1 hP 0 rfl rfl 1 (by decide) (hgs _ xw_101) (fun _ h9 => h9) rfl xj_S_readSteps_75 ?_
              refine lv_iload_n hx hb xj_S_readSteps_78 rfl (lv_at hl 3 rfl) ?_
              refine lv_bipush (v := nI 12) hx hb xj_S_readSteps_79 (by decide) ?_
              refine xr_imul hx hb xj_S_readSteps_81 ?_
              refine lv_iload hx hb xj_S_readSteps_82 (lv_at hl 5 rfl) ?_
              refine xr_iadd hx hb xj_S_readSteps_84 ?_
              refine lv_iload hx hb xj_S_readSteps_85 (lv_at hl 0 rfl) ?_
              refine xr_ifeqN (tgt := 94) hx hb (by omega) xj_S_readSteps_87 rfl (fun h87 => ?_) (fun h87 => absurd h87 (by omega))
              refine lv_iconst (v := nI 0) hx hb xj_S_readSteps_94 (by decide) ?_
              refine xr_iast hx hb hK.1 hP hD hS 2 0 rfl rfl (by omega) (by decide) xj_S_readSteps_95 (fun H locs hP hD hS => ?_)
              have hP : va_P D xn_cl [(s0, .inr (4, [.ref s1, .ref s2, .int f0, .int e0])), (s1, .inl (cI, 144, .inl (upd U3 ((i * 12) + j) (nI 1)))), (s2, .inl (cI, 144, .inl (upd E3 ((i * 12) + j) (nI 0)))), (b0, .inr (0, [.ref b1, .ref b2, .int (nI gc), .int (nI dc)])), (b1, .inl (cI, 78, .inl P)), (b2, .inl (cI, 78, .inl A0))] H := hP
              have hD : va_D A [(s0, .inr (4, [.ref s1, .ref s2, .int f0, .int e0])), (s1, .inl (cI, 144, .inl (upd U3 ((i * 12) + j) (nI 1)))), (s2, .inl (cI, 144, .inl (upd E3 ((i * 12) + j) (nI 0)))), (b0, .inr (0, [.ref b1, .ref b2, .int (nI gc), .int (nI dc)])), (b1, .inl (cI, 78, .inl P)), (b2, .inl (cI, 78, .inl A0))] := hD
              refine lv_iinc (k := 5) (v := nI (j + 1)) (lv' := [(4, .int (nI (j + 1))), (5, .int (nI 0)), (0, .ref s0), (1, .ref b0), (2, .int (nI i)), (3, .int (xk_c gc P A0 i i))]) hx hb xj_S_readSteps_96 hl rfl (xr_inc _) (by decide) rfl (fun ls hl => ?_)
              refine lv_goto (tgt := 20) hx hb xj_S_readSteps_99 rfl ?_
              exact ih20 (j + 1) (upd U3 ((i * 12) + j) (nI 1)) (upd E3 ((i * 12) + j) (nI 0)) ls _ _ (by omega) ((xf_f2_s (xk_su_f (Or.inr h36))).symm.trans hu2) ((xf_f2_s (xk_sd_f (Or.inr h36))).symm.trans he2) (lv_sub hl [2, 3, 4, 5, 0] rfl) hP hD hS
            · -- 39
              refine lv_iconst (v := nI 1) hx hb xj_S_readSteps_39 (by decide) ?_
              refine lv_goto (tgt := 44) hx hb xj_S_readSteps_40 rfl ?_
              refine lv_istore (lv' := [(5, .int (nI 1)), (0, .ref s0), (1, .ref b0), (2, .int (nI i)), (3, .int (xk_c gc P A0 i i)), (4, .int (nI j))]) hx hb xj_S_readSteps_44 hl (by decide) rfl (fun ls hl => ?_)
              refine lv_aload_n hx hb xj_S_readSteps_46 rfl (lv_at hl 1 rfl) ?_
              refine va_get (D := D) (ci := 4) (v := .ref s1) (C := xn_S) (T := xn_TS) (N := 4) hx hb hgs xw_uS hown hK.1 hP 0 rfl rfl 0 (by decide) (hgs _ xw_100) (fun _ h9 => h9) rfl xj_S_readSteps_47 ?_
              refine lv_iload_n hx hb xj_S_readSteps_50 rfl (lv_at hl 3 rfl) ?_
              refine lv_bipush (v := nI 12) hx hb xj_S_readSteps_51 (by decide) ?_
              refine xr_imul hx hb xj_S_readSteps_53 ?_
              refine lv_iload hx hb xj_S_readSteps_54 (lv_at hl 5 rfl) ?_
              refine xr_iadd hx hb xj_S_readSteps_56 ?_
              refine lv_iload hx hb xj_S_readSteps_57 (lv_at hl 0 rfl) ?_
              refine xr_ifeqN (tgt := 72) hx hb (by omega) xj_S_readSteps_59 rfl (fun h59 => absurd h59 (by omega)) (fun h59 => ?_)
              refine lv_aload_n hx hb xj_S_readSteps_62 rfl (lv_at hl 2 rfl) ?_
              refine lv_iload_n hx hb xj_S_readSteps_63 rfl (lv_at hl 3 rfl) ?_
              refine lv_iload hx hb xj_S_readSteps_64 (lv_at hl 5 rfl) ?_
              refine xc_callVN (av := [.int (nI i), .int (nI j)]) (rest := [.int (nI ((i * 12) + j)), .ref s1]) hAt hT (xt_B_costOf l D cI cZ cJ b0 b1 b2 gc dc P A0 i j (by omega) (by omega) (by omega)) (List.mem_of_getElem? (i := 33) rfl) xw_2 xw_165 xw_164 xs_B_costOf (C0 := xn_B) (q0 := 0) rfl rfl (na := 2) rfl (by decide +kernel) ⟨Nat.le_of_ble_eq_true rfl, Nat.le_of_ble_eq_true rfl⟩ (hP.sub (ws' := [(b0, .inr (0, [.ref b1, .ref b2, .int (nI gc), .int (nI dc)])), (b1, .inl (cI, 78, .inl P)), (b2, .inl (cI, 78, .inl A0))]) [3, 4, 5] rfl) hK hl.1 (Nat.le_of_ble_eq_true rfl) ⟨Nat.zero_le _, Nat.zero_le _⟩ xj_S_readSteps_66 ?_
              refine lv_goto (tgt := 73) hx hb xj_S_readSteps_69 rfl ?_
              refine xr_iast hx hb hK.1 hP hD hS 1 0 rfl rfl (by omega) (by decide) xj_S_readSteps_73 (fun H locs hP hD hS => ?_)
              have hP : va_P D xn_cl [(s0, .inr (4, [.ref s1, .ref s2, .int f0, .int e0])), (s1, .inl (cI, 144, .inl (upd U3 ((i * 12) + j) (xk_c gc P A0 i j)))), (s2, .inl (cI, 144, .inl E3)), (b0, .inr (0, [.ref b1, .ref b2, .int (nI gc), .int (nI dc)])), (b1, .inl (cI, 78, .inl P)), (b2, .inl (cI, 78, .inl A0))] H := hP
              have hD : va_D A [(s0, .inr (4, [.ref s1, .ref s2, .int f0, .int e0])), (s1, .inl (cI, 144, .inl (upd U3 ((i * 12) + j) (xk_c gc P A0 i j)))), (s2, .inl (cI, 144, .inl E3)), (b0, .inr (0, [.ref b1, .ref b2, .int (nI gc), .int (nI dc)])), (b1, .inl (cI, 78, .inl P)), (b2, .inl (cI, 78, .inl A0))] := hD
              refine lv_aload_n hx hb xj_S_readSteps_74 rfl (lv_at hl 1 rfl) ?_
              refine va_get (D := D) (ci := 4) (v := .ref s2) (C := xn_S) (T := xn_TS) (N := 4) hx hb hgs xw_uS hown hK.1 hP 0 rfl rfl 1 (by decide) (hgs _ xw_101) (fun _ h9 => h9) rfl xj_S_readSteps_75 ?_
              refine lv_iload_n hx hb xj_S_readSteps_78 rfl (lv_at hl 3 rfl) ?_
              refine lv_bipush (v := nI 12) hx hb xj_S_readSteps_79 (by decide) ?_
              refine xr_imul hx hb xj_S_readSteps_81 ?_
              refine lv_iload hx hb xj_S_readSteps_82 (lv_at hl 5 rfl) ?_
              refine xr_iadd hx hb xj_S_readSteps_84 ?_
              refine lv_iload hx hb xj_S_readSteps_85 (lv_at hl 0 rfl) ?_
              refine xr_ifeqN (tgt := 94) hx hb (by omega) xj_S_readSteps_87 rfl (fun h87 => absurd h87 (by omega)) (fun h87 => ?_)
              refine lv_iload_n hx hb xj_S_readSteps_90 rfl (lv_at hl 4 rfl) ?_
              refine lv_goto (tgt := 95) hx hb xj_S_readSteps_91 rfl ?_
              refine xr_iast hx hb hK.1 hP hD hS 2 0 rfl rfl (by omega) (by decide) xj_S_readSteps_95 (fun H locs hP hD hS => ?_)
              have hP : va_P D xn_cl [(s0, .inr (4, [.ref s1, .ref s2, .int f0, .int e0])), (s1, .inl (cI, 144, .inl (upd U3 ((i * 12) + j) (xk_c gc P A0 i j)))), (s2, .inl (cI, 144, .inl (upd E3 ((i * 12) + j) (xk_c gc P A0 i i)))), (b0, .inr (0, [.ref b1, .ref b2, .int (nI gc), .int (nI dc)])), (b1, .inl (cI, 78, .inl P)), (b2, .inl (cI, 78, .inl A0))] H := hP
              have hD : va_D A [(s0, .inr (4, [.ref s1, .ref s2, .int f0, .int e0])), (s1, .inl (cI, 144, .inl (upd U3 ((i * 12) + j) (xk_c gc P A0 i j)))), (s2, .inl (cI, 144, .inl (upd E3 ((i * 12) + j) (xk_c gc P A0 i i)))), (b0, .inr (0, [.ref b1, .ref b2, .int (nI gc), .int (nI dc)])), (b1, .inl (cI, 78, .inl P)), (b2, .inl (cI, 78, .inl A0))] := hD
              refine lv_iinc (k := 5) (v := nI (j + 1)) (lv' := [(4, .int (nI (j + 1))), (5, .int (nI 1)), (0, .ref s0), (1, .ref b0), (2, .int (nI i)), (3, .int (xk_c gc P A0 i i))]) hx hb xj_S_readSteps_96 hl rfl (xr_inc _) (by decide) rfl (fun ls hl => ?_)
              refine lv_goto (tgt := 20) hx hb xj_S_readSteps_99 rfl ?_
              exact ih20 (j + 1) (upd U3 ((i * 12) + j) (xk_c gc P A0 i j)) (upd E3 ((i * 12) + j) (xk_c gc P A0 i i)) ls _ _ (by omega) ((xf_f2_s (xk_su_t h32 h36)).symm.trans hu2) ((xf_f2_s (xk_sd_t h32 h36)).symm.trans he2) (lv_sub hl [2, 3, 4, 5, 0] rfl) hP hD hS
      exact loop20 dc 0 U2 E2 ls _ _ (by omega) rfl rfl (lv_sub hl [2, 3, 4, 1, 0] rfl) hP hD hS
  exact loop2 dc 0 U E ls _ _ (by omega) rfl rfl (lv_sub hl [1, 2, 0] rfl) hP hD hS
set_option maxRecDepth 100000 in
set_option maxHeartbeats 4000000 in
theorem xt_S_goThrough (l : Launch) (D : va_G) (cI cZ cJ : ClassId) (s0 s1 s2 : Nat) (U E : Nat → Int32) (f0 e0 : Int32) (v0 dc : Nat) (hv : v0 < 12) (hd : dc ≤ 12) : xc_Wv l xy_S_goThrough xb_S_goThrough 9 1 0 0 [.ref s0, .int (nI v0), .int (nI dc)] D cI cZ cJ [(s0, .inr (4, [.ref s1, .ref s2, .int f0, .int e0])), (s1, .inl (cI, 144, .inl U)), (s2, .inl (cI, 144, .inl E))] (Unit) (fun _ => True) (fun _ => [(s0, .inr (4, [.ref s1, .ref s2, .int f0, .int e0])), (s1, .inl (cI, 144, .inl ((xk_go v0 dc dc 0 (U, E)).1))), (s2, .inl (cI, 144, .inl ((xk_go v0 dc dc 0 (U, E)).2)))]) := by
  refine xc_Wv_of (by decide) (Nat.le_of_ble_eq_true rfl) ?_
  intro p e s m args below meth c Q ls A hAt hin hP hK hD hA hS hl hret
  obtain ⟨hx, hb, hml, hown, hts, hgs, hlk⟩ := id hAt
  have hT : ∀ w ∈ xw_g, w ∈ xc_ws xy_S_goThrough xb_S_goThrough 9 (none) := fun w h => List.mem_cons_of_mem _ h
  have hown : s.vm.findClass "WishLedger$ShrinkageFinder" = some m.cls := hown
  obtain ⟨H, hH0⟩ : ∃ H, H = s.heap := ⟨_, rfl⟩
  obtain ⟨locs, hL0⟩ : ∃ locs : List Loc, locs = [] := ⟨_, rfl⟩
  have hP : va_P D xn_cl [(s0, .inr (4, [.ref s1, .ref s2, .int f0, .int e0])), (s1, .inl (cI, 144, .inl U)), (s2, .inl (cI, 144, .inl E))] H := by rw [hH0]; exact hP
  have hS : va_S A s.heap H locs := by rw [hH0, hL0]; exact hS
  suffices hgo : W p l e (xc_rm 1 0 0) s m args below meth c H locs 0 0 Q (F0 m 0 ls []) by rw [hH0, hL0] at hgo; exact hgo
  clear hH0 hL0
  have hl : lv_has ls 9 [(0, .ref s0), (1, .int (nI v0)), (2, .int (nI dc))] := hl
  refine lv_iconst (v := nI 0) hx hb xj_S_goThrough_0 (by decide) ?_
  refine lv_istore_n (lv' := [(3, .int (nI 0)), (0, .ref s0), (1, .int (nI v0)), (2, .int (nI dc))]) hx hb xj_S_goThrough_1 rfl hl (by decide) rfl (fun ls hl => ?_)
  have loop2 : ∀ (n : Nat) (i : Nat) (U2 : Nat → Int32) (E2 : Nat → Int32) (ls : Array Slot) (H : Heap) (locs : List Loc), i + n = dc → (xk_go v0 dc n i (U2, E2) = xk_go v0 dc dc 0 (U, E)) → lv_has ls 9 [(0, .ref s0), (1, .int (nI v0)), (2, .int (nI dc)), (3, .int (nI i))] → va_P D xn_cl [(s0, .inr (4, [.ref s1, .ref s2, .int f0, .int e0])), (s1, .inl (cI, 144, .inl U2)), (s2, .inl (cI, 144, .inl E2))] H → va_D A [(s0, .inr (4, [.ref s1, .ref s2, .int f0, .int e0])), (s1, .inl (cI, 144, .inl U2)), (s2, .inl (cI, 144, .inl E2))] → va_S A s.heap H locs → W p l e (xc_rm 1 0 0) s m args below meth c H locs 0 0 Q (F0 m 2 ls []) := by
    intro n
    induction n with
    | zero =>
      intro i U2 E2 ls H locs hi2 hr hl hP hD hS
      refine lv_iload_n hx hb xj_S_goThrough_2 rfl (lv_at hl 3 rfl) ?_
      refine lv_iload_n hx hb xj_S_goThrough_3 rfl (lv_at hl 2 rfl) ?_
      refine xr_ge (tgt := 167) hx hb (by omega) (by omega) xj_S_goThrough_4 rfl (fun h4 => ?_) (fun h4 => absurd h4 (by omega))
      obtain ⟨rfl, rfl⟩ : U2 = (xk_go v0 dc dc 0 (U, E)).1 ∧ E2 = (xk_go v0 dc dc 0 (U, E)).2 := ⟨congrArg Prod.fst hr, congrArg Prod.snd hr⟩
      exact hret (()) H locs _ ls trivial hP hD hS xj_S_goThrough_167
    | succ n ih2 =>
      intro i U2 E2 ls H locs hi2 hr hl hP hD hS
      refine lv_iload_n hx hb xj_S_goThrough_2 rfl (lv_at hl 3 rfl) ?_
      refine lv_iload_n hx hb xj_S_goThrough_3 rfl (lv_at hl 2 rfl) ?_
      refine xr_ge (tgt := 167) hx hb (by omega) (by omega) xj_S_goThrough_4 rfl (fun h4 => absurd h4 (by omega)) (fun h4 => ?_)
      refine lv_iconst (v := nI 0) hx hb xj_S_goThrough_7 (by decide) ?_
      refine lv_istore (lv' := [(4, .int (nI 0)), (0, .ref s0), (1, .int (nI v0)), (2, .int (nI dc)), (3, .int (nI i))]) hx hb xj_S_goThrough_8 hl (by decide) rfl (fun ls hl => ?_)
      have loop10 : ∀ (k : Nat) (j : Nat) (U3 : Nat → Int32) (E3 : Nat → Int32) (ls : Array Slot) (H : Heap) (locs : List Loc), j + k = dc → (xk_gi v0 i k j (U3, E3) = xk_gi v0 i dc 0 (U2, E2)) → lv_has ls 9 [(0, .ref s0), (1, .int (nI v0)), (2, .int (nI dc)), (3, .int (nI i)), (4, .int (nI j))] → va_P D xn_cl [(s0, .inr (4, [.ref s1, .ref s2, .int f0, .int e0])), (s1, .inl (cI, 144, .inl U3)), (s2, .inl (cI, 144, .inl E3))] H → va_D A [(s0, .inr (4, [.ref s1, .ref s2, .int f0, .int e0])), (s1, .inl (cI, 144, .inl U3)), (s2, .inl (cI, 144, .inl E3))] → va_S A s.heap H locs → W p l e (xc_rm 1 0 0) s m args below meth c H locs 0 0 Q (F0 m 10 ls []) := by
        intro k
        induction k with
        | zero =>
          intro j U3 E3 ls H locs hi10 hq hl hP hD hS
          refine lv_iload hx hb xj_S_goThrough_10 (lv_at hl 4 rfl) ?_
          refine lv_iload_n hx hb xj_S_goThrough_12 rfl (lv_at hl 2 rfl) ?_
          refine xr_ge (tgt := 161) hx hb (by omega) (by omega) xj_S_goThrough_13 rfl (fun h13 => ?_) (fun h13 => absurd h13 (by omega))
          refine lv_iinc (k := 3) (v := nI (i + 1)) (lv' := [(3, .int (nI (i + 1))), (0, .ref s0), (1, .int (nI v0)), (2, .int (nI dc)), (4, .int (nI j))]) hx hb xj_S_goThrough_161 hl rfl (xr_inc _) (by decide) rfl (fun ls hl => ?_)
          refine lv_goto (tgt := 2) hx hb xj_S_goThrough_164 rfl ?_
          exact ih2 (i + 1) U3 E3 ls _ _ (by omega) (by rw [show (U3, E3) = _ from hq]; exact hr) (lv_sub hl [1, 2, 3, 0] rfl) hP hD hS
        | succ k ih10 =>
          intro j U3 E3 ls H locs hi10 hq hl hP hD hS
          refine lv_iload hx hb xj_S_goThrough_10 (lv_at hl 4 rfl) ?_
          refine lv_iload_n hx hb xj_S_goThrough_12 rfl (lv_at hl 2 rfl) ?_
          refine xr_ge (tgt := 161) hx hb (by omega) (by omega) xj_S_goThrough_13 rfl (fun h13 => absurd h13 (by omega)) (fun h13 => ?_)
          refine lv_iload_n hx hb xj_S_goThrough_16 rfl (lv_at hl 3 rfl) ?_
          refine lv_bipush (v := nI 12) hx hb xj_S_goThrough_17 (by decide) ?_
          refine xr_imul hx hb xj_S_goThrough_19 ?_
          refine lv_iload_n hx hb xj_S_goThrough_20 rfl (lv_at hl 1 rfl) ?_
          refine xr_iadd hx hb xj_S_goThrough_21 ?_
          refine lv_istore (lv' := [(5, .int (nI ((i * 12) + v0))), (0, .ref s0), (1, .int (nI v0)), (2, .int (nI dc)), (3, .int (nI i)), (4, .int (nI j))]) hx hb xj_S_goThrough_22 hl (by decide) rfl (fun ls hl => ?_)
          refine lv_iload_n hx hb xj_S_goThrough_24 rfl (lv_at hl 2 rfl) ?_
          refine lv_bipush (v := nI 12) hx hb xj_S_goThrough_25 (by decide) ?_
          refine xr_imul hx hb xj_S_goThrough_27 ?_
          refine lv_iload hx hb xj_S_goThrough_28 (lv_at hl 5 rfl) ?_
          refine xr_iadd hx hb xj_S_goThrough_30 ?_
          refine lv_istore (lv' := [(6, .int (nI ((v0 * 12) + j))), (5, .int (nI ((i * 12) + v0))), (0, .ref s0), (1, .int (nI v0)), (2, .int (nI dc)), (3, .int (nI i)), (4, .int (nI j))]) hx hb xj_S_goThrough_31 hl (by decide) rfl (fun ls hl => ?_)
          refine lv_aload_n hx hb xj_S_goThrough_33 rfl (lv_at hl 2 rfl) ?_
          refine va_get (D := D) (ci := 4) (v := .ref s1) (C := xn_S) (T := xn_TS) (N := 4) hx hb hgs xw_uS hown hK.1 hP 0 rfl rfl 0 (by decide) (hgs _ xw_100) (fun _ h9 => h9) rfl xj_S_goThrough_34 ?_
          refine lv_iload hx hb xj_S_goThrough_37 (lv_at hl 1 rfl) ?_
          refine xr_iald hx hb hK.1 hP 1 0 rfl rfl (by omega) (by decide) xj_S_goThrough_39 ?_
          refine lv_i2l hx hb xj_S_goThrough_40 rfl ?_
          refine lv_aload_n hx hb xj_S_goThrough_41 rfl (lv_at hl 2 rfl) ?_
          refine va_get (D := D) (ci := 4) (v := .ref s2) (C := xn_S) (T := xn_TS) (N := 4) hx hb hgs xw_uS hown hK.1 hP 0 rfl rfl 1 (by decide) (hgs _ xw_101) (fun _ h9 => h9) rfl xj_S_goThrough_42 ?_
          refine lv_iload hx hb xj_S_goThrough_45 (lv_at hl 1 rfl) ?_
          refine xr_iald hx hb hK.1 hP 2 0 rfl rfl (by omega) (by decide) xj_S_goThrough_47 ?_
          refine lv_i2l hx hb xj_S_goThrough_48 rfl ?_
          refine lv_aload_n hx hb xj_S_goThrough_49 rfl (lv_at hl 2 rfl) ?_
          refine va_get (D := D) (ci := 4) (v := .ref s1) (C := xn_S) (T := xn_TS) (N := 4) hx hb hgs xw_uS hown hK.1 hP 0 rfl rfl 0 (by decide) (hgs _ xw_100) (fun _ h9 => h9) rfl xj_S_goThrough_50 ?_
          refine lv_iload hx hb xj_S_goThrough_53 (lv_at hl 0 rfl) ?_
          refine xr_iald hx hb hK.1 hP 1 0 rfl rfl (by omega) (by decide) xj_S_goThrough_55 ?_
          refine lv_i2l hx hb xj_S_goThrough_56 rfl ?_
          refine lv_aload_n hx hb xj_S_goThrough_57 rfl (lv_at hl 2 rfl) ?_
          refine va_get (D := D) (ci := 4) (v := .ref s2) (C := xn_S) (T := xn_TS) (N := 4) hx hb hgs xw_uS hown hK.1 hP 0 rfl rfl 1 (by decide) (hgs _ xw_101) (fun _ h9 => h9) rfl xj_S_goThrough_58 ?_
          refine lv_iload hx hb xj_S_goThrough_61 (lv_at hl 0 rfl) ?_
          refine xr_iald hx hb hK.1 hP 2 0 rfl rfl (by omega) (by decide) xj_S_goThrough_63 ?_
          refine lv_i2l hx hb xj_S_goThrough_64 rfl ?_
          refine xc_callS (av := [.long ((U3 ((i * 12) + v0)).toInt64), .long ((E3 ((i * 12) + v0)).toInt64), .long ((U3 ((v0 * 12) + j)).toInt64), .long ((E3 ((v0 * 12) + j)).toInt64)]) (rest := []) hAt hT (xt_S_isLess l D cI cZ cJ ((U3 ((i * 12) + v0)).toInt64) ((E3 ((i * 12) + v0)).toInt64) ((U3 ((v0 * 12) + j)).toInt64) ((E3 ((v0 * 12) + j)).toInt64)) xw_463 xw_6 xw_465 xw_464 (na := 4) rfl (by decide +kernel) ⟨Nat.le_of_ble_eq_true rfl, Nat.le_of_ble_eq_true rfl⟩ (hP.sub (ws' := []) [] rfl) hK hl.1 (Nat.le_of_ble_eq_true rfl) ⟨Nat.zero_le _, Nat.zero_le _⟩ xj_S_goThrough_65 ?_
          refine xr_ifeq (tgt := 76) hx hb xj_S_goThrough_68 rfl (fun h68 => ?_) (fun h68 => ?_)
          · -- 76
            refine lv_iload hx hb xj_S_goThrough_76 (lv_at hl 1 rfl) ?_
            refine lv_istore (lv' := [(7, .int (nI ((i * 12) + v0))), (6, .int (nI ((v0 * 12) + j))), (5, .int (nI ((i * 12) + v0))), (0, .ref s0), (1, .int (nI v0)), (2, .int (nI dc)), (3, .int (nI i)), (4, .int (nI j))]) hx hb xj_S_goThrough_78 hl (by decide) rfl (fun ls hl => ?_)
            refine lv_iload_n hx hb xj_S_goThrough_80 rfl (lv_at hl 6 rfl) ?_
            refine lv_bipush (v := nI 12) hx hb xj_S_goThrough_81 (by decide) ?_
            refine xr_imul hx hb xj_S_goThrough_83 ?_
            refine lv_iload hx hb xj_S_goThrough_84 (lv_at hl 7 rfl) ?_
            refine xr_iadd hx hb xj_S_goThrough_86 ?_
            refine lv_istore (lv' := [(8, .int (nI ((i * 12) + j))), (7, .int (nI ((i * 12) + v0))), (6, .int (nI ((v0 * 12) + j))), (5, .int (nI ((i * 12) + v0))), (0, .ref s0), (1, .int (nI v0)), (2, .int (nI dc)), (3, .int (nI i)), (4, .int (nI j))]) hx hb xj_S_goThrough_87 hl (by decide) rfl (fun ls hl => ?_)
            refine lv_aload_n hx hb xj_S_goThrough_89 rfl (lv_at hl 4 rfl) ?_
            refine va_get (D := D) (ci := 4) (v := .ref s1) (C := xn_S) (T := xn_TS) (N := 4) hx hb hgs xw_uS hown hK.1 hP 0 rfl rfl 0 (by decide) (hgs _ xw_100) (fun _ h9 => h9) rfl xj_S_goThrough_90 ?_
            refine lv_iload hx hb xj_S_goThrough_93 (lv_at hl 1 rfl) ?_
            refine xr_iald hx hb hK.1 hP 1 0 rfl rfl (by omega) (by decide) xj_S_goThrough_95 ?_
            refine lv_i2l hx hb xj_S_goThrough_96 rfl ?_
            refine lv_aload_n hx hb xj_S_goThrough_97 rfl (lv_at hl 4 rfl) ?_
            refine va_get (D := D) (ci := 4) (v := .ref s2) (C := xn_S) (T := xn_TS) (N := 4) hx hb hgs xw_uS hown hK.1 hP 0 rfl rfl 1 (by decide) (hgs _ xw_101) (fun _ h9 => h9) rfl xj_S_goThrough_98 ?_
            refine lv_iload hx hb xj_S_goThrough_101 (lv_at hl 1 rfl) ?_
            refine xr_iald hx hb hK.1 hP 2 0 rfl rfl (by omega) (by decide) xj_S_goThrough_103 ?_
            refine lv_i2l hx hb xj_S_goThrough_104 rfl ?_
            refine lv_aload_n hx hb xj_S_goThrough_105 rfl (lv_at hl 4 rfl) ?_
            refine va_get (D := D) (ci := 4) (v := .ref s1) (C := xn_S) (T := xn_TS) (N := 4) hx hb hgs xw_uS hown hK.1 hP 0 rfl rfl 0 (by decide) (hgs _ xw_100) (fun _ h9 => h9) rfl xj_S_goThrough_106 ?_
            refine lv_iload hx hb xj_S_goThrough_109 (lv_at hl 0 rfl) ?_
            refine xr_iald hx hb hK.1 hP 1 0 rfl rfl (by omega) (by decide) xj_S_goThrough_111 ?_
            refine lv_i2l hx hb xj_S_goThrough_112 rfl ?_
            refine lv_aload_n hx hb xj_S_goThrough_113 rfl (lv_at hl 4 rfl) ?_
            refine va_get (D := D) (ci := 4) (v := .ref s2) (C := xn_S) (T := xn_TS) (N := 4) hx hb hgs xw_uS hown hK.1 hP 0 rfl rfl 1 (by decide) (hgs _ xw_101) (fun _ h9 => h9) rfl xj_S_goThrough_114 ?_
            refine lv_iload hx hb xj_S_goThrough_117 (lv_at hl 0 rfl) ?_
            refine xr_iald hx hb hK.1 hP 2 0 rfl rfl (by omega) (by decide) xj_S_goThrough_119 ?_
            refine lv_i2l hx hb xj_S_goThrough_120 rfl ?_
            refine xc_callS (av := [.long ((U3 ((i * 12) + v0)).toInt64), .long ((E3 ((i * 12) + v0)).toInt64), .long ((U3 ((i * 12) + j)).toInt64), .long ((E3 ((i * 12) + j)).toInt64)]) (rest := []) hAt hT (xt_S_isLess l D cI cZ cJ ((U3 ((i * 12) + v0)).toInt64) ((E3 ((i * 12) + v0)).toInt64) ((U3 ((i * 12) + j)).toInt64) ((E3 ((i * 12) + j)).toInt64)) xw_463 xw_6 xw_465 xw_464 (na := 4) rfl (by decide +kernel) ⟨Nat.le_of_ble_eq_true rfl, Nat.le_of_ble_eq_true rfl⟩ (hP.sub (ws' := []) [] rfl) hK hl.1 (Nat.le_of_ble_eq_true rfl) ⟨Nat.zero_le _, Nat.zero_le _⟩ xj_S_goThrough_121 ?_
            refine xr_ifeq (tgt := 155) hx hb xj_S_goThrough_124 rfl (fun h124 => ?_) (fun h124 => ?_)
            · -- 155
              refine lv_iinc (k := 8) (v := nI (j + 1)) (lv' := [(4, .int (nI (j + 1))), (8, .int (nI ((i * 12) + j))), (7, .int (nI ((i * 12) + v0))), (6, .int (nI ((v0 * 12) + j))), (5, .int (nI ((i * 12) + v0))), (0, .ref s0), (1, .int (nI v0)), (2, .int (nI dc)), (3, .int (nI i))]) hx hb xj_S_goThrough_155 hl rfl (xr_inc _) (by decide) rfl (fun ls hl => ?_)
              refine lv_goto (tgt := 10) hx hb xj_S_goThrough_158 rfl ?_
              exact ih10 (j + 1) U3 E3 ls _ _ (by omega) ((xk_gi_s (xk_g1_ff h68 h124)).symm.trans hq) (lv_sub hl [5, 6, 7, 8, 0] rfl) hP hD hS
            · -- 127
              refine lv_aload_n hx hb xj_S_goThrough_127 rfl (lv_at hl 4 rfl) ?_
              refine va_get (D := D) (ci := 4) (v := .ref s1) (C := xn_S) (T := xn_TS) (N := 4) hx hb hgs xw_uS hown hK.1 hP 0 rfl rfl 0 (by decide) (hgs _ xw_100) (fun _ h9 => h9) rfl xj_S_goThrough_128 ?_
              refine lv_iload hx hb xj_S_goThrough_131 (lv_at hl 0 rfl) ?_
              refine lv_aload_n hx hb xj_S_goThrough_133 rfl (lv_at hl 4 rfl) ?_
              refine va_get (D := D) (ci := 4) (v := .ref s1) (C := xn_S) (T := xn_TS) (N := 4) hx hb hgs xw_uS hown hK.1 hP 0 rfl rfl 0 (by decide) (hgs _ xw_100) (fun _ h9 => h9) rfl xj_S_goThrough_134 ?_
              refine lv_iload hx hb xj_S_goThrough_137 (lv_at hl 1 rfl) ?_
              refine xr_iald hx hb hK.1 hP 1 0 rfl rfl (by omega) (by decide) xj_S_goThrough_139 ?_
              refine xr_iast hx hb hK.1 hP hD hS 1 0 rfl rfl (by omega) (by decide) xj_S_goThrough_140 (fun H locs hP hD hS => ?_)
              have hP : va_P D xn_cl [(s0, .inr (4, [.ref s1, .ref s2, .int f0, .int e0])), (s1, .inl (cI, 144, .inl (upd U3 ((i * 12) + j) (U3 ((i * 12) + v0))))), (s2, .inl (cI, 144, .inl E3))] H := hP
              have hD : va_D A [(s0, .inr (4, [.ref s1, .ref s2, .int f0, .int e0])), (s1, .inl (cI, 144, .inl (upd U3 ((i * 12) + j) (U3 ((i * 12) + v0))))), (s2, .inl (cI, 144, .inl E3))] := hD
              refine lv_aload_n hx hb xj_S_goThrough_141 rfl (lv_at hl 4 rfl) ?_
              refine va_get (D := D) (ci := 4) (v := .ref s2) (C := xn_S) (T := xn_TS) (N := 4) hx hb hgs xw_uS hown hK.1 hP 0 rfl rfl 1 (by decide) (hgs _ xw_101) (fun _ h9 => h9) rfl xj_S_goThrough_142 ?_
              refine lv_iload hx hb xj_S_goThrough_145 (lv_at hl 0 rfl) ?_
              refine lv_aload_n hx hb xj_S_goThrough_147 rfl (lv_at hl 4 rfl) ?_
              refine va_get (D := D) (ci := 4) (v := .ref s2) (C := xn_S) (T := xn_TS) (N := 4) hx hb hgs xw_uS hown hK.1 hP 0 rfl rfl 1 (by decide) (hgs _ xw_101) (fun _ h9 => h9) rfl xj_S_goThrough_148 ?_
              refine lv_iload hx hb xj_S_goThrough_151 (lv_at hl 1 rfl) ?_
              refine xr_iald hx hb hK.1 hP 2 0 rfl rfl (by omega) (by decide) xj_S_goThrough_153 ?_
              refine xr_iast hx hb hK.1 hP hD hS 2 0 rfl rfl (by omega) (by decide) xj_S_goThrough_154 (fun H locs hP hD hS => ?_)
              have hP : va_P D xn_cl [(s0, .inr (4, [.ref s1, .ref s2, .int f0, .int e0])), (s1, .inl (cI, 144, .inl (upd U3 ((i * 12) + j) (U3 ((i * 12) + v0))))), (s2, .inl (cI, 144, .inl (upd E3 ((i * 12) + j) (E3 ((i * 12) + v0)))))] H := hP
              have hD : va_D A [(s0, .inr (4, [.ref s1, .ref s2, .int f0, .int e0])), (s1, .inl (cI, 144, .inl (upd U3 ((i * 12) + j) (U3 ((i * 12) + v0))))), (s2, .inl (cI, 144, .inl (upd E3 ((i * 12) + j) (E3 ((i * 12) + v0)))))] := hD
              refine lv_iinc (k := 8) (v := nI (j + 1)) (lv' := [(4, .int (nI (j + 1))), (8, .int (nI ((i * 12) + j))), (7, .int (nI ((i * 12) + v0))), (6, .int (nI ((v0 * 12) + j))), (5, .int (nI ((i * 12) + v0))), (0, .ref s0), (1, .int (nI v0)), (2, .int (nI dc)), (3, .int (nI i))]) hx hb xj_S_goThrough_155 hl rfl (xr_inc _) (by decide) rfl (fun ls hl => ?_)
              refine lv_goto (tgt := 10) hx hb xj_S_goThrough_158 rfl ?_
              exact ih10 (j + 1) (upd U3 ((i * 12) + j) (U3 ((i * 12) + v0))) (upd E3 ((i * 12) + j) (E3 ((i * 12) + v0))) ls _ _ (by omega) ((xk_gi_s (xk_g1_ft h68 h124)).symm.trans hq) (lv_sub hl [5, 6, 7, 8, 0] rfl) hP hD hS
          · -- 71
            refine lv_iload hx hb xj_S_goThrough_71 (lv_at hl 0 rfl) ?_
            refine lv_goto (tgt := 78) hx hb xj_S_goThrough_73 rfl ?_
            refine lv_istore (lv' := [(7, .int (nI ((v0 * 12) + j))), (6, .int (nI ((v0 * 12) + j))), (5, .int (nI ((i * 12) + v0))), (0, .ref s0), (1, .int (nI v0)), (2, .int (nI dc)), (3, .int (nI i)), (4, .int (nI j))]) hx hb xj_S_goThrough_78 hl (by decide) rfl (fun ls hl => ?_)
            refine lv_iload_n hx hb xj_S_goThrough_80 rfl (lv_at hl 6 rfl) ?_
            refine lv_bipush (v := nI 12) hx hb xj_S_goThrough_81 (by decide) ?_
            refine xr_imul hx hb xj_S_goThrough_83 ?_
            refine lv_iload hx hb xj_S_goThrough_84 (lv_at hl 7 rfl) ?_
            refine xr_iadd hx hb xj_S_goThrough_86 ?_
            refine lv_istore (lv' := [(8, .int (nI ((i * 12) + j))), (7, .int (nI ((v0 * 12) + j))), (6, .int (nI ((v0 * 12) + j))), (5, .int (nI ((i * 12) + v0))), (0, .ref s0), (1, .int (nI v0)), (2, .int (nI dc)), (3, .int (nI i)), (4, .int (nI j))]) hx hb xj_S_goThrough_87 hl (by decide) rfl (fun ls hl => ?_)
            refine lv_aload_n hx hb xj_S_goThrough_89 rfl (lv_at hl 4 rfl) ?_
            refine va_get (D := D) (ci := 4) (v := .ref s1) (C := xn_S) (T := xn_TS) (N := 4) hx hb hgs xw_uS hown hK.1 hP 0 rfl rfl 0 (by decide) (hgs _ xw_100) (fun _ h9 => h9) rfl xj_S_goThrough_90 ?_
            refine lv_iload hx hb xj_S_goThrough_93 (lv_at hl 1 rfl) ?_
            refine xr_iald hx hb hK.1 hP 1 0 rfl rfl (by omega) (by decide) xj_S_goThrough_95 ?_
            refine lv_i2l hx hb xj_S_goThrough_96 rfl ?_
            refine lv_aload_n hx hb xj_S_goThrough_97 rfl (lv_at hl 4 rfl) ?_
            refine va_get (D := D) (ci := 4) (v := .ref s2) (C := xn_S) (T := xn_TS) (N := 4) hx hb hgs xw_uS hown hK.1 hP 0 rfl rfl 1 (by decide) (hgs _ xw_101) (fun _ h9 => h9) rfl xj_S_goThrough_98 ?_
            refine lv_iload hx hb xj_S_goThrough_101 (lv_at hl 1 rfl) ?_
            refine xr_iald hx hb hK.1 hP 2 0 rfl rfl (by omega) (by decide) xj_S_goThrough_103 ?_
            refine lv_i2l hx hb xj_S_goThrough_104 rfl ?_
            refine lv_aload_n hx hb xj_S_goThrough_105 rfl (lv_at hl 4 rfl) ?_
            refine va_get (D := D) (ci := 4) (v := .ref s1) (C := xn_S) (T := xn_TS) (N := 4) hx hb hgs xw_uS hown hK.1 hP 0 rfl rfl 0 (by decide) (hgs _ xw_100) (fun _ h9 => h9) rfl xj_S_goThrough_106 ?_
            refine lv_iload hx hb xj_S_goThrough_109 (lv_at hl 0 rfl) ?_
            refine xr_iald hx hb hK.1 hP 1 0 rfl rfl (by omega) (by decide) xj_S_goThrough_111 ?_
            refine lv_i2l hx hb xj_S_goThrough_112 rfl ?_
            refine lv_aload_n hx hb xj_S_goThrough_113 rfl (lv_at hl 4 rfl) ?_
            refine va_get (D := D) (ci := 4) (v := .ref s2) (C := xn_S) (T := xn_TS) (N := 4) hx hb hgs xw_uS hown hK.1 hP 0 rfl rfl 1 (by decide) (hgs _ xw_101) (fun _ h9 => h9) rfl xj_S_goThrough_114 ?_
            refine lv_iload hx hb xj_S_goThrough_117 (lv_at hl 0 rfl) ?_
            refine xr_iald hx hb hK.1 hP 2 0 rfl rfl (by omega) (by decide) xj_S_goThrough_119 ?_
            refine lv_i2l hx hb xj_S_goThrough_120 rfl ?_
            refine xc_callS (av := [.long ((U3 ((v0 * 12) + j)).toInt64), .long ((E3 ((v0 * 12) + j)).toInt64), .long ((U3 ((i * 12) + j)).toInt64), .long ((E3 ((i * 12) + j)).toInt64)]) (rest := []) hAt hT (xt_S_isLess l D cI cZ cJ ((U3 ((v0 * 12) + j)).toInt64) ((E3 ((v0 * 12) + j)).toInt64) ((U3 ((i * 12) + j)).toInt64) ((E3 ((i * 12) + j)).toInt64)) xw_463 xw_6 xw_465 xw_464 (na := 4) rfl (by decide +kernel) ⟨Nat.le_of_ble_eq_true rfl, Nat.le_of_ble_eq_true rfl⟩ (hP.sub (ws' := []) [] rfl) hK hl.1 (Nat.le_of_ble_eq_true rfl) ⟨Nat.zero_le _, Nat.zero_le _⟩ xj_S_goThrough_121 ?_
            refine xr_ifeq (tgt := 155) hx hb xj_S_goThrough_124 rfl (fun h124 => ?_) (fun h124 => ?_)
            · -- 155
              refine lv_iinc (k := 8) (v := nI (j + 1)) (lv' := [(4, .int (nI (j + 1))), (8, .int (nI ((i * 12) + j))), (7, .int (nI ((v0 * 12) + j))), (6, .int (nI ((v0 * 12) + j))), (5, .int (nI ((i * 12) + v0))), (0, .ref s0), (1, .int (nI v0)), (2, .int (nI dc)), (3, .int (nI i))]) hx hb xj_S_goThrough_155 hl rfl (xr_inc _) (by decide) rfl (fun ls hl => ?_)
              refine lv_goto (tgt := 10) hx hb xj_S_goThrough_158 rfl ?_
              exact ih10 (j + 1) U3 E3 ls _ _ (by omega) ((xk_gi_s (xk_g1_tf h68 h124)).symm.trans hq) (lv_sub hl [5, 6, 7, 8, 0] rfl) hP hD hS
            · -- 127
              refine lv_aload_n hx hb xj_S_goThrough_127 rfl (lv_at hl 4 rfl) ?_
              refine va_get (D := D) (ci := 4) (v := .ref s1) (C := xn_S) (T := xn_TS) (N := 4) hx hb hgs xw_uS hown hK.1 hP 0 rfl rfl 0 (by decide) (hgs _ xw_100) (fun _ h9 => h9) rfl xj_S_goThrough_128 ?_
              refine lv_iload hx hb xj_S_goThrough_131 (lv_at hl 0 rfl) ?_
              refine lv_aload_n hx hb xj_S_goThrough_133 rfl (lv_at hl 4 rfl) ?_
              refine va_get (D := D) (ci := 4) (v := .ref s1) (C := xn_S) (T := xn_TS) (N := 4) hx hb hgs xw_uS hown hK.1 hP 0 rfl rfl 0 (by decide) (hgs _ xw_100) (fun _ h9 => h9) rfl xj_S_goThrough_134 ?_
              refine lv_iload hx hb xj_S_goThrough_137 (lv_at hl 1 rfl) ?_
              refine xr_iald hx hb hK.1 hP 1 0 rfl rfl (by omega) (by decide) xj_S_goThrough_139 ?_
              refine xr_iast hx hb hK.1 hP hD hS 1 0 rfl rfl (by omega) (by decide) xj_S_goThrough_140 (fun H locs hP hD hS => ?_)
              have hP : va_P D xn_cl [(s0, .inr (4, [.ref s1, .ref s2, .int f0, .int e0])), (s1, .inl (cI, 144, .inl (upd U3 ((i * 12) + j) (U3 ((v0 * 12) + j))))), (s2, .inl (cI, 144, .inl E3))] H := hP
              have hD : va_D A [(s0, .inr (4, [.ref s1, .ref s2, .int f0, .int e0])), (s1, .inl (cI, 144, .inl (upd U3 ((i * 12) + j) (U3 ((v0 * 12) + j))))), (s2, .inl (cI, 144, .inl E3))] := hD
              refine lv_aload_n hx hb xj_S_goThrough_141 rfl (lv_at hl 4 rfl) ?_
              refine va_get (D := D) (ci := 4) (v := .ref s2) (C := xn_S) (T := xn_TS) (N := 4) hx hb hgs xw_uS hown hK.1 hP 0 rfl rfl 1 (by decide) (hgs _ xw_101) (fun _ h9 => h9) rfl xj_S_goThrough_142 ?_
              refine lv_iload hx hb xj_S_goThrough_145 (lv_at hl 0 rfl) ?_
              refine lv_aload_n hx hb xj_S_goThrough_147 rfl (lv_at hl 4 rfl) ?_
              refine va_get (D := D) (ci := 4) (v := .ref s2) (C := xn_S) (T := xn_TS) (N := 4) hx hb hgs xw_uS hown hK.1 hP 0 rfl rfl 1 (by decide) (hgs _ xw_101) (fun _ h9 => h9) rfl xj_S_goThrough_148 ?_
              refine lv_iload hx hb xj_S_goThrough_151 (lv_at hl 1 rfl) ?_
              refine xr_iald hx hb hK.1 hP 2 0 rfl rfl (by omega) (by decide) xj_S_goThrough_153 ?_
              refine xr_iast hx hb hK.1 hP hD hS 2 0 rfl rfl (by omega) (by decide) xj_S_goThrough_154 (fun H locs hP hD hS => ?_)
              have hP : va_P D xn_cl [(s0, .inr (4, [.ref s1, .ref s2, .int f0, .int e0])), (s1, .inl (cI, 144, .inl (upd U3 ((i * 12) + j) (U3 ((v0 * 12) + j))))), (s2, .inl (cI, 144, .inl (upd E3 ((i * 12) + j) (E3 ((v0 * 12) + j)))))] H := hP
              have hD : va_D A [(s0, .inr (4, [.ref s1, .ref s2, .int f0, .int e0])), (s1, .inl (cI, 144, .inl (upd U3 ((i * 12) + j) (U3 ((v0 * 12) + j))))), (s2, .inl (cI, 144, .inl (upd E3 ((i * 12) + j) (E3 ((v0 * 12) + j)))))] := hD
              refine lv_iinc (k := 8) (v := nI (j + 1)) (lv' := [(4, .int (nI (j + 1))), (8, .int (nI ((i * 12) + j))), (7, .int (nI ((v0 * 12) + j))), (6, .int (nI ((v0 * 12) + j))), (5, .int (nI ((i * 12) + v0))), (0, .ref s0), (1, .int (nI v0)), (2, .int (nI dc)), (3, .int (nI i))]) hx hb xj_S_goThrough_155 hl rfl (xr_inc _) (by decide) rfl (fun ls hl => ?_)
              refine lv_goto (tgt := 10) hx hb xj_S_goThrough_158 rfl ?_
              exact ih10 (j + 1) (upd U3 ((i * 12) + j) (U3 ((v0 * 12) + j))) (upd E3 ((i * 12) + j) (E3 ((v0 * 12) + j))) ls _ _ (by omega) ((xk_gi_s (xk_g1_tt h68 h124)).symm.trans hq) (lv_sub hl [5, 6, 7, 8, 0] rfl) hP hD hS
      exact loop10 dc 0 U2 E2 ls _ _ (by omega) rfl (lv_sub hl [1, 2, 3, 4, 0] rfl) hP hD hS
  exact loop2 dc 0 U E ls _ _ (by omega) rfl (lv_sub hl [1, 2, 3, 0] rfl) hP hD hS
set_option maxRecDepth 100000 in
set_option maxHeartbeats 4000000 in
theorem xt_S_reduce (l : Launch) (D : va_G) (cI cZ cJ : ClassId) (s0 s1 s2 : Nat) (U E : Nat → Int32) (f0 e0 : Int32) : xc_Wv l xy_S_reduce xb_S_reduce 5 0 0 0 [.ref s0] D cI cZ cJ [(s0, .inr (4, [.ref s1, .ref s2, .int f0, .int e0])), (s1, .inl (cI, 144, .inl U)), (s2, .inl (cI, 144, .inl E))] (Unit) (fun _ => True) (fun _ => [(s0, .inr (4, [.ref s1, .ref s2, .int ((xk_red (f0, e0)).1), .int ((xk_red (f0, e0)).2)])), (s1, .inl (cI, 144, .inl U)), (s2, .inl (cI, 144, .inl E))]) := by
  refine xc_Wv_of (by decide) (Nat.le_of_ble_eq_true rfl) ?_
  intro p e s m args below meth c Q ls A hAt hin hP hK hD hA hS hl hret
  obtain ⟨hx, hb, hml, hown, hts, hgs, hlk⟩ := id hAt
  have hT : ∀ w ∈ xw_g, w ∈ xc_ws xy_S_reduce xb_S_reduce 5 (none) := fun w h => List.mem_cons_of_mem _ h
  have hown : s.vm.findClass "WishLedger$ShrinkageFinder" = some m.cls := hown
  obtain ⟨H, hH0⟩ : ∃ H, H = s.heap := ⟨_, rfl⟩
  obtain ⟨locs, hL0⟩ : ∃ locs : List Loc, locs = [] := ⟨_, rfl⟩
  have hP : va_P D xn_cl [(s0, .inr (4, [.ref s1, .ref s2, .int f0, .int e0])), (s1, .inl (cI, 144, .inl U)), (s2, .inl (cI, 144, .inl E))] H := by rw [hH0]; exact hP
  have hS : va_S A s.heap H locs := by rw [hH0, hL0]; exact hS
  suffices hgo : W p l e (xc_rm 0 0 0) s m args below meth c H locs 0 0 Q (F0 m 0 ls []) by rw [hH0, hL0] at hgo; exact hgo
  clear hH0 hL0
  have hl : lv_has ls 5 [(0, .ref s0)] := hl
  refine lv_aload_n hx hb xj_S_reduce_0 rfl (lv_at hl 0 rfl) ?_
  refine va_get (D := D) (ci := 4) (v := .int f0) (C := xn_S) (T := xn_TS) (N := 4) hx hb hgs xw_uS hown hK.1 hP 0 rfl rfl 2 (by decide) (hgs _ xw_102) (fun _ h9 => h9) rfl xj_S_reduce_1 ?_
  refine lv_istore_n (lv' := [(1, .int f0), (0, .ref s0)]) hx hb xj_S_reduce_4 rfl hl (by decide) rfl (fun ls hl => ?_)
  refine lv_aload_n hx hb xj_S_reduce_5 rfl (lv_at hl 1 rfl) ?_
  refine va_get (D := D) (ci := 4) (v := .int e0) (C := xn_S) (T := xn_TS) (N := 4) hx hb hgs xw_uS hown hK.1 hP 0 rfl rfl 3 (by decide) (hgs _ xw_104) (fun _ h9 => h9) rfl xj_S_reduce_6 ?_
  refine lv_istore_n (lv' := [(2, .int e0), (1, .int f0), (0, .ref s0)]) hx hb xj_S_reduce_9 rfl hl (by decide) rfl (fun ls hl => ?_)
  refine lv_iconst (v := nI 0) hx hb xj_S_reduce_10 (by decide) ?_
  refine lv_istore_n (lv' := [(3, .int (nI 0)), (2, .int e0), (1, .int f0), (0, .ref s0)]) hx hb xj_S_reduce_11 rfl hl (by decide) rfl (fun ls hl => ?_)
  have loop12 : ∀ (n : Nat) (i : Nat) (a : Int32) (b : Int32) (ls : Array Slot) (H : Heap) (locs : List Loc), i + n = 64 → (xk_eu n a b = xk_eu 64 f0 e0) → lv_has ls 5 [(0, .ref s0), (1, .int a), (2, .int b), (3, .int (nI i))] → va_P D xn_cl [(s0, .inr (4, [.ref s1, .ref s2, .int f0, .int e0])), (s1, .inl (cI, 144, .inl U)), (s2, .inl (cI, 144, .inl E))] H → va_D A [(s0, .inr (4, [.ref s1, .ref s2, .int f0, .int e0])), (s1, .inl (cI, 144, .inl U)), (s2, .inl (cI, 144, .inl E))] → va_S A s.heap H locs → W p l e (xc_rm 0 0 0) s m args below meth c H locs 0 0 Q (F0 m 12 ls []) := by
    intro n
    induction n with
    | zero =>
      intro i a b ls H locs hi12 hr hl hP hD hS
      refine lv_iload_n hx hb xj_S_reduce_12 rfl (lv_at hl 3 rfl) ?_
      refine lv_bipush (v := nI 64) hx hb xj_S_reduce_13 (by decide) ?_
      refine xr_ge (tgt := 38) hx hb (by omega) (by omega) xj_S_reduce_15 rfl (fun h15 => ?_) (fun h15 => absurd h15 (by omega))
      refine lv_iload_n hx hb xj_S_reduce_38 rfl (lv_at hl 1 rfl) ?_
      refine lv_iconst (v := nI 1) hx hb xj_S_reduce_39 (by decide) ?_
      refine lv_icmp_le (tgt := 63) hx hb xj_S_reduce_40 rfl (fun h40 => ?_) (fun h40 => ?_)
      · -- 63
        obtain rfl : a = xk_eu 64 f0 e0 := hr
        have e9 : xk_red (f0, e0) = (f0, e0) := if_pos h40
        have hP : va_P D xn_cl [(s0, .inr (4, [.ref s1, .ref s2, .int ((xk_red (f0, e0)).1), .int ((xk_red (f0, e0)).2)])), (s1, .inl (cI, 144, .inl U)), (s2, .inl (cI, 144, .inl E))] H := by rw [e9]; exact hP
        have hD : va_D A [(s0, .inr (4, [.ref s1, .ref s2, .int ((xk_red (f0, e0)).1), .int ((xk_red (f0, e0)).2)])), (s1, .inl (cI, 144, .inl U)), (s2, .inl (cI, 144, .inl E))] := by rw [e9]; exact hD
        exact hret (()) H locs _ ls trivial hP hD hS xj_S_reduce_63
      · -- 43
        refine lv_aload_n hx hb xj_S_reduce_43 rfl (lv_at hl 0 rfl) ?_
        refine lv_dup hx hb xj_S_reduce_44 rfl ?_
        refine va_get (D := D) (ci := 4) (v := .int f0) (C := xn_S) (T := xn_TS) (N := 4) hx hb hgs xw_uS hown hK.1 hP 0 rfl rfl 2 (by decide) (hgs _ xw_102) (fun _ h9 => h9) rfl xj_S_reduce_45 ?_
        refine lv_iload_n hx hb xj_S_reduce_48 rfl (lv_at hl 1 rfl) ?_
        refine lv_idiv hx hb xj_S_reduce_49 (xk_nz h40) ?_
        refine va_put (D := D) (ci := 4) (v := .int (f0 / a)) (ty := .int) (C := xn_S) (T := xn_TS) (N := 4) hx hb hgs xw_uS xn_tS xn_oS xn_nS hown hK.1 hP hD hS 0 rfl rfl 2 (by decide) (hgs _ xw_102) (fun _ h9 => h9) rfl (by decide +kernel) rfl rfl (Nat.le_of_ble_eq_true rfl) xj_S_reduce_50 (fun H locs hP hD hS => ?_)
        have hP : va_P D xn_cl [(s0, .inr (4, [.ref s1, .ref s2, .int (f0 / a), .int e0])), (s1, .inl (cI, 144, .inl U)), (s2, .inl (cI, 144, .inl E))] H := hP
        have hD : va_D A [(s0, .inr (4, [.ref s1, .ref s2, .int (f0 / a), .int e0])), (s1, .inl (cI, 144, .inl U)), (s2, .inl (cI, 144, .inl E))] := hD
        refine lv_aload_n hx hb xj_S_reduce_53 rfl (lv_at hl 0 rfl) ?_
        refine lv_dup hx hb xj_S_reduce_54 rfl ?_
        refine va_get (D := D) (ci := 4) (v := .int e0) (C := xn_S) (T := xn_TS) (N := 4) hx hb hgs xw_uS hown hK.1 hP 0 rfl rfl 3 (by decide) (hgs _ xw_104) (fun _ h9 => h9) rfl xj_S_reduce_55 ?_
        refine lv_iload_n hx hb xj_S_reduce_58 rfl (lv_at hl 1 rfl) ?_
        refine lv_idiv hx hb xj_S_reduce_59 (xk_nz h40) ?_
        refine va_put (D := D) (ci := 4) (v := .int (e0 / a)) (ty := .int) (C := xn_S) (T := xn_TS) (N := 4) hx hb hgs xw_uS xn_tS xn_oS xn_nS hown hK.1 hP hD hS 0 rfl rfl 3 (by decide) (hgs _ xw_104) (fun _ h9 => h9) rfl (by decide +kernel) rfl rfl (Nat.le_of_ble_eq_true rfl) xj_S_reduce_60 (fun H locs hP hD hS => ?_)
        have hP : va_P D xn_cl [(s0, .inr (4, [.ref s1, .ref s2, .int (f0 / a), .int (e0 / a)])), (s1, .inl (cI, 144, .inl U)), (s2, .inl (cI, 144, .inl E))] H := hP
        have hD : va_D A [(s0, .inr (4, [.ref s1, .ref s2, .int (f0 / a), .int (e0 / a)])), (s1, .inl (cI, 144, .inl U)), (s2, .inl (cI, 144, .inl E))] := hD
        obtain rfl : a = xk_eu 64 f0 e0 := hr
        have e9 : xk_red (f0, e0) = (f0 / xk_eu 64 f0 e0, e0 / xk_eu 64 f0 e0) := if_neg h40
        have hP : va_P D xn_cl [(s0, .inr (4, [.ref s1, .ref s2, .int ((xk_red (f0, e0)).1), .int ((xk_red (f0, e0)).2)])), (s1, .inl (cI, 144, .inl U)), (s2, .inl (cI, 144, .inl E))] H := by rw [e9]; exact hP
        have hD : va_D A [(s0, .inr (4, [.ref s1, .ref s2, .int ((xk_red (f0, e0)).1), .int ((xk_red (f0, e0)).2)])), (s1, .inl (cI, 144, .inl U)), (s2, .inl (cI, 144, .inl E))] := by rw [e9]; exact hD
        exact hret (()) H locs _ ls trivial hP hD hS xj_S_reduce_63
    | succ n ih12 =>
      intro i a b ls H locs hi12 hr hl hP hD hS
      refine lv_iload_n hx hb xj_S_reduce_12 rfl (lv_at hl 3 rfl) ?_
      refine lv_bipush (v := nI 64) hx hb xj_S_reduce_13 (by decide) ?_
      refine xr_ge (tgt := 38) hx hb (by omega) (by omega) xj_S_reduce_15 rfl (fun h15 => absurd h15 (by omega)) (fun h15 => ?_)
      refine lv_iload_n hx hb xj_S_reduce_18 rfl (lv_at hl 2 rfl) ?_
      refine lv_if_eq (tgt := 38) hx hb xj_S_reduce_19 rfl (fun h19 => ?_) (fun h19 => ?_)
      · -- 38
        refine lv_iload_n hx hb xj_S_reduce_38 rfl (lv_at hl 1 rfl) ?_
        refine lv_iconst (v := nI 1) hx hb xj_S_reduce_39 (by decide) ?_
        refine lv_icmp_le (tgt := 63) hx hb xj_S_reduce_40 rfl (fun h40 => ?_) (fun h40 => ?_)
        · -- 63
          obtain rfl : a = xk_eu 64 f0 e0 := ((if_pos h19).symm.trans hr)
          have e9 : xk_red (f0, e0) = (f0, e0) := if_pos h40
          have hP : va_P D xn_cl [(s0, .inr (4, [.ref s1, .ref s2, .int ((xk_red (f0, e0)).1), .int ((xk_red (f0, e0)).2)])), (s1, .inl (cI, 144, .inl U)), (s2, .inl (cI, 144, .inl E))] H := by rw [e9]; exact hP
          have hD : va_D A [(s0, .inr (4, [.ref s1, .ref s2, .int ((xk_red (f0, e0)).1), .int ((xk_red (f0, e0)).2)])), (s1, .inl (cI, 144, .inl U)), (s2, .inl (cI, 144, .inl E))] := by rw [e9]; exact hD
          exact hret (()) H locs _ ls trivial hP hD hS xj_S_reduce_63
        · -- 43
          refine lv_aload_n hx hb xj_S_reduce_43 rfl (lv_at hl 0 rfl) ?_
          refine lv_dup hx hb xj_S_reduce_44 rfl ?_
          refine va_get (D := D) (ci := 4) (v := .int f0) (C := xn_S) (T := xn_TS) (N := 4) hx hb hgs xw_uS hown hK.1 hP 0 rfl rfl 2 (by decide) (hgs _ xw_102) (fun _ h9 => h9) rfl xj_S_reduce_45 ?_
          refine lv_iload_n hx hb xj_S_reduce_48 rfl (lv_at hl 1 rfl) ?_
          refine lv_idiv hx hb xj_S_reduce_49 (xk_nz h40) ?_
          refine va_put (D := D) (ci := 4) (v := .int (f0 / a)) (ty := .int) (C := xn_S) (T := xn_TS) (N := 4) hx hb hgs xw_uS xn_tS xn_oS xn_nS hown hK.1 hP hD hS 0 rfl rfl 2 (by decide) (hgs _ xw_102) (fun _ h9 => h9) rfl (by decide +kernel) rfl rfl (Nat.le_of_ble_eq_true rfl) xj_S_reduce_50 (fun H locs hP hD hS => ?_)
          have hP : va_P D xn_cl [(s0, .inr (4, [.ref s1, .ref s2, .int (f0 / a), .int e0])), (s1, .inl (cI, 144, .inl U)), (s2, .inl (cI, 144, .inl E))] H := hP
          have hD : va_D A [(s0, .inr (4, [.ref s1, .ref s2, .int (f0 / a), .int e0])), (s1, .inl (cI, 144, .inl U)), (s2, .inl (cI, 144, .inl E))] := hD
          refine lv_aload_n hx hb xj_S_reduce_53 rfl (lv_at hl 0 rfl) ?_
          refine lv_dup hx hb xj_S_reduce_54 rfl ?_
          refine va_get (D := D) (ci := 4) (v := .int e0) (C := xn_S) (T := xn_TS) (N := 4) hx hb hgs xw_uS hown hK.1 hP 0 rfl rfl 3 (by decide) (hgs _ xw_104) (fun _ h9 => h9) rfl xj_S_reduce_55 ?_
          refine lv_iload_n hx hb xj_S_reduce_58 rfl (lv_at hl 1 rfl) ?_
          refine lv_idiv hx hb xj_S_reduce_59 (xk_nz h40) ?_
          refine va_put (D := D) (ci := 4) (v := .int (e0 / a)) (ty := .int) (C := xn_S) (T := xn_TS) (N := 4) hx hb hgs xw_uS xn_tS xn_oS xn_nS hown hK.1 hP hD hS 0 rfl rfl 3 (by decide) (hgs _ xw_104) (fun _ h9 => h9) rfl (by decide +kernel) rfl rfl (Nat.le_of_ble_eq_true rfl) xj_S_reduce_60 (fun H locs hP hD hS => ?_)
          have hP : va_P D xn_cl [(s0, .inr (4, [.ref s1, .ref s2, .int (f0 / a), .int (e0 / a)])), (s1, .inl (cI, 144, .inl U)), (s2, .inl (cI, 144, .inl E))] H := hP
          have hD : va_D A [(s0, .inr (4, [.ref s1, .ref s2, .int (f0 / a), .int (e0 / a)])), (s1, .inl (cI, 144, .inl U)), (s2, .inl (cI, 144, .inl E))] := hD
          obtain rfl : a = xk_eu 64 f0 e0 := ((if_pos h19).symm.trans hr)
          have e9 : xk_red (f0, e0) = (f0 / xk_eu 64 f0 e0, e0 / xk_eu 64 f0 e0) := if_neg h40
          have hP : va_P D xn_cl [(s0, .inr (4, [.ref s1, .ref s2, .int ((xk_red (f0, e0)).1), .int ((xk_red (f0, e0)).2)])), (s1, .inl (cI, 144, .inl U)), (s2, .inl (cI, 144, .inl E))] H := by rw [e9]; exact hP
          have hD : va_D A [(s0, .inr (4, [.ref s1, .ref s2, .int ((xk_red (f0, e0)).1), .int ((xk_red (f0, e0)).2)])), (s1, .inl (cI, 144, .inl U)), (s2, .inl (cI, 144, .inl E))] := by rw [e9]; exact hD
          exact hret (()) H locs _ ls trivial hP hD hS xj_S_reduce_63
      · -- 22
        refine lv_iload_n hx hb xj_S_reduce_22 rfl (lv_at hl 1 rfl) ?_
        refine lv_iload_n hx hb xj_S_reduce_23 rfl (lv_at hl 2 rfl) ?_
        refine lv_irem hx hb xj_S_reduce_24 h19 ?_
        refine lv_istore (lv' := [(4, .int (a - a / b * b)), (0, .ref s0), (1, .int a), (2, .int b), (3, .int (nI i))]) hx hb xj_S_reduce_25 hl (by decide) rfl (fun ls hl => ?_)
        refine lv_iload_n hx hb xj_S_reduce_27 rfl (lv_at hl 3 rfl) ?_
        refine lv_istore_n (lv' := [(1, .int b), (4, .int (a - a / b * b)), (0, .ref s0), (2, .int b), (3, .int (nI i))]) hx hb xj_S_reduce_28 rfl hl (by decide) rfl (fun ls hl => ?_)
        refine lv_iload hx hb xj_S_reduce_29 (lv_at hl 1 rfl) ?_
        refine lv_istore_n (lv' := [(2, .int (a - a / b * b)), (1, .int b), (4, .int (a - a / b * b)), (0, .ref s0), (3, .int (nI i))]) hx hb xj_S_reduce_31 rfl hl (by decide) rfl (fun ls hl => ?_)
        refine lv_iinc (k := 4) (v := nI (i + 1)) (lv' := [(3, .int (nI (i + 1))), (2, .int (a - a / b * b)), (1, .int b), (4, .int (a - a / b * b)), (0, .ref s0)]) hx hb xj_S_reduce_32 hl rfl (xr_inc _) (by decide) rfl (fun ls hl => ?_)
        refine lv_goto (tgt := 12) hx hb xj_S_reduce_35 rfl ?_
        exact ih12 (i + 1) b (a - a / b * b) ls _ _ (by omega) ((if_neg h19).symm.trans hr) (lv_sub hl [4, 2, 1, 0] rfl) hP hD hS
  exact loop12 64 0 f0 e0 ls _ _ (by omega) rfl (lv_sub hl [3, 2, 1, 0] rfl) hP hD hS
set_option maxRecDepth 100000 in
set_option maxHeartbeats 4000000 in
theorem xt_S_find (l : Launch) (D : va_G) (cI cZ cJ : ClassId) (s0 s1 s2 : Nat) (U E : Nat → Int32) (f0 e0 : Int32) (b0 b1 b2 gc dc : Nat) (P A0 : Nat → Int32) (hg : gc ≤ 6) (hd : dc ≤ 12) : xc_Wv l xy_S_find xb_S_find 4 2 0 0 [.ref s0, .ref b0] D cI cZ cJ [(s0, .inr (4, [.ref s1, .ref s2, .int f0, .int e0])), (s1, .inl (cI, 144, .inl U)), (s2, .inl (cI, 144, .inl E)), (b0, .inr (0, [.ref b1, .ref b2, .int (nI gc), .int (nI dc)])), (b1, .inl (cI, 78, .inl P)), (b2, .inl (cI, 78, .inl A0))] (Unit) (fun _ => True) (fun _ => [(s0, .inr (4, [.ref s1, .ref s2, .int ((xk_red (xk_gf (xk_gv dc dc 0 (xk_rs (xk_su (xk_c gc P A0)) dc dc 0 U, xk_rs (xk_sd (xk_c gc P A0)) dc dc 0 E)).1 (xk_gv dc dc 0 (xk_rs (xk_su (xk_c gc P A0)) dc dc 0 U, xk_rs (xk_sd (xk_c gc P A0)) dc dc 0 E)).2 dc 0 (nI 1, nI 1))).1), .int ((xk_red (xk_gf (xk_gv dc dc 0 (xk_rs (xk_su (xk_c gc P A0)) dc dc 0 U, xk_rs (xk_sd (xk_c gc P A0)) dc dc 0 E)).1 (xk_gv dc dc 0 (xk_rs (xk_su (xk_c gc P A0)) dc dc 0 U, xk_rs (xk_sd (xk_c gc P A0)) dc dc 0 E)).2 dc 0 (nI 1, nI 1))).2)])), (s1, .inl (cI, 144, .inl ((xk_gv dc dc 0 (xk_rs (xk_su (xk_c gc P A0)) dc dc 0 U, xk_rs (xk_sd (xk_c gc P A0)) dc dc 0 E)).1))), (s2, .inl (cI, 144, .inl ((xk_gv dc dc 0 (xk_rs (xk_su (xk_c gc P A0)) dc dc 0 U, xk_rs (xk_sd (xk_c gc P A0)) dc dc 0 E)).2))), (b0, .inr (0, [.ref b1, .ref b2, .int (nI gc), .int (nI dc)])), (b1, .inl (cI, 78, .inl P)), (b2, .inl (cI, 78, .inl A0))]) := by
  refine xc_Wv_of (by decide) (Nat.le_of_ble_eq_true rfl) ?_
  intro p e s m args below meth c Q ls A hAt hin hP hK hD hA hS hl hret
  obtain ⟨hx, hb, hml, hown, hts, hgs, hlk⟩ := id hAt
  have hT : ∀ w ∈ xw_g, w ∈ xc_ws xy_S_find xb_S_find 4 (none) := fun w h => List.mem_cons_of_mem _ h
  have hown : s.vm.findClass "WishLedger$ShrinkageFinder" = some m.cls := hown
  obtain ⟨H, hH0⟩ : ∃ H, H = s.heap := ⟨_, rfl⟩
  obtain ⟨locs, hL0⟩ : ∃ locs : List Loc, locs = [] := ⟨_, rfl⟩
  have hP : va_P D xn_cl [(s0, .inr (4, [.ref s1, .ref s2, .int f0, .int e0])), (s1, .inl (cI, 144, .inl U)), (s2, .inl (cI, 144, .inl E)), (b0, .inr (0, [.ref b1, .ref b2, .int (nI gc), .int (nI dc)])), (b1, .inl (cI, 78, .inl P)), (b2, .inl (cI, 78, .inl A0))] H := by rw [hH0]; exact hP
  have hS : va_S A s.heap H locs := by rw [hH0, hL0]; exact hS
  suffices hgo : W p l e (xc_rm 2 0 0) s m args below meth c H locs 0 0 Q (F0 m 0 ls []) by rw [hH0, hL0] at hgo; exact hgo
  clear hH0 hL0
  have hl : lv_has ls 4 [(0, .ref s0), (1, .ref b0)] := hl
  refine lv_aload_n hx hb xj_S_find_0 rfl (lv_at hl 0 rfl) ?_
  refine lv_aload_n hx hb xj_S_find_1 rfl (lv_at hl 1 rfl) ?_
  refine xc_wVv (av := [.ref b0]) (rest := []) (wr := []) hAt hT (xt_S_readSteps l D cI cZ cJ s0 s1 s2 U E f0 e0 b0 b1 b2 gc dc P A0 (by omega) (by omega)) xw_454 xw_6 xw_457 xw_456 xs_S_readSteps (C0 := xn_S) (q0 := 0) rfl rfl (na := 1) rfl (by decide +kernel) ⟨Nat.le_of_ble_eq_true rfl, Nat.le_of_ble_eq_true rfl⟩ hP hD hS hA [0, 1, 2, 3, 4, 5] [] rfl rfl (by decide) (by decide) (by decide) hK hl.1 (Nat.le_of_ble_eq_true rfl) ⟨Nat.zero_le _, Nat.zero_le _⟩ xj_S_find_2 (fun _ H locs _ hP hD hS => ?_)
  have hP : va_P D xn_cl [(s0, .inr (4, [.ref s1, .ref s2, .int f0, .int e0])), (s1, .inl (cI, 144, .inl (xk_rs (xk_su (xk_c gc P A0)) dc dc 0 U))), (s2, .inl (cI, 144, .inl (xk_rs (xk_sd (xk_c gc P A0)) dc dc 0 E))), (b0, .inr (0, [.ref b1, .ref b2, .int (nI gc), .int (nI dc)])), (b1, .inl (cI, 78, .inl P)), (b2, .inl (cI, 78, .inl A0))] H := hP
  have hD : va_D A [(s0, .inr (4, [.ref s1, .ref s2, .int f0, .int e0])), (s1, .inl (cI, 144, .inl (xk_rs (xk_su (xk_c gc P A0)) dc dc 0 U))), (s2, .inl (cI, 144, .inl (xk_rs (xk_sd (xk_c gc P A0)) dc dc 0 E))), (b0, .inr (0, [.ref b1, .ref b2, .int (nI gc), .int (nI dc)])), (b1, .inl (cI, 78, .inl P)), (b2, .inl (cI, 78, .inl A0))] := hD
  refine lv_iconst (v := nI 0) hx hb xj_S_find_5 (by decide) ?_
  refine lv_istore_n (lv' := [(2, .int (nI 0)), (0, .ref s0), (1, .ref b0)]) hx hb xj_S_find_6 rfl hl (by decide) rfl (fun ls hl => ?_)
  have loop7 : ∀ (n : Nat) (i : Nat) (U2 : Nat → Int32) (E2 : Nat → Int32) (ls : Array Slot) (H : Heap) (locs : List Loc), i + n = dc → (xk_gv dc n i (U2, E2) = xk_gv dc dc 0 (xk_rs (xk_su (xk_c gc P A0)) dc dc 0 U, xk_rs (xk_sd (xk_c gc P A0)) dc dc 0 E)) → lv_has ls 4 [(0, .ref s0), (1, .ref b0), (2, .int (nI i))] → va_P D xn_cl [(s0, .inr (4, [.ref s1, .ref s2, .int f0, .int e0])), (s1, .inl (cI, 144, .inl U2)), (s2, .inl (cI, 144, .inl E2)), (b0, .inr (0, [.ref b1, .ref b2, .int (nI gc), .int (nI dc)])), (b1, .inl (cI, 78, .inl P)), (b2, .inl (cI, 78, .inl A0))] H → va_D A [(s0, .inr (4, [.ref s1, .ref s2, .int f0, .int e0])), (s1, .inl (cI, 144, .inl U2)), (s2, .inl (cI, 144, .inl E2)), (b0, .inr (0, [.ref b1, .ref b2, .int (nI gc), .int (nI dc)])), (b1, .inl (cI, 78, .inl P)), (b2, .inl (cI, 78, .inl A0))] → va_S A s.heap H locs → W p l e (xc_rm 2 0 0) s m args below meth c H locs 0 0 Q (F0 m 7 ls []) := by
    intro n
    induction n with
    | zero =>
      intro i U2 E2 ls H locs hi7 hr hl hP hD hS
      refine lv_iload_n hx hb xj_S_find_7 rfl (lv_at hl 2 rfl) ?_
      refine lv_aload_n hx hb xj_S_find_8 rfl (lv_at hl 1 rfl) ?_
      refine va_getN (D := D) (ci := 0) (v := .int (nI dc)) (C := xn_B) (T := xn_TB) (N := 4) hx hb hgs xw_uB hown hK.1 hP 3 rfl rfl 3 (by decide) (va_Nw.use rfl (hK.2 _ (List.mem_of_getElem? (i := 2) rfl))) (fun _ h9 => h9) rfl xj_S_find_9 ?_
      refine xr_ge (tgt := 30) hx hb (by omega) (by omega) xj_S_find_12 rfl (fun h12 => ?_) (fun h12 => absurd h12 (by omega))
      refine lv_aload_n hx hb xj_S_find_30 rfl (lv_at hl 0 rfl) ?_
      refine lv_iconst (v := nI 1) hx hb xj_S_find_31 (by decide) ?_
      refine va_put (D := D) (ci := 4) (v := .int (nI 1)) (ty := .int) (C := xn_S) (T := xn_TS) (N := 4) hx hb hgs xw_uS xn_tS xn_oS xn_nS hown hK.1 hP hD hS 0 rfl rfl 2 (by decide) (hgs _ xw_102) (fun _ h9 => h9) rfl (by decide +kernel) rfl rfl (Nat.le_of_ble_eq_true rfl) xj_S_find_32 (fun H locs hP hD hS => ?_)
      have hP : va_P D xn_cl [(s0, .inr (4, [.ref s1, .ref s2, .int (nI 1), .int e0])), (s1, .inl (cI, 144, .inl U2)), (s2, .inl (cI, 144, .inl E2)), (b0, .inr (0, [.ref b1, .ref b2, .int (nI gc), .int (nI dc)])), (b1, .inl (cI, 78, .inl P)), (b2, .inl (cI, 78, .inl A0))] H := hP
      have hD : va_D A [(s0, .inr (4, [.ref s1, .ref s2, .int (nI 1), .int e0])), (s1, .inl (cI, 144, .inl U2)), (s2, .inl (cI, 144, .inl E2)), (b0, .inr (0, [.ref b1, .ref b2, .int (nI gc), .int (nI dc)])), (b1, .inl (cI, 78, .inl P)), (b2, .inl (cI, 78, .inl A0))] := hD
      refine lv_aload_n hx hb xj_S_find_35 rfl (lv_at hl 0 rfl) ?_
      refine lv_iconst (v := nI 1) hx hb xj_S_find_36 (by decide) ?_
      refine va_put (D := D) (ci := 4) (v := .int (nI 1)) (ty := .int) (C := xn_S) (T := xn_TS) (N := 4) hx hb hgs xw_uS xn_tS xn_oS xn_nS hown hK.1 hP hD hS 0 rfl rfl 3 (by decide) (hgs _ xw_104) (fun _ h9 => h9) rfl (by decide +kernel) rfl rfl (Nat.le_of_ble_eq_true rfl) xj_S_find_37 (fun H locs hP hD hS => ?_)
      have hP : va_P D xn_cl [(s0, .inr (4, [.ref s1, .ref s2, .int (nI 1), .int (nI 1)])), (s1, .inl (cI, 144, .inl U2)), (s2, .inl (cI, 144, .inl E2)), (b0, .inr (0, [.ref b1, .ref b2, .int (nI gc), .int (nI dc)])), (b1, .inl (cI, 78, .inl P)), (b2, .inl (cI, 78, .inl A0))] H := hP
      have hD : va_D A [(s0, .inr (4, [.ref s1, .ref s2, .int (nI 1), .int (nI 1)])), (s1, .inl (cI, 144, .inl U2)), (s2, .inl (cI, 144, .inl E2)), (b0, .inr (0, [.ref b1, .ref b2, .int (nI gc), .int (nI dc)])), (b1, .inl (cI, 78, .inl P)), (b2, .inl (cI, 78, .inl A0))] := hD
      refine lv_iconst (v := nI 0) hx hb xj_S_find_40 (by decide) ?_
      refine lv_istore_n (lv' := [(2, .int (nI 0)), (0, .ref s0), (1, .ref b0)]) hx hb xj_S_find_41 rfl hl (by decide) rfl (fun ls hl => ?_)
      have loop42 : ∀ (k : Nat) (j : Nat) (fu : Int32) (fd : Int32) (ls : Array Slot) (H : Heap) (locs : List Loc), j + k = dc → (xk_gf U2 E2 k j (fu, fd) = xk_gf U2 E2 dc 0 (nI 1, nI 1)) → lv_has ls 4 [(0, .ref s0), (1, .ref b0), (2, .int (nI j))] → va_P D xn_cl [(s0, .inr (4, [.ref s1, .ref s2, .int fu, .int fd])), (s1, .inl (cI, 144, .inl U2)), (s2, .inl (cI, 144, .inl E2)), (b0, .inr (0, [.ref b1, .ref b2, .int (nI gc), .int (nI dc)])), (b1, .inl (cI, 78, .inl P)), (b2, .inl (cI, 78, .inl A0))] H → va_D A [(s0, .inr (4, [.ref s1, .ref s2, .int fu, .int fd])), (s1, .inl (cI, 144, .inl U2)), (s2, .inl (cI, 144, .inl E2)), (b0, .inr (0, [.ref b1, .ref b2, .int (nI gc), .int (nI dc)])), (b1, .inl (cI, 78, .inl P)), (b2, .inl (cI, 78, .inl A0))] → va_S A s.heap H locs → W p l e (xc_rm 2 0 0) s m args below meth c H locs 0 0 Q (F0 m 42 ls []) := by
        intro k
        induction k with
        | zero =>
          intro j fu fd ls H locs hi42 hq hl hP hD hS
          refine lv_iload_n hx hb xj_S_find_42 rfl (lv_at hl 2 rfl) ?_
          refine lv_aload_n hx hb xj_S_find_43 rfl (lv_at hl 1 rfl) ?_
          refine va_getN (D := D) (ci := 0) (v := .int (nI dc)) (C := xn_B) (T := xn_TB) (N := 4) hx hb hgs xw_uB hown hK.1 hP 3 rfl rfl 3 (by decide) (va_Nw.use rfl (hK.2 _ (List.mem_of_getElem? (i := 2) rfl))) (fun _ h9 => h9) rfl xj_S_find_44 ?_
          refine xr_ge (tgt := 113) hx hb (by omega) (by omega) xj_S_find_47 rfl (fun h47 => ?_) (fun h47 => absurd h47 (by omega))
          refine lv_aload_n hx hb xj_S_find_113 rfl (lv_at hl 0 rfl) ?_
          refine xc_wVv (av := []) (rest := []) (wr := [(b0, .inr (0, [.ref b1, .ref b2, .int (nI gc), .int (nI dc)])), (b1, .inl (cI, 78, .inl P)), (b2, .inl (cI, 78, .inl A0))]) hAt hT (xt_S_reduce l D cI cZ cJ s0 s1 s2 U2 E2 fu fd) xw_466 xw_6 xw_469 xw_468 xs_S_reduce (C0 := xn_S) (q0 := 0) rfl rfl (na := 0) rfl (by decide +kernel) ⟨Nat.le_of_ble_eq_true rfl, Nat.le_of_ble_eq_true rfl⟩ hP hD hS hA [0, 1, 2] [3, 4, 5] rfl rfl (by decide) (by decide) (by decide) hK hl.1 (Nat.le_of_ble_eq_true rfl) ⟨Nat.zero_le _, Nat.zero_le _⟩ xj_S_find_114 (fun _ H locs _ hP hD hS => ?_)
          have hP : va_P D xn_cl [(s0, .inr (4, [.ref s1, .ref s2, .int ((xk_red (fu, fd)).1), .int ((xk_red (fu, fd)).2)])), (s1, .inl (cI, 144, .inl U2)), (s2, .inl (cI, 144, .inl E2)), (b0, .inr (0, [.ref b1, .ref b2, .int (nI gc), .int (nI dc)])), (b1, .inl (cI, 78, .inl P)), (b2, .inl (cI, 78, .inl A0))] H := va_P.sub hP [3, 4, 5, 0, 1, 2] rfl
          have hD : va_D A [(s0, .inr (4, [.ref s1, .ref s2, .int ((xk_red (fu, fd)).1), .int ((xk_red (fu, fd)).2)])), (s1, .inl (cI, 144, .inl U2)), (s2, .inl (cI, 144, .inl E2)), (b0, .inr (0, [.ref b1, .ref b2, .int (nI gc), .int (nI dc)])), (b1, .inl (cI, 78, .inl P)), (b2, .inl (cI, 78, .inl A0))] := va_D.sub hD [3, 4, 5, 0, 1, 2] (by decide) rfl
          have e7 : (U2, E2) = xk_gv dc dc 0 (xk_rs (xk_su (xk_c gc P A0)) dc dc 0 U, xk_rs (xk_sd (xk_c gc P A0)) dc dc 0 E) := hr
          have e8 : U2 = (xk_gv dc dc 0 (xk_rs (xk_su (xk_c gc P A0)) dc dc 0 U, xk_rs (xk_sd (xk_c gc P A0)) dc dc 0 E)).1 := congrArg Prod.fst e7
          have e9 : E2 = (xk_gv dc dc 0 (xk_rs (xk_su (xk_c gc P A0)) dc dc 0 U, xk_rs (xk_sd (xk_c gc P A0)) dc dc 0 E)).2 := congrArg Prod.snd e7
          have e6 : (fu, fd) = xk_gf U2 E2 dc 0 (nI 1, nI 1) := hq
          rw [e6] at hP hD
          subst e8
          subst e9
          exact hret (()) H locs _ ls trivial hP hD hS xj_S_find_117
        | succ k ih42 =>
          intro j fu fd ls H locs hi42 hq hl hP hD hS
          refine lv_iload_n hx hb xj_S_find_42 rfl (lv_at hl 2 rfl) ?_
          refine lv_aload_n hx hb xj_S_find_43 rfl (lv_at hl 1 rfl) ?_
          refine va_getN (D := D) (ci := 0) (v := .int (nI dc)) (C := xn_B) (T := xn_TB) (N := 4) hx hb hgs xw_uB hown hK.1 hP 3 rfl rfl 3 (by decide) (va_Nw.use rfl (hK.2 _ (List.mem_of_getElem? (i := 2) rfl))) (fun _ h9 => h9) rfl xj_S_find_44 ?_
          refine xr_ge (tgt := 113) hx hb (by omega) (by omega) xj_S_find_47 rfl (fun h47 => absurd h47 (by omega)) (fun h47 => ?_)
          refine lv_iload_n hx hb xj_S_find_50 rfl (lv_at hl 2 rfl) ?_
          refine lv_bipush (v := nI 12) hx hb xj_S_find_51 (by decide) ?_
          refine xr_imul hx hb xj_S_find_53 ?_
          refine lv_iload_n hx hb xj_S_find_54 rfl (lv_at hl 2 rfl) ?_
          refine xr_iadd hx hb xj_S_find_55 ?_
          refine lv_istore_n (lv' := [(3, .int (nI ((j * 12) + j))), (0, .ref s0), (1, .ref b0), (2, .int (nI j))]) hx hb xj_S_find_56 rfl hl (by decide) rfl (fun ls hl => ?_)
          refine lv_aload_n hx hb xj_S_find_57 rfl (lv_at hl 1 rfl) ?_
          refine va_get (D := D) (ci := 4) (v := .ref s1) (C := xn_S) (T := xn_TS) (N := 4) hx hb hgs xw_uS hown hK.1 hP 0 rfl rfl 0 (by decide) (hgs _ xw_100) (fun _ h9 => h9) rfl xj_S_find_58 ?_
          refine lv_iload_n hx hb xj_S_find_61 rfl (lv_at hl 0 rfl) ?_
          refine xr_iald hx hb hK.1 hP 1 0 rfl rfl (by omega) (by decide) xj_S_find_62 ?_
          refine lv_i2l hx hb xj_S_find_63 rfl ?_
          refine lv_aload_n hx hb xj_S_find_64 rfl (lv_at hl 1 rfl) ?_
          refine va_get (D := D) (ci := 4) (v := .ref s2) (C := xn_S) (T := xn_TS) (N := 4) hx hb hgs xw_uS hown hK.1 hP 0 rfl rfl 1 (by decide) (hgs _ xw_101) (fun _ h9 => h9) rfl xj_S_find_65 ?_
          refine lv_iload_n hx hb xj_S_find_68 rfl (lv_at hl 0 rfl) ?_
          refine xr_iald hx hb hK.1 hP 2 0 rfl rfl (by omega) (by decide) xj_S_find_69 ?_
          refine lv_i2l hx hb xj_S_find_70 rfl ?_
          refine lv_aload_n hx hb xj_S_find_71 rfl (lv_at hl 1 rfl) ?_
          refine va_get (D := D) (ci := 4) (v := .int fu) (C := xn_S) (T := xn_TS) (N := 4) hx hb hgs xw_uS hown hK.1 hP 0 rfl rfl 2 (by decide) (hgs _ xw_102) (fun _ h9 => h9) rfl xj_S_find_72 ?_
          refine lv_i2l hx hb xj_S_find_75 rfl ?_
          refine lv_aload_n hx hb xj_S_find_76 rfl (lv_at hl 1 rfl) ?_
          refine va_get (D := D) (ci := 4) (v := .int fd) (C := xn_S) (T := xn_TS) (N := 4) hx hb hgs xw_uS hown hK.1 hP 0 rfl rfl 3 (by decide) (hgs _ xw_104) (fun _ h9 => h9) rfl xj_S_find_77 ?_
          refine lv_i2l hx hb xj_S_find_80 rfl ?_
          refine xc_callS (av := [.long ((U2 ((j * 12) + j)).toInt64), .long ((E2 ((j * 12) + j)).toInt64), .long fu.toInt64, .long fd.toInt64]) (rest := []) hAt hT (xt_S_isLess l D cI cZ cJ ((U2 ((j * 12) + j)).toInt64) ((E2 ((j * 12) + j)).toInt64) fu.toInt64 fd.toInt64) xw_463 xw_6 xw_465 xw_464 (na := 4) rfl (by decide +kernel) ⟨Nat.le_of_ble_eq_true rfl, Nat.le_of_ble_eq_true rfl⟩ (hP.sub (ws' := []) [] rfl) hK hl.1 (Nat.le_of_ble_eq_true rfl) ⟨Nat.zero_le _, Nat.zero_le _⟩ xj_S_find_81 ?_
          refine xr_ifeq (tgt := 107) hx hb xj_S_find_84 rfl (fun h84 => ?_) (fun h84 => ?_)
          · -- 107
            refine lv_iinc (k := 3) (v := nI (j + 1)) (lv' := [(2, .int (nI (j + 1))), (3, .int (nI ((j * 12) + j))), (0, .ref s0), (1, .ref b0)]) hx hb xj_S_find_107 hl rfl (xr_inc _) (by decide) rfl (fun ls hl => ?_)
            refine lv_goto (tgt := 42) hx hb xj_S_find_110 rfl ?_
            exact ih42 (j + 1) fu fd ls _ _ (by omega) ((xk_gf_f h84).symm.trans hq) (lv_sub hl [2, 3, 0] rfl) hP hD hS
          · -- 87
            refine lv_aload_n hx hb xj_S_find_87 rfl (lv_at hl 1 rfl) ?_
            refine lv_aload_n hx hb xj_S_find_88 rfl (lv_at hl 1 rfl) ?_
            refine va_get (D := D) (ci := 4) (v := .ref s1) (C := xn_S) (T := xn_TS) (N := 4) hx hb hgs xw_uS hown hK.1 hP 0 rfl rfl 0 (by decide) (hgs _ xw_100) (fun _ h9 => h9) rfl xj_S_find_89 ?_
            refine lv_iload_n hx hb xj_S_find_92 rfl (lv_at hl 0 rfl) ?_
            refine xr_iald hx hb hK.1 hP 1 0 rfl rfl (by omega) (by decide) xj_S_find_93 ?_
            refine va_put (D := D) (ci := 4) (v := .int (U2 ((j * 12) + j))) (ty := .int) (C := xn_S) (T := xn_TS) (N := 4) hx hb hgs xw_uS xn_tS xn_oS xn_nS hown hK.1 hP hD hS 0 rfl rfl 2 (by decide) (hgs _ xw_102) (fun _ h9 => h9) rfl (by decide +kernel) rfl rfl (Nat.le_of_ble_eq_true rfl) xj_S_find_94 (fun H locs hP hD hS => ?_)
            have hP : va_P D xn_cl [(s0, .inr (4, [.ref s1, .ref s2, .int (U2 ((j * 12) + j)), .int fd])), (s1, .inl (cI, 144, .inl U2)), (s2, .inl (cI, 144, .inl E2)), (b0, .inr (0, [.ref b1, .ref b2, .int (nI gc), .int (nI dc)])), (b1, .inl (cI, 78, .inl P)), (b2, .inl (cI, 78, .inl A0))] H := hP
            have hD : va_D A [(s0, .inr (4, [.ref s1, .ref s2, .int (U2 ((j * 12) + j)), .int fd])), (s1, .inl (cI, 144, .inl U2)), (s2, .inl (cI, 144, .inl E2)), (b0, .inr (0, [.ref b1, .ref b2, .int (nI gc), .int (nI dc)])), (b1, .inl (cI, 78, .inl P)), (b2, .inl (cI, 78, .inl A0))] := hD
            refine lv_aload_n hx hb xj_S_find_97 rfl (lv_at hl 1 rfl) ?_
            refine lv_aload_n hx hb xj_S_find_98 rfl (lv_at hl 1 rfl) ?_
            refine va_get (D := D) (ci := 4) (v := .ref s2) (C := xn_S) (T := xn_TS) (N := 4) hx hb hgs xw_uS hown hK.1 hP 0 rfl rfl 1 (by decide) (hgs _ xw_101) (fun _ h9 => h9) rfl xj_S_find_99 ?_
            refine lv_iload_n hx hb xj_S_find_102 rfl (lv_at hl 0 rfl) ?_
            refine xr_iald hx hb hK.1 hP 2 0 rfl rfl (by omega) (by decide) xj_S_find_103 ?_
            refine va_put (D := D) (ci := 4) (v := .int (E2 ((j * 12) + j))) (ty := .int) (C := xn_S) (T := xn_TS) (N := 4) hx hb hgs xw_uS xn_tS xn_oS xn_nS hown hK.1 hP hD hS 0 rfl rfl 3 (by decide) (hgs _ xw_104) (fun _ h9 => h9) rfl (by decide +kernel) rfl rfl (Nat.le_of_ble_eq_true rfl) xj_S_find_104 (fun H locs hP hD hS => ?_)
            have hP : va_P D xn_cl [(s0, .inr (4, [.ref s1, .ref s2, .int (U2 ((j * 12) + j)), .int (E2 ((j * 12) + j))])), (s1, .inl (cI, 144, .inl U2)), (s2, .inl (cI, 144, .inl E2)), (b0, .inr (0, [.ref b1, .ref b2, .int (nI gc), .int (nI dc)])), (b1, .inl (cI, 78, .inl P)), (b2, .inl (cI, 78, .inl A0))] H := hP
            have hD : va_D A [(s0, .inr (4, [.ref s1, .ref s2, .int (U2 ((j * 12) + j)), .int (E2 ((j * 12) + j))])), (s1, .inl (cI, 144, .inl U2)), (s2, .inl (cI, 144, .inl E2)), (b0, .inr (0, [.ref b1, .ref b2, .int (nI gc), .int (nI dc)])), (b1, .inl (cI, 78, .inl P)), (b2, .inl (cI, 78, .inl A0))] := hD
            refine lv_iinc (k := 3) (v := nI (j + 1)) (lv' := [(2, .int (nI (j + 1))), (3, .int (nI ((j * 12) + j))), (0, .ref s0), (1, .ref b0)]) hx hb xj_S_find_107 hl rfl (xr_inc _) (by decide) rfl (fun ls hl => ?_)
            refine lv_goto (tgt := 42) hx hb xj_S_find_110 rfl ?_
            exact ih42 (j + 1) (U2 ((j * 12) + j)) (E2 ((j * 12) + j)) ls _ _ (by omega) ((xk_gf_t h84).symm.trans hq) (lv_sub hl [2, 3, 0] rfl) hP hD hS
      exact loop42 dc 0 (nI 1) (nI 1) ls _ _ (by omega) rfl (lv_sub hl [1, 2, 0] rfl) hP hD hS
    | succ n ih7 =>
      intro i U2 E2 ls H locs hi7 hr hl hP hD hS
      refine lv_iload_n hx hb xj_S_find_7 rfl (lv_at hl 2 rfl) ?_
      refine lv_aload_n hx hb xj_S_find_8 rfl (lv_at hl 1 rfl) ?_
      refine va_getN (D := D) (ci := 0) (v := .int (nI dc)) (C := xn_B) (T := xn_TB) (N := 4) hx hb hgs xw_uB hown hK.1 hP 3 rfl rfl 3 (by decide) (va_Nw.use rfl (hK.2 _ (List.mem_of_getElem? (i := 2) rfl))) (fun _ h9 => h9) rfl xj_S_find_9 ?_
      refine xr_ge (tgt := 30) hx hb (by omega) (by omega) xj_S_find_12 rfl (fun h12 => absurd h12 (by omega)) (fun h12 => ?_)
      refine lv_aload_n hx hb xj_S_find_15 rfl (lv_at hl 0 rfl) ?_
      refine lv_iload_n hx hb xj_S_find_16 rfl (lv_at hl 2 rfl) ?_
      refine lv_aload_n hx hb xj_S_find_17 rfl (lv_at hl 1 rfl) ?_
      refine va_getN (D := D) (ci := 0) (v := .int (nI dc)) (C := xn_B) (T := xn_TB) (N := 4) hx hb hgs xw_uB hown hK.1 hP 3 rfl rfl 3 (by decide) (va_Nw.use rfl (hK.2 _ (List.mem_of_getElem? (i := 2) rfl))) (fun _ h9 => h9) rfl xj_S_find_18 ?_
      refine xc_wVv (av := [.int (nI i), .int (nI dc)]) (rest := []) (wr := [(b0, .inr (0, [.ref b1, .ref b2, .int (nI gc), .int (nI dc)])), (b1, .inl (cI, 78, .inl P)), (b2, .inl (cI, 78, .inl A0))]) hAt hT (xt_S_goThrough l D cI cZ cJ s0 s1 s2 U2 E2 f0 e0 i dc (by omega) (by omega)) xw_459 xw_6 xw_462 xw_461 xs_S_goThrough (C0 := xn_S) (q0 := 0) rfl rfl (na := 2) rfl (by decide +kernel) ⟨Nat.le_of_ble_eq_true rfl, Nat.le_of_ble_eq_true rfl⟩ hP hD hS hA [0, 1, 2] [3, 4, 5] rfl rfl (by decide) (by decide) (by decide) hK hl.1 (Nat.le_of_ble_eq_true rfl) ⟨Nat.zero_le _, Nat.zero_le _⟩ xj_S_find_21 (fun _ H locs _ hP hD hS => ?_)
      have hP : va_P D xn_cl [(s0, .inr (4, [.ref s1, .ref s2, .int f0, .int e0])), (s1, .inl (cI, 144, .inl ((xk_go i dc dc 0 (U2, E2)).1))), (s2, .inl (cI, 144, .inl ((xk_go i dc dc 0 (U2, E2)).2))), (b0, .inr (0, [.ref b1, .ref b2, .int (nI gc), .int (nI dc)])), (b1, .inl (cI, 78, .inl P)), (b2, .inl (cI, 78, .inl A0))] H := va_P.sub hP [3, 4, 5, 0, 1, 2] rfl
      have hD : va_D A [(s0, .inr (4, [.ref s1, .ref s2, .int f0, .int e0])), (s1, .inl (cI, 144, .inl ((xk_go i dc dc 0 (U2, E2)).1))), (s2, .inl (cI, 144, .inl ((xk_go i dc dc 0 (U2, E2)).2))), (b0, .inr (0, [.ref b1, .ref b2, .int (nI gc), .int (nI dc)])), (b1, .inl (cI, 78, .inl P)), (b2, .inl (cI, 78, .inl A0))] := va_D.sub hD [3, 4, 5, 0, 1, 2] (by decide) rfl
      refine lv_iinc (k := 2) (v := nI (i + 1)) (lv' := [(2, .int (nI (i + 1))), (0, .ref s0), (1, .ref b0)]) hx hb xj_S_find_24 hl rfl (xr_inc _) (by decide) rfl (fun ls hl => ?_)
      refine lv_goto (tgt := 7) hx hb xj_S_find_27 rfl ?_
      exact ih7 (i + 1) ((xk_go i dc dc 0 (U2, E2)).1) ((xk_go i dc dc 0 (U2, E2)).2) ls _ _ (by omega) hr (lv_sub hl [1, 2, 0] rfl) hP hD hS
  exact loop7 dc 0 (xk_rs (xk_su (xk_c gc P A0)) dc dc 0 U) (xk_rs (xk_sd (xk_c gc P A0)) dc dc 0 E) ls _ _ (by omega) rfl (lv_sub hl [1, 2, 0] rfl) hP hD hS
