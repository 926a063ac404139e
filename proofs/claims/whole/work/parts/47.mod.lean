/-! walks: the search for a circle -/
set_option maxRecDepth 100000 in
set_option maxHeartbeats 4000000 in
theorem xt_M_shortest (l : Launch) (D : va_G) (cI cZ cJ : ClassId) (m0 m1 m2 m3 m4 m5 m6 m7 m8 m9 m10 : Nat) (cd : Int32) (gc dc : Nat) (P : Nat → Int32) (A0 : Nat → Int32) (gd : Nat → Bool) (bd : Nat → Bool) (ch : Nat → Bool) (st : Nat → Int32) (lf : Nat → Bool) (hg : gc ≤ 6) (hd : dc ≤ 12) : xc_Wi l xy_M_shortest xb_M_shortest 5 .int 3 0 0 [.ref m0] D cI cZ cJ [(m0, .inr (6, [.int cd, .int (nI gc), .int (nI dc), .ref m1, .ref m2, .ref m3, .ref m4, .ref m5, .ref m6, .ref m7, .ref m8, .ref m9, .ref m10])), (m1, .inl (cI, 78, .inl P)), (m2, .inl (cI, 78, .inl A0)), (m5, .inl (cZ, 169, .inl (xf_z gd))), (m6, .inl (cZ, 169, .inl (xf_z bd))), (m7, .inl (cZ, 169, .inl (xf_z ch))), (m8, .inl (cI, 169, .inl st)), (m9, .inl (cZ, 13, .inl (xf_z lf)))] (Unit) (fun r _ => r = xm_s2 dc (xm_B (xk_c gc P A0) (lN 1) (lN 1) dc bd) (xm_K dc (xm_L dc lf) (xm_G (xk_c gc P A0) (lN 1) (lN 1) dc gd) ch st).1 (xm_K dc (xm_L dc lf) (xm_G (xk_c gc P A0) (lN 1) (lN 1) dc gd) ch st).2.1 dc 0 (nI 0)) (fun _ => [(m0, .inr (6, [.int cd, .int (nI gc), .int (nI dc), .ref m1, .ref m2, .ref m3, .ref m4, .ref m5, .ref m6, .ref m7, .ref m8, .ref m9, .ref m10])), (m1, .inl (cI, 78, .inl P)), (m2, .inl (cI, 78, .inl A0)), (m5, .inl (cZ, 169, .inl (xf_z (xm_G (xk_c gc P A0) (lN 1) (lN 1) dc gd)))), (m6, .inl (cZ, 169, .inl (xf_z (xm_B (xk_c gc P A0) (lN 1) (lN 1) dc bd)))), (m7, .inl (cZ, 169, .inl (xf_z ((xm_K dc (xm_L dc lf) (xm_G (xk_c gc P A0) (lN 1) (lN 1) dc gd) ch st).1)))), (m8, .inl (cI, 169, .inl ((xm_K dc (xm_L dc lf) (xm_G (xk_c gc P A0) (lN 1) (lN 1) dc gd) ch st).2.1))), (m9, .inl (cZ, 13, .inl (xf_z (xm_L dc lf))))]) := by
  refine xc_Wi_of (by decide) (Nat.le_of_ble_eq_true rfl) ?_
  intro p e s m args below meth c Q ls A hAt hP hK hD hA hS hl hret
  obtain ⟨hx, hb, hml, hown, hts, hgs, hlk⟩ := id hAt
  have hT : ∀ w ∈ xw_g, w ∈ xc_ws xy_M_shortest xb_M_shortest 5 (some .int) := fun w h => List.mem_cons_of_mem _ h
  have hown : s.vm.findClass "WishLedgerModel" = some m.cls := hown
  obtain ⟨H, hH0⟩ : ∃ H, H = s.heap := ⟨_, rfl⟩
  obtain ⟨locs, hL0⟩ : ∃ locs : List Loc, locs = [] := ⟨_, rfl⟩
  have hP : va_P D xn_cl [(m0, .inr (6, [.int cd, .int (nI gc), .int (nI dc), .ref m1, .ref m2, .ref m3, .ref m4, .ref m5, .ref m6, .ref m7, .ref m8, .ref m9, .ref m10])), (m1, .inl (cI, 78, .inl P)), (m2, .inl (cI, 78, .inl A0)), (m5, .inl (cZ, 169, .inl (xf_z gd))), (m6, .inl (cZ, 169, .inl (xf_z bd))), (m7, .inl (cZ, 169, .inl (xf_z ch))), (m8, .inl (cI, 169, .inl st)), (m9, .inl (cZ, 13, .inl (xf_z lf)))] H := by rw [hH0]; exact hP
  have hS : va_S A s.heap H locs := by rw [hH0, hL0]; exact hS
  suffices hgo : W p l e (xc_rm 3 0 0) s m args below meth c H locs 0 0 Q (F0 m 0 ls []) by rw [hH0, hL0] at hgo; exact hgo
  clear hH0 hL0
  have hl : lv_has ls 5 [(0, .ref m0)] := hl
  refine lv_aload_n hx hb xj_M_shortest_0 rfl (lv_at hl 0 rfl) ?_
  refine xc_wVv (av := []) (rest := []) (wr := []) hAt hT (xt_M_look l D cI cZ cJ m0 m1 m2 m3 m4 m5 m6 m7 m8 m9 m10 cd gc dc P A0 gd bd ch st lf (by omega) (by omega)) xw_618 xw_7 xw_621 xw_620 xs_M_look (C0 := xn_M) (q0 := 0) rfl rfl (na := 0) rfl (by decide +kernel) ⟨Nat.le_of_ble_eq_true rfl, Nat.le_of_ble_eq_true rfl⟩ hP hD hS hA [0, 1, 2, 3, 4, 5, 6, 7] [] rfl rfl (by decide) (by decide) (by decide) hK hl.1 (Nat.le_of_ble_eq_true rfl) ⟨Nat.zero_le _, Nat.zero_le _⟩ xj_M_shortest_1 (fun _ H locs _ hP hD hS => ?_)
  have hP : va_P D xn_cl [(m0, .inr (6, [.int cd, .int (nI gc), .int (nI dc), .ref m1, .ref m2, .ref m3, .ref m4, .ref m5, .ref m6, .ref m7, .ref m8, .ref m9, .ref m10])), (m1, .inl (cI, 78, .inl P)), (m2, .inl (cI, 78, .inl A0)), (m5, .inl (cZ, 169, .inl (xf_z (xm_G (xk_c gc P A0) (lN 1) (lN 1) dc gd)))), (m6, .inl (cZ, 169, .inl (xf_z (xm_B (xk_c gc P A0) (lN 1) (lN 1) dc bd)))), (m7, .inl (cZ, 169, .inl (xf_z ((xm_K dc (xm_L dc lf) (xm_G (xk_c gc P A0) (lN 1) (lN 1) dc gd) ch st).1)))), (m8, .inl (cI, 169, .inl ((xm_K dc (xm_L dc lf) (xm_G (xk_c gc P A0) (lN 1) (lN 1) dc gd) ch st).2.1))), (m9, .inl (cZ, 13, .inl (xf_z (xm_L dc lf))))] H := hP
  have hD : va_D A [(m0, .inr (6, [.int cd, .int (nI gc), .int (nI dc), .ref m1, .ref m2, .ref m3, .ref m4, .ref m5, .ref m6, .ref m7, .ref m8, .ref m9, .ref m10])), (m1, .inl (cI, 78, .inl P)), (m2, .inl (cI, 78, .inl A0)), (m5, .inl (cZ, 169, .inl (xf_z (xm_G (xk_c gc P A0) (lN 1) (lN 1) dc gd)))), (m6, .inl (cZ, 169, .inl (xf_z (xm_B (xk_c gc P A0) (lN 1) (lN 1) dc bd)))), (m7, .inl (cZ, 169, .inl (xf_z ((xm_K dc (xm_L dc lf) (xm_G (xk_c gc P A0) (lN 1) (lN 1) dc gd) ch st).1)))), (m8, .inl (cI, 169, .inl ((xm_K dc (xm_L dc lf) (xm_G (xk_c gc P A0) (lN 1) (lN 1) dc gd) ch st).2.1))), (m9, .inl (cZ, 13, .inl (xf_z (xm_L dc lf))))] := hD
  refine lv_iconst (v := nI 0) hx hb xj_M_shortest_4 (by decide) ?_
  refine lv_istore_n (lv' := [(1, .int (nI 0)), (0, .ref m0)]) hx hb xj_M_shortest_5 rfl hl (by decide) rfl (fun ls hl => ?_)
  refine lv_iconst (v := nI 0) hx hb xj_M_shortest_6 (by decide) ?_
  refine lv_istore_n (lv' := [(2, .int (nI 0)), (1, .int (nI 0)), (0, .ref m0)]) hx hb xj_M_shortest_7 rfl hl (by decide) rfl (fun ls hl => ?_)
  have loop8 : ∀ (n : Nat) (i : Nat) (x : Int32) (ls : Array Slot) (H : Heap) (locs : List Loc), i + n = dc → (xm_s2 dc (xm_B (xk_c gc P A0) (lN 1) (lN 1) dc bd) (xm_K dc (xm_L dc lf) (xm_G (xk_c gc P A0) (lN 1) (lN 1) dc gd) ch st).1 (xm_K dc (xm_L dc lf) (xm_G (xk_c gc P A0) (lN 1) (lN 1) dc gd) ch st).2.1 n i x = xm_s2 dc (xm_B (xk_c gc P A0) (lN 1) (lN 1) dc bd) (xm_K dc (xm_L dc lf) (xm_G (xk_c gc P A0) (lN 1) (lN 1) dc gd) ch st).1 (xm_K dc (xm_L dc lf) (xm_G (xk_c gc P A0) (lN 1) (lN 1) dc gd) ch st).2.1 dc 0 (nI 0)) → lv_has ls 5 [(0, .ref m0), (1, .int x), (2, .int (nI i))] → va_P D xn_cl [(m0, .inr (6, [.int cd, .int (nI gc), .int (nI dc), .ref m1, .ref m2, .ref m3, .ref m4, .ref m5, .ref m6, .ref m7, .ref m8, .ref m9, .ref m10])), (m1, .inl (cI, 78, .inl P)), (m2, .inl (cI, 78, .inl A0)), (m5, .inl (cZ, 169, .inl (xf_z (xm_G (xk_c gc P A0) (lN 1) (lN 1) dc gd)))), (m6, .inl (cZ, 169, .inl (xf_z (xm_B (xk_c gc P A0) (lN 1) (lN 1) dc bd)))), (m7, .inl (cZ, 169, .inl (xf_z ((xm_K dc (xm_L dc lf) (xm_G (xk_c gc P A0) (lN 1) (lN 1) dc gd) ch st).1)))), (m8, .inl (cI, 169, .inl ((xm_K dc (xm_L dc lf) (xm_G (xk_c gc P A0) (lN 1) (lN 1) dc gd) ch st).2.1))), (m9, .inl (cZ, 13, .inl (xf_z (xm_L dc lf))))] H → va_D A [(m0, .inr (6, [.int cd, .int (nI gc), .int (nI dc), .ref m1, .ref m2, .ref m3, .ref m4, .ref m5, .ref m6, .ref m7, .ref m8, .ref m9, .ref m10])), (m1, .inl (cI, 78, .inl P)), (m2, .inl (cI, 78, .inl A0)), (m5, .inl (cZ, 169, .inl (xf_z (xm_G (xk_c gc P A0) (lN 1) (lN 1) dc gd)))), (m6, .inl (cZ, 169, .inl (xf_z (xm_B (xk_c gc P A0) (lN 1) (lN 1) dc bd)))), (m7, .inl (cZ, 169, .inl (xf_z ((xm_K dc (xm_L dc lf) (xm_G (xk_c gc P A0) (lN 1) (lN 1) dc gd) ch st).1)))), (m8, .inl (cI, 169, .inl ((xm_K dc (xm_L dc lf) (xm_G (xk_c gc P A0) (lN 1) (lN 1) dc gd) ch st).2.1))), (m9, .inl (cZ, 13, .inl (xf_z (xm_L dc lf))))] → va_S A s.heap H locs → W p l e (xc_rm 3 0 0) s m args below meth c H locs 0 0 Q (F0 m 8 ls []) := by
    intro n
    induction n with
    | zero =>
      intro i x ls H locs hi8 hr hl hP hD hS
      refine lv_iload_n hx hb xj_M_shortest_8 rfl (lv_at hl 2 rfl) ?_
      refine lv_aload_n hx hb xj_M_shortest_9 rfl (lv_at hl 0 rfl) ?_
      refine va_get (D := D) (ci := 6) (v := .int (nI dc)) (C := xn_M) (T := xn_TM) (N := 13) hx hb hgs xw_uM hown hK.1 hP 0 rfl rfl 2 (by decide) (hgs _ xw_532) (fun _ h9 => h9) rfl xj_M_shortest_10 ?_
      refine xr_ge (tgt := 101) hx hb (by omega) (by omega) xj_M_shortest_13 rfl (fun h13 => ?_) (fun h13 => absurd h13 (by omega))
      refine lv_iload_n hx hb xj_M_shortest_101 rfl (lv_at hl 1 rfl) ?_
      exact hret x (()) H locs _ ls hr rfl hP hD hS xj_M_shortest_102
    | succ n ih8 =>
      intro i x ls H locs hi8 hr hl hP hD hS
      refine lv_iload_n hx hb xj_M_shortest_8 rfl (lv_at hl 2 rfl) ?_
      refine lv_aload_n hx hb xj_M_shortest_9 rfl (lv_at hl 0 rfl) ?_
      refine va_get (D := D) (ci := 6) (v := .int (nI dc)) (C := xn_M) (T := xn_TM) (N := 13) hx hb hgs xw_uM hown hK.1 hP 0 rfl rfl 2 (by decide) (hgs _ xw_532) (fun _ h9 => h9) rfl xj_M_shortest_10 ?_
      refine xr_ge (tgt := 101) hx hb (by omega) (by omega) xj_M_shortest_13 rfl (fun h13 => absurd h13 (by omega)) (fun h13 => ?_)
      refine lv_iconst (v := nI 0) hx hb xj_M_shortest_16 (by decide) ?_
      refine lv_istore_n (lv' := [(3, .int (nI 0)), (0, .ref m0), (1, .int x), (2, .int (nI i))]) hx hb xj_M_shortest_17 rfl hl (by decide) rfl (fun ls hl => ?_)
      have loop18 : ∀ (k : Nat) (j : Nat) (x2 : Int32) (ls : Array Slot) (H : Heap) (locs : List Loc), j + k = dc → (xm_s1 (xm_B (xk_c gc P A0) (lN 1) (lN 1) dc bd) (xm_K dc (xm_L dc lf) (xm_G (xk_c gc P A0) (lN 1) (lN 1) dc gd) ch st).1 (xm_K dc (xm_L dc lf) (xm_G (xk_c gc P A0) (lN 1) (lN 1) dc gd) ch st).2.1 i k j x2 = xm_s1 (xm_B (xk_c gc P A0) (lN 1) (lN 1) dc bd) (xm_K dc (xm_L dc lf) (xm_G (xk_c gc P A0) (lN 1) (lN 1) dc gd) ch st).1 (xm_K dc (xm_L dc lf) (xm_G (xk_c gc P A0) (lN 1) (lN 1) dc gd) ch st).2.1 i dc 0 x) → lv_has ls 5 [(0, .ref m0), (1, .int x2), (2, .int (nI i)), (3, .int (nI j))] → va_P D xn_cl [(m0, .inr (6, [.int cd, .int (nI gc), .int (nI dc), .ref m1, .ref m2, .ref m3, .ref m4, .ref m5, .ref m6, .ref m7, .ref m8, .ref m9, .ref m10])), (m1, .inl (cI, 78, .inl P)), (m2, .inl (cI, 78, .inl A0)), (m5, .inl (cZ, 169, .inl (xf_z (xm_G (xk_c gc P A0) (lN 1) (lN 1) dc gd)))), (m6, .inl (cZ, 169, .inl (xf_z (xm_B (xk_c gc P A0) (lN 1) (lN 1) dc bd)))), (m7, .inl (cZ, 169, .inl (xf_z ((xm_K dc (xm_L dc lf) (xm_G (xk_c gc P A0) (lN 1) (lN 1) dc gd) ch st).1)))), (m8, .inl (cI, 169, .inl ((xm_K dc (xm_L dc lf) (xm_G (xk_c gc P A0) (lN 1) (lN 1) dc gd) ch st).2.1))), (m9, .inl (cZ, 13, .inl (xf_z (xm_L dc lf))))] H → va_D A [(m0, .inr (6, [.int cd, .int (nI gc), .int (nI dc), .ref m1, .ref m2, .ref m3, .ref m4, .ref m5, .ref m6, .ref m7, .ref m8, .ref m9, .ref m10])), (m1, .inl (cI, 78, .inl P)), (m2, .inl (cI, 78, .inl A0)), (m5, .inl (cZ, 169, .inl (xf_z (xm_G (xk_c gc P A0) (lN 1) (lN 1) dc gd)))), (m6, .inl (cZ, 169, .inl (xf_z (xm_B (xk_c gc P A0) (lN 1) (lN 1) dc bd)))), (m7, .inl (cZ, 169, .inl (xf_z ((xm_K dc (xm_L dc lf) (xm_G (xk_c gc P A0) (lN 1) (lN 1) dc gd) ch st).1)))), (m8, .inl (cI, 169, .inl ((xm_K dc (xm_L dc lf) (xm_G (xk_c gc P A0) (lN 1) (lN 1) dc gd) ch st).2.1))), (m9, .inl (cZ, 13, .inl (xf_z (xm_L dc lf))))] → va_S A s.heap H locs → W p l e (xc_rm 3 0 0) s m args below meth c H locs 0 0 Q (F0 m 18 ls []) := by
        intro k
        induction k with
        | zero =>
          intro j x2 ls H locs hi18 hq hl hP hD hS
          refine lv_iload_n hx hb xj_M_shortest_18 rfl (lv_at hl 3 rfl) ?_
          refine lv_aload_n hx hb xj_M_shortest_19 rfl (lv_at hl 0 rfl) ?_
          refine va_get (D := D) (ci := 6) (v := .int (nI dc)) (C := xn_M) (T := xn_TM) (N := 13) hx hb hgs xw_uM hown hK.1 hP 0 rfl rfl 2 (by decide) (hgs _ xw_532) (fun _ h9 => h9) rfl xj_M_shortest_20 ?_
          refine xr_ge (tgt := 95) hx hb (by omega) (by omega) xj_M_shortest_23 rfl (fun h23 => ?_) (fun h23 => absurd h23 (by omega))
          refine lv_iinc (k := 2) (v := nI (i + 1)) (lv' := [(2, .int (nI (i + 1))), (0, .ref m0), (1, .int x2), (3, .int (nI j))]) hx hb xj_M_shortest_95 hl rfl (xr_inc _) (by decide) rfl (fun ls hl => ?_)
          refine lv_goto (tgt := 8) hx hb xj_M_shortest_98 rfl ?_
          exact ih8 (i + 1) x2 ls _ _ (by omega) (by rw [show x2 = _ from hq]; exact hr) (lv_sub hl [1, 2, 0] rfl) hP hD hS
        | succ k ih18 =>
          intro j x2 ls H locs hi18 hq hl hP hD hS
          refine lv_iload_n hx hb xj_M_shortest_18 rfl (lv_at hl 3 rfl) ?_
          refine lv_aload_n hx hb xj_M_shortest_19 rfl (lv_at hl 0 rfl) ?_
          refine va_get (D := D) (ci := 6) (v := .int (nI dc)) (C := xn_M) (T := xn_TM) (N := 13) hx hb hgs xw_uM hown hK.1 hP 0 rfl rfl 2 (by decide) (hgs _ xw_532) (fun _ h9 => h9) rfl xj_M_shortest_20 ?_
          refine xr_ge (tgt := 95) hx hb (by omega) (by omega) xj_M_shortest_23 rfl (fun h23 => absurd h23 (by omega)) (fun h23 => ?_)
          refine lv_aload_n hx hb xj_M_shortest_26 rfl (lv_at hl 0 rfl) ?_
          refine va_get (D := D) (ci := 6) (v := .ref m6) (C := xn_M) (T := xn_TM) (N := 13) hx hb hgs xw_uM hown hK.1 hP 0 rfl rfl 8 (by decide) (hgs _ xw_538) (fun _ h9 => h9) rfl xj_M_shortest_27 ?_
          refine lv_bipush (v := nI 13) hx hb xj_M_shortest_30 (by decide) ?_
          refine lv_iload_n hx hb xj_M_shortest_32 rfl (lv_at hl 3 rfl) ?_
          refine xr_imul hx hb xj_M_shortest_33 ?_
          refine lv_iload_n hx hb xj_M_shortest_34 rfl (lv_at hl 2 rfl) ?_
          refine xr_iadd hx hb xj_M_shortest_35 ?_
          refine xr_zald hx hb hK.1 hP 4 1 rfl rfl (by omega) (by decide) xj_M_shortest_36 ?_
          refine xr_top (y := xf_bI (((xm_B (xk_c gc P A0) (lN 1) (lN 1) dc bd)) ((13 * j) + i))) rfl ?_
          refine xr_ifeq (tgt := 89) hx hb xj_M_shortest_37 rfl (fun h37 => ?_) (fun h37 => ?_)
          · -- 89
            refine lv_iinc (k := 3) (v := nI (j + 1)) (lv' := [(3, .int (nI (j + 1))), (0, .ref m0), (1, .int x2), (2, .int (nI i))]) hx hb xj_M_shortest_89 hl rfl (xr_inc _) (by decide) rfl (fun ls hl => ?_)
            refine lv_goto (tgt := 18) hx hb xj_M_shortest_92 rfl ?_
            exact ih18 (j + 1) x2 ls _ _ (by omega) ((xm_s1_0 (bd := (xm_B (xk_c gc P A0) (lN 1) (lN 1) dc bd)) (ch := (xm_K dc (xm_L dc lf) (xm_G (xk_c gc P A0) (lN 1) (lN 1) dc gd) ch st).1) (st := (xm_K dc (xm_L dc lf) (xm_G (xk_c gc P A0) (lN 1) (lN 1) dc gd) ch st).2.1) (fun z => absurd (h37.symm.trans z.1) (by decide))).symm.trans hq) (lv_sub hl [1, 2, 3, 0] rfl) hP hD hS
          · -- 40
            refine lv_aload_n hx hb xj_M_shortest_40 rfl (lv_at hl 0 rfl) ?_
            refine va_get (D := D) (ci := 6) (v := .ref m7) (C := xn_M) (T := xn_TM) (N := 13) hx hb hgs xw_uM hown hK.1 hP 0 rfl rfl 9 (by decide) (hgs _ xw_539) (fun _ h9 => h9) rfl xj_M_shortest_41 ?_
            refine lv_bipush (v := nI 13) hx hb xj_M_shortest_44 (by decide) ?_
            refine lv_iload_n hx hb xj_M_shortest_46 rfl (lv_at hl 2 rfl) ?_
            refine xr_imul hx hb xj_M_shortest_47 ?_
            refine lv_iload_n hx hb xj_M_shortest_48 rfl (lv_at hl 3 rfl) ?_
            refine xr_iadd hx hb xj_M_shortest_49 ?_
            refine xr_zald hx hb hK.1 hP 5 1 rfl rfl (by omega) (by decide) xj_M_shortest_50 ?_
            refine xr_top (y := xf_bI ((((xm_K dc (xm_L dc lf) (xm_G (xk_c gc P A0) (lN 1) (lN 1) dc gd) ch st).1)) ((13 * i) + j))) rfl ?_
            refine xr_ifne (tgt := 57) hx hb xj_M_shortest_51 rfl (fun h51 => ?_) (fun h51 => ?_)
            · -- 57
              refine lv_aload_n hx hb xj_M_shortest_57 rfl (lv_at hl 0 rfl) ?_
              refine va_get (D := D) (ci := 6) (v := .ref m8) (C := xn_M) (T := xn_TM) (N := 13) hx hb hgs xw_uM hown hK.1 hP 0 rfl rfl 10 (by decide) (hgs _ xw_540) (fun _ h9 => h9) rfl xj_M_shortest_58 ?_
              refine lv_bipush (v := nI 13) hx hb xj_M_shortest_61 (by decide) ?_
              refine lv_iload_n hx hb xj_M_shortest_63 rfl (lv_at hl 2 rfl) ?_
              refine xr_imul hx hb xj_M_shortest_64 ?_
              refine lv_iload_n hx hb xj_M_shortest_65 rfl (lv_at hl 3 rfl) ?_
              refine xr_iadd hx hb xj_M_shortest_66 ?_
              refine xr_iald hx hb hK.1 hP 6 0 rfl rfl (by omega) (by decide) xj_M_shortest_67 ?_
              refine lv_iconst (v := nI 1) hx hb xj_M_shortest_68 (by decide) ?_
              refine lv_iadd hx hb xj_M_shortest_69 ?_
              refine lv_istore (lv' := [(4, .int ((((xm_K dc (xm_L dc lf) (xm_G (xk_c gc P A0) (lN 1) (lN 1) dc gd) ch st).2.1) ((13 * i) + j)) + (nI 1))), (0, .ref m0), (1, .int x2), (2, .int (nI i)), (3, .int (nI j))]) hx hb xj_M_shortest_70 hl (by decide) rfl (fun ls hl => ?_)
              refine lv_iload_n hx hb xj_M_shortest_72 rfl (lv_at hl 2 rfl) ?_
              refine lv_if_eq (tgt := 82) hx hb xj_M_shortest_73 rfl (fun h73 => ?_) (fun h73 => ?_)
              · -- 82
                refine lv_iload hx hb xj_M_shortest_82 (lv_at hl 0 rfl) ?_
                refine lv_goto (tgt := 88) hx hb xj_M_shortest_84 rfl ?_
                refine lv_istore_n (lv' := [(1, .int ((((xm_K dc (xm_L dc lf) (xm_G (xk_c gc P A0) (lN 1) (lN 1) dc gd) ch st).2.1) ((13 * i) + j)) + (nI 1))), (4, .int ((((xm_K dc (xm_L dc lf) (xm_G (xk_c gc P A0) (lN 1) (lN 1) dc gd) ch st).2.1) ((13 * i) + j)) + (nI 1))), (0, .ref m0), (2, .int (nI i)), (3, .int (nI j))]) hx hb xj_M_shortest_88 rfl hl (by decide) rfl (fun ls hl => ?_)
                refine lv_iinc (k := 4) (v := nI (j + 1)) (lv' := [(3, .int (nI (j + 1))), (1, .int ((((xm_K dc (xm_L dc lf) (xm_G (xk_c gc P A0) (lN 1) (lN 1) dc gd) ch st).2.1) ((13 * i) + j)) + (nI 1))), (4, .int ((((xm_K dc (xm_L dc lf) (xm_G (xk_c gc P A0) (lN 1) (lN 1) dc gd) ch st).2.1) ((13 * i) + j)) + (nI 1))), (0, .ref m0), (2, .int (nI i))]) hx hb xj_M_shortest_89 hl rfl (xr_inc _) (by decide) rfl (fun ls hl => ?_)
                refine lv_goto (tgt := 18) hx hb xj_M_shortest_92 rfl ?_
                exact ih18 (j + 1) ((((xm_K dc (xm_L dc lf) (xm_G (xk_c gc P A0) (lN 1) (lN 1) dc gd) ch st).2.1) ((13 * i) + j)) + (nI 1)) ls _ _ (by omega) ((xm_s1_1 (bd := (xm_B (xk_c gc P A0) (lN 1) (lN 1) dc bd)) (ch := (xm_K dc (xm_L dc lf) (xm_G (xk_c gc P A0) (lN 1) (lN 1) dc gd) ch st).1) (st := (xm_K dc (xm_L dc lf) (xm_G (xk_c gc P A0) (lN 1) (lN 1) dc gd) ch st).2.1) h37 h51 (Or.inl h73)).symm.trans hq) (lv_sub hl [3, 1, 4, 0] rfl) hP hD hS
              · -- 76
                refine lv_iload hx hb xj_M_shortest_76 (lv_at hl 0 rfl) ?_
                refine lv_iload_n hx hb xj_M_shortest_78 rfl (lv_at hl 2 rfl) ?_
                refine lv_icmp_ge (tgt := 87) hx hb xj_M_shortest_79 rfl (fun h79 => ?_) (fun h79 => ?_)
                · -- 87
                  refine lv_iload_n hx hb xj_M_shortest_87 rfl (lv_at hl 2 rfl) ?_
                  refine lv_istore_n (lv' := [(1, .int x2), (4, .int ((((xm_K dc (xm_L dc lf) (xm_G (xk_c gc P A0) (lN 1) (lN 1) dc gd) ch st).2.1) ((13 * i) + j)) + (nI 1))), (0, .ref m0), (2, .int (nI i)), (3, .int (nI j))]) hx hb xj_M_shortest_88 rfl hl (by decide) rfl (fun ls hl => ?_)
                  refine lv_iinc (k := 4) (v := nI (j + 1)) (lv' := [(3, .int (nI (j + 1))), (1, .int x2), (4, .int ((((xm_K dc (xm_L dc lf) (xm_G (xk_c gc P A0) (lN 1) (lN 1) dc gd) ch st).2.1) ((13 * i) + j)) + (nI 1))), (0, .ref m0), (2, .int (nI i))]) hx hb xj_M_shortest_89 hl rfl (xr_inc _) (by decide) rfl (fun ls hl => ?_)
                  refine lv_goto (tgt := 18) hx hb xj_M_shortest_92 rfl ?_
                  exact ih18 (j + 1) x2 ls _ _ (by omega) ((xm_s1_2 (bd := (xm_B (xk_c gc P A0) (lN 1) (lN 1) dc bd)) (ch := (xm_K dc (xm_L dc lf) (xm_G (xk_c gc P A0) (lN 1) (lN 1) dc gd) ch st).1) (st := (xm_K dc (xm_L dc lf) (xm_G (xk_c gc P A0) (lN 1) (lN 1) dc gd) ch st).2.1) h37 h51 h73 h79).symm.trans hq) (lv_sub hl [3, 1, 4, 0] rfl) hP hD hS
                · -- 82
                  refine lv_iload hx hb xj_M_shortest_82 (lv_at hl 0 rfl) ?_
                  refine lv_goto (tgt := 88) hx hb xj_M_shortest_84 rfl ?_
                  refine lv_istore_n (lv' := [(1, .int ((((xm_K dc (xm_L dc lf) (xm_G (xk_c gc P A0) (lN 1) (lN 1) dc gd) ch st).2.1) ((13 * i) + j)) + (nI 1))), (4, .int ((((xm_K dc (xm_L dc lf) (xm_G (xk_c gc P A0) (lN 1) (lN 1) dc gd) ch st).2.1) ((13 * i) + j)) + (nI 1))), (0, .ref m0), (2, .int (nI i)), (3, .int (nI j))]) hx hb xj_M_shortest_88 rfl hl (by decide) rfl (fun ls hl => ?_)
                  refine lv_iinc (k := 4) (v := nI (j + 1)) (lv' := [(3, .int (nI (j + 1))), (1, .int ((((xm_K dc (xm_L dc lf) (xm_G (xk_c gc P A0) (lN 1) (lN 1) dc gd) ch st).2.1) ((13 * i) + j)) + (nI 1))), (4, .int ((((xm_K dc (xm_L dc lf) (xm_G (xk_c gc P A0) (lN 1) (lN 1) dc gd) ch st).2.1) ((13 * i) + j)) + (nI 1))), (0, .ref m0), (2, .int (nI i))]) hx hb xj_M_shortest_89 hl rfl (xr_inc _) (by decide) rfl (fun ls hl => ?_)
                  refine lv_goto (tgt := 18) hx hb xj_M_shortest_92 rfl ?_
                  exact ih18 (j + 1) ((((xm_K dc (xm_L dc lf) (xm_G (xk_c gc P A0) (lN 1) (lN 1) dc gd) ch st).2.1) ((13 * i) + j)) + (nI 1)) ls _ _ (by omega) ((xm_s1_1 (bd := (xm_B (xk_c gc P A0) (lN 1) (lN 1) dc bd)) (ch := (xm_K dc (xm_L dc lf) (xm_G (xk_c gc P A0) (lN 1) (lN 1) dc gd) ch st).1) (st := (xm_K dc (xm_L dc lf) (xm_G (xk_c gc P A0) (lN 1) (lN 1) dc gd) ch st).2.1) h37 h51 (Or.inr h79)).symm.trans hq) (lv_sub hl [3, 1, 4, 0] rfl) hP hD hS
            · -- 54
              refine lv_goto (tgt := 89) hx hb xj_M_shortest_54 rfl ?_
              refine lv_iinc (k := 3) (v := nI (j + 1)) (lv' := [(3, .int (nI (j + 1))), (0, .ref m0), (1, .int x2), (2, .int (nI i))]) hx hb xj_M_shortest_89 hl rfl (xr_inc _) (by decide) rfl (fun ls hl => ?_)
              refine lv_goto (tgt := 18) hx hb xj_M_shortest_92 rfl ?_
              exact ih18 (j + 1) x2 ls _ _ (by omega) ((xm_s1_0 (bd := (xm_B (xk_c gc P A0) (lN 1) (lN 1) dc bd)) (ch := (xm_K dc (xm_L dc lf) (xm_G (xk_c gc P A0) (lN 1) (lN 1) dc gd) ch st).1) (st := (xm_K dc (xm_L dc lf) (xm_G (xk_c gc P A0) (lN 1) (lN 1) dc gd) ch st).2.1) (fun z => absurd (h51.symm.trans z.2) (by decide))).symm.trans hq) (lv_sub hl [1, 2, 3, 0] rfl) hP hD hS
      exact loop18 dc 0 x ls _ _ (by omega) rfl (lv_sub hl [1, 2, 3, 0] rfl) hP hD hS
  exact loop8 dc 0 (nI 0) ls _ _ (by omega) rfl (lv_sub hl [2, 1, 0] rfl) hP hD hS
set_option maxRecDepth 100000 in
set_option maxHeartbeats 4000000 in
theorem xt_M_mayStand (l : Launch) (D : va_G) (cI cZ cJ : ClassId) (m0 m1 m2 m3 m4 m5 m6 m7 m8 m9 m10 : Nat) (cd : Int32) (gc dc : Nat) (gd : Nat → Bool) (li : Nat → Int32) (q : Nat → Nat) (p0 : Nat) (hp : p0 < 13) (hli : ∀ k, k ≤ p0 → li k = nI (q k - 1) ∧ 1 ≤ q k ∧ q k ≤ 12) : xc_R l xy_M_mayStand xb_M_mayStand 3 .boolean 0 [.ref m0, .int (nI p0)] D cI cZ cJ [(m0, .inr (6, [.int cd, .int (nI gc), .int (nI dc), .ref m1, .ref m2, .ref m3, .ref m4, .ref m5, .ref m6, .ref m7, .ref m8, .ref m9, .ref m10])), (m5, .inl (cZ, 169, .inl (xf_z gd))), (m10, .inl (cI, 13, .inl li))] (xf_bI (xm_may gd q p0)) := by
  refine xc_R_of (by decide) (Nat.le_of_ble_eq_true rfl) (xf_nar_b _) ?_
  intro p e s m args below meth c Q ls hAt hP hK hl hret
  obtain ⟨hx, hb, hml, hown, hts, hgs, hlk⟩ := id hAt
  have hT : ∀ w ∈ xw_g, w ∈ xc_ws xy_M_mayStand xb_M_mayStand 3 (some .boolean) := fun w h => List.mem_cons_of_mem _ h
  have hown : s.vm.findClass "WishLedgerModel" = some m.cls := hown
  have hl : lv_has ls 3 [(0, .ref m0), (1, .int (nI p0))] := hl
  refine lv_iconst (v := nI 0) hx hb xj_M_mayStand_0 (by decide) ?_
  refine lv_istore_n (lv' := [(2, .int (nI 0)), (0, .ref m0), (1, .int (nI p0))]) hx hb xj_M_mayStand_1 rfl hl (by decide) rfl (fun ls hl => ?_)
  have loop2 : ∀ (n : Nat) (i : Nat) (ls : Array Slot), i + n = p0 → (xf_ex (fun k => decide (q k = q p0)) n i = xf_ex (fun k => decide (q k = q p0)) p0 0) → lv_has ls 3 [(0, .ref m0), (1, .int (nI p0)), (2, .int (nI i))] → W p l e (xc_rm 0 0 0) s m args below meth c s.heap [] 0 0 Q (F0 m 2 ls []) := by
    intro n
    induction n with
    | zero =>
      intro i ls hi2 hr hl
      refine lv_iload_n hx hb xj_M_mayStand_2 rfl (lv_at hl 2 rfl) ?_
      refine lv_iload_n hx hb xj_M_mayStand_3 rfl (lv_at hl 1 rfl) ?_
      refine xr_ge (tgt := 30) hx hb (by omega) (by omega) xj_M_mayStand_4 rfl (fun h4 => ?_) (fun h4 => absurd h4 (by omega))
      refine lv_iload_n hx hb xj_M_mayStand_30 rfl (lv_at hl 1 rfl) ?_
      refine xr_ifeqN (tgt := 60) hx hb (by omega) xj_M_mayStand_31 rfl (fun h31 => ?_) (fun h31 => ?_)
      · -- 60
        refine lv_iconst (v := nI 1) hx hb xj_M_mayStand_60 (by decide) ?_
        refine lv_goto (tgt := 65) hx hb xj_M_mayStand_61 rfl ?_
        exact xr_top (by unfold xm_may; rw [show xf_ex (fun k => decide (q k = q p0)) p0 0 = false from hr.symm, decide_eq_true h31]; rfl) (hret _ _ xj_M_mayStand_65)
      · -- 34
        have hA9 := hli (p0 - 1) (by omega)
        have hB9 := hli p0 (Nat.le_refl p0)
        refine lv_aload_n hx hb xj_M_mayStand_34 rfl (lv_at hl 0 rfl) ?_
        refine va_get (D := D) (ci := 6) (v := .ref m5) (C := xn_M) (T := xn_TM) (N := 13) hx hb hgs xw_uM hown hK.1 hP 0 rfl rfl 7 (by decide) (hgs _ xw_537) (fun _ h9 => h9) rfl xj_M_mayStand_35 ?_
        refine lv_bipush (v := nI 13) hx hb xj_M_mayStand_38 (by decide) ?_
        refine lv_aload_n hx hb xj_M_mayStand_40 rfl (lv_at hl 0 rfl) ?_
        refine va_get (D := D) (ci := 6) (v := .ref m10) (C := xn_M) (T := xn_TM) (N := 13) hx hb hgs xw_uM hown hK.1 hP 0 rfl rfl 12 (by decide) (hgs _ xw_542) (fun _ h9 => h9) rfl xj_M_mayStand_41 ?_
        refine lv_iload_n hx hb xj_M_mayStand_44 rfl (lv_at hl 1 rfl) ?_
        refine lv_iconst (v := nI 1) hx hb xj_M_mayStand_45 (by decide) ?_
        refine xr_isub hx hb (by omega) xj_M_mayStand_46 ?_
        refine xr_iald hx hb hK.1 hP 2 0 rfl rfl (by omega) (by decide) xj_M_mayStand_47 ?_
        refine xr_top (y := nI (q (p0 - 1) - 1)) hA9.1 ?_
        refine xr_imul hx hb xj_M_mayStand_48 ?_
        refine lv_aload_n hx hb xj_M_mayStand_49 rfl (lv_at hl 0 rfl) ?_
        refine va_get (D := D) (ci := 6) (v := .ref m10) (C := xn_M) (T := xn_TM) (N := 13) hx hb hgs xw_uM hown hK.1 hP 0 rfl rfl 12 (by decide) (hgs _ xw_542) (fun _ h9 => h9) rfl xj_M_mayStand_50 ?_
        refine lv_iload_n hx hb xj_M_mayStand_53 rfl (lv_at hl 1 rfl) ?_
        refine xr_iald hx hb hK.1 hP 2 0 rfl rfl (by omega) (by decide) xj_M_mayStand_54 ?_
        refine xr_top (y := nI (q p0 - 1)) hB9.1 ?_
        refine xr_iadd hx hb xj_M_mayStand_55 ?_
        refine xr_zald hx hb hK.1 hP 1 1 rfl rfl (by omega) (by decide) xj_M_mayStand_56 ?_
        refine xr_top (y := xf_bI (gd ((13 * (q (p0 - 1) - 1)) + (q p0 - 1)))) rfl ?_
        refine xr_ifeq (tgt := 64) hx hb xj_M_mayStand_57 rfl (fun h57 => ?_) (fun h57 => ?_)
        · -- 64
          refine lv_iconst (v := nI 0) hx hb xj_M_mayStand_64 (by decide) ?_
          exact xr_top (by unfold xm_may; rw [show xf_ex (fun k => decide (q k = q p0)) p0 0 = false from hr.symm, decide_eq_false h31, h57]; rfl) (hret _ _ xj_M_mayStand_65)
        · -- 60
          refine lv_iconst (v := nI 1) hx hb xj_M_mayStand_60 (by decide) ?_
          refine lv_goto (tgt := 65) hx hb xj_M_mayStand_61 rfl ?_
          exact xr_top (by unfold xm_may; rw [show xf_ex (fun k => decide (q k = q p0)) p0 0 = false from hr.symm, decide_eq_false h31, h57]; rfl) (hret _ _ xj_M_mayStand_65)
    | succ n ih2 =>
      intro i ls hi2 hr hl
      refine lv_iload_n hx hb xj_M_mayStand_2 rfl (lv_at hl 2 rfl) ?_
      refine lv_iload_n hx hb xj_M_mayStand_3 rfl (lv_at hl 1 rfl) ?_
      refine xr_ge (tgt := 30) hx hb (by omega) (by omega) xj_M_mayStand_4 rfl (fun h4 => absurd h4 (by omega)) (fun h4 => ?_)
      have hA9 := hli i (by omega)
      have hB9 := hli p0 (Nat.le_refl p0)
      refine lv_aload_n hx hb xj_M_mayStand_7 rfl (lv_at hl 0 rfl) ?_
      refine va_get (D := D) (ci := 6) (v := .ref m10) (C := xn_M) (T := xn_TM) (N := 13) hx hb hgs xw_uM hown hK.1 hP 0 rfl rfl 12 (by decide) (hgs _ xw_542) (fun _ h9 => h9) rfl xj_M_mayStand_8 ?_
      refine lv_iload_n hx hb xj_M_mayStand_11 rfl (lv_at hl 2 rfl) ?_
      refine xr_iald hx hb hK.1 hP 2 0 rfl rfl (by omega) (by decide) xj_M_mayStand_12 ?_
      refine xr_top (y := nI (q i - 1)) ((hli i (by omega)).1) ?_
      refine lv_aload_n hx hb xj_M_mayStand_13 rfl (lv_at hl 0 rfl) ?_
      refine va_get (D := D) (ci := 6) (v := .ref m10) (C := xn_M) (T := xn_TM) (N := 13) hx hb hgs xw_uM hown hK.1 hP 0 rfl rfl 12 (by decide) (hgs _ xw_542) (fun _ h9 => h9) rfl xj_M_mayStand_14 ?_
      refine lv_iload_n hx hb xj_M_mayStand_17 rfl (lv_at hl 1 rfl) ?_
      refine xr_iald hx hb hK.1 hP 2 0 rfl rfl (by omega) (by decide) xj_M_mayStand_18 ?_
      refine xr_top (y := nI (q p0 - 1)) ((hli p0 (Nat.le_refl p0)).1) ?_
      refine xr_ne (tgt := 24) hx hb (by omega) (by omega) xj_M_mayStand_19 rfl (fun h19 => ?_) (fun h19 => ?_)
      · -- 24
        refine lv_iinc (k := 2) (v := nI (i + 1)) (lv' := [(2, .int (nI (i + 1))), (0, .ref m0), (1, .int (nI p0))]) hx hb xj_M_mayStand_24 hl rfl (xr_inc _) (by decide) rfl (fun ls hl => ?_)
        refine lv_goto (tgt := 2) hx hb xj_M_mayStand_27 rfl ?_
        exact ih2 (i + 1) ls (by omega) ((xf_ex_f (P := (fun k => decide (q k = q p0))) (decide_eq_false (fun z => h19 (by rw [z])))).symm.trans hr) (lv_sub hl [1, 2, 0] rfl)
      · -- 22
        refine lv_iconst (v := nI 0) hx hb xj_M_mayStand_22 (by decide) ?_
        exact xr_top (by unfold xm_may; rw [show xf_ex (fun k => decide (q k = q p0)) p0 0 = true from ((xf_ex_t (P := (fun k => decide (q k = q p0))) (decide_eq_true (by have h1 := hli i (by omega); have h2 := hli p0 (Nat.le_refl p0); omega))).symm.trans hr).symm]; rfl) (hret _ _ xj_M_mayStand_23)
  exact loop2 p0 0 ls (by omega) rfl (lv_sub hl [1, 2, 0] rfl)
set_option maxRecDepth 100000 in
set_option maxHeartbeats 4000000 in
theorem xt_M_isCircle (l : Launch) (D : va_G) (cI cZ cJ : ClassId) (m0 m1 m2 m3 m4 m5 m6 m7 m8 m9 m10 : Nat) (cd : Int32) (gc dc : Nat) (gd : Nat → Bool) (bd : Nat → Bool) (li : Nat → Int32) (q : Nat → Nat) (n0 : Nat) (hn0 : 0 < n0) (hn : n0 ≤ 13) (hli : ∀ k, k < n0 → li k = nI (q k - 1) ∧ 1 ≤ q k ∧ q k ≤ 12) : xc_R l xy_M_isCircle xb_M_isCircle 4 .boolean 0 [.ref m0, .int (nI n0)] D cI cZ cJ [(m0, .inr (6, [.int cd, .int (nI gc), .int (nI dc), .ref m1, .ref m2, .ref m3, .ref m4, .ref m5, .ref m6, .ref m7, .ref m8, .ref m9, .ref m10])), (m5, .inl (cZ, 169, .inl (xf_z gd))), (m6, .inl (cZ, 169, .inl (xf_z bd))), (m10, .inl (cI, 13, .inl li))] (xf_bI (xm_cir gd bd n0 q)) := by
  refine xc_R_of (by decide) (Nat.le_of_ble_eq_true rfl) (xf_nar_b _) ?_
  intro p e s m args below meth c Q ls hAt hP hK hl hret
  obtain ⟨hx, hb, hml, hown, hts, hgs, hlk⟩ := id hAt
  have hT : ∀ w ∈ xw_g, w ∈ xc_ws xy_M_isCircle xb_M_isCircle 4 (some .boolean) := fun w h => List.mem_cons_of_mem _ h
  have hown : s.vm.findClass "WishLedgerModel" = some m.cls := hown
  have hl : lv_has ls 4 [(0, .ref m0), (1, .int (nI n0))] := hl
  refine lv_iconst (v := nI 0) hx hb xj_M_isCircle_0 (by decide) ?_
  refine lv_istore_n (lv' := [(2, .int (nI 0)), (0, .ref m0), (1, .int (nI n0))]) hx hb xj_M_isCircle_1 rfl hl (by decide) rfl (fun ls hl => ?_)
  refine lv_iconst (v := nI 0) hx hb xj_M_isCircle_2 (by decide) ?_
  refine lv_istore_n (lv' := [(3, .int (nI 0)), (2, .int (nI 0)), (0, .ref m0), (1, .int (nI n0))]) hx hb xj_M_isCircle_3 rfl hl (by decide) rfl (fun ls hl => ?_)
  have loop4 : ∀ (n : Nat) (i : Nat) (fl : Bool) (ls : Array Slot), i + n = n0 → ((fl || xf_ex (fun i => bd (13 * (q i - 1) + (q (xl_nx n0 i) - 1))) n i) = xf_ex (fun i => bd (13 * (q i - 1) + (q (xl_nx n0 i) - 1))) n0 0) → lv_has ls 4 [(0, .ref m0), (1, .int (nI n0)), (2, .int (xf_bI fl)), (3, .int (nI i))] → W p l e (xc_rm 0 0 0) s m args below meth c s.heap [] 0 0 Q (F0 m 4 ls []) := by
    intro n
    induction n with
    | zero =>
      intro i fl ls hi4 hr hl
      refine lv_iload_n hx hb xj_M_isCircle_4 rfl (lv_at hl 3 rfl) ?_
      refine lv_iload_n hx hb xj_M_isCircle_5 rfl (lv_at hl 1 rfl) ?_
      refine xr_ge (tgt := 62) hx hb (by omega) (by omega) xj_M_isCircle_6 rfl (fun h6 => ?_) (fun h6 => absurd h6 (by omega))
      refine lv_iload_n hx hb xj_M_isCircle_62 rfl (lv_at hl 2 rfl) ?_
      refine xr_ifeq (tgt := 96) hx hb xj_M_isCircle_63 rfl (fun h63 => ?_) (fun h63 => ?_)
      · -- 96
        refine lv_iconst (v := nI 0) hx hb xj_M_isCircle_96 (by decide) ?_
        have hr0 : fl = xf_ex (fun i => bd (13 * (q i - 1) + (q (xl_nx n0 i) - 1))) n0 0 := by rw [← hr]; cases fl <;> rfl
        exact xr_top (by unfold xm_cir; rw [← hr0, h63]; rfl) (hret _ _ xj_M_isCircle_97)
      · -- 66
        have hA9 := hli (n0 - 1) (by omega)
        have hC9 := hli 0 (by omega)
        refine lv_aload_n hx hb xj_M_isCircle_66 rfl (lv_at hl 0 rfl) ?_
        refine va_get (D := D) (ci := 6) (v := .ref m5) (C := xn_M) (T := xn_TM) (N := 13) hx hb hgs xw_uM hown hK.1 hP 0 rfl rfl 7 (by decide) (hgs _ xw_537) (fun _ h9 => h9) rfl xj_M_isCircle_67 ?_
        refine lv_bipush (v := nI 13) hx hb xj_M_isCircle_70 (by decide) ?_
        refine lv_aload_n hx hb xj_M_isCircle_72 rfl (lv_at hl 0 rfl) ?_
        refine va_get (D := D) (ci := 6) (v := .ref m10) (C := xn_M) (T := xn_TM) (N := 13) hx hb hgs xw_uM hown hK.1 hP 0 rfl rfl 12 (by decide) (hgs _ xw_542) (fun _ h9 => h9) rfl xj_M_isCircle_73 ?_
        refine lv_iload_n hx hb xj_M_isCircle_76 rfl (lv_at hl 1 rfl) ?_
        refine lv_iconst (v := nI 1) hx hb xj_M_isCircle_77 (by decide) ?_
        refine xr_isub hx hb (by omega) xj_M_isCircle_78 ?_
        refine xr_iald hx hb hK.1 hP 3 0 rfl rfl (by omega) (by decide) xj_M_isCircle_79 ?_
        refine xr_top (y := nI (q (n0 - 1) - 1)) hA9.1 ?_
        refine xr_imul hx hb xj_M_isCircle_80 ?_
        refine lv_aload_n hx hb xj_M_isCircle_81 rfl (lv_at hl 0 rfl) ?_
        refine va_get (D := D) (ci := 6) (v := .ref m10) (C := xn_M) (T := xn_TM) (N := 13) hx hb hgs xw_uM hown hK.1 hP 0 rfl rfl 12 (by decide) (hgs _ xw_542) (fun _ h9 => h9) rfl xj_M_isCircle_82 ?_
        refine lv_iconst (v := nI 0) hx hb xj_M_isCircle_85 (by decide) ?_
        refine xr_iald hx hb hK.1 hP 3 0 rfl rfl (by omega) (by decide) xj_M_isCircle_86 ?_
        refine xr_top (y := nI (q 0 - 1)) hC9.1 ?_
        refine xr_iadd hx hb xj_M_isCircle_87 ?_
        refine xr_zald hx hb hK.1 hP 1 1 rfl rfl (by omega) (by decide) xj_M_isCircle_88 ?_
        refine xr_top (y := xf_bI (gd ((13 * (q (n0 - 1) - 1)) + (q 0 - 1)))) rfl ?_
        refine xr_ifeq (tgt := 96) hx hb xj_M_isCircle_89 rfl (fun h89 => ?_) (fun h89 => ?_)
        · -- 96
          refine lv_iconst (v := nI 0) hx hb xj_M_isCircle_96 (by decide) ?_
          have hr0 : fl = xf_ex (fun i => bd (13 * (q i - 1) + (q (xl_nx n0 i) - 1))) n0 0 := by rw [← hr]; cases fl <;> rfl
          exact xr_top (by unfold xm_cir; rw [← hr0, h63, h89]; rfl) (hret _ _ xj_M_isCircle_97)
        · -- 92
          refine lv_iconst (v := nI 1) hx hb xj_M_isCircle_92 (by decide) ?_
          refine lv_goto (tgt := 97) hx hb xj_M_isCircle_93 rfl ?_
          have hr0 : fl = xf_ex (fun i => bd (13 * (q i - 1) + (q (xl_nx n0 i) - 1))) n0 0 := by rw [← hr]; cases fl <;> rfl
          exact xr_top (by unfold xm_cir; rw [← hr0, h63, h89]; rfl) (hret _ _ xj_M_isCircle_97)
    | succ n ih4 =>
      intro i fl ls hi4 hr hl
      refine lv_iload_n hx hb xj_M_isCircle_4 rfl (lv_at hl 3 rfl) ?_
      refine lv_iload_n hx hb xj_M_isCircle_5 rfl (lv_at hl 1 rfl) ?_
      refine xr_ge (tgt := 62) hx hb (by omega) (by omega) xj_M_isCircle_6 rfl (fun h6 => absurd h6 (by omega)) (fun h6 => ?_)
      refine lv_iload_n hx hb xj_M_isCircle_9 rfl (lv_at hl 2 rfl) ?_
      refine xr_ifne (tgt := 50) hx hb xj_M_isCircle_10 rfl (fun h10 => ?_) (fun h10 => ?_)
      · -- 50
        refine lv_iconst (v := nI 1) hx hb xj_M_isCircle_50 (by decide) ?_
        refine lv_goto (tgt := 55) hx hb xj_M_isCircle_51 rfl ?_
        refine lv_istore_n (lv' := [(2, .int (nI 1)), (0, .ref m0), (1, .int (nI n0)), (3, .int (nI i))]) hx hb xj_M_isCircle_55 rfl hl (by decide) rfl (fun ls hl => ?_)
        refine lv_iinc (k := 3) (v := nI (i + 1)) (lv' := [(3, .int (nI (i + 1))), (2, .int (nI 1)), (0, .ref m0), (1, .int (nI n0))]) hx hb xj_M_isCircle_56 hl rfl (xr_inc _) (by decide) rfl (fun ls hl => ?_)
        refine lv_goto (tgt := 4) hx hb xj_M_isCircle_59 rfl ?_
        exact ih4 (i + 1) true ls (by omega) (by rw [h10] at hr; exact hr) (lv_sub hl [2, 3, 1, 0] rfl)
      · -- 13
        have hA9 := hli i (by omega)
        have hB9 := fun k hk => hli k hk
        have hC9 := hli 0 (by omega)
        refine lv_aload_n hx hb xj_M_isCircle_13 rfl (lv_at hl 0 rfl) ?_
        refine va_get (D := D) (ci := 6) (v := .ref m6) (C := xn_M) (T := xn_TM) (N := 13) hx hb hgs xw_uM hown hK.1 hP 0 rfl rfl 8 (by decide) (hgs _ xw_538) (fun _ h9 => h9) rfl xj_M_isCircle_14 ?_
        refine lv_bipush (v := nI 13) hx hb xj_M_isCircle_17 (by decide) ?_
        refine lv_aload_n hx hb xj_M_isCircle_19 rfl (lv_at hl 0 rfl) ?_
        refine va_get (D := D) (ci := 6) (v := .ref m10) (C := xn_M) (T := xn_TM) (N := 13) hx hb hgs xw_uM hown hK.1 hP 0 rfl rfl 12 (by decide) (hgs _ xw_542) (fun _ h9 => h9) rfl xj_M_isCircle_20 ?_
        refine lv_iload_n hx hb xj_M_isCircle_23 rfl (lv_at hl 3 rfl) ?_
        refine xr_iald hx hb hK.1 hP 3 0 rfl rfl (by omega) (by decide) xj_M_isCircle_24 ?_
        refine xr_top (y := nI (q i - 1)) hA9.1 ?_
        refine xr_imul hx hb xj_M_isCircle_25 ?_
        refine lv_aload_n hx hb xj_M_isCircle_26 rfl (lv_at hl 0 rfl) ?_
        refine va_get (D := D) (ci := 6) (v := .ref m10) (C := xn_M) (T := xn_TM) (N := 13) hx hb hgs xw_uM hown hK.1 hP 0 rfl rfl 12 (by decide) (hgs _ xw_542) (fun _ h9 => h9) rfl xj_M_isCircle_27 ?_
        refine lv_iload_n hx hb xj_M_isCircle_30 rfl (lv_at hl 3 rfl) ?_
        refine lv_iconst (v := nI 1) hx hb xj_M_isCircle_31 (by decide) ?_
        refine xr_iadd hx hb xj_M_isCircle_32 ?_
        refine lv_iload_n hx hb xj_M_isCircle_33 rfl (lv_at hl 1 rfl) ?_
        refine xr_ge (tgt := 43) hx hb (by omega) (by omega) xj_M_isCircle_34 rfl (fun h34 => ?_) (fun h34 => ?_)
        · -- 43
          refine lv_iconst (v := nI 0) hx hb xj_M_isCircle_43 (by decide) ?_
          refine xr_iald hx hb hK.1 hP 3 0 rfl rfl (by omega) (by decide) xj_M_isCircle_44 ?_
          refine xr_top (y := nI (q 0 - 1)) hC9.1 ?_
          refine xr_iadd hx hb xj_M_isCircle_45 ?_
          refine xr_zald hx hb hK.1 hP 2 1 rfl rfl (by omega) (by decide) xj_M_isCircle_46 ?_
          refine xr_top (y := xf_bI (bd ((13 * (q i - 1)) + (q 0 - 1)))) rfl ?_
          refine xr_ifeq (tgt := 54) hx hb xj_M_isCircle_47 rfl (fun h47 => ?_) (fun h47 => ?_)
          · -- 54
            refine lv_iconst (v := nI 0) hx hb xj_M_isCircle_54 (by decide) ?_
            refine lv_istore_n (lv' := [(2, .int (nI 0)), (0, .ref m0), (1, .int (nI n0)), (3, .int (nI i))]) hx hb xj_M_isCircle_55 rfl hl (by decide) rfl (fun ls hl => ?_)
            refine lv_iinc (k := 3) (v := nI (i + 1)) (lv' := [(3, .int (nI (i + 1))), (2, .int (nI 0)), (0, .ref m0), (1, .int (nI n0))]) hx hb xj_M_isCircle_56 hl rfl (xr_inc _) (by decide) rfl (fun ls hl => ?_)
            refine lv_goto (tgt := 4) hx hb xj_M_isCircle_59 rfl ?_
            exact ih4 (i + 1) false ls (by omega) (xm_cs (P := (fun i => bd (13 * (q i - 1) + (q (xl_nx n0 i) - 1)))) h10 (by show bd (13 * (q i - 1) + (q (xl_nx n0 i) - 1)) = _; rw [xl_nx_end (by omega)]; exact h47) hr) (lv_sub hl [2, 3, 1, 0] rfl)
          · -- 50
            refine lv_iconst (v := nI 1) hx hb xj_M_isCircle_50 (by decide) ?_
            refine lv_goto (tgt := 55) hx hb xj_M_isCircle_51 rfl ?_
            refine lv_istore_n (lv' := [(2, .int (nI 1)), (0, .ref m0), (1, .int (nI n0)), (3, .int (nI i))]) hx hb xj_M_isCircle_55 rfl hl (by decide) rfl (fun ls hl => ?_)
            refine lv_iinc (k := 3) (v := nI (i + 1)) (lv' := [(3, .int (nI (i + 1))), (2, .int (nI 1)), (0, .ref m0), (1, .int (nI n0))]) hx hb xj_M_isCircle_56 hl rfl (xr_inc _) (by decide) rfl (fun ls hl => ?_)
            refine lv_goto (tgt := 4) hx hb xj_M_isCircle_59 rfl ?_
            exact ih4 (i + 1) true ls (by omega) (xm_cs (P := (fun i => bd (13 * (q i - 1) + (q (xl_nx n0 i) - 1)))) h10 (by show bd (13 * (q i - 1) + (q (xl_nx n0 i) - 1)) = _; rw [xl_nx_end (by omega)]; exact h47) hr) (lv_sub hl [2, 3, 1, 0] rfl)
        · -- 37
          have hD9 := hli (i + 1) (by omega)
          refine lv_iload_n hx hb xj_M_isCircle_37 rfl (lv_at hl 3 rfl) ?_
          refine lv_iconst (v := nI 1) hx hb xj_M_isCircle_38 (by decide) ?_
          refine xr_iadd hx hb xj_M_isCircle_39 ?_
          refine lv_goto (tgt := 44) hx hb xj_M_isCircle_40 rfl ?_
          refine xr_iald hx hb hK.1 hP 3 0 rfl rfl (by omega) (by decide) xj_M_isCircle_44 ?_
          refine xr_top (y := nI (q (i + 1) - 1)) hD9.1 ?_
          refine xr_iadd hx hb xj_M_isCircle_45 ?_
          refine xr_zald hx hb hK.1 hP 2 1 rfl rfl (by omega) (by decide) xj_M_isCircle_46 ?_
          refine xr_top (y := xf_bI (bd ((13 * (q i - 1)) + (q (i + 1) - 1)))) rfl ?_
          refine xr_ifeq (tgt := 54) hx hb xj_M_isCircle_47 rfl (fun h47 => ?_) (fun h47 => ?_)
          · -- 54
            refine lv_iconst (v := nI 0) hx hb xj_M_isCircle_54 (by decide) ?_
            refine lv_istore_n (lv' := [(2, .int (nI 0)), (0, .ref m0), (1, .int (nI n0)), (3, .int (nI i))]) hx hb xj_M_isCircle_55 rfl hl (by decide) rfl (fun ls hl => ?_)
            refine lv_iinc (k := 3) (v := nI (i + 1)) (lv' := [(3, .int (nI (i + 1))), (2, .int (nI 0)), (0, .ref m0), (1, .int (nI n0))]) hx hb xj_M_isCircle_56 hl rfl (xr_inc _) (by decide) rfl (fun ls hl => ?_)
            refine lv_goto (tgt := 4) hx hb xj_M_isCircle_59 rfl ?_
            exact ih4 (i + 1) false ls (by omega) (xm_cs (P := (fun i => bd (13 * (q i - 1) + (q (xl_nx n0 i) - 1)))) h10 (by show bd (13 * (q i - 1) + (q (xl_nx n0 i) - 1)) = _; rw [xl_nx_lt (by omega)]; exact h47) hr) (lv_sub hl [2, 3, 1, 0] rfl)
          · -- 50
            refine lv_iconst (v := nI 1) hx hb xj_M_isCircle_50 (by decide) ?_
            refine lv_goto (tgt := 55) hx hb xj_M_isCircle_51 rfl ?_
            refine lv_istore_n (lv' := [(2, .int (nI 1)), (0, .ref m0), (1, .int (nI n0)), (3, .int (nI i))]) hx hb xj_M_isCircle_55 rfl hl (by decide) rfl (fun ls hl => ?_)
            refine lv_iinc (k := 3) (v := nI (i + 1)) (lv' := [(3, .int (nI (i + 1))), (2, .int (nI 1)), (0, .ref m0), (1, .int (nI n0))]) hx hb xj_M_isCircle_56 hl rfl (xr_inc _) (by decide) rfl (fun ls hl => ?_)
            refine lv_goto (tgt := 4) hx hb xj_M_isCircle_59 rfl ?_
            exact ih4 (i + 1) true ls (by omega) (xm_cs (P := (fun i => bd (13 * (q i - 1) + (q (xl_nx n0 i) - 1)))) h10 (by show bd (13 * (q i - 1) + (q (xl_nx n0 i) - 1)) = _; rw [xl_nx_lt (by omega)]; exact h47) hr) (lv_sub hl [2, 3, 1, 0] rfl)
  exact loop4 n0 0 false ls (by omega) rfl (lv_sub hl [2, 3, 1, 0] rfl)
