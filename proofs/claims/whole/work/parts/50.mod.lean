/-! walks: fractions, days to leave out -/
set_option maxRecDepth 100000 in
set_option maxHeartbeats 4000000 in
theorem xt_M_failsAbove (l : Launch) (D : va_G) (cI cZ cJ : ClassId) (m0 m1 m2 m3 m4 m5 m6 m7 m8 m9 m10 : Nat) (cd : Int32) (gc dc : Nat) (P : Nat → Int32) (A0 : Nat → Int32) (gd : Nat → Bool) (bd : Nat → Bool) (ch : Nat → Bool) (st : Nat → Int32) (lf : Nat → Bool) (up dn : Int32) (hg : gc ≤ 6) (hd : dc ≤ 12) : xc_Wi l xy_M_failsAbove xb_M_failsAbove 6 .boolean 3 0 0 [.ref m0, .int up, .int dn] D cI cZ cJ [(m0, .inr (6, [.int cd, .int (nI gc), .int (nI dc), .ref m1, .ref m2, .ref m3, .ref m4, .ref m5, .ref m6, .ref m7, .ref m8, .ref m9, .ref m10])), (m1, .inl (cI, 78, .inl P)), (m2, .inl (cI, 78, .inl A0)), (m5, .inl (cZ, 169, .inl (xf_z gd))), (m6, .inl (cZ, 169, .inl (xf_z bd))), (m7, .inl (cZ, 169, .inl (xf_z ch))), (m8, .inl (cI, 169, .inl st)), (m9, .inl (cZ, 13, .inl (xf_z lf)))] ((Nat → Bool) × (Nat → Bool) × (Nat → Bool) × (Nat → Int32) × (Nat → Bool)) (fun r _ => r = xf_bI (xm_fb (xk_c gc P A0) dc up dn)) (fun u => [(m0, .inr (6, [.int cd, .int (nI gc), .int (nI dc), .ref m1, .ref m2, .ref m3, .ref m4, .ref m5, .ref m6, .ref m7, .ref m8, .ref m9, .ref m10])), (m1, .inl (cI, 78, .inl P)), (m2, .inl (cI, 78, .inl A0)), (m5, .inl (cZ, 169, .inl (xf_z u.1))), (m6, .inl (cZ, 169, .inl (xf_z u.2.1))), (m7, .inl (cZ, 169, .inl (xf_z u.2.2.1))), (m8, .inl (cI, 169, .inl u.2.2.2.1)), (m9, .inl (cZ, 13, .inl (xf_z u.2.2.2.2)))]) := by
  refine xc_Wi_of (by decide) (Nat.le_of_ble_eq_true rfl) ?_
  intro p e s m args below meth c Q ls A hAt hP hK hD hA hS hl hret
  obtain ⟨hx, hb, hml, hown, hts, hgs, hlk⟩ := id hAt
  have hT : ∀ w ∈ xw_g, w ∈ xc_ws xy_M_failsAbove xb_M_failsAbove 6 (some .boolean) := fun w h => List.mem_cons_of_mem _ h
  have hown : s.vm.findClass "WishLedgerModel" = some m.cls := hown
  obtain ⟨H, hH0⟩ : ∃ H, H = s.heap := ⟨_, rfl⟩
  obtain ⟨locs, hL0⟩ : ∃ locs : List Loc, locs = [] := ⟨_, rfl⟩
  have hP : va_P D xn_cl [(m0, .inr (6, [.int cd, .int (nI gc), .int (nI dc), .ref m1, .ref m2, .ref m3, .ref m4, .ref m5, .ref m6, .ref m7, .ref m8, .ref m9, .ref m10])), (m1, .inl (cI, 78, .inl P)), (m2, .inl (cI, 78, .inl A0)), (m5, .inl (cZ, 169, .inl (xf_z gd))), (m6, .inl (cZ, 169, .inl (xf_z bd))), (m7, .inl (cZ, 169, .inl (xf_z ch))), (m8, .inl (cI, 169, .inl st)), (m9, .inl (cZ, 13, .inl (xf_z lf)))] H := by rw [hH0]; exact hP
  have hS : va_S A s.heap H locs := by rw [hH0, hL0]; exact hS
  suffices hgo : W p l e (xc_rm 3 0 0) s m args below meth c H locs 0 0 Q (F0 m 0 ls []) by rw [hH0, hL0] at hgo; exact hgo
  clear hH0 hL0
  have hl : lv_has ls 6 [(0, .ref m0), (1, .int up), (2, .int dn)] := hl
  refine lv_iconst (v := nI 0) hx hb xj_M_failsAbove_0 (by decide) ?_
  refine lv_istore_n (lv' := [(3, .int (nI 0)), (0, .ref m0), (1, .int up), (2, .int dn)]) hx hb xj_M_failsAbove_1 rfl hl (by decide) rfl (fun ls hl => ?_)
  have loop2 : ∀ (n : Nat) (i : Nat) (g2 : Nat → Bool) (b2 : Nat → Bool) (l2 : Nat → Bool) (ls : Array Slot) (H : Heap) (locs : List Loc), i + n = dc → (xm_fr (xm_fa (xk_c gc P A0) up dn) dc n i g2 = xm_fr (xm_fa (xk_c gc P A0) up dn) dc dc 0 gd) → (xm_fr (xm_fa (xk_c gc P A0) up dn) dc n i b2 = xm_fr (xm_fa (xk_c gc P A0) up dn) dc dc 0 bd) → (xm_f1 (fun _ => true) n i l2 = xm_L dc lf) → lv_has ls 6 [(0, .ref m0), (1, .int up), (2, .int dn), (3, .int (nI i))] → va_P D xn_cl [(m0, .inr (6, [.int cd, .int (nI gc), .int (nI dc), .ref m1, .ref m2, .ref m3, .ref m4, .ref m5, .ref m6, .ref m7, .ref m8, .ref m9, .ref m10])), (m1, .inl (cI, 78, .inl P)), (m2, .inl (cI, 78, .inl A0)), (m5, .inl (cZ, 169, .inl (xf_z g2))), (m6, .inl (cZ, 169, .inl (xf_z b2))), (m7, .inl (cZ, 169, .inl (xf_z ch))), (m8, .inl (cI, 169, .inl st)), (m9, .inl (cZ, 13, .inl (xf_z l2)))] H → va_D A [(m0, .inr (6, [.int cd, .int (nI gc), .int (nI dc), .ref m1, .ref m2, .ref m3, .ref m4, .ref m5, .ref m6, .ref m7, .ref m8, .ref m9, .ref m10])), (m1, .inl (cI, 78, .inl P)), (m2, .inl (cI, 78, .inl A0)), (m5, .inl (cZ, 169, .inl (xf_z g2))), (m6, .inl (cZ, 169, .inl (xf_z b2))), (m7, .inl (cZ, 169, .inl (xf_z ch))), (m8, .inl (cI, 169, .inl st)), (m9, .inl (cZ, 13, .inl (xf_z l2)))] → va_S A s.heap H locs → W p l e (xc_rm 3 0 0) s m args below meth c H locs 0 0 Q (F0 m 2 ls []) := by
    intro n
    induction n with
    | zero =>
      intro i g2 b2 l2 ls H locs hi2 hg1 hb1 hl1 hl hP hD hS
      refine lv_iload_n hx hb xj_M_failsAbove_2 rfl (lv_at hl 3 rfl) ?_
      refine lv_aload_n hx hb xj_M_failsAbove_3 rfl (lv_at hl 0 rfl) ?_
      refine va_get (D := D) (ci := 6) (v := .int (nI dc)) (C := xn_M) (T := xn_TM) (N := 13) hx hb hgs xw_uM hown hK.1 hP 0 rfl rfl 2 (by decide) (hgs _ xw_532) (fun _ h9 => h9) rfl xj_M_failsAbove_4 ?_
      refine xr_ge (tgt := 116) hx hb (by omega) (by omega) xj_M_failsAbove_7 rfl (fun h7 => ?_) (fun h7 => absurd h7 (by omega))
      obtain rfl : g2 = _ := hg1
      obtain rfl : b2 = _ := hb1
      obtain rfl : l2 = _ := hl1
      refine lv_aload_n hx hb xj_M_failsAbove_116 rfl (lv_at hl 0 rfl) ?_
      refine lv_aload_n hx hb xj_M_failsAbove_117 rfl (lv_at hl 0 rfl) ?_
      refine va_get (D := D) (ci := 6) (v := .int (nI dc)) (C := xn_M) (T := xn_TM) (N := 13) hx hb hgs xw_uM hown hK.1 hP 0 rfl rfl 2 (by decide) (hgs _ xw_532) (fun _ h9 => h9) rfl xj_M_failsAbove_118 ?_
      refine xc_wVi (av := [.int (nI dc)]) (rest := []) (wr := [(m1, .inl (cI, 78, .inl P)), (m2, .inl (cI, 78, .inl A0))]) hAt hT (xt_M_isFine l D cI cZ cJ m0 m1 m2 m3 m4 m5 m6 m7 m8 m9 m10 cd gc dc (xm_fr (xm_fa (xk_c gc P A0) up dn) dc dc 0 gd) (xm_fr (xm_fa (xk_c gc P A0) up dn) dc dc 0 bd) ch st (xm_L dc lf) dc (by omega)) xw_638 xw_7 xw_641 xw_640 xs_M_isFine (C0 := xn_M) (q0 := 0) rfl rfl (na := 1) rfl (by decide +kernel) ⟨Nat.le_of_ble_eq_true rfl, Nat.le_of_ble_eq_true rfl⟩ hP hD hS hA [0, 3, 4, 5, 6, 7] [1, 2] rfl rfl (by decide) (by decide) (by decide) hK hl.1 (Nat.le_of_ble_eq_true rfl) ⟨Nat.zero_le _, Nat.zero_le _⟩ xj_M_failsAbove_121 (fun r121 _ H locs hr121 hP hD hS => ?_)
      obtain rfl : r121 = xf_bI (!xm_nf dc (xm_L dc lf) (xm_fr (xm_fa (xk_c gc P A0) up dn) dc dc 0 bd) (xm_K dc (xm_L dc lf) (xm_fr (xm_fa (xk_c gc P A0) up dn) dc dc 0 gd) ch st).1) := hr121
      have hP : va_P D xn_cl [(m0, .inr (6, [.int cd, .int (nI gc), .int (nI dc), .ref m1, .ref m2, .ref m3, .ref m4, .ref m5, .ref m6, .ref m7, .ref m8, .ref m9, .ref m10])), (m1, .inl (cI, 78, .inl P)), (m2, .inl (cI, 78, .inl A0)), (m5, .inl (cZ, 169, .inl (xf_z (xm_fr (xm_fa (xk_c gc P A0) up dn) dc dc 0 gd)))), (m6, .inl (cZ, 169, .inl (xf_z (xm_fr (xm_fa (xk_c gc P A0) up dn) dc dc 0 bd)))), (m7, .inl (cZ, 169, .inl (xf_z ((xm_K dc (xm_L dc lf) (xm_fr (xm_fa (xk_c gc P A0) up dn) dc dc 0 gd) ch st).1)))), (m8, .inl (cI, 169, .inl ((xm_K dc (xm_L dc lf) (xm_fr (xm_fa (xk_c gc P A0) up dn) dc dc 0 gd) ch st).2.1))), (m9, .inl (cZ, 13, .inl (xf_z (xm_L dc lf))))] H := va_P.sub hP [2, 0, 1, 3, 4, 5, 6, 7] rfl
      have hD : va_D A [(m0, .inr (6, [.int cd, .int (nI gc), .int (nI dc), .ref m1, .ref m2, .ref m3, .ref m4, .ref m5, .ref m6, .ref m7, .ref m8, .ref m9, .ref m10])), (m1, .inl (cI, 78, .inl P)), (m2, .inl (cI, 78, .inl A0)), (m5, .inl (cZ, 169, .inl (xf_z (xm_fr (xm_fa (xk_c gc P A0) up dn) dc dc 0 gd)))), (m6, .inl (cZ, 169, .inl (xf_z (xm_fr (xm_fa (xk_c gc P A0) up dn) dc dc 0 bd)))), (m7, .inl (cZ, 169, .inl (xf_z ((xm_K dc (xm_L dc lf) (xm_fr (xm_fa (xk_c gc P A0) up dn) dc dc 0 gd) ch st).1)))), (m8, .inl (cI, 169, .inl ((xm_K dc (xm_L dc lf) (xm_fr (xm_fa (xk_c gc P A0) up dn) dc dc 0 gd) ch st).2.1))), (m9, .inl (cZ, 13, .inl (xf_z (xm_L dc lf))))] := va_D.sub hD [2, 0, 1, 3, 4, 5, 6, 7] (by decide) rfl
      refine xr_ifne (tgt := 131) hx hb xj_M_failsAbove_124 rfl (fun h124 => ?_) (fun h124 => ?_)
      · -- 131
        refine lv_iconst (v := nI 0) hx hb xj_M_failsAbove_131 (by decide) ?_
        exact hret (nI 0) ((xm_fr (xm_fa (xk_c gc P A0) up dn) dc dc 0 gd, xm_fr (xm_fa (xk_c gc P A0) up dn) dc dc 0 bd, (xm_K dc (xm_L dc lf) (xm_fr (xm_fa (xk_c gc P A0) up dn) dc dc 0 gd) ch st).1, (xm_K dc (xm_L dc lf) (xm_fr (xm_fa (xk_c gc P A0) up dn) dc dc 0 gd) ch st).2.1, xm_L dc lf)) H locs _ ls (by rw [← xm_fb_eq (m := dc) (by omega) (lf := lf) (gd := gd) (bd := bd) (ch := ch) (st := st), show xm_nf dc (xm_L dc lf) (xm_fr (xm_fa (xk_c gc P A0) up dn) dc dc 0 bd) (xm_K dc (xm_L dc lf) (xm_fr (xm_fa (xk_c gc P A0) up dn) dc dc 0 gd) ch st).1 = false from by rw [← Bool.not_not (b := xm_nf dc _ _ _), h124]; rfl]; rfl) (xf_nar_b false) hP hD hS xj_M_failsAbove_132
      · -- 127
        refine lv_iconst (v := nI 1) hx hb xj_M_failsAbove_127 (by decide) ?_
        refine lv_goto (tgt := 132) hx hb xj_M_failsAbove_128 rfl ?_
        exact hret (nI 1) ((xm_fr (xm_fa (xk_c gc P A0) up dn) dc dc 0 gd, xm_fr (xm_fa (xk_c gc P A0) up dn) dc dc 0 bd, (xm_K dc (xm_L dc lf) (xm_fr (xm_fa (xk_c gc P A0) up dn) dc dc 0 gd) ch st).1, (xm_K dc (xm_L dc lf) (xm_fr (xm_fa (xk_c gc P A0) up dn) dc dc 0 gd) ch st).2.1, xm_L dc lf)) H locs _ ls (by rw [← xm_fb_eq (m := dc) (by omega) (lf := lf) (gd := gd) (bd := bd) (ch := ch) (st := st), show xm_nf dc (xm_L dc lf) (xm_fr (xm_fa (xk_c gc P A0) up dn) dc dc 0 bd) (xm_K dc (xm_L dc lf) (xm_fr (xm_fa (xk_c gc P A0) up dn) dc dc 0 gd) ch st).1 = true from by rw [← Bool.not_not (b := xm_nf dc _ _ _), h124]; rfl]; rfl) (xf_nar_b true) hP hD hS xj_M_failsAbove_132
    | succ n ih2 =>
      intro i g2 b2 l2 ls H locs hi2 hg1 hb1 hl1 hl hP hD hS
      refine lv_iload_n hx hb xj_M_failsAbove_2 rfl (lv_at hl 3 rfl) ?_
      refine lv_aload_n hx hb xj_M_failsAbove_3 rfl (lv_at hl 0 rfl) ?_
      refine va_get (D := D) (ci := 6) (v := .int (nI dc)) (C := xn_M) (T := xn_TM) (N := 13) hx hb hgs xw_uM hown hK.1 hP 0 rfl rfl 2 (by decide) (hgs _ xw_532) (fun _ h9 => h9) rfl xj_M_failsAbove_4 ?_
      refine xr_ge (tgt := 116) hx hb (by omega) (by omega) xj_M_failsAbove_7 rfl (fun h7 => absurd h7 (by omega)) (fun h7 => ?_)
      refine lv_aload_n hx hb xj_M_failsAbove_10 rfl (lv_at hl 0 rfl) ?_
      refine va_get (D := D) (ci := 6) (v := .ref m9) (C := xn_M) (T := xn_TM) (N := 13) hx hb hgs xw_uM hown hK.1 hP 0 rfl rfl 11 (by decide) (hgs _ xw_541) (fun _ h9 => h9) rfl xj_M_failsAbove_11 ?_
      refine lv_iload_n hx hb xj_M_failsAbove_14 rfl (lv_at hl 3 rfl) ?_
      refine lv_iconst (v := nI 1) hx hb xj_M_failsAbove_15 (by decide) ?_
      refine xr_topz (b := true) rfl ?_
      refine xr_zast hx hb hK.1 hP hD hS 7 1 rfl rfl (by omega) (by decide) xj_M_failsAbove_16 (fun H locs hP hD hS => ?_)
      rw [xf_z_up] at hP hD
      have hP : va_P D xn_cl [(m0, .inr (6, [.int cd, .int (nI gc), .int (nI dc), .ref m1, .ref m2, .ref m3, .ref m4, .ref m5, .ref m6, .ref m7, .ref m8, .ref m9, .ref m10])), (m1, .inl (cI, 78, .inl P)), (m2, .inl (cI, 78, .inl A0)), (m5, .inl (cZ, 169, .inl (xf_z g2))), (m6, .inl (cZ, 169, .inl (xf_z b2))), (m7, .inl (cZ, 169, .inl (xf_z ch))), (m8, .inl (cI, 169, .inl st)), (m9, .inl (cZ, 13, .inl (xf_z (va_up l2 i true))))] H := hP
      have hD : va_D A [(m0, .inr (6, [.int cd, .int (nI gc), .int (nI dc), .ref m1, .ref m2, .ref m3, .ref m4, .ref m5, .ref m6, .ref m7, .ref m8, .ref m9, .ref m10])), (m1, .inl (cI, 78, .inl P)), (m2, .inl (cI, 78, .inl A0)), (m5, .inl (cZ, 169, .inl (xf_z g2))), (m6, .inl (cZ, 169, .inl (xf_z b2))), (m7, .inl (cZ, 169, .inl (xf_z ch))), (m8, .inl (cI, 169, .inl st)), (m9, .inl (cZ, 13, .inl (xf_z (va_up l2 i true))))] := hD
      refine lv_iconst (v := nI 0) hx hb xj_M_failsAbove_17 (by decide) ?_
      refine lv_istore (lv' := [(4, .int (nI 0)), (0, .ref m0), (1, .int up), (2, .int dn), (3, .int (nI i))]) hx hb xj_M_failsAbove_18 hl (by decide) rfl (fun ls hl => ?_)
      have loop20 : ∀ (k : Nat) (j : Nat) (g3 : Nat → Bool) (b3 : Nat → Bool) (ls : Array Slot) (H : Heap) (locs : List Loc), j + k = dc → (xm_f2 (xm_fa (xk_c gc P A0) up dn i) (13 * i) k j g3 = xm_f2 (xm_fa (xk_c gc P A0) up dn i) (13 * i) dc 0 g2) → (xm_f2 (xm_fa (xk_c gc P A0) up dn i) (13 * i) k j b3 = xm_f2 (xm_fa (xk_c gc P A0) up dn i) (13 * i) dc 0 b2) → lv_has ls 6 [(0, .ref m0), (1, .int up), (2, .int dn), (3, .int (nI i)), (4, .int (nI j))] → va_P D xn_cl [(m0, .inr (6, [.int cd, .int (nI gc), .int (nI dc), .ref m1, .ref m2, .ref m3, .ref m4, .ref m5, .ref m6, .ref m7, .ref m8, .ref m9, .ref m10])), (m1, .inl (cI, 78, .inl P)), (m2, .inl (cI, 78, .inl A0)), (m5, .inl (cZ, 169, .inl (xf_z g3))), (m6, .inl (cZ, 169, .inl (xf_z b3))), (m7, .inl (cZ, 169, .inl (xf_z ch))), (m8, .inl (cI, 169, .inl st)), (m9, .inl (cZ, 13, .inl (xf_z (va_up l2 i true))))] H → va_D A [(m0, .inr (6, [.int cd, .int (nI gc), .int (nI dc), .ref m1, .ref m2, .ref m3, .ref m4, .ref m5, .ref m6, .ref m7, .ref m8, .ref m9, .ref m10])), (m1, .inl (cI, 78, .inl P)), (m2, .inl (cI, 78, .inl A0)), (m5, .inl (cZ, 169, .inl (xf_z g3))), (m6, .inl (cZ, 169, .inl (xf_z b3))), (m7, .inl (cZ, 169, .inl (xf_z ch))), (m8, .inl (cI, 169, .inl st)), (m9, .inl (cZ, 13, .inl (xf_z (va_up l2 i true))))] → va_S A s.heap H locs → W p l e (xc_rm 3 0 0) s m args below meth c H locs 0 0 Q (F0 m 20 ls []) := by
        intro k
        induction k with
        | zero =>
          intro j g3 b3 ls H locs hi20 hg2 hb2 hl hP hD hS
          refine lv_iload hx hb xj_M_failsAbove_20 (lv_at hl 4 rfl) ?_
          refine lv_aload_n hx hb xj_M_failsAbove_22 rfl (lv_at hl 0 rfl) ?_
          refine va_get (D := D) (ci := 6) (v := .int (nI dc)) (C := xn_M) (T := xn_TM) (N := 13) hx hb hgs xw_uM hown hK.1 hP 0 rfl rfl 2 (by decide) (hgs _ xw_532) (fun _ h9 => h9) rfl xj_M_failsAbove_23 ?_
          refine xr_ge (tgt := 110) hx hb (by omega) (by omega) xj_M_failsAbove_26 rfl (fun h26 => ?_) (fun h26 => absurd h26 (by omega))
          refine lv_iinc (k := 3) (v := nI (i + 1)) (lv' := [(3, .int (nI (i + 1))), (0, .ref m0), (1, .int up), (2, .int dn), (4, .int (nI j))]) hx hb xj_M_failsAbove_110 hl rfl (xr_inc _) (by decide) rfl (fun ls hl => ?_)
          refine lv_goto (tgt := 2) hx hb xj_M_failsAbove_113 rfl ?_
          exact ih2 (i + 1) g3 b3 ((va_up l2 i true)) ls _ _ (by omega) (by rw [show g3 = _ from hg2]; exact hg1) (by rw [show b3 = _ from hb2]; exact hb1) hl1 (lv_sub hl [1, 2, 3, 0] rfl) hP hD hS
        | succ k ih20 =>
          intro j g3 b3 ls H locs hi20 hg2 hb2 hl hP hD hS
          refine lv_iload hx hb xj_M_failsAbove_20 (lv_at hl 4 rfl) ?_
          refine lv_aload_n hx hb xj_M_failsAbove_22 rfl (lv_at hl 0 rfl) ?_
          refine va_get (D := D) (ci := 6) (v := .int (nI dc)) (C := xn_M) (T := xn_TM) (N := 13) hx hb hgs xw_uM hown hK.1 hP 0 rfl rfl 2 (by decide) (hgs _ xw_532) (fun _ h9 => h9) rfl xj_M_failsAbove_23 ?_
          refine xr_ge (tgt := 110) hx hb (by omega) (by omega) xj_M_failsAbove_26 rfl (fun h26 => absurd h26 (by omega)) (fun h26 => ?_)
          refine lv_iload_n hx hb xj_M_failsAbove_29 rfl (lv_at hl 3 rfl) ?_
          refine lv_iload hx hb xj_M_failsAbove_30 (lv_at hl 4 rfl) ?_
          refine xr_eq (tgt := 73) hx hb (by omega) (by omega) xj_M_failsAbove_32 rfl (fun h32 => ?_) (fun h32 => ?_)
          · -- 73
            refine lv_iconst (v := nI 0) hx hb xj_M_failsAbove_73 (by decide) ?_
            refine lv_istore (lv' := [(5, .int (nI 0)), (0, .ref m0), (1, .int up), (2, .int dn), (3, .int (nI i)), (4, .int (nI j))]) hx hb xj_M_failsAbove_74 hl (by decide) rfl (fun ls hl => ?_)
            refine lv_aload_n hx hb xj_M_failsAbove_76 rfl (lv_at hl 1 rfl) ?_
            refine va_get (D := D) (ci := 6) (v := .ref m5) (C := xn_M) (T := xn_TM) (N := 13) hx hb hgs xw_uM hown hK.1 hP 0 rfl rfl 7 (by decide) (hgs _ xw_537) (fun _ h9 => h9) rfl xj_M_failsAbove_77 ?_
            refine lv_bipush (v := nI 13) hx hb xj_M_failsAbove_80 (by decide) ?_
            refine lv_iload_n hx hb xj_M_failsAbove_82 rfl (lv_at hl 4 rfl) ?_
            refine xr_imul hx hb xj_M_failsAbove_83 ?_
            refine lv_iload hx hb xj_M_failsAbove_84 (lv_at hl 5 rfl) ?_
            refine xr_iadd hx hb xj_M_failsAbove_86 ?_
            refine lv_iload hx hb xj_M_failsAbove_87 (lv_at hl 0 rfl) ?_
            refine xr_topz (b := false) rfl ?_
            refine xr_zast hx hb hK.1 hP hD hS 3 1 rfl rfl (by omega) (by decide) xj_M_failsAbove_89 (fun H locs hP hD hS => ?_)
            rw [xf_z_up] at hP hD
            have hP : va_P D xn_cl [(m0, .inr (6, [.int cd, .int (nI gc), .int (nI dc), .ref m1, .ref m2, .ref m3, .ref m4, .ref m5, .ref m6, .ref m7, .ref m8, .ref m9, .ref m10])), (m1, .inl (cI, 78, .inl P)), (m2, .inl (cI, 78, .inl A0)), (m5, .inl (cZ, 169, .inl (xf_z (va_up g3 ((13 * i) + j) false)))), (m6, .inl (cZ, 169, .inl (xf_z b3))), (m7, .inl (cZ, 169, .inl (xf_z ch))), (m8, .inl (cI, 169, .inl st)), (m9, .inl (cZ, 13, .inl (xf_z (va_up l2 i true))))] H := hP
            have hD : va_D A [(m0, .inr (6, [.int cd, .int (nI gc), .int (nI dc), .ref m1, .ref m2, .ref m3, .ref m4, .ref m5, .ref m6, .ref m7, .ref m8, .ref m9, .ref m10])), (m1, .inl (cI, 78, .inl P)), (m2, .inl (cI, 78, .inl A0)), (m5, .inl (cZ, 169, .inl (xf_z (va_up g3 ((13 * i) + j) false)))), (m6, .inl (cZ, 169, .inl (xf_z b3))), (m7, .inl (cZ, 169, .inl (xf_z ch))), (m8, .inl (cI, 169, .inl st)), (m9, .inl (cZ, 13, .inl (xf_z (va_up l2 i true))))] := hD
            refine lv_aload_n hx hb xj_M_failsAbove_90 rfl (lv_at hl 1 rfl) ?_
            refine va_get (D := D) (ci := 6) (v := .ref m6) (C := xn_M) (T := xn_TM) (N := 13) hx hb hgs xw_uM hown hK.1 hP 0 rfl rfl 8 (by decide) (hgs _ xw_538) (fun _ h9 => h9) rfl xj_M_failsAbove_91 ?_
            refine lv_bipush (v := nI 13) hx hb xj_M_failsAbove_94 (by decide) ?_
            refine lv_iload_n hx hb xj_M_failsAbove_96 rfl (lv_at hl 4 rfl) ?_
            refine xr_imul hx hb xj_M_failsAbove_97 ?_
            refine lv_iload hx hb xj_M_failsAbove_98 (lv_at hl 5 rfl) ?_
            refine xr_iadd hx hb xj_M_failsAbove_100 ?_
            refine lv_iload hx hb xj_M_failsAbove_101 (lv_at hl 0 rfl) ?_
            refine xr_topz (b := false) rfl ?_
            refine xr_zast hx hb hK.1 hP hD hS 4 1 rfl rfl (by omega) (by decide) xj_M_failsAbove_103 (fun H locs hP hD hS => ?_)
            rw [xf_z_up] at hP hD
            have hP : va_P D xn_cl [(m0, .inr (6, [.int cd, .int (nI gc), .int (nI dc), .ref m1, .ref m2, .ref m3, .ref m4, .ref m5, .ref m6, .ref m7, .ref m8, .ref m9, .ref m10])), (m1, .inl (cI, 78, .inl P)), (m2, .inl (cI, 78, .inl A0)), (m5, .inl (cZ, 169, .inl (xf_z (va_up g3 ((13 * i) + j) false)))), (m6, .inl (cZ, 169, .inl (xf_z (va_up b3 ((13 * i) + j) false)))), (m7, .inl (cZ, 169, .inl (xf_z ch))), (m8, .inl (cI, 169, .inl st)), (m9, .inl (cZ, 13, .inl (xf_z (va_up l2 i true))))] H := hP
            have hD : va_D A [(m0, .inr (6, [.int cd, .int (nI gc), .int (nI dc), .ref m1, .ref m2, .ref m3, .ref m4, .ref m5, .ref m6, .ref m7, .ref m8, .ref m9, .ref m10])), (m1, .inl (cI, 78, .inl P)), (m2, .inl (cI, 78, .inl A0)), (m5, .inl (cZ, 169, .inl (xf_z (va_up g3 ((13 * i) + j) false)))), (m6, .inl (cZ, 169, .inl (xf_z (va_up b3 ((13 * i) + j) false)))), (m7, .inl (cZ, 169, .inl (xf_z ch))), (m8, .inl (cI, 169, .inl st)), (m9, .inl (cZ, 13, .inl (xf_z (va_up l2 i true))))] := hD
            refine lv_iinc (k := 5) (v := nI (j + 1)) (lv' := [(4, .int (nI (j + 1))), (5, .int (nI 0)), (0, .ref m0), (1, .int up), (2, .int dn), (3, .int (nI i))]) hx hb xj_M_failsAbove_104 hl rfl (xr_inc _) (by decide) rfl (fun ls hl => ?_)
            refine lv_goto (tgt := 20) hx hb xj_M_failsAbove_107 rfl ?_
            exact ih20 (j + 1) ((va_up g3 ((13 * i) + j) false)) ((va_up b3 ((13 * i) + j) false)) ls _ _ (by omega) ((xm_f2_s (f := xm_fa (xk_c gc P A0) up dn i) (xm_fa_1 h32)).symm.trans hg2) ((xm_f2_s (f := xm_fa (xk_c gc P A0) up dn i) (xm_fa_1 h32)).symm.trans hb2) (lv_sub hl [2, 3, 4, 5, 0] rfl) hP hD hS
          · -- 35
            refine lv_aload_n hx hb xj_M_failsAbove_35 rfl (lv_at hl 0 rfl) ?_
            refine lv_iload_n hx hb xj_M_failsAbove_36 rfl (lv_at hl 3 rfl) ?_
            refine lv_iload_n hx hb xj_M_failsAbove_37 rfl (lv_at hl 3 rfl) ?_
            refine xc_callV (av := [.int (nI i), .int (nI i)]) (rest := []) hAt hT (xt_M_costs l D cI cZ cJ m0 m1 m2 m3 m4 m5 m6 m7 m8 m9 m10 cd gc dc P A0 i i (by omega) (by omega) (by omega)) xw_606 xw_7 xw_609 xw_608 xs_M_costs (C0 := xn_M) (q0 := 0) rfl rfl (na := 2) rfl (by decide +kernel) ⟨Nat.le_of_ble_eq_true rfl, Nat.le_of_ble_eq_true rfl⟩ (hP.sub (ws' := [(m0, .inr (6, [.int cd, .int (nI gc), .int (nI dc), .ref m1, .ref m2, .ref m3, .ref m4, .ref m5, .ref m6, .ref m7, .ref m8, .ref m9, .ref m10])), (m1, .inl (cI, 78, .inl P)), (m2, .inl (cI, 78, .inl A0))]) [0, 1, 2] rfl) hK hl.1 (Nat.le_of_ble_eq_true rfl) ⟨Nat.zero_le _, Nat.zero_le _⟩ xj_M_failsAbove_38 ?_
            refine lv_if_le (tgt := 73) hx hb xj_M_failsAbove_41 rfl (fun h41 => ?_) (fun h41 => ?_)
            · -- 73
              refine lv_iconst (v := nI 0) hx hb xj_M_failsAbove_73 (by decide) ?_
              refine lv_istore (lv' := [(5, .int (nI 0)), (0, .ref m0), (1, .int up), (2, .int dn), (3, .int (nI i)), (4, .int (nI j))]) hx hb xj_M_failsAbove_74 hl (by decide) rfl (fun ls hl => ?_)
              refine lv_aload_n hx hb xj_M_failsAbove_76 rfl (lv_at hl 1 rfl) ?_
              refine va_get (D := D) (ci := 6) (v := .ref m5) (C := xn_M) (T := xn_TM) (N := 13) hx hb hgs xw_uM hown hK.1 hP 0 rfl rfl 7 (by decide) (hgs _ xw_537) (fun _ h9 => h9) rfl xj_M_failsAbove_77 ?_
              refine lv_bipush (v := nI 13) hx hb xj_M_failsAbove_80 (by decide) ?_
              refine lv_iload_n hx hb xj_M_failsAbove_82 rfl (lv_at hl 4 rfl) ?_
              refine xr_imul hx hb xj_M_failsAbove_83 ?_
              refine lv_iload hx hb xj_M_failsAbove_84 (lv_at hl 5 rfl) ?_
              refine xr_iadd hx hb xj_M_failsAbove_86 ?_
              refine lv_iload hx hb xj_M_failsAbove_87 (lv_at hl 0 rfl) ?_
              refine xr_topz (b := false) rfl ?_
              refine xr_zast hx hb hK.1 hP hD hS 3 1 rfl rfl (by omega) (by decide) xj_M_failsAbove_89 (fun H locs hP hD hS => ?_)
              rw [xf_z_up] at hP hD
              have hP : va_P D xn_cl [(m0, .inr (6, [.int cd, .int (nI gc), .int (nI dc), .ref m1, .ref m2, .ref m3, .ref m4, .ref m5, .ref m6, .ref m7, .ref m8, .ref m9, .ref m10])), (m1, .inl (cI, 78, .inl P)), (m2, .inl (cI, 78, .inl A0)), (m5, .inl (cZ, 169, .inl (xf_z (va_up g3 ((13 * i) + j) false)))), (m6, .inl (cZ, 169, .inl (xf_z b3))), (m7, .inl (cZ, 169, .inl (xf_z ch))), (m8, .inl (cI, 169, .inl st)), (m9, .inl (cZ, 13, .inl (xf_z (va_up l2 i true))))] H := hP
              have hD : va_D A [(m0, .inr (6, [.int cd, .int (nI gc), .int (nI dc), .ref m1, .ref m2, .ref m3, .ref m4, .ref m5, .ref m6, .ref m7, .ref m8, .ref m9, .ref m10])), (m1, .inl (cI, 78, .inl P)), (m2, .inl (cI, 78, .inl A0)), (m5, .inl (cZ, 169, .inl (xf_z (va_up g3 ((13 * i) + j) false)))), (m6, .inl (cZ, 169, .inl (xf_z b3))), (m7, .inl (cZ, 169, .inl (xf_z ch))), (m8, .inl (cI, 169, .inl st)), (m9, .inl (cZ, 13, .inl (xf_z (va_up l2 i true))))] := hD
              refine lv_aload_n hx hb xj_M_failsAbove_90 rfl (lv_at hl 1 rfl) ?_
              refine va_get (D := D) (ci := 6) (v := .ref m6) (C := xn_M) (T := xn_TM) (N := 13) hx hb hgs xw_uM hown hK.1 hP 0 rfl rfl 8 (by decide) (hgs _ xw_538) (fun _ h9 => h9) rfl xj_M_failsAbove_91 ?_
              refine lv_bipush (v := nI 13) hx hb xj_M_failsAbove_94 (by decide) ?_
              refine lv_iload_n hx hb xj_M_failsAbove_96 rfl (lv_at hl 4 rfl) ?_
              refine xr_imul hx hb xj_M_failsAbove_97 ?_
              refine lv_iload hx hb xj_M_failsAbove_98 (lv_at hl 5 rfl) ?_
              refine xr_iadd hx hb xj_M_failsAbove_100 ?_
              refine lv_iload hx hb xj_M_failsAbove_101 (lv_at hl 0 rfl) ?_
              refine xr_topz (b := false) rfl ?_
              refine xr_zast hx hb hK.1 hP hD hS 4 1 rfl rfl (by omega) (by decide) xj_M_failsAbove_103 (fun H locs hP hD hS => ?_)
              rw [xf_z_up] at hP hD
              have hP : va_P D xn_cl [(m0, .inr (6, [.int cd, .int (nI gc), .int (nI dc), .ref m1, .ref m2, .ref m3, .ref m4, .ref m5, .ref m6, .ref m7, .ref m8, .ref m9, .ref m10])), (m1, .inl (cI, 78, .inl P)), (m2, .inl (cI, 78, .inl A0)), (m5, .inl (cZ, 169, .inl (xf_z (va_up g3 ((13 * i) + j) false)))), (m6, .inl (cZ, 169, .inl (xf_z (va_up b3 ((13 * i) + j) false)))), (m7, .inl (cZ, 169, .inl (xf_z ch))), (m8, .inl (cI, 169, .inl st)), (m9, .inl (cZ, 13, .inl (xf_z (va_up l2 i true))))] H := hP
              have hD : va_D A [(m0, .inr (6, [.int cd, .int (nI gc), .int (nI dc), .ref m1, .ref m2, .ref m3, .ref m4, .ref m5, .ref m6, .ref m7, .ref m8, .ref m9, .ref m10])), (m1, .inl (cI, 78, .inl P)), (m2, .inl (cI, 78, .inl A0)), (m5, .inl (cZ, 169, .inl (xf_z (va_up g3 ((13 * i) + j) false)))), (m6, .inl (cZ, 169, .inl (xf_z (va_up b3 ((13 * i) + j) false)))), (m7, .inl (cZ, 169, .inl (xf_z ch))), (m8, .inl (cI, 169, .inl st)), (m9, .inl (cZ, 13, .inl (xf_z (va_up l2 i true))))] := hD
              refine lv_iinc (k := 5) (v := nI (j + 1)) (lv' := [(4, .int (nI (j + 1))), (5, .int (nI 0)), (0, .ref m0), (1, .int up), (2, .int dn), (3, .int (nI i))]) hx hb xj_M_failsAbove_104 hl rfl (xr_inc _) (by decide) rfl (fun ls hl => ?_)
              refine lv_goto (tgt := 20) hx hb xj_M_failsAbove_107 rfl ?_
              exact ih20 (j + 1) ((va_up g3 ((13 * i) + j) false)) ((va_up b3 ((13 * i) + j) false)) ls _ _ (by omega) ((xm_f2_s (f := xm_fa (xk_c gc P A0) up dn i) (xm_fa_2 h41)).symm.trans hg2) ((xm_f2_s (f := xm_fa (xk_c gc P A0) up dn i) (xm_fa_2 h41)).symm.trans hb2) (lv_sub hl [2, 3, 4, 5, 0] rfl) hP hD hS
            · -- 44
              refine lv_aload_n hx hb xj_M_failsAbove_44 rfl (lv_at hl 0 rfl) ?_
              refine lv_iload_n hx hb xj_M_failsAbove_45 rfl (lv_at hl 3 rfl) ?_
              refine lv_iload hx hb xj_M_failsAbove_46 (lv_at hl 4 rfl) ?_
              refine xc_callV (av := [.int (nI i), .int (nI j)]) (rest := []) hAt hT (xt_M_costs l D cI cZ cJ m0 m1 m2 m3 m4 m5 m6 m7 m8 m9 m10 cd gc dc P A0 i j (by omega) (by omega) (by omega)) xw_606 xw_7 xw_609 xw_608 xs_M_costs (C0 := xn_M) (q0 := 0) rfl rfl (na := 2) rfl (by decide +kernel) ⟨Nat.le_of_ble_eq_true rfl, Nat.le_of_ble_eq_true rfl⟩ (hP.sub (ws' := [(m0, .inr (6, [.int cd, .int (nI gc), .int (nI dc), .ref m1, .ref m2, .ref m3, .ref m4, .ref m5, .ref m6, .ref m7, .ref m8, .ref m9, .ref m10])), (m1, .inl (cI, 78, .inl P)), (m2, .inl (cI, 78, .inl A0))]) [0, 1, 2] rfl) hK hl.1 (Nat.le_of_ble_eq_true rfl) ⟨Nat.zero_le _, Nat.zero_le _⟩ xj_M_failsAbove_48 ?_
              refine lv_i2l hx hb xj_M_failsAbove_51 rfl ?_
              refine lv_iload_n hx hb xj_M_failsAbove_52 rfl (lv_at hl 2 rfl) ?_
              refine lv_i2l hx hb xj_M_failsAbove_53 rfl ?_
              refine lv_lmul hx hb xj_M_failsAbove_54 ?_
              refine lv_iload_n hx hb xj_M_failsAbove_55 rfl (lv_at hl 1 rfl) ?_
              refine lv_i2l hx hb xj_M_failsAbove_56 rfl ?_
              refine lv_aload_n hx hb xj_M_failsAbove_57 rfl (lv_at hl 0 rfl) ?_
              refine lv_iload_n hx hb xj_M_failsAbove_58 rfl (lv_at hl 3 rfl) ?_
              refine lv_iload_n hx hb xj_M_failsAbove_59 rfl (lv_at hl 3 rfl) ?_
              refine xc_callV (av := [.int (nI i), .int (nI i)]) (rest := [.long up.toInt64, .long (((xk_c gc P A0 i j).toInt64) * dn.toInt64)]) hAt hT (xt_M_costs l D cI cZ cJ m0 m1 m2 m3 m4 m5 m6 m7 m8 m9 m10 cd gc dc P A0 i i (by omega) (by omega) (by omega)) xw_606 xw_7 xw_609 xw_608 xs_M_costs (C0 := xn_M) (q0 := 0) rfl rfl (na := 2) rfl (by decide +kernel) ⟨Nat.le_of_ble_eq_true rfl, Nat.le_of_ble_eq_true rfl⟩ (hP.sub (ws' := [(m0, .inr (6, [.int cd, .int (nI gc), .int (nI dc), .ref m1, .ref m2, .ref m3, .ref m4, .ref m5, .ref m6, .ref m7, .ref m8, .ref m9, .ref m10])), (m1, .inl (cI, 78, .inl P)), (m2, .inl (cI, 78, .inl A0))]) [0, 1, 2] rfl) hK hl.1 (Nat.le_of_ble_eq_true rfl) ⟨Nat.zero_le _, Nat.zero_le _⟩ xj_M_failsAbove_60 ?_
              refine lv_i2l hx hb xj_M_failsAbove_63 rfl ?_
              refine lv_lmul hx hb xj_M_failsAbove_64 ?_
              refine xr_lgt (tgt := 73) hx hb xj_M_failsAbove_65 xj_M_failsAbove_66 rfl (fun h66 => ?_) (fun h66 => ?_)
              · -- 73
                refine lv_iconst (v := nI 0) hx hb xj_M_failsAbove_73 (by decide) ?_
                refine lv_istore (lv' := [(5, .int (nI 0)), (0, .ref m0), (1, .int up), (2, .int dn), (3, .int (nI i)), (4, .int (nI j))]) hx hb xj_M_failsAbove_74 hl (by decide) rfl (fun ls hl => ?_)
                refine lv_aload_n hx hb xj_M_failsAbove_76 rfl (lv_at hl 1 rfl) ?_
                refine va_get (D := D) (ci := 6) (v := .ref m5) (C := xn_M) (T := xn_TM) (N := 13) hx hb hgs xw_uM hown hK.1 hP 0 rfl rfl 7 (by decide) (hgs _ xw_537) (fun _ h9 => h9) rfl xj_M_failsAbove_77 ?_
                refine lv_bipush (v := nI 13) hx hb xj_M_failsAbove_80 (by decide) ?_
                refine lv_iload_n hx hb xj_M_failsAbove_82 rfl (lv_at hl 4 rfl) ?_
                refine xr_imul hx hb xj_M_failsAbove_83 ?_
                refine lv_iload hx hb xj_M_failsAbove_84 (lv_at hl 5 rfl) ?_
                refine xr_iadd hx hb xj_M_failsAbove_86 ?_
                refine lv_iload hx hb xj_M_failsAbove_87 (lv_at hl 0 rfl) ?_
                refine xr_topz (b := false) rfl ?_
                refine xr_zast hx hb hK.1 hP hD hS 3 1 rfl rfl (by omega) (by decide) xj_M_failsAbove_89 (fun H locs hP hD hS => ?_)
                rw [xf_z_up] at hP hD
                have hP : va_P D xn_cl [(m0, .inr (6, [.int cd, .int (nI gc), .int (nI dc), .ref m1, .ref m2, .ref m3, .ref m4, .ref m5, .ref m6, .ref m7, .ref m8, .ref m9, .ref m10])), (m1, .inl (cI, 78, .inl P)), (m2, .inl (cI, 78, .inl A0)), (m5, .inl (cZ, 169, .inl (xf_z (va_up g3 ((13 * i) + j) false)))), (m6, .inl (cZ, 169, .inl (xf_z b3))), (m7, .inl (cZ, 169, .inl (xf_z ch))), (m8, .inl (cI, 169, .inl st)), (m9, .inl (cZ, 13, .inl (xf_z (va_up l2 i true))))] H := hP
                have hD : va_D A [(m0, .inr (6, [.int cd, .int (nI gc), .int (nI dc), .ref m1, .ref m2, .ref m3, .ref m4, .ref m5, .ref m6, .ref m7, .ref m8, .ref m9, .ref m10])), (m1, .inl (cI, 78, .inl P)), (m2, .inl (cI, 78, .inl A0)), (m5, .inl (cZ, 169, .inl (xf_z (va_up g3 ((13 * i) + j) false)))), (m6, .inl (cZ, 169, .inl (xf_z b3))), (m7, .inl (cZ, 169, .inl (xf_z ch))), (m8, .inl (cI, 169, .inl st)), (m9, .inl (cZ, 13, .inl (xf_z (va_up l2 i true))))] := hD
                refine lv_aload_n hx hb xj_M_failsAbove_90 rfl (lv_at hl 1 rfl) ?_
                refine va_get (D := D) (ci := 6) (v := .ref m6) (C := xn_M) (T := xn_TM) (N := 13) hx hb hgs xw_uM hown hK.1 hP 0 rfl rfl 8 (by decide) (hgs _ xw_538) (fun _ h9 => h9) rfl xj_M_failsAbove_91 ?_
                refine lv_bipush (v := nI 13) hx hb xj_M_failsAbove_94 (by decide) ?_
                refine lv_iload_n hx hb xj_M_failsAbove_96 rfl (lv_at hl 4 rfl) ?_
                refine xr_imul hx hb xj_M_failsAbove_97 ?_
                refine lv_iload hx hb xj_M_failsAbove_98 (lv_at hl 5 rfl) ?_
                refine xr_iadd hx hb xj_M_failsAbove_100 ?_
                refine lv_iload hx hb xj_M_failsAbove_101 (lv_at hl 0 rfl) ?_
                refine xr_topz (b := false) rfl ?_
                refine xr_zast hx hb hK.1 hP hD hS 4 1 rfl rfl (by omega) (by decide) xj_M_failsAbove_103 (fun H locs hP hD hS => ?_)
                rw [xf_z_up] at hP hD
                have hP : va_P D xn_cl [(m0, .inr (6, [.int cd, .int (nI gc), .int (nI dc), .ref m1, .ref m2, .ref m3, .ref m4, .ref m5, .ref m6, .ref m7, .ref m8, .ref m9, .ref m10])), (m1, .inl (cI, 78, .inl P)), (m2, .inl (cI, 78, .inl A0)), (m5, .inl (cZ, 169, .inl (xf_z (va_up g3 ((13 * i) + j) false)))), (m6, .inl (cZ, 169, .inl (xf_z (va_up b3 ((13 * i) + j) false)))), (m7, .inl (cZ, 169, .inl (xf_z ch))), (m8, .inl (cI, 169, .inl st)), (m9, .inl (cZ, 13, .inl (xf_z (va_up l2 i true))))] H := hP
                have hD : va_D A [(m0, .inr (6, [.int cd, .int (nI gc), .int (nI dc), .ref m1, .ref m2, .ref m3, .ref m4, .ref m5, .ref m6, .ref m7, .ref m8, .ref m9, .ref m10])), (m1, .inl (cI, 78, .inl P)), (m2, .inl (cI, 78, .inl A0)), (m5, .inl (cZ, 169, .inl (xf_z (va_up g3 ((13 * i) + j) false)))), (m6, .inl (cZ, 169, .inl (xf_z (va_up b3 ((13 * i) + j) false)))), (m7, .inl (cZ, 169, .inl (xf_z ch))), (m8, .inl (cI, 169, .inl st)), (m9, .inl (cZ, 13, .inl (xf_z (va_up l2 i true))))] := hD
                refine lv_iinc (k := 5) (v := nI (j + 1)) (lv' := [(4, .int (nI (j + 1))), (5, .int (nI 0)), (0, .ref m0), (1, .int up), (2, .int dn), (3, .int (nI i))]) hx hb xj_M_failsAbove_104 hl rfl (xr_inc _) (by decide) rfl (fun ls hl => ?_)
                refine lv_goto (tgt := 20) hx hb xj_M_failsAbove_107 rfl ?_
                exact ih20 (j + 1) ((va_up g3 ((13 * i) + j) false)) ((va_up b3 ((13 * i) + j) false)) ls _ _ (by omega) ((xm_f2_s (f := xm_fa (xk_c gc P A0) up dn i) (xm_fa_3 h66)).symm.trans hg2) ((xm_f2_s (f := xm_fa (xk_c gc P A0) up dn i) (xm_fa_3 h66)).symm.trans hb2) (lv_sub hl [2, 3, 4, 5, 0] rfl) hP hD hS
              · -- 69
                refine lv_iconst (v := nI 1) hx hb xj_M_failsAbove_69 (by decide) ?_
                refine lv_goto (tgt := 74) hx hb xj_M_failsAbove_70 rfl ?_
                refine lv_istore (lv' := [(5, .int (nI 1)), (0, .ref m0), (1, .int up), (2, .int dn), (3, .int (nI i)), (4, .int (nI j))]) hx hb xj_M_failsAbove_74 hl (by decide) rfl (fun ls hl => ?_)
                refine lv_aload_n hx hb xj_M_failsAbove_76 rfl (lv_at hl 1 rfl) ?_
                refine va_get (D := D) (ci := 6) (v := .ref m5) (C := xn_M) (T := xn_TM) (N := 13) hx hb hgs xw_uM hown hK.1 hP 0 rfl rfl 7 (by decide) (hgs _ xw_537) (fun _ h9 => h9) rfl xj_M_failsAbove_77 ?_
                refine lv_bipush (v := nI 13) hx hb xj_M_failsAbove_80 (by decide) ?_
                refine lv_iload_n hx hb xj_M_failsAbove_82 rfl (lv_at hl 4 rfl) ?_
                refine xr_imul hx hb xj_M_failsAbove_83 ?_
                refine lv_iload hx hb xj_M_failsAbove_84 (lv_at hl 5 rfl) ?_
                refine xr_iadd hx hb xj_M_failsAbove_86 ?_
                refine lv_iload hx hb xj_M_failsAbove_87 (lv_at hl 0 rfl) ?_
                refine xr_topz (b := true) rfl ?_
                refine xr_zast hx hb hK.1 hP hD hS 3 1 rfl rfl (by omega) (by decide) xj_M_failsAbove_89 (fun H locs hP hD hS => ?_)
                rw [xf_z_up] at hP hD
                have hP : va_P D xn_cl [(m0, .inr (6, [.int cd, .int (nI gc), .int (nI dc), .ref m1, .ref m2, .ref m3, .ref m4, .ref m5, .ref m6, .ref m7, .ref m8, .ref m9, .ref m10])), (m1, .inl (cI, 78, .inl P)), (m2, .inl (cI, 78, .inl A0)), (m5, .inl (cZ, 169, .inl (xf_z (va_up g3 ((13 * i) + j) true)))), (m6, .inl (cZ, 169, .inl (xf_z b3))), (m7, .inl (cZ, 169, .inl (xf_z ch))), (m8, .inl (cI, 169, .inl st)), (m9, .inl (cZ, 13, .inl (xf_z (va_up l2 i true))))] H := hP
                have hD : va_D A [(m0, .inr (6, [.int cd, .int (nI gc), .int (nI dc), .ref m1, .ref m2, .ref m3, .ref m4, .ref m5, .ref m6, .ref m7, .ref m8, .ref m9, .ref m10])), (m1, .inl (cI, 78, .inl P)), (m2, .inl (cI, 78, .inl A0)), (m5, .inl (cZ, 169, .inl (xf_z (va_up g3 ((13 * i) + j) true)))), (m6, .inl (cZ, 169, .inl (xf_z b3))), (m7, .inl (cZ, 169, .inl (xf_z ch))), (m8, .inl (cI, 169, .inl st)), (m9, .inl (cZ, 13, .inl (xf_z (va_up l2 i true))))] := hD
                refine lv_aload_n hx hb xj_M_failsAbove_90 rfl (lv_at hl 1 rfl) ?_
                refine va_get (D := D) (ci := 6) (v := .ref m6) (C := xn_M) (T := xn_TM) (N := 13) hx hb hgs xw_uM hown hK.1 hP 0 rfl rfl 8 (by decide) (hgs _ xw_538) (fun _ h9 => h9) rfl xj_M_failsAbove_91 ?_
                refine lv_bipush (v := nI 13) hx hb xj_M_failsAbove_94 (by decide) ?_
                refine lv_iload_n hx hb xj_M_failsAbove_96 rfl (lv_at hl 4 rfl) ?_
                refine xr_imul hx hb xj_M_failsAbove_97 ?_
                refine lv_iload hx hb xj_M_failsAbove_98 (lv_at hl 5 rfl) ?_
                refine xr_iadd hx hb xj_M_failsAbove_100 ?_
                refine lv_iload hx hb xj_M_failsAbove_101 (lv_at hl 0 rfl) ?_
                refine xr_topz (b := true) rfl ?_
                refine xr_zast hx hb hK.1 hP hD hS 4 1 rfl rfl (by omega) (by decide) xj_M_failsAbove_103 (fun H locs hP hD hS => ?_)
                rw [xf_z_up] at hP hD
                have hP : va_P D xn_cl [(m0, .inr (6, [.int cd, .int (nI gc), .int (nI dc), .ref m1, .ref m2, .ref m3, .ref m4, .ref m5, .ref m6, .ref m7, .ref m8, .ref m9, .ref m10])), (m1, .inl (cI, 78, .inl P)), (m2, .inl (cI, 78, .inl A0)), (m5, .inl (cZ, 169, .inl (xf_z (va_up g3 ((13 * i) + j) true)))), (m6, .inl (cZ, 169, .inl (xf_z (va_up b3 ((13 * i) + j) true)))), (m7, .inl (cZ, 169, .inl (xf_z ch))), (m8, .inl (cI, 169, .inl st)), (m9, .inl (cZ, 13, .inl (xf_z (va_up l2 i true))))] H := hP
                have hD : va_D A [(m0, .inr (6, [.int cd, .int (nI gc), .int (nI dc), .ref m1, .ref m2, .ref m3, .ref m4, .ref m5, .ref m6, .ref m7, .ref m8, .ref m9, .ref m10])), (m1, .inl (cI, 78, .inl P)), (m2, .inl (cI, 78, .inl A0)), (m5, .inl (cZ, 169, .inl (xf_z (va_up g3 ((13 * i) + j) true)))), (m6, .inl (cZ, 169, .inl (xf_z (va_up b3 ((13 * i) + j) true)))), (m7, .inl (cZ, 169, .inl (xf_z ch))), (m8, .inl (cI, 169, .inl st)), (m9, .inl (cZ, 13, .inl (xf_z (va_up l2 i true))))] := hD
                refine lv_iinc (k := 5) (v := nI (j + 1)) (lv' := [(4, .int (nI (j + 1))), (5, .int (nI 1)), (0, .ref m0), (1, .int up), (2, .int dn), (3, .int (nI i))]) hx hb xj_M_failsAbove_104 hl rfl (xr_inc _) (by decide) rfl (fun ls hl => ?_)
                refine lv_goto (tgt := 20) hx hb xj_M_failsAbove_107 rfl ?_
                exact ih20 (j + 1) ((va_up g3 ((13 * i) + j) true)) ((va_up b3 ((13 * i) + j) true)) ls _ _ (by omega) ((xm_f2_s (f := xm_fa (xk_c gc P A0) up dn i) (xm_fa_t h32 h41 h66)).symm.trans hg2) ((xm_f2_s (f := xm_fa (xk_c gc P A0) up dn i) (xm_fa_t h32 h41 h66)).symm.trans hb2) (lv_sub hl [2, 3, 4, 5, 0] rfl) hP hD hS
      exact loop20 dc 0 g2 b2 ls _ _ (by omega) rfl rfl (lv_sub hl [1, 2, 3, 4, 0] rfl) hP hD hS
  exact loop2 dc 0 gd bd lf ls _ _ (by omega) rfl rfl rfl (lv_sub hl [1, 2, 3, 0] rfl) hP hD hS
set_option maxRecDepth 100000 in
set_option maxHeartbeats 4000000 in
theorem xt_M_common (l : Launch) (D : va_G) (cI cZ cJ : ClassId) (a b : Nat) (ha : a < 2 ^ 31) (hb9 : b < 2 ^ 31) : xc_R l xy_M_common xb_M_common 5 .int 0 [.int (nI a), .int (nI b)] D cI cZ cJ [] (nI (Nat.gcd a b)) := by
  refine xc_R_of (by decide) (Nat.le_of_ble_eq_true rfl) rfl ?_
  intro p e s m args below meth c Q ls hAt hP hK hl hret
  obtain ⟨hx, hb, hml, hown, hts, hgs, hlk⟩ := id hAt
  have hT : ∀ w ∈ xw_g, w ∈ xc_ws xy_M_common xb_M_common 5 (some .int) := fun w h => List.mem_cons_of_mem _ h
  have hown : s.vm.findClass "WishLedgerModel" = some m.cls := hown
  have hl : lv_has ls 5 [(0, .int (nI a)), (1, .int (nI b))] := hl
  refine lv_iload_n hx hb xj_M_common_0 rfl (lv_at hl 0 rfl) ?_
  refine lv_istore_n (lv' := [(2, .int (nI a)), (0, .int (nI a)), (1, .int (nI b))]) hx hb xj_M_common_1 rfl hl (by decide) rfl (fun ls hl => ?_)
  refine lv_iload_n hx hb xj_M_common_2 rfl (lv_at hl 2 rfl) ?_
  refine lv_istore_n (lv' := [(3, .int (nI b)), (2, .int (nI a)), (0, .int (nI a)), (1, .int (nI b))]) hx hb xj_M_common_3 rfl hl (by decide) rfl (fun ls hl => ?_)
  have loop4 : ∀ (n : Nat)  (x : Nat) (y : Nat) (ls : Array Slot), (y ≤ n) → (x < 2 ^ 31 ∧ y < 2 ^ 31) → (Nat.gcd x y = Nat.gcd a b) → lv_has ls 5 [(2, .int (nI x)), (3, .int (nI y))] → W p l e (xc_rm 0 0 0) s m args below meth c s.heap [] 0 0 Q (F0 m 4 ls []) := by
    intro n
    induction n with
    | zero =>
      intro x y ls  hy hxy hgc hl
      refine lv_iload_n hx hb xj_M_common_4 rfl (lv_at hl 1 rfl) ?_
      refine lv_if_le (tgt := 21) hx hb xj_M_common_5 rfl (fun h5 => ?_) (fun h5 => absurd h5 (fun z => z (by rw [show y = 0 by omega]; exact Int32.le_refl _)))
      refine lv_iload_n hx hb xj_M_common_21 rfl (lv_at hl 0 rfl) ?_
      exact xr_top (by rw [← hgc, show y = 0 from Nat.le_zero.mp ((nI_leI hxy.2 (by omega)).mp h5), Nat.gcd_zero_right]) (hret _ _ xj_M_common_22)
    | succ n ih4 =>
      intro x y ls  hy hxy hgc hl
      refine lv_iload_n hx hb xj_M_common_4 rfl (lv_at hl 1 rfl) ?_
      refine lv_if_le (tgt := 21) hx hb xj_M_common_5 rfl (fun h5 => ?_) (fun h5 => ?_)
      · -- 21
        refine lv_iload_n hx hb xj_M_common_21 rfl (lv_at hl 0 rfl) ?_
        exact xr_top (by rw [← hgc, show y = 0 from Nat.le_zero.mp ((nI_leI hxy.2 (by omega)).mp h5), Nat.gcd_zero_right]) (hret _ _ xj_M_common_22)
      · -- 8
        have hy0 : 0 < y := Nat.pos_of_ne_zero (fun z => h5 (by rw [z]; exact Int32.le_refl _))
        refine lv_iload_n hx hb xj_M_common_8 rfl (lv_at hl 0 rfl) ?_
        refine lv_iload_n hx hb xj_M_common_9 rfl (lv_at hl 1 rfl) ?_
        refine lv_irem hx hb xj_M_common_10 (nI_ne0 hy0 hxy.2) ?_
        refine xr_top (y := nI (x % y)) (xm_rem hxy.1 hxy.2 hy0) ?_
        refine lv_istore (lv' := [(4, .int (nI (x % y))), (2, .int (nI x)), (3, .int (nI y))]) hx hb xj_M_common_11 hl (by decide) rfl (fun ls hl => ?_)
        refine lv_iload_n hx hb xj_M_common_13 rfl (lv_at hl 2 rfl) ?_
        refine lv_istore_n (lv' := [(2, .int (nI y)), (4, .int (nI (x % y))), (3, .int (nI y))]) hx hb xj_M_common_14 rfl hl (by decide) rfl (fun ls hl => ?_)
        refine lv_iload hx hb xj_M_common_15 (lv_at hl 1 rfl) ?_
        refine lv_istore_n (lv' := [(3, .int (nI (x % y))), (2, .int (nI y)), (4, .int (nI (x % y)))]) hx hb xj_M_common_17 rfl hl (by decide) rfl (fun ls hl => ?_)
        refine lv_goto (tgt := 4) hx hb xj_M_common_18 rfl ?_
        exact ih4 y (x % y) ls  (by have := Nat.mod_lt x hy0; omega) (⟨hxy.2, Nat.lt_of_le_of_lt (Nat.le_of_lt (Nat.mod_lt x hy0)) hxy.2⟩) (by rw [← hgc, Nat.gcd_comm x y, Nat.gcd_rec y x]; exact Nat.gcd_comm _ _) (lv_sub hl [1, 0] rfl)
  exact loop4 b a b ls  (Nat.le_refl b) (⟨ha, hb9⟩) rfl (lv_sub hl [1, 0] rfl)
set_option maxRecDepth 100000 in
set_option maxHeartbeats 4000000 in
theorem xt_M_shrinkage_ok (l : Launch) (D : va_G) (cI cZ cJ : ClassId) (m0 m1 m2 m3 m4 m5 m6 m7 m8 m9 m10 : Nat) (cd : Int32) (gc dc : Nat) (P : Nat → Int32) (A0 : Nat → Int32) (gd : Nat → Bool) (bd : Nat → Bool) (ch : Nat → Bool) (st : Nat → Int32) (lf : Nat → Bool) (v : Int32) (hok : xo_01 v = true) (hg : gc ≤ 6) (hd : dc ≤ 12) (cn : Nat → Nat → Nat) (hcn : ∀ s t, s < dc → t < dc → xk_c gc P A0 s t = nI (cn s t)) (hcb : ∀ s t, s < dc → t < dc → cn s t ≤ 58806) : xc_Wi l xy_M_shrinkage xb_M_shrinkage 8 .int 4 0 0 [.ref m0, .int v] D cI cZ cJ [(m0, .inr (6, [.int cd, .int (nI gc), .int (nI dc), .ref m1, .ref m2, .ref m3, .ref m4, .ref m5, .ref m6, .ref m7, .ref m8, .ref m9, .ref m10])), (m1, .inl (cI, 78, .inl P)), (m2, .inl (cI, 78, .inl A0)), (m5, .inl (cZ, 169, .inl (xf_z gd))), (m6, .inl (cZ, 169, .inl (xf_z bd))), (m7, .inl (cZ, 169, .inl (xf_z ch))), (m8, .inl (cI, 169, .inl st)), (m9, .inl (cZ, 13, .inl (xf_z lf)))] ((Nat → Bool) × (Nat → Bool) × (Nat → Bool) × (Nat → Int32) × (Nat → Bool)) (fun r _ => r = if v = 0 then nI ((xm_h2 cn (fun a b => xm_fb (xk_c gc P A0) dc (nI a) (nI b)) dc dc 0 (1, 1)).1 / Nat.gcd (xm_h2 cn (fun a b => xm_fb (xk_c gc P A0) dc (nI a) (nI b)) dc dc 0 (1, 1)).1 (xm_h2 cn (fun a b => xm_fb (xk_c gc P A0) dc (nI a) (nI b)) dc dc 0 (1, 1)).2) else nI ((xm_h2 cn (fun a b => xm_fb (xk_c gc P A0) dc (nI a) (nI b)) dc dc 0 (1, 1)).2 / Nat.gcd (xm_h2 cn (fun a b => xm_fb (xk_c gc P A0) dc (nI a) (nI b)) dc dc 0 (1, 1)).1 (xm_h2 cn (fun a b => xm_fb (xk_c gc P A0) dc (nI a) (nI b)) dc dc 0 (1, 1)).2)) (fun u => [(m0, .inr (6, [.int (nI 0), .int (nI gc), .int (nI dc), .ref m1, .ref m2, .ref m3, .ref m4, .ref m5, .ref m6, .ref m7, .ref m8, .ref m9, .ref m10])), (m1, .inl (cI, 78, .inl P)), (m2, .inl (cI, 78, .inl A0)), (m5, .inl (cZ, 169, .inl (xf_z u.1))), (m6, .inl (cZ, 169, .inl (xf_z u.2.1))), (m7, .inl (cZ, 169, .inl (xf_z u.2.2.1))), (m8, .inl (cI, 169, .inl u.2.2.2.1)), (m9, .inl (cZ, 13, .inl (xf_z u.2.2.2.2)))]) := by
  refine xc_Wi_of (by decide) (Nat.le_of_ble_eq_true rfl) ?_
  intro p e s m args below meth c Q ls A hAt hP hK hD hA hS hl hret
  obtain ⟨hx, hb, hml, hown, hts, hgs, hlk⟩ := id hAt
  have hT : ∀ w ∈ xw_g, w ∈ xc_ws xy_M_shrinkage xb_M_shrinkage 8 (some .int) := fun w h => List.mem_cons_of_mem _ h
  have hown : s.vm.findClass "WishLedgerModel" = some m.cls := hown
  obtain ⟨H, hH0⟩ : ∃ H, H = s.heap := ⟨_, rfl⟩
  obtain ⟨locs, hL0⟩ : ∃ locs : List Loc, locs = [] := ⟨_, rfl⟩
  have hP : va_P D xn_cl [(m0, .inr (6, [.int cd, .int (nI gc), .int (nI dc), .ref m1, .ref m2, .ref m3, .ref m4, .ref m5, .ref m6, .ref m7, .ref m8, .ref m9, .ref m10])), (m1, .inl (cI, 78, .inl P)), (m2, .inl (cI, 78, .inl A0)), (m5, .inl (cZ, 169, .inl (xf_z gd))), (m6, .inl (cZ, 169, .inl (xf_z bd))), (m7, .inl (cZ, 169, .inl (xf_z ch))), (m8, .inl (cI, 169, .inl st)), (m9, .inl (cZ, 13, .inl (xf_z lf)))] H := by rw [hH0]; exact hP
  have hS : va_S A s.heap H locs := by rw [hH0, hL0]; exact hS
  suffices hgo : W p l e (xc_rm 4 0 0) s m args below meth c H locs 0 0 Q (F0 m 0 ls []) by rw [hH0, hL0] at hgo; exact hgo
  clear hH0 hL0
  have hl : lv_has ls 8 [(0, .ref m0), (1, .int v)] := hl
  refine lv_aload_n hx hb xj_M_shrinkage_0 rfl (lv_at hl 0 rfl) ?_
  refine lv_iload_n hx hb xj_M_shrinkage_1 rfl (lv_at hl 1 rfl) ?_
  refine lv_iconst (v := nI 0) hx hb xj_M_shrinkage_2 (by decide) ?_
  refine lv_iconst (v := nI 1) hx hb xj_M_shrinkage_3 (by decide) ?_
  refine xc_callS (av := [.int v, .int (nI 0), .int (nI 1)]) (rest := [.ref m0]) hAt hT (xt_M_in l D cI cZ cJ v (nI 0) (nI 1)) xw_579 xw_7 xw_581 xw_580 (na := 3) rfl (by decide +kernel) ⟨Nat.le_of_ble_eq_true rfl, Nat.le_of_ble_eq_true rfl⟩ (hP.sub (ws' := []) [] rfl) hK hl.1 (Nat.le_of_ble_eq_true rfl) ⟨Nat.zero_le _, Nat.zero_le _⟩ xj_M_shrinkage_4 ?_
  refine xr_top (y := nI 1) (by rw [xo_01_in, hok]; rfl) ?_
  refine xr_ifeqN (tgt := 14) hx hb (by omega) xj_M_shrinkage_7 rfl (fun h7 => absurd h7 (by omega)) (fun h7 => ?_)
  refine lv_iconst (v := nI 0) hx hb xj_M_shrinkage_10 (by decide) ?_
  refine lv_goto (tgt := 15) hx hb xj_M_shrinkage_11 rfl ?_
  refine va_put (D := D) (ci := 6) (v := .int (nI 0)) (ty := .int) (C := xn_M) (T := xn_TM) (N := 13) hx hb hgs xw_uM xn_tM xn_oM xn_nM hown hK.1 hP hD hS 0 rfl rfl 0 (by decide) (hgs _ xw_530) (fun _ h9 => h9) rfl (by decide +kernel) rfl rfl (Nat.le_of_ble_eq_true rfl) xj_M_shrinkage_15 (fun H locs hP hD hS => ?_)
  have hP : va_P D xn_cl [(m0, .inr (6, [.int (nI 0), .int (nI gc), .int (nI dc), .ref m1, .ref m2, .ref m3, .ref m4, .ref m5, .ref m6, .ref m7, .ref m8, .ref m9, .ref m10])), (m1, .inl (cI, 78, .inl P)), (m2, .inl (cI, 78, .inl A0)), (m5, .inl (cZ, 169, .inl (xf_z gd))), (m6, .inl (cZ, 169, .inl (xf_z bd))), (m7, .inl (cZ, 169, .inl (xf_z ch))), (m8, .inl (cI, 169, .inl st)), (m9, .inl (cZ, 13, .inl (xf_z lf)))] H := hP
  have hD : va_D A [(m0, .inr (6, [.int (nI 0), .int (nI gc), .int (nI dc), .ref m1, .ref m2, .ref m3, .ref m4, .ref m5, .ref m6, .ref m7, .ref m8, .ref m9, .ref m10])), (m1, .inl (cI, 78, .inl P)), (m2, .inl (cI, 78, .inl A0)), (m5, .inl (cZ, 169, .inl (xf_z gd))), (m6, .inl (cZ, 169, .inl (xf_z bd))), (m7, .inl (cZ, 169, .inl (xf_z ch))), (m8, .inl (cI, 169, .inl st)), (m9, .inl (cZ, 13, .inl (xf_z lf)))] := hD
  refine lv_aload_n hx hb xj_M_shrinkage_18 rfl (lv_at hl 0 rfl) ?_
  refine va_get (D := D) (ci := 6) (v := .int (nI 0)) (C := xn_M) (T := xn_TM) (N := 13) hx hb hgs xw_uM hown hK.1 hP 0 rfl rfl 0 (by decide) (hgs _ xw_530) (fun _ h9 => h9) rfl xj_M_shrinkage_19 ?_
  refine lv_if_le (tgt := 27) hx hb xj_M_shrinkage_22 rfl (fun h22 => ?_) (fun h22 => absurd h22 (by decide +kernel))
  refine lv_iconst (v := nI 1) hx hb xj_M_shrinkage_27 (by decide) ?_
  refine lv_istore_n (lv' := [(2, .int (nI 1)), (0, .ref m0), (1, .int v)]) hx hb xj_M_shrinkage_28 rfl hl (by decide) rfl (fun ls hl => ?_)
  refine lv_iconst (v := nI 1) hx hb xj_M_shrinkage_29 (by decide) ?_
  refine lv_istore_n (lv' := [(3, .int (nI 1)), (2, .int (nI 1)), (0, .ref m0), (1, .int v)]) hx hb xj_M_shrinkage_30 rfl hl (by decide) rfl (fun ls hl => ?_)
  refine lv_iconst (v := nI 0) hx hb xj_M_shrinkage_31 (by decide) ?_
  refine lv_istore (lv' := [(4, .int (nI 0)), (3, .int (nI 1)), (2, .int (nI 1)), (0, .ref m0), (1, .int v)]) hx hb xj_M_shrinkage_32 hl (by decide) rfl (fun ls hl => ?_)
  have loop34 : ∀ (n : Nat) (i : Nat) (u : Nat) (d : Nat) (g2 : Nat → Bool) (b2 : Nat → Bool) (c2 : Nat → Bool) (s2 : Nat → Int32) (l2 : Nat → Bool) (ls : Array Slot) (H : Heap) (locs : List Loc), i + n = dc → (xm_h2 cn (fun a b => xm_fb (xk_c gc P A0) dc (nI a) (nI b)) dc n i (u, d) = xm_h2 cn (fun a b => xm_fb (xk_c gc P A0) dc (nI a) (nI b)) dc dc 0 (1, 1)) → (0 < d ∧ d ≤ 58806 ∧ u ≤ 58806) → lv_has ls 8 [(0, .ref m0), (1, .int v), (2, .int (nI u)), (3, .int (nI d)), (4, .int (nI i))] → va_P D xn_cl [(m0, .inr (6, [.int (nI 0), .int (nI gc), .int (nI dc), .ref m1, .ref m2, .ref m3, .ref m4, .ref m5, .ref m6, .ref m7, .ref m8, .ref m9, .ref m10])), (m1, .inl (cI, 78, .inl P)), (m2, .inl (cI, 78, .inl A0)), (m5, .inl (cZ, 169, .inl (xf_z g2))), (m6, .inl (cZ, 169, .inl (xf_z b2))), (m7, .inl (cZ, 169, .inl (xf_z c2))), (m8, .inl (cI, 169, .inl s2)), (m9, .inl (cZ, 13, .inl (xf_z l2)))] H → va_D A [(m0, .inr (6, [.int (nI 0), .int (nI gc), .int (nI dc), .ref m1, .ref m2, .ref m3, .ref m4, .ref m5, .ref m6, .ref m7, .ref m8, .ref m9, .ref m10])), (m1, .inl (cI, 78, .inl P)), (m2, .inl (cI, 78, .inl A0)), (m5, .inl (cZ, 169, .inl (xf_z g2))), (m6, .inl (cZ, 169, .inl (xf_z b2))), (m7, .inl (cZ, 169, .inl (xf_z c2))), (m8, .inl (cI, 169, .inl s2)), (m9, .inl (cZ, 13, .inl (xf_z l2)))] → va_S A s.heap H locs → W p l e (xc_rm 4 0 0) s m args below meth c H locs 0 0 Q (F0 m 34 ls []) := by
    intro n
    induction n with
    | zero =>
      intro i u d g2 b2 c2 s2 l2 ls H locs hi34 hr hd0 hl hP hD hS
      refine lv_iload hx hb xj_M_shrinkage_34 (lv_at hl 4 rfl) ?_
      refine lv_aload_n hx hb xj_M_shrinkage_36 rfl (lv_at hl 0 rfl) ?_
      refine va_get (D := D) (ci := 6) (v := .int (nI dc)) (C := xn_M) (T := xn_TM) (N := 13) hx hb hgs xw_uM hown hK.1 hP 0 rfl rfl 2 (by decide) (hgs _ xw_532) (fun _ h9 => h9) rfl xj_M_shrinkage_37 ?_
      refine xr_ge (tgt := 135) hx hb (by omega) (by omega) xj_M_shrinkage_40 rfl (fun h40 => ?_) (fun h40 => absurd h40 (by omega))
      refine lv_iload_n hx hb xj_M_shrinkage_135 rfl (lv_at hl 2 rfl) ?_
      refine lv_iload_n hx hb xj_M_shrinkage_136 rfl (lv_at hl 3 rfl) ?_
      refine xc_callS (av := [.int (nI u), .int (nI d)]) (rest := []) hAt hT (xt_M_common l D cI cZ cJ u d (by omega) (by omega)) xw_675 xw_7 xw_677 xw_676 (na := 2) rfl (by decide +kernel) ⟨Nat.le_of_ble_eq_true rfl, Nat.le_of_ble_eq_true rfl⟩ (hP.sub (ws' := []) [] rfl) hK hl.1 (Nat.le_of_ble_eq_true rfl) ⟨Nat.zero_le _, Nat.zero_le _⟩ xj_M_shrinkage_137 ?_
      refine lv_istore (lv' := [(4, .int (nI (Nat.gcd u d))), (0, .ref m0), (1, .int v), (2, .int (nI u)), (3, .int (nI d))]) hx hb xj_M_shrinkage_140 hl (by decide) rfl (fun ls hl => ?_)
      have hg0 : 0 < Nat.gcd u d := Nat.gcd_pos_of_pos_right u hd0.1
      have hgu : Nat.gcd u d ≤ d := Nat.gcd_le_right u hd0.1
      refine lv_iload_n hx hb xj_M_shrinkage_142 rfl (lv_at hl 2 rfl) ?_
      refine lv_if_ne (tgt := 153) hx hb xj_M_shrinkage_143 rfl (fun h143 => ?_) (fun h143 => ?_)
      · -- 153
        refine lv_iload_n hx hb xj_M_shrinkage_153 rfl (lv_at hl 4 rfl) ?_
        refine lv_iload hx hb xj_M_shrinkage_154 (lv_at hl 0 rfl) ?_
        refine lv_idiv hx hb xj_M_shrinkage_156 (nI_ne0 hg0 (by omega)) ?_
        refine xr_top (y := nI (d / Nat.gcd u d)) (xm_div (by omega) (by omega) hg0) ?_
        have e9 : (u, d) = (xm_h2 cn (fun a b => xm_fb (xk_c gc P A0) dc (nI a) (nI b)) dc dc 0 (1, 1)) := hr
        exact hret (nI (d / Nat.gcd u d)) ((g2, b2, c2, s2, l2)) H locs _ ls (by rw [if_neg h143, ← e9]) rfl hP hD hS xj_M_shrinkage_157
      · -- 146
        refine lv_iload_n hx hb xj_M_shrinkage_146 rfl (lv_at hl 3 rfl) ?_
        refine lv_iload hx hb xj_M_shrinkage_147 (lv_at hl 0 rfl) ?_
        refine lv_idiv hx hb xj_M_shrinkage_149 (nI_ne0 hg0 (by omega)) ?_
        refine xr_top (y := nI (u / Nat.gcd u d)) (xm_div (by omega) (by omega) hg0) ?_
        refine lv_goto (tgt := 157) hx hb xj_M_shrinkage_150 rfl ?_
        have e9 : (u, d) = (xm_h2 cn (fun a b => xm_fb (xk_c gc P A0) dc (nI a) (nI b)) dc dc 0 (1, 1)) := hr
        exact hret (nI (u / Nat.gcd u d)) ((g2, b2, c2, s2, l2)) H locs _ ls (by rw [if_pos h143, ← e9]) rfl hP hD hS xj_M_shrinkage_157
    | succ n ih34 =>
      intro i u d g2 b2 c2 s2 l2 ls H locs hi34 hr hd0 hl hP hD hS
      refine lv_iload hx hb xj_M_shrinkage_34 (lv_at hl 4 rfl) ?_
      refine lv_aload_n hx hb xj_M_shrinkage_36 rfl (lv_at hl 0 rfl) ?_
      refine va_get (D := D) (ci := 6) (v := .int (nI dc)) (C := xn_M) (T := xn_TM) (N := 13) hx hb hgs xw_uM hown hK.1 hP 0 rfl rfl 2 (by decide) (hgs _ xw_532) (fun _ h9 => h9) rfl xj_M_shrinkage_37 ?_
      refine xr_ge (tgt := 135) hx hb (by omega) (by omega) xj_M_shrinkage_40 rfl (fun h40 => absurd h40 (by omega)) (fun h40 => ?_)
      refine lv_iconst (v := nI 0) hx hb xj_M_shrinkage_43 (by decide) ?_
      refine lv_istore (lv' := [(5, .int (nI 0)), (0, .ref m0), (1, .int v), (2, .int (nI u)), (3, .int (nI d)), (4, .int (nI i))]) hx hb xj_M_shrinkage_44 hl (by decide) rfl (fun ls hl => ?_)
      have loop46 : ∀ (k : Nat) (j : Nat) (u2 : Nat) (d2 : Nat) (g3 : Nat → Bool) (b3 : Nat → Bool) (c3 : Nat → Bool) (s3 : Nat → Int32) (l3 : Nat → Bool) (ls : Array Slot) (H : Heap) (locs : List Loc), j + k = dc → (xm_h1 cn (fun a b => xm_fb (xk_c gc P A0) dc (nI a) (nI b)) i k j (u2, d2) = xm_h1 cn (fun a b => xm_fb (xk_c gc P A0) dc (nI a) (nI b)) i dc 0 (u, d)) → (0 < d2 ∧ d2 ≤ 58806 ∧ u2 ≤ 58806) → lv_has ls 8 [(0, .ref m0), (1, .int v), (2, .int (nI u2)), (3, .int (nI d2)), (4, .int (nI i)), (5, .int (nI j))] → va_P D xn_cl [(m0, .inr (6, [.int (nI 0), .int (nI gc), .int (nI dc), .ref m1, .ref m2, .ref m3, .ref m4, .ref m5, .ref m6, .ref m7, .ref m8, .ref m9, .ref m10])), (m1, .inl (cI, 78, .inl P)), (m2, .inl (cI, 78, .inl A0)), (m5, .inl (cZ, 169, .inl (xf_z g3))), (m6, .inl (cZ, 169, .inl (xf_z b3))), (m7, .inl (cZ, 169, .inl (xf_z c3))), (m8, .inl (cI, 169, .inl s3)), (m9, .inl (cZ, 13, .inl (xf_z l3)))] H → va_D A [(m0, .inr (6, [.int (nI 0), .int (nI gc), .int (nI dc), .ref m1, .ref m2, .ref m3, .ref m4, .ref m5, .ref m6, .ref m7, .ref m8, .ref m9, .ref m10])), (m1, .inl (cI, 78, .inl P)), (m2, .inl (cI, 78, .inl A0)), (m5, .inl (cZ, 169, .inl (xf_z g3))), (m6, .inl (cZ, 169, .inl (xf_z b3))), (m7, .inl (cZ, 169, .inl (xf_z c3))), (m8, .inl (cI, 169, .inl s3)), (m9, .inl (cZ, 13, .inl (xf_z l3)))] → va_S A s.heap H locs → W p l e (xc_rm 4 0 0) s m args below meth c H locs 0 0 Q (F0 m 46 ls []) := by
        intro k
        induction k with
        | zero =>
          intro j u2 d2 g3 b3 c3 s3 l3 ls H locs hi46 hq hd2 hl hP hD hS
          refine lv_iload hx hb xj_M_shrinkage_46 (lv_at hl 5 rfl) ?_
          refine lv_aload_n hx hb xj_M_shrinkage_48 rfl (lv_at hl 0 rfl) ?_
          refine va_get (D := D) (ci := 6) (v := .int (nI dc)) (C := xn_M) (T := xn_TM) (N := 13) hx hb hgs xw_uM hown hK.1 hP 0 rfl rfl 2 (by decide) (hgs _ xw_532) (fun _ h9 => h9) rfl xj_M_shrinkage_49 ?_
          refine xr_ge (tgt := 129) hx hb (by omega) (by omega) xj_M_shrinkage_52 rfl (fun h52 => ?_) (fun h52 => absurd h52 (by omega))
          refine lv_iinc (k := 4) (v := nI (i + 1)) (lv' := [(4, .int (nI (i + 1))), (0, .ref m0), (1, .int v), (2, .int (nI u2)), (3, .int (nI d2)), (5, .int (nI j))]) hx hb xj_M_shrinkage_129 hl rfl (xr_inc _) (by decide) rfl (fun ls hl => ?_)
          refine lv_goto (tgt := 34) hx hb xj_M_shrinkage_132 rfl ?_
          exact ih34 (i + 1) u2 d2 g3 b3 c3 s3 l3 ls _ _ (by omega) (by rw [show (u2, d2) = _ from hq]; exact hr) hd2 (lv_sub hl [1, 2, 3, 4, 0] rfl) hP hD hS
        | succ k ih46 =>
          intro j u2 d2 g3 b3 c3 s3 l3 ls H locs hi46 hq hd2 hl hP hD hS
          refine lv_iload hx hb xj_M_shrinkage_46 (lv_at hl 5 rfl) ?_
          refine lv_aload_n hx hb xj_M_shrinkage_48 rfl (lv_at hl 0 rfl) ?_
          refine va_get (D := D) (ci := 6) (v := .int (nI dc)) (C := xn_M) (T := xn_TM) (N := 13) hx hb hgs xw_uM hown hK.1 hP 0 rfl rfl 2 (by decide) (hgs _ xw_532) (fun _ h9 => h9) rfl xj_M_shrinkage_49 ?_
          refine xr_ge (tgt := 129) hx hb (by omega) (by omega) xj_M_shrinkage_52 rfl (fun h52 => absurd h52 (by omega)) (fun h52 => ?_)
          refine lv_aload_n hx hb xj_M_shrinkage_55 rfl (lv_at hl 0 rfl) ?_
          refine lv_iload hx hb xj_M_shrinkage_56 (lv_at hl 4 rfl) ?_
          refine lv_iload hx hb xj_M_shrinkage_58 (lv_at hl 5 rfl) ?_
          refine xc_callV (av := [.int (nI i), .int (nI j)]) (rest := []) hAt hT (xt_M_costs l D cI cZ cJ m0 m1 m2 m3 m4 m5 m6 m7 m8 m9 m10 (nI 0) gc dc P A0 i j (by omega) (by omega) (by omega)) xw_606 xw_7 xw_609 xw_608 xs_M_costs (C0 := xn_M) (q0 := 0) rfl rfl (na := 2) rfl (by decide +kernel) ⟨Nat.le_of_ble_eq_true rfl, Nat.le_of_ble_eq_true rfl⟩ (hP.sub (ws' := [(m0, .inr (6, [.int (nI 0), .int (nI gc), .int (nI dc), .ref m1, .ref m2, .ref m3, .ref m4, .ref m5, .ref m6, .ref m7, .ref m8, .ref m9, .ref m10])), (m1, .inl (cI, 78, .inl P)), (m2, .inl (cI, 78, .inl A0))]) [0, 1, 2] rfl) hK hl.1 (Nat.le_of_ble_eq_true rfl) ⟨Nat.zero_le _, Nat.zero_le _⟩ xj_M_shrinkage_60 ?_
          refine xr_top (y := nI (cn i j)) (hcn i j (by omega) (by omega)) ?_
          refine lv_istore (lv' := [(6, .int (nI (cn i j))), (0, .ref m0), (1, .int v), (2, .int (nI u2)), (3, .int (nI d2)), (4, .int (nI i)), (5, .int (nI j))]) hx hb xj_M_shrinkage_63 hl (by decide) rfl (fun ls hl => ?_)
          refine lv_aload_n hx hb xj_M_shrinkage_65 rfl (lv_at hl 1 rfl) ?_
          refine lv_iload hx hb xj_M_shrinkage_66 (lv_at hl 5 rfl) ?_
          refine lv_iload hx hb xj_M_shrinkage_68 (lv_at hl 5 rfl) ?_
          refine xc_callV (av := [.int (nI i), .int (nI i)]) (rest := []) hAt hT (xt_M_costs l D cI cZ cJ m0 m1 m2 m3 m4 m5 m6 m7 m8 m9 m10 (nI 0) gc dc P A0 i i (by omega) (by omega) (by omega)) xw_606 xw_7 xw_609 xw_608 xs_M_costs (C0 := xn_M) (q0 := 0) rfl rfl (na := 2) rfl (by decide +kernel) ⟨Nat.le_of_ble_eq_true rfl, Nat.le_of_ble_eq_true rfl⟩ (hP.sub (ws' := [(m0, .inr (6, [.int (nI 0), .int (nI gc), .int (nI dc), .ref m1, .ref m2, .ref m3, .ref m4, .ref m5, .ref m6, .ref m7, .ref m8, .ref m9, .ref m10])), (m1, .inl (cI, 78, .inl P)), (m2, .inl (cI, 78, .inl A0))]) [0, 1, 2] rfl) hK hl.1 (Nat.le_of_ble_eq_true rfl) ⟨Nat.zero_le _, Nat.zero_le _⟩ xj_M_shrinkage_70 ?_
          refine xr_top (y := nI (cn i i)) (hcn i i (by omega) (by omega)) ?_
          refine lv_istore (lv' := [(7, .int (nI (cn i i))), (6, .int (nI (cn i j))), (0, .ref m0), (1, .int v), (2, .int (nI u2)), (3, .int (nI d2)), (4, .int (nI i)), (5, .int (nI j))]) hx hb xj_M_shrinkage_73 hl (by decide) rfl (fun ls hl => ?_)
          have hC1 := hcb i j (by omega) (by omega)
          have hC2 := hcb i i (by omega) (by omega)
          refine lv_iload hx hb xj_M_shrinkage_75 (lv_at hl 6 rfl) ?_
          refine lv_iload hx hb xj_M_shrinkage_77 (lv_at hl 7 rfl) ?_
          refine xr_eq (tgt := 123) hx hb (by omega) (by omega) xj_M_shrinkage_79 rfl (fun h79 => ?_) (fun h79 => ?_)
          · -- 123
            refine lv_iinc (k := 7) (v := nI (j + 1)) (lv' := [(5, .int (nI (j + 1))), (7, .int (nI (cn i i))), (6, .int (nI (cn i j))), (0, .ref m0), (1, .int v), (2, .int (nI u2)), (3, .int (nI d2)), (4, .int (nI i))]) hx hb xj_M_shrinkage_123 hl rfl (xr_inc _) (by decide) rfl (fun ls hl => ?_)
            refine lv_goto (tgt := 46) hx hb xj_M_shrinkage_126 rfl ?_
            exact ih46 (j + 1) u2 d2 g3 b3 c3 s3 l3 ls _ _ (by omega) ((xm_h1_0 (cn := cn) (fb := (fun a b => xm_fb (xk_c gc P A0) dc (nI a) (nI b))) (x := (u2, d2)) (fun z => z.1 h79)).symm.trans hq) hd2 (lv_sub hl [3, 4, 5, 6, 7, 0] rfl) hP hD hS
          · -- 82
            refine lv_iload hx hb xj_M_shrinkage_82 (lv_at hl 0 rfl) ?_
            refine xr_ifeqN (tgt := 123) hx hb (by omega) xj_M_shrinkage_84 rfl (fun h84 => ?_) (fun h84 => ?_)
            · -- 123
              refine lv_iinc (k := 7) (v := nI (j + 1)) (lv' := [(5, .int (nI (j + 1))), (7, .int (nI (cn i i))), (6, .int (nI (cn i j))), (0, .ref m0), (1, .int v), (2, .int (nI u2)), (3, .int (nI d2)), (4, .int (nI i))]) hx hb xj_M_shrinkage_123 hl rfl (xr_inc _) (by decide) rfl (fun ls hl => ?_)
              refine lv_goto (tgt := 46) hx hb xj_M_shrinkage_126 rfl ?_
              exact ih46 (j + 1) u2 d2 g3 b3 c3 s3 l3 ls _ _ (by omega) ((xm_h1_0 (cn := cn) (fb := (fun a b => xm_fb (xk_c gc P A0) dc (nI a) (nI b))) (x := (u2, d2)) (fun z => z.2.1 h84)).symm.trans hq) hd2 (lv_sub hl [3, 4, 5, 6, 7, 0] rfl) hP hD hS
            · -- 87
              refine lv_iload hx hb xj_M_shrinkage_87 (lv_at hl 1 rfl) ?_
              refine lv_i2l hx hb xj_M_shrinkage_89 rfl ?_
              refine lv_iload_n hx hb xj_M_shrinkage_90 rfl (lv_at hl 5 rfl) ?_
              refine lv_i2l hx hb xj_M_shrinkage_91 rfl ?_
              refine lv_lmul hx hb xj_M_shrinkage_92 ?_
              refine lv_iload_n hx hb xj_M_shrinkage_93 rfl (lv_at hl 4 rfl) ?_
              refine lv_i2l hx hb xj_M_shrinkage_94 rfl ?_
              refine lv_iload hx hb xj_M_shrinkage_95 (lv_at hl 0 rfl) ?_
              refine lv_i2l hx hb xj_M_shrinkage_97 rfl ?_
              refine lv_lmul hx hb xj_M_shrinkage_98 ?_
              refine xr_lge (tgt := 123) hx hb xj_M_shrinkage_99 xj_M_shrinkage_100 rfl (fun h100 => ?_) (fun h100 => ?_)
              · -- 123
                refine lv_iinc (k := 7) (v := nI (j + 1)) (lv' := [(5, .int (nI (j + 1))), (7, .int (nI (cn i i))), (6, .int (nI (cn i j))), (0, .ref m0), (1, .int v), (2, .int (nI u2)), (3, .int (nI d2)), (4, .int (nI i))]) hx hb xj_M_shrinkage_123 hl rfl (xr_inc _) (by decide) rfl (fun ls hl => ?_)
                refine lv_goto (tgt := 46) hx hb xj_M_shrinkage_126 rfl ?_
                exact ih46 (j + 1) u2 d2 g3 b3 c3 s3 l3 ls _ _ (by omega) ((xm_h1_0 (cn := cn) (fb := (fun a b => xm_fb (xk_c gc P A0) dc (nI a) (nI b))) (x := (u2, d2)) (fun z => absurd ((xm_le64 (by omega) (by omega) (by omega) (by omega)).mp h100) (by have := z.2.2.1; exact Nat.not_le.mpr this))).symm.trans hq) hd2 (lv_sub hl [3, 4, 5, 6, 7, 0] rfl) hP hD hS
              · -- 103
                refine lv_aload_n hx hb xj_M_shrinkage_103 rfl (lv_at hl 2 rfl) ?_
                refine lv_iload hx hb xj_M_shrinkage_104 (lv_at hl 1 rfl) ?_
                refine lv_iload hx hb xj_M_shrinkage_106 (lv_at hl 0 rfl) ?_
                refine xc_wVi (av := [.int (nI (cn i j)), .int (nI (cn i i))]) (rest := []) (wr := []) hAt hT (xt_M_failsAbove l D cI cZ cJ m0 m1 m2 m3 m4 m5 m6 m7 m8 m9 m10 (nI 0) gc dc P A0 g3 b3 c3 s3 l3 (nI (cn i j)) (nI (cn i i)) (by omega) (by omega)) xw_671 xw_7 xw_674 xw_673 xs_M_failsAbove (C0 := xn_M) (q0 := 0) rfl rfl (na := 2) rfl (by decide +kernel) ⟨Nat.le_of_ble_eq_true rfl, Nat.le_of_ble_eq_true rfl⟩ hP hD hS hA [0, 1, 2, 3, 4, 5, 6, 7] [] rfl rfl (by decide) (by decide) (by decide) hK hl.1 (Nat.le_of_ble_eq_true rfl) ⟨Nat.zero_le _, Nat.zero_le _⟩ xj_M_shrinkage_108 (fun r108 u108 H locs hr108 hP hD hS => ?_)
                obtain rfl : r108 = xf_bI (xm_fb (xk_c gc P A0) dc (nI (cn i j)) (nI (cn i i))) := hr108
                have hP : va_P D xn_cl [(m0, .inr (6, [.int (nI 0), .int (nI gc), .int (nI dc), .ref m1, .ref m2, .ref m3, .ref m4, .ref m5, .ref m6, .ref m7, .ref m8, .ref m9, .ref m10])), (m1, .inl (cI, 78, .inl P)), (m2, .inl (cI, 78, .inl A0)), (m5, .inl (cZ, 169, .inl (xf_z u108.1))), (m6, .inl (cZ, 169, .inl (xf_z u108.2.1))), (m7, .inl (cZ, 169, .inl (xf_z u108.2.2.1))), (m8, .inl (cI, 169, .inl u108.2.2.2.1)), (m9, .inl (cZ, 13, .inl (xf_z u108.2.2.2.2)))] H := hP
                have hD : va_D A [(m0, .inr (6, [.int (nI 0), .int (nI gc), .int (nI dc), .ref m1, .ref m2, .ref m3, .ref m4, .ref m5, .ref m6, .ref m7, .ref m8, .ref m9, .ref m10])), (m1, .inl (cI, 78, .inl P)), (m2, .inl (cI, 78, .inl A0)), (m5, .inl (cZ, 169, .inl (xf_z u108.1))), (m6, .inl (cZ, 169, .inl (xf_z u108.2.1))), (m7, .inl (cZ, 169, .inl (xf_z u108.2.2.1))), (m8, .inl (cI, 169, .inl u108.2.2.2.1)), (m9, .inl (cZ, 13, .inl (xf_z u108.2.2.2.2)))] := hD
                refine xr_ifne (tgt := 117) hx hb xj_M_shrinkage_111 rfl (fun h111 => ?_) (fun h111 => ?_)
                · -- 117
                  refine lv_iload hx hb xj_M_shrinkage_117 (lv_at hl 1 rfl) ?_
                  refine lv_istore_n (lv' := [(2, .int (nI (cn i j))), (7, .int (nI (cn i i))), (6, .int (nI (cn i j))), (0, .ref m0), (1, .int v), (3, .int (nI d2)), (4, .int (nI i)), (5, .int (nI j))]) hx hb xj_M_shrinkage_119 rfl hl (by decide) rfl (fun ls hl => ?_)
                  refine lv_iload hx hb xj_M_shrinkage_120 (lv_at hl 1 rfl) ?_
                  refine lv_istore_n (lv' := [(3, .int (nI (cn i i))), (2, .int (nI (cn i j))), (7, .int (nI (cn i i))), (6, .int (nI (cn i j))), (0, .ref m0), (1, .int v), (4, .int (nI i)), (5, .int (nI j))]) hx hb xj_M_shrinkage_122 rfl hl (by decide) rfl (fun ls hl => ?_)
                  refine lv_iinc (k := 7) (v := nI (j + 1)) (lv' := [(5, .int (nI (j + 1))), (3, .int (nI (cn i i))), (2, .int (nI (cn i j))), (7, .int (nI (cn i i))), (6, .int (nI (cn i j))), (0, .ref m0), (1, .int v), (4, .int (nI i))]) hx hb xj_M_shrinkage_123 hl rfl (xr_inc _) (by decide) rfl (fun ls hl => ?_)
                  refine lv_goto (tgt := 46) hx hb xj_M_shrinkage_126 rfl ?_
                  exact ih46 (j + 1) (cn i j) (cn i i) u108.1 u108.2.1 u108.2.2.1 u108.2.2.2.1 u108.2.2.2.2 ls _ _ (by omega) ((xm_h1_1 (cn := cn) (fb := (fun a b => xm_fb (xk_c gc P A0) dc (nI a) (nI b))) (x := (u2, d2)) h79 h84 (Nat.not_le.mp (fun z => h100 ((xm_le64 (by omega) (by omega) (by omega) (by omega)).mpr z))) h111).symm.trans hq) (⟨Nat.pos_of_ne_zero h84, hC2, hC1⟩) (lv_sub hl [5, 6, 2, 1, 7, 0] rfl) hP hD hS
                · -- 114
                  refine lv_goto (tgt := 123) hx hb xj_M_shrinkage_114 rfl ?_
                  refine lv_iinc (k := 7) (v := nI (j + 1)) (lv' := [(5, .int (nI (j + 1))), (7, .int (nI (cn i i))), (6, .int (nI (cn i j))), (0, .ref m0), (1, .int v), (2, .int (nI u2)), (3, .int (nI d2)), (4, .int (nI i))]) hx hb xj_M_shrinkage_123 hl rfl (xr_inc _) (by decide) rfl (fun ls hl => ?_)
                  refine lv_goto (tgt := 46) hx hb xj_M_shrinkage_126 rfl ?_
                  exact ih46 (j + 1) u2 d2 u108.1 u108.2.1 u108.2.2.1 u108.2.2.2.1 u108.2.2.2.2 ls _ _ (by omega) ((xm_h1_0 (cn := cn) (fb := (fun a b => xm_fb (xk_c gc P A0) dc (nI a) (nI b))) (x := (u2, d2)) (fun z => absurd (h111.symm.trans z.2.2.2) (by decide))).symm.trans hq) hd2 (lv_sub hl [3, 4, 5, 6, 7, 0] rfl) hP hD hS
      exact loop46 dc 0 u d g2 b2 c2 s2 l2 ls _ _ (by omega) rfl hd0 (lv_sub hl [1, 2, 3, 4, 5, 0] rfl) hP hD hS
  exact loop34 dc 0 1 1 gd bd ch st lf ls _ _ (by omega) rfl (by omega) (lv_sub hl [3, 4, 2, 1, 0] rfl) hP hD hS
set_option maxRecDepth 100000 in
set_option maxHeartbeats 4000000 in
theorem xt_M_shrinkage_no (l : Launch) (D : va_G) (cI cZ cJ : ClassId) (m0 m1 m2 m3 m4 m5 m6 m7 m8 m9 m10 : Nat) (cd : Int32) (gc dc : Nat) (v : Int32) (hno : xo_01 v = false) : xc_Wi l xy_M_shrinkage xb_M_shrinkage 8 .int 3 0 0 [.ref m0, .int v] D cI cZ cJ [(m0, .inr (6, [.int cd, .int (nI gc), .int (nI dc), .ref m1, .ref m2, .ref m3, .ref m4, .ref m5, .ref m6, .ref m7, .ref m8, .ref m9, .ref m10]))] (Unit) (fun _ _ => True) (fun _ => [(m0, .inr (6, [.int (nI 1), .int (nI gc), .int (nI dc), .ref m1, .ref m2, .ref m3, .ref m4, .ref m5, .ref m6, .ref m7, .ref m8, .ref m9, .ref m10]))]) := by
  refine xc_Wi_of (by decide) (Nat.le_of_ble_eq_true rfl) ?_
  intro p e s m args below meth c Q ls A hAt hP hK hD hA hS hl hret
  obtain ⟨hx, hb, hml, hown, hts, hgs, hlk⟩ := id hAt
  have hT : ∀ w ∈ xw_g, w ∈ xc_ws xy_M_shrinkage xb_M_shrinkage 8 (some .int) := fun w h => List.mem_cons_of_mem _ h
  have hown : s.vm.findClass "WishLedgerModel" = some m.cls := hown
  obtain ⟨H, hH0⟩ : ∃ H, H = s.heap := ⟨_, rfl⟩
  obtain ⟨locs, hL0⟩ : ∃ locs : List Loc, locs = [] := ⟨_, rfl⟩
  have hP : va_P D xn_cl [(m0, .inr (6, [.int cd, .int (nI gc), .int (nI dc), .ref m1, .ref m2, .ref m3, .ref m4, .ref m5, .ref m6, .ref m7, .ref m8, .ref m9, .ref m10]))] H := by rw [hH0]; exact hP
  have hS : va_S A s.heap H locs := by rw [hH0, hL0]; exact hS
  suffices hgo : W p l e (xc_rm 3 0 0) s m args below meth c H locs 0 0 Q (F0 m 0 ls []) by rw [hH0, hL0] at hgo; exact hgo
  clear hH0 hL0
  have hl : lv_has ls 8 [(0, .ref m0), (1, .int v)] := hl
  refine lv_aload_n hx hb xj_M_shrinkage_0 rfl (lv_at hl 0 rfl) ?_
  refine lv_iload_n hx hb xj_M_shrinkage_1 rfl (lv_at hl 1 rfl) ?_
  refine lv_iconst (v := nI 0) hx hb xj_M_shrinkage_2 (by decide) ?_
  refine lv_iconst (v := nI 1) hx hb xj_M_shrinkage_3 (by decide) ?_
  refine xc_callS (av := [.int v, .int (nI 0), .int (nI 1)]) (rest := [.ref m0]) hAt hT (xt_M_in l D cI cZ cJ v (nI 0) (nI 1)) xw_579 xw_7 xw_581 xw_580 (na := 3) rfl (by decide +kernel) ⟨Nat.le_of_ble_eq_true rfl, Nat.le_of_ble_eq_true rfl⟩ (hP.sub (ws' := []) [] rfl) hK hl.1 (Nat.le_of_ble_eq_true rfl) ⟨Nat.zero_le _, Nat.zero_le _⟩ xj_M_shrinkage_4 ?_
  refine xr_top (y := nI 0) (by rw [xo_01_in, hno]; rfl) ?_
  refine xr_ifeqN (tgt := 14) hx hb (by omega) xj_M_shrinkage_7 rfl (fun h7 => ?_) (fun h7 => absurd h7 (by omega))
  refine lv_iconst (v := nI 1) hx hb xj_M_shrinkage_14 (by decide) ?_
  refine va_put (D := D) (ci := 6) (v := .int (nI 1)) (ty := .int) (C := xn_M) (T := xn_TM) (N := 13) hx hb hgs xw_uM xn_tM xn_oM xn_nM hown hK.1 hP hD hS 0 rfl rfl 0 (by decide) (hgs _ xw_530) (fun _ h9 => h9) rfl (by decide +kernel) rfl rfl (Nat.le_of_ble_eq_true rfl) xj_M_shrinkage_15 (fun H locs hP hD hS => ?_)
  have hP : va_P D xn_cl [(m0, .inr (6, [.int (nI 1), .int (nI gc), .int (nI dc), .ref m1, .ref m2, .ref m3, .ref m4, .ref m5, .ref m6, .ref m7, .ref m8, .ref m9, .ref m10]))] H := hP
  have hD : va_D A [(m0, .inr (6, [.int (nI 1), .int (nI gc), .int (nI dc), .ref m1, .ref m2, .ref m3, .ref m4, .ref m5, .ref m6, .ref m7, .ref m8, .ref m9, .ref m10]))] := hD
  refine lv_aload_n hx hb xj_M_shrinkage_18 rfl (lv_at hl 0 rfl) ?_
  refine va_get (D := D) (ci := 6) (v := .int (nI 1)) (C := xn_M) (T := xn_TM) (N := 13) hx hb hgs xw_uM hown hK.1 hP 0 rfl rfl 0 (by decide) (hgs _ xw_530) (fun _ h9 => h9) rfl xj_M_shrinkage_19 ?_
  refine lv_if_le (tgt := 27) hx hb xj_M_shrinkage_22 rfl (fun h22 => absurd h22 (by decide +kernel)) (fun h22 => ?_)
  refine lv_iconst (v := nI 0) hx hb xj_M_shrinkage_25 (by decide) ?_
  exact hret (nI 0) (()) H locs _ ls trivial rfl hP hD hS xj_M_shrinkage_26
set_option maxRecDepth 100000 in
set_option maxHeartbeats 4000000 in
theorem xt_M_isEnough (l : Launch) (D : va_G) (cI cZ cJ : ClassId) (m0 m1 m2 m3 m4 m5 m6 m7 m8 m9 m10 : Nat) (cd : Int32) (gc dc : Nat) (gd : Nat → Bool) (bd : Nat → Bool) (ch : Nat → Bool) (st : Nat → Int32) (lf : Nat → Bool) (b0 many : Nat) (hb0 : b0 < 2 ^ 31) (hma : many < 2 ^ 31) (hd : dc ≤ 12) : xc_Wi l xy_M_isEnough xb_M_isEnough 5 .boolean 3 0 0 [.ref m0, .int (nI b0), .int (nI many)] D cI cZ cJ [(m0, .inr (6, [.int cd, .int (nI gc), .int (nI dc), .ref m1, .ref m2, .ref m3, .ref m4, .ref m5, .ref m6, .ref m7, .ref m8, .ref m9, .ref m10])), (m5, .inl (cZ, 169, .inl (xf_z gd))), (m6, .inl (cZ, 169, .inl (xf_z bd))), (m7, .inl (cZ, 169, .inl (xf_z ch))), (m8, .inl (cI, 169, .inl st)), (m9, .inl (cZ, 13, .inl (xf_z lf)))] ((Nat → Bool) × (Nat → Int32)) (fun r _ => r = xf_bI (xm_en dc gd bd b0 many)) (fun u => [(m0, .inr (6, [.int cd, .int (nI gc), .int (nI dc), .ref m1, .ref m2, .ref m3, .ref m4, .ref m5, .ref m6, .ref m7, .ref m8, .ref m9, .ref m10])), (m5, .inl (cZ, 169, .inl (xf_z gd))), (m6, .inl (cZ, 169, .inl (xf_z bd))), (m7, .inl (cZ, 169, .inl (xf_z u.1))), (m8, .inl (cI, 169, .inl u.2)), (m9, .inl (cZ, 13, .inl (xf_z (xm_f1 (fun k => !b0.testBit k) dc 0 lf))))]) := by
  refine xc_Wi_of (by decide) (Nat.le_of_ble_eq_true rfl) ?_
  intro p e s m args below meth c Q ls A hAt hP hK hD hA hS hl hret
  obtain ⟨hx, hb, hml, hown, hts, hgs, hlk⟩ := id hAt
  have hT : ∀ w ∈ xw_g, w ∈ xc_ws xy_M_isEnough xb_M_isEnough 5 (some .boolean) := fun w h => List.mem_cons_of_mem _ h
  have hown : s.vm.findClass "WishLedgerModel" = some m.cls := hown
  obtain ⟨H, hH0⟩ : ∃ H, H = s.heap := ⟨_, rfl⟩
  obtain ⟨locs, hL0⟩ : ∃ locs : List Loc, locs = [] := ⟨_, rfl⟩
  have hP : va_P D xn_cl [(m0, .inr (6, [.int cd, .int (nI gc), .int (nI dc), .ref m1, .ref m2, .ref m3, .ref m4, .ref m5, .ref m6, .ref m7, .ref m8, .ref m9, .ref m10])), (m5, .inl (cZ, 169, .inl (xf_z gd))), (m6, .inl (cZ, 169, .inl (xf_z bd))), (m7, .inl (cZ, 169, .inl (xf_z ch))), (m8, .inl (cI, 169, .inl st)), (m9, .inl (cZ, 13, .inl (xf_z lf)))] H := by rw [hH0]; exact hP
  have hS : va_S A s.heap H locs := by rw [hH0, hL0]; exact hS
  suffices hgo : W p l e (xc_rm 3 0 0) s m args below meth c H locs 0 0 Q (F0 m 0 ls []) by rw [hH0, hL0] at hgo; exact hgo
  clear hH0 hL0
  have hl : lv_has ls 5 [(0, .ref m0), (1, .int (nI b0)), (2, .int (nI many))] := hl
  refine lv_iconst (v := nI 0) hx hb xj_M_isEnough_0 (by decide) ?_
  refine lv_istore_n (lv' := [(3, .int (nI 0)), (0, .ref m0), (1, .int (nI b0)), (2, .int (nI many))]) hx hb xj_M_isEnough_1 rfl hl (by decide) rfl (fun ls hl => ?_)
  refine lv_iconst (v := nI 0) hx hb xj_M_isEnough_2 (by decide) ?_
  refine lv_istore (lv' := [(4, .int (nI 0)), (3, .int (nI 0)), (0, .ref m0), (1, .int (nI b0)), (2, .int (nI many))]) hx hb xj_M_isEnough_3 hl (by decide) rfl (fun ls hl => ?_)
  have loop5 : ∀ (n : Nat) (i : Nat) (y : Nat) (l2 : Nat → Bool) (ls : Array Slot) (H : Heap) (locs : List Loc), i + n = dc → (xm_f1 (fun k => !b0.testBit k) n i l2 = xm_f1 (fun k => !b0.testBit k) dc 0 lf) → (y = xd_c (fun j => b0.testBit j) i) → lv_has ls 5 [(0, .ref m0), (1, .int (nI b0)), (2, .int (nI many)), (3, .int (nI y)), (4, .int (nI i))] → va_P D xn_cl [(m0, .inr (6, [.int cd, .int (nI gc), .int (nI dc), .ref m1, .ref m2, .ref m3, .ref m4, .ref m5, .ref m6, .ref m7, .ref m8, .ref m9, .ref m10])), (m5, .inl (cZ, 169, .inl (xf_z gd))), (m6, .inl (cZ, 169, .inl (xf_z bd))), (m7, .inl (cZ, 169, .inl (xf_z ch))), (m8, .inl (cI, 169, .inl st)), (m9, .inl (cZ, 13, .inl (xf_z l2)))] H → va_D A [(m0, .inr (6, [.int cd, .int (nI gc), .int (nI dc), .ref m1, .ref m2, .ref m3, .ref m4, .ref m5, .ref m6, .ref m7, .ref m8, .ref m9, .ref m10])), (m5, .inl (cZ, 169, .inl (xf_z gd))), (m6, .inl (cZ, 169, .inl (xf_z bd))), (m7, .inl (cZ, 169, .inl (xf_z ch))), (m8, .inl (cI, 169, .inl st)), (m9, .inl (cZ, 13, .inl (xf_z l2)))] → va_S A s.heap H locs → W p l e (xc_rm 3 0 0) s m args below meth c H locs 0 0 Q (F0 m 5 ls []) := by
    intro n
    induction n with
    | zero =>
      intro i y l2 ls H locs hi5 hl1 hy hl hP hD hS
      refine lv_iload hx hb xj_M_isEnough_5 (lv_at hl 4 rfl) ?_
      refine lv_aload_n hx hb xj_M_isEnough_7 rfl (lv_at hl 0 rfl) ?_
      refine va_get (D := D) (ci := 6) (v := .int (nI dc)) (C := xn_M) (T := xn_TM) (N := 13) hx hb hgs xw_uM hown hK.1 hP 0 rfl rfl 2 (by decide) (hgs _ xw_532) (fun _ h9 => h9) rfl xj_M_isEnough_8 ?_
      refine xr_ge (tgt := 59) hx hb (by omega) (by omega) xj_M_isEnough_11 rfl (fun h11 => ?_) (fun h11 => absurd h11 (by omega))
      have hyb : y ≤ 12 := by rw [hy]; exact Nat.le_trans (xd_c_le _ _) (by omega)
      refine lv_iload_n hx hb xj_M_isEnough_59 rfl (lv_at hl 3 rfl) ?_
      refine lv_iload_n hx hb xj_M_isEnough_60 rfl (lv_at hl 2 rfl) ?_
      refine xr_ne (tgt := 79) hx hb (by omega) (by omega) xj_M_isEnough_61 rfl (fun h61 => ?_) (fun h61 => ?_)
      · -- 79
        refine lv_iconst (v := nI 0) hx hb xj_M_isEnough_79 (by decide) ?_
        obtain rfl : l2 = _ := hl1
        have hye : xd_c (fun j => b0.testBit j) dc = y := by rw [hy, show i = dc by omega]
        exact hret (nI 0) ((ch, st)) H locs _ ls (by rw [← xm_en_eq (m := dc) (by omega) (gd := gd) (bd := bd) (lf := lf) (ch := ch) (st := st) (bits := b0) (many := many), hye, decide_eq_false h61]; rfl) (xf_nar_b false) hP hD hS xj_M_isEnough_80
      · -- 64
        obtain rfl : l2 = _ := hl1
        refine lv_aload_n hx hb xj_M_isEnough_64 rfl (lv_at hl 0 rfl) ?_
        refine lv_aload_n hx hb xj_M_isEnough_65 rfl (lv_at hl 0 rfl) ?_
        refine va_get (D := D) (ci := 6) (v := .int (nI dc)) (C := xn_M) (T := xn_TM) (N := 13) hx hb hgs xw_uM hown hK.1 hP 0 rfl rfl 2 (by decide) (hgs _ xw_532) (fun _ h9 => h9) rfl xj_M_isEnough_66 ?_
        refine xc_wVi (av := [.int (nI dc)]) (rest := []) (wr := []) hAt hT (xt_M_isFine l D cI cZ cJ m0 m1 m2 m3 m4 m5 m6 m7 m8 m9 m10 cd gc dc gd bd ch st (xm_f1 (fun k => !b0.testBit k) dc 0 lf) dc (by omega)) xw_638 xw_7 xw_641 xw_640 xs_M_isFine (C0 := xn_M) (q0 := 0) rfl rfl (na := 1) rfl (by decide +kernel) ⟨Nat.le_of_ble_eq_true rfl, Nat.le_of_ble_eq_true rfl⟩ hP hD hS hA [0, 1, 2, 3, 4, 5] [] rfl rfl (by decide) (by decide) (by decide) hK hl.1 (Nat.le_of_ble_eq_true rfl) ⟨Nat.zero_le _, Nat.zero_le _⟩ xj_M_isEnough_69 (fun r69 _ H locs hr69 hP hD hS => ?_)
        obtain rfl : r69 = xf_bI (!xm_nf dc (xm_f1 (fun k => !b0.testBit k) dc 0 lf) bd (xm_K dc (xm_f1 (fun k => !b0.testBit k) dc 0 lf) gd ch st).1) := hr69
        have hP : va_P D xn_cl [(m0, .inr (6, [.int cd, .int (nI gc), .int (nI dc), .ref m1, .ref m2, .ref m3, .ref m4, .ref m5, .ref m6, .ref m7, .ref m8, .ref m9, .ref m10])), (m5, .inl (cZ, 169, .inl (xf_z gd))), (m6, .inl (cZ, 169, .inl (xf_z bd))), (m7, .inl (cZ, 169, .inl (xf_z ((xm_K dc (xm_f1 (fun k => !b0.testBit k) dc 0 lf) gd ch st).1)))), (m8, .inl (cI, 169, .inl ((xm_K dc (xm_f1 (fun k => !b0.testBit k) dc 0 lf) gd ch st).2.1))), (m9, .inl (cZ, 13, .inl (xf_z (xm_f1 (fun k => !b0.testBit k) dc 0 lf))))] H := hP
        have hD : va_D A [(m0, .inr (6, [.int cd, .int (nI gc), .int (nI dc), .ref m1, .ref m2, .ref m3, .ref m4, .ref m5, .ref m6, .ref m7, .ref m8, .ref m9, .ref m10])), (m5, .inl (cZ, 169, .inl (xf_z gd))), (m6, .inl (cZ, 169, .inl (xf_z bd))), (m7, .inl (cZ, 169, .inl (xf_z ((xm_K dc (xm_f1 (fun k => !b0.testBit k) dc 0 lf) gd ch st).1)))), (m8, .inl (cI, 169, .inl ((xm_K dc (xm_f1 (fun k => !b0.testBit k) dc 0 lf) gd ch st).2.1))), (m9, .inl (cZ, 13, .inl (xf_z (xm_f1 (fun k => !b0.testBit k) dc 0 lf))))] := hD
        refine xr_ifeq (tgt := 79) hx hb xj_M_isEnough_72 rfl (fun h72 => ?_) (fun h72 => ?_)
        · -- 79
          refine lv_iconst (v := nI 0) hx hb xj_M_isEnough_79 (by decide) ?_
          have hye : xd_c (fun j => b0.testBit j) dc = y := by rw [hy, show i = dc by omega]
          exact hret (nI 0) (((xm_K dc (xm_f1 (fun k => !b0.testBit k) dc 0 lf) gd ch st).1, (xm_K dc (xm_f1 (fun k => !b0.testBit k) dc 0 lf) gd ch st).2.1)) H locs _ ls (by rw [← xm_en_eq (m := dc) (by omega) (gd := gd) (bd := bd) (lf := lf) (ch := ch) (st := st) (bits := b0) (many := many), hye, decide_eq_true h61, Bool.true_and, h72]; rfl) (xf_nar_b false) hP hD hS xj_M_isEnough_80
        · -- 75
          refine lv_iconst (v := nI 1) hx hb xj_M_isEnough_75 (by decide) ?_
          refine lv_goto (tgt := 80) hx hb xj_M_isEnough_76 rfl ?_
          have hye : xd_c (fun j => b0.testBit j) dc = y := by rw [hy, show i = dc by omega]
          exact hret (nI 1) (((xm_K dc (xm_f1 (fun k => !b0.testBit k) dc 0 lf) gd ch st).1, (xm_K dc (xm_f1 (fun k => !b0.testBit k) dc 0 lf) gd ch st).2.1)) H locs _ ls (by rw [← xm_en_eq (m := dc) (by omega) (gd := gd) (bd := bd) (lf := lf) (ch := ch) (st := st) (bits := b0) (many := many), hye, decide_eq_true h61, Bool.true_and, h72]; rfl) (xf_nar_b true) hP hD hS xj_M_isEnough_80
    | succ n ih5 =>
      intro i y l2 ls H locs hi5 hl1 hy hl hP hD hS
      refine lv_iload hx hb xj_M_isEnough_5 (lv_at hl 4 rfl) ?_
      refine lv_aload_n hx hb xj_M_isEnough_7 rfl (lv_at hl 0 rfl) ?_
      refine va_get (D := D) (ci := 6) (v := .int (nI dc)) (C := xn_M) (T := xn_TM) (N := 13) hx hb hgs xw_uM hown hK.1 hP 0 rfl rfl 2 (by decide) (hgs _ xw_532) (fun _ h9 => h9) rfl xj_M_isEnough_8 ?_
      refine xr_ge (tgt := 59) hx hb (by omega) (by omega) xj_M_isEnough_11 rfl (fun h11 => absurd h11 (by omega)) (fun h11 => ?_)
      refine lv_aload_n hx hb xj_M_isEnough_14 rfl (lv_at hl 0 rfl) ?_
      refine va_get (D := D) (ci := 6) (v := .ref m9) (C := xn_M) (T := xn_TM) (N := 13) hx hb hgs xw_uM hown hK.1 hP 0 rfl rfl 11 (by decide) (hgs _ xw_541) (fun _ h9 => h9) rfl xj_M_isEnough_15 ?_
      refine lv_iload hx hb xj_M_isEnough_18 (lv_at hl 4 rfl) ?_
      refine lv_iload_n hx hb xj_M_isEnough_20 rfl (lv_at hl 1 rfl) ?_
      refine lv_iload hx hb xj_M_isEnough_21 (lv_at hl 4 rfl) ?_
      refine lv_ishr hx hb xj_M_isEnough_23 ?_
      refine lv_iconst (v := nI 1) hx hb xj_M_isEnough_24 (by decide) ?_
      refine lv_iand hx hb xj_M_isEnough_25 ?_
      refine lv_if_ne (tgt := 33) hx hb xj_M_isEnough_26 rfl (fun h26 => ?_) (fun h26 => ?_)
      · -- 33
        have hbt : b0.testBit i = true := (Bool.eq_false_or_eq_true _).resolve_right (fun z => h26 ((xm_tb (by omega)).mpr z))
        refine lv_iconst (v := nI 0) hx hb xj_M_isEnough_33 (by decide) ?_
        refine xr_topz (b := false) rfl ?_
        refine xr_zast hx hb hK.1 hP hD hS 5 1 rfl rfl (by omega) (by decide) xj_M_isEnough_34 (fun H locs hP hD hS => ?_)
        rw [xf_z_up] at hP hD
        have hP : va_P D xn_cl [(m0, .inr (6, [.int cd, .int (nI gc), .int (nI dc), .ref m1, .ref m2, .ref m3, .ref m4, .ref m5, .ref m6, .ref m7, .ref m8, .ref m9, .ref m10])), (m5, .inl (cZ, 169, .inl (xf_z gd))), (m6, .inl (cZ, 169, .inl (xf_z bd))), (m7, .inl (cZ, 169, .inl (xf_z ch))), (m8, .inl (cI, 169, .inl st)), (m9, .inl (cZ, 13, .inl (xf_z (va_up l2 i false))))] H := hP
        have hD : va_D A [(m0, .inr (6, [.int cd, .int (nI gc), .int (nI dc), .ref m1, .ref m2, .ref m3, .ref m4, .ref m5, .ref m6, .ref m7, .ref m8, .ref m9, .ref m10])), (m5, .inl (cZ, 169, .inl (xf_z gd))), (m6, .inl (cZ, 169, .inl (xf_z bd))), (m7, .inl (cZ, 169, .inl (xf_z ch))), (m8, .inl (cI, 169, .inl st)), (m9, .inl (cZ, 13, .inl (xf_z (va_up l2 i false))))] := hD
        refine lv_iload_n hx hb xj_M_isEnough_35 rfl (lv_at hl 3 rfl) ?_
        refine lv_aload_n hx hb xj_M_isEnough_36 rfl (lv_at hl 0 rfl) ?_
        refine va_get (D := D) (ci := 6) (v := .ref m9) (C := xn_M) (T := xn_TM) (N := 13) hx hb hgs xw_uM hown hK.1 hP 0 rfl rfl 11 (by decide) (hgs _ xw_541) (fun _ h9 => h9) rfl xj_M_isEnough_37 ?_
        refine lv_iload hx hb xj_M_isEnough_40 (lv_at hl 4 rfl) ?_
        refine xr_zald hx hb hK.1 hP 5 1 rfl rfl (by omega) (by decide) xj_M_isEnough_42 ?_
        refine xr_top (y := xf_bI (((va_up l2 i false)) i)) rfl ?_
        refine xr_top (y := nI 0) (by rw [show va_up l2 i false i = false from va_up_self _ _ _]; rfl) ?_
        refine xr_ifeqN (tgt := 50) hx hb (by omega) xj_M_isEnough_43 rfl (fun h43 => ?_) (fun h43 => absurd h43 (by omega))
        refine lv_iconst (v := nI 1) hx hb xj_M_isEnough_50 (by decide) ?_
        refine xr_iadd hx hb xj_M_isEnough_51 ?_
        refine lv_istore_n (lv' := [(3, .int (nI (y + 1))), (0, .ref m0), (1, .int (nI b0)), (2, .int (nI many)), (4, .int (nI i))]) hx hb xj_M_isEnough_52 rfl hl (by decide) rfl (fun ls hl => ?_)
        refine lv_iinc (k := 4) (v := nI (i + 1)) (lv' := [(4, .int (nI (i + 1))), (3, .int (nI (y + 1))), (0, .ref m0), (1, .int (nI b0)), (2, .int (nI many))]) hx hb xj_M_isEnough_53 hl rfl (xr_inc _) (by decide) rfl (fun ls hl => ?_)
        refine lv_goto (tgt := 5) hx hb xj_M_isEnough_56 rfl ?_
        exact ih5 (i + 1) (y + 1) ((va_up l2 i false)) ls _ _ (by omega) ((xm_f1_s (f := fun k => !b0.testBit k) (show (!b0.testBit i) = false by rw [hbt]; rfl)).symm.trans hl1) (by have h9 := xd_c_s (p := (fun j => b0.testBit j)) hbt; omega) (lv_sub hl [2, 3, 4, 1, 0] rfl) hP hD hS
      · -- 29
        have hbt : b0.testBit i = false := (xm_tb (by omega)).mp h26
        refine lv_iconst (v := nI 1) hx hb xj_M_isEnough_29 (by decide) ?_
        refine lv_goto (tgt := 34) hx hb xj_M_isEnough_30 rfl ?_
        refine xr_topz (b := true) rfl ?_
        refine xr_zast hx hb hK.1 hP hD hS 5 1 rfl rfl (by omega) (by decide) xj_M_isEnough_34 (fun H locs hP hD hS => ?_)
        rw [xf_z_up] at hP hD
        have hP : va_P D xn_cl [(m0, .inr (6, [.int cd, .int (nI gc), .int (nI dc), .ref m1, .ref m2, .ref m3, .ref m4, .ref m5, .ref m6, .ref m7, .ref m8, .ref m9, .ref m10])), (m5, .inl (cZ, 169, .inl (xf_z gd))), (m6, .inl (cZ, 169, .inl (xf_z bd))), (m7, .inl (cZ, 169, .inl (xf_z ch))), (m8, .inl (cI, 169, .inl st)), (m9, .inl (cZ, 13, .inl (xf_z (va_up l2 i true))))] H := hP
        have hD : va_D A [(m0, .inr (6, [.int cd, .int (nI gc), .int (nI dc), .ref m1, .ref m2, .ref m3, .ref m4, .ref m5, .ref m6, .ref m7, .ref m8, .ref m9, .ref m10])), (m5, .inl (cZ, 169, .inl (xf_z gd))), (m6, .inl (cZ, 169, .inl (xf_z bd))), (m7, .inl (cZ, 169, .inl (xf_z ch))), (m8, .inl (cI, 169, .inl st)), (m9, .inl (cZ, 13, .inl (xf_z (va_up l2 i true))))] := hD
        refine lv_iload_n hx hb xj_M_isEnough_35 rfl (lv_at hl 3 rfl) ?_
        refine lv_aload_n hx hb xj_M_isEnough_36 rfl (lv_at hl 0 rfl) ?_
        refine va_get (D := D) (ci := 6) (v := .ref m9) (C := xn_M) (T := xn_TM) (N := 13) hx hb hgs xw_uM hown hK.1 hP 0 rfl rfl 11 (by decide) (hgs _ xw_541) (fun _ h9 => h9) rfl xj_M_isEnough_37 ?_
        refine lv_iload hx hb xj_M_isEnough_40 (lv_at hl 4 rfl) ?_
        refine xr_zald hx hb hK.1 hP 5 1 rfl rfl (by omega) (by decide) xj_M_isEnough_42 ?_
        refine xr_top (y := xf_bI (((va_up l2 i true)) i)) rfl ?_
        refine xr_top (y := nI 1) (by rw [show va_up l2 i true i = true from va_up_self _ _ _]; rfl) ?_
        refine xr_ifeqN (tgt := 50) hx hb (by omega) xj_M_isEnough_43 rfl (fun h43 => absurd h43 (by omega)) (fun h43 => ?_)
        refine lv_iconst (v := nI 0) hx hb xj_M_isEnough_46 (by decide) ?_
        refine lv_goto (tgt := 51) hx hb xj_M_isEnough_47 rfl ?_
        refine xr_iadd hx hb xj_M_isEnough_51 ?_
        refine lv_istore_n (lv' := [(3, .int (nI (y + 0))), (0, .ref m0), (1, .int (nI b0)), (2, .int (nI many)), (4, .int (nI i))]) hx hb xj_M_isEnough_52 rfl hl (by decide) rfl (fun ls hl => ?_)
        refine lv_iinc (k := 4) (v := nI (i + 1)) (lv' := [(4, .int (nI (i + 1))), (3, .int (nI (y + 0))), (0, .ref m0), (1, .int (nI b0)), (2, .int (nI many))]) hx hb xj_M_isEnough_53 hl rfl (xr_inc _) (by decide) rfl (fun ls hl => ?_)
        refine lv_goto (tgt := 5) hx hb xj_M_isEnough_56 rfl ?_
        exact ih5 (i + 1) (y + 0) ((va_up l2 i true)) ls _ _ (by omega) ((xm_f1_s (f := fun k => !b0.testBit k) (show (!b0.testBit i) = true by rw [hbt]; rfl)).symm.trans hl1) (by have h9 := xd_c_z (p := (fun j => b0.testBit j)) hbt; omega) (lv_sub hl [2, 3, 4, 1, 0] rfl) hP hD hS
  exact loop5 dc 0 0 lf ls _ _ (by omega) rfl rfl (lv_sub hl [2, 3, 4, 1, 0] rfl) hP hD hS
set_option maxRecDepth 100000 in
set_option maxHeartbeats 4000000 in
theorem xt_M_fewest (l : Launch) (D : va_G) (cI cZ cJ : ClassId) (m0 m1 m2 m3 m4 m5 m6 m7 m8 m9 m10 : Nat) (cd : Int32) (gc dc : Nat) (P : Nat → Int32) (A0 : Nat → Int32) (gd : Nat → Bool) (bd : Nat → Bool) (ch : Nat → Bool) (st : Nat → Int32) (lf : Nat → Bool) (hg : gc ≤ 6) (hd : dc ≤ 12) : xc_Wi l xy_M_fewest xb_M_fewest 3 .int 4 0 0 [.ref m0] D cI cZ cJ [(m0, .inr (6, [.int cd, .int (nI gc), .int (nI dc), .ref m1, .ref m2, .ref m3, .ref m4, .ref m5, .ref m6, .ref m7, .ref m8, .ref m9, .ref m10])), (m1, .inl (cI, 78, .inl P)), (m2, .inl (cI, 78, .inl A0)), (m5, .inl (cZ, 169, .inl (xf_z gd))), (m6, .inl (cZ, 169, .inl (xf_z bd))), (m7, .inl (cZ, 169, .inl (xf_z ch))), (m8, .inl (cI, 169, .inl st)), (m9, .inl (cZ, 13, .inl (xf_z lf)))] ((Nat → Bool) × (Nat → Int32) × (Nat → Bool)) (fun r _ => ∃ X, r = nI X ∧ X < 2 ^ dc ∧ xm_fwp dc (xm_en dc (xm_G (xk_c gc P A0) (lN 1) (lN 1) dc gd) (xm_B (xk_c gc P A0) (lN 1) (lN 1) dc bd)) X) (fun u => [(m0, .inr (6, [.int cd, .int (nI gc), .int (nI dc), .ref m1, .ref m2, .ref m3, .ref m4, .ref m5, .ref m6, .ref m7, .ref m8, .ref m9, .ref m10])), (m1, .inl (cI, 78, .inl P)), (m2, .inl (cI, 78, .inl A0)), (m5, .inl (cZ, 169, .inl (xf_z (xm_G (xk_c gc P A0) (lN 1) (lN 1) dc gd)))), (m6, .inl (cZ, 169, .inl (xf_z (xm_B (xk_c gc P A0) (lN 1) (lN 1) dc bd)))), (m7, .inl (cZ, 169, .inl (xf_z u.1))), (m8, .inl (cI, 169, .inl u.2.1)), (m9, .inl (cZ, 13, .inl (xf_z u.2.2)))]) := by
  refine xc_Wi_of (by decide) (Nat.le_of_ble_eq_true rfl) ?_
  intro p e s m args below meth c Q ls A hAt hP hK hD hA hS hl hret
  obtain ⟨hx, hb, hml, hown, hts, hgs, hlk⟩ := id hAt
  have hT : ∀ w ∈ xw_g, w ∈ xc_ws xy_M_fewest xb_M_fewest 3 (some .int) := fun w h => List.mem_cons_of_mem _ h
  have hown : s.vm.findClass "WishLedgerModel" = some m.cls := hown
  obtain ⟨N2, hN2⟩ : ∃ N2, N2 = 2 ^ dc := ⟨_, rfl⟩
  have hNb : N2 ≤ 4096 := by rw [hN2]; exact Nat.le_trans (Nat.pow_le_pow_right (by decide) hd) (by decide)
  obtain ⟨H, hH0⟩ : ∃ H, H = s.heap := ⟨_, rfl⟩
  obtain ⟨locs, hL0⟩ : ∃ locs : List Loc, locs = [] := ⟨_, rfl⟩
  have hP : va_P D xn_cl [(m0, .inr (6, [.int cd, .int (nI gc), .int (nI dc), .ref m1, .ref m2, .ref m3, .ref m4, .ref m5, .ref m6, .ref m7, .ref m8, .ref m9, .ref m10])), (m1, .inl (cI, 78, .inl P)), (m2, .inl (cI, 78, .inl A0)), (m5, .inl (cZ, 169, .inl (xf_z gd))), (m6, .inl (cZ, 169, .inl (xf_z bd))), (m7, .inl (cZ, 169, .inl (xf_z ch))), (m8, .inl (cI, 169, .inl st)), (m9, .inl (cZ, 13, .inl (xf_z lf)))] H := by rw [hH0]; exact hP
  have hS : va_S A s.heap H locs := by rw [hH0, hL0]; exact hS
  suffices hgo : W p l e (xc_rm 4 0 0) s m args below meth c H locs 0 0 Q (F0 m 0 ls []) by rw [hH0, hL0] at hgo; exact hgo
  clear hH0 hL0
  have hl : lv_has ls 3 [(0, .ref m0)] := hl
  refine lv_aload_n hx hb xj_M_fewest_0 rfl (lv_at hl 0 rfl) ?_
  refine lv_aload_n hx hb xj_M_fewest_1 rfl (lv_at hl 0 rfl) ?_
  refine va_get (D := D) (ci := 6) (v := .int (nI dc)) (C := xn_M) (T := xn_TM) (N := 13) hx hb hgs xw_uM hown hK.1 hP 0 rfl rfl 2 (by decide) (hgs _ xw_532) (fun _ h9 => h9) rfl xj_M_fewest_2 ?_
  refine lv_lconst (v := lN 1) hx hb xj_M_fewest_5 (by decide) ?_
  refine lv_lconst (v := lN 1) hx hb xj_M_fewest_6 (by decide) ?_
  refine xc_wVv (av := [.int (nI dc), .long (lN 1), .long (lN 1)]) (rest := []) (wr := [(m7, .inl (cZ, 169, .inl (xf_z ch))), (m8, .inl (cI, 169, .inl st))]) hAt hT (xt_M_relate l D cI cZ cJ m0 m1 m2 m3 m4 m5 m6 m7 m8 m9 m10 cd gc dc P A0 gd bd lf dc (lN 1) (lN 1) (by omega) (by omega)) xw_622 xw_7 xw_625 xw_624 xs_M_relate (C0 := xn_M) (q0 := 0) rfl rfl (na := 3) rfl (by decide +kernel) ⟨Nat.le_of_ble_eq_true rfl, Nat.le_of_ble_eq_true rfl⟩ hP hD hS hA [0, 1, 2, 3, 4, 7] [5, 6] rfl rfl (by decide) (by decide) (by decide) hK hl.1 (Nat.le_of_ble_eq_true rfl) ⟨Nat.zero_le _, Nat.zero_le _⟩ xj_M_fewest_7 (fun _ H locs _ hP hD hS => ?_)
  have hP : va_P D xn_cl [(m0, .inr (6, [.int cd, .int (nI gc), .int (nI dc), .ref m1, .ref m2, .ref m3, .ref m4, .ref m5, .ref m6, .ref m7, .ref m8, .ref m9, .ref m10])), (m1, .inl (cI, 78, .inl P)), (m2, .inl (cI, 78, .inl A0)), (m5, .inl (cZ, 169, .inl (xf_z (xm_G (xk_c gc P A0) (lN 1) (lN 1) dc gd)))), (m6, .inl (cZ, 169, .inl (xf_z (xm_B (xk_c gc P A0) (lN 1) (lN 1) dc bd)))), (m7, .inl (cZ, 169, .inl (xf_z ch))), (m8, .inl (cI, 169, .inl st)), (m9, .inl (cZ, 13, .inl (xf_z (xm_L dc lf))))] H := va_P.sub hP [2, 3, 4, 5, 6, 0, 1, 7] rfl
  have hD : va_D A [(m0, .inr (6, [.int cd, .int (nI gc), .int (nI dc), .ref m1, .ref m2, .ref m3, .ref m4, .ref m5, .ref m6, .ref m7, .ref m8, .ref m9, .ref m10])), (m1, .inl (cI, 78, .inl P)), (m2, .inl (cI, 78, .inl A0)), (m5, .inl (cZ, 169, .inl (xf_z (xm_G (xk_c gc P A0) (lN 1) (lN 1) dc gd)))), (m6, .inl (cZ, 169, .inl (xf_z (xm_B (xk_c gc P A0) (lN 1) (lN 1) dc bd)))), (m7, .inl (cZ, 169, .inl (xf_z ch))), (m8, .inl (cI, 169, .inl st)), (m9, .inl (cZ, 13, .inl (xf_z (xm_L dc lf))))] := va_D.sub hD [2, 3, 4, 5, 6, 0, 1, 7] (by decide) rfl
  refine lv_iconst (v := nI 0) hx hb xj_M_fewest_10 (by decide) ?_
  refine lv_istore_n (lv' := [(1, .int (nI 0)), (0, .ref m0)]) hx hb xj_M_fewest_11 rfl hl (by decide) rfl (fun ls hl => ?_)
  have loop12 : ∀ (n : Nat) (i : Nat) (c2 : Nat → Bool) (s2 : Nat → Int32) (l2 : Nat → Bool) (ls : Array Slot) (H : Heap) (locs : List Loc), i + n = dc → (∀ j, j < i → ∀ Y, Y < 2 ^ dc → (xm_en dc (xm_G (xk_c gc P A0) (lN 1) (lN 1) dc gd) (xm_B (xk_c gc P A0) (lN 1) (lN 1) dc bd)) Y j = false) → lv_has ls 3 [(0, .ref m0), (1, .int (nI i))] → va_P D xn_cl [(m0, .inr (6, [.int cd, .int (nI gc), .int (nI dc), .ref m1, .ref m2, .ref m3, .ref m4, .ref m5, .ref m6, .ref m7, .ref m8, .ref m9, .ref m10])), (m1, .inl (cI, 78, .inl P)), (m2, .inl (cI, 78, .inl A0)), (m5, .inl (cZ, 169, .inl (xf_z (xm_G (xk_c gc P A0) (lN 1) (lN 1) dc gd)))), (m6, .inl (cZ, 169, .inl (xf_z (xm_B (xk_c gc P A0) (lN 1) (lN 1) dc bd)))), (m7, .inl (cZ, 169, .inl (xf_z c2))), (m8, .inl (cI, 169, .inl s2)), (m9, .inl (cZ, 13, .inl (xf_z l2)))] H → va_D A [(m0, .inr (6, [.int cd, .int (nI gc), .int (nI dc), .ref m1, .ref m2, .ref m3, .ref m4, .ref m5, .ref m6, .ref m7, .ref m8, .ref m9, .ref m10])), (m1, .inl (cI, 78, .inl P)), (m2, .inl (cI, 78, .inl A0)), (m5, .inl (cZ, 169, .inl (xf_z (xm_G (xk_c gc P A0) (lN 1) (lN 1) dc gd)))), (m6, .inl (cZ, 169, .inl (xf_z (xm_B (xk_c gc P A0) (lN 1) (lN 1) dc bd)))), (m7, .inl (cZ, 169, .inl (xf_z c2))), (m8, .inl (cI, 169, .inl s2)), (m9, .inl (cZ, 13, .inl (xf_z l2)))] → va_S A s.heap H locs → W p l e (xc_rm 4 0 0) s m args below meth c H locs 0 0 Q (F0 m 12 ls []) := by
    intro n
    induction n with
    | zero =>
      intro i c2 s2 l2 ls H locs hi12 hno hl hP hD hS
      refine lv_iload_n hx hb xj_M_fewest_12 rfl (lv_at hl 1 rfl) ?_
      refine lv_aload_n hx hb xj_M_fewest_13 rfl (lv_at hl 0 rfl) ?_
      refine va_get (D := D) (ci := 6) (v := .int (nI dc)) (C := xn_M) (T := xn_TM) (N := 13) hx hb hgs xw_uM hown hK.1 hP 0 rfl rfl 2 (by decide) (hgs _ xw_532) (fun _ h9 => h9) rfl xj_M_fewest_14 ?_
      refine xr_ge (tgt := 55) hx hb (by omega) (by omega) xj_M_fewest_17 rfl (fun h17 => ?_) (fun h17 => absurd h17 (by omega))
      refine lv_iconst (v := nI 0) hx hb xj_M_fewest_55 (by decide) ?_
      exact hret (nI 0) ((c2, s2, l2)) H locs _ ls (⟨0, rfl, Nat.pow_pos (by decide), Or.inr ⟨rfl, fun j hj => hno j (by omega)⟩⟩) rfl hP hD hS xj_M_fewest_56
    | succ n ih12 =>
      intro i c2 s2 l2 ls H locs hi12 hno hl hP hD hS
      refine lv_iload_n hx hb xj_M_fewest_12 rfl (lv_at hl 1 rfl) ?_
      refine lv_aload_n hx hb xj_M_fewest_13 rfl (lv_at hl 0 rfl) ?_
      refine va_get (D := D) (ci := 6) (v := .int (nI dc)) (C := xn_M) (T := xn_TM) (N := 13) hx hb hgs xw_uM hown hK.1 hP 0 rfl rfl 2 (by decide) (hgs _ xw_532) (fun _ h9 => h9) rfl xj_M_fewest_14 ?_
      refine xr_ge (tgt := 55) hx hb (by omega) (by omega) xj_M_fewest_17 rfl (fun h17 => absurd h17 (by omega)) (fun h17 => ?_)
      refine lv_iconst (v := nI 0) hx hb xj_M_fewest_20 (by decide) ?_
      refine lv_istore_n (lv' := [(2, .int (nI 0)), (0, .ref m0), (1, .int (nI i))]) hx hb xj_M_fewest_21 rfl hl (by decide) rfl (fun ls hl => ?_)
      have loop22 : ∀ (k : Nat) (j : Nat) (c3 : Nat → Bool) (s3 : Nat → Int32) (l3 : Nat → Bool) (ls : Array Slot) (H : Heap) (locs : List Loc), j + k = N2 → (∀ Y, Y < j → (xm_en dc (xm_G (xk_c gc P A0) (lN 1) (lN 1) dc gd) (xm_B (xk_c gc P A0) (lN 1) (lN 1) dc bd)) Y i = false) → lv_has ls 3 [(0, .ref m0), (1, .int (nI i)), (2, .int (nI j))] → va_P D xn_cl [(m0, .inr (6, [.int cd, .int (nI gc), .int (nI dc), .ref m1, .ref m2, .ref m3, .ref m4, .ref m5, .ref m6, .ref m7, .ref m8, .ref m9, .ref m10])), (m1, .inl (cI, 78, .inl P)), (m2, .inl (cI, 78, .inl A0)), (m5, .inl (cZ, 169, .inl (xf_z (xm_G (xk_c gc P A0) (lN 1) (lN 1) dc gd)))), (m6, .inl (cZ, 169, .inl (xf_z (xm_B (xk_c gc P A0) (lN 1) (lN 1) dc bd)))), (m7, .inl (cZ, 169, .inl (xf_z c3))), (m8, .inl (cI, 169, .inl s3)), (m9, .inl (cZ, 13, .inl (xf_z l3)))] H → va_D A [(m0, .inr (6, [.int cd, .int (nI gc), .int (nI dc), .ref m1, .ref m2, .ref m3, .ref m4, .ref m5, .ref m6, .ref m7, .ref m8, .ref m9, .ref m10])), (m1, .inl (cI, 78, .inl P)), (m2, .inl (cI, 78, .inl A0)), (m5, .inl (cZ, 169, .inl (xf_z (xm_G (xk_c gc P A0) (lN 1) (lN 1) dc gd)))), (m6, .inl (cZ, 169, .inl (xf_z (xm_B (xk_c gc P A0) (lN 1) (lN 1) dc bd)))), (m7, .inl (cZ, 169, .inl (xf_z c3))), (m8, .inl (cI, 169, .inl s3)), (m9, .inl (cZ, 13, .inl (xf_z l3)))] → va_S A s.heap H locs → W p l e (xc_rm 4 0 0) s m args below meth c H locs 0 0 Q (F0 m 22 ls []) := by
        intro k
        induction k with
        | zero =>
          intro j c3 s3 l3 ls H locs hi22 hni hl hP hD hS
          refine lv_iload_n hx hb xj_M_fewest_22 rfl (lv_at hl 2 rfl) ?_
          refine lv_iconst (v := nI 1) hx hb xj_M_fewest_23 (by decide) ?_
          refine lv_aload_n hx hb xj_M_fewest_24 rfl (lv_at hl 0 rfl) ?_
          refine va_get (D := D) (ci := 6) (v := .int (nI dc)) (C := xn_M) (T := xn_TM) (N := 13) hx hb hgs xw_uM hown hK.1 hP 0 rfl rfl 2 (by decide) (hgs _ xw_532) (fun _ h9 => h9) rfl xj_M_fewest_25 ?_
          refine lv_ishl hx hb xj_M_fewest_28 ?_
          refine xr_top (y := nI N2) (by rw [hN2]; exact xm_shl dc (by omega)) ?_
          refine xr_ge (tgt := 49) hx hb (by omega) (by omega) xj_M_fewest_29 rfl (fun h29 => ?_) (fun h29 => absurd h29 (by omega))
          refine lv_iinc (k := 1) (v := nI (i + 1)) (lv' := [(1, .int (nI (i + 1))), (0, .ref m0), (2, .int (nI j))]) hx hb xj_M_fewest_49 hl rfl (xr_inc _) (by decide) rfl (fun ls hl => ?_)
          refine lv_goto (tgt := 12) hx hb xj_M_fewest_52 rfl ?_
          exact ih12 (i + 1) c3 s3 l3 ls _ _ (by omega) (fun j2 hj2 Y hY => if z : j2 = i then by rw [z]; exact hni Y (by omega) else hno j2 (by omega) Y hY) (lv_sub hl [1, 0] rfl) hP hD hS
        | succ k ih22 =>
          intro j c3 s3 l3 ls H locs hi22 hni hl hP hD hS
          refine lv_iload_n hx hb xj_M_fewest_22 rfl (lv_at hl 2 rfl) ?_
          refine lv_iconst (v := nI 1) hx hb xj_M_fewest_23 (by decide) ?_
          refine lv_aload_n hx hb xj_M_fewest_24 rfl (lv_at hl 0 rfl) ?_
          refine va_get (D := D) (ci := 6) (v := .int (nI dc)) (C := xn_M) (T := xn_TM) (N := 13) hx hb hgs xw_uM hown hK.1 hP 0 rfl rfl 2 (by decide) (hgs _ xw_532) (fun _ h9 => h9) rfl xj_M_fewest_25 ?_
          refine lv_ishl hx hb xj_M_fewest_28 ?_
          refine xr_top (y := nI N2) (by rw [hN2]; exact xm_shl dc (by omega)) ?_
          refine xr_ge (tgt := 49) hx hb (by omega) (by omega) xj_M_fewest_29 rfl (fun h29 => absurd h29 (by omega)) (fun h29 => ?_)
          refine lv_aload_n hx hb xj_M_fewest_32 rfl (lv_at hl 0 rfl) ?_
          refine lv_iload_n hx hb xj_M_fewest_33 rfl (lv_at hl 2 rfl) ?_
          refine lv_iload_n hx hb xj_M_fewest_34 rfl (lv_at hl 1 rfl) ?_
          refine xc_wVi (av := [.int (nI j), .int (nI i)]) (rest := []) (wr := [(m1, .inl (cI, 78, .inl P)), (m2, .inl (cI, 78, .inl A0))]) hAt hT (xt_M_isEnough l D cI cZ cJ m0 m1 m2 m3 m4 m5 m6 m7 m8 m9 m10 cd gc dc (xm_G (xk_c gc P A0) (lN 1) (lN 1) dc gd) (xm_B (xk_c gc P A0) (lN 1) (lN 1) dc bd) c3 s3 l3 j i (by omega) (by omega) (by omega)) xw_686 xw_7 xw_689 xw_688 xs_M_isEnough (C0 := xn_M) (q0 := 0) rfl rfl (na := 2) rfl (by decide +kernel) ⟨Nat.le_of_ble_eq_true rfl, Nat.le_of_ble_eq_true rfl⟩ hP hD hS hA [0, 3, 4, 5, 6, 7] [1, 2] rfl rfl (by decide) (by decide) (by decide) hK hl.1 (Nat.le_of_ble_eq_true rfl) ⟨Nat.zero_le _, Nat.zero_le _⟩ xj_M_fewest_35 (fun r35 u35 H locs hr35 hP hD hS => ?_)
          obtain rfl : r35 = xf_bI (xm_en dc (xm_G (xk_c gc P A0) (lN 1) (lN 1) dc gd) (xm_B (xk_c gc P A0) (lN 1) (lN 1) dc bd) j i) := hr35
          have hP : va_P D xn_cl [(m0, .inr (6, [.int cd, .int (nI gc), .int (nI dc), .ref m1, .ref m2, .ref m3, .ref m4, .ref m5, .ref m6, .ref m7, .ref m8, .ref m9, .ref m10])), (m1, .inl (cI, 78, .inl P)), (m2, .inl (cI, 78, .inl A0)), (m5, .inl (cZ, 169, .inl (xf_z (xm_G (xk_c gc P A0) (lN 1) (lN 1) dc gd)))), (m6, .inl (cZ, 169, .inl (xf_z (xm_B (xk_c gc P A0) (lN 1) (lN 1) dc bd)))), (m7, .inl (cZ, 169, .inl (xf_z u35.1))), (m8, .inl (cI, 169, .inl u35.2)), (m9, .inl (cZ, 13, .inl (xf_z (xm_f1 (fun k => !j.testBit k) dc 0 l3))))] H := va_P.sub hP [2, 0, 1, 3, 4, 5, 6, 7] rfl
          have hD : va_D A [(m0, .inr (6, [.int cd, .int (nI gc), .int (nI dc), .ref m1, .ref m2, .ref m3, .ref m4, .ref m5, .ref m6, .ref m7, .ref m8, .ref m9, .ref m10])), (m1, .inl (cI, 78, .inl P)), (m2, .inl (cI, 78, .inl A0)), (m5, .inl (cZ, 169, .inl (xf_z (xm_G (xk_c gc P A0) (lN 1) (lN 1) dc gd)))), (m6, .inl (cZ, 169, .inl (xf_z (xm_B (xk_c gc P A0) (lN 1) (lN 1) dc bd)))), (m7, .inl (cZ, 169, .inl (xf_z u35.1))), (m8, .inl (cI, 169, .inl u35.2)), (m9, .inl (cZ, 13, .inl (xf_z (xm_f1 (fun k => !j.testBit k) dc 0 l3))))] := va_D.sub hD [2, 0, 1, 3, 4, 5, 6, 7] (by decide) rfl
          refine xr_ifeq (tgt := 43) hx hb xj_M_fewest_38 rfl (fun h38 => ?_) (fun h38 => ?_)
          · -- 43
            refine lv_iinc (k := 2) (v := nI (j + 1)) (lv' := [(2, .int (nI (j + 1))), (0, .ref m0), (1, .int (nI i))]) hx hb xj_M_fewest_43 hl rfl (xr_inc _) (by decide) rfl (fun ls hl => ?_)
            refine lv_goto (tgt := 22) hx hb xj_M_fewest_46 rfl ?_
            exact ih22 (j + 1) u35.1 u35.2 ((xm_f1 (fun k => !j.testBit k) dc 0 l3)) ls _ _ (by omega) (fun Y hY => if z : Y = j then by rw [z]; exact h38 else hni Y (by omega)) (lv_sub hl [1, 2, 0] rfl) hP hD hS
          · -- 41
            refine lv_iload_n hx hb xj_M_fewest_41 rfl (lv_at hl 2 rfl) ?_
            exact hret (nI j) ((u35.1, u35.2, xm_f1 (fun k => !j.testBit k) dc 0 l3)) H locs _ ls (⟨j, rfl, by omega, Or.inl ⟨i, by omega, h38, hno, hni⟩⟩) rfl hP hD hS xj_M_fewest_42
      exact loop22 N2 0 c2 s2 l2 ls _ _ (by omega) (fun Y hY => absurd hY (Nat.not_lt_zero Y)) (lv_sub hl [1, 2, 0] rfl) hP hD hS
  exact loop12 dc 0 ch st ((xm_L dc lf)) ls _ _ (by omega) (fun j hj => absurd hj (Nat.not_lt_zero j)) (lv_sub hl [1, 0] rfl) hP hD hS
set_option maxRecDepth 100000 in
set_option maxHeartbeats 4000000 in
theorem xt_M_drop (l : Launch) (D : va_G) (cI cZ cJ : ClassId) (m0 m1 m2 m3 m4 m5 m6 m7 m8 m9 m10 : Nat) (cd : Int32) (gc dc : Nat) (P : Nat → Int32) (A0 : Nat → Int32) (gd : Nat → Bool) (bd : Nat → Bool) (ch : Nat → Bool) (st : Nat → Int32) (lf : Nat → Bool) (i : Int32) (hg : gc ≤ 6) (hd : dc ≤ 12) : xc_Wi l xy_M_drop xb_M_drop 6 .int 5 0 0 [.ref m0, .int i] D cI cZ cJ [(m0, .inr (6, [.int cd, .int (nI gc), .int (nI dc), .ref m1, .ref m2, .ref m3, .ref m4, .ref m5, .ref m6, .ref m7, .ref m8, .ref m9, .ref m10])), (m1, .inl (cI, 78, .inl P)), (m2, .inl (cI, 78, .inl A0)), (m5, .inl (cZ, 169, .inl (xf_z gd))), (m6, .inl (cZ, 169, .inl (xf_z bd))), (m7, .inl (cZ, 169, .inl (xf_z ch))), (m8, .inl (cI, 169, .inl st)), (m9, .inl (cZ, 13, .inl (xf_z lf)))] ((Nat → Bool) × (Nat → Int32) × (Nat → Bool) × Int32) (fun r u => ∃ X, X < 2 ^ dc ∧ xm_fwp dc (xm_en dc (xm_G (xk_c gc P A0) (lN 1) (lN 1) dc gd) (xm_B (xk_c gc P A0) (lN 1) (lN 1) dc bd)) X ∧ u.2.2.2 = nI (xo_drp (nI (xd_c (fun j => X.testBit j) dc)) i) ∧ (xo_drp (nI (xd_c (fun j => X.testBit j) dc)) i = 0 → (i = -1 ∧ r = nI (xd_c (fun j => X.testBit j) dc)) ∨ (¬ i = -1 ∧ r = xm_fo (fun j => X.testBit j) i dc 0 (-1)))) (fun u => [(m0, .inr (6, [.int u.2.2.2, .int (nI gc), .int (nI dc), .ref m1, .ref m2, .ref m3, .ref m4, .ref m5, .ref m6, .ref m7, .ref m8, .ref m9, .ref m10])), (m1, .inl (cI, 78, .inl P)), (m2, .inl (cI, 78, .inl A0)), (m5, .inl (cZ, 169, .inl (xf_z (xm_G (xk_c gc P A0) (lN 1) (lN 1) dc gd)))), (m6, .inl (cZ, 169, .inl (xf_z (xm_B (xk_c gc P A0) (lN 1) (lN 1) dc bd)))), (m7, .inl (cZ, 169, .inl (xf_z u.1))), (m8, .inl (cI, 169, .inl u.2.1)), (m9, .inl (cZ, 13, .inl (xf_z u.2.2.1)))]) := by
  refine xc_Wi_of (by decide) (Nat.le_of_ble_eq_true rfl) ?_
  intro p e s m args below meth c Q ls A hAt hP hK hD hA hS hl hret
  obtain ⟨hx, hb, hml, hown, hts, hgs, hlk⟩ := id hAt
  have hT : ∀ w ∈ xw_g, w ∈ xc_ws xy_M_drop xb_M_drop 6 (some .int) := fun w h => List.mem_cons_of_mem _ h
  have hown : s.vm.findClass "WishLedgerModel" = some m.cls := hown
  obtain ⟨H, hH0⟩ : ∃ H, H = s.heap := ⟨_, rfl⟩
  obtain ⟨locs, hL0⟩ : ∃ locs : List Loc, locs = [] := ⟨_, rfl⟩
  have hP : va_P D xn_cl [(m0, .inr (6, [.int cd, .int (nI gc), .int (nI dc), .ref m1, .ref m2, .ref m3, .ref m4, .ref m5, .ref m6, .ref m7, .ref m8, .ref m9, .ref m10])), (m1, .inl (cI, 78, .inl P)), (m2, .inl (cI, 78, .inl A0)), (m5, .inl (cZ, 169, .inl (xf_z gd))), (m6, .inl (cZ, 169, .inl (xf_z bd))), (m7, .inl (cZ, 169, .inl (xf_z ch))), (m8, .inl (cI, 169, .inl st)), (m9, .inl (cZ, 13, .inl (xf_z lf)))] H := by rw [hH0]; exact hP
  have hS : va_S A s.heap H locs := by rw [hH0, hL0]; exact hS
  suffices hgo : W p l e (xc_rm 5 0 0) s m args below meth c H locs 0 0 Q (F0 m 0 ls []) by rw [hH0, hL0] at hgo; exact hgo
  clear hH0 hL0
  have hl : lv_has ls 6 [(0, .ref m0), (1, .int i)] := hl
  refine lv_aload_n hx hb xj_M_drop_0 rfl (lv_at hl 0 rfl) ?_
  refine xc_wVi (av := []) (rest := []) (wr := []) hAt hT (xt_M_fewest l D cI cZ cJ m0 m1 m2 m3 m4 m5 m6 m7 m8 m9 m10 cd gc dc P A0 gd bd ch st lf (by omega) (by omega)) xw_682 xw_7 xw_685 xw_684 xs_M_fewest (C0 := xn_M) (q0 := 0) rfl rfl (na := 0) rfl (by decide +kernel) ⟨Nat.le_of_ble_eq_true rfl, Nat.le_of_ble_eq_true rfl⟩ hP hD hS hA [0, 1, 2, 3, 4, 5, 6, 7] [] rfl rfl (by decide) (by decide) (by decide) hK hl.1 (Nat.le_of_ble_eq_true rfl) ⟨Nat.zero_le _, Nat.zero_le _⟩ xj_M_drop_1 (fun r1 u1 H locs hr1 hP hD hS => ?_)
  obtain ⟨X0, e9, hX2, hXp⟩ := hr1
  subst e9
  have hP : va_P D xn_cl [(m0, .inr (6, [.int cd, .int (nI gc), .int (nI dc), .ref m1, .ref m2, .ref m3, .ref m4, .ref m5, .ref m6, .ref m7, .ref m8, .ref m9, .ref m10])), (m1, .inl (cI, 78, .inl P)), (m2, .inl (cI, 78, .inl A0)), (m5, .inl (cZ, 169, .inl (xf_z (xm_G (xk_c gc P A0) (lN 1) (lN 1) dc gd)))), (m6, .inl (cZ, 169, .inl (xf_z (xm_B (xk_c gc P A0) (lN 1) (lN 1) dc bd)))), (m7, .inl (cZ, 169, .inl (xf_z u1.1))), (m8, .inl (cI, 169, .inl u1.2.1)), (m9, .inl (cZ, 13, .inl (xf_z u1.2.2)))] H := hP
  have hD : va_D A [(m0, .inr (6, [.int cd, .int (nI gc), .int (nI dc), .ref m1, .ref m2, .ref m3, .ref m4, .ref m5, .ref m6, .ref m7, .ref m8, .ref m9, .ref m10])), (m1, .inl (cI, 78, .inl P)), (m2, .inl (cI, 78, .inl A0)), (m5, .inl (cZ, 169, .inl (xf_z (xm_G (xk_c gc P A0) (lN 1) (lN 1) dc gd)))), (m6, .inl (cZ, 169, .inl (xf_z (xm_B (xk_c gc P A0) (lN 1) (lN 1) dc bd)))), (m7, .inl (cZ, 169, .inl (xf_z u1.1))), (m8, .inl (cI, 169, .inl u1.2.1)), (m9, .inl (cZ, 13, .inl (xf_z u1.2.2)))] := hD
  refine lv_istore_n (lv' := [(2, .int (nI X0)), (0, .ref m0), (1, .int i)]) hx hb xj_M_drop_4 rfl hl (by decide) rfl (fun ls hl => ?_)
  refine lv_iconst (v := nI 0) hx hb xj_M_drop_5 (by decide) ?_
  refine lv_istore_n (lv' := [(3, .int (nI 0)), (2, .int (nI X0)), (0, .ref m0), (1, .int i)]) hx hb xj_M_drop_6 rfl hl (by decide) rfl (fun ls hl => ?_)
  refine lv_iconst (v := (-1)) hx hb xj_M_drop_7 (by decide) ?_
  refine lv_istore (lv' := [(4, .int ((-1))), (3, .int (nI 0)), (2, .int (nI X0)), (0, .ref m0), (1, .int i)]) hx hb xj_M_drop_8 hl (by decide) rfl (fun ls hl => ?_)
  refine lv_iconst (v := nI 0) hx hb xj_M_drop_10 (by decide) ?_
  refine lv_istore (lv' := [(5, .int (nI 0)), (4, .int ((-1))), (3, .int (nI 0)), (2, .int (nI X0)), (0, .ref m0), (1, .int i)]) hx hb xj_M_drop_11 hl (by decide) rfl (fun ls hl => ?_)
  have loop13 : ∀ (n : Nat) (k : Nat) (y : Nat) (f : Int32) (ls : Array Slot) (H : Heap) (locs : List Loc), k + n = dc → (y = xd_c (fun j => X0.testBit j) k) → (xm_fo (fun j => X0.testBit j) i n k f = xm_fo (fun j => X0.testBit j) i dc 0 (-1)) → lv_has ls 6 [(0, .ref m0), (1, .int i), (2, .int (nI X0)), (3, .int (nI y)), (4, .int f), (5, .int (nI k))] → va_P D xn_cl [(m0, .inr (6, [.int cd, .int (nI gc), .int (nI dc), .ref m1, .ref m2, .ref m3, .ref m4, .ref m5, .ref m6, .ref m7, .ref m8, .ref m9, .ref m10])), (m1, .inl (cI, 78, .inl P)), (m2, .inl (cI, 78, .inl A0)), (m5, .inl (cZ, 169, .inl (xf_z (xm_G (xk_c gc P A0) (lN 1) (lN 1) dc gd)))), (m6, .inl (cZ, 169, .inl (xf_z (xm_B (xk_c gc P A0) (lN 1) (lN 1) dc bd)))), (m7, .inl (cZ, 169, .inl (xf_z u1.1))), (m8, .inl (cI, 169, .inl u1.2.1)), (m9, .inl (cZ, 13, .inl (xf_z u1.2.2)))] H → va_D A [(m0, .inr (6, [.int cd, .int (nI gc), .int (nI dc), .ref m1, .ref m2, .ref m3, .ref m4, .ref m5, .ref m6, .ref m7, .ref m8, .ref m9, .ref m10])), (m1, .inl (cI, 78, .inl P)), (m2, .inl (cI, 78, .inl A0)), (m5, .inl (cZ, 169, .inl (xf_z (xm_G (xk_c gc P A0) (lN 1) (lN 1) dc gd)))), (m6, .inl (cZ, 169, .inl (xf_z (xm_B (xk_c gc P A0) (lN 1) (lN 1) dc bd)))), (m7, .inl (cZ, 169, .inl (xf_z u1.1))), (m8, .inl (cI, 169, .inl u1.2.1)), (m9, .inl (cZ, 13, .inl (xf_z u1.2.2)))] → va_S A s.heap H locs → W p l e (xc_rm 5 0 0) s m args below meth c H locs 0 0 Q (F0 m 13 ls []) := by
    intro n
    induction n with
    | zero =>
      intro k y f ls H locs hi13 hy hf hl hP hD hS
      refine lv_iload hx hb xj_M_drop_13 (lv_at hl 5 rfl) ?_
      refine lv_aload_n hx hb xj_M_drop_15 rfl (lv_at hl 0 rfl) ?_
      refine va_get (D := D) (ci := 6) (v := .int (nI dc)) (C := xn_M) (T := xn_TM) (N := 13) hx hb hgs xw_uM hown hK.1 hP 0 rfl rfl 2 (by decide) (hgs _ xw_532) (fun _ h9 => h9) rfl xj_M_drop_16 ?_
      refine xr_ge (tgt := 52) hx hb (by omega) (by omega) xj_M_drop_19 rfl (fun h19 => ?_) (fun h19 => absurd h19 (by omega))
      have hye : y = xd_c (fun j => X0.testBit j) dc := by rw [hy, show k = dc by omega]
      have hyb : y ≤ 12 := by rw [hye]; exact Nat.le_trans (xd_c_le _ _) (by omega)
      refine lv_aload_n hx hb xj_M_drop_52 rfl (lv_at hl 0 rfl) ?_
      refine lv_iload_n hx hb xj_M_drop_53 rfl (lv_at hl 1 rfl) ?_
      refine lv_iconst (v := (-1)) hx hb xj_M_drop_54 (by decide) ?_
      refine lv_iload_n hx hb xj_M_drop_55 rfl (lv_at hl 3 rfl) ?_
      refine lv_iconst (v := nI 1) hx hb xj_M_drop_56 (by decide) ?_
      refine lv_isub hx hb xj_M_drop_57 ?_
      refine xc_callS (av := [.int i, .int ((-1)), .int ((nI y) - (nI 1))]) (rest := [.ref m0]) hAt hT (xt_M_in l D cI cZ cJ i ((-1)) ((nI y) - (nI 1))) xw_579 xw_7 xw_581 xw_580 (na := 3) rfl (by decide +kernel) ⟨Nat.le_of_ble_eq_true rfl, Nat.le_of_ble_eq_true rfl⟩ (hP.sub (ws' := []) [] rfl) hK hl.1 (Nat.le_of_ble_eq_true rfl) ⟨Nat.zero_le _, Nat.zero_le _⟩ xj_M_drop_58 ?_
      refine xr_ifeq (tgt := 68) hx hb xj_M_drop_61 rfl (fun h61 => ?_) (fun h61 => ?_)
      · -- 68
        refine lv_iconst (v := nI 1) hx hb xj_M_drop_68 (by decide) ?_
        refine va_put (D := D) (ci := 6) (v := .int (nI 1)) (ty := .int) (C := xn_M) (T := xn_TM) (N := 13) hx hb hgs xw_uM xn_tM xn_oM xn_nM hown hK.1 hP hD hS 0 rfl rfl 0 (by decide) (hgs _ xw_530) (fun _ h9 => h9) rfl (by decide +kernel) rfl rfl (Nat.le_of_ble_eq_true rfl) xj_M_drop_69 (fun H locs hP hD hS => ?_)
        have hP : va_P D xn_cl [(m0, .inr (6, [.int (nI 1), .int (nI gc), .int (nI dc), .ref m1, .ref m2, .ref m3, .ref m4, .ref m5, .ref m6, .ref m7, .ref m8, .ref m9, .ref m10])), (m1, .inl (cI, 78, .inl P)), (m2, .inl (cI, 78, .inl A0)), (m5, .inl (cZ, 169, .inl (xf_z (xm_G (xk_c gc P A0) (lN 1) (lN 1) dc gd)))), (m6, .inl (cZ, 169, .inl (xf_z (xm_B (xk_c gc P A0) (lN 1) (lN 1) dc bd)))), (m7, .inl (cZ, 169, .inl (xf_z u1.1))), (m8, .inl (cI, 169, .inl u1.2.1)), (m9, .inl (cZ, 13, .inl (xf_z u1.2.2)))] H := hP
        have hD : va_D A [(m0, .inr (6, [.int (nI 1), .int (nI gc), .int (nI dc), .ref m1, .ref m2, .ref m3, .ref m4, .ref m5, .ref m6, .ref m7, .ref m8, .ref m9, .ref m10])), (m1, .inl (cI, 78, .inl P)), (m2, .inl (cI, 78, .inl A0)), (m5, .inl (cZ, 169, .inl (xf_z (xm_G (xk_c gc P A0) (lN 1) (lN 1) dc gd)))), (m6, .inl (cZ, 169, .inl (xf_z (xm_B (xk_c gc P A0) (lN 1) (lN 1) dc bd)))), (m7, .inl (cZ, 169, .inl (xf_z u1.1))), (m8, .inl (cI, 169, .inl u1.2.1)), (m9, .inl (cZ, 13, .inl (xf_z u1.2.2)))] := hD
        refine lv_aload_n hx hb xj_M_drop_72 rfl (lv_at hl 0 rfl) ?_
        refine va_get (D := D) (ci := 6) (v := .int (nI 1)) (C := xn_M) (T := xn_TM) (N := 13) hx hb hgs xw_uM hown hK.1 hP 0 rfl rfl 0 (by decide) (hgs _ xw_530) (fun _ h9 => h9) rfl xj_M_drop_73 ?_
        refine lv_if_le (tgt := 83) hx hb xj_M_drop_76 rfl (fun h76 => absurd h76 (by decide +kernel)) (fun h76 => ?_)
        refine lv_iconst (v := nI 0) hx hb xj_M_drop_79 (by decide) ?_
        refine lv_goto (tgt := 94) hx hb xj_M_drop_80 rfl ?_
        have e9 : xo_drp (nI y) i = 1 := xo_drp_n (by omega) h61
        have hP : va_P D xn_cl [(m0, .inr (6, [.int (nI (xo_drp (nI y) i)), .int (nI gc), .int (nI dc), .ref m1, .ref m2, .ref m3, .ref m4, .ref m5, .ref m6, .ref m7, .ref m8, .ref m9, .ref m10])), (m1, .inl (cI, 78, .inl P)), (m2, .inl (cI, 78, .inl A0)), (m5, .inl (cZ, 169, .inl (xf_z (xm_G (xk_c gc P A0) (lN 1) (lN 1) dc gd)))), (m6, .inl (cZ, 169, .inl (xf_z (xm_B (xk_c gc P A0) (lN 1) (lN 1) dc bd)))), (m7, .inl (cZ, 169, .inl (xf_z u1.1))), (m8, .inl (cI, 169, .inl u1.2.1)), (m9, .inl (cZ, 13, .inl (xf_z u1.2.2)))] H := by rw [e9]; exact hP
        have hD : va_D A [(m0, .inr (6, [.int (nI (xo_drp (nI y) i)), .int (nI gc), .int (nI dc), .ref m1, .ref m2, .ref m3, .ref m4, .ref m5, .ref m6, .ref m7, .ref m8, .ref m9, .ref m10])), (m1, .inl (cI, 78, .inl P)), (m2, .inl (cI, 78, .inl A0)), (m5, .inl (cZ, 169, .inl (xf_z (xm_G (xk_c gc P A0) (lN 1) (lN 1) dc gd)))), (m6, .inl (cZ, 169, .inl (xf_z (xm_B (xk_c gc P A0) (lN 1) (lN 1) dc bd)))), (m7, .inl (cZ, 169, .inl (xf_z u1.1))), (m8, .inl (cI, 169, .inl u1.2.1)), (m9, .inl (cZ, 13, .inl (xf_z u1.2.2)))] := by rw [e9]; exact hD
        exact hret (nI 0) ((u1.1, u1.2.1, u1.2.2, nI (xo_drp (nI y) i))) H locs _ ls (⟨X0, hX2, hXp, by rw [← hye], fun z => by rw [← hye, e9] at z; cases z⟩) rfl hP hD hS xj_M_drop_94
      · -- 64
        refine lv_iconst (v := nI 0) hx hb xj_M_drop_64 (by decide) ?_
        refine lv_goto (tgt := 69) hx hb xj_M_drop_65 rfl ?_
        refine va_put (D := D) (ci := 6) (v := .int (nI 0)) (ty := .int) (C := xn_M) (T := xn_TM) (N := 13) hx hb hgs xw_uM xn_tM xn_oM xn_nM hown hK.1 hP hD hS 0 rfl rfl 0 (by decide) (hgs _ xw_530) (fun _ h9 => h9) rfl (by decide +kernel) rfl rfl (Nat.le_of_ble_eq_true rfl) xj_M_drop_69 (fun H locs hP hD hS => ?_)
        have hP : va_P D xn_cl [(m0, .inr (6, [.int (nI 0), .int (nI gc), .int (nI dc), .ref m1, .ref m2, .ref m3, .ref m4, .ref m5, .ref m6, .ref m7, .ref m8, .ref m9, .ref m10])), (m1, .inl (cI, 78, .inl P)), (m2, .inl (cI, 78, .inl A0)), (m5, .inl (cZ, 169, .inl (xf_z (xm_G (xk_c gc P A0) (lN 1) (lN 1) dc gd)))), (m6, .inl (cZ, 169, .inl (xf_z (xm_B (xk_c gc P A0) (lN 1) (lN 1) dc bd)))), (m7, .inl (cZ, 169, .inl (xf_z u1.1))), (m8, .inl (cI, 169, .inl u1.2.1)), (m9, .inl (cZ, 13, .inl (xf_z u1.2.2)))] H := hP
        have hD : va_D A [(m0, .inr (6, [.int (nI 0), .int (nI gc), .int (nI dc), .ref m1, .ref m2, .ref m3, .ref m4, .ref m5, .ref m6, .ref m7, .ref m8, .ref m9, .ref m10])), (m1, .inl (cI, 78, .inl P)), (m2, .inl (cI, 78, .inl A0)), (m5, .inl (cZ, 169, .inl (xf_z (xm_G (xk_c gc P A0) (lN 1) (lN 1) dc gd)))), (m6, .inl (cZ, 169, .inl (xf_z (xm_B (xk_c gc P A0) (lN 1) (lN 1) dc bd)))), (m7, .inl (cZ, 169, .inl (xf_z u1.1))), (m8, .inl (cI, 169, .inl u1.2.1)), (m9, .inl (cZ, 13, .inl (xf_z u1.2.2)))] := hD
        refine lv_aload_n hx hb xj_M_drop_72 rfl (lv_at hl 0 rfl) ?_
        refine va_get (D := D) (ci := 6) (v := .int (nI 0)) (C := xn_M) (T := xn_TM) (N := 13) hx hb hgs xw_uM hown hK.1 hP 0 rfl rfl 0 (by decide) (hgs _ xw_530) (fun _ h9 => h9) rfl xj_M_drop_73 ?_
        refine lv_if_le (tgt := 83) hx hb xj_M_drop_76 rfl (fun h76 => ?_) (fun h76 => absurd h76 (by decide +kernel))
        refine lv_iload_n hx hb xj_M_drop_83 rfl (lv_at hl 1 rfl) ?_
        refine lv_iconst (v := (-1)) hx hb xj_M_drop_84 (by decide) ?_
        refine lv_icmp_ne (tgt := 92) hx hb xj_M_drop_85 rfl (fun h85 => ?_) (fun h85 => ?_)
        · -- 92
          refine lv_iload hx hb xj_M_drop_92 (lv_at hl 4 rfl) ?_
          have e9 : xo_drp (nI y) i = 0 := xo_drp_y (by omega) h61
          have hP : va_P D xn_cl [(m0, .inr (6, [.int (nI (xo_drp (nI y) i)), .int (nI gc), .int (nI dc), .ref m1, .ref m2, .ref m3, .ref m4, .ref m5, .ref m6, .ref m7, .ref m8, .ref m9, .ref m10])), (m1, .inl (cI, 78, .inl P)), (m2, .inl (cI, 78, .inl A0)), (m5, .inl (cZ, 169, .inl (xf_z (xm_G (xk_c gc P A0) (lN 1) (lN 1) dc gd)))), (m6, .inl (cZ, 169, .inl (xf_z (xm_B (xk_c gc P A0) (lN 1) (lN 1) dc bd)))), (m7, .inl (cZ, 169, .inl (xf_z u1.1))), (m8, .inl (cI, 169, .inl u1.2.1)), (m9, .inl (cZ, 13, .inl (xf_z u1.2.2)))] H := by rw [e9]; exact hP
          have hD : va_D A [(m0, .inr (6, [.int (nI (xo_drp (nI y) i)), .int (nI gc), .int (nI dc), .ref m1, .ref m2, .ref m3, .ref m4, .ref m5, .ref m6, .ref m7, .ref m8, .ref m9, .ref m10])), (m1, .inl (cI, 78, .inl P)), (m2, .inl (cI, 78, .inl A0)), (m5, .inl (cZ, 169, .inl (xf_z (xm_G (xk_c gc P A0) (lN 1) (lN 1) dc gd)))), (m6, .inl (cZ, 169, .inl (xf_z (xm_B (xk_c gc P A0) (lN 1) (lN 1) dc bd)))), (m7, .inl (cZ, 169, .inl (xf_z u1.1))), (m8, .inl (cI, 169, .inl u1.2.1)), (m9, .inl (cZ, 13, .inl (xf_z u1.2.2)))] := by rw [e9]; exact hD
          exact hret f ((u1.1, u1.2.1, u1.2.2, nI (xo_drp (nI y) i))) H locs _ ls (⟨X0, hX2, hXp, by rw [← hye], fun _ => Or.inr ⟨h85, hf⟩⟩) rfl hP hD hS xj_M_drop_94
        · -- 88
          refine lv_iload_n hx hb xj_M_drop_88 rfl (lv_at hl 3 rfl) ?_
          refine lv_goto (tgt := 94) hx hb xj_M_drop_89 rfl ?_
          have e9 : xo_drp (nI y) i = 0 := xo_drp_y (by omega) h61
          have hP : va_P D xn_cl [(m0, .inr (6, [.int (nI (xo_drp (nI y) i)), .int (nI gc), .int (nI dc), .ref m1, .ref m2, .ref m3, .ref m4, .ref m5, .ref m6, .ref m7, .ref m8, .ref m9, .ref m10])), (m1, .inl (cI, 78, .inl P)), (m2, .inl (cI, 78, .inl A0)), (m5, .inl (cZ, 169, .inl (xf_z (xm_G (xk_c gc P A0) (lN 1) (lN 1) dc gd)))), (m6, .inl (cZ, 169, .inl (xf_z (xm_B (xk_c gc P A0) (lN 1) (lN 1) dc bd)))), (m7, .inl (cZ, 169, .inl (xf_z u1.1))), (m8, .inl (cI, 169, .inl u1.2.1)), (m9, .inl (cZ, 13, .inl (xf_z u1.2.2)))] H := by rw [e9]; exact hP
          have hD : va_D A [(m0, .inr (6, [.int (nI (xo_drp (nI y) i)), .int (nI gc), .int (nI dc), .ref m1, .ref m2, .ref m3, .ref m4, .ref m5, .ref m6, .ref m7, .ref m8, .ref m9, .ref m10])), (m1, .inl (cI, 78, .inl P)), (m2, .inl (cI, 78, .inl A0)), (m5, .inl (cZ, 169, .inl (xf_z (xm_G (xk_c gc P A0) (lN 1) (lN 1) dc gd)))), (m6, .inl (cZ, 169, .inl (xf_z (xm_B (xk_c gc P A0) (lN 1) (lN 1) dc bd)))), (m7, .inl (cZ, 169, .inl (xf_z u1.1))), (m8, .inl (cI, 169, .inl u1.2.1)), (m9, .inl (cZ, 13, .inl (xf_z u1.2.2)))] := by rw [e9]; exact hD
          exact hret (nI y) ((u1.1, u1.2.1, u1.2.2, nI (xo_drp (nI y) i))) H locs _ ls (⟨X0, hX2, hXp, by rw [← hye], fun _ => Or.inl ⟨h85, by rw [← hye]⟩⟩) rfl hP hD hS xj_M_drop_94
    | succ n ih13 =>
      intro k y f ls H locs hi13 hy hf hl hP hD hS
      refine lv_iload hx hb xj_M_drop_13 (lv_at hl 5 rfl) ?_
      refine lv_aload_n hx hb xj_M_drop_15 rfl (lv_at hl 0 rfl) ?_
      refine va_get (D := D) (ci := 6) (v := .int (nI dc)) (C := xn_M) (T := xn_TM) (N := 13) hx hb hgs xw_uM hown hK.1 hP 0 rfl rfl 2 (by decide) (hgs _ xw_532) (fun _ h9 => h9) rfl xj_M_drop_16 ?_
      refine xr_ge (tgt := 52) hx hb (by omega) (by omega) xj_M_drop_19 rfl (fun h19 => absurd h19 (by omega)) (fun h19 => ?_)
      refine lv_iload_n hx hb xj_M_drop_22 rfl (lv_at hl 2 rfl) ?_
      refine lv_iload hx hb xj_M_drop_23 (lv_at hl 5 rfl) ?_
      refine lv_ishr hx hb xj_M_drop_25 ?_
      refine lv_iconst (v := nI 1) hx hb xj_M_drop_26 (by decide) ?_
      refine lv_iand hx hb xj_M_drop_27 ?_
      refine lv_if_ne (tgt := 34) hx hb xj_M_drop_28 rfl (fun h28 => ?_) (fun h28 => ?_)
      · -- 34
        have hbt : X0.testBit k = true := (Bool.eq_false_or_eq_true _).resolve_right (fun z => h28 ((xm_tb (by omega)).mpr z))
        refine lv_iload_n hx hb xj_M_drop_34 rfl (lv_at hl 3 rfl) ?_
        refine lv_iload_n hx hb xj_M_drop_35 rfl (lv_at hl 1 rfl) ?_
        refine lv_icmp_ne (tgt := 43) hx hb xj_M_drop_36 rfl (fun h36 => ?_) (fun h36 => ?_)
        · -- 43
          refine lv_iinc (k := 3) (v := nI (y + 1)) (lv' := [(3, .int (nI (y + 1))), (0, .ref m0), (1, .int i), (2, .int (nI X0)), (4, .int f), (5, .int (nI k))]) hx hb xj_M_drop_43 hl rfl (xr_inc _) (by decide) rfl (fun ls hl => ?_)
          refine lv_iinc (k := 5) (v := nI (k + 1)) (lv' := [(5, .int (nI (k + 1))), (3, .int (nI (y + 1))), (0, .ref m0), (1, .int i), (2, .int (nI X0)), (4, .int f)]) hx hb xj_M_drop_46 hl rfl (xr_inc _) (by decide) rfl (fun ls hl => ?_)
          refine lv_goto (tgt := 13) hx hb xj_M_drop_49 rfl ?_
          exact ih13 (k + 1) (y + 1) f ls _ _ (by omega) (by have h9 := xd_c_s (p := (fun j => X0.testBit j)) hbt; omega) ((xm_fo_0 (tb := (fun j => X0.testBit j)) (fun z => h36 (by rw [hy]; exact z.2))).symm.trans hf) (lv_sub hl [2, 3, 4, 1, 5, 0] rfl) hP hD hS
        · -- 39
          refine lv_iload hx hb xj_M_drop_39 (lv_at hl 5 rfl) ?_
          refine lv_istore (lv' := [(4, .int (nI k)), (0, .ref m0), (1, .int i), (2, .int (nI X0)), (3, .int (nI y)), (5, .int (nI k))]) hx hb xj_M_drop_41 hl (by decide) rfl (fun ls hl => ?_)
          refine lv_iinc (k := 4) (v := nI (y + 1)) (lv' := [(3, .int (nI (y + 1))), (4, .int (nI k)), (0, .ref m0), (1, .int i), (2, .int (nI X0)), (5, .int (nI k))]) hx hb xj_M_drop_43 hl rfl (xr_inc _) (by decide) rfl (fun ls hl => ?_)
          refine lv_iinc (k := 5) (v := nI (k + 1)) (lv' := [(5, .int (nI (k + 1))), (3, .int (nI (y + 1))), (4, .int (nI k)), (0, .ref m0), (1, .int i), (2, .int (nI X0))]) hx hb xj_M_drop_46 hl rfl (xr_inc _) (by decide) rfl (fun ls hl => ?_)
          refine lv_goto (tgt := 13) hx hb xj_M_drop_49 rfl ?_
          exact ih13 (k + 1) (y + 1) (nI k) ls _ _ (by omega) (by have h9 := xd_c_s (p := (fun j => X0.testBit j)) hbt; omega) ((xm_fo_1 (tb := (fun j => X0.testBit j)) hbt (by rw [← hy]; exact h36)).symm.trans hf) (lv_sub hl [3, 4, 5, 1, 2, 0] rfl) hP hD hS
      · -- 31
        have hbt : X0.testBit k = false := (xm_tb (by omega)).mp h28
        refine lv_goto (tgt := 46) hx hb xj_M_drop_31 rfl ?_
        refine lv_iinc (k := 5) (v := nI (k + 1)) (lv' := [(5, .int (nI (k + 1))), (0, .ref m0), (1, .int i), (2, .int (nI X0)), (3, .int (nI y)), (4, .int f)]) hx hb xj_M_drop_46 hl rfl (xr_inc _) (by decide) rfl (fun ls hl => ?_)
        refine lv_goto (tgt := 13) hx hb xj_M_drop_49 rfl ?_
        exact ih13 (k + 1) y f ls _ _ (by omega) (by have h9 := xd_c_z (p := (fun j => X0.testBit j)) hbt; omega) ((xm_fo_0 (tb := (fun j => X0.testBit j)) (fun z => absurd (hbt.symm.trans z.1) (by decide))).symm.trans hf) (lv_sub hl [1, 2, 3, 4, 5, 0] rfl) hP hD hS
  exact loop13 dc 0 0 ((-1)) ls _ _ (by omega) rfl rfl (lv_sub hl [4, 5, 3, 2, 1, 0] rfl) hP hD hS
set_option maxRecDepth 100000 in
set_option maxHeartbeats 4000000 in
theorem xt_M_init (l : Launch) (D : va_G) (cI cZ cJ : ClassId) (m0 : Nat) : xc_Wv l xy_M_init xb_M_init 1 1 10 870 [.ref m0] D cI cZ cJ [(m0, .inr (6, [.int (nI 0), .int (nI 0), .int (nI 0), .null, .null, .null, .null, .null, .null, .null, .null, .null, .null]))] (Nat × Nat × Nat × Nat × Nat × Nat × Nat × Nat × Nat × Nat) (fun _ => True) (fun u => [(m0, .inr (6, [.int (nI 0), .int (nI 1), .int (nI 0), .ref u.1, .ref u.2.1, .ref u.2.2.1, .ref u.2.2.2.1, .ref u.2.2.2.2.1, .ref u.2.2.2.2.2.1, .ref u.2.2.2.2.2.2.1, .ref u.2.2.2.2.2.2.2.1, .ref u.2.2.2.2.2.2.2.2.1, .ref u.2.2.2.2.2.2.2.2.2])), (u.1, .inl (cI, 78, .inl (fun _ => nI 0))), (u.2.1, .inl (cI, 78, .inl (fun _ => nI 0))), (u.2.2.1, .inl (cI, 6, .inl (xf_fill (fun _ => nI 1) 6 0 (fun _ => nI 0)))), (u.2.2.2.1, .inl (cI, 6, .inl (xf_fill (fun _ => nI 0) 6 0 (fun _ => nI 0)))), (u.2.2.2.2.1, .inl (cZ, 169, .inl (xf_z (fun _ => false)))), (u.2.2.2.2.2.1, .inl (cZ, 169, .inl (xf_z (fun _ => false)))), (u.2.2.2.2.2.2.1, .inl (cZ, 169, .inl (xf_z (fun _ => false)))), (u.2.2.2.2.2.2.2.1, .inl (cI, 169, .inl (fun _ => nI 0))), (u.2.2.2.2.2.2.2.2.1, .inl (cZ, 13, .inl (xf_z (fun _ => false)))), (u.2.2.2.2.2.2.2.2.2, .inl (cI, 13, .inl (fun _ => nI 0)))]) := by
  refine xc_Wv_of (by decide) (Nat.le_of_ble_eq_true rfl) ?_
  intro p e s m args below meth c Q ls A hAt hin hP hK hD hA hS hl hret
  obtain ⟨hx, hb, hml, hown, hts, hgs, hlk⟩ := id hAt
  have hT : ∀ w ∈ xw_g, w ∈ xc_ws xy_M_init xb_M_init 1 (none) := fun w h => List.mem_cons_of_mem _ h
  have hown : s.vm.findClass "WishLedgerModel" = some m.cls := hown
  obtain ⟨H, hH0⟩ : ∃ H, H = s.heap := ⟨_, rfl⟩
  obtain ⟨locs, hL0⟩ : ∃ locs : List Loc, locs = [] := ⟨_, rfl⟩
  have hP : va_P D xn_cl [(m0, .inr (6, [.int (nI 0), .int (nI 0), .int (nI 0), .null, .null, .null, .null, .null, .null, .null, .null, .null, .null]))] H := by rw [hH0]; exact hP
  have hS : va_S A s.heap H locs := by rw [hH0, hL0]; exact hS
  suffices hgo : W p l e (xc_rm 1 10 870) s m args below meth c H locs 0 0 Q (F0 m 0 ls []) by rw [hH0, hL0] at hgo; exact hgo
  clear hH0 hL0
  have hl : lv_has ls 1 [(0, .ref m0)] := hl
  have hin : meth.name = "<init>" := hin
  refine lv_aload_n hx hb xj_M_init_0 rfl (lv_at hl 0 rfl) ?_
  refine W.objInit hx hb hown (hgs _ xw_525) (hgs _ xw_oi) (hgs _ xw_oc) rfl (by rw [hml]; exact hl.1) rfl xj_M_init_1 (Nat.le_of_ble_eq_true rfl) (Nat.le_of_ble_eq_true rfl) ?_
  refine W.eq (g2 := F0 m 4 ls []) rfl ?_
  refine lv_aload_n hx hb xj_M_init_4 rfl (lv_at hl 0 rfl) ?_
  refine lv_iconst (v := nI 1) hx hb xj_M_init_5 (by decide) ?_
  refine va_put (D := D) (ci := 6) (v := .int (nI 1)) (ty := .int) (C := xn_M) (T := xn_TM) (N := 13) hx hb hgs xw_uM xn_tM xn_oM xn_nM hown hK.1 hP hD hS 0 rfl rfl 1 (by decide) (hgs _ xw_531) (fun _ h9 => h9) rfl (by decide +kernel) rfl rfl (Nat.le_of_ble_eq_true rfl) xj_M_init_6 (fun H locs hP hD hS => ?_)
  have hP : va_P D xn_cl [(m0, .inr (6, [.int (nI 0), .int (nI 1), .int (nI 0), .null, .null, .null, .null, .null, .null, .null, .null, .null, .null]))] H := hP
  have hD : va_D A [(m0, .inr (6, [.int (nI 0), .int (nI 1), .int (nI 0), .null, .null, .null, .null, .null, .null, .null, .null, .null, .null]))] := hD
  refine lv_aload_n hx hb xj_M_init_9 rfl (lv_at hl 0 rfl) ?_
  refine lv_bipush (v := nI 78) hx hb xj_M_init_10 (by decide) ?_
  refine xr_newI hx hb (hgs _ xw_45) hK hP hD hS hA (by decide) (Nat.le_of_ble_eq_true rfl) (Nat.le_of_ble_eq_true rfl) xj_M_init_12 (fun q12 H hP hD hS => ?_)
  have hP : va_P D xn_cl [(m0, .inr (6, [.int (nI 0), .int (nI 1), .int (nI 0), .null, .null, .null, .null, .null, .null, .null, .null, .null, .null])), (q12, .inl (cI, 78, .inl (fun _ => nI 0)))] H := hP
  have hD : va_D A [(m0, .inr (6, [.int (nI 0), .int (nI 1), .int (nI 0), .null, .null, .null, .null, .null, .null, .null, .null, .null, .null])), (q12, .inl (cI, 78, .inl (fun _ => nI 0)))] := hD
  refine va_putF (D := D) (ci := 6) (v := .ref q12) (ty := .array .int) (C := xn_M) (T := xn_TM) (N := 13) hx hb hgs xw_uM xn_tM xn_oM xn_nM hown hK.1 hP hD hS 0 rfl rfl 3 (by decide) (hgs _ xw_533) (fun _ h9 => h9) rfl hin rfl (by decide +kernel) rfl rfl (Nat.le_of_ble_eq_true rfl) xj_M_init_14 (fun H locs hP hD hS => ?_)
  have hP : va_P D xn_cl [(m0, .inr (6, [.int (nI 0), .int (nI 1), .int (nI 0), .ref q12, .null, .null, .null, .null, .null, .null, .null, .null, .null])), (q12, .inl (cI, 78, .inl (fun _ => nI 0)))] H := hP
  have hD : va_D A [(m0, .inr (6, [.int (nI 0), .int (nI 1), .int (nI 0), .ref q12, .null, .null, .null, .null, .null, .null, .null, .null, .null])), (q12, .inl (cI, 78, .inl (fun _ => nI 0)))] := hD
  refine lv_aload_n hx hb xj_M_init_17 rfl (lv_at hl 0 rfl) ?_
  refine lv_bipush (v := nI 78) hx hb xj_M_init_18 (by decide) ?_
  refine xr_newI hx hb (hgs _ xw_45) hK hP hD hS hA (by decide) (Nat.le_of_ble_eq_true rfl) (Nat.le_of_ble_eq_true rfl) xj_M_init_20 (fun q20 H hP hD hS => ?_)
  have hP : va_P D xn_cl [(m0, .inr (6, [.int (nI 0), .int (nI 1), .int (nI 0), .ref q12, .null, .null, .null, .null, .null, .null, .null, .null, .null])), (q12, .inl (cI, 78, .inl (fun _ => nI 0))), (q20, .inl (cI, 78, .inl (fun _ => nI 0)))] H := hP
  have hD : va_D A [(m0, .inr (6, [.int (nI 0), .int (nI 1), .int (nI 0), .ref q12, .null, .null, .null, .null, .null, .null, .null, .null, .null])), (q12, .inl (cI, 78, .inl (fun _ => nI 0))), (q20, .inl (cI, 78, .inl (fun _ => nI 0)))] := hD
  refine va_putF (D := D) (ci := 6) (v := .ref q20) (ty := .array .int) (C := xn_M) (T := xn_TM) (N := 13) hx hb hgs xw_uM xn_tM xn_oM xn_nM hown hK.1 hP hD hS 0 rfl rfl 4 (by decide) (hgs _ xw_534) (fun _ h9 => h9) rfl hin rfl (by decide +kernel) rfl rfl (Nat.le_of_ble_eq_true rfl) xj_M_init_22 (fun H locs hP hD hS => ?_)
  have hP : va_P D xn_cl [(m0, .inr (6, [.int (nI 0), .int (nI 1), .int (nI 0), .ref q12, .ref q20, .null, .null, .null, .null, .null, .null, .null, .null])), (q12, .inl (cI, 78, .inl (fun _ => nI 0))), (q20, .inl (cI, 78, .inl (fun _ => nI 0)))] H := hP
  have hD : va_D A [(m0, .inr (6, [.int (nI 0), .int (nI 1), .int (nI 0), .ref q12, .ref q20, .null, .null, .null, .null, .null, .null, .null, .null])), (q12, .inl (cI, 78, .inl (fun _ => nI 0))), (q20, .inl (cI, 78, .inl (fun _ => nI 0)))] := hD
  refine lv_aload_n hx hb xj_M_init_25 rfl (lv_at hl 0 rfl) ?_
  refine lv_bipush (v := nI 6) hx hb xj_M_init_26 (by decide) ?_
  refine xr_newI hx hb (hgs _ xw_45) hK hP hD hS hA (by decide) (Nat.le_of_ble_eq_true rfl) (Nat.le_of_ble_eq_true rfl) xj_M_init_28 (fun q28 H hP hD hS => ?_)
  have hP : va_P D xn_cl [(m0, .inr (6, [.int (nI 0), .int (nI 1), .int (nI 0), .ref q12, .ref q20, .null, .null, .null, .null, .null, .null, .null, .null])), (q12, .inl (cI, 78, .inl (fun _ => nI 0))), (q20, .inl (cI, 78, .inl (fun _ => nI 0))), (q28, .inl (cI, 6, .inl (fun _ => nI 0)))] H := hP
  have hD : va_D A [(m0, .inr (6, [.int (nI 0), .int (nI 1), .int (nI 0), .ref q12, .ref q20, .null, .null, .null, .null, .null, .null, .null, .null])), (q12, .inl (cI, 78, .inl (fun _ => nI 0))), (q20, .inl (cI, 78, .inl (fun _ => nI 0))), (q28, .inl (cI, 6, .inl (fun _ => nI 0)))] := hD
  refine va_putF (D := D) (ci := 6) (v := .ref q28) (ty := .array .int) (C := xn_M) (T := xn_TM) (N := 13) hx hb hgs xw_uM xn_tM xn_oM xn_nM hown hK.1 hP hD hS 0 rfl rfl 5 (by decide) (hgs _ xw_535) (fun _ h9 => h9) rfl hin rfl (by decide +kernel) rfl rfl (Nat.le_of_ble_eq_true rfl) xj_M_init_30 (fun H locs hP hD hS => ?_)
  have hP : va_P D xn_cl [(m0, .inr (6, [.int (nI 0), .int (nI 1), .int (nI 0), .ref q12, .ref q20, .ref q28, .null, .null, .null, .null, .null, .null, .null])), (q12, .inl (cI, 78, .inl (fun _ => nI 0))), (q20, .inl (cI, 78, .inl (fun _ => nI 0))), (q28, .inl (cI, 6, .inl (fun _ => nI 0)))] H := hP
  have hD : va_D A [(m0, .inr (6, [.int (nI 0), .int (nI 1), .int (nI 0), .ref q12, .ref q20, .ref q28, .null, .null, .null, .null, .null, .null, .null])), (q12, .inl (cI, 78, .inl (fun _ => nI 0))), (q20, .inl (cI, 78, .inl (fun _ => nI 0))), (q28, .inl (cI, 6, .inl (fun _ => nI 0)))] := hD
  refine lv_aload_n hx hb xj_M_init_33 rfl (lv_at hl 0 rfl) ?_
  refine lv_bipush (v := nI 6) hx hb xj_M_init_34 (by decide) ?_
  refine xr_newI hx hb (hgs _ xw_45) hK hP hD hS hA (by decide) (Nat.le_of_ble_eq_true rfl) (Nat.le_of_ble_eq_true rfl) xj_M_init_36 (fun q36 H hP hD hS => ?_)
  have hP : va_P D xn_cl [(m0, .inr (6, [.int (nI 0), .int (nI 1), .int (nI 0), .ref q12, .ref q20, .ref q28, .null, .null, .null, .null, .null, .null, .null])), (q12, .inl (cI, 78, .inl (fun _ => nI 0))), (q20, .inl (cI, 78, .inl (fun _ => nI 0))), (q28, .inl (cI, 6, .inl (fun _ => nI 0))), (q36, .inl (cI, 6, .inl (fun _ => nI 0)))] H := hP
  have hD : va_D A [(m0, .inr (6, [.int (nI 0), .int (nI 1), .int (nI 0), .ref q12, .ref q20, .ref q28, .null, .null, .null, .null, .null, .null, .null])), (q12, .inl (cI, 78, .inl (fun _ => nI 0))), (q20, .inl (cI, 78, .inl (fun _ => nI 0))), (q28, .inl (cI, 6, .inl (fun _ => nI 0))), (q36, .inl (cI, 6, .inl (fun _ => nI 0)))] := hD
  refine va_putF (D := D) (ci := 6) (v := .ref q36) (ty := .array .int) (C := xn_M) (T := xn_TM) (N := 13) hx hb hgs xw_uM xn_tM xn_oM xn_nM hown hK.1 hP hD hS 0 rfl rfl 6 (by decide) (hgs _ xw_536) (fun _ h9 => h9) rfl hin rfl (by decide +kernel) rfl rfl (Nat.le_of_ble_eq_true rfl) xj_M_init_38 (fun H locs hP hD hS => ?_)
  have hP : va_P D xn_cl [(m0, .inr (6, [.int (nI 0), .int (nI 1), .int (nI 0), .ref q12, .ref q20, .ref q28, .ref q36, .null, .null, .null, .null, .null, .null])), (q12, .inl (cI, 78, .inl (fun _ => nI 0))), (q20, .inl (cI, 78, .inl (fun _ => nI 0))), (q28, .inl (cI, 6, .inl (fun _ => nI 0))), (q36, .inl (cI, 6, .inl (fun _ => nI 0)))] H := hP
  have hD : va_D A [(m0, .inr (6, [.int (nI 0), .int (nI 1), .int (nI 0), .ref q12, .ref q20, .ref q28, .ref q36, .null, .null, .null, .null, .null, .null])), (q12, .inl (cI, 78, .inl (fun _ => nI 0))), (q20, .inl (cI, 78, .inl (fun _ => nI 0))), (q28, .inl (cI, 6, .inl (fun _ => nI 0))), (q36, .inl (cI, 6, .inl (fun _ => nI 0)))] := hD
  refine lv_aload_n hx hb xj_M_init_41 rfl (lv_at hl 0 rfl) ?_
  refine lv_sipush (v := nI 169) hx hb xj_M_init_42 (by decide) ?_
  refine xr_newZ hx hb (hgs _ xw_570) hK hP hD hS hA (by decide) (Nat.le_of_ble_eq_true rfl) (Nat.le_of_ble_eq_true rfl) xj_M_init_45 (fun q45 H hP hD hS => ?_)
  have hP : va_P D xn_cl [(m0, .inr (6, [.int (nI 0), .int (nI 1), .int (nI 0), .ref q12, .ref q20, .ref q28, .ref q36, .null, .null, .null, .null, .null, .null])), (q12, .inl (cI, 78, .inl (fun _ => nI 0))), (q20, .inl (cI, 78, .inl (fun _ => nI 0))), (q28, .inl (cI, 6, .inl (fun _ => nI 0))), (q36, .inl (cI, 6, .inl (fun _ => nI 0))), (q45, .inl (cZ, 169, .inl (xf_z (fun _ => false))))] H := hP
  have hD : va_D A [(m0, .inr (6, [.int (nI 0), .int (nI 1), .int (nI 0), .ref q12, .ref q20, .ref q28, .ref q36, .null, .null, .null, .null, .null, .null])), (q12, .inl (cI, 78, .inl (fun _ => nI 0))), (q20, .inl (cI, 78, .inl (fun _ => nI 0))), (q28, .inl (cI, 6, .inl (fun _ => nI 0))), (q36, .inl (cI, 6, .inl (fun _ => nI 0))), (q45, .inl (cZ, 169, .inl (xf_z (fun _ => false))))] := hD
  refine va_putF (D := D) (ci := 6) (v := .ref q45) (ty := .array .boolean) (C := xn_M) (T := xn_TM) (N := 13) hx hb hgs xw_uM xn_tM xn_oM xn_nM hown hK.1 hP hD hS 0 rfl rfl 7 (by decide) (hgs _ xw_537) (fun _ h9 => h9) rfl hin rfl (by decide +kernel) rfl rfl (Nat.le_of_ble_eq_true rfl) xj_M_init_47 (fun H locs hP hD hS => ?_)
  have hP : va_P D xn_cl [(m0, .inr (6, [.int (nI 0), .int (nI 1), .int (nI 0), .ref q12, .ref q20, .ref q28, .ref q36, .ref q45, .null, .null, .null, .null, .null])), (q12, .inl (cI, 78, .inl (fun _ => nI 0))), (q20, .inl (cI, 78, .inl (fun _ => nI 0))), (q28, .inl (cI, 6, .inl (fun _ => nI 0))), (q36, .inl (cI, 6, .inl (fun _ => nI 0))), (q45, .inl (cZ, 169, .inl (xf_z (fun _ => false))))] H := hP
  have hD : va_D A [(m0, .inr (6, [.int (nI 0), .int (nI 1), .int (nI 0), .ref q12, .ref q20, .ref q28, .ref q36, .ref q45, .null, .null, .null, .null, .null])), (q12, .inl (cI, 78, .inl (fun _ => nI 0))), (q20, .inl (cI, 78, .inl (fun _ => nI 0))), (q28, .inl (cI, 6, .inl (fun _ => nI 0))), (q36, .inl (cI, 6, .inl (fun _ => nI 0))), (q45, .inl (cZ, 169, .inl (xf_z (fun _ => false))))] := hD
  refine lv_aload_n hx hb xj_M_init_50 rfl (lv_at hl 0 rfl) ?_
  refine lv_sipush (v := nI 169) hx hb xj_M_init_51 (by decide) ?_
  refine xr_newZ hx hb (hgs _ xw_570) hK hP hD hS hA (by decide) (Nat.le_of_ble_eq_true rfl) (Nat.le_of_ble_eq_true rfl) xj_M_init_54 (fun q54 H hP hD hS => ?_)
  have hP : va_P D xn_cl [(m0, .inr (6, [.int (nI 0), .int (nI 1), .int (nI 0), .ref q12, .ref q20, .ref q28, .ref q36, .ref q45, .null, .null, .null, .null, .null])), (q12, .inl (cI, 78, .inl (fun _ => nI 0))), (q20, .inl (cI, 78, .inl (fun _ => nI 0))), (q28, .inl (cI, 6, .inl (fun _ => nI 0))), (q36, .inl (cI, 6, .inl (fun _ => nI 0))), (q45, .inl (cZ, 169, .inl (xf_z (fun _ => false)))), (q54, .inl (cZ, 169, .inl (xf_z (fun _ => false))))] H := hP
  have hD : va_D A [(m0, .inr (6, [.int (nI 0), .int (nI 1), .int (nI 0), .ref q12, .ref q20, .ref q28, .ref q36, .ref q45, .null, .null, .null, .null, .null])), (q12, .inl (cI, 78, .inl (fun _ => nI 0))), (q20, .inl (cI, 78, .inl (fun _ => nI 0))), (q28, .inl (cI, 6, .inl (fun _ => nI 0))), (q36, .inl (cI, 6, .inl (fun _ => nI 0))), (q45, .inl (cZ, 169, .inl (xf_z (fun _ => false)))), (q54, .inl (cZ, 169, .inl (xf_z (fun _ => false))))] := hD
  refine va_putF (D := D) (ci := 6) (v := .ref q54) (ty := .array .boolean) (C := xn_M) (T := xn_TM) (N := 13) hx hb hgs xw_uM xn_tM xn_oM xn_nM hown hK.1 hP hD hS 0 rfl rfl 8 (by decide) (hgs _ xw_538) (fun _ h9 => h9) rfl hin rfl (by decide +kernel) rfl rfl (Nat.le_of_ble_eq_true rfl) xj_M_init_56 (fun H locs hP hD hS => ?_)
  have hP : va_P D xn_cl [(m0, .inr (6, [.int (nI 0), .int (nI 1), .int (nI 0), .ref q12, .ref q20, .ref q28, .ref q36, .ref q45, .ref q54, .null, .null, .null, .null])), (q12, .inl (cI, 78, .inl (fun _ => nI 0))), (q20, .inl (cI, 78, .inl (fun _ => nI 0))), (q28, .inl (cI, 6, .inl (fun _ => nI 0))), (q36, .inl (cI, 6, .inl (fun _ => nI 0))), (q45, .inl (cZ, 169, .inl (xf_z (fun _ => false)))), (q54, .inl (cZ, 169, .inl (xf_z (fun _ => false))))] H := hP
  have hD : va_D A [(m0, .inr (6, [.int (nI 0), .int (nI 1), .int (nI 0), .ref q12, .ref q20, .ref q28, .ref q36, .ref q45, .ref q54, .null, .null, .null, .null])), (q12, .inl (cI, 78, .inl (fun _ => nI 0))), (q20, .inl (cI, 78, .inl (fun _ => nI 0))), (q28, .inl (cI, 6, .inl (fun _ => nI 0))), (q36, .inl (cI, 6, .inl (fun _ => nI 0))), (q45, .inl (cZ, 169, .inl (xf_z (fun _ => false)))), (q54, .inl (cZ, 169, .inl (xf_z (fun _ => false))))] := hD
  refine lv_aload_n hx hb xj_M_init_59 rfl (lv_at hl 0 rfl) ?_
  refine lv_sipush (v := nI 169) hx hb xj_M_init_60 (by decide) ?_
  refine xr_newZ hx hb (hgs _ xw_570) hK hP hD hS hA (by decide) (Nat.le_of_ble_eq_true rfl) (Nat.le_of_ble_eq_true rfl) xj_M_init_63 (fun q63 H hP hD hS => ?_)
  have hP : va_P D xn_cl [(m0, .inr (6, [.int (nI 0), .int (nI 1), .int (nI 0), .ref q12, .ref q20, .ref q28, .ref q36, .ref q45, .ref q54, .null, .null, .null, .null])), (q12, .inl (cI, 78, .inl (fun _ => nI 0))), (q20, .inl (cI, 78, .inl (fun _ => nI 0))), (q28, .inl (cI, 6, .inl (fun _ => nI 0))), (q36, .inl (cI, 6, .inl (fun _ => nI 0))), (q45, .inl (cZ, 169, .inl (xf_z (fun _ => false)))), (q54, .inl (cZ, 169, .inl (xf_z (fun _ => false)))), (q63, .inl (cZ, 169, .inl (xf_z (fun _ => false))))] H := hP
  have hD : va_D A [(m0, .inr (6, [.int (nI 0), .int (nI 1), .int (nI 0), .ref q12, .ref q20, .ref q28, .ref q36, .ref q45, .ref q54, .null, .null, .null, .null])), (q12, .inl (cI, 78, .inl (fun _ => nI 0))), (q20, .inl (cI, 78, .inl (fun _ => nI 0))), (q28, .inl (cI, 6, .inl (fun _ => nI 0))), (q36, .inl (cI, 6, .inl (fun _ => nI 0))), (q45, .inl (cZ, 169, .inl (xf_z (fun _ => false)))), (q54, .inl (cZ, 169, .inl (xf_z (fun _ => false)))), (q63, .inl (cZ, 169, .inl (xf_z (fun _ => false))))] := hD
  refine va_putF (D := D) (ci := 6) (v := .ref q63) (ty := .array .boolean) (C := xn_M) (T := xn_TM) (N := 13) hx hb hgs xw_uM xn_tM xn_oM xn_nM hown hK.1 hP hD hS 0 rfl rfl 9 (by decide) (hgs _ xw_539) (fun _ h9 => h9) rfl hin rfl (by decide +kernel) rfl rfl (Nat.le_of_ble_eq_true rfl) xj_M_init_65 (fun H locs hP hD hS => ?_)
  have hP : va_P D xn_cl [(m0, .inr (6, [.int (nI 0), .int (nI 1), .int (nI 0), .ref q12, .ref q20, .ref q28, .ref q36, .ref q45, .ref q54, .ref q63, .null, .null, .null])), (q12, .inl (cI, 78, .inl (fun _ => nI 0))), (q20, .inl (cI, 78, .inl (fun _ => nI 0))), (q28, .inl (cI, 6, .inl (fun _ => nI 0))), (q36, .inl (cI, 6, .inl (fun _ => nI 0))), (q45, .inl (cZ, 169, .inl (xf_z (fun _ => false)))), (q54, .inl (cZ, 169, .inl (xf_z (fun _ => false)))), (q63, .inl (cZ, 169, .inl (xf_z (fun _ => false))))] H := hP
  have hD : va_D A [(m0, .inr (6, [.int (nI 0), .int (nI 1), .int (nI 0), .ref q12, .ref q20, .ref q28, .ref q36, .ref q45, .ref q54, .ref q63, .null, .null, .null])), (q12, .inl (cI, 78, .inl (fun _ => nI 0))), (q20, .inl (cI, 78, .inl (fun _ => nI 0))), (q28, .inl (cI, 6, .inl (fun _ => nI 0))), (q36, .inl (cI, 6, .inl (fun _ => nI 0))), (q45, .inl (cZ, 169, .inl (xf_z (fun _ => false)))), (q54, .inl (cZ, 169, .inl (xf_z (fun _ => false)))), (q63, .inl (cZ, 169, .inl (xf_z (fun _ => false))))] := hD
  refine lv_aload_n hx hb xj_M_init_68 rfl (lv_at hl 0 rfl) ?_
  refine lv_sipush (v := nI 169) hx hb xj_M_init_69 (by decide) ?_
  refine xr_newI hx hb (hgs _ xw_45) hK hP hD hS hA (by decide) (Nat.le_of_ble_eq_true rfl) (Nat.le_of_ble_eq_true rfl) xj_M_init_72 (fun q72 H hP hD hS => ?_)
  have hP : va_P D xn_cl [(m0, .inr (6, [.int (nI 0), .int (nI 1), .int (nI 0), .ref q12, .ref q20, .ref q28, .ref q36, .ref q45, .ref q54, .ref q63, .null, .null, .null])), (q12, .inl (cI, 78, .inl (fun _ => nI 0))), (q20, .inl (cI, 78, .inl (fun _ => nI 0))), (q28, .inl (cI, 6, .inl (fun _ => nI 0))), (q36, .inl (cI, 6, .inl (fun _ => nI 0))), (q45, .inl (cZ, 169, .inl (xf_z (fun _ => false)))), (q54, .inl (cZ, 169, .inl (xf_z (fun _ => false)))), (q63, .inl (cZ, 169, .inl (xf_z (fun _ => false)))), (q72, .inl (cI, 169, .inl (fun _ => nI 0)))] H := hP
  have hD : va_D A [(m0, .inr (6, [.int (nI 0), .int (nI 1), .int (nI 0), .ref q12, .ref q20, .ref q28, .ref q36, .ref q45, .ref q54, .ref q63, .null, .null, .null])), (q12, .inl (cI, 78, .inl (fun _ => nI 0))), (q20, .inl (cI, 78, .inl (fun _ => nI 0))), (q28, .inl (cI, 6, .inl (fun _ => nI 0))), (q36, .inl (cI, 6, .inl (fun _ => nI 0))), (q45, .inl (cZ, 169, .inl (xf_z (fun _ => false)))), (q54, .inl (cZ, 169, .inl (xf_z (fun _ => false)))), (q63, .inl (cZ, 169, .inl (xf_z (fun _ => false)))), (q72, .inl (cI, 169, .inl (fun _ => nI 0)))] := hD
  refine va_putF (D := D) (ci := 6) (v := .ref q72) (ty := .array .int) (C := xn_M) (T := xn_TM) (N := 13) hx hb hgs xw_uM xn_tM xn_oM xn_nM hown hK.1 hP hD hS 0 rfl rfl 10 (by decide) (hgs _ xw_540) (fun _ h9 => h9) rfl hin rfl (by decide +kernel) rfl rfl (Nat.le_of_ble_eq_true rfl) xj_M_init_74 (fun H locs hP hD hS => ?_)
  have hP : va_P D xn_cl [(m0, .inr (6, [.int (nI 0), .int (nI 1), .int (nI 0), .ref q12, .ref q20, .ref q28, .ref q36, .ref q45, .ref q54, .ref q63, .ref q72, .null, .null])), (q12, .inl (cI, 78, .inl (fun _ => nI 0))), (q20, .inl (cI, 78, .inl (fun _ => nI 0))), (q28, .inl (cI, 6, .inl (fun _ => nI 0))), (q36, .inl (cI, 6, .inl (fun _ => nI 0))), (q45, .inl (cZ, 169, .inl (xf_z (fun _ => false)))), (q54, .inl (cZ, 169, .inl (xf_z (fun _ => false)))), (q63, .inl (cZ, 169, .inl (xf_z (fun _ => false)))), (q72, .inl (cI, 169, .inl (fun _ => nI 0)))] H := hP
  have hD : va_D A [(m0, .inr (6, [.int (nI 0), .int (nI 1), .int (nI 0), .ref q12, .ref q20, .ref q28, .ref q36, .ref q45, .ref q54, .ref q63, .ref q72, .null, .null])), (q12, .inl (cI, 78, .inl (fun _ => nI 0))), (q20, .inl (cI, 78, .inl (fun _ => nI 0))), (q28, .inl (cI, 6, .inl (fun _ => nI 0))), (q36, .inl (cI, 6, .inl (fun _ => nI 0))), (q45, .inl (cZ, 169, .inl (xf_z (fun _ => false)))), (q54, .inl (cZ, 169, .inl (xf_z (fun _ => false)))), (q63, .inl (cZ, 169, .inl (xf_z (fun _ => false)))), (q72, .inl (cI, 169, .inl (fun _ => nI 0)))] := hD
  refine lv_aload_n hx hb xj_M_init_77 rfl (lv_at hl 0 rfl) ?_
  refine lv_bipush (v := nI 13) hx hb xj_M_init_78 (by decide) ?_
  refine xr_newZ hx hb (hgs _ xw_570) hK hP hD hS hA (by decide) (Nat.le_of_ble_eq_true rfl) (Nat.le_of_ble_eq_true rfl) xj_M_init_80 (fun q80 H hP hD hS => ?_)
  have hP : va_P D xn_cl [(m0, .inr (6, [.int (nI 0), .int (nI 1), .int (nI 0), .ref q12, .ref q20, .ref q28, .ref q36, .ref q45, .ref q54, .ref q63, .ref q72, .null, .null])), (q12, .inl (cI, 78, .inl (fun _ => nI 0))), (q20, .inl (cI, 78, .inl (fun _ => nI 0))), (q28, .inl (cI, 6, .inl (fun _ => nI 0))), (q36, .inl (cI, 6, .inl (fun _ => nI 0))), (q45, .inl (cZ, 169, .inl (xf_z (fun _ => false)))), (q54, .inl (cZ, 169, .inl (xf_z (fun _ => false)))), (q63, .inl (cZ, 169, .inl (xf_z (fun _ => false)))), (q72, .inl (cI, 169, .inl (fun _ => nI 0))), (q80, .inl (cZ, 13, .inl (xf_z (fun _ => false))))] H := hP
  have hD : va_D A [(m0, .inr (6, [.int (nI 0), .int (nI 1), .int (nI 0), .ref q12, .ref q20, .ref q28, .ref q36, .ref q45, .ref q54, .ref q63, .ref q72, .null, .null])), (q12, .inl (cI, 78, .inl (fun _ => nI 0))), (q20, .inl (cI, 78, .inl (fun _ => nI 0))), (q28, .inl (cI, 6, .inl (fun _ => nI 0))), (q36, .inl (cI, 6, .inl (fun _ => nI 0))), (q45, .inl (cZ, 169, .inl (xf_z (fun _ => false)))), (q54, .inl (cZ, 169, .inl (xf_z (fun _ => false)))), (q63, .inl (cZ, 169, .inl (xf_z (fun _ => false)))), (q72, .inl (cI, 169, .inl (fun _ => nI 0))), (q80, .inl (cZ, 13, .inl (xf_z (fun _ => false))))] := hD
  refine va_putF (D := D) (ci := 6) (v := .ref q80) (ty := .array .boolean) (C := xn_M) (T := xn_TM) (N := 13) hx hb hgs xw_uM xn_tM xn_oM xn_nM hown hK.1 hP hD hS 0 rfl rfl 11 (by decide) (hgs _ xw_541) (fun _ h9 => h9) rfl hin rfl (by decide +kernel) rfl rfl (Nat.le_of_ble_eq_true rfl) xj_M_init_82 (fun H locs hP hD hS => ?_)
  have hP : va_P D xn_cl [(m0, .inr (6, [.int (nI 0), .int (nI 1), .int (nI 0), .ref q12, .ref q20, .ref q28, .ref q36, .ref q45, .ref q54, .ref q63, .ref q72, .ref q80, .null])), (q12, .inl (cI, 78, .inl (fun _ => nI 0))), (q20, .inl (cI, 78, .inl (fun _ => nI 0))), (q28, .inl (cI, 6, .inl (fun _ => nI 0))), (q36, .inl (cI, 6, .inl (fun _ => nI 0))), (q45, .inl (cZ, 169, .inl (xf_z (fun _ => false)))), (q54, .inl (cZ, 169, .inl (xf_z (fun _ => false)))), (q63, .inl (cZ, 169, .inl (xf_z (fun _ => false)))), (q72, .inl (cI, 169, .inl (fun _ => nI 0))), (q80, .inl (cZ, 13, .inl (xf_z (fun _ => false))))] H := hP
  have hD : va_D A [(m0, .inr (6, [.int (nI 0), .int (nI 1), .int (nI 0), .ref q12, .ref q20, .ref q28, .ref q36, .ref q45, .ref q54, .ref q63, .ref q72, .ref q80, .null])), (q12, .inl (cI, 78, .inl (fun _ => nI 0))), (q20, .inl (cI, 78, .inl (fun _ => nI 0))), (q28, .inl (cI, 6, .inl (fun _ => nI 0))), (q36, .inl (cI, 6, .inl (fun _ => nI 0))), (q45, .inl (cZ, 169, .inl (xf_z (fun _ => false)))), (q54, .inl (cZ, 169, .inl (xf_z (fun _ => false)))), (q63, .inl (cZ, 169, .inl (xf_z (fun _ => false)))), (q72, .inl (cI, 169, .inl (fun _ => nI 0))), (q80, .inl (cZ, 13, .inl (xf_z (fun _ => false))))] := hD
  refine lv_aload_n hx hb xj_M_init_85 rfl (lv_at hl 0 rfl) ?_
  refine lv_bipush (v := nI 13) hx hb xj_M_init_86 (by decide) ?_
  refine xr_newI hx hb (hgs _ xw_45) hK hP hD hS hA (by decide) (Nat.le_of_ble_eq_true rfl) (Nat.le_of_ble_eq_true rfl) xj_M_init_88 (fun q88 H hP hD hS => ?_)
  have hP : va_P D xn_cl [(m0, .inr (6, [.int (nI 0), .int (nI 1), .int (nI 0), .ref q12, .ref q20, .ref q28, .ref q36, .ref q45, .ref q54, .ref q63, .ref q72, .ref q80, .null])), (q12, .inl (cI, 78, .inl (fun _ => nI 0))), (q20, .inl (cI, 78, .inl (fun _ => nI 0))), (q28, .inl (cI, 6, .inl (fun _ => nI 0))), (q36, .inl (cI, 6, .inl (fun _ => nI 0))), (q45, .inl (cZ, 169, .inl (xf_z (fun _ => false)))), (q54, .inl (cZ, 169, .inl (xf_z (fun _ => false)))), (q63, .inl (cZ, 169, .inl (xf_z (fun _ => false)))), (q72, .inl (cI, 169, .inl (fun _ => nI 0))), (q80, .inl (cZ, 13, .inl (xf_z (fun _ => false)))), (q88, .inl (cI, 13, .inl (fun _ => nI 0)))] H := hP
  have hD : va_D A [(m0, .inr (6, [.int (nI 0), .int (nI 1), .int (nI 0), .ref q12, .ref q20, .ref q28, .ref q36, .ref q45, .ref q54, .ref q63, .ref q72, .ref q80, .null])), (q12, .inl (cI, 78, .inl (fun _ => nI 0))), (q20, .inl (cI, 78, .inl (fun _ => nI 0))), (q28, .inl (cI, 6, .inl (fun _ => nI 0))), (q36, .inl (cI, 6, .inl (fun _ => nI 0))), (q45, .inl (cZ, 169, .inl (xf_z (fun _ => false)))), (q54, .inl (cZ, 169, .inl (xf_z (fun _ => false)))), (q63, .inl (cZ, 169, .inl (xf_z (fun _ => false)))), (q72, .inl (cI, 169, .inl (fun _ => nI 0))), (q80, .inl (cZ, 13, .inl (xf_z (fun _ => false)))), (q88, .inl (cI, 13, .inl (fun _ => nI 0)))] := hD
  refine va_putF (D := D) (ci := 6) (v := .ref q88) (ty := .array .int) (C := xn_M) (T := xn_TM) (N := 13) hx hb hgs xw_uM xn_tM xn_oM xn_nM hown hK.1 hP hD hS 0 rfl rfl 12 (by decide) (hgs _ xw_542) (fun _ h9 => h9) rfl hin rfl (by decide +kernel) rfl rfl (Nat.le_of_ble_eq_true rfl) xj_M_init_90 (fun H locs hP hD hS => ?_)
  have hP : va_P D xn_cl [(m0, .inr (6, [.int (nI 0), .int (nI 1), .int (nI 0), .ref q12, .ref q20, .ref q28, .ref q36, .ref q45, .ref q54, .ref q63, .ref q72, .ref q80, .ref q88])), (q12, .inl (cI, 78, .inl (fun _ => nI 0))), (q20, .inl (cI, 78, .inl (fun _ => nI 0))), (q28, .inl (cI, 6, .inl (fun _ => nI 0))), (q36, .inl (cI, 6, .inl (fun _ => nI 0))), (q45, .inl (cZ, 169, .inl (xf_z (fun _ => false)))), (q54, .inl (cZ, 169, .inl (xf_z (fun _ => false)))), (q63, .inl (cZ, 169, .inl (xf_z (fun _ => false)))), (q72, .inl (cI, 169, .inl (fun _ => nI 0))), (q80, .inl (cZ, 13, .inl (xf_z (fun _ => false)))), (q88, .inl (cI, 13, .inl (fun _ => nI 0)))] H := hP
  have hD : va_D A [(m0, .inr (6, [.int (nI 0), .int (nI 1), .int (nI 0), .ref q12, .ref q20, .ref q28, .ref q36, .ref q45, .ref q54, .ref q63, .ref q72, .ref q80, .ref q88])), (q12, .inl (cI, 78, .inl (fun _ => nI 0))), (q20, .inl (cI, 78, .inl (fun _ => nI 0))), (q28, .inl (cI, 6, .inl (fun _ => nI 0))), (q36, .inl (cI, 6, .inl (fun _ => nI 0))), (q45, .inl (cZ, 169, .inl (xf_z (fun _ => false)))), (q54, .inl (cZ, 169, .inl (xf_z (fun _ => false)))), (q63, .inl (cZ, 169, .inl (xf_z (fun _ => false)))), (q72, .inl (cI, 169, .inl (fun _ => nI 0))), (q80, .inl (cZ, 13, .inl (xf_z (fun _ => false)))), (q88, .inl (cI, 13, .inl (fun _ => nI 0)))] := hD
  refine lv_aload_n hx hb xj_M_init_93 rfl (lv_at hl 0 rfl) ?_
  refine xc_wVv (av := []) (rest := []) (wr := [(q12, .inl (cI, 78, .inl (fun _ => nI 0))), (q20, .inl (cI, 78, .inl (fun _ => nI 0))), (q45, .inl (cZ, 169, .inl (xf_z (fun _ => false)))), (q54, .inl (cZ, 169, .inl (xf_z (fun _ => false)))), (q63, .inl (cZ, 169, .inl (xf_z (fun _ => false)))), (q72, .inl (cI, 169, .inl (fun _ => nI 0))), (q80, .inl (cZ, 13, .inl (xf_z (fun _ => false)))), (q88, .inl (cI, 13, .inl (fun _ => nI 0)))]) hAt hT (xt_M_forget l D cI cZ cJ m0 q12 q20 q28 q36 q45 q54 q63 q72 q80 q88 (nI 0) 1 0 (fun _ => nI 0) (fun _ => nI 0) ) xw_526 xw_7 xw_529 xw_528 xs_M_forget (C0 := xn_M) (q0 := 0) rfl rfl (na := 0) rfl (by decide +kernel) ⟨Nat.le_of_ble_eq_true rfl, Nat.le_of_ble_eq_true rfl⟩ hP hD hS hA [0, 3, 4] [1, 2, 5, 6, 7, 8, 9, 10] rfl rfl (by decide) (by decide) (by decide) hK hl.1 (Nat.le_of_ble_eq_true rfl) ⟨Nat.le_of_ble_eq_true rfl, Nat.le_of_ble_eq_true rfl⟩ xj_M_init_94 (fun _ H locs _ hP hD hS => ?_)
  have hP : va_P D xn_cl [(m0, .inr (6, [.int (nI 0), .int (nI 1), .int (nI 0), .ref q12, .ref q20, .ref q28, .ref q36, .ref q45, .ref q54, .ref q63, .ref q72, .ref q80, .ref q88])), (q12, .inl (cI, 78, .inl (fun _ => nI 0))), (q20, .inl (cI, 78, .inl (fun _ => nI 0))), (q28, .inl (cI, 6, .inl (xf_fill (fun _ => nI 1) 6 0 (fun _ => nI 0)))), (q36, .inl (cI, 6, .inl (xf_fill (fun _ => nI 0) 6 0 (fun _ => nI 0)))), (q45, .inl (cZ, 169, .inl (xf_z (fun _ => false)))), (q54, .inl (cZ, 169, .inl (xf_z (fun _ => false)))), (q63, .inl (cZ, 169, .inl (xf_z (fun _ => false)))), (q72, .inl (cI, 169, .inl (fun _ => nI 0))), (q80, .inl (cZ, 13, .inl (xf_z (fun _ => false)))), (q88, .inl (cI, 13, .inl (fun _ => nI 0)))] H := va_P.sub hP [8, 0, 1, 9, 10, 2, 3, 4, 5, 6, 7] rfl
  have hD : va_D A [(m0, .inr (6, [.int (nI 0), .int (nI 1), .int (nI 0), .ref q12, .ref q20, .ref q28, .ref q36, .ref q45, .ref q54, .ref q63, .ref q72, .ref q80, .ref q88])), (q12, .inl (cI, 78, .inl (fun _ => nI 0))), (q20, .inl (cI, 78, .inl (fun _ => nI 0))), (q28, .inl (cI, 6, .inl (xf_fill (fun _ => nI 1) 6 0 (fun _ => nI 0)))), (q36, .inl (cI, 6, .inl (xf_fill (fun _ => nI 0) 6 0 (fun _ => nI 0)))), (q45, .inl (cZ, 169, .inl (xf_z (fun _ => false)))), (q54, .inl (cZ, 169, .inl (xf_z (fun _ => false)))), (q63, .inl (cZ, 169, .inl (xf_z (fun _ => false)))), (q72, .inl (cI, 169, .inl (fun _ => nI 0))), (q80, .inl (cZ, 13, .inl (xf_z (fun _ => false)))), (q88, .inl (cI, 13, .inl (fun _ => nI 0)))] := va_D.sub hD [8, 0, 1, 9, 10, 2, 3, 4, 5, 6, 7] (by decide) rfl
  exact hret ((q12, q20, q28, q36, q45, q54, q63, q72, q80, q88)) H locs _ ls trivial hP hD hS xj_M_init_97
