/-! walks: circles and places -/
set_option maxRecDepth 100000 in
set_option maxHeartbeats 4000000 in
theorem xt_M_findCircle (l : Launch) (D : va_G) (cI cZ cJ : ClassId) (m0 m1 m2 m3 m4 m5 m6 m7 m8 m9 m10 : Nat) (cd : Int32) (gc dc : Nat) (gd : Nat → Bool) (bd : Nat → Bool) (li : Nat → Int32) (n0 : Nat) (hn0 : 0 < n0) (hn : n0 ≤ 13) (hd : dc ≤ 12) (q0 : Nat → Nat) (hq0 : q0 0 = 0) (K : Nat) (r : Nat → Nat) (hrun : xs_run dc n0 (xm_may gd) (xm_cir gd bd n0) K 1 q0 = some r) : xc_Wv l xy_M_findCircle xb_M_findCircle 3 1 0 0 [.ref m0, .int (nI n0)] D cI cZ cJ [(m0, .inr (6, [.int cd, .int (nI gc), .int (nI dc), .ref m1, .ref m2, .ref m3, .ref m4, .ref m5, .ref m6, .ref m7, .ref m8, .ref m9, .ref m10])), (m5, .inl (cZ, 169, .inl (xf_z gd))), (m6, .inl (cZ, 169, .inl (xf_z bd))), (m10, .inl (cI, 13, .inl li))] ((Nat → Int32)) (fun u => ∀ i, i < n0 → u i = nI (r i - 1)) (fun u => [(m0, .inr (6, [.int cd, .int (nI gc), .int (nI dc), .ref m1, .ref m2, .ref m3, .ref m4, .ref m5, .ref m6, .ref m7, .ref m8, .ref m9, .ref m10])), (m5, .inl (cZ, 169, .inl (xf_z gd))), (m6, .inl (cZ, 169, .inl (xf_z bd))), (m10, .inl (cI, 13, .inl u))]) := by
  refine xc_Wv_of (by decide) (Nat.le_of_ble_eq_true rfl) ?_
  intro p e s m args below meth c Q ls A hAt hin hP hK hD hA hS hl hret
  obtain ⟨hx, hb, hml, hown, hts, hgs, hlk⟩ := id hAt
  have hT : ∀ w ∈ xw_g, w ∈ xc_ws xy_M_findCircle xb_M_findCircle 3 (none) := fun w h => List.mem_cons_of_mem _ h
  have hown : s.vm.findClass "WishLedgerModel" = some m.cls := hown
  obtain ⟨H, hH0⟩ : ∃ H, H = s.heap := ⟨_, rfl⟩
  obtain ⟨locs, hL0⟩ : ∃ locs : List Loc, locs = [] := ⟨_, rfl⟩
  have hP : va_P D xn_cl [(m0, .inr (6, [.int cd, .int (nI gc), .int (nI dc), .ref m1, .ref m2, .ref m3, .ref m4, .ref m5, .ref m6, .ref m7, .ref m8, .ref m9, .ref m10])), (m5, .inl (cZ, 169, .inl (xf_z gd))), (m6, .inl (cZ, 169, .inl (xf_z bd))), (m10, .inl (cI, 13, .inl li))] H := by rw [hH0]; exact hP
  have hS : va_S A s.heap H locs := by rw [hH0, hL0]; exact hS
  suffices hgo : W p l e (xc_rm 1 0 0) s m args below meth c H locs 0 0 Q (F0 m 0 ls []) by rw [hH0, hL0] at hgo; exact hgo
  clear hH0 hL0
  have hl : lv_has ls 3 [(0, .ref m0), (1, .int (nI n0))] := hl
  refine lv_iconst (v := nI 0) hx hb xj_M_findCircle_0 (by decide) ?_
  refine lv_istore_n (lv' := [(2, .int (nI 0)), (0, .ref m0), (1, .int (nI n0))]) hx hb xj_M_findCircle_1 rfl hl (by decide) rfl (fun ls hl => ?_)
  refine lv_aload_n hx hb xj_M_findCircle_2 rfl (lv_at hl 1 rfl) ?_
  refine va_get (D := D) (ci := 6) (v := .ref m10) (C := xn_M) (T := xn_TM) (N := 13) hx hb hgs xw_uM hown hK.1 hP 0 rfl rfl 12 (by decide) (hgs _ xw_542) (fun _ h9 => h9) rfl xj_M_findCircle_3 ?_
  refine lv_iconst (v := nI 0) hx hb xj_M_findCircle_6 (by decide) ?_
  refine lv_iconst (v := (-1)) hx hb xj_M_findCircle_7 (by decide) ?_
  refine xr_iast hx hb hK.1 hP hD hS 3 0 rfl rfl (by omega) (by decide) xj_M_findCircle_8 (fun H locs hP hD hS => ?_)
  have hP : va_P D xn_cl [(m0, .inr (6, [.int cd, .int (nI gc), .int (nI dc), .ref m1, .ref m2, .ref m3, .ref m4, .ref m5, .ref m6, .ref m7, .ref m8, .ref m9, .ref m10])), (m5, .inl (cZ, 169, .inl (xf_z gd))), (m6, .inl (cZ, 169, .inl (xf_z bd))), (m10, .inl (cI, 13, .inl (upd li 0 ((-1)))))] H := hP
  have hD : va_D A [(m0, .inr (6, [.int cd, .int (nI gc), .int (nI dc), .ref m1, .ref m2, .ref m3, .ref m4, .ref m5, .ref m6, .ref m7, .ref m8, .ref m9, .ref m10])), (m5, .inl (cZ, 169, .inl (xf_z gd))), (m6, .inl (cZ, 169, .inl (xf_z bd))), (m10, .inl (cI, 13, .inl (upd li 0 ((-1)))))] := hD
  have loop9 : ∀ (n : Nat)  (pp : Nat) (li2 : Nat → Int32) (q : Nat → Nat) (ls : Array Slot) (H : Heap) (locs : List Loc), (xs_run dc n0 (xm_may gd) (xm_cir gd bd n0) n (pp + 1) q = some r) → (∀ i, i ≤ pp → li2 i = nI (q i) - nI 1) → (∀ i, i < pp → 1 ≤ q i ∧ q i ≤ dc) → (q pp ≤ dc) → (pp < n0) → lv_has ls 3 [(0, .ref m0), (1, .int (nI n0)), (2, .int (nI pp))] → va_P D xn_cl [(m0, .inr (6, [.int cd, .int (nI gc), .int (nI dc), .ref m1, .ref m2, .ref m3, .ref m4, .ref m5, .ref m6, .ref m7, .ref m8, .ref m9, .ref m10])), (m5, .inl (cZ, 169, .inl (xf_z gd))), (m6, .inl (cZ, 169, .inl (xf_z bd))), (m10, .inl (cI, 13, .inl li2))] H → va_D A [(m0, .inr (6, [.int cd, .int (nI gc), .int (nI dc), .ref m1, .ref m2, .ref m3, .ref m4, .ref m5, .ref m6, .ref m7, .ref m8, .ref m9, .ref m10])), (m5, .inl (cZ, 169, .inl (xf_z gd))), (m6, .inl (cZ, 169, .inl (xf_z bd))), (m10, .inl (cI, 13, .inl li2))] → va_S A s.heap H locs → W p l e (xc_rm 1 0 0) s m args below meth c H locs 0 0 Q (F0 m 9 ls []) := by
    intro n
    induction n with
    | zero =>
      intro pp li2 q ls H locs  hr hli hq hqp hpn hl hP hD hS
      exact absurd (show (none : Option (Nat → Nat)) = some r from hr) (by simp)
    | succ n ih9 =>
      intro pp li2 q ls H locs  hr hli hq hqp hpn hl hP hD hS
      refine lv_iload_n hx hb xj_M_findCircle_9 rfl (lv_at hl 2 rfl) ?_
      refine lv_if_lt (tgt := 79) hx hb xj_M_findCircle_10 rfl (fun h10 => absurd h10 (nI_pos (show pp < 2 ^ 31 by omega))) (fun h10 => ?_)
      refine lv_aload_n hx hb xj_M_findCircle_13 rfl (lv_at hl 0 rfl) ?_
      refine va_get (D := D) (ci := 6) (v := .ref m10) (C := xn_M) (T := xn_TM) (N := 13) hx hb hgs xw_uM hown hK.1 hP 0 rfl rfl 12 (by decide) (hgs _ xw_542) (fun _ h9 => h9) rfl xj_M_findCircle_14 ?_
      refine lv_iload_n hx hb xj_M_findCircle_17 rfl (lv_at hl 2 rfl) ?_
      refine lv_dup2_11 hx hb xj_M_findCircle_18 rfl rfl ?_
      refine xr_iald hx hb hK.1 hP 3 0 rfl rfl (by omega) (by decide) xj_M_findCircle_19 ?_
      refine lv_iconst (v := nI 1) hx hb xj_M_findCircle_20 (by decide) ?_
      refine lv_iadd hx hb xj_M_findCircle_21 ?_
      refine xr_top (y := nI (q pp)) (by rw [hli pp (Nat.le_refl pp), Int32.sub_add_cancel]) ?_
      refine xr_iast hx hb hK.1 hP hD hS 3 0 rfl rfl (by omega) (by decide) xj_M_findCircle_22 (fun H locs hP hD hS => ?_)
      have hP : va_P D xn_cl [(m0, .inr (6, [.int cd, .int (nI gc), .int (nI dc), .ref m1, .ref m2, .ref m3, .ref m4, .ref m5, .ref m6, .ref m7, .ref m8, .ref m9, .ref m10])), (m5, .inl (cZ, 169, .inl (xf_z gd))), (m6, .inl (cZ, 169, .inl (xf_z bd))), (m10, .inl (cI, 13, .inl (upd li2 pp (nI (q pp)))))] H := hP
      have hD : va_D A [(m0, .inr (6, [.int cd, .int (nI gc), .int (nI dc), .ref m1, .ref m2, .ref m3, .ref m4, .ref m5, .ref m6, .ref m7, .ref m8, .ref m9, .ref m10])), (m5, .inl (cZ, 169, .inl (xf_z gd))), (m6, .inl (cZ, 169, .inl (xf_z bd))), (m10, .inl (cI, 13, .inl (upd li2 pp (nI (q pp)))))] := hD
      refine lv_aload_n hx hb xj_M_findCircle_23 rfl (lv_at hl 0 rfl) ?_
      refine va_get (D := D) (ci := 6) (v := .ref m10) (C := xn_M) (T := xn_TM) (N := 13) hx hb hgs xw_uM hown hK.1 hP 0 rfl rfl 12 (by decide) (hgs _ xw_542) (fun _ h9 => h9) rfl xj_M_findCircle_24 ?_
      refine lv_iload_n hx hb xj_M_findCircle_27 rfl (lv_at hl 2 rfl) ?_
      refine xr_iald hx hb hK.1 hP 3 0 rfl rfl (by omega) (by decide) xj_M_findCircle_28 ?_
      refine xr_top (y := nI (q pp)) pk_us ?_
      refine lv_aload_n hx hb xj_M_findCircle_29 rfl (lv_at hl 0 rfl) ?_
      refine va_get (D := D) (ci := 6) (v := .int (nI dc)) (C := xn_M) (T := xn_TM) (N := 13) hx hb hgs xw_uM hown hK.1 hP 0 rfl rfl 2 (by decide) (hgs _ xw_532) (fun _ h9 => h9) rfl xj_M_findCircle_30 ?_
      refine xr_ne (tgt := 42) hx hb (by omega) (by omega) xj_M_findCircle_33 rfl (fun h33 => ?_) (fun h33 => ?_)
      · -- 42
        have hlq := xm_lq hli hq hqp h33
        refine lv_aload_n hx hb xj_M_findCircle_42 rfl (lv_at hl 0 rfl) ?_
        refine lv_iload_n hx hb xj_M_findCircle_43 rfl (lv_at hl 2 rfl) ?_
        refine xc_callV (av := [.int (nI pp)]) (rest := []) hAt hT (xt_M_mayStand l D cI cZ cJ m0 m1 m2 m3 m4 m5 m6 m7 m8 m9 m10 cd gc dc gd (upd li2 pp (nI (q pp))) (va_up q pp (q pp + 1)) pp (by omega) (fun k hk => ⟨(hlq k hk).1, (hlq k hk).2.1, Nat.le_trans (hlq k hk).2.2 hd⟩)) xw_654 xw_7 xw_657 xw_656 xs_M_mayStand (C0 := xn_M) (q0 := 0) rfl rfl (na := 1) rfl (by decide +kernel) ⟨Nat.le_of_ble_eq_true rfl, Nat.le_of_ble_eq_true rfl⟩ (hP.sub (ws' := [(m0, .inr (6, [.int cd, .int (nI gc), .int (nI dc), .ref m1, .ref m2, .ref m3, .ref m4, .ref m5, .ref m6, .ref m7, .ref m8, .ref m9, .ref m10])), (m5, .inl (cZ, 169, .inl (xf_z gd))), (m10, .inl (cI, 13, .inl (upd li2 pp (nI (q pp)))))]) [0, 1, 3] rfl) hK hl.1 (Nat.le_of_ble_eq_true rfl) ⟨Nat.zero_le _, Nat.zero_le _⟩ xj_M_findCircle_44 ?_
        refine xr_ifeq (tgt := 9) hx hb xj_M_findCircle_47 rfl (fun h47 => ?_) (fun h47 => ?_)
        · -- 9
          exact ih9 pp (upd li2 pp (nI (q pp))) (va_up q pp (q pp + 1)) ls _ _  (((if_neg h33).trans (if_neg (by rw [h47]; decide))).symm.trans hr) (xm_lb hlq) (fun i hi => (hlq i (by omega)).2) ((hlq pp (Nat.le_refl pp)).2.2) hpn (lv_sub hl [0, 1, 2] rfl) hP hD hS
        · -- 50
          refine lv_iload_n hx hb xj_M_findCircle_50 rfl (lv_at hl 2 rfl) ?_
          refine lv_iconst (v := nI 1) hx hb xj_M_findCircle_51 (by decide) ?_
          refine xr_iadd hx hb xj_M_findCircle_52 ?_
          refine lv_iload_n hx hb xj_M_findCircle_53 rfl (lv_at hl 1 rfl) ?_
          refine xr_ge (tgt := 70) hx hb (by omega) (by omega) xj_M_findCircle_54 rfl (fun h54 => ?_) (fun h54 => ?_)
          · -- 70
            refine lv_aload_n hx hb xj_M_findCircle_70 rfl (lv_at hl 0 rfl) ?_
            refine lv_iload_n hx hb xj_M_findCircle_71 rfl (lv_at hl 1 rfl) ?_
            refine xc_callV (av := [.int (nI n0)]) (rest := []) hAt hT (xt_M_isCircle l D cI cZ cJ m0 m1 m2 m3 m4 m5 m6 m7 m8 m9 m10 cd gc dc gd bd (upd li2 pp (nI (q pp))) (va_up q pp (q pp + 1)) n0 hn0 (by omega) (fun k hk => ⟨(hlq k (by omega)).1, (hlq k (by omega)).2.1, Nat.le_trans (hlq k (by omega)).2.2 hd⟩)) xw_658 xw_7 xw_661 xw_660 xs_M_isCircle (C0 := xn_M) (q0 := 0) rfl rfl (na := 1) rfl (by decide +kernel) ⟨Nat.le_of_ble_eq_true rfl, Nat.le_of_ble_eq_true rfl⟩ (hP.sub (ws' := [(m0, .inr (6, [.int cd, .int (nI gc), .int (nI dc), .ref m1, .ref m2, .ref m3, .ref m4, .ref m5, .ref m6, .ref m7, .ref m8, .ref m9, .ref m10])), (m5, .inl (cZ, 169, .inl (xf_z gd))), (m6, .inl (cZ, 169, .inl (xf_z bd))), (m10, .inl (cI, 13, .inl (upd li2 pp (nI (q pp)))))]) [0, 1, 2, 3] rfl) hK hl.1 (Nat.le_of_ble_eq_true rfl) ⟨Nat.zero_le _, Nat.zero_le _⟩ xj_M_findCircle_72 ?_
            refine xr_ifeq (tgt := 9) hx hb xj_M_findCircle_75 rfl (fun h75 => ?_) (fun h75 => ?_)
            · -- 9
              exact ih9 pp (upd li2 pp (nI (q pp))) (va_up q pp (q pp + 1)) ls _ _  (((if_neg h33).trans ((if_pos h47).trans ((if_neg (by omega)).trans (if_neg (by rw [h75]; decide))))).symm.trans hr) (xm_lb hlq) (fun i hi => (hlq i (by omega)).2) ((hlq pp (Nat.le_refl pp)).2.2) hpn (lv_sub hl [0, 1, 2] rfl) hP hD hS
            · -- 78
              have e9 : r = va_up q pp (q pp + 1) := (Option.some.inj (((if_neg h33).trans ((if_pos h47).trans ((if_neg (by omega)).trans (if_pos h75)))).symm.trans hr)).symm
              exact hret (upd li2 pp (nI (q pp))) H locs _ ls (fun i hi => by rw [e9]; exact (hlq i (by omega)).1) hP hD hS xj_M_findCircle_78
          · -- 57
            refine lv_iinc (k := 2) (v := nI (pp + 1)) (lv' := [(2, .int (nI (pp + 1))), (0, .ref m0), (1, .int (nI n0))]) hx hb xj_M_findCircle_57 hl rfl (xr_inc _) (by decide) rfl (fun ls hl => ?_)
            refine lv_aload_n hx hb xj_M_findCircle_60 rfl (lv_at hl 1 rfl) ?_
            refine va_get (D := D) (ci := 6) (v := .ref m10) (C := xn_M) (T := xn_TM) (N := 13) hx hb hgs xw_uM hown hK.1 hP 0 rfl rfl 12 (by decide) (hgs _ xw_542) (fun _ h9 => h9) rfl xj_M_findCircle_61 ?_
            refine lv_iload_n hx hb xj_M_findCircle_64 rfl (lv_at hl 0 rfl) ?_
            refine lv_iconst (v := (-1)) hx hb xj_M_findCircle_65 (by decide) ?_
            refine xr_iast hx hb hK.1 hP hD hS 3 0 rfl rfl (by omega) (by decide) xj_M_findCircle_66 (fun H locs hP hD hS => ?_)
            have hP : va_P D xn_cl [(m0, .inr (6, [.int cd, .int (nI gc), .int (nI dc), .ref m1, .ref m2, .ref m3, .ref m4, .ref m5, .ref m6, .ref m7, .ref m8, .ref m9, .ref m10])), (m5, .inl (cZ, 169, .inl (xf_z gd))), (m6, .inl (cZ, 169, .inl (xf_z bd))), (m10, .inl (cI, 13, .inl (upd (upd li2 pp (nI (q pp))) (pp + 1) ((-1)))))] H := hP
            have hD : va_D A [(m0, .inr (6, [.int cd, .int (nI gc), .int (nI dc), .ref m1, .ref m2, .ref m3, .ref m4, .ref m5, .ref m6, .ref m7, .ref m8, .ref m9, .ref m10])), (m5, .inl (cZ, 169, .inl (xf_z gd))), (m6, .inl (cZ, 169, .inl (xf_z bd))), (m10, .inl (cI, 13, .inl (upd (upd li2 pp (nI (q pp))) (pp + 1) ((-1)))))] := hD
            refine lv_goto (tgt := 9) hx hb xj_M_findCircle_67 rfl ?_
            exact ih9 (pp + 1) (upd (upd li2 pp (nI (q pp))) (pp + 1) ((-1))) (va_up (va_up q pp (q pp + 1)) (pp + 1) 0) ls _ _  (((if_neg h33).trans ((if_pos h47).trans (if_pos h54))).symm.trans hr) (xm_lc hlq) (fun i hi => by rw [va_up_ne _ _ (by omega)]; exact (hlq i (by omega)).2) (by rw [va_up_self]; exact Nat.zero_le dc) h54 (lv_sub hl [1, 2, 0] rfl) hP hD hS
      · -- 36
        have hp0 : 0 < pp := Nat.pos_of_ne_zero (fun z => by subst z; exact absurd ((xs_run_0 _ _).symm.trans ((if_pos h33).symm.trans hr)) (by simp))
        refine lv_iinc (k := 2) (v := nI (pp - 1)) (lv' := [(2, .int (nI (pp - 1))), (0, .ref m0), (1, .int (nI n0))]) hx hb xj_M_findCircle_36 hl rfl (xr_dec (by omega)) (by decide) rfl (fun ls hl => ?_)
        refine lv_goto (tgt := 9) hx hb xj_M_findCircle_39 rfl ?_
        exact ih9 (pp - 1) (upd li2 pp (nI (q pp))) (va_up q pp (q pp + 1)) ls _ _  (by rw [show pp - 1 + 1 = pp by omega]; exact (if_pos h33).symm.trans hr) (fun i hi => by rw [pk_un (by omega), va_up_ne _ _ (by omega)]; exact hli i (by omega)) (fun i hi => by rw [va_up_ne _ _ (by omega)]; exact hq i (by omega)) (by rw [va_up_ne _ _ (by omega)]; exact (hq (pp - 1) (by omega)).2) (by omega) (lv_sub hl [1, 2, 0] rfl) hP hD hS
  exact loop9 K 0 (upd li 0 ((-1))) q0 ls _ _  hrun (fun i hi => by rw [show i = 0 by omega, pk_us, hq0]; rfl) (fun i hi => absurd hi (Nat.not_lt_zero i)) (by rw [hq0]; exact Nat.zero_le dc) hn0 (lv_sub hl [1, 2, 0] rfl) hP hD hS
set_option maxRecDepth 100000 in
set_option maxHeartbeats 4000000 in
theorem xt_M_circle_no (l : Launch) (D : va_G) (cI cZ cJ : ClassId) (m0 m1 m2 m3 m4 m5 m6 m7 m8 m9 m10 : Nat) (cd : Int32) (gc dc : Nat) (P : Nat → Int32) (A0 : Nat → Int32) (gd : Nat → Bool) (bd : Nat → Bool) (ch : Nat → Bool) (st : Nat → Int32) (lf : Nat → Bool) (li : Nat → Int32) (q0 : Nat) (hsh : xm_s2 dc (xm_B (xk_c gc P A0) (lN 1) (lN 1) dc bd) (xm_K dc (xm_L dc lf) (xm_G (xk_c gc P A0) (lN 1) (lN 1) dc gd) ch st).1 (xm_K dc (xm_L dc lf) (xm_G (xk_c gc P A0) (lN 1) (lN 1) dc gd) ch st).2.1 dc 0 (nI 0) = nI q0) (hq13 : q0 ≤ 13) (hg : gc ≤ 6) (hd : dc ≤ 12) (i : Int32) (hno : ¬ xo_cir (nI q0) i = 0) : xc_Wi l xy_M_circle xb_M_circle 3 .int 4 0 0 [.ref m0, .int i] D cI cZ cJ [(m0, .inr (6, [.int cd, .int (nI gc), .int (nI dc), .ref m1, .ref m2, .ref m3, .ref m4, .ref m5, .ref m6, .ref m7, .ref m8, .ref m9, .ref m10])), (m1, .inl (cI, 78, .inl P)), (m2, .inl (cI, 78, .inl A0)), (m5, .inl (cZ, 169, .inl (xf_z gd))), (m6, .inl (cZ, 169, .inl (xf_z bd))), (m7, .inl (cZ, 169, .inl (xf_z ch))), (m8, .inl (cI, 169, .inl st)), (m9, .inl (cZ, 13, .inl (xf_z lf))), (m10, .inl (cI, 13, .inl li))] (Unit) (fun _ _ => True) (fun _ => [(m0, .inr (6, [.int (nI (xo_cir (nI q0) i)), .int (nI gc), .int (nI dc), .ref m1, .ref m2, .ref m3, .ref m4, .ref m5, .ref m6, .ref m7, .ref m8, .ref m9, .ref m10])), (m1, .inl (cI, 78, .inl P)), (m2, .inl (cI, 78, .inl A0)), (m5, .inl (cZ, 169, .inl (xf_z (xm_G (xk_c gc P A0) (lN 1) (lN 1) dc gd)))), (m6, .inl (cZ, 169, .inl (xf_z (xm_B (xk_c gc P A0) (lN 1) (lN 1) dc bd)))), (m7, .inl (cZ, 169, .inl (xf_z ((xm_K dc (xm_L dc lf) (xm_G (xk_c gc P A0) (lN 1) (lN 1) dc gd) ch st).1)))), (m8, .inl (cI, 169, .inl ((xm_K dc (xm_L dc lf) (xm_G (xk_c gc P A0) (lN 1) (lN 1) dc gd) ch st).2.1))), (m9, .inl (cZ, 13, .inl (xf_z (xm_L dc lf)))), (m10, .inl (cI, 13, .inl li))]) := by
  refine xc_Wi_of (by decide) (Nat.le_of_ble_eq_true rfl) ?_
  intro p e s m args below meth c Q ls A hAt hP hK hD hA hS hl hret
  obtain ⟨hx, hb, hml, hown, hts, hgs, hlk⟩ := id hAt
  have hT : ∀ w ∈ xw_g, w ∈ xc_ws xy_M_circle xb_M_circle 3 (some .int) := fun w h => List.mem_cons_of_mem _ h
  have hown : s.vm.findClass "WishLedgerModel" = some m.cls := hown
  obtain ⟨H, hH0⟩ : ∃ H, H = s.heap := ⟨_, rfl⟩
  obtain ⟨locs, hL0⟩ : ∃ locs : List Loc, locs = [] := ⟨_, rfl⟩
  have hP : va_P D xn_cl [(m0, .inr (6, [.int cd, .int (nI gc), .int (nI dc), .ref m1, .ref m2, .ref m3, .ref m4, .ref m5, .ref m6, .ref m7, .ref m8, .ref m9, .ref m10])), (m1, .inl (cI, 78, .inl P)), (m2, .inl (cI, 78, .inl A0)), (m5, .inl (cZ, 169, .inl (xf_z gd))), (m6, .inl (cZ, 169, .inl (xf_z bd))), (m7, .inl (cZ, 169, .inl (xf_z ch))), (m8, .inl (cI, 169, .inl st)), (m9, .inl (cZ, 13, .inl (xf_z lf))), (m10, .inl (cI, 13, .inl li))] H := by rw [hH0]; exact hP
  have hS : va_S A s.heap H locs := by rw [hH0, hL0]; exact hS
  suffices hgo : W p l e (xc_rm 4 0 0) s m args below meth c H locs 0 0 Q (F0 m 0 ls []) by rw [hH0, hL0] at hgo; exact hgo
  clear hH0 hL0
  have hl : lv_has ls 3 [(0, .ref m0), (1, .int i)] := hl
  refine lv_aload_n hx hb xj_M_circle_0 rfl (lv_at hl 0 rfl) ?_
  refine xc_wVi (av := []) (rest := []) (wr := [(m10, .inl (cI, 13, .inl li))]) hAt hT (xt_M_shortest l D cI cZ cJ m0 m1 m2 m3 m4 m5 m6 m7 m8 m9 m10 cd gc dc P A0 gd bd ch st lf (by omega) (by omega)) xw_646 xw_7 xw_649 xw_648 xs_M_shortest (C0 := xn_M) (q0 := 0) rfl rfl (na := 0) rfl (by decide +kernel) ⟨Nat.le_of_ble_eq_true rfl, Nat.le_of_ble_eq_true rfl⟩ hP hD hS hA [0, 1, 2, 3, 4, 5, 6, 7] [8] rfl rfl (by decide) (by decide) (by decide) hK hl.1 (Nat.le_of_ble_eq_true rfl) ⟨Nat.zero_le _, Nat.zero_le _⟩ xj_M_circle_1 (fun r1 _ H locs hr1 hP hD hS => ?_)
  obtain rfl : r1 = xm_s2 dc (xm_B (xk_c gc P A0) (lN 1) (lN 1) dc bd) (xm_K dc (xm_L dc lf) (xm_G (xk_c gc P A0) (lN 1) (lN 1) dc gd) ch st).1 (xm_K dc (xm_L dc lf) (xm_G (xk_c gc P A0) (lN 1) (lN 1) dc gd) ch st).2.1 dc 0 (nI 0) := hr1
  have hP : va_P D xn_cl [(m0, .inr (6, [.int cd, .int (nI gc), .int (nI dc), .ref m1, .ref m2, .ref m3, .ref m4, .ref m5, .ref m6, .ref m7, .ref m8, .ref m9, .ref m10])), (m1, .inl (cI, 78, .inl P)), (m2, .inl (cI, 78, .inl A0)), (m5, .inl (cZ, 169, .inl (xf_z (xm_G (xk_c gc P A0) (lN 1) (lN 1) dc gd)))), (m6, .inl (cZ, 169, .inl (xf_z (xm_B (xk_c gc P A0) (lN 1) (lN 1) dc bd)))), (m7, .inl (cZ, 169, .inl (xf_z ((xm_K dc (xm_L dc lf) (xm_G (xk_c gc P A0) (lN 1) (lN 1) dc gd) ch st).1)))), (m8, .inl (cI, 169, .inl ((xm_K dc (xm_L dc lf) (xm_G (xk_c gc P A0) (lN 1) (lN 1) dc gd) ch st).2.1))), (m9, .inl (cZ, 13, .inl (xf_z (xm_L dc lf)))), (m10, .inl (cI, 13, .inl li))] H := va_P.sub hP [1, 2, 3, 4, 5, 6, 7, 8, 0] rfl
  have hD : va_D A [(m0, .inr (6, [.int cd, .int (nI gc), .int (nI dc), .ref m1, .ref m2, .ref m3, .ref m4, .ref m5, .ref m6, .ref m7, .ref m8, .ref m9, .ref m10])), (m1, .inl (cI, 78, .inl P)), (m2, .inl (cI, 78, .inl A0)), (m5, .inl (cZ, 169, .inl (xf_z (xm_G (xk_c gc P A0) (lN 1) (lN 1) dc gd)))), (m6, .inl (cZ, 169, .inl (xf_z (xm_B (xk_c gc P A0) (lN 1) (lN 1) dc bd)))), (m7, .inl (cZ, 169, .inl (xf_z ((xm_K dc (xm_L dc lf) (xm_G (xk_c gc P A0) (lN 1) (lN 1) dc gd) ch st).1)))), (m8, .inl (cI, 169, .inl ((xm_K dc (xm_L dc lf) (xm_G (xk_c gc P A0) (lN 1) (lN 1) dc gd) ch st).2.1))), (m9, .inl (cZ, 13, .inl (xf_z (xm_L dc lf)))), (m10, .inl (cI, 13, .inl li))] := va_D.sub hD [1, 2, 3, 4, 5, 6, 7, 8, 0] (by decide) rfl
  refine xr_top (y := nI q0) hsh ?_
  refine lv_istore_n (lv' := [(2, .int (nI q0)), (0, .ref m0), (1, .int i)]) hx hb xj_M_circle_4 rfl hl (by decide) rfl (fun ls hl => ?_)
  refine lv_aload_n hx hb xj_M_circle_5 rfl (lv_at hl 1 rfl) ?_
  refine lv_iload_n hx hb xj_M_circle_6 rfl (lv_at hl 0 rfl) ?_
  refine xr_ifneN (tgt := 14) hx hb (by omega) xj_M_circle_7 rfl (fun h7 => ?_) (fun h7 => ?_)
  · -- 14
    refine lv_iload_n hx hb xj_M_circle_14 rfl (lv_at hl 2 rfl) ?_
    refine lv_iconst (v := (-1)) hx hb xj_M_circle_15 (by decide) ?_
    refine lv_iload_n hx hb xj_M_circle_16 rfl (lv_at hl 0 rfl) ?_
    refine lv_iconst (v := nI 1) hx hb xj_M_circle_17 (by decide) ?_
    refine lv_isub hx hb xj_M_circle_18 ?_
    refine xc_callS (av := [.int i, .int ((-1)), .int ((nI q0) - (nI 1))]) (rest := [.ref m0]) hAt hT (xt_M_in l D cI cZ cJ i ((-1)) ((nI q0) - (nI 1))) xw_579 xw_7 xw_581 xw_580 (na := 3) rfl (by decide +kernel) ⟨Nat.le_of_ble_eq_true rfl, Nat.le_of_ble_eq_true rfl⟩ (hP.sub (ws' := []) [] rfl) hK hl.1 (Nat.le_of_ble_eq_true rfl) ⟨Nat.zero_le _, Nat.zero_le _⟩ xj_M_circle_19 ?_
    refine xr_ifeq (tgt := 29) hx hb xj_M_circle_22 rfl (fun h22 => ?_) (fun h22 => ?_)
    · -- 29
      refine lv_iconst (v := nI 2) hx hb xj_M_circle_29 (by decide) ?_
      refine va_put (D := D) (ci := 6) (v := .int (nI 2)) (ty := .int) (C := xn_M) (T := xn_TM) (N := 13) hx hb hgs xw_uM xn_tM xn_oM xn_nM hown hK.1 hP hD hS 0 rfl rfl 0 (by decide) (hgs _ xw_530) (fun _ h9 => h9) rfl (by decide +kernel) rfl rfl (Nat.le_of_ble_eq_true rfl) xj_M_circle_30 (fun H locs hP hD hS => ?_)
      have hP : va_P D xn_cl [(m0, .inr (6, [.int (nI 2), .int (nI gc), .int (nI dc), .ref m1, .ref m2, .ref m3, .ref m4, .ref m5, .ref m6, .ref m7, .ref m8, .ref m9, .ref m10])), (m1, .inl (cI, 78, .inl P)), (m2, .inl (cI, 78, .inl A0)), (m5, .inl (cZ, 169, .inl (xf_z (xm_G (xk_c gc P A0) (lN 1) (lN 1) dc gd)))), (m6, .inl (cZ, 169, .inl (xf_z (xm_B (xk_c gc P A0) (lN 1) (lN 1) dc bd)))), (m7, .inl (cZ, 169, .inl (xf_z ((xm_K dc (xm_L dc lf) (xm_G (xk_c gc P A0) (lN 1) (lN 1) dc gd) ch st).1)))), (m8, .inl (cI, 169, .inl ((xm_K dc (xm_L dc lf) (xm_G (xk_c gc P A0) (lN 1) (lN 1) dc gd) ch st).2.1))), (m9, .inl (cZ, 13, .inl (xf_z (xm_L dc lf)))), (m10, .inl (cI, 13, .inl li))] H := hP
      have hD : va_D A [(m0, .inr (6, [.int (nI 2), .int (nI gc), .int (nI dc), .ref m1, .ref m2, .ref m3, .ref m4, .ref m5, .ref m6, .ref m7, .ref m8, .ref m9, .ref m10])), (m1, .inl (cI, 78, .inl P)), (m2, .inl (cI, 78, .inl A0)), (m5, .inl (cZ, 169, .inl (xf_z (xm_G (xk_c gc P A0) (lN 1) (lN 1) dc gd)))), (m6, .inl (cZ, 169, .inl (xf_z (xm_B (xk_c gc P A0) (lN 1) (lN 1) dc bd)))), (m7, .inl (cZ, 169, .inl (xf_z ((xm_K dc (xm_L dc lf) (xm_G (xk_c gc P A0) (lN 1) (lN 1) dc gd) ch st).1)))), (m8, .inl (cI, 169, .inl ((xm_K dc (xm_L dc lf) (xm_G (xk_c gc P A0) (lN 1) (lN 1) dc gd) ch st).2.1))), (m9, .inl (cZ, 13, .inl (xf_z (xm_L dc lf)))), (m10, .inl (cI, 13, .inl li))] := hD
      refine lv_aload_n hx hb xj_M_circle_33 rfl (lv_at hl 1 rfl) ?_
      refine va_get (D := D) (ci := 6) (v := .int (nI 2)) (C := xn_M) (T := xn_TM) (N := 13) hx hb hgs xw_uM hown hK.1 hP 0 rfl rfl 0 (by decide) (hgs _ xw_530) (fun _ h9 => h9) rfl xj_M_circle_34 ?_
      refine lv_if_le (tgt := 42) hx hb xj_M_circle_37 rfl (fun h37 => absurd h37 (by decide +kernel)) (fun h37 => ?_)
      refine lv_iconst (v := nI 0) hx hb xj_M_circle_40 (by decide) ?_
      have e9 : xo_cir (nI q0) i = 2 := xo_cir_n hq13 h7 h22
      have hP : va_P D xn_cl [(m0, .inr (6, [.int (nI (xo_cir (nI q0) i)), .int (nI gc), .int (nI dc), .ref m1, .ref m2, .ref m3, .ref m4, .ref m5, .ref m6, .ref m7, .ref m8, .ref m9, .ref m10])), (m1, .inl (cI, 78, .inl P)), (m2, .inl (cI, 78, .inl A0)), (m5, .inl (cZ, 169, .inl (xf_z (xm_G (xk_c gc P A0) (lN 1) (lN 1) dc gd)))), (m6, .inl (cZ, 169, .inl (xf_z (xm_B (xk_c gc P A0) (lN 1) (lN 1) dc bd)))), (m7, .inl (cZ, 169, .inl (xf_z ((xm_K dc (xm_L dc lf) (xm_G (xk_c gc P A0) (lN 1) (lN 1) dc gd) ch st).1)))), (m8, .inl (cI, 169, .inl ((xm_K dc (xm_L dc lf) (xm_G (xk_c gc P A0) (lN 1) (lN 1) dc gd) ch st).2.1))), (m9, .inl (cZ, 13, .inl (xf_z (xm_L dc lf)))), (m10, .inl (cI, 13, .inl li))] H := by rw [e9]; exact hP
      have hD : va_D A [(m0, .inr (6, [.int (nI (xo_cir (nI q0) i)), .int (nI gc), .int (nI dc), .ref m1, .ref m2, .ref m3, .ref m4, .ref m5, .ref m6, .ref m7, .ref m8, .ref m9, .ref m10])), (m1, .inl (cI, 78, .inl P)), (m2, .inl (cI, 78, .inl A0)), (m5, .inl (cZ, 169, .inl (xf_z (xm_G (xk_c gc P A0) (lN 1) (lN 1) dc gd)))), (m6, .inl (cZ, 169, .inl (xf_z (xm_B (xk_c gc P A0) (lN 1) (lN 1) dc bd)))), (m7, .inl (cZ, 169, .inl (xf_z ((xm_K dc (xm_L dc lf) (xm_G (xk_c gc P A0) (lN 1) (lN 1) dc gd) ch st).1)))), (m8, .inl (cI, 169, .inl ((xm_K dc (xm_L dc lf) (xm_G (xk_c gc P A0) (lN 1) (lN 1) dc gd) ch st).2.1))), (m9, .inl (cZ, 13, .inl (xf_z (xm_L dc lf)))), (m10, .inl (cI, 13, .inl li))] := by rw [e9]; exact hD
      exact hret (nI 0) (()) H locs _ ls trivial rfl hP hD hS xj_M_circle_41
    · -- 25
      refine lv_iconst (v := nI 0) hx hb xj_M_circle_25 (by decide) ?_
      refine lv_goto (tgt := 30) hx hb xj_M_circle_26 rfl ?_
      refine va_put (D := D) (ci := 6) (v := .int (nI 0)) (ty := .int) (C := xn_M) (T := xn_TM) (N := 13) hx hb hgs xw_uM xn_tM xn_oM xn_nM hown hK.1 hP hD hS 0 rfl rfl 0 (by decide) (hgs _ xw_530) (fun _ h9 => h9) rfl (by decide +kernel) rfl rfl (Nat.le_of_ble_eq_true rfl) xj_M_circle_30 (fun H locs hP hD hS => ?_)
      have hP : va_P D xn_cl [(m0, .inr (6, [.int (nI 0), .int (nI gc), .int (nI dc), .ref m1, .ref m2, .ref m3, .ref m4, .ref m5, .ref m6, .ref m7, .ref m8, .ref m9, .ref m10])), (m1, .inl (cI, 78, .inl P)), (m2, .inl (cI, 78, .inl A0)), (m5, .inl (cZ, 169, .inl (xf_z (xm_G (xk_c gc P A0) (lN 1) (lN 1) dc gd)))), (m6, .inl (cZ, 169, .inl (xf_z (xm_B (xk_c gc P A0) (lN 1) (lN 1) dc bd)))), (m7, .inl (cZ, 169, .inl (xf_z ((xm_K dc (xm_L dc lf) (xm_G (xk_c gc P A0) (lN 1) (lN 1) dc gd) ch st).1)))), (m8, .inl (cI, 169, .inl ((xm_K dc (xm_L dc lf) (xm_G (xk_c gc P A0) (lN 1) (lN 1) dc gd) ch st).2.1))), (m9, .inl (cZ, 13, .inl (xf_z (xm_L dc lf)))), (m10, .inl (cI, 13, .inl li))] H := hP
      have hD : va_D A [(m0, .inr (6, [.int (nI 0), .int (nI gc), .int (nI dc), .ref m1, .ref m2, .ref m3, .ref m4, .ref m5, .ref m6, .ref m7, .ref m8, .ref m9, .ref m10])), (m1, .inl (cI, 78, .inl P)), (m2, .inl (cI, 78, .inl A0)), (m5, .inl (cZ, 169, .inl (xf_z (xm_G (xk_c gc P A0) (lN 1) (lN 1) dc gd)))), (m6, .inl (cZ, 169, .inl (xf_z (xm_B (xk_c gc P A0) (lN 1) (lN 1) dc bd)))), (m7, .inl (cZ, 169, .inl (xf_z ((xm_K dc (xm_L dc lf) (xm_G (xk_c gc P A0) (lN 1) (lN 1) dc gd) ch st).1)))), (m8, .inl (cI, 169, .inl ((xm_K dc (xm_L dc lf) (xm_G (xk_c gc P A0) (lN 1) (lN 1) dc gd) ch st).2.1))), (m9, .inl (cZ, 13, .inl (xf_z (xm_L dc lf)))), (m10, .inl (cI, 13, .inl li))] := hD
      refine lv_aload_n hx hb xj_M_circle_33 rfl (lv_at hl 1 rfl) ?_
      refine va_get (D := D) (ci := 6) (v := .int (nI 0)) (C := xn_M) (T := xn_TM) (N := 13) hx hb hgs xw_uM hown hK.1 hP 0 rfl rfl 0 (by decide) (hgs _ xw_530) (fun _ h9 => h9) rfl xj_M_circle_34 ?_
      refine lv_if_le (tgt := 42) hx hb xj_M_circle_37 rfl (fun h37 => ?_) (fun h37 => absurd h37 (by decide +kernel))
      exact absurd (xo_cir_y hq13 h7 h22) hno
  · -- 10
    refine lv_iconst (v := nI 1) hx hb xj_M_circle_10 (by decide) ?_
    refine lv_goto (tgt := 30) hx hb xj_M_circle_11 rfl ?_
    refine va_put (D := D) (ci := 6) (v := .int (nI 1)) (ty := .int) (C := xn_M) (T := xn_TM) (N := 13) hx hb hgs xw_uM xn_tM xn_oM xn_nM hown hK.1 hP hD hS 0 rfl rfl 0 (by decide) (hgs _ xw_530) (fun _ h9 => h9) rfl (by decide +kernel) rfl rfl (Nat.le_of_ble_eq_true rfl) xj_M_circle_30 (fun H locs hP hD hS => ?_)
    have hP : va_P D xn_cl [(m0, .inr (6, [.int (nI 1), .int (nI gc), .int (nI dc), .ref m1, .ref m2, .ref m3, .ref m4, .ref m5, .ref m6, .ref m7, .ref m8, .ref m9, .ref m10])), (m1, .inl (cI, 78, .inl P)), (m2, .inl (cI, 78, .inl A0)), (m5, .inl (cZ, 169, .inl (xf_z (xm_G (xk_c gc P A0) (lN 1) (lN 1) dc gd)))), (m6, .inl (cZ, 169, .inl (xf_z (xm_B (xk_c gc P A0) (lN 1) (lN 1) dc bd)))), (m7, .inl (cZ, 169, .inl (xf_z ((xm_K dc (xm_L dc lf) (xm_G (xk_c gc P A0) (lN 1) (lN 1) dc gd) ch st).1)))), (m8, .inl (cI, 169, .inl ((xm_K dc (xm_L dc lf) (xm_G (xk_c gc P A0) (lN 1) (lN 1) dc gd) ch st).2.1))), (m9, .inl (cZ, 13, .inl (xf_z (xm_L dc lf)))), (m10, .inl (cI, 13, .inl li))] H := hP
    have hD : va_D A [(m0, .inr (6, [.int (nI 1), .int (nI gc), .int (nI dc), .ref m1, .ref m2, .ref m3, .ref m4, .ref m5, .ref m6, .ref m7, .ref m8, .ref m9, .ref m10])), (m1, .inl (cI, 78, .inl P)), (m2, .inl (cI, 78, .inl A0)), (m5, .inl (cZ, 169, .inl (xf_z (xm_G (xk_c gc P A0) (lN 1) (lN 1) dc gd)))), (m6, .inl (cZ, 169, .inl (xf_z (xm_B (xk_c gc P A0) (lN 1) (lN 1) dc bd)))), (m7, .inl (cZ, 169, .inl (xf_z ((xm_K dc (xm_L dc lf) (xm_G (xk_c gc P A0) (lN 1) (lN 1) dc gd) ch st).1)))), (m8, .inl (cI, 169, .inl ((xm_K dc (xm_L dc lf) (xm_G (xk_c gc P A0) (lN 1) (lN 1) dc gd) ch st).2.1))), (m9, .inl (cZ, 13, .inl (xf_z (xm_L dc lf)))), (m10, .inl (cI, 13, .inl li))] := hD
    refine lv_aload_n hx hb xj_M_circle_33 rfl (lv_at hl 1 rfl) ?_
    refine va_get (D := D) (ci := 6) (v := .int (nI 1)) (C := xn_M) (T := xn_TM) (N := 13) hx hb hgs xw_uM hown hK.1 hP 0 rfl rfl 0 (by decide) (hgs _ xw_530) (fun _ h9 => h9) rfl xj_M_circle_34 ?_
    refine lv_if_le (tgt := 42) hx hb xj_M_circle_37 rfl (fun h37 => absurd h37 (by decide +kernel)) (fun h37 => ?_)
    refine lv_iconst (v := nI 0) hx hb xj_M_circle_40 (by decide) ?_
    have e9 : xo_cir (nI q0) i = 1 := xo_cir_1 (by rw [h7]; rfl)
    have hP : va_P D xn_cl [(m0, .inr (6, [.int (nI (xo_cir (nI q0) i)), .int (nI gc), .int (nI dc), .ref m1, .ref m2, .ref m3, .ref m4, .ref m5, .ref m6, .ref m7, .ref m8, .ref m9, .ref m10])), (m1, .inl (cI, 78, .inl P)), (m2, .inl (cI, 78, .inl A0)), (m5, .inl (cZ, 169, .inl (xf_z (xm_G (xk_c gc P A0) (lN 1) (lN 1) dc gd)))), (m6, .inl (cZ, 169, .inl (xf_z (xm_B (xk_c gc P A0) (lN 1) (lN 1) dc bd)))), (m7, .inl (cZ, 169, .inl (xf_z ((xm_K dc (xm_L dc lf) (xm_G (xk_c gc P A0) (lN 1) (lN 1) dc gd) ch st).1)))), (m8, .inl (cI, 169, .inl ((xm_K dc (xm_L dc lf) (xm_G (xk_c gc P A0) (lN 1) (lN 1) dc gd) ch st).2.1))), (m9, .inl (cZ, 13, .inl (xf_z (xm_L dc lf)))), (m10, .inl (cI, 13, .inl li))] H := by rw [e9]; exact hP
    have hD : va_D A [(m0, .inr (6, [.int (nI (xo_cir (nI q0) i)), .int (nI gc), .int (nI dc), .ref m1, .ref m2, .ref m3, .ref m4, .ref m5, .ref m6, .ref m7, .ref m8, .ref m9, .ref m10])), (m1, .inl (cI, 78, .inl P)), (m2, .inl (cI, 78, .inl A0)), (m5, .inl (cZ, 169, .inl (xf_z (xm_G (xk_c gc P A0) (lN 1) (lN 1) dc gd)))), (m6, .inl (cZ, 169, .inl (xf_z (xm_B (xk_c gc P A0) (lN 1) (lN 1) dc bd)))), (m7, .inl (cZ, 169, .inl (xf_z ((xm_K dc (xm_L dc lf) (xm_G (xk_c gc P A0) (lN 1) (lN 1) dc gd) ch st).1)))), (m8, .inl (cI, 169, .inl ((xm_K dc (xm_L dc lf) (xm_G (xk_c gc P A0) (lN 1) (lN 1) dc gd) ch st).2.1))), (m9, .inl (cZ, 13, .inl (xf_z (xm_L dc lf)))), (m10, .inl (cI, 13, .inl li))] := by rw [e9]; exact hD
    exact hret (nI 0) (()) H locs _ ls trivial rfl hP hD hS xj_M_circle_41
set_option maxRecDepth 100000 in
set_option maxHeartbeats 4000000 in
theorem xt_M_circle_m (l : Launch) (D : va_G) (cI cZ cJ : ClassId) (m0 m1 m2 m3 m4 m5 m6 m7 m8 m9 m10 : Nat) (cd : Int32) (gc dc : Nat) (P : Nat → Int32) (A0 : Nat → Int32) (gd : Nat → Bool) (bd : Nat → Bool) (ch : Nat → Bool) (st : Nat → Int32) (lf : Nat → Bool) (li : Nat → Int32) (q0 : Nat) (hsh : xm_s2 dc (xm_B (xk_c gc P A0) (lN 1) (lN 1) dc bd) (xm_K dc (xm_L dc lf) (xm_G (xk_c gc P A0) (lN 1) (lN 1) dc gd) ch st).1 (xm_K dc (xm_L dc lf) (xm_G (xk_c gc P A0) (lN 1) (lN 1) dc gd) ch st).2.1 dc 0 (nI 0) = nI q0) (hq13 : q0 ≤ 13) (hg : gc ≤ 6) (hd : dc ≤ 12) (hq : 0 < q0) : xc_Wi l xy_M_circle xb_M_circle 3 .int 4 0 0 [.ref m0, .int ((-1))] D cI cZ cJ [(m0, .inr (6, [.int cd, .int (nI gc), .int (nI dc), .ref m1, .ref m2, .ref m3, .ref m4, .ref m5, .ref m6, .ref m7, .ref m8, .ref m9, .ref m10])), (m1, .inl (cI, 78, .inl P)), (m2, .inl (cI, 78, .inl A0)), (m5, .inl (cZ, 169, .inl (xf_z gd))), (m6, .inl (cZ, 169, .inl (xf_z bd))), (m7, .inl (cZ, 169, .inl (xf_z ch))), (m8, .inl (cI, 169, .inl st)), (m9, .inl (cZ, 13, .inl (xf_z lf))), (m10, .inl (cI, 13, .inl li))] (Unit) (fun r _ => r = nI q0) (fun _ => [(m0, .inr (6, [.int (nI 0), .int (nI gc), .int (nI dc), .ref m1, .ref m2, .ref m3, .ref m4, .ref m5, .ref m6, .ref m7, .ref m8, .ref m9, .ref m10])), (m1, .inl (cI, 78, .inl P)), (m2, .inl (cI, 78, .inl A0)), (m5, .inl (cZ, 169, .inl (xf_z (xm_G (xk_c gc P A0) (lN 1) (lN 1) dc gd)))), (m6, .inl (cZ, 169, .inl (xf_z (xm_B (xk_c gc P A0) (lN 1) (lN 1) dc bd)))), (m7, .inl (cZ, 169, .inl (xf_z ((xm_K dc (xm_L dc lf) (xm_G (xk_c gc P A0) (lN 1) (lN 1) dc gd) ch st).1)))), (m8, .inl (cI, 169, .inl ((xm_K dc (xm_L dc lf) (xm_G (xk_c gc P A0) (lN 1) (lN 1) dc gd) ch st).2.1))), (m9, .inl (cZ, 13, .inl (xf_z (xm_L dc lf)))), (m10, .inl (cI, 13, .inl li))]) := by
  refine xc_Wi_of (by decide) (Nat.le_of_ble_eq_true rfl) ?_
  intro p e s m args below meth c Q ls A hAt hP hK hD hA hS hl hret
  obtain ⟨hx, hb, hml, hown, hts, hgs, hlk⟩ := id hAt
  have hT : ∀ w ∈ xw_g, w ∈ xc_ws xy_M_circle xb_M_circle 3 (some .int) := fun w h => List.mem_cons_of_mem _ h
  have hown : s.vm.findClass "WishLedgerModel" = some m.cls := hown
  obtain ⟨H, hH0⟩ : ∃ H, H = s.heap := ⟨_, rfl⟩
  obtain ⟨locs, hL0⟩ : ∃ locs : List Loc, locs = [] := ⟨_, rfl⟩
  have hP : va_P D xn_cl [(m0, .inr (6, [.int cd, .int (nI gc), .int (nI dc), .ref m1, .ref m2, .ref m3, .ref m4, .ref m5, .ref m6, .ref m7, .ref m8, .ref m9, .ref m10])), (m1, .inl (cI, 78, .inl P)), (m2, .inl (cI, 78, .inl A0)), (m5, .inl (cZ, 169, .inl (xf_z gd))), (m6, .inl (cZ, 169, .inl (xf_z bd))), (m7, .inl (cZ, 169, .inl (xf_z ch))), (m8, .inl (cI, 169, .inl st)), (m9, .inl (cZ, 13, .inl (xf_z lf))), (m10, .inl (cI, 13, .inl li))] H := by rw [hH0]; exact hP
  have hS : va_S A s.heap H locs := by rw [hH0, hL0]; exact hS
  suffices hgo : W p l e (xc_rm 4 0 0) s m args below meth c H locs 0 0 Q (F0 m 0 ls []) by rw [hH0, hL0] at hgo; exact hgo
  clear hH0 hL0
  have hl : lv_has ls 3 [(0, .ref m0), (1, .int ((-1)))] := hl
  refine lv_aload_n hx hb xj_M_circle_0 rfl (lv_at hl 0 rfl) ?_
  refine xc_wVi (av := []) (rest := []) (wr := [(m10, .inl (cI, 13, .inl li))]) hAt hT (xt_M_shortest l D cI cZ cJ m0 m1 m2 m3 m4 m5 m6 m7 m8 m9 m10 cd gc dc P A0 gd bd ch st lf (by omega) (by omega)) xw_646 xw_7 xw_649 xw_648 xs_M_shortest (C0 := xn_M) (q0 := 0) rfl rfl (na := 0) rfl (by decide +kernel) ⟨Nat.le_of_ble_eq_true rfl, Nat.le_of_ble_eq_true rfl⟩ hP hD hS hA [0, 1, 2, 3, 4, 5, 6, 7] [8] rfl rfl (by decide) (by decide) (by decide) hK hl.1 (Nat.le_of_ble_eq_true rfl) ⟨Nat.zero_le _, Nat.zero_le _⟩ xj_M_circle_1 (fun r1 _ H locs hr1 hP hD hS => ?_)
  obtain rfl : r1 = xm_s2 dc (xm_B (xk_c gc P A0) (lN 1) (lN 1) dc bd) (xm_K dc (xm_L dc lf) (xm_G (xk_c gc P A0) (lN 1) (lN 1) dc gd) ch st).1 (xm_K dc (xm_L dc lf) (xm_G (xk_c gc P A0) (lN 1) (lN 1) dc gd) ch st).2.1 dc 0 (nI 0) := hr1
  have hP : va_P D xn_cl [(m0, .inr (6, [.int cd, .int (nI gc), .int (nI dc), .ref m1, .ref m2, .ref m3, .ref m4, .ref m5, .ref m6, .ref m7, .ref m8, .ref m9, .ref m10])), (m1, .inl (cI, 78, .inl P)), (m2, .inl (cI, 78, .inl A0)), (m5, .inl (cZ, 169, .inl (xf_z (xm_G (xk_c gc P A0) (lN 1) (lN 1) dc gd)))), (m6, .inl (cZ, 169, .inl (xf_z (xm_B (xk_c gc P A0) (lN 1) (lN 1) dc bd)))), (m7, .inl (cZ, 169, .inl (xf_z ((xm_K dc (xm_L dc lf) (xm_G (xk_c gc P A0) (lN 1) (lN 1) dc gd) ch st).1)))), (m8, .inl (cI, 169, .inl ((xm_K dc (xm_L dc lf) (xm_G (xk_c gc P A0) (lN 1) (lN 1) dc gd) ch st).2.1))), (m9, .inl (cZ, 13, .inl (xf_z (xm_L dc lf)))), (m10, .inl (cI, 13, .inl li))] H := va_P.sub hP [1, 2, 3, 4, 5, 6, 7, 8, 0] rfl
  have hD : va_D A [(m0, .inr (6, [.int cd, .int (nI gc), .int (nI dc), .ref m1, .ref m2, .ref m3, .ref m4, .ref m5, .ref m6, .ref m7, .ref m8, .ref m9, .ref m10])), (m1, .inl (cI, 78, .inl P)), (m2, .inl (cI, 78, .inl A0)), (m5, .inl (cZ, 169, .inl (xf_z (xm_G (xk_c gc P A0) (lN 1) (lN 1) dc gd)))), (m6, .inl (cZ, 169, .inl (xf_z (xm_B (xk_c gc P A0) (lN 1) (lN 1) dc bd)))), (m7, .inl (cZ, 169, .inl (xf_z ((xm_K dc (xm_L dc lf) (xm_G (xk_c gc P A0) (lN 1) (lN 1) dc gd) ch st).1)))), (m8, .inl (cI, 169, .inl ((xm_K dc (xm_L dc lf) (xm_G (xk_c gc P A0) (lN 1) (lN 1) dc gd) ch st).2.1))), (m9, .inl (cZ, 13, .inl (xf_z (xm_L dc lf)))), (m10, .inl (cI, 13, .inl li))] := va_D.sub hD [1, 2, 3, 4, 5, 6, 7, 8, 0] (by decide) rfl
  refine xr_top (y := nI q0) hsh ?_
  refine lv_istore_n (lv' := [(2, .int (nI q0)), (0, .ref m0), (1, .int ((-1)))]) hx hb xj_M_circle_4 rfl hl (by decide) rfl (fun ls hl => ?_)
  refine lv_aload_n hx hb xj_M_circle_5 rfl (lv_at hl 1 rfl) ?_
  refine lv_iload_n hx hb xj_M_circle_6 rfl (lv_at hl 0 rfl) ?_
  refine xr_ifneN (tgt := 14) hx hb (by omega) xj_M_circle_7 rfl (fun h7 => ?_) (fun h7 => absurd h7 (by omega))
  refine lv_iload_n hx hb xj_M_circle_14 rfl (lv_at hl 2 rfl) ?_
  refine lv_iconst (v := (-1)) hx hb xj_M_circle_15 (by decide) ?_
  refine lv_iload_n hx hb xj_M_circle_16 rfl (lv_at hl 0 rfl) ?_
  refine lv_iconst (v := nI 1) hx hb xj_M_circle_17 (by decide) ?_
  refine lv_isub hx hb xj_M_circle_18 ?_
  refine xc_callS (av := [.int ((-1)), .int ((-1)), .int ((nI q0) - (nI 1))]) (rest := [.ref m0]) hAt hT (xt_M_in l D cI cZ cJ ((-1)) ((-1)) ((nI q0) - (nI 1))) xw_579 xw_7 xw_581 xw_580 (na := 3) rfl (by decide +kernel) ⟨Nat.le_of_ble_eq_true rfl, Nat.le_of_ble_eq_true rfl⟩ (hP.sub (ws' := []) [] rfl) hK hl.1 (Nat.le_of_ble_eq_true rfl) ⟨Nat.zero_le _, Nat.zero_le _⟩ xj_M_circle_19 ?_
  refine xr_top (y := nI 1) (by rw [xm_in1_m hq13 rfl]; rfl) ?_
  refine xr_ifeqN (tgt := 29) hx hb (by omega) xj_M_circle_22 rfl (fun h22 => absurd h22 (by omega)) (fun h22 => ?_)
  refine lv_iconst (v := nI 0) hx hb xj_M_circle_25 (by decide) ?_
  refine lv_goto (tgt := 30) hx hb xj_M_circle_26 rfl ?_
  refine va_put (D := D) (ci := 6) (v := .int (nI 0)) (ty := .int) (C := xn_M) (T := xn_TM) (N := 13) hx hb hgs xw_uM xn_tM xn_oM xn_nM hown hK.1 hP hD hS 0 rfl rfl 0 (by decide) (hgs _ xw_530) (fun _ h9 => h9) rfl (by decide +kernel) rfl rfl (Nat.le_of_ble_eq_true rfl) xj_M_circle_30 (fun H locs hP hD hS => ?_)
  have hP : va_P D xn_cl [(m0, .inr (6, [.int (nI 0), .int (nI gc), .int (nI dc), .ref m1, .ref m2, .ref m3, .ref m4, .ref m5, .ref m6, .ref m7, .ref m8, .ref m9, .ref m10])), (m1, .inl (cI, 78, .inl P)), (m2, .inl (cI, 78, .inl A0)), (m5, .inl (cZ, 169, .inl (xf_z (xm_G (xk_c gc P A0) (lN 1) (lN 1) dc gd)))), (m6, .inl (cZ, 169, .inl (xf_z (xm_B (xk_c gc P A0) (lN 1) (lN 1) dc bd)))), (m7, .inl (cZ, 169, .inl (xf_z ((xm_K dc (xm_L dc lf) (xm_G (xk_c gc P A0) (lN 1) (lN 1) dc gd) ch st).1)))), (m8, .inl (cI, 169, .inl ((xm_K dc (xm_L dc lf) (xm_G (xk_c gc P A0) (lN 1) (lN 1) dc gd) ch st).2.1))), (m9, .inl (cZ, 13, .inl (xf_z (xm_L dc lf)))), (m10, .inl (cI, 13, .inl li))] H := hP
  have hD : va_D A [(m0, .inr (6, [.int (nI 0), .int (nI gc), .int (nI dc), .ref m1, .ref m2, .ref m3, .ref m4, .ref m5, .ref m6, .ref m7, .ref m8, .ref m9, .ref m10])), (m1, .inl (cI, 78, .inl P)), (m2, .inl (cI, 78, .inl A0)), (m5, .inl (cZ, 169, .inl (xf_z (xm_G (xk_c gc P A0) (lN 1) (lN 1) dc gd)))), (m6, .inl (cZ, 169, .inl (xf_z (xm_B (xk_c gc P A0) (lN 1) (lN 1) dc bd)))), (m7, .inl (cZ, 169, .inl (xf_z ((xm_K dc (xm_L dc lf) (xm_G (xk_c gc P A0) (lN 1) (lN 1) dc gd) ch st).1)))), (m8, .inl (cI, 169, .inl ((xm_K dc (xm_L dc lf) (xm_G (xk_c gc P A0) (lN 1) (lN 1) dc gd) ch st).2.1))), (m9, .inl (cZ, 13, .inl (xf_z (xm_L dc lf)))), (m10, .inl (cI, 13, .inl li))] := hD
  refine lv_aload_n hx hb xj_M_circle_33 rfl (lv_at hl 1 rfl) ?_
  refine va_get (D := D) (ci := 6) (v := .int (nI 0)) (C := xn_M) (T := xn_TM) (N := 13) hx hb hgs xw_uM hown hK.1 hP 0 rfl rfl 0 (by decide) (hgs _ xw_530) (fun _ h9 => h9) rfl xj_M_circle_34 ?_
  refine lv_if_le (tgt := 42) hx hb xj_M_circle_37 rfl (fun h37 => ?_) (fun h37 => absurd h37 (by decide +kernel))
  refine lv_iload_n hx hb xj_M_circle_42 rfl (lv_at hl 2 rfl) ?_
  refine lv_iconst (v := (-1)) hx hb xj_M_circle_43 (by decide) ?_
  refine lv_icmp_ne (tgt := 49) hx hb xj_M_circle_44 rfl (fun h44 => absurd h44 (fun z => z rfl)) (fun h44 => ?_)
  refine lv_iload_n hx hb xj_M_circle_47 rfl (lv_at hl 0 rfl) ?_
  exact hret (nI q0) (()) H locs _ ls rfl rfl hP hD hS xj_M_circle_48
set_option maxRecDepth 100000 in
set_option maxHeartbeats 4000000 in
theorem xt_M_circle_ok (l : Launch) (D : va_G) (cI cZ cJ : ClassId) (m0 m1 m2 m3 m4 m5 m6 m7 m8 m9 m10 : Nat) (cd : Int32) (gc dc : Nat) (P : Nat → Int32) (A0 : Nat → Int32) (gd : Nat → Bool) (bd : Nat → Bool) (ch : Nat → Bool) (st : Nat → Int32) (lf : Nat → Bool) (li : Nat → Int32) (q0 : Nat) (hsh : xm_s2 dc (xm_B (xk_c gc P A0) (lN 1) (lN 1) dc bd) (xm_K dc (xm_L dc lf) (xm_G (xk_c gc P A0) (lN 1) (lN 1) dc gd) ch st).1 (xm_K dc (xm_L dc lf) (xm_G (xk_c gc P A0) (lN 1) (lN 1) dc gd) ch st).2.1 dc 0 (nI 0) = nI q0) (hq13 : q0 ≤ 13) (hg : gc ≤ 6) (hd : dc ≤ 12) (j : Nat) (hj : j < q0) (qz : Nat → Nat) (hqz : qz 0 = 0) (K : Nat) (rz : Nat → Nat) (hrun : xs_run dc q0 (xm_may (xm_G (xk_c gc P A0) (lN 1) (lN 1) dc gd)) (xm_cir (xm_G (xk_c gc P A0) (lN 1) (lN 1) dc gd) (xm_B (xk_c gc P A0) (lN 1) (lN 1) dc bd) q0) K 1 qz = some rz) : xc_Wi l xy_M_circle xb_M_circle 3 .int 4 0 0 [.ref m0, .int (nI j)] D cI cZ cJ [(m0, .inr (6, [.int cd, .int (nI gc), .int (nI dc), .ref m1, .ref m2, .ref m3, .ref m4, .ref m5, .ref m6, .ref m7, .ref m8, .ref m9, .ref m10])), (m1, .inl (cI, 78, .inl P)), (m2, .inl (cI, 78, .inl A0)), (m5, .inl (cZ, 169, .inl (xf_z gd))), (m6, .inl (cZ, 169, .inl (xf_z bd))), (m7, .inl (cZ, 169, .inl (xf_z ch))), (m8, .inl (cI, 169, .inl st)), (m9, .inl (cZ, 13, .inl (xf_z lf))), (m10, .inl (cI, 13, .inl li))] ((Nat → Int32)) (fun r _ => r = nI (rz j - 1)) (fun u => [(m0, .inr (6, [.int (nI 0), .int (nI gc), .int (nI dc), .ref m1, .ref m2, .ref m3, .ref m4, .ref m5, .ref m6, .ref m7, .ref m8, .ref m9, .ref m10])), (m1, .inl (cI, 78, .inl P)), (m2, .inl (cI, 78, .inl A0)), (m5, .inl (cZ, 169, .inl (xf_z (xm_G (xk_c gc P A0) (lN 1) (lN 1) dc gd)))), (m6, .inl (cZ, 169, .inl (xf_z (xm_B (xk_c gc P A0) (lN 1) (lN 1) dc bd)))), (m7, .inl (cZ, 169, .inl (xf_z ((xm_K dc (xm_L dc lf) (xm_G (xk_c gc P A0) (lN 1) (lN 1) dc gd) ch st).1)))), (m8, .inl (cI, 169, .inl ((xm_K dc (xm_L dc lf) (xm_G (xk_c gc P A0) (lN 1) (lN 1) dc gd) ch st).2.1))), (m9, .inl (cZ, 13, .inl (xf_z (xm_L dc lf)))), (m10, .inl (cI, 13, .inl u))]) := by
  refine xc_Wi_of (by decide) (Nat.le_of_ble_eq_true rfl) ?_
  intro p e s m args below meth c Q ls A hAt hP hK hD hA hS hl hret
  obtain ⟨hx, hb, hml, hown, hts, hgs, hlk⟩ := id hAt
  have hT : ∀ w ∈ xw_g, w ∈ xc_ws xy_M_circle xb_M_circle 3 (some .int) := fun w h => List.mem_cons_of_mem _ h
  have hown : s.vm.findClass "WishLedgerModel" = some m.cls := hown
  obtain ⟨H, hH0⟩ : ∃ H, H = s.heap := ⟨_, rfl⟩
  obtain ⟨locs, hL0⟩ : ∃ locs : List Loc, locs = [] := ⟨_, rfl⟩
  have hP : va_P D xn_cl [(m0, .inr (6, [.int cd, .int (nI gc), .int (nI dc), .ref m1, .ref m2, .ref m3, .ref m4, .ref m5, .ref m6, .ref m7, .ref m8, .ref m9, .ref m10])), (m1, .inl (cI, 78, .inl P)), (m2, .inl (cI, 78, .inl A0)), (m5, .inl (cZ, 169, .inl (xf_z gd))), (m6, .inl (cZ, 169, .inl (xf_z bd))), (m7, .inl (cZ, 169, .inl (xf_z ch))), (m8, .inl (cI, 169, .inl st)), (m9, .inl (cZ, 13, .inl (xf_z lf))), (m10, .inl (cI, 13, .inl li))] H := by rw [hH0]; exact hP
  have hS : va_S A s.heap H locs := by rw [hH0, hL0]; exact hS
  suffices hgo : W p l e (xc_rm 4 0 0) s m args below meth c H locs 0 0 Q (F0 m 0 ls []) by rw [hH0, hL0] at hgo; exact hgo
  clear hH0 hL0
  have hl : lv_has ls 3 [(0, .ref m0), (1, .int (nI j))] := hl
  refine lv_aload_n hx hb xj_M_circle_0 rfl (lv_at hl 0 rfl) ?_
  refine xc_wVi (av := []) (rest := []) (wr := [(m10, .inl (cI, 13, .inl li))]) hAt hT (xt_M_shortest l D cI cZ cJ m0 m1 m2 m3 m4 m5 m6 m7 m8 m9 m10 cd gc dc P A0 gd bd ch st lf (by omega) (by omega)) xw_646 xw_7 xw_649 xw_648 xs_M_shortest (C0 := xn_M) (q0 := 0) rfl rfl (na := 0) rfl (by decide +kernel) ⟨Nat.le_of_ble_eq_true rfl, Nat.le_of_ble_eq_true rfl⟩ hP hD hS hA [0, 1, 2, 3, 4, 5, 6, 7] [8] rfl rfl (by decide) (by decide) (by decide) hK hl.1 (Nat.le_of_ble_eq_true rfl) ⟨Nat.zero_le _, Nat.zero_le _⟩ xj_M_circle_1 (fun r1 _ H locs hr1 hP hD hS => ?_)
  obtain rfl : r1 = xm_s2 dc (xm_B (xk_c gc P A0) (lN 1) (lN 1) dc bd) (xm_K dc (xm_L dc lf) (xm_G (xk_c gc P A0) (lN 1) (lN 1) dc gd) ch st).1 (xm_K dc (xm_L dc lf) (xm_G (xk_c gc P A0) (lN 1) (lN 1) dc gd) ch st).2.1 dc 0 (nI 0) := hr1
  have hP : va_P D xn_cl [(m0, .inr (6, [.int cd, .int (nI gc), .int (nI dc), .ref m1, .ref m2, .ref m3, .ref m4, .ref m5, .ref m6, .ref m7, .ref m8, .ref m9, .ref m10])), (m1, .inl (cI, 78, .inl P)), (m2, .inl (cI, 78, .inl A0)), (m5, .inl (cZ, 169, .inl (xf_z (xm_G (xk_c gc P A0) (lN 1) (lN 1) dc gd)))), (m6, .inl (cZ, 169, .inl (xf_z (xm_B (xk_c gc P A0) (lN 1) (lN 1) dc bd)))), (m7, .inl (cZ, 169, .inl (xf_z ((xm_K dc (xm_L dc lf) (xm_G (xk_c gc P A0) (lN 1) (lN 1) dc gd) ch st).1)))), (m8, .inl (cI, 169, .inl ((xm_K dc (xm_L dc lf) (xm_G (xk_c gc P A0) (lN 1) (lN 1) dc gd) ch st).2.1))), (m9, .inl (cZ, 13, .inl (xf_z (xm_L dc lf)))), (m10, .inl (cI, 13, .inl li))] H := va_P.sub hP [1, 2, 3, 4, 5, 6, 7, 8, 0] rfl
  have hD : va_D A [(m0, .inr (6, [.int cd, .int (nI gc), .int (nI dc), .ref m1, .ref m2, .ref m3, .ref m4, .ref m5, .ref m6, .ref m7, .ref m8, .ref m9, .ref m10])), (m1, .inl (cI, 78, .inl P)), (m2, .inl (cI, 78, .inl A0)), (m5, .inl (cZ, 169, .inl (xf_z (xm_G (xk_c gc P A0) (lN 1) (lN 1) dc gd)))), (m6, .inl (cZ, 169, .inl (xf_z (xm_B (xk_c gc P A0) (lN 1) (lN 1) dc bd)))), (m7, .inl (cZ, 169, .inl (xf_z ((xm_K dc (xm_L dc lf) (xm_G (xk_c gc P A0) (lN 1) (lN 1) dc gd) ch st).1)))), (m8, .inl (cI, 169, .inl ((xm_K dc (xm_L dc lf) (xm_G (xk_c gc P A0) (lN 1) (lN 1) dc gd) ch st).2.1))), (m9, .inl (cZ, 13, .inl (xf_z (xm_L dc lf)))), (m10, .inl (cI, 13, .inl li))] := va_D.sub hD [1, 2, 3, 4, 5, 6, 7, 8, 0] (by decide) rfl
  refine xr_top (y := nI q0) hsh ?_
  refine lv_istore_n (lv' := [(2, .int (nI q0)), (0, .ref m0), (1, .int (nI j))]) hx hb xj_M_circle_4 rfl hl (by decide) rfl (fun ls hl => ?_)
  refine lv_aload_n hx hb xj_M_circle_5 rfl (lv_at hl 1 rfl) ?_
  refine lv_iload_n hx hb xj_M_circle_6 rfl (lv_at hl 0 rfl) ?_
  refine xr_ifneN (tgt := 14) hx hb (by omega) xj_M_circle_7 rfl (fun h7 => ?_) (fun h7 => absurd h7 (by omega))
  refine lv_iload_n hx hb xj_M_circle_14 rfl (lv_at hl 2 rfl) ?_
  refine lv_iconst (v := (-1)) hx hb xj_M_circle_15 (by decide) ?_
  refine lv_iload_n hx hb xj_M_circle_16 rfl (lv_at hl 0 rfl) ?_
  refine lv_iconst (v := nI 1) hx hb xj_M_circle_17 (by decide) ?_
  refine lv_isub hx hb xj_M_circle_18 ?_
  refine xc_callS (av := [.int (nI j), .int ((-1)), .int ((nI q0) - (nI 1))]) (rest := [.ref m0]) hAt hT (xt_M_in l D cI cZ cJ (nI j) ((-1)) ((nI q0) - (nI 1))) xw_579 xw_7 xw_581 xw_580 (na := 3) rfl (by decide +kernel) ⟨Nat.le_of_ble_eq_true rfl, Nat.le_of_ble_eq_true rfl⟩ (hP.sub (ws' := []) [] rfl) hK hl.1 (Nat.le_of_ble_eq_true rfl) ⟨Nat.zero_le _, Nat.zero_le _⟩ xj_M_circle_19 ?_
  refine xr_top (y := nI 1) (by rw [xm_in1_k hq13 hj]; rfl) ?_
  refine xr_ifeqN (tgt := 29) hx hb (by omega) xj_M_circle_22 rfl (fun h22 => absurd h22 (by omega)) (fun h22 => ?_)
  refine lv_iconst (v := nI 0) hx hb xj_M_circle_25 (by decide) ?_
  refine lv_goto (tgt := 30) hx hb xj_M_circle_26 rfl ?_
  refine va_put (D := D) (ci := 6) (v := .int (nI 0)) (ty := .int) (C := xn_M) (T := xn_TM) (N := 13) hx hb hgs xw_uM xn_tM xn_oM xn_nM hown hK.1 hP hD hS 0 rfl rfl 0 (by decide) (hgs _ xw_530) (fun _ h9 => h9) rfl (by decide +kernel) rfl rfl (Nat.le_of_ble_eq_true rfl) xj_M_circle_30 (fun H locs hP hD hS => ?_)
  have hP : va_P D xn_cl [(m0, .inr (6, [.int (nI 0), .int (nI gc), .int (nI dc), .ref m1, .ref m2, .ref m3, .ref m4, .ref m5, .ref m6, .ref m7, .ref m8, .ref m9, .ref m10])), (m1, .inl (cI, 78, .inl P)), (m2, .inl (cI, 78, .inl A0)), (m5, .inl (cZ, 169, .inl (xf_z (xm_G (xk_c gc P A0) (lN 1) (lN 1) dc gd)))), (m6, .inl (cZ, 169, .inl (xf_z (xm_B (xk_c gc P A0) (lN 1) (lN 1) dc bd)))), (m7, .inl (cZ, 169, .inl (xf_z ((xm_K dc (xm_L dc lf) (xm_G (xk_c gc P A0) (lN 1) (lN 1) dc gd) ch st).1)))), (m8, .inl (cI, 169, .inl ((xm_K dc (xm_L dc lf) (xm_G (xk_c gc P A0) (lN 1) (lN 1) dc gd) ch st).2.1))), (m9, .inl (cZ, 13, .inl (xf_z (xm_L dc lf)))), (m10, .inl (cI, 13, .inl li))] H := hP
  have hD : va_D A [(m0, .inr (6, [.int (nI 0), .int (nI gc), .int (nI dc), .ref m1, .ref m2, .ref m3, .ref m4, .ref m5, .ref m6, .ref m7, .ref m8, .ref m9, .ref m10])), (m1, .inl (cI, 78, .inl P)), (m2, .inl (cI, 78, .inl A0)), (m5, .inl (cZ, 169, .inl (xf_z (xm_G (xk_c gc P A0) (lN 1) (lN 1) dc gd)))), (m6, .inl (cZ, 169, .inl (xf_z (xm_B (xk_c gc P A0) (lN 1) (lN 1) dc bd)))), (m7, .inl (cZ, 169, .inl (xf_z ((xm_K dc (xm_L dc lf) (xm_G (xk_c gc P A0) (lN 1) (lN 1) dc gd) ch st).1)))), (m8, .inl (cI, 169, .inl ((xm_K dc (xm_L dc lf) (xm_G (xk_c gc P A0) (lN 1) (lN 1) dc gd) ch st).2.1))), (m9, .inl (cZ, 13, .inl (xf_z (xm_L dc lf)))), (m10, .inl (cI, 13, .inl li))] := hD
  refine lv_aload_n hx hb xj_M_circle_33 rfl (lv_at hl 1 rfl) ?_
  refine va_get (D := D) (ci := 6) (v := .int (nI 0)) (C := xn_M) (T := xn_TM) (N := 13) hx hb hgs xw_uM hown hK.1 hP 0 rfl rfl 0 (by decide) (hgs _ xw_530) (fun _ h9 => h9) rfl xj_M_circle_34 ?_
  refine lv_if_le (tgt := 42) hx hb xj_M_circle_37 rfl (fun h37 => ?_) (fun h37 => absurd h37 (by decide +kernel))
  refine lv_iload_n hx hb xj_M_circle_42 rfl (lv_at hl 2 rfl) ?_
  refine lv_iconst (v := (-1)) hx hb xj_M_circle_43 (by decide) ?_
  refine lv_icmp_ne (tgt := 49) hx hb xj_M_circle_44 rfl (fun h44 => ?_) (fun h44 => absurd h44 (xk_n1 (by omega)))
  refine lv_aload_n hx hb xj_M_circle_49 rfl (lv_at hl 1 rfl) ?_
  refine lv_iload_n hx hb xj_M_circle_50 rfl (lv_at hl 0 rfl) ?_
  refine xc_wVv (av := [.int (nI q0)]) (rest := []) (wr := [(m1, .inl (cI, 78, .inl P)), (m2, .inl (cI, 78, .inl A0)), (m7, .inl (cZ, 169, .inl (xf_z ((xm_K dc (xm_L dc lf) (xm_G (xk_c gc P A0) (lN 1) (lN 1) dc gd) ch st).1)))), (m8, .inl (cI, 169, .inl ((xm_K dc (xm_L dc lf) (xm_G (xk_c gc P A0) (lN 1) (lN 1) dc gd) ch st).2.1))), (m9, .inl (cZ, 13, .inl (xf_z (xm_L dc lf))))]) hAt hT (xt_M_findCircle l D cI cZ cJ m0 m1 m2 m3 m4 m5 m6 m7 m8 m9 m10 (nI 0) gc dc (xm_G (xk_c gc P A0) (lN 1) (lN 1) dc gd) (xm_B (xk_c gc P A0) (lN 1) (lN 1) dc bd) li q0 (by omega) (by omega) (by omega) qz hqz K rz hrun) xw_650 xw_7 xw_653 xw_652 xs_M_findCircle (C0 := xn_M) (q0 := 0) rfl rfl (na := 1) rfl (by decide +kernel) ⟨Nat.le_of_ble_eq_true rfl, Nat.le_of_ble_eq_true rfl⟩ hP hD hS hA [0, 3, 4, 8] [1, 2, 5, 6, 7] rfl rfl (by decide) (by decide) (by decide) hK hl.1 (Nat.le_of_ble_eq_true rfl) ⟨Nat.zero_le _, Nat.zero_le _⟩ xj_M_circle_51 (fun u51 H locs hu51 hP hD hS => ?_)
  have hP : va_P D xn_cl [(m0, .inr (6, [.int (nI 0), .int (nI gc), .int (nI dc), .ref m1, .ref m2, .ref m3, .ref m4, .ref m5, .ref m6, .ref m7, .ref m8, .ref m9, .ref m10])), (m1, .inl (cI, 78, .inl P)), (m2, .inl (cI, 78, .inl A0)), (m5, .inl (cZ, 169, .inl (xf_z (xm_G (xk_c gc P A0) (lN 1) (lN 1) dc gd)))), (m6, .inl (cZ, 169, .inl (xf_z (xm_B (xk_c gc P A0) (lN 1) (lN 1) dc bd)))), (m7, .inl (cZ, 169, .inl (xf_z ((xm_K dc (xm_L dc lf) (xm_G (xk_c gc P A0) (lN 1) (lN 1) dc gd) ch st).1)))), (m8, .inl (cI, 169, .inl ((xm_K dc (xm_L dc lf) (xm_G (xk_c gc P A0) (lN 1) (lN 1) dc gd) ch st).2.1))), (m9, .inl (cZ, 13, .inl (xf_z (xm_L dc lf)))), (m10, .inl (cI, 13, .inl u51))] H := va_P.sub hP [5, 0, 1, 6, 7, 2, 3, 4, 8] rfl
  have hD : va_D A [(m0, .inr (6, [.int (nI 0), .int (nI gc), .int (nI dc), .ref m1, .ref m2, .ref m3, .ref m4, .ref m5, .ref m6, .ref m7, .ref m8, .ref m9, .ref m10])), (m1, .inl (cI, 78, .inl P)), (m2, .inl (cI, 78, .inl A0)), (m5, .inl (cZ, 169, .inl (xf_z (xm_G (xk_c gc P A0) (lN 1) (lN 1) dc gd)))), (m6, .inl (cZ, 169, .inl (xf_z (xm_B (xk_c gc P A0) (lN 1) (lN 1) dc bd)))), (m7, .inl (cZ, 169, .inl (xf_z ((xm_K dc (xm_L dc lf) (xm_G (xk_c gc P A0) (lN 1) (lN 1) dc gd) ch st).1)))), (m8, .inl (cI, 169, .inl ((xm_K dc (xm_L dc lf) (xm_G (xk_c gc P A0) (lN 1) (lN 1) dc gd) ch st).2.1))), (m9, .inl (cZ, 13, .inl (xf_z (xm_L dc lf)))), (m10, .inl (cI, 13, .inl u51))] := va_D.sub hD [5, 0, 1, 6, 7, 2, 3, 4, 8] (by decide) rfl
  refine lv_aload_n hx hb xj_M_circle_54 rfl (lv_at hl 1 rfl) ?_
  refine va_get (D := D) (ci := 6) (v := .ref m10) (C := xn_M) (T := xn_TM) (N := 13) hx hb hgs xw_uM hown hK.1 hP 0 rfl rfl 12 (by decide) (hgs _ xw_542) (fun _ h9 => h9) rfl xj_M_circle_55 ?_
  refine lv_iload_n hx hb xj_M_circle_58 rfl (lv_at hl 2 rfl) ?_
  refine xr_iald hx hb hK.1 hP 8 0 rfl rfl (by omega) (by decide) xj_M_circle_59 ?_
  exact hret (u51 j) u51 H locs _ ls (hu51 j hj) rfl hP hD hS xj_M_circle_60
set_option maxRecDepth 100000 in
set_option maxHeartbeats 4000000 in
theorem xt_M_isBest (l : Launch) (D : va_G) (cI cZ cJ : ClassId) (m0 m1 m2 m3 m4 m5 m6 m7 m8 m9 m10 : Nat) (cd : Int32) (gc dc : Nat) (ch : Nat → Bool) (lf : Nat → Bool) (d1 : Nat) (hd1 : d1 < 13) (hd : dc ≤ 12) : xc_R l xy_M_isBest xb_M_isBest 3 .boolean 0 [.ref m0, .int (nI d1)] D cI cZ cJ [(m0, .inr (6, [.int cd, .int (nI gc), .int (nI dc), .ref m1, .ref m2, .ref m3, .ref m4, .ref m5, .ref m6, .ref m7, .ref m8, .ref m9, .ref m10])), (m7, .inl (cZ, 169, .inl (xf_z ch))), (m9, .inl (cZ, 13, .inl (xf_z lf)))] (xf_bI (xm_bst dc lf ch d1)) := by
  refine xc_R_of (by decide) (Nat.le_of_ble_eq_true rfl) (xf_nar_b _) ?_
  intro p e s m args below meth c Q ls hAt hP hK hl hret
  obtain ⟨hx, hb, hml, hown, hts, hgs, hlk⟩ := id hAt
  have hT : ∀ w ∈ xw_g, w ∈ xc_ws xy_M_isBest xb_M_isBest 3 (some .boolean) := fun w h => List.mem_cons_of_mem _ h
  have hown : s.vm.findClass "WishLedgerModel" = some m.cls := hown
  have hl : lv_has ls 3 [(0, .ref m0), (1, .int (nI d1))] := hl
  refine lv_iconst (v := nI 0) hx hb xj_M_isBest_0 (by decide) ?_
  refine lv_istore_n (lv' := [(2, .int (nI 0)), (0, .ref m0), (1, .int (nI d1))]) hx hb xj_M_isBest_1 rfl hl (by decide) rfl (fun ls hl => ?_)
  have loop2 : ∀ (n : Nat) (i : Nat) (ls : Array Slot), i + n = dc → (xf_ex (fun t => lf t && (ch (13 * t + d1) && !ch (13 * d1 + t))) n i = xf_ex (fun t => lf t && (ch (13 * t + d1) && !ch (13 * d1 + t))) dc 0) → lv_has ls 3 [(0, .ref m0), (1, .int (nI d1)), (2, .int (nI i))] → W p l e (xc_rm 0 0 0) s m args below meth c s.heap [] 0 0 Q (F0 m 2 ls []) := by
    intro n
    induction n with
    | zero =>
      intro i ls hi2 hr hl
      refine lv_iload_n hx hb xj_M_isBest_2 rfl (lv_at hl 2 rfl) ?_
      refine lv_aload_n hx hb xj_M_isBest_3 rfl (lv_at hl 0 rfl) ?_
      refine va_get (D := D) (ci := 6) (v := .int (nI dc)) (C := xn_M) (T := xn_TM) (N := 13) hx hb hgs xw_uM hown hK.1 hP 0 rfl rfl 2 (by decide) (hgs _ xw_532) (fun _ h9 => h9) rfl xj_M_isBest_4 ?_
      refine xr_ge (tgt := 55) hx hb (by omega) (by omega) xj_M_isBest_7 rfl (fun h7 => ?_) (fun h7 => absurd h7 (by omega))
      refine lv_iconst (v := nI 1) hx hb xj_M_isBest_55 (by decide) ?_
      exact xr_top (by unfold xm_bst; rw [show xf_ex (fun t => lf t && (ch (13 * t + d1) && !ch (13 * d1 + t))) dc 0 = false from hr.symm]; rfl) (hret _ _ xj_M_isBest_56)
    | succ n ih2 =>
      intro i ls hi2 hr hl
      refine lv_iload_n hx hb xj_M_isBest_2 rfl (lv_at hl 2 rfl) ?_
      refine lv_aload_n hx hb xj_M_isBest_3 rfl (lv_at hl 0 rfl) ?_
      refine va_get (D := D) (ci := 6) (v := .int (nI dc)) (C := xn_M) (T := xn_TM) (N := 13) hx hb hgs xw_uM hown hK.1 hP 0 rfl rfl 2 (by decide) (hgs _ xw_532) (fun _ h9 => h9) rfl xj_M_isBest_4 ?_
      refine xr_ge (tgt := 55) hx hb (by omega) (by omega) xj_M_isBest_7 rfl (fun h7 => absurd h7 (by omega)) (fun h7 => ?_)
      refine lv_aload_n hx hb xj_M_isBest_10 rfl (lv_at hl 0 rfl) ?_
      refine va_get (D := D) (ci := 6) (v := .ref m9) (C := xn_M) (T := xn_TM) (N := 13) hx hb hgs xw_uM hown hK.1 hP 0 rfl rfl 11 (by decide) (hgs _ xw_541) (fun _ h9 => h9) rfl xj_M_isBest_11 ?_
      refine lv_iload_n hx hb xj_M_isBest_14 rfl (lv_at hl 2 rfl) ?_
      refine xr_zald hx hb hK.1 hP 2 1 rfl rfl (by omega) (by decide) xj_M_isBest_15 ?_
      refine xr_top (y := xf_bI (lf i)) rfl ?_
      refine xr_ifeq (tgt := 49) hx hb xj_M_isBest_16 rfl (fun h16 => ?_) (fun h16 => ?_)
      · -- 49
        refine lv_iinc (k := 2) (v := nI (i + 1)) (lv' := [(2, .int (nI (i + 1))), (0, .ref m0), (1, .int (nI d1))]) hx hb xj_M_isBest_49 hl rfl (xr_inc _) (by decide) rfl (fun ls hl => ?_)
        refine lv_goto (tgt := 2) hx hb xj_M_isBest_52 rfl ?_
        exact ih2 (i + 1) ls (by omega) ((xf_ex_f (P := (fun t => lf t && (ch (13 * t + d1) && !ch (13 * d1 + t)))) (by simp only [h16, Bool.true_and, Bool.false_and, Bool.and_true, Bool.and_false, Bool.not_true, Bool.not_false])).symm.trans hr) (lv_sub hl [1, 2, 0] rfl)
      · -- 19
        refine lv_aload_n hx hb xj_M_isBest_19 rfl (lv_at hl 0 rfl) ?_
        refine va_get (D := D) (ci := 6) (v := .ref m7) (C := xn_M) (T := xn_TM) (N := 13) hx hb hgs xw_uM hown hK.1 hP 0 rfl rfl 9 (by decide) (hgs _ xw_539) (fun _ h9 => h9) rfl xj_M_isBest_20 ?_
        refine lv_bipush (v := nI 13) hx hb xj_M_isBest_23 (by decide) ?_
        refine lv_iload_n hx hb xj_M_isBest_25 rfl (lv_at hl 2 rfl) ?_
        refine xr_imul hx hb xj_M_isBest_26 ?_
        refine lv_iload_n hx hb xj_M_isBest_27 rfl (lv_at hl 1 rfl) ?_
        refine xr_iadd hx hb xj_M_isBest_28 ?_
        refine xr_zald hx hb hK.1 hP 1 1 rfl rfl (by omega) (by decide) xj_M_isBest_29 ?_
        refine xr_top (y := xf_bI (ch ((13 * i) + d1))) rfl ?_
        refine xr_ifeq (tgt := 49) hx hb xj_M_isBest_30 rfl (fun h30 => ?_) (fun h30 => ?_)
        · -- 49
          refine lv_iinc (k := 2) (v := nI (i + 1)) (lv' := [(2, .int (nI (i + 1))), (0, .ref m0), (1, .int (nI d1))]) hx hb xj_M_isBest_49 hl rfl (xr_inc _) (by decide) rfl (fun ls hl => ?_)
          refine lv_goto (tgt := 2) hx hb xj_M_isBest_52 rfl ?_
          exact ih2 (i + 1) ls (by omega) ((xf_ex_f (P := (fun t => lf t && (ch (13 * t + d1) && !ch (13 * d1 + t)))) (by simp only [h16, h30, Bool.true_and, Bool.false_and, Bool.and_true, Bool.and_false, Bool.not_true, Bool.not_false])).symm.trans hr) (lv_sub hl [1, 2, 0] rfl)
        · -- 33
          refine lv_aload_n hx hb xj_M_isBest_33 rfl (lv_at hl 0 rfl) ?_
          refine va_get (D := D) (ci := 6) (v := .ref m7) (C := xn_M) (T := xn_TM) (N := 13) hx hb hgs xw_uM hown hK.1 hP 0 rfl rfl 9 (by decide) (hgs _ xw_539) (fun _ h9 => h9) rfl xj_M_isBest_34 ?_
          refine lv_bipush (v := nI 13) hx hb xj_M_isBest_37 (by decide) ?_
          refine lv_iload_n hx hb xj_M_isBest_39 rfl (lv_at hl 1 rfl) ?_
          refine xr_imul hx hb xj_M_isBest_40 ?_
          refine lv_iload_n hx hb xj_M_isBest_41 rfl (lv_at hl 2 rfl) ?_
          refine xr_iadd hx hb xj_M_isBest_42 ?_
          refine xr_zald hx hb hK.1 hP 1 1 rfl rfl (by omega) (by decide) xj_M_isBest_43 ?_
          refine xr_top (y := xf_bI (ch ((13 * d1) + i))) rfl ?_
          refine xr_ifne (tgt := 49) hx hb xj_M_isBest_44 rfl (fun h44 => ?_) (fun h44 => ?_)
          · -- 49
            refine lv_iinc (k := 2) (v := nI (i + 1)) (lv' := [(2, .int (nI (i + 1))), (0, .ref m0), (1, .int (nI d1))]) hx hb xj_M_isBest_49 hl rfl (xr_inc _) (by decide) rfl (fun ls hl => ?_)
            refine lv_goto (tgt := 2) hx hb xj_M_isBest_52 rfl ?_
            exact ih2 (i + 1) ls (by omega) ((xf_ex_f (P := (fun t => lf t && (ch (13 * t + d1) && !ch (13 * d1 + t)))) (by simp only [h16, h30, h44, Bool.true_and, Bool.false_and, Bool.and_true, Bool.and_false, Bool.not_true, Bool.not_false])).symm.trans hr) (lv_sub hl [1, 2, 0] rfl)
          · -- 47
            refine lv_iconst (v := nI 0) hx hb xj_M_isBest_47 (by decide) ?_
            exact xr_top (by unfold xm_bst; rw [show xf_ex (fun t => lf t && (ch (13 * t + d1) && !ch (13 * d1 + t))) dc 0 = true from ((xf_ex_t (P := (fun t => lf t && (ch (13 * t + d1) && !ch (13 * d1 + t)))) (by simp only [h16, h30, h44, Bool.true_and, Bool.false_and, Bool.and_true, Bool.and_false, Bool.not_true, Bool.not_false])).symm.trans hr).symm]; rfl) (hret _ _ xj_M_isBest_48)
  exact loop2 dc 0 ls (by omega) rfl (lv_sub hl [1, 2, 0] rfl)
set_option maxRecDepth 100000 in
set_option maxHeartbeats 4000000 in
theorem xt_M_order_ok (l : Launch) (D : va_G) (cI cZ cJ : ClassId) (m0 m1 m2 m3 m4 m5 m6 m7 m8 m9 m10 : Nat) (cd : Int32) (gc dc : Nat) (P : Nat → Int32) (A0 : Nat → Int32) (gd : Nat → Bool) (bd : Nat → Bool) (ch : Nat → Bool) (st : Nat → Int32) (lf : Nat → Bool) (k0 : Nat) (hk : k0 < dc) (hg : gc ≤ 6) (hd : dc ≤ 12) (hex : ∀ k, k ≤ k0 → xm_nx dc (xm_K dc (xm_L dc lf) (xm_G (xk_c gc P A0) (lN 1) (lN 1) dc gd) ch st).1 (xm_it dc (xm_K dc (xm_L dc lf) (xm_G (xk_c gc P A0) (lN 1) (lN 1) dc gd) ch st).1 (xm_L dc lf) k) < dc) : xc_Wi l xy_M_order xb_M_order 5 .int 3 0 0 [.ref m0, .int (nI k0)] D cI cZ cJ [(m0, .inr (6, [.int cd, .int (nI gc), .int (nI dc), .ref m1, .ref m2, .ref m3, .ref m4, .ref m5, .ref m6, .ref m7, .ref m8, .ref m9, .ref m10])), (m1, .inl (cI, 78, .inl P)), (m2, .inl (cI, 78, .inl A0)), (m5, .inl (cZ, 169, .inl (xf_z gd))), (m6, .inl (cZ, 169, .inl (xf_z bd))), (m7, .inl (cZ, 169, .inl (xf_z ch))), (m8, .inl (cI, 169, .inl st)), (m9, .inl (cZ, 13, .inl (xf_z lf)))] (Nat → Bool) (fun r _ => r = nI (xm_nx dc (xm_K dc (xm_L dc lf) (xm_G (xk_c gc P A0) (lN 1) (lN 1) dc gd) ch st).1 (xm_it dc (xm_K dc (xm_L dc lf) (xm_G (xk_c gc P A0) (lN 1) (lN 1) dc gd) ch st).1 (xm_L dc lf) k0))) (fun u => [(m0, .inr (6, [.int (nI 0), .int (nI gc), .int (nI dc), .ref m1, .ref m2, .ref m3, .ref m4, .ref m5, .ref m6, .ref m7, .ref m8, .ref m9, .ref m10])), (m1, .inl (cI, 78, .inl P)), (m2, .inl (cI, 78, .inl A0)), (m5, .inl (cZ, 169, .inl (xf_z (xm_G (xk_c gc P A0) (lN 1) (lN 1) dc gd)))), (m6, .inl (cZ, 169, .inl (xf_z (xm_B (xk_c gc P A0) (lN 1) (lN 1) dc bd)))), (m7, .inl (cZ, 169, .inl (xf_z ((xm_K dc (xm_L dc lf) (xm_G (xk_c gc P A0) (lN 1) (lN 1) dc gd) ch st).1)))), (m8, .inl (cI, 169, .inl ((xm_K dc (xm_L dc lf) (xm_G (xk_c gc P A0) (lN 1) (lN 1) dc gd) ch st).2.1))), (m9, .inl (cZ, 13, .inl (xf_z u)))]) := by
  refine xc_Wi_of (by decide) (Nat.le_of_ble_eq_true rfl) ?_
  intro p e s m args below meth c Q ls A hAt hP hK hD hA hS hl hret
  obtain ⟨hx, hb, hml, hown, hts, hgs, hlk⟩ := id hAt
  have hT : ∀ w ∈ xw_g, w ∈ xc_ws xy_M_order xb_M_order 5 (some .int) := fun w h => List.mem_cons_of_mem _ h
  have hown : s.vm.findClass "WishLedgerModel" = some m.cls := hown
  obtain ⟨H, hH0⟩ : ∃ H, H = s.heap := ⟨_, rfl⟩
  obtain ⟨locs, hL0⟩ : ∃ locs : List Loc, locs = [] := ⟨_, rfl⟩
  have hP : va_P D xn_cl [(m0, .inr (6, [.int cd, .int (nI gc), .int (nI dc), .ref m1, .ref m2, .ref m3, .ref m4, .ref m5, .ref m6, .ref m7, .ref m8, .ref m9, .ref m10])), (m1, .inl (cI, 78, .inl P)), (m2, .inl (cI, 78, .inl A0)), (m5, .inl (cZ, 169, .inl (xf_z gd))), (m6, .inl (cZ, 169, .inl (xf_z bd))), (m7, .inl (cZ, 169, .inl (xf_z ch))), (m8, .inl (cI, 169, .inl st)), (m9, .inl (cZ, 13, .inl (xf_z lf)))] H := by rw [hH0]; exact hP
  have hS : va_S A s.heap H locs := by rw [hH0, hL0]; exact hS
  suffices hgo : W p l e (xc_rm 3 0 0) s m args below meth c H locs 0 0 Q (F0 m 0 ls []) by rw [hH0, hL0] at hgo; exact hgo
  clear hH0 hL0
  have hl : lv_has ls 5 [(0, .ref m0), (1, .int (nI k0))] := hl
  refine lv_aload_n hx hb xj_M_order_0 rfl (lv_at hl 0 rfl) ?_
  refine lv_aload_n hx hb xj_M_order_1 rfl (lv_at hl 0 rfl) ?_
  refine lv_iload_n hx hb xj_M_order_2 rfl (lv_at hl 1 rfl) ?_
  refine xc_callV (av := [.int (nI k0)]) (rest := [.ref m0]) hAt hT (xt_M_isDay l D cI cZ cJ m0 m1 m2 m3 m4 m5 m6 m7 m8 m9 m10 cd gc dc (nI k0) (by omega)) xw_590 xw_7 xw_593 xw_592 xs_M_isDay (C0 := xn_M) (q0 := 0) rfl rfl (na := 1) rfl (by decide +kernel) ⟨Nat.le_of_ble_eq_true rfl, Nat.le_of_ble_eq_true rfl⟩ (hP.sub (ws' := [(m0, .inr (6, [.int cd, .int (nI gc), .int (nI dc), .ref m1, .ref m2, .ref m3, .ref m4, .ref m5, .ref m6, .ref m7, .ref m8, .ref m9, .ref m10]))]) [0] rfl) hK hl.1 (Nat.le_of_ble_eq_true rfl) ⟨Nat.zero_le _, Nat.zero_le _⟩ xj_M_order_3 ?_
  refine xr_top (y := nI 1) (by rw [xo_in_n hk (by omega)]; rfl) ?_
  refine xr_ifeqN (tgt := 13) hx hb (by omega) xj_M_order_6 rfl (fun h6 => absurd h6 (by omega)) (fun h6 => ?_)
  refine lv_iconst (v := nI 0) hx hb xj_M_order_9 (by decide) ?_
  refine lv_goto (tgt := 14) hx hb xj_M_order_10 rfl ?_
  refine va_put (D := D) (ci := 6) (v := .int (nI 0)) (ty := .int) (C := xn_M) (T := xn_TM) (N := 13) hx hb hgs xw_uM xn_tM xn_oM xn_nM hown hK.1 hP hD hS 0 rfl rfl 0 (by decide) (hgs _ xw_530) (fun _ h9 => h9) rfl (by decide +kernel) rfl rfl (Nat.le_of_ble_eq_true rfl) xj_M_order_14 (fun H locs hP hD hS => ?_)
  have hP : va_P D xn_cl [(m0, .inr (6, [.int (nI 0), .int (nI gc), .int (nI dc), .ref m1, .ref m2, .ref m3, .ref m4, .ref m5, .ref m6, .ref m7, .ref m8, .ref m9, .ref m10])), (m1, .inl (cI, 78, .inl P)), (m2, .inl (cI, 78, .inl A0)), (m5, .inl (cZ, 169, .inl (xf_z gd))), (m6, .inl (cZ, 169, .inl (xf_z bd))), (m7, .inl (cZ, 169, .inl (xf_z ch))), (m8, .inl (cI, 169, .inl st)), (m9, .inl (cZ, 13, .inl (xf_z lf)))] H := hP
  have hD : va_D A [(m0, .inr (6, [.int (nI 0), .int (nI gc), .int (nI dc), .ref m1, .ref m2, .ref m3, .ref m4, .ref m5, .ref m6, .ref m7, .ref m8, .ref m9, .ref m10])), (m1, .inl (cI, 78, .inl P)), (m2, .inl (cI, 78, .inl A0)), (m5, .inl (cZ, 169, .inl (xf_z gd))), (m6, .inl (cZ, 169, .inl (xf_z bd))), (m7, .inl (cZ, 169, .inl (xf_z ch))), (m8, .inl (cI, 169, .inl st)), (m9, .inl (cZ, 13, .inl (xf_z lf)))] := hD
  refine lv_aload_n hx hb xj_M_order_17 rfl (lv_at hl 0 rfl) ?_
  refine va_get (D := D) (ci := 6) (v := .int (nI 0)) (C := xn_M) (T := xn_TM) (N := 13) hx hb hgs xw_uM hown hK.1 hP 0 rfl rfl 0 (by decide) (hgs _ xw_530) (fun _ h9 => h9) rfl xj_M_order_18 ?_
  refine lv_if_le (tgt := 26) hx hb xj_M_order_21 rfl (fun h21 => ?_) (fun h21 => absurd h21 (by decide +kernel))
  refine lv_aload_n hx hb xj_M_order_26 rfl (lv_at hl 0 rfl) ?_
  refine xc_wVv (av := []) (rest := []) (wr := []) hAt hT (xt_M_look l D cI cZ cJ m0 m1 m2 m3 m4 m5 m6 m7 m8 m9 m10 (nI 0) gc dc P A0 gd bd ch st lf (by omega) (by omega)) xw_618 xw_7 xw_621 xw_620 xs_M_look (C0 := xn_M) (q0 := 0) rfl rfl (na := 0) rfl (by decide +kernel) ⟨Nat.le_of_ble_eq_true rfl, Nat.le_of_ble_eq_true rfl⟩ hP hD hS hA [0, 1, 2, 3, 4, 5, 6, 7] [] rfl rfl (by decide) (by decide) (by decide) hK hl.1 (Nat.le_of_ble_eq_true rfl) ⟨Nat.zero_le _, Nat.zero_le _⟩ xj_M_order_27 (fun _ H locs _ hP hD hS => ?_)
  have hP : va_P D xn_cl [(m0, .inr (6, [.int (nI 0), .int (nI gc), .int (nI dc), .ref m1, .ref m2, .ref m3, .ref m4, .ref m5, .ref m6, .ref m7, .ref m8, .ref m9, .ref m10])), (m1, .inl (cI, 78, .inl P)), (m2, .inl (cI, 78, .inl A0)), (m5, .inl (cZ, 169, .inl (xf_z (xm_G (xk_c gc P A0) (lN 1) (lN 1) dc gd)))), (m6, .inl (cZ, 169, .inl (xf_z (xm_B (xk_c gc P A0) (lN 1) (lN 1) dc bd)))), (m7, .inl (cZ, 169, .inl (xf_z ((xm_K dc (xm_L dc lf) (xm_G (xk_c gc P A0) (lN 1) (lN 1) dc gd) ch st).1)))), (m8, .inl (cI, 169, .inl ((xm_K dc (xm_L dc lf) (xm_G (xk_c gc P A0) (lN 1) (lN 1) dc gd) ch st).2.1))), (m9, .inl (cZ, 13, .inl (xf_z (xm_L dc lf))))] H := hP
  have hD : va_D A [(m0, .inr (6, [.int (nI 0), .int (nI gc), .int (nI dc), .ref m1, .ref m2, .ref m3, .ref m4, .ref m5, .ref m6, .ref m7, .ref m8, .ref m9, .ref m10])), (m1, .inl (cI, 78, .inl P)), (m2, .inl (cI, 78, .inl A0)), (m5, .inl (cZ, 169, .inl (xf_z (xm_G (xk_c gc P A0) (lN 1) (lN 1) dc gd)))), (m6, .inl (cZ, 169, .inl (xf_z (xm_B (xk_c gc P A0) (lN 1) (lN 1) dc bd)))), (m7, .inl (cZ, 169, .inl (xf_z ((xm_K dc (xm_L dc lf) (xm_G (xk_c gc P A0) (lN 1) (lN 1) dc gd) ch st).1)))), (m8, .inl (cI, 169, .inl ((xm_K dc (xm_L dc lf) (xm_G (xk_c gc P A0) (lN 1) (lN 1) dc gd) ch st).2.1))), (m9, .inl (cZ, 13, .inl (xf_z (xm_L dc lf))))] := hD
  refine lv_iconst (v := (-1)) hx hb xj_M_order_30 (by decide) ?_
  refine lv_istore_n (lv' := [(2, .int ((-1))), (0, .ref m0), (1, .int (nI k0))]) hx hb xj_M_order_31 rfl hl (by decide) rfl (fun ls hl => ?_)
  refine lv_iconst (v := nI 0) hx hb xj_M_order_32 (by decide) ?_
  refine lv_istore_n (lv' := [(3, .int (nI 0)), (2, .int ((-1))), (0, .ref m0), (1, .int (nI k0))]) hx hb xj_M_order_33 rfl hl (by decide) rfl (fun ls hl => ?_)
  have loop34 : ∀ (n : Nat) (i : Nat) (f0 : Int32) (l2 : Nat → Bool) (ls : Array Slot) (H : Heap) (locs : List Loc), i + n = k0 + 1 → (l2 = (xm_it dc (xm_K dc (xm_L dc lf) (xm_G (xk_c gc P A0) (lN 1) (lN 1) dc gd) ch st).1 (xm_L dc lf) i)) → (i = 0 ∨ f0 = nI (xm_nx dc (xm_K dc (xm_L dc lf) (xm_G (xk_c gc P A0) (lN 1) (lN 1) dc gd) ch st).1 (xm_it dc (xm_K dc (xm_L dc lf) (xm_G (xk_c gc P A0) (lN 1) (lN 1) dc gd) ch st).1 (xm_L dc lf) (i - 1)))) → lv_has ls 5 [(0, .ref m0), (1, .int (nI k0)), (2, .int f0), (3, .int (nI i))] → va_P D xn_cl [(m0, .inr (6, [.int (nI 0), .int (nI gc), .int (nI dc), .ref m1, .ref m2, .ref m3, .ref m4, .ref m5, .ref m6, .ref m7, .ref m8, .ref m9, .ref m10])), (m1, .inl (cI, 78, .inl P)), (m2, .inl (cI, 78, .inl A0)), (m5, .inl (cZ, 169, .inl (xf_z (xm_G (xk_c gc P A0) (lN 1) (lN 1) dc gd)))), (m6, .inl (cZ, 169, .inl (xf_z (xm_B (xk_c gc P A0) (lN 1) (lN 1) dc bd)))), (m7, .inl (cZ, 169, .inl (xf_z ((xm_K dc (xm_L dc lf) (xm_G (xk_c gc P A0) (lN 1) (lN 1) dc gd) ch st).1)))), (m8, .inl (cI, 169, .inl ((xm_K dc (xm_L dc lf) (xm_G (xk_c gc P A0) (lN 1) (lN 1) dc gd) ch st).2.1))), (m9, .inl (cZ, 13, .inl (xf_z l2)))] H → va_D A [(m0, .inr (6, [.int (nI 0), .int (nI gc), .int (nI dc), .ref m1, .ref m2, .ref m3, .ref m4, .ref m5, .ref m6, .ref m7, .ref m8, .ref m9, .ref m10])), (m1, .inl (cI, 78, .inl P)), (m2, .inl (cI, 78, .inl A0)), (m5, .inl (cZ, 169, .inl (xf_z (xm_G (xk_c gc P A0) (lN 1) (lN 1) dc gd)))), (m6, .inl (cZ, 169, .inl (xf_z (xm_B (xk_c gc P A0) (lN 1) (lN 1) dc bd)))), (m7, .inl (cZ, 169, .inl (xf_z ((xm_K dc (xm_L dc lf) (xm_G (xk_c gc P A0) (lN 1) (lN 1) dc gd) ch st).1)))), (m8, .inl (cI, 169, .inl ((xm_K dc (xm_L dc lf) (xm_G (xk_c gc P A0) (lN 1) (lN 1) dc gd) ch st).2.1))), (m9, .inl (cZ, 13, .inl (xf_z l2)))] → va_S A s.heap H locs → W p l e (xc_rm 3 0 0) s m args below meth c H locs 0 0 Q (F0 m 34 ls []) := by
    intro n
    induction n with
    | zero =>
      intro i f0 l2 ls H locs hi34 hl2 hf0 hl hP hD hS
      refine lv_iload_n hx hb xj_M_order_34 rfl (lv_at hl 3 rfl) ?_
      refine lv_iload_n hx hb xj_M_order_35 rfl (lv_at hl 1 rfl) ?_
      refine xr_gt (tgt := 98) hx hb (by omega) (by omega) xj_M_order_36 rfl (fun h36 => ?_) (fun h36 => absurd h36 (by omega))
      refine lv_iload_n hx hb xj_M_order_98 rfl (lv_at hl 2 rfl) ?_
      exact hret f0 l2 H locs _ ls (by rw [hf0.resolve_left (by omega), show i - 1 = k0 by omega]) rfl hP hD hS xj_M_order_99
    | succ n ih34 =>
      intro i f0 l2 ls H locs hi34 hl2 hf0 hl hP hD hS
      refine lv_iload_n hx hb xj_M_order_34 rfl (lv_at hl 3 rfl) ?_
      refine lv_iload_n hx hb xj_M_order_35 rfl (lv_at hl 1 rfl) ?_
      refine xr_gt (tgt := 98) hx hb (by omega) (by omega) xj_M_order_36 rfl (fun h36 => absurd h36 (by omega)) (fun h36 => ?_)
      have hX : (xm_nx dc (xm_K dc (xm_L dc lf) (xm_G (xk_c gc P A0) (lN 1) (lN 1) dc gd) ch st).1 l2) < dc := by rw [hl2]; exact hex i (by omega)
      refine lv_iconst (v := (-1)) hx hb xj_M_order_39 (by decide) ?_
      refine lv_istore_n (lv' := [(2, .int ((-1))), (0, .ref m0), (1, .int (nI k0)), (3, .int (nI i))]) hx hb xj_M_order_40 rfl hl (by decide) rfl (fun ls hl => ?_)
      refine lv_iconst (v := nI 0) hx hb xj_M_order_41 (by decide) ?_
      refine lv_istore (lv' := [(4, .int (nI 0)), (2, .int ((-1))), (0, .ref m0), (1, .int (nI k0)), (3, .int (nI i))]) hx hb xj_M_order_42 hl (by decide) rfl (fun ls hl => ?_)
      have loop44 : ∀ (k : Nat) (j : Nat) (f : Int32) (ls : Array Slot) (H : Heap) (locs : List Loc), j + k = dc → ((f = -1 ∧ xm_fi (fun d => l2 d && xm_bst dc l2 (xm_K dc (xm_L dc lf) (xm_G (xk_c gc P A0) (lN 1) (lN 1) dc gd) ch st).1 d) k j = (xm_nx dc (xm_K dc (xm_L dc lf) (xm_G (xk_c gc P A0) (lN 1) (lN 1) dc gd) ch st).1 l2)) ∨ f = nI (xm_nx dc (xm_K dc (xm_L dc lf) (xm_G (xk_c gc P A0) (lN 1) (lN 1) dc gd) ch st).1 l2)) → lv_has ls 5 [(0, .ref m0), (1, .int (nI k0)), (2, .int f), (3, .int (nI i)), (4, .int (nI j))] → va_P D xn_cl [(m0, .inr (6, [.int (nI 0), .int (nI gc), .int (nI dc), .ref m1, .ref m2, .ref m3, .ref m4, .ref m5, .ref m6, .ref m7, .ref m8, .ref m9, .ref m10])), (m1, .inl (cI, 78, .inl P)), (m2, .inl (cI, 78, .inl A0)), (m5, .inl (cZ, 169, .inl (xf_z (xm_G (xk_c gc P A0) (lN 1) (lN 1) dc gd)))), (m6, .inl (cZ, 169, .inl (xf_z (xm_B (xk_c gc P A0) (lN 1) (lN 1) dc bd)))), (m7, .inl (cZ, 169, .inl (xf_z ((xm_K dc (xm_L dc lf) (xm_G (xk_c gc P A0) (lN 1) (lN 1) dc gd) ch st).1)))), (m8, .inl (cI, 169, .inl ((xm_K dc (xm_L dc lf) (xm_G (xk_c gc P A0) (lN 1) (lN 1) dc gd) ch st).2.1))), (m9, .inl (cZ, 13, .inl (xf_z l2)))] H → va_D A [(m0, .inr (6, [.int (nI 0), .int (nI gc), .int (nI dc), .ref m1, .ref m2, .ref m3, .ref m4, .ref m5, .ref m6, .ref m7, .ref m8, .ref m9, .ref m10])), (m1, .inl (cI, 78, .inl P)), (m2, .inl (cI, 78, .inl A0)), (m5, .inl (cZ, 169, .inl (xf_z (xm_G (xk_c gc P A0) (lN 1) (lN 1) dc gd)))), (m6, .inl (cZ, 169, .inl (xf_z (xm_B (xk_c gc P A0) (lN 1) (lN 1) dc bd)))), (m7, .inl (cZ, 169, .inl (xf_z ((xm_K dc (xm_L dc lf) (xm_G (xk_c gc P A0) (lN 1) (lN 1) dc gd) ch st).1)))), (m8, .inl (cI, 169, .inl ((xm_K dc (xm_L dc lf) (xm_G (xk_c gc P A0) (lN 1) (lN 1) dc gd) ch st).2.1))), (m9, .inl (cZ, 13, .inl (xf_z l2)))] → va_S A s.heap H locs → W p l e (xc_rm 3 0 0) s m args below meth c H locs 0 0 Q (F0 m 44 ls []) := by
        intro k
        induction k with
        | zero =>
          intro j f ls H locs hi44 hF hl hP hD hS
          refine lv_iload hx hb xj_M_order_44 (lv_at hl 4 rfl) ?_
          refine lv_aload_n hx hb xj_M_order_46 rfl (lv_at hl 0 rfl) ?_
          refine va_get (D := D) (ci := 6) (v := .int (nI dc)) (C := xn_M) (T := xn_TM) (N := 13) hx hb hgs xw_uM hown hK.1 hP 0 rfl rfl 2 (by decide) (hgs _ xw_532) (fun _ h9 => h9) rfl xj_M_order_47 ?_
          refine xr_ge (tgt := 85) hx hb (by omega) (by omega) xj_M_order_50 rfl (fun h50 => ?_) (fun h50 => absurd h50 (by omega))
          obtain rfl : f = nI (xm_nx dc (xm_K dc (xm_L dc lf) (xm_G (xk_c gc P A0) (lN 1) (lN 1) dc gd) ch st).1 l2) := hF.resolve_left (fun z => absurd (show (xm_nx dc (xm_K dc (xm_L dc lf) (xm_G (xk_c gc P A0) (lN 1) (lN 1) dc gd) ch st).1 l2) = dc from by rw [← z.2]; show j = dc; omega) (by omega))
          refine lv_aload_n hx hb xj_M_order_85 rfl (lv_at hl 0 rfl) ?_
          refine va_get (D := D) (ci := 6) (v := .ref m9) (C := xn_M) (T := xn_TM) (N := 13) hx hb hgs xw_uM hown hK.1 hP 0 rfl rfl 11 (by decide) (hgs _ xw_541) (fun _ h9 => h9) rfl xj_M_order_86 ?_
          refine lv_iload_n hx hb xj_M_order_89 rfl (lv_at hl 2 rfl) ?_
          refine lv_iconst (v := nI 0) hx hb xj_M_order_90 (by decide) ?_
          refine xr_topz (b := false) rfl ?_
          refine xr_zast hx hb hK.1 hP hD hS 7 1 rfl rfl (by omega) (by decide) xj_M_order_91 (fun H locs hP hD hS => ?_)
          rw [xf_z_up] at hP hD
          have hP : va_P D xn_cl [(m0, .inr (6, [.int (nI 0), .int (nI gc), .int (nI dc), .ref m1, .ref m2, .ref m3, .ref m4, .ref m5, .ref m6, .ref m7, .ref m8, .ref m9, .ref m10])), (m1, .inl (cI, 78, .inl P)), (m2, .inl (cI, 78, .inl A0)), (m5, .inl (cZ, 169, .inl (xf_z (xm_G (xk_c gc P A0) (lN 1) (lN 1) dc gd)))), (m6, .inl (cZ, 169, .inl (xf_z (xm_B (xk_c gc P A0) (lN 1) (lN 1) dc bd)))), (m7, .inl (cZ, 169, .inl (xf_z ((xm_K dc (xm_L dc lf) (xm_G (xk_c gc P A0) (lN 1) (lN 1) dc gd) ch st).1)))), (m8, .inl (cI, 169, .inl ((xm_K dc (xm_L dc lf) (xm_G (xk_c gc P A0) (lN 1) (lN 1) dc gd) ch st).2.1))), (m9, .inl (cZ, 13, .inl (xf_z (va_up l2 (xm_nx dc (xm_K dc (xm_L dc lf) (xm_G (xk_c gc P A0) (lN 1) (lN 1) dc gd) ch st).1 l2) false))))] H := hP
          have hD : va_D A [(m0, .inr (6, [.int (nI 0), .int (nI gc), .int (nI dc), .ref m1, .ref m2, .ref m3, .ref m4, .ref m5, .ref m6, .ref m7, .ref m8, .ref m9, .ref m10])), (m1, .inl (cI, 78, .inl P)), (m2, .inl (cI, 78, .inl A0)), (m5, .inl (cZ, 169, .inl (xf_z (xm_G (xk_c gc P A0) (lN 1) (lN 1) dc gd)))), (m6, .inl (cZ, 169, .inl (xf_z (xm_B (xk_c gc P A0) (lN 1) (lN 1) dc bd)))), (m7, .inl (cZ, 169, .inl (xf_z ((xm_K dc (xm_L dc lf) (xm_G (xk_c gc P A0) (lN 1) (lN 1) dc gd) ch st).1)))), (m8, .inl (cI, 169, .inl ((xm_K dc (xm_L dc lf) (xm_G (xk_c gc P A0) (lN 1) (lN 1) dc gd) ch st).2.1))), (m9, .inl (cZ, 13, .inl (xf_z (va_up l2 (xm_nx dc (xm_K dc (xm_L dc lf) (xm_G (xk_c gc P A0) (lN 1) (lN 1) dc gd) ch st).1 l2) false))))] := hD
          refine lv_iinc (k := 3) (v := nI (i + 1)) (lv' := [(3, .int (nI (i + 1))), (0, .ref m0), (1, .int (nI k0)), (2, .int (nI (xm_nx dc (xm_K dc (xm_L dc lf) (xm_G (xk_c gc P A0) (lN 1) (lN 1) dc gd) ch st).1 l2))), (4, .int (nI j))]) hx hb xj_M_order_92 hl rfl (xr_inc _) (by decide) rfl (fun ls hl => ?_)
          refine lv_goto (tgt := 34) hx hb xj_M_order_95 rfl ?_
          exact ih34 (i + 1) (nI (xm_nx dc (xm_K dc (xm_L dc lf) (xm_G (xk_c gc P A0) (lN 1) (lN 1) dc gd) ch st).1 l2)) ((va_up l2 (xm_nx dc (xm_K dc (xm_L dc lf) (xm_G (xk_c gc P A0) (lN 1) (lN 1) dc gd) ch st).1 l2) false)) ls _ _ (by omega) (by rw [hl2]; rfl) (Or.inr (by rw [show i + 1 - 1 = i from rfl, ← hl2])) (lv_sub hl [1, 2, 3, 0] rfl) hP hD hS
        | succ k ih44 =>
          intro j f ls H locs hi44 hF hl hP hD hS
          refine lv_iload hx hb xj_M_order_44 (lv_at hl 4 rfl) ?_
          refine lv_aload_n hx hb xj_M_order_46 rfl (lv_at hl 0 rfl) ?_
          refine va_get (D := D) (ci := 6) (v := .int (nI dc)) (C := xn_M) (T := xn_TM) (N := 13) hx hb hgs xw_uM hown hK.1 hP 0 rfl rfl 2 (by decide) (hgs _ xw_532) (fun _ h9 => h9) rfl xj_M_order_47 ?_
          refine xr_ge (tgt := 85) hx hb (by omega) (by omega) xj_M_order_50 rfl (fun h50 => absurd h50 (by omega)) (fun h50 => ?_)
          refine lv_iload_n hx hb xj_M_order_53 rfl (lv_at hl 2 rfl) ?_
          refine lv_if_ge (tgt := 85) hx hb xj_M_order_54 rfl (fun h54 => ?_) (fun h54 => ?_)
          · -- 85
            obtain rfl : f = nI (xm_nx dc (xm_K dc (xm_L dc lf) (xm_G (xk_c gc P A0) (lN 1) (lN 1) dc gd) ch st).1 l2) := hF.resolve_left (fun z => by rw [z.1] at h54; exact absurd h54 (by decide))
            refine lv_aload_n hx hb xj_M_order_85 rfl (lv_at hl 0 rfl) ?_
            refine va_get (D := D) (ci := 6) (v := .ref m9) (C := xn_M) (T := xn_TM) (N := 13) hx hb hgs xw_uM hown hK.1 hP 0 rfl rfl 11 (by decide) (hgs _ xw_541) (fun _ h9 => h9) rfl xj_M_order_86 ?_
            refine lv_iload_n hx hb xj_M_order_89 rfl (lv_at hl 2 rfl) ?_
            refine lv_iconst (v := nI 0) hx hb xj_M_order_90 (by decide) ?_
            refine xr_topz (b := false) rfl ?_
            refine xr_zast hx hb hK.1 hP hD hS 7 1 rfl rfl (by omega) (by decide) xj_M_order_91 (fun H locs hP hD hS => ?_)
            rw [xf_z_up] at hP hD
            have hP : va_P D xn_cl [(m0, .inr (6, [.int (nI 0), .int (nI gc), .int (nI dc), .ref m1, .ref m2, .ref m3, .ref m4, .ref m5, .ref m6, .ref m7, .ref m8, .ref m9, .ref m10])), (m1, .inl (cI, 78, .inl P)), (m2, .inl (cI, 78, .inl A0)), (m5, .inl (cZ, 169, .inl (xf_z (xm_G (xk_c gc P A0) (lN 1) (lN 1) dc gd)))), (m6, .inl (cZ, 169, .inl (xf_z (xm_B (xk_c gc P A0) (lN 1) (lN 1) dc bd)))), (m7, .inl (cZ, 169, .inl (xf_z ((xm_K dc (xm_L dc lf) (xm_G (xk_c gc P A0) (lN 1) (lN 1) dc gd) ch st).1)))), (m8, .inl (cI, 169, .inl ((xm_K dc (xm_L dc lf) (xm_G (xk_c gc P A0) (lN 1) (lN 1) dc gd) ch st).2.1))), (m9, .inl (cZ, 13, .inl (xf_z (va_up l2 (xm_nx dc (xm_K dc (xm_L dc lf) (xm_G (xk_c gc P A0) (lN 1) (lN 1) dc gd) ch st).1 l2) false))))] H := hP
            have hD : va_D A [(m0, .inr (6, [.int (nI 0), .int (nI gc), .int (nI dc), .ref m1, .ref m2, .ref m3, .ref m4, .ref m5, .ref m6, .ref m7, .ref m8, .ref m9, .ref m10])), (m1, .inl (cI, 78, .inl P)), (m2, .inl (cI, 78, .inl A0)), (m5, .inl (cZ, 169, .inl (xf_z (xm_G (xk_c gc P A0) (lN 1) (lN 1) dc gd)))), (m6, .inl (cZ, 169, .inl (xf_z (xm_B (xk_c gc P A0) (lN 1) (lN 1) dc bd)))), (m7, .inl (cZ, 169, .inl (xf_z ((xm_K dc (xm_L dc lf) (xm_G (xk_c gc P A0) (lN 1) (lN 1) dc gd) ch st).1)))), (m8, .inl (cI, 169, .inl ((xm_K dc (xm_L dc lf) (xm_G (xk_c gc P A0) (lN 1) (lN 1) dc gd) ch st).2.1))), (m9, .inl (cZ, 13, .inl (xf_z (va_up l2 (xm_nx dc (xm_K dc (xm_L dc lf) (xm_G (xk_c gc P A0) (lN 1) (lN 1) dc gd) ch st).1 l2) false))))] := hD
            refine lv_iinc (k := 3) (v := nI (i + 1)) (lv' := [(3, .int (nI (i + 1))), (0, .ref m0), (1, .int (nI k0)), (2, .int (nI (xm_nx dc (xm_K dc (xm_L dc lf) (xm_G (xk_c gc P A0) (lN 1) (lN 1) dc gd) ch st).1 l2))), (4, .int (nI j))]) hx hb xj_M_order_92 hl rfl (xr_inc _) (by decide) rfl (fun ls hl => ?_)
            refine lv_goto (tgt := 34) hx hb xj_M_order_95 rfl ?_
            exact ih34 (i + 1) (nI (xm_nx dc (xm_K dc (xm_L dc lf) (xm_G (xk_c gc P A0) (lN 1) (lN 1) dc gd) ch st).1 l2)) ((va_up l2 (xm_nx dc (xm_K dc (xm_L dc lf) (xm_G (xk_c gc P A0) (lN 1) (lN 1) dc gd) ch st).1 l2) false)) ls _ _ (by omega) (by rw [hl2]; rfl) (Or.inr (by rw [show i + 1 - 1 = i from rfl, ← hl2])) (lv_sub hl [1, 2, 3, 0] rfl) hP hD hS
          · -- 57
            refine lv_aload_n hx hb xj_M_order_57 rfl (lv_at hl 0 rfl) ?_
            refine va_get (D := D) (ci := 6) (v := .ref m9) (C := xn_M) (T := xn_TM) (N := 13) hx hb hgs xw_uM hown hK.1 hP 0 rfl rfl 11 (by decide) (hgs _ xw_541) (fun _ h9 => h9) rfl xj_M_order_58 ?_
            refine lv_iload hx hb xj_M_order_61 (lv_at hl 4 rfl) ?_
            refine xr_zald hx hb hK.1 hP 7 1 rfl rfl (by omega) (by decide) xj_M_order_63 ?_
            refine xr_top (y := xf_bI (l2 j)) rfl ?_
            refine xr_ifeq (tgt := 79) hx hb xj_M_order_64 rfl (fun h64 => ?_) (fun h64 => ?_)
            · -- 79
              refine lv_iinc (k := 4) (v := nI (j + 1)) (lv' := [(4, .int (nI (j + 1))), (0, .ref m0), (1, .int (nI k0)), (2, .int f), (3, .int (nI i))]) hx hb xj_M_order_79 hl rfl (xr_inc _) (by decide) rfl (fun ls hl => ?_)
              refine lv_goto (tgt := 44) hx hb xj_M_order_82 rfl ?_
              exact ih44 (j + 1) f ls _ _ (by omega) (Or.inl ⟨(hF.resolve_right (fun z => absurd (show 0 ≤ f from by rw [z]; exact nI_pos' (by omega)) h54)).1, (xm_fi_f (P := (fun d => l2 d && xm_bst dc l2 (xm_K dc (xm_L dc lf) (xm_G (xk_c gc P A0) (lN 1) (lN 1) dc gd) ch st).1 d)) (show (l2 j && xm_bst dc l2 (xm_K dc (xm_L dc lf) (xm_G (xk_c gc P A0) (lN 1) (lN 1) dc gd) ch st).1 j) = false by rw [h64]; rfl)).symm.trans (hF.resolve_right (fun z => absurd (show 0 ≤ f from by rw [z]; exact nI_pos' (by omega)) h54)).2⟩) (lv_sub hl [1, 2, 3, 4, 0] rfl) hP hD hS
            · -- 67
              refine lv_aload_n hx hb xj_M_order_67 rfl (lv_at hl 0 rfl) ?_
              refine lv_iload hx hb xj_M_order_68 (lv_at hl 4 rfl) ?_
              refine xc_callV (av := [.int (nI j)]) (rest := []) hAt hT (xt_M_isBest l D cI cZ cJ m0 m1 m2 m3 m4 m5 m6 m7 m8 m9 m10 (nI 0) gc dc ((xm_K dc (xm_L dc lf) (xm_G (xk_c gc P A0) (lN 1) (lN 1) dc gd) ch st).1) l2 j (by omega) (by omega)) xw_702 xw_7 xw_705 xw_704 xs_M_isBest (C0 := xn_M) (q0 := 0) rfl rfl (na := 1) rfl (by decide +kernel) ⟨Nat.le_of_ble_eq_true rfl, Nat.le_of_ble_eq_true rfl⟩ (hP.sub (ws' := [(m0, .inr (6, [.int (nI 0), .int (nI gc), .int (nI dc), .ref m1, .ref m2, .ref m3, .ref m4, .ref m5, .ref m6, .ref m7, .ref m8, .ref m9, .ref m10])), (m7, .inl (cZ, 169, .inl (xf_z ((xm_K dc (xm_L dc lf) (xm_G (xk_c gc P A0) (lN 1) (lN 1) dc gd) ch st).1)))), (m9, .inl (cZ, 13, .inl (xf_z l2)))]) [0, 5, 7] rfl) hK hl.1 (Nat.le_of_ble_eq_true rfl) ⟨Nat.zero_le _, Nat.zero_le _⟩ xj_M_order_70 ?_
              refine xr_ifeq (tgt := 79) hx hb xj_M_order_73 rfl (fun h73 => ?_) (fun h73 => ?_)
              · -- 79
                refine lv_iinc (k := 4) (v := nI (j + 1)) (lv' := [(4, .int (nI (j + 1))), (0, .ref m0), (1, .int (nI k0)), (2, .int f), (3, .int (nI i))]) hx hb xj_M_order_79 hl rfl (xr_inc _) (by decide) rfl (fun ls hl => ?_)
                refine lv_goto (tgt := 44) hx hb xj_M_order_82 rfl ?_
                exact ih44 (j + 1) f ls _ _ (by omega) (Or.inl ⟨(hF.resolve_right (fun z => absurd (show 0 ≤ f from by rw [z]; exact nI_pos' (by omega)) h54)).1, (xm_fi_f (P := (fun d => l2 d && xm_bst dc l2 (xm_K dc (xm_L dc lf) (xm_G (xk_c gc P A0) (lN 1) (lN 1) dc gd) ch st).1 d)) (show (l2 j && xm_bst dc l2 (xm_K dc (xm_L dc lf) (xm_G (xk_c gc P A0) (lN 1) (lN 1) dc gd) ch st).1 j) = false by rw [h64, h73]; rfl)).symm.trans (hF.resolve_right (fun z => absurd (show 0 ≤ f from by rw [z]; exact nI_pos' (by omega)) h54)).2⟩) (lv_sub hl [1, 2, 3, 4, 0] rfl) hP hD hS
              · -- 76
                refine lv_iload hx hb xj_M_order_76 (lv_at hl 4 rfl) ?_
                refine lv_istore_n (lv' := [(2, .int (nI j)), (0, .ref m0), (1, .int (nI k0)), (3, .int (nI i)), (4, .int (nI j))]) hx hb xj_M_order_78 rfl hl (by decide) rfl (fun ls hl => ?_)
                refine lv_iinc (k := 4) (v := nI (j + 1)) (lv' := [(4, .int (nI (j + 1))), (2, .int (nI j)), (0, .ref m0), (1, .int (nI k0)), (3, .int (nI i))]) hx hb xj_M_order_79 hl rfl (xr_inc _) (by decide) rfl (fun ls hl => ?_)
                refine lv_goto (tgt := 44) hx hb xj_M_order_82 rfl ?_
                exact ih44 (j + 1) (nI j) ls _ _ (by omega) (Or.inr (congrArg nI ((xm_fi_t (P := (fun d => l2 d && xm_bst dc l2 (xm_K dc (xm_L dc lf) (xm_G (xk_c gc P A0) (lN 1) (lN 1) dc gd) ch st).1 d)) (show (l2 j && xm_bst dc l2 (xm_K dc (xm_L dc lf) (xm_G (xk_c gc P A0) (lN 1) (lN 1) dc gd) ch st).1 j) = true by rw [h64, h73]; rfl)).symm.trans (hF.resolve_right (fun z => absurd (show 0 ≤ f from by rw [z]; exact nI_pos' (by omega)) h54)).2))) (lv_sub hl [2, 3, 1, 4, 0] rfl) hP hD hS
      exact loop44 dc 0 ((-1)) ls _ _ (by omega) (Or.inl ⟨rfl, rfl⟩) (lv_sub hl [2, 3, 1, 4, 0] rfl) hP hD hS
  exact loop34 (k0 + 1) 0 ((-1)) ((xm_L dc lf)) ls _ _ (by omega) rfl (Or.inl rfl) (lv_sub hl [2, 3, 1, 0] rfl) hP hD hS
set_option maxRecDepth 100000 in
set_option maxHeartbeats 4000000 in
theorem xt_M_order_no (l : Launch) (D : va_G) (cI cZ cJ : ClassId) (m0 m1 m2 m3 m4 m5 m6 m7 m8 m9 m10 : Nat) (cd : Int32) (gc dc : Nat) (d : Int32) (hno : xo_in d dc = false) (hd : dc ≤ 12) : xc_Wi l xy_M_order xb_M_order 5 .int 3 0 0 [.ref m0, .int d] D cI cZ cJ [(m0, .inr (6, [.int cd, .int (nI gc), .int (nI dc), .ref m1, .ref m2, .ref m3, .ref m4, .ref m5, .ref m6, .ref m7, .ref m8, .ref m9, .ref m10]))] (Unit) (fun _ _ => True) (fun _ => [(m0, .inr (6, [.int (nI 1), .int (nI gc), .int (nI dc), .ref m1, .ref m2, .ref m3, .ref m4, .ref m5, .ref m6, .ref m7, .ref m8, .ref m9, .ref m10]))]) := by
  refine xc_Wi_of (by decide) (Nat.le_of_ble_eq_true rfl) ?_
  intro p e s m args below meth c Q ls A hAt hP hK hD hA hS hl hret
  obtain ⟨hx, hb, hml, hown, hts, hgs, hlk⟩ := id hAt
  have hT : ∀ w ∈ xw_g, w ∈ xc_ws xy_M_order xb_M_order 5 (some .int) := fun w h => List.mem_cons_of_mem _ h
  have hown : s.vm.findClass "WishLedgerModel" = some m.cls := hown
  obtain ⟨H, hH0⟩ : ∃ H, H = s.heap := ⟨_, rfl⟩
  obtain ⟨locs, hL0⟩ : ∃ locs : List Loc, locs = [] := ⟨_, rfl⟩
  have hP : va_P D xn_cl [(m0, .inr (6, [.int cd, .int (nI gc), .int (nI dc), .ref m1, .ref m2, .ref m3, .ref m4, .ref m5, .ref m6, .ref m7, .ref m8, .ref m9, .ref m10]))] H := by rw [hH0]; exact hP
  have hS : va_S A s.heap H locs := by rw [hH0, hL0]; exact hS
  suffices hgo : W p l e (xc_rm 3 0 0) s m args below meth c H locs 0 0 Q (F0 m 0 ls []) by rw [hH0, hL0] at hgo; exact hgo
  clear hH0 hL0
  have hl : lv_has ls 5 [(0, .ref m0), (1, .int d)] := hl
  refine lv_aload_n hx hb xj_M_order_0 rfl (lv_at hl 0 rfl) ?_
  refine lv_aload_n hx hb xj_M_order_1 rfl (lv_at hl 0 rfl) ?_
  refine lv_iload_n hx hb xj_M_order_2 rfl (lv_at hl 1 rfl) ?_
  refine xc_callV (av := [.int d]) (rest := [.ref m0]) hAt hT (xt_M_isDay l D cI cZ cJ m0 m1 m2 m3 m4 m5 m6 m7 m8 m9 m10 cd gc dc d (by omega)) xw_590 xw_7 xw_593 xw_592 xs_M_isDay (C0 := xn_M) (q0 := 0) rfl rfl (na := 1) rfl (by decide +kernel) ⟨Nat.le_of_ble_eq_true rfl, Nat.le_of_ble_eq_true rfl⟩ (hP.sub (ws' := [(m0, .inr (6, [.int cd, .int (nI gc), .int (nI dc), .ref m1, .ref m2, .ref m3, .ref m4, .ref m5, .ref m6, .ref m7, .ref m8, .ref m9, .ref m10]))]) [0] rfl) hK hl.1 (Nat.le_of_ble_eq_true rfl) ⟨Nat.zero_le _, Nat.zero_le _⟩ xj_M_order_3 ?_
  refine xr_top (y := nI 0) (by rw [hno]; rfl) ?_
  refine xr_ifeqN (tgt := 13) hx hb (by omega) xj_M_order_6 rfl (fun h6 => ?_) (fun h6 => absurd h6 (by omega))
  refine lv_iconst (v := nI 1) hx hb xj_M_order_13 (by decide) ?_
  refine va_put (D := D) (ci := 6) (v := .int (nI 1)) (ty := .int) (C := xn_M) (T := xn_TM) (N := 13) hx hb hgs xw_uM xn_tM xn_oM xn_nM hown hK.1 hP hD hS 0 rfl rfl 0 (by decide) (hgs _ xw_530) (fun _ h9 => h9) rfl (by decide +kernel) rfl rfl (Nat.le_of_ble_eq_true rfl) xj_M_order_14 (fun H locs hP hD hS => ?_)
  have hP : va_P D xn_cl [(m0, .inr (6, [.int (nI 1), .int (nI gc), .int (nI dc), .ref m1, .ref m2, .ref m3, .ref m4, .ref m5, .ref m6, .ref m7, .ref m8, .ref m9, .ref m10]))] H := hP
  have hD : va_D A [(m0, .inr (6, [.int (nI 1), .int (nI gc), .int (nI dc), .ref m1, .ref m2, .ref m3, .ref m4, .ref m5, .ref m6, .ref m7, .ref m8, .ref m9, .ref m10]))] := hD
  refine lv_aload_n hx hb xj_M_order_17 rfl (lv_at hl 0 rfl) ?_
  refine va_get (D := D) (ci := 6) (v := .int (nI 1)) (C := xn_M) (T := xn_TM) (N := 13) hx hb hgs xw_uM hown hK.1 hP 0 rfl rfl 0 (by decide) (hgs _ xw_530) (fun _ h9 => h9) rfl xj_M_order_18 ?_
  refine lv_if_le (tgt := 26) hx hb xj_M_order_21 rfl (fun h21 => absurd h21 (by decide +kernel)) (fun h21 => ?_)
  refine lv_iconst (v := nI 0) hx hb xj_M_order_24 (by decide) ?_
  exact hret (nI 0) (()) H locs _ ls trivial rfl hP hD hS xj_M_order_25
