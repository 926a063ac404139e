/-! walks: Relation (writing) -/
set_option maxRecDepth 100000 in
set_option maxHeartbeats 4000000 in
theorem xt_R_readRow (l : Launch) (D : va_G) (cI cZ cJ : ClassId) (r0 r1 r2 r3 : Nat) (G Bt C : Nat → Int32) (b0 b1 b2 gc dc : Nat) (P A0 : Nat → Int32) (x : Int32) (s0 : Nat) (u v : Int64) (hgc : gc ≤ 6) (hs : s0 < 13) : xc_Wv l xy_R_readRow xb_R_readRow 13 2 0 0 [.ref r0, .ref b0, .int x, .int (nI s0), .long u, .long v] D cI cZ cJ [(r0, .inr (3, [.ref r1, .ref r2, .ref r3])), (r1, .inl (cI, 13, .inl G)), (r2, .inl (cI, 13, .inl Bt)), (r3, .inl (cI, 13, .inl C)), (b0, .inr (0, [.ref b1, .ref b2, .int (nI gc), .int (nI dc)])), (b1, .inl (cI, 78, .inl P)), (b2, .inl (cI, 78, .inl A0))] (Unit) (fun _ => True) (fun _ => [(r0, .inr (3, [.ref r1, .ref r2, .ref r3])), (r1, .inl (cI, 13, .inl (upd G s0 (xk_rg (xk_c gc P A0 s0) x (u * (xk_c gc P A0 s0 s0).toInt64) v s0 13 0 (xf_bi (nI s0)))))), (r2, .inl (cI, 13, .inl (upd Bt s0 (xk_rb (xk_c gc P A0 s0) x (u * (xk_c gc P A0 s0 s0).toInt64) v s0 13 0 (Bt s0))))), (r3, .inl (cI, 13, .inl C)), (b0, .inr (0, [.ref b1, .ref b2, .int (nI gc), .int (nI dc)])), (b1, .inl (cI, 78, .inl P)), (b2, .inl (cI, 78, .inl A0))]) := by
  refine xc_Wv_of (by decide) (Nat.le_of_ble_eq_true rfl) ?_
  intro p e s m args below meth c Q ls A hAt hin hP hK hD hA hS hl hret
  obtain ⟨hx, hb, hml, hown, hts, hgs, hlk⟩ := id hAt
  have hT : ∀ w ∈ xw_g, w ∈ xc_ws xy_R_readRow xb_R_readRow 13 (none) := fun w h => List.mem_cons_of_mem _ h
  have hown : s.vm.findClass "WishLedger$Relation" = some m.cls := hown
  obtain ⟨H, hH0⟩ : ∃ H, H = s.heap := ⟨_, rfl⟩
  obtain ⟨locs, hL0⟩ : ∃ locs : List Loc, locs = [] := ⟨_, rfl⟩
  have hP : va_P D xn_cl [(r0, .inr (3, [.ref r1, .ref r2, .ref r3])), (r1, .inl (cI, 13, .inl G)), (r2, .inl (cI, 13, .inl Bt)), (r3, .inl (cI, 13, .inl C)), (b0, .inr (0, [.ref b1, .ref b2, .int (nI gc), .int (nI dc)])), (b1, .inl (cI, 78, .inl P)), (b2, .inl (cI, 78, .inl A0))] H := by rw [hH0]; exact hP
  have hS : va_S A s.heap H locs := by rw [hH0, hL0]; exact hS
  suffices hgo : W p l e (xc_rm 2 0 0) s m args below meth c H locs 0 0 Q (F0 m 0 ls []) by rw [hH0, hL0] at hgo; exact hgo
  clear hH0 hL0
  have hl : lv_has ls 13 [(0, .ref r0), (1, .ref b0), (2, .int x), (3, .int (nI s0)), (4, .long u), (6, .long v)] := hl
  refine lv_lload hx hb xj_R_readRow_0 (lv_at hl 4 rfl) ?_
  refine lv_aload_n hx hb xj_R_readRow_2 rfl (lv_at hl 1 rfl) ?_
  refine lv_iload_n hx hb xj_R_readRow_3 rfl (lv_at hl 3 rfl) ?_
  refine lv_iload_n hx hb xj_R_readRow_4 rfl (lv_at hl 3 rfl) ?_
  refine xc_callVN (av := [.int (nI s0), .int (nI s0)]) (rest := [.long u]) hAt hT (xt_B_costOf l D cI cZ cJ b0 b1 b2 gc dc P A0 s0 s0 (by omega) (by omega) (by omega)) (List.mem_of_getElem? (i := 18) rfl) xw_2 xw_165 xw_164 xs_B_costOf (C0 := xn_B) (q0 := 0) rfl rfl (na := 2) rfl (by decide +kernel) ⟨Nat.le_of_ble_eq_true rfl, Nat.le_of_ble_eq_true rfl⟩ (hP.sub (ws' := [(b0, .inr (0, [.ref b1, .ref b2, .int (nI gc), .int (nI dc)])), (b1, .inl (cI, 78, .inl P)), (b2, .inl (cI, 78, .inl A0))]) [4, 5, 6] rfl) hK hl.1 (Nat.le_of_ble_eq_true rfl) ⟨Nat.zero_le _, Nat.zero_le _⟩ xj_R_readRow_5 ?_
  refine lv_i2l hx hb xj_R_readRow_8 rfl ?_
  refine lv_lmul hx hb xj_R_readRow_9 ?_
  refine lv_lstore (lv' := [(8, .long (u * ((xk_c gc P A0 s0 s0).toInt64))), (0, .ref r0), (1, .ref b0), (2, .int x), (3, .int (nI s0)), (4, .long u), (6, .long v)]) hx hb xj_R_readRow_10 hl (by decide) rfl (fun ls hl => ?_)
  refine lv_aload_n hx hb xj_R_readRow_12 rfl (lv_at hl 1 rfl) ?_
  refine va_get (D := D) (ci := 3) (v := .ref r1) (C := xn_R) (T := xn_TR) (N := 3) hx hb hgs xw_uR hown hK.1 hP 0 rfl rfl 0 (by decide) (hgs _ xw_52) (fun _ h9 => h9) rfl xj_R_readRow_13 ?_
  refine lv_iload_n hx hb xj_R_readRow_16 rfl (lv_at hl 4 rfl) ?_
  refine lv_iload_n hx hb xj_R_readRow_17 rfl (lv_at hl 4 rfl) ?_
  refine xc_callSN (av := [.int (nI s0)]) (rest := [.int (nI s0), .ref r1]) hAt hT (xt_L_bit l D cI cZ cJ (nI s0)) (List.mem_of_getElem? (i := 19) rfl) xw_1 xw_149 xw_148 (na := 1) rfl (by decide +kernel) ⟨Nat.le_of_ble_eq_true rfl, Nat.le_of_ble_eq_true rfl⟩ (hP.sub (ws' := []) [] rfl) hK hl.1 (Nat.le_of_ble_eq_true rfl) ⟨Nat.zero_le _, Nat.zero_le _⟩ xj_R_readRow_18 ?_
  refine xr_iast hx hb hK.1 hP hD hS 1 0 rfl rfl (by omega) (by decide) xj_R_readRow_21 (fun H locs hP hD hS => ?_)
  have hP : va_P D xn_cl [(r0, .inr (3, [.ref r1, .ref r2, .ref r3])), (r1, .inl (cI, 13, .inl (upd G s0 (xf_bi (nI s0))))), (r2, .inl (cI, 13, .inl Bt)), (r3, .inl (cI, 13, .inl C)), (b0, .inr (0, [.ref b1, .ref b2, .int (nI gc), .int (nI dc)])), (b1, .inl (cI, 78, .inl P)), (b2, .inl (cI, 78, .inl A0))] H := hP
  have hD : va_D A [(r0, .inr (3, [.ref r1, .ref r2, .ref r3])), (r1, .inl (cI, 13, .inl (upd G s0 (xf_bi (nI s0))))), (r2, .inl (cI, 13, .inl Bt)), (r3, .inl (cI, 13, .inl C)), (b0, .inr (0, [.ref b1, .ref b2, .int (nI gc), .int (nI dc)])), (b1, .inl (cI, 78, .inl P)), (b2, .inl (cI, 78, .inl A0))] := hD
  have hP : va_P D xn_cl [(r0, .inr (3, [.ref r1, .ref r2, .ref r3])), (r1, .inl (cI, 13, .inl (upd G s0 (xf_bi (nI s0))))), (r2, .inl (cI, 13, .inl (upd Bt s0 (Bt s0)))), (r3, .inl (cI, 13, .inl C)), (b0, .inr (0, [.ref b1, .ref b2, .int (nI gc), .int (nI dc)])), (b1, .inl (cI, 78, .inl P)), (b2, .inl (cI, 78, .inl A0))] H := by rw [xf_upid Bt s0]; exact hP
  have hD : va_D A [(r0, .inr (3, [.ref r1, .ref r2, .ref r3])), (r1, .inl (cI, 13, .inl (upd G s0 (xf_bi (nI s0))))), (r2, .inl (cI, 13, .inl (upd Bt s0 (Bt s0)))), (r3, .inl (cI, 13, .inl C)), (b0, .inr (0, [.ref b1, .ref b2, .int (nI gc), .int (nI dc)])), (b1, .inl (cI, 78, .inl P)), (b2, .inl (cI, 78, .inl A0))] := by rw [xf_upid Bt s0]; exact hD
  refine lv_iconst (v := nI 0) hx hb xj_R_readRow_22 (by decide) ?_
  refine lv_istore (lv' := [(10, .int (nI 0)), (8, .long (u * ((xk_c gc P A0 s0 s0).toInt64))), (0, .ref r0), (1, .ref b0), (2, .int x), (3, .int (nI s0)), (4, .long u), (6, .long v)]) hx hb xj_R_readRow_23 hl (by decide) rfl (fun ls hl => ?_)
  have loop25 : ∀ (n : Nat) (i : Nat) (y : Int32) (z : Int32) (ls : Array Slot) (H : Heap) (locs : List Loc), i + n = 13 → (xk_rg (xk_c gc P A0 s0) x (u * (xk_c gc P A0 s0 s0).toInt64) v s0 n i y = xk_rg (xk_c gc P A0 s0) x (u * (xk_c gc P A0 s0 s0).toInt64) v s0 13 0 (xf_bi (nI s0))) → (xk_rb (xk_c gc P A0 s0) x (u * (xk_c gc P A0 s0 s0).toInt64) v s0 n i z = xk_rb (xk_c gc P A0 s0) x (u * (xk_c gc P A0 s0 s0).toInt64) v s0 13 0 (Bt s0)) → lv_has ls 13 [(0, .ref r0), (1, .ref b0), (2, .int x), (3, .int (nI s0)), (6, .long v), (8, .long (u * ((xk_c gc P A0 s0 s0).toInt64))), (10, .int (nI i))] → va_P D xn_cl [(r0, .inr (3, [.ref r1, .ref r2, .ref r3])), (r1, .inl (cI, 13, .inl (upd G s0 y))), (r2, .inl (cI, 13, .inl (upd Bt s0 z))), (r3, .inl (cI, 13, .inl C)), (b0, .inr (0, [.ref b1, .ref b2, .int (nI gc), .int (nI dc)])), (b1, .inl (cI, 78, .inl P)), (b2, .inl (cI, 78, .inl A0))] H → va_D A [(r0, .inr (3, [.ref r1, .ref r2, .ref r3])), (r1, .inl (cI, 13, .inl (upd G s0 y))), (r2, .inl (cI, 13, .inl (upd Bt s0 z))), (r3, .inl (cI, 13, .inl C)), (b0, .inr (0, [.ref b1, .ref b2, .int (nI gc), .int (nI dc)])), (b1, .inl (cI, 78, .inl P)), (b2, .inl (cI, 78, .inl A0))] → va_S A s.heap H locs → W p l e (xc_rm 2 0 0) s m args below meth c H locs 0 0 Q (F0 m 25 ls []) := by
    intro n
    induction n with
    | zero =>
      intro i y z ls H locs hi25 hg hbt hl hP hD hS
      refine lv_iload hx hb xj_R_readRow_25 (lv_at hl 6 rfl) ?_
      refine lv_bipush (v := nI 13) hx hb xj_R_readRow_27 (by decide) ?_
      refine xr_ge (tgt := 118) hx hb (by omega) (by omega) xj_R_readRow_29 rfl (fun h29 => ?_) (fun h29 => absurd h29 (by omega))
      obtain rfl : y = _ := hg
      obtain rfl : z = _ := hbt
      exact hret (()) H locs _ ls trivial hP hD hS xj_R_readRow_118
    | succ n ih25 =>
      intro i y z ls H locs hi25 hg hbt hl hP hD hS
      refine lv_iload hx hb xj_R_readRow_25 (lv_at hl 6 rfl) ?_
      refine lv_bipush (v := nI 13) hx hb xj_R_readRow_27 (by decide) ?_
      refine xr_ge (tgt := 118) hx hb (by omega) (by omega) xj_R_readRow_29 rfl (fun h29 => absurd h29 (by omega)) (fun h29 => ?_)
      refine lv_iload hx hb xj_R_readRow_32 (lv_at hl 6 rfl) ?_
      refine lv_iload_n hx hb xj_R_readRow_34 rfl (lv_at hl 3 rfl) ?_
      refine xr_eq (tgt := 112) hx hb (by omega) (by omega) xj_R_readRow_35 rfl (fun h35 => ?_) (fun h35 => ?_)
      · -- 112
        refine lv_iinc (k := 6) (v := nI (i + 1)) (lv' := [(10, .int (nI (i + 1))), (0, .ref r0), (1, .ref b0), (2, .int x), (3, .int (nI s0)), (6, .long v), (8, .long (u * ((xk_c gc P A0 s0 s0).toInt64)))]) hx hb xj_R_readRow_112 hl rfl (xr_inc _) (by decide) rfl (fun ls hl => ?_)
        refine lv_goto (tgt := 25) hx hb xj_R_readRow_115 rfl ?_
        exact ih25 (i + 1) y z ls _ _ (by omega) ((xk_rg_0 (Or.inl h35)).symm.trans hg) ((xk_rb_0 (Or.inl h35)).symm.trans hbt) (lv_sub hl [1, 2, 3, 4, 5, 6, 0] rfl) hP hD hS
      · -- 38
        refine lv_iload_n hx hb xj_R_readRow_38 rfl (lv_at hl 2 rfl) ?_
        refine lv_iload hx hb xj_R_readRow_39 (lv_at hl 6 rfl) ?_
        refine xc_callSN (av := [.int x, .int (nI i)]) (rest := []) hAt hT (xt_L_has l D cI cZ cJ x (nI i)) (List.mem_of_getElem? (i := 17) rfl) xw_1 xw_157 xw_156 (na := 2) rfl (by decide +kernel) ⟨Nat.le_of_ble_eq_true rfl, Nat.le_of_ble_eq_true rfl⟩ (hP.sub (ws' := []) [] rfl) hK hl.1 (Nat.le_of_ble_eq_true rfl) ⟨Nat.zero_le _, Nat.zero_le _⟩ xj_R_readRow_41 ?_
        refine xr_ifeq (tgt := 112) hx hb xj_R_readRow_44 rfl (fun h44 => ?_) (fun h44 => ?_)
        · -- 112
          refine lv_iinc (k := 6) (v := nI (i + 1)) (lv' := [(10, .int (nI (i + 1))), (0, .ref r0), (1, .ref b0), (2, .int x), (3, .int (nI s0)), (6, .long v), (8, .long (u * ((xk_c gc P A0 s0 s0).toInt64)))]) hx hb xj_R_readRow_112 hl rfl (xr_inc _) (by decide) rfl (fun ls hl => ?_)
          refine lv_goto (tgt := 25) hx hb xj_R_readRow_115 rfl ?_
          exact ih25 (i + 1) y z ls _ _ (by omega) ((xk_rg_0 (Or.inr h44)).symm.trans hg) ((xk_rb_0 (Or.inr h44)).symm.trans hbt) (lv_sub hl [1, 2, 3, 4, 5, 6, 0] rfl) hP hD hS
        · -- 47
          refine lv_lload hx hb xj_R_readRow_47 (lv_at hl 4 rfl) ?_
          refine lv_aload_n hx hb xj_R_readRow_49 rfl (lv_at hl 1 rfl) ?_
          refine lv_iload_n hx hb xj_R_readRow_50 rfl (lv_at hl 3 rfl) ?_
          refine lv_iload hx hb xj_R_readRow_51 (lv_at hl 6 rfl) ?_
          refine xc_callVN (av := [.int (nI s0), .int (nI i)]) (rest := [.long v]) hAt hT (xt_B_costOf l D cI cZ cJ b0 b1 b2 gc dc P A0 s0 i (by omega) (by omega) (by omega)) (List.mem_of_getElem? (i := 18) rfl) xw_2 xw_165 xw_164 xs_B_costOf (C0 := xn_B) (q0 := 0) rfl rfl (na := 2) rfl (by decide +kernel) ⟨Nat.le_of_ble_eq_true rfl, Nat.le_of_ble_eq_true rfl⟩ (hP.sub (ws' := [(b0, .inr (0, [.ref b1, .ref b2, .int (nI gc), .int (nI dc)])), (b1, .inl (cI, 78, .inl P)), (b2, .inl (cI, 78, .inl A0))]) [4, 5, 6] rfl) hK hl.1 (Nat.le_of_ble_eq_true rfl) ⟨Nat.zero_le _, Nat.zero_le _⟩ xj_R_readRow_53 ?_
          refine lv_i2l hx hb xj_R_readRow_56 rfl ?_
          refine lv_lmul hx hb xj_R_readRow_57 ?_
          refine lv_lstore (lv' := [(11, .long (v * ((xk_c gc P A0 s0 i).toInt64))), (0, .ref r0), (1, .ref b0), (2, .int x), (3, .int (nI s0)), (6, .long v), (8, .long (u * ((xk_c gc P A0 s0 s0).toInt64))), (10, .int (nI i))]) hx hb xj_R_readRow_58 hl (by decide) rfl (fun ls hl => ?_)
          refine lv_aload_n hx hb xj_R_readRow_60 rfl (lv_at hl 1 rfl) ?_
          refine va_get (D := D) (ci := 3) (v := .ref r1) (C := xn_R) (T := xn_TR) (N := 3) hx hb hgs xw_uR hown hK.1 hP 0 rfl rfl 0 (by decide) (hgs _ xw_52) (fun _ h9 => h9) rfl xj_R_readRow_61 ?_
          refine lv_iload_n hx hb xj_R_readRow_64 rfl (lv_at hl 4 rfl) ?_
          refine lv_dup2_11 hx hb xj_R_readRow_65 rfl rfl ?_
          refine xr_iald hx hb hK.1 hP 1 0 rfl rfl (by omega) (by decide) xj_R_readRow_66 ?_
          refine xr_top (y := y) pk_us ?_
          refine lv_lload hx hb xj_R_readRow_67 (lv_at hl 0 rfl) ?_
          refine lv_lload hx hb xj_R_readRow_69 (lv_at hl 6 rfl) ?_
          refine xr_lgt (tgt := 83) hx hb xj_R_readRow_71 xj_R_readRow_72 rfl (fun h72 => ?_) (fun h72 => ?_)
          · -- 83
            refine lv_iconst (v := nI 0) hx hb xj_R_readRow_83 (by decide) ?_
            refine lv_ior hx hb xj_R_readRow_84 ?_
            refine xr_iast hx hb hK.1 hP hD hS 1 0 rfl rfl (by omega) (by decide) xj_R_readRow_85 (fun H locs hP hD hS => ?_)
            rw [show upd (upd G s0 y) s0 (y ||| (nI 0)) = upd G s0 (y ||| (nI 0)) from xf_uu _ _ _ _] at hP hD
            have hP : va_P D xn_cl [(r0, .inr (3, [.ref r1, .ref r2, .ref r3])), (r1, .inl (cI, 13, .inl (upd G s0 (y ||| (nI 0))))), (r2, .inl (cI, 13, .inl (upd Bt s0 z))), (r3, .inl (cI, 13, .inl C)), (b0, .inr (0, [.ref b1, .ref b2, .int (nI gc), .int (nI dc)])), (b1, .inl (cI, 78, .inl P)), (b2, .inl (cI, 78, .inl A0))] H := hP
            have hD : va_D A [(r0, .inr (3, [.ref r1, .ref r2, .ref r3])), (r1, .inl (cI, 13, .inl (upd G s0 (y ||| (nI 0))))), (r2, .inl (cI, 13, .inl (upd Bt s0 z))), (r3, .inl (cI, 13, .inl C)), (b0, .inr (0, [.ref b1, .ref b2, .int (nI gc), .int (nI dc)])), (b1, .inl (cI, 78, .inl P)), (b2, .inl (cI, 78, .inl A0))] := hD
            refine lv_aload_n hx hb xj_R_readRow_86 rfl (lv_at hl 1 rfl) ?_
            refine va_get (D := D) (ci := 3) (v := .ref r2) (C := xn_R) (T := xn_TR) (N := 3) hx hb hgs xw_uR hown hK.1 hP 0 rfl rfl 1 (by decide) (hgs _ xw_54) (fun _ h9 => h9) rfl xj_R_readRow_87 ?_
            refine lv_iload_n hx hb xj_R_readRow_90 rfl (lv_at hl 4 rfl) ?_
            refine lv_dup2_11 hx hb xj_R_readRow_91 rfl rfl ?_
            refine xr_iald hx hb hK.1 hP 2 0 rfl rfl (by omega) (by decide) xj_R_readRow_92 ?_
            refine xr_top (y := z) pk_us ?_
            refine lv_lload hx hb xj_R_readRow_93 (lv_at hl 0 rfl) ?_
            refine lv_lload hx hb xj_R_readRow_95 (lv_at hl 6 rfl) ?_
            refine xr_lge (tgt := 109) hx hb xj_R_readRow_97 xj_R_readRow_98 rfl (fun h98 => ?_) (fun h98 => ?_)
            · -- 109
              refine lv_iconst (v := nI 0) hx hb xj_R_readRow_109 (by decide) ?_
              refine lv_ior hx hb xj_R_readRow_110 ?_
              refine xr_iast hx hb hK.1 hP hD hS 2 0 rfl rfl (by omega) (by decide) xj_R_readRow_111 (fun H locs hP hD hS => ?_)
              rw [show upd (upd Bt s0 z) s0 (z ||| (nI 0)) = upd Bt s0 (z ||| (nI 0)) from xf_uu _ _ _ _] at hP hD
              have hP : va_P D xn_cl [(r0, .inr (3, [.ref r1, .ref r2, .ref r3])), (r1, .inl (cI, 13, .inl (upd G s0 (y ||| (nI 0))))), (r2, .inl (cI, 13, .inl (upd Bt s0 (z ||| (nI 0))))), (r3, .inl (cI, 13, .inl C)), (b0, .inr (0, [.ref b1, .ref b2, .int (nI gc), .int (nI dc)])), (b1, .inl (cI, 78, .inl P)), (b2, .inl (cI, 78, .inl A0))] H := hP
              have hD : va_D A [(r0, .inr (3, [.ref r1, .ref r2, .ref r3])), (r1, .inl (cI, 13, .inl (upd G s0 (y ||| (nI 0))))), (r2, .inl (cI, 13, .inl (upd Bt s0 (z ||| (nI 0))))), (r3, .inl (cI, 13, .inl C)), (b0, .inr (0, [.ref b1, .ref b2, .int (nI gc), .int (nI dc)])), (b1, .inl (cI, 78, .inl P)), (b2, .inl (cI, 78, .inl A0))] := hD
              refine lv_iinc (k := 7) (v := nI (i + 1)) (lv' := [(10, .int (nI (i + 1))), (11, .long (v * ((xk_c gc P A0 s0 i).toInt64))), (0, .ref r0), (1, .ref b0), (2, .int x), (3, .int (nI s0)), (6, .long v), (8, .long (u * ((xk_c gc P A0 s0 s0).toInt64)))]) hx hb xj_R_readRow_112 hl rfl (xr_inc _) (by decide) rfl (fun ls hl => ?_)
              refine lv_goto (tgt := 25) hx hb xj_R_readRow_115 rfl ?_
              exact ih25 (i + 1) (y ||| (nI 0)) (z ||| (nI 0)) ls _ _ (by omega) ((xk_rg_2 h35 h44 h72).symm.trans hg) ((xk_rb_2 h35 h44 h98).symm.trans hbt) (lv_sub hl [2, 3, 4, 5, 6, 7, 0] rfl) hP hD hS
            · -- 101
              refine lv_iload hx hb xj_R_readRow_101 (lv_at hl 7 rfl) ?_
              refine xc_callSN (av := [.int (nI i)]) (rest := [.int z, .int (nI s0), .ref r2]) hAt hT (xt_L_bit l D cI cZ cJ (nI i)) (List.mem_of_getElem? (i := 19) rfl) xw_1 xw_149 xw_148 (na := 1) rfl (by decide +kernel) ⟨Nat.le_of_ble_eq_true rfl, Nat.le_of_ble_eq_true rfl⟩ (hP.sub (ws' := []) [] rfl) hK hl.1 (Nat.le_of_ble_eq_true rfl) ⟨Nat.zero_le _, Nat.zero_le _⟩ xj_R_readRow_103 ?_
              refine lv_goto (tgt := 110) hx hb xj_R_readRow_106 rfl ?_
              refine lv_ior hx hb xj_R_readRow_110 ?_
              refine xr_iast hx hb hK.1 hP hD hS 2 0 rfl rfl (by omega) (by decide) xj_R_readRow_111 (fun H locs hP hD hS => ?_)
              rw [show upd (upd Bt s0 z) s0 (z ||| (xf_bi (nI i))) = upd Bt s0 (z ||| (xf_bi (nI i))) from xf_uu _ _ _ _] at hP hD
              have hP : va_P D xn_cl [(r0, .inr (3, [.ref r1, .ref r2, .ref r3])), (r1, .inl (cI, 13, .inl (upd G s0 (y ||| (nI 0))))), (r2, .inl (cI, 13, .inl (upd Bt s0 (z ||| (xf_bi (nI i)))))), (r3, .inl (cI, 13, .inl C)), (b0, .inr (0, [.ref b1, .ref b2, .int (nI gc), .int (nI dc)])), (b1, .inl (cI, 78, .inl P)), (b2, .inl (cI, 78, .inl A0))] H := hP
              have hD : va_D A [(r0, .inr (3, [.ref r1, .ref r2, .ref r3])), (r1, .inl (cI, 13, .inl (upd G s0 (y ||| (nI 0))))), (r2, .inl (cI, 13, .inl (upd Bt s0 (z ||| (xf_bi (nI i)))))), (r3, .inl (cI, 13, .inl C)), (b0, .inr (0, [.ref b1, .ref b2, .int (nI gc), .int (nI dc)])), (b1, .inl (cI, 78, .inl P)), (b2, .inl (cI, 78, .inl A0))] := hD
              refine lv_iinc (k := 7) (v := nI (i + 1)) (lv' := [(10, .int (nI (i + 1))), (11, .long (v * ((xk_c gc P A0 s0 i).toInt64))), (0, .ref r0), (1, .ref b0), (2, .int x), (3, .int (nI s0)), (6, .long v), (8, .long (u * ((xk_c gc P A0 s0 s0).toInt64)))]) hx hb xj_R_readRow_112 hl rfl (xr_inc _) (by decide) rfl (fun ls hl => ?_)
              refine lv_goto (tgt := 25) hx hb xj_R_readRow_115 rfl ?_
              exact ih25 (i + 1) (y ||| (nI 0)) (z ||| (xf_bi (nI i))) ls _ _ (by omega) ((xk_rg_2 h35 h44 h72).symm.trans hg) ((xk_rb_1 h35 h44 h98).symm.trans hbt) (lv_sub hl [2, 3, 4, 5, 6, 7, 0] rfl) hP hD hS
          · -- 75
            refine lv_iload hx hb xj_R_readRow_75 (lv_at hl 7 rfl) ?_
            refine xc_callSN (av := [.int (nI i)]) (rest := [.int y, .int (nI s0), .ref r1]) hAt hT (xt_L_bit l D cI cZ cJ (nI i)) (List.mem_of_getElem? (i := 19) rfl) xw_1 xw_149 xw_148 (na := 1) rfl (by decide +kernel) ⟨Nat.le_of_ble_eq_true rfl, Nat.le_of_ble_eq_true rfl⟩ (hP.sub (ws' := []) [] rfl) hK hl.1 (Nat.le_of_ble_eq_true rfl) ⟨Nat.zero_le _, Nat.zero_le _⟩ xj_R_readRow_77 ?_
            refine lv_goto (tgt := 84) hx hb xj_R_readRow_80 rfl ?_
            refine lv_ior hx hb xj_R_readRow_84 ?_
            refine xr_iast hx hb hK.1 hP hD hS 1 0 rfl rfl (by omega) (by decide) xj_R_readRow_85 (fun H locs hP hD hS => ?_)
            rw [show upd (upd G s0 y) s0 (y ||| (xf_bi (nI i))) = upd G s0 (y ||| (xf_bi (nI i))) from xf_uu _ _ _ _] at hP hD
            have hP : va_P D xn_cl [(r0, .inr (3, [.ref r1, .ref r2, .ref r3])), (r1, .inl (cI, 13, .inl (upd G s0 (y ||| (xf_bi (nI i)))))), (r2, .inl (cI, 13, .inl (upd Bt s0 z))), (r3, .inl (cI, 13, .inl C)), (b0, .inr (0, [.ref b1, .ref b2, .int (nI gc), .int (nI dc)])), (b1, .inl (cI, 78, .inl P)), (b2, .inl (cI, 78, .inl A0))] H := hP
            have hD : va_D A [(r0, .inr (3, [.ref r1, .ref r2, .ref r3])), (r1, .inl (cI, 13, .inl (upd G s0 (y ||| (xf_bi (nI i)))))), (r2, .inl (cI, 13, .inl (upd Bt s0 z))), (r3, .inl (cI, 13, .inl C)), (b0, .inr (0, [.ref b1, .ref b2, .int (nI gc), .int (nI dc)])), (b1, .inl (cI, 78, .inl P)), (b2, .inl (cI, 78, .inl A0))] := hD
            refine lv_aload_n hx hb xj_R_readRow_86 rfl (lv_at hl 1 rfl) ?_
            refine va_get (D := D) (ci := 3) (v := .ref r2) (C := xn_R) (T := xn_TR) (N := 3) hx hb hgs xw_uR hown hK.1 hP 0 rfl rfl 1 (by decide) (hgs _ xw_54) (fun _ h9 => h9) rfl xj_R_readRow_87 ?_
            refine lv_iload_n hx hb xj_R_readRow_90 rfl (lv_at hl 4 rfl) ?_
            refine lv_dup2_11 hx hb xj_R_readRow_91 rfl rfl ?_
            refine xr_iald hx hb hK.1 hP 2 0 rfl rfl (by omega) (by decide) xj_R_readRow_92 ?_
            refine xr_top (y := z) pk_us ?_
            refine lv_lload hx hb xj_R_readRow_93 (lv_at hl 0 rfl) ?_
            refine lv_lload hx hb xj_R_readRow_95 (lv_at hl 6 rfl) ?_
            refine xr_lge (tgt := 109) hx hb xj_R_readRow_97 xj_R_readRow_98 rfl (fun h98 => ?_) (fun h98 => ?_)
            · -- 109
              refine lv_iconst (v := nI 0) hx hb xj_R_readRow_109 (by decide) ?_
              refine lv_ior hx hb xj_R_readRow_110 ?_
              refine xr_iast hx hb hK.1 hP hD hS 2 0 rfl rfl (by omega) (by decide) xj_R_readRow_111 (fun H locs hP hD hS => ?_)
              rw [show upd (upd Bt s0 z) s0 (z ||| (nI 0)) = upd Bt s0 (z ||| (nI 0)) from xf_uu _ _ _ _] at hP hD
              have hP : va_P D xn_cl [(r0, .inr (3, [.ref r1, .ref r2, .ref r3])), (r1, .inl (cI, 13, .inl (upd G s0 (y ||| (xf_bi (nI i)))))), (r2, .inl (cI, 13, .inl (upd Bt s0 (z ||| (nI 0))))), (r3, .inl (cI, 13, .inl C)), (b0, .inr (0, [.ref b1, .ref b2, .int (nI gc), .int (nI dc)])), (b1, .inl (cI, 78, .inl P)), (b2, .inl (cI, 78, .inl A0))] H := hP
              have hD : va_D A [(r0, .inr (3, [.ref r1, .ref r2, .ref r3])), (r1, .inl (cI, 13, .inl (upd G s0 (y ||| (xf_bi (nI i)))))), (r2, .inl (cI, 13, .inl (upd Bt s0 (z ||| (nI 0))))), (r3, .inl (cI, 13, .inl C)), (b0, .inr (0, [.ref b1, .ref b2, .int (nI gc), .int (nI dc)])), (b1, .inl (cI, 78, .inl P)), (b2, .inl (cI, 78, .inl A0))] := hD
              refine lv_iinc (k := 7) (v := nI (i + 1)) (lv' := [(10, .int (nI (i + 1))), (11, .long (v * ((xk_c gc P A0 s0 i).toInt64))), (0, .ref r0), (1, .ref b0), (2, .int x), (3, .int (nI s0)), (6, .long v), (8, .long (u * ((xk_c gc P A0 s0 s0).toInt64)))]) hx hb xj_R_readRow_112 hl rfl (xr_inc _) (by decide) rfl (fun ls hl => ?_)
              refine lv_goto (tgt := 25) hx hb xj_R_readRow_115 rfl ?_
              exact ih25 (i + 1) (y ||| (xf_bi (nI i))) (z ||| (nI 0)) ls _ _ (by omega) ((xk_rg_1 h35 h44 h72).symm.trans hg) ((xk_rb_2 h35 h44 h98).symm.trans hbt) (lv_sub hl [2, 3, 4, 5, 6, 7, 0] rfl) hP hD hS
            · -- 101
              refine lv_iload hx hb xj_R_readRow_101 (lv_at hl 7 rfl) ?_
              refine xc_callSN (av := [.int (nI i)]) (rest := [.int z, .int (nI s0), .ref r2]) hAt hT (xt_L_bit l D cI cZ cJ (nI i)) (List.mem_of_getElem? (i := 19) rfl) xw_1 xw_149 xw_148 (na := 1) rfl (by decide +kernel) ⟨Nat.le_of_ble_eq_true rfl, Nat.le_of_ble_eq_true rfl⟩ (hP.sub (ws' := []) [] rfl) hK hl.1 (Nat.le_of_ble_eq_true rfl) ⟨Nat.zero_le _, Nat.zero_le _⟩ xj_R_readRow_103 ?_
              refine lv_goto (tgt := 110) hx hb xj_R_readRow_106 rfl ?_
              refine lv_ior hx hb xj_R_readRow_110 ?_
              refine xr_iast hx hb hK.1 hP hD hS 2 0 rfl rfl (by omega) (by decide) xj_R_readRow_111 (fun H locs hP hD hS => ?_)
              rw [show upd (upd Bt s0 z) s0 (z ||| (xf_bi (nI i))) = upd Bt s0 (z ||| (xf_bi (nI i))) from xf_uu _ _ _ _] at hP hD
              have hP : va_P D xn_cl [(r0, .inr (3, [.ref r1, .ref r2, .ref r3])), (r1, .inl (cI, 13, .inl (upd G s0 (y ||| (xf_bi (nI i)))))), (r2, .inl (cI, 13, .inl (upd Bt s0 (z ||| (xf_bi (nI i)))))), (r3, .inl (cI, 13, .inl C)), (b0, .inr (0, [.ref b1, .ref b2, .int (nI gc), .int (nI dc)])), (b1, .inl (cI, 78, .inl P)), (b2, .inl (cI, 78, .inl A0))] H := hP
              have hD : va_D A [(r0, .inr (3, [.ref r1, .ref r2, .ref r3])), (r1, .inl (cI, 13, .inl (upd G s0 (y ||| (xf_bi (nI i)))))), (r2, .inl (cI, 13, .inl (upd Bt s0 (z ||| (xf_bi (nI i)))))), (r3, .inl (cI, 13, .inl C)), (b0, .inr (0, [.ref b1, .ref b2, .int (nI gc), .int (nI dc)])), (b1, .inl (cI, 78, .inl P)), (b2, .inl (cI, 78, .inl A0))] := hD
              refine lv_iinc (k := 7) (v := nI (i + 1)) (lv' := [(10, .int (nI (i + 1))), (11, .long (v * ((xk_c gc P A0 s0 i).toInt64))), (0, .ref r0), (1, .ref b0), (2, .int x), (3, .int (nI s0)), (6, .long v), (8, .long (u * ((xk_c gc P A0 s0 s0).toInt64)))]) hx hb xj_R_readRow_112 hl rfl (xr_inc _) (by decide) rfl (fun ls hl => ?_)
              refine lv_goto (tgt := 25) hx hb xj_R_readRow_115 rfl ?_
              exact ih25 (i + 1) (y ||| (xf_bi (nI i))) (z ||| (xf_bi (nI i))) ls _ _ (by omega) ((xk_rg_1 h35 h44 h72).symm.trans hg) ((xk_rb_1 h35 h44 h98).symm.trans hbt) (lv_sub hl [2, 3, 4, 5, 6, 7, 0] rfl) hP hD hS
  exact loop25 13 0 (xf_bi (nI s0)) (Bt s0) ls _ _ (by omega) rfl rfl (lv_sub hl [2, 3, 4, 5, 7, 1, 0] rfl) hP hD hS
set_option maxRecDepth 100000 in
set_option maxHeartbeats 4000000 in
theorem xt_R_read (l : Launch) (D : va_G) (cI cZ cJ : ClassId) (r0 r1 r2 r3 : Nat) (G Bt C : Nat → Int32) (b0 b1 b2 gc dc : Nat) (P A0 : Nat → Int32) (x u v : Int32) (hgc : gc ≤ 6) : xc_Wv l xy_R_read xb_R_read 6 3 0 0 [.ref r0, .ref b0, .int x, .int u, .int v] D cI cZ cJ [(r0, .inr (3, [.ref r1, .ref r2, .ref r3])), (r1, .inl (cI, 13, .inl G)), (r2, .inl (cI, 13, .inl Bt)), (r3, .inl (cI, 13, .inl C)), (b0, .inr (0, [.ref b1, .ref b2, .int (nI gc), .int (nI dc)])), (b1, .inl (cI, 78, .inl P)), (b2, .inl (cI, 78, .inl A0))] (Unit) (fun _ => True) (fun _ => [(r0, .inr (3, [.ref r1, .ref r2, .ref r3])), (r1, .inl (cI, 13, .inl (xf_fill (xk_rowG (xk_c gc P A0) x u.toInt64 v.toInt64) 13 0 G))), (r2, .inl (cI, 13, .inl (xf_fill (xk_rowB (xk_c gc P A0) x u.toInt64 v.toInt64) 13 0 Bt))), (r3, .inl (cI, 13, .inl C)), (b0, .inr (0, [.ref b1, .ref b2, .int (nI gc), .int (nI dc)])), (b1, .inl (cI, 78, .inl P)), (b2, .inl (cI, 78, .inl A0))]) := by
  refine xc_Wv_of (by decide) (Nat.le_of_ble_eq_true rfl) ?_
  intro p e s m args below meth c Q ls A hAt hin hP hK hD hA hS hl hret
  obtain ⟨hx, hb, hml, hown, hts, hgs, hlk⟩ := id hAt
  have hT : ∀ w ∈ xw_g, w ∈ xc_ws xy_R_read xb_R_read 6 (none) := fun w h => List.mem_cons_of_mem _ h
  have hown : s.vm.findClass "WishLedger$Relation" = some m.cls := hown
  obtain ⟨H, hH0⟩ : ∃ H, H = s.heap := ⟨_, rfl⟩
  obtain ⟨locs, hL0⟩ : ∃ locs : List Loc, locs = [] := ⟨_, rfl⟩
  have hP : va_P D xn_cl [(r0, .inr (3, [.ref r1, .ref r2, .ref r3])), (r1, .inl (cI, 13, .inl G)), (r2, .inl (cI, 13, .inl Bt)), (r3, .inl (cI, 13, .inl C)), (b0, .inr (0, [.ref b1, .ref b2, .int (nI gc), .int (nI dc)])), (b1, .inl (cI, 78, .inl P)), (b2, .inl (cI, 78, .inl A0))] H := by rw [hH0]; exact hP
  have hS : va_S A s.heap H locs := by rw [hH0, hL0]; exact hS
  suffices hgo : W p l e (xc_rm 3 0 0) s m args below meth c H locs 0 0 Q (F0 m 0 ls []) by rw [hH0, hL0] at hgo; exact hgo
  clear hH0 hL0
  have hl : lv_has ls 6 [(0, .ref r0), (1, .ref b0), (2, .int x), (3, .int u), (4, .int v)] := hl
  refine lv_iconst (v := nI 0) hx hb xj_R_read_0 (by decide) ?_
  refine lv_istore (lv' := [(5, .int (nI 0)), (0, .ref r0), (1, .ref b0), (2, .int x), (3, .int u), (4, .int v)]) hx hb xj_R_read_1 hl (by decide) rfl (fun ls hl => ?_)
  have loop3 : ∀ (n : Nat) (i : Nat) (G2 : Nat → Int32) (B2 : Nat → Int32) (ls : Array Slot) (H : Heap) (locs : List Loc), i + n = 13 → (xf_fill (xk_rowG (xk_c gc P A0) x u.toInt64 v.toInt64) n i G2 = xf_fill (xk_rowG (xk_c gc P A0) x u.toInt64 v.toInt64) 13 0 G) → (xf_fill (xk_rowB (xk_c gc P A0) x u.toInt64 v.toInt64) n i B2 = xf_fill (xk_rowB (xk_c gc P A0) x u.toInt64 v.toInt64) 13 0 Bt) → lv_has ls 6 [(0, .ref r0), (1, .ref b0), (2, .int x), (3, .int u), (4, .int v), (5, .int (nI i))] → va_P D xn_cl [(r0, .inr (3, [.ref r1, .ref r2, .ref r3])), (r1, .inl (cI, 13, .inl G2)), (r2, .inl (cI, 13, .inl B2)), (r3, .inl (cI, 13, .inl C)), (b0, .inr (0, [.ref b1, .ref b2, .int (nI gc), .int (nI dc)])), (b1, .inl (cI, 78, .inl P)), (b2, .inl (cI, 78, .inl A0))] H → va_D A [(r0, .inr (3, [.ref r1, .ref r2, .ref r3])), (r1, .inl (cI, 13, .inl G2)), (r2, .inl (cI, 13, .inl B2)), (r3, .inl (cI, 13, .inl C)), (b0, .inr (0, [.ref b1, .ref b2, .int (nI gc), .int (nI dc)])), (b1, .inl (cI, 78, .inl P)), (b2, .inl (cI, 78, .inl A0))] → va_S A s.heap H locs → W p l e (xc_rm 3 0 0) s m args below meth c H locs 0 0 Q (F0 m 3 ls []) := by
    intro n
    induction n with
    | zero =>
      intro i G2 B2 ls H locs hi3 hG hB hl hP hD hS
      refine lv_iload hx hb xj_R_read_3 (lv_at hl 5 rfl) ?_
      refine lv_bipush (v := nI 13) hx hb xj_R_read_5 (by decide) ?_
      refine xr_ge (tgt := 54) hx hb (by omega) (by omega) xj_R_read_7 rfl (fun h7 => ?_) (fun h7 => absurd h7 (by omega))
      obtain rfl : G2 = _ := hG
      obtain rfl : B2 = _ := hB
      exact hret (()) H locs _ ls trivial hP hD hS xj_R_read_54
    | succ n ih3 =>
      intro i G2 B2 ls H locs hi3 hG hB hl hP hD hS
      refine lv_iload hx hb xj_R_read_3 (lv_at hl 5 rfl) ?_
      refine lv_bipush (v := nI 13) hx hb xj_R_read_5 (by decide) ?_
      refine xr_ge (tgt := 54) hx hb (by omega) (by omega) xj_R_read_7 rfl (fun h7 => absurd h7 (by omega)) (fun h7 => ?_)
      refine lv_aload_n hx hb xj_R_read_10 rfl (lv_at hl 0 rfl) ?_
      refine va_get (D := D) (ci := 3) (v := .ref r1) (C := xn_R) (T := xn_TR) (N := 3) hx hb hgs xw_uR hown hK.1 hP 0 rfl rfl 0 (by decide) (hgs _ xw_52) (fun _ h9 => h9) rfl xj_R_read_11 ?_
      refine lv_iload hx hb xj_R_read_14 (lv_at hl 5 rfl) ?_
      refine lv_iconst (v := nI 0) hx hb xj_R_read_16 (by decide) ?_
      refine xr_iast hx hb hK.1 hP hD hS 1 0 rfl rfl (by omega) (by decide) xj_R_read_17 (fun H locs hP hD hS => ?_)
      have hP : va_P D xn_cl [(r0, .inr (3, [.ref r1, .ref r2, .ref r3])), (r1, .inl (cI, 13, .inl (upd G2 i (nI 0)))), (r2, .inl (cI, 13, .inl B2)), (r3, .inl (cI, 13, .inl C)), (b0, .inr (0, [.ref b1, .ref b2, .int (nI gc), .int (nI dc)])), (b1, .inl (cI, 78, .inl P)), (b2, .inl (cI, 78, .inl A0))] H := hP
      have hD : va_D A [(r0, .inr (3, [.ref r1, .ref r2, .ref r3])), (r1, .inl (cI, 13, .inl (upd G2 i (nI 0)))), (r2, .inl (cI, 13, .inl B2)), (r3, .inl (cI, 13, .inl C)), (b0, .inr (0, [.ref b1, .ref b2, .int (nI gc), .int (nI dc)])), (b1, .inl (cI, 78, .inl P)), (b2, .inl (cI, 78, .inl A0))] := hD
      refine lv_aload_n hx hb xj_R_read_18 rfl (lv_at hl 0 rfl) ?_
      refine va_get (D := D) (ci := 3) (v := .ref r2) (C := xn_R) (T := xn_TR) (N := 3) hx hb hgs xw_uR hown hK.1 hP 0 rfl rfl 1 (by decide) (hgs _ xw_54) (fun _ h9 => h9) rfl xj_R_read_19 ?_
      refine lv_iload hx hb xj_R_read_22 (lv_at hl 5 rfl) ?_
      refine lv_iconst (v := nI 0) hx hb xj_R_read_24 (by decide) ?_
      refine xr_iast hx hb hK.1 hP hD hS 2 0 rfl rfl (by omega) (by decide) xj_R_read_25 (fun H locs hP hD hS => ?_)
      have hP : va_P D xn_cl [(r0, .inr (3, [.ref r1, .ref r2, .ref r3])), (r1, .inl (cI, 13, .inl (upd G2 i (nI 0)))), (r2, .inl (cI, 13, .inl (upd B2 i (nI 0)))), (r3, .inl (cI, 13, .inl C)), (b0, .inr (0, [.ref b1, .ref b2, .int (nI gc), .int (nI dc)])), (b1, .inl (cI, 78, .inl P)), (b2, .inl (cI, 78, .inl A0))] H := hP
      have hD : va_D A [(r0, .inr (3, [.ref r1, .ref r2, .ref r3])), (r1, .inl (cI, 13, .inl (upd G2 i (nI 0)))), (r2, .inl (cI, 13, .inl (upd B2 i (nI 0)))), (r3, .inl (cI, 13, .inl C)), (b0, .inr (0, [.ref b1, .ref b2, .int (nI gc), .int (nI dc)])), (b1, .inl (cI, 78, .inl P)), (b2, .inl (cI, 78, .inl A0))] := hD
      refine lv_iload_n hx hb xj_R_read_26 rfl (lv_at hl 2 rfl) ?_
      refine lv_iload hx hb xj_R_read_27 (lv_at hl 5 rfl) ?_
      refine xc_callSN (av := [.int x, .int (nI i)]) (rest := []) hAt hT (xt_L_has l D cI cZ cJ x (nI i)) (List.mem_of_getElem? (i := 17) rfl) xw_1 xw_157 xw_156 (na := 2) rfl (by decide +kernel) ⟨Nat.le_of_ble_eq_true rfl, Nat.le_of_ble_eq_true rfl⟩ (hP.sub (ws' := []) [] rfl) hK hl.1 (Nat.le_of_ble_eq_true rfl) ⟨Nat.zero_le _, Nat.zero_le _⟩ xj_R_read_29 ?_
      refine xr_ifeq (tgt := 48) hx hb xj_R_read_32 rfl (fun h32 => ?_) (fun h32 => ?_)
      · -- 48
        refine lv_iinc (k := 5) (v := nI (i + 1)) (lv' := [(5, .int (nI (i + 1))), (0, .ref r0), (1, .ref b0), (2, .int x), (3, .int u), (4, .int v)]) hx hb xj_R_read_48 hl rfl (xr_inc _) (by decide) rfl (fun ls hl => ?_)
        refine lv_goto (tgt := 3) hx hb xj_R_read_51 rfl ?_
        exact ih3 (i + 1) (upd G2 i (nI 0)) (upd B2 i (nI 0)) ls _ _ (by omega) ((xf_fill_s (xk_rowG_f h32)).symm.trans hG) ((xf_fill_s (xk_rowB_f h32)).symm.trans hB) (lv_sub hl [1, 2, 3, 4, 5, 0] rfl) hP hD hS
      · -- 35
        refine lv_aload_n hx hb xj_R_read_35 rfl (lv_at hl 0 rfl) ?_
        refine lv_aload_n hx hb xj_R_read_36 rfl (lv_at hl 1 rfl) ?_
        refine lv_iload_n hx hb xj_R_read_37 rfl (lv_at hl 2 rfl) ?_
        refine lv_iload hx hb xj_R_read_38 (lv_at hl 5 rfl) ?_
        refine lv_iload_n hx hb xj_R_read_40 rfl (lv_at hl 3 rfl) ?_
        refine lv_i2l hx hb xj_R_read_41 rfl ?_
        refine lv_iload hx hb xj_R_read_42 (lv_at hl 4 rfl) ?_
        refine lv_i2l hx hb xj_R_read_44 rfl ?_
        refine xc_wVv (av := [.ref b0, .int x, .int (nI i), .long u.toInt64, .long v.toInt64]) (rest := []) (wr := []) hAt hT (xt_R_readRow l D cI cZ cJ r0 r1 r2 r3 (upd G2 i (nI 0)) (upd B2 i (nI 0)) C b0 b1 b2 gc dc P A0 x i u.toInt64 v.toInt64 (by omega) (by omega)) xw_158 xw_3 xw_161 xw_160 xs_R_readRow (C0 := xn_R) (q0 := 0) rfl rfl (na := 5) rfl (by decide +kernel) ⟨Nat.le_of_ble_eq_true rfl, Nat.le_of_ble_eq_true rfl⟩ hP hD hS hA [0, 1, 2, 3, 4, 5, 6] [] rfl rfl (by decide) (by decide) (by decide) hK hl.1 (Nat.le_of_ble_eq_true rfl) ⟨Nat.zero_le _, Nat.zero_le _⟩ xj_R_read_45 (fun _ H locs _ hP hD hS => ?_)
        have hP : va_P D xn_cl [(r0, .inr (3, [.ref r1, .ref r2, .ref r3])), (r1, .inl (cI, 13, .inl (upd (upd G2 i (nI 0)) i (xk_rg (xk_c gc P A0 i) x (u.toInt64 * (xk_c gc P A0 i i).toInt64) v.toInt64 i 13 0 (xf_bi (nI i)))))), (r2, .inl (cI, 13, .inl (upd (upd B2 i (nI 0)) i (xk_rb (xk_c gc P A0 i) x (u.toInt64 * (xk_c gc P A0 i i).toInt64) v.toInt64 i 13 0 ((upd B2 i (nI 0)) i))))), (r3, .inl (cI, 13, .inl C)), (b0, .inr (0, [.ref b1, .ref b2, .int (nI gc), .int (nI dc)])), (b1, .inl (cI, 78, .inl P)), (b2, .inl (cI, 78, .inl A0))] H := hP
        have hD : va_D A [(r0, .inr (3, [.ref r1, .ref r2, .ref r3])), (r1, .inl (cI, 13, .inl (upd (upd G2 i (nI 0)) i (xk_rg (xk_c gc P A0 i) x (u.toInt64 * (xk_c gc P A0 i i).toInt64) v.toInt64 i 13 0 (xf_bi (nI i)))))), (r2, .inl (cI, 13, .inl (upd (upd B2 i (nI 0)) i (xk_rb (xk_c gc P A0 i) x (u.toInt64 * (xk_c gc P A0 i i).toInt64) v.toInt64 i 13 0 ((upd B2 i (nI 0)) i))))), (r3, .inl (cI, 13, .inl C)), (b0, .inr (0, [.ref b1, .ref b2, .int (nI gc), .int (nI dc)])), (b1, .inl (cI, 78, .inl P)), (b2, .inl (cI, 78, .inl A0))] := hD
        rw [xf_uu, xf_uu, pk_us] at hP hD
        have hP : va_P D xn_cl [(r0, .inr (3, [.ref r1, .ref r2, .ref r3])), (r1, .inl (cI, 13, .inl (upd G2 i (xk_rg (xk_c gc P A0 i) x (u.toInt64 * (xk_c gc P A0 i i).toInt64) v.toInt64 i 13 0 (xf_bi (nI i)))))), (r2, .inl (cI, 13, .inl (upd B2 i (xk_rb (xk_c gc P A0 i) x (u.toInt64 * (xk_c gc P A0 i i).toInt64) v.toInt64 i 13 0 (nI 0))))), (r3, .inl (cI, 13, .inl C)), (b0, .inr (0, [.ref b1, .ref b2, .int (nI gc), .int (nI dc)])), (b1, .inl (cI, 78, .inl P)), (b2, .inl (cI, 78, .inl A0))] H := hP
        have hD : va_D A [(r0, .inr (3, [.ref r1, .ref r2, .ref r3])), (r1, .inl (cI, 13, .inl (upd G2 i (xk_rg (xk_c gc P A0 i) x (u.toInt64 * (xk_c gc P A0 i i).toInt64) v.toInt64 i 13 0 (xf_bi (nI i)))))), (r2, .inl (cI, 13, .inl (upd B2 i (xk_rb (xk_c gc P A0 i) x (u.toInt64 * (xk_c gc P A0 i i).toInt64) v.toInt64 i 13 0 (nI 0))))), (r3, .inl (cI, 13, .inl C)), (b0, .inr (0, [.ref b1, .ref b2, .int (nI gc), .int (nI dc)])), (b1, .inl (cI, 78, .inl P)), (b2, .inl (cI, 78, .inl A0))] := hD
        refine lv_iinc (k := 5) (v := nI (i + 1)) (lv' := [(5, .int (nI (i + 1))), (0, .ref r0), (1, .ref b0), (2, .int x), (3, .int u), (4, .int v)]) hx hb xj_R_read_48 hl rfl (xr_inc _) (by decide) rfl (fun ls hl => ?_)
        refine lv_goto (tgt := 3) hx hb xj_R_read_51 rfl ?_
        exact ih3 (i + 1) (upd G2 i (xk_rg (xk_c gc P A0 i) x (u.toInt64 * (xk_c gc P A0 i i).toInt64) v.toInt64 i 13 0 (xf_bi (nI i)))) (upd B2 i (xk_rb (xk_c gc P A0 i) x (u.toInt64 * (xk_c gc P A0 i i).toInt64) v.toInt64 i 13 0 (nI 0))) ls _ _ (by omega) ((xf_fill_s (xk_rowG_t h32)).symm.trans hG) ((xf_fill_s (xk_rowB_t h32)).symm.trans hB) (lv_sub hl [1, 2, 3, 4, 5, 0] rfl) hP hD hS
  exact loop3 13 0 G Bt ls _ _ (by omega) rfl rfl (lv_sub hl [1, 2, 3, 4, 5, 0] rfl) hP hD hS
set_option maxRecDepth 100000 in
set_option maxHeartbeats 4000000 in
theorem xt_R_linkWithin (l : Launch) (D : va_G) (cI cZ cJ : ClassId) (r0 r1 r2 r3 : Nat) (G Bt C : Nat → Int32) (x : Int32) : xc_Wv l xy_R_linkWithin xb_R_linkWithin 4 2 0 0 [.ref r0, .int x] D cI cZ cJ [(r0, .inr (3, [.ref r1, .ref r2, .ref r3])), (r1, .inl (cI, 13, .inl G)), (r2, .inl (cI, 13, .inl Bt)), (r3, .inl (cI, 13, .inl C))] (Unit) (fun _ => True) (fun _ => [(r0, .inr (3, [.ref r1, .ref r2, .ref r3])), (r1, .inl (cI, 13, .inl G)), (r2, .inl (cI, 13, .inl Bt)), (r3, .inl (cI, 13, .inl (xk_link G x C)))]) := by
  refine xc_Wv_of (by decide) (Nat.le_of_ble_eq_true rfl) ?_
  intro p e s m args below meth c Q ls A hAt hin hP hK hD hA hS hl hret
  obtain ⟨hx, hb, hml, hown, hts, hgs, hlk⟩ := id hAt
  have hT : ∀ w ∈ xw_g, w ∈ xc_ws xy_R_linkWithin xb_R_linkWithin 4 (none) := fun w h => List.mem_cons_of_mem _ h
  have hown : s.vm.findClass "WishLedger$Relation" = some m.cls := hown
  obtain ⟨H, hH0⟩ : ∃ H, H = s.heap := ⟨_, rfl⟩
  obtain ⟨locs, hL0⟩ : ∃ locs : List Loc, locs = [] := ⟨_, rfl⟩
  have hP : va_P D xn_cl [(r0, .inr (3, [.ref r1, .ref r2, .ref r3])), (r1, .inl (cI, 13, .inl G)), (r2, .inl (cI, 13, .inl Bt)), (r3, .inl (cI, 13, .inl C))] H := by rw [hH0]; exact hP
  have hS : va_S A s.heap H locs := by rw [hH0, hL0]; exact hS
  suffices hgo : W p l e (xc_rm 2 0 0) s m args below meth c H locs 0 0 Q (F0 m 0 ls []) by rw [hH0, hL0] at hgo; exact hgo
  clear hH0 hL0
  have hl : lv_has ls 4 [(0, .ref r0), (1, .int x)] := hl
  refine lv_iconst (v := nI 0) hx hb xj_R_linkWithin_0 (by decide) ?_
  refine lv_istore_n (lv' := [(2, .int (nI 0)), (0, .ref r0), (1, .int x)]) hx hb xj_R_linkWithin_1 rfl hl (by decide) rfl (fun ls hl => ?_)
  have loop2 : ∀ (n : Nat) (i : Nat) (C1 : Nat → Int32) (ls : Array Slot) (H : Heap) (locs : List Loc), i + n = 13 → (xf_fill (xk_l0 G x) n i C1 = xf_fill (xk_l0 G x) 13 0 C) → lv_has ls 4 [(0, .ref r0), (1, .int x), (2, .int (nI i))] → va_P D xn_cl [(r0, .inr (3, [.ref r1, .ref r2, .ref r3])), (r1, .inl (cI, 13, .inl G)), (r2, .inl (cI, 13, .inl Bt)), (r3, .inl (cI, 13, .inl C1))] H → va_D A [(r0, .inr (3, [.ref r1, .ref r2, .ref r3])), (r1, .inl (cI, 13, .inl G)), (r2, .inl (cI, 13, .inl Bt)), (r3, .inl (cI, 13, .inl C1))] → va_S A s.heap H locs → W p l e (xc_rm 2 0 0) s m args below meth c H locs 0 0 Q (F0 m 2 ls []) := by
    intro n
    induction n with
    | zero =>
      intro i C1 ls H locs hi2 hc hl hP hD hS
      refine lv_iload_n hx hb xj_R_linkWithin_2 rfl (lv_at hl 2 rfl) ?_
      refine lv_bipush (v := nI 13) hx hb xj_R_linkWithin_3 (by decide) ?_
      refine xr_ge (tgt := 40) hx hb (by omega) (by omega) xj_R_linkWithin_5 rfl (fun h5 => ?_) (fun h5 => absurd h5 (by omega))
      refine lv_iconst (v := nI 0) hx hb xj_R_linkWithin_40 (by decide) ?_
      refine lv_istore_n (lv' := [(2, .int (nI 0)), (0, .ref r0), (1, .int x)]) hx hb xj_R_linkWithin_41 rfl hl (by decide) rfl (fun ls hl => ?_)
      have loop42 : ∀ (n2 : Nat) (i2 : Nat) (C2 : Nat → Int32) (ls : Array Slot) (H : Heap) (locs : List Loc), i2 + n2 = 13 → (xk_l1 n2 i2 C2 = xk_link G x C) → lv_has ls 4 [(0, .ref r0), (2, .int (nI i2))] → va_P D xn_cl [(r0, .inr (3, [.ref r1, .ref r2, .ref r3])), (r1, .inl (cI, 13, .inl G)), (r2, .inl (cI, 13, .inl Bt)), (r3, .inl (cI, 13, .inl C2))] H → va_D A [(r0, .inr (3, [.ref r1, .ref r2, .ref r3])), (r1, .inl (cI, 13, .inl G)), (r2, .inl (cI, 13, .inl Bt)), (r3, .inl (cI, 13, .inl C2))] → va_S A s.heap H locs → W p l e (xc_rm 2 0 0) s m args below meth c H locs 0 0 Q (F0 m 42 ls []) := by
        intro n2
        induction n2 with
        | zero =>
          intro i2 C2 ls H locs hi42 hr hl hP hD hS
          refine lv_iload_n hx hb xj_R_linkWithin_42 rfl (lv_at hl 1 rfl) ?_
          refine lv_bipush (v := nI 13) hx hb xj_R_linkWithin_43 (by decide) ?_
          refine xr_ge (tgt := 96) hx hb (by omega) (by omega) xj_R_linkWithin_45 rfl (fun h45 => ?_) (fun h45 => absurd h45 (by omega))
          obtain rfl : C2 = _ := hr
          exact hret (()) H locs _ ls trivial hP hD hS xj_R_linkWithin_96
        | succ n2 ih42 =>
          intro i2 C2 ls H locs hi42 hr hl hP hD hS
          refine lv_iload_n hx hb xj_R_linkWithin_42 rfl (lv_at hl 1 rfl) ?_
          refine lv_bipush (v := nI 13) hx hb xj_R_linkWithin_43 (by decide) ?_
          refine xr_ge (tgt := 96) hx hb (by omega) (by omega) xj_R_linkWithin_45 rfl (fun h45 => absurd h45 (by omega)) (fun h45 => ?_)
          refine lv_iconst (v := nI 0) hx hb xj_R_linkWithin_48 (by decide) ?_
          refine lv_istore_n (lv' := [(3, .int (nI 0)), (0, .ref r0), (2, .int (nI i2))]) hx hb xj_R_linkWithin_49 rfl hl (by decide) rfl (fun ls hl => ?_)
          have loop50 : ∀ (k : Nat) (j : Nat) (C3 : Nat → Int32) (ls : Array Slot) (H : Heap) (locs : List Loc), j + k = 13 → (xk_l2 i2 k j C3 = xk_l2 i2 13 0 C2) → lv_has ls 4 [(0, .ref r0), (2, .int (nI i2)), (3, .int (nI j))] → va_P D xn_cl [(r0, .inr (3, [.ref r1, .ref r2, .ref r3])), (r1, .inl (cI, 13, .inl G)), (r2, .inl (cI, 13, .inl Bt)), (r3, .inl (cI, 13, .inl C3))] H → va_D A [(r0, .inr (3, [.ref r1, .ref r2, .ref r3])), (r1, .inl (cI, 13, .inl G)), (r2, .inl (cI, 13, .inl Bt)), (r3, .inl (cI, 13, .inl C3))] → va_S A s.heap H locs → W p l e (xc_rm 2 0 0) s m args below meth c H locs 0 0 Q (F0 m 50 ls []) := by
            intro k
            induction k with
            | zero =>
              intro j C3 ls H locs hi50 hq hl hP hD hS
              refine lv_iload_n hx hb xj_R_linkWithin_50 rfl (lv_at hl 2 rfl) ?_
              refine lv_bipush (v := nI 13) hx hb xj_R_linkWithin_51 (by decide) ?_
              refine xr_ge (tgt := 90) hx hb (by omega) (by omega) xj_R_linkWithin_53 rfl (fun h53 => ?_) (fun h53 => absurd h53 (by omega))
              refine lv_iinc (k := 1) (v := nI (i2 + 1)) (lv' := [(2, .int (nI (i2 + 1))), (0, .ref r0), (3, .int (nI j))]) hx hb xj_R_linkWithin_90 hl rfl (xr_inc _) (by decide) rfl (fun ls hl => ?_)
              refine lv_goto (tgt := 42) hx hb xj_R_linkWithin_93 rfl ?_
              exact ih42 (i2 + 1) C3 ls _ _ (by omega) (by rw [show C3 = _ from hq]; exact hr) (lv_sub hl [1, 0] rfl) hP hD hS
            | succ k ih50 =>
              intro j C3 ls H locs hi50 hq hl hP hD hS
              refine lv_iload_n hx hb xj_R_linkWithin_50 rfl (lv_at hl 2 rfl) ?_
              refine lv_bipush (v := nI 13) hx hb xj_R_linkWithin_51 (by decide) ?_
              refine xr_ge (tgt := 90) hx hb (by omega) (by omega) xj_R_linkWithin_53 rfl (fun h53 => absurd h53 (by omega)) (fun h53 => ?_)
              refine lv_aload_n hx hb xj_R_linkWithin_56 rfl (lv_at hl 0 rfl) ?_
              refine va_get (D := D) (ci := 3) (v := .ref r3) (C := xn_R) (T := xn_TR) (N := 3) hx hb hgs xw_uR hown hK.1 hP 0 rfl rfl 2 (by decide) (hgs _ xw_56) (fun _ h9 => h9) rfl xj_R_linkWithin_57 ?_
              refine lv_iload_n hx hb xj_R_linkWithin_60 rfl (lv_at hl 2 rfl) ?_
              refine xr_iald hx hb hK.1 hP 3 0 rfl rfl (by omega) (by decide) xj_R_linkWithin_61 ?_
              refine lv_iload_n hx hb xj_R_linkWithin_62 rfl (lv_at hl 1 rfl) ?_
              refine xc_callSN (av := [.int (C3 j), .int (nI i2)]) (rest := []) hAt hT (xt_L_has l D cI cZ cJ (C3 j) (nI i2)) (List.mem_of_getElem? (i := 17) rfl) xw_1 xw_157 xw_156 (na := 2) rfl (by decide +kernel) ⟨Nat.le_of_ble_eq_true rfl, Nat.le_of_ble_eq_true rfl⟩ (hP.sub (ws' := []) [] rfl) hK hl.1 (Nat.le_of_ble_eq_true rfl) ⟨Nat.zero_le _, Nat.zero_le _⟩ xj_R_linkWithin_63 ?_
              refine xr_ifeq (tgt := 84) hx hb xj_R_linkWithin_66 rfl (fun h66 => ?_) (fun h66 => ?_)
              · -- 84
                refine lv_iinc (k := 2) (v := nI (j + 1)) (lv' := [(3, .int (nI (j + 1))), (0, .ref r0), (2, .int (nI i2))]) hx hb xj_R_linkWithin_84 hl rfl (xr_inc _) (by decide) rfl (fun ls hl => ?_)
                refine lv_goto (tgt := 50) hx hb xj_R_linkWithin_87 rfl ?_
                exact ih50 (j + 1) C3 ls _ _ (by omega) ((xk_l2_0 h66).symm.trans hq) (lv_sub hl [1, 2, 0] rfl) hP hD hS
              · -- 69
                refine lv_aload_n hx hb xj_R_linkWithin_69 rfl (lv_at hl 0 rfl) ?_
                refine va_get (D := D) (ci := 3) (v := .ref r3) (C := xn_R) (T := xn_TR) (N := 3) hx hb hgs xw_uR hown hK.1 hP 0 rfl rfl 2 (by decide) (hgs _ xw_56) (fun _ h9 => h9) rfl xj_R_linkWithin_70 ?_
                refine lv_iload_n hx hb xj_R_linkWithin_73 rfl (lv_at hl 2 rfl) ?_
                refine lv_dup2_11 hx hb xj_R_linkWithin_74 rfl rfl ?_
                refine xr_iald hx hb hK.1 hP 3 0 rfl rfl (by omega) (by decide) xj_R_linkWithin_75 ?_
                refine lv_aload_n hx hb xj_R_linkWithin_76 rfl (lv_at hl 0 rfl) ?_
                refine va_get (D := D) (ci := 3) (v := .ref r3) (C := xn_R) (T := xn_TR) (N := 3) hx hb hgs xw_uR hown hK.1 hP 0 rfl rfl 2 (by decide) (hgs _ xw_56) (fun _ h9 => h9) rfl xj_R_linkWithin_77 ?_
                refine lv_iload_n hx hb xj_R_linkWithin_80 rfl (lv_at hl 1 rfl) ?_
                refine xr_iald hx hb hK.1 hP 3 0 rfl rfl (by omega) (by decide) xj_R_linkWithin_81 ?_
                refine lv_ior hx hb xj_R_linkWithin_82 ?_
                refine xr_iast hx hb hK.1 hP hD hS 3 0 rfl rfl (by omega) (by decide) xj_R_linkWithin_83 (fun H locs hP hD hS => ?_)
                have hP : va_P D xn_cl [(r0, .inr (3, [.ref r1, .ref r2, .ref r3])), (r1, .inl (cI, 13, .inl G)), (r2, .inl (cI, 13, .inl Bt)), (r3, .inl (cI, 13, .inl (upd C3 j ((C3 j) ||| (C3 i2)))))] H := hP
                have hD : va_D A [(r0, .inr (3, [.ref r1, .ref r2, .ref r3])), (r1, .inl (cI, 13, .inl G)), (r2, .inl (cI, 13, .inl Bt)), (r3, .inl (cI, 13, .inl (upd C3 j ((C3 j) ||| (C3 i2)))))] := hD
                refine lv_iinc (k := 2) (v := nI (j + 1)) (lv' := [(3, .int (nI (j + 1))), (0, .ref r0), (2, .int (nI i2))]) hx hb xj_R_linkWithin_84 hl rfl (xr_inc _) (by decide) rfl (fun ls hl => ?_)
                refine lv_goto (tgt := 50) hx hb xj_R_linkWithin_87 rfl ?_
                exact ih50 (j + 1) (upd C3 j ((C3 j) ||| (C3 i2))) ls _ _ (by omega) ((xk_l2_1 h66).symm.trans hq) (lv_sub hl [1, 2, 0] rfl) hP hD hS
          exact loop50 13 0 C2 ls _ _ (by omega) rfl (lv_sub hl [1, 2, 0] rfl) hP hD hS
      exact loop42 13 0 C1 ls _ _ (by omega) (by rw [show C1 = _ from hc]; rfl) (lv_sub hl [1, 0] rfl) hP hD hS
    | succ n ih2 =>
      intro i C1 ls H locs hi2 hc hl hP hD hS
      refine lv_iload_n hx hb xj_R_linkWithin_2 rfl (lv_at hl 2 rfl) ?_
      refine lv_bipush (v := nI 13) hx hb xj_R_linkWithin_3 (by decide) ?_
      refine xr_ge (tgt := 40) hx hb (by omega) (by omega) xj_R_linkWithin_5 rfl (fun h5 => absurd h5 (by omega)) (fun h5 => ?_)
      refine lv_aload_n hx hb xj_R_linkWithin_8 rfl (lv_at hl 0 rfl) ?_
      refine va_get (D := D) (ci := 3) (v := .ref r3) (C := xn_R) (T := xn_TR) (N := 3) hx hb hgs xw_uR hown hK.1 hP 0 rfl rfl 2 (by decide) (hgs _ xw_56) (fun _ h9 => h9) rfl xj_R_linkWithin_9 ?_
      refine lv_iload_n hx hb xj_R_linkWithin_12 rfl (lv_at hl 2 rfl) ?_
      refine lv_iload_n hx hb xj_R_linkWithin_13 rfl (lv_at hl 1 rfl) ?_
      refine lv_iload_n hx hb xj_R_linkWithin_14 rfl (lv_at hl 2 rfl) ?_
      refine xc_callSN (av := [.int x, .int (nI i)]) (rest := [.int (nI i), .ref r3]) hAt hT (xt_L_has l D cI cZ cJ x (nI i)) (List.mem_of_getElem? (i := 17) rfl) xw_1 xw_157 xw_156 (na := 2) rfl (by decide +kernel) ⟨Nat.le_of_ble_eq_true rfl, Nat.le_of_ble_eq_true rfl⟩ (hP.sub (ws' := []) [] rfl) hK hl.1 (Nat.le_of_ble_eq_true rfl) ⟨Nat.zero_le _, Nat.zero_le _⟩ xj_R_linkWithin_15 ?_
      refine xr_ifeq (tgt := 32) hx hb xj_R_linkWithin_18 rfl (fun h18 => ?_) (fun h18 => ?_)
      · -- 32
        refine lv_iconst (v := nI 0) hx hb xj_R_linkWithin_32 (by decide) ?_
        refine xr_iast hx hb hK.1 hP hD hS 3 0 rfl rfl (by omega) (by decide) xj_R_linkWithin_33 (fun H locs hP hD hS => ?_)
        have hP : va_P D xn_cl [(r0, .inr (3, [.ref r1, .ref r2, .ref r3])), (r1, .inl (cI, 13, .inl G)), (r2, .inl (cI, 13, .inl Bt)), (r3, .inl (cI, 13, .inl (upd C1 i (nI 0))))] H := hP
        have hD : va_D A [(r0, .inr (3, [.ref r1, .ref r2, .ref r3])), (r1, .inl (cI, 13, .inl G)), (r2, .inl (cI, 13, .inl Bt)), (r3, .inl (cI, 13, .inl (upd C1 i (nI 0))))] := hD
        refine lv_iinc (k := 2) (v := nI (i + 1)) (lv' := [(2, .int (nI (i + 1))), (0, .ref r0), (1, .int x)]) hx hb xj_R_linkWithin_34 hl rfl (xr_inc _) (by decide) rfl (fun ls hl => ?_)
        refine lv_goto (tgt := 2) hx hb xj_R_linkWithin_37 rfl ?_
        exact ih2 (i + 1) (upd C1 i (nI 0)) ls _ _ (by omega) ((xf_fill_s (xk_l0_f h18)).symm.trans hc) (lv_sub hl [1, 2, 0] rfl) hP hD hS
      · -- 21
        refine lv_aload_n hx hb xj_R_linkWithin_21 rfl (lv_at hl 0 rfl) ?_
        refine va_get (D := D) (ci := 3) (v := .ref r1) (C := xn_R) (T := xn_TR) (N := 3) hx hb hgs xw_uR hown hK.1 hP 0 rfl rfl 0 (by decide) (hgs _ xw_52) (fun _ h9 => h9) rfl xj_R_linkWithin_22 ?_
        refine lv_iload_n hx hb xj_R_linkWithin_25 rfl (lv_at hl 2 rfl) ?_
        refine xr_iald hx hb hK.1 hP 1 0 rfl rfl (by omega) (by decide) xj_R_linkWithin_26 ?_
        refine lv_iload_n hx hb xj_R_linkWithin_27 rfl (lv_at hl 1 rfl) ?_
        refine lv_iand hx hb xj_R_linkWithin_28 ?_
        refine lv_goto (tgt := 33) hx hb xj_R_linkWithin_29 rfl ?_
        refine xr_iast hx hb hK.1 hP hD hS 3 0 rfl rfl (by omega) (by decide) xj_R_linkWithin_33 (fun H locs hP hD hS => ?_)
        have hP : va_P D xn_cl [(r0, .inr (3, [.ref r1, .ref r2, .ref r3])), (r1, .inl (cI, 13, .inl G)), (r2, .inl (cI, 13, .inl Bt)), (r3, .inl (cI, 13, .inl (upd C1 i ((G i) &&& x))))] H := hP
        have hD : va_D A [(r0, .inr (3, [.ref r1, .ref r2, .ref r3])), (r1, .inl (cI, 13, .inl G)), (r2, .inl (cI, 13, .inl Bt)), (r3, .inl (cI, 13, .inl (upd C1 i ((G i) &&& x))))] := hD
        refine lv_iinc (k := 2) (v := nI (i + 1)) (lv' := [(2, .int (nI (i + 1))), (0, .ref r0), (1, .int x)]) hx hb xj_R_linkWithin_34 hl rfl (xr_inc _) (by decide) rfl (fun ls hl => ?_)
        refine lv_goto (tgt := 2) hx hb xj_R_linkWithin_37 rfl ?_
        exact ih2 (i + 1) (upd C1 i ((G i) &&& x)) ls _ _ (by omega) ((xf_fill_s (xk_l0_t h18)).symm.trans hc) (lv_sub hl [1, 2, 0] rfl) hP hD hS
  exact loop2 13 0 C ls _ _ (by omega) rfl (lv_sub hl [1, 2, 0] rfl) hP hD hS
set_option maxRecDepth 100000 in
set_option maxHeartbeats 4000000 in
theorem xt_R_isSensibleWithin (l : Launch) (D : va_G) (cI cZ cJ : ClassId) (r0 r1 r2 r3 : Nat) (G Bt C : Nat → Int32) (x : Int32) : xc_Wi l xy_R_isSensibleWithin xb_R_isSensibleWithin 4 .boolean 3 0 0 [.ref r0, .int x] D cI cZ cJ [(r0, .inr (3, [.ref r1, .ref r2, .ref r3])), (r1, .inl (cI, 13, .inl G)), (r2, .inl (cI, 13, .inl Bt)), (r3, .inl (cI, 13, .inl C))] (Unit) (fun r _ => r = xf_bI (!xk_bad (xk_link G x C) Bt)) (fun _ => [(r0, .inr (3, [.ref r1, .ref r2, .ref r3])), (r1, .inl (cI, 13, .inl G)), (r2, .inl (cI, 13, .inl Bt)), (r3, .inl (cI, 13, .inl (xk_link G x C)))]) := by
  refine xc_Wi_of (by decide) (Nat.le_of_ble_eq_true rfl) ?_
  intro p e s m args below meth c Q ls A hAt hP hK hD hA hS hl hret
  obtain ⟨hx, hb, hml, hown, hts, hgs, hlk⟩ := id hAt
  have hT : ∀ w ∈ xw_g, w ∈ xc_ws xy_R_isSensibleWithin xb_R_isSensibleWithin 4 (some .boolean) := fun w h => List.mem_cons_of_mem _ h
  have hown : s.vm.findClass "WishLedger$Relation" = some m.cls := hown
  obtain ⟨H, hH0⟩ : ∃ H, H = s.heap := ⟨_, rfl⟩
  obtain ⟨locs, hL0⟩ : ∃ locs : List Loc, locs = [] := ⟨_, rfl⟩
  have hP : va_P D xn_cl [(r0, .inr (3, [.ref r1, .ref r2, .ref r3])), (r1, .inl (cI, 13, .inl G)), (r2, .inl (cI, 13, .inl Bt)), (r3, .inl (cI, 13, .inl C))] H := by rw [hH0]; exact hP
  have hS : va_S A s.heap H locs := by rw [hH0, hL0]; exact hS
  suffices hgo : W p l e (xc_rm 3 0 0) s m args below meth c H locs 0 0 Q (F0 m 0 ls []) by rw [hH0, hL0] at hgo; exact hgo
  clear hH0 hL0
  have hl : lv_has ls 4 [(0, .ref r0), (1, .int x)] := hl
  refine lv_aload_n hx hb xj_R_isSensibleWithin_0 rfl (lv_at hl 0 rfl) ?_
  refine lv_iload_n hx hb xj_R_isSensibleWithin_1 rfl (lv_at hl 1 rfl) ?_
  refine xc_wVv (av := [.int x]) (rest := []) (wr := []) hAt hT (xt_R_linkWithin l D cI cZ cJ r0 r1 r2 r3 G Bt C x) xw_171 xw_3 xw_174 xw_173 xs_R_linkWithin (C0 := xn_R) (q0 := 0) rfl rfl (na := 1) rfl (by decide +kernel) ⟨Nat.le_of_ble_eq_true rfl, Nat.le_of_ble_eq_true rfl⟩ hP hD hS hA [0, 1, 2, 3] [] rfl rfl (by decide) (by decide) (by decide) hK hl.1 (Nat.le_of_ble_eq_true rfl) ⟨Nat.zero_le _, Nat.zero_le _⟩ xj_R_isSensibleWithin_2 (fun _ H locs _ hP hD hS => ?_)
  have hP : va_P D xn_cl [(r0, .inr (3, [.ref r1, .ref r2, .ref r3])), (r1, .inl (cI, 13, .inl G)), (r2, .inl (cI, 13, .inl Bt)), (r3, .inl (cI, 13, .inl (xk_link G x C)))] H := hP
  have hD : va_D A [(r0, .inr (3, [.ref r1, .ref r2, .ref r3])), (r1, .inl (cI, 13, .inl G)), (r2, .inl (cI, 13, .inl Bt)), (r3, .inl (cI, 13, .inl (xk_link G x C)))] := hD
  refine lv_iconst (v := nI 0) hx hb xj_R_isSensibleWithin_5 (by decide) ?_
  refine lv_istore_n (lv' := [(2, .int (nI 0)), (0, .ref r0), (1, .int x)]) hx hb xj_R_isSensibleWithin_6 rfl hl (by decide) rfl (fun ls hl => ?_)
  have loop7 : ∀ (n : Nat) (i : Nat) (ls : Array Slot) (H : Heap) (locs : List Loc), i + n = 13 → (xf_ex (fun s => xf_ex (fun t => xf_hs ((xk_link G x C) s) (nI t) && xf_hs (Bt t) (nI s)) 13 0) n i = xk_bad (xk_link G x C) Bt) → lv_has ls 4 [(0, .ref r0), (2, .int (nI i))] → va_P D xn_cl [(r0, .inr (3, [.ref r1, .ref r2, .ref r3])), (r1, .inl (cI, 13, .inl G)), (r2, .inl (cI, 13, .inl Bt)), (r3, .inl (cI, 13, .inl (xk_link G x C)))] H → va_D A [(r0, .inr (3, [.ref r1, .ref r2, .ref r3])), (r1, .inl (cI, 13, .inl G)), (r2, .inl (cI, 13, .inl Bt)), (r3, .inl (cI, 13, .inl (xk_link G x C)))] → va_S A s.heap H locs → W p l e (xc_rm 3 0 0) s m args below meth c H locs 0 0 Q (F0 m 7 ls []) := by
    intro n
    induction n with
    | zero =>
      intro i ls H locs hi7 hr hl hP hD hS
      refine lv_iload_n hx hb xj_R_isSensibleWithin_7 rfl (lv_at hl 1 rfl) ?_
      refine lv_bipush (v := nI 13) hx hb xj_R_isSensibleWithin_8 (by decide) ?_
      refine xr_ge (tgt := 61) hx hb (by omega) (by omega) xj_R_isSensibleWithin_10 rfl (fun h10 => ?_) (fun h10 => absurd h10 (by omega))
      refine lv_iconst (v := nI 1) hx hb xj_R_isSensibleWithin_61 (by decide) ?_
      exact hret (nI 1) (()) H locs _ ls (by rw [show xk_bad (xk_link G x C) Bt = false from hr.symm]; rfl) rfl hP hD hS xj_R_isSensibleWithin_62
    | succ n ih7 =>
      intro i ls H locs hi7 hr hl hP hD hS
      refine lv_iload_n hx hb xj_R_isSensibleWithin_7 rfl (lv_at hl 1 rfl) ?_
      refine lv_bipush (v := nI 13) hx hb xj_R_isSensibleWithin_8 (by decide) ?_
      refine xr_ge (tgt := 61) hx hb (by omega) (by omega) xj_R_isSensibleWithin_10 rfl (fun h10 => absurd h10 (by omega)) (fun h10 => ?_)
      refine lv_iconst (v := nI 0) hx hb xj_R_isSensibleWithin_13 (by decide) ?_
      refine lv_istore_n (lv' := [(3, .int (nI 0)), (0, .ref r0), (2, .int (nI i))]) hx hb xj_R_isSensibleWithin_14 rfl hl (by decide) rfl (fun ls hl => ?_)
      have loop15 : ∀ (k : Nat) (j : Nat) (ls : Array Slot) (H : Heap) (locs : List Loc), j + k = 13 → (xf_ex (fun t => xf_hs ((xk_link G x C) i) (nI t) && xf_hs (Bt t) (nI i)) k j = xf_ex (fun t => xf_hs ((xk_link G x C) i) (nI t) && xf_hs (Bt t) (nI i)) 13 0) → lv_has ls 4 [(0, .ref r0), (2, .int (nI i)), (3, .int (nI j))] → va_P D xn_cl [(r0, .inr (3, [.ref r1, .ref r2, .ref r3])), (r1, .inl (cI, 13, .inl G)), (r2, .inl (cI, 13, .inl Bt)), (r3, .inl (cI, 13, .inl (xk_link G x C)))] H → va_D A [(r0, .inr (3, [.ref r1, .ref r2, .ref r3])), (r1, .inl (cI, 13, .inl G)), (r2, .inl (cI, 13, .inl Bt)), (r3, .inl (cI, 13, .inl (xk_link G x C)))] → va_S A s.heap H locs → W p l e (xc_rm 3 0 0) s m args below meth c H locs 0 0 Q (F0 m 15 ls []) := by
        intro k
        induction k with
        | zero =>
          intro j ls H locs hi15 hq hl hP hD hS
          refine lv_iload_n hx hb xj_R_isSensibleWithin_15 rfl (lv_at hl 2 rfl) ?_
          refine lv_bipush (v := nI 13) hx hb xj_R_isSensibleWithin_16 (by decide) ?_
          refine xr_ge (tgt := 55) hx hb (by omega) (by omega) xj_R_isSensibleWithin_18 rfl (fun h18 => ?_) (fun h18 => absurd h18 (by omega))
          refine lv_iinc (k := 1) (v := nI (i + 1)) (lv' := [(2, .int (nI (i + 1))), (0, .ref r0), (3, .int (nI j))]) hx hb xj_R_isSensibleWithin_55 hl rfl (xr_inc _) (by decide) rfl (fun ls hl => ?_)
          refine lv_goto (tgt := 7) hx hb xj_R_isSensibleWithin_58 rfl ?_
          exact ih7 (i + 1) ls _ _ (by omega) ((xf_ex_f (P := (fun s => xf_ex (fun t => xf_hs ((xk_link G x C) s) (nI t) && xf_hs (Bt t) (nI s)) 13 0)) hq.symm).symm.trans hr) (lv_sub hl [1, 0] rfl) hP hD hS
        | succ k ih15 =>
          intro j ls H locs hi15 hq hl hP hD hS
          refine lv_iload_n hx hb xj_R_isSensibleWithin_15 rfl (lv_at hl 2 rfl) ?_
          refine lv_bipush (v := nI 13) hx hb xj_R_isSensibleWithin_16 (by decide) ?_
          refine xr_ge (tgt := 55) hx hb (by omega) (by omega) xj_R_isSensibleWithin_18 rfl (fun h18 => absurd h18 (by omega)) (fun h18 => ?_)
          refine lv_aload_n hx hb xj_R_isSensibleWithin_21 rfl (lv_at hl 0 rfl) ?_
          refine va_get (D := D) (ci := 3) (v := .ref r3) (C := xn_R) (T := xn_TR) (N := 3) hx hb hgs xw_uR hown hK.1 hP 0 rfl rfl 2 (by decide) (hgs _ xw_56) (fun _ h9 => h9) rfl xj_R_isSensibleWithin_22 ?_
          refine lv_iload_n hx hb xj_R_isSensibleWithin_25 rfl (lv_at hl 1 rfl) ?_
          refine xr_iald hx hb hK.1 hP 3 0 rfl rfl (by omega) (by decide) xj_R_isSensibleWithin_26 ?_
          refine lv_iload_n hx hb xj_R_isSensibleWithin_27 rfl (lv_at hl 2 rfl) ?_
          refine xc_callSN (av := [.int ((xk_link G x C) i), .int (nI j)]) (rest := []) hAt hT (xt_L_has l D cI cZ cJ ((xk_link G x C) i) (nI j)) (List.mem_of_getElem? (i := 17) rfl) xw_1 xw_157 xw_156 (na := 2) rfl (by decide +kernel) ⟨Nat.le_of_ble_eq_true rfl, Nat.le_of_ble_eq_true rfl⟩ (hP.sub (ws' := []) [] rfl) hK hl.1 (Nat.le_of_ble_eq_true rfl) ⟨Nat.zero_le _, Nat.zero_le _⟩ xj_R_isSensibleWithin_28 ?_
          refine xr_ifeq (tgt := 49) hx hb xj_R_isSensibleWithin_31 rfl (fun h31 => ?_) (fun h31 => ?_)
          · -- 49
            refine lv_iinc (k := 2) (v := nI (j + 1)) (lv' := [(3, .int (nI (j + 1))), (0, .ref r0), (2, .int (nI i))]) hx hb xj_R_isSensibleWithin_49 hl rfl (xr_inc _) (by decide) rfl (fun ls hl => ?_)
            refine lv_goto (tgt := 15) hx hb xj_R_isSensibleWithin_52 rfl ?_
            exact ih15 (j + 1) ls _ _ (by omega) ((xf_ex_f (P := (fun t => xf_hs ((xk_link G x C) i) (nI t) && xf_hs (Bt t) (nI i))) (by simp only [h31, Bool.true_and, Bool.false_and, Bool.and_true, Bool.and_false, Bool.not_true, Bool.not_false])).symm.trans hq) (lv_sub hl [1, 2, 0] rfl) hP hD hS
          · -- 34
            refine lv_aload_n hx hb xj_R_isSensibleWithin_34 rfl (lv_at hl 0 rfl) ?_
            refine va_get (D := D) (ci := 3) (v := .ref r2) (C := xn_R) (T := xn_TR) (N := 3) hx hb hgs xw_uR hown hK.1 hP 0 rfl rfl 1 (by decide) (hgs _ xw_54) (fun _ h9 => h9) rfl xj_R_isSensibleWithin_35 ?_
            refine lv_iload_n hx hb xj_R_isSensibleWithin_38 rfl (lv_at hl 2 rfl) ?_
            refine xr_iald hx hb hK.1 hP 2 0 rfl rfl (by omega) (by decide) xj_R_isSensibleWithin_39 ?_
            refine lv_iload_n hx hb xj_R_isSensibleWithin_40 rfl (lv_at hl 1 rfl) ?_
            refine xc_callSN (av := [.int (Bt j), .int (nI i)]) (rest := []) hAt hT (xt_L_has l D cI cZ cJ (Bt j) (nI i)) (List.mem_of_getElem? (i := 17) rfl) xw_1 xw_157 xw_156 (na := 2) rfl (by decide +kernel) ⟨Nat.le_of_ble_eq_true rfl, Nat.le_of_ble_eq_true rfl⟩ (hP.sub (ws' := []) [] rfl) hK hl.1 (Nat.le_of_ble_eq_true rfl) ⟨Nat.zero_le _, Nat.zero_le _⟩ xj_R_isSensibleWithin_41 ?_
            refine xr_ifeq (tgt := 49) hx hb xj_R_isSensibleWithin_44 rfl (fun h44 => ?_) (fun h44 => ?_)
            · -- 49
              refine lv_iinc (k := 2) (v := nI (j + 1)) (lv' := [(3, .int (nI (j + 1))), (0, .ref r0), (2, .int (nI i))]) hx hb xj_R_isSensibleWithin_49 hl rfl (xr_inc _) (by decide) rfl (fun ls hl => ?_)
              refine lv_goto (tgt := 15) hx hb xj_R_isSensibleWithin_52 rfl ?_
              exact ih15 (j + 1) ls _ _ (by omega) ((xf_ex_f (P := (fun t => xf_hs ((xk_link G x C) i) (nI t) && xf_hs (Bt t) (nI i))) (by simp only [h31, h44, Bool.true_and, Bool.false_and, Bool.and_true, Bool.and_false, Bool.not_true, Bool.not_false])).symm.trans hq) (lv_sub hl [1, 2, 0] rfl) hP hD hS
            · -- 47
              refine lv_iconst (v := nI 0) hx hb xj_R_isSensibleWithin_47 (by decide) ?_
              exact hret (nI 0) (()) H locs _ ls (by rw [show xk_bad (xk_link G x C) Bt = true from ((xf_ex_t (P := (fun s => xf_ex (fun t => xf_hs ((xk_link G x C) s) (nI t) && xf_hs (Bt t) (nI s)) 13 0)) ((xf_ex_t (P := (fun t => xf_hs ((xk_link G x C) i) (nI t) && xf_hs (Bt t) (nI i))) (by simp only [h31, h44, Bool.true_and, Bool.false_and, Bool.and_true, Bool.and_false, Bool.not_true, Bool.not_false])).symm.trans hq).symm).symm.trans hr).symm]; rfl) rfl hP hD hS xj_R_isSensibleWithin_48
      exact loop15 13 0 ls _ _ (by omega) rfl (lv_sub hl [1, 2, 0] rfl) hP hD hS
  exact loop7 13 0 ls _ _ (by omega) rfl (lv_sub hl [1, 0] rfl) hP hD hS
