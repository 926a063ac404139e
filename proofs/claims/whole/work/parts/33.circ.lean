/-! walks: CircleFinder -/
set_option maxRecDepth 100000 in
set_option maxHeartbeats 4000000 in
theorem xt_C_nextWithBetter (l : Launch) (D : va_G) (cI cZ cJ : ClassId) (c0 c1 c2 c3 : Nat) (Hm Hb Ls : Nat → Int32) (r0 r1 r2 r3 : Nat) (G Bt C : Nat → Int32) (s0 n0 : Nat) (hs : s0 < 13) (hn : n0 < 13) : xc_R l xy_C_nextWithBetter xb_C_nextWithBetter 4 .int 0 [.ref c0, .ref r0, .int (nI s0), .int (nI n0)] D cI cZ cJ [(c0, .inr (1, [.ref c1, .ref c2, .ref c3])), (c1, .inl (cI, 13, .inl Hm)), (c2, .inl (cI, 13, .inl Hb)), (c3, .inl (cI, 12, .inl Ls)), (r0, .inr (3, [.ref r1, .ref r2, .ref r3])), (r1, .inl (cI, 13, .inl G)), (r2, .inl (cI, 13, .inl Bt)), (r3, .inl (cI, 13, .inl C))] (G s0 &&& Hb n0 ||| Bt s0 &&& Hm n0) := by
  refine xc_R_of (by decide) (Nat.le_of_ble_eq_true rfl) rfl ?_
  intro p e s m args below meth c Q ls hAt hP hK hl hret
  obtain ⟨hx, hb, hml, hown, hts, hgs, hlk⟩ := id hAt
  have hT : ∀ w ∈ xw_g, w ∈ xc_ws xy_C_nextWithBetter xb_C_nextWithBetter 4 (some .int) := fun w h => List.mem_cons_of_mem _ h
  have hown : s.vm.findClass "WishLedger$CircleFinder" = some m.cls := hown
  have hl : lv_has ls 4 [(0, .ref c0), (1, .ref r0), (2, .int (nI s0)), (3, .int (nI n0))] := hl
  refine lv_aload_n hx hb xj_C_nextWithBetter_0 rfl (lv_at hl 1 rfl) ?_
  refine va_getN (D := D) (ci := 3) (v := .ref r1) (C := xn_R) (T := xn_TR) (N := 3) hx hb hgs xw_uR hown hK.1 hP 4 rfl rfl 0 (by decide) (va_Nw.use rfl (hK.2 _ (List.mem_of_getElem? (i := 5) rfl))) (fun _ h9 => h9) rfl xj_C_nextWithBetter_1 ?_
  refine lv_iload_n hx hb xj_C_nextWithBetter_4 rfl (lv_at hl 2 rfl) ?_
  refine xr_iald hx hb hK.1 hP 5 0 rfl rfl (by omega) (by decide) xj_C_nextWithBetter_5 ?_
  refine lv_aload_n hx hb xj_C_nextWithBetter_6 rfl (lv_at hl 0 rfl) ?_
  refine va_get (D := D) (ci := 1) (v := .ref c2) (C := xn_C) (T := xn_TC) (N := 3) hx hb hgs xw_uC hown hK.1 hP 0 rfl rfl 1 (by decide) (hgs _ xw_71) (fun _ h9 => h9) rfl xj_C_nextWithBetter_7 ?_
  refine lv_iload_n hx hb xj_C_nextWithBetter_10 rfl (lv_at hl 3 rfl) ?_
  refine xr_iald hx hb hK.1 hP 2 0 rfl rfl (by omega) (by decide) xj_C_nextWithBetter_11 ?_
  refine lv_iand hx hb xj_C_nextWithBetter_12 ?_
  refine lv_aload_n hx hb xj_C_nextWithBetter_13 rfl (lv_at hl 1 rfl) ?_
  refine va_getN (D := D) (ci := 3) (v := .ref r2) (C := xn_R) (T := xn_TR) (N := 3) hx hb hgs xw_uR hown hK.1 hP 4 rfl rfl 1 (by decide) (va_Nw.use rfl (hK.2 _ (List.mem_of_getElem? (i := 6) rfl))) (fun _ h9 => h9) rfl xj_C_nextWithBetter_14 ?_
  refine lv_iload_n hx hb xj_C_nextWithBetter_17 rfl (lv_at hl 2 rfl) ?_
  refine xr_iald hx hb hK.1 hP 6 0 rfl rfl (by omega) (by decide) xj_C_nextWithBetter_18 ?_
  refine lv_aload_n hx hb xj_C_nextWithBetter_19 rfl (lv_at hl 0 rfl) ?_
  refine va_get (D := D) (ci := 1) (v := .ref c1) (C := xn_C) (T := xn_TC) (N := 3) hx hb hgs xw_uC hown hK.1 hP 0 rfl rfl 0 (by decide) (hgs _ xw_70) (fun _ h9 => h9) rfl xj_C_nextWithBetter_20 ?_
  refine lv_iload_n hx hb xj_C_nextWithBetter_23 rfl (lv_at hl 3 rfl) ?_
  refine xr_iald hx hb hK.1 hP 1 0 rfl rfl (by omega) (by decide) xj_C_nextWithBetter_24 ?_
  refine lv_iand hx hb xj_C_nextWithBetter_25 ?_
  refine lv_ior hx hb xj_C_nextWithBetter_26 ?_
  exact xr_top rfl (hret _ _ xj_C_nextWithBetter_27)
set_option maxRecDepth 100000 in
set_option maxHeartbeats 4000000 in
theorem xt_C_lookHome (l : Launch) (D : va_G) (cI cZ cJ : ClassId) (c0 c1 c2 c3 : Nat) (Hm Hb Ls : Nat → Int32) (r0 r1 r2 r3 : Nat) (G Bt C : Nat → Int32) (z0 : Nat) : xc_Wv l xy_C_lookHome xb_C_lookHome 5 1 0 0 [.ref c0, .ref r0, .int (nI z0)] D cI cZ cJ [(c0, .inr (1, [.ref c1, .ref c2, .ref c3])), (c1, .inl (cI, 13, .inl Hm)), (c2, .inl (cI, 13, .inl Hb)), (c3, .inl (cI, 12, .inl Ls)), (r0, .inr (3, [.ref r1, .ref r2, .ref r3])), (r1, .inl (cI, 13, .inl G)), (r2, .inl (cI, 13, .inl Bt)), (r3, .inl (cI, 13, .inl C))] ((Nat → Int32) × (Nat → Int32)) (fun u => xk_hm G Bt z0 13 u.1 u.2) (fun u => [(c0, .inr (1, [.ref c1, .ref c2, .ref c3])), (c1, .inl (cI, 13, .inl u.1)), (c2, .inl (cI, 13, .inl u.2)), (c3, .inl (cI, 12, .inl Ls)), (r0, .inr (3, [.ref r1, .ref r2, .ref r3])), (r1, .inl (cI, 13, .inl G)), (r2, .inl (cI, 13, .inl Bt)), (r3, .inl (cI, 13, .inl C))]) := by
  refine xc_Wv_of (by decide) (Nat.le_of_ble_eq_true rfl) ?_
  intro p e s m args below meth c Q ls A hAt hin hP hK hD hA hS hl hret
  obtain ⟨hx, hb, hml, hown, hts, hgs, hlk⟩ := id hAt
  have hT : ∀ w ∈ xw_g, w ∈ xc_ws xy_C_lookHome xb_C_lookHome 5 (none) := fun w h => List.mem_cons_of_mem _ h
  have hown : s.vm.findClass "WishLedger$CircleFinder" = some m.cls := hown
  obtain ⟨H, hH0⟩ : ∃ H, H = s.heap := ⟨_, rfl⟩
  obtain ⟨locs, hL0⟩ : ∃ locs : List Loc, locs = [] := ⟨_, rfl⟩
  have hP : va_P D xn_cl [(c0, .inr (1, [.ref c1, .ref c2, .ref c3])), (c1, .inl (cI, 13, .inl Hm)), (c2, .inl (cI, 13, .inl Hb)), (c3, .inl (cI, 12, .inl Ls)), (r0, .inr (3, [.ref r1, .ref r2, .ref r3])), (r1, .inl (cI, 13, .inl G)), (r2, .inl (cI, 13, .inl Bt)), (r3, .inl (cI, 13, .inl C))] H := by rw [hH0]; exact hP
  have hS : va_S A s.heap H locs := by rw [hH0, hL0]; exact hS
  suffices hgo : W p l e (xc_rm 1 0 0) s m args below meth c H locs 0 0 Q (F0 m 0 ls []) by rw [hH0, hL0] at hgo; exact hgo
  clear hH0 hL0
  have hl : lv_has ls 5 [(0, .ref c0), (1, .ref r0), (2, .int (nI z0))] := hl
  refine lv_aload_n hx hb xj_C_lookHome_0 rfl (lv_at hl 0 rfl) ?_
  refine va_get (D := D) (ci := 1) (v := .ref c1) (C := xn_C) (T := xn_TC) (N := 3) hx hb hgs xw_uC hown hK.1 hP 0 rfl rfl 0 (by decide) (hgs _ xw_70) (fun _ h9 => h9) rfl xj_C_lookHome_1 ?_
  refine lv_iconst (v := nI 0) hx hb xj_C_lookHome_4 (by decide) ?_
  refine lv_iload_n hx hb xj_C_lookHome_5 rfl (lv_at hl 2 rfl) ?_
  refine xc_callSN (av := [.int (nI z0)]) (rest := [.int (nI 0), .ref c1]) hAt hT (xt_L_bit l D cI cZ cJ (nI z0)) (List.mem_of_getElem? (i := 29) rfl) xw_1 xw_149 xw_148 (na := 1) rfl (by decide +kernel) ⟨Nat.le_of_ble_eq_true rfl, Nat.le_of_ble_eq_true rfl⟩ (hP.sub (ws' := []) [] rfl) hK hl.1 (Nat.le_of_ble_eq_true rfl) ⟨Nat.zero_le _, Nat.zero_le _⟩ xj_C_lookHome_6 ?_
  refine xr_iast hx hb hK.1 hP hD hS 1 0 rfl rfl (by omega) (by decide) xj_C_lookHome_9 (fun H locs hP hD hS => ?_)
  have hP : va_P D xn_cl [(c0, .inr (1, [.ref c1, .ref c2, .ref c3])), (c1, .inl (cI, 13, .inl (upd Hm 0 (xf_bi (nI z0))))), (c2, .inl (cI, 13, .inl Hb)), (c3, .inl (cI, 12, .inl Ls)), (r0, .inr (3, [.ref r1, .ref r2, .ref r3])), (r1, .inl (cI, 13, .inl G)), (r2, .inl (cI, 13, .inl Bt)), (r3, .inl (cI, 13, .inl C))] H := hP
  have hD : va_D A [(c0, .inr (1, [.ref c1, .ref c2, .ref c3])), (c1, .inl (cI, 13, .inl (upd Hm 0 (xf_bi (nI z0))))), (c2, .inl (cI, 13, .inl Hb)), (c3, .inl (cI, 12, .inl Ls)), (r0, .inr (3, [.ref r1, .ref r2, .ref r3])), (r1, .inl (cI, 13, .inl G)), (r2, .inl (cI, 13, .inl Bt)), (r3, .inl (cI, 13, .inl C))] := hD
  refine lv_aload_n hx hb xj_C_lookHome_10 rfl (lv_at hl 0 rfl) ?_
  refine va_get (D := D) (ci := 1) (v := .ref c2) (C := xn_C) (T := xn_TC) (N := 3) hx hb hgs xw_uC hown hK.1 hP 0 rfl rfl 1 (by decide) (hgs _ xw_71) (fun _ h9 => h9) rfl xj_C_lookHome_11 ?_
  refine lv_iconst (v := nI 0) hx hb xj_C_lookHome_14 (by decide) ?_
  refine lv_iconst (v := nI 0) hx hb xj_C_lookHome_15 (by decide) ?_
  refine xr_iast hx hb hK.1 hP hD hS 2 0 rfl rfl (by omega) (by decide) xj_C_lookHome_16 (fun H locs hP hD hS => ?_)
  have hP : va_P D xn_cl [(c0, .inr (1, [.ref c1, .ref c2, .ref c3])), (c1, .inl (cI, 13, .inl (upd Hm 0 (xf_bi (nI z0))))), (c2, .inl (cI, 13, .inl (upd Hb 0 (nI 0)))), (c3, .inl (cI, 12, .inl Ls)), (r0, .inr (3, [.ref r1, .ref r2, .ref r3])), (r1, .inl (cI, 13, .inl G)), (r2, .inl (cI, 13, .inl Bt)), (r3, .inl (cI, 13, .inl C))] H := hP
  have hD : va_D A [(c0, .inr (1, [.ref c1, .ref c2, .ref c3])), (c1, .inl (cI, 13, .inl (upd Hm 0 (xf_bi (nI z0))))), (c2, .inl (cI, 13, .inl (upd Hb 0 (nI 0)))), (c3, .inl (cI, 12, .inl Ls)), (r0, .inr (3, [.ref r1, .ref r2, .ref r3])), (r1, .inl (cI, 13, .inl G)), (r2, .inl (cI, 13, .inl Bt)), (r3, .inl (cI, 13, .inl C))] := hD
  refine lv_iconst (v := nI 1) hx hb xj_C_lookHome_17 (by decide) ?_
  refine lv_istore_n (lv' := [(3, .int (nI 1)), (0, .ref c0), (1, .ref r0), (2, .int (nI z0))]) hx hb xj_C_lookHome_18 rfl hl (by decide) rfl (fun ls hl => ?_)
  have loop19 : ∀ (n : Nat) (i : Nat) (Hm2 : Nat → Int32) (Hb2 : Nat → Int32) (ls : Array Slot) (H : Heap) (locs : List Loc), i + n = 13 → (xk_hm G Bt z0 i Hm2 Hb2) → (1 ≤ i) → lv_has ls 5 [(0, .ref c0), (1, .ref r0), (2, .int (nI z0)), (3, .int (nI i))] → va_P D xn_cl [(c0, .inr (1, [.ref c1, .ref c2, .ref c3])), (c1, .inl (cI, 13, .inl Hm2)), (c2, .inl (cI, 13, .inl Hb2)), (c3, .inl (cI, 12, .inl Ls)), (r0, .inr (3, [.ref r1, .ref r2, .ref r3])), (r1, .inl (cI, 13, .inl G)), (r2, .inl (cI, 13, .inl Bt)), (r3, .inl (cI, 13, .inl C))] H → va_D A [(c0, .inr (1, [.ref c1, .ref c2, .ref c3])), (c1, .inl (cI, 13, .inl Hm2)), (c2, .inl (cI, 13, .inl Hb2)), (c3, .inl (cI, 12, .inl Ls)), (r0, .inr (3, [.ref r1, .ref r2, .ref r3])), (r1, .inl (cI, 13, .inl G)), (r2, .inl (cI, 13, .inl Bt)), (r3, .inl (cI, 13, .inl C))] → va_S A s.heap H locs → W p l e (xc_rm 1 0 0) s m args below meth c H locs 0 0 Q (F0 m 19 ls []) := by
    intro n
    induction n with
    | zero =>
      intro i Hm2 Hb2 ls H locs hi19 hh h1i hl hP hD hS
      refine lv_iload_n hx hb xj_C_lookHome_19 rfl (lv_at hl 3 rfl) ?_
      refine lv_bipush (v := nI 12) hx hb xj_C_lookHome_20 (by decide) ?_
      refine xr_gt (tgt := 129) hx hb (by omega) (by omega) xj_C_lookHome_22 rfl (fun h22 => ?_) (fun h22 => absurd h22 (by omega))
      have hh : xk_hm G Bt z0 13 Hm2 Hb2 := by rw [show (13 : Nat) = i by omega]; exact hh
      exact hret ((Hm2, Hb2)) H locs _ ls hh hP hD hS xj_C_lookHome_129
    | succ n ih19 =>
      intro i Hm2 Hb2 ls H locs hi19 hh h1i hl hP hD hS
      refine lv_iload_n hx hb xj_C_lookHome_19 rfl (lv_at hl 3 rfl) ?_
      refine lv_bipush (v := nI 12) hx hb xj_C_lookHome_20 (by decide) ?_
      refine xr_gt (tgt := 129) hx hb (by omega) (by omega) xj_C_lookHome_22 rfl (fun h22 => absurd h22 (by omega)) (fun h22 => ?_)
      refine lv_aload_n hx hb xj_C_lookHome_25 rfl (lv_at hl 0 rfl) ?_
      refine va_get (D := D) (ci := 1) (v := .ref c1) (C := xn_C) (T := xn_TC) (N := 3) hx hb hgs xw_uC hown hK.1 hP 0 rfl rfl 0 (by decide) (hgs _ xw_70) (fun _ h9 => h9) rfl xj_C_lookHome_26 ?_
      refine lv_iload_n hx hb xj_C_lookHome_29 rfl (lv_at hl 3 rfl) ?_
      refine lv_iconst (v := nI 0) hx hb xj_C_lookHome_30 (by decide) ?_
      refine xr_iast hx hb hK.1 hP hD hS 1 0 rfl rfl (by omega) (by decide) xj_C_lookHome_31 (fun H locs hP hD hS => ?_)
      have hP : va_P D xn_cl [(c0, .inr (1, [.ref c1, .ref c2, .ref c3])), (c1, .inl (cI, 13, .inl (upd Hm2 i (nI 0)))), (c2, .inl (cI, 13, .inl Hb2)), (c3, .inl (cI, 12, .inl Ls)), (r0, .inr (3, [.ref r1, .ref r2, .ref r3])), (r1, .inl (cI, 13, .inl G)), (r2, .inl (cI, 13, .inl Bt)), (r3, .inl (cI, 13, .inl C))] H := hP
      have hD : va_D A [(c0, .inr (1, [.ref c1, .ref c2, .ref c3])), (c1, .inl (cI, 13, .inl (upd Hm2 i (nI 0)))), (c2, .inl (cI, 13, .inl Hb2)), (c3, .inl (cI, 12, .inl Ls)), (r0, .inr (3, [.ref r1, .ref r2, .ref r3])), (r1, .inl (cI, 13, .inl G)), (r2, .inl (cI, 13, .inl Bt)), (r3, .inl (cI, 13, .inl C))] := hD
      refine lv_aload_n hx hb xj_C_lookHome_32 rfl (lv_at hl 0 rfl) ?_
      refine va_get (D := D) (ci := 1) (v := .ref c2) (C := xn_C) (T := xn_TC) (N := 3) hx hb hgs xw_uC hown hK.1 hP 0 rfl rfl 1 (by decide) (hgs _ xw_71) (fun _ h9 => h9) rfl xj_C_lookHome_33 ?_
      refine lv_iload_n hx hb xj_C_lookHome_36 rfl (lv_at hl 3 rfl) ?_
      refine lv_iconst (v := nI 0) hx hb xj_C_lookHome_37 (by decide) ?_
      refine xr_iast hx hb hK.1 hP hD hS 2 0 rfl rfl (by omega) (by decide) xj_C_lookHome_38 (fun H locs hP hD hS => ?_)
      have hP : va_P D xn_cl [(c0, .inr (1, [.ref c1, .ref c2, .ref c3])), (c1, .inl (cI, 13, .inl (upd Hm2 i (nI 0)))), (c2, .inl (cI, 13, .inl (upd Hb2 i (nI 0)))), (c3, .inl (cI, 12, .inl Ls)), (r0, .inr (3, [.ref r1, .ref r2, .ref r3])), (r1, .inl (cI, 13, .inl G)), (r2, .inl (cI, 13, .inl Bt)), (r3, .inl (cI, 13, .inl C))] H := hP
      have hD : va_D A [(c0, .inr (1, [.ref c1, .ref c2, .ref c3])), (c1, .inl (cI, 13, .inl (upd Hm2 i (nI 0)))), (c2, .inl (cI, 13, .inl (upd Hb2 i (nI 0)))), (c3, .inl (cI, 12, .inl Ls)), (r0, .inr (3, [.ref r1, .ref r2, .ref r3])), (r1, .inl (cI, 13, .inl G)), (r2, .inl (cI, 13, .inl Bt)), (r3, .inl (cI, 13, .inl C))] := hD
      refine lv_iconst (v := nI 0) hx hb xj_C_lookHome_39 (by decide) ?_
      refine lv_istore (lv' := [(4, .int (nI 0)), (0, .ref c0), (1, .ref r0), (2, .int (nI z0)), (3, .int (nI i))]) hx hb xj_C_lookHome_40 hl (by decide) rfl (fun ls hl => ?_)
      have loop42 : ∀ (k : Nat) (j : Nat) (y : Int32) (zz : Int32) (ls : Array Slot) (H : Heap) (locs : List Loc), j + k = 12 → (xk_hA G (Hm2 (i - 1)) k j y = xk_hA G (Hm2 (i - 1)) 12 0 (nI 0)) → (xk_hB G Bt (Hm2 (i - 1)) (Hb2 (i - 1)) k j zz = xk_hB G Bt (Hm2 (i - 1)) (Hb2 (i - 1)) 12 0 (nI 0)) → lv_has ls 5 [(0, .ref c0), (1, .ref r0), (2, .int (nI z0)), (3, .int (nI i)), (4, .int (nI j))] → va_P D xn_cl [(c0, .inr (1, [.ref c1, .ref c2, .ref c3])), (c1, .inl (cI, 13, .inl (upd Hm2 i y))), (c2, .inl (cI, 13, .inl (upd Hb2 i zz))), (c3, .inl (cI, 12, .inl Ls)), (r0, .inr (3, [.ref r1, .ref r2, .ref r3])), (r1, .inl (cI, 13, .inl G)), (r2, .inl (cI, 13, .inl Bt)), (r3, .inl (cI, 13, .inl C))] H → va_D A [(c0, .inr (1, [.ref c1, .ref c2, .ref c3])), (c1, .inl (cI, 13, .inl (upd Hm2 i y))), (c2, .inl (cI, 13, .inl (upd Hb2 i zz))), (c3, .inl (cI, 12, .inl Ls)), (r0, .inr (3, [.ref r1, .ref r2, .ref r3])), (r1, .inl (cI, 13, .inl G)), (r2, .inl (cI, 13, .inl Bt)), (r3, .inl (cI, 13, .inl C))] → va_S A s.heap H locs → W p l e (xc_rm 1 0 0) s m args below meth c H locs 0 0 Q (F0 m 42 ls []) := by
        intro k
        induction k with
        | zero =>
          intro j y zz ls H locs hi42 hy hz hl hP hD hS
          refine lv_iload hx hb xj_C_lookHome_42 (lv_at hl 4 rfl) ?_
          refine lv_bipush (v := nI 12) hx hb xj_C_lookHome_44 (by decide) ?_
          refine xr_ge (tgt := 123) hx hb (by omega) (by omega) xj_C_lookHome_46 rfl (fun h46 => ?_) (fun h46 => absurd h46 (by omega))
          refine lv_iinc (k := 3) (v := nI (i + 1)) (lv' := [(3, .int (nI (i + 1))), (0, .ref c0), (1, .ref r0), (2, .int (nI z0)), (4, .int (nI j))]) hx hb xj_C_lookHome_123 hl rfl (xr_inc _) (by decide) rfl (fun ls hl => ?_)
          refine lv_goto (tgt := 19) hx hb xj_C_lookHome_126 rfl ?_
          exact ih19 (i + 1) (upd Hm2 i y) (upd Hb2 i zz) ls _ _ (by omega) (xk_hm_s h1i hh hy hz) (by omega) (lv_sub hl [1, 2, 3, 0] rfl) hP hD hS
        | succ k ih42 =>
          intro j y zz ls H locs hi42 hy hz hl hP hD hS
          refine lv_iload hx hb xj_C_lookHome_42 (lv_at hl 4 rfl) ?_
          refine lv_bipush (v := nI 12) hx hb xj_C_lookHome_44 (by decide) ?_
          refine xr_ge (tgt := 123) hx hb (by omega) (by omega) xj_C_lookHome_46 rfl (fun h46 => absurd h46 (by omega)) (fun h46 => ?_)
          refine lv_aload_n hx hb xj_C_lookHome_49 rfl (lv_at hl 0 rfl) ?_
          refine va_get (D := D) (ci := 1) (v := .ref c1) (C := xn_C) (T := xn_TC) (N := 3) hx hb hgs xw_uC hown hK.1 hP 0 rfl rfl 0 (by decide) (hgs _ xw_70) (fun _ h9 => h9) rfl xj_C_lookHome_50 ?_
          refine lv_iload_n hx hb xj_C_lookHome_53 rfl (lv_at hl 3 rfl) ?_
          refine lv_dup2_11 hx hb xj_C_lookHome_54 rfl rfl ?_
          refine xr_iald hx hb hK.1 hP 1 0 rfl rfl (by omega) (by decide) xj_C_lookHome_55 ?_
          refine xr_top (y := y) pk_us ?_
          refine lv_aload_n hx hb xj_C_lookHome_56 rfl (lv_at hl 1 rfl) ?_
          refine va_getN (D := D) (ci := 3) (v := .ref r1) (C := xn_R) (T := xn_TR) (N := 3) hx hb hgs xw_uR hown hK.1 hP 4 rfl rfl 0 (by decide) (va_Nw.use rfl (hK.2 _ (List.mem_of_getElem? (i := 5) rfl))) (fun _ h9 => h9) rfl xj_C_lookHome_57 ?_
          refine lv_iload hx hb xj_C_lookHome_60 (lv_at hl 4 rfl) ?_
          refine xr_iald hx hb hK.1 hP 5 0 rfl rfl (by omega) (by decide) xj_C_lookHome_62 ?_
          refine lv_aload_n hx hb xj_C_lookHome_63 rfl (lv_at hl 0 rfl) ?_
          refine va_get (D := D) (ci := 1) (v := .ref c1) (C := xn_C) (T := xn_TC) (N := 3) hx hb hgs xw_uC hown hK.1 hP 0 rfl rfl 0 (by decide) (hgs _ xw_70) (fun _ h9 => h9) rfl xj_C_lookHome_64 ?_
          refine lv_iload_n hx hb xj_C_lookHome_67 rfl (lv_at hl 3 rfl) ?_
          refine lv_iconst (v := nI 1) hx hb xj_C_lookHome_68 (by decide) ?_
          refine xr_isub hx hb (by omega) xj_C_lookHome_69 ?_
          refine xr_iald hx hb hK.1 hP 1 0 rfl rfl (by omega) (by decide) xj_C_lookHome_70 ?_
          refine xr_top (y := Hm2 (i - 1)) (pk_un (by omega)) ?_
          refine lv_iand hx hb xj_C_lookHome_71 ?_
          refine lv_if_eq (tgt := 83) hx hb xj_C_lookHome_72 rfl (fun h72 => ?_) (fun h72 => ?_)
          · -- 83
            refine lv_iconst (v := nI 0) hx hb xj_C_lookHome_83 (by decide) ?_
            refine lv_ior hx hb xj_C_lookHome_84 ?_
            refine xr_iast hx hb hK.1 hP hD hS 1 0 rfl rfl (by omega) (by decide) xj_C_lookHome_85 (fun H locs hP hD hS => ?_)
            rw [show upd (upd Hm2 i y) i (y ||| (nI 0)) = upd Hm2 i (y ||| (nI 0)) from xf_uu _ _ _ _] at hP hD
            have hP : va_P D xn_cl [(c0, .inr (1, [.ref c1, .ref c2, .ref c3])), (c1, .inl (cI, 13, .inl (upd Hm2 i (y ||| (nI 0))))), (c2, .inl (cI, 13, .inl (upd Hb2 i zz))), (c3, .inl (cI, 12, .inl Ls)), (r0, .inr (3, [.ref r1, .ref r2, .ref r3])), (r1, .inl (cI, 13, .inl G)), (r2, .inl (cI, 13, .inl Bt)), (r3, .inl (cI, 13, .inl C))] H := hP
            have hD : va_D A [(c0, .inr (1, [.ref c1, .ref c2, .ref c3])), (c1, .inl (cI, 13, .inl (upd Hm2 i (y ||| (nI 0))))), (c2, .inl (cI, 13, .inl (upd Hb2 i zz))), (c3, .inl (cI, 12, .inl Ls)), (r0, .inr (3, [.ref r1, .ref r2, .ref r3])), (r1, .inl (cI, 13, .inl G)), (r2, .inl (cI, 13, .inl Bt)), (r3, .inl (cI, 13, .inl C))] := hD
            refine lv_aload_n hx hb xj_C_lookHome_86 rfl (lv_at hl 0 rfl) ?_
            refine va_get (D := D) (ci := 1) (v := .ref c2) (C := xn_C) (T := xn_TC) (N := 3) hx hb hgs xw_uC hown hK.1 hP 0 rfl rfl 1 (by decide) (hgs _ xw_71) (fun _ h9 => h9) rfl xj_C_lookHome_87 ?_
            refine lv_iload_n hx hb xj_C_lookHome_90 rfl (lv_at hl 3 rfl) ?_
            refine lv_dup2_11 hx hb xj_C_lookHome_91 rfl rfl ?_
            refine xr_iald hx hb hK.1 hP 2 0 rfl rfl (by omega) (by decide) xj_C_lookHome_92 ?_
            refine xr_top (y := zz) pk_us ?_
            refine lv_aload_n hx hb xj_C_lookHome_93 rfl (lv_at hl 0 rfl) ?_
            refine lv_aload_n hx hb xj_C_lookHome_94 rfl (lv_at hl 1 rfl) ?_
            refine lv_iload hx hb xj_C_lookHome_95 (lv_at hl 4 rfl) ?_
            refine lv_iload_n hx hb xj_C_lookHome_97 rfl (lv_at hl 3 rfl) ?_
            refine lv_iconst (v := nI 1) hx hb xj_C_lookHome_98 (by decide) ?_
            refine xr_isub hx hb (by omega) xj_C_lookHome_99 ?_
            refine xc_callV (av := [.ref r0, .int (nI j), .int (nI (i - 1))]) (rest := [.int zz, .int (nI i), .ref c2]) hAt hT (xt_C_nextWithBetter l D cI cZ cJ c0 c1 c2 c3 (upd Hm2 i (y ||| (nI 0))) (upd Hb2 i zz) Ls r0 r1 r2 r3 G Bt C j (i - 1) (by omega) (by omega)) xw_419 xw_4 xw_422 xw_421 xs_C_nextWithBetter (C0 := xn_C) (q0 := 0) rfl rfl (na := 3) rfl (by decide +kernel) ⟨Nat.le_of_ble_eq_true rfl, Nat.le_of_ble_eq_true rfl⟩ (hP.sub (ws' := [(c0, .inr (1, [.ref c1, .ref c2, .ref c3])), (c1, .inl (cI, 13, .inl (upd Hm2 i (y ||| (nI 0))))), (c2, .inl (cI, 13, .inl (upd Hb2 i zz))), (c3, .inl (cI, 12, .inl Ls)), (r0, .inr (3, [.ref r1, .ref r2, .ref r3])), (r1, .inl (cI, 13, .inl G)), (r2, .inl (cI, 13, .inl Bt)), (r3, .inl (cI, 13, .inl C))]) [0, 1, 2, 3, 4, 5, 6, 7] rfl) hK hl.1 (Nat.le_of_ble_eq_true rfl) ⟨Nat.zero_le _, Nat.zero_le _⟩ xj_C_lookHome_100 ?_
            refine xr_top (y := G j &&& Hb2 (i - 1) ||| Bt j &&& Hm2 (i - 1)) (by rw [pk_un (by omega), pk_un (by omega)]) ?_
            refine lv_if_eq (tgt := 114) hx hb xj_C_lookHome_103 rfl (fun h103 => ?_) (fun h103 => ?_)
            · -- 114
              refine lv_iconst (v := nI 0) hx hb xj_C_lookHome_114 (by decide) ?_
              refine lv_ior hx hb xj_C_lookHome_115 ?_
              refine xr_iast hx hb hK.1 hP hD hS 2 0 rfl rfl (by omega) (by decide) xj_C_lookHome_116 (fun H locs hP hD hS => ?_)
              rw [show upd (upd Hb2 i zz) i (zz ||| (nI 0)) = upd Hb2 i (zz ||| (nI 0)) from xf_uu _ _ _ _] at hP hD
              have hP : va_P D xn_cl [(c0, .inr (1, [.ref c1, .ref c2, .ref c3])), (c1, .inl (cI, 13, .inl (upd Hm2 i (y ||| (nI 0))))), (c2, .inl (cI, 13, .inl (upd Hb2 i (zz ||| (nI 0))))), (c3, .inl (cI, 12, .inl Ls)), (r0, .inr (3, [.ref r1, .ref r2, .ref r3])), (r1, .inl (cI, 13, .inl G)), (r2, .inl (cI, 13, .inl Bt)), (r3, .inl (cI, 13, .inl C))] H := hP
              have hD : va_D A [(c0, .inr (1, [.ref c1, .ref c2, .ref c3])), (c1, .inl (cI, 13, .inl (upd Hm2 i (y ||| (nI 0))))), (c2, .inl (cI, 13, .inl (upd Hb2 i (zz ||| (nI 0))))), (c3, .inl (cI, 12, .inl Ls)), (r0, .inr (3, [.ref r1, .ref r2, .ref r3])), (r1, .inl (cI, 13, .inl G)), (r2, .inl (cI, 13, .inl Bt)), (r3, .inl (cI, 13, .inl C))] := hD
              refine lv_iinc (k := 4) (v := nI (j + 1)) (lv' := [(4, .int (nI (j + 1))), (0, .ref c0), (1, .ref r0), (2, .int (nI z0)), (3, .int (nI i))]) hx hb xj_C_lookHome_117 hl rfl (xr_inc _) (by decide) rfl (fun ls hl => ?_)
              refine lv_goto (tgt := 42) hx hb xj_C_lookHome_120 rfl ?_
              exact ih42 (j + 1) (y ||| (nI 0)) (zz ||| (nI 0)) ls _ _ (by omega) ((xk_hA_0 h72).symm.trans hy) ((xk_hB_0 h103).symm.trans hz) (lv_sub hl [1, 2, 3, 4, 0] rfl) hP hD hS
            · -- 106
              refine lv_iload hx hb xj_C_lookHome_106 (lv_at hl 4 rfl) ?_
              refine xc_callSN (av := [.int (nI j)]) (rest := [.int zz, .int (nI i), .ref c2]) hAt hT (xt_L_bit l D cI cZ cJ (nI j)) (List.mem_of_getElem? (i := 29) rfl) xw_1 xw_149 xw_148 (na := 1) rfl (by decide +kernel) ⟨Nat.le_of_ble_eq_true rfl, Nat.le_of_ble_eq_true rfl⟩ (hP.sub (ws' := []) [] rfl) hK hl.1 (Nat.le_of_ble_eq_true rfl) ⟨Nat.zero_le _, Nat.zero_le _⟩ xj_C_lookHome_108 ?_
              refine lv_goto (tgt := 115) hx hb xj_C_lookHome_111 rfl ?_
              refine lv_ior hx hb xj_C_lookHome_115 ?_
              refine xr_iast hx hb hK.1 hP hD hS 2 0 rfl rfl (by omega) (by decide) xj_C_lookHome_116 (fun H locs hP hD hS => ?_)
              rw [show upd (upd Hb2 i zz) i (zz ||| (xf_bi (nI j))) = upd Hb2 i (zz ||| (xf_bi (nI j))) from xf_uu _ _ _ _] at hP hD
              have hP : va_P D xn_cl [(c0, .inr (1, [.ref c1, .ref c2, .ref c3])), (c1, .inl (cI, 13, .inl (upd Hm2 i (y ||| (nI 0))))), (c2, .inl (cI, 13, .inl (upd Hb2 i (zz ||| (xf_bi (nI j)))))), (c3, .inl (cI, 12, .inl Ls)), (r0, .inr (3, [.ref r1, .ref r2, .ref r3])), (r1, .inl (cI, 13, .inl G)), (r2, .inl (cI, 13, .inl Bt)), (r3, .inl (cI, 13, .inl C))] H := hP
              have hD : va_D A [(c0, .inr (1, [.ref c1, .ref c2, .ref c3])), (c1, .inl (cI, 13, .inl (upd Hm2 i (y ||| (nI 0))))), (c2, .inl (cI, 13, .inl (upd Hb2 i (zz ||| (xf_bi (nI j)))))), (c3, .inl (cI, 12, .inl Ls)), (r0, .inr (3, [.ref r1, .ref r2, .ref r3])), (r1, .inl (cI, 13, .inl G)), (r2, .inl (cI, 13, .inl Bt)), (r3, .inl (cI, 13, .inl C))] := hD
              refine lv_iinc (k := 4) (v := nI (j + 1)) (lv' := [(4, .int (nI (j + 1))), (0, .ref c0), (1, .ref r0), (2, .int (nI z0)), (3, .int (nI i))]) hx hb xj_C_lookHome_117 hl rfl (xr_inc _) (by decide) rfl (fun ls hl => ?_)
              refine lv_goto (tgt := 42) hx hb xj_C_lookHome_120 rfl ?_
              exact ih42 (j + 1) (y ||| (nI 0)) (zz ||| (xf_bi (nI j))) ls _ _ (by omega) ((xk_hA_0 h72).symm.trans hy) ((xk_hB_1 h103).symm.trans hz) (lv_sub hl [1, 2, 3, 4, 0] rfl) hP hD hS
          · -- 75
            refine lv_iload hx hb xj_C_lookHome_75 (lv_at hl 4 rfl) ?_
            refine xc_callSN (av := [.int (nI j)]) (rest := [.int y, .int (nI i), .ref c1]) hAt hT (xt_L_bit l D cI cZ cJ (nI j)) (List.mem_of_getElem? (i := 29) rfl) xw_1 xw_149 xw_148 (na := 1) rfl (by decide +kernel) ⟨Nat.le_of_ble_eq_true rfl, Nat.le_of_ble_eq_true rfl⟩ (hP.sub (ws' := []) [] rfl) hK hl.1 (Nat.le_of_ble_eq_true rfl) ⟨Nat.zero_le _, Nat.zero_le _⟩ xj_C_lookHome_77 ?_
            refine lv_goto (tgt := 84) hx hb xj_C_lookHome_80 rfl ?_
            refine lv_ior hx hb xj_C_lookHome_84 ?_
            refine xr_iast hx hb hK.1 hP hD hS 1 0 rfl rfl (by omega) (by decide) xj_C_lookHome_85 (fun H locs hP hD hS => ?_)
            rw [show upd (upd Hm2 i y) i (y ||| (xf_bi (nI j))) = upd Hm2 i (y ||| (xf_bi (nI j))) from xf_uu _ _ _ _] at hP hD
            have hP : va_P D xn_cl [(c0, .inr (1, [.ref c1, .ref c2, .ref c3])), (c1, .inl (cI, 13, .inl (upd Hm2 i (y ||| (xf_bi (nI j)))))), (c2, .inl (cI, 13, .inl (upd Hb2 i zz))), (c3, .inl (cI, 12, .inl Ls)), (r0, .inr (3, [.ref r1, .ref r2, .ref r3])), (r1, .inl (cI, 13, .inl G)), (r2, .inl (cI, 13, .inl Bt)), (r3, .inl (cI, 13, .inl C))] H := hP
            have hD : va_D A [(c0, .inr (1, [.ref c1, .ref c2, .ref c3])), (c1, .inl (cI, 13, .inl (upd Hm2 i (y ||| (xf_bi (nI j)))))), (c2, .inl (cI, 13, .inl (upd Hb2 i zz))), (c3, .inl (cI, 12, .inl Ls)), (r0, .inr (3, [.ref r1, .ref r2, .ref r3])), (r1, .inl (cI, 13, .inl G)), (r2, .inl (cI, 13, .inl Bt)), (r3, .inl (cI, 13, .inl C))] := hD
            refine lv_aload_n hx hb xj_C_lookHome_86 rfl (lv_at hl 0 rfl) ?_
            refine va_get (D := D) (ci := 1) (v := .ref c2) (C := xn_C) (T := xn_TC) (N := 3) hx hb hgs xw_uC hown hK.1 hP 0 rfl rfl 1 (by decide) (hgs _ xw_71) (fun _ h9 => h9) rfl xj_C_lookHome_87 ?_
            refine lv_iload_n hx hb xj_C_lookHome_90 rfl (lv_at hl 3 rfl) ?_
            refine lv_dup2_11 hx hb xj_C_lookHome_91 rfl rfl ?_
            refine xr_iald hx hb hK.1 hP 2 0 rfl rfl (by omega) (by decide) xj_C_lookHome_92 ?_
            refine xr_top (y := zz) pk_us ?_
            refine lv_aload_n hx hb xj_C_lookHome_93 rfl (lv_at hl 0 rfl) ?_
            refine lv_aload_n hx hb xj_C_lookHome_94 rfl (lv_at hl 1 rfl) ?_
            refine lv_iload hx hb xj_C_lookHome_95 (lv_at hl 4 rfl) ?_
            refine lv_iload_n hx hb xj_C_lookHome_97 rfl (lv_at hl 3 rfl) ?_
            refine lv_iconst (v := nI 1) hx hb xj_C_lookHome_98 (by decide) ?_
            refine xr_isub hx hb (by omega) xj_C_lookHome_99 ?_
            refine xc_callV (av := [.ref r0, .int (nI j), .int (nI (i - 1))]) (rest := [.int zz, .int (nI i), .ref c2]) hAt hT (xt_C_nextWithBetter l D cI cZ cJ c0 c1 c2 c3 (upd Hm2 i (y ||| (xf_bi (nI j)))) (upd Hb2 i zz) Ls r0 r1 r2 r3 G Bt C j (i - 1) (by omega) (by omega)) xw_419 xw_4 xw_422 xw_421 xs_C_nextWithBetter (C0 := xn_C) (q0 := 0) rfl rfl (na := 3) rfl (by decide +kernel) ⟨Nat.le_of_ble_eq_true rfl, Nat.le_of_ble_eq_true rfl⟩ (hP.sub (ws' := [(c0, .inr (1, [.ref c1, .ref c2, .ref c3])), (c1, .inl (cI, 13, .inl (upd Hm2 i (y ||| (xf_bi (nI j)))))), (c2, .inl (cI, 13, .inl (upd Hb2 i zz))), (c3, .inl (cI, 12, .inl Ls)), (r0, .inr (3, [.ref r1, .ref r2, .ref r3])), (r1, .inl (cI, 13, .inl G)), (r2, .inl (cI, 13, .inl Bt)), (r3, .inl (cI, 13, .inl C))]) [0, 1, 2, 3, 4, 5, 6, 7] rfl) hK hl.1 (Nat.le_of_ble_eq_true rfl) ⟨Nat.zero_le _, Nat.zero_le _⟩ xj_C_lookHome_100 ?_
            refine xr_top (y := G j &&& Hb2 (i - 1) ||| Bt j &&& Hm2 (i - 1)) (by rw [pk_un (by omega), pk_un (by omega)]) ?_
            refine lv_if_eq (tgt := 114) hx hb xj_C_lookHome_103 rfl (fun h103 => ?_) (fun h103 => ?_)
            · -- 114
              refine lv_iconst (v := nI 0) hx hb xj_C_lookHome_114 (by decide) ?_
              refine lv_ior hx hb xj_C_lookHome_115 ?_
              refine xr_iast hx hb hK.1 hP hD hS 2 0 rfl rfl (by omega) (by decide) xj_C_lookHome_116 (fun H locs hP hD hS => ?_)
              rw [show upd (upd Hb2 i zz) i (zz ||| (nI 0)) = upd Hb2 i (zz ||| (nI 0)) from xf_uu _ _ _ _] at hP hD
              have hP : va_P D xn_cl [(c0, .inr (1, [.ref c1, .ref c2, .ref c3])), (c1, .inl (cI, 13, .inl (upd Hm2 i (y ||| (xf_bi (nI j)))))), (c2, .inl (cI, 13, .inl (upd Hb2 i (zz ||| (nI 0))))), (c3, .inl (cI, 12, .inl Ls)), (r0, .inr (3, [.ref r1, .ref r2, .ref r3])), (r1, .inl (cI, 13, .inl G)), (r2, .inl (cI, 13, .inl Bt)), (r3, .inl (cI, 13, .inl C))] H := hP
              have hD : va_D A [(c0, .inr (1, [.ref c1, .ref c2, .ref c3])), (c1, .inl (cI, 13, .inl (upd Hm2 i (y ||| (xf_bi (nI j)))))), (c2, .inl (cI, 13, .inl (upd Hb2 i (zz ||| (nI 0))))), (c3, .inl (cI, 12, .inl Ls)), (r0, .inr (3, [.ref r1, .ref r2, .ref r3])), (r1, .inl (cI, 13, .inl G)), (r2, .inl (cI, 13, .inl Bt)), (r3, .inl (cI, 13, .inl C))] := hD
              refine lv_iinc (k := 4) (v := nI (j + 1)) (lv' := [(4, .int (nI (j + 1))), (0, .ref c0), (1, .ref r0), (2, .int (nI z0)), (3, .int (nI i))]) hx hb xj_C_lookHome_117 hl rfl (xr_inc _) (by decide) rfl (fun ls hl => ?_)
              refine lv_goto (tgt := 42) hx hb xj_C_lookHome_120 rfl ?_
              exact ih42 (j + 1) (y ||| (xf_bi (nI j))) (zz ||| (nI 0)) ls _ _ (by omega) ((xk_hA_1 h72).symm.trans hy) ((xk_hB_0 h103).symm.trans hz) (lv_sub hl [1, 2, 3, 4, 0] rfl) hP hD hS
            · -- 106
              refine lv_iload hx hb xj_C_lookHome_106 (lv_at hl 4 rfl) ?_
              refine xc_callSN (av := [.int (nI j)]) (rest := [.int zz, .int (nI i), .ref c2]) hAt hT (xt_L_bit l D cI cZ cJ (nI j)) (List.mem_of_getElem? (i := 29) rfl) xw_1 xw_149 xw_148 (na := 1) rfl (by decide +kernel) ⟨Nat.le_of_ble_eq_true rfl, Nat.le_of_ble_eq_true rfl⟩ (hP.sub (ws' := []) [] rfl) hK hl.1 (Nat.le_of_ble_eq_true rfl) ⟨Nat.zero_le _, Nat.zero_le _⟩ xj_C_lookHome_108 ?_
              refine lv_goto (tgt := 115) hx hb xj_C_lookHome_111 rfl ?_
              refine lv_ior hx hb xj_C_lookHome_115 ?_
              refine xr_iast hx hb hK.1 hP hD hS 2 0 rfl rfl (by omega) (by decide) xj_C_lookHome_116 (fun H locs hP hD hS => ?_)
              rw [show upd (upd Hb2 i zz) i (zz ||| (xf_bi (nI j))) = upd Hb2 i (zz ||| (xf_bi (nI j))) from xf_uu _ _ _ _] at hP hD
              have hP : va_P D xn_cl [(c0, .inr (1, [.ref c1, .ref c2, .ref c3])), (c1, .inl (cI, 13, .inl (upd Hm2 i (y ||| (xf_bi (nI j)))))), (c2, .inl (cI, 13, .inl (upd Hb2 i (zz ||| (xf_bi (nI j)))))), (c3, .inl (cI, 12, .inl Ls)), (r0, .inr (3, [.ref r1, .ref r2, .ref r3])), (r1, .inl (cI, 13, .inl G)), (r2, .inl (cI, 13, .inl Bt)), (r3, .inl (cI, 13, .inl C))] H := hP
              have hD : va_D A [(c0, .inr (1, [.ref c1, .ref c2, .ref c3])), (c1, .inl (cI, 13, .inl (upd Hm2 i (y ||| (xf_bi (nI j)))))), (c2, .inl (cI, 13, .inl (upd Hb2 i (zz ||| (xf_bi (nI j)))))), (c3, .inl (cI, 12, .inl Ls)), (r0, .inr (3, [.ref r1, .ref r2, .ref r3])), (r1, .inl (cI, 13, .inl G)), (r2, .inl (cI, 13, .inl Bt)), (r3, .inl (cI, 13, .inl C))] := hD
              refine lv_iinc (k := 4) (v := nI (j + 1)) (lv' := [(4, .int (nI (j + 1))), (0, .ref c0), (1, .ref r0), (2, .int (nI z0)), (3, .int (nI i))]) hx hb xj_C_lookHome_117 hl rfl (xr_inc _) (by decide) rfl (fun ls hl => ?_)
              refine lv_goto (tgt := 42) hx hb xj_C_lookHome_120 rfl ?_
              exact ih42 (j + 1) (y ||| (xf_bi (nI j))) (zz ||| (xf_bi (nI j))) ls _ _ (by omega) ((xk_hA_1 h72).symm.trans hy) ((xk_hB_1 h103).symm.trans hz) (lv_sub hl [1, 2, 3, 4, 0] rfl) hP hD hS
      exact loop42 12 0 (nI 0) (nI 0) ls _ _ (by omega) rfl rfl (lv_sub hl [1, 2, 3, 4, 0] rfl) hP hD hS
  exact loop19 12 1 (upd Hm 0 (xf_bi (nI z0))) (upd Hb 0 (nI 0)) ls _ _ (by omega) (xk_hm_1 Hm Hb) (Nat.le_refl 1) (lv_sub hl [1, 2, 3, 0] rfl) hP hD hS
set_option maxRecDepth 100000 in
set_option maxHeartbeats 4000000 in
theorem xt_C_shortestFrom (l : Launch) (D : va_G) (cI cZ cJ : ClassId) (c0 c1 c2 c3 : Nat) (Hm Hb Ls : Nat → Int32) (r0 r1 r2 r3 : Nat) (G Bt C : Nat → Int32) (z0 : Nat) : xc_Wi l xy_C_shortestFrom xb_C_shortestFrom 4 .int 2 0 0 [.ref c0, .ref r0, .int (nI z0)] D cI cZ cJ [(c0, .inr (1, [.ref c1, .ref c2, .ref c3])), (c1, .inl (cI, 13, .inl Hm)), (c2, .inl (cI, 13, .inl Hb)), (c3, .inl (cI, 12, .inl Ls)), (r0, .inr (3, [.ref r1, .ref r2, .ref r3])), (r1, .inl (cI, 13, .inl G)), (r2, .inl (cI, 13, .inl Bt)), (r3, .inl (cI, 13, .inl C))] ((Nat → Int32) × (Nat → Int32)) (fun r _ => r = xk_sf (xk_hb G Bt z0) z0 12 1) (fun u => [(c0, .inr (1, [.ref c1, .ref c2, .ref c3])), (c1, .inl (cI, 13, .inl u.1)), (c2, .inl (cI, 13, .inl u.2)), (c3, .inl (cI, 12, .inl Ls)), (r0, .inr (3, [.ref r1, .ref r2, .ref r3])), (r1, .inl (cI, 13, .inl G)), (r2, .inl (cI, 13, .inl Bt)), (r3, .inl (cI, 13, .inl C))]) := by
  refine xc_Wi_of (by decide) (Nat.le_of_ble_eq_true rfl) ?_
  intro p e s m args below meth c Q ls A hAt hP hK hD hA hS hl hret
  obtain ⟨hx, hb, hml, hown, hts, hgs, hlk⟩ := id hAt
  have hT : ∀ w ∈ xw_g, w ∈ xc_ws xy_C_shortestFrom xb_C_shortestFrom 4 (some .int) := fun w h => List.mem_cons_of_mem _ h
  have hown : s.vm.findClass "WishLedger$CircleFinder" = some m.cls := hown
  obtain ⟨H, hH0⟩ : ∃ H, H = s.heap := ⟨_, rfl⟩
  obtain ⟨locs, hL0⟩ : ∃ locs : List Loc, locs = [] := ⟨_, rfl⟩
  have hP : va_P D xn_cl [(c0, .inr (1, [.ref c1, .ref c2, .ref c3])), (c1, .inl (cI, 13, .inl Hm)), (c2, .inl (cI, 13, .inl Hb)), (c3, .inl (cI, 12, .inl Ls)), (r0, .inr (3, [.ref r1, .ref r2, .ref r3])), (r1, .inl (cI, 13, .inl G)), (r2, .inl (cI, 13, .inl Bt)), (r3, .inl (cI, 13, .inl C))] H := by rw [hH0]; exact hP
  have hS : va_S A s.heap H locs := by rw [hH0, hL0]; exact hS
  suffices hgo : W p l e (xc_rm 2 0 0) s m args below meth c H locs 0 0 Q (F0 m 0 ls []) by rw [hH0, hL0] at hgo; exact hgo
  clear hH0 hL0
  have hl : lv_has ls 4 [(0, .ref c0), (1, .ref r0), (2, .int (nI z0))] := hl
  refine lv_aload_n hx hb xj_C_shortestFrom_0 rfl (lv_at hl 0 rfl) ?_
  refine lv_aload_n hx hb xj_C_shortestFrom_1 rfl (lv_at hl 1 rfl) ?_
  refine lv_iload_n hx hb xj_C_shortestFrom_2 rfl (lv_at hl 2 rfl) ?_
  refine xc_wVv (av := [.ref r0, .int (nI z0)]) (rest := []) (wr := []) hAt hT (xt_C_lookHome l D cI cZ cJ c0 c1 c2 c3 Hm Hb Ls r0 r1 r2 r3 G Bt C z0) xw_414 xw_4 xw_417 xw_416 xs_C_lookHome (C0 := xn_C) (q0 := 0) rfl rfl (na := 2) rfl (by decide +kernel) ⟨Nat.le_of_ble_eq_true rfl, Nat.le_of_ble_eq_true rfl⟩ hP hD hS hA [0, 1, 2, 3, 4, 5, 6, 7] [] rfl rfl (by decide) (by decide) (by decide) hK hl.1 (Nat.le_of_ble_eq_true rfl) ⟨Nat.zero_le _, Nat.zero_le _⟩ xj_C_shortestFrom_3 (fun u3 H locs hu3 hP hD hS => ?_)
  have hP : va_P D xn_cl [(c0, .inr (1, [.ref c1, .ref c2, .ref c3])), (c1, .inl (cI, 13, .inl u3.1)), (c2, .inl (cI, 13, .inl u3.2)), (c3, .inl (cI, 12, .inl Ls)), (r0, .inr (3, [.ref r1, .ref r2, .ref r3])), (r1, .inl (cI, 13, .inl G)), (r2, .inl (cI, 13, .inl Bt)), (r3, .inl (cI, 13, .inl C))] H := hP
  have hD : va_D A [(c0, .inr (1, [.ref c1, .ref c2, .ref c3])), (c1, .inl (cI, 13, .inl u3.1)), (c2, .inl (cI, 13, .inl u3.2)), (c3, .inl (cI, 12, .inl Ls)), (r0, .inr (3, [.ref r1, .ref r2, .ref r3])), (r1, .inl (cI, 13, .inl G)), (r2, .inl (cI, 13, .inl Bt)), (r3, .inl (cI, 13, .inl C))] := hD
  refine lv_iconst (v := nI 1) hx hb xj_C_shortestFrom_6 (by decide) ?_
  refine lv_istore_n (lv' := [(3, .int (nI 1)), (0, .ref c0), (1, .ref r0), (2, .int (nI z0))]) hx hb xj_C_shortestFrom_7 rfl hl (by decide) rfl (fun ls hl => ?_)
  have loop8 : ∀ (n : Nat) (i : Nat) (ls : Array Slot) (H : Heap) (locs : List Loc), i + n = 13 → (xk_sf (xk_hb G Bt z0) z0 n i = xk_sf (xk_hb G Bt z0) z0 12 1) → (1 ≤ i) → lv_has ls 4 [(0, .ref c0), (2, .int (nI z0)), (3, .int (nI i))] → va_P D xn_cl [(c0, .inr (1, [.ref c1, .ref c2, .ref c3])), (c1, .inl (cI, 13, .inl u3.1)), (c2, .inl (cI, 13, .inl u3.2)), (c3, .inl (cI, 12, .inl Ls)), (r0, .inr (3, [.ref r1, .ref r2, .ref r3])), (r1, .inl (cI, 13, .inl G)), (r2, .inl (cI, 13, .inl Bt)), (r3, .inl (cI, 13, .inl C))] H → va_D A [(c0, .inr (1, [.ref c1, .ref c2, .ref c3])), (c1, .inl (cI, 13, .inl u3.1)), (c2, .inl (cI, 13, .inl u3.2)), (c3, .inl (cI, 12, .inl Ls)), (r0, .inr (3, [.ref r1, .ref r2, .ref r3])), (r1, .inl (cI, 13, .inl G)), (r2, .inl (cI, 13, .inl Bt)), (r3, .inl (cI, 13, .inl C))] → va_S A s.heap H locs → W p l e (xc_rm 2 0 0) s m args below meth c H locs 0 0 Q (F0 m 8 ls []) := by
    intro n
    induction n with
    | zero =>
      intro i ls H locs hi8 hr h1i hl hP hD hS
      refine lv_iload_n hx hb xj_C_shortestFrom_8 rfl (lv_at hl 2 rfl) ?_
      refine lv_bipush (v := nI 12) hx hb xj_C_shortestFrom_9 (by decide) ?_
      refine xr_gt (tgt := 35) hx hb (by omega) (by omega) xj_C_shortestFrom_11 rfl (fun h11 => ?_) (fun h11 => absurd h11 (by omega))
      refine lv_iconst (v := nI 0) hx hb xj_C_shortestFrom_35 (by decide) ?_
      exact hret (nI 0) u3 H locs _ ls hr rfl hP hD hS xj_C_shortestFrom_36
    | succ n ih8 =>
      intro i ls H locs hi8 hr h1i hl hP hD hS
      refine lv_iload_n hx hb xj_C_shortestFrom_8 rfl (lv_at hl 2 rfl) ?_
      refine lv_bipush (v := nI 12) hx hb xj_C_shortestFrom_9 (by decide) ?_
      refine xr_gt (tgt := 35) hx hb (by omega) (by omega) xj_C_shortestFrom_11 rfl (fun h11 => absurd h11 (by omega)) (fun h11 => ?_)
      refine lv_aload_n hx hb xj_C_shortestFrom_14 rfl (lv_at hl 0 rfl) ?_
      refine va_get (D := D) (ci := 1) (v := .ref c2) (C := xn_C) (T := xn_TC) (N := 3) hx hb hgs xw_uC hown hK.1 hP 0 rfl rfl 1 (by decide) (hgs _ xw_71) (fun _ h9 => h9) rfl xj_C_shortestFrom_15 ?_
      refine lv_iload_n hx hb xj_C_shortestFrom_18 rfl (lv_at hl 2 rfl) ?_
      refine xr_iald hx hb hK.1 hP 2 0 rfl rfl (by omega) (by decide) xj_C_shortestFrom_19 ?_
      refine lv_iload_n hx hb xj_C_shortestFrom_20 rfl (lv_at hl 1 rfl) ?_
      refine xc_callSN (av := [.int (u3.2 i), .int (nI z0)]) (rest := []) hAt hT (xt_L_has l D cI cZ cJ (u3.2 i) (nI z0)) (List.mem_of_getElem? (i := 30) rfl) xw_1 xw_157 xw_156 (na := 2) rfl (by decide +kernel) ⟨Nat.le_of_ble_eq_true rfl, Nat.le_of_ble_eq_true rfl⟩ (hP.sub (ws' := []) [] rfl) hK hl.1 (Nat.le_of_ble_eq_true rfl) ⟨Nat.zero_le _, Nat.zero_le _⟩ xj_C_shortestFrom_21 ?_
      refine xr_ifeq (tgt := 29) hx hb xj_C_shortestFrom_24 rfl (fun h24 => ?_) (fun h24 => ?_)
      · -- 29
        refine lv_iinc (k := 2) (v := nI (i + 1)) (lv' := [(3, .int (nI (i + 1))), (0, .ref c0), (2, .int (nI z0))]) hx hb xj_C_shortestFrom_29 hl rfl (xr_inc _) (by decide) rfl (fun ls hl => ?_)
        refine lv_goto (tgt := 8) hx hb xj_C_shortestFrom_32 rfl ?_
        exact ih8 (i + 1) ls _ _ (by omega) ((xk_sf_0 (by rw [← (hu3 i (by omega)).2]; exact h24)).symm.trans hr) (by omega) (lv_sub hl [1, 2, 0] rfl) hP hD hS
      · -- 27
        refine lv_iload_n hx hb xj_C_shortestFrom_27 rfl (lv_at hl 2 rfl) ?_
        exact hret (nI i) u3 H locs _ ls ((xk_sf_1 (by rw [← (hu3 i (by omega)).2]; exact h24)).symm.trans hr) rfl hP hD hS xj_C_shortestFrom_28
  exact loop8 12 1 ls _ _ (by omega) rfl (Nat.le_refl 1) (lv_sub hl [1, 3, 0] rfl) hP hD hS
set_option maxRecDepth 100000 in
set_option maxHeartbeats 4000000 in
theorem xt_C_writeList (l : Launch) (D : va_G) (cI cZ cJ : ClassId) (c0 c1 c2 c3 : Nat) (Hm Hb Ls : Nat → Int32) (r0 r1 r2 r3 : Nat) (G Bt C : Nat → Int32) (z0 q0 : Nat) (hq : q0 ≤ 12) (hh : xk_hm G Bt z0 13 Hm Hb) (Aq : Nat → Nat) (Fq : Nat → Bool) (hsq : xk_seq G Bt z0 q0 Aq Fq) : xc_Wv l xy_C_writeList xb_C_writeList 10 3 0 0 [.ref c0, .ref r0, .int (nI z0), .int (nI q0)] D cI cZ cJ [(c0, .inr (1, [.ref c1, .ref c2, .ref c3])), (c1, .inl (cI, 13, .inl Hm)), (c2, .inl (cI, 13, .inl Hb)), (c3, .inl (cI, 12, .inl Ls)), (r0, .inr (3, [.ref r1, .ref r2, .ref r3])), (r1, .inl (cI, 13, .inl G)), (r2, .inl (cI, 13, .inl Bt)), (r3, .inl (cI, 13, .inl C))] (Nat → Int32) (fun u => ∀ j, j < q0 → u j = nI (Aq j)) (fun u => [(c0, .inr (1, [.ref c1, .ref c2, .ref c3])), (c1, .inl (cI, 13, .inl Hm)), (c2, .inl (cI, 13, .inl Hb)), (c3, .inl (cI, 12, .inl u)), (r0, .inr (3, [.ref r1, .ref r2, .ref r3])), (r1, .inl (cI, 13, .inl G)), (r2, .inl (cI, 13, .inl Bt)), (r3, .inl (cI, 13, .inl C))]) := by
  refine xc_Wv_of (by decide) (Nat.le_of_ble_eq_true rfl) ?_
  intro p e s m args below meth c Q ls A hAt hin hP hK hD hA hS hl hret
  obtain ⟨hx, hb, hml, hown, hts, hgs, hlk⟩ := id hAt
  have hT : ∀ w ∈ xw_g, w ∈ xc_ws xy_C_writeList xb_C_writeList 10 (none) := fun w h => List.mem_cons_of_mem _ h
  have hown : s.vm.findClass "WishLedger$CircleFinder" = some m.cls := hown
  obtain ⟨H, hH0⟩ : ∃ H, H = s.heap := ⟨_, rfl⟩
  obtain ⟨locs, hL0⟩ : ∃ locs : List Loc, locs = [] := ⟨_, rfl⟩
  have hP : va_P D xn_cl [(c0, .inr (1, [.ref c1, .ref c2, .ref c3])), (c1, .inl (cI, 13, .inl Hm)), (c2, .inl (cI, 13, .inl Hb)), (c3, .inl (cI, 12, .inl Ls)), (r0, .inr (3, [.ref r1, .ref r2, .ref r3])), (r1, .inl (cI, 13, .inl G)), (r2, .inl (cI, 13, .inl Bt)), (r3, .inl (cI, 13, .inl C))] H := by rw [hH0]; exact hP
  have hS : va_S A s.heap H locs := by rw [hH0, hL0]; exact hS
  suffices hgo : W p l e (xc_rm 3 0 0) s m args below meth c H locs 0 0 Q (F0 m 0 ls []) by rw [hH0, hL0] at hgo; exact hgo
  clear hH0 hL0
  have hl : lv_has ls 10 [(0, .ref c0), (1, .ref r0), (2, .int (nI z0)), (3, .int (nI q0))] := hl
  refine lv_iload_n hx hb xj_C_writeList_0 rfl (lv_at hl 2 rfl) ?_
  refine lv_istore (lv' := [(4, .int (nI z0)), (0, .ref c0), (1, .ref r0), (2, .int (nI z0)), (3, .int (nI q0))]) hx hb xj_C_writeList_1 hl (by decide) rfl (fun ls hl => ?_)
  refine lv_iconst (v := nI 0) hx hb xj_C_writeList_3 (by decide) ?_
  refine lv_istore (lv' := [(5, .int (nI 0)), (4, .int (nI z0)), (0, .ref c0), (1, .ref r0), (2, .int (nI z0)), (3, .int (nI q0))]) hx hb xj_C_writeList_4 hl (by decide) rfl (fun ls hl => ?_)
  refine lv_iconst (v := nI 0) hx hb xj_C_writeList_6 (by decide) ?_
  refine lv_istore (lv' := [(6, .int (nI 0)), (5, .int (nI 0)), (4, .int (nI z0)), (0, .ref c0), (1, .ref r0), (2, .int (nI z0)), (3, .int (nI q0))]) hx hb xj_C_writeList_7 hl (by decide) rfl (fun ls hl => ?_)
  have loop9 : ∀ (n : Nat) (i : Nat) (a : Nat) (fl : Bool) (Ls2 : Nat → Int32) (ls : Array Slot) (H : Heap) (locs : List Loc), i + n = q0 → (a = Aq i) → (fl = Fq i) → (∀ j, j < i → Ls2 j = nI (Aq j)) → (i < q0 → a < 13) → lv_has ls 10 [(0, .ref c0), (1, .ref r0), (3, .int (nI q0)), (4, .int (nI a)), (5, .int (xf_bI fl)), (6, .int (nI i))] → va_P D xn_cl [(c0, .inr (1, [.ref c1, .ref c2, .ref c3])), (c1, .inl (cI, 13, .inl Hm)), (c2, .inl (cI, 13, .inl Hb)), (c3, .inl (cI, 12, .inl Ls2)), (r0, .inr (3, [.ref r1, .ref r2, .ref r3])), (r1, .inl (cI, 13, .inl G)), (r2, .inl (cI, 13, .inl Bt)), (r3, .inl (cI, 13, .inl C))] H → va_D A [(c0, .inr (1, [.ref c1, .ref c2, .ref c3])), (c1, .inl (cI, 13, .inl Hm)), (c2, .inl (cI, 13, .inl Hb)), (c3, .inl (cI, 12, .inl Ls2)), (r0, .inr (3, [.ref r1, .ref r2, .ref r3])), (r1, .inl (cI, 13, .inl G)), (r2, .inl (cI, 13, .inl Bt)), (r3, .inl (cI, 13, .inl C))] → va_S A s.heap H locs → W p l e (xc_rm 3 0 0) s m args below meth c H locs 0 0 Q (F0 m 9 ls []) := by
    intro n
    induction n with
    | zero =>
      intro i a fl Ls2 ls H locs hi9 ha hb0 hls hin hl hP hD hS
      refine lv_iload hx hb xj_C_writeList_9 (lv_at hl 5 rfl) ?_
      refine lv_iload_n hx hb xj_C_writeList_11 rfl (lv_at hl 2 rfl) ?_
      refine xr_ge (tgt := 123) hx hb (by omega) (by omega) xj_C_writeList_12 rfl (fun h12 => ?_) (fun h12 => absurd h12 (by omega))
      exact hret Ls2 H locs _ ls (fun j hj => hls j (by omega)) hP hD hS xj_C_writeList_123
    | succ n ih9 =>
      intro i a fl Ls2 ls H locs hi9 ha hb0 hls hin hl hP hD hS
      refine lv_iload hx hb xj_C_writeList_9 (lv_at hl 5 rfl) ?_
      refine lv_iload_n hx hb xj_C_writeList_11 rfl (lv_at hl 2 rfl) ?_
      refine xr_ge (tgt := 123) hx hb (by omega) (by omega) xj_C_writeList_12 rfl (fun h12 => absurd h12 (by omega)) (fun h12 => ?_)
      refine lv_iload hx hb xj_C_writeList_15 (lv_at hl 3 rfl) ?_
      refine lv_iconst (v := (-1)) hx hb xj_C_writeList_17 (by decide) ?_
      refine lv_icmp_eq (tgt := 123) hx hb xj_C_writeList_18 rfl (fun h18 => absurd h18 (xk_n1 (by have := hin (by omega); omega))) (fun h18 => ?_)
      refine lv_aload_n hx hb xj_C_writeList_21 rfl (lv_at hl 0 rfl) ?_
      refine va_get (D := D) (ci := 1) (v := .ref c3) (C := xn_C) (T := xn_TC) (N := 3) hx hb hgs xw_uC hown hK.1 hP 0 rfl rfl 2 (by decide) (hgs _ xw_72) (fun _ h9 => h9) rfl xj_C_writeList_22 ?_
      refine lv_iload hx hb xj_C_writeList_25 (lv_at hl 5 rfl) ?_
      refine lv_iload hx hb xj_C_writeList_27 (lv_at hl 3 rfl) ?_
      refine xr_iast hx hb hK.1 hP hD hS 3 0 rfl rfl (by omega) (by decide) xj_C_writeList_29 (fun H locs hP hD hS => ?_)
      have hP : va_P D xn_cl [(c0, .inr (1, [.ref c1, .ref c2, .ref c3])), (c1, .inl (cI, 13, .inl Hm)), (c2, .inl (cI, 13, .inl Hb)), (c3, .inl (cI, 12, .inl (upd Ls2 i (nI a)))), (r0, .inr (3, [.ref r1, .ref r2, .ref r3])), (r1, .inl (cI, 13, .inl G)), (r2, .inl (cI, 13, .inl Bt)), (r3, .inl (cI, 13, .inl C))] H := hP
      have hD : va_D A [(c0, .inr (1, [.ref c1, .ref c2, .ref c3])), (c1, .inl (cI, 13, .inl Hm)), (c2, .inl (cI, 13, .inl Hb)), (c3, .inl (cI, 12, .inl (upd Ls2 i (nI a)))), (r0, .inr (3, [.ref r1, .ref r2, .ref r3])), (r1, .inl (cI, 13, .inl G)), (r2, .inl (cI, 13, .inl Bt)), (r3, .inl (cI, 13, .inl C))] := hD
      refine lv_iload_n hx hb xj_C_writeList_30 rfl (lv_at hl 2 rfl) ?_
      refine lv_iconst (v := nI 1) hx hb xj_C_writeList_31 (by decide) ?_
      refine xr_isub hx hb (by omega) xj_C_writeList_32 ?_
      refine lv_iload hx hb xj_C_writeList_33 (lv_at hl 5 rfl) ?_
      refine xr_isub hx hb (by omega) xj_C_writeList_35 ?_
      refine lv_istore (lv' := [(7, .int (nI ((q0 - 1) - i))), (0, .ref c0), (1, .ref r0), (3, .int (nI q0)), (4, .int (nI a)), (5, .int (xf_bI fl)), (6, .int (nI i))]) hx hb xj_C_writeList_36 hl (by decide) rfl (fun ls hl => ?_)
      refine lv_iload hx hb xj_C_writeList_38 (lv_at hl 5 rfl) ?_
      refine xr_ifeq (tgt := 61) hx hb xj_C_writeList_40 rfl (fun h40 => ?_) (fun h40 => ?_)
      · -- 61
        refine lv_aload_n hx hb xj_C_writeList_61 rfl (lv_at hl 1 rfl) ?_
        refine lv_aload_n hx hb xj_C_writeList_62 rfl (lv_at hl 2 rfl) ?_
        refine lv_iload hx hb xj_C_writeList_63 (lv_at hl 4 rfl) ?_
        refine lv_iload hx hb xj_C_writeList_65 (lv_at hl 0 rfl) ?_
        refine xc_callV (av := [.ref r0, .int (nI a), .int (nI ((q0 - 1) - i))]) (rest := []) hAt hT (xt_C_nextWithBetter l D cI cZ cJ c0 c1 c2 c3 Hm Hb (upd Ls2 i (nI a)) r0 r1 r2 r3 G Bt C a ((q0 - 1) - i) (by omega) (by omega)) xw_419 xw_4 xw_422 xw_421 xs_C_nextWithBetter (C0 := xn_C) (q0 := 0) rfl rfl (na := 3) rfl (by decide +kernel) ⟨Nat.le_of_ble_eq_true rfl, Nat.le_of_ble_eq_true rfl⟩ (hP.sub (ws' := [(c0, .inr (1, [.ref c1, .ref c2, .ref c3])), (c1, .inl (cI, 13, .inl Hm)), (c2, .inl (cI, 13, .inl Hb)), (c3, .inl (cI, 12, .inl (upd Ls2 i (nI a)))), (r0, .inr (3, [.ref r1, .ref r2, .ref r3])), (r1, .inl (cI, 13, .inl G)), (r2, .inl (cI, 13, .inl Bt)), (r3, .inl (cI, 13, .inl C))]) [0, 1, 2, 3, 4, 5, 6, 7] rfl) hK hl.1 (Nat.le_of_ble_eq_true rfl) ⟨Nat.zero_le _, Nat.zero_le _⟩ xj_C_writeList_67 ?_
        refine lv_istore (lv' := [(8, .int (G a &&& Hb ((q0 - 1) - i) ||| Bt a &&& Hm ((q0 - 1) - i))), (7, .int (nI ((q0 - 1) - i))), (0, .ref c0), (1, .ref r0), (3, .int (nI q0)), (4, .int (nI a)), (5, .int (xf_bI fl)), (6, .int (nI i))]) hx hb xj_C_writeList_70 hl (by decide) rfl (fun ls hl => ?_)
        refine lv_iload hx hb xj_C_writeList_72 (lv_at hl 0 rfl) ?_
        refine lv_iconst (v := nI 0) hx hb xj_C_writeList_74 (by decide) ?_
        refine xc_callSN (av := [.int (G a &&& Hb ((q0 - 1) - i) ||| Bt a &&& Hm ((q0 - 1) - i)), .int (nI 0)]) (rest := []) hAt hT (xt_L_member l D cI cZ cJ (G a &&& Hb ((q0 - 1) - i) ||| Bt a &&& Hm ((q0 - 1) - i)) (nI 0)) (List.mem_of_getElem? (i := 31) rfl) xw_1 xw_430 xw_429 (na := 2) rfl (by decide +kernel) ⟨Nat.le_of_ble_eq_true rfl, Nat.le_of_ble_eq_true rfl⟩ (hP.sub (ws' := []) [] rfl) hK hl.1 (Nat.le_of_ble_eq_true rfl) ⟨Nat.zero_le _, Nat.zero_le _⟩ xj_C_writeList_75 ?_
        refine xr_top (y := nI (Aq (i + 1))) (by have e := (hsq.2.2 i (by omega)).2.2.1; rw [← e]; unfold xk_nx; rw [← hb0, h40, if_neg (by decide), ← ha, (hh _ (by omega)).1, (hh _ (by omega)).2]) ?_
        refine lv_istore (lv' := [(9, .int (nI (Aq (i + 1)))), (8, .int (G a &&& Hb ((q0 - 1) - i) ||| Bt a &&& Hm ((q0 - 1) - i))), (7, .int (nI ((q0 - 1) - i))), (0, .ref c0), (1, .ref r0), (3, .int (nI q0)), (4, .int (nI a)), (5, .int (xf_bI fl)), (6, .int (nI i))]) hx hb xj_C_writeList_78 hl (by decide) rfl (fun ls hl => ?_)
        refine lv_iload hx hb xj_C_writeList_80 (lv_at hl 7 rfl) ?_
        refine xr_ifne (tgt := 106) hx hb xj_C_writeList_82 rfl (fun h82 => ?_) (fun h82 => ?_)
        · -- 106
          refine lv_iconst (v := nI 1) hx hb xj_C_writeList_106 (by decide) ?_
          refine lv_goto (tgt := 111) hx hb xj_C_writeList_107 rfl ?_
          refine lv_istore (lv' := [(5, .int (nI 1)), (9, .int (nI (Aq (i + 1)))), (8, .int (G a &&& Hb ((q0 - 1) - i) ||| Bt a &&& Hm ((q0 - 1) - i))), (7, .int (nI ((q0 - 1) - i))), (0, .ref c0), (1, .ref r0), (3, .int (nI q0)), (4, .int (nI a)), (6, .int (nI i))]) hx hb xj_C_writeList_111 hl (by decide) rfl (fun ls hl => ?_)
          refine lv_iload hx hb xj_C_writeList_113 (lv_at hl 1 rfl) ?_
          refine lv_istore (lv' := [(4, .int (nI (Aq (i + 1)))), (5, .int (nI 1)), (9, .int (nI (Aq (i + 1)))), (8, .int (G a &&& Hb ((q0 - 1) - i) ||| Bt a &&& Hm ((q0 - 1) - i))), (7, .int (nI ((q0 - 1) - i))), (0, .ref c0), (1, .ref r0), (3, .int (nI q0)), (6, .int (nI i))]) hx hb xj_C_writeList_115 hl (by decide) rfl (fun ls hl => ?_)
          refine lv_iinc (k := 8) (v := nI (i + 1)) (lv' := [(6, .int (nI (i + 1))), (4, .int (nI (Aq (i + 1)))), (5, .int (nI 1)), (9, .int (nI (Aq (i + 1)))), (8, .int (G a &&& Hb ((q0 - 1) - i) ||| Bt a &&& Hm ((q0 - 1) - i))), (7, .int (nI ((q0 - 1) - i))), (0, .ref c0), (1, .ref r0), (3, .int (nI q0))]) hx hb xj_C_writeList_117 hl rfl (xr_inc _) (by decide) rfl (fun ls hl => ?_)
          refine lv_goto (tgt := 9) hx hb xj_C_writeList_120 rfl ?_
          exact ih9 (i + 1) (Aq (i + 1)) true (upd Ls2 i (nI a)) ls _ _ (by omega) rfl (by rw [(hsq.2.2 i (by omega)).2.2.2, ← hb0, h82]; rfl) (xk_lt_s (g := fun j => nI (Aq j)) hls (by rw [ha])) (fun _ => (hsq.2.2 i (by omega)).2.1) (lv_sub hl [6, 7, 8, 1, 2, 0] rfl) hP hD hS
        · -- 85
          refine lv_iload hx hb xj_C_writeList_85 (lv_at hl 0 rfl) ?_
          refine lv_iconst (v := (-1)) hx hb xj_C_writeList_87 (by decide) ?_
          refine lv_icmp_eq (tgt := 110) hx hb xj_C_writeList_88 rfl (fun h88 => absurd h88 (xk_n1 (by have := (hsq.2.2 i (by omega)).2.1; omega))) (fun h88 => ?_)
          refine lv_aload_n hx hb xj_C_writeList_91 rfl (lv_at hl 4 rfl) ?_
          refine va_getN (D := D) (ci := 3) (v := .ref r2) (C := xn_R) (T := xn_TR) (N := 3) hx hb hgs xw_uR hown hK.1 hP 4 rfl rfl 1 (by decide) (va_Nw.use rfl (hK.2 _ (List.mem_of_getElem? (i := 6) rfl))) (fun _ h9 => h9) rfl xj_C_writeList_92 ?_
          refine lv_iload hx hb xj_C_writeList_95 (lv_at hl 6 rfl) ?_
          refine xr_iald hx hb hK.1 hP 6 0 rfl rfl (by have := hin (by omega); omega) (by decide) xj_C_writeList_97 ?_
          refine lv_iload hx hb xj_C_writeList_98 (lv_at hl 0 rfl) ?_
          refine xc_callSN (av := [.int (Bt a), .int (nI (Aq (i + 1)))]) (rest := []) hAt hT (xt_L_has l D cI cZ cJ (Bt a) (nI (Aq (i + 1)))) (List.mem_of_getElem? (i := 30) rfl) xw_1 xw_157 xw_156 (na := 2) rfl (by decide +kernel) ⟨Nat.le_of_ble_eq_true rfl, Nat.le_of_ble_eq_true rfl⟩ (hP.sub (ws' := []) [] rfl) hK hl.1 (Nat.le_of_ble_eq_true rfl) ⟨Nat.zero_le _, Nat.zero_le _⟩ xj_C_writeList_100 ?_
          refine xr_ifeq (tgt := 110) hx hb xj_C_writeList_103 rfl (fun h103 => ?_) (fun h103 => ?_)
          · -- 110
            refine lv_iconst (v := nI 0) hx hb xj_C_writeList_110 (by decide) ?_
            refine lv_istore (lv' := [(5, .int (nI 0)), (9, .int (nI (Aq (i + 1)))), (8, .int (G a &&& Hb ((q0 - 1) - i) ||| Bt a &&& Hm ((q0 - 1) - i))), (7, .int (nI ((q0 - 1) - i))), (0, .ref c0), (1, .ref r0), (3, .int (nI q0)), (4, .int (nI a)), (6, .int (nI i))]) hx hb xj_C_writeList_111 hl (by decide) rfl (fun ls hl => ?_)
            refine lv_iload hx hb xj_C_writeList_113 (lv_at hl 1 rfl) ?_
            refine lv_istore (lv' := [(4, .int (nI (Aq (i + 1)))), (5, .int (nI 0)), (9, .int (nI (Aq (i + 1)))), (8, .int (G a &&& Hb ((q0 - 1) - i) ||| Bt a &&& Hm ((q0 - 1) - i))), (7, .int (nI ((q0 - 1) - i))), (0, .ref c0), (1, .ref r0), (3, .int (nI q0)), (6, .int (nI i))]) hx hb xj_C_writeList_115 hl (by decide) rfl (fun ls hl => ?_)
            refine lv_iinc (k := 8) (v := nI (i + 1)) (lv' := [(6, .int (nI (i + 1))), (4, .int (nI (Aq (i + 1)))), (5, .int (nI 0)), (9, .int (nI (Aq (i + 1)))), (8, .int (G a &&& Hb ((q0 - 1) - i) ||| Bt a &&& Hm ((q0 - 1) - i))), (7, .int (nI ((q0 - 1) - i))), (0, .ref c0), (1, .ref r0), (3, .int (nI q0))]) hx hb xj_C_writeList_117 hl rfl (xr_inc _) (by decide) rfl (fun ls hl => ?_)
            refine lv_goto (tgt := 9) hx hb xj_C_writeList_120 rfl ?_
            exact ih9 (i + 1) (Aq (i + 1)) false (upd Ls2 i (nI a)) ls _ _ (by omega) rfl (by rw [(hsq.2.2 i (by omega)).2.2.2, ← hb0, ← ha, h82, h103]; rfl) (xk_lt_s (g := fun j => nI (Aq j)) hls (by rw [ha])) (fun _ => (hsq.2.2 i (by omega)).2.1) (lv_sub hl [6, 7, 8, 1, 2, 0] rfl) hP hD hS
          · -- 106
            refine lv_iconst (v := nI 1) hx hb xj_C_writeList_106 (by decide) ?_
            refine lv_goto (tgt := 111) hx hb xj_C_writeList_107 rfl ?_
            refine lv_istore (lv' := [(5, .int (nI 1)), (9, .int (nI (Aq (i + 1)))), (8, .int (G a &&& Hb ((q0 - 1) - i) ||| Bt a &&& Hm ((q0 - 1) - i))), (7, .int (nI ((q0 - 1) - i))), (0, .ref c0), (1, .ref r0), (3, .int (nI q0)), (4, .int (nI a)), (6, .int (nI i))]) hx hb xj_C_writeList_111 hl (by decide) rfl (fun ls hl => ?_)
            refine lv_iload hx hb xj_C_writeList_113 (lv_at hl 1 rfl) ?_
            refine lv_istore (lv' := [(4, .int (nI (Aq (i + 1)))), (5, .int (nI 1)), (9, .int (nI (Aq (i + 1)))), (8, .int (G a &&& Hb ((q0 - 1) - i) ||| Bt a &&& Hm ((q0 - 1) - i))), (7, .int (nI ((q0 - 1) - i))), (0, .ref c0), (1, .ref r0), (3, .int (nI q0)), (6, .int (nI i))]) hx hb xj_C_writeList_115 hl (by decide) rfl (fun ls hl => ?_)
            refine lv_iinc (k := 8) (v := nI (i + 1)) (lv' := [(6, .int (nI (i + 1))), (4, .int (nI (Aq (i + 1)))), (5, .int (nI 1)), (9, .int (nI (Aq (i + 1)))), (8, .int (G a &&& Hb ((q0 - 1) - i) ||| Bt a &&& Hm ((q0 - 1) - i))), (7, .int (nI ((q0 - 1) - i))), (0, .ref c0), (1, .ref r0), (3, .int (nI q0))]) hx hb xj_C_writeList_117 hl rfl (xr_inc _) (by decide) rfl (fun ls hl => ?_)
            refine lv_goto (tgt := 9) hx hb xj_C_writeList_120 rfl ?_
            exact ih9 (i + 1) (Aq (i + 1)) true (upd Ls2 i (nI a)) ls _ _ (by omega) rfl (by rw [(hsq.2.2 i (by omega)).2.2.2, ← hb0, ← ha, h82, h103]; rfl) (xk_lt_s (g := fun j => nI (Aq j)) hls (by rw [ha])) (fun _ => (hsq.2.2 i (by omega)).2.1) (lv_sub hl [6, 7, 8, 1, 2, 0] rfl) hP hD hS
      · -- 43
        refine lv_aload_n hx hb xj_C_writeList_43 rfl (lv_at hl 2 rfl) ?_
        refine va_getN (D := D) (ci := 3) (v := .ref r1) (C := xn_R) (T := xn_TR) (N := 3) hx hb hgs xw_uR hown hK.1 hP 4 rfl rfl 0 (by decide) (va_Nw.use rfl (hK.2 _ (List.mem_of_getElem? (i := 5) rfl))) (fun _ h9 => h9) rfl xj_C_writeList_44 ?_
        refine lv_iload hx hb xj_C_writeList_47 (lv_at hl 4 rfl) ?_
        refine xr_iald hx hb hK.1 hP 5 0 rfl rfl (by have := hin (by omega); omega) (by decide) xj_C_writeList_49 ?_
        refine lv_aload_n hx hb xj_C_writeList_50 rfl (lv_at hl 1 rfl) ?_
        refine va_get (D := D) (ci := 1) (v := .ref c1) (C := xn_C) (T := xn_TC) (N := 3) hx hb hgs xw_uC hown hK.1 hP 0 rfl rfl 0 (by decide) (hgs _ xw_70) (fun _ h9 => h9) rfl xj_C_writeList_51 ?_
        refine lv_iload hx hb xj_C_writeList_54 (lv_at hl 0 rfl) ?_
        refine xr_iald hx hb hK.1 hP 1 0 rfl rfl (by omega) (by decide) xj_C_writeList_56 ?_
        refine lv_iand hx hb xj_C_writeList_57 ?_
        refine lv_goto (tgt := 70) hx hb xj_C_writeList_58 rfl ?_
        refine lv_istore (lv' := [(8, .int ((G a) &&& (Hm ((q0 - 1) - i)))), (7, .int (nI ((q0 - 1) - i))), (0, .ref c0), (1, .ref r0), (3, .int (nI q0)), (4, .int (nI a)), (5, .int (xf_bI fl)), (6, .int (nI i))]) hx hb xj_C_writeList_70 hl (by decide) rfl (fun ls hl => ?_)
        refine lv_iload hx hb xj_C_writeList_72 (lv_at hl 0 rfl) ?_
        refine lv_iconst (v := nI 0) hx hb xj_C_writeList_74 (by decide) ?_
        refine xc_callSN (av := [.int ((G a) &&& (Hm ((q0 - 1) - i))), .int (nI 0)]) (rest := []) hAt hT (xt_L_member l D cI cZ cJ ((G a) &&& (Hm ((q0 - 1) - i))) (nI 0)) (List.mem_of_getElem? (i := 31) rfl) xw_1 xw_430 xw_429 (na := 2) rfl (by decide +kernel) ⟨Nat.le_of_ble_eq_true rfl, Nat.le_of_ble_eq_true rfl⟩ (hP.sub (ws' := []) [] rfl) hK hl.1 (Nat.le_of_ble_eq_true rfl) ⟨Nat.zero_le _, Nat.zero_le _⟩ xj_C_writeList_75 ?_
        refine xr_top (y := nI (Aq (i + 1))) (by have e := (hsq.2.2 i (by omega)).2.2.1; rw [← e]; unfold xk_nx; rw [← hb0, h40, if_pos rfl, ← ha, (hh _ (by omega)).1]) ?_
        refine lv_istore (lv' := [(9, .int (nI (Aq (i + 1)))), (8, .int ((G a) &&& (Hm ((q0 - 1) - i)))), (7, .int (nI ((q0 - 1) - i))), (0, .ref c0), (1, .ref r0), (3, .int (nI q0)), (4, .int (nI a)), (5, .int (xf_bI fl)), (6, .int (nI i))]) hx hb xj_C_writeList_78 hl (by decide) rfl (fun ls hl => ?_)
        refine lv_iload hx hb xj_C_writeList_80 (lv_at hl 7 rfl) ?_
        refine xr_ifne (tgt := 106) hx hb xj_C_writeList_82 rfl (fun h82 => ?_) (fun h82 => ?_)
        · -- 106
          refine lv_iconst (v := nI 1) hx hb xj_C_writeList_106 (by decide) ?_
          refine lv_goto (tgt := 111) hx hb xj_C_writeList_107 rfl ?_
          refine lv_istore (lv' := [(5, .int (nI 1)), (9, .int (nI (Aq (i + 1)))), (8, .int ((G a) &&& (Hm ((q0 - 1) - i)))), (7, .int (nI ((q0 - 1) - i))), (0, .ref c0), (1, .ref r0), (3, .int (nI q0)), (4, .int (nI a)), (6, .int (nI i))]) hx hb xj_C_writeList_111 hl (by decide) rfl (fun ls hl => ?_)
          refine lv_iload hx hb xj_C_writeList_113 (lv_at hl 1 rfl) ?_
          refine lv_istore (lv' := [(4, .int (nI (Aq (i + 1)))), (5, .int (nI 1)), (9, .int (nI (Aq (i + 1)))), (8, .int ((G a) &&& (Hm ((q0 - 1) - i)))), (7, .int (nI ((q0 - 1) - i))), (0, .ref c0), (1, .ref r0), (3, .int (nI q0)), (6, .int (nI i))]) hx hb xj_C_writeList_115 hl (by decide) rfl (fun ls hl => ?_)
          refine lv_iinc (k := 8) (v := nI (i + 1)) (lv' := [(6, .int (nI (i + 1))), (4, .int (nI (Aq (i + 1)))), (5, .int (nI 1)), (9, .int (nI (Aq (i + 1)))), (8, .int ((G a) &&& (Hm ((q0 - 1) - i)))), (7, .int (nI ((q0 - 1) - i))), (0, .ref c0), (1, .ref r0), (3, .int (nI q0))]) hx hb xj_C_writeList_117 hl rfl (xr_inc _) (by decide) rfl (fun ls hl => ?_)
          refine lv_goto (tgt := 9) hx hb xj_C_writeList_120 rfl ?_
          exact ih9 (i + 1) (Aq (i + 1)) true (upd Ls2 i (nI a)) ls _ _ (by omega) rfl (by rw [(hsq.2.2 i (by omega)).2.2.2, ← hb0, h82]; rfl) (xk_lt_s (g := fun j => nI (Aq j)) hls (by rw [ha])) (fun _ => (hsq.2.2 i (by omega)).2.1) (lv_sub hl [6, 7, 8, 1, 2, 0] rfl) hP hD hS
        · -- 85
          refine lv_iload hx hb xj_C_writeList_85 (lv_at hl 0 rfl) ?_
          refine lv_iconst (v := (-1)) hx hb xj_C_writeList_87 (by decide) ?_
          refine lv_icmp_eq (tgt := 110) hx hb xj_C_writeList_88 rfl (fun h88 => absurd h88 (xk_n1 (by have := (hsq.2.2 i (by omega)).2.1; omega))) (fun h88 => ?_)
          refine lv_aload_n hx hb xj_C_writeList_91 rfl (lv_at hl 4 rfl) ?_
          refine va_getN (D := D) (ci := 3) (v := .ref r2) (C := xn_R) (T := xn_TR) (N := 3) hx hb hgs xw_uR hown hK.1 hP 4 rfl rfl 1 (by decide) (va_Nw.use rfl (hK.2 _ (List.mem_of_getElem? (i := 6) rfl))) (fun _ h9 => h9) rfl xj_C_writeList_92 ?_
          refine lv_iload hx hb xj_C_writeList_95 (lv_at hl 6 rfl) ?_
          refine xr_iald hx hb hK.1 hP 6 0 rfl rfl (by have := hin (by omega); omega) (by decide) xj_C_writeList_97 ?_
          refine lv_iload hx hb xj_C_writeList_98 (lv_at hl 0 rfl) ?_
          refine xc_callSN (av := [.int (Bt a), .int (nI (Aq (i + 1)))]) (rest := []) hAt hT (xt_L_has l D cI cZ cJ (Bt a) (nI (Aq (i + 1)))) (List.mem_of_getElem? (i := 30) rfl) xw_1 xw_157 xw_156 (na := 2) rfl (by decide +kernel) ⟨Nat.le_of_ble_eq_true rfl, Nat.le_of_ble_eq_true rfl⟩ (hP.sub (ws' := []) [] rfl) hK hl.1 (Nat.le_of_ble_eq_true rfl) ⟨Nat.zero_le _, Nat.zero_le _⟩ xj_C_writeList_100 ?_
          refine xr_ifeq (tgt := 110) hx hb xj_C_writeList_103 rfl (fun h103 => ?_) (fun h103 => ?_)
          · -- 110
            refine lv_iconst (v := nI 0) hx hb xj_C_writeList_110 (by decide) ?_
            refine lv_istore (lv' := [(5, .int (nI 0)), (9, .int (nI (Aq (i + 1)))), (8, .int ((G a) &&& (Hm ((q0 - 1) - i)))), (7, .int (nI ((q0 - 1) - i))), (0, .ref c0), (1, .ref r0), (3, .int (nI q0)), (4, .int (nI a)), (6, .int (nI i))]) hx hb xj_C_writeList_111 hl (by decide) rfl (fun ls hl => ?_)
            refine lv_iload hx hb xj_C_writeList_113 (lv_at hl 1 rfl) ?_
            refine lv_istore (lv' := [(4, .int (nI (Aq (i + 1)))), (5, .int (nI 0)), (9, .int (nI (Aq (i + 1)))), (8, .int ((G a) &&& (Hm ((q0 - 1) - i)))), (7, .int (nI ((q0 - 1) - i))), (0, .ref c0), (1, .ref r0), (3, .int (nI q0)), (6, .int (nI i))]) hx hb xj_C_writeList_115 hl (by decide) rfl (fun ls hl => ?_)
            refine lv_iinc (k := 8) (v := nI (i + 1)) (lv' := [(6, .int (nI (i + 1))), (4, .int (nI (Aq (i + 1)))), (5, .int (nI 0)), (9, .int (nI (Aq (i + 1)))), (8, .int ((G a) &&& (Hm ((q0 - 1) - i)))), (7, .int (nI ((q0 - 1) - i))), (0, .ref c0), (1, .ref r0), (3, .int (nI q0))]) hx hb xj_C_writeList_117 hl rfl (xr_inc _) (by decide) rfl (fun ls hl => ?_)
            refine lv_goto (tgt := 9) hx hb xj_C_writeList_120 rfl ?_
            exact ih9 (i + 1) (Aq (i + 1)) false (upd Ls2 i (nI a)) ls _ _ (by omega) rfl (by rw [(hsq.2.2 i (by omega)).2.2.2, ← hb0, ← ha, h82, h103]; rfl) (xk_lt_s (g := fun j => nI (Aq j)) hls (by rw [ha])) (fun _ => (hsq.2.2 i (by omega)).2.1) (lv_sub hl [6, 7, 8, 1, 2, 0] rfl) hP hD hS
          · -- 106
            refine lv_iconst (v := nI 1) hx hb xj_C_writeList_106 (by decide) ?_
            refine lv_goto (tgt := 111) hx hb xj_C_writeList_107 rfl ?_
            refine lv_istore (lv' := [(5, .int (nI 1)), (9, .int (nI (Aq (i + 1)))), (8, .int ((G a) &&& (Hm ((q0 - 1) - i)))), (7, .int (nI ((q0 - 1) - i))), (0, .ref c0), (1, .ref r0), (3, .int (nI q0)), (4, .int (nI a)), (6, .int (nI i))]) hx hb xj_C_writeList_111 hl (by decide) rfl (fun ls hl => ?_)
            refine lv_iload hx hb xj_C_writeList_113 (lv_at hl 1 rfl) ?_
            refine lv_istore (lv' := [(4, .int (nI (Aq (i + 1)))), (5, .int (nI 1)), (9, .int (nI (Aq (i + 1)))), (8, .int ((G a) &&& (Hm ((q0 - 1) - i)))), (7, .int (nI ((q0 - 1) - i))), (0, .ref c0), (1, .ref r0), (3, .int (nI q0)), (6, .int (nI i))]) hx hb xj_C_writeList_115 hl (by decide) rfl (fun ls hl => ?_)
            refine lv_iinc (k := 8) (v := nI (i + 1)) (lv' := [(6, .int (nI (i + 1))), (4, .int (nI (Aq (i + 1)))), (5, .int (nI 1)), (9, .int (nI (Aq (i + 1)))), (8, .int ((G a) &&& (Hm ((q0 - 1) - i)))), (7, .int (nI ((q0 - 1) - i))), (0, .ref c0), (1, .ref r0), (3, .int (nI q0))]) hx hb xj_C_writeList_117 hl rfl (xr_inc _) (by decide) rfl (fun ls hl => ?_)
            refine lv_goto (tgt := 9) hx hb xj_C_writeList_120 rfl ?_
            exact ih9 (i + 1) (Aq (i + 1)) true (upd Ls2 i (nI a)) ls _ _ (by omega) rfl (by rw [(hsq.2.2 i (by omega)).2.2.2, ← hb0, ← ha, h82, h103]; rfl) (xk_lt_s (g := fun j => nI (Aq j)) hls (by rw [ha])) (fun _ => (hsq.2.2 i (by omega)).2.1) (lv_sub hl [6, 7, 8, 1, 2, 0] rfl) hP hD hS
  exact loop9 q0 0 z0 false Ls ls _ _ (by omega) hsq.1.symm hsq.2.1.symm (fun j hj => absurd hj (Nat.not_lt_zero j)) (fun h => by rw [← hsq.1]; exact (hsq.2.2 0 h).1) (lv_sub hl [3, 4, 6, 2, 1, 0] rfl) hP hD hS
