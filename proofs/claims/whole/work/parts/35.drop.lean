/-! walks: DropFinder -/
set_option maxRecDepth 100000 in
set_option maxHeartbeats 4000000 in
theorem xt_I_bitCount (l : Launch) (D : va_G) (cI cZ cJ : ClassId) (x : Int32) : xc_R l xy_I_bitCount xb_I_bitCount 1 .int 0 [.int x] D cI cZ cJ [] (xk_bc x) := by
  refine xc_R_of (by decide) (Nat.le_of_ble_eq_true rfl) rfl ?_
  intro p e s m args below meth c Q ls hAt hP hK hl hret
  obtain ⟨hx, hb, hml, hown, hts, hgs, hlk⟩ := id hAt
  have hT : ∀ w ∈ xw_g, w ∈ xc_ws xy_I_bitCount xb_I_bitCount 1 (some .int) := fun w h => List.mem_cons_of_mem _ h
  have hown : s.vm.findClass "java/lang/Integer" = some m.cls := hown
  have hl : lv_has ls 1 [(0, .int x)] := hl
  refine lv_iload_n hx hb xj_I_bitCount_0 rfl (lv_at hl 0 rfl) ?_
  refine lv_iload_n hx hb xj_I_bitCount_1 rfl (lv_at hl 0 rfl) ?_
  refine lv_iconst (v := nI 1) hx hb xj_I_bitCount_2 (by decide) ?_
  refine lv_iushr hx hb xj_I_bitCount_3 rfl ?_
  refine lv_ldcw (v := nI 1431655765) hx hb hown (hgs _ xw_488) xj_I_bitCount_4 ?_
  refine lv_iand hx hb xj_I_bitCount_7 ?_
  refine lv_isub hx hb xj_I_bitCount_8 ?_
  refine lv_topi (fun x1 e_x1 => ?_)
  refine lv_istore_n (lv' := [(0, .int x1)]) hx hb xj_I_bitCount_9 rfl hl (by decide) rfl (fun ls hl => ?_)
  refine lv_iload_n hx hb xj_I_bitCount_10 rfl (lv_at hl 0 rfl) ?_
  refine lv_ldcw (v := nI 858993459) hx hb hown (hgs _ xw_489) xj_I_bitCount_11 ?_
  refine lv_iand hx hb xj_I_bitCount_14 ?_
  refine lv_iload_n hx hb xj_I_bitCount_15 rfl (lv_at hl 0 rfl) ?_
  refine lv_iconst (v := nI 2) hx hb xj_I_bitCount_16 (by decide) ?_
  refine lv_iushr hx hb xj_I_bitCount_17 rfl ?_
  refine lv_ldcw (v := nI 858993459) hx hb hown (hgs _ xw_489) xj_I_bitCount_18 ?_
  refine lv_iand hx hb xj_I_bitCount_21 ?_
  refine lv_iadd hx hb xj_I_bitCount_22 ?_
  refine lv_topi (fun x2 e_x2 => ?_)
  refine lv_istore_n (lv' := [(0, .int x2)]) hx hb xj_I_bitCount_23 rfl hl (by decide) rfl (fun ls hl => ?_)
  refine lv_iload_n hx hb xj_I_bitCount_24 rfl (lv_at hl 0 rfl) ?_
  refine lv_iload_n hx hb xj_I_bitCount_25 rfl (lv_at hl 0 rfl) ?_
  refine lv_iconst (v := nI 4) hx hb xj_I_bitCount_26 (by decide) ?_
  refine lv_iushr hx hb xj_I_bitCount_27 rfl ?_
  refine lv_iadd hx hb xj_I_bitCount_28 ?_
  refine lv_ldcw (v := nI 252645135) hx hb hown (hgs _ xw_490) xj_I_bitCount_29 ?_
  refine lv_iand hx hb xj_I_bitCount_32 ?_
  refine lv_topi (fun x3 e_x3 => ?_)
  refine lv_istore_n (lv' := [(0, .int x3)]) hx hb xj_I_bitCount_33 rfl hl (by decide) rfl (fun ls hl => ?_)
  refine lv_iload_n hx hb xj_I_bitCount_34 rfl (lv_at hl 0 rfl) ?_
  refine lv_iload_n hx hb xj_I_bitCount_35 rfl (lv_at hl 0 rfl) ?_
  refine lv_bipush (v := nI 8) hx hb xj_I_bitCount_36 (by decide) ?_
  refine lv_iushr hx hb xj_I_bitCount_38 rfl ?_
  refine lv_iadd hx hb xj_I_bitCount_39 ?_
  refine lv_topi (fun x4 e_x4 => ?_)
  refine lv_istore_n (lv' := [(0, .int x4)]) hx hb xj_I_bitCount_40 rfl hl (by decide) rfl (fun ls hl => ?_)
  refine lv_iload_n hx hb xj_I_bitCount_41 rfl (lv_at hl 0 rfl) ?_
  refine lv_iload_n hx hb xj_I_bitCount_42 rfl (lv_at hl 0 rfl) ?_
  refine lv_bipush (v := nI 16) hx hb xj_I_bitCount_43 (by decide) ?_
  refine lv_iushr hx hb xj_I_bitCount_45 rfl ?_
  refine lv_iadd hx hb xj_I_bitCount_46 ?_
  refine lv_topi (fun x5 e_x5 => ?_)
  refine lv_istore_n (lv' := [(0, .int x5)]) hx hb xj_I_bitCount_47 rfl hl (by decide) rfl (fun ls hl => ?_)
  refine lv_iload_n hx hb xj_I_bitCount_48 rfl (lv_at hl 0 rfl) ?_
  refine lv_bipush (v := nI 63) hx hb xj_I_bitCount_49 (by decide) ?_
  refine lv_iand hx hb xj_I_bitCount_51 ?_
  exact xr_top (by rw [e_x5, e_x4, e_x3, e_x2, e_x1]; rfl) (hret _ _ xj_I_bitCount_52)
/-- decide with k days to go -/
def xk_Dk (l : Launch) (D : va_G) (cI cZ cJ : ClassId) (k : Nat) : Prop := ∀ (d0 r0 r1 r2 r3 : Nat) (G Bt C : Nat → Int32) (kp dr fw bs : Nat), kp % 2 ^ k = 0 → dr % 2 ^ k = 0 → kp < 4096 → dr < 4096 → fw < 2 ^ 31 → xc_Wv l xy_D_decide xb_D_decide 5 (4 + k) 0 0 [.ref d0, .ref r0, .int (nI k - nI 1), .int (nI kp), .int (nI dr)] D cI cZ cJ [(d0, .inr (2, [.int (nI fw), .int (nI bs)])), (r0, .inr (3, [.ref r1, .ref r2, .ref r3])), (r1, .inl (cI, 13, .inl G)), (r2, .inl (cI, 13, .inl Bt)), (r3, .inl (cI, 13, .inl C))] (Nat → Int32) (fun _ => True) (fun u => [(d0, .inr (2, [.int (nI ((xd_dec (fun a => xk_sn G Bt (nI a)) k kp dr (fw, bs)).1)), .int (nI ((xd_dec (fun a => xk_sn G Bt (nI a)) k kp dr (fw, bs)).2))])), (r0, .inr (3, [.ref r1, .ref r2, .ref r3])), (r1, .inl (cI, 13, .inl G)), (r2, .inl (cI, 13, .inl Bt)), (r3, .inl (cI, 13, .inl u))])
set_option maxRecDepth 100000 in
set_option maxHeartbeats 4000000 in
theorem xt_D_decide_0 (l : Launch) (D : va_G) (cI cZ cJ : ClassId) (d0 r0 r1 r2 r3 : Nat) (G Bt C : Nat → Int32) (kp dr fw bs : Nat) (hkp : kp % 2 ^ 0 = 0) (hdr : dr % 2 ^ 0 = 0) (hkp2 : kp < 4096) (hdr2 : dr < 4096) (hfw : fw < 2 ^ 31) : xc_Wv l xy_D_decide xb_D_decide 5 (4 + 0) 0 0 [.ref d0, .ref r0, .int (nI 0 - nI 1), .int (nI kp), .int (nI dr)] D cI cZ cJ [(d0, .inr (2, [.int (nI fw), .int (nI bs)])), (r0, .inr (3, [.ref r1, .ref r2, .ref r3])), (r1, .inl (cI, 13, .inl G)), (r2, .inl (cI, 13, .inl Bt)), (r3, .inl (cI, 13, .inl C))] (Nat → Int32) (fun _ => True) (fun u => [(d0, .inr (2, [.int (nI ((xd_dec (fun a => xk_sn G Bt (nI a)) 0 kp dr (fw, bs)).1)), .int (nI ((xd_dec (fun a => xk_sn G Bt (nI a)) 0 kp dr (fw, bs)).2))])), (r0, .inr (3, [.ref r1, .ref r2, .ref r3])), (r1, .inl (cI, 13, .inl G)), (r2, .inl (cI, 13, .inl Bt)), (r3, .inl (cI, 13, .inl u))]) := by
  refine xc_Wv_of (by decide) (Nat.le_of_ble_eq_true rfl) ?_
  intro p e s m args below meth c Q ls A hAt hin hP hK hD hA hS hl hret
  obtain ⟨hx, hb, hml, hown, hts, hgs, hlk⟩ := id hAt
  have hT : ∀ w ∈ xw_g, w ∈ xc_ws xy_D_decide xb_D_decide 5 (none) := fun w h => List.mem_cons_of_mem _ h
  have hown : s.vm.findClass "WishLedger$DropFinder" = some m.cls := hown
  have hpc : xd_pc dr ≤ 13 := xd_c_le _ 13
  obtain ⟨H, hH0⟩ : ∃ H, H = s.heap := ⟨_, rfl⟩
  obtain ⟨locs, hL0⟩ : ∃ locs : List Loc, locs = [] := ⟨_, rfl⟩
  have hP : va_P D xn_cl [(d0, .inr (2, [.int (nI fw), .int (nI bs)])), (r0, .inr (3, [.ref r1, .ref r2, .ref r3])), (r1, .inl (cI, 13, .inl G)), (r2, .inl (cI, 13, .inl Bt)), (r3, .inl (cI, 13, .inl C))] H := by rw [hH0]; exact hP
  have hS : va_S A s.heap H locs := by rw [hH0, hL0]; exact hS
  suffices hgo : W p l e (xc_rm (4 + 0) 0 0) s m args below meth c H locs 0 0 Q (F0 m 0 ls []) by rw [hH0, hL0] at hgo; exact hgo
  clear hH0 hL0
  have hl : lv_has ls 5 [(0, .ref d0), (1, .ref r0), (2, .int (nI 0 - nI 1)), (3, .int (nI kp)), (4, .int (nI dr))] := hl
  refine lv_iload hx hb xj_D_decide_0 (lv_at hl 4 rfl) ?_
  refine xc_callS (av := [.int (nI dr)]) (rest := []) hAt hT (xt_I_bitCount l D cI cZ cJ (nI dr)) xw_485 xw_14 xw_487 xw_486 (na := 1) rfl (by decide +kernel) ⟨Nat.le_of_ble_eq_true rfl, Nat.le_of_ble_eq_true rfl⟩ (hP.sub (ws' := []) [] rfl) hK hl.1 (Nat.le_of_ble_eq_true rfl) ⟨Nat.zero_le _, Nat.zero_le _⟩ xj_D_decide_2 ?_
  refine xr_top (y := nI (xd_pc dr)) (xk_bc_pc dr hdr2) ?_
  refine lv_aload_n hx hb xj_D_decide_5 rfl (lv_at hl 0 rfl) ?_
  refine va_get (D := D) (ci := 2) (v := .int (nI fw)) (C := xn_D) (T := xn_TD) (N := 2) hx hb hgs xw_uD hown hK.1 hP 0 rfl rfl 0 (by decide) (hgs _ xw_87) (fun _ h9 => h9) rfl xj_D_decide_6 ?_
  refine xr_lt (tgt := 13) hx hb (by omega) (by omega) xj_D_decide_9 rfl (fun h9 => ?_) (fun h9 => ?_)
  · -- 13
    refine lv_iload_n hx hb xj_D_decide_13 rfl (lv_at hl 2 rfl) ?_
    refine lv_if_ge (tgt := 33) hx hb xj_D_decide_14 rfl (fun h14 => absurd h14 (by decide)) (fun h14 => ?_)
    refine lv_aload_n hx hb xj_D_decide_17 rfl (lv_at hl 0 rfl) ?_
    refine lv_iload hx hb xj_D_decide_18 (lv_at hl 4 rfl) ?_
    refine xc_callS (av := [.int (nI dr)]) (rest := [.ref d0]) hAt hT (xt_I_bitCount l D cI cZ cJ (nI dr)) xw_485 xw_14 xw_487 xw_486 (na := 1) rfl (by decide +kernel) ⟨Nat.le_of_ble_eq_true rfl, Nat.le_of_ble_eq_true rfl⟩ (hP.sub (ws' := []) [] rfl) hK hl.1 (Nat.le_of_ble_eq_true rfl) ⟨Nat.zero_le _, Nat.zero_le _⟩ xj_D_decide_20 ?_
    refine xr_top (y := nI (xd_pc dr)) (xk_bc_pc dr hdr2) ?_
    refine va_put (D := D) (ci := 2) (v := .int (nI (xd_pc dr))) (ty := .int) (C := xn_D) (T := xn_TD) (N := 2) hx hb hgs xw_uD xn_tD xn_oD xn_nD hown hK.1 hP hD hS 0 rfl rfl 0 (by decide) (hgs _ xw_87) (fun _ h9 => h9) rfl (by decide +kernel) rfl rfl (Nat.le_of_ble_eq_true rfl) xj_D_decide_23 (fun H locs hP hD hS => ?_)
    have hP : va_P D xn_cl [(d0, .inr (2, [.int (nI (xd_pc dr)), .int (nI bs)])), (r0, .inr (3, [.ref r1, .ref r2, .ref r3])), (r1, .inl (cI, 13, .inl G)), (r2, .inl (cI, 13, .inl Bt)), (r3, .inl (cI, 13, .inl C))] H := hP
    have hD : va_D A [(d0, .inr (2, [.int (nI (xd_pc dr)), .int (nI bs)])), (r0, .inr (3, [.ref r1, .ref r2, .ref r3])), (r1, .inl (cI, 13, .inl G)), (r2, .inl (cI, 13, .inl Bt)), (r3, .inl (cI, 13, .inl C))] := hD
    refine lv_aload_n hx hb xj_D_decide_26 rfl (lv_at hl 0 rfl) ?_
    refine lv_iload hx hb xj_D_decide_27 (lv_at hl 4 rfl) ?_
    refine va_put (D := D) (ci := 2) (v := .int (nI dr)) (ty := .int) (C := xn_D) (T := xn_TD) (N := 2) hx hb hgs xw_uD xn_tD xn_oD xn_nD hown hK.1 hP hD hS 0 rfl rfl 1 (by decide) (hgs _ xw_88) (fun _ h9 => h9) rfl (by decide +kernel) rfl rfl (Nat.le_of_ble_eq_true rfl) xj_D_decide_29 (fun H locs hP hD hS => ?_)
    have hP : va_P D xn_cl [(d0, .inr (2, [.int (nI (xd_pc dr)), .int (nI dr)])), (r0, .inr (3, [.ref r1, .ref r2, .ref r3])), (r1, .inl (cI, 13, .inl G)), (r2, .inl (cI, 13, .inl Bt)), (r3, .inl (cI, 13, .inl C))] H := hP
    have hD : va_D A [(d0, .inr (2, [.int (nI (xd_pc dr)), .int (nI dr)])), (r0, .inr (3, [.ref r1, .ref r2, .ref r3])), (r1, .inl (cI, 13, .inl G)), (r2, .inl (cI, 13, .inl Bt)), (r3, .inl (cI, 13, .inl C))] := hD
    have e9 : xd_dec (fun a => xk_sn G Bt (nI a)) 0 kp dr (fw, bs) = (xd_pc dr, dr) := if_neg (by omega)
    have hP : va_P D xn_cl [(d0, .inr (2, [.int (nI ((xd_dec (fun a => xk_sn G Bt (nI a)) 0 kp dr (fw, bs)).1)), .int (nI ((xd_dec (fun a => xk_sn G Bt (nI a)) 0 kp dr (fw, bs)).2))])), (r0, .inr (3, [.ref r1, .ref r2, .ref r3])), (r1, .inl (cI, 13, .inl G)), (r2, .inl (cI, 13, .inl Bt)), (r3, .inl (cI, 13, .inl C))] H := by rw [e9]; exact hP
    have hD : va_D A [(d0, .inr (2, [.int (nI ((xd_dec (fun a => xk_sn G Bt (nI a)) 0 kp dr (fw, bs)).1)), .int (nI ((xd_dec (fun a => xk_sn G Bt (nI a)) 0 kp dr (fw, bs)).2))])), (r0, .inr (3, [.ref r1, .ref r2, .ref r3])), (r1, .inl (cI, 13, .inl G)), (r2, .inl (cI, 13, .inl Bt)), (r3, .inl (cI, 13, .inl C))] := by rw [e9]; exact hD
    exact hret C H locs _ ls trivial hP hD hS xj_D_decide_32
  · -- 12
    have e9 : xd_dec (fun a => xk_sn G Bt (nI a)) 0 kp dr (fw, bs) = (fw, bs) := if_pos h9
    have hP : va_P D xn_cl [(d0, .inr (2, [.int (nI ((xd_dec (fun a => xk_sn G Bt (nI a)) 0 kp dr (fw, bs)).1)), .int (nI ((xd_dec (fun a => xk_sn G Bt (nI a)) 0 kp dr (fw, bs)).2))])), (r0, .inr (3, [.ref r1, .ref r2, .ref r3])), (r1, .inl (cI, 13, .inl G)), (r2, .inl (cI, 13, .inl Bt)), (r3, .inl (cI, 13, .inl C))] H := by rw [e9]; exact hP
    have hD : va_D A [(d0, .inr (2, [.int (nI ((xd_dec (fun a => xk_sn G Bt (nI a)) 0 kp dr (fw, bs)).1)), .int (nI ((xd_dec (fun a => xk_sn G Bt (nI a)) 0 kp dr (fw, bs)).2))])), (r0, .inr (3, [.ref r1, .ref r2, .ref r3])), (r1, .inl (cI, 13, .inl G)), (r2, .inl (cI, 13, .inl Bt)), (r3, .inl (cI, 13, .inl C))] := by rw [e9]; exact hD
    exact hret C H locs _ ls trivial hP hD hS xj_D_decide_12
set_option maxRecDepth 100000 in
set_option maxHeartbeats 4000000 in
theorem xt_D_decide_s (l : Launch) (D : va_G) (cI cZ cJ : ClassId) (k : Nat) (hk : k < 12) (ih : xk_Dk l D cI cZ cJ k) (d0 r0 r1 r2 r3 : Nat) (G Bt C : Nat → Int32) (kp dr fw bs : Nat) (hkp : kp % 2 ^ (k + 1) = 0) (hdr : dr % 2 ^ (k + 1) = 0) (hkp2 : kp < 4096) (hdr2 : dr < 4096) (hfw : fw < 2 ^ 31) : xc_Wv l xy_D_decide xb_D_decide 5 (4 + (k + 1)) 0 0 [.ref d0, .ref r0, .int (nI k), .int (nI kp), .int (nI dr)] D cI cZ cJ [(d0, .inr (2, [.int (nI fw), .int (nI bs)])), (r0, .inr (3, [.ref r1, .ref r2, .ref r3])), (r1, .inl (cI, 13, .inl G)), (r2, .inl (cI, 13, .inl Bt)), (r3, .inl (cI, 13, .inl C))] (Nat → Int32) (fun _ => True) (fun u => [(d0, .inr (2, [.int (nI ((xd_dec (fun a => xk_sn G Bt (nI a)) (k + 1) kp dr (fw, bs)).1)), .int (nI ((xd_dec (fun a => xk_sn G Bt (nI a)) (k + 1) kp dr (fw, bs)).2))])), (r0, .inr (3, [.ref r1, .ref r2, .ref r3])), (r1, .inl (cI, 13, .inl G)), (r2, .inl (cI, 13, .inl Bt)), (r3, .inl (cI, 13, .inl u))]) := by
  refine xc_Wv_of (by decide) (Nat.le_of_ble_eq_true rfl) ?_
  intro p e s m args below meth c Q ls A hAt hin hP hK hD hA hS hl hret
  obtain ⟨hx, hb, hml, hown, hts, hgs, hlk⟩ := id hAt
  have hT : ∀ w ∈ xw_g, w ∈ xc_ws xy_D_decide xb_D_decide 5 (none) := fun w h => List.mem_cons_of_mem _ h
  have hown : s.vm.findClass "WishLedger$DropFinder" = some m.cls := hown
  have hpc : xd_pc dr ≤ 13 := xd_c_le _ 13
  obtain ⟨H, hH0⟩ : ∃ H, H = s.heap := ⟨_, rfl⟩
  obtain ⟨locs, hL0⟩ : ∃ locs : List Loc, locs = [] := ⟨_, rfl⟩
  have hP : va_P D xn_cl [(d0, .inr (2, [.int (nI fw), .int (nI bs)])), (r0, .inr (3, [.ref r1, .ref r2, .ref r3])), (r1, .inl (cI, 13, .inl G)), (r2, .inl (cI, 13, .inl Bt)), (r3, .inl (cI, 13, .inl C))] H := by rw [hH0]; exact hP
  have hS : va_S A s.heap H locs := by rw [hH0, hL0]; exact hS
  suffices hgo : W p l e (xc_rm (4 + (k + 1)) 0 0) s m args below meth c H locs 0 0 Q (F0 m 0 ls []) by rw [hH0, hL0] at hgo; exact hgo
  clear hH0 hL0
  have hl : lv_has ls 5 [(0, .ref d0), (1, .ref r0), (2, .int (nI k)), (3, .int (nI kp)), (4, .int (nI dr))] := hl
  refine lv_iload hx hb xj_D_decide_0 (lv_at hl 4 rfl) ?_
  refine xc_callS (av := [.int (nI dr)]) (rest := []) hAt hT (xt_I_bitCount l D cI cZ cJ (nI dr)) xw_485 xw_14 xw_487 xw_486 (na := 1) rfl (by decide +kernel) ⟨show _ ≤ 4 + (k + 1) by omega, show _ ≤ 40 * (4 + (k + 1)) by omega⟩ (hP.sub (ws' := []) [] rfl) hK hl.1 (Nat.le_of_ble_eq_true rfl) ⟨Nat.zero_le _, Nat.zero_le _⟩ xj_D_decide_2 ?_
  refine xr_top (y := nI (xd_pc dr)) (xk_bc_pc dr hdr2) ?_
  refine lv_aload_n hx hb xj_D_decide_5 rfl (lv_at hl 0 rfl) ?_
  refine va_get (D := D) (ci := 2) (v := .int (nI fw)) (C := xn_D) (T := xn_TD) (N := 2) hx hb hgs xw_uD hown hK.1 hP 0 rfl rfl 0 (by decide) (hgs _ xw_87) (fun _ h9 => h9) rfl xj_D_decide_6 ?_
  refine xr_lt (tgt := 13) hx hb (by omega) (by omega) xj_D_decide_9 rfl (fun h9 => ?_) (fun h9 => ?_)
  · -- 13
    refine lv_iload_n hx hb xj_D_decide_13 rfl (lv_at hl 2 rfl) ?_
    refine lv_if_ge (tgt := 33) hx hb xj_D_decide_14 rfl (fun h14 => ?_) (fun h14 => absurd h14 (fun z => z (nI_pos' (by omega))))
    refine lv_aload_n hx hb xj_D_decide_33 rfl (lv_at hl 1 rfl) ?_
    refine lv_iload_n hx hb xj_D_decide_34 rfl (lv_at hl 3 rfl) ?_
    refine lv_iload_n hx hb xj_D_decide_35 rfl (lv_at hl 2 rfl) ?_
    refine xc_callSN (av := [.int (nI k)]) (rest := [.int (nI kp), .ref r0]) hAt hT (xt_L_bit l D cI cZ cJ (nI k)) (List.mem_of_getElem? (i := 35) rfl) xw_1 xw_149 xw_148 (na := 1) rfl (by decide +kernel) ⟨show _ ≤ 4 + (k + 1) by omega, show _ ≤ 40 * (4 + (k + 1)) by omega⟩ (hP.sub (ws' := []) [] rfl) hK hl.1 (Nat.le_of_ble_eq_true rfl) ⟨Nat.zero_le _, Nat.zero_le _⟩ xj_D_decide_36 ?_
    refine lv_ior hx hb xj_D_decide_39 ?_
    refine xr_top (y := nI (kp + 2 ^ k)) (xd_or hk hkp hkp2) ?_
    refine xc_wVNi (av := [.int (nI (kp + 2 ^ k))]) (rest := []) (wr := [(d0, .inr (2, [.int (nI fw), .int (nI bs)]))]) hAt hT (xt_R_isSensibleWithin l D cI cZ cJ r0 r1 r2 r3 G Bt C (nI (kp + 2 ^ k))) (List.mem_of_getElem? (i := 36) rfl) xw_3 xw_170 xw_169 xs_R_isSensibleWithin (C0 := xn_R) (q0 := 0) rfl rfl (na := 1) rfl (by decide +kernel) ⟨show _ ≤ 4 + (k + 1) by omega, show _ ≤ 40 * (4 + (k + 1)) by omega⟩ hP hD hS hA [1, 2, 3, 4] [0] rfl rfl (by decide) (by decide) (by decide) hK hl.1 (Nat.le_of_ble_eq_true rfl) ⟨Nat.zero_le _, Nat.zero_le _⟩ xj_D_decide_40 (fun r40 _ H locs hr40 hP hD hS => ?_)
    subst hr40
    have hP : va_P D xn_cl [(d0, .inr (2, [.int (nI fw), .int (nI bs)])), (r0, .inr (3, [.ref r1, .ref r2, .ref r3])), (r1, .inl (cI, 13, .inl G)), (r2, .inl (cI, 13, .inl Bt)), (r3, .inl (cI, 13, .inl (xk_link G (nI (kp + 2 ^ k)) C)))] H := hP
    have hD : va_D A [(d0, .inr (2, [.int (nI fw), .int (nI bs)])), (r0, .inr (3, [.ref r1, .ref r2, .ref r3])), (r1, .inl (cI, 13, .inl G)), (r2, .inl (cI, 13, .inl Bt)), (r3, .inl (cI, 13, .inl (xk_link G (nI (kp + 2 ^ k)) C)))] := hD
    refine xr_ifeq (tgt := 62) hx hb xj_D_decide_43 rfl (fun h43 => ?_) (fun h43 => ?_)
    · -- 62
      refine lv_aload_n hx hb xj_D_decide_62 rfl (lv_at hl 0 rfl) ?_
      refine lv_aload_n hx hb xj_D_decide_63 rfl (lv_at hl 1 rfl) ?_
      refine lv_iload_n hx hb xj_D_decide_64 rfl (lv_at hl 2 rfl) ?_
      refine lv_iconst (v := nI 1) hx hb xj_D_decide_65 (by decide) ?_
      refine lv_isub hx hb xj_D_decide_66 ?_
      refine lv_iload_n hx hb xj_D_decide_67 rfl (lv_at hl 3 rfl) ?_
      refine lv_iload hx hb xj_D_decide_68 (lv_at hl 4 rfl) ?_
      refine lv_iload_n hx hb xj_D_decide_70 rfl (lv_at hl 2 rfl) ?_
      refine xc_callSN (av := [.int (nI k)]) (rest := [.int (nI dr), .int (nI kp), .int ((nI k) - (nI 1)), .ref r0, .ref d0]) hAt hT (xt_L_bit l D cI cZ cJ (nI k)) (List.mem_of_getElem? (i := 35) rfl) xw_1 xw_149 xw_148 (na := 1) rfl (by decide +kernel) ⟨show _ ≤ 4 + (k + 1) by omega, show _ ≤ 40 * (4 + (k + 1)) by omega⟩ (hP.sub (ws' := []) [] rfl) hK hl.1 (Nat.le_of_ble_eq_true rfl) ⟨Nat.zero_le _, Nat.zero_le _⟩ xj_D_decide_71 ?_
      refine lv_ior hx hb xj_D_decide_74 ?_
      refine xr_top (y := nI (dr + 2 ^ k)) (xd_or hk hdr hdr2) ?_
      refine xc_wVv (av := [.ref r0, .int ((nI k) - (nI 1)), .int (nI kp), .int (nI (dr + 2 ^ k))]) (rest := []) (wr := []) hAt hT (ih d0 r0 r1 r2 r3 G Bt (xk_link G (nI (kp + 2 ^ k)) C) kp (dr + 2 ^ k) fw bs (xd_down hkp) (xd_up hdr) hkp2 (xd_room hk hdr hdr2) hfw) xw_481 xw_5 xw_484 xw_483 xs_D_decide (C0 := xn_D) (q0 := 0) rfl rfl (na := 4) rfl (by decide +kernel) ⟨show _ ≤ 4 + (k + 1) by omega, show _ ≤ 40 * (4 + (k + 1)) by omega⟩ hP hD hS hA [0, 1, 2, 3, 4] [] rfl rfl (by decide) (by decide) (by decide) hK hl.1 (Nat.le_of_ble_eq_true rfl) ⟨Nat.zero_le _, Nat.zero_le _⟩ xj_D_decide_75 (fun u75 H locs _ hP hD hS => ?_)
      have hP : va_P D xn_cl [(d0, .inr (2, [.int (nI ((xd_dec (fun a => xk_sn G Bt (nI a)) k kp (dr + 2 ^ k) (fw, bs)).1)), .int (nI ((xd_dec (fun a => xk_sn G Bt (nI a)) k kp (dr + 2 ^ k) (fw, bs)).2))])), (r0, .inr (3, [.ref r1, .ref r2, .ref r3])), (r1, .inl (cI, 13, .inl G)), (r2, .inl (cI, 13, .inl Bt)), (r3, .inl (cI, 13, .inl u75))] H := hP
      have hD : va_D A [(d0, .inr (2, [.int (nI ((xd_dec (fun a => xk_sn G Bt (nI a)) k kp (dr + 2 ^ k) (fw, bs)).1)), .int (nI ((xd_dec (fun a => xk_sn G Bt (nI a)) k kp (dr + 2 ^ k) (fw, bs)).2))])), (r0, .inr (3, [.ref r1, .ref r2, .ref r3])), (r1, .inl (cI, 13, .inl G)), (r2, .inl (cI, 13, .inl Bt)), (r3, .inl (cI, 13, .inl u75))] := hD
      have e9 : xd_dec (fun a => xk_sn G Bt (nI a)) (k + 1) kp dr (fw, bs) = xd_dec (fun a => xk_sn G Bt (nI a)) k kp (dr + 2 ^ k) (fw, bs) := (if_neg (show ¬ fw ≤ xd_pc dr by omega)).trans (by rw [if_neg (by show ¬ xk_sn G Bt (nI (kp + 2 ^ k)) = true; rw [show xk_sn G Bt (nI (kp + 2 ^ k)) = false from xk_sn_c.symm.trans h43]; decide)])
      have hP : va_P D xn_cl [(d0, .inr (2, [.int (nI ((xd_dec (fun a => xk_sn G Bt (nI a)) (k + 1) kp dr (fw, bs)).1)), .int (nI ((xd_dec (fun a => xk_sn G Bt (nI a)) (k + 1) kp dr (fw, bs)).2))])), (r0, .inr (3, [.ref r1, .ref r2, .ref r3])), (r1, .inl (cI, 13, .inl G)), (r2, .inl (cI, 13, .inl Bt)), (r3, .inl (cI, 13, .inl u75))] H := by rw [e9]; exact hP
      have hD : va_D A [(d0, .inr (2, [.int (nI ((xd_dec (fun a => xk_sn G Bt (nI a)) (k + 1) kp dr (fw, bs)).1)), .int (nI ((xd_dec (fun a => xk_sn G Bt (nI a)) (k + 1) kp dr (fw, bs)).2))])), (r0, .inr (3, [.ref r1, .ref r2, .ref r3])), (r1, .inl (cI, 13, .inl G)), (r2, .inl (cI, 13, .inl Bt)), (r3, .inl (cI, 13, .inl u75))] := by rw [e9]; exact hD
      exact hret u75 H locs _ ls trivial hP hD hS xj_D_decide_78
    · -- 46
      refine lv_aload_n hx hb xj_D_decide_46 rfl (lv_at hl 0 rfl) ?_
      refine lv_aload_n hx hb xj_D_decide_47 rfl (lv_at hl 1 rfl) ?_
      refine lv_iload_n hx hb xj_D_decide_48 rfl (lv_at hl 2 rfl) ?_
      refine lv_iconst (v := nI 1) hx hb xj_D_decide_49 (by decide) ?_
      refine lv_isub hx hb xj_D_decide_50 ?_
      refine lv_iload_n hx hb xj_D_decide_51 rfl (lv_at hl 3 rfl) ?_
      refine lv_iload_n hx hb xj_D_decide_52 rfl (lv_at hl 2 rfl) ?_
      refine xc_callSN (av := [.int (nI k)]) (rest := [.int (nI kp), .int ((nI k) - (nI 1)), .ref r0, .ref d0]) hAt hT (xt_L_bit l D cI cZ cJ (nI k)) (List.mem_of_getElem? (i := 35) rfl) xw_1 xw_149 xw_148 (na := 1) rfl (by decide +kernel) ⟨show _ ≤ 4 + (k + 1) by omega, show _ ≤ 40 * (4 + (k + 1)) by omega⟩ (hP.sub (ws' := []) [] rfl) hK hl.1 (Nat.le_of_ble_eq_true rfl) ⟨Nat.zero_le _, Nat.zero_le _⟩ xj_D_decide_53 ?_
      refine lv_ior hx hb xj_D_decide_56 ?_
      refine xr_top (y := nI (kp + 2 ^ k)) (xd_or hk hkp hkp2) ?_
      refine lv_iload hx hb xj_D_decide_57 (lv_at hl 4 rfl) ?_
      refine xc_wVv (av := [.ref r0, .int ((nI k) - (nI 1)), .int (nI (kp + 2 ^ k)), .int (nI dr)]) (rest := []) (wr := []) hAt hT (ih d0 r0 r1 r2 r3 G Bt (xk_link G (nI (kp + 2 ^ k)) C) (kp + 2 ^ k) dr fw bs (xd_up hkp) (xd_down hdr) (xd_room hk hkp hkp2) hdr2 hfw) xw_481 xw_5 xw_484 xw_483 xs_D_decide (C0 := xn_D) (q0 := 0) rfl rfl (na := 4) rfl (by decide +kernel) ⟨show _ ≤ 4 + (k + 1) by omega, show _ ≤ 40 * (4 + (k + 1)) by omega⟩ hP hD hS hA [0, 1, 2, 3, 4] [] rfl rfl (by decide) (by decide) (by decide) hK hl.1 (Nat.le_of_ble_eq_true rfl) ⟨Nat.zero_le _, Nat.zero_le _⟩ xj_D_decide_59 (fun u59 H locs _ hP hD hS => ?_)
      have hP : va_P D xn_cl [(d0, .inr (2, [.int (nI ((xd_dec (fun a => xk_sn G Bt (nI a)) k (kp + 2 ^ k) dr (fw, bs)).1)), .int (nI ((xd_dec (fun a => xk_sn G Bt (nI a)) k (kp + 2 ^ k) dr (fw, bs)).2))])), (r0, .inr (3, [.ref r1, .ref r2, .ref r3])), (r1, .inl (cI, 13, .inl G)), (r2, .inl (cI, 13, .inl Bt)), (r3, .inl (cI, 13, .inl u59))] H := hP
      have hD : va_D A [(d0, .inr (2, [.int (nI ((xd_dec (fun a => xk_sn G Bt (nI a)) k (kp + 2 ^ k) dr (fw, bs)).1)), .int (nI ((xd_dec (fun a => xk_sn G Bt (nI a)) k (kp + 2 ^ k) dr (fw, bs)).2))])), (r0, .inr (3, [.ref r1, .ref r2, .ref r3])), (r1, .inl (cI, 13, .inl G)), (r2, .inl (cI, 13, .inl Bt)), (r3, .inl (cI, 13, .inl u59))] := hD
      refine lv_aload_n hx hb xj_D_decide_62 rfl (lv_at hl 0 rfl) ?_
      refine lv_aload_n hx hb xj_D_decide_63 rfl (lv_at hl 1 rfl) ?_
      refine lv_iload_n hx hb xj_D_decide_64 rfl (lv_at hl 2 rfl) ?_
      refine lv_iconst (v := nI 1) hx hb xj_D_decide_65 (by decide) ?_
      refine lv_isub hx hb xj_D_decide_66 ?_
      refine lv_iload_n hx hb xj_D_decide_67 rfl (lv_at hl 3 rfl) ?_
      refine lv_iload hx hb xj_D_decide_68 (lv_at hl 4 rfl) ?_
      refine lv_iload_n hx hb xj_D_decide_70 rfl (lv_at hl 2 rfl) ?_
      refine xc_callSN (av := [.int (nI k)]) (rest := [.int (nI dr), .int (nI kp), .int ((nI k) - (nI 1)), .ref r0, .ref d0]) hAt hT (xt_L_bit l D cI cZ cJ (nI k)) (List.mem_of_getElem? (i := 35) rfl) xw_1 xw_149 xw_148 (na := 1) rfl (by decide +kernel) ⟨show _ ≤ 4 + (k + 1) by omega, show _ ≤ 40 * (4 + (k + 1)) by omega⟩ (hP.sub (ws' := []) [] rfl) hK hl.1 (Nat.le_of_ble_eq_true rfl) ⟨Nat.zero_le _, Nat.zero_le _⟩ xj_D_decide_71 ?_
      refine lv_ior hx hb xj_D_decide_74 ?_
      refine xr_top (y := nI (dr + 2 ^ k)) (xd_or hk hdr hdr2) ?_
      refine xc_wVv (av := [.ref r0, .int ((nI k) - (nI 1)), .int (nI kp), .int (nI (dr + 2 ^ k))]) (rest := []) (wr := []) hAt hT (ih d0 r0 r1 r2 r3 G Bt u59 kp (dr + 2 ^ k) ((xd_dec (fun a => xk_sn G Bt (nI a)) k (kp + 2 ^ k) dr (fw, bs)).1) ((xd_dec (fun a => xk_sn G Bt (nI a)) k (kp + 2 ^ k) dr (fw, bs)).2) (xd_down hkp) (xd_up hdr) hkp2 (xd_room hk hdr hdr2) (Nat.lt_of_le_of_lt (xd_dec_le _ _ _ _ _) hfw)) xw_481 xw_5 xw_484 xw_483 xs_D_decide (C0 := xn_D) (q0 := 0) rfl rfl (na := 4) rfl (by decide +kernel) ⟨show _ ≤ 4 + (k + 1) by omega, show _ ≤ 40 * (4 + (k + 1)) by omega⟩ hP hD hS hA [0, 1, 2, 3, 4] [] rfl rfl (by decide) (by decide) (by decide) hK hl.1 (Nat.le_of_ble_eq_true rfl) ⟨Nat.zero_le _, Nat.zero_le _⟩ xj_D_decide_75 (fun u75 H locs _ hP hD hS => ?_)
      have hP : va_P D xn_cl [(d0, .inr (2, [.int (nI ((xd_dec (fun a => xk_sn G Bt (nI a)) k kp (dr + 2 ^ k) ((xd_dec (fun a => xk_sn G Bt (nI a)) k (kp + 2 ^ k) dr (fw, bs)).1, (xd_dec (fun a => xk_sn G Bt (nI a)) k (kp + 2 ^ k) dr (fw, bs)).2)).1)), .int (nI ((xd_dec (fun a => xk_sn G Bt (nI a)) k kp (dr + 2 ^ k) ((xd_dec (fun a => xk_sn G Bt (nI a)) k (kp + 2 ^ k) dr (fw, bs)).1, (xd_dec (fun a => xk_sn G Bt (nI a)) k (kp + 2 ^ k) dr (fw, bs)).2)).2))])), (r0, .inr (3, [.ref r1, .ref r2, .ref r3])), (r1, .inl (cI, 13, .inl G)), (r2, .inl (cI, 13, .inl Bt)), (r3, .inl (cI, 13, .inl u75))] H := hP
      have hD : va_D A [(d0, .inr (2, [.int (nI ((xd_dec (fun a => xk_sn G Bt (nI a)) k kp (dr + 2 ^ k) ((xd_dec (fun a => xk_sn G Bt (nI a)) k (kp + 2 ^ k) dr (fw, bs)).1, (xd_dec (fun a => xk_sn G Bt (nI a)) k (kp + 2 ^ k) dr (fw, bs)).2)).1)), .int (nI ((xd_dec (fun a => xk_sn G Bt (nI a)) k kp (dr + 2 ^ k) ((xd_dec (fun a => xk_sn G Bt (nI a)) k (kp + 2 ^ k) dr (fw, bs)).1, (xd_dec (fun a => xk_sn G Bt (nI a)) k (kp + 2 ^ k) dr (fw, bs)).2)).2))])), (r0, .inr (3, [.ref r1, .ref r2, .ref r3])), (r1, .inl (cI, 13, .inl G)), (r2, .inl (cI, 13, .inl Bt)), (r3, .inl (cI, 13, .inl u75))] := hD
      have e9 : xd_dec (fun a => xk_sn G Bt (nI a)) (k + 1) kp dr (fw, bs) = xd_dec (fun a => xk_sn G Bt (nI a)) k kp (dr + 2 ^ k) (xd_dec (fun a => xk_sn G Bt (nI a)) k (kp + 2 ^ k) dr (fw, bs)) := (if_neg (show ¬ fw ≤ xd_pc dr by omega)).trans (by rw [if_pos (show xk_sn G Bt (nI (kp + 2 ^ k)) = true from xk_sn_c.symm.trans h43)])
      have hP : va_P D xn_cl [(d0, .inr (2, [.int (nI ((xd_dec (fun a => xk_sn G Bt (nI a)) (k + 1) kp dr (fw, bs)).1)), .int (nI ((xd_dec (fun a => xk_sn G Bt (nI a)) (k + 1) kp dr (fw, bs)).2))])), (r0, .inr (3, [.ref r1, .ref r2, .ref r3])), (r1, .inl (cI, 13, .inl G)), (r2, .inl (cI, 13, .inl Bt)), (r3, .inl (cI, 13, .inl u75))] H := by rw [e9]; exact hP
      have hD : va_D A [(d0, .inr (2, [.int (nI ((xd_dec (fun a => xk_sn G Bt (nI a)) (k + 1) kp dr (fw, bs)).1)), .int (nI ((xd_dec (fun a => xk_sn G Bt (nI a)) (k + 1) kp dr (fw, bs)).2))])), (r0, .inr (3, [.ref r1, .ref r2, .ref r3])), (r1, .inl (cI, 13, .inl G)), (r2, .inl (cI, 13, .inl Bt)), (r3, .inl (cI, 13, .inl u75))] := by rw [e9]; exact hD
      exact hret u75 H locs _ ls trivial hP hD hS xj_D_decide_78
  · -- 12
    have e9 : xd_dec (fun a => xk_sn G Bt (nI a)) (k + 1) kp dr (fw, bs) = (fw, bs) := if_pos h9
    have hP : va_P D xn_cl [(d0, .inr (2, [.int (nI ((xd_dec (fun a => xk_sn G Bt (nI a)) (k + 1) kp dr (fw, bs)).1)), .int (nI ((xd_dec (fun a => xk_sn G Bt (nI a)) (k + 1) kp dr (fw, bs)).2))])), (r0, .inr (3, [.ref r1, .ref r2, .ref r3])), (r1, .inl (cI, 13, .inl G)), (r2, .inl (cI, 13, .inl Bt)), (r3, .inl (cI, 13, .inl C))] H := by rw [e9]; exact hP
    have hD : va_D A [(d0, .inr (2, [.int (nI ((xd_dec (fun a => xk_sn G Bt (nI a)) (k + 1) kp dr (fw, bs)).1)), .int (nI ((xd_dec (fun a => xk_sn G Bt (nI a)) (k + 1) kp dr (fw, bs)).2))])), (r0, .inr (3, [.ref r1, .ref r2, .ref r3])), (r1, .inl (cI, 13, .inl G)), (r2, .inl (cI, 13, .inl Bt)), (r3, .inl (cI, 13, .inl C))] := by rw [e9]; exact hD
    exact hret C H locs _ ls trivial hP hD hS xj_D_decide_12
theorem xt_D_decide (l : Launch) (D : va_G) (cI cZ cJ : ClassId) : ∀ k, k ≤ 12 → xk_Dk l D cI cZ cJ k
  | 0, _ => fun d0 r0 r1 r2 r3 G Bt C kp dr fw bs h1 h2 h3 h4 h5 => xt_D_decide_0 l D cI cZ cJ d0 r0 r1 r2 r3 G Bt C kp dr fw bs h1 h2 h3 h4 h5
  | k + 1, hk => fun d0 r0 r1 r2 r3 G Bt C kp dr fw bs h1 h2 h3 h4 h5 => by
    have h := xt_D_decide_s l D cI cZ cJ k (by omega) (xt_D_decide l D cI cZ cJ k (by omega)) d0 r0 r1 r2 r3 G Bt C kp dr fw bs h1 h2 h3 h4 h5
    rw [show nI (k + 1) - nI 1 = nI k from nI_pred k]
    exact h
set_option maxRecDepth 100000 in
set_option maxHeartbeats 4000000 in
theorem xt_D_find (l : Launch) (D : va_G) (cI cZ cJ : ClassId) (d0 r0 r1 r2 r3 : Nat) (G Bt C : Nat → Int32) (f0 e0 : Int32) (dc : Nat) (hd : dc ≤ 12) : xc_Wi l xy_D_find xb_D_find 3 .int 17 0 0 [.ref d0, .ref r0, .int (nI dc)] D cI cZ cJ [(d0, .inr (2, [.int f0, .int e0])), (r0, .inr (3, [.ref r1, .ref r2, .ref r3])), (r1, .inl (cI, 13, .inl G)), (r2, .inl (cI, 13, .inl Bt)), (r3, .inl (cI, 13, .inl C))] (Nat → Int32) (fun r _ => r = nI (xd_dec (fun a => xk_sn G Bt (nI a)) dc 0 0 (dc + 1, 0)).2) (fun u => [(d0, .inr (2, [.int (nI ((xd_dec (fun a => xk_sn G Bt (nI a)) dc 0 0 (dc + 1, 0)).1)), .int (nI ((xd_dec (fun a => xk_sn G Bt (nI a)) dc 0 0 (dc + 1, 0)).2))])), (r0, .inr (3, [.ref r1, .ref r2, .ref r3])), (r1, .inl (cI, 13, .inl G)), (r2, .inl (cI, 13, .inl Bt)), (r3, .inl (cI, 13, .inl u))]) := by
  refine xc_Wi_of (by decide) (Nat.le_of_ble_eq_true rfl) ?_
  intro p e s m args below meth c Q ls A hAt hP hK hD hA hS hl hret
  obtain ⟨hx, hb, hml, hown, hts, hgs, hlk⟩ := id hAt
  have hT : ∀ w ∈ xw_g, w ∈ xc_ws xy_D_find xb_D_find 3 (some .int) := fun w h => List.mem_cons_of_mem _ h
  have hown : s.vm.findClass "WishLedger$DropFinder" = some m.cls := hown
  obtain ⟨H, hH0⟩ : ∃ H, H = s.heap := ⟨_, rfl⟩
  obtain ⟨locs, hL0⟩ : ∃ locs : List Loc, locs = [] := ⟨_, rfl⟩
  have hP : va_P D xn_cl [(d0, .inr (2, [.int f0, .int e0])), (r0, .inr (3, [.ref r1, .ref r2, .ref r3])), (r1, .inl (cI, 13, .inl G)), (r2, .inl (cI, 13, .inl Bt)), (r3, .inl (cI, 13, .inl C))] H := by rw [hH0]; exact hP
  have hS : va_S A s.heap H locs := by rw [hH0, hL0]; exact hS
  suffices hgo : W p l e (xc_rm 17 0 0) s m args below meth c H locs 0 0 Q (F0 m 0 ls []) by rw [hH0, hL0] at hgo; exact hgo
  clear hH0 hL0
  have hl : lv_has ls 3 [(0, .ref d0), (1, .ref r0), (2, .int (nI dc))] := hl
  refine lv_aload_n hx hb xj_D_find_0 rfl (lv_at hl 0 rfl) ?_
  refine lv_iload_n hx hb xj_D_find_1 rfl (lv_at hl 2 rfl) ?_
  refine lv_iconst (v := nI 1) hx hb xj_D_find_2 (by decide) ?_
  refine xr_iadd hx hb xj_D_find_3 ?_
  refine va_put (D := D) (ci := 2) (v := .int (nI (dc + 1))) (ty := .int) (C := xn_D) (T := xn_TD) (N := 2) hx hb hgs xw_uD xn_tD xn_oD xn_nD hown hK.1 hP hD hS 0 rfl rfl 0 (by decide) (hgs _ xw_87) (fun _ h9 => h9) rfl (by decide +kernel) rfl rfl (Nat.le_of_ble_eq_true rfl) xj_D_find_4 (fun H locs hP hD hS => ?_)
  have hP : va_P D xn_cl [(d0, .inr (2, [.int (nI (dc + 1)), .int e0])), (r0, .inr (3, [.ref r1, .ref r2, .ref r3])), (r1, .inl (cI, 13, .inl G)), (r2, .inl (cI, 13, .inl Bt)), (r3, .inl (cI, 13, .inl C))] H := hP
  have hD : va_D A [(d0, .inr (2, [.int (nI (dc + 1)), .int e0])), (r0, .inr (3, [.ref r1, .ref r2, .ref r3])), (r1, .inl (cI, 13, .inl G)), (r2, .inl (cI, 13, .inl Bt)), (r3, .inl (cI, 13, .inl C))] := hD
  refine lv_aload_n hx hb xj_D_find_7 rfl (lv_at hl 0 rfl) ?_
  refine lv_iconst (v := nI 0) hx hb xj_D_find_8 (by decide) ?_
  refine va_put (D := D) (ci := 2) (v := .int (nI 0)) (ty := .int) (C := xn_D) (T := xn_TD) (N := 2) hx hb hgs xw_uD xn_tD xn_oD xn_nD hown hK.1 hP hD hS 0 rfl rfl 1 (by decide) (hgs _ xw_88) (fun _ h9 => h9) rfl (by decide +kernel) rfl rfl (Nat.le_of_ble_eq_true rfl) xj_D_find_9 (fun H locs hP hD hS => ?_)
  have hP : va_P D xn_cl [(d0, .inr (2, [.int (nI (dc + 1)), .int (nI 0)])), (r0, .inr (3, [.ref r1, .ref r2, .ref r3])), (r1, .inl (cI, 13, .inl G)), (r2, .inl (cI, 13, .inl Bt)), (r3, .inl (cI, 13, .inl C))] H := hP
  have hD : va_D A [(d0, .inr (2, [.int (nI (dc + 1)), .int (nI 0)])), (r0, .inr (3, [.ref r1, .ref r2, .ref r3])), (r1, .inl (cI, 13, .inl G)), (r2, .inl (cI, 13, .inl Bt)), (r3, .inl (cI, 13, .inl C))] := hD
  refine lv_aload_n hx hb xj_D_find_12 rfl (lv_at hl 0 rfl) ?_
  refine lv_aload_n hx hb xj_D_find_13 rfl (lv_at hl 1 rfl) ?_
  refine lv_iload_n hx hb xj_D_find_14 rfl (lv_at hl 2 rfl) ?_
  refine lv_iconst (v := nI 1) hx hb xj_D_find_15 (by decide) ?_
  refine lv_isub hx hb xj_D_find_16 ?_
  refine lv_iconst (v := nI 0) hx hb xj_D_find_17 (by decide) ?_
  refine lv_iconst (v := nI 0) hx hb xj_D_find_18 (by decide) ?_
  refine xc_wVv (av := [.ref r0, .int ((nI dc) - (nI 1)), .int (nI 0), .int (nI 0)]) (rest := []) (wr := []) hAt hT (xt_D_decide l D cI cZ cJ dc (by omega) d0 r0 r1 r2 r3 G Bt C 0 0 (dc + 1) 0 (Nat.zero_mod _) (Nat.zero_mod _) (by decide) (by decide) (by omega)) xw_481 xw_5 xw_484 xw_483 xs_D_decide (C0 := xn_D) (q0 := 0) rfl rfl (na := 4) rfl (by decide +kernel) ⟨show _ ≤ 17 by omega, show _ ≤ 40 * 17 by omega⟩ hP hD hS hA [0, 1, 2, 3, 4] [] rfl rfl (by decide) (by decide) (by decide) hK hl.1 (Nat.le_of_ble_eq_true rfl) ⟨Nat.zero_le _, Nat.zero_le _⟩ xj_D_find_19 (fun u19 H locs _ hP hD hS => ?_)
  have hP : va_P D xn_cl [(d0, .inr (2, [.int (nI ((xd_dec (fun a => xk_sn G Bt (nI a)) dc 0 0 (dc + 1, 0)).1)), .int (nI ((xd_dec (fun a => xk_sn G Bt (nI a)) dc 0 0 (dc + 1, 0)).2))])), (r0, .inr (3, [.ref r1, .ref r2, .ref r3])), (r1, .inl (cI, 13, .inl G)), (r2, .inl (cI, 13, .inl Bt)), (r3, .inl (cI, 13, .inl u19))] H := hP
  have hD : va_D A [(d0, .inr (2, [.int (nI ((xd_dec (fun a => xk_sn G Bt (nI a)) dc 0 0 (dc + 1, 0)).1)), .int (nI ((xd_dec (fun a => xk_sn G Bt (nI a)) dc 0 0 (dc + 1, 0)).2))])), (r0, .inr (3, [.ref r1, .ref r2, .ref r3])), (r1, .inl (cI, 13, .inl G)), (r2, .inl (cI, 13, .inl Bt)), (r3, .inl (cI, 13, .inl u19))] := hD
  refine lv_aload_n hx hb xj_D_find_22 rfl (lv_at hl 0 rfl) ?_
  refine va_get (D := D) (ci := 2) (v := .int (nI ((xd_dec (fun a => xk_sn G Bt (nI a)) dc 0 0 (dc + 1, 0)).2))) (C := xn_D) (T := xn_TD) (N := 2) hx hb hgs xw_uD hown hK.1 hP 0 rfl rfl 1 (by decide) (hgs _ xw_88) (fun _ h9 => h9) rfl xj_D_find_23 ?_
  exact hret (nI ((xd_dec (fun a => xk_sn G Bt (nI a)) dc 0 0 (dc + 1, 0)).2)) u19 H locs _ ls rfl rfl hP hD hS xj_D_find_26
