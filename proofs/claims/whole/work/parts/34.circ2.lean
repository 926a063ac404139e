/-! walks: CircleFinder.find -/
set_option maxRecDepth 100000 in
set_option maxHeartbeats 4000000 in
theorem xt_C_find (l : Launch) (D : va_G) (cI cZ cJ : ClassId) (c0 c1 c2 c3 : Nat) (Hm Hb Ls : Nat → Int32) (r0 r1 r2 r3 : Nat) (G Bt C : Nat → Int32) (hex : ∀ k q, xk_fd (fun z => xk_sf (xk_hb G Bt z) z 12 1) 12 0 (-1, nI 0) = (nI k, nI q) → k < 12 → q ≤ 12 → ∃ Aq Fq, xk_seq G Bt k q Aq Fq) : xc_Wi l xy_C_find xb_C_find 6 .int 4 0 0 [.ref c0, .ref r0] D cI cZ cJ [(c0, .inr (1, [.ref c1, .ref c2, .ref c3])), (c1, .inl (cI, 13, .inl Hm)), (c2, .inl (cI, 13, .inl Hb)), (c3, .inl (cI, 12, .inl Ls)), (r0, .inr (3, [.ref r1, .ref r2, .ref r3])), (r1, .inl (cI, 13, .inl G)), (r2, .inl (cI, 13, .inl Bt)), (r3, .inl (cI, 13, .inl C))] ((Nat → Int32) × (Nat → Int32) × (Nat → Int32)) (fun r u => r = (xk_fd (fun z => xk_sf (xk_hb G Bt z) z 12 1) 12 0 (-1, nI 0)).2 ∧ ∀ k q, xk_fd (fun z => xk_sf (xk_hb G Bt z) z 12 1) 12 0 (-1, nI 0) = (nI k, nI q) → k < 12 → q ≤ 12 → ∃ Aq Fq, xk_seq G Bt k q Aq Fq ∧ ∀ j, j < q → u.2.2 j = nI (Aq j)) (fun u => [(c0, .inr (1, [.ref c1, .ref c2, .ref c3])), (c1, .inl (cI, 13, .inl u.1)), (c2, .inl (cI, 13, .inl u.2.1)), (c3, .inl (cI, 12, .inl u.2.2)), (r0, .inr (3, [.ref r1, .ref r2, .ref r3])), (r1, .inl (cI, 13, .inl G)), (r2, .inl (cI, 13, .inl Bt)), (r3, .inl (cI, 13, .inl C))]) := by
  refine xc_Wi_of (by decide) (Nat.le_of_ble_eq_true rfl) ?_
  intro p e s m args below meth c Q ls A hAt hP hK hD hA hS hl hret
  obtain ⟨hx, hb, hml, hown, hts, hgs, hlk⟩ := id hAt
  have hT : ∀ w ∈ xw_g, w ∈ xc_ws xy_C_find xb_C_find 6 (some .int) := fun w h => List.mem_cons_of_mem _ h
  have hown : s.vm.findClass "WishLedger$CircleFinder" = some m.cls := hown
  obtain ⟨H, hH0⟩ : ∃ H, H = s.heap := ⟨_, rfl⟩
  obtain ⟨locs, hL0⟩ : ∃ locs : List Loc, locs = [] := ⟨_, rfl⟩
  have hP : va_P D xn_cl [(c0, .inr (1, [.ref c1, .ref c2, .ref c3])), (c1, .inl (cI, 13, .inl Hm)), (c2, .inl (cI, 13, .inl Hb)), (c3, .inl (cI, 12, .inl Ls)), (r0, .inr (3, [.ref r1, .ref r2, .ref r3])), (r1, .inl (cI, 13, .inl G)), (r2, .inl (cI, 13, .inl Bt)), (r3, .inl (cI, 13, .inl C))] H := by rw [hH0]; exact hP
  have hS : va_S A s.heap H locs := by rw [hH0, hL0]; exact hS
  suffices hgo : W p l e (xc_rm 4 0 0) s m args below meth c H locs 0 0 Q (F0 m 0 ls []) by rw [hH0, hL0] at hgo; exact hgo
  clear hH0 hL0
  have hl : lv_has ls 6 [(0, .ref c0), (1, .ref r0)] := hl
  refine lv_iconst (v := (-1)) hx hb xj_C_find_0 (by decide) ?_
  refine lv_istore_n (lv' := [(2, .int ((-1))), (0, .ref c0), (1, .ref r0)]) hx hb xj_C_find_1 rfl hl (by decide) rfl (fun ls hl => ?_)
  refine lv_iconst (v := nI 0) hx hb xj_C_find_2 (by decide) ?_
  refine lv_istore_n (lv' := [(3, .int (nI 0)), (2, .int ((-1))), (0, .ref c0), (1, .ref r0)]) hx hb xj_C_find_3 rfl hl (by decide) rfl (fun ls hl => ?_)
  refine lv_iconst (v := nI 0) hx hb xj_C_find_4 (by decide) ?_
  refine lv_istore (lv' := [(4, .int (nI 0)), (3, .int (nI 0)), (2, .int ((-1))), (0, .ref c0), (1, .ref r0)]) hx hb xj_C_find_5 hl (by decide) rfl (fun ls hl => ?_)
  have loop7 : ∀ (n : Nat) (i : Nat) (f : Int32) (g : Int32) (Hm2 : Nat → Int32) (Hb2 : Nat → Int32) (ls : Array Slot) (H : Heap) (locs : List Loc), i + n = 12 → (xk_fd (fun z => xk_sf (xk_hb G Bt z) z 12 1) n i (f, g) = xk_fd (fun z => xk_sf (xk_hb G Bt z) z 12 1) 12 0 (-1, nI 0)) → (f = -1 ∨ ∃ k q : Nat, k < 12 ∧ f = nI k ∧ g = nI q ∧ q ≤ 12) → lv_has ls 6 [(0, .ref c0), (1, .ref r0), (2, .int f), (3, .int g), (4, .int (nI i))] → va_P D xn_cl [(c0, .inr (1, [.ref c1, .ref c2, .ref c3])), (c1, .inl (cI, 13, .inl Hm2)), (c2, .inl (cI, 13, .inl Hb2)), (c3, .inl (cI, 12, .inl Ls)), (r0, .inr (3, [.ref r1, .ref r2, .ref r3])), (r1, .inl (cI, 13, .inl G)), (r2, .inl (cI, 13, .inl Bt)), (r3, .inl (cI, 13, .inl C))] H → va_D A [(c0, .inr (1, [.ref c1, .ref c2, .ref c3])), (c1, .inl (cI, 13, .inl Hm2)), (c2, .inl (cI, 13, .inl Hb2)), (c3, .inl (cI, 12, .inl Ls)), (r0, .inr (3, [.ref r1, .ref r2, .ref r3])), (r1, .inl (cI, 13, .inl G)), (r2, .inl (cI, 13, .inl Bt)), (r3, .inl (cI, 13, .inl C))] → va_S A s.heap H locs → W p l e (xc_rm 4 0 0) s m args below meth c H locs 0 0 Q (F0 m 7 ls []) := by
    intro n
    induction n with
    | zero =>
      intro i f g Hm2 Hb2 ls H locs hi7 hr hf hl hP hD hS
      refine lv_iload hx hb xj_C_find_7 (lv_at hl 4 rfl) ?_
      refine lv_bipush (v := nI 12) hx hb xj_C_find_9 (by decide) ?_
      refine xr_ge (tgt := 51) hx hb (by omega) (by omega) xj_C_find_11 rfl (fun h11 => ?_) (fun h11 => absurd h11 (by omega))
      refine lv_iload_n hx hb xj_C_find_51 rfl (lv_at hl 2 rfl) ?_
      refine lv_iconst (v := (-1)) hx hb xj_C_find_52 (by decide) ?_
      refine lv_icmp_eq (tgt := 69) hx hb xj_C_find_53 rfl (fun h53 => ?_) (fun h53 => ?_)
      · -- 69
        refine lv_iload_n hx hb xj_C_find_69 rfl (lv_at hl 3 rfl) ?_
        exact hret g ((Hm2, Hb2, Ls)) H locs _ ls (⟨by rw [← show (f, g) = _ from hr], fun k q e hk _ => absurd ((Prod.mk.inj (e.symm.trans (show (f, g) = _ from hr).symm)).1.trans h53) (xk_n1 (by omega))⟩) rfl hP hD hS xj_C_find_70
      · -- 56
        obtain ⟨k, q, hk, rfl, rfl, hq12⟩ := hf.resolve_left h53
        obtain ⟨Aq, Fq, hsq⟩ := hex k q hr.symm hk hq12
        refine lv_aload_n hx hb xj_C_find_56 rfl (lv_at hl 0 rfl) ?_
        refine lv_aload_n hx hb xj_C_find_57 rfl (lv_at hl 1 rfl) ?_
        refine lv_iload_n hx hb xj_C_find_58 rfl (lv_at hl 2 rfl) ?_
        refine xc_wVv (av := [.ref r0, .int (nI k)]) (rest := []) (wr := []) hAt hT (xt_C_lookHome l D cI cZ cJ c0 c1 c2 c3 Hm2 Hb2 Ls r0 r1 r2 r3 G Bt C k) xw_414 xw_4 xw_417 xw_416 xs_C_lookHome (C0 := xn_C) (q0 := 0) rfl rfl (na := 2) rfl (by decide +kernel) ⟨Nat.le_of_ble_eq_true rfl, Nat.le_of_ble_eq_true rfl⟩ hP hD hS hA [0, 1, 2, 3, 4, 5, 6, 7] [] rfl rfl (by decide) (by decide) (by decide) hK hl.1 (Nat.le_of_ble_eq_true rfl) ⟨Nat.zero_le _, Nat.zero_le _⟩ xj_C_find_59 (fun u59 H locs hu59 hP hD hS => ?_)
        have hP : va_P D xn_cl [(c0, .inr (1, [.ref c1, .ref c2, .ref c3])), (c1, .inl (cI, 13, .inl u59.1)), (c2, .inl (cI, 13, .inl u59.2)), (c3, .inl (cI, 12, .inl Ls)), (r0, .inr (3, [.ref r1, .ref r2, .ref r3])), (r1, .inl (cI, 13, .inl G)), (r2, .inl (cI, 13, .inl Bt)), (r3, .inl (cI, 13, .inl C))] H := hP
        have hD : va_D A [(c0, .inr (1, [.ref c1, .ref c2, .ref c3])), (c1, .inl (cI, 13, .inl u59.1)), (c2, .inl (cI, 13, .inl u59.2)), (c3, .inl (cI, 12, .inl Ls)), (r0, .inr (3, [.ref r1, .ref r2, .ref r3])), (r1, .inl (cI, 13, .inl G)), (r2, .inl (cI, 13, .inl Bt)), (r3, .inl (cI, 13, .inl C))] := hD
        refine lv_aload_n hx hb xj_C_find_62 rfl (lv_at hl 0 rfl) ?_
        refine lv_aload_n hx hb xj_C_find_63 rfl (lv_at hl 1 rfl) ?_
        refine lv_iload_n hx hb xj_C_find_64 rfl (lv_at hl 2 rfl) ?_
        refine lv_iload_n hx hb xj_C_find_65 rfl (lv_at hl 3 rfl) ?_
        refine xc_wVv (av := [.ref r0, .int (nI k), .int (nI q)]) (rest := []) (wr := []) hAt hT (xt_C_writeList l D cI cZ cJ c0 c1 c2 c3 u59.1 u59.2 Ls r0 r1 r2 r3 G Bt C k q (by omega) hu59 Aq Fq hsq) xw_424 xw_4 xw_427 xw_426 xs_C_writeList (C0 := xn_C) (q0 := 0) rfl rfl (na := 3) rfl (by decide +kernel) ⟨Nat.le_of_ble_eq_true rfl, Nat.le_of_ble_eq_true rfl⟩ hP hD hS hA [0, 1, 2, 3, 4, 5, 6, 7] [] rfl rfl (by decide) (by decide) (by decide) hK hl.1 (Nat.le_of_ble_eq_true rfl) ⟨Nat.zero_le _, Nat.zero_le _⟩ xj_C_find_66 (fun u66 H locs hu66 hP hD hS => ?_)
        have hP : va_P D xn_cl [(c0, .inr (1, [.ref c1, .ref c2, .ref c3])), (c1, .inl (cI, 13, .inl u59.1)), (c2, .inl (cI, 13, .inl u59.2)), (c3, .inl (cI, 12, .inl u66)), (r0, .inr (3, [.ref r1, .ref r2, .ref r3])), (r1, .inl (cI, 13, .inl G)), (r2, .inl (cI, 13, .inl Bt)), (r3, .inl (cI, 13, .inl C))] H := hP
        have hD : va_D A [(c0, .inr (1, [.ref c1, .ref c2, .ref c3])), (c1, .inl (cI, 13, .inl u59.1)), (c2, .inl (cI, 13, .inl u59.2)), (c3, .inl (cI, 12, .inl u66)), (r0, .inr (3, [.ref r1, .ref r2, .ref r3])), (r1, .inl (cI, 13, .inl G)), (r2, .inl (cI, 13, .inl Bt)), (r3, .inl (cI, 13, .inl C))] := hD
        refine lv_iload_n hx hb xj_C_find_69 rfl (lv_at hl 3 rfl) ?_
        exact hret (nI q) ((u59.1, u59.2, u66)) H locs _ ls (⟨by rw [← show (nI k, nI q) = _ from hr], fun k2 q2 e hk2 hq2 => by obtain ⟨e1, e2⟩ := Prod.mk.inj (e.symm.trans (show (nI k, nI q) = _ from hr).symm); have e1 := (nI_eq (by omega) (by omega)).mp e1; have e2 := (nI_eq (by omega) (by omega)).mp e2; subst e1; subst e2; exact ⟨Aq, Fq, hsq, hu66⟩⟩) rfl hP hD hS xj_C_find_70
    | succ n ih7 =>
      intro i f g Hm2 Hb2 ls H locs hi7 hr hf hl hP hD hS
      refine lv_iload hx hb xj_C_find_7 (lv_at hl 4 rfl) ?_
      refine lv_bipush (v := nI 12) hx hb xj_C_find_9 (by decide) ?_
      refine xr_ge (tgt := 51) hx hb (by omega) (by omega) xj_C_find_11 rfl (fun h11 => absurd h11 (by omega)) (fun h11 => ?_)
      refine lv_aload_n hx hb xj_C_find_14 rfl (lv_at hl 0 rfl) ?_
      refine lv_aload_n hx hb xj_C_find_15 rfl (lv_at hl 1 rfl) ?_
      refine lv_iload hx hb xj_C_find_16 (lv_at hl 4 rfl) ?_
      refine xc_wVi (av := [.ref r0, .int (nI i)]) (rest := []) (wr := []) hAt hT (xt_C_shortestFrom l D cI cZ cJ c0 c1 c2 c3 Hm2 Hb2 Ls r0 r1 r2 r3 G Bt C i) xw_410 xw_4 xw_413 xw_412 xs_C_shortestFrom (C0 := xn_C) (q0 := 0) rfl rfl (na := 2) rfl (by decide +kernel) ⟨Nat.le_of_ble_eq_true rfl, Nat.le_of_ble_eq_true rfl⟩ hP hD hS hA [0, 1, 2, 3, 4, 5, 6, 7] [] rfl rfl (by decide) (by decide) (by decide) hK hl.1 (Nat.le_of_ble_eq_true rfl) ⟨Nat.zero_le _, Nat.zero_le _⟩ xj_C_find_18 (fun r18 u18 H locs hr18 hP hD hS => ?_)
      subst hr18
      have hP : va_P D xn_cl [(c0, .inr (1, [.ref c1, .ref c2, .ref c3])), (c1, .inl (cI, 13, .inl u18.1)), (c2, .inl (cI, 13, .inl u18.2)), (c3, .inl (cI, 12, .inl Ls)), (r0, .inr (3, [.ref r1, .ref r2, .ref r3])), (r1, .inl (cI, 13, .inl G)), (r2, .inl (cI, 13, .inl Bt)), (r3, .inl (cI, 13, .inl C))] H := hP
      have hD : va_D A [(c0, .inr (1, [.ref c1, .ref c2, .ref c3])), (c1, .inl (cI, 13, .inl u18.1)), (c2, .inl (cI, 13, .inl u18.2)), (c3, .inl (cI, 12, .inl Ls)), (r0, .inr (3, [.ref r1, .ref r2, .ref r3])), (r1, .inl (cI, 13, .inl G)), (r2, .inl (cI, 13, .inl Bt)), (r3, .inl (cI, 13, .inl C))] := hD
      refine lv_istore (lv' := [(5, .int (xk_sf (xk_hb G Bt i) i 12 1)), (0, .ref c0), (1, .ref r0), (2, .int f), (3, .int g), (4, .int (nI i))]) hx hb xj_C_find_21 hl (by decide) rfl (fun ls hl => ?_)
      refine lv_iload hx hb xj_C_find_23 (lv_at hl 0 rfl) ?_
      refine lv_if_eq (tgt := 45) hx hb xj_C_find_25 rfl (fun h25 => ?_) (fun h25 => ?_)
      · -- 45
        refine lv_iinc (k := 5) (v := nI (i + 1)) (lv' := [(4, .int (nI (i + 1))), (5, .int (xk_sf (xk_hb G Bt i) i 12 1)), (0, .ref c0), (1, .ref r0), (2, .int f), (3, .int g)]) hx hb xj_C_find_45 hl rfl (xr_inc _) (by decide) rfl (fun ls hl => ?_)
        refine lv_goto (tgt := 7) hx hb xj_C_find_48 rfl ?_
        exact ih7 (i + 1) f g u18.1 u18.2 ls _ _ (by omega) ((xk_fd_0 (sf := (fun z => xk_sf (xk_hb G Bt z) z 12 1)) (Or.inl h25)).symm.trans hr) hf (lv_sub hl [2, 3, 4, 5, 0] rfl) hP hD hS
      · -- 28
        refine lv_iload_n hx hb xj_C_find_28 rfl (lv_at hl 3 rfl) ?_
        refine lv_iconst (v := (-1)) hx hb xj_C_find_29 (by decide) ?_
        refine lv_icmp_eq (tgt := 39) hx hb xj_C_find_30 rfl (fun h30 => ?_) (fun h30 => ?_)
        · -- 39
          refine lv_iload hx hb xj_C_find_39 (lv_at hl 5 rfl) ?_
          refine lv_istore_n (lv' := [(2, .int (nI i)), (5, .int (xk_sf (xk_hb G Bt i) i 12 1)), (0, .ref c0), (1, .ref r0), (3, .int g), (4, .int (nI i))]) hx hb xj_C_find_41 rfl hl (by decide) rfl (fun ls hl => ?_)
          refine lv_iload hx hb xj_C_find_42 (lv_at hl 1 rfl) ?_
          refine lv_istore_n (lv' := [(3, .int (xk_sf (xk_hb G Bt i) i 12 1)), (2, .int (nI i)), (5, .int (xk_sf (xk_hb G Bt i) i 12 1)), (0, .ref c0), (1, .ref r0), (4, .int (nI i))]) hx hb xj_C_find_44 rfl hl (by decide) rfl (fun ls hl => ?_)
          refine lv_iinc (k := 5) (v := nI (i + 1)) (lv' := [(4, .int (nI (i + 1))), (3, .int (xk_sf (xk_hb G Bt i) i 12 1)), (2, .int (nI i)), (5, .int (xk_sf (xk_hb G Bt i) i 12 1)), (0, .ref c0), (1, .ref r0)]) hx hb xj_C_find_45 hl rfl (xr_inc _) (by decide) rfl (fun ls hl => ?_)
          refine lv_goto (tgt := 7) hx hb xj_C_find_48 rfl ?_
          exact ih7 (i + 1) (nI i) (xk_sf (xk_hb G Bt i) i 12 1) u18.1 u18.2 ls _ _ (by omega) ((xk_fd_1 (sf := (fun z => xk_sf (xk_hb G Bt z) z 12 1)) h25 (Or.inl h30)).symm.trans hr) (by obtain ⟨q, h1, h2⟩ := xk_sf_in (xk_hb G Bt i) i 12 1; exact Or.inr ⟨i, q, by omega, rfl, h1, by omega⟩) (lv_sub hl [4, 5, 2, 1, 0] rfl) hP hD hS
        · -- 33
          refine lv_iload hx hb xj_C_find_33 (lv_at hl 0 rfl) ?_
          refine lv_iload_n hx hb xj_C_find_35 rfl (lv_at hl 4 rfl) ?_
          refine lv_icmp_ge (tgt := 45) hx hb xj_C_find_36 rfl (fun h36 => ?_) (fun h36 => ?_)
          · -- 45
            refine lv_iinc (k := 5) (v := nI (i + 1)) (lv' := [(4, .int (nI (i + 1))), (5, .int (xk_sf (xk_hb G Bt i) i 12 1)), (0, .ref c0), (1, .ref r0), (2, .int f), (3, .int g)]) hx hb xj_C_find_45 hl rfl (xr_inc _) (by decide) rfl (fun ls hl => ?_)
            refine lv_goto (tgt := 7) hx hb xj_C_find_48 rfl ?_
            exact ih7 (i + 1) f g u18.1 u18.2 ls _ _ (by omega) ((xk_fd_0 (sf := (fun z => xk_sf (xk_hb G Bt z) z 12 1)) (Or.inr ⟨h30, h36⟩)).symm.trans hr) hf (lv_sub hl [2, 3, 4, 5, 0] rfl) hP hD hS
          · -- 39
            refine lv_iload hx hb xj_C_find_39 (lv_at hl 5 rfl) ?_
            refine lv_istore_n (lv' := [(2, .int (nI i)), (5, .int (xk_sf (xk_hb G Bt i) i 12 1)), (0, .ref c0), (1, .ref r0), (3, .int g), (4, .int (nI i))]) hx hb xj_C_find_41 rfl hl (by decide) rfl (fun ls hl => ?_)
            refine lv_iload hx hb xj_C_find_42 (lv_at hl 1 rfl) ?_
            refine lv_istore_n (lv' := [(3, .int (xk_sf (xk_hb G Bt i) i 12 1)), (2, .int (nI i)), (5, .int (xk_sf (xk_hb G Bt i) i 12 1)), (0, .ref c0), (1, .ref r0), (4, .int (nI i))]) hx hb xj_C_find_44 rfl hl (by decide) rfl (fun ls hl => ?_)
            refine lv_iinc (k := 5) (v := nI (i + 1)) (lv' := [(4, .int (nI (i + 1))), (3, .int (xk_sf (xk_hb G Bt i) i 12 1)), (2, .int (nI i)), (5, .int (xk_sf (xk_hb G Bt i) i 12 1)), (0, .ref c0), (1, .ref r0)]) hx hb xj_C_find_45 hl rfl (xr_inc _) (by decide) rfl (fun ls hl => ?_)
            refine lv_goto (tgt := 7) hx hb xj_C_find_48 rfl ?_
            exact ih7 (i + 1) (nI i) (xk_sf (xk_hb G Bt i) i 12 1) u18.1 u18.2 ls _ _ (by omega) ((xk_fd_1 (sf := (fun z => xk_sf (xk_hb G Bt z) z 12 1)) h25 (Or.inr h36)).symm.trans hr) (by obtain ⟨q, h1, h2⟩ := xk_sf_in (xk_hb G Bt i) i 12 1; exact Or.inr ⟨i, q, by omega, rfl, h1, by omega⟩) (lv_sub hl [4, 5, 2, 1, 0] rfl) hP hD hS
  exact loop7 12 0 ((-1)) (nI 0) Hm Hb ls _ _ (by omega) rfl (Or.inl rfl) (lv_sub hl [3, 4, 2, 1, 0] rfl) hP hD hS
