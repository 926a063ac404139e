/-! walks: the helpers -/
set_option maxRecDepth 100000 in
set_option maxHeartbeats 4000000 in
theorem xt_A_goods (l : Launch) (hl0 : l.stackTraces = false) (D : va_G) (cI cZ cJ : ClassId) (sa : Nat → Nat) (x0 b0 r0 c0 d0 s0 : Nat) (b1 b2 gc dc : Nat) (P A0 : Nat → Int32) (n : Int32) : xc_Hi l xy_A_goods xb_A_goods 3 [(0, 5, 8, 13)] 8 1 6 [.ref x0, .int n] D cI cZ cJ sa [(x0, .inr (5, [.ref b0, .ref r0, .ref c0, .ref d0, .ref s0])), (b0, .inr (0, [.ref b1, .ref b2, .int (nI gc), .int (nI dc)])), (b1, .inl (cI, 78, .inl P)), (b2, .inl (cI, 78, .inl A0))] (Nat × Nat × (Nat → Int32) × (Nat → Int32)) (fun r u => (r = nI 0 ∧ (fun u => ∃ k, 1 ≤ k ∧ k ≤ 6 ∧ n = nI k ∧ u = (k, 0, xk_clr (nI 1) 12 6 0 P, xk_clr (nI 0) 12 6 0 A0)) u) ∨ (r = nI 1 ∧ ∃ X9, (fun E u => E = xn_EA ∧ xo_rg n (nI 1) (nI 6) = false ∧ u = (gc, dc, P, A0)) X9 u)) (fun u => [(x0, .inr (5, [.ref b0, .ref r0, .ref c0, .ref d0, .ref s0])), (b0, .inr (0, [.ref b1, .ref b2, .int (nI u.1), .int (nI u.2.1)])), (b1, .inl (cI, 78, .inl u.2.2.1)), (b2, .inl (cI, 78, .inl u.2.2.2))]) := by
  refine xc_Hi_of (by decide) (Nat.le_of_ble_eq_true rfl) ?_
  intro p e s m args below meth c Q ls A hAt hP hK hD hA hS hl hT0 hN htab hret
  obtain ⟨hx, hb, hml, hown, hts, hgs, hlk⟩ := id hAt
  have hT : ∀ w ∈ xw_g, w ∈ Cond.codeWith xy_A_goods xb_A_goods 3 (some .int) [(0, 5, 8, 13)] :: xw_g := fun w h => List.mem_cons_of_mem _ h
  have hown : s.vm.findClass "WishLedgerLaw" = some m.cls := hown
  obtain ⟨H, hH0⟩ : ∃ H, H = s.heap := ⟨_, rfl⟩
  obtain ⟨locs, hL0⟩ : ∃ locs : List Loc, locs = [] := ⟨_, rfl⟩
  have hP : va_P D xn_cl [(x0, .inr (5, [.ref b0, .ref r0, .ref c0, .ref d0, .ref s0])), (b0, .inr (0, [.ref b1, .ref b2, .int (nI gc), .int (nI dc)])), (b1, .inl (cI, 78, .inl P)), (b2, .inl (cI, 78, .inl A0))] H := by rw [hH0]; exact hP
  have hS : va_S A s.heap H locs := by rw [hH0, hL0]; exact hS
  suffices hgo : W p l e (xc_rm 8 1 6) s m args below meth c H locs 0 0 Q (F0 m 0 ls []) by rw [hH0, hL0] at hgo; exact hgo
  clear hH0 hL0
  have hl : lv_has ls 3 [(0, .ref x0), (1, .int n)] := hl
  refine lv_aload_n hx hb xj_A_goods_0 rfl (lv_at hl 0 rfl) ?_
  refine lv_iload_n hx hb xj_A_goods_1 rfl (lv_at hl 1 rfl) ?_
  refine xc_xVv (av := [.int n]) (rest := []) (wr := []) hAt hT (xt_L_goods l hl0 D cI cZ cJ sa x0 b0 r0 c0 d0 s0 b1 b2 gc dc P A0 n) xw_183 xw_1 xw_186 xw_184 xw_185 (C0 := xn_L) (q0 := 0) rfl rfl (na := 1) rfl (by decide +kernel) ⟨Nat.le_of_ble_eq_true rfl, Nat.le_of_ble_eq_true rfl⟩ hP hD hS hA [0, 1, 2, 3] [] rfl rfl (by decide) (by decide) (by decide) hK hT0 hl.1 (Nat.le_of_ble_eq_true rfl) ⟨Nat.le_of_ble_eq_true rfl, Nat.le_of_ble_eq_true rfl⟩ xj_A_goods_2 (fun Ex ce q9 u9 H locs hf hP hD hS hq hv hcl => ?_) (fun u2 H locs hf2 hP hD hS => ?_)
  · have hP : va_P D xn_cl [(x0, .inr (5, [.ref b0, .ref r0, .ref c0, .ref d0, .ref s0])), (b0, .inr (0, [.ref b1, .ref b2, .int (nI u9.1), .int (nI u9.2.1)])), (b1, .inl (cI, 78, .inl u9.2.2.1)), (b2, .inl (cI, 78, .inl u9.2.2.2))] H := va_P.sub hP [0, 1, 2, 3] rfl
    have hD : va_D A [(x0, .inr (5, [.ref b0, .ref r0, .ref c0, .ref d0, .ref s0])), (b0, .inr (0, [.ref b1, .ref b2, .int (nI u9.1), .int (nI u9.2.1)])), (b1, .inl (cI, 78, .inl u9.2.2.1)), (b2, .inl (cI, 78, .inl u9.2.2.2))] := va_D.sub hD [0, 1, 2, 3] (by decide) rfl
    obtain rfl : Ex = xn_EA := hf.1
    refine vx_catch (own := "WishLedgerLaw") (name := xn_EA) hown [] ⟨0, 5, 8, 13⟩ [] htab (fun z hz => absurd hz List.not_mem_nil) rfl (by decide) (hgs _ xw_182) (va_Nw.use rfl hN.1) hq hv hcl ?_
    refine lv_astore_n (lv' := [(2, .ref q9), (0, .ref x0), (1, .int n)]) hx hb xj_A_goods_8 rfl hl (by decide) rfl (fun ls hl => ?_)
    refine lv_iconst (v := nI 1) hx hb xj_A_goods_9 (by decide) ?_
    exact hret (nI 1) u9 H locs _ _ _ ls (Or.inr ⟨rfl, xn_EA, hf⟩) hP hD hS (Nat.le_of_ble_eq_true rfl) (Nat.le_of_ble_eq_true rfl) xj_A_goods_10
  have hP : va_P D xn_cl [(x0, .inr (5, [.ref b0, .ref r0, .ref c0, .ref d0, .ref s0])), (b0, .inr (0, [.ref b1, .ref b2, .int (nI u2.1), .int (nI u2.2.1)])), (b1, .inl (cI, 78, .inl u2.2.2.1)), (b2, .inl (cI, 78, .inl u2.2.2.2))] H := hP
  have hD : va_D A [(x0, .inr (5, [.ref b0, .ref r0, .ref c0, .ref d0, .ref s0])), (b0, .inr (0, [.ref b1, .ref b2, .int (nI u2.1), .int (nI u2.2.1)])), (b1, .inl (cI, 78, .inl u2.2.2.1)), (b2, .inl (cI, 78, .inl u2.2.2.2))] := hD
  refine lv_goto (tgt := 11) hx hb xj_A_goods_5 rfl ?_
  refine lv_iconst (v := nI 0) hx hb xj_A_goods_11 (by decide) ?_
  exact hret (nI 0) u2 H locs _ _ _ ls (Or.inl ⟨rfl, hf2⟩) hP hD hS (Nat.le_of_ble_eq_true rfl) (Nat.le_of_ble_eq_true rfl) xj_A_goods_12
set_option maxRecDepth 100000 in
set_option maxHeartbeats 4000000 in
theorem xt_A_day (l : Launch) (hl0 : l.stackTraces = false) (D : va_G) (cI cZ cJ : ClassId) (sa : Nat → Nat) (x0 b0 r0 c0 d0 s0 : Nat) (b1 b2 gc dc : Nat) (P A0 : Nat → Int32) (hd : dc ≤ 12) (o0 : Nat) (O : Nat → Int64) : xc_Hi l xy_A_day xb_A_day 3 [(0, 8, 11, 19)] 8 1 6 [.ref x0, .ref o0] D cI cZ cJ sa [(x0, .inr (5, [.ref b0, .ref r0, .ref c0, .ref d0, .ref s0])), (b0, .inr (0, [.ref b1, .ref b2, .int (nI gc), .int (nI dc)])), (b1, .inl (cI, 78, .inl P)), (b2, .inl (cI, 78, .inl A0)), (o0, .inl (cJ, 1, .inr (.inl O)))] ((Nat × (Nat → Int32) × (Nat → Int32)) × (Nat → Int64)) (fun r u => (r = nI 0 ∧ ∃ w9, (fun r u => dc < 12 ∧ r = nI dc ∧ u = (dc + 1, xk_clr (nI 1) dc 6 0 P, xk_clr (nI 0) dc 6 0 A0)) w9 u.1 ∧ u.2 = vp_updL O 0 w9.toInt64) ∨ (r = nI 1 ∧ ∃ X9, (fun E u => E = xn_ES ∧ dc = 12 ∧ u = (dc, P, A0)) X9 u.1 ∧ u.2 = O)) (fun u => [(x0, .inr (5, [.ref b0, .ref r0, .ref c0, .ref d0, .ref s0])), (b0, .inr (0, [.ref b1, .ref b2, .int (nI gc), .int (nI u.1.1)])), (b1, .inl (cI, 78, .inl u.1.2.1)), (b2, .inl (cI, 78, .inl u.1.2.2)), (o0, .inl (cJ, 1, .inr (.inl u.2)))]) := by
  refine xc_Hi_of (by decide) (Nat.le_of_ble_eq_true rfl) ?_
  intro p e s m args below meth c Q ls A hAt hP hK hD hA hS hl hT0 hN htab hret
  obtain ⟨hx, hb, hml, hown, hts, hgs, hlk⟩ := id hAt
  have hT : ∀ w ∈ xw_g, w ∈ Cond.codeWith xy_A_day xb_A_day 3 (some .int) [(0, 8, 11, 19)] :: xw_g := fun w h => List.mem_cons_of_mem _ h
  have hown : s.vm.findClass "WishLedgerLaw" = some m.cls := hown
  obtain ⟨H, hH0⟩ : ∃ H, H = s.heap := ⟨_, rfl⟩
  obtain ⟨locs, hL0⟩ : ∃ locs : List Loc, locs = [] := ⟨_, rfl⟩
  have hP : va_P D xn_cl [(x0, .inr (5, [.ref b0, .ref r0, .ref c0, .ref d0, .ref s0])), (b0, .inr (0, [.ref b1, .ref b2, .int (nI gc), .int (nI dc)])), (b1, .inl (cI, 78, .inl P)), (b2, .inl (cI, 78, .inl A0)), (o0, .inl (cJ, 1, .inr (.inl O)))] H := by rw [hH0]; exact hP
  have hS : va_S A s.heap H locs := by rw [hH0, hL0]; exact hS
  suffices hgo : W p l e (xc_rm 8 1 6) s m args below meth c H locs 0 0 Q (F0 m 0 ls []) by rw [hH0, hL0] at hgo; exact hgo
  clear hH0 hL0
  have hl : lv_has ls 3 [(0, .ref x0), (1, .ref o0)] := hl
  refine lv_aload_n hx hb xj_A_day_0 rfl (lv_at hl 1 rfl) ?_
  refine lv_iconst (v := nI 0) hx hb xj_A_day_1 (by decide) ?_
  refine lv_aload_n hx hb xj_A_day_2 rfl (lv_at hl 0 rfl) ?_
  refine xc_xVi (av := []) (rest := [.int (nI 0), .ref o0]) (wr := [(o0, .inl (cJ, 1, .inr (.inl O)))]) hAt hT (xt_L_day l hl0 D cI cZ cJ sa x0 b0 r0 c0 d0 s0 b1 b2 gc dc P A0 hd) xw_259 xw_1 xw_262 xw_260 xw_261 (C0 := xn_L) (q0 := 0) rfl rfl (na := 0) rfl (by decide +kernel) ⟨Nat.le_of_ble_eq_true rfl, Nat.le_of_ble_eq_true rfl⟩ hP hD hS hA [0, 1, 2, 3] [4] rfl rfl (by decide) (by decide) (by decide) hK hT0 hl.1 (Nat.le_of_ble_eq_true rfl) ⟨Nat.le_of_ble_eq_true rfl, Nat.le_of_ble_eq_true rfl⟩ xj_A_day_3 (fun Ex ce q9 u9 H locs hf hP hD hS hq hv hcl => ?_) (fun r3 u3 H locs hf3 hP hD hS => ?_)
  · have hP : va_P D xn_cl [(x0, .inr (5, [.ref b0, .ref r0, .ref c0, .ref d0, .ref s0])), (b0, .inr (0, [.ref b1, .ref b2, .int (nI gc), .int (nI u9.1)])), (b1, .inl (cI, 78, .inl u9.2.1)), (b2, .inl (cI, 78, .inl u9.2.2)), (o0, .inl (cJ, 1, .inr (.inl O)))] H := va_P.sub hP [1, 2, 3, 4, 0] rfl
    have hD : va_D A [(x0, .inr (5, [.ref b0, .ref r0, .ref c0, .ref d0, .ref s0])), (b0, .inr (0, [.ref b1, .ref b2, .int (nI gc), .int (nI u9.1)])), (b1, .inl (cI, 78, .inl u9.2.1)), (b2, .inl (cI, 78, .inl u9.2.2)), (o0, .inl (cJ, 1, .inr (.inl O)))] := va_D.sub hD [1, 2, 3, 4, 0] (by decide) rfl
    obtain rfl : Ex = xn_ES := hf.1
    refine vx_catch (own := "WishLedgerLaw") (name := xn_ES) hown [] ⟨0, 8, 11, 19⟩ [] htab (fun z hz => absurd hz List.not_mem_nil) rfl (by decide) (hgs _ xw_258) (va_Nw.use rfl hN.2.1) hq hv hcl ?_
    refine lv_astore_n (lv' := [(2, .ref q9), (0, .ref x0), (1, .ref o0)]) hx hb xj_A_day_11 rfl hl (by decide) rfl (fun ls hl => ?_)
    refine lv_iconst (v := nI 1) hx hb xj_A_day_12 (by decide) ?_
    exact hret (nI 1) ((u9, O)) H locs _ _ _ ls (Or.inr ⟨rfl, xn_ES, hf, rfl⟩) hP hD hS (Nat.le_of_ble_eq_true rfl) (Nat.le_of_ble_eq_true rfl) xj_A_day_13
  have hP : va_P D xn_cl [(x0, .inr (5, [.ref b0, .ref r0, .ref c0, .ref d0, .ref s0])), (b0, .inr (0, [.ref b1, .ref b2, .int (nI gc), .int (nI u3.1)])), (b1, .inl (cI, 78, .inl u3.2.1)), (b2, .inl (cI, 78, .inl u3.2.2)), (o0, .inl (cJ, 1, .inr (.inl O)))] H := va_P.sub hP [1, 2, 3, 4, 0] rfl
  have hD : va_D A [(x0, .inr (5, [.ref b0, .ref r0, .ref c0, .ref d0, .ref s0])), (b0, .inr (0, [.ref b1, .ref b2, .int (nI gc), .int (nI u3.1)])), (b1, .inl (cI, 78, .inl u3.2.1)), (b2, .inl (cI, 78, .inl u3.2.2)), (o0, .inl (cJ, 1, .inr (.inl O)))] := va_D.sub hD [1, 2, 3, 4, 0] (by decide) rfl
  refine lv_i2l hx hb xj_A_day_6 rfl ?_
  refine xr_jast hx hb hK.1 hP hD hS 4 2 rfl rfl (by omega) (by decide) xj_A_day_7 (fun H locs hP hD hS => ?_)
  have hP : va_P D xn_cl [(x0, .inr (5, [.ref b0, .ref r0, .ref c0, .ref d0, .ref s0])), (b0, .inr (0, [.ref b1, .ref b2, .int (nI gc), .int (nI u3.1)])), (b1, .inl (cI, 78, .inl u3.2.1)), (b2, .inl (cI, 78, .inl u3.2.2)), (o0, .inl (cJ, 1, .inr (.inl (vp_updL O 0 r3.toInt64))))] H := hP
  have hD : va_D A [(x0, .inr (5, [.ref b0, .ref r0, .ref c0, .ref d0, .ref s0])), (b0, .inr (0, [.ref b1, .ref b2, .int (nI gc), .int (nI u3.1)])), (b1, .inl (cI, 78, .inl u3.2.1)), (b2, .inl (cI, 78, .inl u3.2.2)), (o0, .inl (cJ, 1, .inr (.inl (vp_updL O 0 r3.toInt64))))] := hD
  refine lv_goto (tgt := 14) hx hb xj_A_day_8 rfl ?_
  refine lv_iconst (v := nI 0) hx hb xj_A_day_14 (by decide) ?_
  exact hret (nI 0) ((u3, vp_updL O 0 r3.toInt64)) H locs _ _ _ ls (Or.inl ⟨rfl, r3, hf3, rfl⟩) hP hD hS (Nat.le_of_ble_eq_true rfl) (Nat.le_of_ble_eq_true rfl) xj_A_day_15
set_option maxRecDepth 100000 in
set_option maxHeartbeats 4000000 in
theorem xt_A_price (l : Launch) (hl0 : l.stackTraces = false) (D : va_G) (cI cZ cJ : ClassId) (sa : Nat → Nat) (x0 b0 r0 c0 d0 s0 : Nat) (b1 b2 gc dc : Nat) (P A0 : Nat → Int32) (d g v : Int32) (hg : gc ≤ 6) (hd : dc ≤ 12) (o0 : Nat) (O : Nat → Int64) : xc_Hi l xy_A_price xb_A_price 6 [(0, 12, 15, 25), (0, 12, 19, 13)] 8 3 18 [.ref x0, .int d, .int g, .int v, .ref o0] D cI cZ cJ sa [(x0, .inr (5, [.ref b0, .ref r0, .ref c0, .ref d0, .ref s0])), (b0, .inr (0, [.ref b1, .ref b2, .int (nI gc), .int (nI dc)])), (b1, .inl (cI, 78, .inl P)), (b2, .inl (cI, 78, .inl A0)), (o0, .inl (cJ, 1, .inr (.inl O)))] (((Nat → Int32)) × (Nat → Int64)) (fun r u => (r = nI 0 ∧ ∃ w9, (fun r u => ∃ k j, k < dc ∧ j < gc ∧ d = nI k ∧ g = nI j ∧ xo_rg v (nI 1) (nI 99) = true ∧ r = P (k * 6 + j) ∧ u = upd P (k * 6 + j) v) w9 u.1 ∧ u.2 = vp_updL O 0 w9.toInt64) ∨ (∃ X9, (fun E u => u = P ∧ xo_c2 xn_EX xn_EA (xo_set dc gc d g (xo_rg v (nI 1) (nI 99))) E) X9 u.1 ∧ u.2 = O ∧ ((X9 = xn_EX ∧ r = nI 1) ∨ (X9 = xn_EA ∧ r = nI 2)))) (fun u => [(x0, .inr (5, [.ref b0, .ref r0, .ref c0, .ref d0, .ref s0])), (b0, .inr (0, [.ref b1, .ref b2, .int (nI gc), .int (nI dc)])), (b1, .inl (cI, 78, .inl u.1)), (b2, .inl (cI, 78, .inl A0)), (o0, .inl (cJ, 1, .inr (.inl u.2)))]) := by
  refine xc_Hi_of (by decide) (Nat.le_of_ble_eq_true rfl) ?_
  intro p e s m args below meth c Q ls A hAt hP hK hD hA hS hl hT0 hN htab hret
  obtain ⟨hx, hb, hml, hown, hts, hgs, hlk⟩ := id hAt
  have hT : ∀ w ∈ xw_g, w ∈ Cond.codeWith xy_A_price xb_A_price 6 (some .int) [(0, 12, 15, 25), (0, 12, 19, 13)] :: xw_g := fun w h => List.mem_cons_of_mem _ h
  have hown : s.vm.findClass "WishLedgerLaw" = some m.cls := hown
  obtain ⟨H, hH0⟩ : ∃ H, H = s.heap := ⟨_, rfl⟩
  obtain ⟨locs, hL0⟩ : ∃ locs : List Loc, locs = [] := ⟨_, rfl⟩
  have hP : va_P D xn_cl [(x0, .inr (5, [.ref b0, .ref r0, .ref c0, .ref d0, .ref s0])), (b0, .inr (0, [.ref b1, .ref b2, .int (nI gc), .int (nI dc)])), (b1, .inl (cI, 78, .inl P)), (b2, .inl (cI, 78, .inl A0)), (o0, .inl (cJ, 1, .inr (.inl O)))] H := by rw [hH0]; exact hP
  have hS : va_S A s.heap H locs := by rw [hH0, hL0]; exact hS
  suffices hgo : W p l e (xc_rm 8 3 18) s m args below meth c H locs 0 0 Q (F0 m 0 ls []) by rw [hH0, hL0] at hgo; exact hgo
  clear hH0 hL0
  have hl : lv_has ls 6 [(0, .ref x0), (1, .int d), (2, .int g), (3, .int v), (4, .ref o0)] := hl
  refine lv_aload hx hb xj_A_price_0 (lv_at hl 4 rfl) ?_
  refine lv_iconst (v := nI 0) hx hb xj_A_price_2 (by decide) ?_
  refine lv_aload_n hx hb xj_A_price_3 rfl (lv_at hl 0 rfl) ?_
  refine lv_iload_n hx hb xj_A_price_4 rfl (lv_at hl 1 rfl) ?_
  refine lv_iload_n hx hb xj_A_price_5 rfl (lv_at hl 2 rfl) ?_
  refine lv_iload_n hx hb xj_A_price_6 rfl (lv_at hl 3 rfl) ?_
  refine xc_xVi (av := [.int d, .int g, .int v]) (rest := [.int (nI 0), .ref o0]) (wr := [(o0, .inl (cJ, 1, .inr (.inl O)))]) hAt hT (xt_L_price l hl0 D cI cZ cJ sa x0 b0 r0 c0 d0 s0 b1 b2 gc dc P A0 d g v hg hd) xw_287 xw_1 xw_290 xw_288 xw_289 (C0 := xn_L) (q0 := 0) rfl rfl (na := 3) rfl (by decide +kernel) ⟨Nat.le_of_ble_eq_true rfl, Nat.le_of_ble_eq_true rfl⟩ hP hD hS hA [0, 1, 2, 3] [4] rfl rfl (by decide) (by decide) (by decide) hK hT0 hl.1 (Nat.le_of_ble_eq_true rfl) ⟨Nat.le_of_ble_eq_true rfl, Nat.le_of_ble_eq_true rfl⟩ xj_A_price_7 (fun Ex ce q9 u9 H locs hf hP hD hS hq hv hcl => ?_) (fun r7 u7 H locs hf7 hP hD hS => ?_)
  · have hP : va_P D xn_cl [(x0, .inr (5, [.ref b0, .ref r0, .ref c0, .ref d0, .ref s0])), (b0, .inr (0, [.ref b1, .ref b2, .int (nI gc), .int (nI dc)])), (b1, .inl (cI, 78, .inl u9)), (b2, .inl (cI, 78, .inl A0)), (o0, .inl (cJ, 1, .inr (.inl O)))] H := va_P.sub hP [1, 2, 3, 4, 0] rfl
    have hD : va_D A [(x0, .inr (5, [.ref b0, .ref r0, .ref c0, .ref d0, .ref s0])), (b0, .inr (0, [.ref b1, .ref b2, .int (nI gc), .int (nI dc)])), (b1, .inl (cI, 78, .inl u9)), (b2, .inl (cI, 78, .inl A0)), (o0, .inl (cJ, 1, .inr (.inl O)))] := va_D.sub hD [1, 2, 3, 4, 0] (by decide) rfl
    rcases id hf.2 with ⟨rfl, -⟩ | ⟨rfl, -⟩
    ·
      refine vx_catch (own := "WishLedgerLaw") (name := xn_EX) hown [] ⟨0, 12, 15, 25⟩ [⟨0, 12, 19, 13⟩] htab (fun z hz => absurd hz List.not_mem_nil) rfl (by decide) (hgs _ xw_286) (va_Nw.use rfl hN.2.2.1) hq hv hcl ?_
      refine lv_astore (lv' := [(5, .ref q9), (0, .ref x0), (1, .int d), (2, .int g), (3, .int v), (4, .ref o0)]) hx hb xj_A_price_15 hl (by decide) rfl (fun ls hl => ?_)
      refine lv_iconst (v := nI 1) hx hb xj_A_price_17 (by decide) ?_
      exact hret (nI 1) ((u9, O)) H locs _ _ _ ls (Or.inr ⟨xn_EX, hf, rfl, Or.inl ⟨rfl, rfl⟩⟩) hP hD hS (Nat.le_of_ble_eq_true rfl) (Nat.le_of_ble_eq_true rfl) xj_A_price_18
    ·
      refine vx_catch (own := "WishLedgerLaw") (name := xn_EA) hown [⟨0, 12, 15, 25⟩] ⟨0, 12, 19, 13⟩ [] htab (fun z hz => Or.inr (by obtain rfl := List.mem_singleton.mp hz; exact ⟨by decide, xn_EX, hgs _ xw_286, hN.2.2.2.1⟩)) rfl (by decide) (hgs _ xw_182) (va_Nw.use rfl hN.1) hq hv hcl ?_
      refine lv_astore (lv' := [(5, .ref q9), (0, .ref x0), (1, .int d), (2, .int g), (3, .int v), (4, .ref o0)]) hx hb xj_A_price_19 hl (by decide) rfl (fun ls hl => ?_)
      refine lv_iconst (v := nI 2) hx hb xj_A_price_21 (by decide) ?_
      exact hret (nI 2) ((u9, O)) H locs _ _ _ ls (Or.inr ⟨xn_EA, hf, rfl, Or.inr ⟨rfl, rfl⟩⟩) hP hD hS (Nat.le_of_ble_eq_true rfl) (Nat.le_of_ble_eq_true rfl) xj_A_price_22
  have hP : va_P D xn_cl [(x0, .inr (5, [.ref b0, .ref r0, .ref c0, .ref d0, .ref s0])), (b0, .inr (0, [.ref b1, .ref b2, .int (nI gc), .int (nI dc)])), (b1, .inl (cI, 78, .inl u7)), (b2, .inl (cI, 78, .inl A0)), (o0, .inl (cJ, 1, .inr (.inl O)))] H := va_P.sub hP [1, 2, 3, 4, 0] rfl
  have hD : va_D A [(x0, .inr (5, [.ref b0, .ref r0, .ref c0, .ref d0, .ref s0])), (b0, .inr (0, [.ref b1, .ref b2, .int (nI gc), .int (nI dc)])), (b1, .inl (cI, 78, .inl u7)), (b2, .inl (cI, 78, .inl A0)), (o0, .inl (cJ, 1, .inr (.inl O)))] := va_D.sub hD [1, 2, 3, 4, 0] (by decide) rfl
  refine lv_i2l hx hb xj_A_price_10 rfl ?_
  refine xr_jast hx hb hK.1 hP hD hS 4 2 rfl rfl (by omega) (by decide) xj_A_price_11 (fun H locs hP hD hS => ?_)
  have hP : va_P D xn_cl [(x0, .inr (5, [.ref b0, .ref r0, .ref c0, .ref d0, .ref s0])), (b0, .inr (0, [.ref b1, .ref b2, .int (nI gc), .int (nI dc)])), (b1, .inl (cI, 78, .inl u7)), (b2, .inl (cI, 78, .inl A0)), (o0, .inl (cJ, 1, .inr (.inl (vp_updL O 0 r7.toInt64))))] H := hP
  have hD : va_D A [(x0, .inr (5, [.ref b0, .ref r0, .ref c0, .ref d0, .ref s0])), (b0, .inr (0, [.ref b1, .ref b2, .int (nI gc), .int (nI dc)])), (b1, .inl (cI, 78, .inl u7)), (b2, .inl (cI, 78, .inl A0)), (o0, .inl (cJ, 1, .inr (.inl (vp_updL O 0 r7.toInt64))))] := hD
  refine lv_goto (tgt := 23) hx hb xj_A_price_12 rfl ?_
  refine lv_iconst (v := nI 0) hx hb xj_A_price_23 (by decide) ?_
  exact hret (nI 0) ((u7, vp_updL O 0 r7.toInt64)) H locs _ _ _ ls (Or.inl ⟨rfl, r7, hf7, rfl⟩) hP hD hS (Nat.le_of_ble_eq_true rfl) (Nat.le_of_ble_eq_true rfl) xj_A_price_24
set_option maxRecDepth 100000 in
set_option maxHeartbeats 4000000 in
theorem xt_A_amount (l : Launch) (hl0 : l.stackTraces = false) (D : va_G) (cI cZ cJ : ClassId) (sa : Nat → Nat) (x0 b0 r0 c0 d0 s0 : Nat) (b1 b2 gc dc : Nat) (P A0 : Nat → Int32) (d g v : Int32) (hg : gc ≤ 6) (hd : dc ≤ 12) (o0 : Nat) (O : Nat → Int64) : xc_Hi l xy_A_amount xb_A_amount 6 [(0, 12, 15, 25), (0, 12, 19, 13)] 8 3 18 [.ref x0, .int d, .int g, .int v, .ref o0] D cI cZ cJ sa [(x0, .inr (5, [.ref b0, .ref r0, .ref c0, .ref d0, .ref s0])), (b0, .inr (0, [.ref b1, .ref b2, .int (nI gc), .int (nI dc)])), (b1, .inl (cI, 78, .inl P)), (b2, .inl (cI, 78, .inl A0)), (o0, .inl (cJ, 1, .inr (.inl O)))] (((Nat → Int32)) × (Nat → Int64)) (fun r u => (r = nI 0 ∧ ∃ w9, (fun r u => ∃ k j, k < dc ∧ j < gc ∧ d = nI k ∧ g = nI j ∧ xo_rg v 0 (nI 99) = true ∧ r = A0 (k * 6 + j) ∧ u = upd A0 (k * 6 + j) v) w9 u.1 ∧ u.2 = vp_updL O 0 w9.toInt64) ∨ (∃ X9, (fun E u => u = A0 ∧ xo_c2 xn_EX xn_EA (xo_set dc gc d g (xo_rg v 0 (nI 99))) E) X9 u.1 ∧ u.2 = O ∧ ((X9 = xn_EX ∧ r = nI 1) ∨ (X9 = xn_EA ∧ r = nI 2)))) (fun u => [(x0, .inr (5, [.ref b0, .ref r0, .ref c0, .ref d0, .ref s0])), (b0, .inr (0, [.ref b1, .ref b2, .int (nI gc), .int (nI dc)])), (b1, .inl (cI, 78, .inl P)), (b2, .inl (cI, 78, .inl u.1)), (o0, .inl (cJ, 1, .inr (.inl u.2)))]) := by
  refine xc_Hi_of (by decide) (Nat.le_of_ble_eq_true rfl) ?_
  intro p e s m args below meth c Q ls A hAt hP hK hD hA hS hl hT0 hN htab hret
  obtain ⟨hx, hb, hml, hown, hts, hgs, hlk⟩ := id hAt
  have hT : ∀ w ∈ xw_g, w ∈ Cond.codeWith xy_A_amount xb_A_amount 6 (some .int) [(0, 12, 15, 25), (0, 12, 19, 13)] :: xw_g := fun w h => List.mem_cons_of_mem _ h
  have hown : s.vm.findClass "WishLedgerLaw" = some m.cls := hown
  obtain ⟨H, hH0⟩ : ∃ H, H = s.heap := ⟨_, rfl⟩
  obtain ⟨locs, hL0⟩ : ∃ locs : List Loc, locs = [] := ⟨_, rfl⟩
  have hP : va_P D xn_cl [(x0, .inr (5, [.ref b0, .ref r0, .ref c0, .ref d0, .ref s0])), (b0, .inr (0, [.ref b1, .ref b2, .int (nI gc), .int (nI dc)])), (b1, .inl (cI, 78, .inl P)), (b2, .inl (cI, 78, .inl A0)), (o0, .inl (cJ, 1, .inr (.inl O)))] H := by rw [hH0]; exact hP
  have hS : va_S A s.heap H locs := by rw [hH0, hL0]; exact hS
  suffices hgo : W p l e (xc_rm 8 3 18) s m args below meth c H locs 0 0 Q (F0 m 0 ls []) by rw [hH0, hL0] at hgo; exact hgo
  clear hH0 hL0
  have hl : lv_has ls 6 [(0, .ref x0), (1, .int d), (2, .int g), (3, .int v), (4, .ref o0)] := hl
  refine lv_aload hx hb xj_A_amount_0 (lv_at hl 4 rfl) ?_
  refine lv_iconst (v := nI 0) hx hb xj_A_amount_2 (by decide) ?_
  refine lv_aload_n hx hb xj_A_amount_3 rfl (lv_at hl 0 rfl) ?_
  refine lv_iload_n hx hb xj_A_amount_4 rfl (lv_at hl 1 rfl) ?_
  refine lv_iload_n hx hb xj_A_amount_5 rfl (lv_at hl 2 rfl) ?_
  refine lv_iload_n hx hb xj_A_amount_6 rfl (lv_at hl 3 rfl) ?_
  refine xc_xVi (av := [.int d, .int g, .int v]) (rest := [.int (nI 0), .ref o0]) (wr := [(o0, .inl (cJ, 1, .inr (.inl O)))]) hAt hT (xt_L_amount l hl0 D cI cZ cJ sa x0 b0 r0 c0 d0 s0 b1 b2 gc dc P A0 d g v hg hd) xw_327 xw_1 xw_330 xw_328 xw_329 (C0 := xn_L) (q0 := 0) rfl rfl (na := 3) rfl (by decide +kernel) ⟨Nat.le_of_ble_eq_true rfl, Nat.le_of_ble_eq_true rfl⟩ hP hD hS hA [0, 1, 2, 3] [4] rfl rfl (by decide) (by decide) (by decide) hK hT0 hl.1 (Nat.le_of_ble_eq_true rfl) ⟨Nat.le_of_ble_eq_true rfl, Nat.le_of_ble_eq_true rfl⟩ xj_A_amount_7 (fun Ex ce q9 u9 H locs hf hP hD hS hq hv hcl => ?_) (fun r7 u7 H locs hf7 hP hD hS => ?_)
  · have hP : va_P D xn_cl [(x0, .inr (5, [.ref b0, .ref r0, .ref c0, .ref d0, .ref s0])), (b0, .inr (0, [.ref b1, .ref b2, .int (nI gc), .int (nI dc)])), (b1, .inl (cI, 78, .inl P)), (b2, .inl (cI, 78, .inl u9)), (o0, .inl (cJ, 1, .inr (.inl O)))] H := va_P.sub hP [1, 2, 3, 4, 0] rfl
    have hD : va_D A [(x0, .inr (5, [.ref b0, .ref r0, .ref c0, .ref d0, .ref s0])), (b0, .inr (0, [.ref b1, .ref b2, .int (nI gc), .int (nI dc)])), (b1, .inl (cI, 78, .inl P)), (b2, .inl (cI, 78, .inl u9)), (o0, .inl (cJ, 1, .inr (.inl O)))] := va_D.sub hD [1, 2, 3, 4, 0] (by decide) rfl
    rcases id hf.2 with ⟨rfl, -⟩ | ⟨rfl, -⟩
    ·
      refine vx_catch (own := "WishLedgerLaw") (name := xn_EX) hown [] ⟨0, 12, 15, 25⟩ [⟨0, 12, 19, 13⟩] htab (fun z hz => absurd hz List.not_mem_nil) rfl (by decide) (hgs _ xw_286) (va_Nw.use rfl hN.2.2.1) hq hv hcl ?_
      refine lv_astore (lv' := [(5, .ref q9), (0, .ref x0), (1, .int d), (2, .int g), (3, .int v), (4, .ref o0)]) hx hb xj_A_amount_15 hl (by decide) rfl (fun ls hl => ?_)
      refine lv_iconst (v := nI 1) hx hb xj_A_amount_17 (by decide) ?_
      exact hret (nI 1) ((u9, O)) H locs _ _ _ ls (Or.inr ⟨xn_EX, hf, rfl, Or.inl ⟨rfl, rfl⟩⟩) hP hD hS (Nat.le_of_ble_eq_true rfl) (Nat.le_of_ble_eq_true rfl) xj_A_amount_18
    ·
      refine vx_catch (own := "WishLedgerLaw") (name := xn_EA) hown [⟨0, 12, 15, 25⟩] ⟨0, 12, 19, 13⟩ [] htab (fun z hz => Or.inr (by obtain rfl := List.mem_singleton.mp hz; exact ⟨by decide, xn_EX, hgs _ xw_286, hN.2.2.2.1⟩)) rfl (by decide) (hgs _ xw_182) (va_Nw.use rfl hN.1) hq hv hcl ?_
      refine lv_astore (lv' := [(5, .ref q9), (0, .ref x0), (1, .int d), (2, .int g), (3, .int v), (4, .ref o0)]) hx hb xj_A_amount_19 hl (by decide) rfl (fun ls hl => ?_)
      refine lv_iconst (v := nI 2) hx hb xj_A_amount_21 (by decide) ?_
      exact hret (nI 2) ((u9, O)) H locs _ _ _ ls (Or.inr ⟨xn_EA, hf, rfl, Or.inr ⟨rfl, rfl⟩⟩) hP hD hS (Nat.le_of_ble_eq_true rfl) (Nat.le_of_ble_eq_true rfl) xj_A_amount_22
  have hP : va_P D xn_cl [(x0, .inr (5, [.ref b0, .ref r0, .ref c0, .ref d0, .ref s0])), (b0, .inr (0, [.ref b1, .ref b2, .int (nI gc), .int (nI dc)])), (b1, .inl (cI, 78, .inl P)), (b2, .inl (cI, 78, .inl u7)), (o0, .inl (cJ, 1, .inr (.inl O)))] H := va_P.sub hP [1, 2, 3, 4, 0] rfl
  have hD : va_D A [(x0, .inr (5, [.ref b0, .ref r0, .ref c0, .ref d0, .ref s0])), (b0, .inr (0, [.ref b1, .ref b2, .int (nI gc), .int (nI dc)])), (b1, .inl (cI, 78, .inl P)), (b2, .inl (cI, 78, .inl u7)), (o0, .inl (cJ, 1, .inr (.inl O)))] := va_D.sub hD [1, 2, 3, 4, 0] (by decide) rfl
  refine lv_i2l hx hb xj_A_amount_10 rfl ?_
  refine xr_jast hx hb hK.1 hP hD hS 4 2 rfl rfl (by omega) (by decide) xj_A_amount_11 (fun H locs hP hD hS => ?_)
  have hP : va_P D xn_cl [(x0, .inr (5, [.ref b0, .ref r0, .ref c0, .ref d0, .ref s0])), (b0, .inr (0, [.ref b1, .ref b2, .int (nI gc), .int (nI dc)])), (b1, .inl (cI, 78, .inl P)), (b2, .inl (cI, 78, .inl u7)), (o0, .inl (cJ, 1, .inr (.inl (vp_updL O 0 r7.toInt64))))] H := hP
  have hD : va_D A [(x0, .inr (5, [.ref b0, .ref r0, .ref c0, .ref d0, .ref s0])), (b0, .inr (0, [.ref b1, .ref b2, .int (nI gc), .int (nI dc)])), (b1, .inl (cI, 78, .inl P)), (b2, .inl (cI, 78, .inl u7)), (o0, .inl (cJ, 1, .inr (.inl (vp_updL O 0 r7.toInt64))))] := hD
  refine lv_goto (tgt := 23) hx hb xj_A_amount_12 rfl ?_
  refine lv_iconst (v := nI 0) hx hb xj_A_amount_23 (by decide) ?_
  exact hret (nI 0) ((u7, vp_updL O 0 r7.toInt64)) H locs _ _ _ ls (Or.inl ⟨rfl, r7, hf7, rfl⟩) hP hD hS (Nat.le_of_ble_eq_true rfl) (Nat.le_of_ble_eq_true rfl) xj_A_amount_24
set_option maxRecDepth 100000 in
set_option maxHeartbeats 4000000 in
theorem xt_A_remove (l : Launch) (hl0 : l.stackTraces = false) (D : va_G) (cI cZ cJ : ClassId) (sa : Nat → Nat) (x0 b0 r0 c0 d0 s0 : Nat) (b1 b2 gc dc : Nat) (P A0 : Nat → Int32) (d : Int32) (hg : gc ≤ 6) (hd : dc ≤ 12) : xc_Hi l xy_A_remove xb_A_remove 3 [(0, 5, 8, 25)] 8 1 6 [.ref x0, .int d] D cI cZ cJ sa [(x0, .inr (5, [.ref b0, .ref r0, .ref c0, .ref d0, .ref s0])), (b0, .inr (0, [.ref b1, .ref b2, .int (nI gc), .int (nI dc)])), (b1, .inl (cI, 78, .inl P)), (b2, .inl (cI, 78, .inl A0))] (Nat × (Nat → Int32) × (Nat → Int32)) (fun r u => (r = nI 0 ∧ (fun u => ∃ k, k < dc ∧ d = nI k ∧ u = (dc - 1, xk_shf ((dc - 1) * 6 - k * 6) (k * 6) P, xk_shf ((dc - 1) * 6 - k * 6) (k * 6) A0)) u) ∨ (r = nI 1 ∧ ∃ X9, (fun E u => E = xn_EX ∧ xo_in d dc = false ∧ u = (dc, P, A0)) X9 u)) (fun u => [(x0, .inr (5, [.ref b0, .ref r0, .ref c0, .ref d0, .ref s0])), (b0, .inr (0, [.ref b1, .ref b2, .int (nI gc), .int (nI u.1)])), (b1, .inl (cI, 78, .inl u.2.1)), (b2, .inl (cI, 78, .inl u.2.2))]) := by
  refine xc_Hi_of (by decide) (Nat.le_of_ble_eq_true rfl) ?_
  intro p e s m args below meth c Q ls A hAt hP hK hD hA hS hl hT0 hN htab hret
  obtain ⟨hx, hb, hml, hown, hts, hgs, hlk⟩ := id hAt
  have hT : ∀ w ∈ xw_g, w ∈ Cond.codeWith xy_A_remove xb_A_remove 3 (some .int) [(0, 5, 8, 25)] :: xw_g := fun w h => List.mem_cons_of_mem _ h
  have hown : s.vm.findClass "WishLedgerLaw" = some m.cls := hown
  obtain ⟨H, hH0⟩ : ∃ H, H = s.heap := ⟨_, rfl⟩
  obtain ⟨locs, hL0⟩ : ∃ locs : List Loc, locs = [] := ⟨_, rfl⟩
  have hP : va_P D xn_cl [(x0, .inr (5, [.ref b0, .ref r0, .ref c0, .ref d0, .ref s0])), (b0, .inr (0, [.ref b1, .ref b2, .int (nI gc), .int (nI dc)])), (b1, .inl (cI, 78, .inl P)), (b2, .inl (cI, 78, .inl A0))] H := by rw [hH0]; exact hP
  have hS : va_S A s.heap H locs := by rw [hH0, hL0]; exact hS
  suffices hgo : W p l e (xc_rm 8 1 6) s m args below meth c H locs 0 0 Q (F0 m 0 ls []) by rw [hH0, hL0] at hgo; exact hgo
  clear hH0 hL0
  have hl : lv_has ls 3 [(0, .ref x0), (1, .int d)] := hl
  refine lv_aload_n hx hb xj_A_remove_0 rfl (lv_at hl 0 rfl) ?_
  refine lv_iload_n hx hb xj_A_remove_1 rfl (lv_at hl 1 rfl) ?_
  refine xc_xVv (av := [.int d]) (rest := []) (wr := []) hAt hT (xt_L_remove l hl0 D cI cZ cJ sa x0 b0 r0 c0 d0 s0 b1 b2 gc dc P A0 d hg hd) xw_342 xw_1 xw_345 xw_343 xw_344 (C0 := xn_L) (q0 := 0) rfl rfl (na := 1) rfl (by decide +kernel) ⟨Nat.le_of_ble_eq_true rfl, Nat.le_of_ble_eq_true rfl⟩ hP hD hS hA [0, 1, 2, 3] [] rfl rfl (by decide) (by decide) (by decide) hK hT0 hl.1 (Nat.le_of_ble_eq_true rfl) ⟨Nat.le_of_ble_eq_true rfl, Nat.le_of_ble_eq_true rfl⟩ xj_A_remove_2 (fun Ex ce q9 u9 H locs hf hP hD hS hq hv hcl => ?_) (fun u2 H locs hf2 hP hD hS => ?_)
  · have hP : va_P D xn_cl [(x0, .inr (5, [.ref b0, .ref r0, .ref c0, .ref d0, .ref s0])), (b0, .inr (0, [.ref b1, .ref b2, .int (nI gc), .int (nI u9.1)])), (b1, .inl (cI, 78, .inl u9.2.1)), (b2, .inl (cI, 78, .inl u9.2.2))] H := va_P.sub hP [0, 1, 2, 3] rfl
    have hD : va_D A [(x0, .inr (5, [.ref b0, .ref r0, .ref c0, .ref d0, .ref s0])), (b0, .inr (0, [.ref b1, .ref b2, .int (nI gc), .int (nI u9.1)])), (b1, .inl (cI, 78, .inl u9.2.1)), (b2, .inl (cI, 78, .inl u9.2.2))] := va_D.sub hD [0, 1, 2, 3] (by decide) rfl
    obtain rfl : Ex = xn_EX := hf.1
    refine vx_catch (own := "WishLedgerLaw") (name := xn_EX) hown [] ⟨0, 5, 8, 25⟩ [] htab (fun z hz => absurd hz List.not_mem_nil) rfl (by decide) (hgs _ xw_286) (va_Nw.use rfl hN.2.2.1) hq hv hcl ?_
    refine lv_astore_n (lv' := [(2, .ref q9), (0, .ref x0), (1, .int d)]) hx hb xj_A_remove_8 rfl hl (by decide) rfl (fun ls hl => ?_)
    refine lv_iconst (v := nI 1) hx hb xj_A_remove_9 (by decide) ?_
    exact hret (nI 1) u9 H locs _ _ _ ls (Or.inr ⟨rfl, xn_EX, hf⟩) hP hD hS (Nat.le_of_ble_eq_true rfl) (Nat.le_of_ble_eq_true rfl) xj_A_remove_10
  have hP : va_P D xn_cl [(x0, .inr (5, [.ref b0, .ref r0, .ref c0, .ref d0, .ref s0])), (b0, .inr (0, [.ref b1, .ref b2, .int (nI gc), .int (nI u2.1)])), (b1, .inl (cI, 78, .inl u2.2.1)), (b2, .inl (cI, 78, .inl u2.2.2))] H := hP
  have hD : va_D A [(x0, .inr (5, [.ref b0, .ref r0, .ref c0, .ref d0, .ref s0])), (b0, .inr (0, [.ref b1, .ref b2, .int (nI gc), .int (nI u2.1)])), (b1, .inl (cI, 78, .inl u2.2.1)), (b2, .inl (cI, 78, .inl u2.2.2))] := hD
  refine lv_goto (tgt := 11) hx hb xj_A_remove_5 rfl ?_
  refine lv_iconst (v := nI 0) hx hb xj_A_remove_11 (by decide) ?_
  exact hret (nI 0) u2 H locs _ _ _ ls (Or.inl ⟨rfl, hf2⟩) hP hD hS (Nat.le_of_ble_eq_true rfl) (Nat.le_of_ble_eq_true rfl) xj_A_remove_12
set_option maxRecDepth 100000 in
set_option maxHeartbeats 4000000 in
theorem xt_A_cost (l : Launch) (hl0 : l.stackTraces = false) (D : va_G) (cI cZ cJ : ClassId) (sa : Nat → Nat) (x0 b0 r0 c0 d0 s0 : Nat) (b1 b2 gc dc : Nat) (P A0 : Nat → Int32) (s1 t1 : Int32) (hg : gc ≤ 6) (hd : dc ≤ 12) (o0 : Nat) (O : Nat → Int64) : xc_Hi l xy_A_cost xb_A_cost 5 [(0, 10, 13, 25)] 8 2 12 [.ref x0, .int s1, .int t1, .ref o0] D cI cZ cJ sa [(x0, .inr (5, [.ref b0, .ref r0, .ref c0, .ref d0, .ref s0])), (b0, .inr (0, [.ref b1, .ref b2, .int (nI gc), .int (nI dc)])), (b1, .inl (cI, 78, .inl P)), (b2, .inl (cI, 78, .inl A0)), (o0, .inl (cJ, 1, .inr (.inl O)))] ((Unit) × (Nat → Int64)) (fun r u => (r = nI 0 ∧ ∃ w9, (fun r _ => ∃ k j, k < dc ∧ j < dc ∧ s1 = nI k ∧ t1 = nI j ∧ r = xk_c gc P A0 k j) w9 u.1 ∧ u.2 = vp_updL O 0 w9.toInt64) ∨ (r = nI 1 ∧ ∃ X9, (fun E _ => E = xn_EX ∧ (xo_in s1 dc && xo_in t1 dc) = false) X9 u.1 ∧ u.2 = O)) (fun u => [(x0, .inr (5, [.ref b0, .ref r0, .ref c0, .ref d0, .ref s0])), (b0, .inr (0, [.ref b1, .ref b2, .int (nI gc), .int (nI dc)])), (b1, .inl (cI, 78, .inl P)), (b2, .inl (cI, 78, .inl A0)), (o0, .inl (cJ, 1, .inr (.inl u.2)))]) := by
  refine xc_Hi_of (by decide) (Nat.le_of_ble_eq_true rfl) ?_
  intro p e s m args below meth c Q ls A hAt hP hK hD hA hS hl hT0 hN htab hret
  obtain ⟨hx, hb, hml, hown, hts, hgs, hlk⟩ := id hAt
  have hT : ∀ w ∈ xw_g, w ∈ Cond.codeWith xy_A_cost xb_A_cost 5 (some .int) [(0, 10, 13, 25)] :: xw_g := fun w h => List.mem_cons_of_mem _ h
  have hown : s.vm.findClass "WishLedgerLaw" = some m.cls := hown
  obtain ⟨H, hH0⟩ : ∃ H, H = s.heap := ⟨_, rfl⟩
  obtain ⟨locs, hL0⟩ : ∃ locs : List Loc, locs = [] := ⟨_, rfl⟩
  have hP : va_P D xn_cl [(x0, .inr (5, [.ref b0, .ref r0, .ref c0, .ref d0, .ref s0])), (b0, .inr (0, [.ref b1, .ref b2, .int (nI gc), .int (nI dc)])), (b1, .inl (cI, 78, .inl P)), (b2, .inl (cI, 78, .inl A0)), (o0, .inl (cJ, 1, .inr (.inl O)))] H := by rw [hH0]; exact hP
  have hS : va_S A s.heap H locs := by rw [hH0, hL0]; exact hS
  suffices hgo : W p l e (xc_rm 8 2 12) s m args below meth c H locs 0 0 Q (F0 m 0 ls []) by rw [hH0, hL0] at hgo; exact hgo
  clear hH0 hL0
  have hl : lv_has ls 5 [(0, .ref x0), (1, .int s1), (2, .int t1), (3, .ref o0)] := hl
  refine lv_aload_n hx hb xj_A_cost_0 rfl (lv_at hl 3 rfl) ?_
  refine lv_iconst (v := nI 0) hx hb xj_A_cost_1 (by decide) ?_
  refine lv_aload_n hx hb xj_A_cost_2 rfl (lv_at hl 0 rfl) ?_
  refine lv_iload_n hx hb xj_A_cost_3 rfl (lv_at hl 1 rfl) ?_
  refine lv_iload_n hx hb xj_A_cost_4 rfl (lv_at hl 2 rfl) ?_
  refine xc_xVi (av := [.int s1, .int t1]) (rest := [.int (nI 0), .ref o0]) (wr := [(o0, .inl (cJ, 1, .inr (.inl O)))]) hAt hT (xt_L_cost l hl0 D cI cZ cJ sa x0 b0 r0 c0 d0 s0 b1 b2 gc dc P A0 s1 t1 hg hd) xw_353 xw_1 xw_356 xw_354 xw_355 (C0 := xn_L) (q0 := 0) rfl rfl (na := 2) rfl (by decide +kernel) ⟨Nat.le_of_ble_eq_true rfl, Nat.le_of_ble_eq_true rfl⟩ hP hD hS hA [0, 1, 2, 3] [4] rfl rfl (by decide) (by decide) (by decide) hK hT0 hl.1 (Nat.le_of_ble_eq_true rfl) ⟨Nat.le_of_ble_eq_true rfl, Nat.le_of_ble_eq_true rfl⟩ xj_A_cost_5 (fun Ex ce q9 u9 H locs hf hP hD hS hq hv hcl => ?_) (fun r5 u5 H locs hf5 hP hD hS => ?_)
  · have hP : va_P D xn_cl [(x0, .inr (5, [.ref b0, .ref r0, .ref c0, .ref d0, .ref s0])), (b0, .inr (0, [.ref b1, .ref b2, .int (nI gc), .int (nI dc)])), (b1, .inl (cI, 78, .inl P)), (b2, .inl (cI, 78, .inl A0)), (o0, .inl (cJ, 1, .inr (.inl O)))] H := va_P.sub hP [1, 2, 3, 4, 0] rfl
    have hD : va_D A [(x0, .inr (5, [.ref b0, .ref r0, .ref c0, .ref d0, .ref s0])), (b0, .inr (0, [.ref b1, .ref b2, .int (nI gc), .int (nI dc)])), (b1, .inl (cI, 78, .inl P)), (b2, .inl (cI, 78, .inl A0)), (o0, .inl (cJ, 1, .inr (.inl O)))] := va_D.sub hD [1, 2, 3, 4, 0] (by decide) rfl
    obtain rfl : Ex = xn_EX := hf.1
    refine vx_catch (own := "WishLedgerLaw") (name := xn_EX) hown [] ⟨0, 10, 13, 25⟩ [] htab (fun z hz => absurd hz List.not_mem_nil) rfl (by decide) (hgs _ xw_286) (va_Nw.use rfl hN.2.2.1) hq hv hcl ?_
    refine lv_astore (lv' := [(4, .ref q9), (0, .ref x0), (1, .int s1), (2, .int t1), (3, .ref o0)]) hx hb xj_A_cost_13 hl (by decide) rfl (fun ls hl => ?_)
    refine lv_iconst (v := nI 1) hx hb xj_A_cost_15 (by decide) ?_
    exact hret (nI 1) ((u9, O)) H locs _ _ _ ls (Or.inr ⟨rfl, xn_EX, hf, rfl⟩) hP hD hS (Nat.le_of_ble_eq_true rfl) (Nat.le_of_ble_eq_true rfl) xj_A_cost_16
  have hP : va_P D xn_cl [(x0, .inr (5, [.ref b0, .ref r0, .ref c0, .ref d0, .ref s0])), (b0, .inr (0, [.ref b1, .ref b2, .int (nI gc), .int (nI dc)])), (b1, .inl (cI, 78, .inl P)), (b2, .inl (cI, 78, .inl A0)), (o0, .inl (cJ, 1, .inr (.inl O)))] H := va_P.sub hP [1, 2, 3, 4, 0] rfl
  have hD : va_D A [(x0, .inr (5, [.ref b0, .ref r0, .ref c0, .ref d0, .ref s0])), (b0, .inr (0, [.ref b1, .ref b2, .int (nI gc), .int (nI dc)])), (b1, .inl (cI, 78, .inl P)), (b2, .inl (cI, 78, .inl A0)), (o0, .inl (cJ, 1, .inr (.inl O)))] := va_D.sub hD [1, 2, 3, 4, 0] (by decide) rfl
  refine lv_i2l hx hb xj_A_cost_8 rfl ?_
  refine xr_jast hx hb hK.1 hP hD hS 4 2 rfl rfl (by omega) (by decide) xj_A_cost_9 (fun H locs hP hD hS => ?_)
  have hP : va_P D xn_cl [(x0, .inr (5, [.ref b0, .ref r0, .ref c0, .ref d0, .ref s0])), (b0, .inr (0, [.ref b1, .ref b2, .int (nI gc), .int (nI dc)])), (b1, .inl (cI, 78, .inl P)), (b2, .inl (cI, 78, .inl A0)), (o0, .inl (cJ, 1, .inr (.inl (vp_updL O 0 r5.toInt64))))] H := hP
  have hD : va_D A [(x0, .inr (5, [.ref b0, .ref r0, .ref c0, .ref d0, .ref s0])), (b0, .inr (0, [.ref b1, .ref b2, .int (nI gc), .int (nI dc)])), (b1, .inl (cI, 78, .inl P)), (b2, .inl (cI, 78, .inl A0)), (o0, .inl (cJ, 1, .inr (.inl (vp_updL O 0 r5.toInt64))))] := hD
  refine lv_goto (tgt := 17) hx hb xj_A_cost_10 rfl ?_
  refine lv_iconst (v := nI 0) hx hb xj_A_cost_17 (by decide) ?_
  exact hret (nI 0) ((u5, vp_updL O 0 r5.toInt64)) H locs _ _ _ ls (Or.inl ⟨rfl, r5, hf5, rfl⟩) hP hD hS (Nat.le_of_ble_eq_true rfl) (Nat.le_of_ble_eq_true rfl) xj_A_cost_18
set_option maxRecDepth 100000 in
set_option maxHeartbeats 4000000 in
theorem xt_A_shown (l : Launch) (hl0 : l.stackTraces = false) (D : va_G) (cI cZ cJ : ClassId) (sa : Nat → Nat) (x0 b0 r0 c0 d0 s0 : Nat) (b1 b2 gc dc : Nat) (P A0 : Nat → Int32) (s1 t1 : Int32) (hg : gc ≤ 6) (hd : dc ≤ 12) (o0 : Nat) (O : Nat → Int64) : xc_Hi l xy_A_shown xb_A_shown 5 [(0, 10, 13, 25)] 8 2 12 [.ref x0, .int s1, .int t1, .ref o0] D cI cZ cJ sa [(x0, .inr (5, [.ref b0, .ref r0, .ref c0, .ref d0, .ref s0])), (b0, .inr (0, [.ref b1, .ref b2, .int (nI gc), .int (nI dc)])), (b1, .inl (cI, 78, .inl P)), (b2, .inl (cI, 78, .inl A0)), (o0, .inl (cJ, 1, .inr (.inl O)))] ((Unit) × (Nat → Int64)) (fun r u => (r = nI 0 ∧ ∃ w9, (fun r _ => ∃ k j, k < dc ∧ j < dc ∧ s1 = nI k ∧ t1 = nI j ∧ r = xo_sh (xk_c gc P A0 k j) (xk_c gc P A0 k k)) w9 u.1 ∧ u.2 = vp_updL O 0 w9.toInt64) ∨ (r = nI 1 ∧ ∃ X9, (fun E _ => E = xn_EX ∧ (xo_in s1 dc && xo_in t1 dc) = false) X9 u.1 ∧ u.2 = O)) (fun u => [(x0, .inr (5, [.ref b0, .ref r0, .ref c0, .ref d0, .ref s0])), (b0, .inr (0, [.ref b1, .ref b2, .int (nI gc), .int (nI dc)])), (b1, .inl (cI, 78, .inl P)), (b2, .inl (cI, 78, .inl A0)), (o0, .inl (cJ, 1, .inr (.inl u.2)))]) := by
  refine xc_Hi_of (by decide) (Nat.le_of_ble_eq_true rfl) ?_
  intro p e s m args below meth c Q ls A hAt hP hK hD hA hS hl hT0 hN htab hret
  obtain ⟨hx, hb, hml, hown, hts, hgs, hlk⟩ := id hAt
  have hT : ∀ w ∈ xw_g, w ∈ Cond.codeWith xy_A_shown xb_A_shown 5 (some .int) [(0, 10, 13, 25)] :: xw_g := fun w h => List.mem_cons_of_mem _ h
  have hown : s.vm.findClass "WishLedgerLaw" = some m.cls := hown
  obtain ⟨H, hH0⟩ : ∃ H, H = s.heap := ⟨_, rfl⟩
  obtain ⟨locs, hL0⟩ : ∃ locs : List Loc, locs = [] := ⟨_, rfl⟩
  have hP : va_P D xn_cl [(x0, .inr (5, [.ref b0, .ref r0, .ref c0, .ref d0, .ref s0])), (b0, .inr (0, [.ref b1, .ref b2, .int (nI gc), .int (nI dc)])), (b1, .inl (cI, 78, .inl P)), (b2, .inl (cI, 78, .inl A0)), (o0, .inl (cJ, 1, .inr (.inl O)))] H := by rw [hH0]; exact hP
  have hS : va_S A s.heap H locs := by rw [hH0, hL0]; exact hS
  suffices hgo : W p l e (xc_rm 8 2 12) s m args below meth c H locs 0 0 Q (F0 m 0 ls []) by rw [hH0, hL0] at hgo; exact hgo
  clear hH0 hL0
  have hl : lv_has ls 5 [(0, .ref x0), (1, .int s1), (2, .int t1), (3, .ref o0)] := hl
  refine lv_aload_n hx hb xj_A_shown_0 rfl (lv_at hl 3 rfl) ?_
  refine lv_iconst (v := nI 0) hx hb xj_A_shown_1 (by decide) ?_
  refine lv_aload_n hx hb xj_A_shown_2 rfl (lv_at hl 0 rfl) ?_
  refine lv_iload_n hx hb xj_A_shown_3 rfl (lv_at hl 1 rfl) ?_
  refine lv_iload_n hx hb xj_A_shown_4 rfl (lv_at hl 2 rfl) ?_
  refine xc_xVi (av := [.int s1, .int t1]) (rest := [.int (nI 0), .ref o0]) (wr := [(o0, .inl (cJ, 1, .inr (.inl O)))]) hAt hT (xt_L_shown l hl0 D cI cZ cJ sa x0 b0 r0 c0 d0 s0 b1 b2 gc dc P A0 s1 t1 hg hd) xw_361 xw_1 xw_364 xw_362 xw_363 (C0 := xn_L) (q0 := 0) rfl rfl (na := 2) rfl (by decide +kernel) ⟨Nat.le_of_ble_eq_true rfl, Nat.le_of_ble_eq_true rfl⟩ hP hD hS hA [0, 1, 2, 3] [4] rfl rfl (by decide) (by decide) (by decide) hK hT0 hl.1 (Nat.le_of_ble_eq_true rfl) ⟨Nat.le_of_ble_eq_true rfl, Nat.le_of_ble_eq_true rfl⟩ xj_A_shown_5 (fun Ex ce q9 u9 H locs hf hP hD hS hq hv hcl => ?_) (fun r5 u5 H locs hf5 hP hD hS => ?_)
  · have hP : va_P D xn_cl [(x0, .inr (5, [.ref b0, .ref r0, .ref c0, .ref d0, .ref s0])), (b0, .inr (0, [.ref b1, .ref b2, .int (nI gc), .int (nI dc)])), (b1, .inl (cI, 78, .inl P)), (b2, .inl (cI, 78, .inl A0)), (o0, .inl (cJ, 1, .inr (.inl O)))] H := va_P.sub hP [1, 2, 3, 4, 0] rfl
    have hD : va_D A [(x0, .inr (5, [.ref b0, .ref r0, .ref c0, .ref d0, .ref s0])), (b0, .inr (0, [.ref b1, .ref b2, .int (nI gc), .int (nI dc)])), (b1, .inl (cI, 78, .inl P)), (b2, .inl (cI, 78, .inl A0)), (o0, .inl (cJ, 1, .inr (.inl O)))] := va_D.sub hD [1, 2, 3, 4, 0] (by decide) rfl
    obtain rfl : Ex = xn_EX := hf.1
    refine vx_catch (own := "WishLedgerLaw") (name := xn_EX) hown [] ⟨0, 10, 13, 25⟩ [] htab (fun z hz => absurd hz List.not_mem_nil) rfl (by decide) (hgs _ xw_286) (va_Nw.use rfl hN.2.2.1) hq hv hcl ?_
    refine lv_astore (lv' := [(4, .ref q9), (0, .ref x0), (1, .int s1), (2, .int t1), (3, .ref o0)]) hx hb xj_A_shown_13 hl (by decide) rfl (fun ls hl => ?_)
    refine lv_iconst (v := nI 1) hx hb xj_A_shown_15 (by decide) ?_
    exact hret (nI 1) ((u9, O)) H locs _ _ _ ls (Or.inr ⟨rfl, xn_EX, hf, rfl⟩) hP hD hS (Nat.le_of_ble_eq_true rfl) (Nat.le_of_ble_eq_true rfl) xj_A_shown_16
  have hP : va_P D xn_cl [(x0, .inr (5, [.ref b0, .ref r0, .ref c0, .ref d0, .ref s0])), (b0, .inr (0, [.ref b1, .ref b2, .int (nI gc), .int (nI dc)])), (b1, .inl (cI, 78, .inl P)), (b2, .inl (cI, 78, .inl A0)), (o0, .inl (cJ, 1, .inr (.inl O)))] H := va_P.sub hP [1, 2, 3, 4, 0] rfl
  have hD : va_D A [(x0, .inr (5, [.ref b0, .ref r0, .ref c0, .ref d0, .ref s0])), (b0, .inr (0, [.ref b1, .ref b2, .int (nI gc), .int (nI dc)])), (b1, .inl (cI, 78, .inl P)), (b2, .inl (cI, 78, .inl A0)), (o0, .inl (cJ, 1, .inr (.inl O)))] := va_D.sub hD [1, 2, 3, 4, 0] (by decide) rfl
  refine lv_i2l hx hb xj_A_shown_8 rfl ?_
  refine xr_jast hx hb hK.1 hP hD hS 4 2 rfl rfl (by omega) (by decide) xj_A_shown_9 (fun H locs hP hD hS => ?_)
  have hP : va_P D xn_cl [(x0, .inr (5, [.ref b0, .ref r0, .ref c0, .ref d0, .ref s0])), (b0, .inr (0, [.ref b1, .ref b2, .int (nI gc), .int (nI dc)])), (b1, .inl (cI, 78, .inl P)), (b2, .inl (cI, 78, .inl A0)), (o0, .inl (cJ, 1, .inr (.inl (vp_updL O 0 r5.toInt64))))] H := hP
  have hD : va_D A [(x0, .inr (5, [.ref b0, .ref r0, .ref c0, .ref d0, .ref s0])), (b0, .inr (0, [.ref b1, .ref b2, .int (nI gc), .int (nI dc)])), (b1, .inl (cI, 78, .inl P)), (b2, .inl (cI, 78, .inl A0)), (o0, .inl (cJ, 1, .inr (.inl (vp_updL O 0 r5.toInt64))))] := hD
  refine lv_goto (tgt := 17) hx hb xj_A_shown_10 rfl ?_
  refine lv_iconst (v := nI 0) hx hb xj_A_shown_17 (by decide) ?_
  exact hret (nI 0) ((u5, vp_updL O 0 r5.toInt64)) H locs _ _ _ ls (Or.inl ⟨rfl, r5, hf5, rfl⟩) hP hD hS (Nat.le_of_ble_eq_true rfl) (Nat.le_of_ble_eq_true rfl) xj_A_shown_18
set_option maxRecDepth 100000 in
set_option maxHeartbeats 4000000 in
theorem xt_A_chain (l : Launch) (hl0 : l.stackTraces = false) (D : va_G) (cI cZ cJ : ClassId) (sa : Nat → Nat) (x0 b0 r0 c0 d0 s0 : Nat) (b1 b2 gc dc : Nat) (P A0 : Nat → Int32) (r1 r2 r3 : Nat) (G Bt C : Nat → Int32) (s1 t1 : Int32) (hg : gc ≤ 6) (hd : dc ≤ 12) (o0 : Nat) (O : Nat → Int64) : xc_Hi l xy_A_chain xb_A_chain 5 [(0, 10, 13, 25)] 8 2 12 [.ref x0, .int s1, .int t1, .ref o0] D cI cZ cJ sa [(x0, .inr (5, [.ref b0, .ref r0, .ref c0, .ref d0, .ref s0])), (b0, .inr (0, [.ref b1, .ref b2, .int (nI gc), .int (nI dc)])), (b1, .inl (cI, 78, .inl P)), (b2, .inl (cI, 78, .inl A0)), (r0, .inr (3, [.ref r1, .ref r2, .ref r3])), (r1, .inl (cI, 13, .inl G)), (r2, .inl (cI, 13, .inl Bt)), (r3, .inl (cI, 13, .inl C)), (o0, .inl (cJ, 1, .inr (.inl O)))] (((Nat → Int32) × (Nat → Int32)) × (Nat → Int64)) (fun r u => (r = nI 0 ∧ ∃ w9, (fun r _ => ∃ k j, k < dc ∧ j < dc ∧ s1 = nI k ∧ t1 = nI j ∧ r = xk_stp (xo_G gc P A0 (xo_X dc) (nI 1) (nI 1) G) j 13 1 (xo_G gc P A0 (xo_X dc) (nI 1) (nI 1) G k)) w9 u.1 ∧ u.2 = vp_updL O 0 w9.toInt64) ∨ (r = nI 1 ∧ ∃ X9, (fun E _ => E = xn_EX ∧ (xo_in s1 dc && xo_in t1 dc) = false) X9 u.1 ∧ u.2 = O)) (fun u => [(x0, .inr (5, [.ref b0, .ref r0, .ref c0, .ref d0, .ref s0])), (b0, .inr (0, [.ref b1, .ref b2, .int (nI gc), .int (nI dc)])), (b1, .inl (cI, 78, .inl P)), (b2, .inl (cI, 78, .inl A0)), (r0, .inr (3, [.ref r1, .ref r2, .ref r3])), (r1, .inl (cI, 13, .inl u.1.1)), (r2, .inl (cI, 13, .inl u.1.2)), (r3, .inl (cI, 13, .inl C)), (o0, .inl (cJ, 1, .inr (.inl u.2)))]) := by
  refine xc_Hi_of (by decide) (Nat.le_of_ble_eq_true rfl) ?_
  intro p e s m args below meth c Q ls A hAt hP hK hD hA hS hl hT0 hN htab hret
  obtain ⟨hx, hb, hml, hown, hts, hgs, hlk⟩ := id hAt
  have hT : ∀ w ∈ xw_g, w ∈ Cond.codeWith xy_A_chain xb_A_chain 5 (some .int) [(0, 10, 13, 25)] :: xw_g := fun w h => List.mem_cons_of_mem _ h
  have hown : s.vm.findClass "WishLedgerLaw" = some m.cls := hown
  obtain ⟨H, hH0⟩ : ∃ H, H = s.heap := ⟨_, rfl⟩
  obtain ⟨locs, hL0⟩ : ∃ locs : List Loc, locs = [] := ⟨_, rfl⟩
  have hP : va_P D xn_cl [(x0, .inr (5, [.ref b0, .ref r0, .ref c0, .ref d0, .ref s0])), (b0, .inr (0, [.ref b1, .ref b2, .int (nI gc), .int (nI dc)])), (b1, .inl (cI, 78, .inl P)), (b2, .inl (cI, 78, .inl A0)), (r0, .inr (3, [.ref r1, .ref r2, .ref r3])), (r1, .inl (cI, 13, .inl G)), (r2, .inl (cI, 13, .inl Bt)), (r3, .inl (cI, 13, .inl C)), (o0, .inl (cJ, 1, .inr (.inl O)))] H := by rw [hH0]; exact hP
  have hS : va_S A s.heap H locs := by rw [hH0, hL0]; exact hS
  suffices hgo : W p l e (xc_rm 8 2 12) s m args below meth c H locs 0 0 Q (F0 m 0 ls []) by rw [hH0, hL0] at hgo; exact hgo
  clear hH0 hL0
  have hl : lv_has ls 5 [(0, .ref x0), (1, .int s1), (2, .int t1), (3, .ref o0)] := hl
  refine lv_aload_n hx hb xj_A_chain_0 rfl (lv_at hl 3 rfl) ?_
  refine lv_iconst (v := nI 0) hx hb xj_A_chain_1 (by decide) ?_
  refine lv_aload_n hx hb xj_A_chain_2 rfl (lv_at hl 0 rfl) ?_
  refine lv_iload_n hx hb xj_A_chain_3 rfl (lv_at hl 1 rfl) ?_
  refine lv_iload_n hx hb xj_A_chain_4 rfl (lv_at hl 2 rfl) ?_
  refine xc_xVi (av := [.int s1, .int t1]) (rest := [.int (nI 0), .ref o0]) (wr := [(o0, .inl (cJ, 1, .inr (.inl O)))]) hAt hT (xt_L_chain l hl0 D cI cZ cJ sa x0 b0 r0 c0 d0 s0 b1 b2 gc dc P A0 r1 r2 r3 G Bt C s1 t1 hg hd) xw_368 xw_1 xw_371 xw_369 xw_370 (C0 := xn_L) (q0 := 0) rfl rfl (na := 2) rfl (by decide +kernel) ⟨Nat.le_of_ble_eq_true rfl, Nat.le_of_ble_eq_true rfl⟩ hP hD hS hA [0, 1, 2, 3, 4, 5, 6, 7] [8] rfl rfl (by decide) (by decide) (by decide) hK hT0 hl.1 (Nat.le_of_ble_eq_true rfl) ⟨Nat.le_of_ble_eq_true rfl, Nat.le_of_ble_eq_true rfl⟩ xj_A_chain_5 (fun Ex ce q9 u9 H locs hf hP hD hS hq hv hcl => ?_) (fun r5 u5 H locs hf5 hP hD hS => ?_)
  · have hP : va_P D xn_cl [(x0, .inr (5, [.ref b0, .ref r0, .ref c0, .ref d0, .ref s0])), (b0, .inr (0, [.ref b1, .ref b2, .int (nI gc), .int (nI dc)])), (b1, .inl (cI, 78, .inl P)), (b2, .inl (cI, 78, .inl A0)), (r0, .inr (3, [.ref r1, .ref r2, .ref r3])), (r1, .inl (cI, 13, .inl u9.1)), (r2, .inl (cI, 13, .inl u9.2)), (r3, .inl (cI, 13, .inl C)), (o0, .inl (cJ, 1, .inr (.inl O)))] H := va_P.sub hP [1, 2, 3, 4, 5, 6, 7, 8, 0] rfl
    have hD : va_D A [(x0, .inr (5, [.ref b0, .ref r0, .ref c0, .ref d0, .ref s0])), (b0, .inr (0, [.ref b1, .ref b2, .int (nI gc), .int (nI dc)])), (b1, .inl (cI, 78, .inl P)), (b2, .inl (cI, 78, .inl A0)), (r0, .inr (3, [.ref r1, .ref r2, .ref r3])), (r1, .inl (cI, 13, .inl u9.1)), (r2, .inl (cI, 13, .inl u9.2)), (r3, .inl (cI, 13, .inl C)), (o0, .inl (cJ, 1, .inr (.inl O)))] := va_D.sub hD [1, 2, 3, 4, 5, 6, 7, 8, 0] (by decide) rfl
    obtain rfl : Ex = xn_EX := hf.1
    refine vx_catch (own := "WishLedgerLaw") (name := xn_EX) hown [] ⟨0, 10, 13, 25⟩ [] htab (fun z hz => absurd hz List.not_mem_nil) rfl (by decide) (hgs _ xw_286) (va_Nw.use rfl hN.2.2.1) hq hv hcl ?_
    refine lv_astore (lv' := [(4, .ref q9), (0, .ref x0), (1, .int s1), (2, .int t1), (3, .ref o0)]) hx hb xj_A_chain_13 hl (by decide) rfl (fun ls hl => ?_)
    refine lv_iconst (v := nI 1) hx hb xj_A_chain_15 (by decide) ?_
    exact hret (nI 1) ((u9, O)) H locs _ _ _ ls (Or.inr ⟨rfl, xn_EX, hf, rfl⟩) hP hD hS (Nat.le_of_ble_eq_true rfl) (Nat.le_of_ble_eq_true rfl) xj_A_chain_16
  have hP : va_P D xn_cl [(x0, .inr (5, [.ref b0, .ref r0, .ref c0, .ref d0, .ref s0])), (b0, .inr (0, [.ref b1, .ref b2, .int (nI gc), .int (nI dc)])), (b1, .inl (cI, 78, .inl P)), (b2, .inl (cI, 78, .inl A0)), (r0, .inr (3, [.ref r1, .ref r2, .ref r3])), (r1, .inl (cI, 13, .inl u5.1)), (r2, .inl (cI, 13, .inl u5.2)), (r3, .inl (cI, 13, .inl C)), (o0, .inl (cJ, 1, .inr (.inl O)))] H := va_P.sub hP [1, 2, 3, 4, 5, 6, 7, 8, 0] rfl
  have hD : va_D A [(x0, .inr (5, [.ref b0, .ref r0, .ref c0, .ref d0, .ref s0])), (b0, .inr (0, [.ref b1, .ref b2, .int (nI gc), .int (nI dc)])), (b1, .inl (cI, 78, .inl P)), (b2, .inl (cI, 78, .inl A0)), (r0, .inr (3, [.ref r1, .ref r2, .ref r3])), (r1, .inl (cI, 13, .inl u5.1)), (r2, .inl (cI, 13, .inl u5.2)), (r3, .inl (cI, 13, .inl C)), (o0, .inl (cJ, 1, .inr (.inl O)))] := va_D.sub hD [1, 2, 3, 4, 5, 6, 7, 8, 0] (by decide) rfl
  refine lv_i2l hx hb xj_A_chain_8 rfl ?_
  refine xr_jast hx hb hK.1 hP hD hS 8 2 rfl rfl (by omega) (by decide) xj_A_chain_9 (fun H locs hP hD hS => ?_)
  have hP : va_P D xn_cl [(x0, .inr (5, [.ref b0, .ref r0, .ref c0, .ref d0, .ref s0])), (b0, .inr (0, [.ref b1, .ref b2, .int (nI gc), .int (nI dc)])), (b1, .inl (cI, 78, .inl P)), (b2, .inl (cI, 78, .inl A0)), (r0, .inr (3, [.ref r1, .ref r2, .ref r3])), (r1, .inl (cI, 13, .inl u5.1)), (r2, .inl (cI, 13, .inl u5.2)), (r3, .inl (cI, 13, .inl C)), (o0, .inl (cJ, 1, .inr (.inl (vp_updL O 0 r5.toInt64))))] H := hP
  have hD : va_D A [(x0, .inr (5, [.ref b0, .ref r0, .ref c0, .ref d0, .ref s0])), (b0, .inr (0, [.ref b1, .ref b2, .int (nI gc), .int (nI dc)])), (b1, .inl (cI, 78, .inl P)), (b2, .inl (cI, 78, .inl A0)), (r0, .inr (3, [.ref r1, .ref r2, .ref r3])), (r1, .inl (cI, 13, .inl u5.1)), (r2, .inl (cI, 13, .inl u5.2)), (r3, .inl (cI, 13, .inl C)), (o0, .inl (cJ, 1, .inr (.inl (vp_updL O 0 r5.toInt64))))] := hD
  refine lv_goto (tgt := 17) hx hb xj_A_chain_10 rfl ?_
  refine lv_iconst (v := nI 0) hx hb xj_A_chain_17 (by decide) ?_
  exact hret (nI 0) ((u5, vp_updL O 0 r5.toInt64)) H locs _ _ _ ls (Or.inl ⟨rfl, r5, hf5, rfl⟩) hP hD hS (Nat.le_of_ble_eq_true rfl) (Nat.le_of_ble_eq_true rfl) xj_A_chain_18
set_option maxRecDepth 100000 in
set_option maxHeartbeats 4000000 in
theorem xt_A_sensible (l : Launch) (hl0 : l.stackTraces = false) (D : va_G) (cI cZ cJ : ClassId) (sa : Nat → Nat) (x0 b0 r0 c0 d0 s0 : Nat) (b1 b2 gc dc : Nat) (P A0 : Nat → Int32) (r1 r2 r3 : Nat) (G Bt C : Nat → Int32) (v : Int32) (hg : gc ≤ 6) (hd : dc ≤ 12) (o0 : Nat) (O : Nat → Int64) : xc_Hi l xy_A_sensible xb_A_sensible 4 [(0, 16, 19, 13)] 8 1 6 [.ref x0, .int v, .ref o0] D cI cZ cJ sa [(x0, .inr (5, [.ref b0, .ref r0, .ref c0, .ref d0, .ref s0])), (b0, .inr (0, [.ref b1, .ref b2, .int (nI gc), .int (nI dc)])), (b1, .inl (cI, 78, .inl P)), (b2, .inl (cI, 78, .inl A0)), (r0, .inr (3, [.ref r1, .ref r2, .ref r3])), (r1, .inl (cI, 13, .inl G)), (r2, .inl (cI, 13, .inl Bt)), (r3, .inl (cI, 13, .inl C)), (o0, .inl (cJ, 1, .inr (.inl O)))] (((Nat → Int32) × (Nat → Int32) × (Nat → Int32)) × (Nat → Int64)) (fun r u => (r = nI 0 ∧ ∃ w9, (fun r _ => xo_01 v = true ∧ r = xf_bI (if v = 0 then !xk_bad (xk_link (xo_G gc P A0 (xo_X dc) (nI 1) (nI 1) G) (xo_X dc) C) (xo_B gc P A0 (xo_X dc) (nI 1) (nI 1) Bt) else !xk_bad (xo_G gc P A0 (xo_X dc) (nI 1) (nI 1) G) (xo_B gc P A0 (xo_X dc) (nI 1) (nI 1) Bt))) w9 u.1 ∧ u.2 = vp_updL O 0 (if w9 = 0 then lN 0 else lN 1)) ∨ (r = nI 1 ∧ ∃ X9, (fun E _ => E = xn_EA ∧ xo_01 v = false) X9 u.1 ∧ u.2 = O)) (fun u => [(x0, .inr (5, [.ref b0, .ref r0, .ref c0, .ref d0, .ref s0])), (b0, .inr (0, [.ref b1, .ref b2, .int (nI gc), .int (nI dc)])), (b1, .inl (cI, 78, .inl P)), (b2, .inl (cI, 78, .inl A0)), (r0, .inr (3, [.ref r1, .ref r2, .ref r3])), (r1, .inl (cI, 13, .inl u.1.1)), (r2, .inl (cI, 13, .inl u.1.2.1)), (r3, .inl (cI, 13, .inl u.1.2.2)), (o0, .inl (cJ, 1, .inr (.inl u.2)))]) := by
  refine xc_Hi_of (by decide) (Nat.le_of_ble_eq_true rfl) ?_
  intro p e s m args below meth c Q ls A hAt hP hK hD hA hS hl hT0 hN htab hret
  obtain ⟨hx, hb, hml, hown, hts, hgs, hlk⟩ := id hAt
  have hT : ∀ w ∈ xw_g, w ∈ Cond.codeWith xy_A_sensible xb_A_sensible 4 (some .int) [(0, 16, 19, 13)] :: xw_g := fun w h => List.mem_cons_of_mem _ h
  have hown : s.vm.findClass "WishLedgerLaw" = some m.cls := hown
  obtain ⟨H, hH0⟩ : ∃ H, H = s.heap := ⟨_, rfl⟩
  obtain ⟨locs, hL0⟩ : ∃ locs : List Loc, locs = [] := ⟨_, rfl⟩
  have hP : va_P D xn_cl [(x0, .inr (5, [.ref b0, .ref r0, .ref c0, .ref d0, .ref s0])), (b0, .inr (0, [.ref b1, .ref b2, .int (nI gc), .int (nI dc)])), (b1, .inl (cI, 78, .inl P)), (b2, .inl (cI, 78, .inl A0)), (r0, .inr (3, [.ref r1, .ref r2, .ref r3])), (r1, .inl (cI, 13, .inl G)), (r2, .inl (cI, 13, .inl Bt)), (r3, .inl (cI, 13, .inl C)), (o0, .inl (cJ, 1, .inr (.inl O)))] H := by rw [hH0]; exact hP
  have hS : va_S A s.heap H locs := by rw [hH0, hL0]; exact hS
  suffices hgo : W p l e (xc_rm 8 1 6) s m args below meth c H locs 0 0 Q (F0 m 0 ls []) by rw [hH0, hL0] at hgo; exact hgo
  clear hH0 hL0
  have hl : lv_has ls 4 [(0, .ref x0), (1, .int v), (2, .ref o0)] := hl
  refine lv_aload_n hx hb xj_A_sensible_0 rfl (lv_at hl 2 rfl) ?_
  refine lv_iconst (v := nI 0) hx hb xj_A_sensible_1 (by decide) ?_
  refine lv_aload_n hx hb xj_A_sensible_2 rfl (lv_at hl 0 rfl) ?_
  refine lv_iload_n hx hb xj_A_sensible_3 rfl (lv_at hl 1 rfl) ?_
  refine xc_xVi (av := [.int v]) (rest := [.int (nI 0), .ref o0]) (wr := [(o0, .inl (cJ, 1, .inr (.inl O)))]) hAt hT (xt_L_sensible l hl0 D cI cZ cJ sa x0 b0 r0 c0 d0 s0 b1 b2 gc dc P A0 r1 r2 r3 G Bt C v hg hd) xw_387 xw_1 xw_390 xw_388 xw_389 (C0 := xn_L) (q0 := 0) rfl rfl (na := 1) rfl (by decide +kernel) ⟨Nat.le_of_ble_eq_true rfl, Nat.le_of_ble_eq_true rfl⟩ hP hD hS hA [0, 1, 2, 3, 4, 5, 6, 7] [8] rfl rfl (by decide) (by decide) (by decide) hK hT0 hl.1 (Nat.le_of_ble_eq_true rfl) ⟨Nat.le_of_ble_eq_true rfl, Nat.le_of_ble_eq_true rfl⟩ xj_A_sensible_4 (fun Ex ce q9 u9 H locs hf hP hD hS hq hv hcl => ?_) (fun r4 u4 H locs hf4 hP hD hS => ?_)
  · have hP : va_P D xn_cl [(x0, .inr (5, [.ref b0, .ref r0, .ref c0, .ref d0, .ref s0])), (b0, .inr (0, [.ref b1, .ref b2, .int (nI gc), .int (nI dc)])), (b1, .inl (cI, 78, .inl P)), (b2, .inl (cI, 78, .inl A0)), (r0, .inr (3, [.ref r1, .ref r2, .ref r3])), (r1, .inl (cI, 13, .inl u9.1)), (r2, .inl (cI, 13, .inl u9.2.1)), (r3, .inl (cI, 13, .inl u9.2.2)), (o0, .inl (cJ, 1, .inr (.inl O)))] H := va_P.sub hP [1, 2, 3, 4, 5, 6, 7, 8, 0] rfl
    have hD : va_D A [(x0, .inr (5, [.ref b0, .ref r0, .ref c0, .ref d0, .ref s0])), (b0, .inr (0, [.ref b1, .ref b2, .int (nI gc), .int (nI dc)])), (b1, .inl (cI, 78, .inl P)), (b2, .inl (cI, 78, .inl A0)), (r0, .inr (3, [.ref r1, .ref r2, .ref r3])), (r1, .inl (cI, 13, .inl u9.1)), (r2, .inl (cI, 13, .inl u9.2.1)), (r3, .inl (cI, 13, .inl u9.2.2)), (o0, .inl (cJ, 1, .inr (.inl O)))] := va_D.sub hD [1, 2, 3, 4, 5, 6, 7, 8, 0] (by decide) rfl
    obtain rfl : Ex = xn_EA := hf.1
    refine vx_catch (own := "WishLedgerLaw") (name := xn_EA) hown [] ⟨0, 16, 19, 13⟩ [] htab (fun z hz => absurd hz List.not_mem_nil) rfl (by decide) (hgs _ xw_182) (va_Nw.use rfl hN.1) hq hv hcl ?_
    refine lv_astore_n (lv' := [(3, .ref q9), (0, .ref x0), (1, .int v), (2, .ref o0)]) hx hb xj_A_sensible_19 rfl hl (by decide) rfl (fun ls hl => ?_)
    refine lv_iconst (v := nI 1) hx hb xj_A_sensible_20 (by decide) ?_
    exact hret (nI 1) ((u9, O)) H locs _ _ _ ls (Or.inr ⟨rfl, xn_EA, hf, rfl⟩) hP hD hS (Nat.le_of_ble_eq_true rfl) (Nat.le_of_ble_eq_true rfl) xj_A_sensible_21
  have hP : va_P D xn_cl [(x0, .inr (5, [.ref b0, .ref r0, .ref c0, .ref d0, .ref s0])), (b0, .inr (0, [.ref b1, .ref b2, .int (nI gc), .int (nI dc)])), (b1, .inl (cI, 78, .inl P)), (b2, .inl (cI, 78, .inl A0)), (r0, .inr (3, [.ref r1, .ref r2, .ref r3])), (r1, .inl (cI, 13, .inl u4.1)), (r2, .inl (cI, 13, .inl u4.2.1)), (r3, .inl (cI, 13, .inl u4.2.2)), (o0, .inl (cJ, 1, .inr (.inl O)))] H := va_P.sub hP [1, 2, 3, 4, 5, 6, 7, 8, 0] rfl
  have hD : va_D A [(x0, .inr (5, [.ref b0, .ref r0, .ref c0, .ref d0, .ref s0])), (b0, .inr (0, [.ref b1, .ref b2, .int (nI gc), .int (nI dc)])), (b1, .inl (cI, 78, .inl P)), (b2, .inl (cI, 78, .inl A0)), (r0, .inr (3, [.ref r1, .ref r2, .ref r3])), (r1, .inl (cI, 13, .inl u4.1)), (r2, .inl (cI, 13, .inl u4.2.1)), (r3, .inl (cI, 13, .inl u4.2.2)), (o0, .inl (cJ, 1, .inr (.inl O)))] := va_D.sub hD [1, 2, 3, 4, 5, 6, 7, 8, 0] (by decide) rfl
  refine lv_if_eq (tgt := 14) hx hb xj_A_sensible_7 rfl (fun h7 => ?_) (fun h7 => ?_)
  · -- 14
    refine lv_lconst (v := lN 0) hx hb xj_A_sensible_14 (by decide) ?_
    refine xr_jast hx hb hK.1 hP hD hS 8 2 rfl rfl (by omega) (by decide) xj_A_sensible_15 (fun H locs hP hD hS => ?_)
    have hP : va_P D xn_cl [(x0, .inr (5, [.ref b0, .ref r0, .ref c0, .ref d0, .ref s0])), (b0, .inr (0, [.ref b1, .ref b2, .int (nI gc), .int (nI dc)])), (b1, .inl (cI, 78, .inl P)), (b2, .inl (cI, 78, .inl A0)), (r0, .inr (3, [.ref r1, .ref r2, .ref r3])), (r1, .inl (cI, 13, .inl u4.1)), (r2, .inl (cI, 13, .inl u4.2.1)), (r3, .inl (cI, 13, .inl u4.2.2)), (o0, .inl (cJ, 1, .inr (.inl (vp_updL O 0 (lN 0)))))] H := hP
    have hD : va_D A [(x0, .inr (5, [.ref b0, .ref r0, .ref c0, .ref d0, .ref s0])), (b0, .inr (0, [.ref b1, .ref b2, .int (nI gc), .int (nI dc)])), (b1, .inl (cI, 78, .inl P)), (b2, .inl (cI, 78, .inl A0)), (r0, .inr (3, [.ref r1, .ref r2, .ref r3])), (r1, .inl (cI, 13, .inl u4.1)), (r2, .inl (cI, 13, .inl u4.2.1)), (r3, .inl (cI, 13, .inl u4.2.2)), (o0, .inl (cJ, 1, .inr (.inl (vp_updL O 0 (lN 0)))))] := hD
    refine lv_goto (tgt := 22) hx hb xj_A_sensible_16 rfl ?_
    refine lv_iconst (v := nI 0) hx hb xj_A_sensible_22 (by decide) ?_
    exact hret (nI 0) ((u4, vp_updL O 0 (lN 0))) H locs _ _ _ ls (Or.inl ⟨rfl, r4, hf4, by rw [if_pos h7]⟩) hP hD hS (Nat.le_of_ble_eq_true rfl) (Nat.le_of_ble_eq_true rfl) xj_A_sensible_23
  · -- 10
    refine lv_lconst (v := lN 1) hx hb xj_A_sensible_10 (by decide) ?_
    refine lv_goto (tgt := 15) hx hb xj_A_sensible_11 rfl ?_
    refine xr_jast hx hb hK.1 hP hD hS 8 2 rfl rfl (by omega) (by decide) xj_A_sensible_15 (fun H locs hP hD hS => ?_)
    have hP : va_P D xn_cl [(x0, .inr (5, [.ref b0, .ref r0, .ref c0, .ref d0, .ref s0])), (b0, .inr (0, [.ref b1, .ref b2, .int (nI gc), .int (nI dc)])), (b1, .inl (cI, 78, .inl P)), (b2, .inl (cI, 78, .inl A0)), (r0, .inr (3, [.ref r1, .ref r2, .ref r3])), (r1, .inl (cI, 13, .inl u4.1)), (r2, .inl (cI, 13, .inl u4.2.1)), (r3, .inl (cI, 13, .inl u4.2.2)), (o0, .inl (cJ, 1, .inr (.inl (vp_updL O 0 (lN 1)))))] H := hP
    have hD : va_D A [(x0, .inr (5, [.ref b0, .ref r0, .ref c0, .ref d0, .ref s0])), (b0, .inr (0, [.ref b1, .ref b2, .int (nI gc), .int (nI dc)])), (b1, .inl (cI, 78, .inl P)), (b2, .inl (cI, 78, .inl A0)), (r0, .inr (3, [.ref r1, .ref r2, .ref r3])), (r1, .inl (cI, 13, .inl u4.1)), (r2, .inl (cI, 13, .inl u4.2.1)), (r3, .inl (cI, 13, .inl u4.2.2)), (o0, .inl (cJ, 1, .inr (.inl (vp_updL O 0 (lN 1)))))] := hD
    refine lv_goto (tgt := 22) hx hb xj_A_sensible_16 rfl ?_
    refine lv_iconst (v := nI 0) hx hb xj_A_sensible_22 (by decide) ?_
    exact hret (nI 0) ((u4, vp_updL O 0 (lN 1))) H locs _ _ _ ls (Or.inl ⟨rfl, r4, hf4, by rw [if_neg h7]⟩) hP hD hS (Nat.le_of_ble_eq_true rfl) (Nat.le_of_ble_eq_true rfl) xj_A_sensible_23
set_option maxRecDepth 100000 in
set_option maxHeartbeats 4000000 in
theorem xt_A_circle (l : Launch) (hl0 : l.stackTraces = false) (D : va_G) (cI cZ cJ : ClassId) (sa : Nat → Nat) (x0 b0 r0 c0 d0 s0 : Nat) (b1 b2 gc dc : Nat) (P A0 : Nat → Int32) (r1 r2 r3 : Nat) (G Bt C : Nat → Int32) (c1 c2 c3 : Nat) (Hm Hb Ls : Nat → Int32) (i : Int32) (hg : gc ≤ 6) (hd : dc ≤ 12) (hex : ∀ k q, (xo_R (xo_G gc P A0 (xo_X dc) (nI 1) (nI 1) G) (xo_B gc P A0 (xo_X dc) (nI 1) (nI 1) Bt)) = (nI k, nI q) → k < 12 → q ≤ 12 → ∃ Aq Fq, xk_seq (xo_G gc P A0 (xo_X dc) (nI 1) (nI 1) G) (xo_B gc P A0 (xo_X dc) (nI 1) (nI 1) Bt) k q Aq Fq) (o0 : Nat) (O : Nat → Int64) : xc_Hi l xy_A_circle xb_A_circle 4 [(0, 9, 12, 19), (0, 9, 15, 25)] 8 1 6 [.ref x0, .int i, .ref o0] D cI cZ cJ sa [(x0, .inr (5, [.ref b0, .ref r0, .ref c0, .ref d0, .ref s0])), (b0, .inr (0, [.ref b1, .ref b2, .int (nI gc), .int (nI dc)])), (b1, .inl (cI, 78, .inl P)), (b2, .inl (cI, 78, .inl A0)), (r0, .inr (3, [.ref r1, .ref r2, .ref r3])), (r1, .inl (cI, 13, .inl G)), (r2, .inl (cI, 13, .inl Bt)), (r3, .inl (cI, 13, .inl C)), (c0, .inr (1, [.ref c1, .ref c2, .ref c3])), (c1, .inl (cI, 13, .inl Hm)), (c2, .inl (cI, 13, .inl Hb)), (c3, .inl (cI, 12, .inl Ls)), (o0, .inl (cJ, 1, .inr (.inl O)))] (((Nat → Int32) × (Nat → Int32) × (Nat → Int32) × (Nat → Int32) × (Nat → Int32)) × (Nat → Int64)) (fun r u => (r = nI 0 ∧ ∃ w9, (fun r _ => xo_cir (xo_R (xo_G gc P A0 (xo_X dc) (nI 1) (nI 1) G) (xo_B gc P A0 (xo_X dc) (nI 1) (nI 1) Bt)).2 i = 0 ∧ ((i = -1 ∧ r = (xo_R (xo_G gc P A0 (xo_X dc) (nI 1) (nI 1) G) (xo_B gc P A0 (xo_X dc) (nI 1) (nI 1) Bt)).2) ∨ ∃ k q Aq Fq j, (xo_R (xo_G gc P A0 (xo_X dc) (nI 1) (nI 1) G) (xo_B gc P A0 (xo_X dc) (nI 1) (nI 1) Bt)) = (nI k, nI q) ∧ k < 12 ∧ 0 < q ∧ q ≤ 12 ∧ xk_seq (xo_G gc P A0 (xo_X dc) (nI 1) (nI 1) G) (xo_B gc P A0 (xo_X dc) (nI 1) (nI 1) Bt) k q Aq Fq ∧ j < q ∧ i = nI j ∧ r = nI (Aq j))) w9 u.1 ∧ u.2 = vp_updL O 0 w9.toInt64) ∨ (∃ X9, (fun E _ => xo_c2 xn_ES xn_EX (xo_cir (xo_R (xo_G gc P A0 (xo_X dc) (nI 1) (nI 1) G) (xo_B gc P A0 (xo_X dc) (nI 1) (nI 1) Bt)).2 i) E) X9 u.1 ∧ u.2 = O ∧ ((X9 = xn_ES ∧ r = nI 1) ∨ (X9 = xn_EX ∧ r = nI 2)))) (fun u => [(x0, .inr (5, [.ref b0, .ref r0, .ref c0, .ref d0, .ref s0])), (b0, .inr (0, [.ref b1, .ref b2, .int (nI gc), .int (nI dc)])), (b1, .inl (cI, 78, .inl P)), (b2, .inl (cI, 78, .inl A0)), (r0, .inr (3, [.ref r1, .ref r2, .ref r3])), (r1, .inl (cI, 13, .inl u.1.1)), (r2, .inl (cI, 13, .inl u.1.2.1)), (r3, .inl (cI, 13, .inl C)), (c0, .inr (1, [.ref c1, .ref c2, .ref c3])), (c1, .inl (cI, 13, .inl u.1.2.2.1)), (c2, .inl (cI, 13, .inl u.1.2.2.2.1)), (c3, .inl (cI, 12, .inl u.1.2.2.2.2)), (o0, .inl (cJ, 1, .inr (.inl u.2)))]) := by
  refine xc_Hi_of (by decide) (Nat.le_of_ble_eq_true rfl) ?_
  intro p e s m args below meth c Q ls A hAt hP hK hD hA hS hl hT0 hN htab hret
  obtain ⟨hx, hb, hml, hown, hts, hgs, hlk⟩ := id hAt
  have hT : ∀ w ∈ xw_g, w ∈ Cond.codeWith xy_A_circle xb_A_circle 4 (some .int) [(0, 9, 12, 19), (0, 9, 15, 25)] :: xw_g := fun w h => List.mem_cons_of_mem _ h
  have hown : s.vm.findClass "WishLedgerLaw" = some m.cls := hown
  obtain ⟨H, hH0⟩ : ∃ H, H = s.heap := ⟨_, rfl⟩
  obtain ⟨locs, hL0⟩ : ∃ locs : List Loc, locs = [] := ⟨_, rfl⟩
  have hP : va_P D xn_cl [(x0, .inr (5, [.ref b0, .ref r0, .ref c0, .ref d0, .ref s0])), (b0, .inr (0, [.ref b1, .ref b2, .int (nI gc), .int (nI dc)])), (b1, .inl (cI, 78, .inl P)), (b2, .inl (cI, 78, .inl A0)), (r0, .inr (3, [.ref r1, .ref r2, .ref r3])), (r1, .inl (cI, 13, .inl G)), (r2, .inl (cI, 13, .inl Bt)), (r3, .inl (cI, 13, .inl C)), (c0, .inr (1, [.ref c1, .ref c2, .ref c3])), (c1, .inl (cI, 13, .inl Hm)), (c2, .inl (cI, 13, .inl Hb)), (c3, .inl (cI, 12, .inl Ls)), (o0, .inl (cJ, 1, .inr (.inl O)))] H := by rw [hH0]; exact hP
  have hS : va_S A s.heap H locs := by rw [hH0, hL0]; exact hS
  suffices hgo : W p l e (xc_rm 8 1 6) s m args below meth c H locs 0 0 Q (F0 m 0 ls []) by rw [hH0, hL0] at hgo; exact hgo
  clear hH0 hL0
  have hl : lv_has ls 4 [(0, .ref x0), (1, .int i), (2, .ref o0)] := hl
  refine lv_aload_n hx hb xj_A_circle_0 rfl (lv_at hl 2 rfl) ?_
  refine lv_iconst (v := nI 0) hx hb xj_A_circle_1 (by decide) ?_
  refine lv_aload_n hx hb xj_A_circle_2 rfl (lv_at hl 0 rfl) ?_
  refine lv_iload_n hx hb xj_A_circle_3 rfl (lv_at hl 1 rfl) ?_
  refine xc_xVi (av := [.int i]) (rest := [.int (nI 0), .ref o0]) (wr := [(o0, .inl (cJ, 1, .inr (.inl O)))]) hAt hT (xt_L_circle l hl0 D cI cZ cJ sa x0 b0 r0 c0 d0 s0 b1 b2 gc dc P A0 r1 r2 r3 G Bt C c1 c2 c3 Hm Hb Ls i hg hd hex) xw_402 xw_1 xw_405 xw_403 xw_404 (C0 := xn_L) (q0 := 0) rfl rfl (na := 1) rfl (by decide +kernel) ⟨Nat.le_of_ble_eq_true rfl, Nat.le_of_ble_eq_true rfl⟩ hP hD hS hA [0, 1, 2, 3, 4, 5, 6, 7, 8, 9, 10, 11] [12] rfl rfl (by decide) (by decide) (by decide) hK hT0 hl.1 (Nat.le_of_ble_eq_true rfl) ⟨Nat.le_of_ble_eq_true rfl, Nat.le_of_ble_eq_true rfl⟩ xj_A_circle_4 (fun Ex ce q9 u9 H locs hf hP hD hS hq hv hcl => ?_) (fun r4 u4 H locs hf4 hP hD hS => ?_)
  · have hP : va_P D xn_cl [(x0, .inr (5, [.ref b0, .ref r0, .ref c0, .ref d0, .ref s0])), (b0, .inr (0, [.ref b1, .ref b2, .int (nI gc), .int (nI dc)])), (b1, .inl (cI, 78, .inl P)), (b2, .inl (cI, 78, .inl A0)), (r0, .inr (3, [.ref r1, .ref r2, .ref r3])), (r1, .inl (cI, 13, .inl u9.1)), (r2, .inl (cI, 13, .inl u9.2.1)), (r3, .inl (cI, 13, .inl C)), (c0, .inr (1, [.ref c1, .ref c2, .ref c3])), (c1, .inl (cI, 13, .inl u9.2.2.1)), (c2, .inl (cI, 13, .inl u9.2.2.2.1)), (c3, .inl (cI, 12, .inl u9.2.2.2.2)), (o0, .inl (cJ, 1, .inr (.inl O)))] H := va_P.sub hP [1, 2, 3, 4, 5, 6, 7, 8, 9, 10, 11, 12, 0] rfl
    have hD : va_D A [(x0, .inr (5, [.ref b0, .ref r0, .ref c0, .ref d0, .ref s0])), (b0, .inr (0, [.ref b1, .ref b2, .int (nI gc), .int (nI dc)])), (b1, .inl (cI, 78, .inl P)), (b2, .inl (cI, 78, .inl A0)), (r0, .inr (3, [.ref r1, .ref r2, .ref r3])), (r1, .inl (cI, 13, .inl u9.1)), (r2, .inl (cI, 13, .inl u9.2.1)), (r3, .inl (cI, 13, .inl C)), (c0, .inr (1, [.ref c1, .ref c2, .ref c3])), (c1, .inl (cI, 13, .inl u9.2.2.1)), (c2, .inl (cI, 13, .inl u9.2.2.2.1)), (c3, .inl (cI, 12, .inl u9.2.2.2.2)), (o0, .inl (cJ, 1, .inr (.inl O)))] := va_D.sub hD [1, 2, 3, 4, 5, 6, 7, 8, 9, 10, 11, 12, 0] (by decide) rfl
    rcases id hf with ⟨rfl, -⟩ | ⟨rfl, -⟩
    ·
      refine vx_catch (own := "WishLedgerLaw") (name := xn_ES) hown [] ⟨0, 9, 12, 19⟩ [⟨0, 9, 15, 25⟩] htab (fun z hz => absurd hz List.not_mem_nil) rfl (by decide) (hgs _ xw_258) (va_Nw.use rfl hN.2.1) hq hv hcl ?_
      refine lv_astore_n (lv' := [(3, .ref q9), (0, .ref x0), (1, .int i), (2, .ref o0)]) hx hb xj_A_circle_12 rfl hl (by decide) rfl (fun ls hl => ?_)
      refine lv_iconst (v := nI 1) hx hb xj_A_circle_13 (by decide) ?_
      exact hret (nI 1) ((u9, O)) H locs _ _ _ ls (Or.inr ⟨xn_ES, hf, rfl, Or.inl ⟨rfl, rfl⟩⟩) hP hD hS (Nat.le_of_ble_eq_true rfl) (Nat.le_of_ble_eq_true rfl) xj_A_circle_14
    ·
      refine vx_catch (own := "WishLedgerLaw") (name := xn_EX) hown [⟨0, 9, 12, 19⟩] ⟨0, 9, 15, 25⟩ [] htab (fun z hz => Or.inr (by obtain rfl := List.mem_singleton.mp hz; exact ⟨by decide, xn_ES, hgs _ xw_258, hN.2.2.2.2⟩)) rfl (by decide) (hgs _ xw_286) (va_Nw.use rfl hN.2.2.1) hq hv hcl ?_
      refine lv_astore_n (lv' := [(3, .ref q9), (0, .ref x0), (1, .int i), (2, .ref o0)]) hx hb xj_A_circle_15 rfl hl (by decide) rfl (fun ls hl => ?_)
      refine lv_iconst (v := nI 2) hx hb xj_A_circle_16 (by decide) ?_
      exact hret (nI 2) ((u9, O)) H locs _ _ _ ls (Or.inr ⟨xn_EX, hf, rfl, Or.inr ⟨rfl, rfl⟩⟩) hP hD hS (Nat.le_of_ble_eq_true rfl) (Nat.le_of_ble_eq_true rfl) xj_A_circle_17
  have hP : va_P D xn_cl [(x0, .inr (5, [.ref b0, .ref r0, .ref c0, .ref d0, .ref s0])), (b0, .inr (0, [.ref b1, .ref b2, .int (nI gc), .int (nI dc)])), (b1, .inl (cI, 78, .inl P)), (b2, .inl (cI, 78, .inl A0)), (r0, .inr (3, [.ref r1, .ref r2, .ref r3])), (r1, .inl (cI, 13, .inl u4.1)), (r2, .inl (cI, 13, .inl u4.2.1)), (r3, .inl (cI, 13, .inl C)), (c0, .inr (1, [.ref c1, .ref c2, .ref c3])), (c1, .inl (cI, 13, .inl u4.2.2.1)), (c2, .inl (cI, 13, .inl u4.2.2.2.1)), (c3, .inl (cI, 12, .inl u4.2.2.2.2)), (o0, .inl (cJ, 1, .inr (.inl O)))] H := va_P.sub hP [1, 2, 3, 4, 5, 6, 7, 8, 9, 10, 11, 12, 0] rfl
  have hD : va_D A [(x0, .inr (5, [.ref b0, .ref r0, .ref c0, .ref d0, .ref s0])), (b0, .inr (0, [.ref b1, .ref b2, .int (nI gc), .int (nI dc)])), (b1, .inl (cI, 78, .inl P)), (b2, .inl (cI, 78, .inl A0)), (r0, .inr (3, [.ref r1, .ref r2, .ref r3])), (r1, .inl (cI, 13, .inl u4.1)), (r2, .inl (cI, 13, .inl u4.2.1)), (r3, .inl (cI, 13, .inl C)), (c0, .inr (1, [.ref c1, .ref c2, .ref c3])), (c1, .inl (cI, 13, .inl u4.2.2.1)), (c2, .inl (cI, 13, .inl u4.2.2.2.1)), (c3, .inl (cI, 12, .inl u4.2.2.2.2)), (o0, .inl (cJ, 1, .inr (.inl O)))] := va_D.sub hD [1, 2, 3, 4, 5, 6, 7, 8, 9, 10, 11, 12, 0] (by decide) rfl
  refine lv_i2l hx hb xj_A_circle_7 rfl ?_
  refine xr_jast hx hb hK.1 hP hD hS 12 2 rfl rfl (by omega) (by decide) xj_A_circle_8 (fun H locs hP hD hS => ?_)
  have hP : va_P D xn_cl [(x0, .inr (5, [.ref b0, .ref r0, .ref c0, .ref d0, .ref s0])), (b0, .inr (0, [.ref b1, .ref b2, .int (nI gc), .int (nI dc)])), (b1, .inl (cI, 78, .inl P)), (b2, .inl (cI, 78, .inl A0)), (r0, .inr (3, [.ref r1, .ref r2, .ref r3])), (r1, .inl (cI, 13, .inl u4.1)), (r2, .inl (cI, 13, .inl u4.2.1)), (r3, .inl (cI, 13, .inl C)), (c0, .inr (1, [.ref c1, .ref c2, .ref c3])), (c1, .inl (cI, 13, .inl u4.2.2.1)), (c2, .inl (cI, 13, .inl u4.2.2.2.1)), (c3, .inl (cI, 12, .inl u4.2.2.2.2)), (o0, .inl (cJ, 1, .inr (.inl (vp_updL O 0 r4.toInt64))))] H := hP
  have hD : va_D A [(x0, .inr (5, [.ref b0, .ref r0, .ref c0, .ref d0, .ref s0])), (b0, .inr (0, [.ref b1, .ref b2, .int (nI gc), .int (nI dc)])), (b1, .inl (cI, 78, .inl P)), (b2, .inl (cI, 78, .inl A0)), (r0, .inr (3, [.ref r1, .ref r2, .ref r3])), (r1, .inl (cI, 13, .inl u4.1)), (r2, .inl (cI, 13, .inl u4.2.1)), (r3, .inl (cI, 13, .inl C)), (c0, .inr (1, [.ref c1, .ref c2, .ref c3])), (c1, .inl (cI, 13, .inl u4.2.2.1)), (c2, .inl (cI, 13, .inl u4.2.2.2.1)), (c3, .inl (cI, 12, .inl u4.2.2.2.2)), (o0, .inl (cJ, 1, .inr (.inl (vp_updL O 0 r4.toInt64))))] := hD
  refine lv_goto (tgt := 18) hx hb xj_A_circle_9 rfl ?_
  refine lv_iconst (v := nI 0) hx hb xj_A_circle_18 (by decide) ?_
  exact hret (nI 0) ((u4, vp_updL O 0 r4.toInt64)) H locs _ _ _ ls (Or.inl ⟨rfl, r4, hf4, rfl⟩) hP hD hS (Nat.le_of_ble_eq_true rfl) (Nat.le_of_ble_eq_true rfl) xj_A_circle_19
set_option maxRecDepth 100000 in
set_option maxHeartbeats 4000000 in
theorem xt_A_passes (l : Launch) (hl0 : l.stackTraces = false) (D : va_G) (cI cZ cJ : ClassId) (sa : Nat → Nat) (x0 b0 r0 c0 d0 s0 : Nat) (b1 b2 gc dc : Nat) (P A0 : Nat → Int32) (r1 r2 r3 : Nat) (G Bt C : Nat → Int32) (up dn : Int32) (hg : gc ≤ 6) (hd : dc ≤ 12) (o0 : Nat) (O : Nat → Int64) : xc_Hi l xy_A_passes xb_A_passes 5 [(0, 17, 20, 13)] 8 1 6 [.ref x0, .int up, .int dn, .ref o0] D cI cZ cJ sa [(x0, .inr (5, [.ref b0, .ref r0, .ref c0, .ref d0, .ref s0])), (b0, .inr (0, [.ref b1, .ref b2, .int (nI gc), .int (nI dc)])), (b1, .inl (cI, 78, .inl P)), (b2, .inl (cI, 78, .inl A0)), (r0, .inr (3, [.ref r1, .ref r2, .ref r3])), (r1, .inl (cI, 13, .inl G)), (r2, .inl (cI, 13, .inl Bt)), (r3, .inl (cI, 13, .inl C)), (o0, .inl (cJ, 1, .inr (.inl O)))] (((Nat → Int32) × (Nat → Int32) × (Nat → Int32)) × (Nat → Int64)) (fun r u => (r = nI 0 ∧ ∃ w9, (fun r _ => xo_fr up dn = true ∧ r = xf_bI (!xk_bad (xk_link (xo_G gc P A0 (xo_X dc) up dn G) (xo_X dc) C) (xo_B gc P A0 (xo_X dc) up dn Bt))) w9 u.1 ∧ u.2 = vp_updL O 0 (if w9 = 0 then lN 0 else lN 1)) ∨ (r = nI 1 ∧ ∃ X9, (fun E _ => E = xn_EA ∧ xo_fr up dn = false) X9 u.1 ∧ u.2 = O)) (fun u => [(x0, .inr (5, [.ref b0, .ref r0, .ref c0, .ref d0, .ref s0])), (b0, .inr (0, [.ref b1, .ref b2, .int (nI gc), .int (nI dc)])), (b1, .inl (cI, 78, .inl P)), (b2, .inl (cI, 78, .inl A0)), (r0, .inr (3, [.ref r1, .ref r2, .ref r3])), (r1, .inl (cI, 13, .inl u.1.1)), (r2, .inl (cI, 13, .inl u.1.2.1)), (r3, .inl (cI, 13, .inl u.1.2.2)), (o0, .inl (cJ, 1, .inr (.inl u.2)))]) := by
  refine xc_Hi_of (by decide) (Nat.le_of_ble_eq_true rfl) ?_
  intro p e s m args below meth c Q ls A hAt hP hK hD hA hS hl hT0 hN htab hret
  obtain ⟨hx, hb, hml, hown, hts, hgs, hlk⟩ := id hAt
  have hT : ∀ w ∈ xw_g, w ∈ Cond.codeWith xy_A_passes xb_A_passes 5 (some .int) [(0, 17, 20, 13)] :: xw_g := fun w h => List.mem_cons_of_mem _ h
  have hown : s.vm.findClass "WishLedgerLaw" = some m.cls := hown
  obtain ⟨H, hH0⟩ : ∃ H, H = s.heap := ⟨_, rfl⟩
  obtain ⟨locs, hL0⟩ : ∃ locs : List Loc, locs = [] := ⟨_, rfl⟩
  have hP : va_P D xn_cl [(x0, .inr (5, [.ref b0, .ref r0, .ref c0, .ref d0, .ref s0])), (b0, .inr (0, [.ref b1, .ref b2, .int (nI gc), .int (nI dc)])), (b1, .inl (cI, 78, .inl P)), (b2, .inl (cI, 78, .inl A0)), (r0, .inr (3, [.ref r1, .ref r2, .ref r3])), (r1, .inl (cI, 13, .inl G)), (r2, .inl (cI, 13, .inl Bt)), (r3, .inl (cI, 13, .inl C)), (o0, .inl (cJ, 1, .inr (.inl O)))] H := by rw [hH0]; exact hP
  have hS : va_S A s.heap H locs := by rw [hH0, hL0]; exact hS
  suffices hgo : W p l e (xc_rm 8 1 6) s m args below meth c H locs 0 0 Q (F0 m 0 ls []) by rw [hH0, hL0] at hgo; exact hgo
  clear hH0 hL0
  have hl : lv_has ls 5 [(0, .ref x0), (1, .int up), (2, .int dn), (3, .ref o0)] := hl
  refine lv_aload_n hx hb xj_A_passes_0 rfl (lv_at hl 3 rfl) ?_
  refine lv_iconst (v := nI 0) hx hb xj_A_passes_1 (by decide) ?_
  refine lv_aload_n hx hb xj_A_passes_2 rfl (lv_at hl 0 rfl) ?_
  refine lv_iload_n hx hb xj_A_passes_3 rfl (lv_at hl 1 rfl) ?_
  refine lv_iload_n hx hb xj_A_passes_4 rfl (lv_at hl 2 rfl) ?_
  refine xc_xVi (av := [.int up, .int dn]) (rest := [.int (nI 0), .ref o0]) (wr := [(o0, .inl (cJ, 1, .inr (.inl O)))]) hAt hT (xt_L_passes l hl0 D cI cZ cJ sa x0 b0 r0 c0 d0 s0 b1 b2 gc dc P A0 r1 r2 r3 G Bt C up dn hg hd) xw_437 xw_1 xw_440 xw_438 xw_439 (C0 := xn_L) (q0 := 0) rfl rfl (na := 2) rfl (by decide +kernel) ⟨Nat.le_of_ble_eq_true rfl, Nat.le_of_ble_eq_true rfl⟩ hP hD hS hA [0, 1, 2, 3, 4, 5, 6, 7] [8] rfl rfl (by decide) (by decide) (by decide) hK hT0 hl.1 (Nat.le_of_ble_eq_true rfl) ⟨Nat.le_of_ble_eq_true rfl, Nat.le_of_ble_eq_true rfl⟩ xj_A_passes_5 (fun Ex ce q9 u9 H locs hf hP hD hS hq hv hcl => ?_) (fun r5 u5 H locs hf5 hP hD hS => ?_)
  · have hP : va_P D xn_cl [(x0, .inr (5, [.ref b0, .ref r0, .ref c0, .ref d0, .ref s0])), (b0, .inr (0, [.ref b1, .ref b2, .int (nI gc), .int (nI dc)])), (b1, .inl (cI, 78, .inl P)), (b2, .inl (cI, 78, .inl A0)), (r0, .inr (3, [.ref r1, .ref r2, .ref r3])), (r1, .inl (cI, 13, .inl u9.1)), (r2, .inl (cI, 13, .inl u9.2.1)), (r3, .inl (cI, 13, .inl u9.2.2)), (o0, .inl (cJ, 1, .inr (.inl O)))] H := va_P.sub hP [1, 2, 3, 4, 5, 6, 7, 8, 0] rfl
    have hD : va_D A [(x0, .inr (5, [.ref b0, .ref r0, .ref c0, .ref d0, .ref s0])), (b0, .inr (0, [.ref b1, .ref b2, .int (nI gc), .int (nI dc)])), (b1, .inl (cI, 78, .inl P)), (b2, .inl (cI, 78, .inl A0)), (r0, .inr (3, [.ref r1, .ref r2, .ref r3])), (r1, .inl (cI, 13, .inl u9.1)), (r2, .inl (cI, 13, .inl u9.2.1)), (r3, .inl (cI, 13, .inl u9.2.2)), (o0, .inl (cJ, 1, .inr (.inl O)))] := va_D.sub hD [1, 2, 3, 4, 5, 6, 7, 8, 0] (by decide) rfl
    obtain rfl : Ex = xn_EA := hf.1
    refine vx_catch (own := "WishLedgerLaw") (name := xn_EA) hown [] ⟨0, 17, 20, 13⟩ [] htab (fun z hz => absurd hz List.not_mem_nil) rfl (by decide) (hgs _ xw_182) (va_Nw.use rfl hN.1) hq hv hcl ?_
    refine lv_astore (lv' := [(4, .ref q9), (0, .ref x0), (1, .int up), (2, .int dn), (3, .ref o0)]) hx hb xj_A_passes_20 hl (by decide) rfl (fun ls hl => ?_)
    refine lv_iconst (v := nI 1) hx hb xj_A_passes_22 (by decide) ?_
    exact hret (nI 1) ((u9, O)) H locs _ _ _ ls (Or.inr ⟨rfl, xn_EA, hf, rfl⟩) hP hD hS (Nat.le_of_ble_eq_true rfl) (Nat.le_of_ble_eq_true rfl) xj_A_passes_23
  have hP : va_P D xn_cl [(x0, .inr (5, [.ref b0, .ref r0, .ref c0, .ref d0, .ref s0])), (b0, .inr (0, [.ref b1, .ref b2, .int (nI gc), .int (nI dc)])), (b1, .inl (cI, 78, .inl P)), (b2, .inl (cI, 78, .inl A0)), (r0, .inr (3, [.ref r1, .ref r2, .ref r3])), (r1, .inl (cI, 13, .inl u5.1)), (r2, .inl (cI, 13, .inl u5.2.1)), (r3, .inl (cI, 13, .inl u5.2.2)), (o0, .inl (cJ, 1, .inr (.inl O)))] H := va_P.sub hP [1, 2, 3, 4, 5, 6, 7, 8, 0] rfl
  have hD : va_D A [(x0, .inr (5, [.ref b0, .ref r0, .ref c0, .ref d0, .ref s0])), (b0, .inr (0, [.ref b1, .ref b2, .int (nI gc), .int (nI dc)])), (b1, .inl (cI, 78, .inl P)), (b2, .inl (cI, 78, .inl A0)), (r0, .inr (3, [.ref r1, .ref r2, .ref r3])), (r1, .inl (cI, 13, .inl u5.1)), (r2, .inl (cI, 13, .inl u5.2.1)), (r3, .inl (cI, 13, .inl u5.2.2)), (o0, .inl (cJ, 1, .inr (.inl O)))] := va_D.sub hD [1, 2, 3, 4, 5, 6, 7, 8, 0] (by decide) rfl
  refine lv_if_eq (tgt := 15) hx hb xj_A_passes_8 rfl (fun h8 => ?_) (fun h8 => ?_)
  · -- 15
    refine lv_lconst (v := lN 0) hx hb xj_A_passes_15 (by decide) ?_
    refine xr_jast hx hb hK.1 hP hD hS 8 2 rfl rfl (by omega) (by decide) xj_A_passes_16 (fun H locs hP hD hS => ?_)
    have hP : va_P D xn_cl [(x0, .inr (5, [.ref b0, .ref r0, .ref c0, .ref d0, .ref s0])), (b0, .inr (0, [.ref b1, .ref b2, .int (nI gc), .int (nI dc)])), (b1, .inl (cI, 78, .inl P)), (b2, .inl (cI, 78, .inl A0)), (r0, .inr (3, [.ref r1, .ref r2, .ref r3])), (r1, .inl (cI, 13, .inl u5.1)), (r2, .inl (cI, 13, .inl u5.2.1)), (r3, .inl (cI, 13, .inl u5.2.2)), (o0, .inl (cJ, 1, .inr (.inl (vp_updL O 0 (lN 0)))))] H := hP
    have hD : va_D A [(x0, .inr (5, [.ref b0, .ref r0, .ref c0, .ref d0, .ref s0])), (b0, .inr (0, [.ref b1, .ref b2, .int (nI gc), .int (nI dc)])), (b1, .inl (cI, 78, .inl P)), (b2, .inl (cI, 78, .inl A0)), (r0, .inr (3, [.ref r1, .ref r2, .ref r3])), (r1, .inl (cI, 13, .inl u5.1)), (r2, .inl (cI, 13, .inl u5.2.1)), (r3, .inl (cI, 13, .inl u5.2.2)), (o0, .inl (cJ, 1, .inr (.inl (vp_updL O 0 (lN 0)))))] := hD
    refine lv_goto (tgt := 24) hx hb xj_A_passes_17 rfl ?_
    refine lv_iconst (v := nI 0) hx hb xj_A_passes_24 (by decide) ?_
    exact hret (nI 0) ((u5, vp_updL O 0 (lN 0))) H locs _ _ _ ls (Or.inl ⟨rfl, r5, hf5, by rw [if_pos h8]⟩) hP hD hS (Nat.le_of_ble_eq_true rfl) (Nat.le_of_ble_eq_true rfl) xj_A_passes_25
  · -- 11
    refine lv_lconst (v := lN 1) hx hb xj_A_passes_11 (by decide) ?_
    refine lv_goto (tgt := 16) hx hb xj_A_passes_12 rfl ?_
    refine xr_jast hx hb hK.1 hP hD hS 8 2 rfl rfl (by omega) (by decide) xj_A_passes_16 (fun H locs hP hD hS => ?_)
    have hP : va_P D xn_cl [(x0, .inr (5, [.ref b0, .ref r0, .ref c0, .ref d0, .ref s0])), (b0, .inr (0, [.ref b1, .ref b2, .int (nI gc), .int (nI dc)])), (b1, .inl (cI, 78, .inl P)), (b2, .inl (cI, 78, .inl A0)), (r0, .inr (3, [.ref r1, .ref r2, .ref r3])), (r1, .inl (cI, 13, .inl u5.1)), (r2, .inl (cI, 13, .inl u5.2.1)), (r3, .inl (cI, 13, .inl u5.2.2)), (o0, .inl (cJ, 1, .inr (.inl (vp_updL O 0 (lN 1)))))] H := hP
    have hD : va_D A [(x0, .inr (5, [.ref b0, .ref r0, .ref c0, .ref d0, .ref s0])), (b0, .inr (0, [.ref b1, .ref b2, .int (nI gc), .int (nI dc)])), (b1, .inl (cI, 78, .inl P)), (b2, .inl (cI, 78, .inl A0)), (r0, .inr (3, [.ref r1, .ref r2, .ref r3])), (r1, .inl (cI, 13, .inl u5.1)), (r2, .inl (cI, 13, .inl u5.2.1)), (r3, .inl (cI, 13, .inl u5.2.2)), (o0, .inl (cJ, 1, .inr (.inl (vp_updL O 0 (lN 1)))))] := hD
    refine lv_goto (tgt := 24) hx hb xj_A_passes_17 rfl ?_
    refine lv_iconst (v := nI 0) hx hb xj_A_passes_24 (by decide) ?_
    exact hret (nI 0) ((u5, vp_updL O 0 (lN 1))) H locs _ _ _ ls (Or.inl ⟨rfl, r5, hf5, by rw [if_neg h8]⟩) hP hD hS (Nat.le_of_ble_eq_true rfl) (Nat.le_of_ble_eq_true rfl) xj_A_passes_25
set_option maxRecDepth 100000 in
set_option maxHeartbeats 4000000 in
theorem xt_A_shrinkage (l : Launch) (hl0 : l.stackTraces = false) (D : va_G) (cI cZ cJ : ClassId) (sa : Nat → Nat) (x0 b0 r0 c0 d0 s0 : Nat) (b1 b2 gc dc : Nat) (P A0 : Nat → Int32) (s1 s2 : Nat) (U E : Nat → Int32) (f0 e0 : Int32) (v : Int32) (hg : gc ≤ 6) (hd : dc ≤ 12) (o0 : Nat) (O : Nat → Int64) : xc_Hi l xy_A_shrinkage xb_A_shrinkage 4 [(0, 9, 12, 13)] 8 1 6 [.ref x0, .int v, .ref o0] D cI cZ cJ sa [(x0, .inr (5, [.ref b0, .ref r0, .ref c0, .ref d0, .ref s0])), (b0, .inr (0, [.ref b1, .ref b2, .int (nI gc), .int (nI dc)])), (b1, .inl (cI, 78, .inl P)), (b2, .inl (cI, 78, .inl A0)), (s0, .inr (4, [.ref s1, .ref s2, .int f0, .int e0])), (s1, .inl (cI, 144, .inl U)), (s2, .inl (cI, 144, .inl E)), (o0, .inl (cJ, 1, .inr (.inl O)))] (((Nat → Int32) × (Nat → Int32) × Int32 × Int32) × (Nat → Int64)) (fun r u => (r = nI 0 ∧ ∃ w9, (fun r _ => xo_01 v = true ∧ r = if v = 0 then (xo_fin gc P A0 dc U E).1 else (xo_fin gc P A0 dc U E).2) w9 u.1 ∧ u.2 = vp_updL O 0 w9.toInt64) ∨ (r = nI 1 ∧ ∃ X9, (fun E _ => E = xn_EA ∧ xo_01 v = false) X9 u.1 ∧ u.2 = O)) (fun u => [(x0, .inr (5, [.ref b0, .ref r0, .ref c0, .ref d0, .ref s0])), (b0, .inr (0, [.ref b1, .ref b2, .int (nI gc), .int (nI dc)])), (b1, .inl (cI, 78, .inl P)), (b2, .inl (cI, 78, .inl A0)), (s0, .inr (4, [.ref s1, .ref s2, .int u.1.2.2.1, .int u.1.2.2.2])), (s1, .inl (cI, 144, .inl u.1.1)), (s2, .inl (cI, 144, .inl u.1.2.1)), (o0, .inl (cJ, 1, .inr (.inl u.2)))]) := by
  refine xc_Hi_of (by decide) (Nat.le_of_ble_eq_true rfl) ?_
  intro p e s m args below meth c Q ls A hAt hP hK hD hA hS hl hT0 hN htab hret
  obtain ⟨hx, hb, hml, hown, hts, hgs, hlk⟩ := id hAt
  have hT : ∀ w ∈ xw_g, w ∈ Cond.codeWith xy_A_shrinkage xb_A_shrinkage 4 (some .int) [(0, 9, 12, 13)] :: xw_g := fun w h => List.mem_cons_of_mem _ h
  have hown : s.vm.findClass "WishLedgerLaw" = some m.cls := hown
  obtain ⟨H, hH0⟩ : ∃ H, H = s.heap := ⟨_, rfl⟩
  obtain ⟨locs, hL0⟩ : ∃ locs : List Loc, locs = [] := ⟨_, rfl⟩
  have hP : va_P D xn_cl [(x0, .inr (5, [.ref b0, .ref r0, .ref c0, .ref d0, .ref s0])), (b0, .inr (0, [.ref b1, .ref b2, .int (nI gc), .int (nI dc)])), (b1, .inl (cI, 78, .inl P)), (b2, .inl (cI, 78, .inl A0)), (s0, .inr (4, [.ref s1, .ref s2, .int f0, .int e0])), (s1, .inl (cI, 144, .inl U)), (s2, .inl (cI, 144, .inl E)), (o0, .inl (cJ, 1, .inr (.inl O)))] H := by rw [hH0]; exact hP
  have hS : va_S A s.heap H locs := by rw [hH0, hL0]; exact hS
  suffices hgo : W p l e (xc_rm 8 1 6) s m args below meth c H locs 0 0 Q (F0 m 0 ls []) by rw [hH0, hL0] at hgo; exact hgo
  clear hH0 hL0
  have hl : lv_has ls 4 [(0, .ref x0), (1, .int v), (2, .ref o0)] := hl
  refine lv_aload_n hx hb xj_A_shrinkage_0 rfl (lv_at hl 2 rfl) ?_
  refine lv_iconst (v := nI 0) hx hb xj_A_shrinkage_1 (by decide) ?_
  refine lv_aload_n hx hb xj_A_shrinkage_2 rfl (lv_at hl 0 rfl) ?_
  refine lv_iload_n hx hb xj_A_shrinkage_3 rfl (lv_at hl 1 rfl) ?_
  refine xc_xVi (av := [.int v]) (rest := [.int (nI 0), .ref o0]) (wr := [(o0, .inl (cJ, 1, .inr (.inl O)))]) hAt hT (xt_L_shrinkage l hl0 D cI cZ cJ sa x0 b0 r0 c0 d0 s0 b1 b2 gc dc P A0 s1 s2 U E f0 e0 v hg hd) xw_446 xw_1 xw_449 xw_447 xw_448 (C0 := xn_L) (q0 := 0) rfl rfl (na := 1) rfl (by decide +kernel) ⟨Nat.le_of_ble_eq_true rfl, Nat.le_of_ble_eq_true rfl⟩ hP hD hS hA [0, 1, 2, 3, 4, 5, 6] [7] rfl rfl (by decide) (by decide) (by decide) hK hT0 hl.1 (Nat.le_of_ble_eq_true rfl) ⟨Nat.le_of_ble_eq_true rfl, Nat.le_of_ble_eq_true rfl⟩ xj_A_shrinkage_4 (fun Ex ce q9 u9 H locs hf hP hD hS hq hv hcl => ?_) (fun r4 u4 H locs hf4 hP hD hS => ?_)
  · have hP : va_P D xn_cl [(x0, .inr (5, [.ref b0, .ref r0, .ref c0, .ref d0, .ref s0])), (b0, .inr (0, [.ref b1, .ref b2, .int (nI gc), .int (nI dc)])), (b1, .inl (cI, 78, .inl P)), (b2, .inl (cI, 78, .inl A0)), (s0, .inr (4, [.ref s1, .ref s2, .int u9.2.2.1, .int u9.2.2.2])), (s1, .inl (cI, 144, .inl u9.1)), (s2, .inl (cI, 144, .inl u9.2.1)), (o0, .inl (cJ, 1, .inr (.inl O)))] H := va_P.sub hP [1, 2, 3, 4, 5, 6, 7, 0] rfl
    have hD : va_D A [(x0, .inr (5, [.ref b0, .ref r0, .ref c0, .ref d0, .ref s0])), (b0, .inr (0, [.ref b1, .ref b2, .int (nI gc), .int (nI dc)])), (b1, .inl (cI, 78, .inl P)), (b2, .inl (cI, 78, .inl A0)), (s0, .inr (4, [.ref s1, .ref s2, .int u9.2.2.1, .int u9.2.2.2])), (s1, .inl (cI, 144, .inl u9.1)), (s2, .inl (cI, 144, .inl u9.2.1)), (o0, .inl (cJ, 1, .inr (.inl O)))] := va_D.sub hD [1, 2, 3, 4, 5, 6, 7, 0] (by decide) rfl
    obtain rfl : Ex = xn_EA := hf.1
    refine vx_catch (own := "WishLedgerLaw") (name := xn_EA) hown [] ⟨0, 9, 12, 13⟩ [] htab (fun z hz => absurd hz List.not_mem_nil) rfl (by decide) (hgs _ xw_182) (va_Nw.use rfl hN.1) hq hv hcl ?_
    refine lv_astore_n (lv' := [(3, .ref q9), (0, .ref x0), (1, .int v), (2, .ref o0)]) hx hb xj_A_shrinkage_12 rfl hl (by decide) rfl (fun ls hl => ?_)
    refine lv_iconst (v := nI 1) hx hb xj_A_shrinkage_13 (by decide) ?_
    exact hret (nI 1) ((u9, O)) H locs _ _ _ ls (Or.inr ⟨rfl, xn_EA, hf, rfl⟩) hP hD hS (Nat.le_of_ble_eq_true rfl) (Nat.le_of_ble_eq_true rfl) xj_A_shrinkage_14
  have hP : va_P D xn_cl [(x0, .inr (5, [.ref b0, .ref r0, .ref c0, .ref d0, .ref s0])), (b0, .inr (0, [.ref b1, .ref b2, .int (nI gc), .int (nI dc)])), (b1, .inl (cI, 78, .inl P)), (b2, .inl (cI, 78, .inl A0)), (s0, .inr (4, [.ref s1, .ref s2, .int u4.2.2.1, .int u4.2.2.2])), (s1, .inl (cI, 144, .inl u4.1)), (s2, .inl (cI, 144, .inl u4.2.1)), (o0, .inl (cJ, 1, .inr (.inl O)))] H := va_P.sub hP [1, 2, 3, 4, 5, 6, 7, 0] rfl
  have hD : va_D A [(x0, .inr (5, [.ref b0, .ref r0, .ref c0, .ref d0, .ref s0])), (b0, .inr (0, [.ref b1, .ref b2, .int (nI gc), .int (nI dc)])), (b1, .inl (cI, 78, .inl P)), (b2, .inl (cI, 78, .inl A0)), (s0, .inr (4, [.ref s1, .ref s2, .int u4.2.2.1, .int u4.2.2.2])), (s1, .inl (cI, 144, .inl u4.1)), (s2, .inl (cI, 144, .inl u4.2.1)), (o0, .inl (cJ, 1, .inr (.inl O)))] := va_D.sub hD [1, 2, 3, 4, 5, 6, 7, 0] (by decide) rfl
  refine lv_i2l hx hb xj_A_shrinkage_7 rfl ?_
  refine xr_jast hx hb hK.1 hP hD hS 7 2 rfl rfl (by omega) (by decide) xj_A_shrinkage_8 (fun H locs hP hD hS => ?_)
  have hP : va_P D xn_cl [(x0, .inr (5, [.ref b0, .ref r0, .ref c0, .ref d0, .ref s0])), (b0, .inr (0, [.ref b1, .ref b2, .int (nI gc), .int (nI dc)])), (b1, .inl (cI, 78, .inl P)), (b2, .inl (cI, 78, .inl A0)), (s0, .inr (4, [.ref s1, .ref s2, .int u4.2.2.1, .int u4.2.2.2])), (s1, .inl (cI, 144, .inl u4.1)), (s2, .inl (cI, 144, .inl u4.2.1)), (o0, .inl (cJ, 1, .inr (.inl (vp_updL O 0 r4.toInt64))))] H := hP
  have hD : va_D A [(x0, .inr (5, [.ref b0, .ref r0, .ref c0, .ref d0, .ref s0])), (b0, .inr (0, [.ref b1, .ref b2, .int (nI gc), .int (nI dc)])), (b1, .inl (cI, 78, .inl P)), (b2, .inl (cI, 78, .inl A0)), (s0, .inr (4, [.ref s1, .ref s2, .int u4.2.2.1, .int u4.2.2.2])), (s1, .inl (cI, 144, .inl u4.1)), (s2, .inl (cI, 144, .inl u4.2.1)), (o0, .inl (cJ, 1, .inr (.inl (vp_updL O 0 r4.toInt64))))] := hD
  refine lv_goto (tgt := 15) hx hb xj_A_shrinkage_9 rfl ?_
  refine lv_iconst (v := nI 0) hx hb xj_A_shrinkage_15 (by decide) ?_
  exact hret (nI 0) ((u4, vp_updL O 0 r4.toInt64)) H locs _ _ _ ls (Or.inl ⟨rfl, r4, hf4, rfl⟩) hP hD hS (Nat.le_of_ble_eq_true rfl) (Nat.le_of_ble_eq_true rfl) xj_A_shrinkage_16
set_option maxRecDepth 100000 in
set_option maxHeartbeats 4000000 in
theorem xt_A_drop (l : Launch) (hl0 : l.stackTraces = false) (D : va_G) (cI cZ cJ : ClassId) (sa : Nat → Nat) (x0 b0 r0 c0 d0 s0 : Nat) (b1 b2 gc dc : Nat) (P A0 : Nat → Int32) (r1 r2 r3 : Nat) (G Bt C : Nat → Int32) (f0 e0 : Int32) (i : Int32) (hg : gc ≤ 6) (hd : dc ≤ 12) (o0 : Nat) (O : Nat → Int64) : xc_Hi l xy_A_drop xb_A_drop 4 [(0, 9, 12, 25)] 19 1 6 [.ref x0, .int i, .ref o0] D cI cZ cJ sa [(x0, .inr (5, [.ref b0, .ref r0, .ref c0, .ref d0, .ref s0])), (b0, .inr (0, [.ref b1, .ref b2, .int (nI gc), .int (nI dc)])), (b1, .inl (cI, 78, .inl P)), (b2, .inl (cI, 78, .inl A0)), (r0, .inr (3, [.ref r1, .ref r2, .ref r3])), (r1, .inl (cI, 13, .inl G)), (r2, .inl (cI, 13, .inl Bt)), (r3, .inl (cI, 13, .inl C)), (d0, .inr (2, [.int f0, .int e0])), (o0, .inl (cJ, 1, .inr (.inl O)))] (((Nat → Int32) × (Nat → Int32) × (Nat → Int32) × Int32 × Int32) × (Nat → Int64)) (fun r u => (r = nI 0 ∧ ∃ w9, (fun r _ => xo_drp (xk_bc (nI (xo_V (xo_G gc P A0 (xo_X dc) (nI 1) (nI 1) G) (xo_B gc P A0 (xo_X dc) (nI 1) (nI 1) Bt) dc).2)) i = 0 ∧ ((i = -1 ∧ r = xk_bc (nI (xo_V (xo_G gc P A0 (xo_X dc) (nI 1) (nI 1) G) (xo_B gc P A0 (xo_X dc) (nI 1) (nI 1) Bt) dc).2)) ∨ (¬ i = -1 ∧ r = xk_mem (nI (xo_V (xo_G gc P A0 (xo_X dc) (nI 1) (nI 1) G) (xo_B gc P A0 (xo_X dc) (nI 1) (nI 1) Bt) dc).2) i 13 0 0))) w9 u.1 ∧ u.2 = vp_updL O 0 w9.toInt64) ∨ (r = nI 1 ∧ ∃ X9, (fun E _ => E = xn_EX ∧ xo_drp (xk_bc (nI (xo_V (xo_G gc P A0 (xo_X dc) (nI 1) (nI 1) G) (xo_B gc P A0 (xo_X dc) (nI 1) (nI 1) Bt) dc).2)) i = 1) X9 u.1 ∧ u.2 = O)) (fun u => [(x0, .inr (5, [.ref b0, .ref r0, .ref c0, .ref d0, .ref s0])), (b0, .inr (0, [.ref b1, .ref b2, .int (nI gc), .int (nI dc)])), (b1, .inl (cI, 78, .inl P)), (b2, .inl (cI, 78, .inl A0)), (r0, .inr (3, [.ref r1, .ref r2, .ref r3])), (r1, .inl (cI, 13, .inl u.1.1)), (r2, .inl (cI, 13, .inl u.1.2.1)), (r3, .inl (cI, 13, .inl u.1.2.2.1)), (d0, .inr (2, [.int u.1.2.2.2.1, .int u.1.2.2.2.2])), (o0, .inl (cJ, 1, .inr (.inl u.2)))]) := by
  refine xc_Hi_of (by decide) (Nat.le_of_ble_eq_true rfl) ?_
  intro p e s m args below meth c Q ls A hAt hP hK hD hA hS hl hT0 hN htab hret
  obtain ⟨hx, hb, hml, hown, hts, hgs, hlk⟩ := id hAt
  have hT : ∀ w ∈ xw_g, w ∈ Cond.codeWith xy_A_drop xb_A_drop 4 (some .int) [(0, 9, 12, 25)] :: xw_g := fun w h => List.mem_cons_of_mem _ h
  have hown : s.vm.findClass "WishLedgerLaw" = some m.cls := hown
  obtain ⟨H, hH0⟩ : ∃ H, H = s.heap := ⟨_, rfl⟩
  obtain ⟨locs, hL0⟩ : ∃ locs : List Loc, locs = [] := ⟨_, rfl⟩
  have hP : va_P D xn_cl [(x0, .inr (5, [.ref b0, .ref r0, .ref c0, .ref d0, .ref s0])), (b0, .inr (0, [.ref b1, .ref b2, .int (nI gc), .int (nI dc)])), (b1, .inl (cI, 78, .inl P)), (b2, .inl (cI, 78, .inl A0)), (r0, .inr (3, [.ref r1, .ref r2, .ref r3])), (r1, .inl (cI, 13, .inl G)), (r2, .inl (cI, 13, .inl Bt)), (r3, .inl (cI, 13, .inl C)), (d0, .inr (2, [.int f0, .int e0])), (o0, .inl (cJ, 1, .inr (.inl O)))] H := by rw [hH0]; exact hP
  have hS : va_S A s.heap H locs := by rw [hH0, hL0]; exact hS
  suffices hgo : W p l e (xc_rm 19 1 6) s m args below meth c H locs 0 0 Q (F0 m 0 ls []) by rw [hH0, hL0] at hgo; exact hgo
  clear hH0 hL0
  have hl : lv_has ls 4 [(0, .ref x0), (1, .int i), (2, .ref o0)] := hl
  refine lv_aload_n hx hb xj_A_drop_0 rfl (lv_at hl 2 rfl) ?_
  refine lv_iconst (v := nI 0) hx hb xj_A_drop_1 (by decide) ?_
  refine lv_aload_n hx hb xj_A_drop_2 rfl (lv_at hl 0 rfl) ?_
  refine lv_iload_n hx hb xj_A_drop_3 rfl (lv_at hl 1 rfl) ?_
  refine xc_xVi (av := [.int i]) (rest := [.int (nI 0), .ref o0]) (wr := [(o0, .inl (cJ, 1, .inr (.inl O)))]) hAt hT (xt_L_drop l hl0 D cI cZ cJ sa x0 b0 r0 c0 d0 s0 b1 b2 gc dc P A0 r1 r2 r3 G Bt C f0 e0 i hg hd) xw_473 xw_1 xw_476 xw_474 xw_475 (C0 := xn_L) (q0 := 0) rfl rfl (na := 1) rfl (by decide +kernel) ⟨Nat.le_of_ble_eq_true rfl, Nat.le_of_ble_eq_true rfl⟩ hP hD hS hA [0, 1, 2, 3, 4, 5, 6, 7, 8] [9] rfl rfl (by decide) (by decide) (by decide) hK hT0 hl.1 (Nat.le_of_ble_eq_true rfl) ⟨Nat.le_of_ble_eq_true rfl, Nat.le_of_ble_eq_true rfl⟩ xj_A_drop_4 (fun Ex ce q9 u9 H locs hf hP hD hS hq hv hcl => ?_) (fun r4 u4 H locs hf4 hP hD hS => ?_)
  · have hP : va_P D xn_cl [(x0, .inr (5, [.ref b0, .ref r0, .ref c0, .ref d0, .ref s0])), (b0, .inr (0, [.ref b1, .ref b2, .int (nI gc), .int (nI dc)])), (b1, .inl (cI, 78, .inl P)), (b2, .inl (cI, 78, .inl A0)), (r0, .inr (3, [.ref r1, .ref r2, .ref r3])), (r1, .inl (cI, 13, .inl u9.1)), (r2, .inl (cI, 13, .inl u9.2.1)), (r3, .inl (cI, 13, .inl u9.2.2.1)), (d0, .inr (2, [.int u9.2.2.2.1, .int u9.2.2.2.2])), (o0, .inl (cJ, 1, .inr (.inl O)))] H := va_P.sub hP [1, 2, 3, 4, 5, 6, 7, 8, 9, 0] rfl
    have hD : va_D A [(x0, .inr (5, [.ref b0, .ref r0, .ref c0, .ref d0, .ref s0])), (b0, .inr (0, [.ref b1, .ref b2, .int (nI gc), .int (nI dc)])), (b1, .inl (cI, 78, .inl P)), (b2, .inl (cI, 78, .inl A0)), (r0, .inr (3, [.ref r1, .ref r2, .ref r3])), (r1, .inl (cI, 13, .inl u9.1)), (r2, .inl (cI, 13, .inl u9.2.1)), (r3, .inl (cI, 13, .inl u9.2.2.1)), (d0, .inr (2, [.int u9.2.2.2.1, .int u9.2.2.2.2])), (o0, .inl (cJ, 1, .inr (.inl O)))] := va_D.sub hD [1, 2, 3, 4, 5, 6, 7, 8, 9, 0] (by decide) rfl
    obtain rfl : Ex = xn_EX := hf.1
    refine vx_catch (own := "WishLedgerLaw") (name := xn_EX) hown [] ⟨0, 9, 12, 25⟩ [] htab (fun z hz => absurd hz List.not_mem_nil) rfl (by decide) (hgs _ xw_286) (va_Nw.use rfl hN.2.2.1) hq hv hcl ?_
    refine lv_astore_n (lv' := [(3, .ref q9), (0, .ref x0), (1, .int i), (2, .ref o0)]) hx hb xj_A_drop_12 rfl hl (by decide) rfl (fun ls hl => ?_)
    refine lv_iconst (v := nI 1) hx hb xj_A_drop_13 (by decide) ?_
    exact hret (nI 1) ((u9, O)) H locs _ _ _ ls (Or.inr ⟨rfl, xn_EX, hf, rfl⟩) hP hD hS (Nat.le_of_ble_eq_true rfl) (Nat.le_of_ble_eq_true rfl) xj_A_drop_14
  have hP : va_P D xn_cl [(x0, .inr (5, [.ref b0, .ref r0, .ref c0, .ref d0, .ref s0])), (b0, .inr (0, [.ref b1, .ref b2, .int (nI gc), .int (nI dc)])), (b1, .inl (cI, 78, .inl P)), (b2, .inl (cI, 78, .inl A0)), (r0, .inr (3, [.ref r1, .ref r2, .ref r3])), (r1, .inl (cI, 13, .inl u4.1)), (r2, .inl (cI, 13, .inl u4.2.1)), (r3, .inl (cI, 13, .inl u4.2.2.1)), (d0, .inr (2, [.int u4.2.2.2.1, .int u4.2.2.2.2])), (o0, .inl (cJ, 1, .inr (.inl O)))] H := va_P.sub hP [1, 2, 3, 4, 5, 6, 7, 8, 9, 0] rfl
  have hD : va_D A [(x0, .inr (5, [.ref b0, .ref r0, .ref c0, .ref d0, .ref s0])), (b0, .inr (0, [.ref b1, .ref b2, .int (nI gc), .int (nI dc)])), (b1, .inl (cI, 78, .inl P)), (b2, .inl (cI, 78, .inl A0)), (r0, .inr (3, [.ref r1, .ref r2, .ref r3])), (r1, .inl (cI, 13, .inl u4.1)), (r2, .inl (cI, 13, .inl u4.2.1)), (r3, .inl (cI, 13, .inl u4.2.2.1)), (d0, .inr (2, [.int u4.2.2.2.1, .int u4.2.2.2.2])), (o0, .inl (cJ, 1, .inr (.inl O)))] := va_D.sub hD [1, 2, 3, 4, 5, 6, 7, 8, 9, 0] (by decide) rfl
  refine lv_i2l hx hb xj_A_drop_7 rfl ?_
  refine xr_jast hx hb hK.1 hP hD hS 9 2 rfl rfl (by omega) (by decide) xj_A_drop_8 (fun H locs hP hD hS => ?_)
  have hP : va_P D xn_cl [(x0, .inr (5, [.ref b0, .ref r0, .ref c0, .ref d0, .ref s0])), (b0, .inr (0, [.ref b1, .ref b2, .int (nI gc), .int (nI dc)])), (b1, .inl (cI, 78, .inl P)), (b2, .inl (cI, 78, .inl A0)), (r0, .inr (3, [.ref r1, .ref r2, .ref r3])), (r1, .inl (cI, 13, .inl u4.1)), (r2, .inl (cI, 13, .inl u4.2.1)), (r3, .inl (cI, 13, .inl u4.2.2.1)), (d0, .inr (2, [.int u4.2.2.2.1, .int u4.2.2.2.2])), (o0, .inl (cJ, 1, .inr (.inl (vp_updL O 0 r4.toInt64))))] H := hP
  have hD : va_D A [(x0, .inr (5, [.ref b0, .ref r0, .ref c0, .ref d0, .ref s0])), (b0, .inr (0, [.ref b1, .ref b2, .int (nI gc), .int (nI dc)])), (b1, .inl (cI, 78, .inl P)), (b2, .inl (cI, 78, .inl A0)), (r0, .inr (3, [.ref r1, .ref r2, .ref r3])), (r1, .inl (cI, 13, .inl u4.1)), (r2, .inl (cI, 13, .inl u4.2.1)), (r3, .inl (cI, 13, .inl u4.2.2.1)), (d0, .inr (2, [.int u4.2.2.2.1, .int u4.2.2.2.2])), (o0, .inl (cJ, 1, .inr (.inl (vp_updL O 0 r4.toInt64))))] := hD
  refine lv_goto (tgt := 15) hx hb xj_A_drop_9 rfl ?_
  refine lv_iconst (v := nI 0) hx hb xj_A_drop_15 (by decide) ?_
  exact hret (nI 0) ((u4, vp_updL O 0 r4.toInt64)) H locs _ _ _ ls (Or.inl ⟨rfl, r4, hf4, rfl⟩) hP hD hS (Nat.le_of_ble_eq_true rfl) (Nat.le_of_ble_eq_true rfl) xj_A_drop_16
set_option maxRecDepth 100000 in
set_option maxHeartbeats 4000000 in
theorem xt_A_offer (l : Launch) (hl0 : l.stackTraces = false) (D : va_G) (cI cZ cJ : ClassId) (sa : Nat → Nat) (x0 b0 r0 c0 d0 s0 : Nat) (b1 b2 gc dc : Nat) (P A0 : Nat → Int32) (g pr am : Int32) (hg : gc ≤ 6) (hd : dc ≤ 12) : xc_Hi l xy_A_offer xb_A_offer 5 [(0, 7, 10, 25), (0, 7, 14, 13)] 8 3 18 [.ref x0, .int g, .int pr, .int am] D cI cZ cJ sa [(x0, .inr (5, [.ref b0, .ref r0, .ref c0, .ref d0, .ref s0])), (b0, .inr (0, [.ref b1, .ref b2, .int (nI gc), .int (nI dc)])), (b1, .inl (cI, 78, .inl P)), (b2, .inl (cI, 78, .inl A0))] ((Nat → Int32) × (Nat → Int32)) (fun r u => (r = nI 0 ∧ (fun u => ∃ j, j < gc ∧ g = nI j ∧ xo_rg pr (nI 1) (nI 99) = true ∧ xo_rg am 0 (nI 99) = true ∧ u = (upd P (12 * 6 + j) pr, upd A0 (12 * 6 + j) am)) u) ∨ (∃ X9, (fun E u => u = (P, A0) ∧ xo_c2 xn_EX xn_EA (xo_off gc g (xo_rg pr (nI 1) (nI 99) && xo_rg am 0 (nI 99))) E) X9 u ∧ ((X9 = xn_EX ∧ r = nI 1) ∨ (X9 = xn_EA ∧ r = nI 2)))) (fun u => [(x0, .inr (5, [.ref b0, .ref r0, .ref c0, .ref d0, .ref s0])), (b0, .inr (0, [.ref b1, .ref b2, .int (nI gc), .int (nI dc)])), (b1, .inl (cI, 78, .inl u.1)), (b2, .inl (cI, 78, .inl u.2))]) := by
  refine xc_Hi_of (by decide) (Nat.le_of_ble_eq_true rfl) ?_
  intro p e s m args below meth c Q ls A hAt hP hK hD hA hS hl hT0 hN htab hret
  obtain ⟨hx, hb, hml, hown, hts, hgs, hlk⟩ := id hAt
  have hT : ∀ w ∈ xw_g, w ∈ Cond.codeWith xy_A_offer xb_A_offer 5 (some .int) [(0, 7, 10, 25), (0, 7, 14, 13)] :: xw_g := fun w h => List.mem_cons_of_mem _ h
  have hown : s.vm.findClass "WishLedgerLaw" = some m.cls := hown
  obtain ⟨H, hH0⟩ : ∃ H, H = s.heap := ⟨_, rfl⟩
  obtain ⟨locs, hL0⟩ : ∃ locs : List Loc, locs = [] := ⟨_, rfl⟩
  have hP : va_P D xn_cl [(x0, .inr (5, [.ref b0, .ref r0, .ref c0, .ref d0, .ref s0])), (b0, .inr (0, [.ref b1, .ref b2, .int (nI gc), .int (nI dc)])), (b1, .inl (cI, 78, .inl P)), (b2, .inl (cI, 78, .inl A0))] H := by rw [hH0]; exact hP
  have hS : va_S A s.heap H locs := by rw [hH0, hL0]; exact hS
  suffices hgo : W p l e (xc_rm 8 3 18) s m args below meth c H locs 0 0 Q (F0 m 0 ls []) by rw [hH0, hL0] at hgo; exact hgo
  clear hH0 hL0
  have hl : lv_has ls 5 [(0, .ref x0), (1, .int g), (2, .int pr), (3, .int am)] := hl
  refine lv_aload_n hx hb xj_A_offer_0 rfl (lv_at hl 0 rfl) ?_
  refine lv_iload_n hx hb xj_A_offer_1 rfl (lv_at hl 1 rfl) ?_
  refine lv_iload_n hx hb xj_A_offer_2 rfl (lv_at hl 2 rfl) ?_
  refine lv_iload_n hx hb xj_A_offer_3 rfl (lv_at hl 3 rfl) ?_
  refine xc_xVv (av := [.int g, .int pr, .int am]) (rest := []) (wr := []) hAt hT (xt_L_offer l hl0 D cI cZ cJ sa x0 b0 r0 c0 d0 s0 b1 b2 gc dc P A0 g pr am hg hd) xw_499 xw_1 xw_502 xw_500 xw_501 (C0 := xn_L) (q0 := 0) rfl rfl (na := 3) rfl (by decide +kernel) ⟨Nat.le_of_ble_eq_true rfl, Nat.le_of_ble_eq_true rfl⟩ hP hD hS hA [0, 1, 2, 3] [] rfl rfl (by decide) (by decide) (by decide) hK hT0 hl.1 (Nat.le_of_ble_eq_true rfl) ⟨Nat.le_of_ble_eq_true rfl, Nat.le_of_ble_eq_true rfl⟩ xj_A_offer_4 (fun Ex ce q9 u9 H locs hf hP hD hS hq hv hcl => ?_) (fun u4 H locs hf4 hP hD hS => ?_)
  · have hP : va_P D xn_cl [(x0, .inr (5, [.ref b0, .ref r0, .ref c0, .ref d0, .ref s0])), (b0, .inr (0, [.ref b1, .ref b2, .int (nI gc), .int (nI dc)])), (b1, .inl (cI, 78, .inl u9.1)), (b2, .inl (cI, 78, .inl u9.2))] H := va_P.sub hP [0, 1, 2, 3] rfl
    have hD : va_D A [(x0, .inr (5, [.ref b0, .ref r0, .ref c0, .ref d0, .ref s0])), (b0, .inr (0, [.ref b1, .ref b2, .int (nI gc), .int (nI dc)])), (b1, .inl (cI, 78, .inl u9.1)), (b2, .inl (cI, 78, .inl u9.2))] := va_D.sub hD [0, 1, 2, 3] (by decide) rfl
    rcases id hf.2 with ⟨rfl, -⟩ | ⟨rfl, -⟩
    ·
      refine vx_catch (own := "WishLedgerLaw") (name := xn_EX) hown [] ⟨0, 7, 10, 25⟩ [⟨0, 7, 14, 13⟩] htab (fun z hz => absurd hz List.not_mem_nil) rfl (by decide) (hgs _ xw_286) (va_Nw.use rfl hN.2.2.1) hq hv hcl ?_
      refine lv_astore (lv' := [(4, .ref q9), (0, .ref x0), (1, .int g), (2, .int pr), (3, .int am)]) hx hb xj_A_offer_10 hl (by decide) rfl (fun ls hl => ?_)
      refine lv_iconst (v := nI 1) hx hb xj_A_offer_12 (by decide) ?_
      exact hret (nI 1) u9 H locs _ _ _ ls (Or.inr ⟨xn_EX, hf, Or.inl ⟨rfl, rfl⟩⟩) hP hD hS (Nat.le_of_ble_eq_true rfl) (Nat.le_of_ble_eq_true rfl) xj_A_offer_13
    ·
      refine vx_catch (own := "WishLedgerLaw") (name := xn_EA) hown [⟨0, 7, 10, 25⟩] ⟨0, 7, 14, 13⟩ [] htab (fun z hz => Or.inr (by obtain rfl := List.mem_singleton.mp hz; exact ⟨by decide, xn_EX, hgs _ xw_286, hN.2.2.2.1⟩)) rfl (by decide) (hgs _ xw_182) (va_Nw.use rfl hN.1) hq hv hcl ?_
      refine lv_astore (lv' := [(4, .ref q9), (0, .ref x0), (1, .int g), (2, .int pr), (3, .int am)]) hx hb xj_A_offer_14 hl (by decide) rfl (fun ls hl => ?_)
      refine lv_iconst (v := nI 2) hx hb xj_A_offer_16 (by decide) ?_
      exact hret (nI 2) u9 H locs _ _ _ ls (Or.inr ⟨xn_EA, hf, Or.inr ⟨rfl, rfl⟩⟩) hP hD hS (Nat.le_of_ble_eq_true rfl) (Nat.le_of_ble_eq_true rfl) xj_A_offer_17
  have hP : va_P D xn_cl [(x0, .inr (5, [.ref b0, .ref r0, .ref c0, .ref d0, .ref s0])), (b0, .inr (0, [.ref b1, .ref b2, .int (nI gc), .int (nI dc)])), (b1, .inl (cI, 78, .inl u4.1)), (b2, .inl (cI, 78, .inl u4.2))] H := hP
  have hD : va_D A [(x0, .inr (5, [.ref b0, .ref r0, .ref c0, .ref d0, .ref s0])), (b0, .inr (0, [.ref b1, .ref b2, .int (nI gc), .int (nI dc)])), (b1, .inl (cI, 78, .inl u4.1)), (b2, .inl (cI, 78, .inl u4.2))] := hD
  refine lv_goto (tgt := 18) hx hb xj_A_offer_7 rfl ?_
  refine lv_iconst (v := nI 0) hx hb xj_A_offer_18 (by decide) ?_
  exact hret (nI 0) u4 H locs _ _ _ ls (Or.inl ⟨rfl, hf4⟩) hP hD hS (Nat.le_of_ble_eq_true rfl) (Nat.le_of_ble_eq_true rfl) xj_A_offer_19
set_option maxRecDepth 100000 in
set_option maxHeartbeats 4000000 in
theorem xt_A_order (l : Launch) (hl0 : l.stackTraces = false) (D : va_G) (cI cZ cJ : ClassId) (sa : Nat → Nat) (x0 b0 r0 c0 d0 s0 : Nat) (b1 b2 gc dc : Nat) (P A0 : Nat → Int32) (r1 r2 r3 : Nat) (G Bt C : Nat → Int32) (d : Int32) (hg : gc ≤ 6) (hd : dc ≤ 12) (o0 : Nat) (O : Nat → Int64) : xc_Hi l xy_A_order xb_A_order 4 [(0, 9, 12, 25)] 8 1 6 [.ref x0, .int d, .ref o0] D cI cZ cJ sa [(x0, .inr (5, [.ref b0, .ref r0, .ref c0, .ref d0, .ref s0])), (b0, .inr (0, [.ref b1, .ref b2, .int (nI gc), .int (nI dc)])), (b1, .inl (cI, 78, .inl P)), (b2, .inl (cI, 78, .inl A0)), (r0, .inr (3, [.ref r1, .ref r2, .ref r3])), (r1, .inl (cI, 13, .inl G)), (r2, .inl (cI, 13, .inl Bt)), (r3, .inl (cI, 13, .inl C)), (o0, .inl (cJ, 1, .inr (.inl O)))] (((Nat → Int32) × (Nat → Int32) × (Nat → Int32)) × (Nat → Int64)) (fun r u => (r = nI 0 ∧ ∃ w9, (fun r _ => ∃ k, k < dc ∧ d = nI k ∧ r = xk_best (xk_link (xo_G gc P A0 (xo_X dc) (nI 1) (nI 1) G) (xo_X dc) C) (xo_lf (xk_link (xo_G gc P A0 (xo_X dc) (nI 1) (nI 1) G) (xo_X dc) C) k (xo_X dc))) w9 u.1 ∧ u.2 = vp_updL O 0 w9.toInt64) ∨ (r = nI 1 ∧ ∃ X9, (fun E _ => E = xn_EX ∧ xo_in d dc = false) X9 u.1 ∧ u.2 = O)) (fun u => [(x0, .inr (5, [.ref b0, .ref r0, .ref c0, .ref d0, .ref s0])), (b0, .inr (0, [.ref b1, .ref b2, .int (nI gc), .int (nI dc)])), (b1, .inl (cI, 78, .inl P)), (b2, .inl (cI, 78, .inl A0)), (r0, .inr (3, [.ref r1, .ref r2, .ref r3])), (r1, .inl (cI, 13, .inl u.1.1)), (r2, .inl (cI, 13, .inl u.1.2.1)), (r3, .inl (cI, 13, .inl u.1.2.2)), (o0, .inl (cJ, 1, .inr (.inl u.2)))]) := by
  refine xc_Hi_of (by decide) (Nat.le_of_ble_eq_true rfl) ?_
  intro p e s m args below meth c Q ls A hAt hP hK hD hA hS hl hT0 hN htab hret
  obtain ⟨hx, hb, hml, hown, hts, hgs, hlk⟩ := id hAt
  have hT : ∀ w ∈ xw_g, w ∈ Cond.codeWith xy_A_order xb_A_order 4 (some .int) [(0, 9, 12, 25)] :: xw_g := fun w h => List.mem_cons_of_mem _ h
  have hown : s.vm.findClass "WishLedgerLaw" = some m.cls := hown
  obtain ⟨H, hH0⟩ : ∃ H, H = s.heap := ⟨_, rfl⟩
  obtain ⟨locs, hL0⟩ : ∃ locs : List Loc, locs = [] := ⟨_, rfl⟩
  have hP : va_P D xn_cl [(x0, .inr (5, [.ref b0, .ref r0, .ref c0, .ref d0, .ref s0])), (b0, .inr (0, [.ref b1, .ref b2, .int (nI gc), .int (nI dc)])), (b1, .inl (cI, 78, .inl P)), (b2, .inl (cI, 78, .inl A0)), (r0, .inr (3, [.ref r1, .ref r2, .ref r3])), (r1, .inl (cI, 13, .inl G)), (r2, .inl (cI, 13, .inl Bt)), (r3, .inl (cI, 13, .inl C)), (o0, .inl (cJ, 1, .inr (.inl O)))] H := by rw [hH0]; exact hP
  have hS : va_S A s.heap H locs := by rw [hH0, hL0]; exact hS
  suffices hgo : W p l e (xc_rm 8 1 6) s m args below meth c H locs 0 0 Q (F0 m 0 ls []) by rw [hH0, hL0] at hgo; exact hgo
  clear hH0 hL0
  have hl : lv_has ls 4 [(0, .ref x0), (1, .int d), (2, .ref o0)] := hl
  refine lv_aload_n hx hb xj_A_order_0 rfl (lv_at hl 2 rfl) ?_
  refine lv_iconst (v := nI 0) hx hb xj_A_order_1 (by decide) ?_
  refine lv_aload_n hx hb xj_A_order_2 rfl (lv_at hl 0 rfl) ?_
  refine lv_iload_n hx hb xj_A_order_3 rfl (lv_at hl 1 rfl) ?_
  refine xc_xVi (av := [.int d]) (rest := [.int (nI 0), .ref o0]) (wr := [(o0, .inl (cJ, 1, .inr (.inl O)))]) hAt hT (xt_L_order l hl0 D cI cZ cJ sa x0 b0 r0 c0 d0 s0 b1 b2 gc dc P A0 r1 r2 r3 G Bt C d hg hd) xw_506 xw_1 xw_509 xw_507 xw_508 (C0 := xn_L) (q0 := 0) rfl rfl (na := 1) rfl (by decide +kernel) ⟨Nat.le_of_ble_eq_true rfl, Nat.le_of_ble_eq_true rfl⟩ hP hD hS hA [0, 1, 2, 3, 4, 5, 6, 7] [8] rfl rfl (by decide) (by decide) (by decide) hK hT0 hl.1 (Nat.le_of_ble_eq_true rfl) ⟨Nat.le_of_ble_eq_true rfl, Nat.le_of_ble_eq_true rfl⟩ xj_A_order_4 (fun Ex ce q9 u9 H locs hf hP hD hS hq hv hcl => ?_) (fun r4 u4 H locs hf4 hP hD hS => ?_)
  · have hP : va_P D xn_cl [(x0, .inr (5, [.ref b0, .ref r0, .ref c0, .ref d0, .ref s0])), (b0, .inr (0, [.ref b1, .ref b2, .int (nI gc), .int (nI dc)])), (b1, .inl (cI, 78, .inl P)), (b2, .inl (cI, 78, .inl A0)), (r0, .inr (3, [.ref r1, .ref r2, .ref r3])), (r1, .inl (cI, 13, .inl u9.1)), (r2, .inl (cI, 13, .inl u9.2.1)), (r3, .inl (cI, 13, .inl u9.2.2)), (o0, .inl (cJ, 1, .inr (.inl O)))] H := va_P.sub hP [1, 2, 3, 4, 5, 6, 7, 8, 0] rfl
    have hD : va_D A [(x0, .inr (5, [.ref b0, .ref r0, .ref c0, .ref d0, .ref s0])), (b0, .inr (0, [.ref b1, .ref b2, .int (nI gc), .int (nI dc)])), (b1, .inl (cI, 78, .inl P)), (b2, .inl (cI, 78, .inl A0)), (r0, .inr (3, [.ref r1, .ref r2, .ref r3])), (r1, .inl (cI, 13, .inl u9.1)), (r2, .inl (cI, 13, .inl u9.2.1)), (r3, .inl (cI, 13, .inl u9.2.2)), (o0, .inl (cJ, 1, .inr (.inl O)))] := va_D.sub hD [1, 2, 3, 4, 5, 6, 7, 8, 0] (by decide) rfl
    obtain rfl : Ex = xn_EX := hf.1
    refine vx_catch (own := "WishLedgerLaw") (name := xn_EX) hown [] ⟨0, 9, 12, 25⟩ [] htab (fun z hz => absurd hz List.not_mem_nil) rfl (by decide) (hgs _ xw_286) (va_Nw.use rfl hN.2.2.1) hq hv hcl ?_
    refine lv_astore_n (lv' := [(3, .ref q9), (0, .ref x0), (1, .int d), (2, .ref o0)]) hx hb xj_A_order_12 rfl hl (by decide) rfl (fun ls hl => ?_)
    refine lv_iconst (v := nI 1) hx hb xj_A_order_13 (by decide) ?_
    exact hret (nI 1) ((u9, O)) H locs _ _ _ ls (Or.inr ⟨rfl, xn_EX, hf, rfl⟩) hP hD hS (Nat.le_of_ble_eq_true rfl) (Nat.le_of_ble_eq_true rfl) xj_A_order_14
  have hP : va_P D xn_cl [(x0, .inr (5, [.ref b0, .ref r0, .ref c0, .ref d0, .ref s0])), (b0, .inr (0, [.ref b1, .ref b2, .int (nI gc), .int (nI dc)])), (b1, .inl (cI, 78, .inl P)), (b2, .inl (cI, 78, .inl A0)), (r0, .inr (3, [.ref r1, .ref r2, .ref r3])), (r1, .inl (cI, 13, .inl u4.1)), (r2, .inl (cI, 13, .inl u4.2.1)), (r3, .inl (cI, 13, .inl u4.2.2)), (o0, .inl (cJ, 1, .inr (.inl O)))] H := va_P.sub hP [1, 2, 3, 4, 5, 6, 7, 8, 0] rfl
  have hD : va_D A [(x0, .inr (5, [.ref b0, .ref r0, .ref c0, .ref d0, .ref s0])), (b0, .inr (0, [.ref b1, .ref b2, .int (nI gc), .int (nI dc)])), (b1, .inl (cI, 78, .inl P)), (b2, .inl (cI, 78, .inl A0)), (r0, .inr (3, [.ref r1, .ref r2, .ref r3])), (r1, .inl (cI, 13, .inl u4.1)), (r2, .inl (cI, 13, .inl u4.2.1)), (r3, .inl (cI, 13, .inl u4.2.2)), (o0, .inl (cJ, 1, .inr (.inl O)))] := va_D.sub hD [1, 2, 3, 4, 5, 6, 7, 8, 0] (by decide) rfl
  refine lv_i2l hx hb xj_A_order_7 rfl ?_
  refine xr_jast hx hb hK.1 hP hD hS 8 2 rfl rfl (by omega) (by decide) xj_A_order_8 (fun H locs hP hD hS => ?_)
  have hP : va_P D xn_cl [(x0, .inr (5, [.ref b0, .ref r0, .ref c0, .ref d0, .ref s0])), (b0, .inr (0, [.ref b1, .ref b2, .int (nI gc), .int (nI dc)])), (b1, .inl (cI, 78, .inl P)), (b2, .inl (cI, 78, .inl A0)), (r0, .inr (3, [.ref r1, .ref r2, .ref r3])), (r1, .inl (cI, 13, .inl u4.1)), (r2, .inl (cI, 13, .inl u4.2.1)), (r3, .inl (cI, 13, .inl u4.2.2)), (o0, .inl (cJ, 1, .inr (.inl (vp_updL O 0 r4.toInt64))))] H := hP
  have hD : va_D A [(x0, .inr (5, [.ref b0, .ref r0, .ref c0, .ref d0, .ref s0])), (b0, .inr (0, [.ref b1, .ref b2, .int (nI gc), .int (nI dc)])), (b1, .inl (cI, 78, .inl P)), (b2, .inl (cI, 78, .inl A0)), (r0, .inr (3, [.ref r1, .ref r2, .ref r3])), (r1, .inl (cI, 13, .inl u4.1)), (r2, .inl (cI, 13, .inl u4.2.1)), (r3, .inl (cI, 13, .inl u4.2.2)), (o0, .inl (cJ, 1, .inr (.inl (vp_updL O 0 r4.toInt64))))] := hD
  refine lv_goto (tgt := 15) hx hb xj_A_order_9 rfl ?_
  refine lv_iconst (v := nI 0) hx hb xj_A_order_15 (by decide) ?_
  exact hret (nI 0) ((u4, vp_updL O 0 r4.toInt64)) H locs _ _ _ ls (Or.inl ⟨rfl, r4, hf4, rfl⟩) hP hD hS (Nat.le_of_ble_eq_true rfl) (Nat.le_of_ble_eq_true rfl) xj_A_order_16
