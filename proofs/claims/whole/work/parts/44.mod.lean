/-! walks: the reference, link -/
set_option maxRecDepth 100000 in
set_option maxHeartbeats 4000000 in
theorem xt_M_link (l : Launch) (D : va_G) (cI cZ cJ : ClassId) (m0 m1 m2 m3 m4 m5 m6 m7 m8 m9 m10 : Nat) (cd : Int32) (gc dc : Nat) (gd : Nat → Bool) (ch : Nat → Bool) (st : Nat → Int32) (lf : Nat → Bool) (k0 : Nat) (hk : k0 ≤ 13) : xc_Wv l xy_M_link xb_M_link 6 1 0 0 [.ref m0, .int (nI k0)] D cI cZ cJ [(m0, .inr (6, [.int cd, .int (nI gc), .int (nI dc), .ref m1, .ref m2, .ref m3, .ref m4, .ref m5, .ref m6, .ref m7, .ref m8, .ref m9, .ref m10])), (m5, .inl (cZ, 169, .inl (xf_z gd))), (m7, .inl (cZ, 169, .inl (xf_z ch))), (m8, .inl (cI, 169, .inl st)), (m9, .inl (cZ, 13, .inl (xf_z lf)))] (Unit) (fun _ => True) (fun _ => [(m0, .inr (6, [.int cd, .int (nI gc), .int (nI dc), .ref m1, .ref m2, .ref m3, .ref m4, .ref m5, .ref m6, .ref m7, .ref m8, .ref m9, .ref m10])), (m5, .inl (cZ, 169, .inl (xf_z gd))), (m7, .inl (cZ, 169, .inl (xf_z ((xm_K k0 lf gd ch st).1)))), (m8, .inl (cI, 169, .inl ((xm_K k0 lf gd ch st).2.1))), (m9, .inl (cZ, 13, .inl (xf_z lf)))]) := by
  refine xc_Wv_of (by decide) (Nat.le_of_ble_eq_true rfl) ?_
  intro p e s m args below meth c Q ls A hAt hin hP hK hD hA hS hl hret
  obtain ⟨hx, hb, hml, hown, hts, hgs, hlk⟩ := id hAt
  have hT : ∀ w ∈ xw_g, w ∈ xc_ws xy_M_link xb_M_link 6 (none) := fun w h => List.mem_cons_of_mem _ h
  have hown : s.vm.findClass "WishLedgerModel" = some m.cls := hown
  obtain ⟨H, hH0⟩ : ∃ H, H = s.heap := ⟨_, rfl⟩
  obtain ⟨locs, hL0⟩ : ∃ locs : List Loc, locs = [] := ⟨_, rfl⟩
  have hP : va_P D xn_cl [(m0, .inr (6, [.int cd, .int (nI gc), .int (nI dc), .ref m1, .ref m2, .ref m3, .ref m4, .ref m5, .ref m6, .ref m7, .ref m8, .ref m9, .ref m10])), (m5, .inl (cZ, 169, .inl (xf_z gd))), (m7, .inl (cZ, 169, .inl (xf_z ch))), (m8, .inl (cI, 169, .inl st)), (m9, .inl (cZ, 13, .inl (xf_z lf)))] H := by rw [hH0]; exact hP
  have hS : va_S A s.heap H locs := by rw [hH0, hL0]; exact hS
  suffices hgo : W p l e (xc_rm 1 0 0) s m args below meth c H locs 0 0 Q (F0 m 0 ls []) by rw [hH0, hL0] at hgo; exact hgo
  clear hH0 hL0
  have hl : lv_has ls 6 [(0, .ref m0), (1, .int (nI k0))] := hl
  refine lv_iconst (v := nI 0) hx hb xj_M_link_0 (by decide) ?_
  refine lv_istore_n (lv' := [(2, .int (nI 0)), (0, .ref m0), (1, .int (nI k0))]) hx hb xj_M_link_1 rfl hl (by decide) rfl (fun ls hl => ?_)
  have loop2 : ∀ (n : Nat) (i : Nat) (c1 : Nat → Bool) (s1 : Nat → Int32) (ls : Array Slot) (H : Heap) (locs : List Loc), i + n = 169 → (xm_f1 (fun _ => false) n i c1 = xm_f1 (fun _ => false) 169 0 ch) → (xf_fill (fun _ => nI 0) n i s1 = xf_fill (fun _ => nI 0) 169 0 st) → lv_has ls 6 [(0, .ref m0), (1, .int (nI k0)), (2, .int (nI i))] → va_P D xn_cl [(m0, .inr (6, [.int cd, .int (nI gc), .int (nI dc), .ref m1, .ref m2, .ref m3, .ref m4, .ref m5, .ref m6, .ref m7, .ref m8, .ref m9, .ref m10])), (m5, .inl (cZ, 169, .inl (xf_z gd))), (m7, .inl (cZ, 169, .inl (xf_z c1))), (m8, .inl (cI, 169, .inl s1)), (m9, .inl (cZ, 13, .inl (xf_z lf)))] H → va_D A [(m0, .inr (6, [.int cd, .int (nI gc), .int (nI dc), .ref m1, .ref m2, .ref m3, .ref m4, .ref m5, .ref m6, .ref m7, .ref m8, .ref m9, .ref m10])), (m5, .inl (cZ, 169, .inl (xf_z gd))), (m7, .inl (cZ, 169, .inl (xf_z c1))), (m8, .inl (cI, 169, .inl s1)), (m9, .inl (cZ, 13, .inl (xf_z lf)))] → va_S A s.heap H locs → W p l e (xc_rm 1 0 0) s m args below meth c H locs 0 0 Q (F0 m 2 ls []) := by
    intro n
    induction n with
    | zero =>
      intro i c1 s1 ls H locs hi2 hc1 hs1 hl hP hD hS
      refine lv_iload_n hx hb xj_M_link_2 rfl (lv_at hl 2 rfl) ?_
      refine lv_sipush (v := nI 169) hx hb xj_M_link_3 (by decide) ?_
      refine xr_ge (tgt := 29) hx hb (by omega) (by omega) xj_M_link_6 rfl (fun h6 => ?_) (fun h6 => absurd h6 (by omega))
      refine lv_iconst (v := nI 0) hx hb xj_M_link_29 (by decide) ?_
      refine lv_istore_n (lv' := [(2, .int (nI 0)), (0, .ref m0), (1, .int (nI k0))]) hx hb xj_M_link_30 rfl hl (by decide) rfl (fun ls hl => ?_)
      have loop31 : ∀ (n2 : Nat) (i2 : Nat) (c2 : Nat → Bool) (s2 : Nat → Int32) (ls : Array Slot) (H : Heap) (locs : List Loc), i2 + n2 = k0 → (xm_fr (xm_is lf gd) k0 n2 i2 c2 = xm_fr (xm_is lf gd) k0 k0 0 (xm_f1 (fun _ => false) 169 0 ch)) → (xm_gr (xm_i1 lf gd) k0 n2 i2 s2 = xm_gr (xm_i1 lf gd) k0 k0 0 (xf_fill (fun _ => nI 0) 169 0 st)) → lv_has ls 6 [(0, .ref m0), (1, .int (nI k0)), (2, .int (nI i2))] → va_P D xn_cl [(m0, .inr (6, [.int cd, .int (nI gc), .int (nI dc), .ref m1, .ref m2, .ref m3, .ref m4, .ref m5, .ref m6, .ref m7, .ref m8, .ref m9, .ref m10])), (m5, .inl (cZ, 169, .inl (xf_z gd))), (m7, .inl (cZ, 169, .inl (xf_z c2))), (m8, .inl (cI, 169, .inl s2)), (m9, .inl (cZ, 13, .inl (xf_z lf)))] H → va_D A [(m0, .inr (6, [.int cd, .int (nI gc), .int (nI dc), .ref m1, .ref m2, .ref m3, .ref m4, .ref m5, .ref m6, .ref m7, .ref m8, .ref m9, .ref m10])), (m5, .inl (cZ, 169, .inl (xf_z gd))), (m7, .inl (cZ, 169, .inl (xf_z c2))), (m8, .inl (cI, 169, .inl s2)), (m9, .inl (cZ, 13, .inl (xf_z lf)))] → va_S A s.heap H locs → W p l e (xc_rm 1 0 0) s m args below meth c H locs 0 0 Q (F0 m 31 ls []) := by
        intro n2
        induction n2 with
        | zero =>
          intro i2 c2 s2 ls H locs hi31 hc2 hs2 hl hP hD hS
          refine lv_iload_n hx hb xj_M_link_31 rfl (lv_at hl 2 rfl) ?_
          refine lv_iload_n hx hb xj_M_link_32 rfl (lv_at hl 1 rfl) ?_
          refine xr_ge (tgt := 128) hx hb (by omega) (by omega) xj_M_link_33 rfl (fun h33 => ?_) (fun h33 => absurd h33 (by omega))
          refine lv_iconst (v := nI 1) hx hb xj_M_link_128 (by decide) ?_
          refine lv_istore_n (lv' := [(2, .int (nI 1)), (0, .ref m0), (1, .int (nI k0))]) hx hb xj_M_link_129 rfl hl (by decide) rfl (fun ls hl => ?_)
          refine lv_iconst (v := nI 2) hx hb xj_M_link_130 (by decide) ?_
          refine lv_istore_n (lv' := [(3, .int (nI 2)), (2, .int (nI 1)), (0, .ref m0), (1, .int (nI k0))]) hx hb xj_M_link_131 rfl hl (by decide) rfl (fun ls hl => ?_)
          have loop132 : ∀ (n3 : Nat) (i3 : Nat) (mo : Bool) (c4 : Nat → Bool) (s4 : Nat → Int32) (ls : Array Slot) (H : Heap) (locs : List Loc), i3 + n3 = k0 + 2 → (xm_ln k0 lf gd (k0 + 1 - i3) i3 (c4, s4, mo) = xm_K k0 lf gd ch st) → (2 ≤ i3) → lv_has ls 6 [(0, .ref m0), (1, .int (nI k0)), (2, .int (xf_bI mo)), (3, .int (nI i3))] → va_P D xn_cl [(m0, .inr (6, [.int cd, .int (nI gc), .int (nI dc), .ref m1, .ref m2, .ref m3, .ref m4, .ref m5, .ref m6, .ref m7, .ref m8, .ref m9, .ref m10])), (m5, .inl (cZ, 169, .inl (xf_z gd))), (m7, .inl (cZ, 169, .inl (xf_z c4))), (m8, .inl (cI, 169, .inl s4)), (m9, .inl (cZ, 13, .inl (xf_z lf)))] H → va_D A [(m0, .inr (6, [.int cd, .int (nI gc), .int (nI dc), .ref m1, .ref m2, .ref m3, .ref m4, .ref m5, .ref m6, .ref m7, .ref m8, .ref m9, .ref m10])), (m5, .inl (cZ, 169, .inl (xf_z gd))), (m7, .inl (cZ, 169, .inl (xf_z c4))), (m8, .inl (cI, 169, .inl s4)), (m9, .inl (cZ, 13, .inl (xf_z lf)))] → va_S A s.heap H locs → W p l e (xc_rm 1 0 0) s m args below meth c H locs 0 0 Q (F0 m 132 ls []) := by
            intro n3
            induction n3 with
            | zero =>
              intro i3 mo c4 s4 ls H locs hi132 hr h2i hl hP hD hS
              refine lv_iload_n hx hb xj_M_link_132 rfl (lv_at hl 3 rfl) ?_
              refine lv_iload_n hx hb xj_M_link_133 rfl (lv_at hl 1 rfl) ?_
              refine xr_gt (tgt := 221) hx hb (by omega) (by omega) xj_M_link_134 rfl (fun h134 => ?_) (fun h134 => absurd h134 (by omega))
              have e8 : (c4, s4, mo) = xm_K k0 lf gd ch st := (xm_ln_0 (x := (c4, s4, mo)) (Or.inr (by omega))).symm.trans hr
              obtain rfl : c4 = (xm_K k0 lf gd ch st).1 := congrArg Prod.fst e8
              obtain rfl : s4 = (xm_K k0 lf gd ch st).2.1 := congrArg (fun z => z.2.1) e8
              exact hret (()) H locs _ ls trivial hP hD hS xj_M_link_221
            | succ n3 ih132 =>
              intro i3 mo c4 s4 ls H locs hi132 hr h2i hl hP hD hS
              refine lv_iload_n hx hb xj_M_link_132 rfl (lv_at hl 3 rfl) ?_
              refine lv_iload_n hx hb xj_M_link_133 rfl (lv_at hl 1 rfl) ?_
              refine xr_gt (tgt := 221) hx hb (by omega) (by omega) xj_M_link_134 rfl (fun h134 => ?_) (fun h134 => ?_)
              · -- 221
                have e8 : (c4, s4, mo) = xm_K k0 lf gd ch st := (xm_ln_0 (x := (c4, s4, mo)) (Or.inr (by omega))).symm.trans hr
                obtain rfl : c4 = (xm_K k0 lf gd ch st).1 := congrArg Prod.fst e8
                obtain rfl : s4 = (xm_K k0 lf gd ch st).2.1 := congrArg (fun z => z.2.1) e8
                exact hret (()) H locs _ ls trivial hP hD hS xj_M_link_221
              · -- 137
                refine lv_iload_n hx hb xj_M_link_137 rfl (lv_at hl 2 rfl) ?_
                refine xr_ifeq (tgt := 221) hx hb xj_M_link_138 rfl (fun h138 => ?_) (fun h138 => ?_)
                · -- 221
                  have e8 : (c4, s4, mo) = xm_K k0 lf gd ch st := (xm_ln_0 (x := (c4, s4, mo)) (Or.inl h138)).symm.trans hr
                  obtain rfl : c4 = (xm_K k0 lf gd ch st).1 := congrArg Prod.fst e8
                  obtain rfl : s4 = (xm_K k0 lf gd ch st).2.1 := congrArg (fun z => z.2.1) e8
                  exact hret (()) H locs _ ls trivial hP hD hS xj_M_link_221
                · -- 141
                  refine lv_iconst (v := nI 0) hx hb xj_M_link_141 (by decide) ?_
                  refine lv_istore_n (lv' := [(2, .int (nI 0)), (0, .ref m0), (1, .int (nI k0)), (3, .int (nI i3))]) hx hb xj_M_link_142 rfl hl (by decide) rfl (fun ls hl => ?_)
                  refine lv_iconst (v := nI 0) hx hb xj_M_link_143 (by decide) ?_
                  refine lv_istore (lv' := [(4, .int (nI 0)), (2, .int (nI 0)), (0, .ref m0), (1, .int (nI k0)), (3, .int (nI i3))]) hx hb xj_M_link_144 hl (by decide) rfl (fun ls hl => ?_)
                  have loop146 : ∀ (n4 : Nat) (i4 : Nat) (mo5 : Bool) (c5 : Nat → Bool) (s5 : Nat → Int32) (ls : Array Slot) (H : Heap) (locs : List Loc), i4 + n4 = k0 → (xm_ls k0 lf gd i3 n4 i4 (c5, s5, mo5) = xm_ls k0 lf gd i3 k0 0 (c4, s4, false)) → lv_has ls 6 [(0, .ref m0), (1, .int (nI k0)), (2, .int (xf_bI mo5)), (3, .int (nI i3)), (4, .int (nI i4))] → va_P D xn_cl [(m0, .inr (6, [.int cd, .int (nI gc), .int (nI dc), .ref m1, .ref m2, .ref m3, .ref m4, .ref m5, .ref m6, .ref m7, .ref m8, .ref m9, .ref m10])), (m5, .inl (cZ, 169, .inl (xf_z gd))), (m7, .inl (cZ, 169, .inl (xf_z c5))), (m8, .inl (cI, 169, .inl s5)), (m9, .inl (cZ, 13, .inl (xf_z lf)))] H → va_D A [(m0, .inr (6, [.int cd, .int (nI gc), .int (nI dc), .ref m1, .ref m2, .ref m3, .ref m4, .ref m5, .ref m6, .ref m7, .ref m8, .ref m9, .ref m10])), (m5, .inl (cZ, 169, .inl (xf_z gd))), (m7, .inl (cZ, 169, .inl (xf_z c5))), (m8, .inl (cI, 169, .inl s5)), (m9, .inl (cZ, 13, .inl (xf_z lf)))] → va_S A s.heap H locs → W p l e (xc_rm 1 0 0) s m args below meth c H locs 0 0 Q (F0 m 146 ls []) := by
                    intro n4
                    induction n4 with
                    | zero =>
                      intro i4 mo5 c5 s5 ls H locs hi146 hq4 hl hP hD hS
                      refine lv_iload hx hb xj_M_link_146 (lv_at hl 4 rfl) ?_
                      refine lv_iload_n hx hb xj_M_link_148 rfl (lv_at hl 1 rfl) ?_
                      refine xr_ge (tgt := 215) hx hb (by omega) (by omega) xj_M_link_149 rfl (fun h149 => ?_) (fun h149 => absurd h149 (by omega))
                      refine lv_iinc (k := 3) (v := nI (i3 + 1)) (lv' := [(3, .int (nI (i3 + 1))), (0, .ref m0), (1, .int (nI k0)), (2, .int (xf_bI mo5)), (4, .int (nI i4))]) hx hb xj_M_link_215 hl rfl (xr_inc _) (by decide) rfl (fun ls hl => ?_)
                      refine lv_goto (tgt := 132) hx hb xj_M_link_218 rfl ?_
                      exact ih132 (i3 + 1) mo5 c5 s5 ls _ _ (by omega) (by rw [show (c5, s5, mo5) = _ from hq4]; exact (xm_ln_1 h138 (by omega)).symm.trans hr) (by omega) (lv_sub hl [1, 2, 3, 0] rfl) hP hD hS
                    | succ n4 ih146 =>
                      intro i4 mo5 c5 s5 ls H locs hi146 hq4 hl hP hD hS
                      refine lv_iload hx hb xj_M_link_146 (lv_at hl 4 rfl) ?_
                      refine lv_iload_n hx hb xj_M_link_148 rfl (lv_at hl 1 rfl) ?_
                      refine xr_ge (tgt := 215) hx hb (by omega) (by omega) xj_M_link_149 rfl (fun h149 => absurd h149 (by omega)) (fun h149 => ?_)
                      refine lv_iconst (v := nI 0) hx hb xj_M_link_152 (by decide) ?_
                      refine lv_istore (lv' := [(5, .int (nI 0)), (0, .ref m0), (1, .int (nI k0)), (2, .int (xf_bI mo5)), (3, .int (nI i3)), (4, .int (nI i4))]) hx hb xj_M_link_153 hl (by decide) rfl (fun ls hl => ?_)
                      have loop155 : ∀ (n5 : Nat) (i5 : Nat) (mo6 : Bool) (c6 : Nat → Bool) (s6 : Nat → Int32) (ls : Array Slot) (H : Heap) (locs : List Loc), i5 + n5 = k0 → (xm_lu k0 lf gd i4 i3 n5 i5 (c6, s6, mo6) = xm_lu k0 lf gd i4 i3 k0 0 (c5, s5, mo5)) → lv_has ls 6 [(0, .ref m0), (1, .int (nI k0)), (2, .int (xf_bI mo6)), (3, .int (nI i3)), (4, .int (nI i4)), (5, .int (nI i5))] → va_P D xn_cl [(m0, .inr (6, [.int cd, .int (nI gc), .int (nI dc), .ref m1, .ref m2, .ref m3, .ref m4, .ref m5, .ref m6, .ref m7, .ref m8, .ref m9, .ref m10])), (m5, .inl (cZ, 169, .inl (xf_z gd))), (m7, .inl (cZ, 169, .inl (xf_z c6))), (m8, .inl (cI, 169, .inl s6)), (m9, .inl (cZ, 13, .inl (xf_z lf)))] H → va_D A [(m0, .inr (6, [.int cd, .int (nI gc), .int (nI dc), .ref m1, .ref m2, .ref m3, .ref m4, .ref m5, .ref m6, .ref m7, .ref m8, .ref m9, .ref m10])), (m5, .inl (cZ, 169, .inl (xf_z gd))), (m7, .inl (cZ, 169, .inl (xf_z c6))), (m8, .inl (cI, 169, .inl s6)), (m9, .inl (cZ, 13, .inl (xf_z lf)))] → va_S A s.heap H locs → W p l e (xc_rm 1 0 0) s m args below meth c H locs 0 0 Q (F0 m 155 ls []) := by
                        intro n5
                        induction n5 with
                        | zero =>
                          intro i5 mo6 c6 s6 ls H locs hi155 hq5 hl hP hD hS
                          refine lv_iload hx hb xj_M_link_155 (lv_at hl 5 rfl) ?_
                          refine lv_iload_n hx hb xj_M_link_157 rfl (lv_at hl 1 rfl) ?_
                          refine xr_ge (tgt := 209) hx hb (by omega) (by omega) xj_M_link_158 rfl (fun h158 => ?_) (fun h158 => absurd h158 (by omega))
                          refine lv_iinc (k := 4) (v := nI (i4 + 1)) (lv' := [(4, .int (nI (i4 + 1))), (0, .ref m0), (1, .int (nI k0)), (2, .int (xf_bI mo6)), (3, .int (nI i3)), (5, .int (nI i5))]) hx hb xj_M_link_209 hl rfl (xr_inc _) (by decide) rfl (fun ls hl => ?_)
                          refine lv_goto (tgt := 146) hx hb xj_M_link_212 rfl ?_
                          exact ih146 (i4 + 1) mo6 c6 s6 ls _ _ (by omega) (by rw [show (c6, s6, mo6) = _ from hq5]; exact hq4) (lv_sub hl [1, 2, 3, 4, 0] rfl) hP hD hS
                        | succ n5 ih155 =>
                          intro i5 mo6 c6 s6 ls H locs hi155 hq5 hl hP hD hS
                          refine lv_iload hx hb xj_M_link_155 (lv_at hl 5 rfl) ?_
                          refine lv_iload_n hx hb xj_M_link_157 rfl (lv_at hl 1 rfl) ?_
                          refine xr_ge (tgt := 209) hx hb (by omega) (by omega) xj_M_link_158 rfl (fun h158 => absurd h158 (by omega)) (fun h158 => ?_)
                          refine lv_aload_n hx hb xj_M_link_161 rfl (lv_at hl 0 rfl) ?_
                          refine va_get (D := D) (ci := 6) (v := .ref m8) (C := xn_M) (T := xn_TM) (N := 13) hx hb hgs xw_uM hown hK.1 hP 0 rfl rfl 10 (by decide) (hgs _ xw_540) (fun _ h9 => h9) rfl xj_M_link_162 ?_
                          refine lv_bipush (v := nI 13) hx hb xj_M_link_165 (by decide) ?_
                          refine lv_iload hx hb xj_M_link_167 (lv_at hl 4 rfl) ?_
                          refine xr_imul hx hb xj_M_link_169 ?_
                          refine lv_iload hx hb xj_M_link_170 (lv_at hl 5 rfl) ?_
                          refine xr_iadd hx hb xj_M_link_172 ?_
                          refine xr_iald hx hb hK.1 hP 3 0 rfl rfl (by omega) (by decide) xj_M_link_173 ?_
                          refine lv_iload_n hx hb xj_M_link_174 rfl (lv_at hl 3 rfl) ?_
                          refine lv_iconst (v := nI 1) hx hb xj_M_link_175 (by decide) ?_
                          refine xr_isub hx hb (by omega) xj_M_link_176 ?_
                          refine lv_icmp_ne (tgt := 203) hx hb xj_M_link_177 rfl (fun h177 => ?_) (fun h177 => ?_)
                          · -- 203
                            refine lv_iinc (k := 5) (v := nI (i5 + 1)) (lv' := [(5, .int (nI (i5 + 1))), (0, .ref m0), (1, .int (nI k0)), (2, .int (xf_bI mo6)), (3, .int (nI i3)), (4, .int (nI i4))]) hx hb xj_M_link_203 hl rfl (xr_inc _) (by decide) rfl (fun ls hl => ?_)
                            refine lv_goto (tgt := 155) hx hb xj_M_link_206 rfl ?_
                            exact ih155 (i5 + 1) mo6 c6 s6 ls _ _ (by omega) ((xm_lu_0 (x := (c6, s6, mo6)) h177).symm.trans hq5) (lv_sub hl [1, 2, 3, 4, 5, 0] rfl) hP hD hS
                          · -- 180
                            refine lv_aload_n hx hb xj_M_link_180 rfl (lv_at hl 0 rfl) ?_
                            refine lv_iload_n hx hb xj_M_link_181 rfl (lv_at hl 1 rfl) ?_
                            refine lv_iload hx hb xj_M_link_182 (lv_at hl 4 rfl) ?_
                            refine lv_iload hx hb xj_M_link_184 (lv_at hl 5 rfl) ?_
                            refine lv_iload_n hx hb xj_M_link_186 rfl (lv_at hl 3 rfl) ?_
                            refine xc_wVi (av := [.int (nI k0), .int (nI i4), .int (nI i5), .int (nI i3)]) (rest := []) (wr := []) hAt hT (xt_M_further l D cI cZ cJ m0 m1 m2 m3 m4 m5 m6 m7 m8 m9 m10 cd gc dc gd c6 s6 lf k0 i4 i5 i3 (by omega) (by omega) (by omega)) xw_630 xw_7 xw_633 xw_632 xs_M_further (C0 := xn_M) (q0 := 0) rfl rfl (na := 4) rfl (by decide +kernel) ⟨Nat.le_of_ble_eq_true rfl, Nat.le_of_ble_eq_true rfl⟩ hP hD hS hA [0, 1, 2, 3, 4] [] rfl rfl (by decide) (by decide) (by decide) hK hl.1 (Nat.le_of_ble_eq_true rfl) ⟨Nat.zero_le _, Nat.zero_le _⟩ xj_M_link_187 (fun r187 _ H locs hr187 hP hD hS => ?_)
                            obtain rfl : r187 = xf_bI ((xm_fu lf gd i4 i5 i3 k0 0 (c6, s6, false)).2.2) := hr187
                            have hP : va_P D xn_cl [(m0, .inr (6, [.int cd, .int (nI gc), .int (nI dc), .ref m1, .ref m2, .ref m3, .ref m4, .ref m5, .ref m6, .ref m7, .ref m8, .ref m9, .ref m10])), (m5, .inl (cZ, 169, .inl (xf_z gd))), (m7, .inl (cZ, 169, .inl (xf_z ((xm_fu lf gd i4 i5 i3 k0 0 (c6, s6, false)).1)))), (m8, .inl (cI, 169, .inl ((xm_fu lf gd i4 i5 i3 k0 0 (c6, s6, false)).2.1))), (m9, .inl (cZ, 13, .inl (xf_z lf)))] H := hP
                            have hD : va_D A [(m0, .inr (6, [.int cd, .int (nI gc), .int (nI dc), .ref m1, .ref m2, .ref m3, .ref m4, .ref m5, .ref m6, .ref m7, .ref m8, .ref m9, .ref m10])), (m5, .inl (cZ, 169, .inl (xf_z gd))), (m7, .inl (cZ, 169, .inl (xf_z ((xm_fu lf gd i4 i5 i3 k0 0 (c6, s6, false)).1)))), (m8, .inl (cI, 169, .inl ((xm_fu lf gd i4 i5 i3 k0 0 (c6, s6, false)).2.1))), (m9, .inl (cZ, 13, .inl (xf_z lf)))] := hD
                            refine xr_ifne (tgt := 197) hx hb xj_M_link_190 rfl (fun h190 => ?_) (fun h190 => ?_)
                            · -- 197
                              refine lv_iconst (v := nI 1) hx hb xj_M_link_197 (by decide) ?_
                              refine lv_goto (tgt := 202) hx hb xj_M_link_198 rfl ?_
                              refine lv_istore_n (lv' := [(2, .int (nI 1)), (0, .ref m0), (1, .int (nI k0)), (3, .int (nI i3)), (4, .int (nI i4)), (5, .int (nI i5))]) hx hb xj_M_link_202 rfl hl (by decide) rfl (fun ls hl => ?_)
                              refine lv_iinc (k := 5) (v := nI (i5 + 1)) (lv' := [(5, .int (nI (i5 + 1))), (2, .int (nI 1)), (0, .ref m0), (1, .int (nI k0)), (3, .int (nI i3)), (4, .int (nI i4))]) hx hb xj_M_link_203 hl rfl (xr_inc _) (by decide) rfl (fun ls hl => ?_)
                              refine lv_goto (tgt := 155) hx hb xj_M_link_206 rfl ?_
                              exact ih155 (i5 + 1) true (((xm_fu lf gd i4 i5 i3 k0 0 (c6, s6, false)).1)) ((xm_fu lf gd i4 i5 i3 k0 0 (c6, s6, false)).2.1) ls _ _ (by omega) ((xm_lu_1 h177 (by rw [h190]; rfl)).symm.trans hq5) (lv_sub hl [2, 3, 1, 4, 5, 0] rfl) hP hD hS
                            · -- 193
                              refine lv_iload_n hx hb xj_M_link_193 rfl (lv_at hl 2 rfl) ?_
                              refine xr_ifeq (tgt := 201) hx hb xj_M_link_194 rfl (fun h194 => ?_) (fun h194 => ?_)
                              · -- 201
                                refine lv_iconst (v := nI 0) hx hb xj_M_link_201 (by decide) ?_
                                refine lv_istore_n (lv' := [(2, .int (nI 0)), (0, .ref m0), (1, .int (nI k0)), (3, .int (nI i3)), (4, .int (nI i4)), (5, .int (nI i5))]) hx hb xj_M_link_202 rfl hl (by decide) rfl (fun ls hl => ?_)
                                refine lv_iinc (k := 5) (v := nI (i5 + 1)) (lv' := [(5, .int (nI (i5 + 1))), (2, .int (nI 0)), (0, .ref m0), (1, .int (nI k0)), (3, .int (nI i3)), (4, .int (nI i4))]) hx hb xj_M_link_203 hl rfl (xr_inc _) (by decide) rfl (fun ls hl => ?_)
                                refine lv_goto (tgt := 155) hx hb xj_M_link_206 rfl ?_
                                exact ih155 (i5 + 1) false (((xm_fu lf gd i4 i5 i3 k0 0 (c6, s6, false)).1)) ((xm_fu lf gd i4 i5 i3 k0 0 (c6, s6, false)).2.1) ls _ _ (by omega) ((xm_lu_1 h177 (by rw [h190, h194]; rfl)).symm.trans hq5) (lv_sub hl [2, 3, 1, 4, 5, 0] rfl) hP hD hS
                              · -- 197
                                refine lv_iconst (v := nI 1) hx hb xj_M_link_197 (by decide) ?_
                                refine lv_goto (tgt := 202) hx hb xj_M_link_198 rfl ?_
                                refine lv_istore_n (lv' := [(2, .int (nI 1)), (0, .ref m0), (1, .int (nI k0)), (3, .int (nI i3)), (4, .int (nI i4)), (5, .int (nI i5))]) hx hb xj_M_link_202 rfl hl (by decide) rfl (fun ls hl => ?_)
                                refine lv_iinc (k := 5) (v := nI (i5 + 1)) (lv' := [(5, .int (nI (i5 + 1))), (2, .int (nI 1)), (0, .ref m0), (1, .int (nI k0)), (3, .int (nI i3)), (4, .int (nI i4))]) hx hb xj_M_link_203 hl rfl (xr_inc _) (by decide) rfl (fun ls hl => ?_)
                                refine lv_goto (tgt := 155) hx hb xj_M_link_206 rfl ?_
                                exact ih155 (i5 + 1) true (((xm_fu lf gd i4 i5 i3 k0 0 (c6, s6, false)).1)) ((xm_fu lf gd i4 i5 i3 k0 0 (c6, s6, false)).2.1) ls _ _ (by omega) ((xm_lu_1 h177 (by rw [h190, h194]; rfl)).symm.trans hq5) (lv_sub hl [2, 3, 1, 4, 5, 0] rfl) hP hD hS
                      exact loop155 k0 0 mo5 c5 s5 ls _ _ (by omega) rfl (lv_sub hl [1, 2, 3, 4, 5, 0] rfl) hP hD hS
                  exact loop146 k0 0 false c4 s4 ls _ _ (by omega) rfl (lv_sub hl [2, 3, 1, 4, 0] rfl) hP hD hS
          exact loop132 k0 2 true c2 s2 ls _ _ (by omega) (by rw [show c2 = _ from hc2, show s2 = _ from hs2]; rfl) (Nat.le_refl 2) (lv_sub hl [2, 3, 1, 0] rfl) hP hD hS
        | succ n2 ih31 =>
          intro i2 c2 s2 ls H locs hi31 hc2 hs2 hl hP hD hS
          refine lv_iload_n hx hb xj_M_link_31 rfl (lv_at hl 2 rfl) ?_
          refine lv_iload_n hx hb xj_M_link_32 rfl (lv_at hl 1 rfl) ?_
          refine xr_ge (tgt := 128) hx hb (by omega) (by omega) xj_M_link_33 rfl (fun h33 => absurd h33 (by omega)) (fun h33 => ?_)
          refine lv_iconst (v := nI 0) hx hb xj_M_link_36 (by decide) ?_
          refine lv_istore_n (lv' := [(3, .int (nI 0)), (0, .ref m0), (1, .int (nI k0)), (2, .int (nI i2))]) hx hb xj_M_link_37 rfl hl (by decide) rfl (fun ls hl => ?_)
          have loop38 : ∀ (k : Nat) (j : Nat) (c3 : Nat → Bool) (s3 : Nat → Int32) (ls : Array Slot) (H : Heap) (locs : List Loc), j + k = k0 → (xm_f2 (xm_is lf gd i2) (13 * i2) k j c3 = xm_f2 (xm_is lf gd i2) (13 * i2) k0 0 c2) → (xf_f2 (xm_i1 lf gd i2) (13 * i2) k j s3 = xf_f2 (xm_i1 lf gd i2) (13 * i2) k0 0 s2) → lv_has ls 6 [(0, .ref m0), (1, .int (nI k0)), (2, .int (nI i2)), (3, .int (nI j))] → va_P D xn_cl [(m0, .inr (6, [.int cd, .int (nI gc), .int (nI dc), .ref m1, .ref m2, .ref m3, .ref m4, .ref m5, .ref m6, .ref m7, .ref m8, .ref m9, .ref m10])), (m5, .inl (cZ, 169, .inl (xf_z gd))), (m7, .inl (cZ, 169, .inl (xf_z c3))), (m8, .inl (cI, 169, .inl s3)), (m9, .inl (cZ, 13, .inl (xf_z lf)))] H → va_D A [(m0, .inr (6, [.int cd, .int (nI gc), .int (nI dc), .ref m1, .ref m2, .ref m3, .ref m4, .ref m5, .ref m6, .ref m7, .ref m8, .ref m9, .ref m10])), (m5, .inl (cZ, 169, .inl (xf_z gd))), (m7, .inl (cZ, 169, .inl (xf_z c3))), (m8, .inl (cI, 169, .inl s3)), (m9, .inl (cZ, 13, .inl (xf_z lf)))] → va_S A s.heap H locs → W p l e (xc_rm 1 0 0) s m args below meth c H locs 0 0 Q (F0 m 38 ls []) := by
            intro k
            induction k with
            | zero =>
              intro j c3 s3 ls H locs hi38 hc3 hs3 hl hP hD hS
              refine lv_iload_n hx hb xj_M_link_38 rfl (lv_at hl 3 rfl) ?_
              refine lv_iload_n hx hb xj_M_link_39 rfl (lv_at hl 1 rfl) ?_
              refine xr_ge (tgt := 122) hx hb (by omega) (by omega) xj_M_link_40 rfl (fun h40 => ?_) (fun h40 => absurd h40 (by omega))
              refine lv_iinc (k := 2) (v := nI (i2 + 1)) (lv' := [(2, .int (nI (i2 + 1))), (0, .ref m0), (1, .int (nI k0)), (3, .int (nI j))]) hx hb xj_M_link_122 hl rfl (xr_inc _) (by decide) rfl (fun ls hl => ?_)
              refine lv_goto (tgt := 31) hx hb xj_M_link_125 rfl ?_
              exact ih31 (i2 + 1) c3 s3 ls _ _ (by omega) (by rw [show c3 = _ from hc3]; exact hc2) (by rw [show s3 = _ from hs3]; exact hs2) (lv_sub hl [1, 2, 0] rfl) hP hD hS
            | succ k ih38 =>
              intro j c3 s3 ls H locs hi38 hc3 hs3 hl hP hD hS
              refine lv_iload_n hx hb xj_M_link_38 rfl (lv_at hl 3 rfl) ?_
              refine lv_iload_n hx hb xj_M_link_39 rfl (lv_at hl 1 rfl) ?_
              refine xr_ge (tgt := 122) hx hb (by omega) (by omega) xj_M_link_40 rfl (fun h40 => absurd h40 (by omega)) (fun h40 => ?_)
              refine lv_aload_n hx hb xj_M_link_43 rfl (lv_at hl 0 rfl) ?_
              refine va_get (D := D) (ci := 6) (v := .ref m9) (C := xn_M) (T := xn_TM) (N := 13) hx hb hgs xw_uM hown hK.1 hP 0 rfl rfl 11 (by decide) (hgs _ xw_541) (fun _ h9 => h9) rfl xj_M_link_44 ?_
              refine lv_iload_n hx hb xj_M_link_47 rfl (lv_at hl 2 rfl) ?_
              refine xr_zald hx hb hK.1 hP 4 1 rfl rfl (by omega) (by decide) xj_M_link_48 ?_
              refine xr_top (y := xf_bI (lf i2)) rfl ?_
              refine xr_ifeq (tgt := 79) hx hb xj_M_link_49 rfl (fun h49 => ?_) (fun h49 => ?_)
              · -- 79
                refine lv_iconst (v := nI 0) hx hb xj_M_link_79 (by decide) ?_
                refine lv_istore (lv' := [(4, .int (nI 0)), (0, .ref m0), (1, .int (nI k0)), (2, .int (nI i2)), (3, .int (nI j))]) hx hb xj_M_link_80 hl (by decide) rfl (fun ls hl => ?_)
                refine lv_aload_n hx hb xj_M_link_82 rfl (lv_at hl 1 rfl) ?_
                refine va_get (D := D) (ci := 6) (v := .ref m7) (C := xn_M) (T := xn_TM) (N := 13) hx hb hgs xw_uM hown hK.1 hP 0 rfl rfl 9 (by decide) (hgs _ xw_539) (fun _ h9 => h9) rfl xj_M_link_83 ?_
                refine lv_bipush (v := nI 13) hx hb xj_M_link_86 (by decide) ?_
                refine lv_iload_n hx hb xj_M_link_88 rfl (lv_at hl 3 rfl) ?_
                refine xr_imul hx hb xj_M_link_89 ?_
                refine lv_iload_n hx hb xj_M_link_90 rfl (lv_at hl 4 rfl) ?_
                refine xr_iadd hx hb xj_M_link_91 ?_
                refine lv_iload hx hb xj_M_link_92 (lv_at hl 0 rfl) ?_
                refine xr_topz (b := false) rfl ?_
                refine xr_zast hx hb hK.1 hP hD hS 2 1 rfl rfl (by omega) (by decide) xj_M_link_94 (fun H locs hP hD hS => ?_)
                rw [xf_z_up] at hP hD
                have hP : va_P D xn_cl [(m0, .inr (6, [.int cd, .int (nI gc), .int (nI dc), .ref m1, .ref m2, .ref m3, .ref m4, .ref m5, .ref m6, .ref m7, .ref m8, .ref m9, .ref m10])), (m5, .inl (cZ, 169, .inl (xf_z gd))), (m7, .inl (cZ, 169, .inl (xf_z (va_up c3 ((13 * i2) + j) false)))), (m8, .inl (cI, 169, .inl s3)), (m9, .inl (cZ, 13, .inl (xf_z lf)))] H := hP
                have hD : va_D A [(m0, .inr (6, [.int cd, .int (nI gc), .int (nI dc), .ref m1, .ref m2, .ref m3, .ref m4, .ref m5, .ref m6, .ref m7, .ref m8, .ref m9, .ref m10])), (m5, .inl (cZ, 169, .inl (xf_z gd))), (m7, .inl (cZ, 169, .inl (xf_z (va_up c3 ((13 * i2) + j) false)))), (m8, .inl (cI, 169, .inl s3)), (m9, .inl (cZ, 13, .inl (xf_z lf)))] := hD
                refine lv_aload_n hx hb xj_M_link_95 rfl (lv_at hl 1 rfl) ?_
                refine va_get (D := D) (ci := 6) (v := .ref m8) (C := xn_M) (T := xn_TM) (N := 13) hx hb hgs xw_uM hown hK.1 hP 0 rfl rfl 10 (by decide) (hgs _ xw_540) (fun _ h9 => h9) rfl xj_M_link_96 ?_
                refine lv_bipush (v := nI 13) hx hb xj_M_link_99 (by decide) ?_
                refine lv_iload_n hx hb xj_M_link_101 rfl (lv_at hl 3 rfl) ?_
                refine xr_imul hx hb xj_M_link_102 ?_
                refine lv_iload_n hx hb xj_M_link_103 rfl (lv_at hl 4 rfl) ?_
                refine xr_iadd hx hb xj_M_link_104 ?_
                refine lv_iload hx hb xj_M_link_105 (lv_at hl 0 rfl) ?_
                refine xr_ifeqN (tgt := 114) hx hb (by omega) xj_M_link_107 rfl (fun h107 => ?_) (fun h107 => absurd h107 (by omega))
                refine lv_iconst (v := nI 0) hx hb xj_M_link_114 (by decide) ?_
                refine xr_iast hx hb hK.1 hP hD hS 3 0 rfl rfl (by omega) (by decide) xj_M_link_115 (fun H locs hP hD hS => ?_)
                have hP : va_P D xn_cl [(m0, .inr (6, [.int cd, .int (nI gc), .int (nI dc), .ref m1, .ref m2, .ref m3, .ref m4, .ref m5, .ref m6, .ref m7, .ref m8, .ref m9, .ref m10])), (m5, .inl (cZ, 169, .inl (xf_z gd))), (m7, .inl (cZ, 169, .inl (xf_z (va_up c3 ((13 * i2) + j) false)))), (m8, .inl (cI, 169, .inl (upd s3 ((13 * i2) + j) (nI 0)))), (m9, .inl (cZ, 13, .inl (xf_z lf)))] H := hP
                have hD : va_D A [(m0, .inr (6, [.int cd, .int (nI gc), .int (nI dc), .ref m1, .ref m2, .ref m3, .ref m4, .ref m5, .ref m6, .ref m7, .ref m8, .ref m9, .ref m10])), (m5, .inl (cZ, 169, .inl (xf_z gd))), (m7, .inl (cZ, 169, .inl (xf_z (va_up c3 ((13 * i2) + j) false)))), (m8, .inl (cI, 169, .inl (upd s3 ((13 * i2) + j) (nI 0)))), (m9, .inl (cZ, 13, .inl (xf_z lf)))] := hD
                refine lv_iinc (k := 4) (v := nI (j + 1)) (lv' := [(3, .int (nI (j + 1))), (4, .int (nI 0)), (0, .ref m0), (1, .int (nI k0)), (2, .int (nI i2))]) hx hb xj_M_link_116 hl rfl (xr_inc _) (by decide) rfl (fun ls hl => ?_)
                refine lv_goto (tgt := 38) hx hb xj_M_link_119 rfl ?_
                exact ih38 (j + 1) ((va_up c3 ((13 * i2) + j) false)) (upd s3 ((13 * i2) + j) (nI 0)) ls _ _ (by omega) ((xm_f2_s (f := xm_is lf gd i2) (xm_is_1 h49)).symm.trans hc3) ((xf_f2_s (f := xm_i1 lf gd i2) ((congrArg xf_bI (xm_is_1 h49)).trans xf_bI_f)).symm.trans hs3) (lv_sub hl [2, 3, 4, 0] rfl) hP hD hS
              · -- 52
                refine lv_aload_n hx hb xj_M_link_52 rfl (lv_at hl 0 rfl) ?_
                refine va_get (D := D) (ci := 6) (v := .ref m9) (C := xn_M) (T := xn_TM) (N := 13) hx hb hgs xw_uM hown hK.1 hP 0 rfl rfl 11 (by decide) (hgs _ xw_541) (fun _ h9 => h9) rfl xj_M_link_53 ?_
                refine lv_iload_n hx hb xj_M_link_56 rfl (lv_at hl 3 rfl) ?_
                refine xr_zald hx hb hK.1 hP 4 1 rfl rfl (by omega) (by decide) xj_M_link_57 ?_
                refine xr_top (y := xf_bI (lf j)) rfl ?_
                refine xr_ifeq (tgt := 79) hx hb xj_M_link_58 rfl (fun h58 => ?_) (fun h58 => ?_)
                · -- 79
                  refine lv_iconst (v := nI 0) hx hb xj_M_link_79 (by decide) ?_
                  refine lv_istore (lv' := [(4, .int (nI 0)), (0, .ref m0), (1, .int (nI k0)), (2, .int (nI i2)), (3, .int (nI j))]) hx hb xj_M_link_80 hl (by decide) rfl (fun ls hl => ?_)
                  refine lv_aload_n hx hb xj_M_link_82 rfl (lv_at hl 1 rfl) ?_
                  refine va_get (D := D) (ci := 6) (v := .ref m7) (C := xn_M) (T := xn_TM) (N := 13) hx hb hgs xw_uM hown hK.1 hP 0 rfl rfl 9 (by decide) (hgs _ xw_539) (fun _ h9 => h9) rfl xj_M_link_83 ?_
                  refine lv_bipush (v := nI 13) hx hb xj_M_link_86 (by decide) ?_
                  refine lv_iload_n hx hb xj_M_link_88 rfl (lv_at hl 3 rfl) ?_
                  refine xr_imul hx hb xj_M_link_89 ?_
                  refine lv_iload_n hx hb xj_M_link_90 rfl (lv_at hl 4 rfl) ?_
                  refine xr_iadd hx hb xj_M_link_91 ?_
                  refine lv_iload hx hb xj_M_link_92 (lv_at hl 0 rfl) ?_
                  refine xr_topz (b := false) rfl ?_
                  refine xr_zast hx hb hK.1 hP hD hS 2 1 rfl rfl (by omega) (by decide) xj_M_link_94 (fun H locs hP hD hS => ?_)
                  rw [xf_z_up] at hP hD
                  have hP : va_P D xn_cl [(m0, .inr (6, [.int cd, .int (nI gc), .int (nI dc), .ref m1, .ref m2, .ref m3, .ref m4, .ref m5, .ref m6, .ref m7, .ref m8, .ref m9, .ref m10])), (m5, .inl (cZ, 169, .inl (xf_z gd))), (m7, .inl (cZ, 169, .inl (xf_z (va_up c3 ((13 * i2) + j) false)))), (m8, .inl (cI, 169, .inl s3)), (m9, .inl (cZ, 13, .inl (xf_z lf)))] H := hP
                  have hD : va_D A [(m0, .inr (6, [.int cd, .int (nI gc), .int (nI dc), .ref m1, .ref m2, .ref m3, .ref m4, .ref m5, .ref m6, .ref m7, .ref m8, .ref m9, .ref m10])), (m5, .inl (cZ, 169, .inl (xf_z gd))), (m7, .inl (cZ, 169, .inl (xf_z (va_up c3 ((13 * i2) + j) false)))), (m8, .inl (cI, 169, .inl s3)), (m9, .inl (cZ, 13, .inl (xf_z lf)))] := hD
                  refine lv_aload_n hx hb xj_M_link_95 rfl (lv_at hl 1 rfl) ?_
                  refine va_get (D := D) (ci := 6) (v := .ref m8) (C := xn_M) (T := xn_TM) (N := 13) hx hb hgs xw_uM hown hK.1 hP 0 rfl rfl 10 (by decide) (hgs _ xw_540) (fun _ h9 => h9) rfl xj_M_link_96 ?_
                  refine lv_bipush (v := nI 13) hx hb xj_M_link_99 (by decide) ?_
                  refine lv_iload_n hx hb xj_M_link_101 rfl (lv_at hl 3 rfl) ?_
                  refine xr_imul hx hb xj_M_link_102 ?_
                  refine lv_iload_n hx hb xj_M_link_103 rfl (lv_at hl 4 rfl) ?_
                  refine xr_iadd hx hb xj_M_link_104 ?_
                  refine lv_iload hx hb xj_M_link_105 (lv_at hl 0 rfl) ?_
                  refine xr_ifeqN (tgt := 114) hx hb (by omega) xj_M_link_107 rfl (fun h107 => ?_) (fun h107 => absurd h107 (by omega))
                  refine lv_iconst (v := nI 0) hx hb xj_M_link_114 (by decide) ?_
                  refine xr_iast hx hb hK.1 hP hD hS 3 0 rfl rfl (by omega) (by decide) xj_M_link_115 (fun H locs hP hD hS => ?_)
                  have hP : va_P D xn_cl [(m0, .inr (6, [.int cd, .int (nI gc), .int (nI dc), .ref m1, .ref m2, .ref m3, .ref m4, .ref m5, .ref m6, .ref m7, .ref m8, .ref m9, .ref m10])), (m5, .inl (cZ, 169, .inl (xf_z gd))), (m7, .inl (cZ, 169, .inl (xf_z (va_up c3 ((13 * i2) + j) false)))), (m8, .inl (cI, 169, .inl (upd s3 ((13 * i2) + j) (nI 0)))), (m9, .inl (cZ, 13, .inl (xf_z lf)))] H := hP
                  have hD : va_D A [(m0, .inr (6, [.int cd, .int (nI gc), .int (nI dc), .ref m1, .ref m2, .ref m3, .ref m4, .ref m5, .ref m6, .ref m7, .ref m8, .ref m9, .ref m10])), (m5, .inl (cZ, 169, .inl (xf_z gd))), (m7, .inl (cZ, 169, .inl (xf_z (va_up c3 ((13 * i2) + j) false)))), (m8, .inl (cI, 169, .inl (upd s3 ((13 * i2) + j) (nI 0)))), (m9, .inl (cZ, 13, .inl (xf_z lf)))] := hD
                  refine lv_iinc (k := 4) (v := nI (j + 1)) (lv' := [(3, .int (nI (j + 1))), (4, .int (nI 0)), (0, .ref m0), (1, .int (nI k0)), (2, .int (nI i2))]) hx hb xj_M_link_116 hl rfl (xr_inc _) (by decide) rfl (fun ls hl => ?_)
                  refine lv_goto (tgt := 38) hx hb xj_M_link_119 rfl ?_
                  exact ih38 (j + 1) ((va_up c3 ((13 * i2) + j) false)) (upd s3 ((13 * i2) + j) (nI 0)) ls _ _ (by omega) ((xm_f2_s (f := xm_is lf gd i2) (xm_is_2 h58)).symm.trans hc3) ((xf_f2_s (f := xm_i1 lf gd i2) ((congrArg xf_bI (xm_is_2 h58)).trans xf_bI_f)).symm.trans hs3) (lv_sub hl [2, 3, 4, 0] rfl) hP hD hS
                · -- 61
                  refine lv_aload_n hx hb xj_M_link_61 rfl (lv_at hl 0 rfl) ?_
                  refine va_get (D := D) (ci := 6) (v := .ref m5) (C := xn_M) (T := xn_TM) (N := 13) hx hb hgs xw_uM hown hK.1 hP 0 rfl rfl 7 (by decide) (hgs _ xw_537) (fun _ h9 => h9) rfl xj_M_link_62 ?_
                  refine lv_bipush (v := nI 13) hx hb xj_M_link_65 (by decide) ?_
                  refine lv_iload_n hx hb xj_M_link_67 rfl (lv_at hl 2 rfl) ?_
                  refine xr_imul hx hb xj_M_link_68 ?_
                  refine lv_iload_n hx hb xj_M_link_69 rfl (lv_at hl 3 rfl) ?_
                  refine xr_iadd hx hb xj_M_link_70 ?_
                  refine xr_zald hx hb hK.1 hP 1 1 rfl rfl (by omega) (by decide) xj_M_link_71 ?_
                  refine xr_top (y := xf_bI (gd ((13 * i2) + j))) rfl ?_
                  refine xr_ifeq (tgt := 79) hx hb xj_M_link_72 rfl (fun h72 => ?_) (fun h72 => ?_)
                  · -- 79
                    refine lv_iconst (v := nI 0) hx hb xj_M_link_79 (by decide) ?_
                    refine lv_istore (lv' := [(4, .int (nI 0)), (0, .ref m0), (1, .int (nI k0)), (2, .int (nI i2)), (3, .int (nI j))]) hx hb xj_M_link_80 hl (by decide) rfl (fun ls hl => ?_)
                    refine lv_aload_n hx hb xj_M_link_82 rfl (lv_at hl 1 rfl) ?_
                    refine va_get (D := D) (ci := 6) (v := .ref m7) (C := xn_M) (T := xn_TM) (N := 13) hx hb hgs xw_uM hown hK.1 hP 0 rfl rfl 9 (by decide) (hgs _ xw_539) (fun _ h9 => h9) rfl xj_M_link_83 ?_
                    refine lv_bipush (v := nI 13) hx hb xj_M_link_86 (by decide) ?_
                    refine lv_iload_n hx hb xj_M_link_88 rfl (lv_at hl 3 rfl) ?_
                    refine xr_imul hx hb xj_M_link_89 ?_
                    refine lv_iload_n hx hb xj_M_link_90 rfl (lv_at hl 4 rfl) ?_
                    refine xr_iadd hx hb xj_M_link_91 ?_
                    refine lv_iload hx hb xj_M_link_92 (lv_at hl 0 rfl) ?_
                    refine xr_topz (b := false) rfl ?_
                    refine xr_zast hx hb hK.1 hP hD hS 2 1 rfl rfl (by omega) (by decide) xj_M_link_94 (fun H locs hP hD hS => ?_)
                    rw [xf_z_up] at hP hD
                    have hP : va_P D xn_cl [(m0, .inr (6, [.int cd, .int (nI gc), .int (nI dc), .ref m1, .ref m2, .ref m3, .ref m4, .ref m5, .ref m6, .ref m7, .ref m8, .ref m9, .ref m10])), (m5, .inl (cZ, 169, .inl (xf_z gd))), (m7, .inl (cZ, 169, .inl (xf_z (va_up c3 ((13 * i2) + j) false)))), (m8, .inl (cI, 169, .inl s3)), (m9, .inl (cZ, 13, .inl (xf_z lf)))] H := hP
                    have hD : va_D A [(m0, .inr (6, [.int cd, .int (nI gc), .int (nI dc), .ref m1, .ref m2, .ref m3, .ref m4, .ref m5, .ref m6, .ref m7, .ref m8, .ref m9, .ref m10])), (m5, .inl (cZ, 169, .inl (xf_z gd))), (m7, .inl (cZ, 169, .inl (xf_z (va_up c3 ((13 * i2) + j) false)))), (m8, .inl (cI, 169, .inl s3)), (m9, .inl (cZ, 13, .inl (xf_z lf)))] := hD
                    refine lv_aload_n hx hb xj_M_link_95 rfl (lv_at hl 1 rfl) ?_
                    refine va_get (D := D) (ci := 6) (v := .ref m8) (C := xn_M) (T := xn_TM) (N := 13) hx hb hgs xw_uM hown hK.1 hP 0 rfl rfl 10 (by decide) (hgs _ xw_540) (fun _ h9 => h9) rfl xj_M_link_96 ?_
                    refine lv_bipush (v := nI 13) hx hb xj_M_link_99 (by decide) ?_
                    refine lv_iload_n hx hb xj_M_link_101 rfl (lv_at hl 3 rfl) ?_
                    refine xr_imul hx hb xj_M_link_102 ?_
                    refine lv_iload_n hx hb xj_M_link_103 rfl (lv_at hl 4 rfl) ?_
                    refine xr_iadd hx hb xj_M_link_104 ?_
                    refine lv_iload hx hb xj_M_link_105 (lv_at hl 0 rfl) ?_
                    refine xr_ifeqN (tgt := 114) hx hb (by omega) xj_M_link_107 rfl (fun h107 => ?_) (fun h107 => absurd h107 (by omega))
                    refine lv_iconst (v := nI 0) hx hb xj_M_link_114 (by decide) ?_
                    refine xr_iast hx hb hK.1 hP hD hS 3 0 rfl rfl (by omega) (by decide) xj_M_link_115 (fun H locs hP hD hS => ?_)
                    have hP : va_P D xn_cl [(m0, .inr (6, [.int cd, .int (nI gc), .int (nI dc), .ref m1, .ref m2, .ref m3, .ref m4, .ref m5, .ref m6, .ref m7, .ref m8, .ref m9, .ref m10])), (m5, .inl (cZ, 169, .inl (xf_z gd))), (m7, .inl (cZ, 169, .inl (xf_z (va_up c3 ((13 * i2) + j) false)))), (m8, .inl (cI, 169, .inl (upd s3 ((13 * i2) + j) (nI 0)))), (m9, .inl (cZ, 13, .inl (xf_z lf)))] H := hP
                    have hD : va_D A [(m0, .inr (6, [.int cd, .int (nI gc), .int (nI dc), .ref m1, .ref m2, .ref m3, .ref m4, .ref m5, .ref m6, .ref m7, .ref m8, .ref m9, .ref m10])), (m5, .inl (cZ, 169, .inl (xf_z gd))), (m7, .inl (cZ, 169, .inl (xf_z (va_up c3 ((13 * i2) + j) false)))), (m8, .inl (cI, 169, .inl (upd s3 ((13 * i2) + j) (nI 0)))), (m9, .inl (cZ, 13, .inl (xf_z lf)))] := hD
                    refine lv_iinc (k := 4) (v := nI (j + 1)) (lv' := [(3, .int (nI (j + 1))), (4, .int (nI 0)), (0, .ref m0), (1, .int (nI k0)), (2, .int (nI i2))]) hx hb xj_M_link_116 hl rfl (xr_inc _) (by decide) rfl (fun ls hl => ?_)
                    refine lv_goto (tgt := 38) hx hb xj_M_link_119 rfl ?_
                    exact ih38 (j + 1) ((va_up c3 ((13 * i2) + j) false)) (upd s3 ((13 * i2) + j) (nI 0)) ls _ _ (by omega) ((xm_f2_s (f := xm_is lf gd i2) (xm_is_3 h72)).symm.trans hc3) ((xf_f2_s (f := xm_i1 lf gd i2) ((congrArg xf_bI (xm_is_3 h72)).trans xf_bI_f)).symm.trans hs3) (lv_sub hl [2, 3, 4, 0] rfl) hP hD hS
                  · -- 75
                    refine lv_iconst (v := nI 1) hx hb xj_M_link_75 (by decide) ?_
                    refine lv_goto (tgt := 80) hx hb xj_M_link_76 rfl ?_
                    refine lv_istore (lv' := [(4, .int (nI 1)), (0, .ref m0), (1, .int (nI k0)), (2, .int (nI i2)), (3, .int (nI j))]) hx hb xj_M_link_80 hl (by decide) rfl (fun ls hl => ?_)
                    refine lv_aload_n hx hb xj_M_link_82 rfl (lv_at hl 1 rfl) ?_
                    refine va_get (D := D) (ci := 6) (v := .ref m7) (C := xn_M) (T := xn_TM) (N := 13) hx hb hgs xw_uM hown hK.1 hP 0 rfl rfl 9 (by decide) (hgs _ xw_539) (fun _ h9 => h9) rfl xj_M_link_83 ?_
                    refine lv_bipush (v := nI 13) hx hb xj_M_link_86 (by decide) ?_
                    refine lv_iload_n hx hb xj_M_link_88 rfl (lv_at hl 3 rfl) ?_
                    refine xr_imul hx hb xj_M_link_89 ?_
                    refine lv_iload_n hx hb xj_M_link_90 rfl (lv_at hl 4 rfl) ?_
                    refine xr_iadd hx hb xj_M_link_91 ?_
                    refine lv_iload hx hb xj_M_link_92 (lv_at hl 0 rfl) ?_
                    refine xr_topz (b := true) rfl ?_
                    refine xr_zast hx hb hK.1 hP hD hS 2 1 rfl rfl (by omega) (by decide) xj_M_link_94 (fun H locs hP hD hS => ?_)
                    rw [xf_z_up] at hP hD
                    have hP : va_P D xn_cl [(m0, .inr (6, [.int cd, .int (nI gc), .int (nI dc), .ref m1, .ref m2, .ref m3, .ref m4, .ref m5, .ref m6, .ref m7, .ref m8, .ref m9, .ref m10])), (m5, .inl (cZ, 169, .inl (xf_z gd))), (m7, .inl (cZ, 169, .inl (xf_z (va_up c3 ((13 * i2) + j) true)))), (m8, .inl (cI, 169, .inl s3)), (m9, .inl (cZ, 13, .inl (xf_z lf)))] H := hP
                    have hD : va_D A [(m0, .inr (6, [.int cd, .int (nI gc), .int (nI dc), .ref m1, .ref m2, .ref m3, .ref m4, .ref m5, .ref m6, .ref m7, .ref m8, .ref m9, .ref m10])), (m5, .inl (cZ, 169, .inl (xf_z gd))), (m7, .inl (cZ, 169, .inl (xf_z (va_up c3 ((13 * i2) + j) true)))), (m8, .inl (cI, 169, .inl s3)), (m9, .inl (cZ, 13, .inl (xf_z lf)))] := hD
                    refine lv_aload_n hx hb xj_M_link_95 rfl (lv_at hl 1 rfl) ?_
                    refine va_get (D := D) (ci := 6) (v := .ref m8) (C := xn_M) (T := xn_TM) (N := 13) hx hb hgs xw_uM hown hK.1 hP 0 rfl rfl 10 (by decide) (hgs _ xw_540) (fun _ h9 => h9) rfl xj_M_link_96 ?_
                    refine lv_bipush (v := nI 13) hx hb xj_M_link_99 (by decide) ?_
                    refine lv_iload_n hx hb xj_M_link_101 rfl (lv_at hl 3 rfl) ?_
                    refine xr_imul hx hb xj_M_link_102 ?_
                    refine lv_iload_n hx hb xj_M_link_103 rfl (lv_at hl 4 rfl) ?_
                    refine xr_iadd hx hb xj_M_link_104 ?_
                    refine lv_iload hx hb xj_M_link_105 (lv_at hl 0 rfl) ?_
                    refine xr_ifeqN (tgt := 114) hx hb (by omega) xj_M_link_107 rfl (fun h107 => absurd h107 (by omega)) (fun h107 => ?_)
                    refine lv_iconst (v := nI 1) hx hb xj_M_link_110 (by decide) ?_
                    refine lv_goto (tgt := 115) hx hb xj_M_link_111 rfl ?_
                    refine xr_iast hx hb hK.1 hP hD hS 3 0 rfl rfl (by omega) (by decide) xj_M_link_115 (fun H locs hP hD hS => ?_)
                    have hP : va_P D xn_cl [(m0, .inr (6, [.int cd, .int (nI gc), .int (nI dc), .ref m1, .ref m2, .ref m3, .ref m4, .ref m5, .ref m6, .ref m7, .ref m8, .ref m9, .ref m10])), (m5, .inl (cZ, 169, .inl (xf_z gd))), (m7, .inl (cZ, 169, .inl (xf_z (va_up c3 ((13 * i2) + j) true)))), (m8, .inl (cI, 169, .inl (upd s3 ((13 * i2) + j) (nI 1)))), (m9, .inl (cZ, 13, .inl (xf_z lf)))] H := hP
                    have hD : va_D A [(m0, .inr (6, [.int cd, .int (nI gc), .int (nI dc), .ref m1, .ref m2, .ref m3, .ref m4, .ref m5, .ref m6, .ref m7, .ref m8, .ref m9, .ref m10])), (m5, .inl (cZ, 169, .inl (xf_z gd))), (m7, .inl (cZ, 169, .inl (xf_z (va_up c3 ((13 * i2) + j) true)))), (m8, .inl (cI, 169, .inl (upd s3 ((13 * i2) + j) (nI 1)))), (m9, .inl (cZ, 13, .inl (xf_z lf)))] := hD
                    refine lv_iinc (k := 4) (v := nI (j + 1)) (lv' := [(3, .int (nI (j + 1))), (4, .int (nI 1)), (0, .ref m0), (1, .int (nI k0)), (2, .int (nI i2))]) hx hb xj_M_link_116 hl rfl (xr_inc _) (by decide) rfl (fun ls hl => ?_)
                    refine lv_goto (tgt := 38) hx hb xj_M_link_119 rfl ?_
                    exact ih38 (j + 1) ((va_up c3 ((13 * i2) + j) true)) (upd s3 ((13 * i2) + j) (nI 1)) ls _ _ (by omega) ((xm_f2_s (f := xm_is lf gd i2) (xm_is_t h49 h58 h72)).symm.trans hc3) ((xf_f2_s (f := xm_i1 lf gd i2) ((congrArg xf_bI (xm_is_t h49 h58 h72)).trans xf_bI_t)).symm.trans hs3) (lv_sub hl [2, 3, 4, 0] rfl) hP hD hS
          exact loop38 k0 0 c2 s2 ls _ _ (by omega) rfl rfl (lv_sub hl [1, 2, 3, 0] rfl) hP hD hS
      exact loop31 k0 0 c1 s1 ls _ _ (by omega) (by rw [show c1 = _ from hc1]) (by rw [show s1 = _ from hs1]) (lv_sub hl [1, 2, 0] rfl) hP hD hS
    | succ n ih2 =>
      intro i c1 s1 ls H locs hi2 hc1 hs1 hl hP hD hS
      refine lv_iload_n hx hb xj_M_link_2 rfl (lv_at hl 2 rfl) ?_
      refine lv_sipush (v := nI 169) hx hb xj_M_link_3 (by decide) ?_
      refine xr_ge (tgt := 29) hx hb (by omega) (by omega) xj_M_link_6 rfl (fun h6 => absurd h6 (by omega)) (fun h6 => ?_)
      refine lv_aload_n hx hb xj_M_link_9 rfl (lv_at hl 0 rfl) ?_
      refine va_get (D := D) (ci := 6) (v := .ref m7) (C := xn_M) (T := xn_TM) (N := 13) hx hb hgs xw_uM hown hK.1 hP 0 rfl rfl 9 (by decide) (hgs _ xw_539) (fun _ h9 => h9) rfl xj_M_link_10 ?_
      refine lv_iload_n hx hb xj_M_link_13 rfl (lv_at hl 2 rfl) ?_
      refine lv_iconst (v := nI 0) hx hb xj_M_link_14 (by decide) ?_
      refine xr_topz (b := false) rfl ?_
      refine xr_zast hx hb hK.1 hP hD hS 2 1 rfl rfl (by omega) (by decide) xj_M_link_15 (fun H locs hP hD hS => ?_)
      rw [xf_z_up] at hP hD
      have hP : va_P D xn_cl [(m0, .inr (6, [.int cd, .int (nI gc), .int (nI dc), .ref m1, .ref m2, .ref m3, .ref m4, .ref m5, .ref m6, .ref m7, .ref m8, .ref m9, .ref m10])), (m5, .inl (cZ, 169, .inl (xf_z gd))), (m7, .inl (cZ, 169, .inl (xf_z (va_up c1 i false)))), (m8, .inl (cI, 169, .inl s1)), (m9, .inl (cZ, 13, .inl (xf_z lf)))] H := hP
      have hD : va_D A [(m0, .inr (6, [.int cd, .int (nI gc), .int (nI dc), .ref m1, .ref m2, .ref m3, .ref m4, .ref m5, .ref m6, .ref m7, .ref m8, .ref m9, .ref m10])), (m5, .inl (cZ, 169, .inl (xf_z gd))), (m7, .inl (cZ, 169, .inl (xf_z (va_up c1 i false)))), (m8, .inl (cI, 169, .inl s1)), (m9, .inl (cZ, 13, .inl (xf_z lf)))] := hD
      refine lv_aload_n hx hb xj_M_link_16 rfl (lv_at hl 0 rfl) ?_
      refine va_get (D := D) (ci := 6) (v := .ref m8) (C := xn_M) (T := xn_TM) (N := 13) hx hb hgs xw_uM hown hK.1 hP 0 rfl rfl 10 (by decide) (hgs _ xw_540) (fun _ h9 => h9) rfl xj_M_link_17 ?_
      refine lv_iload_n hx hb xj_M_link_20 rfl (lv_at hl 2 rfl) ?_
      refine lv_iconst (v := nI 0) hx hb xj_M_link_21 (by decide) ?_
      refine xr_iast hx hb hK.1 hP hD hS 3 0 rfl rfl (by omega) (by decide) xj_M_link_22 (fun H locs hP hD hS => ?_)
      have hP : va_P D xn_cl [(m0, .inr (6, [.int cd, .int (nI gc), .int (nI dc), .ref m1, .ref m2, .ref m3, .ref m4, .ref m5, .ref m6, .ref m7, .ref m8, .ref m9, .ref m10])), (m5, .inl (cZ, 169, .inl (xf_z gd))), (m7, .inl (cZ, 169, .inl (xf_z (va_up c1 i false)))), (m8, .inl (cI, 169, .inl (upd s1 i (nI 0)))), (m9, .inl (cZ, 13, .inl (xf_z lf)))] H := hP
      have hD : va_D A [(m0, .inr (6, [.int cd, .int (nI gc), .int (nI dc), .ref m1, .ref m2, .ref m3, .ref m4, .ref m5, .ref m6, .ref m7, .ref m8, .ref m9, .ref m10])), (m5, .inl (cZ, 169, .inl (xf_z gd))), (m7, .inl (cZ, 169, .inl (xf_z (va_up c1 i false)))), (m8, .inl (cI, 169, .inl (upd s1 i (nI 0)))), (m9, .inl (cZ, 13, .inl (xf_z lf)))] := hD
      refine lv_iinc (k := 2) (v := nI (i + 1)) (lv' := [(2, .int (nI (i + 1))), (0, .ref m0), (1, .int (nI k0))]) hx hb xj_M_link_23 hl rfl (xr_inc _) (by decide) rfl (fun ls hl => ?_)
      refine lv_goto (tgt := 2) hx hb xj_M_link_26 rfl ?_
      exact ih2 (i + 1) ((va_up c1 i false)) (upd s1 i (nI 0)) ls _ _ (by omega) hc1 hs1 (lv_sub hl [1, 2, 0] rfl) hP hD hS
  exact loop2 169 0 ch st ls _ _ (by omega) rfl rfl (lv_sub hl [1, 2, 0] rfl) hP hD hS
set_option maxRecDepth 100000 in
set_option maxHeartbeats 4000000 in
theorem xt_M_isFine (l : Launch) (D : va_G) (cI cZ cJ : ClassId) (m0 m1 m2 m3 m4 m5 m6 m7 m8 m9 m10 : Nat) (cd : Int32) (gc dc : Nat) (gd : Nat → Bool) (bd : Nat → Bool) (ch : Nat → Bool) (st : Nat → Int32) (lf : Nat → Bool) (k0 : Nat) (hk : k0 ≤ 13) : xc_Wi l xy_M_isFine xb_M_isFine 4 .boolean 2 0 0 [.ref m0, .int (nI k0)] D cI cZ cJ [(m0, .inr (6, [.int cd, .int (nI gc), .int (nI dc), .ref m1, .ref m2, .ref m3, .ref m4, .ref m5, .ref m6, .ref m7, .ref m8, .ref m9, .ref m10])), (m5, .inl (cZ, 169, .inl (xf_z gd))), (m6, .inl (cZ, 169, .inl (xf_z bd))), (m7, .inl (cZ, 169, .inl (xf_z ch))), (m8, .inl (cI, 169, .inl st)), (m9, .inl (cZ, 13, .inl (xf_z lf)))] (Unit) (fun r _ => r = xf_bI (!xm_nf k0 lf bd (xm_K k0 lf gd ch st).1)) (fun _ => [(m0, .inr (6, [.int cd, .int (nI gc), .int (nI dc), .ref m1, .ref m2, .ref m3, .ref m4, .ref m5, .ref m6, .ref m7, .ref m8, .ref m9, .ref m10])), (m5, .inl (cZ, 169, .inl (xf_z gd))), (m6, .inl (cZ, 169, .inl (xf_z bd))), (m7, .inl (cZ, 169, .inl (xf_z ((xm_K k0 lf gd ch st).1)))), (m8, .inl (cI, 169, .inl ((xm_K k0 lf gd ch st).2.1))), (m9, .inl (cZ, 13, .inl (xf_z lf)))]) := by
  refine xc_Wi_of (by decide) (Nat.le_of_ble_eq_true rfl) ?_
  intro p e s m args below meth c Q ls A hAt hP hK hD hA hS hl hret
  obtain ⟨hx, hb, hml, hown, hts, hgs, hlk⟩ := id hAt
  have hT : ∀ w ∈ xw_g, w ∈ xc_ws xy_M_isFine xb_M_isFine 4 (some .boolean) := fun w h => List.mem_cons_of_mem _ h
  have hown : s.vm.findClass "WishLedgerModel" = some m.cls := hown
  obtain ⟨H, hH0⟩ : ∃ H, H = s.heap := ⟨_, rfl⟩
  obtain ⟨locs, hL0⟩ : ∃ locs : List Loc, locs = [] := ⟨_, rfl⟩
  have hP : va_P D xn_cl [(m0, .inr (6, [.int cd, .int (nI gc), .int (nI dc), .ref m1, .ref m2, .ref m3, .ref m4, .ref m5, .ref m6, .ref m7, .ref m8, .ref m9, .ref m10])), (m5, .inl (cZ, 169, .inl (xf_z gd))), (m6, .inl (cZ, 169, .inl (xf_z bd))), (m7, .inl (cZ, 169, .inl (xf_z ch))), (m8, .inl (cI, 169, .inl st)), (m9, .inl (cZ, 13, .inl (xf_z lf)))] H := by rw [hH0]; exact hP
  have hS : va_S A s.heap H locs := by rw [hH0, hL0]; exact hS
  suffices hgo : W p l e (xc_rm 2 0 0) s m args below meth c H locs 0 0 Q (F0 m 0 ls []) by rw [hH0, hL0] at hgo; exact hgo
  clear hH0 hL0
  have hl : lv_has ls 4 [(0, .ref m0), (1, .int (nI k0))] := hl
  refine lv_aload_n hx hb xj_M_isFine_0 rfl (lv_at hl 0 rfl) ?_
  refine lv_iload_n hx hb xj_M_isFine_1 rfl (lv_at hl 1 rfl) ?_
  refine xc_wVv (av := [.int (nI k0)]) (rest := []) (wr := [(m6, .inl (cZ, 169, .inl (xf_z bd)))]) hAt hT (xt_M_link l D cI cZ cJ m0 m1 m2 m3 m4 m5 m6 m7 m8 m9 m10 cd gc dc gd ch st lf k0 (by omega)) xw_626 xw_7 xw_629 xw_628 xs_M_link (C0 := xn_M) (q0 := 0) rfl rfl (na := 1) rfl (by decide +kernel) ⟨Nat.le_of_ble_eq_true rfl, Nat.le_of_ble_eq_true rfl⟩ hP hD hS hA [0, 1, 3, 4, 5] [2] rfl rfl (by decide) (by decide) (by decide) hK hl.1 (Nat.le_of_ble_eq_true rfl) ⟨Nat.zero_le _, Nat.zero_le _⟩ xj_M_isFine_2 (fun _ H locs _ hP hD hS => ?_)
  have hP : va_P D xn_cl [(m0, .inr (6, [.int cd, .int (nI gc), .int (nI dc), .ref m1, .ref m2, .ref m3, .ref m4, .ref m5, .ref m6, .ref m7, .ref m8, .ref m9, .ref m10])), (m5, .inl (cZ, 169, .inl (xf_z gd))), (m6, .inl (cZ, 169, .inl (xf_z bd))), (m7, .inl (cZ, 169, .inl (xf_z ((xm_K k0 lf gd ch st).1)))), (m8, .inl (cI, 169, .inl ((xm_K k0 lf gd ch st).2.1))), (m9, .inl (cZ, 13, .inl (xf_z lf)))] H := va_P.sub hP [1, 2, 0, 3, 4, 5] rfl
  have hD : va_D A [(m0, .inr (6, [.int cd, .int (nI gc), .int (nI dc), .ref m1, .ref m2, .ref m3, .ref m4, .ref m5, .ref m6, .ref m7, .ref m8, .ref m9, .ref m10])), (m5, .inl (cZ, 169, .inl (xf_z gd))), (m6, .inl (cZ, 169, .inl (xf_z bd))), (m7, .inl (cZ, 169, .inl (xf_z ((xm_K k0 lf gd ch st).1)))), (m8, .inl (cI, 169, .inl ((xm_K k0 lf gd ch st).2.1))), (m9, .inl (cZ, 13, .inl (xf_z lf)))] := va_D.sub hD [1, 2, 0, 3, 4, 5] (by decide) rfl
  refine lv_iconst (v := nI 0) hx hb xj_M_isFine_5 (by decide) ?_
  refine lv_istore_n (lv' := [(2, .int (nI 0)), (0, .ref m0), (1, .int (nI k0))]) hx hb xj_M_isFine_6 rfl hl (by decide) rfl (fun ls hl => ?_)
  have loop7 : ∀ (n : Nat) (i : Nat) (ls : Array Slot) (H : Heap) (locs : List Loc), i + n = k0 → (xf_ex (fun s => xf_ex (fun t => lf s && (lf t && (bd (13 * t + s) && (xm_K k0 lf gd ch st).1 (13 * s + t)))) k0 0) n i = xm_nf k0 lf bd (xm_K k0 lf gd ch st).1) → lv_has ls 4 [(0, .ref m0), (1, .int (nI k0)), (2, .int (nI i))] → va_P D xn_cl [(m0, .inr (6, [.int cd, .int (nI gc), .int (nI dc), .ref m1, .ref m2, .ref m3, .ref m4, .ref m5, .ref m6, .ref m7, .ref m8, .ref m9, .ref m10])), (m5, .inl (cZ, 169, .inl (xf_z gd))), (m6, .inl (cZ, 169, .inl (xf_z bd))), (m7, .inl (cZ, 169, .inl (xf_z ((xm_K k0 lf gd ch st).1)))), (m8, .inl (cI, 169, .inl ((xm_K k0 lf gd ch st).2.1))), (m9, .inl (cZ, 13, .inl (xf_z lf)))] H → va_D A [(m0, .inr (6, [.int cd, .int (nI gc), .int (nI dc), .ref m1, .ref m2, .ref m3, .ref m4, .ref m5, .ref m6, .ref m7, .ref m8, .ref m9, .ref m10])), (m5, .inl (cZ, 169, .inl (xf_z gd))), (m6, .inl (cZ, 169, .inl (xf_z bd))), (m7, .inl (cZ, 169, .inl (xf_z ((xm_K k0 lf gd ch st).1)))), (m8, .inl (cI, 169, .inl ((xm_K k0 lf gd ch st).2.1))), (m9, .inl (cZ, 13, .inl (xf_z lf)))] → va_S A s.heap H locs → W p l e (xc_rm 2 0 0) s m args below meth c H locs 0 0 Q (F0 m 7 ls []) := by
    intro n
    induction n with
    | zero =>
      intro i ls H locs hi7 hr hl hP hD hS
      refine lv_iload_n hx hb xj_M_isFine_7 rfl (lv_at hl 2 rfl) ?_
      refine lv_iload_n hx hb xj_M_isFine_8 rfl (lv_at hl 1 rfl) ?_
      refine xr_ge (tgt := 79) hx hb (by omega) (by omega) xj_M_isFine_9 rfl (fun h9 => ?_) (fun h9 => absurd h9 (by omega))
      refine lv_iconst (v := nI 1) hx hb xj_M_isFine_79 (by decide) ?_
      exact hret (nI 1) (()) H locs _ ls (by rw [show xm_nf k0 lf bd (xm_K k0 lf gd ch st).1 = false from hr.symm]; rfl) rfl hP hD hS xj_M_isFine_80
    | succ n ih7 =>
      intro i ls H locs hi7 hr hl hP hD hS
      refine lv_iload_n hx hb xj_M_isFine_7 rfl (lv_at hl 2 rfl) ?_
      refine lv_iload_n hx hb xj_M_isFine_8 rfl (lv_at hl 1 rfl) ?_
      refine xr_ge (tgt := 79) hx hb (by omega) (by omega) xj_M_isFine_9 rfl (fun h9 => absurd h9 (by omega)) (fun h9 => ?_)
      refine lv_iconst (v := nI 0) hx hb xj_M_isFine_12 (by decide) ?_
      refine lv_istore_n (lv' := [(3, .int (nI 0)), (0, .ref m0), (1, .int (nI k0)), (2, .int (nI i))]) hx hb xj_M_isFine_13 rfl hl (by decide) rfl (fun ls hl => ?_)
      have loop14 : ∀ (k : Nat) (j : Nat) (ls : Array Slot) (H : Heap) (locs : List Loc), j + k = k0 → (xf_ex (fun t => lf i && (lf t && (bd (13 * t + i) && (xm_K k0 lf gd ch st).1 (13 * i + t)))) k j = xf_ex (fun t => lf i && (lf t && (bd (13 * t + i) && (xm_K k0 lf gd ch st).1 (13 * i + t)))) k0 0) → lv_has ls 4 [(0, .ref m0), (1, .int (nI k0)), (2, .int (nI i)), (3, .int (nI j))] → va_P D xn_cl [(m0, .inr (6, [.int cd, .int (nI gc), .int (nI dc), .ref m1, .ref m2, .ref m3, .ref m4, .ref m5, .ref m6, .ref m7, .ref m8, .ref m9, .ref m10])), (m5, .inl (cZ, 169, .inl (xf_z gd))), (m6, .inl (cZ, 169, .inl (xf_z bd))), (m7, .inl (cZ, 169, .inl (xf_z ((xm_K k0 lf gd ch st).1)))), (m8, .inl (cI, 169, .inl ((xm_K k0 lf gd ch st).2.1))), (m9, .inl (cZ, 13, .inl (xf_z lf)))] H → va_D A [(m0, .inr (6, [.int cd, .int (nI gc), .int (nI dc), .ref m1, .ref m2, .ref m3, .ref m4, .ref m5, .ref m6, .ref m7, .ref m8, .ref m9, .ref m10])), (m5, .inl (cZ, 169, .inl (xf_z gd))), (m6, .inl (cZ, 169, .inl (xf_z bd))), (m7, .inl (cZ, 169, .inl (xf_z ((xm_K k0 lf gd ch st).1)))), (m8, .inl (cI, 169, .inl ((xm_K k0 lf gd ch st).2.1))), (m9, .inl (cZ, 13, .inl (xf_z lf)))] → va_S A s.heap H locs → W p l e (xc_rm 2 0 0) s m args below meth c H locs 0 0 Q (F0 m 14 ls []) := by
        intro k
        induction k with
        | zero =>
          intro j ls H locs hi14 hq hl hP hD hS
          refine lv_iload_n hx hb xj_M_isFine_14 rfl (lv_at hl 3 rfl) ?_
          refine lv_iload_n hx hb xj_M_isFine_15 rfl (lv_at hl 1 rfl) ?_
          refine xr_ge (tgt := 73) hx hb (by omega) (by omega) xj_M_isFine_16 rfl (fun h16 => ?_) (fun h16 => absurd h16 (by omega))
          refine lv_iinc (k := 2) (v := nI (i + 1)) (lv' := [(2, .int (nI (i + 1))), (0, .ref m0), (1, .int (nI k0)), (3, .int (nI j))]) hx hb xj_M_isFine_73 hl rfl (xr_inc _) (by decide) rfl (fun ls hl => ?_)
          refine lv_goto (tgt := 7) hx hb xj_M_isFine_76 rfl ?_
          exact ih7 (i + 1) ls _ _ (by omega) ((xf_ex_f (P := (fun s => xf_ex (fun t => lf s && (lf t && (bd (13 * t + s) && (xm_K k0 lf gd ch st).1 (13 * s + t)))) k0 0)) hq.symm).symm.trans hr) (lv_sub hl [1, 2, 0] rfl) hP hD hS
        | succ k ih14 =>
          intro j ls H locs hi14 hq hl hP hD hS
          refine lv_iload_n hx hb xj_M_isFine_14 rfl (lv_at hl 3 rfl) ?_
          refine lv_iload_n hx hb xj_M_isFine_15 rfl (lv_at hl 1 rfl) ?_
          refine xr_ge (tgt := 73) hx hb (by omega) (by omega) xj_M_isFine_16 rfl (fun h16 => absurd h16 (by omega)) (fun h16 => ?_)
          refine lv_aload_n hx hb xj_M_isFine_19 rfl (lv_at hl 0 rfl) ?_
          refine va_get (D := D) (ci := 6) (v := .ref m9) (C := xn_M) (T := xn_TM) (N := 13) hx hb hgs xw_uM hown hK.1 hP 0 rfl rfl 11 (by decide) (hgs _ xw_541) (fun _ h9 => h9) rfl xj_M_isFine_20 ?_
          refine lv_iload_n hx hb xj_M_isFine_23 rfl (lv_at hl 2 rfl) ?_
          refine xr_zald hx hb hK.1 hP 5 1 rfl rfl (by omega) (by decide) xj_M_isFine_24 ?_
          refine xr_top (y := xf_bI (lf i)) rfl ?_
          refine xr_ifeq (tgt := 67) hx hb xj_M_isFine_25 rfl (fun h25 => ?_) (fun h25 => ?_)
          · -- 67
            refine lv_iinc (k := 3) (v := nI (j + 1)) (lv' := [(3, .int (nI (j + 1))), (0, .ref m0), (1, .int (nI k0)), (2, .int (nI i))]) hx hb xj_M_isFine_67 hl rfl (xr_inc _) (by decide) rfl (fun ls hl => ?_)
            refine lv_goto (tgt := 14) hx hb xj_M_isFine_70 rfl ?_
            exact ih14 (j + 1) ls _ _ (by omega) ((xf_ex_f (P := (fun t => lf i && (lf t && (bd (13 * t + i) && (xm_K k0 lf gd ch st).1 (13 * i + t))))) (by simp only [h25, Bool.true_and, Bool.false_and, Bool.and_true, Bool.and_false, Bool.not_true, Bool.not_false])).symm.trans hq) (lv_sub hl [1, 2, 3, 0] rfl) hP hD hS
          · -- 28
            refine lv_aload_n hx hb xj_M_isFine_28 rfl (lv_at hl 0 rfl) ?_
            refine va_get (D := D) (ci := 6) (v := .ref m9) (C := xn_M) (T := xn_TM) (N := 13) hx hb hgs xw_uM hown hK.1 hP 0 rfl rfl 11 (by decide) (hgs _ xw_541) (fun _ h9 => h9) rfl xj_M_isFine_29 ?_
            refine lv_iload_n hx hb xj_M_isFine_32 rfl (lv_at hl 3 rfl) ?_
            refine xr_zald hx hb hK.1 hP 5 1 rfl rfl (by omega) (by decide) xj_M_isFine_33 ?_
            refine xr_top (y := xf_bI (lf j)) rfl ?_
            refine xr_ifeq (tgt := 67) hx hb xj_M_isFine_34 rfl (fun h34 => ?_) (fun h34 => ?_)
            · -- 67
              refine lv_iinc (k := 3) (v := nI (j + 1)) (lv' := [(3, .int (nI (j + 1))), (0, .ref m0), (1, .int (nI k0)), (2, .int (nI i))]) hx hb xj_M_isFine_67 hl rfl (xr_inc _) (by decide) rfl (fun ls hl => ?_)
              refine lv_goto (tgt := 14) hx hb xj_M_isFine_70 rfl ?_
              exact ih14 (j + 1) ls _ _ (by omega) ((xf_ex_f (P := (fun t => lf i && (lf t && (bd (13 * t + i) && (xm_K k0 lf gd ch st).1 (13 * i + t))))) (by simp only [h25, h34, Bool.true_and, Bool.false_and, Bool.and_true, Bool.and_false, Bool.not_true, Bool.not_false])).symm.trans hq) (lv_sub hl [1, 2, 3, 0] rfl) hP hD hS
            · -- 37
              refine lv_aload_n hx hb xj_M_isFine_37 rfl (lv_at hl 0 rfl) ?_
              refine va_get (D := D) (ci := 6) (v := .ref m6) (C := xn_M) (T := xn_TM) (N := 13) hx hb hgs xw_uM hown hK.1 hP 0 rfl rfl 8 (by decide) (hgs _ xw_538) (fun _ h9 => h9) rfl xj_M_isFine_38 ?_
              refine lv_bipush (v := nI 13) hx hb xj_M_isFine_41 (by decide) ?_
              refine lv_iload_n hx hb xj_M_isFine_43 rfl (lv_at hl 3 rfl) ?_
              refine xr_imul hx hb xj_M_isFine_44 ?_
              refine lv_iload_n hx hb xj_M_isFine_45 rfl (lv_at hl 2 rfl) ?_
              refine xr_iadd hx hb xj_M_isFine_46 ?_
              refine xr_zald hx hb hK.1 hP 2 1 rfl rfl (by omega) (by decide) xj_M_isFine_47 ?_
              refine xr_top (y := xf_bI (bd ((13 * j) + i))) rfl ?_
              refine xr_ifeq (tgt := 67) hx hb xj_M_isFine_48 rfl (fun h48 => ?_) (fun h48 => ?_)
              · -- 67
                refine lv_iinc (k := 3) (v := nI (j + 1)) (lv' := [(3, .int (nI (j + 1))), (0, .ref m0), (1, .int (nI k0)), (2, .int (nI i))]) hx hb xj_M_isFine_67 hl rfl (xr_inc _) (by decide) rfl (fun ls hl => ?_)
                refine lv_goto (tgt := 14) hx hb xj_M_isFine_70 rfl ?_
                exact ih14 (j + 1) ls _ _ (by omega) ((xf_ex_f (P := (fun t => lf i && (lf t && (bd (13 * t + i) && (xm_K k0 lf gd ch st).1 (13 * i + t))))) (by simp only [h25, h34, h48, Bool.true_and, Bool.false_and, Bool.and_true, Bool.and_false, Bool.not_true, Bool.not_false])).symm.trans hq) (lv_sub hl [1, 2, 3, 0] rfl) hP hD hS
              · -- 51
                refine lv_aload_n hx hb xj_M_isFine_51 rfl (lv_at hl 0 rfl) ?_
                refine va_get (D := D) (ci := 6) (v := .ref m7) (C := xn_M) (T := xn_TM) (N := 13) hx hb hgs xw_uM hown hK.1 hP 0 rfl rfl 9 (by decide) (hgs _ xw_539) (fun _ h9 => h9) rfl xj_M_isFine_52 ?_
                refine lv_bipush (v := nI 13) hx hb xj_M_isFine_55 (by decide) ?_
                refine lv_iload_n hx hb xj_M_isFine_57 rfl (lv_at hl 2 rfl) ?_
                refine xr_imul hx hb xj_M_isFine_58 ?_
                refine lv_iload_n hx hb xj_M_isFine_59 rfl (lv_at hl 3 rfl) ?_
                refine xr_iadd hx hb xj_M_isFine_60 ?_
                refine xr_zald hx hb hK.1 hP 3 1 rfl rfl (by omega) (by decide) xj_M_isFine_61 ?_
                refine xr_top (y := xf_bI ((((xm_K k0 lf gd ch st).1)) ((13 * i) + j))) rfl ?_
                refine xr_ifeq (tgt := 67) hx hb xj_M_isFine_62 rfl (fun h62 => ?_) (fun h62 => ?_)
                · -- 67
                  refine lv_iinc (k := 3) (v := nI (j + 1)) (lv' := [(3, .int (nI (j + 1))), (0, .ref m0), (1, .int (nI k0)), (2, .int (nI i))]) hx hb xj_M_isFine_67 hl rfl (xr_inc _) (by decide) rfl (fun ls hl => ?_)
                  refine lv_goto (tgt := 14) hx hb xj_M_isFine_70 rfl ?_
                  exact ih14 (j + 1) ls _ _ (by omega) ((xf_ex_f (P := (fun t => lf i && (lf t && (bd (13 * t + i) && (xm_K k0 lf gd ch st).1 (13 * i + t))))) (by simp only [h25, h34, h48, h62, Bool.true_and, Bool.false_and, Bool.and_true, Bool.and_false, Bool.not_true, Bool.not_false])).symm.trans hq) (lv_sub hl [1, 2, 3, 0] rfl) hP hD hS
                · -- 65
                  refine lv_iconst (v := nI 0) hx hb xj_M_isFine_65 (by decide) ?_
                  exact hret (nI 0) (()) H locs _ ls (by rw [show xm_nf k0 lf bd (xm_K k0 lf gd ch st).1 = true from ((xf_ex_t (P := (fun s => xf_ex (fun t => lf s && (lf t && (bd (13 * t + s) && (xm_K k0 lf gd ch st).1 (13 * s + t)))) k0 0)) ((xf_ex_t (P := (fun t => lf i && (lf t && (bd (13 * t + i) && (xm_K k0 lf gd ch st).1 (13 * i + t))))) (by simp only [h25, h34, h48, h62, Bool.true_and, Bool.false_and, Bool.and_true, Bool.and_false, Bool.not_true, Bool.not_false])).symm.trans hq).symm).symm.trans hr).symm]; rfl) rfl hP hD hS xj_M_isFine_66
      exact loop14 k0 0 ls _ _ (by omega) rfl (lv_sub hl [1, 2, 3, 0] rfl) hP hD hS
  exact loop7 k0 0 ls _ _ (by omega) rfl (lv_sub hl [1, 2, 0] rfl) hP hD hS
set_option maxRecDepth 100000 in
set_option maxHeartbeats 4000000 in
theorem xt_M_look (l : Launch) (D : va_G) (cI cZ cJ : ClassId) (m0 m1 m2 m3 m4 m5 m6 m7 m8 m9 m10 : Nat) (cd : Int32) (gc dc : Nat) (P : Nat → Int32) (A0 : Nat → Int32) (gd : Nat → Bool) (bd : Nat → Bool) (ch : Nat → Bool) (st : Nat → Int32) (lf : Nat → Bool) (hg : gc ≤ 6) (hd : dc ≤ 12) : xc_Wv l xy_M_look xb_M_look 1 2 0 0 [.ref m0] D cI cZ cJ [(m0, .inr (6, [.int cd, .int (nI gc), .int (nI dc), .ref m1, .ref m2, .ref m3, .ref m4, .ref m5, .ref m6, .ref m7, .ref m8, .ref m9, .ref m10])), (m1, .inl (cI, 78, .inl P)), (m2, .inl (cI, 78, .inl A0)), (m5, .inl (cZ, 169, .inl (xf_z gd))), (m6, .inl (cZ, 169, .inl (xf_z bd))), (m7, .inl (cZ, 169, .inl (xf_z ch))), (m8, .inl (cI, 169, .inl st)), (m9, .inl (cZ, 13, .inl (xf_z lf)))] (Unit) (fun _ => True) (fun _ => [(m0, .inr (6, [.int cd, .int (nI gc), .int (nI dc), .ref m1, .ref m2, .ref m3, .ref m4, .ref m5, .ref m6, .ref m7, .ref m8, .ref m9, .ref m10])), (m1, .inl (cI, 78, .inl P)), (m2, .inl (cI, 78, .inl A0)), (m5, .inl (cZ, 169, .inl (xf_z (xm_G (xk_c gc P A0) (lN 1) (lN 1) dc gd)))), (m6, .inl (cZ, 169, .inl (xf_z (xm_B (xk_c gc P A0) (lN 1) (lN 1) dc bd)))), (m7, .inl (cZ, 169, .inl (xf_z ((xm_K dc (xm_L dc lf) (xm_G (xk_c gc P A0) (lN 1) (lN 1) dc gd) ch st).1)))), (m8, .inl (cI, 169, .inl ((xm_K dc (xm_L dc lf) (xm_G (xk_c gc P A0) (lN 1) (lN 1) dc gd) ch st).2.1))), (m9, .inl (cZ, 13, .inl (xf_z (xm_L dc lf))))]) := by
  refine xc_Wv_of (by decide) (Nat.le_of_ble_eq_true rfl) ?_
  intro p e s m args below meth c Q ls A hAt hin hP hK hD hA hS hl hret
  obtain ⟨hx, hb, hml, hown, hts, hgs, hlk⟩ := id hAt
  have hT : ∀ w ∈ xw_g, w ∈ xc_ws xy_M_look xb_M_look 1 (none) := fun w h => List.mem_cons_of_mem _ h
  have hown : s.vm.findClass "WishLedgerModel" = some m.cls := hown
  obtain ⟨H, hH0⟩ : ∃ H, H = s.heap := ⟨_, rfl⟩
  obtain ⟨locs, hL0⟩ : ∃ locs : List Loc, locs = [] := ⟨_, rfl⟩
  have hP : va_P D xn_cl [(m0, .inr (6, [.int cd, .int (nI gc), .int (nI dc), .ref m1, .ref m2, .ref m3, .ref m4, .ref m5, .ref m6, .ref m7, .ref m8, .ref m9, .ref m10])), (m1, .inl (cI, 78, .inl P)), (m2, .inl (cI, 78, .inl A0)), (m5, .inl (cZ, 169, .inl (xf_z gd))), (m6, .inl (cZ, 169, .inl (xf_z bd))), (m7, .inl (cZ, 169, .inl (xf_z ch))), (m8, .inl (cI, 169, .inl st)), (m9, .inl (cZ, 13, .inl (xf_z lf)))] H := by rw [hH0]; exact hP
  have hS : va_S A s.heap H locs := by rw [hH0, hL0]; exact hS
  suffices hgo : W p l e (xc_rm 2 0 0) s m args below meth c H locs 0 0 Q (F0 m 0 ls []) by rw [hH0, hL0] at hgo; exact hgo
  clear hH0 hL0
  have hl : lv_has ls 1 [(0, .ref m0)] := hl
  refine lv_aload_n hx hb xj_M_look_0 rfl (lv_at hl 0 rfl) ?_
  refine lv_aload_n hx hb xj_M_look_1 rfl (lv_at hl 0 rfl) ?_
  refine va_get (D := D) (ci := 6) (v := .int (nI dc)) (C := xn_M) (T := xn_TM) (N := 13) hx hb hgs xw_uM hown hK.1 hP 0 rfl rfl 2 (by decide) (hgs _ xw_532) (fun _ h9 => h9) rfl xj_M_look_2 ?_
  refine lv_lconst (v := lN 1) hx hb xj_M_look_5 (by decide) ?_
  refine lv_lconst (v := lN 1) hx hb xj_M_look_6 (by decide) ?_
  refine xc_wVv (av := [.int (nI dc), .long (lN 1), .long (lN 1)]) (rest := []) (wr := [(m7, .inl (cZ, 169, .inl (xf_z ch))), (m8, .inl (cI, 169, .inl st))]) hAt hT (xt_M_relate l D cI cZ cJ m0 m1 m2 m3 m4 m5 m6 m7 m8 m9 m10 cd gc dc P A0 gd bd lf dc (lN 1) (lN 1) (by omega) (by omega)) xw_622 xw_7 xw_625 xw_624 xs_M_relate (C0 := xn_M) (q0 := 0) rfl rfl (na := 3) rfl (by decide +kernel) ⟨Nat.le_of_ble_eq_true rfl, Nat.le_of_ble_eq_true rfl⟩ hP hD hS hA [0, 1, 2, 3, 4, 7] [5, 6] rfl rfl (by decide) (by decide) (by decide) hK hl.1 (Nat.le_of_ble_eq_true rfl) ⟨Nat.zero_le _, Nat.zero_le _⟩ xj_M_look_7 (fun _ H locs _ hP hD hS => ?_)
  have hP : va_P D xn_cl [(m0, .inr (6, [.int cd, .int (nI gc), .int (nI dc), .ref m1, .ref m2, .ref m3, .ref m4, .ref m5, .ref m6, .ref m7, .ref m8, .ref m9, .ref m10])), (m1, .inl (cI, 78, .inl P)), (m2, .inl (cI, 78, .inl A0)), (m5, .inl (cZ, 169, .inl (xf_z (xm_G (xk_c gc P A0) (lN 1) (lN 1) dc gd)))), (m6, .inl (cZ, 169, .inl (xf_z (xm_B (xk_c gc P A0) (lN 1) (lN 1) dc bd)))), (m7, .inl (cZ, 169, .inl (xf_z ch))), (m8, .inl (cI, 169, .inl st)), (m9, .inl (cZ, 13, .inl (xf_z (xm_L dc lf))))] H := va_P.sub hP [2, 3, 4, 5, 6, 0, 1, 7] rfl
  have hD : va_D A [(m0, .inr (6, [.int cd, .int (nI gc), .int (nI dc), .ref m1, .ref m2, .ref m3, .ref m4, .ref m5, .ref m6, .ref m7, .ref m8, .ref m9, .ref m10])), (m1, .inl (cI, 78, .inl P)), (m2, .inl (cI, 78, .inl A0)), (m5, .inl (cZ, 169, .inl (xf_z (xm_G (xk_c gc P A0) (lN 1) (lN 1) dc gd)))), (m6, .inl (cZ, 169, .inl (xf_z (xm_B (xk_c gc P A0) (lN 1) (lN 1) dc bd)))), (m7, .inl (cZ, 169, .inl (xf_z ch))), (m8, .inl (cI, 169, .inl st)), (m9, .inl (cZ, 13, .inl (xf_z (xm_L dc lf))))] := va_D.sub hD [2, 3, 4, 5, 6, 0, 1, 7] (by decide) rfl
  refine lv_aload_n hx hb xj_M_look_10 rfl (lv_at hl 0 rfl) ?_
  refine lv_aload_n hx hb xj_M_look_11 rfl (lv_at hl 0 rfl) ?_
  refine va_get (D := D) (ci := 6) (v := .int (nI dc)) (C := xn_M) (T := xn_TM) (N := 13) hx hb hgs xw_uM hown hK.1 hP 0 rfl rfl 2 (by decide) (hgs _ xw_532) (fun _ h9 => h9) rfl xj_M_look_12 ?_
  refine xc_wVv (av := [.int (nI dc)]) (rest := []) (wr := [(m1, .inl (cI, 78, .inl P)), (m2, .inl (cI, 78, .inl A0)), (m6, .inl (cZ, 169, .inl (xf_z (xm_B (xk_c gc P A0) (lN 1) (lN 1) dc bd))))]) hAt hT (xt_M_link l D cI cZ cJ m0 m1 m2 m3 m4 m5 m6 m7 m8 m9 m10 cd gc dc (xm_G (xk_c gc P A0) (lN 1) (lN 1) dc gd) ch st (xm_L dc lf) dc (by omega)) xw_626 xw_7 xw_629 xw_628 xs_M_link (C0 := xn_M) (q0 := 0) rfl rfl (na := 1) rfl (by decide +kernel) ⟨Nat.le_of_ble_eq_true rfl, Nat.le_of_ble_eq_true rfl⟩ hP hD hS hA [0, 3, 5, 6, 7] [1, 2, 4] rfl rfl (by decide) (by decide) (by decide) hK hl.1 (Nat.le_of_ble_eq_true rfl) ⟨Nat.zero_le _, Nat.zero_le _⟩ xj_M_look_15 (fun _ H locs _ hP hD hS => ?_)
  have hP : va_P D xn_cl [(m0, .inr (6, [.int cd, .int (nI gc), .int (nI dc), .ref m1, .ref m2, .ref m3, .ref m4, .ref m5, .ref m6, .ref m7, .ref m8, .ref m9, .ref m10])), (m1, .inl (cI, 78, .inl P)), (m2, .inl (cI, 78, .inl A0)), (m5, .inl (cZ, 169, .inl (xf_z (xm_G (xk_c gc P A0) (lN 1) (lN 1) dc gd)))), (m6, .inl (cZ, 169, .inl (xf_z (xm_B (xk_c gc P A0) (lN 1) (lN 1) dc bd)))), (m7, .inl (cZ, 169, .inl (xf_z ((xm_K dc (xm_L dc lf) (xm_G (xk_c gc P A0) (lN 1) (lN 1) dc gd) ch st).1)))), (m8, .inl (cI, 169, .inl ((xm_K dc (xm_L dc lf) (xm_G (xk_c gc P A0) (lN 1) (lN 1) dc gd) ch st).2.1))), (m9, .inl (cZ, 13, .inl (xf_z (xm_L dc lf))))] H := va_P.sub hP [3, 0, 1, 4, 2, 5, 6, 7] rfl
  have hD : va_D A [(m0, .inr (6, [.int cd, .int (nI gc), .int (nI dc), .ref m1, .ref m2, .ref m3, .ref m4, .ref m5, .ref m6, .ref m7, .ref m8, .ref m9, .ref m10])), (m1, .inl (cI, 78, .inl P)), (m2, .inl (cI, 78, .inl A0)), (m5, .inl (cZ, 169, .inl (xf_z (xm_G (xk_c gc P A0) (lN 1) (lN 1) dc gd)))), (m6, .inl (cZ, 169, .inl (xf_z (xm_B (xk_c gc P A0) (lN 1) (lN 1) dc bd)))), (m7, .inl (cZ, 169, .inl (xf_z ((xm_K dc (xm_L dc lf) (xm_G (xk_c gc P A0) (lN 1) (lN 1) dc gd) ch st).1)))), (m8, .inl (cI, 169, .inl ((xm_K dc (xm_L dc lf) (xm_G (xk_c gc P A0) (lN 1) (lN 1) dc gd) ch st).2.1))), (m9, .inl (cZ, 13, .inl (xf_z (xm_L dc lf))))] := va_D.sub hD [3, 0, 1, 4, 2, 5, 6, 7] (by decide) rfl
  exact hret (()) H locs _ ls trivial hP hD hS xj_M_look_18
