/-! the law: its loop -/
theorem xl_and31 (x : Int32) : ∃ v, v < 32 ∧ x &&& nI 31 = nI v := by
  refine ⟨(x &&& nI 31).toBitVec.toNat, ?_, ?_⟩
  · rw [Int32.toBitVec_and, BitVec.toNat_and]
    exact Nat.lt_of_le_of_lt Nat.and_le_right (by decide)
  · apply Int32.toBitVec_inj.mp
    show _ = BitVec.ofNat 32 _
    rw [BitVec.ofNat_toNat, BitVec.setWidth_eq]
theorem xl_end {L i : Nat} (hL : L ≤ 2048) (hi : i ≤ 4096) : nI L - nI 4 < nI i ↔ ¬ i + 4 ≤ L := by
  have h1 : (nI L - nI 4).toInt = (L : Int) - 4 := by
    rw [Int32.toInt_sub, nI_toInt (by omega), nI_toInt (by omega), Int.bmod_eq_of_le (by omega) (by omega)]
    omega
  rw [Int32.lt_iff_toInt_lt, h1, nI_toInt (by omega)]
  omega
set_option maxRecDepth 100000 in
set_option maxHeartbeats 8000000 in
theorem xh_loop {p : Program} {l : Launch} {e : Env} {s : State} {m : MethodId} {below : List Frame} {meth : Method} {c : Code} {Q : State → Prop} {b L : Nat} {xs : Nat → Int32} {D : va_G} {cI cZ cJ : ClassId} {sa : Nat → Nat} (hl0 : l.stackTraces = false) (hL : L ≤ 2048) (hAt : xc_At p s m #[Value.ref b] meth c "WishLedgerLaw" lw_tbl xb_A_law 7) (hX : va_X b L xs s s.heap) (hbl : b < s.heap.size) (hK : xc_K D cI cZ cJ s) (hT0 : xc_T sa (fun q => s.heap.size ≤ q) s s.heap) (hN : xc_N s)
    (x0 b0 b1 b2 r0 r1 r2 r3 c0 c1 c2 c3 d0 s0 s1 s2 m0 m1 m2 m3 m4 m5 m6 m7 m8 m9 m10 o0 : Nat)
    (kend : ∀ (ls : Array Slot) (H : Heap) (locs : List Loc) (cells slots : Nat), va_S (fun q => s.heap.size ≤ q) s.heap H locs → cells ≤ 601024 → slots ≤ 7293034 → W p l e room_1 s m #[Value.ref b] below meth c H locs cells slots Q (F0 m 1054 ls [])) :
    ∀ (n : Nat) (gc : Nat) (dc : Nat) (P : Nat → Int32) (A0 : Nat → Int32) (G : Nat → Int32) (Bt : Nat → Int32) (C : Nat → Int32) (Hm : Nat → Int32) (Hb : Nat → Int32) (Ls : Nat → Int32) (f0 : Int32) (e0 : Int32) (f1 : Int32) (e1 : Int32) (U : Nat → Int32) (E : Nat → Int32) (cd : Int32) (P1 : Nat → Int32) (A1 : Nat → Int32) (oP : Nat → Int32) (oA : Nat → Int32) (gd : Nat → Bool) (bd : Nat → Bool) (ch : Nat → Bool) (st : Nat → Int32) (lf : Nat → Bool) (li : Nat → Int32) (O : Nat → Int64) (i : Nat) (ls : Array Slot) (H : Heap) (locs : List Loc) (cells slots : Nat), i ≤ 2048 → L < i + 4 * n + 4 → cells + 3 * n ≤ 601024 → slots + 18 * n ≤ 7293034 → xv_I gc dc P A0 P1 A1 oP oA → lv_has ls 7 [(4, .int (nI i)), (0, .ref b), (1, .ref x0), (2, .ref m0), (3, .ref o0)] → va_P D xn_cl [(x0, .inr (5, [.ref b0, .ref r0, .ref c0, .ref d0, .ref s0])), (b0, .inr (0, [.ref b1, .ref b2, .int (nI gc), .int (nI dc)])), (b1, .inl (cI, 78, .inl P)), (b2, .inl (cI, 78, .inl A0)), (r0, .inr (3, [.ref r1, .ref r2, .ref r3])), (r1, .inl (cI, 13, .inl G)), (r2, .inl (cI, 13, .inl Bt)), (r3, .inl (cI, 13, .inl C)), (c0, .inr (1, [.ref c1, .ref c2, .ref c3])), (c1, .inl (cI, 13, .inl Hm)), (c2, .inl (cI, 13, .inl Hb)), (c3, .inl (cI, 12, .inl Ls)), (d0, .inr (2, [.int f0, .int e0])), (s0, .inr (4, [.ref s1, .ref s2, .int f1, .int e1])), (s1, .inl (cI, 144, .inl U)), (s2, .inl (cI, 144, .inl E)), (m0, .inr (6, [.int cd, .int (nI gc), .int (nI dc), .ref m1, .ref m2, .ref m3, .ref m4, .ref m5, .ref m6, .ref m7, .ref m8, .ref m9, .ref m10])), (m1, .inl (cI, 78, .inl P1)), (m2, .inl (cI, 78, .inl A1)), (m3, .inl (cI, 6, .inl oP)), (m4, .inl (cI, 6, .inl oA)), (m5, .inl (cZ, 169, .inl (xf_z gd))), (m6, .inl (cZ, 169, .inl (xf_z bd))), (m7, .inl (cZ, 169, .inl (xf_z ch))), (m8, .inl (cI, 169, .inl st)), (m9, .inl (cZ, 13, .inl (xf_z lf))), (m10, .inl (cI, 13, .inl li)), (o0, .inl (cJ, 1, .inr (.inl O)))] H → va_D (fun q => s.heap.size ≤ q) [(x0, .inr (5, [.ref b0, .ref r0, .ref c0, .ref d0, .ref s0])), (b0, .inr (0, [.ref b1, .ref b2, .int (nI gc), .int (nI dc)])), (b1, .inl (cI, 78, .inl P)), (b2, .inl (cI, 78, .inl A0)), (r0, .inr (3, [.ref r1, .ref r2, .ref r3])), (r1, .inl (cI, 13, .inl G)), (r2, .inl (cI, 13, .inl Bt)), (r3, .inl (cI, 13, .inl C)), (c0, .inr (1, [.ref c1, .ref c2, .ref c3])), (c1, .inl (cI, 13, .inl Hm)), (c2, .inl (cI, 13, .inl Hb)), (c3, .inl (cI, 12, .inl Ls)), (d0, .inr (2, [.int f0, .int e0])), (s0, .inr (4, [.ref s1, .ref s2, .int f1, .int e1])), (s1, .inl (cI, 144, .inl U)), (s2, .inl (cI, 144, .inl E)), (m0, .inr (6, [.int cd, .int (nI gc), .int (nI dc), .ref m1, .ref m2, .ref m3, .ref m4, .ref m5, .ref m6, .ref m7, .ref m8, .ref m9, .ref m10])), (m1, .inl (cI, 78, .inl P1)), (m2, .inl (cI, 78, .inl A1)), (m3, .inl (cI, 6, .inl oP)), (m4, .inl (cI, 6, .inl oA)), (m5, .inl (cZ, 169, .inl (xf_z gd))), (m6, .inl (cZ, 169, .inl (xf_z bd))), (m7, .inl (cZ, 169, .inl (xf_z ch))), (m8, .inl (cI, 169, .inl st)), (m9, .inl (cZ, 13, .inl (xf_z lf))), (m10, .inl (cI, 13, .inl li)), (o0, .inl (cJ, 1, .inr (.inl O)))] → va_S (fun q => s.heap.size ≤ q) s.heap H locs → W p l e room_1 s m #[Value.ref b] below meth c H locs cells slots Q (F0 m 23 ls []) := by
  obtain ⟨hx, hb, hml, hown, hts, hgs, hlk⟩ := id hAt
  have hbA : ¬ (fun q => s.heap.size ≤ q) b := fun z => absurd hbl (Nat.not_lt.mpr z)
  intro n
  induction n with
  | zero =>
    intro gc dc P A0 G Bt C Hm Hb Ls f0 e0 f1 e1 U E cd P1 A1 oP oA gd bd ch st lf li O i ls H locs cells slots hi hn hcc hss hI hl hP hD hS
    refine lv_iload hx hb xj_A_law_23 (lv_at hl 0 rfl) ?_
    refine lv_aload_n hx hb xj_A_law_25 rfl (lv_at hl 1 rfl) ?_
    refine va_slen hx hb hX hbl hbA hS xj_A_law_26 ?_
    refine lv_iconst (v := nI 4) hx hb xj_A_law_27 (by decide) ?_
    refine lv_isub hx hb xj_A_law_28 ?_
    refine lv_icmp_gt (tgt := 1054) hx hb xj_A_law_29 rfl (fun _ => kend ls H locs cells slots hS (by omega) (by omega)) (fun h29 => absurd ((xl_end hL (by omega)).mpr (by omega)) h29)
  | succ n ih =>
    intro gc dc P A0 G Bt C Hm Hb Ls f0 e0 f1 e1 U E cd P1 A1 oP oA gd bd ch st lf li O i ls H locs cells slots hi hn hcc hss hI hl hP hD hS
    have h1048 : ∀ (gc : Nat) (dc : Nat) (P : Nat → Int32) (A0 : Nat → Int32) (G : Nat → Int32) (Bt : Nat → Int32) (C : Nat → Int32) (Hm : Nat → Int32) (Hb : Nat → Int32) (Ls : Nat → Int32) (f0 : Int32) (e0 : Int32) (f1 : Int32) (e1 : Int32) (U : Nat → Int32) (E : Nat → Int32) (cd : Int32) (P1 : Nat → Int32) (A1 : Nat → Int32) (oP : Nat → Int32) (oA : Nat → Int32) (gd : Nat → Bool) (bd : Nat → Bool) (ch : Nat → Bool) (st : Nat → Int32) (lf : Nat → Bool) (li : Nat → Int32) (O : Nat → Int64) (ls : Array Slot) (H : Heap) (locs : List Loc), i + 4 ≤ L → xv_I gc dc P A0 P1 A1 oP oA → lv_has ls 7 [(4, .int (nI i)), (0, .ref b), (1, .ref x0), (2, .ref m0), (3, .ref o0)] → va_P D xn_cl [(x0, .inr (5, [.ref b0, .ref r0, .ref c0, .ref d0, .ref s0])), (b0, .inr (0, [.ref b1, .ref b2, .int (nI gc), .int (nI dc)])), (b1, .inl (cI, 78, .inl P)), (b2, .inl (cI, 78, .inl A0)), (r0, .inr (3, [.ref r1, .ref r2, .ref r3])), (r1, .inl (cI, 13, .inl G)), (r2, .inl (cI, 13, .inl Bt)), (r3, .inl (cI, 13, .inl C)), (c0, .inr (1, [.ref c1, .ref c2, .ref c3])), (c1, .inl (cI, 13, .inl Hm)), (c2, .inl (cI, 13, .inl Hb)), (c3, .inl (cI, 12, .inl Ls)), (d0, .inr (2, [.int f0, .int e0])), (s0, .inr (4, [.ref s1, .ref s2, .int f1, .int e1])), (s1, .inl (cI, 144, .inl U)), (s2, .inl (cI, 144, .inl E)), (m0, .inr (6, [.int cd, .int (nI gc), .int (nI dc), .ref m1, .ref m2, .ref m3, .ref m4, .ref m5, .ref m6, .ref m7, .ref m8, .ref m9, .ref m10])), (m1, .inl (cI, 78, .inl P1)), (m2, .inl (cI, 78, .inl A1)), (m3, .inl (cI, 6, .inl oP)), (m4, .inl (cI, 6, .inl oA)), (m5, .inl (cZ, 169, .inl (xf_z gd))), (m6, .inl (cZ, 169, .inl (xf_z bd))), (m7, .inl (cZ, 169, .inl (xf_z ch))), (m8, .inl (cI, 169, .inl st)), (m9, .inl (cZ, 13, .inl (xf_z lf))), (m10, .inl (cI, 13, .inl li)), (o0, .inl (cJ, 1, .inr (.inl O)))] H → va_D (fun q => s.heap.size ≤ q) [(x0, .inr (5, [.ref b0, .ref r0, .ref c0, .ref d0, .ref s0])), (b0, .inr (0, [.ref b1, .ref b2, .int (nI gc), .int (nI dc)])), (b1, .inl (cI, 78, .inl P)), (b2, .inl (cI, 78, .inl A0)), (r0, .inr (3, [.ref r1, .ref r2, .ref r3])), (r1, .inl (cI, 13, .inl G)), (r2, .inl (cI, 13, .inl Bt)), (r3, .inl (cI, 13, .inl C)), (c0, .inr (1, [.ref c1, .ref c2, .ref c3])), (c1, .inl (cI, 13, .inl Hm)), (c2, .inl (cI, 13, .inl Hb)), (c3, .inl (cI, 12, .inl Ls)), (d0, .inr (2, [.int f0, .int e0])), (s0, .inr (4, [.ref s1, .ref s2, .int f1, .int e1])), (s1, .inl (cI, 144, .inl U)), (s2, .inl (cI, 144, .inl E)), (m0, .inr (6, [.int cd, .int (nI gc), .int (nI dc), .ref m1, .ref m2, .ref m3, .ref m4, .ref m5, .ref m6, .ref m7, .ref m8, .ref m9, .ref m10])), (m1, .inl (cI, 78, .inl P1)), (m2, .inl (cI, 78, .inl A1)), (m3, .inl (cI, 6, .inl oP)), (m4, .inl (cI, 6, .inl oA)), (m5, .inl (cZ, 169, .inl (xf_z gd))), (m6, .inl (cZ, 169, .inl (xf_z bd))), (m7, .inl (cZ, 169, .inl (xf_z ch))), (m8, .inl (cI, 169, .inl st)), (m9, .inl (cZ, 13, .inl (xf_z lf))), (m10, .inl (cI, 13, .inl li)), (o0, .inl (cJ, 1, .inr (.inl O)))] → va_S (fun q => s.heap.size ≤ q) s.heap H locs → W p l e room_1 s m #[Value.ref b] below meth c H locs (cells + 3) (slots + 18) Q (F0 m 1048 ls []) := by
      intro gc dc P A0 G Bt C Hm Hb Ls f0 e0 f1 e1 U E cd P1 A1 oP oA gd bd ch st lf li O ls H locs hi4 hI hl hP hD hS
      refine lv_iinc (k := 0) (v := nI (i + 4)) (lv' := [(4, .int (nI (i + 4))), (0, .ref b), (1, .ref x0), (2, .ref m0), (3, .ref o0)]) hx hb xj_A_law_1048 hl rfl (nI_add i 4) (by decide) rfl (fun ls hl => ?_)
      refine lv_goto (tgt := 23) hx hb xj_A_law_1051 rfl ?_
      exact ih gc dc P A0 G Bt C Hm Hb Ls f0 e0 f1 e1 U E cd P1 A1 oP oA gd bd ch st lf li O (i + 4) ls H locs (cells + 3) (slots + 18) (by omega) (by omega) (by omega) (by omega) hI hl hP hD hS
    refine lv_iload hx hb xj_A_law_23 (lv_at hl 0 rfl) ?_
    refine lv_aload_n hx hb xj_A_law_25 rfl (lv_at hl 1 rfl) ?_
    refine va_slen hx hb hX hbl hbA hS xj_A_law_26 ?_
    refine lv_iconst (v := nI 4) hx hb xj_A_law_27 (by decide) ?_
    refine lv_isub hx hb xj_A_law_28 ?_
    refine lv_icmp_gt (tgt := 1054) hx hb xj_A_law_29 rfl (fun _ => kend ls H locs cells slots hS (by omega) (by omega)) (fun h29 => ?_)
    have hi4 : i + 4 ≤ L := Classical.byContradiction (fun z => h29 ((xl_end hL (by omega)).mpr z))
    refine lv_aload_n hx hb xj_A_law_32 rfl (lv_at hl 1 rfl) ?_
    refine lv_iload hx hb xj_A_law_33 (lv_at hl 0 rfl) ?_
    refine xr_sld hx hb hX hbl hbA hS (by omega) (by omega) xj_A_law_35 ?_
    refine lv_bipush (v := nI 31) hx hb xj_A_law_36 (by decide) ?_
    refine lv_iand hx hb xj_A_law_38 ?_
    obtain ⟨v, hv, ev⟩ := xl_and31 (xs i)
    refine xr_top ev ?_
    have kk := fun gc dc P A0 G Bt C Hm Hb Ls f0 e0 f1 e1 U E cd P1 A1 oP oA gd bd ch st lf li O ls H locs => h1048 gc dc P A0 G Bt C Hm Hb Ls f0 e0 f1 e1 U E cd P1 A1 oP oA gd bd ch st lf li O ls H locs hi4
    by_cases h17 : 17 ≤ v
    · refine lv_tableOut (tgt := 1048) hx hb xj_A_law_39 (Or.inr (by rw [nI_toInt (by omega)]; omega)) rfl ?_
      exact W.widen (k := cells + 3) (n := slots + 18) (by omega) (by omega) (kk gc dc P A0 G Bt C Hm Hb Ls f0 e0 f1 e1 U E cd P1 A1 oP oA gd bd ch st lf li O ls H locs hI hl hP hD hS)
    · have h0 : v = 0 ∨ v = 1 ∨ v = 2 ∨ v = 3 ∨ v = 4 ∨ v = 5 ∨ v = 6 ∨ v = 7 ∨ v = 8 ∨ v = 9 ∨ v = 10 ∨ v = 11 ∨ v = 12 ∨ v = 13 ∨ v = 14 ∨ v = 15 ∨ v = 16 := by omega
      rcases h0 with rfl | rfl | rfl | rfl | rfl | rfl | rfl | rfl | rfl | rfl | rfl | rfl | rfl | rfl | rfl | rfl | rfl
      · refine lv_tableIn (off := 81) (tgt := 120) hx hb xj_A_law_39 (by decide) (by decide) rfl rfl ?_
        exact xh_goods hl0 hL hAt hX hbl hK hT0 hN x0 b0 b1 b2 r0 r1 r2 r3 c0 c1 c2 c3 d0 s0 s1 s2 m0 m1 m2 m3 m4 m5 m6 m7 m8 m9 m10 o0 gc dc P A0 G Bt C Hm Hb Ls f0 e0 f1 e1 U E cd P1 A1 oP oA gd bd ch st lf li O i hi4 ls H locs cells slots (by omega) (by omega) hI hl hP hD hS kk
      · refine lv_tableIn (off := 117) (tgt := 156) hx hb xj_A_law_39 (by decide) (by decide) rfl rfl ?_
        exact xh_day hl0 hL hAt hX hbl hK hT0 hN x0 b0 b1 b2 r0 r1 r2 r3 c0 c1 c2 c3 d0 s0 s1 s2 m0 m1 m2 m3 m4 m5 m6 m7 m8 m9 m10 o0 gc dc P A0 G Bt C Hm Hb Ls f0 e0 f1 e1 U E cd P1 A1 oP oA gd bd ch st lf li O i hi4 ls H locs cells slots (by omega) (by omega) hI hl hP hD hS kk
      · refine lv_tableIn (off := 161) (tgt := 200) hx hb xj_A_law_39 (by decide) (by decide) rfl rfl ?_
        exact xh_price hl0 hL hAt hX hbl hK hT0 hN x0 b0 b1 b2 r0 r1 r2 r3 c0 c1 c2 c3 d0 s0 s1 s2 m0 m1 m2 m3 m4 m5 m6 m7 m8 m9 m10 o0 gc dc P A0 G Bt C Hm Hb Ls f0 e0 f1 e1 U E cd P1 A1 oP oA gd bd ch st lf li O i hi4 ls H locs cells slots (by omega) (by omega) hI hl hP hD hS kk
      · refine lv_tableIn (off := 241) (tgt := 280) hx hb xj_A_law_39 (by decide) (by decide) rfl rfl ?_
        exact xh_amount hl0 hL hAt hX hbl hK hT0 hN x0 b0 b1 b2 r0 r1 r2 r3 c0 c1 c2 c3 d0 s0 s1 s2 m0 m1 m2 m3 m4 m5 m6 m7 m8 m9 m10 o0 gc dc P A0 G Bt C Hm Hb Ls f0 e0 f1 e1 U E cd P1 A1 oP oA gd bd ch st lf li O i hi4 ls H locs cells slots (by omega) (by omega) hI hl hP hD hS kk
      · refine lv_tableIn (off := 321) (tgt := 360) hx hb xj_A_law_39 (by decide) (by decide) rfl rfl ?_
        exact xh_remove hl0 hL hAt hX hbl hK hT0 hN x0 b0 b1 b2 r0 r1 r2 r3 c0 c1 c2 c3 d0 s0 s1 s2 m0 m1 m2 m3 m4 m5 m6 m7 m8 m9 m10 o0 gc dc P A0 G Bt C Hm Hb Ls f0 e0 f1 e1 U E cd P1 A1 oP oA gd bd ch st lf li O i hi4 ls H locs cells slots (by omega) (by omega) hI hl hP hD hS kk
      · refine lv_tableIn (off := 357) (tgt := 396) hx hb xj_A_law_39 (by decide) (by decide) rfl rfl ?_
        exact xh_cost hl0 hL hAt hX hbl hK hT0 hN x0 b0 b1 b2 r0 r1 r2 r3 c0 c1 c2 c3 d0 s0 s1 s2 m0 m1 m2 m3 m4 m5 m6 m7 m8 m9 m10 o0 gc dc P A0 G Bt C Hm Hb Ls f0 e0 f1 e1 U E cd P1 A1 oP oA gd bd ch st lf li O i hi4 ls H locs cells slots (by omega) (by omega) hI hl hP hD hS kk
      · refine lv_tableIn (off := 425) (tgt := 464) hx hb xj_A_law_39 (by decide) (by decide) rfl rfl ?_
        exact xh_shown hl0 hL hAt hX hbl hK hT0 hN x0 b0 b1 b2 r0 r1 r2 r3 c0 c1 c2 c3 d0 s0 s1 s2 m0 m1 m2 m3 m4 m5 m6 m7 m8 m9 m10 o0 gc dc P A0 G Bt C Hm Hb Ls f0 e0 f1 e1 U E cd P1 A1 oP oA gd bd ch st lf li O i hi4 ls H locs cells slots (by omega) (by omega) hI hl hP hD hS kk
      · refine lv_tableIn (off := 493) (tgt := 532) hx hb xj_A_law_39 (by decide) (by decide) rfl rfl ?_
        exact xh_chain hl0 hL hAt hX hbl hK hT0 hN x0 b0 b1 b2 r0 r1 r2 r3 c0 c1 c2 c3 d0 s0 s1 s2 m0 m1 m2 m3 m4 m5 m6 m7 m8 m9 m10 o0 gc dc P A0 G Bt C Hm Hb Ls f0 e0 f1 e1 U E cd P1 A1 oP oA gd bd ch st lf li O i hi4 ls H locs cells slots (by omega) (by omega) hI hl hP hD hS kk
      · refine lv_tableIn (off := 561) (tgt := 600) hx hb xj_A_law_39 (by decide) (by decide) rfl rfl ?_
        exact xh_sensible hl0 hL hAt hX hbl hK hT0 hN x0 b0 b1 b2 r0 r1 r2 r3 c0 c1 c2 c3 d0 s0 s1 s2 m0 m1 m2 m3 m4 m5 m6 m7 m8 m9 m10 o0 gc dc P A0 G Bt C Hm Hb Ls f0 e0 f1 e1 U E cd P1 A1 oP oA gd bd ch st lf li O i hi4 ls H locs cells slots (by omega) (by omega) hI hl hP hD hS kk
      · refine lv_tableIn (off := 624) (tgt := 663) hx hb xj_A_law_39 (by decide) (by decide) rfl rfl ?_
        exact xh_circle hl0 hL hAt hX hbl hK hT0 hN x0 b0 b1 b2 r0 r1 r2 r3 c0 c1 c2 c3 d0 s0 s1 s2 m0 m1 m2 m3 m4 m5 m6 m7 m8 m9 m10 o0 gc dc P A0 G Bt C Hm Hb Ls f0 e0 f1 e1 U E cd P1 A1 oP oA gd bd ch st lf li O i hi4 ls H locs cells slots (by omega) (by omega) hI hl hP hD hS kk
      · refine lv_tableIn (off := 680) (tgt := 719) hx hb xj_A_law_39 (by decide) (by decide) rfl rfl ?_
        exact xh_passes hl0 hL hAt hX hbl hK hT0 hN x0 b0 b1 b2 r0 r1 r2 r3 c0 c1 c2 c3 d0 s0 s1 s2 m0 m1 m2 m3 m4 m5 m6 m7 m8 m9 m10 o0 gc dc P A0 G Bt C Hm Hb Ls f0 e0 f1 e1 U E cd P1 A1 oP oA gd bd ch st lf li O i hi4 ls H locs cells slots (by omega) (by omega) hI hl hP hD hS kk
      · refine lv_tableIn (off := 755) (tgt := 794) hx hb xj_A_law_39 (by decide) (by decide) rfl rfl ?_
        exact xh_shrinkage hl0 hL hAt hX hbl hK hT0 hN x0 b0 b1 b2 r0 r1 r2 r3 c0 c1 c2 c3 d0 s0 s1 s2 m0 m1 m2 m3 m4 m5 m6 m7 m8 m9 m10 o0 gc dc P A0 G Bt C Hm Hb Ls f0 e0 f1 e1 U E cd P1 A1 oP oA gd bd ch st lf li O i hi4 ls H locs cells slots (by omega) (by omega) hI hl hP hD hS kk
      · refine lv_tableIn (off := 811) (tgt := 850) hx hb xj_A_law_39 (by decide) (by decide) rfl rfl ?_
        exact xh_drop hl0 hL hAt hX hbl hK hT0 hN x0 b0 b1 b2 r0 r1 r2 r3 c0 c1 c2 c3 d0 s0 s1 s2 m0 m1 m2 m3 m4 m5 m6 m7 m8 m9 m10 o0 gc dc P A0 G Bt C Hm Hb Ls f0 e0 f1 e1 U E cd P1 A1 oP oA gd bd ch st lf li O i hi4 ls H locs cells slots (by omega) (by omega) hI hl hP hD hS kk
      · refine lv_tableIn (off := 867) (tgt := 906) hx hb xj_A_law_39 (by decide) (by decide) rfl rfl ?_
        exact xh_offer hl0 hL hAt hX hbl hK hT0 hN x0 b0 b1 b2 r0 r1 r2 r3 c0 c1 c2 c3 d0 s0 s1 s2 m0 m1 m2 m3 m4 m5 m6 m7 m8 m9 m10 o0 gc dc P A0 G Bt C Hm Hb Ls f0 e0 f1 e1 U E cd P1 A1 oP oA gd bd ch st lf li O i hi4 ls H locs cells slots (by omega) (by omega) hI hl hP hD hS kk
      · refine lv_tableIn (off := 927) (tgt := 966) hx hb xj_A_law_39 (by decide) (by decide) rfl rfl ?_
        exact xh_fits hl0 hL hAt hX hbl hK hT0 hN x0 b0 b1 b2 r0 r1 r2 r3 c0 c1 c2 c3 d0 s0 s1 s2 m0 m1 m2 m3 m4 m5 m6 m7 m8 m9 m10 o0 gc dc P A0 G Bt C Hm Hb Ls f0 e0 f1 e1 U E cd P1 A1 oP oA gd bd ch st lf li O i hi4 ls H locs cells slots (by omega) (by omega) hI hl hP hD hS kk
      · refine lv_tableIn (off := 940) (tgt := 979) hx hb xj_A_law_39 (by decide) (by decide) rfl rfl ?_
        exact xh_order hl0 hL hAt hX hbl hK hT0 hN x0 b0 b1 b2 r0 r1 r2 r3 c0 c1 c2 c3 d0 s0 s1 s2 m0 m1 m2 m3 m4 m5 m6 m7 m8 m9 m10 o0 gc dc P A0 G Bt C Hm Hb Ls f0 e0 f1 e1 U E cd P1 A1 oP oA gd bd ch st lf li O i hi4 ls H locs cells slots (by omega) (by omega) hI hl hP hD hS kk
      · refine lv_tableIn (off := 996) (tgt := 1035) hx hb xj_A_law_39 (by decide) (by decide) rfl rfl ?_
        exact xh_size hl0 hL hAt hX hbl hK hT0 hN x0 b0 b1 b2 r0 r1 r2 r3 c0 c1 c2 c3 d0 s0 s1 s2 m0 m1 m2 m3 m4 m5 m6 m7 m8 m9 m10 o0 gc dc P A0 G Bt C Hm Hb Ls f0 e0 f1 e1 U E cd P1 A1 oP oA gd bd ch st lf li O i hi4 ls H locs cells slots (by omega) (by omega) hI hl hP hD hS kk
