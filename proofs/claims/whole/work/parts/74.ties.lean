/-! circles: all that the law needs -/
theorem xz_circ {gc dc : Nat} {P A P1 A1 oP oA : Nat → Int32} {G B : Nat → Int32} {lf gd bd ch : Nat → Bool} {st : Nat → Int32} (hI : xv_I gc dc P A P1 A1 oP oA) :
    ∃ q0, q0 ≤ 12 ∧ xm_s2 dc (xm_B (xk_c gc P1 A1) (lN 1) (lN 1) dc bd) (xm_K dc (xm_L dc lf) (xm_G (xk_c gc P1 A1) (lN 1) (lN 1) dc gd) ch st).1 (xm_K dc (xm_L dc lf) (xm_G (xk_c gc P1 A1) (lN 1) (lN 1) dc gd) ch st).2.1 dc 0 (nI 0) = nI q0 ∧ (xo_R (xo_G gc P A (xo_X dc) (nI 1) (nI 1) G) (xo_B gc P A (xo_X dc) (nI 1) (nI 1) B)).2 = nI q0 ∧
    ∀ k q Aq Fq, xo_R (xo_G gc P A (xo_X dc) (nI 1) (nI 1) G) (xo_B gc P A (xo_X dc) (nI 1) (nI 1) B) = (nI k, nI q) → k < 12 → 0 < q → q ≤ 12 → xk_seq (xo_G gc P A (xo_X dc) (nI 1) (nI 1) G) (xo_B gc P A (xo_X dc) (nI 1) (nI 1) B) k q Aq Fq →
      q = q0 ∧ ∃ K rz, xs_run dc q0 (xm_may (xm_G (xk_c gc P1 A1) (lN 1) (lN 1) dc gd)) (xm_cir (xm_G (xk_c gc P1 A1) (lN 1) (lN 1) dc gd) (xm_B (xk_c gc P1 A1) (lN 1) (lN 1) dc bd) q0) K 1 (fun _ => 0) = some rz ∧ ∀ j, j < q0 → rz j - 1 = Aq j := by
  have hd := hI.2.2.1
  have hY := xz_Yr (G := G) (B := B) (lf := lf) (gd := gd) (bd := bd) hI
  have hr : ∀ a, a < dc → xm_e dc (xm_L dc lf) (xm_G (xk_c gc P1 A1) (lN 1) (lN 1) dc gd) a a := fun a ha => ⟨ha, ha, xm_L_at ha, xm_L_at ha, by rw [xm_G_at (by omega) ha ha]; exact xm_g_e rfl⟩
  have hirr : ∀ a, a < dc → xm_B (xk_c gc P1 A1) (lN 1) (lN 1) dc bd (13 * a + a) = false := fun a ha => by rw [xm_B_at (by omega) ha ha]; exact xm_b_e rfl
  obtain ⟨q0, hq0, e0, hW⟩ := xz_len (ch0 := ch) (st0 := st) hY hr hirr
  refine ⟨q0, hq0, e0, ?_⟩
  rcases xz_find hY with ⟨h1, h2⟩ | ⟨k', q', a1, a2, a3, a4, a5, a6, a7⟩
  · have hz : q0 = 0 := by
      rcases hW with ⟨w, _⟩ | ⟨w, ⟨z, hz⟩, _⟩
      · exact w
      · have h3 := (xl_hb_in hY.2.2.2.1 hY.2.2.2.2 hz).1
        exact absurd hz (h2 z q0 (by omega) w hq0)
    refine ⟨by rw [h1, hz], fun k q Aq Fq e hk => ?_⟩
    exact absurd (congrArg Prod.fst (e.symm.trans h1)) (xk_n1 (by omega))
  · have hqq : q' = q0 := by
      rcases hW with ⟨_, w⟩ | ⟨w, ⟨z, hz⟩, w2⟩
      · exact absurd a5 (w k' q')
      · have h3 := (xl_hb_in hY.2.2.2.1 hY.2.2.2.2 hz).1
        have h4 := a6 z q0 (by omega) w hq0 hz
        have h5 := w2 k' q' a5
        omega
    have hmin : ∀ z n, xl_hb dc (xm_e dc (xm_L dc lf) (xm_G (xk_c gc P1 A1) (lN 1) (lN 1) dc gd)) (fun s t => s < dc ∧ t < dc ∧ xm_B (xk_c gc P1 A1) (lN 1) (lN 1) dc bd (13 * s + t) = true) n z z → q' ≤ n := fun z n hz => by
      rcases hW with ⟨_, w⟩ | ⟨_, _, w2⟩
      · exact absurd hz (w z n)
      · rw [hqq]; exact w2 z n hz
    refine ⟨by rw [a4, hqq], fun k q Aq Fq e hk hq1 hq hs => ?_⟩
    obtain ⟨e1, e2⟩ := Prod.mk.inj (e.symm.trans a4)
    have e1 := (nI_eq (by omega) (by omega)).mp e1
    have e2 := (nI_eq (by omega) (by omega)).mp e2
    subst e1
    subst e2
    refine ⟨hqq, ?_⟩
    rw [← hqq]
    exact xz_list hY (fun a ha => xm_L_at ha) hk hq1 a5 hmin a7 hs
