/-! circles: the same list -/
theorem xz_Ghi {gc : Nat} {P A : Nat → Int32} {x u d : Int32} {G : Nat → Int32} {s t : Nat} (hs : s < 13) (ht : 13 ≤ t) : bt (xo_G gc P A x u d G s) t = false := by
  unfold xo_G
  rw [xf_fill_at, if_pos (by omega)]
  unfold xk_rowG
  split
  · rw [xk_rg_bt 13 0 _ t (by omega), xf_bt_bi (by omega), decide_eq_false (by omega : ¬ t = s), decide_eq_false (show ¬ (0 ≤ t ∧ t < 0 + 13 ∧ t ≠ s) by omega)]
    rfl
  · exact b_0 t
theorem xz_Bhi {gc : Nat} {P A : Nat → Int32} {x u d : Int32} {B : Nat → Int32} {s t : Nat} (hs : s < 13) (ht : 13 ≤ t) : bt (xo_B gc P A x u d B s) t = false := by
  unfold xo_B
  rw [xf_fill_at, if_pos (by omega)]
  unfold xk_rowB
  split
  · rw [xk_rb_bt 13 0 _ t (by omega), show bt (nI 0) t = false from b_0 t, decide_eq_false (show ¬ (0 ≤ t ∧ t < 0 + 13 ∧ t ≠ s) by omega)]
    rfl
  · exact b_0 t
theorem xm_b_g {c : Nat → Nat → Int32} {u d : Int64} {s t : Nat} (h : xm_b c u d s t = true) : xm_g c u d s t = true := by
  unfold xm_b at h
  rw [Bool.and_eq_true, Bool.not_eq_true', Bool.not_eq_true', decide_eq_false_iff_not, decide_eq_false_iff_not] at h
  exact xm_g_t (fun z => h.2 (Int64.le_of_lt z))
section XZ9
variable {gc dc : Nat} {P A P1 A1 oP oA : Nat → Int32} {G B : Nat → Int32} {lf gd bd ch : Nat → Bool} {st : Nat → Int32}
theorem xz_Yr (hI : xv_I gc dc P A P1 A1 oP oA) : xz_Y dc (xo_G gc P A (xo_X dc) (nI 1) (nI 1) G) (xo_B gc P A (xo_X dc) (nI 1) (nI 1) B) (xm_e dc (xm_L dc lf) (xm_G (xk_c gc P1 A1) (lN 1) (lN 1) dc gd)) (fun s t => s < dc ∧ t < dc ∧ xm_B (xk_c gc P1 A1) (lN 1) (lN 1) dc bd (13 * s + t) = true) := by
  have hd := hI.2.2.1
  have hrec := xz_rec hI
  refine ⟨hd, fun a u ha hu => ?_, fun a u ha hu => ?_, fun a u h => ⟨h.1, h.2.1⟩, fun a u h => ?_⟩
  · by_cases h13 : u < 13
    · exact xz_e hI a u ha h13
    · rw [xz_Ghi ha (by omega)]
      exact ⟨fun h => (by cases h), fun h => absurd h.2.1 (by omega)⟩
  · by_cases h13 : u < 13
    · constructor
      · intro z
        have h2 := xz_Bin ha h13 z
        rw [xz_X hd, xz_X hd, decide_eq_true_eq, decide_eq_true_eq] at h2
        refine ⟨h2.1, h2.2, ?_⟩
        rw [xm_B_at (by omega) h2.1 h2.2, ← xz_l1, ← (xz_gb (G := G) (B := B) hrec h2.1 h2.2).2]
        exact z
      · rintro ⟨h1, h2, h5⟩
        rw [xm_B_at (by omega) h1 h2, ← xz_l1, ← (xz_gb (G := G) (B := B) hrec h1 h2).2] at h5
        exact h5
    · rw [xz_Bhi ha (by omega)]
      exact ⟨fun h => (by cases h), fun h => absurd h.2.1 (by omega)⟩
  · refine ⟨h.1, h.2.1, xm_L_at h.1, xm_L_at h.2.1, ?_⟩
    have h3 := h.2.2
    rw [xm_B_at (by omega) h.1 h.2.1] at h3
    rw [xm_G_at (by omega) h.1 h.2.1]
    exact xm_b_g h3
theorem xl_hb_in {m : Nat} {g b : Nat → Nat → Prop} (hg : ∀ s t, g s t → s < m ∧ t < m) (hb : ∀ s t, b s t → g s t) {n s z : Nat} (h : xl_hb m g b n s z) : s < m ∧ 1 ≤ n := by
  cases n with
  | zero => exact h.elim
  | succ n =>
    rcases xl_hbs.mp h with ⟨u, _, h1, _⟩ | ⟨u, _, h1, _⟩
    · exact ⟨(hg s u h1).1, by omega⟩
    · exact ⟨(hg s u (hb s u h1)).1, by omega⟩
theorem xz_hex (hI : xv_I gc dc P A P1 A1 oP oA) : ∀ k q, xo_R (xo_G gc P A (xo_X dc) (nI 1) (nI 1) G) (xo_B gc P A (xo_X dc) (nI 1) (nI 1) B) = (nI k, nI q) → k < 12 → q ≤ 12 → ∃ Aq Fq, xk_seq (xo_G gc P A (xo_X dc) (nI 1) (nI 1) G) (xo_B gc P A (xo_X dc) (nI 1) (nI 1) B) k q Aq Fq := by
  intro k q e hk hq
  have hY := xz_Yr (G := G) (B := B) (lf := fun _ => true) (gd := fun _ => true) (bd := fun _ => true) hI
  rcases xz_find hY with ⟨h1, _⟩ | ⟨k', q', a1, a2, a3, a4, a5, _⟩
  · exact absurd (congrArg Prod.fst (e.symm.trans h1)) (xk_n1 (by omega))
  · obtain ⟨e1, e2⟩ := Prod.mk.inj (e.symm.trans a4)
    have e1 := (nI_eq (by omega) (by omega)).mp e1
    have e2 := (nI_eq (by omega) (by omega)).mp e2
    subst e1
    subst e2
    exact xz_seq_ex hY (xl_hb_in hY.2.2.2.1 hY.2.2.2.2 a5).1 a5
end XZ9
