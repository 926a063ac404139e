/-! the shrinkage: the same fraction -/
theorem xk_cost_n {P A : Nat → Int32} {s t : Nat} (h : ∀ k, k < 6 → (∃ a, a ≤ 99 ∧ P (s * 6 + k) = nI a) ∧ ∃ b, b ≤ 99 ∧ A (t * 6 + k) = nI b) : ∀ (n k x : Nat), k + n ≤ 6 → ∃ y, xk_cost P A s t n k (nI x) = nI y ∧ y ≤ x + n * 9801
  | 0, k, x, _ => ⟨x, rfl, by omega⟩
  | n + 1, k, x, hk => by
    obtain ⟨⟨a, ha, e1⟩, b, hb, e2⟩ := h k (by omega)
    have hab : a * b ≤ 99 * 99 := Nat.mul_le_mul ha hb
    obtain ⟨y, e3, hy⟩ := xk_cost_n h n (k + 1) (x + a * b) (by omega)
    refine ⟨y, ?_, by omega⟩
    show xk_cost P A s t n (k + 1) (nI x + P (s * 6 + k) * A (t * 6 + k)) = nI y
    rw [e1, e2, xm_mul, nI_add]
    exact e3
theorem xv_cn {gc dc : Nat} {P A P1 A1 oP oA : Nat → Int32} (hI : xv_I gc dc P A P1 A1 oP oA) {s t : Nat} (hs : s < dc) (ht : t < dc) : xk_c gc P1 A1 s t = nI (xk_c gc P1 A1 s t).toNatClampNeg ∧ (xk_c gc P1 A1 s t).toNatClampNeg ≤ 58806 := by
  rw [← xv_c hI hs ht]
  obtain ⟨a1, a2, a3, a4, a5, a6⟩ := hI
  obtain ⟨y, e, hy⟩ := xk_cost_n (P := P) (A := A) (s := s) (t := t) (fun k hk => ⟨by
    obtain ⟨⟨q, _, h2, h3⟩, _⟩ := a6 (s * 6 + k) (by omega)
    exact ⟨q, h2, h3⟩, (a6 (t * 6 + k) (by omega)).2⟩) gc 0 0 (by omega)
  have hy2 : y ≤ 58806 := by
    have : gc * 9801 ≤ 6 * 9801 := Nat.mul_le_mul_right _ a2
    omega
  have e' : xk_c gc P A s t = nI y := e
  rw [e', nI_clamp (by omega)]
  exact ⟨rfl, hy2⟩
section XZ6
variable {m : Nat} {cn : Nat → Nat → Nat} {c1 : Nat → Nat → Int32}
theorem xz_fa (hcn : ∀ s t, s < m → t < m → c1 s t = nI (cn s t)) (hcb : ∀ s t, s < m → t < m → cn s t ≤ 58806) {a b s t : Nat} (ha : a ≤ 58806) (hb : b ≤ 58806) (hs : s < m) (ht : t < m) : xm_fa c1 (nI a) (nI b) s t = true ↔ xq_e m cn (fun s => cn s s) (a, b) s t := by
  unfold xm_fa xq_e xq_le
  have b1 := hcb s s hs hs
  have b2 := hcb s t hs ht
  rw [Bool.and_eq_true, Bool.and_eq_true, Bool.not_eq_true', Bool.not_eq_true', Bool.not_eq_true', decide_eq_false_iff_not, decide_eq_false_iff_not, decide_eq_false_iff_not, hcn s s hs hs, hcn s t hs ht, xm_lt64 (by omega) (by omega) (by omega) (by omega), Nat.not_lt]
  have hz : ¬ nI (cn s s) ≤ 0 ↔ 0 < cn s s := by
    constructor
    · exact fun h => Nat.pos_of_ne_zero (fun z => h (by rw [z]; exact Int32.le_refl _))
    · exact fun h => nI_nle h (by omega)
  rw [hz]
  exact ⟨fun h => ⟨hs, ht, h.1, h.2.1, h.2.2⟩, fun h => ⟨h.2.2.1, h.2.2.2.1, h.2.2.2.2⟩⟩
theorem xz_fb (hm : m ≤ 13) (hcn : ∀ s t, s < m → t < m → c1 s t = nI (cn s t)) (hcb : ∀ s t, s < m → t < m → cn s t ≤ 58806) {a b : Nat} (ha : a ≤ 58806) (hb : b ≤ 58806) : xm_fb c1 m (nI a) (nI b) = true ↔ xq_fails m cn (fun s => cn s s) (a, b) := by
  unfold xm_fb
  rw [xm_nb_iff]
  have e1 : ∀ s t, s < m → t < m → (xm_fa c1 (nI a) (nI b) ((13 * s + t) / 13) ((13 * s + t) % 13) = true ↔ xq_e m cn (fun s => cn s s) (a, b) s t) := fun s t hs ht => by
    rw [show (13 * s + t) / 13 = s by omega, show (13 * s + t) % 13 = t by omega]
    exact xz_fa hcn hcb ha hb hs ht
  have e2 : xm_e m (fun _ => true) (fun j => xm_fa c1 (nI a) (nI b) (j / 13) (j % 13)) = xq_e m cn (fun s => cn s s) (a, b) := by
    funext s t
    apply propext
    constructor
    · rintro ⟨h1, h2, _, _, h5⟩
      exact (e1 s t h1 h2).mp h5
    · intro h
      exact ⟨h.1, h.2.1, rfl, rfl, (e1 s t h.1 h.2.1).mpr h⟩
  unfold xm_bp xq_fails
  rw [e2]
  constructor
  · rintro ⟨s, t, h1, h2, _, _, h5, h6⟩
    exact ⟨s, h1, xg_tc_r h2 h6 ((e1 t s h2 h1).mp h5)⟩
  · rintro ⟨s, h1, n, h2⟩
    have h3 : ∀ n t, xg_d m (xq_e m cn (fun s => cn s s) (a, b)) n s t → t = s → ∃ u, u < m ∧ xg_tc m (xq_e m cn (fun s => cn s s) (a, b)) s u ∧ xq_e m cn (fun s => cn s s) (a, b) u s := by
      intro n
      induction n with
      | zero => intro t h; exact h.elim
      | succ n ih =>
        intro t h hts
        rcases xg_ds.mp h with h | h | ⟨u, hu, h3, h4⟩
        · exact absurd hts.symm h.2.2.1
        · exact ih t h hts
        · exact ⟨u, hu, ⟨n, h3⟩, by rw [← hts]; exact h4⟩
    obtain ⟨u, hu, h4, h5⟩ := h3 n s h2 rfl
    exact ⟨s, u, h1, hu, rfl, rfl, (e1 u s hu h1).mpr h5, h4⟩
def xz_I (m : Nat) (cn : Nat → Nat → Nat) (x : Nat × Nat) : Prop := 0 < x.2 ∧ (x = (1, 1) ∨ xq_fails m cn (fun s => cn s s) x) ∧ ¬ xq_lt (1, 1) x
theorem xz_h1 {fb : Nat → Nat → Bool} (hfb : ∀ s t, s < m → t < m → (fb (cn s t) (cn s s) = true ↔ xq_fails m cn (fun s => cn s s) (cn s t, cn s s))) {s : Nat} (hs : s < m) : ∀ (n t : Nat) (x : Nat × Nat), t + n = m → xz_I m cn x →
    xz_I m cn (xm_h1 cn fb s n t x) ∧ (∀ p, xq_ok p → xq_lt p (xm_h1 cn fb s n t x) → xq_lt p x) ∧ ∀ t', t ≤ t' → t' < m → s ≠ t' → 0 < cn s s → xq_fails m cn (fun s => cn s s) (cn s t', cn s s) → ¬ xq_lt (cn s t', cn s s) (xm_h1 cn fb s n t x)
  | 0, t, x, ht, hx => ⟨hx, fun p _ h => h, fun t' h1 h2 => absurd h2 (by omega)⟩
  | n + 1, t, x, ht, hx => by
    have htm : t < m := by omega
    by_cases hC : s ≠ t ∧ cn s s ≠ 0 ∧ cn s t * x.2 < x.1 * cn s s ∧ fb (cn s t) (cn s s) = true
    · have hlt : xq_lt (cn s t, cn s s) x := hC.2.2.1
      have hok : xq_ok (cn s t, cn s s) := Or.inr (Nat.pos_of_ne_zero hC.2.1)
      rw [xm_h1_1 hC.1 hC.2.1 hC.2.2.1 hC.2.2.2]
      have hx1 : xz_I m cn (cn s t, cn s s) := ⟨Nat.pos_of_ne_zero hC.2.1, Or.inr ((hfb s t hs htm).mp hC.2.2.2), fun z => hx.2.2 (xq_tr (Or.inl (by decide)) z hlt)⟩
      obtain ⟨i1, i2, i3⟩ := xz_h1 hfb hs n (t + 1) (cn s t, cn s s) (by omega) hx1
      refine ⟨i1, fun p hp h => xq_tr hp (i2 p hp h) hlt, fun t' h1 h2 h3 h4 h5 => ?_⟩
      by_cases hz : t' = t
      · subst hz
        exact fun z => absurd (i2 _ hok z) (Nat.lt_irrefl _)
      · exact i3 t' (by omega) h2 h3 h4 h5
    · rw [xm_h1_0 hC]
      obtain ⟨i1, i2, i3⟩ := xz_h1 hfb hs n (t + 1) x (by omega) hx
      refine ⟨i1, i2, fun t' h1 h2 h3 h4 h5 => ?_⟩
      by_cases hz : t' = t
      · subst hz
        exact fun z => hC ⟨h3, Nat.pos_iff_ne_zero.mp h4, i2 _ (Or.inr h4) z, (hfb s t' hs h2).mpr h5⟩
      · exact i3 t' (by omega) h2 h3 h4 h5
theorem xz_h2 {fb : Nat → Nat → Bool} (hfb : ∀ s t, s < m → t < m → (fb (cn s t) (cn s s) = true ↔ xq_fails m cn (fun s => cn s s) (cn s t, cn s s))) : ∀ (n s : Nat) (x : Nat × Nat), s + n = m → xz_I m cn x →
    xz_I m cn (xm_h2 cn fb m n s x) ∧ (∀ p, xq_ok p → xq_lt p (xm_h2 cn fb m n s x) → xq_lt p x) ∧ ∀ s' t', s ≤ s' → s' < m → t' < m → s' ≠ t' → 0 < cn s' s' → xq_fails m cn (fun s => cn s s) (cn s' t', cn s' s') → ¬ xq_lt (cn s' t', cn s' s') (xm_h2 cn fb m n s x)
  | 0, s, x, hs, hx => ⟨hx, fun p _ h => h, fun s' t' h1 h2 => absurd h2 (by omega)⟩
  | n + 1, s, x, hs, hx => by
    obtain ⟨j1, j2, j3⟩ := xz_h1 hfb (show s < m by omega) m 0 x (by omega) hx
    obtain ⟨i1, i2, i3⟩ := xz_h2 hfb n (s + 1) (xm_h1 cn fb s m 0 x) (by omega) j1
    refine ⟨i1, fun p hp h => j2 p hp (i2 p hp h), fun s' t' h1 h2 h3 h4 h5 h6 => ?_⟩
    by_cases hz : s' = s
    · subst hz
      exact fun z => j3 t' (Nat.zero_le t') h3 h4 h5 h6 (i2 _ (Or.inr h5) z)
    · exact i3 s' t' (by omega) h2 h3 h4 h5 h6
end XZ6
theorem xz_shr {gc dc : Nat} {P A P1 A1 oP oA U E : Nat → Int32} (hI : xv_I gc dc P A P1 A1 oP oA) {X : Nat × Nat} (hX : X = xm_h2 (fun s t => (xk_c gc P1 A1 s t).toNatClampNeg) (fun a b => xm_fb (xk_c gc P1 A1) dc (nI a) (nI b)) dc dc 0 (1, 1)) : xo_fin gc P A dc U E = (nI (X.1 / Nat.gcd X.1 X.2), nI (X.2 / Nat.gcd X.1 X.2)) := by
  have hd := hI.2.2.1
  generalize hcnd : (fun s t => (xk_c gc P1 A1 s t).toNatClampNeg) = cn at hX
  have hcn : ∀ s t, s < dc → t < dc → xk_c gc P1 A1 s t = nI (cn s t) := fun s t hs ht => by rw [← hcnd]; exact (xv_cn hI hs ht).1
  have hcb : ∀ s t, s < dc → t < dc → cn s t ≤ 58806 := fun s t hs ht => by rw [← hcnd]; exact (xv_cn hI hs ht).2
  have hc : ∀ s t, s < dc → t < dc → xk_c gc P A s t = nI (cn s t) := fun s t hs ht => (xv_c hI hs ht).trans (hcn s t hs ht)
  have hPr : ∀ p : Nat × Nat, (p = (1, 0) ∨ ∃ s t, s < dc ∧ t < dc ∧ s ≠ t ∧ 0 < cn s s ∧ p = (cn s t, cn s s)) → p.1 ≤ 58806 ∧ p.2 ≤ 58806 ∧ xq_ok p := by
    rintro p (rfl | ⟨s, t, h1, h2, _, h4, rfl⟩)
    · exact ⟨by decide, by decide, Or.inl (by decide)⟩
    · exact ⟨hcb s t h1 h2, hcb s s h1 h1, Or.inr h4⟩
  have hF0 : xz_F dc (fun p => p = (1, 0) ∨ ∃ s t, s < dc ∧ t < dc ∧ s ≠ t ∧ 0 < cn s s ∧ p = (cn s t, cn s s)) (xk_rs (xk_su (xk_c gc P A)) dc dc 0 U, xk_rs (xk_sd (xk_c gc P A)) dc dc 0 E) (fun s t => if s ≠ t ∧ 0 < cn s s then (cn s t, cn s s) else (1, 0)) := by
    intro s t hs ht
    show xk_rs (xk_su (xk_c gc P A)) dc dc 0 U (s * 12 + t) = _ ∧ xk_rs (xk_sd (xk_c gc P A)) dc dc 0 E (s * 12 + t) = _ ∧ _
    rw [xk_rs_at hd dc 0 _ s t ht (Nat.zero_le s) (by omega), xk_rs_at hd dc 0 _ s t ht (Nat.zero_le s) (by omega)]
    have b1 := hcb s s hs hs
    dsimp only
    by_cases h : s ≠ t ∧ 0 < cn s s
    · have h2 : ¬ xk_c gc P A s s ≤ 0 := by rw [hc s s hs hs]; exact nI_nle h.2 (by omega)
      rw [if_pos h, xk_su_t h.1 h2, xk_sd_t h.1 h2]
      exact ⟨hc s t hs ht, hc s s hs hs, Or.inr ⟨s, t, hs, ht, h.1, h.2, rfl⟩⟩
    · have h2 : s = t ∨ xk_c gc P A s s ≤ 0 := by
        by_cases hst : s = t
        · exact Or.inl hst
        · refine Or.inr ?_
          rw [hc s s hs hs, show cn s s = 0 from Nat.eq_zero_of_not_pos (fun z => h ⟨hst, z⟩)]
          exact Int32.le_refl _
      rw [if_neg h, xk_su_f h2, xk_sd_f h2]
      exact ⟨rfl, rfl, Or.inl rfl⟩
  obtain ⟨F', h1, h2⟩ := xz_gv_tc hd hPr hF0
  obtain ⟨f', g1, g2, g3, g4⟩ := xz_gf hd hPr (U := (xo_gv gc P A dc U E).1) (E := (xo_gv gc P A dc U E).2) (F := F') h1 dc 0 (1, 1) (by omega) (Or.inl rfl) (fun r hr => absurd hr (Nat.not_lt_zero r)) (Nat.lt_irrefl _)
  have hfb : ∀ s t, s < dc → t < dc → ((fun a b => xm_fb (xk_c gc P1 A1) dc (nI a) (nI b)) (cn s t) (cn s s) = true ↔ xq_fails dc cn (fun s => cn s s) (cn s t, cn s s)) := fun s t hs ht => xz_fb (by omega) hcn hcb (hcb s t hs ht) (hcb s s hs hs)
  obtain ⟨i1, _, i3⟩ := xz_h2 (m := dc) (cn := cn) (fb := fun a b => xm_fb (xk_c gc P1 A1) dc (nI a) (nI b)) hfb dc 0 (1, 1) (by omega) ⟨by decide, Or.inl rfl, Nat.lt_irrefl _⟩
  rw [← hX] at i1 i3
  have hsame := xq_same (n := dc) (a := cn) (b := fun s => cn s s) (F := F') (f := f') (r := X) (fun q hq s t hs ht => by
      rw [h2 q hq s t hs ht]
      have e : (fun s t => s < dc ∧ t < dc ∧ xq_le q (if s ≠ t ∧ 0 < cn s s then (cn s t, cn s s) else (1, 0))) = xq_e dc cn (fun s => cn s s) q := by
        funext s t
        apply propext
        unfold xq_e
        constructor
        · rintro ⟨a1, a2, a3⟩
          by_cases h : s ≠ t ∧ 0 < cn s s
          · rw [if_pos h] at a3; exact ⟨a1, a2, h.1, h.2, a3⟩
          · rw [if_neg h] at a3
            unfold xq_le at a3
            omega
        · rintro ⟨a1, a2, a3, a4, a5⟩
          exact ⟨a1, a2, by rw [if_pos ⟨a3, a4⟩]; exact a5⟩
      rw [e]) (fun s t hs ht => (hPr _ (h1 s t hs ht).2.2).2.2) (fun s t hs ht => (h1 s t hs ht).2.2) g2 g3 g4 i1.1 i1.2.1 (fun s t hs ht h3 h4 h5 => i3 s t (Nat.zero_le s) hs ht h3 h4 h5) i1.2.2
  have hb : f'.1 ≤ 58806 ∧ f'.2 ≤ 58806 := by
    rcases g2 with rfl | ⟨r, hr, rfl, _⟩
    · exact ⟨by decide, by decide⟩
    · exact ⟨(hPr _ (h1 r r hr hr).2.2).1, (hPr _ (h1 r r hr hr).2.2).2.1⟩
  show xk_red (xk_gf (xo_gv gc P A dc U E).1 (xo_gv gc P A dc U E).2 dc 0 (nI 1, nI 1)) = _
  have g1' : xk_gf (xo_gv gc P A dc U E).1 (xo_gv gc P A dc U E).2 dc 0 (nI 1, nI 1) = (nI f'.1, nI f'.2) := g1
  rw [g1', xk_red_at hb.1 hb.2 hsame.1]
  obtain ⟨q1, q2⟩ := xq_red hsame.1 i1.1 hsame.2
  rw [q1, q2]
