/-! the two records show the same: the steps of a chain, the table of wishes -/
theorem xk_ost_bt {G : Nat → Int32} {x : Int32} {t : Nat} : ∀ (n i : Nat) (r : Int32), i + n ≤ 32 → (bt (xk_ost G x n i r) t = true ↔ (bt r t = true ∨ ∃ u, i ≤ u ∧ u < i + n ∧ bt x u = true ∧ bt (G u) t = true))
  | 0, i, r, _ => ⟨Or.inl, fun h => h.elim id (fun ⟨u, h1, h2, _⟩ => absurd h1 (by omega))⟩
  | n + 1, i, r, hn => by
    show bt (xk_ost G x n (i + 1) (r ||| (if xf_hs x (nI i) = true then G i else nI 0))) t = true ↔ _
    rw [xk_ost_bt n (i + 1) _ (by omega), b_or, Bool.or_eq_true, xf_hs_bt (by omega)]
    constructor
    · rintro ((h | h) | ⟨u, h1, h2, h3⟩)
      · exact Or.inl h
      · cases hx : bt x i
        · rw [hx, if_neg (by decide), show bt (nI 0) t = false from b_0 t] at h; cases h
        · rw [hx, if_pos rfl] at h
          exact Or.inr ⟨i, Nat.le_refl i, by omega, hx, h⟩
      · exact Or.inr ⟨u, by omega, by omega, h3⟩
    · rintro (h | ⟨u, h1, h2, h3, h4⟩)
      · exact Or.inl (Or.inl h)
      · by_cases hu : u = i
        · subst hu
          refine Or.inl (Or.inr ?_)
          rw [h3, if_pos rfl]; exact h4
        · exact Or.inr ⟨u, by omega, by omega, h3, h4⟩
theorem xz_stp {m : Nat} {e : Nat → Nat → Prop} {G : Nat → Int32} {s t : Nat} (hm : m ≤ 13) (ht : t < 13) (hin : ∀ a b, e a b → a < m ∧ b < m) (hr : ∀ a, a < m → e a a) (hG : ∀ a b, a < 13 → b < 13 → (bt (G a) b = true ↔ e a b)) :
    ∀ (n k : Nat) (y : Int32), 1 ≤ k → (∀ b, b < 13 → (bt y b = true ↔ xg_d m e k s b)) → ¬ xg_d m e (k - 1) s t → (∃ j, k ≤ j ∧ j < k + n ∧ xm_lv m e j s t ∧ xk_stp G t n k y = nI j) ∨ (¬ xg_d m e (k + n - 1) s t ∧ xk_stp G t n k y = -1)
  | 0, k, y, _, _, h => Or.inr ⟨h, rfl⟩
  | n + 1, k, y, hk, hy, h => by
    cases hb : xf_hs y (nI t)
    · have hnd : ¬ xg_d m e k s t := fun z => by
        rw [xf_hs_bt (by omega), (hy t ht).mpr z] at hb; cases hb
      rw [xk_stp_0 hb]
      have h2 := xz_stp hm ht hin hr hG n (k + 1) (xk_ost G y 13 0 (nI 0)) (by omega) (fun b hb2 => by
        rw [xk_ost_bt 13 0 _ (by omega), show bt (nI 0) b = false from b_0 b, xg_ds]
        constructor
        · rintro (h3 | ⟨u, _, h3, h4, h5⟩)
          · cases h3
          · have h6 := (hG u b (by omega) hb2).mp h5
            exact Or.inr (Or.inr ⟨u, (hin u b h6).1, (hy u (by omega)).mp h4, h6⟩)
        · intro h3
          have hkd : xg_d m e k s b → False ∨ ∃ u, 0 ≤ u ∧ u < 0 + 13 ∧ bt y u = true ∧ bt (G u) b = true := fun h4 => by
            have h5 := (xg_in hin h4).2
            exact Or.inr ⟨b, Nat.zero_le b, by omega, (hy b hb2).mpr h4, (hG b b hb2 hb2).mpr (hr b h5)⟩
          have h6 : False ∨ ∃ u, 0 ≤ u ∧ u < 0 + 13 ∧ bt y u = true ∧ bt (G u) b = true := by
            rcases h3 with h3 | h3 | ⟨u, hu, h3, h4⟩
            · refine hkd (xg_mono' hk (xg_ds.mpr (Or.inl h3)))
            · exact hkd h3
            · exact Or.inr ⟨u, Nat.zero_le u, by omega, (hy u (by omega)).mpr h3, (hG u b (by omega) hb2).mpr h4⟩
          exact h6.elim (fun z => z.elim) Or.inr) (by rw [show k + 1 - 1 = k by omega]; exact hnd)
      rcases h2 with ⟨j, h3, h4, h5, h6⟩ | ⟨h3, h4⟩
      · exact Or.inl ⟨j, by omega, by omega, h5, h6⟩
      · exact Or.inr ⟨by rw [show k + (n + 1) - 1 = k + 1 + n - 1 by omega]; exact h3, h4⟩
    · rw [xk_stp_1 hb]
      rw [xf_hs_bt (by omega)] at hb
      exact Or.inl ⟨k, Nat.le_refl k, by omega, ⟨(hy t ht).mp hb, h⟩, rfl⟩
section XZ2
variable {gc dc : Nat} {P A P1 A1 oP oA : Nat → Int32} {G C : Nat → Int32} {lf gd ch : Nat → Bool} {st : Nat → Int32}
theorem xz_e (hI : xv_I gc dc P A P1 A1 oP oA) : ∀ a b, a < 13 → b < 13 → (bt (xo_G gc P A (xo_X dc) (nI 1) (nI 1) G a) b = true ↔ xm_e dc (xm_L dc lf) (xm_G (xk_c gc P1 A1) (lN 1) (lN 1) dc gd) a b) := by
  intro a b ha hb
  have hd := hI.2.2.1
  have h := xz_rec hI
  constructor
  · intro z
    have h2 := xz_Gin ha hb z
    rw [xz_X hd, xz_X hd, decide_eq_true_eq, decide_eq_true_eq] at h2
    refine ⟨h2.1, h2.2, xm_L_at h2.1, xm_L_at h2.2, ?_⟩
    rw [xm_G_at (by omega) h2.1 h2.2, ← xz_l1, ← (xz_gb (G := G) (B := G) h h2.1 h2.2).1]
    exact z
  · rintro ⟨h1, h2, _, _, h5⟩
    rw [xm_G_at (by omega) h1 h2, ← xz_l1, ← (xz_gb (G := G) (B := G) h h1 h2).1] at h5
    exact h5
theorem xz_chain (hI : xv_I gc dc P A P1 A1 oP oA) {k j : Nat} (hk : k < dc) (hj : j < dc) : xk_stp (xo_G gc P A (xo_X dc) (nI 1) (nI 1) G) j 13 1 (xo_G gc P A (xo_X dc) (nI 1) (nI 1) G k) = if (xm_K dc (xm_L dc lf) (xm_G (xk_c gc P1 A1) (lN 1) (lN 1) dc gd) ch st).1 (13 * k + j) = true then (xm_K dc (xm_L dc lf) (xm_G (xk_c gc P1 A1) (lN 1) (lN 1) dc gd) ch st).2.1 (13 * k + j) else -1 := by
  have hd := hI.2.2.1
  have he := xz_e (G := G) (lf := lf) (gd := gd) hI
  have hin : ∀ a b, xm_e dc (xm_L dc lf) (xm_G (xk_c gc P1 A1) (lN 1) (lN 1) dc gd) a b → a < dc ∧ b < dc := fun a b h => ⟨h.1, h.2.1⟩
  have hr : ∀ a, a < dc → xm_e dc (xm_L dc lf) (xm_G (xk_c gc P1 A1) (lN 1) (lN 1) dc gd) a a := fun a ha => ⟨ha, ha, xm_L_at ha, xm_L_at ha, by rw [xm_G_at (by omega) ha ha]; exact xm_g_e rfl⟩
  have hJ := xm_K_J (m := dc) (lf := xm_L dc lf) (gd := xm_G (xk_c gc P1 A1) (lN 1) (lN 1) dc gd) (ch := ch) (st := st) (by omega) k hk j hj
  rcases xz_stp (t := j) (by omega) (by omega) hin hr he 13 1 (xo_G gc P A (xo_X dc) (nI 1) (nI 1) G k) (Nat.le_refl 1) (fun b hb => by
      rw [he k b (by omega) hb]
      constructor
      · exact fun h => xg_ds.mpr (Or.inl h)
      · intro h
        rcases xg_ds.mp h with h | h | ⟨u, _, h, _⟩
        · exact h
        · exact h.elim
        · exact h.elim) (fun z => z.elim) with ⟨q, h1, h2, h3, h4⟩ | ⟨h1, h2⟩
  · have h5 := hJ.1.mpr (xg_full hin h3.1)
    rw [h4, if_pos h5]
    obtain ⟨q2, a1, a2, a3, a4⟩ := hJ.2.2 h5
    rw [a3, xm_lv_one h3 a4 h1 a1]
  · rw [h2, if_neg (fun z => h1 (xg_mono' (by omega) (hJ.1.mp z)))]
end XZ2
/-- one of a set is outdone by none -/
theorem xz_top {m : Nat} {S : Nat → Prop} {R : Nat → Nat → Prop} (hr : ∀ a, a < m → S a → R a a) (ht : ∀ a b c, a < m → b < m → c < m → R a b → R b c → R a c) : ∀ n d, d < m → S d → m - xg_cn (fun u => S u ∧ R d u) m ≤ n → ∃ k, k < m ∧ S k ∧ ∀ t, t < m → S t → R t k → R k t := by
  intro n
  induction n with
  | zero =>
    intro d hd hS hn
    refine ⟨d, hd, hS, fun t htm hSt hR => Classical.byContradiction fun hno => ?_⟩
    have h1 : xg_cn (fun u => S u ∧ R d u) m < xg_cn (fun u => S u ∧ R t u) m := xg_cn_lt (p := fun u => S u ∧ R d u) (q := fun u => S u ∧ R t u) (j := t) ⟨hSt, hr t htm hSt⟩ (fun z => hno z.2) m (fun i hi h => ⟨h.1, ht t d i htm hd hi hR h.2⟩) htm
    have h2 := xg_cn_le (fun u => S u ∧ R t u) m
    omega
  | succ n ih =>
    intro d hd hS hn
    by_cases hex : ∃ t, t < m ∧ S t ∧ R t d ∧ ¬ R d t
    · obtain ⟨t, htm, hSt, hR, hno⟩ := hex
      have h1 : xg_cn (fun u => S u ∧ R d u) m < xg_cn (fun u => S u ∧ R t u) m := xg_cn_lt (p := fun u => S u ∧ R d u) (q := fun u => S u ∧ R t u) (j := t) ⟨hSt, hr t htm hSt⟩ (fun z => hno z.2) m (fun i hi h => ⟨h.1, ht t d i htm hd hi hR h.2⟩) htm
      exact ih t htm hSt (by omega)
    · exact ⟨d, hd, hS, fun t htm hSt hR => Classical.byContradiction fun hno => hex ⟨t, htm, hSt, hR, hno⟩⟩
theorem xm_fi_some {P : Nat → Bool} : ∀ {n i j : Nat}, i ≤ j → j < i + n → P j = true → ∃ k, i ≤ k ∧ k ≤ j ∧ P k = true ∧ xm_fi P n i = k ∧ ∀ q, i ≤ q → q < k → P q = false
  | 0, i, j, h1, h2, _ => absurd h2 (by omega)
  | n + 1, i, j, h1, h2, h3 => by
    cases h : P i
    · have hij : i ≠ j := fun z => by rw [z, h3] at h; cases h
      obtain ⟨k, a1, a2, a3, a4, a5⟩ := xm_fi_some (n := n) (i := i + 1) (j := j) (by omega) (by omega) h3
      refine ⟨k, by omega, a2, a3, by rw [xm_fi_f h]; exact a4, fun q hq1 hq2 => ?_⟩
      by_cases hq : q = i
      · rw [hq]; exact h
      · exact a5 q (by omega) hq2
    · exact ⟨i, Nat.le_refl i, h1, h, xm_fi_t h, fun q hq1 hq2 => absurd hq2 (by omega)⟩
theorem xd_c_pos {p : Nat → Bool} : ∀ {n : Nat}, 0 < xd_c p n → ∃ s, s < n ∧ p s = true
  | 0, h => absurd h (Nat.lt_irrefl 0)
  | n + 1, h => by
    cases hp : p n
    · rw [xd_c_z hp] at h
      obtain ⟨s, h1, h2⟩ := xd_c_pos h
      exact ⟨s, by omega, h2⟩
    · exact ⟨n, by omega, hp⟩
theorem xd_c_eq {p q : Nat → Bool} : ∀ {n : Nat}, (∀ s, s < n → p s = q s) → xd_c p n = xd_c q n
  | 0, _ => rfl
  | n + 1, h => by
    show xd_c p n + _ = xd_c q n + _
    rw [xd_c_eq (fun s hs => h s (by omega)), h n (by omega)]
theorem xd_c_up {p : Nat → Bool} {X : Nat} (hX : p X = true) : ∀ {n : Nat}, X < n → xd_c (va_up p X false) n + 1 = xd_c p n
  | 0, h => absurd h (Nat.not_lt_zero X)
  | n + 1, h => by
    by_cases hn : X = n
    · subst hn
      rw [xd_c_z (va_up_self p X false), xd_c_s hX, xd_c_eq (fun s hs => va_up_ne p false (by omega))]
    · have ih := xd_c_up hX (n := n) (by omega)
      cases hp : p n
      · rw [xd_c_z hp, xd_c_z (by rw [va_up_ne p false (by omega)]; exact hp)]; exact ih
      · rw [xd_c_s hp, xd_c_s (by rw [va_up_ne p false (by omega)]; exact hp)]; omega
theorem xd_c_all {p : Nat → Bool} : ∀ {n : Nat}, (∀ s, s < n → p s = true) → xd_c p n = n
  | 0, _ => rfl
  | n + 1, h => by rw [xd_c_s (h n (by omega)), xd_c_all (fun s hs => h s (by omega))]
theorem xo_lf_s {C : Nat → Int32} : ∀ (n : Nat) (x : Int32), xo_lf C (n + 1) x = xo_lf C n x &&& (xf_bi (xk_best C (xo_lf C n x)) ^^^ (-1))
  | 0, x => rfl
  | n + 1, x => xo_lf_s n (x &&& (xf_bi (xk_best C x) ^^^ (-1)))
theorem xk_outd_iff {C : Nat → Int32} {x : Int32} {s : Nat} (hs : s < 13) : xk_outd C x s = true ↔ ∃ t, t < 13 ∧ bt x t = true ∧ bt (C t) s = true ∧ bt (C s) t = false := by
  unfold xk_outd
  rw [xf_ex_iff]
  constructor
  · rintro ⟨t, _, h2, h3⟩
    rw [Bool.and_eq_true, Bool.and_eq_true, Bool.not_eq_true', xf_hs_bt (by omega), xf_hs_bt (by omega), xf_hs_bt (by omega)] at h3
    exact ⟨t, by omega, h3⟩
  · rintro ⟨t, h1, h2⟩
    refine ⟨t, Nat.zero_le t, by omega, ?_⟩
    rw [Bool.and_eq_true, Bool.and_eq_true, Bool.not_eq_true', xf_hs_bt (by omega), xf_hs_bt (by omega), xf_hs_bt (by omega)]
    exact h2
/-- the next of the table: the same, and there is one -/
theorem xz_next {m : Nat} {C : Nat → Int32} {K l2 : Nat → Bool} {x : Int32} (hm : m ≤ 12) (hx : ∀ s, s < 13 → bt x s = (decide (s < m) && l2 s)) (hC : ∀ s t, s < m → t < m → bt (C s) t = K (13 * s + t)) (hr : ∀ a, a < m → K (13 * a + a) = true) (ht : ∀ a b c, a < m → b < m → c < m → K (13 * a + b) = true → K (13 * b + c) = true → K (13 * a + c) = true) (hn : 0 < xd_c l2 m) :
    xm_nx m K l2 < m ∧ l2 (xm_nx m K l2) = true ∧ xk_best C x = nI (xm_nx m K l2) := by
  obtain ⟨d, hd, hS⟩ := xd_c_pos hn
  obtain ⟨k, hk, hSk, hbest⟩ := xz_top (m := m) (S := fun a => l2 a = true) (R := fun a b => K (13 * a + b) = true) (fun a ha _ => hr a ha) ht m d hd hS (by omega)
  have hB : ∀ s, s < m → (xm_bst m l2 K s = true ↔ xk_outd C x s = false) := fun s hs => by
    unfold xm_bst
    rw [Bool.not_eq_true', ← Bool.not_eq_true, ← Bool.not_eq_true]
    refine not_congr ?_
    rw [xf_ex_iff, xk_outd_iff (by omega)]
    constructor
    · rintro ⟨t, _, h2, h3⟩
      rw [Bool.and_eq_true, Bool.and_eq_true, Bool.not_eq_true'] at h3
      exact ⟨t, by omega, by rw [hx t (by omega), decide_eq_true (by omega : t < m), Bool.true_and]; exact h3.1, by rw [hC t s (by omega) hs]; exact h3.2.1, by rw [hC s t hs (by omega)]; exact h3.2.2⟩
    · rintro ⟨t, h1, h2, h3, h4⟩
      rw [hx t h1, Bool.and_eq_true, decide_eq_true_eq] at h2
      refine ⟨t, Nat.zero_le t, by omega, ?_⟩
      rw [Bool.and_eq_true, Bool.and_eq_true, Bool.not_eq_true', ← hC t s h2.1 hs, ← hC s t hs h2.1]
      exact ⟨h2.2, h3, h4⟩
  have hPk : (fun d => l2 d && xm_bst m l2 K d) k = true := by
    show (l2 k && xm_bst m l2 K k) = true
    rw [hSk, Bool.true_and]
    unfold xm_bst
    rw [Bool.not_eq_true', ← Bool.not_eq_true, xf_ex_iff]
    rintro ⟨t, _, h2, h3⟩
    rw [Bool.and_eq_true, Bool.and_eq_true, Bool.not_eq_true'] at h3
    have h4 : K (13 * k + t) = true := hbest t (by omega) h3.1 h3.2.1
    rw [h4] at h3
    exact absurd h3.2.2 (by decide)
  obtain ⟨q, q1, q2, q3, q4, q5⟩ := xm_fi_some (P := fun d => l2 d && xm_bst m l2 K d) (n := m) (i := 0) (j := k) (Nat.zero_le k) (by omega) hPk
  have e : xm_nx m K l2 = q := q4
  have hP' : ∀ s, s < m → (xf_hs x (nI s) && !xk_outd C x s) = (l2 s && xm_bst m l2 K s) := fun s hs => by
    rw [xf_hs_bt (by omega), hx s (by omega), decide_eq_true hs, Bool.true_and]
    congr 1
    rw [Bool.eq_iff_iff, hB s hs, Bool.not_eq_true']
  rw [e]
  have q3' : (l2 q && xm_bst m l2 K q) = true := q3
  refine ⟨by omega, (Bool.and_eq_true_iff.mp q3').1, ?_⟩
  obtain ⟨r, r1, r2, r3, r4, r5⟩ := xf_fst_some (P := fun s => xf_hs x (nI s) && !xk_outd C x s) (n := 13) (i := 0) (j := q) (Nat.zero_le q) (by omega) (by rw [hP' q (by omega)]; exact q3')
  have hrq : r = q := by
    rcases Nat.lt_or_ge r q with h | h
    · have h1 := q5 r (Nat.zero_le r) h
      rw [hP' r (by omega)] at r3
      exact absurd (r3.symm.trans h1) (by decide)
    · omega
  show xf_fst _ 13 0 = nI q
  rw [r4, hrq]
section XZ3
variable {gc dc : Nat} {P A P1 A1 oP oA : Nat → Int32} {G C : Nat → Int32} {lf gd ch : Nat → Bool} {st : Nat → Int32}
theorem xz_order (hI : xv_I gc dc P A P1 A1 oP oA) {k0 : Nat} (hk : k0 < dc) :
    (∀ k, k ≤ k0 → xm_nx dc (xm_K dc (xm_L dc lf) (xm_G (xk_c gc P1 A1) (lN 1) (lN 1) dc gd) ch st).1 (xm_it dc (xm_K dc (xm_L dc lf) (xm_G (xk_c gc P1 A1) (lN 1) (lN 1) dc gd) ch st).1 (xm_L dc lf) k) < dc) ∧
    xk_best (xk_link (xo_G gc P A (xo_X dc) (nI 1) (nI 1) G) (xo_X dc) C) (xo_lf (xk_link (xo_G gc P A (xo_X dc) (nI 1) (nI 1) G) (xo_X dc) C) k0 (xo_X dc)) = nI (xm_nx dc (xm_K dc (xm_L dc lf) (xm_G (xk_c gc P1 A1) (lN 1) (lN 1) dc gd) ch st).1 (xm_it dc (xm_K dc (xm_L dc lf) (xm_G (xk_c gc P1 A1) (lN 1) (lN 1) dc gd) ch st).1 (xm_L dc lf) k0)) := by
  have hd := hI.2.2.1
  generalize hK : (xm_K dc (xm_L dc lf) (xm_G (xk_c gc P1 A1) (lN 1) (lN 1) dc gd) ch st).1 = K
  generalize hCL : xk_link (xo_G gc P A (xo_X dc) (nI 1) (nI 1) G) (xo_X dc) C = CL
  have hKt : ∀ s t, s < dc → t < dc → (K (13 * s + t) = true ↔ xg_tc dc (xm_e dc (xm_L dc lf) (xm_G (xk_c gc P1 A1) (lN 1) (lN 1) dc gd)) s t) := fun s t hs ht => by rw [← hK]; exact xm_K_ch (by omega) hs ht
  have hC : ∀ s t, s < dc → t < dc → bt (CL s) t = K (13 * s + t) := fun s t hs ht => by
    rw [Bool.eq_iff_iff, hKt s t hs ht, ← hCL, ← xz_l1]
    exact xz_ch (xz_rec hI) hs ht
  have hr : ∀ a, a < dc → K (13 * a + a) = true := fun a ha => (hKt a a ha ha).mpr (xg_tc_e ⟨ha, ha, xm_L_at ha, xm_L_at ha, by rw [xm_G_at (by omega) ha ha]; exact xm_g_e rfl⟩)
  have ht : ∀ a b c, a < dc → b < dc → c < dc → K (13 * a + b) = true → K (13 * b + c) = true → K (13 * a + c) = true := fun a b c ha hb hc h1 h2 => by
    obtain ⟨n, hn⟩ := (hKt b c hb hc).mp h2
    exact (hKt a c ha hc).mpr (xg_tc_t hb ((hKt a b ha hb).mp h1) hn)
  have hinv : ∀ k, k < dc → (∀ s, s < 13 → bt (xo_lf CL k (xo_X dc)) s = (decide (s < dc) && xm_it dc K (xm_L dc lf) k s)) ∧ xd_c (xm_it dc K (xm_L dc lf) k) dc + k = dc := by
    intro k
    induction k with
    | zero =>
      intro _
      refine ⟨fun s hs => ?_, by rw [Nat.add_zero]; exact xd_c_all (fun s hs => xm_L_at hs)⟩
      show bt (xo_X dc) s = (decide (s < dc) && xm_L dc lf s)
      rw [xz_X hd]
      by_cases h : s < dc
      · rw [decide_eq_true h, xm_L_at h]; rfl
      · rw [decide_eq_false h]; rfl
    | succ k ih =>
      intro hk2
      obtain ⟨i1, i2⟩ := ih (by omega)
      obtain ⟨n1, n2, n3⟩ := xz_next hd i1 hC hr ht (by omega)
      refine ⟨fun s hs => ?_, ?_⟩
      · rw [xo_lf_s, b_and, b_xor, n3, xf_bt_bi (by omega), b_m1 s (by omega), i1 s hs]
        show _ = (decide (s < dc) && va_up (xm_it dc K (xm_L dc lf) k) (xm_nx dc K (xm_it dc K (xm_L dc lf) k)) false s)
        by_cases h : s = xm_nx dc K (xm_it dc K (xm_L dc lf) k)
        · rw [decide_eq_true h, h, va_up_self]; simp
        · rw [decide_eq_false h, va_up_ne _ _ h]; simp
      · show xd_c (va_up (xm_it dc K (xm_L dc lf) k) (xm_nx dc K (xm_it dc K (xm_L dc lf) k)) false) dc + (k + 1) = dc
        have := xd_c_up n2 n1
        omega
  refine ⟨fun k hk2 => ?_, ?_⟩
  · obtain ⟨i1, i2⟩ := hinv k (by omega)
    exact (xz_next hd i1 hC hr ht (by omega)).1
  · obtain ⟨i1, i2⟩ := hinv k0 hk
    exact (xz_next hd i1 hC hr ht (by omega)).2.2
end XZ3
theorem xo_if_t : (if xf_bI true = 0 then lN 0 else lN 1) = lN 1 := if_neg (by decide)
theorem xo_if_f : (if xf_bI false = 0 then lN 0 else lN 1) = lN 0 := if_pos (by decide)
