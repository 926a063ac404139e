/-! the two records show the same: relations and chains -/
theorem xz_G {gc : Nat} {P A : Nat → Int32} {x u d : Int32} {G : Nat → Int32} {s t : Nat} (hs : s < 13) (ht : t < 13) : bt (xo_G gc P A x u d G s) t = (bt x s && (bt x t && xm_g (xk_c gc P A) u.toInt64 d.toInt64 s t)) := by
  unfold xo_G
  rw [xf_fill_at, if_pos (by omega)]
  unfold xk_rowG
  rw [xf_hs_bt (by omega)]
  cases h1 : bt x s
  · rw [if_neg (by decide)]
    exact b_0 t
  · rw [if_pos rfl, xk_rg_bt 13 0 _ t (by omega), xf_bt_bi (by omega), Bool.true_and]
    unfold xm_g
    by_cases h2 : t = s
    · subst h2
      rw [decide_eq_true rfl, h1]; rfl
    · rw [decide_eq_false h2, decide_eq_true (show 0 ≤ t ∧ t < 0 + 13 ∧ t ≠ s by omega), decide_eq_false (show ¬ s = t from fun z => h2 z.symm), Bool.false_or, Bool.false_or, Bool.true_and]
      congr 1
      rw [Bool.eq_iff_iff, decide_eq_true_eq, Bool.not_eq_true', decide_eq_false_iff_not, Int64.not_lt]
theorem xz_B {gc : Nat} {P A : Nat → Int32} {x u d : Int32} {B : Nat → Int32} {s t : Nat} (hs : s < 13) (ht : t < 13) : bt (xo_B gc P A x u d B s) t = (bt x s && (bt x t && xm_b (xk_c gc P A) u.toInt64 d.toInt64 s t)) := by
  unfold xo_B
  rw [xf_fill_at, if_pos (by omega)]
  unfold xk_rowB
  rw [xf_hs_bt (by omega)]
  cases h1 : bt x s
  · rw [if_neg (by decide)]
    exact b_0 t
  · rw [if_pos rfl, xk_rb_bt 13 0 _ t (by omega), show bt (nI 0) t = false from b_0 t, Bool.true_and, Bool.false_or]
    unfold xm_b
    by_cases h2 : t = s
    · subst h2
      rw [decide_eq_true (show t = t from rfl), decide_eq_false (show ¬ (0 ≤ t ∧ t < 0 + 13 ∧ t ≠ t) from fun z => z.2.2 rfl)]
      simp
    · rw [decide_eq_true (show 0 ≤ t ∧ t < 0 + 13 ∧ t ≠ s by omega), decide_eq_false (show ¬ s = t from fun z => h2 z.symm), Bool.true_and, Bool.not_false, Bool.true_and]
      congr 1
      rw [Bool.eq_iff_iff, decide_eq_true_eq, Bool.not_eq_true', decide_eq_false_iff_not, Int64.not_le]
theorem xz_link {G : Nat → Int32} {x : Int32} {C : Nat → Int32} (hG : ∀ s t, s < 13 → t < 13 → bt (G s) t = true → bt x s = true ∧ bt x t = true) {s t : Nat} (hs : s < 13) (ht : t < 13) : bt (xk_link G x C s) t = true ↔ xg_tc 13 (fun a b => a < 13 ∧ b < 13 ∧ bt (G a) b = true) s t := by
  unfold xk_link
  refine xk_l1_tc (fun a b h => ⟨h.1, h.2.1⟩) (fun a b ha hb => ?_) s t hs ht
  rw [xf_fill_at, if_pos (by omega)]
  unfold xk_l0
  rw [xf_hs_bt (by omega)]
  cases h1 : bt x a
  · rw [if_neg (by decide)]
    constructor
    · intro h
      rw [show bt (nI 0) b = false from b_0 b] at h
      cases h
    · rintro ⟨_, _, h⟩
      rw [(hG a b ha hb h).1] at h1
      cases h1
  · rw [if_pos rfl, b_and, Bool.and_eq_true]
    exact ⟨fun h => ⟨ha, hb, h.1⟩, fun h => ⟨h.2.2, (hG a b ha hb h.2.2).2⟩⟩
/-- the days of the one are those of the other, under other numbers -/
def xz_H (M : Nat) (x : Int32) (φ : Nat → Nat) (c c1 : Nat → Nat → Int32) : Prop := M ≤ 13 ∧ (∀ s, s < M → φ s < 13 ∧ bt x (φ s) = true) ∧ (∀ a, a < 13 → bt x a = true → ∃ s, s < M ∧ φ s = a) ∧ (∀ s t, s < M → t < M → φ s = φ t → s = t) ∧ ∀ s t, s < M → t < M → c (φ s) (φ t) = c1 s t
theorem xz_tc {M N : Nat} {e e' : Nat → Nat → Prop} {φ : Nat → Nat} (hφ : ∀ s, s < M → φ s < N) (hinj : ∀ s t, s < M → t < M → φ s = φ t → s = t) (he : ∀ s t, s < M → t < M → (e (φ s) (φ t) ↔ e' s t)) (hon : ∀ a b, e a b → ∃ s t, s < M ∧ t < M ∧ a = φ s ∧ b = φ t) (h1 : ∀ s t, e' s t → s < M ∧ t < M) {s t : Nat} (hs : s < M) (ht : t < M) : xg_tc N e (φ s) (φ t) ↔ xg_tc M e' s t := by
  constructor
  · rintro ⟨n, h⟩
    have h2 := xg_least (m := N) (e := e) (X := fun a b => ∃ s t, s < M ∧ t < M ∧ a = φ s ∧ b = φ t ∧ xg_tc M e' s t) (fun a b hab => by
      obtain ⟨s, t, a1, a2, rfl, rfl⟩ := hon a b hab
      exact ⟨s, t, a1, a2, rfl, rfl, xg_tc_e ((he s t a1 a2).mp hab)⟩) (fun a u b _ hx hub => by
      obtain ⟨s, t, a1, a2, rfl, rfl, a3⟩ := hx
      obtain ⟨s2, t2, b1, b2, e1, rfl⟩ := hon _ b hub
      have e2 := hinj _ _ a2 b1 e1
      subst e2
      exact ⟨s, t2, a1, b2, rfl, rfl, xg_tc_r a2 a3 ((he _ _ a2 b2).mp hub)⟩) h
    obtain ⟨s2, t2, a1, a2, e1, e2, a3⟩ := h2
    rw [hinj _ _ hs a1 e1, hinj _ _ ht a2 e2]
    exact a3
  · rintro ⟨n, h⟩
    exact xg_least (m := M) (e := e') (X := fun a b => xg_tc N e (φ a) (φ b)) (fun a b hab => xg_tc_e ((he a b (h1 a b hab).1 (h1 a b hab).2).mpr hab)) (fun a u b hu hx hub => xg_tc_r (hφ u hu) hx ((he u b (h1 u b hub).1 (h1 u b hub).2).mpr hub)) h
theorem xm_g_c {c c1 : Nat → Nat → Int32} {u d : Int64} {s t s2 t2 : Nat} (h1 : c s s = c1 s2 s2) (h2 : c s t = c1 s2 t2) (h3 : s = t ↔ s2 = t2) : xm_g c u d s t = xm_g c1 u d s2 t2 := by
  unfold xm_g
  rw [h1, h2, decide_eq_decide.mpr h3]
theorem xm_b_c {c c1 : Nat → Nat → Int32} {u d : Int64} {s t s2 t2 : Nat} (h1 : c s s = c1 s2 s2) (h2 : c s t = c1 s2 t2) (h3 : s = t ↔ s2 = t2) : xm_b c u d s t = xm_b c1 u d s2 t2 := by
  unfold xm_b
  rw [h1, h2, decide_eq_decide.mpr h3]
section XZ
variable {M : Nat} {x : Int32} {φ : Nat → Nat} {gc : Nat} {P A : Nat → Int32} {c1 : Nat → Nat → Int32} {u d : Int32} {G B C : Nat → Int32} {lf gd bd ch : Nat → Bool} {st : Nat → Int32}
theorem xz_gb (h : xz_H M x φ (xk_c gc P A) c1) {s t : Nat} (hs : s < M) (ht : t < M) : bt (xo_G gc P A x u d G (φ s)) (φ t) = xm_g c1 u.toInt64 d.toInt64 s t ∧ bt (xo_B gc P A x u d B (φ s)) (φ t) = xm_b c1 u.toInt64 d.toInt64 s t := by
  obtain ⟨h1, h2, h3, h4, h5⟩ := h
  have e3 : φ s = φ t ↔ s = t := ⟨h4 s t hs ht, fun z => by rw [z]⟩
  constructor
  · rw [xz_G (h2 s hs).1 (h2 t ht).1, (h2 s hs).2, (h2 t ht).2, Bool.true_and, Bool.true_and]
    exact xm_g_c (h5 s s hs hs) (h5 s t hs ht) e3
  · rw [xz_B (h2 s hs).1 (h2 t ht).1, (h2 s hs).2, (h2 t ht).2, Bool.true_and, Bool.true_and]
    exact xm_b_c (h5 s s hs hs) (h5 s t hs ht) e3
theorem xz_Gin {s t : Nat} (hs : s < 13) (ht : t < 13) (h : bt (xo_G gc P A x u d G s) t = true) : bt x s = true ∧ bt x t = true := by
  rw [xz_G hs ht, Bool.and_eq_true, Bool.and_eq_true] at h
  exact ⟨h.1, h.2.1⟩
theorem xz_Bin {s t : Nat} (hs : s < 13) (ht : t < 13) (h : bt (xo_B gc P A x u d B s) t = true) : bt x s = true ∧ bt x t = true := by
  rw [xz_B hs ht, Bool.and_eq_true, Bool.and_eq_true] at h
  exact ⟨h.1, h.2.1⟩
theorem xm_G_at {c : Nat → Nat → Int32} {u d : Int64} {m : Nat} {g : Nat → Bool} (hm : m ≤ 13) {s t : Nat} (hs : s < m) (ht : t < m) : xm_G c u d m g (13 * s + t) = xm_g c u d s t := xm_fr_at hm m 0 g s t ht (Nat.zero_le s) (by omega)
theorem xm_B_at {c : Nat → Nat → Int32} {u d : Int64} {m : Nat} {g : Nat → Bool} (hm : m ≤ 13) {s t : Nat} (hs : s < m) (ht : t < m) : xm_B c u d m g (13 * s + t) = xm_b c u d s t := xm_fr_at hm m 0 g s t ht (Nat.zero_le s) (by omega)
/-- chains are chains -/
theorem xz_ch (h : xz_H M x φ (xk_c gc P A) c1) {s t : Nat} (hs : s < M) (ht : t < M) : bt (xk_link (xo_G gc P A x u d G) x C (φ s)) (φ t) = true ↔ xg_tc M (xm_e M (xm_L M lf) (xm_G c1 u.toInt64 d.toInt64 M gd)) s t := by
  have h' := h
  obtain ⟨h1, h2, h3, h4, h5⟩ := h
  rw [xz_link (fun a b ha hb => xz_Gin ha hb) (h2 s hs).1 (h2 t ht).1]
  refine xz_tc (fun s hs => (h2 s hs).1) h4 (fun a b ha hb => ?_) (fun a b hab => ?_) (fun a b hab => ⟨hab.1, hab.2.1⟩) hs ht
  · rw [(xz_gb (B := G) h' ha hb).1]
    unfold xm_e
    rw [xm_G_at h1 ha hb, xm_L_at ha, xm_L_at hb]
    exact ⟨fun z => ⟨ha, hb, rfl, rfl, z.2.2⟩, fun z => ⟨(h2 a ha).1, (h2 b hb).1, z.2.2.2.2⟩⟩
  · obtain ⟨a1, a2, a3⟩ := hab
    have a4 := xz_Gin a1 a2 a3
    obtain ⟨s1, b1, rfl⟩ := h3 a a1 a4.1
    obtain ⟨s2, b2, rfl⟩ := h3 b a2 a4.2
    exact ⟨s1, s2, b1, b2, rfl, rfl⟩
theorem xk_bad_iff {C B : Nat → Int32} : xk_bad C B = true ↔ ∃ s t, s < 13 ∧ t < 13 ∧ bt (C s) t = true ∧ bt (B t) s = true := by
  unfold xk_bad
  rw [xf_ex_iff]
  constructor
  · rintro ⟨s, _, h2, h3⟩
    rw [xf_ex_iff] at h3
    obtain ⟨t, _, h5, h6⟩ := h3
    rw [Bool.and_eq_true, xf_hs_bt (by omega), xf_hs_bt (by omega)] at h6
    exact ⟨s, t, by omega, by omega, h6⟩
  · rintro ⟨s, t, h1, h2, h3⟩
    refine ⟨s, Nat.zero_le s, by omega, xf_ex_iff.mpr ⟨t, Nat.zero_le t, by omega, ?_⟩⟩
    rw [Bool.and_eq_true, xf_hs_bt (by omega), xf_hs_bt (by omega)]
    exact h3
theorem xz_fine (h : xz_H M x φ (xk_c gc P A) c1) : xk_bad (xk_link (xo_G gc P A x u d G) x C) (xo_B gc P A x u d B) = xm_nf M (xm_L M lf) (xm_B c1 u.toInt64 d.toInt64 M bd) (xm_K M (xm_L M lf) (xm_G c1 u.toInt64 d.toInt64 M gd) ch st).1 := by
  have h' := h
  obtain ⟨h1, h2, h3, h4, h5⟩ := h
  rw [Bool.eq_iff_iff, xk_bad_iff, xm_nf_iff h1]
  constructor
  · rintro ⟨s, t, a1, a2, a3, a4⟩
    have a5 := xz_Bin a2 a1 a4
    obtain ⟨s1, b1, rfl⟩ := h3 s a1 a5.2
    obtain ⟨t1, b2, rfl⟩ := h3 t a2 a5.1
    refine ⟨s1, t1, b1, b2, xm_L_at b1, xm_L_at b2, ?_, (xz_ch h' b1 b2).mp a3⟩
    rw [xm_B_at h1 b2 b1, ← (xz_gb (G := G) (B := B) h' b2 b1).2]
    exact a4
  · rintro ⟨s, t, a1, a2, _, _, a5, a6⟩
    refine ⟨φ s, φ t, (h2 s a1).1, (h2 t a2).1, (xz_ch h' a1 a2).mpr a6, ?_⟩
    rw [(xz_gb (G := G) (B := B) h' a2 a1).2, ← xm_B_at (g := bd) h1 a2 a1]
    exact a5
theorem xz_pair (h : xz_H M x φ (xk_c gc P A) c1) : xk_bad (xo_G gc P A x u d G) (xo_B gc P A x u d B) = xm_od M (xm_G c1 u.toInt64 d.toInt64 M gd) (xm_B c1 u.toInt64 d.toInt64 M bd) := by
  have h' := h
  obtain ⟨h1, h2, h3, h4, h5⟩ := h
  rw [Bool.eq_iff_iff, xk_bad_iff]
  unfold xm_od
  rw [xf_ex_iff]
  constructor
  · rintro ⟨s, t, a1, a2, a3, a4⟩
    have a5 := xz_Bin a2 a1 a4
    obtain ⟨s1, b1, rfl⟩ := h3 s a1 a5.2
    obtain ⟨t1, b2, rfl⟩ := h3 t a2 a5.1
    refine ⟨s1, Nat.zero_le s1, by omega, xf_ex_iff.mpr ⟨t1, Nat.zero_le t1, by omega, ?_⟩⟩
    rw [Bool.and_eq_true, xm_G_at h1 b1 b2, xm_B_at h1 b2 b1, ← (xz_gb (G := G) (B := B) h' b2 b1).2, ← (xz_gb (G := G) (B := B) h' b1 b2).1]
    exact ⟨a3, a4⟩
  · rintro ⟨s, _, a1, a2⟩
    rw [xf_ex_iff] at a2
    obtain ⟨t, _, a3, a4⟩ := a2
    rw [Bool.and_eq_true, xm_G_at h1 (by omega) (by omega), xm_B_at h1 (by omega) (by omega), ← (xz_gb (G := G) (B := B) h' (by omega) (by omega)).2, ← (xz_gb (G := G) (B := B) h' (by omega) (by omega)).1] at a4
    exact ⟨φ s, φ t, (h2 s (by omega)).1, (h2 t (by omega)).1, a4⟩
end XZ
theorem xz_X {dc a : Nat} (hd : dc ≤ 12) : bt (xo_X dc) a = decide (a < dc) := xf_ev (by omega)
/-- the days of the record -/
theorem xz_rec {gc dc : Nat} {P A P1 A1 oP oA : Nat → Int32} (hI : xv_I gc dc P A P1 A1 oP oA) : xz_H dc (xo_X dc) (fun s => s) (xk_c gc P A) (xk_c gc P1 A1) := by
  have hd := hI.2.2.1
  exact ⟨by omega, fun s hs => ⟨show s < 13 by omega, by rw [xz_X hd]; exact decide_eq_true hs⟩, fun a _ h => ⟨a, by rw [xz_X hd] at h; exact of_decide_eq_true h, rfl⟩, fun s t _ _ h => h, fun s t hs ht => xv_c hI hs ht⟩
/-- the days of the record and the offered one -/
theorem xz_off {gc dc : Nat} {P A P1 A1 oP oA : Nat → Int32} (hI : xv_I gc dc P A P1 A1 oP oA) : xz_H (dc + 1) (xo_X dc ||| xf_bi (nI 12)) (fun s => if s = dc then 12 else s) (xk_c gc P A) (xk_c gc (xf_f2 oP (dc * 6) 6 0 P1) (xf_f2 oA (dc * 6) 6 0 A1)) := by
  obtain ⟨a1, a2, hd, a4, a5, a6⟩ := hI
  have hx : ∀ a, bt (xo_X dc ||| xf_bi (nI 12)) a = (decide (a < dc) || decide (a = 12)) := fun a => by rw [b_or, xz_X hd, xf_bt_bi (by omega)]
  refine ⟨by omega, fun s hs => ?_, fun a ha h => ?_, fun s t hs ht h => ?_, fun s t hs ht => ?_⟩
  · dsimp only
    by_cases h : s = dc
    · rw [if_pos h, hx]; exact ⟨by omega, by simp⟩
    · rw [if_neg h, hx]; exact ⟨by omega, by rw [decide_eq_true (by omega : s < dc)]; rfl⟩
  · rw [hx, Bool.or_eq_true, decide_eq_true_eq, decide_eq_true_eq] at h
    rcases h with h | h
    · exact ⟨a, by omega, if_neg (by omega)⟩
    · exact ⟨dc, by omega, (if_pos rfl).trans h.symm⟩
  · dsimp only at h
    by_cases h1 : s = dc <;> by_cases h2 : t = dc
    · omega
    · rw [if_pos h1, if_neg h2] at h; omega
    · rw [if_neg h1, if_pos h2] at h; omega
    · rw [if_neg h1, if_neg h2] at h; exact h
  · have hr : ∀ q k, q < dc + 1 → k < 6 → P ((if q = dc then 12 else q) * 6 + k) = xf_f2 oP (dc * 6) 6 0 P1 (q * 6 + k) ∧ A ((if q = dc then 12 else q) * 6 + k) = xf_f2 oA (dc * 6) 6 0 A1 (q * 6 + k) := fun q k hq hk => by
      rw [xf_f2_at, xf_f2_at]
      by_cases h : q = dc
      · rw [if_pos h, if_pos (by omega), if_pos (by omega), show q * 6 + k - dc * 6 = k by omega]
        exact a5 k hk
      · rw [if_neg h, if_neg (by omega), if_neg (by omega)]
        exact a4 _ (by omega)
    exact xk_cost_c (fun k hk => (hr s k hs hk).1) (fun k hk => (hr t k ht hk).2) gc 0 _ (by omega)
theorem xz_l1 : (nI 1).toInt64 = lN 1 := nI_l (by omega)
