/-! the reference: chains, and the searches over them -/
theorem xm_K_J {m : Nat} {lf gd ch : Nat → Bool} {st : Nat → Int32} (hm : m ≤ 13) : ∀ r, r < m → xm_J m lf gd m (xm_K m lf gd ch st).1 (xm_K m lf gd ch st).2.1 r := by
  intro r hr
  unfold xm_K
  refine xm_ln_at hm (m + 1 - 2) 2 _ (by omega) (Nat.le_refl 2) (fun q hq t ht => ?_) (fun h => by cases h) r hr
  have e1 : xm_fr (xm_is lf gd) m m 0 (xm_f1 (fun _ => false) 169 0 ch) (13 * q + t) = xm_is lf gd q t := xm_fr_at hm m 0 _ q t ht (Nat.zero_le q) (by omega)
  have e2 : xm_gr (xm_i1 lf gd) m m 0 (xf_fill (fun _ => nI 0) 169 0 st) (13 * q + t) = xm_i1 lf gd q t := xm_gr_at hm m 0 _ q t ht (Nat.zero_le q) (by omega)
  have e0 : xm_is lf gd q t = true ↔ xm_e m lf gd q t := by
    unfold xm_is xm_e
    rw [Bool.and_eq_true, Bool.and_eq_true]
    exact ⟨fun h => ⟨hq, ht, h.1, h.2.1, h.2.2⟩, fun h => ⟨h.2.2.1, h.2.2.2.1, h.2.2.2.2⟩⟩
  have ed : xg_d m (xm_e m lf gd) (2 - 1) q t ↔ xm_e m lf gd q t := by
    constructor
    · intro h
      rcases xg_ds.mp h with h | h | ⟨u, _, h, _⟩
      · exact h
      · exact h.elim
      · exact h.elim
    · exact fun h => xg_ds.mpr (Or.inl h)
  show (xm_fr (xm_is lf gd) m m 0 _ (13 * q + t) = true ↔ _) ∧ (xm_fr (xm_is lf gd) m m 0 _ (13 * q + t) = false → xm_gr (xm_i1 lf gd) m m 0 _ (13 * q + t) = nI 0) ∧ (xm_fr (xm_is lf gd) m m 0 _ (13 * q + t) = true → ∃ k, 1 ≤ k ∧ k ≤ 2 - 1 ∧ xm_gr (xm_i1 lf gd) m m 0 _ (13 * q + t) = nI k ∧ _)
  rw [e1, e2]
  refine ⟨e0.trans ed.symm, fun h => ?_, fun h => ⟨1, Nat.le_refl 1, Nat.le_refl 1, ?_, ed.mpr (e0.mp h), fun z => z.elim⟩⟩
  · unfold xm_i1; rw [h]; rfl
  · unfold xm_i1; rw [h]; rfl
theorem xm_K_ch {m : Nat} {lf gd ch : Nat → Bool} {st : Nat → Int32} (hm : m ≤ 13) {s t : Nat} (hs : s < m) (ht : t < m) : (xm_K m lf gd ch st).1 (13 * s + t) = true ↔ xg_tc m (xm_e m lf gd) s t := by
  rw [(xm_K_J hm s hs t ht).1, xg_tc_full (fun a b h => ⟨h.1, h.2.1⟩)]
/-- the days are not fine -/
def xm_bp (m : Nat) (lf gd bd : Nat → Bool) : Prop := ∃ s t, s < m ∧ t < m ∧ lf s = true ∧ lf t = true ∧ bd (13 * t + s) = true ∧ xg_tc m (xm_e m lf gd) s t
theorem xm_nf_iff {m : Nat} {lf gd bd ch : Nat → Bool} {st : Nat → Int32} (hm : m ≤ 13) : xm_nf m lf bd (xm_K m lf gd ch st).1 = true ↔ xm_bp m lf gd bd := by
  unfold xm_nf
  rw [xf_ex_iff]
  constructor
  · rintro ⟨s, _, h2, h3⟩
    rw [xf_ex_iff] at h3
    obtain ⟨t, _, h5, h6⟩ := h3
    rw [Bool.and_eq_true, Bool.and_eq_true, Bool.and_eq_true] at h6
    exact ⟨s, t, by omega, by omega, h6.1, h6.2.1, h6.2.2.1, (xm_K_ch hm (by omega) (by omega)).mp h6.2.2.2⟩
  · rintro ⟨s, t, h1, h2, h3, h4, h5, h6⟩
    refine ⟨s, Nat.zero_le s, by omega, xf_ex_iff.mpr ⟨t, Nat.zero_le t, by omega, ?_⟩⟩
    rw [Bool.and_eq_true, Bool.and_eq_true, Bool.and_eq_true]
    exact ⟨h3, h4, h5, (xm_K_ch hm h1 h2).mpr h6⟩
noncomputable def xm_nb (m : Nat) (lf gd bd : Nat → Bool) : Bool := @decide (xm_bp m lf gd bd) (Classical.propDecidable _)
theorem xm_nb_iff {m : Nat} {lf gd bd : Nat → Bool} : xm_nb m lf gd bd = true ↔ xm_bp m lf gd bd := @decide_eq_true_iff _ (Classical.propDecidable _)
theorem xm_nf_nb {m : Nat} {lf gd bd ch : Nat → Bool} {st : Nat → Int32} (hm : m ≤ 13) : xm_nf m lf bd (xm_K m lf gd ch st).1 = xm_nb m lf gd bd := by
  rw [Bool.eq_iff_iff, xm_nf_iff hm, xm_nb_iff]
theorem xm_e_c {m : Nat} {lf gd lf2 gd2 : Nat → Bool} (h1 : ∀ s, s < m → lf s = lf2 s) (h2 : ∀ s t, s < m → t < m → gd (13 * s + t) = gd2 (13 * s + t)) (s t : Nat) (h : xm_e m lf gd s t) : xm_e m lf2 gd2 s t :=
  ⟨h.1, h.2.1, (h1 s h.1) ▸ h.2.2.1, (h1 t h.2.1) ▸ h.2.2.2.1, (h2 s t h.1 h.2.1) ▸ h.2.2.2.2⟩
theorem xm_bp_c {m : Nat} {lf gd bd lf2 gd2 bd2 : Nat → Bool} (h1 : ∀ s, s < m → lf s = lf2 s) (h2 : ∀ s t, s < m → t < m → gd (13 * s + t) = gd2 (13 * s + t)) (h3 : ∀ s t, s < m → t < m → bd (13 * s + t) = bd2 (13 * s + t)) (h : xm_bp m lf gd bd) : xm_bp m lf2 gd2 bd2 := by
  obtain ⟨s, t, a1, a2, a3, a4, a5, a6⟩ := h
  exact ⟨s, t, a1, a2, (h1 s a1) ▸ a3, (h1 t a2) ▸ a4, (h3 t s a2 a1) ▸ a5, xg_tc_sub (xm_e_c h1 h2) a6⟩
theorem xm_nb_c {m : Nat} {lf gd bd lf2 gd2 bd2 : Nat → Bool} (h1 : ∀ s, s < m → lf s = lf2 s) (h2 : ∀ s t, s < m → t < m → gd (13 * s + t) = gd2 (13 * s + t)) (h3 : ∀ s t, s < m → t < m → bd (13 * s + t) = bd2 (13 * s + t)) : xm_nb m lf gd bd = xm_nb m lf2 gd2 bd2 := by
  rw [Bool.eq_iff_iff, xm_nb_iff, xm_nb_iff]
  exact ⟨xm_bp_c h1 h2 h3, xm_bp_c (fun s h => (h1 s h).symm) (fun s t h h' => (h2 s t h h').symm) (fun s t h h' => (h3 s t h h').symm)⟩
/-- the least length of a circle, as it is looked for -/
def xm_s1 (bd ch : Nat → Bool) (st : Nat → Int32) (s : Nat) : Nat → Nat → Int32 → Int32
  | 0, _, x => x
  | k + 1, t, x => xm_s1 bd ch st s k (t + 1) (if bd (13 * t + s) = true ∧ ch (13 * s + t) = true then (if x = 0 ∨ ¬ x ≤ st (13 * s + t) + nI 1 then st (13 * s + t) + nI 1 else x) else x)
def xm_s2 (m : Nat) (bd ch : Nat → Bool) (st : Nat → Int32) : Nat → Nat → Int32 → Int32
  | 0, _, x => x
  | n + 1, s, x => xm_s2 m bd ch st n (s + 1) (xm_s1 bd ch st s m 0 x)
theorem xm_s1_0 {bd ch : Nat → Bool} {st : Nat → Int32} {s k t : Nat} {x : Int32} (h : ¬ (bd (13 * t + s) = true ∧ ch (13 * s + t) = true)) : xm_s1 bd ch st s (k + 1) t x = xm_s1 bd ch st s k (t + 1) x := by
  show xm_s1 bd ch st s k (t + 1) _ = _
  rw [if_neg h]
theorem xm_s1_1 {bd ch : Nat → Bool} {st : Nat → Int32} {s k t : Nat} {x : Int32} (h1 : bd (13 * t + s) = true) (h2 : ch (13 * s + t) = true) (h : x = 0 ∨ ¬ x ≤ st (13 * s + t) + nI 1) : xm_s1 bd ch st s (k + 1) t x = xm_s1 bd ch st s k (t + 1) (st (13 * s + t) + nI 1) := by
  show xm_s1 bd ch st s k (t + 1) _ = _
  rw [if_pos ⟨h1, h2⟩, if_pos h]
theorem xm_s1_2 {bd ch : Nat → Bool} {st : Nat → Int32} {s k t : Nat} {x : Int32} (h1 : bd (13 * t + s) = true) (h2 : ch (13 * s + t) = true) (h3 : ¬ x = 0) (h : x ≤ st (13 * s + t) + nI 1) : xm_s1 bd ch st s (k + 1) t x = xm_s1 bd ch st s k (t + 1) x := by
  show xm_s1 bd ch st s k (t + 1) _ = _
  rw [if_pos ⟨h1, h2⟩, if_neg (fun z => z.elim h3 (fun z => z h))]
/-- may a day stand at a place; is a full list a circle -/
def xm_may (gd : Nat → Bool) (q : Nat → Nat) (p : Nat) : Bool := !xf_ex (fun k => decide (q k = q p)) p 0 && (decide (p = 0) || gd (13 * (q (p - 1) - 1) + (q p - 1)))
def xm_cir (gd bd : Nat → Bool) (n : Nat) (q : Nat → Nat) : Bool := xf_ex (fun i => bd (13 * (q i - 1) + (q (xl_nx n i) - 1))) n 0 && gd (13 * (q (n - 1) - 1) + (q 0 - 1))
theorem xm_cs {P : Nat → Bool} {fl v R : Bool} {n i : Nat} (h0 : fl = false) (hv : P i = v) (hr : (fl || xf_ex P (n + 1) i) = R) : (v || xf_ex P n (i + 1)) = R := by
  subst h0
  rw [← hr]
  cases v
  · rw [xf_ex_f hv]
  · rw [xf_ex_t hv]; rfl
theorem xs_run_0 {d n : Nat} {may : (Nat → Nat) → Nat → Bool} {cir : (Nat → Nat) → Bool} (k : Nat) (q : Nat → Nat) : xs_run d n may cir k 0 q = none := by cases k <;> rfl
theorem xm_pm {a : Nat} (h : 1 ≤ a) : nI a - nI 1 = nI (a - 1) := by
  obtain ⟨b, rfl⟩ : ∃ b, a = b + 1 := ⟨a - 1, by omega⟩
  exact nI_pred b
theorem xm_lq {li : Nat → Int32} {q : Nat → Nat} {p d : Nat} (hli : ∀ i, i ≤ p → li i = nI (q i) - nI 1) (hq : ∀ i, i < p → 1 ≤ q i ∧ q i ≤ d) (hqp : q p ≤ d) (hne : q p ≠ d) : ∀ k, k ≤ p → upd li p (nI (q p)) k = nI (va_up q p (q p + 1) k - 1) ∧ 1 ≤ va_up q p (q p + 1) k ∧ va_up q p (q p + 1) k ≤ d := by
  intro k hk
  by_cases h : k = p
  · subst h
    rw [pk_us, va_up_self]
    exact ⟨rfl, by omega, by omega⟩
  · rw [pk_un h, va_up_ne _ _ h]
    exact ⟨(hli k hk).trans (xm_pm (hq k (by omega)).1), hq k (by omega)⟩
theorem xm_lb {li : Nat → Int32} {q : Nat → Nat} {p d : Nat} (h : ∀ k, k ≤ p → li k = nI (q k - 1) ∧ 1 ≤ q k ∧ q k ≤ d) : ∀ i, i ≤ p → li i = nI (q i) - nI 1 := fun i hi => (h i hi).1.trans (xm_pm (h i hi).2.1).symm
/-- division of numbers -/
theorem xm_div {a b : Nat} (ha : a < 2 ^ 31) (hb : b < 2 ^ 31) (h0 : 0 < b) : nI a / nI b = nI (a / b) := by
  apply Int32.toInt_inj.mp
  have h1 : a / b ≤ a := Nat.div_le_self a b
  rw [Int32.toInt_div, nI_toInt ha, nI_toInt hb, nI_toInt (by omega), show ((a : Int).tdiv (b : Int)) = ((a / b : Nat) : Int) from rfl]
  generalize a / b = x at *
  rw [Int.bmod_eq_of_le (by omega) (by omega)]
theorem xm_mul {a b : Nat} : nI a * nI b = nI (a * b) := (Int32.ofNat_mul a b).symm
theorem xm_rem {a b : Nat} (ha : a < 2 ^ 31) (hb : b < 2 ^ 31) (h0 : 0 < b) : nI a - nI a / nI b * nI b = nI (a % b) := by
  rw [xm_div ha hb h0, xm_mul]
  have h1 : a / b * b ≤ a := Nat.div_mul_le_self a b
  have h2 : a % b = a - a / b * b := by have := Nat.div_add_mod a b; rw [Nat.mul_comm] at this; omega
  rw [h2]
  exact pk_sub h1
theorem xm_64 {a b : Nat} (ha : a < 2 ^ 31) (hb : b < 2 ^ 31) : ((nI a).toInt64 * (nI b).toInt64).toInt = (a * b : Nat) := by
  rw [Int64.toInt_mul, Int32.toInt_toInt64, Int32.toInt_toInt64, nI_toInt ha, nI_toInt hb]
  have h2 : a * b < 2 ^ 31 * 2 ^ 31 := Nat.mul_lt_mul'' ha hb
  rw [show (a : Int) * (b : Int) = ((a * b : Nat) : Int) by rw [Int.natCast_mul]]
  generalize a * b = x at *
  rw [Int.bmod_eq_of_le (by omega) (by omega)]
theorem xm_le64 {a b c d : Nat} (ha : a < 2 ^ 31) (hb : b < 2 ^ 31) (hc : c < 2 ^ 31) (hd : d < 2 ^ 31) : (nI a).toInt64 * (nI b).toInt64 ≤ (nI c).toInt64 * (nI d).toInt64 ↔ a * b ≤ c * d := by
  rw [Int64.le_iff_toInt_le, xm_64 ha hb, xm_64 hc hd]
  omega
theorem xm_lt64 {a b c d : Nat} (ha : a < 2 ^ 31) (hb : b < 2 ^ 31) (hc : c < 2 ^ 31) (hd : d < 2 ^ 31) : (nI a).toInt64 * (nI b).toInt64 < (nI c).toInt64 * (nI d).toInt64 ↔ a * b < c * d := by
  rw [Int64.lt_iff_toInt_lt, xm_64 ha hb, xm_64 hc hd]
  omega
