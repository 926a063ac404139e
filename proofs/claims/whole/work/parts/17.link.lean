/-! the reference's link: levels -/
def xm_fu (left good : Nat → Bool) (s u n : Nat) : Nat → Nat → (Nat → Bool) × (Nat → Int32) × Bool → (Nat → Bool) × (Nat → Int32) × Bool
  | 0, _, x => x
  | k + 1, t, x => xm_fu left good s u n k (t + 1) (if left t = true ∧ good (13 * u + t) = true ∧ x.1 (13 * s + t) = false then (va_up x.1 (13 * s + t) true, upd x.2.1 (13 * s + t) (nI n), true) else x)
theorem xm_fu_at {left good : Nat → Bool} {s u n : Nat} : ∀ (k t0 : Nat) (x : (Nat → Bool) × (Nat → Int32) × Bool), t0 + k ≤ 13 →
    (∀ j, (∀ t, t0 ≤ t → t < t0 + k → j ≠ 13 * s + t) → (xm_fu left good s u n k t0 x).1 j = x.1 j ∧ (xm_fu left good s u n k t0 x).2.1 j = x.2.1 j) ∧
    (∀ t, t0 ≤ t → t < t0 + k → (xm_fu left good s u n k t0 x).1 (13 * s + t) = (x.1 (13 * s + t) || (left t && good (13 * u + t))) ∧
      (xm_fu left good s u n k t0 x).2.1 (13 * s + t) = if left t = true ∧ good (13 * u + t) = true ∧ x.1 (13 * s + t) = false then nI n else x.2.1 (13 * s + t)) ∧
    ((xm_fu left good s u n k t0 x).2.2 = true ↔ (x.2.2 = true ∨ ∃ t, t0 ≤ t ∧ t < t0 + k ∧ left t = true ∧ good (13 * u + t) = true ∧ x.1 (13 * s + t) = false))
  | 0, t0, x, _ => ⟨fun j _ => ⟨rfl, rfl⟩, fun t h1 h2 => by omega, ⟨fun h => Or.inl h, fun h => h.elim id (fun ⟨t, h1, h2, _⟩ => by omega)⟩⟩
  | k + 1, t0, x, hk => by
    by_cases hc : left t0 = true ∧ good (13 * u + t0) = true ∧ x.1 (13 * s + t0) = false
    · have e : xm_fu left good s u n (k + 1) t0 x = xm_fu left good s u n k (t0 + 1) (va_up x.1 (13 * s + t0) true, upd x.2.1 (13 * s + t0) (nI n), true) := by
        show xm_fu left good s u n k (t0 + 1) _ = _
        rw [if_pos hc]
      obtain ⟨i1, i2, i3⟩ := xm_fu_at (left := left) (good := good) (s := s) (u := u) (n := n) k (t0 + 1) (va_up x.1 (13 * s + t0) true, upd x.2.1 (13 * s + t0) (nI n), true) (by omega)
      rw [e]
      refine ⟨fun j hj => ?_, fun t h1 h2 => ?_, ?_⟩
      · have hne : j ≠ 13 * s + t0 := hj t0 (Nat.le_refl t0) (by omega)
        obtain ⟨a1, a2⟩ := i1 j (fun t h1 h2 => hj t (by omega) (by omega))
        exact ⟨a1.trans (va_up_ne _ _ hne), a2.trans (pk_un hne)⟩
      · by_cases ht : t = t0
        · subst ht
          obtain ⟨a1, a2⟩ := i1 (13 * s + t) (fun t' h1 h2 => by omega)
          refine ⟨a1.trans ?_, a2.trans ?_⟩
          · show va_up x.1 (13 * s + t) true (13 * s + t) = _
            rw [va_up_self, hc.1, hc.2.1]; simp
          · show upd x.2.1 (13 * s + t) (nI n) (13 * s + t) = _
            rw [pk_us, if_pos hc]
        · obtain ⟨a1, a2⟩ := i2 t (by omega) (by omega)
          have hne : 13 * s + t ≠ 13 * s + t0 := by omega
          have b1 : va_up x.1 (13 * s + t0) true (13 * s + t) = x.1 (13 * s + t) := va_up_ne _ _ hne
          have b2 : upd x.2.1 (13 * s + t0) (nI n) (13 * s + t) = x.2.1 (13 * s + t) := pk_un hne
          refine ⟨a1.trans ?_, a2.trans ?_⟩
          · show (va_up x.1 (13 * s + t0) true (13 * s + t) || (left t && good (13 * u + t))) = _
            rw [b1]
          · show (if left t = true ∧ good (13 * u + t) = true ∧ va_up x.1 (13 * s + t0) true (13 * s + t) = false then nI n else upd x.2.1 (13 * s + t0) (nI n) (13 * s + t)) = _
            rw [b1, b2]
      · rw [i3]
        constructor
        · intro _
          exact Or.inr ⟨t0, Nat.le_refl t0, by omega, hc⟩
        · intro _
          exact Or.inl rfl
    · have e : xm_fu left good s u n (k + 1) t0 x = xm_fu left good s u n k (t0 + 1) x := by
        show xm_fu left good s u n k (t0 + 1) _ = _
        rw [if_neg hc]
      obtain ⟨i1, i2, i3⟩ := xm_fu_at (left := left) (good := good) (s := s) (u := u) (n := n) k (t0 + 1) x (by omega)
      rw [e]
      refine ⟨fun j hj => i1 j (fun t h1 h2 => hj t (by omega) (by omega)), fun t h1 h2 => ?_, ?_⟩
      · by_cases ht : t = t0
        · subst ht
          obtain ⟨a1, a2⟩ := i1 (13 * s + t) (fun t' h1 h2 => by omega)
          refine ⟨a1.trans ?_, a2.trans ?_⟩
          · cases hl : left t <;> cases hg : good (13 * u + t) <;> cases hx : x.1 (13 * s + t) <;> simp
            exact hc ⟨hl, hg, hx⟩
          · rw [if_neg hc]
        · exact i2 t (by omega) (by omega)
      · rw [i3]
        constructor
        · rintro (h | ⟨t, h1, h2, h3⟩)
          · exact Or.inl h
          · exact Or.inr ⟨t, by omega, by omega, h3⟩
        · rintro (h | ⟨t, h1, h2, h3⟩)
          · exact Or.inl h
          · have ht : t ≠ t0 := fun z => hc (z ▸ h3)
            exact Or.inr ⟨t, by omega, by omega, h3⟩
/-- a round: row s, the days u of the level before -/
def xm_lu (m : Nat) (left good : Nat → Bool) (s n : Nat) : Nat → Nat → (Nat → Bool) × (Nat → Int32) × Bool → (Nat → Bool) × (Nat → Int32) × Bool
  | 0, _, x => x
  | k + 1, u, x => xm_lu m left good s n k (u + 1) (if x.2.1 (13 * s + u) = nI (n - 1) then
      ((xm_fu left good s u n m 0 (x.1, x.2.1, false)).1, (xm_fu left good s u n m 0 (x.1, x.2.1, false)).2.1, ((xm_fu left good s u n m 0 (x.1, x.2.1, false)).2.2 || x.2.2)) else x)
def xm_ls (m : Nat) (left good : Nat → Bool) (n : Nat) : Nat → Nat → (Nat → Bool) × (Nat → Int32) × Bool → (Nat → Bool) × (Nat → Int32) × Bool
  | 0, _, x => x
  | k + 1, s, x => xm_ls m left good n k (s + 1) (xm_lu m left good s n m 0 x)
def xm_ln (m : Nat) (left good : Nat → Bool) : Nat → Nat → (Nat → Bool) × (Nat → Int32) × Bool → (Nat → Bool) × (Nat → Int32) × Bool
  | 0, _, x => x
  | k + 1, n, x => if x.2.2 = true then xm_ln m left good k (n + 1) (xm_ls m left good n m 0 (x.1, x.2.1, false)) else x
/-- day u of the level before leads on to t -/
def xm_p (left good : Nat → Bool) (s n : Nat) (st : Nat → Int32) (u t : Nat) : Prop := st (13 * s + u) = nI (n - 1) ∧ left t = true ∧ good (13 * u + t) = true
theorem xm_nne {n : Nat} (hn : 2 ≤ n) (hn2 : n < 2 ^ 31) : ¬ nI n = nI (n - 1) := fun z => by
  have := (nI_eq hn2 (by omega)).mp z
  omega
theorem xm_step {m : Nat} {left good : Nat → Bool} {s n u : Nat} (hm : m ≤ 13) (x : (Nat → Bool) × (Nat → Int32) × Bool) {y : (Nat → Bool) × (Nat → Int32) × Bool}
    (hy : y = if x.2.1 (13 * s + u) = nI (n - 1) then ((xm_fu left good s u n m 0 (x.1, x.2.1, false)).1, (xm_fu left good s u n m 0 (x.1, x.2.1, false)).2.1, ((xm_fu left good s u n m 0 (x.1, x.2.1, false)).2.2 || x.2.2)) else x) :
    (∀ j, (∀ t, t < m → j ≠ 13 * s + t) → y.1 j = x.1 j ∧ y.2.1 j = x.2.1 j) ∧
    (∀ t, t < m → (y.1 (13 * s + t) = true ↔ (x.1 (13 * s + t) = true ∨ xm_p left good s n x.2.1 u t))) ∧
    (∀ t, t < m → (x.1 (13 * s + t) = false → xm_p left good s n x.2.1 u t → y.2.1 (13 * s + t) = nI n) ∧ ((x.1 (13 * s + t) = true ∨ ¬ xm_p left good s n x.2.1 u t) → y.2.1 (13 * s + t) = x.2.1 (13 * s + t))) ∧
    (y.2.2 = true ↔ (x.2.2 = true ∨ ∃ t, t < m ∧ x.1 (13 * s + t) = false ∧ xm_p left good s n x.2.1 u t)) := by
  by_cases hc : x.2.1 (13 * s + u) = nI (n - 1)
  · rw [if_pos hc] at hy
    subst hy
    obtain ⟨i1, i2, i3⟩ := xm_fu_at (left := left) (good := good) (s := s) (u := u) (n := n) m 0 (x.1, x.2.1, false) (by omega)
    refine ⟨fun j hj => i1 j (fun t _ h => hj t (by omega)), fun t ht => ?_, fun t ht => ⟨fun h1 h2 => ?_, fun h1 => ?_⟩, ?_⟩
    · show (xm_fu left good s u n m 0 (x.1, x.2.1, false)).1 (13 * s + t) = true ↔ _
      rw [(i2 t (Nat.zero_le t) (by omega)).1, Bool.or_eq_true, Bool.and_eq_true]
      exact ⟨fun h => h.elim Or.inl (fun h => Or.inr ⟨hc, h⟩), fun h => h.elim Or.inl (fun h => Or.inr h.2)⟩
    · show (xm_fu left good s u n m 0 (x.1, x.2.1, false)).2.1 (13 * s + t) = nI n
      rw [(i2 t (Nat.zero_le t) (by omega)).2]
      exact if_pos ⟨h2.2.1, h2.2.2, h1⟩
    · show (xm_fu left good s u n m 0 (x.1, x.2.1, false)).2.1 (13 * s + t) = x.2.1 (13 * s + t)
      rw [(i2 t (Nat.zero_le t) (by omega)).2]
      refine if_neg (fun h => ?_)
      rcases h1 with h1 | h1
      · have h3 : x.1 (13 * s + t) = false := h.2.2
        rw [h1] at h3
        cases h3
      · exact h1 ⟨hc, h.1, h.2.1⟩
    · show ((xm_fu left good s u n m 0 (x.1, x.2.1, false)).2.2 || x.2.2) = true ↔ _
      rw [Bool.or_eq_true, i3]
      constructor
      · rintro ((h | ⟨t, -, h2, h3, h4, h5⟩) | h)
        · cases h
        · exact Or.inr ⟨t, by omega, h5, hc, h3, h4⟩
        · exact Or.inl h
      · rintro (h | ⟨t, h1, h2, h3, h4, h5⟩)
        · exact Or.inr h
        · exact Or.inl (Or.inr ⟨t, Nat.zero_le t, by omega, h4, h5, h2⟩)
  · rw [if_neg hc] at hy
    subst hy
    refine ⟨fun j _ => ⟨rfl, rfl⟩, fun t _ => ⟨Or.inl, fun h => h.elim id (fun h => absurd h.1 hc)⟩, fun t _ => ⟨fun _ h => absurd h.1 hc, fun _ => rfl⟩, ⟨Or.inl, fun h => h.elim id (fun ⟨t, _, _, h⟩ => absurd h.1 hc)⟩⟩
theorem xm_lu_at {m : Nat} {left good : Nat → Bool} {s n : Nat} (hm : m ≤ 13) (hn : 2 ≤ n) (hn2 : n < 2 ^ 31) : ∀ (k u : Nat) (x : (Nat → Bool) × (Nat → Int32) × Bool), u + k ≤ m → (∀ t, t < m → x.2.1 (13 * s + t) = nI (n - 1) → x.1 (13 * s + t) = true) →
    (∀ j, (∀ t, t < m → j ≠ 13 * s + t) → (xm_lu m left good s n k u x).1 j = x.1 j ∧ (xm_lu m left good s n k u x).2.1 j = x.2.1 j) ∧
    (∀ t, t < m → ((xm_lu m left good s n k u x).1 (13 * s + t) = true ↔ (x.1 (13 * s + t) = true ∨ ∃ v, u ≤ v ∧ v < u + k ∧ xm_p left good s n x.2.1 v t))) ∧
    (∀ t, t < m → (x.1 (13 * s + t) = false → (∃ v, u ≤ v ∧ v < u + k ∧ xm_p left good s n x.2.1 v t) → (xm_lu m left good s n k u x).2.1 (13 * s + t) = nI n) ∧ ((x.1 (13 * s + t) = true ∨ ¬ ∃ v, u ≤ v ∧ v < u + k ∧ xm_p left good s n x.2.1 v t) → (xm_lu m left good s n k u x).2.1 (13 * s + t) = x.2.1 (13 * s + t))) ∧
    ((xm_lu m left good s n k u x).2.2 = true ↔ (x.2.2 = true ∨ ∃ t, t < m ∧ x.1 (13 * s + t) = false ∧ ∃ v, u ≤ v ∧ v < u + k ∧ xm_p left good s n x.2.1 v t))
  | 0, u, x, _, _ => ⟨fun j _ => ⟨rfl, rfl⟩, fun t _ => ⟨Or.inl, fun h => h.elim id (fun ⟨v, h1, h2, _⟩ => by omega)⟩, fun t _ => ⟨fun _ ⟨v, h1, h2, _⟩ => by omega, fun _ => rfl⟩, ⟨Or.inl, fun h => h.elim id (fun ⟨t, _, _, v, h1, h2, _⟩ => by omega)⟩⟩
  | k + 1, u, x, hk, hx => by
    obtain ⟨y, hy⟩ : ∃ y, y = if x.2.1 (13 * s + u) = nI (n - 1) then ((xm_fu left good s u n m 0 (x.1, x.2.1, false)).1, (xm_fu left good s u n m 0 (x.1, x.2.1, false)).2.1, ((xm_fu left good s u n m 0 (x.1, x.2.1, false)).2.2 || x.2.2)) else x := ⟨_, rfl⟩
    obtain ⟨a1, a2, a3, a4⟩ := xm_step hm x hy
    have e : xm_lu m left good s n (k + 1) u x = xm_lu m left good s n k (u + 1) y := by rw [hy]; rfl
    -- the level before stays as it was
    have hst : ∀ v, v < m → (y.2.1 (13 * s + v) = nI (n - 1) ↔ x.2.1 (13 * s + v) = nI (n - 1)) := fun v hv => by
      cases hxv : x.1 (13 * s + v)
      · by_cases hp : xm_p left good s n x.2.1 u v
        · rw [(a3 v hv).1 hxv hp]
          exact ⟨fun h => absurd h (xm_nne hn hn2), fun h => by rw [hx v hv h] at hxv; cases hxv⟩
        · rw [(a3 v hv).2 (Or.inr hp)]
      · rw [(a3 v hv).2 (Or.inl hxv)]
    have hp : ∀ v t, v < m → (xm_p left good s n y.2.1 v t ↔ xm_p left good s n x.2.1 v t) := fun v t hv => by
      unfold xm_p
      rw [hst v hv]
    have hy1 : ∀ t, t < m → y.2.1 (13 * s + t) = nI (n - 1) → y.1 (13 * s + t) = true := fun t ht h => (a2 t ht).mpr (Or.inl (hx t ht ((hst t ht).mp h)))
    obtain ⟨b1, b2, b3, b4⟩ := xm_lu_at (left := left) (good := good) hm hn hn2 k (u + 1) y (by omega) hy1
    have hex : ∀ t, (∃ v, u ≤ v ∧ v < u + (k + 1) ∧ xm_p left good s n x.2.1 v t) ↔ (xm_p left good s n x.2.1 u t ∨ ∃ v, u + 1 ≤ v ∧ v < u + 1 + k ∧ xm_p left good s n y.2.1 v t) := fun t => by
      constructor
      · rintro ⟨v, h1, h2, h3⟩
        by_cases hv : v = u
        · subst hv
          exact Or.inl h3
        · exact Or.inr ⟨v, by omega, by omega, (hp v t (by omega)).mpr h3⟩
      · rintro (h | ⟨v, h1, h2, h3⟩)
        · exact ⟨u, Nat.le_refl u, by omega, h⟩
        · exact ⟨v, by omega, by omega, (hp v t (by omega)).mp h3⟩
    rw [e]
    refine ⟨fun j hj => ⟨(b1 j hj).1.trans (a1 j hj).1, (b1 j hj).2.trans (a1 j hj).2⟩, fun t ht => ?_, fun t ht => ⟨fun h1 h2 => ?_, fun h1 => ?_⟩, ?_⟩
    · rw [b2 t ht, a2 t ht, hex t, or_assoc]
    · rcases (hex t).mp h2 with h3 | h3
      · rw [(b3 t ht).2 (Or.inl ((a2 t ht).mpr (Or.inr h3)))]
        exact (a3 t ht).1 h1 h3
      · cases hyt : y.1 (13 * s + t)
        · exact (b3 t ht).1 hyt h3
        · rw [(b3 t ht).2 (Or.inl hyt)]
          rcases (a2 t ht).mp hyt with h4 | h4
          · rw [h4] at h1; cases h1
          · exact (a3 t ht).1 h1 h4
    · have h3 : y.2.1 (13 * s + t) = x.2.1 (13 * s + t) := (a3 t ht).2 (h1.elim Or.inl (fun h => Or.inr (fun z => h ((hex t).mpr (Or.inl z)))))
      rw [← h3]
      refine (b3 t ht).2 ?_
      rcases h1 with h1 | h1
      · exact Or.inl ((a2 t ht).mpr (Or.inl h1))
      · exact Or.inr (fun z => h1 ((hex t).mpr (Or.inr z)))
    · rw [b4, a4, or_assoc]
      refine or_congr Iff.rfl ?_
      constructor
      · rintro (⟨t, h1, h2, h3⟩ | ⟨t, h1, h2, h3⟩)
        · exact ⟨t, h1, h2, (hex t).mpr (Or.inl h3)⟩
        · refine ⟨t, h1, ?_, (hex t).mpr (Or.inr h3)⟩
          cases hxt : x.1 (13 * s + t)
          · rfl
          · rw [(a2 t h1).mpr (Or.inl hxt)] at h2; cases h2
      · rintro ⟨t, h1, h2, h3⟩
        by_cases h4 : xm_p left good s n x.2.1 u t
        · exact Or.inl ⟨t, h1, h2, h4⟩
        · refine Or.inr ⟨t, h1, ?_, ((hex t).mp h3).elim (fun z => absurd z h4) id⟩
          cases hyt : y.1 (13 * s + t)
          · rfl
          · exact absurd ((a2 t h1).mp hyt) (fun z => z.elim (fun z => by rw [z] at h2; cases h2) h4)
/-- the days below m that are left, and the good steps between them -/
def xm_e (m : Nat) (left good : Nat → Bool) (s t : Nat) : Prop := s < m ∧ t < m ∧ left s = true ∧ left t = true ∧ good (13 * s + t) = true
/-- the level of t from s is just k -/
def xm_lv (m : Nat) (e : Nat → Nat → Prop) (k s t : Nat) : Prop := xg_d m e k s t ∧ ¬ xg_d m e (k - 1) s t
def xm_J (m : Nat) (left good : Nat → Bool) (n : Nat) (ch : Nat → Bool) (st : Nat → Int32) (s : Nat) : Prop :=
  ∀ t, t < m → (ch (13 * s + t) = true ↔ xg_d m (xm_e m left good) n s t) ∧ (ch (13 * s + t) = false → st (13 * s + t) = nI 0) ∧ (ch (13 * s + t) = true → ∃ k, 1 ≤ k ∧ k ≤ n ∧ st (13 * s + t) = nI k ∧ xm_lv m (xm_e m left good) k s t)
theorem xm_lv_one {m : Nat} {e : Nat → Nat → Prop} {j k s t : Nat} (h1 : xm_lv m e j s t) (h2 : xm_lv m e k s t) (hj : 1 ≤ j) (hk : 1 ≤ k) : j = k := by
  rcases Nat.lt_trichotomy j k with h | h | h
  · exact absurd (xg_mono' (by omega) h1.1) h2.2
  · exact h
  · exact absurd (xg_mono' (by omega) h2.1) h1.2
theorem xm_J_lv {m : Nat} {left good : Nat → Bool} {n : Nat} {ch : Nat → Bool} {st : Nat → Int32} {s : Nat} (hJ : xm_J m left good n ch st s) (hn : n < 2 ^ 31) {t k : Nat} (ht : t < m) (hk : 1 ≤ k) (hkn : k ≤ n) : st (13 * s + t) = nI k ↔ xm_lv m (xm_e m left good) k s t := by
  obtain ⟨h1, h2, h3⟩ := hJ t ht
  constructor
  · intro h
    cases hc : ch (13 * s + t)
    · rw [h2 hc] at h
      have := (nI_eq (by omega) (by omega)).mp h
      omega
    · obtain ⟨j, a1, a2, a3, a4⟩ := h3 hc
      rw [a3] at h
      have := (nI_eq (by omega) (by omega)).mp h
      subst this
      exact a4
  · intro h
    obtain ⟨j, a1, a2, a3, a4⟩ := h3 (h1.mpr (xg_mono' hkn h.1))
    rw [a3, xm_lv_one a4 h a1 hk]
/-- one round for one row -/
theorem xm_row {m : Nat} {left good : Nat → Bool} {s n : Nat} (hm : m ≤ 13) (hn : 2 ≤ n) (hn2 : n < 2 ^ 31) (x : (Nat → Bool) × (Nat → Int32) × Bool) (hJ : xm_J m left good (n - 1) x.1 x.2.1 s) :
    xm_J m left good n (xm_lu m left good s n m 0 x).1 (xm_lu m left good s n m 0 x).2.1 s ∧ (∀ j, (∀ t, t < m → j ≠ 13 * s + t) → (xm_lu m left good s n m 0 x).1 j = x.1 j ∧ (xm_lu m left good s n m 0 x).2.1 j = x.2.1 j) ∧
    ((xm_lu m left good s n m 0 x).2.2 = true ↔ (x.2.2 = true ∨ ∃ t, t < m ∧ xg_d m (xm_e m left good) n s t ∧ ¬ xg_d m (xm_e m left good) (n - 1) s t)) := by
  have hin : ∀ a b, xm_e m left good a b → a < m ∧ b < m := fun a b h => ⟨h.1, h.2.1⟩
  have hlv : ∀ t, t < m → (x.2.1 (13 * s + t) = nI (n - 1) ↔ xm_lv m (xm_e m left good) (n - 1) s t) := fun t ht => xm_J_lv hJ (by omega) ht (by omega) (Nat.le_refl _)
  have hx : ∀ t, t < m → x.2.1 (13 * s + t) = nI (n - 1) → x.1 (13 * s + t) = true := fun t ht h => (hJ t ht).1.mpr ((hlv t ht).mp h).1
  obtain ⟨b1, b2, b3, b4⟩ := xm_lu_at (left := left) (good := good) (s := s) hm hn hn2 m 0 x (by omega) hx
  -- what a round adds
  have hadd : ∀ t, t < m → ((∃ v, 0 ≤ v ∧ v < 0 + m ∧ xm_p left good s n x.2.1 v t) → xg_d m (xm_e m left good) n s t) := fun t ht ⟨v, _, h2, h3, h4, h5⟩ => by
    have h6 := ((hlv v (by omega)).mp h3).1
    have hv : left v = true := by
      have : ∀ {k : Nat}, xg_d m (xm_e m left good) k s v → left v = true := fun {k} h => xg_least (X := fun _ b => left b = true) (fun a b h => h.2.2.2.1) (fun a u b _ _ h => h.2.2.2.1) h
      exact this h6
    have h7 := xg_ds.mpr (Or.inr (Or.inr ⟨v, by omega, h6, (by omega : v < m), ht, hv, h4, h5⟩))
    rwa [show n - 1 + 1 = n by omega] at h7
  have hnew : ∀ t, t < m → xg_d m (xm_e m left good) n s t → ¬ xg_d m (xm_e m left good) (n - 1) s t → ∃ v, 0 ≤ v ∧ v < 0 + m ∧ xm_p left good s n x.2.1 v t := fun t ht h1 h2 => by
    rw [show n = (n - 1) + 1 by omega] at h1
    rcases xg_ds.mp h1 with h | h | ⟨v, hv, h3, h4⟩
    · exact absurd (xg_mono' (show 1 ≤ n - 1 by omega) (xg_ds.mpr (Or.inl h))) h2
    · exact absurd h h2
    · refine ⟨v, Nat.zero_le v, by omega, (hlv v hv).mpr ⟨h3, fun h5 => h2 ?_⟩, h4.2.2.2.1, h4.2.2.2.2⟩
      have h6 := xg_ds.mpr (Or.inr (Or.inr ⟨v, hv, h5, h4⟩))
      rwa [show n - 1 - 1 + 1 = n - 1 by omega] at h6
  have hch : ∀ t, t < m → ((xm_lu m left good s n m 0 x).1 (13 * s + t) = true ↔ xg_d m (xm_e m left good) n s t) := fun t ht => by
    rw [b2 t ht, (hJ t ht).1]
    constructor
    · rintro (h | h)
      · exact xg_mono' (by omega) h
      · exact hadd t ht h
    · intro h
      by_cases h2 : xg_d m (xm_e m left good) (n - 1) s t
      · exact Or.inl h2
      · exact Or.inr (hnew t ht h h2)
  refine ⟨fun t ht => ⟨hch t ht, fun h => ?_, fun h => ?_⟩, b1, ?_⟩
  · have h1 : ¬ xg_d m (xm_e m left good) n s t := fun z => by rw [(hch t ht).mpr z] at h; cases h
    have h2 : x.1 (13 * s + t) = false := by
      cases hc : x.1 (13 * s + t)
      · rfl
      · exact absurd (xg_mono' (by omega) ((hJ t ht).1.mp hc)) h1
    rw [(b3 t ht).2 (Or.inr (fun z => h1 (hadd t ht z)))]
    exact (hJ t ht).2.1 h2
  · have h1 := (hch t ht).mp h
    cases hc : x.1 (13 * s + t)
    · have h2 : ¬ xg_d m (xm_e m left good) (n - 1) s t := fun z => by rw [(hJ t ht).1.mpr z] at hc; cases hc
      exact ⟨n, by omega, Nat.le_refl n, (b3 t ht).1 hc (hnew t ht h1 h2), h1, h2⟩
    · obtain ⟨k, a1, a2, a3, a4⟩ := (hJ t ht).2.2 hc
      exact ⟨k, a1, by omega, by rw [(b3 t ht).2 (Or.inl hc)]; exact a3, a4⟩
  · rw [b4]
    refine or_congr Iff.rfl ⟨?_, ?_⟩
    · rintro ⟨t, h1, h2, h3⟩
      exact ⟨t, h1, hadd t h1 h3, fun z => by rw [(hJ t h1).1.mpr z] at h2; cases h2⟩
    · rintro ⟨t, h1, h2, h3⟩
      refine ⟨t, h1, ?_, hnew t h1 h2 h3⟩
      cases hc : x.1 (13 * s + t)
      · rfl
      · exact absurd ((hJ t h1).1.mp hc) h3
theorem xm_ls_at {m : Nat} {left good : Nat → Bool} {n : Nat} (hm : m ≤ 13) (hn : 2 ≤ n) (hn2 : n < 2 ^ 31) : ∀ (k s : Nat) (x : (Nat → Bool) × (Nat → Int32) × Bool), s + k = m → (∀ r, r < s → xm_J m left good n x.1 x.2.1 r) → (∀ r, s ≤ r → r < m → xm_J m left good (n - 1) x.1 x.2.1 r) →
    (∀ r, r < m → xm_J m left good n (xm_ls m left good n k s x).1 (xm_ls m left good n k s x).2.1 r) ∧ ((xm_ls m left good n k s x).2.2 = true ↔ (x.2.2 = true ∨ ∃ r t, s ≤ r ∧ r < m ∧ t < m ∧ xg_d m (xm_e m left good) n r t ∧ ¬ xg_d m (xm_e m left good) (n - 1) r t))
  | 0, s, x, hs, h1, _ => ⟨fun r hr => h1 r (by omega), ⟨Or.inl, fun h => h.elim id (fun ⟨r, t, a, b, _⟩ => by omega)⟩⟩
  | k + 1, s, x, hs, h1, h2 => by
    obtain ⟨a1, a2, a3⟩ := xm_row hm hn hn2 x (h2 s (Nat.le_refl s) (by omega))
    obtain ⟨y, hy⟩ : ∃ y, y = xm_lu m left good s n m 0 x := ⟨_, rfl⟩
    rw [← hy] at a1 a2 a3
    have e : xm_ls m left good n (k + 1) s x = xm_ls m left good n k (s + 1) y := by rw [hy]; rfl
    have hkeep : ∀ r t, r < m → r ≠ s → t < m → y.1 (13 * r + t) = x.1 (13 * r + t) ∧ y.2.1 (13 * r + t) = x.2.1 (13 * r + t) := fun r t hr hrs ht => a2 _ (fun t' ht' z => by omega)
    have hJ : ∀ q r, r < m → r ≠ s → xm_J m left good q x.1 x.2.1 r → xm_J m left good q y.1 y.2.1 r := fun q r hr hrs h t ht => by
      obtain ⟨b1, b2⟩ := hkeep r t hr hrs ht
      rw [b1, b2]
      exact h t ht
    obtain ⟨c1, c2⟩ := xm_ls_at hm hn hn2 k (s + 1) y (by omega) (fun r hr => by
      by_cases hrs : r = s
      · subst hrs; exact a1
      · exact hJ n r (by omega) hrs (h1 r (by omega))) (fun r hr hr2 => hJ (n - 1) r hr2 (by omega) (h2 r (by omega) hr2))
    rw [e]
    refine ⟨c1, ?_⟩
    rw [c2, a3, or_assoc]
    refine or_congr Iff.rfl ⟨?_, ?_⟩
    · rintro (⟨t, b1, b2⟩ | ⟨r, t, b1, b2, b3⟩)
      · exact ⟨s, t, Nat.le_refl s, by omega, b1, b2⟩
      · exact ⟨r, t, by omega, b2, b3⟩
    · rintro ⟨r, t, b1, b2, b3, b4⟩
      by_cases hrs : r = s
      · subst hrs
        exact Or.inl ⟨t, b3, b4⟩
      · exact Or.inr ⟨r, t, by omega, b2, b3, b4⟩
/-- all rounds: the least transitive relation, and each level -/
theorem xm_ln_at {m : Nat} {left good : Nat → Bool} (hm : m ≤ 13) : ∀ (k n : Nat) (x : (Nat → Bool) × (Nat → Int32) × Bool), n + k = m + 1 → 2 ≤ n → (∀ r, r < m → xm_J m left good (n - 1) x.1 x.2.1 r) → (x.2.2 = false → ∀ r t, xg_d m (xm_e m left good) m r t → xg_d m (xm_e m left good) (n - 1) r t) →
    ∀ r, r < m → xm_J m left good m (xm_ln m left good k n x).1 (xm_ln m left good k n x).2.1 r
  | 0, n, x, hk, hn, h1, _ => fun r hr => by
    have := h1 r hr
    rwa [show n - 1 = m by omega] at this
  | k + 1, n, x, hk, hn, h1, h2 => by
    have hin : ∀ a b, xm_e m left good a b → a < m ∧ b < m := fun a b h => ⟨h.1, h.2.1⟩
    by_cases hc : x.2.2 = true
    · have e : xm_ln m left good (k + 1) n x = xm_ln m left good k (n + 1) (xm_ls m left good n m 0 (x.1, x.2.1, false)) := if_pos hc
      rw [e]
      obtain ⟨c1, c2⟩ := xm_ls_at (left := left) (good := good) hm hn (by omega) m 0 (x.1, x.2.1, false) (by omega) (fun r hr => absurd hr (Nat.not_lt_zero r)) (fun r _ hr => h1 r hr)
      refine xm_ln_at hm k (n + 1) _ (by omega) (by omega) (fun r hr => c1 r hr) (fun hf r t h => ?_)
      -- no more: the levels have come to their end
      have hst : ∀ t, xg_d m (xm_e m left good) (n - 1 + 1) r t → xg_d m (xm_e m left good) (n - 1) r t := fun t ht => Classical.byContradiction (fun hn2 => by
        have hlt := xg_in hin ht
        rw [c2.mpr (Or.inr ⟨r, t, Nat.zero_le r, hlt.1, hlt.2, by rwa [show n - 1 + 1 = n by omega] at ht, hn2⟩)] at hf
        cases hf)
      have h3 := xg_stab hst (m - (n - 1)) t (by rwa [show n - 1 + (m - (n - 1)) = m by omega])
      exact xg_mono' (by omega) h3
    · have e : xm_ln m left good (k + 1) n x = x := if_neg hc
      rw [e]
      intro r hr t ht
      have hf : x.2.2 = false := by cases hx : x.2.2; rfl; exact absurd hx hc
      obtain ⟨b1, b2, b3⟩ := h1 r hr t ht
      refine ⟨b1.trans ⟨fun h => xg_mono' (by omega) h, h2 hf r t⟩, b2, fun h => ?_⟩
      obtain ⟨j, d1, d2, d3⟩ := b3 h
      exact ⟨j, d1, by omega, d3⟩
