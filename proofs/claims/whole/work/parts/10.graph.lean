/-! walks over a relation on the numbers below m; the least transitive relation; counting -/
def xg_d (m : Nat) (e : Nat → Nat → Prop) : Nat → Nat → Nat → Prop
  | 0, _, _ => False
  | n + 1, s, t => e s t ∨ xg_d m e n s t ∨ ∃ u, u < m ∧ xg_d m e n s u ∧ e u t
theorem xg_ds {m : Nat} {e : Nat → Nat → Prop} {n s t : Nat} : xg_d m e (n + 1) s t ↔ (e s t ∨ xg_d m e n s t ∨ ∃ u, u < m ∧ xg_d m e n s u ∧ e u t) := Iff.rfl
def xg_tc (m : Nat) (e : Nat → Nat → Prop) (s t : Nat) : Prop := ∃ n, xg_d m e n s t
theorem xg_mono {m : Nat} {e : Nat → Nat → Prop} {n s t : Nat} : ∀ k, xg_d m e n s t → xg_d m e (n + k) s t
  | 0, h => h
  | k + 1, h => xg_ds.mpr (Or.inr (Or.inl (xg_mono k h)))
theorem xg_mono' {m : Nat} {e : Nat → Nat → Prop} {n k s t : Nat} (hk : n ≤ k) (h : xg_d m e n s t) : xg_d m e k s t := by
  have h1 := xg_mono (k - n) h
  rwa [show n + (k - n) = k by omega] at h1
theorem xg_in {m : Nat} {e : Nat → Nat → Prop} (hin : ∀ s t, e s t → s < m ∧ t < m) : ∀ {n s t : Nat}, xg_d m e n s t → s < m ∧ t < m
  | 0, _, _, h => h.elim
  | n + 1, s, t, h => by
    rcases xg_ds.mp h with h | h | ⟨u, hu, h1, h2⟩
    · exact hin s t h
    · exact xg_in hin h
    · exact ⟨(xg_in hin h1).1, (hin u t h2).2⟩
theorem xg_tc_e {m : Nat} {e : Nat → Nat → Prop} {s t : Nat} (h : e s t) : xg_tc m e s t := ⟨1, Or.inl h⟩
theorem xg_tc_r {m : Nat} {e : Nat → Nat → Prop} {s u t : Nat} (hu : u < m) (h : xg_tc m e s u) (h2 : e u t) : xg_tc m e s t := by
  obtain ⟨n, h⟩ := h
  exact ⟨n + 1, xg_ds.mpr (Or.inr (Or.inr ⟨u, hu, h, h2⟩))⟩
theorem xg_tc_t {m : Nat} {e : Nat → Nat → Prop} {s u : Nat} (hu : u < m) (h : xg_tc m e s u) : ∀ {n t : Nat}, xg_d m e n u t → xg_tc m e s t
  | 0, _, h2 => h2.elim
  | n + 1, t, h2 => by
    rcases xg_ds.mp h2 with h2 | h2 | ⟨v, hv, h3, h4⟩
    · exact xg_tc_r hu h h2
    · exact xg_tc_t hu h h2
    · exact xg_tc_r hv (xg_tc_t hu h h3) h4
theorem xg_least {m : Nat} {e X : Nat → Nat → Prop} (h1 : ∀ s t, e s t → X s t) (h2 : ∀ s u t, u < m → X s u → e u t → X s t) : ∀ {n s t : Nat}, xg_d m e n s t → X s t
  | 0, _, _, h => h.elim
  | n + 1, s, t, h => by
    rcases xg_ds.mp h with h | h | ⟨u, hu, h3, h4⟩
    · exact h1 s t h
    · exact xg_least h1 h2 h
    · exact h2 s u t hu (xg_least h1 h2 h3) h4
/-- relations that agree below have the same walks -/
theorem xg_d_sub {m : Nat} {e f : Nat → Nat → Prop} (h : ∀ s t, e s t → f s t) : ∀ {n s t : Nat}, xg_d m e n s t → xg_d m f n s t
  | 0, _, _, h => h.elim
  | n + 1, s, t, h1 => by
    rcases xg_ds.mp h1 with h1 | h1 | ⟨u, hu, h3, h4⟩
    · exact xg_ds.mpr (Or.inl (h s t h1))
    · exact xg_ds.mpr (Or.inr (Or.inl (xg_d_sub h h1)))
    · exact xg_ds.mpr (Or.inr (Or.inr ⟨u, hu, xg_d_sub h h3, h u t h4⟩))
theorem xg_tc_sub {m : Nat} {e f : Nat → Nat → Prop} (h : ∀ s t, e s t → f s t) {s t : Nat} (h1 : xg_tc m e s t) : xg_tc m f s t := by
  obtain ⟨n, h1⟩ := h1
  exact ⟨n, xg_d_sub h h1⟩
/-- Warshall's rounds give the least transitive relation -/
theorem xg_wa_tr {m : Nat} {e : Nat → Nat → Prop} {X : Nat → Nat → Nat → Prop} (h0 : ∀ s t, X 0 s t ↔ e s t) (hs : ∀ v s t, v < m → (X (v + 1) s t ↔ (X v s t ∨ (X v s v ∧ X v v t)))) :
    ∀ v, v ≤ m → (∀ s t, e s t → X v s t) ∧ (∀ u s t, u < v → X v s u → X v u t → X v s t) := by
  intro v
  induction v with
  | zero => exact fun _ => ⟨fun s t h => (h0 s t).mpr h, fun u s t hu => absurd hu (Nat.not_lt_zero u)⟩
  | succ v ih =>
    intro hv
    obtain ⟨i1, i2⟩ := ih (by omega)
    have hs := fun s t => hs v s t (by omega)
    refine ⟨fun s t h => (hs s t).mpr (Or.inl (i1 s t h)), fun u s t hu a b => ?_⟩
    have a := (hs s u).mp a
    have b := (hs u t).mp b
    by_cases huv : u = v
    · subst huv
      have a' : X u s u := by
        rcases a with a | a
        · exact a
        · exact a.1
      have b' : X u u t := by
        rcases b with b | b
        · exact b
        · exact b.2
      exact (hs s t).mpr (Or.inr ⟨a', b'⟩)
    · have hu' : u < v := by omega
      rcases a with a | ⟨a1, a2⟩
      · rcases b with b | ⟨b1, b2⟩
        · exact (hs s t).mpr (Or.inl (i2 u s t hu' a b))
        · exact (hs s t).mpr (Or.inr ⟨i2 u s v hu' a b1, b2⟩)
      · rcases b with b | ⟨b1, b2⟩
        · exact (hs s t).mpr (Or.inr ⟨a1, i2 u v t hu' a2 b⟩)
        · exact (hs s t).mpr (Or.inr ⟨a1, b2⟩)
theorem xg_wa {m : Nat} {e : Nat → Nat → Prop} (hin : ∀ s t, e s t → s < m ∧ t < m) {X : Nat → Nat → Nat → Prop} (h0 : ∀ s t, X 0 s t ↔ e s t)
    (hs : ∀ v s t, v < m → (X (v + 1) s t ↔ (X v s t ∨ (X v s v ∧ X v v t)))) (s t : Nat) : X m s t ↔ xg_tc m e s t := by
  constructor
  · have key : ∀ v, v ≤ m → ∀ s t, X v s t → xg_tc m e s t := by
      intro v
      induction v with
      | zero => exact fun _ s t h => xg_tc_e ((h0 s t).mp h)
      | succ v ih =>
        intro hv s t h
        rcases (hs v s t (by omega)).mp h with h | ⟨h1, h2⟩
        · exact ih (by omega) s t h
        · obtain ⟨n, h3⟩ := ih (by omega) v t h2
          exact xg_tc_t (by omega) (ih (by omega) s v h1) h3
    exact key m (Nat.le_refl m) s t
  · intro h
    obtain ⟨n, h⟩ := h
    obtain ⟨i1, i2⟩ := xg_wa_tr h0 hs m (Nat.le_refl m)
    exact xg_least (X := X m) i1 (fun s u t hu a b => i2 u s t hu a (i1 u t b)) h
/-- how many of the numbers below k have p -/
noncomputable def xg_cn (p : Nat → Prop) : Nat → Nat
  | 0 => 0
  | k + 1 => xg_cn p k + @ite Nat (p k) (Classical.propDecidable (p k)) 1 0
theorem xg_cn_t {p : Nat → Prop} {k : Nat} (h : p k) : xg_cn p (k + 1) = xg_cn p k + 1 := by
  show xg_cn p k + @ite Nat (p k) (Classical.propDecidable (p k)) 1 0 = _
  rw [if_pos h]
theorem xg_cn_f {p : Nat → Prop} {k : Nat} (h : ¬ p k) : xg_cn p (k + 1) = xg_cn p k := by
  show xg_cn p k + @ite Nat (p k) (Classical.propDecidable (p k)) 1 0 = _
  rw [if_neg h, Nat.add_zero]
theorem xg_cn_le (p : Nat → Prop) : ∀ k, xg_cn p k ≤ k
  | 0 => Nat.le_refl _
  | k + 1 => by
    have ih := xg_cn_le p k
    by_cases h : p k
    · rw [xg_cn_t h]; omega
    · rw [xg_cn_f h]; omega
theorem xg_cn_mono {p q : Nat → Prop} : ∀ k, (∀ i, i < k → p i → q i) → xg_cn p k ≤ xg_cn q k
  | 0, _ => Nat.le_refl _
  | k + 1, h => by
    have ih := xg_cn_mono k (fun i hi => h i (Nat.lt_succ_of_lt hi))
    by_cases hp : p k
    · rw [xg_cn_t hp, xg_cn_t (h k (Nat.lt_succ_self k) hp)]; omega
    · by_cases hq : q k
      · rw [xg_cn_f hp, xg_cn_t hq]; omega
      · rw [xg_cn_f hp, xg_cn_f hq]; omega
theorem xg_cn_lt {p q : Nat → Prop} {j : Nat} (hq : q j) (hp : ¬ p j) : ∀ k, (∀ i, i < k → p i → q i) → j < k → xg_cn p k < xg_cn q k
  | 0, _, hj => absurd hj (Nat.not_lt_zero j)
  | k + 1, h, hj => by
    have hm := xg_cn_mono k (fun i hi => h i (Nat.lt_succ_of_lt hi))
    by_cases hjk : j = k
    · subst hjk
      rw [xg_cn_f hp, xg_cn_t hq]; omega
    · have ih := xg_cn_lt hq hp k (fun i hi => h i (Nat.lt_succ_of_lt hi)) (by omega)
      by_cases hpk : p k
      · rw [xg_cn_t hpk, xg_cn_t (h k (Nat.lt_succ_self k) hpk)]; omega
      · by_cases hqk : q k
        · rw [xg_cn_f hpk, xg_cn_t hqk]; omega
        · rw [xg_cn_f hpk, xg_cn_f hqk]; omega
theorem xg_stab {m : Nat} {e : Nat → Nat → Prop} {n s : Nat} (h : ∀ t, xg_d m e (n + 1) s t → xg_d m e n s t) : ∀ k t, xg_d m e (n + k) s t → xg_d m e n s t
  | 0, _, h1 => h1
  | k + 1, t, h1 => by
    rcases (xg_ds (n := n + k)).mp h1 with h1 | h1 | ⟨u, hu, h2, h3⟩
    · exact h t (xg_ds.mpr (Or.inl h1))
    · exact xg_stab h k t h1
    · exact h t (xg_ds.mpr (Or.inr (Or.inr ⟨u, hu, xg_stab h k u h2, h3⟩)))
theorem xg_grow {m : Nat} {e : Nat → Nat → Prop} (hin : ∀ s t, e s t → s < m ∧ t < m) {s : Nat} : ∀ n, (∃ t, xg_d m e (n + 1) s t ∧ ¬ xg_d m e n s t) → n ≤ xg_cn (xg_d m e n s) m
  | 0, _ => Nat.zero_le _
  | n + 1, ⟨t, h1, h2⟩ => by
    by_cases hx : ∃ t, xg_d m e (n + 1) s t ∧ ¬ xg_d m e n s t
    · have ih := xg_grow hin n hx
      obtain ⟨t', a, b⟩ := hx
      have hl := xg_cn_lt (p := xg_d m e n s) (q := xg_d m e (n + 1) s) a b m (fun i _ h => xg_ds.mpr (Or.inr (Or.inl h))) (xg_in hin a).2
      omega
    · have hst : ∀ t, xg_d m e (n + 1) s t → xg_d m e n s t := fun t ht => Classical.byContradiction (fun hn => hx ⟨t, ht, hn⟩)
      exact absurd (xg_mono 1 (xg_stab hst 2 t h1)) h2
theorem xg_full {m : Nat} {e : Nat → Nat → Prop} (hin : ∀ s t, e s t → s < m ∧ t < m) {k s t : Nat} (h : xg_d m e k s t) : xg_d m e m s t := by
  by_cases hx : ∃ t, xg_d m e (m + 1) s t ∧ ¬ xg_d m e m s t
  · have h1 := xg_grow hin m hx
    obtain ⟨t', a, b⟩ := hx
    have h2 := xg_cn_lt (p := xg_d m e m s) (q := fun _ => True) trivial b m (fun _ _ _ => trivial) (xg_in hin a).2
    have h3 := xg_cn_le (fun _ => True) m
    omega
  · have hst : ∀ t, xg_d m e (m + 1) s t → xg_d m e m s t := fun t ht => Classical.byContradiction (fun hn => hx ⟨t, ht, hn⟩)
    rcases Nat.lt_or_ge k m with hk | hk
    · exact xg_mono' (by omega) h
    · refine xg_stab hst (k - m) t ?_
      rwa [show m + (k - m) = k by omega]
theorem xg_tc_full {m : Nat} {e : Nat → Nat → Prop} (hin : ∀ s t, e s t → s < m ∧ t < m) {s t : Nat} : xg_tc m e s t ↔ xg_d m e m s t :=
  ⟨fun h => by obtain ⟨n, h⟩ := h; exact xg_full hin h, fun h => ⟨m, h⟩⟩
/-- another day is reached within m - 1 steps -/
theorem xg_other {m : Nat} {e : Nat → Nat → Prop} {s : Nat} : ∀ {n t : Nat}, t ≠ s → xg_d m e n s t → xg_d m (fun u v => e u v ∧ v ≠ s) n s t
  | 0, _, _, h => h.elim
  | n + 1, t, ht, h => by
    rcases xg_ds.mp h with h | h | ⟨u, hu, h1, h2⟩
    · exact xg_ds.mpr (Or.inl ⟨h, ht⟩)
    · exact xg_ds.mpr (Or.inr (Or.inl (xg_other ht h)))
    · by_cases hus : u = s
      · subst hus
        exact xg_ds.mpr (Or.inl ⟨h2, ht⟩)
      · exact xg_ds.mpr (Or.inr (Or.inr ⟨u, hu, xg_other hus h1, h2, ht⟩))
theorem xg_ne {m : Nat} {e : Nat → Nat → Prop} {s : Nat} : ∀ {n t : Nat}, xg_d m (fun u v => e u v ∧ v ≠ s) n s t → t ≠ s
  | 0, _, h => h.elim
  | n + 1, t, h => by
    rcases xg_ds.mp h with h | h | ⟨u, hu, h1, h2⟩
    · exact h.2
    · exact xg_ne h
    · exact h2.2
theorem xg_short {m : Nat} {e : Nat → Nat → Prop} (hin : ∀ s t, e s t → s < m ∧ t < m) {k s t : Nat} (hm : 0 < m) (ht : t ≠ s) (h : xg_d m e k s t) : xg_d m e (m - 1) s t := by
  have hin' : ∀ a b, (fun u v => e u v ∧ v ≠ s) a b → a < m ∧ b < m := fun a b h => hin a b h.1
  have hs : s < m := (xg_in hin h).1
  refine xg_d_sub (e := fun u v => e u v ∧ v ≠ s) (fun a b h => h.1) ?_
  have h := xg_other ht h
  by_cases hx : ∃ t, xg_d m (fun u v => e u v ∧ v ≠ s) (m - 1 + 1) s t ∧ ¬ xg_d m (fun u v => e u v ∧ v ≠ s) (m - 1) s t
  · have h1 := xg_grow hin' (m - 1) hx
    obtain ⟨t', a, b⟩ := hx
    have h2 := xg_cn_lt (p := xg_d m (fun u v => e u v ∧ v ≠ s) (m - 1) s) (q := fun v => v ≠ s) (xg_ne a) b m (fun i _ h => xg_ne h) (xg_in hin' a).2
    have h3 := xg_cn_lt (p := fun v => v ≠ s) (q := fun _ => True) (j := s) trivial (fun z => z rfl) m (fun _ _ _ => trivial) hs
    have h4 := xg_cn_le (fun _ => True) m
    omega
  · have hst : ∀ t, xg_d m (fun u v => e u v ∧ v ≠ s) (m - 1 + 1) s t → xg_d m (fun u v => e u v ∧ v ≠ s) (m - 1) s t := fun t ht => Classical.byContradiction (fun hn => hx ⟨t, ht, hn⟩)
    rcases Nat.lt_or_ge k (m - 1) with hk | hk
    · exact xg_mono' (by omega) h
    · refine xg_stab hst (k - (m - 1)) t ?_
      rwa [show m - 1 + (k - (m - 1)) = k by omega]
/-- walks of just n steps -/
def xg_w (m : Nat) (e : Nat → Nat → Prop) : Nat → Nat → Nat → Prop
  | 0, s, t => s = t
  | n + 1, s, t => ∃ u, u < m ∧ e s u ∧ xg_w m e n u t
theorem xg_w_cat {m : Nat} {e : Nat → Nat → Prop} {u t j : Nat} (h2 : xg_w m e j u t) : ∀ {i s : Nat}, xg_w m e i s u → xg_w m e (i + j) s t
  | 0, s, h => by
    have h : s = u := h
    subst h
    rwa [Nat.zero_add]
  | i + 1, s, h => by
    obtain ⟨v, hv, h1, h3⟩ := h
    rw [show i + 1 + j = (i + j) + 1 by omega]
    exact ⟨v, hv, h1, xg_w_cat h2 h3⟩
theorem xg_w_one {m : Nat} {e : Nat → Nat → Prop} {u t : Nat} (ht : t < m) (h : e u t) : xg_w m e 1 u t := ⟨t, ht, h, rfl⟩
theorem xg_w_back {m : Nat} {e : Nat → Nat → Prop} (hin : ∀ s t, e s t → s < m ∧ t < m) : ∀ {n s t : Nat}, xg_w m e (n + 1) s t → ∃ u, u < m ∧ xg_w m e n s u ∧ e u t
  | 0, s, t, h => by
    obtain ⟨v, hv, h1, h3⟩ := h
    have h3 : v = t := h3
    subst h3
    exact ⟨s, (hin s v h1).1, rfl, h1⟩
  | n + 1, s, t, h => by
    obtain ⟨v, hv, h1, h3⟩ := h
    obtain ⟨u, hu, h4, h5⟩ := xg_w_back hin h3
    exact ⟨u, hu, ⟨v, hv, h1, h4⟩, h5⟩
theorem xg_w_d {m : Nat} {e : Nat → Nat → Prop} (hin : ∀ s t, e s t → s < m ∧ t < m) : ∀ {n s t : Nat}, xg_w m e (n + 1) s t → xg_d m e (n + 1) s t
  | 0, s, t, h => by
    obtain ⟨v, hv, h1, h3⟩ := h
    have h3 : v = t := h3
    subst h3
    exact xg_ds.mpr (Or.inl h1)
  | n + 1, s, t, h => by
    obtain ⟨u, hu, h4, h5⟩ := xg_w_back hin h
    exact xg_ds.mpr (Or.inr (Or.inr ⟨u, hu, xg_w_d hin h4, h5⟩))
theorem xg_w_pad {m : Nat} {e : Nat → Nat → Prop} {s t : Nat} (hs : s < m) (hr : e s s) : ∀ {n : Nat} (k : Nat), xg_w m e n s t → xg_w m e (n + k) s t
  | _, 0, h => h
  | n, k + 1, h => ⟨s, hs, hr, xg_w_pad hs hr k h⟩
theorem xg_d_w {m : Nat} {e : Nat → Nat → Prop} (hin : ∀ s t, e s t → s < m ∧ t < m) (hr : ∀ s t, e s t → e s s) : ∀ {n s t : Nat}, xg_d m e n s t → xg_w m e n s t ∧ e s s
  | 0, _, _, h => h.elim
  | n + 1, s, t, h => by
    rcases xg_ds.mp h with h | h | ⟨u, hu, h1, h2⟩
    · have h1 := xg_w_pad (hin s t h).1 (hr s t h) n (xg_w_one (hin s t h).2 h)
      rw [Nat.add_comm] at h1
      exact ⟨h1, hr s t h⟩
    · have h1 := xg_d_w hin hr h
      exact ⟨xg_w_pad (xg_in hin h).1 h1.2 1 h1.1, h1.2⟩
    · have h3 := xg_d_w hin hr h1
      exact ⟨xg_w_cat (xg_w_one (hin u t h2).2 h2) h3.1, h3.2⟩
