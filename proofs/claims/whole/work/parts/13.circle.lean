/-! circles: walks home with a better step, the least list -/
def xl_hb (m : Nat) (g b : Nat → Nat → Prop) : Nat → Nat → Nat → Prop
  | 0, _, _ => False
  | n + 1, s, z => (∃ u, u < m ∧ g s u ∧ xl_hb m g b n u z) ∨ (∃ u, u < m ∧ b s u ∧ xg_w m g n u z)
theorem xl_hbs {m : Nat} {g b : Nat → Nat → Prop} {n s z : Nat} : xl_hb m g b (n + 1) s z ↔ ((∃ u, u < m ∧ g s u ∧ xl_hb m g b n u z) ∨ (∃ u, u < m ∧ b s u ∧ xg_w m g n u z)) := Iff.rfl
theorem xg_ws {m : Nat} {e : Nat → Nat → Prop} {n s t : Nat} : xg_w m e (n + 1) s t ↔ ∃ u, u < m ∧ e s u ∧ xg_w m e n u t := Iff.rfl
theorem xl_hb_w {m : Nat} {g b : Nat → Nat → Prop} (hbg : ∀ s t, b s t → g s t) : ∀ {n s z : Nat}, xl_hb m g b n s z → xg_w m g n s z
  | 0, _, _, h => h.elim
  | n + 1, s, z, h => by
    rcases xl_hbs.mp h with ⟨u, hu, h1, h2⟩ | ⟨u, hu, h1, h2⟩
    · exact ⟨u, hu, h1, xl_hb_w hbg h2⟩
    · exact ⟨u, hu, hbg s u h1, h2⟩
theorem xl_hb_cut {m : Nat} {g b : Nat → Nat → Prop} : ∀ {n s z : Nat}, xl_hb m g b n s z → ∃ i j t u, u < m ∧ xg_w m g i s t ∧ b t u ∧ xg_w m g j u z ∧ i + 1 + j = n
  | 0, _, _, h => h.elim
  | n + 1, s, z, h => by
    rcases xl_hbs.mp h with ⟨u, hu, h1, h2⟩ | ⟨u, hu, h1, h2⟩
    · obtain ⟨i, j, t, v, hv, a1, a2, a3, a4⟩ := xl_hb_cut h2
      exact ⟨i + 1, j, t, v, hv, ⟨u, hu, h1, a1⟩, a2, a3, by omega⟩
    · exact ⟨0, n, s, u, hu, rfl, h1, h2, by omega⟩
theorem xl_hb_glue {m : Nat} {g b : Nat → Nat → Prop} {j t u z : Nat} (hu : u < m) (h2 : b t u) (h3 : xg_w m g j u z) : ∀ {i s : Nat}, xg_w m g i s t → xl_hb m g b (i + 1 + j) s z
  | 0, s, h => by
    have h : s = t := h
    subst h
    rw [show 0 + 1 + j = j + 1 by omega]
    exact xl_hbs.mpr (Or.inr ⟨u, hu, h2, h3⟩)
  | i + 1, s, h => by
    obtain ⟨v, hv, h1, h4⟩ := h
    rw [show i + 1 + 1 + j = (i + 1 + j) + 1 by omega]
    exact xl_hbs.mpr (Or.inl ⟨v, hv, h1, xl_hb_glue hu h2 h3 h4⟩)
/-- a circle of n days: a better step, and n - 1 steps back -/
theorem xl_circ {m : Nat} {g b : Nat → Nat → Prop} (hbin : ∀ s t, b s t → s < m ∧ t < m) {n : Nat} : (∃ z, xl_hb m g b n z z) ↔ ∃ k t u, n = k + 1 ∧ b t u ∧ xg_w m g k u t := by
  constructor
  · rintro ⟨z, h⟩
    obtain ⟨i, j, t, u, hu, a1, a2, a3, a4⟩ := xl_hb_cut h
    exact ⟨j + i, t, u, by omega, a2, xg_w_cat a1 a3⟩
  · rintro ⟨k, t, u, rfl, h1, h2⟩
    have h3 := xl_hb_glue (hbin t u h1).2 h1 h2 (i := 0) (s := t) rfl
    rw [show 0 + 1 + k = k + 1 by omega] at h3
    exact ⟨t, h3⟩
def xl_nx (n i : Nat) : Nat := if i + 1 < n then i + 1 else 0
/-- a list of n days that is a circle (days may come twice) -/
def xl_ok (m : Nat) (g b : Nat → Nat → Prop) (n : Nat) (L : Nat → Nat) : Prop := 0 < n ∧ (∀ i, i < n → L i < m) ∧ (∀ i, i < n → g (L i) (L (xl_nx n i))) ∧ ∃ i, i < n ∧ b (L i) (L (xl_nx n i))
theorem xl_nx_lt {n i : Nat} (h : i + 1 < n) : xl_nx n i = i + 1 := if_pos h
theorem xl_nx_end {n i : Nat} (h : ¬ i + 1 < n) : xl_nx n i = 0 := if_neg h
theorem xl_ok_w {m : Nat} {g b : Nat → Nat → Prop} {n : Nat} {L : Nat → Nat} (h : xl_ok m g b n L) : ∀ r k, k + (r + 1) = n → xg_w m g (r + 1) (L k) (L 0)
  | 0, k, hk => by
    have h1 := h.2.2.1 k (by omega)
    rw [xl_nx_end (by omega)] at h1
    exact ⟨L 0, h.2.1 0 h.1, h1, rfl⟩
  | r + 1, k, hk => by
    have h1 := h.2.2.1 k (by omega)
    rw [xl_nx_lt (by omega)] at h1
    exact ⟨L (k + 1), h.2.1 (k + 1) (by omega), h1, xl_ok_w h r (k + 1) (by omega)⟩
theorem xl_ok_hb {m : Nat} {g b : Nat → Nat → Prop} {n : Nat} {L : Nat → Nat} (h : xl_ok m g b n L) {p : Nat} (hp : p < n) (hb : b (L p) (L (xl_nx n p))) : ∀ r k, k + (r + 1) = n → k ≤ p → xl_hb m g b (r + 1) (L k) (L 0)
  | 0, k, hk, hkp => by
    have e : p = k := by omega
    subst e
    rw [xl_nx_end (by omega)] at hb
    exact xl_hbs.mpr (Or.inr ⟨L 0, h.2.1 0 h.1, hb, rfl⟩)
  | r + 1, k, hk, hkp => by
    by_cases e : p = k
    · subst e
      rw [xl_nx_lt (by omega)] at hb
      exact xl_hbs.mpr (Or.inr ⟨L (p + 1), h.2.1 (p + 1) (by omega), hb, xl_ok_w h r (p + 1) (by omega)⟩)
    · have h1 := h.2.2.1 k (by omega)
      rw [xl_nx_lt (by omega)] at h1
      exact xl_hbs.mpr (Or.inl ⟨L (k + 1), h.2.1 (k + 1) (by omega), h1, xl_ok_hb h hp hb r (k + 1) (by omega) (by omega)⟩)
theorem xl_ok_self {m : Nat} {g b : Nat → Nat → Prop} {n : Nat} {L : Nat → Nat} (h : xl_ok m g b n L) : xl_hb m g b n (L 0) (L 0) := by
  obtain ⟨p, hp, hb⟩ := h.2.2.2
  have h1 := xl_ok_hb h hp hb (n - 1) 0 (by omega) (by omega)
  rwa [show n - 1 + 1 = n by omega] at h1
/-- which days may come next: F: a better step lies behind; r steps are left then -/
def xl_cand (m : Nat) (g b : Nat → Nat → Prop) (z : Nat) (F : Prop) (a r u : Nat) : Prop := u < m ∧ ((F ∧ g a u ∧ xg_w m g r u z) ∨ (¬ F ∧ ((g a u ∧ xl_hb m g b r u z) ∨ (b a u ∧ xg_w m g r u z))))
def xl_good (m : Nat) (g b : Nat → Nat → Prop) (z : Nat) (F : Prop) (a r : Nat) : Prop := (F ∧ xg_w m g r a z) ∨ (¬ F ∧ xl_hb m g b r a z)
theorem xl_good_c {m : Nat} {g b : Nat → Nat → Prop} {z : Nat} {F : Prop} {a r : Nat} (h : xl_good m g b z F a (r + 1)) : ∃ u, xl_cand m g b z F a r u := by
  rcases h with ⟨hF, u, hu, h1, h2⟩ | ⟨hF, ⟨u, hu, h1, h2⟩ | ⟨u, hu, h1, h2⟩⟩
  · exact ⟨u, hu, Or.inl ⟨hF, h1, h2⟩⟩
  · exact ⟨u, hu, Or.inr ⟨hF, Or.inl ⟨h1, h2⟩⟩⟩
  · exact ⟨u, hu, Or.inr ⟨hF, Or.inr ⟨h1, h2⟩⟩⟩
theorem xl_cand_g {m : Nat} {g b : Nat → Nat → Prop} (hbg : ∀ s t, b s t → g s t) {z : Nat} {F : Prop} {a r u : Nat} (h : xl_cand m g b z F a r u) : g a u ∧ xl_good m g b z (F ∨ b a u) u r := by
  rcases h with ⟨hu, ⟨hF, h1, h2⟩ | ⟨hF, ⟨h1, h2⟩ | ⟨h1, h2⟩⟩⟩
  · exact ⟨h1, Or.inl ⟨Or.inl hF, h2⟩⟩
  · refine ⟨h1, ?_⟩
    by_cases hb : b a u
    · exact Or.inl ⟨Or.inr hb, xl_hb_w hbg h2⟩
    · exact Or.inr ⟨fun z => z.elim hF hb, h2⟩
  · exact ⟨hbg a u h1, Or.inl ⟨Or.inr h1, h2⟩⟩
/-- the days taken one by one, each the least that may come -/
def xl_greedy (m : Nat) (g b : Nat → Nat → Prop) (n : Nat) (A : Nat → Nat) (f : Nat → Prop) : Prop :=
  ¬ f 0 ∧ ∀ i, i < n → (xl_cand m g b (A 0) (f i) (A i) (n - 1 - i) (A (i + 1)) ∧ ∀ u, xl_cand m g b (A 0) (f i) (A i) (n - 1 - i) u → A (i + 1) ≤ u) ∧ (f (i + 1) ↔ (f i ∨ b (A i) (A (i + 1))))
theorem xl_greedy_good {m : Nat} {g b : Nat → Nat → Prop} (hbg : ∀ s t, b s t → g s t) {n : Nat} {A : Nat → Nat} {f : Nat → Prop} (h : xl_greedy m g b n A f) (h0 : xl_hb m g b n (A 0) (A 0)) : ∀ i, i ≤ n → xl_good m g b (A 0) (f i) (A i) (n - i)
  | 0, _ => Or.inr ⟨h.1, h0⟩
  | i + 1, hi => by
    obtain ⟨⟨h1, -⟩, h2⟩ := h.2 i (by omega)
    have h3 := (xl_cand_g hbg h1).2
    rw [show n - 1 - i = n - (i + 1) by omega] at h3
    rcases h3 with ⟨a, b⟩ | ⟨a, b⟩
    · exact Or.inl ⟨h2.mpr a, b⟩
    · exact Or.inr ⟨fun z => a (h2.mp z), b⟩
theorem xl_greedy_f {m : Nat} {g b : Nat → Nat → Prop} {n : Nat} {A : Nat → Nat} {f : Nat → Prop} (h : xl_greedy m g b n A f) : ∀ i, i ≤ n → (f i ↔ ∃ k, k < i ∧ b (A k) (A (k + 1)))
  | 0, _ => ⟨fun z => absurd z h.1, fun ⟨k, hk, _⟩ => absurd hk (Nat.not_lt_zero k)⟩
  | i + 1, hi => by
    rw [(h.2 i (by omega)).2, xl_greedy_f h i (by omega)]
    constructor
    · rintro (⟨k, h1, h2⟩ | h1)
      · exact ⟨k, by omega, h2⟩
      · exact ⟨i, by omega, h1⟩
    · rintro ⟨k, h1, h2⟩
      by_cases e : k = i
      · subst e
        exact Or.inr h2
      · exact Or.inl ⟨k, by omega, h2⟩
theorem xl_greedy_ok {m : Nat} {g b : Nat → Nat → Prop} (hbg : ∀ s t, b s t → g s t) {n : Nat} (hn : 0 < n) {A : Nat → Nat} {f : Nat → Prop} (h : xl_greedy m g b n A f) (hA : A 0 < m) (h0 : xl_hb m g b n (A 0) (A 0)) : xl_ok m g b n A := by
  have hend := xl_greedy_good hbg h h0 n (Nat.le_refl n)
  rw [Nat.sub_self] at hend
  have hfn : f n := by
    rcases hend with ⟨a, -⟩ | ⟨-, a⟩
    · exact a
    · exact a.elim
  have hAn : A n = A 0 := by
    rcases hend with ⟨-, a⟩ | ⟨-, a⟩
    · exact a
    · exact a.elim
  have hx : ∀ i, i < n → A (xl_nx n i) = A (i + 1) := fun i hi => by
    by_cases h1 : i + 1 < n
    · rw [xl_nx_lt h1]
    · rw [xl_nx_end h1, show i + 1 = n by omega, hAn]
  refine ⟨hn, fun i hi => ?_, fun i hi => ?_, ?_⟩
  · cases i with
    | zero => exact hA
    | succ i => exact (h.2 i (by omega)).1.1.1
  · rw [hx i hi]
    exact (xl_cand_g hbg (h.2 i hi).1.1).1
  · obtain ⟨k, h1, h2⟩ := (xl_greedy_f h n (Nat.le_refl n)).mp hfn
    exact ⟨k, h1, by rw [hx k h1]; exact h2⟩
/-- equal, or less at the first place where they differ -/
def xl_le (n : Nat) (A L : Nat → Nat) : Prop := (∀ i, i < n → A i = L i) ∨ ∃ j, j < n ∧ (∀ i, i < j → A i = L i) ∧ A j < L j
theorem xl_le_anti {n : Nat} {A L : Nat → Nat} (h1 : xl_le n A L) (h2 : xl_le n L A) : ∀ i, i < n → A i = L i := by
  rcases h1 with h1 | ⟨j, j1, j2, j3⟩
  · exact h1
  · rcases h2 with h2 | ⟨k, k1, k2, k3⟩
    · exact fun i hi => (h2 i hi).symm
    · exfalso
      rcases Nat.lt_trichotomy j k with h | h | h
      · have := k2 j h; omega
      · subst h; omega
      · have := j2 k h; omega
theorem xl_greedy_le {m : Nat} {g b : Nat → Nat → Prop} (hbg : ∀ s t, b s t → g s t) {n : Nat} {A : Nat → Nat} {f : Nat → Prop} (h : xl_greedy m g b n A f) (hz : ∀ z, z < m → xl_hb m g b n z z → A 0 ≤ z) {L : Nat → Nat} (hL : xl_ok m g b n L) : xl_le n A L := by
  have key : ∀ i, i < n → (∀ k, k ≤ i → A k = L k) ∨ ∃ j, j < n ∧ (∀ k, k < j → A k = L k) ∧ A j < L j := by
    intro i
    induction i with
    | zero =>
      intro hi
      have h1 := hz (L 0) (hL.2.1 0 hL.1) (xl_ok_self hL)
      by_cases e : A 0 = L 0
      · exact Or.inl (fun k hk => by rw [show k = 0 by omega]; exact e)
      · exact Or.inr ⟨0, hi, fun k hk => absurd hk (Nat.not_lt_zero k), by omega⟩
    | succ i ih =>
      intro hi
      rcases ih (by omega) with h1 | h1
      · have hc : xl_cand m g b (A 0) (f i) (A i) (n - 1 - i) (L (i + 1)) := by
          have e0 := h1 0 (Nat.zero_le i)
          have ei := h1 i (Nat.le_refl i)
          have hg := hL.2.2.1 i (by omega)
          rw [xl_nx_lt (by omega)] at hg
          refine ⟨hL.2.1 (i + 1) (by omega), ?_⟩
          have hw : xg_w m g (n - 1 - i) (L (i + 1)) (A 0) := by
            have := xl_ok_w hL (n - 1 - i - 1) (i + 1) (by omega)
            rw [show n - 1 - i - 1 + 1 = n - 1 - i by omega] at this
            rw [e0]; exact this
          by_cases hF : f i
          · exact Or.inl ⟨hF, by rw [ei]; exact hg, hw⟩
          · refine Or.inr ⟨hF, ?_⟩
            obtain ⟨p, hp, hb⟩ := hL.2.2.2
            rcases Nat.lt_trichotomy p i with hpi | hpi | hpi
            · exfalso
              refine hF ((xl_greedy_f h i (by omega)).mpr ⟨p, hpi, ?_⟩)
              rw [xl_nx_lt (by omega)] at hb
              rw [h1 p (by omega), h1 (p + 1) (by omega)]
              exact hb
            · subst hpi
              rw [xl_nx_lt (by omega)] at hb
              exact Or.inr ⟨by rw [ei]; exact hb, hw⟩
            · refine Or.inl ⟨by rw [ei]; exact hg, ?_⟩
              have := xl_ok_hb hL hp hb (n - 1 - i - 1) (i + 1) (by omega) (by omega)
              rw [show n - 1 - i - 1 + 1 = n - 1 - i by omega] at this
              rw [e0]; exact this
        have h2 := (h.2 i (by omega)).1.2 _ hc
        by_cases e : A (i + 1) = L (i + 1)
        · refine Or.inl (fun k hk => ?_)
          by_cases hk2 : k = i + 1
          · rw [hk2]; exact e
          · exact h1 k (by omega)
        · exact Or.inr ⟨i + 1, hi, fun k hk => h1 k (by omega), by omega⟩
      · exact Or.inr h1
  rcases Nat.eq_zero_or_pos n with h0 | h0
  · exact absurd hL.1 (by omega)
  · rcases key (n - 1) (by omega) with h1 | h1
    · exact Or.inl (fun i hi => h1 i (by omega))
    · exact Or.inr h1
/-- along a list, from i to j -/
theorem xl_along {m : Nat} {g b : Nat → Nat → Prop} {n : Nat} {L : Nat → Nat} (h : xl_ok m g b n L) : ∀ r i, i + r < n → xg_w m g r (L i) (L (i + r))
  | 0, i, _ => rfl
  | r + 1, i, hi => by
    have h1 := h.2.2.1 i (by omega)
    rw [xl_nx_lt (by omega)] at h1
    have h2 := xl_along h r (i + 1) (by omega)
    rw [show i + 1 + r = i + (r + 1) by omega] at h2
    exact ⟨L (i + 1), h.2.1 (i + 1) (by omega), h1, h2⟩
theorem xl_to {m : Nat} {g b : Nat → Nat → Prop} {n : Nat} {L : Nat → Nat} (h : xl_ok m g b n L) {i j : Nat} (hij : i ≤ j) (hj : j < n) : xg_w m g (j - i) (L i) (L j) := by
  have h1 := xl_along h (j - i) i (by omega)
  rwa [show i + (j - i) = j by omega] at h1
/-- from the day behind p round to day p -/
theorem xl_home {m : Nat} {g b : Nat → Nat → Prop} {n : Nat} {L : Nat → Nat} (h : xl_ok m g b n L) {i : Nat} (hi : i < n) : xg_w m g (n - i) (L i) (L 0) := by
  have h1 := xl_ok_w h (n - i - 1) i (by omega)
  rwa [show n - i - 1 + 1 = n - i by omega] at h1
/-- a shortest circle has no day twice -/
theorem xl_apart {m : Nat} {g b : Nat → Nat → Prop} {n : Nat} (hmin : ∀ k t u, b t u → xg_w m g k u t → n ≤ k + 1) {L : Nat → Nat} (h : xl_ok m g b n L) {i j : Nat} (hij : i < j) (hj : j < n) : L i ≠ L j := by
  intro e
  obtain ⟨p, hp, hb⟩ := h.2.2.2
  by_cases hlast : p + 1 < n
  · rw [xl_nx_lt hlast] at hb
    rcases Nat.lt_or_ge p i with h1 | h1
    · -- from p + 1 to i, over j home, to p
      have w1 := xl_to h (show p + 1 ≤ i by omega) (by omega)
      rw [e] at w1
      have w2 := xg_w_cat (xg_w_cat (xl_to h (Nat.zero_le p) hp) (xl_home h hj)) w1
      have := hmin _ _ _ hb w2
      omega
    · rcases Nat.lt_or_ge p j with h2 | h2
      · have w1 := xl_to h (show p + 1 ≤ j by omega) hj
        rw [← e] at w1
        have w2 := xg_w_cat (xl_to h h1 hp) w1
        have := hmin _ _ _ hb w2
        omega
      · have w0 := xl_to h (Nat.zero_le i) (show i < n by omega)
        rw [e] at w0
        have w2 := xg_w_cat (xg_w_cat (xg_w_cat (xl_to h h2 hp) w0) (xl_home h hlast)) (show xg_w m g 0 (L (p + 1)) (L (p + 1)) from rfl)
        have := hmin _ _ _ hb w2
        omega
  · rw [xl_nx_end hlast] at hb
    have w0 := xl_to h (Nat.zero_le i) (show i < n by omega)
    rw [e] at w0
    have w2 := xg_w_cat (xl_to h (show j ≤ p by omega) hp) w0
    have := hmin _ _ _ hb w2
    omega
