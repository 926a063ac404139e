/-! the two records show the same: circles; first what the rows of bits hold -/
theorem xz_nz {x : Int32} : ¬ x = 0 ↔ ∃ k, k < 32 ∧ bt x k = true := by
  constructor
  · intro h
    refine Classical.byContradiction (fun hn => h (b_ext (fun i hi => ?_)))
    rw [b_0]
    cases hb : bt x i
    · rfl
    · exact absurd ⟨i, hi, hb⟩ hn
  · rintro ⟨k, _, h⟩ rfl
    rw [b_0] at h
    cases h
theorem xk_hA_bt {G : Nat → Int32} {h : Int32} {j : Nat} : ∀ (n i : Nat) (r : Int32), i + n ≤ 32 → (bt (xk_hA G h n i r) j = true ↔ (bt r j = true ∨ ((i ≤ j ∧ j < i + n) ∧ ¬ G j &&& h = 0)))
  | 0, i, r, _ => ⟨Or.inl, fun h => h.elim id (fun h => absurd h.1 (by omega))⟩
  | n + 1, i, r, hn => by
    show bt (xk_hA G h n (i + 1) (r ||| (if G i &&& h = 0 then nI 0 else xf_bi (nI i)))) j = true ↔ _
    rw [xk_hA_bt n (i + 1) _ (by omega), b_or, Bool.or_eq_true]
    have e : bt (if G i &&& h = 0 then nI 0 else xf_bi (nI i)) j = true ↔ (j = i ∧ ¬ G i &&& h = 0) := by
      by_cases hz : G i &&& h = 0
      · rw [if_pos hz, show bt (nI 0) j = false from b_0 j]
        exact ⟨fun h => (by cases h), fun h => absurd hz h.2⟩
      · rw [if_neg hz, xf_bt_bi (by omega), decide_eq_true_eq]
        exact ⟨fun h => ⟨h, hz⟩, fun h => h.1⟩
    rw [e]
    constructor
    · rintro ((h1 | ⟨h1, h2⟩) | ⟨h1, h2⟩)
      · exact Or.inl h1
      · exact Or.inr ⟨by omega, by rw [h1]; exact h2⟩
      · exact Or.inr ⟨by omega, h2⟩
    · rintro (h1 | ⟨h1, h2⟩)
      · exact Or.inl (Or.inl h1)
      · by_cases hj : j = i
        · exact Or.inl (Or.inr ⟨hj, by rw [← hj]; exact h2⟩)
        · exact Or.inr ⟨by omega, h2⟩
theorem xk_hB_bt {G B : Nat → Int32} {h hb : Int32} {j : Nat} : ∀ (n i : Nat) (r : Int32), i + n ≤ 32 → (bt (xk_hB G B h hb n i r) j = true ↔ (bt r j = true ∨ ((i ≤ j ∧ j < i + n) ∧ ¬ G j &&& hb ||| B j &&& h = 0)))
  | 0, i, r, _ => ⟨Or.inl, fun h => h.elim id (fun h => absurd h.1 (by omega))⟩
  | n + 1, i, r, hn => by
    show bt (xk_hB G B h hb n (i + 1) (r ||| (if G i &&& hb ||| B i &&& h = 0 then nI 0 else xf_bi (nI i)))) j = true ↔ _
    rw [xk_hB_bt n (i + 1) _ (by omega), b_or, Bool.or_eq_true]
    have e : bt (if G i &&& hb ||| B i &&& h = 0 then nI 0 else xf_bi (nI i)) j = true ↔ (j = i ∧ ¬ G i &&& hb ||| B i &&& h = 0) := by
      by_cases hz : G i &&& hb ||| B i &&& h = 0
      · rw [if_pos hz, show bt (nI 0) j = false from b_0 j]
        exact ⟨fun h => (by cases h), fun h => absurd hz h.2⟩
      · rw [if_neg hz, xf_bt_bi (by omega), decide_eq_true_eq]
        exact ⟨fun h => ⟨h, hz⟩, fun h => h.1⟩
    rw [e]
    constructor
    · rintro ((h1 | ⟨h1, h2⟩) | ⟨h1, h2⟩)
      · exact Or.inl h1
      · exact Or.inr ⟨by omega, by rw [h1]; exact h2⟩
      · exact Or.inr ⟨by omega, h2⟩
    · rintro (h1 | ⟨h1, h2⟩)
      · exact Or.inl (Or.inl h1)
      · by_cases hj : j = i
        · exact Or.inl (Or.inr ⟨hj, by rw [← hj]; exact h2⟩)
        · exact Or.inr ⟨by omega, h2⟩
/-- rows of bits that hold the two relations of the days below m -/
def xz_Y (m : Nat) (G B : Nat → Int32) (g b : Nat → Nat → Prop) : Prop := m ≤ 12 ∧ (∀ a u, a < 13 → u < 32 → (bt (G a) u = true ↔ g a u)) ∧ (∀ a u, a < 13 → u < 32 → (bt (B a) u = true ↔ b a u)) ∧ (∀ a u, g a u → a < m ∧ u < m) ∧ ∀ a u, b a u → g a u
section XZ7
variable {m : Nat} {G B : Nat → Int32} {g b : Nat → Nat → Prop}
theorem xz_hh (h : xz_Y m G B g b) {z : Nat} (hz : z < 32) : ∀ (n s : Nat), s < 32 → (bt (xk_hh G z n) s = true ↔ xg_w m g n s z)
  | 0, s, hs => by
    show bt (xf_bi (nI z)) s = true ↔ s = z
    rw [xf_bt_bi hz, decide_eq_true_eq]
  | n + 1, s, hs => by
    show bt (xk_hA G (xk_hh G z n) 12 0 (nI 0)) s = true ↔ _
    rw [xk_hA_bt 12 0 _ (by omega), show bt (nI 0) s = false from b_0 s, xz_nz, xg_ws]
    constructor
    · rintro (h1 | ⟨h1, k, hk, h2⟩)
      · cases h1
      · rw [b_and, Bool.and_eq_true] at h2
        have h3 := (h.2.1 s k (by omega) hk).mp h2.1
        exact ⟨k, (h.2.2.2.1 s k h3).2, h3, (xz_hh h hz n k hk).mp h2.2⟩
    · rintro ⟨u, hu, h1, h2⟩
      have h3 := (h.2.2.2.1 s u h1).1
      have hm := h.1
      refine Or.inr ⟨by omega, u, by omega, ?_⟩
      rw [b_and, Bool.and_eq_true]
      exact ⟨(h.2.1 s u (by omega) (by omega)).mpr h1, (xz_hh h hz n u (by omega)).mpr h2⟩
theorem xz_hb (h : xz_Y m G B g b) {z : Nat} (hz : z < 32) : ∀ (n s : Nat), s < 32 → (bt (xk_hb G B z n) s = true ↔ xl_hb m g b n s z)
  | 0, s, hs => by
    show bt (nI 0) s = true ↔ False
    rw [show bt (nI 0) s = false from b_0 s]
    exact ⟨fun h => (by cases h), fun h => h.elim⟩
  | n + 1, s, hs => by
    show bt (xk_hB G B (xk_hh G z n) (xk_hb G B z n) 12 0 (nI 0)) s = true ↔ _
    rw [xk_hB_bt 12 0 _ (by omega), show bt (nI 0) s = false from b_0 s, xz_nz, xl_hbs]
    constructor
    · rintro (h1 | ⟨h1, k, hk, h2⟩)
      · cases h1
      · rw [b_or, b_and, b_and, Bool.or_eq_true, Bool.and_eq_true, Bool.and_eq_true] at h2
        rcases h2 with h2 | h2
        · have h3 := (h.2.1 s k (by omega) hk).mp h2.1
          exact Or.inl ⟨k, (h.2.2.2.1 s k h3).2, h3, (xz_hb h hz n k hk).mp h2.2⟩
        · have h3 := (h.2.2.1 s k (by omega) hk).mp h2.1
          exact Or.inr ⟨k, (h.2.2.2.1 s k (h.2.2.2.2 s k h3)).2, h3, (xz_hh h hz n k hk).mp h2.2⟩
    · have hm := h.1
      rintro (⟨u, hu, h1, h2⟩ | ⟨u, hu, h1, h2⟩)
      · have h3 := (h.2.2.2.1 s u h1).1
        refine Or.inr ⟨by omega, u, by omega, ?_⟩
        rw [b_or, b_and, b_and, Bool.or_eq_true, Bool.and_eq_true, Bool.and_eq_true]
        exact Or.inl ⟨(h.2.1 s u (by omega) (by omega)).mpr h1, (xz_hb h hz n u (by omega)).mpr h2⟩
      · have h3 := (h.2.2.2.1 s u (h.2.2.2.2 s u h1)).1
        refine Or.inr ⟨by omega, u, by omega, ?_⟩
        rw [b_or, b_and, b_and, Bool.or_eq_true, Bool.and_eq_true, Bool.and_eq_true]
        exact Or.inr ⟨(h.2.2.1 s u (by omega) (by omega)).mpr h1, (xz_hh h hz n u (by omega)).mpr h2⟩
/-- which days may come next -/
theorem xz_nx (h : xz_Y m G B g b) {z a u r : Nat} {f : Bool} (hz : z < 32) (ha : a < 13) (hu : u < 32) : bt (xk_nx G B (xk_hh G z) (xk_hb G B z) a f r) u = true ↔ xl_cand m g b z (f = true) a r u := by
  unfold xk_nx xl_cand
  cases f
  · rw [if_neg (by decide), b_or, b_and, b_and, Bool.or_eq_true, Bool.and_eq_true, Bool.and_eq_true, h.2.1 a u ha hu, h.2.2.1 a u ha hu, xz_hh h hz r u hu, xz_hb h hz r u hu]
    constructor
    · intro h1
      refine ⟨?_, Or.inr ⟨by decide, h1⟩⟩
      rcases h1 with h1 | h1
      · exact (h.2.2.2.1 a u h1.1).2
      · exact (h.2.2.2.1 a u (h.2.2.2.2 a u h1.1)).2
    · rintro ⟨_, ⟨h1, _⟩ | ⟨_, h1⟩⟩
      · cases h1
      · exact h1
  · rw [if_pos rfl, b_and, Bool.and_eq_true, h.2.1 a u ha hu, xz_hh h hz r u hu]
    constructor
    · exact fun h1 => ⟨(h.2.2.2.1 a u h1.1).2, Or.inl ⟨rfl, h1⟩⟩
    · rintro ⟨_, ⟨_, h1⟩ | ⟨h1, _⟩⟩
      · exact h1
      · exact absurd rfl h1
theorem xk_mem_0 {x : Int32} : ∀ (n d u : Nat), d + n ≤ 13 → d ≤ u → u < d + n → bt x u = true → ∃ w, d ≤ w ∧ w ≤ u ∧ bt x w = true ∧ (∀ v, d ≤ v → v < w → bt x v = false) ∧ xk_mem x (nI 0) n d 0 = nI w
  | 0, d, u, _, h1, h2, _ => absurd h2 (by omega)
  | n + 1, d, u, hn, h1, h2, h3 => by
    show ∃ w, d ≤ w ∧ w ≤ u ∧ bt x w = true ∧ (∀ v, d ≤ v → v < w → bt x v = false) ∧ (if xf_hs x (nI d) = true then (if nI 0 = nI 0 then nI d else xk_mem x (nI 0) n (d + 1) (0 + 1)) else xk_mem x (nI 0) n (d + 1) 0) = nI w
    rw [xf_hs_bt (by omega)]
    cases hd : bt x d
    · have hne : d ≠ u := fun z => by rw [z, h3] at hd; cases hd
      obtain ⟨w, a1, a2, a3, a4, a5⟩ := xk_mem_0 n (d + 1) u (by omega) (by omega) (by omega) h3
      refine ⟨w, by omega, a2, a3, fun v hv1 hv2 => ?_, by rw [if_neg (by decide)]; exact a5⟩
      by_cases hv : v = d
      · rw [hv]; exact hd
      · exact a4 v (by omega) hv2
    · exact ⟨d, Nat.le_refl d, h1, hd, fun v hv1 hv2 => absurd hv2 (by omega), by rw [if_pos rfl, if_pos rfl]⟩
/-- one step of the list: the least of the days that may come next -/
theorem xz_step (h : xz_Y m G B g b) {z a r : Nat} {f : Bool} (hz : z < 32) (ha : a < m) (hg : xl_good m g b z (f = true) a (r + 1)) : ∃ u, u < m ∧ xk_mem (xk_nx G B (xk_hh G z) (xk_hb G B z) a f r) (nI 0) 13 0 0 = nI u ∧ xl_cand m g b z (f = true) a r u ∧ (∀ w, xl_cand m g b z (f = true) a r w → u ≤ w) ∧ xl_good m g b z ((f || xf_hs (B a) (nI u)) = true) u r := by
  have hm := h.1
  obtain ⟨u0, hu0⟩ := xl_good_c hg
  obtain ⟨w, _, a2, a3, a4, a5⟩ := xk_mem_0 (x := xk_nx G B (xk_hh G z) (xk_hb G B z) a f r) 13 0 u0 (by omega) (Nat.zero_le u0) (by have := hu0.1; omega) ((xz_nx h hz (by omega) (by have := hu0.1; omega)).mpr hu0)
  have hw := (xz_nx h hz (by omega) (by have := hu0.1; omega)).mp a3
  refine ⟨w, hw.1, a5, hw, fun v hv => Nat.not_lt.mp (fun hlt => ?_), ?_⟩
  · have := a4 v (Nat.zero_le v) hlt
    rw [(xz_nx h hz (by omega) (by have := hv.1; omega)).mpr hv] at this
    cases this
  · have h2 := (xl_cand_g h.2.2.2.2 hw).2
    have e : ((f || xf_hs (B a) (nI w)) = true) ↔ (f = true ∨ b a w) := by
      rw [Bool.or_eq_true, xf_hs_bt (by have := hw.1; omega), h.2.2.1 a w (by omega) (by have := hw.1; omega)]
    unfold xl_good at h2 ⊢
    rw [e]
    exact h2
def xz_sq (G B : Nat → Int32) (z q : Nat) : Nat → Nat × Bool
  | 0 => (z, false)
  | i + 1 => ((xk_mem (xk_nx G B (xk_hh G z) (xk_hb G B z) (xz_sq G B z q i).1 (xz_sq G B z q i).2 (q - 1 - i)) (nI 0) 13 0 0).toNatClampNeg, ((xz_sq G B z q i).2 || xf_hs (B (xz_sq G B z q i).1) (nI (xk_mem (xk_nx G B (xk_hh G z) (xk_hb G B z) (xz_sq G B z q i).1 (xz_sq G B z q i).2 (q - 1 - i)) (nI 0) 13 0 0).toNatClampNeg)))
theorem xz_seq_ex (h : xz_Y m G B g b) {z q : Nat} (hz : z < m) (h0 : xl_hb m g b q z z) : ∃ Aq Fq, xk_seq G B z q Aq Fq := by
  have hm := h.1
  have ss : ∀ i u, u < m → xk_mem (xk_nx G B (xk_hh G z) (xk_hb G B z) (xz_sq G B z q i).1 (xz_sq G B z q i).2 (q - 1 - i)) (nI 0) 13 0 0 = nI u → xz_sq G B z q (i + 1) = (u, ((xz_sq G B z q i).2 || xf_hs (B (xz_sq G B z q i).1) (nI u))) := fun i u hu e => by
    show ((xk_mem _ (nI 0) 13 0 0).toNatClampNeg, (_ || xf_hs _ (nI (xk_mem _ (nI 0) 13 0 0).toNatClampNeg))) = _
    rw [e, nI_clamp (by omega)]
  have hinv : ∀ i, i ≤ q → (xz_sq G B z q i).1 < m ∧ xl_good m g b z ((xz_sq G B z q i).2 = true) (xz_sq G B z q i).1 (q - i) := by
    intro i
    induction i with
    | zero =>
      intro _
      exact ⟨hz, Or.inr ⟨Bool.false_ne_true, h0⟩⟩
    | succ i ih =>
      intro hi
      obtain ⟨i1, i2⟩ := ih (by omega)
      rw [show q - i = (q - 1 - i) + 1 by omega] at i2
      obtain ⟨u, u1, u2, u3, u4, u5⟩ := xz_step h (by omega) i1 i2
      rw [ss i u u1 u2, show q - (i + 1) = q - 1 - i by omega]
      exact ⟨u1, u5⟩
  refine ⟨fun i => (xz_sq G B z q i).1, fun i => (xz_sq G B z q i).2, rfl, rfl, fun i hi => ?_⟩
  obtain ⟨i1, i2⟩ := hinv i (by omega)
  rw [show q - i = (q - 1 - i) + 1 by omega] at i2
  obtain ⟨u, u1, u2, u3, u4, u5⟩ := xz_step h (by omega) i1 i2
  dsimp only
  rw [ss i u u1 u2]
  exact ⟨by omega, show u < 13 by omega, u2, rfl⟩
theorem xz_seq_greedy (h : xz_Y m G B g b) {z q : Nat} (hz : z < m) (h0 : xl_hb m g b q z z) {Aq : Nat → Nat} {Fq : Nat → Bool} (hs : xk_seq G B z q Aq Fq) : xl_greedy m g b q Aq (fun i => Fq i = true) ∧ ∀ i, i ≤ q → Aq i < m := by
  have hm := h.1
  obtain ⟨s0, s1, s2⟩ := hs
  have hinv : ∀ i, i ≤ q → Aq i < m ∧ xl_good m g b z (Fq i = true) (Aq i) (q - i) := by
    intro i
    induction i with
    | zero =>
      intro _
      rw [s0, s1]
      exact ⟨hz, Or.inr ⟨by decide, h0⟩⟩
    | succ i ih =>
      intro hi
      obtain ⟨i1, i2⟩ := ih (by omega)
      obtain ⟨a1, a2, a3, a4⟩ := s2 i (by omega)
      rw [show q - i = (q - 1 - i) + 1 by omega] at i2
      obtain ⟨u, u1, u2, u3, u4, u5⟩ := xz_step h (by omega) i1 i2
      have e := (nI_eq (by omega) (by omega)).mp (a3.symm.trans u2)
      rw [a4, e, show q - (i + 1) = q - 1 - i by omega]
      exact ⟨u1, u5⟩
  refine ⟨⟨by show ¬ Fq 0 = true; rw [s1]; decide, fun i hi => ?_⟩, fun i hi => (hinv i hi).1⟩
  obtain ⟨i1, i2⟩ := hinv i (by omega)
  obtain ⟨a1, a2, a3, a4⟩ := s2 i hi
  rw [show q - i = (q - 1 - i) + 1 by omega] at i2
  obtain ⟨u, u1, u2, u3, u4, u5⟩ := xz_step h (by omega) i1 i2
  have e := (nI_eq (by omega) (by omega)).mp (a3.symm.trans u2)
  rw [s0, e]
  refine ⟨⟨u3, u4⟩, ?_⟩
  show Fq (i + 1) = true ↔ (Fq i = true ∨ b (Aq i) u)
  rw [a4, e, Bool.or_eq_true, xf_hs_bt (by omega), h.2.2.1 (Aq i) u (by omega) (by omega)]
end XZ7
