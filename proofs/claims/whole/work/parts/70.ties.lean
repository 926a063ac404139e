/-! circles: the least length and the first day -/
theorem xk_sf_q {b : Nat → Int32} {z : Nat} (hz : z < 32) : ∀ (n i : Nat), ∃ q, xk_sf b z n i = nI q ∧ ((q = 0 ∧ ∀ j, i ≤ j → j < i + n → bt (b j) z = false) ∨ (i ≤ q ∧ q < i + n ∧ bt (b q) z = true ∧ ∀ j, i ≤ j → j < q → bt (b j) z = false))
  | 0, i => ⟨0, rfl, Or.inl ⟨rfl, fun j h1 h2 => absurd h2 (by omega)⟩⟩
  | n + 1, i => by
    cases h : bt (b i) z
    · obtain ⟨q, h1, h2⟩ := xk_sf_q (b := b) hz n (i + 1)
      refine ⟨q, (xk_sf_0 (by rw [xf_hs_bt hz]; exact h)).trans h1, ?_⟩
      have hall : ∀ r, (∀ j, i + 1 ≤ j → j < r → bt (b j) z = false) → ∀ j, i ≤ j → j < r → bt (b j) z = false := fun r hr j h3 h4 => by
        by_cases hj : j = i
        · rw [hj]; exact h
        · exact hr j (by omega) h4
      rcases h2 with ⟨h2, h3⟩ | ⟨h2, h3, h4, h5⟩
      · exact Or.inl ⟨h2, fun j h4 h5 => hall (i + 1 + n) h3 j h4 (by omega)⟩
      · exact Or.inr ⟨by omega, by omega, h4, hall q h5⟩
    · exact ⟨i, xk_sf_1 (by rw [xf_hs_bt hz]; exact h), Or.inr ⟨Nat.le_refl i, by omega, h, fun j h1 h2 => absurd h2 (by omega)⟩⟩
def xz_V (Q : Nat → Nat) (i : Nat) (x : Int32 × Int32) : Prop := (x = (-1, nI 0) ∧ ∀ z, z < i → Q z = 0) ∨ ∃ k, k < i ∧ x = (nI k, nI (Q k)) ∧ 0 < Q k ∧ (∀ z, z < i → Q z = 0 ∨ Q k ≤ Q z) ∧ ∀ z, z < k → Q z = 0 ∨ Q k < Q z
theorem xk_fd_q {sf : Nat → Int32} {Q : Nat → Nat} (hsf : ∀ z, z < 12 → sf z = nI (Q z) ∧ Q z ≤ 12) : ∀ (n i : Nat) (x : Int32 × Int32), i + n = 12 → xz_V Q i x → xz_V Q 12 (xk_fd sf n i x)
  | 0, i, x, hi, hx => by
    rw [show (12 : Nat) = i by omega]
    exact hx
  | n + 1, i, x, hi, hx => by
    obtain ⟨e, hb⟩ := hsf i (by omega)
    obtain ⟨f, g⟩ := x
    by_cases h0 : Q i = 0
    · have hz : sf i = 0 := by rw [e, h0]; exact nI_0
      rw [xk_fd_0 (Or.inl hz)]
      refine xk_fd_q hsf n (i + 1) (f, g) (by omega) ?_
      have hall : ∀ (T : Nat → Prop), (∀ z, z < i → Q z = 0 ∨ T (Q z)) → ∀ z, z < i + 1 → Q z = 0 ∨ T (Q z) := fun T hT z hz2 => by
        by_cases hzi : z = i
        · rw [hzi]; exact Or.inl h0
        · exact hT z (by omega)
      rcases hx with ⟨h1, h2⟩ | ⟨k, h1, h2, h3, h4, h5⟩
      · exact Or.inl ⟨h1, fun z hz2 => by
          by_cases hzi : z = i
          · rw [hzi]; exact h0
          · exact h2 z (by omega)⟩
      · exact Or.inr ⟨k, by omega, h2, h3, hall (fun y => Q k ≤ y) h4, h5⟩
    · have hnz : ¬ sf i = 0 := by rw [e]; exact nI_ne0 (by omega) (by omega)
      rcases hx with ⟨h1, h2⟩ | ⟨k, h1, h2, h3, h4, h5⟩
      · obtain ⟨rfl, rfl⟩ := Prod.mk.inj h1
        rw [xk_fd_1 hnz (Or.inl rfl), e]
        refine xk_fd_q hsf n (i + 1) (nI i, nI (Q i)) (by omega) (Or.inr ⟨i, by omega, rfl, by omega, fun z hz2 => ?_, fun z hz2 => Or.inl (h2 z hz2)⟩)
        by_cases hzi : z = i
        · rw [hzi]; exact Or.inr (Nat.le_refl _)
        · exact Or.inl (h2 z (by omega))
      · obtain ⟨rfl, rfl⟩ := Prod.mk.inj h2
        have hbk := (hsf k (by omega)).2
        by_cases hle : Q k ≤ Q i
        · rw [xk_fd_0 (Or.inr ⟨xk_n1 (by omega), by rw [e]; exact nI_le hle (by omega)⟩)]
          refine xk_fd_q hsf n (i + 1) (nI k, nI (Q k)) (by omega) (Or.inr ⟨k, by omega, rfl, h3, fun z hz2 => ?_, h5⟩)
          by_cases hzi : z = i
          · rw [hzi]; exact Or.inr hle
          · exact h4 z (by omega)
        · rw [xk_fd_1 hnz (Or.inr (by rw [e]; exact fun z => hle ((nI_leI (by omega) (by omega)).mp z))), e]
          refine xk_fd_q hsf n (i + 1) (nI i, nI (Q i)) (by omega) (Or.inr ⟨i, by omega, rfl, by omega, fun z hz2 => ?_, fun z hz2 => ?_⟩)
          · by_cases hzi : z = i
            · rw [hzi]; exact Or.inr (Nat.le_refl _)
            · exact (h4 z (by omega)).imp id (fun w => by omega)
          · exact (h4 z (by omega)).imp id (fun w => by omega)
/-- what find answers: no circle of at most twelve days, or the least length and the first day -/
theorem xz_find {m : Nat} {G B : Nat → Int32} {g b : Nat → Nat → Prop} (h : xz_Y m G B g b) :
    (xo_R G B = (-1, nI 0) ∧ ∀ z n, z < 12 → 1 ≤ n → n ≤ 12 → ¬ xl_hb m g b n z z) ∨
    ∃ k q, k < 12 ∧ 1 ≤ q ∧ q ≤ 12 ∧ xo_R G B = (nI k, nI q) ∧ xl_hb m g b q k k ∧ (∀ z n, z < 12 → 1 ≤ n → n ≤ 12 → xl_hb m g b n z z → q ≤ n) ∧ ∀ z, z < 12 → xl_hb m g b q z z → k ≤ z := by
  have hQ : ∀ z, z < 12 → ∃ q, xk_sf (xk_hb G B z) z 12 1 = nI q ∧ ((q = 0 ∧ ∀ j, 1 ≤ j → j < 1 + 12 → ¬ xl_hb m g b j z z) ∨ (1 ≤ q ∧ q < 1 + 12 ∧ xl_hb m g b q z z ∧ ∀ j, 1 ≤ j → j < q → ¬ xl_hb m g b j z z)) := fun z hz => by
    obtain ⟨q, h1, h2⟩ := xk_sf_q (b := xk_hb G B z) (show z < 32 by omega) 12 1
    refine ⟨q, h1, ?_⟩
    have hn : ∀ j, bt (xk_hb G B z j) z = false → ¬ xl_hb m g b j z z := fun j hj w => by
      rw [(xz_hb h (by omega) j z (by omega)).mpr w] at hj
      cases hj
    rcases h2 with ⟨h2, h3⟩ | ⟨h2, h3, h4, h5⟩
    · exact Or.inl ⟨h2, fun j a1 a2 => hn j (h3 j a1 a2)⟩
    · exact Or.inr ⟨h2, h3, (xz_hb h (by omega) q z (by omega)).mp h4, fun j a1 a2 => hn j (h5 j a1 a2)⟩
  have hQ2 : ∀ z, z < 12 → xk_sf (xk_hb G B z) z 12 1 = nI (xk_sf (xk_hb G B z) z 12 1).toNatClampNeg ∧ (xk_sf (xk_hb G B z) z 12 1).toNatClampNeg ≤ 12 := fun z hz => by
    obtain ⟨q, h1, h2⟩ := hQ z hz
    have hq : q ≤ 12 := by omega
    rw [h1, nI_clamp (by omega)]
    exact ⟨rfl, hq⟩
  have hP : ∀ z, z < 12 → ((xk_sf (xk_hb G B z) z 12 1).toNatClampNeg = 0 ∧ ∀ j, 1 ≤ j → j ≤ 12 → ¬ xl_hb m g b j z z) ∨ (1 ≤ (xk_sf (xk_hb G B z) z 12 1).toNatClampNeg ∧ xl_hb m g b (xk_sf (xk_hb G B z) z 12 1).toNatClampNeg z z ∧ ∀ j, 1 ≤ j → j < (xk_sf (xk_hb G B z) z 12 1).toNatClampNeg → ¬ xl_hb m g b j z z) := fun z hz => by
    obtain ⟨q, h1, h2⟩ := hQ z hz
    rw [h1, nI_clamp (by omega)]
    rcases h2 with ⟨h2, h3⟩ | ⟨h2, h3, h4, h5⟩
    · exact Or.inl ⟨h2, fun j a1 a2 => h3 j a1 (by omega)⟩
    · exact Or.inr ⟨h2, h4, h5⟩
  have hF := xk_fd_q (sf := fun z => xk_sf (xk_hb G B z) z 12 1) (Q := fun z => (xk_sf (xk_hb G B z) z 12 1).toNatClampNeg) hQ2 12 0 (-1, nI 0) (by omega) (Or.inl ⟨rfl, fun z hz => absurd hz (Nat.not_lt_zero z)⟩)
  rcases hF with ⟨h1, h2⟩ | ⟨k, h1, h2, h3, h4, h5⟩
  · refine Or.inl ⟨h1, fun z n hz hn1 hn2 => ?_⟩
    rcases hP z hz with ⟨_, a2⟩ | ⟨a1, _⟩
    · exact a2 n hn1 hn2
    · have h6 := h2 z hz
      dsimp only at h6
      omega
  · dsimp only at h2 h3 h4 h5
    refine Or.inr ⟨k, (xk_sf (xk_hb G B k) k 12 1).toNatClampNeg, h1, h3, (hQ2 k h1).2, h2, ?_, fun z n hz hn1 hn2 hw => ?_, fun z hz hw => ?_⟩
    · rcases hP k h1 with ⟨a1, _⟩ | ⟨_, a2, _⟩
      · omega
      · exact a2
    · rcases hP z hz with ⟨_, a2⟩ | ⟨a1, a2, a3⟩
      · exact absurd hw (a2 n hn1 hn2)
      · have h6 := h4 z hz
        rcases Nat.lt_or_ge n (xk_sf (xk_hb G B z) z 12 1).toNatClampNeg with w | w
        · exact absurd hw (a3 n hn1 w)
        · omega
    · refine Nat.not_lt.mp (fun hlt => ?_)
      have h6 := h5 z hlt
      rcases hP z hz with ⟨_, a2⟩ | ⟨a1, a2, a3⟩
      · exact a2 _ h3 (hQ2 k h1).2 hw
      · rcases h6 with h6 | h6
        · omega
        · exact a3 _ h3 h6 hw
