/-! circles: the reference finds the same length -/
def xz_W (C : Nat → Nat → Prop) (val : Nat → Nat → Nat) (T : Nat → Nat → Prop) (y : Nat) : Prop := (y = 0 ∧ ∀ s t, T s t → ¬ C s t) ∨ ((∃ s t, C s t ∧ y = val s t + 1) ∧ ∀ s t, T s t → C s t → y ≤ val s t + 1)
section XZ8
variable {m : Nat} {bd ch : Nat → Bool} {st : Nat → Int32} {C : Nat → Nat → Prop} {val : Nat → Nat → Nat}
theorem xz_s1 (hC : ∀ s t, s < m → t < m → (C s t ↔ (bd (13 * t + s) = true ∧ ch (13 * s + t) = true))) (hv : ∀ s t, s < m → t < m → C s t → st (13 * s + t) = nI (val s t) ∧ val s t ≤ 13) {s : Nat} (hs : s < m) :
    ∀ (n t y : Nat), t + n = m → y ≤ 14 → xz_W C val (fun a b => (a < s ∧ b < m) ∨ (a = s ∧ b < t)) y → ∃ y', xm_s1 bd ch st s n t (nI y) = nI y' ∧ y' ≤ 14 ∧ xz_W C val (fun a b => (a < s ∧ b < m) ∨ (a = s ∧ b < m)) y'
  | 0, t, y, ht, hy, h => by
    have e : t = m := by omega
    subst e
    exact ⟨y, rfl, hy, h⟩
  | n + 1, t, y, ht, hy, h => by
    have htm : t < m := by omega
    have hT : ∀ a b, ((a < s ∧ b < m) ∨ (a = s ∧ b < t + 1)) → (((a < s ∧ b < m) ∨ (a = s ∧ b < t)) ∨ (a = s ∧ b = t)) := fun a b hab => by omega
    by_cases hc : C s t
    · have hc2 := (hC s t hs htm).mp hc
      obtain ⟨e1, e2⟩ := hv s t hs htm hc
      have e3 : st (13 * s + t) + nI 1 = nI (val s t + 1) := by rw [e1, nI_add]
      by_cases hz : y = 0 ∨ ¬ y ≤ val s t + 1
      · have hz' : nI y = 0 ∨ ¬ nI y ≤ st (13 * s + t) + nI 1 := by
          rcases hz with hz | hz
          · exact Or.inl (by rw [hz]; exact nI_0)
          · refine Or.inr (fun w => hz ?_)
            rw [e3] at w
            exact (nI_leI (by omega) (by omega)).mp w
        rw [xm_s1_1 hc2.1 hc2.2 hz', e3]
        refine xz_s1 hC hv hs n (t + 1) (val s t + 1) (by omega) (by omega) (Or.inr ⟨⟨s, t, hc, rfl⟩, fun a b hab hcab => ?_⟩)
        rcases hT a b hab with h1 | ⟨rfl, rfl⟩
        · rcases h with ⟨_, h2⟩ | ⟨⟨a', b', _, h3⟩, h2⟩
          · exact absurd hcab (h2 a b h1)
          · have h4 := h2 a b h1 hcab
            omega
        · exact Nat.le_refl _
      · have hy0 : y ≠ 0 := fun w => hz (Or.inl w)
        have hyl : y ≤ val s t + 1 := Nat.not_lt.mp (fun w => hz (Or.inr (by omega)))
        rw [xm_s1_2 hc2.1 hc2.2 (nI_ne0 (by omega) (by omega)) (by rw [e3]; exact nI_le hyl (by omega))]
        refine xz_s1 hC hv hs n (t + 1) y (by omega) hy ?_
        rcases h with ⟨h1, _⟩ | ⟨h1, h2⟩
        · exact absurd h1 hy0
        · refine Or.inr ⟨h1, fun a b hab hcab => ?_⟩
          rcases hT a b hab with h3 | ⟨rfl, rfl⟩
          · exact h2 a b h3 hcab
          · exact hyl
    · rw [xm_s1_0 (fun w => hc ((hC s t hs htm).mpr w))]
      refine xz_s1 hC hv hs n (t + 1) y (by omega) hy ?_
      rcases h with ⟨h1, h2⟩ | ⟨h1, h2⟩
      · refine Or.inl ⟨h1, fun a b hab => ?_⟩
        rcases hT a b hab with h3 | ⟨rfl, rfl⟩
        · exact h2 a b h3
        · exact hc
      · refine Or.inr ⟨h1, fun a b hab hcab => ?_⟩
        rcases hT a b hab with h3 | ⟨rfl, rfl⟩
        · exact h2 a b h3 hcab
        · exact absurd hcab hc
theorem xz_s2 (hC : ∀ s t, s < m → t < m → (C s t ↔ (bd (13 * t + s) = true ∧ ch (13 * s + t) = true))) (hv : ∀ s t, s < m → t < m → C s t → st (13 * s + t) = nI (val s t) ∧ val s t ≤ 13) :
    ∀ (n s y : Nat), s + n = m → y ≤ 14 → xz_W C val (fun a b => a < s ∧ b < m) y → ∃ y', xm_s2 m bd ch st n s (nI y) = nI y' ∧ y' ≤ 14 ∧ xz_W C val (fun a b => a < m ∧ b < m) y'
  | 0, s, y, hs, hy, h => by
    have e : s = m := by omega
    subst e
    exact ⟨y, rfl, hy, h⟩
  | n + 1, s, y, hs, hy, h => by
    have hsub : ∀ {T T2 : Nat → Nat → Prop} {y : Nat}, (∀ a b, T2 a b → T a b) → xz_W C val T y → xz_W C val T2 y := fun hT hW => hW.imp (fun w => ⟨w.1, fun a b hab => w.2 a b (hT a b hab)⟩) (fun w => ⟨w.1, fun a b hab => w.2 a b (hT a b hab)⟩)
    obtain ⟨y1, e1, hy1, h1⟩ := xz_s1 hC hv (show s < m by omega) m 0 y (by omega) hy (hsub (fun a b hab => by omega) h)
    obtain ⟨y2, e2, hy2, h2⟩ := xz_s2 hC hv n (s + 1) y1 (by omega) hy1 (hsub (fun a b hab => by omega) h1)
    refine ⟨y2, ?_, hy2, h2⟩
    show xm_s2 m bd ch st n (s + 1) (xm_s1 bd ch st s m 0 (nI y)) = nI y2
    rw [e1]
    exact e2
end XZ8
/-- the least length: the same by both -/
theorem xz_len {m : Nat} {G B : Nat → Int32} {lf gd bd ch0 : Nat → Bool} {st0 : Nat → Int32} (h : xz_Y m G B (xm_e m lf gd) (fun s t => s < m ∧ t < m ∧ bd (13 * s + t) = true)) (hr : ∀ a, a < m → xm_e m lf gd a a) (hirr : ∀ a, a < m → bd (13 * a + a) = false) :
    ∃ q, q ≤ 12 ∧ xm_s2 m bd (xm_K m lf gd ch0 st0).1 (xm_K m lf gd ch0 st0).2.1 m 0 (nI 0) = nI q ∧ ((q = 0 ∧ ∀ z n, ¬ xl_hb m (xm_e m lf gd) (fun s t => s < m ∧ t < m ∧ bd (13 * s + t) = true) n z z) ∨ (0 < q ∧ (∃ z, xl_hb m (xm_e m lf gd) (fun s t => s < m ∧ t < m ∧ bd (13 * s + t) = true) q z z) ∧ ∀ z n, xl_hb m (xm_e m lf gd) (fun s t => s < m ∧ t < m ∧ bd (13 * s + t) = true) n z z → q ≤ n)) := by
  have hm := h.1
  have hin : ∀ a b, xm_e m lf gd a b → a < m ∧ b < m := fun a b w => ⟨w.1, w.2.1⟩
  have hrr : ∀ a b, xm_e m lf gd a b → xm_e m lf gd a a := fun a b w => hr a w.1
  have hK := fun s hs t ht => xm_K_J (m := m) (lf := lf) (gd := gd) (ch := ch0) (st := st0) (by omega) s hs t ht
  have hex : ∀ s t, ∃ k, s < m → t < m → (xm_K m lf gd ch0 st0).1 (13 * s + t) = true → 1 ≤ k ∧ k ≤ m ∧ (xm_K m lf gd ch0 st0).2.1 (13 * s + t) = nI k ∧ xm_lv m (xm_e m lf gd) k s t := fun s t => by
    by_cases hst : s < m ∧ t < m ∧ (xm_K m lf gd ch0 st0).1 (13 * s + t) = true
    · obtain ⟨k, h1, h2, h3, h4⟩ := (hK s hst.1 t hst.2.1).2.2 hst.2.2
      exact ⟨k, fun _ _ _ => ⟨h1, h2, h3, h4⟩⟩
    · exact ⟨0, fun a b c => absurd ⟨a, b, c⟩ hst⟩
  let val : Nat → Nat → Nat := fun s t => Classical.choose (hex s t)
  have hval : ∀ s t, s < m → t < m → (xm_K m lf gd ch0 st0).1 (13 * s + t) = true → 1 ≤ val s t ∧ val s t ≤ m ∧ (xm_K m lf gd ch0 st0).2.1 (13 * s + t) = nI (val s t) ∧ xm_lv m (xm_e m lf gd) (val s t) s t := fun s t => Classical.choose_spec (hex s t)
  obtain ⟨y, e, _, hW⟩ := xz_s2 (m := m) (bd := bd) (ch := (xm_K m lf gd ch0 st0).1) (st := (xm_K m lf gd ch0 st0).2.1) (C := fun s t => s < m ∧ t < m ∧ bd (13 * t + s) = true ∧ (xm_K m lf gd ch0 st0).1 (13 * s + t) = true) (val := val) (fun s t hs ht => ⟨fun w => w.2.2, fun w => ⟨hs, ht, w⟩⟩) (fun s t hs ht w => ⟨(hval s t hs ht w.2.2.2).2.2.1, by have := (hval s t hs ht w.2.2.2).2.1; omega⟩) m 0 0 (by omega) (by omega) (Or.inl ⟨rfl, fun s t w => absurd w.1 (Nat.not_lt_zero s)⟩)
  have hcirc : ∀ n, (∃ z, xl_hb m (xm_e m lf gd) (fun s t => s < m ∧ t < m ∧ bd (13 * s + t) = true) n z z) ↔ ∃ k t u, n = k + 1 ∧ (t < m ∧ u < m ∧ bd (13 * t + u) = true) ∧ xg_w m (xm_e m lf gd) k u t := fun n => xl_circ (fun s t w => ⟨w.1, w.2.1⟩)
  have hlow : ∀ n, (∃ z, xl_hb m (xm_e m lf gd) (fun s t => s < m ∧ t < m ∧ bd (13 * s + t) = true) n z z) → ∃ s t, (s < m ∧ t < m ∧ bd (13 * t + s) = true ∧ (xm_K m lf gd ch0 st0).1 (13 * s + t) = true) ∧ val s t + 1 ≤ n := fun n hn => by
    obtain ⟨k, t, u, rfl, ⟨h1, h2, h3⟩, h4⟩ := (hcirc n).mp hn
    rcases Nat.eq_zero_or_pos k with hk | hk
    · subst hk
      have e1 : u = t := h4
      rw [e1, hirr t h1] at h3
      cases h3
    · obtain ⟨k', rfl⟩ : ∃ k', k = k' + 1 := ⟨k - 1, by omega⟩
      have h5 := xg_w_d hin h4
      have h6 := (hK u h2 t h1).1.mpr (xg_full hin h5)
      refine ⟨u, t, ⟨h2, h1, h3, h6⟩, ?_⟩
      obtain ⟨a1, a2, a3, a4⟩ := hval u t h2 h1 h6
      have : val u t ≤ k' + 1 := Nat.not_lt.mp (fun w => a4.2 (xg_mono' (by omega) h5))
      omega
  rcases hW with ⟨rfl, h2⟩ | ⟨⟨s, t, hc, rfl⟩, h2⟩
  · refine ⟨0, by omega, e, Or.inl ⟨rfl, fun z n w => ?_⟩⟩
    obtain ⟨s, t, hc, _⟩ := hlow n ⟨z, w⟩
    exact h2 s t ⟨hc.1, hc.2.1⟩ hc
  · obtain ⟨a1, a2, a3, a4⟩ := hval s t hc.1 hc.2.1 hc.2.2.2
    have hne : t ≠ s := fun w => by
      have := hc.2.2.1
      rw [w, hirr s hc.1] at this
      cases this
    have hsh : val s t ≤ m - 1 := Nat.not_lt.mp (fun w => a4.2 (xg_mono' (by omega) (xg_short hin (by have := hc.1; omega) hne a4.1)))
    refine ⟨val s t + 1, by omega, e, Or.inr ⟨by omega, (hcirc _).mpr ⟨val s t, t, s, rfl, ⟨hc.2.1, hc.1, hc.2.2.1⟩, (xg_d_w hin hrr a4.1).1⟩, fun z n w => ?_⟩⟩
    obtain ⟨s', t', hc', hle⟩ := hlow n ⟨z, w⟩
    have := h2 s' t' ⟨hc'.1, hc'.2.1⟩ hc'
    omega
