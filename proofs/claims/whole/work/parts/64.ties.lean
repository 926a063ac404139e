/-! the shrinkage: its rows, the least round trip, the common measure -/
theorem xk_rs_o {f : Nat → Nat → Int32} {m : Nat} (hm : m ≤ 12) : ∀ (n s : Nat) (b : Nat → Int32) (r t : Nat), t < 12 → ¬ (s ≤ r ∧ r < s + n) → xk_rs f m n s b (r * 12 + t) = b (r * 12 + t)
  | 0, s, b, r, t, _, _ => rfl
  | n + 1, s, b, r, t, ht, h => by
    show xk_rs f m n (s + 1) (xf_f2 (f s) (s * 12) m 0 b) (r * 12 + t) = _
    rw [xk_rs_o hm n (s + 1) _ r t ht (by omega), xf_f2_at, if_neg (by omega)]
theorem xk_rs_at {f : Nat → Nat → Int32} {m : Nat} (hm : m ≤ 12) : ∀ (n s : Nat) (b : Nat → Int32) (r t : Nat), t < m → s ≤ r → r < s + n → xk_rs f m n s b (r * 12 + t) = f r t
  | 0, s, b, r, t, _, h1, h2 => absurd h2 (by omega)
  | n + 1, s, b, r, t, ht, h1, h2 => by
    show xk_rs f m n (s + 1) (xf_f2 (f s) (s * 12) m 0 b) (r * 12 + t) = _
    by_cases h : r = s
    · subst h
      rw [xk_rs_o hm n (r + 1) _ r t (by omega) (by omega), xf_f2_at, if_pos (by omega), show r * 12 + t - r * 12 = t by omega]
    · exact xk_rs_at hm n (s + 1) _ r t ht (by omega) (by omega)
theorem xk_eu_gcd : ∀ (k n a b : Nat), a < 2 ^ 31 → b < 2 ^ 31 → b < 2 ^ k → 2 * k + 1 ≤ n → xk_eu n (nI a) (nI b) = nI (Nat.gcd a b)
  | 0, n, a, b, ha, hb, hk, hn => by
    obtain ⟨n', rfl⟩ : ∃ n', n = n' + 1 := ⟨n - 1, by omega⟩
    have hb0 : b = 0 := by omega
    subst hb0
    show (if nI 0 = 0 then nI a else _) = _
    rw [if_pos nI_0, Nat.gcd_zero_right]
  | k + 1, n, a, b, ha, hb, hk, hn => by
    obtain ⟨n', rfl⟩ : ∃ n', n = n' + 2 := ⟨n - 2, by omega⟩
    show (if nI b = 0 then nI a else xk_eu (n' + 1) (nI b) (nI a - nI a / nI b * nI b)) = _
    by_cases h0 : b = 0
    · subst h0
      rw [if_pos nI_0, Nat.gcd_zero_right]
    · have hbp : 0 < b := Nat.pos_of_ne_zero h0
      rw [if_neg (nI_ne0 hbp hb), xm_rem ha hb hbp]
      have hr : a % b < b := Nat.mod_lt a hbp
      have eg : Nat.gcd a b = Nat.gcd b (a % b) := by rw [Nat.gcd_comm a b, Nat.gcd_rec b a, Nat.gcd_comm]
      rw [eg]
      generalize a % b = r at *
      show (if nI r = 0 then nI b else xk_eu n' (nI r) (nI b - nI b / nI r * nI r)) = _
      by_cases h1 : r = 0
      · subst h1
        rw [if_pos nI_0, Nat.gcd_zero_right]
      · have hrp : 0 < r := Nat.pos_of_ne_zero h1
        rw [if_neg (nI_ne0 hrp (by omega)), xm_rem hb (by omega) hrp]
        have hq : b % r < r := Nat.mod_lt b hrp
        have hhalf : b % r < 2 ^ k := by
          have h2 : 2 ^ (k + 1) = 2 * 2 ^ k := by rw [Nat.pow_succ, Nat.mul_comm]
          have h3 : b % r + r ≤ b := by
            have h4 := Nat.div_add_mod b r
            have h5 : 1 ≤ b / r := (Nat.one_le_div_iff hrp).mpr (by omega)
            have h6 : r * 1 ≤ r * (b / r) := Nat.mul_le_mul_left r h5
            omega
          omega
        have eg2 : Nat.gcd b r = Nat.gcd r (b % r) := by rw [Nat.gcd_comm b r, Nat.gcd_rec r b, Nat.gcd_comm]
        rw [eg2]
        exact xk_eu_gcd k n' r (b % r) (by omega) (by omega) hhalf (by omega)
theorem xk_red_at {u d : Nat} (hu : u ≤ 58806) (hd : d ≤ 58806) (h0 : 0 < d) : xk_red (nI u, nI d) = (nI (u / Nat.gcd u d), nI (d / Nat.gcd u d)) := by
  have e : xk_eu 64 (nI u) (nI d) = nI (Nat.gcd u d) := xk_eu_gcd 16 64 u d (by omega) (by omega) (by omega) (by omega)
  have hg : 0 < Nat.gcd u d := Nat.gcd_pos_of_pos_right u h0
  have hg2 : Nat.gcd u d ≤ d := Nat.gcd_le_right u h0
  unfold xk_red
  rw [e]
  by_cases h : nI (Nat.gcd u d) ≤ nI 1
  · rw [if_pos h]
    have h1 := (nI_leI (by omega) (by omega)).mp h
    rw [show Nat.gcd u d = 1 by omega, Nat.div_one, Nat.div_one]
  · rw [if_neg h]
    rw [xm_div (by omega) (by omega) hg, xm_div (by omega) (by omega) hg]
theorem xq_lt_pos {x y : Nat × Nat} (h : xq_lt x y) : 0 < x.2 := by
  unfold xq_lt at h
  rcases Nat.eq_zero_or_pos x.2 with z | z
  · rw [z, Nat.mul_zero] at h; omega
  · exact z
theorem xq_tr {x y f : Nat × Nat} (hx : xq_ok x) (h1 : xq_lt x y) (h2 : xq_lt y f) : xq_lt x f := xq_lt_tr (q := y) (xq_lt_pos h2) hx (Nat.le_of_lt h1) h2
/-- the least of the round trips -/
theorem xz_gf {m : Nat} {Pr : Nat × Nat → Prop} (hm : m ≤ 12) (hPr : ∀ p, Pr p → p.1 ≤ 58806 ∧ p.2 ≤ 58806 ∧ xq_ok p) {U E : Nat → Int32} {F : Nat → Nat → Nat × Nat} (h : xz_F m Pr (U, E) F) :
    ∀ (n s : Nat) (f : Nat × Nat), s + n = m → (f = (1, 1) ∨ ∃ r, r < m ∧ f = F r r ∧ xq_lt (F r r) (1, 1)) → (∀ r, r < s → ¬ xq_lt (F r r) f) → ¬ xq_lt (1, 1) f →
    ∃ f' : Nat × Nat, xk_gf U E n s (nI f.1, nI f.2) = (nI f'.1, nI f'.2) ∧ (f' = (1, 1) ∨ ∃ r, r < m ∧ f' = F r r ∧ xq_lt (F r r) (1, 1)) ∧ (∀ r, r < m → ¬ xq_lt (F r r) f') ∧ ¬ xq_lt (1, 1) f'
  | 0, s, f, hs, h1, h2, h3 => ⟨f, rfl, h1, fun r hr => h2 r (by omega), h3⟩
  | n + 1, s, f, hs, h1, h2, h3 => by
    have hsm : s < m := by omega
    obtain ⟨e1, e2, p1⟩ := h s s hsm hsm
    have b1 := hPr _ p1
    have b2 : f.1 ≤ 58806 ∧ f.2 ≤ 58806 := by
      rcases h1 with rfl | ⟨r, hr, rfl, _⟩
      · exact ⟨by decide, by decide⟩
      · exact ⟨(hPr _ (h r r hr hr).2.2).1, (hPr _ (h r r hr hr).2.2).2.1⟩
    have hls : xk_less (U (s * 12 + s)).toInt64 (E (s * 12 + s)).toInt64 (nI f.1).toInt64 (nI f.2).toInt64 = true ↔ xq_lt (F s s) f := by
      have e1' : U (s * 12 + s) = nI (F s s).1 := e1
      have e2' : E (s * 12 + s) = nI (F s s).2 := e2
      unfold xk_less xq_lt
      rw [decide_eq_true_eq, e1', e2']
      exact xm_lt64 (by omega) (by omega) (by omega) (by omega)
    by_cases hl : xq_lt (F s s) f
    · rw [xk_gf_t (hls.mpr hl)]
      have e1' : U (s * 12 + s) = nI (F s s).1 := e1
      have e2' : E (s * 12 + s) = nI (F s s).2 := e2
      rw [e1', e2']
      have hlt1 : xq_lt (F s s) (1, 1) := by
        rcases h1 with rfl | ⟨r, hr, rfl, h4⟩
        · exact hl
        · exact xq_tr b1.2.2 hl h4
      exact xz_gf hm hPr h n (s + 1) (F s s) (by omega) (Or.inr ⟨s, hsm, rfl, hlt1⟩) (fun r hr hlt => by
        by_cases hrs : r = s
        · subst hrs
          exact absurd hlt (Nat.lt_irrefl _)
        · exact h2 r (by omega) (xq_tr (hPr _ (h r r (by omega) (by omega)).2.2).2.2 hlt hl)) (fun hlt => h3 (xq_tr (Or.inl (by decide)) hlt hl))
    · rw [xk_gf_f (by rw [← Bool.not_eq_true, hls]; exact hl)]
      exact xz_gf hm hPr h n (s + 1) f (by omega) h1 (fun r hr => by
        by_cases hrs : r = s
        · rw [hrs]; exact hl
        · exact h2 r (by omega)) h3
