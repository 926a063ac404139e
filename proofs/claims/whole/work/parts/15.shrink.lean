/-! fractions (upper part, lower part); 1 / 0 is greater than each other one; rounds of least greatest parts -/
def xq_lt (x y : Nat × Nat) : Prop := x.1 * y.2 < y.1 * x.2
def xq_ok (x : Nat × Nat) : Prop := 0 < x.1 ∨ 0 < x.2
/-- x is at most q -/
def xq_le (q x : Nat × Nat) : Prop := x.1 * q.2 ≤ q.1 * x.2
theorem xq_low {q x : Nat × Nat} (hq : 0 < q.2) (hx : xq_ok x) (h : xq_le q x) : 0 < x.2 := by
  rcases Nat.eq_zero_or_pos x.2 with h0 | h0
  · have h1 : x.1 * q.2 ≤ q.1 * x.2 := h
    rw [h0, Nat.mul_zero] at h1
    rcases hx with hx | hx
    · have := Nat.mul_pos hx hq
      omega
    · omega
  · exact h0
theorem xq_le_of_lt {q x y : Nat × Nat} (hq : 0 < q.2) (hy : xq_ok y) (h : xq_lt x y) (hl : xq_le q y) : xq_le q x := by
  have hy2 := xq_low hq hy hl
  have h : x.1 * y.2 < y.1 * x.2 := h
  have hl : y.1 * q.2 ≤ q.1 * y.2 := hl
  show x.1 * q.2 ≤ q.1 * x.2
  refine Nat.le_of_mul_le_mul_right (c := y.2) ?_ hy2
  have h1 : x.1 * q.2 * y.2 = x.1 * y.2 * q.2 := by rw [Nat.mul_assoc, Nat.mul_comm q.2, ← Nat.mul_assoc]
  have h2 : y.1 * x.2 * q.2 = y.1 * q.2 * x.2 := by rw [Nat.mul_assoc, Nat.mul_comm x.2, ← Nat.mul_assoc]
  have h3 : q.1 * y.2 * x.2 = q.1 * x.2 * y.2 := by rw [Nat.mul_assoc, Nat.mul_comm y.2, ← Nat.mul_assoc]
  have a1 : x.1 * y.2 * q.2 ≤ y.1 * x.2 * q.2 := Nat.mul_le_mul_right _ (Nat.le_of_lt h)
  have a2 : y.1 * q.2 * x.2 ≤ q.1 * y.2 * x.2 := Nat.mul_le_mul_right _ hl
  omega
theorem xq_le_of_ge {q x y : Nat × Nat} (hq : 0 < q.2) (hx : xq_ok x) (h : ¬ xq_lt x y) (hl : xq_le q x) : xq_le q y := by
  have hx2 := xq_low hq hx hl
  have h : ¬ x.1 * y.2 < y.1 * x.2 := h
  have hl : x.1 * q.2 ≤ q.1 * x.2 := hl
  show y.1 * q.2 ≤ q.1 * y.2
  refine Nat.le_of_mul_le_mul_right (c := x.2) ?_ hx2
  have h1 : y.1 * q.2 * x.2 = y.1 * x.2 * q.2 := by rw [Nat.mul_assoc, Nat.mul_comm q.2, ← Nat.mul_assoc]
  have h2 : x.1 * y.2 * q.2 = x.1 * q.2 * y.2 := by rw [Nat.mul_assoc, Nat.mul_comm y.2, ← Nat.mul_assoc]
  have h3 : q.1 * x.2 * y.2 = q.1 * y.2 * x.2 := by rw [Nat.mul_assoc, Nat.mul_comm x.2, ← Nat.mul_assoc]
  have a1 : y.1 * x.2 * q.2 ≤ x.1 * y.2 * q.2 := Nat.mul_le_mul_right _ (by omega)
  have a2 : x.1 * q.2 * y.2 ≤ q.1 * x.2 * y.2 := Nat.mul_le_mul_right _ hl
  omega
theorem xq_lt_tr {q x f : Nat × Nat} (hq : 0 < q.2) (hx : xq_ok x) (hl : xq_le q x) (h : xq_lt q f) : xq_lt x f := by
  have hx2 := xq_low hq hx hl
  have h : q.1 * f.2 < f.1 * q.2 := h
  have hl : x.1 * q.2 ≤ q.1 * x.2 := hl
  show x.1 * f.2 < f.1 * x.2
  refine Nat.lt_of_mul_lt_mul_right (a := q.2) ?_
  have h1 : x.1 * f.2 * q.2 = x.1 * q.2 * f.2 := by rw [Nat.mul_assoc, Nat.mul_comm f.2, ← Nat.mul_assoc]
  have h2 : q.1 * x.2 * f.2 = q.1 * f.2 * x.2 := by rw [Nat.mul_assoc, Nat.mul_comm x.2, ← Nat.mul_assoc]
  have h3 : f.1 * q.2 * x.2 = f.1 * x.2 * q.2 := by rw [Nat.mul_assoc, Nat.mul_comm q.2, ← Nat.mul_assoc]
  have a1 : x.1 * q.2 * f.2 ≤ q.1 * x.2 * f.2 := Nat.mul_le_mul_right _ hl
  have a2 : q.1 * f.2 * x.2 < f.1 * q.2 * x.2 := Nat.mul_lt_mul_of_pos_right h hx2
  omega
/-- equal fractions are one, reduced -/
theorem xq_red {u1 d1 u2 d2 : Nat} (h1 : 0 < d1) (h2 : 0 < d2) (h : u1 * d2 = u2 * d1) : u1 / Nat.gcd u1 d1 = u2 / Nat.gcd u2 d2 ∧ d1 / Nat.gcd u1 d1 = d2 / Nat.gcd u2 d2 := by
  have p1 : 0 < Nat.gcd u1 d1 := Nat.gcd_pos_of_pos_right _ h1
  have p2 : 0 < Nat.gcd u2 d2 := Nat.gcd_pos_of_pos_right _ h2
  have c1 := Nat.coprime_div_gcd_div_gcd p1
  have c2 := Nat.coprime_div_gcd_div_gcd p2
  have e1 : u1 / Nat.gcd u1 d1 * Nat.gcd u1 d1 = u1 := Nat.div_mul_cancel (Nat.gcd_dvd_left _ _)
  have e2 : d1 / Nat.gcd u1 d1 * Nat.gcd u1 d1 = d1 := Nat.div_mul_cancel (Nat.gcd_dvd_right _ _)
  have e3 : u2 / Nat.gcd u2 d2 * Nat.gcd u2 d2 = u2 := Nat.div_mul_cancel (Nat.gcd_dvd_left _ _)
  have e4 : d2 / Nat.gcd u2 d2 * Nat.gcd u2 d2 = d2 := Nat.div_mul_cancel (Nat.gcd_dvd_right _ _)
  generalize Nat.gcd u1 d1 = g1 at *
  generalize Nat.gcd u2 d2 = g2 at *
  generalize u1 / g1 = a1 at *
  generalize d1 / g1 = b1 at *
  generalize u2 / g2 = a2 at *
  generalize d2 / g2 = b2 at *
  have hx : a1 * b2 = a2 * b1 := by
    refine Nat.eq_of_mul_eq_mul_right (Nat.mul_pos p1 p2) ?_
    have l1 : a1 * b2 * (g1 * g2) = (a1 * g1) * (b2 * g2) := by
      rw [Nat.mul_assoc, Nat.mul_assoc, ← Nat.mul_assoc b2, Nat.mul_comm b2 g1, Nat.mul_assoc g1]
    have l2 : a2 * b1 * (g1 * g2) = (a2 * g2) * (b1 * g1) := by
      rw [Nat.mul_comm g1 g2, Nat.mul_assoc, Nat.mul_assoc, ← Nat.mul_assoc b1, Nat.mul_comm b1 g2, Nat.mul_assoc g2]
    rw [l1, l2, e1, e4, e3, e2]
    exact h
  have d1' : a1 ∣ a2 := c1.dvd_of_dvd_mul_right ⟨b2, hx.symm⟩
  have d2' : a2 ∣ a1 := c2.dvd_of_dvd_mul_right ⟨b1, hx⟩
  have d3 : b1 ∣ b2 := c1.symm.dvd_of_dvd_mul_left ⟨a2, by rw [hx, Nat.mul_comm]⟩
  have d4 : b2 ∣ b1 := c2.symm.dvd_of_dvd_mul_left ⟨a1, by rw [← hx, Nat.mul_comm]⟩
  exact ⟨Nat.dvd_antisymm d1' d2', Nat.dvd_antisymm d3 d4⟩
theorem xq_max {q x y : Nat × Nat} (hq : 0 < q.2) (hx : xq_ok x) (hy : xq_ok y) {z : Nat × Nat} (h1 : xq_lt x y → z = y) (h2 : ¬ xq_lt x y → z = x) : xq_le q z ↔ (xq_le q x ∧ xq_le q y) := by
  by_cases h : xq_lt x y
  · rw [h1 h]
    exact ⟨fun k => ⟨xq_le_of_lt hq hy h k, k⟩, fun k => k.2⟩
  · rw [h2 h]
    exact ⟨fun k => ⟨k, xq_le_of_ge hq hx h k⟩, fun k => k.1⟩
theorem xq_min {q x y : Nat × Nat} (hq : 0 < q.2) (hx : xq_ok x) (hy : xq_ok y) {z : Nat × Nat} (h1 : xq_lt x y → z = x) (h2 : ¬ xq_lt x y → z = y) : xq_le q z ↔ (xq_le q y ∨ xq_le q x) := by
  by_cases h : xq_lt x y
  · rw [h1 h]
    exact ⟨fun k => Or.inr k, fun k => k.elim (fun k => xq_le_of_lt hq hy h k) id⟩
  · rw [h2 h]
    exact ⟨fun k => Or.inl k, fun k => k.elim id (fun k => xq_le_of_ge hq hx h k)⟩
/-- the steps of the threshold q: a s t / b s is at most q -/
def xq_e (n : Nat) (a : Nat → Nat → Nat) (b : Nat → Nat) (q : Nat × Nat) (s t : Nat) : Prop := s < n ∧ t < n ∧ s ≠ t ∧ 0 < b s ∧ xq_le q (a s t, b s)
def xq_fails (n : Nat) (a : Nat → Nat → Nat) (b : Nat → Nat) (q : Nat × Nat) : Prop := ∃ s, s < n ∧ xg_tc n (xq_e n a b q) s s
/-- the class's fraction f and the reference's fraction r are equal -/
theorem xq_same {n : Nat} {a : Nat → Nat → Nat} {b : Nat → Nat} {F : Nat → Nat → Nat × Nat} {f r : Nat × Nat}
    (hF : ∀ q : Nat × Nat, 0 < q.2 → ∀ s t, s < n → t < n → (xq_le q (F s t) ↔ xg_tc n (xq_e n a b q) s t)) (hFok : ∀ s t, s < n → t < n → xq_ok (F s t)) (hFe : ∀ s t, s < n → t < n → F s t = (1, 0) ∨ ∃ s' t', s' < n ∧ t' < n ∧ s' ≠ t' ∧ 0 < b s' ∧ F s t = (a s' t', b s'))
    (f1 : f = (1, 1) ∨ ∃ s, s < n ∧ f = F s s ∧ xq_lt (F s s) (1, 1)) (f2 : ∀ s, s < n → ¬ xq_lt (F s s) f) (f3 : ¬ xq_lt (1, 1) f)
    (r0 : 0 < r.2) (r1 : r = (1, 1) ∨ xq_fails n a b r) (r2 : ∀ s t, s < n → t < n → s ≠ t → 0 < b s → xq_fails n a b (a s t, b s) → ¬ xq_lt (a s t, b s) r) (r3 : ¬ xq_lt (1, 1) r) : 0 < f.2 ∧ f.1 * r.2 = r.1 * f.2 := by
  have hlow : ∀ x : Nat × Nat, xq_lt x (1, 1) → 0 < x.2 := fun x h => by
    have h : x.1 * 1 < 1 * x.2 := h
    omega
  have hf2 : 0 < f.2 := by
    rcases f1 with rfl | ⟨s, hs, rfl, h⟩
    · decide
    · exact hlow _ h
  refine ⟨hf2, ?_⟩
  have g1 : ¬ xq_lt f r := by
    rcases f1 with rfl | ⟨s, hs, rfl, h⟩
    · exact r3
    · have hl := hlow _ h
      rcases hFe s s hs hs with h1 | ⟨s', t', h1, h2, h3, h4, h5⟩
      · rw [h1] at hl
        exact absurd hl (by decide)
      · have hc : xq_fails n a b (F s s) := ⟨s, hs, (hF (F s s) hl s s hs hs).mp (Nat.le_refl _)⟩
        rw [h5] at hc ⊢
        exact r2 s' t' h1 h2 h3 h4 hc
  have g2 : ¬ xq_lt r f := by
    rcases r1 with rfl | ⟨s, hs, h⟩
    · exact f3
    · intro hlt
      have h1 := (hF r r0 s s hs hs).mpr h
      exact f2 s hs (xq_lt_tr r0 (hFok s s hs hs) h1 hlt)
  have g1 : ¬ f.1 * r.2 < r.1 * f.2 := g1
  have g2 : ¬ r.1 * f.2 < f.1 * r.2 := g2
  omega
