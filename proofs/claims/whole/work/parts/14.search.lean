/-! the reference's search for the least circle: list[i] + 1 as q i, place + 1 as p -/
def xs_run (d n : Nat) (may : (Nat → Nat) → Nat → Bool) (cir : (Nat → Nat) → Bool) : Nat → Nat → (Nat → Nat) → Option (Nat → Nat)
  | 0, _, _ => none
  | _ + 1, 0, _ => none
  | k + 1, p + 1, q => if q p = d then xs_run d n may cir k p (va_up q p (q p + 1)) else
      if may (va_up q p (q p + 1)) p = true then
        (if p + 1 < n then xs_run d n may cir k (p + 2) (va_up (va_up q p (q p + 1)) (p + 1) 0) else
          if cir (va_up q p (q p + 1)) = true then some (va_up q p (q p + 1)) else xs_run d n may cir k (p + 1) (va_up q p (q p + 1)))
      else xs_run d n may cir k (p + 1) (va_up q p (q p + 1))
def xs_mu (d n : Nat) (q : Nat → Nat) : Nat → Nat
  | 0 => 0
  | p + 1 => xs_mu d n q p + (d + 2 - q p) * (d + 3) ^ (n - p)
theorem xs_mu_c {d n : Nat} {q r : Nat → Nat} : ∀ p, (∀ i, i < p → q i = r i) → xs_mu d n q p = xs_mu d n r p
  | 0, _ => rfl
  | p + 1, h => by
    show xs_mu d n q p + (d + 2 - q p) * (d + 3) ^ (n - p) = xs_mu d n r p + (d + 2 - r p) * (d + 3) ^ (n - p)
    rw [xs_mu_c p (fun i hi => h i (by omega)), h p (by omega)]
def xs_may (g : Nat → Nat → Prop) (q : Nat → Nat) (p : Nat) : Prop := (∀ k, k < p → q k ≠ q p) ∧ (p = 0 ∨ g (q (p - 1) - 1) (q p - 1))
def xs_cir (g b : Nat → Nat → Prop) (n : Nat) (q : Nat → Nat) : Prop := (∃ i, i < n ∧ b (q i - 1) (q (xl_nx n i) - 1)) ∧ g (q (n - 1) - 1) (q 0 - 1)
def xs_ok (d : Nat) (g b : Nat → Nat → Prop) (n : Nat) (L : Nat → Nat) : Prop := xl_ok d g b n L ∧ ∀ i j, i < j → j < n → L i ≠ L j
theorem xs_may_c {g : Nat → Nat → Prop} {q r : Nat → Nat} {p : Nat} (h : ∀ i, i ≤ p → q i = r i) (hm : xs_may g q p) : xs_may g r p := by
  refine ⟨fun k hk => ?_, ?_⟩
  · rw [← h k (by omega), ← h p (Nat.le_refl p)]
    exact hm.1 k hk
  · rcases hm.2 with h1 | h1
    · exact Or.inl h1
    · exact Or.inr (by rw [← h (p - 1) (by omega), ← h p (Nat.le_refl p)]; exact h1)
/-- a list is at the place p not below q -/
theorem xs_stand {d : Nat} {g b : Nat → Nat → Prop} {n : Nat} {L q : Nat → Nat} {p : Nat} (hL : xs_ok d g b n L) (hp : p < n) (h : ∀ i, i ≤ p → L i + 1 = q i) : xs_may g q p := by
  refine ⟨fun k hk e => ?_, ?_⟩
  · rw [← h k (by omega), ← h p (Nat.le_refl p)] at e
    exact hL.2 k p hk hp (by omega)
  · by_cases h0 : p = 0
    · exact Or.inl h0
    · refine Or.inr ?_
      have h1 := hL.1.2.2.1 (p - 1) (by omega)
      rw [xl_nx_lt (by omega), show p - 1 + 1 = p by omega] at h1
      rw [← h (p - 1) (by omega), ← h p (Nat.le_refl p)]
      exact h1
def xs_inv (d : Nat) (g b : Nat → Nat → Prop) (n p : Nat) (q : Nat → Nat) : Prop :=
  (∀ i, i + 1 < p → 1 ≤ q i ∧ q i ≤ d ∧ xs_may g q i) ∧ (∀ i, i + 1 = p → q i ≤ d) ∧ p ≤ n ∧ ∀ L, xs_ok d g b n L → ∃ j, j < p ∧ (∀ i, i < j → L i + 1 = q i) ∧ q j < L j + 1
/-- one more at the place p: the lists are above, or go on alike through p -/
theorem xs_next {d : Nat} {g b : Nat → Nat → Prop} {n p : Nat} {q : Nat → Nat} (hI : xs_inv d g b n (p + 1) q) {L : Nat → Nat} (hL : xs_ok d g b n L) :
    (∃ j, j < p + 1 ∧ (∀ i, i < j → L i + 1 = va_up q p (q p + 1) i) ∧ va_up q p (q p + 1) j < L j + 1) ∨ ∀ i, i ≤ p → L i + 1 = va_up q p (q p + 1) i := by
  obtain ⟨j, h1, h2, h3⟩ := hI.2.2.2 L hL
  have hlow : ∀ i, i < p → va_up q p (q p + 1) i = q i := fun i hi => va_up_ne q _ (by omega)
  by_cases hj : j = p
  · subst hj
    by_cases he : q j + 1 = L j + 1
    · refine Or.inr (fun i hi => ?_)
      by_cases hij : i = j
      · subst hij; rw [va_up_self]; omega
      · rw [hlow i (by omega)]; exact h2 i (by omega)
    · refine Or.inl ⟨j, by omega, fun i hi => by rw [hlow i hi]; exact h2 i hi, ?_⟩
      rw [va_up_self]; omega
  · exact Or.inl ⟨j, h1, fun i hi => by rw [hlow i (by omega)]; exact h2 i hi, by rw [hlow j (by omega)]; exact h3⟩
theorem xs_find {d n : Nat} {g b : Nat → Nat → Prop} {may : (Nat → Nat) → Nat → Bool} {cir : (Nat → Nat) → Bool} (hmay : ∀ q p, may q p = true ↔ xs_may g q p) (hcir : ∀ q, cir q = true ↔ xs_cir g b n q) (hn : 0 < n)
    (hex : ∃ L, xs_ok d g b n L) : ∀ (M p : Nat) (q : Nat → Nat), xs_mu d n q p < M → xs_inv d g b n p q →
    ∃ (k : Nat) (r : Nat → Nat), xs_run d n may cir k p q = some r ∧ xs_ok d g b n (fun i => r i - 1) ∧ (∀ i, i < n → 1 ≤ r i ∧ r i ≤ d) ∧ ∀ L, xs_ok d g b n L → xl_le n (fun i => r i - 1) L := by
  intro M
  induction M with
  | zero => intro p q h; exact absurd h (Nat.not_lt_zero _)
  | succ M ih =>
    intro p q hM hI
    cases p with
    | zero =>
      obtain ⟨L, hL⟩ := hex
      obtain ⟨j, hj, -⟩ := hI.2.2.2 L hL
      exact absurd hj (Nat.not_lt_zero j)
    | succ p =>
      have hpn : p + 1 ≤ n := hI.2.2.1
      have hqd : q p ≤ d := hI.2.1 p rfl
      have hlow : ∀ i, i < p → va_up q p (q p + 1) i = q i := fun i hi => va_up_ne q _ (by omega)
      have hself : va_up q p (q p + 1) p = q p + 1 := va_up_self q p _
      have hMs : xs_mu d n q (p + 1) = xs_mu d n q p + (d + 2 - q p) * (d + 3) ^ (n - p) := rfl
      have hpw : 0 < (d + 3) ^ (n - p) := Nat.pow_pos (by omega)
      have hmu1 : xs_mu d n (va_up q p (q p + 1)) p = xs_mu d n q p := xs_mu_c p hlow
      have hfirst : ∀ i, i + 1 < p + 1 → 1 ≤ va_up q p (q p + 1) i ∧ va_up q p (q p + 1) i ≤ d ∧ xs_may g (va_up q p (q p + 1)) i := fun i hi => by
        obtain ⟨a1, a2, a3⟩ := hI.1 i hi
        rw [hlow i (by omega)]
        exact ⟨a1, a2, xs_may_c (fun k hk => (hlow k (by omega)).symm) a3⟩
      by_cases hd : q p = d
      · -- back one place
        have hI2 : xs_inv d g b n p (va_up q p (q p + 1)) := by
          refine ⟨fun i hi => hfirst i (by omega), fun i hi => (hfirst i (by omega)).2.1, by omega, fun L hL => ?_⟩
          obtain ⟨j, h1, h2, h3⟩ := hI.2.2.2 L hL
          by_cases hj : j = p
          · subst hj
            have := hL.1.2.1 j (by omega)
            omega
          · exact ⟨j, by omega, fun i hi => by rw [hlow i (by omega)]; exact h2 i hi, by rw [hlow j (by omega)]; exact h3⟩
        have hlt : xs_mu d n (va_up q p (q p + 1)) p < M := by
          rw [hmu1]
          have h2 : 0 < (d + 2 - q p) * (d + 3) ^ (n - p) := Nat.mul_pos (by omega) hpw
          omega
        obtain ⟨k, r, h1, h2⟩ := ih p _ hlt hI2
        exact ⟨k + 1, r, (if_pos hd).trans h1, h2⟩
      · have hstep : (d + 2 - q p) * (d + 3) ^ (n - p) = (d + 1 - q p) * (d + 3) ^ (n - p) + (d + 3) ^ (n - p) := by
          rw [show d + 2 - q p = (d + 1 - q p) + 1 by omega, Nat.add_mul, Nat.one_mul]
        have hmu2 : xs_mu d n (va_up q p (q p + 1)) (p + 1) = xs_mu d n q p + (d + 1 - q p) * (d + 3) ^ (n - p) := by
          show xs_mu d n (va_up q p (q p + 1)) p + (d + 2 - va_up q p (q p + 1) p) * (d + 3) ^ (n - p) = _
          rw [hmu1, hself, show d + 2 - (q p + 1) = d + 1 - q p by omega]
        have hlt : xs_mu d n (va_up q p (q p + 1)) (p + 1) < M := by omega
        have hstay : (∀ L, xs_ok d g b n L → ¬ ∀ i, i ≤ p → L i + 1 = va_up q p (q p + 1) i) → xs_inv d g b n (p + 1) (va_up q p (q p + 1)) := by
          intro hno
          refine ⟨hfirst, fun i hi => ?_, hpn, fun L hL => ?_⟩
          · rw [show i = p by omega, hself]; omega
          · rcases xs_next hI hL with h1 | h1
            · exact h1
            · exact absurd h1 (hno L hL)
        by_cases hm : may (va_up q p (q p + 1)) p = true
        · have hm' := (hmay _ _).mp hm
          by_cases hl : p + 1 < n
          · -- one place on
            have hlow2 : ∀ i, i ≤ p → va_up (va_up q p (q p + 1)) (p + 1) 0 i = va_up q p (q p + 1) i := fun i hi => va_up_ne _ _ (by omega)
            have hI2 : xs_inv d g b n (p + 2) (va_up (va_up q p (q p + 1)) (p + 1) 0) := by
              refine ⟨fun i hi => ?_, fun i hi => ?_, by omega, fun L hL => ?_⟩
              · rw [hlow2 i (by omega)]
                by_cases hip : i = p
                · subst hip
                  exact ⟨by rw [hself]; omega, by rw [hself]; omega, xs_may_c (fun k hk => (hlow2 k hk).symm) hm'⟩
                · obtain ⟨a1, a2, a3⟩ := hfirst i (by omega)
                  exact ⟨a1, a2, xs_may_c (fun k hk => (hlow2 k (by omega)).symm) a3⟩
              · rw [show i = p + 1 by omega, va_up_self]; omega
              · rcases xs_next hI hL with ⟨j, h1, h2, h3⟩ | h1
                · exact ⟨j, by omega, fun i hi => by rw [hlow2 i (by omega)]; exact h2 i hi, by rw [hlow2 j (by omega)]; exact h3⟩
                · exact ⟨p + 1, by omega, fun i hi => by rw [hlow2 i (by omega)]; exact h1 i (by omega), by rw [va_up_self]; omega⟩
            have hlt2 : xs_mu d n (va_up (va_up q p (q p + 1)) (p + 1) 0) (p + 2) < M := by
              have e1 : xs_mu d n (va_up (va_up q p (q p + 1)) (p + 1) 0) (p + 2) = xs_mu d n (va_up q p (q p + 1)) (p + 1) + (d + 2) * (d + 3) ^ (n - (p + 1)) := by
                show xs_mu d n (va_up (va_up q p (q p + 1)) (p + 1) 0) (p + 1) + (d + 2 - va_up (va_up q p (q p + 1)) (p + 1) 0 (p + 1)) * (d + 3) ^ (n - (p + 1)) = _
                rw [va_up_self, xs_mu_c (p + 1) (fun i hi => hlow2 i (by omega)), Nat.sub_zero]
              have e2 : (d + 3) ^ (n - p) = (d + 2) * (d + 3) ^ (n - (p + 1)) + (d + 3) ^ (n - (p + 1)) := by
                rw [show n - p = (n - (p + 1)) + 1 by omega, Nat.pow_succ, Nat.mul_comm, show d + 3 = (d + 2) + 1 by omega, Nat.add_mul, Nat.one_mul]
              have h3 : 0 < (d + 3) ^ (n - (p + 1)) := Nat.pow_pos (by omega)
              rw [e1, hmu2]
              omega
            obtain ⟨k, r, h1, h2⟩ := ih (p + 2) _ hlt2 hI2
            exact ⟨k + 1, r, ((if_neg hd).trans ((if_pos hm).trans (if_pos hl))).trans h1, h2⟩
          · have hpn' : p + 1 = n := by omega
            by_cases hc : cir (va_up q p (q p + 1)) = true
            · -- found
              have hc' := (hcir _).mp hc
              have hall : ∀ i, i < n → 1 ≤ va_up q p (q p + 1) i ∧ va_up q p (q p + 1) i ≤ d ∧ xs_may g (va_up q p (q p + 1)) i := fun i hi => by
                by_cases hip : i = p
                · subst hip
                  exact ⟨by rw [hself]; omega, by rw [hself]; omega, hm'⟩
                · exact hfirst i (by omega)
              refine ⟨1, va_up q p (q p + 1), (if_neg hd).trans ((if_pos hm).trans ((if_neg hl).trans (if_pos hc))), ⟨⟨hn, fun i hi => ?_, fun i hi => ?_, hc'.1⟩, fun i j hij hj e => ?_⟩, fun i hi => ⟨(hall i hi).1, (hall i hi).2.1⟩, fun L hL => ?_⟩
              · show va_up q p (q p + 1) i - 1 < d
                have := hall i hi
                omega
              · show g (va_up q p (q p + 1) i - 1) (va_up q p (q p + 1) (xl_nx n i) - 1)
                by_cases hi2 : i + 1 < n
                · rw [xl_nx_lt hi2]
                  rcases (hall (i + 1) hi2).2.2.2 with h1 | h1
                  · omega
                  · exact h1
                · rw [xl_nx_end hi2, show i = n - 1 by omega]
                  exact hc'.2
              · have e : va_up q p (q p + 1) i - 1 = va_up q p (q p + 1) j - 1 := e
                have h1 := (hall j hj).2.2.1 i hij
                have h2 := hall i (by omega)
                have h3 := hall j hj
                omega
              · rcases xs_next hI hL with ⟨j, h1, h2, h3⟩ | h1
                · refine Or.inr ⟨j, by omega, fun i hi => ?_, ?_⟩
                  · show va_up q p (q p + 1) i - 1 = L i
                    have := h2 i hi
                    omega
                  · show va_up q p (q p + 1) j - 1 < L j
                    have := hall j (by omega)
                    omega
                · refine Or.inl (fun i hi => ?_)
                  show va_up q p (q p + 1) i - 1 = L i
                  have := h1 i (by omega)
                  omega
            · have hno : ∀ L, xs_ok d g b n L → ¬ ∀ i, i ≤ p → L i + 1 = va_up q p (q p + 1) i := by
                intro L hL h1
                refine hc ((hcir _).mpr ⟨?_, ?_⟩)
                · obtain ⟨i, hi, hb⟩ := hL.1.2.2.2
                  have hx : xl_nx n i ≤ p := by unfold xl_nx; split <;> omega
                  exact ⟨i, hi, by rw [← h1 i (by omega), ← h1 _ hx]; exact hb⟩
                · have h2 := hL.1.2.2.1 (n - 1) (by omega)
                  rw [xl_nx_end (by omega)] at h2
                  rw [← h1 (n - 1) (by omega), ← h1 0 (by omega)]
                  exact h2
              obtain ⟨k, r, h1, h2⟩ := ih (p + 1) _ hlt (hstay hno)
              exact ⟨k + 1, r, ((if_neg hd).trans ((if_pos hm).trans ((if_neg hl).trans (if_neg hc)))).trans h1, h2⟩
        · have hno : ∀ L, xs_ok d g b n L → ¬ ∀ i, i ≤ p → L i + 1 = va_up q p (q p + 1) i := fun L hL h1 => hm ((hmay _ _).mpr (xs_stand hL (by omega) h1))
          obtain ⟨k, r, h1, h2⟩ := ih (p + 1) _ hlt (hstay hno)
          exact ⟨k + 1, r, ((if_neg hd).trans (if_neg hm)).trans h1, h2⟩
/-- from the start: no list is below the empty one -/
theorem xs_start {d : Nat} {g b : Nat → Nat → Prop} {n : Nat} (hn : 0 < n) {q : Nat → Nat} (h0 : q 0 = 0) : xs_inv d g b n 1 q :=
  ⟨fun i hi => by omega, fun i hi => by rw [show i = 0 by omega, h0]; omega, hn, fun L _ => ⟨0, by omega, fun i hi => absurd hi (Nat.not_lt_zero i), by rw [h0]; omega⟩⟩
