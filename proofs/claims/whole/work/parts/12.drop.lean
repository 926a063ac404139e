/-! the fewest days to leave out: sets as numbers, by their bits -/
def xd_c (p : Nat → Bool) : Nat → Nat
  | 0 => 0
  | n + 1 => xd_c p n + (if p n = true then 1 else 0)
theorem xd_c_or {p q r : Nat → Bool} (h : ∀ j, r j = (p j || q j)) (hd : ∀ j, ¬ (p j = true ∧ q j = true)) : ∀ n, xd_c r n = xd_c p n + xd_c q n
  | 0 => rfl
  | n + 1 => by
    have ih := xd_c_or h hd n
    have h3 : (if r n = true then 1 else 0) = (if p n = true then 1 else 0) + (if q n = true then 1 else 0) := by
      rw [h n]
      cases hp : p n
      · cases hq : q n <;> simp
      · cases hq : q n
        · simp
        · exact absurd ⟨hp, hq⟩ (hd n)
    show xd_c r n + (if r n = true then 1 else 0) = (xd_c p n + (if p n = true then 1 else 0)) + (xd_c q n + (if q n = true then 1 else 0))
    rw [ih, h3]
    omega
theorem xd_c_le (p : Nat → Bool) : ∀ n, xd_c p n ≤ n
  | 0 => Nat.le_refl _
  | n + 1 => by
    have ih := xd_c_le p n
    show xd_c p n + (if p n = true then 1 else 0) ≤ n + 1
    split <;> omega
def xd_pc (a : Nat) : Nat := xd_c (fun j => a.testBit j) 13
theorem xd_tb_add {k a b : Nat} (ha : a % 2 ^ k = 0) (hb : b < 2 ^ k) (j : Nat) : (a + b).testBit j = (a.testBit j || b.testBit j) := by
  obtain ⟨q, rfl⟩ := Nat.dvd_of_mod_eq_zero ha
  rw [Nat.two_pow_add_eq_or_of_lt hb, Nat.testBit_or]
theorem xd_tb_lo {k a j : Nat} (ha : a % 2 ^ k = 0) (hj : j < k) : a.testBit j = false := by
  obtain ⟨q, rfl⟩ := Nat.dvd_of_mod_eq_zero ha
  rw [Nat.testBit_two_pow_mul]
  simp; omega
theorem xd_tb_hi {k b j : Nat} (hb : b < 2 ^ k) (hj : k ≤ j) : b.testBit j = false :=
  Nat.testBit_lt_two_pow (Nat.lt_of_lt_of_le hb (Nat.pow_le_pow_right (by omega) hj))
theorem xd_pc_add {k a b : Nat} (ha : a % 2 ^ k = 0) (hb : b < 2 ^ k) : xd_pc (a + b) = xd_pc a + xd_pc b := by
  refine xd_c_or (fun j => xd_tb_add ha hb j) (fun j h => ?_) 13
  rcases Nat.lt_or_ge j k with hj | hj
  · rw [xd_tb_lo ha hj] at h
    exact absurd h.1 (by decide)
  · rw [xd_tb_hi hb hj] at h
    exact absurd h.2 (by decide)
theorem xd_pc_pow : ∀ k, k < 13 → xd_pc (2 ^ k) = 1 := by decide +kernel
theorem xd_pc_all : ∀ k, k < 13 → xd_pc (2 ^ k - 1) = k := by decide +kernel
/-- the class's search over the days below k; fb: how many, which -/
def xd_dec (sn : Nat → Bool) : Nat → Nat → Nat → Nat × Nat → Nat × Nat
  | 0, _, dr, fb => if fb.1 ≤ xd_pc dr then fb else (xd_pc dr, dr)
  | k + 1, kept, dr, fb => if fb.1 ≤ xd_pc dr then fb else xd_dec sn k kept (dr + 2 ^ k) (if sn (kept + 2 ^ k) = true then xd_dec sn k (kept + 2 ^ k) dr fb else fb)
def xd_best (C : Nat → Prop) (X : Nat) : Prop := C X ∧ ∀ Y, C Y → xd_pc X < xd_pc Y ∨ (xd_pc X = xd_pc Y ∧ X ≤ Y)
theorem xd_best_eq {C : Nat → Prop} {X Y : Nat} (hX : xd_best C X) (hY : xd_best C Y) : X = Y := by
  have h1 := hX.2 Y hY.1
  have h2 := hY.2 X hX.1
  omega
theorem xd_spec {sn : Nat → Bool} (hmono : ∀ k a b, a % 2 ^ k = 0 → b < 2 ^ k → sn (a + b) = true → sn a = true) : ∀ (k kept dr : Nat) (fb : Nat × Nat), k < 13 → kept % 2 ^ k = 0 → dr % 2 ^ k = 0 → sn kept = true →
    (xd_dec sn k kept dr fb = fb ∧ ∀ X, X < 2 ^ k → sn (kept + (2 ^ k - 1 - X)) = true → fb.1 ≤ xd_pc dr + xd_pc X) ∨
    ∃ X, xd_best (fun X => X < 2 ^ k ∧ sn (kept + (2 ^ k - 1 - X)) = true) X ∧ xd_pc dr + xd_pc X < fb.1 ∧ xd_dec sn k kept dr fb = (xd_pc dr + xd_pc X, dr + X)
  | 0, kept, dr, fb, _, _, _, hs => by
    have h0 : xd_pc 0 = 0 := by decide +kernel
    by_cases h : fb.1 ≤ xd_pc dr
    · exact Or.inl ⟨if_pos h, fun X hX _ => by omega⟩
    · refine Or.inr ⟨0, ⟨⟨by decide, by simpa using hs⟩, fun Y hY => ?_⟩, by omega, ?_⟩
      · have : Y = 0 := by have := hY.1; omega
        subst this
        exact Or.inr ⟨rfl, Nat.le_refl _⟩
      · rw [h0, Nat.add_zero, Nat.add_zero]
        exact if_neg h
  | k + 1, kept, dr, fb, hk, hkp, hdr, hs => by
    have hp2 : 2 ^ (k + 1) = 2 ^ k + 2 ^ k := by rw [Nat.pow_succ]; omega
    have hpos : 0 < 2 ^ k := Nat.two_pow_pos k
    have hkp' : kept % 2 ^ k = 0 := by
      obtain ⟨q, hq⟩ := Nat.dvd_of_mod_eq_zero hkp
      rw [hq, Nat.pow_succ, Nat.mul_assoc, Nat.mul_mod_right]
    have hdr' : dr % 2 ^ k = 0 := by
      obtain ⟨q, hq⟩ := Nat.dvd_of_mod_eq_zero hdr
      rw [hq, Nat.pow_succ, Nat.mul_assoc, Nat.mul_mod_right]
    have hkp2 : (kept + 2 ^ k) % 2 ^ k = 0 := by rw [Nat.add_mod_right]; exact hkp'
    have hdr2 : (dr + 2 ^ k) % 2 ^ k = 0 := by rw [Nat.add_mod_right]; exact hdr'
    have hlt : 2 ^ k < 2 ^ (k + 1) := by omega
    have hpd : xd_pc (dr + 2 ^ k) = xd_pc dr + 1 := by rw [xd_pc_add hdr hlt, xd_pc_pow k (by omega)]
    have hpx : ∀ X, X < 2 ^ k → xd_pc (2 ^ k + X) = 1 + xd_pc X := fun X hX => by
      rw [xd_pc_add (k := k) (by rw [Nat.mod_self]) hX, xd_pc_pow k (by omega)]
    have hlo : ∀ X, X < 2 ^ k → kept + (2 ^ (k + 1) - 1 - X) = (kept + 2 ^ k) + (2 ^ k - 1 - X) := fun X hX => by omega
    have hhi : ∀ X, X < 2 ^ k → kept + (2 ^ (k + 1) - 1 - (2 ^ k + X)) = kept + (2 ^ k - 1 - X) := fun X hX => by omega
    by_cases h : fb.1 ≤ xd_pc dr
    · exact Or.inl ⟨if_pos h, fun X hX _ => by omega⟩
    have hun : xd_dec sn (k + 1) kept dr fb = xd_dec sn k kept (dr + 2 ^ k) (if sn (kept + 2 ^ k) = true then xd_dec sn k (kept + 2 ^ k) dr fb else fb) := if_neg h
    rw [hun]
    -- what the first half gives
    have first : ((if sn (kept + 2 ^ k) = true then xd_dec sn k (kept + 2 ^ k) dr fb else fb) = fb ∧ ∀ X, X < 2 ^ k → sn ((kept + 2 ^ k) + (2 ^ k - 1 - X)) = true → fb.1 ≤ xd_pc dr + xd_pc X) ∨
        ∃ X, xd_best (fun X => X < 2 ^ k ∧ sn ((kept + 2 ^ k) + (2 ^ k - 1 - X)) = true) X ∧ xd_pc dr + xd_pc X < fb.1 ∧ (if sn (kept + 2 ^ k) = true then xd_dec sn k (kept + 2 ^ k) dr fb else fb) = (xd_pc dr + xd_pc X, dr + X) := by
      by_cases hsk : sn (kept + 2 ^ k) = true
      · rw [if_pos hsk]
        exact xd_spec hmono k (kept + 2 ^ k) dr fb (by omega) hkp2 hdr' hsk
      · rw [if_neg hsk]
        exact Or.inl ⟨rfl, fun X hX hX2 => absurd (hmono k _ _ hkp2 (by omega) hX2) hsk⟩
    rcases first with ⟨e1, h1⟩ | ⟨X1, hb1, hl1, e1⟩
    · rw [e1]
      rcases xd_spec hmono k kept (dr + 2 ^ k) fb (by omega) hkp' hdr2 hs with ⟨e2, h2⟩ | ⟨X2, hb2, hl2, e2⟩
      · refine Or.inl ⟨e2, fun X hX hX2 => ?_⟩
        rcases Nat.lt_or_ge X (2 ^ k) with hc | hc
        · exact h1 X hc (by rw [← hlo X hc]; exact hX2)
        · obtain ⟨Y, rfl⟩ : ∃ Y, X = 2 ^ k + Y := ⟨X - 2 ^ k, by omega⟩
          have hY : Y < 2 ^ k := by omega
          have := h2 Y hY (by rw [← hhi Y hY]; exact hX2)
          rw [hpx Y hY]
          omega
      · refine Or.inr ⟨2 ^ k + X2, ⟨⟨by have := hb2.1.1; omega, ?_⟩, fun Y hY => ?_⟩, ?_, ?_⟩
        · show sn (kept + (2 ^ (k + 1) - 1 - (2 ^ k + X2))) = true
          rw [hhi X2 hb2.1.1]
          exact hb2.1.2
        · rw [hpx X2 hb2.1.1]
          rcases Nat.lt_or_ge Y (2 ^ k) with hc | hc
          · have := h1 Y hc (by rw [← hlo Y hc]; exact hY.2)
            omega
          · obtain ⟨Z, rfl⟩ : ∃ Z, Y = 2 ^ k + Z := ⟨Y - 2 ^ k, by omega⟩
            have hZ : Z < 2 ^ k := by have := hY.1; omega
            have := hb2.2 Z ⟨hZ, by rw [← hhi Z hZ]; exact hY.2⟩
            rw [hpx Z hZ]
            omega
        · rw [hpx X2 hb2.1.1]; omega
        · rw [e2, hpx X2 hb2.1.1]
          exact Prod.ext (by show xd_pc (dr + 2 ^ k) + xd_pc X2 = xd_pc dr + (1 + xd_pc X2); omega) (by show dr + 2 ^ k + X2 = dr + (2 ^ k + X2); omega)
    · rw [e1]
      rcases xd_spec hmono k kept (dr + 2 ^ k) (xd_pc dr + xd_pc X1, dr + X1) (by omega) hkp' hdr2 hs with ⟨e2, h2⟩ | ⟨X2, hb2, hl2, e2⟩
      · refine Or.inr ⟨X1, ⟨⟨by have := hb1.1.1; omega, ?_⟩, fun Y hY => ?_⟩, hl1, e2⟩
        · show sn (kept + (2 ^ (k + 1) - 1 - X1)) = true
          rw [hlo X1 hb1.1.1]
          exact hb1.1.2
        · rcases Nat.lt_or_ge Y (2 ^ k) with hc | hc
          · exact hb1.2 Y ⟨hc, by rw [← hlo Y hc]; exact hY.2⟩
          · obtain ⟨Z, rfl⟩ : ∃ Z, Y = 2 ^ k + Z := ⟨Y - 2 ^ k, by omega⟩
            have hZ : Z < 2 ^ k := by have := hY.1; omega
            have h3 : xd_pc dr + xd_pc X1 ≤ xd_pc (dr + 2 ^ k) + xd_pc Z := h2 Z hZ (by rw [← hhi Z hZ]; exact hY.2)
            have h4 := hb1.1.1
            rw [hpx Z hZ]
            omega
      · have hl2 : xd_pc (dr + 2 ^ k) + xd_pc X2 < xd_pc dr + xd_pc X1 := hl2
        refine Or.inr ⟨2 ^ k + X2, ⟨⟨by have := hb2.1.1; omega, ?_⟩, fun Y hY => ?_⟩, ?_, ?_⟩
        · show sn (kept + (2 ^ (k + 1) - 1 - (2 ^ k + X2))) = true
          rw [hhi X2 hb2.1.1]
          exact hb2.1.2
        · rw [hpx X2 hb2.1.1]
          rcases Nat.lt_or_ge Y (2 ^ k) with hc | hc
          · have := hb1.2 Y ⟨hc, by rw [← hlo Y hc]; exact hY.2⟩
            omega
          · obtain ⟨Z, rfl⟩ : ∃ Z, Y = 2 ^ k + Z := ⟨Y - 2 ^ k, by omega⟩
            have hZ : Z < 2 ^ k := by have := hY.1; omega
            have := hb2.2 Z ⟨hZ, by rw [← hhi Z hZ]; exact hY.2⟩
            rw [hpx Z hZ]
            omega
        · rw [hpx X2 hb2.1.1]; omega
        · rw [e2, hpx X2 hb2.1.1]
          exact Prod.ext (by show xd_pc (dr + 2 ^ k) + xd_pc X2 = xd_pc dr + (1 + xd_pc X2); omega) (by show dr + 2 ^ k + X2 = dr + (2 ^ k + X2); omega)
/-- the reference's search: how many from below, then by the number -/
theorem xd_whole {sn : Nat → Bool} (hmono : ∀ k a b, a % 2 ^ k = 0 → b < 2 ^ k → sn (a + b) = true → sn a = true) (h0 : sn 0 = true) {d X : Nat} (hd : d < 13) (hX : xd_best (fun X => X < 2 ^ d ∧ sn (2 ^ d - 1 - X) = true) X) :
    xd_dec sn d 0 0 (d + 1, 0) = (xd_pc X, X) := by
  have e0 : xd_pc 0 = 0 := by decide +kernel
  rcases xd_spec hmono d 0 0 (d + 1, 0) hd (Nat.zero_mod _) (Nat.zero_mod _) h0 with ⟨-, h⟩ | ⟨Y, hY, -, e⟩
  · have h1 : d + 1 ≤ xd_pc 0 + xd_pc (2 ^ d - 1) := h (2 ^ d - 1) (by have := Nat.two_pow_pos d; omega) (by simpa using h0)
    rw [e0, xd_pc_all d hd] at h1
    omega
  · have hY' : xd_best (fun X => X < 2 ^ d ∧ sn (2 ^ d - 1 - X) = true) Y := by simpa using hY
    rw [xd_best_eq hX hY', e, e0, Nat.zero_add, Nat.zero_add]
