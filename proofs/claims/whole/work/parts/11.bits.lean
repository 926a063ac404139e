/-! bits (the family bt begins in laws/BITS.to-paste); a set of days as an int -/
def bt (x : Int32) (i : Nat) : Bool := x.toBitVec.getLsbD i
theorem b_ext {x y : Int32} (h : ∀ i, i < 32 → bt x i = bt y i) : x = y := Int32.toBitVec_inj.mp (BitVec.eq_of_getLsbD_eq (fun i hi => h i hi))
theorem b_or (x y : Int32) (i : Nat) : bt (x ||| y) i = (bt x i || bt y i) := by unfold bt; rw [Int32.toBitVec_or, BitVec.getLsbD_or]
theorem b_and (x y : Int32) (i : Nat) : bt (x &&& y) i = (bt x i && bt y i) := by unfold bt; rw [Int32.toBitVec_and, BitVec.getLsbD_and]
theorem b_xor (x y : Int32) (i : Nat) : bt (x ^^^ y) i = (bt x i ^^ bt y i) := by unfold bt; rw [Int32.toBitVec_xor, BitVec.getLsbD_xor]
theorem b_big {x : Int32} {i : Nat} (h : 32 ≤ i) : bt x i = false := BitVec.getLsbD_of_ge _ _ h
theorem b_255 (i : Nat) : bt 255 i = decide (i < 8) := by
  rcases Nat.lt_or_ge i 32 with h | h
  · exact (by decide +kernel : ∀ i, i < 32 → bt 255 i = decide (i < 8)) i h
  · rw [b_big h, decide_eq_false (by omega)]
theorem b_65535 (i : Nat) : bt 65535 i = decide (i < 16) := by
  rcases Nat.lt_or_ge i 32 with h | h
  · exact (by decide +kernel : ∀ i, i < 32 → bt 65535 i = decide (i < 16)) i h
  · rw [b_big h, decide_eq_false (by omega)]
theorem b_m1 : ∀ i, i < 32 → bt (-1) i = true := by decide +kernel
theorem b_0 (i : Nat) : bt 0 i = false := BitVec.getLsbD_zero
theorem s_l : ∀ n, n < 32 → ((nI n &&& 31).toBitVec.smod 32).toNat = n := by decide +kernel
theorem s_u : ∀ n, n < 32 → (((nI n).toUInt32 &&& Int32.toUInt32 31).toBitVec % 32).toNat = n := by decide +kernel
theorem b_shl (n : Nat) (hn : n < 32) (x : Int32) {i : Nat} (hi : i < 32) : bt (x <<< (nI n &&& 31)) i = (decide (n ≤ i) && bt x (i - n)) := by
  unfold bt
  rw [Int32.toBitVec_shiftLeft]
  show (x.toBitVec <<< ((nI n &&& 31).toBitVec.smod 32).toNat).getLsbD i = _
  rw [s_l n hn, BitVec.getLsbD_shiftLeft]
  rcases Nat.lt_or_ge i n with h | h
  · simp [h, Nat.not_le.mpr h]
  · simp [hi, h, Nat.not_lt.mpr h]
theorem b_ushr (n : Nat) (hn : n < 32) (x : Int32) (i : Nat) : bt ((x.toUInt32 >>> ((nI n).toUInt32 &&& Int32.toUInt32 31)).toInt32) i = bt x (n + i) := by
  show (x.toUInt32 >>> ((nI n).toUInt32 &&& Int32.toUInt32 31)).toBitVec.getLsbD i = x.toUInt32.toBitVec.getLsbD (n + i)
  rw [UInt32.toBitVec_shiftRight]
  show (x.toUInt32.toBitVec >>> (((nI n).toUInt32 &&& Int32.toUInt32 31).toBitVec % 32).toNat).getLsbD i = _
  rw [s_u n hn, BitVec.getLsbD_ushiftRight]
theorem b_sshr (n : Nat) (hn : n < 32) (x : Int32) {i : Nat} (hi : i < 32) : bt (x >>> (nI n &&& 31)) i = if n + i < 32 then bt x (n + i) else bt x 31 := by
  unfold bt
  rw [Int32.toBitVec_shiftRight]
  show (x.toBitVec.sshiftRight ((nI n &&& 31).toBitVec.smod 32).toNat).getLsbD i = _
  rw [s_l n hn, BitVec.getLsbD_sshiftRight, BitVec.msb_eq_getLsbD_last]
  simp [hi]
theorem b_shl8 (x : Int32) {i : Nat} (hi : i < 32) : bt (x <<< ((8 : Int32) &&& 31)) i = (decide (8 ≤ i) && bt x (i - 8)) := b_shl 8 (by omega) x hi
theorem b_shl16 (x : Int32) {i : Nat} (hi : i < 32) : bt (x <<< ((16 : Int32) &&& 31)) i = (decide (16 ≤ i) && bt x (i - 16)) := b_shl 16 (by omega) x hi
theorem b_shl24 (x : Int32) {i : Nat} (hi : i < 32) : bt (x <<< ((24 : Int32) &&& 31)) i = (decide (24 ≤ i) && bt x (i - 24)) := b_shl 24 (by omega) x hi
theorem b_sshr8 (x : Int32) {i : Nat} (hi : i < 32) : bt (x >>> ((8 : Int32) &&& 31)) i = if 8 + i < 32 then bt x (8 + i) else bt x 31 := b_sshr 8 (by omega) x hi
/-- the set of one day; whether a day is in a set -/
def xf_bi (d : Int32) : Int32 := nI 1 <<< (d &&& 31)
def xf_hs (x d : Int32) : Bool := !decide (x &&& xf_bi d = 0)
def xf_bI (b : Bool) : Int32 := if b = true then nI 1 else nI 0
theorem xf_bt_bi0 : ∀ k, k < 32 → ∀ i, i < 32 → bt (xf_bi (nI k)) i = decide (i = k) := by decide +kernel
theorem xf_bt_bi {k i : Nat} (hk : k < 32) : bt (xf_bi (nI k)) i = decide (i = k) := by
  rcases Nat.lt_or_ge i 32 with h | h
  · exact xf_bt_bi0 k hk i h
  · rw [b_big h, decide_eq_false (by omega)]
theorem xf_and_bi {x : Int32} {k : Nat} (hk : k < 32) : x &&& xf_bi (nI k) = 0 ↔ bt x k = false := by
  constructor
  · intro h
    have h1 : bt (x &&& xf_bi (nI k)) k = bt 0 k := by rw [h]
    rw [b_and, xf_bt_bi hk, b_0, decide_eq_true rfl, Bool.and_true] at h1
    exact h1
  · intro h
    refine b_ext (fun i hi => ?_)
    rw [b_and, xf_bt_bi hk, b_0]
    by_cases hik : i = k
    · subst hik
      rw [h]; rfl
    · rw [decide_eq_false hik, Bool.and_false]
theorem xf_hs_bt {x : Int32} {k : Nat} (hk : k < 32) : xf_hs x (nI k) = bt x k := by
  unfold xf_hs
  cases h : bt x k
  · rw [decide_eq_true ((xf_and_bi hk).mpr h)]; rfl
  · rw [decide_eq_false (fun z => by rw [(xf_and_bi hk).mp z] at h; cases h)]; rfl
theorem xf_and0 {x y : Int32} : x &&& y = 0 ↔ ∀ k, k < 32 → ¬ (bt x k = true ∧ bt y k = true) := by
  constructor
  · intro h k _ h2
    have h1 : bt (x &&& y) k = bt 0 k := by rw [h]
    rw [b_and, b_0, h2.1, h2.2] at h1
    cases h1
  · intro h
    refine b_ext (fun i hi => ?_)
    rw [b_and, b_0]
    have h1 := h i hi
    cases hx : bt x i
    · rfl
    · cases hy : bt y i
      · rfl
      · exact absurd ⟨hx, hy⟩ h1
theorem xf_ev0 : ∀ k, k < 13 → ∀ i, i < 32 → bt (xf_bi (nI k) - nI 1) i = decide (i < k) := by decide +kernel
theorem xf_ev {k i : Nat} (hk : k < 13) : bt (xf_bi (nI k) - nI 1) i = decide (i < k) := by
  rcases Nat.lt_or_ge i 32 with h | h
  · exact xf_ev0 k hk i h
  · rw [b_big h, decide_eq_false (by omega)]
theorem xf_bI_t : xf_bI true = nI 1 := rfl
theorem xf_bI_f : xf_bI false = nI 0 := rfl
theorem xf_bI_0 {b : Bool} (h : xf_bI b = 0) : b = false := by
  cases b
  · rfl
  · exact absurd h (by decide)
theorem xf_bI_n {b : Bool} (h : ¬ xf_bI b = 0) : b = true := by
  cases b
  · exact absurd rfl h
  · rfl
theorem xf_uu (f : Nat → Int32) (k : Nat) (x y : Int32) : upd (upd f k x) k y = upd f k y := by
  funext j
  by_cases h : j = k
  · subst h; rw [pk_us, pk_us]
  · rw [pk_un h, pk_un h, pk_un h]
/-- some i, i + 1 .. i + n - 1 has P; the first such as an int, or -1 -/
def xf_ex (P : Nat → Bool) : Nat → Nat → Bool
  | 0, _ => false
  | n + 1, i => if P i = true then true else xf_ex P n (i + 1)
def xf_fst (P : Nat → Bool) : Nat → Nat → Int32
  | 0, _ => -1
  | n + 1, i => if P i = true then nI i else xf_fst P n (i + 1)
theorem xf_ex_iff {P : Nat → Bool} : ∀ {n i : Nat}, xf_ex P n i = true ↔ ∃ j, i ≤ j ∧ j < i + n ∧ P j = true
  | 0, i => ⟨fun h => (by cases h), fun ⟨j, h1, h2, _⟩ => (by omega)⟩
  | n + 1, i => by
    show (if P i = true then true else xf_ex P n (i + 1)) = true ↔ _
    by_cases h : P i = true
    · rw [if_pos h]
      exact ⟨fun _ => ⟨i, Nat.le_refl i, by omega, h⟩, fun _ => rfl⟩
    · rw [if_neg h, xf_ex_iff]
      constructor
      · rintro ⟨j, h1, h2, h3⟩
        exact ⟨j, by omega, by omega, h3⟩
      · rintro ⟨j, h1, h2, h3⟩
        have hj : j ≠ i := fun z => h (z ▸ h3)
        exact ⟨j, by omega, by omega, h3⟩
theorem xf_fst_some {P : Nat → Bool} : ∀ {n i j : Nat}, i ≤ j → j < i + n → P j = true → ∃ k, i ≤ k ∧ k ≤ j ∧ P k = true ∧ xf_fst P n i = nI k ∧ ∀ q, i ≤ q → q < k → P q = false
  | 0, i, j, h1, h2, _ => by omega
  | n + 1, i, j, h1, h2, h3 => by
    by_cases h : P i = true
    · exact ⟨i, Nat.le_refl i, h1, h, if_pos h, fun q h4 h5 => by omega⟩
    · have hj : j ≠ i := fun z => h (z ▸ h3)
      obtain ⟨k, k1, k2, k3, k4, k5⟩ := xf_fst_some (n := n) (i := i + 1) (j := j) (by omega) (by omega) h3
      refine ⟨k, by omega, k2, k3, (if_neg h).trans k4, fun q h4 h5 => ?_⟩
      by_cases hq : q = i
      · subst hq
        exact Bool.eq_false_iff.mpr h
      · exact k5 q (by omega) h5
theorem xf_fst_none {P : Nat → Bool} : ∀ {n i : Nat}, (∀ j, i ≤ j → j < i + n → P j = false) → xf_fst P n i = -1
  | 0, _, _ => rfl
  | n + 1, i, h => by
    show (if P i = true then nI i else xf_fst P n (i + 1)) = -1
    rw [if_neg (by rw [h i (Nat.le_refl i) (by omega)]; decide)]
    exact xf_fst_none (fun j h1 h2 => h j (by omega) (by omega))
