/-! counting bits; the search for the days to leave out -/
def xk_b1 (x : Int32) : Int32 := x - ((x.toUInt32 >>> ((nI 1).toUInt32 &&& Int32.toUInt32 31)).toInt32 &&& nI 1431655765)
def xk_b2 (x : Int32) : Int32 := (x &&& nI 858993459) + ((x.toUInt32 >>> ((nI 2).toUInt32 &&& Int32.toUInt32 31)).toInt32 &&& nI 858993459)
def xk_b3 (x : Int32) : Int32 := (x + (x.toUInt32 >>> ((nI 4).toUInt32 &&& Int32.toUInt32 31)).toInt32) &&& nI 252645135
def xk_b4 (x : Int32) : Int32 := x + (x.toUInt32 >>> ((nI 8).toUInt32 &&& Int32.toUInt32 31)).toInt32
def xk_b5 (x : Int32) : Int32 := x + (x.toUInt32 >>> ((nI 16).toUInt32 &&& Int32.toUInt32 31)).toInt32
def xk_bc (x : Int32) : Int32 := xk_b5 (xk_b4 (xk_b3 (xk_b2 (xk_b1 x)))) &&& nI 63
theorem xk_bc_pc0 : ∀ q, q < 64 → ∀ r, r < 64 → xk_bc (nI (64 * q + r)) = nI (xd_pc (64 * q + r)) := by decide +kernel
theorem xk_bc_pc (a : Nat) (h : a < 4096) : xk_bc (nI a) = nI (xd_pc a) := by
  have h1 := xk_bc_pc0 (a / 64) (by omega) (a % 64) (by omega)
  rwa [show 64 * (a / 64) + a % 64 = a by omega] at h1
theorem xd_dec_le (sn : Nat → Bool) : ∀ (k kp dr : Nat) (fb : Nat × Nat), (xd_dec sn k kp dr fb).1 ≤ fb.1
  | 0, kp, dr, fb => by
    show (if fb.1 ≤ xd_pc dr then fb else (xd_pc dr, dr)).1 ≤ fb.1
    split
    · exact Nat.le_refl _
    · show xd_pc dr ≤ fb.1
      omega
  | k + 1, kp, dr, fb => by
    show (if fb.1 ≤ xd_pc dr then fb else xd_dec sn k kp (dr + 2 ^ k) (if sn (kp + 2 ^ k) = true then xd_dec sn k (kp + 2 ^ k) dr fb else fb)).1 ≤ fb.1
    split
    · exact Nat.le_refl _
    · refine Nat.le_trans (xd_dec_le sn k _ _ _) ?_
      split
      · exact xd_dec_le sn k _ _ _
      · exact Nat.le_refl _
theorem xd_or {k a : Nat} (hk : k < 12) (ha : a % 2 ^ (k + 1) = 0) (ha2 : a < 4096) : nI a ||| xf_bi (nI k) = nI (a + 2 ^ k) := by
  have hlt : 2 ^ k < 2 ^ (k + 1) := by rw [Nat.pow_succ]; have := Nat.two_pow_pos k; omega
  have hp : 2 ^ k < 4096 := Nat.lt_of_lt_of_le (Nat.pow_lt_pow_right (by decide) hk) (by decide)
  refine b_ext (fun i hi => ?_)
  rw [b_or, xf_bt_bi (by omega)]
  show ((BitVec.ofNat 32 a).getLsbD i || decide (i = k)) = (BitVec.ofNat 32 (a + 2 ^ k)).getLsbD i
  rw [BitVec.getLsbD_ofNat, BitVec.getLsbD_ofNat, xd_tb_add ha hlt, decide_eq_true hi, Bool.true_and, Bool.true_and, Nat.testBit_two_pow]
  congr 1
  exact decide_eq_decide.mpr ⟨Eq.symm, Eq.symm⟩
theorem xd_room {k a : Nat} (hk : k < 12) (ha : a % 2 ^ (k + 1) = 0) (ha2 : a < 4096) : a + 2 ^ k < 4096 := by
  obtain ⟨q, rfl⟩ := Nat.dvd_of_mod_eq_zero ha
  have e : (4096 : Nat) = 2 ^ (k + 1) * 2 ^ (11 - k) := by rw [← Nat.pow_add, show k + 1 + (11 - k) = 12 by omega]
  have hq : q < 2 ^ (11 - k) := by
    rw [e] at ha2
    exact Nat.lt_of_mul_lt_mul_left ha2
  have h1 : 2 ^ (k + 1) * (q + 1) ≤ 2 ^ (k + 1) * 2 ^ (11 - k) := Nat.mul_le_mul_left _ hq
  rw [← e, Nat.mul_add, Nat.mul_one] at h1
  have h2 : 2 ^ k < 2 ^ (k + 1) := by rw [Nat.pow_succ]; have := Nat.two_pow_pos k; omega
  omega
theorem xd_down {k a : Nat} (ha : a % 2 ^ (k + 1) = 0) : a % 2 ^ k = 0 := by
  obtain ⟨q, rfl⟩ := Nat.dvd_of_mod_eq_zero ha
  rw [Nat.pow_succ, Nat.mul_assoc, Nat.mul_mod_right]
theorem xd_up {k a : Nat} (ha : a % 2 ^ (k + 1) = 0) : (a + 2 ^ k) % 2 ^ k = 0 := by
  rw [Nat.add_mod_right]
  exact xd_down ha
/-- the rows of chains below 13 don't depend on what was there before -/
theorem xk_l1_c : ∀ (n v : Nat) (C E : Nat → Int32), v + n ≤ 13 → (∀ s, s < 13 → C s = E s) → ∀ s, s < 13 → xk_l1 n v C s = xk_l1 n v E s
  | 0, _, _, _, _, h => h
  | n + 1, v, C, E, hv, h => by
    intro s hs
    show xk_l1 n (v + 1) (xk_l2 v 13 0 C) s = xk_l1 n (v + 1) (xk_l2 v 13 0 E) s
    refine xk_l1_c n (v + 1) _ _ (by omega) (fun t ht => ?_) s hs
    have hc : 0 ≤ t ∧ t < 0 + 13 := ⟨Nat.zero_le t, by omega⟩
    rw [xk_l2_at, xk_l2_at, if_pos hc, if_pos hc, h t ht, h v (by omega)]
theorem xk_link_c {G C E : Nat → Int32} {x : Int32} {s : Nat} (hs : s < 13) : xk_link G x C s = xk_link G x E s := by
  refine xk_l1_c 13 0 _ _ (by omega) (fun t ht => ?_) s hs
  have hc : 0 ≤ t ∧ t < 0 + 13 := ⟨Nat.zero_le t, by omega⟩
  rw [xf_fill_at, xf_fill_at, if_pos hc, if_pos hc]
theorem xf_ex_c {P R : Nat → Bool} : ∀ {n i : Nat}, (∀ j, i ≤ j → j < i + n → P j = R j) → xf_ex P n i = xf_ex R n i
  | 0, _, _ => rfl
  | n + 1, i, h => by
    show (if P i = true then true else xf_ex P n (i + 1)) = (if R i = true then true else xf_ex R n (i + 1))
    rw [h i (Nat.le_refl i) (by omega), xf_ex_c (fun j h1 h2 => h j (by omega) (by omega))]
/-- whether the days of the set x are sensible -/
def xk_sn (G Bt : Nat → Int32) (x : Int32) : Bool := !xk_bad (xk_link G x (fun _ => nI 0)) Bt
theorem xk_sn_c {G Bt C : Nat → Int32} {x : Int32} : (!xk_bad (xk_link G x C) Bt) = xk_sn G Bt x := by
  have e : xk_bad (xk_link G x C) Bt = xk_bad (xk_link G x (fun _ => nI 0)) Bt := by
    unfold xk_bad
    refine xf_ex_c (fun s _ hs => ?_)
    show xf_ex (fun t => xf_hs (xk_link G x C s) (nI t) && xf_hs (Bt t) (nI s)) 13 0 = xf_ex (fun t => xf_hs (xk_link G x (fun _ => nI 0) s) (nI t) && xf_hs (Bt t) (nI s)) 13 0
    rw [xk_link_c (E := fun _ => nI 0) (show s < 13 by omega)]
  unfold xk_sn
  rw [e]
