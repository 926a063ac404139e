/-! the reference: fractions, days to leave out, places -/
theorem xm_in1 {i : Int32} {n : Nat} (hn : n ≤ 13) : xo_rg i (-1) (nI n - nI 1) = (decide (i = -1) || (decide (¬ i < 0) && decide (i < nI n))) := by
  have h1 : (nI n).toInt = n := nI_toInt (by omega)
  have h2 : (nI n - nI 1).toInt = (n : Int) - 1 := by
    rcases n with _ | k
    · rfl
    · rw [show nI (k + 1) - nI 1 = nI k from nI_pred k, nI_toInt (by omega)]; omega
  have h3 : (-1 : Int32).toInt = -1 := rfl
  have h4 : (0 : Int32).toInt = 0 := rfl
  have h5 : i = -1 ↔ i.toInt = -1 := ⟨fun h => by rw [h]; rfl, fun h => Int32.toInt_inj.mp (h.trans h3.symm)⟩
  unfold xo_rg
  rw [Bool.eq_iff_iff, Bool.or_eq_true, Bool.and_eq_true, Bool.and_eq_true, decide_eq_true_eq, decide_eq_true_eq, decide_eq_true_eq, decide_eq_true_eq, decide_eq_true_eq, h5, Int32.lt_iff_toInt_lt, Int32.lt_iff_toInt_lt, Int32.lt_iff_toInt_lt, Int32.le_iff_toInt_le, h1, h2, h3, h4]
  omega
theorem xm_in1_m {i : Int32} {n : Nat} (hn : n ≤ 13) (h : i = -1) : xo_rg i (-1) (nI n - nI 1) = true := by rw [xm_in1 hn, decide_eq_true h]; rfl
theorem xm_in1_k {n j : Nat} (hn : n ≤ 13) (h : j < n) : xo_rg (nI j) (-1) (nI n - nI 1) = true := by rw [xm_in1 hn, decide_eq_true (nI_pos (by omega : j < 2 ^ 31)), decide_eq_true (nI_lt h (by omega))]; simp
theorem xo_cir_n {i : Int32} {n : Nat} (hn : n ≤ 13) (h0 : n ≠ 0) (h : xo_rg i (-1) (nI n - nI 1) = false) : xo_cir (nI n) i = 2 := by
  rw [xm_in1 hn, Bool.or_eq_false_iff, decide_eq_false_iff_not, Bool.and_eq_false_iff, decide_eq_false_iff_not, decide_eq_false_iff_not] at h
  exact xo_cir_2 (nI_ne0 (by omega) (by omega)) h.1 (h.2.imp Decidable.of_not_not id)
theorem xo_cir_y {i : Int32} {n : Nat} (hn : n ≤ 13) (h0 : n ≠ 0) (h : xo_rg i (-1) (nI n - nI 1) = true) : xo_cir (nI n) i = 0 := by
  rw [xm_in1 hn, Bool.or_eq_true] at h
  by_cases h1 : i = -1
  · exact xo_cir_m (nI_ne0 (by omega) (by omega)) h1
  · have h2 := h.resolve_left (by rw [decide_eq_false h1]; decide)
    rw [Bool.and_eq_true, decide_eq_true_eq, decide_eq_true_eq] at h2
    exact xo_cir_0 (nI_ne0 (by omega) (by omega)) h1 h2.1 h2.2
theorem xo_drp_n {i : Int32} {n : Nat} (hn : n ≤ 13) (h : xo_rg i (-1) (nI n - nI 1) = false) : xo_drp (nI n) i = 1 := by
  rw [xm_in1 hn, Bool.or_eq_false_iff, decide_eq_false_iff_not, Bool.and_eq_false_iff, decide_eq_false_iff_not, decide_eq_false_iff_not] at h
  exact xo_drp_1 h.1 (h.2.imp Decidable.of_not_not id)
theorem xo_drp_y {i : Int32} {n : Nat} (hn : n ≤ 13) (h : xo_rg i (-1) (nI n - nI 1) = true) : xo_drp (nI n) i = 0 := by
  rw [xm_in1 hn, Bool.or_eq_true] at h
  by_cases h1 : i = -1
  · exact xo_drp_m h1
  · have h2 := h.resolve_left (by rw [decide_eq_false h1]; decide)
    rw [Bool.and_eq_true, decide_eq_true_eq, decide_eq_true_eq] at h2
    exact xo_drp_0 h1 h2.1 h2.2
theorem xm_lc {li : Nat → Int32} {q : Nat → Nat} {p d : Nat} (h : ∀ k, k ≤ p → li k = nI (q k - 1) ∧ 1 ≤ q k ∧ q k ≤ d) : ∀ i, i ≤ p + 1 → upd li (p + 1) (-1) i = nI (va_up q (p + 1) 0 i) - nI 1 := by
  intro i hi
  by_cases z : i = p + 1
  · subst z
    rw [pk_us, va_up_self]
    rfl
  · rw [pk_un z, va_up_ne _ _ z]
    exact xm_lb h i (by omega)
theorem xm_bt {b i : Nat} (hi : i < 32) : bt (nI b) i = b.testBit i := by
  unfold bt
  show (BitVec.ofNat 32 b).getLsbD i = _
  rw [BitVec.getLsbD_ofNat, decide_eq_true hi, Bool.true_and]
theorem xm_tb {b k : Nat} (hk : k < 32) : (nI b >>> (nI k &&& 31)) &&& nI 1 = 0 ↔ b.testBit k = false := by
  have e : xf_bi (nI 0) = nI 1 := by decide
  rw [← e, xf_and_bi (by omega), b_sshr k hk _ (by omega), if_pos (by omega), xm_bt (by omega)]
  rfl
/-- which steps count at a fraction -/
def xm_fa (c : Nat → Nat → Int32) (up dn : Int32) (s t : Nat) : Bool := !decide (s = t) && (!decide (c s s ≤ 0) && !decide (up.toInt64 * (c s s).toInt64 < (c s t).toInt64 * dn.toInt64))
theorem xm_fa_1 {c : Nat → Nat → Int32} {up dn : Int32} {s t : Nat} (h : s = t) : xm_fa c up dn s t = false := by unfold xm_fa; rw [decide_eq_true h]; rfl
theorem xm_fa_2 {c : Nat → Nat → Int32} {up dn : Int32} {s t : Nat} (h : c s s ≤ 0) : xm_fa c up dn s t = false := by unfold xm_fa; rw [decide_eq_true h]; simp
theorem xm_fa_3 {c : Nat → Nat → Int32} {up dn : Int32} {s t : Nat} (h : up.toInt64 * (c s s).toInt64 < (c s t).toInt64 * dn.toInt64) : xm_fa c up dn s t = false := by unfold xm_fa; rw [decide_eq_true h]; simp
theorem xm_fa_t {c : Nat → Nat → Int32} {up dn : Int32} {s t : Nat} (h1 : s ≠ t) (h2 : ¬ c s s ≤ 0) (h : ¬ up.toInt64 * (c s s).toInt64 < (c s t).toInt64 * dn.toInt64) : xm_fa c up dn s t = true := by unfold xm_fa; rw [decide_eq_false h1, decide_eq_false h2, decide_eq_false h]; rfl
noncomputable def xm_fb (c : Nat → Nat → Int32) (m : Nat) (up dn : Int32) : Bool := xm_nb m (fun _ => true) (fun j => xm_fa c up dn (j / 13) (j % 13)) (fun j => xm_fa c up dn (j / 13) (j % 13))
theorem xm_L_at {m : Nat} {lf : Nat → Bool} {s : Nat} (hs : s < m) : xm_L m lf s = true := by unfold xm_L; rw [xm_f1_at, if_pos (by omega)]
theorem xm_fb_eq {c : Nat → Nat → Int32} {m : Nat} {up dn : Int32} (hm : m ≤ 13) {lf gd bd ch : Nat → Bool} {st : Nat → Int32} : xm_nf m (xm_L m lf) (xm_fr (xm_fa c up dn) m m 0 bd) (xm_K m (xm_L m lf) (xm_fr (xm_fa c up dn) m m 0 gd) ch st).1 = xm_fb c m up dn := by
  rw [xm_nf_nb hm]
  have e : ∀ (b : Nat → Bool) s t, s < m → t < m → xm_fr (xm_fa c up dn) m m 0 b (13 * s + t) = (fun j => xm_fa c up dn (j / 13) (j % 13)) (13 * s + t) := fun b s t hs ht => by
    rw [xm_fr_at hm m 0 _ s t ht (Nat.zero_le s) (by omega)]
    show _ = xm_fa c up dn ((13 * s + t) / 13) ((13 * s + t) % 13)
    rw [show (13 * s + t) / 13 = s by omega, show (13 * s + t) % 13 = t by omega]
  exact xm_nb_c (fun s hs => xm_L_at hs) (e gd) (e bd)
def xm_h1 (cn : Nat → Nat → Nat) (fb : Nat → Nat → Bool) (s : Nat) : Nat → Nat → Nat × Nat → Nat × Nat
  | 0, _, x => x
  | k + 1, t, x => xm_h1 cn fb s k (t + 1) (if s ≠ t ∧ cn s s ≠ 0 ∧ cn s t * x.2 < x.1 * cn s s ∧ fb (cn s t) (cn s s) = true then (cn s t, cn s s) else x)
def xm_h2 (cn : Nat → Nat → Nat) (fb : Nat → Nat → Bool) (m : Nat) : Nat → Nat → Nat × Nat → Nat × Nat
  | 0, _, x => x
  | n + 1, s, x => xm_h2 cn fb m n (s + 1) (xm_h1 cn fb s m 0 x)
theorem xm_h1_0 {cn : Nat → Nat → Nat} {fb : Nat → Nat → Bool} {s k t : Nat} {x : Nat × Nat} (h : ¬ (s ≠ t ∧ cn s s ≠ 0 ∧ cn s t * x.2 < x.1 * cn s s ∧ fb (cn s t) (cn s s) = true)) : xm_h1 cn fb s (k + 1) t x = xm_h1 cn fb s k (t + 1) x := by
  show xm_h1 cn fb s k (t + 1) _ = _
  rw [if_neg h]
theorem xm_h1_1 {cn : Nat → Nat → Nat} {fb : Nat → Nat → Bool} {s k t : Nat} {x : Nat × Nat} (h1 : s ≠ t) (h2 : cn s s ≠ 0) (h3 : cn s t * x.2 < x.1 * cn s s) (h4 : fb (cn s t) (cn s s) = true) : xm_h1 cn fb s (k + 1) t x = xm_h1 cn fb s k (t + 1) (cn s t, cn s s) := by
  show xm_h1 cn fb s k (t + 1) _ = _
  rw [if_pos ⟨h1, h2, h3, h4⟩]
/-- are these days enough to leave out, and just so many -/
noncomputable def xm_en (m : Nat) (gd bd : Nat → Bool) (bits many : Nat) : Bool := decide (xd_c (fun j => bits.testBit j) m = many) && !xm_nb m (fun k => !bits.testBit k) gd bd
theorem xm_en_eq {m : Nat} (hm : m ≤ 13) {gd bd lf ch : Nat → Bool} {st : Nat → Int32} {bits many : Nat} : (decide (xd_c (fun j => bits.testBit j) m = many) && !xm_nf m (xm_f1 (fun k => !bits.testBit k) m 0 lf) bd (xm_K m (xm_f1 (fun k => !bits.testBit k) m 0 lf) gd ch st).1) = xm_en m gd bd bits many := by
  unfold xm_en
  rw [xm_nf_nb hm, xm_nb_c (lf := xm_f1 (fun k => !bits.testBit k) m 0 lf) (lf2 := fun k => !bits.testBit k) (gd := gd) (gd2 := gd) (bd := bd) (bd2 := bd) (fun s hs => by rw [xm_f1_at, if_pos (by omega)]) (fun _ _ _ _ => rfl) (fun _ _ _ _ => rfl)]
theorem xd_c_s {p : Nat → Bool} {n : Nat} (h : p n = true) : xd_c p (n + 1) = xd_c p n + 1 := by
  show xd_c p n + (if p n = true then 1 else 0) = _
  rw [if_pos h]
theorem xd_c_z {p : Nat → Bool} {n : Nat} (h : p n = false) : xd_c p (n + 1) = xd_c p n := by
  show xd_c p n + (if p n = true then 1 else 0) = _
  rw [if_neg (by rw [h]; decide)]; rfl
/-- the days that fewest answers -/
def xm_fwp (m : Nat) (en : Nat → Nat → Bool) (X : Nat) : Prop := (∃ k, k < m ∧ en X k = true ∧ (∀ j, j < k → ∀ Y, Y < 2 ^ m → en Y j = false) ∧ ∀ Y, Y < X → en Y k = false) ∨ (X = 0 ∧ ∀ j, j < m → ∀ Y, Y < 2 ^ m → en Y j = false)
theorem xm_shl : ∀ k, k < 13 → nI 1 <<< (nI k &&& 31) = nI (2 ^ k) := by decide
def xm_fo (tb : Nat → Bool) (i : Int32) : Nat → Nat → Int32 → Int32
  | 0, _, f => f
  | n + 1, k, f => xm_fo tb i n (k + 1) (if tb k = true ∧ nI (xd_c tb k) = i then nI k else f)
theorem xm_fo_0 {tb : Nat → Bool} {i : Int32} {n k : Nat} {f : Int32} (h : ¬ (tb k = true ∧ nI (xd_c tb k) = i)) : xm_fo tb i (n + 1) k f = xm_fo tb i n (k + 1) f := by
  show xm_fo tb i n (k + 1) _ = _
  rw [if_neg h]
theorem xm_fo_1 {tb : Nat → Bool} {i : Int32} {n k : Nat} {f : Int32} (h : tb k = true) (h2 : nI (xd_c tb k) = i) : xm_fo tb i (n + 1) k f = xm_fo tb i n (k + 1) (nI k) := by
  show xm_fo tb i n (k + 1) _ = _
  rw [if_pos ⟨h, h2⟩]
/-- the place of the first, or the end -/
def xm_fi (P : Nat → Bool) : Nat → Nat → Nat
  | 0, i => i
  | n + 1, i => if P i = true then i else xm_fi P n (i + 1)
theorem xm_fi_t {P : Nat → Bool} {n i : Nat} (h : P i = true) : xm_fi P (n + 1) i = i := if_pos h
theorem xm_fi_f {P : Nat → Bool} {n i : Nat} (h : P i = false) : xm_fi P (n + 1) i = xm_fi P n (i + 1) := if_neg (by rw [h]; decide)
def xm_bst (m : Nat) (lf ch : Nat → Bool) (d : Nat) : Bool := !xf_ex (fun t => lf t && (ch (13 * t + d) && !ch (13 * d + t))) m 0
def xm_nx (m : Nat) (ch lf : Nat → Bool) : Nat := xm_fi (fun d => lf d && xm_bst m lf ch d) m 0
def xm_it (m : Nat) (ch lf : Nat → Bool) : Nat → Nat → Bool
  | 0 => lf
  | k + 1 => va_up (xm_it m ch lf k) (xm_nx m ch (xm_it m ch lf k)) false
