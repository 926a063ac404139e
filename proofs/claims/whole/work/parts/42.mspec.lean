/-! the reference: what its loops write -/
def xm_f1 (f : Nat → Bool) : Nat → Nat → (Nat → Bool) → Nat → Bool
  | 0, _, b => b
  | n + 1, t, b => xm_f1 f n (t + 1) (va_up b t (f t))
theorem xm_f1_s {f : Nat → Bool} {n t : Nat} {b : Nat → Bool} {v : Bool} (h : f t = v) : xm_f1 f (n + 1) t b = xm_f1 f n (t + 1) (va_up b t v) := by rw [← h]; rfl
theorem xm_f1_at {f : Nat → Bool} : ∀ (n t : Nat) (b : Nat → Bool) (j : Nat), xm_f1 f n t b j = if t ≤ j ∧ j < t + n then f j else b j
  | 0, t, b, j => by rw [if_neg (by omega)]; rfl
  | n + 1, t, b, j => by
    show xm_f1 f n (t + 1) (va_up b t (f t)) j = _
    rw [xm_f1_at n (t + 1)]
    by_cases h : j = t
    · subst h
      rw [if_neg (by omega), if_pos (by omega), va_up_self]
    · rw [va_up_ne _ _ h]
      by_cases h2 : t + 1 ≤ j ∧ j < t + 1 + n
      · rw [if_pos h2, if_pos (by omega)]
      · rw [if_neg h2, if_neg (by omega)]
def xm_f2 (f : Nat → Bool) (o : Nat) : Nat → Nat → (Nat → Bool) → Nat → Bool
  | 0, _, b => b
  | n + 1, t, b => xm_f2 f o n (t + 1) (va_up b (o + t) (f t))
theorem xm_f2_s {f : Nat → Bool} {o n t : Nat} {b : Nat → Bool} {v : Bool} (h : f t = v) : xm_f2 f o (n + 1) t b = xm_f2 f o n (t + 1) (va_up b (o + t) v) := by rw [← h]; rfl
theorem xm_f2_at {f : Nat → Bool} {o : Nat} : ∀ (n t : Nat) (b : Nat → Bool) (j : Nat), xm_f2 f o n t b j = if o + t ≤ j ∧ j < o + t + n then f (j - o) else b j
  | 0, t, b, j => by rw [if_neg (by omega)]; rfl
  | n + 1, t, b, j => by
    show xm_f2 f o n (t + 1) (va_up b (o + t) (f t)) j = _
    rw [xm_f2_at n (t + 1)]
    by_cases h : j = o + t
    · subst h
      rw [if_neg (by omega), if_pos (by omega), va_up_self, show o + t - o = t by omega]
    · rw [va_up_ne _ _ h]
      by_cases h2 : o + (t + 1) ≤ j ∧ j < o + (t + 1) + n
      · rw [if_pos h2, if_pos (by omega)]
      · rw [if_neg h2, if_neg (by omega)]
def xm_fr (f : Nat → Nat → Bool) (m : Nat) : Nat → Nat → (Nat → Bool) → Nat → Bool
  | 0, _, b => b
  | n + 1, s, b => xm_fr f m n (s + 1) (xm_f2 (f s) (13 * s) m 0 b)
theorem xm_fr_o {f : Nat → Nat → Bool} {m : Nat} (hm : m ≤ 13) : ∀ (n s : Nat) (b : Nat → Bool) (r t : Nat), t < 13 → ¬ (s ≤ r ∧ r < s + n) → xm_fr f m n s b (13 * r + t) = b (13 * r + t)
  | 0, s, b, r, t, _, _ => rfl
  | n + 1, s, b, r, t, ht, h => by
    show xm_fr f m n (s + 1) (xm_f2 (f s) (13 * s) m 0 b) (13 * r + t) = _
    rw [xm_fr_o hm n (s + 1) _ r t ht (by omega), xm_f2_at, if_neg (by omega)]
theorem xm_fr_at {f : Nat → Nat → Bool} {m : Nat} (hm : m ≤ 13) : ∀ (n s : Nat) (b : Nat → Bool) (r t : Nat), t < m → s ≤ r → r < s + n → xm_fr f m n s b (13 * r + t) = f r t
  | 0, s, b, r, t, _, h1, h2 => absurd h2 (by omega)
  | n + 1, s, b, r, t, ht, h1, h2 => by
    show xm_fr f m n (s + 1) (xm_f2 (f s) (13 * s) m 0 b) (13 * r + t) = _
    by_cases h : r = s
    · subst h
      rw [xm_fr_o hm n (r + 1) _ r t (by omega) (by omega), xm_f2_at, if_pos (by omega), show 13 * r + t - 13 * r = t by omega]
    · exact xm_fr_at hm n (s + 1) _ r t ht (by omega) (by omega)
theorem xf_f2_at {f : Nat → Int32} {o : Nat} : ∀ (n t : Nat) (b : Nat → Int32) (j : Nat), xf_f2 f o n t b j = if o + t ≤ j ∧ j < o + t + n then f (j - o) else b j
  | 0, t, b, j => by rw [if_neg (by omega)]; rfl
  | n + 1, t, b, j => by
    show xf_f2 f o n (t + 1) (upd b (o + t) (f t)) j = _
    rw [xf_f2_at n (t + 1)]
    by_cases h : j = o + t
    · subst h
      rw [if_neg (by omega), if_pos (by omega), pk_us, show o + t - o = t by omega]
    · rw [pk_un h]
      by_cases h2 : o + (t + 1) ≤ j ∧ j < o + (t + 1) + n
      · rw [if_pos h2, if_pos (by omega)]
      · rw [if_neg h2, if_neg (by omega)]
def xm_gr (f : Nat → Nat → Int32) (m : Nat) : Nat → Nat → (Nat → Int32) → Nat → Int32
  | 0, _, b => b
  | n + 1, s, b => xm_gr f m n (s + 1) (xf_f2 (f s) (13 * s) m 0 b)
theorem xm_gr_o {f : Nat → Nat → Int32} {m : Nat} (hm : m ≤ 13) : ∀ (n s : Nat) (b : Nat → Int32) (r t : Nat), t < 13 → ¬ (s ≤ r ∧ r < s + n) → xm_gr f m n s b (13 * r + t) = b (13 * r + t)
  | 0, s, b, r, t, _, _ => rfl
  | n + 1, s, b, r, t, ht, h => by
    show xm_gr f m n (s + 1) (xf_f2 (f s) (13 * s) m 0 b) (13 * r + t) = _
    rw [xm_gr_o hm n (s + 1) _ r t ht (by omega), xf_f2_at, if_neg (by omega)]
theorem xm_gr_at {f : Nat → Nat → Int32} {m : Nat} (hm : m ≤ 13) : ∀ (n s : Nat) (b : Nat → Int32) (r t : Nat), t < m → s ≤ r → r < s + n → xm_gr f m n s b (13 * r + t) = f r t
  | 0, s, b, r, t, _, h1, h2 => absurd h2 (by omega)
  | n + 1, s, b, r, t, ht, h1, h2 => by
    show xm_gr f m n (s + 1) (xf_f2 (f s) (13 * s) m 0 b) (13 * r + t) = _
    by_cases h : r = s
    · subst h
      rw [xm_gr_o hm n (r + 1) _ r t (by omega) (by omega), xf_f2_at, if_pos (by omega), show 13 * r + t - 13 * r = t by omega]
    · exact xm_gr_at hm n (s + 1) _ r t ht (by omega) (by omega)
def xm_g (c : Nat → Nat → Int32) (u d : Int64) (s t : Nat) : Bool := decide (s = t) || !decide (u * (c s s).toInt64 < d * (c s t).toInt64)
def xm_b (c : Nat → Nat → Int32) (u d : Int64) (s t : Nat) : Bool := !decide (s = t) && !decide (u * (c s s).toInt64 ≤ d * (c s t).toInt64)
theorem xm_g_e {c : Nat → Nat → Int32} {u d : Int64} {s t : Nat} (h : s = t) : xm_g c u d s t = true := by unfold xm_g; rw [decide_eq_true h]; rfl
theorem xm_g_t {c : Nat → Nat → Int32} {u d : Int64} {s t : Nat} (h : ¬ u * (c s s).toInt64 < d * (c s t).toInt64) : xm_g c u d s t = true := by unfold xm_g; rw [decide_eq_false h]; simp
theorem xm_g_f {c : Nat → Nat → Int32} {u d : Int64} {s t : Nat} (h1 : s ≠ t) (h : u * (c s s).toInt64 < d * (c s t).toInt64) : xm_g c u d s t = false := by unfold xm_g; rw [decide_eq_true h, decide_eq_false h1]; rfl
theorem xm_b_e {c : Nat → Nat → Int32} {u d : Int64} {s t : Nat} (h : s = t) : xm_b c u d s t = false := by unfold xm_b; rw [decide_eq_true h]; rfl
theorem xm_b_f {c : Nat → Nat → Int32} {u d : Int64} {s t : Nat} (h : u * (c s s).toInt64 ≤ d * (c s t).toInt64) : xm_b c u d s t = false := by unfold xm_b; rw [decide_eq_true h]; simp
theorem xm_b_t {c : Nat → Nat → Int32} {u d : Int64} {s t : Nat} (h1 : s ≠ t) (h : ¬ u * (c s s).toInt64 ≤ d * (c s t).toInt64) : xm_b c u d s t = true := by unfold xm_b; rw [decide_eq_false h, decide_eq_false h1]; rfl
/-- the matrices and the days left, as relate leaves them -/
def xm_L (m : Nat) (lf : Nat → Bool) : Nat → Bool := xm_f1 (fun _ => true) m 0 lf
def xm_G (c : Nat → Nat → Int32) (u d : Int64) (m : Nat) (g : Nat → Bool) : Nat → Bool := xm_fr (xm_g c u d) m m 0 g
def xm_B (c : Nat → Nat → Int32) (u d : Int64) (m : Nat) (b : Nat → Bool) : Nat → Bool := xm_fr (xm_b c u d) m m 0 b
def xm_is (lf gd : Nat → Bool) (s t : Nat) : Bool := lf s && (lf t && gd (13 * s + t))
def xm_i1 (lf gd : Nat → Bool) (s t : Nat) : Int32 := xf_bI (xm_is lf gd s t)
/-- what link leaves -/
def xm_K (m : Nat) (lf gd ch : Nat → Bool) (st : Nat → Int32) : (Nat → Bool) × (Nat → Int32) × Bool :=
  xm_ln m lf gd (m + 1 - 2) 2 (xm_fr (xm_is lf gd) m m 0 (xm_f1 (fun _ => false) 169 0 ch), xm_gr (xm_i1 lf gd) m m 0 (xf_fill (fun _ => nI 0) 169 0 st), true)
def xm_nf (m : Nat) (lf bd ch : Nat → Bool) : Bool := xf_ex (fun s => xf_ex (fun t => lf s && (lf t && (bd (13 * t + s) && ch (13 * s + t)))) m 0) m 0
theorem xm_fu_0 {left good : Nat → Bool} {s u n k t : Nat} {x : (Nat → Bool) × (Nat → Int32) × Bool} (h : ¬ (left t = true ∧ good (13 * u + t) = true ∧ x.1 (13 * s + t) = false)) : xm_fu left good s u n (k + 1) t x = xm_fu left good s u n k (t + 1) x := by
  show xm_fu left good s u n k (t + 1) _ = _
  rw [if_neg h]
theorem xm_fu_1 {left good : Nat → Bool} {s u n k t : Nat} {x : (Nat → Bool) × (Nat → Int32) × Bool} (h1 : left t = true) (h2 : good (13 * u + t) = true) (h3 : x.1 (13 * s + t) = false) : xm_fu left good s u n (k + 1) t x = xm_fu left good s u n k (t + 1) (va_up x.1 (13 * s + t) true, upd x.2.1 (13 * s + t) (nI n), true) := by
  show xm_fu left good s u n k (t + 1) _ = _
  rw [if_pos ⟨h1, h2, h3⟩]
theorem xm_lu_0 {m : Nat} {left good : Nat → Bool} {s n k u : Nat} {x : (Nat → Bool) × (Nat → Int32) × Bool} (h : ¬ x.2.1 (13 * s + u) = nI (n - 1)) : xm_lu m left good s n (k + 1) u x = xm_lu m left good s n k (u + 1) x := by
  show xm_lu m left good s n k (u + 1) _ = _
  rw [if_neg h]
theorem xm_lu_1 {m : Nat} {left good : Nat → Bool} {s n k u : Nat} {ch : Nat → Bool} {st : Nat → Int32} {mo mo2 : Bool} (h : st (13 * s + u) = nI (n - 1)) (h2 : ((xm_fu left good s u n m 0 (ch, st, false)).2.2 || mo) = mo2) :
    xm_lu m left good s n (k + 1) u (ch, st, mo) = xm_lu m left good s n k (u + 1) ((xm_fu left good s u n m 0 (ch, st, false)).1, (xm_fu left good s u n m 0 (ch, st, false)).2.1, mo2) := by
  show xm_lu m left good s n k (u + 1) _ = _
  rw [if_pos h, ← h2]
theorem xm_ln_0 {m : Nat} {left good : Nat → Bool} {k n : Nat} {x : (Nat → Bool) × (Nat → Int32) × Bool} (h : x.2.2 = false ∨ k = 0) : xm_ln m left good k n x = x := by
  cases k with
  | zero => rfl
  | succ k =>
    rcases h with h | h
    · exact if_neg (by rw [h]; decide)
    · cases h
theorem xm_ln_1 {m : Nat} {left good : Nat → Bool} {n : Nat} {ch : Nat → Bool} {st : Nat → Int32} {mo : Bool} (h : mo = true) (hn : n ≤ m) : xm_ln m left good (m + 1 - n) n (ch, st, mo) = xm_ln m left good (m + 1 - (n + 1)) (n + 1) (xm_ls m left good n m 0 (ch, st, false)) := by
  rw [show m + 1 - n = (m + 1 - (n + 1)) + 1 by omega]
  exact if_pos h
theorem xo_day {d : Int32} {n : Nat} (hn : n ≤ 12) : xo_rg d (nI 0) (nI n - nI 1) = xo_in d n := by
  have h : (d ≤ nI n - nI 1) ↔ d < nI n := by
    have h1 : (nI n).toInt = n := nI_toInt (by omega)
    have h2 : (nI n - nI 1).toInt = (n : Int) - 1 := by
      rcases n with _ | k
      · rfl
      · rw [show nI (k + 1) - nI 1 = nI k from nI_pred k, nI_toInt (by omega)]; omega
    rw [Int32.le_iff_toInt_le, Int32.lt_iff_toInt_lt, h1, h2]
    omega
  unfold xo_rg xo_in
  rw [decide_eq_decide.mpr h]
  rfl
theorem xo_01_in (v : Int32) : xo_rg v (nI 0) (nI 1) = xo_01 v := by
  cases h : xo_rg v (nI 0) (nI 1)
  · unfold xo_01
    rw [Eq.comm, Bool.or_eq_false_iff, decide_eq_false_iff_not, decide_eq_false_iff_not]
    exact ⟨fun z => by subst z; revert h; decide, fun z => by subst z; revert h; decide⟩
  · obtain ⟨k, _, h2, rfl⟩ := xo_rg_k (by omega) (by omega) h
    have : k = 0 ∨ k = 1 := by omega
    rcases this with rfl | rfl <;> rfl
theorem xm_is_1 {lf gd : Nat → Bool} {s t : Nat} (h : lf s = false) : xm_is lf gd s t = false := by unfold xm_is; rw [h]; rfl
theorem xm_is_2 {lf gd : Nat → Bool} {s t : Nat} (h : lf t = false) : xm_is lf gd s t = false := by unfold xm_is; rw [h]; simp
theorem xm_is_3 {lf gd : Nat → Bool} {s t : Nat} (h : gd (13 * s + t) = false) : xm_is lf gd s t = false := by unfold xm_is; rw [h]; simp
theorem xm_is_t {lf gd : Nat → Bool} {s t : Nat} (h : lf s = true) (h2 : lf t = true) (h3 : gd (13 * s + t) = true) : xm_is lf gd s t = true := by unfold xm_is; rw [h, h2, h3]; rfl
theorem xo_in_n {k n : Nat} (h : k < n) (hn : n < 2 ^ 31) : xo_in (nI k) n = true := xo_in_t (nI_pos (by omega)) (nI_lt h hn)
def xm_od (m : Nat) (gd bd : Nat → Bool) : Bool := xf_ex (fun s => xf_ex (fun t => gd (13 * s + t) && bd (13 * t + s)) m 0) m 0
