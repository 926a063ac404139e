/-! what the finder of the shrinkage computes -/
def xk_less (a b c d : Int64) : Bool := decide (a * d < c * b)
theorem xk_less_t {a b c d : Int64} (h : ¬ c * b ≤ a * d) : xf_bI (xk_less a b c d) = nI 1 := by
  unfold xk_less; rw [decide_eq_true (Int64.not_le.mp h)]; rfl
theorem xk_less_f {a b c d : Int64} (h : c * b ≤ a * d) : xf_bI (xk_less a b c d) = nI 0 := by
  unfold xk_less; rw [decide_eq_false (Int64.not_lt.mpr h)]; rfl
def xf_f2 (f : Nat → Int32) (o : Nat) : Nat → Nat → (Nat → Int32) → Nat → Int32
  | 0, _, U => U
  | n + 1, t, U => xf_f2 f o n (t + 1) (upd U (o + t) (f t))
theorem xf_f2_s {f : Nat → Int32} {o n t : Nat} {U : Nat → Int32} {v : Int32} (h : f t = v) : xf_f2 f o (n + 1) t U = xf_f2 f o n (t + 1) (upd U (o + t) v) := by rw [← h]; rfl
def xk_rs (f : Nat → Nat → Int32) (dc : Nat) : Nat → Nat → (Nat → Int32) → Nat → Int32
  | 0, _, U => U
  | n + 1, s, U => xk_rs f dc n (s + 1) (xf_f2 (f s) (s * 12) dc 0 U)
def xk_su (c : Nat → Nat → Int32) (s t : Nat) : Int32 := if s ≠ t ∧ ¬ c s s ≤ 0 then c s t else nI 1
def xk_sd (c : Nat → Nat → Int32) (s t : Nat) : Int32 := if s ≠ t ∧ ¬ c s s ≤ 0 then c s s else nI 0
theorem xk_su_t {c : Nat → Nat → Int32} {s t : Nat} (h1 : s ≠ t) (h2 : ¬ c s s ≤ 0) : xk_su c s t = c s t := if_pos ⟨h1, h2⟩
theorem xk_su_f {c : Nat → Nat → Int32} {s t : Nat} (h : s = t ∨ c s s ≤ 0) : xk_su c s t = nI 1 := if_neg (fun z => h.elim z.1 z.2)
theorem xk_sd_t {c : Nat → Nat → Int32} {s t : Nat} (h1 : s ≠ t) (h2 : ¬ c s s ≤ 0) : xk_sd c s t = c s s := if_pos ⟨h1, h2⟩
theorem xk_sd_f {c : Nat → Nat → Int32} {s t : Nat} (h : s = t ∨ c s s ≤ 0) : xk_sd c s t = nI 0 := if_neg (fun z => h.elim z.1 z.2)
def xk_ls (x : (Nat → Int32) × (Nat → Int32)) (i j : Nat) : Bool := xk_less (x.1 i).toInt64 (x.2 i).toInt64 (x.1 j).toInt64 (x.2 j).toInt64
def xk_g1 (v s t : Nat) (x : (Nat → Int32) × (Nat → Int32)) : (Nat → Int32) × (Nat → Int32) :=
  if xk_ls x (s * 12 + v) (v * 12 + t) = true then (if xk_ls x (v * 12 + t) (s * 12 + t) = true then (upd x.1 (s * 12 + t) (x.1 (v * 12 + t)), upd x.2 (s * 12 + t) (x.2 (v * 12 + t))) else x)
  else (if xk_ls x (s * 12 + v) (s * 12 + t) = true then (upd x.1 (s * 12 + t) (x.1 (s * 12 + v)), upd x.2 (s * 12 + t) (x.2 (s * 12 + v))) else x)
def xk_gi (v s : Nat) : Nat → Nat → (Nat → Int32) × (Nat → Int32) → (Nat → Int32) × (Nat → Int32)
  | 0, _, x => x
  | n + 1, t, x => xk_gi v s n (t + 1) (xk_g1 v s t x)
theorem xk_gi_s {v s n t : Nat} {x y : (Nat → Int32) × (Nat → Int32)} (h : xk_g1 v s t x = y) : xk_gi v s (n + 1) t x = xk_gi v s n (t + 1) y := by rw [← h]; rfl
theorem xk_g1_tt {v s t : Nat} {U E : Nat → Int32} (h1 : xk_ls (U, E) (s * 12 + v) (v * 12 + t) = true) (h2 : xk_ls (U, E) (v * 12 + t) (s * 12 + t) = true) : xk_g1 v s t (U, E) = (upd U (s * 12 + t) (U (v * 12 + t)), upd E (s * 12 + t) (E (v * 12 + t))) := by
  unfold xk_g1; rw [if_pos h1, if_pos h2]
theorem xk_g1_tf {v s t : Nat} {U E : Nat → Int32} (h1 : xk_ls (U, E) (s * 12 + v) (v * 12 + t) = true) (h2 : xk_ls (U, E) (v * 12 + t) (s * 12 + t) = false) : xk_g1 v s t (U, E) = (U, E) := by
  unfold xk_g1; rw [if_pos h1, if_neg (by rw [h2]; decide)]
theorem xk_g1_ft {v s t : Nat} {U E : Nat → Int32} (h1 : xk_ls (U, E) (s * 12 + v) (v * 12 + t) = false) (h2 : xk_ls (U, E) (s * 12 + v) (s * 12 + t) = true) : xk_g1 v s t (U, E) = (upd U (s * 12 + t) (U (s * 12 + v)), upd E (s * 12 + t) (E (s * 12 + v))) := by
  unfold xk_g1; rw [if_neg (by rw [h1]; decide), if_pos h2]
theorem xk_g1_ff {v s t : Nat} {U E : Nat → Int32} (h1 : xk_ls (U, E) (s * 12 + v) (v * 12 + t) = false) (h2 : xk_ls (U, E) (s * 12 + v) (s * 12 + t) = false) : xk_g1 v s t (U, E) = (U, E) := by
  unfold xk_g1; rw [if_neg (by rw [h1]; decide), if_neg (by rw [h2]; decide)]
def xk_go (v dc : Nat) : Nat → Nat → (Nat → Int32) × (Nat → Int32) → (Nat → Int32) × (Nat → Int32)
  | 0, _, x => x
  | n + 1, s, x => xk_go v dc n (s + 1) (xk_gi v s dc 0 x)
def xk_gv (dc : Nat) : Nat → Nat → (Nat → Int32) × (Nat → Int32) → (Nat → Int32) × (Nat → Int32)
  | 0, _, x => x
  | n + 1, v, x => xk_gv dc n (v + 1) (xk_go v dc dc 0 x)
def xk_gf (U E : Nat → Int32) : Nat → Nat → Int32 × Int32 → Int32 × Int32
  | 0, _, x => x
  | n + 1, s, x => xk_gf U E n (s + 1) (if xk_less (U (s * 12 + s)).toInt64 (E (s * 12 + s)).toInt64 x.1.toInt64 x.2.toInt64 = true then (U (s * 12 + s), E (s * 12 + s)) else x)
theorem xk_gf_t {U E : Nat → Int32} {n s : Nat} {f g : Int32} (h : xk_less (U (s * 12 + s)).toInt64 (E (s * 12 + s)).toInt64 f.toInt64 g.toInt64 = true) : xk_gf U E (n + 1) s (f, g) = xk_gf U E n (s + 1) (U (s * 12 + s), E (s * 12 + s)) := by
  show xk_gf U E n (s + 1) _ = _
  rw [if_pos h]
theorem xk_gf_f {U E : Nat → Int32} {n s : Nat} {f g : Int32} (h : xk_less (U (s * 12 + s)).toInt64 (E (s * 12 + s)).toInt64 f.toInt64 g.toInt64 = false) : xk_gf U E (n + 1) s (f, g) = xk_gf U E n (s + 1) (f, g) := by
  show xk_gf U E n (s + 1) _ = _
  rw [if_neg (by show ¬ xk_less (U (s * 12 + s)).toInt64 (E (s * 12 + s)).toInt64 f.toInt64 g.toInt64 = true; rw [h]; decide)]
def xk_eu : Nat → Int32 → Int32 → Int32
  | 0, a, _ => a
  | n + 1, a, b => if b = 0 then a else xk_eu n b (a - a / b * b)
def xk_red (x : Int32 × Int32) : Int32 × Int32 := if xk_eu 64 x.1 x.2 ≤ nI 1 then x else (x.1 / xk_eu 64 x.1 x.2, x.2 / xk_eu 64 x.1 x.2)
theorem xk_nz {a : Int32} (h : ¬ a ≤ nI 1) : ¬ a = 0 := fun z => h (by rw [z]; decide)
