/-! one step of each loop -/
theorem xf_ex_f {P : Nat → Bool} {n i : Nat} (h : P i = false) : xf_ex P (n + 1) i = xf_ex P n (i + 1) := if_neg (by rw [h]; decide)
theorem xf_ex_t {P : Nat → Bool} {n i : Nat} (h : P i = true) : xf_ex P (n + 1) i = true := if_pos h
theorem xf_fst_f {P : Nat → Bool} {n i : Nat} (h : P i = false) : xf_fst P (n + 1) i = xf_fst P n (i + 1) := if_neg (by rw [h]; decide)
theorem xf_fst_t {P : Nat → Bool} {n i : Nat} (h : P i = true) : xf_fst P (n + 1) i = nI i := if_pos h
theorem xk_rg_0 {c : Nat → Int32} {pr : Int32} {lim dn : Int64} {s n t : Nat} {x : Int32} (h : t = s ∨ xf_hs pr (nI t) = false) : xk_rg c pr lim dn s (n + 1) t x = xk_rg c pr lim dn s n (t + 1) x := by
  show xk_rg c pr lim dn s n (t + 1) _ = _
  rw [if_neg (fun z => h.elim z.1 (fun h => by rw [h] at z; exact absurd z.2 (by decide)))]
theorem xk_rg_1 {c : Nat → Int32} {pr : Int32} {lim dn : Int64} {s n t : Nat} {x : Int32} (h1 : t ≠ s) (h2 : xf_hs pr (nI t) = true) (h3 : ¬ lim < dn * (c t).toInt64) : xk_rg c pr lim dn s (n + 1) t x = xk_rg c pr lim dn s n (t + 1) (x ||| xf_bi (nI t)) := by
  show xk_rg c pr lim dn s n (t + 1) _ = _
  rw [if_pos ⟨h1, h2⟩, if_pos (Int64.not_lt.mp h3)]
theorem xk_rg_2 {c : Nat → Int32} {pr : Int32} {lim dn : Int64} {s n t : Nat} {x : Int32} (h1 : t ≠ s) (h2 : xf_hs pr (nI t) = true) (h3 : lim < dn * (c t).toInt64) : xk_rg c pr lim dn s (n + 1) t x = xk_rg c pr lim dn s n (t + 1) (x ||| nI 0) := by
  show xk_rg c pr lim dn s n (t + 1) _ = _
  rw [if_pos ⟨h1, h2⟩, if_neg (Int64.not_le.mpr h3)]
theorem xk_rb_0 {c : Nat → Int32} {pr : Int32} {lim dn : Int64} {s n t : Nat} {x : Int32} (h : t = s ∨ xf_hs pr (nI t) = false) : xk_rb c pr lim dn s (n + 1) t x = xk_rb c pr lim dn s n (t + 1) x := by
  show xk_rb c pr lim dn s n (t + 1) _ = _
  rw [if_neg (fun z => h.elim z.1 (fun h => by rw [h] at z; exact absurd z.2 (by decide)))]
theorem xk_rb_1 {c : Nat → Int32} {pr : Int32} {lim dn : Int64} {s n t : Nat} {x : Int32} (h1 : t ≠ s) (h2 : xf_hs pr (nI t) = true) (h3 : ¬ lim ≤ dn * (c t).toInt64) : xk_rb c pr lim dn s (n + 1) t x = xk_rb c pr lim dn s n (t + 1) (x ||| xf_bi (nI t)) := by
  show xk_rb c pr lim dn s n (t + 1) _ = _
  rw [if_pos ⟨h1, h2⟩, if_pos (Int64.not_le.mp h3)]
theorem xk_rb_2 {c : Nat → Int32} {pr : Int32} {lim dn : Int64} {s n t : Nat} {x : Int32} (h1 : t ≠ s) (h2 : xf_hs pr (nI t) = true) (h3 : lim ≤ dn * (c t).toInt64) : xk_rb c pr lim dn s (n + 1) t x = xk_rb c pr lim dn s n (t + 1) (x ||| nI 0) := by
  show xk_rb c pr lim dn s n (t + 1) _ = _
  rw [if_pos ⟨h1, h2⟩, if_neg (Int64.not_lt.mpr h3)]
theorem xk_l2_0 {v n s : Nat} {C : Nat → Int32} (h : xf_hs (C s) (nI v) = false) : xk_l2 v (n + 1) s C = xk_l2 v n (s + 1) C := by
  show xk_l2 v n (s + 1) _ = _
  rw [if_neg (by rw [h]; decide)]
theorem xk_l2_1 {v n s : Nat} {C : Nat → Int32} (h : xf_hs (C s) (nI v) = true) : xk_l2 v (n + 1) s C = xk_l2 v n (s + 1) (upd C s (C s ||| C v)) := by
  show xk_l2 v n (s + 1) _ = _
  rw [if_pos h]
theorem xk_ost_1 {G : Nat → Int32} {x r : Int32} {n s : Nat} (h : xf_hs x (nI s) = true) : xk_ost G x (n + 1) s r = xk_ost G x n (s + 1) (r ||| G s) := by
  show xk_ost G x n (s + 1) _ = _
  rw [if_pos h]
theorem xk_ost_0 {G : Nat → Int32} {x r : Int32} {n s : Nat} (h : xf_hs x (nI s) = false) : xk_ost G x (n + 1) s r = xk_ost G x n (s + 1) (r ||| nI 0) := by
  show xk_ost G x n (s + 1) _ = _
  rw [if_neg (by rw [h]; decide)]
theorem xk_stp_1 {G : Nat → Int32} {t n c : Nat} {r : Int32} (h : xf_hs r (nI t) = true) : xk_stp G t (n + 1) c r = nI c := if_pos h
theorem xk_stp_0 {G : Nat → Int32} {t n c : Nat} {r : Int32} (h : xf_hs r (nI t) = false) : xk_stp G t (n + 1) c r = xk_stp G t n (c + 1) (xk_ost G r 13 0 (nI 0)) := if_neg (by rw [h]; decide)
theorem xf_fill_s {f : Nat → Int32} {n s : Nat} {G : Nat → Int32} {v : Int32} (h : f s = v) : xf_fill f (n + 1) s G = xf_fill f n (s + 1) (upd G s v) := by rw [← h]; rfl
theorem xk_rowG_t {c : Nat → Nat → Int32} {pr : Int32} {u d : Int64} {s : Nat} (h : xf_hs pr (nI s) = true) : xk_rowG c pr u d s = xk_rg (c s) pr (u * (c s s).toInt64) d s 13 0 (xf_bi (nI s)) := if_pos h
theorem xk_rowG_f {c : Nat → Nat → Int32} {pr : Int32} {u d : Int64} {s : Nat} (h : xf_hs pr (nI s) = false) : xk_rowG c pr u d s = nI 0 := if_neg (by rw [h]; decide)
theorem xk_rowB_t {c : Nat → Nat → Int32} {pr : Int32} {u d : Int64} {s : Nat} (h : xf_hs pr (nI s) = true) : xk_rowB c pr u d s = xk_rb (c s) pr (u * (c s s).toInt64) d s 13 0 (nI 0) := if_pos h
theorem xk_rowB_f {c : Nat → Nat → Int32} {pr : Int32} {u d : Int64} {s : Nat} (h : xf_hs pr (nI s) = false) : xk_rowB c pr u d s = nI 0 := if_neg (by rw [h]; decide)
theorem xk_l0_t {G : Nat → Int32} {pr : Int32} {s : Nat} (h : xf_hs pr (nI s) = true) : xk_l0 G pr s = G s &&& pr := if_pos h
theorem xk_l0_f {G : Nat → Int32} {pr : Int32} {s : Nat} (h : xf_hs pr (nI s) = false) : xk_l0 G pr s = nI 0 := if_neg (by rw [h]; decide)
theorem xf_upid (f : Nat → Int32) (k : Nat) : upd f k (f k) = f := by
  funext j
  by_cases h : j = k
  · subst h; rw [pk_us]
  · rw [pk_un h]
