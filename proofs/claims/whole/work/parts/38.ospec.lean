/-! what is asked of the arguments, and which code a refusal has -/
def xo_in (d : Int32) (n : Nat) : Bool := decide (¬ d < 0) && decide (d < nI n)
def xo_rg (v a b : Int32) : Bool := decide (¬ v < a) && decide (v ≤ b)
def xo_01 (v : Int32) : Bool := decide (v = 0) || decide (v = nI 1)
def xo_fr (up dn : Int32) : Bool := xo_rg dn (nI 1) (nI 1000000) && xo_rg up (nI 1) dn
def xo_set (dc gc : Nat) (d g : Int32) (ok : Bool) : Nat := if (xo_in d dc && xo_in g gc) = true then (if ok = true then 0 else 2) else 1
def xo_off (gc : Nat) (g : Int32) (ok : Bool) : Nat := if xo_in g gc = true then (if ok = true then 0 else 2) else 1
def xo_cir (n i : Int32) : Nat := if n = 0 then 1 else if i = -1 then 0 else if (decide (¬ i < 0) && decide (i < n)) = true then 0 else 2
def xo_drp (n i : Int32) : Nat := if i = -1 then 0 else if (decide (¬ i < 0) && decide (i < n)) = true then 0 else 1
def xo_c2 (K1 K2 : String) (c : Nat) (E : String) : Prop := (E = K1 ∧ c = 1) ∨ (E = K2 ∧ c = 2)
theorem xo_in_1 {d : Int32} {n : Nat} (h : d < 0) : xo_in d n = false := by unfold xo_in; rw [decide_eq_false (not_not_intro h)]; rfl
theorem xo_in_2 {d : Int32} {n : Nat} (h : ¬ d < nI n) : xo_in d n = false := by unfold xo_in; rw [decide_eq_false h, Bool.and_false]
theorem xo_in_t {d : Int32} {n : Nat} (h1 : ¬ d < 0) (h2 : d < nI n) : xo_in d n = true := by unfold xo_in; rw [decide_eq_true h1, decide_eq_true h2]; rfl
theorem xo_in_k {d : Int32} {n : Nat} (hn : n < 2 ^ 31) (h : xo_in d n = true) : ∃ k, k < n ∧ d = nI k := by
  unfold xo_in at h
  rw [Bool.and_eq_true, decide_eq_true_eq, decide_eq_true_eq] at h
  obtain ⟨j, hj, rfl⟩ := nI_of h.1
  exact ⟨j, (nI_ltI hj hn).mp h.2, rfl⟩
theorem xo_rg_1 {v a b : Int32} (h : v < a) : xo_rg v a b = false := by unfold xo_rg; rw [decide_eq_false (not_not_intro h)]; rfl
theorem xo_rg_2 {v a b : Int32} (h : ¬ v ≤ b) : xo_rg v a b = false := by unfold xo_rg; rw [decide_eq_false h, Bool.and_false]
theorem xo_rg_t {v a b : Int32} (h1 : ¬ v < a) (h2 : v ≤ b) : xo_rg v a b = true := by unfold xo_rg; rw [decide_eq_true h1, decide_eq_true h2]; rfl
theorem xo_nn {v : Int32} {a : Nat} (ha : a < 2 ^ 31) (h : ¬ v < nI a) : ¬ v < 0 := fun z => h (by
  have h1 := nI_toInt ha
  rw [Int32.lt_iff_toInt_lt] at z ⊢
  rw [h1]
  have : (0 : Int32).toInt = 0 := rfl
  omega)
theorem xo_rg_k {v : Int32} {a b : Nat} (ha : a < 2 ^ 31) (hb : b < 2 ^ 31) (h : xo_rg v (nI a) (nI b) = true) : ∃ k, a ≤ k ∧ k ≤ b ∧ v = nI k := by
  unfold xo_rg at h
  rw [Bool.and_eq_true, decide_eq_true_eq, decide_eq_true_eq] at h
  obtain ⟨j, hj, rfl⟩ := nI_of (xo_nn ha h.1)
  refine ⟨j, ?_, (nI_leI hj hb).mp h.2, rfl⟩
  rcases Nat.lt_or_ge j a with z | z
  · exact absurd ((nI_ltI hj ha).mpr z) h.1
  · exact z
theorem xo_set_d {dc gc : Nat} {d g : Int32} {ok : Bool} (h : xo_in d dc = false) : xo_set dc gc d g ok = 1 := by unfold xo_set; rw [h]; rfl
theorem xo_set_g {dc gc : Nat} {d g : Int32} {ok : Bool} (h : xo_in g gc = false) : xo_set dc gc d g ok = 1 := by unfold xo_set; rw [h, Bool.and_false]; rfl
theorem xo_set_v {dc gc : Nat} {d g : Int32} {ok : Bool} (h1 : xo_in d dc = true) (h2 : xo_in g gc = true) (h : ok = false) : xo_set dc gc d g ok = 2 := by unfold xo_set; rw [h1, h2, h]; rfl
theorem xo_set_0 {dc gc : Nat} {d g : Int32} {ok : Bool} (h1 : xo_in d dc = true) (h2 : xo_in g gc = true) (h : ok = true) : xo_set dc gc d g ok = 0 := by unfold xo_set; rw [h1, h2, h]; rfl
theorem xo_off_g {gc : Nat} {g : Int32} {ok : Bool} (h : xo_in g gc = false) : xo_off gc g ok = 1 := by unfold xo_off; rw [h]; rfl
theorem xo_off_v {gc : Nat} {g : Int32} {ok : Bool} (h2 : xo_in g gc = true) (h : ok = false) : xo_off gc g ok = 2 := by unfold xo_off; rw [h2, h]; rfl
theorem xo_off_0 {gc : Nat} {g : Int32} {ok : Bool} (h2 : xo_in g gc = true) (h : ok = true) : xo_off gc g ok = 0 := by unfold xo_off; rw [h2, h]; rfl
theorem xo_cir_1 {n i : Int32} (h : n = 0) : xo_cir n i = 1 := if_pos h
theorem xo_cir_m {n i : Int32} (h : ¬ n = 0) (h1 : i = -1) : xo_cir n i = 0 := (if_neg h).trans (if_pos h1)
theorem xo_cir_0 {n i : Int32} (h : ¬ n = 0) (h1 : ¬ i = -1) (h2 : ¬ i < 0) (h3 : i < n) : xo_cir n i = 0 := (if_neg h).trans ((if_neg h1).trans (if_pos (by rw [decide_eq_true h2, decide_eq_true h3]; rfl)))
theorem xo_cir_2 {n i : Int32} (h : ¬ n = 0) (h1 : ¬ i = -1) (h2 : i < 0 ∨ ¬ i < n) : xo_cir n i = 2 := (if_neg h).trans ((if_neg h1).trans (if_neg (by
  rcases h2 with z | z
  · rw [decide_eq_false (not_not_intro z), Bool.false_and]; decide
  · rw [decide_eq_false z, Bool.and_false]; decide)))
theorem xo_drp_m {n i : Int32} (h1 : i = -1) : xo_drp n i = 0 := if_pos h1
theorem xo_drp_0 {n i : Int32} (h1 : ¬ i = -1) (h2 : ¬ i < 0) (h3 : i < n) : xo_drp n i = 0 := (if_neg h1).trans (if_pos (by rw [decide_eq_true h2, decide_eq_true h3]; rfl))
theorem xo_drp_1 {n i : Int32} (h1 : ¬ i = -1) (h2 : i < 0 ∨ ¬ i < n) : xo_drp n i = 1 := (if_neg h1).trans (if_neg (by
  rcases h2 with z | z
  · rw [decide_eq_false (not_not_intro z), Bool.false_and]; decide
  · rw [decide_eq_false z, Bool.and_false]; decide))
theorem xo_fr_1 {up dn : Int32} (h : xo_rg dn (nI 1) (nI 1000000) = false) : xo_fr up dn = false := by unfold xo_fr; rw [h]; rfl
theorem xo_fr_2 {up dn : Int32} (h : xo_rg up (nI 1) dn = false) : xo_fr up dn = false := by unfold xo_fr; rw [h, Bool.and_false]
theorem xo_fr_t {up dn : Int32} (h : xo_rg dn (nI 1) (nI 1000000) = true) (h2 : xo_rg up (nI 1) dn = true) : xo_fr up dn = true := by unfold xo_fr; rw [h, h2]; rfl
/-- a found place is one of twelve, its length at most twelve -/
theorem xk_fd_in {b : Nat → Nat → Int32} : ∀ (n i : Nat) (f g : Int32), i + n ≤ 12 → ((f = -1 ∧ g = nI 0) ∨ ∃ k q : Nat, k < 12 ∧ f = nI k ∧ g = nI q ∧ 0 < q ∧ q ≤ 12) →
    ((xk_fd (fun z => xk_sf (b z) z 12 1) n i (f, g) = (-1, nI 0)) ∨ ∃ k q : Nat, k < 12 ∧ xk_fd (fun z => xk_sf (b z) z 12 1) n i (f, g) = (nI k, nI q) ∧ 0 < q ∧ q ≤ 12)
  | 0, i, f, g, _, h => by
    rcases h with ⟨rfl, rfl⟩ | ⟨k, q, h1, rfl, rfl, h2, h3⟩
    · exact Or.inl rfl
    · exact Or.inr ⟨k, q, h1, rfl, h2, h3⟩
  | n + 1, i, f, g, hi, h => by
    by_cases h1 : (fun z => xk_sf (b z) z 12 1) i = 0 ∨ (¬ f = -1 ∧ g ≤ (fun z => xk_sf (b z) z 12 1) i)
    · rw [xk_fd_0 (sf := fun z => xk_sf (b z) z 12 1) h1]
      exact xk_fd_in n (i + 1) f g (by omega) h
    · rw [xk_fd_1 (sf := fun z => xk_sf (b z) z 12 1) (fun z => h1 (Or.inl z)) (by
        rcases Classical.em (f = -1) with z | z
        · exact Or.inl z
        · exact Or.inr (fun z2 => h1 (Or.inr ⟨z, z2⟩)))]
      obtain ⟨q, e, hq⟩ := xk_sf_in (b i) i 12 1
      refine xk_fd_in n (i + 1) _ _ (by omega) (Or.inr ⟨i, q, by omega, rfl, e, ?_, by omega⟩)
      rcases hq with rfl | hq
      · exact absurd (Or.inl (e.trans nI_0)) h1
      · omega
def xo_sh (a b : Int32) : Int32 := if b ≤ a then (if a = b then nI 1 else nI 0) else nI 2
def xo_lf (C : Nat → Int32) : Nat → Int32 → Int32
  | 0, x => x
  | n + 1, x => xo_lf C n (x &&& (xf_bi (xk_best C x) ^^^ (-1)))
def xo_X (dc : Nat) : Int32 := xf_bi (nI dc) - nI 1
def xo_G (gc : Nat) (P A : Nat → Int32) (x u d : Int32) (G : Nat → Int32) : Nat → Int32 := xf_fill (xk_rowG (xk_c gc P A) x u.toInt64 d.toInt64) 13 0 G
def xo_B (gc : Nat) (P A : Nat → Int32) (x u d : Int32) (B : Nat → Int32) : Nat → Int32 := xf_fill (xk_rowB (xk_c gc P A) x u.toInt64 d.toInt64) 13 0 B
def xo_R (G B : Nat → Int32) : Int32 × Int32 := xk_fd (fun z => xk_sf (xk_hb G B z) z 12 1) 12 0 (-1, nI 0)
def xo_V (G B : Nat → Int32) (dc : Nat) : Nat × Nat := xd_dec (fun a => xk_sn G B (nI a)) dc 0 0 (dc + 1, 0)
def xo_gv (gc : Nat) (P A : Nat → Int32) (dc : Nat) (U E : Nat → Int32) : (Nat → Int32) × (Nat → Int32) := xk_gv dc dc 0 (xk_rs (xk_su (xk_c gc P A)) dc dc 0 U, xk_rs (xk_sd (xk_c gc P A)) dc dc 0 E)
def xo_fin (gc : Nat) (P A : Nat → Int32) (dc : Nat) (U E : Nat → Int32) : Int32 × Int32 := xk_red (xk_gf (xo_gv gc P A dc U E).1 (xo_gv gc P A dc U E).2 dc 0 (nI 1, nI 1))
theorem xo_ngt {a b : Int32} (h : b < a) : ¬ a ≤ b := Int32.not_le.mpr h
