/-! the law: rows of its own; what holds between the two records -/
section XLW
variable {p : Program} {l : Launch} {e : Env} {R : Room} {s : State} {m : MethodId} {args : Array Value} {below : List Frame} {meth : Method} {c : Code} {H : Heap} {locs : List Loc} {cells slots : Nat} {Q : State → Prop}
variable {cc : ByteArray} {pc : Nat} {ls : Array Slot} {rest : List Value} {A : Nat → Prop} {H0 : Heap}
theorem xr_sld (hx : p.tables.exec = Jvm.exec) (hb : c.code = cc) {b0 L : Nat} {xs : Nat → Int32} (hX : va_X b0 L xs s H0) (hbl : b0 < H0.size) (hbA : ¬ A b0) (hS : va_S A H0 H locs) {k : Nat} (hk : k < L) (hL : L < 2 ^ 31) (hd : decode cc pc = .ok (.iaload, 1)) (kk : W p l e R s m args below meth c H locs cells slots Q (F0 m (pc + 1) ls (.int (xs k) :: rest))) : W p l e R s m args below meth c H locs cells slots Q (F0 m pc ls (.int (nI k) :: .ref b0 :: rest)) := va_sld hx hb hX hbl hbA hS (vp_in_nI hk hL) hd (by rw [nI_clamp (by omega)]; exact kk)
theorem xr_leq (hx : p.tables.exec = Jvm.exec) (hb : c.code = cc) {x y : Int64} {off : Int} {tgt : Nat} (hd0 : decode cc pc = .ok (.lcmp, 1)) (hd : decode cc (pc + 1) = .ok (.ifCond .eq off, 3)) (ht : ((pc + 1 : Nat) : Int) + off = (tgt : Int)) (kt : x = y → W p l e R s m args below meth c H locs cells slots Q (F0 m tgt ls (rest))) (kf : ¬ x = y → W p l e R s m args below meth c H locs cells slots Q (F0 m (pc + 1 + 3) ls (rest))) : W p l e R s m args below meth c H locs cells slots Q (F0 m pc ls (.long y :: .long x :: rest)) := W.lcmp hx hb hd0 (lv_if_eq hx hb hd ht (fun h => kt ((lg_cmp_eq x y).mp h)) (fun h => kf (fun z => h ((lg_cmp_eq x y).mpr z))))
end XLW
theorem xk_clr_at {v : Int32} {r : Nat} : ∀ (n k : Nat) (P : Nat → Int32) (j : Nat), xk_clr v r n k P j = if r * 6 + k ≤ j ∧ j < r * 6 + k + n then v else P j
  | 0, k, P, j => by rw [if_neg (by omega)]; rfl
  | n + 1, k, P, j => by
    show xk_clr v r n (k + 1) (upd P (r * 6 + k) v) j = _
    rw [xk_clr_at n (k + 1)]
    by_cases h : j = r * 6 + k
    · subst h
      rw [if_neg (by omega), if_pos (by omega), pk_us]
    · rw [pk_un h]
      by_cases h2 : r * 6 + (k + 1) ≤ j ∧ j < r * 6 + (k + 1) + n
      · rw [if_pos h2, if_pos (by omega)]
      · rw [if_neg h2, if_neg (by omega)]
theorem xk_shf_at : ∀ (n a : Nat) (P : Nat → Int32) (j : Nat), xk_shf n a P j = if a ≤ j ∧ j < a + n then P (j + 6) else P j
  | 0, a, P, j => by rw [if_neg (by omega)]; rfl
  | n + 1, a, P, j => by
    show xk_shf n (a + 1) (upd P a (P (a + 6))) j = _
    rw [xk_shf_at n (a + 1)]
    by_cases h : j = a
    · subst h
      rw [if_neg (by omega), if_pos (by omega), pk_us]
    · by_cases h2 : a + 1 ≤ j ∧ j < a + 1 + n
      · rw [if_pos h2, if_pos (by omega), pk_un (by omega)]
      · rw [if_neg h2, if_neg (by omega), pk_un h]
def xv_I (gc dc : Nat) (P A P1 A1 oP oA : Nat → Int32) : Prop :=
  1 ≤ gc ∧ gc ≤ 6 ∧ dc ≤ 12 ∧ (∀ j, j < dc * 6 → P j = P1 j ∧ A j = A1 j) ∧ (∀ j, j < 6 → P (12 * 6 + j) = oP j ∧ A (12 * 6 + j) = oA j) ∧ ∀ j, (j < dc * 6 ∨ (12 * 6 ≤ j ∧ j < 78)) → (∃ k, 1 ≤ k ∧ k ≤ 99 ∧ P j = nI k) ∧ ∃ k, k ≤ 99 ∧ A j = nI k
theorem xv_start {P1 A1 Z : Nat → Int32} : xv_I 1 0 (xk_clr (nI 1) 12 6 0 Z) (xk_clr (nI 0) 12 6 0 Z) P1 A1 (xf_fill (fun _ => nI 1) 6 0 Z) (xf_fill (fun _ => nI 0) 6 0 Z) := by
  refine ⟨Nat.le_refl 1, by decide, by decide, fun j hj => absurd hj (by omega), fun j hj => ?_, fun j hj => ?_⟩
  · rw [xk_clr_at, xk_clr_at, xf_fill_at, xf_fill_at, if_pos (by omega), if_pos (by omega), if_pos (by omega), if_pos (by omega)]
    exact ⟨rfl, rfl⟩
  · rw [xk_clr_at, xk_clr_at, if_pos (by omega), if_pos (by omega)]
    exact ⟨⟨1, by omega, by omega, rfl⟩, 0, by omega, rfl⟩
section XV
variable {gc dc : Nat} {P A P1 A1 oP oA : Nat → Int32}
theorem xv_goods (h : xv_I gc dc P A P1 A1 oP oA) {k : Nat} (h1 : 1 ≤ k) (h6 : k ≤ 6) : xv_I k 0 (xk_clr (nI 1) 12 6 0 P) (xk_clr (nI 0) 12 6 0 A) P1 A1 (xf_fill (fun _ => nI 1) 6 0 oP) (xf_fill (fun _ => nI 0) 6 0 oA) := by
  refine ⟨h1, h6, by omega, fun j hj => absurd hj (by omega), fun j hj => ?_, fun j hj => ?_⟩
  · rw [xk_clr_at, xk_clr_at, xf_fill_at, xf_fill_at, if_pos (by omega), if_pos (by omega), if_pos (by omega), if_pos (by omega)]
    exact ⟨rfl, rfl⟩
  · rw [xk_clr_at, xk_clr_at, if_pos (by omega), if_pos (by omega)]
    exact ⟨⟨1, by omega, by omega, rfl⟩, 0, by omega, rfl⟩
theorem xv_day (h : xv_I gc dc P A P1 A1 oP oA) (hd : dc < 12) : xv_I gc (dc + 1) (xk_clr (nI 1) dc 6 0 P) (xk_clr (nI 0) dc 6 0 A) (xk_clr (nI 1) dc 6 0 P1) (xk_clr (nI 0) dc 6 0 A1) oP oA := by
  obtain ⟨a1, a2, a3, a4, a5, a6⟩ := h
  refine ⟨a1, a2, by omega, fun j hj => ?_, fun j hj => ?_, fun j hj => ?_⟩
  · rw [xk_clr_at, xk_clr_at, xk_clr_at, xk_clr_at]
    by_cases h : dc * 6 + 0 ≤ j ∧ j < dc * 6 + 0 + 6
    · rw [if_pos h, if_pos h, if_pos h, if_pos h]; exact ⟨rfl, rfl⟩
    · rw [if_neg h, if_neg h, if_neg h, if_neg h]; exact a4 j (by omega)
  · rw [xk_clr_at, xk_clr_at, if_neg (by omega), if_neg (by omega)]; exact a5 j hj
  · rw [xk_clr_at, xk_clr_at]
    by_cases h : dc * 6 + 0 ≤ j ∧ j < dc * 6 + 0 + 6
    · rw [if_pos h, if_pos h]; exact ⟨⟨1, by omega, by omega, rfl⟩, 0, by omega, rfl⟩
    · rw [if_neg h, if_neg h]; exact a6 j (by omega)
theorem xv_price (h : xv_I gc dc P A P1 A1 oP oA) {k g : Nat} (hk : k < dc) (hg : g < gc) {v : Int32} (hv : xo_rg v (nI 1) (nI 99) = true) : P (k * 6 + g) = P1 (k * 6 + g) ∧ xv_I gc dc (upd P (k * 6 + g) v) A (upd P1 (k * 6 + g) v) A1 oP oA := by
  obtain ⟨a1, a2, a3, a4, a5, a6⟩ := h
  obtain ⟨q, hq1, hq2, rfl⟩ := xo_rg_k (by omega) (by omega) hv
  refine ⟨(a4 _ (by omega)).1, a1, a2, a3, fun j hj => ?_, fun j hj => ?_, fun j hj => ?_⟩
  · by_cases h : j = k * 6 + g
    · subst h; rw [pk_us, pk_us]; exact ⟨rfl, (a4 _ (by omega)).2⟩
    · rw [pk_un h, pk_un h]; exact a4 j hj
  · rw [pk_un (by omega)]; exact a5 j hj
  · by_cases h : j = k * 6 + g
    · subst h; rw [pk_us]; exact ⟨⟨q, hq1, hq2, rfl⟩, (a6 _ hj).2⟩
    · rw [pk_un h]; exact a6 j hj
theorem xv_amount (h : xv_I gc dc P A P1 A1 oP oA) {k g : Nat} (hk : k < dc) (hg : g < gc) {v : Int32} (hv : xo_rg v 0 (nI 99) = true) : A (k * 6 + g) = A1 (k * 6 + g) ∧ xv_I gc dc P (upd A (k * 6 + g) v) P1 (upd A1 (k * 6 + g) v) oP oA := by
  obtain ⟨a1, a2, a3, a4, a5, a6⟩ := h
  obtain ⟨q, hq1, hq2, rfl⟩ := xo_rg_k (a := 0) (by omega) (by omega) hv
  refine ⟨(a4 _ (by omega)).2, a1, a2, a3, fun j hj => ?_, fun j hj => ?_, fun j hj => ?_⟩
  · by_cases h : j = k * 6 + g
    · subst h; rw [pk_us, pk_us]; exact ⟨(a4 _ (by omega)).1, rfl⟩
    · rw [pk_un h, pk_un h]; exact a4 j hj
  · rw [pk_un (by omega)]; exact a5 j hj
  · by_cases h : j = k * 6 + g
    · subst h; rw [pk_us]; exact ⟨(a6 _ hj).1, q, hq2, rfl⟩
    · rw [pk_un h]; exact a6 j hj
theorem xv_offer (h : xv_I gc dc P A P1 A1 oP oA) {g : Nat} (hg : g < gc) {v w : Int32} (hv : xo_rg v (nI 1) (nI 99) = true) (hw : xo_rg w 0 (nI 99) = true) : xv_I gc dc (upd P (12 * 6 + g) v) (upd A (12 * 6 + g) w) P1 A1 (upd oP g v) (upd oA g w) := by
  obtain ⟨a1, a2, a3, a4, a5, a6⟩ := h
  obtain ⟨q, hq1, hq2, rfl⟩ := xo_rg_k (by omega) (by omega) hv
  obtain ⟨r, hr1, hr2, rfl⟩ := xo_rg_k (a := 0) (by omega) (by omega) hw
  refine ⟨a1, a2, a3, fun j hj => ?_, fun j hj => ?_, fun j hj => ?_⟩
  · rw [pk_un (by omega), pk_un (by omega)]; exact a4 j hj
  · by_cases h : j = g
    · subst h; rw [pk_us, pk_us, pk_us, pk_us]; exact ⟨rfl, rfl⟩
    · rw [pk_un (show 12 * 6 + j ≠ 12 * 6 + g by omega), pk_un h, pk_un (show 12 * 6 + j ≠ 12 * 6 + g by omega), pk_un h]; exact a5 j hj
  · by_cases h : j = 12 * 6 + g
    · subst h; rw [pk_us, pk_us]; exact ⟨⟨q, hq1, hq2, rfl⟩, r, hr2, rfl⟩
    · rw [pk_un h, pk_un h]; exact a6 j hj
theorem xv_remove (h : xv_I gc dc P A P1 A1 oP oA) {k : Nat} (hk : k < dc) : xv_I gc (dc - 1) (xk_shf ((dc - 1) * 6 - k * 6) (k * 6) P) (xk_shf ((dc - 1) * 6 - k * 6) (k * 6) A) (xk_shf ((dc - 1) * 6 - k * 6) (k * 6) P1) (xk_shf ((dc - 1) * 6 - k * 6) (k * 6) A1) oP oA := by
  obtain ⟨a1, a2, a3, a4, a5, a6⟩ := h
  refine ⟨a1, a2, by omega, fun j hj => ?_, fun j hj => ?_, fun j hj => ?_⟩
  · rw [xk_shf_at, xk_shf_at, xk_shf_at, xk_shf_at]
    by_cases h : k * 6 ≤ j ∧ j < k * 6 + ((dc - 1) * 6 - k * 6)
    · rw [if_pos h, if_pos h, if_pos h, if_pos h]; exact a4 _ (by omega)
    · rw [if_neg h, if_neg h, if_neg h, if_neg h]; exact a4 j (by omega)
  · rw [xk_shf_at, xk_shf_at, if_neg (by omega), if_neg (by omega)]; exact a5 j hj
  · rw [xk_shf_at, xk_shf_at]
    by_cases h : k * 6 ≤ j ∧ j < k * 6 + ((dc - 1) * 6 - k * 6)
    · rw [if_pos h, if_pos h]; exact a6 _ (by omega)
    · rw [if_neg h, if_neg h]; exact a6 j (by omega)
theorem xv_fits (h : xv_I gc dc P A P1 A1 oP oA) : xv_I gc dc P A (xf_f2 oP (dc * 6) 6 0 P1) (xf_f2 oA (dc * 6) 6 0 A1) oP oA := by
  obtain ⟨a1, a2, a3, a4, a5, a6⟩ := h
  refine ⟨a1, a2, a3, fun j hj => ?_, a5, a6⟩
  rw [xf_f2_at, xf_f2_at, if_neg (by omega), if_neg (by omega)]
  exact a4 j hj
/-- the costs of two rows -/
theorem xk_cost_c {P A P1 A1 : Nat → Int32} {s t s2 t2 : Nat} (hP : ∀ k, k < 6 → P (s * 6 + k) = P1 (s2 * 6 + k)) (hA : ∀ k, k < 6 → A (t * 6 + k) = A1 (t2 * 6 + k)) : ∀ (n k : Nat) (x : Int32), k + n ≤ 6 → xk_cost P A s t n k x = xk_cost P1 A1 s2 t2 n k x
  | 0, _, _, _ => rfl
  | n + 1, k, x, h => by
    show xk_cost P A s t n (k + 1) (x + P (s * 6 + k) * A (t * 6 + k)) = xk_cost P1 A1 s2 t2 n (k + 1) (x + P1 (s2 * 6 + k) * A1 (t2 * 6 + k))
    rw [hP k (by omega), hA k (by omega)]
    exact xk_cost_c hP hA n (k + 1) _ (by omega)
theorem xv_c (h : xv_I gc dc P A P1 A1 oP oA) {s t : Nat} (hs : s < dc) (ht : t < dc) : xk_c gc P A s t = xk_c gc P1 A1 s t := by
  obtain ⟨a1, a2, a3, a4, a5, a6⟩ := h
  exact xk_cost_c (fun k hk => (a4 _ (by omega)).1) (fun k hk => (a4 _ (by omega)).2) gc 0 _ (by omega)
end XV
