/-! what the class's methods compute, loop by loop -/
def xf_fill (f : Nat → Int32) : Nat → Nat → (Nat → Int32) → Nat → Int32
  | 0, _, G => G
  | n + 1, s, G => xf_fill f n (s + 1) (upd G s (f s))
theorem xf_fill_at {f : Nat → Int32} : ∀ (n s : Nat) (G : Nat → Int32) (j : Nat), xf_fill f n s G j = if s ≤ j ∧ j < s + n then f j else G j
  | 0, s, G, j => (if_neg (fun h => by omega)).symm
  | n + 1, s, G, j => by
    show xf_fill f n (s + 1) (upd G s (f s)) j = _
    rw [xf_fill_at n (s + 1) _ j]
    by_cases h : j = s
    · subst h
      rw [if_neg (fun h => by omega), if_pos ⟨Nat.le_refl j, by omega⟩, pk_us]
    · rw [pk_un h]
      by_cases h2 : s ≤ j ∧ j < s + (n + 1)
      · rw [if_pos h2, if_pos ⟨by omega, by omega⟩]
      · rw [if_neg h2, if_neg (fun h3 => h2 ⟨by omega, by omega⟩)]
def xk_cost (P A : Nat → Int32) (s t : Nat) : Nat → Nat → Int32 → Int32
  | 0, _, x => x
  | n + 1, k, x => xk_cost P A s t n (k + 1) (x + P (s * 6 + k) * A (t * 6 + k))
def xk_c (gc : Nat) (P A : Nat → Int32) (s t : Nat) : Int32 := xk_cost P A s t gc 0 (nI 0)
def xk_clr (v : Int32) (r : Nat) : Nat → Nat → (Nat → Int32) → Nat → Int32
  | 0, _, P => P
  | n + 1, k, P => xk_clr v r n (k + 1) (upd P (r * 6 + k) v)
def xk_shf : Nat → Nat → (Nat → Int32) → Nat → Int32
  | 0, _, P => P
  | n + 1, a, P => xk_shf n (a + 1) (upd P a (P (a + 6)))
def xk_rg (c : Nat → Int32) (pr : Int32) (lim dn : Int64) (s : Nat) : Nat → Nat → Int32 → Int32
  | 0, _, x => x
  | n + 1, t, x => xk_rg c pr lim dn s n (t + 1) (if t ≠ s ∧ xf_hs pr (nI t) = true then x ||| (if dn * (c t).toInt64 ≤ lim then xf_bi (nI t) else nI 0) else x)
def xk_rb (c : Nat → Int32) (pr : Int32) (lim dn : Int64) (s : Nat) : Nat → Nat → Int32 → Int32
  | 0, _, x => x
  | n + 1, t, x => xk_rb c pr lim dn s n (t + 1) (if t ≠ s ∧ xf_hs pr (nI t) = true then x ||| (if dn * (c t).toInt64 < lim then xf_bi (nI t) else nI 0) else x)
theorem xk_rg_bt {c : Nat → Int32} {pr : Int32} {lim dn : Int64} {s : Nat} : ∀ (n t : Nat) (x : Int32) (j : Nat), t + n ≤ 32 → bt (xk_rg c pr lim dn s n t x) j = (bt x j || (decide (t ≤ j ∧ j < t + n ∧ j ≠ s) && bt pr j && decide (dn * (c j).toInt64 ≤ lim)))
  | 0, t, x, j, _ => by
    rw [decide_eq_false (fun h => by omega), Bool.false_and, Bool.false_and, Bool.or_false]; rfl
  | n + 1, t, x, j, h => by
    show bt (xk_rg c pr lim dn s n (t + 1) _) j = _
    rw [xk_rg_bt n (t + 1) _ j (by omega), xf_hs_bt (show t < 32 by omega)]
    by_cases hjt : j = t
    · subst hjt
      rw [decide_eq_false (fun z => by omega), Bool.false_and, Bool.false_and, Bool.or_false]
      by_cases hs : j = s
      · rw [if_neg (fun z => z.1 hs), decide_eq_false (fun z => z.2.2 hs), Bool.false_and, Bool.false_and, Bool.or_false]
      · rw [decide_eq_true (⟨Nat.le_refl j, by omega, hs⟩ : j ≤ j ∧ j < j + (n + 1) ∧ j ≠ s), Bool.true_and]
        cases hp : bt pr j
        · rw [if_neg (fun z => by cases z.2), Bool.false_and, Bool.or_false]
        · rw [if_pos ⟨hs, rfl⟩, b_or, Bool.true_and]
          by_cases hl : dn * (c j).toInt64 ≤ lim
          · rw [if_pos hl, xf_bt_bi (by omega), decide_eq_true rfl, decide_eq_true hl]
          · rw [if_neg hl, decide_eq_false hl, show nI 0 = 0 from rfl, b_0]
    · have hd : decide (t + 1 ≤ j ∧ j < t + 1 + n ∧ j ≠ s) = decide (t ≤ j ∧ j < t + (n + 1) ∧ j ≠ s) := decide_eq_decide.mpr ⟨fun z => ⟨by omega, by omega, z.2.2⟩, fun z => ⟨by omega, by omega, z.2.2⟩⟩
      rw [hd]
      congr 1
      by_cases hc : t ≠ s ∧ bt pr t = true
      · rw [if_pos hc, b_or]
        by_cases hl : dn * (c t).toInt64 ≤ lim
        · rw [if_pos hl, xf_bt_bi (by omega), decide_eq_false hjt, Bool.or_false]
        · rw [if_neg hl, show nI 0 = 0 from rfl, b_0, Bool.or_false]
      · rw [if_neg hc]
theorem xk_rb_bt {c : Nat → Int32} {pr : Int32} {lim dn : Int64} {s : Nat} : ∀ (n t : Nat) (x : Int32) (j : Nat), t + n ≤ 32 → bt (xk_rb c pr lim dn s n t x) j = (bt x j || (decide (t ≤ j ∧ j < t + n ∧ j ≠ s) && bt pr j && decide (dn * (c j).toInt64 < lim)))
  | 0, t, x, j, _ => by
    rw [decide_eq_false (fun h => by omega), Bool.false_and, Bool.false_and, Bool.or_false]; rfl
  | n + 1, t, x, j, h => by
    show bt (xk_rb c pr lim dn s n (t + 1) _) j = _
    rw [xk_rb_bt n (t + 1) _ j (by omega), xf_hs_bt (show t < 32 by omega)]
    by_cases hjt : j = t
    · subst hjt
      rw [decide_eq_false (fun z => by omega), Bool.false_and, Bool.false_and, Bool.or_false]
      by_cases hs : j = s
      · rw [if_neg (fun z => z.1 hs), decide_eq_false (fun z => z.2.2 hs), Bool.false_and, Bool.false_and, Bool.or_false]
      · rw [decide_eq_true (⟨Nat.le_refl j, by omega, hs⟩ : j ≤ j ∧ j < j + (n + 1) ∧ j ≠ s), Bool.true_and]
        cases hp : bt pr j
        · rw [if_neg (fun z => by cases z.2), Bool.false_and, Bool.or_false]
        · rw [if_pos ⟨hs, rfl⟩, b_or, Bool.true_and]
          by_cases hl : dn * (c j).toInt64 < lim
          · rw [if_pos hl, xf_bt_bi (by omega), decide_eq_true rfl, decide_eq_true hl]
          · rw [if_neg hl, decide_eq_false hl, show nI 0 = 0 from rfl, b_0]
    · have hd : decide (t + 1 ≤ j ∧ j < t + 1 + n ∧ j ≠ s) = decide (t ≤ j ∧ j < t + (n + 1) ∧ j ≠ s) := decide_eq_decide.mpr ⟨fun z => ⟨by omega, by omega, z.2.2⟩, fun z => ⟨by omega, by omega, z.2.2⟩⟩
      rw [hd]
      congr 1
      by_cases hc : t ≠ s ∧ bt pr t = true
      · rw [if_pos hc, b_or]
        by_cases hl : dn * (c t).toInt64 < lim
        · rw [if_pos hl, xf_bt_bi (by omega), decide_eq_false hjt, Bool.or_false]
        · rw [if_neg hl, show nI 0 = 0 from rfl, b_0, Bool.or_false]
      · rw [if_neg hc]
/-- the rows of asGood and better that read lays -/
def xk_rowG (c : Nat → Nat → Int32) (pr : Int32) (u d : Int64) (s : Nat) : Int32 := if xf_hs pr (nI s) = true then xk_rg (c s) pr (u * (c s s).toInt64) d s 13 0 (xf_bi (nI s)) else nI 0
def xk_rowB (c : Nat → Nat → Int32) (pr : Int32) (u d : Int64) (s : Nat) : Int32 := if xf_hs pr (nI s) = true then xk_rb (c s) pr (u * (c s s).toInt64) d s 13 0 (nI 0) else nI 0
def xk_l2 (v : Nat) : Nat → Nat → (Nat → Int32) → Nat → Int32
  | 0, _, C => C
  | n + 1, s, C => xk_l2 v n (s + 1) (if xf_hs (C s) (nI v) = true then upd C s (C s ||| C v) else C)
def xk_l1 : Nat → Nat → (Nat → Int32) → Nat → Int32
  | 0, _, C => C
  | n + 1, v, C => xk_l1 n (v + 1) (xk_l2 v 13 0 C)
def xk_l0 (G : Nat → Int32) (pr : Int32) (s : Nat) : Int32 := if xf_hs pr (nI s) = true then G s &&& pr else nI 0
def xk_link (G : Nat → Int32) (pr : Int32) (C : Nat → Int32) : Nat → Int32 := xk_l1 13 0 (xf_fill (xk_l0 G pr) 13 0 C)
theorem xk_or_self (x : Int32) : x ||| x = x := b_ext (fun i _ => by rw [b_or, Bool.or_self])
theorem xk_l2_at {v : Nat} : ∀ (n s : Nat) (C : Nat → Int32) (j : Nat), xk_l2 v n s C j = if s ≤ j ∧ j < s + n then (if xf_hs (C j) (nI v) = true then C j ||| C v else C j) else C j
  | 0, s, C, j => (if_neg (fun h => by omega)).symm
  | n + 1, s, C, j => by
    show xk_l2 v n (s + 1) _ j = _
    rw [xk_l2_at n (s + 1) _ j]
    by_cases hc : xf_hs (C s) (nI v) = true
    · rw [if_pos hc]
      have hv : upd C s (C s ||| C v) v = C v := by
        by_cases h : v = s
        · subst h
          rw [pk_us, xk_or_self]
        · rw [pk_un h]
      rw [hv]
      by_cases h : j = s
      · subst h
        rw [if_neg (fun h => by omega), if_pos ⟨Nat.le_refl j, by omega⟩, pk_us, if_pos hc]
      · rw [pk_un h]
        by_cases h2 : s ≤ j ∧ j < s + (n + 1)
        · rw [if_pos h2, if_pos ⟨by omega, by omega⟩]
        · rw [if_neg h2, if_neg (fun h3 => h2 ⟨by omega, by omega⟩)]
    · rw [if_neg hc]
      by_cases h : j = s
      · subst h
        rw [if_neg (fun h => by omega), if_pos ⟨Nat.le_refl j, by omega⟩, if_neg hc]
      · by_cases h2 : s ≤ j ∧ j < s + (n + 1)
        · rw [if_pos h2, if_pos ⟨by omega, by omega⟩]
        · rw [if_neg h2, if_neg (fun h3 => h2 ⟨by omega, by omega⟩)]
def xk_bad (C B : Nat → Int32) : Bool := xf_ex (fun s => xf_ex (fun t => xf_hs (C s) (nI t) && xf_hs (B t) (nI s)) 13 0) 13 0
def xk_ost (G : Nat → Int32) (x : Int32) : Nat → Nat → Int32 → Int32
  | 0, _, r => r
  | n + 1, s, r => xk_ost G x n (s + 1) (r ||| (if xf_hs x (nI s) = true then G s else nI 0))
def xk_stp (G : Nat → Int32) (t : Nat) : Nat → Nat → Int32 → Int32
  | 0, _, _ => -1
  | n + 1, c, r => if xf_hs r (nI t) = true then nI c else xk_stp G t n (c + 1) (xk_ost G r 13 0 (nI 0))
def xk_outd (C : Nat → Int32) (left : Int32) (s : Nat) : Bool := xf_ex (fun t => xf_hs left (nI t) && (xf_hs (C t) (nI s) && !xf_hs (C s) (nI t))) 13 0
def xk_best (C : Nat → Int32) (left : Int32) : Int32 := xf_fst (fun s => xf_hs left (nI s) && !xk_outd C left s) 13 0
def xk_mem (x i : Int32) : Nat → Nat → Nat → Int32
  | 0, _, _ => -1
  | n + 1, d, b => if xf_hs x (nI d) = true then (if nI b = i then nI d else xk_mem x i n (d + 1) (b + 1)) else xk_mem x i n (d + 1) b
/-- Warshall's rounds on rows of bits -/
theorem xk_l1_tc {e : Nat → Nat → Prop} (hin : ∀ s t, e s t → s < 13 ∧ t < 13) {C : Nat → Int32} (h0 : ∀ s t, s < 13 → t < 13 → (bt (C s) t = true ↔ e s t)) (s t : Nat) (hs : s < 13) (ht : t < 13) : bt (xk_l1 13 0 C s) t = true ↔ xg_tc 13 e s t := by
  have hun : ∀ (n k v : Nat) (C : Nat → Int32), xk_l1 (n + k) v C = xk_l1 k (v + n) (xk_l1 n v C) := by
    intro n
    induction n with
    | zero => intro k v C; rw [Nat.zero_add]; rfl
    | succ n ih =>
      intro k v C
      rw [show n + 1 + k = (n + k) + 1 by omega]
      show xk_l1 (n + k) (v + 1) (xk_l2 v 13 0 C) = xk_l1 k (v + (n + 1)) (xk_l1 n (v + 1) (xk_l2 v 13 0 C))
      rw [ih, show v + 1 + n = v + (n + 1) by omega]
  have hst : ∀ v, xk_l1 (v + 1) 0 C = xk_l2 v 13 0 (xk_l1 v 0 C) := fun v => by
    have := hun v 1 0 C
    rw [Nat.zero_add] at this
    exact this
  have key := xg_wa (m := 13) (e := e) hin (X := fun v s t => s < 13 ∧ t < 13 ∧ bt (xk_l1 v 0 C s) t = true)
    (fun s t => ⟨fun h => (h0 s t h.1 h.2.1).mp h.2.2, fun h => ⟨(hin s t h).1, (hin s t h).2, (h0 s t (hin s t h).1 (hin s t h).2).mpr h⟩⟩)
    (fun v s t hv => by
      show (s < 13 ∧ t < 13 ∧ bt (xk_l1 (v + 1) 0 C s) t = true) ↔ _
      rw [hst v, xk_l2_at]
      constructor
      · rintro ⟨h1, h2, h3⟩
        rw [if_pos ⟨Nat.zero_le s, by omega⟩, xf_hs_bt (by omega)] at h3
        by_cases hc : bt (xk_l1 v 0 C s) v = true
        · rw [if_pos hc, b_or, Bool.or_eq_true] at h3
          rcases h3 with h3 | h3
          · exact Or.inl ⟨h1, h2, h3⟩
          · exact Or.inr ⟨⟨h1, hv, hc⟩, hv, h2, h3⟩
        · rw [if_neg hc] at h3
          exact Or.inl ⟨h1, h2, h3⟩
      · rintro (⟨h1, h2, h3⟩ | ⟨⟨h1, -, hc⟩, -, h2, h3⟩)
        · refine ⟨h1, h2, ?_⟩
          rw [if_pos ⟨Nat.zero_le s, by omega⟩, xf_hs_bt (by omega)]
          by_cases hc : bt (xk_l1 v 0 C s) v = true
          · rw [if_pos hc, b_or, h3, Bool.true_or]
          · rw [if_neg hc]; exact h3
        · refine ⟨h1, h2, ?_⟩
          rw [if_pos ⟨Nat.zero_le s, by omega⟩, xf_hs_bt (by omega), if_pos hc, b_or, h3, Bool.or_true]) s t
  exact ⟨fun h => key.mp ⟨hs, ht, h⟩, fun h => (key.mpr h).2.2⟩
