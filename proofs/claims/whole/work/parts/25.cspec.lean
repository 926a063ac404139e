/-! what the finder of circles computes -/
def xk_hA (G : Nat → Int32) (h : Int32) : Nat → Nat → Int32 → Int32
  | 0, _, r => r
  | n + 1, s, r => xk_hA G h n (s + 1) (r ||| (if G s &&& h = 0 then nI 0 else xf_bi (nI s)))
def xk_hB (G Bt : Nat → Int32) (h hb : Int32) : Nat → Nat → Int32 → Int32
  | 0, _, r => r
  | n + 1, s, r => xk_hB G Bt h hb n (s + 1) (r ||| (if G s &&& hb ||| Bt s &&& h = 0 then nI 0 else xf_bi (nI s)))
theorem xk_hA_0 {G : Nat → Int32} {h r : Int32} {n s : Nat} (hh : G s &&& h = 0) : xk_hA G h (n + 1) s r = xk_hA G h n (s + 1) (r ||| nI 0) := by
  show xk_hA G h n (s + 1) _ = _
  rw [if_pos hh]
theorem xk_hA_1 {G : Nat → Int32} {h r : Int32} {n s : Nat} (hh : ¬ G s &&& h = 0) : xk_hA G h (n + 1) s r = xk_hA G h n (s + 1) (r ||| xf_bi (nI s)) := by
  show xk_hA G h n (s + 1) _ = _
  rw [if_neg hh]
theorem xk_hB_0 {G Bt : Nat → Int32} {h hb r : Int32} {n s : Nat} (hh : G s &&& hb ||| Bt s &&& h = 0) : xk_hB G Bt h hb (n + 1) s r = xk_hB G Bt h hb n (s + 1) (r ||| nI 0) := by
  show xk_hB G Bt h hb n (s + 1) _ = _
  rw [if_pos hh]
theorem xk_hB_1 {G Bt : Nat → Int32} {h hb r : Int32} {n s : Nat} (hh : ¬ G s &&& hb ||| Bt s &&& h = 0) : xk_hB G Bt h hb (n + 1) s r = xk_hB G Bt h hb n (s + 1) (r ||| xf_bi (nI s)) := by
  show xk_hB G Bt h hb n (s + 1) _ = _
  rw [if_neg hh]
def xk_hh (G : Nat → Int32) (z : Nat) : Nat → Int32
  | 0 => xf_bi (nI z)
  | n + 1 => xk_hA G (xk_hh G z n) 12 0 (nI 0)
def xk_hb (G Bt : Nat → Int32) (z : Nat) : Nat → Int32
  | 0 => nI 0
  | n + 1 => xk_hB G Bt (xk_hh G z n) (xk_hb G Bt z n) 12 0 (nI 0)
/-- the rows home and homeBetter below n -/
def xk_hm (G Bt : Nat → Int32) (z n : Nat) (Hm Hb : Nat → Int32) : Prop := ∀ j, j < n → Hm j = xk_hh G z j ∧ Hb j = xk_hb G Bt z j
theorem xk_hm_1 {G Bt : Nat → Int32} {z : Nat} (Hm Hb : Nat → Int32) : xk_hm G Bt z 1 (upd Hm 0 (xf_bi (nI z))) (upd Hb 0 (nI 0)) := fun j hj => by
  rw [show j = 0 by omega, pk_us, pk_us]
  exact ⟨rfl, rfl⟩
theorem xk_hm_s {G Bt : Nat → Int32} {z i : Nat} {Hm Hb : Nat → Int32} {y w : Int32} (hi : 1 ≤ i) (h : xk_hm G Bt z i Hm Hb) (hy : y = xk_hA G (Hm (i - 1)) 12 0 (nI 0)) (hw : w = xk_hB G Bt (Hm (i - 1)) (Hb (i - 1)) 12 0 (nI 0)) : xk_hm G Bt z (i + 1) (upd Hm i y) (upd Hb i w) := fun j hj => by
  by_cases hji : j = i
  · subst hji
    rw [pk_us, pk_us, hy, hw]
    obtain ⟨a, b⟩ := h (j - 1) (by omega)
    rw [a, b]
    obtain ⟨k, rfl⟩ : ∃ k, j = k + 1 := ⟨j - 1, by omega⟩
    exact ⟨rfl, rfl⟩
  · rw [pk_un hji, pk_un hji]
    exact h j (by omega)
def xk_sf (b : Nat → Int32) (z : Nat) : Nat → Nat → Int32
  | 0, _ => nI 0
  | n + 1, i => if xf_hs (b i) (nI z) = true then nI i else xk_sf b z n (i + 1)
theorem xk_sf_1 {b : Nat → Int32} {z n i : Nat} (h : xf_hs (b i) (nI z) = true) : xk_sf b z (n + 1) i = nI i := if_pos h
theorem xk_sf_0 {b : Nat → Int32} {z n i : Nat} (h : xf_hs (b i) (nI z) = false) : xk_sf b z (n + 1) i = xk_sf b z n (i + 1) := if_neg (by rw [h]; decide)
theorem xk_sf_in (b : Nat → Int32) (z : Nat) : ∀ (n i : Nat), ∃ q, xk_sf b z n i = nI q ∧ (q = 0 ∨ (i ≤ q ∧ q < i + n))
  | 0, i => ⟨0, rfl, Or.inl rfl⟩
  | n + 1, i => by
    by_cases h : xf_hs (b i) (nI z) = true
    · exact ⟨i, if_pos h, Or.inr ⟨Nat.le_refl i, by omega⟩⟩
    · obtain ⟨q, h1, h2⟩ := xk_sf_in b z n (i + 1)
      exact ⟨q, (if_neg h).trans h1, h2.elim Or.inl (fun h => Or.inr ⟨by omega, by omega⟩)⟩
/-- the first of the days with the shortest circle, and its length -/
def xk_fd (sf : Nat → Int32) : Nat → Nat → Int32 × Int32 → Int32 × Int32
  | 0, _, x => x
  | n + 1, i, x => xk_fd sf n (i + 1) (if ¬ sf i = 0 ∧ (x.1 = -1 ∨ ¬ x.2 ≤ sf i) then (nI i, sf i) else x)
theorem xk_fd_0 {sf : Nat → Int32} {n i : Nat} {f g : Int32} (h : sf i = 0 ∨ (¬ f = -1 ∧ g ≤ sf i)) : xk_fd sf (n + 1) i (f, g) = xk_fd sf n (i + 1) (f, g) := by
  show xk_fd sf n (i + 1) _ = _
  rw [if_neg (fun z => h.elim z.1 (fun h => z.2.elim h.1 (fun q => q h.2)))]
theorem xk_fd_1 {sf : Nat → Int32} {n i : Nat} {f g : Int32} (h : ¬ sf i = 0) (h2 : f = -1 ∨ ¬ g ≤ sf i) : xk_fd sf (n + 1) i (f, g) = xk_fd sf n (i + 1) (nI i, sf i) := by
  show xk_fd sf n (i + 1) _ = _
  rw [if_pos ⟨h, h2⟩]
theorem xk_n1 {k : Nat} (h : k < 2 ^ 31) : ¬ nI k = -1 := fun z => by
  have h1 := congrArg Int32.toInt z
  rw [nI_toInt h] at h1
  have h2 : (-1 : Int32).toInt = -1 := by decide
  omega
/-- which days may come next behind a, r steps left then -/
def xk_nx (G Bt h hb : Nat → Int32) (a : Nat) (f : Bool) (r : Nat) : Int32 := if f = true then G a &&& h r else G a &&& hb r ||| Bt a &&& h r
def xk_seq (G Bt : Nat → Int32) (z q : Nat) (Aq : Nat → Nat) (Fq : Nat → Bool) : Prop :=
  Aq 0 = z ∧ Fq 0 = false ∧ ∀ i, i < q → Aq i < 13 ∧ Aq (i + 1) < 13 ∧ xk_mem (xk_nx G Bt (xk_hh G z) (xk_hb G Bt z) (Aq i) (Fq i) (q - 1 - i)) (nI 0) 13 0 0 = nI (Aq (i + 1)) ∧ Fq (i + 1) = (Fq i || xf_hs (Bt (Aq i)) (nI (Aq (i + 1))))
theorem xk_lt_s {f : Nat → Int32} {g : Nat → Int32} {i : Nat} {v : Int32} (h : ∀ j, j < i → f j = g j) (hv : v = g i) : ∀ j, j < i + 1 → upd f i v j = g j := fun j hj => by
  by_cases hji : j = i
  · subst hji; rw [pk_us]; exact hv
  · rw [pk_un hji]; exact h j (by omega)
