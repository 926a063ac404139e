/-! the two records show the same: the shrinkage; first the rounds over a middle day -/
def xz_F (m : Nat) (Pr : Nat × Nat → Prop) (x : (Nat → Int32) × (Nat → Int32)) (F : Nat → Nat → Nat × Nat) : Prop := ∀ s t, s < m → t < m → x.1 (s * 12 + t) = nI (F s t).1 ∧ x.2 (s * 12 + t) = nI (F s t).2 ∧ Pr (F s t)
def xz_upF (F : Nat → Nat → Nat × Nat) (s t : Nat) (p : Nat × Nat) : Nat → Nat → Nat × Nat := fun a b => if a = s ∧ b = t then p else F a b
section XZ5
variable {m : Nat} {Pr : Nat × Nat → Prop}
theorem xz_ls (hPr : ∀ p, Pr p → p.1 ≤ 58806 ∧ p.2 ≤ 58806 ∧ xq_ok p) {x : (Nat → Int32) × (Nat → Int32)} {F : Nat → Nat → Nat × Nat} (h : xz_F m Pr x F) {a b c d : Nat} (ha : a < m) (hb : b < m) (hc : c < m) (hd : d < m) : xk_ls x (a * 12 + b) (c * 12 + d) = true ↔ xq_lt (F a b) (F c d) := by
  obtain ⟨e1, e2, p1⟩ := h a b ha hb
  obtain ⟨e3, e4, p2⟩ := h c d hc hd
  have b1 := hPr _ p1
  have b2 := hPr _ p2
  unfold xk_ls xk_less xq_lt
  rw [decide_eq_true_eq, e1, e2, e3, e4]
  exact xm_lt64 (by omega) (by omega) (by omega) (by omega)
theorem xz_F_up (hm : m ≤ 12) {x : (Nat → Int32) × (Nat → Int32)} {F : Nat → Nat → Nat × Nat} (h : xz_F m Pr x F) {s t a b : Nat} (hs : s < m) (ht : t < m) (ha : a < m) (hb : b < m) : xz_F m Pr (upd x.1 (s * 12 + t) (x.1 (a * 12 + b)), upd x.2 (s * 12 + t) (x.2 (a * 12 + b))) (xz_upF F s t (F a b)) := by
  intro c d hc hd
  obtain ⟨e1, e2, p1⟩ := h a b ha hb
  unfold xz_upF
  by_cases z : c = s ∧ d = t
  · obtain ⟨rfl, rfl⟩ := z
    rw [if_pos ⟨rfl, rfl⟩]
    exact ⟨pk_us.trans e1, pk_us.trans e2, p1⟩
  · rw [if_neg z]
    obtain ⟨e3, e4, p2⟩ := h c d hc hd
    have hne : c * 12 + d ≠ s * 12 + t := fun w => z (by omega)
    exact ⟨(pk_un hne).trans e3, (pk_un hne).trans e4, p2⟩
theorem xz_g1 (hm : m ≤ 12) (hPr : ∀ p, Pr p → p.1 ≤ 58806 ∧ p.2 ≤ 58806 ∧ xq_ok p) {x : (Nat → Int32) × (Nat → Int32)} {F : Nat → Nat → Nat × Nat} (h : xz_F m Pr x F) {v s t : Nat} (hv : v < m) (hs : s < m) (ht : t < m) :
    ∃ F', xz_F m Pr (xk_g1 v s t x) F' ∧ ∀ q : Nat × Nat, 0 < q.2 → ∀ a b, a < m → b < m → (xq_le q (F' a b) ↔ (xq_le q (F a b) ∨ (a = s ∧ b = t ∧ xq_le q (F s v) ∧ xq_le q (F v t)))) := by
  have o1 := (hPr _ (h s v hs hv).2.2).2.2
  have o2 := (hPr _ (h v t hv ht).2.2).2.2
  have o3 := (hPr _ (h s t hs ht).2.2).2.2
  have key : ∀ (z w : Nat × Nat), (xq_lt (F s v) (F v t) → z = F v t) → (¬ xq_lt (F s v) (F v t) → z = F s v) → (xq_lt z (F s t) → w = z) → (¬ xq_lt z (F s t) → w = F s t) → xq_ok z → ∀ q : Nat × Nat, 0 < q.2 → (xq_le q w ↔ (xq_le q (F s t) ∨ (xq_le q (F s v) ∧ xq_le q (F v t)))) := fun z w h1 h2 h3 h4 hz q hq => by
    rw [xq_min hq hz o3 h3 h4, xq_max hq o1 o2 h1 h2]
  have fin : ∀ w, (∀ q : Nat × Nat, 0 < q.2 → (xq_le q w ↔ (xq_le q (F s t) ∨ (xq_le q (F s v) ∧ xq_le q (F v t))))) → ∀ q : Nat × Nat, 0 < q.2 → ∀ a b, a < m → b < m → (xq_le q (xz_upF F s t w a b) ↔ (xq_le q (F a b) ∨ (a = s ∧ b = t ∧ xq_le q (F s v) ∧ xq_le q (F v t)))) := fun w hw q hq a b _ _ => by
    unfold xz_upF
    by_cases z : a = s ∧ b = t
    · obtain ⟨rfl, rfl⟩ := z
      rw [if_pos ⟨rfl, rfl⟩, hw q hq]
      exact ⟨fun h => h.imp id (fun h => ⟨rfl, rfl, h⟩), fun h => h.imp id (fun h => h.2.2)⟩
    · rw [if_neg z]
      exact ⟨Or.inl, fun h => h.elim id (fun h => absurd ⟨h.1, h.2.1⟩ z)⟩
  have same : xz_upF F s t (F s t) = F := by
    funext a b
    unfold xz_upF
    by_cases z : a = s ∧ b = t
    · rw [if_pos z, z.1, z.2]
    · rw [if_neg z]
  unfold xk_g1
  by_cases h1 : xk_ls x (s * 12 + v) (v * 12 + t) = true
  · have l1 := (xz_ls hPr h hs hv hv ht).mp h1
    rw [if_pos h1]
    by_cases h2 : xk_ls x (v * 12 + t) (s * 12 + t) = true
    · have l2 := (xz_ls hPr h hv ht hs ht).mp h2
      rw [if_pos h2]
      exact ⟨_, xz_F_up hm h hs ht hv ht, fin _ (key (F v t) (F v t) (fun _ => rfl) (fun z => absurd l1 z) (fun _ => rfl) (fun z => absurd l2 z) o2)⟩
    · have l2 : ¬ xq_lt (F v t) (F s t) := fun z => h2 ((xz_ls hPr h hv ht hs ht).mpr z)
      rw [if_neg h2]
      refine ⟨F, h, ?_⟩
      have := fin (F s t) (key (F v t) (F s t) (fun _ => rfl) (fun z => absurd l1 z) (fun z => absurd z l2) (fun _ => rfl) o2)
      rwa [same] at this
  · have l1 : ¬ xq_lt (F s v) (F v t) := fun z => h1 ((xz_ls hPr h hs hv hv ht).mpr z)
    rw [if_neg h1]
    by_cases h2 : xk_ls x (s * 12 + v) (s * 12 + t) = true
    · have l2 := (xz_ls hPr h hs hv hs ht).mp h2
      rw [if_pos h2]
      exact ⟨_, xz_F_up hm h hs ht hs hv, fin _ (key (F s v) (F s v) (fun z => absurd z l1) (fun _ => rfl) (fun _ => rfl) (fun z => absurd l2 z) o1)⟩
    · have l2 : ¬ xq_lt (F s v) (F s t) := fun z => h2 ((xz_ls hPr h hs hv hs ht).mpr z)
      rw [if_neg h2]
      refine ⟨F, h, ?_⟩
      have := fin (F s t) (key (F s v) (F s t) (fun z => absurd z l1) (fun _ => rfl) (fun z => absurd z l2) (fun _ => rfl) o1)
      rwa [same] at this
theorem xz_gi (hm : m ≤ 12) (hPr : ∀ p, Pr p → p.1 ≤ 58806 ∧ p.2 ≤ 58806 ∧ xq_ok p) {v s : Nat} (hv : v < m) (hs : s < m) : ∀ (n t0 : Nat) (x : (Nat → Int32) × (Nat → Int32)) (F : Nat → Nat → Nat × Nat), t0 + n ≤ m → xz_F m Pr x F →
    ∃ F', xz_F m Pr (xk_gi v s n t0 x) F' ∧ ∀ q : Nat × Nat, 0 < q.2 → ∀ a b, a < m → b < m → (xq_le q (F' a b) ↔ (xq_le q (F a b) ∨ (a = s ∧ (t0 ≤ b ∧ b < t0 + n) ∧ xq_le q (F s v) ∧ xq_le q (F v b))))
  | 0, t0, x, F, _, h => ⟨F, h, fun q _ a b _ _ => ⟨Or.inl, fun h => h.elim id (fun h => absurd h.2.1 (by omega))⟩⟩
  | n + 1, t0, x, F, hn, h => by
    obtain ⟨F1, h1, e1⟩ := xz_g1 hm hPr h hv hs (show t0 < m by omega)
    obtain ⟨F2, h2, e2⟩ := xz_gi hm hPr hv hs n (t0 + 1) (xk_g1 v s t0 x) F1 (by omega) h1
    refine ⟨F2, h2, fun q hq a b ha hb => ?_⟩
    have k1 : xq_le q (F1 s v) ↔ xq_le q (F s v) := (e1 q hq s v hs hv).trans ⟨fun h => h.elim id (fun h => h.2.2.1), Or.inl⟩
    have k2 : ∀ b, b < m → (xq_le q (F1 v b) ↔ xq_le q (F v b)) := fun b hb => (e1 q hq v b hv hb).trans ⟨fun h => h.elim id (fun h => by rw [h.2.1]; exact h.2.2.2), Or.inl⟩
    rw [e2 q hq a b ha hb, e1 q hq a b ha hb, k1, k2 b hb]
    constructor
    · rintro ((h3 | ⟨h3, h4, h5⟩) | ⟨h3, h4, h5⟩)
      · exact Or.inl h3
      · exact Or.inr ⟨h3, by omega, h5.1, by rw [h4]; exact h5.2⟩
      · exact Or.inr ⟨h3, by omega, h5⟩
    · rintro (h3 | ⟨h3, h4, h5⟩)
      · exact Or.inl (Or.inl h3)
      · by_cases hb0 : b = t0
        · exact Or.inl (Or.inr ⟨h3, hb0, h5.1, by rw [← hb0]; exact h5.2⟩)
        · exact Or.inr ⟨h3, by omega, h5⟩
theorem xz_go (hm : m ≤ 12) (hPr : ∀ p, Pr p → p.1 ≤ 58806 ∧ p.2 ≤ 58806 ∧ xq_ok p) {v : Nat} (hv : v < m) : ∀ (n s0 : Nat) (x : (Nat → Int32) × (Nat → Int32)) (F : Nat → Nat → Nat × Nat), s0 + n ≤ m → xz_F m Pr x F →
    ∃ F', xz_F m Pr (xk_go v m n s0 x) F' ∧ ∀ q : Nat × Nat, 0 < q.2 → ∀ a b, a < m → b < m → (xq_le q (F' a b) ↔ (xq_le q (F a b) ∨ ((s0 ≤ a ∧ a < s0 + n) ∧ xq_le q (F a v) ∧ xq_le q (F v b))))
  | 0, s0, x, F, _, h => ⟨F, h, fun q _ a b _ _ => ⟨Or.inl, fun h => h.elim id (fun h => absurd h.1 (by omega))⟩⟩
  | n + 1, s0, x, F, hn, h => by
    obtain ⟨F1, h1, e1⟩ := xz_gi hm hPr hv (show s0 < m by omega) m 0 x F (by omega) h
    obtain ⟨F2, h2, e2⟩ := xz_go hm hPr hv n (s0 + 1) (xk_gi v s0 m 0 x) F1 (by omega) h1
    refine ⟨F2, h2, fun q hq a b ha hb => ?_⟩
    have k1 : ∀ a, a < m → (xq_le q (F1 a v) ↔ xq_le q (F a v)) := fun a ha => (e1 q hq a v ha hv).trans ⟨fun h => h.elim id (fun h => by rw [h.1]; exact h.2.2.1), Or.inl⟩
    have k2 : ∀ b, b < m → (xq_le q (F1 v b) ↔ xq_le q (F v b)) := fun b hb => (e1 q hq v b hv hb).trans ⟨fun h => h.elim id (fun h => h.2.2.2), Or.inl⟩
    rw [e2 q hq a b ha hb, e1 q hq a b ha hb, k1 a ha, k2 b hb]
    constructor
    · rintro ((h3 | ⟨h3, h4, h5⟩) | ⟨h4, h5⟩)
      · exact Or.inl h3
      · exact Or.inr ⟨by omega, by rw [h3]; exact h5.1, h5.2⟩
      · exact Or.inr ⟨by omega, h5⟩
    · rintro (h3 | ⟨h4, h5⟩)
      · exact Or.inl (Or.inl h3)
      · by_cases ha0 : a = s0
        · exact Or.inl (Or.inr ⟨ha0, by omega, by rw [← ha0]; exact h5.1, h5.2⟩)
        · exact Or.inr ⟨by omega, h5⟩
def xz_wi : Nat → Nat → (Nat → Nat → Prop) → Nat → Nat → Prop
  | 0, _, B => B
  | n + 1, v, B => xz_wi n (v + 1) (fun s t => B s t ∨ (B s v ∧ B v t))
theorem xz_wi_s : ∀ (n v : Nat) (B : Nat → Nat → Prop), xz_wi (n + 1) v B = fun s t => xz_wi n v B s t ∨ (xz_wi n v B s (v + n) ∧ xz_wi n v B (v + n) t)
  | 0, v, B => rfl
  | n + 1, v, B => by
    show xz_wi (n + 1) (v + 1) _ = _
    rw [xz_wi_s n (v + 1), show v + 1 + n = v + (n + 1) by omega]
    rfl
theorem xz_gv (hm : m ≤ 12) (hPr : ∀ p, Pr p → p.1 ≤ 58806 ∧ p.2 ≤ 58806 ∧ xq_ok p) : ∀ (n v : Nat) (x : (Nat → Int32) × (Nat → Int32)) (F : Nat → Nat → Nat × Nat), v + n ≤ m → xz_F m Pr x F →
    ∃ F', xz_F m Pr (xk_gv m n v x) F' ∧ ∀ (q : Nat × Nat) (B : Nat → Nat → Prop), 0 < q.2 → (∀ a b, a < m → b < m → (B a b ↔ xq_le q (F a b))) → ∀ a b, a < m → b < m → (xq_le q (F' a b) ↔ xz_wi n v B a b)
  | 0, v, x, F, _, h => ⟨F, h, fun q B _ hB a b ha hb => (hB a b ha hb).symm⟩
  | n + 1, v, x, F, hn, h => by
    obtain ⟨F1, h1, e1⟩ := xz_go hm hPr (show v < m by omega) m 0 x F (by omega) h
    obtain ⟨F2, h2, e2⟩ := xz_gv hm hPr n (v + 1) (xk_go v m m 0 x) F1 (by omega) h1
    refine ⟨F2, h2, fun q B hq hB a b ha hb => ?_⟩
    refine e2 q (fun s t => B s t ∨ (B s v ∧ B v t)) hq (fun a b ha hb => ?_) a b ha hb
    rw [hB a b ha hb, hB a v ha (by omega), hB v b (by omega) hb, e1 q hq a b ha hb]
    exact ⟨fun h => h.imp id (fun h => ⟨by omega, h⟩), fun h => h.imp id (fun h => h.2)⟩
/-- all rounds: the least transitive relation -/
theorem xz_gv_tc (hm : m ≤ 12) (hPr : ∀ p, Pr p → p.1 ≤ 58806 ∧ p.2 ≤ 58806 ∧ xq_ok p) {x : (Nat → Int32) × (Nat → Int32)} {F : Nat → Nat → Nat × Nat} (h : xz_F m Pr x F) :
    ∃ F', xz_F m Pr (xk_gv m m 0 x) F' ∧ ∀ q : Nat × Nat, 0 < q.2 → ∀ a b, a < m → b < m → (xq_le q (F' a b) ↔ xg_tc m (fun s t => s < m ∧ t < m ∧ xq_le q (F s t)) a b) := by
  obtain ⟨F', h1, h2⟩ := xz_gv hm hPr m 0 x F (by omega) h
  refine ⟨F', h1, fun q hq a b ha hb => ?_⟩
  rw [h2 q (fun s t => s < m ∧ t < m ∧ xq_le q (F s t)) hq (fun a b ha hb => ⟨fun h => h.2.2, fun h => ⟨ha, hb, h⟩⟩) a b ha hb]
  exact xg_wa (m := m) (e := fun s t => s < m ∧ t < m ∧ xq_le q (F s t)) (fun s t h => ⟨h.1, h.2.1⟩) (X := fun v => xz_wi v 0 (fun s t => s < m ∧ t < m ∧ xq_le q (F s t))) (fun s t => Iff.rfl) (fun v s t _ => by rw [xz_wi_s, Nat.zero_add]) a b
end XZ5
