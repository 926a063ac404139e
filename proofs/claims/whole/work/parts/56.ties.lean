/-! the two records show the same: the days to leave out -/
theorem xz_link2 {G : Nat → Int32} {x : Int32} {C : Nat → Int32} {s t : Nat} (hs : s < 13) (ht : t < 13) : bt (xk_link G x C s) t = true ↔ xg_tc 13 (fun a b => a < 13 ∧ b < 13 ∧ bt x a = true ∧ bt x b = true ∧ bt (G a) b = true) s t := by
  unfold xk_link
  refine xk_l1_tc (fun a b h => ⟨h.1, h.2.1⟩) (fun a b ha hb => ?_) s t hs ht
  rw [xf_fill_at, if_pos (by omega)]
  unfold xk_l0
  rw [xf_hs_bt (by omega)]
  cases h1 : bt x a
  · rw [if_neg (by decide)]
    constructor
    · intro h
      rw [show bt (nI 0) b = false from b_0 b] at h
      cases h
    · rintro ⟨_, _, h, _⟩
      cases h
  · rw [if_pos rfl, b_and, Bool.and_eq_true]
    exact ⟨fun h => ⟨ha, hb, rfl, h.2, h.1⟩, fun h => ⟨h.2.2.2.2, h.2.2.2.1⟩⟩
def xz_q (G B : Nat → Int32) (a : Nat) : Prop := ∃ s t, s < 13 ∧ t < 13 ∧ xg_tc 13 (fun s t => s < 13 ∧ t < 13 ∧ a.testBit s = true ∧ a.testBit t = true ∧ bt (G s) t = true) s t ∧ bt (B t) s = true
theorem xz_sn_q {G B : Nat → Int32} {a : Nat} : xk_sn G B (nI a) = true ↔ ¬ xz_q G B a := by
  unfold xk_sn
  rw [Bool.not_eq_true', ← Bool.not_eq_true]
  refine not_congr ?_
  rw [xk_bad_iff]
  have e : (fun s t => s < 13 ∧ t < 13 ∧ bt (nI a) s = true ∧ bt (nI a) t = true ∧ bt (G s) t = true) = (fun s t => s < 13 ∧ t < 13 ∧ a.testBit s = true ∧ a.testBit t = true ∧ bt (G s) t = true) := by
    funext s t
    apply propext
    constructor
    · rintro ⟨h1, h2, h3, h4, h5⟩
      rw [xm_bt (by omega)] at h3 h4
      exact ⟨h1, h2, h3, h4, h5⟩
    · rintro ⟨h1, h2, h3, h4, h5⟩
      rw [← xm_bt (by omega)] at h3 h4
      exact ⟨h1, h2, h3, h4, h5⟩
  unfold xz_q
  constructor
  · rintro ⟨s, t, h1, h2, h3, h4⟩
    rw [xz_link2 h1 h2, e] at h3
    exact ⟨s, t, h1, h2, h3, h4⟩
  · rintro ⟨s, t, h1, h2, h3, h4⟩
    refine ⟨s, t, h1, h2, ?_, h4⟩
    rw [xz_link2 h1 h2, e]
    exact h3
theorem xz_sn_mono {G B : Nat → Int32} : ∀ k a b : Nat, a % 2 ^ k = 0 → b < 2 ^ k → xk_sn G B (nI (a + b)) = true → xk_sn G B (nI a) = true := by
  intro k a b ha hb h
  rw [xz_sn_q] at h ⊢
  rintro ⟨s, t, h1, h2, h3, h4⟩
  refine h ⟨s, t, h1, h2, xg_tc_sub (fun p q hpq => ?_) h3, h4⟩
  obtain ⟨a1, a2, a3, a4, a5⟩ := hpq
  refine ⟨a1, a2, ?_, ?_, a5⟩
  · rw [xd_tb_add ha hb, a3]; rfl
  · rw [xd_tb_add ha hb, a4]; rfl
theorem xz_sn_0 {G B : Nat → Int32} : xk_sn G B (nI 0) = true := by
  rw [xz_sn_q]
  rintro ⟨s, t, h1, h2, ⟨n, h3⟩, h4⟩
  exact xg_least (X := fun _ _ => False) (fun a b h => by have := h.2.2.1; rw [Nat.zero_testBit] at this; cases this) (fun a u b _ h _ => h) h3
theorem xz_tbc {d Y j : Nat} (hY : Y < 2 ^ d) : (2 ^ d - 1 - Y).testBit j = (decide (j < d) && !Y.testBit j) := by
  rw [Nat.sub_sub, Nat.add_comm 1 Y]
  exact Nat.testBit_two_pow_sub_succ hY j
section XZ4
variable {gc dc : Nat} {P A P1 A1 oP oA : Nat → Int32} {G B C : Nat → Int32} {lf gd bd ch : Nat → Bool} {st : Nat → Int32}
theorem xz_sn (hI : xv_I gc dc P A P1 A1 oP oA) {Y : Nat} (hY : Y < 2 ^ dc) : xk_sn (xo_G gc P A (xo_X dc) (nI 1) (nI 1) G) (xo_B gc P A (xo_X dc) (nI 1) (nI 1) B) (nI (2 ^ dc - 1 - Y)) = !xm_nb dc (fun k => !Y.testBit k) (xm_G (xk_c gc P1 A1) (lN 1) (lN 1) dc gd) (xm_B (xk_c gc P1 A1) (lN 1) (lN 1) dc bd) := by
  have hd := hI.2.2.1
  have hrec := xz_rec hI
  rw [Bool.eq_iff_iff, xz_sn_q, Bool.not_eq_true', ← Bool.not_eq_true, xm_nb_iff]
  refine not_congr ?_
  have hg : ∀ a b, a < dc → b < dc → bt (xo_G gc P A (xo_X dc) (nI 1) (nI 1) G a) b = xm_G (xk_c gc P1 A1) (lN 1) (lN 1) dc gd (13 * a + b) := fun a b ha hb => by
    rw [xm_G_at (by omega) ha hb, ← xz_l1]; exact (xz_gb (B := B) hrec ha hb).1
  have hb' : ∀ a b, a < dc → b < dc → bt (xo_B gc P A (xo_X dc) (nI 1) (nI 1) B a) b = xm_B (xk_c gc P1 A1) (lN 1) (lN 1) dc bd (13 * a + b) := fun a b ha hb => by
    rw [xm_B_at (by omega) ha hb, ← xz_l1]; exact (xz_gb (G := G) hrec ha hb).2
  have he : ∀ a b, (a < 13 ∧ b < 13 ∧ (2 ^ dc - 1 - Y).testBit a = true ∧ (2 ^ dc - 1 - Y).testBit b = true ∧ bt (xo_G gc P A (xo_X dc) (nI 1) (nI 1) G a) b = true) ↔ xm_e dc (fun k => !Y.testBit k) (xm_G (xk_c gc P1 A1) (lN 1) (lN 1) dc gd) a b := by
    intro a b
    rw [xz_tbc hY, xz_tbc hY, Bool.and_eq_true, Bool.and_eq_true, decide_eq_true_eq, decide_eq_true_eq]
    constructor
    · rintro ⟨h1, h2, h3, h4, h5⟩
      exact ⟨h3.1, h4.1, h3.2, h4.2, by rw [← hg a b h3.1 h4.1]; exact h5⟩
    · rintro ⟨h1, h2, h3, h4, h5⟩
      exact ⟨by omega, by omega, ⟨h1, h3⟩, ⟨h2, h4⟩, by rw [hg a b h1 h2]; exact h5⟩
  have htc : ∀ s t, s < dc → t < dc → (xg_tc 13 (fun a b => a < 13 ∧ b < 13 ∧ (2 ^ dc - 1 - Y).testBit a = true ∧ (2 ^ dc - 1 - Y).testBit b = true ∧ bt (xo_G gc P A (xo_X dc) (nI 1) (nI 1) G a) b = true) s t ↔ xg_tc dc (xm_e dc (fun k => !Y.testBit k) (xm_G (xk_c gc P1 A1) (lN 1) (lN 1) dc gd)) s t) := fun s t hs ht =>
    xz_tc (φ := fun s => s) (M := dc) (N := 13) (fun s hs => show s < 13 by omega) (fun s t _ _ h => h) (fun s t _ _ => he s t) (fun a b h => ⟨a, b, ((he a b).mp h).1, ((he a b).mp h).2.1, rfl, rfl⟩) (fun a b h => ⟨h.1, h.2.1⟩) hs ht
  constructor
  · rintro ⟨s, t, h1, h2, h3, h4⟩
    have h5 : xm_e dc (fun k => !Y.testBit k) (xm_G (xk_c gc P1 A1) (lN 1) (lN 1) dc gd) s s ∨ True := Or.inr trivial
    have hst : (s < dc ∧ (!Y.testBit s) = true) ∧ (t < dc ∧ (!Y.testBit t) = true) := by
      obtain ⟨n, hn⟩ := h3
      exact xg_least (X := fun a b => (a < dc ∧ (!Y.testBit a) = true) ∧ (b < dc ∧ (!Y.testBit b) = true)) (fun a b h => ⟨⟨((he a b).mp h).1, ((he a b).mp h).2.2.1⟩, ((he a b).mp h).2.1, ((he a b).mp h).2.2.2.1⟩) (fun a u b _ hx h => ⟨hx.1, ((he u b).mp h).2.1, ((he u b).mp h).2.2.2.1⟩) hn
    exact ⟨s, t, hst.1.1, hst.2.1, hst.1.2, hst.2.2, by rw [← hb' t s hst.2.1 hst.1.1]; exact h4, (htc s t hst.1.1 hst.2.1).mp h3⟩
  · rintro ⟨s, t, h1, h2, h3, h4, h5, h6⟩
    exact ⟨s, t, by omega, by omega, (htc s t h1 h2).mpr h6, by rw [hb' t s h2 h1]; exact h5⟩
theorem xd_c_cut {p : Nat → Bool} {d : Nat} (h : ∀ j, d ≤ j → p j = false) : ∀ {n : Nat}, d ≤ n → xd_c p n = xd_c p d
  | 0, hn => by rw [Nat.le_zero.mp hn]
  | n + 1, hn => by
    by_cases hd : d = n + 1
    · rw [hd]
    · rw [xd_c_z (h n (by omega)), xd_c_cut h (by omega)]
theorem xz_pc {X d : Nat} (hX : X < 2 ^ d) (hd : d ≤ 13) : xd_pc X = xd_c (fun j => X.testBit j) d := xd_c_cut (p := fun j => X.testBit j) (fun j hj => xd_tb_hi hX hj) hd
/-- the least set of days to leave out -/
theorem xz_dropX (hI : xv_I gc dc P A P1 A1 oP oA) {X : Nat} (hX : X < 2 ^ dc) (hp : xm_fwp dc (xm_en dc (xm_G (xk_c gc P1 A1) (lN 1) (lN 1) dc gd) (xm_B (xk_c gc P1 A1) (lN 1) (lN 1) dc bd)) X) : xo_V (xo_G gc P A (xo_X dc) (nI 1) (nI 1) G) (xo_B gc P A (xo_X dc) (nI 1) (nI 1) B) dc = (xd_pc X, X) := by
  have hd := hI.2.2.1
  unfold xo_V
  refine xd_whole (sn := fun a => xk_sn (xo_G gc P A (xo_X dc) (nI 1) (nI 1) G) (xo_B gc P A (xo_X dc) (nI 1) (nI 1) B) (nI a)) xz_sn_mono xz_sn_0 (by omega) ?_
  have hen : ∀ Y, Y < 2 ^ dc → ∀ k, xm_en dc (xm_G (xk_c gc P1 A1) (lN 1) (lN 1) dc gd) (xm_B (xk_c gc P1 A1) (lN 1) (lN 1) dc bd) Y k = (decide (xd_pc Y = k) && xk_sn (xo_G gc P A (xo_X dc) (nI 1) (nI 1) G) (xo_B gc P A (xo_X dc) (nI 1) (nI 1) B) (nI (2 ^ dc - 1 - Y))) := fun Y hY k => by
    unfold xm_en
    rw [xz_sn hI hY (gd := gd) (bd := bd), xz_pc hY (by omega)]
  have hle : ∀ Y, Y < 2 ^ dc → xd_pc Y ≤ dc := fun Y hY => by rw [xz_pc hY (by omega)]; exact xd_c_le _ _
  rcases hp with ⟨k, hk, h1, h2, h3⟩ | ⟨rfl, h2⟩
  · rw [hen X hX, Bool.and_eq_true, decide_eq_true_eq] at h1
    refine ⟨⟨hX, h1.2⟩, fun Y hY => ?_⟩
    rcases Nat.lt_trichotomy (xd_pc Y) k with h | h | h
    · have h4 := h2 (xd_pc Y) h Y hY.1
      rw [hen Y hY.1, decide_eq_true rfl, Bool.true_and] at h4
      exact absurd (h4.symm.trans hY.2) (by decide)
    · refine Or.inr ⟨by omega, Nat.not_lt.mp (fun hlt => ?_)⟩
      have h4 := h3 Y hlt
      rw [hen Y hY.1, decide_eq_true h, Bool.true_and] at h4
      exact absurd (h4.symm.trans hY.2) (by decide)
    · exact Or.inl (by omega)
  · have h0 : xd_pc 0 = 0 := by decide +kernel
    rcases Nat.eq_zero_or_pos dc with hz | hz
    · have hnone : ∀ Y, Y < 2 ^ dc → Y = 0 := fun Y hY => by rw [hz] at hY; omega
      refine ⟨⟨hX, ?_⟩, fun Y hY => ?_⟩
      · show xk_sn _ _ (nI (2 ^ dc - 1 - 0)) = true
        rw [hz]
        exact xz_sn_0
      · rw [hnone Y hY.1]; exact Or.inr ⟨rfl, Nat.le_refl 0⟩
    · -- a single day is always fine
      exfalso
      have hp2 : 2 ^ dc = 2 * 2 ^ (dc - 1) := by rw [← Nat.pow_succ', show (dc - 1).succ = dc by omega]
      have hpos := Nat.two_pow_pos (dc - 1)
      have hY : 2 ^ dc - 2 < 2 ^ dc := by omega
      have htb : ∀ j, (2 ^ dc - 2).testBit j = (decide (j < dc) && !decide (j = 0)) := fun j => by
        rw [show 2 ^ dc - 2 = 2 ^ dc - (1 + 1) by omega, Nat.testBit_two_pow_sub_succ (by omega)]
        congr 2
        cases j with
        | zero => rfl
        | succ j => rw [show (1 : Nat) = 2 ^ 0 from rfl, Nat.testBit_two_pow]; simp
      have hcnt : xd_c (fun j => (2 ^ dc - 2).testBit j) dc = dc - 1 := by
        have h5 : xd_c (fun j => (2 ^ dc - 2).testBit j) dc + 1 = xd_c (fun _ => true) dc := by
          rw [← xd_c_up (p := fun _ => true) (X := 0) rfl hz]
          congr 1
          refine xd_c_eq (fun s hs => ?_)
          rw [htb s, decide_eq_true hs, Bool.true_and]
          by_cases h : s = 0
          · rw [h, va_up_self]; rfl
          · rw [va_up_ne _ _ h, decide_eq_false h]; rfl
        rw [xd_c_all (fun _ _ => rfl)] at h5
        omega
      have h6 := h2 (dc - 1) (by omega) (2 ^ dc - 2) hY
      unfold xm_en at h6
      rw [hcnt, decide_eq_true rfl, Bool.true_and, Bool.not_eq_false', xm_nb_iff] at h6
      obtain ⟨s, t, a1, a2, a3, a4, a5, _⟩ := h6
      dsimp only at a3 a4
      rw [htb, decide_eq_true a1] at a3
      rw [htb, decide_eq_true a2] at a4
      have hs : s = 0 := by simpa using a3
      have ht : t = 0 := by simpa using a4
      rw [xm_B_at (by omega) a2 a1, hs, ht, xm_b_e rfl] at a5
      cases a5
end XZ4
theorem xm_fo_out {tb : Nat → Bool} {c : Nat} (hc : c < 2 ^ 31) : ∀ (n k : Nat) (f : Int32), k + n ≤ 13 → c < xd_c tb k → xm_fo tb (nI c) n k f = f
  | 0, _, _, _, _ => rfl
  | n + 1, k, f, hk, h => by
    have hle := xd_c_le tb k
    have h1 : ¬ nI (xd_c tb k) = nI c := fun z => by have := (nI_eq (by omega) hc).mp z; omega
    rw [xm_fo_0 (fun z => h1 z.2)]
    refine xm_fo_out hc n (k + 1) f (by omega) ?_
    cases ht : tb k
    · rw [xd_c_z ht]; exact h
    · rw [xd_c_s ht]; omega
theorem xm_fo_mem {X c : Nat} (hX : X < 2 ^ 31) (hc : c < 2 ^ 31) : ∀ (n k : Nat), k + n ≤ 13 → xd_c (fun j => X.testBit j) k ≤ c → xm_fo (fun j => X.testBit j) (nI c) n k (-1) = xk_mem (nI X) (nI c) n k (xd_c (fun j => X.testBit j) k)
  | 0, _, _, _ => rfl
  | n + 1, k, hk, h => by
    have hle := xd_c_le (fun j => X.testBit j) k
    show _ = if xf_hs (nI X) (nI k) = true then (if nI (xd_c (fun j => X.testBit j) k) = nI c then nI k else xk_mem (nI X) (nI c) n (k + 1) (xd_c (fun j => X.testBit j) k + 1)) else xk_mem (nI X) (nI c) n (k + 1) (xd_c (fun j => X.testBit j) k)
    rw [xf_hs_bt (by omega), xm_bt (by omega)]
    cases ht : X.testBit k
    · have e : xd_c (fun j => X.testBit j) (k + 1) = xd_c (fun j => X.testBit j) k := xd_c_z (p := fun j => X.testBit j) ht
      rw [if_neg (by decide), xm_fo_0 (tb := fun j => X.testBit j) (fun z => absurd (ht.symm.trans z.1) (by decide)), xm_fo_mem hX hc n (k + 1) (by omega) (by rw [e]; exact h), e]
    · have e : xd_c (fun j => X.testBit j) (k + 1) = xd_c (fun j => X.testBit j) k + 1 := xd_c_s (p := fun j => X.testBit j) ht
      rw [if_pos rfl]
      by_cases h2 : nI (xd_c (fun j => X.testBit j) k) = nI c
      · rw [if_pos h2, xm_fo_1 (tb := fun j => X.testBit j) ht h2]
        have := (nI_eq (by omega) hc).mp h2
        exact xm_fo_out hc n (k + 1) _ (by omega) (by omega)
      · rw [if_neg h2, xm_fo_0 (tb := fun j => X.testBit j) (fun z => h2 z.2), xm_fo_mem hX hc n (k + 1) (by omega) (by have : xd_c (fun j => X.testBit j) k ≠ c := fun z => h2 (by rw [z]); omega), e]
theorem xm_fo_cut {tb : Nat → Bool} {i : Int32} {d : Nat} (h : ∀ j, d ≤ j → tb j = false) : ∀ (n k : Nat) (f : Int32), d ≤ k → xm_fo tb i n k f = f
  | 0, _, _, _ => rfl
  | n + 1, k, f, hk => by
    rw [xm_fo_0 (fun z => absurd ((h k hk).symm.trans z.1) (by decide))]
    exact xm_fo_cut h n (k + 1) f (by omega)
theorem xm_fo_add {tb : Nat → Bool} {i : Int32} : ∀ (a b k : Nat) (f : Int32), xm_fo tb i (a + b) k f = xm_fo tb i b (k + a) (xm_fo tb i a k f)
  | 0, b, k, f => by rw [Nat.zero_add]; rfl
  | a + 1, b, k, f => by
    rw [show a + 1 + b = (a + b) + 1 by omega]
    show xm_fo tb i (a + b) (k + 1) _ = xm_fo tb i b (k + (a + 1)) (xm_fo tb i a (k + 1) _)
    rw [xm_fo_add a b (k + 1), show k + 1 + a = k + (a + 1) by omega]
/-- the i-th of them -/
theorem xz_mem {X d : Nat} (hX : X < 2 ^ d) (hd : d ≤ 12) {i : Int32} (h1 : ¬ i = -1) (h0 : xo_drp (nI (xd_c (fun j => X.testBit j) d)) i = 0) : xk_mem (nI X) i 13 0 0 = xm_fo (fun j => X.testBit j) i d 0 (-1) := by
  have hX31 : X < 2 ^ 31 := Nat.lt_of_lt_of_le hX (Nat.le_trans (Nat.pow_le_pow_right (by decide) hd) (by decide))
  have hi : ¬ i < 0 := fun z => by rw [xo_drp_1 h1 (Or.inl z)] at h0; cases h0
  obtain ⟨c, hc, rfl⟩ := nI_of hi
  refine (xm_fo_mem hX31 hc 13 0 (by omega) (Nat.zero_le c)).symm.trans ?_
  rw [show (13 : Nat) = d + (13 - d) by omega, xm_fo_add]
  exact xm_fo_cut (fun j hj => xd_tb_hi hX hj) _ _ _ (by omega)
