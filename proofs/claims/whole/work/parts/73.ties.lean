/-! circles: the reference's list is the first one -/
theorem xm_may_iff {gd : Nat → Bool} (q : Nat → Nat) (p : Nat) : xm_may gd q p = true ↔ xs_may (fun s t => gd (13 * s + t) = true) q p := by
  unfold xm_may xs_may
  rw [Bool.and_eq_true, Bool.not_eq_true', ← Bool.not_eq_true, xf_ex_iff, Bool.or_eq_true, decide_eq_true_eq]
  refine and_congr ?_ Iff.rfl
  constructor
  · exact fun h k hk e => h ⟨k, Nat.zero_le k, by omega, decide_eq_true e⟩
  · rintro h ⟨k, _, hk, e⟩
    exact h k (by omega) (of_decide_eq_true e)
theorem xm_cir_iff {gd bd : Nat → Bool} {n : Nat} (q : Nat → Nat) : xm_cir gd bd n q = true ↔ xs_cir (fun s t => gd (13 * s + t) = true) (fun s t => bd (13 * s + t) = true) n q := by
  unfold xm_cir xs_cir
  rw [Bool.and_eq_true, xf_ex_iff]
  refine and_congr ⟨?_, ?_⟩ Iff.rfl
  · rintro ⟨i, _, h2, h3⟩
    exact ⟨i, by omega, h3⟩
  · rintro ⟨i, h2, h3⟩
    exact ⟨i, Nat.zero_le i, by omega, h3⟩
theorem xz_list {m : Nat} {G B : Nat → Int32} {lf gd bd : Nat → Bool} (h : xz_Y m G B (xm_e m lf gd) (fun s t => s < m ∧ t < m ∧ bd (13 * s + t) = true)) (hlf : ∀ a, a < m → lf a = true) {k q : Nat} (hk : k < 12) (hq1 : 1 ≤ q) (h0 : xl_hb m (xm_e m lf gd) (fun s t => s < m ∧ t < m ∧ bd (13 * s + t) = true) q k k) (hmin : ∀ z n, xl_hb m (xm_e m lf gd) (fun s t => s < m ∧ t < m ∧ bd (13 * s + t) = true) n z z → q ≤ n) (hfst : ∀ z, z < 12 → xl_hb m (xm_e m lf gd) (fun s t => s < m ∧ t < m ∧ bd (13 * s + t) = true) q z z → k ≤ z)
    {Aq : Nat → Nat} {Fq : Nat → Bool} (hs : xk_seq G B k q Aq Fq) : ∃ K rz, xs_run m q (xm_may gd) (xm_cir gd bd q) K 1 (fun _ => 0) = some rz ∧ ∀ j, j < q → rz j - 1 = Aq j := by
  have hm := h.1
  have hkm := (xl_hb_in h.2.2.2.1 h.2.2.2.2 h0).1
  obtain ⟨hgr, hin⟩ := xz_seq_greedy h hkm h0 hs
  have hA0 : Aq 0 = k := hs.1
  have hok := xl_greedy_ok h.2.2.2.2 hq1 hgr (by rw [hA0]; exact hkm) (by rw [hA0]; exact h0)
  have hap : ∀ i j, i < j → j < q → Aq i ≠ Aq j := fun i j hij hj => xl_apart (fun n t u hb hw => by
    obtain ⟨z, hz⟩ := (xl_circ (m := m) (g := xm_e m lf gd) (b := fun s t => s < m ∧ t < m ∧ bd (13 * s + t) = true) (fun s t w => ⟨w.1, w.2.1⟩) (n := n + 1)).mpr ⟨n, t, u, rfl, hb, hw⟩
    exact hmin z (n + 1) hz) hok hij hj
  have hxs : xs_ok m (fun s t => gd (13 * s + t) = true) (fun s t => bd (13 * s + t) = true) q Aq := by
    refine ⟨⟨hok.1, hok.2.1, fun i hi => (hok.2.2.1 i hi).2.2.2.2, ?_⟩, hap⟩
    obtain ⟨i, hi, hb⟩ := hok.2.2.2
    exact ⟨i, hi, hb.2.2⟩
  obtain ⟨K, rz, hrun, hr, hrb, hrm⟩ := xs_find (d := m) (n := q) (g := fun s t => gd (13 * s + t) = true) (b := fun s t => bd (13 * s + t) = true) (may := xm_may gd) (cir := xm_cir gd bd q) xm_may_iff xm_cir_iff hq1 ⟨Aq, hxs⟩ (xs_mu m q (fun _ => 0) 1 + 1) 1 (fun _ => 0) (Nat.lt_succ_self _) (xs_start hq1 rfl)
  refine ⟨K, rz, hrun, ?_⟩
  have hle1 := hrm Aq hxs
  have hok2 : xl_ok m (xm_e m lf gd) (fun s t => s < m ∧ t < m ∧ bd (13 * s + t) = true) q (fun i => rz i - 1) := by
    obtain ⟨a1, a2, a3, a4⟩ := hr.1
    have hnx : ∀ i, i < q → xl_nx q i < q := fun i hi => by unfold xl_nx; split <;> omega
    refine ⟨a1, a2, fun i hi => ⟨a2 i hi, a2 _ (hnx i hi), hlf _ (a2 i hi), hlf _ (a2 _ (hnx i hi)), a3 i hi⟩, ?_⟩
    obtain ⟨i, hi, hb⟩ := a4
    exact ⟨i, hi, a2 i hi, a2 _ (hnx i hi), hb⟩
  have hle2 := xl_greedy_le h.2.2.2.2 hgr (fun z hz w => by rw [hA0]; exact hfst z (by omega) w) hok2
  exact fun j hj => xl_le_anti hle1 hle2 j hj
