/-! the start: what the throws stand on -/
theorem xs_T {args : Array Value} {s : State} {D : va_G} {cI cZ cJ : ClassId} (hts : ∀ w ∈ lw_tbl, w.before args s = true) (hK : xc_K D cI cZ cJ s) (hgv : (Jvm.Cond.and given_1 narrow_1).before args s = true) : ∃ sa : Nat → Nat, xc_T sa (fun q => s.heap.size ≤ q) s s.heap := by
  have hs := flat_of_before _ hgv
  have hcur : s.vm.findClass "WishLedger" = some (D.1 5) := (hK.1.1 5 _ rfl).2.1
  have hstr : ∀ i : Nat, ∃ a : Nat, ∀ q : Nat × String, xc_strL[i]? = some q → vk_R "WishLedger" q.1 q.2 a s := fun i => by
    cases hq : xc_strL[i]? with
    | none => exact ⟨0, fun q h => (by cases h)⟩
    | some q =>
      have hm : Cond.stringRef "WishLedger" q.1 q.2 ∈ lw_tbl := of_decide_eq_true (List.all_eq_true.mp (by decide +kernel : xc_strL.all (fun q => decide (Cond.stringRef "WishLedger" q.1 q.2 ∈ lw_tbl)) = true) q (List.mem_of_getElem? hq))
      have h1 := hts _ hm
      obtain ⟨_, _, _, a, _, _, _, _, _, he⟩ := Cond.stringRef_spec hcur h1
      exact ⟨a, fun q' h => by cases Option.some.inj h; exact vk_R.of h1 he⟩
  refine ⟨fun i => Classical.choose (hstr i), fun w hw => ?_, fun i q hq => Classical.choose_spec (hstr i) q hq, vx_Zqof (hts _ (by decide +kernel)) (hts _ (by decide +kernel)) (hs _ (by decide +kernel)) (fun a h1 h2 => absurd h1 (Nat.not_lt.mpr h2)), vx_Zqof (hts _ (by decide +kernel)) (hts _ (by decide +kernel)) (hs _ (by decide +kernel)) (fun a h1 h2 => absurd h1 (Nat.not_lt.mpr h2))⟩
  have h1 := hts w (xc_otL_t w hw)
  have h2 := xc_otL_d w hw
  cases w <;> first | (exact absurd (show false = true from h2) (by decide)) | exact va_Nw.of rfl h1
theorem xs_N {args : Array Value} {s : State} (hts : ∀ w ∈ lw_tbl, w.before args s = true) (hgv : (Jvm.Cond.and given_1 narrow_1).before args s = true) : xc_N s := by
  have hs := flat_of_before _ hgv
  exact ⟨va_Nw.of rfl (hts _ (by decide +kernel)), va_Nw.of rfl (hts _ (by decide +kernel)), va_Nw.of rfl (hts _ (by decide +kernel)), va_Nc.of (hs _ (by decide +kernel)), va_Nc.of (hs _ (by decide +kernel))⟩
