/-! methods that may throw: what they stand on, their contracts, their calls -/
def xc_up : List String := ["java/lang/RuntimeException", "java/lang/Exception"]
def xn_EA : String := "java/lang/IllegalArgumentException"
def xn_ES : String := "java/lang/IllegalStateException"
def xn_EX : String := "java/lang/IndexOutOfBoundsException"
def xc_strL : List (Nat × String) := [(50, "there are 1 to 6 goods"), (61, "there are 12 days"), (170, "there is no such day"), (175, "there is no such good"), (177, "a price is 1 to 99"), (179, "an amount is 0 to 99"), (181, "0 or 1 is asked for"), (118, "there is no circle"), (122, "the circle has no such day"), (130, "the fraction is above 0 and at most 1, its lower part at most 1000000"), (154, "so many days need not be left out"), (162, "there is no such place")]
def xc_otL : List Cond := (vx_atS "WishLedger" 52 xn_EA xc_up ++ (vx_atS "WishLedger" 63 xn_ES xc_up ++ vx_atS "WishLedger" 124 xn_EX xc_up)).filter (fun w => !goodWord w)
def xc_isD : Cond → Bool
  | .castable .. => true
  | .declares _ => true
  | _ => false
theorem xc_otL_d : ∀ w ∈ xc_otL, xc_isD w = true := List.all_eq_true.mp (by decide +kernel)
theorem xc_otL_t : ∀ w ∈ xc_otL, w ∈ lw_tbl := fun w h => of_decide_eq_true (List.all_eq_true.mp (by decide +kernel : xc_otL.all (fun w => decide (w ∈ lw_tbl)) = true) w h)
theorem xc_D_moved {w : Cond} {u U : State} (hd : xc_isD w = true) (hvm : u.vm.Alike U.vm) (h : va_Nw w u) : va_Nw w U := by
  have hU : U.setVm U.vm = U := rfl
  cases w <;> first | (exact absurd (show false = true from hd) (by decide)) | skip
  case castable a b =>
    have h1 : (Cond.castable a b).before #[] (u.setVm U.vm) = true := by rw [Cond.castable_setVm hvm]; exact h
    have e := Cond.onTables_vm (A := #[]) (A' := #[]) (U := u) (U' := U) U.vm (Cond.castable a b) rfl
    rw [hU] at e
    unfold va_Nw
    rw [← e]
    exact h1
  case declares x =>
    have h1 : (Cond.declares x).before #[] (u.setVm U.vm) = true := by rw [Cond.declares_setVm hvm]; exact h
    have e := Cond.onTables_vm (A := #[]) (A' := #[]) (U := u) (U' := U) U.vm (Cond.declares x) rfl
    rw [hU] at e
    unfold va_Nw
    rw [← e]
    exact h1
def xc_ot (U : State) : Prop := ∀ w ∈ xc_otL, va_Nw w U
theorem xc_ot_moved {u U : State} (hvm : u.vm.Alike U.vm) (h : xc_ot u) : xc_ot U := fun w hw => xc_D_moved (xc_otL_d w hw) hvm (h w hw)
def xc_str (sa : Nat → Nat) (U : State) : Prop := ∀ (i : Nat) (q : Nat × String), xc_strL[i]? = some q → vk_R "WishLedger" q.1 q.2 (sa i) U
theorem xc_str_warm {sa : Nat → Nat} {s U : State} (hW : s.WarmedH U.vm) (h : xc_str sa s) : xc_str sa U := fun i q hq => vk_R.warm hW (h i q hq)
/-- what a throw stands on, in the heap H, of which A may change -/
def xc_T (sa : Nat → Nat) (A : Nat → Prop) (U : State) (H : Heap) : Prop := xc_ot U ∧ xc_str sa U ∧ vx_Zq Bundle.tN "UNASSIGNED_STACK" Bundle.steD A U H ∧ vx_Zq Bundle.tN "SUPPRESSED_SENTINEL" Bundle.listD A U H
theorem xc_T_at {sa : Nat → Nat} {A B : Nat → Prop} {s U : State} {H H1 : Heap} (hW : s.WarmedH U.vm) (h : xc_T sa A s H) (hq : ∀ a : Nat, a < H.size → ¬ A a → H1[a]? = H[a]?) (hAB : ∀ q, B q → A q) : xc_T sa B U H1 :=
  ⟨xc_ot_moved hW.alike h.1, xc_str_warm hW h.2.1, ((vx_Zq.moved hW.alike h.2.2.1).kept hq).narrow hAB, ((vx_Zq.moved hW.alike h.2.2.2).kept hq).narrow hAB⟩
theorem xc_T_call {sa : Nat → Nat} {A : Nat → Prop} {U : State} {g : JFrame} {mk : MethodId} {a : Array Value} (h : xc_T sa A U U.heap) : xc_T sa A (U.calling g mk a) (U.calling g mk a).heap :=
  xc_T_at (U := U.calling g mk a) (H1 := U.heap) (State.WarmedH.refl U) h (fun _ _ _ => rfl) (fun _ h => h)
theorem xc_gA : ∀ w ∈ (vx_atS "WishLedger" 52 xn_EA xc_up).filter goodWord, w ∈ xw_g := fun w h => of_decide_eq_true (List.all_eq_true.mp (by decide +kernel : ((vx_atS "WishLedger" 52 xn_EA xc_up).filter goodWord).all (fun w => decide (w ∈ xw_g)) = true) w h)
theorem xc_gS : ∀ w ∈ (vx_atS "WishLedger" 63 xn_ES xc_up).filter goodWord, w ∈ xw_g := fun w h => of_decide_eq_true (List.all_eq_true.mp (by decide +kernel : ((vx_atS "WishLedger" 63 xn_ES xc_up).filter goodWord).all (fun w => decide (w ∈ xw_g)) = true) w h)
theorem xc_gX : ∀ w ∈ (vx_atS "WishLedger" 124 xn_EX xc_up).filter goodWord, w ∈ xw_g := fun w h => of_decide_eq_true (List.all_eq_true.mp (by decide +kernel : ((vx_atS "WishLedger" 124 xn_EX xc_up).filter goodWord).all (fun w => decide (w ∈ xw_g)) = true) w h)
theorem xc_oA : ∀ w ∈ (vx_atS "WishLedger" 52 xn_EA xc_up).filter (fun w => !goodWord w), w ∈ xc_otL := fun w h => List.mem_filter.mpr ⟨List.mem_append_left _ (List.mem_filter.mp h).1, (List.mem_filter.mp h).2⟩
theorem xc_oS : ∀ w ∈ (vx_atS "WishLedger" 63 xn_ES xc_up).filter (fun w => !goodWord w), w ∈ xc_otL := fun w h => List.mem_filter.mpr ⟨List.mem_append_right _ (List.mem_append_left _ (List.mem_filter.mp h).1), (List.mem_filter.mp h).2⟩
theorem xc_oX : ∀ w ∈ (vx_atS "WishLedger" 124 xn_EX xc_up).filter (fun w => !goodWord w), w ∈ xc_otL := fun w h => List.mem_filter.mpr ⟨List.mem_append_right _ (List.mem_append_right _ (List.mem_filter.mp h).1), (List.mem_filter.mp h).2⟩
def xc_kind (cls : String) (ic : Nat) : Prop := (cls = xn_EA ∧ ic = 52) ∨ (cls = xn_ES ∧ ic = 63) ∨ (cls = xn_EX ∧ ic = 124)
theorem xc_hat {cls : String} {ic : Nat} {args : Array Value} {s : State} (hk : xc_kind cls ic) (hgs : ∀ w ∈ xw_g, w.before args s = true) (ho : xc_ot s) : ∀ w ∈ vx_atS "WishLedger" ic cls xc_up, w.before args s = true := by
  have hd : ∀ w ∈ xc_otL, w.before args s = true := fun w hw => va_Nw.use (by have h := xc_otL_d w hw; cases w <;> first | (exact absurd (show false = true from h) (by decide)) | rfl) (ho w hw)
  rcases hk with ⟨rfl, rfl⟩ | ⟨rfl, rfl⟩ | ⟨rfl, rfl⟩
  · exact vx_hat (fun w h => hgs w (xc_gA w h)) xc_oA hd
  · exact vx_hat (fun w h => hgs w (xc_gS w h)) xc_oS hd
  · exact vx_hat (fun w h => hgs w (xc_gX w h)) xc_oX hd
theorem xc_vxo {cls : String} {ic : Nat} (hk : xc_kind cls ic) : ∀ w ∈ vx_atS "WishLedger" ic cls xc_up, vx_ot w = true := by
  have hd : ∀ w ∈ xc_otL, vx_ot w = true := fun w hw => by have h := xc_otL_d w hw; cases w <;> first | (exact absurd (show false = true from h) (by decide)) | rfl
  have hg : ∀ w, goodWord w = true → vx_ot w = true := fun w h => by unfold vx_ot; rw [h, Bool.or_true]
  have key : ∀ (L : List Cond), (∀ w ∈ L.filter (fun w => !goodWord w), w ∈ xc_otL) → ∀ w ∈ L, vx_ot w = true := fun L hL w hw => by
    cases h : goodWord w
    · exact hd w (hL w (List.mem_filter.mpr ⟨hw, by rw [h]; rfl⟩))
    · exact hg w h
  rcases hk with ⟨rfl, rfl⟩ | ⟨rfl, rfl⟩ | ⟨rfl, rfl⟩
  · exact key _ xc_oA
  · exact key _ xc_oS
  · exact key _ xc_oX
/-- a place where cls is made with a text and thrown -/
def xc_site (b : ByteArray) (pc : Nat) (cls : String) : Prop := ∃ (ik is ic j : Nat) (text : String), decode b pc = .ok (.new ik, 3) ∧ decode b (pc + 3) = .ok (.dup, 1) ∧ decode b (pc + 4) = .ok (.ldc is, 2) ∧ decode b (pc + 6) = .ok (.invokespecial ic, 3) ∧ decode b (pc + 9) = .ok (.athrow, 1) ∧
  Cond.classLink "WishLedger" ik cls ∈ xw_g ∧ Cond.initialized cls ∈ xw_g ∧ xc_strL[j]? = some (is, text) ∧ xc_kind cls ic
def xc_Xi (l : Launch) (y : MethodName) (b : ByteArray) (n : Nat) (ret : FieldType) (k mc ms : Nat) (av : List Value) (D : va_G) (cI cZ cJ : ClassId) (sa : Nat → Nat) (ws : va_W) (S : Type) (Φ : Int32 → S → Prop) (ΦX : String → S → Prop) (ws' : S → va_W) : Prop :=
  ∀ sz : Nat, vx_Met l y (xc_ws y b n (some ret)) (xc_rm k mc ms) (va_Pc av (fun U => U.heap.size = sz ∧ va_P D xn_cl ws U.heap ∧ xc_K D cI cZ cJ U ∧ va_D (fun _ => True) ws ∧ xc_T sa (va_A ws sz) U U.heap)) (va_Qi Φ (fun u t => va_P D xn_cl (ws' u) t.heap ∧ va_D (va_A ws sz) (ws' u)) (va_A ws sz))
    (vx_X (fun _ : S => True) (fun E u t => ΦX E u ∧ va_P D xn_cl (ws' u) t.heap ∧ va_D (va_A ws sz) (ws' u)) (va_A ws sz)) mc ms (va_A ws sz)
def xc_Xv (l : Launch) (y : MethodName) (b : ByteArray) (n : Nat) (k mc ms : Nat) (av : List Value) (D : va_G) (cI cZ cJ : ClassId) (sa : Nat → Nat) (ws : va_W) (S : Type) (Φ : S → Prop) (ΦX : String → S → Prop) (ws' : S → va_W) : Prop :=
  ∀ sz : Nat, vx_Met l y (xc_ws y b n none) (xc_rm k mc ms) (va_Pc av (fun U => U.heap.size = sz ∧ va_P D xn_cl ws U.heap ∧ xc_K D cI cZ cJ U ∧ va_D (fun _ => True) ws ∧ xc_T sa (va_A ws sz) U U.heap)) (va_Qv Φ (fun u t => va_P D xn_cl (ws' u) t.heap ∧ va_D (va_A ws sz) (ws' u)) (va_A ws sz))
    (vx_X (fun _ : S => True) (fun E u t => ΦX E u ∧ va_P D xn_cl (ws' u) t.heap ∧ va_D (va_A ws sz) (ws' u)) (va_A ws sz)) mc ms (va_A ws sz)
/-- a throw leaves the method -/
theorem xc_throw {p : Program} {l : Launch} {e : Env} {R : Room} {s : State} {m : MethodId} {args : Array Value} {below : List Frame} {meth : Method} {c : Code} {H : Heap} {locs : List Loc} {cells slots : Nat} {cc : ByteArray} {pc n : Nat} {ls : Array Slot} {D : va_G} {A : Nat → Prop} {sa : Nat → Nat} {S : Type} {ΦX : String → S → Prop} {ws' : S → va_W} {Qc : Array Value → State → Outcome → State → Prop} {mc ms : Nat} {cls : String} {u : S}
    (hl0 : l.stackTraces = false) (hx : p.tables.exec = Jvm.exec) (hb : c.code = cc) (hml : c.maxLocals = n) (hown : s.vm.findClass "WishLedger" = some m.cls) (hgs : ∀ w ∈ xw_g, w.before args s = true) (hlk : meth.locks = false) (hno : ∀ x ∈ c.exceptionTable.toList, False) (hT0 : xc_T sa A s s.heap)
    (hsite : xc_site cc pc cls) (hf : ΦX cls u) (hP : va_P D xn_cl (ws' u) H) (hD : va_D A (ws' u)) (hS : va_S A s.heap H locs) (hls : ls.size = n) (hRf : 5 < R.frames) (hRl : 82 ≤ R.locals) (hRc : cells + 1 ≤ R.cells) (hRs : slots + 6 ≤ R.slots) (hc : cells + 1 ≤ mc) (hs : slots + 6 ≤ ms) :
    W p l e R s m args below meth c H locs cells slots (vx_MQ below Qc (vx_X (fun _ : S => True) (fun E u t => ΦX E u ∧ va_P D xn_cl (ws' u) t.heap ∧ va_D A (ws' u)) A) args s mc ms A) (F0 m pc ls []) := by
  obtain ⟨ik, is, ic, j, text, d0, d3, d4, d6, d9, wk, wi, hj, hk⟩ := hsite
  have hfit : Bundle.fit cls = true := by rcases hk with ⟨rfl, -⟩ | ⟨rfl, -⟩ | ⟨rfl, -⟩ <;> decide +kernel
  refine vx_throwS (names := xc_up) (A := A) hx hb hl0 hown hfit (by decide +kernel) (hgs _ wk) (hgs _ wi) (hT0.2.1 j (is, text) hj) (xc_hat hk hgs hT0.1) ?_ hT0.2.2.1 hT0.2.2.2 hS (hls.trans hml.symm) d0 d3 d4 d6 d9 (fun x hx => (hno x hx).elim) (by show 2 + 3 < R.frames; omega) (by show 0 + (13 * (2 + 1) + 43) ≤ R.locals; omega) hRc hRs hlk ?_ hS.2.2 hc hs
  · intro w hw
    rcases List.mem_cons.mp hw with rfl | hw
    · rfl
    · rcases List.mem_cons.mp hw with rfl | hw
      · rfl
      · exact xc_vxo hk w hw
  · intro t hvm hsz hq
    refine ⟨u, trivial, ⟨hf, hP.kept (fun i q hi => hq q.1 (hP i q hi).lt), hD⟩, Nat.le_trans hS.1 hsz, fun q h1 h2 => ?_⟩
    rw [hq q (Nat.lt_of_lt_of_le h1 hS.1)]
    exact hS.2.1 q h1 h2
theorem xc_Xv_of {l : Launch} {y : MethodName} {b : ByteArray} {n : Nat} {k mc ms : Nat} {av : List Value} {D : va_G} {cI cZ cJ : ClassId} {sa : Nat → Nat} {ws : va_W} {S : Type} {Φ : S → Prop} {ΦX : String → S → Prop} {ws' : S → va_W} (hl0 : l.stackTraces = false) (hk6 : 6 ≤ k) (hy : plainName y.cls = true) (hyc : y.cls = "WishLedger") (hl : (lg_sl av).length ≤ n)
    (body : ∀ (p : Program) (e : Env) (s : State) (m : MethodId) (args : Array Value) (below : List Frame) (meth : Method) (c : Code) (Q : State → Prop) (ls : Array Slot) (A : Nat → Prop), xc_At p s m args meth c y.cls (xc_ws y b n none) b n → va_P D xn_cl ws s.heap → xc_K D cI cZ cJ s → va_D A ws → (∀ q : Nat, s.heap.size ≤ q → A q) → va_S A s.heap s.heap [] → lv_has ls n (lv_args 0 av) → xc_T sa A s s.heap →
      (∀ (u : S) (H : Heap) (locs : List Loc) (cells slots pc : Nat) (ls : Array Slot), Φ u → va_P D xn_cl (ws' u) H → va_D A (ws' u) → va_S A s.heap H locs → cells ≤ mc → slots ≤ ms → decode b pc = .ok (.return_, 1) → W p l e (xc_rm k mc ms) s m args below meth c H locs cells slots Q (F0 m pc ls [])) → (∀ (cls : String) (u : S) (H : Heap) (locs : List Loc) (cells slots pc : Nat) (ls : Array Slot), ΦX cls u → va_P D xn_cl (ws' u) H → va_D A (ws' u) → va_S A s.heap H locs → ls.size = n → xc_site b pc cls → cells + 1 ≤ mc → slots + 6 ≤ ms → W p l e (xc_rm k mc ms) s m args below meth c H locs cells slots Q (F0 m pc ls [])) → (∀ (E : String) (ce : Cell) (q : Addr) (u : S) (H : Heap) (locs : List Loc) (cells slots pc : Nat) (ls : Array Slot) (rest : List Value), ΦX E u → va_P D xn_cl (ws' u) H → va_D A (ws' u) → va_S A s.heap H locs → H[q]? = some ce → ce.vm = .none → s.vm.findClass E = some ce.cls → cells ≤ mc → slots ≤ ms → vx_W p l e (xc_rm k mc ms) s m args below meth c H locs cells slots Q (F0 m pc ls rest) q) → W p l e (xc_rm k mc ms) s m args below meth c s.heap [] 0 0 Q (F0 m 0 ls [])) : xc_Xv l y b n k mc ms av D cI cZ cJ sa ws S Φ ΦX ws' := by
  intro sz
  refine vx_ofW (cc := b) (maxL := n) (ret := none) hy rfl ?_
  intro p e s m args below meth c s₁ B hml hno hv
  obtain ⟨ha, hsz, hP, hK, hD0, hT0⟩ := hv
  have hts := atoms_spec (ws := xc_ws y b n none) B.pre
  have hgs : ∀ w ∈ xw_g, w.before args s = true := fun w hw => hts w (List.mem_cons_of_mem _ hw)
  have hown := findClass_of_methodNamed B.named
  obtain ⟨ls, e1, hls⟩ := xc_entry (m := m) (n := n) ha hl
  rw [e1]
  subst hsz
  exact body p e s m args below meth c _ ls (va_A ws s.heap.size) ⟨B.exec, B.bytes, hml, hown, hts, hgs, B.notSynchronized⟩ hP hK hD0.self (fun q h => Or.inr h) va_S.rf hls hT0
    (fun u H locs cells slots pc ls hf hP hD hS hc hs hd => W.widen (k := mc) (n := ms) hc hs (vx_ret (W.vret B.exec B.bytes B.returns (fun t ht _ => ⟨⟨u, rfl, hf, by rw [ht]; exact hP, hD⟩, hS.F ht⟩) hS.2.2 hd B.notSynchronized)))
    (fun cls u H locs cells slots pc ls hf hP hD hS hls hsite hc hs => xc_throw hl0 B.exec B.bytes hml (by rw [← hyc]; exact hown) hgs B.notSynchronized hno hT0 hsite hf hP hD hS hls (show 5 < k by omega) (show 82 ≤ 40 * k by omega) hc hs hc hs)
    (fun E ce q u H locs cells slots pc ls rest hf hP hD hS hq hv hcl hc hs => vx_out (fun x hx => (hno x hx).elim) B.notSynchronized hq hv hcl (fun t ht _ => ⟨u, trivial, ⟨hf, by rw [ht]; exact hP, hD⟩, hS.F ht⟩) hS.2.2 hc hs)
theorem xc_Xi_of {l : Launch} {y : MethodName} {b : ByteArray} {n : Nat} {ret : FieldType} {k mc ms : Nat} {av : List Value} {D : va_G} {cI cZ cJ : ClassId} {sa : Nat → Nat} {ws : va_W} {S : Type} {Φ : Int32 → S → Prop} {ΦX : String → S → Prop} {ws' : S → va_W} (hl0 : l.stackTraces = false) (hk6 : 6 ≤ k) (hy : plainName y.cls = true) (hyc : y.cls = "WishLedger") (hl : (lg_sl av).length ≤ n)
    (body : ∀ (p : Program) (e : Env) (s : State) (m : MethodId) (args : Array Value) (below : List Frame) (meth : Method) (c : Code) (Q : State → Prop) (ls : Array Slot) (A : Nat → Prop), xc_At p s m args meth c y.cls (xc_ws y b n (some ret)) b n → va_P D xn_cl ws s.heap → xc_K D cI cZ cJ s → va_D A ws → (∀ q : Nat, s.heap.size ≤ q → A q) → va_S A s.heap s.heap [] → lv_has ls n (lv_args 0 av) → xc_T sa A s s.heap →
      (∀ (r : Int32) (u : S) (H : Heap) (locs : List Loc) (cells slots pc : Nat) (ls : Array Slot), Φ r u → narrow ret (.int r) = .int r → va_P D xn_cl (ws' u) H → va_D A (ws' u) → va_S A s.heap H locs → cells ≤ mc → slots ≤ ms → decode b pc = .ok (.ireturn, 1) → W p l e (xc_rm k mc ms) s m args below meth c H locs cells slots Q (F0 m pc ls [.int r])) → (∀ (cls : String) (u : S) (H : Heap) (locs : List Loc) (cells slots pc : Nat) (ls : Array Slot), ΦX cls u → va_P D xn_cl (ws' u) H → va_D A (ws' u) → va_S A s.heap H locs → ls.size = n → xc_site b pc cls → cells + 1 ≤ mc → slots + 6 ≤ ms → W p l e (xc_rm k mc ms) s m args below meth c H locs cells slots Q (F0 m pc ls [])) → (∀ (E : String) (ce : Cell) (q : Addr) (u : S) (H : Heap) (locs : List Loc) (cells slots pc : Nat) (ls : Array Slot) (rest : List Value), ΦX E u → va_P D xn_cl (ws' u) H → va_D A (ws' u) → va_S A s.heap H locs → H[q]? = some ce → ce.vm = .none → s.vm.findClass E = some ce.cls → cells ≤ mc → slots ≤ ms → vx_W p l e (xc_rm k mc ms) s m args below meth c H locs cells slots Q (F0 m pc ls rest) q) → W p l e (xc_rm k mc ms) s m args below meth c s.heap [] 0 0 Q (F0 m 0 ls [])) : xc_Xi l y b n ret k mc ms av D cI cZ cJ sa ws S Φ ΦX ws' := by
  intro sz
  refine vx_ofW (cc := b) (maxL := n) (ret := (some ret)) hy rfl ?_
  intro p e s m args below meth c s₁ B hml hno hv
  obtain ⟨ha, hsz, hP, hK, hD0, hT0⟩ := hv
  have hts := atoms_spec (ws := xc_ws y b n (some ret)) B.pre
  have hgs : ∀ w ∈ xw_g, w.before args s = true := fun w hw => hts w (List.mem_cons_of_mem _ hw)
  have hown := findClass_of_methodNamed B.named
  obtain ⟨ls, e1, hls⟩ := xc_entry (m := m) (n := n) ha hl
  rw [e1]
  subst hsz
  exact body p e s m args below meth c _ ls (va_A ws s.heap.size) ⟨B.exec, B.bytes, hml, hown, hts, hgs, B.notSynchronized⟩ hP hK hD0.self (fun q h => Or.inr h) va_S.rf hls hT0
    (fun r u H locs cells slots pc ls hf hn hP hD hS hc hs hd => W.widen (k := mc) (n := ms) hc hs (vx_ret (W.zret B.exec B.bytes B.returns hn (fun t ht _ => ⟨⟨r, u, rfl, hf, by rw [ht]; exact hP, hD⟩, hS.F ht⟩) hS.2.2 hd B.notSynchronized)))
    (fun cls u H locs cells slots pc ls hf hP hD hS hls hsite hc hs => xc_throw hl0 B.exec B.bytes hml (by rw [← hyc]; exact hown) hgs B.notSynchronized hno hT0 hsite hf hP hD hS hls (show 5 < k by omega) (show 82 ≤ 40 * k by omega) hc hs hc hs)
    (fun E ce q u H locs cells slots pc ls rest hf hP hD hS hq hv hcl hc hs => vx_out (fun x hx => (hno x hx).elim) B.notSynchronized hq hv hcl (fun t ht _ => ⟨u, trivial, ⟨hf, by rw [ht]; exact hP, hD⟩, hS.F ht⟩) hS.2.2 hc hs)
section XT
variable {p : Program} {l : Launch} {e : Env} {R : Room} {s : State} {m : MethodId} {args : Array Value} {below : List Frame} {meth : Method} {c : Code} {H : Heap} {locs : List Loc} {cells slots : Nat} {Q : State → Prop}
variable {cc : ByteArray} {pc nL : Nat} {ls : Array Slot} {rest : List Value} {own : String} {Ts : List Cond} {D : va_G} {cI cZ cJ : ClassId} {A : Nat → Prop} {index n k mc ms : Nat} {y : MethodName} {b : ByteArray} {ret : FieldType} {av : List Value} {ws wc wr : va_W} {C0 : String} {a0 : Nat} {S : Type} {ws2 : S → va_W} {sa : Nat → Nat} {ΦX : String → S → Prop}
theorem xc_xVv {Φ : S → Prop} (C : xc_At p s m args meth c own Ts cc nL) (hT : ∀ w ∈ xw_g, w ∈ Ts) (hM : xc_Xv l y b n k mc ms (.ref a0 :: av) D cI cZ cJ sa wc S Φ ΦX ws2) (hl : Cond.methodLink own index y ∈ xw_g) (hini : Cond.initialized y.cls ∈ xw_g) (hcode : Cond.code y b n none ∈ xw_g) (hin : Cond.instanceMethod y ∈ xw_g) (hse : Cond.selects C0 y y ∈ xw_g) {q0 ci N : Nat} {T0 : u_T} {fs : List Value} (hq : wc[q0]? = some (a0, .inr (ci, fs))) (hci : xn_cl[ci]? = some (C0, T0, N)) {na : Nat} (hna : av.length = na) (hd : y.cls ≠ "java/lang/invoke/MethodHandle" ∧ y.cls ≠ "java/lang/invoke/VarHandle" ∧ (parseMethodDescriptor y.desc).map (fun d => d.parameters.length) = some na) (hR : k + 1 ≤ R.frames ∧ 8 + (n + 11) + 40 * k ≤ R.locals) (hP : va_P D xn_cl ws H) (hD : va_D A ws) (hS : va_S A s.heap H locs) (hA : ∀ q : Nat, s.heap.size ≤ q → A q) (isC isR : List Nat) (hC : isC.map (fun i => ws[i]?) = wc.map some) (hRr : isR.map (fun i => ws[i]?) = wr.map some) (hnc : va_nd isC = true) (hnr : va_nd isR = true) (hdis : ∀ i ∈ isR, i ∉ isC) (hK : xc_K D cI cZ cJ s) (hT0 : xc_T sa A s s.heap) (hls : ls.size = nL) (hW : (rest.map fun v => v.category).sum ≤ 8) (hc : cells + mc ≤ R.cells ∧ slots + ms ≤ R.slots) (hj : decode cc pc = .ok (.invokevirtual index, 3))
    (kx : ∀ (E : String) (ce : Cell) (q : Addr) (u : S) (H1 : Heap) (locs1 : List Loc), ΦX E u → va_P D xn_cl (wr ++ ws2 u) H1 → va_D A (wr ++ ws2 u) → va_S A s.heap H1 locs1 → H1[q]? = some ce → ce.vm = .none → s.vm.findClass E = some ce.cls → vx_W p l e R s m args below meth c H1 locs1 (cells + mc) (slots + ms) Q (F0 m pc ls rest) q)
    (kk : ∀ (u : S) (H1 : Heap) (locs1 : List Loc), Φ u → va_P D xn_cl (wr ++ ws2 u) H1 → va_D A (wr ++ ws2 u) → va_S A s.heap H1 locs1 → W p l e R s m args below meth c H1 locs1 (cells + mc) (slots + ms) Q (F0 m (pc + 3) ls rest)) : W p l e R s m args below meth c H locs cells slots Q (F0 m pc ls (av.reverse ++ .ref a0 :: rest)) := by
  obtain ⟨hx, hb, hml, hown, hts, hgs, -⟩ := C
  have hPc : va_P D xn_cl wc H := fun i q hi => by
    have h1 : (isC.map (fun i => ws[i]?))[i]? = some (some q) := by rw [hC, List.getElem?_map, hi]; rfl
    rw [List.getElem?_map] at h1
    cases hz : isC[i]? with
    | none => rw [hz] at h1; cases h1
    | some j => rw [hz] at h1; exact hP j q (Option.some.inj h1)
  have hDc : va_D A wc := hD.sub isC hnc hC
  have hF := va_free (wc := wc) hD hS hA isC hC
  refine vx_callv (vx_runV (As := av) (rest := rest) ⟨hx, hb, hml, hown, hts⟩ (hM H.size) ⟨callB_of na hts (xc_good hT hcode) rfl rfl rfl (hgs _ hini) (hgs _ hl) hd hR, hgs _ hin, hgs _ hse⟩ ⟨fun a U g mk q => ⟨q.1, q.2.1, q.2.2.1, xc_K_call q.2.2.2.1, q.2.2.2.2.1, xc_T_call q.2.2.2.2.2⟩, xc_recv hPc hK.1 hq hci, fun U hU hW => ⟨rfl, by rw [hU], by rw [hU]; exact hPc, xc_K_warm hW hK, hDc.weaken (fun _ _ _ _ => trivial), by rw [hU]; exact xc_T_at hW hT0 (fun a h1 h2 => hS.2.1 a h1 h2) hF⟩⟩ rfl hna hls rfl (lv_room hW) hj hc) hS (fun q _ h => hF q h) hF (fun q _ h => hF q h) (fun E ce q9 u t H1 locs1 ht hvm _ hB hz1 hk1 hS1 hq hv hcl => ?_) (fun u t H1 locs1 ht hvm hf hB hz1 hk1 hS1 => ?_)
  · obtain ⟨hf, hP1, hD1⟩ := hB
    rw [ht] at hP1
    obtain ⟨hP2, hD2⟩ := va_join (wr := wr) (w1 := ws2 u) hP hD isC isR hC hRr hnr hdis hk1 hF hP1 hD1
    exact kx E ce q9 u H1 locs1 hf hP2 hD2 hS1 hq hv hcl
  · obtain ⟨hP1, hD1⟩ := hB
    rw [ht] at hP1
    obtain ⟨hP2, hD2⟩ := va_join (wr := wr) (w1 := ws2 u) hP hD isC isR hC hRr hnr hdis hk1 hF hP1 hD1
    exact kk u H1 locs1 hf hP2 hD2 hS1
theorem xc_xVi {Φ : Int32 → S → Prop} (C : xc_At p s m args meth c own Ts cc nL) (hT : ∀ w ∈ xw_g, w ∈ Ts) (hM : xc_Xi l y b n ret k mc ms (.ref a0 :: av) D cI cZ cJ sa wc S Φ ΦX ws2) (hl : Cond.methodLink own index y ∈ xw_g) (hini : Cond.initialized y.cls ∈ xw_g) (hcode : Cond.code y b n (some ret) ∈ xw_g) (hin : Cond.instanceMethod y ∈ xw_g) (hse : Cond.selects C0 y y ∈ xw_g) {q0 ci N : Nat} {T0 : u_T} {fs : List Value} (hq : wc[q0]? = some (a0, .inr (ci, fs))) (hci : xn_cl[ci]? = some (C0, T0, N)) {na : Nat} (hna : av.length = na) (hd : y.cls ≠ "java/lang/invoke/MethodHandle" ∧ y.cls ≠ "java/lang/invoke/VarHandle" ∧ (parseMethodDescriptor y.desc).map (fun d => d.parameters.length) = some na) (hR : k + 1 ≤ R.frames ∧ 8 + (n + 11) + 40 * k ≤ R.locals) (hP : va_P D xn_cl ws H) (hD : va_D A ws) (hS : va_S A s.heap H locs) (hA : ∀ q : Nat, s.heap.size ≤ q → A q) (isC isR : List Nat) (hC : isC.map (fun i => ws[i]?) = wc.map some) (hRr : isR.map (fun i => ws[i]?) = wr.map some) (hnc : va_nd isC = true) (hnr : va_nd isR = true) (hdis : ∀ i ∈ isR, i ∉ isC) (hK : xc_K D cI cZ cJ s) (hT0 : xc_T sa A s s.heap) (hls : ls.size = nL) (hW : (rest.map fun v => v.category).sum ≤ 8) (hc : cells + mc ≤ R.cells ∧ slots + ms ≤ R.slots) (hj : decode cc pc = .ok (.invokevirtual index, 3))
    (kx : ∀ (E : String) (ce : Cell) (q : Addr) (u : S) (H1 : Heap) (locs1 : List Loc), ΦX E u → va_P D xn_cl (wr ++ ws2 u) H1 → va_D A (wr ++ ws2 u) → va_S A s.heap H1 locs1 → H1[q]? = some ce → ce.vm = .none → s.vm.findClass E = some ce.cls → vx_W p l e R s m args below meth c H1 locs1 (cells + mc) (slots + ms) Q (F0 m pc ls rest) q)
    (kk : ∀ (r : Int32) (u : S) (H1 : Heap) (locs1 : List Loc), Φ r u → va_P D xn_cl (wr ++ ws2 u) H1 → va_D A (wr ++ ws2 u) → va_S A s.heap H1 locs1 → W p l e R s m args below meth c H1 locs1 (cells + mc) (slots + ms) Q (F0 m (pc + 3) ls (.int r :: rest))) : W p l e R s m args below meth c H locs cells slots Q (F0 m pc ls (av.reverse ++ .ref a0 :: rest)) := by
  obtain ⟨hx, hb, hml, hown, hts, hgs, -⟩ := C
  have hPc : va_P D xn_cl wc H := fun i q hi => by
    have h1 : (isC.map (fun i => ws[i]?))[i]? = some (some q) := by rw [hC, List.getElem?_map, hi]; rfl
    rw [List.getElem?_map] at h1
    cases hz : isC[i]? with
    | none => rw [hz] at h1; cases h1
    | some j => rw [hz] at h1; exact hP j q (Option.some.inj h1)
  have hDc : va_D A wc := hD.sub isC hnc hC
  have hF := va_free (wc := wc) hD hS hA isC hC
  refine vx_calli (vx_runV (As := av) (rest := rest) ⟨hx, hb, hml, hown, hts⟩ (hM H.size) ⟨callB_of na hts (xc_good hT hcode) rfl rfl rfl (hgs _ hini) (hgs _ hl) hd hR, hgs _ hin, hgs _ hse⟩ ⟨fun a U g mk q => ⟨q.1, q.2.1, q.2.2.1, xc_K_call q.2.2.2.1, q.2.2.2.2.1, xc_T_call q.2.2.2.2.2⟩, xc_recv hPc hK.1 hq hci, fun U hU hW => ⟨rfl, by rw [hU], by rw [hU]; exact hPc, xc_K_warm hW hK, hDc.weaken (fun _ _ _ _ => trivial), by rw [hU]; exact xc_T_at hW hT0 (fun a h1 h2 => hS.2.1 a h1 h2) hF⟩⟩ rfl hna hls rfl (lv_room hW) hj hc) hS (fun q _ h => hF q h) hF (fun q _ h => hF q h) (fun E ce q9 u t H1 locs1 ht hvm _ hB hz1 hk1 hS1 hq hv hcl => ?_) (fun r u t H1 locs1 ht hvm hf hB hz1 hk1 hS1 => ?_)
  · obtain ⟨hf, hP1, hD1⟩ := hB
    rw [ht] at hP1
    obtain ⟨hP2, hD2⟩ := va_join (wr := wr) (w1 := ws2 u) hP hD isC isR hC hRr hnr hdis hk1 hF hP1 hD1
    exact kx E ce q9 u H1 locs1 hf hP2 hD2 hS1 hq hv hcl
  · obtain ⟨hP1, hD1⟩ := hB
    rw [ht] at hP1
    obtain ⟨hP2, hD2⟩ := va_join (wr := wr) (w1 := ws2 u) hP hD isC isR hC hRr hnr hdis hk1 hF hP1 hD1
    exact kk r u H1 locs1 hf hP2 hD2 hS1
theorem xc_xSv {Φ : S → Prop} (C : xc_At p s m args meth c own Ts cc nL) (hT : ∀ w ∈ xw_g, w ∈ Ts) (hM : xc_Xv l y b n k mc ms av D cI cZ cJ sa wc S Φ ΦX ws2) (hl : Cond.methodLink own index y ∈ xw_g) (hini : Cond.initialized y.cls ∈ xw_g) (hcode : Cond.code y b n none ∈ xw_g) (hst : Cond.static y ∈ xw_g) {na : Nat} (hna : av.length = na) (hd : y.cls ≠ "java/lang/invoke/MethodHandle" ∧ y.cls ≠ "java/lang/invoke/VarHandle" ∧ (parseMethodDescriptor y.desc).map (fun d => d.parameters.length) = some na) (hR : k + 1 ≤ R.frames ∧ 8 + (n + 11) + 40 * k ≤ R.locals) (hP : va_P D xn_cl ws H) (hD : va_D A ws) (hS : va_S A s.heap H locs) (hA : ∀ q : Nat, s.heap.size ≤ q → A q) (isC isR : List Nat) (hC : isC.map (fun i => ws[i]?) = wc.map some) (hRr : isR.map (fun i => ws[i]?) = wr.map some) (hnc : va_nd isC = true) (hnr : va_nd isR = true) (hdis : ∀ i ∈ isR, i ∉ isC) (hK : xc_K D cI cZ cJ s) (hT0 : xc_T sa A s s.heap) (hls : ls.size = nL) (hW : (rest.map fun v => v.category).sum ≤ 8) (hc : cells + mc ≤ R.cells ∧ slots + ms ≤ R.slots) (hj : decode cc pc = .ok (.invokestatic index, 3))
    (kx : ∀ (E : String) (ce : Cell) (q : Addr) (u : S) (H1 : Heap) (locs1 : List Loc), ΦX E u → va_P D xn_cl (wr ++ ws2 u) H1 → va_D A (wr ++ ws2 u) → va_S A s.heap H1 locs1 → H1[q]? = some ce → ce.vm = .none → s.vm.findClass E = some ce.cls → vx_W p l e R s m args below meth c H1 locs1 (cells + mc) (slots + ms) Q (F0 m pc ls rest) q)
    (kk : ∀ (u : S) (H1 : Heap) (locs1 : List Loc), Φ u → va_P D xn_cl (wr ++ ws2 u) H1 → va_D A (wr ++ ws2 u) → va_S A s.heap H1 locs1 → W p l e R s m args below meth c H1 locs1 (cells + mc) (slots + ms) Q (F0 m (pc + 3) ls rest)) : W p l e R s m args below meth c H locs cells slots Q (F0 m pc ls (av.reverse ++ rest)) := by
  obtain ⟨hx, hb, hml, hown, hts, hgs, -⟩ := C
  have hPc : va_P D xn_cl wc H := fun i q hi => by
    have h1 : (isC.map (fun i => ws[i]?))[i]? = some (some q) := by rw [hC, List.getElem?_map, hi]; rfl
    rw [List.getElem?_map] at h1
    cases hz : isC[i]? with
    | none => rw [hz] at h1; cases h1
    | some j => rw [hz] at h1; exact hP j q (Option.some.inj h1)
  have hDc : va_D A wc := hD.sub isC hnc hC
  have hF := va_free (wc := wc) hD hS hA isC hC
  refine vx_callv (vx_runS (As := av) (rest := rest) ⟨hx, hb, hml, hown, hts⟩ (hM H.size) ⟨callB_of na hts (xc_good hT hcode) rfl rfl rfl (hgs _ hini) (hgs _ hl) hd hR, hgs _ hst⟩ ⟨fun a U g mk q => ⟨q.1, q.2.1, q.2.2.1, xc_K_call q.2.2.2.1, q.2.2.2.2.1, xc_T_call q.2.2.2.2.2⟩, fun U hU hW => ⟨rfl, by rw [hU], by rw [hU]; exact hPc, xc_K_warm hW hK, hDc.weaken (fun _ _ _ _ => trivial), by rw [hU]; exact xc_T_at hW hT0 (fun a h1 h2 => hS.2.1 a h1 h2) hF⟩⟩ rfl hna hls rfl (lv_room hW) hj hc) hS (fun q _ h => hF q h) hF (fun q _ h => hF q h) (fun E ce q9 u t H1 locs1 ht hvm _ hB hz1 hk1 hS1 hq hv hcl => ?_) (fun u t H1 locs1 ht hvm hf hB hz1 hk1 hS1 => ?_)
  · obtain ⟨hf, hP1, hD1⟩ := hB
    rw [ht] at hP1
    obtain ⟨hP2, hD2⟩ := va_join (wr := wr) (w1 := ws2 u) hP hD isC isR hC hRr hnr hdis hk1 hF hP1 hD1
    exact kx E ce q9 u H1 locs1 hf hP2 hD2 hS1 hq hv hcl
  · obtain ⟨hP1, hD1⟩ := hB
    rw [ht] at hP1
    obtain ⟨hP2, hD2⟩ := va_join (wr := wr) (w1 := ws2 u) hP hD isC isR hC hRr hnr hdis hk1 hF hP1 hD1
    exact kk u H1 locs1 hf hP2 hD2 hS1
end XT
