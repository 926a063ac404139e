/-! what a walk stands on; contracts of methods that only read, and of those that write -/
def xc_nwL : List Cond := [Cond.methodLinkNest "WishLedger" 11 xy_B_init "WishLedger", Cond.fieldLinkNest "WishLedger" 172 "WishLedger$Book" "goodCount" "I" "WishLedger", Cond.fieldLinkNest "WishLedger$ShrinkageFinder" 22 "WishLedger$Book" "dayCount" "I" "WishLedger", Cond.fieldLinkNest "WishLedger" 55 "WishLedger$Book" "dayCount" "I" "WishLedger", Cond.methodLinkNest "WishLedger" 18 xy_R_init "WishLedger", Cond.fieldLinkNest "WishLedger$CircleFinder" 41 "WishLedger$Relation" "asGood" "[I" "WishLedger", Cond.fieldLinkNest "WishLedger$CircleFinder" 50 "WishLedger$Relation" "better" "[I" "WishLedger", Cond.methodLinkNest "WishLedger" 25 xy_C_init "WishLedger", Cond.fieldLinkNest "WishLedger" 125 "WishLedger$CircleFinder" "list" "[I" "WishLedger", Cond.methodLinkNest "WishLedger" 32 xy_D_init "WishLedger", Cond.methodLinkNest "WishLedger" 39 xy_S_init "WishLedger", Cond.fieldLinkNest "WishLedger" 139 "WishLedger$ShrinkageFinder" "foundUp" "I" "WishLedger", Cond.fieldLinkNest "WishLedger" 142 "WishLedger$ShrinkageFinder" "foundDown" "I" "WishLedger", Cond.methodLinkNest "WishLedger" 44 xy_B_start "WishLedger", Cond.methodLinkNest "WishLedger" 103 xy_B_everyDay "WishLedger", Cond.methodLinkNest "WishLedger$Book" 29 xy_L_bit "WishLedger", Cond.methodLinkNest "WishLedger" 132 xy_R_read "WishLedger", Cond.methodLinkNest "WishLedger$Relation" 21 xy_L_has "WishLedger", Cond.methodLinkNest "WishLedger$Relation" 29 xy_B_costOf "WishLedger", Cond.methodLinkNest "WishLedger$Relation" 35 xy_L_bit "WishLedger", Cond.methodLinkNest "WishLedger" 106 xy_R_isSensibleWithin "WishLedger", Cond.methodLinkNest "WishLedger" 64 xy_B_addDay "WishLedger", Cond.methodLinkNest "WishLedger" 77 xy_B_setPrice "WishLedger", Cond.methodLinkNest "WishLedger" 84 xy_B_setAmount "WishLedger", Cond.methodLinkNest "WishLedger" 87 xy_B_takeAway "WishLedger", Cond.methodLinkNest "WishLedger" 90 xy_B_costOf "WishLedger", Cond.methodLinkNest "WishLedger" 97 xy_R_steps "WishLedger", Cond.methodLinkNest "WishLedger" 110 xy_R_hasPairAtOdds "WishLedger", Cond.methodLinkNest "WishLedger" 114 xy_C_find "WishLedger", Cond.methodLinkNest "WishLedger$CircleFinder" 37 xy_L_bit "WishLedger", Cond.methodLinkNest "WishLedger$CircleFinder" 33 xy_L_has "WishLedger", Cond.methodLinkNest "WishLedger$CircleFinder" 53 xy_L_member "WishLedger", Cond.methodLinkNest "WishLedger" 136 xy_S_find "WishLedger", Cond.methodLinkNest "WishLedger$ShrinkageFinder" 45 xy_B_costOf "WishLedger", Cond.methodLinkNest "WishLedger" 145 xy_D_find "WishLedger", Cond.methodLinkNest "WishLedger$DropFinder" 26 xy_L_bit "WishLedger", Cond.methodLinkNest "WishLedger$DropFinder" 31 xy_R_isSensibleWithin "WishLedger", Cond.methodLinkNest "WishLedger" 164 xy_R_linkWithin "WishLedger", Cond.methodLinkNest "WishLedger" 167 xy_R_bestOf "WishLedger"]
def xc_isN : Cond → Bool
  | .fieldLinkNest .. => true
  | .methodLinkNest .. => true
  | _ => false
theorem xc_nwL_n : ∀ w ∈ xc_nwL, xc_isN w = true := List.all_eq_true.mp (by decide +kernel)
def xc_nw (U : State) : Prop := ∀ w ∈ xc_nwL, va_Nw w U
theorem xc_nw_warm {s U : State} (hW : s.WarmedH U.vm) (h : xc_nw s) : xc_nw U := by
  intro w hw
  have h1 := h w hw
  have h2 := xc_nwL_n w hw
  cases w <;> first | (exact absurd (show false = true from h2) (by decide)) | (exact va_Nw.warmF hW h1) | (exact va_Nw.warmM hW h1)
theorem xc_nw_same {s U : State} (hv : s.vm = U.vm) (h : xc_nw s) : xc_nw U := by
  intro w hw
  have h1 := h w hw
  have h2 := xc_nwL_n w hw
  cases w <;> first | (exact absurd (show false = true from h2) (by decide)) | (exact va_Nw.same rfl hv h1)
/-- the tables at a state -/
def xc_K (D : va_G) (cI cZ cJ : ClassId) (U : State) : Prop := va_K D xn_cl [(cI, .int), (cZ, .boolean), (cJ, .long)] U ∧ xc_nw U
theorem xc_K_warm {D : va_G} {cI cZ cJ : ClassId} {s U : State} (hW : s.WarmedH U.vm) (h : xc_K D cI cZ cJ s) : xc_K D cI cZ cJ U := ⟨va_K.moved hW.alike h.1, xc_nw_warm hW h.2⟩
theorem xc_K_call {D : va_G} {cI cZ cJ : ClassId} {U : State} {g : JFrame} {mk : MethodId} {a : Array Value} (h : xc_K D cI cZ cJ U) : xc_K D cI cZ cJ (U.calling g mk a) := ⟨va_K.moved (u := U) (U := U.calling g mk a) (Vm.Alike.refl U.vm) h.1, xc_nw_same (s := U) (U := U.calling g mk a) rfl h.2⟩
abbrev xc_rm (k mc ms : Nat) : Room := { frames := k, cells := mc, slots := ms, locals := 40 * k }
abbrev xc_ws (y : MethodName) (b : ByteArray) (n : Nat) (ret : Option FieldType) : List Cond := Cond.code y b n ret :: xw_g
/-- the walk's own facts -/
def xc_At (p : Program) (s : State) (m : MethodId) (args : Array Value) (meth : Method) (c : Code) (own : String) (Ts : List Cond) (b : ByteArray) (n : Nat) : Prop :=
  p.tables.exec = Jvm.exec ∧ c.code = b ∧ c.maxLocals = n ∧ s.vm.findClass own = some m.cls ∧ (∀ w ∈ Ts, w.before args s = true) ∧ (∀ w ∈ xw_g, w.before args s = true) ∧ meth.locks = false
theorem xc_good {y : MethodName} {b : ByteArray} {n : Nat} {ret : Option FieldType} {Ts : List Cond} (hT : ∀ w ∈ xw_g, w ∈ Ts) (hc : Cond.code y b n ret ∈ xw_g) : GoodIn Ts (xc_ws y b n ret) := by
  intro w hw
  have hg : w ∈ xw_g := (List.mem_cons.mp hw).elim (fun e => by rw [e]; exact hc) id
  exact ⟨hT w hg, good_of_word (List.mem_filter.mp hg).2⟩
/-- a method that only reads: its answer is r -/
def xc_R (l : Launch) (y : MethodName) (b : ByteArray) (n : Nat) (ret : FieldType) (k : Nat) (av : List Value) (D : va_G) (cI cZ cJ : ClassId) (ws : va_W) (r : Int32) : Prop :=
  Met l y (xc_ws y b n (some ret)) (xc_rm k 0 0) (va_Pc av (fun U => va_P D xn_cl ws U.heap ∧ xc_K D cI cZ cJ U)) (vp_Si (fun z => z = r)) 0 0 (fun _ => False)
/-- a method that writes: answer and cells by Φ -/
def xc_Wi (l : Launch) (y : MethodName) (b : ByteArray) (n : Nat) (ret : FieldType) (k mc ms : Nat) (av : List Value) (D : va_G) (cI cZ cJ : ClassId) (ws : va_W) (S : Type) (Φ : Int32 → S → Prop) (ws' : S → va_W) : Prop :=
  ∀ sz : Nat, Met l y (xc_ws y b n (some ret)) (xc_rm k mc ms) (va_Pc av (fun U => U.heap.size = sz ∧ va_P D xn_cl ws U.heap ∧ xc_K D cI cZ cJ U ∧ va_D (fun _ => True) ws)) (va_Qi Φ (fun u t => va_P D xn_cl (ws' u) t.heap ∧ va_D (va_A ws sz) (ws' u)) (va_A ws sz)) mc ms (va_A ws sz)
def xc_Wv (l : Launch) (y : MethodName) (b : ByteArray) (n : Nat) (k mc ms : Nat) (av : List Value) (D : va_G) (cI cZ cJ : ClassId) (ws : va_W) (S : Type) (Φ : S → Prop) (ws' : S → va_W) : Prop :=
  ∀ sz : Nat, Met l y (xc_ws y b n none) (xc_rm k mc ms) (va_Pc av (fun U => U.heap.size = sz ∧ va_P D xn_cl ws U.heap ∧ xc_K D cI cZ cJ U ∧ va_D (fun _ => True) ws)) (va_Qv Φ (fun u t => va_P D xn_cl (ws' u) t.heap ∧ va_D (va_A ws sz) (ws' u)) (va_A ws sz)) mc ms (va_A ws sz)
theorem xc_entry {m : MethodId} {args : Array Value} {av : List Value} {n : Nat} (ha : args = av.toArray) (h : (lg_sl av).length ≤ n) : ∃ ls : Array Slot, entryFrame m args n = F0 m 0 ls [] ∧ lv_has ls n (lv_args 0 av) := by
  subst ha
  exact ⟨_, lg_entry_eq m av n, lv_entry av h⟩
theorem xc_R_of {l : Launch} {y : MethodName} {b : ByteArray} {n : Nat} {ret : FieldType} {k : Nat} {av : List Value} {D : va_G} {cI cZ cJ : ClassId} {ws : va_W} {r : Int32} (hy : plainName y.cls = true) (hl : (lg_sl av).length ≤ n) (hn : narrow ret (.int r) = .int r)
    (body : ∀ (p : Program) (e : Env) (s : State) (m : MethodId) (args : Array Value) (below : List Frame) (meth : Method) (c : Code) (Q : State → Prop) (ls : Array Slot), xc_At p s m args meth c y.cls (xc_ws y b n (some ret)) b n → va_P D xn_cl ws s.heap → xc_K D cI cZ cJ s → lv_has ls n (lv_args 0 av) →
      (∀ (pc : Nat) (ls : Array Slot), decode b pc = .ok (.ireturn, 1) → W p l e (xc_rm k 0 0) s m args below meth c s.heap [] 0 0 Q (F0 m pc ls [.int r])) → W p l e (xc_rm k 0 0) s m args below meth c s.heap [] 0 0 Q (F0 m 0 ls [])) : xc_R l y b n ret k av D cI cZ cJ ws r := by
  refine Met.ofW (cc := b) (maxL := n) (ret := some ret) hy rfl ?_
  intro p e s m args below meth c s₁ B hml hv
  obtain ⟨ha, hP, hK⟩ := hv
  have hts := atoms_spec (ws := xc_ws y b n (some ret)) B.pre
  obtain ⟨ls, e1, hls⟩ := xc_entry (m := m) (n := n) ha hl
  rw [e1]
  exact body p e s m args below meth c _ ls ⟨B.exec, B.bytes, hml, findClass_of_methodNamed B.named, hts, fun w hw => hts w (List.mem_cons_of_mem _ hw), B.notSynchronized⟩ hP hK hls
    (fun pc ls hd => W.zret B.exec B.bytes B.returns hn (fun t ht _ => ⟨r, rfl, rfl, ht⟩) (fun q h => by cases h) hd B.notSynchronized)
theorem xc_Wi_of {l : Launch} {y : MethodName} {b : ByteArray} {n : Nat} {ret : FieldType} {k mc ms : Nat} {av : List Value} {D : va_G} {cI cZ cJ : ClassId} {ws : va_W} {S : Type} {Φ : Int32 → S → Prop} {ws' : S → va_W} (hy : plainName y.cls = true) (hl : (lg_sl av).length ≤ n)
    (body : ∀ (p : Program) (e : Env) (s : State) (m : MethodId) (args : Array Value) (below : List Frame) (meth : Method) (c : Code) (Q : State → Prop) (ls : Array Slot) (A : Nat → Prop), xc_At p s m args meth c y.cls (xc_ws y b n (some ret)) b n → va_P D xn_cl ws s.heap → xc_K D cI cZ cJ s → va_D A ws → (∀ q : Nat, s.heap.size ≤ q → A q) → va_S A s.heap s.heap [] → lv_has ls n (lv_args 0 av) →
      (∀ (r : Int32) (u : S) (H : Heap) (locs : List Loc) (pc : Nat) (ls : Array Slot), Φ r u → narrow ret (.int r) = .int r → va_P D xn_cl (ws' u) H → va_D A (ws' u) → va_S A s.heap H locs → decode b pc = .ok (.ireturn, 1) → W p l e (xc_rm k mc ms) s m args below meth c H locs mc ms Q (F0 m pc ls [.int r])) → W p l e (xc_rm k mc ms) s m args below meth c s.heap [] 0 0 Q (F0 m 0 ls [])) : xc_Wi l y b n ret k mc ms av D cI cZ cJ ws S Φ ws' := by
  intro sz
  refine Met.ofW (cc := b) (maxL := n) (ret := some ret) hy rfl ?_
  intro p e s m args below meth c s₁ B hml hv
  obtain ⟨ha, hsz, hP, hK, hD0⟩ := hv
  have hts := atoms_spec (ws := xc_ws y b n (some ret)) B.pre
  obtain ⟨ls, e1, hls⟩ := xc_entry (m := m) (n := n) ha hl
  rw [e1]
  subst hsz
  exact body p e s m args below meth c _ ls (va_A ws s.heap.size) ⟨B.exec, B.bytes, hml, findClass_of_methodNamed B.named, hts, fun w hw => hts w (List.mem_cons_of_mem _ hw), B.notSynchronized⟩ hP hK hD0.self (fun q h => Or.inr h) va_S.rf hls
    (fun r u H locs pc ls hf hn hP hD hS hd => W.zret B.exec B.bytes B.returns hn (fun t ht _ => ⟨⟨r, u, rfl, hf, by rw [ht]; exact hP, hD⟩, hS.F ht⟩) hS.2.2 hd B.notSynchronized)
theorem xc_Wv_of {l : Launch} {y : MethodName} {b : ByteArray} {n : Nat} {k mc ms : Nat} {av : List Value} {D : va_G} {cI cZ cJ : ClassId} {ws : va_W} {S : Type} {Φ : S → Prop} {ws' : S → va_W} (hy : plainName y.cls = true) (hl : (lg_sl av).length ≤ n)
    (body : ∀ (p : Program) (e : Env) (s : State) (m : MethodId) (args : Array Value) (below : List Frame) (meth : Method) (c : Code) (Q : State → Prop) (ls : Array Slot) (A : Nat → Prop), xc_At p s m args meth c y.cls (xc_ws y b n none) b n → meth.name = y.name → va_P D xn_cl ws s.heap → xc_K D cI cZ cJ s → va_D A ws → (∀ q : Nat, s.heap.size ≤ q → A q) → va_S A s.heap s.heap [] → lv_has ls n (lv_args 0 av) →
      (∀ (u : S) (H : Heap) (locs : List Loc) (pc : Nat) (ls : Array Slot), Φ u → va_P D xn_cl (ws' u) H → va_D A (ws' u) → va_S A s.heap H locs → decode b pc = .ok (.return_, 1) → W p l e (xc_rm k mc ms) s m args below meth c H locs mc ms Q (F0 m pc ls [])) → W p l e (xc_rm k mc ms) s m args below meth c s.heap [] 0 0 Q (F0 m 0 ls [])) : xc_Wv l y b n k mc ms av D cI cZ cJ ws S Φ ws' := by
  intro sz
  refine Met.ofW (cc := b) (maxL := n) (ret := none) hy rfl ?_
  intro p e s m args below meth c s₁ B hml hv
  obtain ⟨ha, hsz, hP, hK, hD0⟩ := hv
  have hts := atoms_spec (ws := xc_ws y b n none) B.pre
  obtain ⟨ls, e1, hls⟩ := xc_entry (m := m) (n := n) ha hl
  rw [e1]
  subst hsz
  exact body p e s m args below meth c _ ls (va_A ws s.heap.size) ⟨B.exec, B.bytes, hml, findClass_of_methodNamed B.named, hts, fun w hw => hts w (List.mem_cons_of_mem _ hw), B.notSynchronized⟩ (name_of_methodNamed B.named B.method).1 hP hK hD0.self (fun q h => Or.inr h) va_S.rf hls
    (fun u H locs pc ls hf hP hD hS hd => W.vret B.exec B.bytes B.returns (fun t ht _ => ⟨⟨u, rfl, hf, by rw [ht]; exact hP, hD⟩, hS.F ht⟩) hS.2.2 hd B.notSynchronized)
section XC
variable {p : Program} {l : Launch} {e : Env} {R : Room} {s : State} {m : MethodId} {args : Array Value} {below : List Frame} {meth : Method} {c : Code} {H : Heap} {locs : List Loc} {cells slots : Nat} {Q : State → Prop}
variable {cc : ByteArray} {pc nL : Nat} {ls : Array Slot} {rest : List Value} {own : String} {Ts : List Cond} {D : va_G} {cI cZ cJ : ClassId} {A : Nat → Prop} {index n k kk mc ms : Nat} {y : MethodName} {b : ByteArray} {ret : FieldType} {av : List Value} {ws wc wr : va_W} {r : Int32}
theorem xc_callS (C : xc_At p s m args meth c own Ts cc nL) (hT : ∀ w ∈ xw_g, w ∈ Ts) (hM : xc_R l y b n ret k av D cI cZ cJ wc r) (hl : Cond.methodLink own index y ∈ xw_g) (hini : Cond.initialized y.cls ∈ xw_g) (hcode : Cond.code y b n (some ret) ∈ xw_g) (hst : Cond.static y ∈ xw_g) {na : Nat} (hna : av.length = na) (hd : y.cls ≠ "java/lang/invoke/MethodHandle" ∧ y.cls ≠ "java/lang/invoke/VarHandle" ∧ (parseMethodDescriptor y.desc).map (fun d => d.parameters.length) = some na) (hR : k + 1 ≤ R.frames ∧ 8 + (n + 11) + 40 * k ≤ R.locals) (hP : va_P D xn_cl wc H) (hK : xc_K D cI cZ cJ s) (hls : ls.size = nL) (hW : (rest.map fun v => v.category).sum ≤ 8) (hc : cells ≤ R.cells ∧ slots ≤ R.slots) (hj : decode cc pc = .ok (.invokestatic index, 3))
    (kk : W p l e R s m args below meth c H locs cells slots Q (F0 m (pc + 3) ls (.int r :: rest))) : W p l e R s m args below meth c H locs cells slots Q (F0 m pc ls (av.reverse ++ rest)) := by
  obtain ⟨hx, hb, hml, hown, hts, hgs, -⟩ := C
  exact xr_call (va_runS (As := av) (rest := rest) ⟨hx, hb, hml, hown, hts⟩ hM ⟨callB_of na hts (xc_good hT hcode) rfl rfl rfl (hgs _ hini) (hgs _ hl) hd hR, hgs _ hst⟩ ⟨fun a U g mk q => ⟨q.1, q.2.1, xc_K_call q.2.2⟩, fun U hU hW => ⟨rfl, by rw [hU]; exact hP, xc_K_warm hW hK⟩⟩ rfl hna hls rfl (lv_room hW) hj hc) (fun z hz => by rw [hz]; exact kk)
theorem xc_callSN (C : xc_At p s m args meth c own Ts cc nL) (hT : ∀ w ∈ xw_g, w ∈ Ts) (hM : xc_R l y b n ret k av D cI cZ cJ wc r) (hl : Cond.methodLinkNest own index y xn_L ∈ xc_nwL) (hini : Cond.initialized y.cls ∈ xw_g) (hcode : Cond.code y b n (some ret) ∈ xw_g) (hst : Cond.static y ∈ xw_g) {na : Nat} (hna : av.length = na) (hd : y.cls ≠ "java/lang/invoke/MethodHandle" ∧ y.cls ≠ "java/lang/invoke/VarHandle" ∧ (parseMethodDescriptor y.desc).map (fun d => d.parameters.length) = some na) (hR : k + 1 ≤ R.frames ∧ 8 + (n + 11) + 40 * k ≤ R.locals) (hP : va_P D xn_cl wc H) (hK : xc_K D cI cZ cJ s) (hls : ls.size = nL) (hW : (rest.map fun v => v.category).sum ≤ 8) (hc : cells ≤ R.cells ∧ slots ≤ R.slots) (hj : decode cc pc = .ok (.invokestatic index, 3))
    (kk : W p l e R s m args below meth c H locs cells slots Q (F0 m (pc + 3) ls (.int r :: rest))) : W p l e R s m args below meth c H locs cells slots Q (F0 m pc ls (av.reverse ++ rest)) := by
  obtain ⟨hx, hb, hml, hown, hts, hgs, -⟩ := C
  exact xr_call (va_runSN (As := av) (rest := rest) ⟨hx, hb, hml, hown, hts⟩ hM ⟨va_cnB na hts (xc_good hT hcode) rfl rfl rfl (hK.2 _ hl) (hgs _ hini) hd hR, hgs _ hst, trivial⟩ ⟨fun a U g mk q => ⟨q.1, q.2.1, xc_K_call q.2.2⟩, fun U hU hW => ⟨rfl, by rw [hU]; exact hP, xc_K_warm hW hK⟩⟩ rfl hna hls rfl (lv_room hW) hj hc) (fun z hz => by rw [hz]; exact kk)
variable {C0 : String} {a0 : Nat}
theorem xc_recv {q0 ci N : Nat} {T0 : u_T} {fs : List Value} {a0 : Nat} (hP : va_P D xn_cl wc H) (hK : va_K D xn_cl [(cI, .int), (cZ, .boolean), (cJ, .long)] s) (hq : wc[q0]? = some (a0, .inr (ci, fs))) (hci : xn_cl[ci]? = some (C0, T0, N)) : ∃ cellB : Cell, H[a0]? = some cellB ∧ cellB.vm.isStatics = false ∧ s.vm.findClass C0 = some cellB.cls := by
  obtain ⟨r0, h1, cell, h2, h3, h4, -⟩ := hP q0 _ hq
  have hr : r0 = (C0, T0, N) := Option.some.inj (h1.symm.trans hci)
  subst hr
  exact ⟨cell, h2, by rw [h4]; rfl, by rw [h3]; exact (hK.1 ci _ hci).2.1⟩
theorem xc_callV (C : xc_At p s m args meth c own Ts cc nL) (hT : ∀ w ∈ xw_g, w ∈ Ts) (hM : xc_R l y b n ret k (.ref a0 :: av) D cI cZ cJ wc r) (hl : Cond.methodLink own index y ∈ xw_g) (hini : Cond.initialized y.cls ∈ xw_g) (hcode : Cond.code y b n (some ret) ∈ xw_g) (hin : Cond.instanceMethod y ∈ xw_g) (hse : Cond.selects C0 y y ∈ xw_g) {q0 ci N : Nat} {T0 : u_T} {fs : List Value} (hq : wc[q0]? = some (a0, .inr (ci, fs))) (hci : xn_cl[ci]? = some (C0, T0, N)) {na : Nat} (hna : av.length = na) (hd : y.cls ≠ "java/lang/invoke/MethodHandle" ∧ y.cls ≠ "java/lang/invoke/VarHandle" ∧ (parseMethodDescriptor y.desc).map (fun d => d.parameters.length) = some na) (hR : k + 1 ≤ R.frames ∧ 8 + (n + 11) + 40 * k ≤ R.locals) (hP : va_P D xn_cl wc H) (hK : xc_K D cI cZ cJ s) (hls : ls.size = nL) (hW : (rest.map fun v => v.category).sum ≤ 8) (hc : cells ≤ R.cells ∧ slots ≤ R.slots) (hj : decode cc pc = .ok (.invokevirtual index, 3))
    (kk : W p l e R s m args below meth c H locs cells slots Q (F0 m (pc + 3) ls (.int r :: rest))) : W p l e R s m args below meth c H locs cells slots Q (F0 m pc ls (av.reverse ++ .ref a0 :: rest)) := by
  obtain ⟨hx, hb, hml, hown, hts, hgs, -⟩ := C
  exact xr_call (va_runV (As := av) (rest := rest) ⟨hx, hb, hml, hown, hts⟩ hM ⟨callB_of na hts (xc_good hT hcode) rfl rfl rfl (hgs _ hini) (hgs _ hl) hd hR, hgs _ hin, hgs _ hse⟩ ⟨fun a U g mk q => ⟨q.1, q.2.1, xc_K_call q.2.2⟩, xc_recv hP hK.1 hq hci, fun U hU hW => ⟨rfl, by rw [hU]; exact hP, xc_K_warm hW hK⟩⟩ rfl hna hls rfl (lv_room hW) hj hc) (fun z hz => by rw [hz]; exact kk)
theorem xc_callVN (C : xc_At p s m args meth c own Ts cc nL) (hT : ∀ w ∈ xw_g, w ∈ Ts) (hM : xc_R l y b n ret k (.ref a0 :: av) D cI cZ cJ wc r) (hl : Cond.methodLinkNest own index y xn_L ∈ xc_nwL) (hini : Cond.initialized y.cls ∈ xw_g) (hcode : Cond.code y b n (some ret) ∈ xw_g) (hin : Cond.instanceMethod y ∈ xw_g) (hse : Cond.selects C0 y y ∈ xw_g) {q0 ci N : Nat} {T0 : u_T} {fs : List Value} (hq : wc[q0]? = some (a0, .inr (ci, fs))) (hci : xn_cl[ci]? = some (C0, T0, N)) {na : Nat} (hna : av.length = na) (hd : y.cls ≠ "java/lang/invoke/MethodHandle" ∧ y.cls ≠ "java/lang/invoke/VarHandle" ∧ (parseMethodDescriptor y.desc).map (fun d => d.parameters.length) = some na) (hR : k + 1 ≤ R.frames ∧ 8 + (n + 11) + 40 * k ≤ R.locals) (hP : va_P D xn_cl wc H) (hK : xc_K D cI cZ cJ s) (hls : ls.size = nL) (hW : (rest.map fun v => v.category).sum ≤ 8) (hc : cells ≤ R.cells ∧ slots ≤ R.slots) (hj : decode cc pc = .ok (.invokevirtual index, 3))
    (kk : W p l e R s m args below meth c H locs cells slots Q (F0 m (pc + 3) ls (.int r :: rest))) : W p l e R s m args below meth c H locs cells slots Q (F0 m pc ls (av.reverse ++ .ref a0 :: rest)) := by
  obtain ⟨hx, hb, hml, hown, hts, hgs, -⟩ := C
  exact xr_call (va_runVN (As := av) (rest := rest) ⟨hx, hb, hml, hown, hts⟩ hM ⟨va_cnB na hts (xc_good hT hcode) rfl rfl rfl (hK.2 _ hl) (hgs _ hini) hd hR, hgs _ hin, hgs _ hse⟩ ⟨fun a U g mk q => ⟨q.1, q.2.1, xc_K_call q.2.2⟩, xc_recv hP hK.1 hq hci, fun U hU hW => ⟨rfl, by rw [hU]; exact hP, xc_K_warm hW hK⟩⟩ rfl hna hls rfl (lv_room hW) hj hc) (fun z hz => by rw [hz]; exact kk)
variable {S : Type} {ws2 : S → va_W}
theorem xc_wVv {Φ : S → Prop} (C : xc_At p s m args meth c own Ts cc nL) (hT : ∀ w ∈ xw_g, w ∈ Ts) (hM : xc_Wv l y b n k mc ms (.ref a0 :: av) D cI cZ cJ wc S Φ ws2) (hl : Cond.methodLink own index y ∈ xw_g) (hini : Cond.initialized y.cls ∈ xw_g) (hcode : Cond.code y b n none ∈ xw_g) (hin : Cond.instanceMethod y ∈ xw_g) (hse : Cond.selects C0 y y ∈ xw_g) {q0 ci N : Nat} {T0 : u_T} {fs : List Value} (hq : wc[q0]? = some (a0, .inr (ci, fs))) (hci : xn_cl[ci]? = some (C0, T0, N)) {na : Nat} (hna : av.length = na) (hd : y.cls ≠ "java/lang/invoke/MethodHandle" ∧ y.cls ≠ "java/lang/invoke/VarHandle" ∧ (parseMethodDescriptor y.desc).map (fun d => d.parameters.length) = some na) (hR : k + 1 ≤ R.frames ∧ 8 + (n + 11) + 40 * k ≤ R.locals) (hP : va_P D xn_cl ws H) (hD : va_D A ws) (hS : va_S A s.heap H locs) (hA : ∀ q : Nat, s.heap.size ≤ q → A q) (isC isR : List Nat) (hC : isC.map (fun i => ws[i]?) = wc.map some) (hRr : isR.map (fun i => ws[i]?) = wr.map some) (hnc : va_nd isC = true) (hnr : va_nd isR = true) (hdis : ∀ i ∈ isR, i ∉ isC) (hK : xc_K D cI cZ cJ s) (hls : ls.size = nL) (hW : (rest.map fun v => v.category).sum ≤ 8) (hc : cells + mc ≤ R.cells ∧ slots + ms ≤ R.slots) (hj : decode cc pc = .ok (.invokevirtual index, 3))
    (kk : ∀ (u : S) (H1 : Heap) (locs1 : List Loc), Φ u → va_P D xn_cl (wr ++ ws2 u) H1 → va_D A (wr ++ ws2 u) → va_S A s.heap H1 locs1 → W p l e R s m args below meth c H1 locs1 (cells + mc) (slots + ms) Q (F0 m (pc + 3) ls rest)) : W p l e R s m args below meth c H locs cells slots Q (F0 m pc ls (av.reverse ++ .ref a0 :: rest)) := by
  obtain ⟨hx, hb, hml, hown, hts, hgs, -⟩ := C
  have hPc : va_P D xn_cl wc H := fun i q hi => by
    have h1 : (isC.map (fun i => ws[i]?))[i]? = some (some q) := by rw [hC, List.getElem?_map, hi]; rfl
    rw [List.getElem?_map] at h1
    cases hz : isC[i]? with
    | none => rw [hz] at h1; cases h1
    | some j => rw [hz] at h1; exact hP j q (Option.some.inj h1)
  have hDc : va_D A wc := hD.sub isC hnc hC
  have hF := va_free (wc := wc) hD hS hA isC hC
  refine va_callv (va_runV (As := av) (rest := rest) ⟨hx, hb, hml, hown, hts⟩ (hM H.size) ⟨callB_of na hts (xc_good hT hcode) rfl rfl rfl (hgs _ hini) (hgs _ hl) hd hR, hgs _ hin, hgs _ hse⟩ ⟨fun a U g mk q => ⟨q.1, q.2.1, q.2.2.1, xc_K_call q.2.2.2.1, q.2.2.2.2⟩, xc_recv hPc hK.1 hq hci, fun U hU hW => ⟨rfl, by rw [hU], by rw [hU]; exact hPc, xc_K_warm hW hK, hDc.weaken (fun _ _ _ _ => trivial)⟩⟩ rfl hna hls rfl (lv_room hW) hj hc) hS (fun q _ h => hF q h) hF (fun u t H1 locs1 ht hvm hf hB hz1 hk1 hS1 => ?_)
  obtain ⟨hP1, hD1⟩ := hB
  rw [ht] at hP1
  obtain ⟨hP2, hD2⟩ := va_join (wr := wr) (w1 := ws2 u) hP hD isC isR hC hRr hnr hdis hk1 hF hP1 hD1
  exact kk u H1 locs1 hf hP2 hD2 hS1
theorem xc_wVNv {Φ : S → Prop} (C : xc_At p s m args meth c own Ts cc nL) (hT : ∀ w ∈ xw_g, w ∈ Ts) (hM : xc_Wv l y b n k mc ms (.ref a0 :: av) D cI cZ cJ wc S Φ ws2) (hl : Cond.methodLinkNest own index y xn_L ∈ xc_nwL) (hini : Cond.initialized y.cls ∈ xw_g) (hcode : Cond.code y b n none ∈ xw_g) (hin : Cond.instanceMethod y ∈ xw_g) (hse : Cond.selects C0 y y ∈ xw_g) {q0 ci N : Nat} {T0 : u_T} {fs : List Value} (hq : wc[q0]? = some (a0, .inr (ci, fs))) (hci : xn_cl[ci]? = some (C0, T0, N)) {na : Nat} (hna : av.length = na) (hd : y.cls ≠ "java/lang/invoke/MethodHandle" ∧ y.cls ≠ "java/lang/invoke/VarHandle" ∧ (parseMethodDescriptor y.desc).map (fun d => d.parameters.length) = some na) (hR : k + 1 ≤ R.frames ∧ 8 + (n + 11) + 40 * k ≤ R.locals) (hP : va_P D xn_cl ws H) (hD : va_D A ws) (hS : va_S A s.heap H locs) (hA : ∀ q : Nat, s.heap.size ≤ q → A q) (isC isR : List Nat) (hC : isC.map (fun i => ws[i]?) = wc.map some) (hRr : isR.map (fun i => ws[i]?) = wr.map some) (hnc : va_nd isC = true) (hnr : va_nd isR = true) (hdis : ∀ i ∈ isR, i ∉ isC) (hK : xc_K D cI cZ cJ s) (hls : ls.size = nL) (hW : (rest.map fun v => v.category).sum ≤ 8) (hc : cells + mc ≤ R.cells ∧ slots + ms ≤ R.slots) (hj : decode cc pc = .ok (.invokevirtual index, 3))
    (kk : ∀ (u : S) (H1 : Heap) (locs1 : List Loc), Φ u → va_P D xn_cl (wr ++ ws2 u) H1 → va_D A (wr ++ ws2 u) → va_S A s.heap H1 locs1 → W p l e R s m args below meth c H1 locs1 (cells + mc) (slots + ms) Q (F0 m (pc + 3) ls rest)) : W p l e R s m args below meth c H locs cells slots Q (F0 m pc ls (av.reverse ++ .ref a0 :: rest)) := by
  obtain ⟨hx, hb, hml, hown, hts, hgs, -⟩ := C
  have hPc : va_P D xn_cl wc H := fun i q hi => by
    have h1 : (isC.map (fun i => ws[i]?))[i]? = some (some q) := by rw [hC, List.getElem?_map, hi]; rfl
    rw [List.getElem?_map] at h1
    cases hz : isC[i]? with
    | none => rw [hz] at h1; cases h1
    | some j => rw [hz] at h1; exact hP j q (Option.some.inj h1)
  have hDc : va_D A wc := hD.sub isC hnc hC
  have hF := va_free (wc := wc) hD hS hA isC hC
  refine va_callv (va_runVN (As := av) (rest := rest) ⟨hx, hb, hml, hown, hts⟩ (hM H.size) ⟨va_cnB na hts (xc_good hT hcode) rfl rfl rfl (hK.2 _ hl) (hgs _ hini) hd hR, hgs _ hin, hgs _ hse⟩ ⟨fun a U g mk q => ⟨q.1, q.2.1, q.2.2.1, xc_K_call q.2.2.2.1, q.2.2.2.2⟩, xc_recv hPc hK.1 hq hci, fun U hU hW => ⟨rfl, by rw [hU], by rw [hU]; exact hPc, xc_K_warm hW hK, hDc.weaken (fun _ _ _ _ => trivial)⟩⟩ rfl hna hls rfl (lv_room hW) hj hc) hS (fun q _ h => hF q h) hF (fun u t H1 locs1 ht hvm hf hB hz1 hk1 hS1 => ?_)
  obtain ⟨hP1, hD1⟩ := hB
  rw [ht] at hP1
  obtain ⟨hP2, hD2⟩ := va_join (wr := wr) (w1 := ws2 u) hP hD isC isR hC hRr hnr hdis hk1 hF hP1 hD1
  exact kk u H1 locs1 hf hP2 hD2 hS1
theorem xc_wVi {Φ : Int32 → S → Prop} (C : xc_At p s m args meth c own Ts cc nL) (hT : ∀ w ∈ xw_g, w ∈ Ts) (hM : xc_Wi l y b n ret k mc ms (.ref a0 :: av) D cI cZ cJ wc S Φ ws2) (hl : Cond.methodLink own index y ∈ xw_g) (hini : Cond.initialized y.cls ∈ xw_g) (hcode : Cond.code y b n (some ret) ∈ xw_g) (hin : Cond.instanceMethod y ∈ xw_g) (hse : Cond.selects C0 y y ∈ xw_g) {q0 ci N : Nat} {T0 : u_T} {fs : List Value} (hq : wc[q0]? = some (a0, .inr (ci, fs))) (hci : xn_cl[ci]? = some (C0, T0, N)) {na : Nat} (hna : av.length = na) (hd : y.cls ≠ "java/lang/invoke/MethodHandle" ∧ y.cls ≠ "java/lang/invoke/VarHandle" ∧ (parseMethodDescriptor y.desc).map (fun d => d.parameters.length) = some na) (hR : k + 1 ≤ R.frames ∧ 8 + (n + 11) + 40 * k ≤ R.locals) (hP : va_P D xn_cl ws H) (hD : va_D A ws) (hS : va_S A s.heap H locs) (hA : ∀ q : Nat, s.heap.size ≤ q → A q) (isC isR : List Nat) (hC : isC.map (fun i => ws[i]?) = wc.map some) (hRr : isR.map (fun i => ws[i]?) = wr.map some) (hnc : va_nd isC = true) (hnr : va_nd isR = true) (hdis : ∀ i ∈ isR, i ∉ isC) (hK : xc_K D cI cZ cJ s) (hls : ls.size = nL) (hW : (rest.map fun v => v.category).sum ≤ 8) (hc : cells + mc ≤ R.cells ∧ slots + ms ≤ R.slots) (hj : decode cc pc = .ok (.invokevirtual index, 3))
    (kk : ∀ (r : Int32) (u : S) (H1 : Heap) (locs1 : List Loc), Φ r u → va_P D xn_cl (wr ++ ws2 u) H1 → va_D A (wr ++ ws2 u) → va_S A s.heap H1 locs1 → W p l e R s m args below meth c H1 locs1 (cells + mc) (slots + ms) Q (F0 m (pc + 3) ls (.int r :: rest))) : W p l e R s m args below meth c H locs cells slots Q (F0 m pc ls (av.reverse ++ .ref a0 :: rest)) := by
  obtain ⟨hx, hb, hml, hown, hts, hgs, -⟩ := C
  have hPc : va_P D xn_cl wc H := fun i q hi => by
    have h1 : (isC.map (fun i => ws[i]?))[i]? = some (some q) := by rw [hC, List.getElem?_map, hi]; rfl
    rw [List.getElem?_map] at h1
    cases hz : isC[i]? with
    | none => rw [hz] at h1; cases h1
    | some j => rw [hz] at h1; exact hP j q (Option.some.inj h1)
  have hDc : va_D A wc := hD.sub isC hnc hC
  have hF := va_free (wc := wc) hD hS hA isC hC
  refine va_calli (va_runV (As := av) (rest := rest) ⟨hx, hb, hml, hown, hts⟩ (hM H.size) ⟨callB_of na hts (xc_good hT hcode) rfl rfl rfl (hgs _ hini) (hgs _ hl) hd hR, hgs _ hin, hgs _ hse⟩ ⟨fun a U g mk q => ⟨q.1, q.2.1, q.2.2.1, xc_K_call q.2.2.2.1, q.2.2.2.2⟩, xc_recv hPc hK.1 hq hci, fun U hU hW => ⟨rfl, by rw [hU], by rw [hU]; exact hPc, xc_K_warm hW hK, hDc.weaken (fun _ _ _ _ => trivial)⟩⟩ rfl hna hls rfl (lv_room hW) hj hc) hS (fun q _ h => hF q h) hF (fun r u t H1 locs1 ht hvm hf hB hz1 hk1 hS1 => ?_)
  obtain ⟨hP1, hD1⟩ := hB
  rw [ht] at hP1
  obtain ⟨hP2, hD2⟩ := va_join (wr := wr) (w1 := ws2 u) hP hD isC isR hC hRr hnr hdis hk1 hF hP1 hD1
  exact kk r u H1 locs1 hf hP2 hD2 hS1
theorem xc_wVNi {Φ : Int32 → S → Prop} (C : xc_At p s m args meth c own Ts cc nL) (hT : ∀ w ∈ xw_g, w ∈ Ts) (hM : xc_Wi l y b n ret k mc ms (.ref a0 :: av) D cI cZ cJ wc S Φ ws2) (hl : Cond.methodLinkNest own index y xn_L ∈ xc_nwL) (hini : Cond.initialized y.cls ∈ xw_g) (hcode : Cond.code y b n (some ret) ∈ xw_g) (hin : Cond.instanceMethod y ∈ xw_g) (hse : Cond.selects C0 y y ∈ xw_g) {q0 ci N : Nat} {T0 : u_T} {fs : List Value} (hq : wc[q0]? = some (a0, .inr (ci, fs))) (hci : xn_cl[ci]? = some (C0, T0, N)) {na : Nat} (hna : av.length = na) (hd : y.cls ≠ "java/lang/invoke/MethodHandle" ∧ y.cls ≠ "java/lang/invoke/VarHandle" ∧ (parseMethodDescriptor y.desc).map (fun d => d.parameters.length) = some na) (hR : k + 1 ≤ R.frames ∧ 8 + (n + 11) + 40 * k ≤ R.locals) (hP : va_P D xn_cl ws H) (hD : va_D A ws) (hS : va_S A s.heap H locs) (hA : ∀ q : Nat, s.heap.size ≤ q → A q) (isC isR : List Nat) (hC : isC.map (fun i => ws[i]?) = wc.map some) (hRr : isR.map (fun i => ws[i]?) = wr.map some) (hnc : va_nd isC = true) (hnr : va_nd isR = true) (hdis : ∀ i ∈ isR, i ∉ isC) (hK : xc_K D cI cZ cJ s) (hls : ls.size = nL) (hW : (rest.map fun v => v.category).sum ≤ 8) (hc : cells + mc ≤ R.cells ∧ slots + ms ≤ R.slots) (hj : decode cc pc = .ok (.invokevirtual index, 3))
    (kk : ∀ (r : Int32) (u : S) (H1 : Heap) (locs1 : List Loc), Φ r u → va_P D xn_cl (wr ++ ws2 u) H1 → va_D A (wr ++ ws2 u) → va_S A s.heap H1 locs1 → W p l e R s m args below meth c H1 locs1 (cells + mc) (slots + ms) Q (F0 m (pc + 3) ls (.int r :: rest))) : W p l e R s m args below meth c H locs cells slots Q (F0 m pc ls (av.reverse ++ .ref a0 :: rest)) := by
  obtain ⟨hx, hb, hml, hown, hts, hgs, -⟩ := C
  have hPc : va_P D xn_cl wc H := fun i q hi => by
    have h1 : (isC.map (fun i => ws[i]?))[i]? = some (some q) := by rw [hC, List.getElem?_map, hi]; rfl
    rw [List.getElem?_map] at h1
    cases hz : isC[i]? with
    | none => rw [hz] at h1; cases h1
    | some j => rw [hz] at h1; exact hP j q (Option.some.inj h1)
  have hDc : va_D A wc := hD.sub isC hnc hC
  have hF := va_free (wc := wc) hD hS hA isC hC
  refine va_calli (va_runVN (As := av) (rest := rest) ⟨hx, hb, hml, hown, hts⟩ (hM H.size) ⟨va_cnB na hts (xc_good hT hcode) rfl rfl rfl (hK.2 _ hl) (hgs _ hini) hd hR, hgs _ hin, hgs _ hse⟩ ⟨fun a U g mk q => ⟨q.1, q.2.1, q.2.2.1, xc_K_call q.2.2.2.1, q.2.2.2.2⟩, xc_recv hPc hK.1 hq hci, fun U hU hW => ⟨rfl, by rw [hU], by rw [hU]; exact hPc, xc_K_warm hW hK, hDc.weaken (fun _ _ _ _ => trivial)⟩⟩ rfl hna hls rfl (lv_room hW) hj hc) hS (fun q _ h => hF q h) hF (fun r u t H1 locs1 ht hvm hf hB hz1 hk1 hS1 => ?_)
  obtain ⟨hP1, hD1⟩ := hB
  rw [ht] at hP1
  obtain ⟨hP2, hD2⟩ := va_join (wr := wr) (w1 := ws2 u) hP hD isC isR hC hRr hnr hdis hk1 hF hP1 hD1
  exact kk r u H1 locs1 hf hP2 hD2 hS1
theorem xc_wI {Φ : S → Prop} (C : xc_At p s m args meth c own Ts cc nL) (hT : ∀ w ∈ xw_g, w ∈ Ts) (hM : xc_Wv l y b n k mc ms (.ref a0 :: av) D cI cZ cJ wc S Φ ws2) (hl : Cond.methodLink own index y ∈ xw_g) (hini : Cond.initialized y.cls ∈ xw_g) (hcode : Cond.code y b n none ∈ xw_g) (hin : Cond.instanceMethod y ∈ xw_g) (hy1 : y.name = "<init>") {na : Nat} (hna : av.length = na) (hd : y.cls ≠ "java/lang/invoke/MethodHandle" ∧ y.cls ≠ "java/lang/invoke/VarHandle" ∧ (parseMethodDescriptor y.desc).map (fun d => d.parameters.length) = some na) (hR : k + 1 ≤ R.frames ∧ 8 + (n + 11) + 40 * k ≤ R.locals) (hP : va_P D xn_cl ws H) (hD : va_D A ws) (hS : va_S A s.heap H locs) (hA : ∀ q : Nat, s.heap.size ≤ q → A q) (isC isR : List Nat) (hC : isC.map (fun i => ws[i]?) = wc.map some) (hRr : isR.map (fun i => ws[i]?) = wr.map some) (hnc : va_nd isC = true) (hnr : va_nd isR = true) (hdis : ∀ i ∈ isR, i ∉ isC) (hK : xc_K D cI cZ cJ s) (hls : ls.size = nL) (hW : (rest.map fun v => v.category).sum ≤ 8) (hc : cells + mc ≤ R.cells ∧ slots + ms ≤ R.slots) (hj : decode cc pc = .ok (.invokespecial index, 3))
    (kk : ∀ (u : S) (H1 : Heap) (locs1 : List Loc), Φ u → va_P D xn_cl (wr ++ ws2 u) H1 → va_D A (wr ++ ws2 u) → va_S A s.heap H1 locs1 → W p l e R s m args below meth c H1 locs1 (cells + mc) (slots + ms) Q (F0 m (pc + 3) ls rest)) : W p l e R s m args below meth c H locs cells slots Q (F0 m pc ls (av.reverse ++ .ref a0 :: rest)) := by
  obtain ⟨hx, hb, hml, hown, hts, hgs, -⟩ := C
  have hPc : va_P D xn_cl wc H := fun i q hi => by
    have h1 : (isC.map (fun i => ws[i]?))[i]? = some (some q) := by rw [hC, List.getElem?_map, hi]; rfl
    rw [List.getElem?_map] at h1
    cases hz : isC[i]? with
    | none => rw [hz] at h1; cases h1
    | some j => rw [hz] at h1; exact hP j q (Option.some.inj h1)
  have hDc : va_D A wc := hD.sub isC hnc hC
  have hF := va_free (wc := wc) hD hS hA isC hC
  refine va_callv (va_runI (As := av) (rest := rest) ⟨hx, hb, hml, hown, hts⟩ (hM H.size) ⟨callB_of na hts (xc_good hT hcode) rfl rfl rfl (hgs _ hini) (hgs _ hl) hd hR, hy1, hgs _ hin⟩ ⟨fun a U g mk q => ⟨q.1, q.2.1, q.2.2.1, xc_K_call q.2.2.2.1, q.2.2.2.2⟩, fun U hU hW => ⟨rfl, by rw [hU], by rw [hU]; exact hPc, xc_K_warm hW hK, hDc.weaken (fun _ _ _ _ => trivial)⟩⟩ rfl hna hls rfl (lv_room hW) hj hc) hS (fun q _ h => hF q h) hF (fun u t H1 locs1 ht hvm hf hB hz1 hk1 hS1 => ?_)
  obtain ⟨hP1, hD1⟩ := hB
  rw [ht] at hP1
  obtain ⟨hP2, hD2⟩ := va_join (wr := wr) (w1 := ws2 u) hP hD isC isR hC hRr hnr hdis hk1 hF hP1 hD1
  exact kk u H1 locs1 hf hP2 hD2 hS1
theorem xc_wIN {Φ : S → Prop} (C : xc_At p s m args meth c own Ts cc nL) (hT : ∀ w ∈ xw_g, w ∈ Ts) (hM : xc_Wv l y b n k mc ms (.ref a0 :: av) D cI cZ cJ wc S Φ ws2) (hl : Cond.methodLinkNest own index y xn_L ∈ xc_nwL) (hini : Cond.initialized y.cls ∈ xw_g) (hcode : Cond.code y b n none ∈ xw_g) (hin : Cond.instanceMethod y ∈ xw_g) (hy1 : y.name = "<init>") {na : Nat} (hna : av.length = na) (hd : y.cls ≠ "java/lang/invoke/MethodHandle" ∧ y.cls ≠ "java/lang/invoke/VarHandle" ∧ (parseMethodDescriptor y.desc).map (fun d => d.parameters.length) = some na) (hR : k + 1 ≤ R.frames ∧ 8 + (n + 11) + 40 * k ≤ R.locals) (hP : va_P D xn_cl ws H) (hD : va_D A ws) (hS : va_S A s.heap H locs) (hA : ∀ q : Nat, s.heap.size ≤ q → A q) (isC isR : List Nat) (hC : isC.map (fun i => ws[i]?) = wc.map some) (hRr : isR.map (fun i => ws[i]?) = wr.map some) (hnc : va_nd isC = true) (hnr : va_nd isR = true) (hdis : ∀ i ∈ isR, i ∉ isC) (hK : xc_K D cI cZ cJ s) (hls : ls.size = nL) (hW : (rest.map fun v => v.category).sum ≤ 8) (hc : cells + mc ≤ R.cells ∧ slots + ms ≤ R.slots) (hj : decode cc pc = .ok (.invokespecial index, 3))
    (kk : ∀ (u : S) (H1 : Heap) (locs1 : List Loc), Φ u → va_P D xn_cl (wr ++ ws2 u) H1 → va_D A (wr ++ ws2 u) → va_S A s.heap H1 locs1 → W p l e R s m args below meth c H1 locs1 (cells + mc) (slots + ms) Q (F0 m (pc + 3) ls rest)) : W p l e R s m args below meth c H locs cells slots Q (F0 m pc ls (av.reverse ++ .ref a0 :: rest)) := by
  obtain ⟨hx, hb, hml, hown, hts, hgs, -⟩ := C
  have hPc : va_P D xn_cl wc H := fun i q hi => by
    have h1 : (isC.map (fun i => ws[i]?))[i]? = some (some q) := by rw [hC, List.getElem?_map, hi]; rfl
    rw [List.getElem?_map] at h1
    cases hz : isC[i]? with
    | none => rw [hz] at h1; cases h1
    | some j => rw [hz] at h1; exact hP j q (Option.some.inj h1)
  have hDc : va_D A wc := hD.sub isC hnc hC
  have hF := va_free (wc := wc) hD hS hA isC hC
  refine va_callv (va_runIN (As := av) (rest := rest) ⟨hx, hb, hml, hown, hts⟩ (hM H.size) ⟨va_cnB na hts (xc_good hT hcode) rfl rfl rfl (hK.2 _ hl) (hgs _ hini) hd hR, hy1, hgs _ hin⟩ ⟨fun a U g mk q => ⟨q.1, q.2.1, q.2.2.1, xc_K_call q.2.2.2.1, q.2.2.2.2⟩, fun U hU hW => ⟨rfl, by rw [hU], by rw [hU]; exact hPc, xc_K_warm hW hK, hDc.weaken (fun _ _ _ _ => trivial)⟩⟩ rfl hna hls rfl (lv_room hW) hj hc) hS (fun q _ h => hF q h) hF (fun u t H1 locs1 ht hvm hf hB hz1 hk1 hS1 => ?_)
  obtain ⟨hP1, hD1⟩ := hB
  rw [ht] at hP1
  obtain ⟨hP2, hD2⟩ := va_join (wr := wr) (w1 := ws2 u) hP hD isC isR hC hRr hnr hdis hk1 hF hP1 hD1
  exact kk u H1 locs1 hf hP2 hD2 hS1
end XC
