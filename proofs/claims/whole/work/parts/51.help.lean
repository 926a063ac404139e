/-! the law's own helpers: they catch what the calls throw -/
def xc_N (U : State) : Prop := va_Nw (.castable xn_EA xn_EA) U ∧ va_Nw (.castable xn_ES xn_ES) U ∧ va_Nw (.castable xn_EX xn_EX) U ∧ va_Nc xn_EA xn_EX U ∧ va_Nc xn_EX xn_ES U
theorem xc_N_at {u U : State} (hvm : u.vm.Alike U.vm) (h : xc_N u) : xc_N U := ⟨xc_D_moved rfl hvm h.1, xc_D_moved rfl hvm h.2.1, xc_D_moved rfl hvm h.2.2.1, va_Nc.moved hvm h.2.2.2.1, va_Nc.moved hvm h.2.2.2.2⟩
theorem xc_N_call {U : State} {g : JFrame} {mk : MethodId} {a : Array Value} (h : xc_N U) : xc_N (U.calling g mk a) := xc_N_at (u := U) (U := U.calling g mk a) (Vm.Alike.refl U.vm) h
def xc_Hi (l : Launch) (y : MethodName) (b : ByteArray) (n : Nat) (hh : List (Nat × Nat × Nat × Nat)) (k mc ms : Nat) (av : List Value) (D : va_G) (cI cZ cJ : ClassId) (sa : Nat → Nat) (ws : va_W) (S : Type) (Φ : Int32 → S → Prop) (ws' : S → va_W) : Prop :=
  ∀ sz : Nat, Met l y (Cond.codeWith y b n (some .int) hh :: xw_g) (xc_rm k mc ms) (va_Pc av (fun U => U.heap.size = sz ∧ va_P D xn_cl ws U.heap ∧ xc_K D cI cZ cJ U ∧ va_D (fun _ => True) ws ∧ xc_T sa (va_A ws sz) U U.heap ∧ xc_N U)) (va_Qi Φ (fun u t => va_P D xn_cl (ws' u) t.heap ∧ va_D (va_A ws sz) (ws' u)) (va_A ws sz)) mc ms (va_A ws sz)
theorem xc_Hi_of {l : Launch} {y : MethodName} {b : ByteArray} {n : Nat} {hh : List (Nat × Nat × Nat × Nat)} {k mc ms : Nat} {av : List Value} {D : va_G} {cI cZ cJ : ClassId} {sa : Nat → Nat} {ws : va_W} {S : Type} {Φ : Int32 → S → Prop} {ws' : S → va_W} (hy : plainName y.cls = true) (hl : (lg_sl av).length ≤ n)
    (body : ∀ (p : Program) (e : Env) (s : State) (m : MethodId) (args : Array Value) (below : List Frame) (meth : Method) (c : Code) (Q : State → Prop) (ls : Array Slot) (A : Nat → Prop), xc_At p s m args meth c y.cls (Cond.codeWith y b n (some .int) hh :: xw_g) b n → va_P D xn_cl ws s.heap → xc_K D cI cZ cJ s → va_D A ws → (∀ q : Nat, s.heap.size ≤ q → A q) → va_S A s.heap s.heap [] → lv_has ls n (lv_args 0 av) → xc_T sa A s s.heap → xc_N s → c.exceptionTable.toList = tableOf hh →
      (∀ (r : Int32) (u : S) (H : Heap) (locs : List Loc) (cells slots pc : Nat) (ls : Array Slot), Φ r u → va_P D xn_cl (ws' u) H → va_D A (ws' u) → va_S A s.heap H locs → cells ≤ mc → slots ≤ ms → decode b pc = .ok (.ireturn, 1) → W p l e (xc_rm k mc ms) s m args below meth c H locs cells slots Q (F0 m pc ls [.int r])) → W p l e (xc_rm k mc ms) s m args below meth c s.heap [] 0 0 Q (F0 m 0 ls [])) : xc_Hi l y b n hh k mc ms av D cI cZ cJ sa ws S Φ ws' := by
  intro sz
  refine va_MetW (cc := b) (maxL := n) (ret := some .int) (hh := hh) hy rfl ?_
  intro p e s m args below meth c s₁ B hml hv
  obtain ⟨ha, hsz, hP, hK, hD0, hT0, hN⟩ := hv
  have hts := atoms_spec (ws := Cond.codeWith y b n (some .int) hh :: xw_g) B.pre
  obtain ⟨ls, e1, hls⟩ := xc_entry (m := m) (n := n) ha hl
  rw [e1]
  subst hsz
  exact body p e s m args below meth c _ ls (va_A ws s.heap.size) ⟨B.exec, B.bytes, hml, findClass_of_methodNamed B.named, hts, fun w hw => hts w (List.mem_cons_of_mem _ hw), B.notSynchronized⟩ hP hK hD0.self (fun q h => Or.inr h) va_S.rf hls hT0 hN (vx_table (x := y) B (hts _ List.mem_cons_self))
    (fun r u H locs cells slots pc ls hf hP hD hS hc hs hd => W.widen (k := mc) (n := ms) hc hs (W.zret B.exec B.bytes B.returns rfl (fun t ht _ => ⟨⟨r, u, rfl, hf, by rw [ht]; exact hP, hD⟩, hS.F ht⟩) hS.2.2 hd B.notSynchronized))
section XH
variable {p : Program} {l : Launch} {e : Env} {R : Room} {s : State} {m : MethodId} {args : Array Value} {below : List Frame} {meth : Method} {c : Code} {H : Heap} {locs : List Loc} {cells slots : Nat} {Q : State → Prop}
variable {cc : ByteArray} {pc nL : Nat} {ls : Array Slot} {rest : List Value} {own : String} {Ts : List Cond} {D : va_G} {cI cZ cJ : ClassId} {A : Nat → Prop} {index n k mc ms : Nat} {y : MethodName} {b : ByteArray} {av : List Value} {ws wc wr : va_W} {S : Type} {ws2 : S → va_W} {sa : Nat → Nat} {hh : List (Nat × Nat × Nat × Nat)}
theorem xc_hS {Φ : Int32 → S → Prop} (C : xc_At p s m args meth c own Ts cc nL) (hT : ∀ w ∈ xw_g, w ∈ Ts) (hM : xc_Hi l y b n hh k mc ms av D cI cZ cJ sa wc S Φ ws2) (hl : Cond.methodLink own index y ∈ xw_g) (hini : Cond.initialized y.cls ∈ xw_g) (hcode : Cond.codeWith y b n (some .int) hh ∈ xw_g) (hst : Cond.static y ∈ xw_g) {na : Nat} (hna : av.length = na) (hd : y.cls ≠ "java/lang/invoke/MethodHandle" ∧ y.cls ≠ "java/lang/invoke/VarHandle" ∧ (parseMethodDescriptor y.desc).map (fun d => d.parameters.length) = some na) (hR : k + 1 ≤ R.frames ∧ 8 + (n + 11) + 40 * k ≤ R.locals)
    (hP : va_P D xn_cl ws H) (hD : va_D A ws) (hS : va_S A s.heap H locs) (hA : ∀ q : Nat, s.heap.size ≤ q → A q) (isC isR : List Nat) (hC : isC.map (fun i => ws[i]?) = wc.map some) (hRr : isR.map (fun i => ws[i]?) = wr.map some) (hnc : va_nd isC = true) (hnr : va_nd isR = true) (hdis : ∀ i ∈ isR, i ∉ isC) (hK : xc_K D cI cZ cJ s) (hT0 : xc_T sa A s s.heap) (hN : xc_N s) (hls : ls.size = nL) (hW : (rest.map fun v => v.category).sum ≤ 8) (hc : cells + mc ≤ R.cells ∧ slots + ms ≤ R.slots) (hj : decode cc pc = .ok (.invokestatic index, 3))
    (kk : ∀ (r : Int32) (u : S) (H1 : Heap) (locs1 : List Loc), Φ r u → va_P D xn_cl (wr ++ ws2 u) H1 → va_D A (wr ++ ws2 u) → va_S A s.heap H1 locs1 → W p l e R s m args below meth c H1 locs1 (cells + mc) (slots + ms) Q (F0 m (pc + 3) ls (.int r :: rest))) : W p l e R s m args below meth c H locs cells slots Q (F0 m pc ls (av.reverse ++ rest)) := by
  obtain ⟨hx, hb, hml, hown, hts, hgs, -⟩ := C
  have hPc : va_P D xn_cl wc H := fun i q hi => by
    have h1 : (isC.map (fun i => ws[i]?))[i]? = some (some q) := by rw [hC, List.getElem?_map, hi]; rfl
    rw [List.getElem?_map] at h1
    cases hz : isC[i]? with
    | none => rw [hz] at h1; cases h1
    | some j => rw [hz] at h1; exact hP j q (Option.some.inj h1)
  have hDc : va_D A wc := hD.sub isC hnc hC
  have hF := va_free (wc := wc) hD hS hA isC hC
  have hG : GoodIn Ts (va_wsS own index y (Cond.codeWith y b n (some .int) hh :: xw_g)) := by
    intro w hw
    have hg : w ∈ xw_g := by
      unfold va_wsS at hw
      rcases List.mem_append.mp hw with h | h
      · rcases List.mem_cons.mp h with h | h
        · rw [h]; exact hl
        · rcases List.mem_cons.mp h with h | h
          · rw [h]; exact hst
          · rw [List.mem_singleton.mp h]; exact hini
      · rcases List.mem_cons.mp h with h | h
        · rw [h]; exact hcode
        · exact h
    exact ⟨hT w hg, good_of_word (List.mem_filter.mp hg).2⟩
  refine va_calli (vx_runSW (As := av) (rest := rest) ⟨hx, hb, hml, hown, hts⟩ (hM H.size) (vx_cwSW na hts hG rfl rfl rfl hd hR) ⟨fun a U g mk q => ⟨q.1, q.2.1, q.2.2.1, xc_K_call q.2.2.2.1, q.2.2.2.2.1, xc_T_call q.2.2.2.2.2.1, xc_N_call q.2.2.2.2.2.2⟩, fun U hU hW => ⟨rfl, by rw [hU], by rw [hU]; exact hPc, xc_K_warm hW hK, hDc.weaken (fun _ _ _ _ => trivial), by rw [hU]; exact xc_T_at hW hT0 (fun a h1 h2 => hS.2.1 a h1 h2) hF, xc_N_at hW.alike hN⟩⟩ rfl hna hls rfl (lv_room hW) hj hc) hS (fun q _ h => hF q h) hF (fun r u t H1 locs1 ht hvm hf hB hz1 hk1 hS1 => ?_)
  obtain ⟨hP1, hD1⟩ := hB
  rw [ht] at hP1
  obtain ⟨hP2, hD2⟩ := va_join (wr := wr) (w1 := ws2 u) hP hD isC isR hC hRr hnr hdis hk1 hF hP1 hD1
  exact kk r u H1 locs1 hf hP2 hD2 hS1
variable {cl : List vw_C} {a : Nat} {tys : List (ClassId × FieldType)} {H0 : Heap}
theorem xr_jald (hx : p.tables.exec = Jvm.exec) (hb : c.code = cc) (hK : va_K D cl tys s) (hP : va_P D cl ws H) (q0 t0 : Nat) {cA : ClassId} {n : Nat} {f : Nat → Int64} (ha : ws[q0]? = some (a, .inl (cA, n, .inr (.inl f)))) (ht : tys[t0]? = some (cA, .long)) {k : Nat} (hk : k < n) (hn : n < 2 ^ 31) (hd : decode cc pc = .ok (.laload, 1)) (kk : W p l e R s m args below meth c H locs cells slots Q (F0 m (pc + 1) ls (.long (f k) :: rest))) : W p l e R s m args below meth c H locs cells slots Q (F0 m pc ls (.int (nI k) :: .ref a :: rest)) := va_lald hx hb hK hP q0 t0 ha ht (vp_in_nI hk hn) hd (by rw [nI_clamp (by omega)]; exact kk)
theorem xr_jast (hx : p.tables.exec = Jvm.exec) (hb : c.code = cc) (hK : va_K D cl tys s) (hP : va_P D cl ws H) (hD : va_D A ws) (hS : va_S A H0 H locs) (q0 t0 : Nat) {cA : ClassId} {n : Nat} {f : Nat → Int64} (ha : ws[q0]? = some (a, .inl (cA, n, .inr (.inl f)))) (ht : tys[t0]? = some (cA, .long)) {k : Nat} {x : Int64} (hk : k < n) (hn : n < 2 ^ 31) (hd : decode cc pc = .ok (.lastore, 1)) (kk : ∀ (H1 : Heap) (locs1 : List Loc), va_P D cl (ws.set q0 (a, .inl (cA, n, .inr (.inl (vp_updL f k x))))) H1 → va_D A (ws.set q0 (a, .inl (cA, n, .inr (.inl (vp_updL f k x))))) → va_S A H0 H1 locs1 → W p l e R s m args below meth c H1 locs1 cells slots Q (F0 m (pc + 1) ls rest)) : W p l e R s m args below meth c H locs cells slots Q (F0 m pc ls (.long x :: .int (nI k) :: .ref a :: rest)) := va_last hx hb hK hP hD hS q0 t0 ha ht (vp_in_nI hk hn) hd (by rw [nI_clamp (by omega)]; exact kk)
end XH
