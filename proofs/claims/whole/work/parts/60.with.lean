/-! Methods with a table of handlers: their body begins, a call of them -/
section WITH
variable {l : Launch} {I I' : MI} {pc : Nat} {lv : List (Nat × Value)} {M : List va_E} {k n : Nat} {out : Out}
theorem Cx.beginW {as : List Value} {hh : List (Nat × Nat × Nat × Nat)} {cc : ByteArray} {maxL : Nat} {ret : Option FieldType} {S : Spec} (hS0 : S = headSpec I.ws I.rm) (hc1 : cc = I.cc) (hc2 : maxL = I.nL) (hc3 : ret = I.ret) (hw : I.ws = [Cond.codeWith I.y I.cc I.nL I.ret hh]) (ho : I.own = I.y.cls) (hnm : I.nm = I.y.name) (htab : I.tab = tableOf hh) (hlen : (lg_sl as).length ≤ I.nL)
    {D : va_G} {cA ad : Nat → Nat} {sz : Nat} {p : Program} {e : Env} {s : State} {m : MethodId} {args : Array Value} {below : List Frame} {meth : Method} {c : Code} {s₁ : State} (B : BodyLoose p l I.y S cc maxL ret e s m args below meth c s₁) (hml : c.maxLocals = maxL) (hv : Ps I.ex D cA ad as M sz args s) :
    ∃ ls, entryFrame m args maxL = F0 m 0 ls [] ∧ Cx I D cA ad p s m args meth c (va_A (pw ad cA M) sz) [] s.heap ls (lv_args 0 as) M := by
  subst hc1 hc2 hc3 hS0
  obtain ⟨hargs, hsz, hP, hK, hD0, hZ, hN, hX⟩ := hv
  have hts := atoms_spec (ws := I.ws) B.pre
  have htb : c.exceptionTable.toList = tableOf hh := by
    obtain ⟨m9, meth9, c9, h0, h1, h2, -, -, h5, -⟩ := Cond.codeWith_spec (hts _ (by rw [hw]; exact List.mem_cons_self))
    cases Option.some.inj (h0.symm.trans B.named)
    cases Option.some.inj (h1.symm.trans B.method)
    cases Option.some.inj (h2.symm.trans (Stand.of_body B).code)
    rw [← h5, table_eq]
  have hl := lv_entry (as.map (pv ad)) (n := I.nL) (by rw [sl_len]; exact hlen)
  rw [args_map] at hl
  refine ⟨_, by rw [hargs]; exact lg_entry_eq _ _ _, B.exec, B.bytes, hml, B.returns, B.notSynchronized, ?_, htb.trans htab.symm, hN, ?_, hK, hP, ?_, va_S.rf, ⟨?_, hX⟩, ?_, hl⟩
  · rw [hnm]; exact (name_of_methodNamed B.named B.method).1
  · rw [ho]; exact findClass_of_methodNamed B.named
  · exact hD0.self
  · intro q hq; rw [← hsz]; exact Or.inr hq
  · exact hZ
/-- a contract out of a walk, for a method with a table -/
theorem Con.ofJW {as : List Value} {hh : List (Nat × Nat × Nat × Nat)} {r : Option Value × List va_E} (hy : plainName I.y.cls = true) (hw : I.ws = [Cond.codeWith I.y I.cc I.nL I.ret hh]) (ho : I.own = I.y.cls) (hnm : I.nm = I.y.name) (htab : I.tab = tableOf hh) (hlen : (lg_sl as).length ≤ I.nL)
    (hJ : J l I 0 (lv_args 0 as) [] M 0 0 (.inl r)) : Con l I as M (.inl r) := by
  intro D cA ad sz
  refine va_MetW (cc := I.cc) (maxL := I.nL) (ret := I.ret) (hh := hh) hy hw ?_
  intro p e s m args below meth c s₁ B hml hv
  obtain ⟨ls, e1, hCx⟩ := Cx.beginW rfl rfl rfl rfl hw ho hnm htab hlen B hml hv
  rw [e1]
  exact hJ D cA ad p e s m args below meth c _ [] s.heap ls hCx
theorem callSW {p : Program} {e : Env} {R : Room} {s : State} {m : MethodId} {args : Array Value} {below : List Frame} {meth : Method} {c : Code} {T : State} {locs : List Loc} {cells slots : Nat} (X : Stand p l e R s m args below meth c T locs cells slots) (hexec : p.tables.exec = Jvm.exec) {own : String} {index : Nat} {y : MethodName} {bytes : ByteArray} {maxL : Nat} {ret : Option FieldType} {hh : List (Nat × Nat × Nat × Nat)}
    (hown : s.vm.findClass own = some m.cls) (hlink : (Cond.methodLink own index y).before args s = true) (hstat : (Cond.static y).before args s = true) (hinit : (Cond.initialized y.cls).before args s = true)
    (hcode : (Cond.codeWith y bytes maxL ret hh).before args s = true) (hy : y.cls ≠ "java/lang/invoke/MethodHandle" ∧ y.cls ≠ "java/lang/invoke/VarHandle")
    {W9 : Nat} {Pre : Pt → Array Value → Prop} {Post : Pt → Array Value → Option Value → Pt → Prop} (hK : Back l R p e below s args y 3 W9 Pre Post)
    {g : JFrame} (hg : g.method = m) (hsize : g.locals.size = c.maxLocals) {argsL rest : List Value} (hlen : ∀ sig, parseMethodDescriptor y.desc = some sig → argsL.length = sig.parameters.length)
    (hstack : g.stack = argsL.reverse ++ rest) (hW : 2 * g.monitorRoom + (rest.map fun v => v.category).sum ≤ W9) (hdg : decode c.code g.pc = .ok (.invokestatic index, 3))
    (hpre : ∀ vm₁, s.WarmedH vm₁ → Pre ⟨T.setVm vm₁, locs, cells, slots⟩ argsL.toArray) :
    ∃ (v : Option Value) (vm₁ : Vm) (B : Pt), s.WarmedH vm₁ ∧ Stand p l e R s m args below meth c B.U B.locs B.cells B.slots ∧ Post ⟨T.setVm vm₁, locs, cells, slots⟩ argsL.toArray v B ∧
      ∀ target, Steps p.tables e below (B.U.setTop { g with pc := g.pc + 3, stack := v.toList ++ rest }) target → Steps p.tables e below (T.setTop g) target := by
  obtain ⟨mk, methM, cM, hnamed, hmethM, -, -, -, -, -, -, hsigM⟩ := Cond.codeWith_spec hcode
  have hstatic : methM.isStatic = true := Cond.static_spec hnamed hmethM hstat
  obtain ⟨kP, hkP, -⟩ := className_of_methodNamed hnamed
  have hinitP : kP.init = .initialized := Cond.initialized_spec (findClass_of_methodNamed hnamed) hkP hinit
  obtain ⟨vm₁, X₁, hstep₁⟩ := X.invokestatic hexec hown hlink hnamed hmethM hstatic hkP hinitP hy (g := g) hg (argsL := argsL) (rest := rest) (hlen _ hsigM) hstack hdg
  obtain ⟨v, B, X', hpost, hsteps⟩ := hK m meth c ⟨T.setVm vm₁, locs, cells, slots⟩ { g with stack := rest } (.invokestatic index) mk argsL.toArray X₁ hg hsize hdg hW (X₁.named hnamed) (hpre vm₁ X₁.warmed)
  exact ⟨v, vm₁, B, X₁.warmed, X', hpost, fun target h => hstep₁ _ fun acts => by rw [doInvoke_state]; exact hsteps.trans h⟩
/-- what a call of such a method links -/
def CallSW (I I' : MI) (index na : Nat) (hh : List (Nat × Nat × Nat × Nat)) : Prop := (I'.rm.cells = I'.mc ∧ (I'.ex = none ∨ I'.ex = I.ex)) ∧ I'.rm.slots = I'.ms ∧ I'.rm.frames + 1 ≤ I.rm.frames ∧ 8 + (I'.nL + 11) + I'.rm.locals ≤ I.rm.locals ∧ I'.ws = [Cond.codeWith I'.y I'.cc I'.nL I'.ret hh] ∧ Cond.codeWith I'.y I'.cc I'.nL I'.ret hh ∈ lw_tbl ∧ Cond.initialized I'.y.cls ∈ lw_tbl ∧ (I'.y.cls ≠ "java/lang/invoke/MethodHandle" ∧ I'.y.cls ≠ "java/lang/invoke/VarHandle") ∧ (parseMethodDescriptor I'.y.desc).map (fun d => d.parameters.length) = some na ∧ Cond.methodLink I.own index I'.y ∈ lw_tbl ∧ Cond.static I'.y ∈ lw_tbl
theorem J.invokestaticW {index na : Nat} {hh : List (Nat × Nat × Nat × Nat)} {as rest : List Value} {r : Option Value} {M' : List va_E} (hC : Con l I' as M (.inl (r, M'))) (hc : CallSW I I' index na hh) (hd : decode I.cc pc = .ok (.invokestatic index, 3)) (hna : as.length = na) (hw : wsum rest ≤ 8) (hf : k + I'.mc ≤ I.rm.cells ∧ n + I'.ms ≤ I.rm.slots)
    (hok : M'.length = M.length ∨ (M.length ≤ M'.length ∧ lv.all (fun q => pkl M.length q.2) = true ∧ (rest.all (pkl M.length) && decide (M'.length ≤ 1000)) = true))
    (kk : J l I (pc + 3) lv (r.toList ++ rest) M' (k + I'.mc) (n + I'.ms) out) : J l I pc lv (as.reverse ++ rest) M k n out := by
  refine J.behind (I' := I') (rest := rest) (r := r) (M' := M') (fun D cA ad p e s m args below meth c A locs H ls h => ⟨(as.map (pv ad)).toArray, ?_⟩) hok kk
  obtain ⟨⟨c1, cx⟩, c2, c3, c4, c5, c6, c7, c8, c9, c10, c11⟩ := hc
  obtain ⟨p1, p2⟩ := Ps_here h as I'.ex cx
  have hws : ∀ w ∈ I'.ws, ∀ (a' : Array Value) (U : State), s.WarmedH U.vm → w.before a' U = true := by
    intro w hw a' U hW
    rw [c5, List.mem_singleton] at hw
    subst hw
    exact h.hw.1 U a' hW _ c6 rfl
  have hK : Back l I.rm p e below s args I'.y 3 8 (PreOf I.rm I'.mc I'.ms (Ps I'.ex D cA ad as M H.size)) (PostOf (Qr D cA ad M.length (va_A (pw ad cA M) H.size) (r, M')) I'.mc I'.ms (va_A (pw ad cA M) H.size)) :=
    va_backW (hh := hh) (bytes := I'.cc) (maxL := I'.nL) (ret := I'.ret) (hC D cA ad H.size) p1 c1 c2 c3 c4 hws (by rw [c5]; exact List.mem_singleton_self _) (fun a' U hW => h.hw.1 U a' hW _ c7 rfl)
  intro T hT X
  obtain ⟨v, vm₁, ⟨U', l2, k2, s2⟩, hW₁, X', ⟨g', mk, t, L, e1, e2, hq, h1, hL, h2, h3⟩, st⟩ := callSW X h.hx (bytes := I'.cc) (maxL := I'.nL) (ret := I'.ret) (hh := hh) h.ho (h.hw.at c10 rfl args) (h.hw.at c11 rfl args) (h.hw.at c7 rfl args) (h.hw.at c6 rfl args) c8 hK
    (g := F0 m pc ls ((as.reverse ++ rest).map (pv ad))) rfl (h.hl.1.trans h.2.2.1.symm) (argsL := as.map (pv ad)) (rest := rest.map (pv ad)) (fun sig hs => by rw [hs] at c9; rw [List.length_map, hna]; exact (Option.some.inj c9).symm) (map_rev ad as rest) (by show 2 * 0 + _ ≤ 8; rw [wsum_pv]; omega) (by rw [h.hb]; exact hd)
    (fun vm₁ hW₁ => ⟨hf.1, hf.2, p2 (T.setVm vm₁) hT hW₁⟩)
  dsimp only [Pt.U, Pt.locs, Pt.cells, Pt.slots] at X' e1 e2 h1 h2 h3 st
  subst h1; subst h2; subst h3
  exact ⟨v, (T.setVm vm₁).calling g' mk (as.map (pv ad)).toArray, t, U', L, hT, X', hL, e1, e2, hq, st⟩
end WITH
