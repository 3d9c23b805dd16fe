section JT
variable {l : Launch} {I I' : MI} {pc : Nat} {lv : List (Nat × Value)} {st : List Value} {M : List va_E} {k n : Nat}
/-- cells that no place names are kept -/
theorem kept_frame {s U : State} {a b : Nat} (h : s.sameButNew ({ U with vm := s.vm } : State) [] a b) : s.heap.size ≤ U.heap.size ∧ ∀ q : Nat, q < s.heap.size → U.heap[q]? = s.heap[q]? := by
  obtain ⟨-, h2, -, -, -, h6⟩ := h
  refine ⟨h2, fun q hq => ?_⟩
  obtain ⟨c9, e1, e2, e3, e4⟩ := h6 q _ (Array.getElem?_eq_getElem hq)
  have hs : c9.slots = (s.heap[q]).slots := Array.ext_getElem? fun i => e4 i (fun hm => nomatch hm)
  have h9 : c9 = s.heap[q] := by
    rw [hs] at e2
    exact e2
  have e5 : U.heap[q]? = some c9 := e1
  rw [e5, h9, Array.getElem?_eq_getElem hq]
/-- the words of 'throw new E()' -/
def TW (own cls : String) (ik ic : Nat) (names : List String) : Prop := Bundle.fit cls = true ∧ (∀ n ∈ names, Bundle.fit n = true) ∧ Cond.classLink own ik cls ∈ lw_tbl ∧ Cond.initialized cls ∈ lw_tbl ∧ ∀ w ∈ Bundle.ownAtoms0 own ic cls names, w ∈ zw ∨ (w ∈ lw_tbl ∧ okw w = true)
set_option maxHeartbeats 1000000 in
theorem J.throwNew (hl : l.stackTraces = false) {cls : String} {names : List String} {ik ic : Nat} (hT : TW I.own cls ik ic names)
    (d0 : decode I.cc pc = .ok (.new ik, 3)) (d3 : decode I.cc (pc + 3) = .ok (.dup, 1)) (d4 : decode I.cc (pc + 4) = .ok (.invokespecial ic, 3)) (d7 : decode I.cc (pc + 7) = .ok (.athrow, 1)) (htab : I.tab = [])
    (hf : names.length + 3 < I.rm.frames) (hlo : wsum st + (13 * (names.length + 1) + 42) ≤ I.rm.locals) (hc : k + 1 ≤ I.mc ∧ I.mc ≤ I.rm.cells) (hs : n + 6 ≤ I.ms ∧ I.ms ≤ I.rm.slots) : J l I pc lv st M k n (.inr (cls, M)) := by
  intro D cA ad p e s m args below meth c A locs H ls h T hT0 X
  obtain ⟨hcls, hnames, hk, hini, hat⟩ := hT
  have htr : e.platform.stackTraces = false := (show e.platform.stackTraces = l.stackTraces by rw [X.admits.platform]).trans hl
  have Y := reb X (R' := { frames := I.rm.frames, locals := I.rm.locals, cells := 1, slots := 6 }) (Nat.le_refl _) (Nat.le_refl _) (by show k + 1 ≤ _; omega) (by show n + 6 ≤ _; omega)
  obtain ⟨s', hA⟩ : ∃ z, z = (T.setVm s.vm).setFrames (.invoking m args :: below) := ⟨_, rfl⟩
  rw [← hA] at Y
  have hvm : s'.vm = s.vm := by rw [hA]; rfl
  have hhp : s'.heap = H := by rw [hA]; exact hT0
  have hW0 : s.WarmedH s'.vm := by rw [hvm]; exact State.WarmedH.refl s
  have hN : NW s' := h.hw.moved hW0
  have hZ : ZZ A s' H := (h.hZ.kept h.hS.1 h.hS.2.1).moved hW0.alike
  have hws : ∀ w ∈ Bundle.ownAtoms0 I.own ic cls names, w.before args s' = true := by
    intro w hw
    rcases hat w hw with z | z
    · exact hZ s' args (Vm.Alike.refl _) (by rw [hhp]; exact Nat.le_refl _) (fun q _ _ => by rw [hhp]) w z
    · exact hN.at z.1 z.2 args
  have hown' : s'.vm.findClass I.own = some m.cls := by rw [hvm]; exact h.ho
  have hcc : c.code = I.cc := h.hb
  obtain ⟨vm₁, cX, kX, hfX, hkX, -, -, X₁, st1⟩ := Y.newCold h.hx (own := I.own) (C := cls) (index := ik) (n := 6) hown' (hN.at hk rfl args) (hws _ (by simp [Bundle.ownAtoms0])) (hN.at hini rfl args)
    (g := F0 m pc ls (st.map (pv ad))) rfl (by rw [hcc]; exact d0) (Nat.le_refl _) (Nat.le_refl _)
  generalize hT1 : (T.setVm vm₁).pushCell { cls := cX, slots := kX.instanceTypes.map defaultValue, vm := .none } = T1 at X₁ st1
  have hcellA : T1.heap[T.heap.size]? = some (freshCell cX kX) := by rw [← hT1]; exact State.heap_pushCell_size _ _
  have d3' : decode c.code (pc + 3) = .ok (.dup, 1) := by rw [hcc]; exact d3
  have hcat : (Value.ref T.heap.size).category = 1 := rfl
  have hout : ∀ x ∈ c.exceptionTable.toList, covers x (pc + 4 + 3) = false := by rw [h.2.2.2.2.2.2.1, htab]; exact fun _ hx => nomatch hx
  obtain ⟨U, hsteps, hrun, hend, hW, hsame, ce, hce, hO⟩ := X₁.ctorThrow0 h.hx htr (own := I.own) (cls := cls) (names := names) (ic := ic) hown' hcls hnames hws (fun x hx => nomatch hx) hfX hkX hcellA (by rw [hhp, hT0]; exact Nat.le_refl _)
    (g := { method := m, pc := pc + 4, locals := ls, stack := .ref T.heap.size :: .ref T.heap.size :: st.map (pv ad), locked := none }) rfl (h.hl.1.trans h.2.2.1.symm) rfl rfl (rest := st.map (pv ad)) rfl
    (by rw [hcc]; exact d4) (by rw [hcc]; exact d7) hout hf (by
      have e9 := wsum_pv ad st
      simp only [List.map_cons, List.sum_cons, hcat, e9]
      show 2 * 0 + _ + _ ≤ I.rm.locals
      omega) h.2.2.2.2.1
  obtain ⟨f1, f2⟩ := kept_frame hsame
  rw [hhp] at f1 f2
  have hWs : s.WarmedH U.vm := State.WarmedH.trans hW0 hW
  have hcl : s.vm.findClass cls = some ce.cls := by
    have h9 := hO.cls
    rw [hvm] at h9
    exact h9
  have hall : s.sameButNew ({ U with vm := s.vm } : State) locs I.mc I.ms := by
    subst hA
    obtain ⟨e1, e2⟩ := hsame
    rw [State.setFrames_setFrames] at e1
    have h2 : (T.setVm s.vm).sameButNew ({ U with vm := s.vm } : State) [] (0 + 1) (0 + 6) := ⟨e1, e2⟩
    have h3 := X.same.trans h2
    rw [List.append_nil] at h3
    exact h3.mono (by omega) (by omega)
  have hP' : va_P D vwCl (pw ad cA M) U.heap := h.hP.kept (fun j q hq => f2 q.1 (h.hP j q hq).lt)
  refine ⟨U, ?_, .threw T.heap.size, hrun, hend, ⟨ad, fun _ _ => rfl, fun _ => rfl, Nat.le_refl _, hP', va_K.moved hWs.alike h.hK, h.hD⟩, T.heap.size, ce, locs, rfl, hce, hO.vm, hcl, ⟨Nat.le_trans h.hS.1 f1, fun q h1 h2 => (f2 q (Nat.lt_of_lt_of_le h1 h.hS.1)).trans (h.hS.2.1 q h1 h2)⟩, hWs, hall, h.hS.2.2⟩
  refine st1 _ ?_
  show Steps p.tables e below (T1.setTop { method := m, pc := pc + 3, locals := ls, stack := .ref T.heap.size :: st.map (pv ad), locked := none }) _
  jvm_step X₁.here [X₁.here.top, h.hx, d3', Value.category]
  exact hsteps
end JT
theorem tw_IAE : TW NV "java/lang/IllegalArgumentException" 57 59 ["java/lang/RuntimeException", "java/lang/Exception"] := ⟨by decide +kernel, by decide +kernel, by decide +kernel, by decide +kernel, by decide +kernel⟩
theorem tw_ISE : TW NV "java/lang/IllegalStateException" 70 72 ["java/lang/RuntimeException", "java/lang/Exception"] := ⟨by decide +kernel, by decide +kernel, by decide +kernel, by decide +kernel, by decide +kernel⟩
theorem tw_IOB : TW NV "java/lang/IndexOutOfBoundsException" 95 97 ["java/lang/RuntimeException", "java/lang/Exception"] := ⟨by decide +kernel, by decide +kernel, by decide +kernel, by decide +kernel, by decide +kernel⟩
theorem tw_ARE : TW NV "java/lang/ArithmeticException" 157 159 ["java/lang/RuntimeException", "java/lang/Exception"] := ⟨by decide +kernel, by decide +kernel, by decide +kernel, by decide +kernel, by decide +kernel⟩
theorem tw_NSE : TW NV "java/util/NoSuchElementException" 171 173 ["java/lang/RuntimeException", "java/lang/Exception"] := ⟨by decide +kernel, by decide +kernel, by decide +kernel, by decide +kernel, by decide +kernel⟩
