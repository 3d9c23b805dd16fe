/-! A throw that the method itself catches -/
section CATCH
/-- a row of the table that covers the place and links to a class: taken if the thrown one fits, else passed, the link noted both times -/
theorem fh_row {e : Env} {S : State} {f : JFrame} {a : Addr} {x : ExceptionTableEntry} {t : List ExceptionTableEntry} {c : ClassId} {ce : Cell} {Q : Handler → Pre} {E : CtlPost} {d : Bool} {acts : List Action}
    (hx : covers x f.pc = true) (h0 : x.catchType ≠ 0) (hl : S.vm.ClassLinks e.platform f.method.cls x.catchType c) (hce : S.heap[a]? = some ce) (hv : ce.vm = .none) (h1 : ∃ k, S.vm.classes[ce.cls]? = some k) :
    wp (findHandler.go f a (x :: t)) Q E e d acts S ↔ if S.vm.assignable ce.cls c = true then Q (.found x.handlerPc) d acts (S.setVm (S.vm.noted f.method.cls x.catchType (.cls c))) else wp (findHandler.go f a t) Q E e d acts (S.setVm (S.vm.noted f.method.cls x.catchType (.cls c))) := by
  unfold covers at hx
  have hob : ∀ k, ce.vm ≠ .statics k := fun k z => by rw [hv] at z; cases z
  have hA : S.vm.Alike (S.vm.noted f.method.cls x.catchType (.cls c)) := (Vm.Alike.refl S.vm).noted _ _ _
  have two := (resolveClass_links e.toSetting hl).op (op := VmOp.resolveClass f.method.cls x.catchType) rfl
  obtain ⟨k1, z1⟩ := h1
  obtain ⟨-, -, -, k2, -, -, -, -, -, z2, -, -⟩ := hl.here
  obtain ⟨k1', z1', -⟩ := hA.2.2 _ _ z1
  obtain ⟨k2', z2', -⟩ := hA.2.2 _ _ z2
  have hE := hA.assignable (c := ce.cls) (t := c)
  by_cases hfit : S.vm.assignable ce.cls c = true
  · rw [if_pos hfit]
    rw [hfit] at hE
    simp [findHandler.go, hx, h0, two.1, two.2, hce, hob, z1', z2', hE, VmOp.dirties, VmOp.acts]
  · rw [if_neg hfit]
    rw [Bool.not_eq_true] at hfit
    rw [hfit] at hE
    simp [findHandler.go, hx, h0, two.1, two.2, hce, hob, z1', z2', hE, VmOp.dirties, VmOp.acts]
end CATCH
