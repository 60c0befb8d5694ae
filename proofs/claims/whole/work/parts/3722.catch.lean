/-! a throw is caught by a row of the method's own table -/
theorem vz_row {e : Env} {s0 S : State} {f : JFrame} {a : Addr} {cell : Cell} {x : ExceptionTableEntry} {t : List ExceptionTableEntry} {c : ClassId} (hx : covers x f.pc = true) (h0 : x.catchType ≠ 0) (hl : s0.vm.ClassLinks e.platform f.method.cls x.catchType c) (hW : s0.WarmedH S.vm) (hcell : S.heap[a]? = some cell) (hobj : cell.vm = .none) (hk : ∃ k, s0.vm.classes[cell.cls]? = some k) :
    ∃ vm1, s0.WarmedH vm1 ∧ ∀ (Q : Handler → Pre) (P : CtlPost) (d : Bool) (acts : List Action), wp (findHandler.go f a (x :: t)) Q P e d acts S ↔ if s0.vm.assignable cell.cls c = true then Q (.found x.handlerPc) d acts (S.setVm vm1) else wp (findHandler.go f a t) Q P e d acts (S.setVm vm1) := by
  obtain ⟨dk, _, _, kt, hd, _, _, _, _, hkt, _, hopen⟩ := hl.here
  have hW1 : s0.WarmedH (S.vm.noted f.method.cls x.catchType (.cls c)) := hW.noted hd hopen (State.rightAt_cls hl)
  refine ⟨_, hW1, fun Q P d acts => ?_⟩
  obtain ⟨ha, ht⟩ := (resolveClass_links e.toSetting (hW.classLinks hl)).op (op := VmOp.resolveClass f.method.cls x.catchType) rfl
  obtain ⟨k1, hk1⟩ := hk
  obtain ⟨k1', hk1', -⟩ := hW1.alike.2.2 _ _ hk1
  obtain ⟨k2', hk2', -⟩ := hW1.alike.2.2 _ _ hkt
  have hasg : (S.vm.noted f.method.cls x.catchType (.cls c)).assignable cell.cls c = s0.vm.assignable cell.cls c := hW1.alike.assignable _ _
  simp only [covers] at hx
  cases hb : s0.vm.assignable cell.cls c <;> simp [findHandler.go, hx, h0, ha, ht, hcell, hobj, hk1', hk2', hasg, hb, VmOp.dirties, VmOp.acts]
