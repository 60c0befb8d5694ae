section VZ
variable {p : Program} {l : Launch} {e : Env} {R : Room} {s : State} {m : MethodId} {args : Array Value} {below : List Frame} {meth : Method} {c : Code} {H : Heap} {locs : List Loc} {cells slots : Nat} {Q : State → Prop} {ls : Array Slot} {rest : List Value} {pc : Nat} {ce : Cell} {q : Addr}
theorem vz_to {pc9 : Nat} (hfind : ∀ S : State, s.WarmedH S.vm → S.heap[q]? = some ce → ∃ vm1, s.WarmedH vm1 ∧ ∀ (Q : Handler → Pre) (P : CtlPost) (d : Bool) (acts : List Action), wp (findHandler.go (F0 m pc ls rest) q c.exceptionTable.toList) Q P e d acts S ↔ Q (.found pc9) d acts (S.setVm vm1)) (hcell : H[q]? = some ce)
    (kk : W p l e R s m args below meth c H locs cells slots Q (F0 m pc9 ls [.ref q])) : vx_W p l e R s m args below meth c H locs cells slots Q (F0 m pc ls rest) q := by
  intro T hT X
  obtain ⟨vm1, hW1, hf⟩ := hfind ((T.setTop (F0 m pc ls rest)).pushFrame (.throwing q)) (by rw [Stand.throwing_vm]; exact X.warmed) (by rw [Stand.throwing_heap, hT]; exact hcell)
  obtain ⟨t, a1, b1⟩ := kk (T.setVm vm1) hT (X.noted hW1)
  refine ⟨t, ?_, b1⟩
  have key : ∀ (S : State) (r : List Frame), S.vm.method? m = some meth → (∀ (Q : Handler → Pre) (P : CtlPost) (d : Bool) (acts : List Action), wp (findHandler.go (F0 m pc ls rest) q c.exceptionTable.toList) Q P e d acts S ↔ Q (.found pc9) d acts (S.setVm vm1)) → (stepThrowing e S q (.java (F0 m pc ls rest) :: r)).Is ((S.setVm vm1).setFrames (.java (F0 m pc9 ls [.ref q]) :: r)) [] := by
    intro S r hm hS
    simp only [stepThrowing, searchFrame, vmDo]
    generalize hr : Sem.go _ e false [] S = res
    obtain ⟨as, rfl, ha⟩ := Sem.eq_ok_of hr (a := Handler.found pc9) (s' := S.setVm vm1) (acts' := []) (by simp [W.findHandler_eq (f := F0 m pc ls rest) hm X.code, hS])
    exact ⟨rfl, ha⟩
  obtain ⟨hgo, hw⟩ := At.throwing (g := F0 m pc ls rest) X.here q
  refine Steps.head hgo hw ?_
  rw [stepThread_throwing (frames_entered X.here.top _), (key _ _ (by rw [Stand.throwing_vm]; exact X.method') hf).1]
  obtain ⟨g₀, hg⟩ := Option.isSome_iff_exists.mp X.here.top
  obtain ⟨r, hr⟩ := State.topJava?_eq_some.mp hg
  have hr' : (T.setVm vm1).frames = .java g₀ :: r := hr
  rw [State.setTop_of_frames _ hr'] at a1
  have sw : ∀ (u : State) (F G : List Frame), ((u.setFrames F).setVm vm1).setFrames G = (u.setVm vm1).setFrames G := fun u F G => by
    show ((u.setVm vm1).setFrames F).setFrames G = _
    rw [State.setFrames_setFrames]
  rw [hr, List.tail_cons, State.pushFrame, sw, State.setTop_of_frames _ hr, sw]
  exact a1
end VZ
