
/-! the law's own guest -/
section GX
variable {p : Program} {l : Launch} {e : Env} {R : Room} {s : State} {m : MethodId} {args a : Array Value} {below : List Frame} {meth : Method} {c : Code} {H : Heap} {locs : List Loc} {cells slots : Nat} {Q : State → Prop} {ls : Array Slot} {rest st0 : List Value} {pc : Nat} {r : Int32 × Int32}
theorem gx_call (hr : vx_Run p l e R s m args below meth c H locs cells slots 1 6 (F0 m pc ls st0) rest (gQc r a) (gXC r) (fun _ => False))
    (k0 : r.1 = 0 → W p l e R s m args below meth c H locs (cells + 1) (slots + 6) Q (F0 m (pc + 3) ls (.int r.2 :: rest)))
    (kx : ∀ (En : String) (ce : Cell) (q : Addr) (H1 : Heap), ((r.1 = 1 ∧ En = "java/lang/IndexOutOfBoundsException") ∨ (r.1 = 2 ∧ En = "java/util/NoSuchElementException")) → H.size ≤ H1.size → (∀ q : Nat, q < H.size → H1[q]? = H[q]?) → H1[q]? = some ce → ce.vm = .none → s.vm.findClass En = some ce.cls → vx_W p l e R s m args below meth c H1 locs (cells + 1) (slots + 6) Q (F0 m pc ls rest) q) : W p l e R s m args below meth c H locs cells slots Q (F0 m pc ls st0) := by
  intro T hT X
  rcases hr T hT X with ⟨v, st₀, t, T', L, h0, X', hL, e1, e2, ⟨hq0, hq1, hq2⟩, st⟩ | ⟨q, st₀, t, T', L, En, ce, h0, X', hL, e1, e2, ⟨hx1, hx2, hx3⟩, hce, hcv, hcl, st⟩
  · cases hq1
    obtain ⟨t2, a1, b1⟩ := k0 hq0 T' (by rw [e1, hq2, h0]) (Stand.forget X' (fun q h => (hL q h).elim))
    exact ⟨t2, st t2 a1, b1⟩
  · rw [h0] at hx2 hx3
    obtain ⟨t2, a1, b1⟩ := kx En ce q T'.heap hx1 (by rw [e1]; exact hx2) (fun q h => by rw [e1]; exact hx3 q h) (by rw [e1]; exact hce) hcv hcl T' rfl (Stand.forget X' (fun q h => (hL q h).elim))
    exact ⟨t2, st.trans a1, b1⟩
theorem gx_catch {own n1 n2 En : String} {x1 x2 : ExceptionTableEntry} {ce : Cell} {q : Addr} {pc9 : Nat} (hown : s.vm.findClass own = some m.cls) (htab : c.exceptionTable.toList = [x1, x2]) (c1 : covers x1 pc = true) (c2 : covers x2 pc = true) (z1 : x1.catchType ≠ 0) (z2 : x2.catchType ≠ 0) (l1 : (Cond.classLink own x1.catchType n1).before args s = true) (l2 : (Cond.classLink own x2.catchType n2).before args s = true) (hce : H[q]? = some ce) (hcv : ce.vm = .none) (hcl : s.vm.findClass En = some ce.cls)
    (hh : (va_Nw (.castable En n1) s ∧ pc9 = x1.handlerPc) ∨ (va_Nc En n1 s ∧ va_Nw (.castable En n2) s ∧ pc9 = x2.handlerPc))
    (kk : W p l e R s m args below meth c H locs cells slots Q (F0 m pc9 ls [.ref q])) : vx_W p l e R s m args below meth c H locs cells slots Q (F0 m pc ls rest) q := by
  intro T hT X
  have hpl : e.platform.magicAccessors = ({} : Platform).magicAccessors := by rw [X.admits.platform]
  obtain ⟨d1, f1, k1⟩ := Cond.classLink_spec hown l1 e.platform hpl
  obtain ⟨d2, f2, k2⟩ := Cond.classLink_spec hown l2 e.platform hpl
  have hk : ∃ k, s.vm.classes[ce.cls]? = some k := by
    obtain ⟨k9, h9, -⟩ := Vm.findClass_spec hcl
    exact ⟨k9, h9⟩
  refine vz_to (pc9 := pc9) (ce := ce) (fun S hW hS => ?_) hce kk T hT X
  rw [htab]
  obtain ⟨vm1, w1, g1⟩ := vz_row (e := e) (f := F0 m pc ls rest) (a := q) (t := [x2]) c1 z1 k1 hW hS hcv hk
  rcases hh with ⟨ha, rfl⟩ | ⟨hb, ha, rfl⟩
  · obtain ⟨a9, b9, q1, q2, q3⟩ := Cond.castable_spec (args := #[]) ha
    cases Option.some.inj (q1.symm.trans hcl)
    cases Option.some.inj (q2.symm.trans f1)
    exact ⟨vm1, w1, fun Q P d acts => (g1 Q P d acts).trans (by rw [if_pos q3])⟩
  · obtain ⟨a8, b8, q1, q2, q3⟩ := hb
    cases Option.some.inj (q1.symm.trans hcl)
    cases Option.some.inj (q2.symm.trans f1)
    obtain ⟨vm2, w2, g2⟩ := vz_row (e := e) (S := S.setVm vm1) (f := F0 m pc ls rest) (a := q) (t := []) c2 z2 k2 w1 hS hcv hk
    obtain ⟨a9, b9, q4, q5, q6⟩ := Cond.castable_spec (args := #[]) ha
    cases Option.some.inj (q4.symm.trans hcl)
    cases Option.some.inj (q5.symm.trans f2)
    refine ⟨vm2, w2, fun Q P d acts => (g1 Q P d acts).trans ?_⟩
    rw [if_neg (by rw [q3]; decide)]
    refine (g2 Q P d acts).trans ?_
    rw [if_pos q6]
    rfl
end GX
