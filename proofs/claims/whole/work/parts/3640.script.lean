theorem mw_39 : Cond.methodLink RX8 3 Lib.objectInit ∈ gtbl := mg (List.mem_of_getElem? (i := 39) (by decide +kernel)) (by decide +kernel)
theorem mw_40 : Cond.classLink RX8 9 RX7 ∈ gtbl := mg (List.mem_of_getElem? (i := 40) (by decide +kernel)) (by decide +kernel)
theorem mw_41 : Cond.instantiable RX7 6 ∈ gtbl := mg (List.mem_of_getElem? (i := 41) (by decide +kernel)) (by decide +kernel)
theorem mw_43 : Cond.instanceMethod yX7_init ∈ gtbl := mg (List.mem_of_getElem? (i := 43) (by decide +kernel)) (by decide +kernel)
theorem mw_44 : Cond.code yX7_init cX7_init 2 none ∈ gtbl := mg (List.mem_of_getElem? (i := 44) (by decide +kernel)) (by decide +kernel)
theorem mw_42 : Cond.methodLink RX8 11 yX7_init ∈ gtbl := mg (List.mem_of_getElem? (i := 42) (by decide +kernel)) (by decide +kernel)
theorem mw_75 : Cond.classLink RX8 29 RX0 ∈ gtbl := mg (List.mem_of_getElem? (i := 75) (by decide +kernel)) (by decide +kernel)
theorem mw_77 : Cond.instantiable RX0 5 ∈ gtbl := mg (List.mem_of_getElem? (i := 77) (by decide +kernel)) (by decide +kernel)
theorem mw_79 : Cond.instanceMethod yX0_init ∈ gtbl := mg (List.mem_of_getElem? (i := 79) (by decide +kernel)) (by decide +kernel)
theorem mw_80 : Cond.code yX0_init cX0_init 1 none ∈ gtbl := mg (List.mem_of_getElem? (i := 80) (by decide +kernel)) (by decide +kernel)
theorem mw_78 : Cond.methodLinkNest RX8 31 yX0_init RX11 ∈ ntbl := mn (List.mem_of_getElem? (i := 78) (by decide +kernel)) (by decide +kernel)
theorem dX8_init_0 : decode cX8_init 0 = .ok (.aload_n 0, 1) := by decide +kernel
theorem dX8_init_1 : decode cX8_init 1 = .ok (.invokespecial 3, 3) := by decide +kernel
theorem dX8_init_4 : decode cX8_init 4 = .ok (.aload_n 0, 1) := by decide +kernel
theorem dX8_init_5 : decode cX8_init 5 = .ok (.new 9, 3) := by decide +kernel
theorem dX8_init_8 : decode cX8_init 8 = .ok (.dup, 1) := by decide +kernel
theorem dX8_init_9 : decode cX8_init 9 = .ok (.bipush 6, 2) := by decide +kernel
theorem dX8_init_11 : decode cX8_init 11 = .ok (.invokespecial 11, 3) := by decide +kernel
theorem dX8_init_14 : decode cX8_init 14 = .ok (.putfield 14, 3) := by decide +kernel
theorem dX8_init_17 : decode cX8_init 17 = .ok (.aload_n 0, 1) := by decide +kernel
theorem dX8_init_18 : decode cX8_init 18 = .ok (.new 9, 3) := by decide +kernel
theorem dX8_init_21 : decode cX8_init 21 = .ok (.dup, 1) := by decide +kernel
theorem dX8_init_22 : decode cX8_init 22 = .ok (.bipush 6, 2) := by decide +kernel
theorem dX8_init_24 : decode cX8_init 24 = .ok (.invokespecial 11, 3) := by decide +kernel
theorem dX8_init_27 : decode cX8_init 27 = .ok (.putfield 20, 3) := by decide +kernel
theorem dX8_init_30 : decode cX8_init 30 = .ok (.aload_n 0, 1) := by decide +kernel
theorem dX8_init_31 : decode cX8_init 31 = .ok (.new 9, 3) := by decide +kernel
theorem dX8_init_34 : decode cX8_init 34 = .ok (.dup, 1) := by decide +kernel
theorem dX8_init_35 : decode cX8_init 35 = .ok (.iconst 4, 1) := by decide +kernel
theorem dX8_init_36 : decode cX8_init 36 = .ok (.invokespecial 11, 3) := by decide +kernel
theorem dX8_init_39 : decode cX8_init 39 = .ok (.putfield 23, 3) := by decide +kernel
theorem dX8_init_42 : decode cX8_init 42 = .ok (.aload_n 0, 1) := by decide +kernel
theorem dX8_init_43 : decode cX8_init 43 = .ok (.new 9, 3) := by decide +kernel
theorem dX8_init_46 : decode cX8_init 46 = .ok (.dup, 1) := by decide +kernel
theorem dX8_init_47 : decode cX8_init 47 = .ok (.bipush 14, 2) := by decide +kernel
theorem dX8_init_49 : decode cX8_init 49 = .ok (.invokespecial 11, 3) := by decide +kernel
theorem dX8_init_52 : decode cX8_init 52 = .ok (.putfield 26, 3) := by decide +kernel
theorem dX8_init_55 : decode cX8_init 55 = .ok (.aload_n 0, 1) := by decide +kernel
theorem dX8_init_56 : decode cX8_init 56 = .ok (.iconst 3, 1) := by decide +kernel
theorem dX8_init_57 : decode cX8_init 57 = .ok (.anewarray 29, 3) := by decide +kernel
theorem dX8_init_60 : decode cX8_init 60 = .ok (.dup, 1) := by decide +kernel
theorem dX8_init_61 : decode cX8_init 61 = .ok (.iconst 0, 1) := by decide +kernel
theorem dX8_init_62 : decode cX8_init 62 = .ok (.new 29, 3) := by decide +kernel
theorem dX8_init_65 : decode cX8_init 65 = .ok (.dup, 1) := by decide +kernel
theorem dX8_init_66 : decode cX8_init 66 = .ok (.invokespecial 31, 3) := by decide +kernel
theorem dX8_init_69 : decode cX8_init 69 = .ok (.aastore, 1) := by decide +kernel
theorem dX8_init_70 : decode cX8_init 70 = .ok (.dup, 1) := by decide +kernel
theorem dX8_init_71 : decode cX8_init 71 = .ok (.iconst 1, 1) := by decide +kernel
theorem dX8_init_72 : decode cX8_init 72 = .ok (.new 29, 3) := by decide +kernel
theorem dX8_init_75 : decode cX8_init 75 = .ok (.dup, 1) := by decide +kernel
theorem dX8_init_76 : decode cX8_init 76 = .ok (.invokespecial 31, 3) := by decide +kernel
theorem dX8_init_79 : decode cX8_init 79 = .ok (.aastore, 1) := by decide +kernel
theorem dX8_init_80 : decode cX8_init 80 = .ok (.dup, 1) := by decide +kernel
theorem dX8_init_81 : decode cX8_init 81 = .ok (.iconst 2, 1) := by decide +kernel
theorem dX8_init_82 : decode cX8_init 82 = .ok (.new 29, 3) := by decide +kernel
theorem dX8_init_85 : decode cX8_init 85 = .ok (.dup, 1) := by decide +kernel
theorem dX8_init_86 : decode cX8_init 86 = .ok (.invokespecial 31, 3) := by decide +kernel
theorem dX8_init_89 : decode cX8_init 89 = .ok (.aastore, 1) := by decide +kernel
theorem dX8_init_90 : decode cX8_init 90 = .ok (.putfield 32, 3) := by decide +kernel
theorem dX8_init_94 : decode cX8_init 94 = .ok (.iconst 0, 1) := by decide +kernel
theorem dX8_init_93 : decode cX8_init 93 = .ok (.aload_n 0, 1) := by decide +kernel
theorem dX8_init_95 : decode cX8_init 95 = .ok (.putfield 36, 3) := by decide +kernel
theorem dX8_init_99 : decode cX8_init 99 = .ok (.iconst 0, 1) := by decide +kernel
theorem dX8_init_98 : decode cX8_init 98 = .ok (.aload_n 0, 1) := by decide +kernel
theorem dX8_init_100 : decode cX8_init 100 = .ok (.putfield 40, 3) := by decide +kernel
theorem dX8_init_104 : decode cX8_init 104 = .ok (.iconst 0, 1) := by decide +kernel
theorem dX8_init_103 : decode cX8_init 103 = .ok (.aload_n 0, 1) := by decide +kernel
theorem dX8_init_105 : decode cX8_init 105 = .ok (.putfield 43, 3) := by decide +kernel
theorem dX8_init_109 : decode cX8_init 109 = .ok (.iconst 0, 1) := by decide +kernel
theorem dX8_init_108 : decode cX8_init 108 = .ok (.aload_n 0, 1) := by decide +kernel
theorem dX8_init_110 : decode cX8_init 110 = .ok (.putfield 47, 3) := by decide +kernel
theorem dX8_init_114 : decode cX8_init 114 = .ok (.iconst 0, 1) := by decide +kernel
theorem dX8_init_113 : decode cX8_init 113 = .ok (.aload_n 0, 1) := by decide +kernel
theorem dX8_init_115 : decode cX8_init 115 = .ok (.putfield 50, 3) := by decide +kernel
theorem dX8_init_119 : decode cX8_init 119 = .ok (.iconst 0, 1) := by decide +kernel
theorem dX8_init_118 : decode cX8_init 118 = .ok (.aload_n 0, 1) := by decide +kernel
theorem dX8_init_120 : decode cX8_init 120 = .ok (.putfield 53, 3) := by decide +kernel
theorem dX8_init_123 : decode cX8_init 123 = .ok (.return_, 1) := by decide +kernel
theorem li_X8_11 : LkI RX8 11 yX7_init cX7_init 2 1 := ⟨mw_42, mw_43, mw_3, mw_44, ⟨by decide, by decide⟩, by decide +kernel, rfl⟩
theorem li_X8_31 : LkJ RX8 31 yX0_init "ClapMill" cX0_init 1 0 := ⟨mw_78, mw_79, mw_4, mw_80, ⟨by decide, by decide⟩, by decide +kernel, rfl⟩
/-! a script is made -/
theorem FW.perm {E : Ev} {A : Nat → Prop} {H0 H : Heap} {ws ws' : va_W} {locs : List Loc} (h : FW E A H0 ws H locs) (is : List Nat) (hnd : va_nd is = true) (his : is.map (fun i => ws[i]?) = ws'.map some) : FW E A H0 ws' H locs := ⟨h.1.pk is his, h.2.1.sub is hnd his, h.2.2⟩
theorem FW.rep {E : Ev} {A : Nat → Prop} {H0 H : Heap} {ws : va_W} {locs : List Loc} {q : Nat} {x x' : va_E} (h : FW E A H0 ws H locs) (k : Nat) (hk : ws[k]? = some (q, x)) (he : va_at E.1 vwCl (q, x) H → va_at E.1 vwCl (q, x') H) : FW E A H0 (ws.set k (q, x')) H locs := by
  have lt := (List.getElem?_eq_some_iff.mp hk).1
  have key : ∀ (j : Nat) (z : Nat × va_E), (ws.set k (q, x'))[j]? = some z → ∃ w, ws[j]? = some w ∧ w.1 = z.1 ∧ (va_at E.1 vwCl w H → va_at E.1 vwCl z H) := fun j z hz => by
    by_cases e : k = j
    · subst e
      rw [List.getElem?_set_self lt] at hz
      cases hz
      exact ⟨_, hk, rfl, he⟩
    · rw [List.getElem?_set_ne e] at hz
      exact ⟨z, hz, rfl, fun w => w⟩
  refine ⟨fun j z hz => ?_, ⟨fun i j u v hi hj eq => ?_, fun j z hz => ?_⟩, h.2.2⟩
  · obtain ⟨w, w1, _, w3⟩ := key j z hz
    exact w3 (h.1 j w w1)
  · obtain ⟨w, w1, w2, _⟩ := key i u hi
    obtain ⟨w', w1', w2', _⟩ := key j v hj
    exact h.2.1.1 i j w w' w1 w1' (w2.trans (eq.trans w2'.symm))
  · obtain ⟨w, w1, w2, _⟩ := key j z hz
    rw [← w2]; exact h.2.1.2 j w w1
theorem his_1 (wr : va_W) (x : Nat × va_E) : [wr.length].map (fun i => (wr ++ [x])[i]?) = ([x] ++ ([] : va_W)).map some := by
  simp
section NX4
variable {p : Program} {l : Launch} {e : Env} {R : Room} {s : State} {m : MethodId} {args : Array Value} {below : List Frame} {meth : Method} {c : Code} {H : Heap} {locs : List Loc} {cells slots : Nat} {Q : State → Prop}
variable {cc bytes : ByteArray} {pc nL maxL index n b : Nat} {ls : Array Slot} {rest st0 As : List Value} {E : Ev} {own host : String} {ar : va_W} {o : Nat × va_E} {A : Nat → Prop} {kA vA : Nat → Nat} {y : MethodName} {rm : Room} {e0 : va_E} {w1 : (Nat → Nat) → va_W}
theorem nx_newC (C : CallFix p m c cc nL s args gtbl own) (hK : Kx E s) (hA : ∀ q, s.heap.size ≤ q → A q) {CN : String} {T : u_T} {N ci : Nat} {ty : Nat → FieldType} (cf : CFx CN T N ci ty) (hF : FW E A s.heap (o :: ar) H locs) (hcl : Cond.classLink own index CN ∈ gtbl) (hinst : Cond.instantiable CN N ∈ gtbl) (hini : Cond.initialized CN ∈ gtbl) (fs : List Value) (hfs : ∀ j, j < N → defaultValue (ty j) = vp_V fs j) (hcells : cells + 1 ≤ R.cells) (hslots : slots + N ≤ R.slots) (hdg : decode cc pc = .ok (.new index, 3))
    (kk : ∀ (q : Nat) (H1 : Heap), FW E A s.heap (o :: (ar ++ [(q, .inr (ci, fs))])) H1 locs → W p l e R s m args below meth c H1 locs (cells + 1) (slots + N) Q (F0 m (pc + 3) ls (.ref q :: rest))) : W p l e R s m args below meth c H locs cells slots Q (F0 m pc ls rest) :=
  nx_new C hK hA hF cf.1 ty cf.2.1 hcl hinst hini cf.2.2.2 hfs hcells hslots hdg kk
theorem nx_ctorC (C : CallFix p m c cc nL s args gtbl own) (hK : Ky E kA vA s) (hA : ∀ q, s.heap.size ≤ q → A q) (hA0 : ∀ q, A q → E.2.2.1 ≤ q) (hN : E.2.2.1 ≤ s.heap.size) (hF : FW E A s.heap (o :: (ar ++ [(b, e0)])) H locs) (hM : CI l E kA vA y bytes maxL rm [(b, e0)] [] (.ref b :: As) w1 H.size) (lk : LkI own index y bytes maxL n) (hR : rm.frames + 1 ≤ R.frames ∧ 8 + (maxL + 11) + rm.locals ≤ R.locals) (hf : cells + rm.cells ≤ R.cells ∧ slots + rm.slots ≤ R.slots) (hn : As.length = n) (hsize : ls.size = nL) (hst : st0 = As.reverse ++ .ref b :: rest) (hW : (rest.map fun v => v.category).sum ≤ 8) (hdg : decode cc pc = .ok (.invokespecial index, 3))
    (kk : ∀ (H1 : Heap) (locs1 : List Loc) (a : Nat → Nat), FW E A s.heap (o :: (ar ++ w1 a)) H1 locs1 → W p l e R s m args below meth c H1 locs1 (cells + rm.cells) (slots + rm.slots) Q (F0 m (pc + 3) ls rest)) : W p l e R s m args below meth c H locs cells slots Q (F0 m pc ls st0) :=
  nx_ctor (wr := o :: ar) C hK hA hA0 hN hM lk hR hf hF [(o :: ar).length] (by rw [va_nd, va_nd]; simp) (his_1 _ _) hn hsize hst hW hdg kk
theorem nx_ctorCN (C : CallFix p m c cc nL s args gtbl own) (hK : Ky E kA vA s) (hA : ∀ q, s.heap.size ≤ q → A q) (hA0 : ∀ q, A q → E.2.2.1 ≤ q) (hN : E.2.2.1 ≤ s.heap.size) (hF : FW E A s.heap (o :: (ar ++ [(b, e0)])) H locs) (hM : CI l E kA vA y bytes maxL rm [(b, e0)] [] (.ref b :: As) w1 H.size) (lk : LkJ own index y host bytes maxL n) (hR : rm.frames + 1 ≤ R.frames ∧ 8 + (maxL + 11) + rm.locals ≤ R.locals) (hf : cells + rm.cells ≤ R.cells ∧ slots + rm.slots ≤ R.slots) (hn : As.length = n) (hsize : ls.size = nL) (hst : st0 = As.reverse ++ .ref b :: rest) (hW : (rest.map fun v => v.category).sum ≤ 8) (hdg : decode cc pc = .ok (.invokespecial index, 3))
    (kk : ∀ (H1 : Heap) (locs1 : List Loc) (a : Nat → Nat), FW E A s.heap (o :: (ar ++ w1 a)) H1 locs1 → W p l e R s m args below meth c H1 locs1 (cells + rm.cells) (slots + rm.slots) Q (F0 m (pc + 3) ls rest)) : W p l e R s m args below meth c H locs cells slots Q (F0 m pc ls st0) :=
  nx_ctorN (wr := o :: ar) C hK hA hA0 hN hM lk hR hf hF [(o :: ar).length] (by rw [va_nd, va_nd]; simp) (his_1 _ _) hn hsize hst hW hdg kk
end NX4
theorem dfX0 : ∀ j, j < 5 → defaultValue (tyX0 j) = vp_V [.null, .null, .null, .int 0, .int 0] j := fun j hj => by
  rcases (show j = 0 ∨ j = 1 ∨ j = 2 ∨ j = 3 ∨ j = 4 by omega) with rfl | rfl | rfl | rfl | rfl <;> rfl
theorem dfX1 : ∀ j, j < 13 → defaultValue (tyX1 j) = vp_V [.int 0, .int 0, .int 0, .int 0, .int 0, .int 0, .int 0, .int 0, .long 0, .null, .null, .null, .null] j := fun j hj => by
  rcases (show j = 0 ∨ j = 1 ∨ j = 2 ∨ j = 3 ∨ j = 4 ∨ j = 5 ∨ j = 6 ∨ j = 7 ∨ j = 8 ∨ j = 9 ∨ j = 10 ∨ j = 11 ∨ j = 12 by omega) with rfl | rfl | rfl | rfl | rfl | rfl | rfl | rfl | rfl | rfl | rfl | rfl | rfl <;> rfl
theorem dfX2 : ∀ j, j < 9 → defaultValue (tyX2 j) = vp_V [.null, .null, .int 0, .int 0, .int 0, .int 0, .int 0, .int 0, .int 0] j := fun j hj => by
  rcases (show j = 0 ∨ j = 1 ∨ j = 2 ∨ j = 3 ∨ j = 4 ∨ j = 5 ∨ j = 6 ∨ j = 7 ∨ j = 8 by omega) with rfl | rfl | rfl | rfl | rfl | rfl | rfl | rfl | rfl <;> rfl
theorem dfX3 : ∀ j, j < 7 → defaultValue (tyX3 j) = vp_V [.null, .null, .null, .null, .null, .int 0, .int 0] j := fun j hj => by
  rcases (show j = 0 ∨ j = 1 ∨ j = 2 ∨ j = 3 ∨ j = 4 ∨ j = 5 ∨ j = 6 by omega) with rfl | rfl | rfl | rfl | rfl | rfl | rfl <;> rfl
theorem dfX4 : ∀ j, j < 4 → defaultValue (tyX4 j) = vp_V [.null, .null, .int 0, .int 0] j := fun j hj => by
  rcases (show j = 0 ∨ j = 1 ∨ j = 2 ∨ j = 3 by omega) with rfl | rfl | rfl | rfl <;> rfl
theorem dfX5 : ∀ j, j < 7 → defaultValue (tyX5 j) = vp_V [.null, .int 0, .int 0, .int 0, .int 0, .int 0, .null] j := fun j hj => by
  rcases (show j = 0 ∨ j = 1 ∨ j = 2 ∨ j = 3 ∨ j = 4 ∨ j = 5 ∨ j = 6 by omega) with rfl | rfl | rfl | rfl | rfl | rfl | rfl <;> rfl
theorem dfX6 : ∀ j, j < 5 → defaultValue (tyX6 j) = vp_V [.null, .null, .null, .int 0, .int 0] j := fun j hj => by
  rcases (show j = 0 ∨ j = 1 ∨ j = 2 ∨ j = 3 ∨ j = 4 by omega) with rfl | rfl | rfl | rfl | rfl <;> rfl
theorem dfX7 : ∀ j, j < 6 → defaultValue (tyX7 j) = vp_V [.int 0, .null, .null, .null, .null, .int 0] j := fun j hj => by
  rcases (show j = 0 ∨ j = 1 ∨ j = 2 ∨ j = 3 ∨ j = 4 ∨ j = 5 by omega) with rfl | rfl | rfl | rfl | rfl | rfl <;> rfl
theorem dfX8 : ∀ j, j < 11 → defaultValue (tyX8 j) = vp_V [.null, .null, .null, .null, .null, .int 0, .int 0, .int 0, .int 0, .int 0, .int 0] j := fun j hj => by
  rcases (show j = 0 ∨ j = 1 ∨ j = 2 ∨ j = 3 ∨ j = 4 ∨ j = 5 ∨ j = 6 ∨ j = 7 ∨ j = 8 ∨ j = 9 ∨ j = 10 by omega) with rfl | rfl | rfl | rfl | rfl | rfl | rfl | rfl | rfl | rfl | rfl <;> rfl
theorem dfX9 : ∀ j, j < 4 → defaultValue (tyX9 j) = vp_V [.null, .null, .null, .int 0] j := fun j hj => by
  rcases (show j = 0 ∨ j = 1 ∨ j = 2 ∨ j = 3 by omega) with rfl | rfl | rfl | rfl <;> rfl
theorem dfX10 : ∀ j, j < 7 → defaultValue (tyX10 j) = vp_V [.null, .null, .int 0, .int 0, .int 0, .int 0, .int 0] j := fun j hj => by
  rcases (show j = 0 ∨ j = 1 ∨ j = 2 ∨ j = 3 ∨ j = 4 ∨ j = 5 ∨ j = 6 by omega) with rfl | rfl | rfl | rfl | rfl | rfl | rfl <;> rfl
theorem dfX11 : ∀ j, j < 18 → defaultValue (tyX11 j) = vp_V [.null, .int 0, .int 0, .int 0, .null, .null, .null, .null, .null, .null, .null, .int 0, .null, .null, .null, .int 0, .null, .null] j := fun j hj => by
  rcases (show j = 0 ∨ j = 1 ∨ j = 2 ∨ j = 3 ∨ j = 4 ∨ j = 5 ∨ j = 6 ∨ j = 7 ∨ j = 8 ∨ j = 9 ∨ j = 10 ∨ j = 11 ∨ j = 12 ∨ j = 13 ∨ j = 14 ∨ j = 15 ∨ j = 16 ∨ j = 17 by omega) with rfl | rfl | rfl | rfl | rfl | rfl | rfl | rfl | rfl | rfl | rfl | rfl | rfl | rfl | rfl | rfl | rfl | rfl <;> rfl
/-- the addresses of a script: 0 its own, 1 to 4 its rolls, 5 to 7 its laws -/
def aS (h : Nat) (a : Nat → Nat) (k j : Nat) : Nat := if k = 0 ∧ j = 0 then h else a (10 * k + j)
def mk8 (f0 f1 f2 f3 f4 f5 f6 f7 : Nat → Nat) : Nat → Nat := fun i => ([f0, f1, f2, f3, f4, f5, f6, f7].getD (i / 10) (fun _ => 0)) (i % 10)
def scW (E : Ev) (b : Nat → Nat → Nat) (u : Nat → St) : va_W := wScript E (b 0) (b 1 0) (b 2 0) (b 3 0) (b 4 0) (b 5 0) (b 6 0) (b 7 0) (u 0) ++ wRoll E 6 (b 1) (u 1) ++ wRoll E 6 (b 2) (u 2) ++ wRoll E 4 (b 3) (u 3) ++ wRoll E 14 (b 4) (u 4) ++ wFormula E (b 5) (u 5) ++ wFormula E (b 6) (u 6) ++ wFormula E (b 7) (u 7)
def scr0 : Nat → St := fun k => if k = 1 ∨ k = 2 then sI z0 0 (nI 6) else if k = 3 then sI z0 0 (nI 4) else if k = 4 then sI z0 0 (nI 14) else z0
theorem l3_at {E : Ev} {q a b c : Nat} {H : Heap} (h : va_at E.1 vwCl (q, .inl (E.2.1 4, 3, .inr (.inr (.inr (.inr (va_up (va_up (va_up (fun _ => none) 0 (some a)) 1 (some b)) 2 (some c))))))) H) : va_at E.1 vwCl (q, .inl (E.2.1 4, 3, .inr (.inr (.inr (.inr (l3 a b c)))))) H := by
  have e : vp_cell (E.2.1 4) (3, .inr (.inr (.inr (.inr (va_up (va_up (va_up (fun _ => none) 0 (some a)) 1 (some b)) 2 (some c)))))) = vp_cell (E.2.1 4) (3, .inr (.inr (.inr (.inr (l3 a b c))))) := by
    rw [vp_cell_q, vp_cell_q]
    unfold arrV
    rfl
  show H[q]? = some _
  rw [← e]
  exact h
set_option maxHeartbeats 4000000 in
set_option maxRecDepth 20000 in
theorem iX8 (l : Launch) (E : Ev) (kA vA : Nat → Nat) (h0 : Nat) (sz : Nat) : CI l E kA vA yX8_init cX8_init 1 (rmc 2 33 33 738) [(h0, .inr (8, [.null, .null, .null, .null, .null, .int 0, .int 0, .int 0, .int 0, .int 0, .int 0]))] [] [.ref h0] (fun a => scW E (aS h0 a) scr0) sz := by
  refine CI.of (own := RX8) rfl (by decide) rfl (Nat.le_of_ble_eq_true rfl) ?_ sz
  intro p e R s m args below meth c ls Q A hR1 hR2 hR3 hR4 C hin2 hK hN hA hA0 hF hrs hrn hl kk
  change R.frames = 2 at hR1
  change R.locals = 33 at hR2
  change R.cells = 33 at hR3
  change R.slots = 738 at hR4
  have hl : lv_has ls 1 [(0, .ref h0)] := hl
  refine lv_aload_n C.1 C.2.1 dX8_init_0 rfl (lv_at hl 0 rfl) ?_
  refine nx_obj C mw_39 mw_32 mw_33 hl.1 dX8_init_1 (by omega) (by show 0 + 12 ≤ R.locals; omega) ?_
  refine lv_aload_n C.1 C.2.1 dX8_init_4 rfl (lv_at hl 0 rfl) ?_
  refine nx_newC C hK.1 hA cfX7 hF mw_40 mw_41 mw_3 [.int 0, .null, .null, .null, .null, .int 0] dfX7 (by omega) (by omega) dX8_init_5 (fun q1 H hF => ?_)
  refine lv_dup C.1 C.2.1 dX8_init_8 rfl ?_
  refine lv_bipush C.1 C.2.1 (v := 6) dX8_init_9 (by decide) ?_
  refine nx_ctorC C hK hA hA0 hN hF (iX7 l E kA vA q1 6 (by decide) _) li_X8_11 ⟨by show 1 + 1 ≤ R.frames; omega, by show 8 + (2 + 11) + 12 ≤ R.locals; omega⟩ ⟨by show _ + 4 ≤ R.cells; omega, by show _ + 4 * 6 ≤ R.slots; omega⟩ rfl hl.1 rfl (Nat.le_of_ble_eq_true rfl) dX8_init_11 (fun H locs a1 hF => ?_)
  refine W.widen (k := 5) (n := 30) (by show _ + 4 ≤ _; omega) (by show _ + 4 * 6 ≤ _; omega) ?_
  refine nx_set C hK.1 hin2 cfX8 hF 0 (by decide) mw_101 rfl rfl rfl (Nat.le_of_ble_eq_true rfl) dX8_init_14 (fun H locs hF => ?_)
  have hF : FW E A s.heap ((h0, .inr (8, [.ref q1, .null, .null, .null, .null, .int 0, .int 0, .int 0, .int 0, .int 0, .int 0])) :: (([] : va_W) ++ wRoll E 6 (cA0 q1 a1) (sI z0 0 (nI 6)))) _ _ := hF
  refine lv_aload_n C.1 C.2.1 dX8_init_17 rfl (lv_at hl 0 rfl) ?_
  refine nx_newC C hK.1 hA cfX7 hF mw_40 mw_41 mw_3 [.int 0, .null, .null, .null, .null, .int 0] dfX7 (by omega) (by omega) dX8_init_18 (fun q2 H hF => ?_)
  refine lv_dup C.1 C.2.1 dX8_init_21 rfl ?_
  refine lv_bipush C.1 C.2.1 (v := 6) dX8_init_22 (by decide) ?_
  refine nx_ctorC C hK hA hA0 hN hF (iX7 l E kA vA q2 6 (by decide) _) li_X8_11 ⟨by show 1 + 1 ≤ R.frames; omega, by show 8 + (2 + 11) + 12 ≤ R.locals; omega⟩ ⟨by show _ + 4 ≤ R.cells; omega, by show _ + 4 * 6 ≤ R.slots; omega⟩ rfl hl.1 rfl (Nat.le_of_ble_eq_true rfl) dX8_init_24 (fun H locs a2 hF => ?_)
  refine W.widen (k := 10) (n := 60) (by show _ + 4 ≤ _; omega) (by show _ + 4 * 6 ≤ _; omega) ?_
  refine nx_set C hK.1 hin2 cfX8 hF 1 (by decide) mw_104 rfl rfl rfl (Nat.le_of_ble_eq_true rfl) dX8_init_27 (fun H locs hF => ?_)
  have hF : FW E A s.heap ((h0, .inr (8, [.ref q1, .ref q2, .null, .null, .null, .int 0, .int 0, .int 0, .int 0, .int 0, .int 0])) :: ((([] : va_W) ++ wRoll E 6 (cA0 q1 a1) (sI z0 0 (nI 6))) ++ wRoll E 6 (cA0 q2 a2) (sI z0 0 (nI 6)))) _ _ := hF
  refine lv_aload_n C.1 C.2.1 dX8_init_30 rfl (lv_at hl 0 rfl) ?_
  refine nx_newC C hK.1 hA cfX7 hF mw_40 mw_41 mw_3 [.int 0, .null, .null, .null, .null, .int 0] dfX7 (by omega) (by omega) dX8_init_31 (fun q3 H hF => ?_)
  refine lv_dup C.1 C.2.1 dX8_init_34 rfl ?_
  refine lv_iconst C.1 C.2.1 (v := 4) dX8_init_35 (by decide) ?_
  refine nx_ctorC C hK hA hA0 hN hF (iX7 l E kA vA q3 4 (by decide) _) li_X8_11 ⟨by show 1 + 1 ≤ R.frames; omega, by show 8 + (2 + 11) + 12 ≤ R.locals; omega⟩ ⟨by show _ + 4 ≤ R.cells; omega, by show _ + 4 * 4 ≤ R.slots; omega⟩ rfl hl.1 rfl (Nat.le_of_ble_eq_true rfl) dX8_init_36 (fun H locs a3 hF => ?_)
  refine W.widen (k := 15) (n := 82) (by show _ + 4 ≤ _; omega) (by show _ + 4 * 4 ≤ _; omega) ?_
  refine nx_set C hK.1 hin2 cfX8 hF 2 (by decide) mw_108 rfl rfl rfl (Nat.le_of_ble_eq_true rfl) dX8_init_39 (fun H locs hF => ?_)
  have hF : FW E A s.heap ((h0, .inr (8, [.ref q1, .ref q2, .ref q3, .null, .null, .int 0, .int 0, .int 0, .int 0, .int 0, .int 0])) :: (((([] : va_W) ++ wRoll E 6 (cA0 q1 a1) (sI z0 0 (nI 6))) ++ wRoll E 6 (cA0 q2 a2) (sI z0 0 (nI 6))) ++ wRoll E 4 (cA0 q3 a3) (sI z0 0 (nI 4)))) _ _ := hF
  refine lv_aload_n C.1 C.2.1 dX8_init_42 rfl (lv_at hl 0 rfl) ?_
  refine nx_newC C hK.1 hA cfX7 hF mw_40 mw_41 mw_3 [.int 0, .null, .null, .null, .null, .int 0] dfX7 (by omega) (by omega) dX8_init_43 (fun q4 H hF => ?_)
  refine lv_dup C.1 C.2.1 dX8_init_46 rfl ?_
  refine lv_bipush C.1 C.2.1 (v := 14) dX8_init_47 (by decide) ?_
  refine nx_ctorC C hK hA hA0 hN hF (iX7 l E kA vA q4 14 (by decide) _) li_X8_11 ⟨by show 1 + 1 ≤ R.frames; omega, by show 8 + (2 + 11) + 12 ≤ R.locals; omega⟩ ⟨by show _ + 4 ≤ R.cells; omega, by show _ + 4 * 14 ≤ R.slots; omega⟩ rfl hl.1 rfl (Nat.le_of_ble_eq_true rfl) dX8_init_49 (fun H locs a4 hF => ?_)
  refine W.widen (k := 20) (n := 144) (by show _ + 4 ≤ _; omega) (by show _ + 4 * 14 ≤ _; omega) ?_
  refine nx_set C hK.1 hin2 cfX8 hF 3 (by decide) mw_112 rfl rfl rfl (Nat.le_of_ble_eq_true rfl) dX8_init_52 (fun H locs hF => ?_)
  have hF : FW E A s.heap ((h0, .inr (8, [.ref q1, .ref q2, .ref q3, .ref q4, .null, .int 0, .int 0, .int 0, .int 0, .int 0, .int 0])) :: ((((([] : va_W) ++ wRoll E 6 (cA0 q1 a1) (sI z0 0 (nI 6))) ++ wRoll E 6 (cA0 q2 a2) (sI z0 0 (nI 6))) ++ wRoll E 4 (cA0 q3 a3) (sI z0 0 (nI 4))) ++ wRoll E 14 (cA0 q4 a4) (sI z0 0 (nI 14)))) _ _ := hF
  refine lv_aload_n C.1 C.2.1 dX8_init_55 rfl (lv_at hl 0 rfl) ?_
  refine lv_iconst C.1 C.2.1 (v := 3) dX8_init_56 (by decide) ?_
  refine nx_newq C hK hA hF mw_75 (n := 3) rfl (by decide) (by omega) (by omega) dX8_init_57 (fun qa H hF => ?_)
  have hF : FW E A s.heap ((h0, .inr (8, [.ref q1, .ref q2, .ref q3, .ref q4, .null, .int 0, .int 0, .int 0, .int 0, .int 0, .int 0])) :: (((((([] : va_W) ++ wRoll E 6 (cA0 q1 a1) (sI z0 0 (nI 6))) ++ wRoll E 6 (cA0 q2 a2) (sI z0 0 (nI 6))) ++ wRoll E 4 (cA0 q3 a3) (sI z0 0 (nI 4))) ++ wRoll E 14 (cA0 q4 a4) (sI z0 0 (nI 14))) ++ [(qa, .inl (E.2.1 4, 3, .inr (.inr (.inr (.inr (fun _ => none))))))])) _ _ := hF
  refine lv_dup C.1 C.2.1 dX8_init_60 rfl ?_
  refine lv_iconst C.1 C.2.1 (v := 0) dX8_init_61 (by decide) ?_
  refine nx_newC C hK.1 hA cfX0 hF mw_75 mw_77 mw_4 [.null, .null, .null, .int 0, .int 0] dfX0 (by omega) (by omega) dX8_init_62 (fun q5 H hF => ?_)
  refine lv_dup C.1 C.2.1 dX8_init_65 rfl ?_
  refine nx_ctorCN C hK hA hA0 hN hF (iX0 l E kA vA q5 _) li_X8_31 ⟨by show 1 + 1 ≤ R.frames; omega, by show 8 + (1 + 11) + 12 ≤ R.locals; omega⟩ ⟨by show _ + 3 ≤ R.cells; omega, by show _ + 192 ≤ R.slots; omega⟩ rfl hl.1 rfl (Nat.le_of_ble_eq_true rfl) dX8_init_66 (fun H locs a5 hF => ?_)
  refine W.widen (k := 25) (n := 344) (by show _ + 3 ≤ _; omega) (by show _ + 192 ≤ _; omega) ?_
  have hF : FW E A s.heap ((h0, .inr (8, [.ref q1, .ref q2, .ref q3, .ref q4, .null, .int 0, .int 0, .int 0, .int 0, .int 0, .int 0])) :: ((((((([] : va_W) ++ wRoll E 6 (cA0 q1 a1) (sI z0 0 (nI 6))) ++ wRoll E 6 (cA0 q2 a2) (sI z0 0 (nI 6))) ++ wRoll E 4 (cA0 q3 a3) (sI z0 0 (nI 4))) ++ wRoll E 14 (cA0 q4 a4) (sI z0 0 (nI 14))) ++ [(qa, .inl (E.2.1 4, 3, .inr (.inr (.inr (.inr (fun _ => none))))))]) ++ wFormula E (cA0 q5 a5) z0)) _ _ := hF
  refine nx_astq C hK.1 hF 21 22 rfl rfl (j := 0) rfl (by decide) (by decide) dX8_init_69 (fun H locs hF => ?_)
  have hF : FW E A s.heap ((h0, .inr (8, [.ref q1, .ref q2, .ref q3, .ref q4, .null, .int 0, .int 0, .int 0, .int 0, .int 0, .int 0])) :: ((((((([] : va_W) ++ wRoll E 6 (cA0 q1 a1) (sI z0 0 (nI 6))) ++ wRoll E 6 (cA0 q2 a2) (sI z0 0 (nI 6))) ++ wRoll E 4 (cA0 q3 a3) (sI z0 0 (nI 4))) ++ wRoll E 14 (cA0 q4 a4) (sI z0 0 (nI 14))) ++ [(qa, .inl (E.2.1 4, 3, .inr (.inr (.inr (.inr (va_up (fun _ => none) 0 (some q5)))))))]) ++ wFormula E (cA0 q5 a5) z0)) _ _ := hF
  refine lv_dup C.1 C.2.1 dX8_init_70 rfl ?_
  refine lv_iconst C.1 C.2.1 (v := 1) dX8_init_71 (by decide) ?_
  refine nx_newC C hK.1 hA cfX0 hF mw_75 mw_77 mw_4 [.null, .null, .null, .int 0, .int 0] dfX0 (by omega) (by omega) dX8_init_72 (fun q6 H hF => ?_)
  refine lv_dup C.1 C.2.1 dX8_init_75 rfl ?_
  refine nx_ctorCN C hK hA hA0 hN hF (iX0 l E kA vA q6 _) li_X8_31 ⟨by show 1 + 1 ≤ R.frames; omega, by show 8 + (1 + 11) + 12 ≤ R.locals; omega⟩ ⟨by show _ + 3 ≤ R.cells; omega, by show _ + 192 ≤ R.slots; omega⟩ rfl hl.1 rfl (Nat.le_of_ble_eq_true rfl) dX8_init_76 (fun H locs a6 hF => ?_)
  refine W.widen (k := 29) (n := 541) (by show _ + 3 ≤ _; omega) (by show _ + 192 ≤ _; omega) ?_
  have hF : FW E A s.heap ((h0, .inr (8, [.ref q1, .ref q2, .ref q3, .ref q4, .null, .int 0, .int 0, .int 0, .int 0, .int 0, .int 0])) :: (((((((([] : va_W) ++ wRoll E 6 (cA0 q1 a1) (sI z0 0 (nI 6))) ++ wRoll E 6 (cA0 q2 a2) (sI z0 0 (nI 6))) ++ wRoll E 4 (cA0 q3 a3) (sI z0 0 (nI 4))) ++ wRoll E 14 (cA0 q4 a4) (sI z0 0 (nI 14))) ++ [(qa, .inl (E.2.1 4, 3, .inr (.inr (.inr (.inr (va_up (fun _ => none) 0 (some q5)))))))]) ++ wFormula E (cA0 q5 a5) z0) ++ wFormula E (cA0 q6 a6) z0)) _ _ := hF
  refine nx_astq C hK.1 hF 21 26 rfl rfl (j := 1) rfl (by decide) (by decide) dX8_init_79 (fun H locs hF => ?_)
  have hF : FW E A s.heap ((h0, .inr (8, [.ref q1, .ref q2, .ref q3, .ref q4, .null, .int 0, .int 0, .int 0, .int 0, .int 0, .int 0])) :: (((((((([] : va_W) ++ wRoll E 6 (cA0 q1 a1) (sI z0 0 (nI 6))) ++ wRoll E 6 (cA0 q2 a2) (sI z0 0 (nI 6))) ++ wRoll E 4 (cA0 q3 a3) (sI z0 0 (nI 4))) ++ wRoll E 14 (cA0 q4 a4) (sI z0 0 (nI 14))) ++ [(qa, .inl (E.2.1 4, 3, .inr (.inr (.inr (.inr (va_up (va_up (fun _ => none) 0 (some q5)) 1 (some q6)))))))]) ++ wFormula E (cA0 q5 a5) z0) ++ wFormula E (cA0 q6 a6) z0)) _ _ := hF
  refine lv_dup C.1 C.2.1 dX8_init_80 rfl ?_
  refine lv_iconst C.1 C.2.1 (v := 2) dX8_init_81 (by decide) ?_
  refine nx_newC C hK.1 hA cfX0 hF mw_75 mw_77 mw_4 [.null, .null, .null, .int 0, .int 0] dfX0 (by omega) (by omega) dX8_init_82 (fun q7 H hF => ?_)
  refine lv_dup C.1 C.2.1 dX8_init_85 rfl ?_
  refine nx_ctorCN C hK hA hA0 hN hF (iX0 l E kA vA q7 _) li_X8_31 ⟨by show 1 + 1 ≤ R.frames; omega, by show 8 + (1 + 11) + 12 ≤ R.locals; omega⟩ ⟨by show _ + 3 ≤ R.cells; omega, by show _ + 192 ≤ R.slots; omega⟩ rfl hl.1 rfl (Nat.le_of_ble_eq_true rfl) dX8_init_86 (fun H locs a7 hF => ?_)
  refine W.widen (k := 33) (n := 738) (by show _ + 3 ≤ _; omega) (by show _ + 192 ≤ _; omega) ?_
  have hF : FW E A s.heap ((h0, .inr (8, [.ref q1, .ref q2, .ref q3, .ref q4, .null, .int 0, .int 0, .int 0, .int 0, .int 0, .int 0])) :: ((((((((([] : va_W) ++ wRoll E 6 (cA0 q1 a1) (sI z0 0 (nI 6))) ++ wRoll E 6 (cA0 q2 a2) (sI z0 0 (nI 6))) ++ wRoll E 4 (cA0 q3 a3) (sI z0 0 (nI 4))) ++ wRoll E 14 (cA0 q4 a4) (sI z0 0 (nI 14))) ++ [(qa, .inl (E.2.1 4, 3, .inr (.inr (.inr (.inr (va_up (va_up (fun _ => none) 0 (some q5)) 1 (some q6)))))))]) ++ wFormula E (cA0 q5 a5) z0) ++ wFormula E (cA0 q6 a6) z0) ++ wFormula E (cA0 q7 a7) z0)) _ _ := hF
  refine nx_astq C hK.1 hF 21 30 rfl rfl (j := 2) rfl (by decide) (by decide) dX8_init_89 (fun H locs hF => ?_)
  have hF : FW E A s.heap ((h0, .inr (8, [.ref q1, .ref q2, .ref q3, .ref q4, .null, .int 0, .int 0, .int 0, .int 0, .int 0, .int 0])) :: ((((((((([] : va_W) ++ wRoll E 6 (cA0 q1 a1) (sI z0 0 (nI 6))) ++ wRoll E 6 (cA0 q2 a2) (sI z0 0 (nI 6))) ++ wRoll E 4 (cA0 q3 a3) (sI z0 0 (nI 4))) ++ wRoll E 14 (cA0 q4 a4) (sI z0 0 (nI 14))) ++ [(qa, .inl (E.2.1 4, 3, .inr (.inr (.inr (.inr (va_up (va_up (va_up (fun _ => none) 0 (some q5)) 1 (some q6)) 2 (some q7)))))))]) ++ wFormula E (cA0 q5 a5) z0) ++ wFormula E (cA0 q6 a6) z0) ++ wFormula E (cA0 q7 a7) z0)) _ _ := hF
  refine nx_set C hK.1 hin2 cfX8 hF 4 (by decide) mw_117 rfl rfl rfl (Nat.le_of_ble_eq_true rfl) dX8_init_90 (fun H locs hF => ?_)
  have hF : FW E A s.heap ((h0, .inr (8, [.ref q1, .ref q2, .ref q3, .ref q4, .ref qa, .int 0, .int 0, .int 0, .int 0, .int 0, .int 0])) :: ((((((((([] : va_W) ++ wRoll E 6 (cA0 q1 a1) (sI z0 0 (nI 6))) ++ wRoll E 6 (cA0 q2 a2) (sI z0 0 (nI 6))) ++ wRoll E 4 (cA0 q3 a3) (sI z0 0 (nI 4))) ++ wRoll E 14 (cA0 q4 a4) (sI z0 0 (nI 14))) ++ [(qa, .inl (E.2.1 4, 3, .inr (.inr (.inr (.inr (va_up (va_up (va_up (fun _ => none) 0 (some q5)) 1 (some q6)) 2 (some q7)))))))]) ++ wFormula E (cA0 q5 a5) z0) ++ wFormula E (cA0 q6 a6) z0) ++ wFormula E (cA0 q7 a7) z0)) _ _ := hF
  refine nx_val C hK.1 hin2 cfX8 (lv_at hl 0 rfl) hF (lv_iconst C.1 C.2.1 (v := 0) dX8_init_94 (by decide)) 5 (by decide) mw_119 rfl rfl rfl (Nat.le_of_ble_eq_true rfl) dX8_init_93 dX8_init_95 (fun H locs hF => ?_)
  refine nx_val C hK.1 hin2 cfX8 (lv_at hl 0 rfl) hF (lv_iconst C.1 C.2.1 (v := 0) dX8_init_99 (by decide)) 6 (by decide) mw_123 rfl rfl rfl (Nat.le_of_ble_eq_true rfl) dX8_init_98 dX8_init_100 (fun H locs hF => ?_)
  refine nx_val C hK.1 hin2 cfX8 (lv_at hl 0 rfl) hF (lv_iconst C.1 C.2.1 (v := 0) dX8_init_104 (by decide)) 7 (by decide) mw_126 rfl rfl rfl (Nat.le_of_ble_eq_true rfl) dX8_init_103 dX8_init_105 (fun H locs hF => ?_)
  refine nx_val C hK.1 hin2 cfX8 (lv_at hl 0 rfl) hF (lv_iconst C.1 C.2.1 (v := 0) dX8_init_109 (by decide)) 8 (by decide) mw_128 rfl rfl rfl (Nat.le_of_ble_eq_true rfl) dX8_init_108 dX8_init_110 (fun H locs hF => ?_)
  refine nx_val C hK.1 hin2 cfX8 (lv_at hl 0 rfl) hF (lv_iconst C.1 C.2.1 (v := 0) dX8_init_114 (by decide)) 9 (by decide) mw_130 rfl rfl rfl (Nat.le_of_ble_eq_true rfl) dX8_init_113 dX8_init_115 (fun H locs hF => ?_)
  refine nx_val C hK.1 hin2 cfX8 (lv_at hl 0 rfl) hF (lv_iconst C.1 C.2.1 (v := 0) dX8_init_119 (by decide)) 10 (by decide) mw_133 rfl rfl rfl (Nat.le_of_ble_eq_true rfl) dX8_init_118 dX8_init_120 (fun H locs hF => ?_)
  have hF : FW E A s.heap ((h0, .inr (8, [.ref q1, .ref q2, .ref q3, .ref q4, .ref qa, .int 0, .int 0, .int 0, .int 0, .int 0, .int 0])) :: ((((((((([] : va_W) ++ wRoll E 6 (cA0 q1 a1) (sI z0 0 (nI 6))) ++ wRoll E 6 (cA0 q2 a2) (sI z0 0 (nI 6))) ++ wRoll E 4 (cA0 q3 a3) (sI z0 0 (nI 4))) ++ wRoll E 14 (cA0 q4 a4) (sI z0 0 (nI 14))) ++ [(qa, .inl (E.2.1 4, 3, .inr (.inr (.inr (.inr (va_up (va_up (va_up (fun _ => none) 0 (some q5)) 1 (some q6)) 2 (some q7)))))))]) ++ wFormula E (cA0 q5 a5) z0) ++ wFormula E (cA0 q6 a6) z0) ++ wFormula E (cA0 q7 a7) z0)) _ _ := hF
  have hF := hF.rep (x' := .inl (E.2.1 4, 3, .inr (.inr (.inr (.inr (l3 q5 q6 q7)))))) 21 rfl l3_at
  have hF := hF.perm (ws' := scW E (aS h0 (mk8 (fun _ => qa) (cA0 q1 a1) (cA0 q2 a2) (cA0 q3 a3) (cA0 q4 a4) (cA0 q5 a5) (cA0 q6 a6) (cA0 q7 a7))) scr0) [0, 21, 1, 2, 3, 4, 5, 6, 7, 8, 9, 10, 11, 12, 13, 14, 15, 16, 17, 18, 19, 20, 22, 23, 24, 25, 26, 27, 28, 29, 30, 31, 32, 33] (by decide) rfl
  exact kk _ ls _ _ (mk8 (fun _ => qa) (cA0 q1 a1) (cA0 q2 a2) (cA0 q3 a3) (cA0 q4 a4) (cA0 q5 a5) (cA0 q6 a6) (cA0 q7 a7)) hF dX8_init_123
