/-! what makes cells: worlds as one list -/
def txW : String := "act   guest grain show  cough seed  law   clap  turn  grit  or    and   not   mood  taste hungerbesidespeed tired minute"
def lenW : List Nat := [120]
def bytW : List (List Int32) := [[97, 99, 116, 32, 32, 32, 103, 117, 101, 115, 116, 32, 103, 114, 97, 105, 110, 32, 115, 104, 111, 119, 32, 32, 99, 111, 117, 103, 104, 32, 115, 101, 101, 100, 32, 32, 108, 97, 119, 32, 32, 32, 99, 108, 97, 112, 32, 32, 116, 117, 114, 110, 32, 32, 103, 114, 105, 116, 32, 32, 111, 114, 32, 32, 32, 32, 97, 110, 100, 32, 32, 32, 110, 111, 116, 32, 32, 32, 109, 111, 111, 100, 32, 32, 116, 97, 115, 116, 101, 32, 104, 117, 110, 103, 101, 114, 98, 101, 115, 105, 100, 101, 115, 112, 101, 101, 100, 32, 116, 105, 114, 101, 100, 32, 109, 105, 110, 117, 116, 101]]
/-- the texts and the JDK's statics -/
def SK (N0 : Nat) (kA vA : Nat → Nat) (U : State) : Prop := vk_R RX10 35 txW (kA 0) U ∧ vk_R RX11 149 "no such guest" (kA 1) U ∧ vk_R RX11 171 "no such what" (kA 2) U ∧ vk_S 1 lenW bytW kA vA (fun q => N0 ≤ q) U U.heap ∧ va_Z RJ0 "COMPACT_STRINGS" "Z" (.int 1) (fun q => N0 ≤ q) U U.heap ∧ va_Zq RJ3 "SIOOBE_FORMATTER" "Ljava/util/function/BiFunction;" (fun q => N0 ≤ q) U U.heap
theorem SK.moved {N0 : Nat} {kA vA : Nat → Nat} {s U : State} (hW : s.WarmedH U.vm) (hq : ∀ q : Nat, q < N0 → U.heap[q]? = s.heap[q]?) (h : SK N0 kA vA s) : SK N0 kA vA U := by
  obtain ⟨h1, h2, h3, h4, h5, h6⟩ := h
  exact ⟨h1.warm hW, h2.warm hW, h3.warm hW, (h4.moved hW.alike).kept (fun a _ ha => hq a (Nat.not_le.mp ha)), (h5.moved hW.alike).kept (fun a _ ha => hq a (Nat.not_le.mp ha)), (h6.moved hW.alike).kept (fun a _ ha => hq a (Nat.not_le.mp ha))⟩
theorem SK.blind {N0 : Nat} {kA vA : Nat → Nat} {U : State} {g : JFrame} {mk : MethodId} {a : Array Value} (h : SK N0 kA vA U) : SK N0 kA vA (U.calling g mk a) := by
  obtain ⟨h1, h2, h3, h4, h5, h6⟩ := h
  exact ⟨h1.same rfl, h2.same rfl, h3.same rfl, vk_S.moved (u := U) (U := U.calling g mk a) (Vm.Alike.refl U.vm) h4, va_Z.moved (u := U) (U := U.calling g mk a) (Vm.Alike.refl U.vm) h5, va_Zq.moved (u := U) (U := U.calling g mk a) (Vm.Alike.refl U.vm) h6⟩
def Ky (E : Ev) (kA vA : Nat → Nat) (U : State) : Prop := Kx E U ∧ va_AO "ClapMill$Formula" U ∧ SK E.2.2.1 kA vA U
theorem Ky.moved {E : Ev} {kA vA : Nat → Nat} {s U : State} (hW : s.WarmedH U.vm) (hq : ∀ q : Nat, q < E.2.2.1 → U.heap[q]? = s.heap[q]?) (h : Ky E kA vA s) : Ky E kA vA U := ⟨h.1.moved hW hq, va_AO.moved hW.alike h.2.1, h.2.2.moved hW hq⟩
theorem Ky.blind {E : Ev} {kA vA : Nat → Nat} {U : State} {g : JFrame} {mk : MethodId} {a : Array Value} (h : Ky E kA vA U) : Ky E kA vA (U.calling g mk a) := ⟨h.1.blind, va_AO.moved (u := U) (U := U.calling g mk a) (Vm.Alike.refl U.vm) h.2.1, h.2.2.blind⟩
/-- a world -/
def FW (E : Ev) (A : Nat → Prop) (H0 : Heap) (ws : va_W) (H : Heap) (locs : List Loc) : Prop := va_P E.1 vwCl ws H ∧ va_D A ws ∧ va_S A H0 H locs
/-- a constructor's contract: w0 its own cells, rs what it reads, w1 what comes -/
def CI (l : Launch) (E : Ev) (kA vA : Nat → Nat) (y : MethodName) (cc : ByteArray) (n : Nat) (rm : Room) (w0 rs : va_W) (av : List Value) (w1 : (Nat → Nat) → va_W) (sz : Nat) : Prop :=
  Met l y (Cond.code y cc n none :: gtbl) rm (fun v U => v = av.toArray ∧ va_P E.1 vwCl (w0 ++ rs) U.heap ∧ Ky E kA vA U ∧ E.2.2.1 ≤ sz ∧ U.heap.size = sz ∧ va_D (fun q => E.2.2.1 ≤ q) (w0 ++ rs)) (fun _ st o t => o = .returned none ∧ (∃ a, va_P E.1 vwCl (w1 a) t.heap ∧ va_D (va_A w0 sz) (w1 a)) ∧ va_F (va_A w0 sz) st t) rm.cells rm.slots (va_A w0 sz)
def rmc (f n c s : Nat) : Room := { frames := f, cells := c, slots := s, locals := n }
theorem va_P.left {D : va_G} {cl : List vw_C} {w1 w2 : va_W} {H : Heap} (h : va_P D cl (w1 ++ w2) H) : va_P D cl w1 H := fun k q hk => h k q (by rw [List.getElem?_append_left (List.getElem?_eq_some_iff.mp hk).1]; exact hk)
theorem va_P.right {D : va_G} {cl : List vw_C} {w1 w2 : va_W} {H : Heap} (h : va_P D cl (w1 ++ w2) H) : va_P D cl w2 H := fun k q hk => h (w1.length + k) q (by rw [List.getElem?_append_right (by omega), Nat.add_sub_cancel_left]; exact hk)
theorem va_D.left {A : Nat → Prop} {w1 w2 : va_W} (h : va_D A (w1 ++ w2)) : va_D A w1 := ⟨fun i j p q hi hj e => h.1 i j p q (by rw [List.getElem?_append_left (List.getElem?_eq_some_iff.mp hi).1]; exact hi) (by rw [List.getElem?_append_left (List.getElem?_eq_some_iff.mp hj).1]; exact hj) e, fun k q hk => h.2 k q (by rw [List.getElem?_append_left (List.getElem?_eq_some_iff.mp hk).1]; exact hk)⟩
theorem va_D.cross {A : Nat → Prop} {w1 w2 : va_W} (h : va_D A (w1 ++ w2)) {i j : Nat} {p q : Nat × va_E} (hi : w1[i]? = some p) (hj : w2[j]? = some q) : p.1 ≠ q.1 := fun e => by
  have l1 := (List.getElem?_eq_some_iff.mp hi).1
  have := h.1 i (w1.length + j) p q (by rw [List.getElem?_append_left l1]; exact hi) (by rw [List.getElem?_append_right (by omega), Nat.add_sub_cancel_left]; exact hj) e
  omega
section CI1
variable {l : Launch} {E : Ev} {kA vA : Nat → Nat} {y : MethodName} {cc : ByteArray} {n : Nat} {rm : Room} {w0 rs : va_W} {av : List Value} {w1 : (Nat → Nat) → va_W} {own : String}
def BodyI (l : Launch) (E : Ev) (kA vA : Nat → Nat) (cc : ByteArray) (n : Nat) (rm : Room) (w0 rs : va_W) (av : List Value) (w1 : (Nat → Nat) → va_W) (own : String) : Prop :=
  ∀ (p : Program) (e : Env) (R : Room) (s : State) (m : MethodId) (args : Array Value) (below : List Frame) (meth : Method) (c : Code) (ls : Array Slot) (Q : State → Prop) (A : Nat → Prop), R.frames = rm.frames → R.locals = rm.locals → R.cells = rm.cells → R.slots = rm.slots → CallFix p m c cc n s args gtbl own → meth.name = "<init>" → Ky E kA vA s → E.2.2.1 ≤ s.heap.size → (∀ q, s.heap.size ≤ q → A q) → (∀ q, A q → E.2.2.1 ≤ q) → FW E A s.heap w0 s.heap [] → va_P E.1 vwCl rs s.heap → (∀ (k : Nat) (q : Nat × va_E), rs[k]? = some q → ¬ A q.1) → lv_has ls n (lv_args 0 av) →
    (∀ (pc : Nat) (ls : Array Slot) (H : Heap) (locs : List Loc) (a : Nat → Nat), FW E A s.heap (w1 a) H locs → decode cc pc = .ok (.return_, 1) → W p l e R s m args below meth c H locs rm.cells rm.slots Q (F0 m pc ls [])) → W p l e R s m args below meth c s.heap [] 0 0 Q (F0 m 0 ls [])
theorem CI.of (hown : y.cls = own) (hy : plainName y.cls = true) (hni : y.name = "<init>") (hz : (lg_sl av).length ≤ n) (body : BodyI l E kA vA cc n rm w0 rs av w1 own) (sz : Nat) : CI l E kA vA y cc n rm w0 rs av w1 sz := by
  refine Met.ofW (cc := cc) (maxL := n) (ret := none) hy rfl ?_
  intro p e s m args below meth c s₁ B hml hv
  obtain ⟨rfl, hP, hK, hN, hsz, hD⟩ := hv
  have hts := atoms_spec (ws := Cond.code y cc n none :: gtbl) B.pre
  have ho : s.vm.findClass own = some m.cls := by rw [← hown]; exact findClass_of_methodNamed B.named
  have hlocks := B.notSynchronized
  have hin : meth.name = "<init>" := by rw [← hni]; exact (name_of_methodNamed B.named B.method).1
  have hl := lv_entry av (n := n) hz
  rw [lg_entry_eq]
  generalize (lg_sl av ++ List.replicate (n - (lg_sl av).length) Slot.unset).toArray = ls at hl ⊢
  have hD0 : va_D (va_A w0 sz) w0 := hD.left.self
  have hA0 : ∀ q, va_A w0 sz q → E.2.2.1 ≤ q := fun q h => by
    rcases h with ⟨k, x, hk⟩ | h
    · exact hD.left.2 k _ hk
    · exact Nat.le_trans hN h
  have hrs : ∀ (k : Nat) (q : Nat × va_E), rs[k]? = some q → ¬ va_A w0 sz q.1 := fun k q hk h => by
    rcases h with ⟨j, x, hj⟩ | h
    · exact hD.cross hj hk rfl
    · exact absurd (hP.right k q hk).lt (by rw [hsz]; omega)
  refine body p e _ s m _ below meth c ls _ (va_A w0 sz) rfl rfl rfl rfl ⟨B.exec, B.bytes, hml, ho, fun w h => hts w (List.mem_cons_of_mem _ h)⟩ hin hK (by rw [hsz]; exact hN) (fun q h => Or.inr (by rw [← hsz]; exact h)) hA0 ⟨hP.left, hD0, va_S.rf⟩ hP.right hrs hl (fun pc ls H locs a hF hd => ?_)
  exact W.vret B.exec B.bytes B.returns (fun t ht _ => ⟨rfl, ⟨a, by rw [ht]; exact hF.1, hF.2.1⟩, hF.2.2.F ht⟩) (fun q hq => hF.2.2.2.2 q hq) hd hlocks
end CI1
section NX1
variable {p : Program} {l : Launch} {e : Env} {R : Room} {s : State} {m : MethodId} {args : Array Value} {below : List Frame} {meth : Method} {c : Code} {H : Heap} {locs : List Loc} {cells slots : Nat} {Q : State → Prop}
variable {cc : ByteArray} {pc nL : Nat} {ls : Array Slot} {rest : List Value} {E : Ev} {own : String} {ws : va_W} {A : Nat → Prop} {kA vA : Nat → Nat}
/-- Object's constructor -/
theorem nx_obj (C : CallFix p m c cc nL s args gtbl own) {idx a : Nat} (hl : Cond.methodLink own idx Lib.objectInit ∈ gtbl) (hi : Cond.instanceMethod Lib.objectInit ∈ gtbl) (hc : Cond.code Lib.objectInit ⟨#[0xb1]⟩ 1 none ∈ gtbl) (hsize : ls.size = nL) (hd : decode cc pc = .ok (.invokespecial idx, 3)) (hf : 1 ≤ R.frames) (hr : (rest.map fun v => v.category).sum + 12 ≤ R.locals) (kk : W p l e R s m args below meth c H locs cells slots Q (F0 m (pc + 3) ls rest)) : W p l e R s m args below meth c H locs cells slots Q (F0 m pc ls (.ref a :: rest)) :=
  W.objInit C.1 C.2.1 C.2.2.2.1 (C.2.2.2.2 _ hl) (C.2.2.2.2 _ hi) (C.2.2.2.2 _ hc) rfl (by rw [C.2.2.1]; exact hsize) rfl hd hf (by show 2 * 0 + _ + 12 ≤ _; omega) kk
theorem va_RA.one {s : State} {a b : ClassId} {ty : FieldType} (h : va_RA s a ty) (k : va_RA s b ty) : a = b := by
  cases ty with
  | object C =>
    obtain ⟨_, _, _, _, _, h4⟩ := h
    obtain ⟨_, _, _, _, _, k4⟩ := k
    exact Option.some.inj (h4.symm.trans k4)
  | _ => exact Option.some.inj (Eq.trans (Eq.symm h) k)
/-- a new row -/
theorem nx_newa (C : CallFix p m c cc nL s args gtbl own) (hK : Kx E s) (hA : ∀ q, s.heap.size ≤ q → A q) (hF : FW E A s.heap ws H locs) (t : Nat) {cA : ClassId} {ty : FieldType} (ht : (tyE E)[t]? = some (cA, ty)) {atype : ArrayType} (hty : newarray.typeOf atype = ty) (harr : Cond.arrayClass ty ∈ gtbl) {x : Int32} {n : Nat} {a0 : vp_A} (ha : ∀ cA : ClassId, vp_cell cA a0 = arrV cA n (fun _ => defaultValue ty)) (hx : x = nI n) (hn : n ≤ 1000) (hcb : componentBytes ty ≤ 8) (hcells : cells + 1 ≤ R.cells) (hslots : slots + n ≤ R.slots) (hdg : decode cc pc = .ok (.newarray atype, 2))
    (kk : ∀ (q : Nat) (H1 : Heap), FW E A s.heap (ws ++ [(q, .inl (cA, a0))]) H1 locs → W p l e R s m args below meth c H1 locs (cells + 1) (slots + n) Q (F0 m (pc + 2) ls (.ref q :: rest))) : W p l e R s m args below meth c H locs cells slots Q (F0 m pc ls (.int x :: rest)) := by
  have hb : n * componentBytes ty ≤ 536870912 := Nat.le_trans (Nat.mul_le_mul hn hcb) (by decide)
  refine va_newa C.1 C.2.1 (by rw [hty]; exact C.2.2.2.2 _ harr) hty hK.1 hF.1 hF.2.1 hF.2.2 hA ha (by rw [hx]; exact nI_pos (by omega)) (by rw [hx]; exact nI_clamp (by omega)) hb hcells hslots hdg (fun q cA' H1 k1 k2 k3 k4 => ?_)
  have h1 := (k1.2 (tyE E).length (cA', ty) (by rw [List.getElem?_append_right (Nat.le_refl _), Nat.sub_self]; rfl)).2
  have h2 := (hK.1.2 t _ ht).2
  have e : cA' = cA := h1.one h2
  subst e
  exact kk q H1 ⟨k2, k3, k4⟩
/-- a new object -/
theorem nx_new (C : CallFix p m c cc nL s args gtbl own) (hK : Kx E s) (hA : ∀ q, s.heap.size ≤ q → A q) (hF : FW E A s.heap ws H locs) {CN : String} {T : u_T} {N ci index : Nat} (hin : ∀ w ∈ u_ws CN T N, w ∈ gtbl) (ty : Nat → FieldType) (hty : ∀ k, k < N → parseFieldDescriptor (T k).2.2.1 = some (ty k)) (hcl : Cond.classLink own index CN ∈ gtbl) (hinst : Cond.instantiable CN N ∈ gtbl) (hini : Cond.initialized CN ∈ gtbl) (hc : vwCl[ci]? = some (CN, T, N)) {fs : List Value} (hfs : ∀ j, j < N → defaultValue (ty j) = vp_V fs j) (hcells : cells + 1 ≤ R.cells) (hslots : slots + N ≤ R.slots) (hdg : decode cc pc = .ok (.new index, 3))
    (kk : ∀ (q : Nat) (H1 : Heap), FW E A s.heap (ws ++ [(q, .inr (ci, fs))]) H1 locs → W p l e R s m args below meth c H1 locs (cells + 1) (slots + N) Q (F0 m (pc + 3) ls (.ref q :: rest))) : W p l e R s m args below meth c H locs cells slots Q (F0 m pc ls rest) :=
  va_new C.1 C.2.1 C.2.2.2.2 hin ty hty C.2.2.2.1 (C.2.2.2.2 _ hcl) (C.2.2.2.2 _ hinst) (C.2.2.2.2 _ hini) hK.1 hF.1 hF.2.1 hF.2.2 hA hc hfs hcells hslots hdg (fun q H1 k1 k2 k3 => kk q H1 ⟨k1, k2, k3⟩)
/-- a final field -/
theorem nx_putF (C : CallFix p m c cc nL s args gtbl own) (hK : Kx E s) (hin2 : meth.name = "<init>") (hF : FW E A s.heap ws H locs) {CN : String} {T : u_T} {N ci index a : Nat} (hin : ∀ w ∈ u_ws CN T N, w ∈ gtbl) (ty0 : Nat → FieldType) (hty : ∀ k, k < N → parseFieldDescriptor (T k).2.2.1 = some (ty0 k)) (hnm : ∀ a, a < N → ∀ b, b < N → a ≠ b → (T a).2.1 ≠ (T b).2.1) (q0 : Nat) {fs : List Value} (he : ws[q0]? = some (a, .inr (ci, fs))) (hc : vwCl[ci]? = some (CN, T, N)) (k : Nat) (hk : k < N) (hlink : Cond.fieldLink own index (T k).1 (T k).2.1 (T k).2.2.1 ∈ gtbl) (hfin : (T k).2.2.2 = true) (hdecl : (T k).1 = own) {ty : FieldType} {v : Value} (hd : parseFieldDescriptor (T k).2.2.1 = some ty) (hn : narrow ty v = v) (hfit : fits ty v = true) (hl : k < fs.length) (hdg : decode cc pc = .ok (.putfield index, 3))
    (kk : ∀ (H1 : Heap) (locs1 : List Loc), FW E A s.heap (ws.set q0 (a, .inr (ci, fs.set k v))) H1 locs1 → W p l e R s m args below meth c H1 locs1 cells slots Q (F0 m (pc + 3) ls rest)) : W p l e R s m args below meth c H locs cells slots Q (F0 m pc ls (v :: .ref a :: rest)) :=
  va_putF C.1 C.2.1 C.2.2.2.2 hin ty0 hty hnm C.2.2.2.1 hK.1 hF.1 hF.2.1 hF.2.2 q0 he hc k hk (C.2.2.2.2 _ hlink) (fun _ h => h) hfin hin2 hdecl hd hn hfit hl hdg (fun H1 l1 k1 k2 k3 => kk H1 l1 ⟨k1, k2, k3⟩)
/-- a field -/
theorem nx_put (C : CallFix p m c cc nL s args gtbl own) (hK : Kx E s) (hF : FW E A s.heap ws H locs) {CN : String} {T : u_T} {N ci index a : Nat} (hin : ∀ w ∈ u_ws CN T N, w ∈ gtbl) (ty0 : Nat → FieldType) (hty : ∀ k, k < N → parseFieldDescriptor (T k).2.2.1 = some (ty0 k)) (hnm : ∀ a, a < N → ∀ b, b < N → a ≠ b → (T a).2.1 ≠ (T b).2.1) (q0 : Nat) {fs : List Value} (he : ws[q0]? = some (a, .inr (ci, fs))) (hc : vwCl[ci]? = some (CN, T, N)) (k : Nat) (hk : k < N) (hlink : Cond.fieldLink own index (T k).1 (T k).2.1 (T k).2.2.1 ∈ gtbl) (hfin : (T k).2.2.2 = false) {ty : FieldType} {v : Value} (hd : parseFieldDescriptor (T k).2.2.1 = some ty) (hn : narrow ty v = v) (hfit : fits ty v = true) (hl : k < fs.length) (hdg : decode cc pc = .ok (.putfield index, 3))
    (kk : ∀ (H1 : Heap) (locs1 : List Loc), FW E A s.heap (ws.set q0 (a, .inr (ci, fs.set k v))) H1 locs1 → W p l e R s m args below meth c H1 locs1 cells slots Q (F0 m (pc + 3) ls rest)) : W p l e R s m args below meth c H locs cells slots Q (F0 m pc ls (v :: .ref a :: rest)) :=
  va_put C.1 C.2.1 C.2.2.2.2 hin ty0 hty hnm C.2.2.2.1 hK.1 hF.1 hF.2.1 hF.2.2 q0 he hc k hk (C.2.2.2.2 _ hlink) (fun _ h => h) hfin hd hn hfit hl hdg (fun H1 l1 k1 k2 k3 => kk H1 l1 ⟨k1, k2, k3⟩)
end NX1
