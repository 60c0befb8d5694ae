/-! worlds in blocks -/
abbrev Ev : Type := va_G × (Nat → ClassId) × Nat × Nat
def tyE (E : Ev) : List (ClassId × FieldType) := [(E.2.1 0, .int), (E.2.1 1, .byte), (E.2.1 2, .boolean), (E.2.1 3, .long), (E.2.1 4, .object "ClapMill$Formula")]
def rkL : List Int32 := [0, 0, 3, 1, 2, 4, 4, 4, 4, 4, 4, 5, 5, 6, 6, 0]
def rkv (j : Nat) : Int32 := rkL.getD j 0
def SX (E : Ev) (U : State) (H : Heap) : Prop := va_Z "ClapMill$Phrase" "RANKS" "[I" (.ref E.2.2.2) (fun q => E.2.2.1 ≤ q) U H ∧ va_T .int E.2.2.2 16 (fun j => .int (rkv j)) (fun q => E.2.2.1 ≤ q) U H
def NX (U : State) : Prop := ∀ w ∈ ntbl, va_Nw w U
def Kx (E : Ev) (U : State) : Prop := va_K E.1 vwCl (tyE E) U ∧ SX E U U.heap ∧ NX U
theorem Kx.moved {E : Ev} {s U : State} (hW : s.WarmedH U.vm) (hq : ∀ q : Nat, q < E.2.2.1 → U.heap[q]? = s.heap[q]?) (h : Kx E s) : Kx E U := by
  obtain ⟨h1, ⟨h2, h3⟩, h4⟩ := h
  refine ⟨va_K.moved hW.alike h1, ⟨(va_Z.moved hW.alike h2).kept (fun a _ ha => hq a (Nat.not_le.mp ha)), (va_T.moved hW.alike h3).kept (fun a _ ha => hq a (Nat.not_le.mp ha))⟩, fun w hw => ?_⟩
  have hn := (List.mem_filter.mp hw).2
  have hz := h4 w hw
  cases w <;> first | exact (Bool.false_ne_true (show false = true from hn)).elim | exact va_Nw.warmF hW hz | exact va_Nw.warmM hW hz
theorem Kx.blind {E : Ev} {U : State} {g : JFrame} {mk : MethodId} {a : Array Value} (h : Kx E U) : Kx E (U.calling g mk a) := by
  obtain ⟨h1, ⟨h2, h3⟩, h4⟩ := h
  refine ⟨va_K.moved (u := U) (U := U.calling g mk a) (Vm.Alike.refl U.vm) h1, ⟨va_Z.moved (u := U) (U := U.calling g mk a) (Vm.Alike.refl U.vm) h2, va_T.moved (u := U) (U := U.calling g mk a) (Vm.Alike.refl U.vm) h3⟩, fun w hw => ?_⟩
  have hn := (List.mem_filter.mp hw).2
  exact va_Nw.same (by cases w <;> first | exact (Bool.false_ne_true (show false = true from hn)).elim | rfl) (rfl : U.vm = (U.calling g mk a).vm) (h4 w hw)
def PB (E : Ev) (bs : List va_W) (H : Heap) : Prop := ∀ (i : Nat) (b : va_W), bs[i]? = some b → va_P E.1 vwCl b H
def adr (bs : List va_W) : List (List Nat) := bs.map (fun b => b.map Prod.fst)
def AA (ad : List (List Nat)) : Nat → Prop := fun q => ∃ (i k : Nat) (r : List Nat), ad[i]? = some r ∧ r[k]? = some q
def DA (N0 : Nat) (ad : List (List Nat)) : Prop := (∀ (i j k k' : Nat) (r r' : List Nat) (q : Nat), ad[i]? = some r → ad[j]? = some r' → r[k]? = some q → r'[k']? = some q → i = j ∧ k = k') ∧ ∀ q, AA ad q → N0 ≤ q
def WB (E : Ev) (ad : List (List Nat)) (H0 : Heap) (bs : List va_W) (H : Heap) (locs : List Loc) : Prop := PB E bs H ∧ adr bs = ad ∧ va_S (AA ad) H0 H locs
theorem adr_at {bs : List va_W} {i : Nat} {b : va_W} (h : bs[i]? = some b) : (adr bs)[i]? = some (b.map Prod.fst) := by
  unfold adr; rw [List.getElem?_map, h]; rfl
theorem adr_in {bs : List va_W} {i k : Nat} {b : va_W} {q : Nat} {e : va_E} (h : bs[i]? = some b) (hk : b[k]? = some (q, e)) : AA (adr bs) q := ⟨i, k, _, adr_at h, by rw [List.getElem?_map, hk]; rfl⟩
theorem adr_set {bs : List va_W} {i k : Nat} {b : va_W} {q : Nat} {e e' : va_E} (h : bs[i]? = some b) (hk : b[k]? = some (q, e)) : adr (bs.set i (b.set k (q, e'))) = adr bs := by
  unfold adr
  rw [List.map_set, List.map_set]
  have h1 : (b.map Prod.fst).set k q = b.map Prod.fst := by
    apply List.ext_getElem?
    intro j
    by_cases hj : k = j
    · subst hj
      rw [List.getElem?_set_self', List.getElem?_map, hk]; rfl
    · rw [List.getElem?_set_ne hj]
  rw [h1]
  apply List.ext_getElem?
  intro j
  by_cases hj : i = j
  · subst hj
    rw [List.getElem?_set_self', List.getElem?_map, h]; rfl
  · rw [List.getElem?_set_ne hj]
theorem WB.old {E : Ev} {ad : List (List Nat)} {H0 : Heap} {bs : List va_W} {H : Heap} {locs : List Loc} (hB : WB E ad H0 bs H locs) (hD : DA E.2.2.1 ad) (hN : E.2.2.1 ≤ H0.size) : ∀ q : Nat, q < E.2.2.1 → H[q]? = H0[q]? := fun q hq => hB.2.2.2.1 q (Nat.lt_of_lt_of_le hq hN) (fun h => absurd (hD.2 q h) (Nat.not_le.mpr hq))
theorem WB.upd {E : Ev} {ad : List (List Nat)} {H0 : Heap} {bs : List va_W} {H H1 : Heap} {locs : List Loc} (hB : WB E ad H0 bs H locs) (hD : DA E.2.2.1 ad) {i q0 : Nat} {b : va_W} {a : Nat} {e0 e : va_E} (hi : bs[i]? = some b) (he : b[q0]? = some (a, e0)) (hat : va_at E.1 vwCl (a, e) H1) (z : H1.size = H.size) (oq : ∀ q : Nat, q ≠ a → H1[q]? = H[q]?) (k : Nat) : WB E ad H0 (bs.set i (b.set q0 (a, e))) H1 (locs ++ [⟨a, k⟩]) := by
  obtain ⟨h1, h2, h3⟩ := hB
  subst h2
  have hin : AA (adr bs) a := adr_in hi he
  refine ⟨fun j x hx => ?_, adr_set hi he, h3.put z oq hin⟩
  intro k' y hy
  by_cases hj : i = j
  · subst hj
    rw [List.getElem?_set_self (List.getElem?_eq_some_iff.mp hi).1] at hx
    cases hx
    by_cases hk : q0 = k'
    · subst hk
      rw [List.getElem?_set_self (List.getElem?_eq_some_iff.mp he).1] at hy
      cases hy
      exact hat
    · rw [List.getElem?_set_ne hk] at hy
      refine (h1 i b hi k' y hy).kept (oq y.1 (fun eq => hk ?_))
      have h5 := hD.1 i i q0 k' _ _ a (adr_at hi) (adr_at hi) (by rw [List.getElem?_map, he]; rfl) (by rw [List.getElem?_map, hy, ← eq]; rfl)
      exact h5.2
  · rw [List.getElem?_set_ne hj] at hx
    refine (h1 j x hx k' y hy).kept (oq y.1 (fun eq => hj ?_))
    have h5 := hD.1 i j q0 k' _ _ a (adr_at hi) (adr_at hx) (by rw [List.getElem?_map, he]; rfl) (by rw [List.getElem?_map, hy, ← eq]; rfl)
    exact h5.1
def setL : List va_W → List Nat → List va_W → List va_W
  | bs, i :: is, c :: cs => setL (bs.set i c) is cs
  | bs, _, _ => bs
theorem setL_len : ∀ (is : List Nat) (bs cs : List va_W), (setL bs is cs).length = bs.length
  | [], bs, cs => by cases cs <;> rfl
  | i :: is, bs, [] => rfl
  | i :: is, bs, c :: cs => by rw [setL, setL_len is, List.length_set]
theorem setL_out : ∀ (is : List Nat) (bs cs : List va_W) (j : Nat), j ∉ is → (setL bs is cs)[j]? = bs[j]?
  | [], bs, cs, j, _ => by cases cs <;> rfl
  | i :: is, bs, [], j, _ => rfl
  | i :: is, bs, c :: cs, j, h => by
    rw [setL, setL_out is _ cs j (fun q => h (List.mem_cons_of_mem _ q)), List.getElem?_set_ne (fun q => h (by rw [q]; exact List.mem_cons_self))]
theorem setL_in : ∀ (is : List Nat) (bs cs : List va_W), is.Nodup → is.length = cs.length → (∀ i ∈ is, i < bs.length) → ∀ (k i : Nat), is[k]? = some i → (setL bs is cs)[i]? = cs[k]?
  | [], bs, cs, _, _, _, k, i, h => by cases h
  | j :: is, bs, [], _, hl, _, k, i, h => by cases hl
  | j :: is, bs, c :: cs, hn, hl, hb, 0, i, h => by
    have h2 : j = i := Option.some.inj h
    subst h2
    rw [setL, setL_out is _ cs j (List.nodup_cons.mp hn).1, List.getElem?_set_self (hb j List.mem_cons_self)]
    rfl
  | j :: is, bs, c :: cs, hn, hl, hb, k + 1, i, h => by
    rw [setL]
    exact setL_in is (bs.set j c) cs (List.nodup_cons.mp hn).2 (Nat.succ.inj hl) (fun x hx => by rw [List.length_set]; exact hb x (List.mem_cons_of_mem _ hx)) k i h
theorem at_of {α : Type} {bs cs : List α} {is : List Nat} (his : is.map (fun i => bs[i]?) = cs.map some) {k : Nat} {c : α} (hc : cs[k]? = some c) : ∃ i, is[k]? = some i ∧ bs[i]? = some c := by
  have h1 : (is.map (fun i => bs[i]?))[k]? = some (some c) := by rw [his, List.getElem?_map, hc]; rfl
  rw [List.getElem?_map] at h1
  cases hi : is[k]? with
  | none => rw [hi] at h1; cases h1
  | some i => rw [hi] at h1; exact ⟨i, rfl, Option.some.inj h1⟩
theorem at_to {α : Type} {bs cs : List α} {is : List Nat} (his : is.map (fun i => bs[i]?) = cs.map some) {k i : Nat} (hi : is[k]? = some i) : ∃ c, cs[k]? = some c ∧ bs[i]? = some c := by
  have h1 : (cs.map some)[k]? = some (bs[i]?) := by rw [← his, List.getElem?_map, hi]; rfl
  rw [List.getElem?_map] at h1
  cases hc : cs[k]? with
  | none => rw [hc] at h1; cases h1
  | some c => rw [hc] at h1; exact ⟨c, rfl, (Option.some.inj h1).symm⟩
theorem nd_inj : ∀ (l : List Nat), l.Nodup → ∀ (i j a : Nat), l[i]? = some a → l[j]? = some a → i = j
  | [], _, i, j, a, h, _ => by cases h
  | x :: l, hn, 0, 0, a, _, _ => rfl
  | x :: l, hn, 0, j + 1, a, h1, h2 => by
    have e : x = a := Option.some.inj h1
    subst e
    exact absurd (List.mem_of_getElem? (show l[j]? = some x from h2)) (List.nodup_cons.mp hn).1
  | x :: l, hn, i + 1, 0, a, h1, h2 => by
    have e : x = a := Option.some.inj h2
    subst e
    exact absurd (List.mem_of_getElem? (show l[i]? = some x from h1)) (List.nodup_cons.mp hn).1
  | x :: l, hn, i + 1, j + 1, a, h1, h2 => by
    rw [nd_inj l (List.nodup_cons.mp hn).2 i j a h1 h2]
theorem PB.sub {E : Ev} {bs cs : List va_W} {H : Heap} (h : PB E bs H) (is : List Nat) (his : is.map (fun i => bs[i]?) = cs.map some) : PB E cs H := fun k c hc => by
  obtain ⟨i, -, h2⟩ := at_of his hc
  exact h i c h2
theorem DA.sub {N0 : Nat} {bs cs : List va_W} (hD : DA N0 (adr bs)) {is : List Nat} (hn : is.Nodup) (his : is.map (fun i => bs[i]?) = cs.map some) : DA N0 (adr cs) ∧ ∀ q, AA (adr cs) q → AA (adr bs) q := by
  have back : ∀ (i : Nat) (r : List Nat), (adr cs)[i]? = some r → ∃ i', is[i]? = some i' ∧ (adr bs)[i']? = some r := by
    intro i r h
    unfold adr at h
    rw [List.getElem?_map] at h
    cases hc : cs[i]? with
    | none => rw [hc] at h; cases h
    | some c =>
      rw [hc] at h
      obtain ⟨i', h1, h2⟩ := at_of his hc
      have h3 : c.map Prod.fst = r := Option.some.inj h
      exact ⟨i', h1, by rw [adr_at h2, h3]⟩
  have sub : ∀ q, AA (adr cs) q → AA (adr bs) q := by
    intro q ⟨i, k, r, h1, h2⟩
    obtain ⟨i', -, h4⟩ := back i r h1
    exact ⟨i', k, r, h4, h2⟩
  refine ⟨⟨fun i j k k' r r' q h1 h2 h3 h4 => ?_, fun q hq => hD.2 q (sub q hq)⟩, sub⟩
  obtain ⟨i', a1, a2⟩ := back i r h1
  obtain ⟨j', b1, b2⟩ := back j r' h2
  obtain ⟨e1, e2⟩ := hD.1 i' j' k k' r r' q a2 b2 h3 h4
  subst e1
  refine ⟨?_, e2⟩
  exact nd_inj is hn i j _ a1 b1
theorem WB.call {E : Ev} {ad : List (List Nat)} {H0 : Heap} {bs cs cs' : List va_W} {H H1 : Heap} {locs locs1 : List Loc} {is : List Nat} (hB : WB E ad H0 bs H locs) (hD : DA E.2.2.1 ad) (hn : is.Nodup) (his : is.map (fun i => bs[i]?) = cs.map some) (hP1 : PB E cs' H1) (hadr : adr cs' = adr cs)
    (hk : ∀ q : Nat, q < H.size → ¬ AA (adr cs) q → H1[q]? = H[q]?) (hS1 : va_S (AA ad) H0 H1 locs1) : WB E ad H0 (setL bs is cs') H1 locs1 := by
  obtain ⟨h1, h2, h3⟩ := hB
  subst h2
  have hll : cs'.length = cs.length := by
    have := congrArg List.length hadr
    simpa [adr] using this
  have hlen : is.length = cs'.length := by
    have := congrArg List.length his
    rw [hll]; simpa using this
  have hlt : ∀ i ∈ is, i < bs.length := by
    intro i hi
    obtain ⟨k, hk⟩ := List.getElem?_of_mem hi
    obtain ⟨c, -, h5⟩ := at_to his hk
    exact (List.getElem?_eq_some_iff.mp h5).1
  refine ⟨fun j x hx => ?_, ?_, hS1⟩
  · by_cases hj : j ∈ is
    · obtain ⟨k, hkj⟩ := List.getElem?_of_mem hj
      rw [setL_in is bs cs' hn hlen hlt k j hkj] at hx
      exact hP1 k x hx
    · rw [setL_out is bs cs' j hj] at hx
      intro k y hy
      have hl := (h1 j x hx k y hy).lt
      refine (h1 j x hx k y hy).kept (hk y.1 hl ?_)
      intro ⟨i, k2, r, g1, g2⟩
      unfold adr at g1
      rw [List.getElem?_map] at g1
      cases hc : cs[i]? with
      | none => rw [hc] at g1; cases g1
      | some c =>
        rw [hc] at g1
        have g3 : c.map Prod.fst = r := Option.some.inj g1
        obtain ⟨i', a1, a2⟩ := at_of his hc
        have h5 := hD.1 i' j k2 k _ _ y.1 (adr_at a2) (adr_at hx) (by rw [g3]; exact g2) (by rw [List.getElem?_map, hy]; rfl)
        exact hj (by rw [← h5.1]; exact List.mem_of_getElem? a1)
  · apply List.ext_getElem?
    intro j
    unfold adr
    rw [List.getElem?_map, List.getElem?_map]
    by_cases hj : j ∈ is
    · obtain ⟨k, hkj⟩ := List.getElem?_of_mem hj
      rw [setL_in is bs cs' hn hlen hlt k j hkj]
      obtain ⟨c, c1, c2⟩ := at_to his hkj
      rw [c2]
      have h6 : (adr cs')[k]? = (adr cs)[k]? := by rw [hadr]
      unfold adr at h6
      rw [List.getElem?_map, List.getElem?_map, c1] at h6
      exact h6
    · rw [setL_out is bs cs' j hj]
/-! contracts -/
def MP (l : Launch) (E : Ev) (y : MethodName) (cc : ByteArray) (n : Nat) (ret : Option FieldType) (rm : Room) (bs : List va_W) (av : List Value) (r : Option Value) : Prop :=
  Met l y (Cond.code y cc n ret :: gtbl) rm (fun v U => v = av.toArray ∧ PB E bs U.heap ∧ Kx E U ∧ E.2.2.1 ≤ U.heap.size) (fun _ st o t => o = .returned r ∧ t.heap = st.heap) 0 0 (fun _ => False)
def MM (l : Launch) (E : Ev) (y : MethodName) (cc : ByteArray) (n : Nat) (ret : Option FieldType) (rm : Room) (bs bs' : List va_W) (av : List Value) (r : Option Value) : Prop :=
  Met l y (Cond.code y cc n ret :: gtbl) rm (fun v U => v = av.toArray ∧ PB E bs U.heap ∧ Kx E U ∧ E.2.2.1 ≤ U.heap.size ∧ DA E.2.2.1 (adr bs)) (fun _ st o t => o = .returned r ∧ PB E bs' t.heap ∧ va_F (AA (adr bs)) st t) 0 0 (AA (adr bs))
def rmm (f n : Nat) : Room := { frames := f, cells := 0, slots := 0, locals := n }
theorem goodIn_g {y y' : MethodName} {cc cc' : ByteArray} {n n' : Nat} {ret ret' : Option FieldType} (h : Cond.code y' cc' n' ret' ∈ gtbl) : GoodIn (gtbl) (Cond.code y' cc' n' ret' :: gtbl) := by
  intro w hw
  have hm : w ∈ gtbl := (List.mem_cons.mp hw).elim (fun e => by rw [e]; exact h) id
  exact ⟨hm, good_of_word (List.mem_filter.mp hm).2⟩
abbrev ndMH (y : MethodName) : Prop := y.cls ≠ "java/lang/invoke/MethodHandle" ∧ y.cls ≠ "java/lang/invoke/VarHandle"
/-- links: a virtual call of a method of its own class -/
def LkV (own : String) (i : Nat) (y : MethodName) (cc : ByteArray) (n : Nat) (ret : Option FieldType) (k : Nat) : Prop :=
  Cond.methodLink own i y ∈ gtbl ∧ Cond.instanceMethod y ∈ gtbl ∧ Cond.selects y.cls y y ∈ gtbl ∧ Cond.initialized y.cls ∈ gtbl ∧ Cond.code y cc n ret ∈ gtbl ∧ ndMH y ∧ (parseMethodDescriptor y.desc).map (fun d => d.parameters.length) = some k
def LkS (own : String) (i : Nat) (y : MethodName) (cc : ByteArray) (n : Nat) (ret : Option FieldType) (k : Nat) : Prop :=
  Cond.methodLink own i y ∈ gtbl ∧ Cond.static y ∈ gtbl ∧ Cond.initialized y.cls ∈ gtbl ∧ Cond.code y cc n ret ∈ gtbl ∧ ndMH y ∧ (parseMethodDescriptor y.desc).map (fun d => d.parameters.length) = some k
def LkN (own : String) (i : Nat) (y : MethodName) (host : String) (cc : ByteArray) (n : Nat) (ret : Option FieldType) (k : Nat) : Prop :=
  Cond.methodLinkNest own i y host ∈ ntbl ∧ Cond.static y ∈ gtbl ∧ Cond.initialized y.cls ∈ gtbl ∧ Cond.code y cc n ret ∈ gtbl ∧ ndMH y ∧ (parseMethodDescriptor y.desc).map (fun d => d.parameters.length) = some k
abbrev Rcv (s : State) (H : Heap) (C : String) (b : Nat) : Prop := ∃ cell : Cell, H[b]? = some cell ∧ cell.vm.isStatics = false ∧ s.vm.findClass C = some cell.cls
section CX
variable {p : Program} {l : Launch} {e : Env} {R : Room} {s : State} {m : MethodId} {args : Array Value} {below : List Frame} {meth : Method} {c : Code} {H : Heap} {locs : List Loc} {cells slots : Nat} {Q : State → Prop}
variable {cc bytes : ByteArray} {pc nL maxL index n : Nat} {ls : Array Slot} {rest st0 st1 As av : List Value} {E : Ev} {own : String} {y : MethodName} {ret : Option FieldType} {rm : Room} {cs cs' bs bs1 : List va_W} {ad : List (List Nat)} {b : Nat} {r : Option Value}
theorem cx_B (C : CallFix p m c cc nL s args gtbl own) (hl : (Cond.methodLink own index y).before args s = true) (hini : Cond.initialized y.cls ∈ gtbl) (hcode : Cond.code y bytes maxL ret ∈ gtbl) (hy : ndMH y) (hd : (parseMethodDescriptor y.desc).map (fun d => d.parameters.length) = some n) (hrm : rm.cells = 0 ∧ rm.slots = 0) (hR : rm.frames + 1 ≤ R.frames ∧ 8 + (maxL + 11) + rm.locals ≤ R.locals) : CallB R s args own index y bytes maxL ret (Cond.code y bytes maxL ret :: gtbl) rm 0 0 n :=
  callB_of n C.2.2.2.2 (goodIn_g (y := y) (cc := bytes) (n := n) (ret := ret) hcode) rfl hrm.1 hrm.2 (C.2.2.2.2 _ hini) hl ⟨hy.1, hy.2, hd⟩ hR
theorem cx_pure {Qa : State → Outcome → State → Prop} {g : JFrame} (hg : g = F0 m pc ls st0) (hr : va_Run p l e R s m args below meth c H locs cells slots 0 0 g rest (fun st o t => o = .returned r ∧ t.heap = st.heap) (fun _ => False)) (hs1 : r.toList ++ rest = st1) (kk : W p l e R s m args below meth c H locs cells slots Q (F0 m (pc + 3) ls st1)) : W p l e R s m args below meth c H locs cells slots Q g := by
  subst hg
  intro T hT X
  obtain ⟨v, st₀, t, T', L, h0, X', hL, e1, e2, ⟨hv, hh⟩, st⟩ := hr T hT X
  cases hv
  subst hs1
  obtain ⟨t2, a1, b1⟩ := kk T' (by rw [e1, hh, h0]) (Stand.forget X' (fun q h => (hL q h).elim))
  exact ⟨t2, st t2 a1, b1⟩
theorem cx_mut {g : JFrame} {is : List Nat} (hg : g = F0 m pc ls st0) (hr : va_Run p l e R s m args below meth c H locs cells slots 0 0 g rest (fun st o t => o = .returned r ∧ PB E cs' t.heap ∧ va_F (AA (adr cs)) st t) (AA (adr cs))) (hs1 : r.toList ++ rest = st1) (hB : WB E ad s.heap bs H locs) (hD : DA E.2.2.1 ad) (hn : is.Nodup) (his : is.map (fun i => bs[i]?) = cs.map some) (hadr : adr cs' = adr cs) (hb1 : setL bs is cs' = bs1)
    (kk : ∀ (H1 : Heap) (locs1 : List Loc), WB E ad s.heap bs1 H1 locs1 → W p l e R s m args below meth c H1 locs1 cells slots Q (F0 m (pc + 3) ls st1)) : W p l e R s m args below meth c H locs cells slots Q g := by
  subst hg
  intro T hT X
  obtain ⟨v, st₀, t, T', L, h0, X', hL, e1, e2, ⟨hv, hp, hz, hk⟩, st⟩ := hr T hT X
  cases hv
  subst hs1
  subst hb1
  rw [h0] at hz hk
  have hsub := (DA.sub (cs := cs) (by rw [hB.2.1]; exact hD) hn his).2
  rw [hB.2.1] at hsub
  have hS := hB.2.2
  have hS1 : va_S (AA ad) s.heap T'.heap (locs ++ L) := ⟨Nat.le_trans hS.1 (by rw [e1]; exact hz), fun q h1 h2 => by rw [e1, hk q (Nat.lt_of_lt_of_le h1 hS.1) (fun z => h2 (hsub q z))]; exact hS.2.1 q h1 h2, fun q hq => by
      rcases List.mem_append.mp hq with h | h
      · exact hS.2.2 q h
      · exact hsub _ (hL q h)⟩
  obtain ⟨t2, a1, b1⟩ := kk T'.heap (locs ++ L) (WB.call hB hD hn his (by rw [e1]; exact hp) hadr (fun q h1 h2 => by rw [e1]; exact hk q h1 h2) hS1) T' rfl X'
  exact ⟨t2, st t2 a1, b1⟩
theorem pp_pure {H : Heap} {av : List Value} {cs : List va_W} (hK : Kx E s) (hP : PB E cs H) (hold : ∀ q : Nat, q < E.2.2.1 → H[q]? = s.heap[q]?) (hN : E.2.2.1 ≤ H.size) : PreS s H (fun v U => v = av.toArray ∧ PB E cs U.heap ∧ Kx E U ∧ E.2.2.1 ≤ U.heap.size) av :=
  ⟨fun a U g mk q => ⟨q.1, q.2.1, q.2.2.1.blind, q.2.2.2⟩, fun U hU hW => ⟨rfl, by rw [hU]; exact hP, Kx.moved hW (fun q hq => by rw [hU]; exact hold q hq) hK, by rw [hU]; exact hN⟩⟩
theorem pp_mut {H : Heap} {av : List Value} {cs : List va_W} (hK : Kx E s) (hP : PB E cs H) (hold : ∀ q : Nat, q < E.2.2.1 → H[q]? = s.heap[q]?) (hN : E.2.2.1 ≤ H.size) (hD : DA E.2.2.1 (adr cs)) : PreS s H (fun v U => v = av.toArray ∧ PB E cs U.heap ∧ Kx E U ∧ E.2.2.1 ≤ U.heap.size ∧ DA E.2.2.1 (adr cs)) av :=
  ⟨fun a U g mk q => ⟨q.1, q.2.1, q.2.2.1.blind, q.2.2.2⟩, fun U hU hW => ⟨rfl, by rw [hU]; exact hP, Kx.moved hW (fun q hq => by rw [hU]; exact hold q hq) hK, by rw [hU]; exact hN, hD⟩⟩
/-- a virtual call of a method that changes nothing -/
theorem cxVP (C : CallFix p m c cc nL s args gtbl own) (hK : Kx E s) (hM : MP l E y bytes maxL ret rm cs (.ref b :: As) r) (lk : LkV own index y bytes maxL ret n) (hrm : rm.cells = 0 ∧ rm.slots = 0) (hR : rm.frames + 1 ≤ R.frames ∧ 8 + (maxL + 11) + rm.locals ≤ R.locals) (hf : cells ≤ R.cells ∧ slots ≤ R.slots) (hP : PB E cs H) (hold : ∀ q : Nat, q < E.2.2.1 → H[q]? = s.heap[q]?) (hN : E.2.2.1 ≤ H.size) (hrc : Rcv s H y.cls b) (hn : As.length = n) (hsize : ls.size = nL) (hst : st0 = As.reverse ++ .ref b :: rest) (hs1 : r.toList ++ rest = st1) (hW : (rest.map fun v => v.category).sum ≤ 8) (hdg : decode cc pc = .ok (.invokevirtual index, 3))
    (kk : W p l e R s m args below meth c H locs cells slots Q (F0 m (pc + 3) ls st1)) : W p l e R s m args below meth c H locs cells slots Q (F0 m pc ls st0) := by
  obtain ⟨k1, k2, k3, k4, k5, k6, k7⟩ := lk
  have pp := pp_pure (av := .ref b :: As) hK hP hold hN
  exact cx_pure (Qa := fun _ _ _ => True) rfl (va_runV (C := y.cls) (As := As) (rest := rest) C hM ⟨cx_B C (C.2.2.2.2 _ k1) k4 k5 k6 k7 hrm hR, C.2.2.2.2 _ k2, C.2.2.2.2 _ k3⟩ ⟨pp.1, hrc, pp.2⟩ rfl hn hsize hst (lv_room hW) hdg hf) hs1 kk
theorem cxVM (C : CallFix p m c cc nL s args gtbl own) (hK : Kx E s) (hM : MM l E y bytes maxL ret rm cs cs' (.ref b :: As) r) (lk : LkV own index y bytes maxL ret n) (hrm : rm.cells = 0 ∧ rm.slots = 0) (hR : rm.frames + 1 ≤ R.frames ∧ 8 + (maxL + 11) + rm.locals ≤ R.locals) (hf : cells ≤ R.cells ∧ slots ≤ R.slots) (hB : WB E ad s.heap bs H locs) (hD : DA E.2.2.1 ad) (hN : E.2.2.1 ≤ s.heap.size) (is : List Nat) (hnd : is.Nodup) (his : is.map (fun i => bs[i]?) = cs.map some) (hadr : adr cs' = adr cs) (hb1 : setL bs is cs' = bs1) (hrc : Rcv s H y.cls b) (hn : As.length = n) (hsize : ls.size = nL) (hst : st0 = As.reverse ++ .ref b :: rest) (hs1 : r.toList ++ rest = st1) (hW : (rest.map fun v => v.category).sum ≤ 8) (hdg : decode cc pc = .ok (.invokevirtual index, 3))
    (kk : ∀ (H1 : Heap) (locs1 : List Loc), WB E ad s.heap bs1 H1 locs1 → W p l e R s m args below meth c H1 locs1 cells slots Q (F0 m (pc + 3) ls st1)) : W p l e R s m args below meth c H locs cells slots Q (F0 m pc ls st0) := by
  obtain ⟨k1, k2, k3, k4, k5, k6, k7⟩ := lk
  have hDc := (DA.sub (cs := cs) (by rw [hB.2.1]; exact hD) hnd his).1
  have pp := pp_mut (av := .ref b :: As) hK (hB.1.sub is his) (hB.old hD hN) (Nat.le_trans hN hB.2.2.1) hDc
  exact cx_mut rfl (va_runV (C := y.cls) (As := As) (rest := rest) C hM ⟨cx_B C (C.2.2.2.2 _ k1) k4 k5 k6 k7 hrm hR, C.2.2.2.2 _ k2, C.2.2.2.2 _ k3⟩ ⟨pp.1, hrc, pp.2⟩ rfl hn hsize hst (lv_room hW) hdg hf) hs1 hB hD hnd his hadr hb1 kk
theorem cxSP (C : CallFix p m c cc nL s args gtbl own) (hK : Kx E s) (hM : MP l E y bytes maxL ret rm cs As r) (lk : LkS own index y bytes maxL ret n) (hrm : rm.cells = 0 ∧ rm.slots = 0) (hR : rm.frames + 1 ≤ R.frames ∧ 8 + (maxL + 11) + rm.locals ≤ R.locals) (hf : cells ≤ R.cells ∧ slots ≤ R.slots) (hP : PB E cs H) (hold : ∀ q : Nat, q < E.2.2.1 → H[q]? = s.heap[q]?) (hN : E.2.2.1 ≤ H.size) (hn : As.length = n) (hsize : ls.size = nL) (hst : st0 = As.reverse ++ rest) (hs1 : r.toList ++ rest = st1) (hW : (rest.map fun v => v.category).sum ≤ 8) (hdg : decode cc pc = .ok (.invokestatic index, 3))
    (kk : W p l e R s m args below meth c H locs cells slots Q (F0 m (pc + 3) ls st1)) : W p l e R s m args below meth c H locs cells slots Q (F0 m pc ls st0) := by
  obtain ⟨k1, k2, k4, k5, k6, k7⟩ := lk
  have pp := pp_pure (av := As) hK hP hold hN
  exact cx_pure (Qa := fun _ _ _ => True) rfl (va_runS (As := As) (rest := rest) C hM ⟨cx_B C (C.2.2.2.2 _ k1) k4 k5 k6 k7 hrm hR, C.2.2.2.2 _ k2⟩ pp rfl hn hsize hst (lv_room hW) hdg hf) hs1 kk
theorem cxSM (C : CallFix p m c cc nL s args gtbl own) (hK : Kx E s) (hM : MM l E y bytes maxL ret rm cs cs' As r) (lk : LkS own index y bytes maxL ret n) (hrm : rm.cells = 0 ∧ rm.slots = 0) (hR : rm.frames + 1 ≤ R.frames ∧ 8 + (maxL + 11) + rm.locals ≤ R.locals) (hf : cells ≤ R.cells ∧ slots ≤ R.slots) (hB : WB E ad s.heap bs H locs) (hD : DA E.2.2.1 ad) (hN : E.2.2.1 ≤ s.heap.size) (is : List Nat) (hnd : is.Nodup) (his : is.map (fun i => bs[i]?) = cs.map some) (hadr : adr cs' = adr cs) (hb1 : setL bs is cs' = bs1) (hn : As.length = n) (hsize : ls.size = nL) (hst : st0 = As.reverse ++ rest) (hs1 : r.toList ++ rest = st1) (hW : (rest.map fun v => v.category).sum ≤ 8) (hdg : decode cc pc = .ok (.invokestatic index, 3))
    (kk : ∀ (H1 : Heap) (locs1 : List Loc), WB E ad s.heap bs1 H1 locs1 → W p l e R s m args below meth c H1 locs1 cells slots Q (F0 m (pc + 3) ls st1)) : W p l e R s m args below meth c H locs cells slots Q (F0 m pc ls st0) := by
  obtain ⟨k1, k2, k4, k5, k6, k7⟩ := lk
  have hDc := (DA.sub (cs := cs) (by rw [hB.2.1]; exact hD) hnd his).1
  have pp := pp_mut (av := As) hK (hB.1.sub is his) (hB.old hD hN) (Nat.le_trans hN hB.2.2.1) hDc
  exact cx_mut rfl (va_runS (As := As) (rest := rest) C hM ⟨cx_B C (C.2.2.2.2 _ k1) k4 k5 k6 k7 hrm hR, C.2.2.2.2 _ k2⟩ pp rfl hn hsize hst (lv_room hW) hdg hf) hs1 hB hD hnd his hadr hb1 kk
theorem cxNP {host : String} (C : CallFix p m c cc nL s args gtbl own) (hK : Kx E s) (hM : MP l E y bytes maxL ret rm cs As r) (lk : LkN own index y host bytes maxL ret n) (hrm : rm.cells = 0 ∧ rm.slots = 0) (hR : rm.frames + 1 ≤ R.frames ∧ 8 + (maxL + 11) + rm.locals ≤ R.locals) (hf : cells ≤ R.cells ∧ slots ≤ R.slots) (hP : PB E cs H) (hold : ∀ q : Nat, q < E.2.2.1 → H[q]? = s.heap[q]?) (hN : E.2.2.1 ≤ H.size) (hn : As.length = n) (hsize : ls.size = nL) (hst : st0 = As.reverse ++ rest) (hs1 : r.toList ++ rest = st1) (hW : (rest.map fun v => v.category).sum ≤ 8) (hdg : decode cc pc = .ok (.invokestatic index, 3))
    (kk : W p l e R s m args below meth c H locs cells slots Q (F0 m (pc + 3) ls st1)) : W p l e R s m args below meth c H locs cells slots Q (F0 m pc ls st0) := by
  obtain ⟨k1, k2, k4, k5, k6, k7⟩ := lk
  have pp := pp_pure (av := As) hK hP hold hN
  exact cx_pure (Qa := fun _ _ _ => True) rfl (va_runSN (host := host) (As := As) (rest := rest) C hM ⟨va_cnB n C.2.2.2.2 (goodIn_g (y := y) (cc := bytes) (n := n) (ret := ret) k5) rfl hrm.1 hrm.2 (hK.2.2 _ k1) (C.2.2.2.2 _ k4) ⟨k6.1, k6.2, k7⟩ hR, C.2.2.2.2 _ k2, trivial⟩ pp rfl hn hsize hst (lv_room hW) hdg hf) hs1 kk
end CX
