/-! entering a method, and its end -/
section EN
variable {l : Launch} {E : Ev} {y : MethodName} {cc : ByteArray} {n f k : Nat} {bs : List va_W} {bs' : (Nat → Nat) → List va_W} {av : List Value} {own : String}
/-- a body that changes nothing -/
def BodyP (l : Launch) (E : Ev) (cc : ByteArray) (n f k : Nat) (bs : List va_W) (av : List Value) (own : String) (ret : Option FieldType) (ins : Instr) (out : List Value) : Prop :=
  ∀ (p : Program) (e : Env) (R : Room) (s : State) (m : MethodId) (args : Array Value) (below : List Frame) (meth : Method) (c : Code) (ls : Array Slot) (Q : State → Prop), R.frames = f → R.locals = k → CallFix p m c cc n s args gtbl own → PB E bs s.heap → Kx E s → E.2.2.1 ≤ s.heap.size → lv_has ls n (lv_args 0 av) →
    (∀ (pc : Nat) (ls : Array Slot), decode cc pc = .ok (ins, 1) → W p l e R s m args below meth c s.heap [] 0 0 Q (F0 m pc ls out)) → W p l e R s m args below meth c s.heap [] 0 0 Q (F0 m 0 ls [])
theorem MP.of {ret : Option FieldType} {ins : Instr} {out : List Value} {r : Option Value} (hown : y.cls = own) (hy : plainName y.cls = true) (hz : (lg_sl av).length ≤ n)
    (hend : ∀ {p : Program} {e : Env} {s : State} {m : MethodId} {args : Array Value} {below : List Frame} {meth : Method} {c : Code} {pc : Nat} {ls : Array Slot} {R : Room}, p.tables.exec = Jvm.exec → c.code = cc → meth.sig.returnType = ret → meth.locks = false → decode cc pc = .ok (ins, 1) → W p l e R s m args below meth c s.heap [] 0 0 (MQ below (fun _ st o t => o = .returned r ∧ t.heap = st.heap) args s 0 0 (fun _ => False)) (F0 m pc ls out))
    (body : BodyP l E cc n f k bs av own ret ins out) : MP l E y cc n ret (rmm f k) bs av r := by
  refine Met.ofW (cc := cc) (maxL := n) (ret := ret) hy rfl ?_
  intro p e s m args below meth c s₁ B hml hv
  obtain ⟨rfl, hP, hK, hN⟩ := hv
  have hts := atoms_spec (ws := Cond.code y cc n ret :: gtbl) B.pre
  have ho : s.vm.findClass own = some m.cls := by rw [← hown]; exact findClass_of_methodNamed B.named
  have hlocks := B.notSynchronized
  have hl := lv_entry av (n := n) hz
  rw [lg_entry_eq]
  generalize (lg_sl av ++ List.replicate (n - (lg_sl av).length) Slot.unset).toArray = ls at hl ⊢
  exact body p e _ s m _ below meth c ls _ rfl rfl ⟨B.exec, B.bytes, hml, ho, fun w h => hts w (List.mem_cons_of_mem _ h)⟩ hP hK hN hl (fun pc ls hd => hend B.exec B.bytes B.returns hlocks hd)
theorem MP.ofI {v : Int32} (hown : y.cls = own) (hy : plainName y.cls = true) (hz : (lg_sl av).length ≤ n) (body : BodyP l E cc n f k bs av own (some .int) .ireturn [.int v]) : MP l E y cc n (some .int) (rmm f k) bs av (some (.int v)) :=
  MP.of hown hy hz (fun hx hb hr hlk hd => W.iret hx hb hr (fun t ht _ => ⟨rfl, ht⟩) (fun q hq => by cases hq) hd hlk) body
theorem MP.ofL {v : Int64} (hown : y.cls = own) (hy : plainName y.cls = true) (hz : (lg_sl av).length ≤ n) (body : BodyP l E cc n f k bs av own (some .long) .lreturn [.long v]) : MP l E y cc n (some .long) (rmm f k) bs av (some (.long v)) :=
  MP.of hown hy hz (fun hx hb hr hlk hd => W.lret hx hb hr (fun t ht _ => ⟨rfl, ht⟩) (fun q hq => by cases hq) hd hlk) body
theorem MP.ofZ {v w : Int32} (hw : bz v = w) (hown : y.cls = own) (hy : plainName y.cls = true) (hz : (lg_sl av).length ≤ n) (body : BodyP l E cc n f k bs av own (some .boolean) .ireturn [.int v]) : MP l E y cc n (some .boolean) (rmm f k) bs av (some (.int w)) :=
  MP.of hown hy hz (fun hx hb hr hlk hd => ox_zret hx hb hr hw (fun t ht _ => ⟨rfl, ht⟩) (fun q hq => by cases hq) hd hlk) body
def BodyM (l : Launch) (E : Ev) (cc : ByteArray) (n f k : Nat) (bs : List va_W) (bs' : (Nat → Nat) → List va_W) (av : List Value) (own : String) (ret : Option FieldType) (ins : Instr) (out : List Value) : Prop :=
  ∀ (p : Program) (e : Env) (R : Room) (s : State) (m : MethodId) (args : Array Value) (below : List Frame) (meth : Method) (c : Code) (ls : Array Slot) (Q : State → Prop) (ad : List (List Nat)) (H : Heap), R.frames = f → R.locals = k → CallFix p m c cc n s args gtbl own → WB E ad s.heap bs H [] → DA E.2.2.1 ad → Kx E s → E.2.2.1 ≤ s.heap.size → lv_has ls n (lv_args 0 av) →
    (∀ (pc : Nat) (ls : Array Slot) (H : Heap) (locs : List Loc) (q : Nat → Nat), WB E ad s.heap (bs' q) H locs → decode cc pc = .ok (ins, 1) → W p l e R s m args below meth c H locs 0 0 Q (F0 m pc ls out)) → W p l e R s m args below meth c H [] 0 0 Q (F0 m 0 ls [])
def MX (l : Launch) (E : Ev) (y : MethodName) (cc : ByteArray) (n : Nat) (ret : Option FieldType) (rm : Room) (bs : List va_W) (bs' : (Nat → Nat) → List va_W) (av : List Value) (r : Option Value) : Prop :=
  Met l y (Cond.code y cc n ret :: gtbl) rm (fun v U => v = av.toArray ∧ PB E bs U.heap ∧ Kx E U ∧ E.2.2.1 ≤ U.heap.size ∧ DA E.2.2.1 (adr bs)) (fun _ st o t => o = .returned r ∧ (∃ q, PB E (bs' q) t.heap) ∧ va_F (AA (adr bs)) st t) 0 0 (AA (adr bs))
theorem MX.of {ret : Option FieldType} {ins : Instr} {out : List Value} {r : Option Value} (hown : y.cls = own) (hy : plainName y.cls = true) (hz : (lg_sl av).length ≤ n)
    (hend : ∀ {p : Program} {e : Env} {s : State} {m : MethodId} {args : Array Value} {below : List Frame} {meth : Method} {c : Code} {pc : Nat} {ls : Array Slot} {R : Room} {H : Heap} {locs : List Loc} {Qc : Array Value → State → Outcome → State → Prop} {free : Addr → Prop}, p.tables.exec = Jvm.exec → c.code = cc → meth.sig.returnType = ret → meth.locks = false → decode cc pc = .ok (ins, 1) → (∀ t : State, t.heap = H → s.WarmedH t.vm → Qc args s (.returned r) t) → (∀ q ∈ locs, free q.base) → W p l e R s m args below meth c H locs 0 0 (MQ below Qc args s 0 0 free) (F0 m pc ls out))
    (body : BodyM l E cc n f k bs bs' av own ret ins out) : MX l E y cc n ret (rmm f k) bs bs' av r := by
  refine Met.ofW (cc := cc) (maxL := n) (ret := ret) hy rfl ?_
  intro p e s m args below meth c s₁ B hml hv
  obtain ⟨rfl, hP, hK, hN, hD⟩ := hv
  have hts := atoms_spec (ws := Cond.code y cc n ret :: gtbl) B.pre
  have ho : s.vm.findClass own = some m.cls := by rw [← hown]; exact findClass_of_methodNamed B.named
  have hlocks := B.notSynchronized
  have hl := lv_entry av (n := n) hz
  rw [lg_entry_eq]
  generalize (lg_sl av ++ List.replicate (n - (lg_sl av).length) Slot.unset).toArray = ls at hl ⊢
  have hB : WB E (adr bs) s.heap bs s.heap [] := ⟨hP, rfl, va_S.rf⟩
  generalize hA : adr bs = ad at hD hB ⊢
  exact body p e _ s m _ below meth c ls _ ad _ rfl rfl ⟨B.exec, B.bytes, hml, ho, fun w h => hts w (List.mem_cons_of_mem _ h)⟩ hB hD hK hN hl (fun pc ls H locs q hB hd => hend B.exec B.bytes B.returns hlocks hd (fun t ht _ => ⟨rfl, ⟨q, by rw [ht]; exact hB.1⟩, hB.2.2.F ht⟩) (fun z hz => hB.2.2.2.2 z hz))
theorem MX.ofI {v : Int32} (hown : y.cls = own) (hy : plainName y.cls = true) (hz : (lg_sl av).length ≤ n) (body : BodyM l E cc n f k bs bs' av own (some .int) .ireturn [.int v]) : MX l E y cc n (some .int) (rmm f k) bs bs' av (some (.int v)) :=
  MX.of hown hy hz (fun hx hb hr hlk hd hq hf => W.iret hx hb hr hq hf hd hlk) body
theorem MX.ofL {v : Int64} (hown : y.cls = own) (hy : plainName y.cls = true) (hz : (lg_sl av).length ≤ n) (body : BodyM l E cc n f k bs bs' av own (some .long) .lreturn [.long v]) : MX l E y cc n (some .long) (rmm f k) bs bs' av (some (.long v)) :=
  MX.of hown hy hz (fun hx hb hr hlk hd hq hf => W.lret hx hb hr hq hf hd hlk) body
theorem MX.ofV (hown : y.cls = own) (hy : plainName y.cls = true) (hz : (lg_sl av).length ≤ n) (body : BodyM l E cc n f k bs bs' av own none .return_ []) : MX l E y cc n none (rmm f k) bs bs' av none :=
  MX.of hown hy hz (fun hx hb hr hlk hd hq hf => W.vret hx hb hr hq hf hd hlk) body
theorem MX.ofZ {v w : Int32} (hw : bz v = w) (hown : y.cls = own) (hy : plainName y.cls = true) (hz : (lg_sl av).length ≤ n) (body : BodyM l E cc n f k bs bs' av own (some .boolean) .ireturn [.int v]) : MX l E y cc n (some .boolean) (rmm f k) bs bs' av (some (.int w)) :=
  MX.of hown hy hz (fun hx hb hr hlk hd hq hf => ox_zret hx hb hr hw hq hf hd hlk) body
end EN
section CX2
variable {p : Program} {l : Launch} {e : Env} {R : Room} {s : State} {m : MethodId} {args : Array Value} {below : List Frame} {meth : Method} {c : Code} {H : Heap} {locs : List Loc} {cells slots : Nat} {Q : State → Prop}
variable {cc bytes : ByteArray} {pc nL maxL index n f k : Nat} {ls : Array Slot} {rest st0 st1 As av : List Value} {E : Ev} {own : String} {y : MethodName} {ret : Option FieldType} {cs bs : List va_W} {cs' bs1 : (Nat → Nat) → List va_W} {ad : List (List Nat)} {b : Nat} {r : Option Value}
theorem cx_mutx {g : JFrame} {is : List Nat} (hg : g = F0 m pc ls st0) (hr : va_Run p l e R s m args below meth c H locs cells slots 0 0 g rest (fun st o t => o = .returned r ∧ (∃ q, PB E (cs' q) t.heap) ∧ va_F (AA (adr cs)) st t) (AA (adr cs))) (hs1 : r.toList ++ rest = st1) (hB : WB E ad s.heap bs H locs) (hD : DA E.2.2.1 ad) (hn : is.Nodup) (his : is.map (fun i => bs[i]?) = cs.map some) (hadr : ∀ q, adr (cs' q) = adr cs) (hb1 : ∀ q, setL bs is (cs' q) = bs1 q)
    (kk : ∀ (H1 : Heap) (locs1 : List Loc) (q : Nat → Nat), WB E ad s.heap (bs1 q) H1 locs1 → W p l e R s m args below meth c H1 locs1 cells slots Q (F0 m (pc + 3) ls st1)) : W p l e R s m args below meth c H locs cells slots Q g := by
  subst hg
  intro T hT X
  obtain ⟨v, st₀, t, T', L, h0, X', hL, e1, e2, ⟨hv, ⟨q, hp⟩, hz, hk⟩, st⟩ := hr T hT X
  cases hv
  subst hs1
  rw [h0] at hz hk
  have hsub := (DA.sub (cs := cs) (by rw [hB.2.1]; exact hD) hn his).2
  rw [hB.2.1] at hsub
  have hS := hB.2.2
  have hS1 : va_S (AA ad) s.heap T'.heap (locs ++ L) := ⟨Nat.le_trans hS.1 (by rw [e1]; exact hz), fun q h1 h2 => by rw [e1, hk q (Nat.lt_of_lt_of_le h1 hS.1) (fun z => h2 (hsub q z))]; exact hS.2.1 q h1 h2, fun q hq => by
      rcases List.mem_append.mp hq with h | h
      · exact hS.2.2 q h
      · exact hsub _ (hL q h)⟩
  have hB1 := WB.call hB hD hn his (cs' := cs' q) (by rw [e1]; exact hp) (hadr q) (fun q h1 h2 => by rw [e1]; exact hk q h1 h2) hS1
  rw [hb1 q] at hB1
  obtain ⟨t2, a1, b1⟩ := kk T'.heap (locs ++ L) q hB1 T' rfl X'
  exact ⟨t2, st t2 a1, b1⟩
theorem cxVX (C : CallFix p m c cc nL s args gtbl own) (hK : Kx E s) (hM : MX l E y bytes maxL ret (rmm f k) cs cs' (.ref b :: As) r) (lk : LkV own index y bytes maxL ret n) (hR : f + 1 ≤ R.frames ∧ 8 + (maxL + 11) + k ≤ R.locals) (hf : cells ≤ R.cells ∧ slots ≤ R.slots) (hB : WB E ad s.heap bs H locs) (hD : DA E.2.2.1 ad) (hN : E.2.2.1 ≤ s.heap.size) (is : List Nat) (hnd : is.Nodup) (his : is.map (fun i => bs[i]?) = cs.map some) (hadr : ∀ q, adr (cs' q) = adr cs) (hb1 : ∀ q, setL bs is (cs' q) = bs1 q) (hrc : Rcv s H y.cls b) (hn : As.length = n) (hsize : ls.size = nL) (hst : st0 = As.reverse ++ .ref b :: rest) (hs1 : r.toList ++ rest = st1) (hW : (rest.map fun v => v.category).sum ≤ 8) (hdg : decode cc pc = .ok (.invokevirtual index, 3))
    (kk : ∀ (H1 : Heap) (locs1 : List Loc) (q : Nat → Nat), WB E ad s.heap (bs1 q) H1 locs1 → W p l e R s m args below meth c H1 locs1 cells slots Q (F0 m (pc + 3) ls st1)) : W p l e R s m args below meth c H locs cells slots Q (F0 m pc ls st0) := by
  obtain ⟨k1, k2, k3, k4, k5, k6, k7⟩ := lk
  have hDc := (DA.sub (cs := cs) (by rw [hB.2.1]; exact hD) hnd his).1
  have pp := pp_mut (av := .ref b :: As) hK (hB.1.sub is his) (hB.old hD hN) (Nat.le_trans hN hB.2.2.1) hDc
  exact cx_mutx rfl (va_runV (C := y.cls) (As := As) (rest := rest) C hM ⟨cx_B C (C.2.2.2.2 _ k1) k4 k5 k6 k7 ⟨rfl, rfl⟩ hR, C.2.2.2.2 _ k2, C.2.2.2.2 _ k3⟩ ⟨pp.1, hrc, pp.2⟩ rfl hn hsize hst (lv_room hW) hdg hf) hs1 hB hD hnd his hadr hb1 kk
theorem cxSX (C : CallFix p m c cc nL s args gtbl own) (hK : Kx E s) (hM : MX l E y bytes maxL ret (rmm f k) cs cs' As r) (lk : LkS own index y bytes maxL ret n) (hR : f + 1 ≤ R.frames ∧ 8 + (maxL + 11) + k ≤ R.locals) (hf : cells ≤ R.cells ∧ slots ≤ R.slots) (hB : WB E ad s.heap bs H locs) (hD : DA E.2.2.1 ad) (hN : E.2.2.1 ≤ s.heap.size) (is : List Nat) (hnd : is.Nodup) (his : is.map (fun i => bs[i]?) = cs.map some) (hadr : ∀ q, adr (cs' q) = adr cs) (hb1 : ∀ q, setL bs is (cs' q) = bs1 q) (hn : As.length = n) (hsize : ls.size = nL) (hst : st0 = As.reverse ++ rest) (hs1 : r.toList ++ rest = st1) (hW : (rest.map fun v => v.category).sum ≤ 8) (hdg : decode cc pc = .ok (.invokestatic index, 3))
    (kk : ∀ (H1 : Heap) (locs1 : List Loc) (q : Nat → Nat), WB E ad s.heap (bs1 q) H1 locs1 → W p l e R s m args below meth c H1 locs1 cells slots Q (F0 m (pc + 3) ls st1)) : W p l e R s m args below meth c H locs cells slots Q (F0 m pc ls st0) := by
  obtain ⟨k1, k2, k4, k5, k6, k7⟩ := lk
  have hDc := (DA.sub (cs := cs) (by rw [hB.2.1]; exact hD) hnd his).1
  have pp := pp_mut (av := As) hK (hB.1.sub is his) (hB.old hD hN) (Nat.le_trans hN hB.2.2.1) hDc
  exact cx_mutx rfl (va_runS (As := As) (rest := rest) C hM ⟨cx_B C (C.2.2.2.2 _ k1) k4 k5 k6 k7 ⟨rfl, rfl⟩ hR, C.2.2.2.2 _ k2⟩ pp rfl hn hsize hst (lv_room hW) hdg hf) hs1 hB hD hnd his hadr hb1 kk
/-- a row of one's own, seen as a block -/
theorem PB.view {b : va_W} {i k : Nat} {x : Nat × va_E} (hP : PB E bs H) (hi : bs[i]? = some b) (hk : b[k]? = some x) : PB E [[x]] H := by
  intro j c hc
  match j, hc with
  | 0, hc =>
    cases hc
    intro j2 y hy
    match j2, hy with
    | 0, hy => cases hy; exact hP i b hi k _ hk
theorem DA.view {bs : List va_W} {N0 : Nat} {b : va_W} {i k : Nat} {x : Nat × va_E} (hD : DA N0 (adr bs)) (hi : bs[i]? = some b) (hk : b[k]? = some x) : DA N0 (adr [[x]]) ∧ ∀ q, AA (adr [[x]]) q → q = x.1 := by
  have key : ∀ q, AA (adr [[x]]) q → q = x.1 := by
    intro q ⟨i, k, r, h1, h2⟩
    match i, h1 with
    | 0, h1 =>
      cases h1
      match k, h2 with
      | 0, h2 => cases h2; rfl
  refine ⟨⟨fun i j k k' r r' q h1 h2 h3 h4 => ?_, fun q hq => ?_⟩, key⟩
  · match i, j, h1, h2 with
    | 0, 0, h1, h2 =>
      cases h1; cases h2
      match k, k', h3, h4 with
      | 0, 0, _, _ => exact ⟨rfl, rfl⟩
  · rw [key q hq]; exact hD.2 _ (adr_in hi hk)
theorem cxSV {b : va_W} {i0 k0 a0 : Nat} {x x' : va_E} (C : CallFix p m c cc nL s args gtbl own) (hK : Kx E s) (hM : MX l E y bytes maxL ret (rmm f k) [[(a0, x)]] (fun _ => [[(a0, x')]]) As r) (lk : LkS own index y bytes maxL ret n) (hR : f + 1 ≤ R.frames ∧ 8 + (maxL + 11) + k ≤ R.locals) (hf : cells ≤ R.cells ∧ slots ≤ R.slots) (hB : WB E ad s.heap bs H locs) (hD : DA E.2.2.1 ad) (hN : E.2.2.1 ≤ s.heap.size) (hi : bs[i0]? = some b) (hk : b[k0]? = some (a0, x)) (hn : As.length = n) (hsize : ls.size = nL) (hst : st0 = As.reverse ++ rest) (hs1 : r.toList ++ rest = st1) (hW : (rest.map fun v => v.category).sum ≤ 8) (hdg : decode cc pc = .ok (.invokestatic index, 3))
    (kk : ∀ (H1 : Heap) (locs1 : List Loc), WB E ad s.heap (bs.set i0 (b.set k0 (a0, x'))) H1 locs1 → W p l e R s m args below meth c H1 locs1 cells slots Q (F0 m (pc + 3) ls st1)) : W p l e R s m args below meth c H locs cells slots Q (F0 m pc ls st0) := by
  obtain ⟨k1, k2, k4, k5, k6, k7⟩ := lk
  have hDv := DA.view (bs := bs) (by rw [hB.2.1]; exact hD) hi hk
  have pp := pp_mut (av := As) hK (PB.view hB.1 hi hk) (hB.old hD hN) (Nat.le_trans hN hB.2.2.1) hDv.1
  have hr := va_runS (As := As) (rest := rest) (g := F0 m pc ls st0) (locs := locs) (cells := cells) (slots := slots) (l := l) (e := e) (below := below) (meth := meth) C hM ⟨cx_B C (C.2.2.2.2 _ k1) k4 k5 k6 k7 ⟨rfl, rfl⟩ hR, C.2.2.2.2 _ k2⟩ pp rfl hn hsize hst (lv_room hW) hdg hf
  intro T hT X
  obtain ⟨v, st₀, t, T', L, h0, X', hL, e1, e2, ⟨hv, ⟨q, hp⟩, hz, hk2⟩, st⟩ := hr T hT X
  cases hv
  subst hs1
  rw [h0] at hz hk2
  have hin : AA ad a0 := by rw [← hB.2.1]; exact adr_in hi hk
  have hS := hB.2.2
  have oq : ∀ z : Nat, z < H.size → z ≠ a0 → T'.heap[z]? = H[z]? := fun z h1 h2 => by rw [e1]; exact hk2 z h1 (fun h => h2 (hDv.2 z h))
  have hS1 : va_S (AA ad) s.heap T'.heap (locs ++ L) := ⟨Nat.le_trans hS.1 (by rw [e1]; exact hz), fun z h1 h2 => by rw [oq z (Nat.lt_of_lt_of_le h1 hS.1) (fun e => h2 (by rw [e]; exact hin))]; exact hS.2.1 z h1 h2, fun z hz2 => by
      rcases List.mem_append.mp hz2 with h | h
      · exact hS.2.2 z h
      · rw [hDv.2 _ (hL z h)]; exact hin⟩
  have hB1 : WB E ad s.heap (bs.set i0 (b.set k0 (a0, x'))) T'.heap (locs ++ L) := by
    refine ⟨fun j xx hx => ?_, by rw [adr_set hi hk]; exact hB.2.1, hS1⟩
    intro k' w hw
    have hD2 : DA E.2.2.1 (adr bs) := by rw [hB.2.1]; exact hD
    by_cases hj : i0 = j
    · subst hj
      rw [List.getElem?_set_self (List.getElem?_eq_some_iff.mp hi).1] at hx
      cases hx
      by_cases hkk : k0 = k'
      · subst hkk
        rw [List.getElem?_set_self (List.getElem?_eq_some_iff.mp hk).1] at hw
        cases hw
        rw [e1]
        exact hp 0 _ rfl 0 _ rfl
      · rw [List.getElem?_set_ne hkk] at hw
        have hold := hB.1 i0 b hi k' w hw
        refine hold.kept (oq w.1 hold.lt (fun eq => hkk ?_))
        exact (hD2.1 i0 i0 k0 k' _ _ a0 (adr_at hi) (adr_at hi) (by rw [List.getElem?_map, hk]; rfl) (by rw [List.getElem?_map, hw, ← eq]; rfl)).2
    · rw [List.getElem?_set_ne hj] at hx
      have hold := hB.1 j xx hx k' w hw
      refine hold.kept (oq w.1 hold.lt (fun eq => hj ?_))
      exact (hD2.1 i0 j k0 k' _ _ a0 (adr_at hi) (adr_at hx) (by rw [List.getElem?_map, hk]; rfl) (by rw [List.getElem?_map, hw, ← eq]; rfl)).1
  obtain ⟨t2, a1, b1⟩ := kk T'.heap (locs ++ L) hB1 T' rfl X'
  exact ⟨t2, st t2 a1, b1⟩
end CX2
/-- either an end of a loop or an answer out of it -/
def el {α β γ : Type} (x : α ⊕ β) (f : α → γ) (g : β → γ) : γ := match x with
  | .inl a => f a
  | .inr b => g b
theorem ox_inl {α β γ : Type} {a : α} {f : α → γ} {g : β → γ} {r : γ} (h : el (.inl a) f g = r) : f a = r := h
theorem ox_inr {α β γ : Type} {b : β} {f : α → γ} {g : β → γ} {r : γ} (h : el (.inr b) f g = r) : g b = r := h
def vwA (u : St) (j : Nat) : St := (u.1, u.2.1, fun _ => u.2.2.1 j, u.2.2.2)
def stA (u : St) (j : Nat) (f : Nat → Int32) : St := (u.1, u.2.1, va_up u.2.2.1 j f, u.2.2.2)
def l3 (a b c : Nat) : Nat → Option Nat := fun j => if j = 0 then some a else if j = 1 then some b else some c
theorem ox_sw {A B : Prop} (h : A) (f : A → B) : B := f h
