/-! calls that make cells -/
def LkI (own : String) (i : Nat) (y : MethodName) (cc : ByteArray) (n : Nat) (k : Nat) : Prop :=
  Cond.methodLink own i y ∈ gtbl ∧ Cond.instanceMethod y ∈ gtbl ∧ Cond.initialized y.cls ∈ gtbl ∧ Cond.code y cc n none ∈ gtbl ∧ ndMH y ∧ (parseMethodDescriptor y.desc).map (fun d => d.parameters.length) = some k ∧ y.name = "<init>"
def LkJ (own : String) (i : Nat) (y : MethodName) (host : String) (cc : ByteArray) (n : Nat) (k : Nat) : Prop :=
  Cond.methodLinkNest own i y host ∈ ntbl ∧ Cond.instanceMethod y ∈ gtbl ∧ Cond.initialized y.cls ∈ gtbl ∧ Cond.code y cc n none ∈ gtbl ∧ ndMH y ∧ (parseMethodDescriptor y.desc).map (fun d => d.parameters.length) = some k ∧ y.name = "<init>"
theorem va_P.pk {D : va_G} {cl : List vw_C} {ws ws' : va_W} {H : Heap} (h : va_P D cl ws H) (is : List Nat) (his : is.map (fun i => ws[i]?) = ws'.map some) : va_P D cl ws' H := fun k q hk => by
  obtain ⟨i, -, h2⟩ := at_of his hk
  exact h i q h2
theorem FW.join {E : Ev} {A : Nat → Prop} {H0 H H1 : Heap} {wr w0 w1 : va_W} {locs L : List Loc} (hF : FW E A H0 (wr ++ w0) H locs) (hA : ∀ q, H0.size ≤ q → A q) (hz : H.size ≤ H1.size) (hk : ∀ q : Nat, q < H.size → ¬ va_A w0 H.size q → H1[q]? = H[q]?) (hP1 : va_P E.1 vwCl w1 H1) (hD1 : va_D (va_A w0 H.size) w1) (hL : ∀ q ∈ L, va_A w0 H.size q.base) : FW E A H0 (wr ++ w1) H1 (locs ++ L) := by
  obtain ⟨hP, hD, hS⟩ := hF
  have hin : ∀ q, va_A w0 H.size q → A q := fun q h => by
    rcases h with ⟨k, x, hk⟩ | h
    · exact hD.2 (wr.length + k) _ (by rw [List.getElem?_append_right (by omega), Nat.add_sub_cancel_left]; exact hk)
    · exact hA q (Nat.le_trans hS.1 h)
  have hout : ∀ (k : Nat) (x : Nat × va_E), wr[k]? = some x → ¬ va_A w0 H.size x.1 := fun k x hx h => by
    rcases h with ⟨j, y, hj⟩ | h
    · exact hD.cross hx hj rfl
    · exact absurd (hP.left k x hx).lt (by omega)
  refine ⟨va_P.app (fun k x hx => (hP.left k x hx).kept (hk _ (hP.left k x hx).lt (hout k x hx))) hP1, ⟨fun i j p q hi hj e => ?_, fun k q hq => ?_⟩, Nat.le_trans hS.1 hz, fun q h1 h2 => ?_, fun q hq => ?_⟩
  · by_cases li : i < wr.length
    · rw [List.getElem?_append_left li] at hi
      by_cases lj : j < wr.length
      · rw [List.getElem?_append_left lj] at hj
        exact hD.left.1 i j p q hi hj e
      · rw [List.getElem?_append_right (by omega)] at hj
        exact absurd (hD1.2 _ q hj) (by rw [← e]; exact hout i p hi)
    · rw [List.getElem?_append_right (by omega)] at hi
      by_cases lj : j < wr.length
      · rw [List.getElem?_append_left lj] at hj
        exact absurd (hD1.2 _ p hi) (by rw [e]; exact hout j q hj)
      · rw [List.getElem?_append_right (by omega)] at hj
        have := hD1.1 _ _ p q hi hj e
        omega
  · by_cases lk : k < wr.length
    · rw [List.getElem?_append_left lk] at hq
      exact hD.left.2 k q hq
    · rw [List.getElem?_append_right (by omega)] at hq
      exact hin _ (hD1.2 _ q hq)
  · rw [hk q (Nat.lt_of_lt_of_le h1 hS.1) (fun z => h2 (hin q z))]
    exact hS.2.1 q h1 h2
  · rcases List.mem_append.mp hq with h | h
    · exact hS.2.2 q h
    · exact hin _ (hL q h)
section NX2
variable {p : Program} {l : Launch} {e : Env} {R : Room} {s : State} {m : MethodId} {args : Array Value} {below : List Frame} {meth : Method} {c : Code} {H : Heap} {locs : List Loc} {cells slots : Nat} {Q : State → Prop}
variable {cc bytes : ByteArray} {pc nL maxL index n b : Nat} {ls : Array Slot} {rest st0 As : List Value} {E : Ev} {own host : String} {wr rs : va_W} {A : Nat → Prop} {kA vA : Nat → Nat} {y : MethodName} {rm : Room} {e0 : va_E} {w1 : (Nat → Nat) → va_W}
theorem FW.old {E : Ev} {A : Nat → Prop} {ws : va_W} {H : Heap} {locs : List Loc} {s : State} (hF : FW E A s.heap ws H locs) (hA0 : ∀ q, A q → E.2.2.1 ≤ q) (hN : E.2.2.1 ≤ s.heap.size) : ∀ q : Nat, q < E.2.2.1 → H[q]? = s.heap[q]? := fun q hq => hF.2.2.2.1 q (Nat.lt_of_lt_of_le hq hN) (fun h => absurd (hA0 q h) (by omega))
theorem pp_ctor (hK : Ky E kA vA s) (hA0 : ∀ q, A q → E.2.2.1 ≤ q) (hN : E.2.2.1 ≤ s.heap.size) {ws : va_W} {av : List Value} (hF : FW E A s.heap ws H locs) {w0 : va_W} (is : List Nat) (hnd : va_nd is = true) (his : is.map (fun i => ws[i]?) = (w0 ++ rs).map some) : PreS s H (fun v U => v = av.toArray ∧ va_P E.1 vwCl (w0 ++ rs) U.heap ∧ Ky E kA vA U ∧ E.2.2.1 ≤ H.size ∧ U.heap.size = H.size ∧ va_D (fun q => E.2.2.1 ≤ q) (w0 ++ rs)) av :=
  ⟨fun a U g mk q => ⟨q.1, q.2.1, q.2.2.1.blind, q.2.2.2⟩, fun U hU hW => ⟨rfl, by rw [hU]; exact hF.1.pk is his, hK.moved hW (fun q hq => by rw [hU]; exact hF.old hA0 hN q hq), Nat.le_trans hN hF.2.2.1, by rw [hU], (hF.2.1.sub is hnd his).weaken (fun k q _ h => hA0 _ h)⟩⟩
theorem nx_run {g : JFrame} (hg : g = F0 m pc ls st0) (hA : ∀ q, s.heap.size ≤ q → A q) (hF : FW E A s.heap (wr ++ [(b, e0)]) H locs) (hr : va_Run p l e R s m args below meth c H locs cells slots rm.cells rm.slots g rest (fun st o t => o = .returned none ∧ (∃ a, va_P E.1 vwCl (w1 a) t.heap ∧ va_D (va_A [(b, e0)] H.size) (w1 a)) ∧ va_F (va_A [(b, e0)] H.size) st t) (va_A [(b, e0)] H.size))
    (kk : ∀ (H1 : Heap) (locs1 : List Loc) (a : Nat → Nat), FW E A s.heap (wr ++ w1 a) H1 locs1 → W p l e R s m args below meth c H1 locs1 (cells + rm.cells) (slots + rm.slots) Q (F0 m (pc + 3) ls rest)) : W p l e R s m args below meth c H locs cells slots Q g := by
  subst hg
  intro T hT X
  obtain ⟨v, st₀, t, T', L, h0, X', hL, e1, e2, ⟨hv, ⟨a, hp, hd⟩, hz, hk⟩, st⟩ := hr T hT X
  cases hv
  rw [h0] at hz hk
  obtain ⟨t2, a1, b1⟩ := kk T'.heap (locs ++ L) a (hF.join hA (by rw [e1]; exact hz) (fun q h1 h2 => by rw [e1]; exact hk q h1 h2) (by rw [e1]; exact hp) hd hL) T' rfl X'
  exact ⟨t2, st t2 a1, b1⟩
/-- a constructor of any class -/
theorem nx_ctor (C : CallFix p m c cc nL s args gtbl own) (hK : Ky E kA vA s) (hA : ∀ q, s.heap.size ≤ q → A q) (hA0 : ∀ q, A q → E.2.2.1 ≤ q) (hN : E.2.2.1 ≤ s.heap.size) (hM : CI l E kA vA y bytes maxL rm [(b, e0)] rs (.ref b :: As) w1 H.size) (lk : LkI own index y bytes maxL n) (hR : rm.frames + 1 ≤ R.frames ∧ 8 + (maxL + 11) + rm.locals ≤ R.locals) (hf : cells + rm.cells ≤ R.cells ∧ slots + rm.slots ≤ R.slots) (hF : FW E A s.heap (wr ++ [(b, e0)]) H locs) (is : List Nat) (hnd : va_nd is = true) (his : is.map (fun i => (wr ++ [(b, e0)])[i]?) = ([(b, e0)] ++ rs).map some) (hn : As.length = n) (hsize : ls.size = nL) (hst : st0 = As.reverse ++ .ref b :: rest) (hW : (rest.map fun v => v.category).sum ≤ 8) (hdg : decode cc pc = .ok (.invokespecial index, 3))
    (kk : ∀ (H1 : Heap) (locs1 : List Loc) (a : Nat → Nat), FW E A s.heap (wr ++ w1 a) H1 locs1 → W p l e R s m args below meth c H1 locs1 (cells + rm.cells) (slots + rm.slots) Q (F0 m (pc + 3) ls rest)) : W p l e R s m args below meth c H locs cells slots Q (F0 m pc ls st0) := by
  obtain ⟨k1, k2, k4, k5, k6, k7, k8⟩ := lk
  exact nx_run rfl hA hF (va_runI (As := As) (rest := rest) C hM ⟨callB_of n C.2.2.2.2 (goodIn_g (y := y) (cc := bytes) (n := n) (ret := none) k5) rfl rfl rfl (C.2.2.2.2 _ k4) (C.2.2.2.2 _ k1) ⟨k6.1, k6.2, k7⟩ hR, k8, C.2.2.2.2 _ k2⟩ (pp_ctor hK hA0 hN hF is hnd his) rfl hn hsize hst (lv_room hW) hdg hf) kk
/-- a nest mate's private constructor -/
theorem nx_ctorN (C : CallFix p m c cc nL s args gtbl own) (hK : Ky E kA vA s) (hA : ∀ q, s.heap.size ≤ q → A q) (hA0 : ∀ q, A q → E.2.2.1 ≤ q) (hN : E.2.2.1 ≤ s.heap.size) (hM : CI l E kA vA y bytes maxL rm [(b, e0)] rs (.ref b :: As) w1 H.size) (lk : LkJ own index y host bytes maxL n) (hR : rm.frames + 1 ≤ R.frames ∧ 8 + (maxL + 11) + rm.locals ≤ R.locals) (hf : cells + rm.cells ≤ R.cells ∧ slots + rm.slots ≤ R.slots) (hF : FW E A s.heap (wr ++ [(b, e0)]) H locs) (is : List Nat) (hnd : va_nd is = true) (his : is.map (fun i => (wr ++ [(b, e0)])[i]?) = ([(b, e0)] ++ rs).map some) (hn : As.length = n) (hsize : ls.size = nL) (hst : st0 = As.reverse ++ .ref b :: rest) (hW : (rest.map fun v => v.category).sum ≤ 8) (hdg : decode cc pc = .ok (.invokespecial index, 3))
    (kk : ∀ (H1 : Heap) (locs1 : List Loc) (a : Nat → Nat), FW E A s.heap (wr ++ w1 a) H1 locs1 → W p l e R s m args below meth c H1 locs1 (cells + rm.cells) (slots + rm.slots) Q (F0 m (pc + 3) ls rest)) : W p l e R s m args below meth c H locs cells slots Q (F0 m pc ls st0) := by
  obtain ⟨k1, k2, k4, k5, k6, k7, k8⟩ := lk
  exact nx_run rfl hA hF (va_runIN (host := host) (As := As) (rest := rest) C hM ⟨va_cnB n C.2.2.2.2 (goodIn_g (y := y) (cc := bytes) (n := n) (ret := none) k5) rfl rfl rfl (hK.1.2.2 _ k1) (C.2.2.2.2 _ k4) ⟨k6.1, k6.2, k7⟩ hR, k8, C.2.2.2.2 _ k2⟩ (pp_ctor hK hA0 hN hF is hnd his) rfl hn hsize hst (lv_room hW) hdg hf) kk
theorem DA.one {A : Nat → Prop} {N0 : Nat} {ws : va_W} (hD : va_D A ws) (hA0 : ∀ q, A q → N0 ≤ q) : DA N0 (adr [ws]) := by
  have key : ∀ (i : Nat) (r : List Nat), (adr [ws])[i]? = some r → i = 0 ∧ r = ws.map Prod.fst := fun i r h => by
    match i, h with
    | 0, h => cases h; exact ⟨rfl, rfl⟩
  refine ⟨fun i j k k' r r' q h1 h2 h3 h4 => ?_, fun q hq => ?_⟩
  · obtain ⟨rfl, rfl⟩ := key i r h1
    obtain ⟨rfl, rfl⟩ := key j r' h2
    rw [List.getElem?_map] at h3 h4
    cases h5 : ws[k]? with
    | none => rw [h5] at h3; cases h3
    | some x =>
      cases h6 : ws[k']? with
      | none => rw [h6] at h4; cases h4
      | some z =>
        rw [h5] at h3
        rw [h6] at h4
        have e3 : x.1 = q := Option.some.inj h3
        have e4 : z.1 = q := Option.some.inj h4
        exact ⟨rfl, hD.1 k k' x z h5 h6 (e3.trans e4.symm)⟩
  · obtain ⟨i, k, r, h1, h2⟩ := hq
    obtain ⟨rfl, rfl⟩ := key i r h1
    rw [List.getElem?_map] at h2
    cases h5 : ws[k]? with
    | none => rw [h5] at h2; cases h2
    | some x =>
      rw [h5] at h2
      have e2 : x.1 = q := Option.some.inj h2
      rw [← e2]
      exact hA0 _ (hD.2 k x h5)
theorem PB.one {E : Ev} {ws : va_W} {H : Heap} (h : va_P E.1 vwCl ws H) : PB E [ws] H := fun i b hb => by
  match i, hb with
  | 0, hb => cases hb; exact h
theorem FW.same {E : Ev} {A : Nat → Prop} {H0 H H1 : Heap} {ws ws' : va_W} {locs L : List Loc} (hF : FW E A H0 ws H locs) (hadr : adr [ws'] = adr [ws]) (hz : H.size ≤ H1.size) (hk : ∀ q : Nat, q < H.size → ¬ AA (adr [ws]) q → H1[q]? = H[q]?) (hP1 : va_P E.1 vwCl ws' H1) (hL : ∀ q ∈ L, AA (adr [ws]) q.base) : FW E A H0 ws' H1 (locs ++ L) := by
  obtain ⟨hP, hD, hS⟩ := hF
  have e : ws'.map Prod.fst = ws.map Prod.fst := by
    have := congrArg (fun x : List (List Nat) => x[0]?) hadr
    exact Option.some.inj this
  have at1 : ∀ (k : Nat) (q : Nat × va_E), ws'[k]? = some q → ∃ x, ws[k]? = some x ∧ x.1 = q.1 := fun k q hk => by
    have h2 : (ws'.map Prod.fst)[k]? = some q.1 := by rw [List.getElem?_map, hk]; rfl
    rw [e, List.getElem?_map] at h2
    cases h5 : ws[k]? with
    | none => rw [h5] at h2; cases h2
    | some x => rw [h5] at h2; exact ⟨x, rfl, Option.some.inj h2⟩
  have hin : ∀ q, AA (adr [ws]) q → A q := fun q ⟨i, k, r, h1, h2⟩ => by
    match i, h1 with
    | 0, h1 =>
      cases h1
      rw [List.getElem?_map] at h2
      cases h5 : ws[k]? with
      | none => rw [h5] at h2; cases h2
      | some x =>
        rw [h5] at h2
        have e2 : x.1 = q := Option.some.inj h2
        rw [← e2]
        exact hD.2 k x h5
  refine ⟨hP1, ⟨fun i j p q hi hj eq => ?_, fun k q hq => ?_⟩, Nat.le_trans hS.1 hz, fun q h1 h2 => ?_, fun q hq => ?_⟩
  · obtain ⟨x, x1, x2⟩ := at1 i p hi
    obtain ⟨z, z1, z2⟩ := at1 j q hj
    exact hD.1 i j x z x1 z1 (x2.trans (eq.trans z2.symm))
  · obtain ⟨x, x1, x2⟩ := at1 k q hq
    rw [← x2]; exact hD.2 k x x1
  · rw [hk q (Nat.lt_of_lt_of_le h1 hS.1) (fun z => h2 (hin q z))]
    exact hS.2.1 q h1 h2
  · rcases List.mem_append.mp hq with h | h
    · exact hS.2.2 q h
    · exact hin _ (hL q h)
/-- a method of the object itself, its world whole -/
theorem nx_self {ws : va_W} {ws' : va_W} {f k : Nat} (C : CallFix p m c cc nL s args gtbl own) (hK : Kx E s) (hA0 : ∀ q, A q → E.2.2.1 ≤ q) (hN : E.2.2.1 ≤ s.heap.size) (hM : MX l E y bytes maxL none (rmm f k) [ws] (fun _ => [ws']) (.ref b :: As) none) (lk : LkV own index y bytes maxL none n) (hR : f + 1 ≤ R.frames ∧ 8 + (maxL + 11) + k ≤ R.locals) (hf : cells ≤ R.cells ∧ slots ≤ R.slots) (hF : FW E A s.heap ws H locs) (hadr : adr [ws'] = adr [ws]) (hrc : Rcv s H y.cls b) (hn : As.length = n) (hsize : ls.size = nL) (hst : st0 = As.reverse ++ .ref b :: rest) (hW : (rest.map fun v => v.category).sum ≤ 8) (hdg : decode cc pc = .ok (.invokevirtual index, 3))
    (kk : ∀ (H1 : Heap) (locs1 : List Loc), FW E A s.heap ws' H1 locs1 → W p l e R s m args below meth c H1 locs1 cells slots Q (F0 m (pc + 3) ls rest)) : W p l e R s m args below meth c H locs cells slots Q (F0 m pc ls st0) := by
  obtain ⟨k1, k2, k3, k4, k5, k6, k7⟩ := lk
  have pp := pp_mut (av := .ref b :: As) hK (PB.one hF.1) (hF.old hA0 hN) (Nat.le_trans hN hF.2.2.1) (DA.one hF.2.1 hA0)
  have hr := va_runV (C := y.cls) (As := As) (rest := rest) (g := F0 m pc ls st0) (locs := locs) (cells := cells) (slots := slots) (l := l) (e := e) (below := below) (meth := meth) C hM ⟨cx_B C (C.2.2.2.2 _ k1) k4 k5 k6 k7 ⟨rfl, rfl⟩ hR, C.2.2.2.2 _ k2, C.2.2.2.2 _ k3⟩ ⟨pp.1, hrc, pp.2⟩ rfl hn hsize hst (lv_room hW) hdg hf
  intro T hT X
  obtain ⟨v, st₀, t, T', L, h0, X', hL, e1, e2, ⟨hv, ⟨q, hp⟩, hz, hk2⟩, st⟩ := hr T hT X
  cases hv
  rw [h0] at hz hk2
  obtain ⟨t2, a1, b1⟩ := kk T'.heap (locs ++ L) (hF.same hadr (by rw [e1]; exact hz) (fun q h1 h2 => by rw [e1]; exact hk2 q h1 h2) (by rw [e1]; exact hp 0 _ rfl) hL) T' rfl X'
  exact ⟨t2, st t2 a1, b1⟩
/-- a number into a row -/
theorem nx_iast {ws : va_W} (C : CallFix p m c cc nL s args gtbl own) (hK : Kx E s) (hF : FW E A s.heap ws H locs) {a : Nat} (q0 : Nat) {n : Nat} {f f' : Nat → Int32} (ha : ws[q0]? = some (a, .inl (E.2.1 0, n, .inl f))) {i x : Int32} {j : Nat} (hi : i = nI j) (hj : j < n) (hn : n ≤ 1000) (hf : upd f j x = f') (hdg : decode cc pc = .ok (.iastore, 1))
    (kk : ∀ (H1 : Heap) (locs1 : List Loc), FW E A s.heap (ws.set q0 (a, .inl (E.2.1 0, n, .inl f'))) H1 locs1 → W p l e R s m args below meth c H1 locs1 cells slots Q (F0 m (pc + 1) ls rest)) : W p l e R s m args below meth c H locs cells slots Q (F0 m pc ls (.int x :: .int i :: .ref a :: rest)) := by
  have hc : i.toNatClampNeg = j := by rw [hi]; exact nI_clamp (by omega)
  refine va_iast C.1 C.2.1 hK.1 hF.1 hF.2.1 hF.2.2 q0 0 ha rfl (by rw [hi]; exact vp_in_nI hj (by omega)) hdg (fun H1 l1 k1 k2 k3 => ?_)
  rw [hc, hf] at k1 k2
  exact kk H1 l1 ⟨k1, k2, k3⟩
/-- a new row of formulas -/
theorem nx_newq {ws : va_W} (C : CallFix p m c cc nL s args gtbl own) (hK : Ky E kA vA s) (hA : ∀ q, s.heap.size ≤ q → A q) (hF : FW E A s.heap ws H locs) (hcl : Cond.classLink own index "ClapMill$Formula" ∈ gtbl) {x : Int32} {n : Nat} (hx : x = nI n) (hn : n ≤ 1000) (hcells : cells + 1 ≤ R.cells) (hslots : slots + n ≤ R.slots) (hdg : decode cc pc = .ok (.anewarray index, 3))
    (kk : ∀ (q : Nat) (H1 : Heap), FW E A s.heap (ws ++ [(q, .inl (E.2.1 4, n, .inr (.inr (.inr (.inr (fun _ => none))))))]) H1 locs → W p l e R s m args below meth c H1 locs (cells + 1) (slots + n) Q (F0 m (pc + 3) ls (.ref q :: rest))) : W p l e R s m args below meth c H locs cells slots Q (F0 m pc ls (.int x :: rest)) := by
  refine va_newq C.1 C.2.1 C.2.2.2.1 (C.2.2.2.2 _ hcl) hK.2.1 hK.1.1 hF.1 hF.2.1 hF.2.2 hA (by rw [hx]; exact nI_pos (by omega)) (by rw [hx]; exact nI_clamp (by omega)) (by omega) hcells hslots hdg (fun q cA' H1 k1 k2 k3 k4 => ?_)
  have h1 := (k1.2 (tyE E).length (cA', .object "ClapMill$Formula") (by rw [List.getElem?_append_right (Nat.le_refl _), Nat.sub_self]; rfl)).2
  have h2 := (hK.1.1.2 4 _ rfl).2
  have e : cA' = E.2.1 4 := h1.one h2
  subst e
  exact kk q H1 ⟨k2, k3, k4⟩
/-- a formula into a row -/
theorem nx_astq {ws : va_W} (C : CallFix p m c cc nL s args gtbl own) (hK : Kx E s) (hF : FW E A s.heap ws H locs) {a v : Nat} {vs : List Value} (q0 qk : Nat) {n : Nat} {f : Nat → Option Nat} (ha : ws[q0]? = some (a, .inl (E.2.1 4, n, .inr (.inr (.inr (.inr f)))))) (hv : ws[qk]? = some (v, .inr (0, vs))) {i : Int32} {j : Nat} (hi : i = nI j) (hj : j < n) (hn : n ≤ 1000) (hdg : decode cc pc = .ok (.aastore, 1))
    (kk : ∀ (H1 : Heap) (locs1 : List Loc), FW E A s.heap (ws.set q0 (a, .inl (E.2.1 4, n, .inr (.inr (.inr (.inr (va_up f j (some v)))))))) H1 locs1 → W p l e R s m args below meth c H1 locs1 cells slots Q (F0 m (pc + 1) ls rest)) : W p l e R s m args below meth c H locs cells slots Q (F0 m pc ls (.ref v :: .int i :: .ref a :: rest)) := by
  have hc : i.toNatClampNeg = j := by rw [hi]; exact nI_clamp (by omega)
  refine va_astq C.1 C.2.1 hK.1 hF.1 hF.2.1 hF.2.2 q0 4 qk 0 (r := (RX0, TX0, 5)) ha rfl hv rfl (by rw [hi]; exact vp_in_nI hj (by omega)) hdg (fun H1 l1 k1 k2 k3 => ?_)
  rw [hc] at k1 k2
  exact kk H1 l1 ⟨k1, k2, k3⟩
end NX2
