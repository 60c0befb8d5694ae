theorem ox_a0 {β : Type} {F j : β} {r : β} (e : j = F) (h : j = r) : F = r := e ▸ h
theorem ox_a7 {A1 A2 A3 A4 A5 A6 A7 β : Type} {F j : A1 → A2 → A3 → A4 → A5 → A6 → A7 → β} {x1 : A1} {x2 : A2} {x3 : A3} {x4 : A4} {x5 : A5} {x6 : A6} {x7 : A7} {r : β} (e : j = F) (h : j x1 x2 x3 x4 x5 x6 x7 = r) : F x1 x2 x3 x4 x5 x6 x7 = r := e ▸ h
theorem bz0 : bz 0 = 0 := by decide
theorem bz1 : bz 1 = 1 := by decide
theorem bz_ite {c : Prop} [Decidable c] {a b : Int32} (ha : bz a = a) (hb : bz b = b) : bz (if c then a else b) = if c then a else b := by
  by_cases h : c
  · rw [if_pos h]; exact ha
  · rw [if_neg h]; exact hb
theorem fits_z {v : Int32} (h : bz v = v) : fits .boolean (.int v) = true := by
  obtain ⟨j, hj, e⟩ := pk_andE v (m := 1) 1 (by decide)
  have h2 : v = nI j := (show v &&& 1 = v from h).symm.trans e
  rcases (show j = 0 ∨ j = 1 by omega) with rfl | rfl
  · rw [h2]; decide
  · rw [h2]; decide
theorem nar_z {v : Int32} (h : bz v = v) : narrow .boolean (.int v) = .int v := by rw [show narrow .boolean (.int v) = .int (bz v) from rfl, h]
def pk (g x y : Nat) : Nat := if g = 0 then x else y
section B4
variable {p : Program} {l : Launch} {e : Env} {R : Room} {s : State} {m : MethodId} {args : Array Value} {below : List Frame} {meth : Method} {c : Code} {H : Heap} {locs : List Loc} {cells slots : Nat} {Q : State → Prop}
variable {cc : ByteArray} {pc nL : Nat} {ls : Array Slot} {rest : List Value} {E : Ev} {own : String} {bs : List va_W} {ad : List (List Nat)} {a : Nat} {b : va_W} {H0 : Heap}
theorem bx_aaldK (C : CallFix p m c cc nL s args gtbl own) (hK : Kx E s) (hP : va_P E.1 vwCl b H) (q0 : Nat) {f : Nat → Option Nat} (ha : b[q0]? = some (a, .inl (E.2.1 4, 3, .inr (.inr (.inr (.inr f)))))) {i : Int32} {k : Nat} (hi : i = Int32.ofNat k) (hdg : decode cc pc = .ok (.aaload, 1)) {q : Nat} (hq : f k = some q) (hk : k < 3)
    (kk : W p l e R s m args below meth c H locs cells slots Q (F0 m (pc + 1) ls (.ref q :: rest))) : W p l e R s m args below meth c H locs cells slots Q (F0 m pc ls (.int i :: .ref a :: rest)) := by
  have hc : i.toNatClampNeg = k := by rw [hi]; exact nI_clamp (n := k) (by omega)
  have hin : ¬ (i < 0 ∨ 3 ≤ i.toNatClampNeg) := by rw [hi]; exact nI_in (c := k) (N := 3) hk (by decide)
  refine bx_aald C hK hP q0 ha hin hdg ?_
  rw [hc, hq]
  exact kk
end B4
section EN4
variable {l : Launch} {E : Ev} {y : MethodName} {cc : ByteArray} {n f k : Nat} {bs : List va_W} {bs' : (Nat → Nat) → List va_W} {av : List Value} {own : String}
theorem MP.ofZZ {w : Int32} (hown : y.cls = own) (hy : plainName y.cls = true) (hz : (lg_sl av).length ≤ n) (body : ∀ (p : Program) (e : Env) (R : Room) (s : State) (m : MethodId) (args : Array Value) (below : List Frame) (meth : Method) (c : Code) (ls : Array Slot) (Q : State → Prop), R.frames = f → R.locals = k → CallFix p m c cc n s args gtbl own → PB E bs s.heap → Kx E s → E.2.2.1 ≤ s.heap.size → lv_has ls n (lv_args 0 av) →
    (∀ (pc : Nat) (ls : Array Slot) (v : Int32), bz v = w → decode cc pc = .ok (.ireturn, 1) → W p l e R s m args below meth c s.heap [] 0 0 Q (F0 m pc ls [.int v])) → W p l e R s m args below meth c s.heap [] 0 0 Q (F0 m 0 ls [])) : MP l E y cc n (some .boolean) (rmm f k) bs av (some (.int w)) := by
  refine Met.ofW (cc := cc) (maxL := n) (ret := some .boolean) hy rfl ?_
  intro p e s m args below meth c s₁ B hml hv
  obtain ⟨rfl, hP, hK, hN⟩ := hv
  have hts := atoms_spec (ws := Cond.code y cc n (some .boolean) :: gtbl) B.pre
  have ho : s.vm.findClass own = some m.cls := by rw [← hown]; exact findClass_of_methodNamed B.named
  have hlocks := B.notSynchronized
  have hl := lv_entry av (n := n) hz
  rw [lg_entry_eq]
  generalize (lg_sl av ++ List.replicate (n - (lg_sl av).length) Slot.unset).toArray = ls at hl ⊢
  exact body p e _ s m _ below meth c ls _ rfl rfl ⟨B.exec, B.bytes, hml, ho, fun w h => hts w (List.mem_cons_of_mem _ h)⟩ hP hK hN hl (fun pc ls v hv hd => ox_zret B.exec B.bytes B.returns hv (fun t ht _ => ⟨rfl, ht⟩) (fun q hq => by cases hq) hd hlocks)
theorem MX.ofZZ {w : Int32} (hown : y.cls = own) (hy : plainName y.cls = true) (hz : (lg_sl av).length ≤ n) (body : ∀ (p : Program) (e : Env) (R : Room) (s : State) (m : MethodId) (args : Array Value) (below : List Frame) (meth : Method) (c : Code) (ls : Array Slot) (Q : State → Prop) (ad : List (List Nat)) (H : Heap), R.frames = f → R.locals = k → CallFix p m c cc n s args gtbl own → WB E ad s.heap bs H [] → DA E.2.2.1 ad → Kx E s → E.2.2.1 ≤ s.heap.size → lv_has ls n (lv_args 0 av) →
    (∀ (pc : Nat) (ls : Array Slot) (H : Heap) (locs : List Loc) (q : Nat → Nat) (v : Int32), bz v = w → WB E ad s.heap (bs' q) H locs → decode cc pc = .ok (.ireturn, 1) → W p l e R s m args below meth c H locs 0 0 Q (F0 m pc ls [.int v])) → W p l e R s m args below meth c H [] 0 0 Q (F0 m 0 ls [])) : MX l E y cc n (some .boolean) (rmm f k) bs bs' av (some (.int w)) := by
  refine Met.ofW (cc := cc) (maxL := n) (ret := some .boolean) hy rfl ?_
  intro p e s m args below meth c s₁ B hml hv
  obtain ⟨rfl, hP, hK, hN, hD⟩ := hv
  have hts := atoms_spec (ws := Cond.code y cc n (some .boolean) :: gtbl) B.pre
  have ho : s.vm.findClass own = some m.cls := by rw [← hown]; exact findClass_of_methodNamed B.named
  have hlocks := B.notSynchronized
  have hl := lv_entry av (n := n) hz
  rw [lg_entry_eq]
  generalize (lg_sl av ++ List.replicate (n - (lg_sl av).length) Slot.unset).toArray = ls at hl ⊢
  have hB : WB E (adr bs) s.heap bs s.heap [] := ⟨hP, rfl, va_S.rf⟩
  generalize hA : adr bs = ad at hD hB ⊢
  exact body p e _ s m _ below meth c ls _ ad _ rfl rfl ⟨B.exec, B.bytes, hml, ho, fun w h => hts w (List.mem_cons_of_mem _ h)⟩ hB hD hK hN hl (fun pc ls H locs q v hv hB hd => ox_zret B.exec B.bytes B.returns hv (fun t ht _ => ⟨rfl, ⟨q, by rw [ht]; exact hB.1⟩, hB.2.2.F ht⟩) (fun z hz => hB.2.2.2.2 z hz) hd hlocks)
end EN4
