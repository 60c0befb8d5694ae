/-! states: ints, longs, rows of ints, rows of longs -/
abbrev St : Type := (Nat → Int32) × (Nat → Int64) × (Nat → Nat → Int32) × (Nat → Nat → Int64)
def gI (u : St) (k : Nat) : Int32 := u.1 k
def gJ (u : St) (k : Nat) : Int64 := u.2.1 k
def gA (u : St) (j : Nat) (i : Nat) : Int32 := u.2.2.1 j i
def gB (u : St) (j : Nat) (i : Nat) : Int64 := u.2.2.2 j i
def sI (u : St) (k : Nat) (v : Int32) : St := (upd u.1 k v, u.2.1, u.2.2.1, u.2.2.2)
def sJ (u : St) (k : Nat) (v : Int64) : St := (u.1, vp_updL u.2.1 k v, u.2.2.1, u.2.2.2)
def sA (u : St) (j i : Nat) (v : Int32) : St := (u.1, u.2.1, va_up u.2.2.1 j (upd (u.2.2.1 j) i v), u.2.2.2)
def sB (u : St) (j i : Nat) (v : Int64) : St := (u.1, u.2.1, u.2.2.1, va_up u.2.2.2 j (vp_updL (u.2.2.2 j) i v))
/-- a named value -/
def lt {α β : Sort _} (v : α) (f : α → β) : β := f v
theorem lt_eq {α β : Sort _} (v : α) (f : α → β) : lt v f = f v := rfl
theorem ox_lt {α β : Type} {v x : α} {f : α → β} {r : β} (e : x = v) (h : lt v f = r) : f x = r := e ▸ h
theorem ox_ex {α β : Type} {v : α} {f : α → β} {r : β} (h : lt v f = r) : ∃ x, x = v ∧ f x = r := ⟨v, rfl, h⟩
theorem ox_chk {α : Type} {c : Prop} [Decidable c] {a : Option α} {r : α} (h : (if c then none else a) = some r) : ¬ c ∧ a = some r := by
  by_cases hc : c
  · rw [if_pos hc] at h; cases h
  · rw [if_neg hc] at h; exact ⟨hc, h⟩
theorem ox_bind {α β : Type} {x : Option α} {f : α → Option β} {r : β} (h : x.bind f = some r) : ∃ a, x = some a ∧ f a = some r := by
  cases x with
  | none => cases h
  | some a => exact ⟨a, rfl, h⟩
theorem ox_a1 {A1 β : Type} {F j : A1 → β} {x1 : A1} {r : β} (e : j = F) (h : j x1 = r) : F x1 = r := e ▸ h
theorem ox_a2 {A1 A2 β : Type} {F j : A1 → A2 → β} {x1 : A1} {x2 : A2} {r : β} (e : j = F) (h : j x1 x2 = r) : F x1 x2 = r := e ▸ h
theorem ox_a3 {A1 A2 A3 β : Type} {F j : A1 → A2 → A3 → β} {x1 : A1} {x2 : A2} {x3 : A3} {r : β} (e : j = F) (h : j x1 x2 x3 = r) : F x1 x2 x3 = r := e ▸ h
theorem ox_a4 {A1 A2 A3 A4 β : Type} {F j : A1 → A2 → A3 → A4 → β} {x1 : A1} {x2 : A2} {x3 : A3} {x4 : A4} {r : β} (e : j = F) (h : j x1 x2 x3 x4 = r) : F x1 x2 x3 x4 = r := e ▸ h
theorem ox_a5 {A1 A2 A3 A4 A5 β : Type} {F j : A1 → A2 → A3 → A4 → A5 → β} {x1 : A1} {x2 : A2} {x3 : A3} {x4 : A4} {x5 : A5} {r : β} (e : j = F) (h : j x1 x2 x3 x4 x5 = r) : F x1 x2 x3 x4 x5 = r := e ▸ h
theorem ox_a6 {A1 A2 A3 A4 A5 A6 β : Type} {F j : A1 → A2 → A3 → A4 → A5 → A6 → β} {x1 : A1} {x2 : A2} {x3 : A3} {x4 : A4} {x5 : A5} {x6 : A6} {r : β} (e : j = F) (h : j x1 x2 x3 x4 x5 x6 = r) : F x1 x2 x3 x4 x5 x6 = r := e ▸ h
def fuel : Nat := 1000
/-- what a boolean keeps of an int -/
def bz (x : Int32) : Int32 := vp_nar .boolean x
def nb (x : Int32) : Int32 := vp_nar .byte x
section BX
variable {p : Program} {l : Launch} {e : Env} {R : Room} {s : State} {m : MethodId} {args : Array Value} {below : List Frame} {meth : Method} {c : Code} {H : Heap} {locs : List Loc} {cells slots : Nat} {Q : State → Prop}
variable {cc : ByteArray} {pc nL : Nat} {ls : Array Slot} {rest : List Value} {E : Ev} {own : String} {bs : List va_W} {ad : List (List Nat)} {a : Nat} {b : va_W} {H0 : Heap}
theorem ox_topi {x y : Int32} (h : y = x) (k : W p l e R s m args below meth c H locs cells slots Q (F0 m pc ls (.int x :: rest))) : W p l e R s m args below meth c H locs cells slots Q (F0 m pc ls (.int y :: rest)) := h ▸ k
theorem ox_topl {x y : Int64} (h : y = x) (k : W p l e R s m args below meth c H locs cells slots Q (F0 m pc ls (.long x :: rest))) : W p l e R s m args below meth c H locs cells slots Q (F0 m pc ls (.long y :: rest)) := h ▸ k
theorem bx_get (C : CallFix p m c cc nL s args gtbl own) (hK : Kx E s) {CN : String} {T : u_T} {N ci index : Nat} (hin : ∀ w ∈ u_ws CN T N, w ∈ gtbl) (hP : va_P E.1 vwCl b H) (q0 : Nat) {fs : List Value} (he : b[q0]? = some (a, .inr (ci, fs))) (hc : vwCl[ci]? = some (CN, T, N)) (k : Nat) (hk : k < N) (hlink : Cond.fieldLink own index (T k).1 (T k).2.1 (T k).2.2.1 ∈ gtbl) {v : Value} (hv : fs[k]? = some v) (hdg : decode cc pc = .ok (.getfield index, 3))
    (kk : W p l e R s m args below meth c H locs cells slots Q (F0 m (pc + 3) ls (v :: rest))) : W p l e R s m args below meth c H locs cells slots Q (F0 m pc ls (.ref a :: rest)) :=
  va_get C.1 C.2.1 C.2.2.2.2 hin C.2.2.2.1 hK.1 hP q0 he hc k hk (C.2.2.2.2 _ hlink) (fun _ h => h) hv hdg kk
theorem bx_getN (C : CallFix p m c cc nL s args gtbl own) (hK : Kx E s) {CN host : String} {T : u_T} {N ci index : Nat} (hin : ∀ w ∈ u_ws CN T N, w ∈ gtbl) (hP : va_P E.1 vwCl b H) (q0 : Nat) {fs : List Value} (he : b[q0]? = some (a, .inr (ci, fs))) (hc : vwCl[ci]? = some (CN, T, N)) (k : Nat) (hk : k < N) (hlink : Cond.fieldLinkNest own index (T k).1 (T k).2.1 (T k).2.2.1 host ∈ ntbl) {v : Value} (hv : fs[k]? = some v) (hdg : decode cc pc = .ok (.getfield index, 3))
    (kk : W p l e R s m args below meth c H locs cells slots Q (F0 m (pc + 3) ls (v :: rest))) : W p l e R s m args below meth c H locs cells slots Q (F0 m pc ls (.ref a :: rest)) :=
  va_getN C.1 C.2.1 C.2.2.2.2 hin C.2.2.2.1 hK.1 hP q0 he hc k hk (va_Nw.use rfl (hK.2.2 _ hlink)) (fun _ h => h) hv hdg kk
theorem bx_put (C : CallFix p m c cc nL s args gtbl own) (hK : Kx E s) {CN : String} {T : u_T} {N ci index : Nat} (hin : ∀ w ∈ u_ws CN T N, w ∈ gtbl) (ty0 : Nat → FieldType) (hty : ∀ k, k < N → parseFieldDescriptor (T k).2.2.1 = some (ty0 k)) (hnm : ∀ a, a < N → ∀ b, b < N → a ≠ b → (T a).2.1 ≠ (T b).2.1) (hB : WB E ad H0 bs H locs) (hD : DA E.2.2.1 ad) (i : Nat) (hi : bs[i]? = some b) (q0 : Nat) {fs : List Value} (he : b[q0]? = some (a, .inr (ci, fs))) (hc : vwCl[ci]? = some (CN, T, N)) (k : Nat) (hk : k < N) (hlink : Cond.fieldLink own index (T k).1 (T k).2.1 (T k).2.2.1 ∈ gtbl) (hfin : (T k).2.2.2 = false) {ty : FieldType} {v : Value} (hd : parseFieldDescriptor (T k).2.2.1 = some ty) (hn : narrow ty v = v) (hfit : fits ty v = true) (hl : k < fs.length)
    (hdg : decode cc pc = .ok (.putfield index, 3)) (kk : ∀ (H1 : Heap) (locs1 : List Loc), WB E ad H0 (bs.set i (b.set q0 (a, .inr (ci, fs.set k v)))) H1 locs1 → W p l e R s m args below meth c H1 locs1 cells slots Q (F0 m (pc + 3) ls rest)) : W p l e R s m args below meth c H locs cells slots Q (F0 m pc ls (v :: .ref a :: rest)) := by
  have hts := C.2.2.2.2
  have hap := va_apart (own := own) hts hin ty0 hty hnm hK.1 hc
  obtain ⟨r, h1, cell, q1, q2, q3, q4⟩ := hB.1 i b hi q0 _ he
  have hr : r = (CN, T, N) := Option.some.inj (h1.symm.trans hc)
  subst hr
  obtain ⟨hS, hfc, kC, hkC, hkind⟩ := hK.1.1 ci _ hc
  obtain ⟨cf, kf, fi, f, hif, hsl⟩ := hS k hk
  have hlay := hts _ (hin _ (u_in_lay hk))
  unfold u_lay at hlay
  rw [if_neg (by rw [hfin]; decide)] at hlay
  have hst := (u_facts hfc hkC (u_lays hts hin hk) hif).1
  have h6 := u_store hfc hkC hkind hlay hif hd hn hfit
  refine W.putK C.1 C.2.1 (f := f) ⟨C.2.2.2.1, hts _ hlink, ⟨_, _, _, hif⟩, hst⟩ (by rw [q2]; exact h6) q1 q3 (by rw [hsl]; exact k2_hasslot (q4 k hk)) rfl rfl hdg fun H' e1 e2 e3 => ?_
  rw [hsl] at e1 ⊢
  exact kk H' _ (hB.upd (e := .inr (ci, fs.set k v)) hD hi he ⟨_, hc, t_OB.to (V := updV (vp_V fs) k v) ⟨_, e1, q2, q3, t_set q4 hap hk v⟩ (fun j _ => vp_updV_set hl v j)⟩ e2 e3 _)
theorem bx_putN (C : CallFix p m c cc nL s args gtbl own) (hK : Kx E s) {CN host : String} {T : u_T} {N ci index : Nat} (hin : ∀ w ∈ u_ws CN T N, w ∈ gtbl) (ty0 : Nat → FieldType) (hty : ∀ k, k < N → parseFieldDescriptor (T k).2.2.1 = some (ty0 k)) (hnm : ∀ a, a < N → ∀ b, b < N → a ≠ b → (T a).2.1 ≠ (T b).2.1) (hB : WB E ad H0 bs H locs) (hD : DA E.2.2.1 ad) (i : Nat) (hi : bs[i]? = some b) (q0 : Nat) {fs : List Value} (he : b[q0]? = some (a, .inr (ci, fs))) (hc : vwCl[ci]? = some (CN, T, N)) (k : Nat) (hk : k < N) (hlink : Cond.fieldLinkNest own index (T k).1 (T k).2.1 (T k).2.2.1 host ∈ ntbl) (hfin : (T k).2.2.2 = false) {ty : FieldType} {v : Value} (hd : parseFieldDescriptor (T k).2.2.1 = some ty) (hn : narrow ty v = v) (hfit : fits ty v = true) (hl : k < fs.length)
    (hdg : decode cc pc = .ok (.putfield index, 3)) (kk : ∀ (H1 : Heap) (locs1 : List Loc), WB E ad H0 (bs.set i (b.set q0 (a, .inr (ci, fs.set k v)))) H1 locs1 → W p l e R s m args below meth c H1 locs1 cells slots Q (F0 m (pc + 3) ls rest)) : W p l e R s m args below meth c H locs cells slots Q (F0 m pc ls (v :: .ref a :: rest)) := by
  have hts := C.2.2.2.2
  have hap := va_apart (own := own) hts hin ty0 hty hnm hK.1 hc
  obtain ⟨r, h1, cell, q1, q2, q3, q4⟩ := hB.1 i b hi q0 _ he
  have hr : r = (CN, T, N) := Option.some.inj (h1.symm.trans hc)
  subst hr
  obtain ⟨hS, hfc, kC, hkC, hkind⟩ := hK.1.1 ci _ hc
  obtain ⟨cf, kf, fi, f, hif, hsl⟩ := hS k hk
  have hlay := hts _ (hin _ (u_in_lay hk))
  unfold u_lay at hlay
  rw [if_neg (by rw [hfin]; decide)] at hlay
  have hst := (u_facts hfc hkC (u_lays hts hin hk) hif).1
  have h6 := u_store hfc hkC hkind hlay hif hd hn hfit
  refine va_WputK C.1 C.2.1 (f := f) C.2.2.2.1 (va_Nw.use rfl (hK.2.2 _ hlink)) hif hst (by rw [q2]; exact h6) q1 q3 (by rw [hsl]; exact k2_hasslot (q4 k hk)) rfl rfl hdg fun H' e1 e2 e3 => ?_
  rw [hsl] at e1 ⊢
  exact kk H' _ (hB.upd (e := .inr (ci, fs.set k v)) hD hi he ⟨_, hc, t_OB.to (V := updV (vp_V fs) k v) ⟨_, e1, q2, q3, t_set q4 hap hk v⟩ (fun j _ => vp_updV_set hl v j)⟩ e2 e3 _)
theorem bx_iald (C : CallFix p m c cc nL s args gtbl own) (hK : Kx E s) (hP : va_P E.1 vwCl b H) (q0 : Nat) {n : Nat} {f : Nat → Int32} (ha : b[q0]? = some (a, .inl (E.2.1 0, n, .inl f))) {i : Int32} (hin : ¬ (i < 0 ∨ n ≤ i.toNatClampNeg)) (hdg : decode cc pc = .ok (.iaload, 1))
    (kk : W p l e R s m args below meth c H locs cells slots Q (F0 m (pc + 1) ls (.int (f i.toNatClampNeg) :: rest))) : W p l e R s m args below meth c H locs cells slots Q (F0 m pc ls (.int i :: .ref a :: rest)) := va_iald C.1 C.2.1 hK.1 hP q0 0 ha rfl hin hdg kk
theorem bx_bald (C : CallFix p m c cc nL s args gtbl own) (hK : Kx E s) (hP : va_P E.1 vwCl b H) (q0 : Nat) {n : Nat} {f : Nat → Int32} (ha : b[q0]? = some (a, .inl (E.2.1 1, n, .inl f))) {i : Int32} (hin : ¬ (i < 0 ∨ n ≤ i.toNatClampNeg)) (hdg : decode cc pc = .ok (.baload, 1))
    (kk : W p l e R s m args below meth c H locs cells slots Q (F0 m (pc + 1) ls (.int (f i.toNatClampNeg) :: rest))) : W p l e R s m args below meth c H locs cells slots Q (F0 m pc ls (.int i :: .ref a :: rest)) := va_bald C.1 C.2.1 hK.1 hP q0 1 ha rfl hin hdg kk
theorem bx_zald (C : CallFix p m c cc nL s args gtbl own) (hK : Kx E s) (hP : va_P E.1 vwCl b H) (q0 : Nat) {n : Nat} {f : Nat → Int32} (ha : b[q0]? = some (a, .inl (E.2.1 2, n, .inl f))) {i : Int32} (hin : ¬ (i < 0 ∨ n ≤ i.toNatClampNeg)) (hdg : decode cc pc = .ok (.baload, 1))
    (kk : W p l e R s m args below meth c H locs cells slots Q (F0 m (pc + 1) ls (.int (f i.toNatClampNeg) :: rest))) : W p l e R s m args below meth c H locs cells slots Q (F0 m pc ls (.int i :: .ref a :: rest)) := va_zald C.1 C.2.1 hK.1 hP q0 2 ha rfl hin hdg kk
theorem bx_lald (C : CallFix p m c cc nL s args gtbl own) (hK : Kx E s) (hP : va_P E.1 vwCl b H) (q0 : Nat) {n : Nat} {f : Nat → Int64} (ha : b[q0]? = some (a, .inl (E.2.1 3, n, .inr (.inl f)))) {i : Int32} (hin : ¬ (i < 0 ∨ n ≤ i.toNatClampNeg)) (hdg : decode cc pc = .ok (.laload, 1))
    (kk : W p l e R s m args below meth c H locs cells slots Q (F0 m (pc + 1) ls (.long (f i.toNatClampNeg) :: rest))) : W p l e R s m args below meth c H locs cells slots Q (F0 m pc ls (.int i :: .ref a :: rest)) := va_lald C.1 C.2.1 hK.1 hP q0 3 ha rfl hin hdg kk
theorem bx_aald (C : CallFix p m c cc nL s args gtbl own) (hK : Kx E s) (hP : va_P E.1 vwCl b H) (q0 : Nat) {n : Nat} {f : Nat → Option Nat} (ha : b[q0]? = some (a, .inl (E.2.1 4, n, .inr (.inr (.inr (.inr f)))))) {i : Int32} (hin : ¬ (i < 0 ∨ n ≤ i.toNatClampNeg)) (hdg : decode cc pc = .ok (.aaload, 1))
    (kk : W p l e R s m args below meth c H locs cells slots Q (F0 m (pc + 1) ls (va_rf (f i.toNatClampNeg) :: rest))) : W p l e R s m args below meth c H locs cells slots Q (F0 m pc ls (.int i :: .ref a :: rest)) := va_aldq C.1 C.2.1 hK.1 hP q0 4 ha rfl hin hdg kk
theorem bx_iast (C : CallFix p m c cc nL s args gtbl own) (hK : Kx E s) (hB : WB E ad H0 bs H locs) (hD : DA E.2.2.1 ad) (i : Nat) (hi : bs[i]? = some b) (q0 : Nat) {n : Nat} {f : Nat → Int32} (ha : b[q0]? = some (a, .inl (E.2.1 0, n, .inl f))) {j x : Int32} (hin : ¬ (j < 0 ∨ n ≤ j.toNatClampNeg)) (hdg : decode cc pc = .ok (.iastore, 1))
    (kk : ∀ (H1 : Heap) (locs1 : List Loc), WB E ad H0 (bs.set i (b.set q0 (a, .inl (E.2.1 0, n, .inl (upd f j.toNatClampNeg x))))) H1 locs1 → W p l e R s m args below meth c H1 locs1 cells slots Q (F0 m (pc + 1) ls rest)) : W p l e R s m args below meth c H locs cells slots Q (F0 m pc ls (.int x :: .int j :: .ref a :: rest)) := by
  refine W.iast C.1 C.2.1 (hB.1 i b hi q0 _ ha) ((hK.1.2 0 _ rfl).1 n (fun j => .int (f j))) (fun q => by cases q) (by show ¬ (j < 0 ∨ (arrV _ _ _).slots.size ≤ _); rw [arrV_size]; exact hin) rfl rfl hdg fun H1 e z oq => ?_
  refine kk H1 _ (hB.upd hD hi ha ?_ z oq _)
  show H1[a]? = some (vp_cell _ _)
  rw [e, vp_cell_i, vp_cell_i, arrV_store]
  congr 2
  funext q
  by_cases hq : q = j.toNatClampNeg
  · subst hq; simp [updV, upd]
  · simp [updV, upd, hq]
theorem bx_zast (C : CallFix p m c cc nL s args gtbl own) (hK : Kx E s) (hB : WB E ad H0 bs H locs) (hD : DA E.2.2.1 ad) (i : Nat) (hi : bs[i]? = some b) (q0 : Nat) {n : Nat} {f : Nat → Int32} (ha : b[q0]? = some (a, .inl (E.2.1 2, n, .inl f))) {j x : Int32} (hin : ¬ (j < 0 ∨ n ≤ j.toNatClampNeg)) (hdg : decode cc pc = .ok (.bastore, 1))
    (kk : ∀ (H1 : Heap) (locs1 : List Loc), WB E ad H0 (bs.set i (b.set q0 (a, .inl (E.2.1 2, n, .inl (upd f j.toNatClampNeg (bz x)))))) H1 locs1 → W p l e R s m args below meth c H1 locs1 cells slots Q (F0 m (pc + 1) ls rest)) : W p l e R s m args below meth c H locs cells slots Q (F0 m pc ls (.int x :: .int j :: .ref a :: rest)) := by
  refine W.zast C.1 C.2.1 (hB.1 i b hi q0 _ ha) ((hK.1.2 2 _ rfl).1 n (fun j => .int (f j))) (fun q => by cases q) (by show ¬ (j < 0 ∨ (arrV _ _ _).slots.size ≤ _); rw [arrV_size]; exact hin) rfl rfl hdg fun H1 e z oq => ?_
  refine kk H1 _ (hB.upd hD hi ha ?_ z oq _)
  show H1[a]? = some (vp_cell _ _)
  rw [e, vp_cell_i, vp_cell_i, arrV_store]
  congr 2
  funext q
  by_cases hq : q = j.toNatClampNeg
  · subst hq
    simp [updV, upd, bz, vp_nar]
    try rfl
  · simp [updV, upd, hq]
theorem bx_bast (C : CallFix p m c cc nL s args gtbl own) (hK : Kx E s) (hB : WB E ad H0 bs H locs) (hD : DA E.2.2.1 ad) (i : Nat) (hi : bs[i]? = some b) (q0 : Nat) {n : Nat} {f : Nat → Int32} (ha : b[q0]? = some (a, .inl (E.2.1 1, n, .inl f))) {j x : Int32} (hin : ¬ (j < 0 ∨ n ≤ j.toNatClampNeg)) (hdg : decode cc pc = .ok (.bastore, 1))
    (kk : ∀ (H1 : Heap) (locs1 : List Loc), WB E ad H0 (bs.set i (b.set q0 (a, .inl (E.2.1 1, n, .inl (upd f j.toNatClampNeg (nb x)))))) H1 locs1 → W p l e R s m args below meth c H1 locs1 cells slots Q (F0 m (pc + 1) ls rest)) : W p l e R s m args below meth c H locs cells slots Q (F0 m pc ls (.int x :: .int j :: .ref a :: rest)) := by
  refine W.bast C.1 C.2.1 (hB.1 i b hi q0 _ ha) ((hK.1.2 1 _ rfl).1 n (fun j => .int (f j))) (fun q => by cases q) (by show ¬ (j < 0 ∨ (arrV _ _ _).slots.size ≤ _); rw [arrV_size]; exact hin) rfl rfl hdg fun H1 e z oq => ?_
  refine kk H1 _ (hB.upd hD hi ha ?_ z oq _)
  show H1[a]? = some (vp_cell _ _)
  rw [e, vp_cell_i, vp_cell_i, arrV_store]
  congr 2
  funext q
  by_cases hq : q = j.toNatClampNeg
  · subst hq
    simp [updV, upd, nb, vp_nar]
    try rfl
  · simp [updV, upd, hq]
theorem bx_last (C : CallFix p m c cc nL s args gtbl own) (hK : Kx E s) (hB : WB E ad H0 bs H locs) (hD : DA E.2.2.1 ad) (i : Nat) (hi : bs[i]? = some b) (q0 : Nat) {n : Nat} {f : Nat → Int64} (ha : b[q0]? = some (a, .inl (E.2.1 3, n, .inr (.inl f)))) {j : Int32} {x : Int64} (hin : ¬ (j < 0 ∨ n ≤ j.toNatClampNeg)) (hdg : decode cc pc = .ok (.lastore, 1))
    (kk : ∀ (H1 : Heap) (locs1 : List Loc), WB E ad H0 (bs.set i (b.set q0 (a, .inl (E.2.1 3, n, .inr (.inl (vp_updL f j.toNatClampNeg x)))))) H1 locs1 → W p l e R s m args below meth c H1 locs1 cells slots Q (F0 m (pc + 1) ls rest)) : W p l e R s m args below meth c H locs cells slots Q (F0 m pc ls (.long x :: .int j :: .ref a :: rest)) := by
  refine W.last C.1 C.2.1 (hB.1 i b hi q0 _ ha) ((hK.1.2 3 _ rfl).1 n (fun j => .long (f j))) (fun q => by cases q) (by show ¬ (j < 0 ∨ (arrV _ _ _).slots.size ≤ _); rw [arrV_size]; exact hin) rfl rfl hdg fun H1 e z oq => ?_
  refine kk H1 _ (hB.upd hD hi ha ?_ z oq _)
  show H1[a]? = some (vp_cell _ _)
  rw [e, vp_cell_l, vp_cell_l, arrV_store]
  congr 2
  funext q
  by_cases hq : q = j.toNatClampNeg
  · subst hq; simp [updV, vp_updL]
  · simp [updV, vp_updL, hq]
theorem bx_alen (C : CallFix p m c cc nL s args gtbl own) (hK : Kx E s) (hP : va_P E.1 vwCl b H) (q0 t0 : Nat) {cA : ClassId} {x : vp_A} (ha : b[q0]? = some (a, .inl (cA, x))) {ty : FieldType} (ht : (tyE E)[t0]? = some (cA, ty)) {v : Int32} (hv : Int32.ofNat x.1 = v) (hdg : decode cc pc = .ok (.arraylength, 1))
    (kk : W p l e R s m args below meth c H locs cells slots Q (F0 m (pc + 1) ls (.int v :: rest))) : W p l e R s m args below meth c H locs cells slots Q (F0 m pc ls (.ref a :: rest)) := va_alen C.1 C.2.1 hK.1 hP q0 t0 ha ht hv hdg kk
/-- the law of ranks: getstatic RANKS, and a row of it -/
theorem bx_ranks (C : CallFix p m c cc nL s args gtbl own) (hK : Kx E s) {index : Nat} (hS : va_S (fun q => E.2.2.1 ≤ q) s.heap H locs) (hlink : Cond.fieldLink own index "ClapMill$Phrase" "RANKS" "[I" ∈ gtbl) (hdg : decode cc pc = .ok (.getstatic index, 3))
    (kk : W p l e R s m args below meth c H locs cells slots Q (F0 m (pc + 3) ls (.ref E.2.2.2 :: rest))) : W p l e R s m args below meth c H locs cells slots Q (F0 m pc ls rest) := va_gets C.1 C.2.1 hK.2.1.1 hS C.2.2.2.1 (C.2.2.2.2 _ hlink) (fun _ h => h) hdg kk
theorem bx_rank (C : CallFix p m c cc nL s args gtbl own) (hK : Kx E s) (hS : va_S (fun q => E.2.2.1 ≤ q) s.heap H locs) {i : Int32} (hin : ¬ (i < 0 ∨ 16 ≤ i.toNatClampNeg)) (hdg : decode cc pc = .ok (.iaload, 1))
    (kk : W p l e R s m args below meth c H locs cells slots Q (F0 m (pc + 1) ls (.int (rkv i.toNatClampNeg) :: rest))) : W p l e R s m args below meth c H locs cells slots Q (F0 m pc ls (.int i :: .ref E.2.2.2 :: rest)) := va_ti C.1 C.2.1 hK.2.1.2 hS hin rfl hdg kk
theorem WB.new {locs : List Loc} (hB : WB E ad H0 bs H locs) (hD : DA E.2.2.1 ad) (hN : E.2.2.1 ≤ H0.size) : va_S (fun q => E.2.2.1 ≤ q) H0 H locs := ⟨hB.2.2.1, fun q h1 h2 => hB.2.2.2.1 q h1 (fun h => h2 (hD.2 q h)), fun q hq => hD.2 _ (hB.2.2.2.2 q hq)⟩
/-- a boolean answer -/
theorem ox_zret {Qc : Array Value → State → Outcome → State → Prop} {free : Addr → Prop} {v w : Int32} (hexec : p.tables.exec = Jvm.exec) (hb : c.code = cc) (hr : meth.sig.returnType = some .boolean) (hn : bz v = w)
    (hq : ∀ t : State, t.heap = H → s.WarmedH t.vm → Qc args s (.returned (some (.int w))) t) (hf : ∀ q ∈ locs, free q.base) {pc : Nat} {ls : Array Slot} (hdg : decode cc pc = .ok (.ireturn, 1)) (hlocks : meth.locks = false) : W p l e R s m args below meth c H locs cells slots (MQ below Qc args s cells slots free) (F0 m pc ls [.int v]) := by
  intro T hT X
  have hn2 : narrow .boolean (.int v) = .int w := by rw [← hn]; rfl
  obtain ⟨fs, hret, hrun, hended, hW, hframe⟩ := X.leave (v := some (.int w)) (fun h => by rw [hr] at h; cases h)
  have hmeth' : T.vm.method? m = some meth := X.method'
  refine ⟨T.setFrames fs, ?_, .returned (some (.int w)), hrun, hended, hq _ hT hW, locs, ⟨⟨_, rfl⟩, hW, hframe⟩, hf⟩
  jvm_step X.here [X.here.top, hexec, hb, hdg, hmeth', hr, hn2]
  (try refine ⟨rfl, ?_⟩); (try refine ⟨rfl, ?_⟩)
  first | (intro acts; rw [hret _ acts rfl rfl rfl]) | rw [hret _ _ rfl rfl rfl]
  exact Steps.refl _
end BX
section LC
variable {p : Program} {l : Launch} {e : Env} {R : Room} {s : State} {m : MethodId} {args : Array Value} {below : List Frame} {meth : Method} {c : Code} {H : Heap} {locs : List Loc} {cells slots : Nat} {Q : State → Prop} {cc : ByteArray} {pc : Nat} {ls : Array Slot} {rest : List Value}
theorem lc_le (x y : Int64) : lg_cmp x y ≤ 0 ↔ x ≤ y := by
  unfold lg_cmp
  by_cases h1 : x > y
  · rw [if_pos h1]
    exact ⟨fun h => absurd h (by decide), fun h => absurd h (by rw [Int64.not_le]; exact h1)⟩
  · rw [if_neg h1]
    have h3 : x ≤ y := by rw [← Int64.not_lt]; exact h1
    exact ⟨fun _ => h3, fun _ => by by_cases h2 : x = y <;> simp [h2] <;> decide⟩
theorem lc_lt (x y : Int64) : lg_cmp x y < 0 ↔ x < y := by
  unfold lg_cmp
  by_cases h1 : x > y
  · rw [if_pos h1]
    exact ⟨fun h => absurd h (by decide), fun h => absurd (Int64.lt_trans h h1) (Int64.lt_irrefl)⟩
  · rw [if_neg h1]
    by_cases h2 : x = y
    · rw [if_pos h2]; subst h2
      exact ⟨fun h => absurd h (by decide), fun h => absurd h Int64.lt_irrefl⟩
    · rw [if_neg h2]
      exact ⟨fun _ => by
        have h3 : x ≤ y := by rw [← Int64.not_lt]; exact h1
        exact Int64.lt_of_le_of_ne h3 h2, fun _ => by decide⟩
theorem lc_eq (x y : Int64) : lg_cmp x y = 0 ↔ x = y := by
  unfold lg_cmp
  by_cases h1 : x > y
  · rw [if_pos h1]
    exact ⟨fun h => absurd h (by decide), fun h => by subst h; exact absurd h1 Int64.lt_irrefl⟩
  · rw [if_neg h1]
    by_cases h2 : x = y
    · rw [if_pos h2]; exact ⟨fun _ => h2, fun _ => rfl⟩
    · rw [if_neg h2]; exact ⟨fun h => absurd h (by decide), fun h => absurd h h2⟩
theorem lx_if_eq (hexec : p.tables.exec = Jvm.exec) (hb : c.code = cc) {x y : Int64} {off : Int} {tgt : Nat} (hdg : decode cc pc = .ok (.ifCond .eq off, 3)) (ht : (pc : Int) + off = (tgt : Int)) (kt : x = y → W p l e R s m args below meth c H locs cells slots Q (F0 m tgt ls rest)) (kf : ¬ x = y → W p l e R s m args below meth c H locs cells slots Q (F0 m (pc + 3) ls rest)) : W p l e R s m args below meth c H locs cells slots Q (F0 m pc ls (.int (lg_cmp x y) :: rest)) := lv_if_eq hexec hb hdg ht (fun h => kt ((lc_eq x y).mp h)) (fun h => kf (fun q => h ((lc_eq x y).mpr q)))
theorem lx_if_ne (hexec : p.tables.exec = Jvm.exec) (hb : c.code = cc) {x y : Int64} {off : Int} {tgt : Nat} (hdg : decode cc pc = .ok (.ifCond .ne off, 3)) (ht : (pc : Int) + off = (tgt : Int)) (kt : ¬ x = y → W p l e R s m args below meth c H locs cells slots Q (F0 m tgt ls rest)) (kf : x = y → W p l e R s m args below meth c H locs cells slots Q (F0 m (pc + 3) ls rest)) : W p l e R s m args below meth c H locs cells slots Q (F0 m pc ls (.int (lg_cmp x y) :: rest)) := lv_if_ne hexec hb hdg ht (fun h => kt (fun q => h ((lc_eq x y).mpr q))) (fun h => kf ((lc_eq x y).mp h))
theorem lx_if_lt (hexec : p.tables.exec = Jvm.exec) (hb : c.code = cc) {x y : Int64} {off : Int} {tgt : Nat} (hdg : decode cc pc = .ok (.ifCond .lt off, 3)) (ht : (pc : Int) + off = (tgt : Int)) (kt : x < y → W p l e R s m args below meth c H locs cells slots Q (F0 m tgt ls rest)) (kf : ¬ x < y → W p l e R s m args below meth c H locs cells slots Q (F0 m (pc + 3) ls rest)) : W p l e R s m args below meth c H locs cells slots Q (F0 m pc ls (.int (lg_cmp x y) :: rest)) := lv_if_lt hexec hb hdg ht (fun h => kt ((lc_lt x y).mp h)) (fun h => kf (fun q => h ((lc_lt x y).mpr q)))
theorem lx_if_le (hexec : p.tables.exec = Jvm.exec) (hb : c.code = cc) {x y : Int64} {off : Int} {tgt : Nat} (hdg : decode cc pc = .ok (.ifCond .le off, 3)) (ht : (pc : Int) + off = (tgt : Int)) (kt : x ≤ y → W p l e R s m args below meth c H locs cells slots Q (F0 m tgt ls rest)) (kf : ¬ x ≤ y → W p l e R s m args below meth c H locs cells slots Q (F0 m (pc + 3) ls rest)) : W p l e R s m args below meth c H locs cells slots Q (F0 m pc ls (.int (lg_cmp x y) :: rest)) := lv_if_le hexec hb hdg ht (fun h => kt ((lc_le x y).mp h)) (fun h => kf (fun q => h ((lc_le x y).mpr q)))
theorem lc_ge (x y : Int64) : 0 ≤ lg_cmp x y ↔ y ≤ x := by
  rw [← Int64.not_lt, ← lc_lt, Int32.not_lt]
theorem lc_gt (x y : Int64) : 0 < lg_cmp x y ↔ y < x := by
  rw [← Int64.not_le, ← lc_le, Int32.not_le]
theorem lx_if_ge (hexec : p.tables.exec = Jvm.exec) (hb : c.code = cc) {x y : Int64} {off : Int} {tgt : Nat} (hdg : decode cc pc = .ok (.ifCond .ge off, 3)) (ht : (pc : Int) + off = (tgt : Int)) (kt : y ≤ x → W p l e R s m args below meth c H locs cells slots Q (F0 m tgt ls rest)) (kf : ¬ y ≤ x → W p l e R s m args below meth c H locs cells slots Q (F0 m (pc + 3) ls rest)) : W p l e R s m args below meth c H locs cells slots Q (F0 m pc ls (.int (lg_cmp x y) :: rest)) := lv_if_ge hexec hb hdg ht (fun h => kt ((lc_ge x y).mp h)) (fun h => kf (fun q => h ((lc_ge x y).mpr q)))
theorem lx_if_gt (hexec : p.tables.exec = Jvm.exec) (hb : c.code = cc) {x y : Int64} {off : Int} {tgt : Nat} (hdg : decode cc pc = .ok (.ifCond .gt off, 3)) (ht : (pc : Int) + off = (tgt : Int)) (kt : y < x → W p l e R s m args below meth c H locs cells slots Q (F0 m tgt ls rest)) (kf : ¬ y < x → W p l e R s m args below meth c H locs cells slots Q (F0 m (pc + 3) ls rest)) : W p l e R s m args below meth c H locs cells slots Q (F0 m pc ls (.int (lg_cmp x y) :: rest)) := lv_if_gt hexec hb hdg ht (fun h => kt ((lc_gt x y).mp h)) (fun h => kf (fun q => h ((lc_gt x y).mpr q)))
end LC
