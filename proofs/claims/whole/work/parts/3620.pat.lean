/-! patterns of constructors -/
def CFx (CN : String) (T : u_T) (N ci : Nat) (ty0 : Nat → FieldType) : Prop := (∀ w ∈ u_ws CN T N, w ∈ gtbl) ∧ (∀ k, k < N → parseFieldDescriptor (T k).2.2.1 = some (ty0 k)) ∧ (∀ a, a < N → ∀ b, b < N → a ≠ b → (T a).2.1 ≠ (T b).2.1) ∧ vwCl[ci]? = some (CN, T, N)
theorem cfX0 : CFx RX0 TX0 5 0 tyX0 := ⟨hinX0, tyX0_ok, nmX0, rfl⟩
theorem cfX1 : CFx RX1 TX1 13 1 tyX1 := ⟨hinX1, tyX1_ok, nmX1, rfl⟩
theorem cfX2 : CFx RX2 TX2 9 2 tyX2 := ⟨hinX2, tyX2_ok, nmX2, rfl⟩
theorem cfX3 : CFx RX3 TX3 7 3 tyX3 := ⟨hinX3, tyX3_ok, nmX3, rfl⟩
theorem cfX4 : CFx RX4 TX4 4 4 tyX4 := ⟨hinX4, tyX4_ok, nmX4, rfl⟩
theorem cfX5 : CFx RX5 TX5 7 5 tyX5 := ⟨hinX5, tyX5_ok, nmX5, rfl⟩
theorem cfX6 : CFx RX6 TX6 5 6 tyX6 := ⟨hinX6, tyX6_ok, nmX6, rfl⟩
theorem cfX7 : CFx RX7 TX7 6 7 tyX7 := ⟨hinX7, tyX7_ok, nmX7, rfl⟩
theorem cfX8 : CFx RX8 TX8 11 8 tyX8 := ⟨hinX8, tyX8_ok, nmX8, rfl⟩
theorem cfX9 : CFx RX9 TX9 4 9 tyX9 := ⟨hinX9, tyX9_ok, nmX9, rfl⟩
theorem cfX10 : CFx RX10 TX10 7 10 tyX10 := ⟨hinX10, tyX10_ok, nmX10, rfl⟩
theorem cfX11 : CFx RX11 TX11 18 11 tyX11 := ⟨hinX11, tyX11_ok, nmX11, rfl⟩
theorem cfX12 : CFx RX12 TX12 86 12 tyX12 := ⟨hinX12, tyX12_ok, nmX12, rfl⟩
section NX3
variable {p : Program} {l : Launch} {e : Env} {R : Room} {s : State} {m : MethodId} {args : Array Value} {below : List Frame} {meth : Method} {c : Code} {H : Heap} {locs : List Loc} {cells slots : Nat} {Q : State → Prop}
variable {cc : ByteArray} {pc pc2 nL index : Nat} {ls : Array Slot} {rest : List Value} {E : Ev} {own : String} {ar : va_W} {A : Nat → Prop} {a ci N : Nat} {fs : List Value} {T : u_T} {ty0 : Nat → FieldType}
/-- the object's field takes what lies on the stack -/
theorem nx_set (C : CallFix p m c cc nL s args gtbl own) (hK : Kx E s) (hin2 : meth.name = "<init>") (cf : CFx own T N ci ty0) (hF : FW E A s.heap ((a, .inr (ci, fs)) :: ar) H locs) (k : Nat) (hk : k < N) (hlink : Cond.fieldLink own index (T k).1 (T k).2.1 (T k).2.2.1 ∈ gtbl) (hdecl : (T k).1 = own) {v : Value} (hn : narrow (ty0 k) v = v) (hfit : fits (ty0 k) v = true) (hl : k < fs.length) (hdg : decode cc pc = .ok (.putfield index, 3))
    (kk : ∀ (H1 : Heap) (locs1 : List Loc), FW E A s.heap ((a, .inr (ci, fs.set k v)) :: ar) H1 locs1 → W p l e R s m args below meth c H1 locs1 cells slots Q (F0 m (pc + 3) ls rest)) : W p l e R s m args below meth c H locs cells slots Q (F0 m pc ls (v :: .ref a :: rest)) := by
  obtain ⟨c1, c2, c3, c4⟩ := cf
  cases hf : (T k).2.2.2 with
  | true => exact nx_putF C hK hin2 hF c1 ty0 c2 c3 0 rfl c4 k hk hlink hf hdecl (c2 k hk) hn hfit hl hdg kk
  | false => exact nx_put C hK hF c1 ty0 c2 c3 0 rfl c4 k hk hlink hf (c2 k hk) hn hfit hl hdg kk
/-- this.f = new T[n] -/
theorem nx_arr (C : CallFix p m c cc nL s args gtbl own) (hK : Kx E s) (hin2 : meth.name = "<init>") (hA : ∀ q, s.heap.size ≤ q → A q) (cf : CFx own T N ci ty0) (hl0 : ls[0]? = some (.val (.ref a))) (hF : FW E A s.heap ((a, .inr (ci, fs)) :: ar) H locs) (t : Nat) {cA : ClassId} {ty : FieldType} (ht : (tyE E)[t]? = some (cA, ty)) {atype : ArrayType} (hty : newarray.typeOf atype = ty) (harr : Cond.arrayClass ty ∈ gtbl) {x : Int32} {n : Nat} (a0 : vp_A) (ha : ∀ cA : ClassId, vp_cell cA a0 = arrV cA n (fun _ => defaultValue ty)) (hx : x = nI n) (hn : n ≤ 1000) (hcb : componentBytes ty ≤ 8) (hcells : cells + 1 ≤ R.cells) (hslots : slots + n ≤ R.slots)
    (push : W p l e R s m args below meth c H locs cells slots Q (F0 m pc2 ls [.int x, .ref a]) → W p l e R s m args below meth c H locs cells slots Q (F0 m (pc + 1) ls [.ref a])) (k : Nat) (hk : k < N) (hlink : Cond.fieldLink own index (T k).1 (T k).2.1 (T k).2.2.1 ∈ gtbl) (hdecl : (T k).1 = own) (ft : ∀ q : Nat, narrow (ty0 k) (.ref q) = .ref q ∧ fits (ty0 k) (.ref q) = true) (hl : k < fs.length) (d0 : decode cc pc = .ok (.aload_n 0, 1)) (d2 : decode cc pc2 = .ok (.newarray atype, 2)) (d3 : decode cc (pc2 + 2) = .ok (.putfield index, 3))
    (kk : ∀ (q : Nat) (H1 : Heap) (locs1 : List Loc), FW E A s.heap ((a, .inr (ci, fs.set k (.ref q))) :: (ar ++ [(q, .inl (cA, a0))])) H1 locs1 → W p l e R s m args below meth c H1 locs1 (cells + 1) (slots + n) Q (F0 m (pc2 + 2 + 3) ls [])) : W p l e R s m args below meth c H locs cells slots Q (F0 m pc ls []) := by
  refine lv_aload_n C.1 C.2.1 d0 rfl hl0 (push ?_)
  refine nx_newa C hK hA hF t ht hty harr ha hx hn hcb hcells hslots d2 (fun q H1 hF => ?_)
  exact nx_set C hK hin2 cf (ar := ar ++ [(q, .inl (cA, a0))]) hF k hk hlink hdecl (ft q).1 (ft q).2 hl d3 (kk q)
/-- this.f = a value that one instruction gives -/
theorem nx_val (C : CallFix p m c cc nL s args gtbl own) (hK : Kx E s) (hin2 : meth.name = "<init>") (cf : CFx own T N ci ty0) (hl0 : ls[0]? = some (.val (.ref a))) (hF : FW E A s.heap ((a, .inr (ci, fs)) :: ar) H locs) {v : Value}
    (push : W p l e R s m args below meth c H locs cells slots Q (F0 m pc2 ls [v, .ref a]) → W p l e R s m args below meth c H locs cells slots Q (F0 m (pc + 1) ls [.ref a])) (k : Nat) (hk : k < N) (hlink : Cond.fieldLink own index (T k).1 (T k).2.1 (T k).2.2.1 ∈ gtbl) (hdecl : (T k).1 = own) (hn : narrow (ty0 k) v = v) (hfit : fits (ty0 k) v = true) (hl : k < fs.length) (d0 : decode cc pc = .ok (.aload_n 0, 1)) (d3 : decode cc pc2 = .ok (.putfield index, 3))
    (kk : ∀ (H1 : Heap) (locs1 : List Loc), FW E A s.heap ((a, .inr (ci, fs.set k v)) :: ar) H1 locs1 → W p l e R s m args below meth c H1 locs1 cells slots Q (F0 m (pc2 + 3) ls [])) : W p l e R s m args below meth c H locs cells slots Q (F0 m pc ls []) := by
  refine lv_aload_n C.1 C.2.1 d0 rfl hl0 (push ?_)
  exact nx_set C hK hin2 cf hF k hk hlink hdecl hn hfit hl d3 kk
end NX3
/-- addresses in their order -/
def mkA (L : List Nat) : Nat → Nat := fun i => L.getD i 0
/-- a state of zeros -/
def z0 : St := (fun _ => 0, fun _ => 0, fun _ _ => 0, fun _ _ => 0)
/-- the object's address ahead of its rows' -/
def cA0 (h : Nat) (a : Nat → Nat) : Nat → Nat := fun i => match i with
  | 0 => h
  | i + 1 => a i
