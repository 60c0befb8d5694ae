theorem mw_26 : Cond.classLink RL 8 RX11 ∈ gtbl := mg (List.mem_of_getElem? (i := 26) (by decide +kernel)) (by decide +kernel)
theorem mw_27 : Cond.instantiable RX11 18 ∈ gtbl := mg (List.mem_of_getElem? (i := 27) (by decide +kernel)) (by decide +kernel)
theorem mw_28 : Cond.methodLink RL 17 yX11_init ∈ gtbl := mg (List.mem_of_getElem? (i := 28) (by decide +kernel)) (by decide +kernel)
theorem mw_29 : Cond.instanceMethod yX11_init ∈ gtbl := mg (List.mem_of_getElem? (i := 29) (by decide +kernel)) (by decide +kernel)
theorem mw_30 : Cond.code yX11_init cX11_init 1 none ∈ gtbl := mg (List.mem_of_getElem? (i := 30) (by decide +kernel)) (by decide +kernel)
theorem mw_1261 : Cond.classLink RL 18 RX12 ∈ gtbl := mg (List.mem_of_getElem? (i := 1261) (by decide +kernel)) (by decide +kernel)
theorem mw_1262 : Cond.instantiable RX12 86 ∈ gtbl := mg (List.mem_of_getElem? (i := 1262) (by decide +kernel)) (by decide +kernel)
theorem mw_1263 : Cond.methodLink RL 20 yX12_init ∈ gtbl := mg (List.mem_of_getElem? (i := 1263) (by decide +kernel)) (by decide +kernel)
theorem mw_1264 : Cond.instanceMethod yX12_init ∈ gtbl := mg (List.mem_of_getElem? (i := 1264) (by decide +kernel)) (by decide +kernel)
set_option maxRecDepth 100000 in
theorem mw_1265 : Cond.code yX12_init cX12_init 1 none ∈ gtbl := mg (List.mem_of_getElem? (i := 1265) rfl) (by decide +kernel)
theorem dL_law_0 : decode cL_law 0 = .ok (.new 8, 3) := by decide +kernel
theorem dL_law_3 : decode cL_law 3 = .ok (.dup, 1) := by decide +kernel
theorem dL_law_4 : decode cL_law 4 = .ok (.invokespecial 17, 3) := by decide +kernel
theorem dL_law_7 : decode cL_law 7 = .ok (.astore_n 1, 1) := by decide +kernel
theorem dL_law_8 : decode cL_law 8 = .ok (.new 18, 3) := by decide +kernel
theorem dL_law_11 : decode cL_law 11 = .ok (.dup, 1) := by decide +kernel
theorem dL_law_12 : decode cL_law 12 = .ok (.invokespecial 20, 3) := by decide +kernel
theorem dL_law_15 : decode cL_law 15 = .ok (.astore_n 2, 1) := by decide +kernel
theorem dL_law_16 : decode cL_law 16 = .ok (.iconst 1, 1) := by decide +kernel
theorem dL_law_17 : decode cL_law 17 = .ok (.newarray .long, 2) := by decide +kernel
theorem dL_law_19 : decode cL_law 19 = .ok (.astore_n 3, 1) := by decide +kernel
theorem dL_law_20 : decode cL_law 20 = .ok (.iconst 0, 1) := by decide +kernel
theorem dL_law_21 : decode cL_law 21 = .ok (.istore 4, 2) := by decide +kernel
theorem li_L_17 : LkI RL 17 yX11_init cX11_init 1 0 := ⟨mw_28, mw_29, mw_1, mw_30, ⟨by decide, by decide⟩, by decide +kernel, rfl⟩
theorem li_L_20 : LkI RL 20 yX12_init cX12_init 1 0 := ⟨mw_1263, mw_1264, mw_17, mw_1265, ⟨by decide, by decide⟩, by decide +kernel, rfl⟩
section NX9
variable {p : Program} {l : Launch} {e : Env} {R : Room} {s : State} {m : MethodId} {args : Array Value} {below : List Frame} {meth : Method} {c : Code} {H : Heap} {locs : List Loc} {cells slots : Nat} {Q : State → Prop}
variable {cc bytes : ByteArray} {pc nL maxL index n b : Nat} {ls : Array Slot} {rest st0 As : List Value} {E : Ev} {own : String} {wr : va_W} {A : Nat → Prop} {kA vA : Nat → Nat} {y : MethodName} {rm : Room} {e0 : va_E} {w1 : (Nat → Nat) → va_W}
theorem nx_ctorW (C : CallFix p m c cc nL s args gtbl own) (hK : Ky E kA vA s) (hA : ∀ q, s.heap.size ≤ q → A q) (hA0 : ∀ q, A q → E.2.2.1 ≤ q) (hN : E.2.2.1 ≤ s.heap.size) (hF : FW E A s.heap (wr ++ [(b, e0)]) H locs) (hM : CI l E kA vA y bytes maxL rm [(b, e0)] [] (.ref b :: As) w1 H.size) (lk : LkI own index y bytes maxL n) (hR : rm.frames + 1 ≤ R.frames ∧ 8 + (maxL + 11) + rm.locals ≤ R.locals) (hf : cells + rm.cells ≤ R.cells ∧ slots + rm.slots ≤ R.slots) (hn : As.length = n) (hsize : ls.size = nL) (hst : st0 = As.reverse ++ .ref b :: rest) (hW : (rest.map fun v => v.category).sum ≤ 8) (hdg : decode cc pc = .ok (.invokespecial index, 3))
    (kk : ∀ (H1 : Heap) (locs1 : List Loc) (a : Nat → Nat), FW E A s.heap (wr ++ w1 a) H1 locs1 → W p l e R s m args below meth c H1 locs1 (cells + rm.cells) (slots + rm.slots) Q (F0 m (pc + 3) ls rest)) : W p l e R s m args below meth c H locs cells slots Q (F0 m pc ls st0) :=
  nx_ctor (wr := wr) C hK hA hA0 hN hM lk hR hf hF [wr.length] (by rw [va_nd, va_nd]; simp) (his_1 _ _) hn hsize hst hW hdg kk
end NX9
/-- the addresses of the law's blocks -/
def en_aa (x mo oo : Nat) (a a2 : Nat → Nat) (k : Nat) : Nat → Nat := match k with
  | 0 => fun _ => x
  | 1 => aM a 0
  | 2 => aM2 a 3 0
  | 3 => aM2 a 3 1
  | 4 => aM2 a 3 2
  | 5 => aM a 4
  | 6 => fun _ => aM a 4 1
  | 7 => aM a 5
  | 8 => aM a 6
  | 9 => aM a 7
  | 10 => aM a 8
  | 11 => aM a 9
  | 12 => aM a 10
  | 13 => aM a 11
  | 14 => aM a 12
  | 15 => cA0 mo a2
  | _ => fun _ => oo
theorem en_flat (E : Ev) (x mo oo : Nat) (a a2 : Nat → Nat) : (([] ++ mlW E x a) ++ wModel E (cA0 mo a2) m02) ++ [(oo, .inl (E.2.1 3, 1, .inr (.inl (fun _ => 0))))] = (BL E (en_aa x mo oo a a2) (aM2 a 1) (aM2 a 2) (aM2 a 2 0 0) (aM a 20 0) (aM2 a 2 5 0) (aM2 a 1 0 0) mn0 z0 rd0 tok0 z0 uMill z0 hall0 hall0 hall0 (fX9_clear z0) (fX3_clear z0) z0 (sI z0 3 1) z0 m02 z0 scr0 scr0).flatten := by
  have e1 : [(oo, (.inl (E.2.1 3, 1, .inr (.inl (fun _ => 0))) : va_E))] = wLArr E 1 (en_aa x mo oo a a2 16) z0 := rfl
  rw [e1]
  unfold BL mlW scW rdW
  simp only [List.flatten_cons, List.flatten_nil, List.append_assoc, List.nil_append, List.append_nil]
  rfl
set_option maxHeartbeats 1000000 in
theorem whole_start {p : Program} {e : Env} {s : State} {m : MethodId} {below : List Frame} {meth : Method} {c : Code} (l : Launch) (hlt : l.stackTraces = false) {b L : Nat} {xs : Nat → Int32} (hL : L ≤ 3072) (C0 : lw_At p s m meth c b L xs) : W p l e room_1 s m #[Value.ref b] below meth c s.heap [] 0 0 (lw_Z below #[Value.ref b] s) (entryFrame m ([Value.ref b] : List Value).toArray 7) := by
  obtain ⟨hx, hb, hr, hml, hown, hts, hX, hbl, hlocks, hgv⟩ := id C0
  obtain ⟨E, kA, vA, hE, hQ⟩ := en_TQ hts hgv
  have hK := hQ.1
  have hA : ∀ q : Nat, s.heap.size ≤ q → (fun q : Nat => s.heap.size ≤ q) q := fun _ h => h
  have hA0 : ∀ q, (fun q : Nat => s.heap.size ≤ q) q → E.2.2.1 ≤ q := fun q h => by rw [hE]; exact h
  have hN : E.2.2.1 ≤ s.heap.size := by rw [hE]; exact Nat.le_refl _
  have C : CallFix p m c cL_law 7 s #[Value.ref b] gtbl RL := ⟨hx, hb, hml, hown, fun w h => hts w (List.mem_filter.mp h).1⟩
  have hl := lv_entry ([.ref b]) (n := 7) (Nat.le_of_ble_eq_true rfl)
  rw [lg_entry_eq]
  generalize (lg_sl ([.ref b]) ++ List.replicate (7 - (lg_sl ([.ref b])).length) Slot.unset).toArray = ls at hl ⊢
  have hl : lv_has ls 7 [(0, .ref b)] := hl
  have hF : FW E (fun q : Nat => s.heap.size ≤ q) s.heap [] s.heap [] := ⟨fun k q h => by simp at h, ⟨fun i j p q h => by simp at h, fun k q h => by simp at h⟩, va_S.rf⟩
  refine nx_new C hK.1 hA hF hinX11 tyX11 tyX11_ok mw_26 mw_27 mw_1 (ci := 11) rfl dfX11 (Nat.le_of_ble_eq_true rfl) (Nat.le_of_ble_eq_true rfl) dL_law_0 (fun x H hF => ?_)
  refine lv_dup C.1 C.2.1 dL_law_3 rfl ?_
  refine nx_ctorW (As := []) (rest := [.ref x]) C hK hA hA0 hN hF (iX11 l E kA vA x _) li_L_17 ⟨Nat.le_of_ble_eq_true rfl, Nat.le_of_ble_eq_true rfl⟩ ⟨Nat.le_of_ble_eq_true rfl, Nat.le_of_ble_eq_true rfl⟩ rfl hl.1 rfl (Nat.le_of_ble_eq_true rfl) dL_law_4 (fun H locs a hF => ?_)
  refine lv_astore_n C.1 C.2.1 dL_law_7 rfl hl (by decide) rfl (fun ls hl => ?_)
  have hl : lv_has ls 7 [(1, .ref x), (0, .ref b)] := hl
  refine W.widen (k := 108) (n := 3369) (Nat.le_of_ble_eq_true rfl) (Nat.le_of_ble_eq_true rfl) ?_
  refine nx_new C hK.1 hA hF hinX12 tyX12 tyX12_ok mw_1261 mw_1262 mw_17 (ci := 12) rfl dfX12 (Nat.le_of_ble_eq_true rfl) (Nat.le_of_ble_eq_true rfl) dL_law_8 (fun mo H hF => ?_)
  refine lv_dup C.1 C.2.1 dL_law_11 rfl ?_
  refine nx_ctorW (As := []) (rest := [.ref mo]) C hK hA hA0 hN hF (iX12 l E kA vA mo _) li_L_20 ⟨Nat.le_of_ble_eq_true rfl, Nat.le_of_ble_eq_true rfl⟩ ⟨Nat.le_of_ble_eq_true rfl, Nat.le_of_ble_eq_true rfl⟩ rfl hl.1 rfl (Nat.le_of_ble_eq_true rfl) dL_law_12 (fun H locs a2 hF => ?_)
  refine lv_astore_n C.1 C.2.1 dL_law_15 rfl hl (by decide) rfl (fun ls hl => ?_)
  have hl : lv_has ls 7 [(2, .ref mo), (1, .ref x), (0, .ref b)] := hl
  refine W.widen (k := 153) (n := 6071) (Nat.le_of_ble_eq_true rfl) (Nat.le_of_ble_eq_true rfl) ?_
  refine lv_iconst (v := 1) C.1 C.2.1 dL_law_16 (by decide) ?_
  refine nx_newa C hK.1 hA hF 3 rfl rfl mw_100 (a0 := (1, .inr (.inl (fun _ => 0)))) (fun _ => rfl) (n := 1) rfl (by decide) (by decide) (Nat.le_of_ble_eq_true rfl) (Nat.le_of_ble_eq_true rfl) dL_law_17 (fun oo H hF => ?_)
  refine lv_astore_n C.1 C.2.1 dL_law_19 rfl hl (by decide) rfl (fun ls hl => ?_)
  have hl : lv_has ls 7 [(3, .ref oo), (2, .ref mo), (1, .ref x), (0, .ref b)] := hl
  refine lv_iconst (v := 0) C.1 C.2.1 dL_law_20 (by decide) ?_
  refine lv_istore C.1 C.2.1 dL_law_21 hl (by decide) rfl (fun ls hl => ?_)
  have hl : lv_has ls 7 [(4, .int (nI (6 * 0))), (3, .ref oo), (2, .ref mo), (1, .ref x), (0, .ref b)] := hl
  rw [en_flat] at hF
  exact law_loop hlt hQ hE C hr hlocks hX hbl hL (L + 6) 0 (by omega) (by omega) ls H _ (lv_sub hl [4, 3, 2, 1, 0] rfl) ⟨en_aa x mo oo a a2, aM2 a 1, aM2 a 2, _, _, _, _, _, _, _, _, _, _, _, _, _, _, _, _, _, _, _, _, _, _, _, WZ.of hA0 hF, CX0, rfl, rfl, rfl⟩
