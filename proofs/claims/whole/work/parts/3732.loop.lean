theorem dL_law_23 : decode cL_law 23 = .ok (.iload 4, 2) := by decide +kernel
theorem dL_law_25 : decode cL_law 25 = .ok (.aload_n 0, 1) := by decide +kernel
theorem dL_law_26 : decode cL_law 26 = .ok (.arraylength, 1) := by decide +kernel
theorem dL_law_27 : decode cL_law 27 = .ok (.bipush 6, 2) := by decide +kernel
theorem dL_law_29 : decode cL_law 29 = .ok (.isub, 1) := by decide +kernel
theorem dL_law_30 : decode cL_law 30 = .ok (.if_icmp .gt 1437, 3) := by decide +kernel
theorem dL_law_1461 : decode cL_law 1461 = .ok (.iinc 4 6, 3) := by decide +kernel
theorem dL_law_1464 : decode cL_law 1464 = .ok (.goto (-1441), 3) := by decide +kernel
theorem dL_law_1467 : decode cL_law 1467 = .ok (.iconst 1, 1) := by decide +kernel
theorem dL_law_1468 : decode cL_law 1468 = .ok (.ireturn, 1) := by decide +kernel
theorem ll_go {L j : Nat} (hL : L ≤ 3072) (hj : 6 * j ≤ L) (h : ¬ (Int32.ofNat L - 6 < nI (6 * j))) : 6 * j + 6 ≤ L := by
  rcases Nat.lt_or_ge L 6 with q | q
  · have e : j = 0 := by omega
    subst e
    exfalso
    apply h
    rcases (show L = 0 ∨ L = 1 ∨ L = 2 ∨ L = 3 ∨ L = 4 ∨ L = 5 by omega) with rfl | rfl | rfl | rfl | rfl | rfl <;> decide +kernel
  · have e : Int32.ofNat L - 6 = nI (L - 6) := nI_sub q
    rw [e] at h
    rcases Nat.lt_or_ge L (6 * j + 6) with z | z
    · exact absurd (nI_lt (by omega) (by omega)) h
    · exact z
set_option maxHeartbeats 1000000 in
/-- the law's loop -/
theorem law_loop {p : Program} {l : Launch} {e : Env} {s : State} {m : MethodId} {below : List Frame} {meth : Method} {c : Code} {E : Ev} {kA vA : Nat → Nat} {b L : Nat} {xs : Nat → Int32} {x mo oo : Nat} (hlt : l.stackTraces = false) (hQ : TQ E kA vA s) (hE : E.2.2.1 = s.heap.size) (C : CallFix p m c cL_law 7 s #[Value.ref b] gtbl RL) (hr : meth.sig.returnType = ret) (hlocks : meth.locks = false) (hX : va_X b L xs s s.heap) (hbl : b < s.heap.size) (hL : L ≤ 3072) :
    ∀ (n j : Nat), L + 6 ≤ 6 * (j + n) → 6 * j ≤ L → ∀ (ls : Array Slot) (H : Heap) (locs : List Loc), lv_has ls 7 [(0, .ref b), (1, .ref x), (2, .ref mo), (3, .ref oo), (4, .int (nI (6 * j)))] → LI E (fun q => s.heap.size ≤ q) s.heap x mo oo H locs → W p l e room_1 s m #[Value.ref b] below meth c H locs (154 + j) (6072 + 6 * j) (lw_Z below #[Value.ref b] s) (F0 m 23 ls []) := by
  have hA0 : ∀ q, (fun q : Nat => s.heap.size ≤ q) q → E.2.2.1 ≤ q := fun q h => by rw [hE]; exact h
  have hN : E.2.2.1 ≤ s.heap.size := by rw [hE]; exact Nat.le_refl _
  have hbA : ¬ (fun q : Nat => s.heap.size ≤ q) b := Nat.not_le.mpr hbl
  have hK : Kx E s := hQ.1.1
  intro n
  induction n with
  | zero => intro j h1 h2; omega
  | succ n ih =>
    intro j h1 h2 ls H locs hl hI
    have hS : va_S (fun q : Nat => s.heap.size ≤ q) s.heap H locs := by
      obtain ⟨aa, aT, aS, p0, p1, p2, p3, mn, tape, rd, tk, ph, ml, nm, now, trial, im, sp, nt, fut, od, crow, M, out, T, S, hB, _⟩ := hI
      exact hB.2.2.2
    refine lv_iload C.1 C.2.1 dL_law_23 (lv_at hl 4 rfl) ?_
    refine lv_aload_n C.1 C.2.1 dL_law_25 rfl (lv_at hl 0 rfl) ?_
    refine va_slen C.1 C.2.1 hX hbl hbA hS dL_law_26 ?_
    refine lv_bipush (v := 6) C.1 C.2.1 dL_law_27 (by decide) ?_
    refine lv_isub C.1 C.2.1 dL_law_29 ?_
    refine lv_icmp_gt (tgt := 1467) C.1 C.2.1 dL_law_30 (by decide) (fun _ => ?_) (fun c9 => ?_)
    · refine lv_iconst (v := 1) C.1 C.2.1 dL_law_1467 (by decide) ?_
      refine va_forget (fun q hq => hS.2.2 q hq) ?_
      refine W.widen (k := 601024) (n := 7293034) (by omega) (by omega) ?_
      exact lw_ret C.1 C.2.1 hr hlocks dL_law_1468
    · have hi := ll_go hL h2 c9
      have hf : 154 + j + 1 ≤ room_1.cells ∧ 6072 + 6 * j + 6 ≤ room_1.slots := ⟨by show 154 + j + 1 ≤ 601024; omega, by show 6072 + 6 * j + 6 ≤ 7293034; omega⟩
      have step : ∀ (ls : Array Slot) (H : Heap) (locs : List Loc), lv_has ls 7 [(0, .ref b), (1, .ref x), (2, .ref mo), (3, .ref oo), (4, .int (nI (6 * j)))] → LI E (fun q => s.heap.size ≤ q) s.heap x mo oo H locs → W p l e room_1 s m #[Value.ref b] below meth c H locs (154 + j + 1) (6072 + 6 * j + 6) (lw_Z below #[Value.ref b] s) (F0 m 1461 ls []) := fun ls H locs hl hI => by
        refine lv_iinc (v := nI (6 * (j + 1))) C.1 C.2.1 dL_law_1461 hl (k := 4) rfl (((congrArg (fun z => nI (6 * j) + z) (show Int32.ofInt 6 = nI 6 by decide +kernel)).trans (nI_add (6 * j) 6)).trans (congrArg nI (by omega))) (by decide) rfl (fun ls hl => ?_)
        refine lv_goto (tgt := 23) C.1 C.2.1 dL_law_1464 (by decide) ?_
        refine W.widen (k := 154 + (j + 1)) (n := 6072 + 6 * (j + 1)) (by omega) (by omega) ?_
        exact ih (j + 1) (by omega) (by omega) ls H locs (lv_sub hl [1, 2, 3, 4, 0] rfl) hI
      exact law_body C hK hA0 hN hf hX hbl hbA hl hi hL hI (fun H locs hI => step ls H locs hl hI) (cs_4 hlt (thrB l hlt E kA vA) hQ C hK hA0 hN hf hX hbl hbA hl hi hL hI step)
