/-! the law's world -/
def WZ (E : Ev) (A : Nat → Prop) (H0 : Heap) (bs : List va_W) (H : Heap) (locs : List Loc) : Prop := PB E bs H ∧ DA E.2.2.1 (adr bs) ∧ (∀ q, AA (adr bs) q → A q) ∧ va_S A H0 H locs
def BL (E : Ev) (aa aT aS : Nat → Nat → Nat) (p0 p1 p2 p3 : Nat) (mn tape rd tk ph ml nm now trial im sp nt fut od crow M out : St) (T S : Nat → St) : List va_W := [wMain E (aa 0) (aa 1 0) (aT 0 0) (aS 0 0) (aa 2 0) (aa 5 0) (aa 7 0) (aa 8 0) (aa 9 0) (aa 10 0) (aa 11 0) (aa 12 0) (aa 13 0) (aa 14 0) mn, wBArr E 700 (aa 1) tape, wScript E (aT 0) (aT 1 0) (aT 2 0) (aT 3 0) (aT 4 0) (aT 5 0) (aT 6 0) (aT 7 0) (T 0), wRoll E 6 (aT 1) (T 1), wRoll E 6 (aT 2) (T 2), wRoll E 4 (aT 3) (T 3), wRoll E 14 (aT 4) (T 4), wFormula E (aT 5) (T 5), wFormula E (aT 6) (T 6), wFormula E (aT 7) (T 7), wScript E (aS 0) (aS 1 0) (aS 2 0) (aS 3 0) (aS 4 0) (aS 5 0) (aS 6 0) (aS 7 0) (S 0), wRoll E 6 (aS 1) (S 1), wRoll E 6 (aS 2) (S 2), wRoll E 4 (aS 3) (S 3), wRoll E 14 (aS 4) (S 4), wFormula E (aS 5) (S 5), wFormula E (aS 6) (S 6), wFormula E (aS 7) (S 7), wReader E (aa 2) (aa 3 0) (aa 4 0) p0 rd, wTokens E (aa 3) p1 tk, wPhrase E (aa 4) p2 ph, wMill E (aa 5) (aa 6 0) p3 ml, wLArr E 7 (aa 6) nm, wHall E (aa 7) now, wHall E (aa 8) trial, wHall E (aa 9) im, wSteps E (aa 10) sp, wNotes E (aa 11) nt, wIArr E 600 (aa 12) fut, wOrder E (aa 13) od, wIArr E 114 (aa 14) crow, wModel E (aa 15) M, wLArr E 1 (aa 16) out]
/-- between two calls of the law -/
def LI (E : Ev) (A : Nat → Prop) (H0 : Heap) (x mo oo : Nat) (H : Heap) (locs : List Loc) : Prop := ∃ (aa aT aS : Nat → Nat → Nat) (p0 p1 p2 p3 : Nat) (mn tape rd tk ph ml nm now trial im sp nt fut od crow M out : St) (T S : Nat → St), WZ E A H0 (BL E aa aT aS p0 p1 p2 p3 mn tape rd tk ph ml nm now trial im sp nt fut od crow M out T S) H locs ∧ CX mn im now sp nt fut tape tk T S M ∧ aa 0 0 = x ∧ aa 15 0 = mo ∧ aa 16 0 = oo
theorem PB.flat {E : Ev} : ∀ {bs : List va_W} {H : Heap}, va_P E.1 vwCl bs.flatten H → PB E bs H
  | [], _, _ => fun i b hb => by cases hb
  | b :: bs, H, h => fun i c hc => by
    rw [List.flatten_cons] at h
    match i, hc with
    | 0, hc => cases hc; exact h.left
    | i + 1, hc => exact PB.flat h.right i c hc
theorem va_D.right {A : Nat → Prop} {w1 w2 : va_W} (h : va_D A (w1 ++ w2)) : va_D A w2 := by
  have e : ∀ (k : Nat) (q : Nat × va_E), w2[k]? = some q → (w1 ++ w2)[w1.length + k]? = some q := fun k q hk => by rw [List.getElem?_append_right (by omega), Nat.add_sub_cancel_left]; exact hk
  refine ⟨fun i j p q hi hj eq => ?_, fun k q hk => h.2 _ q (e k q hk)⟩
  have := h.1 _ _ p q (e i p hi) (e j q hj) eq
  omega
theorem AA.at {w : va_W} {ad : List (List Nat)} {q : Nat} (h : AA (w.map Prod.fst :: ad) q) : (∃ (k : Nat) (x : Nat × va_E), w[k]? = some x ∧ x.1 = q) ∨ AA ad q := by
  obtain ⟨i, k, r, h1, h2⟩ := h
  match i, h1 with
  | 0, h1 =>
    cases h1
    rw [List.getElem?_map] at h2
    cases h5 : w[k]? with
    | none => rw [h5] at h2; cases h2
    | some x => rw [h5] at h2; exact Or.inl ⟨k, x, h5, Option.some.inj h2⟩
  | i + 1, h1 => exact Or.inr ⟨i, k, r, h1, h2⟩
theorem AA.flat {bs : List va_W} {q : Nat} (h : AA (adr bs) q) : ∃ (k : Nat) (x : Nat × va_E), bs.flatten[k]? = some x ∧ x.1 = q := by
  induction bs with
  | nil => obtain ⟨i, k, r, h1, _⟩ := h; cases h1
  | cons b bs ih =>
    rcases AA.at (w := b) (ad := adr bs) h with ⟨k, x, h1, h2⟩ | h
    · exact ⟨k, x, by rw [List.flatten_cons, List.getElem?_append_left (List.getElem?_eq_some_iff.mp h1).1]; exact h1, h2⟩
    · obtain ⟨k, x, h1, h2⟩ := ih h
      exact ⟨b.length + k, x, by rw [List.flatten_cons, List.getElem?_append_right (by omega), Nat.add_sub_cancel_left]; exact h1, h2⟩
theorem DA.flat {A : Nat → Prop} {N0 : Nat} (hA0 : ∀ q, A q → N0 ≤ q) : ∀ {bs : List va_W}, va_D A bs.flatten → DA N0 (adr bs)
  | [], _ => ⟨fun i j k k' r r' q h => (by cases h), fun q h => (by obtain ⟨i, k, r, h1, _⟩ := h; cases h1)⟩
  | b :: bs, h => by
    rw [List.flatten_cons] at h
    have ih := DA.flat (bs := bs) hA0 h.right
    have one := DA.one (N0 := N0) h.left hA0
    have cross : ∀ (k : Nat) (q : Nat), (b.map Prod.fst)[k]? = some q → ¬ AA (adr bs) q := fun k q h1 h2 => by
      rw [List.getElem?_map] at h1
      cases h5 : b[k]? with
      | none => rw [h5] at h1; cases h1
      | some x =>
        rw [h5] at h1
        obtain ⟨k2, y, h3, h4⟩ := AA.flat h2
        exact h.cross h5 h3 ((Option.some.inj h1).trans h4.symm)
    refine ⟨fun i j k k' r r' q h1 h2 h3 h4 => ?_, fun q hq => ?_⟩
    · match i, j, h1, h2 with
      | 0, 0, h1, h2 =>
        have := one.1 0 0 k k' r r' q h1 h2 h3 h4
        exact ⟨rfl, this.2⟩
      | 0, j + 1, h1, h2 =>
        cases h1
        exact absurd ⟨j, k', r', h2, h4⟩ (cross k q h3)
      | i + 1, 0, h1, h2 =>
        cases h2
        exact absurd ⟨i, k, r, h1, h3⟩ (cross k' q h4)
      | i + 1, j + 1, h1, h2 =>
        have := ih.1 i j k k' r r' q h1 h2 h3 h4
        exact ⟨by omega, this.2⟩
    · rcases AA.at (w := b) (ad := adr bs) hq with ⟨k, x, h1, h2⟩ | h9
      · rw [← h2]; exact hA0 _ (h.left.2 k x h1)
      · exact ih.2 q h9
theorem WZ.of {E : Ev} {A : Nat → Prop} {H0 H : Heap} {bs : List va_W} {locs : List Loc} (hA0 : ∀ q, A q → E.2.2.1 ≤ q) (h : FW E A H0 bs.flatten H locs) : WZ E A H0 bs H locs :=
  ⟨PB.flat h.1, DA.flat hA0 h.2.1, fun q hq => by obtain ⟨k, x, h1, h2⟩ := AA.flat hq; rw [← h2]; exact h.2.1.2 k x h1, h.2.2⟩
theorem WZ.perm {E : Ev} {A : Nat → Prop} {H0 H : Heap} {bs cs : List va_W} {locs : List Loc} (h : WZ E A H0 bs H locs) (is : List Nat) (hn : is.Nodup) (his : is.map (fun i => bs[i]?) = cs.map some) : WZ E A H0 cs H locs := by
  have hd := DA.sub h.2.1 hn his
  exact ⟨h.1.sub is his, hd.1, fun q hq => h.2.2.1 q (hd.2 q hq), h.2.2.2⟩
section LW
variable {p : Program} {l : Launch} {e : Env} {R : Room} {s : State} {m : MethodId} {args : Array Value} {below : List Frame} {meth : Method} {c : Code} {H : Heap} {locs : List Loc} {cells slots : Nat} {Q : State → Prop}
variable {cc bytes : ByteArray} {pc nL maxL index n f k : Nat} {ls : Array Slot} {rest st0 st1 As av : List Value} {E : Ev} {own : String} {y : MethodName} {ret : Option FieldType} {cs bs : List va_W} {cs' : (Nat → Nat) → List va_W} {b : Nat} {r : Option Value} {A : Nat → Prop}
theorem WZ.old (hB : WZ E A s.heap bs H locs) (hA0 : ∀ q, A q → E.2.2.1 ≤ q) (hN : E.2.2.1 ≤ s.heap.size) : ∀ q : Nat, q < E.2.2.1 → H[q]? = s.heap[q]? := fun q hq => hB.2.2.2.2.1 q (Nat.lt_of_lt_of_le hq hN) (fun h => absurd (hA0 q h) (by omega))
theorem wl_mut {g : JFrame} {is : List Nat} (hg : g = F0 m pc ls st0) (hr : va_Run p l e R s m args below meth c H locs cells slots 0 0 g rest (fun st o t => o = .returned r ∧ (∃ q, PB E (cs' q) t.heap) ∧ va_F (AA (adr cs)) st t) (AA (adr cs))) (hs1 : r.toList ++ rest = st1) (hB : WZ E A s.heap bs H locs) (hn : is.Nodup) (his : is.map (fun i => bs[i]?) = cs.map some) (hadr : ∀ q, adr (cs' q) = adr cs)
    (kk : ∀ (H1 : Heap) (locs1 : List Loc) (q : Nat → Nat), WZ E A s.heap (setL bs is (cs' q)) H1 locs1 → W p l e R s m args below meth c H1 locs1 cells slots Q (F0 m (pc + 3) ls st1)) : W p l e R s m args below meth c H locs cells slots Q g := by
  subst hg
  intro T hT X
  obtain ⟨v, st₀, t, T', L, h0, X', hL, e1, e2, ⟨hv, ⟨q, hp⟩, hz, hk⟩, st⟩ := hr T hT X
  cases hv
  subst hs1
  rw [h0] at hz hk
  obtain ⟨hP, hD, hAA, hS⟩ := hB
  have hsub := (DA.sub (cs := cs) hD hn his).2
  have hW0 : WB E (adr bs) H bs H [] := ⟨hP, rfl, va_S.rf⟩
  have hS0 : va_S (AA (adr bs)) H T'.heap L := ⟨by rw [e1]; exact hz, fun q h1 h2 => by rw [e1]; exact hk q h1 (fun z => h2 (hsub q z)), fun q hq => hsub _ (hL q hq)⟩
  have hB1 := WB.call hW0 hD hn his (cs' := cs' q) (by rw [e1]; exact hp) (hadr q) (fun q h1 h2 => by rw [e1]; exact hk q h1 h2) hS0
  have hS1 : va_S A s.heap T'.heap (locs ++ L) := ⟨Nat.le_trans hS.1 (by rw [e1]; exact hz), fun q h1 h2 => by rw [e1, hk q (Nat.lt_of_lt_of_le h1 hS.1) (fun z => h2 (hAA q (hsub q z)))]; exact hS.2.1 q h1 h2, fun q hq => by
      rcases List.mem_append.mp hq with h | h
      · exact hS.2.2 q h
      · exact hAA _ (hsub _ (hL q h))⟩
  obtain ⟨t2, a1, b1⟩ := kk T'.heap (locs ++ L) q ⟨hB1.1, by rw [hB1.2.1]; exact hD, by rw [hB1.2.1]; exact hAA, hS1⟩ T' rfl X'
  exact ⟨t2, st t2 a1, b1⟩
theorem wl_X (C : CallFix p m c cc nL s args gtbl own) (hK : Kx E s) (hA0 : ∀ q, A q → E.2.2.1 ≤ q) (hN : E.2.2.1 ≤ s.heap.size) (hB : WZ E A s.heap bs H locs) (hM : MX l E y bytes maxL ret (rmm f k) cs cs' (.ref b :: As) r) (is : List Nat) (hnd : is.Nodup) (his : is.map (fun i => bs[i]?) = cs.map some) (hadr : ∀ q, adr (cs' q) = adr cs) (lk : LkV own index y bytes maxL ret n) (hR : f + 1 ≤ R.frames ∧ 8 + (maxL + 11) + k ≤ R.locals) (hf : cells ≤ R.cells ∧ slots ≤ R.slots) (hrc : Rcv s H y.cls b) (hn : As.length = n) (hsize : ls.size = nL) (hst : st0 = As.reverse ++ .ref b :: rest) (hs1 : r.toList ++ rest = st1) (hW : (rest.map fun v => v.category).sum ≤ 8) (hdg : decode cc pc = .ok (.invokevirtual index, 3))
    (kk : ∀ (H1 : Heap) (locs1 : List Loc) (q : Nat → Nat), WZ E A s.heap (setL bs is (cs' q)) H1 locs1 → W p l e R s m args below meth c H1 locs1 cells slots Q (F0 m (pc + 3) ls st1)) : W p l e R s m args below meth c H locs cells slots Q (F0 m pc ls st0) := by
  obtain ⟨k1, k2, k3, k4, k5, k6, k7⟩ := lk
  have hDc := (DA.sub (cs := cs) hB.2.1 hnd his).1
  have pp := pp_mut (av := .ref b :: As) hK (hB.1.sub is his) (hB.old hA0 hN) (Nat.le_trans hN hB.2.2.2.1) hDc
  exact wl_mut rfl (va_runV (C := y.cls) (As := As) (rest := rest) C hM ⟨cx_B C (C.2.2.2.2 _ k1) k4 k5 k6 k7 ⟨rfl, rfl⟩ hR, C.2.2.2.2 _ k2, C.2.2.2.2 _ k3⟩ ⟨pp.1, hrc, pp.2⟩ rfl hn hsize hst (lv_room hW) hdg hf) hs1 hB hnd his hadr kk
theorem wl_P (C : CallFix p m c cc nL s args gtbl own) (hK : Kx E s) (hA0 : ∀ q, A q → E.2.2.1 ≤ q) (hN : E.2.2.1 ≤ s.heap.size) (hB : WZ E A s.heap bs H locs) (hM : MP l E y bytes maxL ret (rmm f k) cs (.ref b :: As) r) (is : List Nat) (his : is.map (fun i => bs[i]?) = cs.map some) (lk : LkV own index y bytes maxL ret n) (hR : f + 1 ≤ R.frames ∧ 8 + (maxL + 11) + k ≤ R.locals) (hf : cells ≤ R.cells ∧ slots ≤ R.slots) (hrc : Rcv s H y.cls b) (hn : As.length = n) (hsize : ls.size = nL) (hst : st0 = As.reverse ++ .ref b :: rest) (hs1 : r.toList ++ rest = st1) (hW : (rest.map fun v => v.category).sum ≤ 8) (hdg : decode cc pc = .ok (.invokevirtual index, 3))
    (kk : W p l e R s m args below meth c H locs cells slots Q (F0 m (pc + 3) ls st1)) : W p l e R s m args below meth c H locs cells slots Q (F0 m pc ls st0) :=
  cxVP C hK hM lk ⟨rfl, rfl⟩ hR hf (hB.1.sub is his) (hB.old hA0 hN) (Nat.le_trans hN hB.2.2.2.1) hrc hn hsize hst hs1 hW hdg kk
/-- a number of the script -/
theorem rd_arg {b L i j : Nat} {xs : Nat → Int32} {x mo oo : Nat} {n9 : Int} (C : CallFix p m c cc 7 s args gtbl own) (hX : va_X b L xs s s.heap) (hbl : b < s.heap.size) (hbA : ¬ A b) (hS : va_S A s.heap H locs) (hl : lv_has ls 7 [(0, .ref b), (1, .ref x), (2, .ref mo), (3, .ref oo), (4, .int (nI i))]) (hi : i + j < L) (hL : L ≤ 3072) (d0 : decode cc pc = .ok (.aload_n 0, 1)) (d1 : decode cc (pc + 1) = .ok (.iload 4, 2)) (d2 : decode cc (pc + 3) = .ok (.iconst n9, 1)) (h9 : Int32.ofInt n9 = nI j) (d3 : decode cc (pc + 4) = .ok (.iadd, 1)) (d4 : decode cc (pc + 5) = .ok (.iaload, 1))
    (kk : W p l e R s m args below meth c H locs cells slots Q (F0 m (pc + 6) ls (.int (xs (i + j)) :: rest))) : W p l e R s m args below meth c H locs cells slots Q (F0 m pc ls rest) := by
  refine lv_aload_n C.1 C.2.1 d0 rfl (lv_at hl 0 rfl) ?_
  refine lv_iload C.1 C.2.1 d1 (lv_at hl 4 rfl) ?_
  refine lv_iconst C.1 C.2.1 d2 h9 ?_
  refine lv_iadd C.1 C.2.1 d3 ?_
  rw [nI_add]
  refine va_sld C.1 C.2.1 hX hbl hbA hS (i := nI (i + j)) (vp_in_nI hi (by omega)) d4 ?_
  rw [nI_clamp (by omega)]
  exact kk
end LW
