/-! what is told, by what is read -/
theorem KTN.A {M M1 : St} (h : KTN 42 M M1) {r i : Nat} (h1 : 23 ≤ r) (h2 : r ≤ 41) (hi : i < lo r) : gA M1 r i = gA M r (lo r + i) := by rw [h.2.2.2, if_pos ⟨h1, by omega, hi⟩]
theorem lo_k {r : Nat} (h1 : 39 ≤ r) : lo r = 64 := by
  unfold lo
  rw [if_neg (by omega), if_neg (by omega), if_neg (by omega), if_neg (by omega), if_neg (by omega)]
theorem LR2.keep {f M M1 : St} {w kn : Nat} (h : LR2 f M w kn) (k : KTN 42 M M1) (hw : w < 3) (hk : kn ≤ 64) : LR f M1 w := by
  have e36 : gA M1 36 w = gA M 36 (3 + w) := k.A (r := 36) (by decide) (by decide) (show w < 3 from hw)
  have e37 : gA M1 37 w = gA M 37 (3 + w) := k.A (r := 37) (by decide) (by decide) (show w < 3 from hw)
  have e38 : gA M1 38 w = gA M 38 (3 + w) := k.A (r := 38) (by decide) (by decide) (show w < 3 from hw)
  have e : ∀ r, 39 ≤ r → r ≤ 41 → ∀ i, i < 64 → gA M1 r i = k64 M r i := fun r h1 h2 i hi => by
    rw [k.A (by omega) (by omega) (by rw [lo_k h1]; exact hi), lo_k h1]; rfl
  obtain ⟨a, b⟩ := h
  refine ⟨a.trans e36.symm, ?_⟩
  rw [e36, e37, e38]
  rcases b with ⟨b, _⟩ | ⟨b, fr, n, c1, c2, c3, c4, c5, c6, c7, c8⟩
  · exact Or.inl b
  · refine Or.inr ⟨b, fr, n, c1, by omega, c3, c4, c5, LW_cong c6 (fun i hi => ⟨e 39 (by omega) (by omega) _ (by omega), e 40 (by omega) (by omega) _ (by omega), e 41 (by omega) (by omega) _ (by omega)⟩), fun i hi => ?_, ?_⟩
    · rw [e 39 (by omega) (by omega) _ (by omega), e 40 (by omega) (by omega) _ (by omega)]; exact c7 i hi
    · rw [hst_cong n (fun j hj => e 39 (by omega) (by omega) (fr + j) (by omega))]; exact c8
theorem RD.keep {S : Nat → St} {M M1 : St} {na ng nr ns kn : Nat} (h : RD S M na ng nr ns kn) (k : KTN 42 M M1) : TR S M1 na ng nr ns := by
  obtain ⟨⟨⟨z1, z2, z3, z4⟩, _, zs, zm⟩, ha, hg, hr, hs, ⟨⟨m1, m2⟩, ⟨m3, m4⟩, _, _, m5, m6, m7, _⟩, l0, l1, l2⟩ := h
  obtain ⟨k0, ⟨k1, k2, k3, k4, k5⟩, kJ, _⟩ := id k
  obtain ⟨y1, y2, y3, y4⟩ := zm
  have e6 : ∀ r, 24 ≤ r → r ≤ 29 → ∀ i, i < 6 → gA M1 r i = gA M r (6 + i) := fun r h1 h2 i hi => by
    have el : lo r = 6 := by unfold lo; rw [if_neg (by omega), if_pos (by omega)]
    rw [k.A (by omega) (by omega) (by rw [el]; exact hi), el]
  have e4 : ∀ r, 30 ≤ r → r ≤ 33 → ∀ i, i < 4 → gA M1 r i = gA M r (4 + i) := fun r h1 h2 i hi => by
    have el : lo r = 4 := by unfold lo; rw [if_neg (by omega), if_neg (by omega), if_pos (by omega)]
    rw [k.A (by omega) (by omega) (by rw [el]; exact hi), el]
  have e14 : ∀ r, 34 ≤ r → r ≤ 35 → ∀ i, i < 14 → gA M1 r i = gA M r (14 + i) := fun r h1 h2 i hi => by
    have el : lo r = 14 := by unfold lo; rw [if_neg (by omega), if_neg (by omega), if_neg (by omega), if_pos (by omega)]
    rw [k.A (by omega) (by omega) (by rw [el]; exact hi), el]
  have e0 : gA M1 23 0 = gA M 23 2 := k.A (r := 23) (by decide) (by decide) (by decide)
  have e1 : gA M1 23 1 = gA M 23 3 := k.A (r := 23) (by decide) (by decide) (by decide)
  refine ⟨⟨⟨z1, z2, z3, z4⟩, zs, k1.trans y1, k2.trans y2, k3.trans y3, k4.trans y4⟩, fun i hi => ?_, fun i hi => ?_, fun i hi => ?_, fun i hi => ?_, ?_, l0.keep k (by decide) m5, l1.keep k (by decide) m5, l2.keep k (by decide) m5⟩
  · rw [e6 24 (by omega) (by omega) i (by omega), e6 25 (by omega) (by omega) i (by omega), e6 26 (by omega) (by omega) i (by omega)]; exact ha i hi
  · rw [e6 27 (by omega) (by omega) i (by omega), e6 28 (by omega) (by omega) i (by omega), e6 29 (by omega) (by omega) i (by omega)]; exact hg i hi
  · rw [e4 30 (by omega) (by omega) i (by omega), e4 31 (by omega) (by omega) i (by omega), e4 32 (by omega) (by omega) i (by omega), e4 33 (by omega) (by omega) i (by omega)]; exact hr i hi
  · rw [e14 34 (by omega) (by omega) i (by omega), e14 35 (by omega) (by omega) i (by omega)]; exact hs i hi
  · unfold TRm
    rw [e0, e1, k5, m7]
    exact ⟨m1, m3, m6, m2, m4⟩
/-! what is told stays, where the halves below stay -/
theorem LR.low {f M M1 : St} {w : Nat} (h : LR f M w) (hw : w < 3) (k : ∀ r i, 23 ≤ r → r ≤ 41 → i < lo r → gA M1 r i = gA M r i) : LR f M1 w := by
  have e36 : gA M1 36 w = gA M 36 w := k 36 _ (by decide) (by decide) (show w < 3 from hw)
  have e37 : gA M1 37 w = gA M 37 w := k 37 _ (by decide) (by decide) (show w < 3 from hw)
  have e38 : gA M1 38 w = gA M 38 w := k 38 _ (by decide) (by decide) (show w < 3 from hw)
  have e : ∀ r, 39 ≤ r → r ≤ 41 → ∀ i, i < 64 → gA M1 r i = gA M r i := fun r h1 h2 i hi => k r i (by omega) h2 (by rw [lo_k h1]; exact hi)
  obtain ⟨a, b⟩ := h
  refine ⟨a.trans e36.symm, ?_⟩
  rw [e36, e37, e38]
  rcases b with b | ⟨b, fr, n, c1, c2, c3, c4, c5, c6, c7, c8⟩
  · exact Or.inl b
  · refine Or.inr ⟨b, fr, n, c1, by omega, c3, c4, c5, LW_cong c6 (fun i hi => ⟨e 39 (by omega) (by omega) _ (by omega), e 40 (by omega) (by omega) _ (by omega), e 41 (by omega) (by omega) _ (by omega)⟩), fun i hi => ?_, ?_⟩
    · rw [e 39 (by omega) (by omega) _ (by omega), e 40 (by omega) (by omega) _ (by omega)]; exact c7 i hi
    · rw [hst_cong n (fun j hj => e 39 (by omega) (by omega) (fr + j) (by omega))]; exact c8
theorem TR.low {T : Nat → St} {M M' : St} {na ng nr ns : Nat} (h : TR T M na ng nr ns) (hI : ∀ k, 12 ≤ k → k ≤ 16 → gI M' k = gI M k) (k : ∀ r i, 23 ≤ r → r ≤ 41 → i < lo r → gA M' r i = gA M r i) : TR T M' na ng nr ns := by
  obtain ⟨⟨⟨z1, z2, z3, z4⟩, zs, zm⟩, ha, hg, hr, hs, hm, l0, l1, l2⟩ := h
  have e6 : ∀ r, 24 ≤ r → r ≤ 29 → ∀ i, i < 6 → gA M' r i = gA M r i := fun r h1 h2 i hi => k r i (by omega) (by omega) (by
    unfold lo; rw [if_neg (by omega), if_pos (by omega)]; exact hi)
  have e4 : ∀ r, 30 ≤ r → r ≤ 33 → ∀ i, i < 4 → gA M' r i = gA M r i := fun r h1 h2 i hi => k r i (by omega) (by omega) (by
    unfold lo; rw [if_neg (by omega), if_neg (by omega), if_pos (by omega)]; exact hi)
  have e14 : ∀ r, 34 ≤ r → r ≤ 35 → ∀ i, i < 14 → gA M' r i = gA M r i := fun r h1 h2 i hi => k r i (by omega) (by omega) (by
    unfold lo; rw [if_neg (by omega), if_neg (by omega), if_neg (by omega), if_pos (by omega)]; exact hi)
  refine ⟨⟨⟨z1, z2, z3, z4⟩, zs, ?_⟩, fun i hi => ?_, fun i hi => ?_, fun i hi => ?_, fun i hi => ?_, ?_, l0.low (by decide) k, l1.low (by decide) k, l2.low (by decide) k⟩
  · rw [hI 12 (by omega) (by omega), hI 13 (by omega) (by omega), hI 14 (by omega) (by omega), hI 15 (by omega) (by omega)]; exact zm
  · rw [e6 24 (by omega) (by omega) i (by omega), e6 25 (by omega) (by omega) i (by omega), e6 26 (by omega) (by omega) i (by omega)]; exact ha i hi
  · rw [e6 27 (by omega) (by omega) i (by omega), e6 28 (by omega) (by omega) i (by omega), e6 29 (by omega) (by omega) i (by omega)]; exact hg i hi
  · rw [e4 30 (by omega) (by omega) i (by omega), e4 31 (by omega) (by omega) i (by omega), e4 32 (by omega) (by omega) i (by omega), e4 33 (by omega) (by omega) i (by omega)]; exact hr i hi
  · rw [e14 34 (by omega) (by omega) i (by omega), e14 35 (by omega) (by omega) i (by omega)]; exact hs i hi
  · unfold TRm
    rw [k 23 0 (by decide) (by decide) (by decide), k 23 1 (by decide) (by decide) (by decide), hI 16 (by omega) (by omega)]
    exact hm
theorem HR.g33 {u M M' : St} {b na ng nr : Nat} (h : HR u M b na ng nr) (hA : ∀ r, 53 ≤ r → r ≤ 63 → gA M' r = gA M r) (h33 : ∀ g, g < 4 → gA M' 33 g = gA M 33 g) : HR u M' b na ng nr := by
  have h1 : HR u (stA M' 33 (gA M 33)) b na ng nr := h.M (funext fun i => by rw [gA_stA, if_pos rfl]) (fun r i q1 q2 _ => by rw [gA_stA, if_neg (by omega), hA r q1 q2])
  have e : ∀ r, 53 ≤ r → r ≤ 63 → gA (stA M' 33 (gA M 33)) r = gA M' r := fun r q1 q2 => funext fun i => by rw [gA_stA, if_neg (by omega)]
  obtain ⟨hv, hr, hn, i1, i2, i3, i4, i5, i6⟩ := h1
  have e33 : gA (stA M' 33 (gA M 33)) 33 = gA M 33 := funext fun i => by rw [gA_stA, if_pos rfl]
  unfold HRv HRr isOn isSeats isGround isTired isSpeed isLatest at *
  rw [e 53 (by omega) (by omega), e 54 (by omega) (by omega), e 55 (by omega) (by omega), e 56 (by omega) (by omega), e 57 (by omega) (by omega), e 58 (by omega) (by omega), e 59 (by omega) (by omega), e 63 (by omega) (by omega)] at hv
  rw [e 60 (by omega) (by omega), e 61 (by omega) (by omega), e 62 (by omega) (by omega), e 63 (by omega) (by omega)] at hr
  rw [e 53 (by omega) (by omega), e 54 (by omega) (by omega)] at i1
  rw [e 60 (by omega) (by omega)] at i2
  rw [e 63 (by omega) (by omega), e33] at i3
  rw [e 61 (by omega) (by omega)] at i4
  rw [e 55 (by omega) (by omega)] at i5
  rw [e 56 (by omega) (by omega)] at i6
  refine ⟨hv, hr, hn, i1, i2, ⟨fun g hg => ?_, i3.2⟩, i4, i5, i6⟩
  have h4 : nr ≤ 4 := hn.2.2
  rw [h33 g (by omega)]
  exact i3.1 g hg
theorem IMR.low {mn mn' im M M' : St} {na ng nr : Nat} (h : IMR mn im M na ng nr) (h11 : gI mn' 11 = gI mn 11) (h82 : gI M' 82 = gI M 82) (h33 : ∀ g, g < 4 → gA M' 33 g = gA M 33 g) (h83 : gA M' 83 = gA M 83) (h84 : gA M' 84 = gA M 84) (h85 : gJ M' 85 = gJ M 85) : IMR mn' im M' na ng nr := by
  have h1 : IMR mn' im (stA M' 33 (gA M 33)) na ng nr := h.fr h11 h82 (funext fun i => by rw [gA_stA, if_pos rfl]) (by rw [← h83]; rfl) (by rw [← h84]; rfl) h85
  rcases h1 with ⟨a, b⟩ | ⟨a, b, c, d⟩
  · exact Or.inl ⟨a, b⟩
  · refine Or.inr ⟨a, b, ?_, d⟩
    have e83 : gA (stA M' 33 (gA M 33)) 83 = gA M' 83 := rfl
    have e84 : gA (stA M' 33 (gA M 33)) 84 = gA M' 84 := rfl
    obtain ⟨p1, p2, p3, p4, p5, p6, p7⟩ := bk_r (stA M' 33 (gA M 33))
    obtain ⟨q1, q2, q3, q4, q5, q6, q7⟩ := bk_r M'
    -- the row 33 only
    have c2 : HR im (stA (bkM M') 33 (gA M 33)) 0 na ng nr := c.mv (fun _ _ => rfl) (fun _ _ => rfl) (fun _ _ => rfl) (fun _ _ => rfl) (fun _ _ => rfl) (funext fun i => by rw [gA_stA, if_pos rfl, bk_A _ (by omega), gA_stA, if_pos rfl]) (fun r h1 h2 => by
        rw [gA_stA, if_neg (by omega)]
        rcases (show r = 53 ∨ r = 54 ∨ r = 55 ∨ r = 56 ∨ r = 57 ∨ r = 58 ∨ r = 59 by omega) with rfl | rfl | rfl | rfl | rfl | rfl | rfl
        · rw [p1, q1, e83]
        · rw [p2, q2, e83]
        · rw [p3, q3, e83]
        · rw [p4, q4, e84]
        · rw [p5, q5, e84]
        · rw [p6, q6, e84]
        · rw [p7, q7, e84]) (fun r h1 h2 g hg => by
        rw [gA_stA, if_neg (by omega), Nat.mul_zero, Nat.zero_add]
        rcases (show r = 60 ∨ r = 61 ∨ r = 62 by omega) with rfl | rfl | rfl
        · rw [bk_60 _ g hg, bk_60 _ g hg, e83]
        · rw [bk_61 _ g hg, bk_61 _ g hg, e84]
        · rw [bk_62 _ g hg, bk_62 _ g hg, e84]) (fun g hg => by
        rw [gA_stA, if_neg (by omega), Nat.mul_zero, Nat.zero_add, bk_63 _ g hg, bk_63 _ g hg, e84])
    exact c2.g33 (fun r h1 h2 => funext fun i => by rw [gA_stA, if_neg (by omega)]) (fun g hg => by rw [bk_A _ (by omega), h33 g hg, gA_stA, if_pos rfl])
/-! the relation between two calls -/
def MO (T : Nat → St) : Prop := gI (T 1) 0 = 6 ∧ gI (T 2) 0 = 6 ∧ gI (T 3) 0 = 4 ∧ gI (T 4) 0 = 14
def WO (tk : St) : Prop := ∀ i, i < 20 → gA tk 0 i = nI (pk6 (fun k => (wd (sw i)).getD k 0))
def WM (M : St) : Prop := ∀ i, i < 106 → gA M 3 i = nI (w3 i)
/-- c: the class's blocks; M: the reference's -/
def CR (mn im now sp nt fut tape tk : St) (T S : Nat → St) (M : St) (na ng nr ns : Nat) : Prop := TR T M na ng nr ns ∧ HR now M 0 na ng nr ∧ gJ now 8 = gJ M 64 ∧ (gI mn 2 = gI M 4 ∧ gI mn 3 = gI M 5) ∧ TPR mn tape M ∧ IMR mn im M na ng nr ∧ SPR sp M ng ∧ NR nt M ∧ FUR mn fut T na ∧ (MO T ∧ MO S) ∧ WO tk ∧ WM M
theorem CR.told {mn im now sp nt fut tape tk : St} {T S : Nat → St} {M : St} {na ng nr ns : Nat} (h : CR mn im now sp nt fut tape tk T S M na ng nr ns) : TR T M na ng nr ns := h.1
theorem CR.hall {mn im now sp nt fut tape tk : St} {T S : Nat → St} {M : St} {na ng nr ns : Nat} (h : CR mn im now sp nt fut tape tk T S M na ng nr ns) : HR now M 0 na ng nr := h.2.1
theorem CR.seed {mn im now sp nt fut tape tk : St} {T S : Nat → St} {M : St} {na ng nr ns : Nat} (h : CR mn im now sp nt fut tape tk T S M na ng nr ns) : gJ now 8 = gJ M 64 := h.2.2.1
theorem CR.flt {mn im now sp nt fut tape tk : St} {T S : Nat → St} {M : St} {na ng nr ns : Nat} (h : CR mn im now sp nt fut tape tk T S M na ng nr ns) : (gI mn 2 = gI M 4 ∧ gI mn 3 = gI M 5) := h.2.2.2.1
theorem CR.tape {mn im now sp nt fut tape tk : St} {T S : Nat → St} {M : St} {na ng nr ns : Nat} (h : CR mn im now sp nt fut tape tk T S M na ng nr ns) : TPR mn tape M := h.2.2.2.2.1
theorem CR.img {mn im now sp nt fut tape tk : St} {T S : Nat → St} {M : St} {na ng nr ns : Nat} (h : CR mn im now sp nt fut tape tk T S M na ng nr ns) : IMR mn im M na ng nr := h.2.2.2.2.2.1
theorem CR.stp {mn im now sp nt fut tape tk : St} {T S : Nat → St} {M : St} {na ng nr ns : Nat} (h : CR mn im now sp nt fut tape tk T S M na ng nr ns) : SPR sp M ng := h.2.2.2.2.2.2.1
theorem CR.nts {mn im now sp nt fut tape tk : St} {T S : Nat → St} {M : St} {na ng nr ns : Nat} (h : CR mn im now sp nt fut tape tk T S M na ng nr ns) : NR nt M := h.2.2.2.2.2.2.2.1
theorem CR.fut {mn im now sp nt fut tape tk : St} {T S : Nat → St} {M : St} {na ng nr ns : Nat} (h : CR mn im now sp nt fut tape tk T S M na ng nr ns) : FUR mn fut T na := h.2.2.2.2.2.2.2.2.1
theorem CR.mo {mn im now sp nt fut tape tk : St} {T S : Nat → St} {M : St} {na ng nr ns : Nat} (h : CR mn im now sp nt fut tape tk T S M na ng nr ns) : (MO T ∧ MO S) := h.2.2.2.2.2.2.2.2.2.1
theorem CR.wo {mn im now sp nt fut tape tk : St} {T S : Nat → St} {M : St} {na ng nr ns : Nat} (h : CR mn im now sp nt fut tape tk T S M na ng nr ns) : WO tk := h.2.2.2.2.2.2.2.2.2.2.1
theorem CR.wm {mn im now sp nt fut tape tk : St} {T S : Nat → St} {M : St} {na ng nr ns : Nat} (h : CR mn im now sp nt fut tape tk T S M na ng nr ns) : WM M := h.2.2.2.2.2.2.2.2.2.2.2
/-- only row 33 and 23..41 below, and what the rest needs, stay the same -/
def XF (M M' : St) : Prop := (∀ k, ¬ pI k → k ≠ 1 → k ≠ 2 → k ≠ 6 → gI M' k = gI M k) ∧ M'.2.1 = M.2.1 ∧ ∀ r i, ¬ pA r i → gA M' r i = gA M r i
theorem XF.I {M M' : St} (h : XF M M') : ∀ k, ¬ pI k → k ≠ 1 → k ≠ 2 → k ≠ 6 → gI M' k = gI M k := h.1
theorem XF.J {M M' : St} (h : XF M M') : M'.2.1 = M.2.1 := h.2.1
theorem XF.A {M M' : St} (h : XF M M') : ∀ r i, ¬ pA r i → gA M' r i = gA M r i := h.2.2
theorem XF.rf {M : St} : XF M M := ⟨fun _ _ _ _ _ => rfl, rfl, fun _ _ _ => rfl⟩
theorem XF.tr {x y z : St} (h : XF x y) (k : XF y z) : XF x z := ⟨fun j a b c d => (k.I j a b c d).trans (h.I j a b c d), k.J.trans h.J, fun r i q => (k.A r i q).trans (h.A r i q)⟩
theorem XF.P {M M' : St} (h : PF M M') : XF M M' := ⟨fun k q _ _ _ => h.1 k q, h.2.1, h.2.2⟩
theorem XF.wI {M : St} {k : Nat} {v : Int32} (h : k = 1 ∨ k = 2 ∨ k = 6 ∨ pI k) : XF M (sI M k v) := ⟨fun j a b c d => gI_sIn _ _ (fun e => by
  subst e
  rcases h with h | h | h | h
  · exact b h
  · exact c h
  · exact d h
  · exact a h), rfl, fun _ _ _ => rfl⟩
theorem XF.row {M M' : St} (h : XF M M') {r : Nat} (hr : r < 22 ∨ 43 < r) : gA M' r = gA M r := funext fun i => h.A r i (by unfold pA; omega)
theorem XF.lo {M M' : St} (h : XF M M') (r i : Nat) (h1 : 23 ≤ r) (h2 : r ≤ 41) (hi : i < lo r) : gA M' r i = gA M r i := h.A r i (by unfold pA; omega)
/-- behind a text that is wrong, or none -/
theorem CR.wrong {mn mn' im now sp nt fut tape tk tk' : St} {T S S' : Nat → St} {M M' : St} {na ng nr ns : Nat} (h : CR mn im now sp nt fut tape tk T S M na ng nr ns) (k : XF M M') (h11 : gI mn' 11 = gI mn 11) (h15 : gI mn' 15 = gI mn 15) (hf : gI mn' 2 = gI M' 4 ∧ gI mn' 3 = gI M' 5) (ht : TPR mn' tape M') (hS : MO S') (htk : tk'.2 = tk.2) : CR mn' im now sp nt fut tape tk' T S' M' na ng nr ns := by
  have n6 : ng ≤ 6 := h.told.1.1.2.1
  have e33 : ∀ g, g < 4 → gA M' 33 g = gA M 33 g := fun g hg => k.lo 33 g (by decide) (by decide) hg
  refine ⟨h.told.low (fun j h1 h2 => k.I j (by unfold pI; omega) (by omega) (by omega) (by omega)) k.lo, h.hall.g33 (fun r h1 h2 => k.row (by omega)) e33, ?_, hf, ht, h.img.low h11 (k.I 82 (by unfold pI; omega) (by omega) (by omega) (by omega)) e33 (k.row (by omega)) (k.row (by omega)) ?_, h.stp.fr (k.I 80 (by unfold pI; omega) (by omega) (by omega) (by omega)) (k.row (by omega)) (fun i _ => ?_) n6, h.nts.Q (k.I 75 (by unfold pI; omega) (by omega) (by omega) (by omega)) (k.I 76 (by unfold pI; omega) (by omega) (by omega) (by omega)) (k.row (by omega)) rfl rfl (fun _ _ => rfl), ?_, ⟨h.mo.1, hS⟩, fun i hi => ?_, fun i hi => ?_⟩
  · unfold gJ; rw [k.J]; exact h.seed
  · unfold gJ; rw [k.J]
  · unfold vw
    rw [k.row (r := 53) (by omega), k.row (r := 54) (by omega), k.row (r := 55) (by omega), k.row (r := 60) (by omega)]
  · have := h.fut
    unfold FUR at *
    rw [h15]; exact this
  · unfold gA; rw [htk]; exact h.wo i hi
  · rw [k.row (r := 3) (by omega)]; exact h.wm i hi
