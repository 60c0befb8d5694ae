/-! frames of the reference -/
/-- the half that a place of a row is of -/
def hf (r i : Nat) : Nat := if r ≤ 59 then i else if r = 63 then i / 4 else i / 6
/-- only the half b, the draw, the names and values may have changed -/
def FR (b : Nat) (M M' : St) : Prop := (∀ k, k ≠ 52 → gI M' k = gI M k) ∧ (∀ k, k ≠ 64 → gJ M' k = gJ M k) ∧ (∀ r i, ¬ (53 ≤ r ∧ r ≤ 63 ∧ hf r i = b) → gA M' r i = gA M r i) ∧ ∀ r, r ≠ 50 → r ≠ 51 → gB M' r = gB M r
theorem FR.rf {b : Nat} {M : St} : FR b M M := ⟨fun _ _ => rfl, fun _ _ => rfl, fun _ _ _ => rfl, fun _ _ _ => rfl⟩
theorem FR.tr {b : Nat} {x y z : St} (h : FR b x y) (k : FR b y z) : FR b x z := ⟨fun j hj => (k.1 j hj).trans (h.1 j hj), fun j hj => (k.2.1 j hj).trans (h.2.1 j hj), fun r i q => (k.2.2.1 r i q).trans (h.2.2.1 r i q), fun r h1 h2 => (k.2.2.2 r h1 h2).trans (h.2.2.2 r h1 h2)⟩
theorem FR.L {b : Nat} {M M' : St} (h : fL M M') : FR b M M' := ⟨h.1, fun k _ => h.J k, fun r i _ => by rw [h.A], fun _ _ h2 => h.B h2⟩
theorem FR.wA {b : Nat} {M : St} {r i : Nat} {v : Int32} (h1 : 53 ≤ r) (h2 : r ≤ 63) (h3 : hf r i = b) : FR b M (sA M r i v) := by
  refine ⟨fun _ _ => rfl, fun _ _ => rfl, fun r' i' q => ?_, fun _ _ _ => rfl⟩
  rw [gA_sA, if_neg]
  rintro ⟨rfl, rfl⟩
  exact q ⟨h1, h2, h3⟩
theorem FR.wJ {b : Nat} {M : St} {v : Int64} : FR b M (sJ M 64 v) := ⟨fun _ _ => rfl, fun k hk => if_neg hk, fun _ _ _ => rfl, fun _ _ _ => rfl⟩
theorem FR.w50 {b : Nat} {M : St} {i : Nat} {v : Int64} : FR b M (sB M 50 i v) := ⟨fun _ _ => rfl, fun _ _ => rfl, fun _ _ _ => rfl, fun r h1 _ => vu_n _ _ h1⟩
theorem FR.A {b : Nat} {M M' : St} (h : FR b M M') {r : Nat} (hr : r < 53 ∨ 63 < r) : gA M' r = gA M r := funext fun i => h.2.2.1 r i (by omega)
theorem FR.I {b : Nat} {M M' : St} (h : FR b M M') {k : Nat} (hk : k ≠ 52) : gI M' k = gI M k := h.1 k hk
/-- what is told: of the reference only some rows -/
theorem TR.M {T : Nat → St} {M M' : St} {na ng nr ns : Nat} (h : TR T M na ng nr ns) (hI : ∀ k, 12 ≤ k → k ≤ 16 → gI M' k = gI M k) (hA : ∀ r, 23 ≤ r → r ≤ 41 → gA M' r = gA M r) : TR T M' na ng nr ns := by
  have e12 := hI 12 (by omega) (by omega)
  have e13 := hI 13 (by omega) (by omega)
  have e14 := hI 14 (by omega) (by omega)
  have e15 := hI 15 (by omega) (by omega)
  have e16 := hI 16 (by omega) (by omega)
  have a23 := hA 23 (by omega) (by omega)
  have a24 := hA 24 (by omega) (by omega)
  have a25 := hA 25 (by omega) (by omega)
  have a26 := hA 26 (by omega) (by omega)
  have a27 := hA 27 (by omega) (by omega)
  have a28 := hA 28 (by omega) (by omega)
  have a29 := hA 29 (by omega) (by omega)
  have a30 := hA 30 (by omega) (by omega)
  have a31 := hA 31 (by omega) (by omega)
  have a32 := hA 32 (by omega) (by omega)
  have a33 := hA 33 (by omega) (by omega)
  have a34 := hA 34 (by omega) (by omega)
  have a35 := hA 35 (by omega) (by omega)
  have a36 := hA 36 (by omega) (by omega)
  have a37 := hA 37 (by omega) (by omega)
  have a38 := hA 38 (by omega) (by omega)
  have a39 := hA 39 (by omega) (by omega)
  have a40 := hA 40 (by omega) (by omega)
  have a41 := hA 41 (by omega) (by omega)
  unfold TR TRn TRa TRg TRr TRs TRm TRl LR at *
  simp only [e12, e13, e14, e15, e16, a23, a24, a25, a26, a27, a28, a29, a30, a31, a32, a33, a34, a35, a36, a37, a38, a39, a40, a41]
  exact h
theorem TR.fr {T : Nat → St} {M M' : St} {na ng nr ns b : Nat} (h : TR T M na ng nr ns) (k : FR b M M') : TR T M' na ng nr ns := h.M (fun j h1 h2 => k.I (by omega)) (fun r h1 h2 => k.A (by omega))
def fT (T T' : Nat → St) : Prop := ∀ k, fF (T k) (T' k)
theorem fT.rf {T : Nat → St} : fT T T := fun _ => fF.rf
theorem fT.tr {a b c : Nat → St} (h : fT a b) (k : fT b c) : fT a c := fun j => (h j).tr (k j)
theorem fT.up {T : Nat → St} {k : Nat} {f : St} (h : fF (T k) f) : fT T (va_up T k f) := fun j => by
  by_cases e : j = k
  · subst e; rw [vu_s]; exact h
  · rw [vu_n _ _ e]; exact fF.rf
theorem TR.fT {T T' : Nat → St} {M : St} {na ng nr ns : Nat} (h : TR T M na ng nr ns) (k : fT T T') : TR T' M na ng nr ns := by
  unfold TR TRn TRa TRg TRr TRs TRm TRl LR at *
  simp only [fun j r => (k j).A r, fun j r => (k j).I r]
  exact h
/-! the ways of a minute -/
def MR (ml M : St) : Prop := ((gI ml 2 = 0 ∧ gI M 65 = 0 ∧ gI M 66 = 0 ∧ gI M 67 = 0) ∨ (gI ml 2 = 1 ∧ gI M 65 = 1 ∧ gI M 66 = 0 ∧ gI M 67 = 0) ∨ (gI ml 2 = 2 ∧ gI M 65 = 0 ∧ gI M 66 = 1 ∧ gI M 67 = 0) ∨ (gI ml 2 = 3 ∧ gI M 65 = 0 ∧ gI M 66 = 0 ∧ gI M 67 = 1)) ∧
  ((gI ml 3 = 1 ∧ gI M 70 = 0) ∨ (gI ml 3 = 0 ∧ gI M 70 = 1)) ∧ gI ml 4 = gI M 71 ∧ ((gI ml 5 = 1 ∧ gI M 68 = 0) ∨ (gI ml 5 = 0 ∧ gI M 68 = 1)) ∧ (gI ml 6 = gI M 69) ∧ gI ml 7 = gI M 72 ∧ gI ml 8 = gI M 73 ∧ nn (gI M 73) 0 9
theorem MR.M {ml M M' : St} (h : MR ml M) (hI : ∀ k, 65 ≤ k → k ≤ 73 → gI M' k = gI M k) : MR ml M' := by
  have e65 := hI 65 (by omega) (by omega)
  have e66 := hI 66 (by omega) (by omega)
  have e67 := hI 67 (by omega) (by omega)
  have e68 := hI 68 (by omega) (by omega)
  have e69 := hI 69 (by omega) (by omega)
  have e70 := hI 70 (by omega) (by omega)
  have e71 := hI 71 (by omega) (by omega)
  have e72 := hI 72 (by omega) (by omega)
  have e73 := hI 73 (by omega) (by omega)
  unfold MR at *
  simp only [e65, e66, e67, e68, e69, e70, e71, e72, e73]
  exact h
theorem MR.fr {ml M M' : St} {b : Nat} (h : MR ml M) (k : FR b M M') : MR ml M' := h.M (fun j h1 h2 => k.I (by omega))
/-! a hall under changes -/
theorem HR.M {u M M' : St} {b na ng nr : Nat} (h : HR u M b na ng nr) (h33 : gA M' 33 = gA M 33) (hA : ∀ r i, 53 ≤ r → r ≤ 63 → hf r i = b → gA M' r i = gA M r i) : HR u M' b na ng nr := by
  have e (r : Nat) (h1 : 53 ≤ r) (h2 : r ≤ 59) : gA M' r b = gA M r b := hA r b h1 (by omega) (by unfold hf; rw [if_pos h2])
  have e53 := e 53 (by omega) (by omega)
  have e54 := e 54 (by omega) (by omega)
  have e55 := e 55 (by omega) (by omega)
  have e56 := e 56 (by omega) (by omega)
  have e57 := e 57 (by omega) (by omega)
  have e58 := e 58 (by omega) (by omega)
  have e59 := e 59 (by omega) (by omega)
  have e6 (r : Nat) (h1 : 60 ≤ r) (h2 : r ≤ 62) (g : Nat) (hg : g < 6) : gA M' r (6 * b + g) = gA M r (6 * b + g) := hA r _ (by omega) (by omega) (by unfold hf; rw [if_neg (by omega), if_neg (by omega)]; omega)
  have e4 (g : Nat) (hg : g < 4) : gA M' 63 (4 * b + g) = gA M 63 (4 * b + g) := hA 63 _ (by omega) (by omega) (by unfold hf; rw [if_neg (by omega), if_pos rfl]; omega)
  obtain ⟨⟨v0, v1, v2, v3, v4, v5, v7, v6⟩, ⟨r0, r1, r2, r3⟩, i0, i1, ⟨f, s1, s2⟩, ⟨g1, g2⟩, ⟨t1, t2⟩, i5, i6⟩ := h
  have e40 := e4 0 (by omega)
  rw [Nat.add_zero] at e40
  refine ⟨⟨by rw [e59]; exact v0, by rw [e55]; exact v1, by rw [e53]; exact v2, by rw [e54]; exact v3, by rw [e57]; exact v4, by rw [e58]; exact v5, by rw [e56]; exact v7, by rw [e40, e4 1 (by omega), e4 2 (by omega), e4 3 (by omega)]; exact v6⟩, ⟨fun g hg => by rw [e4 g hg]; exact r0 g hg, fun g hg => by rw [e6 61 (by omega) (by omega) g hg]; exact r1 g hg, fun g hg => by rw [e6 62 (by omega) (by omega) g hg]; exact r2 g hg, fun g hg => by rw [e6 60 (by omega) (by omega) g hg]; exact r3 g hg⟩, i0, ?_, ?_, ?_, ?_, ?_, ?_⟩
  · unfold isOn at *; rw [e53, e54]; exact i1
  · exact ⟨f, fun k hk => by rw [e6 60 (by omega) (by omega) k hk]; exact s1 k hk, s2⟩
  · refine ⟨fun g hg => ?_, fun g h1 hg => by rw [e4 g hg]; exact g2 g h1 hg⟩
    rw [e4 g (by omega), h33]; exact g1 g hg
  · refine ⟨fun g hg => ?_, fun g h1 hg => by rw [e6 61 (by omega) (by omega) g hg]; exact t2 g h1 hg⟩
    rw [e6 61 (by omega) (by omega) g (by omega)]; exact t1 g hg
  · unfold isSpeed at *; rw [e55]; exact i5
  · unfold isLatest at *; rw [e56]; exact i6
theorem HR.L {u M M' : St} {b na ng nr : Nat} (h : HR u M b na ng nr) (k : fL M M') : HR u M' b na ng nr := h.M (k.A 33) (fun r i _ _ _ => by rw [k.A])
theorem HR.fr {u M M' : St} {b c na ng nr : Nat} (h : HR u M b na ng nr) (k : FR c M M') (hc : b ≠ c) : HR u M' b na ng nr := h.M (k.A (by omega)) (fun r i _ _ q => k.2.2.1 r i (by omega))
theorem HR.u {u u' M : St} {b na ng nr : Nat} (h : HR u M b na ng nr) (h1 : u'.1 = u.1) (h2 : u'.2.2.1 = u.2.2.1) : HR u' M b na ng nr := by
  have hA : ∀ r, gA u' r = gA u r := fun r => congrFun h2 r
  have hI : ∀ r, gI u' r = gI u r := fun r => congrFun h1 r
  unfold HR HRv HRr at *
  simp only [hA, hI]
  exact h
theorem HR.won {u M : St} {b na ng nr : Nat} {a l : Int32} (h : HR u M b na ng nr) (q : (a = -1 ∧ l = 0) ∨ ∃ i, i < na ∧ a = nI i ∧ nn l 1 9) : HR (sI (sI u 2 a) 3 l) (sA (sA M 53 b a) 54 b l) b na ng nr := by
  obtain ⟨⟨v0, v1, v2, v3, v4, v5, v7, v6⟩, ⟨r0, r1, r2, r3⟩, i0, i1, i2, i3, i4, i5, i6⟩ := h
  have e3 : gA (sA (sA M 53 b a) 54 b l) 53 b = a := by rw [gA_row _ _ _ _ (by decide), gA_same]
  have e4 : gA (sA (sA M 53 b a) 54 b l) 54 b = l := gA_same ..
  refine ⟨⟨v0, v1, e3.symm, e4.symm, v4, v5, v7, v6⟩, ⟨r0, r1, r2, r3⟩, i0, ?_, i2, i3, i4, i5, i6⟩
  unfold isOn
  rw [e3, e4]
  exact q
theorem HR.w57 {u M : St} {b na ng nr : Nat} {v : Int32} (h : HR u M b na ng nr) : HR (sI u 4 v) (sA M 57 b v) b na ng nr := by
  obtain ⟨⟨v0, v1, v2, v3, v4, v5, v7, v6⟩, ⟨r0, r1, r2, r3⟩, i0, i1, i2, i3, i4, i5, i6⟩ := h
  exact ⟨⟨v0, v1, v2, v3, (gA_same M 57 b v).symm, v5, v7, v6⟩, ⟨r0, r1, r2, r3⟩, i0, i1, i2, i3, i4, i5, i6⟩
theorem HR.w58 {u M : St} {b na ng nr : Nat} {v : Int32} (h : HR u M b na ng nr) : HR (sI u 5 v) (sA M 58 b v) b na ng nr := by
  obtain ⟨⟨v0, v1, v2, v3, v4, v5, v7, v6⟩, ⟨r0, r1, r2, r3⟩, i0, i1, i2, i3, i4, i5, i6⟩ := h
  exact ⟨⟨v0, v1, v2, v3, v4, (gA_same M 58 b v).symm, v7, v6⟩, ⟨r0, r1, r2, r3⟩, i0, i1, i2, i3, i4, i5, i6⟩
theorem HR.w59 {u M : St} {b na ng nr : Nat} {v : Int32} (h : HR u M b na ng nr) : HR (sI u 0 v) (sA M 59 b v) b na ng nr := by
  obtain ⟨⟨v0, v1, v2, v3, v4, v5, v7, v6⟩, ⟨r0, r1, r2, r3⟩, i0, i1, i2, i3, i4, i5, i6⟩ := h
  exact ⟨⟨(gA_same M 59 b v).symm, v1, v2, v3, v4, v5, v7, v6⟩, ⟨r0, r1, r2, r3⟩, i0, i1, i2, i3, i4, i5, i6⟩
theorem HR.w55 {u M : St} {b na ng nr : Nat} {v : Int32} (h : HR u M b na ng nr) (h1 : -99 ≤ v.toInt) (h2 : v.toInt ≤ 99) : HR (sI u 1 v) (sA M 55 b v) b na ng nr := by
  obtain ⟨⟨v0, v1, v2, v3, v4, v5, v7, v6⟩, ⟨r0, r1, r2, r3⟩, i0, i1, i2, i3, i4, i5, i6⟩ := h
  exact ⟨⟨v0, (gA_same M 55 b v).symm, v2, v3, v4, v5, v7, v6⟩, ⟨r0, r1, r2, r3⟩, i0, i1, i2, i3, i4, by unfold isSpeed; rw [gA_same]; exact ⟨h1, h2⟩, i6⟩
theorem HR.w56 {u M : St} {b na ng nr g : Nat} (h : HR u M b na ng nr) (h1 : g < nr) : HR (sI u 7 (nI g)) (sA M 56 b (nI g)) b na ng nr := by
  obtain ⟨⟨v0, v1, v2, v3, v4, v5, v7, v6⟩, ⟨r0, r1, r2, r3⟩, i0, i1, i2, i3, i4, i5, i6⟩ := h
  exact ⟨⟨v0, v1, v2, v3, v4, v5, (gA_same M 56 b _).symm, v6⟩, ⟨r0, r1, r2, r3⟩, i0, i1, i2, i3, i4, i5, Or.inr ⟨g, h1, gA_same ..⟩⟩
theorem HR.w62 {u M : St} {b na ng nr g : Nat} {v : Int32} (h : HR u M b na ng nr) (hg : g < 6) : HR (sA u 11 g v) (sA M 62 (6 * b + g) v) b na ng nr := by
  obtain ⟨⟨v0, v1, v2, v3, v4, v5, v7, v6⟩, ⟨r0, r1, r2, r3⟩, i0, i1, i2, i3, i4, i5, i6⟩ := h
  refine ⟨⟨v0, v1, v2, v3, v4, v5, v7, v6⟩, ⟨r0, r1, fun j hj => ?_, r3⟩, i0, i1, i2, i3, i4, i5, i6⟩
  rw [gA_sA, gA_sA]
  by_cases e : j = g
  · subst e; rw [if_pos ⟨rfl, rfl⟩, if_pos ⟨rfl, rfl⟩]
  · rw [if_neg (fun q => e q.2), if_neg (fun q => e (by omega))]; exact r2 j hj
theorem HR.w61 {u M : St} {b na ng nr g : Nat} {v : Int32} (h : HR u M b na ng nr) (hg : g < ng) (hv : nn v 0 9999) : HR (sA u 10 g v) (sA M 61 (6 * b + g) v) b na ng nr := by
  obtain ⟨⟨v0, v1, v2, v3, v4, v5, v7, v6⟩, ⟨r0, r1, r2, r3⟩, i0, i1, i2, i3, ⟨t1, t2⟩, i5, i6⟩ := h
  refine ⟨⟨v0, v1, v2, v3, v4, v5, v7, v6⟩, ⟨r0, fun j hj => ?_, r2, r3⟩, i0, i1, i2, i3, ⟨fun j hj => ?_, fun j h1 hj => ?_⟩, i5, i6⟩
  · rw [gA_sA, gA_sA]
    by_cases e : j = g
    · subst e; rw [if_pos ⟨rfl, rfl⟩, if_pos ⟨rfl, rfl⟩]
    · rw [if_neg (fun q => e q.2), if_neg (fun q => e (by omega))]; exact r1 j hj
  · rw [gA_sA]
    by_cases e : j = g
    · subst e; rw [if_pos ⟨rfl, rfl⟩]; exact hv
    · rw [if_neg (fun q => e (by omega))]; exact t1 j hj
  · rw [gA_sA, if_neg (fun q => by omega)]; exact t2 j h1 hj
theorem HR.w63 {u M : St} {b na ng nr g k s : Nat} {d : Int32} (h : HR u M b na ng nr) (hg : g < nr) (hk : k ≤ s) (hs : s ≤ 99) (h33 : gA M 33 g = nI s) (hd : gA M 63 (4 * b + g) + d = nI k) : HR (sI (sA u 9 g (nI k)) 6 (gI u 6 + d)) (sA M 63 (4 * b + g) (nI k)) b na ng nr := by
  obtain ⟨⟨v0, v1, v2, v3, v4, v5, v7, v6⟩, ⟨r0, r1, r2, r3⟩, i0, i1, i2, ⟨g1, g2⟩, i4, i5, i6⟩ := h
  refine ⟨⟨v0, v1, v2, v3, v4, v5, v7, ?_⟩, ⟨fun j hj => ?_, r1, r2, r3⟩, i0, i1, i2, ⟨fun j hj => ?_, fun j h1 hj => ?_⟩, i4, i5, i6⟩
  · show gI u 6 + d = _
    have e : ∀ j, gA (sA M 63 (4 * b + g) (nI k)) 63 (4 * b + j) = if j = g then nI k else gA M 63 (4 * b + j) := fun j => by
      rw [gA_sA]
      by_cases c : j = g
      · rw [if_pos c, if_pos ⟨rfl, by omega⟩]
      · rw [if_neg c, if_neg (fun q => c (by omega))]
    have e0 := e 0
    rw [Nat.add_zero] at e0
    rw [e0, e 1, e 2, e 3, v6, ← hd]
    rcases (show g = 0 ∨ g = 1 ∨ g = 2 ∨ g = 3 by omega) with rfl | rfl | rfl | rfl
    · simp only [if_true, if_neg (show ¬ 1 = 0 by decide), if_neg (show ¬ 2 = 0 by decide), if_neg (show ¬ 3 = 0 by decide), Nat.add_zero]; ac_rfl
    · simp only [if_true, if_neg (show ¬ 0 = 1 by decide), if_neg (show ¬ 2 = 1 by decide), if_neg (show ¬ 3 = 1 by decide)]; ac_rfl
    · simp only [if_true, if_neg (show ¬ 0 = 2 by decide), if_neg (show ¬ 1 = 2 by decide), if_neg (show ¬ 3 = 2 by decide)]; ac_rfl
    · simp only [if_true, if_neg (show ¬ 0 = 3 by decide), if_neg (show ¬ 1 = 3 by decide), if_neg (show ¬ 2 = 3 by decide)]; ac_rfl
  · show gA (sA u 9 g (nI k)) 9 j = _
    rw [gA_sA, gA_sA]
    by_cases e : j = g
    · subst e; rw [if_pos ⟨rfl, rfl⟩, if_pos ⟨rfl, rfl⟩]
    · rw [if_neg (fun q => e q.2), if_neg (fun q => e (by omega))]; exact r0 j hj
  · rw [gA_sA]
    by_cases e : j = g
    · subst e; rw [if_pos ⟨rfl, rfl⟩]; exact ⟨k, s, hk, hs, rfl, h33⟩
    · rw [if_neg (fun q => e (by omega))]; exact g1 j hj
  · rw [gA_sA, if_neg (fun q => by omega)]; exact g2 j h1 hj
