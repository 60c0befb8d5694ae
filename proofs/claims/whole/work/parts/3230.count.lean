/-! dearest, count -/
theorem dearest_L {T : Nat → St} {M : St} {na ng nr ns g : Nat} (hT : TR T M na ng nr ns) (hg : g < ng) : ∀ (d nf nf2 i : Nat) (bst lst : Int32), i + d = na → d < nf → d < nf2 → ((bst = -2) ∨ ∃ j, j < na ∧ bst = nI j ∧ lst = fX12_less (gA M 25 j) (gA M 28 g)) → ok (fX11_dearest_L1 T (nI g) nf bst lst (nI i)) (fun y => fX12_dearest_L1 (nI g) M nf2 bst (nI i) = some y)
  | 0, nf + 1, nf2 + 1, i, bst, lst, h, _, _, hb => by
    have h6 := hT.1.1.1
    rw [fX11_dearest_L1, fX12_dearest_L1, hT.1.2.1.1, hT.1.2.2.1]
    have q : nI na ≤ nI i := by rw [nI_leI (by omega) (by omega)]; omega
    exact ok_t q (ok_some (tp q rfl))
  | d + 1, nf + 1, nf2 + 1, i, bst, lst, h, g1, g2, hb => by
    have h6 := hT.1.1.1
    have g6 := hT.1.1.2.1
    have q : ¬ nI na ≤ nI i := by rw [nI_leI (by omega) (by omega)]; omega
    obtain ⟨_, e2, _, m9, _⟩ := hT.2.1 i (by omega)
    obtain ⟨_, t2, _, t9, _⟩ := hT.2.2.1 g hg
    have ih1 := dearest_L hT hg d nf nf2 (i + 1) (nI i) (fX12_less (gA M 25 i) (gA M 28 g)) (by omega) (by omega) (by omega) (Or.inr ⟨i, by omega, rfl, rfl⟩)
    have ih2 := dearest_L hT hg d nf nf2 (i + 1) bst lst (by omega) (by omega) (by omega) hb
    have ci : ¬ (nI i < 0 ∨ 12 ≤ i) := kx (by omega) (by decide)
    have cg : ¬ (nI g < 0 ∨ 12 ≤ g) := kx (by omega) (by decide)
    rw [fX11_dearest_L1, hT.1.2.1.1, mood_eq hT.1.2.1.1 (by omega) h6, taste_eq hT.1.2.1.2.1 hg g6, e2, t2]
    refine ok_f q (ok_bind (ok_some (ok_bind (ok_some (ok_lt (ok_lt (ok_lt ?_)))))))
    rw [less_eq m9 t9, nI_1]
    rw [fX12_dearest_L1, hT.1.2.2.1, nI_1, cl (show i < 2 ^ 31 by omega), cl (show g < 2 ^ 31 by omega)]
    rcases hb with hb | ⟨j, hj, hb, hl⟩
    · refine ok_t hb (ok_lt (ok_mono ih1 (fun y hy => fn q (lt_c (lt_c (tp (by rw [hb]; decide) hy))))))
    · have nb : ¬ nI j < 0 := nI_pos (by omega)
      have cj : ¬ (nI j < 0 ∨ 12 ≤ j) := kx (by omega) (by decide)
      rw [hb] at ih2 ⊢
      rw [cl (show j < 2 ^ 31 by omega), ← hl]
      refine ok_f (fun w => by
        have := congrArg Int32.toInt w
        rw [nIi (show j < 2 ^ 31 by omega), show (-2 : Int32).toInt = -2 from rfl] at this
        omega) ?_
      refine ok_if (fun c => ok_lt (ok_mono ih2 (fun y hy => fn q (lt_c (lt_c (fn nb (fn ci (fn cg (fn cj (fn cg (tp c hy))))))))))) (fun c => ok_lt (ok_mono ih1 (fun y hy => fn q (lt_c (lt_c (fn nb (fn ci (fn cg (fn cj (fn cg (fn c hy)))))))))))
theorem dearest_of {T : Nat → St} {mn M : St} {na ng nr ns : Nat} {x : Int32} (hT : TR T M na ng nr ns) : ok (fX11_dearest mn T x) (fun r => ok (fX12_dearest M x) (fun r' => sR M r r')) := by
  have h6 := hT.1.1.1
  have g6 := hT.1.1.2.1
  have eg : fX12_isGuest (sI M 2 0) x = tst (nI ng) x := by rw [isGuest_t]; exact congrArg (fun w => tst w x) hT.1.2.2.2.1
  have ec : fX7_has 6 (T 2) x = tst (nI ng) x := by rw [has_t, hT.1.2.1.2.1]
  unfold fX11_dearest fX12_dearest
  rw [ec]
  rcases tst_or (k := ng) x (by omega) with q | ⟨g, hg, rfl, q⟩
  · exact ok_t q (ok_some (ok_lt (ok_t (eg.trans q) (ok_some ⟨rfl, QF.th⟩))))
  · refine ok_f (by rw [q]; exact i10) (ok_bind (ok_mono (dearest_L (hT.Q (QF.th (v := 0))) hg na fuel fuel 0 (-2) 0 (by omega) (by rw [fuel_eq]; omega) (by rw [fuel_eq]; omega) (Or.inl rfl)) (fun y hy => ok_some ?_)))
    exact ok_lt (ok_f (by rw [eg, q]; exact i10) (ok_bindx hy (ok_some ⟨rfl, QF.th⟩)))
/-- a sum of a row -/
def rsum (f : Nat → Int32) : Nat → Int32
  | 0 => 0
  | n + 1 => rsum f n + f n
theorem rsum_z {f : Nat → Int32} {a : Nat} : ∀ d, (∀ j, a ≤ j → j < a + d → f j = 0) → rsum f (a + d) = rsum f a
  | 0, _ => rfl
  | d + 1, h => by
    show rsum f (a + d) + f (a + d) = _
    rw [rsum_z d (fun j h1 h2 => h j h1 (by omega)), h (a + d) (by omega) (by omega), Int32.add_zero]
theorem sacks_L {T : Nat → St} {M : St} {na ng nr ns : Nat} (hT : TR T M na ng nr ns) : ∀ (d nf i : Nat) (t : Int32), i + d = nr → d < nf → t = rsum (gA M 33) i → fX8_allSacks_L1 T nf t (nI i) = some (rsum (gA M 33) nr)
  | 0, nf + 1, i, t, h, _, ht => by
    have h4 := hT.1.1.2.2.1
    rw [fX8_allSacks_L1, hT.1.2.1.2.2.1]
    refine tp (by rw [nI_leI (by omega) (by omega)]; omega) ?_
    rw [ht, show i = nr by omega]
  | d + 1, nf + 1, i, t, h, hf, ht => by
    have h4 := hT.1.1.2.2.1
    rw [fX8_allSacks_L1, hT.1.2.1.2.2.1, sacks_eq hT.1.2.1.2.2.1 (by omega) h4, (hT.2.2.2.1 i (by omega)).2.2.2.1]
    refine fn (by rw [nI_leI (by omega) (by omega)]; omega) (bd_c rfl (lt_c (lt_c ?_)))
    rw [nI_1]
    exact sacks_L hT d nf (i + 1) _ (by omega) (by omega) (by rw [ht]; rfl)
theorem left_L {T : Nat → St} {M : St} {na ng nr ns : Nat} (hT : TR T M na ng nr ns) : ∀ (d nf i : Nat) (t : Int32), i + d = nr → d < nf → t = rsum (gA M 33) i - rsum (gA M 63) i → fX12_count_L1 M nf t (nI i) = some (rsum (gA M 33) nr - rsum (gA M 63) nr)
  | 0, nf + 1, i, t, h, _, ht => by
    have h4 := hT.1.1.2.2.1
    rw [fX12_count_L1, hT.1.2.2.2.2.1]
    refine tp (by rw [nI_leI (by omega) (by omega)]; omega) ?_
    rw [ht, show i = nr by omega]
  | d + 1, nf + 1, i, t, h, hf, ht => by
    have h4 := hT.1.1.2.2.1
    have lf : fX12_leftOf M 0 (nI i) = some (gA M 33 i - gA M 63 i) := by
      have := leftOf_eq (M := M) (b := 0) (g := i) (by decide) (by omega)
      rw [Nat.mul_zero, Nat.zero_add] at this
      exact this
    rw [fX12_count_L1, hT.1.2.2.2.2.1]
    refine fn (by rw [nI_leI (by omega) (by omega)]; omega) (bd_c lf (lt_c (lt_c ?_)))
    rw [nI_1]
    refine left_L hT d nf (i + 1) _ (by omega) (by omega) ?_
    rw [ht]
    show _ = (rsum (gA M 33) i + gA M 33 i) - (rsum (gA M 63) i + gA M 63 i)
    simp only [Int32.sub_eq_add_neg, Int32.neg_add]
    ac_rfl
theorem gAll_s {u M : St} {na ng nr : Nat} (h : HR u M 0 na ng nr) : gAll M 0 = rsum (gA M 63) nr := by
  have h4 : nr ≤ 4 := h.2.2.1.2.2
  have hz := h.2.2.2.2.2.1.2
  have e : rsum (gA M 63) 4 = rsum (gA M 63) nr := by
    have := rsum_z (f := gA M 63) (a := nr) (4 - nr) (fun j h1 h2 => by
      have := hz j h1 (by omega)
      rw [Nat.mul_zero, Nat.zero_add] at this
      exact this)
    rw [show nr + (4 - nr) = 4 by omega] at this
    exact this
  rw [← e]
  show ((gA M 63 0 + gA M 63 1) + gA M 63 2) + gA M 63 3 = (((0 + gA M 63 0) + gA M 63 1) + gA M 63 2) + gA M 63 3
  rw [Int32.zero_add]
theorem tired_c {u M : St} {na ng nr : Nat} (hH : HR u M 0 na ng nr) : ∀ (d nf i : Nat) (t : Int32), i + d = 6 → d < nf → t = rsum (gA M 61) i → fX1_tiredInAll_L1 u nf t (nI i) = some (rsum (gA M 61) 6)
  | 0, nf + 1, i, t, h, _, ht => by
    rw [fX1_tiredInAll_L1]
    refine tp (show nI 6 ≤ nI i by rw [nI_leI (by omega) (by omega)]; omega) ?_
    rw [ht, show i = 6 by omega]
  | d + 1, nf + 1, i, t, h, hf, ht => by
    have e := hH.2.1.2.1 i (by omega)
    rw [Nat.mul_zero, Nat.zero_add] at e
    rw [fX1_tiredInAll_L1, cl (show i < 2 ^ 31 by omega)]
    refine fn (show ¬ nI 6 ≤ nI i by rw [nI_leI (by omega) (by omega)]; omega) (fn (kx (by omega) (by decide)) (lt_c (lt_c ?_)))
    rw [nI_1, e]
    exact tired_c hH d nf (i + 1) _ (by omega) (by omega) (by rw [ht]; rfl)
theorem tired_m {T : Nat → St} {M : St} {na ng nr ns : Nat} (hT : TR T M na ng nr ns) : ∀ (d nf i : Nat) (t : Int32), i + d = ng → d < nf → t = rsum (gA M 61) i → fX12_tiredAll_L1 M 0 nf t (nI i) = some (rsum (gA M 61) ng)
  | 0, nf + 1, i, t, h, _, ht => by
    have h6 := hT.1.1.2.1
    rw [fX12_tiredAll_L1, hT.1.2.2.2.1]
    refine tp (by rw [nI_leI (by omega) (by omega)]; omega) ?_
    rw [ht, show i = ng by omega]
  | d + 1, nf + 1, i, t, h, hf, ht => by
    have h6 := hT.1.1.2.1
    rw [fX12_tiredAll_L1, hT.1.2.2.2.1, show (0 : Int32) = nI 0 from rfl, i6m, Nat.mul_zero, Nat.zero_add, cl (show i < 2 ^ 31 by omega)]
    refine fn (by rw [nI_leI (by omega) (by omega)]; omega) (fn (kx (by omega) (by decide)) (lt_c (lt_c ?_)))
    rw [nI_1]
    exact tired_m hT d nf (i + 1) _ (by omega) (by omega) (by rw [ht]; rfl)
theorem count_of {T : Nat → St} {mn now sp nt M : St} {na ng nr ns : Nat} {x : Int32} (hT : TR T M na ng nr ns) (hH : HR now M 0 na ng nr) (hN : NR nt M) (hS : gI sp 3 = gI M 80) : ok (fX11_count mn now sp nt T x) (fun r => ok (fX12_count M x) (fun r' => sR M r r')) := by
  have hT1 : TR T (sI M 2 0) na ng nr ns := hT.Q QF.th
  have hH1 : HR now (sI M 2 0) 0 na ng nr := hH.Q QF.th
  obtain ⟨k, hk, n5, n75, n6, nk, _⟩ := hN
  obtain ⟨⟨⟨m1, m2, m3, m4⟩, ⟨a1, a2, a3, a4⟩, ⟨b1, b2, b3, b4⟩⟩, _, _, _, _, ⟨_, _, t9, _⟩, _⟩ := hT
  obtain ⟨v0, v1, v2, v3, v4, v5, v7, v6⟩ := hH.1
  rcases in_or x (N := 15) (by decide) with hx | ⟨hx0, hx⟩ | ⟨hx0, hx1, j, hj, rfl⟩
  · have n (j : Nat) (hj : j < 20) : ¬ x = nI j := fun q => by rw [q] at hx; exact nI_pos (by omega) hx
    unfold fX11_count fX11_countOfHall fX12_count
    exact ok_f (n 0 (by omega)) (ok_f (n 1 (by omega)) (ok_f (n 2 (by omega)) (ok_f (n 3 (by omega)) (ok_f (n 4 (by omega)) (ok_f (n 13 (by omega)) (ok_f (n 14 (by omega)) (ok_f (n 15 (by omega)) (ok_bind (ok_f (n 5 (by omega)) (ok_f (n 6 (by omega)) (ok_f (n 7 (by omega)) (ok_f (n 8 (by omega)) (ok_f (n 9 (by omega)) (ok_f (n 10 (by omega)) (ok_f (n 11 (by omega)) (ok_f (n 12 (by omega)) (ok_some (ok_some (ok_lt (ok_f (n 0 (by omega)) (ok_f (n 1 (by omega)) (ok_f (n 2 (by omega)) (ok_f (n 3 (by omega)) (ok_f (n 4 (by omega)) (ok_f (n 5 (by omega)) (ok_f (n 6 (by omega)) (ok_f (n 7 (by omega)) (ok_f (n 8 (by omega)) (ok_f (n 9 (by omega)) (ok_f (n 10 (by omega)) (ok_f (n 11 (by omega)) (ok_f (n 12 (by omega)) (ok_f (n 13 (by omega)) (ok_f (n 14 (by omega)) (ok_f (n 15 (by omega)) (ok_some ⟨rfl, QF.th⟩))))))))))))))))))))))))))))))))))))
  · have n (j : Nat) (hj : j ≤ 15) : ¬ x = nI j := fun q => by rw [q, nI_ltI (by omega) (by omega)] at hx; omega
    unfold fX11_count fX11_countOfHall fX12_count
    exact ok_f (n 0 (by omega)) (ok_f (n 1 (by omega)) (ok_f (n 2 (by omega)) (ok_f (n 3 (by omega)) (ok_f (n 4 (by omega)) (ok_f (n 13 (by omega)) (ok_f (n 14 (by omega)) (ok_f (n 15 (by omega)) (ok_bind (ok_f (n 5 (by omega)) (ok_f (n 6 (by omega)) (ok_f (n 7 (by omega)) (ok_f (n 8 (by omega)) (ok_f (n 9 (by omega)) (ok_f (n 10 (by omega)) (ok_f (n 11 (by omega)) (ok_f (n 12 (by omega)) (ok_some (ok_some (ok_lt (ok_f (n 0 (by omega)) (ok_f (n 1 (by omega)) (ok_f (n 2 (by omega)) (ok_f (n 3 (by omega)) (ok_f (n 4 (by omega)) (ok_f (n 5 (by omega)) (ok_f (n 6 (by omega)) (ok_f (n 7 (by omega)) (ok_f (n 8 (by omega)) (ok_f (n 9 (by omega)) (ok_f (n 10 (by omega)) (ok_f (n 11 (by omega)) (ok_f (n 12 (by omega)) (ok_f (n 13 (by omega)) (ok_f (n 14 (by omega)) (ok_f (n 15 (by omega)) (ok_some ⟨rfl, QF.th⟩))))))))))))))))))))))))))))))))))))
  · rcases (show j = 0 ∨ j = 1 ∨ j = 2 ∨ j = 3 ∨ j = 4 ∨ j = 5 ∨ j = 6 ∨ j = 7 ∨ j = 8 ∨ j = 9 ∨ j = 10 ∨ j = 11 ∨ j = 12 ∨ j = 13 ∨ j = 14 ∨ j = 15 by omega) with rfl | rfl | rfl | rfl | rfl | rfl | rfl | rfl | rfl | rfl | rfl | rfl | rfl | rfl | rfl | rfl
    · exact ok_eq (a := gI (T 1) 5) rfl (ok_eq (a := (gI M 12, sI M 2 0)) rfl ⟨a1.trans b1.symm, QF.th⟩)
    · exact ok_eq (a := gI (T 2) 5) rfl (ok_eq (a := (gI M 13, sI M 2 0)) rfl ⟨a2.trans b2.symm, QF.th⟩)
    · exact ok_eq (a := gI (T 3) 5) rfl (ok_eq (a := (gI M 14, sI M 2 0)) rfl ⟨a3.trans b3.symm, QF.th⟩)
    · exact ok_eq (a := gI (T 4) 5) rfl (ok_eq (a := (gI M 15, sI M 2 0)) rfl ⟨a4.trans b4.symm, QF.th⟩)
    · exact ok_eq (a := gI (T 0) 9) rfl (ok_eq (a := (gI M 16, sI M 2 0)) rfl ⟨t9, QF.th⟩)
    · exact ok_eq (a := gI now 0) rfl (ok_eq (a := (gA M 59 0, sI M 2 0)) rfl ⟨v0, QF.th⟩)
    · exact ok_eq (a := gI now 1) rfl (ok_eq (a := (gA M 55 0, sI M 2 0)) rfl ⟨v1, QF.th⟩)
    · show ok (((fX8_allSacks T).bind fun r4 => some (r4 - gI now 6)).bind fun r9 => some r9) (fun r => ok ((fX12_count_L1 (sI M 2 0) fuel 0 0).bind fun y16 => some (y16, sI M 2 0)) (fun r' => sR M r r'))
      unfold fX8_allSacks
      refine ok_bind (ok_bind (ok_bind (ok_eq (sacks_L hT1 nr fuel 0 0 (by omega) (by rw [fuel_eq]; omega) rfl) (ok_some (ok_some (ok_some ?_))))))
      refine ok_bindx (left_L hT1 nr fuel 0 0 (by omega) (by rw [fuel_eq]; omega) (show (0 : Int32) = 0 - 0 by decide)) (ok_some ⟨?_, QF.th⟩)
      show _ - gI now 6 = _
      rw [gAll_HR hH1, gAll_s hH1]
    · refine ok_eq (a := gI now 6) rfl ?_
      show ok ((fX12_groundAll (sI M 2 0) 0).bind fun r19 => some (r19, sI M 2 0)) _
      exact ok_bindx (groundAll_eq (b := 0) (by decide)) (ok_some ⟨gAll_HR hH1, QF.th⟩)
    · exact ok_eq (a := gI now 4) rfl (ok_eq (a := (gA M 57 0, sI M 2 0)) rfl ⟨v4, QF.th⟩)
    · exact ok_eq (a := gI now 5) rfl (ok_eq (a := (gA M 58 0, sI M 2 0)) rfl ⟨v5, QF.th⟩)
    · show ok (((fX1_tiredInAll now).bind fun r9 => some r9).bind fun r9 => some r9) (fun r => ok ((fX12_tiredAll (sI M 2 0) 0).bind fun r23 => some (r23, sI M 2 0)) (fun r' => sR M r r'))
      unfold fX1_tiredInAll fX12_tiredAll
      refine ok_bind (ok_bind (ok_bind (ok_eq (tired_c hH1 6 fuel 0 0 (by omega) (by rw [fuel_eq]; omega) rfl) (ok_some (ok_some (ok_some ?_))))))
      refine ok_bind (ok_bindx (tired_m hT1 ng fuel 0 0 (by omega) (by rw [fuel_eq]; omega) rfl) (ok_some (ok_some ⟨?_, QF.th⟩)))
      have hz := hH1.2.2.2.2.2.2.1.2
      have := rsum_z (f := gA (sI M 2 0) 61) (a := ng) (6 - ng) (fun j h1 h2 => by
        have := hz j h1 (by omega)
        rw [Nat.mul_zero, Nat.zero_add] at this
        exact this)
      rw [show ng + (6 - ng) = 6 by omega] at this
      exact this
    · refine ok_eq (a := if gI now 2 = (-1 : Int32) then (-2 : Int32) else gI now 2) rfl (ok_eq (a := (if 0 ≤ gA M 53 0 then gA M 53 0 else (-2 : Int32), sI M 2 0)) rfl ⟨?_, QF.th⟩)
      show (if gI now 2 = (-1 : Int32) then (-2 : Int32) else gI now 2) = if 0 ≤ gA M 53 0 then gA M 53 0 else (-2 : Int32)
      rw [v2]
      rcases hH.2.2.2.1 with ⟨q, _⟩ | ⟨i, hi, q, _⟩
      · rw [q]; rfl
      · rw [q, if_neg (nI_nn (by omega)), if_pos (nI_pos' (by omega))]
    · exact ok_eq (a := gI nt 5) rfl (ok_eq (a := (gI M 75, sI M 2 0)) rfl ⟨n5.trans n75.symm, QF.th⟩)
    · refine ok_eq (a := if gI nt 6 = (-1 : Int32) then gI nt 5 else gI nt 6) rfl (ok_eq (a := (if 0 ≤ gI M 76 then gI M 76 else gI M 75, sI M 2 0)) rfl ⟨?_, QF.th⟩)
      show (if gI nt 6 = (-1 : Int32) then gI nt 5 else gI nt 6) = if 0 ≤ gI M 76 then gI M 76 else gI M 75
      rw [n5, n6, n75]
      rcases nk with q | ⟨i, hi, q⟩
      · rw [q]; rfl
      · rw [q, if_neg (nI_nn (by omega)), if_pos (nI_pos' (by omega))]
    · exact ok_eq (a := gI sp 3) rfl (ok_eq (a := (gI M 80, sI M 2 0)) rfl ⟨hS, QF.th⟩)
