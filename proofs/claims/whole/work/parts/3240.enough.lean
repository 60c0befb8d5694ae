/-! enough -/
theorem isOf_t (a k : Int32) : fX12_isOf a k = if (a >>> (k &&& 31)) &&& (1 : Int32) = (1 : Int32) then (1 : Int32) else 0 := bz_ite bz1 bz0
theorem many_eq {k : Nat} (hk : k < 64) : fX12_manyOf (nI k) = some (fJ6_bitCount_0f7a4 (nI k)) := by
  have : ∀ k, k < 64 → fX12_manyOf (nI k) = some (fJ6_bitCount_0f7a4 (nI k)) := by decide +kernel
  exact this k hk
theorem sum_L {T : Nat → St} {M : St} {na ng nr ns a : Nat} {bits : Int32} (hT : TR T M na ng nr ns) (h72 : gI M 72 = -1) (ha : a < na) : ∀ (d nf nf2 i : Nat) (t : Int32), i + d = ng → d < nf → d < nf2 → ok (fX11_sumOf_L1 T (nI a) bits nf t (nI i)) (fun y => fX12_enough_L2 (nI a) M bits nf2 t (nI i) = some y)
  | 0, nf + 1, nf2 + 1, i, t, h, _, _ => by
    have h6 := hT.1.1.2.1
    rw [fX11_sumOf_L1, fX12_enough_L2, hT.1.2.1.2.1, hT.1.2.2.2.1]
    have q : nI ng ≤ nI i := by rw [nI_leI (by omega) (by omega)]; omega
    exact ok_t q (ok_some (tp q rfl))
  | d + 1, nf + 1, nf2 + 1, i, t, h, g1, g2 => by
    have h6 := hT.1.1.2.1
    have q : ¬ nI ng ≤ nI i := by rw [nI_leI (by omega) (by omega)]; omega
    obtain ⟨e1, e2, h9⟩ := mood_pl hT h72 ha
    rw [fX11_sumOf_L1, fX12_enough_L2, hT.1.2.1.2.1, hT.1.2.2.2.1, isOf_t]
    refine ok_f q (ok_lt ?_)
    refine ok_if (fun c => ?_) (fun c => ?_)
    · refine ok_bindx e1 (ok_bindx (wo_c hT (by omega) h9) (ok_lt (ok_lt ?_)))
      rw [nI_1]
      refine ok_mono (sum_L hT h72 ha d nf nf2 (i + 1) _ (by omega) (by omega) (by omega)) (fun y hy => fn q (lt_c ?_))
      rw [if_pos c]
      refine fn i10 (bd_c (wo_m (by omega) e2) (lt_c (lt_c ?_)))
      exact hy
    · show ok (fX11_sumOf_L1 T (nI a) bits nf t (nI i + 1)) _
      rw [nI_1]
      refine ok_mono (sum_L hT h72 ha d nf nf2 (i + 1) t (by omega) (by omega) (by omega)) (fun y hy => fn q (lt_c ?_))
      rw [if_neg c]
      refine tp rfl (lt_c (lt_c ?_))
      rw [Int32.add_zero]
      exact hy
theorem sum_of {T : Nat → St} {mn M : St} {na ng nr ns a : Nat} {bits : Int32} (hT : TR T M na ng nr ns) (h72 : gI M 72 = -1) (ha : a < na) : ∃ y, fX11_sumOf mn T (nI a) bits = some y ∧ fX12_enough_L2 (nI a) M bits fuel 0 0 = some y := by
  have h6 := hT.1.1.2.1
  obtain ⟨y, e, e2⟩ := sum_L (bits := bits) hT h72 ha ng fuel fuel 0 0 (by omega) (by rw [fuel_eq]; omega) (by rw [fuel_eq]; omega)
  refine ⟨y, ?_, e2⟩
  unfold fX11_sumOf
  exact bd_c e rfl
theorem shl_of {ng : Nat} (h : ng ≤ 6) : (1 : Int32) <<< (nI ng &&& 31) = nI (2 ^ ng) := by
  rcases (show ng = 0 ∨ ng = 1 ∨ ng = 2 ∨ ng = 3 ∨ ng = 4 ∨ ng = 5 ∨ ng = 6 by omega) with rfl | rfl | rfl | rfl | rfl | rfl | rfl <;> decide
theorem enough_L {T : Nat → St} {mn M : St} {na ng nr ns a : Nat} {x : Int32} (hT : TR T M na ng nr ns) (h72 : gI M 72 = -1) (ha : a < na) (n : Nat) (hn : n ≤ 64) (hs : (1 : Int32) <<< (nI ng &&& 31) = nI n) : ∀ (d nf nf2 i : Nat) (bst : Int32), i + d = n → d < nf → d < nf2 → (bst = -2 ∨ ∃ j, j < 64 ∧ bst = nI j) → ok (fX11_enough_L1 mn T (nI a) x nf bst (nI i)) (fun y => fX12_enough_L1 (nI a) x M nf2 bst (nI i) = some y)
  | 0, nf + 1, nf2 + 1, i, bst, h, _, _, _ => by
    rw [fX11_enough_L1, fX12_enough_L1, hT.1.2.1.2.1, hT.1.2.2.2.1, hs]
    have q : nI n ≤ nI i := by rw [nI_leI (by omega) (by omega)]; omega
    exact ok_t q (ok_some (tp q rfl))
  | d + 1, nf + 1, nf2 + 1, i, bst, h, g1, g2, hb => by
    have q : ¬ nI n ≤ nI i := by rw [nI_leI (by omega) (by omega)]; omega
    obtain ⟨v, e1, e2⟩ := sum_of (mn := mn) (bits := nI i) hT h72 ha
    have ih1 := enough_L (mn := mn) (x := x) hT h72 ha n hn hs d nf nf2 (i + 1) (nI i) (by omega) (by omega) (by omega) (Or.inr ⟨i, by omega, rfl⟩)
    have ih2 := enough_L (mn := mn) (x := x) hT h72 ha n hn hs d nf nf2 (i + 1) bst (by omega) (by omega) (by omega) hb
    rw [fX11_enough_L1, fX12_enough_L1, hT.1.2.1.2.1, hT.1.2.2.2.1, hs, e2, many_eq (show i < 64 by omega), nI_1]
    refine ok_f q (ok_lt (ok_lt ?_))
    rcases hb with hb | ⟨j, hj, hb⟩
    · refine ok_t hb (ok_lt (ok_f i10 (ok_bindx e1 ?_)))
      refine ok_if (fun c => ok_lt (ok_mono ih2 (fun y hy => fn q (bd_c rfl (lt_c (tp c hy)))))) (fun c => ok_lt (ok_mono ih1 (fun y hy => fn q (bd_c rfl (lt_c (fn c (lt_c (tp (by rw [hb]; decide) hy))))))))
    · have nb : ¬ nI j < 0 := nI_pos (by omega)
      have n2 : ¬ nI j = -2 := fun w => by
        have := congrArg Int32.toInt w
        rw [nIi (show j < 2 ^ 31 by omega), show (-2 : Int32).toInt = -2 from rfl] at this
        omega
      rw [hb] at ih2 ⊢
      rw [many_eq hj]
      refine ok_f n2 (ok_if (fun c => ok_lt (ok_t rfl (ok_lt (ok_mono ih2 (fun y hy => ?_))))) (fun c => ok_lt (ok_f i10 (ok_bindx e1 ?_))))
      · refine fn q (bd_c rfl (lt_c ?_))
        by_cases w : v < x
        · exact tp w hy
        · exact fn w (lt_c (fn nb (bd_c rfl (bd_c rfl (tp c hy)))))
      · refine ok_if (fun w => ok_lt (ok_mono ih2 (fun y hy => fn q (bd_c rfl (lt_c (tp w hy)))))) (fun w => ok_lt (ok_mono ih1 (fun y hy => fn q (bd_c rfl (lt_c (fn w (lt_c (fn nb (bd_c rfl (bd_c rfl (fn c hy)))))))))))
theorem sum_0 {T : Nat → St} {M : St} {na ng nr ns : Nat} {a : Int32} (hT : TR T M na ng nr ns) : ∀ (d nf i : Nat), i + d = ng → d < nf → fX12_enough_L2 a M 0 nf 0 (nI i) = some 0
  | 0, nf + 1, i, h, _ => by
    have h6 := hT.1.1.2.1
    rw [fX12_enough_L2, hT.1.2.2.2.1]
    exact tp (by rw [nI_leI (by omega) (by omega)]; omega) rfl
  | d + 1, nf + 1, i, h, hf => by
    have h6 := hT.1.1.2.1
    rw [fX12_enough_L2, hT.1.2.2.2.1, isOf_t]
    have e : ¬ ((0 : Int32) >>> (nI i &&& 31)) &&& (1 : Int32) = (1 : Int32) := by
      have : ∀ i, i < 6 → ¬ ((0 : Int32) >>> (nI i &&& 31)) &&& (1 : Int32) = (1 : Int32) := by decide
      exact this i (by omega)
    rw [if_neg e]
    refine fn (by rw [nI_leI (by omega) (by omega)]; omega) (lt_c (tp rfl (lt_c (lt_c ?_))))
    rw [nI_1]
    exact sum_0 hT d nf (i + 1) (by omega) (by omega)
theorem enough_of {T : Nat → St} {mn M : St} {na ng nr ns : Nat} {x y : Int32} (hT : TR T M na ng nr ns) : ok (fX11_enough mn T x y) (fun r => ok (fX12_enough M x y) (fun r' => sR M r r')) := by
  have hp := plain_of (sI M 2 0)
  have hT2 : TR T (fX12_plainTried (sI M 2 0)) na ng nr ns := (hT.Q QF.th).Q hp.1
  have hq : QF M (fX12_plainTried (sI M 2 0)) := QF.th.tr hp.1
  have a6 := hT.1.1.1
  have h6 := hT.1.1.2.1
  have em : fX12_isAct (sI M 2 0) x = tst (nI na) x := by rw [isAct_t]; exact congrArg (fun w => tst w x) hT.1.2.2.1
  have ec : fX7_has 6 (T 1) x = tst (nI na) x := by rw [has_t, hT.1.2.1.1]
  unfold fX11_enough fX12_enough
  rw [ec]
  rcases tst_or (k := na) x (by omega) with q | ⟨a, ha, rfl, q⟩
  · exact ok_t q (ok_some (ok_lt (ok_t (em.trans q) (ok_some ⟨rfl, QF.th⟩))))
  · have pre : ¬ fX12_isAct (sI M 2 0) (nI a) = 0 := by rw [em, q]; exact i10
    refine ok_f (by rw [q]; exact i10) ?_
    by_cases y0 : y < (1 : Int32)
    · exact ok_t y0 (ok_some (ok_lt (ok_f pre (ok_t (isIn_0 (Or.inl y0)) (ok_some ⟨rfl, QF.th⟩)))))
    · by_cases y1 : (99 : Int32) < y
      · exact ok_f y0 (ok_f (fun w => (le_nlt _ _).mp w y1) (ok_some (ok_lt (ok_f pre (ok_t (isIn_0 (Or.inr y1)) (ok_some ⟨rfl, QF.th⟩))))))
      · have hs := shl_of h6
        have n1 : 1 ≤ 2 ^ ng ∧ 2 ^ ng ≤ 64 := by
          rcases (show ng = 0 ∨ ng = 1 ∨ ng = 2 ∨ ng = 3 ∨ ng = 4 ∨ ng = 5 ∨ ng = 6 by omega) with rfl | rfl | rfl | rfl | rfl | rfl | rfl <;> decide
        generalize 2 ^ ng = n at hs n1
        refine ok_f y0 (ok_t ((le_nlt _ _).mpr y1) (ok_bind (ok_mono (enough_L (mn := mn) (x := y) hT2 hp.2.2.2.2.2.2.2.2.2.2.1 ha n n1.2 hs (n - 1) fuel 999 1 (-2) (by omega) (by rw [fuel_eq]; omega) (by omega) (Or.inl rfl)) (fun v hv => ok_some ?_))))
        refine ok_lt (ok_f pre (ok_f (by rw [isIn_1 y0 y1]; exact i10) (ok_lt (ok_bindx (a := v) ?_ (ok_some ⟨rfl, hq⟩)))))
        show fX12_enough_L1 (nI a) y (fX12_plainTried (sI M 2 0)) (999 + 1) (-2) (nI 0) = some v
        have e0 : fX12_enough_L2 (nI a) (fX12_plainTried (sI M 2 0)) (nI 0) fuel 0 0 = some 0 := sum_0 hT2 ng fuel 0 (by omega) (by rw [fuel_eq]; omega)
        rw [fX12_enough_L1, hT2.1.2.2.2.1, hs, e0, nI_1]
        refine fn (by rw [nI_leI (by omega) (by omega)]; omega) (bd_c rfl (lt_c (tp ?_ hv)))
        rw [i_lt] at y0 ⊢
        rw [show (1 : Int32).toInt = 1 from rfl] at y0
        rw [show (0 : Int32).toInt = 0 from rfl]
        omega
