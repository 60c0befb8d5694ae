/-! enough -/
theorem isOf_t (a k : Int32) : fX12_isOf a k = if (a >>> (k &&& 31)) &&& (1 : Int32) = (1 : Int32) then (1 : Int32) else 0 := bz_ite bz1 bz0
theorem many_eq {k : Nat} (hk : k < 64) : fX12_manyOf (nI k) = some (fJ6_bitCount_0f7a4 (nI k)) := by
  have : ∀ k, k < 64 → fX12_manyOf (nI k) = some (fJ6_bitCount_0f7a4 (nI k)) := by decide +kernel
  exact this k hk
theorem sum_L {T : Nat → St} {M : St} {na ng nr ns a : Nat} {bits : Int32} (hT : TR T M na ng nr ns) (h72 : gI M 72 = -1) (ha : a < na) : ∀ (d nf nf2 i : Nat) (t : Int32), i + d = ng → d < nf → d < nf2 → ok (fX11_sumOf_L1 T (nI a) bits nf t (nI i)) (fun y => fX12_enough_L2 (nI a) M bits nf2 t (nI i) = some y)
  | 0, nf + 1, nf2 + 1, i, t, h, _, _ => by
    have h6 := hT.1.1.2.1
    rw [fX11_sumOf_L1, fX12_enough_L2, hT.1.2.1.2.1, hT.1.2.2.2.1]
    have q : nI ng ≤ nI i := by rw [nI_leI (by omega) (by omega)]; omega
    exact ok_t q (ok_some (tp q rfl))
  | d + 1, nf + 1, nf2 + 1, i, t, h, g1, g2 => by
    have h6 := hT.1.1.2.1
    have q : ¬ nI ng ≤ nI i := by rw [nI_leI (by omega) (by omega)]; omega
    obtain ⟨e1, e2, h9⟩ := mood_pl hT h72 ha
    rw [fX11_sumOf_L1, fX12_enough_L2, hT.1.2.1.2.1, hT.1.2.2.2.1, isOf_t]
    refine ok_f q (ok_lt ?_)
    refine ok_if (fun c => ?_) (fun c => ?_)
    · refine ok_bindx e1 (ok_bindx (wo_c hT (by omega) h9) (ok_lt (ok_lt ?_)))
      rw [nI_1]
      refine ok_mono (sum_L hT h72 ha d nf nf2 (i + 1) _ (by omega) (by omega) (by omega)) (fun y hy => fn q (lt_c ?_))
      rw [if_pos c]
      refine fn i10 (bd_c (wo_m (by omega) e2) (lt_c (lt_c ?_)))
      exact hy
    · show ok (fX11_sumOf_L1 T (nI a) bits nf t (nI i + 1)) _
      rw [nI_1]
      refine ok_mono (sum_L hT h72 ha d nf nf2 (i + 1) t (by omega) (by omega) (by omega)) (fun y hy => fn q (lt_c ?_))
      rw [if_neg c]
      refine tp rfl (lt_c (lt_c ?_))
      rw [Int32.add_zero]
      exact hy
theorem sum_of {T : Nat → St} {mn M : St} {na ng nr ns a : Nat} {bits : Int32} (hT : TR T M na ng nr ns) (h72 : gI M 72 = -1) (ha : a < na) : ∃ y, fX11_sumOf mn T (nI a) bits = some y ∧ fX12_enough_L2 (nI a) M bits fuel 0 0 = some y := by
  have h6 := hT.1.1.2.1
  obtain ⟨y, e, e2⟩ := sum_L (bits := bits) hT h72 ha ng fuel fuel 0 0 (by omega) (by rw [fuel_eq]; omega) (by rw [fuel_eq]; omega)
  refine ⟨y, ?_, e2⟩
  unfold fX11_sumOf
  exact bd_c e rfl
theorem shl_of {ng : Nat} (h : ng ≤ 6) : (1 : Int32) <<< (nI ng &&& 31) = nI (2 ^ ng) := by
  rcases (show ng = 0 ∨ ng = 1 ∨ ng = 2 ∨ ng = 3 ∨ ng = 4 ∨ ng = 5 ∨ ng = 6 by omega) with rfl | rfl | rfl | rfl | rfl | rfl | rfl <;> decide
theorem enough_L {T : Nat → St} {mn M : St} {na ng nr ns a : Nat} {x : Int32} (hT : TR T M na ng nr ns) (h72 : gI M 72 = -1) (ha : a < na) (n : Nat) (hn : n ≤ 64) (hs : (1 : Int32) <<< (nI ng &&& 31) = nI n) : ∀ (d nf nf2 i : Nat) (bst : Int32), i + d = n → d < nf → d < nf2 → (bst = -2 ∨ ∃ j, j < 64 ∧ bst = nI j) → ok (fX11_enough_L1 mn T (nI a) x nf bst (nI i)) (fun y => fX12_enough_L1 (nI a) x M nf2 bst (nI i) = some y)
  | 0, nf + 1, nf2 + 1, i, bst, h, _, _, _ => by
    rw [fX11_enough_L1, fX12_enough_L1, hT.1.2.1.2.1, hT.1.2.2.2.1, hs]
    have q : nI n ≤ nI i := by rw [nI_leI (by omega) (by omega)]; omega
    exact ok_t q (ok_some (tp q rfl))
  | d + 1, nf + 1, nf2 + 1, i, bst, h, g1, g2, hb => by
    have q : ¬ nI n ≤ nI i := by rw [nI_leI (by omega) (by omega)]; omega
    obtain ⟨v, e1, e2⟩ := sum_of (mn := mn) (bits := nI i) hT h72 ha
    have ih1 := enough_L (mn := mn) (x := x) hT h72 ha n hn hs d nf nf2 (i + 1) (nI i) (by omega) (by omega) (by omega) (Or.inr ⟨i, by omega, rfl⟩)
    have ih2 := enough_L (mn := mn) (x := x) hT h72 ha n hn hs d nf nf2 (i + 1) bst (by omega) (by omega) (by omega) hb
    rw [fX11_enough_L1, fX12_enough_L1, hT.1.2.1.2.1, hT.1.2.2.2.1, hs, e2, many_eq (show i < 64 by omega), nI_1]
    refine ok_f q (ok_lt (ok_lt ?_))
    rcases hb with hb | ⟨j, hj, hb⟩
    · refine ok_t hb (ok_lt (ok_f i10 (ok_bindx e1 ?_)))
      refine ok_if (fun c => ok_lt (ok_mono ih2 (fun y hy => fn q (bd_c rfl (lt_c (tp c hy)))))) (fun c => ok_lt (ok_mono ih1 (fun y hy => fn q (bd_c rfl (lt_c (fn c (lt_c (tp (by rw [hb]; decide) hy))))))))
    · have nb : ¬ nI j < 0 := nI_pos (by omega)
      have n2 : ¬ nI j = -2 := fun w => by
        have := congrArg Int32.toInt w
        rw [nIi (show j < 2 ^ 31 by omega), show (-2 : Int32).toInt = -2 from rfl] at this
        omega
      rw [hb] at ih2 ⊢
      rw [many_eq hj]
      refine ok_f n2 (ok_if (fun c => ok_lt (ok_t rfl (ok_lt (ok_mono ih2 (fun y hy => ?_))))) (fun c => ok_lt (ok_f i10 (ok_bindx e1 ?_))))
      · refine fn q (bd_c rfl (lt_c ?_))
        by_cases w : v < x
        · exact tp w hy
        · exact fn w (lt_c (fn nb (bd_c rfl (bd_c rfl (tp c hy)))))
      · refine ok_if (fun w => ok_lt (ok_mono ih2 (fun y hy => fn q (bd_c rfl (lt_c (tp w hy)))))) (fun w => ok_lt (ok_mono ih1 (fun y hy => fn q (bd_c rfl (lt_c (fn w (lt_c (fn nb (bd_c rfl (bd_c rfl (fn c hy)))))))))))
