/-! steps that can be undone -/
def vw (M : St) (i : Nat) : Int32 := if i = 0 then gA M 53 0 else if i = 1 then gA M 54 0 else if i = 2 then gA M 55 0 else gA M 60 (i - 3)
def sn (M : St) (j i : Nat) : Int32 := gA M 81 (9 * j + i)
theorem vw0 (M : St) : vw M 0 = gA M 53 0 := rfl
theorem vw1 (M : St) : vw M 1 = gA M 54 0 := rfl
theorem vw2 (M : St) : vw M 2 = gA M 55 0 := rfl
theorem vw3 (M : St) (g : Nat) : vw M (3 + g) = gA M 60 g := by
  unfold vw
  rw [if_neg (by omega), if_neg (by omega), if_neg (by omega), show 3 + g - 3 = g by omega]
/-- v is what stands behind undoing a step of this kind from w -/
def stp (ng : Nat) (k f s : Int32) (w v : Nat → Int32) : Prop :=
  (k = 0 ∧ v 0 = -1 ∧ v 1 = 0 ∧ ∀ i, 2 ≤ i → i < 9 → v i = w i) ∨
  (k = 1 ∧ (∀ i, i < 3 → v i = w i) ∧ ∃ a c s1 s2 : Nat, a < ng ∧ c < ng ∧ s1 < ng ∧ s2 < ng ∧ s1 ≠ s2 ∧ f = nI a ∧ s = nI c ∧ w (3 + s1) = nI a ∧ w (3 + s2) = nI c ∧ v (3 + s1) = nI c ∧ v (3 + s2) = nI a ∧ ∀ g, g < 6 → g ≠ s1 → g ≠ s2 → v (3 + g) = w (3 + g)) ∨
  (k = 2 ∧ v 2 = f ∧ -99 ≤ f.toInt ∧ f.toInt ≤ 99 ∧ ∀ i, i < 9 → i ≠ 2 → v i = w i)
theorem stp.cong {ng : Nat} {k f s : Int32} {w v w' v' : Nat → Int32} (h : stp ng k f s w v) (hw : ∀ i, i < 9 → w' i = w i) (hv : ∀ i, i < 9 → v' i = v i) (hg : ng ≤ 6) : stp ng k f s w' v' := by
  rcases h with ⟨a, b, c, d⟩ | ⟨a, b, x, y, s1, s2, c1, c2, c3, c4, c5, c6, c7, c8, c9, d1, d2, d3⟩ | ⟨a, b, c, d, e⟩
  · exact Or.inl ⟨a, (hv 0 (by omega)).trans b, (hv 1 (by omega)).trans c, fun i h1 h2 => by rw [hv i h2, hw i h2]; exact d i h1 h2⟩
  · refine Or.inr (Or.inl ⟨a, fun i hi => by rw [hv i (by omega), hw i (by omega)]; exact b i hi, x, y, s1, s2, c1, c2, c3, c4, c5, c6, c7, (hw _ (by omega)).trans c8, (hw _ (by omega)).trans c9, (hv _ (by omega)).trans d1, (hv _ (by omega)).trans d2, fun g h1 h2 h3 => ?_⟩)
    rw [hv _ (by omega), hw _ (by omega)]; exact d3 g h1 h2 h3
  · exact Or.inr (Or.inr ⟨a, (hv 2 (by omega)).trans b, c, d, fun i h1 h2 => by rw [hv i h1, hw i h1]; exact e i h1 h2⟩)
def cur (M : St) (k j : Nat) : Nat → Int32 := if j = k then vw M else sn M j
def SPR (sp M : St) (ng : Nat) : Prop := ∃ k, k ≤ 20 ∧ gI sp 3 = nI k ∧ gI M 80 = nI k ∧ ∀ j, j < k → stp ng (gA sp 0 j) (gA sp 1 j) (gA sp 2 j) (cur M k (j + 1)) (sn M j)
theorem SPR.fr {sp M M' : St} {ng : Nat} (h : SPR sp M ng) (h80 : gI M' 80 = gI M 80) (h81 : gA M' 81 = gA M 81) (hv : ∀ i, i < 9 → vw M' i = vw M i) (hg : ng ≤ 6) : SPR sp M' ng := by
  obtain ⟨k, a, b, c, d⟩ := h
  refine ⟨k, a, b, h80.trans c, fun j hj => (d j hj).cong (fun i hi => ?_) (fun i hi => ?_) hg⟩
  · unfold cur
    by_cases q : j + 1 = k
    · rw [if_pos q, if_pos q]; exact hv i hi
    · rw [if_neg q, if_neg q]; unfold sn; rw [h81]
  · unfold sn; rw [h81]
theorem SPR.clear {sp M : St} {ng : Nat} (h : gI M 80 = 0) : SPR (fX9_clear sp) M ng := ⟨0, by omega, rfl, h, fun j hj => absurd hj (by omega)⟩
/-- only the snapshots and their number change -/
def RF (M M' : St) : Prop := (∀ k, k ≠ 80 → gI M' k = gI M k) ∧ M'.2.1 = M.2.1 ∧ ∀ r, r ≠ 81 → gA M' r = gA M r
theorem RF.rf {M : St} : RF M M := ⟨fun _ _ => rfl, rfl, fun _ _ => rfl⟩
theorem RF.tr {x y z : St} (h : RF x y) (k : RF y z) : RF x z := ⟨fun j a => (k.1 j a).trans (h.1 j a), k.2.1.trans h.2.1, fun r a => (k.2.2 r a).trans (h.2.2 r a)⟩
theorem RF.wA {M : St} {i : Nat} {v : Int32} : RF M (sA M 81 i v) := ⟨fun _ _ => rfl, rfl, fun r h => gA_sAr _ _ _ h⟩
theorem RF.wI {M : St} {v : Int32} : RF M (sI M 80 v) := ⟨fun k h => gI_sIn _ _ h, rfl, fun _ _ => rfl⟩
theorem RF.vws {M M' : St} (h : RF M M') (i : Nat) : vw M' i = vw M i := by
  unfold vw
  rw [h.2.2 53 (by omega), h.2.2 54 (by omega), h.2.2 55 (by omega), h.2.2 60 (by omega)]
/-- a snapshot is put -/
theorem putU_L {k : Nat} (hk : k < 20) : ∀ (d nf i : Nat) (M : St), i + d = 6 → d < nf → ok (fX12_put_undo_L1 (nI (9 * k)) nf (nI i) M) (fun M' => RF M M' ∧ gI M' 80 = gI M 80 ∧ (∀ j, (j < 9 * k + 3 + i ∨ 9 * k + 9 ≤ j) → gA M' 81 j = gA M 81 j) ∧ ∀ g, i ≤ g → g < 6 → gA M' 81 (9 * k + 3 + g) = gA M 60 g)
  | 0, nf + 1, i, M, h, _ => by
    rw [fX12_put_undo_L1]
    exact ok_t (show nI 6 ≤ nI i by rw [nI_leI (by omega) (by omega)]; omega) (ok_some ⟨RF.rf, rfl, fun _ _ => rfl, fun g h1 h2 => absurd h1 (by omega)⟩)
  | d + 1, nf + 1, i, M, h, hf => by
    have e : (nI (9 * k) + 3) + nI i = nI (9 * k + 3 + i) := by rw [show (3 : Int32) = nI 3 from rfl, nI_add, nI_add]
    rw [fX12_put_undo_L1, e, cl (show i < 2 ^ 31 by omega), cl (show 9 * k + 3 + i < 2 ^ 31 by omega)]
    refine ok_f (show ¬ nI 6 ≤ nI i by rw [nI_leI (by omega) (by omega)]; omega) (ok_f (kx (by omega) (by decide)) (ok_lt (ok_f (kx (by omega) (by decide)) (ok_lt (ok_lt ?_)))))
    rw [nI_1]
    refine ok_mono (putU_L hk d nf (i + 1) _ (by omega) (by omega)) (fun M' hM => ?_)
    obtain ⟨a, b, c, e⟩ := hM
    refine ⟨RF.wA.tr a, b, fun j hj => ?_, fun g h1 h2 => ?_⟩
    · rw [c j (by omega), gA_idx _ _ _ _ (by omega)]
    · by_cases q : g = i
      · subst q
        rw [c _ (by omega), gA_same]
      · rw [e g (by omega) h2, gA_row _ _ _ _ (by decide)]
theorem putU_of {M : St} {k : Nat} (hk : k < 20) : ok (fX12_put_undo M (nI (9 * k))) (fun M' => RF M M' ∧ gI M' 80 = gI M 80 ∧ (∀ j, (j < 9 * k ∨ 9 * k + 9 ≤ j) → gA M' 81 j = gA M 81 j) ∧ ∀ i, i < 9 → sn M' k i = vw M i) := by
  unfold fX12_put_undo
  have e1 : nI (9 * k) + 1 = nI (9 * k + 1) := nI_1 _
  have e2 : nI (9 * k) + 2 = nI (9 * k + 2) := by rw [show (2 : Int32) = nI 2 from rfl, nI_add]
  rw [e1, e2, cl (show 9 * k < 2 ^ 31 by omega), cl (show 9 * k + 1 < 2 ^ 31 by omega), cl (show 9 * k + 2 < 2 ^ 31 by omega)]
  refine ok_lt (ok_f (kx (by omega) (by decide)) (ok_lt (ok_lt (ok_f (kx (by omega) (by decide)) (ok_lt (ok_lt (ok_f (kx (by omega) (by decide)) (ok_lt (ok_bind (ok_mono (putU_L hk 6 fuel 0 _ (by omega) (by rw [fuel_eq]; omega)) (fun M' hM => ok_some ?_)))))))))))
  obtain ⟨a, b, c, d⟩ := hM
  refine ⟨RF.wA.tr (RF.wA.tr (RF.wA.tr a)), b, fun j hj => ?_, fun i hi => ?_⟩
  · rw [c j (by omega), gA_idx _ _ _ _ (by omega), gA_idx _ _ _ _ (by omega), gA_idx _ _ _ _ (by omega)]
  · unfold sn
    by_cases q3 : 3 ≤ i
    · obtain ⟨g, rfl⟩ : ∃ g, i = 3 + g := ⟨i - 3, by omega⟩
      rw [vw3, show 9 * k + (3 + g) = 9 * k + 3 + g by omega, d g (by omega) (by omega)]
      rw [gA_row _ _ _ _ (by decide), gA_row _ _ _ _ (by decide), gA_row _ _ _ _ (by decide)]
    · rw [c _ (by omega)]
      rcases (show i = 0 ∨ i = 1 ∨ i = 2 by omega) with rfl | rfl | rfl
      · rw [gA_idx _ _ _ _ (by omega), gA_idx _ _ _ _ (by omega), Nat.add_zero, gA_same]; rfl
      · rw [gA_idx _ _ _ _ (by omega), gA_same]; exact gA_row _ _ _ _ (by decide)
      · rw [gA_same, gA_row _ _ _ _ (by decide)]; exact gA_row _ _ _ _ (by decide)
/-- all snapshots move down -/
theorem remL : ∀ (d nf i : Nat) (M : St), i + d = 171 → d < nf → ok (fX12_remember_L1 nf (nI i) M) (fun M' => RF M M' ∧ gI M' 80 = gI M 80 ∧ (∀ j, j < i → gA M' 81 j = gA M 81 j) ∧ ∀ j, i ≤ j → j < 171 → gA M' 81 j = gA M 81 (j + 9))
  | 0, nf + 1, i, M, h, _ => by
    rw [fX12_remember_L1]
    exact ok_t (show nI 171 ≤ nI i by rw [nI_leI (by omega) (by omega)]; omega) (ok_some ⟨RF.rf, rfl, fun _ _ => rfl, fun j h1 h2 => absurd h1 (by omega)⟩)
  | d + 1, nf + 1, i, M, h, hf => by
    have e : nI i + 9 = nI (i + 9) := by rw [show (9 : Int32) = nI 9 from rfl, nI_add]
    rw [fX12_remember_L1, e, cl (show i < 2 ^ 31 by omega), cl (show i + 9 < 2 ^ 31 by omega)]
    refine ok_f (show ¬ nI 171 ≤ nI i by rw [nI_leI (by omega) (by omega)]; omega) (ok_f (kx (by omega) (by decide)) (ok_lt (ok_f (kx (by omega) (by decide)) (ok_lt (ok_lt ?_)))))
    rw [nI_1]
    refine ok_mono (remL d nf (i + 1) _ (by omega) (by omega)) (fun M' hM => ?_)
    obtain ⟨a, b, c, e⟩ := hM
    refine ⟨RF.wA.tr a, b, fun j hj => ?_, fun j h1 h2 => ?_⟩
    · rw [c j (by omega), gA_idx _ _ _ _ (by omega)]
    · by_cases q : j = i
      · subst q
        rw [c _ (by omega), gA_same]
      · rw [e j (by omega) h2, gA_idx _ _ _ _ (by omega)]
theorem rem_of {M : St} {k : Nat} (hk : k ≤ 20) (h80 : gI M 80 = nI k) : ∃ d k', (k < 20 → d = 0 ∧ k' = k) ∧ (k = 20 → d = 1 ∧ k' = 19) ∧ ok (fX12_remember M) (fun M' => RF M M' ∧ gI M' 80 = nI (k' + 1) ∧ (∀ j, j < k' → ∀ i, i < 9 → sn M' j i = sn M (j + d) i) ∧ ∀ i, i < 9 → sn M' k' i = vw M i) := by
  unfold fX12_remember
  have step : ∀ (k' : Nat) (u : St), k' < 20 → gI u 80 = nI k' → ok ((fX12_put_undo u ((9 : Int32) * (gI u 80))).bind fun r3 => lt ((gI r3 80) + (1 : Int32)) fun x5 => lt (sI r3 80 x5) fun u6 => some u6) (fun M' => RF u M' ∧ gI M' 80 = nI (k' + 1) ∧ (∀ j, j < k' → ∀ i, i < 9 → sn M' j i = sn u j i) ∧ ∀ i, i < 9 → sn M' k' i = vw u i) := by
    intro k' u hk' hu
    rw [hu, show (9 : Int32) * nI k' = nI (9 * k') by rw [show (9 : Int32) = nI 9 from rfl, nI_mul]]
    refine ok_bind (ok_mono (putU_of hk') (fun r hr => ok_lt (ok_lt (ok_some ?_))))
    obtain ⟨a, b, c, d⟩ := hr
    refine ⟨a.tr RF.wI, ?_, fun j hj i hi => ?_, fun i hi => d i hi⟩
    · rw [gI_sIs, b, hu, nI_1]
    · exact c _ (Or.inl (by omega))
  by_cases c : k = 20
  · refine ⟨1, 19, fun q => absurd q (by omega), fun _ => ⟨rfl, rfl⟩, ok_lt (ok_t (by rw [h80, c]; rfl) (ok_bind (ok_mono (remL 171 fuel 0 M (by omega) (by rw [fuel_eq]; omega)) (fun y hy => ok_lt (ok_lt ?_)))))⟩
    obtain ⟨a, b, _, d⟩ := hy
    have h19 : gI (sI y 80 (gI y 80 - 1)) 80 = nI 19 := by rw [gI_sIs, b, h80, c]; rfl
    refine ok_mono (step 19 (sI y 80 (gI y 80 - 1)) (by omega) h19) (fun M' hM => ?_)
    obtain ⟨a1, b1, c1, d1⟩ := hM
    have a2 : RF M (sI y 80 (gI y 80 - 1)) := a.tr RF.wI
    refine ⟨a2.tr a1, b1, fun j hj i hi => ?_, fun i hi => (d1 i hi).trans (a2.vws i)⟩
    rw [c1 j hj i hi]
    show gA y 81 (9 * j + i) = gA M 81 (9 * (j + 1) + i)
    rw [d _ (by omega) (by omega)]
    congr 1
    omega
  · refine ⟨0, k, fun _ => ⟨rfl, rfl⟩, fun q => absurd q c, ok_lt (ok_f (fun q => c ?_) (ok_mono (step k M (by omega) h80) (fun M' hM => hM)))⟩
    exact (nI_eq (a := k) (b := 20) (by omega) (by omega)).mp (h80.symm.trans q)
/-- a step is added -/
theorem dropL : ∀ (d nf i : Nat) (u : St), i + d = 19 → d < nf → ok (fX9_dropOldest_L1 nf (nI (i + 1)) u) (fun u' => gI u' 3 = gI u 3 ∧ (∀ r j, r < 3 → j < i → gA u' r j = gA u r j) ∧ ∀ r j, r < 3 → i ≤ j → j < 19 → gA u' r j = gA u r (j + 1))
  | 0, nf + 1, i, u, h, _ => by
    rw [fX9_dropOldest_L1]
    exact ok_t (show nI 20 ≤ nI (i + 1) by rw [nI_leI (by omega) (by omega)]; omega) (ok_some ⟨rfl, fun _ _ _ _ => rfl, fun r j _ h1 h2 => absurd h1 (by omega)⟩)
  | d + 1, nf + 1, i, u, h, hf => by
    rw [fX9_dropOldest_L1, nI_sub1, cl (show i + 1 < 2 ^ 31 by omega), cl (show i < 2 ^ 31 by omega)]
    have c1 : ¬ (nI (i + 1) < 0 ∨ 20 ≤ i + 1) := kx (by omega) (by decide)
    have c2 : ¬ (nI i < 0 ∨ 20 ≤ i) := kx (by omega) (by decide)
    refine ok_f (show ¬ nI 20 ≤ nI (i + 1) by rw [nI_leI (by omega) (by omega)]; omega) (ok_f c1 (ok_lt (ok_f c2 (ok_lt (ok_f c1 (ok_lt (ok_f c2 (ok_lt (ok_f c1 (ok_lt (ok_f c2 (ok_lt (ok_lt ?_)))))))))))))
    rw [nI_1]
    refine ok_mono (dropL d nf (i + 1) _ (by omega) (by omega)) (fun u' hu => ?_)
    obtain ⟨a, b, c⟩ := hu
    refine ⟨a, fun r j hr hj => ?_, fun r j hr h1 h2 => ?_⟩
    · rw [b r j hr (by omega), gA_idx _ _ _ _ (by omega), gA_idx _ _ _ _ (by omega), gA_idx _ _ _ _ (by omega)]
    · by_cases q : j = i
      · subst q
        rw [b r j hr (by omega)]
        rcases (show r = 0 ∨ r = 1 ∨ r = 2 by omega) with rfl | rfl | rfl
        · rw [gA_row _ _ _ _ (by decide), gA_row _ _ _ _ (by decide), gA_same]
        · rw [gA_row _ _ _ _ (by decide), gA_same, gA_row _ _ _ _ (by decide)]
        · rw [gA_same, gA_row _ _ _ _ (by decide), gA_row _ _ _ _ (by decide)]
      · rw [c r j hr (by omega) h2, gA_idx _ _ _ _ (by omega), gA_idx _ _ _ _ (by omega), gA_idx _ _ _ _ (by omega)]
theorem add_of {sp : St} {k d k' : Nat} {x y z : Int32} (hk : k ≤ 20) (h3 : gI sp 3 = nI k) (q1 : k < 20 → d = 0 ∧ k' = k) (q2 : k = 20 → d = 1 ∧ k' = 19) : ok (fX9_add sp x y z) (fun u => gI u 3 = nI (k' + 1) ∧ (∀ r j, r < 3 → j < k' → gA u r j = gA sp r (j + d)) ∧ gA u 0 k' = x ∧ gA u 1 k' = y ∧ gA u 2 k' = z) := by
  unfold fX9_add
  have step : ∀ (k' : Nat) (u : St), k' < 20 → gI u 3 = nI k' → ok (if (gI u 3) < 0 ∨ 20 ≤ ((gI u 3)).toNatClampNeg then none else lt (sA u 0 ((gI u 3)).toNatClampNeg x) fun u4 => if (gI u4 3) < 0 ∨ 20 ≤ ((gI u4 3)).toNatClampNeg then none else lt (sA u4 1 ((gI u4 3)).toNatClampNeg y) fun u6 => if (gI u6 3) < 0 ∨ 20 ≤ ((gI u6 3)).toNatClampNeg then none else lt (sA u6 2 ((gI u6 3)).toNatClampNeg z) fun u8 => lt ((gI u8 3) + (1 : Int32)) fun x9 => lt (sI u8 3 x9) fun u10 => some u10) (fun v => gI v 3 = nI (k' + 1) ∧ (∀ r j, r < 3 → j < k' → gA v r j = gA u r j) ∧ gA v 0 k' = x ∧ gA v 1 k' = y ∧ gA v 2 k' = z) := by
    intro k' u hk' hu
    have cc : ¬ (gI u 3 < 0 ∨ 20 ≤ (gI u 3).toNatClampNeg) := by rw [hu]; exact ck hk' (by decide)
    refine ok_f cc (ok_lt (ok_f cc (ok_lt (ok_f cc (ok_lt (ok_lt (ok_lt (ok_some ?_))))))))
    have ec : (gI u 3).toNatClampNeg = k' := by rw [hu, cl (by omega)]
    have e1 : ∀ i v, gI (sA u 0 i v) 3 = gI u 3 := fun _ _ => rfl
    refine ⟨?_, fun r j hr hj => ?_, ?_, ?_, ?_⟩
    · show gI u 3 + 1 = _
      rw [hu, nI_1]
    · show gA (sA (sA (sA u 0 (gI u 3).toNatClampNeg x) 1 (gI u 3).toNatClampNeg y) 2 (gI u 3).toNatClampNeg z) r j = _
      rw [ec, gA_idx _ _ _ _ (by omega), gA_idx _ _ _ _ (by omega), gA_idx _ _ _ _ (by omega)]
    · show gA (sA (sA (sA u 0 (gI u 3).toNatClampNeg x) 1 (gI u 3).toNatClampNeg y) 2 (gI u 3).toNatClampNeg z) 0 k' = _
      rw [ec, gA_row _ _ _ _ (by decide), gA_row _ _ _ _ (by decide), gA_same]
    · show gA (sA (sA (sA u 0 (gI u 3).toNatClampNeg x) 1 (gI u 3).toNatClampNeg y) 2 (gI u 3).toNatClampNeg z) 1 k' = _
      rw [ec, gA_row _ _ _ _ (by decide), gA_same]
    · show gA (sA (sA (sA u 0 (gI u 3).toNatClampNeg x) 1 (gI u 3).toNatClampNeg y) 2 (gI u 3).toNatClampNeg z) 2 k' = _
      rw [ec, gA_same]
  refine ok_lt ?_
  by_cases c : k = 20
  · obtain ⟨rfl, rfl⟩ := q2 c
    refine ok_f (by rw [h3, c]; decide) (ok_bind ?_)
    unfold fX9_dropOldest
    refine ok_bind (ok_mono (dropL 19 fuel 0 sp (by omega) (by rw [fuel_eq]; omega)) (fun u hu => ok_lt (ok_some ?_)))
    refine ok_mono (step 19 (sI u 3 19) (by omega) rfl) (fun v hv => ⟨hv.1, fun r j hr hj => ?_, hv.2.2⟩)
    rw [hv.2.1 r j hr hj]
    exact hu.2.2 r j hr (by omega) hj
  · obtain ⟨rfl, rfl⟩ := q1 (by omega)
    refine ok_t (by rw [h3]; exact (nI_ltI (b := 20) (by omega) (by omega)).mpr (by omega)) (ok_mono (step _ sp (by omega) h3) (fun v hv => hv))
/-- a step that is done, on both sides -/
theorem SPR.add {sp M : St} {ng : Nat} {x y z : Int32} (h : SPR sp M ng) (hg : ng ≤ 6) : ok (fX9_add sp x y z) (fun sp' => ok (fX12_remember M) (fun M1 => RF M M1 ∧ ∀ M2, gI M2 80 = gI M1 80 → gA M2 81 = gA M1 81 → stp ng x y z (vw M2) (vw M) → SPR sp' M2 ng)) := by
  obtain ⟨k, hk, h3, h80, hs⟩ := h
  obtain ⟨d, k', q1, q2, hr⟩ := rem_of hk h80
  refine ok_mono (add_of (x := x) (y := y) (z := z) hk h3 q1 q2) (fun sp' ha => ok_mono hr (fun M1 hM => ⟨hM.1, fun M2 e80 e81 hst => ?_⟩))
  obtain ⟨a1, a2, a3, a4, a5⟩ := ha
  obtain ⟨b1, b2, b3, b4⟩ := hM
  have hk' : k' + d = k ∧ k' + 1 ≤ 20 := by
    by_cases c : k = 20
    · have := q2 c; omega
    · have := q1 (by omega); omega
  have e2 : ∀ j i, sn M2 j i = sn M1 j i := fun j i => by unfold sn; rw [e81]
  refine ⟨k' + 1, by omega, a1, e80.trans b2, fun j hj => ?_⟩
  by_cases c : j = k'
  · subst c
    rw [a3, a4, a5]
    unfold cur
    rw [if_pos rfl]
    exact hst.cong (fun _ _ => rfl) (fun i hi => by rw [e2, b4 i hi]) hg
  · rw [a2 0 j (by omega) (by omega), a2 1 j (by omega) (by omega), a2 2 j (by omega) (by omega)]
    refine (hs (j + d) (by omega)).cong (fun i hi => ?_) (fun i hi => ?_) hg
    · unfold cur
      rw [if_neg (by omega), e2]
      by_cases c2 : j + 1 = k'
      · rw [c2, b4 i hi, if_pos (by omega)]
      · rw [b3 (j + 1) (by omega) i hi, if_neg (by omega), show j + 1 + d = j + d + 1 by omega]
    · rw [e2, b3 j (by omega) i hi]
