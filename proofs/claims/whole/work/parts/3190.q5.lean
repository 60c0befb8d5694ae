/-! small questions -/
def sR {α : Type} (M : St) (r : α) (r' : α × St) : Prop := r = r'.1 ∧ QF M r'.2
theorem act_of {T : Nat → St} {mn now M : St} {na ng nr ns : Nat} {x y : Int32} (hT : TR T M na ng nr ns) (hH : HR now M 0 na ng nr) : ok (fX11_act mn now T x y) (fun r => ok (fX12_act M x y) (fun r' => sR M r r')) := by
  have h6 := hT.1.1.1
  have a5 := hT.1.2.1.1
  have em : fX12_isAct (sI M 2 0) x = tst (nI na) x := by rw [isAct_t]; exact congrArg (fun w => tst w x) hT.1.2.2.1
  have ec : fX7_has 6 (T 1) x = tst (nI na) x := by rw [has_t, a5]
  unfold fX11_act fX12_act
  rw [ec]
  rcases tst_or (k := na) x (by omega) with q | ⟨i, hi, rfl, q⟩
  · exact ok_t q (ok_some (ok_lt (ok_t (em.trans q) (ok_some ⟨rfl, QF.th⟩))))
  · obtain ⟨_, e2, e3, _⟩ := hT.2.1 i hi
    have c12 : ¬ (nI i < 0 ∨ 12 ≤ i) := kx (by omega) (by decide)
    refine ok_f (by rw [q]; exact i10) ?_
    rw [mood_eq a5 hi h6, minutesOf_eq a5 hi h6, cl (show i < 2 ^ 31 by omega)]
    have pre : ¬ fX12_isAct (sI M 2 0) (nI i) = 0 := by rw [em, q]; exact i10
    refine ok_if (fun c => ok_bind (ok_some (ok_some (ok_lt (ok_f pre (ok_t c (ok_f c12 (ok_some ⟨e2, QF.th⟩)))))))) (fun c => ?_)
    refine ok_if (fun c1 => ok_bind (ok_some (ok_some (ok_lt (ok_f pre (ok_f c (ok_t c1 (ok_f c12 (ok_some ⟨e3, QF.th⟩))))))))) (fun c1 => ?_)
    refine ok_if (fun c2 => ok_lt (ok_some (ok_lt (ok_f pre (ok_f c (ok_f c1 (ok_t c2 ?_))))))) (fun c2 => ok_some (ok_lt (ok_f pre (ok_f c (ok_f c1 (ok_f c2 (ok_some ⟨rfl, QF.th⟩)))))))
    rw [hH.1.2.2.1, hH.1.2.2.2.1]
    refine ok_if (fun c3 => ok_some ⟨?_, QF.th⟩) (fun c3 => ok_some ⟨?_, QF.th⟩)
    · exact if_pos c3
    · exact if_neg c3
theorem grain_of {T : Nat → St} {mn now M : St} {na ng nr ns : Nat} {x y : Int32} (hT : TR T M na ng nr ns) (hH : HR now M 0 na ng nr) : ok (fX11_grain mn now T x y) (fun r => ok (fX12_grain M x y) (fun r' => sR M r r')) := by
  have h4 := hT.1.1.2.2.1
  have a5 := hT.1.2.1.2.2.1
  have em : fX12_isGrain (sI M 2 0) x = tst (nI nr) x := by rw [isGrain_t]; exact congrArg (fun w => tst w x) hT.1.2.2.2.2.1
  have ec : fX7_has 4 (T 3) x = tst (nI nr) x := by rw [has_t, a5]
  unfold fX11_grain fX12_grain
  rw [ec]
  rcases tst_or (k := nr) x (by omega) with q | ⟨i, hi, rfl, q⟩
  · exact ok_t q (ok_some (ok_lt (ok_t (em.trans q) (ok_some ⟨rfl, QF.th⟩))))
  · obtain ⟨_, e2, e3, e4, _⟩ := hT.2.2.2.1 i hi
    have eg : gA now 9 i = gA M 63 (4 * 0 + i) := hH.2.1.1 i (by omega)
    rw [Nat.mul_zero, Nat.zero_add] at eg
    have c8 : ¬ (nI i < 0 ∨ 8 ≤ i) := kx (by omega) (by decide)
    have c4 : ¬ (nI i < 0 ∨ 4 ≤ i) := kx (by omega) (by decide)
    refine ok_f (by rw [q]; exact i10) ?_
    have lf : fX12_leftOf (sI M 2 0) 0 (nI i) = some (gA M 33 i - gA M 63 i) := by
      have := leftOf_eq (M := sI M 2 0) (b := 0) (g := i) (by decide) (by omega)
      rw [Nat.mul_zero, Nat.zero_add] at this
      exact this
    rw [low_eq a5 hi h4, high_eq a5 hi h4, sacks_eq a5 hi h4, cl (show i < 2 ^ 31 by omega), eg]
    have pre : ¬ fX12_isGrain (sI M 2 0) (nI i) = 0 := by rw [em, q]; exact i10
    refine ok_if (fun c => ok_bind (ok_some (ok_some (ok_lt (ok_f pre (ok_t c (ok_f c8 (ok_some ⟨e2, QF.th⟩)))))))) (fun c => ?_)
    refine ok_if (fun c1 => ok_bind (ok_some (ok_some (ok_lt (ok_f pre (ok_f c (ok_t c1 (ok_f c8 (ok_some ⟨e3, QF.th⟩))))))))) (fun c1 => ?_)
    refine ok_if (fun c2 => ok_bind (ok_some (ok_f c4 (ok_some (ok_lt (ok_f pre (ok_f c (ok_f c1 (ok_t c2 (ok_bindx lf (ok_some ⟨by rw [e4], QF.th⟩))))))))))) (fun c2 => ?_)
    refine ok_if (fun c3 => ok_f c4 (ok_some (ok_lt (ok_f pre (ok_f c (ok_f c1 (ok_f c2 (ok_t c3 (ok_f c8 (ok_some ⟨rfl, QF.th⟩)))))))))) (fun c3 => ok_some (ok_lt (ok_f pre (ok_f c (ok_f c1 (ok_f c2 (ok_f c3 (ok_some ⟨rfl, QF.th⟩))))))))
theorem named_of {T : Nat → St} {mn M : St} {na ng nr ns : Nat} {x y : Int32} (hT : TR T M na ng nr ns) : ok (fX11_named mn T x y) (fun r => ok (fX12_named M x y) (fun r' => sR M r r')) := by
  obtain ⟨⟨⟨h1, h2, h3, _⟩, ⟨a1, a2, a3, _⟩, ⟨b1, b2, b3, _⟩⟩, hA, hG, hR, _⟩ := hT
  have b1' : gI (sI M 2 0) 12 = nI na := b1
  have b2' : gI (sI M 2 0) 13 = nI ng := b2
  have b3' : gI (sI M 2 0) 14 = nI nr := b3
  unfold fX11_named fX12_named
  have z : ∀ {f : Nat → Int32}, (fun k => f (0 + k)) = f := fun {f} => funext fun k => by rw [Nat.zero_add]
  refine ok_if (fun c => ?_) (fun c => ok_if (fun c1 => ?_) (fun c1 => ok_if (fun c2 => ?_) (fun c2 => ok_some (ok_lt (ok_f c (ok_f c1 (ok_f c2 (ok_some ⟨rfl, QF.th⟩))))))))
  · refine ok_bindx (find_eq a1 h1 (by decide)) (ok_some (ok_lt (ok_t c ?_)))
    rw [b1']
    refine ok_bindx (mfind_eq (fr := 0) (by omega) (by decide)) (ok_some ⟨?_, QF.th⟩)
    exact fnd_cong na 0 (fun k _ hk => by rw [Nat.zero_add]; exact (hA k (by omega)).1)
  · refine ok_bindx (find_eq a2 h2 (by decide)) (ok_some (ok_lt (ok_f c (ok_t c1 ?_))))
    rw [b2']
    refine ok_bindx (mfind_eq (fr := 0) (by omega) (by decide)) (ok_some ⟨?_, QF.th⟩)
    exact fnd_cong ng 0 (fun k _ hk => by rw [Nat.zero_add]; exact (hG k (by omega)).1)
  · refine ok_bindx (find_eq a3 h3 (by decide)) (ok_some (ok_lt (ok_f c (ok_f c1 (ok_t c2 ?_)))))
    rw [b3']
    refine ok_bindx (mfind_eq (fr := 0) (by omega) (by decide)) (ok_some ⟨?_, QF.th⟩)
    exact fnd_cong nr 0 (fun k _ hk => by rw [Nat.zero_add]; exact (hR k (by omega)).1)
theorem fault_of {mn M : St} {x : Int32} (h4 : gI mn 2 = gI M 4) (h5 : gI mn 3 = gI M 5) : fX11_fault mn x = (fX12_fault M x).1 ∧ QF M (fX12_fault M x).2 := by
  refine ⟨?_, QF.th⟩
  show (if x = 0 then gI mn 2 else if x = 1 then gI mn 3 else -1) = if x = 0 then gI M 4 else if x = 1 then gI M 5 else -1
  rw [h4, h5]
theorem game_of {T : Nat → St} {mn now M : St} {na ng nr ns : Nat} {x y : Int32} (hT : TR T M na ng nr ns) (hH : HR now M 0 na ng nr) : ok (fX11_game mn now T x y) (fun r => ok (fX12_game M x y) (fun r' => sR M r r')) := by
  have h4 := hT.1.1.2.2.1
  have a5 := hT.1.2.1.2.2.1
  have em : fX12_isGrain (sI M 2 0) x = tst (nI nr) x := by rw [isGrain_t]; exact congrArg (fun w => tst w x) hT.1.2.2.2.2.1
  have ec : fX7_has 4 (T 3) x = tst (nI nr) x := by rw [has_t, a5]
  unfold fX11_game fX12_game
  rw [ec]
  rcases tst_or (k := nr) x (by omega) with q | ⟨i, hi, rfl, q⟩
  · exact ok_t q (ok_some (ok_lt (ok_t (em.trans q) (ok_some ⟨rfl, QF.th⟩))))
  · obtain ⟨_, e2, e3, e4, _⟩ := hT.2.2.2.1 i hi
    have c8 : ¬ (nI i < 0 ∨ 8 ≤ i) := kx (by omega) (by decide)
    have pre : ¬ fX12_isGrain (sI M 2 0) (nI i) = 0 := by rw [em, q]; exact i10
    refine ok_f (by rw [q]; exact i10) ?_
    rcases in_or y (N := 1) (by decide) with h0 | ⟨h0, h1⟩ | ⟨h0, h1, k, hk, rfl⟩
    · exact ok_t h0 (ok_some (ok_lt (ok_f pre (ok_t (isIn_0 (Or.inl h0)) (ok_some ⟨rfl, QF.th⟩)))))
    · exact ok_f h0 (ok_f (fun w => (le_nlt _ _).mp w h1) (ok_some (ok_lt (ok_f pre (ok_t (isIn_0 (Or.inr h1)) (ok_some ⟨rfl, QF.th⟩))))))
    · have in1 : ¬ fX12_isIn (nI k) 0 1 = 0 := by rw [isIn_1 (c := 1) h0 h1]; exact i10
      refine ok_f h0 (ok_t ((le_nlt _ _).mpr h1) ?_)
      rw [high_eq a5 hi h4, e3, hH.1.2.1, cl (show i < 2 ^ 31 by omega)]
      refine ok_bind (ok_some (ok_lt (ok_lt ?_)))
      rcases (show k = 0 ∨ k = 1 by omega) with rfl | rfl
      · refine ok_f (by decide) (ok_if (fun c => ok_lt (ok_some (ok_lt (ok_f pre (ok_f in1 (ok_f c8 (ok_lt (ok_t c (ok_lt (ok_lt (ok_some ⟨?_, QF.th⟩))))))))))) (fun c => ok_some (ok_lt (ok_f pre (ok_f in1 (ok_f c8 (ok_lt (ok_f c (ok_lt (ok_some ⟨rfl, QF.th⟩))))))))))
        show (if (if 0 ≤ gA M 32 i - gA M 55 0 then _ else (0 : Int32)) = 0 then (1 : Int32) else 0) = _
        rw [if_pos c]; rfl
      · refine ok_t rfl (ok_lt (ok_some (ok_lt (ok_f pre (ok_f in1 (ok_f c8 (ok_lt ?_)))))))
        refine ok_if (fun c => ok_lt (ok_lt (ok_some ⟨?_, QF.th⟩))) (fun c => ok_lt (ok_some ⟨?_, QF.th⟩))
        · have c' : 0 ≤ gA M 32 i - gA M 55 0 := c
          show (if (if 0 ≤ gA M 32 i - gA M 55 0 then gA M 32 i - gA M 55 0 - (gA M 32 i - gA M 55 0) / 4 * 4 else (0 : Int32)) = 0 then (-2 : Int32) else (if 0 ≤ gA M 32 i - gA M 55 0 then gA M 32 i - gA M 55 0 - (gA M 32 i - gA M 55 0) / 4 * 4 else (0 : Int32))) = _
          rw [if_pos c']; rfl
        · have c' : ¬ 0 ≤ gA M 32 i - gA M 55 0 := c
          show (if (if 0 ≤ gA M 32 i - gA M 55 0 then gA M 32 i - gA M 55 0 - (gA M 32 i - gA M 55 0) / 4 * 4 else (0 : Int32)) = 0 then (-2 : Int32) else (if 0 ≤ gA M 32 i - gA M 55 0 then gA M 32 i - gA M 55 0 - (gA M 32 i - gA M 55 0) / 4 * 4 else (0 : Int32))) = _
          rw [if_neg c']; rfl
theorem span_L {T : Nat → St} {ml now M : St} {na ng nr ns : Nat} {x : Int32} (hT : TR T M na ng nr ns) (hH : HR now M 0 na ng nr) : ∀ (d nf nf2 i : Nat) (t : Int32), i + d = 100 → 0 < i → d < nf → d < nf2 → ok (fX11_span_L1 now T x ml nf t (nI i)) (fun y => fX12_span_L1 x M nf2 t (nI i) = some y)
  | 0, nf + 1, nf2 + 1, i, t, h, _, _, _ => by
    rw [fX11_span_L1, fX12_span_L1]
    exact ok_t (show nI 99 < nI i by rw [nI_ltI (by omega) (by omega)]; omega) (ok_some (tp (show nI 100 ≤ nI i by rw [nI_leI (by omega) (by omega)]; omega) rfl))
  | d + 1, nf + 1, nf2 + 1, i, t, h, h0, g1, g2 => by
    rw [fX11_span_L1, fX12_span_L1]
    obtain ⟨r, e1, e2, _⟩ := grainAt_of (ml := ml) (v := nI i) (b := 0) (by decide) hT hH (nI_nle h0 (by omega))
    have c1 : ¬ nI 99 < nI i := by rw [nI_ltI (by omega) (by omega)]; omega
    have c2 : ¬ nI 100 ≤ nI i := by rw [nI_leI (by omega) (by omega)]; omega
    refine ok_f c1 (ok_bindx e1 (ok_lt ?_))
    refine ok_if (fun c => ok_lt (ok_lt ?_)) (fun c => ok_lt ?_)
    · rw [nI_1]
      refine ok_mono (span_L hT hH d nf nf2 (i + 1) (t + 1) (by omega) (by omega) (by omega) (by omega)) (fun y hy => fn c2 (bd_c e2 (lt_c (lt_c (lt_c ?_)))))
      rw [if_pos c]; exact hy
    · rw [nI_1]
      refine ok_mono (span_L hT hH d nf nf2 (i + 1) t (by omega) (by omega) (by omega) (by omega)) (fun y hy => fn c2 (bd_c e2 (lt_c (lt_c (lt_c ?_)))))
      rw [if_neg c, Int32.add_zero]; exact hy
theorem span_of {T : Nat → St} {mn ml now M : St} {na ng nr ns : Nat} {x : Int32} (hT : TR T M na ng nr ns) (hH : HR now M 0 na ng nr) : ok (fX11_span mn ml now T x) (fun r => ok (fX12_span M x) (fun r' => sR M r.1 r')) := by
  have h4 := hT.1.1.2.2.1
  have em : fX12_isGrain (sI M 2 0) x = tst (nI nr) x := by rw [isGrain_t]; exact congrArg (fun w => tst w x) hT.1.2.2.2.2.1
  have ec : fX7_has 4 (T 3) x = tst (nI nr) x := by rw [has_t, hT.1.2.1.2.2.1]
  unfold fX11_span fX12_span
  rw [ec]
  rcases tst_or (k := nr) x (by omega) with q | ⟨i, hi, rfl, q⟩
  · exact ok_t q (ok_some (ok_lt (ok_t (em.trans q) (ok_some ⟨rfl, QF.th⟩))))
  · have pre : ¬ fX12_isGrain (sI M 2 0) (nI i) = 0 := by rw [em, q]; exact i10
    refine ok_f (by rw [q]; exact i10) (ok_lt (ok_bind (ok_mono (span_L (ml := fX2_asItGoes ml) (x := nI i) (hT.Q QF.th) (hH.Q (QF.th (v := 0))) 99 fuel fuel 1 0 (by omega) (by omega) (by rw [fuel_eq]; omega) (by rw [fuel_eq]; omega)) (fun y hy => ok_some ?_))))
    exact ok_lt (ok_f pre (ok_bindx hy (ok_some ⟨rfl, QF.th⟩)))
