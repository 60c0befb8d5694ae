/-! the speed -/
theorem i64_le (a c : Int32) : a.toInt64 ≤ c.toInt64 ↔ a ≤ c := by rw [l_le, i_le, Int32.toInt_toInt64, Int32.toInt_toInt64]
theorem bound_d {d lo hi : Int32} (h : lo.toInt ≤ hi.toInt) : (fX11_within d.toInt64 lo.toInt64 hi.toInt64).toInt32 = fX12_bounded_ d lo hi := by
  rw [within_of h]
  show _ = if lo ≤ d then (if d ≤ hi then d else hi) else lo
  by_cases c1 : lo ≤ d
  · rw [if_pos c1, if_pos ((i64_le _ _).mpr c1)]
    by_cases c2 : d ≤ hi
    · rw [if_pos c2, if_pos ((i64_le _ _).mpr c2)]; simp
    · rw [if_neg c2, if_neg (fun q => c2 ((i64_le _ _).mp q))]
  · rw [if_neg c1, if_neg (fun q => c1 ((i64_le _ _).mp q))]
theorem bound_in {d lo hi : Int32} (h1 : lo.toInt ≤ d.toInt) (h2 : d.toInt ≤ hi.toInt) : fX12_bounded_ d lo hi = d := by
  show (if lo ≤ d then (if d ≤ hi then d else hi) else lo) = d
  rw [if_pos ((i_le _ _).mpr h1), if_pos ((i_le _ _).mpr h2)]
theorem bound_r {d lo hi : Int32} (h : lo.toInt ≤ hi.toInt) : lo.toInt ≤ (fX12_bounded_ d lo hi).toInt ∧ (fX12_bounded_ d lo hi).toInt ≤ hi.toInt := by
  rw [← bound_d h]; exact within_9 h
/-! the grain that is ground -/
def gaR (u : St) (M : St) (b nr : Nat) (r : Int32) : Prop := r = -1 ∨ ∃ g k s, g < nr ∧ r = nI g ∧ gA M 63 (4 * b + g) = nI k ∧ gA M 33 g = nI s ∧ k < s ∧ s ≤ 99
theorem leftOf_eq {M : St} {b g : Nat} (hb : b < 2) (hg : g < 4) : fX12_leftOf M (nI b) (nI g) = some (gA M 33 g - gA M 63 (4 * b + g)) := by
  unfold fX12_leftOf
  rw [i4m, cl (show g < 2 ^ 31 by omega), cl (show 4 * b + g < 2 ^ 31 by omega)]
  exact fn (kx (by omega) (by decide)) (fn (kx (by omega) (by decide)) rfl)
theorem nI_sub {k s : Nat} (h : k ≤ s) : nI s - nI k = nI (s - k) := by
  have e : nI s = nI (s - k) + nI k := by rw [nI_add, Nat.sub_add_cancel h]
  rw [e, Int32.add_sub_cancel]
theorem grainAt_L {T : Nat → St} {u M : St} {na ng nr ns b : Nat} {v : Int32} (hb : b < 2) (hT : TR T M na ng nr ns) (hH : HR u M b na ng nr) (hv : ¬ v ≤ 0) : ∀ (d nf nf2 i : Nat), i + d = nr → d < nf → d < nf2 → ok (fX2_grainAt_L1 T u v nf (nI i)) (fun y => ok (fX12_grainAt_L1 M (nI b) v nf2 (nI i)) (fun y' => y = y' ∧ gaR u M b nr (el y (fun _ => (-1 : Int32)) id)))
  | 0, nf + 1, nf2 + 1, i, h, _, _ => by
    have h4 := hT.1.1.2.2.1
    rw [fX2_grainAt_L1, fX12_grainAt_L1, hT.1.2.1.2.2.1, hT.1.2.2.2.2.1]
    have q : nI nr ≤ nI i := by rw [nI_leI (by omega) (by omega)]; omega
    exact ok_t q (ok_some (ok_t q (ok_some ⟨rfl, Or.inl rfl⟩)))
  | d + 1, nf + 1, nf2 + 1, i, h, g1, g2 => by
    have h4 := hT.1.1.2.2.1
    have h5 := hT.1.2.1.2.2.1
    obtain ⟨_, e2, e3, e4, _⟩ := hT.2.2.2.1 i (by omega)
    obtain ⟨k, s, hk, hs, ek, es⟩ := hH.2.2.2.2.2.1.1 i (by omega)
    have eu := hH.2.1.1 i (by omega)
    have q : ¬ nI nr ≤ nI i := by rw [nI_leI (by omega) (by omega)]; omega
    have ih := grainAt_L hb hT hH hv d nf nf2 (i + 1) (by omega) (by omega) (by omega)
    rw [fX2_grainAt_L1, fX12_grainAt_L1, h5, hT.1.2.2.2.2.1, sacks_eq h5 (by omega) h4, low_eq h5 (by omega) h4, high_eq h5 (by omega) h4, leftOf_eq hb (by omega), cl (show i < 2 ^ 31 by omega), e2, e3, e4, eu, ek, es, nI_sub hk]
    have c4 : ¬ (nI i < 0 ∨ 4 ≤ i) := kx (by omega) (by decide)
    have c8 : ¬ (nI i < 0 ∨ 8 ≤ i) := kx (by omega) (by decide)
    have mstep : ∀ (p : Prop) [Decidable p] (Q : (Unit ⊕ Int32) → Prop), (s ≤ k ∨ fX12_isIn v (gA M 31 i) (gA M 32 i) = 0) → ok (fX12_grainAt_L1 M (nI b) v nf2 (nI (i + 1))) Q → ok (if nI nr ≤ nI i then some (Sum.inl ()) else (some (nI (s - k))).bind fun r3 => lt (lt (nI i + 1) fun x5 => fX12_grainAt_L1 M (nI b) v nf2 x5) fun j4 => if r3 ≤ 0 then j4 else if nI i < 0 ∨ 8 ≤ i then none else if nI i < 0 ∨ 8 ≤ i then none else if fX12_isIn v (gA M 31 i) (gA M 32 i) = 0 then j4 else some (Sum.inr (nI i))) Q := by
      intro p _ Q hh ho
      refine ok_f q (ok_bind (ok_some (ok_lt ?_)))
      have hj : ok (lt (nI i + 1) fun x5 => fX12_grainAt_L1 M (nI b) v nf2 x5) Q := by rw [lt_eq, nI_1]; exact ho
      rcases hh with hh | hh
      · exact ok_t (show nI (s - k) ≤ nI 0 by rw [nI_leI (by omega) (by omega)]; omega) hj
      · exact ok_if (fun _ => hj) (fun _ => ok_f c8 (ok_f c8 (ok_t hh hj)))
    have isIn_t : fX12_isIn v (gA M 31 i) (gA M 32 i) = if v < gA M 31 i then (0 : Int32) else if gA M 32 i < v then 0 else 1 := bz01
    refine ok_f q (ok_f hv (ok_f c4 (ok_bind (ok_some (ok_lt (ok_lt ?_))))))
    have cj : ∀ Q, ok (fX2_grainAt_L1 T u v nf (nI (i + 1))) Q → ok (lt (nI i + 1) fun x8 => fX2_grainAt_L1 T u v nf x8) Q := by
      intro Q ho
      rw [lt_eq, nI_1]; exact ho
    by_cases cs : s ≤ k
    · rw [if_pos (show nI s ≤ nI k by rw [nI_leI (by omega) (by omega)]; exact cs)]
      exact ok_t rfl (cj _ (ok_mono ih (fun y hy => mstep True _ (Or.inl cs) hy)))
    · rw [if_neg (show ¬ nI s ≤ nI k by rw [nI_leI (by omega) (by omega)]; exact cs)]
      refine ok_f i10 (ok_bind (ok_some ?_))
      refine ok_if (fun c1 => cj _ (ok_mono ih (fun y hy => mstep True _ (Or.inr (by rw [isIn_t, if_pos c1])) hy))) (fun c1 => ok_bind (ok_some ?_))
      refine ok_if (fun c2 => cj _ (ok_mono ih (fun y hy => mstep True _ (Or.inr (by rw [isIn_t, if_neg c1, if_pos c2])) hy))) (fun c2 => ok_some ?_)
      refine ok_f q (ok_bind (ok_some (ok_lt (ok_f (nI_nle (by omega) (by omega)) (ok_f c8 (ok_f c8 (ok_f (by rw [isIn_t, if_neg c1, if_neg c2]; exact i10) (ok_some ⟨rfl, Or.inr ⟨i, k, s, by omega, rfl, ek, es, by omega, hs⟩⟩))))))))
theorem grainAt_of {T : Nat → St} {ml u M : St} {na ng nr ns b : Nat} {v : Int32} (hb : b < 2) (hT : TR T M na ng nr ns) (hH : HR u M b na ng nr) (hv : ¬ v ≤ 0) : ∃ r, fX2_grainAt ml T u v = some r ∧ fX12_grainAt M (nI b) v = some r ∧ gaR u M b nr r := by
  have h4 := hT.1.1.2.2.1
  obtain ⟨y, ey, y', ey', rfl, hg⟩ := grainAt_L (v := v) hb hT hH hv nr fuel fuel 0 (by omega) (by rw [fuel_eq]; omega) (by rw [fuel_eq]; omega)
  refine ⟨el y (fun _ => (-1 : Int32)) id, ?_, ?_, hg⟩
  · unfold fX2_grainAt
    refine bd_c ey ?_
    cases y <;> rfl
  · unfold fX12_grainAt
    refine bd_c ey' ?_
    cases y <;> rfl
theorem grainAt_0 {T : Nat → St} {ml u : St} {v : Int32} {nr : Nat} (h5 : gI (T 3) 5 = nI nr) (hv : v ≤ 0) : fX2_grainAt ml T u v = some (-1) := by
  unfold fX2_grainAt
  have : fX2_grainAt_L1 T u v fuel 0 = some (.inl ()) := by
    show fX2_grainAt_L1 T u v (999 + 1) 0 = _
    rw [fX2_grainAt_L1]
    by_cases q : gI (T 3) 5 ≤ (0 : Int32)
    · exact tp q rfl
    · exact fn q (tp hv rfl)
  rw [this]; rfl
