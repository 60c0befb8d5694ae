/-! how likely nobody coughs -/
def qs (c : Nat) : St := (fun _ => nI c, fun _ => 0, fun _ _ => nI c, fun _ _ => 0)
set_option maxRecDepth 100000 in
theorem quiet_d : ∀ c, c < 101 → ∀ n, n < 7 → ∀ w, w < 2 → (fX11_quiet (qs 0) (fun _ => qs c) (nI n) (nI w)).isSome = true ∧ (fX12_quiet (qs c) (nI n) (nI w)).map Prod.fst = fX11_quiet (qs 0) (fun _ => qs c) (nI n) (nI w) := by decide +kernel
theorem quiet_c {mn : St} {T : Nat → St} {c : Nat} {x y : Int32} (h : gI (T 0) 5 = nI c) : fX11_quiet mn T x y = fX11_quiet (qs 0) (fun _ => qs c) x y := by
  unfold fX11_quiet
  rw [h]
  rfl
theorem quiet_l {x : Int32} {u v : St} (h : gA u 23 0 = gA v 23 0) : ∀ (nf : Nat) (a b : Int64) (i : Int32), fX12_quiet_L1 x u nf a b i = fX12_quiet_L1 x v nf a b i
  | 0, _, _, _ => rfl
  | nf + 1, a, b, i => by
    rw [fX12_quiet_L1, fX12_quiet_L1, h]
    simp only [lt_eq]
    rw [quiet_l h nf]
theorem quiet_m {M : St} {c : Nat} {x y : Int32} (h : gA M 23 0 = nI c) : fX12_quiet M x y = (fX12_quiet (qs c) x y).map (fun r => (r.1, sI M 2 0)) := by
  have e := quiet_l (x := x) (u := sI M 2 0) (v := sI (qs c) 2 0) h
  unfold fX12_quiet
  simp only [lt_eq]
  by_cases c1 : fX12_isIn x 0 6 = 0
  · rw [if_pos c1, if_pos c1]; rfl
  · rw [if_neg c1, if_neg c1]
    by_cases c2 : fX12_isIn y 0 1 = 0
    · rw [if_pos c2, if_pos c2]; rfl
    · rw [if_neg c2, if_neg c2, e]
      cases fX12_quiet_L1 x (sI (qs c) 2 0) fuel 1 1 0 with
      | none => rfl
      | some p =>
        show (fX12_quiet_L2 fuel p.2 p.1).bind _ = Option.map _ ((fX12_quiet_L2 fuel p.2 p.1).bind _)
        cases fX12_quiet_L2 fuel p.2 p.1 with
        | none => rfl
        | some g =>
          show (if y = 0 then _ else _) = Option.map _ (if y = 0 then _ else _)
          by_cases c3 : y = 0
          · rw [if_pos c3, if_pos c3]
            by_cases c4 : g = 0
            · rw [if_pos c4, if_pos c4]; rfl
            · rw [if_neg c4, if_neg c4]; rfl
          · rw [if_neg c3, if_neg c3]
            by_cases c4 : g = 0
            · rw [if_pos c4, if_pos c4]; rfl
            · rw [if_neg c4, if_neg c4]; rfl
theorem quiet_of {T : Nat → St} {mn M : St} {na ng nr ns : Nat} {x y : Int32} (hT : TR T M na ng nr ns) : ok (fX11_quiet mn T x y) (fun r => ok (fX12_quiet M x y) (fun r' => sR M r r')) := by
  obtain ⟨a1, a2, a3, ⟨c, _, hc, ec⟩, a5⟩ := hT.2.2.2.2.2.1
  have bad : ok (fX12_quiet M x y) (fun r' => sR M (-1 : Int64) r') ∨ (¬ fX12_isIn x 0 6 = 0 ∧ ¬ fX12_isIn y 0 1 = 0) := by
    unfold fX12_quiet
    by_cases c1 : fX12_isIn x 0 6 = 0
    · exact Or.inl (ok_lt (ok_t c1 (ok_some ⟨rfl, QF.th⟩)))
    · by_cases c2 : fX12_isIn y 0 1 = 0
      · exact Or.inl (ok_lt (ok_f c1 (ok_t c2 (ok_some ⟨rfl, QF.th⟩))))
      · exact Or.inr ⟨c1, c2⟩
  have no : (fX12_isIn x 0 6 = 0 ∨ fX12_isIn y 0 1 = 0) → ok (fX12_quiet M x y) (fun r' => sR M (-1 : Int64) r') := fun q => by
    rcases bad with b | ⟨b1, b2⟩
    · exact b
    · rcases q with q | q
      · exact absurd q b1
      · exact absurd q b2
  have main : ∀ n, n < 7 → ∀ w, w < 2 → x = nI n → y = nI w → ok (fX11_quiet mn T x y) (fun r => ok (fX12_quiet M x y) (fun r' => sR M r r')) := by
    intro n hn w hw e1 e2
    subst e1 e2
    obtain ⟨d1, d2⟩ := quiet_d c (by omega) n hn w hw
    rw [quiet_c (a1.trans ec), quiet_m ec]
    cases h : fX11_quiet (qs 0) (fun _ => qs c) (nI n) (nI w) with
    | none => rw [h] at d1; exact absurd d1 (by decide)
    | some v =>
      rw [h] at d2
      refine ok_some ?_
      cases h2 : fX12_quiet (qs c) (nI n) (nI w) with
      | none => rw [h2] at d2; cases d2
      | some p =>
        rw [h2] at d2
        exact ok_some ⟨(Option.some.inj d2).symm, QF.th⟩
  unfold fX11_quiet at main ⊢
  rcases in_or x (N := 6) (by decide) with h0 | ⟨h0, h1⟩ | ⟨h0, h1, n, hn, e1⟩
  · exact ok_t h0 (ok_some (no (Or.inl (isIn_0 (Or.inl h0)))))
  · exact ok_f h0 (ok_t h1 (ok_some (no (Or.inl (isIn_0 (Or.inr h1))))))
  · rcases in_or y (N := 1) (by decide) with k0 | ⟨k0, k1⟩ | ⟨k0, k1, w, hw, e2⟩
    · exact ok_f h0 (ok_f h1 (ok_t k0 (ok_some (no (Or.inr (isIn_0 (Or.inl k0)))))))
    · exact ok_f h0 (ok_f h1 (ok_f k0 (ok_f (fun q => (le_nlt _ _).mp q k1) (ok_some (no (Or.inr (isIn_0 (Or.inr k1))))))))
    · exact main n (by omega) w (by omega) e1 e2
/-! a guest: what the class does (0: it answers; 1, 2: it throws) -/
def gC (now : St) (T : Nat → St) (x y : Int32) : Option (Int32 × Int32) := if fX7_has 6 (T 2) x = 0 then some (1, 0) else if y = 0 then (fX8_taste T x).bind (fun v => some (0, v)) else if y = 1 then (fX8_hunger T x).bind (fun v => some (0, v)) else if y = 2 then (fX1_seatOf now x).bind (fun v => some (0, v)) else if y = 3 then (if x < 0 ∨ 6 ≤ x.toNatClampNeg then none else some (0, gA now 10 x.toNatClampNeg)) else if y = 4 then (if x < 0 ∨ 6 ≤ x.toNatClampNeg then none else some (0, gA now 11 x.toNatClampNeg)) else some (2, 0)
theorem QF.th2 {M : St} {v w : Int32} : QF M (sI (sI M 2 v) 2 w) := QF.th.tr QF.th
theorem guest_of {T : Nat → St} {now M : St} {na ng nr ns : Nat} {x y : Int32} (hT : TR T M na ng nr ns) (hH : HR now M 0 na ng nr) : ok (gC now T x y) (fun r => (r.1 = 0 ∨ r = (1, 0) ∨ r = (2, 0)) ∧ ok (fX12_guest M x y) (fun r' => gI r'.2 2 = r.1 ∧ (r.1 = 0 → r.2 = r'.1) ∧ QF M r'.2)) := by
  have h6 := hT.1.1.2.1
  have a5 := hT.1.2.1.2.1
  have hH1 : HR now (sI M 2 0) 0 na ng nr := hH.Q QF.th
  have em : fX12_isGuest (sI M 2 0) x = tst (nI ng) x := by rw [isGuest_t]; exact congrArg (fun w => tst w x) hT.1.2.2.2.1
  have ec : fX7_has 6 (T 2) x = tst (nI ng) x := by rw [has_t, a5]
  unfold gC fX12_guest
  rw [ec]
  rcases tst_or (k := ng) x (by omega) with q | ⟨i, hi, rfl, q⟩
  · exact ok_t q (ok_some ⟨Or.inr (Or.inl rfl), ok_lt (ok_t (em.trans q) (ok_lt (ok_some ⟨rfl, fun z => absurd z i10, QF.th2⟩)))⟩)
  · obtain ⟨_, e2, e3, _⟩ := hT.2.2.1 i hi
    have pre : ¬ fX12_isGuest (sI M 2 0) (nI i) = 0 := by rw [em, q]; exact i10
    have c12 : ¬ (nI i < 0 ∨ 12 ≤ i) := kx (by omega) (by decide)
    refine ok_f (by rw [q]; exact i10) ?_
    rw [taste_eq a5 hi h6, hunger_eq a5 hi h6, cl (show i < 2 ^ 31 by omega)]
    obtain ⟨s, s1, s2, s3, s4, s5⟩ := seatOf_of hH1 hi
    refine ok_if (fun c => ok_bind (ok_some (ok_some ⟨Or.inl rfl, ok_lt (ok_f pre (ok_t c (ok_f c12 (ok_some ⟨rfl, fun _ => e2, QF.th⟩))))⟩))) (fun c0 => ?_)
    refine ok_if (fun c => ok_bind (ok_some (ok_some ⟨Or.inl rfl, ok_lt (ok_f pre (ok_f c0 (ok_t c (ok_f c12 (ok_some ⟨rfl, fun _ => e3, QF.th⟩)))))⟩))) (fun c1 => ?_)
    refine ok_if (fun c => ok_bindx s4 (ok_some ⟨Or.inl rfl, ok_lt (ok_f pre (ok_f c0 (ok_f c1 (ok_t c (ok_bindx s5 (ok_some ⟨rfl, fun _ => rfl, QF.th⟩))))))⟩)) (fun c2 => ?_)
    refine ok_if (fun c => ok_f (kx (by omega) (by decide)) (ok_some ⟨Or.inl rfl, ok_lt (ok_f pre (ok_f c0 (ok_f c1 (ok_f c2 (ok_t c (ok_f c12 (ok_some ⟨rfl, fun _ => ?_, QF.th⟩)))))))⟩)) (fun c3 => ?_)
    · have := hH.2.1.2.1 i (by omega)
      rw [z6] at this
      exact this
    refine ok_if (fun c => ok_f (kx (by omega) (by decide)) (ok_some ⟨Or.inl rfl, ok_lt (ok_f pre (ok_f c0 (ok_f c1 (ok_f c2 (ok_f c3 (ok_t c (ok_f c12 (ok_some ⟨rfl, fun _ => ?_, QF.th⟩))))))))⟩)) (fun c4 => ?_)
    · have := hH.2.1.2.2.1 i (by omega)
      rw [z6] at this
      exact this
    exact ok_some ⟨Or.inr (Or.inr rfl), ok_lt (ok_f pre (ok_f c0 (ok_f c1 (ok_f c2 (ok_f c3 (ok_f c4 (ok_lt (ok_some ⟨rfl, fun z => absurd z (by decide), QF.th2⟩))))))))⟩
