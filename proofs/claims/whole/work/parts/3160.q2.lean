/-! flour, silence, a push that is enough -/
theorem pass1 {T : Nat → St} {ml nm u M : St} {na ng nr ns b : Nat} (hb : b < 2) (hT : TR T M na ng nr ns) (hH : HR u M b na ng nr) (hR : MR ml M) (hJ : gI M 65 = 1 → gJ u 8 = gJ M 64) : ok (fX2_pass 7 ml nm T u 1) (fun r => ok (fX12_minuteGoes M (nI b)) (fun M' => mnR b na ng nr T u M r M')) := by
  rw [show (1 : Int32) = nI 1 from rfl, pass_eq (by decide)]
  show ok ((cMin ml nm T u).bind fun r => some (r.1, r.2.1, r.2.2)) _
  exact ok_bind (ok_mono (min_of hb hT hH hR hJ) (fun r hr => ok_some hr))
theorem mn_Q {na ng nr : Nat} {T : Nat → St} {u M M' : St} {r : St × (Nat → St) × St} (h : mnR 1 na ng nr T u M r M') (h65 : gI M 65 = 0) : QF M M' := QF.FR h.2.1 (h.2.2.2.2.1 h65).1
def flR (T : Nat → St) (M ml : St) (y : (St × St × (Nat → St)) ⊕ (Int32 × St × St × St × (Nat → St))) (y' : St ⊕ (Int32 × St)) : Prop := (∃ nm' u' T' M', y = .inl (nm', u', T') ∧ y' = .inl M' ∧ fT T T' ∧ QF M M') ∨ ∃ v nm' u' T' M', y = .inr (v, ml, nm', u', T') ∧ y' = .inr (v, M') ∧ fT T T' ∧ QF M M'
theorem flour_L {na ng nr ns : Nat} {x : Int32} {r3 : St × St} : ∀ (d nf nf2 i : Nat) (T : Nat → St) (nm u M : St), i + d = 200 → d < nf → d < nf2 → TR T M na ng nr ns → HR u M 1 na ng nr → MR r3.1 M → gI M 65 = 0 → ok (fX11_flour_L1 x r3 nf (nI i) nm u T) (fun y => ok (fX12_flour_L1 x nf2 (nI i) M) (fun y' => flR T M r3.1 y y'))
  | 0, nf + 1, nf2 + 1, i, T, nm, u, M, h, _, _, hT, hH, hR, h65 => by
    rw [fX11_flour_L1, fX12_flour_L1]
    refine ok_t (show nI 199 < nI i by rw [nI_ltI (by omega) (by omega)]; omega) (ok_some (ok_t (show nI 200 ≤ nI i by rw [nI_leI (by omega) (by omega)]; omega) (ok_some (Or.inl ⟨_, _, _, _, rfl, rfl, fT.rf, QF.rf⟩))))
  | d + 1, nf + 1, nf2 + 1, i, T, nm, u, M, h, g1, g2, hT, hH, hR, h65 => by
    rw [fX11_flour_L1, fX12_flour_L1]
    have c1 : ¬ nI 199 < nI i := by rw [nI_ltI (by omega) (by omega)]; omega
    have c2 : ¬ nI 200 ≤ nI i := by rw [nI_leI (by omega) (by omega)]; omega
    have eg := gAll_HR hH
    refine ok_f c1 ?_
    rw [eg]
    refine ok_if (fun c => ?_) (fun c => ?_)
    · refine ok_bind (ok_mono (pass1 (nm := nm) (b := 1) (by decide) hT hH hR (fun q => absurd (h65.symm.trans q) (by decide))) (fun r hr => ok_lt ?_))
      obtain ⟨M1, e1, k⟩ := hr
      have hQ := mn_Q k h65
      rw [nI_1]
      refine ok_mono (flour_L d nf nf2 (i + 1) r.2.1 r.1 r.2.2 M1 (by omega) (by omega) (by omega) ((hT.fT k.1).fr k.2.1) k.2.2.1 (hR.fr k.2.1) ((k.2.1.I (by decide)).trans h65)) (fun y hy => ?_)
      refine ok_f c2 (ok_bindx (groundAll_eq (b := 1) (by decide)) (ok_t c (ok_bindx e1 (ok_lt ?_))))
      refine ok_mono hy (fun y' hy' => ?_)
      rcases hy' with ⟨a1, a2, a3, a4, h1, h2, h3, h4⟩ | ⟨a0, a1, a2, a3, a4, h1, h2, h3, h4⟩
      · exact Or.inl ⟨a1, a2, a3, a4, h1, h2, k.1.tr h3, hQ.tr h4⟩
      · exact Or.inr ⟨a0, a1, a2, a3, a4, h1, h2, k.1.tr h3, hQ.tr h4⟩
    · refine ok_some (ok_f c2 (ok_bindx (groundAll_eq (b := 1) (by decide)) (ok_f c (ok_some ?_))))
      exact Or.inr ⟨_, _, _, _, _, rfl, rfl, fT.rf, QF.rf⟩
theorem le_nlt (a c : Int32) : a ≤ c ↔ ¬ c < a := by rw [i_le, i_lt]; omega
theorem flour_of {T : Nat → St} {mn ml nm now trial M : St} {na ng nr ns : Nat} {x : Int32} (hT : TR T M na ng nr ns) (hH : HR now M 0 na ng nr) : ok (fX11_flour mn ml nm now trial T x) (fun r => ok (fX12_flour M x) (fun r' => qR T M r r')) := by
  have hT1 : TR T (sI M 2 0) na ng nr ns := hT.Q QF.th
  have hH1 : HR now (sI M 2 0) 0 na ng nr := hH.Q QF.th
  have bad : qR T M ((-1 : Int32), ml, nm, trial, T) ((-1 : Int32), sI M 2 0) := ⟨rfl, fT.rf, QF.th⟩
  unfold fX11_flour fX12_flour
  by_cases h0 : x < 0
  · exact ok_t h0 (ok_some (ok_lt (ok_t (isIn_0 (Or.inl h0)) (ok_some bad))))
  · by_cases h1 : (999 : Int32) < x
    · exact ok_f h0 (ok_f (fun q => (le_nlt _ _).mp q h1) (ok_some (ok_lt (ok_t (isIn_0 (Or.inr h1)) (ok_some bad)))))
    · refine ok_f h0 (ok_t ((le_nlt _ _).mpr h1) (ok_bind (ok_mono (start_of hT1 hH1) (fun r4 hr4 => ?_))))
      obtain ⟨e4, _, M1, eM1, t1, t2, t3, t4, t5⟩ := hr4
      refine ok_bind (ok_mono (flour_L 200 fuel fuel 0 T nm r4.2 M1 (by omega) (by rw [fuel_eq]; omega) (by rw [fuel_eq]; omega) t2 t3 t4 t5) (fun y hy => ?_))
      obtain ⟨y', ey, hy'⟩ := hy
      rcases hy' with ⟨a1, a2, a3, a4, rfl, rfl, k3, k4⟩ | ⟨a0, a1, a2, a3, a4, rfl, rfl, k3, k4⟩
      · exact ok_some (ok_lt (ok_f (by rw [isIn_1 h0 h1]; exact i10) (ok_bindx eM1 (ok_bindx ey (ok_some ⟨rfl, k3, QF.th.tr (t1.tr k4)⟩)))))
      · exact ok_some (ok_lt (ok_f (by rw [isIn_1 h0 h1]; exact i10) (ok_bindx eM1 (ok_bindx ey (ok_some ⟨rfl, k3, QF.th.tr (t1.tr k4)⟩)))))
theorem silence_L {na ng nr ns n : Nat} {r3 : St × St} (hn : n ≤ 200) : ∀ (d nf nf2 i : Nat) (a c : Int32) (T : Nat → St) (nm u M : St), i + d = n → d < nf → d < nf2 → TR T M na ng nr ns → HR u M 1 na ng nr → MR r3.1 M → gI M 65 = 0 → ok (fX11_silence_L1 (nI n) r3 nf a c (nI i) nm u T) (fun y => ok (fX12_silence_L1 (nI n) nf2 a c (nI i) M) (fun y' => y.1 = y'.1 ∧ fT T y.2.2.2 ∧ QF M y'.2))
  | 0, nf + 1, nf2 + 1, i, a, c, T, nm, u, M, h, _, _, hT, hH, hR, h65 => by
    rw [fX11_silence_L1, fX12_silence_L1]
    have q : nI n ≤ nI i := by rw [nI_leI (by omega) (by omega)]; omega
    exact ok_t q (ok_some (ok_t q (ok_some ⟨rfl, fT.rf, QF.rf⟩)))
  | d + 1, nf + 1, nf2 + 1, i, a, c, T, nm, u, M, h, g1, g2, hT, hH, hR, h65 => by
    rw [fX11_silence_L1, fX12_silence_L1]
    have q : ¬ nI n ≤ nI i := by rw [nI_leI (by omega) (by omega)]; omega
    refine ok_f q (ok_bind (ok_mono (pass1 (nm := nm) (b := 1) (by decide) hT hH hR (fun q => absurd (h65.symm.trans q) (by decide))) (fun r hr => ok_lt (ok_lt (ok_lt ?_)))))
    obtain ⟨M1, e1, k⟩ := hr
    have hQ := mn_Q k h65
    rw [k.2.2.1.1.2.1, nI_1]
    refine ok_mono (silence_L hn d nf nf2 (i + 1) _ _ r.2.1 r.1 r.2.2 M1 (by omega) (by omega) (by omega) ((hT.fT k.1).fr k.2.1) k.2.2.1 (hR.fr k.2.1) ((k.2.1.I (by decide)).trans h65)) (fun y hy => ?_)
    refine ok_f q (ok_bindx e1 (ok_lt (ok_lt (ok_lt ?_))))
    have e : (if (if gA M1 55 1 = 0 then c + 1 else 0) ≤ a then a else (if gA M1 55 1 = 0 then c + 1 else 0)) = if a < (if gA M1 55 1 = 0 then c + 1 else 0) then (if gA M1 55 1 = 0 then c + 1 else 0) else a := by
      by_cases w : a < (if gA M1 55 1 = 0 then c + 1 else 0)
      · rw [if_pos w, if_neg (fun z => (le_nlt _ _).mp z w)]
      · rw [if_neg w, if_pos ((le_nlt _ _).mpr w)]
    rw [e]
    exact ok_mono hy (fun y' hy' => ⟨hy'.1, k.1.tr hy'.2.1, hQ.tr hy'.2.2⟩)
theorem silence_of {T : Nat → St} {mn ml nm now trial M : St} {na ng nr ns : Nat} {x : Int32} (hT : TR T M na ng nr ns) (hH : HR now M 0 na ng nr) : ok (fX11_silence mn ml nm now trial T x) (fun r => ok (fX12_silence M x) (fun r' => qR T M r r')) := by
  have hT1 : TR T (sI M 2 0) na ng nr ns := hT.Q QF.th
  have hH1 : HR now (sI M 2 0) 0 na ng nr := hH.Q QF.th
  have bad : qR T M ((-1 : Int32), ml, nm, trial, T) ((-1 : Int32), sI M 2 0) := ⟨rfl, fT.rf, QF.th⟩
  unfold fX11_silence fX12_silence
  rcases in_or x (N := 200) (by decide) with h0 | ⟨h0, h1⟩ | ⟨h0, h1, n, hn, rfl⟩
  · exact ok_t h0 (ok_some (ok_lt (ok_t (isIn_0 (Or.inl h0)) (ok_some bad))))
  · exact ok_f h0 (ok_f (fun q => (le_nlt _ _).mp q h1) (ok_some (ok_lt (ok_t (isIn_0 (Or.inr h1)) (ok_some bad)))))
  · refine ok_f h0 (ok_t ((le_nlt _ _).mpr h1) (ok_bind (ok_mono (start_of hT1 hH1) (fun r4 hr4 => ?_))))
    obtain ⟨e4, _, M1, eM1, t1, t2, t3, t4, t5⟩ := hr4
    refine ok_bind (ok_mono (silence_L hn n fuel fuel 0 0 0 T nm r4.2 M1 (by omega) (by rw [fuel_eq]; omega) (by rw [fuel_eq]; omega) t2 t3 t4 t5) (fun y hy => ok_some ?_))
    exact ok_lt (ok_f (by rw [isIn_1 (c := 200) h0 h1]; exact i10) (ok_bindx eM1 (ok_bind (ok_mono hy (fun y' hy' => ok_some ⟨hy'.1, hy'.2.1, QF.th.tr (t1.tr hy'.2.2)⟩)))))
def pfR (T : Nat → St) (M : St) (y : (St × St × St × (Nat → St)) ⊕ (Int32 × St × St × St × (Nat → St))) (y' : St ⊕ (Int32 × St)) : Prop := (∃ ml' nm' u' T' M', y = .inl (ml', nm', u', T') ∧ y' = .inl M' ∧ fT T T' ∧ QF M M') ∨ ∃ v ml' nm' u' T' M', y = .inr (v, ml', nm', u', T') ∧ y' = .inr (v, M') ∧ fT T T' ∧ QF M M'
theorem pushFor_L {mn now : St} {na ng nr ns n : Nat} {x : Int32} (hn : n ≤ 60) : ∀ (d nf nf2 i : Nat) (T : Nat → St) (ml nm trial M : St), i + d = 100 → d < nf → d < nf2 → TR T M na ng nr ns → HR now M 0 na ng nr → ok (fX11_pushFor_L1 mn now (nI n) x nf (nI i) ml nm trial T) (fun y => ok (fX12_pushFor_L1 (nI n) x nf2 (nI i) M) (fun y' => pfR T M y y'))
  | 0, nf + 1, nf2 + 1, i, T, ml, nm, trial, M, h, _, _, hT, hH => by
    rw [fX11_pushFor_L1, fX12_pushFor_L1]
    refine ok_t (show nI 99 < nI i by rw [nI_ltI (by omega) (by omega)]; omega) (ok_some (ok_t (show nI 100 ≤ nI i by rw [nI_leI (by omega) (by omega)]; omega) (ok_some (Or.inl ⟨_, _, _, _, _, rfl, rfl, fT.rf, QF.rf⟩))))
  | d + 1, nf + 1, nf2 + 1, i, T, ml, nm, trial, M, h, g1, g2, hT, hH => by
    rw [fX11_pushFor_L1, fX12_pushFor_L1]
    have c1 : ¬ nI 99 < nI i := by rw [nI_ltI (by omega) (by omega)]; omega
    have c2 : ¬ nI 100 ≤ nI i := by rw [nI_leI (by omega) (by omega)]; omega
    refine ok_f c1 (ok_bind (ok_mono (start_of hT hH) (fun r4 hr4 => ok_lt ?_)))
    obtain ⟨e4, _, M1, eM1, t1, t2, t3, t4, t5⟩ := hr4
    have ti : (nI i).toInt = i := nIi (by omega)
    have f1 : FR 1 M1 (sA M1 55 1 (nI i)) := FR.wA (by decide) (by decide) rfl
    refine ok_bind (ok_mono (go1 (nm := nm) (n := n) (by omega) (t2.fr f1) (t3.w55 (v := nI i) (by omega) (by omega)) (t4.fr f1) (fun q => absurd (t5.symm.trans q) (by decide))) (fun r6 hr6 => ?_))
    obtain ⟨M2, eM2, k⟩ := hr6
    have hQ := t1.tr ((QF.FR f1 rfl).tr (it_Q k t5))
    have e1 := gAll_HR k.2.2.1
    have e0 := gAll_HR (hH.Q hQ)
    rw [e1, e0]
    refine ok_if (fun c => ok_lt ?_) (fun c => ok_some ?_)
    · rw [nI_1]
      refine ok_mono (pushFor_L hn d nf nf2 (i + 1) r6.2.1 r4.1 r6.1 r6.2.2 M2 (by omega) (by omega) (by omega) ((hT.fT k.1).Q hQ) (hH.Q hQ)) (fun y hy => ?_)
      refine ok_f c2 (ok_bindx eM1 (ok_lt (ok_bindx eM2 (ok_bindx (groundAll_eq (b := 1) (by decide)) (ok_bindx (groundAll_eq (b := 0) (by decide)) (ok_t c (ok_lt ?_)))))))
      refine ok_mono hy (fun y' hy' => ?_)
      rcases hy' with ⟨a0, a1, a2, a3, a4, h1, h2, h3, h4⟩ | ⟨a, a0, a1, a2, a3, a4, h1, h2, h3, h4⟩
      · exact Or.inl ⟨a0, a1, a2, a3, a4, h1, h2, k.1.tr h3, hQ.tr h4⟩
      · exact Or.inr ⟨a, a0, a1, a2, a3, a4, h1, h2, k.1.tr h3, hQ.tr h4⟩
    · refine ok_f c2 (ok_bindx eM1 (ok_lt (ok_bindx eM2 (ok_bindx (groundAll_eq (b := 1) (by decide)) (ok_bindx (groundAll_eq (b := 0) (by decide)) (ok_f c (ok_some ?_)))))))
      exact Or.inr ⟨_, _, _, _, _, _, rfl, rfl, k.1, hQ⟩
theorem pushFor_of {T : Nat → St} {mn ml nm now trial M : St} {na ng nr ns : Nat} {x y : Int32} (hT : TR T M na ng nr ns) (hH : HR now M 0 na ng nr) : ok (fX11_pushFor mn ml nm now trial T x y) (fun r => ok (fX12_pushFor M x y) (fun r' => qR T M r r')) := by
  have hT1 : TR T (sI M 2 0) na ng nr ns := hT.Q QF.th
  have hH1 : HR now (sI M 2 0) 0 na ng nr := hH.Q QF.th
  have bad : qR T M ((-1 : Int32), ml, nm, trial, T) ((-1 : Int32), sI M 2 0) := ⟨rfl, fT.rf, QF.th⟩
  unfold fX11_pushFor fX12_pushFor
  rcases in_or x (N := 60) (by decide) with h0 | ⟨h0, h1⟩ | ⟨h0, h1, n, hn, rfl⟩
  · exact ok_t h0 (ok_some (ok_lt (ok_t (isIn_0 (Or.inl h0)) (ok_some bad))))
  · exact ok_f h0 (ok_t h1 (ok_some (ok_lt (ok_t (isIn_0 (Or.inr h1)) (ok_some bad)))))
  · have in1 : ¬ fX12_isIn (nI n) 0 60 = 0 := by rw [isIn_1 (c := 60) h0 h1]; exact i10
    refine ok_f h0 (ok_f h1 ?_)
    by_cases y0 : y < (1 : Int32)
    · exact ok_t y0 (ok_some (ok_lt (ok_f in1 (ok_t (isIn_0 (Or.inl y0)) (ok_some bad)))))
    · by_cases y1 : (99 : Int32) < y
      · exact ok_f y0 (ok_f (fun q => (le_nlt _ _).mp q y1) (ok_some (ok_lt (ok_f in1 (ok_t (isIn_0 (Or.inr y1)) (ok_some bad))))))
      · refine ok_f y0 (ok_t ((le_nlt _ _).mpr y1) (ok_bind (ok_mono (pushFor_L (mn := mn) (x := y) hn 100 fuel fuel 0 T ml nm trial (sI M 2 0) (by omega) (by rw [fuel_eq]; omega) (by rw [fuel_eq]; omega) hT1 hH1) (fun w hw => ?_))))
        obtain ⟨w', ey, hw'⟩ := hw
        rcases hw' with ⟨a, a1, a2, a3, a4, rfl, rfl, k3, k4⟩ | ⟨a, a0, a1, a2, a3, a4, rfl, rfl, k3, k4⟩
        · exact ok_some (ok_lt (ok_f in1 (ok_f (by rw [isIn_1 y0 y1]; exact i10) (ok_bindx ey (ok_some ⟨rfl, k3, QF.th.tr k4⟩)))))
        · exact ok_some (ok_lt (ok_f in1 (ok_f (by rw [isIn_1 y0 y1]; exact i10) (ok_bindx ey (ok_some ⟨rfl, k3, QF.th.tr k4⟩)))))
