/-! rests -/
def gv (M : St) (m : Int32) (g : Nat) (o t : Int32) : Int32 := if o = 1 then (if t = 0 then (1 : Int32) else 0) else if t = 0 then ((5 : Int32) - fX12_less (gA M 28 g) m) + 2 - gA M 29 g / 3 else ((5 : Int32) - fX12_less (gA M 28 g) m) - gA M 29 g / 2
theorem wo_c {T : Nat → St} {M : St} {na ng nr ns g : Nat} {m : Int32} (hT : TR T M na ng nr ns) (hg : g < ng) (h9 : nn m 0 9) : fX8_without T (nI g) m = some ((5 : Int32) - fX12_less (gA M 28 g) m) := by
  obtain ⟨_, e2, _, t9, _⟩ := hT.2.2.1 g hg
  unfold fX8_without
  rw [taste_eq hT.1.2.1.2.1 hg hT.1.1.2.1, e2]
  exact congrArg some (congrArg (fun z => (5 : Int32) - z) (less_eq t9 h9))
theorem wo_m {M : St} {g : Nat} {a m : Int32} (hg : g < 6) (hm : fX12_moodNow M a = some m) : fX12_without M (nI g) a = some ((5 : Int32) - fX12_less (gA M 28 g) m) := by
  unfold fX12_without
  rw [hm, cl (show g < 2 ^ 31 by omega)]
  exact fn (kx (by omega) (by decide)) rfl
theorem gain_eq {T : Nat → St} {mn M : St} {na ng nr ns g : Nat} {m o t : Int32} (hT : TR T M na ng nr ns) (hg : g < ng) (h9 : nn m 0 9) : fX11_gain mn T (nI g) m o t = some (gv M m g o t) := by
  have e3 := (hT.2.2.1 g hg).2.2.1
  unfold fX11_gain gv
  rw [wo_c hT hg h9, hunger_eq hT.1.2.1.2.1 hg hT.1.1.2.1, e3]
  by_cases c : o = 1
  · rw [if_pos c, if_pos c]; rfl
  · rw [if_neg c, if_neg c]
    refine bd_c rfl ?_
    by_cases c2 : t = 0
    · rw [if_pos c2, if_pos c2]; rfl
    · rw [if_neg c2, if_neg c2]; rfl
theorem hasBy_eq {M : St} {g : Nat} {a m o t : Int32} (hg : g < 6) (hm : fX12_moodNow M a = some m) : fX12_hasBy M (nI g) a o t = some (gv M m g o t) := by
  have c12 : ¬ (nI g < 0 ∨ 12 ≤ g) := kx (by omega) (by decide)
  unfold fX12_hasBy gv
  rw [wo_m hg hm, cl (show g < 2 ^ 31 by omega)]
  by_cases c : o = 1
  · rw [if_pos c, if_pos c]; rfl
  · rw [if_neg c, if_neg c]
    by_cases c2 : t = 0
    · rw [if_pos c2, if_pos c2]; exact bd_c rfl (fn c12 rfl)
    · rw [if_neg c2, if_neg c2]; exact bd_c rfl (fn c12 rfl)
theorem two_of {i : Nat} (hi : i < 4) : nI i >>> ((1 : Int32) &&& 31) = nI (i / 2) ∧ nI i &&& (1 : Int32) = nI (i % 2) ∧ nI i / 2 = nI (i / 2) ∧ nI i - nI i / 2 * 2 = nI (i % 2) := by
  rcases (show i = 0 ∨ i = 1 ∨ i = 2 ∨ i = 3 by omega) with rfl | rfl | rfl | rfl <;> decide
/-- both are content -/
def rsP (M : St) (m : Int32) (g h i : Nat) : Prop := ¬ gv M m g (nI (i / 2)) (nI (i % 2)) < gv M m g (1 - nI (i / 2)) (nI (i % 2)) ∧ ¬ gv M m h (nI (i % 2)) (nI (i / 2)) < gv M m h (1 - nI (i % 2)) (nI (i / 2))
theorem isRest_of {T : Nat → St} {mn M : St} {na ng nr ns g h i : Nat} {m : Int32} (hT : TR T M na ng nr ns) (hg : g < ng) (hh : h < ng) (h9 : nn m 0 9) (hi : i < 4) : (rsP M m g h i ∧ fX11_isRest mn T (nI g) (nI h) m (nI i) = some 1) ∨ (¬ rsP M m g h i ∧ fX11_isRest mn T (nI g) (nI h) m (nI i) = some 0) := by
  obtain ⟨e1, e2, _, _⟩ := two_of hi
  unfold fX11_isRest rsP
  rw [lt_eq, lt_eq, e1, e2, gain_eq hT hg h9, gain_eq hT hg h9, gain_eq hT hh h9, gain_eq hT hh h9]
  by_cases c1 : gv M m g (nI (i / 2)) (nI (i % 2)) < gv M m g (1 - nI (i / 2)) (nI (i % 2))
  · exact Or.inr ⟨fun q => q.1 c1, tp c1 rfl⟩
  · by_cases c2 : gv M m h (nI (i % 2)) (nI (i / 2)) < gv M m h (1 - nI (i % 2)) (nI (i / 2))
    · exact Or.inr ⟨fun q => q.2 c2, fn c1 (tp c2 rfl)⟩
    · exact Or.inl ⟨⟨c1, c2⟩, fn c1 (fn c2 rfl)⟩
theorem rm_step {M : St} {g h i nf : Nat} {a m w n : Int32} (hg : g < 6) (hh : h < 6) (hm : fX12_moodNow M a = some m) (hi : i < 4) : (rsP M m g h i → fX12_restAt_L1 M (nI g) (nI h) a w (nf + 1) n (nI i) = if n = w then some (.inr ((10 : Int32) * nI (i / 2) + nI (i % 2))) else fX12_restAt_L1 M (nI g) (nI h) a w nf (n + 1) (nI (i + 1))) ∧ (¬ rsP M m g h i → fX12_restAt_L1 M (nI g) (nI h) a w (nf + 1) n (nI i) = fX12_restAt_L1 M (nI g) (nI h) a w nf n (nI (i + 1))) := by
  obtain ⟨_, _, e3, e4⟩ := two_of hi
  have c4 : ¬ (4 : Int32) ≤ nI i := fun q => by rw [show (4 : Int32) = nI 4 from rfl, nI_leI (by omega) (by omega)] at q; omega
  rw [fX12_restAt_L1, lt_eq, lt_eq, e4, e3, hasBy_eq hg hm, hasBy_eq hg hm, hasBy_eq hh hm, hasBy_eq hh hm, nI_1]
  unfold rsP
  constructor
  · intro p
    exact fn c4 (lt_c (fn p.1 (tp ((le_nlt _ _).mpr p.2) rfl)))
  · intro p
    refine fn c4 (lt_c ?_)
    by_cases c1 : gv M m g (nI (i / 2)) (nI (i % 2)) < gv M m g (1 - nI (i / 2)) (nI (i % 2))
    · exact tp c1 rfl
    · exact fn c1 (fn (fun q => p ⟨c1, (le_nlt _ _).mp q⟩) rfl)
theorem rests_L {T : Nat → St} {mn M : St} {na ng nr ns g h ac : Nat} {m : Int32} (hT : TR T M na ng nr ns) (hg : g < ng) (hh : h < ng) (ha : fX8_mood T (nI ac) = some m) (hm : fX12_moodNow M (nI ac) = some m) (h9 : nn m 0 9) : ∀ (d nf nf2 i t : Nat), i + d = 4 → t ≤ i → d < nf → d < nf2 → ok (fX11_rests_L1 mn T (nI g) (nI h) (nI ac) nf (nI t) (nI i)) (fun y => fX12_restAt_L1 M (nI g) (nI h) (nI ac) (-1) nf2 (nI t) (nI i) = some (.inl y))
  | 0, nf + 1, nf2 + 1, i, t, hi, _, _, _ => by
    rw [fX11_rests_L1, fX12_restAt_L1]
    have q : nI 4 ≤ nI i := by rw [nI_leI (by omega) (by omega)]; omega
    exact ok_t q (ok_some (tp q rfl))
  | d + 1, nf + 1, nf2 + 1, i, t, hi, ht, g1, g2 => by
    have h6 := hT.1.1.2.1
    obtain ⟨s1, s2⟩ := rm_step (nf := nf2) (w := -1) (n := nI t) (show g < 6 by omega) (show h < 6 by omega) hm (show i < 4 by omega)
    have q : ¬ nI 4 ≤ nI i := by rw [nI_leI (by omega) (by omega)]; omega
    rw [fX11_rests_L1]
    refine ok_f q (ok_bindx ha ?_)
    rcases isRest_of (mn := mn) hT hg hh h9 (show i < 4 by omega) with ⟨p, e⟩ | ⟨p, e⟩
    · refine ok_bindx e (ok_lt (ok_f i10 (ok_lt (ok_lt ?_))))
      rw [nI_1, nI_1, s1 p, if_neg (nI_nn (by omega)), nI_1]
      exact rests_L hT hg hh ha hm h9 d nf nf2 (i + 1) (t + 1) (by omega) (by omega) (by omega) (by omega)
    · refine ok_bindx e (ok_lt (ok_t rfl (ok_lt ?_)))
      rw [nI_1, s2 p]
      exact rests_L hT hg hh ha hm h9 d nf nf2 (i + 1) t (by omega) (by omega) (by omega) (by omega)
theorem rest_L {T : Nat → St} {mn M : St} {na ng nr ns g h ac : Nat} {m w : Int32} (hT : TR T M na ng nr ns) (hg : g < ng) (hh : h < ng) (ha : fX8_mood T (nI ac) = some m) (hm : fX12_moodNow M (nI ac) = some m) (h9 : nn m 0 9) : ∀ (d nf nf2 i : Nat) (t : Int32), i + d = 4 → d < nf → d < nf2 → ok (fX11_rest_L1 mn T (nI g) (nI h) (nI ac) w nf t (nI i)) (fun y => ok (fX12_restAt_L1 M (nI g) (nI h) (nI ac) w nf2 t (nI i)) (fun y' => (y = .inl () ∧ ∃ v, y' = .inl v) ∨ ∃ v, y = .inr v ∧ y' = .inr v))
  | 0, nf + 1, nf2 + 1, i, t, hi, _, _ => by
    rw [fX11_rest_L1, fX12_restAt_L1]
    have q : nI 4 ≤ nI i := by rw [nI_leI (by omega) (by omega)]; omega
    exact ok_t q (ok_some (ok_t q (ok_some (Or.inl ⟨rfl, _, rfl⟩))))
  | d + 1, nf + 1, nf2 + 1, i, t, hi, g1, g2 => by
    have h6 := hT.1.1.2.1
    obtain ⟨s1, s2⟩ := rm_step (nf := nf2) (w := w) (n := t) (show g < 6 by omega) (show h < 6 by omega) hm (show i < 4 by omega)
    obtain ⟨e1, e2, _, _⟩ := two_of (show i < 4 by omega)
    have q : ¬ nI 4 ≤ nI i := by rw [nI_leI (by omega) (by omega)]; omega
    rw [fX11_rest_L1]
    refine ok_f q (ok_bindx ha ?_)
    rcases isRest_of (mn := mn) hT hg hh h9 (show i < 4 by omega) with ⟨p, e⟩ | ⟨p, e⟩
    · refine ok_bindx e (ok_lt (ok_f i10 ?_))
      rw [s1 p]
      refine ok_if (fun c => ok_some ?_) (fun c => ok_lt (ok_lt ?_))
      · rw [e1, e2]
        exact ok_t c (ok_some (Or.inr ⟨_, rfl, rfl⟩))
      · rw [nI_1]
        exact ok_mono (rest_L hT hg hh ha hm h9 d nf nf2 (i + 1) (t + 1) (by omega) (by omega) (by omega)) (fun y hy => ok_f c hy)
    · refine ok_bindx e (ok_lt (ok_t rfl (ok_lt ?_)))
      rw [nI_1, s2 p]
      exact rest_L hT hg hh ha hm h9 d nf nf2 (i + 1) t (by omega) (by omega) (by omega)
/-- two guests and an act, on both sides -/
theorem two_or {T : Nat → St} {mn M : St} {na ng nr ns : Nat} {x y z : Int32} (hT : TR T M na ng nr ns) : (fX12_areTwo M x y z = 0 ∧ (fX11_areTwoGuests mn T x y = 0 ∨ (fX11_areTwoGuests mn T x y = 1 ∧ fX7_has 6 (T 1) z = 0))) ∨ ∃ g h a, g < ng ∧ h < ng ∧ a < na ∧ x = nI g ∧ y = nI h ∧ z = nI a ∧ fX12_areTwo M x y z = 1 ∧ fX11_areTwoGuests mn T x y = 1 ∧ fX7_has 6 (T 1) z = 1 := by
  have h6 := hT.1.1.2.1
  have a6 := hT.1.1.1
  unfold fX12_areTwo fX11_areTwoGuests
  rw [isGuest_t, isGuest_t, isAct_t, has_t, has_t, has_t, hT.1.2.1.1, hT.1.2.1.2.1, hT.1.2.2.1, hT.1.2.2.2.1]
  rcases tst_or (k := ng) x (by omega) with q | ⟨g, hg, rfl, q⟩
  · rw [q]; exact Or.inl ⟨rfl, Or.inl rfl⟩
  · rw [q]
    rcases tst_or (k := ng) y (by omega) with q2 | ⟨h, hh, rfl, q2⟩
    · rw [q2]; exact Or.inl ⟨rfl, Or.inl rfl⟩
    · rw [q2]
      by_cases c : nI g = nI h
      · exact Or.inl ⟨fn i10 (fn i10 (tp c rfl)), Or.inl (fn i10 (fn i10 (tp c rfl)))⟩
      · rcases tst_or (k := na) z (by omega) with q3 | ⟨a, ha, rfl, q3⟩
        · rw [q3]; exact Or.inl ⟨fn i10 (fn i10 (fn c rfl)), Or.inr ⟨fn i10 (fn i10 (fn c rfl)), rfl⟩⟩
        · rw [q3]; exact Or.inr ⟨g, h, a, hg, hh, ha, rfl, rfl, rfl, fn i10 (fn i10 (fn c rfl)), fn i10 (fn i10 (fn c rfl)), rfl⟩
/-- an act's own mood, on both sides -/
theorem mood_pl {T : Nat → St} {M : St} {na ng nr ns a : Nat} (hT : TR T M na ng nr ns) (h72 : gI M 72 = -1) (ha : a < na) : fX8_mood T (nI a) = some (gA M 25 a) ∧ fX12_moodNow M (nI a) = some (gA M 25 a) ∧ nn (gA M 25 a) 0 9 := by
  have a6 := hT.1.1.1
  refine ⟨?_, ?_, (hT.2.1 a ha).2.2.2.1⟩
  · rw [mood_eq hT.1.2.1.1 ha a6, (hT.2.1 a ha).2.1]
  · unfold fX12_moodNow
    rw [h72, cl (show a < 2 ^ 31 by omega)]
    exact tp (nI_pos' (by omega)) (fn (nI_nn (by omega)) (fn (kx (by omega) (by decide)) rfl))
theorem rests_of {T : Nat → St} {mn M : St} {na ng nr ns : Nat} {x y z : Int32} (hT : TR T M na ng nr ns) : ok (fX11_rests mn T x y z) (fun r => ok (fX12_rests M x y z) (fun r' => sR M r r')) := by
  have hp := plain_of (sI M 2 0)
  have hT2 : TR T (fX12_plainTried (sI M 2 0)) na ng nr ns := (hT.Q QF.th).Q hp.1
  have hq : QF M (fX12_plainTried (sI M 2 0)) := QF.th.tr hp.1
  unfold fX11_rests fX12_rests
  rcases two_or (mn := mn) (x := x) (y := y) (z := z) hT2 with ⟨q, q2 | ⟨q2, q3⟩⟩ | ⟨g, h, a, hg, hh, ha, rfl, rfl, rfl, q, q2, q3⟩
  · exact ok_t q2 (ok_some (ok_lt (ok_lt (ok_t q (ok_some ⟨rfl, hq⟩)))))
  · exact ok_f (by rw [q2]; exact i10) (ok_t q3 (ok_some (ok_lt (ok_lt (ok_t q (ok_some ⟨rfl, hq⟩))))))
  · obtain ⟨e1, e2, h9⟩ := mood_pl hT2 hp.2.2.2.2.2.2.2.2.2.2.1 ha
    refine ok_f (by rw [q2]; exact i10) (ok_f (by rw [q3]; exact i10) (ok_bind (ok_mono (rests_L (mn := mn) hT2 hg hh e1 e2 h9 4 fuel fuel 0 0 (by omega) (by omega) (by rw [fuel_eq]; omega) (by rw [fuel_eq]; omega)) (fun v hv => ok_some (ok_lt (ok_lt (ok_f (by rw [q]; exact i10) ?_)))))))
    unfold fX12_restAt
    exact ok_bind (ok_bindx hv (ok_lt (ok_some (ok_some ⟨rfl, hq⟩))))
theorem rest_of' {T : Nat → St} {mn M : St} {na ng nr ns : Nat} {x y z w : Int32} (hT : TR T M na ng nr ns) : ok (fX11_rest mn T x y z w) (fun r => ok (fX12_rest M x y z w) (fun r' => sR M r r')) := by
  have hp := plain_of (sI M 2 0)
  have hT2 : TR T (fX12_plainTried (sI M 2 0)) na ng nr ns := (hT.Q QF.th).Q hp.1
  have hq : QF M (fX12_plainTried (sI M 2 0)) := QF.th.tr hp.1
  unfold fX11_rest fX12_rest
  rcases two_or (mn := mn) (x := x) (y := y) (z := z) hT2 with ⟨q, q2 | ⟨q2, q3⟩⟩ | ⟨g, h, a, hg, hh, ha, rfl, rfl, rfl, q, q2, q3⟩
  · exact ok_t q2 (ok_some (ok_lt (ok_lt (ok_t q (ok_some ⟨rfl, hq⟩)))))
  · exact ok_f (by rw [q2]; exact i10) (ok_t q3 (ok_some (ok_lt (ok_lt (ok_t q (ok_some ⟨rfl, hq⟩))))))
  · obtain ⟨e1, e2, h9⟩ := mood_pl hT2 hp.2.2.2.2.2.2.2.2.2.2.1 ha
    refine ok_f (by rw [q2]; exact i10) (ok_f (by rw [q3]; exact i10) ?_)
    refine ok_if (fun c => ?_) (fun c => ok_some (ok_lt (ok_lt (ok_f (by rw [q]; exact i10) (ok_t ?_ (ok_some ⟨rfl, hq⟩))))))
    · refine ok_bind (ok_mono (rest_L (mn := mn) (w := w) hT2 hg hh e1 e2 h9 4 fuel fuel 0 0 (by omega) (by rw [fuel_eq]; omega) (by rw [fuel_eq]; omega)) (fun v hv => ?_))
      obtain ⟨v', ev, hv'⟩ := hv
      have c' : ¬ w < 0 := (le_nlt _ _).mp c
      rcases hv' with ⟨rfl, u, rfl⟩ | ⟨u, rfl, rfl⟩
      · refine ok_some (ok_lt (ok_lt (ok_f (by rw [q]; exact i10) (ok_f c' ?_))))
        unfold fX12_restAt
        refine ok_bind (ok_bindx ev (ok_lt (ok_some (ok_some ⟨?_, hq⟩))))
        show (-2 : Int32) = if 0 ≤ w then (-2 : Int32) else u
        rw [if_pos c]
      · refine ok_some (ok_lt (ok_lt (ok_f (by rw [q]; exact i10) (ok_f c' ?_))))
        unfold fX12_restAt
        exact ok_bind (ok_bindx ev (ok_some (ok_some ⟨rfl, hq⟩)))
    · rw [i_le] at c; rw [i_lt]; omega
