/-! all claps of a minute -/
theorem moodOn_of {T : Nat → St} {ml u M : St} {na ng nr ns b : Nat} (hT : TR T M na ng nr ns) (hH : HR u M b na ng nr) (hR : MR ml M) : ∃ m, fX2_moodOn ml T u = some m ∧ fX12_moodNow M (gA M 53 b) = some m ∧ nn m 0 9 := by
  obtain ⟨⟨⟨h6, _, _, _⟩, ⟨ha5, _, _, _⟩, _⟩, hTa, _⟩ := hT
  have v2 := hH.1.2.2.1
  obtain ⟨_, _, _, _, _, m7, m8, m9⟩ := hR
  unfold fX2_moodOn fX12_moodNow
  rw [v2, m7, m8]
  rcases hH.2.2.2.1 with ⟨q, _⟩ | ⟨i, hi, q, _⟩
  · rw [q]; exact ⟨0, rfl, rfl, ⟨0, by omega, by omega, rfl⟩⟩
  · rw [q]
    have n1 : ¬ nI i = -1 := nI_nn (by omega)
    have n2 : 0 ≤ nI i := nI_pos' (by omega)
    by_cases c : nI i = gI M 72
    · exact ⟨gI M 73, fn n1 (tp c rfl), tp n2 (tp c rfl), m9⟩
    · refine ⟨gA M 25 i, fn n1 (fn c ?_), tp n2 (fn c (fn (ck (by omega) (by decide)) ?_)), (hTa i hi).2.2.2.1⟩
      · rw [mood_eq ha5 hi h6, (hTa i hi).2.1]; rfl
      · rw [cl (by omega)]
theorem moodNow_c {M M' : St} (h1 : gI M' 72 = gI M 72) (h2 : gI M' 73 = gI M 73) (h3 : gA M' 25 = gA M 25) (a : Int32) : fX12_moodNow M' a = fX12_moodNow M a := by
  unfold fX12_moodNow
  rw [h1, h2, h3]
def c9 (x : Int32) : Prop := -9 ≤ x.toInt ∧ x.toInt ≤ 9
theorem within_9 {v : Int64} {lo hi : Int32} (h : lo.toInt ≤ hi.toInt) : lo.toInt ≤ ((fX11_within v lo.toInt64 hi.toInt64).toInt32).toInt ∧ ((fX11_within v lo.toInt64 hi.toInt64).toInt32).toInt ≤ hi.toInt := by
  rw [within_of h]
  have el : lo.toInt64.toInt = lo.toInt := Int32.toInt_toInt64 ..
  have eh : hi.toInt64.toInt = hi.toInt := Int32.toInt_toInt64 ..
  have rl := fb_rng lo
  have rh := fb_rng hi
  by_cases c1 : lo.toInt64 ≤ v
  · rw [if_pos c1]
    by_cases c2 : v ≤ hi.toInt64
    · rw [if_pos c2]
      rw [l_le, el] at c1
      rw [l_le, eh] at c2
      have : v.toInt32.toInt = v.toInt := by rw [Int64.toInt_toInt32, fb_bmod (by omega) (by omega)]
      rw [this]; exact ⟨c1, c2⟩
    · rw [if_neg c2]; exact ⟨h, Int.le_refl _⟩
  · rw [if_neg c1]; exact ⟨Int.le_refl _, h⟩
theorem wo_9 {a b : Int32} (ha : nn a 0 9) (hb : nn b 0 9) : c9 ((5 : Int32) - fX12_less a b) := by
  obtain ⟨i, _, hi, rfl⟩ := ha
  obtain ⟨j, _, hj, rfl⟩ := hb
  have : ∀ i, i < 10 → ∀ j, j < 10 → (-9 ≤ ((5 : Int32) - fX12_less (nI i) (nI j)).toInt ∧ ((5 : Int32) - fX12_less (nI i) (nI j)).toInt ≤ 9) := by decide
  exact this i (by omega) j (by omega)
theorem TR.N {T : Nat → St} {M M' : St} {na ng nr ns : Nat} (h : TR T M na ng nr ns) (k : fN M M') : TR T M' na ng nr ns := h.fr (FR.N (b := 0) k)
theorem MR.N {ml M M' : St} (h : MR ml M) (k : fN M M') : MR ml M' := h.fr (FR.N (b := 0) k)
def clR (T : Nat → St) (M : St) (r : Int32 × St × (Nat → St)) (r' : Int32 × St) : Prop := r.1 = r'.1 ∧ c9 r.1 ∧ fT T r.2.2 ∧ fN M r'.2
theorem clap_of {T : Nat → St} {ml nm u M : St} {na ng nr ns b g : Nat} {a m x : Int32} (hb : b < 2) (hT : TR T M na ng nr ns) (hH : HR u M b na ng nr) (hR : MR ml M) (hg : g < ng) (hmu : ¬ nI g = gI M 71) (hm : fX12_moodNow M a = some m) (h9 : nn m 0 9) : ok (fX2_clapOf 7 ml nm T u (nI g) m x) (fun r => ok (fX12_clapOf M (nI b) (nI g) a x) (fun r' => clR T M r r')) := by
  have h6 := hT.1.1.2.1
  have t9 := (hT.2.2.1 g hg).2.2.2.1
  have hl := hT.2.2.2.2.2.2.1
  have hw : fX8_without T (nI g) m = some ((5 : Int32) - fX12_less (gA M 28 g) m) ∧ ∀ M', fN M M' → fX12_without M' (nI g) a = some ((5 : Int32) - fX12_less (gA M 28 g) m) := by
    obtain ⟨_, e2, e3, _, _⟩ := hT.2.2.1 g hg
    constructor
    · unfold fX8_without
      rw [taste_eq hT.1.2.1.2.1 hg h6, e2]
      exact congrArg some (congrArg (fun z => (5 : Int32) - z) (less_eq t9 h9))
    · intro M' k
      unfold fX12_without
      rw [moodNow_c (k.I (by decide)) (k.I (by decide)) (k.A 25), hm, cl (show g < 2 ^ 31 by omega), k.A 28]
      exact fn (kx (by omega) (by decide)) rfl
  have w9 := wo_9 t9 h9
  have hm2 : ∀ Q, ok (fX12_layGuest M (nI b) (nI g) a x) (fun M' => ok (fX12_boundLaw M' 0 ((5 : Int32) - fX12_less (gA M 28 g) m) (-9) 9) Q) → (∀ r', Q r' → fN M r'.2 → True) → ok (fX12_clapOf M (nI b) (nI g) a x) Q := by
    intro Q h _
    unfold fX12_clapOf
    have h1 := layGuest_of (x := x) hb (show g < 6 by omega) hm
    obtain ⟨M', e, h2⟩ := h
    obtain ⟨M'', e', h3, _⟩ := h1
    have : M'' = M' := Option.some.inj (e'.symm.trans e)
    subst this
    refine ok_f hmu (ok_bindx e (ok_bindx (hw.2 _ h3) (ok_bind (ok_mono h2 (fun r' q => ok_some q)))))
  unfold fX2_clapOf
  have l4 := hl.1
  rcases hl.2 with q0 | ⟨q1, _⟩
  · refine ok_t (l4.trans q0) (ok_bindx hw.1 (ok_some (hm2 _ ?_ (fun _ _ _ => trivial))))
    refine ok_mono (layGuest_of (x := x) hb (show g < 6 by omega) hm) (fun M' h' => ?_)
    refine ok_eq (bl_un (w := 0) (by decide) (by rw [h'.1.A]; exact q0)) ⟨rfl, w9, fT.rf, h'.1⟩
  · refine ok_f (by rw [l4, q1]; exact i10) (ok_bind (ok_mono (nameGuest_of (x := x) (m := m) (nm := nm) hT hH hR hg) (fun nm' hn => ?_)))
    obtain ⟨M', e', h3, hv⟩ := layGuest_of (x := x) hb (show g < 6 by omega) hm
    have hL : LR (T 5) M' 0 := (hT.N h3).2.2.2.2.2.2.1
    refine ok_bind (ok_mono (bl_of (w := 0) (nm := nm') (d := (5 : Int32) - fX12_less (gA M 28 g) m) (lo := -9) (hi := 9) (by decide) hL (by rw [h3.A]; exact q1) (fun j hj => ⟨(hn j hj).trans (hv j hj).symm, by rw [hv j hj]; exact nms_b j⟩) (by decide)) (fun r hr => ok_lt ?_))
    obtain ⟨r', er, k1, k2, k3⟩ := hr
    have fin : ∀ (v : Int32), v = r'.1 → c9 v → ok (some (v, nm', va_up T 5 r.2)) (fun r => ok (fX12_clapOf M (nI b) (nI g) a x) (fun r' => clR T M r r')) := by
      intro v hv' hc
      refine ok_some (hm2 _ ⟨M', e', r', er, hv', hc, fT.up k2, h3.tr (fN.L k1)⟩ (fun _ _ _ => trivial))
    rcases k3 with ⟨c, d⟩ | ⟨c, c2, d⟩
    · refine ok_t c (ok_bindx ?_ (fin _ d.symm w9))
      have : fX8_without (va_up T 5 r.2) (nI g) m = fX8_without T (nI g) m := rfl
      rw [this]; exact hw.1
    · refine ok_f c (fin _ ?_ ?_)
      · rw [d]; rfl
      · exact within_9 (lo := -9) (hi := 9) (by decide)
