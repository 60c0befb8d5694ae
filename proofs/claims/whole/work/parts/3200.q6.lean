/-! law, rests, rest -/
theorem clapLaw_to {T : Nat → St} {ml nm u : St} {x m y : Int32} (h : gI (T 5) 4 = 1) : fX2_clapLaw 7 ml nm T u x m y = (fX2_nameGuest 7 ml nm T u x m y).bind fun r2 => (fX0_value 7 (T 5) r2).bind fun r4 => some (r4.1, r2, va_up T 5 r4.2) := by
  unfold fX2_clapLaw
  exact fn (by rw [h]; exact i10) rfl
def lwR (T : Nat → St) (M : St) (r : Int64 × St × St × (Nat → St)) (r' : Int64 × St) : Prop := r.1 = r'.1 ∧ fT T r.2.2.2 ∧ QF M r'.2
/-- the end of the reference's law -/
def lwE (x : Int32) (u8 : St) : Option (Int64 × St) := (fX12_lawOf u8 x).bind fun r10 => some (if gI r10.2 52 = 0 then r10.1 else (-9223372036854775808 : Int64), r10.2)
theorem lwE_of {f M nm : St} {w : Nat} (hw : w < 3) (hr : LR f M w) (ht : gA M 36 w = 1) (hV : ∀ j, j < 7 → gB nm 0 j = gB M 50 j ∧ bnd (gB M 50 j)) : ok (fX0_value 7 f nm) (fun r => ok (lwE (nI w) M) (fun r' => r.1 = r'.1 ∧ fL M r'.2 ∧ fF f r.2)) := by
  refine ok_mono (law_val hw hr ht hV) (fun r h => ok_bind (ok_mono h (fun r' q => ok_some ?_)))
  obtain ⟨q1, q2, ⟨q3, q4, q5⟩ | ⟨q3, q4⟩⟩ := q
  · exact ⟨by rw [if_pos q3]; exact q4, q1, q2⟩
  · exact ⟨by rw [if_neg (by rw [q3]; exact i10)]; exact q4, q1, q2⟩
theorem law_of {T : Nat → St} {mn ml nm now M : St} {na ng nr ns : Nat} {x y : Int32} (hT : TR T M na ng nr ns) (hH : HR now M 0 na ng nr) : ok (fX11_law mn ml nm now T x y) (fun r => ok (fX12_law M x y) (fun r' => lwR T M r r')) := by
  have hT1 : TR T (sI M 2 0) na ng nr ns := hT.Q QF.th
  have hH1 : HR now (sI M 2 0) 0 na ng nr := hH.Q QF.th
  have bad : lwR T M ((-9223372036854775808 : Int64), fX2_asItGoes ml, nm, T) ((-9223372036854775808 : Int64), sI M 2 0) := ⟨rfl, fT.rf, QF.th⟩
  have h6 := hT.1.1.2.1
  have eg : fX12_isGuest (sI M 2 0) y = tst (nI ng) y := by rw [isGuest_t]; exact congrArg (fun w => tst w y) hT.1.2.2.2.1
  have ec : fX7_has 6 (T 2) y = tst (nI ng) y := by rw [has_t, hT.1.2.1.2.1]
  have hp := plain_of (sI M 2 0)
  have hT2 : TR T (fX12_plainTried (sI M 2 0)) na ng nr ns := hT1.Q hp.1
  have hH2 : HR now (fX12_plainTried (sI M 2 0)) 0 na ng nr := hH1.Q hp.1
  have hR : MR (fX2_asItGoes ml) (fX12_plainTried (sI M 2 0)) := MR.pl hp
  have hq : QF M (fX12_plainTried (sI M 2 0)) := QF.th.tr hp.1
  obtain ⟨m, e1, e2, h9⟩ := moodOn_of hT2 hH2 hR
  have e36 : ∀ w, gA (fX12_plainTried (sI M 2 0)) 36 w = gA M 36 w := fun _ => rfl
  obtain ⟨l0, l1, l2⟩ := hT2.2.2.2.2.2.2
  unfold fX11_law fX12_law
  refine ok_lt ?_
  rcases in_or x (N := 2) (by decide) with hx | ⟨hx0, hx⟩ | ⟨hx0, hx1, k, hk, rfl⟩
  · have n (j : Nat) (hj : j < 10) : ¬ x = nI j := fun q => by rw [q] at hx; exact nI_pos (by omega) hx
    exact ok_f (n 0 (by omega)) (ok_lt (ok_f (n 1 (by omega)) (ok_f (n 2 (by omega)) (ok_some (ok_lt (ok_t (isIn_0 (Or.inl hx)) (ok_some bad)))))))
  · have n (j : Nat) (hj : j ≤ 2) : ¬ x = nI j := fun q => by rw [q, nI_ltI (by omega) (by omega)] at hx; omega
    exact ok_f (n 0 (by omega)) (ok_lt (ok_f (n 1 (by omega)) (ok_f (n 2 (by omega)) (ok_some (ok_lt (ok_t (isIn_0 (Or.inr hx)) (ok_some bad)))))))
  · have in1 : ¬ fX12_isIn (nI k) 0 2 = 0 := by rw [isIn_1 (c := 2) hx0 hx1]; exact i10
    have c6 : ¬ (nI k < 0 ∨ 6 ≤ (nI k).toNatClampNeg) := ck (by omega) (by decide)
    have cc : (nI k).toNatClampNeg = k := cl (by omega)
    -- the reference, when the law is told
    have mid : ∀ (Q : Int64 × St → Prop), gA M 36 k = 1 → (k = 0 → tst (nI ng) y = 1 ∧ ok (fX12_layGuest (fX12_plainTried (sI M 2 0)) 0 y (gA (fX12_plainTried (sI M 2 0)) 53 0) 0) (fun u => ok (lwE (nI k) u) Q)) → (k ≠ 0 → ok (fX12_layMill (fX12_plainTried (sI M 2 0)) 0 0) (fun u => ok (lwE (nI k) u) Q)) → ok (fX12_law M (nI k) y) Q := by
      intro Q ht hz hnz
      unfold fX12_law
      refine ok_lt (ok_f in1 (ok_f c6 (ok_f ?_ (ok_lt ?_))))
      · rw [cc]; show ¬ gA M 36 k = 0; rw [ht]; exact i10
      · by_cases k0 : k = 0
        · subst k0
          exact ok_t rfl (ok_f (by rw [eg, (hz rfl).1]; exact i10) (ok_lt (ok_lt (ok_t rfl (ok_bind (hz rfl).2)))))
        · have nk : ¬ nI k = 0 := nI_ne0 (by omega) (by omega)
          exact ok_f nk (ok_lt (ok_lt (ok_f nk (ok_bind (hnz k0)))))
    have unt : ∀ (Q : Int64 × St → Prop), gA M 36 k = 0 → Q ((-9223372036854775808 : Int64), sI M 2 0) → ok (fX12_law M (nI k) y) Q := by
      intro Q ht hQ
      unfold fX12_law
      refine ok_lt (ok_f in1 (ok_f c6 (ok_t ?_ (ok_some hQ))))
      rw [cc]; exact ht
    have stone : ∀ (w : Nat), (w = 1 ∨ w = 2) → k = w → ok ((fX2_stoneLaw 7 (fX2_asItGoes ml) nm T now (nI k) 0).bind fun r5 => some (r5.1, fX2_asItGoes ml, r5.2.1, r5.2.2)) (fun r => ok (fX12_law M (nI k) y) (fun r' => lwR T M r r')) := by
      intro w hw hkw
      subst hkw
      have hl : LR (T (5 + k)) (fX12_plainTried (sI M 2 0)) k := by
        rcases hw with rfl | rfl
        · exact l1
        · exact l2
      rcases hl.2 with q0 | ⟨q1, _⟩
      · exact ok_bindx (stone_un hw hT2 q0) (ok_some (unt _ q0 bad))
      · obtain ⟨nm', hn, e⟩ := stone_to (s := 0) (nm := nm) hw hT2 hH2 e1 q1
        rw [e]
        obtain ⟨M1, eM, h1, hv⟩ := layMill_of (s := 0) (b := 0) (by decide) e2
        have hL : LR (T (5 + k)) M1 k := by
          have := (hT2.N h1).2.2.2.2.2.2
          rcases hw with rfl | rfl
          · exact this.2.1
          · exact this.2.2
        refine ok_bind (ok_bind (ok_mono (lwE_of (nm := nm') (show k < 3 by omega) hL (by rw [h1.A]; exact q1) (fun j hj => ⟨(hn j hj).trans (hv j hj).symm, by rw [hv j hj]; exact nms_b j⟩)) (fun r hr => ok_some (ok_some ?_))))
        refine mid _ q1 (fun q => by omega) (fun _ => ok_eq eM (ok_mono hr (fun r' q => ⟨q.1, fT.up q.2.2, hq.tr (QF.N (h1.tr (fN.L q.2.1)))⟩)))
    rcases (show k = 0 ∨ k = 1 ∨ k = 2 by omega) with rfl | rfl | rfl
    · refine ok_t rfl ?_
      rw [ec]
      rcases tst_or (k := ng) y (by omega) with q | ⟨g, hg, rfl, q⟩
      · refine ok_t q (ok_some ?_)
        rcases l0.2 with q0 | ⟨q1, _⟩
        · exact unt _ q0 bad
        · refine ok_lt (ok_f in1 (ok_f c6 (ok_f (show ¬ gA M 36 0 = 0 by rw [show gA M 36 0 = 1 from q1]; exact i10) (ok_lt (ok_t rfl (ok_t (eg.trans q) (ok_some bad)))))))
      · refine ok_f (by rw [q]; exact i10) ?_
        have em : fX8_mood T (gI now 2) = some m := by
          rw [hH2.1.2.2.1]
          rcases hH2.2.2.2.1 with ⟨w, _⟩ | ⟨i, hi, w, _⟩
          · rw [w] at e2 ⊢
            exact e2
          · rw [w] at e2 ⊢
            rw [mood_eq hT2.1.2.1.1 hi hT2.1.1.1, ← e2]
            unfold fX12_moodNow
            have := hT2.1.1.1
            rw [cl (show i < 2 ^ 31 by omega), (hT2.2.1 i hi).2.1, hp.2.2.2.2.2.2.2.2.2.2.1]
            exact (tp (nI_pos' (by omega)) (fn (nI_nn (by omega)) (fn (kx (by omega) (by decide)) rfl))).symm
        refine ok_bindx em ?_
        rcases l0.2 with q0 | ⟨q1, _⟩
        · have : fX2_clapLaw 7 (fX2_asItGoes ml) nm T now (nI g) m 0 = some ((-9223372036854775808 : Int64), nm, T) := by
            unfold fX2_clapLaw
            exact tp (l0.1.trans q0) rfl
          exact ok_bindx this (ok_some (unt _ q0 bad))
        · rw [clapLaw_to (l0.1.trans q1)]
          obtain ⟨nm', en, hn⟩ := nameGuest_of (x := 0) (m := m) (nm := nm) hT2 hH2 hR hg
          obtain ⟨M1, eM, h1, hv⟩ := layGuest_of (x := 0) (b := 0) (g := g) (by decide) (by omega) e2
          have hL : LR (T 5) M1 0 := (hT2.N h1).2.2.2.2.2.2.1
          refine ok_bind (ok_bindx en (ok_bind (ok_mono (lwE_of (nm := nm') (w := 0) (by decide) hL (by rw [h1.A]; exact q1) (fun j hj => ⟨(hn j hj).trans (hv j hj).symm, by rw [hv j hj]; exact nms_b j⟩)) (fun r hr => ok_some (ok_some ?_)))))
          refine mid _ q1 (fun _ => ⟨q, ok_eq eM (ok_mono hr (fun r' w => ⟨w.1, fT.up w.2.2, hq.tr (QF.N (h1.tr (fN.L w.2.1)))⟩))⟩) (fun w => absurd rfl w)
    · exact ok_f (by decide) (ok_lt (ok_t rfl (stone 1 (Or.inl rfl) rfl)))
    · exact ok_f (by decide) (ok_lt (ok_f (by decide) (ok_t rfl (stone 2 (Or.inr rfl) rfl))))
