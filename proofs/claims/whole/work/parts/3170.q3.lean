/-! tried, chance, go -/
theorem MR.w {ml M ml' M' : St} (h : MR ml M) (hI : ∀ k, k ≠ 2 → k ≠ 4 → k ≠ 5 → k ≠ 6 → gI ml' k = gI ml k) (hM : ∀ k, (k = 65 ∨ k = 70 ∨ k = 72 ∨ k = 73) → gI M' k = gI M k) (h2 : (gI ml' 2 = 0 ∧ gI M' 65 = 0 ∧ gI M' 66 = 0 ∧ gI M' 67 = 0) ∨ (gI ml' 2 = 1 ∧ gI M' 65 = 1 ∧ gI M' 66 = 0 ∧ gI M' 67 = 0) ∨ (gI ml' 2 = 2 ∧ gI M' 65 = 0 ∧ gI M' 66 = 1 ∧ gI M' 67 = 0) ∨ (gI ml' 2 = 3 ∧ gI M' 65 = 0 ∧ gI M' 66 = 0 ∧ gI M' 67 = 1)) (h4 : gI ml' 4 = gI M' 71) (h5 : (gI ml' 5 = 1 ∧ gI M' 68 = 0) ∨ (gI ml' 5 = 0 ∧ gI M' 68 = 1)) (h6 : gI ml' 6 = gI M' 69) : MR ml' M' := by
  obtain ⟨_, a3, _, _, _, a7, a8, a9⟩ := h
  refine ⟨h2, ?_, h4, h5, h6, ?_, ?_, ?_⟩
  · rw [hI 3 (by decide) (by decide) (by decide) (by decide), hM 70 (by decide)]; exact a3
  · rw [hI 7 (by decide) (by decide) (by decide) (by decide), hM 72 (by decide)]; exact a7
  · rw [hI 8 (by decide) (by decide) (by decide) (by decide), hM 73 (by decide)]; exact a8
  · rw [hM 73 (by decide)]; exact a9
/-- the flags of a question "what if" -/
def trM (x y : Int32) (M : St) : St := sI (sI (sI (sI (sI M 66 (if x = 0 then 1 else 0)) 67 (if x = 1 then 1 else 0)) 71 (if x = 2 then y else -1)) 68 (if x = 3 then 1 else 0)) 69 (if x = 4 then 1 else 0)
def trC (x y : Int32) (ml : St) : St := if x = 0 then sI ml 2 2 else if x = 1 then sI ml 2 3 else if x = 2 then sI ml 4 y else if x = 3 then sI ml 5 0 else sI ml 6 1
theorem QF.trM {x y : Int32} {M : St} : QF M (trM x y M) := QF.tr (QF.tr (QF.tr (QF.tr (QF.fl (k := 66) (by decide) (by decide)) (QF.fl (k := 67) (by decide) (by decide))) (QF.fl (k := 71) (by decide) (by decide))) (QF.fl (k := 68) (by decide) (by decide))) (QF.fl (k := 69) (by decide) (by decide))
theorem tried_MR {M' ml0 : St} {k : Nat} {y : Int32} (hk : k ≤ 4) (h0 : MR (fX2_asItGoes ml0) M') (h65 : gI M' 65 = 0) : MR (trC (nI k) y (fX2_asItGoes ml0)) (trM (nI k) y M') := by
  rcases (show k = 0 ∨ k = 1 ∨ k = 2 ∨ k = 3 ∨ k = 4 by omega) with rfl | rfl | rfl | rfl | rfl
  · exact h0.w (fun j a b c d => gI_sIn _ _ a) (fun j hj => by rcases hj with rfl | rfl | rfl | rfl <;> rfl) (Or.inr (Or.inr (Or.inl ⟨rfl, h65, rfl, rfl⟩))) rfl (Or.inl ⟨rfl, rfl⟩) rfl
  · exact h0.w (fun j a b c d => gI_sIn _ _ a) (fun j hj => by rcases hj with rfl | rfl | rfl | rfl <;> rfl) (Or.inr (Or.inr (Or.inr ⟨rfl, h65, rfl, rfl⟩))) rfl (Or.inl ⟨rfl, rfl⟩) rfl
  · exact h0.w (fun j a b c d => gI_sIn _ _ b) (fun j hj => by rcases hj with rfl | rfl | rfl | rfl <;> rfl) (Or.inl ⟨rfl, h65, rfl, rfl⟩) rfl (Or.inl ⟨rfl, rfl⟩) rfl
  · exact h0.w (fun j a b c d => gI_sIn _ _ c) (fun j hj => by rcases hj with rfl | rfl | rfl | rfl <;> rfl) (Or.inl ⟨rfl, h65, rfl, rfl⟩) rfl (Or.inr ⟨rfl, rfl⟩) rfl
  · exact h0.w (fun j a b c d => gI_sIn _ _ d) (fun j hj => by rcases hj with rfl | rfl | rfl | rfl <;> rfl) (Or.inl ⟨rfl, h65, rfl, rfl⟩) rfl (Or.inl ⟨rfl, rfl⟩) rfl
def trJ (T : Nat → St) (nm : St) (n : Int32) (r6 : St × St) (u8 : St) : Option (Int32 × St × St × St × (Nat → St)) := (fX2_pass 7 u8 nm T r6.2 n).bind fun r10 => some (gI r10.2.2 6, u8, r10.1, r10.2.2, r10.2.1)
theorem trSel {T : Nat → St} {nm : St} {n y : Int32} {r6 : St × St} {k : Nat} (hk : k ≤ 4) : (lt (trJ T nm n r6) fun j9 => if nI k = 0 then (lt (sI r6.1 2 (2 : Int32)) fun u13 => j9 u13) else if nI k = 1 then (lt (sI r6.1 2 (3 : Int32)) fun u15 => j9 u15) else if nI k = 2 then (lt (sI r6.1 4 y) fun u17 => j9 u17) else if nI k = 3 then (lt (sI r6.1 5 (0 : Int32)) fun u19 => j9 u19) else lt (sI r6.1 6 (1 : Int32)) fun u20 => j9 u20) = trJ T nm n r6 (trC (nI k) y r6.1) := by
  rcases (show k = 0 ∨ k = 1 ∨ k = 2 ∨ k = 3 ∨ k = 4 by omega) with rfl | rfl | rfl | rfl | rfl <;> rfl
theorem tried_of {T : Nat → St} {mn ml nm now trial M : St} {na ng nr ns : Nat} {x y z : Int32} (hT : TR T M na ng nr ns) (hH : HR now M 0 na ng nr) : ok (fX11_tried mn ml nm now trial T x y z) (fun r => ok (fX12_tried M x y z) (fun r' => qR T M r r')) := by
  have hT1 : TR T (sI M 2 0) na ng nr ns := hT.Q QF.th
  have hH1 : HR now (sI M 2 0) 0 na ng nr := hH.Q QF.th
  have bad : qR T M ((-1 : Int32), ml, nm, trial, T) ((-1 : Int32), sI M 2 0) := ⟨rfl, fT.rf, QF.th⟩
  have h6 := hT.1.1.2.1
  have eg : fX12_isGuest (sI M 2 0) y = tst (nI ng) y := by rw [isGuest_t]; exact congrArg (fun w => tst w y) hT.1.2.2.2.1
  have ec : fX7_has 6 (T 2) y = tst (nI ng) y := by rw [has_t, hT.1.2.1.2.1]
  unfold fX11_tried fX12_tried
  refine ok_lt ?_
  rcases in_or x (N := 4) (by decide) with hx | ⟨hx0, hx⟩ | ⟨hx0, hx1, k, hk, rfl⟩
  · have n2 : ¬ x = 2 := fun q => by rw [q] at hx; exact absurd hx (by decide)
    exact ok_f n2 (ok_lt (ok_t hx (ok_t rfl (ok_some (ok_lt (ok_t (isIn_0 (Or.inl hx)) (ok_some bad)))))))
  · have n2 : ¬ x = 2 := fun q => by rw [q] at hx; exact absurd hx (by decide)
    exact ok_f n2 (ok_lt (ok_f hx0 (ok_t hx (ok_t rfl (ok_some (ok_lt (ok_t (isIn_0 (Or.inr hx)) (ok_some bad))))))))
  · have in1 : ¬ fX12_isIn (nI k) 0 4 = 0 := by rw [isIn_1 (c := 4) hx0 hx1]; exact i10
    -- refused by y
    have no : ((nI k = 2 ∧ tst (nI ng) y = 0) ∨ (¬ nI k = 2 ∧ ¬ y = 0)) → ok (fX12_tried M (nI k) y z) (fun r' => qR T M ((-1 : Int32), ml, nm, trial, T) r') := by
      intro h
      unfold fX12_tried
      refine ok_lt (ok_f in1 (ok_if (fun _ => ok_some bad) (fun _ => ok_lt ?_)))
      rcases h with ⟨a, c⟩ | ⟨a, c⟩
      · exact ok_t a (ok_t (eg.trans c) (ok_some bad))
      · exact ok_f a (ok_f c (ok_some bad))
    -- asked
    have yes : ((nI k = 2 ∧ tst (nI ng) y = 1) ∨ (¬ nI k = 2 ∧ y = 0)) → ok (if z < 0 then some ((-1 : Int32), ml, nm, trial, T) else if z ≤ (200 : Int32) then ((fX11_startTrial mn ml now trial).bind fun r6 => lt (trJ T nm z r6) fun j9 => if nI k = 0 then (lt (sI r6.1 2 (2 : Int32)) fun u13 => j9 u13) else if nI k = 1 then (lt (sI r6.1 2 (3 : Int32)) fun u15 => j9 u15) else if nI k = 2 then (lt (sI r6.1 4 y) fun u17 => j9 u17) else if nI k = 3 then (lt (sI r6.1 5 (0 : Int32)) fun u19 => j9 u19) else lt (sI r6.1 6 (1 : Int32)) fun u20 => j9 u20) else some ((-1 : Int32), ml, nm, trial, T)) (fun r => ok (fX12_tried M (nI k) y z) (fun r' => qR T M r r')) := by
      intro h
      unfold fX12_tried
      rcases in_or z (N := 200) (by decide) with h0 | ⟨h0, h1⟩ | ⟨h0, h1, n, hn, rfl⟩
      · exact ok_t h0 (ok_some (ok_lt (ok_f in1 (ok_t (isIn_0 (Or.inl h0)) (ok_some bad)))))
      · exact ok_f h0 (ok_f (fun q => (le_nlt _ _).mp q h1) (ok_some (ok_lt (ok_f in1 (ok_t (isIn_0 (Or.inr h1)) (ok_some bad))))))
      · refine ok_f h0 (ok_t ((le_nlt _ _).mpr h1) (ok_bind (ok_mono (start_of hT1 hH1) (fun r6 hr6 => ?_))))
        rw [trSel hk]
        obtain ⟨e4, _, M1, eM1, t1, t2, t3, t4, t5⟩ := hr6
        have hR : MR (trC (nI k) y r6.1) (trM (nI k) y M1) := by
          rw [e4] at t4 ⊢
          exact tried_MR hk t4 t5
        have q1 : QF M1 (trM (nI k) y M1) := QF.trM
        have h65 : gI (trM (nI k) y M1) 65 = 0 := t5
        have hH2 : HR r6.2 (trM (nI k) y M1) 1 na ng nr := t3.M rfl (fun _ _ _ _ _ => rfl)
        unfold trJ
        refine ok_bind (ok_mono (go1 (nm := nm) (n := n) (by omega) (t2.Q q1) hH2 hR (fun q => absurd (h65.symm.trans q) (by decide))) (fun r10 hr10 => ok_some ?_))
        obtain ⟨M2, eM2, kk⟩ := hr10
        have hp := plain_of M2
        have hQ := QF.th.tr (t1.tr (q1.tr ((it_Q kk h65).tr hp.1)))
        have e1 : gI r10.2.2 6 = gAll (fX12_plainTried M2) 1 := gAll_HR (kk.2.2.1.M (M' := fX12_plainTried M2) (by unfold gA; rw [hp.2.1]) (fun _ _ _ _ _ => by unfold gA; rw [hp.2.1]))
        refine ok_lt (ok_f in1 (ok_f (by rw [isIn_1 (c := 200) h0 h1]; exact i10) (ok_lt ?_)))
        have core : ok ((fX12_layTried (sI M 2 0)).bind fun r5 => (fX12_goMany (trM (nI k) y r5) (nI n)).bind fun r17 => (fX12_groundAll (fX12_plainTried r17) 1).bind fun r21 => some (r21, fX12_plainTried r17)) (fun r' => qR T M (gI r10.2.2 6, trC (nI k) y r6.1, r10.1, r10.2.2, r10.2.1) r') := ok_bindx eM1 (ok_bindx eM2 (ok_bindx (groundAll_eq (b := 1) (by decide)) (ok_some ⟨e1, kk.1, hQ⟩)))
        rcases h with ⟨a, c⟩ | ⟨a, c⟩
        · exact ok_t a (ok_f (by rw [eg, c]; exact i10) core)
        · exact ok_f a (ok_t c core)
    by_cases c2 : nI k = 2
    · refine ok_t c2 ?_
      rw [ec]
      rcases tst_or (k := ng) y (by omega) with q | ⟨i, hi, ei, q⟩
      · rw [q]
        exact ok_t rfl (ok_some (no (Or.inl ⟨c2, q⟩)))
      · rw [q]
        exact ok_f i10 (yes (Or.inl ⟨c2, q⟩))
    · refine ok_f c2 (ok_lt (ok_f hx0 (ok_f hx1 ?_)))
      refine ok_if (fun c => ok_f i10 (yes (Or.inr ⟨c2, c⟩))) (fun c => ok_t rfl (ok_some (no (Or.inr ⟨c2, c⟩))))
