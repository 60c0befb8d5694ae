/-! tried, chance, go -/
theorem MR.w {ml M ml' M' : St} (h : MR ml M) (hI : ∀ k, k ≠ 2 → k ≠ 4 → k ≠ 5 → k ≠ 6 → gI ml' k = gI ml k) (hM : ∀ k, (k = 65 ∨ k = 70 ∨ k = 72 ∨ k = 73) → gI M' k = gI M k) (h2 : (gI ml' 2 = 0 ∧ gI M' 65 = 0 ∧ gI M' 66 = 0 ∧ gI M' 67 = 0) ∨ (gI ml' 2 = 1 ∧ gI M' 65 = 1 ∧ gI M' 66 = 0 ∧ gI M' 67 = 0) ∨ (gI ml' 2 = 2 ∧ gI M' 65 = 0 ∧ gI M' 66 = 1 ∧ gI M' 67 = 0) ∨ (gI ml' 2 = 3 ∧ gI M' 65 = 0 ∧ gI M' 66 = 0 ∧ gI M' 67 = 1)) (h4 : gI ml' 4 = gI M' 71) (h5 : (gI ml' 5 = 1 ∧ gI M' 68 = 0) ∨ (gI ml' 5 = 0 ∧ gI M' 68 = 1)) (h6 : gI ml' 6 = gI M' 69) : MR ml' M' := by
  obtain ⟨_, a3, _, _, _, a7, a8, a9⟩ := h
  refine ⟨h2, ?_, h4, h5, h6, ?_, ?_, ?_⟩
  · rw [hI 3 (by decide) (by decide) (by decide) (by decide), hM 70 (by decide)]; exact a3
  · rw [hI 7 (by decide) (by decide) (by decide) (by decide), hM 72 (by decide)]; exact a7
  · rw [hI 8 (by decide) (by decide) (by decide) (by decide), hM 73 (by decide)]; exact a8
  · rw [hM 73 (by decide)]; exact a9
/-- the flags of a question "what if" -/
def trM (x y : Int32) (M : St) : St := sI (sI (sI (sI (sI M 66 (if x = 0 then 1 else 0)) 67 (if x = 1 then 1 else 0)) 71 (if x = 2 then y else -1)) 68 (if x = 3 then 1 else 0)) 69 (if x = 4 then 1 else 0)
def trC (x y : Int32) (ml : St) : St := if x = 0 then sI ml 2 2 else if x = 1 then sI ml 2 3 else if x = 2 then sI ml 4 y else if x = 3 then sI ml 5 0 else sI ml 6 1
theorem QF.trM {x y : Int32} {M : St} : QF M (trM x y M) := QF.tr (QF.tr (QF.tr (QF.tr (QF.fl (k := 66) (by decide) (by decide)) (QF.fl (k := 67) (by decide) (by decide))) (QF.fl (k := 71) (by decide) (by decide))) (QF.fl (k := 68) (by decide) (by decide))) (QF.fl (k := 69) (by decide) (by decide))
theorem tried_MR {ml M M' ml0 : St} {k : Nat} {y : Int32} (hk : k ≤ 4) (h : plR M M') (hm : ml = fX2_asItGoes ml0) : MR (trC (nI k) y ml) (trM (nI k) y M') := by
  have h0 : MR ml M' := by rw [hm]; exact MR.pl h
  obtain ⟨_, _, _, h65, h66, h67, h68, h69, h70, h71, h72, h73⟩ := h
  subst hm
  rcases (show k = 0 ∨ k = 1 ∨ k = 2 ∨ k = 3 ∨ k = 4 by omega) with rfl | rfl | rfl | rfl | rfl
  · exact h0.w (fun j a b c d => gI_sIn _ _ a) (fun j hj => by rcases hj with rfl | rfl | rfl | rfl <;> rfl) (Or.inr (Or.inr (Or.inl ⟨rfl, h65, rfl, rfl⟩))) rfl (Or.inl ⟨rfl, rfl⟩) rfl
  · exact h0.w (fun j a b c d => gI_sIn _ _ a) (fun j hj => by rcases hj with rfl | rfl | rfl | rfl <;> rfl) (Or.inr (Or.inr (Or.inr ⟨rfl, h65, rfl, rfl⟩))) rfl (Or.inl ⟨rfl, rfl⟩) rfl
  · exact h0.w (fun j a b c d => gI_sIn _ _ b) (fun j hj => by rcases hj with rfl | rfl | rfl | rfl <;> rfl) (Or.inl ⟨rfl, h65, rfl, rfl⟩) rfl (Or.inl ⟨rfl, rfl⟩) rfl
  · exact h0.w (fun j a b c d => gI_sIn _ _ c) (fun j hj => by rcases hj with rfl | rfl | rfl | rfl <;> rfl) (Or.inl ⟨rfl, h65, rfl, rfl⟩) rfl (Or.inr ⟨rfl, rfl⟩) rfl
  · exact h0.w (fun j a b c d => gI_sIn _ _ d) (fun j hj => by rcases hj with rfl | rfl | rfl | rfl <;> rfl) (Or.inl ⟨rfl, h65, rfl, rfl⟩) rfl (Or.inl ⟨rfl, rfl⟩) rfl
