/-! a text that is right is kept -/
theorem copies_L {c : Nat} (hc : c ≤ 64) : ∀ (d nf i : Nat) (u : St), i + d = c → d < nf → ok (fX12_copies_L1 (2 * c) (nI c) nf (nI i) u) (fun r => ∀ j, gA r 0 j = if i ≤ j ∧ j < c then gA u 0 (c + j) else gA u 0 j)
  | 0, nf + 1, i, u, h, _ => by
    rw [fX12_copies_L1]
    exact ok_t (show nI c ≤ nI i by rw [nI_leI (by omega) (by omega)]; omega) (ok_some fun j => by rw [if_neg (by omega)])
  | d + 1, nf + 1, i, u, h, hf => by
    have e : nI c + nI i = nI (c + i) := nI_add _ _
    rw [fX12_copies_L1, e, cl (show i < 2 ^ 31 by omega), cl (show c + i < 2 ^ 31 by omega)]
    refine ok_f (show ¬ nI c ≤ nI i by rw [nI_leI (by omega) (by omega)]; omega) (ok_f (kx (by omega) (by omega)) (ok_lt (ok_f (kx (by omega) (by omega)) (ok_lt (ok_lt ?_)))))
    rw [nI_1]
    refine ok_mono (copies_L hc d nf (i + 1) _ (by omega) (by omega)) (fun r hr j => ?_)
    rw [hr j]
    by_cases q : i + 1 ≤ j ∧ j < c
    · rw [if_pos q, if_pos (by omega), gA_idx _ _ _ _ (by omega)]
    · rw [if_neg q]
      by_cases z : j = i
      · subst z; rw [gA_same, if_pos (by omega)]
      · rw [gA_idx _ _ _ _ z, if_neg (by omega)]
theorem copies_of {c : Nat} (hc : c ≤ 64) (u : St) : ok (fX12_copies (2 * c) u (nI c)) (fun r => ∀ j, gA r 0 j = if j < c then gA u 0 (c + j) else gA u 0 j) := by
  unfold fX12_copies
  refine ok_bind (ok_mono (copies_L hc c fuel 0 u (by omega) (by rw [fuel_eq]; omega)) (fun r hr => ok_some (fun j => ?_)))
  rw [hr j]
  by_cases q : j < c
  · rw [if_pos q, if_pos (by omega)]
  · rw [if_neg q, if_neg (by omega)]
/-- the rows below m are kept -/
def KTN (m : Nat) (M M' : St) : Prop := (∀ k, ¬ (12 ≤ k ∧ k ≤ 16) → gI M' k = gI M k) ∧ (gI M' 12 = gI M 17 ∧ gI M' 13 = gI M 18 ∧ gI M' 14 = gI M 19 ∧ gI M' 15 = gI M 20 ∧ gI M' 16 = gI M 21) ∧ M'.2.1 = M.2.1 ∧ ∀ r i, gA M' r i = if 23 ≤ r ∧ r < m ∧ i < lo r then gA M r (lo r + i) else gA M r i
theorem KTN.step {m : Nat} {M M1 M2 : St} (hm : 23 ≤ m) (h : KTN m M M1) (hI : M2.1 = M1.1) (hJ : M2.2.1 = M1.2.1) (hA : ∀ r i, gA M2 r i = if r = m ∧ i < lo m then gA M1 r (lo m + i) else gA M1 r i) : KTN (m + 1) M M2 := by
  obtain ⟨a, b, c, d⟩ := h
  have hI' : ∀ k, gI M2 k = gI M1 k := fun k => by unfold gI; rw [hI]
  refine ⟨fun k q => (hI' k).trans (a k q), ?_, hJ.trans c, fun r i => ?_⟩
  · rw [hI', hI', hI', hI', hI']; exact b
  · rw [hA]
    by_cases q : r = m ∧ i < lo m
    · obtain ⟨rfl, q2⟩ := q
      rw [if_pos ⟨rfl, q2⟩, if_pos ⟨hm, by omega, q2⟩, d, if_neg (by omega)]
    · rw [if_neg q, d]
      by_cases z : 23 ≤ r ∧ r < m ∧ i < lo r
      · rw [if_pos z, if_pos (by omega)]
      · rw [if_neg z, if_neg (fun y => by
          by_cases e : r = m
          · subst e; exact q ⟨rfl, y.2.2⟩
          · exact z ⟨y.1, by omega, y.2.2⟩)]
theorem kt_step {α : Type} {m c : Nat} {M M1 : St} {f : St → Option α} {P : α → Prop} (hc : lo m = c) (h64 : c ≤ 64) (hm : 23 ≤ m) (h : KTN m M M1) (k : ∀ M2, KTN (m + 1) M M2 → ok (f M2) P) : ok ((fX12_copies (2 * c) (vwA M1 m) (nI c)).bind fun r => lt (stA M1 m (gA r 0)) f) P := by
  refine ok_bind (ok_mono (copies_of h64 _) (fun r hr => ok_lt (k _ (h.step hm rfl rfl (fun r' i => ?_)))))
  rw [gA_stA, hc]
  by_cases q : r' = m
  · subst q
    rw [if_pos rfl, hr i]
    by_cases z : i < c
    · rw [if_pos z, if_pos ⟨rfl, z⟩]; rfl
    · rw [if_neg z, if_neg (fun y => z y.2)]; rfl
  · rw [if_neg q, if_neg (fun y => q y.1)]
theorem keep36_L : ∀ (d nf i : Nat) (M : St), i + d = 3 → d < nf → (∀ j, i ≤ j → j < 3 → gA M 36 (3 + j) = 0 ∨ gA M 36 (3 + j) = 1) → ok (fX12_keepText_L1 nf (nI i) M) (fun M' => M'.1 = M.1 ∧ M'.2.1 = M.2.1 ∧ ∀ r j, gA M' r j = if r = 36 ∧ i ≤ j ∧ j < 3 then gA M r (3 + j) else gA M r j)
  | 0, nf + 1, i, M, h, _, _ => by
    rw [fX12_keepText_L1]
    exact ok_t (show nI 3 ≤ nI i by rw [nI_leI (by omega) (by omega)]; omega) (ok_some ⟨rfl, rfl, fun r j => by rw [if_neg (by omega)]⟩)
  | d + 1, nf + 1, i, M, h, hf, h3 => by
    have e : (3 : Int32) + nI i = nI (3 + i) := by rw [show (3 : Int32) = nI 3 from rfl, nI_add]
    rw [fX12_keepText_L1, e, cl (show i < 2 ^ 31 by omega), cl (show 3 + i < 2 ^ 31 by omega)]
    refine ok_f (show ¬ nI 3 ≤ nI i by rw [nI_leI (by omega) (by omega)]; omega) (ok_f (kx (by omega) (by omega)) (ok_lt (ok_f (kx (by omega) (by omega)) (ok_lt (ok_lt ?_)))))
    rw [nI_1]
    have eb : bz (gA M 36 (3 + i)) = gA M 36 (3 + i) := by
      rcases h3 i (by omega) (by omega) with z | z <;> rw [z]
      · exact bz0
      · exact bz1
    rw [eb]
    refine ok_mono (keep36_L d nf (i + 1) _ (by omega) (by omega) (fun j h1 h2 => by rw [gA_idx _ _ _ _ (by omega)]; exact h3 j (by omega) h2)) (fun M' hM => ?_)
    obtain ⟨a, b, c⟩ := hM
    refine ⟨a, b, fun r j => ?_⟩
    rw [c]
    by_cases er : r = 36
    · subst er
      by_cases q : i + 1 ≤ j ∧ j < 3
      · rw [if_pos ⟨rfl, q⟩, if_pos ⟨rfl, by omega, q.2⟩, gA_idx _ _ _ _ (by omega)]
      · rw [if_neg (fun y => q y.2)]
        by_cases z : j = i
        · subst z; rw [gA_same, if_pos ⟨rfl, by omega, by omega⟩]
        · rw [gA_idx _ _ _ _ z, if_neg (fun y => by omega)]
    · rw [if_neg (fun y => er y.1), if_neg (fun y => er y.1), gA_row _ _ _ _ er]
/-- the reference's state behind begin -/
def bnM (M : St) : St := sI (sI (sI (sI (fX12_plainTried (sJ (afM 0 M) 64 ((gA (afM 0 M) 23 1).toInt64))) 75 0) 76 (-1)) 80 0) 82 0
theorem beginM_eq (M : St) : fX12_begin M = some (bnM M) := by
  unfold fX12_begin
  exact bd_c (atF_eq (b := 0) (by decide) M) rfl
def ktM (M : St) : St := sI (sI (sI (sI (sI M 12 (gI M 17)) 13 (gI M 18)) 14 (gI M 19)) 15 (gI M 20)) 16 (gI M 21)
theorem kt_KN (M : St) : KTN 23 M (ktM M) := by
  refine ⟨fun k q => ?_, ⟨rfl, rfl, rfl, rfl, rfl⟩, rfl, fun r i => by rw [if_neg (by omega)]; rfl⟩
  unfold ktM
  rw [gI_sIn _ _ (by omega), gI_sIn _ _ (by omega), gI_sIn _ _ (by omega), gI_sIn _ _ (by omega), gI_sIn _ _ (by omega)]
theorem keepText_of {M : St} (h3 : ∀ j, j < 3 → gA M 36 (3 + j) = 0 ∨ gA M 36 (3 + j) = 1) : ok (fX12_keepText M) (fun M' => ∃ M1, KTN 42 M M1 ∧ M' = bnM M1) := by
  unfold fX12_keepText
  refine ok_lt (ok_lt (ok_lt (ok_lt (ok_lt (ok_lt (ok_lt (ok_lt (ok_lt (ok_lt ?_)))))))))
  refine kt_step (m := 23) (c := 2) rfl (by decide) (by decide) (kt_KN M) (fun M1 h => ?_)
  refine kt_step (m := 24) (c := 6) rfl (by decide) (by decide) h (fun M1 h => ?_)
  refine kt_step (m := 25) (c := 6) rfl (by decide) (by decide) h (fun M1 h => ?_)
  refine kt_step (m := 26) (c := 6) rfl (by decide) (by decide) h (fun M1 h => ?_)
  refine kt_step (m := 27) (c := 6) rfl (by decide) (by decide) h (fun M1 h => ?_)
  refine kt_step (m := 28) (c := 6) rfl (by decide) (by decide) h (fun M1 h => ?_)
  refine kt_step (m := 29) (c := 6) rfl (by decide) (by decide) h (fun M1 h => ?_)
  refine kt_step (m := 30) (c := 4) rfl (by decide) (by decide) h (fun M1 h => ?_)
  refine kt_step (m := 31) (c := 4) rfl (by decide) (by decide) h (fun M1 h => ?_)
  refine kt_step (m := 32) (c := 4) rfl (by decide) (by decide) h (fun M1 h => ?_)
  refine kt_step (m := 33) (c := 4) rfl (by decide) (by decide) h (fun M1 h => ?_)
  refine kt_step (m := 34) (c := 14) rfl (by decide) (by decide) h (fun M1 h => ?_)
  refine kt_step (m := 35) (c := 14) rfl (by decide) (by decide) h (fun M1 h => ?_)
  refine ok_bind (ok_mono (keep36_L 3 fuel 0 M1 (by omega) (by rw [fuel_eq]; omega) (fun j _ hj => ?_)) (fun M2 hM => ?_))
  · rw [h.2.2.2 36 (3 + j), if_neg (by omega)]; exact h3 j hj
  · obtain ⟨a, b, c⟩ := hM
    have h := h.step (by decide) a b (M2 := M2) (fun r i => by
      rw [c]
      by_cases z : r = 36 ∧ i < lo 36
      · rw [if_pos z, if_pos ⟨z.1, by omega, z.2⟩]; rfl
      · rw [if_neg z, if_neg (fun y => z ⟨y.1, y.2.2⟩)])
    refine kt_step (m := 37) (c := 3) rfl (by decide) (by decide) h (fun M1 h => ?_)
    refine kt_step (m := 38) (c := 3) rfl (by decide) (by decide) h (fun M1 h => ?_)
    refine kt_step (m := 39) (c := 64) rfl (by decide) (by decide) h (fun M1 h => ?_)
    refine kt_step (m := 40) (c := 64) rfl (by decide) (by decide) h (fun M1 h => ?_)
    refine kt_step (m := 41) (c := 64) rfl (by decide) (by decide) h (fun M1 h => ?_)
    exact ok_bindx (beginM_eq M1) (ok_some ⟨M1, h, rfl⟩)
