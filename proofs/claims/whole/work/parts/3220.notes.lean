/-! what was seen -/
/-- one note, on both sides -/
def ntP (nt M : St) (i : Nat) : Prop := (gA nt 3 i = -1 ∧ gA nt 0 i = gA M 77 (3 * i) ∧ gA nt 1 i = gA M 77 (3 * i + 1) ∧ gA nt 2 i = gA M 77 (3 * i + 2) ∧ nn (gA M 77 (3 * i)) 1 60 ∧ (gA M 77 (3 * i + 2) = 0 ∨ gA M 77 (3 * i + 2) = 1)) ∨ (gA M 77 (3 * i) = -1 ∧ gA nt 3 i = gA M 77 (3 * i + 1) ∧ ∃ j, j < i ∧ gA M 77 (3 * i + 1) = nI j)
def NR (nt M : St) : Prop := ∃ k, k ≤ 24 ∧ gI nt 5 = nI k ∧ gI M 75 = nI k ∧ gI nt 6 = gI M 76 ∧ (gI M 76 = -1 ∨ ∃ j, j ≤ k ∧ gI M 76 = nI j) ∧ ∀ i, i < k → ntP nt M i
theorem NR.Q {nt nt' M M' : St} (h : NR nt M) (h75 : gI M' 75 = gI M 75) (h76 : gI M' 76 = gI M 76) (h77 : gA M' 77 = gA M 77) (h5 : gI nt' 5 = gI nt 5) (h6 : gI nt' 6 = gI nt 6) (hA : ∀ r, r < 4 → gA nt' r = gA nt r) : NR nt' M' := by
  obtain ⟨k, hk, a, b, c, d, e⟩ := h
  refine ⟨k, hk, by rw [h5]; exact a, by rw [h75]; exact b, by rw [h6, h76]; exact c, by rw [h76]; exact d, fun i hi => ?_⟩
  unfold ntP
  rw [h77, hA 0 (by omega), hA 1 (by omega), hA 2 (by omega), hA 3 (by omega)]
  exact e i hi
/-- what a note may change -/
def NF (M M' : St) : Prop := (∀ k, k ≠ 2 → k ≠ 75 → k ≠ 76 → gI M' k = gI M k) ∧ M'.2.1 = M.2.1 ∧ (∀ r, r ≠ 77 → gA M' r = gA M r) ∧ M'.2.2.2 = M.2.2.2
theorem NF.th {M : St} {v : Int32} : NF M (sI M 2 v) := ⟨fun _ h _ _ => gI_sIn _ _ h, rfl, fun _ _ => rfl, rfl⟩
def ntR (M : St) (r r' : Int32 × St) : Prop := r.1 = r'.1 ∧ NR r.2 r'.2 ∧ NF M r'.2
theorem noted_eq {M : St} {k : Nat} {x y z : Int32} (hk : k < 24) (h : gI M 75 = nI k) : fX12_noted M x y z = some (nI k, sI (sA (sA (sA M 77 (3 * k) x) 77 (3 * k + 1) y) 77 (3 * k + 2) z) 75 (nI (k + 1))) := by
  unfold fX12_noted
  have e0 : (3 : Int32) * nI k = nI (3 * k) := by rw [show (3 : Int32) = nI 3 from rfl, nI_mul]
  have e1 : (3 : Int32) * nI k + 1 = nI (3 * k + 1) := by rw [e0, nI_1]
  have e2 : (3 : Int32) * nI k + 2 = nI (3 * k + 2) := by rw [e0, show (2 : Int32) = nI 2 from rfl, nI_add]
  have c0 := ck (i := 3 * k) (N := 72) (by omega) (by decide)
  have c1 := ck (i := 3 * k + 1) (N := 72) (by omega) (by decide)
  have c2 := ck (i := 3 * k + 2) (N := 72) (by omega) (by decide)
  have h1 : ∀ a v, gI (sA M 77 a v) 75 = nI k := fun _ _ => h
  have h2 : ∀ a v a' v', gI (sA (sA M 77 a v) 77 a' v') 75 = nI k := fun _ _ _ _ => h
  have h3 : ∀ a v a' v' a'' v'', gI (sA (sA (sA M 77 a v) 77 a' v') 77 a'' v'') 75 = nI k := fun _ _ _ _ _ _ => h
  have e1' : nI (3 * k) + 1 = nI (3 * k + 1) := nI_1 _
  have e2' : nI (3 * k) + 2 = nI (3 * k + 2) := by rw [show (2 : Int32) = nI 2 from rfl, nI_add]
  simp only [lt_eq, h1, h2, h3, h, e0, e1', e2']
  rw [if_neg c0, if_neg c1, if_neg c2, cl (show 3 * k < 2 ^ 31 by omega), cl (show 3 * k + 1 < 2 ^ 31 by omega), cl (show 3 * k + 2 < 2 ^ 31 by omega), nI_1, gI_sIs, nI_sub1]
def addN (nt : St) (k : Nat) (x y z w : Int32) : St := sI (sA (sA (sA (sA nt 0 k x) 1 k y) 2 k z) 3 k w) 5 (nI (k + 1))
theorem addSight_eq {nt : St} {k : Nat} {x y z : Int32} (hk : k < 24) (h : gI nt 5 = nI k) : fX3_addSight nt x y z = some (nI k, addN nt k x y (bz z) (-1)) := by
  unfold fX3_addSight addN
  have c0 := ck (i := k) (N := 24) (by omega) (by decide)
  have h1 : ∀ r a v, gI (sA nt r a v) 5 = nI k := fun _ _ _ => h
  have h2 : ∀ r a v r' a' v', gI (sA (sA nt r a v) r' a' v') 5 = nI k := fun _ _ _ _ _ _ => h
  have h3 : ∀ r a v r' a' v' r2 a2 v2, gI (sA (sA (sA nt r a v) r' a' v') r2 a2 v2) 5 = nI k := fun _ _ _ _ _ _ _ _ _ => h
  have h4 : ∀ r a v r' a' v' r2 a2 v2 r3 a3 v3, gI (sA (sA (sA (sA nt r a v) r' a' v') r2 a2 v2) r3 a3 v3) 5 = nI k := fun _ _ _ _ _ _ _ _ _ _ _ _ => h
  simp only [lt_eq, h, h1, h2, h3, h4]
  rw [if_neg c0, if_neg c0, if_neg c0, if_neg c0, cl (show k < 2 ^ 31 by omega), nI_1, gI_sIs, nI_sub1]
theorem addStrike_eq {nt : St} {k : Nat} {x : Int32} (hk : k < 24) (h : gI nt 5 = nI k) : fX3_addStrike nt x = some (nI k, addN nt k 0 0 (bz 0) x) := by
  unfold fX3_addStrike addN
  have c0 := ck (i := k) (N := 24) (by omega) (by decide)
  have h1 : ∀ r a v, gI (sA nt r a v) 5 = nI k := fun _ _ _ => h
  have h2 : ∀ r a v r' a' v', gI (sA (sA nt r a v) r' a' v') 5 = nI k := fun _ _ _ _ _ _ => h
  have h3 : ∀ r a v r' a' v' r2 a2 v2, gI (sA (sA (sA nt r a v) r' a' v') r2 a2 v2) 5 = nI k := fun _ _ _ _ _ _ _ _ _ => h
  have h4 : ∀ r a v r' a' v' r2 a2 v2 r3 a3 v3, gI (sA (sA (sA (sA nt r a v) r' a' v') r2 a2 v2) r3 a3 v3) 5 = nI k := fun _ _ _ _ _ _ _ _ _ _ _ _ => h
  simp only [lt_eq, h, h1, h2, h3, h4]
  rw [if_neg c0, if_neg c0, if_neg c0, if_neg c0, cl (show k < 2 ^ 31 by omega), nI_1, gI_sIs, nI_sub1]
theorem addN_of {nt M : St} {k : Nat} {x y z w x' y' z' : Int32} (hk : k < 24) (a : gI nt 5 = nI k) (b : gI M 75 = nI k) (c : gI nt 6 = gI M 76) (d : gI M 76 = -1 ∨ ∃ j, j ≤ k ∧ gI M 76 = nI j) (e : ∀ i, i < k → ntP nt M i) (h : (w = -1 ∧ x = x' ∧ y = y' ∧ z = z' ∧ nn x' 1 60 ∧ (z' = 0 ∨ z' = 1)) ∨ (x' = -1 ∧ w = y' ∧ ∃ j, j < k ∧ y' = nI j)) : NR (addN nt k x y z w) (sI (sA (sA (sA M 77 (3 * k) x') 77 (3 * k + 1) y') 77 (3 * k + 2) z') 75 (nI (k + 1))) := by
  refine ⟨k + 1, by omega, gI_sIs .., gI_sIs .., c, d.elim Or.inl (fun ⟨j, hj, ej⟩ => Or.inr ⟨j, by omega, ej⟩), fun i hi => ?_⟩
  have mA : ∀ i, gA (sI (sA (sA (sA M 77 (3 * k) x') 77 (3 * k + 1) y') 77 (3 * k + 2) z') 75 (nI (k + 1))) 77 i = if i = 3 * k + 2 then z' else if i = 3 * k + 1 then y' else if i = 3 * k then x' else gA M 77 i := fun i => by
    rw [gA_sI, gA_sA, gA_sA, gA_sA]
    simp only [true_and]
  have cA : ∀ i, gA (addN nt k x y z w) 0 i = (if i = k then x else gA nt 0 i) ∧ gA (addN nt k x y z w) 1 i = (if i = k then y else gA nt 1 i) ∧ gA (addN nt k x y z w) 2 i = (if i = k then z else gA nt 2 i) ∧ gA (addN nt k x y z w) 3 i = (if i = k then w else gA nt 3 i) := fun i => by
    unfold addN
    refine ⟨?_, ?_, ?_, ?_⟩
    · rw [gA_sI, gA_row _ _ _ _ (by decide), gA_row _ _ _ _ (by decide), gA_row _ _ _ _ (by decide), gA_sA]; simp only [true_and]
    · rw [gA_sI, gA_row _ _ _ _ (by decide), gA_row _ _ _ _ (by decide), gA_sA]; simp only [true_and]; rw [gA_row _ _ _ _ (by decide)]
    · rw [gA_sI, gA_row _ _ _ _ (by decide), gA_sA]; simp only [true_and]; rw [gA_row _ _ _ _ (by decide), gA_row _ _ _ _ (by decide)]
    · rw [gA_sI, gA_sA]; simp only [true_and]; rw [gA_row _ _ _ _ (by decide), gA_row _ _ _ _ (by decide), gA_row _ _ _ _ (by decide)]
  obtain ⟨c0, c1, c2, c3⟩ := cA i
  unfold ntP
  rw [c0, c1, c2, c3, mA, mA, mA]
  by_cases hk2 : i = k
  · subst hk2
    rw [if_pos rfl, if_pos rfl, if_pos rfl, if_pos rfl, if_neg (by omega), if_neg (by omega), if_pos rfl, if_neg (by omega), if_pos rfl, if_pos rfl]
    rcases h with ⟨q1, q2, q3, q4, q5, q6⟩ | ⟨q1, q2, q3⟩
    · exact Or.inl ⟨q1, q2, q3, q4, q5, q6⟩
    · exact Or.inr ⟨q1, q2, q3⟩
  · rw [if_neg hk2, if_neg hk2, if_neg hk2, if_neg hk2, if_neg (by omega), if_neg (by omega), if_neg (by omega), if_neg (by omega), if_neg (by omega), if_neg (by omega), if_neg (by omega), if_neg (by omega), if_neg (by omega)]
    exact e i (by omega)
theorem NFn {M : St} {k : Nat} {x y z v : Int32} : NF M (sI (sA (sA (sA (sI M 2 0) 77 (3 * k) x) 77 (3 * k + 1) y) 77 (3 * k + 2) z) 75 v) := by
  refine ⟨fun j h1 h2 _ => ?_, rfl, fun r hr => ?_, rfl⟩
  · rw [gI_sIn _ _ h2]; exact gI_sIn _ _ h1
  · funext i
    rw [gA_sI, gA_row _ _ _ _ hr, gA_row _ _ _ _ hr, gA_row _ _ _ _ hr]; rfl
theorem full_t {nt : St} {k : Nat} (h : gI nt 5 = nI k) (hk : k ≤ 24) : fX3_isFull nt = if k < 24 then (0 : Int32) else 1 := by
  show bz (if gI nt 5 < (24 : Int32) then (0 : Int32) else 1) = _
  rw [h]
  by_cases c : k < 24
  · rw [if_pos (show nI k < (24 : Int32) from (nI_ltI (a := k) (b := 24) (by omega) (by omega)).mpr c), if_pos c]; rfl
  · rw [if_neg (show ¬ nI k < (24 : Int32) from fun q => c ((nI_ltI (a := k) (b := 24) (by omega) (by omega)).mp q)), if_neg c]; rfl
theorem NR.th {nt M : St} (h : NR nt M) : NR nt (sI M 2 0) := h.Q rfl rfl rfl rfl rfl (fun _ _ => rfl)
theorem see_of {mn nt M : St} {x y z : Int32} (h : NR nt M) (hz : z = 0 ∨ z = 1) : ok (fX11_see mn nt x y z) (fun r => ok (fX12_see M x y z) (fun r' => ntR M r r')) := by
  have bad : ntR M ((-1 : Int32), nt) ((-1 : Int32), sI M 2 0) := ⟨rfl, h.th, NF.th⟩
  have h' := h
  obtain ⟨k, hk, a, b, c, d, e⟩ := h'
  unfold fX11_see
  -- the reference says no
  have no : (fX12_isIn x 1 60 = 0 ∨ fX12_isIn y 0 999 = 0 ∨ k = 24) → ok (fX12_see M x y z) (fun r' => ntR M ((-1 : Int32), nt) r') := by
    intro q
    unfold fX12_see
    refine ok_lt (ok_lt (ok_if (fun _ => ok_some bad) (fun c1 => ok_if (fun _ => ok_some bad) (fun c2 => ok_if (fun _ => ok_some bad) (fun c3 => ?_)))))
    rcases q with q | q | q
    · exact absurd q c2
    · exact absurd q c3
    · exact absurd (show gI (sI M 2 0) 75 = 24 from b.trans (by rw [q]; rfl)) c1
  refine ok_if (fun q => ok_some (no (Or.inl (isIn_0 (Or.inl q))))) (fun x0 => ok_if (fun q => ok_some (no (Or.inl (isIn_0 (Or.inr q))))) (fun x1 => ok_if (fun q => ok_some (no (Or.inr (Or.inl (isIn_0 (Or.inl q)))))) (fun y0 => ok_if (fun q => ok_some (no (Or.inr (Or.inl (isIn_0 (Or.inr q)))))) (fun y1 => ?_))))
  rw [full_t a hk]
  by_cases ck : k < 24
  · rw [if_pos ck]
    refine ok_t rfl (ok_bindx (addSight_eq ck a) (ok_some ?_))
    unfold fX12_see
    have n24 : ¬ gI (sI M 2 0) 75 = 24 := fun q => by
      have := (nI_eq (a := k) (b := 24) (by omega) (by omega)).mp (b.symm.trans q); omega
    refine ok_lt (ok_lt (ok_f n24 (ok_f (by rw [isIn_1 x0 x1]; exact i10) (ok_f (by rw [isIn_1 y0 y1]; exact i10) (ok_lt (ok_bindx (noted_eq (M := sI M 2 0) ck b) (ok_some ⟨rfl, ?_, NFn⟩)))))))
    refine addN_of (M := sI M 2 0) ck a b c d (fun i hi => e i hi) (Or.inl ⟨rfl, rfl, rfl, ?_, ?_, ?_⟩)
    · rcases hz with rfl | rfl <;> decide
    · rcases in_or x (N := 60) (by decide) with q | ⟨_, q⟩ | ⟨q0, q1, n, hn, rfl⟩
      · exact absurd (show x < 1 by rw [i_lt] at *; rw [show (1 : Int32).toInt = 1 from rfl]; rw [show (0 : Int32).toInt = 0 from rfl] at q; omega) x0
      · exact absurd q x1
      · refine ⟨n, ?_, hn, rfl⟩
        rcases Nat.eq_zero_or_pos n with q | q
        · exact absurd (show nI n < 1 by rw [q]; decide) x0
        · exact q
    · rcases hz with rfl | rfl
      · exact Or.inl rfl
      · exact Or.inr rfl
  · rw [if_neg ck]
    exact ok_f i10 (ok_some (no (Or.inr (Or.inr (by omega)))))
theorem strike_of {mn nt M : St} {x : Int32} (h : NR nt M) : ok (fX11_strike mn nt x) (fun r => ok (fX12_strike M x) (fun r' => ntR M r r')) := by
  have bad : ntR M ((-1 : Int32), nt) ((-1 : Int32), sI M 2 0) := ⟨rfl, h.th, NF.th⟩
  have h' := h
  obtain ⟨k, hk, a, b, c, d, e⟩ := h'
  have b' : gI (sI M 2 0) 75 = nI k := b
  unfold fX11_strike
  have no : (x < 0 ∨ nI k ≤ x ∨ k = 24) → ok (fX12_strike M x) (fun r' => ntR M ((-1 : Int32), nt) r') := by
    intro q
    unfold fX12_strike
    refine ok_lt (ok_lt (ok_if (fun _ => ok_some bad) (fun c1 => ok_if (fun _ => ok_some bad) (fun c2 => ?_))))
    rw [b'] at c1 ⊢
    refine ok_if (fun c3 => ?_) (fun _ => ok_some bad)
    rcases q with q | q | q
    · exact absurd q c2
    · exact absurd c3 ((le_nlt _ _).mp q)
    · exact absurd (show nI k = 24 by rw [q]; rfl) c1
  rw [a]
  refine ok_if (fun q => ok_some (no (Or.inl q))) (fun x0 => ok_if (fun q => ok_some (no (Or.inr (Or.inl q)))) (fun x1 => ?_))
  rw [full_t a hk]
  by_cases ck : k < 24
  · rw [if_pos ck]
    refine ok_t rfl (ok_bindx (addStrike_eq ck a) (ok_some ?_))
    unfold fX12_strike
    have n24 : ¬ gI (sI M 2 0) 75 = 24 := fun q => by
      have := (nI_eq (a := k) (b := 24) (by omega) (by omega)).mp (b.symm.trans q); omega
    obtain ⟨j, hj, ej⟩ := ix_of x0 x1 (by omega)
    refine ok_lt (ok_lt (ok_f n24 (ok_f x0 (ok_t ?_ (ok_bindx (noted_eq (M := sI M 2 0) ck b) (ok_some ⟨rfl, ?_, NFn⟩))))))
    · rw [b', ej, nI_ltI (by omega) (by omega)]; exact hj
    · exact addN_of (M := sI M 2 0) ck a b c d (fun i hi => e i hi) (Or.inr ⟨rfl, rfl, j, hj, ej⟩)
  · rw [if_neg ck]
    exact ok_f i10 (ok_some (no (Or.inr (Or.inr (by omega)))))
theorem known_of {mn nt M : St} {x : Int32} (h : NR nt M) : ntR M (fX11_known mn nt x) (fX12_known M x) := by
  have bad : ntR M ((0 : Int32), nt) ((0 : Int32), sI M 2 0) := ⟨rfl, h.th, NF.th⟩
  obtain ⟨k, hk, a, b, c, d, e⟩ := h
  have b' : gI (sI M 2 0) 75 = nI k := b
  unfold fX11_known fX12_known
  simp only [lt_eq]
  rw [a, b']
  by_cases x0 : x < (-1 : Int32)
  · rw [if_pos x0, if_pos (isIn_0 (Or.inl x0))]; exact bad
  · rw [if_neg x0]
    by_cases x1 : nI k < x
    · rw [if_neg (fun q => (le_nlt _ _).mp q x1), if_pos (isIn_0 (Or.inr x1))]; exact bad
    · rw [if_pos ((le_nlt _ _).mpr x1), if_neg (by rw [isIn_1 x0 x1]; exact i10)]
      refine ⟨rfl, ⟨k, hk, a, b, rfl, ?_, fun i hi => e i hi⟩, ⟨fun j h1 _ h3 => ?_, rfl, fun _ _ => rfl, rfl⟩⟩
      · by_cases q : x < 0
        · refine Or.inl ?_
          show x = -1
          rw [i_eq]; rw [i_lt] at q x0; rw [show (0 : Int32).toInt = 0 from rfl] at q; rw [show (-1 : Int32).toInt = -1 from rfl] at x0 ⊢; omega
        · obtain ⟨j, hj, ej⟩ := nI_of q
          refine Or.inr ⟨j, ?_, ej⟩
          rcases Nat.lt_or_ge k j with w | w
          · exact absurd (by rw [ej, nI_ltI (by omega) (by omega)]; exact w) x1
          · exact w
      · show gI (sI (sI M 2 0) 76 x) j = gI M j
        rw [gI_sIn _ _ h3, gI_sIn _ _ h1]
