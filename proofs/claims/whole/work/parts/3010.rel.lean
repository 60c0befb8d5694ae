/-! the relation of what is told -/
def nn (x : Int32) (a b : Nat) : Prop := ∃ k : Nat, a ≤ k ∧ k ≤ b ∧ x = nI k
def TRn (T : Nat → St) (M : St) (na ng nr ns : Nat) : Prop := (na ≤ 6 ∧ ng ≤ 6 ∧ nr ≤ 4 ∧ ns ≤ 14) ∧ (gI (T 1) 5 = nI na ∧ gI (T 2) 5 = nI ng ∧ gI (T 3) 5 = nI nr ∧ gI (T 4) 5 = nI ns) ∧ (gI M 12 = nI na ∧ gI M 13 = nI ng ∧ gI M 14 = nI nr ∧ gI M 15 = nI ns)
def TRa (T : Nat → St) (M : St) (na : Nat) : Prop := ∀ i, i < na → gA (T 1) 1 i = gA M 24 i ∧ gA (T 1) 2 i = gA M 25 i ∧ gA (T 1) 3 i = gA M 26 i ∧ nn (gA M 25 i) 0 9 ∧ nn (gA M 26 i) 1 9
def TRg (T : Nat → St) (M : St) (ng : Nat) : Prop := ∀ i, i < ng → gA (T 2) 1 i = gA M 27 i ∧ gA (T 2) 2 i = gA M 28 i ∧ gA (T 2) 3 i = gA M 29 i ∧ nn (gA M 28 i) 0 9 ∧ nn (gA M 29 i) 0 9
def TRr (T : Nat → St) (M : St) (nr : Nat) : Prop := ∀ i, i < nr → gA (T 3) 1 i = gA M 30 i ∧ gA (T 3) 2 i = gA M 31 i ∧ gA (T 3) 3 i = gA M 32 i ∧ gA (T 3) 4 i = gA M 33 i ∧ nn (gA M 31 i) 0 99 ∧ nn (gA M 32 i) 0 99 ∧ nn (gA M 33 i) 0 99
def TRs (T : Nat → St) (M : St) (na ns : Nat) : Prop := ∀ i, i < ns → gA (T 4) 2 i = gA M 34 i ∧ gA (T 4) 3 i = gA M 35 i ∧ (∃ j, j < na ∧ gA M 34 i = nI j) ∧ nn (gA M 35 i) 0 99
def TRm (T : Nat → St) (M : St) : Prop := gI (T 0) 5 = gA M 23 0 ∧ gI (T 0) 6 = gA M 23 1 ∧ gI (T 0) 9 = gI M 16 ∧ nn (gA M 23 0) 0 100 ∧ nn (gA M 23 1) 0 99999
/-- a knot's kind in the class, by that of the reference -/
def kc (x : Int32) : Int32 := if x = 3 then 4 else if x = 4 then 3 else x
/-- the knots that wait to be joined, behind i knots -/
def hst (k : Nat → Int32) : Nat → List Nat
  | 0 => []
  | i + 1 => if k i = 0 ∨ k i = 1 then i :: hst k i else if k i = 2 then i :: (hst k i).drop 1 else i :: (hst k i).drop 2
/-- knots are joined as they should -/
def LW (k p o : Nat → Int32) (fr n : Nat) : Prop := ∀ i, i < n → ∃ t, t ≤ 14 ∧ k (fr + i) = nI t ∧ (t = 0 → nn (p (fr + i)) 0 9999) ∧ (t = 1 → nn (p (fr + i)) 0 6) ∧
  (t = 2 → ∃ x r, hst (fun j => k (fr + j)) i = x :: r ∧ p (fr + i) = nI (fr + x)) ∧
  (2 < t → ∃ y x r, hst (fun j => k (fr + j)) i = y :: x :: r ∧ p (fr + i) = nI (fr + x) ∧ o (fr + i) = nI (fr + y))
def LR (f M : St) (w : Nat) : Prop := gI f 4 = gA M 36 w ∧ (gA M 36 w = 0 ∨ (gA M 36 w = 1 ∧ ∃ fr n, 1 ≤ n ∧ fr + n ≤ 64 ∧ gI f 3 = nI n ∧ gA M 37 w = nI fr ∧ gA M 38 w = nI (fr + n) ∧
  LW (gA M 39) (gA M 40) (gA M 41) fr n ∧ (∀ i, i < n → gA f 0 i = kc (gA M 39 (fr + i)) ∧ (gA M 39 (fr + i) = 0 ∨ gA M 39 (fr + i) = 1 → gA f 1 i = gA M 40 (fr + i))) ∧ (hst (fun j => gA M 39 (fr + j)) n).length = 1))
def TRl (T : Nat → St) (M : St) : Prop := LR (T 5) M 0 ∧ LR (T 6) M 1 ∧ LR (T 7) M 2
def TR (T : Nat → St) (M : St) (na ng nr ns : Nat) : Prop := TRn T M na ng nr ns ∧ TRa T M na ∧ TRg T M ng ∧ TRr T M nr ∧ TRs T M na ns ∧ TRm T M ∧ TRl T M
/-! a hall, and the half b of the reference -/
def HRv (u M : St) (b : Nat) : Prop := gI u 0 = gA M 59 b ∧ gI u 1 = gA M 55 b ∧ gI u 2 = gA M 53 b ∧ gI u 3 = gA M 54 b ∧ gI u 4 = gA M 57 b ∧ gI u 5 = gA M 58 b ∧ gI u 7 = gA M 56 b ∧ gI u 6 = ((gA M 63 (4 * b) + gA M 63 (4 * b + 1)) + gA M 63 (4 * b + 2)) + gA M 63 (4 * b + 3)
def HRr (u M : St) (b : Nat) : Prop := (∀ g, g < 4 → gA u 9 g = gA M 63 (4 * b + g)) ∧ (∀ g, g < 6 → gA u 10 g = gA M 61 (6 * b + g)) ∧ (∀ g, g < 6 → gA u 11 g = gA M 62 (6 * b + g)) ∧ (∀ g, g < 6 → gA u 12 g = gA M 60 (6 * b + g))
def isOn (M : St) (b na : Nat) : Prop := (gA M 53 b = -1 ∧ gA M 54 b = 0) ∨ ∃ i, i < na ∧ gA M 53 b = nI i ∧ nn (gA M 54 b) 1 9
def isSeats (M : St) (b ng : Nat) : Prop := ∃ f : Nat → Nat, (∀ k, k < 6 → gA M 60 (6 * b + k) = nI (f k)) ∧ (∀ k, k < ng → f k < ng) ∧ (∀ k, ng ≤ k → k < 6 → f k = k) ∧ (∀ i j, i < 6 → j < 6 → f i = f j → i = j) ∧ (∀ g, g < ng → ∃ k, k < ng ∧ f k = g)
def isGround (M : St) (b nr : Nat) : Prop := (∀ g, g < nr → ∃ k s : Nat, k ≤ s ∧ s ≤ 99 ∧ gA M 63 (4 * b + g) = nI k ∧ gA M 33 g = nI s) ∧ ∀ g, nr ≤ g → g < 4 → gA M 63 (4 * b + g) = 0
def isTired (M : St) (b ng : Nat) : Prop := (∀ g, g < ng → nn (gA M 61 (6 * b + g)) 0 9999) ∧ ∀ g, ng ≤ g → g < 6 → gA M 61 (6 * b + g) = 0
def isSpeed (M : St) (b : Nat) : Prop := -99 ≤ (gA M 55 b).toInt ∧ (gA M 55 b).toInt ≤ 99
def isLatest (M : St) (b nr : Nat) : Prop := gA M 56 b = -1 ∨ ∃ i, i < nr ∧ gA M 56 b = nI i
def HI (M : St) (b na ng nr : Nat) : Prop := (na ≤ 6 ∧ ng ≤ 6 ∧ nr ≤ 4) ∧ isOn M b na ∧ isSeats M b ng ∧ isGround M b nr ∧ isTired M b ng ∧ isSpeed M b ∧ isLatest M b nr
def HR (u M : St) (b na ng nr : Nat) : Prop := HRv u M b ∧ HRr u M b ∧ HI M b na ng nr
/-! the small questions -/
theorem bz01 {c d : Prop} [Decidable c] [Decidable d] : bz (if c then (0 : Int32) else if d then 0 else 1) = if c then (0 : Int32) else if d then 0 else 1 := bz_ite bz0 (bz_ite bz0 bz1)
theorem has_of {n k : Nat} {u : St} {a : Int32} (hk : gI u 5 = nI k) (h2 : k < 2 ^ 31) : fX7_has n u a = 0 ∨ ∃ i, i < k ∧ a = nI i ∧ fX7_has n u a = 1 := by
  show bz (if a < 0 then (0 : Int32) else if gI u 5 ≤ a then 0 else 1) = 0 ∨ ∃ i, i < k ∧ a = nI i ∧ bz (if a < 0 then (0 : Int32) else if gI u 5 ≤ a then 0 else 1) = 1
  rw [bz01]
  by_cases h0 : a < 0
  · rw [if_pos h0]; exact Or.inl rfl
  · rw [if_neg h0]
    by_cases h1 : gI u 5 ≤ a
    · rw [if_pos h1]; exact Or.inl rfl
    · rw [if_neg h1]
      obtain ⟨i, hi, e⟩ := ix_of h0 (by rw [← hk]; exact h1) h2
      exact Or.inr ⟨i, hi, e, rfl⟩
/-- the same test over a size x -/
def tst (x a : Int32) : Int32 := if a < 0 then 0 else if x ≤ a then 0 else 1
theorem has_t (n : Nat) (u : St) (a : Int32) : fX7_has n u a = tst (gI u 5) a := bz01
theorem isAct_t (M : St) (a : Int32) : fX12_isAct M a = tst (gI M 12) a := bz01
theorem isGuest_t (M : St) (a : Int32) : fX12_isGuest M a = tst (gI M 13) a := bz01
theorem isGrain_t (M : St) (a : Int32) : fX12_isGrain M a = tst (gI M 14) a := bz01
theorem tst_or {k : Nat} (a : Int32) (h2 : k < 2 ^ 31) : tst (nI k) a = 0 ∨ ∃ i, i < k ∧ a = nI i ∧ tst (nI k) a = 1 := by
  unfold tst
  by_cases h0 : a < 0
  · rw [if_pos h0]; exact Or.inl rfl
  · rw [if_neg h0]
    by_cases h1 : nI k ≤ a
    · rw [if_pos h1]; exact Or.inl rfl
    · rw [if_neg h1]
      obtain ⟨i, hi, e⟩ := ix_of h0 h1 h2
      exact Or.inr ⟨i, hi, e, rfl⟩
theorem tst_1 {k i : Nat} (h : i < k) (h2 : k < 2 ^ 31) : tst (nI k) (nI i) = 1 := by
  unfold tst
  rw [if_neg (nI_pos (by omega)), if_neg (by rw [nI_leI (by omega) (by omega)]; omega)]
theorem i10 : ¬ ((1 : Int32) = 0) := by decide
/-- a row of a script's roll, by an index that it has -/
theorem sc_row {x : Int32} {n N i j : Nat} {u : St} (hx : x = nI n) (hi : i < n) (hn : n ≤ N) (hN : N < 2 ^ 31) : (if nI i < 0 then some (0 : Int32) else if x ≤ nI i then some (0 : Int32) else if nI i < 0 ∨ N ≤ (nI i).toNatClampNeg then none else some (gA u j (nI i).toNatClampNeg)) = some (gA u j i) := by
  rw [hx, if_neg (nI_pos (by omega)), if_neg (by rw [nI_leI (by omega) (by omega)]; omega), if_neg (ck (by omega) hN), cl (by omega)]
theorem mood_eq {T : Nat → St} {n i : Nat} (hx : gI (T 1) 5 = nI n) (hi : i < n) (hn : n ≤ 6) : fX8_mood T (nI i) = some (gA (T 1) 2 i) := sc_row hx hi hn (by decide)
theorem minutesOf_eq {T : Nat → St} {n i : Nat} (hx : gI (T 1) 5 = nI n) (hi : i < n) (hn : n ≤ 6) : fX8_minutesOf T (nI i) = some (gA (T 1) 3 i) := sc_row hx hi hn (by decide)
theorem taste_eq {T : Nat → St} {n i : Nat} (hx : gI (T 2) 5 = nI n) (hi : i < n) (hn : n ≤ 6) : fX8_taste T (nI i) = some (gA (T 2) 2 i) := sc_row hx hi hn (by decide)
theorem hunger_eq {T : Nat → St} {n i : Nat} (hx : gI (T 2) 5 = nI n) (hi : i < n) (hn : n ≤ 6) : fX8_hunger T (nI i) = some (gA (T 2) 3 i) := sc_row hx hi hn (by decide)
theorem low_eq {T : Nat → St} {n i : Nat} (hx : gI (T 3) 5 = nI n) (hi : i < n) (hn : n ≤ 4) : fX8_low T (nI i) = some (gA (T 3) 2 i) := sc_row hx hi hn (by decide)
theorem high_eq {T : Nat → St} {n i : Nat} (hx : gI (T 3) 5 = nI n) (hi : i < n) (hn : n ≤ 4) : fX8_high T (nI i) = some (gA (T 3) 3 i) := sc_row hx hi hn (by decide)
theorem sacks_eq {T : Nat → St} {n i : Nat} (hx : gI (T 3) 5 = nI n) (hi : i < n) (hn : n ≤ 4) : fX8_sacks T (nI i) = some (gA (T 3) 4 i) := sc_row hx hi hn (by decide)
/-- finding a name -/
def fnd (f : Nat → Int32) (x : Int32) : Nat → Nat → Int32
  | 0, _ => -1
  | d + 1, i => if f i = x then nI i else fnd f x d (i + 1)
theorem fnd_cong {f g : Nat → Int32} {x : Int32} : ∀ (d i : Nat), (∀ k, i ≤ k → k < i + d → f k = g k) → fnd f x d i = fnd g x d i
  | 0, _, _ => rfl
  | d + 1, i, h => by rw [fnd, fnd, h i (Nat.le_refl _) (by omega), fnd_cong d (i + 1) (fun k h1 h2 => h k (by omega) (by omega))]
theorem fnd_or (f : Nat → Int32) (x : Int32) : ∀ (d i : Nat), fnd f x d i = -1 ∨ ∃ j, i ≤ j ∧ j < i + d ∧ fnd f x d i = nI j
  | 0, _ => Or.inl rfl
  | d + 1, i => by
    rw [fnd]
    by_cases h : f i = x
    · rw [if_pos h]; exact Or.inr ⟨i, by omega, by omega, rfl⟩
    · rw [if_neg h]
      rcases fnd_or f x d (i + 1) with q | ⟨j, h1, h2, q⟩
      · exact Or.inl q
      · exact Or.inr ⟨j, by omega, by omega, q⟩
theorem find_L {u : St} {N n : Nat} {x : Int32} (hx : gI u 5 = nI n) (hn : n ≤ N) (hN : N < 2 ^ 31) : ∀ (d nf i : Nat), i + d = n → d < nf → ok (fX7_find_L1 u N x nf (nI i)) (fun y => el y (fun _ => (-1 : Int32)) id = fnd (gA u 1) x d i)
  | 0, nf + 1, i, h, _ => by
    rw [fX7_find_L1, hx]
    exact ok_t (by rw [nI_leI (by omega) (by omega)]; omega) (ok_some rfl)
  | d + 1, nf + 1, i, h, hf => by
    rw [fX7_find_L1, hx]
    refine ok_f (by rw [nI_leI (by omega) (by omega)]; omega) (ok_f (ck (by omega) hN) ?_)
    rw [cl (by omega)]
    refine ok_if (fun c => ?_) (fun c => ?_)
    · exact ok_some (by rw [fnd, if_pos c]; rfl)
    · rw [fnd, if_neg c, lt_eq, nI_1]
      exact find_L hx hn hN d nf (i + 1) (by omega) (by omega)
theorem find_eq {u : St} {N n : Nat} {x : Int32} (hx : gI u 5 = nI n) (hn : n ≤ N) (hN : N < 900) : fX7_find N u x = some (fnd (gA u 1) x n 0) := by
  refine ok_get ?_
  unfold fX7_find
  refine ok_bind (ok_mono (find_L hx hn (by omega) n fuel 0 (by omega) (by rw [fuel_eq]; omega)) (fun y hy => ?_))
  cases y with
  | inl a => exact ok_some (show (-1 : Int32) = _ from hy)
  | inr b => exact ok_some (show b = _ from hy)
theorem mfind_L {u : St} {N n fr : Nat} {x : Int32} (hn : fr + n ≤ N) (hN : N < 2 ^ 31) : ∀ (d nf i : Nat), i + d = n → d < nf → ok (fX12_find_L1 u N (nI fr) (nI n) x nf (nI i)) (fun y => el y (fun _ => (-1 : Int32)) id = fnd (fun k => gA u 0 (fr + k)) x d i)
  | 0, nf + 1, i, h, _ => by
    rw [fX12_find_L1]
    exact ok_t (by rw [nI_leI (by omega) (by omega)]; omega) (ok_some rfl)
  | d + 1, nf + 1, i, h, hf => by
    rw [fX12_find_L1, nI_add]
    refine ok_f (by rw [nI_leI (by omega) (by omega)]; omega) (ok_f (ck (by omega) hN) ?_)
    rw [cl (by omega)]
    refine ok_if (fun c => ?_) (fun c => ?_)
    · exact ok_some (by rw [fnd, if_pos c]; rfl)
    · rw [fnd, if_neg c, lt_eq, nI_1]
      exact mfind_L hn hN d nf (i + 1) (by omega) (by omega)
theorem mfind_eq {u : St} {N n fr : Nat} {x : Int32} (hn : fr + n ≤ N) (hN : N < 900) : fX12_find N u (nI fr) (nI n) x = some (fnd (fun k => gA u 0 (fr + k)) x n 0) := by
  refine ok_get ?_
  unfold fX12_find
  refine ok_bind (ok_mono (mfind_L hn (by omega) n fuel 0 (by omega) (by rw [fuel_eq]; omega)) (fun y hy => ?_))
  cases y with
  | inl a => exact ok_some (show (-1 : Int32) = _ from hy)
  | inr b => exact ok_some (show b = _ from hy)
