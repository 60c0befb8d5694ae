def bnd (x : Int64) : Prop := -1000000000000 ≤ x.toInt ∧ x.toInt ≤ 1000000000000
theorem lim_t : (1000000000000 : Int64).toInt = 1000000000000 := by decide
theorem lim_m : (-1000000000000 : Int64).toInt = -1000000000000 := by decide
theorem l0 : (0 : Int64).toInt = 0 := by decide
theorem l1 : (1 : Int64).toInt = 1 := by decide
theorem lmin : (-9223372036854775808 : Int64).toInt = -9223372036854775808 := by decide
theorem bnd0 : bnd 0 := by unfold bnd; rw [l0]; omega
theorem bnd1 : bnd 1 := by unfold bnd; rw [l1]; omega
theorem bnd_ite {c : Prop} [Decidable c] {a b : Int64} (ha : bnd a) (hb : bnd b) : bnd (if c then a else b) := by
  by_cases h : c
  · rw [if_pos h]; exact ha
  · rw [if_neg h]; exact hb
theorem bnd_iff (x : Int64) : bnd x ↔ ¬ (1000000000000 : Int64) < x ∧ (-1000000000000 : Int64) ≤ x := by
  unfold bnd
  rw [l_lt, l_le, lim_t, lim_m]
  omega
theorem bnd_ne {x : Int64} (h : bnd x) : x ≠ -9223372036854775808 := by
  intro e
  unfold bnd at h
  rw [e, lmin] at h
  omega
theorem bnd_i (x : Int32) : bnd x.toInt64 := by
  unfold bnd
  rw [Int32.toInt_toInt64]
  have := fb_rng x
  omega
theorem abs_c {x : Int64} (h : bnd x) : (if 0 < x then x else -x).toInt = (x.toInt.natAbs : Int) := by
  unfold bnd at h
  by_cases c : 0 < x
  · rw [if_pos c]
    rw [l_lt, l0] at c
    omega
  · rw [if_neg c]
    rw [l_lt, l0] at c
    rw [Int64.toInt_neg, fb_bmodL (by omega) (by omega)]
    omega
theorem abs_r {x : Int64} (h : bnd x) : (if (0 : Int64) ≤ x then x else -x).toInt = (x.toInt.natAbs : Int) := by
  unfold bnd at h
  by_cases c : 0 ≤ x
  · rw [if_pos c]
    rw [l_le, l0] at c
    omega
  · rw [if_neg c]
    rw [l_le, l0] at c
    rw [Int64.toInt_neg, fb_bmodL (by omega) (by omega)]
    omega
/-- what is too much to be multiplied -/
def mch (a b : Int64) : Prop := ¬ a.toInt = 0 ∧ 1000000000000 / a.toInt.natAbs < b.toInt.natAbs
theorem lim_div {y : Int64} {n : Nat} (hy : y.toInt = (n : Int)) (h0 : 0 < n) (hn : n ≤ 1000000000000) : ((1000000000000 : Int64) / y).toInt = ((1000000000000 / n : Nat) : Int) := by
  rw [Int64.toInt_div_of_ne_left _ _ (by decide), lim_t, hy]
  rw [Int.tdiv_eq_ediv_of_nonneg (by omega)]
  rfl
theorem mul_bnd {a b : Int64} (ha : bnd a) (hb : bnd b) (h : ¬ mch a b) : bnd (a * b) := by
  by_cases h0 : a.toInt = 0
  · have e : (a * b).toInt = 0 := by rw [fb_mulL (by rw [h0]; omega) (by rw [h0]; omega), h0, Int.zero_mul]
    unfold bnd
    rw [e]; omega
  · have h1 : b.toInt.natAbs ≤ 1000000000000 / a.toInt.natAbs := by
      rcases Nat.lt_or_ge (1000000000000 / a.toInt.natAbs) b.toInt.natAbs with q | q
      · exact absurd ⟨h0, q⟩ h
      · exact q
    have h2 : a.toInt.natAbs * b.toInt.natAbs ≤ 1000000000000 := Nat.le_trans (Nat.mul_le_mul_left _ h1) (Nat.mul_div_le _ _)
    have h3 : (a.toInt * b.toInt).natAbs ≤ 1000000000000 := by rw [Int.natAbs_mul]; exact h2
    have e : (a * b).toInt = a.toInt * b.toInt := fb_mulL (by omega) (by omega)
    unfold bnd
    rw [e]; omega
theorem div_bnd {a b : Int64} (ha : bnd a) : bnd (a / b) := by
  unfold bnd at ha
  have e : (a / b).toInt = a.toInt.tdiv b.toInt := Int64.toInt_div_of_ne_left _ _ (bnd_ne ha)
  have h := Int.natAbs_tdiv_le_natAbs a.toInt b.toInt
  unfold bnd
  rw [e]; omega
/-- what two values make, by the reference's kind; none: an error -/
def op2 (t : Nat) (a b : Int64) : Option Int64 :=
  if t = 3 then some (if a = (0 : Int64) then (0 : Int64) else if b = (0 : Int64) then 0 else 1)
  else if t = 4 then some (if a = (0 : Int64) then (if b = (0 : Int64) then (0 : Int64) else 1) else 1)
  else if t = 5 then some (if b ≤ a then (0 : Int64) else 1)
  else if t = 6 then some (if b < a then (0 : Int64) else 1)
  else if t = 7 then some (if a = b then (1 : Int64) else 0)
  else if t = 8 then some (if a = b then (0 : Int64) else 1)
  else if t = 9 then some (if a < b then (0 : Int64) else 1)
  else if t = 10 then some (if a ≤ b then (0 : Int64) else 1)
  else if t = 11 then (if (1000000000000 : Int64) < a + b then none else if (-1000000000000 : Int64) ≤ a + b then some (a + b) else none)
  else if t = 12 then (if (1000000000000 : Int64) < a - b then none else if (-1000000000000 : Int64) ≤ a - b then some (a - b) else none)
  else if t = 13 then (if ¬ a.toInt = 0 ∧ 1000000000000 / a.toInt.natAbs < b.toInt.natAbs then none else some (a * b))
  else if b = (0 : Int64) then none else some (a / b)
/-- the class's answer tells it -/
def tells (o : Option Int64) (r : Int64) : Prop := (o = some r ∧ bnd r) ∨ (o = none ∧ ¬ bnd r)
theorem tells_b {x : Int64} : tells (if (1000000000000 : Int64) < x then none else if (-1000000000000 : Int64) ≤ x then some x else none) x := by
  by_cases h1 : (1000000000000 : Int64) < x
  · rw [if_pos h1]; exact Or.inr ⟨rfl, fun h => ((bnd_iff x).mp h).1 h1⟩
  · rw [if_neg h1]
    by_cases h2 : (-1000000000000 : Int64) ≤ x
    · rw [if_pos h2]; exact Or.inl ⟨rfl, (bnd_iff x).mpr ⟨h1, h2⟩⟩
    · rw [if_neg h2]; exact Or.inr ⟨rfl, fun h => h2 ((bnd_iff x).mp h).2⟩
theorem nbmin : ¬ bnd (-9223372036854775808) := fun h => bnd_ne h rfl

theorem cj_3 (a b : Int64) : fX0_join 4 a b = some (if a = (0 : Int64) then (0 : Int64) else if b = (0 : Int64) then 0 else 1) := by
  unfold fX0_join
  rw [if_neg (show ¬ (4 : Int32) = 3 by decide), if_pos rfl]; rfl
theorem cj_4 (a b : Int64) : fX0_join 3 a b = some (if a = (0 : Int64) then (if b = (0 : Int64) then (0 : Int64) else 1) else 1) := by
  unfold fX0_join
  rw [if_pos rfl]; rfl
theorem cj_5 (a b : Int64) : fX0_join 5 a b = some (if b ≤ a then (0 : Int64) else 1) := by
  unfold fX0_join
  rw [if_neg (show ¬ (5 : Int32) = 3 by decide), if_neg (show ¬ (5 : Int32) = 4 by decide), if_pos rfl]; rfl
theorem cj_6 (a b : Int64) : fX0_join 6 a b = some (if b < a then (0 : Int64) else 1) := by
  unfold fX0_join
  rw [if_neg (show ¬ (6 : Int32) = 3 by decide), if_neg (show ¬ (6 : Int32) = 4 by decide), if_neg (show ¬ (6 : Int32) = 5 by decide), if_pos rfl]; rfl
theorem cj_7 (a b : Int64) : fX0_join 7 a b = some (if a = b then (1 : Int64) else 0) := by
  unfold fX0_join
  rw [if_neg (show ¬ (7 : Int32) = 3 by decide), if_neg (show ¬ (7 : Int32) = 4 by decide), if_neg (show ¬ (7 : Int32) = 5 by decide), if_neg (show ¬ (7 : Int32) = 6 by decide), if_pos rfl]; rfl
theorem cj_8 (a b : Int64) : fX0_join 8 a b = some (if a = b then (0 : Int64) else 1) := by
  unfold fX0_join
  rw [if_neg (show ¬ (8 : Int32) = 3 by decide), if_neg (show ¬ (8 : Int32) = 4 by decide), if_neg (show ¬ (8 : Int32) = 5 by decide), if_neg (show ¬ (8 : Int32) = 6 by decide), if_neg (show ¬ (8 : Int32) = 7 by decide), if_pos rfl]; rfl
theorem cj_9 (a b : Int64) : fX0_join 9 a b = some (if a < b then (0 : Int64) else 1) := by
  unfold fX0_join
  rw [if_neg (show ¬ (9 : Int32) = 3 by decide), if_neg (show ¬ (9 : Int32) = 4 by decide), if_neg (show ¬ (9 : Int32) = 5 by decide), if_neg (show ¬ (9 : Int32) = 6 by decide), if_neg (show ¬ (9 : Int32) = 7 by decide), if_neg (show ¬ (9 : Int32) = 8 by decide), if_pos rfl]; rfl
theorem cj_10 (a b : Int64) : fX0_join 10 a b = some (if a ≤ b then (0 : Int64) else 1) := by
  unfold fX0_join
  rw [if_neg (show ¬ (10 : Int32) = 3 by decide), if_neg (show ¬ (10 : Int32) = 4 by decide), if_neg (show ¬ (10 : Int32) = 5 by decide), if_neg (show ¬ (10 : Int32) = 6 by decide), if_neg (show ¬ (10 : Int32) = 7 by decide), if_neg (show ¬ (10 : Int32) = 8 by decide), if_neg (show ¬ (10 : Int32) = 9 by decide), if_pos rfl]; rfl
theorem cj_11 (a b : Int64) : fX0_join 11 a b = some (a + b) := by
  unfold fX0_join
  rw [if_neg (show ¬ (11 : Int32) = 3 by decide), if_neg (show ¬ (11 : Int32) = 4 by decide), if_neg (show ¬ (11 : Int32) = 5 by decide), if_neg (show ¬ (11 : Int32) = 6 by decide), if_neg (show ¬ (11 : Int32) = 7 by decide), if_neg (show ¬ (11 : Int32) = 8 by decide), if_neg (show ¬ (11 : Int32) = 9 by decide), if_neg (show ¬ (11 : Int32) = 10 by decide), if_pos rfl]
theorem cj_12 (a b : Int64) : fX0_join 12 a b = some (a - b) := by
  unfold fX0_join
  rw [if_neg (show ¬ (12 : Int32) = 3 by decide), if_neg (show ¬ (12 : Int32) = 4 by decide), if_neg (show ¬ (12 : Int32) = 5 by decide), if_neg (show ¬ (12 : Int32) = 6 by decide), if_neg (show ¬ (12 : Int32) = 7 by decide), if_neg (show ¬ (12 : Int32) = 8 by decide), if_neg (show ¬ (12 : Int32) = 9 by decide), if_neg (show ¬ (12 : Int32) = 10 by decide), if_neg (show ¬ (12 : Int32) = 11 by decide), if_pos rfl]
theorem cj_13 (a b : Int64) : fX0_join 13 a b = (if a = (0 : Int64) then some (a * b) else if (if 0 < a then a else -a) = 0 then none else if (if 0 < b then b else -b) ≤ (1000000000000 : Int64) / (if 0 < a then a else -a) then some (a * b) else some (-9223372036854775808 : Int64)) := by
  unfold fX0_join
  rw [if_neg (show ¬ (13 : Int32) = 3 by decide), if_neg (show ¬ (13 : Int32) = 4 by decide), if_neg (show ¬ (13 : Int32) = 5 by decide), if_neg (show ¬ (13 : Int32) = 6 by decide), if_neg (show ¬ (13 : Int32) = 7 by decide), if_neg (show ¬ (13 : Int32) = 8 by decide), if_neg (show ¬ (13 : Int32) = 9 by decide), if_neg (show ¬ (13 : Int32) = 10 by decide), if_neg (show ¬ (13 : Int32) = 11 by decide), if_neg (show ¬ (13 : Int32) = 12 by decide), if_pos rfl]
theorem cj_14 (a b : Int64) : fX0_join 14 a b = (if b = (0 : Int64) then some (-9223372036854775808 : Int64) else if b = 0 then none else some (a / b)) := by
  unfold fX0_join
  rw [if_neg (show ¬ (14 : Int32) = 3 by decide), if_neg (show ¬ (14 : Int32) = 4 by decide), if_neg (show ¬ (14 : Int32) = 5 by decide), if_neg (show ¬ (14 : Int32) = 6 by decide), if_neg (show ¬ (14 : Int32) = 7 by decide), if_neg (show ¬ (14 : Int32) = 8 by decide), if_neg (show ¬ (14 : Int32) = 9 by decide), if_neg (show ¬ (14 : Int32) = 10 by decide), if_neg (show ¬ (14 : Int32) = 11 by decide), if_neg (show ¬ (14 : Int32) = 12 by decide), if_neg (show ¬ (14 : Int32) = 13 by decide)]
theorem join_of {t : Nat} {a b : Int64} (h3 : 2 < t) (h14 : t ≤ 14) (ha : bnd a) (hb : bnd b) : ok (fX0_join (kc (nI t)) a b) (fun r => tells (op2 t a b) r) := by
  have k01 : ∀ {c d : Prop} [Decidable c] [Decidable d], bnd (if c then (0 : Int64) else 1) := bnd_ite bnd0 bnd1
  rcases (show t = 3 ∨ t = 4 ∨ t = 5 ∨ t = 6 ∨ t = 7 ∨ t = 8 ∨ t = 9 ∨ t = 10 ∨ t = 11 ∨ t = 12 ∨ t = 13 ∨ t = 14 by omega) with rfl | rfl | rfl | rfl | rfl | rfl | rfl | rfl | rfl | rfl | rfl | rfl
  · exact ok_eq (cj_3 a b) (Or.inl ⟨rfl, bnd_ite bnd0 (bnd_ite bnd0 bnd1)⟩)
  · exact ok_eq (cj_4 a b) (Or.inl ⟨rfl, bnd_ite (bnd_ite bnd0 bnd1) bnd1⟩)
  · exact ok_eq (cj_5 a b) (Or.inl ⟨rfl, bnd_ite bnd0 bnd1⟩)
  · exact ok_eq (cj_6 a b) (Or.inl ⟨rfl, bnd_ite bnd0 bnd1⟩)
  · exact ok_eq (cj_7 a b) (Or.inl ⟨rfl, bnd_ite bnd1 bnd0⟩)
  · exact ok_eq (cj_8 a b) (Or.inl ⟨rfl, bnd_ite bnd0 bnd1⟩)
  · exact ok_eq (cj_9 a b) (Or.inl ⟨rfl, bnd_ite bnd0 bnd1⟩)
  · exact ok_eq (cj_10 a b) (Or.inl ⟨rfl, bnd_ite bnd0 bnd1⟩)
  · exact ok_eq (cj_11 a b) tells_b
  · exact ok_eq (cj_12 a b) tells_b
  · show ok (fX0_join 13 a b) _
    rw [cj_13]
    have ea := abs_c ha
    have eb := abs_c hb
    have ha' := ha
    unfold bnd at ha'
    refine ok_if (fun c => ?_) (fun c => ?_)
    · refine ok_some ?_
      have hm : ¬ mch a b := fun h => h.1 (by rw [c]; rfl)
      exact Or.inl ⟨if_neg hm, mul_bnd ha hb hm⟩
    · have c2 : ¬ a.toInt = 0 := fun h => c (by rw [l_eq, h, l0])
      refine ok_f (by rw [l_eq, ea, l0]; omega) ?_
      have hd := lim_div ea (by omega) (by omega)
      refine ok_if (fun c3 => ?_) (fun c3 => ?_)
      · refine ok_some ?_
        rw [l_le, eb, hd] at c3
        have hm : ¬ mch a b := fun h => by
          have := h.2
          omega
        exact Or.inl ⟨if_neg hm, mul_bnd ha hb hm⟩
      · refine ok_some ?_
        rw [l_le, eb, hd] at c3
        have hm : mch a b := ⟨c2, by omega⟩
        exact Or.inr ⟨if_pos hm, nbmin⟩
  · show ok (fX0_join 14 a b) _
    rw [cj_14]
    refine ok_if (fun c => ?_) (fun c => ?_)
    · exact ok_some (Or.inr ⟨if_pos c, nbmin⟩)
    · refine ok_f c (ok_some (Or.inl ⟨if_neg c, div_bnd ha⟩))

