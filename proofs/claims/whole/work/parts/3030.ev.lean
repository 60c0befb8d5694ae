/-! the reference's knots -/
def fI52 (M M' : St) : Prop := M'.2 = M.2 ∧ ∀ k, k ≠ 52 → gI M' k = gI M k
theorem fI52.rf {M : St} : fI52 M M := ⟨rfl, fun _ _ => rfl⟩
theorem fI52.st {M : St} {v : Int32} : fI52 M (sI M 52 v) := ⟨rfl, fun _ h => gI_sIn M v h⟩
theorem bounded_t (M : St) (x : Int64) : fX12_bounded M x = ((if (if gI M 52 = 0 then (if (1000000000000 : Int64) < x then (1 : Int32) else if (-1000000000000 : Int64) ≤ x then 0 else 1) else 1) = 0 then x else 0), sI M 52 (if gI M 52 = 0 then (if (1000000000000 : Int64) < x then (1 : Int32) else if (-1000000000000 : Int64) ≤ x then 0 else 1) else 1)) := rfl
/-- what the reference does of two values: with an error it stays one; without, as op2 says -/
def does (o : Option Int64) (M : St) (r : Int64 × St) : Prop := fI52 M r.2 ∧ (gI M 52 = 0 → (∀ v, o = some v → r.1 = v ∧ gI r.2 52 = 0) ∧ (o = none → gI r.2 52 = 1)) ∧ (gI M 52 = 1 → gI r.2 52 = 1)
theorem does_bd {M : St} {x : Int64} (h01 : gI M 52 = 0 ∨ gI M 52 = 1) : does (if (1000000000000 : Int64) < x then none else if (-1000000000000 : Int64) ≤ x then some x else none) M (fX12_bounded M x) := by
  rw [bounded_t]
  rcases h01 with h0 | h1
  · simp only [if_pos h0]
    by_cases c1 : (1000000000000 : Int64) < x
    · simp only [if_pos c1]
      exact ⟨fI52.st, fun _ => ⟨fun v h => (by cases h), fun _ => rfl⟩, fun _ => rfl⟩
    · simp only [if_neg c1]
      by_cases c2 : (-1000000000000 : Int64) ≤ x
      · simp only [if_pos c2]
        exact ⟨fI52.st, fun _ => ⟨fun v h => ⟨Option.some.inj h, rfl⟩, fun h => (by cases h)⟩, fun h => absurd (h0.symm.trans h) (by decide)⟩
      · simp only [if_neg c2]
        exact ⟨fI52.st, fun _ => ⟨fun v h => (by cases h), fun _ => rfl⟩, fun _ => rfl⟩
  · simp only [if_neg (show ¬ gI M 52 = 0 by rw [h1]; exact i10)]
    exact ⟨fI52.st, fun h => absurd (h.symm.trans h1) (by decide), fun _ => rfl⟩
theorem does_some {M : St} {v : Int64} : does (some v) M (v, M) := ⟨fI52.rf, fun h0 => ⟨fun w h => ⟨Option.some.inj h, h0⟩, fun h => (by cases h)⟩, fun h => h⟩
def tme (M : St) (a b : Int64) (x1 : Int32) : Option (Int64 × St) := lt (if gI M 52 = 0 then (if x1 = 0 then (0 : Int32) else 1) else 1) fun x3 => lt (sI M 52 x3) fun u4 => lt (if gI u4 52 = 0 then a * b else (0 : Int64)) fun x5 => some (x5, u4)
theorem tme_0 {M : St} {a b : Int64} (h : gI M 52 = 0) : tme M a b 0 = some (a * b, sI M 52 0) := by
  unfold tme
  rw [if_pos h]; rfl
theorem tme_1 {M : St} {a b : Int64} : tme M a b 1 = some (0, sI M 52 1) := by
  unfold tme
  rw [show (if gI M 52 = 0 then (if (1 : Int32) = 0 then (0 : Int32) else 1) else 1) = 1 from ite_id _]; rfl
theorem tme_e {M : St} {a b : Int64} {x : Int32} (h : gI M 52 = 1) : tme M a b x = some (0, sI M 52 1) := by
  unfold tme
  rw [if_neg (show ¬ gI M 52 = 0 by rw [h]; exact i10)]; rfl
theorem times_t (M : St) (a b : Int64) : fX12_times M a b = if a = (0 : Int64) then tme M a b 0 else if b = (0 : Int64) then tme M a b 0 else if (if (0 : Int64) ≤ a then a else -a) = 0 then none else if (if (0 : Int64) ≤ b then b else -b) ≤ (1000000000000 : Int64) / (if (0 : Int64) ≤ a then a else -a) then tme M a b 0 else tme M a b 1 := rfl
theorem times_of {M : St} {a b : Int64} (ha : gI M 52 = 0 → bnd a) (hb : gI M 52 = 0 → bnd b) (h01 : gI M 52 = 0 ∨ gI M 52 = 1) : ok (fX12_times M a b) (fun r => does (if ¬ a.toInt = 0 ∧ 1000000000000 / a.toInt.natAbs < b.toInt.natAbs then none else some (a * b)) M r) := by
  rw [times_t]
  rcases h01 with h0 | h1
  · replace ha := ha h0
    replace hb := hb h0
    have ea := abs_r ha
    have eb := abs_r hb
    have ha' := ha
    unfold bnd at ha'
    have e0 : ¬ mch a b → ok (tme M a b 0) (fun r => does (if ¬ a.toInt = 0 ∧ 1000000000000 / a.toInt.natAbs < b.toInt.natAbs then none else some (a * b)) M r) := by
      intro hm
      rw [if_neg (show ¬ (¬ a.toInt = 0 ∧ 1000000000000 / a.toInt.natAbs < b.toInt.natAbs) from hm)]
      exact ok_eq (tme_0 h0) ⟨fI52.st, fun _ => ⟨fun v hv => ⟨Option.some.inj hv, rfl⟩, fun h => (by cases h)⟩, fun h => absurd (h0.symm.trans h) (by decide)⟩
    refine ok_if (fun c => ?_) (fun c => ?_)
    · exact e0 (fun h => h.1 (by rw [c]; rfl))
    · have c0 : ¬ a.toInt = 0 := fun h => c (by rw [l_eq, h, l0])
      refine ok_if (fun c2 => ?_) (fun c2 => ?_)
      · exact e0 (fun h => by have h2 := h.2; rw [c2, l0, Int.natAbs_zero] at h2; exact absurd h2 (Nat.not_lt_zero _))
      · refine ok_f (by rw [l_eq, ea, l0]; omega) ?_
        have hd := lim_div ea (by omega) (by omega)
        refine ok_if (fun c3 => ?_) (fun c3 => ?_)
        · rw [l_le, eb, hd] at c3
          exact e0 (fun h => by have := h.2; omega)
        · rw [l_le, eb, hd] at c3
          have hm : mch a b := ⟨c0, by omega⟩
          rw [if_pos (show (¬ a.toInt = 0 ∧ 1000000000000 / a.toInt.natAbs < b.toInt.natAbs) from hm)]
          exact ok_eq tme_1 ⟨fI52.st, fun _ => ⟨fun v hv => (by cases hv), fun _ => rfl⟩, fun _ => rfl⟩
  · have e1 : ∀ x, ok (tme M a b x) (fun r => does (if ¬ a.toInt = 0 ∧ 1000000000000 / a.toInt.natAbs < b.toInt.natAbs then none else some (a * b)) M r) := fun x => ok_eq (tme_e h1) ⟨fI52.st, fun h => absurd (h.symm.trans h1) (by decide), fun _ => rfl⟩
    refine ok_if (fun c => e1 0) (fun c => ok_if (fun c2 => e1 0) (fun c2 => ok_f ?_ (ok_if (fun _ => e1 0) (fun _ => e1 1))))
    by_cases c3 : (0 : Int64) ≤ a
    · rw [if_pos c3]; exact c
    · rw [if_neg c3]
      intro q
      exact c (by have := congrArg (fun z : Int64 => -z) q; simpa using this)
theorem cmp_b {c : Prop} [Decidable c] : (if bz (if c then (0 : Int32) else 1) = 0 then (0 : Int64) else 1) = if c then (0 : Int64) else 1 := by
  by_cases h : c
  · rw [if_pos h, if_pos h, if_pos bz0]
  · rw [if_neg h, if_neg h, if_neg (by rw [bz1]; exact i10)]
theorem cmp_b2 {c : Prop} [Decidable c] : (if bz (if c then (1 : Int32) else 0) = 0 then (0 : Int64) else 1) = if c then (1 : Int64) else 0 := by
  by_cases h : c
  · rw [if_pos h, if_pos h, if_neg (by rw [bz1]; exact i10)]
  · rw [if_neg h, if_neg h, if_pos bz0]
/-- a row's own check -/
theorem xf {α : Type} {i N : Nat} {a b : α} (h : i < N) (hN : N < 2 ^ 31) : (if nI i < 0 ∨ N ≤ i then a else b) = b := by
  have := ck h hN
  rw [cl (by omega)] at this
  exact if_neg this
/-- a knot's value -/
theorem valueOf_leaf {M : St} {k : Nat} (hk : k < 64) (ht : gA M 39 k = 0) : fX12_valueOf M (nI k) = some ((gA M 40 k).toInt64, M) := by
  unfold fX12_valueOf
  simp only [cl (show k < 2 ^ 31 by omega), xf (show k < 128 by omega) (show 128 < 2 ^ 31 by decide), ht, if_true]
theorem valueOf_name {M : St} {k j : Nat} (hk : k < 64) (ht : gA M 39 k = 1) (hj : j < 7) (hp : gA M 40 k = nI j) : fX12_valueOf M (nI k) = some (gB M 50 j, M) := by
  unfold fX12_valueOf
  simp only [cl (show k < 2 ^ 31 by omega), xf (show k < 128 by omega) (show 128 < 2 ^ 31 by decide), ht, if_neg i10, if_true, hp, cl (show j < 2 ^ 31 by omega), xf hj (show 7 < 2 ^ 31 by decide)]
theorem valueOf_not {M : St} {k x : Nat} (hk : k < 64) (ht : gA M 39 k = 2) (hx : x < 64) (hp : gA M 40 k = nI x) : fX12_valueOf M (nI k) = some ((if gB M 51 x = (0 : Int64) then (1 : Int64) else 0), M) := by
  unfold fX12_valueOf
  simp only [cl (show k < 2 ^ 31 by omega), xf (show k < 128 by omega) (show 128 < 2 ^ 31 by decide), ht, if_neg (show ¬ (2 : Int32) = 0 by decide), if_neg (show ¬ (2 : Int32) = 1 by decide), if_true, hp, cl (show x < 2 ^ 31 by omega), xf hx (show 64 < 2 ^ 31 by decide), lt_eq]
theorem valueOf_bin {M : St} {k x y t : Nat} (hk : k < 64) (ht : gA M 39 k = nI t) (h3 : 2 < t) (h14 : t ≤ 14) (hx : x < 64) (hp : gA M 40 k = nI x) (hy : y < 64) (ho : gA M 41 k = nI y) (he : gI M 52 = 0 → bnd (gB M 51 x) ∧ bnd (gB M 51 y)) (h01 : gI M 52 = 0 ∨ gI M 52 = 1) : ok (fX12_valueOf M (nI k)) (fun r => does (op2 t (gB M 51 x) (gB M 51 y)) M r) := by
  have e : ∀ j : Nat, j ≤ 14 → (nI t = nI j ↔ t = j) := fun j hj => nI_eq (by omega) (by omega)
  unfold fX12_valueOf
  simp only [cl (show k < 2 ^ 31 by omega), xf (show k < 128 by omega) (show 128 < 2 ^ 31 by decide), ht, if_neg (show ¬ nI t = (0 : Int32) from fun q => by have := (e 0 (by omega)).mp q; omega), if_neg (show ¬ nI t = (1 : Int32) from fun q => by have := (e 1 (by omega)).mp q; omega), if_neg (show ¬ nI t = (2 : Int32) from fun q => by have := (e 2 (by omega)).mp q; omega), hp, ho, cl (show x < 2 ^ 31 by omega), cl (show y < 2 ^ 31 by omega), xf hx (show 64 < 2 ^ 31 by decide), xf hy (show 64 < 2 ^ 31 by decide), lt_eq]
  clear e ht
  generalize gB M 51 x = a at he ⊢
  generalize gB M 51 y = b at he ⊢
  rcases (show t = 3 ∨ t = 4 ∨ t = 5 ∨ t = 6 ∨ t = 7 ∨ t = 8 ∨ t = 9 ∨ t = 10 ∨ t = 11 ∨ t = 12 ∨ t = 13 ∨ t = 14 by omega) with rfl | rfl | rfl | rfl | rfl | rfl | rfl | rfl | rfl | rfl | rfl | rfl
  · exact ok_t rfl (ok_some does_some)
  · exact ok_f (by decide) (ok_t rfl (ok_some does_some))
  · refine ok_f (by decide) (ok_f (by decide) (ok_f (by decide) (ok_f (by decide) (ok_f (by decide) (ok_f (by decide) ?_)))))
    rw [show fX12_compares (nI 5) a b = bz (if b ≤ a then (0 : Int32) else 1) from rfl, cmp_b]
    exact ok_some does_some
  · refine ok_f (by decide) (ok_f (by decide) (ok_f (by decide) (ok_f (by decide) (ok_f (by decide) (ok_f (by decide) ?_)))))
    rw [show fX12_compares (nI 6) a b = bz (if b < a then (0 : Int32) else 1) from rfl, cmp_b]
    exact ok_some does_some
  · refine ok_f (by decide) (ok_f (by decide) (ok_f (by decide) (ok_f (by decide) (ok_f (by decide) (ok_f (by decide) ?_)))))
    rw [show fX12_compares (nI 7) a b = bz (if a = b then (1 : Int32) else 0) from rfl, cmp_b2]
    exact ok_some does_some
  · refine ok_f (by decide) (ok_f (by decide) (ok_f (by decide) (ok_f (by decide) (ok_f (by decide) (ok_f (by decide) ?_)))))
    rw [show fX12_compares (nI 8) a b = bz (if a = b then (0 : Int32) else 1) from rfl, cmp_b]
    exact ok_some does_some
  · refine ok_f (by decide) (ok_f (by decide) (ok_f (by decide) (ok_f (by decide) (ok_f (by decide) (ok_f (by decide) ?_)))))
    rw [show fX12_compares (nI 9) a b = bz (if a < b then (0 : Int32) else 1) from rfl, cmp_b]
    exact ok_some does_some
  · refine ok_f (by decide) (ok_f (by decide) (ok_f (by decide) (ok_f (by decide) (ok_f (by decide) (ok_f (by decide) ?_)))))
    rw [show fX12_compares (nI 10) a b = bz (if a ≤ b then (0 : Int32) else 1) from rfl, cmp_b]
    exact ok_some does_some
  · exact ok_f (by decide) (ok_f (by decide) (ok_t rfl (ok_some (does_bd h01))))
  · exact ok_f (by decide) (ok_f (by decide) (ok_f (by decide) (ok_t rfl (ok_some (does_bd h01)))))
  · refine ok_f (by decide) (ok_f (by decide) (ok_f (by decide) (ok_f (by decide) (ok_t rfl ?_))))
    exact ok_bind (ok_mono (times_of (fun h => (he h).1) (fun h => (he h).2) h01) (fun r hr => ok_some hr))
  · refine ok_f (by decide) (ok_f (by decide) (ok_f (by decide) (ok_f (by decide) (ok_f (by decide) (ok_t rfl ?_)))))
    rcases h01 with h0 | h1
    · simp only [if_pos h0]
      by_cases c : b = (0 : Int64)
      · simp only [if_pos c]
        refine ok_f (show ¬ (1 : Int32) = 0 from i10) (ok_some ⟨fI52.st, fun _ => ⟨fun v hv => ?_, fun _ => rfl⟩, fun _ => rfl⟩)
        rw [show op2 14 a b = none from if_pos c] at hv
        cases hv
      · simp only [if_neg c]
        refine ok_t (show (0 : Int32) = 0 from rfl) (ok_some ⟨fI52.st, fun _ => ⟨fun v hv => ?_, fun hv => ?_⟩, fun h => absurd (h0.symm.trans h) (by decide)⟩)
        · rw [show op2 14 a b = some (a / b) from if_neg c] at hv
          exact ⟨Option.some.inj hv, rfl⟩
        · rw [show op2 14 a b = some (a / b) from if_neg c] at hv
          cases hv
    · simp only [if_neg (show ¬ gI M 52 = 0 by rw [h1]; exact i10)]
      exact ok_f (show ¬ (1 : Int32) = 0 from i10) (ok_some ⟨fI52.st, fun h => absurd (h.symm.trans h1) (by decide), fun _ => rfl⟩)
