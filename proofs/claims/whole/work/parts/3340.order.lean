/-! orders of a few numbers -/
def fct : Nat → Nat
  | 0 => 1
  | n + 1 => (n + 1) * fct n
def pickL (l : List Nat) : Nat → Nat → List Nat
  | 0, _ => []
  | k + 1, c => l.getD (c / fct k) 0 :: pickL (l.eraseIdx (c / fct k)) k (c % fct k)
/-- the order that is so manieth of so many -/
def ordL (m c : Nat) : List Nat := pickL (List.range m) m c
def po (m c i : Nat) : Nat := (ordL m c).getD i 0
def zst : St := (fun _ => 0, fun _ => 0, fun _ _ => 0, fun _ _ => 0)
def cst (m c : Nat) : St := (fun k => if k = 2 then nI m else 0, fun _ => 0, fun _ i => nI (po m c i), fun _ _ => 0)
def layB (m c : Nat) : Bool := match fX12_layOrder zst (nI c) (nI m) with
  | some u => (List.range m).all (fun i => decide (gA u 74 i = nI (po m c i)) && decide (po m c i < m))
  | none => false
def nextB (m c : Nat) : Bool := match fX4_turnToNext (cst m c) with
  | some u => decide (fct m ≤ c + 1) || (List.range m).all (fun i => decide (gA u 0 i = nI (po m (c + 1) i)))
  | none => false
set_option maxRecDepth 100000 in
theorem layB_d : ∀ m, m < 7 → ∀ c, c < fct m → layB m c = true := by decide +kernel
set_option maxRecDepth 100000 in
theorem nextB_d : ∀ m, m < 7 → ∀ c, c < fct m → nextB m c = true := by decide +kernel
theorem po_0 : ∀ m, m < 7 → ∀ i, i < m → po m 0 i = i := by decide +kernel
theorem fct_le : ∀ m, m < 7 → fct m ≤ 720 := by decide +kernel
theorem fct_pos : ∀ m, m < 7 → 1 ≤ fct m := by decide +kernel
theorem ordersOf_d : ∀ m, m < 7 → fX12_ordersOf (nI m) = some (nI (fct m)) := by decide +kernel
theorem lay_z {m c : Nat} (hm : m < 7) (hc : c < fct m) : ∃ u, fX12_layOrder zst (nI c) (nI m) = some u ∧ ∀ i, i < m → gA u 74 i = nI (po m c i) ∧ po m c i < m := by
  have h := layB_d m hm c hc
  unfold layB at h
  cases e : fX12_layOrder zst (nI c) (nI m) with
  | none => rw [e] at h; cases h
  | some u =>
    rw [e] at h
    refine ⟨u, rfl, fun i hi => ?_⟩
    have h2 := List.all_eq_true.mp h i (List.mem_range.mpr hi)
    rw [Bool.and_eq_true] at h2
    exact ⟨of_decide_eq_true h2.1, of_decide_eq_true h2.2⟩
theorem next_z {m c : Nat} (hm : m < 7) (hc : c < fct m) : ∃ u, fX4_turnToNext (cst m c) = some u ∧ (c + 1 < fct m → ∀ i, i < m → gA u 0 i = nI (po m (c + 1) i)) := by
  have h := nextB_d m hm c hc
  unfold nextB at h
  cases e : fX4_turnToNext (cst m c) with
  | none => rw [e] at h; cases h
  | some u =>
    rw [e] at h
    refine ⟨u, rfl, fun h1 i hi => ?_⟩
    rcases (Bool.or_eq_true _ _).mp h with q | q
    · exact absurd (of_decide_eq_true q) (by omega)
    · exact of_decide_eq_true (List.all_eq_true.mp q i (List.mem_range.mpr hi))
/-! from a bare state to any -/
def f74 (M M' : St) : Prop := M'.1 = M.1 ∧ M'.2.1 = M.2.1 ∧ ∀ r, r ≠ 74 → gA M' r = gA M r
theorem f74.tr {a b c : St} (h : f74 a b) (k : f74 b c) : f74 a c := ⟨k.1.trans h.1, k.2.1.trans h.2.1, fun r q => (k.2.2 r q).trans (h.2.2 r q)⟩
theorem f74.w {u : St} {i : Nat} {v : Int32} : f74 u (sA u 74 i v) := ⟨rfl, rfl, fun r q => gA_sAr _ _ _ q⟩
theorem f74.F {M M' : St} (h : f74 M M') : QF M M' := ⟨fun k _ _ _ => congrFun h.1 k, h.2.1, fun r i _ q _ _ => by rw [h.2.2 r q]⟩
theorem lay_2 {m : Nat} (hm : m < 7) : ∀ (d nf i : Nat) (a b c : Int32) (u v u' : St), i + d = m → fX12_layOrder_L2 (nI m) nf a b c (nI i) u = some u' → ∃ v', fX12_layOrder_L2 (nI m) nf a b c (nI i) v = some v' ∧ f74 v v' ∧ (∀ j, j < i → gA u' 74 j = gA u 74 j ∧ gA v' 74 j = gA v 74 j) ∧ ∀ j, i ≤ j → j < m → gA v' 74 j = gA u' 74 j
  | _, 0, i, a, b, c, u, v, u', _, h => by
    rw [fX12_layOrder_L2] at h
    cases h
  | 0, nf + 1, i, a, b, c, u, v, u', hi, h => by
    have q : nI m ≤ nI i := by rw [nI_leI (by omega) (by omega)]; omega
    rw [fX12_layOrder_L2, if_pos q] at h
    cases h
    refine ⟨v, ?_, ⟨rfl, rfl, fun _ _ => rfl⟩, fun j _ => ⟨rfl, rfl⟩, fun j h1 h2 => absurd h1 (by omega)⟩
    rw [fX12_layOrder_L2, if_pos q]
  | d + 1, nf + 1, i, a, b, c, u, v, u', hi, h => by
    have q : ¬ nI m ≤ nI i := by rw [nI_leI (by omega) (by omega)]; omega
    have ck6 : ¬ (nI i < 0 ∨ 6 ≤ i) := kx (by omega) (by decide)
    rw [fX12_layOrder_L2, if_neg q] at h
    rw [fX12_layOrder_L2, if_neg q]
    by_cases z : c = 0
    · rw [if_pos z] at h; cases h
    · rw [if_neg z, lt_eq, if_neg z, lt_eq] at h
      rw [if_neg z, lt_eq, if_neg z, lt_eq]
      cases e : fX12_layOrder_L3 b fuel (a / c) 0 with
      | none => rw [e] at h; cases h
      | some y =>
        rw [e] at h
        simp only [Option.bind_some, lt_eq] at h ⊢
        rw [cl (show i < 2 ^ 31 by omega), if_neg ck6, nI_1] at h
        rw [cl (show i < 2 ^ 31 by omega), if_neg ck6, nI_1]
        have step : ∀ w : Int32, fX12_layOrder_L2 (nI m) nf (a - a / c * c) (b ||| 1 <<< (y &&& 31)) w (nI (i + 1)) (sA u 74 i y) = some u' → ∃ v', fX12_layOrder_L2 (nI m) nf (a - a / c * c) (b ||| 1 <<< (y &&& 31)) w (nI (i + 1)) (sA v 74 i y) = some v' ∧ f74 v v' ∧ (∀ j, j < i → gA u' 74 j = gA u 74 j ∧ gA v' 74 j = gA v 74 j) ∧ ∀ j, i ≤ j → j < m → gA v' 74 j = gA u' 74 j := by
          intro w hw
          obtain ⟨v', e1, e2, e3, e4⟩ := lay_2 hm d nf (i + 1) _ _ w _ (sA v 74 i y) u' (by omega) hw
          refine ⟨v', e1, f74.w.tr e2, fun j hj => ?_, fun j h1 h2 => ?_⟩
          · obtain ⟨x1, x2⟩ := e3 j (by omega)
            rw [x1, x2, gA_idx _ _ _ _ (by omega), gA_idx _ _ _ _ (by omega)]; exact ⟨rfl, rfl⟩
          · by_cases q : j = i
            · subst q
              obtain ⟨x1, x2⟩ := e3 j (by omega)
              rw [x1, x2, gA_same, gA_same]
            · exact e4 j (by omega) h2
        by_cases c1 : (nI m - 1) - nI i ≤ 1
        · rw [if_pos c1] at h ⊢
          exact step _ h
        · rw [if_neg c1] at h ⊢
          by_cases c2 : (nI m - 1) - nI i = 0
          · rw [if_pos c2] at h; cases h
          · rw [if_neg c2] at h ⊢
            exact step _ h
theorem layOrder_of {M : St} {m c : Nat} (hm : m < 7) (hc : c < fct m) : ok (fX12_layOrder M (nI c) (nI m)) (fun M' => f74 M M' ∧ ∀ i, i < m → gA M' 74 i = nI (po m c i)) := by
  obtain ⟨u, e, h⟩ := lay_z hm hc
  unfold fX12_layOrder at e ⊢
  cases e1 : fX12_layOrder_L1 (nI m) fuel 1 2 with
  | none => rw [e1] at e; cases e
  | some y =>
    rw [e1] at e
    simp only [Option.bind_some] at e ⊢
    cases e2 : fX12_layOrder_L2 (nI m) fuel (nI c) 0 y 0 zst with
    | none => rw [e2] at e; cases e
    | some u2 =>
      rw [e2] at e
      cases e
      obtain ⟨v', a1, a2, a3, a4⟩ := lay_2 hm m fuel 0 _ _ _ zst M _ (by omega) e2
      refine ok_bindx a1 (ok_some ⟨a2, fun i hi => ?_⟩)
      rw [a4 i (by omega) hi]
      exact (h i hi).1
/-! the class's orders -/
def agr (m : Nat) (u v : St) : Prop := gI u 2 = nI m ∧ gI v 2 = nI m ∧ ∀ i, i < m → gA u 0 i = gA v 0 i
def f0 (M M' : St) : Prop := M'.1 = M.1 ∧ ∀ r, r ≠ 0 → gA M' r = gA M r
theorem f0.rf {a : St} : f0 a a := ⟨rfl, fun _ _ => rfl⟩
theorem f0.tr {a b c : St} (h : f0 a b) (k : f0 b c) : f0 a c := ⟨k.1.trans h.1, fun r q => (k.2 r q).trans (h.2 r q)⟩
theorem f0.w {u : St} {i : Nat} {v : Int32} : f0 u (sA u 0 i v) := ⟨rfl, fun r q => gA_sAr _ _ _ q⟩
theorem swap4 {u : St} {a b : Nat} (ha : a < 6) (hb : b < 6) : fX4_swap u (nI a) (nI b) = some (sA (sA u 0 a (gA u 0 b)) 0 b (gA u 0 a)) := by
  unfold fX4_swap
  rw [cl (show a < 2 ^ 31 by omega), cl (show b < 2 ^ 31 by omega)]
  exact fn (kx (by omega) (by decide)) (lt_c (fn (kx (by omega) (by decide)) (lt_c (fn (kx (by omega) (by decide)) (lt_c (fn (kx (by omega) (by decide)) (lt_c rfl)))))))
theorem agr.sw {m a b : Nat} {u v : St} (h : agr m u v) (ha : a < m) (hb : b < m) : agr m (sA (sA u 0 a (gA u 0 b)) 0 b (gA u 0 a)) (sA (sA v 0 a (gA v 0 b)) 0 b (gA v 0 a)) := by
  refine ⟨h.1, h.2.1, fun i hi => ?_⟩
  rw [gA_sA, gA_sA, gA_sA, gA_sA, h.2.2 a ha, h.2.2 b hb, h.2.2 i hi]
theorem tn1 {m : Nat} {u v : St} (hm : m < 7) (h : agr m u v) : ∀ (nf i : Nat), i + 1 < m → fX4_turnToNext_L1 u nf (nI i) = fX4_turnToNext_L1 v nf (nI i) ∧ ∀ y, fX4_turnToNext_L1 v nf (nI i) = some y → y = -1 ∨ ∃ j, j ≤ i ∧ y = nI j
  | 0, i, _ => ⟨rfl, fun y hy => by rw [fX4_turnToNext_L1] at hy; cases hy⟩
  | nf + 1, i, hi => by
    rw [fX4_turnToNext_L1, fX4_turnToNext_L1, nI_1, cl (show i < 2 ^ 31 by omega), cl (show i + 1 < 2 ^ 31 by omega), h.2.2 i (by omega), h.2.2 (i + 1) hi]
    have c0 : ¬ nI i < 0 := nI_pos (by omega)
    have c1 : ¬ (nI i < 0 ∨ 6 ≤ i) := kx (by omega) (by decide)
    have c2 : ¬ (nI (i + 1) < 0 ∨ 6 ≤ i + 1) := kx (by omega) (by decide)
    rw [if_neg c0, if_neg c1, if_neg c2, if_neg c0, if_neg c1, if_neg c2]
    by_cases q : gA v 0 i ≤ gA v 0 (i + 1)
    · rw [if_pos q, if_pos q]
      exact ⟨rfl, fun y hy => Or.inr ⟨i, Nat.le_refl _, (Option.some.inj hy).symm⟩⟩
    · rw [if_neg q, if_neg q, lt_eq, lt_eq]
      cases i with
      | zero =>
        rw [show nI 0 + (-1) = (-1 : Int32) from rfl]
        cases nf with
        | zero => exact ⟨rfl, fun y hy => by rw [fX4_turnToNext_L1] at hy; cases hy⟩
        | succ nf =>
          rw [fX4_turnToNext_L1, fX4_turnToNext_L1, if_pos (by decide), if_pos (by decide)]
          exact ⟨rfl, fun y hy => Or.inl (Option.some.inj hy).symm⟩
      | succ i =>
        rw [nI_m1]
        obtain ⟨a, b⟩ := tn1 hm h nf i (by omega)
        refine ⟨a, fun y hy => ?_⟩
        rcases b y hy with q | ⟨j, hj, q⟩
        · exact Or.inl q
        · exact Or.inr ⟨j, by omega, q⟩
theorem tn2 {m j : Nat} {u v : St} (hm : m < 7) (hj : j < m) (h : agr m u v) : ∀ (nf i : Nat), i < m → fX4_turnToNext_L2 u (nI j) nf (nI i) = fX4_turnToNext_L2 v (nI j) nf (nI i) ∧ ∀ y, fX4_turnToNext_L2 v (nI j) nf (nI i) = some y → ∃ k, k ≤ i ∧ y = nI k
  | 0, i, _ => ⟨rfl, fun y hy => by rw [fX4_turnToNext_L2] at hy; cases hy⟩
  | nf + 1, i, hi => by
    rw [fX4_turnToNext_L2, fX4_turnToNext_L2, cl (show i < 2 ^ 31 by omega), cl (show j < 2 ^ 31 by omega), h.2.2 i (by omega), h.2.2 j hj]
    have c1 : ¬ (nI i < 0 ∨ 6 ≤ i) := kx (by omega) (by decide)
    have c2 : ¬ (nI j < 0 ∨ 6 ≤ j) := kx (by omega) (by decide)
    by_cases q0 : nI i ≤ nI j
    · rw [if_pos q0, if_pos q0]
      exact ⟨rfl, fun y hy => ⟨i, Nat.le_refl _, (Option.some.inj hy).symm⟩⟩
    · rw [if_neg q0, if_neg q0, if_neg c1, if_neg c1, if_neg c2, if_neg c2]
      by_cases q : gA v 0 j ≤ gA v 0 i
      · rw [if_pos q, if_pos q]
        exact ⟨rfl, fun y hy => ⟨i, Nat.le_refl _, (Option.some.inj hy).symm⟩⟩
      · rw [if_neg q, if_neg q, lt_eq, lt_eq]
        rw [nI_leI (by omega) (by omega)] at q0
        obtain ⟨i, rfl⟩ : ∃ k, i = k + 1 := ⟨i - 1, by omega⟩
        rw [nI_m1]
        obtain ⟨a, b⟩ := tn2 hm hj h nf i (by omega)
        refine ⟨a, fun y hy => ?_⟩
        obtain ⟨k, hk, q⟩ := b y hy
        exact ⟨k, by omega, q⟩
theorem tn3 {m : Nat} (hm : m < 7) : ∀ (nf a b : Nat) (u v u' : St), a ≤ 6 → b < m → agr m u v → fX4_turnToNext_L3 nf (nI a) (nI b) u = some u' → ∃ v', fX4_turnToNext_L3 nf (nI a) (nI b) v = some v' ∧ agr m u' v' ∧ f0 v v'
  | 0, a, b, u, v, u', _, _, _, e => by rw [fX4_turnToNext_L3] at e; cases e
  | nf + 1, a, b, u, v, u', ha, hb, h, e => by
    rw [fX4_turnToNext_L3] at e ⊢
    by_cases q : nI b ≤ nI a
    · rw [if_pos q] at e ⊢
      cases e
      exact ⟨v, rfl, h, f0.rf⟩
    · rw [if_neg q] at e ⊢
      rw [nI_leI (by omega) (by omega)] at q
      rw [swap4 (by omega) (by omega)] at e ⊢
      simp only [Option.bind_some, lt_eq] at e ⊢
      obtain ⟨b, rfl⟩ : ∃ k, b = k + 1 := ⟨b - 1, by omega⟩
      rw [nI_1, nI_m1] at e ⊢
      obtain ⟨v', e1, e2, e3⟩ := tn3 hm nf (a + 1) b _ (sA (sA v 0 a (gA v 0 (b + 1))) 0 (b + 1) (gA v 0 a)) u' (by omega) (by omega) (h.sw (by omega) (by omega)) e
      exact ⟨v', e1, e2, (f0.w.tr f0.w).tr e3⟩
theorem turn_z {m : Nat} {u v u' : St} (hm : m < 7) (h : agr m u v) (e : fX4_turnToNext u = some u') : ∃ v', fX4_turnToNext v = some v' ∧ agr m u' v' ∧ f0 v v' := by
  unfold fX4_turnToNext at e ⊢
  rw [h.1] at e
  rw [h.2.1]
  simp only [lt_eq] at e ⊢
  by_cases q : m < 2
  · have n0 : nI m - 2 < 0 ∧ ¬ (0 : Int32) ≤ nI m - 2 := by
      rcases (show m = 0 ∨ m = 1 by omega) with rfl | rfl <;> decide
    have l : ∀ w : St, fX4_turnToNext_L1 w fuel (nI m - 2) = some (nI m - 2) := fun w => by
      show fX4_turnToNext_L1 w (999 + 1) (nI m - 2) = _
      rw [fX4_turnToNext_L1, if_pos n0.1]
    rw [l] at e ⊢
    simp only [Option.bind_some] at e ⊢
    rw [if_neg n0.2] at e ⊢
    cases e
    exact ⟨v, rfl, h, f0.rf⟩
  · obtain ⟨k, rfl⟩ : ∃ k, m = k + 2 := ⟨m - 2, by omega⟩
    have e2 : nI (k + 2) - 2 = nI k := by
      have := nI_sub (k := 2) (s := k + 2) (by omega)
      rw [show k + 2 - 2 = k by omega] at this
      exact this
    have e1 : nI (k + 2) - 1 = nI (k + 1) := nI_sub1
    rw [e2] at e ⊢
    rw [e1] at e ⊢
    obtain ⟨a, b⟩ := tn1 hm h fuel k (by omega)
    rw [a] at e
    cases ey : fX4_turnToNext_L1 v fuel (nI k) with
    | none => rw [ey] at e; cases e
    | some y =>
      rw [ey] at e
      simp only [Option.bind_some] at e ⊢
      rcases b y ey with rfl | ⟨j, hj, rfl⟩
      · rw [if_neg (by decide)] at e ⊢
        cases e
        exact ⟨v, rfl, h, f0.rf⟩
      · rw [if_pos (nI_pos' (by omega))] at e ⊢
        obtain ⟨a2, b2⟩ := tn2 (j := j) hm (by omega) h fuel (k + 1) (by omega)
        rw [a2] at e
        cases ez : fX4_turnToNext_L2 v (nI j) fuel (nI (k + 1)) with
        | none => rw [ez] at e; cases e
        | some z =>
          rw [ez] at e
          simp only [Option.bind_some] at e ⊢
          obtain ⟨i, hi, rfl⟩ := b2 z ez
          rw [swap4 (by omega) (by omega)] at e ⊢
          simp only [Option.bind_some] at e ⊢
          have g2 : ∀ (w : St) (x y : Int32), gI w 2 = nI (k + 2) → gI (sA (sA w 0 j x) 0 i y) 2 - 1 = nI (k + 1) := fun w x y hw => by
            show gI w 2 - 1 = _
            rw [hw, e1]
          rw [g2 _ _ _ h.1, nI_1] at e
          rw [g2 _ _ _ h.2.1, nI_1]
          cases ew : fX4_turnToNext_L3 fuel (nI (j + 1)) (nI (k + 1)) (sA (sA u 0 j (gA u 0 i)) 0 i (gA u 0 j)) with
          | none => rw [ew] at e; cases e
          | some w =>
            rw [ew] at e
            cases e
            obtain ⟨v', c1, c2, c3⟩ := tn3 hm fuel (j + 1) (k + 1) _ (sA (sA v 0 j (gA v 0 i)) 0 i (gA v 0 j)) u' (by omega) (by omega) (h.sw (by omega) (by omega)) ew
            refine ⟨v', ?_, c2, (f0.w.tr f0.w).tr c3⟩
            rw [c1]; rfl
/-- the state of orders: the c-th is laid -/
def OD (m c : Nat) (od : St) : Prop := gI od 2 = nI m ∧ gI od 3 = nI (fct m) ∧ ∀ i, i < m → gA od 0 i = nI (po m c i)
theorem onext_of {m c : Nat} {od : St} (hm : m < 7) (hc : c < fct m) (h : OD m c od) : ok (fX4_turnToNext od) (fun od' => f0 od od' ∧ gI od' 2 = nI m ∧ gI od' 3 = nI (fct m) ∧ (c + 1 < fct m → OD m (c + 1) od')) := by
  obtain ⟨u, e, hu⟩ := next_z hm hc
  obtain ⟨v', e1, e2, e3⟩ := turn_z (v := od) hm (⟨rfl, h.1, fun i hi => (h.2.2 i hi).symm⟩ : agr m (cst m c) od) e
  have i2 : gI v' 2 = nI m := e2.2.1
  have i3 : gI v' 3 = nI (fct m) := (congrFun e3.1 3).trans h.2.1
  exact ok_eq e1 ⟨e3, i2, i3, fun q => ⟨i2, i3, fun i hi => by rw [← e2.2.2 i hi]; exact hu q i hi⟩⟩
