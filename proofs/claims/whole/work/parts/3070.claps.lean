/-! claps -/
def fN (M M' : St) : Prop := (∀ k, k ≠ 52 → gI M' k = gI M k) ∧ M'.2.1 = M.2.1 ∧ M'.2.2.1 = M.2.2.1 ∧ ∀ r, r ≠ 50 → r ≠ 51 → gB M' r = gB M r
theorem fN.rf {M : St} : fN M M := ⟨fun _ _ => rfl, rfl, rfl, fun _ _ _ => rfl⟩
theorem fN.tr {a b c : St} (h : fN a b) (k : fN b c) : fN a c := ⟨fun j hj => (k.1 j hj).trans (h.1 j hj), k.2.1.trans h.2.1, k.2.2.1.trans h.2.2.1, fun r h1 h2 => (k.2.2.2 r h1 h2).trans (h.2.2.2 r h1 h2)⟩
theorem fN.L {M M' : St} (h : fL M M') : fN M M' := ⟨h.1, h.2.1, h.2.2.1, fun _ _ h2 => h.B h2⟩
theorem fN.A {M M' : St} (h : fN M M') (r : Nat) : gA M' r = gA M r := congrFun h.2.2.1 r
theorem fN.I {M M' : St} (h : fN M M') {r : Nat} (hr : r ≠ 52) : gI M' r = gI M r := h.1 r hr
theorem FR.N {b : Nat} {M M' : St} (h : fN M M') : FR b M M' := ⟨h.1, fun k _ => congrFun h.2.1 k, fun r i _ => by rw [h.A], h.2.2.2⟩
theorem HR.N {u M M' : St} {b na ng nr : Nat} (h : HR u M b na ng nr) (k : fN M M') : HR u M' b na ng nr := h.M (k.A 33) (fun r i _ _ _ => by rw [k.A])
def nms (a0 a1 a2 a3 a4 a5 a6 : Int64) (j : Nat) : Int64 := if j = 0 then a0 else if j = 1 then a1 else if j = 2 then a2 else if j = 3 then a3 else if j = 4 then a4 else if j = 5 then a5 else a6
theorem nms_b {x0 x1 x2 x3 x4 x5 x6 : Int32} (j : Nat) : bnd (nms x0.toInt64 x1.toInt64 x2.toInt64 x3.toInt64 x4.toInt64 x5.toInt64 x6.toInt64 j) := by
  unfold nms
  exact bnd_ite (bnd_i _) (bnd_ite (bnd_i _) (bnd_ite (bnd_i _) (bnd_ite (bnd_i _) (bnd_ite (bnd_i _) (bnd_ite (bnd_i _) (bnd_i _))))))
theorem j7 {P : Nat → Prop} (h0 : P 0) (h1 : P 1) (h2 : P 2) (h3 : P 3) (h4 : P 4) (h5 : P 5) (h6 : P 6) (j : Nat) (hj : j < 7) : P j := by
  rcases (show j = 0 ∨ j = 1 ∨ j = 2 ∨ j = 3 ∨ j = 4 ∨ j = 5 ∨ j = 6 by omega) with rfl | rfl | rfl | rfl | rfl | rfl | rfl <;> assumption
/-- a guest's names -/
def gN (M : St) (b g : Nat) (m x : Int32) : Nat → Int64 := nms m.toInt64 (gA M 28 g).toInt64 (if gI M 69 = 0 then gA M 29 g else 9).toInt64 x.toInt64 (gA M 55 b).toInt64 (gA M 61 (6 * b + g)).toInt64 (gA M 59 b).toInt64
theorem nameGuest_of {T : Nat → St} {ml nm u M : St} {na ng nr ns b g : Nat} {m x : Int32} (hT : TR T M na ng nr ns) (hH : HR u M b na ng nr) (hR : MR ml M) (hg : g < ng) : ok (fX2_nameGuest 7 ml nm T u (nI g) m x) (fun nm' => ∀ j, j < 7 → gB nm' 0 j = gN M b g m x j) := by
  obtain ⟨⟨⟨_, h6, _, _⟩, ⟨_, ha5, _, _⟩, _⟩, _, hTg, _⟩ := hT
  obtain ⟨_, e2, e3, _⟩ := hTg g hg
  obtain ⟨⟨v0, v1, _⟩, ⟨_, r1, _⟩, _⟩ := hH
  unfold fX2_nameGuest
  rw [taste_eq ha5 hg h6, hunger_eq ha5 hg h6]
  refine ok_lt (ok_f (by decide) (ok_lt (ok_bind (ok_some (ok_lt (ok_f (by decide) (ok_lt (ok_lt ?_))))))))
  refine ok_if (fun c => ok_bind (ok_some ?_)) (fun c => ?_)
  · rw [hR.2.2.2.2.1] at c
    refine ok_f (by decide) (ok_lt (ok_lt (ok_f (by decide) (ok_lt (ok_lt (ok_f (by decide) (ok_lt (ok_f (ck (by omega) (by decide)) (ok_lt (ok_f (by decide) (ok_lt (ok_lt (ok_f (by decide) (ok_lt (ok_some ?_)))))))))))))))
    unfold gN
    rw [if_pos c, ← e2, ← e3, ← v0, ← v1, ← r1 g (by omega), cl (show g < 2 ^ 31 by omega)]
    exact j7 rfl rfl rfl rfl rfl rfl rfl
  · rw [hR.2.2.2.2.1] at c
    refine ok_f (by decide) (ok_lt (ok_lt (ok_f (by decide) (ok_lt (ok_lt (ok_f (by decide) (ok_lt (ok_f (ck (by omega) (by decide)) (ok_lt (ok_f (by decide) (ok_lt (ok_lt (ok_f (by decide) (ok_lt (ok_some ?_)))))))))))))))
    unfold gN
    rw [if_neg c, ← e2, ← v0, ← v1, ← r1 g (by omega), cl (show g < 2 ^ 31 by omega)]
    exact j7 rfl rfl rfl rfl rfl rfl rfl
theorem layGuest_of {M : St} {b g : Nat} {a m x : Int32} (hb : b < 2) (hg : g < 6) (hm : fX12_moodNow M a = some m) : ok (fX12_layGuest M (nI b) (nI g) a x) (fun M' => fN M M' ∧ ∀ j, j < 7 → gB M' 50 j = gN M b g m x j) := by
  unfold fX12_layGuest
  rw [hm, i6m]
  refine ok_bind (ok_some (ok_lt (ok_lt (ok_f (ck (by omega) (by decide)) (ok_lt (ok_lt (ok_bind ?_)))))))
  rw [cl (show g < 2 ^ 31 by omega), cl (show b < 2 ^ 31 by omega), cl (show 6 * b + g < 2 ^ 31 by omega)]
  unfold fX12_hungerOf
  have fr : ∀ {a0 a1 a2 a3 a4 a5 a6 : Int64}, fN M (sB (sB (sB (sB (sB (sB (sB M 50 0 a0) 50 1 a1) 50 2 a2) 50 3 a3) 50 4 a4) 50 5 a5) 50 6 a6) := fun {_ _ _ _ _ _ _} => ⟨fun _ _ => rfl, rfl, rfl, fun r h1 _ => (vu_n _ _ h1).trans ((vu_n _ _ h1).trans ((vu_n _ _ h1).trans ((vu_n _ _ h1).trans ((vu_n _ _ h1).trans ((vu_n _ _ h1).trans (vu_n _ _ h1))))))⟩
  refine ok_if (fun c => ok_f (ck (by omega) (by decide)) (ok_some ?_)) (fun c => ok_some ?_)
  · have c' : gI M 69 = 0 := c
    refine ok_lt (ok_lt (ok_lt (ok_lt (ok_f (kx hb (by decide)) (ok_lt (ok_lt (ok_f (kx (by omega) (by decide)) (ok_lt (ok_lt (ok_f (kx hb (by decide)) (ok_lt (ok_lt (ok_some ⟨fr, ?_⟩)))))))))))))
    unfold gN
    rw [if_pos c', cl (show g < 2 ^ 31 by omega)]
    exact j7 rfl rfl rfl rfl rfl rfl rfl
  · have c' : ¬ gI M 69 = 0 := c
    refine ok_lt (ok_lt (ok_lt (ok_lt (ok_f (kx hb (by decide)) (ok_lt (ok_lt (ok_f (kx (by omega) (by decide)) (ok_lt (ok_lt (ok_f (kx hb (by decide)) (ok_lt (ok_lt (ok_some ⟨fr, ?_⟩)))))))))))))
    unfold gN
    rw [if_neg c']
    exact j7 rfl rfl rfl rfl rfl rfl rfl
theorem less_eq {a b : Int32} (ha : nn a 0 9) (hb : nn b 0 9) : (if 0 ≤ a - b then a - b else 0 - (a - b)) = fX12_less a b := by
  obtain ⟨i, _, hi, rfl⟩ := ha
  obtain ⟨j, _, hj, rfl⟩ := hb
  have : ∀ i, i < 10 → ∀ j, j < 10 → (if 0 ≤ nI i - nI j then nI i - nI j else 0 - (nI i - nI j)) = fX12_less (nI i) (nI j) := by decide
  exact this i (by omega) j (by omega)
theorem without_of {T : Nat → St} {M : St} {na ng nr ns g : Nat} {a m : Int32} (hT : TR T M na ng nr ns) (hg : g < ng) (hm : fX12_moodNow M a = some m) (h9 : nn m 0 9) : ∃ v, fX8_without T (nI g) m = some v ∧ fX12_without M (nI g) a = some v := by
  obtain ⟨⟨⟨_, h6, _, _⟩, ⟨_, ha5, _, _⟩, _⟩, _, hTg, _⟩ := hT
  obtain ⟨_, e2, e3, t9, _⟩ := hTg g hg
  refine ⟨(5 : Int32) - fX12_less (gA M 28 g) m, ?_, ?_⟩
  · unfold fX8_without
    rw [taste_eq ha5 hg h6, e2]
    exact congrArg some (congrArg (fun z => (5 : Int32) - z) (less_eq t9 h9))
  · unfold fX12_without
    rw [hm, cl (show g < 2 ^ 31 by omega)]
    exact fn (kx (by omega) (by decide)) rfl
theorem bl_un {M : St} {w : Nat} {d lo hi : Int32} (hw : w < 6) (h : gA M 36 w = 0) : fX12_boundLaw M (nI w) d lo hi = some (d, M) := by
  unfold fX12_boundLaw
  rw [cl (show w < 2 ^ 31 by omega)]
  exact fn (kx hw (by decide)) (tp h rfl)
theorem within_of {v : Int64} {lo hi : Int32} (h : lo.toInt ≤ hi.toInt) : (fX11_within v lo.toInt64 hi.toInt64).toInt32 = if lo.toInt64 ≤ v then (if v ≤ hi.toInt64 then v.toInt32 else hi) else lo := by
  have el : lo.toInt64.toInt = lo.toInt := Int32.toInt_toInt64 ..
  have eh : hi.toInt64.toInt = hi.toInt := Int32.toInt_toInt64 ..
  have cl' : lo.toInt64.toInt32 = lo := by simp
  have ch' : hi.toInt64.toInt32 = hi := by simp
  unfold fX11_within
  by_cases c1 : v < hi.toInt64
  · rw [if_pos c1]
    by_cases c2 : v < lo.toInt64
    · have c3 : ¬ lo.toInt64 ≤ v := by rw [l_le]; rw [l_lt] at c2; omega
      rw [if_pos c2, if_neg c3, cl']
    · have c3 : lo.toInt64 ≤ v := by rw [l_le]; rw [l_lt] at c2; omega
      have c4 : v ≤ hi.toInt64 := by rw [l_le]; rw [l_lt] at c1; omega
      rw [if_neg c2, if_pos c3, if_pos c4]
  · rw [if_neg c1]
    have c2 : ¬ hi.toInt64 < lo.toInt64 := by rw [l_lt]; omega
    have c3 : lo.toInt64 ≤ v := by rw [l_le]; rw [l_lt] at c1; omega
    rw [if_neg c2, if_pos c3, ch']
    by_cases c4 : v ≤ hi.toInt64
    · have e : v = hi.toInt64 := by rw [l_eq]; rw [l_le] at c4; rw [l_lt] at c1; omega
      rw [if_pos c4, e, ch']
    · rw [if_neg c4]
def blR (f M : St) (d lo hi : Int32) (r : Int64 × St) (r' : Int32 × St) : Prop := fL M r'.2 ∧ fF f r.2 ∧ ((r.1 = -9223372036854775808 ∧ r'.1 = d) ∨ (r.1 ≠ -9223372036854775808 ∧ bnd r.1 ∧ r'.1 = (fX11_within r.1 lo.toInt64 hi.toInt64).toInt32))
theorem bl_of {f M nm : St} {w : Nat} {d lo hi : Int32} (hw : w < 3) (hr : LR f M w) (ht : gA M 36 w = 1) (hV : ∀ j, j < 7 → gB nm 0 j = gB M 50 j ∧ bnd (gB M 50 j)) (hl : lo.toInt ≤ hi.toInt) : ok (fX0_value 7 f nm) (fun r => ok (fX12_boundLaw M (nI w) d lo hi) (fun r' => blR f M d lo hi r r')) := by
  refine ok_mono (law_val hw hr ht hV) (fun r hh => ?_)
  unfold fX12_boundLaw
  rw [cl (show w < 2 ^ 31 by omega)]
  refine ok_f (kx (by omega) (by decide)) (ok_f (by rw [ht]; exact i10) (ok_bind (ok_mono hh (fun r' q => ok_lt ?_))))
  obtain ⟨q1, q2, ⟨q3, q4, q5⟩ | ⟨q3, q4⟩⟩ := q
  · refine ok_t q3 (ok_lt (ok_some ⟨q1, q2, Or.inr ⟨bnd_ne q5, q5, ?_⟩⟩))
    rw [within_of hl, q4]
  · exact ok_f (by rw [q3]; exact i10) (ok_some ⟨q1, q2, Or.inl ⟨q4, rfl⟩⟩)
