/-! a law's value, on both sides -/
theorem xfm {α : Type} {i N : Nat} {a b : α} (h : i < N) (hN : N < 2 ^ 31) : (if nI (i + 1) - 1 < 0 ∨ N ≤ (nI (i + 1) - 1).toNatClampNeg then a else b) = b := by
  rw [nI_sub1]; exact if_neg (ck h hN)
theorem lt_c {α β : Type} {v : α} {f : α → β} {r : β} (h : f v = r) : lt v f = r := h
theorem cs_push {nm u : St} {nf L i n : Nat} (hn : gI u 3 = nI n) (hi : i < n) (hn64 : n ≤ 64) (hL : L < 64) (hk : gA u 0 i = 0) : fX0_value_L1 nm 7 (nf + 1) (nI L) (nI i) u = fX0_value_L1 nm 7 nf (nI (L + 1)) (nI (i + 1)) (sB u 2 L (gA u 1 i).toInt64) := by
  rw [fX0_value_L1]
  have A : ¬ gI u 3 ≤ nI i := by rw [hn, nI_leI (by omega) (by omega)]; omega
  have B := ck (i := i) (N := 64) (by omega) (by decide)
  have C := ck (i := L) (N := 64) (by omega) (by decide)
  have ei := cl (show i < 2 ^ 31 by omega)
  have eL := cl (show L < 2 ^ 31 by omega)
  have hk' : gA u 0 (nI i).toNatClampNeg = 0 := by rw [ei]; exact hk
  refine (if_neg A).trans ((if_neg B).trans (lt_c (lt_c (lt_c (lt_c ((if_pos hk').trans (lt_c ((if_pos hk').trans ((if_neg B).trans ((if_neg C).trans ?_))))))))))
  rw [lt_eq, lt_eq, ei, eL, nI_1]
  exact lt_c (by rw [nI_1])
theorem cs_name {nm u : St} {nf L i n j : Nat} (hn : gI u 3 = nI n) (hi : i < n) (hn64 : n ≤ 64) (hL : L < 64) (hk : gA u 0 i = 1) (hj : j < 7) (hp : gA u 1 i = nI j) : fX0_value_L1 nm 7 (nf + 1) (nI L) (nI i) u = fX0_value_L1 nm 7 nf (nI (L + 1)) (nI (i + 1)) (sB u 2 L (gB nm 0 j)) := by
  rw [fX0_value_L1]
  have A : ¬ gI u 3 ≤ nI i := by rw [hn, nI_leI (by omega) (by omega)]; omega
  have B := ck (i := i) (N := 64) (by omega) (by decide)
  have C := ck (i := L) (N := 64) (by omega) (by decide)
  have ei := cl (show i < 2 ^ 31 by omega)
  have eL := cl (show L < 2 ^ 31 by omega)
  have h1 : gA u 0 (nI i).toNatClampNeg = 1 := by rw [ei]; exact hk
  have h0 : ¬ gA u 0 (nI i).toNatClampNeg = 0 := by rw [h1]; exact i10
  have hp' : gA u 1 (nI i).toNatClampNeg = nI j := by rw [ei]; exact hp
  have D : ¬ (gA u 1 (nI i).toNatClampNeg < 0 ∨ 7 ≤ (gA u 1 (nI i).toNatClampNeg).toNatClampNeg) := by rw [hp']; exact ck hj (by decide)
  refine (if_neg A).trans ((if_neg B).trans (lt_c (lt_c (lt_c ((if_neg h0).trans ((if_pos h1).trans (lt_c ((if_neg h0).trans ((if_neg B).trans ((if_neg D).trans ((if_neg C).trans ?_)))))))))))
  rw [lt_eq, lt_eq, hp', eL, cl (show j < 2 ^ 31 by omega), nI_1]
  exact lt_c (by rw [nI_1])
theorem cs_not {nm u : St} {nf L i n : Nat} (hn : gI u 3 = nI n) (hi : i < n) (hn64 : n ≤ 64) (hL : L < 64) (hk : gA u 0 i = 2) : fX0_value_L1 nm 7 (nf + 1) (nI (L + 1)) (nI i) u = fX0_value_L1 nm 7 nf (nI (L + 1)) (nI (i + 1)) (sB u 2 L (if gB u 2 L = (0 : Int64) then (1 : Int64) else 0)) := by
  rw [fX0_value_L1]
  have A : ¬ gI u 3 ≤ nI i := by rw [hn, nI_leI (by omega) (by omega)]; omega
  have B := ck (i := i) (N := 64) (by omega) (by decide)
  have C : ¬ (nI (L + 1) - 1 < 0 ∨ 64 ≤ (nI (L + 1) - 1).toNatClampNeg) := by rw [nI_sub1]; exact ck hL (by decide)
  have E : ¬ nI (L + 1) < (1 : Int32) := fun q => absurd ((nI_ltI (a := L + 1) (b := 1) (by omega) (by omega)).mp q) (by omega)
  have ei := cl (show i < 2 ^ 31 by omega)
  have h2 : gA u 0 (nI i).toNatClampNeg = 2 := by rw [ei]; exact hk
  have h0 : ¬ gA u 0 (nI i).toNatClampNeg = 0 := by rw [h2]; decide
  have h1 : ¬ gA u 0 (nI i).toNatClampNeg = 1 := by rw [h2]; decide
  refine (if_neg A).trans ((if_neg B).trans (lt_c (lt_c (lt_c ((if_neg h0).trans ((if_neg h1).trans (lt_c ((if_pos h2).trans ((if_neg E).trans ((if_neg C).trans (lt_c ((if_neg C).trans ?_))))))))))))
  rw [lt_eq, nI_sub1, cl (show L < 2 ^ 31 by omega)]
  exact lt_c (by rw [nI_1])
theorem cs_bin {nm u : St} {nf L i n : Nat} {c : Int32} (hn : gI u 3 = nI n) (hi : i < n) (hn64 : n ≤ 64) (hL : L + 1 < 64) (hk : gA u 0 i = c) (c0 : ¬ c = 0) (c1 : ¬ c = 1) (c2 : ¬ c = 2) : fX0_value_L1 nm 7 (nf + 1) (nI (L + 2)) (nI i) u = (fX0_join c (gB u 2 L) (gB u 2 (L + 1))).bind fun r => if (1000000000000 : Int64) < r then some (.inr ((-9223372036854775808 : Int64), sB u 2 L r)) else if (-1000000000000 : Int64) ≤ r then fX0_value_L1 nm 7 nf (nI (L + 1)) (nI (i + 1)) (sB u 2 L r) else some (.inr ((-9223372036854775808 : Int64), sB u 2 L r)) := by
  rw [fX0_value_L1]
  have e : ∀ r, gB (sB u 2 L r) 2 L = r := fun r => by rw [gB_sB, if_pos ⟨rfl, rfl⟩]
  simp only [hn, nI_leI (show n < 2 ^ 31 by omega) (show i < 2 ^ 31 by omega), if_neg (show ¬ n ≤ i by omega), cl (show i < 2 ^ 31 by omega), cl (show L < 2 ^ 31 by omega), cl (show L + 1 < 2 ^ 31 by omega), xf (show i < 64 by omega) (show 64 < 2 ^ 31 by decide), xf (show L < 64 by omega) (show 64 < 2 ^ 31 by decide), xf (show L + 1 < 64 by omega) (show 64 < 2 ^ 31 by decide), hk, if_neg c0, if_neg c1, if_neg c2, show nI (L + 2) + -1 = nI (L + 1) from nI_m1, nI_sub1, lt_eq, nI_1, if_neg (show ¬ nI (L + 2) < (2 : Int32) from fun q => absurd ((nI_ltI (a := L + 2) (b := 2) (by omega) (by omega)).mp q) (by omega)), e]
/-- what of the reference's state a law's value leaves as it is -/
def fL (M M' : St) : Prop := (∀ k, k ≠ 52 → gI M' k = gI M k) ∧ M'.2.1 = M.2.1 ∧ M'.2.2.1 = M.2.2.1 ∧ ∀ r, r ≠ 51 → M'.2.2.2 r = M.2.2.2 r
theorem fL.rf {M : St} : fL M M := ⟨fun _ _ => rfl, rfl, rfl, fun _ _ => rfl⟩
theorem fL.tr {a b c : St} (h : fL a b) (k : fL b c) : fL a c := ⟨fun j hj => (k.1 j hj).trans (h.1 j hj), k.2.1.trans h.2.1, k.2.2.1.trans h.2.2.1, fun r hr => (k.2.2.2 r hr).trans (h.2.2.2 r hr)⟩
theorem fL.o {M M' : St} (h : fI52 M M') : fL M M' := by
  obtain ⟨h1, h2⟩ := h
  exact ⟨h2, by rw [h1], by rw [h1], fun r _ => by rw [h1]⟩
theorem fL.w {M M' : St} {k : Nat} {v : Int64} (h : fL M M') : fL M (sB M' 51 k v) := ⟨h.1, h.2.1, h.2.2.1, fun r hr => (vu_n _ _ hr).trans (h.2.2.2 r hr)⟩
theorem fL.A {M M' : St} (h : fL M M') (r : Nat) : gA M' r = gA M r := congrFun h.2.2.1 r
theorem fL.J {M M' : St} (h : fL M M') (r : Nat) : gJ M' r = gJ M r := congrFun h.2.1 r
theorem fL.B {M M' : St} (h : fL M M') {r : Nat} (hr : r ≠ 51) : gB M' r = gB M r := h.2.2.2 r hr
theorem fL.I {M M' : St} (h : fL M M') {r : Nat} (hr : r ≠ 52) : gI M' r = gI M r := h.1 r hr
/-- what of a formula's state its value leaves as it is -/
def fF (f f' : St) : Prop := f'.1 = f.1 ∧ f'.2.1 = f.2.1 ∧ f'.2.2.1 = f.2.2.1
theorem fF.rf {M : St} : fF M M := ⟨rfl, rfl, rfl⟩
theorem fF.tr {a b c : St} (h : fF a b) (k : fF b c) : fF a c := ⟨k.1.trans h.1, k.2.1.trans h.2.1, k.2.2.trans h.2.2⟩
theorem fF.w {M : St} {r k : Nat} {v : Int64} : fF M (sB M r k v) := ⟨rfl, rfl, rfl⟩
theorem fF.A {M M' : St} (h : fF M M') (r : Nat) : gA M' r = gA M r := congrFun h.2.2 r
theorem fF.I {M M' : St} (h : fF M M') (r : Nat) : gI M' r = gI M r := congrFun h.1 r
/-- the values that wait -/
def SR : List Nat → (Nat → Int64) → (Nat → Int64) → Prop
  | [], _, _ => True
  | a :: r, s, v => s r.length = v a ∧ bnd (v a) ∧ SR r s v
theorem SR.up : ∀ (l : List Nat) {s v s' v' : Nat → Int64}, SR l s v → (∀ j, j < l.length → s' j = s j) → (∀ a, a ∈ l → v' a = v a) → SR l s' v'
  | [], _, _, _, _, _, _, _ => trivial
  | a :: r, s, v, s', v', h, hs, hv => by
    refine ⟨?_, ?_, SR.up r h.2.2 (fun j hj => hs j (Nat.lt_succ_of_lt hj)) (fun b hb => hv b (List.mem_cons_of_mem _ hb))⟩
    · rw [hs _ (Nat.lt_succ_self _), hv a (List.mem_cons_self ..)]; exact h.1
    · rw [hv a (List.mem_cons_self ..)]; exact h.2.1
theorem hst_lt (k : Nat → Int32) : ∀ i a, a ∈ hst k i → a < i
  | 0, a, h => by cases h
  | i + 1, a, h => by
    rw [hst] at h
    split at h
    · rcases List.mem_cons.mp h with q | q
      · omega
      · have := hst_lt k i a q; omega
    · split at h
      · rcases List.mem_cons.mp h with q | q
        · omega
        · have := hst_lt k i a (List.mem_of_mem_drop q); omega
      · rcases List.mem_cons.mp h with q | q
        · omega
        · have := hst_lt k i a (List.mem_of_mem_drop q); omega
theorem hst_le (k : Nat → Int32) : ∀ i, (hst k i).length ≤ i
  | 0 => Nat.le_refl _
  | i + 1 => by
    have := hst_le k i
    rw [hst]
    split
    · rw [List.length_cons]; omega
    · split
      · rw [List.length_cons, List.length_drop]; omega
      · rw [List.length_cons, List.length_drop]; omega

theorem kx {i N : Nat} (h : i < N) (hN : N < 2 ^ 31) : ¬ (nI i < 0 ∨ N ≤ i) := by
  have := ck h hN
  rw [cl (by omega)] at this
  exact this
theorem law_st {w fr n nf i : Nat} {M : St} {Q : St → Prop} (hw : w < 6) (hn : fr + n ≤ 64) (hi : i < n) (ht : gA M 38 w = nI (fr + n)) (h : ok (fX12_valueOf M (nI (fr + i))) (fun r => ok (fX12_lawOf_L1 (nI w) nf (nI (fr + (i + 1))) (sB r.2 51 (fr + i) r.1)) Q)) : ok (fX12_lawOf_L1 (nI w) (nf + 1) (nI (fr + i)) M) Q := by
  rw [fX12_lawOf_L1, cl (show w < 2 ^ 31 by omega), ht]
  refine ok_f (kx hw (by decide)) (ok_f (by rw [nI_leI (by omega) (by omega)]; omega) (ok_bind ?_))
  refine ok_mono h (fun r hr => ok_lt (ok_f (ck (by omega) (by decide)) ?_))
  rw [cl (show fr + i < 2 ^ 31 by omega), lt_eq, lt_eq, nI_1]
  exact hr
theorem law_en {w fr n nf : Nat} {M : St} {Q : St → Prop} (hw : w < 6) (hn : fr + n ≤ 64) (ht : gA M 38 w = nI (fr + n)) (h : Q M) : ok (fX12_lawOf_L1 (nI w) (nf + 1) (nI (fr + n)) M) Q := by
  rw [fX12_lawOf_L1, cl (show w < 2 ^ 31 by omega), ht]
  exact ok_f (kx hw (by decide)) (ok_t (by rw [nI_leI (by omega) (by omega)]; omega) (ok_some h))
/-- in error to the end -/
theorem law_err {w fr n : Nat} (hw : w < 6) (hn : fr + n ≤ 64) : ∀ (d nf i : Nat) (M : St), i + d = n → d < nf → gI M 52 = 1 → gA M 38 w = nI (fr + n) → LW (gA M 39) (gA M 40) (gA M 41) fr n → ok (fX12_lawOf_L1 (nI w) nf (nI (fr + i)) M) (fun M' => fL M M' ∧ gI M' 52 = 1)
  | 0, nf + 1, i, M, h, _, he, ht, hl => by
    rw [show i = n by omega]
    exact law_en hw hn ht ⟨fL.rf, he⟩
  | d + 1, nf + 1, i, M, h, hf, he, ht, hl => by
    refine law_st hw hn (by omega) ht ?_
    have key : ok (fX12_valueOf M (nI (fr + i))) (fun r => fI52 M r.2 ∧ gI r.2 52 = 1) := by
      obtain ⟨t, h14, hk, h0, h1, h2, h3⟩ := hl i (by omega)
      rcases (show t = 0 ∨ t = 1 ∨ t = 2 ∨ 2 < t by omega) with rfl | rfl | rfl | h4
      · exact ok_eq (valueOf_leaf (by omega) hk) ⟨fI52.rf, he⟩
      · obtain ⟨j, _, hj, ej⟩ := h1 rfl
        exact ok_eq (valueOf_name (by omega) hk (by omega) ej) ⟨fI52.rf, he⟩
      · obtain ⟨x, r, hh, ex⟩ := h2 rfl
        have := hst_lt _ _ x (by rw [hh]; exact List.mem_cons_self ..)
        exact ok_eq (valueOf_not (by omega) hk (by omega) ex) ⟨fI52.rf, he⟩
      · obtain ⟨y, x, r, hh, ex, ey⟩ := h3 h4
        have hx := hst_lt _ _ x (by rw [hh]; exact List.mem_cons_of_mem _ (List.mem_cons_self ..))
        have hy := hst_lt _ _ y (by rw [hh]; exact List.mem_cons_self ..)
        exact ok_mono (valueOf_bin (by omega) hk h4 h14 (by omega) ex (by omega) ey (fun q => absurd (q.symm.trans he) (by decide)) (Or.inr he)) (fun r hr => ⟨hr.1, hr.2.2 he⟩)
    refine ok_mono key (fun r hr => ?_)
    have f1 : fL M (sB r.2 51 (fr + i) r.1) := (fL.o hr.1).w
    refine ok_mono (law_err hw hn d nf (i + 1) _ (by omega) (by omega) hr.2 (by rw [f1.A]; exact ht) (by rw [f1.A, f1.A, f1.A]; exact hl)) (fun M' h' => ⟨f1.tr h'.1, h'.2⟩)
theorem SRp {l : List Nat} {f M : St} {fr i L : Nat} {v : Int64} (h : SR l (gB f 2) (fun j => gB M 51 (fr + j))) (hL : L = l.length) (hi : ∀ a, a ∈ l → a < i) (hb : bnd v) : SR (i :: l) (gB (sB f 2 L v) 2) (fun j => gB (sB M 51 (fr + i) v) 51 (fr + j)) := by
  refine ⟨?_, ?_, SR.up l h (fun j hj => ?_) (fun a ha => ?_)⟩
  · show _ = gB (sB M 51 (fr + i) v) 51 (fr + i)
    rw [gB_sB, gB_sB, if_pos ⟨rfl, hL.symm⟩, if_pos ⟨rfl, rfl⟩]
  · show bnd (gB (sB M 51 (fr + i) v) 51 (fr + i))
    rw [gB_sB, if_pos ⟨rfl, rfl⟩]; exact hb
  · rw [gB_sB, if_neg (fun q => by have := q.2; omega)]
  · show gB (sB M 51 (fr + i) v) 51 (fr + a) = _
    rw [gB_sB, if_neg (fun q => by have := q.2; have := hi a ha; omega)]
theorem kc_n {t : Nat} (h3 : 2 < t) (h14 : t ≤ 14) : ¬ kc (nI t) = 0 ∧ ¬ kc (nI t) = 1 ∧ ¬ kc (nI t) = 2 := by
  rcases (show t = 3 ∨ t = 4 ∨ t = 5 ∨ t = 6 ∨ t = 7 ∨ t = 8 ∨ t = 9 ∨ t = 10 ∨ t = 11 ∨ t = 12 ∨ t = 13 ∨ t = 14 by omega) with rfl | rfl | rfl | rfl | rfl | rfl | rfl | rfl | rfl | rfl | rfl | rfl <;> decide
def law_r (fr n : Nat) (f M : St) (y : (Int32 × St) ⊕ (Int64 × St)) (M' : St) : Prop := fL M M' ∧ ∃ f', fF f f' ∧ ((y = .inl (1, f') ∧ gI M' 52 = 0 ∧ bnd (gB f' 2 0) ∧ gB f' 2 0 = gB M' 51 (fr + n - 1)) ∨ (y = .inr ((-9223372036854775808 : Int64), f') ∧ gI M' 52 = 1))
theorem law_both {w fr n : Nat} {nm : St} {K P O : Nat → Int32} {V : Nat → Int64} (hw : w < 6) (hn : fr + n ≤ 64) (hl : LW K P O fr n) (h1 : (hst (fun j => K (fr + j)) n).length = 1) (hV : ∀ j, j < 7 → gB nm 0 j = V j ∧ bnd (V j)) : ∀ (d nf nf2 i : Nat) (f M : St), i + d = n → d < nf → d < nf2 → gI M 52 = 0 → gI f 3 = nI n → gA M 38 w = nI (fr + n) → gA M 39 = K → gA M 40 = P → gA M 41 = O → (∀ j, j < 7 → gB M 50 j = V j) → (∀ i, i < n → gA f 0 i = kc (K (fr + i)) ∧ (K (fr + i) = 0 ∨ K (fr + i) = 1 → gA f 1 i = P (fr + i))) → SR (hst (fun j => K (fr + j)) i) (gB f 2) (fun j => gB M 51 (fr + j)) →
  ok (fX0_value_L1 nm 7 nf (nI (hst (fun j => K (fr + j)) i).length) (nI i) f) (fun y => ok (fX12_lawOf_L1 (nI w) nf2 (nI (fr + i)) M) (fun M' => law_r fr n f M y M'))
  | 0, nf + 1, nf2 + 1, i, f, M, h, _, _, he, hs, ht, hK, hP, hO, hM, hf, hS => by
    have hi : i = n := by omega
    subst hi
    rw [fX0_value_L1, hs, h1]
    refine ok_t (by rw [nI_leI (by omega) (by omega)]; omega) (ok_some (law_en hw hn ht ⟨fL.rf, f, fF.rf, Or.inl ⟨rfl, he, ?_⟩⟩))
    cases i with
    | zero => exact absurd (show (0 : Nat) = 1 from h1) (by decide)
    | succ m =>
      have ht : ∃ r, hst (fun j => K (fr + j)) (m + 1) = m :: r := by
        rw [hst]
        split
        · exact ⟨_, rfl⟩
        · split
          · exact ⟨_, rfl⟩
          · exact ⟨_, rfl⟩
      obtain ⟨r, hr⟩ := ht
      rw [hr] at hS h1
      have hr0 : r.length = 0 := by rw [List.length_cons] at h1; omega
      have q := hS.1
      have q2 := hS.2.1
      rw [hr0] at q
      rw [q]
      exact ⟨q2, rfl⟩
  | d + 1, nf + 1, nf2 + 1, i, f, M, h, g1, g2, he, hs, ht, hK, hP, hO, hM, hf, hS => by
    have hi : i < n := by omega
    have hle := hst_le (fun j => K (fr + j)) i
    have hlt := hst_lt (fun j => K (fr + j)) i
    obtain ⟨t, h14, hk, t0, t1, t2, t3⟩ := hl i hi
    obtain ⟨hc, hc2⟩ := hf i hi
    have hk' : gA M 39 (fr + i) = nI t := by rw [hK]; exact hk
    rw [hk] at hc
    -- a value that goes onto the row
    have key : ∀ (l : List Nat) (v : Int64), SR l (gB f 2) (fun j => gB M 51 (fr + j)) → (∀ a, a ∈ l → a < i) → bnd v → hst (fun j => K (fr + j)) (i + 1) = i :: l → ok (fX0_value_L1 nm 7 nf (nI (l.length + 1)) (nI (i + 1)) (sB f 2 l.length v)) (fun y => ok (fX12_lawOf_L1 (nI w) nf2 (nI (fr + (i + 1))) (sB M 51 (fr + i) v)) (fun M' => law_r fr n f M y M')) := by
      intro l v hl1 hl2 hb hh
      have := law_both hw hn hl h1 hV d nf nf2 (i + 1) (sB f 2 l.length v) (sB M 51 (fr + i) v) (by omega) (by omega) (by omega) he hs ht hK hP hO hM hf (by rw [hh]; exact SRp hl1 rfl hl2 hb)
      rw [hh, List.length_cons] at this
      exact ok_mono this (fun y hy => ok_mono hy (fun M' hM' => ⟨(fL.rf.w).tr hM'.1, hM'.2.elim (fun f' hf' => ⟨f', fF.w.tr hf'.1, hf'.2⟩)⟩))
    rcases (show t = 0 ∨ t = 1 ∨ t = 2 ∨ 2 < t by omega) with rfl | rfl | rfl | h4
    · have hk0 : K (fr + i) = 0 := hk
      rw [cs_push hs hi (by omega) (by omega) hc]
      have e1 : gA f 1 i = gA M 40 (fr + i) := by rw [hP]; exact hc2 (Or.inl hk0)
      have hh : hst (fun j => K (fr + j)) (i + 1) = i :: hst (fun j => K (fr + j)) i := by rw [hst, if_pos (Or.inl hk0)]
      rw [e1]
      exact ok_mono (key _ (gA M 40 (fr + i)).toInt64 hS hlt (bnd_i _) hh) (fun y hy => law_st hw hn hi ht (ok_eq (valueOf_leaf (by omega) hk') hy))
    · have hk1 : K (fr + i) = 1 := hk
      obtain ⟨j, _, hj, ej⟩ := t1 rfl
      have e1 : gA f 1 i = nI j := by rw [hc2 (Or.inr hk1)]; exact ej
      rw [cs_name hs hi (by omega) (by omega) hc (show j < 7 by omega) e1, (hV j (by omega)).1]
      have hh : hst (fun j => K (fr + j)) (i + 1) = i :: hst (fun j => K (fr + j)) i := by rw [hst, if_pos (Or.inr hk1)]
      refine ok_mono (key _ (V j) hS hlt (hV j (by omega)).2 hh) (fun y hy => law_st hw hn hi ht (ok_eq (valueOf_name (by omega) hk' (show j < 7 by omega) (by rw [hP]; exact ej)) ?_))
      show ok (fX12_lawOf_L1 (nI w) nf2 (nI (fr + (i + 1))) (sB M 51 (fr + i) (gB M 50 j))) _
      rw [hM j (by omega)]
      exact hy
    · have hk2 : K (fr + i) = 2 := hk
      obtain ⟨x, r, hh, ex⟩ := t2 rfl
      have hh2 : hst (fun j => K (fr + j)) (i + 1) = i :: r := by rw [hst, if_neg (by rw [hk2]; decide), if_pos hk2, hh]; rfl
      rw [hh] at hS hle hlt ⊢
      rw [List.length_cons] at hle ⊢
      have hx := hlt x (List.mem_cons_self ..)
      rw [cs_not hs hi (by omega) (by omega) hc, hS.1]
      refine ok_mono (key r (if gB M 51 (fr + x) = (0 : Int64) then (1 : Int64) else 0) hS.2.2 (fun a ha => hlt a (List.mem_cons_of_mem _ ha)) (bnd_ite bnd1 bnd0) hh2) (fun y hy => law_st hw hn hi ht (ok_eq (valueOf_not (by omega) hk' (show fr + x < 64 by omega) (by rw [hP]; exact ex)) hy))
    · obtain ⟨y, x, r, hh, ex, ey⟩ := t3 h4
      have e2 : ∀ j : Nat, j ≤ 14 → (nI t = nI j ↔ t = j) := fun j hj => nI_eq (by omega) (by omega)
      have hh2 : hst (fun j => K (fr + j)) (i + 1) = i :: r := by
        rw [hst, hk, if_neg (fun q => q.elim (fun q => by have := (e2 0 (by omega)).mp q; omega) (fun q => by have := (e2 1 (by omega)).mp q; omega)), if_neg (fun q => by have := (e2 2 (by omega)).mp q; omega), hh]; rfl
      rw [hh] at hS hle hlt ⊢
      rw [List.length_cons, List.length_cons] at hle ⊢
      have hx := hlt x (List.mem_cons_of_mem _ (List.mem_cons_self ..))
      have hy := hlt y (List.mem_cons_self ..)
      obtain ⟨k0, k1, k2⟩ := kc_n h4 h14
      rw [show r.length + 1 + 1 = r.length + 2 from rfl, cs_bin hs hi (by omega) (by omega) hc k0 k1 k2]
      obtain ⟨sy, by1, sx, bx1, sr⟩ := hS
      rw [List.length_cons] at sy
      rw [sy, sx]
      have mv := valueOf_bin (show fr + i < 64 by omega) hk' h4 h14 (show fr + x < 64 by omega) (by rw [hP]; exact ex) (show fr + y < 64 by omega) (by rw [hO]; exact ey) (fun _ => ⟨bx1, by1⟩) (Or.inl he)
      refine ok_bind (ok_mono (join_of h4 h14 bx1 by1) (fun v hv => ?_))
      rcases hv with ⟨ho, hb⟩ | ⟨ho, hb⟩
      · have hb' := (bnd_iff v).mp hb
        refine ok_f hb'.1 (ok_t hb'.2 ?_)
        refine ok_mono (key r v sr (fun a ha => hlt a (List.mem_cons_of_mem _ (List.mem_cons_of_mem _ ha))) hb hh2) (fun yy hyy => law_st hw hn hi ht (ok_mono mv (fun rr hrr => ?_)))
        have q := (hrr.2.1 he).1 v ho
        have e3 : rr.2 = M := by
          obtain ⟨⟨f1, f2⟩, _⟩ := hrr
          refine Prod.ext (funext fun k => ?_) f1
          by_cases hk : k = 52
          · subst hk; exact q.2.trans he.symm
          · exact f2 k hk
        rw [e3, q.1]
        exact hyy
      · have fin : ok (some (Sum.inr ((-9223372036854775808 : Int64), sB f 2 r.length v)) : Option ((Int32 × St) ⊕ (Int64 × St))) (fun y => ok (fX12_lawOf_L1 (nI w) (nf2 + 1) (nI (fr + i)) M) (fun M' => law_r fr n f M y M')) := by
          refine ok_some (law_st hw hn hi ht (ok_mono mv (fun rr hrr => ?_)))
          have q := (hrr.2.1 he).2 ho
          have f1 : fL M (sB rr.2 51 (fr + i) rr.1) := (fL.o hrr.1).w
          refine ok_mono (law_err hw hn d nf2 (i + 1) _ (by omega) (by omega) q (by rw [f1.A]; exact ht) (by rw [f1.A, f1.A, f1.A, hK, hP, hO]; exact hl)) (fun M' h' => ⟨f1.tr h'.1, _, fF.w, Or.inr ⟨rfl, h'.2⟩⟩)
        refine ok_if (fun _ => fin) (fun c => ok_f (fun c2 => hb ((bnd_iff v).mpr ⟨c, c2⟩)) fin)

/-- a law that was told, on both sides: the same value, or an error -/
def lawA (f M : St) (r : Int64 × St) (r' : Int64 × St) : Prop := fL M r'.2 ∧ fF f r.2 ∧ ((gI r'.2 52 = 0 ∧ r.1 = r'.1 ∧ bnd r.1) ∨ (gI r'.2 52 = 1 ∧ r.1 = -9223372036854775808))
theorem law_val {f M nm : St} {w : Nat} (hw : w < 3) (hr : LR f M w) (ht : gA M 36 w = 1) (hV : ∀ j, j < 7 → gB nm 0 j = gB M 50 j ∧ bnd (gB M 50 j)) : ok (fX0_value 7 f nm) (fun r => ok (fX12_lawOf M (nI w)) (fun r' => lawA f M r r')) := by
  obtain ⟨_, h0 | ⟨_, fr, n, hn1, hn, hs, hfr, hto, hl, hc, h1⟩⟩ := hr
  · rw [ht] at h0; exact absurd h0 i10
  · unfold fX0_value
    have := law_both (w := w) (nm := nm) (by omega) hn hl h1 (V := gB M 50) hV n fuel fuel 0 f (sI M 52 0) (by omega) (by rw [fuel_eq]; omega) (by rw [fuel_eq]; omega) rfl hs hto rfl rfl rfl (fun j _ => rfl) hc trivial
    refine ok_bind (ok_mono this (fun y hy => ?_))
    refine ok_swap (x := fX12_lawOf M (nI w)) ?_
    unfold fX12_lawOf
    refine ok_lt (ok_f (ck (show w < 6 by omega) (by decide)) (ok_lt ?_))
    rw [cl (show w < 2 ^ 31 by omega), show gA (sI M 52 0) 37 w = nI (fr + 0) from hfr]
    refine ok_bind (ok_mono hy (fun M' hM' => ?_))
    obtain ⟨f1, f', f2, ⟨rfl, he, hb, hv⟩ | ⟨rfl, he⟩⟩ := hM'
    · have e38 : gA M' 38 w = nI (fr + n) := by rw [f1.A]; exact hto
      obtain ⟨m, rfl⟩ : ∃ m, n = m + 1 := ⟨n - 1, by omega⟩
      rw [e38, show nI (fr + (m + 1)) - 1 = nI (fr + m) from nI_sub1, cl (show fr + m < 2 ^ 31 by omega)]
      refine ok_t he (ok_f (kx (show w < 6 by omega) (by decide)) (ok_f (kx (show fr + m < 64 by omega) (by decide)) (ok_some (ok_some ?_))))
      refine ⟨(fL.o fI52.st).tr f1, f2, Or.inl ⟨he, ?_, ?_⟩⟩
      · exact hv
      · exact hb
    · refine ok_f (by rw [he]; exact i10) (ok_some (ok_some ?_))
      exact ⟨(fL.o fI52.st).tr f1, f2, Or.inr ⟨he, rfl⟩⟩
