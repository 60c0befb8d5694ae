/-! tokens -/
def fI (P : Nat → Prop) (u u' : St) : Prop := (∀ j, ¬ P j → gI u' j = gI u j) ∧ u'.2 = u.2
theorem fI.rf {P : Nat → Prop} {u : St} : fI P u u := ⟨fun _ _ => rfl, rfl⟩
theorem fI.tr {P : Nat → Prop} {a b c : St} (h : fI P a b) (k : fI P b c) : fI P a c := ⟨fun j q => (k.1 j q).trans (h.1 j q), k.2.trans h.2⟩
theorem fI.w {P : Nat → Prop} {u : St} {k : Nat} {v : Int32} (h : P k) : fI P u (sI u k v) := ⟨fun j q => gI_sIn _ _ (fun e => q (by rw [e]; exact h)), rfl⟩
theorem fI.A {P : Nat → Prop} {u u' : St} (h : fI P u u') (r : Nat) : gA u' r = gA u r := by unfold gA; rw [h.2]
theorem fI.J {P : Nat → Prop} {u u' : St} (h : fI P u u') : u'.2.1 = u.2.1 := by rw [h.2]
def tP (j : Nat) : Prop := 3 ≤ j ∧ j ≤ 6
def mP (j : Nat) : Prop := 7 ≤ j ∧ j ≤ 10
theorem tP3 : tP 3 := ⟨by decide, by decide⟩
theorem tP4 : tP 4 := ⟨by decide, by decide⟩
theorem tP5 : tP 5 := ⟨by decide, by decide⟩
theorem tP6 : tP 6 := ⟨by decide, by decide⟩
theorem mP7 : mP 7 := ⟨by decide, by decide⟩
theorem mP8 : mP 8 := ⟨by decide, by decide⟩
theorem mP9 : mP 9 := ⟨by decide, by decide⟩
theorem mP10 : mP 10 := ⟨by decide, by decide⟩
/-- the letters of the words, in the reference's order -/
def WL : List (List Nat) := [[1, 3, 20], [7, 21, 5, 19, 20], [7, 18, 1, 9, 14], [19, 8, 15, 23], [3, 15, 21, 7, 8], [19, 5, 5, 4], [12, 1, 23], [3, 12, 1, 16], [20, 21, 18, 14], [7, 18, 9, 20], [1, 14, 4], [15, 18], [14, 15, 20], [13, 15, 15, 4], [20, 1, 19, 20, 5], [8, 21, 14, 7, 5, 18], [2, 5, 19, 9, 4, 5], [19, 16, 5, 5, 4], [20, 9, 18, 5, 4], [13, 9, 14, 21, 20, 5]]
def wd (i : Nat) : List Nat := WL.getD i []
/-- and in the class's -/
def sw (i : Nat) : Nat := if i = 10 then 11 else if i = 11 then 10 else i
theorem sw_sw (i : Nat) : sw (sw i) = i := by
  unfold sw
  by_cases a : i = 10
  · subst a; rfl
  · by_cases b : i = 11
    · subst b; rfl
    · rw [if_neg a, if_neg b, if_neg a, if_neg b]
theorem sw_lt {i : Nat} (h : i < 20) : sw i < 20 := by unfold sw; split <;> (try split) <;> omega
/-- six letters in a number -/
def pk6 (y : Nat → Nat) : Nat := ((((y 0 * 32 + y 1) * 32 + y 2) * 32 + y 3) * 32 + y 4) * 32 + y 5
def W3 : List Nat := WL.flatMap (fun l => l.map (fun x => x + 96) ++ [32])
def w3 (i : Nat) : Nat := W3.getD i 0
/-- base: tape, limit, words -/
def TB (tk tp M : St) (N : Nat) : Prop := N ≤ 700 ∧ gI tk 2 = nI N ∧ gI M 6 = nI N ∧ (∀ i, i < N → gA tp 0 i &&& 255 = gA M 0 i ∧ nn (gA M 0 i) 0 255) ∧ (∀ i, i < 20 → gA tk 0 i = nI (pk6 (fun k => (wd (sw i)).getD k 0))) ∧ ∀ i, i < 106 → gA M 3 i = nI (w3 i)
theorem TB.fr {tk tk' tp M M' : St} {N : Nat} (h : TB tk tp M N) (k : fI tP tk tk') (m : fI mP M M') : TB tk' tp M' N := by
  obtain ⟨a, b, c, d, e, f⟩ := h
  refine ⟨a, (k.1 2 (by unfold tP; omega)).trans b, (m.1 6 (by unfold mP; omega)).trans c, fun i hi => ?_, fun i hi => ?_, fun i hi => ?_⟩
  · rw [m.A]; exact d i hi
  · rw [k.A]; exact e i hi
  · rw [m.A]; exact f i hi
def chr (M : St) (q : Nat) : Nat := (gA M 0 q).toNatClampNeg
theorem TB.c {tk tp M : St} {N q : Nat} (h : TB tk tp M N) (hq : q < N) : gA M 0 q = nI (chr M q) ∧ chr M q ≤ 255 := by
  obtain ⟨_, k, _, hk, e⟩ := h.2.2.2.1 q hq
  unfold chr
  rw [e, cl (show k < 2 ^ 31 by omega)]
  exact ⟨rfl, hk⟩
theorem peek_lt {tk tp M : St} {N q : Nat} (h : TB tk tp M N) (h3 : gI tk 3 = nI q) (hq : q < N) : fX10_peek 700 tk tp = some (nI (chr M q)) := by
  have hN := h.1
  unfold fX10_peek
  rw [h.2.1, h3, cl (show q < 2 ^ 31 by omega), (h.2.2.2.1 q hq).1, (h.c hq).1]
  rw [if_neg (by rw [nI_leI (by omega) (by omega)]; omega), if_neg (kx (by omega) (by decide))]
theorem peek_ge {tk tp M : St} {N q : Nat} (h : TB tk tp M N) (h3 : gI tk 3 = nI q) (hq : N ≤ q) (h7 : q ≤ 700) : fX10_peek 700 tk tp = some (-1) := by
  have hN := h.1
  unfold fX10_peek
  rw [h.2.1, h3]
  rw [if_pos (by rw [nI_leI (by omega) (by omega)]; omega)]
theorem skip_of {tp : St} {N : Nat} : ∀ (d nf nf2 q : Nat) (tk M : St), q + d = N → d < nf → d < nf2 → TB tk tp M N → gI tk 3 = nI q → gI M 7 = nI q → ok (fX10_next_L1 tp 700 nf tk) (fun tk' => ok (fX12_token_L1 nf2 M) (fun M' => fI tP tk tk' ∧ fI mP M M' ∧ ∃ p, q ≤ p ∧ p ≤ N ∧ gI tk' 3 = nI p ∧ gI M' 7 = nI p))
  | 0, nf + 1, nf2 + 1, q, tk, M, h, _, _, hB, h3, h7 => by
    have hN := hB.1
    rw [fX10_next_L1, fX12_token_L1, hB.2.1, hB.2.2.1, h3, h7]
    have c : nI N ≤ nI q := by rw [nI_leI (by omega) (by omega)]; omega
    exact ok_t c (ok_some (ok_t c (ok_some ⟨fI.rf, fI.rf, q, Nat.le_refl _, by omega, h3, h7⟩)))
  | d + 1, nf + 1, nf2 + 1, q, tk, M, h, g1, g2, hB, h3, h7 => by
    have hN := hB.1
    have hq : q < N := by omega
    have hc := hB.c hq
    rw [fX10_next_L1, fX12_token_L1, peek_lt hB h3 hq, hB.2.1, hB.2.2.1, h3, h7, nI_1, cl (show q < 2 ^ 31 by omega), hc.1]
    have c : ¬ nI N ≤ nI q := by rw [nI_leI (by omega) (by omega)]; omega
    have c7 : ¬ (nI q < 0 ∨ 700 ≤ q) := kx (by omega) (by decide)
    have go : ok (lt (nI (q + 1)) fun x5 => lt (sI tk 3 x5) fun u6 => fX10_next_L1 tp 700 nf u6) (fun tk' => ok (lt (nI (q + 1)) fun x5 => lt (sI M 7 x5) fun u6 => fX12_token_L1 nf2 u6) (fun M' => fI tP tk tk' ∧ fI mP M M' ∧ ∃ p, q ≤ p ∧ p ≤ N ∧ gI tk' 3 = nI p ∧ gI M' 7 = nI p)) := by
      have k1 : fI tP tk (sI tk 3 (nI (q + 1))) := fI.w tP3
      have k2 : fI mP M (sI M 7 (nI (q + 1))) := fI.w mP7
      refine ok_lt (ok_lt (ok_mono (skip_of d nf nf2 (q + 1) _ _ (by omega) (by omega) (by omega) (hB.fr k1 k2) rfl rfl) (fun tk' ht => ok_lt (ok_lt (ok_mono ht (fun M' hM => ?_))))))
      obtain ⟨a, b, p, e1, e2, e3, e4⟩ := hM
      exact ⟨k1.tr a, k2.tr b, p, by omega, e2, e3, e4⟩
    refine ok_f c (ok_bind (ok_some (ok_lt ?_)))
    by_cases c10 : nI (chr M q) = (10 : Int32)
    · exact ok_t c10 (ok_mono go (fun tk' ht => ok_f c (ok_f c7 (ok_lt (ok_t c10 ht)))))
    · refine ok_f c10 (ok_bind (ok_some ?_))
      by_cases c32 : nI (chr M q) = (32 : Int32)
      · exact ok_t c32 (ok_mono go (fun tk' ht => ok_f c (ok_f c7 (ok_lt (ok_f c10 (ok_f c7 (ok_t c32 ht)))))))
      · exact ok_f c32 (ok_some (ok_f c (ok_f c7 (ok_lt (ok_f c10 (ok_f c7 (ok_f c32 (ok_some ⟨fI.rf, fI.rf, q, Nat.le_refl _, by omega, h3, h7⟩))))))))
/-! digits and letters -/
theorem dig_c {b : Nat} (hb : b ≤ 255) : fX10_isDigit (nI b) = 0 ↔ ¬ (48 ≤ b ∧ b ≤ 57) := by
  unfold fX10_isDigit
  simp only [lt_eq]
  by_cases h1 : nI b < (48 : Int32)
  · have := (nI_ltI (a := b) (b := 48) (by omega) (by omega)).mp h1
    rw [if_pos h1]
    exact ⟨fun _ => by omega, fun _ => by decide⟩
  · have a1 : ¬ b < 48 := fun z => h1 ((nI_ltI (a := b) (b := 48) (by omega) (by omega)).mpr z)
    rw [if_neg h1]
    by_cases h2 : (57 : Int32) < nI b
    · have := (nI_ltI (a := 57) (b := b) (by omega) (by omega)).mp h2
      rw [if_pos h2]
      exact ⟨fun _ => by omega, fun _ => by decide⟩
    · have a2 : ¬ 57 < b := fun z => h2 ((nI_ltI (a := 57) (b := b) (by omega) (by omega)).mpr z)
      rw [if_neg h2]
      exact ⟨fun z => absurd z (by decide), fun z => absurd ⟨by omega, by omega⟩ z⟩
theorem let_c {b : Nat} (hb : b ≤ 255) : fX10_isLetter (nI b) = 0 ↔ ¬ (97 ≤ b ∧ b ≤ 122) := by
  unfold fX10_isLetter
  simp only [lt_eq]
  by_cases h1 : nI b < (97 : Int32)
  · have := (nI_ltI (a := b) (b := 97) (by omega) (by omega)).mp h1
    rw [if_pos h1]
    exact ⟨fun _ => by omega, fun _ => by decide⟩
  · have a1 : ¬ b < 97 := fun z => h1 ((nI_ltI (a := b) (b := 97) (by omega) (by omega)).mpr z)
    rw [if_neg h1]
    by_cases h2 : (122 : Int32) < nI b
    · have := (nI_ltI (a := 122) (b := b) (by omega) (by omega)).mp h2
      rw [if_pos h2]
      exact ⟨fun _ => by omega, fun _ => by decide⟩
    · have a2 : ¬ 122 < b := fun z => h2 ((nI_ltI (a := 122) (b := b) (by omega) (by omega)).mpr z)
      rw [if_neg h2]
      exact ⟨fun z => absurd z (by decide), fun z => absurd ⟨by omega, by omega⟩ z⟩
/-- the reference's tests at a place -/
theorem dig_m {tk tp M : St} {N q : Nat} (h : TB tk tp M N) (hq : q < N) : fX12_isDigit M (nI q) = some (if 48 ≤ chr M q ∧ chr M q ≤ 57 then 1 else 0) := by
  have hN := h.1
  have hc := h.c hq
  unfold fX12_isDigit
  rw [h.2.2.1, cl (show q < 2 ^ 31 by omega), hc.1, if_neg (by rw [nI_leI (by omega) (by omega)]; omega), if_neg (kx (by omega) (by decide)), if_neg (kx (by omega) (by decide))]
  show (if nI (chr M q) < nI 48 then some (0 : Int32) else if nI 57 < nI (chr M q) then some 0 else some 1) = _
  by_cases a : 48 ≤ chr M q
  · rw [if_neg (fun z => absurd ((nI_ltI (a := chr M q) (b := 48) (by omega) (by omega)).mp z) (by omega))]
    by_cases b : chr M q ≤ 57
    · rw [if_neg (fun z => absurd ((nI_ltI (a := 57) (b := chr M q) (by omega) (by omega)).mp z) (by omega)), if_pos ⟨a, b⟩]
    · rw [if_pos ((nI_ltI (a := 57) (b := chr M q) (by omega) (by omega)).mpr (by omega)), if_neg (fun z => b z.2)]
  · rw [if_pos ((nI_ltI (a := chr M q) (b := 48) (by omega) (by omega)).mpr (by omega)), if_neg (fun z => a z.1)]
theorem dig_e {tk tp M : St} {N q : Nat} (h : TB tk tp M N) (hq : N ≤ q) (h7 : q ≤ 700) : fX12_isDigit M (nI q) = some 0 := by
  have hN := h.1
  unfold fX12_isDigit
  rw [h.2.2.1, if_pos (by rw [nI_leI (by omega) (by omega)]; omega)]
theorem let_m {tk tp M : St} {N q : Nat} (h : TB tk tp M N) (hq : q < N) : fX12_isSmall M (nI q) = some (if 97 ≤ chr M q ∧ chr M q ≤ 122 then 1 else 0) := by
  have hN := h.1
  have hc := h.c hq
  unfold fX12_isSmall
  rw [h.2.2.1, cl (show q < 2 ^ 31 by omega), hc.1, if_neg (by rw [nI_leI (by omega) (by omega)]; omega), if_neg (kx (by omega) (by decide)), if_neg (kx (by omega) (by decide))]
  show (if nI (chr M q) < nI 97 then some (0 : Int32) else if nI 122 < nI (chr M q) then some 0 else some 1) = _
  by_cases a : 97 ≤ chr M q
  · rw [if_neg (fun z => absurd ((nI_ltI (a := chr M q) (b := 97) (by omega) (by omega)).mp z) (by omega))]
    by_cases b : chr M q ≤ 122
    · rw [if_neg (fun z => absurd ((nI_ltI (a := 122) (b := chr M q) (by omega) (by omega)).mp z) (by omega)), if_pos ⟨a, b⟩]
    · rw [if_pos ((nI_ltI (a := 122) (b := chr M q) (by omega) (by omega)).mpr (by omega)), if_neg (fun z => b z.2)]
  · rw [if_pos ((nI_ltI (a := chr M q) (b := 97) (by omega) (by omega)).mpr (by omega)), if_neg (fun z => a z.1)]
theorem let_e {tk tp M : St} {N q : Nat} (h : TB tk tp M N) (hq : N ≤ q) (h7 : q ≤ 700) : fX12_isSmall M (nI q) = some 0 := by
  have hN := h.1
  unfold fX12_isSmall
  rw [h.2.2.1, if_pos (by rw [nI_leI (by omega) (by omega)]; omega)]
theorem chr_fr {M M' : St} (h : fI mP M M') (q : Nat) : chr M' q = chr M q := by unfold chr; rw [h.A]
