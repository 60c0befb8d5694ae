/-! words and names -/
def cut (x : Nat → Nat) (k j : Nat) : Nat := if j < k then x j else 0
def lx (M : St) (p j : Nat) : Nat := chr M (p + j) - 96
def isL (M : St) (q : Nat) : Prop := 97 ≤ chr M q ∧ chr M q ≤ 122
theorem sh_d : ∀ k, k < 6 → ∀ y, y < 32 → (nI y <<< (((5 : Int32) * (5 - nI k)) &&& 31)) = nI (y * 32 ^ (5 - k)) := by decide +kernel
theorem pk6_s {x : Nat → Nat} : ∀ k, k < 6 → pk6 (cut x (k + 1)) = pk6 (cut x k) + x k * 32 ^ (5 - k) := by
  intro k hk
  unfold pk6 cut
  rcases (show k = 0 ∨ k = 1 ∨ k = 2 ∨ k = 3 ∨ k = 4 ∨ k = 5 by omega) with rfl | rfl | rfl | rfl | rfl | rfl <;> simp <;> omega
theorem pk6_6 {x : Nat → Nat} {k : Nat} (h : 6 ≤ k) : pk6 (cut x (k + 1)) = pk6 (cut x k) := by
  unfold pk6 cut
  rw [if_pos (by omega), if_pos (by omega), if_pos (by omega), if_pos (by omega), if_pos (by omega), if_pos (by omega), if_pos (by omega), if_pos (by omega), if_pos (by omega), if_pos (by omega), if_pos (by omega), if_pos (by omega)]
theorem run_of {tp : St} {N p : Nat} : ∀ (d nf nf2 k : Nat) (tk M : St), p + k + d = N → d < nf → d < nf2 → TB tk tp M N → gI tk 3 = nI (p + k) → gI tk 6 = nI p → gI M 7 = nI (p + k) → gI M 10 = nI p → (∀ j, j < k → isL M (p + j)) → ok (fX10_takeWord_L1 tp 700 nf (nI (pk6 (cut (lx M p) k))) tk) (fun y => ok (fX12_token_L3 nf2 M) (fun M' => fI tP tk y.2 ∧ fI mP M M' ∧ ∃ L, k ≤ L ∧ p + L ≤ N ∧ (∀ j, j < L → isL M (p + j)) ∧ (p + k < N → isL M (p + k) → k < L) ∧ y.1 = nI (pk6 (cut (lx M p) L)) ∧ gI y.2 3 = nI (p + L) ∧ gI y.2 6 = nI p ∧ gI M' 7 = nI (p + L) ∧ gI M' 10 = nI p))
  | 0, nf + 1, nf2 + 1, k, tk, M, h, _, _, hB, h3, h6, h7, h10, hl => by
    have hN := hB.1
    rw [fX10_takeWord_L1, fX12_token_L3, h7, let_e hB (by omega) (by omega), hB.2.1, h3]
    have c : nI N ≤ nI (p + k) := by rw [nI_leI (by omega) (by omega)]; omega
    exact ok_t c (ok_some (ok_bind (ok_some (ok_t rfl (ok_some ⟨fI.rf, fI.rf, k, Nat.le_refl _, by omega, hl, fun z => absurd z (by omega), rfl, h3, h6, h7, h10⟩)))))
  | d + 1, nf + 1, nf2 + 1, k, tk, M, h, g1, g2, hB, h3, h6, h7, h10, hl => by
    have hN := hB.1
    have hq : p + k < N := by omega
    have hc := hB.c hq
    have c : ¬ nI N ≤ nI (p + k) := by rw [nI_leI (by omega) (by omega)]; omega
    rw [fX10_takeWord_L1, fX12_token_L3, h7, let_m hB hq, peek_lt hB h3 hq, hB.2.1, h3, h6, nI_1]
    refine ok_f c (ok_bind (ok_some ?_))
    by_cases dg : 97 ≤ chr M (p + k) ∧ chr M (p + k) ≤ 122
    · rw [if_pos dg]
      refine ok_f (fun z => (let_c hc.2).mp z dg) (ok_lt ?_)
      have esub : nI (p + k) - nI p = nI k := by rw [nI_sub (by omega)]; congr 1; omega
      rw [esub]
      have k1 : fI tP tk (sI tk 3 (nI (p + k + 1))) := fI.w tP3
      have k2 : fI mP M (sI M 7 (nI (p + k + 1))) := fI.w mP7
      have hl2 : ∀ j, j < k + 1 → isL (sI M 7 (nI (p + k + 1))) (p + j) := fun j hj => by
        by_cases q : j = k
        · subst q; exact dg
        · exact hl j (by omega)
      have go : ok (fX10_takeWord_L1 tp 700 nf (nI (pk6 (cut (lx M p) (k + 1)))) (sI tk 3 (nI (p + k + 1)))) (fun y => ok (lt (nI (p + k + 1)) fun x37 => lt (sI M 7 x37) fun u38 => fX12_token_L3 nf2 u38) (fun M' => fI tP tk y.2 ∧ fI mP M M' ∧ ∃ L, k ≤ L ∧ p + L ≤ N ∧ (∀ j, j < L → isL M (p + j)) ∧ (p + k < N → isL M (p + k) → k < L) ∧ y.1 = nI (pk6 (cut (lx M p) L)) ∧ gI y.2 3 = nI (p + L) ∧ gI y.2 6 = nI p ∧ gI M' 7 = nI (p + L) ∧ gI M' 10 = nI p)) := by
        refine ok_mono (run_of d nf nf2 (k + 1) _ (sI M 7 (nI (p + k + 1))) (by omega) (by omega) (by omega) (hB.fr k1 k2) rfl h6 rfl h10 hl2) (fun y hy => ok_lt (ok_lt (ok_mono hy (fun M' hM => ?_))))
        obtain ⟨a1, a2, L, b1, b2, b3, b4, b5, b6, b7, b8, b9⟩ := hM
        exact ⟨k1.tr a1, k2.tr a2, L, by omega, b2, b3, fun _ _ => by omega, b5, b6, b7, b8, b9⟩
      by_cases k6 : 6 ≤ k
      · refine ok_t (show nI 6 ≤ nI k by rw [nI_leI (by omega) (by omega)]; exact k6) (ok_lt (ok_lt ?_))
        rw [← pk6_6 k6]
        exact ok_mono go (fun y hy => ok_bind (ok_some (ok_f i10 hy)))
      · refine ok_f (show ¬ nI 6 ≤ nI k by rw [nI_leI (by omega) (by omega)]; exact k6) (ok_bind (ok_some (ok_lt (ok_lt (ok_lt ?_)))))
        have e1 : (nI (chr M (p + k)) - 97) + 1 = nI (lx M p k) := by
          rw [show (97 : Int32) = nI 97 from rfl, nI_sub (by omega), nI_1]
          unfold lx; congr 1; omega
        have hx : lx M p k < 32 := by unfold lx; omega
        rw [e1, sh_d k (by omega) _ hx, nI_add, ← pk6_s k (by omega)]
        exact ok_mono go (fun y hy => ok_bind (ok_some (ok_f i10 hy)))
    · rw [if_neg dg]
      exact ok_t ((let_c hc.2).mpr dg) (ok_some (ok_bind (ok_some (ok_t rfl (ok_some ⟨fI.rf, fI.rf, k, Nat.le_refl _, by omega, hl, fun _ z => absurd z dg, rfl, h3, h6, h7, h10⟩)))))
/-! the class's words -/
theorem wordC_L {y : Int32 × St} : ∀ (d nf i : Nat) (u : St), i + d = 20 → d < nf → gI u 4 = 3 → ok (fX10_takeWord_L2 y nf (nI i) u) (fun u' => fI tP u u' ∧ gI u' 3 = gI u 3 ∧ gI u' 6 = gI u 6 ∧ ((∃ j, i ≤ j ∧ j < 20 ∧ gA u 0 j = y.1 ∧ gI u' 4 = 2 ∧ gI u' 5 = nI j) ∨ ((∀ j, i ≤ j → j < 20 → ¬ gA u 0 j = y.1) ∧ u' = u)))
  | 0, nf + 1, i, u, h, _, h4 => by
    rw [fX10_takeWord_L2]
    exact ok_t (show nI 20 ≤ nI i by rw [nI_leI (by omega) (by omega)]; omega) (ok_some ⟨fI.rf, rfl, rfl, Or.inr ⟨fun j h1 h2 => absurd h1 (by omega), rfl⟩⟩)
  | d + 1, nf + 1, i, u, h, hf, h4 => by
    rw [fX10_takeWord_L2, cl (show i < 2 ^ 31 by omega)]
    refine ok_f (show ¬ nI 20 ≤ nI i by rw [nI_leI (by omega) (by omega)]; omega) (ok_t h4 (ok_f (kx (by omega) (by decide)) (ok_lt ?_)))
    refine ok_if (fun c => ok_lt (ok_lt (ok_lt ?_))) (fun c => ok_lt ?_)
    · obtain ⟨nf, rfl⟩ : ∃ k, nf = k + 1 := ⟨nf - 1, by omega⟩
      rw [fX10_takeWord_L2]
      have fin : fI tP u (sI (sI u 4 2) 5 (nI i)) ∧ gI (sI (sI u 4 2) 5 (nI i)) 3 = gI u 3 ∧ gI (sI (sI u 4 2) 5 (nI i)) 6 = gI u 6 ∧ ((∃ j, i ≤ j ∧ j < 20 ∧ gA u 0 j = y.1 ∧ gI (sI (sI u 4 2) 5 (nI i)) 4 = 2 ∧ gI (sI (sI u 4 2) 5 (nI i)) 5 = nI j) ∨ ((∀ j, i ≤ j → j < 20 → ¬ gA u 0 j = y.1) ∧ sI (sI u 4 2) 5 (nI i) = u)) := ⟨(fI.w tP4).tr (fI.w tP5), rfl, rfl, Or.inl ⟨i, Nat.le_refl _, by omega, c, rfl, rfl⟩⟩
      exact ok_if (fun _ => ok_some fin) (fun _ => ok_f (show ¬ (2 : Int32) = 3 by decide) (ok_some fin))
    · rw [nI_1]
      refine ok_mono (wordC_L d nf (i + 1) u (by omega) (by omega) h4) (fun u' hu => ?_)
      obtain ⟨a1, a2, a3, a4⟩ := hu
      refine ⟨a1, a2, a3, ?_⟩
      rcases a4 with ⟨j, b1, b2⟩ | ⟨b1, b2⟩
      · exact Or.inl ⟨j, by omega, b2⟩
      · refine Or.inr ⟨fun j h1 h2 => ?_, b2⟩
        by_cases q : j = i
        · rw [q]; exact c
        · exact b1 j (by omega) h2
/-! the reference's words -/
def off : Nat → Nat
  | 0 => 0
  | w + 1 => off w + (wd w).length + 1
theorem off_d : ∀ w, w < 20 → off w + (wd w).length < 106 ∧ 1 ≤ (wd w).length ∧ (wd w).length ≤ 6 ∧ w3 (off w + (wd w).length) = 32 ∧ ∀ j, j < (wd w).length → w3 (off w + j) = (wd w).getD j 0 + 96 := by decide +kernel
theorem wd_d : ∀ w, w < 20 → ∀ k, k < 6 → (k < (wd w).length → 1 ≤ (wd w).getD k 0 ∧ (wd w).getD k 0 ≤ 26) ∧ ((wd w).length ≤ k → (wd w).getD k 0 = 0) := by decide +kernel
theorem wd_u : ∀ w, w < 20 → ∀ v, v < 20 → wd w = wd v → w = v := by decide +kernel
theorem off_20 : off 20 = 106 := by decide +kernel
def isW (M : St) (p L w : Nat) : Prop := (wd w).length = L ∧ ∀ j, j < L → chr M (p + j) = (wd w).getD j 0 + 96
theorem isW_u {M : St} {p L w v : Nat} (hw : w < 20) (hv : v < 20) (h : isW M p L w) (k : isW M p L v) : w = v := by
  refine wd_u w hw v hv (List.ext_getElem (by rw [h.1, k.1]) (fun i h1 h2 => ?_))
  have a := h.2 i (by rw [← h.1]; exact h1)
  have b := k.2 i (by rw [← k.1]; exact h2)
  rw [List.getD_eq_getElem?_getD, List.getElem?_eq_getElem h1, Option.getD_some] at a
  rw [List.getD_eq_getElem?_getD, List.getElem?_eq_getElem h2, Option.getD_some] at b
  omega
theorem wordM_2 {tk tp M : St} {N w : Nat} (hB : TB tk tp M N) (hw : w < 20) : ∀ (d nf j : Nat), j + d = (wd w).length → d < nf → fX12_wordAt_L2 M (nI (off w)) nf (nI j) = some (nI (wd w).length)
  | 0, nf + 1, j, h, _ => by
    obtain ⟨o1, o2, o3, o4, o5⟩ := off_d w hw
    rw [fX12_wordAt_L2, nI_add, cl (show off w + j < 2 ^ 31 by omega), hB.2.2.2.2.2 _ (by omega), show off w + j = off w + (wd w).length by omega, o4]
    rw [if_neg (kx (by omega) (by decide)), if_pos (show nI 32 = 32 from rfl)]
    congr 2
  | d + 1, nf + 1, j, h, hf => by
    obtain ⟨o1, o2, o3, o4, o5⟩ := off_d w hw
    have a := o5 j (by omega)
    have b := (wd_d w hw j (by omega)).1 (by omega)
    rw [fX12_wordAt_L2, nI_add, cl (show off w + j < 2 ^ 31 by omega), hB.2.2.2.2.2 _ (by omega), a, nI_1, lt_eq]
    rw [if_neg (kx (by omega) (by decide)), if_neg]
    · exact wordM_2 hB hw d nf (j + 1) (by omega) (by omega)
    · intro z
      have := (nI_eq (a := (wd w).getD j 0 + 96) (b := 32) (by omega) (by omega)).mp z
      omega
theorem wordM_30 {M : St} {x o l : Int32} {nf : Nat} {j : Int32} : fX12_wordAt_L3 M x o l (nf + 1) 0 j = some 0 := by
  rw [fX12_wordAt_L3]
  by_cases q : l ≤ j
  · rw [if_pos q]
  · rw [if_neg q, if_pos rfl]
theorem wordM_3 {tk tp M : St} {N p w : Nat} (hB : TB tk tp M N) (hw : w < 20) (hp : p + (wd w).length ≤ N) : ∀ (d nf j : Nat), j + d = (wd w).length → d < nf → ok (fX12_wordAt_L3 M (nI p) (nI (off w)) (nI (wd w).length) nf 1 (nI j)) (fun r => (r = 1 ∧ ∀ i, j ≤ i → i < (wd w).length → chr M (p + i) = (wd w).getD i 0 + 96) ∨ (r = 0 ∧ ∃ i, i < (wd w).length ∧ ¬ chr M (p + i) = (wd w).getD i 0 + 96))
  | 0, nf + 1, j, h, _ => by
    obtain ⟨o1, o2, o3, o4, o5⟩ := off_d w hw
    rw [fX12_wordAt_L3]
    exact ok_t (by rw [nI_leI (by omega) (by omega)]; omega) (ok_some (Or.inl ⟨rfl, fun i h1 h2 => absurd h1 (by omega)⟩))
  | d + 1, nf + 1, j, h, hf => by
    obtain ⟨o1, o2, o3, o4, o5⟩ := off_d w hw
    have hN := hB.1
    have hc := hB.c (q := p + j) (by omega)
    have b := (wd_d w hw j (by omega)).1 (by omega)
    rw [fX12_wordAt_L3, nI_add, nI_add, cl (show off w + j < 2 ^ 31 by omega), cl (show p + j < 2 ^ 31 by omega), hB.2.2.2.2.2 _ (by omega), o5 j (by omega), hc.1, nI_1]
    refine ok_f (by rw [nI_leI (by omega) (by omega)]; omega) (ok_f i10 (ok_f (kx (by omega) (by decide)) (ok_f (kx (by omega) (by decide)) (ok_lt (ok_lt ?_)))))
    by_cases q : chr M (p + j) = (wd w).getD j 0 + 96
    · rw [if_pos (by rw [q])]
      refine ok_mono (wordM_3 hB hw hp d nf (j + 1) (by omega) (by omega)) (fun r hr => ?_)
      rcases hr with ⟨a1, a2⟩ | a
      · refine Or.inl ⟨a1, fun i h1 h2 => ?_⟩
        by_cases z : i = j
        · rw [z]; exact q
        · exact a2 i (by omega) h2
      · exact Or.inr a
    · rw [if_neg (fun z => q ((nI_eq (by omega) (by omega)).mp z).symm)]
      obtain ⟨nf, rfl⟩ : ∃ k, nf = k + 1 := ⟨nf - 1, by omega⟩
      exact ok_eq wordM_30 (Or.inr ⟨rfl, j, by omega, q⟩)
theorem wordM_1 {tk tp M : St} {N p L : Nat} (hB : TB tk tp M N) (hp : p + L ≤ N) : ∀ (d nf w : Nat), w + d = 20 → d < nf → ok (fX12_wordAt_L1 M (nI p) (nI (p + L)) nf (nI w) (nI (off w))) (fun y => (∃ v, w ≤ v ∧ v < 20 ∧ isW M p L v ∧ y = .inr (nI v)) ∨ ((∀ v, w ≤ v → v < 20 → ¬ isW M p L v) ∧ y = .inl ()))
  | 0, nf + 1, w, h, _ => by
    rw [fX12_wordAt_L1, show w = 20 by omega, off_20]
    exact ok_t (by decide) (ok_some (Or.inr ⟨fun v h1 h2 => absurd h1 (by omega), rfl⟩))
  | d + 1, nf + 1, w, h, hf => by
    have hw : w < 20 := by omega
    obtain ⟨o1, o2, o3, o4, o5⟩ := off_d w hw
    have hN := hB.1
    rw [fX12_wordAt_L1]
    refine ok_f (show ¬ nI 106 ≤ nI (off w) by rw [nI_leI (by omega) (by omega)]; omega) (ok_bindx (wordM_2 hB hw (wd w).length fuel 0 (by omega) (by rw [fuel_eq]; omega)) (ok_lt (ok_bind ?_)))
    have el : nI (p + L) - nI p = nI L := by rw [nI_sub (by omega)]; congr 1; omega
    rw [el]
    have nxt : ¬ isW M p L w → ok (lt (nI (off w) + (nI (wd w).length + 1)) fun x21 => lt (nI w + 1) fun x22 => fX12_wordAt_L1 M (nI p) (nI (p + L)) nf x22 x21) (fun y => (∃ v, w ≤ v ∧ v < 20 ∧ isW M p L v ∧ y = .inr (nI v)) ∨ ((∀ v, w ≤ v → v < 20 → ¬ isW M p L v) ∧ y = .inl ())) := by
      intro hn
      rw [nI_1, nI_add, nI_1, show off w + ((wd w).length + 1) = off (w + 1) by rw [off]; omega]
      refine ok_lt (ok_lt (ok_mono (wordM_1 hB hp d nf (w + 1) (by omega) (by omega)) (fun y hy => ?_)))
      rcases hy with ⟨v, a1, a2⟩ | ⟨a1, a2⟩
      · exact Or.inl ⟨v, by omega, a2⟩
      · refine Or.inr ⟨fun v h1 h2 => ?_, a2⟩
        by_cases z : v = w
        · rw [z]; exact hn
        · exact a1 v (by omega) h2
    by_cases q : (wd w).length = L
    · rw [if_pos (by rw [q])]
      refine ok_mono (wordM_3 hB hw (by omega) (wd w).length fuel 0 (by omega) (by rw [fuel_eq]; omega)) (fun r hr => ?_)
      rcases hr with ⟨a1, a2⟩ | ⟨a1, i, a2, a3⟩
      · exact ok_f (by rw [a1]; exact i10) (ok_some (Or.inl ⟨w, Nat.le_refl _, hw, ⟨q, fun j hj => a2 j (by omega) (by omega)⟩, rfl⟩))
      · exact ok_t a1 (nxt (fun z => a3 (z.2 i (by omega))))
    · rw [if_neg (fun z => q ((nI_eq (by omega) (by omega)).mp z))]
      exact ok_eq (a := 0) (wordM_30 (nf := 999)) (ok_t rfl (nxt (fun z => q z.1)))
theorem wordAt_of {tk tp M : St} {N p L : Nat} (hB : TB tk tp M N) (hp : p + L ≤ N) : ok (fX12_wordAt M (nI p) (nI (p + L))) (fun r => (∃ v, v < 20 ∧ isW M p L v ∧ r = nI v) ∨ ((∀ v, v < 20 → ¬ isW M p L v) ∧ r = -1)) := by
  unfold fX12_wordAt
  refine ok_bind (ok_mono (wordM_1 hB hp 20 fuel 0 (by omega) (by rw [fuel_eq]; omega)) (fun y hy => ?_))
  rcases hy with ⟨v, a1, a2, a3, rfl⟩ | ⟨a1, rfl⟩
  · exact ok_some (Or.inl ⟨v, a2, a3, rfl⟩)
  · exact ok_some (Or.inr ⟨fun v hv => a1 v (by omega) hv, rfl⟩)
/-! a name's letters in a number -/
theorem pk6_inj {a b : Nat → Nat} (ha : ∀ k, k < 6 → a k < 32) (hb : ∀ k, k < 6 → b k < 32) (h : pk6 a = pk6 b) : ∀ k, k < 6 → a k = b k := by
  have a0 := ha 0 (by omega)
  have a1 := ha 1 (by omega)
  have a2 := ha 2 (by omega)
  have a3 := ha 3 (by omega)
  have a4 := ha 4 (by omega)
  have a5 := ha 5 (by omega)
  have b0 := hb 0 (by omega)
  have b1 := hb 1 (by omega)
  have b2 := hb 2 (by omega)
  have b3 := hb 3 (by omega)
  have b4 := hb 4 (by omega)
  have b5 := hb 5 (by omega)
  unfold pk6 at h
  have h5 : a 5 = b 5 ∧ (((a 0 * 32 + a 1) * 32 + a 2) * 32 + a 3) * 32 + a 4 = (((b 0 * 32 + b 1) * 32 + b 2) * 32 + b 3) * 32 + b 4 := by omega
  have h4 : a 4 = b 4 ∧ ((a 0 * 32 + a 1) * 32 + a 2) * 32 + a 3 = ((b 0 * 32 + b 1) * 32 + b 2) * 32 + b 3 := by have := h5.2; omega
  have h3 : a 3 = b 3 ∧ (a 0 * 32 + a 1) * 32 + a 2 = (b 0 * 32 + b 1) * 32 + b 2 := by have := h4.2; omega
  have h2 : a 2 = b 2 ∧ a 0 * 32 + a 1 = b 0 * 32 + b 1 := by have := h3.2; omega
  have h1 : a 1 = b 1 ∧ a 0 = b 0 := by have := h2.2; omega
  exact j6 h1.2 h1.1 h2.1 h3.1 h4.1 h5.1
theorem pk6_cong {a b : Nat → Nat} (h : ∀ k, k < 6 → a k = b k) : pk6 a = pk6 b := by
  unfold pk6
  rw [h 0 (by omega), h 1 (by omega), h 2 (by omega), h 3 (by omega), h 4 (by omega), h 5 (by omega)]
theorem pk6_lt {a : Nat → Nat} (ha : ∀ k, k < 6 → a k < 32) : pk6 a < 2 ^ 30 := by
  have a0 := ha 0 (by omega)
  have a1 := ha 1 (by omega)
  have a2 := ha 2 (by omega)
  have a3 := ha 3 (by omega)
  have a4 := ha 4 (by omega)
  have a5 := ha 5 (by omega)
  unfold pk6
  omega
theorem cut_lt {M : St} {p L : Nat} (hl : ∀ j, j < L → isL M (p + j)) : ∀ k, k < 6 → cut (lx M p) L k < 32 := by
  intro k _
  unfold cut lx
  by_cases q : k < L
  · have := hl k q
    unfold isL at this
    rw [if_pos q]; omega
  · rw [if_neg q]; omega
theorem wd_lt {w : Nat} (hw : w < 20) : ∀ k, k < 6 → (wd w).getD k 0 < 32 := by
  intro k hk
  have := wd_d w hw k hk
  by_cases q : k < (wd w).length
  · have := (this.1 q).2; omega
  · rw [this.2 (by omega)]; omega
/-- the number is a word's just where the letters are -/
theorem code_iff {M : St} {p L w : Nat} (hw : w < 20) (hL : L ≤ 6) (hl : ∀ j, j < L → isL M (p + j)) : nI (pk6 (fun k => (wd w).getD k 0)) = nI (pk6 (cut (lx M p) L)) ↔ isW M p L w := by
  obtain ⟨o1, o2, o3, o4, o5⟩ := off_d w hw
  have l1 := pk6_lt (wd_lt hw)
  have l2 := pk6_lt (cut_lt hl)
  constructor
  · intro h
    have e := pk6_inj (wd_lt hw) (cut_lt hl) (nI_inj (by omega) (by omega) h)
    have pos : ∀ k, k < 6 → (k < (wd w).length ↔ k < L) := by
      intro k hk
      have a := e k hk
      have b := wd_d w hw k hk
      unfold cut lx at a
      constructor
      · intro z
        have := (b.1 z).1
        by_cases q : k < L
        · exact q
        · rw [if_neg q] at a; omega
      · intro z
        have c := hl k z
        unfold isL at c
        rw [if_pos z] at a
        by_cases q : k < (wd w).length
        · exact q
        · have := b.2 (by omega); omega
    have len : (wd w).length = L := by
      rcases Nat.lt_trichotomy (wd w).length L with q | q | q
      · have := (pos (wd w).length (by omega)).mpr q; omega
      · exact q
      · have := (pos L (by omega)).mp q; omega
    refine ⟨len, fun j hj => ?_⟩
    have a := e j (by omega)
    have c := hl j hj
    unfold isL at c
    unfold cut lx at a
    rw [if_pos hj] at a
    omega
  · intro ⟨h1, h2⟩
    have e : ∀ k, k < 6 → (wd w).getD k 0 = cut (lx M p) L k := by
      intro k hk
      unfold cut lx
      by_cases q : k < L
      · rw [if_pos q, h2 k q]; omega
      · rw [if_neg q]; exact (wd_d w hw k hk).2 (by omega)
    rw [pk6_cong (a := fun k => (wd w).getD k 0) (b := cut (lx M p) L) e]
theorem shl5 {n y : Nat} (hn : n < 2 ^ 25) (hy : y < 32) : (nI n <<< ((5 : Int32) &&& 31)) ||| nI y = nI (n * 32 + y) := by
  apply Int32.toBitVec_inj.mp
  rw [Int32.toBitVec_or]
  have e : (nI n <<< ((5 : Int32) &&& 31)).toBitVec = (BitVec.ofNat 32 n) <<< 5 := by
    show (BitVec.ofNat 32 n) <<< (BitVec.smod (Int32.toBitVec ((5 : Int32) &&& 31)) 32) = _
    rw [show BitVec.smod (Int32.toBitVec ((5 : Int32) &&& 31)) 32 = 5#32 from by decide]
    rfl
  rw [e]
  apply BitVec.eq_of_toNat_eq
  show ((BitVec.ofNat 32 n) <<< 5 ||| BitVec.ofNat 32 y).toNat = (BitVec.ofNat 32 (n * 32 + y)).toNat
  rw [BitVec.toNat_or, BitVec.toNat_shiftLeft, BitVec.toNat_ofNat, BitVec.toNat_ofNat, BitVec.toNat_ofNat, Nat.mod_eq_of_lt (show n < 2 ^ 32 by omega), Nat.mod_eq_of_lt (show y < 2 ^ 32 by omega), Nat.mod_eq_of_lt (show n * 32 + y < 2 ^ 32 by omega)]
  rw [Nat.shiftLeft_eq, Nat.mod_eq_of_lt (show n * 2 ^ 5 < 2 ^ 32 by omega), ← Nat.shiftLeft_eq, ← Nat.shiftLeft_add_eq_or_of_lt (by omega), Nat.shiftLeft_eq]
def pd (y : Nat → Nat) : Nat → Nat
  | 0 => 0
  | k + 1 => pd y k * 32 + y k
theorem pd_6 (y : Nat → Nat) : pd y 6 = pk6 y := by
  unfold pk6
  simp [pd]
theorem pd_lt {y : Nat → Nat} (h : ∀ k, k < 6 → y k < 32) : ∀ k, k ≤ 6 → pd y k < 32 ^ k
  | 0, _ => by simp [pd]
  | k + 1, hk => by
    have a := pd_lt h k (by omega)
    have b := h k (by omega)
    rw [pd, Nat.pow_succ]
    omega
theorem packed_L {tk tq M : St} {N p L : Nat} (hB : TB tk tq M N) (hp : p + L ≤ N) (hL : L ≤ 6) (hl : ∀ j, j < L → isL M (p + j)) : ∀ (d nf k : Nat), k + d = 6 → d < nf → fX12_packed_L1 M (nI p) (nI (p + L)) nf (nI (pd (cut (lx M p) L) k)) (nI (p + k)) = some (nI (pk6 (cut (lx M p) L)))
  | 0, nf + 1, k, h, _ => by
    have hN := hB.1
    rw [fX12_packed_L1, show k = 6 by omega, pd_6]
    exact tp (by rw [show (6 : Int32) = nI 6 from rfl, nI_add, nI_leI (by omega) (by omega)]; omega) rfl
  | d + 1, nf + 1, k, h, hf => by
    have hN := hB.1
    have l1 := pd_lt (cut_lt hl) k (by omega)
    have l2 := cut_lt hl k (by omega)
    have l3 : 32 ^ k ≤ 2 ^ 25 := by
      rw [show (32 : Nat) = 2 ^ 5 from rfl, ← Nat.pow_mul]
      exact Nat.pow_le_pow_right (by decide) (by omega)
    rw [fX12_packed_L1, cl (show p + k < 2 ^ 31 by omega)]
    refine fn (by rw [show (6 : Int32) = nI 6 from rfl, nI_add, nI_leI (by omega) (by omega)]; omega) (lt_c ?_)
    have nxt : ∀ x : Int32, x = nI (cut (lx M p) L k) → (lt ((nI (pd (cut (lx M p) L) k) <<< ((5 : Int32) &&& 31)) ||| x) fun x6 => lt (nI (p + k) + 1) fun x7 => fX12_packed_L1 M (nI p) (nI (p + L)) nf x6 x7) = some (nI (pk6 (cut (lx M p) L))) := by
      intro x hx
      rw [hx, shl5 (by omega) l2, nI_1, lt_eq, lt_eq]
      exact packed_L hB hp hL hl d nf (k + 1) (by omega) (by omega)
    by_cases q : L ≤ k
    · refine tp (by rw [nI_leI (by omega) (by omega)]; omega) (nxt 0 ?_)
      unfold cut
      rw [if_neg (by omega)]; rfl
    · have hc := hB.c (q := p + k) (by omega)
      have z := hl k (by omega)
      unfold isL at z
      refine fn (by rw [nI_leI (by omega) (by omega)]; omega) (fn (kx (by omega) (by decide)) (nxt _ ?_))
      unfold cut lx
      rw [if_pos (by omega), hc.1, show (96 : Int32) = nI 96 from rfl, nI_sub (by omega)]
theorem packed_eq {tk tq M : St} {N p L : Nat} (hB : TB tk tq M N) (hp : p + L ≤ N) (hL : L ≤ 6) (hl : ∀ j, j < L → isL M (p + j)) : fX12_packed M (nI p) (nI (p + L)) = some (nI (pk6 (cut (lx M p) L))) := by
  unfold fX12_packed
  exact bd_c (packed_L hB hp hL hl 6 fuel 0 (by omega) (by rw [fuel_eq]; omega)) rfl
