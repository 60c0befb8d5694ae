/-! numbers -/
def NV (a b : Int32) : Prop := ∃ v w : Nat, a = nI v ∧ b = nI w ∧ v ≤ 1000000 ∧ w ≤ 1000000 ∧ (v ≤ 99999 ∨ w ≤ 99999 → v = w)
theorem num_of {tp : St} {N : Nat} : ∀ (d nf nf2 q v w : Nat) (tk M : St), q + d = N → d < nf → d < nf2 → TB tk tp M N → gI tk 3 = nI q → gI M 7 = nI q → gI tk 5 = nI v → gI M 9 = nI w → v ≤ 1000000 → w ≤ 1000000 → (v ≤ 99999 ∨ w ≤ 99999 → v = w) → ok (fX10_takeNumber_L1 tp 700 nf tk) (fun tk' => ok (fX12_token_L2 nf2 M) (fun M' => fI tP tk tk' ∧ fI mP M M' ∧ gI tk' 4 = gI tk 4 ∧ gI tk' 6 = gI tk 6 ∧ gI M' 8 = gI M 8 ∧ gI M' 10 = gI M 10 ∧ NV (gI tk' 5) (gI M' 9) ∧ ∃ p, q ≤ p ∧ (q < N → 48 ≤ chr M q → chr M q ≤ 57 → q < p) ∧ p ≤ N ∧ gI tk' 3 = nI p ∧ gI M' 7 = nI p))
  | 0, nf + 1, nf2 + 1, q, v, w, tk, M, h, _, _, hB, h3, h7, h5, h9, hv, hw, hvw => by
    have hN := hB.1
    rw [fX10_takeNumber_L1, fX12_token_L2, h7, dig_e hB (by omega) (by omega), hB.2.1, h3]
    have c : nI N ≤ nI q := by rw [nI_leI (by omega) (by omega)]; omega
    exact ok_t c (ok_some (ok_bind (ok_some (ok_t rfl (ok_some ⟨fI.rf, fI.rf, rfl, rfl, rfl, rfl, ⟨v, w, h5, h9, hv, hw, hvw⟩, q, Nat.le_refl _, fun z => absurd z (by omega), by omega, h3, h7⟩)))))
  | d + 1, nf + 1, nf2 + 1, q, v, w, tk, M, h, g1, g2, hB, h3, h7, h5, h9, hv, hw, hvw => by
    have hN := hB.1
    have hq : q < N := by omega
    have hc := hB.c hq
    have c : ¬ nI N ≤ nI q := by rw [nI_leI (by omega) (by omega)]; omega
    have c7 : ¬ (nI q < 0 ∨ 700 ≤ q) := kx (by omega) (by decide)
    rw [fX10_takeNumber_L1, fX12_token_L2, h7, dig_m hB hq, peek_lt hB h3 hq, hB.2.1, h3, h5, h9, cl (show q < 2 ^ 31 by omega), hc.1]
    refine ok_f c (ok_bind (ok_some ?_))
    by_cases dg : 48 ≤ chr M q ∧ chr M q ≤ 57
    · rw [if_pos dg]
      refine ok_f (fun z => (dig_c hc.2).mp z dg) (ok_bind (ok_some (ok_lt (ok_lt (ok_lt (ok_lt ?_))))))
      have e1 : (nI v * (10 : Int32) + nI (chr M q)) - 48 = nI (v * 10 + (chr M q - 48)) := by
        rw [show (10 : Int32) = nI 10 from rfl, nI_mul, nI_add, show (48 : Int32) = nI 48 from rfl, nI_sub (by omega)]
        congr 1; omega
      have e2 : ((10 : Int32) * nI w + nI (chr M q)) - 48 = nI (w * 10 + (chr M q - 48)) := by
        rw [show (10 : Int32) = nI 10 from rfl, nI_mul, nI_add, show (48 : Int32) = nI 48 from rfl, nI_sub (by omega)]
        congr 1; omega
      have e3 : ∀ x : Int32, gI (sI tk 5 x) 3 + 1 = nI (q + 1) := fun x => by
        show gI tk 3 + 1 = _
        rw [h3, nI_1]
      rw [e1, e3]
      have e4 : (if (1000000 : Int32) < nI (v * 10 + (chr M q - 48)) then (1000000 : Int32) else nI (v * 10 + (chr M q - 48))) = nI (min (v * 10 + (chr M q - 48)) 1000000) := by
        show (if nI 1000000 < nI (v * 10 + (chr M q - 48)) then (1000000 : Int32) else nI (v * 10 + (chr M q - 48))) = _
        by_cases z : 1000000 < v * 10 + (chr M q - 48)
        · rw [if_pos ((nI_ltI (by omega) (by omega)).mpr z), Nat.min_eq_right (by omega)]; rfl
        · rw [if_neg (fun y => z ((nI_ltI (by omega) (by omega)).mp y)), Nat.min_eq_left (by omega)]
      rw [e4]
      have step : ∀ w2 : Nat, w2 ≤ 1000000 → (min (v * 10 + (chr M q - 48)) 1000000 ≤ 99999 ∨ w2 ≤ 99999 → min (v * 10 + (chr M q - 48)) 1000000 = w2) → ok (fX10_takeNumber_L1 tp 700 nf (sI (sI tk 5 (nI (min (v * 10 + (chr M q - 48)) 1000000))) 3 (nI (q + 1)))) (fun tk' => ok (lt (sI M 9 (nI w2)) fun u27 => lt (gI u27 7 + 1) fun x28 => lt (sI u27 7 x28) fun u29 => fX12_token_L2 nf2 u29) (fun M' => fI tP tk tk' ∧ fI mP M M' ∧ gI tk' 4 = gI tk 4 ∧ gI tk' 6 = gI tk 6 ∧ gI M' 8 = gI M 8 ∧ gI M' 10 = gI M 10 ∧ NV (gI tk' 5) (gI M' 9) ∧ ∃ p, q ≤ p ∧ (q < N → 48 ≤ chr M q → chr M q ≤ 57 → q < p) ∧ p ≤ N ∧ gI tk' 3 = nI p ∧ gI M' 7 = nI p)) := by
        intro w2 h1 h2
        have k1 : fI tP tk (sI (sI tk 5 (nI (min (v * 10 + (chr M q - 48)) 1000000))) 3 (nI (q + 1))) := (fI.w tP5).tr (fI.w tP3)
        have k2 : fI mP M (sI (sI M 9 (nI w2)) 7 (nI (q + 1))) := (fI.w mP9).tr (fI.w mP7)
        refine ok_mono (num_of d nf nf2 (q + 1) (min (v * 10 + (chr M q - 48)) 1000000) w2 _ (sI (sI M 9 (nI w2)) 7 (nI (q + 1))) (by omega) (by omega) (by omega) (hB.fr k1 k2) rfl rfl rfl rfl (Nat.min_le_right _ _) h1 h2) (fun tk' ht => ok_lt ?_)
        have e7 : gI (sI M 9 (nI w2)) 7 + 1 = nI (q + 1) := by
          show gI M 7 + 1 = _
          rw [h7, nI_1]
        rw [e7]
        refine ok_lt (ok_lt (ok_mono ht (fun M' hM => ?_)))
        obtain ⟨a1, a2, a3, a4, a5, a6, a7, p, b1, b2, b3, b4, b5⟩ := hM
        exact ⟨k1.tr a1, k2.tr a2, a3, a4, a5, a6, a7, p, by omega, fun _ _ _ => by omega, b3, b4, b5⟩
      by_cases big : w ≤ 99999
      · have ev : v = w := hvw (Or.inr big)
        refine ok_mono (step (w * 10 + (chr M q - 48)) (by omega) (by rw [ev]; intro _; omega)) (fun tk' ht => ok_bind (ok_some (ok_f i10 (ok_lt (ok_t ?_ (ok_f c7 ?_))))))
        · exact (nI_leI (a := w) (b := 99999) (by omega) (by omega)).mpr big
        · rw [e2]; exact ht
      · have nv : ¬ v ≤ 99999 := fun z => big (by have := hvw (Or.inl z); omega)
        refine ok_mono (step w hw (by intro z; omega)) (fun tk' ht => ok_bind (ok_some (ok_f i10 (ok_lt (ok_f ?_ ht)))))
        exact fun z => big ((nI_leI (a := w) (b := 99999) (by omega) (by omega)).mp z)
    · rw [if_neg dg]
      refine ok_t ((dig_c hc.2).mpr dg) (ok_some (ok_bind (ok_some (ok_t rfl (ok_some ⟨fI.rf, fI.rf, rfl, rfl, rfl, rfl, ⟨v, w, h5, h9, hv, hw, hvw⟩, q, Nat.le_refl _, fun _ z1 z2 => absurd ⟨z1, z2⟩ dg, by omega, h3, h7⟩)))))
