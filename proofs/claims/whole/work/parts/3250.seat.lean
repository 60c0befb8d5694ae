/-! where a guest sits -/
theorem seat_c {u : St} {f : Nat → Nat} {g s : Nat} (hf : ∀ k, k < 6 → gA u 12 k = nI (f k)) (hb : ∀ k, k < 6 → f k < 2 ^ 31) (hg : g < 2 ^ 31) (hs : s < 6) (hfs : f s = g) : ∀ (d nf i : Nat), i + d = s → d < nf → (∀ k, i ≤ k → k < s → f k ≠ g) → fX1_seatOf_L1 u (nI g) nf (nI i) = some (.inr (nI s))
  | 0, nf + 1, i, h, _, _ => by
    have hi : i = s := by omega
    subst hi
    rw [fX1_seatOf_L1, cl (show i < 2 ^ 31 by omega), hf i hs, hfs]
    exact fn (show ¬ nI 6 ≤ nI i by rw [nI_leI (by omega) (by omega)]; omega) (fn (kx hs (by decide)) (tp rfl rfl))
  | d + 1, nf + 1, i, h, hn, hd => by
    rw [fX1_seatOf_L1, cl (show i < 2 ^ 31 by omega), hf i (by omega)]
    refine fn (show ¬ nI 6 ≤ nI i by rw [nI_leI (by omega) (by omega)]; omega) (fn (kx (by omega) (by decide)) (fn (fun q => hd i (Nat.le_refl _) (by omega) (nI_inj (hb i (by omega)) hg q)) (lt_c ?_)))
    rw [nI_1]
    exact seat_c hf hb hg hs hfs d nf (i + 1) (by omega) (by omega) (fun k h1 h2 => hd k (by omega) h2)
theorem seat_m {M : St} {f : Nat → Nat} {g s : Nat} (hf : ∀ k, k < 6 → gA M 60 k = nI (f k)) (hb : ∀ k, k < 6 → f k < 2 ^ 31) (hg : g < 2 ^ 31) (hs : s < 6) (hfs : f s = g) : ∀ (d nf i : Nat), i + d = s → d < nf → (∀ k, i ≤ k → k < s → f k ≠ g) → fX12_seatOf_L1 M (nI g) nf (nI i) = some (nI s)
  | 0, nf + 1, i, h, _, _ => by
    have hi : i = s := by omega
    subst hi
    rw [fX12_seatOf_L1, cl (show i < 2 ^ 31 by omega), hf i hs, hfs]
    exact fn (kx (by omega) (by decide)) (tp rfl rfl)
  | d + 1, nf + 1, i, h, hn, hd => by
    rw [fX12_seatOf_L1, cl (show i < 2 ^ 31 by omega), hf i (by omega)]
    refine fn (kx (by omega) (by decide)) (fn (fun q => hd i (Nat.le_refl _) (by omega) (nI_inj (hb i (by omega)) hg q)) (lt_c ?_))
    rw [nI_1]
    exact seat_m hf hb hg hs hfs d nf (i + 1) (by omega) (by omega) (fun k h1 h2 => hd k (by omega) h2)
theorem seatOf_of {u M : St} {na ng nr g : Nat} (hH : HR u M 0 na ng nr) (hg : g < ng) : ∃ s, s < ng ∧ gA u 12 s = nI g ∧ gA M 60 s = nI g ∧ fX1_seatOf u (nI g) = some (nI s) ∧ fX12_seatOf M (nI g) = some (nI s) := by
  have h6 : ng ≤ 6 := hH.2.2.1.2.1
  obtain ⟨f, s1, s2, s3, s4, s5⟩ := hH.2.2.2.2.1
  obtain ⟨s, hs, hfs⟩ := s5 g hg
  have hM : ∀ k, k < 6 → gA M 60 k = nI (f k) := fun k hk => by
    have := s1 k hk
    rw [Nat.mul_zero, Nat.zero_add] at this
    exact this
  have hu : ∀ k, k < 6 → gA u 12 k = nI (f k) := fun k hk => by
    have := hH.2.1.2.2.2 k hk
    rw [Nat.mul_zero, Nat.zero_add] at this
    rw [this]; exact hM k hk
  have hb : ∀ k, k < 6 → f k < 2 ^ 31 := fun k hk => by
    by_cases c : k < ng
    · have := s2 k c; omega
    · have := s3 k (by omega) hk; omega
  have hd : ∀ k, 0 ≤ k → k < s → f k ≠ g := fun k _ hk q => by
    have := s4 k s (by omega) (by omega) (q.trans hfs.symm)
    omega
  refine ⟨s, hs, by rw [hu s (by omega), hfs], by rw [hM s (by omega), hfs], ?_, ?_⟩
  · unfold fX1_seatOf
    exact bd_c (seat_c hu hb (by omega) (by omega) hfs s fuel 0 (by omega) (by rw [fuel_eq]; omega) hd) rfl
  · unfold fX12_seatOf
    exact bd_c (seat_m hM hb (by omega) (by omega) hfs s fuel 0 (by omega) (by rw [fuel_eq]; omega) hd) rfl
