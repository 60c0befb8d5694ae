/-! what is known -/
theorem kb_of {nt M : St} (h : NR nt M) : ∃ kb, kb ≤ 24 ∧ fX3_counted nt = nI kb ∧ fX12_knownBy M = nI kb ∧ ∀ i, i < kb → ntP nt M i := by
  obtain ⟨k, hk, a, b, c, d, e⟩ := h
  unfold fX3_counted fX12_knownBy
  simp only [lt_eq]
  rw [a, b, c]
  rcases d with d | ⟨j, hj, d⟩
  · rw [d, if_pos rfl, if_neg (by decide)]
    exact ⟨k, hk, rfl, rfl, e⟩
  · rw [d, if_neg (nI_nn (by omega)), if_pos (nI_pos' (by omega))]
    exact ⟨j, by omega, rfl, rfl, fun i hi => e i (by omega)⟩
def WR (nt M : St) (kb : Nat) : Prop := ∀ i, i < kb → (gA nt 4 i = 0 ∧ gA M 78 i = 1) ∨ (gA nt 4 i = 1 ∧ gA M 78 i = 0)
/-- only row 4 of the notes -/
def f4 (u u' : St) : Prop := u'.1 = u.1 ∧ ∀ r, r ≠ 4 → gA u' r = gA u r
def f78 (M M' : St) : Prop := M'.1 = M.1 ∧ M'.2.1 = M.2.1 ∧ ∀ r, r ≠ 78 → gA M' r = gA M r
theorem f4.tr {a b c : St} (h : f4 a b) (k : f4 b c) : f4 a c := ⟨k.1.trans h.1, fun r q => (k.2 r q).trans (h.2 r q)⟩
theorem f78.tr {a b c : St} (h : f78 a b) (k : f78 b c) : f78 a c := ⟨k.1.trans h.1, k.2.1.trans h.2.1, fun r q => (k.2.2 r q).trans (h.2.2 r q)⟩
theorem f4.w {u : St} {i : Nat} {v : Int32} : f4 u (sA u 4 i v) := ⟨rfl, fun r q => gA_sAr _ _ _ q⟩
theorem f78.w {u : St} {i : Nat} {v : Int32} : f78 u (sA u 78 i v) := ⟨rfl, rfl, fun r q => gA_sAr _ _ _ q⟩
theorem weigh1 : ∀ (d nf i : Nat) (u : St), i + d = 24 → d < nf → ok (fX3_weigh_L1 nf (nI i) u) (fun u' => f4 u u' ∧ (∀ j, j < i → gA u' 4 j = gA u 4 j) ∧ ∀ j, i ≤ j → j < 24 → gA u' 4 j = 0)
  | 0, nf + 1, i, u, h, _ => by
    rw [fX3_weigh_L1]
    exact ok_t (show nI 24 ≤ nI i by rw [nI_leI (by omega) (by omega)]; omega) (ok_some ⟨⟨rfl, fun _ _ => rfl⟩, fun _ _ => rfl, fun j h1 h2 => absurd h1 (by omega)⟩)
  | d + 1, nf + 1, i, u, h, hf => by
    rw [fX3_weigh_L1, cl (show i < 2 ^ 31 by omega)]
    refine ok_f (show ¬ nI 24 ≤ nI i by rw [nI_leI (by omega) (by omega)]; omega) (ok_f (kx (by omega) (by decide)) (ok_lt (ok_lt ?_)))
    rw [nI_1]
    refine ok_mono (weigh1 d nf (i + 1) _ (by omega) (by omega)) (fun u' hu => ?_)
    obtain ⟨a, b, c⟩ := hu
    refine ⟨f4.w.tr a, fun j hj => by rw [b j (by omega), gA_idx _ _ _ _ (by omega)], fun j h1 h2 => ?_⟩
    by_cases q : j = i
    · subst q; rw [b j (by omega), gA_same]; decide
    · exact c j (by omega) h2
theorem bits1 {kb : Nat} (hk : kb ≤ 24) : ∀ (d nf i : Nat) (M : St), i + d = kb → d < nf → fX12_knownBy M = nI kb → ok (fX12_moodBits_L1 nf (nI i) M) (fun M' => f78 M M' ∧ (∀ j, j < i → gA M' 78 j = gA M 78 j) ∧ ∀ j, i ≤ j → j < kb → gA M' 78 j = 1)
  | 0, nf + 1, i, M, h, _, hb => by
    rw [fX12_moodBits_L1, hb]
    exact ok_t (by rw [nI_leI (by omega) (by omega)]; omega) (ok_some ⟨⟨rfl, rfl, fun _ _ => rfl⟩, fun _ _ => rfl, fun j h1 h2 => absurd h1 (by omega)⟩)
  | d + 1, nf + 1, i, M, h, hf, hb => by
    rw [fX12_moodBits_L1, hb, cl (show i < 2 ^ 31 by omega)]
    refine ok_f (by rw [nI_leI (by omega) (by omega)]; omega) (ok_f (kx (by omega) (by decide)) (ok_lt (ok_lt ?_)))
    rw [nI_1]
    refine ok_mono (bits1 hk d nf (i + 1) _ (by omega) (by omega) hb) (fun u' hu => ?_)
    obtain ⟨a, b, c⟩ := hu
    refine ⟨f78.w.tr a, fun j hj => by rw [b j (by omega), gA_idx _ _ _ _ (by omega)], fun j h1 h2 => ?_⟩
    by_cases q : j = i
    · subst q; rw [b j (by omega), gA_same]; decide
    · exact c j (by omega) h2
theorem m1_pred (j : Nat) : nI j + (-1) = nI j - 1 := (Int32.sub_eq_add_neg _ _).symm
theorem weigh2 {kb : Nat} (hk : kb ≤ 24) : ∀ (j nf nf2 : Nat) (u M : St), j ≤ kb → j < nf → j < nf2 → WR u M kb → (∀ i, i < kb → ntP u M i) → ok (fX3_weigh_L2 nf (nI j - 1) u) (fun u' => ok (fX12_moodBits_L2 nf2 (nI j - 1) M) (fun M' => WR u' M' kb ∧ f4 u u' ∧ f78 M M'))
  | 0, nf + 1, nf2 + 1, u, M, _, _, _, hW, hP => by
    rw [fX3_weigh_L2, fX12_moodBits_L2]
    exact ok_t (by decide) (ok_some (ok_t (by decide) (ok_some ⟨hW, ⟨rfl, fun _ _ => rfl⟩, ⟨rfl, rfl, fun _ _ => rfl⟩⟩)))
  | j + 1, nf + 1, nf2 + 1, u, M, hj, h1, h2, hW, hP => by
    rw [fX3_weigh_L2, fX12_moodBits_L2, nI_sub1, m1_pred]
    have e3 : (3 : Int32) * nI j = nI (3 * j) := by rw [show (3 : Int32) = nI 3 from rfl, nI_mul]
    have e31 : nI (3 * j) + 1 = nI (3 * j + 1) := nI_1 _
    rw [e3, e31, cl (show j < 2 ^ 31 by omega), cl (show 3 * j < 2 ^ 31 by omega), cl (show 3 * j + 1 < 2 ^ 31 by omega)]
    have c0 : ¬ nI j < 0 := nI_pos (by omega)
    have c1 : ¬ (nI j < 0 ∨ 24 ≤ j) := kx (by omega) (by decide)
    have c2 : ¬ (nI (3 * j) < 0 ∨ 72 ≤ 3 * j) := kx (by omega) (by decide)
    have c3 : ¬ (nI (3 * j + 1) < 0 ∨ 72 ≤ 3 * j + 1) := kx (by omega) (by decide)
    refine ok_f c0 (ok_f c1 (ok_lt ?_))
    have step : ∀ (u1 M1 : St), WR u1 M1 kb → f4 u u1 → f78 M M1 → ok (lt (nI j - 1) fun x15 => fX3_weigh_L2 nf x15 u1) (fun u' => ok (lt (nI j - 1) fun x15 => fX12_moodBits_L2 nf2 x15 M1) (fun M' => WR u' M' kb ∧ f4 u u' ∧ f78 M M')) := by
      intro u1 M1 w1 k1 k2
      refine ok_lt (ok_mono (weigh2 hk j nf nf2 u1 M1 (by omega) (by omega) (by omega) w1 (fun i hi => ?_)) (fun u' hu => ok_lt (ok_mono hu (fun M' hM => ⟨hM.1, k1.tr hM.2.1, k2.tr hM.2.2⟩))))
      have := hP i hi
      unfold ntP at this ⊢
      rw [k1.2 0 (by decide), k1.2 1 (by decide), k1.2 2 (by decide), k1.2 3 (by decide), k2.2.2 77 (by decide)]
      exact this
    have skip : ok (lt (nI j - 1) fun x15 => fX3_weigh_L2 nf x15 u) (fun u' => ok (lt (nI j - 1) fun x15 => fX12_moodBits_L2 nf2 x15 M) (fun M' => WR u' M' kb ∧ f4 u u' ∧ f78 M M')) := step u M hW ⟨rfl, fun _ _ => rfl⟩ ⟨rfl, rfl, fun _ _ => rfl⟩
    rcases hW j (by omega) with ⟨w1, w2⟩ | ⟨w1, w2⟩
    · refine ok_t w1 (ok_f c1 ?_)
      rcases hP j (by omega) with ⟨p1, p2, p3, p4, ⟨m, m1, m2, p5⟩, p6⟩ | ⟨p1, p2, k, hk1, p3⟩
      · refine ok_t p1 (ok_mono skip (fun u' hu => ok_f c0 (ok_f c1 (ok_lt (ok_f (by rw [w2]; exact i10) (ok_f c2 (ok_t (by rw [p5]; exact nI_pos' (by omega)) hu)))))))
      · have e4 : gA u 3 j = nI k := p2.trans p3
        rw [e4, cl (show k < 2 ^ 31 by omega)]
        have c4 : ¬ (nI k < 0 ∨ 24 ≤ k) := kx (by omega) (by decide)
        refine ok_f (nI_nn (by omega)) (ok_f c1 (ok_f c4 (ok_lt (ok_mono (step _ (sA M 78 k (bz 0)) ?_ f4.w f78.w) (fun u' hu => ok_f c0 (ok_f c1 (ok_lt (ok_f (by rw [w2]; exact i10) (ok_f c2 (ok_f (by rw [p1]; decide) (ok_f c3 ?_)))))))))))
        · intro i hi
          rw [gA_sA, gA_sA]
          by_cases q : i = k
          · rw [if_pos ⟨rfl, q⟩, if_pos ⟨rfl, q⟩]
            exact Or.inr ⟨by decide, by decide⟩
          · rw [if_neg (fun z => q z.2), if_neg (fun z => q z.2)]
            exact hW i hi
        · rw [p3, cl (show k < 2 ^ 31 by omega)]
          exact ok_f c4 (ok_lt hu)
    · refine ok_f (by rw [w1]; exact i10) (ok_mono skip (fun u' hu => ok_f c0 (ok_f c1 (ok_lt (ok_t w2 hu)))))
theorem f78.kb {M M' : St} (h : f78 M M') : fX12_knownBy M' = fX12_knownBy M := by
  unfold fX12_knownBy gI
  rw [h.1]
theorem f4.kb {M M' : St} (h : f4 M M') : fX3_counted M' = fX3_counted M := by
  unfold fX3_counted gI
  rw [h.1]
theorem ntP.fr {u u' M M' : St} {i : Nat} (h : ntP u M i) (k1 : ∀ r, r < 4 → gA u' r = gA u r) (k2 : gA M' 77 = gA M 77) : ntP u' M' i := by
  unfold ntP at h ⊢
  rw [k1 0 (by decide), k1 1 (by decide), k1 2 (by decide), k1 3 (by decide), k2]
  exact h
/-- notes are weighed, on both sides -/
theorem weigh_of {nt M : St} {kb : Nat} (hk : kb ≤ 24) (h1 : fX3_counted nt = nI kb) (h2 : fX12_knownBy M = nI kb) (hP : ∀ i, i < kb → ntP nt M i) : ok (fX3_weigh nt) (fun u => f4 nt u ∧ ok (fX12_moodBits_L1 fuel 0 M) (fun y7 => ok (fX12_moodBits_L2 fuel (fX12_knownBy y7 - 1) y7) (fun M' => f78 M M' ∧ WR u M' kb))) := by
  unfold fX3_weigh
  obtain ⟨u1, e1, a1, a2, a3⟩ := weigh1 24 fuel 0 nt (by omega) (by rw [fuel_eq]; omega)
  obtain ⟨M1, e2, b1, b2, b3⟩ := bits1 hk kb fuel 0 M (by omega) (by rw [fuel_eq]; omega) h2
  have w : WR u1 M1 kb := fun i hi => Or.inl ⟨a3 i (by omega) (by omega), b3 i (by omega) hi⟩
  refine ok_bindx e1 (ok_lt ?_)
  rw [a1.kb, h1]
  refine ok_bind (ok_mono (weigh2 hk kb fuel fuel u1 M1 (Nat.le_refl _) (by rw [fuel_eq]; omega) (by rw [fuel_eq]; omega) w (fun i hi => (hP i hi).fr (fun r hr => a1.2 r (by omega)) (b1.2.2 77 (by decide)))) (fun u hu => ok_some ?_))
  obtain ⟨M2, e3, c1, c2, c3⟩ := hu
  refine ⟨a1.tr c2, ok_eq e2 ?_⟩
  rw [b1.kb, h2]
  exact ok_eq e3 ⟨b1.tr c3, c1⟩
/-- a note agrees with what is ground -/
def gd (nt fut : St) (b j : Nat) : Prop := gA nt 3 j = -1 → gA nt 4 j = 0 → (if gA fut 0 (b + (gA nt 0 j).toNatClampNeg - 1) < gA nt 1 j then (0 : Int32) else 1) = gA nt 2 j
theorem agree_L {nt fut M : St} {kb m : Nat} (hk : kb ≤ 24) (hm : m < 10) (h1 : fX3_counted nt = nI kb) (hP : ∀ i, i < kb → ntP nt M i) (hW : WR nt M kb) : ∀ (d nf i : Nat), i + d = kb → d < nf → ok (fX3_agree_L1 nt fut 600 (nI (m * 60)) nf (nI i)) (fun y => (y = .inl () ∧ ∀ j, i ≤ j → j < kb → gd nt fut (m * 60) j) ∨ (y = .inr 0 ∧ ∃ j, j < kb ∧ ¬ gd nt fut (m * 60) j))
  | 0, nf + 1, i, h, _ => by
    rw [fX3_agree_L1, h1]
    exact ok_t (by rw [nI_leI (by omega) (by omega)]; omega) (ok_some (Or.inl ⟨rfl, fun j a b => absurd a (by omega)⟩))
  | d + 1, nf + 1, i, h, hf => by
    rw [fX3_agree_L1, h1, cl (show i < 2 ^ 31 by omega)]
    have c1 : ¬ (nI i < 0 ∨ 24 ≤ i) := kx (by omega) (by decide)
    have nxt : gd nt fut (m * 60) i → ok (lt (nI i + 1) fun x9 => fX3_agree_L1 nt fut 600 (nI (m * 60)) nf x9) (fun y => (y = .inl () ∧ ∀ j, i ≤ j → j < kb → gd nt fut (m * 60) j) ∨ (y = .inr 0 ∧ ∃ j, j < kb ∧ ¬ gd nt fut (m * 60) j)) := by
      intro hg
      refine ok_lt ?_
      rw [nI_1]
      refine ok_mono (agree_L hk hm h1 hP hW d nf (i + 1) (by omega) (by omega)) (fun y hy => ?_)
      rcases hy with ⟨a, b⟩ | a
      · refine Or.inl ⟨a, fun j q1 q2 => ?_⟩
        by_cases q : j = i
        · rw [q]; exact hg
        · exact b j (by omega) q2
      · exact Or.inr a
    refine ok_f (by rw [nI_leI (by omega) (by omega)]; omega) (ok_f c1 (ok_lt (ok_f c1 (ok_lt (ok_lt ?_)))))
    have out : ∀ {x4 : Int32}, gd nt fut (m * 60) i → ok (lt (lt (nI i + 1) fun x9 => fX3_agree_L1 nt fut 600 (nI (m * 60)) nf x9) fun j8 => if (0 : Int32) = 0 then (j8) else if x4 < 0 then (j8) else if (Int32.ofNat 600) ≤ x4 then (j8) else if x4 < 0 ∨ 600 ≤ (x4).toNatClampNeg then none else if nI i < 0 ∨ 24 ≤ i then none else lt (if (gA fut 0 (x4).toNatClampNeg) < (gA nt 1 i) then ((0 : Int32)) else (1 : Int32)) fun x15 => if nI i < 0 ∨ 24 ≤ i then none else if x15 = (gA nt 2 i) then (j8) else some (.inr (0 : Int32))) (fun y => (y = .inl () ∧ ∀ j, i ≤ j → j < kb → gd nt fut (m * 60) j) ∨ (y = .inr 0 ∧ ∃ j, j < kb ∧ ¬ gd nt fut (m * 60) j)) := fun hg => ok_lt (ok_t rfl (nxt hg))
    rcases hP i (by omega) with ⟨p1, p2, p3, p4, ⟨n, n1, n2, p5⟩, p6⟩ | ⟨p1, p2, k, hk1, p3⟩
    · refine ok_t p1 (ok_f c1 ?_)
      rcases hW i (by omega) with ⟨w1, w2⟩ | ⟨w1, w2⟩
      · refine ok_t w1 (ok_lt (ok_f i10 ?_))
        have e0 : gA nt 0 i = nI n := p2.trans p5
        have ex : (nI (m * 60) + gA nt 0 i) - 1 = nI (m * 60 + n - 1) := by
          rw [e0, nI_add]
          obtain ⟨n', rfl⟩ : ∃ n', n = n' + 1 := ⟨n - 1, by omega⟩
          rw [show m * 60 + (n' + 1) = m * 60 + n' + 1 by omega, nI_sub1, show m * 60 + n' + 1 - 1 = m * 60 + n' by omega]
        rw [ex, cl (show m * 60 + n - 1 < 2 ^ 31 by omega)]
        have eg : gd nt fut (m * 60) i ↔ (if gA fut 0 (m * 60 + n - 1) < gA nt 1 i then (0 : Int32) else 1) = gA nt 2 i := by
          unfold gd
          rw [e0, cl (show n < 2 ^ 31 by omega)]
          exact ⟨fun z => z p1 w1, fun z _ _ => z⟩
        refine ok_f (nI_pos (by omega)) (ok_f (show ¬ nI 600 ≤ nI (m * 60 + n - 1) by rw [nI_leI (by omega) (by omega)]; omega) (ok_f (kx (by omega) (by decide)) (ok_f c1 (ok_lt (ok_f c1 ?_)))))
        refine ok_if (fun c => nxt (eg.mpr c)) (fun c => ok_some (Or.inr ⟨rfl, i, by omega, fun z => c (eg.mp z)⟩))
      · exact ok_f (by rw [w1]; exact i10) (out (fun _ z => absurd (w1.symm.trans z) i10))
    · exact ok_f (by rw [p2, p3]; exact nI_nn (by omega)) (out (fun z _ => absurd ((p2.trans p3).symm.trans z) (nI_nn (by omega))))
theorem agree_of {nt fut M : St} {kb m : Nat} (hk : kb ≤ 24) (hm : m < 10) (h1 : fX3_counted nt = nI kb) (hP : ∀ i, i < kb → ntP nt M i) (hW : WR nt M kb) : ok (fX3_agree 600 nt fut (nI (m * 60))) (fun r => (r = 1 ∧ ∀ j, j < kb → gd nt fut (m * 60) j) ∨ (r = 0 ∧ ∃ j, j < kb ∧ ¬ gd nt fut (m * 60) j)) := by
  unfold fX3_agree
  refine ok_bind (ok_mono (agree_L hk hm h1 hP hW kb fuel 0 (by omega) (by rw [fuel_eq]; omega)) (fun y hy => ?_))
  rcases hy with ⟨rfl, b⟩ | ⟨rfl, b⟩
  · exact ok_some (Or.inl ⟨rfl, fun j hj => b j (by omega) hj⟩)
  · exact ok_some (Or.inr ⟨rfl, b⟩)
/-- the reference at a minute n -/
theorem isSo_L {nt fut M : St} {kb b n : Nat} (hk : kb ≤ 24) (hn : n ≤ 60) (h1 : fX12_knownBy M = nI kb) (hP : ∀ i, i < kb → ntP nt M i) (hW : WR nt M kb) (hG : gAll M 1 = gA fut 0 (b + n - 1)) : ∀ (d nf i : Nat), i + d = kb → d < nf → ok (fX12_isSo_L1 M (nI n) nf (nI i)) (fun y => (y = .inl () ∧ ∀ j, i ≤ j → j < kb → gA nt 0 j = nI n → gd nt fut b j) ∨ (y = .inr 0 ∧ ∃ j, j < kb ∧ ¬ gd nt fut b j))
  | 0, nf + 1, i, h, _ => by
    rw [fX12_isSo_L1, h1]
    exact ok_t (by rw [nI_leI (by omega) (by omega)]; omega) (ok_some (Or.inl ⟨rfl, fun j a b => absurd a (by omega)⟩))
  | d + 1, nf + 1, i, h, hf => by
    have e3 : (3 : Int32) * nI i = nI (3 * i) := by rw [show (3 : Int32) = nI 3 from rfl, nI_mul]
    have e31 : nI (3 * i) + 1 = nI (3 * i + 1) := nI_1 _
    have e32 : nI (3 * i) + 2 = nI (3 * i + 2) := by rw [show (2 : Int32) = nI 2 from rfl, nI_add]
    rw [fX12_isSo_L1, h1, e3, e31, e32, cl (show i < 2 ^ 31 by omega), cl (show 3 * i < 2 ^ 31 by omega), cl (show 3 * i + 1 < 2 ^ 31 by omega), cl (show 3 * i + 2 < 2 ^ 31 by omega)]
    have c1 : ¬ (nI i < 0 ∨ 24 ≤ i) := kx (by omega) (by decide)
    have c2 : ¬ (nI (3 * i) < 0 ∨ 72 ≤ 3 * i) := kx (by omega) (by decide)
    have c3 : ¬ (nI (3 * i + 1) < 0 ∨ 72 ≤ 3 * i + 1) := kx (by omega) (by decide)
    have c4 : ¬ (nI (3 * i + 2) < 0 ∨ 72 ≤ 3 * i + 2) := kx (by omega) (by decide)
    have nxt : (gA nt 0 i = nI n → gd nt fut b i) → ok (lt (nI i + 1) fun x5 => fX12_isSo_L1 M (nI n) nf x5) (fun y => (y = .inl () ∧ ∀ j, i ≤ j → j < kb → gA nt 0 j = nI n → gd nt fut b j) ∨ (y = .inr 0 ∧ ∃ j, j < kb ∧ ¬ gd nt fut b j)) := by
      intro hg
      refine ok_lt ?_
      rw [nI_1]
      refine ok_mono (isSo_L hk hn h1 hP hW hG d nf (i + 1) (by omega) (by omega)) (fun y hy => ?_)
      rcases hy with ⟨a, c⟩ | a
      · refine Or.inl ⟨a, fun j q1 q2 => ?_⟩
        by_cases q : j = i
        · rw [q]; exact hg
        · exact c j (by omega) q2
      · exact Or.inr a
    refine ok_f (by rw [nI_leI (by omega) (by omega)]; omega) (ok_f c1 (ok_lt ?_))
    rcases hW i (by omega) with ⟨w1, w2⟩ | ⟨w1, w2⟩
    · refine ok_f (by rw [w2]; exact i10) (ok_f c2 ?_)
      rcases hP i (by omega) with ⟨p1, p2, p3, p4, ⟨k, k1, k2, p5⟩, p6⟩ | ⟨p1, p2, k, hk1, p3⟩
      · refine ok_if (fun c => ok_bindx (groundAll_eq (b := 1) (by decide)) (ok_f c3 (ok_lt (ok_f c4 (ok_lt ?_))))) (fun c => nxt (fun z => absurd (p2.symm.trans z) c))
        rw [hG]
        have e0 : gA nt 0 i = nI n := p2.trans c
        have eg : gd nt fut b i ↔ (if gA fut 0 (b + n - 1) < gA M 77 (3 * i + 1) then (0 : Int32) else 1) = (if gA M 77 (3 * i + 2) = 1 then 1 else 0) := by
          have e2 : (if gA M 77 (3 * i + 2) = 1 then (1 : Int32) else 0) = gA nt 2 i := by
            rw [p4]
            rcases p6 with q | q
            · rw [q]; rfl
            · rw [q]; rfl
          rw [e2, ← p3]
          unfold gd
          rw [e0, cl (show n < 2 ^ 31 by omega)]
          exact ⟨fun z => z p1 w1, fun z _ _ => z⟩
        exact ok_if (fun q => nxt (fun _ => eg.mpr q)) (fun q => ok_some (Or.inr ⟨rfl, i, by omega, fun z => q (eg.mp z)⟩))
      · refine ok_f (fun c => ?_) (nxt (fun z zz => absurd ((p2.trans p3).symm.trans zz) (nI_nn (by omega))))
        rw [p1] at c
        exact nI_nn (i := n) (by omega) c.symm
    · exact ok_t w2 (nxt (fun _ _ z => absurd (w1.symm.trans z) i10))
theorem isSo_of {nt fut M : St} {kb b n : Nat} (hk : kb ≤ 24) (hn : n ≤ 60) (h1 : fX12_knownBy M = nI kb) (hP : ∀ i, i < kb → ntP nt M i) (hW : WR nt M kb) (hG : gAll M 1 = gA fut 0 (b + n - 1)) : ok (fX12_isSo M (nI n)) (fun r => (r = 1 ∧ ∀ j, j < kb → gA nt 0 j = nI n → gd nt fut b j) ∨ (r = 0 ∧ ∃ j, j < kb ∧ ¬ gd nt fut b j)) := by
  unfold fX12_isSo
  refine ok_bind (ok_mono (isSo_L hk hn h1 hP hW hG kb fuel 0 (by omega) (by rw [fuel_eq]; omega)) (fun y hy => ?_))
  rcases hy with ⟨rfl, c⟩ | ⟨rfl, c⟩
  · exact ok_some (Or.inl ⟨rfl, fun j hj => c j (by omega) hj⟩)
  · exact ok_some (Or.inr ⟨rfl, c⟩)
theorem QG.kb {M M' : St} (h : QG M M') : fX12_knownBy M' = fX12_knownBy M := by
  unfold fX12_knownBy
  rw [h.1 75 (by decide) (by decide), h.1 76 (by decide) (by decide)]
theorem WR.fr {nt M M' : St} {kb : Nat} (h : WR nt M kb) (k : gA M' 78 = gA M 78) : WR nt M' kb := fun i hi => by rw [k]; exact h i hi
theorem mn_QG {na ng nr : Nat} {T : Nat → St} {u M M' : St} {r : St × (Nat → St) × St} (h : mnR 1 na ng nr T u M r M') (h65 : gI M 65 = 0) : QG M M' := QG.FR h.2.1 (h.2.2.2.2.1 h65).1
theorem fits_L {ml nt fut : St} {na ng nr ns kb b : Nat} (hk : kb ≤ 24) : ∀ (d nf i : Nat) (nm : St) (T : Nat → St) (u M : St), i + d = 60 → d < nf → TR T M na ng nr ns → HR u M 1 na ng nr → MR ml M → gI M 65 = 0 → fX12_knownBy M = nI kb → (∀ j, j < kb → ntP nt M j) → WR nt M kb → CH ml fut b d i nm T u → (∀ j, j < kb → (gA nt 0 j).toNatClampNeg ≤ i → gd nt fut b j) → ok (fX12_fits_L1 nf (nI (i + 1)) M) (fun y => ∃ M', QG M M' ∧ ((y = .inl M' ∧ ∀ j, j < kb → gd nt fut b j) ∨ (y = .inr (0, M') ∧ ∃ j, j < kb ∧ ¬ gd nt fut b j)))
  | 0, nf + 1, i, nm, T, u, M, h, _, hT, hH, hR, h65, hb, hP, hW, hC, hg => by
    rw [fX12_fits_L1]
    refine ok_t (show nI 60 < nI (i + 1) by rw [nI_ltI (by omega) (by omega)]; omega) (ok_some ⟨M, QG.rf, Or.inl ⟨rfl, fun j hj => ?_⟩⟩)
    rcases hP j hj with ⟨p1, p2, p3, p4, ⟨k, k1, k2, p5⟩, p6⟩ | ⟨p1, p2, k, hk1, p3⟩
    · exact hg j hj (by rw [p2, p5, cl (by omega)]; omega)
    · exact fun z _ => absurd ((p2.trans p3).symm.trans z) (nI_nn (by omega))
  | d + 1, nf + 1, i, nm, T, u, M, h, hf, hT, hH, hR, h65, hb, hP, hW, hC, hg => by
    rw [fX12_fits_L1]
    obtain ⟨nm', T', u', e1, e2, hC'⟩ := hC
    obtain ⟨r, er, M1, eM1, k⟩ := pass1 (nm := nm) (b := 1) (by decide) hT hH hR (fun q => absurd (h65.symm.trans q) (by decide))
    have e3 : r = (nm', T', u') := Option.some.inj (er.symm.trans e1)
    subst e3
    have q1 := mn_QG k h65
    have hG : gAll M1 1 = gA fut 0 (b + (i + 1) - 1) := by
      rw [show b + (i + 1) - 1 = b + i by omega, ← e2]
      exact (gAll_HR k.2.2.1).symm
    have hP1 : ∀ j, j < kb → ntP nt M1 j := fun j hj => (hP j hj).fr (fun _ _ => rfl) (q1.A (by omega))
    have hW1 := hW.fr (q1.A (by omega))
    have hb1 := q1.kb.trans hb
    refine ok_f (show ¬ nI 60 < nI (i + 1) by rw [nI_ltI (by omega) (by omega)]; omega) (ok_bindx eM1 (ok_bind (ok_mono (isSo_of hk (n := i + 1) (by omega) hb1 hP1 hW1 hG) (fun s hs => ?_))))
    rcases hs with ⟨s1, s2⟩ | ⟨s1, s2⟩
    · refine ok_f (by rw [s1]; exact i10) (ok_lt ?_)
      rw [nI_1]
      refine ok_mono (fits_L hk d nf (i + 1) nm' T' u' M1 (by omega) (by omega) ((hT.fT k.1).fr k.2.1) k.2.2.1 (hR.fr k.2.1) ((k.2.1.I (by decide)).trans h65) hb1 hP1 hW1 hC' (fun j hj hle => ?_)) (fun y hy => ?_)
      · by_cases q : (gA nt 0 j).toNatClampNeg ≤ i
        · exact hg j hj q
        · rcases hP j hj with ⟨p1, p2, p3, p4, ⟨k, k1, k2, p5⟩, p6⟩ | ⟨p1, p2, k, hk1, p3⟩
          · rw [p2, p5, cl (by omega)] at hle q
            exact s2 j hj (by rw [p2, p5]; congr 1; omega)
          · exact fun z _ => absurd ((p2.trans p3).symm.trans z) (nI_nn (by omega))
      · obtain ⟨M', a, c⟩ := hy
        exact ⟨M', q1.tr a, c⟩
    · exact ok_t s1 (ok_some ⟨M1, q1, Or.inr ⟨rfl, s2⟩⟩)
theorem fits_of {T : Nat → St} {nt fut M : St} {na ng nr ns kb m : Nat} {x : Int32} (hk : kb ≤ 24) (hm : m < 10) (hT : TR T M na ng nr ns) (hF : FU fut T x) (hb : fX12_knownBy M = nI kb) (hP : ∀ j, j < kb → ntP nt M j) (hW : WR nt M kb) : ok (fX12_fits M x (nI m)) (fun r => QG M r.2 ∧ ((r.1 = 1 ∧ ∀ j, j < kb → gd nt fut (m * 60) j) ∨ (r.1 = 0 ∧ ∃ j, j < kb ∧ ¬ gd nt fut (m * 60) j))) := by
  obtain ⟨ml, nm, T', u, s, f1, f2, f3, f4, f5⟩ := hF m hm
  obtain ⟨t1, t2, t3, t4⟩ := lm_of (m := m) hm (hT.fT f4) f3 f1 f2
  have q := lm_QG x (nI m) M
  unfold fX12_fits
  refine ok_bindx (layMood_eq M x (nI m)) (ok_bind ?_)
  refine ok_mono (fits_L hk 60 fuel 0 nm T' u (lmM x (nI m) M) (by omega) (by rw [fuel_eq]; omega) t1 t2 t3 t4 (q.kb.trans hb) (fun j hj => (hP j hj).fr (fun _ _ => rfl) (q.A (by omega))) (hW.fr (q.A (by omega))) f5 (fun j hj hle => ?_)) (fun y hy => ?_)
  · rcases hP j hj with ⟨p1, p2, p3, p4, ⟨k, k1, k2, p5⟩, p6⟩ | ⟨p1, p2, k, hk1, p3⟩
    · rw [p2, p5, cl (by omega)] at hle; omega
    · exact fun z _ => absurd ((p2.trans p3).symm.trans z) (nI_nn (by omega))
  · obtain ⟨M', a, c⟩ := hy
    rcases c with ⟨rfl, c⟩ | ⟨rfl, c⟩
    · exact ok_some ⟨q.tr a, Or.inl ⟨rfl, c⟩⟩
    · exact ok_some ⟨q.tr a, Or.inr ⟨rfl, c⟩⟩
theorem TR.QG {T : Nat → St} {M M' : St} {na ng nr ns : Nat} (h : TR T M na ng nr ns) (k : QG M M') : TR T M' na ng nr ns := h.Q k.F
theorem bits_L {T : Nat → St} {nt fut : St} {na ng nr ns kb : Nat} {x : Int32} (hk : kb ≤ 24) (h1 : fX3_counted nt = nI kb) (hF : FU fut T x) : ∀ (d nf nf2 m : Nat) (v : Int32) (M : St), m + d = 10 → d < nf → d < nf2 → TR T M na ng nr ns → fX12_knownBy M = nI kb → (∀ j, j < kb → ntP nt M j) → WR nt M kb → ok (fX11_agreeingMoods_L1 fut nt nf v (nI m)) (fun r => ok (fX12_moodBits_L3 x nf2 v (nI m) M) (fun r' => r = r'.1 ∧ QG M r'.2))
  | 0, nf + 1, nf2 + 1, m, v, M, h, _, _, hT, hb, hP, hW => by
    rw [fX11_agreeingMoods_L1, fX12_moodBits_L3]
    have q : nI 10 ≤ nI m := by rw [nI_leI (by omega) (by omega)]; omega
    exact ok_t q (ok_some (ok_t q (ok_some ⟨rfl, QG.rf⟩)))
  | d + 1, nf + 1, nf2 + 1, m, v, M, h, g1, g2, hT, hb, hP, hW => by
    rw [fX11_agreeingMoods_L1, fX12_moodBits_L3]
    have q : ¬ nI 10 ≤ nI m := by rw [nI_leI (by omega) (by omega)]; omega
    have e : nI m * (60 : Int32) = nI (m * 60) := by rw [show (60 : Int32) = nI 60 from rfl, nI_mul]
    rw [e]
    obtain ⟨r', er', q1, hr'⟩ := fits_of (nt := nt) hk (show m < 10 by omega) hT hF hb hP hW
    refine ok_f q (ok_bind (ok_mono (agree_of hk (show m < 10 by omega) h1 hP hW) (fun r hr => ok_lt ?_)))
    have step : ∀ w : Int32, (v ||| (if r'.1 = 0 then 0 else (1 : Int32) <<< (nI m &&& 31))) = w → ok (lt (nI m + 1) fun x9 => fX11_agreeingMoods_L1 fut nt nf w x9) (fun r => ok (if nI 10 ≤ nI m then (some (v, M)) else (fX12_fits M x (nI m)).bind fun r27 => lt (if r27.1 = 0 then ((0 : Int32)) else ((1 : Int32) <<< (nI m &&& 31))) fun x29 => lt (v ||| x29) fun x30 => lt (nI m + 1) fun x31 => fX12_moodBits_L3 x nf2 x30 x31 (r27.2)) (fun r' => r = r'.1 ∧ QG M r'.2)) := by
      intro w hw
      refine ok_lt ?_
      rw [nI_1]
      refine ok_mono (bits_L hk h1 hF d nf nf2 (m + 1) w r'.2 (by omega) (by omega) (by omega) (hT.QG q1) (q1.kb.trans hb) (fun j hj => (hP j hj).fr (fun _ _ => rfl) (q1.A (by omega))) (hW.fr (q1.A (by omega)))) (fun y hy => ?_)
      refine ok_f q (ok_bindx er' (ok_lt (ok_lt (ok_lt ?_))))
      rw [hw]
      exact ok_mono hy (fun z hz => ⟨hz.1, q1.tr hz.2⟩)
    rcases hr with ⟨a, b⟩ | ⟨a, j, hj, b⟩
    · have c : r'.1 = 1 := by
        rcases hr' with ⟨c, _⟩ | ⟨_, j, hj, c⟩
        · exact c
        · exact absurd (b j hj) c
      refine ok_f (by rw [a]; exact i10) (ok_lt (step _ ?_))
      rw [c, if_neg i10]
    · have c : r'.1 = 0 := by
        rcases hr' with ⟨_, c⟩ | ⟨c, _⟩
        · exact absurd (c j hj) b
        · exact c
      refine ok_t a (step _ ?_)
      rw [c, if_pos rfl]
      exact Int32.or_zero
/-- moods, on both sides -/
def mbR (nt M : St) (r : Int32 × St) (r' : Int32 × St) : Prop := r.1 = r'.1 ∧ f4 nt r.2 ∧ QF M r'.2
theorem bits_of {T : Nat → St} {mn nt fut M : St} {na ng nr ns : Nat} {x : Int32} (hT : TR T M na ng nr ns) (hN : NR nt M) (hF : FU fut T x) : ok (fX11_agreeingMoods mn fut nt) (fun r => ok (fX12_moodBits M x) (fun r' => mbR nt M r r')) := by
  obtain ⟨kb, hk, h1, h2, hP⟩ := kb_of hN
  unfold fX11_agreeingMoods fX12_moodBits
  refine ok_bind (ok_mono (weigh_of hk h1 h2 hP) (fun u hu => ?_))
  obtain ⟨a1, y7, e7, M1, eM1, b1, b2⟩ := hu
  have qf : QF M M1 := ⟨fun k _ _ _ => congrFun b1.1 k, b1.2.1, fun r i _ _ h _ => by rw [b1.2.2 r h]⟩
  refine ok_bind (ok_mono (bits_L hk (a1.kb.trans h1) hF 10 fuel fuel 0 0 M1 (by omega) (by rw [fuel_eq]; omega) (by rw [fuel_eq]; omega) (hT.Q qf) (b1.kb.trans h2) (fun j hj => (hP j hj).fr (fun r hr => a1.2 r (by omega)) (b1.2.2 77 (by decide))) b2) (fun y hy => ok_some ?_))
  refine ok_bindx e7 (ok_lt (ok_bindx eM1 (ok_bind (ok_mono hy (fun z hz => ok_lt (ok_some ⟨hz.1, a1, qf.tr (hz.2.F.tr (plain_of z.2).1)⟩))))))
def moR (T : Nat → St) (mn nt M : St) (na : Nat) (r : Int32 × St × St × St × St × St × St × (Nat → St)) (r' : Int32 × St) : Prop := r.1 = r'.1 ∧ (∀ k, k ≠ 15 → gI r.2.1 k = gI mn k) ∧ FUR r.2.1 r.2.2.1 T na ∧ f4 nt r.2.2.2.2.2.2.1 ∧ fT T r.2.2.2.2.2.2.2 ∧ QF M r'.2
theorem moods_of {T : Nat → St} {mn fut ml nm trial nt M : St} {na ng nr ns : Nat} {x : Int32} (hT : TR T M na ng nr ns) (hN : NR nt M) (hF : FUR mn fut T na) : ok (fX11_moods mn fut ml nm trial nt T x) (fun r => ok (fX12_moods M x) (fun r' => moR T mn nt M na r r')) := by
  have h6 := hT.1.1.1
  have em : fX12_isAct (sI M 2 0) x = tst (nI na) x := by rw [isAct_t]; exact congrArg (fun w => tst w x) hT.1.2.2.1
  have ec : fX7_has 6 (T 1) x = tst (nI na) x := by rw [has_t, hT.1.2.1.1]
  unfold fX11_moods fX12_moods
  rw [ec]
  rcases tst_or (k := na) x (by omega) with q | ⟨i, hi, rfl, q⟩
  · exact ok_t q (ok_some (ok_lt (ok_t (em.trans q) (ok_some ⟨rfl, fun _ _ => rfl, hF, ⟨rfl, fun _ _ => rfl⟩, fT.rf, QF.th⟩))))
  · refine ok_f (by rw [q]; exact i10) (ok_bind (ok_mono (foresee_of hT hF hi) (fun r2 hr2 => ?_)))
    obtain ⟨a1, a2, a3, a4⟩ := hr2
    refine ok_bind (ok_mono (bits_of (mn := r2.1) (hT.Q (QF.th (v := 0))) hN.th a4) (fun r4 hr4 => ok_some ?_))
    refine ok_lt (ok_f (by rw [em, q]; exact i10) (ok_bind (ok_mono hr4 (fun r' hr' => ok_some ?_))))
    exact ⟨hr'.1, a2, Or.inr ⟨i, hi, a3, a4⟩, hr'.2.1, a1, QF.th.tr hr'.2.2⟩
