/-! settling -/
theorem hh_0 {M M' : St} {fr n t : Nat} (hk : ∀ j, j < n → k64 M' 39 (fr + j) = k64 M 39 (fr + j)) (e : k64 M' 39 (fr + n) = nI t) (ht : t = 0 ∨ t = 1) : hh M' fr (n + 1) = n :: hh M fr n := by
  unfold hh
  rw [hst, hst_cong n hk, e, if_pos]
  rcases ht with rfl | rfl
  · exact Or.inl rfl
  · exact Or.inr rfl
theorem hh_2 {M M' : St} {fr n : Nat} (hk : ∀ j, j < n → k64 M' 39 (fr + j) = k64 M 39 (fr + j)) (e : k64 M' 39 (fr + n) = nI 2) : hh M' fr (n + 1) = n :: (hh M fr n).drop 1 := by
  unfold hh
  rw [hst, hst_cong n hk, e, if_neg (by decide), if_pos (show nI 2 = (2 : Int32) from rfl)]
theorem hh_3 {M M' : St} {fr n t : Nat} (hk : ∀ j, j < n → k64 M' 39 (fr + j) = k64 M 39 (fr + j)) (e : k64 M' 39 (fr + n) = nI t) (ht : 3 ≤ t) (h14 : t ≤ 14) : hh M' fr (n + 1) = n :: (hh M fr n).drop 2 := by
  have a0 : ¬ nI t = 0 := fun z => by have := (nI_eq (a := t) (b := 0) (by omega) (by omega)).mp z; omega
  have a1 : ¬ nI t = 1 := fun z => by have := (nI_eq (a := t) (b := 1) (by omega) (by omega)).mp z; omega
  have a2 : ¬ nI t = 2 := fun z => by have := (nI_eq (a := t) (b := 2) (by omega) (by omega)).mp z; omega
  unfold hh
  rw [hst, hst_cong n hk, e, if_neg (fun z => z.elim a0 a1), if_neg a2]
theorem top_of {ph M : St} {w : Nat} {wa : Nat → Nat} (h : PRw ph M (w + 1) wa) (hw : w < 72) : fX5_topRank ph = some (nI (rk (wa w))) := by
  obtain ⟨a, b, c⟩ := h
  obtain ⟨c1, c2, c3, c4⟩ := c w (by omega)
  obtain ⟨d1, d2⟩ := wt_d (wa w) c3 c4
  unfold fX5_topRank
  rw [a, nI_sub1, cl (show w < 2 ^ 31 by omega), c2, if_neg (nI_nle (by omega) (by omega)), if_neg (kx (by omega) (by decide)), if_neg d1, d2]
theorem settle_L {fr op c least : Nat} {wa : Nat → Nat} (h1 : 1 ≤ least) (h6 : least ≤ 6) : ∀ (w nf nf2 n : Nat) (ph f M : St), w < nf → w < nf2 → PR ph f M fr w op n c wa 1 → ok (fX5_settle_L1 (nI least) nf ph f) (fun r => ok (fX12_bind_L1 (nI least) nf2 M) (fun M' => ∃ w' n', w' ≤ w ∧ PR r.1 r.2 M' fr w' op n' c wa 1 ∧ (w' = 0 ∨ rk (wa (w' - 1)) < least) ∧ fI (fun k => k = 1) ph r.1 ∧ gI r.2 4 = gI f 4 ∧ BF fr M M'))
  | 0, nf + 1, nf2 + 1, n, ph, f, M, _, _, h => by
    have h' := h
    obtain ⟨⟨a1, a2, a3⟩, _⟩ := h'
    rw [fX5_settle_L1, fX12_bind_L1, a1, a2]
    exact ok_t (by decide) (ok_some (ok_t (by decide) (ok_some ⟨0, n, Nat.le_refl _, h, Or.inl rfl, fI.rf, rfl, BF.rf⟩)))
  | w + 1, nf + 1, nf2 + 1, n, ph, f, M, g1, g2, h => by
    have h' := h
    obtain ⟨hw, ⟨o1, o2, o3, o4⟩, ⟨s1, s2⟩, ⟨c1, c2, c3, c4, c5⟩, hs, hK, hH, hl⟩ := h'
    obtain ⟨a1, a2, a3⟩ := hw
    have zl := cntz_le wa (w + 1)
    have w72 : w < 72 := by omega
    obtain ⟨x1, x2, x3, x4⟩ := a3 w (by omega)
    have tr := top_of ⟨a1, a2, a3⟩ w72
    have rl := rk_le (wa w)
    rw [fX5_settle_L1, fX12_bind_L1, a1, a2, nI_sub1, cl (show w < 2 ^ 31 by omega), x1, rk_d _ x3]
    have p0 : ¬ nI (w + 1) ≤ 0 := nI_nle (by omega) (by omega)
    have k96 : ¬ (nI w < 0 ∨ 96 ≤ w) := kx (by omega) (by decide)
    refine ok_f p0 (ok_bindx tr ?_)
    by_cases stop : rk (wa w) < least
    · have sI' : nI (rk (wa w)) < nI least := (nI_ltI (by omega) (by omega)).mpr stop
      exact ok_t sI' (ok_some (ok_f p0 (ok_f k96 (ok_t sI' (ok_some ⟨w + 1, n, Nat.le_refl _, h, Or.inr stop, fI.rf, rfl, BF.rf⟩)))))
    have sI' : ¬ nI (rk (wa w)) < nI least := fun z => stop ((nI_ltI (by omega) (by omega)).mp z)
    have t0 : wa w ≠ 0 := rk_0 (by omega)
    have cz : cntz wa (w + 1) = cntz wa w := by rw [cntz, if_neg t0]; omega
    have zl2 := cntz_le wa w
    have nc : n + 1 ≤ c := by omega
    -- the class
    have u1 : gI (sI ph 1 (nI w)) 1 = nI w := rfl
    refine ok_f sI' (ok_lt (ok_lt ?_))
    rw [u1, cl (show w < 2 ^ 31 by omega)]
    have e0 : gA (sI ph 1 (nI w)) 0 w = kc (nI (wa w)) := by
      show gA ph 0 w = _
      rw [x2]; unfold wt; rw [if_neg t0]
    rw [e0]
    refine ok_f (kx (by omega) (by decide)) (ok_bindx (add0_c s1 (by omega)) ?_)
    -- what follows on both sides
    have nxt : ∀ M2 : St, PR (sI ph 1 (nI w)) (sI (sA (sA f 0 n (kc (nI (wa w)))) 1 n 0) 3 (nI (n + 1))) M2 fr w op (n + 1) c wa 1 → BF fr M M2 → ok (fX5_settle_L1 (nI least) nf (sI ph 1 (nI w)) (sI (sA (sA f 0 n (kc (nI (wa w)))) 1 n 0) 3 (nI (n + 1)))) (fun r => ok (fX12_bind_L1 (nI least) nf2 M2) (fun M' => ∃ w' n', w' ≤ w + 1 ∧ PR r.1 r.2 M' fr w' op n' c wa 1 ∧ (w' = 0 ∨ rk (wa (w' - 1)) < least) ∧ fI (fun k => k = 1) ph r.1 ∧ gI r.2 4 = gI f 4 ∧ BF fr M M')) := by
      intro M2 hp hf
      refine ok_mono (settle_L h1 h6 w nf nf2 (n + 1) _ _ M2 (by omega) (by omega) hp) (fun r hr => ok_mono hr (fun M' hM => ?_))
      obtain ⟨w', n', b1, b2, b3, b4, b5, b6⟩ := hM
      exact ⟨w', n', by omega, b2, b3, fI.tr (fI.w (P := fun k => k = 1) (k := 1) rfl) b4, b5, hf.tr b6⟩
    have hwN : ∀ M2 : St, gI M2 44 = nI w → gA M2 42 = gA M 42 → PRw (sI ph 1 (nI w)) M2 w wa := fun M2 y1 y2 => ⟨rfl, y1, fun j hj => by rw [y2]; exact a3 j (by omega)⟩
    have hl0 : (hh M fr n).length ≤ n := hst_len _ n
    by_cases t2 : wa w = 2
    · -- not
      have cb : cntb wa (w + 1) = cntb wa w := by rw [cntb, if_neg (by omega)]; omega
      cases eH : hh M fr n with
      | nil => rw [eH, cb] at hl; exact absurd hl (by rw [List.length_nil]; omega)
      | cons x r =>
        have hH0 := hH.2 0 x (by rw [eH]; rfl)
        have l1 : (hh M fr n).length - 1 + 1 = (hh M fr n).length := by rw [eH, List.length_cons]; omega
        have d45 : gI (sI M 44 (nI w)) 45 = nI ((hh M fr n).length - 1 + 1) := by rw [l1]; exact hH.1
        have M2e : fX12_grown (sI (sI M 44 (nI w)) 45 (nI ((hh M fr n).length - 1))) (nI (wa w)) (nI (fr + x)) (-1) = some (gwM (sI (sI M 44 (nI w)) 45 (nI ((hh M fr n).length - 1))) (fr + n) ((hh M fr n).length - 1) (nI (wa w)) (nI (fr + x)) (-1)) := grown_c s2 rfl (by omega) (by omega)
        have kn0 : ∀ r', 39 ≤ r' → r' ≤ 41 → ∀ i, i < n → k64 (gwM (sI (sI M 44 (nI w)) 45 (nI ((hh M fr n).length - 1))) (fr + n) ((hh M fr n).length - 1) (nI (wa w)) (nI (fr + x)) (-1)) r' (fr + i) = k64 M r' (fr + i) := fun r' y1 y2 i hi => k64_gw r' ⟨y1, y2⟩ (by omega)
        obtain ⟨kn1, kn2, kn3⟩ := k64_n (M := sI (sI M 44 (nI w)) 45 (nI ((hh M fr n).length - 1))) (a := fr + n) (b := (hh M fr n).length - 1) (x := nI (wa w)) (y := nI (fr + x)) (z := -1)
        have eh2 := hh_2 (kn0 39 (by omega) (by omega)) (by rw [kn1, t2])
        have hp : PR (sI ph 1 (nI w)) (sI (sA (sA f 0 n (kc (nI (wa w)))) 1 n 0) 3 (nI (n + 1))) (gwM (sI (sI M 44 (nI w)) 45 (nI ((hh M fr n).length - 1))) (fr + n) ((hh M fr n).length - 1) (nI (wa w)) (nI (fr + x)) (-1)) fr w op (n + 1) c wa 1 := by
          refine ⟨hwN _ rfl (funext fun i => gw_39 _ _ _ _ _ _ _ _ (by decide)), ⟨o1, o2, o3, by omega⟩, ⟨rfl, rfl⟩, ⟨c1, c2, c3, c4, c5⟩, by omega, ?_, ?_, ?_⟩
          · exact hK.add kn0 x3 kn1 (fun z => absurd z (by omega)) (fun z => absurd z (by omega)) (fun _ => ⟨x, r, eH, kn2⟩) (fun z => absurd z (by omega)) (fun z => absurd z (by omega))
          · rw [eh2]
            exact hH.push (d := 1) (by rw [eH, List.length_cons]; omega) rfl (fun i => gw_43 _ _ _ _ _ _ _)
          · rw [eh2, List.length_cons, List.length_drop]; omega
        refine ok_mono (nxt _ hp ((BF.wI (Or.inr (Or.inl rfl))).tr ((BF.wI (Or.inr (Or.inr rfl))).tr (BF.gw (by omega))))) (fun r' hr' => ?_)
        refine ok_f p0 (ok_f k96 (ok_f sI' (ok_lt (ok_lt ?_))))
        have g44 : gI (sI M 44 (nI w)) 44 = nI w := rfl
        rw [g44, cl (show w < 2 ^ 31 by omega)]
        refine ok_f k96 (ok_lt (ok_lt ?_))
        have e42 : gA (sI M 44 (nI w)) 42 w = nI (wa w) := x1
        rw [e42]
        refine ok_t (by rw [t2]; rfl) (ok_bindx (drop_c d45 (by omega)) (ok_lt ?_))
        rw [show gA (sI M 44 (nI w)) 43 ((hh M fr n).length - 1) = nI (fr + x) from hH0]
        exact ok_bindx M2e hr'
    · -- a joint of two
      have t3 : 3 ≤ wa w := by omega
      have cb : cntb wa (w + 1) = cntb wa w + 1 := by rw [cntb, if_pos t3]
      cases eH : hh M fr n with
      | nil => rw [eH, cb] at hl; exact absurd hl (by rw [List.length_nil]; omega)
      | cons y r0 =>
        cases r0 with
        | nil => rw [eH, cb] at hl; exact absurd hl (by rw [List.length_cons, List.length_nil]; omega)
        | cons x r =>
          have hH0 := hH.2 0 y (by rw [eH]; rfl)
          have hH1 := hH.2 1 x (by rw [eH]; rfl)
          have lg : 2 ≤ (hh M fr n).length := by rw [eH, List.length_cons, List.length_cons]; omega
          have l1 : (hh M fr n).length - 1 + 1 = (hh M fr n).length := by omega
          have l2 : (hh M fr n).length - 2 + 1 = (hh M fr n).length - 1 := by omega
          have d45 : gI (sI M 44 (nI w)) 45 = nI ((hh M fr n).length - 1 + 1) := by rw [l1]; exact hH.1
          have d45b : gI (sI (sI M 44 (nI w)) 45 (nI ((hh M fr n).length - 1))) 45 = nI ((hh M fr n).length - 2 + 1) := by rw [l2]; rfl
          have M2e : fX12_grown (sI (sI (sI M 44 (nI w)) 45 (nI ((hh M fr n).length - 1))) 45 (nI ((hh M fr n).length - 2))) (nI (wa w)) (nI (fr + x)) (nI (fr + y)) = some (gwM (sI (sI (sI M 44 (nI w)) 45 (nI ((hh M fr n).length - 1))) 45 (nI ((hh M fr n).length - 2))) (fr + n) ((hh M fr n).length - 2) (nI (wa w)) (nI (fr + x)) (nI (fr + y))) := grown_c s2 rfl (by omega) (by omega)
          have kn0 : ∀ r', 39 ≤ r' → r' ≤ 41 → ∀ i, i < n → k64 (gwM (sI (sI (sI M 44 (nI w)) 45 (nI ((hh M fr n).length - 1))) 45 (nI ((hh M fr n).length - 2))) (fr + n) ((hh M fr n).length - 2) (nI (wa w)) (nI (fr + x)) (nI (fr + y))) r' (fr + i) = k64 M r' (fr + i) := fun r' y1 y2 i hi => k64_gw r' ⟨y1, y2⟩ (by omega)
          obtain ⟨kn1, kn2, kn3⟩ := k64_n (M := sI (sI (sI M 44 (nI w)) 45 (nI ((hh M fr n).length - 1))) 45 (nI ((hh M fr n).length - 2))) (a := fr + n) (b := (hh M fr n).length - 2) (x := nI (wa w)) (y := nI (fr + x)) (z := nI (fr + y))
          have eh3 := hh_3 (kn0 39 (by omega) (by omega)) kn1 t3 x3
          have hp : PR (sI ph 1 (nI w)) (sI (sA (sA f 0 n (kc (nI (wa w)))) 1 n 0) 3 (nI (n + 1))) (gwM (sI (sI (sI M 44 (nI w)) 45 (nI ((hh M fr n).length - 1))) 45 (nI ((hh M fr n).length - 2))) (fr + n) ((hh M fr n).length - 2) (nI (wa w)) (nI (fr + x)) (nI (fr + y))) fr w op (n + 1) c wa 1 := by
            refine ⟨hwN _ rfl (funext fun i => gw_39 _ _ _ _ _ _ _ _ (by decide)), ⟨o1, o2, o3, by omega⟩, ⟨rfl, rfl⟩, ⟨c1, c2, c3, c4, c5⟩, by omega, ?_, ?_, ?_⟩
            · exact hK.add kn0 x3 kn1 (fun z => absurd z (by omega)) (fun z => absurd z (by omega)) (fun z => absurd z t2) (fun _ => ⟨y, x, r, eH, kn2, kn3⟩) (fun z => absurd z (by omega))
            · rw [eh3]
              exact hH.push (d := 2) lg rfl (fun i => gw_43 _ _ _ _ _ _ _)
            · rw [eh3, List.length_cons, List.length_drop]; omega
          refine ok_mono (nxt _ hp ((BF.wI (Or.inr (Or.inl rfl))).tr ((BF.wI (Or.inr (Or.inr rfl))).tr ((BF.wI (Or.inr (Or.inr rfl))).tr (BF.gw (by omega)))))) (fun r' hr' => ?_)
          refine ok_f p0 (ok_f k96 (ok_f sI' (ok_lt (ok_lt ?_))))
          have g44 : gI (sI M 44 (nI w)) 44 = nI w := rfl
          rw [g44, cl (show w < 2 ^ 31 by omega)]
          refine ok_f k96 (ok_lt (ok_lt ?_))
          have e42 : gA (sI M 44 (nI w)) 42 w = nI (wa w) := x1
          rw [e42]
          have n2 : ¬ nI (wa w) = (2 : Int32) := fun z => t2 ((nI_eq (a := wa w) (b := 2) (by omega) (by omega)).mp z)
          refine ok_f n2 (ok_bindx (drop_c d45 (by omega)) ?_)
          rw [show gA (sI M 44 (nI w)) 43 ((hh M fr n).length - 1) = nI (fr + y) from hH0]
          refine ok_bindx (drop_c d45b (by omega)) (ok_lt ?_)
          rw [show gA (sI (sI M 44 (nI w)) 45 (nI ((hh M fr n).length - 1))) 43 ((hh M fr n).length - 2) = nI (fr + x) from hH1]
          exact ok_bindx M2e hr'
theorem settle_of {ph f M : St} {fr w op n c least : Nat} {wa : Nat → Nat} (h1 : 1 ≤ least) (h6 : least ≤ 6) (h : PR ph f M fr w op n c wa 1) : ok (fX5_settle ph f (nI least)) (fun r => ok (fX12_bind M (nI least)) (fun M' => ∃ w' n', w' ≤ w ∧ PR r.1 r.2 M' fr w' op n' c wa 1 ∧ (w' = 0 ∨ rk (wa (w' - 1)) < least) ∧ fI (fun k => k = 1) ph r.1 ∧ gI r.2 4 = gI f 4 ∧ BF fr M M')) := by
  have hs := h.2.2.2.2.1
  have hc := h.2.2.2.1.2.2.1
  have ho := h.2.1.2.2.1
  unfold fX5_settle fX12_bind
  exact ok_bind (ok_mono (settle_L h1 h6 w fuel fuel n ph f M (by rw [fuel_eq]; omega) (by rw [fuel_eq]; omega) h) (fun r hr => ok_some (ok_bind (ok_mono hr (fun M' hM => ok_some hM)))))
