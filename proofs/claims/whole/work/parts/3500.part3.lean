/-! all parts -/
theorem stepBz {f tk tp M : St} {N p fr : Nat} {r : Int32 × St × St} {q : Option (Int32 × St)} (h : stepR f tk tp M N p fr r q) : stepR f tk tp M N p fr (bz r.1, r.2.1, r.2.2) q := by
  rcases h with ⟨a, b⟩ | h
  · refine Or.inl ⟨a, ok_mono b (fun tk' ht => ok_mono ht (fun r' hr => ?_))⟩
    obtain ⟨c1, c2, c3, c4, c5, c6, p', c7, c8, c9, w, op, n, c, wa, e, d1, d2⟩ := hr
    have eb : bz r.1 = r.1 := by
      rcases d2 with ⟨_, z, _⟩ | ⟨_, z⟩
      · rw [z]; exact bz1
      · rw [z]; exact bz0
    refine ⟨c1, c2, c3, c4, c5, c6, p', c7, c8, by rw [eb]; exact c9, w, op, n, c, wa, e, d1, by rw [eb]; exact d2⟩
  · exact Or.inr h
theorem top_any {ph M : St} {w : Nat} {wa : Nat → Nat} (h : PRw ph M w wa) (hw : w ≤ 72) : ok (fX5_topRank ph) (fun r => (mayN w wa = 1 ∧ ¬ (3 : Int32) < r) ∨ (mayN w wa = 0 ∧ (3 : Int32) < r)) := by
  cases w with
  | zero =>
    refine ok_eq (a := 0) ?_ (Or.inl ⟨by unfold mayN; rw [if_pos (Or.inl rfl)], by decide⟩)
    unfold fX5_topRank
    rw [h.1]
    exact tp (by decide) rfl
  | succ w =>
    have rl := rk_le (wa w)
    refine ok_eq (top_of h (by omega)) ?_
    unfold mayN
    rw [Nat.add_sub_cancel]
    by_cases q : rk (wa w) ≤ 3
    · exact Or.inl ⟨if_pos (Or.inr q), fun z => by have := (nI_ltI (a := 3) (b := rk (wa w)) (by omega) (by omega)).mp z; omega⟩
    · exact Or.inr ⟨if_neg (fun z => z.elim (by omega) q), (nI_ltI (a := 3) (b := rk (wa w)) (by omega) (by omega)).mpr (by omega)⟩
theorem part_of {ph f tk tp M : St} {N p fr : Nat} (h : LSt ph f tk tp M N p fr 1) : ok (fX5_takePart ph f tk) (fun r => stepR f tk tp M N p fr r (fX12_leafRead M)) := by
  obtain ⟨hP, h48, w, op, n, c, wa, e, hp, he⟩ := h
  obtain ⟨rfl, _, h49⟩ : e = 0 ∧ (1 : Int32) = 1 ∧ gI M 49 = mayN w wa := by
    rcases he with x | ⟨_, x⟩
    · exact x
    · exact absurd x i10
  have hp' := hp
  obtain ⟨hw, ⟨o1, o2, o3, o4⟩, ⟨s1, s2⟩, ⟨c1, c2, c3, c4, c5⟩, hsum, hK, hH, hl⟩ := hp'
  have zl := cntz_le wa w
  have h10 : gI M 10 = nI p := hP.2.2.2.1
  -- what cannot stand there
  have bad : (fX12_isSign M 40 = 0) → (fX12_isKey M 12 = 0 ∨ gI M 49 = 0) → fX12_nameMet M = -1 → ¬ gI M 8 = 3 → stepR f tk tp M N p fr ((1 : Int32), sI ph 5 1, f) (fX12_leafRead M) := fun a b c' d => stepF (cc := 1) (by decide) rfl h10 HF.rf (leaf_bad a b c' d)
  unfold fX5_takePart
  refine ok_lt ?_
  rcases hP.2.2.2.2.2 with ⟨a, b⟩ | ⟨a, b, v, w', e1, e2, hv, hw', hvw⟩ | ⟨a, b, t, ht, e1, e2⟩ | ⟨a, b, e1⟩ | ⟨a, j, j1, j2, e1, ⟨_, b, e2⟩ | ⟨_, b, e2⟩⟩ | ⟨a, b, e1⟩ | ⟨a, b, e1⟩ | ⟨a, b, e1⟩ | ⟨a, b⟩
  · rw [a]
    exact ok_f (by decide) (ok_f (by decide) (ok_f (by decide) (ok_lt (ok_some (bad (sign_0 (fun z => absurd (b.symm.trans z.1) (by decide))) (Or.inl (key_0 (fun z => absurd (b.symm.trans z.1) (by decide)))) (met_n (by rw [b]; decide)) (by rw [b]; decide))))))
  · -- a number
    rw [a]
    have k0 : ¬ gI tk 4 = 0 := by rw [a]; decide
    have sg : fX12_isSign M 40 = 0 := sign_0 (fun z => absurd (b.symm.trans z.1) (by decide))
    have ky : fX12_isKey M 12 = 0 := key_0 (fun z => absurd (b.symm.trans z.1) (by decide))
    have mt : fX12_nameMet M = -1 := met_n (by rw [b]; decide)
    refine ok_t rfl ?_
    rw [e1]
    by_cases sm : w' ≤ 9999
    · have ev : v = w' := hvw (Or.inr (by omega))
      rw [if_neg (show ¬ (9999 : Int32) < nI v from fun z => by have := (nI_ltI (a := 9999) (b := v) (by omega) (by omega)).mp z; omega)]
      refine ok_lt (ok_lt ?_)
      exact leaf_step (small := 1) (t := 0) hP k0 hp (by decide) sg ky mt (Or.inl ⟨by decide, b, by rw [e2]; exact (nI_leI (a := w') (b := 9999) (by omega) (by omega)).mpr sm, rfl, by rw [e2, ev]⟩) (fun _ => ⟨v, by omega, by omega, rfl⟩) (fun z => absurd z (by decide))
    · have bv : 9999 < v := by
        rcases Nat.lt_or_ge 99999 v with z | z
        · omega
        · have := hvw (Or.inl z); omega
      rw [if_pos (show (9999 : Int32) < nI v from (nI_ltI (a := 9999) (b := v) (by omega) (by omega)).mpr bv)]
      obtain ⟨u, eu⟩ := add_s (x := 0) (y := nI v) s1 (by omega)
      refine ok_lt (ok_lt (ok_bindx eu (ok_some (stepF (cc := 2) (by decide) ?_ h10 HF.rf ?_))))
      · show gI (fX5_addKnot ph 0) 5 = 2
        rw [addK_t c1 c4 c3, if_pos (Or.inr rfl)]; rfl
      · unfold fX12_leafRead
        rw [mt]
        have n9 : ¬ gI M 9 ≤ (9999 : Int32) := by rw [e2]; exact fun z => sm ((nI_leI (a := w') (b := 9999) (by omega) (by omega)).mp z)
        refine ok_t sg (ok_lt (ok_t ky (ok_lt (ok_lt (ok_f (by decide) (ok_t b (ok_lt (ok_f (by decide) (ok_f n9 (ok_lt (ok_some ?_)))))))))))
        show (bz 0, wrM M 2) = _
        rw [bz0]
  · -- a word
    rw [a]
    have k0 : ¬ gI tk 4 = 0 := by rw [a]; decide
    have sg : fX12_isSign M 40 = 0 := sign_0 (fun z => absurd (b.symm.trans z.1) (by decide))
    have n3 : ¬ gI M 8 = 3 := by rw [b]; decide
    have mt := met_w b e1 ht
    refine ok_f (by decide) (ok_t rfl ?_)
    rw [e2]
    unfold fX5_takeWord
    have swl := sw_lt ht
    by_cases q13 : 13 ≤ t
    · have es : sw t = t := by unfold sw; rw [if_neg (by omega), if_neg (by omega)]
      have ky : fX12_isKey M 12 = 0 := key_0 (fun z => by
        have := z.2
        rw [e1] at this
        have := (nI_eq (a := t) (b := 12) (by omega) (by omega)).mp this; omega)
      rw [if_neg (by omega)] at mt
      rw [es]
      refine ok_bind (ok_f (show ¬ nI t < nI 13 by rw [nI_ltI (by omega) (by omega)]; omega) (ok_lt ?_))
      rw [show nI t - 13 = nI (t - 13) by rw [show (13 : Int32) = nI 13 from rfl, nI_sub q13]]
      refine ok_mono (leaf_step (small := 1) (t := 1) (v := nI (t - 13)) hP k0 hp (by decide) sg ky mt (Or.inr ⟨nI_pos (by omega), rfl, rfl⟩) (fun z => absurd z (by decide)) (fun _ => ⟨t - 13, by omega, by omega, rfl⟩)) (fun r hr => ok_some (stepBz hr))
    · rw [if_pos (by omega)] at mt
      have l13 : sw t < 13 := by unfold sw; split <;> (try split) <;> omega
      refine ok_bind (ok_t (show nI (sw t) < nI 13 by rw [nI_ltI (by omega) (by omega)]; exact l13) (ok_lt ?_))
      by_cases q12 : t = 12
      · subst q12
        rw [show sw 12 = 12 from rfl]
        refine ok_t rfl (ok_bind (ok_mono (top_any hw (by omega)) (fun r5 hr5 => ?_)))
        have ky : ¬ fX12_isKey M 12 = 0 := key_1 b e1
        rcases hr5 with ⟨y1, y2⟩ | ⟨y1, y2⟩
        · have m49 : ¬ gI M 49 = 0 := by rw [h49, y1]; exact i10
          refine ok_f y2 (ok_lt ?_)
          have ct := count_t c2 c3
          by_cases full : fr + c = 64
          · rw [addK_t c1 c4 c3, if_pos (Or.inl full)]
            obtain ⟨u, eu, eu5⟩ := hold_s (ph := sI (sI ph 3 (nI (c + 1))) 5 2) (x := 2) hw.1 (by omega)
            refine ok_bindx eu (ok_some (ok_some (stepF (cc := 2) (by decide) eu5 h10 HF.rf ?_)))
            unfold fX12_leafRead
            rw [ct, if_pos full]
            exact ok_t sg (ok_lt (ok_f ky (ok_f m49 (ok_lt (ok_t rfl (ok_some rfl))))))
          · rw [addK_t c1 c4 c3, if_neg (fun z => z.elim full (by decide))]
            have eh := hold_c (ph := sI ph 3 (nI (c + 1))) (x := 2) hw.1 (by omega)
            have ew := waits_c (M := sI M 47 (nI (fr + c + 1))) (x := 2) hw.2.1 (by omega)
            refine ok_bindx eh (ok_some (ok_some ?_))
            refine stepS (M2 := sI (sA (sI M 47 (nI (fr + c + 1))) 42 w 2) 44 (nI (w + 1))) (w := w + 1) (op := op) (n := n) (c := c + 1) (wa := wup wa w 2) (e := 0) c5 hP k0 (fun k x y => ?_) ?_ ?_ ?_ rfl ?_ ?_ (Or.inl ⟨rfl, bz1, ?_⟩) (fun M3 e3 => ?_)
            · rw [gI_sIn _ _ (by omega)]
              show gI (sI M 47 (nI (fr + c + 1))) k = _
              rw [gI_sIn _ _ (by omega)]
            · exact gA_sAr _ _ _ (by decide)
            · exact gA_sAr _ _ _ (by decide)
            · have f1 : HF fr M (sI M 47 (nI (fr + c + 1))) := HF.wI (by unfold hI; omega)
              have f2 : HF fr M (sA (sI M 47 (nI (fr + c + 1))) 42 w 2) := f1.tr HF.w42
              exact f2.tr (HF.wI (by unfold hI; omega))
            · refine ⟨hw.push (t := 2) (by decide) (by decide) rfl rfl rfl rfl, ⟨o1, o2, o3, by rw [cntz_up]; exact o4⟩, ⟨s1, s2⟩, ⟨rfl, rfl, by omega, c4, c5⟩, by omega, hK, hH, by rw [cntb_up]; exact hl⟩
            · show gI M 48 = bz 1
              rw [bz1]; exact h48
            · show gI M 49 = mayN (w + 1) (wup wa w 2)
              rw [h49, y1]
              unfold mayN
              rw [if_pos]
              refine Or.inr ?_
              rw [Nat.add_sub_cancel, wup_s]; decide
            · unfold fX12_leafRead
              rw [ct, if_neg full]
              exact ok_t sg (ok_lt (ok_f ky (ok_f m49 (ok_lt (ok_f i10 (ok_bindx ew (ok_bindx e3 (ok_some rfl))))))))
        · refine ok_t y2 (ok_lt (ok_some (ok_some ?_)))
          exact stepBz (bad sg (Or.inr (by rw [h49, y1])) mt n3)
      · have n12 : ¬ nI (sw t) = (12 : Int32) := fun z => by
          have z2 := (nI_eq (a := sw t) (b := 12) (by omega) (by omega)).mp z
          unfold sw at z2
          split at z2 <;> (try split at z2) <;> omega
        refine ok_f n12 (ok_lt (ok_some (ok_some ?_)))
        refine stepBz (bad sg (Or.inl (key_0 (fun z => ?_))) mt n3)
        have z2 := z.2
        rw [e1] at z2
        exact q12 ((nI_eq (a := t) (b := 12) (by omega) (by omega)).mp z2)
  · rw [a]
    exact ok_f (by decide) (ok_f (by decide) (ok_f (by decide) (ok_lt (ok_some (bad (sign_0 (fun z => absurd (b.symm.trans z.1) (by decide))) (Or.inl (key_0 (fun z => absurd (b.symm.trans z.1) (by decide)))) (met_n (by rw [b]; decide)) (by rw [b]; decide))))))
  · rw [a]
    exact ok_f (by decide) (ok_f (by decide) (ok_f (by decide) (ok_lt (ok_some (bad (sign_0 (fun z => absurd (b.symm.trans z.1) (by decide))) (Or.inl (key_0 (fun z => absurd (b.symm.trans z.1) (by decide)))) (met_n (by rw [b]; decide)) (by rw [b]; decide))))))
  · rw [a]
    have n40 : ¬ nI (sgj j) = (40 : Int32) := by
      unfold sgj
      split
      · decide
      · split
        · decide
        · split <;> decide
    exact ok_f (by decide) (ok_f (by decide) (ok_f (by decide) (ok_lt (ok_some (bad (sign_0 (by rw [e2]; exact fun z => n40 z.2)) (Or.inl (key_0 (fun z => absurd (b.symm.trans z.1) (by decide)))) (met_n (by rw [b]; decide)) (by rw [b]; decide))))))
  · -- a bracket
    rw [a]
    have k0 : ¬ gI tk 4 = 0 := by rw [a]; decide
    have sg : ¬ fX12_isSign M 40 = 0 := sign_1 b e1
    refine ok_f (by decide) (ok_f (by decide) (ok_t rfl (ok_bind ?_)))
    unfold fX5_takeBracket
    rw [o1]
    by_cases full : op = 8
    · refine ok_f (by rw [full]; decide) (ok_lt (ok_some (ok_some (stepF (cc := 2) (by decide) rfl h10 HF.rf ?_))))
      unfold fX12_leafRead
      refine ok_f sg (ok_t (by rw [o2, full]; rfl) (ok_lt (ok_some ?_)))
      show (bz 0, wrM M 2) = _
      rw [bz0]
    · rw [nI_1]
      have eh := hold_c (ph := sI ph 2 (nI (op + 1))) (x := 15) hw.1 (by omega)
      have ew := waits_c (M := sI M 46 (nI (op + 1))) (x := 0) hw.2.1 (by omega)
      refine ok_t (show nI op < nI 8 by rw [nI_ltI (by omega) (by omega)]; omega) (ok_lt (ok_lt (ok_bindx eh (ok_some (ok_some ?_)))))
      refine stepS (M2 := sI (sI (sA (sI M 46 (nI (op + 1))) 42 w 0) 44 (nI (w + 1))) 49 1) (w := w + 1) (op := op + 1) (n := n) (c := c) (wa := wup wa w 0) (e := 0) c5 hP k0 (fun k x y => ?_) ?_ ?_ ?_ rfl ?_ h48 (Or.inl ⟨rfl, rfl, ?_⟩) (fun M3 e3 => ?_)
      · rw [gI_sIn _ _ (by omega), gI_sIn _ _ (by omega)]
        show gI (sI M 46 (nI (op + 1))) k = _
        rw [gI_sIn _ _ (by omega)]
      · exact gA_sAr _ _ _ (by decide)
      · exact gA_sAr _ _ _ (by decide)
      · have f1 : HF fr M (sI M 46 (nI (op + 1))) := HF.wI (by unfold hI; omega)
        have f2 : HF fr M (sA (sI M 46 (nI (op + 1))) 42 w 0) := f1.tr HF.w42
        have f3 : HF fr M (sI (sA (sI M 46 (nI (op + 1))) 42 w 0) 44 (nI (w + 1))) := f2.tr (HF.wI (by unfold hI; omega))
        exact f3.tr (HF.wI (by unfold hI; omega))
      · refine ⟨hw.push (t := 0) (by decide) (by decide) rfl rfl rfl rfl, ⟨rfl, rfl, by omega, by rw [cntz_up, ← o4]; rfl⟩, ⟨s1, s2⟩, ⟨c1, c2, c3, c4, c5⟩, by omega, hK, hH, by rw [cntb_up]; exact hl⟩
      · show (1 : Int32) = mayN (w + 1) (wup wa w 0)
        unfold mayN
        rw [if_pos]
        refine Or.inr ?_
        rw [Nat.add_sub_cancel, wup_s]; decide
      · unfold fX12_leafRead
        rw [o2, nI_1]
        have n8 : ¬ nI op = (8 : Int32) := fun z => full ((nI_eq (a := op) (b := 8) (by omega) (by omega)).mp z)
        exact ok_f sg (ok_f n8 (ok_lt (ok_lt (ok_bindx ew (ok_lt (ok_bindx e3 (ok_some rfl)))))))
  · rw [a]
    exact ok_f (by decide) (ok_f (by decide) (ok_f (by decide) (ok_lt (ok_some (bad (sign_0 (by rw [e1]; exact fun z => absurd z.2 (by decide))) (Or.inl (key_0 (fun z => absurd (b.symm.trans z.1) (by decide)))) (met_n (by rw [b]; decide)) (by rw [b]; decide))))))
  · rw [a]
    exact ok_f (by decide) (ok_f (by decide) (ok_f (by decide) (ok_lt (ok_some (bad (sign_0 (by rw [e1]; exact fun z => absurd z.2 (by decide))) (Or.inl (key_0 (fun z => absurd (b.symm.trans z.1) (by decide)))) (met_n (by rw [b]; decide)) (by rw [b]; decide))))))
  · rw [a]
    refine ok_f (by decide) (ok_f (by decide) (ok_f (by decide) (ok_lt (ok_some ?_))))
    rcases b with b | ⟨b, e1⟩
    · exact bad (sign_0 (fun z => absurd (b.symm.trans z.1) (by decide))) (Or.inl (key_0 (fun z => absurd (b.symm.trans z.1) (by decide)))) (met_n (by rw [b]; decide)) (by rw [b]; decide)
    · exact bad (sign_0 (by rw [e1]; exact fun z => absurd z.2 (by decide))) (Or.inl (key_0 (fun z => absurd (b.symm.trans z.1) (by decide)))) (met_n (by rw [b]; decide)) (by rw [b]; decide)
