/-! all lines -/
def j9M (x7 : Int32) (u8 : St) : Option (Int32 × St) := if x7 = 0 then (some ((0 : Int32), u8)) else if (fX12_isSign u8 (59 : Int32)) = 0 then (lt (fX12_wrong u8 (1 : Int32)) fun r14 => some ((bz r14.1), r14.2)) else (fX12_token u8).bind fun r12 => some ((1 : Int32), r12)
theorem lineRead_eq (M : St) : fX12_lineRead M = lt (lt (fX12_wrong M (1 : Int32)) fun r2 => some ((bz r2.1), r2.2)) fun j1 => if (gI M 8) = (1 : Int32) then (if (gI M 9) ≤ (6 : Int32) then (lt (gI M 9) fun x6 => lt j9M fun j9 => if x6 = 0 then ((fX12_actLine M).bind fun r17 => lt r17.1 fun x19 => j9 x19 (r17.2)) else if x6 = 1 then ((fX12_guestLine M).bind fun r21 => lt r21.1 fun x23 => j9 x23 (r21.2)) else if x6 = 2 then ((fX12_grainLine M).bind fun r25 => lt r25.1 fun x27 => j9 x27 (r25.2)) else if x6 = 3 then ((fX12_showLine M).bind fun r29 => lt r29.1 fun x31 => j9 x31 (r29.2)) else if x6 = 4 then ((fX12_onceLine M (0 : Int32) (100 : Int32)).bind fun r33 => lt r33.1 fun x35 => j9 x35 (r33.2)) else if x6 = 5 then ((fX12_onceLine M (1 : Int32) (99999 : Int32)).bind fun r37 => lt r37.1 fun x39 => j9 x39 (r37.2)) else (fX12_token M).bind fun r40 => lwM j9 r40) else j1) else j1 := rfl
theorem law_line {S : Nat → St} {rd tk tp ph M : St} {N p na ng nr ns kn : Nat} (hP : PS tk tp M N p) (hk : ¬ gI tk 4 = 0) (h3 : gI rd 3 = 0) (hR : RD S M na ng nr ns kn) : ok (fX6_readLaw 700 rd tk tp ph S) (fun r => ∃ r' : Int32 × St, LNP S rd tk tp M N p r.1 r.2.1 r.2.2.2 r'.1 r'.2 ∧ ∀ Q : Int32 × St → Prop, ok (j9M r'.1 r'.2) Q → ok ((fX12_token M).bind fun r40 => lwM j9M r40) Q) := by
  rw [readLaw_eq]
  refine ok_bind (ok_mono (nextP hP) (fun t1 ht => ok_lt ?_))
  obtain ⟨M1, eM1, a1, a2, p1, b1, b2, hP1⟩ := ht
  have p01 := b2 hk
  have hR1 : RD S M1 na ng nr ns kn := hR.Q a2.m
  have no : ∀ x4 : Int32, x4 = 0 → (¬ gI M1 8 = 1 ∨ gI M1 9 < 7 ∨ ¬ gI M1 9 ≤ 9) → ok (lt x4 fun x4 => lt (fX6_isDue rd t1 x4) fun r5 => if r5.1 = 0 then (some (r5.2, t1, ph, S)) else if (gI t1 5 - 7) = 0 then lwC S r5.2 t1 ph tp 5 else if (gI t1 5 - 7) = 1 then lwC S r5.2 t1 ph tp 6 else if (gI t1 5 - 7) = 2 then lwC S r5.2 t1 ph tp 7 else none) (fun r => ∃ r' : Int32 × St, LNP S rd tk tp M N p r.1 r.2.1 r.2.2.2 r'.1 r'.2 ∧ ∀ Q : Int32 × St → Prop, ok (j9M r'.1 r'.2) Q → ok ((fX12_token M).bind fun r40 => lwM j9M r40) Q) := by
    intro x4 e hn
    subst e
    refine ok_lt ?_
    rw [due_0 h3]
    refine ok_lt (ok_t rfl (ok_some ⟨(0, wrM M1 1), ⟨a2.m.PF.tr (wr_fI M1 1).PF, MS.rf, a1, Or.inr ⟨rfl, FL.mk hP1 (by decide)⟩⟩, fun Q hQ => ok_bindx eM1 ?_⟩))
    have hQ' : Q (0, wrM M1 1) := by
      obtain ⟨a, ea, ha⟩ := hQ
      cases ea
      exact ha
    have j : ok (lt (fX12_wrong M1 (1 : Int32)) fun r43 => some ((bz r43.1), r43.2)) Q := ok_lt (ok_some (show Q (bz 0, wrM M1 1) from by rw [bz0]; exact hQ'))
    unfold lwM
    refine ok_lt (ok_if (fun c1 => ok_if (fun _ => j) (fun c2 => ok_if (fun c3 => ?_) (fun _ => j))) (fun _ => j))
    rcases hn with z | z | z
    · exact absurd c1 z
    · exact absurd z c2
    · exact absurd c3 z
  rcases kind_word hP1.2.2.2.2.2 with ⟨k1, k2, w, hw, e1, e2⟩ | ⟨k1, k2⟩
  rotate_left
  · rw [if_neg k1]
    exact no 0 rfl (Or.inl k2)
  rw [if_pos k1]
  by_cases q7 : w < 7
  · have es : sw w = w := by unfold sw; rw [if_neg (by omega), if_neg (by omega)]
    refine no _ ?_ (Or.inr (Or.inl (by rw [e1]; exact (nI_ltI (a := w) (b := 7) (by omega) (by omega)).mpr q7)))
    rw [e2, es]
    have neg : nI w - 7 < 0 := by
      rcases (show w = 0 ∨ w = 1 ∨ w = 2 ∨ w = 3 ∨ w = 4 ∨ w = 5 ∨ w = 6 by omega) with rfl | rfl | rfl | rfl | rfl | rfl | rfl <;> decide
    rw [if_pos neg]
  by_cases q9 : w ≤ 9
  rotate_left
  · have sl : 10 ≤ sw w := by unfold sw; split <;> (try split) <;> omega
    have swl := sw_lt hw
    refine no _ ?_ (Or.inr (Or.inr (by rw [e1]; exact fun z => q9 ((nI_leI (a := w) (b := 9) (by omega) (by omega)).mp z))))
    rw [e2, show (7 : Int32) = nI 7 from rfl, nI_sub (by omega), if_neg (nI_pos (by omega)), if_pos (show (2 : Int32) < nI (sw w - 7) from (nI_ltI (a := 2) (by omega) (by omega)).mpr (by omega))]
  have es : sw w = w := by unfold sw; rw [if_neg (by omega), if_neg (by omega)]
  obtain ⟨k, hk3, rfl⟩ : ∃ k, k < 3 ∧ w = 7 + k := ⟨w - 7, by omega, by omega⟩
  have e5 : gI t1 5 - 7 = nI k := by rw [e2, es, show (7 : Int32) = nI 7 from rfl, nI_sub (by omega)]; congr 1; omega
  rw [e5, if_neg (nI_pos (by omega)), if_neg (show ¬ (2 : Int32) < nI k from fun z => by have := (nI_ltI (a := 2) (b := k) (by omega) (by omega)).mp z; omega)]
  refine ok_lt ?_
  rw [due_1]
  refine ok_lt (ok_f i10 ?_)
  have fin := lw_line (ph := ph) hk3 hP1 (by rw [k1]; decide) h3 hR1 k2 e1
  have out : ok (lwC S rd t1 ph tp (5 + k)) (fun r => ∃ r' : Int32 × St, LNP S rd tk tp M N p r.1 r.2.1 r.2.2.2 r'.1 r'.2 ∧ ∀ Q : Int32 × St → Prop, ok (j9M r'.1 r'.2) Q → ok ((fX12_token M).bind fun r40 => lwM j9M r40) Q) := by
    refine ok_mono fin (fun r hr => ?_)
    obtain ⟨r', ⟨c1, c2, c3, c4⟩, d⟩ := hr
    refine ⟨r', ⟨a2.m.PF.tr c1, c2, a1.tr c3, ?_⟩, fun Q hQ => ok_bindx eM1 (d Q j9M (fun u => if_pos rfl) hQ)⟩
    rcases c4 with ⟨x1, x2, x3, x4, x5, ⟨p', x6, x7⟩, x8⟩ | x
    · exact Or.inl ⟨x1, x2, x3, x4.trans (a2.1 4 (by unfold mP; omega)), x5.trans (a2.1 5 (by unfold mP; omega)), ⟨p', by omega, x7⟩, x8⟩
    · exact Or.inr x
  rcases (show k = 0 ∨ k = 1 ∨ k = 2 by omega) with rfl | rfl | rfl
  · exact ok_t rfl out
  · exact ok_f (by decide) (ok_t rfl out)
  · exact ok_f (by decide) (ok_f (by decide) (ok_t rfl out))
/-- a line up to its end -/
theorem line_of {S : Nat → St} {rd tk tp ph M : St} {N p na ng nr ns kn : Nat} (hP : PS tk tp M N p) (hk : ¬ gI tk 4 = 0) (h3 : gI rd 3 = 0) (hR : RD S M na ng nr ns kn) : ok (fX6_readLine 700 rd tk tp ph S) (fun r => ∃ r' : Int32 × St, LNP S rd tk tp M N p r.1 r.2.1 r.2.2.2 r'.1 r'.2 ∧ ∀ Q : Int32 × St → Prop, ok (j9M r'.1 r'.2) Q → ok (fX12_lineRead M) Q) := by
  unfold fX6_readLine
  have no : ∀ x1 : Int32, x1 = 0 → (¬ gI M 8 = 1 ∨ ¬ gI M 9 ≤ 6) → ok (lt (fX6_isDue rd tk x1) fun r2 => if r2.1 = 0 then (some (r2.2, tk, ph, S)) else lt (gI tk 5) fun x5 => if x5 = 0 then ((fX6_readThing 700 6 r2.2 tk tp (S 1) (1 : Int32) (-1 : Int32)).bind fun r7 => some (r7.1, r7.2.1, ph, (va_up S 1 r7.2.2))) else if x5 = 1 then ((fX6_readThing 700 6 r2.2 tk tp (S 2) (0 : Int32) (-1 : Int32)).bind fun r10 => some (r10.1, r10.2.1, ph, (va_up S 2 r10.2.2))) else if x5 = 2 then ((fX6_readThing 700 4 r2.2 tk tp (S 3) (0 : Int32) (99 : Int32)).bind fun r13 => some (r13.1, r13.2.1, ph, (va_up S 3 r13.2.2))) else if x5 = 3 then ((fX6_readShow 700 r2.2 tk tp S).bind fun r16 => some (r16.1, r16.2.1, ph, r16.2.2)) else if x5 = 4 then ((fX6_readCough 700 r2.2 tk tp S).bind fun r19 => some (r19.1, r19.2.1, ph, r19.2.2)) else if x5 = 5 then ((fX6_readSeed 700 r2.2 tk tp S).bind fun r22 => some (r22.1, r22.2.1, ph, r22.2.2)) else (fX6_readLaw 700 r2.2 tk tp ph S).bind fun r24 => some (r24.1, r24.2.1, r24.2.2.1, r24.2.2.2)) (fun r => ∃ r' : Int32 × St, LNP S rd tk tp M N p r.1 r.2.1 r.2.2.2 r'.1 r'.2 ∧ ∀ Q : Int32 × St → Prop, ok (j9M r'.1 r'.2) Q → ok (fX12_lineRead M) Q) := by
    intro x1 e hn
    subst e
    rw [due_0 h3]
    refine ok_lt (ok_t rfl (ok_some ⟨(0, wrM M 1), ⟨(wr_fI M 1).PF, MS.rf, fI.rf, Or.inr ⟨rfl, FL.mk hP (by decide)⟩⟩, fun Q hQ => ?_⟩))
    have hQ' : Q (0, wrM M 1) := by
      obtain ⟨a, ea, ha⟩ := hQ
      cases ea
      exact ha
    have j : ok (lt (fX12_wrong M (1 : Int32)) fun r2 => some ((bz r2.1), r2.2)) Q := ok_lt (ok_some (show Q (bz 0, wrM M 1) from by rw [bz0]; exact hQ'))
    rw [lineRead_eq]
    refine ok_lt (ok_if (fun c1 => ok_if (fun c2 => ?_) (fun _ => j)) (fun _ => j))
    rcases hn with z | z
    · exact absurd c1 z
    · exact absurd c2 z
  rcases kind_word hP.2.2.2.2.2 with ⟨k1, k2, w, hw, e1, e2⟩ | ⟨k1, k2⟩
  rotate_left
  · rw [if_neg k1]
    exact ok_lt (no 0 rfl (Or.inl k2))
  rw [if_pos k1]
  by_cases q7 : w < 7
  rotate_left
  · have sl : 7 ≤ sw w := by unfold sw; split <;> (try split) <;> omega
    have swl := sw_lt hw
    rw [e2, if_pos (show (7 : Int32) ≤ nI (sw w) from (nI_leI (a := 7) (by omega) (by omega)).mpr sl)]
    refine ok_lt ?_
    have := no 0 rfl (Or.inr (by rw [e1]; exact fun z => q7 (by have := (nI_leI (a := w) (b := 6) (by omega) (by omega)).mp z; omega)))
    rw [e2] at this
    exact this
  have es : sw w = w := by unfold sw; rw [if_neg (by omega), if_neg (by omega)]
  rw [e2, es, if_neg (show ¬ (7 : Int32) ≤ nI w from fun z => by have := (nI_leI (a := 7) (b := w) (by omega) (by omega)).mp z; omega)]
  refine ok_lt ?_
  rw [due_1]
  refine ok_lt (ok_f i10 (ok_lt ?_))
  have pre : ∀ {Q : Int32 × St → Prop}, ok (if nI w = 0 then ((fX12_actLine M).bind fun r17 => lt r17.1 fun x19 => j9M x19 (r17.2)) else if nI w = 1 then ((fX12_guestLine M).bind fun r21 => lt r21.1 fun x23 => j9M x23 (r21.2)) else if nI w = 2 then ((fX12_grainLine M).bind fun r25 => lt r25.1 fun x27 => j9M x27 (r25.2)) else if nI w = 3 then ((fX12_showLine M).bind fun r29 => lt r29.1 fun x31 => j9M x31 (r29.2)) else if nI w = 4 then ((fX12_onceLine M (0 : Int32) (100 : Int32)).bind fun r33 => lt r33.1 fun x35 => j9M x35 (r33.2)) else if nI w = 5 then ((fX12_onceLine M (1 : Int32) (99999 : Int32)).bind fun r37 => lt r37.1 fun x39 => j9M x39 (r37.2)) else (fX12_token M).bind fun r40 => lwM j9M r40) Q → ok (fX12_lineRead M) Q := by
    intro Q h
    rw [lineRead_eq, e1]
    exact ok_lt (ok_t k2 (ok_t (show nI w ≤ nI 6 from (nI_leI (by omega) (by omega)).mpr (by omega)) (ok_lt (ok_lt h))))
  rcases (show w = 0 ∨ w = 1 ∨ w = 2 ∨ w = 3 ∨ w = 4 ∨ w = 5 ∨ w = 6 by omega) with rfl | rfl | rfl | rfl | rfl | rfl | rfl
  · refine ok_t rfl (ok_bind (ok_mono (act_line hP hk h3 hR) (fun r hr => ok_some ?_)))
    obtain ⟨r', er', h⟩ := hr
    exact ⟨r', h, fun Q hQ => pre (ok_t rfl (ok_bindx er' (ok_lt hQ)))⟩
  · refine ok_f (by decide) (ok_t rfl (ok_bind (ok_mono (guest_line hP hk h3 hR) (fun r hr => ok_some ?_))))
    obtain ⟨r', er', h⟩ := hr
    exact ⟨r', h, fun Q hQ => pre (ok_f (by decide) (ok_t rfl (ok_bindx er' (ok_lt hQ))))⟩
  · refine ok_f (by decide) (ok_f (by decide) (ok_t rfl (ok_bind (ok_mono (grain_line hP hk h3 hR) (fun r hr => ok_some ?_)))))
    obtain ⟨r', er', h⟩ := hr
    exact ⟨r', h, fun Q hQ => pre (ok_f (by decide) (ok_f (by decide) (ok_t rfl (ok_bindx er' (ok_lt hQ)))))⟩
  · refine ok_f (by decide) (ok_f (by decide) (ok_f (by decide) (ok_t rfl (ok_bind (ok_mono (show_line hP hk h3 hR) (fun r hr => ok_some ?_))))))
    obtain ⟨r', er', h⟩ := hr
    exact ⟨r', h, fun Q hQ => pre (ok_f (by decide) (ok_f (by decide) (ok_f (by decide) (ok_t rfl (ok_bindx er' (ok_lt hQ))))))⟩
  · refine ok_f (by decide) (ok_f (by decide) (ok_f (by decide) (ok_f (by decide) (ok_t rfl (ok_bind (ok_mono (cough_line hP hk h3 hR) (fun r hr => ok_some ?_)))))))
    obtain ⟨r', er', h⟩ := hr
    exact ⟨r', h, fun Q hQ => pre (ok_f (by decide) (ok_f (by decide) (ok_f (by decide) (ok_f (by decide) (ok_t rfl (ok_bindx er' (ok_lt hQ)))))))⟩
  · refine ok_f (by decide) (ok_f (by decide) (ok_f (by decide) (ok_f (by decide) (ok_f (by decide) (ok_t rfl (ok_bind (ok_mono (seed_line hP hk h3 hR) (fun r hr => ok_some ?_))))))))
    obtain ⟨r', er', h⟩ := hr
    exact ⟨r', h, fun Q hQ => pre (ok_f (by decide) (ok_f (by decide) (ok_f (by decide) (ok_f (by decide) (ok_f (by decide) (ok_t rfl (ok_bindx er' (ok_lt hQ))))))))⟩
  · refine ok_f (by decide) (ok_f (by decide) (ok_f (by decide) (ok_f (by decide) (ok_f (by decide) (ok_f (by decide) (ok_bind (ok_mono (law_line hP hk h3 hR) (fun r hr => ok_some ?_))))))))
    obtain ⟨r', h, hj⟩ := hr
    exact ⟨r', h, fun Q hQ => pre (ok_f (by decide) (ok_f (by decide) (ok_f (by decide) (ok_f (by decide) (ok_f (by decide) (ok_f (by decide) (hj Q hQ)))))))⟩
/-- all lines -/
theorem all_L {tp : St} {N : Nat} (hN : N ≤ 700) : ∀ (nf nf2 i p ln : Nat) (rd tk ph : St) (S : Nat → St) (M : St), N - p < nf → N - p < nf2 → i ≤ p → gI rd 3 = 0 → PS tk tp M N p → (∃ na ng nr ns kn, RD S M na ng nr ns kn) → gI (S 0) 10 = nI ln → ok (fX6_readAll_L1 tp 700 (nI N) nf (nI i) rd tk ph S) (fun y => MS S y.2.2.2 ∧ fI tP tk y.2.1 ∧ ok (fX12_text_L1 nf2 (nI ln) M) (fun y' => (∃ ln' M', y' = .inl (nI ln', M') ∧ y.1 = rd ∧ PF M M' ∧ gI M' 4 = gI M 4 ∧ gI M' 5 = gI M 5 ∧ (∃ na ng nr ns kn, RD y.2.2.2 M' na ng nr ns kn) ∧ gI (y.2.2.2 0) 10 = nI ln') ∨ (∃ M', y' = .inr (-1, M') ∧ PF M M' ∧ FL y.1 M')))
  | 0, _, _, _, _, _, _, _, _, _, h, _, _, _, _, _, _ => absurd h (by omega)
  | nf + 1, 0, _, _, _, _, _, _, _, _, _, h, _, _, _, _, _ => absurd h (by omega)
  | nf + 1, nf2 + 1, i, p, ln, rd, tk, ph, S, M, g1, g2, hi, h3, hP, hR, hln => by
    rw [fX6_readAll_L1, fX12_text_L1]
    have pN : p ≤ N := hP.2.1
    have stop : gI M 8 = 0 → MS S S ∧ fI tP tk tk ∧ ok (if (gI M 8) = 0 then (some (.inl (nI ln, M))) else (fX12_lineRead M).bind fun r16 => if r16.1 = 0 then (some (.inr ((-1 : Int32), r16.2))) else lt (nI ln + 1) fun x19 => fX12_text_L1 nf2 x19 (r16.2)) (fun y' => (∃ ln' M', y' = .inl (nI ln', M') ∧ rd = rd ∧ PF M M' ∧ gI M' 4 = gI M 4 ∧ gI M' 5 = gI M 5 ∧ (∃ na ng nr ns kn, RD S M' na ng nr ns kn) ∧ gI (S 0) 10 = nI ln') ∨ (∃ M', y' = .inr (-1, M') ∧ PF M M' ∧ FL rd M')) := fun z => ⟨MS.rf, fI.rf, ok_t z (ok_some (Or.inl ⟨ln, M, rfl, rfl, PF.rf, rfl, rfl, hR, hln⟩))⟩
    obtain ⟨_, _, _, ⟨q, q1, q2, q3, q4, q5⟩, kd⟩ := hP.2
    rcases kind_end kd with ⟨e1, e2⟩ | ⟨e1, e2⟩
    · refine ok_if (fun _ => ok_some (stop e2)) (fun _ => ok_t h3 (ok_t e1 (ok_some (stop e2))))
    · have pq := q5 e1
      refine ok_f (show ¬ nI N ≤ nI i by rw [nI_leI (by omega) (by omega)]; omega) (ok_t h3 (ok_f e1 ?_))
      obtain ⟨na, ng, nr, ns, kn, hR'⟩ := hR
      refine ok_bind (ok_mono (line_of (ph := ph) hP e1 h3 hR') (fun r hr => ok_lt ?_))
      obtain ⟨r', ⟨c1, c2, c3, c4⟩, hj⟩ := hr
      -- a fault ends it
      have dead : ∀ (rd' tk' : St) (S' : Nat → St), ¬ gI rd' 3 = 0 → fX6_readAll_L1 tp 700 (nI N) nf (nI i + 1) rd' tk' r.2.2.1 S' = some (rd', tk', r.2.2.1, S') := by
        intro rd' tk' S' hd
        obtain ⟨nf, rfl⟩ : ∃ k, nf = k + 1 := ⟨nf - 1, by omega⟩
        rw [fX6_readAll_L1]
        by_cases z : nI N ≤ nI i + 1
        · rw [if_pos z]
        · rw [if_neg z, if_neg hd]
      rcases c4 with ⟨x1, x2, x3, x4, x5, ⟨p', x6, x7⟩, x8, x9⟩ | ⟨x1, x2⟩
      · refine ok_t x2 ?_
        have st := stop_iff x7.2.2.2.2.2
        by_cases k7 : gI r.2.1 4 = 7
        · rw [if_pos k7]
          refine ok_lt ?_
          rw [due_1]
          refine ok_lt (ok_f i10 (ok_lt (ok_lt (ok_bind (ok_mono (nextP x7) (fun t2 ht2 => ok_lt ?_))))))
          obtain ⟨M2, eM2, d1, d2, p2, d3, d4, hP2⟩ := ht2
          have p2N : p2 ≤ N := hP2.2.1
          rw [nI_1]
          have l10 : gI (r.2.2.2 0) 10 + 1 = nI (ln + 1) := by rw [x9, hln, nI_1]
          rw [l10]
          have hR2 : ∃ na ng nr ns kn, RD (va_up r.2.2.2 0 (sI (r.2.2.2 0) 10 (nI (ln + 1)))) M2 na ng nr ns kn := by
            obtain ⟨na, ng, nr, ns, kn, h⟩ := x8
            refine ⟨na, ng, nr, ns, kn, ?_⟩
            have h2 := h.Q d2.m
            obtain ⟨y1, y2, y3, y4, y5, y6, y7, y8, y9⟩ := h2
            exact ⟨y1, y2, y3, y4, y5, y6, y7, y8, y9⟩
          refine ok_mono (all_L hN nf nf2 (i + 1) p2 (ln + 1) r.1 t2 r.2.2.1 (va_up r.2.2.2 0 (sI (r.2.2.2 0) 10 (nI (ln + 1)))) M2 (by omega) (by omega) (by omega) x2 hP2 hR2 (by rw [vu_s]; rfl)) (fun y hy => ?_)
          obtain ⟨z1, z2, z3⟩ := hy
          have msu : MS r.2.2.2 (va_up r.2.2.2 0 (sI (r.2.2.2 0) 10 (nI (ln + 1)))) := fun j h1 _ => by rw [vu_n _ _ (by omega)]
          refine ⟨(c2.tr msu).tr z1, (c3.tr d1).tr z2, ok_f e2 (ok_bind ?_)⟩
          refine hj _ ?_
          unfold j9M
          refine ok_f (by rw [x1]; exact i10) (ok_f (st.mp k7) (ok_bindx eM2 (ok_some (ok_f i10 (ok_lt ?_)))))
          rw [nI_1]
          refine ok_mono z3 (fun y' hy' => ?_)
          rcases hy' with ⟨ln', M', w1, w2, w3, w4, w5, w6, w7⟩ | ⟨M', w1, w2, w3⟩
          · exact Or.inl ⟨ln', M', w1, w2.trans x3, (c1.tr d2.m.PF).tr w3, w4.trans ((d2.1 4 (by unfold mP; omega)).trans x4), w5.trans ((d2.1 5 (by unfold mP; omega)).trans x5), w6, w7⟩
          · exact Or.inr ⟨M', w1, (c1.tr d2.m.PF).tr w2, w3⟩
        · rw [if_neg k7]
          have ns : fX12_isSign r'.2 59 = 0 := by
            by_cases z : fX12_isSign r'.2 59 = 0
            · exact z
            · exact absurd (st.mpr z) k7
          refine ok_lt ?_
          rw [due_0 x2]
          refine ok_lt (ok_t rfl (ok_lt ?_))
          refine ok_eq (dead _ _ _ (show ¬ (1 : Int32) = 0 from i10)) ⟨c2, c3, ok_f e2 (ok_bind (hj _ ?_))⟩
          unfold j9M
          refine ok_f (by rw [x1]; exact i10) (ok_t ns (ok_lt (ok_some ?_)))
          refine ok_t bz0 (ok_some (Or.inr ⟨wrM r'.2 1, rfl, c1.tr (wr_fI r'.2 1).PF, FL.mk x7 (by decide)⟩))
      · refine ok_f x2.ne (ok_lt ?_)
        refine ok_eq (dead _ _ _ x2.ne) ⟨c2, c3, ok_f e2 (ok_bind (hj _ ?_))⟩
        unfold j9M
        exact ok_t x1 (ok_some (ok_t rfl (ok_some (Or.inr ⟨r'.2, rfl, c1, x2⟩))))
