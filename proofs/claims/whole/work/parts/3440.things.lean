/-! things of one kind -/
def tl (n : Nat) (ur t tp : St) (nm a b : Int32) (u7 : St) : Option (St × St × St) := (fX6_passName 700 u7 t tp).bind fun r9 => lt (if b = (-1 : Int32) then ((9 : Int32)) else b) fun x11 => (fX6_readNumber 700 u7 r9 tp (0 : Int32) x11).bind fun r12 => lt r12.1 fun x14 => (fX6_readNumber 700 r12.2.1 r12.2.2 tp a x11).bind fun r15 => lt r15.1 fun x17 => lt (fun (x18 : Int32) (u19 : St) (u20 : St) => if (gI u19 3) = 0 then ((fX7_add n ur nm x14 x17 x18).bind fun r23 => some (u19, u20, r23)) else some (u19, u20, ur)) fun j21 => if b = (-1 : Int32) then (j21 (0 : Int32) (r15.2.1) (r15.2.2)) else (fX6_readNumber 700 r15.2.1 r15.2.2 tp (0 : Int32) b).bind fun r26 => j21 (r26.1) (r26.2.1) (r26.2.2)
theorem thing_eq (n : Nat) (rd tk tp ur : St) (a b : Int32) : fX6_readThing 700 n rd tk tp ur a b = if (fX7_isFull n ur) = 0 then ((fX10_next 700 tk tp).bind fun r2 => lt (fX6_readName rd r2) fun r4 => lt r4.1 fun x6 => lt (tl n ur r2 tp x6 a b) fun j8 => if (gI r4.2 3) = 0 then ((fX7_find n ur x6).bind fun r30 => if r30 = (-1 : Int32) then (j8 (r4.2)) else lt (fX6_blame r4.2 r2 (3 : Int32)) fun r32 => j8 r32) else j8 (r4.2)) else lt (fX6_blame rd tk (2 : Int32)) fun r34 => some (r34, tk, ur) := rfl
theorem tl_dead {n : Nat} {ur t tp u7 : St} {nm a b : Int32} (h : ¬ gI u7 3 = 0) : tl n ur t tp nm a b u7 = some (u7, t, ur) := by
  unfold tl
  refine bd_c (pass_no h) (lt_c (bd_c (number_no h) (lt_c (bd_c (number_no h) (lt_c (lt_c ?_))))))
  by_cases c : b = -1
  · rw [if_pos c]; exact if_neg h
  · exact fn c (bd_c (number_no h) (if_neg h))
theorem tl_2 {n : Nat} {ur t tp u7 : St} {nm a : Int32} (h : gI u7 3 = 0) : tl n ur t tp nm a (-1) u7 = (fX10_next 700 t tp).bind fun r9 => (fX6_readNumber 700 u7 r9 tp (0 : Int32) 9).bind fun r12 => (fX6_readNumber 700 r12.2.1 r12.2.2 tp a 9).bind fun r15 => if (gI r15.2.1 3) = 0 then ((fX7_add n ur nm r12.1 r15.1 0).bind fun r23 => some (r15.2.1, r15.2.2, r23)) else some (r15.2.1, r15.2.2, ur) := by
  unfold tl
  rw [pass_yes h]
  rfl
theorem tl_3 {n : Nat} {ur t tp u7 : St} {nm a : Int32} (h : gI u7 3 = 0) : tl n ur t tp nm a 99 u7 = (fX10_next 700 t tp).bind fun r9 => (fX6_readNumber 700 u7 r9 tp (0 : Int32) 99).bind fun r12 => (fX6_readNumber 700 r12.2.1 r12.2.2 tp a 99).bind fun r15 => (fX6_readNumber 700 r15.2.1 r15.2.2 tp (0 : Int32) 99).bind fun r26 => if (gI r26.2.1 3) = 0 then ((fX7_add n ur nm r12.1 r15.1 r26.1).bind fun r23 => some (r26.2.1, r26.2.2, r23)) else some (r26.2.1, r26.2.2, ur) := by
  unfold tl
  rw [pass_yes h]
  rfl
theorem fI.mQ {M M' : St} (h : fI mP M M') {k : Nat} (hk : ¬ mP k) : gI M' k = gI M k := h.1 k hk
theorem act_line {S : Nat → St} {rd tk tp M : St} {N p na ng nr ns kn : Nat} (hP : PS tk tp M N p) (hk : ¬ gI tk 4 = 0) (h3 : gI rd 3 = 0) (hR : RD S M na ng nr ns kn) : ok (fX6_readThing 700 6 rd tk tp (S 1) (1 : Int32) (-1 : Int32)) (fun r => ok (fX12_actLine M) (fun r' => LNP S rd tk tp M N p r.1 r.2.1 (va_up S 1 r.2.2) r'.1 r'.2)) := by
  obtain ⟨⟨z1, z2, z3, z4⟩, Ra, Rg, Rr, Rs, Rm, l0, l1, l2⟩ := hR
  have m0 : gI (S 1) 0 = nI 6 := z2.1
  have m5 : gI (S 1) 5 = nI na := z3.1
  have n6 : na ≤ 6 := z1.1
  have i17 : gI M 17 = nI na := z4.1
  rw [thing_eq]
  unfold fX12_actLine
  rw [full_c (n := 6) m0 m5 (by omega) n6, i17]
  by_cases full : na = 6
  · rw [if_pos full, blame_0 h3]
    exact ok_f i10 (ok_lt (ok_some (ok_t (by rw [full]; rfl) (ok_lt (ok_some ⟨(wr_fI M 2).PF, MS.up rfl, fI.rf, Or.inr ⟨bz0, FL.mk hP (by decide)⟩⟩)))))
  rw [if_neg full]
  have nf : ¬ nI na = (6 : Int32) := fun z => full ((nI_eq (a := na) (b := 6) (by omega) (by omega)).mp z)
  refine ok_t rfl (ok_bind (ok_mono (nextP hP) (fun t1 ht => ok_lt (ok_lt (ok_lt ?_)))))
  obtain ⟨M1, eM1, a1, a2, p1, b1, b2, hP1⟩ := ht
  have p01 := b2 hk
  have i171 : gI M1 17 = nI na := (a2.1 17 (by unfold mP; omega)).trans i17
  have mk0 : ∀ (rd' tk' M' : St), fI tP tk tk' → PF M M' → FL rd' M' → LNP S rd tk tp M N p rd' tk' (va_up S 1 (S 1)) 0 M' := fun rd' tk' M' x1 x2 x3 => ⟨x2, MS.up rfl, x1, Or.inr ⟨rfl, x3⟩⟩
  rcases kind_name hP1.2.2.2.2.2 with ⟨k1, k2, k5⟩ | ⟨k1, k2⟩
  rotate_left
  · rw [name_no k1 h3]
    refine ok_f (show ¬ (1 : Int32) = 0 from i10) (ok_eq (tl_dead (show ¬ (1 : Int32) = 0 from i10)) ?_)
    refine ok_f nf (ok_bindx eM1 ?_)
    unfold fX12_newName_act
    exact ok_bind (ok_f k2 (ok_lt (ok_some (ok_t bz0 (ok_some (mk0 _ _ _ a1 (a2.m.PF.tr (wr_fI M1 1).PF) (FL.mk hP1 (by decide))))))))
  rw [name_yes k1]
  refine ok_t h3 (ok_bindx (find_eq m5 n6 (by omega)) ?_)
  have ef : fX12_find 12 (vwA M1 24) 6 (nI na) (gI M1 9) = some (fnd (gA (S 1) 1) (gI t1 5) na 0) := by
    rw [show (6 : Int32) = nI 6 from rfl, mfind_eq (by omega) (by omega), k5]
    refine congrArg some (fnd_cong na 0 (fun k _ hk2 => ?_))
    show gA M1 24 (6 + k) = gA (S 1) 1 k
    rw [a2.A]
    exact (Ra k (by omega)).1.symm
  rcases fnd_or (gA (S 1) 1) (gI t1 5) na 0 with q | ⟨j, _, hj, q⟩
  rotate_left
  · rw [q]
    rw [q] at ef
    refine ok_f (nI_nn (by omega)) ?_
    rw [blame_0 h3]
    refine ok_lt (ok_eq (tl_dead (show ¬ (3 : Int32) = 0 by decide)) (ok_f nf (ok_bindx eM1 ?_)))
    unfold fX12_newName_act
    rw [i171]
    exact ok_bind (ok_t k2 (ok_bindx ef (ok_f (nI_pos (by omega)) (ok_lt (ok_some (ok_t bz0 (ok_some (mk0 _ _ _ a1 (a2.m.PF.tr (wr_fI M1 3).PF) (FL.mk hP1 (by decide))))))))))
  rw [q]
  rw [q] at ef
  refine ok_t rfl ?_
  rw [tl_2 h3]
  have c12 : ¬ (nI (6 + na) < 0 ∨ 12 ≤ 6 + na) := kx (by omega) (by decide)
  have e6 : (6 : Int32) + nI na = nI (6 + na) := by rw [show (6 : Int32) = nI 6 from rfl, nI_add]
  have w1 : PF M1 (sA M1 24 (6 + na) (gI t1 5)) := PF.wA (Or.inr (Or.inr (Or.inr ⟨by omega, by omega, Nat.le_add_right 6 na⟩)))
  refine ok_bind (ok_mono (nextP (hP1.wA (r := 24) (i := 6 + na) (v := gI t1 5) (by decide) (by decide))) (fun t2 ht2 => ?_))
  obtain ⟨M2, eM2, c1, c2, p2, c3, c4, hP2⟩ := ht2
  have p12 := c4 (by rw [k1]; decide)
  have f2 : PF M M2 := (a2.m.PF.tr w1).tr c2.m.PF
  have g2 : fI tP tk t2 := a1.tr c1
  have i172 : gI M2 17 = nI na := (c2.1 17 (by unfold mP; omega)).trans i171
  -- the reference up to the first number
  have pre : ∀ {Q : Int32 × St → Prop} {F : Int32 × St → Option (Int32 × St)}, ok (F (1, M2)) Q → ok (if nI na = (6 : Int32) then (lt (fX12_wrong M (2 : Int32)) fun r22 => some ((bz r22.1), r22.2)) else (fX12_token M).bind fun r2 => (fX12_newName_act r2 (6 : Int32) (gI r2 17)).bind F) Q := by
    intro Q F hF
    refine ok_f nf (ok_bindx eM1 ?_)
    unfold fX12_newName_act
    rw [i171, e6, cl (show 6 + na < 2 ^ 31 by omega), ← k5]
    exact ok_bind (ok_t k2 (ok_bindx (by rw [k5]; exact ef) (ok_t (by decide) (ok_lt (ok_f c12 (ok_lt (ok_bindx eM2 (ok_some hF))))))))
  refine ok_bind (ok_mono (number_of (a := 0) (b := 9) (by omega) (by omega) hP2 h3) (fun r1 hr1 => ?_))
  obtain ⟨s1, es1, fa1, fb1, hs1⟩ := hr1
  rcases hs1 with ⟨q1, rr1, nn1, v1, k41, k51, P1, pl1, hp1⟩ | ⟨q1, fl1⟩
  rotate_left
  · refine ok_bindx (number_no fl1.ne) (ok_f fl1.ne (ok_some (pre ?_)))
    refine ok_f i10 (ok_lt ?_)
    rw [i172, e6, cl (show 6 + na < 2 ^ 31 by omega)]
    exact ok_bindx es1 (ok_t q1 (ok_some (mk0 _ _ _ (g2.tr fa1) (f2.tr fb1.PF) fl1)))
  have w2 : PF s1.2 (sA s1.2 25 (6 + na) r1.1) := PF.wA (Or.inr (Or.inr (Or.inr ⟨by omega, by omega, Nat.le_add_right 6 na⟩)))
  have r1h : gI r1.2.1 3 = 0 := by rw [rr1]; exact h3
  have hw1 : PS r1.2.2 tp (sA s1.2 25 (6 + na) r1.1) N P1 := hp1.wA (by decide) (by decide)
  have F1 : PF M (sA s1.2 25 (6 + na) r1.1) := (f2.tr fb1.PF).tr w2
  have G1 : fI tP tk r1.2.2 := g2.tr fa1
  refine ok_bind (ok_mono (number_of (a := 1) (b := 9) (by omega) (by omega) hw1 r1h) (fun r2 hr2 => ?_))
  obtain ⟨s2, es2, fa2, fb2, hs2⟩ := hr2
  rcases hs2 with ⟨q2, rr2, nn2, v2, k42, k52, P2, pl2, hp2⟩ | ⟨q2, fl2⟩
  rotate_left
  · refine ok_f fl2.ne (ok_some (pre ?_))
    refine ok_f i10 (ok_lt ?_)
    rw [i172, e6, cl (show 6 + na < 2 ^ 31 by omega)]
    refine ok_bindx es1 (ok_f (by rw [q1]; exact i10) (ok_lt (ok_f c12 (ok_lt ?_))))
    rw [v1]
    exact ok_bindx es2 (ok_t q2 (ok_some (mk0 _ _ _ (G1.tr fa2) (F1.tr fb2.PF) fl2)))
  have rLh : gI r2.2.1 3 = 0 := by rw [rr2]; exact r1h
  have F : PF M (sI (sA s2.2 26 (6 + na) r2.1) 17 (nI (na + 1))) := ((F1.tr fb2.PF).tr (PF.wA (Or.inr (Or.inr (Or.inr ⟨by omega, by omega, Nat.le_add_right 6 na⟩))))).tr (PF.wI (by unfold pI; omega))
  refine ok_t rLh (ok_bindx (add_c m0 m5 (by omega) (by omega)) (ok_some (pre ?_)))
  refine ok_f i10 (ok_lt ?_)
  rw [i172, e6, cl (show 6 + na < 2 ^ 31 by omega)]
  refine ok_bindx es1 (ok_f (by rw [q1]; exact i10) (ok_lt (ok_f c12 (ok_lt ?_))))
  rw [v1]
  refine ok_bindx es2 (ok_f (by rw [q2]; exact i10) (ok_lt (ok_f c12 (ok_lt ?_))))
  rw [v2]
  have iL : gI (sA s2.2 26 (6 + na) r2.1) 17 + 1 = nI (na + 1) := by
    rw [show gI (sA s2.2 26 (6 + na) r2.1) 17 = nI na from (fb2.1 17 (by unfold mQ mP; omega)).trans ((fb1.1 17 (by unfold mQ mP; omega)).trans i172), nI_1]
  rw [iL]
  refine ok_lt (ok_lt (ok_some ⟨F, MS.up rfl, G1.tr fa2, Or.inl ⟨rfl, rLh, rr2.trans (rr1), ?_, ?_, ⟨P2, by omega, (hp2.wA (by decide) (by decide)).wI (by omega)⟩, ?_, rfl⟩⟩))
  · exact k42.trans (k41.trans ((c2.1 4 (by unfold mP; omega)).trans (a2.1 4 (by unfold mP; omega))))
  · exact k52.trans (k51.trans ((c2.1 5 (by unfold mP; omega)).trans (a2.1 5 (by unfold mP; omega))))
  · have eo : ∀ r, r ≠ 24 → r ≠ 25 → r ≠ 26 → gA (sI (sA s2.2 26 (6 + na) r2.1) 17 (nI (na + 1))) r = gA M r := fun r y0 y1 y2 => by
      show gA (sA s2.2 26 (6 + na) r2.1) r = _
      rw [gA_sAr _ _ _ y2, fb2.A, gA_sAr _ _ _ y1, fb1.A, c2.A, gA_sAr _ _ _ y0, a2.A]
    have x0n : gA (sI (sA s2.2 26 (6 + na) r2.1) 17 (nI (na + 1))) 24 (6 + na) = gI t1 5 := by
      show gA (sA s2.2 26 (6 + na) r2.1) 24 (6 + na) = _
      rw [gA_row _ _ _ _ (by decide), fb2.A, gA_row _ _ _ _ (by decide), fb1.A, c2.A, gA_same]
    have x0o : ∀ i, i ≠ 6 + na → gA (sI (sA s2.2 26 (6 + na) r2.1) 17 (nI (na + 1))) 24 i = gA M 24 i := fun i hi => by
      show gA (sA s2.2 26 (6 + na) r2.1) 24 i = _
      rw [gA_row _ _ _ _ (by decide), fb2.A, gA_row _ _ _ _ (by decide), fb1.A, c2.A, gA_idx _ _ _ _ hi, a2.A]
    have x1n : gA (sI (sA s2.2 26 (6 + na) r2.1) 17 (nI (na + 1))) 25 (6 + na) = r1.1 := by
      show gA (sA s2.2 26 (6 + na) r2.1) 25 (6 + na) = _
      rw [gA_row _ _ _ _ (by decide), fb2.A, gA_same]
    have x1o : ∀ i, i ≠ 6 + na → gA (sI (sA s2.2 26 (6 + na) r2.1) 17 (nI (na + 1))) 25 i = gA M 25 i := fun i hi => by
      show gA (sA s2.2 26 (6 + na) r2.1) 25 i = _
      rw [gA_row _ _ _ _ (by decide), fb2.A, gA_idx _ _ _ _ hi, fb1.A, c2.A, gA_row _ _ _ _ (by decide), a2.A]
    have x2n : gA (sI (sA s2.2 26 (6 + na) r2.1) 17 (nI (na + 1))) 26 (6 + na) = r2.1 := by
      show gA (sA s2.2 26 (6 + na) r2.1) 26 (6 + na) = _
      rw [gA_same]
    have x2o : ∀ i, i ≠ 6 + na → gA (sI (sA s2.2 26 (6 + na) r2.1) 17 (nI (na + 1))) 26 i = gA M 26 i := fun i hi => by
      show gA (sA s2.2 26 (6 + na) r2.1) 26 i = _
      rw [gA_idx _ _ _ _ hi, fb2.A, gA_row _ _ _ _ (by decide), fb1.A, c2.A, gA_row _ _ _ _ (by decide), a2.A]
    have ei : ∀ k, (17 ≤ k ∧ k ≤ 21) ∨ k = 47 → k ≠ 17 → gI (sI (sA s2.2 26 (6 + na) r2.1) 17 (nI (na + 1))) k = gI M k := fun k hk2 hk3 => by
      rw [gI_sIn _ _ hk3]
      show gI s2.2 k = _
      rw [fb2.1 k (by unfold mQ mP; omega)]
      show gI s1.2 k = _
      rw [fb1.1 k (by unfold mQ mP; omega)]
      rw [c2.1 k (by unfold mP; omega)]
      exact a2.1 k (by unfold mP; omega)
    have own : RDa (sI (sA (sA (sA (sA (S 1) 1 na (gI t1 5)) 2 na r1.1) 3 na r2.1) 4 na 0) 5 (nI (na + 1))) (sI (sA s2.2 26 (6 + na) r2.1) 17 (nI (na + 1))) (na + 1) := fun i hi => by
      have w' : ∀ r, gA (sI (sA (sA (sA (sA (S 1) 1 na (gI t1 5)) 2 na r1.1) 3 na r2.1) 4 na 0) 5 (nI (na + 1))) r i = gA (sA (sA (sA (sA (S 1) 1 na (gI t1 5)) 2 na r1.1) 3 na r2.1) 4 na 0) r i := fun _ => rfl
      by_cases e : i = na
      · subst e
        rw [w', w', w', x0n, x1n, x2n]
        rw [gA_row _ _ _ _ (by decide), gA_row _ _ _ _ (by decide), gA_row _ _ _ _ (by decide), gA_same, gA_row _ _ _ _ (by decide), gA_row _ _ _ _ (by decide), gA_same, gA_row _ _ _ _ (by decide), gA_same]
        exact ⟨rfl, rfl, rfl, nn1, nn2⟩
      · rw [w', w', w', x0o _ (by omega), x1o _ (by omega), x2o _ (by omega)]
        rw [gA_idx _ _ _ _ e, gA_idx _ _ _ _ e, gA_idx _ _ _ _ e, gA_idx _ _ _ _ e, gA_idx _ _ _ _ e, gA_idx _ _ _ _ e, gA_idx _ _ _ _ e, gA_idx _ _ _ _ e, gA_idx _ _ _ _ e, gA_idx _ _ _ _ e, gA_idx _ _ _ _ e, gA_idx _ _ _ _ e]
        exact Ra i (by omega)
    exact ⟨na + 1, ng, nr, ns, kn, ⟨⟨by omega, z1.2.1, z1.2.2.1, z1.2.2.2⟩, ⟨z2.1, z2.2.1, z2.2.2.1, z2.2.2.2⟩, ⟨rfl, z3.2.1, z3.2.2.1, z3.2.2.2⟩, ⟨rfl, (ei 18 (by omega) (by decide)).trans z4.2.1, (ei 19 (by omega) (by decide)).trans z4.2.2.1, (ei 20 (by omega) (by decide)).trans z4.2.2.2⟩⟩, own, (by unfold RDg at *; rw [eo 27 (by decide) (by decide) (by decide), eo 28 (by decide) (by decide) (by decide), eo 29 (by decide) (by decide) (by decide)]; exact Rg), (by unfold RDr at *; rw [eo 30 (by decide) (by decide) (by decide), eo 31 (by decide) (by decide) (by decide), eo 32 (by decide) (by decide) (by decide), eo 33 (by decide) (by decide) (by decide)]; exact Rr), (fun i hi => by rw [eo 34 (by decide) (by decide) (by decide), eo 35 (by decide) (by decide) (by decide)]; obtain ⟨u1, u2, ⟨j, u3, u4⟩, u5⟩ := Rs i hi; exact ⟨u1, u2, ⟨j, by omega, u4⟩, u5⟩), (by unfold RDm at *; rw [eo 22 (by decide) (by decide) (by decide), eo 23 (by decide) (by decide) (by decide), ei 21 (by omega) (by decide), ei 47 (by omega) (by decide)]; exact Rm), (by unfold LR2 k64 at *; rw [eo 36 (by decide) (by decide) (by decide), eo 37 (by decide) (by decide) (by decide), eo 38 (by decide) (by decide) (by decide), eo 39 (by decide) (by decide) (by decide), eo 40 (by decide) (by decide) (by decide), eo 41 (by decide) (by decide) (by decide)]; exact l0), (by unfold LR2 k64 at *; rw [eo 36 (by decide) (by decide) (by decide), eo 37 (by decide) (by decide) (by decide), eo 38 (by decide) (by decide) (by decide), eo 39 (by decide) (by decide) (by decide), eo 40 (by decide) (by decide) (by decide), eo 41 (by decide) (by decide) (by decide)]; exact l1), (by unfold LR2 k64 at *; rw [eo 36 (by decide) (by decide) (by decide), eo 37 (by decide) (by decide) (by decide), eo 38 (by decide) (by decide) (by decide), eo 39 (by decide) (by decide) (by decide), eo 40 (by decide) (by decide) (by decide), eo 41 (by decide) (by decide) (by decide)]; exact l2)⟩
theorem guest_line {S : Nat → St} {rd tk tp M : St} {N p na ng nr ns kn : Nat} (hP : PS tk tp M N p) (hk : ¬ gI tk 4 = 0) (h3 : gI rd 3 = 0) (hR : RD S M na ng nr ns kn) : ok (fX6_readThing 700 6 rd tk tp (S 2) (0 : Int32) (-1 : Int32)) (fun r => ok (fX12_guestLine M) (fun r' => LNP S rd tk tp M N p r.1 r.2.1 (va_up S 2 r.2.2) r'.1 r'.2)) := by
  obtain ⟨⟨z1, z2, z3, z4⟩, Ra, Rg, Rr, Rs, Rm, l0, l1, l2⟩ := hR
  have m0 : gI (S 2) 0 = nI 6 := z2.2.1
  have m5 : gI (S 2) 5 = nI ng := z3.2.1
  have n6 : ng ≤ 6 := z1.2.1
  have i17 : gI M 18 = nI ng := z4.2.1
  rw [thing_eq]
  unfold fX12_guestLine
  rw [full_c (n := 6) m0 m5 (by omega) n6, i17]
  by_cases full : ng = 6
  · rw [if_pos full, blame_0 h3]
    exact ok_f i10 (ok_lt (ok_some (ok_t (by rw [full]; rfl) (ok_lt (ok_some ⟨(wr_fI M 2).PF, MS.up rfl, fI.rf, Or.inr ⟨bz0, FL.mk hP (by decide)⟩⟩)))))
  rw [if_neg full]
  have nf : ¬ nI ng = (6 : Int32) := fun z => full ((nI_eq (a := ng) (b := 6) (by omega) (by omega)).mp z)
  refine ok_t rfl (ok_bind (ok_mono (nextP hP) (fun t1 ht => ok_lt (ok_lt (ok_lt ?_)))))
  obtain ⟨M1, eM1, a1, a2, p1, b1, b2, hP1⟩ := ht
  have p01 := b2 hk
  have i171 : gI M1 18 = nI ng := (a2.1 18 (by unfold mP; omega)).trans i17
  have mk0 : ∀ (rd' tk' M' : St), fI tP tk tk' → PF M M' → FL rd' M' → LNP S rd tk tp M N p rd' tk' (va_up S 2 (S 2)) 0 M' := fun rd' tk' M' x1 x2 x3 => ⟨x2, MS.up rfl, x1, Or.inr ⟨rfl, x3⟩⟩
  rcases kind_name hP1.2.2.2.2.2 with ⟨k1, k2, k5⟩ | ⟨k1, k2⟩
  rotate_left
  · rw [name_no k1 h3]
    refine ok_f (show ¬ (1 : Int32) = 0 from i10) (ok_eq (tl_dead (show ¬ (1 : Int32) = 0 from i10)) ?_)
    refine ok_f nf (ok_bindx eM1 ?_)
    unfold fX12_newName_guest
    exact ok_bind (ok_f k2 (ok_lt (ok_some (ok_t bz0 (ok_some (mk0 _ _ _ a1 (a2.m.PF.tr (wr_fI M1 1).PF) (FL.mk hP1 (by decide))))))))
  rw [name_yes k1]
  refine ok_t h3 (ok_bindx (find_eq m5 n6 (by omega)) ?_)
  have ef : fX12_find 12 (vwA M1 27) 6 (nI ng) (gI M1 9) = some (fnd (gA (S 2) 1) (gI t1 5) ng 0) := by
    rw [show (6 : Int32) = nI 6 from rfl, mfind_eq (by omega) (by omega), k5]
    refine congrArg some (fnd_cong ng 0 (fun k _ hk2 => ?_))
    show gA M1 27 (6 + k) = gA (S 2) 1 k
    rw [a2.A]
    exact (Rg k (by omega)).1.symm
  rcases fnd_or (gA (S 2) 1) (gI t1 5) ng 0 with q | ⟨j, _, hj, q⟩
  rotate_left
  · rw [q]
    rw [q] at ef
    refine ok_f (nI_nn (by omega)) ?_
    rw [blame_0 h3]
    refine ok_lt (ok_eq (tl_dead (show ¬ (3 : Int32) = 0 by decide)) (ok_f nf (ok_bindx eM1 ?_)))
    unfold fX12_newName_guest
    rw [i171]
    exact ok_bind (ok_t k2 (ok_bindx ef (ok_f (nI_pos (by omega)) (ok_lt (ok_some (ok_t bz0 (ok_some (mk0 _ _ _ a1 (a2.m.PF.tr (wr_fI M1 3).PF) (FL.mk hP1 (by decide))))))))))
  rw [q]
  rw [q] at ef
  refine ok_t rfl ?_
  rw [tl_2 h3]
  have c12 : ¬ (nI (6 + ng) < 0 ∨ 12 ≤ 6 + ng) := kx (by omega) (by decide)
  have e6 : (6 : Int32) + nI ng = nI (6 + ng) := by rw [show (6 : Int32) = nI 6 from rfl, nI_add]
  have w1 : PF M1 (sA M1 27 (6 + ng) (gI t1 5)) := PF.wA (Or.inr (Or.inr (Or.inr ⟨by omega, by omega, Nat.le_add_right 6 ng⟩)))
  refine ok_bind (ok_mono (nextP (hP1.wA (r := 27) (i := 6 + ng) (v := gI t1 5) (by decide) (by decide))) (fun t2 ht2 => ?_))
  obtain ⟨M2, eM2, c1, c2, p2, c3, c4, hP2⟩ := ht2
  have p12 := c4 (by rw [k1]; decide)
  have f2 : PF M M2 := (a2.m.PF.tr w1).tr c2.m.PF
  have g2 : fI tP tk t2 := a1.tr c1
  have i172 : gI M2 18 = nI ng := (c2.1 18 (by unfold mP; omega)).trans i171
  -- the reference up to the first number
  have pre : ∀ {Q : Int32 × St → Prop} {F : Int32 × St → Option (Int32 × St)}, ok (F (1, M2)) Q → ok (if nI ng = (6 : Int32) then (lt (fX12_wrong M (2 : Int32)) fun r22 => some ((bz r22.1), r22.2)) else (fX12_token M).bind fun r2 => (fX12_newName_guest r2 (6 : Int32) (gI r2 18)).bind F) Q := by
    intro Q F hF
    refine ok_f nf (ok_bindx eM1 ?_)
    unfold fX12_newName_guest
    rw [i171, e6, cl (show 6 + ng < 2 ^ 31 by omega), ← k5]
    exact ok_bind (ok_t k2 (ok_bindx (by rw [k5]; exact ef) (ok_t (by decide) (ok_lt (ok_f c12 (ok_lt (ok_bindx eM2 (ok_some hF))))))))
  refine ok_bind (ok_mono (number_of (a := 0) (b := 9) (by omega) (by omega) hP2 h3) (fun r1 hr1 => ?_))
  obtain ⟨s1, es1, fa1, fb1, hs1⟩ := hr1
  rcases hs1 with ⟨q1, rr1, nn1, v1, k41, k51, P1, pl1, hp1⟩ | ⟨q1, fl1⟩
  rotate_left
  · refine ok_bindx (number_no fl1.ne) (ok_f fl1.ne (ok_some (pre ?_)))
    refine ok_f i10 (ok_lt ?_)
    rw [i172, e6, cl (show 6 + ng < 2 ^ 31 by omega)]
    exact ok_bindx es1 (ok_t q1 (ok_some (mk0 _ _ _ (g2.tr fa1) (f2.tr fb1.PF) fl1)))
  have w2 : PF s1.2 (sA s1.2 28 (6 + ng) r1.1) := PF.wA (Or.inr (Or.inr (Or.inr ⟨by omega, by omega, Nat.le_add_right 6 ng⟩)))
  have r1h : gI r1.2.1 3 = 0 := by rw [rr1]; exact h3
  have hw1 : PS r1.2.2 tp (sA s1.2 28 (6 + ng) r1.1) N P1 := hp1.wA (by decide) (by decide)
  have F1 : PF M (sA s1.2 28 (6 + ng) r1.1) := (f2.tr fb1.PF).tr w2
  have G1 : fI tP tk r1.2.2 := g2.tr fa1
  refine ok_bind (ok_mono (number_of (a := 0) (b := 9) (by omega) (by omega) hw1 r1h) (fun r2 hr2 => ?_))
  obtain ⟨s2, es2, fa2, fb2, hs2⟩ := hr2
  rcases hs2 with ⟨q2, rr2, nn2, v2, k42, k52, P2, pl2, hp2⟩ | ⟨q2, fl2⟩
  rotate_left
  · refine ok_f fl2.ne (ok_some (pre ?_))
    refine ok_f i10 (ok_lt ?_)
    rw [i172, e6, cl (show 6 + ng < 2 ^ 31 by omega)]
    refine ok_bindx es1 (ok_f (by rw [q1]; exact i10) (ok_lt (ok_f c12 (ok_lt ?_))))
    rw [v1]
    exact ok_bindx es2 (ok_t q2 (ok_some (mk0 _ _ _ (G1.tr fa2) (F1.tr fb2.PF) fl2)))
  have rLh : gI r2.2.1 3 = 0 := by rw [rr2]; exact r1h
  have F : PF M (sI (sA s2.2 29 (6 + ng) r2.1) 18 (nI (ng + 1))) := ((F1.tr fb2.PF).tr (PF.wA (Or.inr (Or.inr (Or.inr ⟨by omega, by omega, Nat.le_add_right 6 ng⟩))))).tr (PF.wI (by unfold pI; omega))
  refine ok_t rLh (ok_bindx (add_c m0 m5 (by omega) (by omega)) (ok_some (pre ?_)))
  refine ok_f i10 (ok_lt ?_)
  rw [i172, e6, cl (show 6 + ng < 2 ^ 31 by omega)]
  refine ok_bindx es1 (ok_f (by rw [q1]; exact i10) (ok_lt (ok_f c12 (ok_lt ?_))))
  rw [v1]
  refine ok_bindx es2 (ok_f (by rw [q2]; exact i10) (ok_lt (ok_f c12 (ok_lt ?_))))
  rw [v2]
  have iL : gI (sA s2.2 29 (6 + ng) r2.1) 18 + 1 = nI (ng + 1) := by
    rw [show gI (sA s2.2 29 (6 + ng) r2.1) 18 = nI ng from (fb2.1 18 (by unfold mQ mP; omega)).trans ((fb1.1 18 (by unfold mQ mP; omega)).trans i172), nI_1]
  rw [iL]
  refine ok_lt (ok_lt (ok_some ⟨F, MS.up rfl, G1.tr fa2, Or.inl ⟨rfl, rLh, rr2.trans (rr1), ?_, ?_, ⟨P2, by omega, (hp2.wA (by decide) (by decide)).wI (by omega)⟩, ?_, rfl⟩⟩))
  · exact k42.trans (k41.trans ((c2.1 4 (by unfold mP; omega)).trans (a2.1 4 (by unfold mP; omega))))
  · exact k52.trans (k51.trans ((c2.1 5 (by unfold mP; omega)).trans (a2.1 5 (by unfold mP; omega))))
  · have eo : ∀ r, r ≠ 27 → r ≠ 28 → r ≠ 29 → gA (sI (sA s2.2 29 (6 + ng) r2.1) 18 (nI (ng + 1))) r = gA M r := fun r y0 y1 y2 => by
      show gA (sA s2.2 29 (6 + ng) r2.1) r = _
      rw [gA_sAr _ _ _ y2, fb2.A, gA_sAr _ _ _ y1, fb1.A, c2.A, gA_sAr _ _ _ y0, a2.A]
    have x0n : gA (sI (sA s2.2 29 (6 + ng) r2.1) 18 (nI (ng + 1))) 27 (6 + ng) = gI t1 5 := by
      show gA (sA s2.2 29 (6 + ng) r2.1) 27 (6 + ng) = _
      rw [gA_row _ _ _ _ (by decide), fb2.A, gA_row _ _ _ _ (by decide), fb1.A, c2.A, gA_same]
    have x0o : ∀ i, i ≠ 6 + ng → gA (sI (sA s2.2 29 (6 + ng) r2.1) 18 (nI (ng + 1))) 27 i = gA M 27 i := fun i hi => by
      show gA (sA s2.2 29 (6 + ng) r2.1) 27 i = _
      rw [gA_row _ _ _ _ (by decide), fb2.A, gA_row _ _ _ _ (by decide), fb1.A, c2.A, gA_idx _ _ _ _ hi, a2.A]
    have x1n : gA (sI (sA s2.2 29 (6 + ng) r2.1) 18 (nI (ng + 1))) 28 (6 + ng) = r1.1 := by
      show gA (sA s2.2 29 (6 + ng) r2.1) 28 (6 + ng) = _
      rw [gA_row _ _ _ _ (by decide), fb2.A, gA_same]
    have x1o : ∀ i, i ≠ 6 + ng → gA (sI (sA s2.2 29 (6 + ng) r2.1) 18 (nI (ng + 1))) 28 i = gA M 28 i := fun i hi => by
      show gA (sA s2.2 29 (6 + ng) r2.1) 28 i = _
      rw [gA_row _ _ _ _ (by decide), fb2.A, gA_idx _ _ _ _ hi, fb1.A, c2.A, gA_row _ _ _ _ (by decide), a2.A]
    have x2n : gA (sI (sA s2.2 29 (6 + ng) r2.1) 18 (nI (ng + 1))) 29 (6 + ng) = r2.1 := by
      show gA (sA s2.2 29 (6 + ng) r2.1) 29 (6 + ng) = _
      rw [gA_same]
    have x2o : ∀ i, i ≠ 6 + ng → gA (sI (sA s2.2 29 (6 + ng) r2.1) 18 (nI (ng + 1))) 29 i = gA M 29 i := fun i hi => by
      show gA (sA s2.2 29 (6 + ng) r2.1) 29 i = _
      rw [gA_idx _ _ _ _ hi, fb2.A, gA_row _ _ _ _ (by decide), fb1.A, c2.A, gA_row _ _ _ _ (by decide), a2.A]
    have ei : ∀ k, (17 ≤ k ∧ k ≤ 21) ∨ k = 47 → k ≠ 18 → gI (sI (sA s2.2 29 (6 + ng) r2.1) 18 (nI (ng + 1))) k = gI M k := fun k hk2 hk3 => by
      rw [gI_sIn _ _ hk3]
      show gI s2.2 k = _
      rw [fb2.1 k (by unfold mQ mP; omega)]
      show gI s1.2 k = _
      rw [fb1.1 k (by unfold mQ mP; omega)]
      rw [c2.1 k (by unfold mP; omega)]
      exact a2.1 k (by unfold mP; omega)
    have own : RDg (sI (sA (sA (sA (sA (S 2) 1 ng (gI t1 5)) 2 ng r1.1) 3 ng r2.1) 4 ng 0) 5 (nI (ng + 1))) (sI (sA s2.2 29 (6 + ng) r2.1) 18 (nI (ng + 1))) (ng + 1) := fun i hi => by
      have w' : ∀ r, gA (sI (sA (sA (sA (sA (S 2) 1 ng (gI t1 5)) 2 ng r1.1) 3 ng r2.1) 4 ng 0) 5 (nI (ng + 1))) r i = gA (sA (sA (sA (sA (S 2) 1 ng (gI t1 5)) 2 ng r1.1) 3 ng r2.1) 4 ng 0) r i := fun _ => rfl
      by_cases e : i = ng
      · subst e
        rw [w', w', w', x0n, x1n, x2n]
        rw [gA_row _ _ _ _ (by decide), gA_row _ _ _ _ (by decide), gA_row _ _ _ _ (by decide), gA_same, gA_row _ _ _ _ (by decide), gA_row _ _ _ _ (by decide), gA_same, gA_row _ _ _ _ (by decide), gA_same]
        exact ⟨rfl, rfl, rfl, nn1, nn2⟩
      · rw [w', w', w', x0o _ (by omega), x1o _ (by omega), x2o _ (by omega)]
        rw [gA_idx _ _ _ _ e, gA_idx _ _ _ _ e, gA_idx _ _ _ _ e, gA_idx _ _ _ _ e, gA_idx _ _ _ _ e, gA_idx _ _ _ _ e, gA_idx _ _ _ _ e, gA_idx _ _ _ _ e, gA_idx _ _ _ _ e, gA_idx _ _ _ _ e, gA_idx _ _ _ _ e, gA_idx _ _ _ _ e]
        exact Rg i (by omega)
    exact ⟨na, ng + 1, nr, ns, kn, ⟨⟨z1.1, by omega, z1.2.2.1, z1.2.2.2⟩, ⟨z2.1, z2.2.1, z2.2.2.1, z2.2.2.2⟩, ⟨z3.1, rfl, z3.2.2.1, z3.2.2.2⟩, ⟨(ei 17 (by omega) (by decide)).trans z4.1, rfl, (ei 19 (by omega) (by decide)).trans z4.2.2.1, (ei 20 (by omega) (by decide)).trans z4.2.2.2⟩⟩, (by unfold RDa at *; rw [eo 24 (by decide) (by decide) (by decide), eo 25 (by decide) (by decide) (by decide), eo 26 (by decide) (by decide) (by decide)]; exact Ra), own, (by unfold RDr at *; rw [eo 30 (by decide) (by decide) (by decide), eo 31 (by decide) (by decide) (by decide), eo 32 (by decide) (by decide) (by decide), eo 33 (by decide) (by decide) (by decide)]; exact Rr), (by unfold RDs at *; rw [eo 34 (by decide) (by decide) (by decide), eo 35 (by decide) (by decide) (by decide)]; exact Rs), (by unfold RDm at *; rw [eo 22 (by decide) (by decide) (by decide), eo 23 (by decide) (by decide) (by decide), ei 21 (by omega) (by decide), ei 47 (by omega) (by decide)]; exact Rm), (by unfold LR2 k64 at *; rw [eo 36 (by decide) (by decide) (by decide), eo 37 (by decide) (by decide) (by decide), eo 38 (by decide) (by decide) (by decide), eo 39 (by decide) (by decide) (by decide), eo 40 (by decide) (by decide) (by decide), eo 41 (by decide) (by decide) (by decide)]; exact l0), (by unfold LR2 k64 at *; rw [eo 36 (by decide) (by decide) (by decide), eo 37 (by decide) (by decide) (by decide), eo 38 (by decide) (by decide) (by decide), eo 39 (by decide) (by decide) (by decide), eo 40 (by decide) (by decide) (by decide), eo 41 (by decide) (by decide) (by decide)]; exact l1), (by unfold LR2 k64 at *; rw [eo 36 (by decide) (by decide) (by decide), eo 37 (by decide) (by decide) (by decide), eo 38 (by decide) (by decide) (by decide), eo 39 (by decide) (by decide) (by decide), eo 40 (by decide) (by decide) (by decide), eo 41 (by decide) (by decide) (by decide)]; exact l2)⟩
theorem grain_line {S : Nat → St} {rd tk tp M : St} {N p na ng nr ns kn : Nat} (hP : PS tk tp M N p) (hk : ¬ gI tk 4 = 0) (h3 : gI rd 3 = 0) (hR : RD S M na ng nr ns kn) : ok (fX6_readThing 700 4 rd tk tp (S 3) (0 : Int32) (99 : Int32)) (fun r => ok (fX12_grainLine M) (fun r' => LNP S rd tk tp M N p r.1 r.2.1 (va_up S 3 r.2.2) r'.1 r'.2)) := by
  obtain ⟨⟨z1, z2, z3, z4⟩, Ra, Rg, Rr, Rs, Rm, l0, l1, l2⟩ := hR
  have m0 : gI (S 3) 0 = nI 4 := z2.2.2.1
  have m5 : gI (S 3) 5 = nI nr := z3.2.2.1
  have n6 : nr ≤ 4 := z1.2.2.1
  have i17 : gI M 19 = nI nr := z4.2.2.1
  rw [thing_eq]
  unfold fX12_grainLine
  rw [full_c (n := 4) m0 m5 (by omega) n6, i17]
  by_cases full : nr = 4
  · rw [if_pos full, blame_0 h3]
    exact ok_f i10 (ok_lt (ok_some (ok_t (by rw [full]; rfl) (ok_lt (ok_some ⟨(wr_fI M 2).PF, MS.up rfl, fI.rf, Or.inr ⟨bz0, FL.mk hP (by decide)⟩⟩)))))
  rw [if_neg full]
  have nf : ¬ nI nr = (4 : Int32) := fun z => full ((nI_eq (a := nr) (b := 4) (by omega) (by omega)).mp z)
  refine ok_t rfl (ok_bind (ok_mono (nextP hP) (fun t1 ht => ok_lt (ok_lt (ok_lt ?_)))))
  obtain ⟨M1, eM1, a1, a2, p1, b1, b2, hP1⟩ := ht
  have p01 := b2 hk
  have i171 : gI M1 19 = nI nr := (a2.1 19 (by unfold mP; omega)).trans i17
  have mk0 : ∀ (rd' tk' M' : St), fI tP tk tk' → PF M M' → FL rd' M' → LNP S rd tk tp M N p rd' tk' (va_up S 3 (S 3)) 0 M' := fun rd' tk' M' x1 x2 x3 => ⟨x2, MS.up rfl, x1, Or.inr ⟨rfl, x3⟩⟩
  rcases kind_name hP1.2.2.2.2.2 with ⟨k1, k2, k5⟩ | ⟨k1, k2⟩
  rotate_left
  · rw [name_no k1 h3]
    refine ok_f (show ¬ (1 : Int32) = 0 from i10) (ok_eq (tl_dead (show ¬ (1 : Int32) = 0 from i10)) ?_)
    refine ok_f nf (ok_bindx eM1 ?_)
    unfold fX12_newName_grain
    exact ok_bind (ok_f k2 (ok_lt (ok_some (ok_t bz0 (ok_some (mk0 _ _ _ a1 (a2.m.PF.tr (wr_fI M1 1).PF) (FL.mk hP1 (by decide))))))))
  rw [name_yes k1]
  refine ok_t h3 (ok_bindx (find_eq m5 n6 (by omega)) ?_)
  have ef : fX12_find 8 (vwA M1 30) 4 (nI nr) (gI M1 9) = some (fnd (gA (S 3) 1) (gI t1 5) nr 0) := by
    rw [show (4 : Int32) = nI 4 from rfl, mfind_eq (by omega) (by omega), k5]
    refine congrArg some (fnd_cong nr 0 (fun k _ hk2 => ?_))
    show gA M1 30 (4 + k) = gA (S 3) 1 k
    rw [a2.A]
    exact (Rr k (by omega)).1.symm
  rcases fnd_or (gA (S 3) 1) (gI t1 5) nr 0 with q | ⟨j, _, hj, q⟩
  rotate_left
  · rw [q]
    rw [q] at ef
    refine ok_f (nI_nn (by omega)) ?_
    rw [blame_0 h3]
    refine ok_lt (ok_eq (tl_dead (show ¬ (3 : Int32) = 0 by decide)) (ok_f nf (ok_bindx eM1 ?_)))
    unfold fX12_newName_grain
    rw [i171]
    exact ok_bind (ok_t k2 (ok_bindx ef (ok_f (nI_pos (by omega)) (ok_lt (ok_some (ok_t bz0 (ok_some (mk0 _ _ _ a1 (a2.m.PF.tr (wr_fI M1 3).PF) (FL.mk hP1 (by decide))))))))))
  rw [q]
  rw [q] at ef
  refine ok_t rfl ?_
  rw [tl_3 h3]
  have c12 : ¬ (nI (4 + nr) < 0 ∨ 8 ≤ 4 + nr) := kx (by omega) (by decide)
  have e6 : (4 : Int32) + nI nr = nI (4 + nr) := by rw [show (4 : Int32) = nI 4 from rfl, nI_add]
  have w1 : PF M1 (sA M1 30 (4 + nr) (gI t1 5)) := PF.wA (Or.inr (Or.inr (Or.inr ⟨by omega, by omega, Nat.le_add_right 4 nr⟩)))
  refine ok_bind (ok_mono (nextP (hP1.wA (r := 30) (i := 4 + nr) (v := gI t1 5) (by decide) (by decide))) (fun t2 ht2 => ?_))
  obtain ⟨M2, eM2, c1, c2, p2, c3, c4, hP2⟩ := ht2
  have p12 := c4 (by rw [k1]; decide)
  have f2 : PF M M2 := (a2.m.PF.tr w1).tr c2.m.PF
  have g2 : fI tP tk t2 := a1.tr c1
  have i172 : gI M2 19 = nI nr := (c2.1 19 (by unfold mP; omega)).trans i171
  -- the reference up to the first number
  have pre : ∀ {Q : Int32 × St → Prop} {F : Int32 × St → Option (Int32 × St)}, ok (F (1, M2)) Q → ok (if nI nr = (4 : Int32) then (lt (fX12_wrong M (2 : Int32)) fun r22 => some ((bz r22.1), r22.2)) else (fX12_token M).bind fun r2 => (fX12_newName_grain r2 (4 : Int32) (gI r2 19)).bind F) Q := by
    intro Q F hF
    refine ok_f nf (ok_bindx eM1 ?_)
    unfold fX12_newName_grain
    rw [i171, e6, cl (show 4 + nr < 2 ^ 31 by omega), ← k5]
    exact ok_bind (ok_t k2 (ok_bindx (by rw [k5]; exact ef) (ok_t (by decide) (ok_lt (ok_f c12 (ok_lt (ok_bindx eM2 (ok_some hF))))))))
  refine ok_bind (ok_mono (number_of (a := 0) (b := 99) (by omega) (by omega) hP2 h3) (fun r1 hr1 => ?_))
  obtain ⟨s1, es1, fa1, fb1, hs1⟩ := hr1
  rcases hs1 with ⟨q1, rr1, nn1, v1, k41, k51, P1, pl1, hp1⟩ | ⟨q1, fl1⟩
  rotate_left
  · refine ok_bindx (number_no fl1.ne) (ok_bindx (number_no fl1.ne) (ok_f fl1.ne (ok_some (pre ?_))))
    refine ok_f i10 (ok_lt ?_)
    rw [i172, e6, cl (show 4 + nr < 2 ^ 31 by omega)]
    exact ok_bindx es1 (ok_t q1 (ok_some (mk0 _ _ _ (g2.tr fa1) (f2.tr fb1.PF) fl1)))
  have w2 : PF s1.2 (sA s1.2 31 (4 + nr) r1.1) := PF.wA (Or.inr (Or.inr (Or.inr ⟨by omega, by omega, Nat.le_add_right 4 nr⟩)))
  have r1h : gI r1.2.1 3 = 0 := by rw [rr1]; exact h3
  have hw1 : PS r1.2.2 tp (sA s1.2 31 (4 + nr) r1.1) N P1 := hp1.wA (by decide) (by decide)
  have F1 : PF M (sA s1.2 31 (4 + nr) r1.1) := (f2.tr fb1.PF).tr w2
  have G1 : fI tP tk r1.2.2 := g2.tr fa1
  refine ok_bind (ok_mono (number_of (a := 0) (b := 99) (by omega) (by omega) hw1 r1h) (fun r2 hr2 => ?_))
  obtain ⟨s2, es2, fa2, fb2, hs2⟩ := hr2
  rcases hs2 with ⟨q2, rr2, nn2, v2, k42, k52, P2, pl2, hp2⟩ | ⟨q2, fl2⟩
  rotate_left
  · refine ok_bindx (number_no fl2.ne) (ok_f fl2.ne (ok_some (pre ?_)))
    refine ok_f i10 (ok_lt ?_)
    rw [i172, e6, cl (show 4 + nr < 2 ^ 31 by omega)]
    refine ok_bindx es1 (ok_f (by rw [q1]; exact i10) (ok_lt (ok_f c12 (ok_lt ?_))))
    rw [v1]
    exact ok_bindx es2 (ok_t q2 (ok_some (mk0 _ _ _ (G1.tr fa2) (F1.tr fb2.PF) fl2)))
  have w3 : PF s2.2 (sA s2.2 32 (4 + nr) r2.1) := PF.wA (Or.inr (Or.inr (Or.inr ⟨by omega, by omega, Nat.le_add_right 4 nr⟩)))
  have r2h : gI r2.2.1 3 = 0 := by rw [rr2]; exact r1h
  have hw2 : PS r2.2.2 tp (sA s2.2 32 (4 + nr) r2.1) N P2 := hp2.wA (by decide) (by decide)
  have F2 : PF M (sA s2.2 32 (4 + nr) r2.1) := (F1.tr fb2.PF).tr w3
  have G2 : fI tP tk r2.2.2 := G1.tr fa2
  refine ok_bind (ok_mono (number_of (a := 0) (b := 99) (by omega) (by omega) hw2 r2h) (fun r3 hr3 => ?_))
  obtain ⟨s3, es3, fa3, fb3, hs3⟩ := hr3
  rcases hs3 with ⟨q3, rr3, nn3, v3, k43, k53, P3, pl3, hp3⟩ | ⟨q3, fl3⟩
  rotate_left
  · refine ok_f fl3.ne (ok_some (pre ?_))
    refine ok_f i10 (ok_lt ?_)
    rw [i172, e6, cl (show 4 + nr < 2 ^ 31 by omega)]
    refine ok_bindx es1 (ok_f (by rw [q1]; exact i10) (ok_lt (ok_f c12 (ok_lt ?_))))
    rw [v1]
    refine ok_bindx es2 (ok_f (by rw [q2]; exact i10) (ok_lt (ok_f c12 (ok_lt ?_))))
    rw [v2]
    exact ok_bindx es3 (ok_t q3 (ok_some (mk0 _ _ _ (G2.tr fa3) (F2.tr fb3.PF) fl3)))
  have rLh : gI r3.2.1 3 = 0 := by rw [rr3]; exact r2h
  have F : PF M (sI (sA s3.2 33 (4 + nr) r3.1) 19 (nI (nr + 1))) := ((F2.tr fb3.PF).tr (PF.wA (Or.inr (Or.inr (Or.inr ⟨by omega, by omega, Nat.le_add_right 4 nr⟩))))).tr (PF.wI (by unfold pI; omega))
  refine ok_t rLh (ok_bindx (add_c m0 m5 (by omega) (by omega)) (ok_some (pre ?_)))
  refine ok_f i10 (ok_lt ?_)
  rw [i172, e6, cl (show 4 + nr < 2 ^ 31 by omega)]
  refine ok_bindx es1 (ok_f (by rw [q1]; exact i10) (ok_lt (ok_f c12 (ok_lt ?_))))
  rw [v1]
  refine ok_bindx es2 (ok_f (by rw [q2]; exact i10) (ok_lt (ok_f c12 (ok_lt ?_))))
  rw [v2]
  refine ok_bindx es3 (ok_f (by rw [q3]; exact i10) (ok_lt (ok_f c12 (ok_lt ?_))))
  rw [v3]
  have iL : gI (sA s3.2 33 (4 + nr) r3.1) 19 + 1 = nI (nr + 1) := by
    rw [show gI (sA s3.2 33 (4 + nr) r3.1) 19 = nI nr from (fb3.1 19 (by unfold mQ mP; omega)).trans ((fb2.1 19 (by unfold mQ mP; omega)).trans ((fb1.1 19 (by unfold mQ mP; omega)).trans i172)), nI_1]
  rw [iL]
  refine ok_lt (ok_lt (ok_some ⟨F, MS.up rfl, G2.tr fa3, Or.inl ⟨rfl, rLh, rr3.trans (rr2.trans (rr1)), ?_, ?_, ⟨P3, by omega, (hp3.wA (by decide) (by decide)).wI (by omega)⟩, ?_, rfl⟩⟩))
  · exact k43.trans (k42.trans (k41.trans ((c2.1 4 (by unfold mP; omega)).trans (a2.1 4 (by unfold mP; omega)))))
  · exact k53.trans (k52.trans (k51.trans ((c2.1 5 (by unfold mP; omega)).trans (a2.1 5 (by unfold mP; omega)))))
  · have eo : ∀ r, r ≠ 30 → r ≠ 31 → r ≠ 32 → r ≠ 33 → gA (sI (sA s3.2 33 (4 + nr) r3.1) 19 (nI (nr + 1))) r = gA M r := fun r y0 y1 y2 y3 => by
      show gA (sA s3.2 33 (4 + nr) r3.1) r = _
      rw [gA_sAr _ _ _ y3, fb3.A, gA_sAr _ _ _ y2, fb2.A, gA_sAr _ _ _ y1, fb1.A, c2.A, gA_sAr _ _ _ y0, a2.A]
    have x0n : gA (sI (sA s3.2 33 (4 + nr) r3.1) 19 (nI (nr + 1))) 30 (4 + nr) = gI t1 5 := by
      show gA (sA s3.2 33 (4 + nr) r3.1) 30 (4 + nr) = _
      rw [gA_row _ _ _ _ (by decide), fb3.A, gA_row _ _ _ _ (by decide), fb2.A, gA_row _ _ _ _ (by decide), fb1.A, c2.A, gA_same]
    have x0o : ∀ i, i ≠ 4 + nr → gA (sI (sA s3.2 33 (4 + nr) r3.1) 19 (nI (nr + 1))) 30 i = gA M 30 i := fun i hi => by
      show gA (sA s3.2 33 (4 + nr) r3.1) 30 i = _
      rw [gA_row _ _ _ _ (by decide), fb3.A, gA_row _ _ _ _ (by decide), fb2.A, gA_row _ _ _ _ (by decide), fb1.A, c2.A, gA_idx _ _ _ _ hi, a2.A]
    have x1n : gA (sI (sA s3.2 33 (4 + nr) r3.1) 19 (nI (nr + 1))) 31 (4 + nr) = r1.1 := by
      show gA (sA s3.2 33 (4 + nr) r3.1) 31 (4 + nr) = _
      rw [gA_row _ _ _ _ (by decide), fb3.A, gA_row _ _ _ _ (by decide), fb2.A, gA_same]
    have x1o : ∀ i, i ≠ 4 + nr → gA (sI (sA s3.2 33 (4 + nr) r3.1) 19 (nI (nr + 1))) 31 i = gA M 31 i := fun i hi => by
      show gA (sA s3.2 33 (4 + nr) r3.1) 31 i = _
      rw [gA_row _ _ _ _ (by decide), fb3.A, gA_row _ _ _ _ (by decide), fb2.A, gA_idx _ _ _ _ hi, fb1.A, c2.A, gA_row _ _ _ _ (by decide), a2.A]
    have x2n : gA (sI (sA s3.2 33 (4 + nr) r3.1) 19 (nI (nr + 1))) 32 (4 + nr) = r2.1 := by
      show gA (sA s3.2 33 (4 + nr) r3.1) 32 (4 + nr) = _
      rw [gA_row _ _ _ _ (by decide), fb3.A, gA_same]
    have x2o : ∀ i, i ≠ 4 + nr → gA (sI (sA s3.2 33 (4 + nr) r3.1) 19 (nI (nr + 1))) 32 i = gA M 32 i := fun i hi => by
      show gA (sA s3.2 33 (4 + nr) r3.1) 32 i = _
      rw [gA_row _ _ _ _ (by decide), fb3.A, gA_idx _ _ _ _ hi, fb2.A, gA_row _ _ _ _ (by decide), fb1.A, c2.A, gA_row _ _ _ _ (by decide), a2.A]
    have x3n : gA (sI (sA s3.2 33 (4 + nr) r3.1) 19 (nI (nr + 1))) 33 (4 + nr) = r3.1 := by
      show gA (sA s3.2 33 (4 + nr) r3.1) 33 (4 + nr) = _
      rw [gA_same]
    have x3o : ∀ i, i ≠ 4 + nr → gA (sI (sA s3.2 33 (4 + nr) r3.1) 19 (nI (nr + 1))) 33 i = gA M 33 i := fun i hi => by
      show gA (sA s3.2 33 (4 + nr) r3.1) 33 i = _
      rw [gA_idx _ _ _ _ hi, fb3.A, gA_row _ _ _ _ (by decide), fb2.A, gA_row _ _ _ _ (by decide), fb1.A, c2.A, gA_row _ _ _ _ (by decide), a2.A]
    have ei : ∀ k, (17 ≤ k ∧ k ≤ 21) ∨ k = 47 → k ≠ 19 → gI (sI (sA s3.2 33 (4 + nr) r3.1) 19 (nI (nr + 1))) k = gI M k := fun k hk2 hk3 => by
      rw [gI_sIn _ _ hk3]
      show gI s3.2 k = _
      rw [fb3.1 k (by unfold mQ mP; omega)]
      show gI s2.2 k = _
      rw [fb2.1 k (by unfold mQ mP; omega)]
      show gI s1.2 k = _
      rw [fb1.1 k (by unfold mQ mP; omega)]
      rw [c2.1 k (by unfold mP; omega)]
      exact a2.1 k (by unfold mP; omega)
    have own : RDr (sI (sA (sA (sA (sA (S 3) 1 nr (gI t1 5)) 2 nr r1.1) 3 nr r2.1) 4 nr r3.1) 5 (nI (nr + 1))) (sI (sA s3.2 33 (4 + nr) r3.1) 19 (nI (nr + 1))) (nr + 1) := fun i hi => by
      have w' : ∀ r, gA (sI (sA (sA (sA (sA (S 3) 1 nr (gI t1 5)) 2 nr r1.1) 3 nr r2.1) 4 nr r3.1) 5 (nI (nr + 1))) r i = gA (sA (sA (sA (sA (S 3) 1 nr (gI t1 5)) 2 nr r1.1) 3 nr r2.1) 4 nr r3.1) r i := fun _ => rfl
      by_cases e : i = nr
      · subst e
        rw [w', w', w', w', x0n, x1n, x2n, x3n]
        rw [gA_row _ _ _ _ (by decide), gA_row _ _ _ _ (by decide), gA_row _ _ _ _ (by decide), gA_same, gA_row _ _ _ _ (by decide), gA_row _ _ _ _ (by decide), gA_same, gA_row _ _ _ _ (by decide), gA_same, gA_same]
        exact ⟨rfl, rfl, rfl, rfl, nn1, nn2, nn3⟩
      · rw [w', w', w', w', x0o _ (by omega), x1o _ (by omega), x2o _ (by omega), x3o _ (by omega)]
        rw [gA_idx _ _ _ _ e, gA_idx _ _ _ _ e, gA_idx _ _ _ _ e, gA_idx _ _ _ _ e, gA_idx _ _ _ _ e, gA_idx _ _ _ _ e, gA_idx _ _ _ _ e, gA_idx _ _ _ _ e, gA_idx _ _ _ _ e, gA_idx _ _ _ _ e, gA_idx _ _ _ _ e, gA_idx _ _ _ _ e, gA_idx _ _ _ _ e, gA_idx _ _ _ _ e, gA_idx _ _ _ _ e, gA_idx _ _ _ _ e]
        exact Rr i (by omega)
    exact ⟨na, ng, nr + 1, ns, kn, ⟨⟨z1.1, z1.2.1, by omega, z1.2.2.2⟩, ⟨z2.1, z2.2.1, z2.2.2.1, z2.2.2.2⟩, ⟨z3.1, z3.2.1, rfl, z3.2.2.2⟩, ⟨(ei 17 (by omega) (by decide)).trans z4.1, (ei 18 (by omega) (by decide)).trans z4.2.1, rfl, (ei 20 (by omega) (by decide)).trans z4.2.2.2⟩⟩, (by unfold RDa at *; rw [eo 24 (by decide) (by decide) (by decide) (by decide), eo 25 (by decide) (by decide) (by decide) (by decide), eo 26 (by decide) (by decide) (by decide) (by decide)]; exact Ra), (by unfold RDg at *; rw [eo 27 (by decide) (by decide) (by decide) (by decide), eo 28 (by decide) (by decide) (by decide) (by decide), eo 29 (by decide) (by decide) (by decide) (by decide)]; exact Rg), own, (by unfold RDs at *; rw [eo 34 (by decide) (by decide) (by decide) (by decide), eo 35 (by decide) (by decide) (by decide) (by decide)]; exact Rs), (by unfold RDm at *; rw [eo 22 (by decide) (by decide) (by decide) (by decide), eo 23 (by decide) (by decide) (by decide) (by decide), ei 21 (by omega) (by decide), ei 47 (by omega) (by decide)]; exact Rm), (by unfold LR2 k64 at *; rw [eo 36 (by decide) (by decide) (by decide) (by decide), eo 37 (by decide) (by decide) (by decide) (by decide), eo 38 (by decide) (by decide) (by decide) (by decide), eo 39 (by decide) (by decide) (by decide) (by decide), eo 40 (by decide) (by decide) (by decide) (by decide), eo 41 (by decide) (by decide) (by decide) (by decide)]; exact l0), (by unfold LR2 k64 at *; rw [eo 36 (by decide) (by decide) (by decide) (by decide), eo 37 (by decide) (by decide) (by decide) (by decide), eo 38 (by decide) (by decide) (by decide) (by decide), eo 39 (by decide) (by decide) (by decide) (by decide), eo 40 (by decide) (by decide) (by decide) (by decide), eo 41 (by decide) (by decide) (by decide) (by decide)]; exact l1), (by unfold LR2 k64 at *; rw [eo 36 (by decide) (by decide) (by decide) (by decide), eo 37 (by decide) (by decide) (by decide) (by decide), eo 38 (by decide) (by decide) (by decide) (by decide), eo 39 (by decide) (by decide) (by decide) (by decide), eo 40 (by decide) (by decide) (by decide) (by decide), eo 41 (by decide) (by decide) (by decide) (by decide)]; exact l2)⟩
