/-! shows -/
theorem passP {rd tk tp M : St} {N p : Nat} (h : PS tk tp M N p) (h3 : gI rd 3 = 0) : ok (fX6_passName 700 rd tk tp) (fun tk' => ok (fX12_token M) (fun M' => fI tP tk tk' ∧ fI mP M M' ∧ ∃ p', p ≤ p' ∧ (¬ gI tk 4 = 0 → p < p') ∧ PS tk' tp M' N p')) := by
  rw [pass_yes h3]; exact nextP h
theorem show_line {S : Nat → St} {rd tk tp M : St} {N p na ng nr ns kn : Nat} (hP : PS tk tp M N p) (hk : ¬ gI tk 4 = 0) (h3 : gI rd 3 = 0) (hR : RD S M na ng nr ns kn) : ok (fX6_readShow 700 rd tk tp S) (fun r => ok (fX12_showLine M) (fun r' => LNP S rd tk tp M N p r.1 r.2.1 r.2.2 r'.1 r'.2)) := by
  obtain ⟨⟨z1, z2, z3, z4⟩, Ra, Rg, Rr, Rs, Rm, l0, l1, l2⟩ := hR
  have m0 : gI (S 4) 0 = nI 14 := z2.2.2.2
  have m5 : gI (S 4) 5 = nI ns := z3.2.2.2
  have n14 : ns ≤ 14 := z1.2.2.2
  have n6 : na ≤ 6 := z1.1
  have i20 : gI M 20 = nI ns := z4.2.2.2
  unfold fX6_readShow fX12_showLine
  rw [full_c (n := 14) m0 m5 (by omega) n14, i20]
  by_cases full : ns = 14
  · rw [if_pos full, blame_0 h3]
    exact ok_f i10 (ok_lt (ok_some (ok_t (by rw [full]; rfl) (ok_lt (ok_some ⟨(wr_fI M 2).PF, MS.rf, fI.rf, Or.inr ⟨bz0, FL.mk hP (by decide)⟩⟩)))))
  rw [if_neg full]
  have nf : ¬ nI ns = (14 : Int32) := fun z => full ((nI_eq (a := ns) (b := 14) (by omega) (by omega)).mp z)
  refine ok_t rfl (ok_bind (ok_mono (nextP hP) (fun t1 ht => ok_lt (ok_bindx (find_eq z3.1 n6 (by omega)) (ok_lt ?_)))))
  obtain ⟨M1, eM1, a1, a2, p1, b1, b2, hP1⟩ := ht
  have p01 := b2 hk
  have i171 : gI M1 17 = nI na := (a2.1 17 (by unfold mP; omega)).trans z4.1
  have i201 : gI M1 20 = nI ns := (a2.1 20 (by unfold mP; omega)).trans i20
  have mk0 : ∀ (rd' tk' M' : St), fI tP tk tk' → PF M M' → FL rd' M' → LNP S rd tk tp M N p rd' tk' S 0 M' := fun rd' tk' M' x1 x2 x3 => ⟨x2, MS.rf, x1, Or.inr ⟨rfl, x3⟩⟩
  rcases kind_name hP1.2.2.2.2.2 with ⟨k1, k2, k5⟩ | ⟨k1, k2⟩
  rotate_left
  · rw [name_no k1 h3]
    have d : ¬ gI (sI (sI rd 3 1) 4 (gI t1 6)) 3 = 0 := i10
    refine ok_f d (ok_bindx (pass_no d) (ok_bindx (number_no d) (ok_lt (ok_f d (ok_some ?_)))))
    exact ok_f nf (ok_bindx eM1 (ok_f k2 (ok_lt (ok_some (show LNP S rd tk tp M N p _ _ _ (bz 0) _ from by rw [bz0]; exact mk0 _ _ _ a1 (a2.m.PF.tr (wr_fI M1 1).PF) (FL.mk hP1 (by decide)))))))
  rw [name_yes k1]
  have ef : fX12_find 12 (vwA M1 24) 6 (nI na) (gI M1 9) = some (fnd (gA (S 1) 1) (gI t1 5) na 0) := by
    rw [show (6 : Int32) = nI 6 from rfl, mfind_eq (by omega) (by omega), k5]
    refine congrArg some (fnd_cong na 0 (fun k _ hk2 => ?_))
    show gA M1 24 (6 + k) = gA (S 1) 1 k
    rw [a2.A]
    exact (Ra k (by omega)).1.symm
  refine ok_t h3 ?_
  rcases fnd_or (gA (S 1) 1) (gI t1 5) na 0 with q | ⟨j, _, hj, q⟩
  · rw [q]
    rw [q] at ef
    rw [blame_0 h3]
    have d : ¬ gI (sI (sI rd 3 4) 4 (gI t1 6)) 3 = 0 := show ¬ (4 : Int32) = 0 by decide
    refine ok_t rfl (ok_lt (ok_bindx (pass_no d) (ok_bindx (number_no d) (ok_lt (ok_f d (ok_some ?_))))))
    refine ok_f nf (ok_bindx eM1 (ok_t k2 ?_))
    rw [i171]
    exact ok_bindx ef (ok_f (by decide) (ok_lt (ok_some (show LNP S rd tk tp M N p _ _ _ (bz 0) _ from by rw [bz0]; exact mk0 _ _ _ a1 (a2.m.PF.tr (wr_fI M1 4).PF) (FL.mk hP1 (by decide))))))
  rw [q]
  rw [q] at ef
  refine ok_f (nI_nn (by omega)) ?_
  have c28 : ¬ (nI (14 + ns) < 0 ∨ 28 ≤ 14 + ns) := kx (by omega) (by decide)
  have e14 : (14 : Int32) + nI ns = nI (14 + ns) := by rw [show (14 : Int32) = nI 14 from rfl, nI_add]
  refine ok_bind (ok_mono (passP hP1 h3) (fun t2 ht2 => ?_))
  obtain ⟨M2, eM2, c1, c2, p2, c3, c4, hP2⟩ := ht2
  have p12 := c4 (by rw [k1]; decide)
  have i202 : gI M2 20 = nI ns := (c2.1 20 (by unfold mP; omega)).trans i201
  have w1 : PF M2 (sA M2 34 (14 + ns) (nI j)) := PF.wA (Or.inr (Or.inr (Or.inr ⟨by omega, by omega, Nat.le_add_right 14 ns⟩)))
  have f2 : PF M (sA M2 34 (14 + ns) (nI j)) := (a2.m.PF.tr c2.m.PF).tr w1
  have g2 : fI tP tk t2 := a1.tr c1
  have pre : ∀ {Q : Int32 × St → Prop} {F : Int32 × St → Option (Int32 × St)}, ok ((fX12_number (sA M2 34 (14 + ns) (nI j)) 0 99).bind F) Q → ok (if nI ns = (14 : Int32) then (lt (fX12_wrong M (2 : Int32)) fun r23 => some ((bz r23.1), r23.2)) else (fX12_token M).bind fun r2 => if (gI r2 8) = (2 : Int32) then ((fX12_find 12 (vwA r2 24) (6 : Int32) (gI r2 17) (gI r2 9)).bind fun r5 => if 0 ≤ r5 then ((fX12_token r2).bind fun r7 => if ((14 : Int32) + (gI r7 20)) < 0 ∨ 28 ≤ (((14 : Int32) + (gI r7 20))).toNatClampNeg then none else lt (sA r7 34 (((14 : Int32) + (gI r7 20))).toNatClampNeg r5) fun u10 => (fX12_number u10 (0 : Int32) (99 : Int32)).bind F) else lt (fX12_wrong r2 (4 : Int32)) fun r19 => some ((bz r19.1), r19.2)) else lt (fX12_wrong r2 (1 : Int32)) fun r21 => some ((bz r21.1), r21.2)) Q := by
    intro Q F hF
    refine ok_f nf (ok_bindx eM1 (ok_t k2 ?_))
    rw [i171]
    refine ok_bindx ef (ok_t (nI_pos' (by omega)) (ok_bindx eM2 ?_))
    rw [i202, e14, cl (show 14 + ns < 2 ^ 31 by omega)]
    exact ok_f c28 (ok_lt hF)
  refine ok_bind (ok_mono (number_of (a := 0) (b := 99) (by omega) (by omega) (hP2.wA (r := 34) (i := 14 + ns) (v := nI j) (by decide) (by decide)) h3) (fun r1 hr1 => ok_lt ?_))
  obtain ⟨s1, es1, fa1, fb1, hs1⟩ := hr1
  rcases hs1 with ⟨q1, rr1, nn1, v1, k41, k51, P1, pl1, hp1⟩ | ⟨q1, fl1⟩
  rotate_left
  · exact ok_f fl1.ne (ok_some (pre (ok_bindx es1 (ok_t q1 (ok_some (mk0 _ _ _ (g2.tr fa1) (f2.tr fb1.PF) fl1))))))
  have r1h : gI r1.2.1 3 = 0 := by rw [rr1]; exact h3
  have i203 : gI s1.2 20 = nI ns := (fb1.1 20 (by unfold mQ mP; omega)).trans i202
  have F : PF M (sI (sA s1.2 35 (14 + ns) r1.1) 20 (nI (ns + 1))) := ((f2.tr fb1.PF).tr (PF.wA (Or.inr (Or.inr (Or.inr ⟨by omega, by omega, Nat.le_add_right 14 ns⟩))))).tr (PF.wI (by unfold pI; omega))
  refine ok_t r1h (ok_bindx (add_c m0 m5 (by omega) (by omega)) (ok_some (pre (ok_bindx es1 (ok_f (by rw [q1]; exact i10) (ok_lt ?_))))))
  rw [i203, e14, cl (show 14 + ns < 2 ^ 31 by omega), v1]
  refine ok_f c28 (ok_lt ?_)
  have iL : gI (sA s1.2 35 (14 + ns) r1.1) 20 + 1 = nI (ns + 1) := by
    rw [show gI (sA s1.2 35 (14 + ns) r1.1) 20 = nI ns from i203, nI_1]
  rw [iL]
  refine ok_lt (ok_lt (ok_some ⟨F, MS.up rfl, g2.tr fa1, Or.inl ⟨rfl, r1h, rr1, ?_, ?_, ⟨P1, by omega, (hp1.wA (by decide) (by decide)).wI (by omega)⟩, ?_, rfl⟩⟩))
  · exact k41.trans ((c2.1 4 (by unfold mP; omega)).trans (a2.1 4 (by unfold mP; omega)))
  · exact k51.trans ((c2.1 5 (by unfold mP; omega)).trans (a2.1 5 (by unfold mP; omega)))
  · have eo : ∀ r, r ≠ 34 → r ≠ 35 → gA (sI (sA s1.2 35 (14 + ns) r1.1) 20 (nI (ns + 1))) r = gA M r := fun r y0 y1 => by
      show gA (sA s1.2 35 (14 + ns) r1.1) r = _
      rw [gA_sAr _ _ _ y1, fb1.A, gA_sAr _ _ _ y0, c2.A, a2.A]
    have x0n : gA (sI (sA s1.2 35 (14 + ns) r1.1) 20 (nI (ns + 1))) 34 (14 + ns) = nI j := by
      show gA (sA s1.2 35 (14 + ns) r1.1) 34 (14 + ns) = _
      rw [gA_row _ _ _ _ (by decide), fb1.A, gA_same]
    have x0o : ∀ i, i ≠ 14 + ns → gA (sI (sA s1.2 35 (14 + ns) r1.1) 20 (nI (ns + 1))) 34 i = gA M 34 i := fun i hi => by
      show gA (sA s1.2 35 (14 + ns) r1.1) 34 i = _
      rw [gA_row _ _ _ _ (by decide), fb1.A, gA_idx _ _ _ _ hi, c2.A, a2.A]
    have x1n : gA (sI (sA s1.2 35 (14 + ns) r1.1) 20 (nI (ns + 1))) 35 (14 + ns) = r1.1 := gA_same _ _ _ _
    have x1o : ∀ i, i ≠ 14 + ns → gA (sI (sA s1.2 35 (14 + ns) r1.1) 20 (nI (ns + 1))) 35 i = gA M 35 i := fun i hi => by
      show gA (sA s1.2 35 (14 + ns) r1.1) 35 i = _
      rw [gA_idx _ _ _ _ hi, fb1.A, gA_row _ _ _ _ (by decide), c2.A, a2.A]
    have ei : ∀ k, (17 ≤ k ∧ k ≤ 21) ∨ k = 47 → k ≠ 20 → gI (sI (sA s1.2 35 (14 + ns) r1.1) 20 (nI (ns + 1))) k = gI M k := fun k hk2 hk3 => by
      rw [gI_sIn _ _ hk3]
      show gI s1.2 k = _
      rw [fb1.1 k (by unfold mQ mP; omega)]
      show gI M2 k = _
      rw [c2.1 k (by unfold mP; omega)]
      exact a2.1 k (by unfold mP; omega)
    have own : RDs (sI (sA (sA (sA (sA (S 4) 1 ns 0) 2 ns (nI j)) 3 ns r1.1) 4 ns 0) 5 (nI (ns + 1))) (sI (sA s1.2 35 (14 + ns) r1.1) 20 (nI (ns + 1))) na (ns + 1) := fun i hi => by
      have w' : ∀ r, gA (sI (sA (sA (sA (sA (S 4) 1 ns 0) 2 ns (nI j)) 3 ns r1.1) 4 ns 0) 5 (nI (ns + 1))) r i = gA (sA (sA (sA (sA (S 4) 1 ns 0) 2 ns (nI j)) 3 ns r1.1) 4 ns 0) r i := fun _ => rfl
      by_cases e : i = ns
      · subst e
        rw [w', w', x0n, x1n]
        rw [gA_row _ _ _ _ (by decide), gA_row _ _ _ _ (by decide), gA_same, gA_row _ _ _ _ (by decide), gA_same]
        exact ⟨rfl, rfl, ⟨j, by omega, rfl⟩, nn1⟩
      · rw [w', w', x0o _ (by omega), x1o _ (by omega)]
        rw [gA_idx _ _ _ _ e, gA_idx _ _ _ _ e, gA_idx _ _ _ _ e, gA_idx _ _ _ _ e, gA_idx _ _ _ _ e, gA_idx _ _ _ _ e, gA_idx _ _ _ _ e, gA_idx _ _ _ _ e]
        exact Rs i (by omega)
    exact ⟨na, ng, nr, ns + 1, kn, ⟨⟨z1.1, z1.2.1, z1.2.2.1, by omega⟩, ⟨z2.1, z2.2.1, z2.2.2.1, z2.2.2.2⟩, ⟨z3.1, z3.2.1, z3.2.2.1, rfl⟩, ⟨(ei 17 (by omega) (by decide)).trans z4.1, (ei 18 (by omega) (by decide)).trans z4.2.1, (ei 19 (by omega) (by decide)).trans z4.2.2.1, rfl⟩⟩, (by unfold RDa at *; rw [eo 24 (by decide) (by decide), eo 25 (by decide) (by decide), eo 26 (by decide) (by decide)]; exact Ra), (by unfold RDg at *; rw [eo 27 (by decide) (by decide), eo 28 (by decide) (by decide), eo 29 (by decide) (by decide)]; exact Rg), (by unfold RDr at *; rw [eo 30 (by decide) (by decide), eo 31 (by decide) (by decide), eo 32 (by decide) (by decide), eo 33 (by decide) (by decide)]; exact Rr), own, (by unfold RDm at *; rw [eo 22 (by decide) (by decide), eo 23 (by decide) (by decide), ei 21 (by omega) (by decide), ei 47 (by omega) (by decide)]; exact Rm), (by unfold LR2 k64 at *; rw [eo 36 (by decide) (by decide), eo 37 (by decide) (by decide), eo 38 (by decide) (by decide), eo 39 (by decide) (by decide), eo 40 (by decide) (by decide), eo 41 (by decide) (by decide)]; exact l0), (by unfold LR2 k64 at *; rw [eo 36 (by decide) (by decide), eo 37 (by decide) (by decide), eo 38 (by decide) (by decide), eo 39 (by decide) (by decide), eo 40 (by decide) (by decide), eo 41 (by decide) (by decide)]; exact l1), (by unfold LR2 k64 at *; rw [eo 36 (by decide) (by decide), eo 37 (by decide) (by decide), eo 38 (by decide) (by decide), eo 39 (by decide) (by decide), eo 40 (by decide) (by decide), eo 41 (by decide) (by decide)]; exact l2)⟩
/-! coughs and seeds -/
theorem cough_line {S : Nat → St} {rd tk tp M : St} {N p na ng nr ns kn : Nat} (hP : PS tk tp M N p) (hk : ¬ gI tk 4 = 0) (h3 : gI rd 3 = 0) (hR : RD S M na ng nr ns kn) : ok (fX6_readCough 700 rd tk tp S) (fun r => ok (fX12_onceLine M 0 100) (fun r' => LNP S rd tk tp M N p r.1 r.2.1 r.2.2 r'.1 r'.2)) := by
  obtain ⟨⟨z1, z2, z3, z4⟩, Ra, Rg, Rr, Rs, ⟨⟨e5, n5⟩, ⟨e6, n6⟩, e7, e8, ek, e9, e21, e47⟩, l0, l1, l2⟩ := hR
  unfold fX6_readCough fX12_onceLine
  have et : gI (S 0) 7 = gA M 22 0 := e7
  have cK : ¬ ((0 : Int32) < 0 ∨ 2 ≤ (0 : Int32).toNatClampNeg) := by decide
  have cl0 : (0 : Int32).toNatClampNeg = 0 := by decide
  have cl2 : ((2 : Int32) + 0).toNatClampNeg = 2 := by decide
  have c4 : ¬ (((2 : Int32) + 0) < 0 ∨ 4 ≤ 2) := by decide
  rw [cl0]
  by_cases told : gI (S 0) 7 = 0
  rotate_left
  · rw [blame_0 h3]
    exact ok_f told (ok_lt (ok_some (ok_f (by decide) (ok_f (by rw [← et]; exact told) (ok_lt (ok_some (show LNP S rd tk tp M N p _ _ _ (bz 0) _ from by rw [bz0]; exact ⟨(wr_fI M 3).PF, MS.rf, fI.rf, Or.inr ⟨rfl, FL.mk hP (by decide)⟩⟩)))))))
  have w0 : PF M (sA M 22 0 (bz 1)) := PF.wA (Or.inl rfl)
  refine ok_t told (ok_bind (ok_mono (nextP (hP.wA (r := 22) (i := 0) (v := bz 1) (by decide) (by decide))) (fun t1 ht => ?_)))
  obtain ⟨M1, eM1, a1, a2, p1, b1, b2, hP1⟩ := ht
  have p01 := b2 hk
  refine ok_bind (ok_mono (number_of (a := 0) (b := 100) (by omega) (by omega) hP1 h3) (fun r1 hr1 => ok_lt (ok_lt (ok_lt (ok_some ?_)))))
  obtain ⟨s1, es1, fa1, fb1, hs1⟩ := hr1
  refine ok_f (by decide) (ok_t (by rw [← et]; exact told) (ok_f (by decide) (ok_lt (ok_bindx eM1 (ok_bindx es1 ?_)))))
  have ms : MS S (va_up S 0 (sI (sI (S 0) 5 r1.1) 7 1)) := fun j h1 _ => by rw [vu_n _ _ (by omega)]
  rcases hs1 with ⟨q1, rr1, nn1, v1, k41, k51, P1, pl1, hp1⟩ | ⟨q1, fl1⟩
  rotate_left
  · exact ok_t q1 (ok_some ⟨(w0.tr a2.m.PF).tr fb1.PF, ms, a1.tr fa1, Or.inr ⟨rfl, fl1⟩⟩)
  have r1h : gI r1.2.1 3 = 0 := by rw [rr1]; exact h3
  rw [cl2, v1]
  have F : PF M (sA s1.2 23 2 r1.1) := ((w0.tr a2.m.PF).tr fb1.PF).tr (PF.wA (Or.inr (Or.inr (Or.inr ⟨by omega, by omega, by decide⟩))))
  refine ok_f (by rw [q1]; exact i10) (ok_lt (ok_f c4 (ok_lt (ok_some ⟨F, ms, a1.tr fa1, Or.inl ⟨rfl, r1h, rr1, ?_, ?_, ⟨P1, by omega, hp1.wA (by decide) (by decide)⟩, ?_, rfl⟩⟩))))
  · exact k41.trans (a2.1 4 (by unfold mP; omega))
  · exact k51.trans (a2.1 5 (by unfold mP; omega))
  · have eo : ∀ r, r ≠ 22 → r ≠ 23 → gA (sA s1.2 23 2 r1.1) r = gA M r := fun r y0 y1 => by
      rw [gA_sAr _ _ _ y1, fb1.A, a2.A, gA_sAr _ _ _ y0]
    have x22 : gA (sA s1.2 23 2 r1.1) 22 0 = 1 := by
      rw [gA_row _ _ _ _ (by decide), fb1.A, a2.A, gA_same]; exact bz1
    have x22o : gA (sA s1.2 23 2 r1.1) 22 1 = gA M 22 1 := by
      rw [gA_row _ _ _ _ (by decide), fb1.A, a2.A, gA_idx _ _ _ _ (by decide)]
    have x23 : gA (sA s1.2 23 2 r1.1) 23 2 = r1.1 := gA_same _ _ _ _
    have x23o : gA (sA s1.2 23 2 r1.1) 23 3 = gA M 23 3 := by
      rw [gA_idx _ _ _ _ (by decide), fb1.A, a2.A, gA_row _ _ _ _ (by decide)]
    have ei : ∀ k, (17 ≤ k ∧ k ≤ 21) ∨ k = 47 → gI (sA s1.2 23 2 r1.1) k = gI M k := fun k hk2 => by
      show gI s1.2 k = _
      rw [fb1.1 k (by unfold mQ mP; omega)]
      exact a2.1 k (by unfold mP; omega)
    have own : RDm (sI (sI (S 0) 5 r1.1) 7 1) (sA s1.2 23 2 r1.1) kn := ⟨⟨x23.symm, by rw [x23]; exact nn1⟩, ⟨by rw [x23o]; exact e6, by rw [x23o]; exact n6⟩, x22.symm, by rw [x22o]; exact e8, ek, e9, (ei 21 (by omega)).trans e21, (ei 47 (by omega)).trans e47⟩
    exact ⟨na, ng, nr, ns, kn, ⟨z1, z2, z3, ⟨(ei 17 (by omega)).trans z4.1, (ei 18 (by omega)).trans z4.2.1, (ei 19 (by omega)).trans z4.2.2.1, (ei 20 (by omega)).trans z4.2.2.2⟩⟩, (by unfold RDa at *; rw [eo 24 (by decide) (by decide), eo 25 (by decide) (by decide), eo 26 (by decide) (by decide)]; exact Ra), (by unfold RDg at *; rw [eo 27 (by decide) (by decide), eo 28 (by decide) (by decide), eo 29 (by decide) (by decide)]; exact Rg), (by unfold RDr at *; rw [eo 30 (by decide) (by decide), eo 31 (by decide) (by decide), eo 32 (by decide) (by decide), eo 33 (by decide) (by decide)]; exact Rr), (by unfold RDs at *; rw [eo 34 (by decide) (by decide), eo 35 (by decide) (by decide)]; exact Rs), own, (by unfold LR2 k64 at *; rw [eo 36 (by decide) (by decide), eo 37 (by decide) (by decide), eo 38 (by decide) (by decide), eo 39 (by decide) (by decide), eo 40 (by decide) (by decide), eo 41 (by decide) (by decide)]; exact l0), (by unfold LR2 k64 at *; rw [eo 36 (by decide) (by decide), eo 37 (by decide) (by decide), eo 38 (by decide) (by decide), eo 39 (by decide) (by decide), eo 40 (by decide) (by decide), eo 41 (by decide) (by decide)]; exact l1), (by unfold LR2 k64 at *; rw [eo 36 (by decide) (by decide), eo 37 (by decide) (by decide), eo 38 (by decide) (by decide), eo 39 (by decide) (by decide), eo 40 (by decide) (by decide), eo 41 (by decide) (by decide)]; exact l2)⟩
theorem seed_line {S : Nat → St} {rd tk tp M : St} {N p na ng nr ns kn : Nat} (hP : PS tk tp M N p) (hk : ¬ gI tk 4 = 0) (h3 : gI rd 3 = 0) (hR : RD S M na ng nr ns kn) : ok (fX6_readSeed 700 rd tk tp S) (fun r => ok (fX12_onceLine M 1 99999) (fun r' => LNP S rd tk tp M N p r.1 r.2.1 r.2.2 r'.1 r'.2)) := by
  obtain ⟨⟨z1, z2, z3, z4⟩, Ra, Rg, Rr, Rs, ⟨⟨e5, n5⟩, ⟨e6, n6⟩, e7, e8, ek, e9, e21, e47⟩, l0, l1, l2⟩ := hR
  unfold fX6_readSeed fX12_onceLine
  have et : gI (S 0) 8 = gA M 22 1 := e8
  have cK : ¬ ((1 : Int32) < 0 ∨ 2 ≤ (1 : Int32).toNatClampNeg) := by decide
  have cl0 : (1 : Int32).toNatClampNeg = 1 := by decide
  have cl2 : ((2 : Int32) + 1).toNatClampNeg = 3 := by decide
  have c4 : ¬ (((2 : Int32) + 1) < 0 ∨ 4 ≤ 3) := by decide
  rw [cl0]
  by_cases told : gI (S 0) 8 = 0
  rotate_left
  · rw [blame_0 h3]
    exact ok_f told (ok_lt (ok_some (ok_f (by decide) (ok_f (by rw [← et]; exact told) (ok_lt (ok_some (show LNP S rd tk tp M N p _ _ _ (bz 0) _ from by rw [bz0]; exact ⟨(wr_fI M 3).PF, MS.rf, fI.rf, Or.inr ⟨rfl, FL.mk hP (by decide)⟩⟩)))))))
  have w0 : PF M (sA M 22 1 (bz 1)) := PF.wA (Or.inl rfl)
  refine ok_t told (ok_bind (ok_mono (nextP (hP.wA (r := 22) (i := 1) (v := bz 1) (by decide) (by decide))) (fun t1 ht => ?_)))
  obtain ⟨M1, eM1, a1, a2, p1, b1, b2, hP1⟩ := ht
  have p01 := b2 hk
  refine ok_bind (ok_mono (number_of (a := 0) (b := 99999) (by omega) (by omega) hP1 h3) (fun r1 hr1 => ok_lt (ok_lt (ok_lt (ok_some ?_)))))
  obtain ⟨s1, es1, fa1, fb1, hs1⟩ := hr1
  refine ok_f (by decide) (ok_t (by rw [← et]; exact told) (ok_f (by decide) (ok_lt (ok_bindx eM1 (ok_bindx es1 ?_)))))
  have ms : MS S (va_up S 0 (sI (sI (S 0) 6 r1.1) 8 1)) := fun j h1 _ => by rw [vu_n _ _ (by omega)]
  rcases hs1 with ⟨q1, rr1, nn1, v1, k41, k51, P1, pl1, hp1⟩ | ⟨q1, fl1⟩
  rotate_left
  · exact ok_t q1 (ok_some ⟨(w0.tr a2.m.PF).tr fb1.PF, ms, a1.tr fa1, Or.inr ⟨rfl, fl1⟩⟩)
  have r1h : gI r1.2.1 3 = 0 := by rw [rr1]; exact h3
  rw [cl2, v1]
  have F : PF M (sA s1.2 23 3 r1.1) := ((w0.tr a2.m.PF).tr fb1.PF).tr (PF.wA (Or.inr (Or.inr (Or.inr ⟨by omega, by omega, by decide⟩))))
  refine ok_f (by rw [q1]; exact i10) (ok_lt (ok_f c4 (ok_lt (ok_some ⟨F, ms, a1.tr fa1, Or.inl ⟨rfl, r1h, rr1, ?_, ?_, ⟨P1, by omega, hp1.wA (by decide) (by decide)⟩, ?_, rfl⟩⟩))))
  · exact k41.trans (a2.1 4 (by unfold mP; omega))
  · exact k51.trans (a2.1 5 (by unfold mP; omega))
  · have eo : ∀ r, r ≠ 22 → r ≠ 23 → gA (sA s1.2 23 3 r1.1) r = gA M r := fun r y0 y1 => by
      rw [gA_sAr _ _ _ y1, fb1.A, a2.A, gA_sAr _ _ _ y0]
    have x22 : gA (sA s1.2 23 3 r1.1) 22 1 = 1 := by
      rw [gA_row _ _ _ _ (by decide), fb1.A, a2.A, gA_same]; exact bz1
    have x22o : gA (sA s1.2 23 3 r1.1) 22 0 = gA M 22 0 := by
      rw [gA_row _ _ _ _ (by decide), fb1.A, a2.A, gA_idx _ _ _ _ (by decide)]
    have x23 : gA (sA s1.2 23 3 r1.1) 23 3 = r1.1 := gA_same _ _ _ _
    have x23o : gA (sA s1.2 23 3 r1.1) 23 2 = gA M 23 2 := by
      rw [gA_idx _ _ _ _ (by decide), fb1.A, a2.A, gA_row _ _ _ _ (by decide)]
    have ei : ∀ k, (17 ≤ k ∧ k ≤ 21) ∨ k = 47 → gI (sA s1.2 23 3 r1.1) k = gI M k := fun k hk2 => by
      show gI s1.2 k = _
      rw [fb1.1 k (by unfold mQ mP; omega)]
      exact a2.1 k (by unfold mP; omega)
    have own : RDm (sI (sI (S 0) 6 r1.1) 8 1) (sA s1.2 23 3 r1.1) kn := ⟨⟨by rw [x23o]; exact e5, by rw [x23o]; exact n5⟩, ⟨x23.symm, by rw [x23]; exact nn1⟩, by rw [x22o]; exact e7, x22.symm, ek, e9, (ei 21 (by omega)).trans e21, (ei 47 (by omega)).trans e47⟩
    exact ⟨na, ng, nr, ns, kn, ⟨z1, z2, z3, ⟨(ei 17 (by omega)).trans z4.1, (ei 18 (by omega)).trans z4.2.1, (ei 19 (by omega)).trans z4.2.2.1, (ei 20 (by omega)).trans z4.2.2.2⟩⟩, (by unfold RDa at *; rw [eo 24 (by decide) (by decide), eo 25 (by decide) (by decide), eo 26 (by decide) (by decide)]; exact Ra), (by unfold RDg at *; rw [eo 27 (by decide) (by decide), eo 28 (by decide) (by decide), eo 29 (by decide) (by decide)]; exact Rg), (by unfold RDr at *; rw [eo 30 (by decide) (by decide), eo 31 (by decide) (by decide), eo 32 (by decide) (by decide), eo 33 (by decide) (by decide)]; exact Rr), (by unfold RDs at *; rw [eo 34 (by decide) (by decide), eo 35 (by decide) (by decide)]; exact Rs), own, (by unfold LR2 k64 at *; rw [eo 36 (by decide) (by decide), eo 37 (by decide) (by decide), eo 38 (by decide) (by decide), eo 39 (by decide) (by decide), eo 40 (by decide) (by decide), eo 41 (by decide) (by decide)]; exact l0), (by unfold LR2 k64 at *; rw [eo 36 (by decide) (by decide), eo 37 (by decide) (by decide), eo 38 (by decide) (by decide), eo 39 (by decide) (by decide), eo 40 (by decide) (by decide), eo 41 (by decide) (by decide)]; exact l1), (by unfold LR2 k64 at *; rw [eo 36 (by decide) (by decide), eo 37 (by decide) (by decide), eo 38 (by decide) (by decide), eo 39 (by decide) (by decide), eo 40 (by decide) (by decide), eo 41 (by decide) (by decide)]; exact l2)⟩
