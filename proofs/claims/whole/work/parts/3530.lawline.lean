/-! a law's line -/
def lwC (S : Nat → St) (rd t1 ph tp : St) (idx : Nat) : Option (St × St × St × (Nat → St)) := if (gI (S idx) 4) = 0 then ((fX10_next 700 t1 tp).bind fun r10 => lt (sI (S idx) 4 (1 : Int32)) fun u12 => (fX5_readInto 700 ph u12 r10 tp ((64 : Int32) - (gI (S 0) 9))).bind fun r13 => lt r13.1 fun x15 => lt ((gI (S 0) 9) + (gI r13.2.1 3)) fun x16 => lt (sI (S 0) 9 x16) fun u17 => if x15 = 0 then (some (rd, r13.2.2.2, r13.2.1, (va_up (va_up S 0 u17) idx r13.2.2.1))) else lt (fX6_blame rd r13.2.2.2 x15) fun r19 => some (r19, r13.2.2.2, r13.2.1, (va_up (va_up S 0 u17) idx r13.2.2.1))) else lt (fX6_blame rd t1 (3 : Int32)) fun r21 => some (r21, t1, ph, S)
theorem readLaw_eq (rd tk tp ph : St) (S : Nat → St) : fX6_readLaw 700 rd tk tp ph S = (fX10_next 700 tk tp).bind fun r1 => lt ((gI r1 5) - (7 : Int32)) fun x3 => lt (if (gI r1 4) = (2 : Int32) then (if x3 < 0 then ((0 : Int32)) else if (2 : Int32) < x3 then ((0 : Int32)) else (1 : Int32)) else (0 : Int32)) fun x4 => lt (fX6_isDue rd r1 x4) fun r5 => if r5.1 = 0 then (some (r5.2, r1, ph, S)) else if x3 = 0 then lwC S r5.2 r1 ph tp 5 else if x3 = 1 then lwC S r5.2 r1 ph tp 6 else if x3 = 2 then lwC S r5.2 r1 ph tp 7 else none := rfl
def lwM (j9 : Int32 → St → Option (Int32 × St)) (r40 : St) : Option (Int32 × St) := lt (lt (fX12_wrong r40 (1 : Int32)) fun r43 => some ((bz r43.1), r43.2)) fun j42 => if (gI r40 8) = (1 : Int32) then (if (gI r40 9) < (7 : Int32) then (j42) else if (gI r40 9) ≤ (9 : Int32) then (lt (((3 : Int32) + (gI r40 9)) - (7 : Int32)) fun x48 => if x48 < 0 ∨ 6 ≤ (x48).toNatClampNeg then none else if (gA r40 36 (x48).toNatClampNeg) = 0 then (if x48 < 0 ∨ 6 ≤ (x48).toNatClampNeg then none else lt (sA r40 36 (x48).toNatClampNeg (bz (1 : Int32))) fun u52 => (fX12_token u52).bind fun r53 => lt (gI r53 21) fun x55 => if x48 < 0 ∨ 6 ≤ (x48).toNatClampNeg then none else lt (sA r53 37 (x48).toNatClampNeg x55) fun u57 => (fX12_sumRead u57).bind fun r58 => lt r58.1 fun x60 => lt (gI r58.2 21) fun x61 => if x48 < 0 ∨ 6 ≤ (x48).toNatClampNeg then none else lt (sA r58.2 38 (x48).toNatClampNeg x61) fun u63 => j9 x60 u63) else lt (fX12_wrong r40 (3 : Int32)) fun r64 => some ((bz r64.1), r64.2)) else j42) else j42
theorem LW_cong {k p o k' p' o' : Nat → Int32} {fr n : Nat} (h : LW k p o fr n) (hk : ∀ i, i < n → k' (fr + i) = k (fr + i) ∧ p' (fr + i) = p (fr + i) ∧ o' (fr + i) = o (fr + i)) : LW k' p' o' fr n := by
  intro i hi
  obtain ⟨t, a1, a2, a3, a4, a5, a6⟩ := h i hi
  obtain ⟨e1, e2, e3⟩ := hk i hi
  have hs : hst (fun j => k' (fr + j)) i = hst (fun j => k (fr + j)) i := hst_cong i (fun j hj => (hk j (by omega)).1)
  exact ⟨t, a1, by rw [e1]; exact a2, by rw [e2]; exact a3, by rw [e2]; exact a4, by rw [hs, e2]; exact a5, by rw [hs, e2, e3]; exact a6⟩
theorem LR2.fr {f M M' : St} {w kn kn' : Nat} (h : LR2 f M w kn) (hk : kn ≤ kn') (h36 : gA M' 36 (3 + w) = gA M 36 (3 + w)) (h37 : gA M' 37 (3 + w) = gA M 37 (3 + w)) (h38 : gA M' 38 (3 + w) = gA M 38 (3 + w)) (hr : ∀ r, 39 ≤ r → r ≤ 41 → ∀ i, i < kn → k64 M' r i = k64 M r i) : LR2 f M' w kn' := by
  obtain ⟨a, b⟩ := h
  refine ⟨by rw [h36]; exact a, ?_⟩
  rw [h36, h37, h38]
  rcases b with b | ⟨b, fr, n, c1, c2, c3, c4, c5, c6, c7, c8⟩
  · exact Or.inl b
  · have e39 : ∀ i, i < n → k64 M' 39 (fr + i) = k64 M 39 (fr + i) := fun i hi => hr 39 (by omega) (by omega) _ (by omega)
    refine Or.inr ⟨b, fr, n, c1, by omega, c3, c4, c5, LW_cong c6 (fun i hi => ⟨e39 i hi, hr 40 (by omega) (by omega) _ (by omega), hr 41 (by omega) (by omega) _ (by omega)⟩), fun i hi => ?_, ?_⟩
    · rw [e39 i hi, hr 40 (by omega) (by omega) _ (by omega)]; exact c7 i hi
    · rw [hst_cong n e39]; exact c8
theorem HF.PF {fr : Nat} {M M' : St} (h : HF fr M M') : PF M M' := ⟨fun k q => h.1 k (fun z => q (by unfold hI at z; unfold pI; omega)), h.2.1, fun r i q => h.2.2 r i (fun z => q (by
  unfold pA
  rcases z with z | z | ⟨z1, z2, z3⟩
  · exact Or.inr (Or.inl z)
  · exact Or.inr (Or.inr (Or.inl z))
  · refine Or.inr (Or.inr (Or.inr ⟨by omega, by omega, ?_⟩))
    unfold lo
    rw [if_neg (by omega), if_neg (by omega), if_neg (by omega), if_neg (by omega), if_neg (by omega)]
    omega))⟩
/-- the line of the law k -/
theorem lw_line {S : Nat → St} {rd t1 tp ph M1 : St} {N p1 na ng nr ns kn k : Nat} (hk : k < 3) (hP1 : PS t1 tp M1 N p1) (k0 : ¬ gI t1 4 = 0) (h3 : gI rd 3 = 0) (hR : RD S M1 na ng nr ns kn) (h8 : gI M1 8 = 1) (h9 : gI M1 9 = nI (7 + k)) : ok (lwC S rd t1 ph tp (5 + k)) (fun r => ∃ r' : Int32 × St, LNP S rd t1 tp M1 N p1 r.1 r.2.1 r.2.2.2 r'.1 r'.2 ∧ ∀ (Q : Int32 × St → Prop) (j9 : Int32 → St → Option (Int32 × St)), (∀ u, j9 0 u = some (0, u)) → ok (j9 r'.1 r'.2) Q → ok (lwM j9 M1) Q) := by
  obtain ⟨⟨z1, z2, z3, z4⟩, Ra, Rg, Rr, Rs, ⟨m1, m2, m3, m4, ek, e9, e21, e47⟩, l0, l1, l2⟩ := hR
  -- the law's own part
  have hL : LR2 (S (5 + k)) M1 k kn := by
    rcases (show k = 0 ∨ k = 1 ∨ k = 2 by omega) with rfl | rfl | rfl
    · exact l0
    · exact l1
    · exact l2
  have x48 : ((3 : Int32) + nI (7 + k)) - 7 = nI (3 + k) := by
    rw [show (3 : Int32) = nI 3 from rfl, nI_add, show (7 : Int32) = nI 7 from rfl, nI_sub (by omega)]; congr 1; omega
  have c6 : ¬ (nI (3 + k) < 0 ∨ 6 ≤ 3 + k) := kx (by omega) (by decide)
  have pre : ∀ (Q : Int32 × St → Prop) (j9 : Int32 → St → Option (Int32 × St)), ok (if (gA M1 36 (3 + k)) = 0 then (if nI (3 + k) < 0 ∨ 6 ≤ 3 + k then none else lt (sA M1 36 (3 + k) (bz (1 : Int32))) fun u52 => (fX12_token u52).bind fun r53 => lt (gI r53 21) fun x55 => if nI (3 + k) < 0 ∨ 6 ≤ 3 + k then none else lt (sA r53 37 (3 + k) x55) fun u57 => (fX12_sumRead u57).bind fun r58 => lt r58.1 fun x60 => lt (gI r58.2 21) fun x61 => if nI (3 + k) < 0 ∨ 6 ≤ 3 + k then none else lt (sA r58.2 38 (3 + k) x61) fun u63 => j9 x60 u63) else lt (fX12_wrong M1 (3 : Int32)) fun r64 => some ((bz r64.1), r64.2)) Q → ok (lwM j9 M1) Q := by
    intro Q j9 h
    unfold lwM
    rw [h9]
    refine ok_lt (ok_t h8 (ok_f (show ¬ nI (7 + k) < nI 7 by rw [nI_ltI (by omega) (by omega)]; omega) (ok_t (show nI (7 + k) ≤ nI 9 by rw [nI_leI (by omega) (by omega)]; omega) ?_)))
    rw [x48]
    refine ok_lt ?_
    rw [cl (show 3 + k < 2 ^ 31 by omega)]
    exact ok_f c6 h
  unfold lwC
  rw [e9]
  rcases hL.2 with ⟨t0, f30⟩ | ⟨t1', _⟩
  rotate_left
  · have told : ¬ gI (S (5 + k)) 4 = 0 := by rw [hL.1, t1']; exact i10
    rw [blame_0 h3]
    refine ok_f told (ok_lt (ok_some ⟨(0, wrM M1 3), ⟨(wr_fI M1 3).PF, MS.rf, fI.rf, Or.inr ⟨rfl, FL.mk hP1 (by decide)⟩⟩, fun Q j9 hj hQ => pre Q j9 (ok_f (by rw [t1']; exact i10) (ok_lt (ok_some ?_)))⟩))
    have := hj (wrM M1 3)
    rw [show (0, wrM M1 3).1 = (0 : Int32) from rfl, show ((0 : Int32), wrM M1 3).2 = wrM M1 3 from rfl, this] at hQ
    obtain ⟨a, ea, ha⟩ := hQ
    cases ea
    show Q (bz 0, wrM M1 3)
    rw [bz0]; exact ha
  have told : gI (S (5 + k)) 4 = 0 := hL.1.trans t0
  have w36 : PF M1 (sA M1 36 (3 + k) (bz 1)) := PF.wA (Or.inr (Or.inr (Or.inr ⟨by omega, by omega, Nat.le_add_right 3 k⟩)))
  refine ok_t told (ok_bind (ok_mono (nextP (hP1.wA (r := 36) (i := 3 + k) (v := bz 1) (by decide) (by decide))) (fun t2 ht2 => ok_lt ?_)))
  obtain ⟨M2, eM2, a1, a2, p2, b1, b2, hP2⟩ := ht2
  have p12 := b2 k0
  have i21 : gI M2 21 = nI kn := (a2.1 21 (by unfold mP; omega)).trans e21
  have i47 : gI M2 47 = nI kn := (a2.1 47 (by unfold mP; omega)).trans e47
  have w37 : PF M2 (sA M2 37 (3 + k) (nI kn)) := PF.wA (Or.inr (Or.inr (Or.inr ⟨by omega, by omega, Nat.le_add_right 3 k⟩)))
  have hP3 : PS t2 tp (sA M2 37 (3 + k) (nI kn)) N p2 := hP2.wA (by decide) (by decide)
  refine ok_bind (ok_mono (readInto_of (ph := ph) (f := sI (S (5 + k)) 4 1) hP3 f30 i21 i47 ek) (fun r13 hr13 => ?_))
  obtain ⟨s, es, hf, ft, hs⟩ := hr13
  have F0 : PF M1 s.2 := ((w36.tr a2.m.PF).tr w37).tr hf.PF
  have F1 : PF M1 (sA s.2 38 (3 + k) (gI s.2 21)) := F0.tr (PF.wA (Or.inr (Or.inr (Or.inr ⟨by omega, by omega, Nat.le_add_right 3 k⟩))))
  have ms : ∀ (u f : St), MS S (va_up (va_up S 0 u) (5 + k) f) := fun u f j h1 h2 => by rw [vu_n _ _ (by omega), vu_n _ _ (by omega)]
  refine ok_lt (ok_lt (ok_lt ?_))
  have post : ∀ (Q : Int32 × St → Prop) (j9 : Int32 → St → Option (Int32 × St)), (∀ u, j9 0 u = some (0, u)) → ok (j9 s.1 (sA s.2 38 (3 + k) (gI s.2 21))) Q → ok (lwM j9 M1) Q := by
    intro Q j9 hj hQ
    refine pre Q j9 (ok_t t0 (ok_f c6 (ok_lt (ok_bindx eM2 ?_))))
    rw [i21]
    exact ok_lt (ok_f c6 (ok_lt (ok_bindx es (ok_lt (ok_lt (ok_f c6 (ok_lt hQ)))))))
  rcases hs with ⟨r0, q1, i4, i5, f4, ⟨p3, c1, hP4⟩, n, n1, n64, g3, g21, g47, s3, hK, hl⟩ | ⟨cc, p3, d0, d1, d2, d3, d4, d5⟩
  rotate_left
  · rw [d1]
    refine ok_f d0 ?_
    rw [blame_0 h3]
    refine ok_lt (ok_some ⟨(s.1, sA s.2 38 (3 + k) (gI s.2 21)), ⟨F1, ms _ _, a1.tr ft, Or.inr ⟨d2, cc, d0, rfl, d3, ?_⟩⟩, post⟩)
    show gI r13.2.2.2 6 = gI s.2 5
    rw [d4, d5]
  refine ok_t r0 (ok_some ⟨(s.1, sA s.2 38 (3 + k) (gI s.2 21)), ⟨F1, ms _ _, a1.tr ft, Or.inl ⟨q1, h3, rfl, ?_, ?_, ⟨p3, by omega, hP4.wA (by decide) (by decide)⟩, ?_, ?_⟩⟩, post⟩)
  · exact i4.trans (a2.1 4 (by unfold mP; omega))
  · exact i5.trans (a2.1 5 (by unfold mP; omega))
  · rw [g3, nI_add, g21]
    show ∃ na ng nr ns kn', RD (va_up (va_up S 0 (sI (S 0) 9 (nI (kn + n)))) (5 + k) r13.2.2.1) (sA s.2 38 (3 + k) (nI (kn + n))) na ng nr ns kn'
    -- rows of the reference
    have eo : ∀ r i, r ≠ 36 → r ≠ 37 → r ≠ 38 → ¬ (r = 42 ∨ r = 43 ∨ (39 ≤ r ∧ r ≤ 41 ∧ 64 + kn ≤ i)) → gA (sA s.2 38 (3 + k) (nI (kn + n))) r i = gA M1 r i := fun r i y1 y2 y3 y4 => by
      rw [gA_row _ _ _ _ y3, hf.2.2 r i y4, gA_row _ _ _ _ y2, a2.A, gA_row _ _ _ _ y1]
    have eR : ∀ r, r < 36 → gA (sA s.2 38 (3 + k) (nI (kn + n))) r = gA M1 r := fun r hr => funext fun i => eo r i (by omega) (by omega) (by omega) (by omega)
    have e36 : ∀ i, gA (sA s.2 38 (3 + k) (nI (kn + n))) 36 i = if i = 3 + k then 1 else gA M1 36 i := fun i => by
      rw [gA_row _ _ _ _ (by decide), hf.2.2 36 i (by omega), gA_row _ _ _ _ (by decide), a2.A, gA_sA]
      by_cases q : i = 3 + k
      · rw [if_pos ⟨rfl, q⟩, if_pos q]; exact bz1
      · rw [if_neg (fun z => q z.2), if_neg q]
    have e37 : ∀ i, gA (sA s.2 38 (3 + k) (nI (kn + n))) 37 i = if i = 3 + k then nI kn else gA M1 37 i := fun i => by
      rw [gA_row _ _ _ _ (by decide), hf.2.2 37 i (by omega), gA_sA]
      by_cases q : i = 3 + k
      · rw [if_pos ⟨rfl, q⟩, if_pos q]
      · rw [if_neg (fun z => q z.2), if_neg q, a2.A, gA_row _ _ _ _ (by decide)]
    have e38 : ∀ i, gA (sA s.2 38 (3 + k) (nI (kn + n))) 38 i = if i = 3 + k then nI (kn + n) else gA M1 38 i := fun i => by
      rw [gA_sA]
      by_cases q : i = 3 + k
      · rw [if_pos ⟨rfl, q⟩, if_pos q]
      · rw [if_neg (fun z => q z.2), if_neg q, hf.2.2 38 i (by omega), gA_row _ _ _ _ (by decide), a2.A, gA_row _ _ _ _ (by decide)]
    have ek : ∀ r, 39 ≤ r → r ≤ 41 → ∀ i, i < kn → k64 (sA s.2 38 (3 + k) (nI (kn + n))) r i = k64 M1 r i := fun r h1 h2 i hi => eo r (64 + i) (by omega) (by omega) (by omega) (by omega)
    have ei : ∀ j, (17 ≤ j ∧ j ≤ 20) → gI (sA s.2 38 (3 + k) (nI (kn + n))) j = gI M1 j := fun j hj => by
      show gI s.2 j = _
      rw [hf.1 j (by unfold hI; omega)]
      exact a2.1 j (by unfold mP; omega)
    have other : ∀ j f, j < 3 → j ≠ k → LR2 f M1 j kn → LR2 f (sA s.2 38 (3 + k) (nI (kn + n))) j (kn + n) := fun j f h1 h2 h => h.fr (by omega) (by rw [e36, if_neg (by omega)]) (by rw [e37, if_neg (by omega)]) (by rw [e38, if_neg (by omega)]) ek
    have own : LR2 r13.2.2.1 (sA s.2 38 (3 + k) (nI (kn + n))) k (kn + n) := by
      refine ⟨by rw [e36, if_pos rfl, f4]; rfl, Or.inr ⟨by rw [e36, if_pos rfl], kn, n, n1, Nat.le_refl _, s3, by rw [e37, if_pos rfl], by rw [e38, if_pos rfl], ?_, ?_, ?_⟩⟩
      · exact LW_cong hK.1 (fun i hi => ⟨gA_row _ _ _ _ (by decide), gA_row _ _ _ _ (by decide), gA_row _ _ _ _ (by decide)⟩)
      · intro i hi
        have := hK.2 i hi
        unfold k64 at this ⊢
        rw [gA_row _ _ _ _ (by decide), gA_row _ _ _ _ (by decide)]
        exact this
      · have := hl
        unfold hh k64 at this
        unfold k64
        rw [gA_sAr _ _ _ (by decide)]
        exact this
    have S5 : ∀ (u f : St) (j : Nat), j < 3 → va_up (va_up S 0 u) (5 + k) f (5 + j) = if j = k then f else S (5 + j) := fun u f j hj => by
      by_cases q : j = k
      · subst q; rw [if_pos rfl, vu_s]
      · rw [if_neg q, vu_n _ _ (by omega), vu_n _ _ (by omega)]
    have lw3 : ∀ (u : St) (j : Nat), j < 3 → LR2 (S (5 + j)) M1 j kn → LR2 (va_up (va_up S 0 u) (5 + k) r13.2.2.1 (5 + j)) (sA s.2 38 (3 + k) (nI (kn + n))) j (kn + n) := fun u j hj h => by
      rw [S5 u r13.2.2.1 j hj]
      by_cases q : j = k
      · rw [if_pos q, q]; exact own
      · rw [if_neg q]; exact other j _ hj q h
    have Sn : ∀ (u f : St) (j : Nat), 1 ≤ j → j ≤ 4 → va_up (va_up S 0 u) (5 + k) f j = S j := fun u f j h1 h2 => by rw [vu_n _ _ (by omega), vu_n _ _ (by omega)]
    have S0 : ∀ (u f : St), va_up (va_up S 0 u) (5 + k) f 0 = u := fun u f => by rw [vu_n _ _ (by omega), vu_s]
    refine ⟨na, ng, nr, ns, kn + n, ⟨z1, ?_, ?_, ?_⟩, ?_, ?_, ?_, ?_, ?_, lw3 _ 0 (by omega) l0, lw3 _ 1 (by omega) l1, lw3 _ 2 (by omega) l2⟩
    · rw [Sn _ _ 1 (by omega) (by omega), Sn _ _ 2 (by omega) (by omega), Sn _ _ 3 (by omega) (by omega), Sn _ _ 4 (by omega) (by omega)]; exact z2
    · rw [Sn _ _ 1 (by omega) (by omega), Sn _ _ 2 (by omega) (by omega), Sn _ _ 3 (by omega) (by omega), Sn _ _ 4 (by omega) (by omega)]; exact z3
    · rw [ei 17 (by omega), ei 18 (by omega), ei 19 (by omega), ei 20 (by omega)]; exact z4
    · rw [Sn _ _ 1 (by omega) (by omega)]; unfold RDa at *; rw [eR 24 (by omega), eR 25 (by omega), eR 26 (by omega)]; exact Ra
    · rw [Sn _ _ 2 (by omega) (by omega)]; unfold RDg at *; rw [eR 27 (by omega), eR 28 (by omega), eR 29 (by omega)]; exact Rg
    · rw [Sn _ _ 3 (by omega) (by omega)]; unfold RDr at *; rw [eR 30 (by omega), eR 31 (by omega), eR 32 (by omega), eR 33 (by omega)]; exact Rr
    · rw [Sn _ _ 4 (by omega) (by omega)]; unfold RDs at *; rw [eR 34 (by omega), eR 35 (by omega)]; exact Rs
    · rw [S0]
      unfold RDm
      rw [eR 22 (by omega), eR 23 (by omega)]
      exact ⟨m1, m2, m3, m4, n64, rfl, g21, g47⟩
  · show gI (va_up (va_up S 0 (sI (S 0) 9 (nI kn + gI r13.2.1 3))) (5 + k) r13.2.2.1 0) 10 = _
    rw [vu_n _ _ (by omega), vu_s]; rfl
