/-! joints -/
def jC (ph f : St) (x2 : Int32) : Option (Int32 × St × St) := if x2 = (-1 : Int32) then (lt (sI ph 5 (1 : Int32)) fun u19 => some ((1 : Int32), u19, f)) else if x2 < 0 ∨ 16 ≤ x2.toNatClampNeg then none else lt (rkv x2.toNatClampNeg) fun x5 => lt (if x5 = (4 : Int32) then ((x5 + (1 : Int32))) else x5) fun x6 => (fX5_settle ph f x6).bind fun r7 => lt (lt (fX5_addKnot r7.1 (1 : Int32)) fun r10 => (fX5_hold r10 x2).bind fun r12 => some ((1 : Int32), r12, r7.2)) fun j9 => if x5 = (4 : Int32) then ((fX5_topRank r7.1).bind fun r15 => if r15 = (4 : Int32) then (lt (sI r7.1 5 (1 : Int32)) fun u17 => some ((1 : Int32), u17, r7.2)) else j9) else j9
theorem takeJoint_eq (ph f tk : St) : fX5_takeJoint ph f tk = lt (lt (fX5_jointOf tk) fun x2 => jC ph f x2) fun j1 => if (gI tk 4) = (6 : Int32) then (if (gI ph 2) ≤ 0 then (j1) else (fX5_settle ph f (1 : Int32)).bind fun r22 => lt ((gI r22.1 2) - (1 : Int32)) fun x24 => lt (sI r22.1 2 x24) fun u25 => lt ((gI u25 1) - (1 : Int32)) fun x26 => lt (sI u25 1 x26) fun u27 => some ((0 : Int32), u27, r22.2)) else j1 := rfl
def jM (M : St) (x2 : Int32) : Option (Int32 × St) := if x2 = 0 then (lt (fX12_wrong M (1 : Int32)) fun r28 => some ((bz r28.1), r28.2)) else lt (fun (x5 : Int32) => (fX12_bind M x5).bind fun r7 => lt (lt (fX12_isCounted r7) fun r10 => if r10.1 = 0 then (some ((0 : Int32), r10.2)) else (fX12_waitsFor r10.2 x2).bind fun r13 => lt (sI r13 48 (1 : Int32)) fun u15 => lt (if (3 : Int32) ≤ (fX12_standing x2) then ((0 : Int32)) else (1 : Int32)) fun x16 => lt (sI u15 49 x16) fun u17 => (fX12_token u17).bind fun r18 => some ((1 : Int32), r18)) fun j9 => if (fX12_standing x2) = (4 : Int32) then (if (gI r7 44) ≤ 0 then (j9) else if ((gI r7 44) - (1 : Int32)) < 0 ∨ 96 ≤ (((gI r7 44) - (1 : Int32))).toNatClampNeg then none else if (fX12_standing (gA r7 42 (((gI r7 44) - (1 : Int32))).toNatClampNeg)) = (4 : Int32) then (lt (fX12_wrong r7 (1 : Int32)) fun r25 => some ((bz r25.1), r25.2)) else j9) else j9) fun j6 => if (fX12_standing x2) = (4 : Int32) then (j6 (5 : Int32)) else j6 (fX12_standing x2)
def selM (M : St) (j3 : Int32 → Option (Int32 × St)) : Option (Int32 × St) := if (fX12_isKey M (10 : Int32)) = 0 then (if (fX12_isKey M (11 : Int32)) = 0 then (if (gI M 8) = (5 : Int32) then (j3 ((5 : Int32) + (gI M 9))) else if (fX12_isSign M (43 : Int32)) = 0 then (if (fX12_isSign M (45 : Int32)) = 0 then (if (fX12_isSign M (42 : Int32)) = 0 then (if (fX12_isSign M (47 : Int32)) = 0 then (j3 (0 : Int32)) else j3 (14 : Int32)) else j3 (13 : Int32)) else j3 (12 : Int32)) else j3 (11 : Int32)) else j3 (4 : Int32)) else j3 (3 : Int32)
theorem signs_eq (M : St) : fX12_signs M = lt (lt (jM M) fun j3 => selM M j3) fun j1 => if (fX12_isSign M (41 : Int32)) = 0 then (j1) else if (gI M 46) ≤ 0 then (j1) else (fX12_bind M (1 : Int32)).bind fun r39 => lt ((gI r39 44) - (1 : Int32)) fun x41 => lt (sI r39 44 x41) fun u42 => lt ((gI u42 46) - (1 : Int32)) fun x43 => lt (sI u42 46 x43) fun u44 => (fX12_token u44).bind fun r45 => some ((1 : Int32), r45) := rfl
/-- which joint stands there: 0 none -/
def jt (tk M : St) (t : Nat) : Prop := (t = 0 ∨ (3 ≤ t ∧ t ≤ 14)) ∧ fX5_jointOf tk = (if t = 0 then -1 else wt t) ∧ ∀ j3, selM M j3 = j3 (nI t)
theorem sel_5 {M : St} {j3 : Int32 → Option (Int32 × St)} {x : Int32} (h8 : gI M 8 = 5) (h9 : gI M 9 = x) : selM M j3 = j3 (5 + x) := by
  unfold selM
  rw [if_pos (key_0 (fun z => absurd (h8.symm.trans z.1) (by decide))), if_pos (key_0 (fun z => absurd (h8.symm.trans z.1) (by decide))), if_pos h8, h9]
theorem sel_4 {M : St} {j3 : Int32 → Option (Int32 × St)} {b : Nat} (h8 : gI M 8 = 4) (h9 : gI M 9 = nI b) (hb : b ≤ 255) : selM M j3 = j3 (nI (if b = 43 then 11 else if b = 45 then 12 else if b = 42 then 13 else if b = 47 then 14 else 0)) := by
  unfold selM
  have k : ∀ c : Int32, fX12_isKey M c = 0 := fun c => key_0 (fun z => absurd (h8.symm.trans z.1) (by decide))
  have s1 : ∀ c : Nat, c ≤ 255 → b = c → ¬ fX12_isSign M (nI c) = 0 := fun c _ e => sign_1 h8 (by rw [h9, e])
  have s0 : ∀ c : Nat, c ≤ 255 → b ≠ c → fX12_isSign M (nI c) = 0 := fun c hc e => sign_0 (fun z => nIn hb hc e (h9.symm.trans z.2))
  rw [if_pos (k 10), if_pos (k 11), if_neg (show ¬ gI M 8 = 5 by rw [h8]; decide)]
  by_cases a : b = 43
  · rw [if_neg (show ¬ fX12_isSign M (43 : Int32) = 0 from s1 43 (by omega) a), if_pos a]; rfl
  · rw [if_pos (show fX12_isSign M (43 : Int32) = 0 from s0 43 (by omega) a), if_neg a]
    by_cases a : b = 45
    · rw [if_neg (show ¬ fX12_isSign M (45 : Int32) = 0 from s1 45 (by omega) a), if_pos a]; rfl
    · rw [if_pos (show fX12_isSign M (45 : Int32) = 0 from s0 45 (by omega) a), if_neg a]
      by_cases a : b = 42
      · rw [if_neg (show ¬ fX12_isSign M (42 : Int32) = 0 from s1 42 (by omega) a), if_pos a]; rfl
      · rw [if_pos (show fX12_isSign M (42 : Int32) = 0 from s0 42 (by omega) a), if_neg a]
        by_cases a : b = 47
        · rw [if_neg (show ¬ fX12_isSign M (47 : Int32) = 0 from s1 47 (by omega) a), if_pos a]; rfl
        · rw [if_pos (show fX12_isSign M (47 : Int32) = 0 from s0 47 (by omega) a), if_neg a]; rfl
theorem sel_no {M : St} {j3 : Int32 → Option (Int32 × St)} (h4 : ¬ gI M 8 = 4) (h5 : ¬ gI M 8 = 5) (h10 : ¬ (gI M 8 = 1 ∧ gI M 9 = 10)) (h11 : ¬ (gI M 8 = 1 ∧ gI M 9 = 11)) : selM M j3 = j3 (nI 0) := by
  unfold selM
  have s0 : ∀ c : Int32, fX12_isSign M c = 0 := fun c => sign_0 (fun z => h4 z.1)
  rw [if_pos (key_0 h10), if_pos (key_0 h11), if_neg h5, if_pos (s0 43), if_pos (s0 45), if_pos (s0 42), if_pos (s0 47)]; rfl
theorem jOf_no {tk : St} (h4 : ¬ gI tk 4 = 4) (h2 : ¬ gI tk 4 = 2) : fX5_jointOf tk = -1 := by
  unfold fX5_jointOf
  rw [if_neg h4]
  simp only [lt_eq]
  rw [if_neg h2, if_neg h2]
theorem jt_of {tk M : St} (h : KD tk M) : ∃ t, jt tk M t := by
  rcases h with ⟨a, b⟩ | ⟨a, b, _⟩ | ⟨a, b, w, hw, e1, e2⟩ | ⟨a, b, _⟩ | ⟨a, j, j1, j2, e1, ⟨j3, b, e2⟩ | ⟨j3, b, e2⟩⟩ | ⟨a, b, e⟩ | ⟨a, b, e⟩ | ⟨a, b, e⟩ | ⟨a, b⟩
  · exact ⟨0, Or.inl rfl, jOf_no (by rw [a]; decide) (by rw [a]; decide), fun j3 => sel_no (by rw [b]; decide) (by rw [b]; decide) (fun z => absurd (b.symm.trans z.1) (by decide)) (fun z => absurd (b.symm.trans z.1) (by decide))⟩
  · exact ⟨0, Or.inl rfl, jOf_no (by rw [a]; decide) (by rw [a]; decide), fun j3 => sel_no (by rw [b]; decide) (by rw [b]; decide) (fun z => absurd (b.symm.trans z.1) (by decide)) (fun z => absurd (b.symm.trans z.1) (by decide))⟩
  · by_cases q10 : w = 10
    · subst q10
      refine ⟨3, Or.inr ⟨by omega, by omega⟩, ?_, fun j3 => ?_⟩
      · unfold fX5_jointOf
        rw [if_neg (by rw [a]; decide)]
        simp only [lt_eq]
        rw [if_pos a, if_pos a, e2]; rfl
      · unfold selM
        rw [if_neg (show ¬ fX12_isKey M (10 : Int32) = 0 from key_1 b e1)]; rfl
    · by_cases q11 : w = 11
      · subst q11
        refine ⟨4, Or.inr ⟨by omega, by omega⟩, ?_, fun j3 => ?_⟩
        · unfold fX5_jointOf
          rw [if_neg (by rw [a]; decide)]
          simp only [lt_eq]
          rw [if_pos a, if_pos a, e2]; rfl
        · unfold selM
          rw [if_pos (key_0 (fun z => absurd (e1.symm.trans z.2) (by decide))), if_neg (show ¬ fX12_isKey M (11 : Int32) = 0 from key_1 b e1)]; rfl
      · have es : sw w = w := by unfold sw; rw [if_neg q10, if_neg q11]
        refine ⟨0, Or.inl rfl, ?_, fun j3 => sel_no (by rw [b]; decide) (by rw [b]; decide) (fun z => q10 ?_) (fun z => q11 ?_)⟩
        · unfold fX5_jointOf
          rw [if_neg (by rw [a]; decide)]
          simp only [lt_eq]
          rw [if_pos a, if_pos a, e2, es]
          have n10 : ¬ nI w = (10 : Int32) := fun z => q10 ((nI_eq (a := w) (b := 10) (by omega) (by omega)).mp z)
          have n11 : ¬ nI w = (11 : Int32) := fun z => q11 ((nI_eq (a := w) (b := 11) (by omega) (by omega)).mp z)
          rw [if_neg n10, if_neg n11]; rfl
        · have z2 := z.2
          rw [e1] at z2
          exact (nI_eq (a := w) (b := 10) (by omega) (by omega)).mp z2
        · have z2 := z.2
          rw [e1] at z2
          exact (nI_eq (a := w) (b := 11) (by omega) (by omega)).mp z2
  · exact ⟨0, Or.inl rfl, jOf_no (by rw [a]; decide) (by rw [a]; decide), fun j3 => sel_no (by rw [b]; decide) (by rw [b]; decide) (fun z => absurd (b.symm.trans z.1) (by decide)) (fun z => absurd (b.symm.trans z.1) (by decide))⟩
  · refine ⟨j, Or.inr ⟨by omega, by omega⟩, ?_, fun j3 => ?_⟩
    · unfold fX5_jointOf
      rw [if_pos a, e1, if_neg (by omega)]
      unfold wt kc
      have m3 : ¬ nI j = (3 : Int32) := fun z => by have := (nI_eq (a := j) (b := 3) (by omega) (by omega)).mp z; omega
      have m4 : ¬ nI j = (4 : Int32) := fun z => by have := (nI_eq (a := j) (b := 4) (by omega) (by omega)).mp z; omega
      rw [if_neg (by omega), if_neg m3, if_neg m4]
    · rw [sel_5 b e2, show (5 : Int32) = nI 5 from rfl, nI_add]
      congr 2; omega
  · refine ⟨j, Or.inr ⟨by omega, by omega⟩, ?_, fun j3 => ?_⟩
    · unfold fX5_jointOf
      rw [if_pos a, e1, if_neg (by omega)]
      unfold wt kc
      have m3 : ¬ nI j = (3 : Int32) := fun z => by have := (nI_eq (a := j) (b := 3) (by omega) (by omega)).mp z; omega
      have m4 : ¬ nI j = (4 : Int32) := fun z => by have := (nI_eq (a := j) (b := 4) (by omega) (by omega)).mp z; omega
      rw [if_neg (by omega), if_neg m3, if_neg m4]
    · have hs : sgj j ≤ 255 := by unfold sgj; split <;> (try split) <;> (try split) <;> omega
      rw [sel_4 b e2 hs]
      rcases (show j = 11 ∨ j = 12 ∨ j = 13 ∨ j = 14 by omega) with rfl | rfl | rfl | rfl <;> rfl
  · refine ⟨0, Or.inl rfl, jOf_no (by rw [a]; decide) (by rw [a]; decide), fun j3 => ?_⟩
    rw [sel_4 b e (by omega)]; rfl
  · refine ⟨0, Or.inl rfl, jOf_no (by rw [a]; decide) (by rw [a]; decide), fun j3 => ?_⟩
    rw [sel_4 b e (by omega)]; rfl
  · refine ⟨0, Or.inl rfl, jOf_no (by rw [a]; decide) (by rw [a]; decide), fun j3 => ?_⟩
    rw [sel_4 b e (by omega)]; rfl
  · refine ⟨0, Or.inl rfl, jOf_no (by rw [a]; decide) (by rw [a]; decide), fun j3 => ?_⟩
    rcases b with b | ⟨b, e⟩
    · exact sel_no (by rw [b]; decide) (by rw [b]; decide) (fun z => absurd (b.symm.trans z.1) (by decide)) (fun z => absurd (b.symm.trans z.1) (by decide))
    · rw [sel_4 b e (by omega)]; rfl
theorem stepLt {α : Type} {f tk tp M : St} {N p fr : Nat} {r : Int32 × St × St} {v : α} {F : α → Option (Int32 × St)} (h : stepR f tk tp M N p fr r (F v)) : stepR f tk tp M N p fr r (lt v F) := h
theorem rk_3 {t : Nat} (h : 3 ≤ t) : rk t ≠ 3 := by unfold rk; split <;> (try split) <;> (try split) <;> (try split) <;> (try split) <;> (try split) <;> omega
/-- a joint is taken -/
theorem j_step {ph f tk tp M : St} {N p fr w op n c t : Nat} {wa : Nat → Nat} (hP : PS tk tp M N p) (hk : ¬ gI tk 4 = 0) (hp : PR ph f M fr w op n c wa 1) (t3 : 3 ≤ t) (t14 : t ≤ 14) : ok (jC ph f (wt t)) (fun r => stepR f tk tp M N p fr r (jM M (nI t))) := by
  obtain ⟨d1, d2⟩ := wt_d t t14 (by omega)
  have nm1 : ¬ wt t = -1 := fun z => d1 (Or.inl (by rw [z]; decide))
  have n0 : ¬ nI t = 0 := fun z => by have := (nI_eq (a := t) (b := 0) (by omega) (by omega)).mp z; omega
  have rl := rk_le t
  have rp := rk_pos (t := t) (by omega) (by omega)
  have rd := rk_d t t14
  have r4 : (nI (rk t) = (4 : Int32)) ↔ rk t = 4 := ⟨fun z => (nI_eq (a := rk t) (b := 4) (by omega) (by omega)).mp z, fun z => by rw [z]; rfl⟩
  unfold jC jM
  rw [d2, rd]
  refine ok_f nm1 (ok_f d1 (ok_lt ?_))
  -- down to which rank
  obtain ⟨l, l1, l6, el1, el2⟩ : ∃ l, 1 ≤ l ∧ l ≤ 6 ∧ (if nI (rk t) = (4 : Int32) then nI (rk t) + 1 else nI (rk t)) = nI l ∧ ∀ (F : Int32 → Option (Int32 × St)), (if nI (rk t) = (4 : Int32) then F 5 else F (nI (rk t))) = F (nI l) := by
    by_cases q : rk t = 4
    · refine ⟨5, by omega, by omega, ?_, fun F => if_pos (r4.mpr q)⟩
      rw [if_pos (r4.mpr q), q]; rfl
    · refine ⟨rk t, rp, rl, ?_, fun F => if_neg (fun z => q (r4.mp z))⟩
      rw [if_neg (fun z => q (r4.mp z))]
  rw [el1]
  refine ok_lt (ok_bind (ok_mono (settle_of l1 l6 hp) (fun r7 hr7 => ?_)))
  obtain ⟨M1, eM1, w', n', w1, hp1, wtop, f1, f4, bf⟩ := hr7
  have hp1' := hp1
  obtain ⟨hw, ⟨o1, o2, o3, o4⟩, ⟨s1, s2⟩, ⟨c1, c2, c3, c4, c5⟩, hsum, hK, hH, hl⟩ := hp1'
  have zl := cntz_le wa w'
  have m10 : gI M1 10 = nI p := (bf.1 10 (by unfold bI; omega)).trans hP.2.2.2.1
  have hf : HF fr M M1 := HF.B bf
  have ct := count_t c2 c3
  -- the rest of the step
  have rest : ok (lt (fX5_addKnot r7.1 (1 : Int32)) fun r10 => (fX5_hold r10 (wt t)).bind fun r12 => some ((1 : Int32), r12, r7.2)) (fun r => stepR f tk tp M N p fr r (lt (fX12_isCounted M1) fun r10 => if r10.1 = 0 then (some ((0 : Int32), r10.2)) else (fX12_waitsFor r10.2 (nI t)).bind fun r13 => lt (sI r13 48 (1 : Int32)) fun u15 => lt (if (3 : Int32) ≤ nI (rk t) then ((0 : Int32)) else (1 : Int32)) fun x16 => lt (sI u15 49 x16) fun u17 => (fX12_token u17).bind fun r18 => some ((1 : Int32), r18))) := by
    rw [ct]
    by_cases full : fr + c = 64
    · rw [addK_t c1 c4 c3, if_pos (Or.inl full), if_pos full]
      obtain ⟨u, eu, eu5⟩ := hold_s (ph := sI (sI r7.1 3 (nI (c + 1))) 5 2) (x := wt t) hw.1 (by omega)
      exact ok_lt (ok_bindx eu (ok_some (stepF (cc := 2) (by decide) eu5 m10 hf (ok_lt (ok_t rfl (ok_some rfl))))))
    · rw [addK_t c1 c4 c3, if_neg (fun z => z.elim full (by decide)), if_neg full]
      have eh := hold_c (ph := sI r7.1 3 (nI (c + 1))) (x := wt t) hw.1 (by omega)
      have ew := waits_c (M := sI M1 47 (nI (fr + c + 1))) (x := nI t) hw.2.1 (by omega)
      refine ok_lt (ok_bindx eh (ok_some ?_))
      refine stepS (M2 := sI (sI (sI (sA (sI M1 47 (nI (fr + c + 1))) 42 w' (nI t)) 44 (nI (w' + 1))) 48 1) 49 (if (3 : Int32) ≤ nI (rk t) then ((0 : Int32)) else (1 : Int32))) (w := w' + 1) (op := op) (n := n') (c := c + 1) (wa := wup wa w' t) (e := 0) c5 hP hk (fun k x y => ?_) ?_ ?_ ?_ f4 ?_ rfl (Or.inl ⟨rfl, rfl, ?_⟩) (fun M3 e3 => ?_)
      · rw [gI_sIn _ _ (by omega), gI_sIn _ _ (by omega), gI_sIn _ _ (by omega)]
        show gI (sI M1 47 (nI (fr + c + 1))) k = _
        rw [gI_sIn _ _ (by omega)]
        exact bf.1 k (by unfold bI; omega)
      · exact (gA_sAr _ _ _ (by decide)).trans (funext fun i => bf.2.2 0 i (by omega))
      · exact (gA_sAr _ _ _ (by decide)).trans (funext fun i => bf.2.2 3 i (by omega))
      · have f1 : HF fr M (sI M1 47 (nI (fr + c + 1))) := hf.tr (HF.wI (by unfold hI; omega))
        have f2 : HF fr M (sA (sI M1 47 (nI (fr + c + 1))) 42 w' (nI t)) := f1.tr HF.w42
        have f3 : HF fr M (sI (sA (sI M1 47 (nI (fr + c + 1))) 42 w' (nI t)) 44 (nI (w' + 1))) := f2.tr (HF.wI (by unfold hI; omega))
        have f4 : HF fr M (sI (sI (sA (sI M1 47 (nI (fr + c + 1))) 42 w' (nI t)) 44 (nI (w' + 1))) 48 1) := f3.tr (HF.wI (by unfold hI; omega))
        exact f4.tr (HF.wI (by unfold hI; omega))
      · refine ⟨hw.push (t := t) t14 (by omega) rfl rfl rfl rfl, ⟨o1, o2, o3, by rw [cntz_up, if_neg (by omega)]; exact o4⟩, ⟨s1, s2⟩, ⟨rfl, rfl, by omega, c4, c5⟩, by omega, hK, hH, by rw [cntb_up, if_pos t3]; exact hl⟩
      · show (if (3 : Int32) ≤ nI (rk t) then (0 : Int32) else 1) = mayN (w' + 1) (wup wa w' t)
        unfold mayN
        rw [Nat.add_sub_cancel, wup_s]
        by_cases q : 3 ≤ rk t
        · have q4 : ¬ rk t ≤ 3 := by
            intro z
            exact rk_3 t3 (by omega)
          rw [if_pos (show (3 : Int32) ≤ nI (rk t) from (nI_leI (a := 3) (b := rk t) (by omega) (by omega)).mpr q), if_neg (fun z => z.elim (by omega) q4)]
        · rw [if_neg (show ¬ (3 : Int32) ≤ nI (rk t) from fun z => q ((nI_leI (a := 3) (b := rk t) (by omega) (by omega)).mp z)), if_pos (Or.inr (by omega))]
      · exact ok_lt (ok_f i10 (ok_bindx ew (ok_lt (ok_lt (ok_lt (ok_bindx e3 (ok_some rfl)))))))
  -- the reference up to there
  have pre : ∀ {r : Int32 × St × St} {G : St → Option (Int32 × St)}, stepR f tk tp M N p fr r (G M1) → stepR f tk tp M N p fr r (if nI t = 0 then (lt (fX12_wrong M (1 : Int32)) fun r28 => some ((bz r28.1), r28.2)) else lt (fun (x5 : Int32) => (fX12_bind M x5).bind fun r7 => G r7) fun j6 => if nI (rk t) = (4 : Int32) then (j6 (5 : Int32)) else j6 (nI (rk t))) := by
    intro r G h
    have e : (if nI t = 0 then (lt (fX12_wrong M (1 : Int32)) fun r28 => some ((bz r28.1), r28.2)) else lt (fun (x5 : Int32) => (fX12_bind M x5).bind fun r7 => G r7) fun j6 => if nI (rk t) = (4 : Int32) then (j6 (5 : Int32)) else j6 (nI (rk t))) = G M1 := by
      rw [if_neg n0, lt_eq, el2 (fun x5 => (fX12_bind M x5).bind fun r7 => G r7)]
      exact bd_c eM1 rfl
    rw [e]; exact h
  refine ok_lt ?_
  by_cases q4 : rk t = 4
  · refine ok_t (r4.mpr q4) ?_
    -- a comparison may not be the left side of another
    cases w' with
    | zero =>
      have tr : fX5_topRank r7.1 = some 0 := by
        unfold fX5_topRank
        rw [hw.1]
        rw [if_pos (by decide)]
      refine ok_bindx tr (ok_f (by decide) (ok_mono rest (fun r hr => pre ?_)))
      refine stepLt ?_
      rw [if_pos (r4.mpr q4), hw.2.1, if_pos (show nI 0 ≤ 0 by decide)]
      exact hr
    | succ w' =>
      have tr := top_of hw (by omega)
      obtain ⟨x1, x2, x3, x4⟩ := hw.2.2 w' (by omega)
      have rl2 := rk_le (wa w')
      have p0 : ¬ nI (w' + 1) ≤ 0 := nI_nle (by omega) (by omega)
      have k96 : ¬ (nI w' < 0 ∨ 96 ≤ w') := kx (by omega) (by decide)
      have r42 : (nI (rk (wa w')) = (4 : Int32)) ↔ rk (wa w') = 4 := ⟨fun z => (nI_eq (a := rk (wa w')) (b := 4) (by omega) (by omega)).mp z, fun z => by rw [z]; rfl⟩
      refine ok_bindx tr ?_
      by_cases c4 : rk (wa w') = 4
      · refine ok_t (r42.mpr c4) (ok_lt (ok_some (pre ?_)))
        refine stepLt ?_
        rw [if_pos (r4.mpr q4), hw.2.1, if_neg p0, nI_sub1, cl (show w' < 2 ^ 31 by omega), if_neg k96, x1, rk_d _ x3, if_pos (r42.mpr c4)]
        refine stepF (cc := 1) (by decide) rfl m10 hf (ok_lt (ok_some ?_))
        show (bz 0, wrM M1 1) = _
        rw [bz0]
      · refine ok_f (fun z => c4 (r42.mp z)) (ok_mono rest (fun r hr => pre ?_))
        refine stepLt ?_
        rw [if_pos (r4.mpr q4), hw.2.1, if_neg p0, nI_sub1, cl (show w' < 2 ^ 31 by omega), if_neg k96, x1, rk_d _ x3, if_neg (fun z => c4 (r42.mp z))]
        exact hr
  · refine ok_f (fun z => q4 (r4.mp z)) (ok_mono rest (fun r hr => pre ?_))
    refine stepLt ?_
    rw [if_neg (fun z => q4 (r4.mp z))]
    exact hr
/-- behind a part: a joint, or a bracket's end -/
theorem joint_of {ph f tk tp M : St} {N p fr : Nat} (h : LSt ph f tk tp M N p fr 0) : ok (fX5_takeJoint ph f tk) (fun r => stepR f tk tp M N p fr r (fX12_signs M)) := by
  obtain ⟨hP, h48, w, op, n, c, wa, e, hp, he⟩ := h
  obtain rfl : e = 1 := by
    rcases he with ⟨_, x, _⟩ | ⟨x, _⟩
    · exact absurd x (by decide)
    · exact x
  have hp' := hp
  obtain ⟨hw, ⟨o1, o2, o3, o4⟩, ⟨s1, s2⟩, ⟨c1, c2, c3, c4, c5⟩, hsum, hK, hH, hl⟩ := hp'
  obtain ⟨t, t1, t2, t3⟩ := jt_of hP.2.2.2.2.2
  have kd := hP.2.2.2.2.2
  rw [takeJoint_eq, signs_eq]
  -- no bracket's end
  have j1 : ok (lt (fX5_jointOf tk) fun x2 => jC ph f x2) (fun r => stepR f tk tp M N p fr r (lt (jM M) fun j3 => selM M j3)) := by
    rw [lt_eq, lt_eq, t2, t3]
    rcases t1 with rfl | ⟨t31, t32⟩
    · rw [if_pos rfl]
      unfold jC jM
      refine ok_t rfl (ok_lt (ok_some (stepF (cc := 1) (by decide) rfl hP.2.2.2.1 HF.rf (ok_t rfl (ok_lt (ok_some ?_))))))
      show (bz 0, wrM M 1) = _
      rw [bz0]
    · rw [if_neg (by omega)]
      refine j_step hP (fun z => ?_) hp t31 t32
      -- the end of the text is no joint
      have := t2
      rw [jOf_no (by rw [z]; decide) (by rw [z]; decide), if_neg (by omega)] at this
      exact (wt_d t t32 (by omega)).1 (Or.inl (by rw [← this]; decide))
  refine ok_lt ?_
  by_cases cl6 : gI tk 4 = 6
  rotate_left
  · have ns : fX12_isSign M 41 = 0 := sign_0 (fun z => by
      rcases kd with ⟨a, b⟩ | ⟨a, b, _⟩ | ⟨a, b, _⟩ | ⟨a, b, _⟩ | ⟨a, j, _, j2, _, ⟨_, b, _⟩ | ⟨j11, b, e2⟩⟩ | ⟨a, b, e2⟩ | ⟨a, b, _⟩ | ⟨a, b, e2⟩ | ⟨a, b | ⟨b, e2⟩⟩
      · exact absurd (b.symm.trans z.1) (by decide)
      · exact absurd (b.symm.trans z.1) (by decide)
      · exact absurd (b.symm.trans z.1) (by decide)
      · exact absurd (b.symm.trans z.1) (by decide)
      · exact absurd (b.symm.trans z.1) (by decide)
      · have z2 := e2.symm.trans z.2
        rcases (show j = 11 ∨ j = 12 ∨ j = 13 ∨ j = 14 by omega) with rfl | rfl | rfl | rfl <;> exact absurd z2 (by decide)
      · exact absurd (e2.symm.trans z.2) (by decide)
      · exact absurd a cl6
      · exact absurd (e2.symm.trans z.2) (by decide)
      · exact absurd (b.symm.trans z.1) (by decide)
      · exact absurd (e2.symm.trans z.2) (by decide))
    refine ok_f cl6 (ok_mono j1 (fun r hr => ?_))
    rw [lt_eq (lt (jM M) fun j3 => selM M j3), if_pos ns]
    exact hr
  obtain ⟨b8, b9⟩ : gI M 8 = 4 ∧ gI M 9 = nI 41 := by
    rcases kd with ⟨a, b⟩ | ⟨a, b, _⟩ | ⟨a, b, _⟩ | ⟨a, b, _⟩ | ⟨a, _⟩ | ⟨a, b, _⟩ | ⟨a, b, e⟩ | ⟨a, b, _⟩ | ⟨a, _⟩
    · exact absurd (a.symm.trans cl6) (by decide)
    · exact absurd (a.symm.trans cl6) (by decide)
    · exact absurd (a.symm.trans cl6) (by decide)
    · exact absurd (a.symm.trans cl6) (by decide)
    · exact absurd (a.symm.trans cl6) (by decide)
    · exact absurd (a.symm.trans cl6) (by decide)
    · exact ⟨b, e⟩
    · exact absurd (a.symm.trans cl6) (by decide)
    · exact absurd (a.symm.trans cl6) (by decide)
  have sg : ¬ fX12_isSign M 41 = 0 := sign_1 b8 b9
  rw [o1]
  by_cases op0 : op = 0
  · have z0 : nI op ≤ 0 := by rw [op0]; decide
    refine ok_t cl6 (ok_t z0 (ok_mono j1 (fun r hr => ?_)))
    rw [lt_eq (lt (jM M) fun j3 => selM M j3), if_neg sg, o2, if_pos z0]
    exact hr
  · have z0 : ¬ nI op ≤ 0 := nI_nle (by omega) (by omega)
    refine ok_t cl6 (ok_f z0 (ok_bind (ok_mono (settle_of (least := 1) (by omega) (by omega) hp) (fun r7 hr7 => ?_))))
    obtain ⟨M1, eM1, w', n', w1, hp1, wtop, f1, f4, bf⟩ := hr7
    obtain ⟨hw1, ⟨p1, p2, p3, p4⟩, ⟨q1, q2⟩, ⟨d1, d2, d3, d4, d5⟩, hsum1, hK1, hH1, hl1⟩ := hp1
    cases w' with
    | zero => exact absurd p4 (by show ¬ op = 0; exact op0)
    | succ w' =>
      obtain ⟨x1, x2, x3, x4⟩ := hw1.2.2 w' (by omega)
      have tz : wa w' = 0 := by
        rcases wtop with z | z
        · omega
        · rw [Nat.add_sub_cancel] at z
          by_cases y : wa w' = 0
          · exact y
          · have := rk_pos y x4; omega
      have cz : cntz wa (w' + 1) = cntz wa w' + 1 := by rw [cntz, if_pos tz]
      have cb : cntb wa (w' + 1) = cntb wa w' := by rw [cntb, if_neg (by omega)]; omega
      obtain ⟨op, rfl⟩ : ∃ k, op = k + 1 := ⟨op - 1, by omega⟩
      rw [p1, nI_sub1]
      refine ok_lt (ok_lt ?_)
      have g1 : gI (sI r7.1 2 (nI op)) 1 = nI (w' + 1) := hw1.1
      rw [g1, nI_sub1]
      refine ok_lt (ok_lt (ok_some ?_))
      rw [lt_eq (lt (jM M) fun j3 => selM M j3), if_neg sg, o2, if_neg z0]
      refine stepS (M2 := sI (sI M1 44 (nI w')) 46 (nI op)) (w := w') (op := op) (n := n') (c := c) (wa := wa) (e := 1) d5 hP (by rw [cl6]; decide) (fun k x y => ?_) (funext fun i => bf.2.2 0 i (by omega)) (funext fun i => bf.2.2 3 i (by omega)) ?_ f4 ?_ ?_ (Or.inr ⟨rfl, rfl⟩) (fun M3 e3 => ?_)
      · rw [gI_sIn _ _ (by omega), gI_sIn _ _ (by omega)]
        exact bf.1 k (by unfold bI; omega)
      · have f2 : HF fr M (sI M1 44 (nI w')) := (HF.B bf).tr (HF.wI (by unfold hI; omega))
        exact f2.tr (HF.wI (by unfold hI; omega))
      · exact ⟨⟨rfl, rfl, fun j hj => hw1.2.2 j (by omega)⟩, ⟨rfl, rfl, by omega, by omega⟩, ⟨q1, q2⟩, ⟨d1, d2, d3, d4, d5⟩, by omega, hK1, hH1, by rw [← cb]; exact hl1⟩
      · show gI M1 48 = 0
        rw [bf.1 48 (by unfold bI; omega)]; exact h48
      · refine ok_bindx eM1 ?_
        rw [hw1.2.1, nI_sub1]
        refine ok_lt (ok_lt ?_)
        rw [show gI (sI M1 44 (nI w')) 46 = nI (op + 1) from p2, nI_sub1]
        exact ok_lt (ok_lt (ok_bindx e3 (ok_some rfl)))
