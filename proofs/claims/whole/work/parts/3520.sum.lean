/-! a whole sum -/
def smR (f tk tp M : St) (N p fr : Nat) (y : (St × St × St) ⊕ (Int32 × St × St × St)) (y' : St ⊕ (Int32 × St)) : Prop := (∃ ph' f' tk' M' p', y = .inl (ph', f', tk') ∧ y' = .inl M' ∧ HF fr M M' ∧ fI tP tk tk' ∧ gI M' 4 = gI M 4 ∧ gI M' 5 = gI M 5 ∧ gI f' 4 = gI f 4 ∧ p ≤ p' ∧ LSt ph' f' tk' tp M' N p' fr 0 ∧ gI ph' 2 = 0) ∨ (∃ cc ph' f' tk' M' p', ¬ cc = 0 ∧ y = .inr (cc, ph', f', tk') ∧ y' = .inr (0, M') ∧ HF fr M M' ∧ fI tP tk tk' ∧ gI M' 4 = cc ∧ gI M' 5 = nI p' ∧ gI tk' 6 = nI p')
theorem stop_iff {tk M : St} (h : KD tk M) : gI tk 4 = 7 ↔ ¬ fX12_isSign M 59 = 0 := by
  constructor
  · intro z
    rcases h with ⟨a, b⟩ | ⟨a, b, _⟩ | ⟨a, b, _⟩ | ⟨a, b, _⟩ | ⟨a, _⟩ | ⟨a, b, _⟩ | ⟨a, b, _⟩ | ⟨a, b, e⟩ | ⟨a, _⟩
    · exact absurd (a.symm.trans z) (by decide)
    · exact absurd (a.symm.trans z) (by decide)
    · exact absurd (a.symm.trans z) (by decide)
    · exact absurd (a.symm.trans z) (by decide)
    · exact absurd (a.symm.trans z) (by decide)
    · exact absurd (a.symm.trans z) (by decide)
    · exact absurd (a.symm.trans z) (by decide)
    · exact sign_1 b e
    · exact absurd (a.symm.trans z) (by decide)
  · intro y
    have z : gI M 8 = 4 ∧ gI M 9 = nI 59 := by
      by_cases q : gI M 8 = 4 ∧ gI M 9 = nI 59
      · exact q
      · exact absurd (sign_0 q) y
    rcases h with ⟨a, b⟩ | ⟨a, b, _⟩ | ⟨a, b, _⟩ | ⟨a, b, _⟩ | ⟨a, j, _, j2, _, ⟨_, b, _⟩ | ⟨j11, b, e2⟩⟩ | ⟨a, b, e2⟩ | ⟨a, b, e2⟩ | ⟨a, b, e2⟩ | ⟨a, b | ⟨b, e2⟩⟩
    · exact absurd (b.symm.trans z.1) (by decide)
    · exact absurd (b.symm.trans z.1) (by decide)
    · exact absurd (b.symm.trans z.1) (by decide)
    · exact absurd (b.symm.trans z.1) (by decide)
    · exact absurd (b.symm.trans z.1) (by decide)
    · have z2 := e2.symm.trans z.2
      rcases (show j = 11 ∨ j = 12 ∨ j = 13 ∨ j = 14 by omega) with rfl | rfl | rfl | rfl <;> exact absurd z2 (by decide)
    · exact absurd (e2.symm.trans z.2) (by decide)
    · exact absurd (e2.symm.trans z.2) (by decide)
    · exact a
    · exact absurd (b.symm.trans z.1) (by decide)
    · exact absurd (e2.symm.trans z.2) (by decide)
theorem sumR_L {tp : St} {N fr : Nat} (hN : N ≤ 700) : ∀ (nf nf2 i p : Nat) (x : Int32) (ph f tk M : St), N - p < nf → N - p < nf2 → i ≤ p → LSt ph f tk tp M N p fr x → ok (fX5_readInto_L1 tp 700 nf x (nI i) ph f tk) (fun y => ok (fX12_sumRead_L1 nf2 M) (fun y' => smR f tk tp M N p fr y y'))
  | 0, _, _, _, _, _, _, _, _, h, _, _, _ => absurd h (by omega)
  | nf + 1, 0, _, _, _, _, _, _, _, _, h, _, _ => absurd h (by omega)
  | nf + 1, nf2 + 1, i, p, x, ph, f, tk, M, g1, g2, hi, h => by
    have h' := h
    obtain ⟨hP, h48, w, op, n, c, wa, e, hp, he⟩ := h'
    have o1 := hp.2.1.1
    have o2 := hp.2.1.2.1
    have o3 := hp.2.1.2.2.1
    have pN : p ≤ N := hP.2.1
    have kd := hP.2.2.2.2.2
    have st := stop_iff kd
    rw [fX5_readInto_L1, fX12_sumRead_L1, hP.1.2.1, h48, o1, o2]
    refine ok_f (show ¬ nI N < nI i by rw [nI_ltI (by omega) (by omega)]; omega) (ok_lt ?_)
    have x01 : x = 1 ∨ x = 0 := by rcases he with ⟨_, z, _⟩ | ⟨_, z⟩; exact Or.inl z; exact Or.inr z
    -- one step, and what follows
    have go : ∀ {R : Option (Int32 × St)} {r : Int32 × St × St}, stepR f tk tp M N p fr r R → ok (if (gI r.2.1 5) = 0 then ((fX10_next 700 tk tp).bind fun r20 => lt (nI i + 1) fun x22 => fX5_readInto_L1 tp 700 nf r.1 x22 r.2.1 r.2.2 r20) else some (.inr ((gI r.2.1 5), r.2.1, r.2.2, tk))) (fun y => ok (R.bind fun r9 => if r9.1 = 0 then (some (.inr ((0 : Int32), r9.2))) else fX12_sumRead_L1 nf2 (r9.2)) (fun y' => smR f tk tp M N p fr y y')) := by
      intro R r hs
      rcases hs with ⟨a, b⟩ | ⟨cc, a1, a2, a3⟩
      · refine ok_t a (ok_bind (ok_mono b (fun tk' ht => ok_lt ?_)))
        obtain ⟨r', er', c1, c2, c3, c4, c5, c6, p', c7, c8⟩ := ht
        rw [nI_1]
        have p'N : p' ≤ N := c8.1.2.1
        refine ok_mono (sumR_L hN nf nf2 (i + 1) p' r.1 r.2.1 r.2.2 tk' r'.2 (by omega) (by omega) (by omega) c8) (fun y hy => ok_bindx er' (ok_f (by rw [c1]; exact i10) (ok_mono hy (fun y' hy' => ?_))))
        rcases hy' with ⟨ph', f', t', M', p2, d1, d2, d3, d4, d5, d6, d7, d8, d9⟩ | ⟨cc, ph', f', t', M', p2, d0, d1, d2, d3, d4, d5, d6, d7⟩
        · exact Or.inl ⟨ph', f', t', M', p2, d1, d2, c3.tr d3, c2.tr d4, d5.trans c4, d6.trans c5, d7.trans c6, by omega, d9⟩
        · exact Or.inr ⟨cc, ph', f', t', M', p2, d0, d1, d2, c3.tr d3, c2.tr d4, d5, d6, d7⟩
      · refine ok_f (by rw [a2]; exact a1) (ok_some ?_)
        obtain ⟨r', er', b1, b2, b3, b4⟩ := a3
        exact ok_bindx er' (ok_t b1 (ok_some (Or.inr ⟨cc, _, _, _, _, p, a1, by rw [a2], rfl, b2, fI.rf, b3, b4, hP.2.2.1⟩)))
    have j14 : ok (lt (fun (x15 : Int32) (u16 : St) (u17 : St) => if (gI u16 5) = 0 then ((fX10_next 700 tk tp).bind fun r20 => lt (nI i + 1) fun x22 => fX5_readInto_L1 tp 700 nf x15 x22 u16 u17 r20) else some (.inr ((gI u16 5), u16, u17, tk))) fun j18 => if x = 0 then ((fX5_takeJoint ph f tk).bind fun r24 => j18 (r24.1) (r24.2.1) (r24.2.2)) else (fX5_takePart ph f tk).bind fun r26 => j18 (r26.1) (r26.2.1) (r26.2.2)) (fun y => ok (if x = 0 then ((fX12_signs M).bind fun r9 => if r9.1 = 0 then (some (.inr ((0 : Int32), r9.2))) else fX12_sumRead_L1 nf2 (r9.2)) else (fX12_leafRead M).bind fun r12 => if r12.1 = 0 then (some (.inr ((0 : Int32), r12.2))) else fX12_sumRead_L1 nf2 (r12.2)) (fun y' => smR f tk tp M N p fr y y')) := by
      refine ok_lt ?_
      rcases x01 with rfl | rfl
      · exact ok_f i10 (ok_bind (ok_mono (part_of h) (fun r hr => ok_mono (go hr) (fun y hy => ok_f i10 hy))))
      · exact ok_t rfl (ok_bind (ok_mono (joint_of h) (fun r hr => ok_mono (go hr) (fun y hy => ok_t rfl hy))))
    by_cases x0 : x = 0
    · by_cases op0 : op = 0
      · have z1 : nI op = 0 := by rw [op0]; rfl
        have z2 : nI op ≤ 0 := by rw [op0]; decide
        by_cases k7 : gI tk 4 = 7
        · refine ok_t x0 (ok_t z1 (ok_t k7 (ok_some (ok_lt (ok_f (st.mp k7) (ok_t x0 (ok_t z2 (ok_some ?_))))))))
          exact Or.inl ⟨ph, f, tk, M, p, rfl, rfl, HF.rf, fI.rf, rfl, rfl, rfl, Nat.le_refl _, by rw [← x0]; exact h, o1.trans z1⟩
        · have ns : fX12_isSign M 59 = 0 := by
            by_cases q : fX12_isSign M 59 = 0
            · exact q
            · exact absurd (st.mpr q) k7
          exact ok_t x0 (ok_t z1 (ok_f k7 (ok_mono j14 (fun y hy => ok_lt (ok_t ns hy)))))
      · have z1 : ¬ nI op = 0 := fun z => op0 ((nI_eq (a := op) (b := 0) (by omega) (by omega)).mp z)
        have z2 : ¬ nI op ≤ 0 := nI_nle (by omega) (by omega)
        exact ok_t x0 (ok_f z1 (ok_mono j14 (fun y hy => ok_lt (ok_if (fun _ => hy) (fun _ => ok_t x0 (ok_f z2 hy))))))
    · exact ok_f x0 (ok_mono j14 (fun y hy => ok_lt (ok_if (fun _ => hy) (fun _ => ok_f x0 hy))))
/-- a sum is read -/
def riR (f tk tp M : St) (N p kn : Nat) (r : Int32 × St × St × St) (r' : Int32 × St) : Prop := HF kn M r'.2 ∧ fI tP tk r.2.2.2 ∧ ((r.1 = 0 ∧ r'.1 = 1 ∧ gI r'.2 4 = gI M 4 ∧ gI r'.2 5 = gI M 5 ∧ gI r.2.2.1 4 = gI f 4 ∧ (∃ p', p ≤ p' ∧ PS r.2.2.2 tp r'.2 N p') ∧ ∃ n, 1 ≤ n ∧ kn + n ≤ 64 ∧ gI r.2.1 3 = nI n ∧ gI r'.2 21 = nI (kn + n) ∧ gI r'.2 47 = nI (kn + n) ∧ gI r.2.2.1 3 = nI n ∧ KN r.2.2.1 r'.2 kn n ∧ (hh r'.2 kn n).length = 1) ∨ (∃ cc p', ¬ cc = 0 ∧ r.1 = cc ∧ r'.1 = 0 ∧ gI r'.2 4 = cc ∧ gI r'.2 5 = nI p' ∧ gI r.2.2.2 6 = nI p'))
theorem readInto_of {ph f tk tp M : St} {N p kn : Nat} (hP : PS tk tp M N p) (hf : gI f 3 = 0) (h21 : gI M 21 = nI kn) (h47 : gI M 47 = nI kn) (hk : kn ≤ 64) : ok (fX5_readInto 700 ph f tk tp (64 - nI kn)) (fun r => ok (fX12_sumRead M) (fun r' => riR f tk tp M N p kn r r')) := by
  have hN := hP.1.1
  have pN : p ≤ N := hP.2.1
  unfold fX5_readInto fX12_sumRead
  have room : (64 : Int32) - nI kn = nI (64 - kn) := by rw [show (64 : Int32) = nI 64 from rfl, nI_sub hk]
  rw [room]
  refine ok_lt (ok_lt (ok_lt (ok_lt (ok_lt ?_))))
  have hP0 : PS tk tp (sI (sI (sI (sI (sI M 44 0) 45 0) 46 0) 48 1) 49 1) N p := ((((hP.wI (by omega)).wI (by omega)).wI (by omega)).wI (by omega)).wI (by omega)
  have f0 : HF kn M (sI (sI (sI (sI (sI M 44 0) 45 0) 46 0) 48 1) 49 1) := by
    have a1 : HF kn M (sI M 44 0) := HF.wI (by unfold hI; omega)
    have a2 : HF kn M (sI (sI M 44 0) 45 0) := a1.tr (HF.wI (by unfold hI; omega))
    have a3 : HF kn M (sI (sI (sI M 44 0) 45 0) 46 0) := a2.tr (HF.wI (by unfold hI; omega))
    have a4 : HF kn M (sI (sI (sI (sI M 44 0) 45 0) 46 0) 48 1) := a3.tr (HF.wI (by unfold hI; omega))
    exact a4.tr (HF.wI (by unfold hI; omega))
  have L0 : LSt (sI (sI (sI (sI (sI ph 1 0) 2 0) 3 0) 4 (nI (64 - kn))) 5 0) f tk tp (sI (sI (sI (sI (sI M 44 0) 45 0) 46 0) 48 1) 49 1) N p kn 1 := by
    refine ⟨hP0, rfl, 0, 0, 0, 0, fun _ => 0, 0, ⟨⟨rfl, rfl, fun j hj => absurd hj (by omega)⟩, ⟨rfl, rfl, by omega, rfl⟩, ⟨hf, h21⟩, ⟨rfl, h47, by omega, rfl, rfl⟩, rfl, ⟨fun i hi => absurd hi (by omega), fun i hi => absurd hi (by omega)⟩, ⟨rfl, fun j x hx => by cases hx⟩, rfl⟩, Or.inl ⟨rfl, rfl, ?_⟩⟩
    unfold mayN
    rw [if_pos (Or.inl rfl)]; rfl
  refine ok_bind (ok_mono (sumR_L hN fuel fuel 0 p 1 _ f tk _ (by rw [fuel_eq]; omega) (by rw [fuel_eq]; omega) (by omega) L0) (fun y hy => ?_))
  obtain ⟨y', ey', hy'⟩ := hy
  rcases hy' with ⟨ph', f', t', M', p2, rfl, rfl, d3, d4, d5, d6, d7, d8, d9, d10⟩ | ⟨cc, ph', f', t', M', p2, d0, rfl, rfl, d3, d4, d5, d6, d7⟩
  · obtain ⟨hP2, _, w, op, n, c, wa, e, hp, he⟩ := d9
    obtain rfl : e = 1 := by
      rcases he with ⟨_, z, _⟩ | ⟨z, _⟩
      · exact absurd z (by decide)
      · exact z
    have op0 : op = 0 := (nI_eq (a := op) (b := 0) (by have := hp.2.1.2.2.1; omega) (by omega)).mp (hp.2.1.1.symm.trans d10)
    refine ok_bind (ok_mono (settle_of (least := 1) (by omega) (by omega) hp) (fun r hr => ok_some ?_))
    obtain ⟨M3, eM3, w', n', w1, hp3, wtop, b1, b2, b3⟩ := hr
    obtain ⟨hw, ⟨o1, o2, o3, o4⟩, ⟨s1, s2⟩, ⟨c1, c2, c3, c4, c5⟩, hsum, hK, hH, hl⟩ := hp3
    have w0 : w' = 0 := by
      rcases wtop with z | z
      · exact z
      · cases w' with
        | zero => rfl
        | succ w' =>
          obtain ⟨x1, x2, x3, x4⟩ := hw.2.2 w' (by omega)
          rw [Nat.add_sub_cancel] at z
          have tz : wa w' = 0 := by
            by_cases y : wa w' = 0
            · exact y
            · have := rk_pos y x4; omega
          rw [cntz, if_pos tz] at o4
          omega
    subst w0
    have nc : n' = c := by omega
    have l1 : (hh M3 kn n').length = 1 := hl
    have n1 : 1 ≤ n' := by
      have := hst_len (fun j => k64 M3 39 (kn + j)) n'
      unfold hh at l1
      omega
    refine ok_lt (ok_lt (ok_lt (ok_lt (ok_lt (ok_bindx ey' (ok_bindx eM3 (ok_some ?_)))))))
    have i4 : gI M3 4 = gI M' 4 := b3.1 4 (by unfold bI; omega)
    have i5 : gI M3 5 = gI M' 5 := b3.1 5 (by unfold bI; omega)
    refine ⟨(f0.tr d3).tr (HF.B b3), d4, Or.inl ⟨rfl, rfl, i4.trans d5, i5.trans d6, b2.trans d7, ⟨p2, d8, ?_⟩, n', n1, by omega, by rw [nc]; exact c1, s2, by rw [nc]; exact c2, s1, hK, l1⟩⟩
    exact hP2.M (fun k x y => b3.1 k (by unfold bI; omega)) (funext fun i => b3.2.2 0 i (by omega)) (funext fun i => b3.2.2 3 i (by omega))
  · exact ok_some (ok_lt (ok_lt (ok_lt (ok_lt (ok_lt (ok_bindx ey' (ok_some ⟨f0.tr d3, d4, Or.inr ⟨cc, p2, d0, rfl, rfl, d5, d6, d7⟩⟩)))))))
