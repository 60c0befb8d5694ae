/-! minutes that go by -/
def mTick (b : Int32) (M : St) : Option St := if b < 0 ∨ 2 ≤ b.toNatClampNeg then none else if b < 0 ∨ 2 ≤ b.toNatClampNeg then none else some (sA M 59 b.toNatClampNeg (gA M 59 b.toNatClampNeg + 1))
def mOff (b : Int32) (M : St) (x : Int32) : Option St := if b < 0 ∨ 2 ≤ b.toNatClampNeg then none else mTick b (sA M 53 b.toNatClampNeg x)
def mEnd (b : Int32) (M : St) : Option St := if gA M 53 b.toNatClampNeg < 0 then mTick b M else if b < 0 ∨ 2 ≤ b.toNatClampNeg then none else if b < 0 ∨ 2 ≤ b.toNatClampNeg then none else if b < 0 ∨ 2 ≤ b.toNatClampNeg then none else if gA (sA M 54 b.toNatClampNeg (gA M 54 b.toNatClampNeg - 1)) 54 b.toNatClampNeg = 0 then mOff b (sA M 54 b.toNatClampNeg (gA M 54 b.toNatClampNeg - 1)) (-1) else if b < 0 ∨ 2 ≤ b.toNatClampNeg then none else mOff b (sA M 54 b.toNatClampNeg (gA M 54 b.toNatClampNeg - 1)) (gA (sA M 54 b.toNatClampNeg (gA M 54 b.toNatClampNeg - 1)) 53 b.toNatClampNeg)
def mRest (b : Int32) (s : Int32) (M : St) : Option St := (fX12_layMill M b s).bind fun r10 => if b < 0 ∨ 2 ≤ b.toNatClampNeg then none else (fX12_boundLaw r10 1 ((gA r10 55 b.toNatClampNeg + s) / 2) (-99) 99).bind fun r13 => if b < 0 ∨ 2 ≤ b.toNatClampNeg then none else (fX12_grinds (sA r13.2 55 b.toNatClampNeg (fX12_bounded_ r13.1 (-99) 99)) b s).bind fun r18 => if b < 0 ∨ 2 ≤ b.toNatClampNeg then none else mEnd b r18
theorem mg_t (M : St) (b : Int32) : fX12_minuteGoes M b = (fX12_shown M b).bind fun r1 => (fX12_claps r1 b).bind fun r3 => if b < 0 ∨ 2 ≤ b.toNatClampNeg then none else if gA r3.2 53 b.toNatClampNeg < 0 then mRest b r3.1 r3.2 else (fX12_isCoughed r3.2).bind fun r40 => if r40.1 = 0 then mRest b r3.1 r40.2 else if b < 0 ∨ 2 ≤ b.toNatClampNeg then none else if b < 0 ∨ 2 ≤ b.toNatClampNeg then none else mRest b 0 (sA r40.2 58 b.toNatClampNeg (gA r40.2 58 b.toNatClampNeg + 1)) := rfl
def cT (nm : St) (T : Nat → St) (u : St) : Option (St × (Nat → St) × St) := some (nm, T, sI u 0 (gI u 0 + 1))
def cB (ml : St) (s : Int32) (nm : St) (T : Nat → St) (u : St) : Option (St × (Nat → St) × St) := (fX2_turnStones 7 ml nm T u s).bind fun r14 => (fX2_grind 7 ml r14.1 r14.2.1 r14.2.2 s).bind fun r16 => if 0 < gI (sI r16.2.2 3 (gI r16.2.2 3 - 1)) 3 then cT r16.1 r16.2.1 (sI r16.2.2 3 (gI r16.2.2 3 - 1)) else cT r16.1 r16.2.1 (fX1_putOff (sI r16.2.2 3 (gI r16.2.2 3 - 1)))
def cA (ml : St) (nm : St) (T : Nat → St) (u : St) : Option (St × (Nat → St) × St) := (fX2_applause 7 ml nm T u).bind fun r8 => if gI r8.2.2.2 2 = (-1 : Int32) then cB ml r8.1 r8.2.1 r8.2.2.1 r8.2.2.2 else if (fX2_isCoughed ml r8.2.2.1 r8.2.2.2).1 = 0 then cB ml r8.1 r8.2.1 r8.2.2.1 (fX2_isCoughed ml r8.2.2.1 r8.2.2.2).2 else cB ml 0 r8.2.1 r8.2.2.1 (sI (fX2_isCoughed ml r8.2.2.1 r8.2.2.2).2 5 (gI (fX2_isCoughed ml r8.2.2.1 r8.2.2.2).2 5 + 1))
/-- a minute of the class -/
def cMin (ml : St) (nm : St) (T : Nat → St) (u : St) : Option (St × (Nat → St) × St) := if gI ml 3 = 0 then cA ml nm T u else (fX2_raiseShows ml T u).bind fun v => cA ml nm T v
theorem ite_bd {α β : Type} {c : Prop} [Decidable c] (a b : Option α) (f : α → Option β) : (if c then a else b).bind f = if c then a.bind f else b.bind f := by
  by_cases h : c
  · rw [if_pos h, if_pos h]
  · rw [if_neg h, if_neg h]
theorem bd_as {α β γ : Type} (x : Option α) (f : α → Option β) (g : β → Option γ) : (x.bind f).bind g = x.bind fun a => (f a).bind g := by cases x <;> rfl
theorem bd_cg {α β : Type} {x : Option α} {f g : α → Option β} (h : ∀ a, f a = g a) : x.bind f = x.bind g := by rw [show f = g from funext h]
theorem it_cg {α : Type} {c : Prop} [Decidable c] {a b a' b' : α} (h1 : a = a') (h2 : b = b') : (if c then a else b) = if c then a' else b' := by rw [h1, h2]
theorem ps_t {ml : St} {n i : Int32} {nf : Nat} {nm u : St} {T : Nat → St} : fX2_pass_L1 ml 7 n (nf + 1) i nm T u = if n ≤ i then some (nm, T, u) else (cMin ml nm T u).bind fun r => fX2_pass_L1 ml 7 n nf (i + 1) r.1 r.2.1 r.2.2 := by
  have hB : ∀ s nm T u, ((cB ml s nm T u).bind fun r => fX2_pass_L1 ml 7 n nf (i + 1) r.1 r.2.1 r.2.2) = (fX2_turnStones 7 ml nm T u s).bind fun r14 => (fX2_grind 7 ml r14.1 r14.2.1 r14.2.2 s).bind fun r16 => if 0 < gI (sI r16.2.2 3 (gI r16.2.2 3 - 1)) 3 then fX2_pass_L1 ml 7 n nf (i + 1) r16.1 r16.2.1 (sI (sI r16.2.2 3 (gI r16.2.2 3 - 1)) 0 (gI (sI r16.2.2 3 (gI r16.2.2 3 - 1)) 0 + 1)) else fX2_pass_L1 ml 7 n nf (i + 1) r16.1 r16.2.1 (sI (fX1_putOff (sI r16.2.2 3 (gI r16.2.2 3 - 1))) 0 (gI (fX1_putOff (sI r16.2.2 3 (gI r16.2.2 3 - 1))) 0 + 1)) := by
    intro s nm T u
    unfold cB
    rw [bd_as]
    refine bd_cg (fun r14 => ?_)
    rw [bd_as]
    refine bd_cg (fun r16 => ?_)
    rw [ite_bd]
    exact it_cg rfl rfl
  have hA : ∀ u, ((cA ml nm T u).bind fun r => fX2_pass_L1 ml 7 n nf (i + 1) r.1 r.2.1 r.2.2) = (fX2_applause 7 ml nm T u).bind fun r8 => if gI r8.2.2.2 2 = (-1 : Int32) then ((cB ml r8.1 r8.2.1 r8.2.2.1 r8.2.2.2).bind fun r => fX2_pass_L1 ml 7 n nf (i + 1) r.1 r.2.1 r.2.2) else if (fX2_isCoughed ml r8.2.2.1 r8.2.2.2).1 = 0 then ((cB ml r8.1 r8.2.1 r8.2.2.1 (fX2_isCoughed ml r8.2.2.1 r8.2.2.2).2).bind fun r => fX2_pass_L1 ml 7 n nf (i + 1) r.1 r.2.1 r.2.2) else ((cB ml 0 r8.2.1 r8.2.2.1 (sI (fX2_isCoughed ml r8.2.2.1 r8.2.2.2).2 5 (gI (fX2_isCoughed ml r8.2.2.1 r8.2.2.2).2 5 + 1))).bind fun r => fX2_pass_L1 ml 7 n nf (i + 1) r.1 r.2.1 r.2.2) := by
    intro u
    unfold cA
    rw [bd_as]
    refine bd_cg (fun r8 => ?_)
    rw [ite_bd, ite_bd]
  rw [fX2_pass_L1]
  refine it_cg rfl ?_
  unfold cMin
  rw [ite_bd, hA, bd_as]
  refine it_cg ?_ (bd_cg (fun v => ?_))
  · refine bd_cg (fun r8 => ?_)
    rw [hB, hB, hB]
    rfl
  · rw [hA]
    refine bd_cg (fun r8 => ?_)
    rw [hB, hB, hB]
    rfl
def mnR (b na ng nr : Nat) (T : Nat → St) (u M : St) (r : St × (Nat → St) × St) (M' : St) : Prop := fT T r.2.1 ∧ FR b M M' ∧ HR r.2.2 M' b na ng nr ∧ (gI M 65 = 1 → gJ r.2.2 8 = gJ M' 64) ∧ (gI M 65 = 0 → M'.2.1 = M.2.1 ∧ r.2.2.2.1 = u.2.1) ∧ gI r.2.2 0 = gI u 0 + 1
theorem rest_of {T : Nat → St} {ml nm u M : St} {na ng nr ns b : Nat} {s : Int32} (hb : b < 2) (hT : TR T M na ng nr ns) (hH : HR u M b na ng nr) (hR : MR ml M) : ok (cB ml s nm T u) (fun r => ok (mRest (nI b) s M) (fun M' => fT T r.2.1 ∧ FR b M M' ∧ HR r.2.2 M' b na ng nr ∧ r.2.2.2.1 = u.2.1 ∧ M'.2.1 = M.2.1 ∧ gI r.2.2 0 = gI u 0 + 1)) := by
  have cb : ¬ (nI b < 0 ∨ 2 ≤ b) := kx hb (by decide)
  unfold cB mRest
  rw [cl (show b < 2 ^ 31 by omega)]
  refine ok_bind (ok_mono (turn_of (nm := nm) (s := s) hb hT hH hR) (fun r14 h14 => ok_bind ?_))
  obtain ⟨M1, e1, e55, r13, e13, a1, a2, a3, a4, a5, a6, a7, a8⟩ := h14
  refine ok_mono (grind_of (nm := r14.1) (s := s) hb ((hT.fT a1).fr a2) a3 (hR.fr a2)) (fun r16 h16 => ?_)
  obtain ⟨M2, e2, b1, b2, b3, b4, b5, b6, b7, b8⟩ := h16
  have pre : ∀ Q, ok (mEnd (nI b) M2) Q → ok ((fX12_layMill M (nI b) s).bind fun r10 => if nI b < 0 ∨ 2 ≤ b then none else (fX12_boundLaw r10 1 ((gA r10 55 b + s) / 2) (-99) 99).bind fun r13 => if nI b < 0 ∨ 2 ≤ b then none else (fX12_grinds (sA r13.2 55 b (fX12_bounded_ r13.1 (-99) 99)) (nI b) s).bind fun r18 => if nI b < 0 ∨ 2 ≤ b then none else mEnd (nI b) r18) Q := by
    intro Q h
    refine ok_bindx e1 (ok_f cb ?_)
    rw [e55]
    exact ok_bindx e13 (ok_f cb (ok_bindx e2 (ok_f cb h)))
  have f2 := a2.tr b2
  have t2 := a1.tr b1
  have g3 := b3.1.2.2.2.1
  have g2 := b3.1.2.2.1
  have g0 := b3.1.1
  have tick : ∀ (u2 M3 : St), HR u2 M3 b na ng nr → FR b M2 M3 → u2.2.1 = r16.2.2.2.1 → M3.2.1 = M2.2.1 → gI u2 0 = gI r16.2.2 0 → ok (cT r16.1 r16.2.1 u2) (fun r => ok (mTick (nI b) M3) (fun M' => fT T r.2.1 ∧ FR b M M' ∧ HR r.2.2 M' b na ng nr ∧ r.2.2.2.1 = u.2.1 ∧ M'.2.1 = M.2.1 ∧ gI r.2.2 0 = gI u 0 + 1)) := by
    intro u2 M3 k1 k2 k3 k4 k5
    unfold cT mTick
    rw [cl (show b < 2 ^ 31 by omega)]
    refine ok_some (ok_f cb (ok_f cb (ok_some ⟨t2, f2.tr (k2.tr (FR.wA (by decide) (by decide) rfl)), ?_, ?_, ?_, ?_⟩)))
    · rw [← k1.1.1]; exact k1.w59
    · exact k3.trans (b4.trans a4)
    · exact k4.trans (b5.trans a5)
    · show gI u2 0 + 1 = _
      rw [k5, b8, a8]
  have cl3 : gI (sI r16.2.2 3 (gI r16.2.2 3 - 1)) 3 = gA M2 54 b - 1 := by rw [gI_sIs, g3]
  have e54 : gA (sA M2 54 b (gA M2 54 b - 1)) 54 b = gA M2 54 b - 1 := gA_same ..
  have e53 : gA (sA M2 54 b (gA M2 54 b - 1)) 53 b = gA M2 53 b := gA_row _ _ _ _ (by decide)
  rcases b3.2.2.2.1 with ⟨q1, q2⟩ | ⟨i, hi, q1, k, hk1, hk9, q2⟩
  · -- nobody is on
    rw [cl3, q2]
    refine ok_f (by decide) ?_
    have hoff : HR (fX1_putOff (sI r16.2.2 3 (gI r16.2.2 3 - 1))) M2 b na ng nr := by
      have h1 := b3.won (a := -1) (l := 0) (Or.inl ⟨rfl, rfl⟩)
      have h2 : HR (sI (sI r16.2.2 2 (-1)) 3 0) M2 b na ng nr := h1.eqA (fun r j => by
        rw [gA_sA, gA_sA]
        by_cases c1 : r = 54 ∧ j = b
        · rw [if_pos c1, c1.1, c1.2, q2]
        · rw [if_neg c1]
          by_cases c2 : r = 53 ∧ j = b
          · rw [if_pos c2, c2.1, c2.2, q1]
          · rw [if_neg c2])
      refine h2.u ?_ rfl
      funext j
      show (if j = 3 then (0 : Int32) else if j = 2 then -1 else if j = 3 then gI r16.2.2 3 - 1 else gI r16.2.2 j) = if j = 3 then 0 else if j = 2 then -1 else gI r16.2.2 j
      by_cases c1 : j = 3
      · rw [if_pos c1, if_pos c1]
      · rw [if_neg c1, if_neg c1, if_neg c1]
    refine ok_mono (tick _ M2 hoff FR.rf rfl rfl rfl) (fun r hr => pre _ ?_)
    unfold mEnd
    rw [cl (show b < 2 ^ 31 by omega), q1]
    exact ok_t (by decide) hr
  · obtain ⟨j, rfl⟩ : ∃ j, k = j + 1 := ⟨k - 1, by omega⟩
    have em : gA M2 54 b - 1 = nI j := by rw [q2]; exact nI_sub1
    have n53 : ¬ gA M2 53 b < 0 := by rw [q1]; exact nI_pos (by have := hT.1.1.1; omega)
    rw [cl3, em]
    have mend : ∀ Q, (j = 0 → ok (mOff (nI b) (sA M2 54 b (nI j)) (-1)) Q) → (j ≠ 0 → ok (mOff (nI b) (sA M2 54 b (nI j)) (gA M2 53 b)) Q) → ok (mEnd (nI b) M2) Q := by
      intro Q h0 h1
      unfold mEnd
      rw [cl (show b < 2 ^ 31 by omega), e54, e53, em]
      refine ok_f n53 (ok_f cb (ok_f cb (ok_f cb (ok_if (fun c => h0 ?_) (fun c => ok_f cb (h1 ?_))))))
      · exact nI_inj (a := j) (b := 0) (by omega) (by omega) c
      · exact fun q => c (by rw [q]; rfl)
    have moff : ∀ x Q, ok (mTick (nI b) (sA (sA M2 54 b (nI j)) 53 b x)) Q → ok (mOff (nI b) (sA M2 54 b (nI j)) x) Q := by
      intro x Q h
      unfold mOff
      rw [cl (show b < 2 ^ 31 by omega)]
      exact ok_f cb h
    have f3 : ∀ x, FR b M2 (sA (sA M2 54 b (nI j)) 53 b x) := fun x => FR.tr (y := sA M2 54 b (nI j)) (FR.wA (by decide) (by decide) rfl) (FR.wA (by decide) (by decide) rfl)
    have sw : ∀ x r i', gA (sA (sA M2 54 b (nI j)) 53 b x) r i' = gA (sA (sA M2 53 b x) 54 b (nI j)) r i' := by
      intro x r i'
      rw [gA_sA, gA_sA, gA_sA, gA_sA]
      by_cases c1 : r = 53 ∧ i' = b
      · rw [if_pos c1, if_pos c1, if_neg (fun q => by omega)]
      · rw [if_neg c1, if_neg c1]
    refine ok_if (fun c => ?_) (fun c => ?_)
    · have j0' : j ≠ 0 := fun q => by rw [q] at c; exact absurd c (by decide)
      have hon : HR (sI r16.2.2 3 (nI j)) (sA (sA M2 54 b (nI j)) 53 b (gA M2 53 b)) b na ng nr := by
        have h1 := b3.won (a := nI i) (l := nI j) (Or.inr ⟨i, hi, rfl, j, by omega, by omega, rfl⟩)
        have h2 := h1.eqA (M' := sA (sA M2 54 b (nI j)) 53 b (gA M2 53 b)) (fun r i' => by rw [q1]; exact sw _ r i')
        refine h2.u ?_ rfl
        funext t
        show (if t = 3 then nI j else gI r16.2.2 t) = if t = 3 then nI j else if t = 2 then nI i else gI r16.2.2 t
        by_cases c1 : t = 3
        · rw [if_pos c1, if_pos c1]
        · rw [if_neg c1, if_neg c1]
          by_cases c2 : t = 2
          · rw [if_pos c2, c2, g2, q1]
          · rw [if_neg c2]
      rw [show gI r16.2.2 3 - 1 = nI j by rw [g3, em]]
      refine ok_mono (tick _ _ hon (f3 _) rfl rfl rfl) (fun r hr => pre _ (mend _ (fun q => absurd q j0') (fun _ => moff _ _ hr)))
    · have j0' : j = 0 := by
        rcases Nat.eq_zero_or_pos j with q | q
        · exact q
        · exact absurd ((nI_ltI (a := 0) (b := j) (by omega) (by omega)).mpr q) c
      subst j0'
      have hoff : HR (fX1_putOff (sI r16.2.2 3 (gI r16.2.2 3 - 1))) (sA (sA M2 54 b (nI 0)) 53 b (-1)) b na ng nr := by
        have h1 := b3.won (a := -1) (l := nI 0) (Or.inl ⟨rfl, rfl⟩)
        have h2 := h1.eqA (M' := sA (sA M2 54 b (nI 0)) 53 b (-1)) (fun r i' => sw _ r i')
        refine h2.u ?_ rfl
        funext t
        show (if t = 3 then (0 : Int32) else if t = 2 then -1 else if t = 3 then gI r16.2.2 3 - 1 else gI r16.2.2 t) = if t = 3 then nI 0 else if t = 2 then -1 else gI r16.2.2 t
        by_cases c1 : t = 3
        · rw [if_pos c1, if_pos c1]; rfl
        · rw [if_neg c1, if_neg c1, if_neg c1]
      exact ok_mono (tick _ _ hoff (f3 _) rfl rfl rfl) (fun r hr => pre _ (mend _ (fun _ => moff _ _ hr) (fun q => absurd rfl q)))
theorem cA_of {T : Nat → St} {ml nm u M : St} {na ng nr ns b : Nat} (hb : b < 2) (hT : TR T M na ng nr ns) (hH : HR u M b na ng nr) (hR : MR ml M) (hJ : gI M 65 = 1 → gJ u 8 = gJ M 64) : ok (cA ml nm T u) (fun r => ok ((fX12_claps M (nI b)).bind fun r3 => if nI b < 0 ∨ 2 ≤ (nI b).toNatClampNeg then none else if gA r3.2 53 (nI b).toNatClampNeg < 0 then mRest (nI b) r3.1 r3.2 else (fX12_isCoughed r3.2).bind fun r40 => if r40.1 = 0 then mRest (nI b) r3.1 r40.2 else if nI b < 0 ∨ 2 ≤ (nI b).toNatClampNeg then none else if nI b < 0 ∨ 2 ≤ (nI b).toNatClampNeg then none else mRest (nI b) 0 (sA r40.2 58 (nI b).toNatClampNeg (gA r40.2 58 (nI b).toNatClampNeg + 1))) (fun M' => mnR b na ng nr T u M r M')) := by
  have cb : ¬ (nI b < 0 ∨ 2 ≤ b) := kx hb (by decide)
  rw [cl (show b < 2 ^ 31 by omega)]
  unfold cA
  refine ok_bind (ok_mono (claps_of (nm := nm) hb hT hH hR) (fun r8 h8 => ?_))
  obtain ⟨r3, e3, a1, a2, a3, a4, a5, a6, a7, a8⟩ := h8
  have hT3 := (hT.fT a2).fr a3
  have hR3 := hR.fr a3
  have hJ3 : gI M 65 = 1 → gJ r8.2.2.2 8 = gJ r3.2 64 := fun h => by
    have c1 : gJ r8.2.2.2 8 = gJ u 8 := congrFun a5 8
    have c2 : gJ r3.2 64 = gJ M 64 := congrFun a6 64
    rw [c1, c2]; exact hJ h
  have e0 : gI r8.2.2.2 0 = gI u 0 := congrFun a7 0
  have e65 : gI r3.2 65 = gI M 65 := a3.I (by decide)
  rcases a4.2.2.2.1 with ⟨q, _⟩ | ⟨i, hi, q, _⟩
  · refine ok_t (a4.1.2.2.1.trans q) ?_
    refine ok_mono (rest_of hb hT3 a4 hR3) (fun r hr => ok_bindx e3 (ok_f cb (ok_t (by rw [q]; decide) ?_)))
    rw [← a1]
    refine ok_mono hr (fun M' h' => ?_)
    obtain ⟨k1, k2, k3, k4, k5, k6⟩ := h'
    exact ⟨a2.tr k1, a3.tr k2, k3, fun h => (congrFun k4 8).trans ((hJ3 h).trans (congrFun k5 64).symm), fun _ => ⟨k5.trans a6, k4.trans a5⟩, k6.trans (by rw [e0])⟩
  · have hi6 := hT.1.1.1
    have n1 : ¬ gA r3.2 53 b < 0 := by rw [q]; exact nI_pos (by omega)
    refine ok_f (by rw [a4.1.2.2.1, q]; exact nI_nn (by omega)) ?_
    obtain ⟨r40, e40, c1, c2, c3, c4, c5, c6, c7⟩ := cough_of hT3 a4 hR3 (fun h => hJ3 (e65.symm.trans h))
    have hT4 := hT3.fr c2
    have hR4 := hR3.fr c2
    have j40 : gI M 65 = 0 → r40.2.2.1 = M.2.1 ∧ (fX2_isCoughed ml r8.2.2.1 r8.2.2.2).2.2.1 = u.2.1 := fun h => ⟨(c5 (e65.trans h)).1.trans a6, (c5 (e65.trans h)).2.trans a5⟩
    have j41 : gI M 65 = 1 → gJ (fX2_isCoughed ml r8.2.2.1 r8.2.2.2).2 8 = gJ r40.2 64 := fun h => c4 (e65.trans h)
    have e0' : gI (fX2_isCoughed ml r8.2.2.1 r8.2.2.2).2 0 = gI u 0 := (congrFun c6 0).trans e0
    refine ok_if (fun c => ?_) (fun c => ?_)
    · refine ok_mono (rest_of hb hT4 c3 hR4) (fun r hr => ok_bindx e3 (ok_f cb (ok_f n1 (ok_bindx e40 (ok_t (by rw [← c1]; exact c) ?_)))))
      rw [← a1]
      refine ok_mono hr (fun M' h' => ?_)
      obtain ⟨k1, k2, k3, k4, k5, k6⟩ := h'
      exact ⟨a2.tr k1, a3.tr (c2.tr k2), k3, fun h => (congrFun k4 8).trans ((j41 h).trans (congrFun k5 64).symm), fun h => ⟨k5.trans (j40 h).1, k4.trans (j40 h).2⟩, k6.trans (by rw [e0'])⟩
    · have f5 : FR b r40.2 (sA r40.2 58 b (gA r40.2 58 b + 1)) := FR.wA (by decide) (by decide) rfl
      have h5 : HR (sI (fX2_isCoughed ml r8.2.2.1 r8.2.2.2).2 5 (gI (fX2_isCoughed ml r8.2.2.1 r8.2.2.2).2 5 + 1)) (sA r40.2 58 b (gA r40.2 58 b + 1)) b na ng nr := by
        rw [c3.1.2.2.2.2.2.1]; exact c3.w58
      refine ok_mono (rest_of hb (hT4.fr f5) h5 (hR4.fr f5)) (fun r hr => ok_bindx e3 (ok_f cb (ok_f n1 (ok_bindx e40 (ok_f (by rw [← c1]; exact c) (ok_f cb (ok_f cb ?_)))))))
      refine ok_mono hr (fun M' h' => ?_)
      obtain ⟨k1, k2, k3, k4, k5, k6⟩ := h'
      exact ⟨a2.tr k1, a3.tr (c2.tr (f5.tr k2)), k3, fun h => (congrFun k4 8).trans ((j41 h).trans (congrFun k5 64).symm), fun h => ⟨k5.trans (j40 h).1, k4.trans (j40 h).2⟩, k6.trans (by show gI (fX2_isCoughed ml r8.2.2.1 r8.2.2.2).2 0 + 1 = _; rw [e0'])⟩
theorem min_of {T : Nat → St} {ml nm u M : St} {na ng nr ns b : Nat} (hb : b < 2) (hT : TR T M na ng nr ns) (hH : HR u M b na ng nr) (hR : MR ml M) (hJ : gI M 65 = 1 → gJ u 8 = gJ M 64) : ok (cMin ml nm T u) (fun r => ok (fX12_minuteGoes M (nI b)) (fun M' => mnR b na ng nr T u M r M')) := by
  unfold cMin
  rw [mg_t]
  rcases hR.2.1 with ⟨m3, m70⟩ | ⟨m3, m70⟩
  · refine ok_f (by rw [m3]; exact i10) (ok_bind (ok_mono (shows_of (ml := ml) hb hT hH m70) (fun v hv => ?_)))
    obtain ⟨M1, e1, a1, a2, a3, a4, a5⟩ := hv
    have e65 : gI M1 65 = gI M 65 := a1.I (by decide)
    have hJ1 : gI M1 65 = 1 → gJ v 8 = gJ M1 64 := fun h => by
      have c1 : gJ v 8 = gJ u 8 := congrFun a3 8
      have c2 : gJ M1 64 = gJ M 64 := congrFun a4 64
      rw [c1, c2]; exact hJ (e65.symm.trans h)
    refine ok_mono (cA_of (nm := nm) hb (hT.fr a1) a2 (hR.fr a1) hJ1) (fun r hr => ok_bindx e1 (ok_mono hr (fun M' h' => ?_)))
    obtain ⟨k1, k2, k3, k4, k5, k6⟩ := h'
    exact ⟨k1, a1.tr k2, k3, fun h => k4 (e65.trans h), fun h => ⟨(k5 (e65.trans h)).1.trans a4, (k5 (e65.trans h)).2.trans a3⟩, k6.trans (by rw [a5])⟩
  · refine ok_t m3 (ok_mono (cA_of (nm := nm) hb hT hH hR hJ) (fun r hr => ok_bindx (shown_no hT.1.2.2.2.2.2 hT.1.1.2.2.2 m70) hr))
/-- minutes one behind the other -/
def mIt (b : Nat) : Nat → St → Option St
  | 0, M => some M
  | n + 1, M => (fX12_minuteGoes M (nI b)).bind fun M' => mIt b n M'
def cIt (ml : St) : Nat → St → (Nat → St) → St → Option (St × (Nat → St) × St)
  | 0, nm, T, u => some (nm, T, u)
  | n + 1, nm, T, u => (cMin ml nm T u).bind fun r => cIt ml n r.1 r.2.1 r.2.2
def itR (b na ng nr : Nat) (n : Nat) (T : Nat → St) (u M : St) (r : St × (Nat → St) × St) (M' : St) : Prop := fT T r.2.1 ∧ FR b M M' ∧ HR r.2.2 M' b na ng nr ∧ (gI M 65 = 1 → gJ r.2.2 8 = gJ M' 64) ∧ (gI M 65 = 0 → M'.2.1 = M.2.1 ∧ r.2.2.2.1 = u.2.1) ∧ gI r.2.2 0 = gI u 0 + nI n
theorem it_of {ml : St} {na ng nr ns b : Nat} (hb : b < 2) : ∀ (n : Nat) (T : Nat → St) (nm u M : St), TR T M na ng nr ns → HR u M b na ng nr → MR ml M → (gI M 65 = 1 → gJ u 8 = gJ M 64) → ok (cIt ml n nm T u) (fun r => ok (mIt b n M) (fun M' => itR b na ng nr n T u M r M'))
  | 0, T, nm, u, M, hT, hH, hR, hJ => ok_some (ok_some ⟨fT.rf, FR.rf, hH, hJ, fun _ => ⟨rfl, rfl⟩, by rw [show nI 0 = 0 from rfl, Int32.add_zero]⟩)
  | n + 1, T, nm, u, M, hT, hH, hR, hJ => by
    rw [cIt, mIt]
    refine ok_bind (ok_mono (min_of (nm := nm) hb hT hH hR hJ) (fun r hr => ?_))
    obtain ⟨M1, e1, a1, a2, a3, a4, a5, a6⟩ := hr
    refine ok_mono (it_of hb n r.2.1 r.1 r.2.2 M1 ((hT.fT a1).fr a2) a3 (hR.fr a2) (fun h => a4 ((a2.I (by decide)).symm.trans h))) (fun r' hr' => ok_bindx e1 (ok_mono hr' (fun M' h' => ?_)))
    obtain ⟨b1, b2, b3, b4, b5, b6⟩ := h'
    have e65 : gI M1 65 = gI M 65 := a2.I (by decide)
    refine ⟨a1.tr b1, a2.tr b2, b3, fun h => b4 (e65.trans h), fun h => ⟨(b5 (e65.trans h)).1.trans (a5 h).1, (b5 (e65.trans h)).2.trans (a5 h).2⟩, ?_⟩
    rw [b6, a6, Int32.add_assoc, Int32.add_comm 1 (nI n), nI_1]
theorem ps_it {ml : St} {n : Nat} (hn : n < 2 ^ 31) : ∀ (d nf i : Nat) (nm : St) (T : Nat → St) (u : St), i + d = n → d < nf → fX2_pass_L1 ml 7 (nI n) nf (nI i) nm T u = cIt ml d nm T u
  | 0, nf + 1, i, nm, T, u, h, _ => by
    rw [ps_t, cIt]
    exact tp (by rw [nI_leI (by omega) (by omega)]; omega) rfl
  | d + 1, nf + 1, i, nm, T, u, h, hf => by
    rw [ps_t, cIt, nI_1]
    exact fn (by rw [nI_leI (by omega) (by omega)]; omega) (bd_cg (fun r => ps_it hn d nf (i + 1) r.1 r.2.1 r.2.2 (by omega) (by omega)))
theorem pass_eq {ml nm u : St} {T : Nat → St} {n : Nat} (hn : n < 1000) : fX2_pass 7 ml nm T u (nI n) = cIt ml n nm T u := by
  unfold fX2_pass
  rw [show (0 : Int32) = nI 0 from rfl, ps_it (by omega) n fuel 0 nm T u (by omega) (by rw [fuel_eq]; omega)]
  cases cIt ml n nm T u <;> rfl
theorem gm_it {n : Nat} (hn : n < 2 ^ 31) : ∀ (d nf i : Nat) (M : St), i + d = n → d < nf → fX12_goMany_L1 (nI n) nf (nI i) M = mIt 1 d M
  | 0, nf + 1, i, M, h, _ => by
    rw [fX12_goMany_L1, mIt]
    exact tp (by rw [nI_leI (by omega) (by omega)]; omega) rfl
  | d + 1, nf + 1, i, M, h, hf => by
    rw [fX12_goMany_L1, mIt]
    refine fn (by rw [nI_leI (by omega) (by omega)]; omega) (bd_cg (fun r => lt_c ?_))
    rw [nI_1]
    exact gm_it hn d nf (i + 1) r (by omega) (by omega)
theorem goMany_eq {M : St} {n : Nat} (hn : n < 1000) : fX12_goMany M (nI n) = mIt 1 n M := by
  unfold fX12_goMany
  rw [show (0 : Int32) = nI 0 from rfl, gm_it (by omega) n fuel 0 M (by omega) (by rw [fuel_eq]; omega)]
  cases mIt 1 n M <;> rfl
