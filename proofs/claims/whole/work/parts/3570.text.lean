/-! a text -/
def ph1 (i : Nat) (u : St) : St := sA (sA u 22 i (bz 0)) 23 (2 + i) 0
def ph2 (i : Nat) (u : St) : St := sA u 36 i (bz 0)
def phS (M : St) : St := sI (sI (sI (sI (sI (sI M 17 0) 18 0) 19 0) 20 0) 21 0) 47 0
def phM (M : St) : St := itS ph2 3 3 (itS ph1 2 0 (phS M))
theorem plainM_eq (M : St) : fX12_plain M = some (phM M) := by
  unfold fX12_plain
  refine lt_c (lt_c (lt_c (lt_c (lt_c (lt_c ?_)))))
  refine bd_c (loopS (L := fX12_plain_L1) (n := 2) (stp := ph1) (fun nf i u hi => ?_) (fun nf u => ?_) 2 fuel 0 _ (by omega) (by rw [fuel_eq]; omega)) (bd_c (loopS (L := fX12_plain_L2) (n := 6) (stp := ph2) (fun nf i u hi => ?_) (fun nf u => ?_) 3 fuel 3 _ (by omega) (by rw [fuel_eq]; omega)) rfl)
  · have e : (2 : Int32) + nI i = nI (2 + i) := by rw [show (2 : Int32) = nI 2 from rfl, nI_add]
    rw [fX12_plain_L1, e, cl (show i < 2 ^ 31 by omega), cl (show 2 + i < 2 ^ 31 by omega)]
    refine fn (show ¬ nI 2 ≤ nI i by rw [nI_leI (by omega) (by omega)]; omega) (fn (kx (by omega) (by omega)) (lt_c (fn (kx (by omega) (by omega)) (lt_c (lt_c ?_)))))
    rw [nI_1]; rfl
  · rw [fX12_plain_L1]
    exact tp (show nI 2 ≤ nI 2 by rw [nI_leI (by omega) (by omega)]; omega) rfl
  · rw [fX12_plain_L2, cl (show i < 2 ^ 31 by omega)]
    refine fn (show ¬ nI 6 ≤ nI i by rw [nI_leI (by omega) (by omega)]; omega) (fn (kx (by omega) (by omega)) (lt_c (lt_c ?_)))
    rw [nI_1]; rfl
  · rw [fX12_plain_L2]
    exact tp (show nI 6 ≤ nI 6 by rw [nI_leI (by omega) (by omega)]; omega) rfl
theorem ph_PF (M : St) : PF M (phM M) := by
  have s : ∀ k (u : St), pI k → PF u (sI u k 0) := fun k u h => PF.wI h
  have p1 : ∀ i (u : St), PF u (ph1 i u) := fun i u => (PF.wA (Or.inl rfl)).tr (PF.wA (Or.inr (Or.inr (Or.inr ⟨by decide, by decide, by show 2 ≤ 2 + i; omega⟩))))
  have p2 : ∀ i (u : St), 3 ≤ i → PF u (ph2 i u) := fun i u h => PF.wA (Or.inr (Or.inr (Or.inr ⟨by decide, by decide, h⟩)))
  have a : PF M (phS M) := (s 17 _ (by unfold pI; omega)).tr ((s 18 _ (by unfold pI; omega)).tr ((s 19 _ (by unfold pI; omega)).tr ((s 20 _ (by unfold pI; omega)).tr ((s 21 _ (by unfold pI; omega)).tr (s 47 _ (by unfold pI; omega))))))
  exact a.tr ((p1 0 _).tr ((p1 1 _).tr ((p2 3 _ (by omega)).tr ((p2 4 _ (by omega)).tr (p2 5 _ (by omega))))))
theorem ph_I (M : St) : (phM M).1 = (phS M).1 := rfl
/-- nothing is read so far -/
def FG (S : Nat → St) : Prop := MO S ∧ (gI (S 1) 5 = 0 ∧ gI (S 2) 5 = 0 ∧ gI (S 3) 5 = 0 ∧ gI (S 4) 5 = 0) ∧ (∀ w, 5 ≤ w → w ≤ 7 → gI (S w) 3 = 0 ∧ gI (S w) 4 = 0) ∧ gI (S 0) 5 = 0 ∧ gI (S 0) 6 = 0 ∧ gI (S 0) 7 = 0 ∧ gI (S 0) 8 = 0 ∧ gI (S 0) 9 = 0 ∧ gI (S 0) 10 = 0
theorem forget_of {S : Nat → St} (h : MO S) : ok (fX8_forget S) FG := by
  unfold fX8_forget
  refine ok_lt (ok_lt (ok_lt (ok_lt (ok_bind ?_))))
  rw [show fuel = 996 + 1 + 1 + 1 + 1 from rfl]
  rw [fX8_forget_L1]
  refine ok_f (by decide) (ok_t rfl (ok_lt (ok_lt ?_)))
  rw [show (0 : Int32) + 1 = 1 from rfl, fX8_forget_L1]
  refine ok_f (by decide) (ok_f (by decide) (ok_t rfl (ok_lt (ok_lt ?_))))
  rw [show (1 : Int32) + 1 = 2 from rfl, fX8_forget_L1]
  refine ok_f (by decide) (ok_f (by decide) (ok_f (by decide) (ok_t rfl (ok_lt (ok_lt ?_)))))
  rw [show (2 : Int32) + 1 = 3 from rfl, fX8_forget_L1]
  refine ok_t (by decide) (ok_some (ok_lt (ok_lt (ok_lt (ok_lt (ok_lt (ok_lt (ok_some ?_))))))))
  refine ⟨h, ⟨rfl, rfl, rfl, rfl⟩, fun w h1 h2 => ?_, rfl, rfl, rfl, rfl, rfl, rfl⟩
  rcases (show w = 5 ∨ w = 6 ∨ w = 7 by omega) with rfl | rfl | rfl <;> exact ⟨rfl, rfl⟩
theorem rd_0 {S : Nat → St} {M M' : St} (h : FG S) (k : fI mQ (phM M) M') : RD S M' 0 0 0 0 0 := by
  have hp : RD S (phM M) 0 0 0 0 0 := by
    obtain ⟨⟨o1, o2, o3, o4⟩, ⟨s1, s2, s3, s4⟩, hl, z5, z6, z7, z8, z9, z10⟩ := h
    refine ⟨⟨⟨by omega, by omega, by omega, by omega⟩, ⟨o1, o2, o3, o4⟩, ⟨s1, s2, s3, s4⟩, rfl, rfl, rfl, rfl⟩, fun i hi => absurd hi (by omega), fun i hi => absurd hi (by omega), fun i hi => absurd hi (by omega), fun i hi => absurd hi (by omega), ⟨⟨z5, 0, by omega, by omega, rfl⟩, ⟨z6, 0, by omega, by omega, rfl⟩, z7, z8, by omega, z9, rfl, rfl⟩, ⟨(hl 5 (by omega) (by omega)).2, Or.inl ⟨rfl, (hl 5 (by omega) (by omega)).1⟩⟩, ⟨(hl 6 (by omega) (by omega)).2, Or.inl ⟨rfl, (hl 6 (by omega) (by omega)).1⟩⟩, ⟨(hl 7 (by omega) (by omega)).2, Or.inl ⟨rfl, (hl 7 (by omega) (by omega)).1⟩⟩⟩
  exact hp.Q k
/-- behind a text: told and spare are exchanged, where a text is right -/
def txR (im fut tape : St) (T : Nat → St) (r : Int32 × St × St × St × St × St × St × St × (Nat → St) × Nat × Nat) (r' : Int32 × St) : Prop := r.1 = r'.1 ∧
  ((∃ na ng nr ns, r.2.2.2.2.2.2.2.2.2 = (1, 0) ∧ CR r.2.1 im r.2.2.2.2.2.1 r.2.2.2.2.2.2.1 r.2.2.2.2.2.2.2.1 fut tape r.2.2.2.1 r.2.2.2.2.2.2.2.2.1 T r'.2 na ng nr ns) ∨
   (∃ na ng nr ns, r.2.2.2.2.2.2.2.2.2 = (0, 1) ∧ CR r.2.1 im r.2.2.2.2.2.1 r.2.2.2.2.2.2.1 r.2.2.2.2.2.2.2.1 fut tape r.2.2.2.1 T r.2.2.2.2.2.2.2.2.1 r'.2 na ng nr ns))
theorem MS.MO {S S' : Nat → St} (h : MS S S') (k : MO S) : MO S' := by
  obtain ⟨a, b, c, d⟩ := k
  exact ⟨(h 1 (by omega) (by omega)).trans a, (h 2 (by omega) (by omega)).trans b, (h 3 (by omega) (by omega)).trans c, (h 4 (by omega) (by omega)).trans d⟩
theorem bn_A (M : St) {r : Nat} (h : r < 53 ∨ 63 < r) : gA (bnM M) r = gA M r := by
  have e : gA (bnM M) r = gA (afM 0 M) r := by
    have hp := (plain_of (sJ (afM 0 M) 64 ((gA (afM 0 M) 23 1).toInt64))).2.1
    show (fX12_plainTried (sJ (afM 0 M) 64 ((gA (afM 0 M) 23 1).toInt64))).2.2.1 r = _
    rw [hp]; rfl
  rw [e, (af_FR 0 M).A (by omega)]
theorem bn_h (M : St) (r : Nat) : gA (bnM M) r = gA (afM 0 M) r := by
  have hp := (plain_of (sJ (afM 0 M) 64 ((gA (afM 0 M) 23 1).toInt64))).2.1
  show (fX12_plainTried (sJ (afM 0 M) 64 ((gA (afM 0 M) 23 1).toInt64))).2.2.1 r = _
  rw [hp]; rfl
theorem bn_I (M : St) {k : Nat} (h : k ≠ 75 ∧ k ≠ 76 ∧ k ≠ 80 ∧ k ≠ 82 ∧ ¬ (65 ≤ k ∧ k ≤ 73)) : gI (bnM M) k = gI M k := by
  unfold bnM
  rw [gI_sIn _ _ (by omega), gI_sIn _ _ (by omega), gI_sIn _ _ (by omega), gI_sIn _ _ (by omega), (plain_of _).2.2.1 k h.2.2.2.2]
  show (afM 0 M).1 k = _
  rw [af_I]; rfl
theorem bn_J (M : St) : gJ (bnM M) 64 = (gA M 23 1).toInt64 := by
  have hp := (plain_of (sJ (afM 0 M) 64 ((gA (afM 0 M) 23 1).toInt64))).2.1
  show (fX12_plainTried (sJ (afM 0 M) 64 ((gA (afM 0 M) 23 1).toInt64))).2.1 64 = _
  rw [hp, ← (af_FR 0 M).A (r := 23) (by omega)]; rfl
/-- behind a text that is right -/
theorem CR.right {mn im now' sp nt fut tape tk : St} {T S : Nat → St} {M M1 : St} {na ng nr ns kn : Nat} (h : RD S M na ng nr ns kn) (k : KTN 42 M M1) (hT : MO T) (hb : bgR now' (gI (S 0) 6)) (hf : gI mn 2 = gI M 4 ∧ gI mn 3 = gI M 5) (ht : gI mn 1 = 0 ∧ gI M 1 = 0) (wo : WO tk) (wm : WM M) : CR (sI (sI mn 11 0) 15 (-1)) im now' (fX9_clear sp) (fX3_clear nt) fut tape tk S T (bnM M1) na ng nr ns := by
  have t1 := h.keep k
  have t2 : TR S (bnM M1) na ng nr ns := t1.M (fun j h1 h2 => bn_I M1 (by omega)) (fun r h1 h2 => bn_A M1 (by omega))
  have kI : ∀ j, j ≤ 5 → gI (bnM M1) j = gI M j := fun j hj => (bn_I M1 (by omega)).trans (k.1 j (by omega))
  have hJ : gJ (bnM M1) 64 = (gA M1 23 1).toInt64 := bn_J M1
  refine ⟨t2, (HR.first (b := 0) (by decide) t1 hb).M (by rw [bn_h]) (fun r i _ _ _ => by rw [bn_h]), ?_, ⟨hf.1.trans (kI 4 (by omega)).symm, hf.2.trans (kI 5 (by omega)).symm⟩, ⟨0, by omega, ht.1, (kI 1 (by omega)).trans ht.2, fun i hi => absurd hi (by omega)⟩, Or.inl ⟨rfl, rfl⟩, SPR.clear rfl, ⟨0, by omega, rfl, rfl, rfl, Or.inl rfl, fun i hi => absurd hi (by omega)⟩, Or.inl rfl, ⟨⟨h.1.2.1.1, h.1.2.1.2.1, h.1.2.1.2.2.1, h.1.2.1.2.2.2⟩, hT⟩, wo, fun i hi => ?_⟩
  · rw [hb.2.1, hJ, t1.2.2.2.2.2.1.2.1]
  · rw [bn_A M1 (by omega), k.2.2.2, if_neg (by omega)]; exact wm i hi
theorem text_of {mn im now sp nt fut tape tk rd ph : St} {T S : Nat → St} {M : St} {na ng nr ns : Nat} {x : Int32} (h : CR mn im now sp nt fut tape tk T S M na ng nr ns) : ok (fX11_text mn tape rd tk ph now sp nt S x) (fun r => ok (fX12_text M x) (fun r' => txR im fut tape T r r')) := by
  have same : CR mn im now sp nt fut tape tk T S (sI M 2 0) na ng nr ns := h.wrong (XF.wI (Or.inr (Or.inl rfl))) rfl rfl h.flt (by
    obtain ⟨n, a, b, c, d⟩ := h.tape
    exact ⟨n, a, b, c, d⟩) h.mo.2 rfl
  have bad : txR im fut tape T ((-2 : Int32), mn, rd, tk, ph, now, sp, nt, S, 0, 1) ((-2 : Int32), sI M 2 0) := ⟨rfl, Or.inr ⟨na, ng, nr, ns, rfl, same⟩⟩
  unfold fX11_text fX12_text
  obtain ⟨n, hn, n1, n2, nb⟩ := h.tape
  have n2' : gI (sI M 2 0) 1 = nI n := n2
  rcases in_or x (N := n) (by omega) with h0 | ⟨h0, h1⟩ | ⟨h0, h1, N, hN, rfl⟩
  · exact ok_t h0 (ok_some (ok_lt (ok_t h0 (ok_some bad))))
  · have q : ¬ x ≤ nI n := fun z => (le_nlt _ _).mp z h1
    exact ok_f h0 (ok_f (by rw [n1]; exact q) (ok_some (ok_lt (ok_f h0 (ok_f (by rw [n2']; exact q) (ok_some bad))))))
  · have q : nI N ≤ nI n := (le_nlt _ _).mpr h1
    refine ok_f h0 (ok_t (by rw [n1]; exact q) (ok_lt ?_))
    have refB : ∀ {P : Int32 × St → Prop}, ok ((fX12_plain (sI (sI (sI (sI (sI (sI M 2 0) 6 (nI N)) 1 0) 4 0) 5 (-1)) 7 0)).bind fun r9 => (fX12_token r9).bind fun r11 => (fX12_text_L1 fuel (0 : Int32) r11).bind (fun y23 => el y23 (fun y20 => (fX12_keepText y20.2).bind fun r21 => some (y20.1, r21)) (fun r => some r))) P → ok (lt (sI M 2 (0 : Int32)) fun u1 => if nI N < 0 then (some ((-2 : Int32), u1)) else if nI N ≤ (gI u1 1) then (lt (sI u1 6 (nI N)) fun u4 => lt (sI u4 1 (0 : Int32)) fun u5 => lt (sI u5 4 (0 : Int32)) fun u6 => lt (sI u6 5 (-1 : Int32)) fun u7 => lt (sI u7 7 (0 : Int32)) fun u8 => (fX12_plain u8).bind fun r9 => (fX12_token r9).bind fun r11 => (fX12_text_L1 fuel (0 : Int32) r11).bind (fun y23 => el y23 (fun y20 => (fX12_keepText y20.2).bind fun r21 => some (y20.1, r21)) (fun r => some r))) else some ((-2 : Int32), u1)) P := fun hh => ok_lt (ok_f h0 (ok_t (by rw [n2']; exact q) (ok_lt (ok_lt (ok_lt (ok_lt (ok_lt hh)))))))
    -- the class reads
    unfold fX6_readAll
    refine ok_bind (ok_bind (ok_mono (forget_of h.mo.2) (fun S1 hS => ok_lt (ok_lt (ok_bind ?_)))))
    unfold fX10_begin
    have lim : (if Int32.ofNat 700 < nI N then Int32.ofNat 700 else nI N) = nI N := if_neg (show ¬ nI 700 < nI N by rw [nI_ltI (by omega) (by omega)]; omega)
    refine ok_lt ?_
    rw [lim]
    refine ok_lt (ok_lt (ok_bind ?_))
    have eP := plainM_eq (sI (sI (sI (sI (sI (sI M 2 0) 6 (nI N)) 1 0) 4 0) 5 (-1)) 7 0)
    have xP : XF M (phM (sI (sI (sI (sI (sI (sI M 2 0) 6 (nI N)) 1 0) 4 0) 5 (-1)) 7 0)) := (XF.wI (Or.inr (Or.inl rfl))).tr ((XF.wI (Or.inr (Or.inr (Or.inl rfl)))).tr ((XF.wI (Or.inl rfl)).tr ((XF.wI (Or.inr (Or.inr (Or.inr (by unfold pI; omega))))).tr ((XF.wI (Or.inr (Or.inr (Or.inr (by unfold pI; omega))))).tr ((XF.wI (Or.inr (Or.inr (Or.inr (by unfold pI; omega))))).tr (XF.P (ph_PF _)))))))
    have hB : TB (sI (sI tk 2 (nI N)) 3 0) tape (phM (sI (sI (sI (sI (sI (sI M 2 0) 6 (nI N)) 1 0) 4 0) 5 (-1)) 7 0)) N := ⟨by omega, rfl, rfl, fun i hi => by rw [xP.row (r := 0) (by omega)]; exact nb i (by omega), h.wo, fun i hi => by rw [xP.row (r := 3) (by omega)]; exact h.wm i hi⟩
    have z4 : gI (phM (sI (sI (sI (sI (sI (sI M 2 0) 6 (nI N)) 1 0) 4 0) 5 (-1)) 7 0)) 4 = 0 := rfl
    have z5 : gI (phM (sI (sI (sI (sI (sI (sI M 2 0) 6 (nI N)) 1 0) 4 0) 5 (-1)) 7 0)) 5 = -1 := rfl
    have z1 : gI (phM (sI (sI (sI (sI (sI (sI M 2 0) 6 (nI N)) 1 0) 4 0) 5 (-1)) 7 0)) 1 = 0 := rfl
    have z7 : gI (phM (sI (sI (sI (sI (sI (sI M 2 0) 6 (nI N)) 1 0) 4 0) 5 (-1)) 7 0)) 7 = nI 0 := rfl
    have rd0 : ∀ M2, fI mQ (phM (sI (sI (sI (sI (sI (sI M 2 0) 6 (nI N)) 1 0) 4 0) 5 (-1)) 7 0)) M2 → RD S1 M2 0 0 0 0 0 := fun M2 k => rd_0 hS k
    revert eP xP hB z4 z5 z1 z7 rd0 refB
    generalize phM (sI (sI (sI (sI (sI (sI M 2 0) 6 (nI N)) 1 0) 4 0) 5 (-1)) 7 0) = M1
    intro refB eP xP hB z4 z5 z1 z7 rd0
    refine ok_mono (next_of hB (Nat.zero_le _) rfl z7) (fun t1 ht => ok_some ?_)
    obtain ⟨M2, eM2, k1, k2, p, p0, hp⟩ := ht
    have hPS : PS t1 tape M2 N p := ⟨hB.fr k1 k2, hp⟩
    have f10 : gI (S1 0) 10 = nI 0 := hS.2.2.2.2.2.2.2.2
    refine ok_bind (ok_mono (all_L (show N ≤ 700 by omega) fuel fuel 0 p 0 (sI (sI rd 3 0) 4 (-1)) t1 ph S1 M2 (by rw [fuel_eq]; omega) (by rw [fuel_eq]; omega) (by omega) rfl hPS ⟨0, 0, 0, 0, 0, rd0 M2 k2.m⟩ f10) (fun y hy => ok_some (ok_lt (ok_lt (ok_lt (ok_lt ?_))))))
    obtain ⟨c1, c2, y', ey', hy'⟩ := hy
    have i1 : ∀ {k}, k ≤ 6 → gI M2 k = gI M1 k := fun {k} hk => k2.1 k (by unfold mP; omega)
    have ek : y.2.1.2 = tk.2 := c2.2.trans (k1.2)
    have mo : MO y.2.2.2 := c1.MO hS.1
    have x2 : XF M M2 := xP.tr (XF.P k2.m.PF)
    rcases hy' with ⟨ln, M3, w1, w2, w3, w4, w5, ⟨na', ng', nr', ns', kn', w6⟩, w7⟩ | ⟨M3, w1, w2, w3⟩
    · -- right
      have y3 : gI y.1 3 = 0 := by rw [w2]; rfl
      have y4 : gI y.1 4 = -1 := by rw [w2]; rfl
      refine ok_t y3 ?_
      unfold fX11_beginAnew
      refine ok_bind (ok_bind (ok_mono (begin_of now _) (fun u hu => ok_lt (ok_lt (ok_lt (ok_lt (ok_some (ok_some ?_))))))))
      refine refB (ok_bindx eP (ok_bindx eM2 (ok_bindx ey' ?_)))
      subst w1
      have h36 : ∀ j, j < 3 → gA M3 36 (3 + j) = 0 ∨ gA M3 36 (3 + j) = 1 := fun j hj => by
        obtain ⟨_, _, _, _, _, _, l0, l1, l2⟩ := w6
        rcases (show j = 0 ∨ j = 1 ∨ j = 2 by omega) with rfl | rfl | rfl
        · exact l0.2.elim (fun z => Or.inl z.1) (fun z => Or.inr z.1)
        · exact l1.2.elim (fun z => Or.inl z.1) (fun z => Or.inr z.1)
        · exact l2.2.elim (fun z => Or.inl z.1) (fun z => Or.inr z.1)
      refine ok_el (fun a ea => ?_) (fun a ea => nomatch ea)
      obtain rfl := Sum.inl.inj ea
      refine ok_bind (ok_mono (keepText_of h36) (fun M4 hM => ok_some ?_))
      obtain ⟨M5, k5, rfl⟩ := hM
      refine ⟨w7, Or.inl ⟨na', ng', nr', ns', rfl, ?_⟩⟩
      have x3 := x2.tr (XF.P w3)
      exact CR.right w6 k5 h.mo.1 hu ⟨y3.trans ((w4.trans (i1 (by omega))).trans z4).symm, y4.trans ((w5.trans (i1 (by omega))).trans z5).symm⟩ ⟨rfl, (w3.1 1 (by unfold pI; omega)).trans ((i1 (by omega)).trans z1)⟩ (fun i hi => by unfold gA; rw [ek]; exact h.wo i hi) (fun i hi => by rw [x3.row (r := 3) (by omega)]; exact h.wm i hi)
    · -- wrong
      refine ok_f w3.ne (ok_some (refB (ok_bindx eP (ok_bindx eM2 (ok_bindx ey' ?_)))))
      subst w1
      refine ok_some ⟨rfl, Or.inr ⟨na, ng, nr, ns, rfl, ?_⟩⟩
      obtain ⟨c, f1, f2, f3, f4⟩ := w3
      have x3 := x2.tr (XF.P w2)
      exact h.wrong x3 rfl rfl ⟨f2.trans f3.symm, f4⟩ ⟨0, by omega, rfl, (w2.1 1 (by unfold pI; omega)).trans ((i1 (by omega)).trans z1), fun i hi => absurd hi (by omega)⟩ mo ek
