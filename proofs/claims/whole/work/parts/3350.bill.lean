/-! the best order of acts -/
theorem keepB_L {m : Nat} (hm : m < 7) : ∀ (d nf i : Nat) (u : St), i + d = m → d < nf → gI u 2 = nI m → ok (fX4_keepBest_L1 nf (nI i) u) (fun u' => u'.1 = u.1 ∧ (∀ r, r ≠ 1 → gA u' r = gA u r) ∧ (∀ j, j < i → gA u' 1 j = gA u 1 j) ∧ ∀ j, i ≤ j → j < m → gA u' 1 j = gA u 0 j)
  | 0, nf + 1, i, u, h, _, h2 => by
    rw [fX4_keepBest_L1, h2]
    exact ok_t (by rw [nI_leI (by omega) (by omega)]; omega) (ok_some ⟨rfl, fun _ _ => rfl, fun _ _ => rfl, fun j h1 h2 => absurd h1 (by omega)⟩)
  | d + 1, nf + 1, i, u, h, hf, h2 => by
    rw [fX4_keepBest_L1, h2, cl (show i < 2 ^ 31 by omega)]
    refine ok_f (by rw [nI_leI (by omega) (by omega)]; omega) (ok_f (kx (by omega) (by decide)) (ok_lt (ok_f (kx (by omega) (by decide)) (ok_lt (ok_lt ?_)))))
    rw [nI_1]
    refine ok_mono (keepB_L hm d nf (i + 1) _ (by omega) (by omega) h2) (fun u' hu => ?_)
    obtain ⟨a, b, c, e⟩ := hu
    refine ⟨a, fun r hr => (b r hr).trans (gA_sAr _ _ _ hr), fun j hj => ?_, fun j h1 h2 => ?_⟩
    · rw [c j (by omega), gA_idx _ _ _ _ (by omega)]
    · by_cases q : j = i
      · subst q; rw [c j (by omega), gA_same]
      · rw [e j (by omega) h2, gA_row _ _ _ _ (by decide)]
theorem keepB_of {m : Nat} {od : St} (hm : m < 7) (h2 : gI od 2 = nI m) : ok (fX4_keepBest od) (fun u' => u'.1 = od.1 ∧ (∀ r, r ≠ 1 → gA u' r = gA od r) ∧ ∀ j, j < m → gA u' 1 j = gA od 0 j) := by
  unfold fX4_keepBest
  refine ok_bind (ok_mono (keepB_L hm m fuel 0 od (by omega) (by rw [fuel_eq]; omega) h2) (fun u' hu => ok_some ?_))
  exact ⟨hu.1, hu.2.1, fun j hj => hu.2.2.2 j (by omega) hj⟩
theorem obeg_L {m : Nat} (hm : m < 7) : ∀ (d nf i : Nat) (u : St), i + d = m → d < nf → gI u 2 = nI m → gI u 3 = nI (fct i) → ok (fX4_begin_L1 nf (nI i) u) (fun u' => gI u' 2 = nI m ∧ gI u' 3 = nI (fct m) ∧ (∀ r j, j < i → gA u' r j = gA u r j) ∧ ∀ j, i ≤ j → j < m → gA u' 0 j = nI j ∧ gA u' 1 j = nI j)
  | 0, nf + 1, i, u, h, _, h2, h3 => by
    rw [fX4_begin_L1, h2]
    have e : i = m := by omega
    exact ok_t (by rw [nI_leI (by omega) (by omega)]; omega) (ok_some ⟨h2, by rw [← e]; exact h3, fun _ _ _ => rfl, fun j h1 h2 => absurd h1 (by omega)⟩)
  | d + 1, nf + 1, i, u, h, hf, h2, h3 => by
    rw [fX4_begin_L1, h2, cl (show i < 2 ^ 31 by omega)]
    refine ok_f (by rw [nI_leI (by omega) (by omega)]; omega) (ok_f (kx (by omega) (by decide)) (ok_lt (ok_f (kx (by omega) (by decide)) (ok_lt (ok_lt (ok_lt (ok_lt ?_)))))))
    rw [nI_1]
    have e3 : gI (sA (sA u 0 i (nI i)) 1 i (nI i)) 3 * nI (i + 1) = nI (fct (i + 1)) := by
      show gI u 3 * nI (i + 1) = _
      rw [h3, nI_mul, fct, Nat.mul_comm]
    rw [e3]
    refine ok_mono (obeg_L hm d nf (i + 1) _ (by omega) (by omega) h2 rfl) (fun u' hu => ?_)
    obtain ⟨a, b, c, e⟩ := hu
    refine ⟨a, b, fun r j hj => ?_, fun j h1 h2 => ?_⟩
    · rw [c r j (by omega)]
      show gA (sA (sA u 0 i (nI i)) 1 i (nI i)) r j = _
      rw [gA_idx _ _ _ _ (by omega), gA_idx _ _ _ _ (by omega)]
    · by_cases q : j = i
      · subst q
        rw [c 0 j (by omega), c 1 j (by omega)]
        show gA (sA (sA u 0 j (nI j)) 1 j (nI j)) 0 j = _ ∧ gA (sA (sA u 0 j (nI j)) 1 j (nI j)) 1 j = _
        rw [gA_same, gA_row _ _ _ _ (by decide), gA_same]
        exact ⟨rfl, rfl⟩
      · exact e j (by omega) h2
theorem obeg_of {m : Nat} {od : St} (hm : m < 7) : ok (fX4_begin od (nI m)) (fun u' => OD m 0 u' ∧ ∀ j, j < m → gA u' 1 j = nI (po m 0 j)) := by
  unfold fX4_begin
  have e : (if (6 : Int32) < nI m then (6 : Int32) else nI m) = nI m := by
    rw [if_neg]
    show ¬ nI 6 < nI m
    rw [nI_ltI (by omega) (by omega)]; omega
  rw [e]
  refine ok_lt (ok_lt (ok_lt (ok_bind (ok_mono (obeg_L hm m fuel 0 _ (by omega) (by rw [fuel_eq]; omega) rfl rfl) (fun u' hu => ok_some ?_)))))
  obtain ⟨a, b, _, c⟩ := hu
  refine ⟨⟨a, b, fun i hi => ?_⟩, fun i hi => ?_⟩
  · rw [po_0 m hm i hi]; exact (c i (by omega) hi).1
  · rw [po_0 m hm i hi]; exact (c i (by omega) hi).2
/-! bill -/
def b4 (na : Nat) : Nat := min na 4
theorem b4_c {na : Nat} (h : na ≤ 6) : (if (4 : Int32) < nI na then (4 : Int32) else nI na) = nI (b4 na) := by
  unfold b4
  show (if nI 4 < nI na then (4 : Int32) else nI na) = _
  by_cases q : 4 < na
  · rw [if_pos ((nI_ltI (a := 4) (b := na) (by omega) (by omega)).mpr q), Nat.min_eq_right (by omega)]; rfl
  · rw [if_neg (fun z => q ((nI_ltI (a := 4) (b := na) (by omega) (by omega)).mp z)), Nat.min_eq_left (by omega)]
theorem b4_m {M : St} {na : Nat} (h : na ≤ 6) (e : gI M 12 = nI na) : fX12_billMany M = nI (b4 na) := by
  unfold fX12_billMany b4
  rw [e]
  simp only [lt_eq]
  show (if nI 4 ≤ nI na then (4 : Int32) else nI na) = _
  by_cases q : 4 ≤ na
  · rw [if_pos ((nI_leI (a := 4) (b := na) (by omega) (by omega)).mpr q), Nat.min_eq_right (by omega)]; rfl
  · rw [if_neg (fun z => q ((nI_leI (a := 4) (b := na) (by omega) (by omega)).mp z)), Nat.min_eq_left (by omega)]
theorem gb_L {od ml : St} {na ng nr ns m : Nat} {p : Nat → Nat} (hm : m = b4 na) (hp : ∀ j, j < m → p j < na) (ho : ∀ j, j < m → gA od 0 j = nI (p j)) : ∀ (d nf nf2 i : Nat) (nm u : St) (T : Nat → St) (M : St), i + d = m → d < nf → d < nf2 → TR T M na ng nr ns → HR u M 1 na ng nr → MR ml M → gI M 65 = 0 → (∀ j, j < m → gA M 74 j = nI (p j)) → ok (fX11_groundByBill_L1 od (nI m) ml nf (nI i) nm u T) (fun y => ok (fX12_groundBy_L1 nf2 (nI i) M) (fun M' => fT T y.2.2 ∧ HR y.2.1 M' 1 na ng nr ∧ QF M M'))
  | 0, nf + 1, nf2 + 1, i, nm, u, T, M, h, _, _, hT, hH, hR, h65, h74 => by
    have h6 := hT.1.1.1
    have m4 : m ≤ 4 := by rw [hm]; exact Nat.min_le_right _ _
    have q : nI m ≤ nI i := by rw [nI_leI (by omega) (by omega)]; omega
    rw [fX11_groundByBill_L1, fX12_groundBy_L1, b4_m h6 hT.1.2.2.1, ← hm]
    exact ok_t q (ok_some (ok_t q (ok_some ⟨fT.rf, hH, QF.rf⟩)))
  | d + 1, nf + 1, nf2 + 1, i, nm, u, T, M, h, g1, g2, hT, hH, hR, h65, h74 => by
    have h6 := hT.1.1.1
    have m4 : m ≤ 4 := by rw [hm]; exact Nat.min_le_right _ _
    have q : ¬ nI m ≤ nI i := by rw [nI_leI (by omega) (by omega)]; omega
    have hi : i < m := by omega
    have c6 : ¬ (nI i < 0 ∨ 6 ≤ i) := kx (by omega) (by decide)
    have hpi := hp i hi
    obtain ⟨_, _, e3, _, k, k1, k2, ek⟩ := hT.2.1 (p i) hpi
    have em : gA (T 1) 3 (p i) = nI k := e3.trans ek
    rw [fX11_groundByBill_L1, fX12_groundBy_L1, b4_m h6 hT.1.2.2.1, ← hm, cl (show i < 2 ^ 31 by omega), ho i hi]
    refine ok_f q (ok_f c6 (ok_lt (ok_bindx (minutesOf_eq hT.1.2.1.1 hpi h6) (ok_lt (ok_bindx (minutesOf_eq hT.1.2.1.1 hpi h6) ?_)))))
    rw [em]
    have f1 : FR 1 M (sA (sA M 53 1 (nI (p i))) 54 1 (nI k)) := (FR.wA (r := 53) (by decide) (by decide) (hfl (by decide))).tr (FR.wA (by decide) (by decide) (hfl (by decide)))
    have hw : HR (sI (sI u 2 (nI (p i))) 3 (nI k)) (sA (sA M 53 1 (nI (p i))) 54 1 (nI k)) 1 na ng nr := hH.won (Or.inr ⟨p i, hpi, rfl, k, k1, k2, rfl⟩)
    refine ok_bind (ok_mono (go1 (nm := nm) (n := k) (by omega) (hT.fr f1) hw (hR.fr f1) (fun z => absurd (h65.symm.trans z) (by decide))) (fun r hr => ok_lt ?_))
    obtain ⟨M2, eM2, kk⟩ := hr
    rw [nI_1]
    have q2 : QF M M2 := (QF.FR f1 rfl).tr (it_Q kk h65)
    have r74 : gA M2 74 = gA M 74 := (kk.2.1.A (by omega)).trans (f1.A (by omega))
    refine ok_mono (gb_L hm hp ho d nf nf2 (i + 1) r.1 r.2.2 r.2.1 M2 (by omega) (by omega) (by omega) ((hT.fT kk.1).Q q2) kk.2.2.1 ((hR.fr f1).fr kk.2.1) ((kk.2.1.I (by decide)).trans h65) (fun j hj => by rw [r74]; exact h74 j hj)) (fun y hy => ?_)
    have a74 : gA M 74 i = nI (p i) := h74 i hi
    have a1 : gA (sA M 53 1 (nI (p i))) 74 i = nI (p i) := (gA_row _ _ _ _ (by decide)).trans a74
    have a2 : gA (sA M 53 1 (nI (p i))) 26 (p i) = nI k := (gA_row _ _ _ _ (by decide)).trans ek
    have a3 : gA (sA (sA M 53 1 (nI (p i))) 54 1 (nI k)) 74 i = nI (p i) := (gA_row _ _ _ _ (by decide)).trans a1
    have a4 : gA (sA (sA M 53 1 (nI (p i))) 54 1 (nI k)) 26 (p i) = nI k := (gA_row _ _ _ _ (by decide)).trans a2
    refine ok_f q (ok_f c6 (ok_lt ?_))
    rw [a74]
    refine ok_lt (ok_f c6 ?_)
    rw [a1, cl (show p i < 2 ^ 31 by omega), a2]
    have c12 : ¬ (nI (p i) < 0 ∨ 12 ≤ p i) := kx (by omega) (by decide)
    refine ok_f c12 (ok_lt (ok_lt (ok_f c6 ?_)))
    rw [a3, cl (show p i < 2 ^ 31 by omega), a4]
    refine ok_f c12 (ok_bindx eM2 (ok_lt (ok_mono hy (fun M' hM => ⟨kk.1.tr hM.1, hM.2.1, q2.tr hM.2.2⟩))))
theorem gBy_of {T : Nat → St} {mn ml nm now trial od M : St} {na ng nr ns c : Nat} (hT : TR T M na ng nr ns) (hH : HR now M 0 na ng nr) (ho : OD (b4 na) c od) (hc : c < fct (b4 na)) : ok (fX11_groundByBill mn ml nm now trial od T (nI (b4 na))) (fun r => ok (fX12_groundBy M (nI c)) (fun r' => r.1 = r'.1 ∧ fT T r.2.2.2.2 ∧ QF M r'.2)) := by
  have h6 := hT.1.1.1
  have m4 : b4 na ≤ 4 := Nat.min_le_right _ _
  have mn4 : b4 na ≤ na := Nat.min_le_left _ _
  unfold fX11_groundByBill fX12_groundBy
  refine ok_bind (ok_mono (start_of hT hH) (fun r1 hr1 => ok_lt (ok_bind ?_)))
  obtain ⟨e1, _, M1, eM1, t1, t2, t3, t4, t5⟩ := hr1
  obtain ⟨M2, eM2, f, h74⟩ := layOrder_of (M := M1) (m := b4 na) (by omega) hc
  have q3 : QF M1 (sI M2 70 1) := f.F.tr (QF.fl (by decide) (by decide))
  have hT3 := t2.Q q3
  have hH3 : HR r1.2 (sI M2 70 1) 1 na ng nr := t3.M (f.2.2 33 (by decide)) (fun r i h1 h2 _ => by
    show gA M2 r i = _
    rw [f.2.2 r (by omega)])
  have hI : ∀ k, gI M2 k = gI M1 k := fun k => congrFun f.1 k
  have hR3 : MR (sI r1.1 3 0) (sI M2 70 1) := by
    obtain ⟨a2, a3, a4, a5, a6, a7, a8, a9⟩ := t4
    refine ⟨?_, Or.inr ⟨rfl, rfl⟩, ?_, ?_, ?_, ?_, ?_, ?_⟩
    · show ((gI r1.1 2 = 0 ∧ gI M2 65 = 0 ∧ gI M2 66 = 0 ∧ gI M2 67 = 0) ∨ (gI r1.1 2 = 1 ∧ gI M2 65 = 1 ∧ gI M2 66 = 0 ∧ gI M2 67 = 0) ∨ (gI r1.1 2 = 2 ∧ gI M2 65 = 0 ∧ gI M2 66 = 1 ∧ gI M2 67 = 0) ∨ (gI r1.1 2 = 3 ∧ gI M2 65 = 0 ∧ gI M2 66 = 0 ∧ gI M2 67 = 1))
      rw [hI, hI, hI]; exact a2
    · show gI r1.1 4 = gI M2 71
      rw [hI]; exact a4
    · show (gI r1.1 5 = 1 ∧ gI M2 68 = 0) ∨ (gI r1.1 5 = 0 ∧ gI M2 68 = 1)
      rw [hI]; exact a5
    · show gI r1.1 6 = gI M2 69
      rw [hI]; exact a6
    · show gI r1.1 7 = gI M2 72
      rw [hI]; exact a7
    · show gI r1.1 8 = gI M2 73
      rw [hI]; exact a8
    · show nn (gI M2 73) 0 9
      rw [hI]; exact a9
  have hpo : ∀ j, j < b4 na → po (b4 na) c j < na := fun j hj => by
    obtain ⟨_, _, z⟩ := lay_z (m := b4 na) (by omega) hc
    have := (z j hj).2
    omega
  refine ok_mono (gb_L (p := po (b4 na) c) rfl hpo ho.2.2 (b4 na) fuel fuel 0 nm r1.2 T (sI M2 70 1) (by omega) (by rw [fuel_eq]; omega) (by rw [fuel_eq]; omega) hT3 hH3 hR3 ((hI 65).trans t5) h74) (fun y hy => ok_some ?_)
  refine ok_bindx eM1 ?_
  rw [b4_m h6 t2.1.2.2.1]
  refine ok_bindx eM2 (ok_lt (ok_bind (ok_mono hy (fun M' hM => ok_bindx (groundAll_eq (b := 1) (by decide)) (ok_some ⟨gAll_HR hM.2.1, hM.1, t1.tr (q3.tr hM.2.2)⟩)))))
theorem bill_L {mn now : St} {na ng nr ns m : Nat} (hm : m = b4 na) : ∀ (d nf nf2 k b : Nat) (most : Int32) (ml nm trial od : St) (T : Nat → St) (M : St), k + d = fct m → d < nf → d < nf2 → 1 ≤ k → b < fct m → TR T M na ng nr ns → HR now M 0 na ng nr → gI od 2 = nI m → gI od 3 = nI (fct m) → (k < fct m → OD m k od) → (∀ i, i < m → gA od 1 i = nI (po m b i)) → ok (fX11_bill_L1 mn now (nI m) nf most (nI k) ml nm trial od T) (fun y => ∃ b', b' < fct m ∧ (∀ i, i < m → gA y.2.2.2.2.1 1 i = nI (po m b' i)) ∧ fT T y.2.2.2.2.2 ∧ ok (fX12_bill_L1 nf2 (nI b) most (nI k) M) (fun y' => y'.1 = nI b' ∧ y.1 = y'.2.1 ∧ QF M y'.2.2))
  | 0, nf + 1, nf2 + 1, k, b, most, ml, nm, trial, od, T, M, h, _, _, hk, hb, hT, hH, o2, o3, oc, ob => by
    have m4 : m ≤ 4 := by rw [hm]; exact Nat.min_le_right _ _
    have f7 := fct_le m (by omega)
    have q : nI (fct m) ≤ nI k := by rw [nI_leI (by omega) (by omega)]; omega
    rw [fX11_bill_L1, fX12_bill_L1, o3, b4_m hT.1.1.1 hT.1.2.2.1, ← hm, ordersOf_d m (by omega)]
    exact ok_t q (ok_some ⟨b, hb, ob, fT.rf, ok_bind (ok_some (ok_t q (ok_some ⟨rfl, rfl, QF.rf⟩)))⟩)
  | d + 1, nf + 1, nf2 + 1, k, b, most, ml, nm, trial, od, T, M, h, g1, g2, hk, hb, hT, hH, o2, o3, oc, ob => by
    have m4 : m ≤ 4 := by rw [hm]; exact Nat.min_le_right _ _
    have f7 := fct_le m (by omega)
    have kf : k < fct m := by omega
    have q : ¬ nI (fct m) ≤ nI k := by rw [nI_leI (by omega) (by omega)]; omega
    rw [fX11_bill_L1, fX12_bill_L1, o3, b4_m hT.1.1.1 hT.1.2.2.1, ← hm, ordersOf_d m (by omega)]
    have n0 : ¬ nI k = 0 := fun z => by
      have := (nI_eq (a := k) (b := 0) (by omega) (by omega)).mp z; omega
    have gB := gBy_of (mn := mn) (ml := ml) (nm := nm) (trial := trial) (od := od) (c := k) hT hH (by rw [← hm]; exact oc kf) (by rw [← hm]; exact kf)
    rw [← hm] at gB
    refine ok_f q (ok_bind (ok_mono gB (fun r16 hr => ok_lt (ok_lt (ok_lt (ok_f n0 ?_))))))
    obtain ⟨r', er', e1, e2, e3⟩ := hr
    have nxt : ∀ (b2 : Nat) (w : Int32) (od2 : St), b2 < fct m → OD m k od2 → (∀ i, i < m → gA od2 1 i = nI (po m b2 i)) → ok ((fX4_turnToNext od2).bind fun r22 => lt (nI k + 1) fun x24 => fX11_bill_L1 mn now (nI m) nf w x24 r16.2.1 r16.2.2.1 r16.2.2.2.1 r22 r16.2.2.2.2) (fun y => ∃ b', b' < fct m ∧ (∀ i, i < m → gA y.2.2.2.2.1 1 i = nI (po m b' i)) ∧ fT T y.2.2.2.2.2 ∧ ok (lt (nI k + 1) fun x19 => fX12_bill_L1 nf2 (nI b2) w x19 r'.2) (fun y' => y'.1 = nI b' ∧ y.1 = y'.2.1 ∧ QF M y'.2.2)) := by
      intro b2 w od2 hb2 ho2 hb3
      refine ok_bind (ok_mono (onext_of (by omega) kf ho2) (fun od3 ho3 => ok_lt ?_))
      obtain ⟨p1, p2, p3, p4⟩ := ho3
      rw [nI_1]
      refine ok_mono (bill_L hm d nf nf2 (k + 1) b2 w r16.2.1 r16.2.2.1 r16.2.2.2.1 od3 r16.2.2.2.2 r'.2 (by omega) (by omega) (by omega) (by omega) hb2 ((hT.fT e2).Q e3) (hH.Q e3) p2 p3 p4 (fun i hi => by rw [p1.2 1 (by decide)]; exact hb3 i hi)) (fun y hy => ?_)
      obtain ⟨b', c1, c2, c3, c4⟩ := hy
      exact ⟨b', c1, c2, e2.tr c3, ok_lt (ok_mono c4 (fun y' hy' => ⟨hy'.1, hy'.2.1, e3.tr hy'.2.2⟩))⟩
    refine ok_if (fun c => ?_) (fun c => ?_)
    · refine ok_mono (nxt b most od hb (oc kf) ob) (fun y hy => ?_)
      obtain ⟨b', c1, c2, c3, c4⟩ := hy
      refine ⟨b', c1, c2, c3, ok_bind (ok_some (ok_f q (ok_bindx er' (ok_lt (ok_lt (ok_f ?_ c4))))))⟩
      rw [← e1]; exact (le_nlt _ _).mp c
    · refine ok_bind (ok_mono (keepB_of (by omega) o2) (fun od2 ho2 => ?_))
      have hod := oc kf
      have od2k : OD m k od2 := ⟨(congrFun ho2.1 2).trans hod.1, (congrFun ho2.1 3).trans hod.2.1, fun i hi => by rw [ho2.2.1 0 (by decide)]; exact hod.2.2 i hi⟩
      refine ok_mono (nxt k r16.1 od2 kf od2k (fun i hi => by rw [ho2.2.2 i hi]; exact hod.2.2 i hi)) (fun y hy => ?_)
      obtain ⟨b', c1, c2, c3, c4⟩ := hy
      refine ⟨b', c1, c2, c3, ok_bind (ok_some (ok_f q (ok_bindx er' (ok_lt (ok_lt (ok_t ?_ ?_))))))⟩
      · rw [← e1]
        rcases Classical.em (most < r16.1) with z | z
        · exact z
        · exact absurd ((le_nlt _ _).mpr z) c
      · rw [← e1]; exact c4
def blR2 (T : Nat → St) (M : St) (r : Int32 × St × St × St × St × (Nat → St)) (r' : Int32 × St) : Prop := r.1 = r'.1 ∧ fT T r.2.2.2.2.2 ∧ QF M r'.2
theorem bill_of {T : Nat → St} {mn ml nm now trial od M : St} {na ng nr ns : Nat} {x : Int32} (hT : TR T M na ng nr ns) (hH : HR now M 0 na ng nr) : ok (fX11_bill mn ml nm now trial od T x) (fun r => ok (fX12_bill M x) (fun r' => blR2 T M r r')) := by
  have h6 := hT.1.1.1
  have m4 : b4 na ≤ 4 := Nat.min_le_right _ _
  have hT1 : TR T (sI M 2 0) na ng nr ns := hT.Q QF.th
  have hH1 : HR now (sI M 2 0) 0 na ng nr := hH.Q QF.th
  have fp := fct_pos (b4 na) (by omega)
  have f7 := fct_le (b4 na) (by omega)
  unfold fX11_bill fX12_bill
  rw [hT.1.2.1.1, b4_c h6]
  have eb : fX12_billMany (sI M 2 0) = nI (b4 na) := b4_m h6 hT1.1.2.2.1
  refine ok_lt ?_
  rcases in_or x (N := 4) (by decide) with h0 | ⟨h0, h1⟩ | ⟨h0, h1, n, hn, rfl⟩
  · exact ok_t h0 (ok_some (ok_lt (ok_t (isIn_0 (Or.inl h0)) (ok_some ⟨rfl, fT.rf, QF.th⟩))))
  · exact ok_f h0 (ok_f (fun q => (le_nlt _ _).mp q h1) (ok_some (ok_lt (ok_t (isIn_0 (Or.inr h1)) (ok_some ⟨rfl, fT.rf, QF.th⟩)))))
  · have in1 : ¬ fX12_isIn (nI n) 0 4 = 0 := by rw [isIn_1 (c := 4) h0 h1]; exact i10
    refine ok_f h0 (ok_t ((le_nlt _ _).mpr h1) (ok_lt ?_))
    have main : (n = 4 ∨ n < b4 na) → ok ((fX4_begin od (nI (b4 na))).bind fun r5 => (fX11_bill_L1 mn now (nI (b4 na)) fuel (0 : Int32) (0 : Int32) ml nm trial r5 T).bind (fun y30 => if nI n = (4 : Int32) then (some (y30.1, y30.2.1, y30.2.2.1, y30.2.2.2.1, y30.2.2.2.2.1, y30.2.2.2.2.2)) else if nI n < 0 ∨ 6 ≤ (nI n).toNatClampNeg then none else some ((gA y30.2.2.2.2.1 1 (nI n).toNatClampNeg), y30.2.1, y30.2.2.1, y30.2.2.2.1, y30.2.2.2.2.1, y30.2.2.2.2.2))) (fun r => ok ((fX12_groundBy (sI M 2 0) (0 : Int32)).bind fun r4 => lt r4.1 fun x6 => (fX12_bill_L1 fuel (0 : Int32) x6 (1 : Int32) (r4.2)).bind (fun y21 => lt (fX12_plainTried y21.2.2) fun r22 => (fX12_layOrder r22 y21.1 (fX12_billMany r22)).bind fun r24 => if nI n = (4 : Int32) then (some (y21.2.1, r24)) else if nI n < 0 ∨ 6 ≤ (nI n).toNatClampNeg then none else some ((gA r24 74 (nI n).toNatClampNeg), r24))) (fun r' => blR2 T M r r')) := by
      intro hn4
      refine ok_bind (ok_mono (obeg_of (od := od) (m := b4 na) (by omega)) (fun r5 hr5 => ?_))
      obtain ⟨o0, ob0⟩ := hr5
      obtain ⟨g, eg, r', er', e1, e2, e3⟩ := gBy_of (mn := mn) (ml := ml) (nm := nm) (trial := trial) (od := r5) (c := 0) hT1 hH1 o0 (by omega)
      obtain ⟨od2, eo2, k1, k2, k3⟩ := keepB_of (od := r5) (m := b4 na) (by omega) o0.1
      have od2k : OD (b4 na) 0 od2 := ⟨(congrFun k1 2).trans o0.1, (congrFun k1 3).trans o0.2.1, fun i hi => by rw [k2 0 (by decide)]; exact o0.2.2 i hi⟩
      obtain ⟨od3, eo3, p1, p2, p3, p4⟩ := onext_of (m := b4 na) (c := 0) (by omega) (by omega) od2k
      obtain ⟨y, ey, b', c1, c2, c3, y', ey', c4, c5, c6⟩ := bill_L (mn := mn) (now := now) (m := b4 na) rfl (fct (b4 na) - 1) 999 fuel 1 0 g.1 g.2.1 g.2.2.1 g.2.2.2.1 od3 g.2.2.2.2 r'.2 (by omega) (by omega) (by rw [fuel_eq]; omega) (by omega) (by omega) ((hT1.fT e2).Q e3) (hH1.Q e3) p2 p3 p4 (fun i hi => by rw [p1.2 1 (by decide), k3 i hi]; exact o0.2.2 i hi)
      have e0 : fX11_bill_L1 mn now (nI (b4 na)) fuel 0 0 ml nm trial r5 T = some y := by
        show fX11_bill_L1 mn now (nI (b4 na)) (999 + 1) 0 0 ml nm trial r5 T = some y
        rw [fX11_bill_L1, o0.2.1]
        refine fn ?_ (bd_c eg (lt_c (lt_c (lt_c (tp rfl (bd_c eo2 (bd_c eo3 (lt_c ey))))))))
        show ¬ nI (fct (b4 na)) ≤ nI 0
        rw [nI_leI (by omega) (by omega)]; omega
      refine ok_bindx e0 ?_
      have hp := plain_of y'.2.2
      have q2 : QF M (fX12_plainTried y'.2.2) := QF.th.tr (e3.tr (c6.tr hp.1))
      have hT9 := hT.Q q2
      obtain ⟨M9, eM9, f9, h9⟩ := layOrder_of (M := fX12_plainTried y'.2.2) (m := b4 na) (c := b') (by omega) c1
      have pre : ∀ {F : St → Option (Int32 × St)} {Q : Int32 × St → Prop}, ok (F M9) Q → ok ((fX12_groundBy (sI M 2 0) (0 : Int32)).bind fun r4 => lt r4.1 fun x6 => (fX12_bill_L1 fuel (0 : Int32) x6 (1 : Int32) (r4.2)).bind (fun y21 => lt (fX12_plainTried y21.2.2) fun r22 => (fX12_layOrder r22 y21.1 (fX12_billMany r22)).bind fun r24 => F r24)) Q := by
        intro F Q hF
        refine ok_bindx er' (ok_lt ?_)
        rw [← e1]
        refine ok_bindx ey' (ok_lt ?_)
        rw [c4, b4_m h6 hT9.1.2.2.1]
        exact ok_bindx eM9 hF
      have q3 : QF M M9 := q2.tr f9.F
      by_cases z : nI n = (4 : Int32)
      · refine ok_t z (ok_some ?_)
        refine ok_bindx er' (ok_lt ?_)
        rw [← e1]
        refine ok_bindx ey' (ok_lt ?_)
        rw [c4, b4_m h6 hT9.1.2.2.1]
        exact ok_bindx eM9 (ok_t z (ok_some ⟨c5, e2.tr c3, q3⟩))
      · have nb : n < b4 na := by
          rcases hn4 with q | q
          · exact absurd (by rw [q]; rfl) z
          · exact q
        have c6' : ¬ (nI n < 0 ∨ 6 ≤ n) := kx (by omega) (by decide)
        rw [cl (show n < 2 ^ 31 by omega)]
        refine ok_f z (ok_f c6' (ok_some ?_))
        refine ok_bindx er' (ok_lt ?_)
        rw [← e1]
        refine ok_bindx ey' (ok_lt ?_)
        rw [c4, b4_m h6 hT9.1.2.2.1]
        refine ok_bindx eM9 (ok_f z (ok_f c6' (ok_some ⟨?_, e2.tr c3, q3⟩)))
        show gA y.2.2.2.2.1 1 n = gA M9 74 n
        rw [c2 n nb, h9 n nb]
    by_cases z4 : (4 : Int32) ≤ nI n
    · have : n = 4 := by
        have := (nI_leI (a := 4) (b := n) (by omega) (by omega)).mp z4; omega
      exact ok_t z4 (ok_mono (main (Or.inl this)) (fun r hr => ok_lt (ok_f in1 (ok_lt (ok_t z4 hr)))))
    · refine ok_f z4 (ok_if (fun c => ok_mono (main (Or.inr ((nI_ltI (by omega) (by omega)).mp c))) (fun r hr => ok_lt (ok_f in1 (ok_lt (ok_f z4 (ok_t (by rw [eb]; exact c) hr)))))) (fun c => ok_some (ok_lt (ok_f in1 (ok_lt (ok_f z4 (ok_f (by rw [eb]; exact c) (ok_some ⟨rfl, fT.rf, QF.th⟩))))))))
