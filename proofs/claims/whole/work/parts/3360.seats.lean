/-! the best seats -/
theorem fillR_L {n : Nat} {x : Int32} (hn : n < 900) : ∀ (d nf i : Nat) (u : St), i + d = n → d < nf → ok (fJ7_fill_53178_L1 n x (nI n) nf (nI i) u) (fun u' => (∀ j, j < i → gA u' 0 j = gA u 0 j) ∧ ∀ j, i ≤ j → j < n → gA u' 0 j = x)
  | 0, nf + 1, i, u, h, _ => by
    rw [fJ7_fill_53178_L1]
    exact ok_t (by rw [nI_leI (by omega) (by omega)]; omega) (ok_some ⟨fun _ _ => rfl, fun j h1 h2 => absurd h1 (by omega)⟩)
  | d + 1, nf + 1, i, u, h, hf => by
    rw [fJ7_fill_53178_L1, cl (show i < 2 ^ 31 by omega)]
    refine ok_f (by rw [nI_leI (by omega) (by omega)]; omega) (ok_f (kx (by omega) (by omega)) (ok_lt (ok_lt ?_)))
    rw [nI_1]
    refine ok_mono (fillR_L hn d nf (i + 1) _ (by omega) (by omega)) (fun u' hu => ⟨fun j hj => ?_, fun j h1 h2 => ?_⟩)
    · rw [hu.1 j (by omega), gA_idx _ _ _ _ (by omega)]
    · by_cases q : j = i
      · subst q; rw [hu.1 j (by omega), gA_same]
      · exact hu.2 j (by omega) h2
theorem fillR_of {u : St} {x : Int32} : ok (fJ7_fill_53178 114 u x) (fun u' => ∀ j, j < 114 → gA u' 0 j = x) := by
  unfold fJ7_fill_53178
  exact ok_lt (ok_bind (ok_mono (fillR_L (by omega) 114 fuel 0 u (by omega) (by rw [fuel_eq]; omega)) (fun u' hu => ok_some (fun j hj => hu.2 j (by omega) hj))))
/-- a clap, whatever the reference's scratch rows hold -/
def clV (T : Nat → St) (ml now : St) (a g : Nat) (b e : Int32) : Prop := c9 e ∧ ∀ (M : St) (na ng nr ns : Nat), a < na → g < ng → TR T M na ng nr ns → HR now M 0 na ng nr → MR ml M → ok (fX12_clapOf M 0 (nI g) (nI a) b) (fun r' => r'.1 = e ∧ fN M r'.2)
theorem clV.T {T T' : Nat → St} {ml now : St} {a g : Nat} {b e : Int32} (h : clV T ml now a g b e) (k : fT T T') : clV T' ml now a g b e := ⟨h.1, fun M na ng nr ns ha hg hT hH hR => h.2 M na ng nr ns ha hg (hT.fT k.sy) hH hR⟩
def CW (T : Nat → St) (ml now crow : St) (a : Nat) : Prop := ∀ g k, g < 6 → k ≤ 18 → gA crow 0 (g * 19 + k) = 100 ∨ clV T ml now a g (nI k - 9) (gA crow 0 (g * 19 + k))
theorem CW.T {T T' : Nat → St} {ml now crow : St} {a : Nat} (h : CW T ml now crow a) (k : fT T T') : CW T' ml now crow a := fun g j h1 h2 => by
  rcases h g j h1 h2 with q | q
  · exact Or.inl q
  · exact Or.inr (q.T k)
theorem c9_k {b : Int32} (h : c9 b) : ∃ k, k ≤ 18 ∧ b = nI k - 9 := by
  obtain ⟨h1, h2⟩ := h
  refine ⟨(b.toInt + 9).toNat, by omega, ?_⟩
  rw [i_eq]
  have e : (nI (b.toInt + 9).toNat).toInt = b.toInt + 9 := by rw [nIi (by omega)]; omega
  rw [fb_subI (by rw [e, show (9 : Int32).toInt = 9 from rfl]; omega) (by rw [e, show (9 : Int32).toInt = 9 from rfl]; omega), e, show (9 : Int32).toInt = 9 from rfl]
  omega
theorem clap_v {T : Nat → St} {ml nm now M : St} {na ng nr ns a g : Nat} {b : Int32} (hl : gI ml 4 = -1) (hl7 : gI ml 7 = -1) (ha : a < na) (hg : g < ng) (hT : TR T M na ng nr ns) (hH : HR now M 0 na ng nr) (hR : MR ml M) : ok (fX8_mood T (nI a)) (fun m => ok (fX2_clapOf 7 ml nm T now (nI g) m b) (fun r => fT T r.2.2 ∧ clV T ml now a g b r.1)) := by
  have h6 := hT.1.1.1
  refine ok_eq (mood_eq hT.1.2.1.1 ha h6) ?_
  have key : ∀ (M' : St) (na' ng' nr' ns' : Nat), a < na' → g < ng' → TR T M' na' ng' nr' ns' → HR now M' 0 na' ng' nr' → MR ml M' → ok (fX2_clapOf 7 ml nm T now (nI g) (gA (T 1) 2 a) b) (fun r => ok (fX12_clapOf M' 0 (nI g) (nI a) b) (fun r' => clR T M' r r')) := by
    intro M' na' ng' nr' ns' ha' hg' hT' hH' hR'
    obtain ⟨_, e2, _, n9, _⟩ := hT'.2.1 a ha'
    have h6' := hT'.1.1.1
    have g6' := hT'.1.1.2.1
    have m71 : gI M' 71 = -1 := hR'.2.2.1.symm.trans hl
    have m72 : gI M' 72 = -1 := hR'.2.2.2.2.2.1.symm.trans hl7
    have hm : fX12_moodNow M' (nI a) = some (gA (T 1) 2 a) := by
      unfold fX12_moodNow
      rw [m72, cl (show a < 2 ^ 31 by omega), e2]
      exact tp (nI_pos' (by omega)) (fn (nI_nn (by omega)) (fn (kx (by omega) (by decide)) rfl))
    exact clap_of (b := 0) (by decide) hT' hH' hR' hg' (by rw [m71]; exact nI_nn (by omega)) hm (by rw [e2]; exact n9)
  obtain ⟨r, er, r', er', k1, k2, k3, k4⟩ := key M na ng nr ns ha hg hT hH hR
  refine ok_eq er ⟨k3, k2, fun M' na' ng' nr' ns' ha' hg' hT' hH' hR' => ?_⟩
  obtain ⟨r2, er2, r2', er2', j1, j2, j3, j4⟩ := key M' na' ng' nr' ns' ha' hg' hT' hH' hR'
  have e : r2 = r := Option.some.inj (er2.symm.trans er)
  subst e
  exact ok_eq er2' ⟨j1.symm, j4⟩
theorem i100 {e : Int32} (h : c9 e) : ¬ e = 100 := fun q => by
  have := h.2
  rw [q] at this
  exact absurd this (by decide)
theorem beside_of {T : Nat → St} {mn crow ml nm now M : St} {na ng nr ns a g : Nat} {b : Int32} (hl : gI ml 4 = -1) (hl7 : gI ml 7 = -1) (ha : a < na) (hg : g < ng) (hb : c9 b) (hT : TR T M na ng nr ns) (hH : HR now M 0 na ng nr) (hR : MR ml M) (hC : CW T ml now crow a) : ok (fX11_clapBeside mn crow ml nm now T (nI a) (nI g) b) (fun r => fT T r.2.2.2 ∧ CW T ml now r.2.1 a ∧ clV T ml now a g b r.1) := by
  have g6 := hT.1.1.2.1
  obtain ⟨k, hk, rfl⟩ := c9_k hb
  have e : ((nI g * (19 : Int32)) + (nI k - 9)) + 9 = nI (g * 19 + k) := by
    rw [Int32.add_assoc, Int32.sub_add_cancel, show (19 : Int32) = nI 19 from rfl, nI_mul, nI_add]
  unfold fX11_clapBeside
  rw [e]
  refine ok_lt ?_
  rw [cl (show g * 19 + k < 2 ^ 31 by omega)]
  have c0 : ¬ (nI (g * 19 + k) < 0 ∨ 114 ≤ g * 19 + k) := kx (by omega) (by decide)
  refine ok_f (nI_pos (by omega)) (ok_t (show nI (g * 19 + k) < nI 114 by rw [nI_ltI (by omega) (by omega)]; omega) (ok_f c0 (ok_lt ?_)))
  refine ok_if (fun c => ?_) (fun c => ok_f c0 (ok_some ⟨fT.rf, hC, ?_⟩))
  · obtain ⟨m, em, r, er, k1, k2⟩ := clap_v (nm := nm) (b := nI k - 9) hl hl7 ha hg hT hH hR
    refine ok_bindx em (ok_bindx er (ok_lt (ok_f c0 (ok_lt (ok_f c0 (ok_some ⟨k1, fun g' k' h1 h2 => ?_, ?_⟩))))))
    · show gA (sA crow 0 (g * 19 + k) r.1) 0 (g' * 19 + k') = 100 ∨ clV T ml now a g' (nI k' - 9) (gA (sA crow 0 (g * 19 + k) r.1) 0 (g' * 19 + k'))
      by_cases q : g' * 19 + k' = g * 19 + k
      · have e1 : g' = g := by omega
        have e2 : k' = k := by omega
        subst e1 e2
        rw [gA_same]
        exact Or.inr k2
      · rw [gA_idx _ _ _ _ q]
        exact hC g' k' h1 h2
    · show clV T ml now a g (nI k - 9) (gA (sA crow 0 (g * 19 + k) r.1) 0 (g * 19 + k))
      rw [gA_same]
      exact k2
  · rcases hC g k (by omega) hk with q | q
    · exact absurd q c
    · exact q
theorem sumS_L {mn ml now od : St} {na ng nr ns a : Nat} {p : Nat → Nat} (hl : gI ml 4 = -1) (hl7 : gI ml 7 = -1) (ha : a < na) (hp : ∀ j, j < ng → p j < ng) (ho : ∀ j, j < ng → gA od 0 j = nI (p j)) : ∀ (d nf nf2 i : Nat) (s b : Int32) (crow nm : St) (T : Nat → St) (M : St), i + d = ng → d < nf → d < nf2 → c9 b → TR T M na ng nr ns → HR now M 0 na ng nr → MR ml M → CW T ml now crow a → (∀ j, j < ng → gA M 74 j = nI (p j)) → ok (fX11_sumBySeats_L1 mn ml now od (nI a) (nI ng) nf s b (nI i) crow nm T) (fun y => fT T y.2.2.2 ∧ CW T ml now y.2.1 a ∧ ok (fX12_sumBy_L1 (nI a) nf2 s b (nI i) M) (fun y' => y.1 = y'.1 ∧ fN M y'.2))
  | 0, nf + 1, nf2 + 1, i, s, b, crow, nm, T, M, h, _, _, hb, hT, hH, hR, hC, h74 => by
    have g6 := hT.1.1.2.1
    have q : nI ng ≤ nI i := by rw [nI_leI (by omega) (by omega)]; omega
    rw [fX11_sumBySeats_L1, fX12_sumBy_L1, hT.1.2.2.2.1]
    exact ok_t q (ok_some ⟨fT.rf, hC, ok_t q (ok_some ⟨rfl, fN.rf⟩)⟩)
  | d + 1, nf + 1, nf2 + 1, i, s, b, crow, nm, T, M, h, g1, g2, hb, hT, hH, hR, hC, h74 => by
    have g6 := hT.1.1.2.1
    have hi : i < ng := by omega
    have q : ¬ nI ng ≤ nI i := by rw [nI_leI (by omega) (by omega)]; omega
    have c6 : ¬ (nI i < 0 ∨ 6 ≤ i) := kx (by omega) (by decide)
    rw [fX11_sumBySeats_L1, fX12_sumBy_L1, hT.1.2.2.2.1, cl (show i < 2 ^ 31 by omega), ho i hi, h74 i hi]
    refine ok_f q (ok_f c6 (ok_bind (ok_mono (beside_of (mn := mn) (nm := nm) hl hl7 ha (hp i hi) hb hT hH hR hC) (fun r hr => ok_lt (ok_lt (ok_lt ?_))))))
    obtain ⟨k1, k2, k3⟩ := hr
    obtain ⟨r', er', e1, e2⟩ := k3.2 M na ng nr ns ha (hp i hi) hT hH hR
    rw [nI_1]
    refine ok_mono (sumS_L hl hl7 ha hp ho d nf nf2 (i + 1) (s + r.1) r.1 r.2.1 r.2.2.1 r.2.2.2 r'.2 (by omega) (by omega) (by omega) k3.1 ((hT.fT k1).N e2) (hH.N e2) (hR.N e2) (k2.T k1) (fun j hj => by rw [e2.A]; exact h74 j hj)) (fun y hy => ?_)
    obtain ⟨y1, y2, y3⟩ := hy
    refine ⟨k1.tr y1, y2.T k1.sy, ok_f q (ok_f c6 (ok_bindx er' (ok_lt (ok_lt (ok_lt ?_)))))⟩
    rw [e1]
    exact ok_mono y3 (fun y' hy' => ⟨hy'.1, e2.tr hy'.2⟩)
theorem QF.Nn {M M' : St} (h : fN M M') : QF M M' := QF.N h
theorem MR.o74 {ml M M' : St} (h : MR ml M) (k : f74 M M') : MR ml M' := h.M (fun j _ _ => congrFun k.1 j)
theorem sumB_of {T : Nat → St} {mn crow ml nm now od M : St} {na ng nr ns a c : Nat} (hl : gI ml 4 = -1) (hl7 : gI ml 7 = -1) (ha : a < na) (hT : TR T M na ng nr ns) (hH : HR now M 0 na ng nr) (hR : MR ml M) (hC : CW T ml now crow a) (ho : OD ng c od) (hc : c < fct ng) : ok (fX11_sumBySeats mn crow ml nm now od T (nI a) (nI ng)) (fun r => fT T r.2.2.2 ∧ CW T ml now r.2.1 a ∧ ok (fX12_sumBy M (nI a) (nI c)) (fun r' => r.1 = r'.1 ∧ QF M r'.2 ∧ MR ml r'.2)) := by
  have g6 := hT.1.1.2.1
  unfold fX11_sumBySeats fX12_sumBy
  obtain ⟨M2, eM2, f, h74⟩ := layOrder_of (M := M) (m := ng) (by omega) hc
  have hp : ∀ j, j < ng → po ng c j < ng := fun j hj => by
    obtain ⟨_, _, z⟩ := lay_z (m := ng) (by omega) hc
    exact (z j hj).2
  rw [hT.1.2.2.2.1]
  refine ok_bind (ok_mono (sumS_L (mn := mn) hl hl7 ha hp ho.2.2 ng fuel fuel 0 0 0 crow nm T M2 (by omega) (by rw [fuel_eq]; omega) (by rw [fuel_eq]; omega) (by unfold c9; decide) (hT.Q f.F) (hH.Q f.F) (hR.o74 f) hC h74) (fun y hy => ok_some ?_))
  obtain ⟨y1, y2, y3⟩ := hy
  exact ⟨y1, y2, ok_bindx eM2 (ok_bind (ok_mono y3 (fun y' hy' => ok_some ⟨hy'.1, f.F.tr (QF.N hy'.2), (hR.o74 f).N hy'.2⟩)))⟩
theorem seats_L {mn ml now : St} {na ng nr ns a : Nat} (hl : gI ml 4 = -1) (hl7 : gI ml 7 = -1) (ha : a < na) : ∀ (d nf nf2 k b : Nat) (most : Int32) (crow nm od : St) (T : Nat → St) (M : St), k + d = fct ng → d < nf → d < nf2 → 1 ≤ k → b < fct ng → TR T M na ng nr ns → HR now M 0 na ng nr → MR ml M → CW T ml now crow a → gI od 2 = nI ng → gI od 3 = nI (fct ng) → (k < fct ng → OD ng k od) → (∀ i, i < ng → gA od 1 i = nI (po ng b i)) → ok (fX11_bestSeats_L1 mn now (nI a) (nI ng) ml nf most (nI k) crow nm od T) (fun y => ∃ b', b' < fct ng ∧ (∀ i, i < ng → gA y.2.2.2.1 1 i = nI (po ng b' i)) ∧ fT T y.2.2.2.2 ∧ ok (fX12_seats_L1 (nI a) nf2 (nI b) most (nI k) M) (fun y' => y'.1 = nI b' ∧ y.1 = y'.2.1 ∧ QF M y'.2.2))
  | 0, nf + 1, nf2 + 1, k, b, most, crow, nm, od, T, M, h, _, _, hk, hb, hT, hH, hR, hC, o2, o3, oc, ob => by
    have g6 := hT.1.1.2.1
    have f7 := fct_le ng (by omega)
    have q : nI (fct ng) ≤ nI k := by rw [nI_leI (by omega) (by omega)]; omega
    rw [fX11_bestSeats_L1, fX12_seats_L1, o3, hT.1.2.2.2.1, ordersOf_d ng (by omega)]
    exact ok_t q (ok_some ⟨b, hb, ob, fT.rf, ok_bind (ok_some (ok_t q (ok_some ⟨rfl, rfl, QF.rf⟩)))⟩)
  | d + 1, nf + 1, nf2 + 1, k, b, most, crow, nm, od, T, M, h, g1, g2, hk, hb, hT, hH, hR, hC, o2, o3, oc, ob => by
    have g6 := hT.1.1.2.1
    have f7 := fct_le ng (by omega)
    have kf : k < fct ng := by omega
    have q : ¬ nI (fct ng) ≤ nI k := by rw [nI_leI (by omega) (by omega)]; omega
    rw [fX11_bestSeats_L1, fX12_seats_L1, o3, hT.1.2.2.2.1, ordersOf_d ng (by omega)]
    have n0 : ¬ nI k = 0 := fun z => by
      have := (nI_eq (a := k) (b := 0) (by omega) (by omega)).mp z; omega
    refine ok_f q (ok_bind (ok_mono (sumB_of (mn := mn) (nm := nm) hl hl7 ha hT hH hR hC (oc kf) kf) (fun r16 hr => ok_lt (ok_lt (ok_lt (ok_f n0 ?_))))))
    obtain ⟨e2, eC, r', er', e1, e3, eR⟩ := hr
    have nxt : ∀ (b2 : Nat) (w : Int32) (od2 : St), b2 < fct ng → OD ng k od2 → (∀ i, i < ng → gA od2 1 i = nI (po ng b2 i)) → ok ((fX4_turnToNext od2).bind fun r20 => lt (nI k + 1) fun x22 => fX11_bestSeats_L1 mn now (nI a) (nI ng) ml nf w x22 r16.2.1 r16.2.2.1 r20 r16.2.2.2) (fun y => ∃ b', b' < fct ng ∧ (∀ i, i < ng → gA y.2.2.2.1 1 i = nI (po ng b' i)) ∧ fT T y.2.2.2.2 ∧ ok (lt (nI k + 1) fun x22 => fX12_seats_L1 (nI a) nf2 (nI b2) w x22 r'.2) (fun y' => y'.1 = nI b' ∧ y.1 = y'.2.1 ∧ QF M y'.2.2)) := by
      intro b2 w od2 hb2 ho2 hb3
      refine ok_bind (ok_mono (onext_of (by omega) kf ho2) (fun od3 ho3 => ok_lt ?_))
      obtain ⟨p1, p2, p3, p4⟩ := ho3
      rw [nI_1]
      refine ok_mono (seats_L hl hl7 ha d nf nf2 (k + 1) b2 w r16.2.1 r16.2.2.1 od3 r16.2.2.2 r'.2 (by omega) (by omega) (by omega) (by omega) hb2 ((hT.fT e2).Q e3) (hH.Q e3) eR (eC.T e2) p2 p3 p4 (fun i hi => by rw [p1.2 1 (by decide)]; exact hb3 i hi)) (fun y hy => ?_)
      obtain ⟨b', c1, c2, c3, c4⟩ := hy
      exact ⟨b', c1, c2, e2.tr c3, ok_lt (ok_mono c4 (fun y' hy' => ⟨hy'.1, hy'.2.1, e3.tr hy'.2.2⟩))⟩
    refine ok_if (fun c => ?_) (fun c => ?_)
    · refine ok_mono (nxt b most od hb (oc kf) ob) (fun y hy => ?_)
      obtain ⟨b', c1, c2, c3, c4⟩ := hy
      refine ⟨b', c1, c2, c3, ok_bind (ok_some (ok_f q (ok_bindx er' (ok_lt (ok_lt (ok_f ?_ c4))))))⟩
      rw [← e1]; exact (le_nlt _ _).mp c
    · refine ok_bind (ok_mono (keepB_of (by omega) o2) (fun od2 ho2 => ?_))
      have hod := oc kf
      have od2k : OD ng k od2 := ⟨(congrFun ho2.1 2).trans hod.1, (congrFun ho2.1 3).trans hod.2.1, fun i hi => by rw [ho2.2.1 0 (by decide)]; exact hod.2.2 i hi⟩
      refine ok_mono (nxt k r16.1 od2 kf od2k (fun i hi => by rw [ho2.2.2 i hi]; exact hod.2.2 i hi)) (fun y hy => ?_)
      obtain ⟨b', c1, c2, c3, c4⟩ := hy
      refine ⟨b', c1, c2, c3, ok_bind (ok_some (ok_f q (ok_bindx er' (ok_lt (ok_lt (ok_t ?_ ?_))))))⟩
      · rw [← e1]
        rcases Classical.em (most < r16.1) with z | z
        · exact z
        · exact absurd ((le_nlt _ _).mpr z) c
      · rw [← e1]; exact c4
theorem bestSeats_of {T : Nat → St} {mn crow ml nm now od M : St} {na ng nr ns a : Nat} (ha : a < na) (hT : TR T M na ng nr ns) (hH : HR now M 0 na ng nr) (hR : MR (fX2_asItGoes ml) M) : ok (fX11_bestSeats mn crow ml nm now od T (nI a) (nI ng)) (fun r => ∃ b', b' < fct ng ∧ (∀ i, i < ng → gA r.2.2.2.2.1 1 i = nI (po ng b' i)) ∧ fT T r.2.2.2.2.2 ∧ ok (fX12_sumBy M (nI a) 0) (fun r7 => ok (fX12_seats_L1 (nI a) fuel 0 r7.1 1 r7.2) (fun y' => y'.1 = nI b' ∧ r.1 = y'.2.1 ∧ QF M y'.2.2))) := by
  have g6 := hT.1.1.2.1
  have fp := fct_pos ng (by omega)
  have f7 := fct_le ng (by omega)
  unfold fX11_bestSeats
  refine ok_lt (ok_bind (ok_mono (fillR_of (u := crow) (x := 100)) (fun cr hcr => ok_bind (ok_mono (obeg_of (od := od) (m := ng) (by omega)) (fun r5 hr5 => ?_)))))
  obtain ⟨o0, ob0⟩ := hr5
  have hC : CW T (fX2_asItGoes ml) now cr a := fun g k h1 h2 => Or.inl (hcr _ (by omega))
  obtain ⟨g, eg, e2, eC, r', er', e1, e3, eR⟩ := sumB_of (mn := mn) (nm := nm) (ml := fX2_asItGoes ml) rfl rfl ha hT hH hR hC o0 (by omega)
  obtain ⟨od2, eo2, k1, k2, k3⟩ := keepB_of (od := r5) (m := ng) (by omega) o0.1
  have od2k : OD ng 0 od2 := ⟨(congrFun k1 2).trans o0.1, (congrFun k1 3).trans o0.2.1, fun i hi => by rw [k2 0 (by decide)]; exact o0.2.2 i hi⟩
  obtain ⟨od3, eo3, p1, p2, p3, p4⟩ := onext_of (m := ng) (c := 0) (by omega) (by omega) od2k
  obtain ⟨y, ey, b', c1, c2, c3, y', ey', c4, c5, c6⟩ := seats_L (mn := mn) (now := now) (ml := fX2_asItGoes ml) rfl rfl ha (fct ng - 1) 999 fuel 1 0 g.1 g.2.1 g.2.2.1 od3 g.2.2.2 r'.2 (by omega) (by omega) (by rw [fuel_eq]; omega) (by omega) (by omega) ((hT.fT e2).Q e3) (hH.Q e3) eR (eC.T e2) p2 p3 p4 (fun i hi => by rw [p1.2 1 (by decide), k3 i hi]; exact o0.2.2 i hi)
  have e0 : fX11_bestSeats_L1 mn now (nI a) (nI ng) (fX2_asItGoes ml) fuel 0 0 cr nm r5 T = some y := by
    show fX11_bestSeats_L1 mn now (nI a) (nI ng) (fX2_asItGoes ml) (999 + 1) 0 0 cr nm r5 T = some y
    rw [fX11_bestSeats_L1, o0.2.1]
    refine fn ?_ (bd_c eg (lt_c (lt_c (lt_c (tp rfl (bd_c eo2 (bd_c eo3 (lt_c ey))))))))
    show ¬ nI (fct ng) ≤ nI 0
    rw [nI_leI (by omega) (by omega)]; omega
  refine ok_bindx e0 (ok_some ⟨b', c1, c2, e2.tr c3, ok_eq er' ?_⟩)
  rw [← e1]
  exact ok_eq ey' ⟨c4, c5, e3.tr c6⟩
def seR (T : Nat → St) (M : St) (r : Int32 × St × St × St × St × (Nat → St)) (r' : Int32 × St) : Prop := r.1 = r'.1 ∧ fT T r.2.2.2.2.2 ∧ QF M r'.2
theorem seats_of {T : Nat → St} {mn crow ml nm now od M : St} {na ng nr ns : Nat} {x y : Int32} (hT : TR T M na ng nr ns) (hH : HR now M 0 na ng nr) : ok (fX11_seats mn crow ml nm now od T x y) (fun r => ok (fX12_seats M x y) (fun r' => seR T M r r')) := by
  have h6 := hT.1.1.1
  have g6 := hT.1.1.2.1
  have hp := plain_of (sI M 2 0)
  have qp : QF M (fX12_plainTried (sI M 2 0)) := QF.th.tr hp.1
  have em : fX12_isAct (sI M 2 0) x = tst (nI na) x := by rw [isAct_t]; exact congrArg (fun w => tst w x) hT.1.2.2.1
  have ec : fX7_has 6 (T 1) x = tst (nI na) x := by rw [has_t, hT.1.2.1.1]
  have e13 : gI (sI M 2 0) 13 = nI ng := hT.1.2.2.2.1
  have bad : seR T M ((-2147483648 : Int32), crow, ml, nm, od, T) ((-2147483648 : Int32), sI M 2 0) := ⟨rfl, fT.rf, QF.th⟩
  unfold fX11_seats fX12_seats
  rw [ec]
  rcases tst_or (k := na) x (by omega) with q | ⟨a, ha, rfl, q⟩
  · exact ok_t q (ok_some (ok_lt (ok_t (em.trans q) (ok_some bad))))
  · have pre : ¬ fX12_isAct (sI M 2 0) (nI a) = 0 := by rw [em, q]; exact i10
    refine ok_f (by rw [q]; exact i10) ?_
    rcases in_or y (N := 6) (by decide) with h0 | ⟨h0, h1⟩ | ⟨h0, h1, n, hn, rfl⟩
    · exact ok_t h0 (ok_some (ok_lt (ok_f pre (ok_t (isIn_0 (Or.inl h0)) (ok_some bad)))))
    · exact ok_f h0 (ok_f (fun z => (le_nlt _ _).mp z h1) (ok_some (ok_lt (ok_f pre (ok_t (isIn_0 (Or.inr h1)) (ok_some bad))))))
    · have in1 : ¬ fX12_isIn (nI n) 0 6 = 0 := by rw [isIn_1 (c := 6) h0 h1]; exact i10
      rw [hT.1.2.1.2.1]
      refine ok_f h0 (ok_t ((le_nlt _ _).mpr h1) (ok_lt (ok_lt ?_)))
      obtain ⟨r6, er6, b', c1, c2, c3, r7, er7, y', ey', c4, c5, c6⟩ := bestSeats_of (mn := mn) (crow := crow) (ml := ml) (nm := nm) (od := od) ha (hT.Q qp) (hH.Q qp) (MR.pl hp)
      have q9 : QF M y'.2.2 := qp.tr c6
      have hT9 := hT.Q q9
      obtain ⟨M9, eM9, f9, h9⟩ := layOrder_of (M := y'.2.2) (m := ng) (c := b') (by omega) c1
      have q3 : QF M M9 := q9.tr f9.F
      have jC : (n = 6 ∨ n < ng) → ok ((fX11_bestSeats mn crow ml nm now od T (nI a) (nI ng)).bind fun r6 => lt r6.1 fun x8 => if nI n = (6 : Int32) then (some (x8, r6.2.1, r6.2.2.1, r6.2.2.2.1, r6.2.2.2.2.1, r6.2.2.2.2.2)) else if nI n < 0 ∨ 6 ≤ (nI n).toNatClampNeg then none else some ((gA r6.2.2.2.2.1 1 (nI n).toNatClampNeg), r6.2.1, r6.2.2.1, r6.2.2.2.1, r6.2.2.2.2.1, r6.2.2.2.2.2)) (fun r => ok (lt (fX12_plainTried (sI M 2 0)) fun r5 => (fX12_sumBy r5 (nI a) (0 : Int32)).bind fun r7 => lt r7.1 fun x9 => (fX12_seats_L1 (nI a) fuel (0 : Int32) x9 (1 : Int32) (r7.2)).bind (fun y24 => (fX12_layOrder y24.2.2 y24.1 (gI y24.2.2 13)).bind fun r25 => if nI n = (6 : Int32) then (some (y24.2.1, r25)) else if nI n < 0 ∨ 6 ≤ (nI n).toNatClampNeg then none else some ((gA r25 74 (nI n).toNatClampNeg), r25))) (fun r' => seR T M r r')) := by
        intro hn6
        refine ok_bindx er6 (ok_lt ?_)
        by_cases z : nI n = (6 : Int32)
        · refine ok_t z (ok_some (ok_lt (ok_bindx er7 (ok_lt (ok_bindx ey' ?_)))))
          rw [c4, hT9.1.2.2.2.1]
          exact ok_bindx eM9 (ok_t z (ok_some ⟨c5, c3, q3⟩))
        · have nb : n < ng := by
            rcases hn6 with w | w
            · exact absurd (by rw [w]; rfl) z
            · exact w
          have c6' : ¬ (nI n < 0 ∨ 6 ≤ n) := kx (by omega) (by decide)
          rw [cl (show n < 2 ^ 31 by omega)]
          refine ok_f z (ok_f c6' (ok_some (ok_lt (ok_bindx er7 (ok_lt (ok_bindx ey' ?_))))))
          rw [c4, hT9.1.2.2.2.1]
          refine ok_bindx eM9 (ok_f z (ok_f c6' (ok_some ⟨?_, c3, q3⟩)))
          show gA r6.2.2.2.2.1 1 n = gA M9 74 n
          rw [c2 n nb, h9 n nb]
      by_cases z6 : (6 : Int32) ≤ nI n
      · have n6 : n = 6 := by
          have := (nI_leI (a := 6) (b := n) (by omega) (by omega)).mp z6; omega
        exact ok_t z6 (ok_mono (jC (Or.inl n6)) (fun r hr => ok_lt (ok_f pre (ok_f in1 (ok_lt (ok_t z6 hr))))))
      · refine ok_f z6 (ok_if (fun c => ok_mono (jC (Or.inr ((nI_ltI (by omega) (by omega)).mp c))) (fun r hr => ok_lt (ok_f pre (ok_f in1 (ok_lt (ok_f z6 (ok_t (by rw [e13]; exact c) hr))))))) (fun c => ok_some (ok_lt (ok_f pre (ok_f in1 (ok_lt (ok_f z6 (ok_f (by rw [e13]; exact c) (ok_some ⟨rfl, fT.rf, QF.th⟩)))))))))
