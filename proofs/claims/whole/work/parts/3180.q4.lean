/-! chance, go -/
theorem MR.draw {ml M : St} (h : MR (fX2_asItGoes ml) M) : MR (fX2_byNumbers ml) (sI M 65 1) := by
  obtain ⟨a2, a3, a4, a5, a6, a7, a8, a9⟩ := h
  have q : gI M 66 = 0 ∧ gI M 67 = 0 := by
    rcases a2 with ⟨_, _, b, c⟩ | ⟨b, _⟩ | ⟨b, _⟩ | ⟨b, _⟩
    · exact ⟨b, c⟩
    · exact absurd (show (0 : Int32) = 1 from b) (by decide)
    · exact absurd (show (0 : Int32) = 2 from b) (by decide)
    · exact absurd (show (0 : Int32) = 3 from b) (by decide)
  exact ⟨Or.inr (Or.inl ⟨rfl, rfl, q.1, q.2⟩), a3, a4, a5, a6, a7, a8, a9⟩
def QJ (M M' : St) : Prop := (∀ k, k ≠ 2 → k ≠ 52 → ¬ (65 ≤ k ∧ k ≤ 73) → gI M' k = gI M k) ∧ (∀ k, k ≠ 64 → gJ M' k = gJ M k) ∧ ∀ r i, ¬ (53 ≤ r ∧ r ≤ 63 ∧ hf r i = 1) → r ≠ 74 → r ≠ 78 → r ≠ 79 → gA M' r i = gA M r i
theorem QJ.rf {M : St} : QJ M M := ⟨fun _ _ _ _ => rfl, fun _ _ => rfl, fun _ _ _ _ _ _ => rfl⟩
theorem QJ.tr {x y z : St} (h : QJ x y) (k : QJ y z) : QJ x z := ⟨fun j a b c => (k.1 j a b c).trans (h.1 j a b c), fun j a => (k.2.1 j a).trans (h.2.1 j a), fun r i a b c d => (k.2.2 r i a b c d).trans (h.2.2 r i a b c d)⟩
theorem QJ.Q {M M' : St} (h : QF M M') : QJ M M' := ⟨h.1, fun k _ => congrFun h.2.1 k, h.2.2⟩
theorem QJ.FR {M M' : St} (h : FR 1 M M') : QJ M M' := ⟨fun k _ h2 _ => h.1 k h2, h.2.1, fun r i a _ _ _ => h.2.2.1 r i a⟩
theorem QJ.wJ {M : St} {v : Int64} : QJ M (sJ M 64 v) := ⟨fun _ _ _ _ => rfl, fun k hk => if_neg hk, fun _ _ _ _ _ _ => rfl⟩
theorem QJ.A {M M' : St} (h : QJ M M') {r : Nat} (h1 : r < 53 ∨ 63 < r) (h2 : r ≠ 74) (h3 : r ≠ 78) (h4 : r ≠ 79) : gA M' r = gA M r := funext fun i => h.2.2 r i (by omega) h2 h3 h4
theorem TR.QJ {T : Nat → St} {M M' : St} {na ng nr ns : Nat} (h : TR T M na ng nr ns) (k : QJ M M') : TR T M' na ng nr ns := h.M (fun j h1 h2 => k.1 j (by omega) (by omega) (by omega)) (fun r h1 h2 => k.A (by omega) (by omega) (by omega) (by omega))
theorem HR.QJ {u M M' : St} {na ng nr : Nat} (h : HR u M 0 na ng nr) (k : QJ M M') : HR u M' 0 na ng nr := h.M (k.A (by omega) (by omega) (by omega) (by omega)) (fun r i h1 h2 q => k.2.2 r i (by omega) (by omega) (by omega) (by omega))
theorem chance_L {ml now : St} {na ng nr ns n : Nat} {z : Int32} (hn : n ≤ 99) : ∀ (d nf nf2 i : Nat) (t : Int32) (T : Nat → St) (nm trial M : St), i + d = 10 → d < nf → d < nf2 → TR T M na ng nr ns → HR now M 0 na ng nr → ok (fX11_chance_L1 now (nI n) z (fX2_byNumbers ml) nf (gJ M 64) t (nI i) nm trial T) (fun y => ok (fX12_chance_L1 (nI n) z nf2 t (nI i) M) (fun y' => y.1 = y'.1 ∧ fT T y.2.2.2 ∧ QJ M y'.2))
  | 0, nf + 1, nf2 + 1, i, t, T, nm, trial, M, h, _, _, hT, hH => by
    rw [fX11_chance_L1, fX12_chance_L1]
    have q : nI 10 ≤ nI i := by rw [nI_leI (by omega) (by omega)]; omega
    exact ok_t q (ok_some (ok_t q (ok_some ⟨rfl, fT.rf, QJ.rf⟩)))
  | d + 1, nf + 1, nf2 + 1, i, t, T, nm, trial, M, h, g1, g2, hT, hH => by
    rw [fX11_chance_L1, fX12_chance_L1]
    have q : ¬ nI 10 ≤ nI i := by rw [nI_leI (by omega) (by omega)]; omega
    refine ok_f q (ok_bind (ok_mono (copy_of trial now) (fun r16 hc => ok_lt ?_)))
    obtain ⟨M1, eM1, t1, t2, t3, t4, t5⟩ := lay_of (ml := ml) hT hH hc
    have q65 : QF M1 (sI M1 65 1) := QF.fl (by decide) (by decide)
    have hH2 : HR (sJ r16 8 (gJ M 64)) (sI M1 65 1) 1 na ng nr := (t3.u rfl rfl).M rfl (fun _ _ _ _ _ => rfl)
    have ej : gJ (sI M1 65 1) 64 = gJ M 64 := congrFun t1.2.1 64
    refine ok_bind (ok_mono (go1 (nm := nm) (n := n) (by omega) (t2.Q q65) hH2 t4.draw (fun _ => ej.symm)) (fun r19 hr => ok_lt ?_))
    obtain ⟨M2, eM2, k⟩ := hr
    have hQ : QJ M M2 := (QJ.Q (t1.tr q65)).tr (QJ.FR k.2.1)
    have e1 := gAll_HR k.2.2.1
    have e2 : gJ r19.2.2 8 = gJ M2 64 := k.2.2.2.1 rfl
    rw [e1, e2]
    have step : ∀ v : Int32, (if gAll M2 1 < z then (0 : Int32) else 1) = v → ok (fX11_chance_L1 now (nI n) z (fX2_byNumbers ml) nf (gJ M2 64) (t + v) (nI i + 1) r19.1 r19.2.2 r19.2.1) (fun y => ok (if nI 10 ≤ nI i then some (t, M) else (fX12_layTried M).bind fun r12 => lt (sI r12 65 (1 : Int32)) fun u14 => (fX12_goMany u14 (nI n)).bind fun r15 => (fX12_groundAll r15 (1 : Int32)).bind fun r17 => lt (if r17 < z then ((0 : Int32)) else (1 : Int32)) fun x18 => lt (t + x18) fun x19 => lt (nI i + 1) fun x20 => fX12_chance_L1 (nI n) z nf2 x19 x20 r15) (fun y' => y.1 = y'.1 ∧ fT T y.2.2.2 ∧ QJ M y'.2)) := by
      intro v hv
      rw [nI_1]
      refine ok_mono (chance_L hn d nf nf2 (i + 1) (t + v) r19.2.1 r19.1 r19.2.2 M2 (by omega) (by omega) (by omega) ((hT.fT k.1).QJ hQ) (hH.QJ hQ)) (fun y hy => ?_)
      refine ok_f q (ok_bindx eM1 (ok_lt (ok_bindx eM2 (ok_bindx (groundAll_eq (b := 1) (by decide)) (ok_lt (ok_lt (ok_lt ?_)))))))
      rw [hv]
      exact ok_mono hy (fun y' hy' => ⟨hy'.1, k.1.tr hy'.2.1, hQ.tr hy'.2.2⟩)
    refine ok_lt ?_
    refine ok_if (fun c => ?_) (fun c => ok_lt ?_)
    · have := step 0 (if_pos c)
      rw [Int32.add_zero] at this
      exact this
    · exact step 1 (if_neg c)
theorem chance_of {T : Nat → St} {mn ml nm now trial M : St} {na ng nr ns : Nat} {x y z : Int32} (hT : TR T M na ng nr ns) (hH : HR now M 0 na ng nr) : ok (fX11_chance mn ml nm now trial T x y z) (fun r => ok (fX12_chance M x y z) (fun r' => qR T M r r')) := by
  have hT1 : TR T (sI M 2 0) na ng nr ns := hT.Q QF.th
  have hH1 : HR now (sI M 2 0) 0 na ng nr := hH.Q QF.th
  have bad : qR T M ((-1 : Int32), ml, nm, trial, T) ((-1 : Int32), sI M 2 0) := ⟨rfl, fT.rf, QF.th⟩
  unfold fX11_chance fX12_chance
  by_cases x0 : x < 0
  · exact ok_t x0 (ok_some (ok_lt (ok_t x0 (ok_some bad))))
  · refine ok_f x0 ?_
    by_cases y0 : y < (1 : Int32)
    · exact ok_t y0 (ok_some (ok_lt (ok_f x0 (ok_t (isIn_0 (Or.inl y0)) (ok_some bad)))))
    · refine ok_f y0 ?_
      by_cases y1 : (99 : Int32) < y
      · exact ok_t y1 (ok_some (ok_lt (ok_f x0 (ok_t (isIn_0 (Or.inr y1)) (ok_some bad)))))
      · refine ok_f y1 ?_
        have in1 : ¬ fX12_isIn y 1 99 = 0 := by rw [isIn_1 y0 y1]; exact i10
        obtain ⟨n, hn, rfl⟩ : ∃ n, n ≤ 99 ∧ y = nI n := by
          rcases in_or y (N := 99) (by decide) with a | ⟨_, a⟩ | ⟨_, _, n, hn, e⟩
          · exact absurd (show y < 1 by rw [i_lt] at *; rw [show (1 : Int32).toInt = 1 from rfl]; rw [show (0 : Int32).toInt = 0 from rfl] at a; omega) y0
          · exact absurd a y1
          · exact ⟨n, hn, e⟩
        by_cases z0 : z < 0
        · exact ok_t z0 (ok_some (ok_lt (ok_f x0 (ok_f in1 (ok_t (isIn_0 (Or.inl z0)) (ok_some bad))))))
        · by_cases z1 : (999 : Int32) < z
          · exact ok_f z0 (ok_f (fun q => (le_nlt _ _).mp q z1) (ok_some (ok_lt (ok_f x0 (ok_f in1 (ok_t (isIn_0 (Or.inr z1)) (ok_some bad)))))))
          · refine ok_f z0 (ok_t ((le_nlt _ _).mpr z1) (ok_lt (ok_lt ?_)))
            have w := chance_L (ml := ml) (now := now) (z := z) hn 10 fuel fuel 0 0 T nm trial (sJ (sI M 2 0) 64 x.toInt64) (by omega) (by rw [fuel_eq]; omega) (by rw [fuel_eq]; omega) (hT1.QJ QJ.wJ) (hH1.QJ QJ.wJ)
            refine ok_bind (ok_mono w (fun v hv => ok_some ?_))
            refine ok_lt (ok_f x0 (ok_f in1 (ok_f (by rw [isIn_1 z0 z1]; exact i10) (ok_lt (ok_lt (ok_lt (ok_bind (ok_mono hv (fun v' hv' => ok_lt (ok_lt (ok_some ?_)))))))))))
            obtain ⟨a, c, e⟩ := hv'
            have e2 := (QJ.Q (QF.th (M := M) (v := 0))).tr (QJ.wJ.tr (e.tr (QJ.Q (QF.fl (k := 65) (v := 0) (by decide) (by decide)))))
            refine ⟨a, c, e2.1, ?_, e2.2.2⟩
            funext k
            show (if k = 64 then gJ M 64 else gJ v'.2 k) = gJ M k
            by_cases hk : k = 64
            · rw [if_pos hk, hk]
            · rw [if_neg hk]; exact e2.2.1 k hk
/-- what the going of minutes may change -/
def GF (M M' : St) : Prop := (∀ k, k ≠ 2 → k ≠ 52 → k ≠ 80 → ¬ (65 ≤ k ∧ k ≤ 73) → gI M' k = gI M k) ∧ (∀ k, k ≠ 64 → gJ M' k = gJ M k) ∧ ∀ r i, ¬ (53 ≤ r ∧ r ≤ 63 ∧ hf r i = 0) → gA M' r i = gA M r i
theorem go_it {n : Nat} (hn : n < 2 ^ 31) : ∀ (d nf i : Nat) (M : St), i + d = n → d < nf → fX12_go_L1 (nI n) nf (nI i) M = mIt 0 d M
  | 0, nf + 1, i, M, h, _ => by
    rw [fX12_go_L1, mIt]
    exact tp (by rw [nI_leI (by omega) (by omega)]; omega) rfl
  | d + 1, nf + 1, i, M, h, hf => by
    rw [fX12_go_L1, mIt]
    refine fn (by rw [nI_leI (by omega) (by omega)]; omega) (bd_cg (fun r => lt_c ?_))
    rw [nI_1]
    exact go_it hn d nf (i + 1) r (by omega) (by omega)
def goR (na ng nr : Nat) (T : Nat → St) (now sp M : St) (r : Int32 × St × St × St × St × (Nat → St)) (r' : Int32 × St) : Prop := r.1 = r'.1 ∧ fT T r.2.2.2.2.2 ∧ GF M r'.2 ∧ HR r.2.2.2.1 r'.2 0 na ng nr ∧ (gJ now 8 = gJ M 64 → gJ r.2.2.2.1 8 = gJ r'.2 64) ∧ ((r.2.2.2.1 = now ∧ r.2.2.2.2.1 = sp ∧ QF M r'.2) ∨ (r.2.2.2.2.1 = fX9_clear sp ∧ gI r'.2 80 = 0))
theorem go_of {T : Nat → St} {mn ml nm now sp M : St} {na ng nr ns : Nat} {x : Int32} (hT : TR T M na ng nr ns) (hH : HR now M 0 na ng nr) (hJ : gJ now 8 = gJ M 64) : ok (fX11_go mn ml nm now sp T x) (fun r => ok (fX12_go M x) (fun r' => goR na ng nr T now sp M r r')) := by
  have hT1 : TR T (sI M 2 0) na ng nr ns := hT.Q QF.th
  have hH1 : HR now (sI M 2 0) 0 na ng nr := hH.Q QF.th
  have bad : goR na ng nr T now sp M ((-1 : Int32), ml, nm, now, sp, T) ((-1 : Int32), sI M 2 0) := ⟨rfl, fT.rf, ⟨fun k h _ _ _ => gI_sIn _ _ h, fun _ _ => rfl, fun _ _ _ => rfl⟩, hH1, fun h => h, Or.inl ⟨rfl, rfl, QF.th⟩⟩
  unfold fX11_go fX12_go
  rcases in_or x (N := 200) (by decide) with h0 | ⟨h0, h1⟩ | ⟨h0, h1, n, hn, rfl⟩
  · exact ok_t h0 (ok_some (ok_lt (ok_t (isIn_0 (Or.inl h0)) (ok_some bad))))
  · exact ok_f h0 (ok_t h1 (ok_some (ok_lt (ok_t (isIn_0 (Or.inr h1)) (ok_some bad)))))
  · have in1 : ¬ fX12_isIn (nI n) 0 200 = 0 := by rw [isIn_1 (c := 200) h0 h1]; exact i10
    have e59 : gI now 0 = gA (sI M 2 0) 59 0 := hH.1.1
    refine ok_f h0 (ok_f h1 ?_)
    rw [e59]
    refine ok_if (fun c => ok_lt ?_) (fun c => ok_some (ok_lt (ok_f in1 (ok_f c (ok_some bad)))))
    have hp := plain_of (sI M 2 0)
    have q1 : QF (sI M 2 0) (sI (fX12_plainTried (sI M 2 0)) 65 1) := hp.1.tr (QF.fl (by decide) (by decide))
    have hR : MR (fX2_byNumbers ml) (sI (fX12_plainTried (sI M 2 0)) 65 1) := (MR.pl hp).draw
    have ej : gJ (sI (fX12_plainTried (sI M 2 0)) 65 1) 64 = gJ M 64 := congrFun q1.2.1 64
    rw [pass_eq (by omega)]
    obtain ⟨r6, e6, M2, eM2, k1, k2, k3, k4, k5, k6⟩ := it_of (b := 0) (by decide) n T nm now (sI (fX12_plainTried (sI M 2 0)) 65 1) (hT1.Q q1) (hH1.Q q1) hR (fun _ => hJ.trans ej.symm)
    refine ok_bindx e6 ?_
    have eL : fX12_go_L1 (nI n) fuel 0 (sI (fX12_plainTried (sI M 2 0)) 65 1) = some M2 := by
      rw [show (0 : Int32) = nI 0 from rfl, go_it (by omega) n fuel 0 _ (by omega) (by rw [fuel_eq]; omega)]; exact eM2
    have gf : ∀ v, GF M (sI (sI M2 65 0) 80 v) := fun v => by
      have a := QF.th (M := M) (v := 0) |>.tr q1
      refine ⟨fun k h1 h2 h3 h4 => ?_, fun k hk => ?_, fun r i hh => ?_⟩
      · rw [gI_sIn _ _ h3, gI_sIn _ _ (fun z => h4 (by omega)), k2.1 k h2]; exact a.1 k h1 h2 h4
      · exact (k2.2.1 k hk).trans (congrFun a.2.1 k)
      · have e1 : gA (sI (fX12_plainTried (sI M 2 0)) 65 1) r i = gA M r i := rfl
        exact (k2.2.2.1 r i hh).trans e1
    have h3 : ∀ v, HR r6.2.2 (sI (sI M2 65 0) 80 v) 0 na ng nr := fun v => k3.M rfl (fun _ _ _ _ _ => rfl)
    have fin : ∀ (v : Int32) (sp' : St), (if nI n ≤ 0 then gI (sI M2 65 0) 80 else 0) = v → ((r6.2.2 = now ∧ sp' = sp ∧ QF M (sI (sI M2 65 0) 80 v)) ∨ (sp' = fX9_clear sp ∧ v = 0)) → ok (lt (sI M 2 (0 : Int32)) fun u1 => if fX12_isIn (nI n) (0 : Int32) (200 : Int32) = 0 then some ((-1 : Int32), u1) else if gA u1 59 0 + nI n ≤ (9000 : Int32) then (lt (fX12_plainTried u1) fun r4 => lt (sI r4 65 (1 : Int32)) fun u6 => (fX12_go_L1 (nI n) fuel (0 : Int32) u6).bind (fun y13 => lt (sI y13 65 (0 : Int32)) fun u14 => lt (if nI n ≤ 0 then gI u14 80 else (0 : Int32)) fun x15 => lt (sI u14 80 x15) fun u16 => some (gA u16 59 0, u16))) else some ((-1 : Int32), u1)) (fun r' => goR na ng nr T now sp M (gI r6.2.2 0, fX2_byNumbers ml, r6.1, r6.2.2, sp', r6.2.1) r') := by
      intro v sp' hv hh
      refine ok_lt (ok_f in1 (ok_t c (ok_lt (ok_lt (ok_bindx eL (ok_lt (ok_lt (ok_lt (ok_some ?_)))))))))
      rw [hv]
      refine ⟨(h3 v).1.1, k1, gf v, h3 v, fun _ => k4 rfl, ?_⟩
      rcases hh with hh | ⟨a, e⟩
      · exact Or.inl hh
      · exact Or.inr ⟨a, e⟩
    refine ok_if (fun c0 => ok_some (fin _ _ (if_pos c0) (Or.inl ?_))) (fun c0 => ok_lt (ok_some (fin 0 _ (if_neg c0) (Or.inr ⟨rfl, rfl⟩))))
    have n0 : n = 0 := by
      rcases Nat.eq_zero_or_pos n with q | q
      · exact q
      · exact absurd c0 (nI_nle q (by omega))
    subst n0
    have a1 : (nm, T, now) = r6 := Option.some.inj e6
    have a2 : sI (fX12_plainTried (sI M 2 0)) 65 1 = M2 := Option.some.inj eM2
    refine ⟨by rw [← a1], rfl, ?_⟩
    rw [← a2]
    refine (QF.th (M := M) (v := 0)).tr (q1.tr ((QF.fl (k := 65) (v := 0) (by decide) (by decide)).tr ⟨fun k _ _ _ => ?_, rfl, fun _ _ _ _ _ _ => rfl⟩))
    rw [gI_sI]
    by_cases hk : k = 80
    · rw [if_pos hk, hk]
    · rw [if_neg hk]
