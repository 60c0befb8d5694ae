/-! questions of what comes -/
theorem itS_FR {stp : Nat → St → St} {b : Nat} : ∀ (d i : Nat) (u : St), (∀ k u, i ≤ k → k < i + d → FR b u (stp k u)) → FR b u (itS stp d i u)
  | 0, _, _, _ => FR.rf
  | d + 1, i, u, h => (h i u (Nat.le_refl _) (by omega)).tr (itS_FR d (i + 1) _ (fun k u h1 h2 => h k u (by omega) (by omega)))
theorem hf6 {r i : Nat} (h1 : 60 ≤ r) (h2 : r ≤ 62) (hi : i < 6) : hf r (6 + i) = 1 := by unfold hf; rw [if_neg (by omega), if_neg (by omega)]; omega
theorem hf4 {i : Nat} (hi : i < 4) : hf 63 (4 + i) = 1 := by unfold hf; rw [if_neg (by omega), if_pos rfl]; omega
theorem ly_FR (M : St) : FR 1 M (itS ly2 4 0 (itS ly1 6 0 (lyS M))) := by
  have h0 : FR 1 M (lyS M) := by
    refine FR.tr (y := sA M 53 1 (gA M 53 0)) (FR.wA (by decide) (by decide) rfl) ?_
    refine FR.tr (y := sA (sA M 53 1 (gA M 53 0)) 54 1 (gA M 54 0)) (FR.wA (by decide) (by decide) rfl) ?_
    refine FR.tr (y := sA (sA (sA M 53 1 (gA M 53 0)) 54 1 (gA M 54 0)) 55 1 (gA M 55 0)) (FR.wA (by decide) (by decide) rfl) ?_
    refine FR.tr (y := sA (sA (sA (sA M 53 1 (gA M 53 0)) 54 1 (gA M 54 0)) 55 1 (gA M 55 0)) 56 1 (gA M 56 0)) (FR.wA (by decide) (by decide) rfl) ?_
    refine FR.tr (y := sA (sA (sA (sA (sA M 53 1 (gA M 53 0)) 54 1 (gA M 54 0)) 55 1 (gA M 55 0)) 56 1 (gA M 56 0)) 57 1 (gA M 57 0)) (FR.wA (by decide) (by decide) rfl) ?_
    refine FR.tr (y := sA (sA (sA (sA (sA (sA M 53 1 (gA M 53 0)) 54 1 (gA M 54 0)) 55 1 (gA M 55 0)) 56 1 (gA M 56 0)) 57 1 (gA M 57 0)) 58 1 (gA M 58 0)) (FR.wA (by decide) (by decide) rfl) ?_
    exact FR.wA (by decide) (by decide) rfl
  refine h0.tr (FR.tr (itS_FR 6 0 _ (fun k u _ hk => ?_)) (itS_FR 4 0 _ (fun k u _ hk => ?_)))
  · unfold ly1
    refine FR.tr (FR.tr (FR.wA (r := 60) (i := 6 + k) (v := gA u 60 k) (by decide) (by decide) (hf6 (by decide) (by decide) (by omega))) (FR.wA (by decide) (by decide) (hf6 (by decide) (by decide) (by omega)))) (FR.wA (by decide) (by decide) (hf6 (by decide) (by decide) (by omega)))
  · exact FR.wA (by decide) (by decide) (hf4 (by omega))
theorem lay_HR {u v M : St} {na ng nr : Nat} (h : HR u M 0 na ng nr) (hc : cpR v u) : HR v (fX12_plainTried (itS ly2 4 0 (itS ly1 6 0 (lyS M)))) 1 na ng nr := by
  obtain ⟨c1, c2, c3, c4, c5, c6⟩ := hc
  refine h.mv (b' := 1) c1 c3 c4 c5 c6 rfl (fun r h1 h2 => ?_) (fun r h1 h2 => ?_) (j4 rfl rfl rfl rfl)
  · rcases (show r = 53 ∨ r = 54 ∨ r = 55 ∨ r = 56 ∨ r = 57 ∨ r = 58 ∨ r = 59 by omega) with rfl | rfl | rfl | rfl | rfl | rfl | rfl <;> rfl
  · rcases (show r = 60 ∨ r = 61 ∨ r = 62 by omega) with rfl | rfl | rfl <;> exact j6 rfl rfl rfl rfl rfl rfl
/-- a fresh trial on both sides -/
def tlR (T : Nat → St) (na ng nr ns : Nat) (M : St) (ml trial M' : St) : Prop := QF M M' ∧ TR T M' na ng nr ns ∧ HR trial M' 1 na ng nr ∧ MR ml M' ∧ gI M' 65 = 0
theorem itS_J {stp : Nat → St → St} (h : ∀ k u, (stp k u).2.1 = u.2.1) : ∀ (d i : Nat) (u : St), (itS stp d i u).2.1 = u.2.1
  | 0, _, _ => rfl
  | d + 1, i, u => (itS_J h d (i + 1) _).trans (h i u)
theorem lay_of' {T : Nat → St} {trial ml M X : St} {na ng nr ns : Nat} (hT : TR T M na ng nr ns) (hE : fX12_layTried M = some (fX12_plainTried X)) (hL : HR trial (fX12_plainTried X) 1 na ng nr) (hF : FR 1 M X) (hJ : X.2.1 = M.2.1) : ok (fX12_layTried M) (fun M' => tlR T na ng nr ns M (fX2_asItGoes ml) trial M') := by
  have hp := plain_of X
  have hq : QF M (fX12_plainTried X) := (QF.FR hF hJ).tr hp.1
  exact ok_eq hE ⟨hq, hT.Q hq, hL, MR.pl hp, hp.2.2.2.1⟩
theorem ly1_J (k : Nat) (u : St) : (ly1 k u).2.1 = u.2.1 := by unfold ly1; rfl
theorem ly2_J (k : Nat) (u : St) : (ly2 k u).2.1 = u.2.1 := by unfold ly2; rfl
theorem lyS_J (u : St) : (lyS u).2.1 = u.2.1 := by unfold lyS; rfl
theorem lay_J (M : St) : (itS ly2 4 0 (itS ly1 6 0 (lyS M))).2.1 = M.2.1 := by
  rw [itS_J ly2_J, itS_J ly1_J, lyS_J]
theorem lay_of {T : Nat → St} {now trial ml M : St} {na ng nr ns : Nat} (hT : TR T M na ng nr ns) (hH : HR now M 0 na ng nr) (hc : cpR trial now) : ok (fX12_layTried M) (fun M' => tlR T na ng nr ns M (fX2_asItGoes ml) trial M') := lay_of' hT (lay_eq M) (lay_HR hH hc) (ly_FR M) (lay_J M)
theorem start_of {T : Nat → St} {mn now trial ml M : St} {na ng nr ns : Nat} (hT : TR T M na ng nr ns) (hH : HR now M 0 na ng nr) : ok (fX11_startTrial mn ml now trial) (fun r => r.1 = fX2_asItGoes ml ∧ gJ r.2 8 = gJ now 8 ∧ ok (fX12_layTried M) (fun M' => tlR T na ng nr ns M r.1 r.2 M')) := by
  unfold fX11_startTrial
  exact ok_bind (ok_mono (copy_of trial now) (fun r hr => ok_lt (ok_some ⟨rfl, hr.2.1, lay_of hT hH hr⟩)))
theorem go1 {T : Nat → St} {ml nm u M : St} {na ng nr ns n : Nat} (hn : n < 1000) (hT : TR T M na ng nr ns) (hH : HR u M 1 na ng nr) (hR : MR ml M) (hJ : gI M 65 = 1 → gJ u 8 = gJ M 64) : ok (fX2_pass 7 ml nm T u (nI n)) (fun r => ok (fX12_goMany M (nI n)) (fun M' => itR 1 na ng nr n T u M r M')) := by
  rw [pass_eq hn, goMany_eq hn]
  exact it_of (by decide) n T nm u M hT hH hR hJ
theorem isIn_t (v a c : Int32) : fX12_isIn v a c = if v < a then (0 : Int32) else if c < v then 0 else 1 := bz01
theorem isIn_0 {v a c : Int32} (h : v < a ∨ c < v) : fX12_isIn v a c = 0 := by
  rw [isIn_t]
  by_cases q : v < a
  · rw [if_pos q]
  · rw [if_neg q, if_pos (h.resolve_left q)]
theorem isIn_1 {v a c : Int32} (h1 : ¬ v < a) (h2 : ¬ c < v) : fX12_isIn v a c = 1 := by rw [isIn_t, if_neg h1, if_neg h2]
theorem in_or (x : Int32) {N : Nat} (hN : N < 2 ^ 31) : x < 0 ∨ (¬ x < 0 ∧ nI N < x) ∨ (¬ x < 0 ∧ ¬ nI N < x ∧ ∃ n, n ≤ N ∧ x = nI n) := by
  by_cases h0 : x < 0
  · exact Or.inl h0
  · by_cases h1 : nI N < x
    · exact Or.inr (Or.inl ⟨h0, h1⟩)
    · obtain ⟨j, hj, e⟩ := nI_of h0
      refine Or.inr (Or.inr ⟨h0, h1, j, ?_, e⟩)
      rcases Nat.lt_or_ge N j with q | q
      · exact absurd (by rw [e, nI_ltI (by omega) (by omega)]; exact q) h1
      · exact q
/-- the answer of a question -/
def qR {α : Type} (T : Nat → St) (M : St) (r : α × St × St × St × (Nat → St)) (r' : α × St) : Prop := r.1 = r'.1 ∧ fT T r.2.2.2.2 ∧ QF M r'.2
theorem it_Q {na ng nr n : Nat} {T : Nat → St} {u M M' : St} {r : St × (Nat → St) × St} (h : itR 1 na ng nr n T u M r M') (h65 : gI M 65 = 0) : QF M M' := QF.FR h.2.1 (h.2.2.2.2.1 h65).1
theorem trial_go {β : Type} {T : Nat → St} {mn ml nm now trial M : St} {na ng nr ns n : Nat} {F : (St × St) → (St × (Nat → St) × St) → Option β} {Q : β → Prop} (hn : n < 1000) (hT : TR T M na ng nr ns) (hH : HR now M 0 na ng nr) (h : ∀ (r4 : St × St) (r6 : St × (Nat → St) × St) (M1 M2 : St), fX12_layTried M = some M1 → fX12_goMany M1 (nI n) = some M2 → QF M M2 → fT T r6.2.1 → HR r6.2.2 M2 1 na ng nr → ok (F r4 r6) Q) : ok ((fX11_startTrial mn ml now trial).bind fun r4 => (fX2_pass 7 r4.1 nm T r4.2 (nI n)).bind fun r6 => F r4 r6) Q := by
  refine ok_bind (ok_mono (start_of hT hH) (fun r4 hr4 => ?_))
  obtain ⟨e4, _, M1, eM1, t1, t2, t3, t4, t5⟩ := hr4
  refine ok_bind (ok_mono (go1 (nm := nm) hn t2 t3 t4 (fun q => absurd (t5.symm.trans q) (by decide))) (fun r6 hr6 => ?_))
  obtain ⟨M2, eM2, k⟩ := hr6
  exact h r4 r6 M1 M2 eM1 eM2 (t1.tr (it_Q k t5)) k.1 k.2.2.1
theorem gAll_HR {u M : St} {b na ng nr : Nat} (h : HR u M b na ng nr) : gI u 6 = gAll M b := h.1.2.2.2.2.2.2.2
theorem bz_tst (x a : Int32) : bz (tst x a) = tst x a := bz01
theorem ahead_of {T : Nat → St} {mn ml nm now trial M : St} {na ng nr ns : Nat} {x y z : Int32} (hT : TR T M na ng nr ns) (hH : HR now M 0 na ng nr) : ok (fX11_ahead mn ml nm now trial T x y z) (fun r => ok (fX12_ahead M x y z) (fun r' => qR T M r r')) := by
  have hT1 : TR T (sI M 2 0) na ng nr ns := hT.Q QF.th
  have hH1 : HR now (sI M 2 0) 0 na ng nr := hH.Q QF.th
  have bad : qR T M ((-2147483648 : Int32), ml, nm, trial, T) ((-2147483648 : Int32), sI M 2 0) := ⟨rfl, fT.rf, QF.th⟩
  have h4 := hT.1.1.2.2.1
  have h6 := hT.1.1.2.1
  have r14 : gI (sI M 2 0) 14 = nI nr := hT.1.2.2.2.2.1
  have r13 : gI (sI M 2 0) 13 = nI ng := hT.1.2.2.2.1
  unfold fX11_ahead fX12_ahead
  rcases in_or x (N := 200) (by decide) with h | ⟨h0, h⟩ | ⟨h0, h1, n, hn, rfl⟩
  · exact ok_t h (ok_some (ok_lt (ok_t (isIn_0 (Or.inl h)) (ok_some bad))))
  · exact ok_f h0 (ok_t h (ok_some (ok_lt (ok_t (isIn_0 (Or.inr h)) (ok_some bad)))))
  · refine ok_f h0 (ok_f h1 ?_)
    have in1 : ¬ fX12_isIn (nI n) 0 200 = 0 := by rw [isIn_1 (c := 200) h0 h1]; exact i10
    have mq : ∀ {M1 M2 : St} {F : St → Option (Int32 × St)} {Q : Int32 × St → Prop}, fX12_layTried (sI M 2 0) = some M1 → fX12_goMany M1 (nI n) = some M2 → ok (F M2) Q → ok ((fX12_layTried (sI M 2 0)).bind fun r6 => (fX12_goMany r6 (nI n)).bind fun r8 => F r8) Q := fun e1 e2 h => ok_bindx e1 (ok_bindx e2 h)
    rcases in_or y (N := 4) (by decide) with hy | ⟨hy0, hy⟩ | ⟨hy0, hy1, k, hk, rfl⟩
    · have c : fX11_canBeAhead mn T y z = 0 := by
        unfold fX11_canBeAhead
        have e : ∀ j : Nat, j < 100 → ¬ y = nI j := fun j hj q => by rw [q] at hy; exact nI_pos (by omega) hy
        exact fn (e 1 (by omega)) (fn (e 4 (by omega)) (by rw [lt_eq, if_neg (show ¬ y = 0 from e 0 (by omega)), if_neg (show ¬ y = 2 from e 2 (by omega)), if_neg (show ¬ y = 3 from e 3 (by omega))]; rfl))
      exact ok_t c (ok_some (ok_lt (ok_f in1 (ok_t (isIn_0 (Or.inl hy)) (ok_some bad)))))
    · have c : fX11_canBeAhead mn T y z = 0 := by
        unfold fX11_canBeAhead
        have e : ∀ j : Nat, j ≤ 4 → ¬ y = nI j := fun j hj q => by rw [q, nI_ltI (by omega) (by omega)] at hy; omega
        exact fn (e 1 (by omega)) (fn (e 4 (by omega)) (by rw [lt_eq, if_neg (show ¬ y = 0 from e 0 (by omega)), if_neg (show ¬ y = 2 from e 2 (by omega)), if_neg (show ¬ y = 3 from e 3 (by omega))]; rfl))
      exact ok_t c (ok_some (ok_lt (ok_f in1 (ok_t (isIn_0 (Or.inr hy)) (ok_some bad)))))
    · have in2 : ¬ fX12_isIn (nI k) 0 4 = 0 := by rw [isIn_1 (c := 4) hy0 hy1]; exact i10
      rcases (show k = 0 ∨ k = 1 ∨ k = 2 ∨ k = 3 ∨ k = 4 by omega) with rfl | rfl | rfl | rfl | rfl
      · refine ok_f (show ¬ fX11_canBeAhead mn T (nI 0) z = 0 from i10) (trial_go (by omega) hT1 hH1 (fun r4 r6 M1 M2 e1 e2 hq ht hh => ok_t rfl (ok_some ?_)))
        refine ok_lt (ok_f in1 (ok_f in2 (ok_lt (ok_f (by decide) (ok_lt (ok_f (by decide) (mq e1 e2 ?_)))))))
        exact ok_t rfl (ok_bindx (groundAll_eq (b := 1) (by decide)) (ok_some ⟨gAll_HR hh, ht, QF.th.tr hq⟩))
      · have ec : fX11_canBeAhead mn T (nI 1) z = tst (nI nr) z := by
          show bz (fX7_has 4 (T 3) z) = _
          rw [has_t, hT.1.2.1.2.2.1, bz_tst]
        have em : fX12_isGrain (sI M 2 0) z = tst (nI nr) z := by rw [isGrain_t, r14]
        rcases tst_or (k := nr) z (by omega) with q | ⟨i, hi, rfl, q⟩
        · refine ok_t (ec.trans q) (ok_some ?_)
          exact ok_lt (ok_f in1 (ok_f in2 (ok_lt (ok_t rfl (ok_t (em.trans q) (ok_some bad))))))
        · refine ok_f (by rw [ec, q]; exact i10) (trial_go (by omega) hT1 hH1 (fun r4 r6 M1 M2 e1 e2 hq ht hh => ok_f (by decide) (ok_t rfl ?_)))
          rw [cl (show i < 2 ^ 31 by omega)]
          refine ok_f (kx (by omega) (by decide)) (ok_some ?_)
          refine ok_lt (ok_f in1 (ok_f in2 (ok_lt (ok_t rfl (ok_f (by rw [em, q]; exact i10) (ok_lt (ok_f (by decide) (mq e1 e2 ?_))))))))
          rw [i4p, cl (show 4 + i < 2 ^ 31 by omega)]
          exact ok_f (by decide) (ok_t rfl (ok_f (kx (by omega) (by decide)) (ok_some ⟨hh.2.1.1 i (by omega), ht, QF.th.tr hq⟩)))
      · refine ok_f (show ¬ fX11_canBeAhead mn T (nI 2) z = 0 from i10) (trial_go (by omega) hT1 hH1 (fun r4 r6 M1 M2 e1 e2 hq ht hh => ok_f (by decide) (ok_f (by decide) (ok_t rfl (ok_some ?_)))))
        refine ok_lt (ok_f in1 (ok_f in2 (ok_lt (ok_f (by decide) (ok_lt (ok_f (by decide) (mq e1 e2 ?_)))))))
        exact ok_f (by decide) (ok_f (by decide) (ok_t rfl (ok_some ⟨hh.1.2.1, ht, QF.th.tr hq⟩)))
      · refine ok_f (show ¬ fX11_canBeAhead mn T (nI 3) z = 0 from i10) (trial_go (by omega) hT1 hH1 (fun r4 r6 M1 M2 e1 e2 hq ht hh => ok_f (by decide) (ok_f (by decide) (ok_f (by decide) (ok_t rfl (ok_some ?_))))))
        refine ok_lt (ok_f in1 (ok_f in2 (ok_lt (ok_f (by decide) (ok_lt (ok_f (by decide) (mq e1 e2 ?_)))))))
        refine ok_f (by decide) (ok_f (by decide) (ok_f (by decide) (ok_t rfl (ok_some ⟨?_, ht, QF.th.tr hq⟩))))
        have e0 := (hH1.Q hq).1.2.2.2.2.1
        have e1 := hh.1.2.2.2.2.1
        show gI r6.2.2 4 - gI now 4 = gA M2 57 1 - gA M2 57 0
        rw [e0, e1]
      · have ec : fX11_canBeAhead mn T (nI 4) z = tst (nI ng) z := by
          show bz (fX7_has 6 (T 2) z) = _
          rw [has_t, hT.1.2.1.2.1, bz_tst]
        have em : fX12_isGuest (sI M 2 0) z = tst (nI ng) z := by rw [isGuest_t, r13]
        rcases tst_or (k := ng) z (by omega) with q | ⟨i, hi, rfl, q⟩
        · refine ok_t (ec.trans q) (ok_some ?_)
          exact ok_lt (ok_f in1 (ok_f in2 (ok_lt (ok_f (by decide) (ok_lt (ok_t rfl (ok_t (em.trans q) (ok_some bad))))))))
        · refine ok_f (by rw [ec, q]; exact i10) (trial_go (by omega) hT1 hH1 (fun r4 r6 M1 M2 e1 e2 hq ht hh => ok_f (by decide) (ok_f (by decide) (ok_f (by decide) (ok_f (by decide) ?_)))))
          rw [cl (show i < 2 ^ 31 by omega)]
          refine ok_f (kx (by omega) (by decide)) (ok_some ?_)
          refine ok_lt (ok_f in1 (ok_f in2 (ok_lt (ok_f (by decide) (ok_lt (ok_t rfl (ok_f (by rw [em, q]; exact i10) (mq e1 e2 ?_))))))))
          rw [i6p, cl (show 6 + i < 2 ^ 31 by omega)]
          exact ok_f (by decide) (ok_f (by decide) (ok_f (by decide) (ok_f (by decide) (ok_f (kx (by omega) (by decide)) (ok_some ⟨hh.2.1.2.1 i (by omega), ht, QF.th.tr hq⟩)))))
