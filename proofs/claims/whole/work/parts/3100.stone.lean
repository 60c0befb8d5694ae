/-! coughs -/
theorem rem100 (r : Int64) : -99 ≤ (r - r / 100 * 100).toInt ∧ (r - r / 100 * 100).toInt ≤ 99 := by
  have hr := fb_rngL r
  have h100 : (100 : Int64).toInt = 100 := by decide
  have e : (r / 100).toInt = r.toInt.tdiv 100 := by rw [Int64.toInt_div_of_ne_right _ _ (by decide), h100]
  have key : -99 ≤ r.toInt - r.toInt.tdiv 100 * 100 ∧ r.toInt - r.toInt.tdiv 100 * 100 ≤ 99 ∧ -9223372036854775808 ≤ r.toInt.tdiv 100 * 100 ∧ r.toInt.tdiv 100 * 100 < 9223372036854775808 := by
    by_cases c : 0 ≤ r.toInt
    · rw [Int.tdiv_eq_ediv_of_nonneg c]; omega
    · have : r.toInt.tdiv 100 = -((-r.toInt) / 100) := by
        rw [← Int.tdiv_eq_ediv_of_nonneg (by omega), Int.neg_tdiv, Int.neg_neg]
      rw [this]; omega
  have m : (r / 100 * 100).toInt = r.toInt.tdiv 100 * 100 := by rw [fb_mulL (by rw [e, h100]; omega) (by rw [e, h100]; omega), e, h100]
  rw [fb_subL (by rw [m]; omega) (by rw [m]; omega), m]
  omega
theorem le_to32 {a : Int32} {x : Int64} (h1 : -99 ≤ x.toInt) (h2 : x.toInt ≤ 99) : a ≤ x.toInt32 ↔ a.toInt64 ≤ x := by
  rw [i_le, l_le, Int32.toInt_toInt64, Int64.toInt_toInt32, fb_bmod (by omega) (by omega)]
def coR (b na ng nr : Nat) (u M : St) (r r' : Int32 × St) : Prop := r.1 = r'.1 ∧ FR b M r'.2 ∧ HR r.2 r'.2 b na ng nr ∧ (gI M 65 = 1 → gJ r.2 8 = gJ r'.2 64) ∧ (gI M 65 = 0 → r'.2.2.1 = M.2.1 ∧ r.2.2.1 = u.2.1) ∧ gI r.2 = gI u ∧ gA r'.2 = gA M
theorem cc0 {T : Nat → St} {ml u : St} {k : Nat} (h : gI ml 2 = 0) (h5 : gI (T 0) 5 = nI k) (hk : k ≤ 100) : fX2_isCoughed ml T u = (if k < 50 then (0 : Int32) else 1, u) := by
  unfold fX2_isCoughed
  rw [h, h5]
  refine lt_c (fn (by decide) (fn (by decide) (fn (by decide) (lt_c ?_))))
  by_cases c : k < 50
  · rw [if_pos (show nI k < (50 : Int32) from (nI_ltI (a := k) (b := 50) (by omega) (by omega)).mpr c), if_pos c]; rfl
  · rw [if_neg (show ¬ nI k < (50 : Int32) from fun q => c ((nI_ltI (a := k) (b := 50) (by omega) (by omega)).mp q)), if_neg c]; rfl
theorem cc1a {T : Nat → St} {ml u : St} (h : gI ml 2 = 1) (h5 : gI (T 0) 5 = 0) : fX2_isCoughed ml T u = (0, u) := by
  unfold fX2_isCoughed
  rw [h, h5]
  rfl
theorem cc1b {T : Nat → St} {ml u : St} (h : gI ml 2 = 1) (h5 : gI (T 0) 5 = 100) : fX2_isCoughed ml T u = (1, u) := by
  unfold fX2_isCoughed
  rw [h, h5]
  rfl
theorem cc1c {T : Nat → St} {ml u : St} {k : Nat} (h : gI ml 2 = 1) (h5 : gI (T 0) 5 = nI k) (h0 : 0 < k) (hk : k < 100) : fX2_isCoughed ml T u = (bz (if (nI k).toInt64 ≤ (fX2_draw u).1 - (fX2_draw u).1 / (100 : Int64) * (100 : Int64) then (0 : Int32) else 1), (fX2_draw u).2) := by
  unfold fX2_isCoughed
  rw [h, h5]
  exact lt_c (tp rfl (lt_c (fn (nI_nle h0 (by omega)) (fn (fun q => by have := (nI_leI (a := 100) (b := k) (by omega) (by omega)).mp q; omega) rfl))))
theorem cc2 {T : Nat → St} {ml u : St} (h : gI ml 2 = 2) : fX2_isCoughed ml T u = (0, u) := by
  unfold fX2_isCoughed
  rw [h]
  rfl
theorem cc3 {T : Nat → St} {ml u : St} (h : gI ml 2 = 3) : fX2_isCoughed ml T u = (1, u) := by
  unfold fX2_isCoughed
  rw [h]
  rfl
theorem cough_of {T : Nat → St} {ml u M : St} {na ng nr ns b : Nat} (hT : TR T M na ng nr ns) (hH : HR u M b na ng nr) (hR : MR ml M) (hJ : gI M 65 = 1 → gJ u 8 = gJ M 64) : ok (fX12_isCoughed M) (fun r' => coR b na ng nr u M (fX2_isCoughed ml T u) r') := by
  obtain ⟨t5, _, _, ⟨k, _, hk, e⟩, _⟩ := hT.2.2.2.2.2.1
  have rf : ∀ x : Int32, coR b na ng nr u M (x, u) (x, M) := fun x => ⟨rfl, FR.rf, hH, hJ, fun _ => ⟨rfl, rfl⟩, rfl, rfl⟩
  have e5 : gI (T 0) 5 = nI k := t5.trans e
  have f100 : nI k = 100 ↔ k = 100 := nI_eq (a := k) (b := 100) (by omega) (by omega)
  unfold fX12_isCoughed
  rw [e]
  rcases hR.1 with ⟨q2, q65, q66, q67⟩ | ⟨q2, q65, q66, q67⟩ | ⟨q2, q65, q66, q67⟩ | ⟨q2, q65, q66, q67⟩
  · rw [cc0 q2 e5 hk]
    refine ok_t q66 (ok_t q67 (ok_lt (ok_lt ?_)))
    refine ok_if (fun c => ok_some ?_) (fun c => ok_if (fun c2 => ok_some ?_) (fun c2 => ok_t q65 (ok_if (fun c3 => ok_some ?_) (fun c3 => ok_some ?_))))
    · rw [if_neg (by have := f100.mp c; omega)]; exact rf 1
    · rw [if_pos (by have := (nI_leI (a := k) (b := 0) (by omega) (by omega)).mp c2; omega)]; exact rf 0
    · rw [if_pos ((nI_ltI (a := k) (b := 50) (by omega) (by omega)).mp c3)]; exact rf 0
    · rw [if_neg (fun q => c3 ((nI_ltI (a := k) (b := 50) (by omega) (by omega)).mpr q))]; exact rf 1
  · refine ok_t q66 (ok_t q67 (ok_lt (ok_lt ?_)))
    refine ok_if (fun c => ok_some ?_) (fun c => ok_if (fun c2 => ok_some ?_) (fun c2 => ok_f (by rw [q65]; exact i10) ?_))
    · rw [cc1b q2 (e5.trans c)]; exact rf 1
    · have k0 : k = 0 := by have := (nI_leI (a := k) (b := 0) (by omega) (by omega)).mp c2; omega
      rw [cc1a q2 (by rw [e5, k0]; rfl)]; exact rf 0
    · have h0 : 0 < k := by
        rcases Nat.eq_zero_or_pos k with q | q
        · exact absurd (show nI k ≤ 0 by rw [q]; decide) c2
        · exact q
      have h1 : k < 100 := by
        rcases Nat.lt_or_ge k 100 with q | q
        · exact q
        · exact absurd (f100.mpr (by omega)) c
      rw [cc1c q2 e5 h0 h1]
      unfold fX12_number1 fX2_draw
      rw [hJ q65]
      have hr := rem100 ((gJ M 64 * (1103515245 : Int64) + (12345 : Int64) &&& (2147483647 : Int64)) / (65536 : Int64))
      have h5 := le_to32 (a := nI k) hr.1 hr.2
      have hh : HR (sJ u 8 (gJ M 64 * (1103515245 : Int64) + (12345 : Int64) &&& (2147483647 : Int64))) (sJ M 64 (gJ M 64 * (1103515245 : Int64) + (12345 : Int64) &&& (2147483647 : Int64))) b na ng nr := (hH.u rfl rfl).M rfl (fun _ _ _ _ _ => rfl)
      have rg : ∀ x : Int32, coR b na ng nr u M (x, sJ u 8 (gJ M 64 * (1103515245 : Int64) + (12345 : Int64) &&& (2147483647 : Int64))) (x, sJ M 64 (gJ M 64 * (1103515245 : Int64) + (12345 : Int64) &&& (2147483647 : Int64))) := fun x => ⟨rfl, FR.wJ, hh, fun _ => rfl, fun q => absurd (q65.symm.trans q) (by decide), rfl, rfl⟩
      refine ok_bind (ok_lt (ok_lt (ok_f (by decide) (ok_some ?_))))
      refine ok_if (fun c3 => ok_some ?_) (fun c3 => ok_some ?_)
      · have c4 := h5.mp c3
        have : (if (nI k).toInt64 ≤ (gJ M 64 * (1103515245 : Int64) + (12345 : Int64) &&& (2147483647 : Int64)) / (65536 : Int64) - (gJ M 64 * (1103515245 : Int64) + (12345 : Int64) &&& (2147483647 : Int64)) / (65536 : Int64) / 100 * 100 then (0 : Int32) else 1) = 0 := if_pos c4
        show coR b na ng nr u M (bz (if (nI k).toInt64 ≤ (gJ M 64 * (1103515245 : Int64) + (12345 : Int64) &&& (2147483647 : Int64)) / (65536 : Int64) - (gJ M 64 * (1103515245 : Int64) + (12345 : Int64) &&& (2147483647 : Int64)) / (65536 : Int64) / 100 * 100 then (0 : Int32) else 1), sJ u 8 _) (0, sJ M 64 _)
        rw [this]
        exact rg 0
      · have : (if (nI k).toInt64 ≤ (gJ M 64 * (1103515245 : Int64) + (12345 : Int64) &&& (2147483647 : Int64)) / (65536 : Int64) - (gJ M 64 * (1103515245 : Int64) + (12345 : Int64) &&& (2147483647 : Int64)) / (65536 : Int64) / 100 * 100 then (0 : Int32) else 1) = 1 := if_neg (fun q => c3 (h5.mpr q))
        show coR b na ng nr u M (bz (if (nI k).toInt64 ≤ (gJ M 64 * (1103515245 : Int64) + (12345 : Int64) &&& (2147483647 : Int64)) / (65536 : Int64) - (gJ M 64 * (1103515245 : Int64) + (12345 : Int64) &&& (2147483647 : Int64)) / (65536 : Int64) / 100 * 100 then (0 : Int32) else 1), sJ u 8 _) (1, sJ M 64 _)
        rw [this]
        exact rg 1
  · rw [cc2 q2]
    refine ok_f (by rw [q66]; exact i10) (ok_some ?_)
    rw [q67]
    exact rf 0
  · rw [cc3 q2]
    refine ok_t q66 (ok_f (by rw [q67]; exact i10) (ok_some ?_))
    rw [q67]
    exact rf 1
/-! the laws of the stones -/
theorem i4m1 {b : Nat} : (4 : Int32) * nI b + 1 = nI (4 * b + 1) := i4m (x := 1)
theorem i4m2 {b : Nat} : (4 : Int32) * nI b + 2 = nI (4 * b + 2) := i4m (x := 2)
theorem i4m3 {b : Nat} : (4 : Int32) * nI b + 3 = nI (4 * b + 3) := i4m (x := 3)
def gAll (M : St) (b : Nat) : Int32 := ((gA M 63 (4 * b) + gA M 63 (4 * b + 1)) + gA M 63 (4 * b + 2)) + gA M 63 (4 * b + 3)
theorem groundAll_eq {M : St} {b : Nat} (hb : b < 2) : fX12_groundAll M (nI b) = some (gAll M b) := by
  unfold fX12_groundAll
  rw [i4m1, i4m2, i4m3, i4m0, cl (show 4 * b < 2 ^ 31 by omega), cl (show 4 * b + 1 < 2 ^ 31 by omega), cl (show 4 * b + 2 < 2 ^ 31 by omega), cl (show 4 * b + 3 < 2 ^ 31 by omega)]
  exact fn (kx (by omega) (by decide)) (fn (kx (by omega) (by decide)) (fn (kx (by omega) (by decide)) (fn (kx (by omega) (by decide)) rfl)))
def mN (M : St) (b : Nat) (m s : Int32) : Nat → Int64 := nms m.toInt64 (0 : Int32).toInt64 (0 : Int32).toInt64 s.toInt64 (gA M 55 b).toInt64 (gAll M b).toInt64 (gA M 59 b).toInt64
theorem layMill_of {M : St} {b : Nat} {m s : Int32} (hb : b < 2) (hm : fX12_moodNow M (gA M 53 b) = some m) : ok (fX12_layMill M (nI b) s) (fun M' => fN M M' ∧ ∀ j, j < 7 → gB M' 50 j = mN M b m s j) := by
  unfold fX12_layMill
  rw [cl (show b < 2 ^ 31 by omega), hm]
  have cb : ¬ (nI b < 0 ∨ 2 ≤ b) := kx hb (by decide)
  refine ok_f cb (ok_bind (ok_some (ok_lt (ok_lt (ok_lt (ok_lt (ok_lt (ok_lt (ok_f cb (ok_lt (ok_lt (ok_bindx (groundAll_eq hb) (ok_lt (ok_lt (ok_f cb (ok_lt (ok_lt (ok_some ⟨?_, ?_⟩))))))))))))))))))
  · exact ⟨fun _ _ => rfl, rfl, rfl, fun r h1 _ => (vu_n _ _ h1).trans ((vu_n _ _ h1).trans ((vu_n _ _ h1).trans ((vu_n _ _ h1).trans ((vu_n _ _ h1).trans ((vu_n _ _ h1).trans (vu_n _ _ h1))))))⟩
  · exact j7 rfl rfl rfl rfl rfl rfl rfl
theorem stone_un {T : Nat → St} {ml nm u M : St} {na ng nr ns w : Nat} {s : Int32} (hw : w = 1 ∨ w = 2) (hT : TR T M na ng nr ns) (h : gA M 36 w = 0) : fX2_stoneLaw 7 ml nm T u (nI w) s = some ((-9223372036854775808 : Int64), nm, T) := by
  obtain ⟨_, l1, l2⟩ := hT.2.2.2.2.2.2
  rcases hw with rfl | rfl
  · exact fn (show ¬ (1 : Int32) = 0 by decide) (tp (show (1 : Int32) = 1 from rfl) (tp (l1.1.trans h) rfl))
  · exact fn (show ¬ (2 : Int32) = 0 by decide) (fn (show ¬ (2 : Int32) = 1 by decide) (tp (show (2 : Int32) = 2 from rfl) (tp (l2.1.trans h) rfl)))
theorem stone_to {T : Nat → St} {ml nm u M : St} {na ng nr ns b w : Nat} {m s : Int32} (hw : w = 1 ∨ w = 2) (hT : TR T M na ng nr ns) (hH : HR u M b na ng nr) (hm : fX2_moodOn ml T u = some m) (h : gA M 36 w = 1) : ∃ nm', (∀ j, j < 7 → gB nm' 0 j = mN M b m s j) ∧ fX2_stoneLaw 7 ml nm T u (nI w) s = (fX0_value 7 (T (5 + w)) nm').bind fun r => some (r.1, nm', va_up T (5 + w) r.2) := by
  obtain ⟨_, l1, l2⟩ := hT.2.2.2.2.2.2
  obtain ⟨⟨v0, v1, v2, v3, v4, v5, v7, v6⟩, _⟩ := hH
  refine ⟨sB (sB (sB (sB (sB (sB (sB nm 0 0 m.toInt64) 0 1 0) 0 2 0) 0 3 s.toInt64) 0 4 (gI u 1).toInt64) 0 5 (gI u 6).toInt64) 0 6 (gI u 0).toInt64, ?_, ?_⟩
  · unfold mN gAll
    rw [← v0, ← v1, ← v6]
    exact j7 rfl rfl rfl rfl rfl rfl rfl
  · unfold fX2_stoneLaw
    rw [hm]
    rcases hw with rfl | rfl
    · exact fn (show ¬ (1 : Int32) = 0 by decide) (tp (show (1 : Int32) = 1 from rfl) (fn (by rw [l1.1, h]; exact i10) rfl))
    · exact fn (show ¬ (2 : Int32) = 0 by decide) (fn (show ¬ (2 : Int32) = 1 by decide) (tp (show (2 : Int32) = 2 from rfl) (fn (by rw [l2.1, h]; exact i10) rfl)))
/-- the law of a stone, and the reference's way to it -/
def stR (T : Nat → St) (M : St) (d lo hi : Int32) (r : Int64 × St × (Nat → St)) (r' : Int32 × St) : Prop := fT T r.2.2 ∧ fN M r'.2 ∧ ((r.1 = -9223372036854775808 ∧ r'.1 = d) ∨ (r.1 ≠ -9223372036854775808 ∧ r'.1 = (fX11_within r.1 lo.toInt64 hi.toInt64).toInt32))
theorem stone_of {T : Nat → St} {ml nm u M : St} {na ng nr ns b w : Nat} {s lo hi : Int32} {d : Int32} (hb : b < 2) (hw : w = 1 ∨ w = 2) (hT : TR T M na ng nr ns) (hH : HR u M b na ng nr) (hR : MR ml M) (hl : lo.toInt ≤ hi.toInt) : ok (fX2_stoneLaw 7 ml nm T u (nI w) s) (fun r => ok (fX12_layMill M (nI b) s) (fun M1 => fN M M1 ∧ ok (fX12_boundLaw M1 (nI w) d lo hi) (fun r' => stR T M d lo hi r r'))) := by
  obtain ⟨m, e1, e2, h9⟩ := moodOn_of hT hH hR
  have hlw : LR (T (5 + w)) M w := by
    rcases hw with rfl | rfl
    · exact hT.2.2.2.2.2.2.2.1
    · exact hT.2.2.2.2.2.2.2.2
  have hlm := layMill_of (s := s) hb e2
  rcases hlw.2 with q0 | ⟨q1, _⟩
  · refine ok_eq (stone_un hw hT q0) (ok_mono hlm (fun M1 h1 => ⟨h1.1, ?_⟩))
    exact ok_eq (bl_un (by omega) (by rw [h1.1.A]; exact q0)) ⟨fT.rf, h1.1, Or.inl ⟨rfl, rfl⟩⟩
  · obtain ⟨nm', hn, e⟩ := stone_to (s := s) (nm := nm) hw hT hH e1 q1
    rw [e]
    obtain ⟨M1, eM, h1, hv⟩ := hlm
    have hL : LR (T (5 + w)) M1 w := by
      have := (hT.N h1).2.2.2.2.2.2
      rcases hw with rfl | rfl
      · exact this.2.1
      · exact this.2.2
    refine ok_bind (ok_mono (bl_of (nm := nm') (d := d) (lo := lo) (hi := hi) (show w < 3 by omega) hL (by rw [h1.A]; exact q1) (fun j hj => ⟨(hn j hj).trans (hv j hj).symm, by rw [hv j hj]; exact nms_b j⟩) hl) (fun r hr => ok_some ⟨M1, eM, h1, ?_⟩))
    refine ok_mono hr (fun r' q => ⟨fT.up q.2.1, h1.tr (fN.L q.1), ?_⟩)
    rcases q.2.2 with ⟨c, c2⟩ | ⟨c, _, c2⟩
    · exact Or.inl ⟨c, c2⟩
    · exact Or.inr ⟨c, c2⟩
