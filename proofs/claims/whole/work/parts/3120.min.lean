/-! one minute -/
def tgR (b na ng nr : Nat) (T : Nat → St) (u M : St) (r : St × (Nat → St) × St) (M' : St) : Prop := fT T r.2.1 ∧ FR b M M' ∧ HR r.2.2 M' b na ng nr ∧ r.2.2.2.1 = u.2.1 ∧ M'.2.1 = M.2.1 ∧ gI r.2.2 2 = gI u 2 ∧ gI r.2.2 3 = gI u 3 ∧ gI r.2.2 0 = gI u 0
theorem turn_of {T : Nat → St} {ml nm u M : St} {na ng nr ns b : Nat} {s : Int32} (hb : b < 2) (hT : TR T M na ng nr ns) (hH : HR u M b na ng nr) (hR : MR ml M) : ok (fX2_turnStones 7 ml nm T u s) (fun r => ok (fX12_layMill M (nI b) s) (fun M1 => gA M1 55 b = gA M 55 b ∧ ok (fX12_boundLaw M1 1 ((gA M 55 b + s) / 2) (-99) 99) (fun r' => tgR b na ng nr T u M r (sA r'.2 55 b (fX12_bounded_ r'.1 (-99) 99))))) := by
  unfold fX2_turnStones
  refine ok_bind (ok_mono (stone_of (nm := nm) (s := s) (d := (gA M 55 b + s) / 2) (lo := -99) (hi := 99) hb (Or.inl rfl) hT hH hR (by decide)) (fun r hr => ok_lt (ok_lt (ok_lt (ok_lt (ok_some ?_))))))
  refine ok_mono hr (fun M1 h1 => ⟨by rw [h1.1.A], ok_mono h1.2 (fun r' q => ?_)⟩)
  obtain ⟨q1, q2, q3⟩ := q
  have hv1 := hH.1.2.1
  have fr : FR b M (sA r'.2 55 b (fX12_bounded_ r'.1 (-99) 99)) := (FR.N q2).tr (FR.wA (by decide) (by decide) rfl)
  have e : (fX11_within (if r.1 = -9223372036854775808 then ((gI u 1 + s) / 2).toInt64 else r.1) (-99) 99).toInt32 = fX12_bounded_ r'.1 (-99) 99 := by
    rcases q3 with ⟨c, c2⟩ | ⟨c, c2⟩
    · rw [if_pos c, c2, hv1]
      exact bound_d (lo := -99) (hi := 99) (by decide)
    · rw [if_neg c, c2]
      have := within_9 (v := r.1) (lo := -99) (hi := 99) (by decide)
      exact (bound_in this.1 this.2).symm
  have hb9 := bound_r (d := r'.1) (lo := -99) (hi := 99) (by decide)
  refine ⟨q1, fr, ?_, rfl, q2.2.1, rfl, rfl, rfl⟩
  show HR (sI u 1 _) _ b na ng nr
  rw [e]
  exact (hH.N q2).w55 hb9.1 hb9.2
theorem grind1_eq {u : St} {g : Nat} {d : Int32} (hg : g < 4) : fX1_grind u (nI g) d = some (sI (sA u 9 g (gA u 9 g + d)) 6 (gI u 6 + d)) := by
  unfold fX1_grind
  rw [cl (show g < 2 ^ 31 by omega)]
  exact fn (kx hg (by decide)) (lt_c (fn (kx hg (by decide)) rfl))
/-- the reference's grinding, by the grain -/
def gnB (b : Nat) (M : St) : Option St := if 0 ≤ gA M 55 b then some M else if gA M 56 b < 0 then some M else if gI M 68 = 0 then (if (4 : Int32) * nI b + gA M 56 b < 0 ∨ 8 ≤ ((4 : Int32) * nI b + gA M 56 b).toNatClampNeg then none else if gA M 63 ((4 : Int32) * nI b + gA M 56 b).toNatClampNeg ≤ 0 then some M else if (4 : Int32) * nI b + gA M 56 b < 0 ∨ 8 ≤ ((4 : Int32) * nI b + gA M 56 b).toNatClampNeg then none else if (4 : Int32) * nI b + gA M 56 b < 0 ∨ 8 ≤ ((4 : Int32) * nI b + gA M 56 b).toNatClampNeg then none else some (sA M 63 ((4 : Int32) * nI b + gA M 56 b).toNatClampNeg (gA M 63 ((4 : Int32) * nI b + gA M 56 b).toNatClampNeg - 1))) else some M
theorem gn_neg {M : St} {b : Nat} {x : Int32} (hb : b < 2) (h : gA M 55 b ≤ 0) : fX12_grinds M (nI b) x = gnB b M := by
  have cb : ¬ (nI b < 0 ∨ 2 ≤ b) := kx hb (by decide)
  unfold fX12_grinds
  rw [cl (show b < 2 ^ 31 by omega)]
  refine fn cb (lt_c (tp h (lt_c (tp (by decide) (fn cb ?_)))))
  unfold gnB
  by_cases c1 : 0 ≤ gA M 55 b
  · rw [if_pos c1, if_pos c1]
  · rw [if_neg c1, if_neg c1]
    refine fn cb ?_
    by_cases c2 : gA M 56 b < 0
    · rw [if_pos c2, if_pos c2]
    · rw [if_neg c2, if_neg c2]
      by_cases c3 : gI M 68 = 0
      · rw [if_pos c3, if_pos c3]
        refine fn cb ?_
        by_cases c4 : (4 : Int32) * nI b + gA M 56 b < 0 ∨ 8 ≤ ((4 : Int32) * nI b + gA M 56 b).toNatClampNeg
        · rw [if_pos c4, if_pos c4]
        · rw [if_neg c4, if_neg c4]
          by_cases c5 : gA M 63 ((4 : Int32) * nI b + gA M 56 b).toNatClampNeg ≤ 0
          · rw [if_pos c5, if_pos c5]
          · rw [if_neg c5, if_neg c5]
            refine fn cb (lt_c ?_)
            rfl
      · rw [if_neg c3, if_neg c3]
theorem gn_none {M : St} {b : Nat} {x : Int32} (hb : b < 2) (h : ¬ gA M 55 b ≤ 0) (hg : fX12_grainAt M (nI b) (gA M 55 b) = some (-1)) : fX12_grinds M (nI b) x = some M := by
  have cb : ¬ (nI b < 0 ∨ 2 ≤ b) := kx hb (by decide)
  have h0 : 0 ≤ gA M 55 b := by rw [i_le] at *; rw [show (0 : Int32).toInt = 0 from rfl] at *; omega
  unfold fX12_grinds
  rw [cl (show b < 2 ^ 31 by omega)]
  exact fn cb (lt_c (fn h (fn cb (bd_c hg (lt_c (tp (by decide) (fn cb (tp h0 rfl))))))))
theorem gn_pos {M M1 : St} {r' : Int32 × St} {b g : Nat} {s : Int32} (hb : b < 2) (hg4 : g < 4) (h : ¬ gA M 55 b ≤ 0) (hg : fX12_grainAt M (nI b) (gA M 55 b) = some (nI g)) (hl : fX12_layMill M (nI b) s = some M1) (hbl : fX12_boundLaw M1 2 1 0 9 = some r') (hfr : fN M r'.2) : fX12_grinds M (nI b) s = (if fX12_bounded_ r'.1 0 (gA M 33 g - gA M 63 (4 * b + g)) ≤ 0 then some (sA (sA r'.2 63 (4 * b + g) (gA M 63 (4 * b + g) + fX12_bounded_ r'.1 0 (gA M 33 g - gA M 63 (4 * b + g)))) 56 b (gA M 56 b)) else some (sA (sA r'.2 63 (4 * b + g) (gA M 63 (4 * b + g) + fX12_bounded_ r'.1 0 (gA M 33 g - gA M 63 (4 * b + g)))) 56 b (nI g))) := by
  have cb : ¬ (nI b < 0 ∨ 2 ≤ b) := kx hb (by decide)
  have c8 : ¬ (nI (4 * b + g) < 0 ∨ 8 ≤ 4 * b + g) := kx (by omega) (by decide)
  have h0 : 0 ≤ gA M 55 b := by rw [i_le] at *; rw [show (0 : Int32).toInt = 0 from rfl] at *; omega
  have e55 : ∀ v w, 0 ≤ gA (sA (sA r'.2 63 (4 * b + g) v) 56 b w) 55 b := fun v w => by
    rw [gA_row _ _ _ _ (by decide), gA_row _ _ _ _ (by decide), hfr.A]; exact h0
  have e56 : ∀ v, gA (sA r'.2 63 (4 * b + g) v) 56 b = gA M 56 b := fun v => by
    rw [gA_row _ _ _ _ (by decide), hfr.A]
  unfold fX12_grinds
  rw [cl (show b < 2 ^ 31 by omega)]
  refine fn cb (lt_c (fn h (fn cb (bd_c hg (lt_c (fn (nI_pos (by omega)) (bd_c hl (bd_c hbl (bd_c (leftOf_eq hb hg4) (lt_c (lt_c ?_)))))))))))
  rw [i4m, cl (show 4 * b + g < 2 ^ 31 by omega), hfr.A 33, hfr.A 63]
  refine fn c8 (lt_c (fn c8 (lt_c (lt_c ?_))))
  by_cases c : fX12_bounded_ r'.1 0 (gA M 33 g - gA M 63 (4 * b + g)) ≤ 0
  · rw [if_pos c, if_pos c, e56]
    exact fn cb (fn cb (lt_c (fn cb (tp (e55 _ _) rfl))))
  · rw [if_neg c, if_neg c]
    exact fn cb (lt_c (fn cb (tp (e55 _ _) rfl)))
theorem HR.eqA {u M M' : St} {b na ng nr : Nat} (h : HR u M b na ng nr) (e : ∀ r i, gA M' r i = gA M r i) : HR u M' b na ng nr := h.M (funext (e 33)) (fun r i _ _ _ => e r i)
theorem ok_j {α β : Type} {F : α → Option β} {c : Prop} [Decidable c] {a a' v : α} {P : β → Prop} (h1 : c → a = v) (h2 : ¬ c → a' = v) (h : ok (F v) P) : ok (lt F fun j => if c then j a else j a') P := ok_if (c := c) (fun q => by rw [h1 q]; exact h) (fun q => by rw [h2 q]; exact h)
theorem grind_of {T : Nat → St} {ml nm u M : St} {na ng nr ns b : Nat} {s : Int32} (hb : b < 2) (hT : TR T M na ng nr ns) (hH : HR u M b na ng nr) (hR : MR ml M) : ok (fX2_grind 7 ml nm T u s) (fun r => ok (fX12_grinds M (nI b) s) (fun M' => tgR b na ng nr T u M r M')) := by
  have h4 := hT.1.1.2.2.1
  have h5 := hT.1.2.1.2.2.1
  have v1 := hH.1.2.1
  have v7 := hH.1.2.2.2.2.2.2.1
  have z : (0 : Int32).toInt = 0 := rfl
  have same : ∀ nm', tgR b na ng nr T u M (nm', T, u) M := fun nm' => ⟨fT.rf, FR.rf, hH, rfl, rfl, rfl, rfl, rfl⟩
  unfold fX2_grind
  rw [v1]
  by_cases c0 : gA M 55 b ≤ 0
  · rw [gn_neg hb c0]
    refine ok_if (fun c => ?_) (fun c => ?_)
    · refine ok_bindx (grainAt_0 h5 c0) (ok_t rfl (ok_some ?_))
      unfold gnB
      exact ok_t c (ok_some (same _))
    · unfold fX2_giveBack gnB
      rcases hR.2.2.2.1 with ⟨m5, m68⟩ | ⟨m5, m68⟩
      · rw [m5, m68, v7, has_t, h5]
        rcases hH.2.2.2.2.2.2.2.2 with q | ⟨g, hg, q⟩
        · rw [q]
          refine ok_bind (ok_f i10 (ok_t (show tst (nI nr) (-1) = 0 from if_pos (by decide)) (ok_some (ok_some ?_))))
          exact ok_f c (ok_t (by decide) (ok_some (same _)))
        · rw [q, tst_1 hg (by omega), i4m, cl (show g < 2 ^ 31 by omega), cl (show 4 * b + g < 2 ^ 31 by omega), hH.2.1.1 g (by omega)]
          have c4 : ¬ (nI g < 0 ∨ 4 ≤ g) := kx (by omega) (by decide)
          have c8 : ¬ (nI (4 * b + g) < 0 ∨ 8 ≤ 4 * b + g) := kx (by omega) (by decide)
          have cg : ¬ nI g < 0 := nI_pos (by omega)
          refine ok_bind (ok_f i10 (ok_f i10 (ok_f c4 ?_)))
          refine ok_if (fun c2 => ok_some (ok_some ?_)) (fun c2 => ?_)
          · exact ok_f c (ok_f cg (ok_t rfl (ok_f c8 (ok_t c2 (ok_some (same _))))))
          · refine ok_bindx (grind1_eq (by omega)) (ok_some (ok_some ?_))
            refine ok_f c (ok_f cg (ok_t rfl (ok_f c8 (ok_f c2 (ok_f c8 (ok_f c8 (ok_some ?_)))))))
            obtain ⟨k, t, hk, ht, ek, et⟩ := hH.2.2.2.2.2.1.1 g hg
            have k1 : 0 < k := by
              rcases Nat.eq_zero_or_pos k with q | q
              · exact absurd (show gA M 63 (4 * b + g) ≤ 0 by rw [ek, q]; decide) c2
              · exact q
            have ed : gA M 63 (4 * b + g) + (-1) = nI (k - 1) := by
              obtain ⟨j, rfl⟩ : ∃ j, k = j + 1 := ⟨k - 1, by omega⟩
              rw [ek]; exact nI_m1
            have ed2 : gA M 63 (4 * b + g) - 1 = nI (k - 1) := by
              obtain ⟨j, rfl⟩ : ∃ j, k = j + 1 := ⟨k - 1, by omega⟩
              rw [ek]; exact nI_sub1
            have hw := hH.w63 (d := -1) hg (show k - 1 ≤ t by omega) ht et ed
            rw [hH.2.1.1 g (by omega), ed, ed2]
            exact ⟨fT.rf, FR.wA (by decide) (by decide) (by unfold hf; rw [if_neg (by decide), if_pos rfl]; omega), hw, rfl, rfl, rfl, rfl, rfl⟩
      · refine ok_bind (ok_t m5 (ok_some (ok_some ?_)))
        exact ok_f c (ok_if (fun _ => ok_some (same _)) (fun _ => ok_f (by rw [m68]; exact i10) (ok_some (same _))))
  · have c1 : 0 ≤ gA M 55 b := by rw [i_le] at *; rw [z] at *; omega
    obtain ⟨r, e1, e2, hr⟩ := grainAt_of (ml := ml) (v := gA M 55 b) hb hT hH c0
    refine ok_t c1 (ok_bindx e1 ?_)
    rcases hr with rfl | ⟨g, k, t, hg, rfl, ek, et, hk, ht⟩
    · exact ok_t rfl (ok_some (ok_eq (gn_none hb c0 e2) (same _)))
    · refine ok_f (nI_nn (by omega)) (ok_bind (ok_mono (stone_of (nm := nm) (s := s) (d := 1) (lo := 0) (hi := 9) hb (Or.inr rfl) hT hH hR (by decide)) (fun r4 hr4 => ok_lt ?_)))
      obtain ⟨M1, eM, _, r', er, q1, q2, q3⟩ := hr4
      have eg := gn_pos hb (show g < 4 by omega) c0 e2 eM er q2
      have hT4 := hT.fT q1
      have es := sacks_eq (T := r4.2.2) hT4.1.2.1.2.2.1 hg h4
      have e4 : gA (r4.2.2 3) 4 g = gA M 33 g := (hT4.2.2.2.1 g hg).2.2.2.1
      rw [e4, et] at es
      -- what is ground at most
      have hx : ∃ x : Nat, x ≤ 9 ∧ r'.1 = nI x ∧ (r4.1 = -9223372036854775808 → 1 = nI x) ∧ (¬ r4.1 = -9223372036854775808 → (fX11_within r4.1 0 9).toInt32 = nI x) := by
        rcases q3 with ⟨a1, a2⟩ | ⟨a1, a2⟩
        · exact ⟨1, by omega, a2, fun _ => rfl, fun h => absurd a1 h⟩
        · have w := within_9 (v := r4.1) (lo := 0) (hi := 9) (by decide)
          rw [← a2] at w
          have w1 := w.1
          have w2 := w.2
          rw [z] at w1
          rw [show (9 : Int32).toInt = 9 from rfl] at w2
          obtain ⟨x, hx, ex⟩ := nI_of2 (x := r'.1) (M := 9) (n := 9) rfl (by rw [i_lt, z]; omega) (by rw [i_le]; exact w.2)
          exact ⟨x, hx, ex, fun h => absurd h a1, fun _ => by rw [← ex, a2]; rfl⟩
      obtain ⟨x, hx9, ex, hq1, hq2⟩ := hx
      refine ok_j (v := nI x) hq1 hq2 ?_
      have c4 : ¬ (nI g < 0 ∨ 4 ≤ g) := kx (by omega) (by decide)
      refine ok_bindx es ?_
      rw [cl (show g < 2 ^ 31 by omega), hH.2.1.1 g (by omega), ek, nI_sub (by omega)]
      refine ok_f c4 (ok_lt ?_)
      rw [et, ek, nI_sub (show k ≤ t by omega), ex] at eg
      -- the smaller of both
      have hm : ∃ d, d ≤ t - k ∧ (if nI (t - k) < nI x then nI (t - k) else nI x) = nI d ∧ fX12_bounded_ (nI x) 0 (nI (t - k)) = nI d := by
        show ∃ d, d ≤ t - k ∧ (if nI (t - k) < nI x then nI (t - k) else nI x) = nI d ∧ (if (0 : Int32) ≤ nI x then (if nI x ≤ nI (t - k) then nI x else nI (t - k)) else 0) = nI d
        rw [if_pos (nI_pos' (by omega) : (0 : Int32) ≤ nI x)]
        by_cases c : x ≤ t - k
        · exact ⟨x, c, if_neg (fun q => by rw [nI_ltI (by omega) (by omega)] at q; omega), if_pos (by rw [nI_leI (by omega) (by omega)]; exact c)⟩
        · exact ⟨t - k, by omega, if_pos (by rw [nI_ltI (by omega) (by omega)]; omega), if_neg (fun q => by rw [nI_leI (by omega) (by omega)] at q; omega)⟩
      obtain ⟨d, hd, ed, ed2⟩ := hm
      rw [ed]
      rw [ed2] at eg
      refine ok_if (fun c => ok_some ?_) (fun c => ?_)
      · rw [if_pos c] at eg
        have d0 : d = 0 := by
          rcases Nat.eq_zero_or_pos d with q | q
          · exact q
          · exact absurd c (nI_nle q (by omega))
        subst d0
        rw [nI_add, Nat.add_zero] at eg
        refine ok_eq eg ⟨q1, ?_, ?_, rfl, q2.2.1, rfl, rfl, rfl⟩
        · exact FR.tr (y := sA r'.2 63 (4 * b + g) (nI k)) ((FR.N q2).tr (FR.wA (by decide) (by decide) (by unfold hf; rw [if_neg (by decide), if_pos rfl]; omega))) (FR.wA (by decide) (by decide) rfl)
        · refine hH.eqA (fun r i => ?_)
          rw [gA_sA, gA_sA]
          by_cases a1 : r = 56 ∧ i = b
          · rw [if_pos a1, a1.1, a1.2]
          · rw [if_neg a1]
            by_cases a2 : r = 63 ∧ i = 4 * b + g
            · rw [if_pos a2, a2.1, a2.2, ek]
            · rw [if_neg a2, q2.A]
      · rw [if_neg c] at eg
        rw [nI_add] at eg
        refine ok_bindx (grind1_eq (by omega)) (ok_lt (ok_some (ok_eq eg ⟨q1, ?_, ?_, rfl, q2.2.1, rfl, rfl, rfl⟩)))
        · exact FR.tr (y := sA r'.2 63 (4 * b + g) (nI (k + d))) ((FR.N q2).tr (FR.wA (by decide) (by decide) (by unfold hf; rw [if_neg (by decide), if_pos rfl]; omega))) (FR.wA (by decide) (by decide) rfl)
        · have hw := ((hH.N q2).w63 (d := nI d) hg (show k + d ≤ t by omega) ht (by rw [q2.A]; exact et) (by rw [q2.A, ek, nI_add])).w56 hg
          show HR (sI (sI (sA u 9 g (gA u 9 g + nI d)) 6 (gI u 6 + nI d)) 7 (nI g)) _ b na ng nr
          rw [hH.2.1.1 g (by omega), ek, nI_add]
          exact hw
