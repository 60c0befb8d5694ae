/-! the row of seats -/
def apC (ml : St) (m : Int32) (nf : Nat) (s k g : Int32) (u : St) (x : Int32) (nm : St) (T : Nat → St) : Option (Int32 × St × (Nat → St) × St) :=
  if g < 0 ∨ 6 ≤ g.toNatClampNeg then none
  else if x ≤ 0 then fX2_applause_L1 ml 7 m nf (s + x) x (k + 1) nm T (sA u 11 g.toNatClampNeg x)
  else if g < 0 ∨ 6 ≤ g.toNatClampNeg then none
  else if (9999 : Int32) ≤ gA (sA u 11 g.toNatClampNeg x) 10 g.toNatClampNeg then fX2_applause_L1 ml 7 m nf (s + x) x (k + 1) nm T (sA u 11 g.toNatClampNeg x)
  else if g < 0 ∨ 6 ≤ g.toNatClampNeg then none
  else if g < 0 ∨ 6 ≤ g.toNatClampNeg then none
  else fX2_applause_L1 ml 7 m nf (s + x) x (k + 1) nm T (sA (sA u 11 g.toNatClampNeg x) 10 g.toNatClampNeg (gA (sA u 11 g.toNatClampNeg x) 10 g.toNatClampNeg + 1))
theorem ap_t {ml : St} {m : Int32} {nf : Nat} {s x k : Int32} {nm u : St} {T : Nat → St} : fX2_applause_L1 ml 7 m (nf + 1) s x k nm T u = if (6 : Int32) ≤ k then some (s, nm, T, u) else if k < 0 ∨ 6 ≤ k.toNatClampNeg then none else if fX7_has 6 (T 2) (gA u 12 k.toNatClampNeg) = 0 then fX2_applause_L1 ml 7 m nf s x (k + 1) nm T u else if (if gI u 2 = (-1 : Int32) then (1 : Int32) else if gA u 12 k.toNatClampNeg = gI ml 4 then (1 : Int32) else 0) = 0 then (fX2_clapOf 7 ml nm T u (gA u 12 k.toNatClampNeg) m x).bind fun r => apC ml m nf s k (gA u 12 k.toNatClampNeg) u r.1 r.2.1 r.2.2 else apC ml m nf s k (gA u 12 k.toNatClampNeg) u 0 nm T := rfl
def cpW (b : Int32) (nf : Nat) (s k g x : Int32) (M : St) (v : Int32) : Option (Int32 × St) := if (6 : Int32) * b + g < 0 ∨ 12 ≤ ((6 : Int32) * b + g).toNatClampNeg then none else fX12_claps_L1 b nf (s + x) x (k + 1) (sA M 61 ((6 : Int32) * b + g).toNatClampNeg v)
def cpC (b : Int32) (nf : Nat) (s k g : Int32) (x : Int32) (M : St) : Option (Int32 × St) :=
  if (6 : Int32) * b + g < 0 ∨ 12 ≤ ((6 : Int32) * b + g).toNatClampNeg then none
  else if x ≤ 0 then (if (6 : Int32) * b + g < 0 ∨ 12 ≤ ((6 : Int32) * b + g).toNatClampNeg then none else cpW b nf s k g x (sA M 62 ((6 : Int32) * b + g).toNatClampNeg x) (gA (sA M 62 ((6 : Int32) * b + g).toNatClampNeg x) 61 ((6 : Int32) * b + g).toNatClampNeg))
  else if (6 : Int32) * b + g < 0 ∨ 12 ≤ ((6 : Int32) * b + g).toNatClampNeg then none
  else if (9999 : Int32) ≤ gA (sA M 62 ((6 : Int32) * b + g).toNatClampNeg x) 61 ((6 : Int32) * b + g).toNatClampNeg then (if (6 : Int32) * b + g < 0 ∨ 12 ≤ ((6 : Int32) * b + g).toNatClampNeg then none else cpW b nf s k g x (sA M 62 ((6 : Int32) * b + g).toNatClampNeg x) (gA (sA M 62 ((6 : Int32) * b + g).toNatClampNeg x) 61 ((6 : Int32) * b + g).toNatClampNeg))
  else if (6 : Int32) * b + g < 0 ∨ 12 ≤ ((6 : Int32) * b + g).toNatClampNeg then none
  else cpW b nf s k g x (sA M 62 ((6 : Int32) * b + g).toNatClampNeg x) (gA (sA M 62 ((6 : Int32) * b + g).toNatClampNeg x) 61 ((6 : Int32) * b + g).toNatClampNeg + 1)
theorem cp_t {b : Int32} {nf : Nat} {s x k : Int32} {M : St} : fX12_claps_L1 b (nf + 1) s x k M = if gI M 13 ≤ k then some (s, M) else if (6 : Int32) * b + k < 0 ∨ 12 ≤ ((6 : Int32) * b + k).toNatClampNeg then none else if b < 0 ∨ 2 ≤ b.toNatClampNeg then none else if 0 ≤ gA M 53 b.toNatClampNeg then (if b < 0 ∨ 2 ≤ b.toNatClampNeg then none else (fX12_clapOf M b (gA M 60 ((6 : Int32) * b + k).toNatClampNeg) (gA M 53 b.toNatClampNeg) x).bind fun r => cpC b nf s k (gA M 60 ((6 : Int32) * b + k).toNatClampNeg) r.1 r.2) else cpC b nf s k (gA M 60 ((6 : Int32) * b + k).toNatClampNeg) 0 M := rfl
theorem HR.self {u M : St} {b na ng nr r i : Nat} (h : HR u M b na ng nr) : HR u (sA M r i (gA M r i)) b na ng nr := by
  have e : ∀ r' i', gA (sA M r i (gA M r i)) r' i' = gA M r' i' := fun r' i' => by
    rw [gA_sA]
    by_cases c : r' = r ∧ i' = i
    · rw [if_pos c, c.1, c.2]
    · rw [if_neg c]
  exact h.M (funext (e 33)) (fun r i _ _ _ => e r i)
/-- the class goes on over the empty seats -/
theorem ap_rest {T : Nat → St} {ml nm u M : St} {na ng nr ns b : Nat} {m s x : Int32} (hT : TR T M na ng nr ns) (hH : HR u M b na ng nr) : ∀ (d nf k : Nat), k + d = 6 → d < nf → ng ≤ k → fX2_applause_L1 ml 7 m nf s x (nI k) nm T u = some (s, nm, T, u)
  | 0, nf + 1, k, h, _, _ => by
    rw [ap_t]
    exact tp (show nI 6 ≤ nI k by rw [nI_leI (by omega) (by omega)]; omega) rfl
  | d + 1, nf + 1, k, h, hf, hk => by
    rw [ap_t, cl (show k < 2 ^ 31 by omega)]
    obtain ⟨f, s1, _, s3, _⟩ := hH.2.2.2.2.1
    have e : gA u 12 k = nI k := by rw [hH.2.1.2.2.2 k (by omega), s1 k (by omega), s3 k hk (by omega)]
    refine fn (show ¬ nI 6 ≤ nI k by rw [nI_leI (by omega) (by omega)]; omega) (fn (kx (by omega) (by decide)) (tp ?_ ?_))
    · rw [e, has_t, hT.1.2.1.2.1]
      unfold tst
      rw [if_neg (nI_pos (by omega)), if_pos (by rw [nI_leI (by omega) (by omega)]; omega)]
    · rw [nI_1]
      exact ap_rest hT hH d nf (k + 1) (by omega) (by omega) (by omega)
def apR (b na ng nr : Nat) (T : Nat → St) (u M : St) (y : Int32 × St × (Nat → St) × St) (y' : Int32 × St) : Prop := y.1 = y'.1 ∧ fT T y.2.2.1 ∧ FR b M y'.2 ∧ HR y.2.2.2 y'.2 b na ng nr ∧ y.2.2.2.2.1 = u.2.1 ∧ y'.2.2.1 = M.2.1 ∧ gI y.2.2.2 = gI u ∧ ∀ r, r ≠ 61 → r ≠ 62 → gA y'.2 r = gA M r
theorem apl_L {ml : St} {na ng nr ns b : Nat} {m : Int32} (hb : b < 2) (h9 : nn m 0 9) : ∀ (d nf nf2 k : Nat) (T : Nat → St) (nm u M : St) (s x : Int32), k + d = ng → d + 6 < nf → d < nf2 → TR T M na ng nr ns → HR u M b na ng nr → MR ml M → fX12_moodNow M (gA M 53 b) = some m → ok (fX2_applause_L1 ml 7 m nf s x (nI k) nm T u) (fun y => ok (fX12_claps_L1 (nI b) nf2 s x (nI k) M) (fun y' => apR b na ng nr T u M y y'))
  | 0, nf, nf2 + 1, k, T, nm, u, M, s, x, h, g1, _, hT, hH, hR, hm => by
    have h6 := hT.1.1.2.1
    refine ok_eq (ap_rest hT hH (6 - k) nf k (by omega) (by omega) (by omega)) ?_
    rw [cp_t, hT.1.2.2.2.1]
    exact ok_t (by rw [nI_leI (by omega) (by omega)]; omega) (ok_some ⟨rfl, fT.rf, FR.rf, hH, rfl, rfl, rfl, fun _ _ _ => rfl⟩)
  | d + 1, nf + 1, nf2 + 1, k, T, nm, u, M, s, x, h, g1, g2, hT, hH, hR, hm => by
    have h6 := hT.1.1.2.1
    obtain ⟨f, s1, s2, s3, s4⟩ := hH.2.2.2.2.1
    have hg := s2 k (by omega)
    have e : gA M 60 (6 * b + k) = nI (f k) := s1 k (by omega)
    have eu : gA u 12 k = nI (f k) := by rw [hH.2.1.2.2.2 k (by omega)]; exact e
    generalize f k = g at hg e eu
    clear s1 s2 s3 s4 f
    -- the rest, once the claps are known
    have key : ∀ (v : Int32) (nm' : St) (T' : Nat → St) (M' : St), fT T T' → fN M M' → ok (apC ml m nf s (nI k) (nI g) u v nm' T') (fun y => ok (cpC (nI b) nf2 s (nI k) (nI g) v M') (fun y' => apR b na ng nr T u M y y')) := by
      intro v nm' T' M' hT' hM'
      have hT2 := (hT.fT hT').N hM'
      have hH2 := hH.N hM'
      have hR2 := hR.N hM'
      have hm2 : fX12_moodNow M' (gA M' 53 b) = some m := by rw [moodNow_c (hM'.I (by decide)) (hM'.I (by decide)) (hM'.A 25), hM'.A 53]; exact hm
      have h62 := hH2.w62 (g := g) (v := v) (by omega)
      have f62 : FR b M' (sA M' 62 (6 * b + g) v) := FR.wA (by decide) (by decide) (by unfold hf; rw [if_neg (by decide), if_neg (by decide)]; omega)
      have c6 : ¬ (nI g < 0 ∨ 6 ≤ g) := kx (by omega) (by decide)
      have c12 : ¬ (nI (6 * b + g) < 0 ∨ 12 ≤ 6 * b + g) := kx (by omega) (by decide)
      -- one step on, by what the tired row holds
      have go : ∀ (u2 : St) (w : Int32), HR u2 (sA (sA M' 62 (6 * b + g) v) 61 (6 * b + g) w) b na ng nr → gI u2 = gI u → u2.2.1 = u.2.1 → ok (fX2_applause_L1 ml 7 m nf (s + v) v (nI k + 1) nm' T' u2) (fun y => ok (cpW (nI b) nf2 s (nI k) (nI g) v (sA M' 62 (6 * b + g) v) w) (fun y' => apR b na ng nr T u M y y')) := by
        intro u2 w hu2 e1 e2
        have f61 : FR b M' (sA (sA M' 62 (6 * b + g) v) 61 (6 * b + g) w) := f62.tr (FR.wA (by decide) (by decide) (by unfold hf; rw [if_neg (by decide), if_neg (by decide)]; omega))
        rw [nI_1]
        refine ok_mono (apl_L hb h9 d nf nf2 (k + 1) T' nm' u2 _ (s + v) v (by omega) (by omega) (by omega) (hT2.fr f61) hu2 (hR2.fr f61) hm2) (fun y hy => ?_)
        unfold cpW
        rw [i6m, cl (show 6 * b + g < 2 ^ 31 by omega), nI_1]
        refine ok_f c12 (ok_mono hy (fun y' q => ?_))
        obtain ⟨q1, q2, q3, q4, q5, q6, q7, q8⟩ := q
        refine ⟨q1, hT'.tr q2, (FR.N hM').tr (f61.tr q3), q4, q5.trans e2, q6.trans hM'.2.1, q7.trans e1, fun r h1 h2 => (q8 r h1 h2).trans ?_⟩
        rw [← hM'.A r]
        funext i
        rw [gA_row _ _ _ _ h1, gA_row _ _ _ _ h2]
      have et : gA (sA u 11 g v) 10 g = gA (sA M' 62 (6 * b + g) v) 61 (6 * b + g) := h62.2.1.2.1 g (by omega)
      obtain ⟨t, _, ht9, ht⟩ : nn (gA (sA M' 62 (6 * b + g) v) 61 (6 * b + g)) 0 9999 := h62.2.2.2.2.2.2.1.1 g hg
      unfold apC cpC
      rw [i6m, cl (show g < 2 ^ 31 by omega), cl (show 6 * b + g < 2 ^ 31 by omega)]
      refine ok_f c6 ?_
      refine ok_if (fun c => ?_) (fun c => ok_f c6 ?_)
      · refine ok_mono (go (sA u 11 g v) (gA (sA M' 62 (6 * b + g) v) 61 (6 * b + g)) h62.self rfl rfl) (fun y hy => ?_)
        exact ok_f c12 (ok_t c (ok_f c12 hy))
      · rw [et]
        refine ok_if (fun c2 => ?_) (fun c2 => ok_f c6 (ok_f c6 ?_))
        · refine ok_mono (go (sA u 11 g v) (gA (sA M' 62 (6 * b + g) v) 61 (6 * b + g)) h62.self rfl rfl) (fun y hy => ?_)
          exact ok_f c12 (ok_f c (ok_f c12 (ok_t c2 (ok_f c12 hy))))
        · have ht2 : t < 9999 := by
            rw [ht] at c2
            rcases Nat.lt_or_ge t 9999 with q | q
            · exact q
            · exact absurd (show nI 9999 ≤ nI t by rw [nI_leI (by omega) (by omega)]; omega) c2
          have nv : nn (gA (sA M' 62 (6 * b + g) v) 61 (6 * b + g) + 1) 0 9999 := ⟨t + 1, by omega, by omega, by rw [ht, nI_1]⟩
          refine ok_mono (go _ (gA (sA M' 62 (6 * b + g) v) 61 (6 * b + g) + 1) (h62.w61 hg nv) rfl rfl) (fun y hy => ?_)
          exact ok_f c12 (ok_f c (ok_f c12 (ok_f c2 (ok_f c12 hy))))
    rw [ap_t, cp_t, i6m, cl (show k < 2 ^ 31 by omega), cl (show b < 2 ^ 31 by omega), cl (show 6 * b + k < 2 ^ 31 by omega), e, eu, hT.1.2.2.2.1]
    have cn : ¬ nI ng ≤ nI k := by rw [nI_leI (by omega) (by omega)]; omega
    have cb : ¬ (nI b < 0 ∨ 2 ≤ b) := kx hb (by decide)
    have ck' : ¬ (nI (6 * b + k) < 0 ∨ 12 ≤ 6 * b + k) := kx (by omega) (by decide)
    refine ok_f (show ¬ nI 6 ≤ nI k by rw [nI_leI (by omega) (by omega)]; omega) (ok_f (kx (by omega) (by decide)) (ok_f ?_ ?_))
    · rw [has_t, hT.1.2.1.2.1, tst_1 hg (by omega)]; exact i10
    · rw [hH.1.2.2.1, hR.2.2.1]
      rcases hH.2.2.2.1 with ⟨q, _⟩ | ⟨a, ha, q, _⟩
      · rw [q, if_pos rfl]
        refine ok_f i10 (ok_mono (key 0 nm T M fT.rf fN.rf) (fun y hy => ok_f cn (ok_f ck' (ok_f cb (ok_f (by decide) hy)))))
      · have n1 : ¬ nI a = -1 := nI_nn (by have := hT.1.1.1; omega)
        have n2 : 0 ≤ nI a := nI_pos' (by have := hT.1.1.1; omega)
        rw [q] at hm
        rw [q, if_neg n1]
        by_cases c : nI g = gI M 71
        · rw [if_pos c]
          refine ok_f i10 (ok_mono (key 0 nm T M fT.rf fN.rf) (fun y hy => ok_f cn (ok_f ck' (ok_f cb (ok_t n2 (ok_f cb ?_))))))
          refine ok_bindx (a := ((0 : Int32), M)) ?_ hy
          unfold fX12_clapOf
          exact tp c rfl
        · rw [if_neg c]
          refine ok_t rfl (ok_bind (ok_mono (clap_of (x := x) (nm := nm) hb hT hH hR hg c hm h9) (fun r hr => ?_)))
          obtain ⟨r', er, k1, _, k2, k3⟩ := hr
          refine ok_mono (key r.1 r.2.1 r.2.2 r'.2 k2 k3) (fun y hy => ok_f cn (ok_f ck' (ok_f cb (ok_t n2 (ok_f cb (ok_bindx er ?_))))))
          rw [← k1]
          exact hy
theorem claps_of {T : Nat → St} {ml nm u M : St} {na ng nr ns b : Nat} (hb : b < 2) (hT : TR T M na ng nr ns) (hH : HR u M b na ng nr) (hR : MR ml M) : ok (fX2_applause 7 ml nm T u) (fun y => ok (fX12_claps M (nI b)) (fun y' => apR b na ng nr T u M y y')) := by
  obtain ⟨m, e1, e2, h9⟩ := moodOn_of hT hH hR
  have h6 := hT.1.1.2.1
  unfold fX2_applause fX12_claps
  refine ok_bindx e1 (ok_bind (ok_mono (apl_L hb h9 ng fuel fuel 0 T nm u M 0 0 (by omega) (by rw [fuel_eq]; omega) (by rw [fuel_eq]; omega) hT hH hR e2) (fun y hy => ok_some (ok_bind (ok_mono hy (fun y' q => ok_some q))))))
