/-! shows -/
theorem fn {α : Type} {c : Prop} [Decidable c] {a b r : α} (h : ¬ c) (k : b = r) : (if c then a else b) = r := (if_neg h).trans k
theorem tp {α : Type} {c : Prop} [Decidable c] {a b r : α} (h : c) (k : a = r) : (if c then a else b) = r := (if_pos h).trans k
theorem bd_c {α β : Type} {x : Option α} {a : α} {f : α → Option β} {r : Option β} (h : x = some a) (k : f a = r) : x.bind f = r := by subst h; exact k
theorem nI_mul (a b : Nat) : nI a * nI b = nI (a * b) := (Int32.ofNat_mul a b).symm
theorem i6m {b x : Nat} : (6 : Int32) * nI b + nI x = nI (6 * b + x) := by rw [show (6 : Int32) = nI 6 from rfl, nI_mul, nI_add]
theorem i4m {b x : Nat} : (4 : Int32) * nI b + nI x = nI (4 * b + x) := by rw [show (4 : Int32) = nI 4 from rfl, nI_mul, nI_add]
theorem i4m0 {b : Nat} : (4 : Int32) * nI b = nI (4 * b) := by rw [show (4 : Int32) = nI 4 from rfl, nI_mul]
theorem sh_no {M : St} {b i ns nf : Nat} (hb : b < 2) (h15 : gI M 15 = nI ns) (hi : i < ns) (hn : ns ≤ 14) (h70 : gI M 70 = 0) (c : ¬ gA M 35 i = gA M 59 b) : fX12_shown_L1 (nI b) (nf + 1) (nI i) M = fX12_shown_L1 (nI b) nf (nI (i + 1)) M := by
  rw [fX12_shown_L1, h15, cl (show i < 2 ^ 31 by omega), cl (show b < 2 ^ 31 by omega)]
  exact fn (by rw [nI_leI (by omega) (by omega)]; omega) (tp h70 (fn (kx (by omega) (by decide)) (fn (kx hb (by decide)) (lt_c (fn c (lt_c (by rw [nI_1])))))))
theorem sh_ref {M : St} {b i ns nf : Nat} (hb : b < 2) (h15 : gI M 15 = nI ns) (hi : i < ns) (hn : ns ≤ 14) (h70 : gI M 70 = 0) (c : gA M 35 i = gA M 59 b) (c2 : ¬ gA M 53 b < 0) : fX12_shown_L1 (nI b) (nf + 1) (nI i) M = fX12_shown_L1 (nI b) nf (nI (i + 1)) (sA M 57 b (gA M 57 b + 1)) := by
  rw [fX12_shown_L1, h15, cl (show i < 2 ^ 31 by omega), cl (show b < 2 ^ 31 by omega)]
  exact fn (by rw [nI_leI (by omega) (by omega)]; omega) (tp h70 (fn (kx (by omega) (by decide)) (fn (kx hb (by decide)) (lt_c (tp c (fn (kx hb (by decide)) (fn c2 (fn (kx hb (by decide)) (lt_c (fn (kx hb (by decide)) (lt_c (lt_c (by rw [nI_1])))))))))))))
theorem sh_on {M : St} {b i ns nf a : Nat} (hb : b < 2) (h15 : gI M 15 = nI ns) (hi : i < ns) (hn : ns ≤ 14) (h70 : gI M 70 = 0) (c : gA M 35 i = gA M 59 b) (c2 : gA M 53 b < 0) (h34 : gA M 34 i = nI a) (ha : a < 6) : fX12_shown_L1 (nI b) (nf + 1) (nI i) M = fX12_shown_L1 (nI b) nf (nI (i + 1)) (sA (sA M 53 b (nI a)) 54 b (gA M 26 a)) := by
  rw [fX12_shown_L1, h15, cl (show i < 2 ^ 31 by omega), cl (show b < 2 ^ 31 by omega)]
  refine fn (by rw [nI_leI (by omega) (by omega)]; omega) (tp h70 (fn (kx (by omega) (by decide)) (fn (kx hb (by decide)) (lt_c (tp c (fn (kx hb (by decide)) (tp c2 (fn (kx (by omega) (by decide)) (lt_c (fn (kx hb (by decide)) (lt_c (fn (kx (by omega) (by decide)) (fn (show ¬ (gA M 34 i < 0 ∨ 12 ≤ (gA M 34 i).toNatClampNeg) by rw [h34]; exact ck (by omega) (by decide)) (lt_c (fn (kx hb (by decide)) (lt_c (lt_c ?_)))))))))))))))))
  show fX12_shown_L1 (nI b) nf (nI i + 1) (sA (sA M 53 b (gA M 34 i)) 54 b (gA M 26 (gA M 34 i).toNatClampNeg)) = _
  rw [h34, cl (show a < 2 ^ 31 by omega), nI_1]
def shR (b na ng nr : Nat) (u M u' M' : St) : Prop := FR b M M' ∧ HR u' M' b na ng nr ∧ u'.2.1 = u.2.1 ∧ M'.2.1 = M.2.1 ∧ gI u' 0 = gI u 0
theorem shows_L {T : Nat → St} {na ng nr ns b : Nat} (hb : b < 2) : ∀ (d nf nf2 i : Nat) (u M : St), i + d = ns → d < nf → d < nf2 → TR T M na ng nr ns → HR u M b na ng nr → gI M 70 = 0 → ok (fX2_raiseShows_L1 T nf (nI i) u) (fun u' => ok (fX12_shown_L1 (nI b) nf2 (nI i) M) (fun M' => shR b na ng nr u M u' M'))
  | 0, nf + 1, nf2 + 1, i, u, M, h, _, _, hT, hH, h70 => by
    obtain ⟨⟨⟨_, _, _, h14⟩, ⟨_, _, _, h5⟩, ⟨_, _, _, h15⟩⟩, _⟩ := hT
    rw [fX2_raiseShows_L1, fX12_shown_L1, h5, h15]
    have q : nI ns ≤ nI i := by rw [nI_leI (by omega) (by omega)]; omega
    exact ok_t q (ok_some (ok_t q (ok_some ⟨FR.rf, hH, rfl, rfl, rfl⟩)))
  | d + 1, nf + 1, nf2 + 1, i, u, M, h, g1, g2, hT, hH, h70 => by
    have hT' := hT
    obtain ⟨⟨⟨h6, _, _, h14⟩, ⟨ha5, _, _, h5⟩, ⟨_, _, _, h15⟩⟩, hTa, _, _, hTs, _⟩ := hT'
    obtain ⟨s2, s3, ⟨a, ha, hsa⟩, _⟩ := hTs i (by omega)
    have hv := hH.1
    have hon := hH.2.2.2.1
    rw [fX2_raiseShows_L1, h5, cl (show i < 2 ^ 31 by omega)]
    refine ok_f (by rw [nI_leI (by omega) (by omega)]; omega) (ok_f (kx (by omega) (by decide)) (ok_lt ?_))
    refine ok_if (fun c => ?_) (fun c => ?_)
    · have c' : gA M 35 i = gA M 59 b := by rw [← s3, ← hv.1]; exact c
      refine ok_if (fun c2 => ?_) (fun c2 => ?_)
      · have c2' : gA M 53 b < 0 := by rw [← hv.2.2.1, c2]; decide
        refine ok_f (kx (by omega) (by decide)) (ok_lt ?_)
        rw [s2, hsa, minutesOf_eq ha5 ha h6]
        obtain ⟨_, _, e3, _, hl⟩ := hTa a ha
        refine ok_bind (ok_some (ok_lt ?_))
        show ok (fX2_raiseShows_L1 T nf (nI i + 1) (sI (sI u 2 (nI a)) 3 (gA (T 1) 3 a))) _
        rw [nI_1, e3]
        have f1 : FR b M (sA (sA M 53 b (nI a)) 54 b (gA M 26 a)) := FR.tr (y := sA M 53 b (nI a)) (FR.wA (by decide) (by decide) rfl) (FR.wA (by decide) (by decide) rfl)
        refine ok_mono (shows_L hb d nf nf2 (i + 1) _ _ (by omega) (by omega) (by omega) (hT.fr f1) (hH.won (Or.inr ⟨a, ha, rfl, hl⟩)) h70) (fun u' h' => ?_)
        rw [sh_on hb h15 (by omega) h14 h70 c' c2' hsa (by omega)]
        exact ok_mono h' (fun M' q => ⟨f1.tr q.1, q.2.1, q.2.2.1, q.2.2.2⟩)
      · have c2' : ¬ gA M 53 b < 0 := by
          rcases hon with ⟨q, _⟩ | ⟨j, hj, q, _⟩
          · exact absurd (hv.2.2.1.trans q) c2
          · rw [q]; exact nI_pos (by omega)
        refine ok_lt (ok_lt ?_)
        show ok (fX2_raiseShows_L1 T nf (nI i + 1) (sI u 4 (gI u 4 + 1))) _
        rw [nI_1, hv.2.2.2.2.1]
        have f1 : FR b M (sA M 57 b (gA M 57 b + 1)) := FR.wA (by decide) (by decide) rfl
        refine ok_mono (shows_L hb d nf nf2 (i + 1) _ _ (by omega) (by omega) (by omega) (hT.fr f1) hH.w57 h70) (fun u' h' => ?_)
        rw [sh_ref hb h15 (by omega) h14 h70 c' c2']
        exact ok_mono h' (fun M' q => ⟨f1.tr q.1, q.2.1, q.2.2.1, q.2.2.2⟩)
    · have c' : ¬ gA M 35 i = gA M 59 b := by rw [← s3, ← hv.1]; exact c
      show ok (fX2_raiseShows_L1 T nf (nI i + 1) u) _
      rw [nI_1]
      refine ok_mono (shows_L hb d nf nf2 (i + 1) u M (by omega) (by omega) (by omega) hT hH h70) (fun u' h' => ?_)
      rw [sh_no hb h15 (by omega) h14 h70 c']
      exact h'
/-- the shows of a minute -/
theorem shows_of {T : Nat → St} {na ng nr ns b : Nat} {ml u M : St} (hb : b < 2) (hT : TR T M na ng nr ns) (hH : HR u M b na ng nr) (h70 : gI M 70 = 0) : ok (fX2_raiseShows ml T u) (fun u' => ok (fX12_shown M (nI b)) (fun M' => shR b na ng nr u M u' M')) := by
  unfold fX2_raiseShows fX12_shown
  have hn := hT.1.1.2.2.2
  refine ok_bind (ok_mono (shows_L hb ns fuel fuel 0 u M (by omega) (by rw [fuel_eq]; omega) (by rw [fuel_eq]; omega) hT hH h70) (fun u' h' => ok_some (ok_bind (ok_mono h' (fun M' q => ok_some q)))))
theorem shown_no {M : St} {b ns : Nat} (h15 : gI M 15 = nI ns) (hn : ns ≤ 14) (h70 : gI M 70 = 1) : fX12_shown M (nI b) = some M := by
  unfold fX12_shown
  have : fX12_shown_L1 (nI b) fuel 0 M = some M := by
    show fX12_shown_L1 (nI b) (999 + 1) 0 M = some M
    rw [fX12_shown_L1, h15]
    by_cases q : nI ns ≤ (0 : Int32)
    · exact tp q rfl
    · exact fn q (fn (by rw [h70]; exact i10) rfl)
  rw [this]; rfl
