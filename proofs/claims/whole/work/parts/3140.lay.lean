/-! a trial is laid -/
def itS (stp : Nat → St → St) : Nat → Nat → St → St
  | 0, _, u => u
  | d + 1, i, u => itS stp d (i + 1) (stp i u)
theorem loopS {L : Nat → Int32 → St → Option St} {n : Nat} {stp : Nat → St → St} (hL : ∀ nf i u, i < n → L (nf + 1) (nI i) u = L nf (nI (i + 1)) (stp i u)) (hE : ∀ nf u, L (nf + 1) (nI n) u = some u) : ∀ (d nf i : Nat) (u : St), i + d = n → d < nf → L nf (nI i) u = some (itS stp d i u)
  | 0, nf + 1, i, u, h, _ => by
    rw [show i = n by omega]; exact hE nf u
  | d + 1, nf + 1, i, u, h, hf => by
    rw [hL nf i u (by omega), itS]
    exact loopS hL hE d nf (i + 1) _ (by omega) (by omega)
theorem j6 {P : Nat → Prop} (h0 : P 0) (h1 : P 1) (h2 : P 2) (h3 : P 3) (h4 : P 4) (h5 : P 5) (j : Nat) (hj : j < 6) : P j := by
  rcases (show j = 0 ∨ j = 1 ∨ j = 2 ∨ j = 3 ∨ j = 4 ∨ j = 5 by omega) with rfl | rfl | rfl | rfl | rfl | rfl <;> assumption
theorem j4 {P : Nat → Prop} (h0 : P 0) (h1 : P 1) (h2 : P 2) (h3 : P 3) (j : Nat) (hj : j < 4) : P j := by
  rcases (show j = 0 ∨ j = 1 ∨ j = 2 ∨ j = 3 by omega) with rfl | rfl | rfl | rfl <;> assumption
theorem HR.mv {u u' M M' : St} {b b' na ng nr : Nat} (h : HR u M b na ng nr) (hI : ∀ k, k < 8 → gI u' k = gI u k) (h9 : ∀ g, g < 4 → gA u' 9 g = gA u 9 g) (h10 : ∀ g, g < 6 → gA u' 10 g = gA u 10 g) (h11 : ∀ g, g < 6 → gA u' 11 g = gA u 11 g) (h12 : ∀ g, g < 6 → gA u' 12 g = gA u 12 g) (h33 : gA M' 33 = gA M 33) (h5 : ∀ r, 53 ≤ r → r ≤ 59 → gA M' r b' = gA M r b) (h6 : ∀ r, 60 ≤ r → r ≤ 62 → ∀ g, g < 6 → gA M' r (6 * b' + g) = gA M r (6 * b + g)) (h4 : ∀ g, g < 4 → gA M' 63 (4 * b' + g) = gA M 63 (4 * b + g)) : HR u' M' b' na ng nr := by
  have e53 := h5 53 (by omega) (by omega)
  have e54 := h5 54 (by omega) (by omega)
  have e55 := h5 55 (by omega) (by omega)
  have e56 := h5 56 (by omega) (by omega)
  have e57 := h5 57 (by omega) (by omega)
  have e58 := h5 58 (by omega) (by omega)
  have e59 := h5 59 (by omega) (by omega)
  have e40 := h4 0 (by omega)
  rw [Nat.add_zero, Nat.add_zero] at e40
  obtain ⟨⟨v0, v1, v2, v3, v4, v5, v7, v6⟩, ⟨r0, r1, r2, r3⟩, i0, i1, ⟨f, s1, s2⟩, ⟨g1, g2⟩, ⟨t1, t2⟩, i5, i6⟩ := h
  refine ⟨⟨by rw [hI 0 (by omega), e59]; exact v0, by rw [hI 1 (by omega), e55]; exact v1, by rw [hI 2 (by omega), e53]; exact v2, by rw [hI 3 (by omega), e54]; exact v3, by rw [hI 4 (by omega), e57]; exact v4, by rw [hI 5 (by omega), e58]; exact v5, by rw [hI 7 (by omega), e56]; exact v7, by rw [hI 6 (by omega), e40, h4 1 (by omega), h4 2 (by omega), h4 3 (by omega)]; exact v6⟩, ⟨fun g hg => by rw [h9 g hg, h4 g hg]; exact r0 g hg, fun g hg => by rw [h10 g hg, h6 61 (by omega) (by omega) g hg]; exact r1 g hg, fun g hg => by rw [h11 g hg, h6 62 (by omega) (by omega) g hg]; exact r2 g hg, fun g hg => by rw [h12 g hg, h6 60 (by omega) (by omega) g hg]; exact r3 g hg⟩, i0, ?_, ?_, ?_, ?_, ?_, ?_⟩
  · unfold isOn at *; rw [e53, e54]; exact i1
  · exact ⟨f, fun k hk => by rw [h6 60 (by omega) (by omega) k hk]; exact s1 k hk, s2⟩
  · refine ⟨fun g hg => ?_, fun g h1 hg => by rw [h4 g hg]; exact g2 g h1 hg⟩
    rw [h4 g (by omega), h33]; exact g1 g hg
  · refine ⟨fun g hg => ?_, fun g h1 hg => by rw [h6 61 (by omega) (by omega) g hg]; exact t2 g h1 hg⟩
    rw [h6 61 (by omega) (by omega) g (by omega)]; exact t1 g hg
  · unfold isSpeed at *; rw [e55]; exact i5
  · unfold isLatest at *; rw [e56]; exact i6
def cp1 (g : St) (i : Nat) (u : St) : St := sA u 9 i (gA g 9 i)
def cp2 (g : St) (i : Nat) (u : St) : St := sA (sA (sA u 10 i (gA g 10 i)) 11 i (gA g 11 i)) 12 i (gA g 12 i)
def cpS (u g : St) : St := sJ (sI (sI (sI (sI (sI (sI (sI (sI u 0 (gI g 0)) 1 (gI g 1)) 2 (gI g 2)) 3 (gI g 3)) 4 (gI g 4)) 5 (gI g 5)) 6 (gI g 6)) 7 (gI g 7)) 8 (gJ g 8)
theorem copy_eq (u g : St) : fX1_copy u g = some (itS (cp2 g) 6 0 (itS (cp1 g) 4 0 (cpS u g))) := by
  unfold fX1_copy
  have l1 := loopS (L := fX1_copy_L1 g) (n := 4) (stp := cp1 g) (fun nf i u hi => by
    rw [fX1_copy_L1, cl (show i < 2 ^ 31 by omega)]
    exact fn (show ¬ nI 4 ≤ nI i by rw [nI_leI (by omega) (by omega)]; omega) (fn (kx hi (by decide)) (lt_c (fn (kx hi (by decide)) (lt_c (lt_c (by rw [nI_1]; rfl)))))))
    (fun nf u => by rw [fX1_copy_L1]; exact tp (by decide) rfl) 4 fuel 0
  have l2 := loopS (L := fX1_copy_L2 g) (n := 6) (stp := cp2 g) (fun nf i u hi => by
    rw [fX1_copy_L2, cl (show i < 2 ^ 31 by omega)]
    exact fn (show ¬ nI 6 ≤ nI i by rw [nI_leI (by omega) (by omega)]; omega) (fn (kx hi (by decide)) (lt_c (fn (kx hi (by decide)) (lt_c (fn (kx hi (by decide)) (lt_c (fn (kx hi (by decide)) (lt_c (fn (kx hi (by decide)) (lt_c (fn (kx hi (by decide)) (lt_c (lt_c (by rw [nI_1]; rfl)))))))))))))))
    (fun nf u => by rw [fX1_copy_L2]; exact tp (by decide) rfl) 6 fuel 0
  refine lt_c (lt_c (lt_c (lt_c (lt_c (lt_c (lt_c (lt_c (lt_c (lt_c (lt_c (lt_c (lt_c (lt_c (lt_c (lt_c (lt_c (lt_c ?_)))))))))))))))))
  exact bd_c (l1 _ (by decide) (by decide)) (bd_c (l2 _ (by decide) (by decide)) rfl)
/-- a hall and its copy -/
def cpR (r g : St) : Prop := (∀ k, k < 8 → gI r k = gI g k) ∧ gJ r 8 = gJ g 8 ∧ (∀ j, j < 4 → gA r 9 j = gA g 9 j) ∧ (∀ j, j < 6 → gA r 10 j = gA g 10 j) ∧ (∀ j, j < 6 → gA r 11 j = gA g 11 j) ∧ (∀ j, j < 6 → gA r 12 j = gA g 12 j)
theorem copy_of (u g : St) : ok (fX1_copy u g) (fun r => cpR r g) := by
  refine ok_eq (copy_eq u g) ⟨fun k hk => ?_, rfl, j4 rfl rfl rfl rfl, j6 rfl rfl rfl rfl rfl rfl, j6 rfl rfl rfl rfl rfl rfl, j6 rfl rfl rfl rfl rfl rfl⟩
  rcases (show k = 0 ∨ k = 1 ∨ k = 2 ∨ k = 3 ∨ k = 4 ∨ k = 5 ∨ k = 6 ∨ k = 7 by omega) with rfl | rfl | rfl | rfl | rfl | rfl | rfl | rfl <;> rfl
/-- only what a question may change has changed -/
def QF (M M' : St) : Prop := (∀ k, k ≠ 2 → k ≠ 52 → ¬ (65 ≤ k ∧ k ≤ 73) → gI M' k = gI M k) ∧ M'.2.1 = M.2.1 ∧ ∀ r i, ¬ (53 ≤ r ∧ r ≤ 63 ∧ hf r i = 1) → r ≠ 74 → r ≠ 78 → r ≠ 79 → gA M' r i = gA M r i
theorem QF.rf {M : St} : QF M M := ⟨fun _ _ _ _ => rfl, rfl, fun _ _ _ _ _ _ => rfl⟩
theorem QF.tr {x y z : St} (h : QF x y) (k : QF y z) : QF x z := ⟨fun j a b c => (k.1 j a b c).trans (h.1 j a b c), k.2.1.trans h.2.1, fun r i a b c d => (k.2.2 r i a b c d).trans (h.2.2 r i a b c d)⟩
theorem QF.th {M : St} {v : Int32} : QF M (sI M 2 v) := ⟨fun k h _ _ => gI_sIn M v h, rfl, fun _ _ _ _ _ _ => rfl⟩
theorem QF.fl {M : St} {k : Nat} {v : Int32} (h1 : 65 ≤ k) (h2 : k ≤ 73) : QF M (sI M k v) := ⟨fun j _ _ h => gI_sIn M v (fun q => h (by omega)), rfl, fun _ _ _ _ _ _ => rfl⟩
theorem QF.A {M M' : St} (h : QF M M') {r : Nat} (h1 : r < 53 ∨ 63 < r) (h2 : r ≠ 74) (h3 : r ≠ 78) (h4 : r ≠ 79) : gA M' r = gA M r := funext fun i => h.2.2 r i (by omega) h2 h3 h4
theorem QF.FR {M M' : St} (h : FR 1 M M') (hJ : M'.2.1 = M.2.1) : QF M M' := ⟨fun k _ h2 _ => h.1 k h2, hJ, fun r i a _ _ _ => h.2.2.1 r i a⟩
theorem QF.N {M M' : St} (h : fN M M') : QF M M' := QF.FR (FR.N h) h.2.1
theorem TR.Q {T : Nat → St} {M M' : St} {na ng nr ns : Nat} (h : TR T M na ng nr ns) (k : QF M M') : TR T M' na ng nr ns := h.M (fun j h1 h2 => k.1 j (by omega) (by omega) (by omega)) (fun r h1 h2 => k.A (by omega) (by omega) (by omega) (by omega))
theorem HR.Q {u M M' : St} {na ng nr : Nat} (h : HR u M 0 na ng nr) (k : QF M M') : HR u M' 0 na ng nr := h.M (k.A (by omega) (by omega) (by omega) (by omega)) (fun r i h1 h2 q => k.2.2 r i (by omega) (by omega) (by omega) (by omega))
def plR (M M' : St) : Prop := QF M M' ∧ M'.2 = M.2 ∧ (∀ k, ¬ (65 ≤ k ∧ k ≤ 73) → gI M' k = gI M k) ∧ gI M' 65 = 0 ∧ gI M' 66 = 0 ∧ gI M' 67 = 0 ∧ gI M' 68 = 0 ∧ gI M' 69 = 0 ∧ gI M' 70 = 0 ∧ gI M' 71 = -1 ∧ gI M' 72 = -1 ∧ gI M' 73 = 0
theorem plain_of (M : St) : plR M (fX12_plainTried M) := by
  have e : ∀ k, ¬ (65 ≤ k ∧ k ≤ 73) → gI (fX12_plainTried M) k = gI M k := fun k h => by
    show gI (sI (sI (sI (sI (sI (sI (sI (sI (sI M 65 0) 66 0) 67 0) 68 0) 69 0) 70 0) 71 (-1)) 72 (-1)) 73 0) k = gI M k
    rw [gI_sIn _ _ (by omega), gI_sIn _ _ (by omega), gI_sIn _ _ (by omega), gI_sIn _ _ (by omega), gI_sIn _ _ (by omega), gI_sIn _ _ (by omega), gI_sIn _ _ (by omega), gI_sIn _ _ (by omega), gI_sIn _ _ (by omega)]
  exact ⟨⟨fun k _ _ h => e k h, rfl, fun _ _ _ _ _ _ => rfl⟩, rfl, e, rfl, rfl, rfl, rfl, rfl, rfl, rfl, rfl, rfl⟩
theorem MR.pl {ml M M' : St} (h : plR M M') : MR (fX2_asItGoes ml) M' := by
  obtain ⟨_, _, _, h65, h66, h67, h68, h69, h70, h71, h72, h73⟩ := h
  refine ⟨Or.inl ⟨rfl, h65, h66, h67⟩, Or.inl ⟨rfl, h70⟩, h71.symm, Or.inl ⟨rfl, h68⟩, h69.symm, h72.symm, h73.symm, ⟨0, by omega, by omega, h73⟩⟩
def ly1 (i : Nat) (u : St) : St := sA (sA (sA u 60 (6 + i) (gA u 60 i)) 61 (6 + i) (gA (sA u 60 (6 + i) (gA u 60 i)) 61 i)) 62 (6 + i) (gA (sA (sA u 60 (6 + i) (gA u 60 i)) 61 (6 + i) (gA (sA u 60 (6 + i) (gA u 60 i)) 61 i)) 62 i)
def ly2 (i : Nat) (u : St) : St := sA u 63 (4 + i) (gA u 63 i)
def lyS (M : St) : St := sA (sA (sA (sA (sA (sA (sA M 53 1 (gA M 53 0)) 54 1 (gA M 54 0)) 55 1 (gA M 55 0)) 56 1 (gA M 56 0)) 57 1 (gA M 57 0)) 58 1 (gA M 58 0)) 59 1 (gA M 59 0)
theorem i6p {i : Nat} : (6 : Int32) + nI i = nI (6 + i) := by rw [show (6 : Int32) = nI 6 from rfl, nI_add]
theorem i4p {i : Nat} : (4 : Int32) + nI i = nI (4 + i) := by rw [show (4 : Int32) = nI 4 from rfl, nI_add]
theorem lay_eq (M : St) : fX12_layTried M = some (fX12_plainTried (itS ly2 4 0 (itS ly1 6 0 (lyS M)))) := by
  unfold fX12_layTried
  have l1 := loopS (L := fX12_layTried_L1) (n := 6) (stp := ly1) (fun nf i u hi => by
    rw [fX12_layTried_L1, i6p, cl (show i < 2 ^ 31 by omega), cl (show 6 + i < 2 ^ 31 by omega)]
    have c1 : ¬ (nI i < 0 ∨ 12 ≤ i) := kx (by omega) (by decide)
    have c2 : ¬ (nI (6 + i) < 0 ∨ 12 ≤ 6 + i) := kx (by omega) (by decide)
    exact fn (show ¬ nI 6 ≤ nI i by rw [nI_leI (by omega) (by omega)]; omega) (fn c1 (lt_c (fn c2 (lt_c (fn c1 (lt_c (fn c2 (lt_c (fn c1 (lt_c (fn c2 (lt_c (lt_c (by rw [nI_1]; rfl)))))))))))))))
    (fun nf u => by rw [fX12_layTried_L1]; exact tp (by decide) rfl) 6 fuel 0
  have l2 := loopS (L := fX12_layTried_L2) (n := 4) (stp := ly2) (fun nf i u hi => by
    rw [fX12_layTried_L2, i4p, cl (show i < 2 ^ 31 by omega), cl (show 4 + i < 2 ^ 31 by omega)]
    have c1 : ¬ (nI i < 0 ∨ 8 ≤ i) := kx (by omega) (by decide)
    have c2 : ¬ (nI (4 + i) < 0 ∨ 8 ≤ 4 + i) := kx (by omega) (by decide)
    exact fn (show ¬ nI 4 ≤ nI i by rw [nI_leI (by omega) (by omega)]; omega) (fn c1 (lt_c (fn c2 (lt_c (lt_c (by rw [nI_1]; rfl)))))))
    (fun nf u => by rw [fX12_layTried_L2]; exact tp (by decide) rfl) 4 fuel 0
  refine lt_c (lt_c (lt_c (lt_c (lt_c (lt_c (lt_c (lt_c (lt_c (lt_c (lt_c (lt_c (lt_c (lt_c ?_)))))))))))))
  exact bd_c (l1 _ (by decide) (by decide)) (bd_c (l2 _ (by decide) (by decide)) rfl)
