/-! the beginning of a hall, on both sides -/
def bg1 (i : Nat) (u : St) : St := sA u 9 i 0
def bg2 (i : Nat) (u : St) : St := sA (sA (sA u 10 i 0) 11 i 0) 12 i (nI i)
def bgS (u : St) (x : Int32) : St := sJ (sI (sI (sI (sI (sI (sI (sI (sI u 0 0) 1 0) 2 (-1)) 3 0) 4 0) 5 0) 6 0) 7 (-1)) 8 x.toInt64
theorem begin_eq (u : St) (x : Int32) : fX1_begin u x = some (itS bg2 6 0 (itS bg1 4 0 (bgS u x))) := by
  unfold fX1_begin
  have l1 := loopS (L := fX1_begin_L1) (n := 4) (stp := bg1) (fun nf i u hi => by
    rw [fX1_begin_L1, cl (show i < 2 ^ 31 by omega)]
    exact fn (show ¬ nI 4 ≤ nI i by rw [nI_leI (by omega) (by omega)]; omega) (fn (kx hi (by decide)) (lt_c (lt_c (by rw [nI_1]; rfl)))))
    (fun nf u => by rw [fX1_begin_L1]; exact tp (by decide) rfl) 4 fuel 0
  have l2 := loopS (L := fX1_begin_L2) (n := 6) (stp := bg2) (fun nf i u hi => by
    rw [fX1_begin_L2, cl (show i < 2 ^ 31 by omega)]
    exact fn (show ¬ nI 6 ≤ nI i by rw [nI_leI (by omega) (by omega)]; omega) (fn (kx hi (by decide)) (lt_c (fn (kx hi (by decide)) (lt_c (fn (kx hi (by decide)) (lt_c (lt_c (by rw [nI_1]; rfl)))))))))
    (fun nf u => by rw [fX1_begin_L2]; exact tp (by decide) rfl) 6 fuel 0
  refine lt_c (lt_c (lt_c (lt_c (lt_c (lt_c (lt_c (lt_c (lt_c (lt_c ?_)))))))))
  exact bd_c (l1 _ (by decide) (by decide)) (bd_c (l2 _ (by decide) (by decide)) rfl)
def bgR (u : St) (x : Int32) : Prop := (gI u 0 = 0 ∧ gI u 1 = 0 ∧ gI u 2 = -1 ∧ gI u 3 = 0 ∧ gI u 4 = 0 ∧ gI u 5 = 0 ∧ gI u 6 = 0 ∧ gI u 7 = -1) ∧ gJ u 8 = x.toInt64 ∧ (∀ g, g < 4 → gA u 9 g = 0) ∧ (∀ g, g < 6 → gA u 10 g = 0) ∧ (∀ g, g < 6 → gA u 11 g = 0) ∧ ∀ g, g < 6 → gA u 12 g = nI g
theorem begin_of (u : St) (x : Int32) : ok (fX1_begin u x) (fun r => bgR r x) :=
  ok_eq (begin_eq u x) ⟨⟨rfl, rfl, rfl, rfl, rfl, rfl, rfl, rfl⟩, rfl, j4 rfl rfl rfl rfl, j6 rfl rfl rfl rfl rfl rfl, j6 rfl rfl rfl rfl rfl rfl, j6 rfl rfl rfl rfl rfl rfl⟩
def af1 (b i : Nat) (u : St) : St := sA (sA (sA u 60 (6 * b + i) (nI i)) 61 (6 * b + i) 0) 62 (6 * b + i) 0
def af2 (b i : Nat) (u : St) : St := sA u 63 (4 * b + i) 0
def afS (b : Nat) (u : St) : St := sA (sA (sA (sA (sA (sA (sA u 53 b (-1)) 54 b 0) 55 b 0) 56 b (-1)) 57 b 0) 58 b 0) 59 b 0
def afM (b : Nat) (M : St) : St := itS (af2 b) 4 0 (itS (af1 b) 6 0 (afS b M))
theorem atF_eq {b : Nat} (hb : b < 2) (M : St) : fX12_atFirst M (nI b) = some (afM b M) := by
  unfold fX12_atFirst afM
  have l1 := loopS (L := fX12_atFirst_L1 (nI b)) (n := 6) (stp := af1 b) (fun nf i u hi => by
    have e : (6 : Int32) * nI b + nI i = nI (6 * b + i) := by rw [show (6 : Int32) = nI 6 from rfl, nI_mul, nI_add]
    rw [fX12_atFirst_L1, e, cl (show 6 * b + i < 2 ^ 31 by omega)]
    have c : ¬ (nI (6 * b + i) < 0 ∨ 12 ≤ 6 * b + i) := kx (by omega) (by decide)
    exact fn (show ¬ nI 6 ≤ nI i by rw [nI_leI (by omega) (by omega)]; omega) (fn c (lt_c (fn c (lt_c (fn c (lt_c (lt_c (by rw [nI_1]; rfl)))))))))
    (fun nf u => by rw [fX12_atFirst_L1]; exact tp (by decide) rfl) 6 fuel 0
  have l2 := loopS (L := fX12_atFirst_L2 (nI b)) (n := 4) (stp := af2 b) (fun nf i u hi => by
    have e : (4 : Int32) * nI b + nI i = nI (4 * b + i) := by rw [show (4 : Int32) = nI 4 from rfl, nI_mul, nI_add]
    rw [fX12_atFirst_L2, e, cl (show 4 * b + i < 2 ^ 31 by omega)]
    exact fn (show ¬ nI 4 ≤ nI i by rw [nI_leI (by omega) (by omega)]; omega) (fn (kx (by omega) (by decide)) (lt_c (lt_c (by rw [nI_1]; rfl)))))
    (fun nf u => by rw [fX12_atFirst_L2]; exact tp (by decide) rfl) 4 fuel 0
  rw [cl (show b < 2 ^ 31 by omega)]
  have c : ¬ (nI b < 0 ∨ 2 ≤ b) := kx hb (by decide)
  refine fn c (lt_c (fn c (lt_c (fn c (lt_c (fn c (lt_c (fn c (lt_c (fn c (lt_c (fn c (lt_c ?_)))))))))))))
  exact bd_c (l1 _ (by decide) (by decide)) (bd_c (l2 _ (by decide) (by decide)) rfl)
theorem af_r {b : Nat} (hb : b < 2) (M : St) : gA (afM b M) 53 b = -1 ∧ gA (afM b M) 54 b = 0 ∧ gA (afM b M) 55 b = 0 ∧ gA (afM b M) 56 b = -1 ∧ gA (afM b M) 57 b = 0 ∧ gA (afM b M) 58 b = 0 ∧ gA (afM b M) 59 b = 0 := by
  rcases (show b = 0 ∨ b = 1 by omega) with rfl | rfl <;> (refine ⟨?_, ?_, ?_, ?_, ?_, ?_, ?_⟩ <;> rfl)
theorem af_60 {b : Nat} (hb : b < 2) (M : St) : ∀ g, g < 6 → gA (afM b M) 60 (6 * b + g) = nI g := by
  rcases (show b = 0 ∨ b = 1 by omega) with rfl | rfl <;> exact j6 rfl rfl rfl rfl rfl rfl
theorem af_61 {b : Nat} (hb : b < 2) (M : St) : ∀ g, g < 6 → gA (afM b M) 61 (6 * b + g) = 0 := by
  rcases (show b = 0 ∨ b = 1 by omega) with rfl | rfl <;> exact j6 rfl rfl rfl rfl rfl rfl
theorem af_62 {b : Nat} (hb : b < 2) (M : St) : ∀ g, g < 6 → gA (afM b M) 62 (6 * b + g) = 0 := by
  rcases (show b = 0 ∨ b = 1 by omega) with rfl | rfl <;> exact j6 rfl rfl rfl rfl rfl rfl
theorem af_63 {b : Nat} (hb : b < 2) (M : St) : ∀ g, g < 4 → gA (afM b M) 63 (4 * b + g) = 0 := by
  rcases (show b = 0 ∨ b = 1 by omega) with rfl | rfl <;> exact j4 rfl rfl rfl rfl
theorem hfl {r i : Nat} (h : r ≤ 59) : hf r i = i := by unfold hf; rw [if_pos h]
theorem hf6b {r b i : Nat} (h1 : 60 ≤ r) (h2 : r ≤ 62) (hi : i < 6) : hf r (6 * b + i) = b := by unfold hf; rw [if_neg (by omega), if_neg (by omega)]; omega
theorem hf4b {b i : Nat} (hi : i < 4) : hf 63 (4 * b + i) = b := by unfold hf; rw [if_neg (by omega), if_pos rfl]; omega
theorem af1_FR {b k : Nat} {u : St} (hk : k < 6) : FR b u (af1 b k u) := FR.tr (FR.tr (FR.wA (by decide) (by decide) (hf6b (by decide) (by decide) hk)) (FR.wA (by decide) (by decide) (hf6b (by decide) (by decide) hk))) (FR.wA (by decide) (by decide) (hf6b (by decide) (by decide) hk))
theorem af2_FR {b k : Nat} {u : St} (hk : k < 4) : FR b u (af2 b k u) := FR.wA (by decide) (by decide) (hf4b hk)
theorem afS_FR {b : Nat} {u : St} : FR b u (afS b u) := by
  unfold afS
  exact FR.tr (FR.tr (FR.tr (FR.tr (FR.tr (FR.tr (FR.wA (by decide) (by decide) (hfl (by decide))) (FR.wA (by decide) (by decide) (hfl (by decide)))) (FR.wA (by decide) (by decide) (hfl (by decide)))) (FR.wA (by decide) (by decide) (hfl (by decide)))) (FR.wA (by decide) (by decide) (hfl (by decide)))) (FR.wA (by decide) (by decide) (hfl (by decide)))) (FR.wA (by decide) (by decide) (hfl (by decide)))
theorem af_FR (b : Nat) (M : St) : FR b M (afM b M) := afS_FR.tr (FR.tr (itS_FR 6 0 _ (fun k u _ hk => af1_FR (by omega))) (itS_FR 4 0 _ (fun k u _ hk => af2_FR (by omega))))
theorem af1_J (b k : Nat) (u : St) : (af1 b k u).2.1 = u.2.1 := rfl
theorem af2_J (b k : Nat) (u : St) : (af2 b k u).2.1 = u.2.1 := rfl
theorem afS_J (b : Nat) (u : St) : (afS b u).2.1 = u.2.1 := rfl
theorem af_J (b : Nat) (M : St) : (afM b M).2.1 = M.2.1 := by unfold afM; rw [itS_J (af2_J b), itS_J (af1_J b), afS_J]
theorem af1_I (b k : Nat) (u : St) : (af1 b k u).1 = u.1 := rfl
theorem af2_I (b k : Nat) (u : St) : (af2 b k u).1 = u.1 := rfl
theorem afS_I (b : Nat) (u : St) : (afS b u).1 = u.1 := rfl
theorem af_I (b : Nat) (M : St) : (afM b M).1 = M.1 := by unfold afM; rw [itS_I (af2_I b), itS_I (af1_I b), afS_I]
/-- a hall that begins -/
theorem HR.first {T : Nat → St} {u M : St} {x : Int32} {na ng nr ns b : Nat} (hb : b < 2) (hT : TR T M na ng nr ns) (hu : bgR u x) : HR u (afM b M) b na ng nr := by
  obtain ⟨⟨u0, u1, u2, u3, u4, u5, u6, u7⟩, _, q9, q10, q11, q12⟩ := hu
  obtain ⟨a53, a54, a55, a56, a57, a58, a59⟩ := af_r hb M
  have h4 : nr ≤ 4 := hT.1.1.2.2.1
  have e40 := af_63 hb M 0 (by omega)
  rw [Nat.add_zero] at e40
  refine ⟨⟨by rw [u0, a59], by rw [u1, a55], by rw [u2, a53], by rw [u3, a54], by rw [u4, a57], by rw [u5, a58], by rw [u7, a56], ?_⟩, ⟨fun g hg => by rw [q9 g hg, af_63 hb M g hg], fun g hg => by rw [q10 g hg, af_61 hb M g hg], fun g hg => by rw [q11 g hg, af_62 hb M g hg], fun g hg => by rw [q12 g hg, af_60 hb M g hg]⟩, ⟨hT.1.1.1, hT.1.1.2.1, h4⟩, Or.inl ⟨a53, a54⟩, ?_, ?_, ?_, ?_, Or.inl a56⟩
  · rw [u6, e40, af_63 hb M 1 (by omega), af_63 hb M 2 (by omega), af_63 hb M 3 (by omega)]; rfl
  · exact ⟨id, fun k hk => af_60 hb M k hk, fun k hk => hk, fun k _ _ => rfl, fun i j _ _ e => e, fun g hg => ⟨g, hg, rfl⟩⟩
  · refine ⟨fun g hg => ?_, fun g _ hg => af_63 hb M g hg⟩
    obtain ⟨_, _, _, _, _, _, s, _, hs, es⟩ := hT.2.2.2.1 g hg
    exact ⟨0, s, by omega, hs, af_63 hb M g (by omega), by rw [(af_FR b M).A (by omega)]; exact es⟩
  · have h6 : ng ≤ 6 := hT.1.1.2.1
    exact ⟨fun g hg => ⟨0, by omega, by omega, af_61 hb M g (by omega)⟩, fun g _ hg => af_61 hb M g hg⟩
  · unfold isSpeed; rw [a55]; decide
/-- a trial of moods may change -/
def QG (M M' : St) : Prop := (∀ k, k ≠ 52 → ¬ (65 ≤ k ∧ k ≤ 73) → gI M' k = gI M k) ∧ M'.2.1 = M.2.1 ∧ ∀ r i, ¬ (53 ≤ r ∧ r ≤ 63 ∧ hf r i = 1) → gA M' r i = gA M r i
theorem QG.rf {M : St} : QG M M := ⟨fun _ _ _ => rfl, rfl, fun _ _ _ => rfl⟩
theorem QG.tr {x y z : St} (h : QG x y) (k : QG y z) : QG x z := ⟨fun j a b => (k.1 j a b).trans (h.1 j a b), k.2.1.trans h.2.1, fun r i a => (k.2.2 r i a).trans (h.2.2 r i a)⟩
theorem QG.FR {M M' : St} (h : FR 1 M M') (hJ : M'.2.1 = M.2.1) : QG M M' := ⟨fun k h2 _ => h.1 k h2, hJ, fun r i a => h.2.2.1 r i a⟩
theorem QG.fl {M : St} {k : Nat} {v : Int32} (h1 : 65 ≤ k) (h2 : k ≤ 73) : QG M (sI M k v) := ⟨fun j _ h => gI_sIn M v (fun q => h (by omega)), rfl, fun _ _ _ => rfl⟩
theorem QG.pl {M M' : St} (h : plR M M') : QG M M' := ⟨fun k _ q => h.2.2.1 k q, by rw [h.2.1], fun r i _ => by unfold gA; rw [h.2.1]⟩
theorem QG.F {M M' : St} (h : QG M M') : QF M M' := ⟨fun k _ b c => h.1 k b c, h.2.1, fun r i a _ _ _ => h.2.2 r i a⟩
theorem QG.A {M M' : St} (h : QG M M') {r : Nat} (h1 : r < 53 ∨ 63 < r) : gA M' r = gA M r := funext fun i => h.2.2 r i (by omega)
/-- an act of another mood -/
def lmM (x y : Int32) (M : St) : St := sI (sI (fX12_plainTried (afM 1 M)) 72 x) 73 y
theorem layMood_eq (M : St) (x y : Int32) : fX12_layMood M x y = some (lmM x y M) := by
  unfold fX12_layMood
  exact bd_c (atF_eq (b := 1) (by decide) M) rfl
theorem lm_QG (x y : Int32) (M : St) : QG M (lmM x y M) := (QG.FR (af_FR 1 M) (af_J 1 M)).tr ((QG.pl (plain_of (afM 1 M))).tr ((QG.fl (by decide) (by decide)).tr (QG.fl (by decide) (by decide))))
def mlP (ml : St) (x : Int32) : Prop := gI ml 2 = 0 ∧ gI ml 3 = 1 ∧ gI ml 4 = -1 ∧ gI ml 5 = 1 ∧ gI ml 6 = 0 ∧ gI ml 7 = x
theorem lm_of {T : Nat → St} {ml u M : St} {x s : Int32} {na ng nr ns m : Nat} (hm : m < 10) (hT : TR T M na ng nr ns) (hu : bgR u s) (hl : mlP ml x) (h8 : gI ml 8 = nI m) : TR T (lmM x (nI m) M) na ng nr ns ∧ HR u (lmM x (nI m) M) 1 na ng nr ∧ MR ml (lmM x (nI m) M) ∧ gI (lmM x (nI m) M) 65 = 0 := by
  have hp := plain_of (afM 1 M)
  obtain ⟨_, p2, _, h65, h66, h67, h68, h69, h70, h71, h72, h73⟩ := hp
  obtain ⟨l2, l3, l4, l5, l6, l7⟩ := hl
  have hA : ∀ r, gA (lmM x (nI m) M) r = gA (afM 1 M) r := fun r => by
    show (fX12_plainTried (afM 1 M)).2.2.1 r = _
    rw [p2]; rfl
  refine ⟨hT.Q (lm_QG x (nI m) M).F, (HR.first (b := 1) (by decide) hT hu).M (hA 33) (fun r i _ _ _ => by rw [hA]), ?_, h65⟩
  exact ⟨Or.inl ⟨l2, h65, h66, h67⟩, Or.inl ⟨l3, h70⟩, l4.trans h71.symm, Or.inl ⟨l5, h68⟩, l6.trans h69.symm, l7, h8, ⟨m, by omega, by omega, rfl⟩⟩
/-- minutes that go by, as the class lets them go, and what is ground behind each -/
def CH (ml fut : St) (b : Nat) : Nat → Nat → St → (Nat → St) → St → Prop
  | 0, _, _, _, _ => True
  | d + 1, i, nm, T, u => ∃ nm' T' u', fX2_pass 7 ml nm T u 1 = some (nm', T', u') ∧ gI u' 6 = gA fut 0 (b + i) ∧ CH ml fut b d (i + 1) nm' T' u'
theorem CH.cong {ml fut fut' : St} {b : Nat} : ∀ (d i : Nat) (nm : St) (T : Nat → St) (u : St), (∀ j, b + i ≤ j → j < b + i + d → gA fut' 0 j = gA fut 0 j) → CH ml fut b d i nm T u → CH ml fut' b d i nm T u
  | 0, _, _, _, _, _, _ => trivial
  | d + 1, i, nm, T, u, h, ⟨nm', T', u', e1, e2, e3⟩ => ⟨nm', T', u', e1, e2.trans (h _ (by omega) (by omega)).symm, CH.cong d (i + 1) nm' T' u' (fun j h1 h2 => h j (by omega) (by omega)) e3⟩
def FU1 (fut : St) (T : Nat → St) (x : Int32) (m : Nat) : Prop := ∃ ml nm T' u s, mlP ml x ∧ gI ml 8 = nI m ∧ bgR u s ∧ fT T T' ∧ CH ml fut (m * 60) 60 0 nm T' u
def FU (fut : St) (T : Nat → St) (x : Int32) : Prop := ∀ m, m < 10 → FU1 fut T x m
def FUR (mn fut : St) (T : Nat → St) (na : Nat) : Prop := gI mn 15 = -1 ∨ ∃ a, a < na ∧ gI mn 15 = nI a ∧ FU fut T (nI a)
theorem fF.sy {a b : St} (h : fF a b) : fF b a := ⟨h.1.symm, h.2.1.symm, h.2.2.symm⟩
theorem fT.sy {a b : Nat → St} (h : fT a b) : fT b a := fun j => (h j).sy
theorem FU1.T {fut : St} {T T' : Nat → St} {x : Int32} {m : Nat} (h : FU1 fut T x m) (k : fT T T') : FU1 fut T' x m := by
  obtain ⟨ml, nm, T2, u, s, a, b, c, d, e⟩ := h
  exact ⟨ml, nm, T2, u, s, a, b, c, k.sy.tr d, e⟩
theorem FU.fT {fut : St} {T T' : Nat → St} {x : Int32} (h : FU fut T x) (k : fT T T') : FU fut T' x := fun m hm => (h m hm).T k
theorem FUR.fT {mn mn' fut : St} {T T' : Nat → St} {na : Nat} (h : FUR mn fut T na) (k : fT T T') (h15 : gI mn' 15 = gI mn 15) : FUR mn' fut T' na := by
  rcases h with a | ⟨a, b, c, d⟩
  · exact Or.inl (h15.trans a)
  · exact Or.inr ⟨a, b, h15.trans c, d.fT k⟩
theorem fore2 {ml : St} {na ng nr ns m : Nat} (hm : m < 10) : ∀ (d nf i : Nat) (fut nm u : St) (T : Nat → St) (M : St), i + d = 60 → d < nf → TR T M na ng nr ns → HR u M 1 na ng nr → MR ml M → gI M 65 = 0 → ok (fX11_foresee_L2 (nI m) ml nf (nI i) fut nm u T) (fun y => fT T y.2.2.2 ∧ (∀ j, (j < m * 60 + i ∨ m * 60 + 60 ≤ j) → gA y.1 0 j = gA fut 0 j) ∧ CH ml y.1 (m * 60) d i nm T u)
  | 0, nf + 1, i, fut, nm, u, T, M, h, _, hT, hH, hR, h65 => by
    rw [fX11_foresee_L2]
    exact ok_t (show nI 60 ≤ nI i by rw [nI_leI (by omega) (by omega)]; omega) (ok_some ⟨fT.rf, fun _ _ => rfl, trivial⟩)
  | d + 1, nf + 1, i, fut, nm, u, T, M, h, hf, hT, hH, hR, h65 => by
    have e : nI m * (60 : Int32) + nI i = nI (m * 60 + i) := by rw [show (60 : Int32) = nI 60 from rfl, nI_mul, nI_add]
    rw [fX11_foresee_L2, e, cl (show m * 60 + i < 2 ^ 31 by omega)]
    refine ok_f (show ¬ nI 60 ≤ nI i by rw [nI_leI (by omega) (by omega)]; omega) ?_
    obtain ⟨r, er, M1, eM1, k⟩ := pass1 (nm := nm) (b := 1) (by decide) hT hH hR (fun q => absurd (h65.symm.trans q) (by decide))
    refine ok_bindx er (ok_lt (ok_f (kx (by omega) (by decide)) (ok_lt (ok_lt ?_))))
    rw [nI_1]
    refine ok_mono (fore2 hm d nf (i + 1) _ r.1 r.2.2 r.2.1 M1 (by omega) (by omega) ((hT.fT k.1).fr k.2.1) k.2.2.1 (hR.fr k.2.1) ((k.2.1.I (by decide)).trans h65)) (fun y hy => ?_)
    obtain ⟨y1, y2, y3⟩ := hy
    refine ⟨k.1.tr y1, fun j hj => ?_, r.1, r.2.1, r.2.2, er, ?_, y3⟩
    · rw [y2 j (by omega), gA_idx _ _ _ _ (by omega)]
    · rw [y2 _ (by omega), gA_same]
theorem fore1 {na ng nr ns : Nat} {M : St} {x : Int32} : ∀ (d nf m : Nat) (fut ml nm u : St) (T : Nat → St), m + d = 10 → d < nf → TR T M na ng nr ns → mlP ml x → ok (fX11_foresee_L1 nf (nI m) fut ml nm u T) (fun y => fT T y.2.2.2.2 ∧ (∀ j, j < m * 60 → gA y.1 0 j = gA fut 0 j) ∧ ∀ m', m ≤ m' → m' < 10 → FU1 y.1 T x m')
  | 0, nf + 1, m, fut, ml, nm, u, T, h, _, hT, hl => by
    rw [fX11_foresee_L1]
    exact ok_t (show nI 10 ≤ nI m by rw [nI_leI (by omega) (by omega)]; omega) (ok_some ⟨fT.rf, fun _ _ => rfl, fun m' h1 h2 => absurd h1 (by omega)⟩)
  | d + 1, nf + 1, m, fut, ml, nm, u, T, h, hf, hT, hl => by
    rw [fX11_foresee_L1]
    refine ok_f (show ¬ nI 10 ≤ nI m by rw [nI_leI (by omega) (by omega)]; omega) (ok_lt (ok_bind (ok_mono (begin_of u _) (fun r hr => ok_bind ?_))))
    have hl2 : mlP (sI ml 8 (nI m)) x := hl
    obtain ⟨t1, t2, t3, t4⟩ := lm_of (m := m) (ml := sI ml 8 (nI m)) (by omega) hT hr hl2 rfl
    refine ok_mono (fore2 (m := m) (by omega) 60 fuel 0 fut nm r T _ (by omega) (by rw [fuel_eq]; omega) t1 t2 t3 t4) (fun y hy => ok_lt ?_)
    obtain ⟨y1, y2, y3⟩ := hy
    rw [nI_1]
    refine ok_mono (fore1 d nf (m + 1) y.1 (sI ml 8 (nI m)) y.2.1 y.2.2.1 y.2.2.2 (by omega) (by omega) (hT.fT y1) hl2) (fun z hz => ?_)
    obtain ⟨z1, z2, z3⟩ := hz
    refine ⟨y1.tr z1, fun j hj => ?_, fun m' h1 h2 => ?_⟩
    · rw [z2 j (by omega), y2 j (by omega)]
    · by_cases q : m' = m
      · subst q
        exact ⟨_, _, _, _, _, hl2, rfl, hr, fT.rf, CH.cong 60 0 nm T r (fun j h1 h2 => z2 j (by omega)) y3⟩
      · exact (z3 m' (by omega) h2).T y1.sy
theorem foresee_of {T : Nat → St} {mn fut ml nm trial M : St} {na ng nr ns a : Nat} (hT : TR T M na ng nr ns) (hF : FUR mn fut T na) (ha : a < na) : ok (fX11_foresee mn fut ml nm trial T (nI a)) (fun r => fT T r.2.2.2.2.2 ∧ (∀ k, k ≠ 15 → gI r.1 k = gI mn k) ∧ gI r.1 15 = nI a ∧ FU r.2.1 T (nI a)) := by
  have h6 : na ≤ 6 := hT.1.1.1
  unfold fX11_foresee
  refine ok_if (fun c => ok_some ⟨fT.rf, fun _ _ => rfl, c, ?_⟩) (fun c => ok_lt (ok_lt (ok_bind ?_)))
  · rcases hF with q | ⟨a', _, q, w⟩
    · exact absurd (c.symm.trans q) (nI_nn (by omega))
    · rw [c] at q
      rw [q]; exact w
  · refine ok_mono (fore1 (x := nI a) 10 fuel 0 fut (sI (fX2_asItGoes ml) 7 (nI a)) nm trial T (by omega) (by rw [fuel_eq]; omega) hT ⟨rfl, rfl, rfl, rfl, rfl, rfl⟩) (fun y hy => ok_lt (ok_some ?_))
    exact ⟨hy.1, fun k hk => gI_sIn _ _ hk, rfl, fun m hm => hy.2.2 m (by omega) hm⟩
