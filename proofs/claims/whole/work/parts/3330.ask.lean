/-! what to ask next -/
abbrev bt (v : Int32) (i : Nat) : Prop := ((v >>> (nI i &&& 31)) &&& 1) = 1
def cn (v : Int32) (g : Nat → Int32) (a : Int32) : Nat → Nat → Int32 → Int32
  | 0, _, c => c
  | d + 1, i, c => cn v g a d (i + 1) (if bt v i then (if g i = a then c + 1 else c) else c)
def mx (v : Int32) (g : Nat → Int32) : Nat → Nat → Int32 → Int32
  | 0, _, w => w
  | d + 1, k, w => mx v g d (k + 1) (if bt v k then (if w < cn v g (g k) 10 0 0 then cn v g (g k) 10 0 0 else w) else w)
theorem cn_cong {v a : Int32} {g g' : Nat → Int32} : ∀ (d i : Nat) (c : Int32), (∀ k, i ≤ k → k < i + d → g k = g' k) → cn v g a d i c = cn v g' a d i c
  | 0, _, _, _ => rfl
  | d + 1, i, c, h => by rw [cn, cn, h i (Nat.le_refl _) (by omega), cn_cong d (i + 1) _ (fun k h1 h2 => h k (by omega) (by omega))]
theorem mx_cong {v : Int32} {g g' : Nat → Int32} (h : ∀ k, k < 10 → g k = g' k) : ∀ (d k : Nat) (w : Int32), k + d = 10 → mx v g d k w = mx v g' d k w
  | 0, _, _, _ => rfl
  | d + 1, k, w, hk => by
    have e : cn v g (g k) 10 0 0 = cn v g' (g' k) 10 0 0 := by rw [h k (by omega)]; exact cn_cong 10 0 0 (fun j _ hj => h j (by omega))
    rw [mx, mx, e, mx_cong h d (k + 1) _ (by omega)]
theorem cn_in {v a : Int32} {g : Nat → Int32} : ∀ (d i : Nat) (c : Int32), 0 ≤ c.toInt → c.toInt + d ≤ 100 → 0 ≤ (cn v g a d i c).toInt ∧ (cn v g a d i c).toInt ≤ 100
  | 0, _, c, h1, h2 => ⟨h1, by show c.toInt ≤ 100; omega⟩
  | d + 1, i, c, h1, h2 => by
    rw [cn]
    have e : (c + 1).toInt = c.toInt + 1 := by
      have := fb_addI (x := c) (y := 1) (by rw [show (1 : Int32).toInt = 1 from rfl]; omega) (by rw [show (1 : Int32).toInt = 1 from rfl]; omega)
      rw [this]; rfl
    refine cn_in d (i + 1) _ ?_ ?_ <;> (split <;> (try split)) <;> omega
theorem leftBy_L {fut : St} {v a : Int32} {n : Nat} (hn : n < 60) : ∀ (d nf i : Nat) (c : Int32), i + d = 10 → d < nf → fX11_leftBy_L1 fut v (nI n) a nf c (nI i) = some (cn v (fun i => gA fut 0 (i * 60 + n)) a d i c)
  | 0, nf + 1, i, c, h, _ => by
    rw [fX11_leftBy_L1, cn]
    exact tp (show nI 10 ≤ nI i by rw [nI_leI (by omega) (by omega)]; omega) rfl
  | d + 1, nf + 1, i, c, h, hf => by
    have e : nI i * (60 : Int32) + nI n = nI (i * 60 + n) := by rw [show (60 : Int32) = nI 60 from rfl, nI_mul, nI_add]
    rw [fX11_leftBy_L1, cn, e, cl (show i * 60 + n < 2 ^ 31 by omega)]
    have c1 : ¬ (nI (i * 60 + n) < 0 ∨ 600 ≤ i * 60 + n) := kx (by omega) (by decide)
    refine fn (show ¬ nI 10 ≤ nI i by rw [nI_leI (by omega) (by omega)]; omega) (lt_c ?_)
    by_cases q : bt v i
    · refine (tp q (fn c1 ?_))
      rw [if_pos q]
      by_cases w : gA fut 0 (i * 60 + n) = a
      · rw [if_pos w, if_pos w]
        refine lt_c (lt_c ?_)
        rw [nI_1]
        exact leftBy_L hn d nf (i + 1) _ (by omega) (by omega)
      · rw [if_neg w, if_neg w]
        refine lt_c ?_
        rw [nI_1]
        exact leftBy_L hn d nf (i + 1) _ (by omega) (by omega)
    · rw [if_neg q, if_neg q]
      refine lt_c ?_
      rw [nI_1]
      exact leftBy_L hn d nf (i + 1) _ (by omega) (by omega)
theorem leftBy_eq {mn fut : St} {v a : Int32} {n : Nat} (hn : n < 60) : fX11_leftBy mn fut v (nI n) a = some (cn v (fun i => gA fut 0 (i * 60 + n)) a 10 0 0) := by
  unfold fX11_leftBy
  exact bd_c (leftBy_L hn 10 fuel 0 0 (by omega) (by rw [fuel_eq]; omega)) rfl
theorem worst_L {mn fut : St} {v : Int32} {n : Nat} (hn : n < 60) : ∀ (d nf i : Nat) (c : Int32), i + d = 10 → d < nf → fX11_leftAtWorst_L1 mn fut v (nI n) nf c (nI i) = some (mx v (fun i => gA fut 0 (i * 60 + n)) d i c)
  | 0, nf + 1, i, c, h, _ => by
    rw [fX11_leftAtWorst_L1, mx]
    exact tp (show nI 10 ≤ nI i by rw [nI_leI (by omega) (by omega)]; omega) rfl
  | d + 1, nf + 1, i, c, h, hf => by
    have e : nI i * (60 : Int32) + nI n = nI (i * 60 + n) := by rw [show (60 : Int32) = nI 60 from rfl, nI_mul, nI_add]
    rw [fX11_leftAtWorst_L1, mx, e, cl (show i * 60 + n < 2 ^ 31 by omega)]
    have c1 : ¬ (nI (i * 60 + n) < 0 ∨ 600 ≤ i * 60 + n) := kx (by omega) (by decide)
    refine fn (show ¬ nI 10 ≤ nI i by rw [nI_leI (by omega) (by omega)]; omega) (lt_c ?_)
    by_cases q : bt v i
    · refine tp q (fn c1 (bd_c (leftBy_eq hn) (lt_c (lt_c ?_))))
      rw [nI_1, if_pos q]
      exact worst_L hn d nf (i + 1) _ (by omega) (by omega)
    · rw [if_neg q, if_neg q]
      refine lt_c ?_
      rw [nI_1]
      exact worst_L hn d nf (i + 1) _ (by omega) (by omega)
theorem worst_eq {mn fut : St} {v : Int32} {n : Nat} (hn : n < 60) : fX11_leftAtWorst mn fut v (nI n) = some (mx v (fun i => gA fut 0 (i * 60 + n)) 10 0 0) := by
  unfold fX11_leftAtWorst
  exact bd_c (worst_L hn 10 fuel 0 0 (by omega) (by rw [fuel_eq]; omega)) rfl
/-! the reference -/
theorem isOf_0 {v : Int32} {i : Nat} : fX12_isOf v (nI i) = 0 ↔ ¬ bt v i := by
  unfold fX12_isOf
  simp only [lt_eq]
  by_cases q : bt v i
  · rw [if_pos q]; exact ⟨fun h => absurd h (by decide), fun h => absurd q h⟩
  · rw [if_neg q]; exact ⟨fun _ => q, fun _ => by decide⟩
theorem mworst2 {M : St} {v : Int32} {n k : Nat} (hn : n ≤ 60) (hk : k < 10) : ∀ (d nf i : Nat) (c : Int32), i + d = 10 → d < nf → fX12_worstAt_L2 M (nI n) v (nI k) nf c (nI i) = some (if bt v k then cn v (fun i => gA M 79 (61 * i + n)) (gA M 79 (61 * k + n)) d i c else c)
  | 0, nf + 1, i, c, h, _ => by
    rw [fX12_worstAt_L2, cn]
    refine tp (show nI 10 ≤ nI i by rw [nI_leI (by omega) (by omega)]; omega) ?_
    rw [ite_self]
  | d + 1, nf + 1, i, c, h, hf => by
    have e1 : (61 : Int32) * nI k + nI n = nI (61 * k + n) := by rw [show (61 : Int32) = nI 61 from rfl, nI_mul, nI_add]
    have e2 : (61 : Int32) * nI i + nI n = nI (61 * i + n) := by rw [show (61 : Int32) = nI 61 from rfl, nI_mul, nI_add]
    rw [fX12_worstAt_L2, e1, e2, cl (show 61 * k + n < 2 ^ 31 by omega), cl (show 61 * i + n < 2 ^ 31 by omega)]
    refine fn (show ¬ nI 10 ≤ nI i by rw [nI_leI (by omega) (by omega)]; omega) (lt_c (lt_c ?_))
    have nxt : ∀ x : Int32, (lt (c + x) fun x9 => lt (nI i + 1) fun x10 => fX12_worstAt_L2 M (nI n) v (nI k) nf x9 x10) = some (if bt v k then cn v (fun i => gA M 79 (61 * i + n)) (gA M 79 (61 * k + n)) d (i + 1) (c + x) else c + x) := fun x => by
      refine lt_c (lt_c ?_)
      rw [nI_1]
      exact mworst2 hn hk d nf (i + 1) _ (by omega) (by omega)
    by_cases q : bt v k
    · refine fn (fun z => isOf_0.mp z q) ?_
      rw [if_pos q, cn]
      by_cases w : bt v i
      · refine fn (fun z => isOf_0.mp z w) (fn (kx (by omega) (by decide)) (fn (kx (by omega) (by decide)) ?_))
        rw [if_pos w]
        by_cases y : gA M 79 (61 * k + n) = gA M 79 (61 * i + n)
        · rw [if_pos y.symm]
          refine tp y ((nxt 1).trans ?_)
          rw [if_pos q]
        · have y' : ¬ gA M 79 (61 * i + n) = gA M 79 (61 * k + n) := fun z => y z.symm
          rw [if_neg y']
          refine fn y ((nxt 0).trans ?_)
          rw [if_pos q, Int32.add_zero]
      · rw [if_neg w]
        refine tp (isOf_0.mpr w) ((nxt 0).trans ?_)
        rw [if_pos q, Int32.add_zero]
    · refine tp (isOf_0.mpr q) ((nxt 0).trans ?_)
      rw [if_neg q, if_neg q, Int32.add_zero]
theorem mworst1 {M : St} {v : Int32} {n : Nat} (hn : n ≤ 60) : ∀ (d nf i : Nat) (c : Int32), i + d = 10 → d < nf → 0 ≤ c.toInt → c.toInt ≤ 100 → fX12_worstAt_L1 M (nI n) v nf c (nI i) = some (mx v (fun i => gA M 79 (61 * i + n)) d i c)
  | 0, nf + 1, i, c, h, _, _, _ => by
    rw [fX12_worstAt_L1, mx]
    exact tp (show nI 10 ≤ nI i by rw [nI_leI (by omega) (by omega)]; omega) rfl
  | d + 1, nf + 1, i, c, h, hf, h0, h1 => by
    rw [fX12_worstAt_L1, mx]
    refine fn (show ¬ nI 10 ≤ nI i by rw [nI_leI (by omega) (by omega)]; omega) (bd_c (mworst2 hn (by omega) 10 fuel 0 0 (by omega) (by rw [fuel_eq]; omega)) (lt_c (lt_c ?_)))
    rw [nI_1]
    have hc := cn_in (v := v) (a := gA M 79 (61 * i + n)) (g := fun i => gA M 79 (61 * i + n)) 10 0 0 (by decide) (by decide)
    by_cases q : bt v i
    · rw [if_pos q, if_pos q]
      have e : (if cn v (fun i => gA M 79 (61 * i + n)) (gA M 79 (61 * i + n)) 10 0 0 ≤ c then c else cn v (fun i => gA M 79 (61 * i + n)) (gA M 79 (61 * i + n)) 10 0 0) = (if c < cn v (fun i => gA M 79 (61 * i + n)) (gA M 79 (61 * i + n)) 10 0 0 then cn v (fun i => gA M 79 (61 * i + n)) (gA M 79 (61 * i + n)) 10 0 0 else c) := by
        by_cases w : c < cn v (fun i => gA M 79 (61 * i + n)) (gA M 79 (61 * i + n)) 10 0 0
        · rw [if_pos w, if_neg (fun z => (le_nlt _ _).mp z w)]
        · rw [if_neg w, if_pos ((le_nlt _ _).mpr w)]
      rw [e]
      refine mworst1 hn d nf (i + 1) _ (by omega) (by omega) ?_ ?_ <;> split <;> omega
    · rw [if_neg q, if_neg q]
      have e : (if (0 : Int32) ≤ c then c else 0) = c := by
        rw [if_pos]
        rw [i_le]; exact h0
      rw [e]
      exact mworst1 hn d nf (i + 1) _ (by omega) (by omega) h0 h1
theorem mworst_eq {M : St} {v : Int32} {n : Nat} (hn : n ≤ 60) : fX12_worstAt M (nI n) v = some (mx v (fun i => gA M 79 (61 * i + n)) 10 0 0) := by
  unfold fX12_worstAt
  exact bd_c (mworst1 hn 10 fuel 0 0 (by omega) (by rw [fuel_eq]; omega) (by decide) (by decide)) rfl
theorem QF.w79 {M : St} {i : Nat} {v : Int32} : QF M (sA M 79 i v) := ⟨fun _ _ _ _ => rfl, rfl, fun r j _ _ _ h => gA_row _ _ _ _ h⟩
theorem fill2 {ml fut : St} {na ng nr ns m : Nat} (hm : m < 10) : ∀ (d nf i : Nat) (nm : St) (T : Nat → St) (u M : St), i + d = 60 → d < nf → TR T M na ng nr ns → HR u M 1 na ng nr → MR ml M → gI M 65 = 0 → CH ml fut (m * 60) d i nm T u → ok (fX12_ask_L2 (nI m) nf (nI (i + 1)) M) (fun M' => QF M M' ∧ (∀ j, (j < 61 * m + i + 1 ∨ 61 * m + 61 ≤ j) → gA M' 79 j = gA M 79 j) ∧ ∀ n, i ≤ n → n < 60 → gA M' 79 (61 * m + n + 1) = gA fut 0 (m * 60 + n))
  | 0, nf + 1, i, nm, T, u, M, h, _, hT, hH, hR, h65, hC => by
    rw [fX12_ask_L2]
    exact ok_t (show nI 60 < nI (i + 1) by rw [nI_ltI (by omega) (by omega)]; omega) (ok_some ⟨QF.rf, fun _ _ => rfl, fun n h1 h2 => absurd h1 (by omega)⟩)
  | d + 1, nf + 1, i, nm, T, u, M, h, hf, hT, hH, hR, h65, hC => by
    have e : (61 : Int32) * nI m + nI (i + 1) = nI (61 * m + i + 1) := by rw [show (61 : Int32) = nI 61 from rfl, nI_mul, nI_add]; rfl
    rw [fX12_ask_L2, e, cl (show 61 * m + i + 1 < 2 ^ 31 by omega)]
    obtain ⟨nm', T', u', e1, e2, hC'⟩ := hC
    obtain ⟨r, er, M1, eM1, k⟩ := pass1 (nm := nm) (b := 1) (by decide) hT hH hR (fun q => absurd (h65.symm.trans q) (by decide))
    have e3 : r = (nm', T', u') := Option.some.inj (er.symm.trans e1)
    subst e3
    have q1 := mn_QG k h65
    have hG : gAll M1 1 = gA fut 0 (m * 60 + i) := by
      rw [← e2]
      exact (gAll_HR k.2.2.1).symm
    refine ok_f (show ¬ nI 60 < nI (i + 1) by rw [nI_ltI (by omega) (by omega)]; omega) (ok_bindx eM1 (ok_bindx (groundAll_eq (b := 1) (by decide)) (ok_f (kx (by omega) (by decide)) (ok_lt (ok_lt ?_)))))
    rw [nI_1, hG]
    have hT1 : TR T' (sA M1 79 (61 * m + i + 1) (gA fut 0 (m * 60 + i))) na ng nr ns := ((hT.fT k.1).fr k.2.1).Q QF.w79
    have hH1 : HR u' (sA M1 79 (61 * m + i + 1) (gA fut 0 (m * 60 + i))) 1 na ng nr := k.2.2.1.M (gA_sAr _ _ _ (by decide)) (fun r j h1 h2 _ => gA_row _ _ _ _ (by omega))
    refine ok_mono (fill2 hm d nf (i + 1) nm' T' u' _ (by omega) (by omega) hT1 hH1 ((hR.fr k.2.1).M (fun _ _ _ => rfl)) ((k.2.1.I (by decide)).trans h65) hC') (fun M' hM => ?_)
    obtain ⟨a, b, c⟩ := hM
    refine ⟨q1.F.tr (QF.w79.tr a), fun j hj => ?_, fun n h1 h2 => ?_⟩
    · rw [b j (by omega), gA_idx _ _ _ _ (by omega), q1.A (by omega)]
    · by_cases q : n = i
      · subst q
        rw [b _ (by omega), gA_same]
      · exact c n (by omega) h2
theorem fill1 {T : Nat → St} {fut : St} {na ng nr ns : Nat} {x : Int32} (hF : FU fut T x) : ∀ (d nf m : Nat) (M : St), m + d = 10 → d < nf → TR T M na ng nr ns → ok (fX12_ask_L1 x nf (nI m) M) (fun M' => QF M M' ∧ (∀ j, j < 61 * m → gA M' 79 j = gA M 79 j) ∧ ∀ m' n, m ≤ m' → m' < 10 → n < 60 → gA M' 79 (61 * m' + n + 1) = gA fut 0 (m' * 60 + n))
  | 0, nf + 1, m, M, h, _, hT => by
    rw [fX12_ask_L1]
    exact ok_t (show nI 10 ≤ nI m by rw [nI_leI (by omega) (by omega)]; omega) (ok_some ⟨QF.rf, fun _ _ => rfl, fun m' n h1 h2 => absurd h1 (by omega)⟩)
  | d + 1, nf + 1, m, M, h, hf, hT => by
    rw [fX12_ask_L1]
    obtain ⟨ml, nm, T', u, s, f1, f2, f3, f4, f5⟩ := hF m (by omega)
    obtain ⟨t1, t2, t3, t4⟩ := lm_of (m := m) (by omega) (hT.fT f4) f3 f1 f2
    have q := lm_QG x (nI m) M
    refine ok_f (show ¬ nI 10 ≤ nI m by rw [nI_leI (by omega) (by omega)]; omega) (ok_bindx (layMood_eq M x (nI m)) (ok_bind (ok_mono (fill2 (by omega) 60 fuel 0 nm T' u (lmM x (nI m) M) (by omega) (by rw [fuel_eq]; omega) t1 t2 t3 t4 f5) (fun y hy => ok_lt ?_))))
    obtain ⟨a, b, c⟩ := hy
    rw [nI_1]
    have qf := q.F.tr a
    refine ok_mono (fill1 hF d nf (m + 1) y (by omega) (by omega) (hT.Q qf)) (fun z hz => ?_)
    obtain ⟨a2, b2, c2⟩ := hz
    refine ⟨qf.tr a2, fun j hj => ?_, fun m' n h1 h2 h3 => ?_⟩
    · rw [b2 j (by omega), b j (by omega), q.A (by omega)]
    · by_cases q : m' = m
      · subst q
        rw [b2 _ (by omega), c n (by omega) h3]
      · exact c2 m' n (by omega) h2 h3
/-- the best minute -/
theorem ask3 {r4 : St × St × St × St × St × (Nat → St)} {v : Int32} {M : St} {w : Nat → Int32} (hc : ∀ n, n < 60 → fX11_leftAtWorst r4.1 r4.2.1 v (nI n) = some (w n)) (hm : ∀ n, n < 60 → fX12_worstAt M (nI (n + 1)) v = some (w n)) : ∀ (d nf nf2 i b : Nat), i + d = 60 → d < nf → d < nf2 → b < i → ok (fX11_ask_L1 r4 v nf (nI b) (w b) (nI i)) (fun y => ∃ b', b' < 60 ∧ y = (nI b', w b') ∧ fX12_ask_L3 v M nf2 (nI (b + 1)) (nI (i + 1)) = some (nI (b' + 1)))
  | 0, nf + 1, nf2 + 1, i, b, h, _, _, hb => by
    rw [fX11_ask_L1, fX12_ask_L3]
    refine ok_t (show nI 60 ≤ nI i by rw [nI_leI (by omega) (by omega)]; omega) (ok_some ⟨b, by omega, rfl, ?_⟩)
    exact tp (show nI 60 < nI (i + 1) by rw [nI_ltI (by omega) (by omega)]; omega) rfl
  | d + 1, nf + 1, nf2 + 1, i, b, h, g1, g2, hb => by
    rw [fX11_ask_L1, fX12_ask_L3]
    refine ok_f (show ¬ nI 60 ≤ nI i by rw [nI_leI (by omega) (by omega)]; omega) (ok_bindx (hc i (by omega)) (ok_lt (ok_lt ?_)))
    have n0 : ¬ nI i = 0 := fun z => by
      have := (nI_eq (a := i) (b := 0) (by omega) (by omega)).mp z; omega
    have c6 : ¬ nI 60 < nI (i + 1) := by rw [nI_ltI (by omega) (by omega)]; omega
    refine ok_f n0 (ok_if (fun c => ok_lt ?_) (fun c => ok_lt ?_))
    · rw [nI_1]
      refine ok_mono (ask3 hc hm d nf nf2 (i + 1) b (by omega) (by omega) (by omega) (by omega)) (fun y hy => ?_)
      obtain ⟨b', h1, h2, h3⟩ := hy
      refine ⟨b', h1, h2, fn c6 (bd_c (hm i (by omega)) (bd_c (hm b (by omega)) (lt_c (lt_c ?_))))⟩
      rw [if_pos c, nI_1]
      exact h3
    · rw [nI_1]
      refine ok_mono (ask3 hc hm d nf nf2 (i + 1) i (by omega) (by omega) (by omega) (by omega)) (fun y hy => ?_)
      obtain ⟨b', h1, h2, h3⟩ := hy
      refine ⟨b', h1, h2, fn c6 (bd_c (hm i (by omega)) (bd_c (hm b (by omega)) (lt_c (lt_c ?_))))⟩
      rw [if_neg c, nI_1]
      exact h3
theorem ask_of {T : Nat → St} {mn fut ml nm trial nt M : St} {na ng nr ns : Nat} {x y : Int32} (hT : TR T M na ng nr ns) (hN : NR nt M) (hF : FUR mn fut T na) : ok (fX11_ask mn fut ml nm trial nt T x y) (fun r => ok (fX12_ask M x y) (fun r' => moR T mn nt M na r r')) := by
  have h6 := hT.1.1.1
  have em : fX12_isAct (sI M 2 0) x = tst (nI na) x := by rw [isAct_t]; exact congrArg (fun w => tst w x) hT.1.2.2.1
  have ec : fX7_has 6 (T 1) x = tst (nI na) x := by rw [has_t, hT.1.2.1.1]
  have bad : moR T mn nt M na ((-1 : Int32), mn, fut, ml, nm, trial, nt, T) ((-1 : Int32), sI M 2 0) := ⟨rfl, fun _ _ => rfl, hF, ⟨rfl, fun _ _ => rfl⟩, fT.rf, QF.th⟩
  unfold fX11_ask fX12_ask
  rw [ec]
  rcases tst_or (k := na) x (by omega) with q | ⟨i, hi, rfl, q⟩
  · exact ok_t q (ok_some (ok_lt (ok_t (em.trans q) (ok_some bad))))
  · have pre : ¬ fX12_isAct (sI M 2 0) (nI i) = 0 := by rw [em, q]; exact i10
    refine ok_f (by rw [q]; exact i10) ?_
    by_cases y0 : y < 0
    · exact ok_t y0 (ok_some (ok_lt (ok_f pre (ok_t (isIn_0 (Or.inl y0)) (ok_some bad)))))
    · by_cases y1 : (1 : Int32) < y
      · exact ok_f y0 (ok_f (fun z => (le_nlt _ _).mp z y1) (ok_some (ok_lt (ok_f pre (ok_t (isIn_0 (Or.inr y1)) (ok_some bad))))))
      · refine ok_f y0 (ok_t ((le_nlt _ _).mpr y1) (ok_bind (ok_mono (foresee_of hT hF hi) (fun r4 hr4 => ?_))))
        obtain ⟨a1, a2, a3, a4⟩ := hr4
        have hT1 : TR T (sI M 2 0) na ng nr ns := hT.Q QF.th
        refine ok_bind (ok_mono (bits_of (mn := r4.1) hT1 hN.th a4) (fun r6 hr6 => ok_lt ?_))
        obtain ⟨b, eb, b1, b2, b3⟩ := hr6
        obtain ⟨M3, eM3, c1, _, c3⟩ := fill1 a4 10 fuel 0 b.2 (by omega) (by rw [fuel_eq]; omega) (hT1.Q b3)
        have hp := plain_of M3
        have h79 : ∀ n, gA (fX12_plainTried M3) 79 n = gA M3 79 n := fun n => by unfold gA; rw [hp.2.1]
        have hc : ∀ n, n < 60 → fX11_leftAtWorst r4.1 r4.2.1 r6.1 (nI n) = some ((fun n => mx r6.1 (fun i => gA r4.2.1 0 (i * 60 + n)) 10 0 0) n) := fun n hn => worst_eq hn
        have hm : ∀ n, n < 60 → fX12_worstAt (fX12_plainTried M3) (nI (n + 1)) r6.1 = some ((fun n => mx r6.1 (fun i => gA r4.2.1 0 (i * 60 + n)) 10 0 0) n) := fun n hn => by
          rw [mworst_eq (by omega)]
          refine congrArg some (mx_cong (fun k hk => ?_) 10 0 0 (by omega))
          show gA (fX12_plainTried M3) 79 (61 * k + (n + 1)) = gA r4.2.1 0 (k * 60 + n)
          rw [h79, ← c3 k n (by omega) hk hn]
          rfl
        obtain ⟨yy, ey, bb, hb1, hb2, hb3⟩ := ask3 hc hm 59 999 1000 1 0 (by omega) (by omega) (by omega) (by omega)
        have e0 : fX11_ask_L1 r4 r6.1 fuel 0 0 0 = some yy := by
          show fX11_ask_L1 r4 r6.1 (999 + 1) (nI 0) 0 (nI 0) = some yy
          rw [fX11_ask_L1]
          refine fn (by decide) (bd_c (hc 0 (by omega)) (lt_c (lt_c (tp rfl (lt_c ?_)))))
          exact ey
        have e1 : fX12_ask_L3 r6.1 (fX12_plainTried M3) fuel 1 2 = some (nI (bb + 1)) := hb3
        refine ok_bindx e0 (ok_lt (ok_some ?_))
        refine ok_lt (ok_f pre (ok_f (by rw [isIn_1 y0 y1]; exact i10) (ok_bindx eb (ok_lt ?_))))
        rw [← b1]
        refine ok_bindx eM3 (ok_lt (ok_bindx e1 ?_))
        have fr : QF M (fX12_plainTried M3) := QF.th.tr (b3.tr (c1.tr hp.1))
        rw [hb2]
        refine ok_if (fun c => ok_some ⟨?_, a2, Or.inr ⟨i, hi, a3, a4⟩, b2, a1, fr⟩) (fun c => ok_bindx (hm bb hb1) (ok_some ⟨?_, a2, Or.inr ⟨i, hi, a3, a4⟩, b2, a1, fr⟩))
        · show (if y = 0 then nI bb + 1 else _) = nI (bb + 1)
          rw [if_pos c, nI_1]
        · exact if_neg c
