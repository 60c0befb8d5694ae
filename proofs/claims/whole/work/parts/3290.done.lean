/-! what is done by call -/
def sg (s1 s2 k : Nat) : Nat := if k = s2 then s1 else if k = s1 then s2 else k
theorem sg_lt {s1 s2 k n : Nat} (h1 : s1 < n) (h2 : s2 < n) (hk : k < n) : sg s1 s2 k < n := by
  unfold sg; split <;> (try split) <;> omega
theorem sg_out {s1 s2 k n : Nat} (h1 : s1 < n) (h2 : s2 < n) (hk : n ≤ k) : sg s1 s2 k = k := by
  unfold sg; rw [if_neg (by omega), if_neg (by omega)]
theorem sg_inj {s1 s2 i j : Nat} (h : sg s1 s2 i = sg s1 s2 j) : i = j := by
  unfold sg at h
  split at h <;> split at h <;> (try split at h) <;> (try split at h) <;> omega
theorem sg_sg {s1 s2 k : Nat} : sg s1 s2 (sg s1 s2 k) = k := by
  unfold sg
  by_cases a : k = s2
  · subst a
    rw [if_pos rfl]
    by_cases b : s1 = k
    · rw [if_pos b, b]
    · rw [if_neg b, if_pos rfl]
  · rw [if_neg a]
    by_cases b : k = s1
    · rw [if_pos b, if_pos rfl, b]
    · rw [if_neg b, if_neg a, if_neg b]
theorem HR.swap {u M : St} {na ng nr s1 s2 a c : Nat} (h : HR u M 0 na ng nr) (h1 : s1 < ng) (h2 : s2 < ng) (e1 : gA M 60 s1 = nI a) (e2 : gA M 60 s2 = nI c) (hn : s1 ≠ s2) : HR (sA (sA u 12 s1 (nI c)) 12 s2 (nI a)) (sA (sA M 60 s1 (nI c)) 60 s2 (nI a)) 0 na ng nr := by
  obtain ⟨⟨v0, v1, v2, v3, v4, v5, v7, v6⟩, ⟨r0, r1, r2, r3⟩, i0, i1, ⟨f, t1, t2, t3, t4, t5⟩, i3, i4, i5, i6⟩ := h
  have h6 : ng ≤ 6 := i0.2.1
  have fa : nI a = nI (f s1) := by
    have := t1 s1 (by omega)
    rw [z6, e1] at this
    exact this
  have fc : nI c = nI (f s2) := by
    have := t1 s2 (by omega)
    rw [z6, e2] at this
    exact this
  refine ⟨⟨v0, v1, v2, v3, v4, v5, v7, v6⟩, ⟨r0, r1, r2, fun k hk => ?_⟩, i0, i1, ⟨fun k => f (sg s1 s2 k), fun k hk => ?_, fun k hk => t2 _ (sg_lt h1 h2 hk), fun k hk hk6 => ?_, fun i j hi hj e => sg_inj (t4 _ _ (sg_lt (by omega) (by omega) hi) (sg_lt (by omega) (by omega) hj) e), fun g hg => ?_⟩, i3, i4, i5, i6⟩
  · rw [z6]
    have r := r3 k hk
    rw [z6] at r
    by_cases q2 : k = s2
    · subst q2; rw [gA_same, gA_same]
    · rw [gA_idx _ _ _ _ q2, gA_idx _ _ _ _ q2]
      by_cases q1 : k = s1
      · subst q1; rw [gA_same, gA_same]
      · rw [gA_idx _ _ _ _ q1, gA_idx _ _ _ _ q1]; exact r
  · have t := t1 k hk
    rw [z6] at t ⊢
    show _ = nI (f (sg s1 s2 k))
    unfold sg
    by_cases q2 : k = s2
    · rw [if_pos q2, q2, gA_same]; exact fa
    · rw [if_neg q2, gA_idx _ _ _ _ q2]
      by_cases q1 : k = s1
      · rw [if_pos q1, q1, gA_same]; exact fc
      · rw [if_neg q1, gA_idx _ _ _ _ q1]; exact t
  · show f (sg s1 s2 k) = k
    rw [sg_out h1 h2 hk]; exact t3 k hk hk6
  · obtain ⟨k, hk, e⟩ := t5 g hg
    exact ⟨sg s1 s2 k, sg_lt h1 h2 hk, by show f (sg s1 s2 (sg s1 s2 k)) = g; rw [sg_sg]; exact e⟩
/-- two guests sit apart -/
theorem seats_ne {u M : St} {na ng nr s1 s2 a c : Nat} (h : HR u M 0 na ng nr) (h1 : s1 < ng) (h2 : s2 < ng) (ha : a < ng) (hc : c < ng) (e1 : gA M 60 s1 = nI a) (e2 : gA M 60 s2 = nI c) : s1 = s2 ↔ a = c := by
  have h6 : ng ≤ 6 := h.2.2.1.2.1
  obtain ⟨f, t1, t2, t3, t4, t5⟩ := h.2.2.2.2.1
  have a1 := t1 s1 (by omega)
  have a2 := t1 s2 (by omega)
  rw [z6, e1] at a1
  rw [z6, e2] at a2
  have f1 := t2 s1 h1
  have f2 := t2 s2 h2
  have b1 := nI_inj (by omega) (by omega) a1
  have b2 := nI_inj (by omega) (by omega) a2
  constructor
  · intro q; rw [q] at b1; omega
  · intro q; exact t4 s1 s2 (by omega) (by omega) (by omega)
theorem swap_eq {u M : St} {na ng nr a c : Nat} (h : HR u M 0 na ng nr) (ha : a < ng) (hc : c < ng) : ∃ s1 s2, s1 < ng ∧ s2 < ng ∧ gA M 60 s1 = nI a ∧ gA M 60 s2 = nI c ∧ fX12_seatOf M (nI a) = some (nI s1) ∧ fX12_seatOf M (nI c) = some (nI s2) ∧ fX1_swapSeats u (nI a) (nI c) = some (sA (sA u 12 s1 (nI c)) 12 s2 (nI a)) := by
  have h6 : ng ≤ 6 := h.2.2.1.2.1
  obtain ⟨s1, b1, b2, b3, b4, b5⟩ := seatOf_of h ha
  obtain ⟨s2, c1, c2, c3, c4, c5⟩ := seatOf_of h hc
  refine ⟨s1, s2, b1, c1, b3, c3, b5, c5, ?_⟩
  unfold fX1_swapSeats
  refine bd_c b4 (bd_c c4 (fn (nI_nn (by omega)) (fn (nI_nn (by omega)) ?_)))
  rw [cl (show s1 < 2 ^ 31 by omega), cl (show s2 < 2 ^ 31 by omega)]
  exact fn (kx (by omega) (by decide)) (lt_c (fn (kx (by omega) (by decide)) rfl))
/-- frame of a deed: the left half, the snapshots, their number -/
def DF (M M' : St) : Prop := (∀ k, k ≠ 2 → k ≠ 80 → gI M' k = gI M k) ∧ M'.2.1 = M.2.1 ∧ ∀ r, r ≠ 53 → r ≠ 54 → r ≠ 55 → r ≠ 60 → r ≠ 81 → gA M' r = gA M r
theorem DF.th {M : St} {v : Int32} : DF M (sI M 2 v) := ⟨fun k h _ => gI_sIn M v h, rfl, fun _ _ _ _ _ _ => rfl⟩
theorem DF.tr {x y z : St} (h : DF x y) (k : DF y z) : DF x z := ⟨fun j a b => (k.1 j a b).trans (h.1 j a b), k.2.1.trans h.2.1, fun r a b c d e => (k.2.2 r a b c d e).trans (h.2.2 r a b c d e)⟩
theorem DF.R {M M' : St} (h : RF M M') : DF M M' := ⟨fun k _ b => h.1 k b, h.2.1, fun r _ _ _ _ e => h.2.2 r e⟩
theorem DF.wA {M : St} {r i : Nat} {v : Int32} (h : r = 53 ∨ r = 54 ∨ r = 55 ∨ r = 60) : DF M (sA M r i v) := ⟨fun _ _ _ => rfl, rfl, fun q a b c d _ => gA_sAr _ _ _ (by omega)⟩
def deR (na ng nr : Nat) (M : St) (r : Int32 × St × St) (r' : Int32 × St) : Prop := r.1 = r'.1 ∧ DF M r'.2 ∧ HR r.2.1 r'.2 0 na ng nr ∧ SPR r.2.2 r'.2 ng
theorem HR.RF {u M M' : St} {b na ng nr : Nat} (h : HR u M b na ng nr) (k : RF M M') : HR u M' b na ng nr := h.M (k.2.2 33 (by omega)) (fun r i h1 h2 _ => by rw [k.2.2 r (by omega)])
theorem on_iff {u M : St} {na ng nr : Nat} (h : HR u M 0 na ng nr) : (gI u 2 = -1 ∧ gA M 53 0 < 0 ∧ gA M 53 0 = -1 ∧ gA M 54 0 = 0) ∨ (gI u 2 ≠ -1 ∧ ¬ gA M 53 0 < 0) := by
  have e : gI u 2 = gA M 53 0 := h.1.2.2.1
  rcases h.2.2.2.1 with ⟨a, b⟩ | ⟨i, hi, a, b⟩
  · exact Or.inl ⟨e.trans a, by rw [a]; decide, a, b⟩
  · have h6 : na ≤ 6 := h.2.2.1.1
    exact Or.inr ⟨by rw [e, a]; exact nI_nn (by omega), by rw [a]; exact nI_pos (by omega)⟩
theorem stage_of {T : Nat → St} {mn now sp M : St} {na ng nr ns : Nat} {x : Int32} (hT : TR T M na ng nr ns) (hH : HR now M 0 na ng nr) (hS : SPR sp M ng) : ok (fX11_stage mn now sp T x) (fun r => ok (fX12_stage M x) (fun r' => deR na ng nr M r r')) := by
  have h6 := hT.1.1.1
  have hg := hT.1.1.2.1
  have a5 := hT.1.2.1.1
  have hH1 : HR now (sI M 2 0) 0 na ng nr := hH.Q QF.th
  have hS1 : SPR sp (sI M 2 0) ng := hS.fr rfl rfl (fun _ _ => rfl) hg
  have em : fX12_isAct (sI M 2 0) x = tst (nI na) x := by rw [isAct_t]; exact congrArg (fun w => tst w x) hT.1.2.2.1
  have ec : fX7_has 6 (T 1) x = tst (nI na) x := by rw [has_t, a5]
  unfold fX11_stage fX12_stage
  rw [ec]
  rcases tst_or (k := na) x (by omega) with q | ⟨i, hi, rfl, q⟩
  · exact ok_t q (ok_some (ok_lt (ok_t (em.trans q) (ok_some ⟨rfl, DF.th, hH1, hS1⟩))))
  · obtain ⟨_, _, e3, _, e5⟩ := hT.2.1 i hi
    have pre : ¬ fX12_isAct (sI M 2 0) (nI i) = 0 := by rw [em, q]; exact i10
    refine ok_f (by rw [q]; exact i10) ?_
    rw [minutesOf_eq a5 hi h6, cl (show i < 2 ^ 31 by omega)]
    rcases on_iff hH with ⟨b1, b2, b3, b4⟩ | ⟨b1, b2⟩
    · refine ok_t b1 (ok_bind (ok_some (ok_lt (ok_bind (ok_mono (hS1.add (x := 0) (y := 0) (z := 0) hg) (fun sp' hsp => ok_some ?_))))))
      obtain ⟨M1, eM1, k1, k2⟩ := hsp
      refine ok_lt (ok_f pre (ok_t b2 (ok_bindx eM1 (ok_lt (ok_f (kx (by omega) (by decide)) (ok_lt (ok_lt (ok_some ?_))))))))
      have a26 : gA (sA M1 53 0 (nI i)) 26 i = gA M 26 i := by
        rw [gA_row _ _ _ _ (by decide), k1.2.2 26 (by decide)]; rfl
      rw [a26]
      have hw : HR (sI (sI now 2 (nI i)) 3 (gA M 26 i)) (sA (sA M1 53 0 (nI i)) 54 0 (gA M 26 i)) 0 na ng nr := (hH1.RF k1).won (Or.inr ⟨i, hi, rfl, e5⟩)
      have d1 : DF M (sA (sA M1 53 0 (nI i)) 54 0 (gA M 26 i)) := DF.th.tr ((DF.R k1).tr ((DF.wA (by decide)).tr (DF.wA (by decide))))
      refine ⟨?_, d1, by rw [e3]; exact hw, k2 _ rfl ?_ (Or.inl ⟨rfl, b3, b4, fun j h1 h2 => ?_⟩)⟩
      · show gA (T 1) 3 i = gA (sA (sA M1 53 0 (nI i)) 54 0 (gA M 26 i)) 54 0
        rw [gA_same, e3]
      · rw [gA_sAr _ _ _ (by decide), gA_sAr _ _ _ (by decide)]
      · have e2 : vw (sA (sA M1 53 0 (nI i)) 54 0 (gA M 26 i)) j = vw M1 j := by
          unfold vw
          rw [if_neg (show ¬ j = 0 by omega), if_neg (show ¬ j = 1 by omega), if_neg (show ¬ j = 0 by omega), if_neg (show ¬ j = 1 by omega)]
          rw [gA_row _ _ _ _ (by decide), gA_row _ _ _ _ (by decide), gA_row _ _ _ _ (by decide), gA_row _ _ _ _ (by decide)]
        rw [e2, k1.vws]
    · exact ok_f b1 (ok_some (ok_lt (ok_f pre (ok_f b2 (ok_some ⟨rfl, DF.th, hH1, hS1⟩)))))
theorem push_of {mn now sp M : St} {na ng nr : Nat} {x : Int32} (hH : HR now M 0 na ng nr) (hS : SPR sp M ng) : ok (fX11_push mn now sp x) (fun r => ok (fX12_push M x) (fun r' => deR na ng nr M r r')) := by
  have hg : ng ≤ 6 := hH.2.2.1.2.1
  have hH1 : HR now (sI M 2 0) 0 na ng nr := hH.Q QF.th
  have hS1 : SPR sp (sI M 2 0) ng := hS.fr rfl rfl (fun _ _ => rfl) hg
  have bad : deR na ng nr M ((-2147483648 : Int32), now, sp) ((-2147483648 : Int32), sI M 2 0) := ⟨rfl, DF.th, hH1, hS1⟩
  unfold fX11_push
  have no : (x = 0 ∨ fX12_isIn x (-99) 99 = 0) → ok (fX12_push M x) (fun r' => deR na ng nr M ((-2147483648 : Int32), now, sp) r') := by
    intro q
    unfold fX12_push
    refine ok_lt (ok_if (fun _ => ok_some bad) (fun c1 => ok_if (fun _ => ok_some bad) (fun c2 => ?_)))
    rcases q with q | q
    · exact absurd q c1
    · exact absurd q c2
  refine ok_if (fun q => ok_some (no (Or.inr (isIn_0 (Or.inl q))))) (fun x0 => ok_if (fun q => ok_some (no (Or.inr (isIn_0 (Or.inr q))))) (fun x1 => ok_if (fun q => ok_some (no (Or.inl q))) (fun x2 => ?_)))
  refine ok_bind (ok_mono (hS1.add (x := 2) (y := gI now 1) (z := 0) hg) (fun sp' hsp => ok_lt (ok_lt (ok_some ?_))))
  obtain ⟨M1, eM1, k1, k2⟩ := hsp
  unfold fX12_push
  refine ok_lt (ok_f x2 (ok_f (by rw [isIn_1 x0 x1]; exact i10) (ok_bindx eM1 (ok_lt (ok_lt (ok_some ?_))))))
  have es : gI now 1 = gA M1 55 0 := (hH1.RF k1).1.2.1
  have eb : (fX11_within (gI now 1 + x).toInt64 (-99) 99).toInt32 = fX12_bounded_ (gA M1 55 0 + x) (-99) 99 := by
    rw [es]; exact bound_d (lo := -99) (hi := 99) (by decide)
  have hb := bound_r (d := gA M1 55 0 + x) (lo := -99) (hi := 99) (by decide)
  rw [show (-99 : Int32).toInt = -99 from rfl, show (99 : Int32).toInt = 99 from rfl] at hb
  rw [eb]
  have hw := (hH1.RF k1).w55 (v := fX12_bounded_ (gA M1 55 0 + x) (-99) 99) hb.1 hb.2
  have sp0 : isSpeed M 0 := hH.2.2.2.2.2.2.2.1
  have e0 : gI now 1 = gA M 55 0 := hH.1.2.1
  refine ⟨?_, DF.th.tr ((DF.R k1).tr (DF.wA (by decide))), hw, k2 _ rfl ?_ (Or.inr (Or.inr ⟨rfl, ?_, ?_, ?_, fun j h1 h2 => ?_⟩))⟩
  · show fX12_bounded_ (gA M1 55 0 + x) (-99) 99 = gA (sA M1 55 0 (fX12_bounded_ (gA M1 55 0 + x) (-99) 99)) 55 0
    rw [gA_same]
  · rw [gA_sAr _ _ _ (by decide)]
  · exact e0.symm
  · rw [e0]; exact sp0.1
  · rw [e0]; exact sp0.2
  · have e2 : vw (sA M1 55 0 (fX12_bounded_ (gA M1 55 0 + x) (-99) 99)) j = vw M1 j := by
      unfold vw
      rw [if_neg h2, if_neg h2]
      rw [gA_row _ _ _ _ (by decide), gA_row _ _ _ _ (by decide), gA_row _ _ _ _ (by decide)]
    rw [e2, k1.vws]
theorem two_t {mn : St} {T : Nat → St} {ng : Nat} {x y : Int32} (h5 : gI (T 2) 5 = nI ng) : fX11_areTwoGuests mn T x y = if tst (nI ng) x = 0 then 0 else if tst (nI ng) y = 0 then 0 else if x = y then 0 else 1 := by
  unfold fX11_areTwoGuests
  rw [has_t, has_t, h5]
theorem change_of {T : Nat → St} {mn now sp M : St} {na ng nr ns : Nat} {x y : Int32} (hT : TR T M na ng nr ns) (hH : HR now M 0 na ng nr) (hS : SPR sp M ng) : ok (fX11_change mn now sp T x y) (fun r => ok (fX12_change M x y) (fun r' => deR na ng nr M r r')) := by
  have hg := hT.1.1.2.1
  have a5 := hT.1.2.1.2.1
  have hH1 : HR now (sI M 2 0) 0 na ng nr := hH.Q QF.th
  have hS1 : SPR sp (sI M 2 0) ng := hS.fr rfl rfl (fun _ _ => rfl) hg
  have bad : deR na ng nr M ((-1 : Int32), now, sp) ((-1 : Int32), sI M 2 0) := ⟨rfl, DF.th, hH1, hS1⟩
  have eg : ∀ w, fX12_isGuest (sI M 2 0) w = tst (nI ng) w := fun w => by rw [isGuest_t]; exact congrArg (fun v => tst v w) hT.1.2.2.2.1
  unfold fX11_change
  rw [two_t a5]
  rcases tst_or (k := ng) x (by omega) with q | ⟨a, ha, rfl, q⟩
  · refine ok_t (by rw [if_pos q]) (ok_some ?_)
    unfold fX12_change
    exact ok_lt (ok_t ((eg x).trans q) (ok_some bad))
  · rcases tst_or (k := ng) y (by omega) with w | ⟨c, hc, rfl, w⟩
    · refine ok_t (by rw [if_neg (by rw [q]; exact i10), if_pos w]) (ok_some ?_)
      unfold fX12_change
      exact ok_lt (ok_f (by rw [eg, q]; exact i10) (ok_t ((eg y).trans w) (ok_some bad)))
    · by_cases v : nI a = nI c
      · refine ok_t (by rw [if_neg (by rw [q]; exact i10), if_neg (by rw [w]; exact i10), if_pos v]) (ok_some ?_)
        unfold fX12_change
        exact ok_lt (ok_f (by rw [eg, q]; exact i10) (ok_f (by rw [eg, w]; exact i10) (ok_t v (ok_some bad))))
      · refine ok_f (by rw [if_neg (by rw [q]; exact i10), if_neg (by rw [w]; exact i10), if_neg v]; exact i10) ?_
        have vn : a ≠ c := fun z => v (by rw [z])
        obtain ⟨s1, s2, p1, p2, p3, p4, p5, p6, p7⟩ := swap_eq hH1 ha hc
        refine ok_bindx p7 (ok_bind (ok_mono (hS1.add (x := 1) (y := nI a) (z := nI c) hg) (fun sp' hsp => ?_)))
        obtain ⟨M1, eM1, k1, k2⟩ := hsp
        have hn : s1 ≠ s2 := fun z => vn ((seats_ne hH1 p1 p2 ha hc p3 p4).mp z)
        have r60 : gA M1 60 = gA (sI M 2 0) 60 := k1.2.2 60 (by decide)
        have hw := (hH1.RF k1).swap p1 p2 (by rw [r60]; exact p3) (by rw [r60]; exact p4) hn
        obtain ⟨s3, b1, b2, b3, b4, b5⟩ := seatOf_of hw ha
        have b6 : s3 = s2 := (seats_ne hw b1 p2 ha ha b3 (gA_same ..)).mpr rfl
        subst b6
        refine ok_bindx b4 (ok_some ?_)
        unfold fX12_change
        obtain ⟨t1, t2, o1, o2, o3, o4, o5, o6, _⟩ := swap_eq (hH1.RF k1) ha hc
        have e1 : t1 = s1 := (seats_ne (hH1.RF k1) o1 p1 ha ha o3 (by rw [r60]; exact p3)).mpr rfl
        have e2 : t2 = s3 := (seats_ne (hH1.RF k1) o2 p2 hc hc o4 (by rw [r60]; exact p4)).mpr rfl
        subst e1 e2
        refine ok_lt (ok_f (by rw [eg, q]; exact i10) (ok_f (by rw [eg, w]; exact i10) (ok_f v (ok_bindx eM1 (ok_bindx o5 (ok_bindx o6 ?_))))))
        rw [cl (show t1 < 2 ^ 31 by omega), cl (show t2 < 2 ^ 31 by omega)]
        refine ok_f (kx (by omega) (by decide)) (ok_lt (ok_f (kx (by omega) (by decide)) (ok_lt (ok_some ?_))))
        refine ⟨rfl, DF.th.tr ((DF.R k1).tr ((DF.wA (by decide)).tr (DF.wA (by decide)))), hw, k2 _ rfl ?_ (Or.inr (Or.inl ⟨rfl, fun j hj => ?_, a, c, t2, t1, ha, hc, p2, p1, fun z => hn z.symm, rfl, rfl, ?_, ?_, ?_, ?_, fun g h1 h2 h3 => ?_⟩))⟩
        · rw [gA_sAr _ _ _ (by decide), gA_sAr _ _ _ (by decide)]
        · have e2 : vw (sA (sA M1 60 t1 (nI c)) 60 t2 (nI a)) j = vw M1 j := by
            rcases (show j = 0 ∨ j = 1 ∨ j = 2 by omega) with rfl | rfl | rfl
            · rw [vw0, vw0, gA_row _ _ _ _ (by decide), gA_row _ _ _ _ (by decide)]
            · rw [vw1, vw1, gA_row _ _ _ _ (by decide), gA_row _ _ _ _ (by decide)]
            · rw [vw2, vw2, gA_row _ _ _ _ (by decide), gA_row _ _ _ _ (by decide)]
          rw [e2, k1.vws]
        · rw [vw3, gA_same]
        · rw [vw3, gA_idx _ _ _ _ hn, gA_same]
        · rw [vw3]; exact p4
        · rw [vw3]; exact p3
        · rw [vw3, vw3, gA_idx _ _ _ _ h2, gA_idx _ _ _ _ h3, r60]
/-! undo -/
theorem takeU_L {k : Nat} (hk : k < 20) : ∀ (d nf i : Nat) (M : St), i + d = 6 → d < nf → ok (fX12_take_undo_L1 (nI (9 * k)) nf (nI i) M) (fun M' => DF M M' ∧ M'.1 = M.1 ∧ (∀ r, r ≠ 60 → gA M' r = gA M r) ∧ (∀ g, g < i → gA M' 60 g = gA M 60 g) ∧ ∀ g, i ≤ g → g < 6 → gA M' 60 g = gA M 81 (9 * k + 3 + g))
  | 0, nf + 1, i, M, h, _ => by
    rw [fX12_take_undo_L1]
    exact ok_t (show nI 6 ≤ nI i by rw [nI_leI (by omega) (by omega)]; omega) (ok_some ⟨⟨fun _ _ _ => rfl, rfl, fun _ _ _ _ _ _ => rfl⟩, rfl, fun _ _ => rfl, fun _ _ => rfl, fun g h1 h2 => absurd h1 (by omega)⟩)
  | d + 1, nf + 1, i, M, h, hf => by
    have e : (nI (9 * k) + 3) + nI i = nI (9 * k + 3 + i) := by rw [show (3 : Int32) = nI 3 from rfl, nI_add, nI_add]
    rw [fX12_take_undo_L1, e, cl (show i < 2 ^ 31 by omega), cl (show 9 * k + 3 + i < 2 ^ 31 by omega)]
    refine ok_f (show ¬ nI 6 ≤ nI i by rw [nI_leI (by omega) (by omega)]; omega) (ok_f (kx (by omega) (by decide)) (ok_lt (ok_f (kx (by omega) (by decide)) (ok_lt (ok_lt ?_)))))
    rw [nI_1]
    refine ok_mono (takeU_L hk d nf (i + 1) _ (by omega) (by omega)) (fun M' hM => ?_)
    obtain ⟨a, b, c, e, f⟩ := hM
    refine ⟨(DF.wA (by decide)).tr a, b, fun r hr => (c r hr).trans (gA_sAr _ _ _ hr), fun g hg => ?_, fun g h1 h2 => ?_⟩
    · rw [e g (by omega), gA_idx _ _ _ _ (by omega)]
    · by_cases q : g = i
      · subst q
        rw [e _ (by omega), gA_same]
      · rw [f g (by omega) h2, gA_row _ _ _ _ (by decide)]
theorem takeU_of {M : St} {k : Nat} (hk : k < 20) : ok (fX12_take_undo M (nI (9 * k))) (fun M' => DF M M' ∧ M'.1 = M.1 ∧ gA M' 81 = gA M 81 ∧ ∀ i, i < 9 → vw M' i = sn M k i) := by
  unfold fX12_take_undo
  have e1 : nI (9 * k) + 1 = nI (9 * k + 1) := nI_1 _
  have e2 : nI (9 * k) + 2 = nI (9 * k + 2) := by rw [show (2 : Int32) = nI 2 from rfl, nI_add]
  rw [e1, e2, cl (show 9 * k < 2 ^ 31 by omega), cl (show 9 * k + 1 < 2 ^ 31 by omega), cl (show 9 * k + 2 < 2 ^ 31 by omega)]
  refine ok_f (kx (by omega) (by decide)) (ok_lt (ok_lt (ok_f (kx (by omega) (by decide)) (ok_lt (ok_lt (ok_f (kx (by omega) (by decide)) (ok_lt (ok_lt (ok_bind (ok_mono (takeU_L hk 6 fuel 0 _ (by omega) (by rw [fuel_eq]; omega)) (fun M' hM => ok_some ?_)))))))))))
  obtain ⟨a, b, c, d, e⟩ := hM
  refine ⟨(DF.wA (by decide)).tr ((DF.wA (by decide)).tr ((DF.wA (by decide)).tr a)), b, ?_, fun i hi => ?_⟩
  · rw [c 81 (by decide), gA_sAr _ _ _ (by decide), gA_sAr _ _ _ (by decide), gA_sAr _ _ _ (by decide)]
  · unfold sn
    by_cases q3 : 3 ≤ i
    · obtain ⟨g, rfl⟩ : ∃ g, i = 3 + g := ⟨i - 3, by omega⟩
      rw [vw3, show 9 * k + (3 + g) = 9 * k + 3 + g by omega, e g (by omega) (by omega)]
      rw [gA_row _ _ _ _ (by decide), gA_row _ _ _ _ (by decide), gA_row _ _ _ _ (by decide)]
    · rcases (show i = 0 ∨ i = 1 ∨ i = 2 by omega) with rfl | rfl | rfl
      · rw [vw0, c 53 (by decide), gA_row _ _ _ _ (by decide), gA_row _ _ _ _ (by decide), gA_same]; rfl
      · rw [vw1, c 54 (by decide), gA_row _ _ _ _ (by decide), gA_same, gA_row _ _ _ _ (by decide)]
      · rw [vw2, c 55 (by decide), gA_same, gA_row _ _ _ _ (by decide), gA_row _ _ _ _ (by decide)]
theorem HR.vws {u M M' : St} {na ng nr : Nat} (h : HR u M 0 na ng nr) (k : ∀ r, r ≠ 53 → r ≠ 54 → r ≠ 55 → r ≠ 60 → r ≠ 81 → gA M' r = gA M r) (hv : ∀ i, i < 9 → vw M' i = vw M i) : HR u M' 0 na ng nr := by
  refine h.mv (fun _ _ => rfl) (fun _ _ => rfl) (fun _ _ => rfl) (fun _ _ => rfl) (fun _ _ => rfl) (k 33 (by decide) (by decide) (by decide) (by decide) (by decide)) (fun r h1 h2 => ?_) (fun r h1 h2 g hg => ?_) (fun g hg => ?_)
  · by_cases q : r = 53
    · subst q; exact hv 0 (by omega)
    · by_cases q : r = 54
      · subst q; exact hv 1 (by omega)
      · by_cases q : r = 55
        · subst q; exact hv 2 (by omega)
        · rw [k r (by omega) (by omega) (by omega) (by omega) (by omega)]
  · by_cases q : r = 60
    · subst q
      have := hv (3 + g) (by omega)
      rw [vw3, vw3] at this
      rw [z6]; exact this
    · rw [k r (by omega) (by omega) (by omega) (by omega) (by omega)]
  · rw [k 63 (by decide) (by decide) (by decide) (by decide) (by decide)]
theorem undo_of {mn now sp M : St} {na ng nr : Nat} (hH : HR now M 0 na ng nr) (hS : SPR sp M ng) : ok (fX11_undo mn now sp) (fun r => ok (fX12_undo M) (fun r' => deR na ng nr M r r')) := by
  have hg : ng ≤ 6 := hH.2.2.1.2.1
  have hH1 : HR now (sI M 2 0) 0 na ng nr := hH.Q QF.th
  have hS1 : SPR sp (sI M 2 0) ng := hS.fr rfl rfl (fun _ _ => rfl) hg
  unfold fX11_undo fX12_undo
  obtain ⟨k, hk, a, b, c⟩ := hS
  rcases Nat.eq_zero_or_pos k with q | q
  · subst q
    exact ok_t a (ok_some (ok_lt (ok_t b (ok_some ⟨rfl, DF.th, hH1, hS1⟩))))
  · obtain ⟨k, rfl⟩ : ∃ j, k = j + 1 := ⟨k - 1, by omega⟩
    have n0 : ¬ nI (k + 1) = 0 := fun z => by
      have := (nI_eq (a := k + 1) (b := 0) (by omega) (by omega)).mp z; omega
    have hst := c k (by omega)
    -- the reference
    have mr : ok (lt (sI M 2 (0 : Int32)) fun u1 => if (gI u1 80) = 0 then (some ((-1 : Int32), u1)) else lt ((gI u1 80) - (1 : Int32)) fun x3 => lt (sI u1 80 x3) fun u4 => (fX12_take_undo u4 ((9 : Int32) * (gI u4 80))).bind fun r5 => some ((gI r5 80), r5)) (fun r' => r'.1 = nI k ∧ DF M r'.2 ∧ gI r'.2 80 = nI k ∧ gA r'.2 81 = gA M 81 ∧ ∀ i, i < 9 → vw r'.2 i = sn M k i) := by
      refine ok_lt (ok_f (by show ¬ gI M 80 = 0; rw [b]; exact n0) (ok_lt (ok_lt ?_)))
      have e80 : gI (sI (sI M 2 0) 80 (gI (sI M 2 0) 80 - 1)) 80 = nI k := by
        show gI M 80 - 1 = nI k
        rw [b, nI_sub1]
      rw [e80, show (9 : Int32) * nI k = nI (9 * k) by rw [show (9 : Int32) = nI 9 from rfl, nI_mul]]
      refine ok_bind (ok_mono (takeU_of (k := k) (by omega)) (fun M' hM => ok_some ?_))
      obtain ⟨d1, d2, d3, d4⟩ := hM
      have e2 : gI M' 80 = nI k := (congrFun d2 80).trans e80
      exact ⟨e2, DF.th.tr (DF.tr (y := sI (sI M 2 0) 80 (gI (sI M 2 0) 80 - 1)) ⟨fun j _ h => gI_sIn _ _ h, rfl, fun _ _ _ _ _ _ => rfl⟩ d1), e2, d3, d4⟩
    obtain ⟨r', er, m1, m2, m3, m4, m5⟩ := mr
    have hw : cur M (k + 1) (k + 1) = vw M := by unfold cur; rw [if_pos rfl]
    rw [hw] at hst
    have fin : ∀ (now' : St), HR now' r'.2 0 na ng nr → deR na ng nr M (nI k, now', sI sp 3 (nI k)) r' := by
      intro now' h
      refine ⟨m1.symm, m2, h, k, by omega, rfl, m3, fun j hj => (c j (by omega)).cong (fun i hi => ?_) (fun i hi => ?_) hg⟩
      · unfold cur
        rw [if_neg (show ¬ j + 1 = k + 1 by omega)]
        by_cases q : j + 1 = k
        · rw [if_pos q, m5 i hi, q]
        · rw [if_neg q]; unfold sn; rw [m4]
      · unfold sn; rw [m4]
    refine ok_f (by rw [a]; exact n0) ?_
    unfold fX9_takeBack
    rw [a, nI_sub1]
    have s3 : gI (sI sp 3 (nI k)) 3 = nI k := rfl
    refine ok_bind (ok_f n0 (ok_lt (ok_lt ?_)))
    rw [s3, cl (show k < 2 ^ 31 by omega)]
    have cc : ¬ (nI k < 0 ∨ 20 ≤ k) := kx (by omega) (by decide)
    refine ok_f cc (ok_lt ?_)
    show ok (if gA sp 0 k = 0 then _ else _) _
    rcases hst with ⟨g0, g1, g2, g3⟩ | ⟨g0, g1, x, y, s1, s2, c1, c2, c3, c4, c5, c6, c7, c8, c9, d1, d2, d3⟩ | ⟨g0, g1, g2, g3, g4⟩
    · refine ok_t g0 (ok_lt (ok_some (ok_some (ok_eq er (fin _ ?_)))))
      refine (hH.won (a := -1) (l := 0) (Or.inl ⟨rfl, rfl⟩)).vws (fun r h1 h2 h3 h4 h5 => ?_) (fun i hi => ?_)
      · rw [m2.2.2 r h1 h2 h3 h4 h5, gA_sAr _ _ _ h2, gA_sAr _ _ _ h1]
      · rw [m5 i hi]
        by_cases q0 : i = 0
        · subst q0; rw [g1, vw0, gA_row _ _ _ _ (by decide), gA_same]
        · by_cases q1 : i = 1
          · subst q1; rw [g2, vw1, gA_same]
          · rw [g3 i (by omega) hi]
            unfold vw
            rw [if_neg q0, if_neg q1, if_neg q0, if_neg q1]
            rw [gA_row _ _ _ _ (by decide), gA_row _ _ _ _ (by decide), gA_row _ _ _ _ (by decide), gA_row _ _ _ _ (by decide)]
    · refine ok_f (by rw [g0]; decide) (ok_t g0 (ok_f cc (ok_f cc ?_)))
      show ok ((fX1_swapSeats now (gA sp 1 k) (gA sp 2 k)).bind _) _
      rw [c6, c7]
      rw [vw3] at c8 c9
      obtain ⟨t1, t2, p1, p2, p3, p4, p5, p6, p7⟩ := swap_eq hH c1 c2
      have e1 : t1 = s1 := (seats_ne hH p1 c3 c1 c1 p3 c8).mpr rfl
      have e2 : t2 = s2 := (seats_ne hH p2 c4 c2 c2 p4 c9).mpr rfl
      subst e1 e2
      refine ok_bindx p7 (ok_some (ok_some (ok_eq er (fin _ ?_))))
      refine (hH.swap p1 p2 p3 p4 c5).vws (fun r h1 h2 h3 h4 h5 => ?_) (fun i hi => ?_)
      · rw [m2.2.2 r h1 h2 h3 h4 h5, gA_sAr _ _ _ h4, gA_sAr _ _ _ h4]
      · rw [m5 i hi]
        by_cases q3 : 3 ≤ i
        · obtain ⟨g, rfl⟩ : ∃ g, i = 3 + g := ⟨i - 3, by omega⟩
          rw [vw3]
          by_cases w1 : g = t1
          · subst w1; rw [d1, gA_idx _ _ _ _ c5, gA_same]
          · by_cases w2 : g = t2
            · subst w2; rw [d2, gA_same]
            · rw [d3 g (by omega) w1 w2, vw3, gA_idx _ _ _ _ w2, gA_idx _ _ _ _ w1]
        · rw [g1 i (by omega)]
          rcases (show i = 0 ∨ i = 1 ∨ i = 2 by omega) with rfl | rfl | rfl
          · rw [vw0, vw0, gA_row _ _ _ _ (by decide), gA_row _ _ _ _ (by decide)]
          · rw [vw1, vw1, gA_row _ _ _ _ (by decide), gA_row _ _ _ _ (by decide)]
          · rw [vw2, vw2, gA_row _ _ _ _ (by decide), gA_row _ _ _ _ (by decide)]
    · have g0' : gA (sI sp 3 (nI k)) 0 k = 2 := g0
      refine ok_f (by rw [g0]; decide) (ok_f (by rw [g0']; decide) (ok_f cc (ok_lt (ok_lt (ok_some (ok_some (ok_eq er (fin _ ?_))))))))
      show HR (sI now 1 (gA sp 1 k)) r'.2 0 na ng nr
      refine (hH.w55 (v := gA sp 1 k) g2 g3).vws (fun r h1 h2 h3 h4 h5 => ?_) (fun i hi => ?_)
      · rw [m2.2.2 r h1 h2 h3 h4 h5, gA_sAr _ _ _ h3]
      · rw [m5 i hi]
        by_cases q2 : i = 2
        · subst q2; rw [g1, vw2, gA_same]
        · rw [g4 i hi q2]
          unfold vw
          rw [if_neg q2, if_neg q2, gA_row _ _ _ _ (by decide), gA_row _ _ _ _ (by decide), gA_row _ _ _ _ (by decide)]
