/-! a law's sum: what waits is put behind what it joins -/
def rk (t : Nat) : Nat := if 13 ≤ t then 6 else if 11 ≤ t then 5 else if 5 ≤ t then 4 else if t = 2 then 3 else if t = 3 then 2 else if t = 4 then 1 else 0
def wt (t : Nat) : Int32 := if t = 0 then 15 else kc (nI t)
theorem rk_d : ∀ t, t ≤ 14 → fX12_standing (nI t) = nI (rk t) := by decide +kernel
theorem wt_d : ∀ t, t ≤ 14 → t ≠ 1 → ¬ (wt t < 0 ∨ 16 ≤ (wt t).toNatClampNeg) ∧ rkv (wt t).toNatClampNeg = nI (rk t) := by decide +kernel
theorem rk_le (t : Nat) : rk t ≤ 6 := by unfold rk; split <;> (try split) <;> (try split) <;> (try split) <;> (try split) <;> (try split) <;> omega
theorem rk_0 {t : Nat} (h : 1 ≤ rk t) : t ≠ 0 := fun z => by subst z; exact absurd h (by decide)
theorem rk_pos {t : Nat} (h1 : t ≠ 0) (h2 : t ≠ 1) : 1 ≤ rk t := by unfold rk; split <;> (try split) <;> (try split) <;> (try split) <;> (try split) <;> (try split) <;> omega
theorem hst_cong {k k' : Nat → Int32} : ∀ n, (∀ j, j < n → k j = k' j) → hst k n = hst k' n
  | 0, _ => rfl
  | n + 1, h => by rw [hst, hst, h n (by omega), hst_cong n (fun j hj => h j (by omega))]
theorem hst_len (k : Nat → Int32) : ∀ n, (hst k n).length ≤ n
  | 0 => Nat.le_refl _
  | n + 1 => by
    have := hst_len k n
    rw [hst]
    split
    · rw [List.length_cons]; omega
    · split
      · rw [List.length_cons, List.length_drop]; omega
      · rw [List.length_cons, List.length_drop]; omega
def cntz (wa : Nat → Nat) : Nat → Nat
  | 0 => 0
  | w + 1 => cntz wa w + (if wa w = 0 then 1 else 0)
def cntb (wa : Nat → Nat) : Nat → Nat
  | 0 => 0
  | w + 1 => cntb wa w + (if 3 ≤ wa w then 1 else 0)
theorem cntz_cong {a b : Nat → Nat} : ∀ w, (∀ j, j < w → a j = b j) → cntz a w = cntz b w
  | 0, _ => rfl
  | w + 1, h => by rw [cntz, cntz, h w (by omega), cntz_cong w (fun j hj => h j (by omega))]
theorem cntb_cong {a b : Nat → Nat} : ∀ w, (∀ j, j < w → a j = b j) → cntb a w = cntb b w
  | 0, _ => rfl
  | w + 1, h => by rw [cntb, cntb, h w (by omega), cntb_cong w (fun j hj => h j (by omega))]
theorem cntz_le (wa : Nat → Nat) : ∀ w, cntz wa w ≤ w
  | 0 => Nat.le_refl _
  | w + 1 => by
    have := cntz_le wa w
    rw [cntz]; split <;> omega
def hh (M : St) (fr n : Nat) : List Nat := hst (fun j => k64 M 39 (fr + j)) n
def HLD (M : St) (fr : Nat) (H : List Nat) : Prop := gI M 45 = nI H.length ∧ ∀ j x, H[j]? = some x → gA M 43 (H.length - 1 - j) = nI (fr + x)
def KN (f M : St) (fr n : Nat) : Prop := LW (k64 M 39) (k64 M 40) (k64 M 41) fr n ∧ ∀ i, i < n → gA f 0 i = kc (k64 M 39 (fr + i)) ∧ (k64 M 39 (fr + i) = 0 ∨ k64 M 39 (fr + i) = 1 → gA f 1 i = k64 M 40 (fr + i))
def PRw (ph M : St) (w : Nat) (wa : Nat → Nat) : Prop := gI ph 1 = nI w ∧ gI M 44 = nI w ∧ ∀ j, j < w → gA M 42 j = nI (wa j) ∧ gA ph 0 j = wt (wa j) ∧ wa j ≤ 14 ∧ wa j ≠ 1
def PRo (ph M : St) (w op : Nat) (wa : Nat → Nat) : Prop := gI ph 2 = nI op ∧ gI M 46 = nI op ∧ op ≤ 8 ∧ op = cntz wa w
def PRc (ph M : St) (fr c : Nat) : Prop := gI ph 3 = nI c ∧ gI M 47 = nI (fr + c) ∧ fr + c ≤ 64 ∧ gI ph 4 = nI (64 - fr) ∧ gI ph 5 = 0
/-- e: 1 behind a part, 0 where a part is due -/
def PR (ph f M : St) (fr w op n c : Nat) (wa : Nat → Nat) (e : Nat) : Prop := PRw ph M w wa ∧ PRo ph M w op wa ∧ (gI f 3 = nI n ∧ gI M 21 = nI (fr + n)) ∧ PRc ph M fr c ∧ n + w = c + op ∧ KN f M fr n ∧ HLD M fr (hh M fr n) ∧ (hh M fr n).length = cntb wa w + e
theorem add0_c {f : St} {n : Nat} {x y : Int32} (h : gI f 3 = nI n) (hn : n < 64) : fX0_add f x y = some (sI (sA (sA f 0 n x) 1 n y) 3 (nI (n + 1))) := by
  unfold fX0_add
  have c : ¬ (nI n < 0 ∨ 64 ≤ n) := kx hn (by decide)
  rw [h, cl (show n < 2 ^ 31 by omega)]
  refine fn (show ¬ nI 64 ≤ nI n by rw [nI_leI (by omega) (by omega)]; omega) (fn c (lt_c ?_))
  have g1 : gI (sA f 0 n x) 3 = nI n := h
  rw [g1, cl (show n < 2 ^ 31 by omega)]
  refine fn c (lt_c ?_)
  have g2 : gI (sA (sA f 0 n x) 1 n y) 3 = nI n := h
  rw [g2, nI_1]; rfl
theorem drop_c {M : St} {b : Nat} (h : gI M 45 = nI (b + 1)) (hb : b < 96) : fX12_dropHeld M = some (gA M 43 b, sI M 45 (nI b)) := by
  unfold fX12_dropHeld
  rw [h, nI_sub1]
  have g1 : gI (sI M 45 (nI b)) 45 = nI b := rfl
  refine lt_c (lt_c ?_)
  rw [g1, cl (show b < 2 ^ 31 by omega)]
  exact fn (kx hb (by decide)) rfl
def gwM (M : St) (a b : Nat) (x y z : Int32) : St := sI (sI (sA (sA (sA (sA M 39 (64 + a) x) 40 (64 + a) y) 41 (64 + a) z) 43 b (nI a)) 45 (nI (b + 1))) 21 (nI (a + 1))
theorem grown_c {M : St} {a b : Nat} {x y z : Int32} (h1 : gI M 21 = nI a) (h2 : gI M 45 = nI b) (ha : a < 64) (hb : b < 96) : fX12_grown M x y z = some (gwM M a b x y z) := by
  unfold fX12_grown gwM
  have e : (64 : Int32) + nI a = nI (64 + a) := by rw [show (64 : Int32) = nI 64 from rfl, nI_add]
  have c : ¬ (nI (64 + a) < 0 ∨ 128 ≤ 64 + a) := kx (by omega) (by decide)
  have c2 : ¬ (nI b < 0 ∨ 96 ≤ b) := kx hb (by decide)
  rw [h1, e, cl (show 64 + a < 2 ^ 31 by omega)]
  refine fn c (lt_c ?_)
  have g1 : gI (sA M 39 (64 + a) x) 21 = nI a := h1
  rw [g1, e, cl (show 64 + a < 2 ^ 31 by omega)]
  refine fn c (lt_c ?_)
  have g2 : gI (sA (sA M 39 (64 + a) x) 40 (64 + a) y) 21 = nI a := h1
  rw [g2, e, cl (show 64 + a < 2 ^ 31 by omega)]
  refine fn c (lt_c ?_)
  have g3 : gI (sA (sA (sA M 39 (64 + a) x) 40 (64 + a) y) 41 (64 + a) z) 21 = nI a := h1
  have g4 : gI (sA (sA (sA M 39 (64 + a) x) 40 (64 + a) y) 41 (64 + a) z) 45 = nI b := h2
  rw [g3, g4, cl (show b < 2 ^ 31 by omega)]
  refine lt_c (fn c2 (lt_c ?_))
  have g5 : gI (sA (sA (sA (sA M 39 (64 + a) x) 40 (64 + a) y) 41 (64 + a) z) 43 b (nI a)) 45 = nI b := h2
  rw [g5, nI_1]
  refine lt_c (lt_c ?_)
  have g6 : gI (sI (sA (sA (sA (sA M 39 (64 + a) x) 40 (64 + a) y) 41 (64 + a) z) 43 b (nI a)) 45 (nI (b + 1))) 21 = nI a := h1
  rw [g6, nI_1]; rfl
theorem gw_39 (M : St) (a b : Nat) (x y z : Int32) (r i : Nat) (h : r ≠ 43) : gA (gwM M a b x y z) r i = if r = 39 ∧ i = 64 + a then x else if r = 40 ∧ i = 64 + a then y else if r = 41 ∧ i = 64 + a then z else gA M r i := by
  show gA (sA (sA (sA (sA M 39 (64 + a) x) 40 (64 + a) y) 41 (64 + a) z) 43 b (nI a)) r i = _
  rw [gA_row _ _ _ _ h, gA_sA, gA_sA, gA_sA]
  by_cases c1 : r = 41 ∧ i = 64 + a
  · rw [if_pos c1, if_neg (show ¬ (r = 39 ∧ i = 64 + a) by omega), if_neg (show ¬ (r = 40 ∧ i = 64 + a) by omega), if_pos c1]
  · by_cases c2 : r = 40 ∧ i = 64 + a
    · rw [if_neg c1, if_pos c2, if_neg (show ¬ (r = 39 ∧ i = 64 + a) by omega), if_pos c2]
    · by_cases c3 : r = 39 ∧ i = 64 + a
      · rw [if_neg c1, if_neg c2, if_pos c3, if_pos c3]
      · rw [if_neg c1, if_neg c2, if_neg c3, if_neg c3, if_neg c2, if_neg c1]
theorem gw_43 (M : St) (a b : Nat) (x y z : Int32) (i : Nat) : gA (gwM M a b x y z) 43 i = if i = b then nI a else gA M 43 i := by
  show gA (sA (sA (sA (sA M 39 (64 + a) x) 40 (64 + a) y) 41 (64 + a) z) 43 b (nI a)) 43 i = _
  rw [gA_sA]
  by_cases e : i = b
  · rw [if_pos ⟨rfl, e⟩, if_pos e]
  · rw [if_neg (fun z => e z.2), if_neg e, gA_row _ _ _ _ (by decide), gA_row _ _ _ _ (by decide), gA_row _ _ _ _ (by decide)]
/-- the rest of a phrase does not see what settling changes -/
def bI (k : Nat) : Prop := k = 21 ∨ k = 44 ∨ k = 45
def BF (fr : Nat) (M M' : St) : Prop := (∀ k, ¬ bI k → gI M' k = gI M k) ∧ M'.2.1 = M.2.1 ∧ ∀ r i, ¬ (r = 43 ∨ (39 ≤ r ∧ r ≤ 41 ∧ 64 + fr ≤ i)) → gA M' r i = gA M r i
theorem BF.rf {fr : Nat} {M : St} : BF fr M M := ⟨fun _ _ => rfl, rfl, fun _ _ _ => rfl⟩
theorem BF.tr {fr : Nat} {x y z : St} (h : BF fr x y) (k : BF fr y z) : BF fr x z := ⟨fun j q => (k.1 j q).trans (h.1 j q), k.2.1.trans h.2.1, fun r i q => (k.2.2 r i q).trans (h.2.2 r i q)⟩
theorem BF.wI {fr k : Nat} {M : St} {v : Int32} (h : bI k) : BF fr M (sI M k v) := ⟨fun j q => gI_sIn _ _ (fun e => q (by rw [e]; exact h)), rfl, fun _ _ _ => rfl⟩
theorem BF.gw {fr a b : Nat} {M : St} {x y z : Int32} (h : fr ≤ a) : BF fr M (gwM M a b x y z) := by
  refine ⟨fun k q => ?_, rfl, fun r i q => ?_⟩
  · unfold bI at q
    show gI (sI (sI (sA (sA (sA (sA M 39 (64 + a) x) 40 (64 + a) y) 41 (64 + a) z) 43 b (nI a)) 45 (nI (b + 1))) 21 (nI (a + 1))) k = gI M k
    rw [gI_sIn _ _ (by omega), gI_sIn _ _ (by omega)]; rfl
  · rw [gw_39 _ _ _ _ _ _ _ _ (fun e => q (Or.inl e)), if_neg (fun e => q (Or.inr ⟨by omega, by omega, by omega⟩)), if_neg (fun e => q (Or.inr ⟨by omega, by omega, by omega⟩)), if_neg (fun e => q (Or.inr ⟨by omega, by omega, by omega⟩))]
theorem k64_gw {M : St} {a b fr i : Nat} {x y z : Int32} (r : Nat) (hr : 39 ≤ r ∧ r ≤ 41) (h : fr + i ≠ a) : k64 (gwM M a b x y z) r (fr + i) = k64 M r (fr + i) := by
  unfold k64
  rw [gw_39 _ _ _ _ _ _ _ _ (by omega), if_neg (by omega), if_neg (by omega), if_neg (by omega)]
theorem k64_n {M : St} {a b : Nat} {x y z : Int32} : k64 (gwM M a b x y z) 39 a = x ∧ k64 (gwM M a b x y z) 40 a = y ∧ k64 (gwM M a b x y z) 41 a = z := by
  unfold k64
  rw [gw_39 _ _ _ _ _ _ _ _ (by decide), gw_39 _ _ _ _ _ _ _ _ (by decide), gw_39 _ _ _ _ _ _ _ _ (by decide)]
  exact ⟨if_pos ⟨rfl, rfl⟩, by rw [if_neg (by omega), if_pos ⟨rfl, rfl⟩], by rw [if_neg (by omega), if_neg (by omega), if_pos ⟨rfl, rfl⟩]⟩
/-- knots so far, and one more -/
theorem KN.add {f M M' : St} {fr n t : Nat} {v : Int32} (h : KN f M fr n) (hk : ∀ r, 39 ≤ r → r ≤ 41 → ∀ i, i < n → k64 M' r (fr + i) = k64 M r (fr + i)) (ht : t ≤ 14) (e : k64 M' 39 (fr + n) = nI t) (h0 : t = 0 → nn (k64 M' 40 (fr + n)) 0 9999) (h1 : t = 1 → nn (k64 M' 40 (fr + n)) 0 6) (h2 : t = 2 → ∃ x r, hh M fr n = x :: r ∧ k64 M' 40 (fr + n) = nI (fr + x)) (h3 : 2 < t → ∃ y x r, hh M fr n = y :: x :: r ∧ k64 M' 40 (fr + n) = nI (fr + x) ∧ k64 M' 41 (fr + n) = nI (fr + y)) (hv : t = 0 ∨ t = 1 → v = k64 M' 40 (fr + n)) : KN (sI (sA (sA f 0 n (kc (nI t))) 1 n v) 3 (nI (n + 1))) M' fr (n + 1) := by
  have hs : ∀ i, i ≤ n → hst (fun j => k64 M' 39 (fr + j)) i = hst (fun j => k64 M 39 (fr + j)) i := fun i hi => hst_cong i (fun j hj => hk 39 (by omega) (by omega) j (by omega))
  refine ⟨fun i hi => ?_, fun i hi => ?_⟩
  · by_cases q : i = n
    · subst q
      refine ⟨t, ht, e, h0, h1, fun z => ?_, fun z => ?_⟩
      · rw [hs i (Nat.le_refl _)]; exact h2 z
      · rw [hs i (Nat.le_refl _)]; exact h3 z
    · obtain ⟨t', a1, a2, a3, a4, a5, a6⟩ := h.1 i (by omega)
      refine ⟨t', a1, ?_, ?_, ?_, ?_, ?_⟩
      · rw [hk 39 (by omega) (by omega) i (by omega)]; exact a2
      · rw [hk 40 (by omega) (by omega) i (by omega)]; exact a3
      · rw [hk 40 (by omega) (by omega) i (by omega)]; exact a4
      · rw [hk 40 (by omega) (by omega) i (by omega), hs i (by omega)]; exact a5
      · rw [hk 40 (by omega) (by omega) i (by omega), hk 41 (by omega) (by omega) i (by omega), hs i (by omega)]; exact a6
  · by_cases q : i = n
    · subst q
      rw [e]
      refine ⟨?_, fun z => ?_⟩
      · show gA (sA (sA f 0 i (kc (nI t))) 1 i v) 0 i = _
        rw [gA_row _ _ _ _ (by decide), gA_same]
      · show gA (sA (sA f 0 i (kc (nI t))) 1 i v) 1 i = _
        rw [gA_same]
        refine hv ?_
        rcases z with z | z
        · exact Or.inl ((nI_eq (a := t) (b := 0) (by omega) (by omega)).mp z)
        · exact Or.inr ((nI_eq (a := t) (b := 1) (by omega) (by omega)).mp z)
    · obtain ⟨a1, a2⟩ := h.2 i (by omega)
      rw [hk 39 (by omega) (by omega) i (by omega), hk 40 (by omega) (by omega) i (by omega)]
      refine ⟨?_, fun z => ?_⟩
      · show gA (sA (sA f 0 n (kc (nI t))) 1 n v) 0 i = _
        rw [gA_idx _ _ _ _ q, gA_idx _ _ _ _ q]; exact a1
      · show gA (sA (sA f 0 n (kc (nI t))) 1 n v) 1 i = _
        rw [gA_idx _ _ _ _ q, gA_idx _ _ _ _ q]; exact a2 z
/-- what is held, with a knot over d others -/
theorem HLD.push {M M' : St} {fr n d : Nat} {H : List Nat} (h : HLD M fr H) (hd : d ≤ H.length) (e45 : gI M' 45 = nI (H.length - d + 1)) (e43 : ∀ i, gA M' 43 i = if i = H.length - d then nI (fr + n) else gA M 43 i) : HLD M' fr (n :: H.drop d) := by
  have el : (n :: H.drop d).length = H.length - d + 1 := by rw [List.length_cons, List.length_drop]
  refine ⟨by rw [el]; exact e45, fun j x hx => ?_⟩
  rw [el, e43]
  cases j with
  | zero =>
    rw [List.getElem?_cons_zero] at hx
    cases hx
    rw [if_pos (by omega)]
  | succ j =>
    rw [List.getElem?_cons_succ, List.getElem?_drop] at hx
    have hl := (List.getElem?_eq_some_iff.mp hx).1
    rw [if_neg (by omega), show H.length - d + 1 - 1 - (j + 1) = H.length - 1 - (d + j) by omega]
    exact h.2 (d + j) x hx
