/-! a part of a sum -/
def hI (k : Nat) : Prop := k = 4 ∨ k = 5 ∨ (7 ≤ k ∧ k ≤ 11) ∨ k = 21 ∨ (44 ≤ k ∧ k ≤ 49)
def HF (fr : Nat) (M M' : St) : Prop := (∀ k, ¬ hI k → gI M' k = gI M k) ∧ M'.2.1 = M.2.1 ∧ ∀ r i, ¬ (r = 42 ∨ r = 43 ∨ (39 ≤ r ∧ r ≤ 41 ∧ 64 + fr ≤ i)) → gA M' r i = gA M r i
theorem HF.rf {fr : Nat} {M : St} : HF fr M M := ⟨fun _ _ => rfl, rfl, fun _ _ _ => rfl⟩
theorem HF.tr {fr : Nat} {x y z : St} (h : HF fr x y) (k : HF fr y z) : HF fr x z := ⟨fun j q => (k.1 j q).trans (h.1 j q), k.2.1.trans h.2.1, fun r i q => (k.2.2 r i q).trans (h.2.2 r i q)⟩
theorem HF.wI {fr k : Nat} {M : St} {v : Int32} (h : hI k) : HF fr M (sI M k v) := ⟨fun j q => gI_sIn _ _ (fun e => q (by rw [e]; exact h)), rfl, fun _ _ _ => rfl⟩
theorem HF.w42 {fr i : Nat} {M : St} {v : Int32} : HF fr M (sA M 42 i v) := ⟨fun _ _ => rfl, rfl, fun r j q => gA_row _ _ _ _ (fun e => q (Or.inl e))⟩
theorem HF.B {fr : Nat} {M M' : St} (h : BF fr M M') : HF fr M M' := ⟨fun k q => h.1 k (fun z => q (by unfold bI at z; unfold hI; omega)), h.2.1, fun r i q => h.2.2 r i (fun z => q (by omega))⟩
theorem HF.m {fr : Nat} {M M' : St} (h : fI mQ M M') : HF fr M M' := ⟨fun k q => h.1 k (fun z => q (by unfold mQ mP at z; unfold hI; omega)), h.J, fun r i _ => by rw [h.A]⟩
theorem PR.M {ph f M M' : St} {fr w op n c e : Nat} {wa : Nat → Nat} (h : PR ph f M fr w op n c wa e) (h21 : gI M' 21 = gI M 21) (h44 : gI M' 44 = gI M 44) (h45 : gI M' 45 = gI M 45) (h46 : gI M' 46 = gI M 46) (h47 : gI M' 47 = gI M 47) (hA : ∀ r, 39 ≤ r → r ≤ 43 → gA M' r = gA M r) : PR ph f M' fr w op n c wa e := by
  unfold PR PRw PRo PRc KN HLD hh k64 at *
  rw [h21, h44, h45, h46, h47, hA 39 (by omega) (by omega), hA 40 (by omega) (by omega), hA 41 (by omega) (by omega), hA 42 (by omega) (by omega), hA 43 (by omega) (by omega)]
  exact h
theorem PR.t {ph f M M' : St} {fr w op n c e : Nat} {wa : Nat → Nat} (h : PR ph f M fr w op n c wa e) (k : fI mP M M') : PR ph f M' fr w op n c wa e := h.M (k.1 21 (by unfold mP; omega)) (k.1 44 (by unfold mP; omega)) (k.1 45 (by unfold mP; omega)) (k.1 46 (by unfold mP; omega)) (k.1 47 (by unfold mP; omega)) (fun r _ _ => k.A r)
def mayN (w : Nat) (wa : Nat → Nat) : Int32 := if w = 0 ∨ rk (wa (w - 1)) ≤ 3 then 1 else 0
/-- where the reading of a sum stands; x: 1 where a part is due -/
def LSt (ph f tk tp M : St) (N p fr : Nat) (x : Int32) : Prop := PS tk tp M N p ∧ gI M 48 = x ∧ ∃ w op n c wa e, PR ph f M fr w op n c wa e ∧ ((e = 0 ∧ x = 1 ∧ gI M 49 = mayN w wa) ∨ (e = 1 ∧ x = 0))
theorem sign_t (M : St) (x : Int32) : fX12_isSign M x = if gI M 8 = 4 ∧ gI M 9 = x then 1 else 0 := by
  unfold fX12_isSign
  simp only [lt_eq]
  by_cases a : gI M 8 = 4
  · by_cases b : gI M 9 = x
    · rw [if_pos a, if_pos b, if_pos ⟨a, b⟩]; rfl
    · rw [if_pos a, if_neg b, if_neg (fun z => b z.2)]; rfl
  · rw [if_neg a, if_neg (fun z => a z.1)]; rfl
theorem key_t (M : St) (x : Int32) : fX12_isKey M x = if gI M 8 = 1 ∧ gI M 9 = x then 1 else 0 := by
  unfold fX12_isKey
  simp only [lt_eq]
  by_cases a : gI M 8 = 1
  · by_cases b : gI M 9 = x
    · rw [if_pos a, if_pos b, if_pos ⟨a, b⟩]; rfl
    · rw [if_pos a, if_neg b, if_neg (fun z => b z.2)]; rfl
  · rw [if_neg a, if_neg (fun z => a z.1)]; rfl
theorem sign_0 {M : St} {x : Int32} (h : ¬ (gI M 8 = 4 ∧ gI M 9 = x)) : fX12_isSign M x = 0 := by rw [sign_t, if_neg h]
theorem sign_1 {M : St} {x : Int32} (h1 : gI M 8 = 4) (h2 : gI M 9 = x) : ¬ fX12_isSign M x = 0 := by rw [sign_t, if_pos ⟨h1, h2⟩]; exact i10
theorem key_0 {M : St} {x : Int32} (h : ¬ (gI M 8 = 1 ∧ gI M 9 = x)) : fX12_isKey M x = 0 := by rw [key_t, if_neg h]
theorem key_1 {M : St} {x : Int32} (h1 : gI M 8 = 1) (h2 : gI M 9 = x) : ¬ fX12_isKey M x = 0 := by rw [key_t, if_pos ⟨h1, h2⟩]; exact i10
theorem addK_t {ph : St} {fr c : Nat} {x : Int32} (h3 : gI ph 3 = nI c) (h4 : gI ph 4 = nI (64 - fr)) (hc : fr + c ≤ 64) : fX5_addKnot ph x = if fr + c = 64 ∨ x = 0 then sI (sI ph 3 (nI (c + 1))) 5 2 else sI ph 3 (nI (c + 1)) := by
  unfold fX5_addKnot
  rw [h3, nI_1]
  simp only [lt_eq]
  show (if gI ph 4 < nI (c + 1) then _ else _) = _
  rw [h4]
  by_cases a : fr + c = 64
  · rw [if_pos ((nI_ltI (by omega) (by omega)).mpr (by omega)), if_pos (Or.inl a)]
  · rw [if_neg (fun z => a (by have := (nI_ltI (by omega) (by omega)).mp z; omega))]
    by_cases b : x = 0
    · rw [if_pos b, if_pos (Or.inr b)]
    · rw [if_neg b, if_neg (fun z => z.elim a b)]
theorem count_t {M : St} {k : Nat} (h : gI M 47 = nI k) (hk : k ≤ 64) : fX12_isCounted M = if k = 64 then (0, wrM M 2) else (1, sI M 47 (nI (k + 1))) := by
  unfold fX12_isCounted
  rw [h, nI_1]
  by_cases a : k = 64
  · rw [if_pos a, if_pos (by rw [a]; rfl)]
    show (bz 0, wrM M 2) = _
    rw [bz0]
  · have z : ¬ nI k = (64 : Int32) := fun z => a ((nI_eq (a := k) (b := 64) (by omega) (by omega)).mp z)
    rw [if_neg a, if_neg z]; rfl
theorem hold_c {ph : St} {w : Nat} {x : Int32} (h : gI ph 1 = nI w) (hw : w < 72) : fX5_hold ph x = some (sI (sA ph 0 w x) 1 (nI (w + 1))) := by
  unfold fX5_hold
  rw [h, cl (show w < 2 ^ 31 by omega)]
  refine fn (show ¬ nI 72 ≤ nI w by rw [nI_leI (by omega) (by omega)]; omega) (fn (kx hw (by decide)) (lt_c ?_))
  have g : gI (sA ph 0 w x) 1 = nI w := h
  rw [g, nI_1]; rfl
theorem hold_s {ph : St} {w : Nat} {x : Int32} (h : gI ph 1 = nI w) (hw : w ≤ 72) : ∃ u, fX5_hold ph x = some u ∧ gI u 5 = gI ph 5 := by
  by_cases q : w = 72
  · refine ⟨ph, ?_, rfl⟩
    unfold fX5_hold
    rw [h, q]
    exact tp (by decide) rfl
  · exact ⟨_, hold_c h (by omega), rfl⟩
theorem add_s {f : St} {n : Nat} {x y : Int32} (h : gI f 3 = nI n) (hn : n ≤ 64) : ∃ u, fX0_add f x y = some u := by
  by_cases q : n = 64
  · refine ⟨f, ?_⟩
    unfold fX0_add
    rw [h, q]
    exact tp (by decide) rfl
  · exact ⟨_, add0_c h (by omega)⟩
theorem waits_c {M : St} {w : Nat} {x : Int32} (h : gI M 44 = nI w) (hw : w < 96) : fX12_waitsFor M x = some (sI (sA M 42 w x) 44 (nI (w + 1))) := by
  unfold fX12_waitsFor
  rw [h, cl (show w < 2 ^ 31 by omega)]
  refine fn (kx hw (by decide)) (lt_c ?_)
  have g : gI (sA M 42 w x) 44 = nI w := h
  rw [g, nI_1]; rfl
/-- what waits, and one more -/
def wup (wa : Nat → Nat) (w t : Nat) (j : Nat) : Nat := if j = w then t else wa j
theorem wup_s (wa : Nat → Nat) (w t : Nat) : wup wa w t w = t := if_pos rfl
theorem wup_n {wa : Nat → Nat} {w t j : Nat} (h : j ≠ w) : wup wa w t j = wa j := if_neg h
theorem PRw.push {ph M : St} {w t : Nat} {wa : Nat → Nat} {ph' M' : St} (h : PRw ph M w wa) (h14 : t ≤ 14) (h1 : t ≠ 1) (e1 : gI ph' 1 = nI (w + 1)) (e2 : gI M' 44 = nI (w + 1)) (e3 : gA ph' 0 = gA (sA ph 0 w (wt t)) 0) (e4 : gA M' 42 = gA (sA M 42 w (nI t)) 42) : PRw ph' M' (w + 1) (wup wa w t) := by
  refine ⟨e1, e2, fun j hj => ?_⟩
  rw [e3, e4]
  by_cases q : j = w
  · subst q
    rw [gA_same, gA_same, wup_s]
    exact ⟨rfl, rfl, h14, h1⟩
  · rw [gA_idx _ _ _ _ q, gA_idx _ _ _ _ q, wup_n q]
    exact h.2.2 j (by omega)
theorem cntz_up {wa : Nat → Nat} {w t : Nat} : cntz (wup wa w t) (w + 1) = cntz wa w + (if t = 0 then 1 else 0) := by
  rw [cntz, wup_s, cntz_cong w (fun j hj => wup_n (by omega))]
theorem cntb_up {wa : Nat → Nat} {w t : Nat} : cntb (wup wa w t) (w + 1) = cntb wa w + (if 3 ≤ t then 1 else 0) := by
  rw [cntb, wup_s, cntb_cong w (fun j hj => wup_n (by omega))]
/-- a leaf is added -/
theorem PR.leaf {ph f M : St} {fr w op n c t : Nat} {wa : Nat → Nat} {v : Int32} (h : PR ph f M fr w op n c wa 0) (hc : fr + c < 64) (ht : t = 0 ∨ t = 1) (h0 : t = 0 → nn v 0 9999) (h1 : t = 1 → nn v 0 6) : ∃ b, fX12_grown (sI M 47 (nI (fr + c + 1))) (nI t) v 0 = some (gwM (sI M 47 (nI (fr + c + 1))) (fr + n) b (nI t) v 0) ∧ fX0_add f (nI t) v = some (sI (sA (sA f 0 n (nI t)) 1 n v) 3 (nI (n + 1))) ∧ PR (sI ph 3 (nI (c + 1))) (sI (sA (sA f 0 n (nI t)) 1 n v) 3 (nI (n + 1))) (gwM (sI M 47 (nI (fr + c + 1))) (fr + n) b (nI t) v 0) fr w op (n + 1) (c + 1) wa 1 := by
  obtain ⟨hw, ⟨o1, o2, o3, o4⟩, ⟨s1, s2⟩, ⟨c1, c2, c3, c4, c5⟩, hs, hK, hH, hl⟩ := h
  have zl := cntz_le wa w
  have hl0 : (hh M fr n).length ≤ n := hst_len _ n
  have kn0 : ∀ r', 39 ≤ r' → r' ≤ 41 → ∀ i, i < n → k64 (gwM (sI M 47 (nI (fr + c + 1))) (fr + n) (hh M fr n).length (nI t) v 0) r' (fr + i) = k64 M r' (fr + i) := fun r' y1 y2 i hi => k64_gw r' ⟨y1, y2⟩ (by omega)
  obtain ⟨kn1, kn2, kn3⟩ := k64_n (M := sI M 47 (nI (fr + c + 1))) (a := fr + n) (b := (hh M fr n).length) (x := nI t) (y := v) (z := 0)
  have eh := hh_0 (kn0 39 (by omega) (by omega)) kn1 ht
  have ekc : kc (nI t) = nI t := by rcases ht with rfl | rfl <;> rfl
  refine ⟨(hh M fr n).length, grown_c s2 hH.1 (by omega) (by omega), add0_c s1 (by omega), ?_, ⟨o1, o2, o3, o4⟩, ⟨rfl, rfl⟩, ⟨rfl, rfl, by omega, c4, c5⟩, by omega, ?_, ?_, ?_⟩
  · exact ⟨hw.1, hw.2.1, fun j hj => by rw [show gA (gwM (sI M 47 (nI (fr + c + 1))) (fr + n) (hh M fr n).length (nI t) v 0) 42 = gA M 42 from funext fun i => gw_39 _ _ _ _ _ _ _ _ (by decide)]; exact hw.2.2 j hj⟩
  · have := hK.add (v := v) kn0 (by omega) kn1 (fun z => by rw [kn2]; exact h0 z) (fun z => by rw [kn2]; exact h1 z) (fun z => absurd z (by omega)) (fun z => absurd z (by omega)) (fun _ => kn2.symm)
    rw [ekc] at this
    exact this
  · rw [eh]
    have := hH.push (M' := gwM (sI M 47 (nI (fr + c + 1))) (fr + n) (hh M fr n).length (nI t) v 0) (n := n) (d := 0) (Nat.zero_le _) (by rw [Nat.sub_zero]; rfl) (fun i => by rw [Nat.sub_zero]; exact gw_43 _ _ _ _ _ _ _)
    rw [List.drop_zero] at this
    exact this
  · rw [eh, List.length_cons, hl]
