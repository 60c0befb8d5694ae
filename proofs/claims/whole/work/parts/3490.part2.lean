/-! a part: number, name, not, bracket -/
/-- one step of reading a sum; r: what the class has, q: the reference's step -/
def stepR (f tk tp M : St) (N p fr : Nat) (r : Int32 × St × St) (q : Option (Int32 × St)) : Prop := (gI r.2.1 5 = 0 ∧ ok (fX10_next 700 tk tp) (fun tk' => ok q (fun r' => r'.1 = 1 ∧ fI tP tk tk' ∧ HF fr M r'.2 ∧ gI r'.2 4 = gI M 4 ∧ gI r'.2 5 = gI M 5 ∧ gI r.2.2 4 = gI f 4 ∧ ∃ p', p < p' ∧ LSt r.2.1 r.2.2 tk' tp r'.2 N p' fr r.1))) ∨ (∃ cc, ¬ cc = 0 ∧ gI r.2.1 5 = cc ∧ ok q (fun r' => r'.1 = 0 ∧ HF fr M r'.2 ∧ gI r'.2 4 = cc ∧ gI r'.2 5 = nI p))
theorem stepF {f tk tp M M1 : St} {N p fr : Nat} {r : Int32 × St × St} {q : Option (Int32 × St)} {cc : Int32} (hc : ¬ cc = 0) (h5 : gI r.2.1 5 = cc) (h10 : gI M1 10 = nI p) (hf : HF fr M M1) (hq : ok q (fun r' => r' = (0, wrM M1 cc))) : stepR f tk tp M N p fr r q := by
  refine Or.inr ⟨cc, hc, h5, ok_mono hq (fun r' hr => ?_)⟩
  rw [hr]
  exact ⟨rfl, hf.tr (HF.m (wr_fI M1 cc)), rfl, h10⟩
/-- the token behind, with the reference already changed -/
theorem stepS {f tk tp M M2 : St} {N p fr w op n c e : Nat} {wa : Nat → Nat} {r : Int32 × St × St} {q : Option (Int32 × St)} (h5 : gI r.2.1 5 = 0) (hP : PS tk tp M N p) (hk : ¬ gI tk 4 = 0) (hI : ∀ k, 4 ≤ k → k ≤ 10 → gI M2 k = gI M k) (h0 : gA M2 0 = gA M 0) (h3 : gA M2 3 = gA M 3) (hf : HF fr M M2) (h4 : gI r.2.2 4 = gI f 4) (hp : PR r.2.1 r.2.2 M2 fr w op n c wa e) (h48 : gI M2 48 = r.1) (he : (e = 0 ∧ r.1 = 1 ∧ gI M2 49 = mayN w wa) ∨ (e = 1 ∧ r.1 = 0)) (hq : ∀ M3, fX12_token M2 = some M3 → ok q (fun r' => r' = (1, M3))) : stepR f tk tp M N p fr r q := by
  have hP2 : PS tk tp M2 N p := hP.M (fun k a b => hI k (by omega) b) h0 h3
  refine Or.inl ⟨h5, ok_mono (nextP hP2) (fun tk' ht => ?_)⟩
  obtain ⟨M3, eM3, a1, a2, p', b1, b2, hP3⟩ := ht
  refine ok_mono (hq M3 eM3) (fun r' hr => ?_)
  rw [hr]
  refine ⟨rfl, a1, hf.tr (HF.m a2.m), ?_, ?_, h4, p', b2 hk, hP3, ?_, w, op, n, c, wa, e, hp.t a2, ?_⟩
  · exact (a2.1 4 (by unfold mP; omega)).trans (hI 4 (by omega) (by omega))
  · exact (a2.1 5 (by unfold mP; omega)).trans (hI 5 (by omega) (by omega))
  · exact (a2.1 48 (by unfold mP; omega)).trans h48
  · rcases he with ⟨x, y, z⟩ | x
    · exact Or.inl ⟨x, y, (a2.1 49 (by unfold mP; omega)).trans z⟩
    · exact Or.inr x
theorem leaf_bad {M : St} (h1 : fX12_isSign M 40 = 0) (h2 : fX12_isKey M 12 = 0 ∨ gI M 49 = 0) (h3 : fX12_nameMet M = -1) (h8 : ¬ gI M 8 = 3) : ok (fX12_leafRead M) (fun r' => r' = (0, wrM M 1)) := by
  unfold fX12_leafRead
  rw [h3]
  refine ok_t h1 (ok_lt ?_)
  have j : ok (lt (-1 : Int32) fun x3 => lt (lt (lt (fX12_isCounted M) fun r6 => if r6.1 = 0 then (some ((0 : Int32), r6.2)) else lt (if x3 < 0 then ((0 : Int32)) else (1 : Int32)) fun x9 => lt (if x3 < 0 then ((gI r6.2 9)) else x3) fun x10 => (fX12_grown r6.2 x9 x10 (0 : Int32)).bind fun r11 => lt (sI r11 48 (0 : Int32)) fun u13 => (fX12_token u13).bind fun r14 => some ((1 : Int32), r14)) fun j5 => if 0 ≤ x3 then (j5) else if (gI M 9) ≤ (9999 : Int32) then (j5) else lt (fX12_wrong M (2 : Int32)) fun r20 => some ((bz r20.1), r20.2)) fun j4 => if 0 ≤ x3 then (j4) else if (gI M 8) = (3 : Int32) then (j4) else lt (fX12_wrong M (1 : Int32)) fun r24 => some ((bz r24.1), r24.2)) (fun r' => r' = (0, wrM M 1)) := by
    refine ok_lt (ok_lt (ok_f (by decide) (ok_f h8 (ok_lt (ok_some ?_)))))
    show (bz 0, wrM M 1) = _
    rw [bz0]
  rcases h2 with h2 | h2
  · exact ok_t h2 j
  · exact ok_if (fun _ => j) (fun _ => ok_t h2 j)
theorem met_n {M : St} (h : ¬ gI M 8 = 1) : fX12_nameMet M = -1 := by
  unfold fX12_nameMet
  rw [if_neg h]; rfl
theorem met_w {M : St} {w : Nat} (h : gI M 8 = 1) (h9 : gI M 9 = nI w) (hw : w < 20) : fX12_nameMet M = if w < 13 then -1 else nI (w - 13) := by
  unfold fX12_nameMet
  rw [if_pos h, h9]
  simp only [lt_eq]
  by_cases q : w < 13
  · rw [if_pos q, if_pos (show nI w < (13 : Int32) from (nI_ltI (a := w) (b := 13) (by omega) (by omega)).mpr q)]
  · rw [if_neg q, if_neg (show ¬ nI w < (13 : Int32) from fun z => q ((nI_ltI (a := w) (b := 13) (by omega) (by omega)).mp z)), show (13 : Int32) = nI 13 from rfl, nI_sub (by omega)]
/-- a leaf that is counted or not -/
theorem leaf_ok {M : St} {x v : Int32} {t k : Nat} (h1 : fX12_isSign M 40 = 0) (h2 : fX12_isKey M 12 = 0) (h3 : fX12_nameMet M = x) (hk : gI M 47 = nI k) (hk6 : k ≤ 64) (hx : (x < 0 ∧ gI M 8 = 3 ∧ gI M 9 ≤ 9999 ∧ t = 0 ∧ v = gI M 9) ∨ (¬ x < 0 ∧ t = 1 ∧ v = x)) : (k = 64 → ok (fX12_leafRead M) (fun r' => r' = (0, wrM M 2))) ∧ (k < 64 → ∀ M2 M3, fX12_grown (sI M 47 (nI (k + 1))) (nI t) v 0 = some M2 → fX12_token (sI M2 48 0) = some M3 → ok (fX12_leafRead M) (fun r' => r' = (1, M3))) := by
  have key : ∀ {Q : Int32 × St → Prop}, ok (lt (fX12_isCounted M) fun r6 => if r6.1 = 0 then (some ((0 : Int32), r6.2)) else lt (if x < 0 then ((0 : Int32)) else (1 : Int32)) fun x9 => lt (if x < 0 then ((gI r6.2 9)) else x) fun x10 => (fX12_grown r6.2 x9 x10 (0 : Int32)).bind fun r11 => lt (sI r11 48 (0 : Int32)) fun u13 => (fX12_token u13).bind fun r14 => some ((1 : Int32), r14)) Q → ok (fX12_leafRead M) Q := by
    intro Q h
    unfold fX12_leafRead
    rw [h3]
    refine ok_t h1 (ok_lt (ok_t h2 (ok_lt (ok_lt ?_))))
    rcases hx with ⟨a, b, c, _⟩ | ⟨a, _⟩
    · have a' : ¬ (0 : Int32) ≤ x := fun z => (le_nlt _ _).mp z a
      exact ok_f a' (ok_t b (ok_lt (ok_f a' (ok_t c h))))
    · have a' : (0 : Int32) ≤ x := (le_nlt _ _).mpr a
      exact ok_t a' (ok_lt (ok_t a' h))
  have ct := count_t hk hk6
  refine ⟨fun z => key ?_, fun z M2 M3 e2 e3 => key ?_⟩
  · rw [ct, if_pos z]
    exact ok_lt (ok_t rfl (ok_some rfl))
  · rw [ct, if_neg (by omega)]
    refine ok_lt (ok_f i10 (ok_lt (ok_lt ?_)))
    rcases hx with ⟨a, b, c, d1, d2⟩ | ⟨a, d1, d2⟩
    · rw [if_pos a, if_pos a]
      rw [d1, d2] at e2
      exact ok_bindx e2 (ok_lt (ok_bindx e3 (ok_some rfl)))
    · rw [if_neg a, if_neg a]
      rw [d1, d2] at e2
      exact ok_bindx e2 (ok_lt (ok_bindx e3 (ok_some rfl)))
/-- a leaf, on both sides -/
theorem leaf_step {ph f tk tp M : St} {N p fr w op n c t : Nat} {wa : Nat → Nat} {x v small : Int32} (hP : PS tk tp M N p) (hk : ¬ gI tk 4 = 0) (hp : PR ph f M fr w op n c wa 0) (hs : ¬ small = 0) (h1 : fX12_isSign M 40 = 0) (h2 : fX12_isKey M 12 = 0) (h3 : fX12_nameMet M = x) (hx : (x < 0 ∧ gI M 8 = 3 ∧ gI M 9 ≤ 9999 ∧ t = 0 ∧ v = gI M 9) ∨ (¬ x < 0 ∧ t = 1 ∧ v = x)) (h0 : t = 0 → nn v 0 9999) (h1' : t = 1 → nn v 0 6) : ok ((fX0_add f (nI t) v).bind fun r6 => some ((0 : Int32), fX5_addKnot ph small, r6)) (fun r => stepR f tk tp M N p fr r (fX12_leafRead M)) := by
  have hp' := hp
  obtain ⟨hw, ⟨o1, o2, o3, o4⟩, ⟨s1, s2⟩, ⟨c1, c2, c3, c4, c5⟩, hsum, hK, hH, hl⟩ := hp'
  have zl := cntz_le wa w
  obtain ⟨L1, L2⟩ := leaf_ok h1 h2 h3 c2 c3 hx
  have ht : t = 0 ∨ t = 1 := by rcases hx with ⟨_, _, _, a, _⟩ | ⟨_, a, _⟩; exact Or.inl a; exact Or.inr a
  by_cases q : fr + c = 64
  · obtain ⟨u, eu⟩ := add_s (x := nI t) (y := v) s1 (by omega)
    refine ok_bindx eu (ok_some (stepF (cc := 2) (by decide) ?_ hP.2.2.2.1 HF.rf (L1 q)))
    show gI (fX5_addKnot ph small) 5 = 2
    rw [addK_t c1 c4 c3, if_pos (Or.inl q)]; rfl
  · obtain ⟨b, e1, e2, e3⟩ := hp.leaf (v := v) (by omega) ht h0 h1'
    refine ok_bindx e2 (ok_some ?_)
    have ea : fX5_addKnot ph small = sI ph 3 (nI (c + 1)) := by rw [addK_t c1 c4 c3, if_neg (fun z => z.elim q hs)]
    have bg : BF fr (sI M 47 (nI (fr + c + 1))) (gwM (sI M 47 (nI (fr + c + 1))) (fr + n) b (nI t) v 0) := BF.gw (by omega)
    refine stepS (M2 := sI (gwM (sI M 47 (nI (fr + c + 1))) (fr + n) b (nI t) v 0) 48 0) (w := w) (op := op) (n := n + 1) (c := c + 1) (wa := wa) (e := 1) ?_ hP hk (fun k a b' => ?_) ?_ ?_ ?_ rfl ?_ rfl (Or.inr ⟨rfl, rfl⟩) (fun M3 e => L2 (by omega) _ M3 e1 e)
    · show gI (fX5_addKnot ph small) 5 = 0
      rw [ea]; exact c5
    · rw [gI_sIn _ _ (by omega), bg.1 k (by unfold bI; omega), gI_sIn _ _ (by omega)]
    · exact funext fun i => bg.2.2 0 i (by omega)
    · exact funext fun i => bg.2.2 3 i (by omega)
    · have f1 : HF fr M (sI M 47 (nI (fr + c + 1))) := HF.wI (by unfold hI; omega)
      have f2 : HF fr M (gwM (sI M 47 (nI (fr + c + 1))) (fr + n) b (nI t) v 0) := f1.tr (HF.B bg)
      exact f2.tr (HF.wI (by unfold hI; omega))
    · show PR (fX5_addKnot ph small) _ _ fr w op (n + 1) (c + 1) wa 1
      rw [ea]
      exact e3.M rfl rfl rfl rfl rfl (fun _ _ _ => rfl)
