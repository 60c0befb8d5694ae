/-! what keep writes and back reads -/
theorem bk_r (M : St) : gA (bkM M) 53 0 = gA M 83 0 ∧ gA (bkM M) 54 0 = gA M 83 1 ∧ gA (bkM M) 55 0 = gA M 83 2 ∧ gA (bkM M) 56 0 = gA M 84 16 ∧ gA (bkM M) 57 0 = gA M 84 17 ∧ gA (bkM M) 58 0 = gA M 84 18 ∧ gA (bkM M) 59 0 = gA M 84 19 := by
  refine ⟨?_, ?_, ?_, ?_, ?_, ?_, ?_⟩ <;> rfl
theorem bk_60 (M : St) : ∀ g, g < 6 → gA (bkM M) 60 g = gA M 83 (3 + g) := j6 rfl rfl rfl rfl rfl rfl
theorem bk_61 (M : St) : ∀ g, g < 6 → gA (bkM M) 61 g = gA M 84 g := j6 rfl rfl rfl rfl rfl rfl
theorem bk_62 (M : St) : ∀ g, g < 6 → gA (bkM M) 62 g = gA M 84 (6 + g) := j6 rfl rfl rfl rfl rfl rfl
theorem bk_63 (M : St) : ∀ g, g < 4 → gA (bkM M) 63 g = gA M 84 (12 + g) := j4 rfl rfl rfl rfl
theorem kp_r (M : St) : gA (kpM M) 83 0 = gA M 53 0 ∧ gA (kpM M) 83 1 = gA M 54 0 ∧ gA (kpM M) 83 2 = gA M 55 0 ∧ gA (kpM M) 84 16 = gA M 56 0 ∧ gA (kpM M) 84 17 = gA M 57 0 ∧ gA (kpM M) 84 18 = gA M 58 0 ∧ gA (kpM M) 84 19 = gA M 59 0 := by
  refine ⟨?_, ?_, ?_, ?_, ?_, ?_, ?_⟩ <;> rfl
theorem kp_60 (M : St) : ∀ g, g < 6 → gA (kpM M) 83 (3 + g) = gA M 60 g := j6 rfl rfl rfl rfl rfl rfl
theorem kp_61 (M : St) : ∀ g, g < 6 → gA (kpM M) 84 g = gA M 61 g := j6 rfl rfl rfl rfl rfl rfl
theorem kp_62 (M : St) : ∀ g, g < 6 → gA (kpM M) 84 (6 + g) = gA M 62 g := j6 rfl rfl rfl rfl rfl rfl
theorem kp_63 (M : St) : ∀ g, g < 4 → gA (kpM M) 84 (12 + g) = gA M 63 g := j4 rfl rfl rfl rfl
theorem itS_A {stp : Nat → St → St} {r : Nat} (h : ∀ k u, gA (stp k u) r = gA u r) : ∀ (d i : Nat) (u : St), gA (itS stp d i u) r = gA u r
  | 0, _, _ => rfl
  | d + 1, i, u => (itS_A h d (i + 1) _).trans (h i u)
theorem itS_I {stp : Nat → St → St} (h : ∀ k u, (stp k u).1 = u.1) : ∀ (d i : Nat) (u : St), (itS stp d i u).1 = u.1
  | 0, _, _ => rfl
  | d + 1, i, u => (itS_I h d (i + 1) _).trans (h i u)
theorem gA_sAr (u : St) {r j : Nat} (k : Nat) (v : Int32) (h : j ≠ r) : gA (sA u r k v) j = gA u j := funext fun i => gA_row u k i v h
theorem pmI_A {r : Nat} (h : r ≠ 83) (k : Nat) (u : St) : gA (pmI k u) r = gA u r := gA_sAr _ _ _ h
theorem kp1_A {r : Nat} (h : r ≠ 84) (k : Nat) (u : St) : gA (kp1 k u) r = gA u r := (gA_sAr _ _ _ h).trans (gA_sAr _ _ _ h)
theorem kp2_A {r : Nat} (h : r ≠ 84) (k : Nat) (u : St) : gA (kp2 k u) r = gA u r := gA_sAr _ _ _ h
theorem pmS_A {r : Nat} (h : r ≠ 83) (u : St) : gA (pmS u) r = gA u r := (gA_sAr _ _ _ h).trans ((gA_sAr _ _ _ h).trans (gA_sAr _ _ _ h))
theorem kpE_A {r : Nat} (h : r ≠ 84) (u : St) : gA (kpE u) r = gA u r := (gA_sAr _ _ _ h).trans ((gA_sAr _ _ _ h).trans ((gA_sAr _ _ _ h).trans (gA_sAr _ _ _ h)))
theorem kp_A (M : St) {r : Nat} (h1 : r ≠ 83) (h2 : r ≠ 84) : gA (kpM M) r = gA M r := by
  unfold kpM
  rw [kpE_A h2, itS_A (kp2_A h2), itS_A (kp1_A h2), itS_A (pmI_A h1), pmS_A h1]
  rfl
theorem kpE_I (u : St) : (kpE u).1 = u.1 := rfl
theorem pmS_I (u : St) : (pmS u).1 = u.1 := rfl
theorem pmI_I (k : Nat) (u : St) : (pmI k u).1 = u.1 := rfl
theorem kp1_I (k : Nat) (u : St) : (kp1 k u).1 = u.1 := rfl
theorem kp2_I (k : Nat) (u : St) : (kp2 k u).1 = u.1 := rfl
theorem kp_I (M : St) : (kpM M).1 = (sI (sI M 2 0) 82 1).1 := by
  unfold kpM
  rw [kpE_I, itS_I kp2_I, itS_I kp1_I, itS_I pmI_I, pmS_I]
theorem kpE_J (u : St) : (kpE u).2.1 = va_up u.2.1 85 (gJ u 64) := rfl
theorem pmS_J (u : St) : (pmS u).2.1 = u.2.1 := rfl
theorem pmI_J (k : Nat) (u : St) : (pmI k u).2.1 = u.2.1 := rfl
theorem kp1_J (k : Nat) (u : St) : (kp1 k u).2.1 = u.2.1 := rfl
theorem kp2_J (k : Nat) (u : St) : (kp2 k u).2.1 = u.2.1 := rfl
theorem kp_J (M : St) (k : Nat) : gJ (kpM M) k = if k = 85 then gJ M 64 else gJ M k := by
  have e : (itS kp2 4 0 (itS kp1 6 0 (itS pmI 6 0 (pmS (sI (sI M 2 0) 82 1))))).2.1 = M.2.1 := by
    rw [itS_J kp2_J, itS_J kp1_J, itS_J pmI_J, pmS_J]; rfl
  unfold kpM gJ
  rw [kpE_J]
  unfold gJ va_up
  rw [e]
theorem tmI_A {r : Nat} (h : r ≠ 60) (k : Nat) (u : St) : gA (tmI k u) r = gA u r := gA_sAr _ _ _ h
theorem bk1_A {r : Nat} (h : r ≠ 61) (h2 : r ≠ 62) (k : Nat) (u : St) : gA (bk1 k u) r = gA u r := (gA_sAr _ _ _ h2).trans (gA_sAr _ _ _ h)
theorem bk2_A {r : Nat} (h : r ≠ 63) (k : Nat) (u : St) : gA (bk2 k u) r = gA u r := gA_sAr _ _ _ h
theorem tmS_A {r : Nat} (h1 : r ≠ 53) (h2 : r ≠ 54) (h3 : r ≠ 55) (u : St) : gA (tmS u) r = gA u r := (gA_sAr _ _ _ h3).trans ((gA_sAr _ _ _ h2).trans (gA_sAr _ _ _ h1))
theorem bkE_A {r : Nat} (h1 : r ≠ 56) (h2 : r ≠ 57) (h3 : r ≠ 58) (h4 : r ≠ 59) (u : St) : gA (bkE u) r = gA u r := (gA_sAr _ _ _ h4).trans ((gA_sAr _ _ _ h3).trans ((gA_sAr _ _ _ h2).trans (gA_sAr _ _ _ h1)))
theorem bk_A (M : St) {r : Nat} (h : r < 53 ∨ 63 < r) : gA (bkM M) r = gA M r := by
  unfold bkM
  rw [bkE_A (by omega) (by omega) (by omega) (by omega), itS_A (bk2_A (by omega)), itS_A (bk1_A (by omega) (by omega)), itS_A (tmI_A (by omega)), tmS_A (by omega) (by omega) (by omega)]
  rfl
theorem bkE_I (u : St) : (bkE u).1 = (sI u 80 0).1 := rfl
theorem tmS_I (u : St) : (tmS u).1 = u.1 := rfl
theorem tmI_I (k : Nat) (u : St) : (tmI k u).1 = u.1 := rfl
theorem bk1_I (k : Nat) (u : St) : (bk1 k u).1 = u.1 := rfl
theorem bk2_I (k : Nat) (u : St) : (bk2 k u).1 = u.1 := rfl
theorem bk_I (M : St) (k : Nat) : gI (bkM M) k = if k = 80 then 0 else if k = 2 then 0 else gI M k := by
  have e : (itS bk2 4 0 (itS bk1 6 0 (itS tmI 6 0 (tmS (sI M 2 0))))).1 = (sI M 2 0).1 := by
    rw [itS_I bk2_I, itS_I bk1_I, itS_I tmI_I, tmS_I]
  unfold bkM
  show (bkE _).1 k = _
  rw [bkE_I]
  show (if k = 80 then (0 : Int32) else (itS bk2 4 0 (itS bk1 6 0 (itS tmI 6 0 (tmS (sI M 2 0))))).1 k) = _
  rw [e]
  rfl
theorem bkE_J (u : St) : (bkE u).2.1 = va_up u.2.1 64 (gJ u 85) := rfl
theorem tmS_J (u : St) : (tmS u).2.1 = u.2.1 := rfl
theorem tmI_J (k : Nat) (u : St) : (tmI k u).2.1 = u.2.1 := rfl
theorem bk1_J (k : Nat) (u : St) : (bk1 k u).2.1 = u.2.1 := rfl
theorem bk2_J (k : Nat) (u : St) : (bk2 k u).2.1 = u.2.1 := rfl
theorem bk_J (M : St) (k : Nat) : gJ (bkM M) k = if k = 64 then gJ M 85 else gJ M k := by
  have e : (itS bk2 4 0 (itS bk1 6 0 (itS tmI 6 0 (tmS (sI M 2 0))))).2.1 = M.2.1 := by
    rw [itS_J bk2_J, itS_J bk1_J, itS_J tmI_J, tmS_J]; rfl
  unfold bkM gJ
  rw [bkE_J]
  unfold gJ va_up
  rw [e]
theorem z6 (g : Nat) : 6 * 0 + g = g := by omega
theorem z4 (g : Nat) : 4 * 0 + g = g := by omega
/-- the image goes with any state that holds the same image -/
theorem HR.bk {im M M' : St} {na ng nr : Nat} (h : HR im (bkM M) 0 na ng nr) (h33 : gA M' 33 = gA M 33) (h83 : gA M' 83 = gA M 83) (h84 : gA M' 84 = gA M 84) : HR im (bkM M') 0 na ng nr := by
  have a := bk_r M
  have b := bk_r M'
  refine h.mv (fun _ _ => rfl) (fun _ _ => rfl) (fun _ _ => rfl) (fun _ _ => rfl) (fun _ _ => rfl) ?_ (fun r h1 h2 => ?_) (fun r h1 h2 g hg => ?_) (fun g hg => ?_)
  · rw [bk_A M' (by omega), bk_A M (by omega)]; exact h33
  · rcases (show r = 53 ∨ r = 54 ∨ r = 55 ∨ r = 56 ∨ r = 57 ∨ r = 58 ∨ r = 59 by omega) with rfl | rfl | rfl | rfl | rfl | rfl | rfl
    · rw [a.1, b.1, h83]
    · rw [a.2.1, b.2.1, h83]
    · rw [a.2.2.1, b.2.2.1, h83]
    · rw [a.2.2.2.1, b.2.2.2.1, h84]
    · rw [a.2.2.2.2.1, b.2.2.2.2.1, h84]
    · rw [a.2.2.2.2.2.1, b.2.2.2.2.2.1, h84]
    · rw [a.2.2.2.2.2.2, b.2.2.2.2.2.2, h84]
  · rw [z6]
    rcases (show r = 60 ∨ r = 61 ∨ r = 62 by omega) with rfl | rfl | rfl
    · rw [bk_60 _ g hg, bk_60 _ g hg, h83]
    · rw [bk_61 _ g hg, bk_61 _ g hg, h84]
    · rw [bk_62 _ g hg, bk_62 _ g hg, h84]
  · rw [z4, bk_63 _ g hg, bk_63 _ g hg, h84]
theorem HR.kp {now im M : St} {na ng nr : Nat} (h : HR now M 0 na ng nr) (hc : cpR im now) : HR im (bkM (kpM M)) 0 na ng nr := by
  obtain ⟨c1, c2, c3, c4, c5, c6⟩ := hc
  have a := bk_r (kpM M)
  have b := kp_r M
  refine h.mv c1 c3 c4 c5 c6 ?_ (fun r h1 h2 => ?_) (fun r h1 h2 g hg => ?_) (fun g hg => ?_)
  · rw [bk_A _ (by omega), kp_A M (by omega) (by omega)]
  · rcases (show r = 53 ∨ r = 54 ∨ r = 55 ∨ r = 56 ∨ r = 57 ∨ r = 58 ∨ r = 59 by omega) with rfl | rfl | rfl | rfl | rfl | rfl | rfl
    · rw [a.1, b.1]
    · rw [a.2.1, b.2.1]
    · rw [a.2.2.1, b.2.2.1]
    · rw [a.2.2.2.1, b.2.2.2.1]
    · rw [a.2.2.2.2.1, b.2.2.2.2.1]
    · rw [a.2.2.2.2.2.1, b.2.2.2.2.2.1]
    · rw [a.2.2.2.2.2.2, b.2.2.2.2.2.2]
  · rw [z6]
    rcases (show r = 60 ∨ r = 61 ∨ r = 62 by omega) with rfl | rfl | rfl
    · rw [bk_60 _ g hg, kp_60 _ g hg]
    · rw [bk_61 _ g hg, kp_61 _ g hg]
    · rw [bk_62 _ g hg, kp_62 _ g hg]
  · rw [z4, bk_63 _ g hg, kp_63 _ g hg]
theorem HR.cp {now im M : St} {b na ng nr : Nat} (h : HR im M b na ng nr) (hc : cpR now im) : HR now M b na ng nr := by
  obtain ⟨c1, c2, c3, c4, c5, c6⟩ := hc
  exact h.mv c1 c3 c4 c5 c6 rfl (fun _ _ _ => rfl) (fun _ _ _ _ _ => rfl) (fun _ _ => rfl)
/-- the image on both sides -/
def IMR (mn im M : St) (na ng nr : Nat) : Prop := (gI mn 11 = 0 ∧ gI M 82 = 0) ∨ (gI mn 11 = 1 ∧ gI M 82 = 1 ∧ HR im (bkM M) 0 na ng nr ∧ gJ im 8 = gJ M 85)
theorem IMR.fr {mn mn' im M M' : St} {na ng nr : Nat} (h : IMR mn im M na ng nr) (h11 : gI mn' 11 = gI mn 11) (h82 : gI M' 82 = gI M 82) (h33 : gA M' 33 = gA M 33) (h83 : gA M' 83 = gA M 83) (h84 : gA M' 84 = gA M 84) (h85 : gJ M' 85 = gJ M 85) : IMR mn' im M' na ng nr := by
  rcases h with ⟨a, b⟩ | ⟨a, b, c, d⟩
  · exact Or.inl ⟨h11.trans a, h82.trans b⟩
  · exact Or.inr ⟨h11.trans a, h82.trans b, c.bk h33 h83 h84, d.trans h85.symm⟩
/-- keep -/
def kpR (na ng nr : Nat) (mn now K : St) (r : Int32 × St × St) (r' : Int32 × St) : Prop := r.1 = r'.1 ∧ r.2.1 = sI mn 11 1 ∧ r'.2 = K ∧ HR now K 0 na ng nr ∧ IMR r.2.1 r.2.2 K na ng nr
theorem keep_g {mn now im M K : St} {na ng nr : Nat} (eK : fX12_keep M = some (gA K 59 0, K)) (hk : HR now K 0 na ng nr) (h82 : gI K 82 = 1) (hi : ∀ r, cpR r now → HR r (bkM K) 0 na ng nr) (hJ : gJ now 8 = gJ K 85) : ok (fX11_keep mn now im) (fun r => ok (fX12_keep M) (fun r' => kpR na ng nr mn now K r r')) := by
  unfold fX11_keep
  refine ok_bind (ok_mono (copy_of im now) (fun r hr => ok_lt (ok_some ?_)))
  exact ok_eq eK ⟨hk.1.1, rfl, rfl, hk, Or.inr ⟨rfl, h82, hi r hr, hr.2.1.trans hJ⟩⟩
theorem kp_82 (M : St) : gI (kpM M) 82 = 1 := by
  have h := congrFun (kp_I M) 82
  exact h
theorem kp_85 (M : St) : gJ (kpM M) 85 = gJ M 64 := by rw [kp_J, if_pos rfl]
theorem kp_HR {now M : St} {na ng nr : Nat} (hH : HR now M 0 na ng nr) : HR now (kpM M) 0 na ng nr := hH.M (kp_A M (by omega) (by omega)) (fun r i h1 h2 _ => by rw [kp_A M (by omega) (by omega)])
theorem keep_q {mn now im M : St} {na ng nr : Nat} (hH : HR now M 0 na ng nr) (hJ : gJ now 8 = gJ M 64) : ok (fX11_keep mn now im) (fun r => ok (fX12_keep M) (fun r' => kpR na ng nr mn now (kpM M) r r')) :=
  keep_g (keep_eq M) (kp_HR hH) (kp_82 M) (fun r hr => hH.kp hr) (hJ.trans (kp_85 M).symm)
/-- back -/
def bkR (na ng nr : Nat) (mn now im sp M K : St) (r : Int32 × St × St) (r' : Int32 × St) : Prop := r.1 = r'.1 ∧ ((r = (-1, now, sp) ∧ r'.2 = sI M 2 0) ∨ (r'.2 = K ∧ HR r.2.1 K 0 na ng nr ∧ gJ r.2.1 8 = gJ K 64 ∧ IMR mn im K na ng nr ∧ r.2.2 = fX9_clear sp))
theorem back_g {mn now im sp M K : St} {na ng nr : Nat} (h11 : gI mn 11 = 1) (eK : fX12_back M = some (gA K 59 0, K)) (c : HR im K 0 na ng nr) (hJ : gJ im 8 = gJ K 64) (hI : IMR mn im K na ng nr) : ok (fX11_back mn now im sp) (fun r => ok (fX12_back M) (fun r' => bkR na ng nr mn now im sp M K r r')) := by
  unfold fX11_back
  refine ok_f (by rw [h11]; exact i10) (ok_bind (ok_mono (copy_of now im) (fun r hr => ok_lt (ok_some ?_))))
  have hH := c.cp hr
  exact ok_eq eK ⟨hH.1.1, Or.inr ⟨rfl, hH, hr.2.1.trans hJ, hI, rfl⟩⟩
theorem bk_64 (M : St) : gJ (bkM M) 64 = gJ M 85 := by rw [bk_J, if_pos rfl]
theorem bk_85 (M : St) : gJ (bkM M) 85 = gJ M 85 := by rw [bk_J, if_neg (by decide)]
theorem bk_82 (M : St) : gI (bkM M) 82 = gI M 82 := by rw [bk_I, if_neg (by decide), if_neg (by decide)]
theorem back_q {mn now im sp M : St} {na ng nr : Nat} (hI : IMR mn im M na ng nr) : ok (fX11_back mn now im sp) (fun r => ok (fX12_back M) (fun r' => bkR na ng nr mn now im sp M (bkM M) r r')) := by
  have hI' : IMR mn im (bkM M) na ng nr := hI.fr rfl (bk_82 M) (bk_A M (by omega)) (bk_A M (by omega)) (bk_A M (by omega)) (bk_85 M)
  rcases hI with ⟨a, b⟩ | ⟨a, b, c, d⟩
  · unfold fX11_back
    refine ok_t a (ok_some ?_)
    unfold fX12_back
    exact ok_lt (ok_t b (ok_some ⟨rfl, Or.inl ⟨rfl, rfl⟩⟩))
  · exact back_g a (back_eq (by rw [b]; exact i10)) c (d.trans (bk_64 M).symm) hI'
