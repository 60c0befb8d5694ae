/-! the tape -/
def by8 (x s : Int32) : Int32 := nb ((x >>> (s &&& 31)).toInt8.toInt32)
theorem nb_8 (y : Int32) : nb (y.toInt8.toInt32) = y.toInt8.toInt32 := by
  show (y.toInt8.toInt32).toInt8.toInt32 = y.toInt8.toInt32
  rw [Int8.toInt8_toInt32]
theorem and_255 (y : Int32) : y.toInt8.toInt32 &&& 255 = y &&& 255 := by
  apply Int32.toBitVec_inj.mp
  rw [Int32.toBitVec_and, Int32.toBitVec_and, Int8.toBitVec_toInt32, Int32.toBitVec_toInt8]
  apply BitVec.eq_of_getLsbD_eq
  intro i hi
  rw [BitVec.getLsbD_and, BitVec.getLsbD_and]
  by_cases h : i < 8
  · congr 1
    rw [BitVec.getLsbD_signExtend, BitVec.getLsbD_signExtend]
    simp [hi, h]
  · have e : (Int32.toBitVec 255).getLsbD i = false := by
      show (255#32).getLsbD i = false
      rw [BitVec.getLsbD_ofNat]
      have : Nat.testBit 255 i = false := Nat.testBit_lt_two_pow (Nat.lt_of_lt_of_le (by decide : 255 < 2 ^ 8) (Nat.pow_le_pow_right (by decide) (by omega)))
      rw [this]; simp
    rw [e]; simp
theorem by8_and (x s : Int32) : by8 x s &&& 255 = (x >>> (s &&& 31)) &&& 255 := by
  unfold by8
  rw [nb_8, and_255]
theorem and_nn (y : Int32) : nn (y &&& 255) 0 255 := by
  have h0 : ((y &&& 255).toBitVec).toNat ≤ 255 := by
    rw [Int32.toBitVec_and, BitVec.toNat_and]
    exact Nat.and_le_right
  refine ⟨((y &&& 255).toBitVec).toNat, by omega, h0, ?_⟩
  apply Int32.toBitVec_inj.mp
  apply BitVec.eq_of_toNat_eq
  unfold nI
  rw [Int32.toBitVec_ofNat', BitVec.toNat_ofNat, Nat.mod_eq_of_lt (by omega)]
/-- what was fed, on both sides -/
def TPR (mn tape M : St) : Prop := ∃ n, n ≤ 700 ∧ gI mn 1 = nI n ∧ gI M 1 = nI n ∧ ∀ i, i < n → gA tape 0 i &&& 255 = gA M 0 i ∧ nn (gA M 0 i) 0 255
theorem pb_s {x s : Int32} {u t : St} {n nf : Nat} (hs : ¬ s < 0) (hn : gI u 1 = nI n) (h : n < 700) : fX11_putBytes_L1 x (nf + 1) s u t = fX11_putBytes_L1 x nf (s + (-8)) (sI u 1 (nI (n + 1))) (sA t 0 n (by8 x s)) := by
  rw [fX11_putBytes_L1, hn, cl (show n < 2 ^ 31 by omega)]
  exact fn hs (fn (show ¬ nI 700 ≤ nI n by rw [nI_leI (by omega) (by omega)]; omega) (lt_c (fn (kx h (by decide)) (lt_c (lt_c (lt_c (lt_c (by rw [nI_1]; rfl))))))))
theorem putB_of {x : Int32} {u t : St} {n : Nat} (hn : gI u 1 = nI n) (h : n + 4 ≤ 700) : ok (fX11_putBytes u t x) (fun r => gI r.1 1 = nI (n + 4) ∧ (∀ k, k ≠ 1 → gI r.1 k = gI u k) ∧ (∀ j, j < n → gA r.2 0 j = gA t 0 j) ∧ gA r.2 0 n = by8 x 24 ∧ gA r.2 0 (n + 1) = by8 x 16 ∧ gA r.2 0 (n + 2) = by8 x 8 ∧ gA r.2 0 (n + 3) = by8 x 0) := by
  unfold fX11_putBytes
  have e : fX11_putBytes_L1 x fuel 24 u t = some (sI (sI (sI (sI u 1 (nI (n + 1))) 1 (nI (n + 1 + 1))) 1 (nI (n + 1 + 1 + 1))) 1 (nI (n + 1 + 1 + 1 + 1)), sA (sA (sA (sA t 0 n (by8 x 24)) 0 (n + 1) (by8 x 16)) 0 (n + 1 + 1) (by8 x 8)) 0 (n + 1 + 1 + 1) (by8 x 0)) := by
    show fX11_putBytes_L1 x (995 + 1 + 1 + 1 + 1 + 1) 24 u t = _
    rw [pb_s (by decide) hn (by omega), show (24 : Int32) + (-8) = 16 from rfl, pb_s (by decide) rfl (by omega), show (16 : Int32) + (-8) = 8 from rfl, pb_s (by decide) rfl (by omega), show (8 : Int32) + (-8) = 0 from rfl, pb_s (by decide) rfl (by omega), fX11_putBytes_L1]
    exact tp (by decide) rfl
  refine ok_bindx e (ok_some ⟨rfl, fun k hk => ?_, fun j hj => ?_, ?_, ?_, ?_, ?_⟩)
  · show gI (sI (sI (sI (sI u 1 (nI (n + 1))) 1 (nI (n + 1 + 1))) 1 (nI (n + 1 + 1 + 1))) 1 (nI (n + 1 + 1 + 1 + 1))) k = _
    rw [gI_sIn _ _ hk, gI_sIn _ _ hk, gI_sIn _ _ hk, gI_sIn _ _ hk]
  all_goals show gA (sA (sA (sA (sA t 0 n (by8 x 24)) 0 (n + 1) (by8 x 16)) 0 (n + 1 + 1) (by8 x 8)) 0 (n + 1 + 1 + 1) (by8 x 0)) 0 _ = _
  · rw [gA_idx _ _ _ _ (by omega), gA_idx _ _ _ _ (by omega), gA_idx _ _ _ _ (by omega), gA_idx _ _ _ _ (by omega)]
  · rw [gA_idx _ _ _ _ (by omega), gA_idx _ _ _ _ (by omega), gA_idx _ _ _ _ (by omega), gA_same]
  · rw [gA_idx _ _ _ _ (by omega), gA_idx _ _ _ _ (by omega), gA_same]
  · rw [gA_idx _ _ _ _ (by omega), show n + 2 = n + 1 + 1 from rfl, gA_same]
  · rw [show n + 3 = n + 1 + 1 + 1 from rfl, gA_same]
/-- the byte that the reference lays at k -/
def fbM (a b c d e : Int32) (k : Nat) : Int32 := ((if (4 : Int32) ≤ nI k then (if (8 : Int32) ≤ nI k then (if (12 : Int32) ≤ nI k then (if (16 : Int32) ≤ nI k then e else d) else c) else b) else a) >>> (((24 : Int32) - ((8 : Int32) * (nI k - nI k / (4 : Int32) * (4 : Int32)))) &&& 31)) &&& (255 : Int32)
theorem feedM_L {a b c d e : Int32} {n : Nat} (h : n + 20 ≤ 700) : ∀ (q nf k : Nat) (M : St), k + q = 20 → q < nf → gI M 1 = nI n → ok (fX12_feed_L1 a b c d e nf (nI k) M) (fun M' => M'.1 = M.1 ∧ M'.2.1 = M.2.1 ∧ (∀ r, r ≠ 0 → gA M' r = gA M r) ∧ (∀ j, j < n + k → gA M' 0 j = gA M 0 j) ∧ ∀ j, k ≤ j → j < 20 → gA M' 0 (n + j) = fbM a b c d e j)
  | 0, nf + 1, k, M, hk, _, hn => by
    rw [fX12_feed_L1]
    exact ok_t (show nI 20 ≤ nI k by rw [nI_leI (by omega) (by omega)]; omega) (ok_some ⟨rfl, rfl, fun _ _ => rfl, fun _ _ => rfl, fun j h1 h2 => absurd h1 (by omega)⟩)
  | q + 1, nf + 1, k, M, hk, hf, hn => by
    rw [fX12_feed_L1, hn, nI_add, cl (show n + k < 2 ^ 31 by omega)]
    refine ok_f (show ¬ nI 20 ≤ nI k by rw [nI_leI (by omega) (by omega)]; omega) (ok_lt (ok_lt (ok_f (kx (by omega) (by decide)) (ok_lt (ok_lt ?_)))))
    rw [nI_1]
    refine ok_mono (feedM_L h q nf (k + 1) _ (by omega) (by omega) hn) (fun M' hM => ?_)
    obtain ⟨a1, a2, a3, a4, a5⟩ := hM
    refine ⟨a1, a2, fun r hr => (a3 r hr).trans (gA_sAr _ _ _ hr), fun j hj => ?_, fun j h1 h2 => ?_⟩
    · rw [a4 j (by omega), gA_idx _ _ _ _ (by omega)]
    · by_cases w : j = k
      · subst w
        rw [a4 _ (by omega), gA_same]; rfl
      · exact a5 j (by omega) h2
/-- frame of feed -/
def EF (M M' : St) : Prop := (∀ k, k ≠ 1 → k ≠ 2 → gI M' k = gI M k) ∧ M'.2.1 = M.2.1 ∧ ∀ r, r ≠ 0 → gA M' r = gA M r
def feR (mn M : St) (r : Int32 × St × St) (r' : Int32 × St) : Prop := r.1 = r'.1 ∧ (∀ k, k ≠ 1 → gI r.2.1 k = gI mn k) ∧ EF M r'.2 ∧ TPR r.2.1 r.2.2 r'.2
theorem n20 {i n : Nat} (h : i < n + 20) : i < n ∨ i = n + 0 ∨ i = n + 1 ∨ i = n + 2 ∨ i = n + 3 ∨ i = n + 4 ∨ i = n + 5 ∨ i = n + 6 ∨ i = n + 7 ∨ i = n + 8 ∨ i = n + 9 ∨ i = n + 10 ∨ i = n + 11 ∨ i = n + 12 ∨ i = n + 13 ∨ i = n + 14 ∨ i = n + 15 ∨ i = n + 16 ∨ i = n + 17 ∨ i = n + 18 ∨ i = n + 19 := by omega
theorem feed_of {mn tape M : St} {a b c d e : Int32} (h : TPR mn tape M) : ok (fX11_feed mn tape a b c d e) (fun r => ok (fX12_feed M a b c d e) (fun r' => feR mn M r r')) := by
  obtain ⟨n, hn, h1, h2, h3⟩ := h
  have h2' : gI (sI M 2 0) 1 = nI n := h2
  unfold fX11_feed fX12_feed
  rw [h1]
  have e20 : nI n + (20 : Int32) = nI (n + 20) := by rw [show (20 : Int32) = nI 20 from rfl, nI_add]
  rw [e20]
  by_cases q : n + 20 ≤ 700
  · have q7 : nI (n + 20) ≤ (700 : Int32) := (nI_leI (a := n + 20) (b := 700) (by omega) (by omega)).mpr q
    refine ok_t q7 ?_
    refine ok_bind (ok_mono (putB_of (x := a) (t := tape) h1 (by omega)) (fun r2 k2 => ?_))
    refine ok_bind (ok_mono (putB_of (x := b) (t := r2.2) k2.1 (by omega)) (fun r4 k4 => ?_))
    refine ok_bind (ok_mono (putB_of (x := c) (t := r4.2) k4.1 (by omega)) (fun r6 k6 => ?_))
    refine ok_bind (ok_mono (putB_of (x := d) (t := r6.2) k6.1 (by omega)) (fun r8 k8 => ?_))
    refine ok_bind (ok_mono (putB_of (x := e) (t := r8.2) k8.1 (by omega)) (fun r10 k10 => ok_some ?_))
    obtain ⟨M1, eM1, m1, m2, m3, m4, m5⟩ := feedM_L (a := a) (b := b) (c := c) (d := d) (e := e) (n := n) q 20 fuel 0 (sI M 2 0) (by omega) (by rw [fuel_eq]; omega) h2'
    have i1 : gI M1 1 = nI n := (congrFun m1 1).trans h2
    refine ok_lt (ok_t (by rw [h2', e20]; exact q7) (ok_bindx eM1 ?_))
    rw [i1, e20]
    refine ok_lt (ok_lt (ok_some ⟨k10.1, fun k hk => ?_, ⟨fun k hk1 hk2 => ?_, m2, m3⟩, n + 20, q, k10.1, rfl, fun i hi => ?_⟩))
    · rw [k10.2.1 k hk, k8.2.1 k hk, k6.2.1 k hk, k4.2.1 k hk, k2.2.1 k hk]
    · show gI (sI M1 1 (nI (n + 20))) k = gI M k
      rw [gI_sIn _ _ hk1]
      exact (congrFun m1 k).trans (gI_sIn _ _ hk2)
    · show gA r10.2 0 i &&& 255 = gA M1 0 i ∧ nn (gA M1 0 i) 0 255
      have key : gA r10.2 0 i &&& 255 = gA M1 0 i := by
        rcases n20 hi with q | q | q | q | q | q | q | q | q | q | q | q | q | q | q | q | q | q | q | q | q
        · rw [k10.2.2.1 i (by omega), k8.2.2.1 i (by omega), k6.2.2.1 i (by omega), k4.2.2.1 i (by omega), k2.2.2.1 i q, m4 i (by omega)]
          exact (h3 i q).1
        all_goals rw [q, m5 _ (by omega) (by omega)]
        · rw [k10.2.2.1 _ (by omega), k8.2.2.1 _ (by omega), k6.2.2.1 _ (by omega), k4.2.2.1 _ (by omega), Nat.add_zero, k2.2.2.2.1, by8_and]; rfl
        · rw [k10.2.2.1 _ (by omega), k8.2.2.1 _ (by omega), k6.2.2.1 _ (by omega), k4.2.2.1 _ (by omega), k2.2.2.2.2.1, by8_and]; rfl
        · rw [k10.2.2.1 _ (by omega), k8.2.2.1 _ (by omega), k6.2.2.1 _ (by omega), k4.2.2.1 _ (by omega), k2.2.2.2.2.2.1, by8_and]; rfl
        · rw [k10.2.2.1 _ (by omega), k8.2.2.1 _ (by omega), k6.2.2.1 _ (by omega), k4.2.2.1 _ (by omega), k2.2.2.2.2.2.2, by8_and]; rfl
        · rw [k10.2.2.1 _ (by omega), k8.2.2.1 _ (by omega), k6.2.2.1 _ (by omega), k4.2.2.2.1, by8_and]; rfl
        · rw [k10.2.2.1 _ (by omega), k8.2.2.1 _ (by omega), k6.2.2.1 _ (by omega), show n + 5 = n + 4 + 1 from rfl, k4.2.2.2.2.1, by8_and]; rfl
        · rw [k10.2.2.1 _ (by omega), k8.2.2.1 _ (by omega), k6.2.2.1 _ (by omega), show n + 6 = n + 4 + 2 from rfl, k4.2.2.2.2.2.1, by8_and]; rfl
        · rw [k10.2.2.1 _ (by omega), k8.2.2.1 _ (by omega), k6.2.2.1 _ (by omega), show n + 7 = n + 4 + 3 from rfl, k4.2.2.2.2.2.2, by8_and]; rfl
        · rw [k10.2.2.1 _ (by omega), k8.2.2.1 _ (by omega), show n + 8 = n + 4 + 4 from rfl, k6.2.2.2.1, by8_and]; rfl
        · rw [k10.2.2.1 _ (by omega), k8.2.2.1 _ (by omega), show n + 9 = n + 4 + 4 + 1 from rfl, k6.2.2.2.2.1, by8_and]; rfl
        · rw [k10.2.2.1 _ (by omega), k8.2.2.1 _ (by omega), show n + 10 = n + 4 + 4 + 2 from rfl, k6.2.2.2.2.2.1, by8_and]; rfl
        · rw [k10.2.2.1 _ (by omega), k8.2.2.1 _ (by omega), show n + 11 = n + 4 + 4 + 3 from rfl, k6.2.2.2.2.2.2, by8_and]; rfl
        · rw [k10.2.2.1 _ (by omega), show n + 12 = n + 4 + 4 + 4 from rfl, k8.2.2.2.1, by8_and]; rfl
        · rw [k10.2.2.1 _ (by omega), show n + 13 = n + 4 + 4 + 4 + 1 from rfl, k8.2.2.2.2.1, by8_and]; rfl
        · rw [k10.2.2.1 _ (by omega), show n + 14 = n + 4 + 4 + 4 + 2 from rfl, k8.2.2.2.2.2.1, by8_and]; rfl
        · rw [k10.2.2.1 _ (by omega), show n + 15 = n + 4 + 4 + 4 + 3 from rfl, k8.2.2.2.2.2.2, by8_and]; rfl
        · rw [show n + 16 = n + 4 + 4 + 4 + 4 from rfl, k10.2.2.2.1, by8_and]; rfl
        · rw [show n + 17 = n + 4 + 4 + 4 + 4 + 1 from rfl, k10.2.2.2.2.1, by8_and]; rfl
        · rw [show n + 18 = n + 4 + 4 + 4 + 4 + 2 from rfl, k10.2.2.2.2.2.1, by8_and]; rfl
        · rw [show n + 19 = n + 4 + 4 + 4 + 4 + 3 from rfl, k10.2.2.2.2.2.2, by8_and]; rfl
      refine ⟨key, ?_⟩
      rw [← key]
      exact and_nn _
  · have q7 : ¬ nI (n + 20) ≤ (700 : Int32) := fun z => q ((nI_leI (a := n + 20) (b := 700) (by omega) (by omega)).mp z)
    refine ok_f q7 (ok_some (ok_lt (ok_f (by rw [h2', e20]; exact q7) (ok_some ⟨rfl, fun _ _ => rfl, ⟨fun k _ hk => gI_sIn _ _ hk, rfl, fun _ _ => rfl⟩, n, hn, h1, h2, h3⟩))))
