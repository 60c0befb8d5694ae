/-! reading: frames, numbers, names -/
def lo (r : Nat) : Nat := if r = 23 then 2 else if r ≤ 29 then 6 else if r ≤ 33 then 4 else if r ≤ 35 then 14 else if r ≤ 38 then 3 else 64
def pI (k : Nat) : Prop := k = 4 ∨ k = 5 ∨ (7 ≤ k ∧ k ≤ 11) ∨ (17 ≤ k ∧ k ≤ 21) ∨ (44 ≤ k ∧ k ≤ 49)
def pA (r i : Nat) : Prop := r = 22 ∨ r = 42 ∨ r = 43 ∨ (23 ≤ r ∧ r ≤ 41 ∧ lo r ≤ i)
/-- what reading may change -/
def PF (M M' : St) : Prop := (∀ k, ¬ pI k → gI M' k = gI M k) ∧ M'.2.1 = M.2.1 ∧ ∀ r i, ¬ pA r i → gA M' r i = gA M r i
theorem PF.rf {M : St} : PF M M := ⟨fun _ _ => rfl, rfl, fun _ _ _ => rfl⟩
theorem PF.tr {x y z : St} (h : PF x y) (k : PF y z) : PF x z := ⟨fun j q => (k.1 j q).trans (h.1 j q), k.2.1.trans h.2.1, fun r i q => (k.2.2 r i q).trans (h.2.2 r i q)⟩
theorem PF.wI {M : St} {k : Nat} {v : Int32} (h : pI k) : PF M (sI M k v) := ⟨fun j q => gI_sIn _ _ (fun e => q (by rw [e]; exact h)), rfl, fun _ _ _ => rfl⟩
theorem PF.wA {M : St} {r i : Nat} {v : Int32} (h : pA r i) : PF M (sA M r i v) := ⟨fun _ _ => rfl, rfl, fun r' i' q => by
  rw [gA_sA, if_neg]
  rintro ⟨rfl, rfl⟩
  exact q h⟩
def mQ (j : Nat) : Prop := mP j ∨ j = 11 ∨ j = 4 ∨ j = 5
theorem mQp {j : Nat} (h : mQ j) : pI j := by
  unfold mQ mP at h
  unfold pI
  omega
theorem fI.mono {P Q : Nat → Prop} {u u' : St} (h : fI P u u') (k : ∀ j, P j → Q j) : fI Q u u' := ⟨fun j q => h.1 j (fun z => q (k j z)), h.2⟩
theorem fI.m {M M' : St} (h : fI mP M M') : fI mQ M M' := h.mono (fun _ z => Or.inl z)
theorem fI.PF {M M' : St} (h : fI mQ M M') : PF M M' := ⟨fun k q => h.1 k (fun z => q (mQp z)), h.J, fun r i _ => by rw [h.A]⟩
def PS (tk tp M : St) (N p : Nat) : Prop := TB tk tp M N ∧ tokR tk M N p
theorem PS.M {tk tp M M' : St} {N p : Nat} (h : PS tk tp M N p) (hI : ∀ k, 6 ≤ k → k ≤ 10 → gI M' k = gI M k) (h0 : gA M' 0 = gA M 0) (h3 : gA M' 3 = gA M 3) : PS tk tp M' N p := by
  obtain ⟨⟨a, b, c, d, e, f⟩, t1, t2, t3, t4, t5⟩ := h
  have i6 := hI 6 (by omega) (by omega)
  have i7 := hI 7 (by omega) (by omega)
  have i8 := hI 8 (by omega) (by omega)
  have i9 := hI 9 (by omega) (by omega)
  have i10 := hI 10 (by omega) (by omega)
  unfold PS TB tokR KD
  rw [i6, i7, i8, i9, i10, h0, h3]
  exact ⟨⟨a, b, c, d, e, f⟩, t1, t2, t3, t4, t5⟩
theorem PS.wA {tk tp M : St} {N p r i : Nat} {v : Int32} (h : PS tk tp M N p) (h1 : r ≠ 0) (h2 : r ≠ 3) : PS tk tp (sA M r i v) N p := h.M (fun _ _ _ => rfl) (gA_sAr _ _ _ (Ne.symm h1)) (gA_sAr _ _ _ (Ne.symm h2))
theorem PS.wI {tk tp M : St} {N p k : Nat} {v : Int32} (h : PS tk tp M N p) (h1 : k < 6 ∨ 10 < k) : PS tk tp (sI M k v) N p := h.M (fun j _ _ => gI_sIn _ _ (by omega)) rfl rfl
theorem nextP {tk tp M : St} {N p : Nat} (h : PS tk tp M N p) : ok (fX10_next 700 tk tp) (fun tk' => ok (fX12_token M) (fun M' => fI tP tk tk' ∧ fI mP M M' ∧ ∃ p', p ≤ p' ∧ (¬ gI tk 4 = 0 → p < p') ∧ PS tk' tp M' N p')) := by
  obtain ⟨hB, t1, t2, t3, ⟨q, q1, q2, q3, q4, q5⟩, t5⟩ := h
  refine ok_mono (next_of hB q2 q3 q4) (fun tk' ht => ok_mono ht (fun M' hM => ?_))
  obtain ⟨a, b, p', c, d⟩ := hM
  exact ⟨a, b, p', by omega, fun z => by have := q5 z; omega, hB.fr a b, d⟩
/-- a fault, on both sides -/
def FL (rd M : St) : Prop := ∃ c : Int32, ¬ c = 0 ∧ gI rd 3 = c ∧ gI M 4 = c ∧ gI rd 4 = gI M 5
theorem FL.ne {rd M : St} (h : FL rd M) : ¬ gI rd 3 = 0 := by
  obtain ⟨c, a, b, _⟩ := h
  rw [b]; exact a
theorem blame_0 {rd tk : St} {c : Int32} (h : gI rd 3 = 0) : fX6_blame rd tk c = sI (sI rd 3 c) 4 (gI tk 6) := by
  unfold fX6_blame
  rw [if_pos h]; rfl
theorem blame_1 {rd tk : St} {c : Int32} (h : ¬ gI rd 3 = 0) : fX6_blame rd tk c = rd := by
  unfold fX6_blame
  rw [if_neg h]
def wrM (M : St) (c : Int32) : St := sI (sI M 4 c) 5 (gI M 10)
theorem wrong_eq (M : St) (c : Int32) : fX12_wrong M c = (0, wrM M c) := rfl
theorem wr_fI (M : St) (c : Int32) : fI mQ M (wrM M c) := (fI.w (Or.inr (Or.inr (Or.inl rfl)))).tr (fI.w (Or.inr (Or.inr (Or.inr rfl))))
theorem FL.mk {rd tk tp M : St} {N p : Nat} {c : Int32} (hP : PS tk tp M N p) (hc : ¬ c = 0) : FL (sI (sI rd 3 c) 4 (gI tk 6)) (wrM M c) := ⟨c, hc, rfl, rfl, by
  show gI tk 6 = gI M 10
  rw [hP.2.2.1, hP.2.2.2.1]⟩
theorem due_1 {rd tk : St} : fX6_isDue rd tk 1 = (1, rd) := rfl
theorem due_0 {rd tk : St} (h : gI rd 3 = 0) : fX6_isDue rd tk 0 = (0, sI (sI rd 3 1) 4 (gI tk 6)) := by
  unfold fX6_isDue
  rw [if_pos rfl, blame_0 h]; rfl
/-- the kinds of a token, one by one -/
theorem kind_num {tk M : St} (h : KD tk M) : (gI tk 4 = 1 ∧ gI M 8 = 3 ∧ NV (gI tk 5) (gI M 9)) ∨ (¬ gI tk 4 = 1 ∧ ¬ gI M 8 = 3) := by
  rcases h with ⟨a, b⟩ | h | ⟨a, b, _⟩ | ⟨a, b, _⟩ | ⟨a, j, _, _, _, ⟨_, b, _⟩ | ⟨_, b, _⟩⟩ | ⟨a, b, _⟩ | ⟨a, b, _⟩ | ⟨a, b, _⟩ | ⟨a, b | ⟨b, _⟩⟩
  · exact Or.inr ⟨by rw [a]; decide, by rw [b]; decide⟩
  · exact Or.inl h
  all_goals exact Or.inr ⟨by rw [a]; decide, by rw [b]; decide⟩
theorem kind_name {tk M : St} (h : KD tk M) : (gI tk 4 = 3 ∧ gI M 8 = 2 ∧ gI tk 5 = gI M 9) ∨ (¬ gI tk 4 = 3 ∧ ¬ gI M 8 = 2) := by
  rcases h with ⟨a, b⟩ | ⟨a, b, _⟩ | ⟨a, b, _⟩ | h | ⟨a, j, _, _, _, ⟨_, b, _⟩ | ⟨_, b, _⟩⟩ | ⟨a, b, _⟩ | ⟨a, b, _⟩ | ⟨a, b, _⟩ | ⟨a, b | ⟨b, _⟩⟩
  · exact Or.inr ⟨by rw [a]; decide, by rw [b]; decide⟩
  · exact Or.inr ⟨by rw [a]; decide, by rw [b]; decide⟩
  · exact Or.inr ⟨by rw [a]; decide, by rw [b]; decide⟩
  · exact Or.inl h
  all_goals exact Or.inr ⟨by rw [a]; decide, by rw [b]; decide⟩
theorem kind_word {tk M : St} (h : KD tk M) : (gI tk 4 = 2 ∧ gI M 8 = 1 ∧ ∃ w, w < 20 ∧ gI M 9 = nI w ∧ gI tk 5 = nI (sw w)) ∨ (¬ gI tk 4 = 2 ∧ ¬ gI M 8 = 1) := by
  rcases h with ⟨a, b⟩ | ⟨a, b, _⟩ | h | ⟨a, b, _⟩ | ⟨a, j, _, _, _, ⟨_, b, _⟩ | ⟨_, b, _⟩⟩ | ⟨a, b, _⟩ | ⟨a, b, _⟩ | ⟨a, b, _⟩ | ⟨a, b | ⟨b, _⟩⟩
  · exact Or.inr ⟨by rw [a]; decide, by rw [b]; decide⟩
  · exact Or.inr ⟨by rw [a]; decide, by rw [b]; decide⟩
  · exact Or.inl h
  all_goals exact Or.inr ⟨by rw [a]; decide, by rw [b]; decide⟩
theorem kind_end {tk M : St} (h : KD tk M) : (gI tk 4 = 0 ∧ gI M 8 = 0) ∨ (¬ gI tk 4 = 0 ∧ ¬ gI M 8 = 0) := by
  rcases h with h | ⟨a, b, _⟩ | ⟨a, b, _⟩ | ⟨a, b, _⟩ | ⟨a, j, _, _, _, ⟨_, b, _⟩ | ⟨_, b, _⟩⟩ | ⟨a, b, _⟩ | ⟨a, b, _⟩ | ⟨a, b, _⟩ | ⟨a, b | ⟨b, _⟩⟩
  · exact Or.inl h
  all_goals exact Or.inr ⟨by rw [a]; decide, by rw [b]; decide⟩
/-- a number -/
def nuR (a b : Nat) (tk tp rd M : St) (N p : Nat) (r : Int32 × St × St) (r' : Int32 × St) : Prop := fI tP tk r.2.2 ∧ fI mQ M r'.2 ∧ ((r'.1 = 1 ∧ r.2.1 = rd ∧ nn r.1 a b ∧ gI r'.2 11 = r.1 ∧ gI r'.2 4 = gI M 4 ∧ gI r'.2 5 = gI M 5 ∧ ∃ p', p < p' ∧ PS r.2.2 tp r'.2 N p') ∨ (r'.1 = 0 ∧ FL r.2.1 r'.2))
theorem number_of {rd tk tp M : St} {N p a b : Nat} (hb : b ≤ 99999) (hab : a ≤ b) (hP : PS tk tp M N p) (h3 : gI rd 3 = 0) : ok (fX6_readNumber 700 rd tk tp (nI a) (nI b)) (fun r => ok (fX12_number M (nI a) (nI b)) (fun r' => nuR a b tk tp rd M N p r r')) := by
  unfold fX6_readNumber fX12_number
  refine ok_t h3 ?_
  rcases kind_num hP.2.2.2.2.2 with ⟨k1, k2, v, w, e1, e2, hv, hw, hvw⟩ | ⟨k1, k2⟩
  · rw [if_pos k1]
    refine ok_lt ?_
    rw [due_1]
    refine ok_lt (ok_f i10 ?_)
    rw [e1, e2]
    refine ok_lt (ok_lt ?_)
    have bad : ok (lt (fX6_blame rd tk (2 : Int32)) fun r8 => some ((0 : Int32), r8, tk)) (fun r => ok (lt (fX12_wrong M (2 : Int32)) fun r7 => some ((bz r7.1), r7.2)) (fun r' => nuR a b tk tp rd M N p r r')) := by
      rw [blame_0 h3]
      exact ok_lt (ok_some (ok_lt (ok_some ⟨fI.rf, wr_fI M 2, Or.inr ⟨bz0, FL.mk hP (by decide)⟩⟩)))
    by_cases hin : a ≤ w ∧ w ≤ b
    · have ev : v = w := hvw (Or.inr (by omega))
      rw [ev]
      have q1 : ¬ nI w < nI a := by rw [nI_ltI (by omega) (by omega)]; omega
      have q2 : nI w ≤ nI b := by rw [nI_leI (by omega) (by omega)]; omega
      have hP2 : PS tk tp (sI M 11 (nI w)) N p := hP.wI (by omega)
      refine ok_f q1 (ok_t q2 (ok_bind (ok_mono (nextP hP2) (fun tk' ht => ok_some ?_))))
      refine ok_t k2 (ok_f (by rw [isIn_1 q1 ((le_nlt _ _).mp q2)]; exact i10) (ok_lt (ok_lt (ok_bind (ok_mono ht (fun M' hM => ok_some ?_))))))
      obtain ⟨c1, c2, p', _, c4, c5⟩ := hM
      exact ⟨c1, (fI.w (Or.inr (Or.inl rfl))).tr c2.m, Or.inl ⟨rfl, rfl, ⟨w, hin.1, hin.2, rfl⟩, c2.1 11 (by unfold mP; omega), c2.1 4 (by unfold mP; omega), c2.1 5 (by unfold mP; omega), p', c4 (by rw [k1]; decide), c5⟩⟩
    · have nin : fX12_isIn (nI w) (nI a) (nI b) = 0 := by
        by_cases z : w < a
        · exact isIn_0 (Or.inl ((nI_ltI (by omega) (by omega)).mpr z))
        · exact isIn_0 (Or.inr ((nI_ltI (by omega) (by omega)).mpr (by omega)))
      have bad2 := ok_mono bad (fun r hr => (ok_t k2 (ok_t nin hr) : ok (if gI M 8 = (3 : Int32) then (if fX12_isIn (nI w) (nI a) (nI b) = 0 then (lt (fX12_wrong M (2 : Int32)) fun r7 => some ((bz r7.1), r7.2)) else lt (nI w) fun x3 => lt (sI M 11 x3) fun u4 => (fX12_token u4).bind fun r5 => some ((1 : Int32), r5)) else lt (fX12_wrong M (1 : Int32)) fun r9 => some ((bz r9.1), r9.2)) (fun r' => nuR a b tk tp rd M N p r r')))
      by_cases z : nI v < nI a
      · exact ok_t z bad2
      · refine ok_f z (ok_f (fun y => hin ?_) bad2)
        rw [nI_leI (by omega) (by omega)] at y
        rw [nI_ltI (by omega) (by omega)] at z
        have := hvw (Or.inl (by omega))
        omega
  · rw [if_neg k1]
    refine ok_lt ?_
    rw [due_0 h3]
    exact ok_lt (ok_t rfl (ok_some (ok_f k2 (ok_lt (ok_some ⟨fI.rf, wr_fI M 1, Or.inr ⟨bz0, FL.mk hP (by decide)⟩⟩)))))
theorem number_no {rd tk tp : St} {x y : Int32} (h : ¬ gI rd 3 = 0) : fX6_readNumber 700 rd tk tp x y = some (0, rd, tk) := by
  unfold fX6_readNumber
  rw [if_neg h]
theorem pass_no {rd tk tp : St} (h : ¬ gI rd 3 = 0) : fX6_passName 700 rd tk tp = some tk := by
  unfold fX6_passName
  rw [if_neg h]
theorem pass_yes {rd tk tp : St} (h : gI rd 3 = 0) : fX6_passName 700 rd tk tp = fX10_next 700 tk tp := by
  unfold fX6_passName
  rw [if_pos h]
  cases fX10_next 700 tk tp <;> rfl
theorem name_yes {rd tk : St} (h : gI tk 4 = 3) : fX6_readName rd tk = (gI tk 5, rd) := by
  unfold fX6_readName
  rw [if_pos h]; rfl
theorem name_no {rd tk : St} (h : ¬ gI tk 4 = 3) (h3 : gI rd 3 = 0) : fX6_readName rd tk = (0, sI (sI rd 3 1) 4 (gI tk 6)) := by
  unfold fX6_readName
  rw [if_neg h]
  simp only [lt_eq]
  rw [due_0 h3]; rfl
/-! what is read so far -/
def RDa (u M : St) (na : Nat) : Prop := ∀ i, i < na → gA u 1 i = gA M 24 (6 + i) ∧ gA u 2 i = gA M 25 (6 + i) ∧ gA u 3 i = gA M 26 (6 + i) ∧ nn (gA M 25 (6 + i)) 0 9 ∧ nn (gA M 26 (6 + i)) 1 9
def RDg (u M : St) (ng : Nat) : Prop := ∀ i, i < ng → gA u 1 i = gA M 27 (6 + i) ∧ gA u 2 i = gA M 28 (6 + i) ∧ gA u 3 i = gA M 29 (6 + i) ∧ nn (gA M 28 (6 + i)) 0 9 ∧ nn (gA M 29 (6 + i)) 0 9
def RDr (u M : St) (nr : Nat) : Prop := ∀ i, i < nr → gA u 1 i = gA M 30 (4 + i) ∧ gA u 2 i = gA M 31 (4 + i) ∧ gA u 3 i = gA M 32 (4 + i) ∧ gA u 4 i = gA M 33 (4 + i) ∧ nn (gA M 31 (4 + i)) 0 99 ∧ nn (gA M 32 (4 + i)) 0 99 ∧ nn (gA M 33 (4 + i)) 0 99
def RDs (u M : St) (na ns : Nat) : Prop := ∀ i, i < ns → gA u 2 i = gA M 34 (14 + i) ∧ gA u 3 i = gA M 35 (14 + i) ∧ (∃ j, j < na ∧ gA M 34 (14 + i) = nI j) ∧ nn (gA M 35 (14 + i)) 0 99
def RDm (u M : St) (kn : Nat) : Prop := (gI u 5 = gA M 23 2 ∧ nn (gA M 23 2) 0 100) ∧ (gI u 6 = gA M 23 3 ∧ nn (gA M 23 3) 0 99999) ∧ gI u 7 = gA M 22 0 ∧ gI u 8 = gA M 22 1 ∧ kn ≤ 64 ∧ gI u 9 = nI kn ∧ gI M 21 = nI kn ∧ gI M 47 = nI kn
def k64 (M : St) (r i : Nat) : Int32 := gA M r (64 + i)
def LR2 (f M : St) (w kn : Nat) : Prop := gI f 4 = gA M 36 (3 + w) ∧ ((gA M 36 (3 + w) = 0 ∧ gI f 3 = 0) ∨ (gA M 36 (3 + w) = 1 ∧ ∃ fr n, 1 ≤ n ∧ fr + n ≤ kn ∧ gI f 3 = nI n ∧ gA M 37 (3 + w) = nI fr ∧ gA M 38 (3 + w) = nI (fr + n) ∧
  LW (k64 M 39) (k64 M 40) (k64 M 41) fr n ∧ (∀ i, i < n → gA f 0 i = kc (k64 M 39 (fr + i)) ∧ (k64 M 39 (fr + i) = 0 ∨ k64 M 39 (fr + i) = 1 → gA f 1 i = k64 M 40 (fr + i))) ∧ (hst (fun j => k64 M 39 (fr + j)) n).length = 1))
def RDz (S : Nat → St) (M : St) (na ng nr ns : Nat) : Prop := (na ≤ 6 ∧ ng ≤ 6 ∧ nr ≤ 4 ∧ ns ≤ 14) ∧ (gI (S 1) 0 = 6 ∧ gI (S 2) 0 = 6 ∧ gI (S 3) 0 = 4 ∧ gI (S 4) 0 = 14) ∧ (gI (S 1) 5 = nI na ∧ gI (S 2) 5 = nI ng ∧ gI (S 3) 5 = nI nr ∧ gI (S 4) 5 = nI ns) ∧ (gI M 17 = nI na ∧ gI M 18 = nI ng ∧ gI M 19 = nI nr ∧ gI M 20 = nI ns)
def RD (S : Nat → St) (M : St) (na ng nr ns kn : Nat) : Prop := RDz S M na ng nr ns ∧ RDa (S 1) M na ∧ RDg (S 2) M ng ∧ RDr (S 3) M nr ∧ RDs (S 4) M na ns ∧ RDm (S 0) M kn ∧ LR2 (S 5) M 0 kn ∧ LR2 (S 6) M 1 kn ∧ LR2 (S 7) M 2 kn
/-- under changes of the reference only -/
theorem RD.M {S : Nat → St} {M M' : St} {na ng nr ns kn : Nat} (h : RD S M na ng nr ns kn) (hI : ∀ k, (17 ≤ k ∧ k ≤ 21) ∨ k = 47 → gI M' k = gI M k) (hA : ∀ r, 22 ≤ r → r ≤ 41 → gA M' r = gA M r) : RD S M' na ng nr ns kn := by
  unfold RD RDz RDa RDg RDr RDs RDm LR2 k64 at *
  rw [hI 17 (by omega), hI 18 (by omega), hI 19 (by omega), hI 20 (by omega), hI 21 (by omega), hI 47 (by omega), hA 22 (by omega) (by omega), hA 23 (by omega) (by omega), hA 24 (by omega) (by omega), hA 25 (by omega) (by omega), hA 26 (by omega) (by omega), hA 27 (by omega) (by omega), hA 28 (by omega) (by omega), hA 29 (by omega) (by omega), hA 30 (by omega) (by omega), hA 31 (by omega) (by omega), hA 32 (by omega) (by omega), hA 33 (by omega) (by omega), hA 34 (by omega) (by omega), hA 35 (by omega) (by omega), hA 36 (by omega) (by omega), hA 37 (by omega) (by omega), hA 38 (by omega) (by omega), hA 39 (by omega) (by omega), hA 40 (by omega) (by omega), hA 41 (by omega) (by omega)]
  exact h
theorem RD.Q {S : Nat → St} {M M' : St} {na ng nr ns kn : Nat} (h : RD S M na ng nr ns kn) (k : fI mQ M M') : RD S M' na ng nr ns kn := h.M (fun j q => k.1 j (fun z => by unfold mQ mP at z; omega)) (fun r _ _ => k.A r)
/-- the sizes that the rolls may have stay -/
def MS (S S' : Nat → St) : Prop := ∀ k, 1 ≤ k → k ≤ 4 → gI (S' k) 0 = gI (S k) 0
theorem MS.rf {S : Nat → St} : MS S S := fun _ _ _ => rfl
theorem MS.tr {a b c : Nat → St} (h : MS a b) (k : MS b c) : MS a c := fun j p q => (k j p q).trans (h j p q)
theorem MS.up {S : Nat → St} {k : Nat} {u : St} (h : gI u 0 = gI (S k) 0) : MS S (va_up S k u) := fun j _ _ => by
  by_cases e : j = k
  · subst e; rw [vu_s]; exact h
  · rw [vu_n _ _ e]
/-- a line is read -/
def LNP (S : Nat → St) (rd tk tp M : St) (N p : Nat) (rd' tk' : St) (S' : Nat → St) (b : Int32) (M' : St) : Prop := PF M M' ∧ MS S S' ∧ fI tP tk tk' ∧ ((b = 1 ∧ gI rd' 3 = 0 ∧ rd' = rd ∧ gI M' 4 = gI M 4 ∧ gI M' 5 = gI M 5 ∧ (∃ p', p < p' ∧ PS tk' tp M' N p') ∧ (∃ na ng nr ns kn, RD S' M' na ng nr ns kn) ∧ gI (S' 0) 10 = gI (S 0) 10) ∨ (b = 0 ∧ FL rd' M'))
theorem full_c {n k : Nat} {u : St} (h0 : gI u 0 = nI n) (h5 : gI u 5 = nI k) (hn : n < 100) (hk : k ≤ n) : fX7_isFull n u = if k = n then 1 else 0 := by
  unfold fX7_isFull
  simp only [lt_eq]
  rw [h0, h5]
  by_cases q : k = n
  · rw [if_pos q, if_neg (by rw [nI_ltI (by omega) (by omega)]; omega)]; rfl
  · rw [if_neg q, if_pos (by rw [nI_ltI (by omega) (by omega)]; omega)]; rfl
theorem add_c {n k : Nat} {u : St} {a b c d : Int32} (h0 : gI u 0 = nI n) (h5 : gI u 5 = nI k) (hn : n < 100) (hk : k < n) : fX7_add n u a b c d = some (sI (sA (sA (sA (sA u 1 k a) 2 k b) 3 k c) 4 k d) 5 (nI (k + 1))) := by
  unfold fX7_add
  have c1 : ¬ (nI k < 0 ∨ n ≤ k) := kx hk (by omega)
  have e5 : ∀ v : St, gI v 5 = nI k → (gI v 5).toNatClampNeg = k := fun v hv => by rw [hv, cl (by omega)]
  rw [h0, h5, if_neg (by rw [nI_leI (by omega) (by omega)]; omega), cl (show k < 2 ^ 31 by omega), if_neg c1, lt_eq]
  have g1 : gI (sA u 1 k a) 5 = nI k := h5
  rw [g1, cl (show k < 2 ^ 31 by omega), if_neg c1, lt_eq]
  have g2 : gI (sA (sA u 1 k a) 2 k b) 5 = nI k := h5
  rw [g2, cl (show k < 2 ^ 31 by omega), if_neg c1, lt_eq]
  have g3 : gI (sA (sA (sA u 1 k a) 2 k b) 3 k c) 5 = nI k := h5
  rw [g3, cl (show k < 2 ^ 31 by omega), if_neg c1, lt_eq]
  have g4 : gI (sA (sA (sA (sA u 1 k a) 2 k b) 3 k c) 4 k d) 5 = nI k := h5
  rw [g4, nI_1]; rfl
