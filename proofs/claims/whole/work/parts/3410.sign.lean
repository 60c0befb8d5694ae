/-! a token, on both sides -/
def sgj (j : Nat) : Nat := if j = 11 then 43 else if j = 12 then 45 else if j = 13 then 42 else 47
def KD (tk M : St) : Prop :=
  (gI tk 4 = 0 ∧ gI M 8 = 0) ∨
  (gI tk 4 = 1 ∧ gI M 8 = 3 ∧ NV (gI tk 5) (gI M 9)) ∨
  (gI tk 4 = 2 ∧ gI M 8 = 1 ∧ ∃ w, w < 20 ∧ gI M 9 = nI w ∧ gI tk 5 = nI (sw w)) ∨
  (gI tk 4 = 3 ∧ gI M 8 = 2 ∧ gI tk 5 = gI M 9) ∨
  (gI tk 4 = 4 ∧ ∃ j, 5 ≤ j ∧ j ≤ 14 ∧ gI tk 5 = nI j ∧ ((j ≤ 10 ∧ gI M 8 = 5 ∧ gI M 9 = nI (j - 5)) ∨ (11 ≤ j ∧ gI M 8 = 4 ∧ gI M 9 = nI (sgj j)))) ∨
  (gI tk 4 = 5 ∧ gI M 8 = 4 ∧ gI M 9 = nI 40) ∨
  (gI tk 4 = 6 ∧ gI M 8 = 4 ∧ gI M 9 = nI 41) ∨
  (gI tk 4 = 7 ∧ gI M 8 = 4 ∧ gI M 9 = nI 59) ∨
  (gI tk 4 = 8 ∧ (gI M 8 = 6 ∨ (gI M 8 = 4 ∧ gI M 9 = nI 37)))
def tokR (tk M : St) (N p : Nat) : Prop := p ≤ N ∧ gI tk 6 = nI p ∧ gI M 10 = nI p ∧ (∃ q, p ≤ q ∧ q ≤ N ∧ gI tk 3 = nI q ∧ gI M 7 = nI q ∧ (¬ gI tk 4 = 0 → p < q)) ∧ KD tk M
theorem nIn {b c : Nat} (hb : b ≤ 255) (hc : c ≤ 255) (h : b ≠ c) : ¬ nI b = nI c := fun z => h ((nI_eq (by omega) (by omega)).mp z)
theorem tsign_j {u : St} {x t j : Int32} (n1 : ¬ x = 40) (n2 : ¬ x = 41) (n3 : ¬ x = 59) (hj : fX10_jointOf x t = j) : fX10_takeSign u x t = if j = 6 ∨ j = 8 ∨ j = 9 then sI (sI (sI u 5 j) 4 (if j = -1 then 8 else 4)) 3 (gI u 3 + 1) else sI (sI u 5 j) 4 (if j = -1 then 8 else 4) := by
  unfold fX10_takeSign
  rw [if_neg n1, if_neg n2, if_neg n3, hj]
  simp only [lt_eq]
  show (if j = 6 then _ else if j = 8 then _ else if j = 9 then _ else _) = _
  by_cases a : j = 6
  · rw [if_pos a, if_pos (Or.inl a)]; rfl
  · rw [if_neg a]
    by_cases b : j = 8
    · rw [if_pos b, if_pos (Or.inr (Or.inl b))]; rfl
    · rw [if_neg b]
      by_cases c : j = 9
      · rw [if_pos c, if_pos (Or.inr (Or.inr c))]; rfl
      · have d : ¬ (j = 6 ∨ j = 8 ∨ j = 9) := fun z => z.elim a (fun z => z.elim b c)
        rw [if_neg c, if_neg d]; rfl
theorem sign_of {tk tp M : St} {N p b : Nat} (hB : TB tk tp M N) (hp : p < N) (h3 : gI tk 3 = nI p) (h6 : gI tk 6 = nI p) (h7 : gI M 7 = nI p) (h10 : gI M 10 = nI p) (hb : chr M p = b) : ok ((fX10_peek 700 (sI tk 3 (nI (p + 1))) tp).bind fun r20 => lt (fX10_takeSign (sI tk 3 (nI (p + 1))) (nI b) r20) fun r21 => some r21) (fun tk' => ok (fX12_signToken M) (fun M' => fI tP tk tk' ∧ fI mP M M' ∧ tokR tk' M' N p)) := by
  have hN := hB.1
  have hc := hB.c hp
  have hb5 : b ≤ 255 := by rw [← hb]; exact hc.2
  have k1 : fI tP tk (sI tk 3 (nI (p + 1))) := fI.w tP3
  have hBu : TB (sI tk 3 (nI (p + 1))) tp M N := hB.fr k1 fI.rf
  have a0 : gA M 0 p = nI b := by rw [hc.1, hb]
  have c7 : ¬ (nI p < 0 ∨ 700 ≤ p) := kx (by omega) (by decide)
  -- the sign behind
  obtain ⟨t, et, t', et', i1, i2, i3⟩ : ∃ t, fX10_peek 700 (sI tk 3 (nI (p + 1))) tp = some t ∧ ∃ t' : Int32, ((nI N ≤ nI (p + 1) ∧ t' = 0) ∨ (¬ nI N ≤ nI (p + 1) ∧ p + 1 < N ∧ t' = gA M 0 (p + 1))) ∧ (t = nI 61 ↔ t' = nI 61) ∧ (t = nI 62 ↔ t' = nI 62) ∧ (t = nI 61 ∨ t = nI 62 → p + 2 ≤ N) := by
    by_cases q : p + 1 < N
    · have hc2 := hB.c q
      refine ⟨_, peek_lt hBu rfl q, gA M 0 (p + 1), Or.inr ⟨by rw [nI_leI (by omega) (by omega)]; omega, q, rfl⟩, ?_, ?_, fun _ => by omega⟩
      · rw [hc2.1]
      · rw [hc2.1]
    · refine ⟨_, peek_ge hBu rfl (by omega) (by omega), 0, Or.inl ⟨by rw [nI_leI (by omega) (by omega)]; omega, rfl⟩, ?_, ?_, ?_⟩
      · exact ⟨fun z => absurd z (by decide), fun z => absurd z (by decide)⟩
      · exact ⟨fun z => absurd z (by decide), fun z => absurd z (by decide)⟩
      · intro z; rcases z with z | z <;> exact absurd z (by decide)
  refine ok_bindx et (ok_lt ?_)
  have fin1 : ∀ tk' M' : St, fI tP tk tk' → fI mP M M' → gI tk' 3 = nI (p + 1) → gI M' 7 = nI (p + 1) → gI tk' 6 = nI p → gI M' 10 = nI p → KD tk' M' → fI tP tk tk' ∧ fI mP M M' ∧ tokR tk' M' N p := fun tk' M' x1 x2 x3 x4 x5 x6 x7 => ⟨x1, x2, by omega, x5, x6, ⟨p + 1, by omega, by omega, x3, x4, fun _ => by omega⟩, x7⟩
  have fin2 : p + 2 ≤ N → ∀ tk' M' : St, fI tP tk tk' → fI mP M M' → gI tk' 3 = nI (p + 2) → gI M' 7 = nI (p + 2) → gI tk' 6 = nI p → gI M' 10 = nI p → KD tk' M' → fI tP tk tk' ∧ fI mP M M' ∧ tokR tk' M' N p := fun z tk' M' x1 x2 x3 x4 x5 x6 x7 => ⟨x1, x2, by omega, x5, x6, ⟨p + 2, by omega, by omega, x3, x4, fun _ => by omega⟩, x7⟩
  -- the reference up to the sign
  have pre : ∀ {Q : St → Prop}, ok (lt (sI (sI M 9 (nI b)) 7 (nI (p + 1))) fun u5 => lt (lt (fun (x7 : Int32) => lt (if (gI u5 9) = (61 : Int32) then ((0 : Int32)) else if x7 = (61 : Int32) then ((1 : Int32)) else (0 : Int32)) fun x9 => lt (if (gI u5 9) = (60 : Int32) then (if x7 = (62 : Int32) then ((1 : Int32)) else (0 : Int32)) else (0 : Int32)) fun x10 => lt (fun (u11 : St) => lt (sI u11 8 (5 : Int32)) fun u13 => lt (if (gI u13 9) = (61 : Int32) then ((2 : Int32)) else if (gI u13 9) = (60 : Int32) then (if x9 = 0 then (if x10 = 0 then ((0 : Int32)) else (3 : Int32)) else (1 : Int32)) else if x9 = 0 then ((5 : Int32)) else (4 : Int32)) fun x14 => lt (sI u13 9 x14) fun u15 => some u15) fun j12 => lt (lt ((gI u5 7) + (1 : Int32)) fun x22 => lt (sI u5 7 x22) fun u23 => j12 u23) fun j21 => if x9 = 0 then (if x10 = 0 then (j12 u5) else j21) else j21) fun j8 => if (gI u5 6) ≤ (gI u5 7) then (j8 (0 : Int32)) else if (gI u5 7) < 0 ∨ 700 ≤ ((gI u5 7)).toNatClampNeg then none else j8 (gA u5 0 ((gI u5 7)).toNatClampNeg)) fun j6 => if (gI u5 9) = (60 : Int32) then (j6) else if (gI u5 9) = (62 : Int32) then (j6) else if (gI u5 9) = (61 : Int32) then (j6) else lt (if (gI u5 9) = (59 : Int32) then ((1 : Int32)) else if (gI u5 9) = (40 : Int32) then ((1 : Int32)) else if (gI u5 9) = (41 : Int32) then ((1 : Int32)) else if (gI u5 9) = (43 : Int32) then ((1 : Int32)) else if (gI u5 9) = (45 : Int32) then ((1 : Int32)) else if (gI u5 9) = (42 : Int32) then ((1 : Int32)) else if (gI u5 9) = (47 : Int32) then ((1 : Int32)) else if (gI u5 9) = (37 : Int32) then ((1 : Int32)) else (0 : Int32)) fun x35 => lt (if x35 = 0 then ((6 : Int32)) else (4 : Int32)) fun x36 => lt (sI u5 8 x36) fun u37 => some u37) Q → ok (fX12_signToken M) Q := by
    intro Q h
    unfold fX12_signToken
    rw [h7, cl (show p < 2 ^ 31 by omega), a0]
    refine ok_f c7 (ok_lt (ok_lt ?_))
    have e7 : gI (sI M 9 (nI b)) 7 + 1 = nI (p + 1) := by
      show gI M 7 + 1 = _
      rw [h7, nI_1]
    rw [e7]
    exact ok_lt h
  have g6 : gI (sI (sI M 9 (nI b)) 7 (nI (p + 1))) 6 = nI N := hB.2.2.1
  have k2 : ∀ (x : Int32), fI mP M (sI (sI (sI M 9 (nI b)) 7 (nI (p + 1))) 8 x) := fun x => ((fI.w mP9).tr (fI.w mP7)).tr (fI.w mP8)
  -- a sign of its own
  have one : ∀ (x : Int32) (u : St), fX10_takeSign (sI tk 3 (nI (p + 1))) (nI b) t = u → fI tP tk u → gI u 3 = nI (p + 1) → gI u 6 = nI p → (¬ nI b = nI 60) → (¬ nI b = nI 62) → (¬ nI b = nI 61) → (if (if nI b = (59 : Int32) then (1 : Int32) else if nI b = (40 : Int32) then 1 else if nI b = (41 : Int32) then 1 else if nI b = (43 : Int32) then 1 else if nI b = (45 : Int32) then 1 else if nI b = (42 : Int32) then 1 else if nI b = (47 : Int32) then 1 else if nI b = (37 : Int32) then 1 else 0) = 0 then (6 : Int32) else 4) = x → KD u (sI (sI (sI M 9 (nI b)) 7 (nI (p + 1))) 8 x) → ok (some (fX10_takeSign (sI tk 3 (nI (p + 1))) (nI b) t)) (fun tk' => ok (fX12_signToken M) (fun M' => fI tP tk tk' ∧ fI mP M M' ∧ tokR tk' M' N p)) := by
    intro x u eu fu u3 u6 n0 n2 n1 ex hk
    rw [eu]
    refine ok_some (pre (ok_lt (ok_lt (ok_f n0 (ok_f n2 (ok_f n1 (ok_lt (ok_lt (ok_lt (ok_some ?_)))))))))) 
    have ex' := ex
    show fI tP tk u ∧ fI mP M (sI (sI (sI M 9 (nI b)) 7 (nI (p + 1))) 8 _) ∧ tokR u (sI (sI (sI M 9 (nI b)) 7 (nI (p + 1))) 8 _) N p
    rw [show gI (sI (sI M 9 (nI b)) 7 (nI (p + 1))) 9 = nI b from rfl, ex]
    exact fin1 u _ fu (k2 x) u3 rfl u6 h10 hk
  have k5 : ∀ (x y : Int32), fI tP tk (sI (sI (sI tk 3 (nI (p + 1))) 5 x) 4 y) := fun x y => (k1.tr (fI.w tP5)).tr (fI.w tP4)
  have k53 : ∀ (x y z : Int32), fI tP tk (sI (sI (sI (sI tk 3 (nI (p + 1))) 5 x) 4 y) 3 z) := fun x y z => (k5 x y).tr (fI.w tP3)
  by_cases q59 : b = 59
  · subst q59
    exact one 4 (sI (sI tk 3 (nI (p + 1))) 4 7) rfl (k1.tr (fI.w tP4)) rfl h6 (by decide) (by decide) (by decide) rfl (Or.inr (Or.inr (Or.inr (Or.inr (Or.inr (Or.inr (Or.inr (Or.inl ⟨rfl, rfl, rfl⟩))))))))
  by_cases q40 : b = 40
  · subst q40
    exact one 4 (sI (sI tk 3 (nI (p + 1))) 4 5) rfl (k1.tr (fI.w tP4)) rfl h6 (by decide) (by decide) (by decide) rfl (Or.inr (Or.inr (Or.inr (Or.inr (Or.inr (Or.inl ⟨rfl, rfl, rfl⟩))))))
  by_cases q41 : b = 41
  · subst q41
    exact one 4 (sI (sI tk 3 (nI (p + 1))) 4 6) rfl (k1.tr (fI.w tP4)) rfl h6 (by decide) (by decide) (by decide) rfl (Or.inr (Or.inr (Or.inr (Or.inr (Or.inr (Or.inr (Or.inl ⟨rfl, rfl, rfl⟩)))))))
  have n40 : ¬ nI b = (40 : Int32) := nIn (c := 40) hb5 (by omega) q40
  have n41 : ¬ nI b = (41 : Int32) := nIn (c := 41) hb5 (by omega) q41
  have n59 : ¬ nI b = (59 : Int32) := nIn (c := 59) hb5 (by omega) q59
  by_cases q43 : b = 43
  · subst q43
    exact one 4 (sI (sI (sI tk 3 (nI (p + 1))) 5 11) 4 4) rfl (k5 _ _) rfl h6 (by decide) (by decide) (by decide) rfl (Or.inr (Or.inr (Or.inr (Or.inr (Or.inl ⟨rfl, 11, by omega, by omega, rfl, Or.inr ⟨by omega, rfl, rfl⟩⟩)))))
  by_cases q45 : b = 45
  · subst q45
    exact one 4 (sI (sI (sI tk 3 (nI (p + 1))) 5 12) 4 4) rfl (k5 _ _) rfl h6 (by decide) (by decide) (by decide) rfl (Or.inr (Or.inr (Or.inr (Or.inr (Or.inl ⟨rfl, 12, by omega, by omega, rfl, Or.inr ⟨by omega, rfl, rfl⟩⟩)))))
  by_cases q42 : b = 42
  · subst q42
    exact one 4 (sI (sI (sI tk 3 (nI (p + 1))) 5 13) 4 4) rfl (k5 _ _) rfl h6 (by decide) (by decide) (by decide) rfl (Or.inr (Or.inr (Or.inr (Or.inr (Or.inl ⟨rfl, 13, by omega, by omega, rfl, Or.inr ⟨by omega, rfl, rfl⟩⟩)))))
  by_cases q47 : b = 47
  · subst q47
    exact one 4 (sI (sI (sI tk 3 (nI (p + 1))) 5 14) 4 4) rfl (k5 _ _) rfl h6 (by decide) (by decide) (by decide) rfl (Or.inr (Or.inr (Or.inr (Or.inr (Or.inl ⟨rfl, 14, by omega, by omega, rfl, Or.inr ⟨by omega, rfl, rfl⟩⟩)))))
  by_cases q37 : b = 37
  · subst q37
    exact one 4 (sI (sI (sI tk 3 (nI (p + 1))) 5 (-1)) 4 8) rfl (k5 _ _) rfl h6 (by decide) (by decide) (by decide) rfl (Or.inr (Or.inr (Or.inr (Or.inr (Or.inr (Or.inr (Or.inr (Or.inr ⟨rfl, Or.inr ⟨rfl, rfl⟩⟩))))))))
  -- comparisons
  have e71 : gI (sI (sI M 9 (nI b)) 7 (nI (p + 1))) 7 = nI (p + 1) := rfl
  have cmp : ∀ {Q : St → Prop}, (b = 60 ∨ b = 62 ∨ b = 61) → ok (lt (if nI b = (61 : Int32) then ((0 : Int32)) else if t' = (61 : Int32) then ((1 : Int32)) else (0 : Int32)) fun x9 => lt (if nI b = (60 : Int32) then (if t' = (62 : Int32) then ((1 : Int32)) else (0 : Int32)) else (0 : Int32)) fun x10 => lt (fun (u11 : St) => lt (sI u11 8 (5 : Int32)) fun u13 => lt (if (gI u13 9) = (61 : Int32) then ((2 : Int32)) else if (gI u13 9) = (60 : Int32) then (if x9 = 0 then (if x10 = 0 then ((0 : Int32)) else (3 : Int32)) else (1 : Int32)) else if x9 = 0 then ((5 : Int32)) else (4 : Int32)) fun x14 => lt (sI u13 9 x14) fun u15 => some u15) fun j12 => lt (lt (nI (p + 1) + (1 : Int32)) fun x22 => lt (sI (sI (sI M 9 (nI b)) 7 (nI (p + 1))) 7 x22) fun u23 => j12 u23) fun j21 => if x9 = 0 then (if x10 = 0 then (j12 (sI (sI M 9 (nI b)) 7 (nI (p + 1)))) else j21) else j21) Q → ok (fX12_signToken M) Q := by
    intro Q hbb hJ
    refine pre (ok_lt (ok_lt ?_))
    have hj : ok (lt (fun (x7 : Int32) => lt (if nI b = (61 : Int32) then ((0 : Int32)) else if x7 = (61 : Int32) then ((1 : Int32)) else (0 : Int32)) fun x9 => lt (if nI b = (60 : Int32) then (if x7 = (62 : Int32) then ((1 : Int32)) else (0 : Int32)) else (0 : Int32)) fun x10 => lt (fun (u11 : St) => lt (sI u11 8 (5 : Int32)) fun u13 => lt (if (gI u13 9) = (61 : Int32) then ((2 : Int32)) else if (gI u13 9) = (60 : Int32) then (if x9 = 0 then (if x10 = 0 then ((0 : Int32)) else (3 : Int32)) else (1 : Int32)) else if x9 = 0 then ((5 : Int32)) else (4 : Int32)) fun x14 => lt (sI u13 9 x14) fun u15 => some u15) fun j12 => lt (lt (nI (p + 1) + (1 : Int32)) fun x22 => lt (sI (sI (sI M 9 (nI b)) 7 (nI (p + 1))) 7 x22) fun u23 => j12 u23) fun j21 => if x9 = 0 then (if x10 = 0 then (j12 (sI (sI M 9 (nI b)) 7 (nI (p + 1)))) else j21) else j21) fun j8 => if gI (sI (sI M 9 (nI b)) 7 (nI (p + 1))) 6 ≤ nI (p + 1) then (j8 (0 : Int32)) else if nI (p + 1) < 0 ∨ 700 ≤ (nI (p + 1)).toNatClampNeg then none else j8 (gA (sI (sI M 9 (nI b)) 7 (nI (p + 1))) 0 (nI (p + 1)).toNatClampNeg)) Q := by
      refine ok_lt ?_
      rw [g6, cl (show p + 1 < 2 ^ 31 by omega)]
      rcases et' with ⟨z, rfl⟩ | ⟨z, z2, rfl⟩
      · exact ok_t z hJ
      · exact ok_f z (ok_f (kx (by omega) (by decide)) hJ)
    rcases hbb with rfl | rfl | rfl
    · exact ok_t (show nI 60 = (60 : Int32) from rfl) hj
    · exact ok_f (show ¬ nI 62 = (60 : Int32) by decide) (ok_t (show nI 62 = (62 : Int32) from rfl) hj)
    · exact ok_f (show ¬ nI 61 = (60 : Int32) by decide) (ok_f (show ¬ nI 61 = (62 : Int32) by decide) (ok_t (show nI 61 = (61 : Int32) from rfl) hj))
  have kc1 : ∀ x y : Int32, fI mP M (sI (sI (sI (sI M 9 (nI b)) 7 (nI (p + 1))) 8 x) 9 y) := fun x y => (k2 x).tr (fI.w mP9)
  have kc2 : ∀ x y z : Int32, fI mP M (sI (sI (sI (sI (sI M 9 (nI b)) 7 (nI (p + 1))) 7 z) 8 x) 9 y) := fun x y z => ((((fI.w mP9).tr (fI.w mP7)).tr (fI.w mP7)).tr (fI.w mP8)).tr (fI.w mP9)
  have p11 : nI (p + 1) + 1 = nI (p + 2) := nI_1 _
  by_cases q61 : b = 61
  · subst q61
    rw [show fX10_takeSign (sI tk 3 (nI (p + 1))) (nI 61) t = sI (sI (sI tk 3 (nI (p + 1))) 5 7) 4 4 from rfl]
    refine ok_some (cmp (Or.inr (Or.inr rfl)) (ok_lt (ok_lt (ok_lt (ok_lt (ok_t rfl (ok_t rfl (ok_lt (ok_lt (ok_lt (ok_some ?_))))))))))) 
    exact fin1 _ _ (k5 _ _) (kc1 5 2) rfl rfl h6 h10 (Or.inr (Or.inr (Or.inr (Or.inr (Or.inl ⟨rfl, 7, by omega, by omega, rfl, Or.inl ⟨by omega, rfl, rfl⟩⟩)))))
  have n61 : ¬ nI b = (61 : Int32) := nIn (c := 61) hb5 (by omega) q61
  by_cases q60 : b = 60
  · subst q60
    by_cases t62 : t = 62
    · have t62' : t' = 62 := i2.mp t62
      have t61' : ¬ t' = 61 := by rw [t62']; decide
      have ej : fX10_jointOf (nI 60) t = 8 := by show (if t = 62 then (8 : Int32) else lt (if t = 61 then (6 : Int32) else 5) fun x => x) = 8; rw [if_pos t62]
      rw [tsign_j n40 n41 n59 ej]
      refine ok_some (cmp (Or.inl rfl) (ok_lt (ok_lt (ok_lt (ok_lt ?_)))))
      rw [if_neg n61, if_neg t61', if_pos (show nI 60 = (60 : Int32) from rfl), if_pos t62', p11]
      refine ok_t rfl (ok_f i10 (ok_lt (ok_lt (ok_lt (ok_lt (ok_lt (ok_some ?_)))))))
      exact fin2 (i3 (Or.inr t62)) _ _ (k53 8 4 _) (kc2 5 3 (nI (p + 2))) p11 rfl h6 h10 (Or.inr (Or.inr (Or.inr (Or.inr (Or.inl ⟨rfl, 8, by omega, by omega, rfl, Or.inl ⟨by omega, rfl, rfl⟩⟩)))))
    · have t62' : ¬ t' = 62 := fun z => t62 (i2.mpr z)
      by_cases t61 : t = 61
      · have t61' : t' = 61 := i1.mp t61
        have ej : fX10_jointOf (nI 60) t = 6 := by show (if t = 62 then (8 : Int32) else lt (if t = 61 then (6 : Int32) else 5) fun x => x) = 6; rw [if_neg t62, if_pos t61]; rfl
        rw [tsign_j n40 n41 n59 ej]
        refine ok_some (cmp (Or.inl rfl) (ok_lt (ok_lt (ok_lt (ok_lt ?_)))))
        rw [if_neg n61, if_pos t61', if_pos (show nI 60 = (60 : Int32) from rfl), if_neg t62', p11]
        refine ok_f i10 (ok_lt (ok_lt (ok_lt (ok_lt (ok_lt (ok_some ?_))))))
        exact fin2 (i3 (Or.inl t61)) _ _ (k53 6 4 _) (kc2 5 1 (nI (p + 2))) p11 rfl h6 h10 (Or.inr (Or.inr (Or.inr (Or.inr (Or.inl ⟨rfl, 6, by omega, by omega, rfl, Or.inl ⟨by omega, rfl, rfl⟩⟩)))))
      · have t61' : ¬ t' = 61 := fun z => t61 (i1.mpr z)
        have ej : fX10_jointOf (nI 60) t = 5 := by show (if t = 62 then (8 : Int32) else lt (if t = 61 then (6 : Int32) else 5) fun x => x) = 5; rw [if_neg t62, if_neg t61]; rfl
        rw [tsign_j n40 n41 n59 ej]
        refine ok_some (cmp (Or.inl rfl) (ok_lt (ok_lt (ok_lt (ok_lt ?_)))))
        rw [if_neg n61, if_neg t61', if_pos (show nI 60 = (60 : Int32) from rfl), if_neg t62']
        refine ok_t rfl (ok_t rfl (ok_lt (ok_lt (ok_lt (ok_some ?_)))))
        exact fin1 _ _ (k5 5 4) (kc1 5 0) rfl rfl h6 h10 (Or.inr (Or.inr (Or.inr (Or.inr (Or.inl ⟨rfl, 5, by omega, by omega, rfl, Or.inl ⟨by omega, rfl, rfl⟩⟩)))))
  have n60 : ¬ nI b = (60 : Int32) := nIn (c := 60) hb5 (by omega) q60
  by_cases q62 : b = 62
  · subst q62
    by_cases t61 : t = 61
    · have t61' : t' = 61 := i1.mp t61
      have ej : fX10_jointOf (nI 62) t = 9 := by show (lt (if t = 61 then (9 : Int32) else 10) fun x => x) = 9; rw [if_pos t61]; rfl
      rw [tsign_j n40 n41 n59 ej]
      refine ok_some (cmp (Or.inr (Or.inl rfl)) (ok_lt (ok_lt (ok_lt (ok_lt ?_)))))
      rw [if_neg n61, if_pos t61', if_neg n60, p11]
      refine ok_f i10 (ok_lt (ok_lt (ok_lt (ok_lt (ok_lt (ok_some ?_))))))
      exact fin2 (i3 (Or.inl t61)) _ _ (k53 9 4 _) (kc2 5 4 (nI (p + 2))) p11 rfl h6 h10 (Or.inr (Or.inr (Or.inr (Or.inr (Or.inl ⟨rfl, 9, by omega, by omega, rfl, Or.inl ⟨by omega, rfl, rfl⟩⟩)))))
    · have t61' : ¬ t' = 61 := fun z => t61 (i1.mpr z)
      have ej : fX10_jointOf (nI 62) t = 10 := by show (lt (if t = 61 then (9 : Int32) else 10) fun x => x) = 10; rw [if_neg t61]; rfl
      rw [tsign_j n40 n41 n59 ej]
      refine ok_some (cmp (Or.inr (Or.inl rfl)) (ok_lt (ok_lt (ok_lt (ok_lt ?_)))))
      rw [if_neg n61, if_neg t61', if_neg n60]
      refine ok_t rfl (ok_t rfl (ok_lt (ok_lt (ok_lt (ok_some ?_)))))
      exact fin1 _ _ (k5 10 4) (kc1 5 5) rfl rfl h6 h10 (Or.inr (Or.inr (Or.inr (Or.inr (Or.inl ⟨rfl, 10, by omega, by omega, rfl, Or.inl ⟨by omega, rfl, rfl⟩⟩)))))
  have n62 : ¬ nI b = (62 : Int32) := nIn (c := 62) hb5 (by omega) q62
  have n43 : ¬ nI b = (43 : Int32) := nIn (c := 43) hb5 (by omega) q43
  have n45 : ¬ nI b = (45 : Int32) := nIn (c := 45) hb5 (by omega) q45
  have n42 : ¬ nI b = (42 : Int32) := nIn (c := 42) hb5 (by omega) q42
  have n47 : ¬ nI b = (47 : Int32) := nIn (c := 47) hb5 (by omega) q47
  have n37 : ¬ nI b = (37 : Int32) := nIn (c := 37) hb5 (by omega) q37
  have ej : fX10_jointOf (nI b) t = -1 := by
    unfold fX10_jointOf
    rw [if_neg n42, if_neg n43, if_neg n45, if_neg n47, if_neg n60, if_neg n61, if_neg n62]
  refine one 6 (sI (sI (sI tk 3 (nI (p + 1))) 5 (-1)) 4 8) (by rw [tsign_j n40 n41 n59 ej]; rfl) (k5 _ _) rfl h6 n60 n62 n61 ?_ (Or.inr (Or.inr (Or.inr (Or.inr (Or.inr (Or.inr (Or.inr (Or.inr ⟨rfl, Or.inl rfl⟩))))))))
  rw [if_neg n59, if_neg n40, if_neg n41, if_neg n43, if_neg n45, if_neg n42, if_neg n47, if_neg n37]
  rfl
