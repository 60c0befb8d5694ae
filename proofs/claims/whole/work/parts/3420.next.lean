theorem pk6_0 (x : Nat → Nat) : pk6 (cut x 0) = 0 := by unfold pk6 cut; simp
/-- the next token -/
theorem next_of {tk tp M : St} {N q : Nat} (hB : TB tk tp M N) (hq : q ≤ N) (h3 : gI tk 3 = nI q) (h7 : gI M 7 = nI q) : ok (fX10_next 700 tk tp) (fun tk' => ok (fX12_token M) (fun M' => fI tP tk tk' ∧ fI mP M M' ∧ ∃ p, q ≤ p ∧ tokR tk' M' N p)) := by
  have hN := hB.1
  unfold fX10_next fX12_token
  refine ok_bind (ok_mono (skip_of (N - q) fuel fuel q tk M (by omega) (by rw [fuel_eq]; omega) (by rw [fuel_eq]; omega) hB h3 h7) (fun t1 ht => ?_))
  obtain ⟨M1, eM1, a1, a2, p, a3, a4, a5, a6⟩ := ht
  rw [a5]
  refine ok_lt (ok_lt (ok_lt ?_))
  have k1 : fI tP tk (sI (sI t1 6 (nI p)) 5 0) := (a1.tr (fI.w tP6)).tr (fI.w tP5)
  have k2 : fI mP M (sI M1 10 (nI p)) := a2.tr (fI.w mP10)
  have hB1 : TB (sI (sI t1 6 (nI p)) 5 0) tp (sI M1 10 (nI p)) N := hB.fr k1 k2
  have u3 : gI (sI (sI t1 6 (nI p)) 5 0) 3 = nI p := a5
  have m7 : gI (sI M1 10 (nI p)) 7 = nI p := a6
  have g6 : gI (sI M1 10 (nI p)) 6 = nI N := hB1.2.2.1
  by_cases qe : p = N
  · refine ok_bindx (peek_ge hB1 u3 (by omega) (by omega)) (ok_t rfl (ok_lt (ok_some ?_)))
    refine ok_bindx eM1 ?_
    rw [a6]
    refine ok_lt (ok_lt ?_)
    rw [m7, g6]
    refine ok_t (by rw [qe]) (ok_lt (ok_some ⟨k1.tr (fI.w tP4), k2.tr (fI.w mP8), p, a3, a4, rfl, rfl, ⟨p, by omega, a4, a5, a6, fun z => absurd rfl z⟩, Or.inl ⟨rfl, rfl⟩⟩))
  · have hp : p < N := by omega
    have hc := hB1.c hp
    have ne : ¬ nI p = nI N := fun z => qe ((nI_eq (by omega) (by omega)).mp z)
    have nm1 : ¬ nI (chr (sI M1 10 (nI p)) p) = -1 := nI_nn (by omega)
    refine ok_bindx (peek_lt hB1 u3 hp) (ok_f nm1 ?_)
    -- the reference up to the choice
    have pre : ∀ {Q : St → Prop}, ok ((fX12_isSmall (sI M1 10 (nI p)) (nI p)).bind fun r14 => if r14 = 0 then ((fX12_isDigit (sI M1 10 (nI p)) (nI p)).bind fun r16 => if r16 = 0 then ((fX12_signToken (sI M1 10 (nI p))).bind fun r18 => some r18) else lt (sI (sI M1 10 (nI p)) 8 (3 : Int32)) fun u20 => lt (sI u20 9 (0 : Int32)) fun u21 => (fX12_token_L2 fuel u21).bind (fun y32 => some y32)) else (fX12_token_L3 fuel (sI M1 10 (nI p))).bind (fun y39 => (fX12_wordAt y39 (gI y39 10) (gI y39 7)).bind fun r40 => lt (sI y39 9 r40) fun u41 => lt (if (gI u41 9) < 0 then (if ((gI u41 7) - (gI u41 10)) ≤ (6 : Int32) then ((2 : Int32)) else (6 : Int32)) else (1 : Int32)) fun x42 => lt (sI u41 8 x42) fun u43 => if (gI u43 8) = (2 : Int32) then ((fX12_packed u43 (gI u43 10) (gI u43 7)).bind fun r45 => lt (sI u43 9 r45) fun u46 => some u46) else some u43)) Q → ok ((fX12_token_L1 fuel M).bind (fun y10 => lt (gI y10 7) fun x11 => lt (sI y10 10 x11) fun u12 => if (gI u12 7) = (gI u12 6) then (lt (sI u12 8 (0 : Int32)) fun u50 => some u50) else (fX12_isSmall u12 (gI u12 7)).bind fun r14 => if r14 = 0 then ((fX12_isDigit u12 (gI u12 7)).bind fun r16 => if r16 = 0 then ((fX12_signToken u12).bind fun r18 => some r18) else lt (sI u12 8 (3 : Int32)) fun u20 => lt (sI u20 9 (0 : Int32)) fun u21 => (fX12_token_L2 fuel u21).bind (fun y32 => some y32)) else (fX12_token_L3 fuel u12).bind (fun y39 => (fX12_wordAt y39 (gI y39 10) (gI y39 7)).bind fun r40 => lt (sI y39 9 r40) fun u41 => lt (if (gI u41 9) < 0 then (if ((gI u41 7) - (gI u41 10)) ≤ (6 : Int32) then ((2 : Int32)) else (6 : Int32)) else (1 : Int32)) fun x42 => lt (sI u41 8 x42) fun u43 => if (gI u43 8) = (2 : Int32) then ((fX12_packed u43 (gI u43 10) (gI u43 7)).bind fun r45 => lt (sI u43 9 r45) fun u46 => some u46) else some u43))) Q := by
      intro Q h
      refine ok_bindx eM1 ?_
      rw [a6]
      refine ok_lt (ok_lt ?_)
      rw [m7, g6]
      exact ok_f ne h
    by_cases dg : 48 ≤ chr (sI M1 10 (nI p)) p ∧ chr (sI M1 10 (nI p)) p ≤ 57
    · refine ok_f (fun z => (dig_c hc.2).mp z dg) (ok_bind ?_)
      unfold fX10_takeNumber
      refine ok_lt (ok_bind ?_)
      have nl : ¬ (97 ≤ chr (sI M1 10 (nI p)) p ∧ chr (sI M1 10 (nI p)) p ≤ 122) := by omega
      have k3 : fI tP (sI (sI t1 6 (nI p)) 5 0) (sI (sI (sI t1 6 (nI p)) 5 0) 4 1) := fI.w tP4
      have k4 : fI mP (sI M1 10 (nI p)) (sI (sI (sI M1 10 (nI p)) 8 3) 9 0) := (fI.w mP8).tr (fI.w mP9)
      refine ok_mono (num_of (N - p) fuel fuel p 0 0 (sI (sI (sI t1 6 (nI p)) 5 0) 4 1) (sI (sI (sI M1 10 (nI p)) 8 3) 9 0) (by omega) (by rw [fuel_eq]; omega) (by rw [fuel_eq]; omega) (hB1.fr k3 k4) a5 a6 rfl rfl (by omega) (by omega) (fun _ => rfl)) (fun t2 ht2 => ok_some (ok_some (pre ?_)))
      obtain ⟨M2, eM2, b1, b2, b3, b4, b5, b6, b7, q2, c1, c2, c3, c4, c5⟩ := ht2
      refine ok_bindx (let_m hB1 hp) ?_
      rw [if_neg nl]
      refine ok_t rfl (ok_bindx (dig_m hB1 hp) ?_)
      rw [if_pos dg]
      refine ok_f i10 (ok_lt (ok_lt (ok_bindx eM2 (ok_some ⟨(k1.tr k3).tr b1, (k2.tr k4).tr b2, p, a3, a4, b4, b6, ⟨q2, c1, c3, c4, c5, fun _ => c2 hp dg.1 dg.2⟩, Or.inr (Or.inl ⟨b3, b5, b7⟩)⟩))))
    · refine ok_t ((dig_c hc.2).mpr dg) ?_
      by_cases ltr : 97 ≤ chr (sI M1 10 (nI p)) p ∧ chr (sI M1 10 (nI p)) p ≤ 122
      · refine ok_f (fun z => (let_c hc.2).mp z ltr) (ok_bind ?_)
        unfold fX10_takeWord
        have run := run_of (N := N) (p := p) (N - p) fuel fuel 0 (sI (sI t1 6 (nI p)) 5 0) (sI M1 10 (nI p)) (by omega) (by rw [fuel_eq]; omega) (by rw [fuel_eq]; omega) hB1 a5 rfl a6 rfl (fun j hj => absurd hj (by omega))
        rw [pk6_0] at run
        refine ok_bind (ok_mono run (fun y hy => ?_))
        obtain ⟨M2, eM2, b1, b2, L, c1, c2, c3, c4, c5, c6, c7, c8, c9⟩ := hy
        have L1 : 0 < L := c4 hp ltr
        have hB2 : TB y.2 tp M2 N := hB1.fr b1 b2
        have cM : ∀ q, chr M2 q = chr (sI M1 10 (nI p)) q := fun q => chr_fr b2 q
        have lM : lx M2 p = lx (sI M1 10 (nI p)) p := by funext j; unfold lx; rw [cM]
        have hl2 : ∀ j, j < L → isL M2 (p + j) := fun j hj => by unfold isL; rw [cM]; exact c3 j hj
        obtain ⟨r40, er40, hw⟩ := wordAt_of (p := p) (L := L) hB2 c2
        have pre2 : ∀ {Q : St → Prop}, ok (lt (sI M2 9 r40) fun u41 => lt (if (gI u41 9) < 0 then (if ((gI u41 7) - (gI u41 10)) ≤ (6 : Int32) then ((2 : Int32)) else (6 : Int32)) else (1 : Int32)) fun x42 => lt (sI u41 8 x42) fun u43 => if (gI u43 8) = (2 : Int32) then ((fX12_packed u43 (gI u43 10) (gI u43 7)).bind fun r45 => lt (sI u43 9 r45) fun u46 => some u46) else some u43) Q → ok ((fX12_token_L1 fuel M).bind (fun y10 => lt (gI y10 7) fun x11 => lt (sI y10 10 x11) fun u12 => if (gI u12 7) = (gI u12 6) then (lt (sI u12 8 (0 : Int32)) fun u50 => some u50) else (fX12_isSmall u12 (gI u12 7)).bind fun r14 => if r14 = 0 then ((fX12_isDigit u12 (gI u12 7)).bind fun r16 => if r16 = 0 then ((fX12_signToken u12).bind fun r18 => some r18) else lt (sI u12 8 (3 : Int32)) fun u20 => lt (sI u20 9 (0 : Int32)) fun u21 => (fX12_token_L2 fuel u21).bind (fun y32 => some y32)) else (fX12_token_L3 fuel u12).bind (fun y39 => (fX12_wordAt y39 (gI y39 10) (gI y39 7)).bind fun r40 => lt (sI y39 9 r40) fun u41 => lt (if (gI u41 9) < 0 then (if ((gI u41 7) - (gI u41 10)) ≤ (6 : Int32) then ((2 : Int32)) else (6 : Int32)) else (1 : Int32)) fun x42 => lt (sI u41 8 x42) fun u43 => if (gI u43 8) = (2 : Int32) then ((fX12_packed u43 (gI u43 10) (gI u43 7)).bind fun r45 => lt (sI u43 9 r45) fun u46 => some u46) else some u43))) Q := by
          intro Q h
          refine pre (ok_bindx (let_m hB1 hp) ?_)
          rw [if_pos ltr]
          refine ok_f i10 (ok_bindx eM2 ?_)
          rw [c9, c8]
          exact ok_bindx er40 h
        have eL : nI (p + L) - nI p = nI L := by rw [nI_sub (by omega)]; congr 1; omega
        have g3 : gI (sI y.2 5 y.1) 3 - gI (sI y.2 5 y.1) 6 = nI L := by
          show gI y.2 3 - gI y.2 6 = _
          rw [c6, c7, eL]
        refine ok_lt (ok_lt ?_)
        rw [g3]
        have kC : ∀ x : Int32, fI tP tk (sI (sI y.2 5 y.1) 4 x) := fun x => ((k1.tr b1).tr (fI.w tP5)).tr (fI.w tP4)
        have gM : gI (sI M2 9 r40) 7 - gI (sI M2 9 r40) 10 = nI L := by
          show gI M2 7 - gI M2 10 = _
          rw [c8, c9, eL]
        by_cases L6 : L ≤ 6
        · rw [if_pos (show nI L ≤ (6 : Int32) from (nI_leI (a := L) (b := 6) (by omega) (by omega)).mpr L6)]
          refine ok_lt (ok_lt (ok_bind (ok_mono (wordC_L (y := y) 20 fuel 0 (sI (sI y.2 5 y.1) 4 3) (by omega) (by rw [fuel_eq]; omega) rfl) (fun t2 ht2 => ok_some (ok_some (pre2 ?_))))))
          obtain ⟨d1, d2, d3, d4⟩ := ht2
          have wC : ∀ j, j < 20 → (gA (sI (sI y.2 5 y.1) 4 3) 0 j = y.1 ↔ isW M2 p L (sw j)) := fun j hj => by
            show gA y.2 0 j = y.1 ↔ _
            rw [hB2.2.2.2.2.1 j hj, c5, ← lM]
            exact code_iff (sw_lt hj) L6 hl2
          rcases d4 with ⟨j, _, hj, e1, e2, e3⟩ | ⟨e1, e2⟩
          · have hW := (wC j hj).mp e1
            obtain ⟨v, hv, hW2, rv⟩ : ∃ v, v < 20 ∧ isW M2 p L v ∧ r40 = nI v := by
              rcases hw with h | ⟨h, _⟩
              · exact h
              · exact absurd hW (h _ (sw_lt hj))
            have ev : v = sw j := isW_u hv (sw_lt hj) hW2 hW
            refine ok_lt (ok_lt (ok_lt ?_))
            have c0 : ¬ gI (sI M2 9 r40) 9 < 0 := by
              show ¬ r40 < 0
              rw [rv]; exact nI_pos (by omega)
            rw [if_neg c0]
            refine ok_f (show ¬ (1 : Int32) = 2 by decide) (ok_some ⟨(kC 3).tr d1, ((k2.tr b2).tr (fI.w mP9)).tr (fI.w mP8), p, a3, a4, d3.trans c7, c9, ⟨p + L, by omega, c2, d2.trans c6, c8, fun _ => by omega⟩, Or.inr (Or.inr (Or.inl ⟨e2, rfl, v, hv, rv, ?_⟩))⟩)
            rw [e3, ev, sw_sw]
          · have nW : ∀ v, v < 20 → ¬ isW M2 p L v := fun v hv z => e1 (sw v) (by omega) (sw_lt hv) ((wC (sw v) (sw_lt hv)).mpr (by rw [sw_sw]; exact z))
            have rv : r40 = -1 := by
              rcases hw with ⟨v, h1, h2, _⟩ | ⟨_, h⟩
              · exact absurd h2 (nW v h1)
              · exact h
            subst e2
            refine ok_lt (ok_lt (ok_lt ?_))
            have c0 : gI (sI M2 9 r40) 9 < 0 := by
              show r40 < 0
              rw [rv]; decide
            rw [gM, if_pos c0, if_pos (show nI L ≤ (6 : Int32) from (nI_leI (a := L) (b := 6) (by omega) (by omega)).mpr L6)]
            have k9 : fI mP M2 (sI (sI M2 9 r40) 8 2) := (fI.w mP9).tr (fI.w mP8)
            have hB3 : TB y.2 tp (sI (sI M2 9 r40) 8 2) N := hB2.fr fI.rf k9
            have m10 : gI (sI (sI M2 9 r40) 8 2) 10 = nI p := c9
            have m7' : gI (sI (sI M2 9 r40) 8 2) 7 = nI (p + L) := c8
            rw [m10, m7']
            refine ok_t rfl (ok_bindx (packed_eq hB3 c2 L6 hl2) (ok_lt (ok_some ⟨kC 3, ((k2.tr b2).tr k9).tr (fI.w mP9), p, a3, a4, c7, c9, ⟨p + L, by omega, c2, c6, c8, fun _ => by omega⟩, Or.inr (Or.inr (Or.inr (Or.inl ⟨rfl, rfl, ?_⟩)))⟩)))
            show y.1 = nI (pk6 (cut (lx M2 p) L))
            rw [c5, lM]
        · have nL : ¬ nI L ≤ (6 : Int32) := fun z => L6 ((nI_leI (a := L) (b := 6) (by omega) (by omega)).mp z)
          rw [if_neg nL]
          have rv : r40 = -1 := by
            rcases hw with ⟨v, h1, h2, _⟩ | ⟨_, h⟩
            · have := (off_d v h1).2.2.1
              have := h2.1
              omega
            · exact h
          have l2 : fX10_takeWord_L2 y fuel 0 (sI (sI y.2 5 y.1) 4 8) = some (sI (sI y.2 5 y.1) 4 8) := by
            show fX10_takeWord_L2 y (999 + 1) (nI 0) (sI (sI y.2 5 y.1) 4 8) = _
            rw [fX10_takeWord_L2]
            exact fn (by decide) (fn (show ¬ (8 : Int32) = 3 by decide) rfl)
          refine ok_lt (ok_lt (ok_bindx l2 (ok_some (ok_some (pre2 (ok_lt (ok_lt (ok_lt ?_))))))))
          have c0 : gI (sI M2 9 r40) 9 < 0 := by
            show r40 < 0
            rw [rv]; decide
          rw [gM, if_pos c0, if_neg nL]
          exact ok_f (show ¬ (6 : Int32) = 2 by decide) (ok_some ⟨kC 8, ((k2.tr b2).tr (fI.w mP9)).tr (fI.w mP8), p, a3, a4, c7, c9, ⟨p + L, by omega, c2, c6, c8, fun _ => by omega⟩, Or.inr (Or.inr (Or.inr (Or.inr (Or.inr (Or.inr (Or.inr (Or.inr ⟨rfl, Or.inl rfl⟩)))))))⟩)
      · refine ok_t ((let_c hc.2).mpr ltr) ?_
        rw [u3, nI_1]
        refine ok_lt (ok_lt (ok_mono (sign_of (b := chr (sI M1 10 (nI p)) p) hB1 hp u3 rfl m7 rfl rfl) (fun t2 ht2 => pre ?_)))
        refine ok_bindx (let_m hB1 hp) ?_
        rw [if_neg ltr]
        refine ok_t rfl (ok_bindx (dig_m hB1 hp) ?_)
        rw [if_neg dg]
        refine ok_t rfl (ok_bind (ok_mono ht2 (fun M2 hM => ok_some ⟨k1.tr hM.1, k2.tr hM.2.1, p, a3, hM.2.2⟩)))
