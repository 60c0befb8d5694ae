/-! each call keeps the relation -/
def al {α : Type} (x : Option α) (P : α → Prop) : Prop := ∀ a, x = some a → P a
theorem al_some {α : Type} {a : α} {P : α → Prop} (h : P a) : al (some a) P := fun b e => by cases e; exact h
theorem al_none {α : Type} {P : α → Prop} : al (none : Option α) P := fun b e => nomatch e
theorem al_if {α : Type} {c : Prop} [Decidable c] {a b : Option α} {P : α → Prop} (h : al a P) (k : al b P) : al (if c then a else b) P := by
  by_cases q : c
  · rw [if_pos q]; exact h
  · rw [if_neg q]; exact k
theorem al_lt {α β : Type} {v : α} {f : α → Option β} {P : β → Prop} (h : al (f v) P) : al (lt v f) P := h
theorem al_bind {α β : Type} {x : Option α} {f : α → Option β} {P : β → Prop} {R : α → Prop} (h : al x R) (k : ∀ a, R a → al (f a) P) : al (x.bind f) P := fun b e => by
  cases x with
  | none => cases e
  | some a => exact k a (h a rfl) b e
theorem al_tr {α : Type} {x : Option α} : al x (fun _ => True) := fun _ _ => trivial
theorem ok_al {α : Type} {x : Option α} {P Q : α → Prop} (h : ok x P) (k : al x Q) : ok x (fun a => P a ∧ Q a) := by
  obtain ⟨a, e, p⟩ := h
  exact ⟨a, e, p, k a e⟩
theorem swapS_J {u : St} {x y : Int32} : al (fX1_swapSeats u x y) (fun r => r.2.1 = u.2.1) := by
  unfold fX1_swapSeats
  exact al_bind al_tr (fun r1 _ => al_bind al_tr (fun r2 _ => al_if (al_some rfl) (al_if (al_some rfl) (al_if al_none (al_lt (al_if al_none (al_lt (al_some rfl))))))))
theorem takeB_J {sp u : St} : al (fX9_takeBack sp u) (fun r => r.2.2.1 = u.2.1) := by
  unfold fX9_takeBack
  exact al_if (al_some rfl) (al_lt (al_lt (al_if al_none (al_lt (al_if (al_lt (al_some rfl)) (al_if (al_if al_none (al_if al_none (al_bind swapS_J (fun r hr => al_some hr)))) (al_if al_none (al_lt (al_lt (al_some rfl))))))))))
theorem stage_J {T : Nat → St} {mn now sp : St} {x : Int32} : al (fX11_stage mn now sp T x) (fun r => r.2.1.2.1 = now.2.1) := by
  unfold fX11_stage
  exact al_if (al_some rfl) (al_if (al_bind al_tr (fun r3 _ => al_lt (al_bind al_tr (fun r6 _ => al_some rfl)))) (al_some rfl))
theorem change_J {T : Nat → St} {mn now sp : St} {x y : Int32} : al (fX11_change mn now sp T x y) (fun r => r.2.1.2.1 = now.2.1) := by
  unfold fX11_change
  exact al_if (al_some rfl) (al_bind swapS_J (fun r2 hr => al_bind al_tr (fun r4 _ => al_bind al_tr (fun r6 _ => al_some hr))))
theorem push_J {mn now sp : St} {x : Int32} : al (fX11_push mn now sp x) (fun r => r.2.1.2.1 = now.2.1) := by
  unfold fX11_push
  exact al_if (al_some rfl) (al_if (al_some rfl) (al_if (al_some rfl) (al_bind al_tr (fun r4 _ => al_lt (al_lt (al_some rfl))))))
theorem undo_J {mn now sp : St} : al (fX11_undo mn now sp) (fun r => r.2.1.2.1 = now.2.1) := by
  unfold fX11_undo
  exact al_if (al_some rfl) (al_bind takeB_J (fun r2 hr => al_some hr))
def CX (mn im now sp nt fut tape tk : St) (T S : Nat → St) (M : St) : Prop := ∃ na ng nr ns, CR mn im now sp nt fut tape tk T S M na ng nr ns
theorem CR.re {mn im now sp nt fut tape tk mn' now' sp' nt' fut' tape' : St} {T S T' : Nat → St} {M M' : St} {na ng nr ns : Nat} (h : CR mn im now sp nt fut tape tk T S M na ng nr ns) (mk : ∀ k, k = 2 ∨ k = 3 ∨ k = 11 → gI mn' k = gI mn k) (kI : ∀ k, k = 4 ∨ k = 5 ∨ (12 ≤ k ∧ k ≤ 16) ∨ k = 82 → gI M' k = gI M k) (kJ : gJ M' 85 = gJ M 85) (kA : ∀ r, r = 3 ∨ (23 ≤ r ∧ r ≤ 41) ∨ r = 83 ∨ r = 84 → gA M' r = gA M r) (kT : fT T T') (hh : HR now' M' 0 na ng nr) (hs : gJ now' 8 = gJ M' 64) (ht : TPR mn' tape' M') (hp : SPR sp' M' ng) (hn : NR nt' M') (hf : FUR mn' fut' T' na) : CR mn' im now' sp' nt' fut' tape' tk T' S M' na ng nr ns := by
  refine ⟨(h.told.fT kT).M (fun k h1 h2 => kI k (by omega)) (fun r h1 h2 => kA r (by omega)), hh, hs, ⟨?_, ?_⟩, ht, h.img.fr (mk 11 (by omega)) (kI 82 (by omega)) (kA 33 (by omega)) (kA 83 (by omega)) (kA 84 (by omega)) kJ, hp, hn, hf, ⟨?_, h.mo.2⟩, h.wo, fun i hi => ?_⟩
  · rw [mk 2 (by omega), kI 4 (by omega)]; exact h.flt.1
  · rw [mk 3 (by omega), kI 5 (by omega)]; exact h.flt.2
  · unfold MO
    rw [(kT 1).I 0, (kT 2).I 0, (kT 3).I 0, (kT 4).I 0]
    exact h.mo.1
  · rw [kA 3 (by omega)]; exact h.wm i hi
theorem TPR.M {mn mn' tape M M' : St} (h : TPR mn tape M) (h1 : gI mn' 1 = gI mn 1) (k1 : gI M' 1 = gI M 1) (k0 : gA M' 0 = gA M 0) : TPR mn' tape M' := by
  obtain ⟨n, a, b, c, d⟩ := h
  exact ⟨n, a, h1.trans b, k1.trans c, fun i hi => by rw [k0]; exact d i hi⟩
theorem vw_Q {M M' : St} (k : QF M M') (i : Nat) (hi : i < 9) : vw M' i = vw M i := by
  have e : ∀ r, 53 ≤ r → r ≤ 59 → gA M' r 0 = gA M r 0 := fun r h1 h2 => k.2.2 r 0 (by unfold hf; rw [if_pos h2]; omega) (by omega) (by omega) (by omega)
  have e6 : gA M' 60 (i - 3) = gA M 60 (i - 3) := k.2.2 60 _ (by unfold hf; rw [if_neg (by omega), if_neg (by omega)]; omega) (by omega) (by omega) (by omega)
  unfold vw
  rw [e 53 (by omega) (by omega), e 54 (by omega) (by omega), e 55 (by omega) (by omega), e6]
theorem CR.Q {mn im now sp nt fut tape tk mn' nt' fut' : St} {T S T' : Nat → St} {M M' : St} {na ng nr ns : Nat} (h : CR mn im now sp nt fut tape tk T S M na ng nr ns) (k : QF M M') (kT : fT T T') (mk : ∀ k, k ≠ 15 → gI mn' k = gI mn k) (k5 : gI nt' 5 = gI nt 5) (k6 : gI nt' 6 = gI nt 6) (kn : ∀ r, r < 4 → gA nt' r = gA nt r) (hf : FUR mn' fut' T' na) : CR mn' im now sp nt' fut' tape tk T' S M' na ng nr ns :=
  h.re (fun j hj => mk j (by omega)) (fun j hj => k.1 j (by omega) (by omega) (by omega)) (by unfold gJ; rw [k.2.1]) (fun r hr => k.A (by omega) (by omega) (by omega) (by omega)) kT (h.hall.Q k) (by have := h.seed; unfold gJ at *; rw [k.2.1]; exact this) (h.tape.M (mk 1 (by omega)) (k.1 1 (by omega) (by omega) (by omega)) (k.A (by omega) (by omega) (by omega) (by omega))) (h.stp.fr (k.1 80 (by omega) (by omega) (by omega)) (k.A (by omega) (by omega) (by omega) (by omega)) (vw_Q k) h.told.1.1.2.1) (h.nts.Q (k.1 75 (by omega) (by omega) (by omega)) (k.1 76 (by omega) (by omega) (by omega)) (k.A (by omega) (by omega) (by omega) (by omega)) k5 k6 kn) hf
theorem CR.q {mn im now sp nt fut tape tk : St} {T S T' : Nat → St} {M M' : St} {na ng nr ns : Nat} (h : CR mn im now sp nt fut tape tk T S M na ng nr ns) (k : QF M M') (kT : fT T T') : CX mn im now sp nt fut tape tk T' S M' := ⟨na, ng, nr, ns, h.Q k kT (fun _ _ => rfl) rfl rfl (fun _ _ => rfl) (h.fut.fT kT rfl)⟩
theorem CR.go {mn im now sp nt fut tape tk : St} {T S : Nat → St} {M : St} {na ng nr ns : Nat} {r : Int32 × St × St × St × St × (Nat → St)} {r' : Int32 × St} (h : CR mn im now sp nt fut tape tk T S M na ng nr ns) (k : goR na ng nr T now sp M r r') : r.1 = r'.1 ∧ CX mn im r.2.2.2.1 r.2.2.2.2.1 nt fut tape tk r.2.2.2.2.2 S r'.2 := by
  obtain ⟨k1, k2, k3, k4, k5, k6⟩ := k
  refine ⟨k1, ?_⟩
  rcases k6 with ⟨e1, e2, e3⟩ | ⟨e1, e2⟩
  · rw [e1, e2]; exact h.q e3 k2
  · have kA : ∀ r, r < 53 ∨ 63 < r → gA r'.2 r = gA M r := fun r hr => funext fun i => k3.2.2 r i (by omega)
    exact ⟨na, ng, nr, ns, h.re (fun _ _ => rfl) (fun j hj => k3.1 j (by omega) (by omega) (by omega) (by omega)) (k3.2.1 85 (by omega)) (fun r hr => kA r (by omega)) k2 k4 (k5 h.seed) (h.tape.M rfl (k3.1 1 (by omega) (by omega) (by omega) (by omega)) (kA 0 (by omega))) (by rw [e1]; exact SPR.clear e2) (h.nts.Q (k3.1 75 (by omega) (by omega) (by omega) (by omega)) (k3.1 76 (by omega) (by omega) (by omega) (by omega)) (kA 77 (by omega)) rfl rfl (fun _ _ => rfl)) (h.fut.fT k2 rfl)⟩
theorem CR.nt {mn im now sp nt fut tape tk : St} {T S : Nat → St} {M : St} {na ng nr ns : Nat} {r r' : Int32 × St} (h : CR mn im now sp nt fut tape tk T S M na ng nr ns) (k : ntR M r r') : r.1 = r'.1 ∧ CX mn im now sp r.2 fut tape tk T S r'.2 := by
  obtain ⟨k1, k2, k3, k4, k5, k6⟩ := k
  have eJ : ∀ j, gJ r'.2 j = gJ M j := fun j => by unfold gJ; rw [k4]
  refine ⟨k1, na, ng, nr, ns, h.re (fun _ _ => rfl) (fun j hj => k3 j (by omega) (by omega) (by omega)) (eJ 85) (fun r hr => k5 r (by omega)) fT.rf (h.hall.M (k5 33 (by omega)) (fun r i _ _ _ => by rw [k5 r (by omega)])) ((h.seed).trans (eJ 64).symm) (h.tape.M rfl (k3 1 (by omega) (by omega) (by omega)) (k5 0 (by omega))) (h.stp.fr (k3 80 (by omega) (by omega) (by omega)) (k5 81 (by omega)) (fun i _ => ?_) h.told.1.1.2.1) k2 h.fut⟩
  unfold vw
  rw [k5 53 (by omega), k5 54 (by omega), k5 55 (by omega), k5 60 (by omega)]
theorem CR.de {mn im now sp nt fut tape tk : St} {T S : Nat → St} {M : St} {na ng nr ns : Nat} {r : Int32 × St × St} {r' : Int32 × St} (h : CR mn im now sp nt fut tape tk T S M na ng nr ns) (k : deR na ng nr M r r') (kJ : r.2.1.2.1 = now.2.1) : r.1 = r'.1 ∧ CX mn im r.2.1 r.2.2 nt fut tape tk T S r'.2 := by
  obtain ⟨k1, ⟨k2, k3, k4⟩, k5, k6⟩ := k
  have eJ : ∀ j, gJ r'.2 j = gJ M j := fun j => by unfold gJ; rw [k3]
  have e8 : gJ r.2.1 8 = gJ now 8 := by unfold gJ; rw [kJ]
  exact ⟨k1, na, ng, nr, ns, h.re (fun _ _ => rfl) (fun j hj => k2 j (by omega) (by omega)) (eJ 85) (fun r hr => k4 r (by omega) (by omega) (by omega) (by omega) (by omega)) fT.rf k5 (e8.trans (h.seed.trans (eJ 64).symm)) (h.tape.M rfl (k2 1 (by omega) (by omega)) (k4 0 (by omega) (by omega) (by omega) (by omega) (by omega))) k6 (h.nts.Q (k2 75 (by omega) (by omega)) (k2 76 (by omega) (by omega)) (k4 77 (by omega) (by omega) (by omega) (by omega) (by omega)) rfl rfl (fun _ _ => rfl)) h.fut⟩
theorem CR.fe {mn im now sp nt fut tape tk : St} {T S : Nat → St} {M : St} {na ng nr ns : Nat} {r : Int32 × St × St} {r' : Int32 × St} (h : CR mn im now sp nt fut tape tk T S M na ng nr ns) (k : feR mn M r r') : r.1 = r'.1 ∧ CX r.2.1 im now sp nt fut r.2.2 tk T S r'.2 := by
  obtain ⟨k1, k2, ⟨k3, k4, k5⟩, k6⟩ := k
  have eJ : ∀ j, gJ r'.2 j = gJ M j := fun j => by unfold gJ; rw [k4]
  refine ⟨k1, na, ng, nr, ns, h.re (fun j hj => k2 j (by omega)) (fun j hj => k3 j (by omega) (by omega)) (eJ 85) (fun r hr => k5 r (by omega)) fT.rf (h.hall.M (k5 33 (by omega)) (fun r i _ _ _ => by rw [k5 r (by omega)])) ((h.seed).trans (eJ 64).symm) k6 (h.stp.fr (k3 80 (by omega) (by omega)) (k5 81 (by omega)) (fun i _ => ?_) h.told.1.1.2.1) (h.nts.Q (k3 75 (by omega) (by omega)) (k3 76 (by omega) (by omega)) (k5 77 (by omega)) rfl rfl (fun _ _ => rfl)) (h.fut.fT fT.rf (k2 15 (by omega)))⟩
  unfold vw
  rw [k5 53 (by omega), k5 54 (by omega), k5 55 (by omega), k5 60 (by omega)]
theorem CR.mo' {mn im now sp nt fut tape tk : St} {T S : Nat → St} {M : St} {na ng nr ns : Nat} {r : Int32 × St × St × St × St × St × St × (Nat → St)} {r' : Int32 × St} (h : CR mn im now sp nt fut tape tk T S M na ng nr ns) (k : moR T mn nt M na r r') : r.1 = r'.1 ∧ CX r.2.1 im now sp r.2.2.2.2.2.2.1 r.2.2.1 tape tk r.2.2.2.2.2.2.2 S r'.2 := by
  obtain ⟨k1, k2, k3, ⟨k4, k5⟩, k6, k7⟩ := k
  exact ⟨k1, na, ng, nr, ns, h.Q k7 k6 k2 (by unfold gI; rw [k4]) (by unfold gI; rw [k4]) (fun r hr => k5 r (by omega)) (k3.fT k6 rfl)⟩
theorem CR.kp {mn im now sp nt fut tape tk : St} {T S : Nat → St} {M : St} {na ng nr ns : Nat} {r : Int32 × St × St} {r' : Int32 × St} (h : CR mn im now sp nt fut tape tk T S M na ng nr ns) (k : kpR na ng nr mn now (kpM M) r r') : r.1 = r'.1 ∧ CX r.2.1 r.2.2 now sp nt fut tape tk T S r'.2 := by
  obtain ⟨k1, k2, k3, k4, k5⟩ := k
  have eI : ∀ j, j ≠ 2 → j ≠ 82 → gI (kpM M) j = gI M j := fun j a b => by
    unfold gI
    rw [kp_I]
    show gI (sI (sI M 2 0) 82 1) j = _
    rw [gI_sIn _ _ b, gI_sIn _ _ a]; rfl
  refine ⟨k1, na, ng, nr, ns, ?_⟩
  rw [k3]
  rw [k2] at k5 ⊢
  refine ⟨h.told.M (fun j h1 h2 => eI j (by omega) (by omega)) (fun r h1 h2 => kp_A M (by omega) (by omega)), k4, ?_, ⟨h.flt.1.trans (eI 4 (by omega) (by omega)).symm, h.flt.2.trans (eI 5 (by omega) (by omega)).symm⟩, h.tape.M rfl (eI 1 (by omega) (by omega)) (kp_A M (by omega) (by omega)), k5, h.stp.fr (eI 80 (by omega) (by omega)) (kp_A M (by omega) (by omega)) (fun i _ => ?_) h.told.1.1.2.1, h.nts.Q (eI 75 (by omega) (by omega)) (eI 76 (by omega) (by omega)) (kp_A M (by omega) (by omega)) rfl rfl (fun _ _ => rfl), h.fut, h.mo, h.wo, fun i hi => ?_⟩
  · rw [kp_J, if_neg (by decide)]; exact h.seed
  · unfold vw
    rw [kp_A M (r := 53) (by omega) (by omega), kp_A M (r := 54) (by omega) (by omega), kp_A M (r := 55) (by omega) (by omega), kp_A M (r := 60) (by omega) (by omega)]
  · rw [kp_A M (by omega) (by omega)]; exact h.wm i hi
theorem CR.bk {mn im now sp nt fut tape tk : St} {T S : Nat → St} {M : St} {na ng nr ns : Nat} {r : Int32 × St × St} {r' : Int32 × St} (h : CR mn im now sp nt fut tape tk T S M na ng nr ns) (k : bkR na ng nr mn now im sp M (bkM M) r r') : r.1 = r'.1 ∧ CX mn im r.2.1 r.2.2 nt fut tape tk T S r'.2 := by
  obtain ⟨k1, k2⟩ := k
  refine ⟨k1, ?_⟩
  rcases k2 with ⟨e1, e2⟩ | ⟨e1, e2, e3, e4, e5⟩
  · rw [e1, e2]; exact h.q QF.th fT.rf
  · rw [e1, e5]
    have eI : ∀ j, j ≠ 2 → j ≠ 80 → gI (bkM M) j = gI M j := fun j a b => by rw [bk_I, if_neg b, if_neg a]
    refine ⟨na, ng, nr, ns, h.told.M (fun j h1 h2 => eI j (by omega) (by omega)) (fun r h1 h2 => bk_A M (by omega)), e2, e3, ⟨h.flt.1.trans (eI 4 (by omega) (by omega)).symm, h.flt.2.trans (eI 5 (by omega) (by omega)).symm⟩, h.tape.M rfl (eI 1 (by omega) (by omega)) (bk_A M (by omega)), e4, SPR.clear (by rw [bk_I, if_pos rfl]), h.nts.Q (eI 75 (by omega) (by omega)) (eI 76 (by omega) (by omega)) (bk_A M (by omega)) rfl rfl (fun _ _ => rfl), h.fut, h.mo, h.wo, fun i hi => ?_⟩
    rw [bk_A M (by omega)]; exact h.wm i hi
theorem q_named {mn im now sp nt fut tape tk : St} {T S : Nat → St} {M : St} {x y : Int32} (h : CX mn im now sp nt fut tape tk T S M) : ok (fX11_named mn T x y) (fun r => ok (fX12_named M x y) (fun r' => r = r'.1 ∧ CX mn im now sp nt fut tape tk T S r'.2)) := by
  obtain ⟨na, ng, nr, ns, h⟩ := h
  exact ok_mono (named_of h.told) (fun r hr => ok_mono hr (fun r' hr => ⟨hr.1, h.q hr.2 fT.rf⟩))
theorem q_act {mn im now sp nt fut tape tk : St} {T S : Nat → St} {M : St} {x y : Int32} (h : CX mn im now sp nt fut tape tk T S M) : ok (fX11_act mn now T x y) (fun r => ok (fX12_act M x y) (fun r' => r = r'.1 ∧ CX mn im now sp nt fut tape tk T S r'.2)) := by
  obtain ⟨na, ng, nr, ns, h⟩ := h
  exact ok_mono (act_of h.told h.hall) (fun r hr => ok_mono hr (fun r' hr => ⟨hr.1, h.q hr.2 fT.rf⟩))
theorem q_grain {mn im now sp nt fut tape tk : St} {T S : Nat → St} {M : St} {x y : Int32} (h : CX mn im now sp nt fut tape tk T S M) : ok (fX11_grain mn now T x y) (fun r => ok (fX12_grain M x y) (fun r' => r = r'.1 ∧ CX mn im now sp nt fut tape tk T S r'.2)) := by
  obtain ⟨na, ng, nr, ns, h⟩ := h
  exact ok_mono (grain_of h.told h.hall) (fun r hr => ok_mono hr (fun r' hr => ⟨hr.1, h.q hr.2 fT.rf⟩))
theorem q_enough {mn im now sp nt fut tape tk : St} {T S : Nat → St} {M : St} {x y : Int32} (h : CX mn im now sp nt fut tape tk T S M) : ok (fX11_enough mn T x y) (fun r => ok (fX12_enough M x y) (fun r' => r = r'.1 ∧ CX mn im now sp nt fut tape tk T S r'.2)) := by
  obtain ⟨na, ng, nr, ns, h⟩ := h
  exact ok_mono (enough_of h.told) (fun r hr => ok_mono hr (fun r' hr => ⟨hr.1, h.q hr.2 fT.rf⟩))
theorem q_game {mn im now sp nt fut tape tk : St} {T S : Nat → St} {M : St} {x y : Int32} (h : CX mn im now sp nt fut tape tk T S M) : ok (fX11_game mn now T x y) (fun r => ok (fX12_game M x y) (fun r' => r = r'.1 ∧ CX mn im now sp nt fut tape tk T S r'.2)) := by
  obtain ⟨na, ng, nr, ns, h⟩ := h
  exact ok_mono (game_of h.told h.hall) (fun r hr => ok_mono hr (fun r' hr => ⟨hr.1, h.q hr.2 fT.rf⟩))
theorem q_rests {mn im now sp nt fut tape tk : St} {T S : Nat → St} {M : St} {x y z : Int32} (h : CX mn im now sp nt fut tape tk T S M) : ok (fX11_rests mn T x y z) (fun r => ok (fX12_rests M x y z) (fun r' => r = r'.1 ∧ CX mn im now sp nt fut tape tk T S r'.2)) := by
  obtain ⟨na, ng, nr, ns, h⟩ := h
  exact ok_mono (rests_of h.told) (fun r hr => ok_mono hr (fun r' hr => ⟨hr.1, h.q hr.2 fT.rf⟩))
theorem q_rest {mn im now sp nt fut tape tk : St} {T S : Nat → St} {M : St} {x y z w : Int32} (h : CX mn im now sp nt fut tape tk T S M) : ok (fX11_rest mn T x y z w) (fun r => ok (fX12_rest M x y z w) (fun r' => r = r'.1 ∧ CX mn im now sp nt fut tape tk T S r'.2)) := by
  obtain ⟨na, ng, nr, ns, h⟩ := h
  exact ok_mono (rest_of' h.told) (fun r hr => ok_mono hr (fun r' hr => ⟨hr.1, h.q hr.2 fT.rf⟩))
theorem q_dearest {mn im now sp nt fut tape tk : St} {T S : Nat → St} {M : St} {x : Int32} (h : CX mn im now sp nt fut tape tk T S M) : ok (fX11_dearest mn T x) (fun r => ok (fX12_dearest M x) (fun r' => r = r'.1 ∧ CX mn im now sp nt fut tape tk T S r'.2)) := by
  obtain ⟨na, ng, nr, ns, h⟩ := h
  exact ok_mono (dearest_of h.told) (fun r hr => ok_mono hr (fun r' hr => ⟨hr.1, h.q hr.2 fT.rf⟩))
theorem q_quiet {mn im now sp nt fut tape tk : St} {T S : Nat → St} {M : St} {x y : Int32} (h : CX mn im now sp nt fut tape tk T S M) : ok (fX11_quiet mn T x y) (fun r => ok (fX12_quiet M x y) (fun r' => r = r'.1 ∧ CX mn im now sp nt fut tape tk T S r'.2)) := by
  obtain ⟨na, ng, nr, ns, h⟩ := h
  exact ok_mono (quiet_of h.told) (fun r hr => ok_mono hr (fun r' hr => ⟨hr.1, h.q hr.2 fT.rf⟩))
theorem q_count {mn im now sp nt fut tape tk : St} {T S : Nat → St} {M : St} {x : Int32} (h : CX mn im now sp nt fut tape tk T S M) : ok (fX11_count mn now sp nt T x) (fun r => ok (fX12_count M x) (fun r' => r = r'.1 ∧ CX mn im now sp nt fut tape tk T S r'.2)) := by
  obtain ⟨na, ng, nr, ns, h⟩ := h
  obtain ⟨k, _, s1, s2, _⟩ := h.stp
  exact ok_mono (count_of h.told h.hall h.nts (s1.trans s2.symm)) (fun r hr => ok_mono hr (fun r' hr => ⟨hr.1, h.q hr.2 fT.rf⟩))
theorem q_span {mn im now sp nt fut tape tk : St} {T S : Nat → St} {M : St} {ml : St} {x : Int32} (h : CX mn im now sp nt fut tape tk T S M) : ok (fX11_span mn ml now T x) (fun r => ok (fX12_span M x) (fun r' => r.1 = r'.1 ∧ CX mn im now sp nt fut tape tk T S r'.2)) := by
  obtain ⟨na, ng, nr, ns, h⟩ := h
  exact ok_mono (span_of h.told h.hall) (fun r hr => ok_mono hr (fun r' hr => ⟨hr.1, h.q hr.2 fT.rf⟩))
theorem q_ahead {mn im now sp nt fut tape tk : St} {T S : Nat → St} {M : St} {ml nm trial : St} {x y z : Int32} (h : CX mn im now sp nt fut tape tk T S M) : ok (fX11_ahead mn ml nm now trial T x y z) (fun r => ok (fX12_ahead M x y z) (fun r' => r.1 = r'.1 ∧ CX mn im now sp nt fut tape tk r.2.2.2.2 S r'.2)) := by
  obtain ⟨na, ng, nr, ns, h⟩ := h
  exact ok_mono (ahead_of h.told h.hall) (fun r hr => ok_mono hr (fun r' hr => ⟨hr.1, h.q hr.2.2 hr.2.1⟩))
theorem q_flour {mn im now sp nt fut tape tk : St} {T S : Nat → St} {M : St} {ml nm trial : St} {x : Int32} (h : CX mn im now sp nt fut tape tk T S M) : ok (fX11_flour mn ml nm now trial T x) (fun r => ok (fX12_flour M x) (fun r' => r.1 = r'.1 ∧ CX mn im now sp nt fut tape tk r.2.2.2.2 S r'.2)) := by
  obtain ⟨na, ng, nr, ns, h⟩ := h
  exact ok_mono (flour_of h.told h.hall) (fun r hr => ok_mono hr (fun r' hr => ⟨hr.1, h.q hr.2.2 hr.2.1⟩))
theorem q_pushFor {mn im now sp nt fut tape tk : St} {T S : Nat → St} {M : St} {ml nm trial : St} {x y : Int32} (h : CX mn im now sp nt fut tape tk T S M) : ok (fX11_pushFor mn ml nm now trial T x y) (fun r => ok (fX12_pushFor M x y) (fun r' => r.1 = r'.1 ∧ CX mn im now sp nt fut tape tk r.2.2.2.2 S r'.2)) := by
  obtain ⟨na, ng, nr, ns, h⟩ := h
  exact ok_mono (pushFor_of h.told h.hall) (fun r hr => ok_mono hr (fun r' hr => ⟨hr.1, h.q hr.2.2 hr.2.1⟩))
theorem q_silence {mn im now sp nt fut tape tk : St} {T S : Nat → St} {M : St} {ml nm trial : St} {x : Int32} (h : CX mn im now sp nt fut tape tk T S M) : ok (fX11_silence mn ml nm now trial T x) (fun r => ok (fX12_silence M x) (fun r' => r.1 = r'.1 ∧ CX mn im now sp nt fut tape tk r.2.2.2.2 S r'.2)) := by
  obtain ⟨na, ng, nr, ns, h⟩ := h
  exact ok_mono (silence_of h.told h.hall) (fun r hr => ok_mono hr (fun r' hr => ⟨hr.1, h.q hr.2.2 hr.2.1⟩))
theorem q_chance {mn im now sp nt fut tape tk : St} {T S : Nat → St} {M : St} {ml nm trial : St} {x y z : Int32} (h : CX mn im now sp nt fut tape tk T S M) : ok (fX11_chance mn ml nm now trial T x y z) (fun r => ok (fX12_chance M x y z) (fun r' => r.1 = r'.1 ∧ CX mn im now sp nt fut tape tk r.2.2.2.2 S r'.2)) := by
  obtain ⟨na, ng, nr, ns, h⟩ := h
  exact ok_mono (chance_of h.told h.hall) (fun r hr => ok_mono hr (fun r' hr => ⟨hr.1, h.q hr.2.2 hr.2.1⟩))
theorem q_tried {mn im now sp nt fut tape tk : St} {T S : Nat → St} {M : St} {ml nm trial : St} {x y z : Int32} (h : CX mn im now sp nt fut tape tk T S M) : ok (fX11_tried mn ml nm now trial T x y z) (fun r => ok (fX12_tried M x y z) (fun r' => r.1 = r'.1 ∧ CX mn im now sp nt fut tape tk r.2.2.2.2 S r'.2)) := by
  obtain ⟨na, ng, nr, ns, h⟩ := h
  exact ok_mono (tried_of h.told h.hall) (fun r hr => ok_mono hr (fun r' hr => ⟨hr.1, h.q hr.2.2 hr.2.1⟩))
theorem q_law {mn im now sp nt fut tape tk : St} {T S : Nat → St} {M : St} {ml nm : St} {x y : Int32} (h : CX mn im now sp nt fut tape tk T S M) : ok (fX11_law mn ml nm now T x y) (fun r => ok (fX12_law M x y) (fun r' => r.1 = r'.1 ∧ CX mn im now sp nt fut tape tk r.2.2.2 S r'.2)) := by
  obtain ⟨na, ng, nr, ns, h⟩ := h
  exact ok_mono (law_of h.told h.hall) (fun r hr => ok_mono hr (fun r' hr => ⟨hr.1, h.q hr.2.2 hr.2.1⟩))
theorem q_bill {mn im now sp nt fut tape tk : St} {T S : Nat → St} {M : St} {ml nm trial od : St} {x : Int32} (h : CX mn im now sp nt fut tape tk T S M) : ok (fX11_bill mn ml nm now trial od T x) (fun r => ok (fX12_bill M x) (fun r' => r.1 = r'.1 ∧ CX mn im now sp nt fut tape tk r.2.2.2.2.2 S r'.2)) := by
  obtain ⟨na, ng, nr, ns, h⟩ := h
  exact ok_mono (bill_of h.told h.hall) (fun r hr => ok_mono hr (fun r' hr => ⟨hr.1, h.q hr.2.2 hr.2.1⟩))
theorem q_seats {mn im now sp nt fut tape tk : St} {T S : Nat → St} {M : St} {crow ml nm od : St} {x y : Int32} (h : CX mn im now sp nt fut tape tk T S M) : ok (fX11_seats mn crow ml nm now od T x y) (fun r => ok (fX12_seats M x y) (fun r' => r.1 = r'.1 ∧ CX mn im now sp nt fut tape tk r.2.2.2.2.2 S r'.2)) := by
  obtain ⟨na, ng, nr, ns, h⟩ := h
  exact ok_mono (seats_of h.told h.hall) (fun r hr => ok_mono hr (fun r' hr => ⟨hr.1, h.q hr.2.2 hr.2.1⟩))
theorem q_feed {mn im now sp nt fut tape tk : St} {T S : Nat → St} {M : St} {x y z w v : Int32} (h : CX mn im now sp nt fut tape tk T S M) : ok (fX11_feed mn tape x y z w v) (fun r => ok (fX12_feed M x y z w v) (fun r' => r.1 = r'.1 ∧ CX r.2.1 im now sp nt fut r.2.2 tk T S r'.2)) := by
  obtain ⟨na, ng, nr, ns, h⟩ := h
  exact ok_mono (feed_of h.tape) (fun r hr => ok_mono hr (fun r' hr => h.fe hr))
theorem q_stage {mn im now sp nt fut tape tk : St} {T S : Nat → St} {M : St} {x : Int32} (h : CX mn im now sp nt fut tape tk T S M) : ok (fX11_stage mn now sp T x) (fun r => ok (fX12_stage M x) (fun r' => r.1 = r'.1 ∧ CX mn im r.2.1 r.2.2 nt fut tape tk T S r'.2)) := by
  obtain ⟨na, ng, nr, ns, h⟩ := h
  exact ok_mono (ok_al (stage_of h.told h.hall h.stp) stage_J) (fun r hr => ok_mono hr.1 (fun r' hr' => h.de hr' hr.2))
theorem q_change {mn im now sp nt fut tape tk : St} {T S : Nat → St} {M : St} {x y : Int32} (h : CX mn im now sp nt fut tape tk T S M) : ok (fX11_change mn now sp T x y) (fun r => ok (fX12_change M x y) (fun r' => r.1 = r'.1 ∧ CX mn im r.2.1 r.2.2 nt fut tape tk T S r'.2)) := by
  obtain ⟨na, ng, nr, ns, h⟩ := h
  exact ok_mono (ok_al (change_of h.told h.hall h.stp) change_J) (fun r hr => ok_mono hr.1 (fun r' hr' => h.de hr' hr.2))
theorem q_push {mn im now sp nt fut tape tk : St} {T S : Nat → St} {M : St} {x : Int32} (h : CX mn im now sp nt fut tape tk T S M) : ok (fX11_push mn now sp x) (fun r => ok (fX12_push M x) (fun r' => r.1 = r'.1 ∧ CX mn im r.2.1 r.2.2 nt fut tape tk T S r'.2)) := by
  obtain ⟨na, ng, nr, ns, h⟩ := h
  exact ok_mono (ok_al (push_of h.hall h.stp) push_J) (fun r hr => ok_mono hr.1 (fun r' hr' => h.de hr' hr.2))
theorem q_undo {mn im now sp nt fut tape tk : St} {T S : Nat → St} {M : St} (h : CX mn im now sp nt fut tape tk T S M) : ok (fX11_undo mn now sp ) (fun r => ok (fX12_undo M ) (fun r' => r.1 = r'.1 ∧ CX mn im r.2.1 r.2.2 nt fut tape tk T S r'.2)) := by
  obtain ⟨na, ng, nr, ns, h⟩ := h
  exact ok_mono (ok_al (undo_of h.hall h.stp) undo_J) (fun r hr => ok_mono hr.1 (fun r' hr' => h.de hr' hr.2))
theorem q_go {mn im now sp nt fut tape tk : St} {T S : Nat → St} {M : St} {ml nm : St} {x : Int32} (h : CX mn im now sp nt fut tape tk T S M) : ok (fX11_go mn ml nm now sp T x) (fun r => ok (fX12_go M x) (fun r' => r.1 = r'.1 ∧ CX mn im r.2.2.2.1 r.2.2.2.2.1 nt fut tape tk r.2.2.2.2.2 S r'.2)) := by
  obtain ⟨na, ng, nr, ns, h⟩ := h
  exact ok_mono (go_of h.told h.hall h.seed) (fun r hr => ok_mono hr (fun r' hr => h.go hr))
theorem q_keep {mn im now sp nt fut tape tk : St} {T S : Nat → St} {M : St} (h : CX mn im now sp nt fut tape tk T S M) : ok (fX11_keep mn now im) (fun r => ok (fX12_keep M) (fun r' => r.1 = r'.1 ∧ CX r.2.1 r.2.2 now sp nt fut tape tk T S r'.2)) := by
  obtain ⟨na, ng, nr, ns, h⟩ := h
  exact ok_mono (keep_q h.hall h.seed) (fun r hr => ok_mono hr (fun r' hr => h.kp hr))
theorem q_back {mn im now sp nt fut tape tk : St} {T S : Nat → St} {M : St} (h : CX mn im now sp nt fut tape tk T S M) : ok (fX11_back mn now im sp) (fun r => ok (fX12_back M) (fun r' => r.1 = r'.1 ∧ CX mn im r.2.1 r.2.2 nt fut tape tk T S r'.2)) := by
  obtain ⟨na, ng, nr, ns, h⟩ := h
  exact ok_mono (back_q h.img) (fun r hr => ok_mono hr (fun r' hr => h.bk hr))
theorem q_see {mn im now sp nt fut tape tk : St} {T S : Nat → St} {M : St} {x y z : Int32} (hz : z = 0 ∨ z = 1) (h : CX mn im now sp nt fut tape tk T S M) : ok (fX11_see mn nt x y z) (fun r => ok (fX12_see M x y z) (fun r' => r.1 = r'.1 ∧ CX mn im now sp r.2 fut tape tk T S r'.2)) := by
  obtain ⟨na, ng, nr, ns, h⟩ := h
  exact ok_mono (see_of h.nts hz) (fun r hr => ok_mono hr (fun r' hr => h.nt hr))
theorem q_strike {mn im now sp nt fut tape tk : St} {T S : Nat → St} {M : St} {x : Int32} (h : CX mn im now sp nt fut tape tk T S M) : ok (fX11_strike mn nt x) (fun r => ok (fX12_strike M x) (fun r' => r.1 = r'.1 ∧ CX mn im now sp r.2 fut tape tk T S r'.2)) := by
  obtain ⟨na, ng, nr, ns, h⟩ := h
  exact ok_mono (strike_of h.nts) (fun r hr => ok_mono hr (fun r' hr => h.nt hr))
theorem q_moods {mn im now sp nt fut tape tk : St} {T S : Nat → St} {M : St} {ml nm trial : St} {x : Int32} (h : CX mn im now sp nt fut tape tk T S M) : ok (fX11_moods mn fut ml nm trial nt T x) (fun r => ok (fX12_moods M x) (fun r' => r.1 = r'.1 ∧ CX r.2.1 im now sp r.2.2.2.2.2.2.1 r.2.2.1 tape tk r.2.2.2.2.2.2.2 S r'.2)) := by
  obtain ⟨na, ng, nr, ns, h⟩ := h
  exact ok_mono (moods_of h.told h.nts h.fut) (fun r hr => ok_mono hr (fun r' hr => h.mo' hr))
theorem q_ask {mn im now sp nt fut tape tk : St} {T S : Nat → St} {M : St} {ml nm trial : St} {x y : Int32} (h : CX mn im now sp nt fut tape tk T S M) : ok (fX11_ask mn fut ml nm trial nt T x y) (fun r => ok (fX12_ask M x y) (fun r' => r.1 = r'.1 ∧ CX r.2.1 im now sp r.2.2.2.2.2.2.1 r.2.2.1 tape tk r.2.2.2.2.2.2.2 S r'.2)) := by
  obtain ⟨na, ng, nr, ns, h⟩ := h
  exact ok_mono (ask_of h.told h.nts h.fut) (fun r hr => ok_mono hr (fun r' hr => h.mo' hr))
theorem q_fault {mn im now sp nt fut tape tk : St} {T S : Nat → St} {M : St} {x : Int32} (h : CX mn im now sp nt fut tape tk T S M) : fX11_fault mn x = (fX12_fault M x).1 ∧ CX mn im now sp nt fut tape tk T S (fX12_fault M x).2 := by
  obtain ⟨na, ng, nr, ns, h⟩ := h
  have k := fault_of (x := x) h.flt.1 h.flt.2
  exact ⟨k.1, h.q k.2 fT.rf⟩
theorem q_known {mn im now sp nt fut tape tk : St} {T S : Nat → St} {M : St} {x : Int32} (h : CX mn im now sp nt fut tape tk T S M) : (fX11_known mn nt x).1 = (fX12_known M x).1 ∧ CX mn im now sp (fX11_known mn nt x).2 fut tape tk T S (fX12_known M x).2 := by
  obtain ⟨na, ng, nr, ns, h⟩ := h
  exact h.nt (known_of h.nts)
theorem q_guest {mn im now sp nt fut tape tk : St} {T S : Nat → St} {M : St} {x y : Int32} (h : CX mn im now sp nt fut tape tk T S M) : ok (gC now T x y) (fun r => (r.1 = 0 ∨ r = (1, 0) ∨ r = (2, 0)) ∧ ok (fX12_guest M x y) (fun r' => gI r'.2 2 = r.1 ∧ (r.1 = 0 → r.2 = r'.1) ∧ CX mn im now sp nt fut tape tk T S r'.2)) := by
  obtain ⟨na, ng, nr, ns, h⟩ := h
  exact ok_mono (guest_of h.told h.hall) (fun r hr => ⟨hr.1, ok_mono hr.2 (fun r' hr => ⟨hr.1, hr.2.1, h.q hr.2.2 fT.rf⟩)⟩)
theorem q_text {mn im now sp nt fut tape tk rd ph : St} {T S : Nat → St} {M : St} {x : Int32} (h : CX mn im now sp nt fut tape tk T S M) : ok (fX11_text mn tape rd tk ph now sp nt S x) (fun r => ok (fX12_text M x) (fun r' => txR im fut tape T r r')) := by
  obtain ⟨na, ng, nr, ns, h⟩ := h
  exact text_of h
