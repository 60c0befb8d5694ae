/-! what a function answers -/
def ok {α : Type} (x : Option α) (P : α → Prop) : Prop := ∃ a, x = some a ∧ P a
theorem ok_some {α : Type} {a : α} {P : α → Prop} (h : P a) : ok (some a) P := ⟨a, rfl, h⟩
theorem ok_lt {α β : Type} {v : α} {f : α → Option β} {P : β → Prop} (h : ok (f v) P) : ok (lt v f) P := h
theorem ok_bind {α β : Type} {x : Option α} {f : α → Option β} {P : β → Prop} (h : ok x (fun a => ok (f a) P)) : ok (x.bind f) P := by
  obtain ⟨a, e, h⟩ := h
  subst e
  exact h
theorem ok_mono {α : Type} {x : Option α} {P Q : α → Prop} (h : ok x P) (k : ∀ a, P a → Q a) : ok x Q := by
  obtain ⟨a, e, h⟩ := h
  exact ⟨a, e, k a h⟩
theorem ok_if {α : Type} {c : Prop} [Decidable c] {a b : Option α} {P : α → Prop} (ht : c → ok a P) (hf : ¬ c → ok b P) : ok (if c then a else b) P := by
  by_cases h : c
  · rw [if_pos h]; exact ht h
  · rw [if_neg h]; exact hf h
theorem ok_t {α : Type} {c : Prop} [Decidable c] {a b : Option α} {P : α → Prop} (h : c) (k : ok a P) : ok (if c then a else b) P := by rw [if_pos h]; exact k
theorem ok_f {α : Type} {c : Prop} [Decidable c] {a b : Option α} {P : α → Prop} (h : ¬ c) (k : ok b P) : ok (if c then a else b) P := by rw [if_neg h]; exact k
theorem ok_eq {α : Type} {x : Option α} {a : α} {P : α → Prop} (e : x = some a) (h : P a) : ok x P := ⟨a, e, h⟩
theorem ok_swap {α β : Type} {x : Option α} {y : Option β} {P : α → β → Prop} (h : ok x (fun a => ok y (fun b => P a b))) : ok y (fun b => ok x (fun a => P a b)) := by
  obtain ⟨a, e, b, e2, h⟩ := h
  exact ⟨b, e2, a, e, h⟩
theorem ok_el {α β γ : Type} {x : α ⊕ β} {f : α → Option γ} {g : β → Option γ} {P : γ → Prop} (hl : ∀ a, x = .inl a → ok (f a) P) (hr : ∀ b, x = .inr b → ok (g b) P) : ok (el x f g) P := by
  cases x with
  | inl a => exact hl a rfl
  | inr b => exact hr b rfl
theorem ok_bindx {α β : Type} {x : Option α} {a : α} {f : α → Option β} {P : β → Prop} (e : x = some a) (h : ok (f a) P) : ok (x.bind f) P := by subst e; exact h
theorem ok_get {α : Type} {x : Option α} {a : α} (h : ok x (fun b => b = a)) : x = some a := by
  obtain ⟨b, e, rfl⟩ := h
  exact e
theorem ox_el1 {α β γ : Type} (a : α) (f : α → γ) (g : β → γ) : el (.inl a) f g = f a := rfl
theorem ox_el2 {α β γ : Type} (b : β) (f : α → γ) (g : β → γ) : el (.inr b) f g = g b := rfl
/-! states -/
theorem gI_sI (u : St) (k j : Nat) (v : Int32) : gI (sI u k v) j = if j = k then v else gI u j := rfl
theorem gI_sIs (u : St) (k : Nat) (v : Int32) : gI (sI u k v) k = v := if_pos rfl
theorem gI_sIn (u : St) {k j : Nat} (v : Int32) (h : j ≠ k) : gI (sI u k v) j = gI u j := if_neg h
theorem gI_sJ (u : St) (k j : Nat) (v : Int64) : gI (sJ u k v) j = gI u j := rfl
theorem gI_sA (u : St) (r i j : Nat) (v : Int32) : gI (sA u r i v) j = gI u j := rfl
theorem gI_sB (u : St) (r i j : Nat) (v : Int64) : gI (sB u r i v) j = gI u j := rfl
theorem gJ_sI (u : St) (k j : Nat) (v : Int32) : gJ (sI u k v) j = gJ u j := rfl
theorem gJ_sJ (u : St) (k j : Nat) (v : Int64) : gJ (sJ u k v) j = if j = k then v else gJ u j := rfl
theorem gJ_sA (u : St) (r i j : Nat) (v : Int32) : gJ (sA u r i v) j = gJ u j := rfl
theorem gJ_sB (u : St) (r i j : Nat) (v : Int64) : gJ (sB u r i v) j = gJ u j := rfl
theorem gA_sI (u : St) (k : Nat) (v : Int32) (j i : Nat) : gA (sI u k v) j i = gA u j i := rfl
theorem gA_sJ (u : St) (k : Nat) (v : Int64) (j i : Nat) : gA (sJ u k v) j i = gA u j i := rfl
theorem gA_sB (u : St) (r k : Nat) (v : Int64) (j i : Nat) : gA (sB u r k v) j i = gA u j i := rfl
theorem gA_sA (u : St) (r k : Nat) (v : Int32) (j i : Nat) : gA (sA u r k v) j i = if j = r ∧ i = k then v else gA u j i := by
  unfold gA sA va_up
  by_cases h : j = r
  · subst h
    simp [upd]
  · simp [h]
theorem gA_same (u : St) (r k : Nat) (v : Int32) : gA (sA u r k v) r k = v := by rw [gA_sA, if_pos ⟨rfl, rfl⟩]
theorem gA_row (u : St) {r j : Nat} (k i : Nat) (v : Int32) (h : j ≠ r) : gA (sA u r k v) j i = gA u j i := by rw [gA_sA, if_neg (fun q => h q.1)]
theorem gA_idx (u : St) (r j : Nat) {k i : Nat} (v : Int32) (h : i ≠ k) : gA (sA u r k v) j i = gA u j i := by rw [gA_sA, if_neg (fun q => h q.2)]
theorem gB_sI (u : St) (k : Nat) (v : Int32) (j i : Nat) : gB (sI u k v) j i = gB u j i := rfl
theorem gB_sJ (u : St) (k : Nat) (v : Int64) (j i : Nat) : gB (sJ u k v) j i = gB u j i := rfl
theorem gB_sA (u : St) (r k : Nat) (v : Int32) (j i : Nat) : gB (sA u r k v) j i = gB u j i := rfl
theorem gB_sB (u : St) (r k : Nat) (v : Int64) (j i : Nat) : gB (sB u r k v) j i = if j = r ∧ i = k then v else gB u j i := by
  unfold gB sB va_up
  by_cases h : j = r
  · subst h
    simp [vp_updL]
  · simp [h]
theorem gA_vwA (u : St) (j i : Nat) : gA (vwA u j) 0 i = gA u j i := rfl
theorem gA_stA (u : St) (j : Nat) (f : Nat → Int32) (r i : Nat) : gA (stA u j f) r i = if r = j then f i else gA u r i := by
  unfold gA stA va_up
  by_cases h : r = j <;> simp [h]
theorem gI_stA (u : St) (j : Nat) (f : Nat → Int32) (k : Nat) : gI (stA u j f) k = gI u k := rfl
theorem gJ_stA (u : St) (j : Nat) (f : Nat → Int32) (k : Nat) : gJ (stA u j f) k = gJ u k := rfl
theorem gB_stA (u : St) (j : Nat) (f : Nat → Int32) (r i : Nat) : gB (stA u j f) r i = gB u r i := rfl
theorem vu_s {α : Type} (f : Nat → α) (k : Nat) (v : α) : va_up f k v k = v := if_pos rfl
theorem vu_n {α : Type} (f : Nat → α) {k j : Nat} (v : α) (h : j ≠ k) : va_up f k v j = f j := if_neg h
/-! numbers -/
theorem ck {i N : Nat} (h : i < N) (hN : N < 2 ^ 31) : ¬ (nI i < 0 ∨ N ≤ (nI i).toNatClampNeg) := nI_in h hN
theorem cl {i : Nat} (h : i < 2 ^ 31) : (nI i).toNatClampNeg = i := nI_clamp h
theorem n0 : (0 : Int32) = nI 0 := rfl
theorem i_lt (a b : Int32) : a < b ↔ a.toInt < b.toInt := Int32.lt_iff_toInt_lt
theorem i_le (a b : Int32) : a ≤ b ↔ a.toInt ≤ b.toInt := Int32.le_iff_toInt_le
theorem i_eq (a b : Int32) : a = b ↔ a.toInt = b.toInt := Int32.toInt_inj.symm
theorem l_lt (a b : Int64) : a < b ↔ a.toInt < b.toInt := Int64.lt_iff_toInt_lt
theorem l_le (a b : Int64) : a ≤ b ↔ a.toInt ≤ b.toInt := Int64.le_iff_toInt_le
theorem l_eq (a b : Int64) : a = b ↔ a.toInt = b.toInt := Int64.toInt_inj.symm
/-- an index between 0 and a size -/
theorem ix_of {a : Int32} {n : Nat} (h0 : ¬ a < 0) (h1 : ¬ nI n ≤ a) (hn : n < 2 ^ 31) : ∃ i, i < n ∧ a = nI i := by
  obtain ⟨j, hj, e⟩ := nI_of h0
  refine ⟨j, ?_, e⟩
  rcases Nat.lt_or_ge j n with q | q
  · exact q
  · exact absurd (by rw [e]; exact nI_le q (by omega)) h1
theorem nIi {i : Nat} (h : i < 2 ^ 31) : (nI i).toInt = (i : Int) := nI_toInt h
theorem nI_inj {a b : Nat} (ha : a < 2 ^ 31) (hb : b < 2 ^ 31) (h : nI a = nI b) : a = b := (nI_eq ha hb).mp h
theorem nI_nn {i : Nat} (h : i < 2 ^ 31) : nI i ≠ -1 := by
  intro q
  have := congrArg Int32.toInt q
  rw [nIi h] at this
  have e : (-1 : Int32).toInt = -1 := by decide
  omega
theorem fuel_eq : fuel = 1000 := rfl
theorem nI_sub1 {i : Nat} : nI (i + 1) - 1 = nI i := nI_pred i
theorem nI_m1 {i : Nat} : nI (i + 1) + (-1) = nI i := pk_m1 i
