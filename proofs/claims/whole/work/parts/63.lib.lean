/-! PURE. Rows that all later ones use: branches as if, numbers, states. -/
theorem wp_if {c A B : Prop} [Decidable c] : ((c → A) ∧ (¬ c → B)) ↔ (if c then A else B) := by
  by_cases h : c <;> simp [h]
theorem wp_ifn {c A B : Prop} [Decidable c] : ((¬ c → A) ∧ (c → B)) ↔ (if c then B else A) := by
  by_cases h : c <;> simp [h]
theorem post_ite {α β : Type} {c : Prop} [Decidable c] {P : α → β → Prop} {u v : α} {s : β} : P (if c then u else v) s ↔ (if c then P u s else P v s) := by
  by_cases h : c <;> simp [h]
theorem nar0 : (narrow .boolean (.int (0 : Int32)) = .int (0 : Int32)) = True := eq_true rfl
theorem nar1 : (narrow .boolean (.int (1 : Int32)) = .int (1 : Int32)) = True := eq_true rfl
/-- a truth as an int -/
def bI (b : Bool) : Int32 := if b then 1 else 0
theorem bI_t : bI true = 1 := rfl
theorem bI_f : bI false = 0 := rfl
theorem bI_0 {b : Bool} : bI b = 0 ↔ b = false := by cases b <;> decide
theorem bI_nar (b : Bool) : vp_nar .boolean (bI b) = bI b := by cases b <;> rfl
theorem bI_nar2 (b : Bool) : narrow .boolean (.int (bI b)) = .int (bI b) := by cases b <;> rfl
theorem bI_inj {a b : Bool} (h : bI a = bI b) : a = b := by cases a <;> cases b <;> simp [bI] at h <;> rfl
theorem nar_0 : vp_nar .boolean 0 = 0 := rfl
theorem nar_1 : vp_nar .boolean 1 = 1 := rfl
theorem all_of {N : Nat} {P : Nat → Prop} [DecidablePred P] (h : (List.range N).all (fun i => decide (P i)) = true) : ∀ i, i < N → P i := fun _ hi => co_dec h hi
-- states
theorem su_at (s : St) (r k : Nat) (x : Int32) : su s r k x r k = x := by simp [su, upd]
theorem su_ne (s : St) (r k j : Nat) (x : Int32) (h : j ≠ k) : su s r k x r j = s r j := by simp [su, upd, h]
theorem su_row (s : St) (r q k : Nat) (x : Int32) (h : q ≠ r) : su s r k x q = s q := by simp [su, h]
theorem su_get (s : St) (r q k j : Nat) (x : Int32) : su s r k x q j = if q = r ∧ j = k then x else s q j := by
  by_cases h : q = r
  · subst h
    by_cases h2 : j = k <;> simp [su, upd, h2]
  · simp [su, h]
/-- what stays: all rows but these, all places of the row of scalars but these -/
def Keep (sc : Nat) (rows scs : List Nat) (s t : St) : Prop := (∀ r, r ∉ rows → r ≠ sc → t r = s r) ∧ ∀ k, k ∉ scs → t sc k = s sc k
theorem Keep.rf {sc : Nat} {rows scs : List Nat} {s : St} : Keep sc rows scs s s := ⟨fun _ _ _ => rfl, fun _ _ => rfl⟩
theorem Keep.tr {sc : Nat} {rows scs : List Nat} {s t u : St} (h : Keep sc rows scs s t) (g : Keep sc rows scs t u) : Keep sc rows scs s u := ⟨fun r h1 h2 => (g.1 r h1 h2).trans (h.1 r h1 h2), fun k hk => (g.2 k hk).trans (h.2 k hk)⟩
theorem Keep.mono {sc : Nat} {rows scs rows' scs' : List Nat} {s t : St} (h : Keep sc rows scs s t) (h1 : ∀ r ∈ rows, r ∈ rows') (h2 : ∀ k ∈ scs, k ∈ scs') : Keep sc rows' scs' s t := ⟨fun r q => h.1 r (fun z => q (h1 r z)), fun k q => h.2 k (fun z => q (h2 k z))⟩
theorem Keep.arr {sc : Nat} {rows scs : List Nat} {s t : St} {r k : Nat} {x : Int32} (h : Keep sc rows scs s t) (hr : r ∈ rows) (hs : r ≠ sc) : Keep sc rows scs s (su t r k x) := ⟨fun q h1 h2 => by
    rw [su_row _ _ _ _ _ (fun e => h1 (by rw [e]; exact hr))]
    exact h.1 q h1 h2, fun q h1 => by
    rw [su_row _ _ _ _ _ (Ne.symm hs)]
    exact h.2 q h1⟩
theorem Keep.scal {sc : Nat} {rows scs : List Nat} {s t : St} {k : Nat} {x : Int32} (h : Keep sc rows scs s t) (hk : k ∈ scs) : Keep sc rows scs s (su t sc k x) := ⟨fun q h1 h2 => by
    rw [su_row _ _ _ _ _ h2]
    exact h.1 q h1 h2, fun q h1 => by
    rw [su_ne _ _ _ _ _ (fun e => h1 (by rw [e]; exact hk))]
    exact h.2 q h1⟩
-- a loop's start
theorem itr_go {α : Type} {F : (α → Prop) → α → Prop} (I : α → Prop) (μ : α → Nat) (a : α) (h : I a) (hs : ∀ (K : α → Prop) (a : α), I a → (∀ b, I b → μ b < μ a → K b) → F K a) : ∃ n, itr F n a := ⟨μ a + 1, itr_ind F I μ hs (μ a + 1) a h (by omega)⟩
-- numbers
theorem nI_lt' {a b : Nat} (ha : a < 2 ^ 31) (hb : b < 2 ^ 31) : nI a < nI b ↔ a < b := nI_ltI ha hb
theorem nI_le' {a b : Nat} (ha : a < 2 ^ 31) (hb : b < 2 ^ 31) : nI a ≤ nI b ↔ a ≤ b := nI_leI ha hb
theorem nI_inj {a b : Nat} (ha : a < 2 ^ 31) (hb : b < 2 ^ 31) (h : nI a = nI b) : a = b := (nI_eq ha hb).mp h
theorem toInt_add {a b : Int32} (h1 : -(2 ^ 31) ≤ a.toInt + b.toInt) (h2 : a.toInt + b.toInt < 2 ^ 31) : (a + b).toInt = a.toInt + b.toInt := by
  rw [Int32.toInt_add, Int.bmod_eq_of_le (by omega) (by omega)]
theorem toInt_sub {a b : Int32} (h1 : -(2 ^ 31) ≤ a.toInt - b.toInt) (h2 : a.toInt - b.toInt < 2 ^ 31) : (a - b).toInt = a.toInt - b.toInt := by
  rw [Int32.toInt_sub, Int.bmod_eq_of_le (by omega) (by omega)]
/-- an Int32 that lies between two numbers is one of them -/
theorem nI_btw {x : Int32} {n : Nat} (h0 : ¬ x < 0) (h : x ≤ nI n) (hn : n < 2 ^ 31) : ∃ k, k ≤ n ∧ x = nI k := nI_of2 (M := nI n) (nI_toInt hn) h0 h
