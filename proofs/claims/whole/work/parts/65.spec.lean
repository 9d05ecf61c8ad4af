/-! PURE. What a code is: n octets o (0 behind its end). Words, lengths, places, goals. -/
def S4 (o : Nat → Nat) (p : Nat) : Int32 := (((nI (o p) <<< ((24 : Int32) &&& 31)) ||| (nI (o (p + 1)) <<< ((16 : Int32) &&& 31))) ||| (nI (o (p + 2)) <<< ((8 : Int32) &&& 31))) ||| nI (o (p + 3))
def S2 (o : Nat → Nat) (p : Nat) : Int32 := ((nI (o p) <<< ((8 : Int32) &&& 31)) ||| nI (o (p + 1))).toInt16.toInt32
/-- where the words of a switch at p begin -/
def wf (p : Nat) : Nat := p + 4 - p % 4
/-- how many entries a switch has -/
def swm (o : Nat → Nat) (p : Nat) : Int := if o p = 170 then (S4 o (wf p + 8)).toInt - (S4 o (wf p + 4)).toInt + 1 else (S4 o (wf p + 4)).toInt
def swl (o : Nat → Nat) (p : Nat) : Int := if o p = 170 then 1 else 0
def swb (o : Nat → Nat) (p : Nat) : Nat := if o p = 170 then 12 + 4 * (swm o p).toNat else 8 + 8 * (swm o p).toNat
def lnS (o : Nat → Nat) (p : Nat) : Nat := if swm o p < swl o p ∨ 20 < swm o p then 0 else 4 - p % 4 + swb o p
def lnW (k : Nat) : Nat := if k = 132 then 6 else if kLoc k = true then 4 else 0
def lnR (o : Nat → Nat) (p : Nat) : Nat := if kEx (o p) = true then (if o p = 196 then lnW (o (p + 1)) else if kSw (o p) = true then lnS o p else kPl (o p)) else 0
def ln (n : Nat) (o : Nat → Nat) (p : Nat) : Nat := if p + lnR o p ≤ n then lnR o p else 0
def pl (n : Nat) (o : Nat → Nat) : Nat → Nat
  | 0 => 0
  | i + 1 => pl n o i + ln n o (pl n o i)
/-- the code is N instructions, whole -/
def Cmp (n : Nat) (o : Nat → Nat) (N : Nat) : Prop := pl n o N = n ∧ ∀ i, i < N → 0 < ln n o (pl n o i)
/-- an instruction begins at p -/
def isSt (n : Nat) (o : Nat → Nat) (N p : Nat) : Prop := ∃ i, i < N ∧ pl n o i = p
theorem kPl_le (k : Nat) : 1 ≤ kPl k ∧ kPl k ≤ 5 := by
  unfold kPl
  split
  · omega
  · split
    · omega
    · split
      · omega
      · split <;> omega
theorem lnS_le (o : Nat → Nat) (p : Nat) : lnS o p ≤ 172 := by
  unfold lnS
  split
  · omega
  · rename_i h
    have h2 : ¬ 20 < swm o p := fun q => h (Or.inr q)
    unfold swb
    split <;> omega
theorem lnR_le (o : Nat → Nat) (p : Nat) : lnR o p ≤ 172 := by
  unfold lnR
  split
  · split
    · unfold lnW
      split
      · omega
      · split <;> omega
    · split
      · exact lnS_le o p
      · have := kPl_le (o p)
        omega
  · omega
theorem ln_end {n : Nat} {o : Nat → Nat} {p : Nat} (h : p ≤ n) : p + ln n o p ≤ n := by
  unfold ln
  split <;> omega
theorem ln_le (n : Nat) (o : Nat → Nat) (p : Nat) : ln n o p ≤ 172 := by
  unfold ln
  have := lnR_le o p
  split <;> omega
theorem ln_pos {n : Nat} {o : Nat → Nat} {p : Nat} (h : 0 < ln n o p) : p + ln n o p ≤ n ∧ ln n o p = lnR o p := by
  unfold ln at h ⊢
  split at h
  · rename_i h2
    rw [if_pos h2]
    exact ⟨h2, rfl⟩
  · omega
theorem pl_le (n : Nat) (o : Nat → Nat) : ∀ i, pl n o i ≤ n
  | 0 => Nat.zero_le n
  | i + 1 => ln_end (pl_le n o i)
theorem pl_ge {n : Nat} {o : Nat → Nat} : ∀ i, (∀ j, j < i → 0 < ln n o (pl n o j)) → i ≤ pl n o i
  | 0, _ => Nat.zero_le _
  | i + 1, h => by
    have h1 := pl_ge i (fun j hj => h j (by omega))
    have h2 := h i (by omega)
    show i + 1 ≤ pl n o i + ln n o (pl n o i)
    omega
theorem pl_mono {n : Nat} {o : Nat → Nat} {i : Nat} : ∀ j, i ≤ j → pl n o i ≤ pl n o j
  | 0, h => by rw [show i = 0 by omega]; exact Nat.le_refl _
  | j + 1, h => by
    rcases Nat.lt_or_ge j i with q | q
    · rw [show i = j + 1 by omega]; exact Nat.le_refl _
    · have := pl_mono (n := n) (o := o) j q
      show pl n o i ≤ pl n o j + ln n o (pl n o j)
      omega
theorem pl_lt {n : Nat} {o : Nat → Nat} {i j : Nat} (hij : i < j) (h : 0 < ln n o (pl n o i)) : pl n o i < pl n o j := by
  have h1 : pl n o (i + 1) ≤ pl n o j := pl_mono (n := n) (o := o) j hij
  have h2 : pl n o (i + 1) = pl n o i + ln n o (pl n o i) := rfl
  omega
section CMP
variable {n : Nat} {o : Nat → Nat} {N : Nat}
theorem Cmp.lt (h : Cmp n o N) {i : Nat} (hi : i < N) : pl n o i < n := by
  have := pl_lt hi (h.2 i hi)
  rw [h.1] at this
  exact this
theorem Cmp.le (h : Cmp n o N) : N ≤ n := by
  have := pl_ge N h.2
  rw [h.1] at this
  exact this
theorem Cmp.inj (h : Cmp n o N) {i j : Nat} (hi : i < N) (hj : j < N) (e : pl n o i = pl n o j) : i = j := by
  rcases Nat.lt_trichotomy i j with q | q | q
  · have := pl_lt q (h.2 i hi); omega
  · exact q
  · have := pl_lt q (h.2 j hj); omega
theorem Cmp.uniq (h : Cmp n o N) {M : Nat} (g : Cmp n o M) : N = M := by
  rcases Nat.lt_trichotomy N M with q | q | q
  · have := g.lt q; rw [h.1] at this; omega
  · exact q
  · have := h.lt q; rw [g.1] at this; omega
theorem Cmp.st_lt (h : Cmp n o N) {p : Nat} (hp : isSt n o N p) : p < n ∧ 0 < ln n o p := by
  obtain ⟨i, hi, rfl⟩ := hp
  exact ⟨h.lt hi, h.2 i hi⟩
end CMP
/-- the end is reached, or a place is found where no instruction is -/
theorem cmp_or (n : Nat) (o : Nat → Nat) : ∀ k, (∃ N, N ≤ k ∧ Cmp n o N) ∨ (∃ i, i < k ∧ (∀ j, j < i → 0 < ln n o (pl n o j)) ∧ pl n o i < n ∧ ln n o (pl n o i) = 0) ∨ ((∀ j, j < k → 0 < ln n o (pl n o j)) ∧ pl n o k < n) := by
  intro k
  induction k with
  | zero =>
    rcases Nat.eq_zero_or_pos n with h | h
    · exact Or.inl ⟨0, Nat.le_refl 0, h.symm ▸ rfl, fun i hi => absurd hi (by omega)⟩
    · exact Or.inr (Or.inr ⟨fun j hj => absurd hj (by omega), h⟩)
  | succ k ih =>
    rcases ih with ⟨N, h1, h2⟩ | ⟨i, h1, h2⟩ | ⟨h1, h2⟩
    · exact Or.inl ⟨N, by omega, h2⟩
    · exact Or.inr (Or.inl ⟨i, by omega, h2⟩)
    · rcases Nat.eq_zero_or_pos (ln n o (pl n o k)) with h | h
      · exact Or.inr (Or.inl ⟨k, by omega, h1, h2, h⟩)
      · have h3 : ∀ j, j < k + 1 → 0 < ln n o (pl n o j) := fun j hj => by
          rcases Nat.lt_or_ge j k with q | q
          · exact h1 j q
          · rw [show j = k by omega]; exact h
        rcases Nat.lt_or_ge (pl n o (k + 1)) n with q | q
        · exact Or.inr (Or.inr ⟨h3, q⟩)
        · exact Or.inl ⟨k + 1, Nat.le_refl _, Nat.le_antisymm (pl_le n o _) q, h3⟩
theorem cmp_dec (n : Nat) (o : Nat → Nat) : (∃ N, Cmp n o N) ∨ (∃ i, (∀ j, j < i → 0 < ln n o (pl n o j)) ∧ pl n o i < n ∧ ln n o (pl n o i) = 0) := by
  rcases cmp_or n o n with ⟨N, -, h⟩ | ⟨i, -, h⟩ | ⟨h1, h2⟩
  · exact Or.inl ⟨N, h⟩
  · exact Or.inr ⟨i, h⟩
  · exact absurd (pl_ge n h1) (by omega)
-- goals
def ng (o : Nat → Nat) (p : Nat) : Nat := if kSw (o p) = true then 1 + (swm o p).toNat else if kSJ (o p) = true ∨ o p = 200 then 1 else 0
/-- which word of a switch goal j is -/
def gw (o : Nat → Nat) (p j : Nat) : Nat := if j = 0 then 0 else if o p = 170 then 2 + j else 1 + 2 * j
def goal (o : Nat → Nat) (p j : Nat) : Int32 := if kSw (o p) = true then nI p + S4 o (wf p + 4 * gw o p j) else if o p = 200 then nI p + S4 o (p + 1) else nI p + S2 o (p + 1)
/-- how many words a switch has -/
def nw (o : Nat → Nat) (p : Nat) : Nat := if o p = 170 then 3 + (swm o p).toNat else 2 + 2 * (swm o p).toNat
/-- whether word w is a goal's -/
def isGw (o : Nat → Nat) (p w : Nat) : Bool := w == 0 || (decide (3 ≤ w) && (o p == 170 || w % 2 == 1))
