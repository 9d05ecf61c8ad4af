/-! PURE. The class reads its instructions. -/
def stB (n : Nat) (o : Nat → Nat) (i p : Nat) : Bool := (List.range i).any (fun j => pl n o j == p)
def Ls (n : Nat) (o : Nat → Nat) (i p : Nat) : Nat := if stB n o i p = true then ln n o p else 0
section RD
variable {n : Nat} {o : Nat → Nat}
theorem stB_iff {i p : Nat} : stB n o i p = true ↔ ∃ j, j < i ∧ pl n o j = p := by
  unfold stB
  rw [List.any_eq_true]
  constructor
  · rintro ⟨j, h1, h2⟩
    exact ⟨j, List.mem_range.mp h1, by simpa using h2⟩
  · rintro ⟨j, h1, h2⟩
    exact ⟨j, List.mem_range.mpr h1, by simpa using h2⟩
theorem stB_s {i p : Nat} : stB n o (i + 1) p = (stB n o i p || pl n o i == p) := by
  unfold stB
  rw [List.range_succ, List.any_append]
  simp
theorem stB_0 {p : Nat} : stB n o 0 p = false := rfl
theorem stB_f {i p : Nat} (h : ∀ j, j < i → pl n o j ≠ p) : stB n o i p = false := by
  cases e : stB n o i p
  · rfl
  · obtain ⟨j, h1, h2⟩ := stB_iff.mp e
    exact absurd h2 (h j h1)
theorem Ls_le (i p : Nat) : Ls n o i p ≤ 172 := by
  unfold Ls
  have := ln_le n o p
  split <;> omega
theorem not_cmp {i : Nat} (h1 : ∀ j, j < i → 0 < ln n o (pl n o j)) (h2 : pl n o i < n) (h3 : ln n o (pl n o i) = 0) : ¬ ∃ N, Cmp n o N := by
  rintro ⟨N, hN⟩
  rcases Nat.lt_or_ge i N with q | q
  · have := hN.2 i q; omega
  · have := pl_mono (n := n) (o := o) i q
    rw [hN.1] at this
    omega
theorem X_readInstructions {s : St} {Post : Int32 → St → Prop} (h : CX s n o) (h5 : ∀ p, p ≤ 200 → s 5 p = 0) (h12 : ∀ p, p ≤ 200 → s 12 p = 0) (hi : s 15 5 = 0)
    (kbad : ∀ s', (¬ ∃ N, 0 < N ∧ Cmp n o N) → Keep 15 [4, 5, 12] [5] s s' → Post 0 s')
    (kok : ∀ s' N, Cmp n o N → 0 < N → Keep 15 [4, 5, 12] [5] s s' → s' 15 5 = nI N → (∀ i, i < N → s' 4 i = nI (pl n o i)) → (∀ p, p ≤ 200 → s' 5 p = nI (Ls n o N p)) → (∀ p, p ≤ 200 → s' 12 p = bI (stB n o N p && o p == 200)) → Post 1 s') : x_Layout_readInstructions s Post := by
  unfold x_Layout_readInstructions x_Layout_readInstructions_4
  refine itr_go (fun a => ∃ i, (∀ j, j < i → 0 < ln n o (pl n o j)) ∧ a.2.1 = nI (pl n o i) ∧ a.2.2 = nI i ∧ Keep 15 [4, 5, 12] [5] s a.1 ∧ a.1 15 5 = nI i ∧ (∀ j, j < i → a.1 4 j = nI (pl n o j)) ∧ (∀ p, p ≤ 200 → a.1 5 p = nI (Ls n o i p)) ∧ (∀ p, p ≤ 200 → a.1 12 p = bI (stB n o i p && o p == 200))) (fun a => 201 - a.2.2.toNatClampNeg) _ ?_ ?_
  · exact ⟨0, fun j hj => absurd hj (by omega), rfl, rfl, Keep.rf, hi, fun j hj => absurd hj (by omega), fun p hp => h5 p hp, fun p hp => h12 p hp⟩
  · rintro K ⟨s', x1, x2⟩ ⟨i, g1, g2, g3, g4, g5, g6, g7, g8⟩ hK
    dsimp only at g2 g3 g4 g5 g6 g7 g8 hK ⊢
    subst g2 g3
    have hC : CX s' n o := h.keep (g4.1 0 (by decide) (by decide)) (g4.2 1 (by decide))
    have hn := h.1
    have hpl := pl_le n o i
    have hge := pl_ge i g1
    have fin : n ≤ pl n o i → x_Layout_readInstructions_103 Post s' := by
      intro q
      have hc : Cmp n o i := ⟨by omega, g1⟩
      unfold x_Layout_readInstructions_103
      rw [g5]
      refine wple i 0 rfl rfl (by omega) (by omega) (fun e => ⟨rfl, kbad s' ?_ g4⟩) (fun e => ⟨rfl, kok s' i hc (by omega) g4 g5 g6 g7 g8⟩)
      rintro ⟨N, hN, hc2⟩
      have := hc.uniq hc2
      omega
    unfold x_Layout_readInstructions_4F
    refine wple 200 i rfl rfl (by omega) (by omega) (fun e => fin (by omega)) (fun e => ?_)
    rw [hC.2.1]
    refine wple n (pl n o i) rfl rfl (by omega) (by omega) fin (fun e2 => ?_)
    refine X_lengthAt hC (by omega) ?_
    refine ⟨vp_in_nI (by omega) (by omega), ?_⟩
    rintro s6 rfl
    rw [nI_clamp (show pl n o i < 2 ^ 31 by omega)]
    refine ⟨vp_in_nI (by omega) (by omega), ?_⟩
    rw [su_at]
    have hl := ln_le n o (pl n o i)
    refine wpeqn (ln n o (pl n o i)) 0 rfl rfl (by omega) (by omega) (fun e3 => ?_) (fun e3 => ⟨rfl, kbad _ (fun ⟨N, _, hN⟩ => not_cmp g1 (by omega) e3 ⟨N, hN⟩) (g4.arr (by decide) (by decide))⟩)
    have hC2 : CX (su s' 5 (pl n o i) (nI (ln n o (pl n o i)))) n o := hC.keep rfl rfl
    refine X_u1 hC2 (by omega) ?_
    have ho := h.2.2.2.2 (pl n o i)
    have hnew : ∀ j, j < i → pl n o j ≠ pl n o i := fun j hj => Nat.ne_of_lt (pl_lt hj (g1 j hj))
    have key : x_Layout_readInstructions_73 (fun s x1 x2 => K (s, x1, x2)) Post (su s' 5 (pl n o i) (nI (ln n o (pl n o i)))) (nI i) (nI (pl n o i)) (bI (o (pl n o i) == 200)) (nI (pl n o i)) := by
      unfold x_Layout_readInstructions_73
      refine ⟨vp_in_nI (by omega) (by omega), ?_⟩
      rintro s13 rfl
      refine ⟨vp_in_nI (by omega) (by omega), ?_⟩
      rintro s15 rfl s16 rfl
      refine ⟨vp_in_nI (by omega) (by omega), ?_⟩
      rintro v rfl v2 rfl
      rw [nI_clamp (show pl n o i < 2 ^ 31 by omega), nI_clamp (show i < 2 ^ 31 by omega), bI_nar]
      refine hK _ ⟨i + 1, fun j hj => ?_, ?_, nI_1 i, ?_, ?_, fun j hj => ?_, fun p hp => ?_, fun p hp => ?_⟩ ?_
      · rcases Nat.lt_or_ge j i with q | q
        · exact g1 j q
        · rw [show j = i by omega]; omega
      · show nI (pl n o i) + _ = _
        rw [su_row _ _ _ _ _ (by decide), su_row _ _ _ _ _ (by decide), su_row _ _ _ _ _ (by decide), su_at, nI_add]
        rfl
      · exact (((g4.arr (by decide) (by decide)).arr (by decide) (by decide)).arr (by decide) (by decide)).scal (by decide)
      · dsimp only
        rw [su_at]
        exact nI_1 i
      · dsimp only
        rw [su_row _ _ _ _ _ (by decide)]
        by_cases e : j = i
        · rw [e, su_at]
        · rw [su_ne _ _ _ _ _ e, su_row _ _ _ _ _ (by decide), su_row _ _ _ _ _ (by decide)]
          exact g6 j (by omega)
      · dsimp only
        rw [su_row _ _ _ _ _ (by decide), su_row _ _ _ _ _ (by decide), su_row _ _ _ _ _ (by decide)]
        by_cases e : p = pl n o i
        · subst e
          rw [su_at]
          unfold Ls
          rw [if_pos (by rw [stB_s]; simp)]
        · rw [su_ne _ _ _ _ _ e, g7 p hp]
          unfold Ls
          rw [stB_s, show (pl n o i == p) = false by simpa using Ne.symm e, Bool.or_false]
      · dsimp only
        rw [su_row _ _ _ _ _ (by decide), su_row _ _ _ _ _ (by decide)]
        by_cases e : p = pl n o i
        · subst e
          rw [su_at, stB_s]
          simp
        · rw [su_ne _ _ _ _ _ e, su_row _ _ _ _ _ (by decide), g8 p hp, stB_s, show (pl n o i == p) = false by simpa using Ne.symm e, Bool.or_false]
      · show 201 - (nI i + 1).toNatClampNeg < 201 - (nI i).toNatClampNeg
        rw [nI_1, nI_clamp (by omega), nI_clamp (by omega)]
        omega
    refine wpeqn (o (pl n o i)) 200 rfl rfl (by omega) (by omega) (fun e4 => ?_) (fun e4 => ?_)
    · rw [show (o (pl n o i) == 200) = false by simpa using e4] at key
      exact key
    · rw [show (o (pl n o i) == 200) = true by simpa using e4] at key
      exact key
end RD
