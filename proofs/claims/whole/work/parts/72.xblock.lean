/-! PURE. Blocks and their costs, by the instructions' numbers: B says where one begins, P what an instruction costs. -/
def bs (B : Nat → Bool) : Nat → Nat
  | 0 => 0
  | i + 1 => if B (i + 1) = true then i + 1 else bs B i
def cb (B : Nat → Bool) (P : Nat → Nat) : Nat → Nat → Nat
  | 0, _ => 0
  | m + 1, b => cb B P m b + (if bs B m = b then P m else 0)
def nb (B : Nat → Bool) : Nat → Nat
  | 0 => 0
  | i + 1 => nb B i + (if B i = true then 1 else 0)
def sm (P : Nat → Nat) : Nat → Nat
  | 0 => 0
  | i + 1 => sm P i + P i
section BL
variable {B : Nat → Bool} {P : Nat → Nat}
theorem bs_le : ∀ i, bs B i ≤ i
  | 0 => Nat.le_refl 0
  | i + 1 => by
    have := bs_le i
    unfold bs
    split <;> omega
theorem bs_B (h0 : B 0 = true) : ∀ i, B (bs B i) = true
  | 0 => h0
  | i + 1 => by
    unfold bs
    split
    · assumption
    · exact bs_B h0 i
theorem bs_of (h0 : B 0 = true) {i : Nat} (h : B i = true) : bs B i = i := by
  cases i with
  | zero => rfl
  | succ i => exact if_pos h
theorem cb_hi : ∀ m b, m ≤ b → cb B P m b = 0
  | 0, _, _ => rfl
  | m + 1, b, h => by
    have h1 := cb_hi m b (by omega)
    have h2 := bs_le (B := B) m
    unfold cb
    rw [h1, if_neg (by omega)]
theorem cb_le {c : Nat} (hP : ∀ i, P i ≤ c) : ∀ m b, cb B P m b ≤ c * m
  | 0, _ => Nat.zero_le _
  | m + 1, b => by
    have h1 := cb_le hP m b
    have h2 := hP m
    unfold cb
    rw [Nat.mul_succ]
    split <;> omega
theorem sm_le {c : Nat} (hP : ∀ i, P i ≤ c) : ∀ m, sm P m ≤ c * m
  | 0 => Nat.zero_le _
  | m + 1 => by
    have h1 := sm_le hP m
    have h2 := hP m
    unfold sm
    rw [Nat.mul_succ]
    omega
theorem nb_le : ∀ m, nb B m ≤ m
  | 0 => Nat.le_refl 0
  | m + 1 => by
    have h1 := nb_le m
    unfold nb
    split <;> omega
end BL
section SB
variable {n : Nat} {o : Nat → Nat} {N : Nat} {s : St} {Post : St → Prop} {c : Nat → Nat} {z : Nat → Bool}
theorem st_op {p : Nat} (h : 0 < ln n o p) : kEx (o p) = true ∧ o p ≤ 200 ∧ (o p = 196 → o (p + 1) ≤ 200) := by
  obtain ⟨-, h2⟩ := ln_pos h
  rw [h2] at h
  unfold lnR at h
  by_cases e : kEx (o p) = true
  · rw [if_pos e] at h
    refine ⟨e, ?_, fun e2 => ?_⟩
    · simp [kEx] at e
      omega
    · rw [if_pos e2] at h
      unfold lnW at h
      by_cases c1 : o (p + 1) = 132
      · omega
      · rw [if_neg c1] at h
        by_cases c2 : kLoc (o (p + 1)) = true
        · simp [kLoc] at c2
          omega
        · rw [if_neg c2] at h
          omega
  · rw [if_neg e] at h
    omega
/-- the class's costs -/
def KX (s : St) (c : Nat → Nat) : Prop := (∀ j, j ≤ 200 → s 2 j = nI (c j)) ∧ ∀ j, c j ≤ 99
def pr (o c : Nat → Nat) (p : Nat) : Nat := c (if o p = 196 then o (p + 1) else o p)
def bB (n : Nat) (o : Nat → Nat) (z : Nat → Bool) (i : Nat) : Bool := i == 0 || kEnd (o (pl n o (i - 1))) || z (pl n o i)
def pP (n : Nat) (o c : Nat → Nat) (i : Nat) : Nat := pr o c (pl n o i)
theorem X_sumBlocks (h : CX s n o) (hc : Cmp n o N) (hN : s 15 5 = nI N) (h4 : ∀ i, i < N → s 4 i = nI (pl n o i)) (hk : KX s c) (h7 : ∀ q, q ≤ 200 → s 7 q = if z q = true then 0 else -1) (h6 : s 15 6 = 0) (h9 : s 15 9 = 0)
    (k : ∀ s', Keep 15 [7] [6, 9] s s' → (∀ i, i < N → s' 7 (pl n o i) = if bB n o z i = true then nI (cb (bB n o z) (pP n o c) N i) else -1) → s' 15 6 = nI (nb (bB n o z) N) → s' 15 9 = nI (sm (pP n o c) N) → Post s') : x_Layout_sumBlocks s Post := by
  have hn := h.1
  have hNn := hc.le
  have hB0 : bB n o z 0 = true := rfl
  have hP99 : ∀ i, pP n o c i ≤ 99 := fun i => hk.2 _
  unfold x_Layout_sumBlocks x_Layout_sumBlocks_6
  refine itr_go (fun a => ∃ i, i ≤ N ∧ a.2.1 = nI (if i = 0 then 0 else pl n o (bs (bB n o z) (i - 1))) ∧ a.2.2.1 = bI (i == 0 || kEnd (o (pl n o (i - 1)))) ∧ a.2.2.2 = nI i ∧ Keep 15 [7] [6, 9] s a.1 ∧ (∀ k, k < i → a.1 7 (pl n o k) = if bB n o z k = true then nI (cb (bB n o z) (pP n o c) i k) else -1) ∧ (∀ q, q ≤ 200 → (∀ k, k < i → pl n o k ≠ q) → a.1 7 q = s 7 q) ∧ a.1 15 6 = nI (nb (bB n o z) i) ∧ a.1 15 9 = nI (sm (pP n o c) i)) (fun a => 201 - a.2.2.2.toNatClampNeg) _ ?_ ?_
  · exact ⟨0, by omega, rfl, rfl, rfl, Keep.rf, fun k hk => absurd hk (by omega), fun _ _ _ => rfl, h6, h9⟩
  · rintro K ⟨s', x1, x2, x3⟩ ⟨i, g1, g2, g3, g4, g5, g6, g7, g8, g9⟩ hK
    dsimp only at g2 g3 g4 g5 g6 g7 g8 g9 hK ⊢
    subst g2 g3 g4
    have hC : CX s' n o := h.keep (g5.1 0 (by decide) (by decide)) (g5.2 1 (by decide))
    unfold x_Layout_sumBlocks_6F
    rw [g5.2 5 (by decide), hN]
    refine wple N i rfl rfl (by omega) (by omega) (fun e => ?_) (fun e => ?_)
    · have : i = N := by omega
      subst this
      exact k s' g5 g6 g8 g9
    · refine ⟨vp_in_nI (by omega) (by omega), ?_⟩
      intro v hv
      rw [nI_clamp (by omega), g5.1 4 (by decide) (by decide), h4 i (by omega)] at hv
      subst hv
      have hpl := hc.lt (show i < N by omega)
      have hln := hc.2 i (by omega)
      obtain ⟨-, op1, op2⟩ := st_op hln
      have ho := h.2.2.2.2 (pl n o i)
      have hnew : ∀ j, j < i → pl n o j ≠ pl n o i := fun j hj => Nat.ne_of_lt (pl_lt hj (hc.2 j (by omega)))
      have h7i : s' 7 (pl n o i) = if z (pl n o i) = true then 0 else -1 := by rw [g7 _ (by omega) hnew]; exact h7 _ (by omega)
      have hcb := cb_le (B := bB n o z) hP99 i
      have hsm := sm_le hP99 i
      have hnb := nb_le (B := bB n o z) i
      -- the cost is added to the block b
      have add : ∀ s'', Keep 15 [7] [6, 9] s s'' → s'' 0 = s' 0 → s'' 15 9 = s' 15 9 → s'' 15 6 = nI (nb (bB n o z) (i + 1)) → (∀ k, k < i → s'' 7 (pl n o k) = s' 7 (pl n o k)) → (∀ q, q ≤ 200 → q ≠ pl n o i → s'' 7 q = s' 7 q) → s'' 7 (pl n o i) = (if bB n o z i = true then 0 else -1) → x_Layout_sumBlocks_68 (fun s x1 x2 x3 => K (s, x1, x2, x3)) Post s'' (nI (pl n o (bs (bB n o z) i))) (nI i) (nI (pl n o i)) (nI (o (pl n o i))) := by
        intro s'' a1 a0 a9 a6 a7 a7q a7i
        have hb1 : bs (bB n o z) i ≤ i := bs_le i
        have hb2 : pl n o (bs (bB n o z) i) ≤ 200 := by have := pl_le n o (bs (bB n o z) i); omega
        have hC2 : CX s'' n o := hC.keep a0 (by rw [a1.2 1 (by decide), g5.2 1 (by decide)])
        -- what stands at the block's place now
        have cur : s'' 7 (pl n o (bs (bB n o z) i)) = nI (cb (bB n o z) (pP n o c) i (bs (bB n o z) i)) := by
          rcases Nat.lt_or_ge (bs (bB n o z) i) i with q | q
          · rw [a7 _ q, g6 _ q, if_pos (bs_B hB0 i)]
          · have hbe : bs (bB n o z) i = i := by omega
            rw [hbe, a7i, if_pos (by have := bs_B hB0 i; rw [hbe] at this; exact this), cb_hi _ _ (Nat.le_refl i)]
            rfl
        have go : ∀ w, w ≤ 200 → c w = pP n o c i → x_Layout_sumBlocks_99 (fun s x1 x2 x3 => K (s, x1, x2, x3)) Post s'' (nI (pl n o (bs (bB n o z) i))) (nI i) (nI (o (pl n o i))) (nI w) := by
          intro w hw hcw
          unfold x_Layout_sumBlocks_99
          refine ⟨vp_in_nI (by omega) (by omega), ?_⟩
          intro v hv
          rw [nI_clamp (by omega), a1.1 2 (by decide) (by decide), hk.1 w hw, hcw] at hv
          subst hv
          refine ⟨vp_in_nI (by omega) (by omega), vp_in_nI (by omega) (by omega), ?_⟩
          rintro s16 rfl s17 rfl
          rw [nI_clamp (show pl n o (bs (bB n o z) i) < 2 ^ 31 by omega), cur, nI_add, su_row _ _ _ _ _ (by decide), a9, g9, nI_add]
          refine XK_endsBlock ho ?_
          rintro v rfl
          refine hK _ ⟨i + 1, by omega, ?_, ?_, nI_1 i, ?_, fun k hk => ?_, fun q hq hg => ?_, ?_, ?_⟩ ?_
          · rw [if_neg (by omega), Nat.add_sub_cancel]
          · rw [Nat.add_sub_cancel]
            simp
          · exact (a1.arr (by decide) (by decide)).scal (by decide)
          · dsimp only
            rw [su_row _ _ _ _ _ (by decide)]
            by_cases ck : k = bs (bB n o z) i
            · rw [ck, su_at, if_pos (bs_B hB0 i)]
              show _ = nI (cb (bB n o z) (pP n o c) i (bs (bB n o z) i) + (if bs (bB n o z) i = bs (bB n o z) i then pP n o c i else 0))
              rw [if_pos rfl]
            · have hne : pl n o k ≠ pl n o (bs (bB n o z) i) := fun e2 => ck (hc.inj (by omega) (by omega) e2)
              rw [su_ne _ _ _ _ _ hne]
              have hcbk : cb (bB n o z) (pP n o c) (i + 1) k = cb (bB n o z) (pP n o c) i k := by
                show cb (bB n o z) (pP n o c) i k + (if bs (bB n o z) i = k then pP n o c i else 0) = _
                rw [if_neg (Ne.symm ck)]
                rfl
              rw [hcbk]
              rcases Nat.lt_or_ge k i with q | q
              · rw [a7 k q]
                exact g6 k q
              · have ek : k = i := by omega
                subst ek
                rw [a7i, cb_hi _ _ (Nat.le_refl k)]
                rfl
          · dsimp only
            rw [su_row _ _ _ _ _ (by decide), su_ne _ _ _ _ _ (Ne.symm (hg _ (by omega))), a7q q hq (Ne.symm (hg i (by omega)))]
            exact g7 q hq (fun k hk => hg k (by omega))
          · dsimp only
            rw [su_ne _ _ _ _ _ (by decide), su_row _ _ _ _ _ (by decide), a6]
          · dsimp only
            rw [su_at]
            rfl
          · show 201 - (nI i + 1).toNatClampNeg < 201 - (nI i).toNatClampNeg
            rw [nI_1, nI_clamp (by omega), nI_clamp (by omega)]
            omega
        unfold x_Layout_sumBlocks_68
        refine wpeqn (o (pl n o i)) 196 rfl rfl (by omega) (by omega) (fun e1 => go _ op1 ?_) (fun e1 => ?_)
        · unfold pP pr
          rw [if_neg e1]
        · rw [show nI (pl n o i) + 1 = nI (pl n o i + 1) from nI_1 _]
          refine X_u1 hC2 (by omega) (go _ (op2 e1) ?_)
          unfold pP pr
          rw [if_pos e1]
      have begin_ : bB n o z i = true → x_Layout_sumBlocks_47 (fun s x1 x2 x3 => K (s, x1, x2, x3)) Post s' (nI i) (nI (pl n o i)) (nI (o (pl n o i))) := by
        intro hB
        unfold x_Layout_sumBlocks_47
        refine ⟨vp_in_nI (by omega) (by omega), ?_⟩
        rintro s22 rfl s23 rfl
        have hbs := bs_of hB0 hB
        have := add (su (su s' 7 (nI (pl n o i)).toNatClampNeg 0) 15 6 (su s' 7 (nI (pl n o i)).toNatClampNeg 0 15 6 + 1)) ((g5.arr (by decide) (by decide)).scal (by decide)) rfl rfl ?_ ?_ ?_ ?_
        · rw [hbs] at this
          exact this
        · rw [su_at, su_row _ _ _ _ _ (by decide), g8]
          show nI (nb (bB n o z) i) + 1 = nI (nb (bB n o z) i + (if bB n o z i = true then 1 else 0))
          rw [if_pos hB]
          exact nI_1 _
        · intro k hk
          rw [su_row _ _ _ _ _ (by decide), nI_clamp (by omega), su_ne _ _ _ _ _ (hnew k hk)]
        · intro q hq hne
          rw [su_row _ _ _ _ _ (by decide), nI_clamp (by omega), su_ne _ _ _ _ _ hne]
        · rw [su_row _ _ _ _ _ (by decide), nI_clamp (by omega), su_at, if_pos hB]
      refine X_u1 hC (by omega) (wpbn (fun e1 => begin_ (by simp only [bB, e1, Bool.true_or])) (fun e1 => ⟨vp_in_nI (by omega) (by omega), ?_⟩))
      have hi0 : i ≠ 0 := by
        intro e2
        rw [e2] at e1
        cases e1
      have hBz : bB n o z i = z (pl n o i) := by
        unfold bB
        rw [e1, Bool.false_or]
      rw [nI_clamp (show pl n o i < 2 ^ 31 by omega), h7i]
      by_cases ez : z (pl n o i) = true
      · rw [if_pos ez]
        exact ⟨fun q => absurd q (by decide), fun _ => begin_ (by rw [hBz]; exact ez)⟩
      · rw [if_neg ez]
        refine ⟨fun _ => ?_, fun q => absurd (by decide) q⟩
        rw [if_neg hi0]
        have hbs : bs (bB n o z) i = bs (bB n o z) (i - 1) := by
          obtain ⟨j, rfl⟩ : ∃ j, i = j + 1 := ⟨i - 1, by omega⟩
          show (if bB n o z (j + 1) = true then j + 1 else bs (bB n o z) j) = bs (bB n o z) j
          rw [if_neg (by rw [hBz]; exact ez)]
        rw [← hbs]
        refine add s' g5 rfl rfl ?_ (fun _ _ => rfl) (fun _ _ _ => rfl) ?_
        · rw [g8]
          show _ = nI (nb (bB n o z) i + (if bB n o z i = true then 1 else 0))
          rw [if_neg (by rw [hBz]; exact ez)]
          rfl
        · rw [h7i, hBz]
end SB
