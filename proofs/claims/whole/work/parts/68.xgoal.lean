/-! PURE. Goals and beginnings, in the class. -/
theorem S2_lo (o : Nat → Nat) (p : Nat) : -(2 ^ 15) ≤ (S2 o p).toInt ∧ (S2 o p).toInt < 2 ^ 15 := by
  unfold S2
  generalize (nI (o p) <<< ((8 : Int32) &&& 31) ||| nI (o (p + 1))).toInt16 = x
  rw [Int16.toInt_toInt32]
  exact ⟨Int16.le_toInt x, Int16.toInt_lt x⟩
/-- the class's layout knows where instructions begin: length > 0 there, 0 elsewhere -/
def LX (s : St) (L : Nat → Nat) : Prop := ∀ p, p ≤ 200 → s 5 p = nI (L p) ∧ L p ≤ 200
def beg (L : Nat → Nat) (g : Int32) : Bool := !decide (g < 0) && decide (g ≤ 200) && decide (0 < L g.toNatClampNeg)
theorem kgw : ∀ w, w < 64 → (nI w - nI w / 2 * 2 = 1 ↔ w % 2 = 1) := all_of (P := fun w => (nI w - nI w / 2 * 2 = 1 ↔ w % 2 = 1)) (by decide +kernel)
section XG
variable {s : St} {n : Nat} {o : Nat → Nat} {Post : Int32 → St → Prop} {p w : Nat} {L : Nat → Nat} {g : Int32}
theorem X_jumpGoal (h : CX s n o) (hp : p < 2 ^ 28) (hk : kSw (o p) = false) (k : Post (goal o p 0) s) : x_Source_jumpGoal s (nI p) Post := by
  have ho := h.2.2.2.2 p
  unfold goal at k
  rw [if_neg (by rw [hk]; decide)] at k
  unfold x_Source_jumpGoal
  rw [show nI p + 1 = nI (p + 1) from nI_1 p]
  refine X_u1 h (by omega) (wpeqn (o p) 200 rfl rfl (by omega) (by omega) (fun e => ?_) (fun e => ?_))
  · rw [if_neg e] at k
    exact X_s2 h (by omega) k
  · rw [if_pos e] at k
    exact X_s4 h (by omega) k
theorem X_wordGoal (h : CX s n o) (hp : p < 2 ^ 27) (hw : w < 2 ^ 20) (k : Post (nI p + S4 o (wf p + 4 * w)) s) : x_Source_wordGoal s (nI p) (nI w) Post := by
  have := wf_gt p
  unfold x_Source_wordGoal
  refine X_wordsFrom (by omega) ?_
  rw [show (4 : Int32) * nI w = nI (4 * w) from pk_mul 4 w, nI_add]
  exact X_s4 h (by omega) k
theorem X_isGoalWord (ho : o p < 256) (hw : w < 64) (k : Post (bI (isGw o p w)) s) : x_Opcodes_isGoalWord s (nI (o p)) (nI w) Post := by
  have h1 : isGw o p w = true → x_Opcodes_isGoalWord_23 Post s := fun e => by
    rw [e] at k
    exact ⟨rfl, k⟩
  have h0 : isGw o p w = false → narrow .boolean (.int (0 : Int32)) = .int (0 : Int32) ∧ Post 0 s := fun e => by
    rw [e] at k
    exact ⟨rfl, k⟩
  unfold x_Opcodes_isGoalWord
  refine wpeq w 0 rfl rfl (by omega) (by omega) (fun e => h1 (by simp [isGw, e])) (fun e => ?_)
  refine wplt w 3 rfl rfl (by omega) (by omega) (fun e2 => h0 (by simp [isGw, e]; omega)) (fun e2 => ?_)
  refine wpeq (o p) 170 rfl rfl (by omega) (by omega) (fun e3 => h1 (by simp [isGw, e3]; omega)) (fun e3 => ?_)
  rw [kgw w hw]
  exact ⟨fun q => h0 (by simp [isGw, e, e3]; omega), fun q => h1 (by simp [isGw, e, e3, q]; omega)⟩
theorem X_begins (h : LX s L) (k : Post (bI (beg L g)) s) : x_Layout_begins s g Post := by
  have h0 : beg L g = false → narrow .boolean (.int (0 : Int32)) = .int (0 : Int32) ∧ Post 0 s := fun e => by
    rw [e] at k
    exact ⟨rfl, k⟩
  unfold x_Layout_begins
  refine ⟨fun q => h0 (by simp [beg, q]), fun q => ⟨fun q2 => h0 (by
    have : ¬ g ≤ 200 := Int32.not_le.mpr q2
    simp [beg, this]), fun q2 => ?_⟩⟩
  obtain ⟨j, hj, rfl⟩ := nI_btw (n := 200) q (Int32.not_lt.mp q2) (by omega)
  refine ⟨vp_in_nI (by omega) (by omega), ?_⟩
  rw [nI_clamp (by omega), (h j hj).1]
  have h2 := (h j hj).2
  refine wple (L j) 0 rfl rfl (by omega) (by omega) (fun e => h0 (by
    simp only [beg, nI_clamp (show j < 2 ^ 31 by omega)]
    rw [show L j = 0 by omega]
    simp)) (fun e => ?_)
  have : beg L (nI j) = true := by
    have a1 : ¬ nI j < 0 := q
    have a2 : nI j ≤ 200 := Int32.not_lt.mp q2
    have a3 : 0 < L j := by omega
    simp [beg, nI_clamp (show j < 2 ^ 31 by omega), a1, a2, a3]
  rw [this] at k
  exact ⟨rfl, k⟩
theorem beg_nI {j : Nat} (hj : j ≤ 200) : beg L (nI j) = decide (0 < L j) := by
  have a1 : ¬ nI j < 0 := nI_pos (by omega)
  have a2 : nI j ≤ 200 := nI_le (b := 200) hj (by omega)
  simp [beg, nI_clamp (show j < 2 ^ 31 by omega), a1, a2]
theorem beg_of (h : beg L g = true) : ∃ j, j ≤ 200 ∧ g = nI j ∧ 0 < L j := by
  simp only [beg, Bool.and_eq_true, Bool.not_eq_true', decide_eq_false_iff_not, decide_eq_true_eq] at h
  obtain ⟨⟨h1, h2⟩, h3⟩ := h
  obtain ⟨j, hj, rfl⟩ := nI_btw (n := 200) h1 h2 (by omega)
  rw [nI_clamp (by omega)] at h3
  exact ⟨j, hj, rfl, h3⟩
theorem X_beginBlock {Q : Int32 → St → Prop} (h : LX s L) (k0 : beg L g = false → Q 0 s) (k1 : ∀ j, j ≤ 200 → g = nI j → 0 < L j → Q 1 (su s 7 j 0)) : x_Layout_beginBlock s g Q := by
  unfold x_Layout_beginBlock
  refine X_begins h (wpbn (fun e => ?_) (fun e => ⟨rfl, k0 e⟩))
  obtain ⟨j, hj, rfl, hL⟩ := beg_of e
  refine ⟨vp_in_nI (by omega) (by omega), ?_⟩
  rintro s5 rfl
  rw [nI_clamp (by omega)]
  exact ⟨rfl, k1 j hj rfl hL⟩
end XG
