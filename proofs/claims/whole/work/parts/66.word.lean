/-! PURE. Bits; the class's reads of its code: u1, s2, s4, wordsFrom, lengthAt, goals. -/
def bt (x : Int32) (i : Nat) : Bool := x.toBitVec.getLsbD i
theorem b_ext {x y : Int32} (h : ∀ i, i < 32 → bt x i = bt y i) : x = y := Int32.toBitVec_inj.mp (BitVec.eq_of_getLsbD_eq (fun i hi => h i hi))
theorem b_and (x y : Int32) (i : Nat) : bt (x &&& y) i = (bt x i && bt y i) := by unfold bt; rw [Int32.toBitVec_and, BitVec.getLsbD_and]
theorem b_nI {a i : Nat} (ha : a < 2 ^ 32) : bt (nI a) i = a.testBit i := by
  unfold bt
  rw [BitVec.getLsbD, pk_tn ha]
theorem b_m4 : ∀ i, i < 32 → bt (-4) i = decide (2 ≤ i) := by decide +kernel
theorem and_m4 {q : Nat} (h : q < 2 ^ 31) : nI q &&& (-4) = nI (q - q % 4) := by
  refine b_ext (fun i hi => ?_)
  rw [b_and, b_nI (by omega), b_nI (by omega), b_m4 i hi]
  have e : q - q % 4 = (q >>> 2) <<< 2 := by
    rw [Nat.shiftRight_eq_div_pow, Nat.shiftLeft_eq]
    omega
  rw [e, Nat.testBit_shiftLeft, Nat.testBit_shiftRight]
  by_cases h2 : 2 ≤ i
  · simp [h2, show 2 + (i - 2) = i by omega]
  · simp [h2]
theorem wf_val {p : Nat} (h : p < 2 ^ 30) : (nI p + 4) &&& (-4) = nI (wf p) := by
  rw [show (nI p + 4) = nI (p + 4) from nI_add p 4, and_m4 (by omega)]
  congr 1
  unfold wf
  omega
theorem wf_gt (p : Nat) : p < wf p ∧ wf p ≤ p + 4 := by unfold wf; omega
/-- the class's code: n octets o -/
def CX (s : St) (n : Nat) (o : Nat → Nat) : Prop := n ≤ 200 ∧ s 15 1 = nI n ∧ (∀ j, j < n → s 0 j = nI (o j)) ∧ (∀ j, n ≤ j → o j = 0) ∧ ∀ j, o j < 256
theorem CX.keep {s t : St} {n : Nat} {o : Nat → Nat} (h : CX s n o) (h0 : t 0 = s 0) (h1 : t 15 1 = s 15 1) : CX t n o := by
  obtain ⟨a, b, c, d⟩ := h
  exact ⟨a, by rw [h1]; exact b, fun j hj => by rw [h0]; exact c j hj, d⟩
section XW
variable {s : St} {n : Nat} {o : Nat → Nat} {Post : Int32 → St → Prop} {p : Nat}
theorem X_u1 (h : CX s n o) (hp : p < 2 ^ 30) (k : Post (nI (o p)) s) : x_Source_u1 s (nI p) Post := by
  obtain ⟨h1, h2, h3, h4, -⟩ := h
  unfold x_Source_u1
  refine ⟨fun q => absurd q (nI_pos (by omega)), fun _ => ⟨fun q => ?_, fun q => ?_⟩⟩
  · rw [h2, nI_leI (by omega) (by omega)] at q
    rw [h4 p q] at k
    exact k
  · rw [h2, nI_leI (by omega) (by omega)] at q
    refine ⟨vp_in_nI (by omega) (by omega), ?_⟩
    rw [nI_clamp (by omega), h3 p (by omega)]
    exact k
theorem X_s2 (h : CX s n o) (hp : p < 2 ^ 29) (k : Post (S2 o p) s) : x_Source_s2 s (nI p) Post := by
  unfold x_Source_s2
  refine X_u1 h (by omega) ?_
  rw [show nI p + 1 = nI (p + 1) from nI_1 p]
  exact X_u1 h (by omega) k
theorem X_s4 (h : CX s n o) (hp : p < 2 ^ 29) (k : Post (S4 o p) s) : x_Source_s4 s (nI p) Post := by
  unfold x_Source_s4
  refine X_u1 h (by omega) ?_
  rw [show nI p + 1 = nI (p + 1) from nI_add p 1, show nI p + 2 = nI (p + 2) from nI_add p 2, show nI p + 3 = nI (p + 3) from nI_add p 3]
  exact X_u1 h (by omega) (X_u1 h (by omega) (X_u1 h (by omega) k))
theorem X_wordsFrom (hp : p < 2 ^ 30) (k : Post (nI (wf p)) s) : x_Source_wordsFrom s (nI p) Post := by
  unfold x_Source_wordsFrom
  rw [wf_val hp]
  exact k
end XW
