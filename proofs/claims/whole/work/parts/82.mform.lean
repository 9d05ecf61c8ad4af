/-! PURE. The reference looks at the form. -/
/-- p has come to where instruction i is next -/
def At (n : Nat) (o : Nat → Nat) (N i p : Nat) : Prop := i ≤ N ∧ p ≤ pl n o i ∧ ∀ k, k < i → pl n o k < p
section AT
variable {n : Nat} {o : Nat → Nat} {N i p : Nat}
theorem At.z : At n o N 0 0 := ⟨Nat.zero_le N, Nat.zero_le _, fun k hk => absurd hk (by omega)⟩
theorem At.fin (hc : Cmp n o N) (h : At n o N i p) (hp : n ≤ p) : i = N := by
  rcases Nat.lt_or_ge i N with q | q
  · have h1 := hc.lt q
    have h2 := h.2.1
    omega
  · have := h.1
    omega
theorem At.le (h : At n o N i p) : p ≤ n := Nat.le_trans h.2.1 (pl_le n o i)
theorem At.cases (hc : Cmp n o N) (h : At n o N i p) (hp : p < n) : (stB n o N p = true ∧ i < N ∧ pl n o i = p ∧ At n o N (i + 1) (p + 1)) ∨ (stB n o N p = false ∧ At n o N i (p + 1)) := by
  obtain ⟨h1, h2, h3⟩ := h
  cases e : stB n o N p
  · right
    refine ⟨rfl, h1, ?_, fun k hk => by have := h3 k hk; omega⟩
    rcases Nat.lt_or_ge i N with q | q
    · have : pl n o i ≠ p := fun z => by
        rw [stB_iff.mpr ⟨i, q, z⟩] at e
        cases e
      omega
    · rw [show i = N by omega, hc.1]
      omega
  · left
    obtain ⟨k, hk, rfl⟩ := stB_iff.mp e
    have hik : i ≤ k := by
      rcases Nat.lt_or_ge k i with q | q
      · have := h3 k q; omega
      · exact q
    have h4 := pl_mono (n := n) (o := o) k hik
    have h5 : pl n o i = pl n o k := by omega
    have h6 : i = k := hc.inj (by omega) hk h5
    subst h6
    refine ⟨rfl, hk, rfl, by omega, ?_, fun j hj => ?_⟩
    · have := pl_lt (show i < i + 1 by omega) (hc.2 i hk)
      omega
    · rcases Nat.lt_or_ge j i with q | q
      · have := h3 j q; omega
      · rw [show j = i by omega]; omega
end AT
section MF
variable {t : St} {n : Nat} {o : Nat → Nat} {N p j : Nat} {Post : Int32 → St → Prop}
theorem M_goals (h : CO t n o) (hp : p < n) (hl : 0 < ln n o p) (k : Post (nI (ng o p)) t) : x_Model_goals t (nI p) Post := by
  have hn := h.1
  have ho := h.2.2.2.2 p
  unfold x_Model_goals
  refine ⟨vp_in_nI (by omega) (by omega), ?_⟩
  intro v hv
  rw [nI_clamp (by omega), h.2.2.1 p hp] at hv
  subst hv
  rw [sub4 (by omega)]
  have key : ∀ b, b = (if o p = 170 then 12 else 8) → x_Model_goals_26 Post t (nI p) (nI (o p)) (nI b) (nI (4 - p % 4)) := by
    intro b hb
    unfold x_Model_goals_26
    rintro v rfl
    refine MK_isTable ho (wpbn (fun e => M_length h hp ?_) (fun e => MK_isJump ho (wpb (fun e2' => ?_) (fun e2' => ?_))))
    · obtain ⟨m0, m20, hln, -, -, -, -⟩ := sw_ok e hl
      have hng : ng o p = 1 + (swm o p).toNat := if_pos e
      rw [hng] at k
      unfold nw at hln
      refine wpeqn (o p) 170 rfl rfl (by omega) (by omega) (fun e3 => ?_) (fun e3 => ?_)
      · rw [if_neg e3] at hb hln
        rw [nI_add, hln, hb, pk_sub (by omega), show 4 - p % 4 + 4 * (2 + 2 * (swm o p).toNat) - (4 - p % 4 + 8) = 8 * (swm o p).toNat by omega, show (8 : Int32) = nI 8 from rfl, pk_div (by omega) (by omega) (by omega), show 8 * (swm o p).toNat / 8 = (swm o p).toNat by omega, show (1 : Int32) = nI 1 from rfl, nI_add]
        exact k
      · rw [if_pos e3] at hb hln
        rw [nI_add, hln, hb, pk_sub (by omega), show 4 - p % 4 + 4 * (3 + (swm o p).toNat) - (4 - p % 4 + 12) = 4 * (swm o p).toNat by omega, show (4 : Int32) = nI 4 from rfl, pk_div (by omega) (by omega) (by omega), show 4 * (swm o p).toNat / 4 = (swm o p).toNat by omega, show (1 : Int32) = nI 1 from rfl, nI_add]
        exact k
    · have : ng o p = 0 := by
        unfold ng
        simp only [kJ, Bool.or_eq_false_iff, beq_eq_false_iff_ne] at e2'
        rw [if_neg (by rw [e]; decide), if_neg (fun z => z.elim (fun y => by rw [e2'.1] at y; cases y) e2'.2)]
      rw [this] at k
      exact k
    · have : ng o p = 1 := by
        unfold ng
        simp only [kJ, Bool.or_eq_true, beq_iff_eq] at e2'
        rw [if_neg (by rw [e]; decide), if_pos e2']
      rw [this] at k
      exact k
  exact wpeqn (o p) 170 rfl rfl (by omega) (by omega) (fun e => key 8 (by rw [if_neg e])) (fun e => key 12 (by rw [if_pos e]))
theorem M_placeOfGoal (h : CO t n o) (hp : p < n) (hj : j < 64) (k : Post (nI (wf p + 4 * gw o p j)) t) : x_Model_placeOfGoal t (nI p) (nI j) Post := by
  have hn := h.1
  have ho := h.2.2.2.2 p
  unfold x_Model_placeOfGoal
  refine ⟨vp_in_nI (by omega) (by omega), ?_⟩
  intro v hv
  rw [nI_clamp (by omega), h.2.2.1 p hp] at hv
  subst hv
  intro v hv
  rw [rem4 (by omega), show nI p + 4 = nI (p + 4) from nI_add p 4, pk_sub (by omega), show p + 4 - p % 4 = wf p from rfl] at hv
  subst hv
  have hw := wf_gt p
  unfold gw at k
  refine wpeqn j 0 rfl rfl (by omega) (by omega) (fun e => ?_) (fun e => by rw [if_pos e] at k; exact k)
  rw [if_neg e] at k
  refine wpeqn (o p) 170 rfl rfl (by omega) (by omega) (fun e2' => ?_) (fun e2' => ?_)
  · rw [if_neg e2'] at k
    rw [show nI (wf p) + 4 = nI (wf p + 4) from nI_add _ 4, show (8 : Int32) * nI j = nI (8 * j) from pk_mul 8 j, nI_add, show wf p + 4 + 8 * j = wf p + 4 * (1 + 2 * j) by omega]
    exact k
  · rw [if_pos e2'] at k
    rw [show nI (wf p) + 8 = nI (wf p + 8) from nI_add _ 8, show (4 : Int32) * nI j = nI (4 * j) from pk_mul 4 j, nI_add, show wf p + 8 + 4 * j = wf p + 4 * (2 + j) by omega]
    exact k
theorem M_goal (h : CO t n o) (hp : p < n) (hl : 0 < ln n o p) (hj : j < ng o p) (k : Post (goal o p j) t) : x_Model_goal t (nI p) (nI j) Post := by
  have hn := h.1
  have ho := h.2.2.2.2 p
  unfold goal at k
  unfold x_Model_goal
  refine ⟨vp_in_nI (by omega) (by omega), ?_⟩
  intro v hv
  rw [nI_clamp (by omega), h.2.2.1 p hp] at hv
  subst hv
  refine MK_isTable ho (wpb (fun e => ?_) (fun e => ?_))
  · rw [if_neg (by rw [e]; decide)] at k
    have hJ : kSJ (o p) = true ∨ o p = 200 := by
      unfold ng at hj
      rw [if_neg (by rw [e]; decide)] at hj
      by_cases c : kSJ (o p) = true ∨ o p = 200
      · exact c
      · rw [if_neg c] at hj; omega
    obtain ⟨hend, hR⟩ := ln_pos hl
    have h4 : ∀ q, q < 256 → (kSJ q = true ∨ q = 200) → kPl q = (if q = 200 then 5 else 3) ∧ q ≠ 196 ∧ kSw q = false := all_of (P := fun q => (kSJ q = true ∨ q = 200) → kPl q = (if q = 200 then 5 else 3) ∧ q ≠ 196 ∧ kSw q = false) (by decide +kernel)
    obtain ⟨c1, c2, c3⟩ := h4 _ ho hJ
    have hRv : lnR o p = if o p = 200 then 5 else 3 := by
      unfold lnR
      rw [if_pos (st_op hl).1, if_neg c2, if_neg (by rw [c3]; decide), c1]
    rw [hR, hRv] at hend
    rw [show nI p + 1 = nI (p + 1) from nI_1 p, show nI p + 2 = nI (p + 2) from nI_add p 2]
    refine wpeqn (o p) 200 rfl rfl (by omega) (by omega) (fun e2' => ?_) (fun e2' => ?_)
    · rw [if_neg e2'] at hend k
      rw [nI_clamp (by omega), nI_clamp (by omega), h.2.2.1 (p + 1) (by omega), h.2.2.1 (p + 2) (by omega)]
      exact ⟨vp_in_nI (by omega) (by omega), vp_in_nI (by omega) (by omega), k⟩
    · rw [if_pos e2'] at hend k
      exact M_s4 h (by omega) k
  · rw [if_pos e] at k
    obtain ⟨m0, m20, -, w2, w42, hend, hend2⟩ := sw_ok e hl
    obtain ⟨g1, -⟩ := gw_in e hj
    have hng : ng o p = 1 + (swm o p).toNat := if_pos e
    exact M_placeOfGoal h hp (by omega) (M_s4 h (by omega) k)
theorem M_begins {g : Int32} (h : CO t n o) (hc : Cmp n o N) (hn0 : 0 < n) (h7 : ∀ q, q ≤ 200 → t 7 q = bI (stB n o N q)) (k1 : ∀ kk, kk < N → g = nI (pl n o kk) → Post 1 t) (k0 : (¬ ∃ kk, kk < N ∧ g = nI (pl n o kk)) → Post 0 t) : x_Model_begins t g Post := by
  have hn := h.1
  unfold x_Model_begins
  refine M_in.mpr ?_
  rw [h.2.1, show nI n - (1 : Int32) = nI (n - 1) from pk_sub (b := 1) hn0]
  unfold vm_in
  by_cases c1 : g < 0
  · rw [if_pos c1]
    refine ⟨fun _ => ⟨rfl, k0 ?_⟩, fun z => absurd rfl z⟩
    rintro ⟨kk, hk, rfl⟩
    have := hc.lt hk
    exact nI_pos (by omega) c1
  · rw [if_neg c1]
    by_cases c2 : nI (n - 1) < g
    · rw [if_pos c2]
      refine ⟨fun _ => ⟨rfl, k0 ?_⟩, fun z => absurd rfl z⟩
      rintro ⟨kk, hk, rfl⟩
      have := hc.lt hk
      rw [nI_ltI (by omega) (by omega)] at c2
      omega
    · rw [if_neg c2]
      refine ⟨fun z => absurd z (by decide), fun _ => ?_⟩
      obtain ⟨q, hq, rfl⟩ := nI_btw (n := n - 1) c1 (Int32.not_lt.mp c2) (by omega)
      refine ⟨vp_in_nI (by omega) (by omega), ?_⟩
      rw [nI_clamp (by omega), h7 q (by omega)]
      refine wpb (fun e => ⟨rfl, k0 ?_⟩) (fun e => ⟨rfl, ?_⟩)
      · rintro ⟨kk, hk, e2'⟩
        have := hc.lt hk
        have := nI_inj (by omega) (by omega) e2'
        subst this
        rw [stB_iff.mpr ⟨kk, hk, rfl⟩] at e
        cases e
      · obtain ⟨kk, hk, rfl⟩ := stB_iff.mp e
        exact k1 kk hk rfl
/-- the reference's handlers -/
def HM (t : St) (nh : Nat) (hd : Nat → Nat → Nat) : Prop := nh ≤ 4 ∧ t 19 1 = nI nh ∧ ∀ h, h < nh → t 1 h = nI (hd h 0) ∧ t 2 h = nI (hd h 1) ∧ t 3 h = nI (hd h 2) ∧ t 4 h = nI (hd h 3) ∧ (∀ q, q < 3 → hd h q ≤ 200) ∧ hd h 3 ≤ 255
theorem HM.keep {s t : St} {nh : Nat} {hd : Nat → Nat → Nat} (h : HM s nh hd) (h1 : t 1 = s 1) (h2 : t 2 = s 2) (h3 : t 3 = s 3) (h4 : t 4 = s 4) (hs : t 19 1 = s 19 1) : HM t nh hd := ⟨h.1, by rw [hs]; exact h.2.1, fun q hq => by rw [h1, h2, h3, h4]; exact h.2.2 q hq⟩
theorem M_isFormed {x : In} (h : CO t (jn x) (jo x)) (hH : HM t (jh x) (jd x))
    (kbad : ∀ t', (¬ ∃ N, Form x N) → Keep 19 [7] [] t t' → Post 0 t')
    (kok : ∀ t' N, Form x N → Keep 19 [7] [] t t' → (∀ q, q ≤ 200 → t' 7 q = bI (stB (jn x) (jo x) N q)) → Post 1 t') : x_Model_isFormed t Post := by
  have hn := h.1
  unfold x_Model_isFormed
  rw [h.2.1]
  refine wpeqn (jn x) 0 rfl rfl (by omega) (by omega) (fun e0 => ?_) (fun e0 => ⟨rfl, kbad t ?_ Keep.rf⟩)
  rotate_left
  · rintro ⟨N, hF⟩
    have := hF.1.le
    have := hF.2.1
    omega
  -- all is no start
  unfold x_Model_isFormed_11
  refine itr_go (fun a => ∃ i : Nat, i ≤ 201 ∧ a.2 = nI i ∧ Keep 19 [7] [] t a.1 ∧ ∀ q, q < i → a.1 7 q = 0) (fun a => 201 - a.2.toNatClampNeg) _ ⟨0, by omega, rfl, Keep.rf, fun q hq => absurd hq (by omega)⟩ ?_
  rintro K ⟨t1, x1⟩ ⟨i, g1, g2, g3, g4⟩ hK
  dsimp only at g2 g3 g4 hK ⊢
  subst g2
  unfold x_Model_isFormed_11F
  refine wplt 200 i rfl rfl (by omega) (by omega) (fun e1' => ?_) (fun e1' => ⟨vp_in_nI (by omega) (by omega), ?_⟩)
  rotate_left
  · rintro s4 rfl v rfl
    rw [nI_clamp (by omega), nar_0]
    refine hK _ ⟨i + 1, by omega, nI_1 i, g3.arr (by decide) (by decide), fun q hq => ?_⟩ ?_
    · dsimp only
      by_cases c : q = i
      · rw [c, su_at]
      · rw [su_ne _ _ _ _ _ c]; exact g4 q (by omega)
    · show 201 - (nI i + 1).toNatClampNeg < 201 - (nI i).toNatClampNeg
      rw [nI_1, nI_clamp (by omega), nI_clamp (by omega)]
      omega
  clear hK K
  have z1 : ∀ q, q ≤ 200 → t1 7 q = 0 := fun q hq => g4 q (by omega)
  -- the instructions
  unfold x_Model_isFormed_33
  refine itr_go (fun a => ∃ i : Nat, (∀ k, k < i → 0 < ln (jn x) (jo x) (pl (jn x) (jo x) k)) ∧ a.2 = nI (pl (jn x) (jo x) i) ∧ Keep 19 [7] [] t a.1 ∧ ∀ q, q ≤ 200 → a.1 7 q = bI (stB (jn x) (jo x) i q)) (fun a => 201 - a.2.toNatClampNeg) _ ⟨0, fun k hk => absurd hk (by omega), rfl, g3, fun q hq => z1 q hq⟩ ?_
  rintro K ⟨t2, x2⟩ ⟨i, u1, u2, u3, u4⟩ hK
  dsimp only at u2 u3 u4 hK ⊢
  subst u2
  have hC2 : CO t2 (jn x) (jo x) := h.keep (u3.1 9 (by decide) (by decide)) (u3.2 5 (by decide))
  have hpl := pl_le (jn x) (jo x) i
  unfold x_Model_isFormed_33F
  rw [hC2.2.1]
  refine wple (jn x) (pl (jn x) (jo x) i) rfl rfl (by omega) (by omega) (fun e2' => ?_) (fun e2' => ?_)
  rotate_left
  · refine M_length hC2 (by omega) ?_
    have hln := ln_le (jn x) (jo x) (pl (jn x) (jo x) i)
    refine wpeqn (ln (jn x) (jo x) (pl (jn x) (jo x) i)) 0 rfl rfl (by omega) (by omega) (fun e3 => ⟨vp_in_nI (by omega) (by omega), ?_⟩) (fun e3 => ⟨rfl, kbad t2 (fun ⟨N, hF⟩ => not_cmp u1 (by omega) e3 ⟨N, hF.1⟩) u3⟩)
    rintro s11 rfl v rfl
    rw [nI_clamp (by omega), nar_1, nI_add]
    refine hK _ ⟨i + 1, fun k hk => ?_, rfl, u3.arr (by decide) (by decide), fun q hq => ?_⟩ ?_
    · rcases Nat.lt_or_ge k i with z | z
      · exact u1 k z
      · rw [show k = i by omega]; omega
    · dsimp only
      rw [stB_s]
      by_cases c : q = pl (jn x) (jo x) i
      · rw [c, su_at]
        simp [bI]
      · rw [su_ne _ _ _ _ _ c, u4 q hq, show (pl (jn x) (jo x) i == q) = false by simpa using Ne.symm c, Bool.or_false]
    · show 201 - (nI (pl (jn x) (jo x) i + ln (jn x) (jo x) (pl (jn x) (jo x) i))).toNatClampNeg < 201 - (nI (pl (jn x) (jo x) i)).toNatClampNeg
      rw [nI_clamp (by omega), nI_clamp (by omega)]
      omega
  have hc : Cmp (jn x) (jo x) i := ⟨by omega, u1⟩
  clear hK K u1
  have hi0 : 0 < i := by
    rcases Nat.eq_zero_or_pos i with z | z
    · rw [z] at e2'
      have : pl (jn x) (jo x) 0 = 0 := rfl
      omega
    · exact z
  have uq : ∀ M, Form x M → M = i := fun M hM => hM.1.uniq hc
  -- the goals
  unfold x_Model_isFormed_69
  refine itr_go (fun a => ∃ k p : Nat, a.1 = t2 ∧ a.2 = nI p ∧ At (jn x) (jo x) i k p ∧ ∀ k', k' < k → ∀ j, j < ng (jo x) (pl (jn x) (jo x) k') → ∃ m, m < i ∧ goal (jo x) (pl (jn x) (jo x) k') j = nI (pl (jn x) (jo x) m)) (fun a => 201 - a.2.toNatClampNeg) _ ⟨0, 0, rfl, rfl, At.z, fun k' hk => absurd hk (by omega)⟩ ?_
  rintro K ⟨t3, x3⟩ ⟨k, p, w1, w2, w3, w4⟩ hK
  dsimp only at w1 w2 w4 hK ⊢
  subst w1 w2
  have hpn := w3.le
  unfold x_Model_isFormed_69F
  rw [hC2.2.1]
  refine wple (jn x) p rfl rfl (by omega) (by omega) (fun e3 => ?_) (fun e3 => ?_)
  rotate_left
  · have nxt : ∀ k2, At (jn x) (jo x) i k2 (p + 1) → (∀ k', k' < k2 → ∀ j, j < ng (jo x) (pl (jn x) (jo x) k') → ∃ m, m < i ∧ goal (jo x) (pl (jn x) (jo x) k') j = nI (pl (jn x) (jo x) m)) → ∀ v : Int32, v = nI p + 1 → K (t3, v) := by
      intro k2 a1 a2 v hv
      subst hv
      refine hK _ ⟨k2, p + 1, rfl, nI_1 p, a1, a2⟩ ?_
      show 201 - (nI p + 1).toNatClampNeg < 201 - (nI p).toNatClampNeg
      rw [nI_1, nI_clamp (by omega), nI_clamp (by omega)]
      omega
    rw [nI_clamp (by omega), u4 p (by omega)]
    refine ⟨vp_in_nI (by omega) (by omega), ?_⟩
    rcases w3.cases hc (by omega) with ⟨b1, b2, b3, b4⟩ | ⟨b1, b2⟩
    · rw [b1]
      refine ⟨fun z => absurd z (by decide), fun _ => ?_⟩
      have hln := hc.2 k b2
      rw [b3] at hln
      refine M_goals hC2 (by omega) hln ?_
      have hngb : ng (jo x) p ≤ 21 := by
        unfold ng
        split
        · rename_i c
          obtain ⟨m0, m20, -⟩ := sw_ok c hln
          omega
        · split <;> omega
      unfold x_Model_isFormed_95 x_Model_isFormed_98
      refine itr_go (fun a => ∃ j : Nat, j ≤ ng (jo x) p ∧ a.1 = t3 ∧ a.2.1 = nI p ∧ a.2.2.1 = nI (ng (jo x) p) ∧ a.2.2.2 = nI j ∧ ∀ j', j' < j → ∃ m, m < i ∧ goal (jo x) p j' = nI (pl (jn x) (jo x) m)) (fun a => 201 - a.2.2.2.toNatClampNeg) _ ⟨0, by omega, rfl, rfl, rfl, rfl, fun j' hj => absurd hj (by omega)⟩ ?_
      rintro K2 ⟨t4, y1, y2, y3⟩ ⟨j, v1, v2, v3, v4, v5, v6⟩ hK2
      dsimp only at v2 v3 v4 v5 hK2 ⊢
      subst v2 v3 v4 v5
      unfold x_Model_isFormed_98F
      refine wple (ng (jo x) p) j rfl rfl (by omega) (by omega) (fun e4' => ?_) (fun e4' => ?_)
      · refine nxt (k + 1) b4 (fun k' hk' j' hj' => ?_)
        rcases Nat.lt_or_ge k' k with z | z
        · exact w4 k' z j' hj'
        · rw [show k' = k by omega, b3] at hj' ⊢
          exact v6 j' (by omega)
      · refine M_goal hC2 (by omega) hln (by omega) (M_begins hC2 hc (by omega) u4 (fun kk hk1 hk2 => ⟨fun _ => ?_, fun z => absurd z (by decide)⟩) (fun hno => ⟨fun z => absurd rfl z, fun _ => ⟨rfl, kbad t4 ?_ u3⟩⟩))
        · rintro v rfl
          refine hK2 _ ⟨j + 1, by omega, rfl, rfl, rfl, nI_1 j, fun j' hj' => ?_⟩ ?_
          · rcases Nat.lt_or_ge j' j with z | z
            · exact v6 j' z
            · rw [show j' = j by omega]; exact ⟨kk, hk1, hk2⟩
          · show 201 - (nI j + 1).toNatClampNeg < 201 - (nI j).toNatClampNeg
            rw [nI_1, nI_clamp (by omega), nI_clamp (by omega)]
            omega
        · rintro ⟨M, hM⟩
          have := uq M hM
          subst this
          have := hM.2.2.1 k b2 j (by rw [b3]; omega)
          rw [b3] at this
          exact hno this
    · rw [b1]
      refine ⟨fun _ => ?_, fun z => absurd rfl z⟩
      unfold x_Model_isFormed_95 x_Model_isFormed_98
      refine itr_go (fun a => a = (t3, nI p, 0, 0)) (fun _ => 0) _ rfl ?_
      rintro K2 a rfl hK2
      dsimp only
      unfold x_Model_isFormed_98F
      exact ⟨fun _ => nxt k b2 w4, fun z => absurd (Int32.le_refl _) z⟩
  have hk := w3.fin hc e3
  subst hk
  clear hK K
  have hg : gok (jn x) (jo x) k := w4
  -- the handlers
  obtain ⟨hh1, hh2, hh3⟩ := hH
  unfold x_Model_isFormed_136
  refine itr_go (fun a => ∃ q : Nat, q ≤ jh x ∧ a.1 = t3 ∧ a.2 = nI q ∧ ∀ q', q' < q → isSt (jn x) (jo x) k (jd x q' 0) ∧ (isSt (jn x) (jo x) k (jd x q' 1) ∨ jd x q' 1 = jn x) ∧ jd x q' 0 < jd x q' 1 ∧ isSt (jn x) (jo x) k (jd x q' 2)) (fun a => 201 - a.2.toNatClampNeg) _ ⟨0, by omega, rfl, rfl, fun q' hq => absurd hq (by omega)⟩ ?_
  rintro K ⟨t5, y⟩ ⟨q, v1, v2, v3, v4⟩ hK
  dsimp only at v2 v3 hK ⊢
  subst v2 v3
  unfold x_Model_isFormed_136F
  rw [u3.2 1 (by decide), hh2]
  refine wple (jh x) q rfl rfl (by omega) (by omega) (fun e4' => ⟨rfl, ?_⟩) (fun e4' => ?_)
  · have : q = jh x := by omega
    subst this
    exact kok t5 k ⟨hc, hi0, hg, v4⟩ u3 u4
  · obtain ⟨p1, p2, p3, p4, p200, p255⟩ := hh3 q (by omega)
    have b0 := p200 0 (by omega)
    have b1 := p200 1 (by omega)
    have b2 := p200 2 (by omega)
    have bad : ∀ P : Prop, (∀ hF : Form x k, P) → (P → False) → narrow .boolean (.int (0 : Int32)) = .int (0 : Int32) ∧ Post 0 t5 := fun P a1 a2 => ⟨rfl, kbad t5 (fun ⟨M, hM⟩ => by
      have := uq M hM
      subst this
      exact a2 (a1 hM)) u3⟩
    rw [nI_clamp (by omega), u3.1 1 (by decide) (by decide), p1]
    refine ⟨vp_in_nI (by omega) (by omega), M_begins hC2 hc (by omega) u4 (fun k1 c1 c2 => ⟨fun z => absurd z (by decide), fun _ => ⟨vp_in_nI (by omega) (by omega), ?_⟩⟩) (fun hno => ⟨fun _ => bad _ (fun hF => (hF.2.2.2 q (by omega)).1) (fun ⟨m, hm1, hm2⟩ => hno ⟨m, hm1, by rw [hm2]⟩), fun z => absurd rfl z⟩)⟩
    have d0 : isSt (jn x) (jo x) k (jd x q 0) := ⟨k1, c1, by have := hc.lt c1; exact (nI_inj (by omega) (by omega) c2).symm⟩
    rw [u3.1 3 (by decide) (by decide), p3]
    refine M_begins hC2 hc (by omega) u4 (fun k2 c3 c4 => ⟨fun z => absurd z (by decide), fun _ => ⟨vp_in_nI (by omega) (by omega), ?_⟩⟩) (fun hno => ⟨fun _ => bad _ (fun hF => (hF.2.2.2 q (by omega)).2.2.2) (fun ⟨m, hm1, hm2⟩ => hno ⟨m, hm1, by rw [hm2]⟩), fun z => absurd rfl z⟩)
    have d2 : isSt (jn x) (jo x) k (jd x q 2) := ⟨k2, c3, by have := hc.lt c3; exact (nI_inj (by omega) (by omega) c4).symm⟩
    have last : (isSt (jn x) (jo x) k (jd x q 1) ∨ jd x q 1 = jn x) → x_Model_isFormed_196 (fun s x1 => K (s, x1)) Post t5 (nI q) := by
      intro d1
      unfold x_Model_isFormed_196
      rw [nI_clamp (by omega), u3.1 1 (by decide) (by decide), u3.1 2 (by decide) (by decide), p1, p2]
      refine ⟨vp_in_nI (by omega) (by omega), vp_in_nI (by omega) (by omega), wplt (jd x q 0) (jd x q 1) rfl rfl (by omega) (by omega) (fun e5 => ?_) (fun e5 => bad _ (fun hF => (hF.2.2.2 q (by omega)).2.2.1) e5)⟩
      rintro v rfl
      refine hK _ ⟨q + 1, by omega, rfl, nI_1 q, fun q' hq' => ?_⟩ ?_
      · rcases Nat.lt_or_ge q' q with z | z
        · exact v4 q' z
        · rw [show q' = q by omega]; exact ⟨d0, d1, e5, d2⟩
      · show 201 - (nI q + 1).toNatClampNeg < 201 - (nI q).toNatClampNeg
        rw [nI_1, nI_clamp (by omega), nI_clamp (by omega)]
        omega
    rw [u3.1 2 (by decide) (by decide), p2]
    refine M_begins hC2 hc (by omega) u4 (fun k3 c5 c6 => ⟨fun _ => last (Or.inl ⟨k3, c5, by have := hc.lt c5; exact (nI_inj (by omega) (by omega) c6).symm⟩), fun z => absurd z (by decide)⟩) (fun hno => ⟨fun z => absurd rfl z, fun _ => ⟨vp_in_nI (by omega) (by omega), ?_⟩⟩)
    rw [u3.1 2 (by decide) (by decide), p2, hC2.2.1]
    refine wpeqn (jd x q 1) (jn x) rfl rfl (by omega) (by omega) (fun e5 => bad _ (fun hF => (hF.2.2.2 q (by omega)).2.1) (fun z => z.elim (fun ⟨m, hm1, hm2⟩ => hno ⟨m, hm1, by rw [hm2]⟩) e5)) (fun e5 => last (Or.inr e5))
end MF
