/-! PURE. The reference's blocks. -/
def ZR (t : St) (Z : Nat → Prop) : Prop := ∀ q, q ≤ 200 → (Z q → t 13 q = 0) ∧ (¬ Z q → t 13 q = -1)
theorem ZR.set {t : St} {Z : Nat → Prop} (h : ZR t Z) (g : Nat) : ZR (su t 13 g 0) (fun q => Z q ∨ q = g) := by
  intro q hq
  by_cases c : q = g
  · subst c
    exact ⟨fun _ => su_at _ _ _ _, fun z => absurd (Or.inr rfl) z⟩
  · rw [su_ne _ _ _ _ _ c]
    exact ⟨fun z => (h q hq).1 (z.elim id (fun y => absurd y c)), fun z => (h q hq).2 (fun y => z (Or.inl y))⟩
theorem ZR.iff {t : St} {Z Y : Nat → Prop} (h : ZR t Z) (e : ∀ q, q ≤ 200 → (Z q ↔ Y q)) : ZR t Y := fun q hq => ⟨fun y => (h q hq).1 ((e q hq).mpr y), fun y => (h q hq).2 (fun z => y ((e q hq).mp z))⟩
/-- where zeros stand when k instructions are through -/
def zK (x : In) (N k q : Nat) : Prop := q = 0 ∨ (∃ k' j, k' < k ∧ j < ng (jo x) (jp x k') ∧ goal (jo x) (jp x k') j = nI q) ∨ ∃ k', k' < k ∧ kEnd (jo x (jp x k')) = true ∧ k' + 1 < N ∧ jp x (k' + 1) = q
section MB
variable {t : St} {Post : St → Prop} {x : In} {N : Nat}
def KM (t : St) (c : Nat → Nat) : Prop := (∀ j, j ≤ 200 → t 5 j = nI (c j)) ∧ ∀ j, c j ≤ 99
theorem ng_le {n : Nat} {o : Nat → Nat} {p : Nat} (hl : 0 < ln n o p) : ng o p ≤ 21 := by
  unfold ng
  split
  · rename_i c
    obtain ⟨m0, m20, -⟩ := sw_ok c hl
    omega
  · split <;> omega
theorem zK_jB (hF : Form x N) {i : Nat} (hi : i < N) (hn : jn x ≤ 200) (hh : ∀ h, h < jh x → jd x h 2 ≤ 200) : (zK x N N (jp x i) ∨ ∃ h, h < jh x ∧ jd x h 2 = jp x i) ↔ jB x N i = true := by
  have hc := hF.1
  unfold jB bB
  simp only [Bool.or_eq_true, beq_iff_eq]
  rw [show jz x N (pl (jn x) (jo x) i) = jz x N (jp x i) from rfl, jz_iff]
  constructor
  · rintro ((h | ⟨k', j, h1, h2, h3⟩ | ⟨k', h1, h2, h3, h4⟩) | h)
    · left; left
      exact hc.inj hi hF.2.1 h
    · exact Or.inr (Or.inl ⟨k', j, h1, h2, h3⟩)
    · left; right
      have : k' + 1 = i := hc.inj h3 hi h4
      subst this
      exact h2
    · exact Or.inr (Or.inr h)
  · rintro ((h | h) | (⟨k', j, h1, h2, h3⟩ | h))
    · subst h
      exact Or.inl (Or.inl rfl)
    · rcases Nat.eq_zero_or_pos i with z | z
      · subst z
        exact Or.inl (Or.inl rfl)
      · refine Or.inl (Or.inr (Or.inr ⟨i - 1, by omega, h, by omega, ?_⟩))
        rw [show i - 1 + 1 = i by omega]
    · exact Or.inl (Or.inr (Or.inl ⟨k', j, h1, h2, h3⟩))
    · exact Or.inr h
theorem M_findBlocks (h : CO t (jn x) (jo x)) (hF : Form x N) (hH : HM t (jh x) (jd x)) (hK0 : KM t (jc x)) (h7 : ∀ q, q ≤ 200 → t 7 q = bI (stB (jn x) (jo x) N q))
    (k : ∀ t', Keep 19 [13] [] t t' → (∀ i, i < N → t' 13 (jp x i) = if jB x N i = true then nI (jC x N i) else -1) → Post t') : x_Model_findBlocks t Post := by
  have hn := h.1
  have hc := hF.1
  have hNn := hc.le
  have hN0 := hF.2.1
  obtain ⟨hh1, hh2, hh3⟩ := hH
  have hB0 : jB x N 0 = true := rfl
  unfold x_Model_findBlocks x_Model_findBlocks_2
  refine itr_go (fun a => ∃ i : Nat, i ≤ 201 ∧ a.2 = nI i ∧ Keep 19 [13] [] t a.1 ∧ ∀ q, q < i → a.1 13 q = -1) (fun a => 201 - a.2.toNatClampNeg) _ ⟨0, by omega, rfl, Keep.rf, fun q hq => absurd hq (by omega)⟩ ?_
  rintro K ⟨t1, x1⟩ ⟨i, g1, g2, g3, g4⟩ hK
  dsimp only at g2 g3 g4 hK ⊢
  subst g2
  unfold x_Model_findBlocks_2F
  refine wplt 200 i rfl rfl (by omega) (by omega) (fun e1' => ⟨by exact vp_in_nI (n := 0) (by omega) (by omega), ?_⟩) (fun e1' => ⟨vp_in_nI (by omega) (by omega), ?_⟩)
  rotate_left
  · rintro s5 rfl v rfl
    rw [nI_clamp (by omega)]
    refine hK _ ⟨i + 1, by omega, nI_1 i, g3.arr (by decide) (by decide), fun q hq => ?_⟩ ?_
    · dsimp only
      by_cases c : q = i
      · rw [c, su_at]
      · rw [su_ne _ _ _ _ _ c]; exact g4 q (by omega)
    · show 201 - (nI i + 1).toNatClampNeg < 201 - (nI i).toNatClampNeg
      rw [nI_1, nI_clamp (by omega), nI_clamp (by omega)]
      omega
  clear hK K
  rintro s3 rfl
  have k2 : Keep 19 [13] [] t (su t1 13 (0 : Int32).toNatClampNeg 0) := g3.arr (by decide) (by decide)
  have z2 : ZR (su t1 13 (0 : Int32).toNatClampNeg 0) (zK x N 0) := by
    refine ZR.iff (ZR.set (Z := fun _ => False) (fun q hq => ⟨fun z => z.elim, fun _ => g4 q (by omega)⟩) 0) (fun q hq => ?_)
    constructor
    · rintro (z | z)
      · exact z.elim
      · exact Or.inl z
    · rintro (z | ⟨k', j, z, -⟩ | ⟨k', z, -⟩)
      · exact Or.inr z
      · omega
      · omega
  generalize su t1 13 (0 : Int32).toNatClampNeg 0 = t2 at k2 z2 ⊢
  -- goals and ends
  unfold x_Model_findBlocks_31
  refine itr_go (fun a => ∃ m p : Nat, a.2 = nI p ∧ At (jn x) (jo x) N m p ∧ Keep 19 [13] [] t a.1 ∧ ZR a.1 (zK x N m)) (fun a => 201 - a.2.toNatClampNeg) _ ⟨0, 0, rfl, At.z, k2, z2⟩ ?_
  rintro K ⟨t3, x3⟩ ⟨m, p, w2, w3, w4, w5⟩ hK
  dsimp only at w2 w4 w5 hK ⊢
  subst w2
  have hpn := w3.le
  have hC3 : CO t3 (jn x) (jo x) := h.keep (w4.1 9 (by decide) (by decide)) (w4.2 5 (by decide))
  unfold x_Model_findBlocks_31F
  rw [hC3.2.1]
  refine wple (jn x) p rfl rfl (by omega) (by omega) (fun e3 => ?_) (fun e3 => ?_)
  rotate_left
  · have nxt : ∀ t4 m2, Keep 19 [13] [] t t4 → At (jn x) (jo x) N m2 (p + 1) → ZR t4 (zK x N m2) → x_Model_findBlocks_126 (fun s x1 => K (s, x1)) Post t4 (nI p) := by
      intro t4 m2 a1 a2 a3
      unfold x_Model_findBlocks_126
      rintro v rfl
      refine hK _ ⟨m2, p + 1, nI_1 p, a2, a1, a3⟩ ?_
      show 201 - (nI p + 1).toNatClampNeg < 201 - (nI p).toNatClampNeg
      rw [nI_1, nI_clamp (by omega), nI_clamp (by omega)]
      omega
    rw [nI_clamp (by omega), w4.1 7 (by decide) (by decide), h7 p (by omega)]
    refine ⟨vp_in_nI (by omega) (by omega), ?_⟩
    rcases w3.cases hc (by omega) with ⟨b1, b2, b3, b4⟩ | ⟨b1, b2⟩
    rotate_left
    · rw [b1]
      exact ⟨fun z => absurd rfl z, fun _ => nxt t3 m w4 b2 w5⟩
    rw [b1]
    refine ⟨fun _ => ?_, fun z => absurd z (by decide)⟩
    have hln := hc.2 m b2
    rw [b3] at hln
    have b3' : jp x m = p := b3
    have hngb := ng_le hln
    have hend := (ln_pos hln).1
    refine M_length hC3 (by omega) (M_goals hC3 (by omega) hln ?_)
    unfold x_Model_findBlocks_66
    refine itr_go (fun a => ∃ j : Nat, j ≤ ng (jo x) p ∧ a.2.1 = nI p ∧ a.2.2.1 = nI (ln (jn x) (jo x) p) ∧ a.2.2.2.1 = nI (ng (jo x) p) ∧ a.2.2.2.2 = nI j ∧ Keep 19 [13] [] t a.1 ∧ ZR a.1 (fun q => zK x N m q ∨ ∃ j', j' < j ∧ goal (jo x) p j' = nI q)) (fun a => 201 - a.2.2.2.2.toNatClampNeg) _ ⟨0, by omega, rfl, rfl, rfl, rfl, w4, w5.iff (fun q _ => ⟨Or.inl, fun z => z.elim id (fun ⟨j', y, _⟩ => absurd y (by omega))⟩)⟩ ?_
    rintro K2 ⟨t4, y1, y2, y3, y4⟩ ⟨j, v1, v3, v4, v5, v6, v7, v8⟩ hK2
    dsimp only at v3 v4 v5 v6 v7 v8 hK2 ⊢
    subst v3 v4 v5 v6
    have hC4 : CO t4 (jn x) (jo x) := h.keep (v7.1 9 (by decide) (by decide)) (v7.2 5 (by decide))
    unfold x_Model_findBlocks_66F
    refine wple (ng (jo x) p) j rfl rfl (by omega) (by omega) (fun e4' => ⟨vp_in_nI (by omega) (by omega), ?_⟩) (fun e4' => ?_)
    · rw [nI_clamp (by omega), hC4.2.2.1 p (by omega)]
      have hj : j = ng (jo x) p := by omega
      subst hj
      have goalsIff : ∀ q, (zK x N m q ∨ (∃ j', j' < ng (jo x) p ∧ goal (jo x) p j' = nI q) ∨ (kEnd (jo x p) = true ∧ m + 1 < N ∧ jp x (m + 1) = q)) ↔ zK x N (m + 1) q := by
        intro q
        unfold zK
        constructor
        · rintro ((z | ⟨k', j', z1, z2, z3⟩ | ⟨k', z1, z2⟩) | ⟨j', z1, z2⟩ | ⟨z1, z2, z3⟩)
          · exact Or.inl z
          · exact Or.inr (Or.inl ⟨k', j', by omega, z2, z3⟩)
          · exact Or.inr (Or.inr ⟨k', by omega, z2⟩)
          · exact Or.inr (Or.inl ⟨m, j', by omega, by rw [b3']; exact z1, by rw [b3']; exact z2⟩)
          · exact Or.inr (Or.inr ⟨m, by omega, by rw [b3']; exact z1, z2, z3⟩)
        · rintro (z | ⟨k', j', z1, z2, z3⟩ | ⟨k', z1, z2, z3, z4⟩)
          · exact Or.inl (Or.inl z)
          · rcases Nat.lt_or_ge k' m with c | c
            · exact Or.inl (Or.inr (Or.inl ⟨k', j', c, z2, z3⟩))
            · rw [show k' = m by omega, b3'] at z2 z3
              exact Or.inr (Or.inl ⟨j', z2, z3⟩)
          · rcases Nat.lt_or_ge k' m with c | c
            · exact Or.inl (Or.inr (Or.inr ⟨k', c, z2, z3, z4⟩))
            · rw [show k' = m by omega] at z2 z3 z4
              rw [b3'] at z2
              exact Or.inr (Or.inr ⟨z2, z3, z4⟩)
      have hnx : jp x (m + 1) = p + ln (jn x) (jo x) p := by
        show pl (jn x) (jo x) m + ln (jn x) (jo x) (pl (jn x) (jo x) m) = _
        rw [b3]
      have noend : ¬ (kEnd (jo x p) = true ∧ m + 1 < N) → x_Model_findBlocks_126 (fun s x1 => K (s, x1)) Post t4 (nI p) := by
        intro hno
        refine nxt t4 (m + 1) v7 b4 (v8.iff (fun q hq => ?_))
        rw [← goalsIff q]
        constructor
        · rintro (z | z)
          · exact Or.inl z
          · exact Or.inr (Or.inl z)
        · rintro (z | z | ⟨z1, z2, -⟩)
          · exact Or.inl z
          · exact Or.inr z
          · exact absurd ⟨z1, z2⟩ hno
      refine MK_ends (h.2.2.2.2 p) (wpb (fun e5 => noend (fun z => by rw [e5] at z; cases z.1)) (fun e5 => ?_))
      rw [nI_add, hC4.2.1]
      refine wple (jn x) (p + ln (jn x) (jo x) p) rfl rfl (by omega) (by omega) (fun e6 => noend (fun z => by have := hc.lt z.2; have h9 : pl (jn x) (jo x) (m + 1) = p + ln (jn x) (jo x) p := hnx; omega)) (fun e6 => ⟨vp_in_nI (by omega) (by omega), ?_⟩)
      rintro s22 rfl
      rw [nI_clamp (by omega)]
      have hm1 : m + 1 < N := by
        rcases Nat.lt_or_ge (m + 1) N with z | z
        · exact z
        · have : m + 1 = N := by omega
          have h9 : pl (jn x) (jo x) (m + 1) = p + ln (jn x) (jo x) p := hnx
          rw [this, hc.1] at h9
          omega
      refine nxt _ (m + 1) (v7.arr (by decide) (by decide)) b4 ((v8.set _).iff (fun q hq => ?_))
      rw [← goalsIff q, hnx]
      constructor
      · rintro ((z | z) | z)
        · exact Or.inl z
        · exact Or.inr (Or.inl z)
        · exact Or.inr (Or.inr ⟨e5, hm1, z.symm⟩)
      · rintro (z | z | ⟨z1, z2, z3⟩)
        · exact Or.inl (Or.inl z)
        · exact Or.inl (Or.inr z)
        · exact Or.inr z3.symm
    · obtain ⟨kk, hk1, hk2⟩ := hF.2.2.1 m b2 j (by rw [b3]; omega)
      rw [b3] at hk2
      have hkpl := hc.lt hk1
      refine M_goal hC4 (by omega) hln (by omega) ?_
      rw [hk2]
      refine ⟨vp_in_nI (by omega) (by omega), ?_⟩
      rintro s26 rfl v rfl
      rw [nI_clamp (by omega)]
      refine hK2 _ ⟨j + 1, by omega, rfl, rfl, rfl, nI_1 j, v7.arr (by decide) (by decide), (v8.set _).iff (fun q hq => ?_)⟩ ?_
      · constructor
        · rintro ((z | ⟨j', z1, z2⟩) | z)
          · exact Or.inl z
          · exact Or.inr ⟨j', by omega, z2⟩
          · exact Or.inr ⟨j, by omega, by rw [hk2, z]⟩
        · rintro (z | ⟨j', z1, z2⟩)
          · exact Or.inl (Or.inl z)
          · rcases Nat.lt_or_ge j' j with c | c
            · exact Or.inl (Or.inr ⟨j', c, z2⟩)
            · rw [show j' = j by omega, hk2] at z2
              refine Or.inr ?_
              exact (nI_inj (by omega) (by omega) z2).symm
      · show 201 - (nI j + 1).toNatClampNeg < 201 - (nI j).toNatClampNeg
        rw [nI_1, nI_clamp (by omega), nI_clamp (by omega)]
        omega
  have hm := w3.fin hc e3
  subst hm
  clear hK K
  -- handlers
  unfold x_Model_findBlocks_134
  refine itr_go (fun a => ∃ q : Nat, q ≤ jh x ∧ a.2 = nI q ∧ Keep 19 [13] [] t a.1 ∧ ZR a.1 (fun y => zK x m m y ∨ ∃ h, h < q ∧ jd x h 2 = y)) (fun a => 201 - a.2.toNatClampNeg) _ ⟨0, by omega, rfl, w4, w5.iff (fun q _ => ⟨Or.inl, fun z => z.elim id (fun ⟨j', y, _⟩ => absurd y (by omega))⟩)⟩ ?_
  rintro K ⟨t5, y⟩ ⟨q, v1, v3, v4, v5⟩ hK
  dsimp only at v3 v4 v5 hK ⊢
  subst v3
  unfold x_Model_findBlocks_134F
  rw [v4.2 1 (by decide), hh2]
  refine wple (jh x) q rfl rfl (by omega) (by omega) (fun e4' => ?_) (fun e4' => ⟨vp_in_nI (by omega) (by omega), ?_⟩)
  rotate_left
  · obtain ⟨p1, p2, p3, p4, p200, p255⟩ := hh3 q (by omega)
    have b2 := p200 2 (by omega)
    rw [nI_clamp (by omega), v4.1 3 (by decide) (by decide), p3]
    refine ⟨vp_in_nI (by omega) (by omega), ?_⟩
    rintro s31 rfl v rfl
    rw [nI_clamp (by omega)]
    refine hK _ ⟨q + 1, by omega, nI_1 q, v4.arr (by decide) (by decide), (v5.set _).iff (fun y hy => ?_)⟩ ?_
    · constructor
      · rintro ((z | ⟨j', z1, z2⟩) | z)
        · exact Or.inl z
        · exact Or.inr ⟨j', by omega, z2⟩
        · exact Or.inr ⟨q, by omega, z.symm⟩
      · rintro (z | ⟨j', z1, z2⟩)
        · exact Or.inl (Or.inl z)
        · rcases Nat.lt_or_ge j' q with c | c
          · exact Or.inl (Or.inr ⟨j', c, z2⟩)
          · rw [show j' = q by omega] at z2
            exact Or.inr z2.symm
    · show 201 - (nI q + 1).toNatClampNeg < 201 - (nI q).toNatClampNeg
      rw [nI_1, nI_clamp (by omega), nI_clamp (by omega)]
      omega
  have hq : q = jh x := by omega
  subst hq
  clear hK K
  have start : ∀ i, i < m → t5 13 (jp x i) = if jB x m i = true then 0 else -1 := by
    intro i hi
    have hpl : jp x i < jn x := hc.lt hi
    have hiff := zK_jB hF hi hn (fun h hh => (hh3 h hh).2.2.2.2.1 2 (by omega))
    by_cases c : jB x m i = true
    · rw [if_pos c]
      exact (v5 _ (by omega)).1 (hiff.mpr c)
    · rw [if_neg c]
      exact (v5 _ (by omega)).2 (fun z => c (hiff.mp z))
  have hP99 : ∀ i, jP x i ≤ 99 := fun i => hK0.2 _
  -- sums
  unfold x_Model_findBlocks_164
  refine itr_go (fun a => ∃ k p : Nat, a.2.1 = nI (if k = 0 then 0 else jp x (bs (jB x m) (k - 1))) ∧ a.2.2 = nI p ∧ At (jn x) (jo x) m k p ∧ Keep 19 [13] [] t a.1 ∧ (∀ i, i < k → a.1 13 (jp x i) = if jB x m i = true then nI (cb (jB x m) (jP x) k i) else -1) ∧ (∀ i, k ≤ i → i < m → a.1 13 (jp x i) = if jB x m i = true then 0 else -1)) (fun a => 201 - a.2.2.toNatClampNeg) _ ⟨0, 0, rfl, rfl, At.z, v4, fun i hi => absurd hi (by omega), fun i _ hi => start i hi⟩ ?_
  rintro K ⟨t6, y1, y2⟩ ⟨k', p', c1, c2, c3, c4, c5, c6⟩ hK
  dsimp only at c1 c2 c4 c5 c6 hK ⊢
  subst c1 c2
  have hpn' := c3.le
  have hC6 : CO t6 (jn x) (jo x) := h.keep (c4.1 9 (by decide) (by decide)) (c4.2 5 (by decide))
  unfold x_Model_findBlocks_164F
  rw [hC6.2.1]
  refine wple (jn x) p' rfl rfl (by omega) (by omega) (fun e5 => ?_) (fun e5 => ?_)
  · have := c3.fin hc e5
    subst this
    exact k t6 c4 c5
  rw [nI_clamp (by omega), c4.1 7 (by decide) (by decide), h7 p' (by omega)]
  refine ⟨vp_in_nI (by omega) (by omega), ?_⟩
  rcases c3.cases hc (by omega) with ⟨b1, b2, b3, b4⟩ | ⟨b1, b2⟩
  rotate_left
  · rw [b1]
    refine ⟨fun z => absurd rfl z, fun _ => ?_⟩
    unfold x_Model_findBlocks_238
    rintro v rfl
    refine hK _ ⟨k', p' + 1, rfl, nI_1 p', b2, c4, c5, c6⟩ ?_
    show 201 - (nI p' + 1).toNatClampNeg < 201 - (nI p').toNatClampNeg
    rw [nI_1, nI_clamp (by omega), nI_clamp (by omega)]
    omega
  rw [b1]
  have b3' : jp x k' = p' := b3
  have hln := hc.2 k' b2
  rw [b3] at hln
  obtain ⟨-, op1, op2⟩ := st_op hln
  have hend := (ln_pos hln).1
  have hcb := cb_le (B := jB x m) hP99 k'
  have hb1 : bs (jB x m) k' ≤ k' := bs_le k'
  have hbm : bs (jB x m) k' < m := by omega
  have hbpl : jp x (bs (jB x m) k') < jn x := hc.lt hbm
  have cur : t6 13 (jp x (bs (jB x m) k')) = nI (cb (jB x m) (jP x) k' (bs (jB x m) k')) := by
    rcases Nat.lt_or_ge (bs (jB x m) k') k' with z | z
    · rw [c5 _ z, if_pos (bs_B hB0 k')]
    · have hbe : bs (jB x m) k' = k' := by omega
      rw [hbe, c6 k' (Nat.le_refl k') b2, if_pos (by have := bs_B hB0 k'; rw [hbe] at this; exact this), cb_hi _ _ (Nat.le_refl k')]
      rfl
  have add : x_Model_findBlocks_195 (fun s x1 x2 => K (s, x1, x2)) Post t6 (nI (jp x (bs (jB x m) k'))) (nI p') := by
    have go : ∀ w, w ≤ 200 → jc x w = jP x k' → x_Model_findBlocks_235 (fun s x1 x2 => K (s, x1, x2)) Post t6 (nI (jp x (bs (jB x m) k'))) (nI p') (nI w) (nI (cb (jB x m) (jP x) k' (bs (jB x m) k'))) (nI (jp x (bs (jB x m) k'))) := by
      intro w hw hcw
      unfold x_Model_findBlocks_235
      rw [nI_clamp (by omega), nI_clamp (by omega), c4.1 5 (by decide) (by decide), hK0.1 w hw, hcw, nI_add]
      refine ⟨vp_in_nI (by omega) (by omega), vp_in_nI (by omega) (by omega), ?_⟩
      rintro s46 rfl
      unfold x_Model_findBlocks_238
      rintro v rfl
      refine hK _ ⟨k' + 1, p' + 1, ?_, nI_1 p', b4, c4.arr (by decide) (by decide), fun i hi => ?_, fun i hi1 hi2 => ?_⟩ ?_
      · rw [if_neg (by omega), Nat.add_sub_cancel]
      · dsimp only
        by_cases ck : i = bs (jB x m) k'
        · rw [ck, su_at, if_pos (bs_B hB0 k')]
          show _ = nI (cb (jB x m) (jP x) k' (bs (jB x m) k') + (if bs (jB x m) k' = bs (jB x m) k' then jP x k' else 0))
          rw [if_pos rfl]
        · have hne : jp x i ≠ jp x (bs (jB x m) k') := fun e2 => ck (hc.inj (by omega) hbm e2)
          rw [su_ne _ _ _ _ _ hne]
          have hcbk : cb (jB x m) (jP x) (k' + 1) i = cb (jB x m) (jP x) k' i := by
            show cb (jB x m) (jP x) k' i + (if bs (jB x m) k' = i then jP x k' else 0) = _
            rw [if_neg (Ne.symm ck)]
            rfl
          rw [hcbk]
          rcases Nat.lt_or_ge i k' with z | z
          · exact c5 i z
          · have ek : i = k' := by omega
            subst ek
            rw [c6 i (Nat.le_refl i) b2, cb_hi _ _ (Nat.le_refl i)]
            rfl
      · dsimp only
        have hne : jp x i ≠ jp x (bs (jB x m) k') := fun e2 => by have := hc.inj hi2 hbm e2; omega
        rw [su_ne _ _ _ _ _ hne]
        exact c6 i (by omega) hi2
      · show 201 - (nI p' + 1).toNatClampNeg < 201 - (nI p').toNatClampNeg
        rw [nI_1, nI_clamp (by omega), nI_clamp (by omega)]
        omega
    unfold x_Model_findBlocks_195
    rw [nI_clamp (show p' < 2 ^ 31 by omega), nI_clamp (show jp x (bs (jB x m) k') < 2 ^ 31 by omega), hC6.2.2.1 p' (by omega), cur]
    refine ⟨vp_in_nI (by omega) (by omega), vp_in_nI (by omega) (by omega), wpeqn (jo x p') 196 rfl rfl (by omega) (by omega) (fun e6 => ⟨vp_in_nI (by omega) (by omega), go _ op1 ?_⟩) (fun e6 => ?_)⟩
    · show jc x (jo x p') = jc x (if jo x (jp x k') = 196 then jo x (jp x k' + 1) else jo x (jp x k'))
      rw [b3', if_neg e6]
    · have hl4 : 4 ≤ ln (jn x) (jo x) p' := by
        have hR := (ln_pos hln).2
        rw [hR] at hln ⊢
        unfold lnR at hln ⊢
        rw [if_pos (by rw [e6]; rfl), if_pos e6] at hln ⊢
        unfold lnW at hln ⊢
        split
        · omega
        · split
          · omega
          · rename_i a1 a2
            rw [if_neg a1, if_neg a2] at hln
            omega
      rw [show nI p' + 1 = nI (p' + 1) from nI_1 p', nI_clamp (by omega), hC6.2.2.1 (p' + 1) (by omega)]
      refine ⟨vp_in_nI (by omega) (by omega), go _ (op2 e6) ?_⟩
      show jc x (jo x (p' + 1)) = jc x (if jo x (jp x k') = 196 then jo x (jp x k' + 1) else jo x (jp x k'))
      rw [b3', if_pos e6]
  refine ⟨fun _ => ⟨vp_in_nI (by omega) (by omega), ?_⟩, fun z => absurd z (by decide)⟩
  rw [← b3', c6 k' (Nat.le_refl k') b2]
  by_cases ez : jB x m k' = true
  · rw [if_pos ez]
    refine ⟨fun z => absurd z (by decide), fun _ => ?_⟩
    have hbs := bs_of hB0 ez
    rw [hbs] at add
    rw [← b3'] at add
    exact add
  · rw [if_neg ez]
    refine ⟨fun _ => ?_, fun z => absurd (by decide) z⟩
    have hk0 : k' ≠ 0 := fun z => ez (by rw [z]; exact hB0)
    rw [if_neg hk0]
    have hbs : bs (jB x m) k' = bs (jB x m) (k' - 1) := by
      obtain ⟨j, rfl⟩ : ∃ j, k' = j + 1 := ⟨k' - 1, by omega⟩
      show (if jB x m (j + 1) = true then j + 1 else bs (jB x m) j) = bs (jB x m) j
      rw [if_neg ez]
    rw [← hbs]
    rw [← b3'] at add
    exact add
end MB
