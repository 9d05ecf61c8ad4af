/-! PURE. The reference's rounds. -/
section MR
variable {t : St} {x : In} {N : Nat} {P : Int32 → St → Prop}
theorem M_front {fr : Nat → Bool} (hn : jn x ≤ 200) (hF : Form x N) (hP : PM t x N fr) {k : Nat} (hk : k < N) (kk : P (nI (frI (jn x) (jo x) (jld x N) fr k)) t) : x_Model_front t (nI (jp x k)) P := by
  have hpl : jp x k < jn x := hF.1.lt hk
  unfold x_Model_front
  rw [nI_clamp (by omega), (hP.1 k hk).1]
  unfold frI at kk
  refine ⟨vp_in_nI (by omega) (by omega), wpeqn (jp x k) 0 rfl rfl (by omega) (by omega) (fun e => ?_) (fun e => ?_)⟩
  · rw [if_neg (show ¬ pl (jn x) (jo x) k = 0 from e)] at kk
    rw [show nI (ps (jn x) (jo x) (jld x N) fr k) + 0 = nI (ps (jn x) (jo x) (jld x N) fr k + 0) from nI_add _ 0]
    exact kk
  · rw [if_pos (show pl (jn x) (jo x) k = 0 from e)] at kk
    rw [show nI (ps (jn x) (jo x) (jld x N) fr k) + 3 = nI (ps (jn x) (jo x) (jld x N) fr k + 3) from nI_add _ 3]
    exact kk
theorem M_opcodeAt {fr : Nat → Bool} (hn : jn x ≤ 200) (hF : Form x N) (hP : PM t x N fr) {k : Nat} (hk : k < N) (kk : P (nI (spI (jn x) (jo x) (jld x N) fr k)) t) : x_Model_opcodeAt t (nI (jp x k)) P := by
  have hpl : jp x k < jn x := hF.1.lt hk
  unfold x_Model_opcodeAt
  rw [nI_clamp (by omega), (hP.1 k hk).1, (hP.1 k hk).2.1, nI_add]
  exact ⟨vp_in_nI (by omega) (by omega), vp_in_nI (by omega) (by omega), kk⟩
theorem PM.keep {s t : St} {fr : Nat → Bool} (h : PM s x N fr) (h0 : t 10 = s 10) (h1 : t 11 = s 11) (h2 : t 12 = s 12) (h3 : t 19 6 = s 19 6) : PM t x N fr := by
  obtain ⟨a, b, c⟩ := h
  exact ⟨fun k hk => by rw [h0, h1, h2]; exact a k hk, by rw [h0]; exact b, by rw [h3]; exact c⟩
theorem M_stretch {K85 : St → Int32 → Prop} {fr : Nat → Bool} (h : CO t (jn x) (jo x)) (hF : Form x N) (h7 : ∀ q, q ≤ 200 → t 7 q = bI (stB (jn x) (jo x) N q)) (hP : PM t x N fr) (hf : FM t fr) (hr : t 19 3 = nI (jr x)) (hrc : jr x ≤ 32767)
    (k : ∀ t', Keep 19 [8] [] t t' → FM t' (nxF (jn x) (jo x) N (jld x N) (jr x) fr) → K85 t' (bI (decide (0 < cO (out (jn x) (jo x) N (jld x N) (jr x) fr) N)))) : ∃ n : Nat, x_Model_rewrite_107 K85 P n t 0 0 := by
  have hn := h.1
  have hc := hF.1
  have hNn := hc.le
  unfold x_Model_rewrite_107
  refine itr_go (fun a => ∃ m p : Nat, a.2.1 = bI (decide (0 < cO (out (jn x) (jo x) N (jld x N) (jr x) fr) m)) ∧ a.2.2 = nI p ∧ At (jn x) (jo x) N m p ∧ Keep 19 [8] [] t a.1 ∧ (∀ q, q ≤ 200 → a.1 8 q = bI (fr q || (stB (jn x) (jo x) m q && out (jn x) (jo x) N (jld x N) (jr x) fr (ix (jn x) (jo x) q N))))) (fun a => 201 - a.2.2.toNatClampNeg) _ ⟨0, 0, rfl, rfl, At.z, Keep.rf, fun q hq => by rw [stB_0, Bool.false_and, Bool.or_false]; exact hf q hq⟩ ?_
  rintro K ⟨t1, x2, x3⟩ ⟨m, p, g1, g2, g3, g4, g5⟩ hK
  dsimp only at g1 g2 g4 g5 hK ⊢
  subst g1 g2
  have hpn := g3.le
  have hC1 : CO t1 (jn x) (jo x) := h.keep (g4.1 9 (by decide) (by decide)) (g4.2 5 (by decide))
  have hP1 : PM t1 x N fr := hP.keep (g4.1 10 (by decide) (by decide)) (g4.1 11 (by decide) (by decide)) (g4.1 12 (by decide) (by decide)) (g4.2 6 (by decide))
  unfold x_Model_rewrite_107F
  rw [hC1.2.1]
  refine wple (jn x) p rfl rfl (by omega) (by omega) (fun e => ?_) (fun e => ?_)
  · have := g3.fin hc e
    subst this
    exact k t1 g4 g5
  rw [nI_clamp (by omega), g4.1 7 (by decide) (by decide), h7 p (by omega)]
  refine ⟨vp_in_nI (by omega) (by omega), ?_⟩
  rcases g3.cases hc (by omega) with ⟨b1, b2, b3, b4⟩ | ⟨b1, b2⟩
  rotate_left
  · rw [b1]
    refine ⟨fun _ => ?_, fun z => absurd rfl z⟩
    unfold x_Model_rewrite_211
    rintro v rfl
    refine hK _ ⟨m, p + 1, rfl, nI_1 p, b2, g4, g5⟩ ?_
    show 201 - (nI p + 1).toNatClampNeg < 201 - (nI p).toNatClampNeg
    rw [nI_1, nI_clamp (by omega), nI_clamp (by omega)]
    omega
  rw [b1]
  refine ⟨fun z => absurd z (by decide), fun _ => ⟨vp_in_nI (by omega) (by omega), ?_⟩⟩
  have b3' : jp x m = p := b3
  have ho := h.2.2.2.2 p
  have hln := hc.2 m b2
  rw [b3] at hln
  have hix : ix (jn x) (jo x) p N = m := by rw [← b3]; exact ix_pl hc b2 N b2 (Nat.le_refl N)
  have hst0 : stB (jn x) (jo x) m p = false := stB_f (fun j hj e2 => by rw [← b3] at e2; have := hc.inj (by omega) b2 e2; omega)
  have h8p : t1 8 p = bI (fr p) := by rw [g5 p (by omega), hst0, Bool.false_and, Bool.or_false]
  have nxt : ∀ (t2 : St) (mo : Int32), Keep 19 [8] [] t t2 → (∀ q, q ≤ 200 → q ≠ p → t2 8 q = t1 8 q) → t2 8 p = bI (fr p || out (jn x) (jo x) N (jld x N) (jr x) fr m) → mo = bI (decide (0 < cO (out (jn x) (jo x) N (jld x N) (jr x) fr) (m + 1))) → x_Model_rewrite_211 K85 (fun s x2 x3 => K (s, x2, x3)) P t2 mo (nI p) := by
    intro t2 mo a1 a2 a3 a4
    unfold x_Model_rewrite_211
    rintro v rfl
    refine hK _ ⟨m + 1, p + 1, a4, nI_1 p, b4, a1, fun q hq => ?_⟩ ?_
    · dsimp only
      rw [stB_s]
      by_cases cq : q = p
      · rw [cq, a3, hix, show (pl (jn x) (jo x) m == p) = true by simpa using b3, Bool.or_true, Bool.true_and]
      · rw [a2 q hq cq, g5 q hq, show (pl (jn x) (jo x) m == q) = false by rw [b3]; simpa using Ne.symm cq, Bool.or_false]
    · show 201 - (nI p + 1).toNatClampNeg < 201 - (nI p).toNatClampNeg
      rw [nI_1, nI_clamp (by omega), nI_clamp (by omega)]
      omega
  have same : out (jn x) (jo x) N (jld x N) (jr x) fr m = false → x_Model_rewrite_211 K85 (fun s x2 x3 => K (s, x2, x3)) P t1 (bI (decide (0 < cO (out (jn x) (jo x) N (jld x N) (jr x) fr) m))) (nI p) := by
    intro e1'
    refine nxt t1 _ g4 (fun _ _ _ => rfl) (by rw [h8p, e1', Bool.or_false]) ?_
    show _ = bI (decide (0 < cO (out (jn x) (jo x) N (jld x N) (jr x) fr) m + (if out (jn x) (jo x) N (jld x N) (jr x) fr m = true then 1 else 0)))
    rw [e1']
    rfl
  have hO1 : kSJ (jo x p) = false → out (jn x) (jo x) N (jld x N) (jr x) fr m = false := fun z => by
    unfold out
    rw [b3, z]
    rfl
  rw [hC1.2.2.1 p (by omega)]
  refine MK_isJump ho (wpb (fun e1' => same (hO1 ?_)) (fun e1' => ⟨vp_in_nI (by omega) (by omega), wpeq (jo x p) 200 (hC1.2.2.1 p (by omega)) rfl (by omega) (by omega) (fun e2' => same (hO1 (by rw [e2']; rfl))) (fun e2' => ⟨vp_in_nI (by omega) (by omega), ?_⟩)⟩))
  · simp only [kJ, Bool.or_eq_false_iff] at e1'
    exact e1'.1
  have hSJ : kSJ (jo x p) = true := by
    simp only [kJ, Bool.or_eq_true, beq_iff_eq] at e1'
    exact e1'.elim id (fun z => absurd z e2')
  rw [h8p]
  refine wpb (fun e3 => ?_) (fun e3 => same ?_)
  rotate_left
  · unfold out
    rw [b3, e3]
    simp
  obtain ⟨hng, hsw⟩ := ng_SJ hSJ
  obtain ⟨kk, hk1, hk2⟩ := hF.2.2.1 m b2 0 (by rw [b3]; omega)
  have hk2' := hk2
  rw [b3] at hk2
  have hkpl := hc.lt hk1
  refine M_goal (j := 0) hC1 (by omega) hln (by omega) ?_
  rw [hk2]
  refine M_front hn hF hP1 hk1 ?_
  rw [← b3']
  refine M_opcodeAt hn hF hP1 b2 ?_
  intro v hv
  have hps1 := ps_le (fr := fr) hc (jld_le x N) kk (by omega)
  have hps2 := ps_le (fr := fr) hc (jld_le x N) m (by omega)
  have hl1 := jld_le x N m
  have hfr : frI (jn x) (jo x) (jld x N) fr kk < 2 ^ 20 := by unfold frI; split <;> omega
  have hsp : spI (jn x) (jo x) (jld x N) fr m < 2 ^ 20 := by unfold spI; omega
  have hd : v.toInt = dst (jn x) (jo x) N (jld x N) fr m := by
    rw [hv, pk_sub_toInt (by omega) (by omega)]
    unfold dst
    rw [hk2', nI_clamp (by omega), ix_pl hc hk1 N hk1 (Nat.le_refl N)]
  have hO : out (jn x) (jo x) N (jld x N) (jr x) fr m = (decide (dst (jn x) (jo x) N (jld x N) fr m < -(jr x : Int)) || decide ((jr x : Int) < dst (jn x) (jo x) N (jld x N) fr m)) := by
    unfold out
    rw [b3, hSJ, e3]
    rfl
  refine M_in.mpr ?_
  rw [g4.2 3 (by decide), hr, b3']
  have far_ : out (jn x) (jo x) N (jld x N) (jr x) fr m = true → vp_in (nI p) 201 ∧ ∀ s49 : St, s49 = su t1 8 p (vp_nar .boolean (1 : Int32)) → x_Model_rewrite_211 K85 (fun s x2 x3 => K (s, x2, x3)) P s49 1 (nI p) := by
    intro e4'
    refine ⟨vp_in_nI (by omega) (by omega), ?_⟩
    rintro s49 rfl
    rw [nar_1]
    refine nxt _ 1 (g4.arr (by decide) (by decide)) (fun q hq hne => su_ne _ _ _ _ _ hne) (by rw [su_at, e4', Bool.or_true]; rfl) ?_
    show _ = bI (decide (0 < cO (out (jn x) (jo x) N (jld x N) (jr x) fr) m + (if out (jn x) (jo x) N (jld x N) (jr x) fr m = true then 1 else 0)))
    rw [if_pos e4', decide_eq_true (by omega)]
    rfl
  unfold vm_in
  by_cases c1 : v < -nI (jr x)
  · rw [if_pos c1]
    rw [Int32.lt_iff_toInt_lt, hd, neg_nI (by omega)] at c1
    exact ⟨fun _ => far_ (by rw [hO, decide_eq_true c1]; rfl), fun z => absurd rfl z⟩
  · rw [if_neg c1]
    rw [Int32.lt_iff_toInt_lt, hd, neg_nI (by omega)] at c1
    by_cases c2 : nI (jr x) < v
    · rw [if_pos c2]
      rw [Int32.lt_iff_toInt_lt, hd, nI_toInt (by omega)] at c2
      exact ⟨fun _ => far_ (by rw [hO, decide_eq_true c2, Bool.or_true]), fun z => absurd rfl z⟩
    · rw [if_neg c2]
      rw [Int32.lt_iff_toInt_lt, hd, nI_toInt (by omega)] at c2
      exact ⟨fun z => absurd z (by decide), fun _ => same (by rw [hO, decide_eq_false c1, decide_eq_false c2]; rfl)⟩
theorem M_rounds (h : CO t (jn x) (jo x)) (hF : Form x N) (hH : HM t (jh x) (jd x)) (hM : MM t (jk x)) (hok : okIn x) (h7 : ∀ q, q ≤ 200 → t 7 q = bI (stB (jn x) (jo x) N q)) (hB : BM t x N) (hf : FM t (fun _ => false)) (hr : t 19 3 = nI (jr x)) (h8 : t 19 8 = 0)
    (k : ∀ t' R, jR x N R → Keep 19 [8, 10, 11, 12] [6, 8] t t' → PM t' x N (jF x N R) → FM t' (jF x N R) → t' 19 8 = nI (R + 1) → ((t' 19 6) ≤ (1200 : Int32) → x_Model_write t' (fun s21 => ∀ s22 : St, s22 = su s21 19 16 (1 : Int32) → ∀ s23 : St, s23 = su s22 19 4 ((s22 19 4) + (1 : Int32)) → P (0 : Int32) s23)) ∧ (¬ (t' 19 6) ≤ (1200 : Int32) → P (2 : Int32) t')) : ∃ n : Nat, x_Model_rewrite_85 P n t 1 := by
  have hn := h.1
  have hc := hF.1
  have hNn := hc.le
  have hrc := hok.2.2.2
  unfold x_Model_rewrite_85
  refine itr_go (fun a => Keep 19 [8, 10, 11, 12] [6, 8] t a.1 ∧ ((a.2 = 0 ∧ ∃ R, jR x N R ∧ PM a.1 x N (jF x N R) ∧ FM a.1 (jF x N R) ∧ a.1 19 8 = nI (R + 1)) ∨ (a.2 = 1 ∧ ∃ r, (∀ r', r' < r → ∃ i, i < N ∧ out (jn x) (jo x) N (jld x N) (jr x) (jF x N r') i = true) ∧ r ≤ cntF (jn x) (jo x) (jF x N r) N ∧ FM a.1 (jF x N r) ∧ a.1 19 8 = nI r))) (fun a => if a.2 = 0 then 0 else 1 + (300 - (a.1 19 8).toNatClampNeg)) _ ⟨Keep.rf, Or.inr ⟨rfl, 0, fun r' hr' => absurd hr' (by omega), by omega, hf, h8⟩⟩ ?_
  rintro K ⟨t1, x1⟩ ⟨g1, g2⟩ hK
  dsimp only at g1 g2 hK ⊢
  unfold x_Model_rewrite_85F
  rcases g2 with ⟨rfl, R, a1, a2, a3, a4⟩ | ⟨rfl, r, a1, a2, a3, a4⟩
  · exact ⟨fun _ => k t1 R a1 g1 a2 a3 a4, fun z => absurd rfl z⟩
  · refine ⟨fun z => absurd z (by decide), fun _ => ?_⟩
    have hcF := cntF_le (n := jn x) (o := jo x) (fr := jF x N r) N
    have hC1 : CO t1 (jn x) (jo x) := h.keep (g1.1 9 (by decide) (by decide)) (g1.2 5 (by decide))
    refine M_layOut (fr := jF x N r) hC1 hF (hH.keep (g1.1 1 (by decide) (by decide)) (g1.1 2 (by decide) (by decide)) (g1.1 3 (by decide) (by decide)) (g1.1 4 (by decide) (by decide)) (g1.2 1 (by decide))) (fun c hc' => by rw [g1.1 6 (by decide) (by decide)]; exact hM c hc') hok (fun q hq => by rw [g1.1 7 (by decide) (by decide)]; exact h7 q hq) (fun i hi => by rw [g1.1 13 (by decide) (by decide)]; exact hB i hi) a3 (fun k' hk' hk2 => frs_SJ hc r k' hk' hk2) (fun t2 b1 b2 => ?_)
    rintro s26 rfl
    rw [b1.2 8 (by decide), a4, show nI r + (1 : Int32) = nI (r + 1) from nI_1 r]
    have k2 : Keep 19 [8, 10, 11, 12] [6, 8] t (su t2 19 8 (nI (r + 1))) := (g1.tr (b1.mono (by decide) (by decide))).scal (by decide)
    have e8 : su t2 19 8 (nI (r + 1)) 19 8 = nI (r + 1) := su_at _ _ _ _
    have p2 : PM (su t2 19 8 (nI (r + 1))) x N (jF x N r) := b2.keep rfl rfl rfl rfl
    have f2 : FM (su t2 19 8 (nI (r + 1))) (jF x N r) := fun q hq => by rw [su_row _ _ _ _ _ (by decide), b1.1 8 (by decide) (by decide)]; exact a3 q hq
    generalize su t2 19 8 (nI (r + 1)) = t3 at k2 e8 p2 f2 ⊢
    have hC3 : CO t3 (jn x) (jo x) := h.keep (k2.1 9 (by decide) (by decide)) (k2.2 5 (by decide))
    refine M_stretch (fr := jF x N r) hC3 hF (fun q hq => by rw [k2.1 7 (by decide) (by decide)]; exact h7 q hq) p2 f2 (by rw [k2.2 3 (by decide)]; exact hr) hrc (fun t4 d1 d2 => ?_)
    have k4 := k2.tr (d1.mono (rows' := [8, 10, 11, 12]) (scs' := [6, 8]) (by decide) (by decide))
    have e84 : t4 19 8 = nI (r + 1) := by rw [d1.2 8 (by decide), e8]
    have hcO := cO_0 (f := out (jn x) (jo x) N (jld x N) (jr x) (jF x N r)) N
    by_cases c : 0 < cO (out (jn x) (jo x) N (jld x N) (jr x) (jF x N r)) N
    · rw [decide_eq_true c]
      obtain ⟨i0, hi0, ho0⟩ : ∃ i, i < N ∧ out (jn x) (jo x) N (jld x N) (jr x) (jF x N r) i = true := by
        refine Classical.byContradiction (fun hno => ?_)
        have := hcO.mpr (fun i hi => by
          cases e : out (jn x) (jo x) N (jld x N) (jr x) (jF x N r) i
          · rfl
          · exact absurd ⟨i, hi, e⟩ hno)
        omega
      have hlt := cntF_lt (fr := jF x N r) hc ho0 N (Nat.le_refl N) hi0
      refine hK _ ⟨k4, Or.inr ⟨rfl, r + 1, fun r' hr' => ?_, ?_, d2, e84⟩⟩ ?_
      · rcases Nat.lt_or_ge r' r with q | q
        · exact a1 r' q
        · rw [show r' = r by omega]; exact ⟨i0, hi0, ho0⟩
      · show r + 1 ≤ cntF (jn x) (jo x) (nxF (jn x) (jo x) N (jld x N) (jr x) (jF x N r)) N
        omega
      · dsimp only
        rw [if_neg (show ¬ bI true = 0 by decide), if_neg (show ¬ (1 : Int32) = 0 by decide), e84, a4, nI_clamp (by omega), nI_clamp (by omega)]
        omega
    · rw [decide_eq_false c]
      have hR : jR x N r := ⟨a1, hcO.mp (by omega)⟩
      have hsame : nxF (jn x) (jo x) N (jld x N) (jr x) (jF x N r) = jF x N r := frs_same r hR
      refine hK _ ⟨k4, Or.inl ⟨rfl, r, hR, ?_, ?_, e84⟩⟩ ?_
      · exact p2.keep (d1.1 10 (by decide) (by decide)) (d1.1 11 (by decide) (by decide)) (d1.1 12 (by decide) (by decide)) (d1.2 6 (by decide))
      · rw [hsame] at d2
        exact d2
      · dsimp only
        rw [if_pos (show bI false = 0 from rfl), if_neg (show ¬ (1 : Int32) = 0 by decide)]
        omega
end MR
