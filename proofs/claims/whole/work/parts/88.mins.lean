/-! PURE. The reference writes instructions. -/
section MI
variable {t : St} {Post : St → Prop} {l : List Int32} {ca pu fa : Nat} {x : In} {N R i : Nat}
theorem fG_pl (hF : Form x N) {k : Nat} (hk : k < N) (hn : jn x ≤ 200) : fG x N R (nI (jp x k)) = frI (jn x) (jo x) (jld x N) (jF x N R) k := by
  have hpl : jp x k < jn x := hF.1.lt hk
  unfold fG
  rw [nI_clamp (by omega), show ix (jn x) (jo x) (jp x k) N = k from ix_pl hF.1 hk N hk (Nat.le_refl N)]
theorem M_frontG {P : Int32 → St → Prop} (hE : EM t x N R) (hF : Form x N) {g : Int32} {k : Nat} (hk : k < N) (hg : g = nI (jp x k)) (kk : P (nI (fG x N R g)) t) : x_Model_front t g P := by
  subst hg
  rw [fG_pl hF hk hE.1.1] at kk
  exact M_front hE.1.1 hF hE.2.2.2.2.2.1 hk kk
/-- behind a jump: far ones are counted -/
theorem M_190 (hE : EM t x N R) (hp : jp x i ≤ 200) (h : WM t l ca pu fa) (k : ∀ t', KV t t' → WM t' l ca pu (fa + (if jF x N R (jp x i) = true then 1 else 0)) → Post t') : x_Model_instruction_190 Post t (nI (jp x i)) := by
  unfold x_Model_instruction_190
  rw [nI_clamp (by omega), hE.2.2.2.2.2.2.1 _ hp]
  refine ⟨vp_in_nI (by omega) (by omega), wpb (fun e => ?_) (fun e => ?_)⟩
  · rw [e] at k
    exact k t Keep.rf h
  · rintro s43 rfl
    rw [if_pos e] at k
    obtain ⟨⟨c1, c2⟩, c3, c4, c5⟩ := h
    refine k _ (Keep.rf.scal (by decide)) ⟨⟨c1, c2⟩, c3, c4, ?_⟩
    rw [su_at, c5]
    exact nI_1 _
theorem M_copy (hE : EM t x N R) (hp : jp x i < jn x) (hend : jp x i + ln (jn x) (jo x) (jp x i) ≤ jn x) (h : WM t l ca pu fa) (hl : l.length + ln (jn x) (jo x) (jp x i) ≤ 1200) (k : ∀ t', KV t t' → WM t' (l ++ eB (jo x) (jp x i) (ln (jn x) (jo x) (jp x i))) ca pu fa → Post t') : ∃ n : Nat, x_Model_instruction_39 Post n t (nI (jp x i)) (nI (ln (jn x) (jo x) (jp x i))) 0 := by
  have hln := ln_le (jn x) (jo x) (jp x i)
  have hn := hE.1.1
  unfold x_Model_instruction_39
  refine itr_go (fun a => ∃ m, m ≤ ln (jn x) (jo x) (jp x i) ∧ a.2.1 = nI (jp x i) ∧ a.2.2.1 = nI (ln (jn x) (jo x) (jp x i)) ∧ a.2.2.2 = nI m ∧ KV t a.1 ∧ WM a.1 (l ++ eB (jo x) (jp x i) m) ca pu fa) (fun a => 201 - a.2.2.2.toNatClampNeg) _ ⟨0, by omega, rfl, rfl, rfl, Keep.rf, by rw [show eB (jo x) (jp x i) 0 = [] from rfl, List.append_nil]; exact h⟩ ?_
  rintro K ⟨s', x1, x3, x5⟩ ⟨m, g1, g2, g3, g4, g5, g6⟩ hK
  dsimp only at g2 g3 g4 g5 g6 hK ⊢
  subst g2 g3 g4
  unfold x_Model_instruction_39F
  refine wple (ln (jn x) (jo x) (jp x i)) m rfl rfl (by omega) (by omega) (fun e => ?_) (fun e => ?_)
  · have : m = ln (jn x) (jo x) (jp x i) := by omega
    subst this
    exact k s' g5 g6
  · rw [nI_add, nI_clamp (by omega), (hE.ke g5.e).1.2.2.1 _ (by omega)]
    refine ⟨vp_in_nI (by omega) (by omega), M_put1 g6 (by rw [List.length_append, eB_len]; omega) (fun s4 b1 b2 => ?_)⟩
    rintro v rfl
    rw [List.append_assoc] at b2
    refine hK _ ⟨m + 1, by omega, rfl, rfl, nI_1 m, g5.tr b1, b2⟩ ?_
    show 201 - (nI m + 1).toNatClampNeg < 201 - (nI m).toNatClampNeg
    rw [nI_1, nI_clamp (by omega), nI_clamp (by omega)]
    omega
theorem eW_g {p sp j : Nat} (hk : kSw (jo x p) = true) (hj : j < ng (jo x) p) : eW x N R p sp (gw (jo x) p j) = e4 (nI (fG x N R (goal (jo x) p j)) - nI sp) := by
  unfold eW
  rw [if_pos (gw_in hk hj).2, goal_sw hk]
theorem eW_n {p sp w : Nat} (h : isGw (jo x) p w = false) : eW x N R p sp w = e4 (S4 (jo x) (wf p + 4 * w)) := by
  unfold eW
  rw [if_neg (by rw [h]; decide)]
theorem M_table (hE : EM t x N R) (hF : Form x N) (hi : i < N) (hk : kSw (jo x (jp x i)) = true) (h : WM t l ca pu fa) (hsp : l.length = jsp x N R i) (hl : l.length + nlf (jn x) (jo x) (jF x N R) (jp x i) (jsp x N R i) ≤ 1200) (a3 : Int32) (k : ∀ t', KV t t' → WM t' (l ++ eIns x N R (jp x i) (jsp x N R i)) ca pu fa → Post t') : x_Model_table t (nI (jp x i)) (nI (jo x (jp x i))) a3 (nI l.length) Post := by
  have hn := hE.1.1
  have ho := hE.1.2.2.2.2 (jp x i)
  have hpl : jp x i < jn x := hF.1.lt hi
  have hln : 0 < ln (jn x) (jo x) (jp x i) := hF.1.2 i hi
  obtain ⟨m0, m20, -, w2, w42, hend, hend2⟩ := sw_ok hk hln
  have hngv : ng (jo x) (jp x i) = 1 + (swm (jo x) (jp x i)).toNat := if_pos hk
  have hwf := wf_gt (jsp x N R i)
  have hwfs : wf (jsp x N R i) - jsp x N R i - 1 = 3 - jsp x N R i % 4 := by unfold wf; omega
  have hwp := wf_gt (jp x i)
  unfold eIns at k
  rw [if_pos hk, hwfs] at k
  unfold nlf at hl
  rw [if_pos hk] at hl
  have hwf2 : wf (jsp x N R i) - jsp x N R i = 4 - jsp x N R i % 4 := by unfold wf; omega
  rw [hwf2] at hl
  -- the words up to w are written
  have wd : ∀ w, (l ++ (e1 (nI (jo x (jp x i))) ++ (eZ (3 - jsp x N R i % 4) ++ eWs x N R (jp x i) (jsp x N R i) w))).length = l.length + (4 - jsp x N R i % 4) + 4 * w := fun w => by
    rw [List.length_append, List.length_append, List.length_append, e1_len, eZ_len, eWs_len]
    omega
  have stp : ∀ (s' : St) (w : Nat), WM s' ((l ++ (e1 (nI (jo x (jp x i))) ++ (eZ (3 - jsp x N R i % 4) ++ eWs x N R (jp x i) (jsp x N R i) w))) ++ eW x N R (jp x i) (jsp x N R i) w) ca pu fa → WM s' (l ++ (e1 (nI (jo x (jp x i))) ++ (eZ (3 - jsp x N R i % 4) ++ eWs x N R (jp x i) (jsp x N R i) (w + 1)))) ca pu fa := by
    intro s' w hw
    rw [List.append_assoc, List.append_assoc, List.append_assoc] at hw
    exact hw
  unfold x_Model_table
  intro v1 hv1
  rw [rem4 (by omega), show nI (jp x i) + 4 = nI (jp x i + 4) from nI_add _ 4, pk_sub (by omega), show jp x i + 4 - jp x i % 4 = wf (jp x i) from rfl] at hv1
  subst hv1
  have hg0 := hF.2.2.1 i hi 0 (by have : ng (jo x) (pl (jn x) (jo x) i) = 1 + (swm (jo x) (jp x i)).toNat := hngv; omega)
  obtain ⟨k0, hk01, hk02⟩ := hg0
  refine M_goal (j := 0) hE.1 hpl hln (by omega) (M_goals hE.1 hpl hln ?_)
  refine M_put1 h (by omega) (fun s7 b1 b2 => ?_)
  rw [rem4 (by omega), show (3 : Int32) - nI (l.length % 4) = nI (3 - l.length % 4) from pk_sub (a := 3) (by omega)]
  refine M_put b2 (by rw [List.length_append, e1_len, hsp]; omega) (fun s9 c1 c2 => ?_)
  rw [eP_0, hsp, List.append_assoc] at c2
  have c2' : WM s9 (l ++ (e1 (nI (jo x (jp x i))) ++ (eZ (3 - jsp x N R i % 4) ++ eWs x N R (jp x i) (jsp x N R i) 0))) ca pu fa := by
    rw [show eWs x N R (jp x i) (jsp x N R i) 0 = [] from rfl, List.append_nil]
    exact c2
  have hE9 := hE.ke (b1.tr c1).e
  refine M_frontG hE9 hF hk01 hk02 ?_
  have w0 := wd 0
  refine M_put4 c2' (by omega) (fun s13 d1 d2 => ?_)
  have hnl : nI (jsp x N R i) = nI l.length := by rw [hsp]
  have q0 : eW x N R (jp x i) (jsp x N R i) 0 = e4 (nI (fG x N R (goal (jo x) (jp x i) 0)) - nI l.length) := by
    have := eW_g (x := x) (N := N) (R := R) (p := jp x i) (sp := jsp x N R i) (j := 0) hk (by omega)
    rw [hnl] at this
    exact this
  have d2' : WM s13 (l ++ (e1 (nI (jo x (jp x i))) ++ (eZ (3 - jsp x N R i % 4) ++ eWs x N R (jp x i) (jsp x N R i) 1))) ca pu fa := stp s13 0 (by
    rw [q0]
    exact d2)
  have hE13 := hE.ke ((b1.tr c1).tr d1).e
  rw [show nI (wf (jp x i)) + 4 = nI (wf (jp x i) + 4) from nI_add _ 4]
  refine M_s4 hE13.1 (by omega) ?_
  have w1 := wd 1
  refine M_put4 d2' (by omega) (fun s17 u1 u2 => ?_)
  have u2' : WM s17 (l ++ (e1 (nI (jo x (jp x i))) ++ (eZ (3 - jsp x N R i % 4) ++ eWs x N R (jp x i) (jsp x N R i) 2))) ca pu fa := stp s17 1 (by
    rw [eW_n (by rfl)]
    exact u2)
  have k17 : KV t s17 := ((b1.tr c1).tr d1).tr u1
  have loop : ∀ s22, KV t s22 → WM s22 (l ++ (e1 (nI (jo x (jp x i))) ++ (eZ (3 - jsp x N R i % 4) ++ eWs x N R (jp x i) (jsp x N R i) (if jo x (jp x i) = 170 then 3 else 2)))) ca pu fa → x_Model_table_89 Post s22 (nI (jp x i)) (nI (jo x (jp x i))) (nI l.length) (nI (ng (jo x) (jp x i))) := by
    intro s22 p1 p2
    unfold x_Model_table_89 x_Model_table_92
    refine itr_go (fun a => ∃ j, 1 ≤ j ∧ j ≤ ng (jo x) (jp x i) ∧ a.2.1 = nI (jp x i) ∧ a.2.2.1 = nI (jo x (jp x i)) ∧ a.2.2.2.1 = nI l.length ∧ a.2.2.2.2.1 = nI (ng (jo x) (jp x i)) ∧ a.2.2.2.2.2 = nI j ∧ KV t a.1 ∧ WM a.1 (l ++ (e1 (nI (jo x (jp x i))) ++ (eZ (3 - jsp x N R i % 4) ++ eWs x N R (jp x i) (jsp x N R i) (if jo x (jp x i) = 170 then 2 + j else 2 * j)))) ca pu fa) (fun a => 201 - a.2.2.2.2.2.toNatClampNeg) _ ⟨1, by omega, by omega, rfl, rfl, rfl, rfl, rfl, p1, p2⟩ ?_
    rintro K ⟨s', y1, y2, y4, y7, y8⟩ ⟨j, q0, q1, q2, q3, q4, q5, q6, q7, q8⟩ hK
    dsimp only at q2 q3 q4 q5 q6 q7 q8 hK ⊢
    subst q2 q3 q4 q5 q6
    unfold x_Model_table_92F
    refine wple (ng (jo x) (jp x i)) j rfl rfl (by omega) (by omega) (fun e => ?_) (fun e => ?_)
    · refine k s' q7 ?_
      have : (if jo x (jp x i) = 170 then 2 + j else 2 * j) = nw (jo x) (jp x i) := by
        unfold nw
        split <;> omega
      rw [this] at q8
      exact q8
    · have hE' := hE.ke q7.e
      obtain ⟨kj, hkj1, hkj2⟩ := hF.2.2.1 i hi j (by have : ng (jo x) (pl (jn x) (jo x) i) = 1 + (swm (jo x) (jp x i)).toNat := hngv; omega)
      have gj : ∀ (s3 : St) (w : Nat), KV t s3 → w = gw (jo x) (jp x i) j → WM s3 (l ++ (e1 (nI (jo x (jp x i))) ++ (eZ (3 - jsp x N R i % 4) ++ eWs x N R (jp x i) (jsp x N R i) w))) ca pu fa → w + 1 = (if jo x (jp x i) = 170 then 2 + (j + 1) else 2 * (j + 1)) → w < nw (jo x) (jp x i) → x_Model_table_124 (fun s x1 x2 x4 x7 x8 => K (s, x1, x2, x4, x7, x8)) Post s3 (nI (jp x i)) (nI (jo x (jp x i))) (nI l.length) (nI (ng (jo x) (jp x i))) (nI j) := by
        intro s3 w r1 r2 r3 r4 r5
        have hE3 := hE.ke r1.e
        have ww := wd w
        unfold x_Model_table_124
        refine M_goal hE3.1 hpl hln (by omega) (M_frontG hE3 hF hkj1 hkj2 (M_put4 r3 (by omega) (fun s4 z1 z2 => ?_)))
        rintro v rfl
        have qj : eW x N R (jp x i) (jsp x N R i) w = e4 (nI (fG x N R (goal (jo x) (jp x i) j)) - nI l.length) := by
          rw [r2, eW_g hk (by omega), hnl]
        have z2' := stp s4 w (by
          rw [qj]
          exact z2)
        rw [r4] at z2'
        refine hK _ ⟨j + 1, by omega, by omega, rfl, rfl, rfl, rfl, nI_1 j, r1.tr z1, z2'⟩ ?_
        show 201 - (nI j + 1).toNatClampNeg < 201 - (nI j).toNatClampNeg
        rw [nI_1, nI_clamp (by omega), nI_clamp (by omega)]
        omega
      refine wpeqn (jo x (jp x i)) 171 rfl rfl (by omega) (by omega) (fun e2' => ?_) (fun e2' => ?_)
      · have h170 : jo x (jp x i) = 170 := (kSw_or hk).elim id (fun z => absurd z e2')
        rw [if_pos h170] at q8
        refine gj s' (2 + j) q7 ?_ q8 ?_ ?_
        · unfold gw
          rw [if_neg (by omega), if_pos h170]
        · rw [if_pos h170]; omega
        · unfold nw
          rw [if_pos h170]; omega
      · have h170 : ¬ jo x (jp x i) = 170 := by omega
        rw [if_neg h170] at q8
        have hgw : gw (jo x) (jp x i) j = 1 + 2 * j := by
          unfold gw
          rw [if_neg (by omega), if_neg h170]
        have hnw : nw (jo x) (jp x i) = 2 + 2 * (swm (jo x) (jp x i)).toNat := by
          unfold nw
          rw [if_neg h170]
        refine M_placeOfGoal hE'.1 hpl (by omega) ?_
        rw [hgw, show nI (wf (jp x i) + 4 * (1 + 2 * j)) - (4 : Int32) = nI (wf (jp x i) + 4 * (2 * j)) by
          rw [show nI (wf (jp x i) + 4 * (1 + 2 * j)) - (4 : Int32) = nI (wf (jp x i) + 4 * (1 + 2 * j) - 4) from pk_sub (b := 4) (by omega)]
          congr 1
          omega]
        have ww := wd (2 * j)
        refine M_s4 hE'.1 (by omega) (M_put4 q8 (by omega) (fun s30 z1 z2 => ?_))
        have z2' := stp s30 (2 * j) (by
          rw [eW_n (by simp [isGw, h170]; omega)]
          exact z2)
        refine gj s30 (2 * j + 1) (q7.tr z1) (by omega) z2' (by rw [if_neg h170]; omega) (by omega)
  refine wpeqn (jo x (jp x i)) 170 rfl rfl (by omega) (by omega) (fun e => ?_) (fun e => ?_)
  · refine loop s17 k17 ?_
    rw [if_neg e]
    exact u2'
  · have hE17 := hE.ke k17.e
    have hnw : nw (jo x) (jp x i) = 3 + (swm (jo x) (jp x i)).toNat := by
      unfold nw
      rw [if_pos e]
    rw [show nI (wf (jp x i)) + 8 = nI (wf (jp x i) + 8) from nI_add _ 8]
    have w2' := wd 2
    refine M_s4 hE17.1 (by omega) (M_put4 u2' (by omega) (fun s22 z1 z2 => loop s22 (k17.tr z1) ?_))
    rw [if_pos e]
    refine stp s22 2 ?_
    rw [eW_n (by simp [isGw])]
    exact z2
theorem sub3 (f : Int32) (s : Nat) : f - nI s - 3 = f - nI (s + 3) := by
  rw [show nI (s + 3) = nI s + 3 from (nI_add s 3).symm, Int32.sub_eq_add_neg, Int32.sub_eq_add_neg, Int32.sub_eq_add_neg, Int32.neg_add, Int32.sub_eq_add_neg, Int32.add_assoc]
theorem M_instruction (hE : EM t x N R) (hF : Form x N) (hi : i < N) (h : WM t l ca pu fa) (hsp : l.length = jsp x N R i) (hl : l.length + nlf (jn x) (jo x) (jF x N R) (jp x i) (jsp x N R i) ≤ 1200) (k : ∀ t', KV t t' → WM t' (l ++ eIns x N R (jp x i) (jsp x N R i)) ca pu (fa + (if jF x N R (jp x i) = true then 1 else 0)) → Post t') : x_Model_instruction t (nI (jp x i)) (nI (jo x (jp x i))) Post := by
  have hn := hE.1.1
  have ho := hE.1.2.2.2.2 (jp x i)
  have hpl : jp x i < jn x := hF.1.lt hi
  have hln : 0 < ln (jn x) (jo x) (jp x i) := hF.1.2 i hi
  have hfs : jF x N R (jp x i) = true → kSJ (jo x (jp x i)) = true := fun z => frs_SJ hF.1 R i hi z
  unfold x_Model_instruction
  refine M_length hE.1 hpl ?_
  intro v hv
  rw [h.1.1] at hv
  subst hv
  refine MK_isTable ho (wpb (fun e => ?_) (fun e => ?_))
  rotate_left
  · have hno : jF x N R (jp x i) = false := by
      cases q : jF x N R (jp x i)
      · rfl
      · have := hfs q
        rw [(ng_SJ this).2] at e
        cases e
    refine M_table hE hF hi e h hsp hl _ (fun t' a1 a2 => k t' a1 ?_)
    rw [hno]
    exact a2
  unfold eIns at k
  rw [if_neg (by rw [e]; decide)] at k
  unfold nlf at hl
  rw [if_neg (by rw [e]; decide)] at hl
  refine MK_isJump ho (wpbn (fun e2' => ?_) (fun e2' => ?_))
  rotate_left
  · have c1 : kSJ (jo x (jp x i)) = false ∧ jo x (jp x i) ≠ 200 := by
      simpa [kJ] using e2'
    have hno : jF x N R (jp x i) = false := by
      cases q : jF x N R (jp x i)
      · rfl
      · have := hfs q
        rw [c1.1] at this
        cases this
    rw [if_neg (fun z => z.elim c1.2 (fun y => by rw [hno] at y; cases y.1)), if_neg (by rw [hno]; decide), if_neg (by rw [c1.1]; decide)] at k
    rw [if_neg c1.2, if_neg (by rw [hno]; decide)] at hl
    refine M_copy hE hpl (ln_pos hln).1 h hl (fun t' a1 a2 => k t' a1 ?_)
    rw [hno]
    exact a2
  have hng : ng (jo x) (jp x i) = 1 := by
    unfold ng
    simp only [kJ, Bool.or_eq_true, beq_iff_eq] at e2'
    rw [if_neg (by rw [e]; decide), if_pos e2']
  obtain ⟨kk, hk1, hk2⟩ := hF.2.2.1 i hi 0 (by have : ng (jo x) (pl (jn x) (jo x) i) = 1 := hng; omega)
  refine M_goal (j := 0) hE.1 hpl hln (by omega) (M_frontG hE hF hk1 hk2 ?_)
  have f105 : (jo x (jp x i) = 200 ∨ (jF x N R (jp x i) = true ∧ jo x (jp x i) = 167)) → x_Model_instruction_105 Post t (nI (jp x i)) (nI l.length) (nI (fG x N R (goal (jo x) (jp x i) 0))) := by
    intro c
    rw [if_pos c, ← hsp] at k
    have hl5 : l.length + 5 ≤ 1200 := by
      rcases c with z | z
      · rw [if_pos z] at hl; exact hl
      · rw [if_neg (by omega), if_pos z.1, if_pos z.2] at hl; exact hl
    unfold x_Model_instruction_105
    refine M_put1 h (by omega) (fun s2 a1 a2 => M_put4 a2 (by rw [List.length_append, e1_len]; omega) (fun s3 b1 b2 => M_190 (hE.ke (a1.tr b1).e) (by omega) b2 (fun s4 c1 c2 => k s4 ((a1.tr b1).tr c1) ?_)))
    rw [List.append_assoc] at c2
    exact c2
  have f126 : ¬ (jo x (jp x i) = 200 ∨ (jF x N R (jp x i) = true ∧ jo x (jp x i) = 167)) → x_Model_instruction_126 Post t (nI (jp x i)) (nI (jo x (jp x i))) (nI l.length) (nI (fG x N R (goal (jo x) (jp x i) 0))) := by
    intro c
    have c200 : ¬ jo x (jp x i) = 200 := fun z => c (Or.inl z)
    have hSJ : kSJ (jo x (jp x i)) = true := by
      simp only [kJ, Bool.or_eq_true, beq_iff_eq] at e2'
      exact e2'.elim id (fun z => absurd z c200)
    rw [if_neg c, ← hsp] at k
    rw [if_neg c200] at hl
    unfold x_Model_instruction_126
    rw [nI_clamp (by omega), hE.2.2.2.2.2.2.1 _ (by omega)]
    refine ⟨vp_in_nI (by omega) (by omega), wpb (fun e3 => ?_) (fun e3 => ?_)⟩
    · rw [if_neg (c := jF x N R (jp x i) = true) (by rw [e3]; decide), if_pos hSJ] at k
      rw [if_neg (c := jF x N R (jp x i) = true) (by rw [e3]; decide)] at hl
      have h3 : 3 ≤ ln (jn x) (jo x) (jp x i) := by
        have h4 : ∀ q, q < 256 → kSJ q = true → kPl q = 3 ∧ q ≠ 196 ∧ kSw q = false := all_of (P := fun q => kSJ q = true → kPl q = 3 ∧ q ≠ 196 ∧ kSw q = false) (by decide +kernel)
        obtain ⟨c1, c2, c3⟩ := h4 _ ho hSJ
        rw [(ln_pos hln).2]
        unfold lnR
        rw [if_pos (st_op hln).1, if_neg c2, if_neg (by rw [c3]; decide), c1]
        omega
      refine M_put1 h (by omega) (fun s2 a1 a2 => M_put2 a2 (by rw [List.length_append, e1_len]; omega) (fun s3 b1 b2 => M_190 (hE.ke (a1.tr b1).e) (by omega) b2 (fun s4 c1 c2 => k s4 ((a1.tr b1).tr c1) ?_)))
      rw [List.append_assoc] at c2
      exact c2
    · have c167 : jo x (jp x i) ≠ 167 := fun z => c (Or.inr ⟨e3, z⟩)
      rw [if_pos e3] at hl
      rw [if_pos e3] at k
      rw [if_neg c167] at hl
      refine M_opposite.mpr ?_
      rw [km_opposite _ ho hSJ c167, sub3]
      refine M_put1 h (by omega) (fun s2 a1 a2 => M_put2 a2 (by rw [List.length_append, e1_len]; omega) (fun s3 b1 b2 => M_put1 b2 (by rw [List.length_append, List.length_append, e1_len, e2_len]; omega) (fun s4 c1 c2 => M_put4 c2 (by rw [List.length_append, List.length_append, List.length_append, e1_len, e2_len, e1_len]; omega) (fun s5 d1 d2 => M_190 (hE.ke (((a1.tr b1).tr c1).tr d1).e) (by omega) d2 (fun s6 u1 u2 => k s6 ((((a1.tr b1).tr c1).tr d1).tr u1) ?_)))))
      rw [List.append_assoc, List.append_assoc, List.append_assoc] at u2
      exact u2
  refine wpeq (jo x (jp x i)) 200 rfl rfl (by omega) (by omega) (fun e3 => f105 (Or.inl e3)) (fun e3 => ⟨vp_in_nI (by omega) (by omega), ?_⟩)
  rw [nI_clamp (by omega), hE.2.2.2.2.2.2.1 _ (by omega)]
  refine wpb (fun e4' => f126 (fun z => z.elim e3 (fun y => by rw [e4'] at y; cases y.1))) (fun e4' => wpeqn (jo x (jp x i)) 167 rfl rfl (by omega) (by omega) (fun e5 => f126 (fun z => z.elim e3 (fun y => e5 y.2))) (fun e5 => f105 (Or.inr ⟨e4', e5⟩)))
end MI
