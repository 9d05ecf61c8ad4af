/-! PURE. The class writes instructions and handlers, and rewrites. -/
section XI
variable {s : St} {Post : St → Prop} {l : List Int32} {ca pu : Nat} {x : In} {N R i : Nat}
theorem LayX.front (hL : LayX s x N R) (hF : Form x N) (hn : jn x ≤ 200) {g : Int32} {k : Nat} (hk : k < N) (hg : g = nI (jp x k)) : vp_in g 201 ∧ s 10 g.toNatClampNeg = nI (fG x N R g) := by
  have hpl : jp x k < jn x := hF.1.lt hk
  subst hg
  refine ⟨vp_in_nI (by omega) (by omega), ?_⟩
  unfold fG
  rw [nI_clamp (by omega)]
  have := (hL.2.2.2.2.2.1.1 k hk).1
  rw [show ix (jn x) (jo x) (jp x k) N = k from ix_pl hF.1 hk N hk (Nat.le_refl N)]
  exact this
theorem X_far28 (hx : IX s x) (hL : LayX s x N R) (hF : Form x N) (hi : i < N) (hk : kSw (jo x (jp x i)) = false) (hng : ng (jo x) (jp x i) = 1) (h : WX s l ca pu) (hl : l.length + 5 ≤ 1200) (k : ∀ s', KW s s' → WX s' (l ++ eFar x N R (jp x i) l.length) ca pu → Post s') : x_Output_writeFarJump_28 Post s (nI (jp x i)) := by
  have hpl : jp x i < jn x := hF.1.lt hi
  have hn := hx.1.1
  unfold x_Output_writeFarJump_28
  intro v hv
  rw [h.1.1] at hv
  subst hv
  refine X_put1 h (by omega) (fun s2 a1 a2 => ?_)
  have hx2 := hx.kw a1
  have hL2 := hL.kw a1
  obtain ⟨kk, hk1, hk2⟩ := hF.2.2.1 i hi 0 (by have : ng (jo x) (pl (jn x) (jo x) i) = 1 := hng; omega)
  obtain ⟨f1, f2⟩ := hL2.front hF hn hk1 hk2
  refine X_jumpGoal hx2.1 (by omega) hk ⟨f1, ?_⟩
  have f2' : s2 10 (goal (jo x) (jp x i) 0).toNatClampNeg = nI (fG x N R (goal (jo x) (jp x i) 0)) := f2
  rw [f2']
  refine X_put4 a2 (by rw [List.length_append, e1_len]; omega) (fun s4 b1 b2 => k s4 (a1.tr b1) ?_)
  rw [List.append_assoc] at b2
  exact b2
theorem X_writeFarJump (hx : IX s x) (hL : LayX s x N R) (hF : Form x N) (hi : i < N) (hk : kSw (jo x (jp x i)) = false) (hng : ng (jo x) (jp x i) = 1) (hJ : jo x (jp x i) = 200 ∨ jF x N R (jp x i) = true) (hS : kSJ (jo x (jp x i)) = true ∨ jo x (jp x i) = 200) (h : WX s l ca pu) (hsp : l.length = jsp x N R i) (hl : l.length + 8 ≤ 1200 ∨ ((jo x (jp x i) = 167 ∨ jo x (jp x i) = 200) ∧ l.length + 5 ≤ 1200)) (k : ∀ s', KW s s' → WX s' (l ++ eIns x N R (jp x i) (jsp x N R i)) ca pu → Post s') : x_Output_writeFarJump s (nI (jp x i)) (nI (jo x (jp x i))) Post := by
  have ho := hx.1.2.2.2.2 (jp x i)
  unfold eIns at k
  rw [if_neg (by rw [hk]; decide), ← hsp] at k
  unfold x_Output_writeFarJump
  refine wpeq (jo x (jp x i)) 167 rfl rfl (by omega) (by omega) (fun e => ?_) (fun e => wpeq (jo x (jp x i)) 200 rfl rfl (by omega) (by omega) (fun e2' => ?_) (fun e2' => ?_))
  · rw [if_pos (Or.inr ⟨hJ.elim (fun z => absurd z (by omega)) id, e⟩)] at k
    exact X_far28 hx hL hF hi hk hng h (by omega) k
  · rw [if_pos (Or.inl e2')] at k
    exact X_far28 hx hL hF hi hk hng h (by omega) k
  · have hf := hJ.elim (fun z => absurd z e2') id
    rw [if_neg (fun z => z.elim e2' (fun y => e y.2)), if_pos hf] at k
    have h8 : l.length + 8 ≤ 1200 := hl.elim id (fun z => absurd z.1 (fun y => y.elim e e2'))
    refine X_opposite.mpr ?_
    rw [kx_opposite _ ho (hS.elim id (fun z => absurd z e2')) e]
    refine X_put1 h (by omega) (fun s2 a1 a2 => X_put2 a2 (by rw [List.length_append, e1_len]; omega) (fun s3 b1 b2 => ?_))
    refine X_far28 (hx.kw (a1.tr b1)) (hL.kw (a1.tr b1)) hF hi hk hng b2 (by rw [List.length_append, List.length_append, e1_len, e2_len]; omega) (fun s4 c1 c2 => k s4 ((a1.tr b1).tr c1) ?_)
    rw [List.length_append, List.length_append, e1_len, e2_len, show l.length + 1 + 2 = l.length + 3 by omega, List.append_assoc, List.append_assoc] at c2
    exact c2
theorem X_copy (hx : IX s x) (h5 : s 5 (jp x i) = nI (ln (jn x) (jo x) (jp x i))) (hp : jp x i ≤ 200) (h : WX s l ca pu) (hl : l.length + ln (jn x) (jo x) (jp x i) ≤ 1200) (k : ∀ s', KW s s' → WX s' (l ++ eB (jo x) (jp x i) (ln (jn x) (jo x) (jp x i))) ca pu → Post s') : ∃ n : Nat, x_Output_writeInstruction_93 Post n s (nI (jp x i)) 0 := by
  have hln := ln_le (jn x) (jo x) (jp x i)
  unfold x_Output_writeInstruction_93
  refine itr_go (fun a => ∃ m, m ≤ ln (jn x) (jo x) (jp x i) ∧ a.2.1 = nI (jp x i) ∧ a.2.2 = nI m ∧ KW s a.1 ∧ WX a.1 (l ++ eB (jo x) (jp x i) m) ca pu) (fun a => 201 - a.2.2.toNatClampNeg) _ ?_ ?_
  · exact ⟨0, by omega, rfl, rfl, Keep.rf, by rw [show eB (jo x) (jp x i) 0 = [] from rfl, List.append_nil]; exact h⟩
  · rintro K ⟨s', x1, x3⟩ ⟨m, g1, g2, g3, g4, g5⟩ hK
    dsimp only at g2 g3 g4 g5 hK ⊢
    subst g2 g3
    unfold x_Output_writeInstruction_93F
    rw [nI_clamp (by omega), g4.1 5 (by decide) (by decide), h5]
    refine ⟨vp_in_nI (by omega) (by omega), wple (ln (jn x) (jo x) (jp x i)) m rfl rfl (by omega) (by omega) (fun e => ?_) (fun e => ?_)⟩
    · have : m = ln (jn x) (jo x) (jp x i) := by omega
      subst this
      exact k s' g4 g5
    · rw [nI_add]
      refine X_u1 (hx.kw g4).1 (by omega) (X_put1 g5 (by rw [List.length_append, eB_len]; omega) (fun s4 b1 b2 => ?_))
      rintro v rfl
      rw [List.append_assoc] at b2
      refine hK _ ⟨m + 1, by omega, rfl, nI_1 m, g4.tr b1, b2⟩ ?_
      show 201 - (nI m + 1).toNatClampNeg < 201 - (nI m).toNatClampNeg
      rw [nI_1, nI_clamp (by omega), nI_clamp (by omega)]
      omega
theorem X_writeSwitch (hx : IX s x) (hL : LayX s x N R) (hF : Form x N) (hi : i < N) (hk : kSw (jo x (jp x i)) = true) (h : WX s l ca pu) (hl : l.length + nlf (jn x) (jo x) (jF x N R) (jp x i) (jsp x N R i) ≤ 1200) (k : ∀ s', KW s s' → WX s' (l ++ eIns x N R (jp x i) (jsp x N R i)) ca pu → Post s') : x_Output_writeSwitch s (nI (jp x i)) (nI (jo x (jp x i))) Post := by
  have ho := hx.1.2.2.2.2 (jp x i)
  have hpl : jp x i < jn x := hF.1.lt hi
  have hn := hx.1.1
  have hln : 0 < ln (jn x) (jo x) (jp x i) := hF.1.2 i hi
  obtain ⟨m0, m20, -, w2, w42, -, -⟩ := sw_ok hk hln
  have hps := ps_le (fr := jF x N R) hF.1 (jld_le x N) i (by omega)
  have hldi := jld_le x N i
  have hNn := hF.1.le
  have hspb : jsp x N R i < 2 ^ 20 := by unfold jsp spI; omega
  have hwf := wf_gt (jsp x N R i)
  unfold eIns at k
  rw [if_pos hk] at k
  unfold nlf at hl
  rw [if_pos hk] at hl
  unfold x_Output_writeSwitch
  refine X_put1 h (by omega) (fun s2 a1 a2 => ?_)
  have hx2 := hx.kw a1
  have hL2 := hL.kw a1
  have h11 : s2 11 (jp x i) = nI (jsp x N R i) := (hL2.2.2.2.2.2.1.1 i hi).2.1
  rw [nI_clamp (by omega), h11]
  refine ⟨vp_in_nI (by omega) (by omega), X_wordsFrom (by omega) ⟨vp_in_nI (by omega) (by omega), ?_⟩⟩
  intro v hv
  rw [h11, pk_sub (by omega), show (1 : Int32) = nI 1 from rfl, pk_sub (by omega)] at hv
  subst hv
  unfold x_Output_writeSwitch_33
  refine itr_go (fun a => ∃ m, m ≤ wf (jsp x N R i) - jsp x N R i - 1 ∧ a.2.1 = nI (jp x i) ∧ a.2.2.1 = nI (jo x (jp x i)) ∧ a.2.2.2.1 = nI (wf (jsp x N R i) - jsp x N R i - 1) ∧ a.2.2.2.2 = nI m ∧ KW s a.1 ∧ WX a.1 (l ++ (e1 (nI (jo x (jp x i))) ++ eZ m)) ca pu) (fun a => 201 - a.2.2.2.2.toNatClampNeg) _ ?_ ?_
  · exact ⟨0, by omega, rfl, rfl, rfl, rfl, a1, by rw [show eZ 0 = [] from rfl, List.append_nil]; exact a2⟩
  · rintro K ⟨s', x1, x2, x3, x4⟩ ⟨m, g1, g2, g3, g4, g5, g6, g7⟩ hK
    dsimp only at g2 g3 g4 g5 g6 g7 hK ⊢
    subst g2 g3 g4 g5
    unfold x_Output_writeSwitch_33F
    refine wple (wf (jsp x N R i) - jsp x N R i - 1) m rfl rfl (by omega) (by omega) (fun e => ?_) (fun e => ?_)
    · have hm : m = wf (jsp x N R i) - jsp x N R i - 1 := by omega
      have hx3 := hx.kw g6
      have hL3 := hL.kw g6
      have h5 : s' 5 (jp x i) = nI (ln (jn x) (jo x) (jp x i)) := by
        rw [hL3.2.2.1 _ (by omega)]
        unfold Ls
        rw [if_pos (show stB (jn x) (jo x) N (jp x i) = true from stB_iff.mpr ⟨i, hi, rfl⟩)]
      refine X_wordsOf (by omega) h5 hk hln hn ?_
      unfold x_Output_writeSwitch_63
      refine itr_go (fun a => ∃ w, w ≤ nw (jo x) (jp x i) ∧ a.2.1 = nI (jp x i) ∧ a.2.2.1 = nI (jo x (jp x i)) ∧ a.2.2.2.1 = nI (nw (jo x) (jp x i)) ∧ a.2.2.2.2 = nI w ∧ KW s a.1 ∧ WX a.1 (l ++ (e1 (nI (jo x (jp x i))) ++ (eZ (wf (jsp x N R i) - jsp x N R i - 1) ++ eWs x N R (jp x i) (jsp x N R i) w))) ca pu) (fun a => 201 - a.2.2.2.2.toNatClampNeg) _ ?_ ?_
      · refine ⟨0, by omega, rfl, rfl, rfl, rfl, g6, ?_⟩
        rw [show eWs x N R (jp x i) (jsp x N R i) 0 = [] from rfl, List.append_nil, ← hm]
        exact g7
      · rintro K2 ⟨t, y1, y2, y3, y4⟩ ⟨w, u1, u2, u3, u4, u5, u6, u7⟩ hK2
        dsimp only at u2 u3 u4 u5 u6 u7 hK2 ⊢
        subst u2 u3 u4 u5
        have hx4 := hx.kw u6
        have hL4 := hL.kw u6
        unfold x_Output_writeSwitch_63F
        refine wple (nw (jo x) (jp x i)) w rfl rfl (by omega) (by omega) (fun e3 => ?_) (fun e3 => ?_)
        · have : w = nw (jo x) (jp x i) := by omega
          subst this
          exact k t u6 u7
        · have hlen : (l ++ (e1 (nI (jo x (jp x i))) ++ (eZ (wf (jsp x N R i) - jsp x N R i - 1) ++ eWs x N R (jp x i) (jsp x N R i) w))).length + 4 ≤ 1200 := by
            rw [List.length_append, List.length_append, List.length_append, e1_len, eZ_len, eWs_len]
            omega
          have nxt : ∀ s4, KW t s4 → WX s4 ((l ++ (e1 (nI (jo x (jp x i))) ++ (eZ (wf (jsp x N R i) - jsp x N R i - 1) ++ eWs x N R (jp x i) (jsp x N R i) w))) ++ eW x N R (jp x i) (jsp x N R i) w) ca pu → x_Output_writeSwitch_134 (fun s x1 x2 x4 x5 => K2 (s, x1, x2, x4, x5)) Post s4 (nI (jp x i)) (nI (jo x (jp x i))) (nI (nw (jo x) (jp x i))) (nI w) := by
            intro s4 d1 d2
            unfold x_Output_writeSwitch_134
            rintro v rfl
            refine hK2 _ ⟨w + 1, by omega, rfl, rfl, rfl, nI_1 w, u6.tr d1, ?_⟩ ?_
            · rw [List.append_assoc, List.append_assoc, List.append_assoc] at d2
              exact d2
            · show 201 - (nI w + 1).toNatClampNeg < 201 - (nI w).toNatClampNeg
              rw [nI_1, nI_clamp (by omega), nI_clamp (by omega)]
              omega
          unfold eW at nxt
          have hwf2 := wf_gt (jp x i)
          refine X_isGoalWord ho (by omega) (wpb (fun e4' => ?_) (fun e4' => ?_))
          · rw [if_neg (by rw [e4']; decide)] at nxt
            refine X_wordsFrom (by omega) ?_
            rw [show (4 : Int32) * nI w = nI (4 * w) from pk_mul 4 w, nI_add]
            exact X_s4 hx4.1 (by omega) (X_put4 u7 hlen nxt)
          · rw [if_pos e4'] at nxt
            obtain ⟨j, hj1, hj2⟩ := gw_out hk (by omega) e4'
            obtain ⟨kk, hk1, hk2⟩ := hF.2.2.1 i hi j hj1
            have hg : nI (jp x i) + S4 (jo x) (wf (jp x i) + 4 * w) = nI (jp x kk) := by
              rw [← hj2]
              have := goal_sw hk j
              rw [← this]
              exact hk2
            obtain ⟨f1, f2⟩ := hL4.front hF hn hk1 hg
            refine X_wordGoal hx4.1 (by omega) (by omega) ⟨f1, vp_in_nI (by omega) (by omega), ?_⟩
            rw [f2, nI_clamp (by omega), show t 11 (jp x i) = nI (jsp x N R i) from (hL4.2.2.2.2.2.1.1 i hi).2.1]
            exact X_put4 u7 hlen nxt
    · refine X_put1 g7 (by rw [List.length_append, List.length_append, e1_len, eZ_len]; omega) (fun s4 b1 b2 => ?_)
      rintro v rfl
      rw [List.append_assoc, List.append_assoc] at b2
      refine hK _ ⟨m + 1, by omega, rfl, rfl, rfl, nI_1 m, g6.tr b1, b2⟩ ?_
      show 201 - (nI m + 1).toNatClampNeg < 201 - (nI m).toNatClampNeg
      rw [nI_1, nI_clamp (by omega), nI_clamp (by omega)]
      omega
theorem X_writeInstruction (hx : IX s x) (hL : LayX s x N R) (hF : Form x N) (hi : i < N) (h : WX s l ca pu) (hsp : l.length = jsp x N R i) (hl : l.length + nlf (jn x) (jo x) (jF x N R) (jp x i) (jsp x N R i) ≤ 1200) (k : ∀ s', KW s s' → WX s' (l ++ eIns x N R (jp x i) (jsp x N R i)) ca pu → Post s') : x_Output_writeInstruction s (nI (jp x i)) Post := by
  have ho := hx.1.2.2.2.2 (jp x i)
  have hpl : jp x i < jn x := hF.1.lt hi
  have hn := hx.1.1
  have hln : 0 < ln (jn x) (jo x) (jp x i) := hF.1.2 i hi
  have hst : stB (jn x) (jo x) N (jp x i) = true := stB_iff.mpr ⟨i, hi, rfl⟩
  unfold x_Output_writeInstruction
  refine X_u1 hx.1 (by omega) (XK_isSwitch ho (wpb (fun e => ?_) (fun e => ?_)))
  · have hlen := eIns_len hF.1 R hi (jsp x N R i)
    rw [nI_clamp (by omega), hL.2.2.2.2.2.2.1 _ (by omega), hst, Bool.true_and]
    refine ⟨vp_in_nI (by omega) (by omega), wpb (fun e2' => ?_) (fun e2' => ?_)⟩
    · simp only [Bool.or_eq_false_iff, beq_eq_false_iff_ne] at e2'
      unfold eIns at k
      rw [if_neg (by rw [e]; decide), if_neg (fun z => z.elim e2'.1 (fun y => by rw [e2'.2] at y; cases y.1)), if_neg (by rw [e2'.2]; decide)] at k
      unfold nlf at hl
      rw [if_neg (by rw [e]; decide), if_neg e2'.1, if_neg (by rw [e2'.2]; decide)] at hl
      refine XK_isShortJump ho (wpb (fun e3 => ?_) (fun e3 => ?_))
      · rw [if_neg (by rw [e3]; decide)] at k
        refine X_copy hx ?_ (by omega) h hl k
        rw [hL.2.2.1 _ (by omega)]
        unfold Ls
        rw [if_pos hst]
      · rw [if_pos e3] at k
        obtain ⟨hng, -⟩ := ng_SJ e3
        have h3 : 3 ≤ ln (jn x) (jo x) (jp x i) := by
          have h4 : ∀ q, q < 256 → kSJ q = true → kPl q = 3 ∧ q ≠ 196 ∧ kSw q = false := all_of (P := fun q => kSJ q = true → kPl q = 3 ∧ q ≠ 196 ∧ kSw q = false) (by decide +kernel)
          obtain ⟨c1, c2, c3⟩ := h4 _ ho e3
          rw [(ln_pos hln).2]
          unfold lnR
          rw [if_pos (st_op hln).1, if_neg c2, if_neg (by rw [c3]; decide), c1]
          omega
        refine X_put1 h (by omega) (fun s2 a1 a2 => ?_)
        have hx2 := hx.kw a1
        have hL2 := hL.kw a1
        obtain ⟨kk, hk1, hk2⟩ := hF.2.2.1 i hi 0 (by have : ng (jo x) (pl (jn x) (jo x) i) = 1 := hng; omega)
        obtain ⟨f1, f2⟩ := hL2.front hF hn hk1 hk2
        refine X_jumpGoal hx2.1 (by omega) e ⟨f1, vp_in_nI (by omega) (by omega), ?_⟩
        have f2' : s2 10 (goal (jo x) (jp x i) 0).toNatClampNeg = nI (fG x N R (goal (jo x) (jp x i) 0)) := f2
        rw [f2', show s2 11 (jp x i) = nI (jsp x N R i) from (hL2.2.2.2.2.2.1.1 i hi).2.1]
        refine X_put2 a2 (by rw [List.length_append, e1_len]; omega) (fun s4 b1 b2 => k s4 (a1.tr b1) ?_)
        rw [List.append_assoc] at b2
        exact b2
    · simp only [Bool.or_eq_true, beq_iff_eq] at e2'
      have hS : kSJ (jo x (jp x i)) = true ∨ jo x (jp x i) = 200 := e2'.elim Or.inr (fun z => Or.inl (frs_SJ hF.1 R i hi z))
      have hng : ng (jo x) (jp x i) = 1 := by
        unfold ng
        rw [if_neg (by rw [e]; decide), if_pos hS]
      refine X_writeFarJump hx hL hF hi e hng e2' hS h hsp ?_ k
      unfold nlf at hl
      rw [if_neg (by rw [e]; decide)] at hl
      by_cases c2 : jo x (jp x i) = 200
      · rw [if_pos c2] at hl
        exact Or.inr ⟨Or.inr c2, hl⟩
      · rw [if_neg c2, if_pos (e2'.elim (fun z => absurd z c2) id)] at hl
        by_cases c3 : jo x (jp x i) = 167
        · rw [if_pos c3] at hl
          exact Or.inr ⟨Or.inl c3, hl⟩
        · rw [if_neg c3] at hl
          exact Or.inl hl
  · exact X_writeSwitch hx hL hF hi e h hl k
end XI
