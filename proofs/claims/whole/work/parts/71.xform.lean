/-! PURE. The class looks at the goals of all instructions, and at the handlers. -/
section FM
variable {n : Nat} {o : Nat → Nat} {N : Nat} {s : St} {Post : Int32 → St → Prop} {L : Nat → Nat} {nh : Nat} {hd : Nat → Nat → Nat} {mk : Nat → Bool}
def gzA (n : Nat) (o : Nat → Nat) (i : Nat) (s s' : St) : Prop := (∀ i', i' < i → ∀ j, j < ng o (pl n o i') → ∀ q, q ≤ 200 → goal o (pl n o i') j = nI q → s' 7 q = 0) ∧ ∀ q, q ≤ 200 → (∀ i', i' < i → ∀ j, j < ng o (pl n o i') → goal o (pl n o i') j ≠ nI q) → s' 7 q = s 7 q
theorem gzA_0 : gzA n o 0 s s := ⟨fun i' hi => absurd hi (by omega), fun _ _ _ => rfl⟩
theorem gzA_s {i : Nat} {s' s'' : St} (h : gzA n o i s s') (g : gz o (pl n o i) s' s'') : gzA n o (i + 1) s s'' := by
  refine ⟨fun i' hi j hj q hq he => ?_, fun q hq hg => ?_⟩
  · by_cases c : ∃ j, j < ng o (pl n o i) ∧ goal o (pl n o i) j = nI q
    · obtain ⟨j2, a, b⟩ := c
      exact g.1 j2 a q hq b
    · rw [g.2 q hq (fun j2 a b => c ⟨j2, a, b⟩)]
      rcases Nat.lt_or_ge i' i with z | z
      · exact h.1 i' z j hj q hq he
      · rw [show i' = i by omega] at hj he
        exact absurd ⟨j, hj, he⟩ c
  · rw [g.2 q hq (hg i (by omega))]
    exact h.2 q hq (fun i' hi => hg i' (by omega))
theorem gz_none (p : Nat) (h : ng o p = 0) : gz o p s s := ⟨fun j hj => absurd hj (by omega), fun _ _ _ => rfl⟩
theorem gz_one {p q : Nat} (h : ng o p = 1) (hq : q ≤ 200) (hg : goal o p 0 = nI q) : gz o p s (su s 7 q 0) := by
  refine ⟨fun j hj q2 hq2 he => ?_, fun q2 hq2 he => ?_⟩
  · rw [show j = 0 by omega, hg] at he
    rw [← nI_inj (by omega) (by omega) he, su_at]
  · by_cases c : q2 = q
    · exact absurd hg (by rw [← c]; exact he 0 (by omega))
    · rw [su_ne _ _ _ _ _ c]
theorem X_readGoals (h : CX s n o) (hc : Cmp n o N) (hN : s 15 5 = nI N) (h4 : ∀ i, i < N → s 4 i = nI (pl n o i)) (hL : LX s L) (hLl : ∀ i, i < N → L (pl n o i) = ln n o (pl n o i))
    (kbad : ∀ s', (∃ i j, i < N ∧ j < ng o (pl n o i) ∧ beg L (goal o (pl n o i) j) = false) → Keep 15 [7] [] s s' → Post 0 s')
    (kok : ∀ s', (∀ i, i < N → ∀ j, j < ng o (pl n o i) → beg L (goal o (pl n o i) j) = true) → Keep 15 [7] [] s s' → gzA n o N s s' → Post 1 s') : x_Layout_readGoals s Post := by
  have hn := h.1
  have hNn := hc.le
  unfold x_Layout_readGoals x_Layout_readGoals_2
  refine itr_go (fun a => ∃ i, i ≤ N ∧ a.2 = nI i ∧ Keep 15 [7] [] s a.1 ∧ (∀ i', i' < i → ∀ j, j < ng o (pl n o i') → beg L (goal o (pl n o i') j) = true) ∧ gzA n o i s a.1) (fun a => 201 - a.2.toNatClampNeg) _ ?_ ?_
  · exact ⟨0, by omega, rfl, Keep.rf, fun i' hi => absurd hi (by omega), gzA_0⟩
  · rintro K ⟨s', x1⟩ ⟨i, g1, g2, g3, g4, g5⟩ hK
    dsimp only at g2 g3 g4 g5 hK ⊢
    subst g2
    have hC : CX s' n o := h.keep (g3.1 0 (by decide) (by decide)) (g3.2 1 (by decide))
    have hL' : LX s' L := fun q hq => by rw [g3.1 5 (by decide) (by decide)]; exact hL q hq
    unfold x_Layout_readGoals_2F
    rw [g3.2 5 (by decide), hN]
    refine wple N i rfl rfl (by omega) (by omega) (fun e => ⟨rfl, ?_⟩) (fun e => ?_)
    · have : i = N := by omega
      subst this
      exact kok s' g4 g3 g5
    · refine ⟨vp_in_nI (by omega) (by omega), ?_⟩
      intro v hv
      rw [nI_clamp (by omega), g3.1 4 (by decide) (by decide), h4 i (by omega)] at hv
      subst hv
      have hpl := hc.lt (show i < N by omega)
      have hln := hc.2 i (by omega)
      have ho := h.2.2.2.2 (pl n o i)
      have good : ∀ s'', Keep 15 [7] [] s s'' → (∀ j, j < ng o (pl n o i) → beg L (goal o (pl n o i) j) = true) → gz o (pl n o i) s' s'' → x_Layout_readGoals_75 (fun s x1 => K (s, x1)) Post s'' (nI i) 1 := by
        intro s'' a1 a2 a3
        unfold x_Layout_readGoals_75
        refine ⟨fun _ => ?_, fun z => absurd z (by decide)⟩
        rintro v rfl
        refine hK _ ⟨i + 1, by omega, nI_1 i, a1, fun i' hi => ?_, gzA_s g5 a3⟩ ?_
        · rcases Nat.lt_or_ge i' i with z | z
          · exact g4 i' z
          · rw [show i' = i by omega]; exact a2
        · show 201 - (nI i + 1).toNatClampNeg < 201 - (nI i).toNatClampNeg
          rw [nI_1, nI_clamp (by omega), nI_clamp (by omega)]
          omega
      have bad : ∀ s'', Keep 15 [7] [] s s'' → (∃ j, j < ng o (pl n o i) ∧ beg L (goal o (pl n o i) j) = false) → x_Layout_readGoals_75 (fun s x1 => K (s, x1)) Post s'' (nI i) 0 := by
        intro s'' a1 a2
        obtain ⟨j, b1, b2⟩ := a2
        unfold x_Layout_readGoals_75
        exact ⟨fun z => absurd rfl z, fun _ => ⟨rfl, kbad s'' ⟨i, j, by omega, b1, b2⟩ a1⟩⟩
      have one : kSw (o (pl n o i)) = false → ng o (pl n o i) = 1 → x_Layout_readGoals_61 (fun s x1 => K (s, x1)) Post s' (nI i) (nI (pl n o i)) := by
        intro a1 a2
        unfold x_Layout_readGoals_61
        refine X_jumpGoal hC (by omega) a1 (X_beginBlock hL' (fun e2 => ?_) (fun j hj e2 hLj => ?_))
        · exact bad s' g3 ⟨0, by omega, e2⟩
        · refine good _ (g3.arr (by decide) (by decide)) (fun j2 hj2 => ?_) (gz_one a2 hj e2)
          rw [show j2 = 0 by omega, e2, beg_nI hj]
          exact decide_eq_true hLj
      refine X_u1 hC (by omega) (XK_isSwitch ho (wpb (fun e1 => ?_) (fun e1 => ?_)))
      · refine XK_isShortJump ho (wpbn (fun e2 => one e1 ?_) (fun e2 => wpeqn (o (pl n o i)) 200 rfl rfl (by omega) (by omega) (fun e3 => ?_) (fun e3 => one e1 ?_)))
        · unfold ng; rw [if_neg (by rw [e1]; decide), if_pos (Or.inl e2)]
        · have hng : ng o (pl n o i) = 0 := by
            unfold ng
            rw [if_neg (by rw [e1]; decide), if_neg (by rw [e2]; simp [e3])]
          exact good s' g3 (fun j hj => absurd hj (by omega)) (gz_none _ hng)
        · unfold ng; rw [if_neg (by rw [e1]; decide), if_pos (Or.inr e3)]
      · refine X_readWordGoals hC hL' (by omega) ?_ e1 hln (fun s'' a1 a2 => ?_) (fun s'' a1 a2 a3 => ?_)
        · rw [(hL' (pl n o i) (by omega)).1, hLl i (by omega)]
        · exact bad s'' (g3.tr a2) a1
        · exact good s'' (g3.tr a2) a1 a3
/-- the class's handlers -/
def HX (s : St) (nh : Nat) (hd : Nat → Nat → Nat) : Prop := nh ≤ 4 ∧ s 15 2 = nI nh ∧ ∀ h, h < nh → (∀ q, q < 4 → s 1 (4 * h + q) = nI (hd h q)) ∧ (∀ q, q < 3 → hd h q ≤ 200) ∧ hd h 3 ≤ 255
def MX (s : St) (mk : Nat → Bool) : Prop := ∀ c, c < 256 → s 3 c = bI (mk c)
def dng (mk : Nat → Bool) (c : Nat) : Bool := c == 0 || mk c
def lk (hd : Nat → Nat → Nat) (mk : Nat → Bool) (h q : Nat) : Bool := (List.range h).any (fun h' => hd h' 2 == q && dng mk (hd h' 3))
theorem lk_s {h q : Nat} : lk hd mk (h + 1) q = (lk hd mk h q || (hd h 2 == q && dng mk (hd h 3))) := by
  unfold lk
  rw [List.range_succ, List.any_append]
  simp
def hok (L : Nat → Nat) (n : Nat) (hd : Nat → Nat → Nat) (h : Nat) : Prop := 0 < L (hd h 0) ∧ (0 < L (hd h 1) ∨ hd h 1 = n) ∧ hd h 0 < hd h 1 ∧ 0 < L (hd h 2)
theorem X_part {h q : Nat} (hh : h < 4) (hq : q < 4) (k : Post (s 1 (4 * h + q)) s) : x_Source_part s (nI h) (nI q) Post := by
  unfold x_Source_part
  rw [show nI h * (4 : Int32) = nI (h * 4) from pk_mul h 4, nI_add]
  refine ⟨vp_in_nI (by omega) (by omega), ?_⟩
  rw [nI_clamp (by omega), show h * 4 + q = 4 * h + q by omega]
  exact k
theorem X_isDangerous {c : Nat} (h : MX s mk) (hc : c < 256) (k : Post (bI (dng mk c)) s) : x_Tariff_isDangerous s (nI c) Post := by
  have h1 : dng mk c = true → x_Tariff_isDangerous_13 Post s := fun e => by
    rw [e] at k
    exact ⟨rfl, k⟩
  unfold x_Tariff_isDangerous
  refine wpeq c 0 rfl rfl (by omega) (by omega) (fun e => h1 (by simp [dng, e])) (fun e => ⟨vp_in_nI (by omega) (by omega), ?_⟩)
  rw [nI_clamp (by omega), h c hc]
  refine wpb (fun e2 => ?_) (fun e2 => h1 (by simp [dng, e2]))
  rw [show dng mk c = false by simp [dng, e, e2]] at k
  exact ⟨rfl, k⟩
theorem X_readHandlers (h : CX s n o) (hH : HX s nh hd) (hM : MX s mk) (hL : LX s L) (h8 : ∀ q, q ≤ 200 → s 8 q = 0)
    (kbad : ∀ s', (∃ h, h < nh ∧ ¬ hok L n hd h) → Keep 15 [7, 8] [] s s' → Post 0 s')
    (kok : ∀ s', (∀ h, h < nh → hok L n hd h) → Keep 15 [7, 8] [] s s' → (∀ h, h < nh → s' 7 (hd h 2) = 0) → (∀ q, q ≤ 200 → (∀ h, h < nh → hd h 2 ≠ q) → s' 7 q = s 7 q) → (∀ q, q ≤ 200 → s' 8 q = bI (lk hd mk nh q)) → Post 1 s') : x_Layout_readHandlers s Post := by
  obtain ⟨hh1, hh2, hh3⟩ := hH
  have hn := h.1
  unfold x_Layout_readHandlers x_Layout_readHandlers_2
  refine itr_go (fun a => ∃ i, i ≤ nh ∧ a.2 = nI i ∧ Keep 15 [7, 8] [] s a.1 ∧ (∀ i', i' < i → hok L n hd i') ∧ (∀ i', i' < i → a.1 7 (hd i' 2) = 0) ∧ (∀ q, q ≤ 200 → (∀ i', i' < i → hd i' 2 ≠ q) → a.1 7 q = s 7 q) ∧ (∀ q, q ≤ 200 → a.1 8 q = bI (lk hd mk i q))) (fun a => 201 - a.2.toNatClampNeg) _ ?_ ?_
  · exact ⟨0, by omega, rfl, Keep.rf, fun i' hi => absurd hi (by omega), fun i' hi => absurd hi (by omega), fun _ _ _ => rfl, fun q hq => h8 q hq⟩
  · rintro K ⟨s', x1⟩ ⟨i, g1, g2, g3, g4, g5, g6, g7⟩ hK
    dsimp only at g2 g3 g4 g5 g6 g7 hK ⊢
    subst g2
    have hL' : LX s' L := fun q hq => by rw [g3.1 5 (by decide) (by decide)]; exact hL q hq
    unfold x_Layout_readHandlers_2F
    rw [g3.2 2 (by decide), hh2]
    refine wple nh i rfl rfl (by omega) (by omega) (fun e => ⟨rfl, ?_⟩) (fun e => ?_)
    · have : i = nh := by omega
      subst this
      exact kok s' g4 g3 g5 g6 g7
    · obtain ⟨p4, p200, p255⟩ := hh3 i (by omega)
      have b0 := p200 0 (by omega)
      have b1 := p200 1 (by omega)
      have b2 := p200 2 (by omega)
      have bad : ∀ s'', Keep 15 [7, 8] [] s s'' → ¬ hok L n hd i → narrow .boolean (.int (0 : Int32)) = .int (0 : Int32) ∧ Post 0 s'' := fun s'' a1 a2 => ⟨rfl, kbad s'' ⟨i, by omega, a2⟩ a1⟩
      refine X_part (q := 0) (by omega) (by omega) (X_part (q := 1) (by omega) (by omega) (X_part (q := 2) (by omega) (by omega) ?_))
      rw [g3.1 1 (by decide) (by decide), p4 0 (by omega), p4 1 (by omega), p4 2 (by omega)]
      have key : ∀ b : Bool, (b = true ↔ (0 < L (hd i 1) ∨ hd i 1 = n)) → x_Layout_readHandlers_68 (fun s x1 => K (s, x1)) Post s' (nI i) (nI (hd i 0)) (nI (hd i 1)) (nI (hd i 2)) (bI b) := by
        intro b hb
        unfold x_Layout_readHandlers_68
        refine X_begins hL' ?_
        rw [beg_nI b0]
        refine wpb (fun e1 => bad s' g3 (fun z => absurd z.1 (of_decide_eq_false e1))) (fun e1 => ?_)
        refine wpb (fun e2 => bad s' g3 (fun z => by rw [hb.mpr z.2.1] at e2; cases e2)) (fun e2 => ?_)
        refine wple (hd i 1) (hd i 0) rfl rfl (by omega) (by omega) (fun e3 => bad s' g3 (fun z => by have := z.2.2.1; omega)) (fun e3 => ?_)
        refine X_beginBlock hL' (fun e4 => ?_) (fun j hj e4 hLj => ?_)
        · rw [beg_nI b2] at e4
          exact ⟨fun z => absurd rfl z, fun _ => bad s' g3 (fun z => absurd z.2.2.2 (of_decide_eq_false e4))⟩
        · have ej : hd i 2 = j := nI_inj (by omega) (by omega) e4
          subst ej
          refine ⟨fun _ => ?_, fun z => absurd z (by decide)⟩
          have hkk : hok L n hd i := ⟨of_decide_eq_true e1, hb.mp e2, by omega, hLj⟩
          refine X_part (q := 3) (by omega) (by omega) ?_
          rw [su_row _ _ _ _ _ (by decide), g3.1 1 (by decide) (by decide), p4 3 (by omega)]
          have g3' := g3.arr (r := 7) (k := hd i 2) (x := 0) (by decide) (by decide)
          have fin : ∀ s'', Keep 15 [7, 8] [] s s'' → s'' 7 = su s' 7 (hd i 2) 0 7 → (∀ q, q ≤ 200 → s'' 8 q = bI (lk hd mk (i + 1) q)) → x_Layout_readHandlers_126 (fun s x1 => K (s, x1)) Post s'' (nI i) := by
            intro s'' a1 a2 a3
            unfold x_Layout_readHandlers_126
            rintro v rfl
            refine hK _ ⟨i + 1, by omega, nI_1 i, a1, fun i' hi => ?_, fun i' hi => ?_, fun q hq hg => ?_, a3⟩ ?_
            · rcases Nat.lt_or_ge i' i with z | z
              · exact g4 i' z
              · rw [show i' = i by omega]; exact hkk
            · show s'' 7 (hd i' 2) = 0
              rw [a2]
              by_cases c : hd i' 2 = hd i 2
              · rw [c, su_at]
              · rw [su_ne _ _ _ _ _ c]
                rcases Nat.lt_or_ge i' i with z | z
                · exact g5 i' z
                · exact absurd (by rw [show i' = i by omega]) c
            · show s'' 7 q = s 7 q
              rw [a2, su_ne _ _ _ _ _ (Ne.symm (hg i (by omega)))]
              exact g6 q hq (fun i' hi => hg i' (by omega))
            · show 201 - (nI i + 1).toNatClampNeg < 201 - (nI i).toNatClampNeg
              rw [nI_1, nI_clamp (by omega), nI_clamp (by omega)]
              omega
          refine X_isDangerous (mk := mk) (fun c hc => by rw [su_row _ _ _ _ _ (by decide), g3.1 3 (by decide) (by decide)]; exact hM c hc) (by omega) (wpb (fun e5 => ?_) (fun e5 => ⟨vp_in_nI (by omega) (by omega), ?_⟩))
          · refine fin _ g3' rfl (fun q hq => ?_)
            rw [su_row _ _ _ _ _ (by decide), g7 q hq, lk_s, e5, Bool.and_false, Bool.or_false]
          · rintro s26 rfl
            rw [nI_clamp (by omega), nar_1]
            refine fin _ (g3'.arr (by decide) (by decide)) (su_row _ _ _ _ _ (by decide)) (fun q hq => ?_)
            rw [lk_s, e5, Bool.and_true]
            by_cases c : q = hd i 2
            · rw [c, su_at]
              simp [bI]
            · rw [su_ne _ _ _ _ _ c, su_row _ _ _ _ _ (by decide), g7 q hq, show (hd i 2 == q) = false by simpa using Ne.symm c, Bool.or_false]
      refine X_begins hL' ?_
      rw [beg_nI b1]
      refine wpbn (fun e1 => key true ⟨fun _ => Or.inl (of_decide_eq_true e1), fun _ => rfl⟩) (fun e1 => ?_)
      rw [g3.2 1 (by decide), h.2.1]
      exact wpeqn (hd i 1) n rfl rfl (by omega) (by omega) (fun e2 => key false ⟨fun z => (by cases z), fun z => absurd z (fun y => y.elim (of_decide_eq_false e1) e2)⟩) (fun e2 => key true ⟨fun _ => Or.inr e2, fun _ => rfl⟩)
end FM
