/-! PURE. The class looks at all goals. -/
section GL
variable {n : Nat} {o : Nat → Nat} {p : Nat}
theorem kSw_or {k : Nat} (h : kSw k = true) : k = 170 ∨ k = 171 := by simpa [kSw] using h
theorem sw_ok (hk : kSw (o p) = true) (h : 0 < ln n o p) : 0 ≤ swm o p ∧ swm o p ≤ 20 ∧ ln n o p = 4 - p % 4 + 4 * nw o p ∧ 2 ≤ nw o p ∧ nw o p ≤ 42 ∧ p + ln n o p = wf p + 4 * nw o p ∧ p + ln n o p ≤ n := by
  obtain ⟨h1, h2⟩ := ln_pos h
  have hR : lnR o p = lnS o p := by
    unfold lnR
    rcases kSw_or hk with e | e
    · rw [e]; rfl
    · rw [e]; rfl
  rw [h2, hR] at h
  unfold lnS at h
  have hS : lnS o p = if swm o p < swl o p ∨ 20 < swm o p then 0 else 4 - p % 4 + swb o p := rfl
  by_cases c : swm o p < swl o p ∨ 20 < swm o p
  · rw [if_pos c] at h; omega
  · rw [if_neg c] at hS
    have hl : 0 ≤ swl o p := by unfold swl; split <;> omega
    have hb : swb o p = 4 * nw o p ∧ 2 ≤ nw o p ∧ nw o p ≤ 42 := by
      unfold swb nw
      split <;> omega
    have hw : wf p = p + (4 - p % 4) := by unfold wf; omega
    refine ⟨by omega, by omega, by omega, hb.2.1, hb.2.2, by omega, h1⟩
theorem gw_in (hk : kSw (o p) = true) {j : Nat} (hj : j < ng o p) : gw o p j < nw o p ∧ isGw o p (gw o p j) = true := by
  unfold ng at hj
  rw [if_pos hk] at hj
  unfold gw nw isGw
  by_cases e : j = 0
  · rw [if_pos e]
    refine ⟨by split <;> omega, rfl⟩
  · rw [if_neg e]
    by_cases e2 : o p = 170
    · rw [if_pos e2, if_pos e2, e2]
      refine ⟨by omega, ?_⟩
      simp
      omega
    · rw [if_neg e2, if_neg e2]
      refine ⟨by omega, ?_⟩
      simp
      omega
theorem gw_out (hk : kSw (o p) = true) {w : Nat} (hw : w < nw o p) (h : isGw o p w = true) : ∃ j, j < ng o p ∧ gw o p j = w := by
  unfold ng
  rw [if_pos hk]
  unfold nw at hw
  unfold gw
  by_cases e : w = 0
  · exact ⟨0, by omega, by rw [if_pos rfl, e]⟩
  · by_cases e2 : o p = 170
    · rw [if_pos e2] at hw
      have h3 : 3 ≤ w := by
        simp [isGw, e, e2] at h
        exact h
      exact ⟨w - 2, by omega, by rw [if_neg (by omega), if_pos e2]; omega⟩
    · rw [if_neg e2] at hw
      have h3 : 3 ≤ w ∧ w % 2 = 1 := by
        simpa [isGw, e, e2] using h
      exact ⟨(w - 1) / 2, by omega, by rw [if_neg (by omega), if_neg e2]; omega⟩
theorem goal_sw (hk : kSw (o p) = true) (j : Nat) : goal o p j = nI p + S4 o (wf p + 4 * gw o p j) := if_pos hk
variable {s : St} {Post : Int32 → St → Prop} {L : Nat → Nat}
/-- row 7 is 0 at the goals of p, else as it was -/
def gz (o : Nat → Nat) (p : Nat) (s s' : St) : Prop := (∀ j, j < ng o p → ∀ q, q ≤ 200 → goal o p j = nI q → s' 7 q = 0) ∧ ∀ q, q ≤ 200 → (∀ j, j < ng o p → goal o p j ≠ nI q) → s' 7 q = s 7 q
theorem X_wordsOf (hp : p ≤ 200) (h5 : s 5 p = nI (ln n o p)) (hk : kSw (o p) = true) (hl : 0 < ln n o p) (hn : n ≤ 200) (k : Post (nI (nw o p)) s) : x_Layout_wordsOf s (nI p) Post := by
  obtain ⟨-, -, -, -, -, h1, h2⟩ := sw_ok hk hl
  unfold x_Layout_wordsOf
  refine ⟨vp_in_nI (by omega) (by omega), X_wordsFrom (by omega) ?_⟩
  rw [nI_clamp (by omega), h5, nI_add, h1, pk_sub (by omega), show wf p + 4 * nw o p - wf p = 4 * nw o p by omega, show (4 : Int32) = nI 4 from rfl, pk_div (by omega) (by omega) (by omega), show 4 * nw o p / 4 = nw o p by omega]
  exact k
theorem X_readWordGoals (h : CX s n o) (hL : LX s L) (hp : p ≤ 200) (h5 : s 5 p = nI (ln n o p)) (hk : kSw (o p) = true) (hl : 0 < ln n o p)
    (kbad : ∀ s', (∃ j, j < ng o p ∧ beg L (goal o p j) = false) → Keep 15 [7] [] s s' → Post 0 s')
    (kok : ∀ s', (∀ j, j < ng o p → beg L (goal o p j) = true) → Keep 15 [7] [] s s' → gz o p s s' → Post 1 s') : x_Layout_readWordGoals s (nI p) (nI (o p)) Post := by
  obtain ⟨m0, m20, -, w2, w42, -, -⟩ := sw_ok hk hl
  have ho := h.2.2.2.2 p
  unfold x_Layout_readWordGoals
  refine X_wordsOf hp h5 hk hl h.1 ?_
  unfold x_Layout_readWordGoals_9
  refine itr_go (fun a => ∃ w, w ≤ nw o p ∧ a.2.1 = nI p ∧ a.2.2.1 = nI (o p) ∧ a.2.2.2.1 = nI (nw o p) ∧ a.2.2.2.2 = nI w ∧ Keep 15 [7] [] s a.1 ∧ (∀ w', w' < w → isGw o p w' = true → beg L (nI p + S4 o (wf p + 4 * w')) = true) ∧ (∀ w', w' < w → isGw o p w' = true → ∀ q, q ≤ 200 → nI p + S4 o (wf p + 4 * w') = nI q → a.1 7 q = 0) ∧ (∀ q, q ≤ 200 → (∀ w', w' < w → isGw o p w' = true → nI p + S4 o (wf p + 4 * w') ≠ nI q) → a.1 7 q = s 7 q)) (fun a => 64 - a.2.2.2.2.toNatClampNeg) _ ?_ ?_
  · exact ⟨0, by omega, rfl, rfl, rfl, rfl, Keep.rf, fun w' hw => absurd hw (by omega), fun w' hw => absurd hw (by omega), fun q _ _ => rfl⟩
  · rintro K ⟨s', x1, x2, x3, x4⟩ ⟨w, g1, g2, g3, g4, g5, g6, g7, g8, g9⟩ hK
    dsimp only at g2 g3 g4 g5 g6 g7 g8 g9 hK ⊢
    subst g2 g3 g4 g5
    have hC : CX s' n o := h.keep (g6.1 0 (by decide) (by decide)) (g6.2 1 (by decide))
    have hL' : LX s' L := fun q hq => by rw [g6.1 5 (by decide) (by decide)]; exact hL q hq
    unfold x_Layout_readWordGoals_9F
    refine wple (nw o p) w rfl rfl (by omega) (by omega) (fun e => ⟨rfl, ?_⟩) (fun e => ?_)
    · have hw : w = nw o p := by omega
      subst hw
      refine kok s' (fun j hj => ?_) g6 ⟨fun j hj q hq hg => ?_, fun q hq hg => g9 q hq (fun w' hw hg' he => ?_)⟩
      · obtain ⟨a, b⟩ := gw_in hk hj
        rw [goal_sw hk]
        exact g7 _ a b
      · obtain ⟨a, b⟩ := gw_in hk hj
        rw [goal_sw hk] at hg
        exact g8 _ a b q hq hg
      · obtain ⟨j, a, b⟩ := gw_out hk hw hg'
        exact hg j a (by rw [goal_sw hk, b]; exact he)
    · have nxt : ∀ s'' : St, Keep 15 [7] [] s s'' → (isGw o p w = true → beg L (nI p + S4 o (wf p + 4 * w)) = true) → (∀ q, q ≤ 200 → (isGw o p w = true → nI p + S4 o (wf p + 4 * w) = nI q → s'' 7 q = 0)) → (∀ q, q ≤ 200 → (isGw o p w = true → nI p + S4 o (wf p + 4 * w) ≠ nI q) → s'' 7 q = s' 7 q) → x_Layout_readWordGoals_43 (fun s x1 x2 x3 x4 => K (s, x1, x2, x3, x4)) Post s'' (nI p) (nI (o p)) (nI (nw o p)) (nI w) := by
        intro s'' a1 a2 a3 a4
        unfold x_Layout_readWordGoals_43
        rintro v rfl
        refine hK _ ⟨w + 1, by omega, rfl, rfl, rfl, nI_1 w, a1, fun w' hw => ?_, fun w' hw hg q hq he => ?_, fun q hq hg => ?_⟩ ?_
        · rcases Nat.lt_or_ge w' w with z | z
          · exact g7 w' z
          · rw [show w' = w by omega]; exact a2
        · by_cases c : isGw o p w = true ∧ nI p + S4 o (wf p + 4 * w) = nI q
          · exact a3 q hq c.1 c.2
          · show s'' 7 q = 0
            rw [a4 q hq (fun c1 c2 => c ⟨c1, c2⟩)]
            rcases Nat.lt_or_ge w' w with z | z
            · exact g8 w' z hg q hq he
            · rw [show w' = w by omega] at hg he
              exact absurd ⟨hg, he⟩ c
        · show s'' 7 q = s 7 q
          rw [a4 q hq (hg w (by omega))]
          exact g9 q hq (fun w' hw => hg w' (by omega))
        · show 64 - (nI w + 1).toNatClampNeg < 64 - (nI w).toNatClampNeg
          rw [nI_1, nI_clamp (by omega), nI_clamp (by omega)]
          omega
      refine X_isGoalWord ho (by omega) (wpb (fun e1 => ?_) (fun e1 => ?_))
      · exact nxt s' g6 (fun z => absurd z (by rw [e1]; decide)) (fun q hq z => absurd z (by rw [e1]; decide)) (fun q hq _ => rfl)
      · refine X_wordGoal hC (by omega) (by omega) (X_beginBlock hL' (fun e2 => ?_) (fun j hj e2 hLj => ?_))
        · refine ⟨fun z => absurd rfl z, fun _ => ⟨rfl, kbad s' ?_ g6⟩⟩
          obtain ⟨j, a, b⟩ := gw_out hk (by omega) e1
          exact ⟨j, a, by rw [goal_sw hk, b]; exact e2⟩
        · refine ⟨fun _ => ?_, fun z => absurd z (by decide)⟩
          refine nxt _ (g6.arr (by decide) (by decide)) (fun _ => ?_) (fun q hq _ he => ?_) (fun q hq he => ?_)
          · rw [e2, beg_nI hj]
            exact decide_eq_true hLj
          · rw [e2] at he
            rw [nI_inj (by omega) (by omega) he, su_at]
          · by_cases c : q = j
            · subst c
              exact absurd e2 (he e1)
            · rw [su_ne _ _ _ _ _ c]
end GL
