/-! PURE. The class's leads and places. -/
section XL
variable {n : Nat} {o : Nat → Nat} {N : Nat} {s : St} {Post : St → Prop} {B lo : Nat → Bool} {C : Nat → Nat} {ld : Nat → Nat} {fr : Nat → Bool} {rc : Nat}
theorem X_measureLeads (h : CX s n o) (hc : Cmp n o N) (hN : s 15 5 = nI N) (h4 : ∀ i, i < N → s 4 i = nI (pl n o i)) (h7 : ∀ i, i < N → s 7 (pl n o i) = if B i = true then nI (C i) else -1) (hC : ∀ i, C i ≤ 20000) (h8 : ∀ q, q ≤ 200 → s 8 q = bI (lo q))
    (k : ∀ s', Keep 15 [9] [] s s' → (∀ i, i < N → s' 9 (pl n o i) = nI (ldf o (lo (pl n o i)) (B i) (C i) (pl n o i))) → Post s') : x_Layout_measureLeads s Post := by
  have hn := h.1
  have hNn := hc.le
  unfold x_Layout_measureLeads x_Layout_measureLeads_2
  refine itr_go (fun a => ∃ i, i ≤ N ∧ a.2 = nI i ∧ Keep 15 [9] [] s a.1 ∧ (∀ k, k < i → a.1 9 (pl n o k) = nI (ldf o (lo (pl n o k)) (B k) (C k) (pl n o k)))) (fun a => 201 - a.2.toNatClampNeg) _ ?_ ?_
  · exact ⟨0, by omega, rfl, Keep.rf, fun k hk => absurd hk (by omega)⟩
  · rintro K ⟨s', x1⟩ ⟨i, g1, g2, g3, g4⟩ hK
    dsimp only at g2 g3 g4 hK ⊢
    subst g2
    have hC' : CX s' n o := h.keep (g3.1 0 (by decide) (by decide)) (g3.2 1 (by decide))
    unfold x_Layout_measureLeads_2F
    rw [g3.2 5 (by decide), hN]
    refine wple N i rfl rfl (by omega) (by omega) (fun e => ?_) (fun e => ?_)
    · have : i = N := by omega
      subst this
      exact k s' g3 g4
    · refine ⟨vp_in_nI (by omega) (by omega), ?_⟩
      intro v hv
      rw [nI_clamp (by omega), g3.1 4 (by decide) (by decide), h4 i (by omega)] at hv
      subst hv
      have hpl := hc.lt (show i < N by omega)
      have ho := h.2.2.2.2 (pl n o i)
      have f105 : ∀ a b, a + b = ldf o (lo (pl n o i)) (B i) (C i) (pl n o i) → x_Layout_measureLeads_105 (fun s x1 => K (s, x1)) Post s' (nI i) (nI b) (nI a) (nI (pl n o i)) := by
        intro a b hab
        unfold x_Layout_measureLeads_105
        refine ⟨vp_in_nI (by omega) (by omega), ?_⟩
        rintro s21 rfl v rfl
        rw [nI_clamp (by omega), nI_add, hab]
        refine hK _ ⟨i + 1, by omega, nI_1 i, g3.arr (by decide) (by decide), fun k hk => ?_⟩ ?_
        · dsimp only
          by_cases ck : k = i
          · rw [ck, su_at]
          · rw [su_ne _ _ _ _ _ (fun e2 => ck (hc.inj (by omega) (by omega) e2))]
            exact g4 k (by omega)
        · show 201 - (nI i + 1).toNatClampNeg < 201 - (nI i).toNatClampNeg
          rw [nI_1, nI_clamp (by omega), nI_clamp (by omega)]
          omega
      have f92 : ∀ a b, a + b + (if kArr (o (pl n o i)) = true then 4 else 0) = ldf o (lo (pl n o i)) (B i) (C i) (pl n o i) → x_Layout_measureLeads_92 (fun s x1 => K (s, x1)) Post s' (nI i) (nI (o (pl n o i))) (nI b) (nI a) (nI (pl n o i)) := by
        intro a b hab
        unfold x_Layout_measureLeads_92
        rw [nI_add]
        refine XK_makesArray ho (wpb (fun e1 => f105 (a + b) 0 ?_) (fun e1 => f105 (a + b) 4 ?_))
        · rw [e1] at hab; exact hab
        · rw [e1] at hab; exact hab
      have f79 : ∀ a b, a + b + (if kRet (o (pl n o i)) = true then 3 else 0) + (if kArr (o (pl n o i)) = true then 4 else 0) = ldf o (lo (pl n o i)) (B i) (C i) (pl n o i) → x_Layout_measureLeads_79 (fun s x1 => K (s, x1)) Post s' (nI i) (nI (o (pl n o i))) (nI b) (nI a) (nI (pl n o i)) := by
        intro a b hab
        unfold x_Layout_measureLeads_79
        rw [nI_add]
        refine XK_isReturn ho (wpb (fun e1 => f92 (a + b) 0 ?_) (fun e1 => f92 (a + b) 3 ?_))
        · rw [e1] at hab; exact hab
        · rw [e1] at hab; exact hab
      have f54 : ∀ a b, a + b + (if B i = true ∧ 0 < C i then wgt (C i) + 3 else 0) + (if kRet (o (pl n o i)) = true then 3 else 0) + (if kArr (o (pl n o i)) = true then 4 else 0) = ldf o (lo (pl n o i)) (B i) (C i) (pl n o i) → x_Layout_measureLeads_54 (fun s x1 => K (s, x1)) Post s' (nI i) (nI (pl n o i)) (nI (o (pl n o i))) (nI b) (nI a) (nI (pl n o i)) := by
        intro a b hab
        unfold x_Layout_measureLeads_54
        rw [nI_add, nI_clamp (by omega), g3.1 7 (by decide) (by decide), h7 i (by omega)]
        refine ⟨vp_in_nI (by omega) (by omega), ?_⟩
        by_cases eB : B i = true
        · rw [if_pos eB]
          have hCi := hC i
          refine wple (C i) 0 rfl rfl (by omega) (by omega) (fun e1 => f79 (a + b) 0 ?_) (fun e1 => ⟨vp_in_nI (by omega) (by omega), ?_⟩)
          · rw [if_neg (by omega)] at hab; exact hab
          · refine X_pushLength.mpr ?_
            rw [k_push (by omega)]
            rw [if_pos ⟨eB, by omega⟩] at hab
            show x_Layout_measureLeads_79 (fun s x1 => K (s, x1)) Post s' (nI i) (nI (o (pl n o i))) (nI (wgt (C i)) + 3) (nI (a + b)) (nI (pl n o i))
            rw [show nI (wgt (C i)) + 3 = nI (wgt (C i) + 3) from nI_add _ 3]
            exact f79 (a + b) (wgt (C i) + 3) hab
        · rw [if_neg eB]
          refine ⟨fun _ => f79 (a + b) 0 ?_, fun q => absurd (by decide) q⟩
          rw [if_neg (fun q => eB q.1)] at hab
          exact hab
      have f40 : ∀ a, a + (if lo (pl n o i) = true then 4 else 0) + (if B i = true ∧ 0 < C i then wgt (C i) + 3 else 0) + (if kRet (o (pl n o i)) = true then 3 else 0) + (if kArr (o (pl n o i)) = true then 4 else 0) = ldf o (lo (pl n o i)) (B i) (C i) (pl n o i) → x_Layout_measureLeads_40 (fun s x1 => K (s, x1)) Post s' (nI i) (nI (pl n o i)) (nI (o (pl n o i))) (nI a) (nI (pl n o i)) := by
        intro a hab
        unfold x_Layout_measureLeads_40
        rw [nI_clamp (by omega), g3.1 8 (by decide) (by decide), h8 _ (by omega)]
        refine ⟨vp_in_nI (by omega) (by omega), wpb (fun e1 => f54 a 0 ?_) (fun e1 => f54 a 4 ?_)⟩
        · rw [if_neg (c := lo (pl n o i) = true) (by rw [e1]; decide)] at hab; exact hab
        · rw [if_pos e1] at hab; exact hab
      refine X_u1 hC' (by omega) (wpeqn (pl n o i) 0 rfl rfl (by omega) (by omega) (fun e1 => f40 0 ?_) (fun e1 => f40 3 ?_))
      · unfold ldf; rw [if_neg e1]
      · unfold ldf; rw [if_pos e1]
/-- the class's places -/
def PL (s : St) (n : Nat) (o : Nat → Nat) (N : Nat) (ld : Nat → Nat) (fr : Nat → Bool) : Prop := (∀ k, k < N → s 10 (pl n o k) = nI (frI n o ld fr k) ∧ s 11 (pl n o k) = nI (spI n o ld fr k) ∧ s 6 (pl n o k) = nI (nlf n o fr (pl n o k) (spI n o ld fr k))) ∧ s 10 n = nI (ps n o ld fr N)
def FX (s : St) (n : Nat) (o : Nat → Nat) (N : Nat) (fr : Nat → Bool) : Prop := ∀ q, q ≤ 200 → s 12 q = bI ((stB n o N q && o q == 200) || fr q)
theorem X_lengthAtSpot {P : Int32 → St → Prop} {p sp : Nat} (h : CX s n o) (hp : p ≤ 200) (hl : 0 < ln n o p) (h5 : s 5 p = nI (ln n o p)) (h12 : s 12 p = bI (o p == 200 || fr p)) (h11 : s 11 p = nI sp) (hsp : sp < 2 ^ 20) (k : P (nI (nlf n o fr p sp)) s) : x_Layout_lengthAtSpot s (nI p) P := by
  have ho := h.2.2.2.2 p
  unfold nlf at k
  unfold x_Layout_lengthAtSpot
  rw [nI_clamp (by omega)]
  refine X_u1 h (by omega) (XK_isSwitch ho (wpb (fun e1 => ⟨vp_in_nI (by omega) (by omega), ?_⟩) (fun e1 => ⟨vp_in_nI (by omega) (by omega), ?_⟩)))
  · rw [if_neg (by rw [e1]; decide)] at k
    rw [h12]
    refine wpb (fun e2 => ⟨vp_in_nI (by omega) (by omega), ?_⟩) (fun e2 => ?_)
    · simp only [Bool.or_eq_false_iff, beq_eq_false_iff_ne] at e2
      rw [if_neg e2.1, if_neg (by rw [e2.2]; decide)] at k
      rw [h5]
      exact k
    · refine wpeq (o p) 167 rfl rfl (by omega) (by omega) (fun e3 => ?_) (fun e3 => wpeqn (o p) 200 rfl rfl (by omega) (by omega) (fun e4 => ?_) (fun e4 => ?_))
      · rw [if_neg (by omega)] at k
        have : fr p = true := by simpa [e3] using e2
        rw [if_pos this, if_pos e3] at k
        exact k
      · rw [if_neg e4] at k
        have : fr p = true := by simpa [e4] using e2
        rw [if_pos this, if_neg e3] at k
        exact k
      · rw [if_pos e4] at k
        exact k
  · rw [if_pos e1] at k
    rw [h11]
    refine X_wordsFrom (by omega) ⟨vp_in_nI (by omega) (by omega), X_wordsOf hp h5 e1 hl h.1 ?_⟩
    have := wf_gt sp
    rw [h11, show (4 : Int32) * nI (nw o p) = nI (4 * nw o p) from pk_mul 4 _, pk_sub (by omega), nI_add]
    exact k
theorem X_givePlaces (h : CX s n o) (hc : Cmp n o N) (hN : s 15 5 = nI N) (h4 : ∀ i, i < N → s 4 i = nI (pl n o i)) (h5 : ∀ i, i < N → s 5 (pl n o i) = nI (ln n o (pl n o i))) (h9 : ∀ i, i < N → s 9 (pl n o i) = nI (ld i)) (hld : ∀ i, ld i ≤ 20) (hf : FX s n o N fr)
    (k : ∀ s', Keep 15 [6, 10, 11] [] s s' → PL s' n o N ld fr → Post s') : x_Layout_givePlaces s Post := by
  have hn := h.1
  have hNn := hc.le
  unfold x_Layout_givePlaces x_Layout_givePlaces_4
  refine itr_go (fun a => ∃ i, i ≤ N ∧ a.2.1 = nI (ps n o ld fr i) ∧ a.2.2 = nI i ∧ Keep 15 [6, 10, 11] [] s a.1 ∧ (∀ k, k < i → a.1 10 (pl n o k) = nI (frI n o ld fr k) ∧ a.1 11 (pl n o k) = nI (spI n o ld fr k) ∧ a.1 6 (pl n o k) = nI (nlf n o fr (pl n o k) (spI n o ld fr k)))) (fun a => 201 - a.2.2.toNatClampNeg) _ ?_ ?_
  · exact ⟨0, by omega, rfl, rfl, Keep.rf, fun k hk => absurd hk (by omega)⟩
  · rintro K ⟨s', x1, x2⟩ ⟨i, g1, g2, g3, g4, g5⟩ hK
    dsimp only at g2 g3 g4 g5 hK ⊢
    subst g2 g3
    have hC' : CX s' n o := h.keep (g4.1 0 (by decide) (by decide)) (g4.2 1 (by decide))
    have hps := ps_le (fr := fr) hc hld i g1
    unfold x_Layout_givePlaces_4F
    rw [g4.2 5 (by decide), hN]
    refine wple N i rfl rfl (by omega) (by omega) (fun e => ?_) (fun e => ?_)
    · have : i = N := by omega
      subst this
      rw [hC'.2.1]
      refine ⟨vp_in_nI (by omega) (by omega), ?_⟩
      rintro s3 rfl
      rw [nI_clamp (by omega)]
      refine k _ (g4.arr (by decide) (by decide)) ⟨fun k hk => ?_, su_at _ _ _ _⟩
      have := hc.lt hk
      rw [su_ne _ _ _ _ _ (by omega), su_row _ _ _ _ _ (by decide), su_row _ _ _ _ _ (by decide)]
      exact g5 k hk
    · refine ⟨vp_in_nI (by omega) (by omega), ?_⟩
      intro v hv
      rw [nI_clamp (by omega), g4.1 4 (by decide) (by decide), h4 i (by omega)] at hv
      subst hv
      have hpl := hc.lt (show i < N by omega)
      have hln := hc.2 i (by omega)
      have hldi := hld i
      have key : ∀ d, d = (if pl n o i = 0 then 3 else 0) → x_Layout_givePlaces_34 (fun s x1 x2 => K (s, x1, x2)) Post s' (nI (ps n o ld fr i)) (nI i) (nI (pl n o i)) (nI d) (nI (ps n o ld fr i)) (nI (pl n o i)) := by
        intro d hd
        unfold x_Layout_givePlaces_34
        refine ⟨vp_in_nI (by omega) (by omega), ?_⟩
        rintro s8 rfl
        refine ⟨vp_in_nI (by omega) (by omega), vp_in_nI (by omega) (by omega), ?_⟩
        rintro s11 rfl
        rw [nI_clamp (show pl n o i < 2 ^ 31 by omega), nI_add, su_row _ _ _ _ _ (by decide), g4.1 9 (by decide) (by decide), h9 i (by omega), nI_add]
        have kp := (g4.arr (r := 10) (k := pl n o i) (x := nI (ps n o ld fr i + d)) (by decide) (by decide)).arr (r := 11) (k := pl n o i) (x := nI (ps n o ld fr i + ld i)) (by decide) (by decide)
        refine X_lengthAtSpot (fr := fr) (sp := spI n o ld fr i) (hC'.keep rfl rfl) (by omega) hln ?_ ?_ (su_at _ _ _ _) (by unfold spI; omega) ?_
        · rw [su_row _ _ _ _ _ (by decide), su_row _ _ _ _ _ (by decide), g4.1 5 (by decide) (by decide), h5 i (by omega)]
        · rw [su_row _ _ _ _ _ (by decide), su_row _ _ _ _ _ (by decide), g4.1 12 (by decide) (by decide), hf _ (by omega), stB_iff.mpr ⟨i, by omega, rfl⟩, Bool.true_and]
        · refine ⟨vp_in_nI (by omega) (by omega), ?_⟩
          rintro s15 rfl
          refine ⟨vp_in_nI (by omega) (by omega), vp_in_nI (by omega) (by omega), ?_⟩
          rintro v rfl v2 rfl
          rw [su_at, su_row _ _ _ _ _ (by decide), su_at, nI_add]
          refine hK _ ⟨i + 1, by omega, rfl, nI_1 i, kp.arr (by decide) (by decide), fun k hk => ?_⟩ ?_
          · dsimp only
            by_cases ck : k = i
            · subst ck
              refine ⟨?_, ?_, su_at _ _ _ _⟩
              · rw [su_row _ _ _ _ _ (by decide), su_row _ _ _ _ _ (by decide), su_at, hd]
                rfl
              · rw [su_row _ _ _ _ _ (by decide), su_at]
                rfl
            · have hne : pl n o k ≠ pl n o i := fun e2 => ck (hc.inj (by omega) (by omega) e2)
              rw [su_row _ _ _ _ _ (by decide), su_row _ _ _ _ _ (by decide), su_ne _ _ _ _ _ hne, su_row _ _ _ _ _ (by decide), su_ne _ _ _ _ _ hne, su_row _ _ _ _ _ (by decide), su_ne _ _ _ _ _ hne, su_row _ _ _ _ _ (by decide), su_row _ _ _ _ _ (by decide)]
              exact g5 k (by omega)
          · show 201 - (nI i + 1).toNatClampNeg < 201 - (nI i).toNatClampNeg
            rw [nI_1, nI_clamp (by omega), nI_clamp (by omega)]
            omega
      exact wpeqn (pl n o i) 0 rfl rfl (by omega) (by omega) (fun e1 => key 0 (by rw [if_neg e1])) (fun e1 => key 3 (by rw [if_pos e1]))
end XL
