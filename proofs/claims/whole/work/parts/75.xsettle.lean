/-! PURE. The class makes jumps far, round by round. -/
def cO (f : Nat → Bool) : Nat → Nat
  | 0 => 0
  | m + 1 => cO f m + (if f m = true then 1 else 0)
theorem cO_le {f : Nat → Bool} : ∀ m, cO f m ≤ m
  | 0 => Nat.le_refl 0
  | m + 1 => by
    have := cO_le (f := f) m
    unfold cO
    split <;> omega
theorem cO_0 {f : Nat → Bool} : ∀ m, cO f m = 0 ↔ ∀ i, i < m → f i = false
  | 0 => ⟨fun _ i hi => absurd hi (by omega), fun _ => rfl⟩
  | m + 1 => by
    have ih := cO_0 (f := f) m
    unfold cO
    constructor
    · intro h i hi
      rcases Nat.lt_or_ge i m with q | q
      · exact ih.mp (by omega) i q
      · rw [show i = m by omega]
        cases e : f m
        · rfl
        · rw [e] at h; simp at h
    · intro h
      rw [ih.mpr (fun i hi => h i (by omega)), h m (by omega)]
      rfl
section XS
variable {n : Nat} {o : Nat → Nat} {N : Nat} {s : St} {ld : Nat → Nat} {fr : Nat → Bool} {rc : Nat}
theorem cntF_add (hc : Cmp n o N) : ∀ m, m ≤ N → cntF n o (nxF n o N ld rc fr) m = cntF n o fr m + cO (out n o N ld rc fr) m
  | 0, _ => rfl
  | m + 1, h => by
    have ih := cntF_add hc m (by omega)
    show cntF n o (nxF n o N ld rc fr) m + _ = cntF n o fr m + _ + (cO (out n o N ld rc fr) m + _)
    rw [ih, nxF_pl hc (by omega)]
    by_cases e : fr (pl n o m) = true
    · have ho : out n o N ld rc fr m = false := by
        unfold out
        rw [e]
        simp
      rw [e, ho]
      simp
      omega
    · have e' : fr (pl n o m) = false := by simpa using e
      rw [e', Bool.false_or]
      simp
      omega
/-- where jumps go, an instruction begins -/
def gok (n : Nat) (o : Nat → Nat) (N : Nat) : Prop := ∀ i, i < N → ∀ j, j < ng o (pl n o i) → ∃ k, k < N ∧ goal o (pl n o i) j = nI (pl n o k)
theorem ng_SJ {p : Nat} (h : kSJ (o p) = true) : ng o p = 1 ∧ kSw (o p) = false := by
  have h1 : kSw (o p) = false := by
    cases e : kSw (o p)
    · rfl
    · rcases kSw_or e with q | q
      · rw [q] at h; exact absurd h (by decide)
      · rw [q] at h; exact absurd h (by decide)
  refine ⟨?_, h1⟩
  unfold ng
  rw [if_neg (by rw [h1]; decide), if_pos (Or.inl h)]
theorem neg_nI {k : Nat} (h : k < 2 ^ 31) : (-nI k).toInt = -(k : Int) := sb_negT h
theorem X_stretchJumps {P : Int32 → St → Prop} (h : CX s n o) (hc : Cmp n o N) (hN : s 15 5 = nI N) (h4 : ∀ i, i < N → s 4 i = nI (pl n o i)) (hg : gok n o N) (hld : ∀ i, ld i ≤ 20) (hP : PL s n o N ld fr) (hf : FX s n o N fr) (hr : s 15 4 = nI rc) (hrc : rc ≤ 32767) (h8 : s 15 8 = nI (cntF n o fr N))
    (k : ∀ s', Keep 15 [12] [8] s s' → FX s' n o N (nxF n o N ld rc fr) → s' 15 8 = nI (cntF n o (nxF n o N ld rc fr) N) → P (bI (decide (0 < cO (out n o N ld rc fr) N))) s') : x_Layout_stretchJumps s P := by
  have hn := h.1
  have hNn := hc.le
  have hcF := cntF_le (n := n) (o := o) (fr := fr) N
  unfold x_Layout_stretchJumps
  rintro v1 hv1
  rw [h8] at hv1
  subst hv1
  unfold x_Layout_stretchJumps_7
  refine itr_go (fun a => ∃ i, i ≤ N ∧ a.2.1 = nI (cntF n o fr N) ∧ a.2.2 = nI i ∧ Keep 15 [12] [8] s a.1 ∧ (∀ q, q ≤ 200 → a.1 12 q = bI (((stB n o N q && o q == 200) || fr q) || (stB n o i q && out n o N ld rc fr (ix n o q N)))) ∧ a.1 15 8 = nI (cntF n o fr N + cO (out n o N ld rc fr) i)) (fun a => 201 - a.2.2.toNatClampNeg) _ ?_ ?_
  · exact ⟨0, by omega, rfl, rfl, Keep.rf, fun q hq => by rw [stB_0, Bool.false_and, Bool.or_false]; exact hf q hq, h8⟩
  · rintro K ⟨s', x1, x2⟩ ⟨i, g1, g2, g3, g4, g5, g6⟩ hK
    dsimp only at g2 g3 g4 g5 g6 hK ⊢
    subst g2 g3
    have hC' : CX s' n o := h.keep (g4.1 0 (by decide) (by decide)) (g4.2 1 (by decide))
    have hcO := cO_le (f := out n o N ld rc fr) i
    unfold x_Layout_stretchJumps_7F
    rw [g4.2 5 (by decide), hN]
    refine wple N i rfl rfl (by omega) (by omega) (fun e => ?_) (fun e => ?_)
    · have : i = N := by omega
      subst this
      have hF : FX s' n o i (nxF n o i ld rc fr) := fun q hq => by
        rw [g5 q hq]
        unfold nxF
        rw [Bool.or_assoc]
      have h88 : s' 15 8 = nI (cntF n o (nxF n o i ld rc fr) i) := by rw [g6, cntF_add hc i (Nat.le_refl i)]
      have kk := k s' g4 hF h88
      rw [g6]
      refine wple (cntF n o fr i + cO (out n o i ld rc fr) i) (cntF n o fr i) rfl rfl (by omega) (by omega) (fun e1 => ⟨rfl, ?_⟩) (fun e1 => ⟨rfl, ?_⟩)
      · rw [decide_eq_false (by omega)] at kk
        exact kk
      · rw [decide_eq_true (by omega)] at kk
        exact kk
    · refine ⟨vp_in_nI (by omega) (by omega), ?_⟩
      intro v hv
      rw [nI_clamp (by omega), g4.1 4 (by decide) (by decide), h4 i (by omega)] at hv
      subst hv
      have hi : i < N := by omega
      have hpl := hc.lt hi
      have ho := h.2.2.2.2 (pl n o i)
      have hix := ix_pl hc hi N hi (Nat.le_refl N)
      have hst : stB n o N (pl n o i) = true := stB_iff.mpr ⟨i, hi, rfl⟩
      have hst0 : stB n o i (pl n o i) = false := stB_f (fun j hj e2 => by have := hc.inj (by omega) hi e2; omega)
      have nxt : ∀ s'', Keep 15 [12] [8] s s'' → (∀ q, q ≤ 200 → q ≠ pl n o i → s'' 12 q = s' 12 q) → s'' 12 (pl n o i) = bI (((o (pl n o i) == 200) || fr (pl n o i)) || out n o N ld rc fr i) → s'' 15 8 = nI (cntF n o fr N + cO (out n o N ld rc fr) (i + 1)) → x_Layout_stretchJumps_109 (fun s x1 x2 => K (s, x1, x2)) P s'' (nI (cntF n o fr N)) (nI i) := by
        intro s'' a1 a2 a3 a4
        unfold x_Layout_stretchJumps_109
        rintro v rfl
        refine hK _ ⟨i + 1, by omega, rfl, nI_1 i, a1, fun q hq => ?_, a4⟩ ?_
        · dsimp only
          rw [stB_s]
          by_cases cq : q = pl n o i
          · subst cq
            rw [a3, hst, hix]
            simp
          · rw [a2 q hq cq, g5 q hq, show (pl n o i == q) = false by simpa using Ne.symm cq, Bool.or_false]
        · show 201 - (nI i + 1).toNatClampNeg < 201 - (nI i).toNatClampNeg
          rw [nI_1, nI_clamp (by omega), nI_clamp (by omega)]
          omega
      have same : out n o N ld rc fr i = false → x_Layout_stretchJumps_109 (fun s x1 x2 => K (s, x1, x2)) P s' (nI (cntF n o fr N)) (nI i) := by
        intro e1
        refine nxt s' g4 (fun _ _ _ => rfl) ?_ ?_
        · rw [g5 _ (by omega), hst, hst0, e1]
          simp
        · rw [g6]
          show _ = nI (cntF n o fr N + (cO (out n o N ld rc fr) i + (if out n o N ld rc fr i = true then 1 else 0)))
          rw [e1]
          rfl
      have far_ : out n o N ld rc fr i = true → x_Layout_stretchJumps_92 (fun s x1 x2 => K (s, x1, x2)) P s' (nI (cntF n o fr N)) (nI i) (nI (pl n o i)) := by
        intro e1
        unfold x_Layout_stretchJumps_92
        refine ⟨vp_in_nI (by omega) (by omega), ?_⟩
        rintro s21 rfl s22 rfl
        rw [nI_clamp (show pl n o i < 2 ^ 31 by omega), nar_1, su_row _ _ _ _ _ (by decide), g6]
        refine nxt _ ((g4.arr (by decide) (by decide)).scal (by decide)) (fun q hq hne => ?_) ?_ ?_
        · rw [su_row _ _ _ _ _ (by decide), su_ne _ _ _ _ _ hne]
        · rw [su_row _ _ _ _ _ (by decide), su_at, e1]
          simp [bI]
        · rw [su_at]
          show _ = nI (cntF n o fr N + (cO (out n o N ld rc fr) i + (if out n o N ld rc fr i = true then 1 else 0)))
          rw [if_pos e1]
          exact nI_1 _
      refine ⟨vp_in_nI (by omega) (by omega), ?_⟩
      rw [nI_clamp (show pl n o i < 2 ^ 31 by omega), g5 _ (by omega), hst, hst0, Bool.true_and, Bool.false_and, Bool.or_false]
      refine wpbn (fun e1 => same ?_) (fun e1 => ?_)
      · unfold out
        simp only [Bool.or_eq_true, beq_iff_eq] at e1
        rcases e1 with q | q
        · rw [q]; rfl
        · rw [q]; simp
      · simp only [Bool.or_eq_false_iff, beq_eq_false_iff_ne] at e1
        refine X_u1 hC' (by omega) (XK_isShortJump ho (wpb (fun e2 => same ?_) (fun e2 => ?_)))
        · unfold out; rw [e2]; rfl
        · obtain ⟨hng, hsw⟩ := ng_SJ e2
          obtain ⟨kk, hk1, hk2⟩ := hg i hi 0 (by omega)
          have hkpl := hc.lt hk1
          refine X_jumpGoal hC' (by omega) hsw ?_
          rw [hk2]
          refine ⟨vp_in_nI (by omega) (by omega), vp_in_nI (by omega) (by omega), ?_⟩
          intro v hv
          rw [nI_clamp (by omega), g4.1 10 (by decide) (by decide), g4.1 11 (by decide) (by decide), (hP.1 kk hk1).1, (hP.1 i hi).2.1] at hv
          have hps1 := ps_le (fr := fr) hc hld kk (by omega)
          have hps2 := ps_le (fr := fr) hc hld i (by omega)
          have hl1 := hld i
          have hfr : frI n o ld fr kk < 2 ^ 20 := by unfold frI; split <;> omega
          have hsp : spI n o ld fr i < 2 ^ 20 := by unfold spI; omega
          have hd : v.toInt = dst n o N ld fr i := by
            rw [hv, pk_sub_toInt (by omega) (by omega)]
            unfold dst
            rw [hk2, nI_clamp (by omega), ix_pl hc hk1 N hk1 (Nat.le_refl N)]
          rw [g4.2 4 (by decide), hr]
          have hO : out n o N ld rc fr i = (decide (dst n o N ld fr i < -(rc : Int)) || decide ((rc : Int) < dst n o N ld fr i)) := by
            unfold out
            rw [e2, e1.2]
            rfl
          refine ⟨fun q => far_ ?_, fun q => ⟨fun q2 => same ?_, fun q2 => far_ ?_⟩⟩
          · rw [Int32.lt_iff_toInt_lt, hd, neg_nI (by omega)] at q
            rw [hO, decide_eq_true q]
            rfl
          · rw [Int32.lt_iff_toInt_lt, hd, neg_nI (by omega)] at q
            rw [Int32.le_iff_toInt_le, hd, nI_toInt (by omega)] at q2
            rw [hO, decide_eq_false q, decide_eq_false (by omega)]
            rfl
          · rw [Int32.le_iff_toInt_le, hd, nI_toInt (by omega)] at q2
            rw [hO, decide_eq_true (show (rc : Int) < dst n o N ld fr i by omega), Bool.or_true]
theorem frs_same (R : Nat) (h : isR n o N ld rc R) : nxF n o N ld rc (frs n o N ld rc R) = frs n o N ld rc R := by
  funext q
  unfold nxF
  cases e : stB n o N q
  · simp
  · obtain ⟨i, hi, hq⟩ := stB_iff.mp e
    cases eo : out n o N ld rc (frs n o N ld rc R) (ix n o q N)
    · simp
    · exfalso
      have hix : ix n o q N < N := by
        clear e eo
        revert hi
        have : ∀ m, i < m → ix n o q m < m := by
          intro m
          induction m with
          | zero => intro h2; omega
          | succ m ih =>
            intro h2
            unfold ix
            split
            · omega
            · rename_i hne
              have : i ≠ m := fun e2 => hne (by rw [← e2]; exact hq)
              have := ih (by omega)
              omega
        exact this N
      rw [h.2 _ hix] at eo
      cases eo
theorem X_settle {Post : St → Prop} (h : CX s n o) (hc : Cmp n o N) (hN : s 15 5 = nI N) (h4 : ∀ i, i < N → s 4 i = nI (pl n o i)) (h5 : ∀ i, i < N → s 5 (pl n o i) = nI (ln n o (pl n o i))) (h9 : ∀ i, i < N → s 9 (pl n o i) = nI (ld i)) (hg : gok n o N) (hld : ∀ i, ld i ≤ 20) (hf : FX s n o N (fun _ => false)) (hr : s 15 4 = nI rc) (hrc : rc ≤ 32767) (h7 : s 15 7 = 0) (h8 : s 15 8 = 0)
    (k : ∀ s' R, isR n o N ld rc R → Keep 15 [6, 10, 11, 12] [7, 8] s s' → PL s' n o N ld (frs n o N ld rc R) → FX s' n o N (frs n o N ld rc R) → s' 15 7 = nI (R + 1) → s' 15 8 = nI (cntF n o (frs n o N ld rc R) N) → Post s') : x_Layout_settle s Post := by
  have hn := h.1
  have hNn := hc.le
  unfold x_Layout_settle x_Layout_settle_2
  refine itr_go (fun a => Keep 15 [6, 10, 11, 12] [7, 8] s a.1 ∧ ((a.2 = 0 ∧ ∃ R, isR n o N ld rc R ∧ PL a.1 n o N ld (frs n o N ld rc R) ∧ FX a.1 n o N (frs n o N ld rc R) ∧ a.1 15 7 = nI (R + 1) ∧ a.1 15 8 = nI (cntF n o (frs n o N ld rc R) N)) ∨ (a.2 = 1 ∧ ∃ r, (∀ r', r' < r → ∃ i, i < N ∧ out n o N ld rc (frs n o N ld rc r') i = true) ∧ r ≤ cntF n o (frs n o N ld rc r) N ∧ FX a.1 n o N (frs n o N ld rc r) ∧ a.1 15 7 = nI r ∧ a.1 15 8 = nI (cntF n o (frs n o N ld rc r) N)))) (fun a => if a.2 = 0 then 0 else 1 + (300 - (a.1 15 7).toNatClampNeg)) _ ?_ ?_
  · refine ⟨Keep.rf, Or.inr ⟨rfl, 0, fun r' hr' => absurd hr' (by omega), by omega, hf, h7, ?_⟩⟩
    dsimp only
    rw [h8]
    have : ∀ m, cntF n o (fun _ => false) m = 0 := by
      intro m
      induction m with
      | zero => rfl
      | succ m ih => unfold cntF; rw [ih]; rfl
    show _ = nI (cntF n o (fun _ => false) N)
    rw [this]
    rfl
  · rintro K ⟨s', x1⟩ ⟨g1, g2⟩ hK
    dsimp only at g1 g2 hK ⊢
    unfold x_Layout_settle_2F
    rcases g2 with ⟨rfl, R, a1, a2, a3, a4, a5⟩ | ⟨rfl, r, a1, a2, a3, a4, a5⟩
    · exact ⟨fun _ => k s' R a1 g1 a2 a3 a4 a5, fun z => absurd rfl z⟩
    · refine ⟨fun z => absurd z (by decide), fun _ => ?_⟩
      have hcF := cntF_le (n := n) (o := o) (fr := frs n o N ld rc r) N
      rw [a4]
      refine wplt 200 r rfl rfl (by omega) (by omega) (fun e => absurd e (by omega)) (fun e => ?_)
      rintro s3 rfl
      rw [show nI r + (1 : Int32) = nI (r + 1) from nI_1 r]
      have k3 := g1.scal (k := 7) (x := nI (r + 1)) (by decide)
      have c3 : CX (su s' 15 7 (nI (r + 1))) n o := h.keep (k3.1 0 (by decide) (by decide)) (k3.2 1 (by decide))
      refine X_givePlaces (ld := ld) (fr := frs n o N ld rc r) c3 hc (by rw [k3.2 5 (by decide)]; exact hN) (fun i hi => by rw [k3.1 4 (by decide) (by decide)]; exact h4 i hi) (fun i hi => by rw [k3.1 5 (by decide) (by decide)]; exact h5 i hi) (fun i hi => by rw [k3.1 9 (by decide) (by decide)]; exact h9 i hi) hld (fun q hq => by rw [su_row _ _ _ _ _ (by decide)]; exact a3 q hq) (fun s5 b1 b2 => ?_)
      have k5 := k3.tr (b1.mono (by decide) (by decide))
      have c5 : CX s5 n o := h.keep (k5.1 0 (by decide) (by decide)) (k5.2 1 (by decide))
      have e7 : s5 15 7 = nI (r + 1) := by rw [b1.2 7 (by decide), su_at]
      refine X_stretchJumps (ld := ld) (fr := frs n o N ld rc r) (rc := rc) c5 hc (by rw [k5.2 5 (by decide)]; exact hN) (fun i hi => by rw [k5.1 4 (by decide) (by decide)]; exact h4 i hi) hg hld b2 (fun q hq => by rw [b1.1 12 (by decide) (by decide), su_row _ _ _ _ _ (by decide)]; exact a3 q hq) (by rw [k5.2 4 (by decide)]; exact hr) hrc (by rw [b1.2 8 (by decide), su_ne _ _ _ _ _ (by decide)]; exact a5) (fun s7 d1 d2 d3 => ?_)
      have k7 := k5.tr (d1.mono (by decide) (by decide))
      have e77 : s7 15 7 = nI (r + 1) := by rw [d1.2 7 (by decide), e7]
      have hcO := cO_0 (f := out n o N ld rc (frs n o N ld rc r)) N
      by_cases c : 0 < cO (out n o N ld rc (frs n o N ld rc r)) N
      · rw [decide_eq_true c]
        obtain ⟨i0, hi0, ho0⟩ : ∃ i, i < N ∧ out n o N ld rc (frs n o N ld rc r) i = true := by
          refine Classical.byContradiction (fun hno => ?_)
          have := hcO.mpr (fun i hi => by
            cases e : out n o N ld rc (frs n o N ld rc r) i
            · rfl
            · exact absurd ⟨i, hi, e⟩ hno)
          omega
        have hlt := cntF_lt (fr := frs n o N ld rc r) hc ho0 N (Nat.le_refl N) hi0
        refine hK _ ⟨k7, Or.inr ⟨rfl, r + 1, fun r' hr' => ?_, ?_, d2, e77, d3⟩⟩ ?_
        · rcases Nat.lt_or_ge r' r with q | q
          · exact a1 r' q
          · rw [show r' = r by omega]; exact ⟨i0, hi0, ho0⟩
        · show r + 1 ≤ cntF n o (nxF n o N ld rc (frs n o N ld rc r)) N
          omega
        · dsimp only
          rw [if_neg (by decide), if_neg (by decide), e77, a4, nI_clamp (by omega), nI_clamp (by omega)]
          omega
      · rw [decide_eq_false c]
        have hR : isR n o N ld rc r := ⟨a1, hcO.mp (by omega)⟩
        have hsame := frs_same r hR
        refine hK _ ⟨k7, Or.inl ⟨rfl, r, hR, ?_, ?_, e77, ?_⟩⟩ ?_
        · refine ⟨fun kk hkk => ?_, ?_⟩
          · dsimp only
            rw [d1.1 10 (by decide) (by decide), d1.1 11 (by decide) (by decide), d1.1 6 (by decide) (by decide)]
            exact b2.1 kk hkk
          · dsimp only
            rw [d1.1 10 (by decide) (by decide)]
            exact b2.2
        · rw [hsame] at d2
          exact d2
        · rw [hsame] at d3
          exact d3
        · dsimp only
          rw [if_pos (show bI false = 0 from rfl), if_neg (show ¬ (1 : Int32) = 0 by decide)]
          omega
end XS
