/-! PURE. An input, whole; the class makes its layout of it. -/
abbrev In : Type := Nat × (Nat → Nat) × Nat × (Nat → Nat → Nat) × (Nat → Nat) × (Nat → Bool) × Nat × Nat
def jn (x : In) : Nat := x.1
def jo (x : In) : Nat → Nat := x.2.1
def jh (x : In) : Nat := x.2.2.1
def jd (x : In) : Nat → Nat → Nat := x.2.2.2.1
def jc (x : In) : Nat → Nat := x.2.2.2.2.1
def jk (x : In) : Nat → Bool := x.2.2.2.2.2.1
def jb (x : In) : Nat := x.2.2.2.2.2.2.1
def jr (x : In) : Nat := x.2.2.2.2.2.2.2
def jp (x : In) (i : Nat) : Nat := pl (jn x) (jo x) i
/-- a goal, or a handler's place: a block begins there -/
def jz (x : In) (N q : Nat) : Bool := (List.range N).any (fun i => (List.range (ng (jo x) (jp x i))).any (fun j => goal (jo x) (jp x i) j == nI q)) || (List.range (jh x)).any (fun h => jd x h 2 == q)
def jB (x : In) (N : Nat) : Nat → Bool := bB (jn x) (jo x) (jz x N)
def jP (x : In) : Nat → Nat := pP (jn x) (jo x) (jc x)
def jC (x : In) (N i : Nat) : Nat := cb (jB x N) (jP x) N i
def jl (x : In) (q : Nat) : Bool := lk (jd x) (jk x) (jh x) q
def jld (x : In) (N i : Nat) : Nat := ldf (jo x) (jl x (jp x i)) (jB x N i) (jC x N i) (jp x i)
def jF (x : In) (N r : Nat) : Nat → Bool := frs (jn x) (jo x) N (jld x N) (jr x) r
def jR (x : In) (N R : Nat) : Prop := isR (jn x) (jo x) N (jld x N) (jr x) R
def jps (x : In) (N R i : Nat) : Nat := ps (jn x) (jo x) (jld x N) (jF x N R) i
def Form (x : In) (N : Nat) : Prop := Cmp (jn x) (jo x) N ∧ 0 < N ∧ gok (jn x) (jo x) N ∧ ∀ h, h < jh x → isSt (jn x) (jo x) N (jd x h 0) ∧ (isSt (jn x) (jo x) N (jd x h 1) ∨ jd x h 1 = jn x) ∧ jd x h 0 < jd x h 1 ∧ isSt (jn x) (jo x) N (jd x h 2)
theorem jz_iff {x : In} {N q : Nat} : jz x N q = true ↔ (∃ i j, i < N ∧ j < ng (jo x) (jp x i) ∧ goal (jo x) (jp x i) j = nI q) ∨ ∃ h, h < jh x ∧ jd x h 2 = q := by
  unfold jz
  simp only [Bool.or_eq_true, List.any_eq_true, List.mem_range, beq_iff_eq]
  constructor
  · rintro (⟨i, hi, j, hj, e⟩ | h)
    · exact Or.inl ⟨i, j, hi, hj, e⟩
    · exact Or.inr h
  · rintro (⟨i, j, hi, hj, e⟩ | h)
    · exact Or.inl ⟨i, hi, j, hj, e⟩
    · exact Or.inr h
theorem jld_le (x : In) (N i : Nat) : jld x N i ≤ 20 := ldf_le _ _ _ _ _
def okIn (x : In) : Prop := (∀ j, jc x j ≤ 99) ∧ jb x ≤ 65530 ∧ 4 ≤ jr x ∧ jr x ≤ 32767
theorem jC_le {x : In} (h : okIn x) {N : Nat} (hN : N ≤ 200) (i : Nat) : jC x N i ≤ 20000 := by
  have h1 := cb_le (B := jB x N) (P := jP x) (c := 99) (fun i => h.1 _) N i
  unfold jC
  omega
/-- the class holds the input x -/
def IX (s : St) (x : In) : Prop := CX s (jn x) (jo x) ∧ HX s (jh x) (jd x) ∧ KX s (jc x) ∧ MX s (jk x) ∧ s 15 3 = nI (jb x) ∧ s 15 4 = nI (jr x) ∧ okIn x
theorem IX.keep {s t : St} {x : In} (h : IX s x) (h0 : t 0 = s 0) (h1 : t 1 = s 1) (h2 : t 2 = s 2) (h3 : t 3 = s 3) (hs : ∀ k, 1 ≤ k → k ≤ 4 → t 15 k = s 15 k) : IX t x := by
  obtain ⟨a, b, c, d, e, f, g⟩ := h
  refine ⟨a.keep h0 (hs 1 (by omega) (by omega)), ⟨b.1, by rw [hs 2 (by omega) (by omega)]; exact b.2.1, fun h hh => by rw [h1]; exact b.2.2 h hh⟩, ⟨fun j hj => by rw [h2]; exact c.1 j hj, c.2⟩, fun q hq => by rw [h3]; exact d q hq, by rw [hs 3 (by omega) (by omega)]; exact e, by rw [hs 4 (by omega) (by omega)]; exact f, g⟩
theorem IX.kp {s t : St} {x : In} {rows scs : List Nat} (h : IX s x) (hk : Keep 15 rows scs s t) (h0 : 0 ∉ rows) (h1 : 1 ∉ rows) (h2 : 2 ∉ rows) (h3 : 3 ∉ rows) (hs : ∀ k, 1 ≤ k → k ≤ 4 → k ∉ scs) : IX t x := h.keep (hk.1 0 h0 (by decide)) (hk.1 1 h1 (by decide)) (hk.1 2 h2 (by decide)) (hk.1 3 h3 (by decide)) (fun k a b => hk.2 k (hs k a b))
/-- the class's layout of x -/
def LayX (s : St) (x : In) (N R : Nat) : Prop := s 15 5 = nI N ∧ (∀ i, i < N → s 4 i = nI (jp x i)) ∧ (∀ q, q ≤ 200 → s 5 q = nI (Ls (jn x) (jo x) N q)) ∧ (∀ i, i < N → s 7 (jp x i) = if jB x N i = true then nI (jC x N i) else -1) ∧ (∀ q, q ≤ 200 → s 8 q = bI (jl x q)) ∧ PL s (jn x) (jo x) N (jld x N) (jF x N R) ∧ FX s (jn x) (jo x) N (jF x N R) ∧ s 15 6 = nI (nb (jB x N) N) ∧ s 15 7 = nI (R + 1) ∧ s 15 8 = nI (cntF (jn x) (jo x) (jF x N R) N) ∧ s 15 9 = nI (sm (jP x) N) ∧ ∀ i, i < N → s 9 (jp x i) = nI (jld x N i)
/-- the class's layout is forgotten -/
def NoX (s : St) : Prop := (∀ q, q ≤ 200 → s 5 q = 0 ∧ s 7 q = -1 ∧ s 8 q = 0 ∧ s 12 q = 0) ∧ ∀ k, 5 ≤ k → k ≤ 9 → s 15 k = 0
section MK
variable {s : St} {Post : St → Prop}
theorem X_fill_9 {v : Int32} (k : ∀ s', Keep 15 [5] [] s s' → (∀ q, q ≤ 200 → s' 5 q = v) → Post s') : x_Arrays_fill_9 s v Post := by
  unfold x_Arrays_fill_9 x_Arrays_fill_9_5
  refine itr_go (fun a => ∃ i : Nat, i ≤ 201 ∧ a.2.1 = v ∧ a.2.2.1 = nI i ∧ a.2.2.2 = nI 201 ∧ Keep 15 [5] [] s a.1 ∧ ∀ j, j < i → a.1 5 j = v) (fun a => 201 - a.2.2.1.toNatClampNeg) _ ?_ ?_
  · exact ⟨0, by omega, rfl, rfl, rfl, Keep.rf, fun j hj => absurd hj (by omega)⟩
  · rintro K ⟨s', x1, x2, x3⟩ ⟨i, hi, h1, h2, h3, h4, h5⟩ hK
    dsimp only at h1 h2 h3 h4 h5 hK ⊢
    subst h1 h2 h3
    unfold x_Arrays_fill_9_5F
    refine wple 201 i rfl rfl (by omega) (by omega) (fun e => k s' h4 (fun q hq => h5 q (by omega))) (fun e => ⟨vp_in_nI (by omega) (by omega), ?_⟩)
    rintro s3 rfl v4 rfl
    rw [nI_clamp (by omega)]
    refine hK _ ⟨i + 1, by omega, rfl, nI_1 i, rfl, h4.arr (by decide) (by decide), fun j hj => ?_⟩ ?_
    · dsimp only
      by_cases e2 : j = i
      · rw [e2, su_at]
      · rw [su_ne _ _ _ _ _ e2]
        exact h5 j (by omega)
    · show 201 - (nI i + 1).toNatClampNeg < 201 - (nI i).toNatClampNeg
      rw [nI_1, nI_clamp (by omega), nI_clamp (by omega)]
      omega
theorem X_fill_11 {v : Int32} (k : ∀ s', Keep 15 [7] [] s s' → (∀ q, q ≤ 200 → s' 7 q = v) → Post s') : x_Arrays_fill_11 s v Post := by
  unfold x_Arrays_fill_11 x_Arrays_fill_11_5
  refine itr_go (fun a => ∃ i : Nat, i ≤ 201 ∧ a.2.1 = v ∧ a.2.2.1 = nI i ∧ a.2.2.2 = nI 201 ∧ Keep 15 [7] [] s a.1 ∧ ∀ j, j < i → a.1 7 j = v) (fun a => 201 - a.2.2.1.toNatClampNeg) _ ?_ ?_
  · exact ⟨0, by omega, rfl, rfl, rfl, Keep.rf, fun j hj => absurd hj (by omega)⟩
  · rintro K ⟨s', x1, x2, x3⟩ ⟨i, hi, h1, h2, h3, h4, h5⟩ hK
    dsimp only at h1 h2 h3 h4 h5 hK ⊢
    subst h1 h2 h3
    unfold x_Arrays_fill_11_5F
    refine wple 201 i rfl rfl (by omega) (by omega) (fun e => k s' h4 (fun q hq => h5 q (by omega))) (fun e => ⟨vp_in_nI (by omega) (by omega), ?_⟩)
    rintro s3 rfl v4 rfl
    rw [nI_clamp (by omega)]
    refine hK _ ⟨i + 1, by omega, rfl, nI_1 i, rfl, h4.arr (by decide) (by decide), fun j hj => ?_⟩ ?_
    · dsimp only
      by_cases e2 : j = i
      · rw [e2, su_at]
      · rw [su_ne _ _ _ _ _ e2]
        exact h5 j (by omega)
    · show 201 - (nI i + 1).toNatClampNeg < 201 - (nI i).toNatClampNeg
      rw [nI_1, nI_clamp (by omega), nI_clamp (by omega)]
      omega
theorem X_forget (k : ∀ s', Keep 15 [5, 7, 8, 12] [5, 6, 7, 8, 9] s s' → NoX s' → Post s') : x_Layout_forget s Post := by
  unfold x_Layout_forget
  refine X_fill_9 (fun s2 a1 a2 => X_fill_11 (fun s4 b1 b2 => ?_))
  have k4 : Keep 15 [5, 7, 8, 12] [5, 6, 7, 8, 9] s s4 := (a1.mono (by decide) (by decide)).tr (b1.mono (by decide) (by decide))
  unfold x_Layout_forget_18
  refine itr_go (fun a => ∃ i : Nat, i ≤ 201 ∧ a.2 = nI i ∧ Keep 15 [8, 12] [] s4 a.1 ∧ ∀ j, j < i → a.1 8 j = 0 ∧ a.1 12 j = 0) (fun a => 201 - a.2.toNatClampNeg) _ ?_ ?_
  · exact ⟨0, by omega, rfl, Keep.rf, fun j hj => absurd hj (by omega)⟩
  · rintro K ⟨s', x1⟩ ⟨i, hi, h1, h4, h5⟩ hK
    dsimp only at h1 h4 h5 hK ⊢
    subst h1
    unfold x_Layout_forget_18F
    refine wplt 200 i rfl rfl (by omega) (by omega) (fun e => ?_) (fun e => ⟨vp_in_nI (by omega) (by omega), ?_⟩)
    · rintro s6 rfl s7 rfl s8 rfl s9 rfl s10 rfl
      have kk := k4.tr (h4.mono (rows' := [5, 7, 8, 12]) (scs' := [5, 6, 7, 8, 9]) (by decide) (by decide))
      refine k _ (((((kk.scal (by decide)).scal (by decide)).scal (by decide)).scal (by decide)).scal (by decide)) ⟨fun q hq => ?_, fun j h1 h2 => ?_⟩
      · refine ⟨?_, ?_, (h5 q (by omega)).1, (h5 q (by omega)).2⟩
        · show s' 5 q = 0
          rw [h4.1 5 (by decide) (by decide), b1.1 5 (by decide) (by decide)]
          exact a2 q hq
        · show s' 7 q = -1
          rw [h4.1 7 (by decide) (by decide)]
          exact b2 q hq
      · rcases (show j = 5 ∨ j = 6 ∨ j = 7 ∨ j = 8 ∨ j = 9 by omega) with rfl | rfl | rfl | rfl | rfl <;> rfl
    · rintro s12 rfl
      refine ⟨vp_in_nI (by omega) (by omega), ?_⟩
      rintro s14 rfl v rfl
      rw [nI_clamp (by omega), nar_0]
      refine hK _ ⟨i + 1, by omega, nI_1 i, (h4.arr (by decide) (by decide)).arr (by decide) (by decide), fun j hj => ?_⟩ ?_
      · dsimp only
        by_cases e2 : j = i
        · subst e2
          exact ⟨by rw [su_row _ _ _ _ _ (by decide), su_at], su_at _ _ _ _⟩
        · rw [su_row _ _ _ _ _ (by decide), su_ne _ _ _ _ _ e2, su_ne _ _ _ _ _ e2, su_row _ _ _ _ _ (by decide)]
          exact h5 j (by omega)
      · show 201 - (nI i + 1).toNatClampNeg < 201 - (nI i).toNatClampNeg
        rw [nI_1, nI_clamp (by omega), nI_clamp (by omega)]
        omega
theorem Ls_pos {n : Nat} {o : Nat → Nat} {N q : Nat} (hc : Cmp n o N) : 0 < Ls n o N q ↔ isSt n o N q := by
  unfold Ls
  constructor
  · intro h
    split at h
    · rename_i e
      obtain ⟨i, hi, e2⟩ := stB_iff.mp e
      exact ⟨i, hi, e2⟩
    · omega
  · rintro ⟨i, hi, rfl⟩
    rw [if_pos (stB_iff.mpr ⟨i, hi, rfl⟩)]
    exact hc.2 i hi
theorem beg_Ls {n : Nat} {o : Nat → Nat} {N : Nat} (hc : Cmp n o N) (hn : n ≤ 200) {g : Int32} : beg (Ls n o N) g = true ↔ ∃ k, k < N ∧ g = nI (pl n o k) := by
  constructor
  · intro h
    obtain ⟨j, hj, rfl, hl⟩ := beg_of h
    obtain ⟨k, hk, e⟩ := (Ls_pos hc).mp hl
    exact ⟨k, hk, by rw [e]⟩
  · rintro ⟨k, hk, rfl⟩
    have := hc.lt hk
    rw [beg_nI (by omega)]
    exact decide_eq_true ((Ls_pos hc).mpr ⟨k, hk, rfl⟩)
theorem X_make {P : Int32 → St → Prop} {x : In} (h : IX s x)
    (k1 : (¬ ∃ N, Form x N) → ∀ s', Keep 15 [4, 5, 6, 7, 8, 9, 10, 11, 12] [5, 6, 7, 8, 9] s s' → NoX s' → P 1 s')
    (k2 : ∀ N R, Form x N → jR x N R → 1200 < jps x N R N → ∀ s', Keep 15 [4, 5, 6, 7, 8, 9, 10, 11, 12] [5, 6, 7, 8, 9] s s' → NoX s' → P 2 s')
    (k0 : ∀ N R, Form x N → jR x N R → jps x N R N ≤ 1200 → ∀ s', Keep 15 [4, 5, 6, 7, 8, 9, 10, 11, 12] [5, 6, 7, 8, 9] s s' → LayX s' x N R → P 0 s') : x_Layout_make s P := by
  have hn := h.1.1
  have wrong : ∀ v : Int32, ¬ v = 0 → (∀ s', Keep 15 [4, 5, 6, 7, 8, 9, 10, 11, 12] [5, 6, 7, 8, 9] s s' → NoX s' → P v s') → ∀ s', Keep 15 [4, 5, 6, 7, 8, 9, 10, 11, 12] [5, 6, 7, 8, 9] s s' → x_Layout_make_63 P s' v := by
    intro v hv hk s' hs'
    unfold x_Layout_make_63
    exact ⟨fun z => absurd z hv, fun _ => X_forget (fun s2 a1 a2 => hk s2 (hs'.tr (a1.mono (by decide) (by decide))) a2)⟩
  unfold x_Layout_make
  refine X_forget (fun s2 a1 a2 => ?_)
  have q2 : Keep 15 [4, 5, 6, 7, 8, 9, 10, 11, 12] [5, 6, 7, 8, 9] s s2 := a1.mono (by decide) (by decide)
  have i2 : IX s2 x := h.kp q2 (by decide) (by decide) (by decide) (by decide) (fun k _ _ hk => by simp at hk; omega)
  refine X_readInstructions i2.1 (fun p hp => (a2.1 p hp).1) (fun p hp => (a2.1 p hp).2.2.2) (a2.2 5 (by omega) (by omega)) (fun s4 b1 b2 => ?_) (fun s4 N hc hN b2 b3 b4 b5 b6 => ?_)
  · refine ⟨fun _ => ?_, fun z => absurd rfl z⟩
    exact wrong 1 (by decide) (k1 (fun ⟨N, hF⟩ => b1 ⟨N, hF.2.1, hF.1⟩)) s4 (q2.tr (b2.mono (by decide) (by decide)))
  · refine ⟨fun z => absurd z (by decide), fun _ => ?_⟩
    have q4 : Keep 15 [4, 5, 6, 7, 8, 9, 10, 11, 12] [5, 6, 7, 8, 9] s s4 := q2.tr (b2.mono (by decide) (by decide))
    have i4 : IX s4 x := h.kp q4 (by decide) (by decide) (by decide) (by decide) (fun k _ _ hk => by simp at hk; omega)
    have hL4 : LX s4 (Ls (jn x) (jo x) N) := fun p hp => ⟨b5 p hp, by have := Ls_le (n := jn x) (o := jo x) N p; omega⟩
    have uq : ∀ M, Form x M → M = N := fun M hM => hM.1.uniq hc
    refine X_readGoals i4.1 hc b3 b4 hL4 (fun i hi => ?_) (fun s7 c1 c2 => ?_) (fun s7 c1 c2 c3 => ?_)
    · unfold Ls
      rw [if_pos (stB_iff.mpr ⟨i, hi, rfl⟩)]
    · refine ⟨fun _ => ?_, fun z => absurd rfl z⟩
      refine wrong 1 (by decide) (k1 ?_) s7 (q4.tr (c2.mono (by decide) (by decide)))
      rintro ⟨M, hM⟩
      obtain ⟨i, j, hi, hj, hb⟩ := c1
      have := uq M hM
      subst this
      have := (beg_Ls hc hn).mpr (hM.2.2.1 i hi j hj)
      rw [hb] at this
      cases this
    · refine ⟨fun z => absurd z (by decide), fun _ => ?_⟩
      have q7 : Keep 15 [4, 5, 6, 7, 8, 9, 10, 11, 12] [5, 6, 7, 8, 9] s s7 := q4.tr (c2.mono (by decide) (by decide))
      have i7 : IX s7 x := h.kp q7 (by decide) (by decide) (by decide) (by decide) (fun k _ _ hk => by simp at hk; omega)
      have hg : gok (jn x) (jo x) N := fun i hi j hj => (beg_Ls hc hn).mp (c1 i hi j hj)
      have hL7 : LX s7 (Ls (jn x) (jo x) N) := fun p hp => by rw [c2.1 5 (by decide) (by decide)]; exact hL4 p hp
      have e8 : ∀ q, q ≤ 200 → s7 8 q = 0 := fun q hq => by rw [c2.1 8 (by decide) (by decide), b2.1 8 (by decide) (by decide)]; exact (a2.1 q hq).2.2.1
      have hok_iff : ∀ hh, hok (Ls (jn x) (jo x) N) (jn x) (jd x) hh ↔ (isSt (jn x) (jo x) N (jd x hh 0) ∧ (isSt (jn x) (jo x) N (jd x hh 1) ∨ jd x hh 1 = jn x) ∧ jd x hh 0 < jd x hh 1 ∧ isSt (jn x) (jo x) N (jd x hh 2)) := fun hh => by
        unfold hok
        rw [Ls_pos hc, Ls_pos hc, Ls_pos hc]
      refine X_readHandlers i7.1 i7.2.1 i7.2.2.2.1 hL7 e8 (fun s10 d1 d2 => ?_) (fun s10 d1 d2 d3 d4 d5 => ?_)
      · refine ⟨fun _ => ?_, fun z => absurd rfl z⟩
        refine wrong 1 (by decide) (k1 ?_) s10 (q7.tr (d2.mono (by decide) (by decide)))
        rintro ⟨M, hM⟩
        have := uq M hM
        subst this
        obtain ⟨hh, hh1, hh2⟩ := d1
        exact hh2 ((hok_iff hh).mpr (hM.2.2.2 hh hh1))
      · refine ⟨fun z => absurd z (by decide), fun _ => ?_⟩
        have hF : Form x N := ⟨hc, hN, hg, fun hh hh1 => (hok_iff hh).mp (d1 hh hh1)⟩
        have q10 : Keep 15 [4, 5, 6, 7, 8, 9, 10, 11, 12] [5, 6, 7, 8, 9] s s10 := q7.tr (d2.mono (by decide) (by decide))
        have i10 : IX s10 x := h.kp q10 (by decide) (by decide) (by decide) (by decide) (fun k _ _ hk => by simp at hk; omega)
        have r7 : ∀ q, q ≤ 200 → s7 7 q = -1 ∨ s7 7 q = 0 := fun q hq => by
          by_cases c : ∃ i j, i < N ∧ j < ng (jo x) (jp x i) ∧ goal (jo x) (jp x i) j = nI q
          · obtain ⟨i, j, h1, h2, h3⟩ := c
            exact Or.inr (c3.1 i h1 j h2 q hq h3)
          · left
            rw [c3.2 q hq (fun i h1 j h2 h3 => c ⟨i, j, h1, h2, h3⟩), b2.1 7 (by decide) (by decide)]
            exact (a2.1 q hq).2.1
        have e7 : ∀ q, q ≤ 200 → s10 7 q = if jz x N q = true then 0 else -1 := fun q hq => by
          by_cases ch : ∃ hh, hh < jh x ∧ jd x hh 2 = q
          · obtain ⟨hh, h1, h2⟩ := ch
            rw [if_pos (jz_iff.mpr (Or.inr ⟨hh, h1, h2⟩)), ← h2]
            exact d3 hh h1
          · rw [d4 q hq (fun hh h1 h2 => ch ⟨hh, h1, h2⟩)]
            by_cases c : ∃ i j, i < N ∧ j < ng (jo x) (jp x i) ∧ goal (jo x) (jp x i) j = nI q
            · rw [if_pos (jz_iff.mpr (Or.inl c))]
              obtain ⟨i, j, h1, h2, h3⟩ := c
              exact c3.1 i h1 j h2 q hq h3
            · rw [if_neg (fun z => (jz_iff.mp z).elim c ch), c3.2 q hq (fun i h1 j h2 h3 => c ⟨i, j, h1, h2, h3⟩), b2.1 7 (by decide) (by decide)]
              exact (a2.1 q hq).2.1
        have s5 : s10 15 5 = nI N := by rw [d2.2 5 (by decide), c2.2 5 (by decide)]; exact b3
        have s4' : ∀ i, i < N → s10 4 i = nI (pl (jn x) (jo x) i) := fun i hi => by rw [d2.1 4 (by decide) (by decide), c2.1 4 (by decide) (by decide)]; exact b4 i hi
        have z69 : ∀ k, 6 ≤ k → k ≤ 9 → s10 15 k = 0 := fun k h1 h2 => by
          rw [d2.2 k (by simp), c2.2 k (by simp), b2.2 k (by simp; omega)]
          exact a2.2 k (by omega) (by omega)
        refine X_sumBlocks (z := jz x N) i10.1 hc s5 s4' i10.2.2.1 e7 (z69 6 (by omega) (by omega)) (z69 9 (by omega) (by omega)) (fun s13 f1 f2 f3 f4 => ?_)
        have q13 : Keep 15 [4, 5, 6, 7, 8, 9, 10, 11, 12] [5, 6, 7, 8, 9] s s13 := q10.tr (f1.mono (by decide) (by decide))
        have i13 : IX s13 x := h.kp q13 (by decide) (by decide) (by decide) (by decide) (fun k _ _ hk => by simp at hk; omega)
        have hNn := hc.le
        refine X_measureLeads (B := jB x N) (C := jC x N) (lo := jl x) i13.1 hc (by rw [f1.2 5 (by decide)]; exact s5) (fun i hi => by rw [f1.1 4 (by decide) (by decide)]; exact s4' i hi) f2 (jC_le h.2.2.2.2.2.2 (by omega)) (fun q hq => by rw [f1.1 8 (by decide) (by decide)]; exact d5 q hq) (fun s15 u1 u2 => ?_)
        have q15 : Keep 15 [4, 5, 6, 7, 8, 9, 10, 11, 12] [5, 6, 7, 8, 9] s s15 := q13.tr (u1.mono (by decide) (by decide))
        have i15 : IX s15 x := h.kp q15 (by decide) (by decide) (by decide) (by decide) (fun k _ _ hk => by simp at hk; omega)
        have r5 : ∀ q, q ≤ 200 → s15 5 q = nI (Ls (jn x) (jo x) N q) := fun q hq => by rw [u1.1 5 (by decide) (by decide), f1.1 5 (by decide) (by decide), d2.1 5 (by decide) (by decide), c2.1 5 (by decide) (by decide)]; exact b5 q hq
        have t5 : s15 15 5 = nI N := by rw [u1.2 5 (by decide), f1.2 5 (by decide)]; exact s5
        have t4 : ∀ i, i < N → s15 4 i = nI (pl (jn x) (jo x) i) := fun i hi => by rw [u1.1 4 (by decide) (by decide), f1.1 4 (by decide) (by decide)]; exact s4' i hi
        refine X_settle (ld := jld x N) (rc := jr x) i15.1 hc t5 t4 (fun i hi => ?_) u2 hg (jld_le x N) (fun q hq => ?_) i15.2.2.2.2.2.1 h.2.2.2.2.2.2.2.2.2 (by rw [u1.2 7 (by decide), f1.2 7 (by decide)]; exact z69 7 (by omega) (by omega)) (by rw [u1.2 8 (by decide), f1.2 8 (by decide)]; exact z69 8 (by omega) (by omega)) (fun s17 R w1 w2 w3 w4 w5 w6 => ?_)
        · have := hc.lt hi
          rw [r5 _ (by omega)]
          unfold Ls
          rw [if_pos (stB_iff.mpr ⟨i, hi, rfl⟩)]
        · rw [u1.1 12 (by decide) (by decide), f1.1 12 (by decide) (by decide), d2.1 12 (by decide) (by decide), c2.1 12 (by decide) (by decide), Bool.or_false]
          exact b6 q hq
        have q17 : Keep 15 [4, 5, 6, 7, 8, 9, 10, 11, 12] [5, 6, 7, 8, 9] s s17 := q15.tr (w2.mono (by decide) (by decide))
        have i17 : IX s17 x := h.kp q17 (by decide) (by decide) (by decide) (by decide) (fun k _ _ hk => by simp at hk; omega)
        have hps := ps_le (fr := jF x N R) hc (jld_le x N) N (Nat.le_refl N)
        rw [i17.1.2.1]
        refine ⟨vp_in_nI (by omega) (by omega), ?_⟩
        rw [nI_clamp (by omega), w3.2]
        refine wple (jps x N R N) 1200 rfl rfl (by unfold jps; omega) (by omega) (fun e => ?_) (fun e => ?_)
        · unfold x_Layout_make_62 x_Layout_make_63
          refine ⟨fun _ => k0 N R hF w1 e s17 q17 ?_, fun z => absurd rfl z⟩
          refine ⟨by rw [w2.2 5 (by decide)]; exact t5, fun i hi => by rw [w2.1 4 (by decide) (by decide)]; exact t4 i hi, fun q hq => by rw [w2.1 5 (by decide) (by decide)]; exact r5 q hq, fun i hi => by rw [w2.1 7 (by decide) (by decide), u1.1 7 (by decide) (by decide)]; exact f2 i hi, fun q hq => by rw [w2.1 8 (by decide) (by decide), u1.1 8 (by decide) (by decide), f1.1 8 (by decide) (by decide)]; exact d5 q hq, w3, w4, by rw [w2.2 6 (by decide), u1.2 6 (by decide)]; exact f3, w5, w6, by rw [w2.2 9 (by decide), u1.2 9 (by decide)]; exact f4, fun i hi => by rw [w2.1 9 (by decide) (by decide)]; exact u2 i hi⟩
        · unfold x_Layout_make_62
          exact wrong 2 (by decide) (k2 N R hF w1 (by omega)) s17 q17
end MK
