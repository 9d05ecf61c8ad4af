/-! PURE. The class writes. -/
def OutX (s : St) (l : List Int32) : Prop := s 15 10 = nI l.length ∧ ∀ k, k < l.length → s 13 k = l.getD k 0
/-- the writer: l is written, ca calls, pu pushes -/
def WX (s : St) (l : List Int32) (ca pu : Nat) : Prop := OutX s l ∧ s 15 12 = nI ca ∧ s 15 13 = nI pu
section XW2
variable {s : St} {Post : St → Prop} {l : List Int32} {ca pu : Nat} {v : Int32}
abbrev KW (s t : St) : Prop := Keep 15 [13] [10, 12, 13] s t
theorem X_put1 (h : WX s l ca pu) (hl : l.length < 1200) (k : ∀ s', KW s s' → WX s' (l ++ e1 v) ca pu → Post s') : x_Output_put1 s v Post := by
  obtain ⟨⟨h1, h2⟩, h3, h4⟩ := h
  unfold x_Output_put1
  rw [h1]
  refine wple 1200 l.length rfl rfl (by omega) (by omega) (fun e => absurd e (by omega)) (fun e => ?_)
  rintro s2 rfl
  refine ⟨vp_in_nI (by omega) (by omega), ?_⟩
  rintro s4 rfl
  rw [nI_clamp (by omega)]
  refine k _ ((Keep.rf.scal (by decide)).arr (by decide) (by decide)) ⟨⟨?_, fun j hj => ?_⟩, h3, h4⟩
  · show nI l.length + 1 = nI (l ++ e1 v).length
    rw [List.length_append, e1_len]
    exact nI_1 _
  · rw [List.length_append, e1_len] at hj
    by_cases e2 : j = l.length
    · rw [e2, su_at]
      simp [e1]
    · rw [su_ne _ _ _ _ _ e2, su_row _ _ _ _ _ (by decide), h2 j (by omega)]
      simp [List.getD_eq_getElem?_getD, List.getElem?_append_left (show j < l.length by omega)]
theorem KW.tr {a b c : St} (h : KW a b) (g : KW b c) : KW a c := Keep.tr h g
theorem X_put2 (h : WX s l ca pu) (hl : l.length + 2 ≤ 1200) (k : ∀ s', KW s s' → WX s' (l ++ e2 v) ca pu → Post s') : x_Output_put2 s v Post := by
  unfold x_Output_put2
  refine X_put1 h (by omega) (fun s2 a1 a2 => X_put1 a2 (by rw [List.length_append, e1_len]; omega) (fun s4 b1 b2 => k s4 (a1.tr b1) ?_))
  rw [List.append_assoc] at b2
  exact b2
theorem X_put4 (h : WX s l ca pu) (hl : l.length + 4 ≤ 1200) (k : ∀ s', KW s s' → WX s' (l ++ e4 v) ca pu → Post s') : x_Output_put4 s v Post := by
  unfold x_Output_put4
  refine X_put2 h (by omega) (fun s2 a1 a2 => X_put2 a2 (by rw [List.length_append, e2_len]; omega) (fun s4 b1 b2 => k s4 (a1.tr b1) ?_))
  rw [List.append_assoc] at b2
  exact b2
theorem X_putCall {b w : Nat} (h : WX s l ca pu) (hb : s 15 3 = nI b) (hl : l.length + 3 ≤ 1200) (k : ∀ s', KW s s' → WX s' (l ++ eCall b w) (ca + 1) pu → Post s') : x_Output_putCall s (nI w) Post := by
  unfold x_Output_putCall
  refine X_put1 h (by omega) (fun s2 a1 a2 => ?_)
  rw [a1.2 3 (by decide), hb, nI_add]
  refine X_put2 a2 (by rw [List.length_append, e1_len]; omega) (fun s4 b1 b2 => ?_)
  rintro s5 rfl
  rw [List.append_assoc] at b2
  obtain ⟨⟨c1, c2⟩, c3, c4⟩ := b2
  refine k _ ((a1.tr b1).scal (by decide)) ⟨⟨c1, c2⟩, ?_, c4⟩
  rw [su_at, c3]
  exact nI_1 _
theorem X_putDuplicate (h : WX s l ca pu) (hl : l.length + 1 ≤ 1200) (k : ∀ s', KW s s' → WX s' (l ++ e1 89) ca (pu + 1) → Post s') : x_Output_putDuplicate s Post := by
  unfold x_Output_putDuplicate
  refine X_put1 h (by omega) (fun s2 a1 a2 => ?_)
  rintro s3 rfl
  obtain ⟨⟨c1, c2⟩, c3, c4⟩ := a2
  refine k _ (a1.scal (by decide)) ⟨⟨c1, c2⟩, c3, ?_⟩
  rw [su_at, c4]
  exact nI_1 _
theorem X_putCost {w : Nat} (h : WX s l ca pu) (hw : w ≤ 20000) (hl : l.length + 3 ≤ 1200) (k : ∀ s', KW s s' → WX s' (l ++ eCost w) ca (pu + 1) → Post s') : x_Output_putCost s (nI w) Post := by
  have fin : ∀ s', KW s s' → WX s' (l ++ eCost w) ca pu → x_Output_putCost_46 Post s' := by
    intro s' a1 a2
    unfold x_Output_putCost_46
    rintro s3 rfl
    obtain ⟨⟨c1, c2⟩, c3, c4⟩ := a2
    refine k _ (a1.scal (by decide)) ⟨⟨c1, c2⟩, c3, ?_⟩
    rw [su_at, c4]
    exact nI_1 _
  unfold eCost at fin
  unfold x_Output_putCost
  refine wplt 5 w rfl rfl (by omega) (by omega) (fun e => wplt 127 w rfl rfl (by omega) (by omega) (fun e2' => ?_) (fun e2' => ?_)) (fun e => ?_)
  · rw [if_neg (by omega), if_neg (by omega)] at fin
    refine X_put1 h (by omega) (fun s2 a1 a2 => X_put2 a2 (by rw [List.length_append, e1_len]; omega) (fun s4 b1 b2 => fin s4 (a1.tr b1) ?_))
    rw [List.append_assoc] at b2
    exact b2
  · rw [if_neg (by omega), if_pos (by omega)] at fin
    refine X_put1 h (by omega) (fun s2 a1 a2 => X_put1 a2 (by rw [List.length_append, e1_len]; omega) (fun s4 b1 b2 => fin s4 (a1.tr b1) ?_))
    rw [List.append_assoc] at b2
    exact b2
  · rw [if_pos (by omega)] at fin
    rw [show (3 : Int32) + nI w = nI (3 + w) from nI_add 3 w]
    exact X_put1 h (by omega) fin
theorem IX.kw {s t : St} {x : In} (h : IX s x) (k : KW s t) : IX t x := h.kp k (by decide) (by decide) (by decide) (by decide) (fun q _ _ hq => by simp at hq; omega)
theorem LayX.kw {s t : St} {x : In} {N R : Nat} (h : LayX s x N R) (k : KW s t) : LayX t x N R := by
  obtain ⟨a1, a2, a3, a4, a5, a6, a7, a8, a9, a10, a11, a12⟩ := h
  have r : ∀ q, q ≠ 13 → q ≠ 15 → t q = s q := fun q h1 h2 => k.1 q (by simpa using h1) h2
  refine ⟨by rw [k.2 5 (by decide)]; exact a1, fun i hi => by rw [r 4 (by decide) (by decide)]; exact a2 i hi, fun q hq => by rw [r 5 (by decide) (by decide)]; exact a3 q hq, fun i hi => by rw [r 7 (by decide) (by decide)]; exact a4 i hi, fun q hq => by rw [r 8 (by decide) (by decide)]; exact a5 q hq, ⟨fun i hi => by rw [r 10 (by decide) (by decide), r 11 (by decide) (by decide), r 6 (by decide) (by decide)]; exact a6.1 i hi, by rw [r 10 (by decide) (by decide)]; exact a6.2⟩, fun q hq => by rw [r 12 (by decide) (by decide)]; exact a7 q hq, by rw [k.2 6 (by decide)]; exact a8, by rw [k.2 7 (by decide)]; exact a9, by rw [k.2 8 (by decide)]; exact a10, by rw [k.2 9 (by decide)]; exact a11, fun i hi => by rw [r 9 (by decide) (by decide)]; exact a12 i hi⟩
theorem X_writeLead {x : In} {N R i : Nat} (hx : IX s x) (hL : LayX s x N R) (hF : Form x N) (hi : i < N) (h : WX s l ca pu) (hl : l.length + jld x N i ≤ 1200) (k : ∀ s', KW s s' → WX s' (l ++ eLead x N i) (ca + nCall x N i) (pu + nPush x N i) → Post s') : x_Output_writeLead s (nI (jp x i)) Post := by
  have hn := hx.1.1
  have hpl : jp x i < jn x := hF.1.lt hi
  have hNn := hF.1.le
  have ho := hx.1.2.2.2.2 (jp x i)
  have hC := jC_le hx.2.2.2.2.2.2 (show N ≤ 200 by omega) i
  rw [← eLead_len] at hl
  unfold eLead at hl k
  unfold nCall nPush at k
  rw [List.length_append, List.length_append, List.length_append, List.length_append] at hl
  -- from the end
  have f81 : ∀ (s' : St) (l' : List Int32) (ca' pu' : Nat), KW s s' → WX s' l' ca' pu' → l' ++ (if kArr (jo x (jp x i)) = true then e1 89 ++ eCall (jb x) 1 else []) = l ++ ((if jp x i = 0 then eCall (jb x) 2 else []) ++ ((if jl x (jp x i) = true then e1 89 ++ eCall (jb x) 4 else []) ++ ((if jB x N i = true ∧ 0 < jC x N i then eCost (jC x N i) ++ eCall (jb x) 0 else []) ++ ((if kRet (jo x (jp x i)) = true then eCall (jb x) 3 else []) ++ (if kArr (jo x (jp x i)) = true then e1 89 ++ eCall (jb x) 1 else []))))) → ca' + (if kArr (jo x (jp x i)) = true then 1 else 0) = ca + ((if jp x i = 0 then 1 else 0) + ((if jl x (jp x i) = true then 1 else 0) + ((if jB x N i = true ∧ 0 < jC x N i then 1 else 0) + ((if kRet (jo x (jp x i)) = true then 1 else 0) + (if kArr (jo x (jp x i)) = true then 1 else 0))))) → pu' + (if kArr (jo x (jp x i)) = true then 1 else 0) = pu + ((if jl x (jp x i) = true then 1 else 0) + ((if jB x N i = true ∧ 0 < jC x N i then 1 else 0) + (if kArr (jo x (jp x i)) = true then 1 else 0))) → x_Output_writeLead_81 Post s' (nI (jo x (jp x i))) := by
    intro s' l' ca' pu' a1 a2 a3 a4 a5
    have hx' := hx.kw a1
    have hlen := congrArg List.length a3
    rw [List.length_append, List.length_append, List.length_append, List.length_append, List.length_append, List.length_append] at hlen
    unfold x_Output_writeLead_81
    refine XK_makesArray ho (wpb (fun e => ?_) (fun e => ?_))
    · rw [e] at a3 a4 a5
      refine k s' a1 ?_
      rw [e, ← a3, ← a4, ← a5]
      simpa using a2
    · rw [if_pos e] at a3 a4 a5 hlen
      rw [if_pos e, List.length_append, e1_len, eCall_len] at hl
      rw [List.length_append, e1_len, eCall_len] at hlen
      refine X_putDuplicate a2 (by omega) (fun s2 b1 b2 => X_putCall (w := 1) b2 (hx'.kw b1).2.2.2.2.1 (by rw [List.length_append, e1_len]; omega) (fun s3 c1 c2 => ?_))
      refine k s3 ((a1.tr b1).tr c1) ?_
      rw [if_pos e, if_pos e, ← a3, ← a4, ← a5]
      rw [List.append_assoc] at c2
      exact c2
  have f69 : ∀ (s' : St) (l' : List Int32) (ca' pu' : Nat), KW s s' → WX s' l' ca' pu' → l' ++ (if kRet (jo x (jp x i)) = true then eCall (jb x) 3 else []) = l ++ ((if jp x i = 0 then eCall (jb x) 2 else []) ++ ((if jl x (jp x i) = true then e1 89 ++ eCall (jb x) 4 else []) ++ ((if jB x N i = true ∧ 0 < jC x N i then eCost (jC x N i) ++ eCall (jb x) 0 else []) ++ (if kRet (jo x (jp x i)) = true then eCall (jb x) 3 else [])))) → ca' + (if kRet (jo x (jp x i)) = true then 1 else 0) = ca + ((if jp x i = 0 then 1 else 0) + ((if jl x (jp x i) = true then 1 else 0) + ((if jB x N i = true ∧ 0 < jC x N i then 1 else 0) + (if kRet (jo x (jp x i)) = true then 1 else 0)))) → pu' = pu + ((if jl x (jp x i) = true then 1 else 0) + (if jB x N i = true ∧ 0 < jC x N i then 1 else 0)) → x_Output_writeLead_69 Post s' (nI (jo x (jp x i))) := by
    intro s' l' ca' pu' a1 a2 a3 a4 a5
    have hx' := hx.kw a1
    have hlen := congrArg List.length a3
    rw [List.length_append, List.length_append, List.length_append, List.length_append, List.length_append] at hlen
    unfold x_Output_writeLead_69
    refine XK_isReturn ho (wpb (fun e => ?_) (fun e => ?_))
    · refine f81 s' l' ca' pu' a1 a2 ?_ (by rw [e] at a4 ⊢; simp at a4 ⊢; omega) (by omega)
      rw [e] at a3 ⊢
      simp only [Bool.false_eq_true, if_false, List.append_nil, List.nil_append] at a3 ⊢
      rw [a3]
      simp only [List.append_assoc]
    · rw [if_pos e] at a3 a4 hlen
      rw [if_pos e] at hl
      rw [eCall_len] at hlen hl
      refine X_putCall (w := 3) a2 hx'.2.2.2.2.1 (by omega) (fun s2 b1 b2 => ?_)
      refine f81 s2 _ _ _ (a1.tr b1) b2 ?_ (by rw [if_pos e]; omega) (by omega)
      rw [if_pos e, a3]
      simp only [List.append_assoc]
  have f39 : ∀ (s' : St) (l' : List Int32) (ca' pu' : Nat), KW s s' → WX s' l' ca' pu' → l' = l ++ ((if jp x i = 0 then eCall (jb x) 2 else []) ++ (if jl x (jp x i) = true then e1 89 ++ eCall (jb x) 4 else [])) → ca' = ca + ((if jp x i = 0 then 1 else 0) + (if jl x (jp x i) = true then 1 else 0)) → pu' = pu + (if jl x (jp x i) = true then 1 else 0) → x_Output_writeLead_39 Post s' (nI (jp x i)) (nI (jo x (jp x i))) := by
    intro s' l' ca' pu' a1 a2 a3 a4 a5
    have hx' := hx.kw a1
    have hL' := hL.kw a1
    have hlen := congrArg List.length a3
    rw [List.length_append, List.length_append] at hlen
    unfold x_Output_writeLead_39
    rw [nI_clamp (by omega), hL'.2.2.2.1 i hi]
    refine ⟨vp_in_nI (by omega) (by omega), ?_⟩
    by_cases eB' : jB x N i = true
    · rw [if_pos eB']
      refine wple (jC x N i) 0 rfl rfl (by omega) (by omega) (fun e => ?_) (fun e => ⟨vp_in_nI (by omega) (by omega), ?_⟩)
      · have hno : ¬ (jB x N i = true ∧ 0 < jC x N i) := fun z => by have := z.2; omega
        refine f69 s' l' ca' pu' a1 a2 ?_ (by rw [if_neg hno]; omega) (by rw [if_neg hno]; omega)
        rw [if_neg hno, a3]
        simp only [List.append_assoc, List.nil_append]
      · have hyes : jB x N i = true ∧ 0 < jC x N i := ⟨eB', by omega⟩
        rw [if_pos hyes, List.length_append, eCost_len, eCall_len] at hl
        have hw3 : wgt (jC x N i) ≤ 3 ∧ 1 ≤ wgt (jC x N i) := by
          unfold wgt
          split
          · omega
          · split <;> omega
        have hcl := eCost_len (jC x N i)
        refine X_putCost a2 hC (by omega) (fun s2 b1 b2 => X_putCall (w := 0) b2 (hx'.kw b1).2.2.2.2.1 (by rw [List.length_append, eCost_len]; omega) (fun s3 c1 c2 => ?_))
        refine f69 s3 _ _ _ ((a1.tr b1).tr c1) c2 ?_ (by rw [if_pos hyes]; omega) (by rw [if_pos hyes]; omega)
        rw [if_pos hyes, a3]
        simp only [List.append_assoc]
    · rw [if_neg eB']
      refine ⟨fun _ => ?_, fun z => absurd (by decide) z⟩
      have hno : ¬ (jB x N i = true ∧ 0 < jC x N i) := fun z => eB' z.1
      refine f69 s' l' ca' pu' a1 a2 ?_ (by rw [if_neg hno]; omega) (by rw [if_neg hno]; omega)
      rw [if_neg hno, a3]
      simp only [List.append_assoc, List.nil_append]
  have f18 : ∀ (s' : St) (l' : List Int32) (ca' pu' : Nat), KW s s' → WX s' l' ca' pu' → l' = l ++ (if jp x i = 0 then eCall (jb x) 2 else []) → ca' = ca + (if jp x i = 0 then 1 else 0) → pu' = pu → x_Output_writeLead_18 Post s' (nI (jp x i)) (nI (jo x (jp x i))) := by
    intro s' l' ca' pu' a1 a2 a3 a4 a5
    have hx' := hx.kw a1
    have hL' := hL.kw a1
    have hlen := congrArg List.length a3
    rw [List.length_append] at hlen
    unfold x_Output_writeLead_18
    rw [nI_clamp (by omega), hL'.2.2.2.2.1 _ (by omega)]
    refine ⟨vp_in_nI (by omega) (by omega), wpb (fun e => ?_) (fun e => ?_)⟩
    · refine f39 s' l' ca' pu' a1 a2 ?_ (by rw [e]; simp; omega) (by rw [e]; simp; omega)
      rw [e, a3]
      simp
    · rw [if_pos e, List.length_append, e1_len, eCall_len] at hl
      refine X_putDuplicate a2 (by omega) (fun s2 b1 b2 => X_putCall (w := 4) b2 (hx'.kw b1).2.2.2.2.1 (by rw [List.length_append, e1_len]; omega) (fun s3 c1 c2 => ?_))
      refine f39 s3 _ _ _ ((a1.tr b1).tr c1) c2 ?_ (by rw [if_pos e]; omega) (by rw [if_pos e]; omega)
      rw [if_pos e, a3]
      simp only [List.append_assoc]
  unfold x_Output_writeLead
  refine X_u1 hx.1 (by omega) (wpeqn (jp x i) 0 rfl rfl (by omega) (by omega) (fun e => ?_) (fun e => ?_))
  · exact f18 s l ca pu Keep.rf h (by rw [if_neg e]; simp) (by rw [if_neg e]; rfl) rfl
  · rw [if_pos e, eCall_len] at hl
    refine X_putCall (w := 2) h hx.2.2.2.2.1 (by omega) (fun s2 b1 b2 => ?_)
    exact f18 s2 _ _ _ b1 b2 (by rw [if_pos e]) (by rw [if_pos e]) rfl
end XW2
