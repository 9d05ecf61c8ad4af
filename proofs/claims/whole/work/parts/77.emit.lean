/-! PURE. What is written: octets, as lists. -/
def e1 (v : Int32) : List Int32 := [v &&& 255]
def e2 (v : Int32) : List Int32 := [(v >>> ((8 : Int32) &&& 31)) &&& 255, v &&& 255]
def e4 (v : Int32) : List Int32 := e2 (v >>> ((16 : Int32) &&& 31)) ++ e2 v
def eCall (b w : Nat) : List Int32 := e1 184 ++ e2 (nI (b + w))
def eCost (w : Nat) : List Int32 := if w ≤ 5 then e1 (nI (3 + w)) else if w ≤ 127 then e1 16 ++ e1 (nI w) else e1 17 ++ e2 (nI w)
def eZ : Nat → List Int32
  | 0 => []
  | m + 1 => eZ m ++ e1 0
def eB (o : Nat → Nat) (p : Nat) : Nat → List Int32
  | 0 => []
  | m + 1 => eB o p m ++ e1 (nI (o (p + m)))
theorem e1_len (v : Int32) : (e1 v).length = 1 := rfl
theorem e2_len (v : Int32) : (e2 v).length = 2 := rfl
theorem e4_len (v : Int32) : (e4 v).length = 4 := rfl
theorem eCall_len (b w : Nat) : (eCall b w).length = 3 := rfl
theorem eCost_len (w : Nat) : (eCost w).length = wgt w := by
  unfold eCost wgt
  split
  · rfl
  · split <;> rfl
theorem eZ_len : ∀ m, (eZ m).length = m
  | 0 => rfl
  | m + 1 => by
    unfold eZ
    rw [List.length_append, eZ_len m, e1_len]
theorem eB_len (o : Nat → Nat) (p : Nat) : ∀ m, (eB o p m).length = m
  | 0 => rfl
  | m + 1 => by
    unfold eB
    rw [List.length_append, eB_len o p m, e1_len]
/-- the new front of the place that a goal is -/
def fG (x : In) (N R : Nat) (g : Int32) : Nat := frI (jn x) (jo x) (jld x N) (jF x N R) (ix (jn x) (jo x) g.toNatClampNeg N)
def jsp (x : In) (N R i : Nat) : Nat := spI (jn x) (jo x) (jld x N) (jF x N R) i
def eW (x : In) (N R p sp w : Nat) : List Int32 := if isGw (jo x) p w = true then e4 (nI (fG x N R (nI p + S4 (jo x) (wf p + 4 * w))) - nI sp) else e4 (S4 (jo x) (wf p + 4 * w))
def eWs (x : In) (N R p sp : Nat) : Nat → List Int32
  | 0 => []
  | m + 1 => eWs x N R p sp m ++ eW x N R p sp m
def eLead (x : In) (N i : Nat) : List Int32 :=
  (if jp x i = 0 then eCall (jb x) 2 else []) ++ ((if jl x (jp x i) = true then e1 89 ++ eCall (jb x) 4 else []) ++ ((if jB x N i = true ∧ 0 < jC x N i then eCost (jC x N i) ++ eCall (jb x) 0 else []) ++ ((if kRet (jo x (jp x i)) = true then eCall (jb x) 3 else []) ++ (if kArr (jo x (jp x i)) = true then e1 89 ++ eCall (jb x) 1 else []))))
def eFar (x : In) (N R p here : Nat) : List Int32 := e1 200 ++ e4 (nI (fG x N R (goal (jo x) p 0)) - nI here)
def eIns (x : In) (N R p sp : Nat) : List Int32 :=
  if kSw (jo x p) = true then e1 (nI (jo x p)) ++ (eZ (wf sp - sp - 1) ++ eWs x N R p sp (nw (jo x) p))
  else if jo x p = 200 ∨ (jF x N R p = true ∧ jo x p = 167) then eFar x N R p sp
  else if jF x N R p = true then e1 (nI (kOpp (jo x p))) ++ (e2 8 ++ eFar x N R p (sp + 3))
  else if kSJ (jo x p) = true then e1 (nI (jo x p)) ++ e2 (nI (fG x N R (goal (jo x) p 0)) - nI sp)
  else eB (jo x) p (ln (jn x) (jo x) p)
def eAll (x : In) (N R : Nat) : Nat → List Int32
  | 0 => []
  | i + 1 => eAll x N R i ++ (eLead x N i ++ eIns x N R (jp x i) (jsp x N R i))
/-- how many calls, how many pushes stand in front of an instruction -/
def nCall (x : In) (N i : Nat) : Nat := (if jp x i = 0 then 1 else 0) + ((if jl x (jp x i) = true then 1 else 0) + ((if jB x N i = true ∧ 0 < jC x N i then 1 else 0) + ((if kRet (jo x (jp x i)) = true then 1 else 0) + (if kArr (jo x (jp x i)) = true then 1 else 0))))
def nPush (x : In) (N i : Nat) : Nat := (if jl x (jp x i) = true then 1 else 0) + ((if jB x N i = true ∧ 0 < jC x N i then 1 else 0) + (if kArr (jo x (jp x i)) = true then 1 else 0))
theorem eLead_len (x : In) (N i : Nat) : (eLead x N i).length = jld x N i := by
  unfold eLead jld ldf
  rw [List.length_append, List.length_append, List.length_append, List.length_append]
  have h1 : (if jp x i = 0 then eCall (jb x) 2 else []).length = if jp x i = 0 then 3 else 0 := by split <;> rfl
  have h2 : (if jl x (jp x i) = true then e1 89 ++ eCall (jb x) 4 else []).length = if jl x (jp x i) = true then 4 else 0 := by split <;> rfl
  have h3 : (if jB x N i = true ∧ 0 < jC x N i then eCost (jC x N i) ++ eCall (jb x) 0 else []).length = if jB x N i = true ∧ 0 < jC x N i then wgt (jC x N i) + 3 else 0 := by
    split
    · rw [List.length_append, eCost_len, eCall_len]
    · rfl
  have h4 : (if kRet (jo x (jp x i)) = true then eCall (jb x) 3 else []).length = if kRet (jo x (jp x i)) = true then 3 else 0 := by split <;> rfl
  have h5 : (if kArr (jo x (jp x i)) = true then e1 89 ++ eCall (jb x) 1 else []).length = if kArr (jo x (jp x i)) = true then 4 else 0 := by split <;> rfl
  rw [h1, h2, h3, h4, h5]
  omega
theorem eW_len (x : In) (N R p sp w : Nat) : (eW x N R p sp w).length = 4 := by
  unfold eW
  split <;> rfl
theorem eWs_len (x : In) (N R p sp : Nat) : ∀ m, (eWs x N R p sp m).length = 4 * m
  | 0 => rfl
  | m + 1 => by
    unfold eWs
    rw [List.length_append, eWs_len x N R p sp m, eW_len]
    omega
/-- only short jumps become far -/
theorem frs_SJ {n : Nat} {o : Nat → Nat} {N : Nat} {ld : Nat → Nat} {rc : Nat} (hc : Cmp n o N) : ∀ r i, i < N → frs n o N ld rc r (pl n o i) = true → kSJ (o (pl n o i)) = true
  | 0, i, hi, h => by cases h
  | r + 1, i, hi, h => by
    have h' : nxF n o N ld rc (frs n o N ld rc r) (pl n o i) = true := h
    rw [nxF_pl hc hi, Bool.or_eq_true] at h'
    rcases h' with q | q
    · exact frs_SJ hc r i hi q
    · unfold out at q
      cases e : kSJ (o (pl n o i))
      · rw [e] at q; cases q
      · rfl
theorem eIns_len {x : In} {N : Nat} (hc : Cmp (jn x) (jo x) N) (R : Nat) {i : Nat} (hi : i < N) (sp : Nat) : (eIns x N R (jp x i) sp).length = nlf (jn x) (jo x) (jF x N R) (jp x i) sp := by
  have hln : 0 < ln (jn x) (jo x) (jp x i) := hc.2 i hi
  unfold eIns nlf
  by_cases e1' : kSw (jo x (jp x i)) = true
  · rw [if_pos e1', if_pos e1', List.length_append, List.length_append, eZ_len, eWs_len, e1_len]
    have := wf_gt sp
    omega
  · rw [if_neg e1', if_neg e1']
    by_cases e2' : jo x (jp x i) = 200
    · rw [if_pos (Or.inl e2'), if_pos e2']
      rfl
    · rw [if_neg e2']
      by_cases e3 : jF x N R (jp x i) = true
      · by_cases e4' : jo x (jp x i) = 167
        · rw [if_pos (Or.inr ⟨e3, e4'⟩), if_pos e3, if_pos e4']
          rfl
        · rw [if_neg (fun z => z.elim e2' (fun y => e4' y.2)), if_pos e3, if_pos e3, if_neg e4']
          rfl
      · rw [if_neg (fun z => z.elim e2' (fun y => e3 y.1)), if_neg e3, if_neg e3]
        by_cases e5 : kSJ (jo x (jp x i)) = true
        · rw [if_pos e5]
          have h2 := (ln_pos hln).2
          have h3 : lnR (jo x) (jp x i) = 3 := by
            have hex := (st_op hln).1
            unfold lnR
            have h196 : jo x (jp x i) ≠ 196 := fun z => by rw [z] at e5; exact absurd e5 (by decide)
            rw [if_pos hex, if_neg h196, if_neg e1']
            have : ∀ k, k < 256 → kSJ k = true → kPl k = 3 := all_of (P := fun k => kSJ k = true → kPl k = 3) (by decide +kernel)
            exact this _ (by have := (st_op hln).2.1; omega) e5
          rw [h2, h3]
          rfl
        · rw [if_neg e5, eB_len]
theorem eAll_len {x : In} {N : Nat} (hc : Cmp (jn x) (jo x) N) (R : Nat) : ∀ i, i ≤ N → (eAll x N R i).length = jps x N R i
  | 0, _ => rfl
  | i + 1, h => by
    unfold eAll
    rw [List.length_append, List.length_append, eAll_len hc R i (by omega), eLead_len, eIns_len hc R (by omega)]
    show _ = ps (jn x) (jo x) (jld x N) (jF x N R) i + jld x N i + _
    unfold jps jsp spI
    rw [Nat.add_assoc]
    rfl
def cA (x : In) (N : Nat) : Nat → Nat
  | 0 => 0
  | i + 1 => cA x N i + nCall x N i
def pA (x : In) (N : Nat) : Nat → Nat
  | 0 => 0
  | i + 1 => pA x N i + nPush x N i
theorem nCall_le (x : In) (N i : Nat) : nCall x N i ≤ 5 := by
  unfold nCall
  split <;> split <;> split <;> split <;> split <;> omega
theorem nPush_le (x : In) (N i : Nat) : nPush x N i ≤ 3 := by
  unfold nPush
  split <;> split <;> split <;> omega
theorem cA_le (x : In) (N : Nat) : ∀ i, cA x N i ≤ 5 * i
  | 0 => Nat.zero_le _
  | i + 1 => by
    have h1 := cA_le x N i
    have h2 := nCall_le x N i
    unfold cA
    omega
theorem pA_le (x : In) (N : Nat) : ∀ i, pA x N i ≤ 3 * i
  | 0 => Nat.zero_le _
  | i + 1 => by
    have h1 := pA_le x N i
    have h2 := nPush_le x N i
    unfold pA
    omega
