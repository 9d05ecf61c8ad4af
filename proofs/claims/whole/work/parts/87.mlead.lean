/-! PURE. The reference writes what stands in front of an instruction. -/
def EM (t : St) (x : In) (N R : Nat) : Prop := CO t (jn x) (jo x) ∧ HM t (jh x) (jd x) ∧ MM t (jk x) ∧ (∀ q, q ≤ 200 → t 7 q = bI (stB (jn x) (jo x) N q)) ∧ BM t x N ∧ PM t x N (jF x N R) ∧ FM t (jF x N R) ∧ t 19 2 = nI (jb x)
abbrev KE (s t : St) : Prop := Keep 19 [14, 15, 16, 17, 18] [7, 9, 10, 11, 12, 13, 14, 15] s t
theorem KV.e {s t : St} (h : KV s t) : KE s t := h.mono (by decide) (by decide)
theorem KE.tr {a b c : St} (h : KE a b) (g : KE b c) : KE a c := Keep.tr h g
theorem EM.ke {s t : St} {x : In} {N R : Nat} (h : EM s x N R) (k : KE s t) : EM t x N R := by
  obtain ⟨a, b, c, d, e, f, g, i⟩ := h
  refine ⟨a.keep (k.1 9 (by decide) (by decide)) (k.2 5 (by decide)), b.keep (k.1 1 (by decide) (by decide)) (k.1 2 (by decide) (by decide)) (k.1 3 (by decide) (by decide)) (k.1 4 (by decide) (by decide)) (k.2 1 (by decide)), fun q hq => by rw [k.1 6 (by decide) (by decide)]; exact c q hq, fun q hq => by rw [k.1 7 (by decide) (by decide)]; exact d q hq, fun q hq => by rw [k.1 13 (by decide) (by decide)]; exact e q hq, f.keep (k.1 10 (by decide) (by decide)) (k.1 11 (by decide) (by decide)) (k.1 12 (by decide) (by decide)) (k.2 6 (by decide)), fun q hq => by rw [k.1 8 (by decide) (by decide)]; exact g q hq, by rw [k.2 2 (by decide)]; exact i⟩
section MLD
variable {t : St} {Post : St → Prop} {K37 : St → Int32 → Prop} {l : List Int32} {ca pu fa : Nat} {x : In} {N R i : Nat}
theorem M_lead (hE : EM t x N R) (hok : okIn x) (hF : Form x N) (hi : i < N) (h : WM t l ca pu fa) (hl : l.length + jld x N i ≤ 1200) (k : ∀ t', KV t t' → WM t' (l ++ eLead x N i) (ca + nCall x N i) (pu + nPush x N i) fa → x_Model_write_236 K37 Post t' (nI (jp x i)) (nI (jo x (jp x i)))) : x_Model_write_105 K37 Post t (nI (jp x i)) (nI (jo x (jp x i))) (if jB x N i = true then nI (jC x N i) else -1) := by
  have hn := hE.1.1
  have hpl : jp x i < jn x := hF.1.lt hi
  have hNn := hF.1.le
  have ho := hE.1.2.2.2.2 (jp x i)
  have hC := jC_le hok (show N ≤ 200 by omega) i
  rw [← eLead_len] at hl
  unfold eLead at hl k
  unfold nCall nPush at k
  rw [List.length_append, List.length_append, List.length_append, List.length_append] at hl
  have f217 : ∀ (s' : St) (l' : List Int32) (ca' pu' : Nat), KV t s' → WM s' l' ca' pu' fa → l' ++ (if kArr (jo x (jp x i)) = true then e1 89 ++ eCall (jb x) 1 else []) = l ++ ((if jp x i = 0 then eCall (jb x) 2 else []) ++ ((if jl x (jp x i) = true then e1 89 ++ eCall (jb x) 4 else []) ++ ((if jB x N i = true ∧ 0 < jC x N i then eCost (jC x N i) ++ eCall (jb x) 0 else []) ++ ((if kRet (jo x (jp x i)) = true then eCall (jb x) 3 else []) ++ (if kArr (jo x (jp x i)) = true then e1 89 ++ eCall (jb x) 1 else []))))) → ca' + (if kArr (jo x (jp x i)) = true then 1 else 0) = ca + ((if jp x i = 0 then 1 else 0) + ((if jl x (jp x i) = true then 1 else 0) + ((if jB x N i = true ∧ 0 < jC x N i then 1 else 0) + ((if kRet (jo x (jp x i)) = true then 1 else 0) + (if kArr (jo x (jp x i)) = true then 1 else 0))))) → pu' + (if kArr (jo x (jp x i)) = true then 1 else 0) = pu + ((if jl x (jp x i) = true then 1 else 0) + ((if jB x N i = true ∧ 0 < jC x N i then 1 else 0) + (if kArr (jo x (jp x i)) = true then 1 else 0))) → x_Model_write_217 K37 Post s' (nI (jp x i)) (nI (jo x (jp x i))) := by
    intro s' l' ca' pu' a1 a2 a3 a4 a5
    have hE' := hE.ke a1.e
    have hlen := congrArg List.length a3
    rw [List.length_append, List.length_append, List.length_append, List.length_append, List.length_append, List.length_append] at hlen
    have no : kArr (jo x (jp x i)) = false → x_Model_write_236 K37 Post s' (nI (jp x i)) (nI (jo x (jp x i))) := fun e => by
      rw [e] at a3 a4 a5
      refine k s' a1 ?_
      rw [e, ← a3, ← a4, ← a5]
      simpa using a2
    have yes : kArr (jo x (jp x i)) = true → x_Model_write_231 K37 Post s' (nI (jp x i)) (nI (jo x (jp x i))) := fun e => by
      rw [if_pos e] at a3 a4 a5 hlen
      rw [if_pos e, List.length_append, e1_len, eCall_len] at hl
      rw [List.length_append, e1_len, eCall_len] at hlen
      unfold x_Model_write_231
      refine M_twice (b := jb x) (w := 1) a2 hE'.2.2.2.2.2.2.2 (by omega) (fun s3 c1 c2 => k s3 (a1.tr c1) ?_)
      rw [if_pos e, if_pos e, ← a3, ← a4, ← a5]
      exact c2
    unfold x_Model_write_217
    exact wpeq (jo x (jp x i)) 188 rfl rfl (by omega) (by omega) (fun e => yes (by simp [kArr, e])) (fun e => wpeqn (jo x (jp x i)) 189 rfl rfl (by omega) (by omega) (fun e2' => no (by simp [kArr, e, e2'])) (fun e2' => yes (by simp [kArr, e2'])))
  have f199 : ∀ (s' : St) (l' : List Int32) (ca' pu' : Nat), KV t s' → WM s' l' ca' pu' fa → l' ++ (if kRet (jo x (jp x i)) = true then eCall (jb x) 3 else []) = l ++ ((if jp x i = 0 then eCall (jb x) 2 else []) ++ ((if jl x (jp x i) = true then e1 89 ++ eCall (jb x) 4 else []) ++ ((if jB x N i = true ∧ 0 < jC x N i then eCost (jC x N i) ++ eCall (jb x) 0 else []) ++ (if kRet (jo x (jp x i)) = true then eCall (jb x) 3 else [])))) → ca' + (if kRet (jo x (jp x i)) = true then 1 else 0) = ca + ((if jp x i = 0 then 1 else 0) + ((if jl x (jp x i) = true then 1 else 0) + ((if jB x N i = true ∧ 0 < jC x N i then 1 else 0) + (if kRet (jo x (jp x i)) = true then 1 else 0)))) → pu' = pu + ((if jl x (jp x i) = true then 1 else 0) + (if jB x N i = true ∧ 0 < jC x N i then 1 else 0)) → x_Model_write_199 K37 Post s' (nI (jp x i)) (nI (jo x (jp x i))) := by
    intro s' l' ca' pu' a1 a2 a3 a4 a5
    have hE' := hE.ke a1.e
    have hlen := congrArg List.length a3
    rw [List.length_append, List.length_append, List.length_append, List.length_append, List.length_append] at hlen
    unfold x_Model_write_199
    refine MK_in (l := 172) (u := 177) (by omega) (by omega) (by omega) ?_
    rw [show (decide (172 ≤ jo x (jp x i)) && decide (jo x (jp x i) ≤ 177)) = kRet (jo x (jp x i)) from rfl]
    refine wpb (fun e => ?_) (fun e => ?_)
    · refine f217 s' l' ca' pu' a1 a2 ?_ (by rw [e] at a4 ⊢; simp at a4 ⊢; omega) (by omega)
      rw [e] at a3 ⊢
      simp only [Bool.false_eq_true, if_false, List.append_nil, List.nil_append] at a3 ⊢
      rw [a3]
      simp only [List.append_assoc]
    · rw [if_pos e] at a3 a4 hlen
      rw [if_pos e] at hl
      rw [eCall_len] at hlen hl
      refine M_call (b := jb x) (w := 3) a2 hE'.2.2.2.2.2.2.2 (by omega) (fun s2 b1 b2 => ?_)
      refine f217 s2 _ _ _ (a1.tr b1) b2 ?_ (by rw [if_pos e]; omega) (by omega)
      rw [if_pos e, a3]
      simp only [List.append_assoc]
  have f127 : ∀ (s' : St) (l' : List Int32) (ca' pu' : Nat), KV t s' → WM s' l' ca' pu' fa → l' = l ++ ((if jp x i = 0 then eCall (jb x) 2 else []) ++ (if jl x (jp x i) = true then e1 89 ++ eCall (jb x) 4 else [])) → ca' = ca + ((if jp x i = 0 then 1 else 0) + (if jl x (jp x i) = true then 1 else 0)) → pu' = pu + (if jl x (jp x i) = true then 1 else 0) → x_Model_write_127 K37 Post s' (nI (jp x i)) (nI (jo x (jp x i))) (if jB x N i = true then nI (jC x N i) else -1) := by
    intro s' l' ca' pu' a1 a2 a3 a4 a5
    have hlen := congrArg List.length a3
    rw [List.length_append, List.length_append] at hlen
    unfold x_Model_write_127
    by_cases eB' : jB x N i = true
    · rw [if_pos eB']
      refine wple (jC x N i) 0 rfl rfl (by omega) (by omega) (fun e => ?_) (fun e => ?_)
      · have hno : ¬ (jB x N i = true ∧ 0 < jC x N i) := fun z => by have := z.2; omega
        refine f199 s' l' ca' pu' a1 a2 ?_ (by rw [if_neg hno]; omega) (by rw [if_neg hno]; omega)
        rw [if_neg hno, a3]
        simp only [List.append_assoc, List.nil_append]
      · have hyes : jB x N i = true ∧ 0 < jC x N i := ⟨eB', by omega⟩
        rw [if_pos hyes, List.length_append, eCost_len, eCall_len] at hl
        have hcl := eCost_len (jC x N i)
        have f184 : ∀ s2, KV s' s2 → WM s2 (l' ++ eCost (jC x N i)) ca' pu' fa → x_Model_write_184 K37 Post s2 (nI (jp x i)) (nI (jo x (jp x i))) := by
          intro s2 b1 b2
          unfold x_Model_write_184
          refine M_push b2 (fun s3 c1 c2 => M_call (b := jb x) (w := 0) c2 (hE.ke ((a1.tr b1).tr c1).e).2.2.2.2.2.2.2 (by rw [List.length_append, eCost_len]; omega) (fun s4 d1 d2 => ?_))
          refine f199 s4 _ _ _ (((a1.tr b1).tr c1).tr d1) d2 ?_ (by rw [if_pos hyes]; omega) (by rw [if_pos hyes]; omega)
          rw [if_pos hyes, a3]
          simp only [List.append_assoc]
        unfold eCost at f184
        unfold wgt at hl
        refine wple 6 (jC x N i) rfl rfl (by omega) (by omega) (fun e3 => ?_) (fun e3 => ?_)
        · rw [if_neg (show ¬ jC x N i ≤ 5 by omega)] at f184 hl
          refine wple 128 (jC x N i) rfl rfl (by omega) (by omega) (fun e4' => ?_) (fun e4' => ?_)
          · rw [if_neg (show ¬ jC x N i ≤ 127 by omega)] at f184 hl
            unfold x_Model_write_163
            refine M_put1 a2 (by omega) (fun s2 b1 b2 => wple 128 (jC x N i) rfl rfl (by omega) (by omega) (fun e5 => ?_) (fun e5 => absurd e4' e5))
            unfold x_Model_write_181
            refine M_put2 b2 (by rw [List.length_append, e1_len]; omega) (fun s3 c1 c2 => f184 s3 (b1.tr c1) ?_)
            rw [List.append_assoc] at c2
            exact c2
          · rw [if_pos (show jC x N i ≤ 127 by omega)] at f184 hl
            unfold x_Model_write_163
            refine M_put1 a2 (by omega) (fun s2 b1 b2 => wple 128 (jC x N i) rfl rfl (by omega) (by omega) (fun e5 => absurd e5 e4') (fun e5 => ?_))
            unfold x_Model_write_181
            refine M_put1 b2 (by rw [List.length_append, e1_len]; omega) (fun s3 c1 c2 => f184 s3 (b1.tr c1) ?_)
            rw [List.append_assoc] at c2
            exact c2
        · rw [if_pos (show jC x N i ≤ 5 by omega)] at f184 hl
          rw [show (3 : Int32) + nI (jC x N i) = nI (3 + jC x N i) from nI_add 3 _]
          exact M_put1 a2 (by omega) f184
    · rw [if_neg eB']
      refine ⟨fun _ => ?_, fun z => absurd (by decide) z⟩
      have hno : ¬ (jB x N i = true ∧ 0 < jC x N i) := fun z => eB' z.1
      refine f199 s' l' ca' pu' a1 a2 ?_ (by rw [if_neg hno]; omega) (by rw [if_neg hno]; omega)
      rw [if_neg hno, a3]
      simp only [List.append_assoc, List.nil_append]
  have f114 : ∀ (s' : St) (l' : List Int32) (ca' pu' : Nat), KV t s' → WM s' l' ca' pu' fa → l' = l ++ (if jp x i = 0 then eCall (jb x) 2 else []) → ca' = ca + (if jp x i = 0 then 1 else 0) → pu' = pu → x_Model_write_114 K37 Post s' (nI (jp x i)) (nI (jo x (jp x i))) (if jB x N i = true then nI (jC x N i) else -1) := by
    intro s' l' ca' pu' a1 a2 a3 a4 a5
    have hE' := hE.ke a1.e
    have hlen := congrArg List.length a3
    rw [List.length_append] at hlen
    unfold x_Model_write_114
    refine M_looks (x := x) (by omega) hE'.2.1 hE'.2.2.1 (wpb (fun e => ?_) (fun e => ?_))
    · refine f127 s' l' ca' pu' a1 a2 ?_ (by rw [e]; simp; omega) (by rw [e]; simp; omega)
      rw [e, a3]
      simp
    · rw [if_pos e, List.length_append, e1_len, eCall_len] at hl
      refine M_twice (b := jb x) (w := 4) a2 hE'.2.2.2.2.2.2.2 (by omega) (fun s3 c1 c2 => ?_)
      refine f127 s3 _ _ _ (a1.tr c1) c2 ?_ (by rw [if_pos e]; omega) (by rw [if_pos e]; omega)
      rw [if_pos e, a3]
      simp only [List.append_assoc]
  unfold x_Model_write_105
  refine wpeqn (jp x i) 0 rfl rfl (by omega) (by omega) (fun e => ?_) (fun e => ?_)
  · exact f114 t l ca pu Keep.rf h (by rw [if_neg e]; simp) (by rw [if_neg e]; rfl) rfl
  · rw [if_pos e, eCall_len] at hl
    refine M_call (b := jb x) (w := 2) h hE.2.2.2.2.2.2.2 (by omega) (fun s2 b1 b2 => ?_)
    exact f114 s2 _ _ _ b1 b2 (by rw [if_pos e]) (by rw [if_pos e]) rfl
end MLD
