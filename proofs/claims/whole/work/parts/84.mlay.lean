/-! PURE. The reference's looks and places. -/
section MY
variable {t : St} {x : In} {N : Nat}
def MM (t : St) (mk : Nat → Bool) : Prop := ∀ c, c < 256 → t 6 c = bI (mk c)
theorem M_looks {P : Int32 → St → Prop} {p : Nat} (hp : p ≤ 200) (hH : HM t (jh x) (jd x)) (hM : MM t (jk x)) (k : P (bI (jl x p)) t) : x_Model_looks t (nI p) P := by
  obtain ⟨hh1, hh2, hh3⟩ := hH
  unfold x_Model_looks x_Model_looks_2
  refine itr_go (fun a => ∃ q : Nat, q ≤ jh x ∧ a.1 = t ∧ a.2.1 = nI p ∧ a.2.2 = nI q ∧ lk (jd x) (jk x) q p = false) (fun a => 201 - a.2.2.toNatClampNeg) _ ⟨0, by omega, rfl, rfl, rfl, rfl⟩ ?_
  rintro K ⟨t1, x1, x2⟩ ⟨q, g1, g2, g3, g4, g5⟩ hK
  dsimp only at g2 g3 g4 hK ⊢
  subst g2 g3 g4
  unfold x_Model_looks_2F
  rw [hh2]
  refine wple (jh x) q rfl rfl (by omega) (by omega) (fun e => ⟨rfl, ?_⟩) (fun e => ?_)
  · rw [show q = jh x by omega] at g5
    unfold jl at k
    rw [g5] at k
    exact k
  · obtain ⟨p1, p2, p3, p4, p200, p255⟩ := hh3 q (by omega)
    have b2 := p200 2 (by omega)
    have yes : jd x q 2 = p → dng (jk x) (jd x q 3) = true → narrow .boolean (.int (1 : Int32)) = .int (1 : Int32) ∧ P 1 t1 := fun a1 a2 => by
      have : jl x p = true := by
        unfold jl lk
        rw [List.any_eq_true]
        exact ⟨q, List.mem_range.mpr (by omega), by rw [a1, a2]; simp⟩
      rw [this] at k
      exact ⟨rfl, k⟩
    have no : (jd x q 2 == p && dng (jk x) (jd x q 3)) = false → x_Model_looks_45 (fun s x1 x2 => K (s, x1, x2)) P t1 (nI p) (nI q) := by
      intro a1
      unfold x_Model_looks_45
      rintro v rfl
      refine hK _ ⟨q + 1, by omega, rfl, rfl, nI_1 q, by rw [lk_s, g5, a1]; rfl⟩ ?_
      show 201 - (nI q + 1).toNatClampNeg < 201 - (nI q).toNatClampNeg
      rw [nI_1, nI_clamp (by omega), nI_clamp (by omega)]
      omega
    rw [nI_clamp (by omega), p3, p4]
    refine ⟨vp_in_nI (by omega) (by omega), wpeqn (jd x q 2) p rfl rfl (by omega) (by omega) (fun e2' => no (by rw [show (jd x q 2 == p) = false by simpa using e2']; rfl)) (fun e2' => ⟨vp_in_nI (by omega) (by omega), wpeq (jd x q 3) 0 rfl rfl (by omega) (by omega) (fun e3 => yes e2' (by simp [dng, e3])) (fun e3 => ⟨vp_in_nI (by omega) (by omega), vp_in_nI (by omega) (by omega), ?_⟩)⟩)⟩
    rw [nI_clamp (by omega), hM _ (by omega)]
    exact wpb (fun e4' => no (by simp [dng, e3, e4'])) (fun e4' => yes e2' (by simp [dng, e4']))
/-- the reference's places -/
def PM (t : St) (x : In) (N : Nat) (fr : Nat → Bool) : Prop := (∀ k, k < N → t 10 (jp x k) = nI (ps (jn x) (jo x) (jld x N) fr k) ∧ t 11 (jp x k) = nI (jld x N k) ∧ t 12 (jp x k) = nI (jld x N k + nlf (jn x) (jo x) fr (jp x k) (spI (jn x) (jo x) (jld x N) fr k))) ∧ t 10 (jn x) = nI (ps (jn x) (jo x) (jld x N) fr N) ∧ t 19 6 = nI (ps (jn x) (jo x) (jld x N) fr N)
def FM (t : St) (fr : Nat → Bool) : Prop := ∀ q, q ≤ 200 → t 8 q = bI (fr q)
def BM (t : St) (x : In) (N : Nat) : Prop := ∀ i, i < N → t 13 (jp x i) = if jB x N i = true then nI (jC x N i) else -1
theorem add_sub3 (L a b : Int32) : L + (a - b) = L + a - b := by
  rw [Int32.sub_eq_add_neg, Int32.sub_eq_add_neg, Int32.add_assoc]
theorem kRetArr : ∀ k, k < 256 → kRet k = true → kArr k = false := all_of (P := fun k => kRet k = true → kArr k = false) (by decide +kernel)
theorem M_layOut {Post : St → Prop} {fr : Nat → Bool} (h : CO t (jn x) (jo x)) (hF : Form x N) (hH : HM t (jh x) (jd x)) (hM : MM t (jk x)) (hok : okIn x) (h7 : ∀ q, q ≤ 200 → t 7 q = bI (stB (jn x) (jo x) N q)) (hB : BM t x N) (hf : FM t fr) (hfr : ∀ k, k < N → fr (jp x k) = true → kSJ (jo x (jp x k)) = true)
    (k : ∀ t', Keep 19 [10, 11, 12] [6] t t' → PM t' x N fr → Post t') : x_Model_layOut t Post := by
  have hn := h.1
  have hc := hF.1
  have hNn := hc.le
  unfold x_Model_layOut x_Model_layOut_4
  refine itr_go (fun a => ∃ m p : Nat, a.2.1 = nI (ps (jn x) (jo x) (jld x N) fr m) ∧ a.2.2 = nI p ∧ At (jn x) (jo x) N m p ∧ Keep 19 [10, 11, 12] [6] t a.1 ∧ (∀ k, k < m → a.1 10 (jp x k) = nI (ps (jn x) (jo x) (jld x N) fr k) ∧ a.1 11 (jp x k) = nI (jld x N k) ∧ a.1 12 (jp x k) = nI (jld x N k + nlf (jn x) (jo x) fr (jp x k) (spI (jn x) (jo x) (jld x N) fr k)))) (fun a => 201 - a.2.2.toNatClampNeg) _ ⟨0, 0, rfl, rfl, At.z, Keep.rf, fun k hk => absurd hk (by omega)⟩ ?_
  rintro K ⟨t1, x1, x2⟩ ⟨m, p, g1, g2, g3, g4, g5⟩ hK
  dsimp only at g1 g2 g4 g5 hK ⊢
  subst g1 g2
  have hpn := g3.le
  have hC1 : CO t1 (jn x) (jo x) := h.keep (g4.1 9 (by decide) (by decide)) (g4.2 5 (by decide))
  unfold x_Model_layOut_4F
  rw [hC1.2.1]
  refine wple (jn x) p rfl rfl (by omega) (by omega) (fun e => ⟨vp_in_nI (by omega) (by omega), ?_⟩) (fun e => ?_)
  · have := g3.fin hc e
    subst this
    rintro s3 rfl s4 rfl
    rw [nI_clamp (by omega)]
    refine k _ ((g4.arr (by decide) (by decide)).scal (by decide)) ⟨fun k hk => ?_, ?_, su_at _ _ _ _⟩
    · have hpl : jp x k < jn x := hc.lt hk
      obtain ⟨q1, q2, q3⟩ := g5 k hk
      refine ⟨?_, q2, q3⟩
      rw [su_row _ _ _ _ _ (by decide), su_ne _ _ _ _ _ (by omega)]
      exact q1
    · rw [su_row _ _ _ _ _ (by decide), su_at]
  rw [nI_clamp (by omega), g4.1 7 (by decide) (by decide), h7 p (by omega)]
  refine ⟨vp_in_nI (by omega) (by omega), ?_⟩
  rcases g3.cases hc (by omega) with ⟨b1, b2, b3, b4⟩ | ⟨b1, b2⟩
  rotate_left
  · rw [b1]
    refine ⟨fun z => absurd rfl z, fun _ => ?_⟩
    unfold x_Model_layOut_210
    rintro v rfl
    refine hK _ ⟨m, p + 1, rfl, nI_1 p, b2, g4, g5⟩ ?_
    show 201 - (nI p + 1).toNatClampNeg < 201 - (nI p).toNatClampNeg
    rw [nI_1, nI_clamp (by omega), nI_clamp (by omega)]
    omega
  rw [b1]
  have b3' : jp x m = p := b3
  have hln := hc.2 m b2
  rw [b3] at hln
  have ho := h.2.2.2.2 p
  have hps := ps_le (fr := fr) hc (jld_le x N) m (by omega)
  have hldm := jld_le x N m
  have hCm := jC_le hok (show N ≤ 200 by omega) m
  have hlnb := ln_le (jn x) (jo x) p
  refine ⟨fun _ => ⟨vp_in_nI (by omega) (by omega), ?_⟩, fun z => absurd z (by decide)⟩
  intro v hv
  rw [hC1.2.2.1 p (by omega)] at hv
  subst hv
  refine M_length hC1 (by omega) ⟨vp_in_nI (by omega) (by omega), ?_⟩
  rintro s12 rfl
  have k12 : Keep 19 [10, 11, 12] [6] t (su t1 10 p (nI (ps (jn x) (jo x) (jld x N) fr m))) := g4.arr (by decide) (by decide)
  have hold : ∀ k, k < m → jp x k ≠ p := fun k hk => by rw [← b3']; exact fun e2 => by have := hc.inj (by omega) b2 e2; omega
  -- the end: prefix and length stand
  have f186 : ∀ (t2 : St) (L : Nat), Keep 19 [10, 11, 12] [6] t t2 → t2 10 = su t1 10 p (nI (ps (jn x) (jo x) (jld x N) fr m)) 10 → t2 11 = su t1 11 p (nI (jld x N m)) 11 → t2 12 = t1 12 → L = nlf (jn x) (jo x) fr p (spI (jn x) (jo x) (jld x N) fr m) → L ≤ 200 → x_Model_layOut_186 (fun s x1 x2 => K (s, x1, x2)) Post t2 (nI (ps (jn x) (jo x) (jld x N) fr m)) (nI p) (nI L) := by
    intro t2 L a1 a2 a3 a4 a5 a6
    unfold x_Model_layOut_186
    rw [nI_clamp (by omega), a3, su_at, nI_add]
    refine ⟨vp_in_nI (by omega) (by omega), vp_in_nI (by omega) (by omega), ?_⟩
    rintro s41 rfl
    refine ⟨vp_in_nI (by omega) (by omega), ?_⟩
    rintro v rfl
    rw [su_at, nI_add]
    unfold x_Model_layOut_210
    rintro v rfl
    refine hK _ ⟨m + 1, p + 1, ?_, nI_1 p, b4, a1.arr (by decide) (by decide), fun k hk => ?_⟩ ?_
    · rw [a5]
      show _ = nI (ps (jn x) (jo x) (jld x N) fr m + jld x N m + nlf (jn x) (jo x) fr (pl (jn x) (jo x) m) (ps (jn x) (jo x) (jld x N) fr m + jld x N m))
      rw [b3, Nat.add_assoc]
      rfl
    · dsimp only
      rw [su_row _ _ _ _ _ (by decide), su_row _ _ _ _ _ (by decide), a2, a3]
      by_cases ck : k = m
      · rw [ck, b3', su_at, su_at, su_at, a5]
        exact ⟨rfl, rfl, rfl⟩
      · have hne := hold k (by omega)
        rw [su_ne _ _ _ _ _ hne, su_ne _ _ _ _ _ hne, su_ne _ _ _ _ _ hne, a4]
        exact g5 k (by omega)
    · show 201 - (nI p + 1).toNatClampNeg < 201 - (nI p).toNatClampNeg
      rw [nI_1, nI_clamp (by omega), nI_clamp (by omega)]
      omega
  have f134 : ∀ a b, a + b = jld x N m → x_Model_layOut_134 (fun s x1 x2 => K (s, x1, x2)) Post (su t1 10 p (nI (ps (jn x) (jo x) (jld x N) fr m))) (nI (ps (jn x) (jo x) (jld x N) fr m)) (nI p) (nI (jo x p)) (nI (ln (jn x) (jo x) p)) (nI b) (nI a) (nI p) := by
    intro a b hab
    unfold x_Model_layOut_134
    refine ⟨vp_in_nI (by omega) (by omega), ?_⟩
    rintro s29 rfl
    rw [nI_clamp (by omega), nI_add, hab]
    have k29 : Keep 19 [10, 11, 12] [6] t (su (su t1 10 p (nI (ps (jn x) (jo x) (jld x N) fr m))) 11 p (nI (jld x N m))) := k12.arr (by decide) (by decide)
    have fin : ∀ L, L = nlf (jn x) (jo x) fr p (spI (jn x) (jo x) (jld x N) fr m) → L ≤ 200 → x_Model_layOut_186 (fun s x1 x2 => K (s, x1, x2)) Post (su (su t1 10 p (nI (ps (jn x) (jo x) (jld x N) fr m))) 11 p (nI (jld x N m))) (nI (ps (jn x) (jo x) (jld x N) fr m)) (nI p) (nI L) := fun L e1' e2' => f186 _ L k29 rfl rfl rfl e1' e2'
    refine MK_isTable ho (wpb (fun e1' => ⟨vp_in_nI (by omega) (by omega), ?_⟩) (fun e1' => ?_))
    · rw [su_row _ _ _ _ _ (by decide), su_row _ _ _ _ _ (by decide), g4.1 8 (by decide) (by decide), hf p (by omega)]
      refine wpb (fun e2' => fin _ ?_ (by omega)) (fun e2' => ?_)
      · unfold nlf
        rw [if_neg (by rw [e1']; decide), if_neg (c := fr p = true) (by rw [e2']; decide)]
        by_cases c : jo x p = 200
        · rw [if_pos c, (ln_pos hln).2]
          unfold lnR
          rw [if_pos (by rw [c]; rfl), if_neg (by omega), if_neg (by rw [e1']; decide), c]
          rfl
        · rw [if_neg c]
      · have hSJ := hfr m b2 (by rw [b3']; exact e2')
        rw [b3'] at hSJ
        have c200 : jo x p ≠ 200 := fun z => by rw [z] at hSJ; exact absurd hSJ (by decide)
        refine wpeqn (jo x p) 167 rfl rfl (by omega) (by omega) (fun e3 => ?_) (fun e3 => ?_)
        · unfold x_Model_layOut_184
          refine fin 8 ?_ (by omega)
          unfold nlf
          rw [if_neg (by rw [e1']; decide), if_neg c200, if_pos e2', if_neg e3]
        · unfold x_Model_layOut_184
          refine fin 5 ?_ (by omega)
          unfold nlf
          rw [if_neg (by rw [e1']; decide), if_neg c200, if_pos e2', if_pos e3]
    · unfold x_Model_opcodeAt
      rw [nI_clamp (by omega), su_at, su_row _ _ _ _ _ (by decide), su_at, nI_add]
      refine ⟨vp_in_nI (by omega) (by omega), vp_in_nI (by omega) (by omega), ?_⟩
      rintro v rfl
      obtain ⟨-, -, hlnv, w2, w42, -, -⟩ := sw_ok e1' hln
      have hwf : wf (ps (jn x) (jo x) (jld x N) fr m + jld x N m) - (ps (jn x) (jo x) (jld x N) fr m + jld x N m) = 4 - (ps (jn x) (jo x) (jld x N) fr m + jld x N m) % 4 := by unfold wf; omega
      rw [rem4 (by omega), rem4 (by omega), add_sub3, nI_add, pk_sub (by omega)]
      refine fin _ ?_ (by omega)
      unfold nlf spI
      rw [if_pos e1', hwf]
      omega
  have f97 : ∀ a b, a + b + (if kRet (jo x p) = true then 3 else 0) + (if kArr (jo x p) = true then 4 else 0) = jld x N m → x_Model_layOut_97 (fun s x1 x2 => K (s, x1, x2)) Post (su t1 10 p (nI (ps (jn x) (jo x) (jld x N) fr m))) (nI (ps (jn x) (jo x) (jld x N) fr m)) (nI p) (nI (jo x p)) (nI (ln (jn x) (jo x) p)) (nI b) (nI a) (nI p) := by
    intro a b hab
    unfold x_Model_layOut_97
    rw [nI_add]
    refine MK_in (l := 172) (u := 177) (by omega) (by omega) (by omega) (wpb (fun e1' => ?_) (fun e1' => ?_))
    · rw [if_neg (c := kRet (jo x p) = true) (by unfold kRet; rw [e1']; decide)] at hab
      refine wpeq (jo x p) 188 rfl rfl (by omega) (by omega) (fun e2' => ?_) (fun e2' => wpeqn (jo x p) 189 rfl rfl (by omega) (by omega) (fun e3 => ?_) (fun e3 => ?_))
      · unfold x_Model_layOut_129
        rw [if_pos (by simp [kArr, e2'])] at hab
        exact f134 (a + b) 4 (by omega)
      · rw [if_neg (by simp [kArr, e2', e3])] at hab
        exact f134 (a + b) 0 (by omega)
      · unfold x_Model_layOut_129
        rw [if_pos (by simp [kArr, e3])] at hab
        exact f134 (a + b) 4 (by omega)
    · have hr : kRet (jo x p) = true := e1'
      rw [if_pos hr, if_neg (by rw [kRetArr _ ho hr]; decide)] at hab
      exact f134 (a + b) 3 (by omega)
  have f72 : ∀ a b, a + b + (if jB x N m = true ∧ 0 < jC x N m then wgt (jC x N m) + 3 else 0) + (if kRet (jo x p) = true then 3 else 0) + (if kArr (jo x p) = true then 4 else 0) = jld x N m → x_Model_layOut_72 (fun s x1 x2 => K (s, x1, x2)) Post (su t1 10 p (nI (ps (jn x) (jo x) (jld x N) fr m))) (nI (ps (jn x) (jo x) (jld x N) fr m)) (nI p) (nI (jo x p)) (nI (ln (jn x) (jo x) p)) (nI b) (nI a) (nI p) := by
    intro a b hab
    unfold x_Model_layOut_72
    rw [nI_add, nI_clamp (by omega), su_row _ _ _ _ _ (by decide), g4.1 13 (by decide) (by decide), ← b3', hB m b2, b3']
    refine ⟨vp_in_nI (by omega) (by omega), ?_⟩
    by_cases eB : jB x N m = true
    · rw [if_pos eB]
      refine wple (jC x N m) 0 rfl rfl (by omega) (by omega) (fun e1' => f97 (a + b) 0 ?_) (fun e1' => ⟨vp_in_nI (by omega) (by omega), ?_⟩)
      · rw [if_neg (by omega)] at hab; exact hab
      · refine M_weigh.mpr ?_
        rw [k_weigh (by omega)]
        rw [if_pos ⟨eB, by omega⟩] at hab
        show x_Model_layOut_97 (fun s x1 x2 => K (s, x1, x2)) Post (su t1 10 p (nI (ps (jn x) (jo x) (jld x N) fr m))) (nI (ps (jn x) (jo x) (jld x N) fr m)) (nI p) (nI (jo x p)) (nI (ln (jn x) (jo x) p)) (nI (wgt (jC x N m)) + 3) (nI (a + b)) (nI p)
        rw [show nI (wgt (jC x N m)) + 3 = nI (wgt (jC x N m) + 3) from nI_add _ 3]
        exact f97 (a + b) _ hab
    · rw [if_neg eB]
      refine ⟨fun _ => f97 (a + b) 0 ?_, fun q => absurd (by decide) q⟩
      rw [if_neg (fun q => eB q.1)] at hab
      exact hab
  have hld : jld x N m = (if p = 0 then 3 else 0) + (if jl x p = true then 4 else 0) + (if jB x N m = true ∧ 0 < jC x N m then wgt (jC x N m) + 3 else 0) + (if kRet (jo x p) = true then 3 else 0) + (if kArr (jo x p) = true then 4 else 0) := by
    unfold jld ldf
    rw [b3']
  have f59 : ∀ a, a = (if p = 0 then 3 else 0) → x_Model_layOut_59 (fun s x1 x2 => K (s, x1, x2)) Post (su t1 10 p (nI (ps (jn x) (jo x) (jld x N) fr m))) (nI (ps (jn x) (jo x) (jld x N) fr m)) (nI p) (nI (jo x p)) (nI (ln (jn x) (jo x) p)) (nI a) (nI p) := by
    intro a ha
    unfold x_Model_layOut_59
    rw [← ha] at hld
    refine M_looks (x := x) (by omega) (hH.keep (k12.1 1 (by decide) (by decide)) (k12.1 2 (by decide) (by decide)) (k12.1 3 (by decide) (by decide)) (k12.1 4 (by decide) (by decide)) (k12.2 1 (by decide))) (fun c hc' => by rw [k12.1 6 (by decide) (by decide)]; exact hM c hc') (wpb (fun e1' => f72 a 0 ?_) (fun e1' => f72 a 4 ?_))
    · rw [if_neg (c := jl x p = true) (by rw [e1']; decide)] at hld
      exact hld.symm
    · rw [if_pos e1'] at hld
      exact hld.symm
  exact wpeqn p 0 rfl rfl (by omega) (by omega) (fun e1' => f59 0 (by rw [if_neg e1'])) (fun e1' => f59 3 (by rw [if_pos e1']))
end MY
