/-! PURE. The reference writes all, and rewrites. -/
section SUMS
variable {B : Nat → Bool} {P : Nat → Nat}
theorem sm_bump {f g : Nat → Nat} {b d : Nat} (h : ∀ i, f i = g i + (if b = i then d else 0)) : ∀ m, sm f m = sm g m + (if b < m then d else 0)
  | 0 => by simp [sm]
  | m + 1 => by
    unfold sm
    rw [sm_bump h m, h m]
    by_cases c : b = m
    · subst c
      rw [if_pos rfl, if_neg (by omega), if_pos (by omega)]
      omega
    · rw [if_neg c]
      by_cases c2 : b < m
      · rw [if_pos c2, if_pos (by omega)]
        omega
      · rw [if_neg c2, if_neg (by omega)]
        omega
theorem sm_zero {f : Nat → Nat} (h : ∀ i, f i = 0) : ∀ m, sm f m = 0
  | 0 => rfl
  | m + 1 => by
    unfold sm
    rw [sm_zero h m, h m]
theorem sm_cb (h0 : B 0 = true) {N : Nat} : ∀ m, m ≤ N → sm (fun i => if B i = true then cb B P m i else 0) N = sm P m
  | 0, _ => sm_zero (fun i => by split <;> rfl) N
  | m + 1, h => by
    have h1 := sm_cb h0 (N := N) m (by omega)
    have h2 := bs_le (B := B) m
    rw [sm_bump (g := fun i => if B i = true then cb B P m i else 0) (b := bs B m) (d := P m) (fun i => ?_) N, if_pos (by omega), h1]
    · rfl
    · show (if B i = true then cb B P m i + (if bs B m = i then P m else 0) else 0) = _
      by_cases c : B i = true
      · rw [if_pos c, if_pos c]
      · rw [if_neg c, if_neg c, if_neg (fun e => c (by rw [← e]; exact bs_B h0 m))]
end SUMS
def sC (x : In) (N : Nat) : Nat → Nat := sm (fun i => if jB x N i = true then jC x N i else 0)
theorem sC_all (x : In) (N : Nat) : sC x N N = sm (jP x) N := sm_cb (B := jB x N) (P := jP x) rfl N (Nat.le_refl N)
section FQ
variable {t : St} {x : In} {N R : Nat}
theorem fQ_pl (hF : Form x N) {k : Nat} (hk : k < N) : fQ x N R (jp x k) = frI (jn x) (jo x) (jld x N) (jF x N R) k := by
  have hpl : jp x k < jn x := hF.1.lt hk
  unfold fQ
  rw [if_neg (by omega), show ix (jn x) (jo x) (jp x k) N = k from ix_pl hF.1 hk N hk (Nat.le_refl N)]
theorem fQ_n : fQ x N R (jn x) = jps x N R N := if_pos rfl
theorem M_frontQ {P : Int32 → St → Prop} (hn : jn x ≤ 200) (hF : Form x N) (hP : PM t x N (jF x N R)) {q : Nat} (hq : isSt (jn x) (jo x) N q) (kk : P (nI (fQ x N R q)) t) : x_Model_front t (nI q) P := by
  obtain ⟨k, hk, e⟩ := hq
  have e' : jp x k = q := e
  subst e'
  rw [fQ_pl hF hk] at kk
  exact M_front hn hF hP hk kk
end FQ
/-- the reference's guards up to h -/
def GM (t : St) (x : In) (N R h : Nat) : Prop := ∀ h', h' < h → t 15 h' = nI (gPt x N R h' 0) ∧ t 16 h' = nI (gPt x N R h' 1) ∧ t 17 h' = nI (gPt x N R h' 2) ∧ t 18 h' = nI (gPt x N R h' 3)
/-- the reference's answers of what was rewritten -/
def ResM0 (t : St) (x : In) (N R : Nat) : Prop := CO t (jn x) (jo x) ∧ (∀ q, q ≤ 200 → t 7 q = bI (stB (jn x) (jo x) N q)) ∧ BM t x N ∧ PM t x N (jF x N R) ∧ FM t (jF x N R) ∧ WM t (eAll x N R N) (cA x N N) (pA x N N) (cntF (jn x) (jo x) (jF x N R) N) ∧ t 19 9 = nI N ∧ t 19 10 = nI (nb (jB x N) N) ∧ t 19 12 = nI (sm (jP x) N) ∧ t 19 8 = nI (R + 1) ∧ t 19 7 = nI (jh x) ∧ GM t x N R (jh x)
def ResM (t : St) (x : In) (N R : Nat) : Prop := ResM0 t x N R ∧ t 19 16 = 1
section MW
variable {t : St} {Post : St → Prop} {x : In} {N R : Nat}
abbrev KH (s t : St) : Prop := Keep 19 [15, 16, 17, 18] [] s t
theorem M_guards (hn : jn x ≤ 200) (h5 : t 19 5 = nI (jn x)) (hH : HM t (jh x) (jd x)) (hF : Form x N) (hP : PM t x N (jF x N R)) (k : ∀ t', KH t t' → GM t' x N R (jh x) → Post t') : ∃ n : Nat, x_Model_write_258 Post n t 0 := by
  obtain ⟨hh1, hh2, hh3⟩ := hH
  unfold x_Model_write_258
  refine itr_go (fun a => ∃ h, h ≤ jh x ∧ a.2 = nI h ∧ KH t a.1 ∧ GM a.1 x N R h) (fun a => 201 - a.2.toNatClampNeg) _ ⟨0, by omega, rfl, Keep.rf, fun h' hh => absurd hh (by omega)⟩ ?_
  rintro K ⟨s', x1⟩ ⟨h, g1, g2, g3, g4⟩ hK
  dsimp only at g2 g3 g4 hK ⊢
  subst g2
  unfold x_Model_write_258F
  rw [g3.2 1 (by decide), hh2]
  refine wple (jh x) h rfl rfl (by omega) (by omega) (fun e => ?_) (fun e => ?_)
  · have : h = jh x := by omega
    subst this
    exact k s' g3 g4
  obtain ⟨a0, a1, a2, a3, a200, a255⟩ := hh3 h (by omega)
  obtain ⟨fo1, fo2, fo3, fo4⟩ := hF.2.2.2 h (by omega)
  have kp : ∀ s2, KH t s2 → PM s2 x N (jF x N R) := fun s2 q => hP.keep (q.1 10 (by decide) (by decide)) (q.1 11 (by decide) (by decide)) (q.1 12 (by decide) (by decide)) (q.2 6 (by decide))
  have f317 : ∀ s3, KH t s3 → GM s3 x N R h → s3 15 h = nI (gPt x N R h 0) → x_Model_write_317 (fun s x1 => K (s, x1)) Post s3 (nI h) (nI (gPt x N R h 1)) (nI h) := by
    intro s3 b1 b2 b3
    unfold x_Model_write_317
    refine ⟨vp_in_nI (by omega) (by omega), ?_⟩
    rintro s65 rfl
    refine ⟨vp_in_nI (by omega) (by omega), ?_⟩
    rw [nI_clamp (by omega), su_row _ _ _ _ _ (by decide), b1.1 3 (by decide) (by decide), a2]
    refine M_frontQ (N := N) (R := R) hn hF (kp _ (b1.arr (by decide) (by decide))) fo4 ⟨vp_in_nI (by omega) (by omega), ?_⟩
    rintro s70 rfl
    refine ⟨vp_in_nI (by omega) (by omega), vp_in_nI (by omega) (by omega), ?_⟩
    rintro s73 rfl v rfl
    refine hK _ ⟨h + 1, by omega, nI_1 h, ((b1.arr (by decide) (by decide)).arr (by decide) (by decide)).arr (by decide) (by decide), fun h' hh' => ?_⟩ ?_
    · simp only [su_get]
      by_cases c : h' = h
      · subst c
        refine ⟨by simpa using b3, by simp, by simp; rfl, ?_⟩
        simp only [b1.1 4 (by decide) (by decide), a3]
        simp
        rfl
      · obtain ⟨c0, c1, c2, c3⟩ := b2 h' (by omega)
        simp [c, c0, c1, c2, c3]
    · show 201 - (nI h + 1).toNatClampNeg < 201 - (nI h).toNatClampNeg
      rw [nI_1, nI_clamp (by omega), nI_clamp (by omega)]
      omega
  refine ⟨vp_in_nI (by omega) (by omega), ?_⟩
  rw [nI_clamp (by omega), g3.1 1 (by decide) (by decide), a0]
  refine M_frontQ (N := N) (R := R) hn hF (kp s' g3) fo1 ⟨vp_in_nI (by omega) (by omega), ?_⟩
  rintro s58 rfl
  have k58 : KH t (su s' 15 h (nI (fQ x N R (jd x h 0)))) := g3.arr (by decide) (by decide)
  have e58 : su s' 15 h (nI (fQ x N R (jd x h 0))) 15 h = nI (gPt x N R h 0) := su_at _ _ _ _
  have m58 : GM (su s' 15 h (nI (fQ x N R (jd x h 0)))) x N R h := fun h' hh' => by
    obtain ⟨c0, c1, c2, c3⟩ := g4 h' hh'
    rw [su_ne _ _ _ _ _ (by omega), su_row _ _ _ _ _ (by decide), su_row _ _ _ _ _ (by decide), su_row _ _ _ _ _ (by decide)]
    exact ⟨c0, c1, c2, c3⟩
  generalize su s' 15 h (nI (fQ x N R (jd x h 0))) = s58 at k58 e58 m58 ⊢
  refine ⟨vp_in_nI (by omega) (by omega), ?_⟩
  rw [k58.1 2 (by decide) (by decide), a1, k58.2 5 (by decide), h5, k58.2 6 (by decide), hP.2.2]
  have h200 := a200 1 (by omega)
  refine wpeqn (jd x h 1) (jn x) rfl rfl (by omega) (by omega) (fun e2' => ⟨vp_in_nI (by omega) (by omega), ?_⟩) (fun e2' => ?_)
  · exact M_frontQ (N := N) (R := R) hn hF (kp s58 k58) (fo2.elim id (fun z => absurd z e2')) (f317 s58 k58 m58 e58)
  · have : gPt x N R h 1 = ps (jn x) (jo x) (jld x N) (jF x N R) N := by
      unfold gPt
      rw [if_pos (by omega), e2', fQ_n]
      rfl
    rw [← this]
    exact f317 s58 k58 m58 e58
theorem M_write (hE : EM t x N R) (hok : okIn x) (hF : Form x N) (hlen : jps x N R N ≤ 1200) (h8 : t 19 8 = nI (R + 1)) (k : ∀ t', KE t t' → ResM0 t' x N R → Post t') : x_Model_write t Post := by
  have hn := hE.1.1
  have hNn := hF.1.le
  unfold x_Model_write
  rintro s1 rfl s2 rfl s3 rfl s4 rfl s5 rfl s6 rfl s7 rfl
  have k7 : KE t (su (su (su (su (su (su (su t 19 15 0) 19 9 0) 19 10 0) 19 11 0) 19 12 0) 19 13 0) 19 14 0) := ((((((Keep.rf.scal (by decide)).scal (by decide)).scal (by decide)).scal (by decide)).scal (by decide)).scal (by decide)).scal (by decide)
  have z7 : ∀ s7, s7 = su (su (su (su (su (su (su t 19 15 0) 19 9 0) 19 10 0) 19 11 0) 19 12 0) 19 13 0) 19 14 0 → s7 19 15 = 0 ∧ s7 19 9 = 0 ∧ s7 19 10 = 0 ∧ s7 19 11 = 0 ∧ s7 19 12 = 0 ∧ s7 19 13 = 0 ∧ s7 19 14 = 0 := by
    rintro s7 rfl
    exact ⟨rfl, rfl, rfl, rfl, rfl, rfl, rfl⟩
  have z7' := z7 _ rfl
  clear z7
  generalize su (su (su (su (su (su (su t 19 15 0) 19 9 0) 19 10 0) 19 11 0) 19 12 0) 19 13 0) 19 14 0 = s7 at k7 z7' ⊢
  obtain ⟨z15, z9, z10, z11, z12, z13, z14⟩ := z7'
  unfold x_Model_write_37
  refine itr_go (fun a => ∃ m p, a.2 = nI p ∧ At (jn x) (jo x) N m p ∧ KE t a.1 ∧ WM a.1 (eAll x N R m) (cA x N m) (pA x N m) (cntF (jn x) (jo x) (jF x N R) m) ∧ a.1 19 9 = nI m ∧ a.1 19 10 = nI (nb (jB x N) m) ∧ a.1 19 12 = nI (sC x N m)) (fun a => 201 - a.2.toNatClampNeg) _ ⟨0, 0, rfl, At.z, k7, ⟨⟨z15, fun q hq => absurd hq (by simp [eAll])⟩, z13, z14, z11⟩, z9, z10, z12⟩ ?_
  rintro K ⟨s', x1⟩ ⟨m, p, g1, g2, g3, g4, g5, g6, g7⟩ hK
  dsimp only at g1 g3 g4 g5 g6 g7 hK ⊢
  subst g1
  have hE' := hE.ke g3
  have hple := g2.le
  unfold x_Model_write_37F
  rw [hE'.1.2.1]
  refine wple (jn x) p rfl rfl (by omega) (by omega) (fun e => ?_) (fun e => ⟨vp_in_nI (by omega) (by omega), ?_⟩)
  · have hm := g2.fin hF.1 e
    subst hm
    rintro s9 rfl
    have k9 : KE t (su s' 19 7 (s' 19 1)) := g3.scal (by decide)
    have e9 : su s' 19 7 (s' 19 1) 19 7 = nI (jh x) := by rw [su_at]; exact hE'.2.1.2.1
    have w9 : WM (su s' 19 7 (s' 19 1)) (eAll x m R m) (cA x m m) (pA x m m) (cntF (jn x) (jo x) (jF x m R) m) := g4
    have n9 : su s' 19 7 (s' 19 1) 19 9 = nI m := g5
    have n10 : su s' 19 7 (s' 19 1) 19 10 = nI (nb (jB x m) m) := g6
    have n12 : su s' 19 7 (s' 19 1) 19 12 = nI (sC x m m) := g7
    generalize su s' 19 7 (s' 19 1) = s9 at k9 e9 w9 n9 n10 n12 ⊢
    have hE9 := hE.ke k9
    refine M_guards hn hE9.1.2.1 hE9.2.1 hF hE9.2.2.2.2.2.1 (fun t' b1 b2 => ?_)
    have kt : KE t t' := k9.tr (b1.mono (by decide) (by decide))
    obtain ⟨q1, q2, q3, q4, q5, q6, q7, q8⟩ := hE.ke kt
    rw [sC_all] at n12
    refine k t' kt ⟨q1, q4, q5, q6, q7, ⟨⟨?_, fun j hj => ?_⟩, ?_, ?_, ?_⟩, ?_, ?_, ?_, ?_, ?_, b2⟩
    · rw [b1.2 15 (by decide)]; exact w9.1.1
    · rw [b1.1 14 (by decide) (by decide)]; exact w9.1.2 j hj
    · rw [b1.2 13 (by decide)]; exact w9.2.1
    · rw [b1.2 14 (by decide)]; exact w9.2.2.1
    · rw [b1.2 11 (by decide)]; exact w9.2.2.2
    · rw [b1.2 9 (by decide)]; exact n9
    · rw [b1.2 10 (by decide)]; exact n10
    · rw [b1.2 12 (by decide)]; exact n12
    · rw [kt.2 8 (by decide)]; exact h8
    · rw [b1.2 7 (by decide)]; exact e9
  · rw [nI_clamp (by omega), hE'.2.2.2.1 p (by omega)]
    have nxt : ∀ s3 m', At (jn x) (jo x) N m' (p + 1) → KE t s3 → WM s3 (eAll x N R m') (cA x N m') (pA x N m') (cntF (jn x) (jo x) (jF x N R) m') → s3 19 9 = nI m' → s3 19 10 = nI (nb (jB x N) m') → s3 19 12 = nI (sC x N m') → x_Model_write_242 (fun s x1 => K (s, x1)) Post s3 (nI p) := by
      intro s3 m' b1 b2 b3 b4 b5 b6
      unfold x_Model_write_242
      rintro v rfl
      refine hK _ ⟨m', p + 1, nI_1 p, b1, b2, b3, b4, b5, b6⟩ ?_
      show 201 - (nI p + 1).toNatClampNeg < 201 - (nI p).toNatClampNeg
      rw [nI_1, nI_clamp (by omega), nI_clamp (by omega)]
      omega
    rcases g2.cases hF.1 (by omega) with ⟨c1, c2, c3, c4⟩ | ⟨c1, c2⟩
    · rw [c1]
      refine ⟨fun _ => ⟨vp_in_nI (by omega) (by omega), ?_⟩, fun z => absurd z (by decide)⟩
      have c3' : jp x m = p := c3
      subst c3'
      rintro v hv
      rw [hE'.1.2.2.1 _ (by omega)] at hv
      subst hv
      refine ⟨vp_in_nI (by omega) (by omega), ?_⟩
      rintro v hv
      rw [hE'.2.2.2.2.1 m c2] at hv
      subst hv
      rintro s16 rfl
      have l1 := eAll_len hF.1 R m (by omega)
      have l2 := eAll_len hF.1 R (m + 1) (by omega)
      have l3 : jps x N R (m + 1) ≤ jps x N R N := ps_mono2 N (by omega)
      unfold eAll at l2
      rw [List.length_append, List.length_append, eLead_len, eIns_len hF.1 R c2] at l2
      have body : ∀ s3, KE t s3 → WM s3 (eAll x N R m) (cA x N m) (pA x N m) (cntF (jn x) (jo x) (jF x N R) m) → s3 19 9 = nI (m + 1) → s3 19 10 = nI (nb (jB x N) (m + 1)) → s3 19 12 = nI (sC x N (m + 1)) → x_Model_write_105 (fun s x1 => K (s, x1)) Post s3 (nI (jp x m)) (nI (jo x (jp x m))) (if jB x N m = true then nI (jC x N m) else -1) := by
        intro s3 b2 b3 b4 b5 b6
        refine M_lead (hE.ke b2) hok hF c2 b3 (by omega) (fun s4 d1 d2 => ?_)
        unfold x_Model_write_236
        refine M_instruction (hE.ke (b2.tr d1.e)) hF c2 d2 (by rw [List.length_append, eLead_len, l1]; rfl) (by rw [List.length_append, eLead_len]; omega) (fun s5 u1 u2 => ?_)
        rw [List.append_assoc] at u2
        have q := d1.tr u1
        exact nxt s5 (m + 1) c4 (b2.tr q.e) u2 (by rw [q.2 9 (by decide)]; exact b4) (by rw [q.2 10 (by decide)]; exact b5) (by rw [q.2 12 (by decide)]; exact b6)
      have s9 : su s' 19 9 (s' 19 9 + 1) 19 9 = nI (m + 1) := by rw [su_at, g5]; exact nI_1 m
      have hC := jC_le hok (show N ≤ 200 by omega) m
      by_cases eB' : jB x N m = true
      · have n1 : nb (jB x N) (m + 1) = nb (jB x N) m + 1 := by
          show nb (jB x N) m + (if jB x N m = true then 1 else 0) = _
          rw [if_pos eB']
        have n2 : sC x N (m + 1) = sC x N m + jC x N m := by
          show sC x N m + (if jB x N m = true then jC x N m else 0) = _
          rw [if_pos eB']
        rw [if_pos eB'] at body ⊢
        refine ⟨fun z => absurd z (nI_pos (by omega)), fun _ => ?_⟩
        rintro s18 rfl s19 rfl
        refine body _ (((g3.scal (by decide)).scal (by decide)).scal (by decide)) g4 ?_ ?_ ?_
        · rw [su_ne _ _ _ _ _ (by decide), su_ne _ _ _ _ _ (by decide)]
          exact s9
        · rw [su_ne _ _ _ _ _ (by decide), su_at, su_ne _ _ _ _ _ (by decide), g6, n1]
          exact nI_1 _
        · rw [su_at, su_ne _ _ _ _ _ (by decide), su_ne _ _ _ _ _ (by decide), g7, n2]
          exact nI_add _ _
      · have n1 : nb (jB x N) (m + 1) = nb (jB x N) m := by
          show nb (jB x N) m + (if jB x N m = true then 1 else 0) = _
          rw [if_neg eB']
          rfl
        have n2 : sC x N (m + 1) = sC x N m := by
          show sC x N m + (if jB x N m = true then jC x N m else 0) = _
          rw [if_neg eB']
          rfl
        rw [if_neg eB'] at body ⊢
        refine ⟨fun _ => ?_, fun z => absurd (by decide) z⟩
        refine body _ (g3.scal (by decide)) g4 s9 ?_ ?_
        · rw [su_ne _ _ _ _ _ (by decide), g6, n1]
        · rw [su_ne _ _ _ _ _ (by decide), g7, n2]
    · rw [c1]
      exact ⟨fun z => absurd rfl z, fun _ => nxt s' m c2 g3 g4 g5 g6 g7⟩
end MW
/-- the reference holds the input x -/
def IM (t : St) (x : In) : Prop := t 19 0 = nI (jn x) ∧ (∀ j, j < jn x → t 0 j = nI (jo x j)) ∧ jn x ≤ 200 ∧ (∀ j, jn x ≤ j → jo x j = 0) ∧ (∀ j, jo x j < 256) ∧ HM t (jh x) (jd x) ∧ KM t (jc x) ∧ MM t (jk x) ∧ t 19 2 = nI (jb x) ∧ t 19 3 = nI (jr x) ∧ okIn x
theorem IM.keep {s t : St} {x : In} (h : IM s x) (hr : ∀ r, r ≤ 6 → t r = s r) (hs : ∀ k, k ≤ 3 → t 19 k = s 19 k) : IM t x := by
  obtain ⟨a, b, c, d, e, f, g, i, j, l, m⟩ := h
  exact ⟨by rw [hs 0 (by omega)]; exact a, fun q hq => by rw [hr 0 (by omega)]; exact b q hq, c, d, e, f.keep (hr 1 (by omega)) (hr 2 (by omega)) (hr 3 (by omega)) (hr 4 (by omega)) (hs 1 (by omega)), ⟨fun q hq => by rw [hr 5 (by omega)]; exact g.1 q hq, g.2⟩, fun q hq => by rw [hr 6 (by omega)]; exact i q hq, by rw [hs 2 (by omega)]; exact j, by rw [hs 3 (by omega)]; exact l, m⟩
abbrev KR (s t : St) : Prop := Keep 19 [7, 8, 9, 10, 11, 12, 13, 14, 15, 16, 17, 18] [5, 6, 7, 8, 9, 10, 11, 12, 13, 14, 15, 16] s t
theorem IM.kr {s t : St} {x : In} (h : IM s x) (k : KR s t) : IM t x := h.keep (fun r hr => k.1 r (by simp; omega) (by omega)) (fun q hq => k.2 q (by simp; omega))
section MRW
variable {t : St} {x : In}
theorem M_rewrite {P : Int32 → St → Prop} (h : IM t x)
    (k1 : (¬ ∃ N, Form x N) → ∀ t', IM t' x → t' 19 16 = 0 → t' 19 4 = t 19 4 → P 1 t')
    (k2 : ∀ N R, Form x N → jR x N R → 1200 < jps x N R N → ∀ t', IM t' x → t' 19 16 = 0 → t' 19 4 = t 19 4 → P 2 t')
    (k0 : ∀ N R, Form x N → jR x N R → jps x N R N ≤ 1200 → ∀ t', IM t' x → ResM t' x N R → t' 19 4 = t 19 4 + 1 → P 0 t') : x_Model_rewrite t P := by
  have hn := h.2.2.1
  unfold x_Model_rewrite x_Model_rewrite_2
  refine itr_go (fun a => ∃ i, i ≤ jn x ∧ a.2 = nI i ∧ Keep 19 [9] [] t a.1 ∧ ∀ j, j < i → a.1 9 j = nI (jo x j)) (fun a => 201 - a.2.toNatClampNeg) _ ⟨0, by omega, rfl, Keep.rf, fun j hj => absurd hj (by omega)⟩ ?_
  rintro K ⟨s', x1⟩ ⟨i, g1, g2, g3, g4⟩ hK
  dsimp only at g2 g3 g4 hK ⊢
  subst g2
  unfold x_Model_rewrite_2F
  rw [g3.2 0 (by decide), h.1]
  refine wple (jn x) i rfl rfl (by omega) (by omega) (fun e => ?_) (fun e => ⟨vp_in_nI (by omega) (by omega), vp_in_nI (by omega) (by omega), ?_⟩)
  rotate_left
  · rintro s6 rfl v rfl
    rw [nI_clamp (by omega), g3.1 0 (by decide) (by decide), h.2.1 i (by omega)]
    refine hK _ ⟨i + 1, by omega, nI_1 i, g3.arr (by decide) (by decide), fun j hj => ?_⟩ ?_
    · dsimp only
      by_cases c : j = i
      · rw [c, su_at]
      · rw [su_ne _ _ _ _ _ c]
        exact g4 j (by omega)
    · show 201 - (nI i + 1).toNatClampNeg < 201 - (nI i).toNatClampNeg
      rw [nI_1, nI_clamp (by omega), nI_clamp (by omega)]
      omega
  have hi : i = jn x := by omega
  subst hi
  rintro s2 rfl s3 rfl
  have k3 : Keep 19 [9] [5, 16] t (su (su s' 19 5 (nI (jn x))) 19 16 0) := ((g3.mono (by decide) (by decide)).scal (by decide)).scal (by decide)
  have c3 : CO (su (su s' 19 5 (nI (jn x))) 19 16 0) (jn x) (jo x) := ⟨hn, rfl, g4, h.2.2.2.1, h.2.2.2.2.1⟩
  have z3 : su (su s' 19 5 (nI (jn x))) 19 16 0 19 16 = 0 := su_at _ _ _ _
  generalize su (su s' 19 5 (nI (jn x))) 19 16 0 = s3 at k3 c3 z3 ⊢
  unfold x_Model_rewrite_43
  refine itr_go (fun a => ∃ i, i ≤ 201 ∧ a.2 = nI i ∧ Keep 19 [8] [] s3 a.1 ∧ ∀ j, j < i → a.1 8 j = 0) (fun a => 201 - a.2.toNatClampNeg) _ ⟨0, by omega, rfl, Keep.rf, fun j hj => absurd hj (by omega)⟩ ?_
  rintro K2 ⟨s4, x2⟩ ⟨i, g1', g2', g3', g4'⟩ hK2
  dsimp only at g2' g3' g4' hK2 ⊢
  subst g2'
  unfold x_Model_rewrite_43F
  refine wplt 200 i rfl rfl (by omega) (by omega) (fun e1' => ?_) (fun e1' => ⟨vp_in_nI (by omega) (by omega), ?_⟩)
  rotate_left
  · rintro s6 rfl v rfl
    rw [nI_clamp (by omega), nar_0]
    refine hK2 _ ⟨i + 1, by omega, nI_1 i, g3'.arr (by decide) (by decide), fun j hj => ?_⟩ ?_
    · dsimp only
      by_cases c : j = i
      · rw [c, su_at]
      · rw [su_ne _ _ _ _ _ c]
        exact g4' j (by omega)
    · show 201 - (nI i + 1).toNatClampNeg < 201 - (nI i).toNatClampNeg
      rw [nI_1, nI_clamp (by omega), nI_clamp (by omega)]
      omega
  have k4 : KR t s4 := (k3.mono (by decide) (by decide)).tr (g3'.mono (by decide) (by decide))
  have i4 := h.kr k4
  have c4 : CO s4 (jn x) (jo x) := c3.keep (g3'.1 9 (by decide) (by decide)) (g3'.2 5 (by decide))
  have z4 : s4 19 16 = 0 := by rw [g3'.2 16 (by decide)]; exact z3
  refine M_isFormed c4 i4.2.2.2.2.2.1 (fun s5 b1 b2 => ?_) (fun s5 N b1 b2 b3 => ?_)
  · have k5 : KR t s5 := k4.tr (b2.mono (by decide) (by decide))
    exact ⟨fun z => absurd rfl z, fun _ => k1 b1 s5 (h.kr k5) (by rw [b2.2 16 (by decide)]; exact z4) (k5.2 4 (by decide))⟩
  · have k5 : KR t s5 := k4.tr (b2.mono (by decide) (by decide))
    have i5 := h.kr k5
    have c5 : CO s5 (jn x) (jo x) := c4.keep (b2.1 9 (by decide) (by decide)) (b2.2 5 (by decide))
    refine ⟨fun _ => ?_, fun z => absurd z (by decide)⟩
    refine M_findBlocks c5 b1 i5.2.2.2.2.2.1 i5.2.2.2.2.2.2.1 b3 (fun s6 d1 d2 => ?_)
    rintro s7 rfl
    have k7 : KR t (su s6 19 8 0) := (k5.tr (d1.mono (by decide) (by decide))).scal (by decide)
    have d1' : Keep 19 [13] [8] s5 (su s6 19 8 0) := (d1.mono (by decide) (by decide)).scal (by decide)
    have B7 : BM (su s6 19 8 0) x N := d2
    have e7 : su s6 19 8 0 19 8 = 0 := su_at _ _ _ _
    generalize su s6 19 8 0 = s7 at k7 d1' B7 e7 ⊢
    have i7 := h.kr k7
    have c7 : CO s7 (jn x) (jo x) := c5.keep (d1'.1 9 (by decide) (by decide)) (d1'.2 5 (by decide))
    have r7 : ∀ q, q ≤ 200 → s7 7 q = bI (stB (jn x) (jo x) N q) := fun q hq => by rw [d1'.1 7 (by decide) (by decide)]; exact b3 q hq
    have f7 : FM s7 (fun _ => false) := fun q hq => by
      rw [d1'.1 8 (by decide) (by decide), b2.1 8 (by decide) (by decide)]
      exact g4' q (by omega)
    refine M_rounds c7 b1 i7.2.2.2.2.2.1 i7.2.2.2.2.2.2.2.1 h.2.2.2.2.2.2.2.2.2.2 r7 B7 f7 i7.2.2.2.2.2.2.2.2.2.1 e7 (fun s8 R u1 u2 u3 u4 u5 => ?_)
    have k8 : KR t s8 := k7.tr (u2.mono (by decide) (by decide))
    have i8 := h.kr k8
    have hps := ps_le (fr := jF x N R) b1.1 (jld_le x N) N (Nat.le_refl N)
    have hNn := b1.1.le
    rw [u3.2.2]
    refine wple (jps x N R N) 1200 rfl rfl (by unfold jps; omega) (by omega) (fun e => ?_) (fun e => ?_)
    · have hE : EM s8 x N R := ⟨c7.keep (u2.1 9 (by decide) (by decide)) (u2.2 5 (by decide)), i8.2.2.2.2.2.1, i8.2.2.2.2.2.2.2.1, fun q hq => by rw [u2.1 7 (by decide) (by decide)]; exact r7 q hq, fun q hq => by rw [u2.1 13 (by decide) (by decide)]; exact B7 q hq, u3, u4, i8.2.2.2.2.2.2.2.2.1⟩
      refine M_write hE h.2.2.2.2.2.2.2.2.2.2 b1 e u5 (fun s9 w1 w2 => ?_)
      rintro s22 rfl s23 rfl
      have k9 : KR t s9 := k8.tr (w1.mono (by decide) (by decide))
      refine k0 N R b1 u1 e _ ?_ ⟨w2, rfl⟩ ?_
      · exact (h.kr k9).keep (fun r hr => by rw [su_row _ _ _ _ _ (by omega), su_row _ _ _ _ _ (by omega)]) (fun q hq => by rw [su_ne _ _ _ _ _ (by omega), su_ne _ _ _ _ _ (by omega)])
      · rw [su_at, su_ne _ _ _ _ _ (by decide), k9.2 4 (by decide)]
    · refine k2 N R b1 u1 (by omega) s8 i8 ?_ (k8.2 4 (by decide))
      rw [u2.2 16 (by decide), d1'.2 16 (by decide), b2.2 16 (by decide)]
      exact z4
end MRW
