/-! PURE. The class rewrites. -/
/-- the new place of an old one: of the end, the new end -/
def fQ (x : In) (N R q : Nat) : Nat := if q = jn x then jps x N R N else frI (jn x) (jo x) (jld x N) (jF x N R) (ix (jn x) (jo x) q N)
def gPt (x : In) (N R h q : Nat) : Nat := if q < 3 then fQ x N R (jd x h q) else jd x h 3
/-- the class's answers of what was rewritten -/
def ResX (s : St) (x : In) (N R : Nat) : Prop := LayX s x N R ∧ OutX s (eAll x N R N) ∧ s 15 12 = nI (cA x N N) ∧ s 15 13 = nI (pA x N N) ∧ s 15 11 = nI (jh x) ∧ ∀ h q, h < jh x → q < 4 → s 14 (4 * h + q) = nI (gPt x N R h q)
def NoO (s : St) : Prop := s 15 10 = 0 ∧ s 15 11 = 0 ∧ s 15 12 = 0 ∧ s 15 13 = 0
section XR
variable {s : St} {Post : St → Prop} {x : In} {N R : Nat}
abbrev KG (s t : St) : Prop := Keep 15 [14] [11] s t
theorem IX.kg {s t : St} {x : In} (h : IX s x) (k : KG s t) : IX t x := h.kp k (by decide) (by decide) (by decide) (by decide) (fun q _ _ hq => by simp at hq; omega)
theorem LayX.kg {s t : St} {x : In} {N R : Nat} (h : LayX s x N R) (k : KG s t) : LayX t x N R := by
  obtain ⟨a1, a2, a3, a4, a5, a6, a7, a8, a9, a10, a11, a12⟩ := h
  have r : ∀ q, q ≠ 14 → q ≠ 15 → t q = s q := fun q h1 h2 => k.1 q (by simpa using h1) h2
  refine ⟨by rw [k.2 5 (by decide)]; exact a1, fun i hi => by rw [r 4 (by decide) (by decide)]; exact a2 i hi, fun q hq => by rw [r 5 (by decide) (by decide)]; exact a3 q hq, fun i hi => by rw [r 7 (by decide) (by decide)]; exact a4 i hi, fun q hq => by rw [r 8 (by decide) (by decide)]; exact a5 q hq, ⟨fun i hi => by rw [r 10 (by decide) (by decide), r 11 (by decide) (by decide), r 6 (by decide) (by decide)]; exact a6.1 i hi, by rw [r 10 (by decide) (by decide)]; exact a6.2⟩, fun q hq => by rw [r 12 (by decide) (by decide)]; exact a7 q hq, by rw [k.2 6 (by decide)]; exact a8, by rw [k.2 7 (by decide)]; exact a9, by rw [k.2 8 (by decide)]; exact a10, by rw [k.2 9 (by decide)]; exact a11, fun i hi => by rw [r 9 (by decide) (by decide)]; exact a12 i hi⟩
theorem LayX.fq (hL : LayX s x N R) (hF : Form x N) {q : Nat} (hq : isSt (jn x) (jo x) N q ∨ q = jn x) : s 10 q = nI (fQ x N R q) := by
  unfold fQ
  by_cases e : q = jn x
  · rw [if_pos e, e]
    exact hL.2.2.2.2.2.1.2
  · rw [if_neg e]
    obtain ⟨k, hk, rfl⟩ := hq.elim id (fun z => absurd z e)
    rw [ix_pl hF.1 hk N hk (Nat.le_refl N)]
    exact (hL.2.2.2.2.2.1.1 k hk).1
theorem X_writeGuards (hx : IX s x) (hL : LayX s x N R) (hF : Form x N) (k : ∀ s', KG s s' → s' 15 11 = nI (jh x) → (∀ h q, h < jh x → q < 4 → s' 14 (4 * h + q) = nI (gPt x N R h q)) → Post s') : x_Output_writeGuards s Post := by
  obtain ⟨hh1, hh2, hh3⟩ := hx.2.1
  have hn := hx.1.1
  unfold x_Output_writeGuards x_Output_writeGuards_2
  refine itr_go (fun a => ∃ h, h ≤ jh x ∧ a.2 = nI h ∧ KG s a.1 ∧ ∀ h' q, h' < h → q < 4 → a.1 14 (4 * h' + q) = nI (gPt x N R h' q)) (fun a => 201 - a.2.toNatClampNeg) _ ?_ ?_
  · exact ⟨0, by omega, rfl, Keep.rf, fun h' q hh => absurd hh (by omega)⟩
  · rintro K ⟨s', x1⟩ ⟨h, g1, g2, g3, g4⟩ hK
    dsimp only at g2 g3 g4 hK ⊢
    subst g2
    unfold x_Output_writeGuards_2F
    rw [g3.2 2 (by decide), hh2]
    refine wple (jh x) h rfl rfl (by omega) (by omega) (fun e => ?_) (fun e => ?_)
    · rintro s2 rfl
      have : h = jh x := by omega
      subst this
      exact k _ (g3.scal (by decide)) (su_at _ _ _ _) (fun h' q a b => by rw [su_row _ _ _ _ _ (by decide)]; exact g4 h' q a b)
    · rintro v rfl
      rw [show nI h * (4 : Int32) = nI (4 * h) by rw [show nI h * (4 : Int32) = nI (h * 4) from pk_mul h 4, Nat.mul_comm]]
      obtain ⟨p4, p200, p255⟩ := hh3 h (by omega)
      obtain ⟨fo1, fo2, fo3, fo4⟩ := hF.2.2.2 h (by omega)
      unfold x_Output_writeGuards_19
      refine itr_go (fun a => ∃ q, q ≤ 3 ∧ a.2.1 = nI h ∧ a.2.2.1 = nI (4 * h) ∧ a.2.2.2 = nI q ∧ KG s a.1 ∧ (∀ h' q', h' < h → q' < 4 → a.1 14 (4 * h' + q') = nI (gPt x N R h' q')) ∧ (∀ q', q' < q → a.1 14 (4 * h + q') = nI (gPt x N R h q'))) (fun a => 201 - a.2.2.2.toNatClampNeg) _ ?_ ?_
      · exact ⟨0, by omega, rfl, rfl, rfl, g3, g4, fun q' hq => absurd hq (by omega)⟩
      · rintro K2 ⟨t, y1, y2, y3⟩ ⟨q, u1, u2, u3, u4, u5, u6, u7⟩ hK2
        dsimp only at u2 u3 u4 u5 u6 u7 hK2 ⊢
        subst u2 u3 u4
        unfold x_Output_writeGuards_19F
        have r1 : ∀ q', q' < 4 → t 1 (4 * h + q') = nI (jd x h q') := fun q' hq' => by rw [u5.1 1 (by decide) (by decide)]; exact p4 q' hq'
        refine wplt 2 q rfl rfl (by omega) (by omega) (fun e2' => ?_) (fun e2' => ?_)
        · have : q = 3 := by omega
          subst this
          refine X_part (q := 3) (by omega) (by omega) ?_
          rw [r1 3 (by omega), show nI (4 * h) + 3 = nI (4 * h + 3) from nI_add _ 3]
          refine ⟨vp_in_nI (by omega) (by omega), ?_⟩
          rintro s8 rfl v rfl
          rw [nI_clamp (by omega)]
          refine hK _ ⟨h + 1, by omega, nI_1 h, u5.arr (by decide) (by decide), fun h' q' a b => ?_⟩ ?_
          · dsimp only
            by_cases c : 4 * h' + q' = 4 * h + 3
            · rw [c, su_at, show h' = h by omega, show q' = 3 by omega]
              rfl
            · rw [su_ne _ _ _ _ _ c]
              rcases Nat.lt_or_ge h' h with z | z
              · exact u6 h' q' z b
              · rw [show h' = h by omega]
                exact u7 q' (by omega)
          · show 201 - (nI h + 1).toNatClampNeg < 201 - (nI h).toNatClampNeg
            rw [nI_1, nI_clamp (by omega), nI_clamp (by omega)]
            omega
        · have hq3 : q < 3 := by omega
          have hd200 := p200 q hq3
          refine X_part (by omega) (by omega) ?_
          rw [r1 q (by omega), nI_add]
          refine ⟨vp_in_nI (by omega) (by omega), vp_in_nI (by omega) (by omega), ?_⟩
          rintro s14 rfl v rfl
          have hst : isSt (jn x) (jo x) N (jd x h q) ∨ jd x h q = jn x := by
            rcases (show q = 0 ∨ q = 1 ∨ q = 2 by omega) with rfl | rfl | rfl
            · exact Or.inl fo1
            · exact fo2
            · exact Or.inl fo4
          rw [nI_clamp (by omega), nI_clamp (by omega), (hL.kg u5).fq hF hst]
          refine hK2 _ ⟨q + 1, by omega, rfl, rfl, nI_1 q, u5.arr (by decide) (by decide), fun h' q' a b => ?_, fun q' a => ?_⟩ ?_
          · dsimp only
            rw [su_ne _ _ _ _ _ (by omega)]
            exact u6 h' q' a b
          · dsimp only
            by_cases c : q' = q
            · rw [c, su_at]
              unfold gPt
              rw [if_pos hq3]
            · rw [su_ne _ _ _ _ _ (by omega)]
              exact u7 q' (by omega)
          · show 201 - (nI q + 1).toNatClampNeg < 201 - (nI q).toNatClampNeg
            rw [nI_1, nI_clamp (by omega), nI_clamp (by omega)]
            omega
theorem X_write (hx : IX s x) (hL : LayX s x N R) (hF : Form x N) (hlen : jps x N R N ≤ 1200) (h0 : NoO s) (k : ∀ s', Keep 15 [13, 14] [10, 11, 12, 13] s s' → ResX s' x N R → Post s') : x_Output_write s Post := by
  have hn := hx.1.1
  have hNn := hF.1.le
  unfold x_Output_write x_Output_write_2
  refine itr_go (fun a => ∃ i, i ≤ N ∧ a.2 = nI i ∧ KW s a.1 ∧ WX a.1 (eAll x N R i) (cA x N i) (pA x N i)) (fun a => 201 - a.2.toNatClampNeg) _ ?_ ?_
  · exact ⟨0, by omega, rfl, Keep.rf, ⟨⟨h0.1, fun k hk => absurd hk (by simp [eAll])⟩, h0.2.2.1, h0.2.2.2⟩⟩
  · rintro K ⟨s', x1⟩ ⟨i, g1, g2, g3, g4⟩ hK
    dsimp only at g2 g3 g4 hK ⊢
    subst g2
    have hx' := hx.kw g3
    have hL' := hL.kw g3
    unfold x_Output_write_2F
    rw [hL'.1]
    refine wple N i rfl rfl (by omega) (by omega) (fun e => ?_) (fun e => ?_)
    · have : i = N := by omega
      subst this
      refine X_writeGuards hx' hL' hF (fun s3 a1 a2 a3 => k s3 ?_ ⟨hL'.kg a1, ⟨?_, fun j hj => ?_⟩, ?_, ?_, a2, a3⟩)
      · exact Keep.tr (g3.mono (by decide) (by decide)) (a1.mono (by decide) (by decide))
      · rw [a1.2 10 (by decide)]; exact g4.1.1
      · rw [a1.1 13 (by decide) (by decide)]; exact g4.1.2 j hj
      · rw [a1.2 12 (by decide)]; exact g4.2.1
      · rw [a1.2 13 (by decide)]; exact g4.2.2
    · refine ⟨vp_in_nI (by omega) (by omega), ?_⟩
      intro v hv
      rw [nI_clamp (by omega), hL'.2.1 i (by omega)] at hv
      subst hv
      have hi : i < N := by omega
      have l1 := eAll_len hF.1 R i (by omega)
      have l2 := eAll_len hF.1 R (i + 1) (by omega)
      have l3 : jps x N R (i + 1) ≤ jps x N R N := ps_mono2 N (by omega)
      unfold eAll at l2
      rw [List.length_append, List.length_append, eLead_len, eIns_len hF.1 R hi] at l2
      refine X_writeLead hx' hL' hF hi g4 (by omega) (fun s7 b1 b2 => ?_)
      refine X_writeInstruction (hx'.kw b1) (hL'.kw b1) hF hi b2 (by rw [List.length_append, eLead_len, l1]; rfl) (by rw [List.length_append, eLead_len]; omega) (fun s9 c1 c2 => ?_)
      rintro v rfl
      rw [List.append_assoc] at c2
      refine hK _ ⟨i + 1, by omega, nI_1 i, (g3.tr b1).tr c1, c2⟩ ?_
      show 201 - (nI i + 1).toNatClampNeg < 201 - (nI i).toNatClampNeg
      rw [nI_1, nI_clamp (by omega), nI_clamp (by omega)]
      omega
/-- what a rewriting comes to: 0 with N instructions and R rounds, 1, or 2 -/
theorem X_rewrite {P : Int32 → St → Prop} {x : In} (h : IX s x)
    (k1 : (¬ ∃ N, Form x N) → ∀ s', IX s' x → NoX s' → NoO s' → s' 15 0 = s 15 0 → P 1 s')
    (k2 : ∀ N R, Form x N → jR x N R → 1200 < jps x N R N → ∀ s', IX s' x → NoX s' → NoO s' → s' 15 0 = s 15 0 → P 2 s')
    (k0 : ∀ N R, Form x N → jR x N R → jps x N R N ≤ 1200 → ∀ s', IX s' x → ResX s' x N R → s' 15 0 = s 15 0 + 1 → P 0 s') : x_Desk_rewrite s P := by
  unfold x_Desk_rewrite x_Output_forget
  rintro s1 rfl s2 rfl s3 rfl s4 rfl
  have q4 : Keep 15 [] [10, 11, 12, 13] s (su (su (su (su s 15 10 0) 15 11 0) 15 12 0) 15 13 0) := (((Keep.rf.scal (by decide)).scal (by decide)).scal (by decide)).scal (by decide)
  have n4 : NoO (su (su (su (su s 15 10 0) 15 11 0) 15 12 0) 15 13 0) := ⟨rfl, rfl, rfl, rfl⟩
  generalize su (su (su (su s 15 10 0) 15 11 0) 15 12 0) 15 13 0 = s4 at q4 n4 ⊢
  have i4 : IX s4 x := h.kp q4 (by decide) (by decide) (by decide) (by decide) (fun q _ _ hq => by simp at hq; omega)
  have t4 : s4 15 0 = s 15 0 := q4.2 0 (by decide)
  have no : ∀ s5 : St, Keep 15 [4, 5, 6, 7, 8, 9, 10, 11, 12] [5, 6, 7, 8, 9] s4 s5 → NoO s5 := fun s5 a => by
    obtain ⟨b1, b2, b3, b4⟩ := n4
    exact ⟨by rw [a.2 10 (by decide)]; exact b1, by rw [a.2 11 (by decide)]; exact b2, by rw [a.2 12 (by decide)]; exact b3, by rw [a.2 13 (by decide)]; exact b4⟩
  have ix : ∀ s5 : St, Keep 15 [4, 5, 6, 7, 8, 9, 10, 11, 12] [5, 6, 7, 8, 9] s4 s5 → IX s5 x := fun s5 a => i4.kp a (by decide) (by decide) (by decide) (by decide) (fun q _ _ hq => by simp at hq; omega)
  refine X_make i4 (fun a1 s5 a2 a3 => ?_) (fun N R a1 a2 a3 s5 a4 a5 => ?_) (fun N R a1 a2 a3 s5 a4 a5 => ?_)
  · exact ⟨fun _ => k1 a1 s5 (ix s5 a2) a3 (no s5 a2) (by rw [a2.2 0 (by decide)]; exact t4), fun z => absurd z (by decide)⟩
  · exact ⟨fun _ => k2 N R a1 a2 a3 s5 (ix s5 a4) a5 (no s5 a4) (by rw [a4.2 0 (by decide)]; exact t4), fun z => absurd z (by decide)⟩
  · refine ⟨fun z => absurd rfl z, fun _ => X_write (ix s5 a4) a5 a1 a3 (no s5 a4) (fun s7 b1 b2 => ?_)⟩
    rintro s8 rfl
    have i7 : IX s7 x := (ix s5 a4).kp b1 (by decide) (by decide) (by decide) (by decide) (fun q _ _ hq => by simp at hq; omega)
    have k8 : Keep 15 [] [0] s7 (su s7 15 0 (s7 15 0 + 1)) := Keep.rf.scal (by decide)
    have i8 : IX (su s7 15 0 (s7 15 0 + 1)) x := i7.kp k8 (by decide) (by decide) (by decide) (by decide) (fun q _ _ hq => by simp at hq; omega)
    refine k0 N R a1 a2 a3 _ i8 ?_ ?_
    · exact b2
    · rw [su_at, b1.2 0 (by decide), a4.2 0 (by decide), t4]
end XR
