/-! PURE. The questions, in class and reference, about what was last rewritten. -/
def NoR (s : St) : Prop := (∀ q, q ≤ 200 → s 5 q = 0) ∧ ∀ k, 5 ≤ k → k ≤ 13 → s 15 k = 0
def Snap (s t : St) : Prop := (NoR s ∧ t 19 16 = 0) ∨ ∃ x N R, Form x N ∧ jps x N R N ≤ 1200 ∧ jh x ≤ 4 ∧ ResX s x N R ∧ ResM t x N R
section SK
variable {s s' t t' : St} {x : In} {N R : Nat}
theorem LayX.ki (h : LayX s x N R) (k : KI s s') : LayX s' x N R := by
  obtain ⟨a1, a2, a3, a4, a5, a6, a7, a8, a9, a10, a11, a12⟩ := h
  have r : ∀ q, 4 ≤ q → q ≠ 15 → s' q = s q := fun q h1 h2 => k.1 q (by simp; omega) h2
  refine ⟨by rw [k.2 5 (by decide)]; exact a1, fun i hi => by rw [r 4 (by decide) (by decide)]; exact a2 i hi, fun q hq => by rw [r 5 (by decide) (by decide)]; exact a3 q hq, fun i hi => by rw [r 7 (by decide) (by decide)]; exact a4 i hi, fun q hq => by rw [r 8 (by decide) (by decide)]; exact a5 q hq, ⟨fun i hi => by rw [r 10 (by decide) (by decide), r 11 (by decide) (by decide), r 6 (by decide) (by decide)]; exact a6.1 i hi, by rw [r 10 (by decide) (by decide)]; exact a6.2⟩, fun q hq => by rw [r 12 (by decide) (by decide)]; exact a7 q hq, by rw [k.2 6 (by decide)]; exact a8, by rw [k.2 7 (by decide)]; exact a9, by rw [k.2 8 (by decide)]; exact a10, by rw [k.2 9 (by decide)]; exact a11, fun i hi => by rw [r 9 (by decide) (by decide)]; exact a12 i hi⟩
theorem ResX.ki (h : ResX s x N R) (k : KI s s') : ResX s' x N R := by
  obtain ⟨a1, a2, a3, a4, a5, a6⟩ := h
  exact ⟨a1.ki k, ⟨by rw [k.2 10 (by decide)]; exact a2.1, fun j hj => by rw [k.1 13 (by decide) (by decide)]; exact a2.2 j hj⟩, by rw [k.2 12 (by decide)]; exact a3, by rw [k.2 13 (by decide)]; exact a4, by rw [k.2 11 (by decide)]; exact a5, fun h q h1 h2 => by rw [k.1 14 (by decide) (by decide)]; exact a6 h q h1 h2⟩
theorem ResM.kj (h : ResM t x N R) (k : KJ t t') : ResM t' x N R := by
  obtain ⟨⟨a1, a2, a3, a4, a5, ⟨⟨w1, w2⟩, w3, w4, w5⟩, a7, a8, a9, a10, a11, a12⟩, a13⟩ := h
  have r : ∀ q, 7 ≤ q → q ≠ 19 → t' q = t q := fun q h1 h2 => k.1 q (by simp; omega) h2
  have c : ∀ q, 4 ≤ q → t' 19 q = t 19 q := fun q h1 => k.2 q (by simp; omega)
  exact ⟨⟨a1.keep (r 9 (by omega) (by omega)) (c 5 (by omega)), fun q hq => by rw [r 7 (by omega) (by omega)]; exact a2 q hq, fun q hq => by rw [r 13 (by omega) (by omega)]; exact a3 q hq, a4.keep (r 10 (by omega) (by omega)) (r 11 (by omega) (by omega)) (r 12 (by omega) (by omega)) (c 6 (by omega)), fun q hq => by rw [r 8 (by omega) (by omega)]; exact a5 q hq, ⟨⟨by rw [c 15 (by omega)]; exact w1, fun j hj => by rw [r 14 (by omega) (by omega)]; exact w2 j hj⟩, by rw [c 13 (by omega)]; exact w3, by rw [c 14 (by omega)]; exact w4, by rw [c 11 (by omega)]; exact w5⟩, by rw [c 9 (by omega)]; exact a7, by rw [c 10 (by omega)]; exact a8, by rw [c 12 (by omega)]; exact a9, by rw [c 8 (by omega)]; exact a10, by rw [c 7 (by omega)]; exact a11, fun h hh => by rw [r 15 (by omega) (by omega), r 16 (by omega) (by omega), r 17 (by omega) (by omega), r 18 (by omega) (by omega)]; exact a12 h hh⟩, by rw [c 16 (by omega)]; exact a13⟩
theorem Snap.kk (h : Snap s t) (k : KI s s') (k' : KJ t t') : Snap s' t' := by
  rcases h with ⟨⟨h1, h2⟩, h3⟩ | ⟨x, N, R, h1, h2, h3, h4, h5⟩
  · exact Or.inl ⟨⟨fun q hq => by rw [k.1 5 (by decide) (by decide)]; exact h1 q hq, fun q a b => by rw [k.2 q (by simp; omega)]; exact h2 q a b⟩, by rw [k'.2 16 (by decide)]; exact h3⟩
  · exact Or.inr ⟨x, N, R, h1, h2, h3, h4.ki k, h5.kj k'⟩
end SK
section QQ
variable {s t : St}
theorem q_octet (h : Snap s t) (a : Int32) : ∃ v : Int32, (∀ P : Int32 → St → Prop, P v s → x_Desk_octet s a P) ∧ (∀ P : Int32 → St → Prop, P v t → x_Model_octet t a P) := by
  rcases h with ⟨⟨h1, h2⟩, h3⟩ | ⟨x, N, R, hF, hl, -, ⟨a1, a2, -⟩, ⟨b1, b2, b3, b4, b5, b6, b7⟩, b8⟩
  · refine ⟨-1, fun P p => ?_, fun P p => ?_⟩
    · unfold x_Desk_octet
      rw [h2 10 (by omega) (by omega)]
      exact wrA (l := 0) (u := 0) (by omega) (by omega) (fun c => by omega) (fun c => p)
    · unfold x_Model_octet
      rw [h3]
      exact wc0 p
  · have hlen := eAll_len hF.1 R N (Nat.le_refl N)
    refine ⟨if inR a 0 (jps x N R N) then (eAll x N R N).getD a.toNatClampNeg 0 else -1, fun P p => ?_, fun P p => ?_⟩
    · unfold x_Desk_octet
      rw [a2.1, hlen]
      refine wrA (l := 0) (u := jps x N R N) (by omega) (by omega) (fun c => ?_) (fun c => by rw [if_neg c] at p; exact p)
      rw [if_pos c] at p
      obtain ⟨k, -, k2, rfl⟩ := inR_nI c
      rw [nI_clamp (by omega)] at p ⊢
      rw [a2.2 k (by omega)]
      exact ⟨vp_in_nI (by omega) (by omega), p⟩
    · unfold x_Model_octet
      rw [b8]
      refine wc1 ?_
      rw [b4.2.2]
      refine M_rA (u := jps x N R N) (by omega) (fun c => wc1 ?_) (fun c => wc0 (by rw [if_neg c] at p; exact p))
      rw [if_pos c] at p
      obtain ⟨k, -, k2, rfl⟩ := inR_nI c
      rw [nI_clamp (by omega)] at p ⊢
      rw [b6.1.2 k (by omega)]
      exact ⟨vp_in_nI (by omega) (by omega), p⟩
theorem q_moved (h : Snap s t) (a b : Int32) : ∃ v : Int32, (∀ P : Int32 → St → Prop, P v s → x_Desk_moved s a b P) ∧ (∀ P : Int32 → St → Prop, P v t → x_Model_moved t a b P) := by
  rcases h with ⟨⟨h1, h2⟩, h3⟩ | ⟨x, N, R, hF, hl, -, ⟨a1, a2, -⟩, ⟨b1, b2, b3, b4, b5, b6, b7⟩, b8⟩
  · refine ⟨-1, fun P p => ?_, fun P p => ?_⟩
    · unfold x_Desk_moved
      refine X_begins (L := fun _ => 0) (fun q hq => ⟨h1 q hq, Nat.zero_le _⟩) ?_
      rw [show beg (fun _ => 0) a = false by simp [beg]]
      exact wb0 p
    · unfold x_Model_moved
      rw [h3]
      exact wc0 p
  · have hn := b1.1
    have hNn := hF.1.le
    have hLX : LX s (Ls (jn x) (jo x) N) := fun q hq => ⟨a1.2.2.1 q hq, by have := Ls_le (n := jn x) (o := jo x) N q; omega⟩
    have hN0 := hF.2.1
    by_cases c : ∃ k, k < N ∧ a = nI (jp x k)
    · have hb := (beg_Ls (N := N) (o := jo x) hF.1 hn).mpr c
      obtain ⟨k, hk, rfl⟩ := c
      have hpl : jp x k < jn x := hF.1.lt hk
      refine ⟨if b = 0 then nI (frI (jn x) (jo x) (jld x N) (jF x N R) k) else if b = 1 then nI (jsp x N R k) else if b = 2 then nI (jld x N k + nlf (jn x) (jo x) (jF x N R) (jp x k) (jsp x N R k)) else if b = 3 then (if jB x N k = true then nI (jC x N k) else -1) else if b = 4 then bI (jo x (jp x k) == 200 || jF x N R (jp x k)) else -1, fun P p => ?_, fun P p => ?_⟩
      · unfold x_Desk_moved
        refine X_begins hLX ?_
        rw [hb]
        refine wb1 ⟨fun e => ?_, fun e => ?_, fun e => ?_, fun e => ?_, fun e => ?_, fun e0 e1' e2' e3 e4' => ?_⟩
        · subst e
          rw [if_pos rfl] at p
          rw [nI_clamp (by omega), show s 10 (jp x k) = _ from (a1.2.2.2.2.2.1.1 k hk).1]
          exact ⟨vp_in_nI (by omega) (by omega), p⟩
        · subst e
          rw [if_neg (by decide), if_pos rfl] at p
          rw [nI_clamp (by omega), show s 11 (jp x k) = _ from (a1.2.2.2.2.2.1.1 k hk).2.1]
          exact ⟨vp_in_nI (by omega) (by omega), p⟩
        · subst e
          rw [if_neg (by decide), if_neg (by decide), if_pos rfl] at p
          rw [nI_clamp (by omega), show s 6 (jp x k) = _ from (a1.2.2.2.2.2.1.1 k hk).2.2, a1.2.2.2.2.2.2.2.2.2.2.2 k hk, nI_add]
          exact ⟨vp_in_nI (by omega) (by omega), vp_in_nI (by omega) (by omega), p⟩
        · subst e
          rw [if_neg (by decide), if_neg (by decide), if_neg (by decide), if_pos rfl] at p
          rw [nI_clamp (by omega), a1.2.2.2.1 k hk]
          exact ⟨vp_in_nI (by omega) (by omega), p⟩
        · subst e
          rw [if_neg (by decide), if_neg (by decide), if_neg (by decide), if_neg (by decide), if_pos rfl] at p
          rw [nI_clamp (by omega), a1.2.2.2.2.2.2.1 (jp x k) (by omega), show stB (jn x) (jo x) N (jp x k) = true from stB_iff.mpr ⟨k, hk, rfl⟩, Bool.true_and]
          exact ⟨vp_in_nI (by omega) (by omega), wpb (fun e => by rw [e] at p; exact p) (fun e => by rw [e] at p; exact p)⟩
        · rw [if_neg e0, if_neg e1', if_neg e2', if_neg e3, if_neg e4'] at p
          exact p
      · unfold x_Model_moved
        rw [b8]
        refine wc1 (M_begins b1 hF.1 (by omega) b2 (fun kk hkk ekk => wb1 ?_) (fun z => absurd ⟨k, hk, rfl⟩ z))
        refine ⟨fun e => ?_, fun e => ?_, fun e => ?_, fun e => ?_, fun e => ?_, fun e0 e1' e2' e3 e4' => ?_⟩
        · subst e
          rw [if_pos rfl] at p
          exact M_front hn hF b4 hk p
        · subst e
          rw [if_neg (by decide), if_pos rfl] at p
          exact M_opcodeAt hn hF b4 hk p
        · subst e
          rw [if_neg (by decide), if_neg (by decide), if_pos rfl] at p
          rw [nI_clamp (by omega), (b4.1 k hk).2.2]
          exact ⟨vp_in_nI (by omega) (by omega), p⟩
        · subst e
          rw [if_neg (by decide), if_neg (by decide), if_neg (by decide), if_pos rfl] at p
          rw [nI_clamp (by omega), b3 k hk]
          exact ⟨vp_in_nI (by omega) (by omega), p⟩
        · subst e
          rw [if_neg (by decide), if_neg (by decide), if_neg (by decide), if_neg (by decide), if_pos rfl] at p
          have ho := b1.2.2.2.2 (jp x k)
          rw [nI_clamp (by omega), b5 (jp x k) (by omega), b1.2.2.1 (jp x k) hpl]
          unfold x_Model_moved_99
          refine ⟨vp_in_nI (by omega) (by omega), wpbn (fun e => by rw [e, Bool.or_true] at p; exact p) (fun e => ⟨vp_in_nI (by omega) (by omega), wpeqn (jo x (jp x k)) 200 rfl rfl (by omega) (by omega) (fun e2' => ?_) (fun e2' => ?_)⟩)⟩
          · rw [e, beq_false_of_ne e2'] at p
            exact p
          · rw [e2'] at p
            exact p
        · rw [if_neg e0, if_neg e1', if_neg e2', if_neg e3, if_neg e4'] at p
          exact p
    · refine ⟨-1, fun P p => ?_, fun P p => ?_⟩
      · unfold x_Desk_moved
        refine X_begins hLX ?_
        rw [show beg (Ls (jn x) (jo x) N) a = false by
          cases e : beg (Ls (jn x) (jo x) N) a
          · rfl
          · exact absurd ((beg_Ls (N := N) (o := jo x) hF.1 hn).mp e) c]
        exact wb0 p
      · unfold x_Model_moved
        rw [b8]
        exact wc1 (M_begins b1 hF.1 (by omega) b2 (fun kk hkk ekk => absurd ⟨kk, hkk, ekk⟩ c) (fun z => wb0 p))
theorem fst_or (f : Nat → Prop) (hf : ∀ k, f k ∨ ¬ f k) : ∀ N, (∀ k, k < N → ¬ f k) ∨ ∃ k, k < N ∧ f k ∧ ∀ j, j < k → ¬ f j
  | 0 => Or.inl (fun k hk => absurd hk (Nat.not_lt_zero k))
  | N + 1 => by
    rcases fst_or f hf N with h | ⟨k, h1, h2, h3⟩
    · rcases hf N with q | q
      · exact Or.inr ⟨N, by omega, q, h⟩
      · refine Or.inl (fun k hk => ?_)
        rcases Nat.lt_or_ge k N with z | z
        · exact h k z
        · rw [show k = N by omega]; exact q
    · exact Or.inr ⟨k, by omega, h2, h3⟩
theorem q_back (h : Snap s t) (a : Int32) : ∃ v : Int32, (∀ P : Int32 → St → Prop, P v s → x_Desk_back s a P) ∧ (∀ P : Int32 → St → Prop, P v t → x_Model_back t a P) := by
  rcases h with ⟨⟨h1, h2⟩, h3⟩ | ⟨x, N, R, hF, hl, -, ⟨a1, a2, -⟩, ⟨b1, b2, b3, b4, b5, b6, b7⟩, b8⟩
  · refine ⟨-1, fun P p => ?_, fun P p => ?_⟩
    · unfold x_Desk_back x_Desk_back_2
      refine itr_go (fun q => q = (s, a, 0)) (fun _ => 0) _ rfl ?_
      rintro K _ rfl hK
      unfold x_Desk_back_2F
      dsimp only
      rw [h2 5 (by omega) (by omega)]
      exact ⟨fun _ => p, fun z => absurd (by decide) z⟩
    · unfold x_Model_back x_Model_back_2
      refine itr_go (fun q => q = (t, a, 0)) (fun _ => 0) _ rfl ?_
      rintro K _ rfl hK
      unfold x_Model_back_2F
      dsimp only
      rw [h3]
      exact ⟨fun _ => p, fun _ => wc0 p⟩
  · have hn := b1.1
    have hNn := hF.1.le
    have hor := fst_or (fun k => nI (jsp x N R k) = a) (fun k => Classical.em _) N
    have key : ∃ (v : Int32) (M : Nat), M ≤ N ∧ (∀ k, k < M → ¬ nI (jsp x N R k) = a) ∧ (M < N → nI (jsp x N R M) = a ∧ v = nI (jp x M)) ∧ (M = N → v = -1) := by
      rcases hor with q | ⟨k, q1, q2, q3⟩
      · exact ⟨-1, N, Nat.le_refl N, q, fun z => absurd z (by omega), fun _ => rfl⟩
      · exact ⟨nI (jp x k), k, by omega, q3, fun _ => ⟨q2, rfl⟩, fun z => absurd z (by omega)⟩
    obtain ⟨v, M, m1, m2, m3, m4⟩ := key
    refine ⟨v, fun P p => ?_, fun P p => ?_⟩
    · unfold x_Desk_back x_Desk_back_2
      refine itr_go (fun q => ∃ i, i ≤ M ∧ q = (s, a, nI i)) (fun q => 201 - q.2.2.toNatClampNeg) _ ⟨0, by omega, rfl⟩ ?_
      rintro K _ ⟨i, g1, rfl⟩ hK
      unfold x_Desk_back_2F
      dsimp only at hK ⊢
      rw [a1.1]
      refine wple N i rfl rfl (by omega) (by omega) (fun e => ?_) (fun e => ⟨vp_in_nI (by omega) (by omega), ?_⟩)
      · rw [m4 (by omega)] at p
        exact p
      · intro v3 hv3
        rw [nI_clamp (by omega), a1.2.1 i (by omega)] at hv3
        subst hv3
        have hpl : jp x i < jn x := hF.1.lt (show i < N by omega)
        rw [nI_clamp (show jp x i < 2 ^ 31 by omega), show s 11 (jp x i) = nI (jsp x N R i) from (a1.2.2.2.2.2.1.1 i (by omega)).2.1]
        refine ⟨vp_in_nI (by omega) (by omega), fun e2' => ?_, fun e2' => ?_⟩
        · rintro v6 rfl
          refine hK _ ⟨i + 1, ?_, by rw [nI_1]⟩ ?_
          · rcases Nat.lt_or_ge i M with z | z
            · exact z
            · have : i = M := by omega
              subst this
              exact absurd (m3 (by omega)).1 e2'
          · rw [nI_1, nI_clamp (by omega), nI_clamp (by omega)]
            omega
        · rcases Nat.lt_or_ge i M with z | z
          · exact absurd e2' (m2 i z)
          · have : i = M := by omega
            subst this
            rw [(m3 (by omega)).2] at p
            exact p
    · unfold x_Model_back x_Model_back_2
      refine itr_go (fun q => ∃ i pp, At (jn x) (jo x) N i pp ∧ i ≤ M ∧ q = (t, a, nI pp)) (fun q => 201 - q.2.2.toNatClampNeg) _ ⟨0, 0, At.z, by omega, rfl⟩ ?_
      rintro K _ ⟨i, pp, g0, g1, rfl⟩ hK
      have hple := g0.le
      unfold x_Model_back_2F
      dsimp only at hK ⊢
      rw [b1.2.1, b8]
      refine wple (jn x) pp rfl rfl (by omega) (by omega) (fun e => ?_) (fun e => wc1 ⟨vp_in_nI (by omega) (by omega), ?_⟩)
      · have := g0.fin hF.1 e
        rw [m4 (by omega)] at p
        exact p
      · have nxt : ∀ i', At (jn x) (jo x) N i' (pp + 1) → i' ≤ M → x_Model_back_37 (fun s x1 x2 => K (s, x1, x2)) P t a (nI pp) := by
          intro i' q1 q2
          unfold x_Model_back_37
          rintro v8 rfl
          refine hK _ ⟨i', pp + 1, q1, q2, by rw [nI_1]⟩ ?_
          rw [nI_1, nI_clamp (by omega), nI_clamp (by omega)]
          omega
        rw [nI_clamp (by omega), b2 pp (by omega)]
        rcases g0.cases hF.1 (by omega) with ⟨c1, c2, c3, c4⟩ | ⟨c1, c2⟩
        · rw [c1]
          have c3' : jp x i = pp := c3
          subst c3'
          refine wc1 (M_opcodeAt hn hF b4 c2 ⟨fun e2' => nxt (i + 1) c4 ?_, fun e2' => ?_⟩)
          · rcases Nat.lt_or_ge i M with z | z
            · exact z
            · have : i = M := by omega
              subst this
              exact absurd (m3 (by omega)).1 e2'
          · rcases Nat.lt_or_ge i M with z | z
            · exact absurd e2' (m2 i z)
            · have : i = M := by omega
              subst this
              rw [(m3 (by omega)).2] at p
              exact p
        · rw [c1]
          exact wc0 (nxt i c2 g1)
theorem q_guard (h : Snap s t) (a b : Int32) : ∃ v : Int32, (∀ P : Int32 → St → Prop, P v s → x_Desk_guard s a b P) ∧ (∀ P : Int32 → St → Prop, P v t → x_Model_guard t a b P) := by
  rcases h with ⟨⟨h1, h2⟩, h3⟩ | ⟨x, N, R, hF, hl, h4, ⟨a1, a2, a3, a4, a5, a6⟩, ⟨b1, b2, b3, b4, b5, b6, b7, b9, b10, b11, b12, b13⟩, b8⟩
  · refine ⟨-1, fun P p => ?_, fun P p => ?_⟩
    · unfold x_Desk_guard
      rw [h2 11 (by omega) (by omega)]
      exact wrA (l := 0) (u := 0) (by omega) (by omega) (fun c => by omega) (fun c => p)
    · unfold x_Model_guard
      rw [h3]
      exact wc0 p
  · by_cases c : inR a 0 (jh x)
    · have c' := c
      obtain ⟨k, -, k2, rfl⟩ := inR_nI c'
      obtain ⟨d0, d1, d2, d3⟩ := b13 k k2
      refine ⟨if b = 0 then nI (gPt x N R k 0) else if b = 1 then nI (gPt x N R k 1) else if b = 2 then nI (gPt x N R k 2) else if b = 3 then nI (gPt x N R k 3) else -1, fun P p => ?_, fun P p => ?_⟩
      · unfold x_Desk_guard
        rw [a5]
        refine wrA (l := 0) (u := jh x) (by omega) (by omega) (fun _ => wrC (l := 0) (u := 4) (by omega) (by omega) (fun c2 => ?_) (fun c2 => ?_)) (fun z => absurd c z)
        · obtain ⟨q, -, q2, rfl⟩ := inR_nI c2
          rw [show nI k * (4 : Int32) = nI (4 * k) by rw [show nI k * (4 : Int32) = nI (k * 4) from pk_mul _ 4, Nat.mul_comm], nI_add, nI_clamp (by omega), a6 k q k2 q2]
          refine ⟨vp_in_nI (by omega) (by omega), ?_⟩
          rcases (show q = 0 ∨ q = 1 ∨ q = 2 ∨ q = 3 by omega) with rfl | rfl | rfl | rfl
          · rw [if_pos (by decide)] at p
            exact p
          · rw [if_neg (by decide), if_pos (by decide)] at p
            exact p
          · rw [if_neg (by decide), if_neg (by decide), if_pos (by decide)] at p
            exact p
          · rw [if_neg (by decide), if_neg (by decide), if_neg (by decide), if_pos (by decide)] at p
            exact p
        · rw [if_neg (fun e => c2 (by rw [e]; decide)), if_neg (fun e => c2 (by rw [e]; decide)), if_neg (fun e => c2 (by rw [e]; decide)), if_neg (fun e => c2 (by rw [e]; decide))] at p
          exact p
      · unfold x_Model_guard
        rw [b8]
        refine wc1 ?_
        rw [b12]
        refine M_rA (u := jh x) (by omega) (fun _ => wb1 ?_) (fun z => absurd c z)
        rw [nI_clamp (by omega), d0, d1, d2, d3]
        refine ⟨fun e => ⟨vp_in_nI (by omega) (by omega), ?_⟩, fun e => ⟨vp_in_nI (by omega) (by omega), ?_⟩, fun e => ⟨vp_in_nI (by omega) (by omega), ?_⟩, fun e => ⟨vp_in_nI (by omega) (by omega), ?_⟩, fun e0 e1' e2' e3 => ?_⟩
        · subst e
          exact p
        · subst e
          exact p
        · subst e
          exact p
        · subst e
          exact p
        · rw [if_neg e0, if_neg e1', if_neg e2', if_neg e3] at p
          exact p
    · refine ⟨-1, fun P p => ?_, fun P p => ?_⟩
      · unfold x_Desk_guard
        rw [a5]
        exact wrA (l := 0) (u := jh x) (by omega) (by omega) (fun z => absurd z c) (fun _ => p)
      · unfold x_Model_guard
        rw [b8]
        refine wc1 ?_
        rw [b12]
        exact M_rA (u := jh x) (by omega) (fun z => absurd z c) (fun _ => wb0 p)
theorem seven {a : Int32} (h : inR a 0 8) (h0 : ¬ a = 0) (h1 : ¬ a = 1) (h2 : ¬ a = 2) (h3 : ¬ a = 3) (h4 : ¬ a = 4) (h5 : ¬ a = 5) (h6 : ¬ a = 6) : a = 7 := by
  obtain ⟨k, -, k2, rfl⟩ := inR_nI h
  rcases (show k = 0 ∨ k = 1 ∨ k = 2 ∨ k = 3 ∨ k = 4 ∨ k = 5 ∨ k = 6 ∨ k = 7 by omega) with rfl | rfl | rfl | rfl | rfl | rfl | rfl | rfl
  · exact absurd rfl h0
  · exact absurd rfl h1
  · exact absurd rfl h2
  · exact absurd rfl h3
  · exact absurd rfl h4
  · exact absurd rfl h5
  · exact absurd rfl h6
  · rfl
theorem q_about (h : Snap s t) (a : Int32) : ∃ v : Int32, (∀ P : Int32 → St → Prop, P v s → x_Desk_about s a P) ∧ (∀ P : Int32 → St → Prop, P v t → x_Model_about t a P) := by
  by_cases c : inR a 0 8
  · rcases h with ⟨⟨h1, h2⟩, h3⟩ | ⟨x, N, R, hF, hl, h4, ⟨a1, a2, a3, a4, a5, a6⟩, ⟨b1, b2, b3, b4, b5, b6, b7, b9, b10, b11, b12, b13⟩, b8⟩
    · refine ⟨0, fun P p => ?_, fun P p => ?_⟩
      · unfold x_Desk_about
        rw [h2 10 (by omega) (by omega), h2 5 (by omega) (by omega), h2 6 (by omega) (by omega), h2 7 (by omega) (by omega), h2 8 (by omega) (by omega), h2 9 (by omega) (by omega), h2 12 (by omega) (by omega), h2 13 (by omega) (by omega)]
        exact ⟨fun _ => p, fun _ => p, fun _ => p, fun _ => p, fun _ => p, fun _ => p, fun _ => p, fun _ => p, fun e0 e1' e2' e3 e4' e5 e6 e7 => absurd (seven c e0 e1' e2' e3 e4' e5 e6) e7⟩
      · unfold x_Model_about
        refine M_rB (l := 0) (u := 7) (by omega) (by omega) (fun _ => wb1 ?_) (fun z => absurd c z)
        rw [h3]
        exact wb0 p
    · have hlen := eAll_len hF.1 R N (Nat.le_refl N)
      refine ⟨if a = 0 then nI (jps x N R N) else if a = 1 then nI N else if a = 2 then nI (nb (jB x N) N) else if a = 3 then nI (R + 1) else if a = 4 then nI (cntF (jn x) (jo x) (jF x N R) N) else if a = 5 then nI (sm (jP x) N) else if a = 6 then nI (cA x N N) else nI (pA x N N), fun P p => ?_, fun P p => ?_⟩
      · unfold x_Desk_about
        rw [a2.1, hlen, a1.1, a1.2.2.2.2.2.2.2.1, a1.2.2.2.2.2.2.2.2.1, a1.2.2.2.2.2.2.2.2.2.1, a1.2.2.2.2.2.2.2.2.2.2.1, a3, a4]
        refine ⟨fun e => ?_, fun e => ?_, fun e => ?_, fun e => ?_, fun e => ?_, fun e => ?_, fun e => ?_, fun e => ?_, fun e0 e1' e2' e3 e4' e5 e6 e7 => absurd (seven c e0 e1' e2' e3 e4' e5 e6) e7⟩ <;> (subst e; exact p)
      · unfold x_Model_about
        refine M_rB (l := 0) (u := 7) (by omega) (by omega) (fun _ => wb1 ?_) (fun z => absurd c z)
        rw [b8]
        refine wb1 ?_
        rw [b4.2.2, b7, b9, b11, b6.2.2.2, b10, b6.2.1, b6.2.2.1]
        refine ⟨fun e => ?_, fun e => ?_, fun e => ?_, fun e => ?_, fun e => ?_, fun e => ?_, fun e => ?_, fun e0 e1' e2' e3 e4' e5 e6 => ?_⟩
        · subst e; exact p
        · subst e; exact p
        · subst e; exact p
        · subst e; exact p
        · subst e; exact p
        · subst e; exact p
        · subst e; exact p
        · rw [if_neg e0, if_neg e1', if_neg e2', if_neg e3, if_neg e4', if_neg e5, if_neg e6] at p
          exact p
  · refine ⟨-1, fun P p => ?_, fun P p => ?_⟩
    · unfold x_Desk_about
      refine ⟨fun e => ?_, fun e => ?_, fun e => ?_, fun e => ?_, fun e => ?_, fun e => ?_, fun e => ?_, fun e => ?_, fun _ _ _ _ _ _ _ _ => p⟩ <;> exact absurd (by rw [e]; decide) c
    · unfold x_Model_about
      exact M_rB (l := 0) (u := 7) (by omega) (by omega) (fun z => absurd z c) (fun _ => wb0 p)
theorem q_count {x : In} (h : IX s x) (g : IM t x) (e : s 15 0 = t 19 4) (a : Int32) : ∃ v : Int32, (∀ P : Int32 → St → Prop, P v s → x_Desk_count s a P) ∧ (∀ P : Int32 → St → Prop, P v t → x_Model_count t a P) := by
  refine ⟨if a = 0 then nI (jn x) else if a = 1 then nI (jh x) else if a = 2 then t 19 4 else -1, fun P p => ?_, fun P p => ?_⟩
  · unfold x_Desk_count
    rw [h.1.2.1, h.2.1.2.1, e]
    refine ⟨fun e => ?_, fun e => ?_, fun e => ?_, fun e0 e1' e2' => ?_⟩
    · subst e; exact p
    · subst e; exact p
    · subst e; exact p
    · rw [if_neg e0, if_neg e1', if_neg e2'] at p
      exact p
  · unfold x_Model_count
    rw [g.1, g.2.2.2.2.2.1.2.1]
    refine ⟨fun e0 => ⟨fun e1' => ⟨fun e2' => ?_, fun e2' => ?_⟩, fun e1' => ?_⟩, fun e0 => ?_⟩
    · rw [if_neg e0, if_neg e1', if_neg e2'] at p
      exact p
    · subst e2'; exact p
    · subst e1'; exact p
    · subst e0; exact p
end QQ
