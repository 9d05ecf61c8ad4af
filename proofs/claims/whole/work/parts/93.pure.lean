/-! PURE. Every call keeps class and reference alike: the law's loop. -/
def Rel (s t : St) : Prop := ∃ x, IX s x ∧ IM t x ∧ s 15 0 = t 19 4 ∧ Snap s t
theorem Rel.kk {s s' t t' : St} {y : In} (h1 : s 15 0 = t 19 4) (h2 : Snap s t) (k : KI s s') (k' : KJ t t') (i : IX s' y) (i' : IM t' y) : Rel s' t' := ⟨y, i, i', by rw [k.2 0 (by decide), k'.2 4 (by decide)]; exact h1, h2.kk k k'⟩
theorem Form.uniq {x : In} {N M : Nat} (h : Form x N) (g : Form x M) : N = M := h.1.uniq g.1
theorem NoR.of {s : St} (h : NoX s) (g : NoO s) : NoR s := by
  refine ⟨fun q hq => (h.1 q hq).1, fun k h1 h2 => ?_⟩
  rcases Nat.lt_or_ge k 10 with e | e
  · exact h.2 k h1 (by omega)
  · obtain ⟨g1, g2, g3, g4⟩ := g
    rcases (show k = 10 ∨ k = 11 ∨ k = 12 ∨ k = 13 by omega) with rfl | rfl | rfl | rfl <;> assumption
theorem q_rewrite {s t : St} {x : In} {Q : St → St → Prop} (h : IX s x) (g : IM t x) (e : s 15 0 = t 19 4) (k : ∀ s' t', Rel s' t' → Q s' t') : x_Desk_rewrite s (fun r s' => x_Model_rewrite t (fun r' t' => (r = r' → Q s' t') ∧ (¬ r = r' → False))) := by
  refine X_rewrite h (fun a1 s' a2 a3 a4 a5 => ?_) (fun N R a1 a2 a3 s' a4 a5 a6 a7 => ?_) (fun N R a1 a2 a3 s' a4 a5 a6 => ?_)
  · refine M_rewrite g (fun b1 t' b2 b3 b4 => ⟨fun _ => k s' t' ⟨x, a2, b2, by rw [a5, b4]; exact e, Or.inl ⟨NoR.of a3 a4, b3⟩⟩, fun z => z rfl⟩) (fun N R b1 => absurd ⟨N, b1⟩ a1) (fun N R b1 => absurd ⟨N, b1⟩ a1)
  · refine M_rewrite g (fun b1 => absurd ⟨N, a1⟩ b1) (fun M S b1 b2 b3 t' b4 b5 b6 => ⟨fun _ => k s' t' ⟨x, a4, b4, by rw [a7, b6]; exact e, Or.inl ⟨NoR.of a5 a6, b5⟩⟩, fun z => z rfl⟩) (fun M S b1 b2 b3 => ?_)
    obtain rfl := a1.uniq b1
    obtain rfl : R = S := isR.uniq a2 b2
    omega
  · refine M_rewrite g (fun b1 => absurd ⟨N, a1⟩ b1) (fun M S b1 b2 b3 => ?_) (fun M S b1 b2 b3 t' b4 b5 b6 => ⟨fun _ => k s' t' ?_, fun z => z rfl⟩)
    · obtain rfl := a1.uniq b1
      obtain rfl : R = S := isR.uniq a2 b2
      omega
    · obtain rfl := a1.uniq b1
      obtain rfl : R = S := isR.uniq a2 b2
      exact ⟨x, a4, b4, by rw [a6, b6, e], Or.inr ⟨x, N, R, a1, a3, h.2.1.1, a5, b5⟩⟩
/-- two new objects are alike -/
theorem Rel.new {f g : Nat → Int32} (hf : ∀ j : Nat, j < 201 → f j = 1) (hg : ∀ j : Nat, j < 201 → g j = 1) : Rel (iX f) (iM g) := by
  have ok : okIn (0, fun _ => 0, 0, fun _ _ => 0, fun _ => 1, fun _ => false, 1000, 32767) := ⟨fun _ => by show 1 ≤ 99; omega, by show 1000 ≤ 65530; omega, by show 4 ≤ 32767; omega, by show 32767 ≤ 32767; omega⟩
  refine ⟨(0, fun _ => 0, 0, fun _ _ => 0, fun _ => 1, fun _ => false, 1000, 32767), ⟨⟨by show 0 ≤ 200; omega, rfl, fun j hj => absurd hj (Nat.not_lt_zero j), fun _ _ => rfl, fun _ => by show 0 < 256; omega⟩, ⟨by show 0 ≤ 4; omega, rfl, fun q hq => absurd hq (Nat.not_lt_zero q)⟩, ⟨fun j hj => hf j (by omega), fun _ => by show 1 ≤ 99; omega⟩, fun c hc => rfl, rfl, rfl, ok⟩, ⟨rfl, fun j hj => absurd hj (Nat.not_lt_zero j), by show 0 ≤ 200; omega, fun _ _ => rfl, fun _ => by show 0 < 256; omega, ⟨by show 0 ≤ 4; omega, rfl, fun q hq => absurd hq (Nat.not_lt_zero q)⟩, ⟨fun j hj => hg j (by omega), fun _ => by show 1 ≤ 99; omega⟩, fun c hc => rfl, rfl, rfl, ok⟩, rfl, Or.inl ⟨⟨fun q hq => rfl, fun k h1 h2 => ?_⟩, rfl⟩⟩
  rcases (show k = 5 ∨ k = 6 ∨ k = 7 ∨ k = 8 ∨ k = 9 ∨ k = 10 ∨ k = 11 ∨ k = 12 ∨ k = 13 by omega) with rfl | rfl | rfl | rfl | rfl | rfl | rfl | rfl | rfl <;> rfl
theorem pure_law (L : Nat) (xs : Nat → Int32) (hL : L ≤ 2560) (f g : Nat → Int32) (hf : ∀ j : Nat, j < 201 → f j = 1) (hg : ∀ j : Nat, j < 201 → g j = 1) : ∃ n : Nat, x_Law_18 L xs n (iX f, iM g) 0 := by
  unfold x_Law_18
  refine itr_go (fun a => Rel a.1.1 a.1.2 ∧ ∃ i, i ≤ L ∧ a.2 = nI i) (fun a => 3000 - a.2.toNatClampNeg) _ ⟨Rel.new hf hg, 0, by omega, rfl⟩ ?_
  rintro K ⟨⟨s, t⟩, x3⟩ ⟨⟨x, hX, hM, hT, hS⟩, i, hi, e⟩ hK
  dsimp only at hX hM hT hS e hK ⊢
  subst e
  have hLI : (Int32.ofNat L - 5).toInt = (L : Int) - 5 := pk_sub_toInt (a := L) (b := 5) (by omega) (by omega)
  unfold x_Law_18F
  refine ⟨fun _ => trivial, fun hlt => ?_⟩
  rw [Int32.lt_iff_toInt_lt, hLI, nI_toInt (by omega)] at hlt
  have v0 : vp_in (nI i) L := vp_in_nI (by omega) (by omega)
  have v1 : vp_in (nI i + 1) L := by rw [show nI i + 1 = nI (i + 1) from nI_add _ 1]; exact vp_in_nI (by omega) (by omega)
  have v2 : vp_in (nI i + 2) L := by rw [show nI i + 2 = nI (i + 2) from nI_add _ 2]; exact vp_in_nI (by omega) (by omega)
  have v3 : vp_in (nI i + 3) L := by rw [show nI i + 3 = nI (i + 3) from nI_add _ 3]; exact vp_in_nI (by omega) (by omega)
  have v4 : vp_in (nI i + 4) L := by rw [show nI i + 4 = nI (i + 4) from nI_add _ 4]; exact vp_in_nI (by omega) (by omega)
  have go : ∀ s' t', Rel s' t' → x_Law_552 L xs (fun s x3 => K (s, x3)) (s', t') (nI i) := by
    intro s' t' hR
    unfold x_Law_552
    rintro v rfl
    refine hK _ ⟨hR, i + 5, by omega, nI_add _ 5⟩ ?_
    dsimp only
    rw [show nI i + 5 = nI (i + 5) from nI_add _ 5, nI_clamp (by omega), nI_clamp (by omega)]
    omega
  have same : Rel s t := ⟨x, hX, hM, hT, hS⟩
  have fin : ∀ (v : Int32) (s' t' : St), Rel s' t' → (v = v → x_Law_552 L xs (fun s x3 => K (s, x3)) (s', t') (nI i)) ∧ (¬ v = v → False) := fun v s' t' hR => ⟨fun _ => go s' t' hR, fun z => z rfl⟩
  refine ⟨v0, fun _ => ?_, fun _ => ?_, fun _ => ?_, fun _ => ?_, fun _ => ?_, fun _ => ?_, fun _ => ?_, fun _ => ?_, fun _ => ?_, fun _ => ?_, fun _ => ?_, fun _ => ?_, fun _ => ?_, fun _ => ?_, fun _ _ _ _ _ _ _ _ _ _ _ _ _ _ => go s t same⟩
  · exact ⟨v1, v2, v3, X_code hX (fun s' a1 a2 => ⟨v1, v2, v3, M_code hM (fun t' b1 b2 => fin _ s' t' (Rel.kk hT hS a1 b1 a2 b2))⟩)⟩
  · exact ⟨v1, v2, X_change hX (fun s' a1 a2 => ⟨v1, v2, M_change' hM (fun t' b1 b2 => fin _ s' t' (Rel.kk hT hS a1 b1 a2 b2))⟩)⟩
  · exact X_clear hX (fun s' a1 a2 => M_clear hM (fun t' b1 b2 => fin _ s' t' (Rel.kk hT hS a1 b1 a2 b2)))
  · exact ⟨v1, v2, v3, v4, X_handler hX (fun s' a1 a2 => ⟨v1, v2, v3, v4, M_handler hM (fun t' b1 b2 => fin _ s' t' (Rel.kk hT hS a1 b1 a2 b2))⟩)⟩
  · have mark : ∀ b : Bool, (bI b = 0 ↔ xs (nI i + 2).toNatClampNeg = 0) → x_Law_285 L xs (fun s x3 => K (s, x3)) (s, t) (nI i) (bI b) (xs (nI i + 1).toNatClampNeg) := by
      intro b hb
      unfold x_Law_285
      refine X_mark (m := b) hX (fun s' a1 a2 => ⟨v1, v2, ?_⟩)
      have m307 : x_Law_307 L xs (fun s x3 => K (s, x3)) (s', t) (nI i) (bI b) (xs (nI i + 1).toNatClampNeg) (rMark (xs (nI i + 1).toNatClampNeg)) := by
        unfold x_Law_307
        exact M_mark (m := b) hM (fun t' b1 b2 => fin _ s' t' (Rel.kk hT hS a1 b1 a2 b2))
      cases b
      · exact ⟨fun _ => m307, fun z => absurd (hb.mp rfl) z⟩
      · exact ⟨fun z => absurd (hb.mpr z) (by decide), fun _ => m307⟩
    exact ⟨v1, v2, fun e => mark false ⟨fun _ => e, fun _ => rfl⟩, fun e => mark true ⟨fun z => absurd z (by decide), fun z => absurd z e⟩⟩
  · exact ⟨v1, v2, X_cost hX (fun s' a1 a2 => ⟨v1, v2, M_cost hM (fun t' b1 b2 => fin _ s' t' (Rel.kk hT hS a1 b1 a2 b2))⟩)⟩
  · exact ⟨v1, v2, X_set hX (fun s' a1 a2 => ⟨v1, v2, M_set hM (fun t' b1 b2 => fin _ s' t' (Rel.kk hT hS a1 b1 a2 b2))⟩)⟩
  · exact q_rewrite hX hM hT go
  · obtain ⟨v, h1, h2⟩ := q_octet hS (xs (nI i + 1).toNatClampNeg)
    exact ⟨v1, h1 _ ⟨v1, h2 _ (fin v s t same)⟩⟩
  · obtain ⟨v, h1, h2⟩ := q_moved hS (xs (nI i + 1).toNatClampNeg) (xs (nI i + 2).toNatClampNeg)
    exact ⟨v1, v2, h1 _ ⟨v1, v2, h2 _ (fin v s t same)⟩⟩
  · obtain ⟨v, h1, h2⟩ := q_back hS (xs (nI i + 1).toNatClampNeg)
    exact ⟨v1, h1 _ ⟨v1, h2 _ (fin v s t same)⟩⟩
  · obtain ⟨v, h1, h2⟩ := q_guard hS (xs (nI i + 1).toNatClampNeg) (xs (nI i + 2).toNatClampNeg)
    exact ⟨v1, v2, h1 _ ⟨v1, v2, h2 _ (fin v s t same)⟩⟩
  · obtain ⟨v, h1, h2⟩ := q_about hS (xs (nI i + 1).toNatClampNeg)
    exact ⟨v1, h1 _ ⟨v1, h2 _ (fin v s t same)⟩⟩
  · obtain ⟨v, h1, h2⟩ := q_count hX hM hT (xs (nI i + 1).toNatClampNeg)
    exact ⟨v1, h1 _ ⟨v1, h2 _ (fin v s t same)⟩⟩
