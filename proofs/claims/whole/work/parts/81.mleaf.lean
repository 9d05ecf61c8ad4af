/-! PURE. The reference: opcodes, words, lengths. -/
def kJ (k : Nat) : Bool := kSJ k || k == 200
def vm_isJump (a : Int32) : Int32 := if vm_in a 153 167 = 0 then (if vm_in a 198 200 = 0 then 0 else 1) else 1
def vm_ends (a : Int32) : Int32 := if vm_in a 153 167 = 0 then (if vm_in a 170 177 = 0 then (if a = 191 then 1 else if vm_in a 198 200 = 0 then 0 else 1) else 1) else 1
def vm_plain (a : Int32) : Int32 := if a = 16 then 2 else if a = 18 then 2 else if vm_in a 21 25 = 0 then (if vm_in a 54 58 = 0 then (if a = 188 then 2 else if a = 17 then 3 else if a = 19 then 3 else if a = 20 then 3 else if a = 132 then 3 else if vm_in a 153 167 = 0 then (if vm_in a 178 184 = 0 then (if a = 187 then 3 else if a = 189 then 3 else if a = 192 then 3 else if a = 193 then 3 else if a = 198 then 3 else if a = 199 then 3 else if a = 197 then 4 else if a = 185 then 5 else if a = 186 then 5 else if a = 200 then 5 else 1) else 3) else 3) else 2) else 2
section ML
variable {s : St} {a : Int32} {k : Nat} {Post : Int32 → St → Prop}
theorem M_isJump : x_Model_isJump s a Post ↔ Post (vm_isJump a) s := by
  simp only [x_Model_isJump, x_Model_isJump_26, M_in, vm_isJump, wp_if, wp_ifn, post_ite (P := Post), nar0, nar1, true_and]
theorem M_ends : x_Model_ends s a Post ↔ Post (vm_ends a) s := by
  simp only [x_Model_ends, x_Model_ends_46, M_in, vm_ends, wp_if, wp_ifn, post_ite (P := Post), nar0, nar1, true_and]
theorem M_plain : x_Model_plain s a Post ↔ Post (vm_plain a) s := by
  simp only [x_Model_plain, x_Model_plain_170, M_in, vm_plain, wp_if, wp_ifn, post_ite (P := Post)]
theorem km_isJump : ∀ k, k < 256 → vm_isJump (nI k) = bI (kJ k) := all_of (by decide +kernel)
theorem km_ends : ∀ k, k < 256 → vm_ends (nI k) = bI (kEnd k) := all_of (by decide +kernel)
theorem km_plain : ∀ k, k < 256 → vm_plain (nI k) = nI (kPl k) := all_of (by decide +kernel)
theorem MK_isTable (hk : k < 256) (h : Post (bI (kSw k)) s) : x_Model_isTable s (nI k) Post := M_isTable.mpr (by rw [km_isTable k hk]; exact h)
theorem MK_isJump (hk : k < 256) (h : Post (bI (kJ k)) s) : x_Model_isJump s (nI k) Post := M_isJump.mpr (by rw [km_isJump k hk]; exact h)
theorem MK_ends (hk : k < 256) (h : Post (bI (kEnd k)) s) : x_Model_ends s (nI k) Post := M_ends.mpr (by rw [km_ends k hk]; exact h)
theorem MK_plain (hk : k < 256) (h : Post (nI (kPl k)) s) : x_Model_plain s (nI k) Post := M_plain.mpr (by rw [km_plain k hk]; exact h)
theorem MK_in {l u : Nat} (hk : k < 2 ^ 31) (hl : l < 2 ^ 31) (hu : u < 2 ^ 31) (h : Post (bI (decide (l ≤ k) && decide (k ≤ u))) s) : x_Model_in s (nI k) (nI l) (nI u) Post := M_in.mpr (by rw [km_in hk hl hu]; exact h)
end ML
/-- the reference's old code -/
def CO (t : St) (n : Nat) (o : Nat → Nat) : Prop := n ≤ 200 ∧ t 19 5 = nI n ∧ (∀ j, j < n → t 9 j = nI (o j)) ∧ (∀ j, n ≤ j → o j = 0) ∧ ∀ j, o j < 256
theorem CO.keep {s t : St} {n : Nat} {o : Nat → Nat} (h : CO s n o) (h0 : t 9 = s 9) (h1 : t 19 5 = s 19 5) : CO t n o := by
  obtain ⟨a, b, c, d⟩ := h
  exact ⟨a, by rw [h1]; exact b, fun j hj => by rw [h0]; exact c j hj, d⟩
section MW
variable {t : St} {n : Nat} {o : Nat → Nat} {Post : Int32 → St → Prop} {p : Nat}
theorem M_s4 (h : CO t n o) (hp : p + 4 ≤ n) (k : Post (S4 o p) t) : x_Model_s4 t (nI p) Post := by
  have hn := h.1
  unfold x_Model_s4
  rw [show nI p + 1 = nI (p + 1) from nI_add p 1, show nI p + 2 = nI (p + 2) from nI_add p 2, show nI p + 3 = nI (p + 3) from nI_add p 3, nI_clamp (by omega), nI_clamp (by omega), nI_clamp (by omega), nI_clamp (by omega), h.2.2.1 p (by omega), h.2.2.1 (p + 1) (by omega), h.2.2.1 (p + 2) (by omega), h.2.2.1 (p + 3) (by omega)]
  exact ⟨vp_in_nI (by omega) (by omega), vp_in_nI (by omega) (by omega), vp_in_nI (by omega) (by omega), vp_in_nI (by omega) (by omega), k⟩
theorem rem4 {p : Nat} (h : p < 2 ^ 31) : nI p - nI p / 4 * 4 = nI (p % 4) := pk_rem (d := 4) h (by omega) (by omega)
theorem sub4 {p : Nat} (h : p < 2 ^ 31) : (4 : Int32) - (nI p - nI p / 4 * 4) = nI (4 - p % 4) := by
  rw [rem4 h]
  exact pk_sub (a := 4) (by omega)
theorem M_len244 {L : Nat} (h : CO t n o) (hp : p ≤ 200) (hL : L ≤ 200) (k : Post (nI (if p + L ≤ n then L else 0)) t) : x_Model_length_244 Post t (nI p) (nI L) := by
  have hn := h.1
  unfold x_Model_length_244
  rw [nI_add, h.2.1]
  refine wple (p + L) n rfl rfl (by omega) (by omega) (fun e => by rw [if_pos e] at k; exact k) (fun e => by rw [if_neg e] at k; exact k)
/-- the length, once the switch's head stands -/
theorem M_len138 {b : Nat} (h : CO t n o) (hp : p < n) (hb : b = if o p = 170 then 12 else 8) (hk : kSw (o p) = true) (k : Post (nI (ln n o p)) t) : x_Model_length_138 Post t (nI p) (nI (o p)) (nI b) (nI (4 - p % 4)) := by
  have hn := h.1
  have ho := h.2.2.2.2 p
  have hw : wf p = p + (4 - p % 4) := by unfold wf; omega
  have hR : lnR o p = lnS o p := by
    unfold lnR
    rcases kSw_or hk with e | e
    · rw [e]; rfl
    · rw [e]; rfl
  have hS0 : lnS o p = 0 ∨ 4 - p % 4 + b ≤ lnS o p := by
    unfold lnS
    by_cases c : swm o p < swl o p ∨ 20 < swm o p
    · rw [if_pos c]; exact Or.inl rfl
    · rw [if_neg c]
      right
      unfold swb
      by_cases e : o p = 170
      · rw [if_pos e] at hb ⊢
        omega
      · rw [if_neg e] at hb ⊢
        omega
  have hb12 : b ≤ 12 := by
    by_cases e : o p = 170
    · rw [if_pos e] at hb; omega
    · rw [if_neg e] at hb; omega
  unfold x_Model_length_138
  rintro v hv
  rw [nI_add] at hv
  subst hv
  rw [nI_add, h.2.1]
  refine wple (p + (4 - p % 4 + b)) n rfl rfl (by omega) (by omega) (fun e => ?_) (fun e => ?_)
  · have hlnS : ln n o p = if p + lnS o p ≤ n then lnS o p else 0 := by
      unfold ln
      rw [hR]
    -- the end: m entries, each of y octets
    have tail : ∀ (E : Int64) (lo : Int32) (y : Nat), E.toInt = swm o p → lo.toInt64.toInt = swl o p → (y = if o p = 170 then 4 else 8) → (∀ m : Nat, m ≤ 20 → x_Model_length_244 Post t (nI p) (nI (4 - p % 4 + b) + nI y * nI m) → True) → x_Model_length_207 Post t (nI p) (nI (o p)) (nI (4 - p % 4 + b)) E lo E := by
      intro E lo y hE hlo hy _
      unfold x_Model_length_207
      rw [lg_cmp_lt, lg_cmp_le, Int64.lt_iff_toInt_lt, Int64.le_iff_toInt_le, hE, hlo]
      refine ⟨fun q => ?_, fun q => ⟨fun q2 => ?_, fun q2 => ?_⟩⟩
      · rw [hlnS, show lnS o p = 0 from if_pos (Or.inl q)] at k
        rw [show (if p + 0 ≤ n then 0 else 0) = 0 by split <;> rfl] at k
        exact k
      · have q2' : swm o p ≤ 20 := q2
        have hl0 : 0 ≤ swl o p := by unfold swl; split <;> omega
        have hS : lnS o p = 4 - p % 4 + swb o p := if_neg (by omega)
        have go : ∀ y', y' = y → x_Model_length_238 Post t (nI p) E (nI y') (nI (4 - p % 4 + b)) := by
          intro y' hy'
          subst hy'
          unfold x_Model_length_238
          rintro v hv
          rw [i64_small hE (by omega) q2', pk_mul, nI_add] at hv
          subst hv
          have hsum : 4 - p % 4 + b + y' * (swm o p).toNat = lnS o p := by
            rw [hS]
            unfold swb
            by_cases c : o p = 170
            · rw [if_pos c] at hb hy ⊢
              rw [hb, hy]
              omega
            · rw [if_neg c] at hb hy ⊢
              rw [hb, hy]
              omega
          rw [hsum]
          rw [hlnS] at k
          exact M_len244 h (by omega) (by have := lnS_le o p; omega) k
        refine wpeqn (o p) 170 rfl rfl (by omega) (by omega) (fun c => go 8 ?_) (fun c => go 4 ?_)
        · rw [hy, if_neg c]
        · rw [hy, if_pos c]
      · have q2' : ¬ swm o p ≤ 20 := q2
        rw [hlnS, show lnS o p = 0 from if_pos (Or.inr (by omega))] at k
        rw [show (if p + 0 ≤ n then 0 else 0) = 0 by split <;> rfl] at k
        exact k
    rw [show nI (p + (4 - p % 4 + b)) - (4 : Int32) = nI (p + (4 - p % 4 + b) - 4) from pk_sub (b := 4) (by
      by_cases c : o p = 170
      · rw [if_pos c] at hb; omega
      · rw [if_neg c] at hb; omega)]
    refine M_s4 h (by omega) ?_
    rintro v rfl
    refine wpeqn (o p) 170 rfl rfl (by omega) (by omega) (fun c => ?_) (fun c => ?_)
    · rw [if_neg c] at hb
      rw [show p + (4 - p % 4 + b) - 4 = wf p + 4 by omega]
      unfold x_Model_length_193
      refine ⟨fun _ => tail _ 0 8 (sw_e2 o p c) ?_ (by rw [if_neg c]) (fun _ _ _ => trivial), fun z => absurd z (fun z2 => c (nI_inj (b := 170) (by omega) (by omega) z2))⟩
      unfold swl
      rw [if_neg c]
      rfl
    · rw [if_pos c] at hb
      rw [show nI (p + (4 - p % 4 + b)) - (8 : Int32) = nI (p + (4 - p % 4 + b) - 8) from pk_sub (b := 8) (by omega)]
      refine M_s4 h (by omega) ?_
      rintro v rfl
      rw [show p + (4 - p % 4 + b) - 4 = wf p + 8 by omega, show p + (4 - p % 4 + b) - 8 = wf p + 4 by omega]
      unfold x_Model_length_193
      refine ⟨fun z => absurd (by rw [c]; rfl) z, fun _ => tail _ 1 4 (sw_e1 o p c) ?_ (by rw [if_pos c]) (fun _ _ _ => trivial)⟩
      unfold swl
      rw [if_pos c]
      rfl
  · have : ln n o p = 0 := by
      unfold ln
      rw [hR]
      rcases hS0 with z | z
      · rw [z]; split <;> rfl
      · rw [if_neg (by omega)]
    rw [this] at k
    exact k
theorem M_length (h : CO t n o) (hp : p < n) (k : Post (nI (ln n o p)) t) : x_Model_length t (nI p) Post := by
  have hn := h.1
  have ho := h.2.2.2.2
  have hop := ho p
  unfold x_Model_length
  refine ⟨vp_in_nI (by omega) (by omega), ?_⟩
  intro v hv
  rw [nI_clamp (by omega), h.2.2.1 p hp] at hv
  subst hv
  refine MK_plain hop ?_
  have bad : kEx (o p) = false → Post 0 t := fun e => by
    have hr : lnR o p = 0 := if_neg (by rw [e]; decide)
    have : ln n o p = 0 := by
      unfold ln
      rw [hr]
      split <;> rfl
    rw [this] at k
    exact k
  refine wplt 200 (o p) rfl rfl (by omega) (by omega) (fun e => bad (by simp [kEx]; omega)) (fun e => wpeq (o p) 168 rfl rfl (by omega) (by omega) (fun e1 => bad (by simp [kEx, e1])) (fun e1 => wpeqn (o p) 169 rfl rfl (by omega) (by omega) (fun e2' => ?_) (fun e2' => bad (by simp [kEx, e2']))))
  have hex : kEx (o p) = true := by simp [kEx, e1, e2']; omega
  refine wpeqn (o p) 196 rfl rfl (by omega) (by omega) (fun e3 => ?_) (fun e3 => ?_)
  · refine MK_isTable hop (wpb (fun e4' => ?_) (fun e4' => ?_))
    · refine M_len244 h (by omega) (by have := kPl_le (o p); omega) ?_
      have hr : lnR o p = kPl (o p) := by
        unfold lnR
        rw [if_pos hex, if_neg e3, if_neg (by rw [e4']; decide)]
      have : ln n o p = if p + kPl (o p) ≤ n then kPl (o p) else 0 := by
        unfold ln
        rw [hr]
      rw [this] at k
      exact k
    · rw [sub4 (by omega)]
      refine wpeqn (o p) 170 rfl rfl (by omega) (by omega) (fun e5 => M_len138 (b := 8) h hp (by rw [if_neg e5]) e4' k) (fun e5 => M_len138 (b := 12) h hp (by rw [if_pos e5]) e4' k)
  · -- 196
    have hW : ln n o p = if p + lnW (o (p + 1)) ≤ n then lnW (o (p + 1)) else 0 := by
      unfold ln lnR
      rw [if_pos hex, if_pos e3]
    rw [hW] at k
    have key : ∀ q, q < 256 → q = o (p + 1) → x_Model_length_64 Post t (nI p) (nI q) := by
      intro q hq hqe
      subst hqe
      have fin : ∀ L, L ≤ 6 → L = lnW (o (p + 1)) → x_Model_length_108 Post t (nI p) (nI L) := by
        intro L hL6 hL
        unfold x_Model_length_108
        rw [← hL] at k
        exact M_len244 h (by omega) (by omega) k
      unfold x_Model_length_64
      refine MK_in (l := 21) (u := 25) (by omega) (by omega) (by omega) (wpbn (fun a1 => ?_) (fun a1 => MK_in (l := 54) (u := 58) (by omega) (by omega) (by omega) (wpb (fun a2 => wpeqn (o (p + 1)) 132 rfl rfl (by omega) (by omega) (fun a3 => fin 0 (by omega) ?_) (fun a3 => fin 6 (by omega) ?_)) (fun a2 => ?_))))
      · refine fin 4 (by omega) ?_
        simp only [Bool.and_eq_true, decide_eq_true_eq] at a1
        unfold lnW
        rw [if_neg (by omega), if_pos (by simp [kLoc]; omega)]
      · simp only [Bool.and_eq_false_iff, decide_eq_false_iff_not] at a1 a2
        unfold lnW
        rw [if_neg a3, if_neg (by simp [kLoc]; omega)]
      · unfold lnW
        rw [if_pos a3]
      · refine fin 4 (by omega) ?_
        simp only [Bool.and_eq_true, decide_eq_true_eq] at a2
        unfold lnW
        rw [if_neg (by omega), if_pos (by simp [kLoc]; omega)]
    rw [show nI p + 1 = nI (p + 1) from nI_1 p, h.2.1]
    refine wple n (p + 1) rfl rfl (by omega) (by omega) (fun e5 => key 0 (by omega) (h.2.2.2.1 (p + 1) e5).symm) (fun e5 => ⟨vp_in_nI (by omega) (by omega), ?_⟩)
    rw [nI_clamp (by omega), h.2.2.1 (p + 1) (by omega)]
    exact key _ (ho _) rfl
end MW
