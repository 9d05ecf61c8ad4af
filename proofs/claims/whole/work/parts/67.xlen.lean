/-! PURE. Opcodes by number; lengths, in the class. -/
section XK
variable {s : St} {k : Nat} {Post : Int32 → St → Prop} {A B : Prop} {b : Bool}
theorem wpb (h1 : b = false → A) (h2 : b = true → B) : (bI b = 0 → A) ∧ (¬ bI b = 0 → B) := by
  cases b
  · exact ⟨fun _ => h1 rfl, fun q => absurd rfl q⟩
  · exact ⟨fun q => absurd q (by decide), fun _ => h2 rfl⟩
theorem wpbn (h2 : b = true → B) (h1 : b = false → A) : (¬ bI b = 0 → B) ∧ (bI b = 0 → A) := by
  cases b
  · exact ⟨fun q => absurd rfl q, fun _ => h1 rfl⟩
  · exact ⟨fun _ => h2 rfl, fun q => absurd q (by decide)⟩
/-- a compare of two small numbers -/
theorem wpeq {x y : Int32} (a c : Nat) (hx : x = nI a) (hy : y = nI c) (ha : a < 2 ^ 31) (hc : c < 2 ^ 31) (h1 : a = c → A) (h2 : ¬ a = c → B) : (x = y → A) ∧ (¬ x = y → B) := by
  subst hx hy
  exact ⟨fun q => h1 ((nI_eq ha hc).mp q), fun q => h2 (fun z => q ((nI_eq ha hc).mpr z))⟩
theorem wpeqn {x y : Int32} (a c : Nat) (hx : x = nI a) (hy : y = nI c) (ha : a < 2 ^ 31) (hc : c < 2 ^ 31) (h2 : ¬ a = c → B) (h1 : a = c → A) : (¬ x = y → B) ∧ (x = y → A) := by
  subst hx hy
  exact ⟨fun q => h2 (fun z => q ((nI_eq ha hc).mpr z)), fun q => h1 ((nI_eq ha hc).mp q)⟩
theorem wple {x y : Int32} (a c : Nat) (hx : x = nI a) (hy : y = nI c) (ha : a < 2 ^ 31) (hc : c < 2 ^ 31) (h1 : a ≤ c → A) (h2 : ¬ a ≤ c → B) : (x ≤ y → A) ∧ (¬ x ≤ y → B) := by
  subst hx hy
  exact ⟨fun q => h1 ((nI_leI ha hc).mp q), fun q => h2 (fun z => q ((nI_leI ha hc).mpr z))⟩
theorem wplen {x y : Int32} (a c : Nat) (hx : x = nI a) (hy : y = nI c) (ha : a < 2 ^ 31) (hc : c < 2 ^ 31) (h2 : ¬ a ≤ c → B) (h1 : a ≤ c → A) : (¬ x ≤ y → B) ∧ (x ≤ y → A) := by
  subst hx hy
  exact ⟨fun q => h2 (fun z => q ((nI_leI ha hc).mpr z)), fun q => h1 ((nI_leI ha hc).mp q)⟩
theorem wplt {x y : Int32} (a c : Nat) (hx : x = nI a) (hy : y = nI c) (ha : a < 2 ^ 31) (hc : c < 2 ^ 31) (h1 : a < c → A) (h2 : ¬ a < c → B) : (x < y → A) ∧ (¬ x < y → B) := by
  subst hx hy
  exact ⟨fun q => h1 ((nI_ltI ha hc).mp q), fun q => h2 (fun z => q ((nI_ltI ha hc).mpr z))⟩
theorem wpltn {x y : Int32} (a c : Nat) (hx : x = nI a) (hy : y = nI c) (ha : a < 2 ^ 31) (hc : c < 2 ^ 31) (h2 : ¬ a < c → B) (h1 : a < c → A) : (¬ x < y → B) ∧ (x < y → A) := by
  subst hx hy
  exact ⟨fun q => h2 (fun z => q ((nI_ltI ha hc).mpr z)), fun q => h1 ((nI_ltI ha hc).mp q)⟩
theorem XK_exists (hk : k < 256) (h : Post (bI (kEx k)) s) : x_Opcodes_exists s (nI k) Post := X_exists.mpr (by rw [kx_exists k hk]; exact h)
theorem XK_isSwitch (hk : k < 256) (h : Post (bI (kSw k)) s) : x_Opcodes_isSwitch s (nI k) Post := X_isSwitch.mpr (by rw [kx_isSwitch k hk]; exact h)
theorem XK_isLocal (hk : k < 256) (h : Post (bI (kLoc k)) s) : x_Opcodes_isLocal s (nI k) Post := X_isLocal.mpr (by rw [kx_isLocal k hk]; exact h)
theorem XK_isShortJump (hk : k < 256) (h : Post (bI (kSJ k)) s) : x_Opcodes_isShortJump s (nI k) Post := X_isShortJump.mpr (by rw [kx_isShortJump k hk]; exact h)
theorem XK_isReturn (hk : k < 256) (h : Post (bI (kRet k)) s) : x_Opcodes_isReturn s (nI k) Post := X_isReturn.mpr (by rw [kx_isReturn k hk]; exact h)
theorem XK_makesArray (hk : k < 256) (h : Post (bI (kArr k)) s) : x_Opcodes_makesArray s (nI k) Post := X_makesArray.mpr (by rw [kx_makesArray k hk]; exact h)
theorem XK_endsBlock (hk : k < 256) (h : Post (bI (kEnd k)) s) : x_Opcodes_endsBlock s (nI k) Post := by
  have h1 : kEnd k = true → x_Opcodes_endsBlock_35 Post s := fun e => by
    rw [e] at h
    exact ⟨rfl, h⟩
  unfold x_Opcodes_endsBlock
  refine XK_isShortJump hk (wpbn (fun e => h1 (by simp [kEnd, e])) (fun e1 => XK_isSwitch hk (wpbn (fun e => h1 (by simp [kEnd, e])) (fun e2 => XK_isReturn hk (wpbn (fun e => h1 (by simp [kEnd, e])) (fun e3 => ?_))))))
  refine wpeq k 191 rfl rfl (by omega) (by omega) (fun e => h1 (by simp [kEnd, e])) (fun e4 => ?_)
  refine wpeqn k 200 rfl rfl (by omega) (by omega) (fun e5 => ?_) (fun e => h1 (by simp [kEnd, e]))
  rw [show kEnd k = false by simp [kEnd, e1, e2, e3, e4, e5]] at h
  exact ⟨rfl, h⟩
theorem kPl_rest : ∀ k, k < 256 → (k ∉ [16, 17, 18, 19, 20, 132, 185, 186, 187, 188, 189, 192, 193, 197, 200] → kPl k - 1 = if kLoc k = true then 1 else if kSJ k = true then 2 else if k < 178 then 0 else if 184 < k then 0 else 2) := all_of (P := fun k => k ∉ [16, 17, 18, 19, 20, 132, 185, 186, 187, 188, 189, 192, 193, 197, 200] → kPl k - 1 = if kLoc k = true then 1 else if kSJ k = true then 2 else if k < 178 then 0 else if 184 < k then 0 else 2) (by decide +kernel)
theorem XK_operands (hk : k < 256) (h : Post (nI (kPl k - 1)) s) : x_Opcodes_operands s (nI k) Post := by
  unfold x_Opcodes_operands
  refine ⟨fun q => by have e := nI_inj (b := 16) (by omega) (by omega) q; subst e; exact h, fun q => by have e := nI_inj (b := 17) (by omega) (by omega) q; subst e; exact h, fun q => by have e := nI_inj (b := 18) (by omega) (by omega) q; subst e; exact h, fun q => by have e := nI_inj (b := 19) (by omega) (by omega) q; subst e; exact h, fun q => by have e := nI_inj (b := 20) (by omega) (by omega) q; subst e; exact h, fun q => by have e := nI_inj (b := 132) (by omega) (by omega) q; subst e; exact h, fun q => by have e := nI_inj (b := 185) (by omega) (by omega) q; subst e; exact h, fun q => by have e := nI_inj (b := 186) (by omega) (by omega) q; subst e; exact h, fun q => by have e := nI_inj (b := 187) (by omega) (by omega) q; subst e; exact h, fun q => by have e := nI_inj (b := 188) (by omega) (by omega) q; subst e; exact h, fun q => by have e := nI_inj (b := 189) (by omega) (by omega) q; subst e; exact h, fun q => by have e := nI_inj (b := 192) (by omega) (by omega) q; subst e; exact h, fun q => by have e := nI_inj (b := 193) (by omega) (by omega) q; subst e; exact h, fun q => by have e := nI_inj (b := 197) (by omega) (by omega) q; subst e; exact h, fun q => by have e := nI_inj (b := 200) (by omega) (by omega) q; subst e; exact h, ?_⟩
  intro q16 q17 q18 q19 q20 q132 q185 q186 q187 q188 q189 q192 q193 q197 q200
  have hn : k ∉ [16, 17, 18, 19, 20, 132, 185, 186, 187, 188, 189, 192, 193, 197, 200] := by
    intro hm
    simp only [List.mem_cons, List.not_mem_nil, or_false] at hm
    rcases hm with e | e | e | e | e | e | e | e | e | e | e | e | e | e | e
    · exact q16 (by rw [e]; rfl)
    · exact q17 (by rw [e]; rfl)
    · exact q18 (by rw [e]; rfl)
    · exact q19 (by rw [e]; rfl)
    · exact q20 (by rw [e]; rfl)
    · exact q132 (by rw [e]; rfl)
    · exact q185 (by rw [e]; rfl)
    · exact q186 (by rw [e]; rfl)
    · exact q187 (by rw [e]; rfl)
    · exact q188 (by rw [e]; rfl)
    · exact q189 (by rw [e]; rfl)
    · exact q192 (by rw [e]; rfl)
    · exact q193 (by rw [e]; rfl)
    · exact q197 (by rw [e]; rfl)
    · exact q200 (by rw [e]; rfl)
  rw [kPl_rest k hk hn] at h
  refine XK_isLocal hk (wpb (fun e1 => ?_) (fun e1 => by rw [if_pos e1] at h; exact h))
  rw [if_neg (by rw [e1]; decide)] at h
  have h2 : kSJ k = true → x_Opcodes_operands_170 Post s := fun e => by
    rw [if_pos e] at h
    exact h
  refine XK_isShortJump hk (wpbn h2 (fun e2 => ?_))
  rw [if_neg (by rw [e2]; decide)] at h
  refine wplt k 178 rfl rfl (by omega) (by omega) (fun e => by rw [if_pos e] at h; exact h) (fun e3 => ?_)
  rw [if_neg e3] at h
  refine wplt 184 k rfl rfl (by omega) (by omega) (fun e => by rw [if_pos e] at h; exact h) (fun e4 => ?_)
  rw [if_neg e4] at h
  exact h
theorem i64_i32 (x : Int32) : (x.toInt64).toInt = x.toInt := by simp
theorem swm_lo (x : Int32) : -(2 ^ 31) ≤ x.toInt ∧ x.toInt < 2 ^ 31 := ⟨Int32.le_toInt x, Int32.toInt_lt x⟩
theorem i64_small {e : Int64} {m : Int} (he : e.toInt = m) (h0 : 0 ≤ m) (h1 : m ≤ 20) : e.toInt32 = nI m.toNat := by
  have : e = lN m.toNat := by
    apply Int64.toInt_inj.mp
    rw [he, lN_toInt (by omega)]
    omega
  rw [this, lN_i]
/-- the entries of a switch, in long -/
theorem sw_e1 (o : Nat → Nat) (p : Nat) (h : o p = 170) : ((S4 o (wf p + 8)).toInt64 - (S4 o (wf p + 4)).toInt64 + 1).toInt = swm o p := by
  have a := swm_lo (S4 o (wf p + 8))
  have b := swm_lo (S4 o (wf p + 4))
  unfold swm
  rw [if_pos h, Int64.toInt_add, Int64.toInt_sub, i64_i32, i64_i32]
  have e1 : Int.bmod ((S4 o (wf p + 8)).toInt - (S4 o (wf p + 4)).toInt) (2 ^ 64) = (S4 o (wf p + 8)).toInt - (S4 o (wf p + 4)).toInt := Int.bmod_eq_of_le (by omega) (by omega)
  rw [e1, show Int64.toInt 1 = 1 from rfl]
  exact Int.bmod_eq_of_le (by omega) (by omega)
theorem sw_e2 (o : Nat → Nat) (p : Nat) (h : ¬ o p = 170) : ((S4 o (wf p + 4)).toInt64).toInt = swm o p := by
  unfold swm
  rw [if_neg h, i64_i32]
theorem sw_sub (p : Nat) : nI (wf p) - nI p = nI (4 - p % 4) := by
  rw [pk_sub (by have := wf_gt p; omega)]
  congr 1
  unfold wf
  omega
variable {n : Nat} {o : Nat → Nat} {p : Nat}
theorem X_switchLength (h : CX s n o) (hp : p < 2 ^ 28) (k : Post (nI (lnS o p)) s) : x_Source_switchLength s (nI p) (nI (o p)) Post := by
  have ho := h.2.2.2.2 p
  have hw := wf_gt p
  unfold x_Source_switchLength
  refine X_wordsFrom (by omega) ?_
  refine wpeqn (o p) 170 rfl rfl (by omega) (by omega) (fun e => ?_) (fun e => ?_)
  · unfold x_Source_switchLength_17
    refine ⟨fun _ => ?_, fun q => absurd rfl q⟩
    rw [show nI (wf p) + 4 = nI (wf p + 4) from nI_add _ 4]
    refine X_s4 h (by omega) ?_
    unfold x_Source_switchLength_55
    refine ⟨fun _ => ?_, fun q => absurd rfl q⟩
    have hm := sw_e2 o p e
    generalize (S4 o (wf p + 4)).toInt64 = E at hm ⊢
    have hl : swl o p = 0 := if_neg e
    unfold lnS at k
    rw [hl] at k
    unfold x_Source_switchLength_69
    rw [lg_cmp_lt, lg_cmp_le, Int64.lt_iff_toInt_lt, Int64.le_iff_toInt_le, hm]
    refine ⟨fun q => ?_, fun q => ⟨fun q2 => ⟨fun _ => ?_, fun z => absurd rfl z⟩, fun q2 => ?_⟩⟩
    · rw [if_pos (Or.inl (show swm o p < 0 from q))] at k
      exact k
    · have q' : ¬ swm o p < 0 := q
      have q2' : swm o p ≤ 20 := q2
      rw [if_neg (by omega)] at k
      unfold x_Source_switchLength_110
      rw [i64_small hm (by omega) q2', sw_sub, show (8 : Int32) * nI (swm o p).toNat = nI (8 * (swm o p).toNat) from pk_mul 8 _, show (8 : Int32) + nI (8 * (swm o p).toNat) = nI (8 + 8 * (swm o p).toNat) from nI_add 8 _, nI_add]
      unfold swb at k
      rw [if_neg e] at k
      exact k
    · have q2' : ¬ swm o p ≤ 20 := q2
      rw [if_pos (Or.inr (by omega))] at k
      exact k
  · unfold x_Source_switchLength_17
    refine ⟨fun q => absurd q (by decide), fun _ => ?_⟩
    rw [show nI (wf p) + 4 = nI (wf p + 4) from nI_add _ 4, show nI (wf p) + 8 = nI (wf p + 8) from nI_add _ 8]
    refine X_s4 h (by omega) (X_s4 h (by omega) ?_)
    unfold x_Source_switchLength_55
    refine ⟨fun q => absurd q (by decide), fun _ => ?_⟩
    have hm := sw_e1 o p e
    generalize (S4 o (wf p + 8)).toInt64 - (S4 o (wf p + 4)).toInt64 + 1 = E at hm ⊢
    have hl : swl o p = 1 := if_pos e
    unfold lnS at k
    rw [hl] at k
    unfold x_Source_switchLength_69
    rw [lg_cmp_lt, lg_cmp_le, Int64.lt_iff_toInt_lt, Int64.le_iff_toInt_le, hm]
    refine ⟨fun q => ?_, fun q => ⟨fun q2 => ⟨fun z => absurd z (by decide), fun _ => ?_⟩, fun q2 => ?_⟩⟩
    · rw [if_pos (Or.inl (show swm o p < 1 from q))] at k
      exact k
    · have q' : ¬ swm o p < 1 := q
      have q2' : swm o p ≤ 20 := q2
      rw [if_neg (by omega)] at k
      unfold x_Source_switchLength_110
      rw [i64_small hm (by omega) q2', sw_sub, show (4 : Int32) * nI (swm o p).toNat = nI (4 * (swm o p).toNat) from pk_mul 4 _, show (12 : Int32) + nI (4 * (swm o p).toNat) = nI (12 + 4 * (swm o p).toNat) from nI_add 12 _, nI_add]
      unfold swb at k
      rw [if_pos e] at k
      exact k
    · have q2' : ¬ swm o p ≤ 20 := q2
      rw [if_pos (Or.inr (by omega))] at k
      exact k
theorem X_wideLength {q : Nat} (hq : q < 256) (k : Post (nI (lnW q)) s) : x_Source_wideLength s (nI q) Post := by
  unfold x_Source_wideLength
  unfold lnW at k
  refine wpeqn q 132 rfl rfl (by omega) (by omega) (fun e => ?_) (fun e => by rw [if_pos e] at k; exact k)
  rw [if_neg e] at k
  exact XK_isLocal hq (wpb (fun e1 => by rw [if_neg (by rw [e1]; decide)] at k; exact k) (fun e1 => by rw [if_pos e1] at k; exact k))
theorem X_lengthAt (h : CX s n o) (hp : p < 2 ^ 28) (k : Post (nI (ln n o p)) s) : x_Source_lengthAt s (nI p) Post := by
  have ho := h.2.2.2.2
  have key : x_Source_lengthAt_64 Post s (nI p) (nI (lnR o p)) := by
    have hl := lnR_le o p
    have hn := h.1
    unfold x_Source_lengthAt_64
    rw [h.2.1, nI_add]
    unfold ln at k
    refine wplt n (p + lnR o p) rfl rfl (by omega) (by omega) (fun e => by rw [if_neg (by omega)] at k; exact k) (fun e => by rw [if_pos (by omega)] at k; exact k)
  unfold x_Source_lengthAt
  refine X_u1 h (by omega) (XK_exists (ho p) (wpbn (fun e => ?_) (fun e => ?_)))
  · have hR : lnR o p = if o p = 196 then lnW (o (p + 1)) else if kSw (o p) = true then lnS o p else kPl (o p) := if_pos e
    rw [hR] at key
    refine wpeqn (o p) 196 rfl rfl (by have := ho p; omega) (by omega) (fun e1 => ?_) (fun e1 => ?_)
    · rw [if_neg e1] at key
      refine XK_isSwitch (ho p) (wpb (fun e2 => ?_) (fun e2 => ?_))
      · rw [if_neg (by rw [e2]; decide)] at key
        refine XK_operands (ho p) ?_
        intro v hv
        have hpl := kPl_le (o p)
        rw [show (1 : Int32) + nI (kPl (o p) - 1) = nI (1 + (kPl (o p) - 1)) from nI_add 1 _, show 1 + (kPl (o p) - 1) = kPl (o p) by omega] at hv
        rw [hv]
        exact key
      · rw [if_pos e2] at key
        exact X_switchLength h hp key
    · rw [if_pos e1] at key
      rw [show nI p + 1 = nI (p + 1) from nI_1 p]
      exact X_u1 h (by omega) (X_wideLength (ho _) key)
  · have hR : lnR o p = 0 := if_neg (by rw [e]; decide)
    rw [hR] at key
    exact key
end XK
