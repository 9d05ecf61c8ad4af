/-! PURE. The calls that change the input, in class and reference. -/
abbrev inR (a : Int32) (l u : Nat) : Prop := (l : Int) ≤ a.toInt ∧ a.toInt < (u : Int)
theorem inR_nI {a : Int32} {l u : Nat} (h : inR a l u) : ∃ k, l ≤ k ∧ k < u ∧ a = nI k := by
  have h1 := Int32.toInt_lt a
  refine ⟨a.toInt.toNat, by omega, by omega, ?_⟩
  apply Int32.toInt_inj.mp
  rw [nI_toInt (by omega)]
  omega
theorem nI_inR {k l u : Nat} (hk : k < 2 ^ 31) : inR (nI k) l u ↔ l ≤ k ∧ k < u := by
  unfold inR
  rw [nI_toInt hk]
  omega
section RNG
variable {a : Int32} {l u : Nat} {G B : Prop}
theorem wrA (hl : l < 2 ^ 31) (hu : u < 2 ^ 31) (good : inR a l u → G) (bad : ¬ inR a l u → B) : (a < nI l → B) ∧ (¬ a < nI l → (nI u ≤ a → B) ∧ (¬ nI u ≤ a → G)) := by
  rw [Int32.lt_iff_toInt_lt, Int32.le_iff_toInt_le, nI_toInt hl, nI_toInt hu]
  exact ⟨fun h => bad (fun z => by omega), fun h => ⟨fun h2 => bad (fun z => by omega), fun h2 => good ⟨by omega, by omega⟩⟩⟩
theorem wrB (hl : l < 2 ^ 31) (hu : u < 2 ^ 31) (good : inR a l (u + 1) → G) (bad : ¬ inR a l (u + 1) → B) : (a < nI l → B) ∧ (¬ a < nI l → (nI u < a → B) ∧ (¬ nI u < a → G)) := by
  rw [Int32.lt_iff_toInt_lt, Int32.lt_iff_toInt_lt, nI_toInt hl, nI_toInt hu]
  exact ⟨fun h => bad (fun z => by omega), fun h => ⟨fun h2 => bad (fun z => by omega), fun h2 => good ⟨by omega, by omega⟩⟩⟩
theorem wrC (hl : l < 2 ^ 31) (hu : u < 2 ^ 31) (good : inR a l u → G) (bad : ¬ inR a l u → B) : (a < nI l → B) ∧ (¬ a < nI l → (a < nI u → G) ∧ (¬ a < nI u → B)) := by
  rw [Int32.lt_iff_toInt_lt, Int32.lt_iff_toInt_lt, nI_toInt hl, nI_toInt hu]
  exact ⟨fun h => bad (fun z => by omega), fun h => ⟨fun h2 => good ⟨by omega, by omega⟩, fun h2 => bad (fun z => by omega)⟩⟩
theorem wrD (hl : l < 2 ^ 31) (hu : u < 2 ^ 31) (good : inR a l (u + 1) → G) (bad : ¬ inR a l (u + 1) → B) : (a < nI l → B) ∧ (¬ a < nI l → (a ≤ nI u → G) ∧ (¬ a ≤ nI u → B)) := by
  rw [Int32.lt_iff_toInt_lt, Int32.le_iff_toInt_le, nI_toInt hl, nI_toInt hu]
  exact ⟨fun h => bad (fun z => by omega), fun h => ⟨fun h2 => good ⟨by omega, by omega⟩, fun h2 => bad (fun z => by omega)⟩⟩
variable {s : St} {P : Int32 → St → Prop}
theorem X_isOctet (k1 : inR a 0 256 → P 1 s) (k0 : ¬ inR a 0 256 → P 0 s) : x_Desk_isOctet s a P := by
  unfold x_Desk_isOctet
  exact wrB (l := 0) (u := 255) (by omega) (by omega) (fun c => ⟨rfl, k1 c⟩) (fun c => ⟨rfl, k0 c⟩)
theorem X_isPlace (k1 : inR a 0 201 → P 1 s) (k0 : ¬ inR a 0 201 → P 0 s) : x_Desk_isPlace s a P := by
  unfold x_Desk_isPlace
  exact wrB (l := 0) (u := 200) (by omega) (by omega) (fun c => ⟨rfl, k1 c⟩) (fun c => ⟨rfl, k0 c⟩)
theorem M_rB (hl : l < 2 ^ 31) (hu : u < 2 ^ 31) (k1 : inR a l (u + 1) → P 1 s) (k0 : ¬ inR a l (u + 1) → P 0 s) : x_Model_in s a (nI l) (nI u) P := by
  unfold x_Model_in
  exact wrB hl hu (fun c => ⟨rfl, k1 c⟩) (fun c => ⟨rfl, k0 c⟩)
theorem M_rA (hu : u < 2 ^ 31) (k1 : inR a 0 u → P 1 s) (k0 : ¬ inR a 0 u → P 0 s) : x_Model_in s a 0 (nI u - 1) P := by
  rcases Nat.eq_zero_or_pos u with e | e
  · subst e
    unfold x_Model_in
    rw [show nI 0 - 1 = -1 by decide]
    refine ⟨fun _ => ⟨rfl, k0 (fun z => by omega)⟩, fun _ => ⟨fun _ => ⟨rfl, k0 (fun z => by omega)⟩, fun z => ?_⟩⟩
    rename_i y
    rw [Int32.lt_iff_toInt_lt] at y z
    rw [show (0 : Int32).toInt = 0 from rfl] at y
    rw [show (-1 : Int32).toInt = -1 from rfl] at z
    omega
  · rw [show nI u - (1 : Int32) = nI (u - 1) from pk_sub (b := 1) e]
    refine M_rB (l := 0) (u := u - 1) (by omega) (by omega) (fun c => ?_) (fun c => ?_)
    · rw [show u - 1 + 1 = u by omega] at c
      exact k1 c
    · rw [show u - 1 + 1 = u by omega] at c
      exact k0 c
end RNG
abbrev KI (s t : St) : Prop := Keep 15 [0, 1, 2, 3] [1, 2, 3, 4] s t
abbrev KJ (s t : St) : Prop := Keep 19 [0, 1, 2, 3, 4, 5, 6] [0, 1, 2, 3] s t
theorem wb1 {G B : Prop} (h : G) : (¬ (1 : Int32) = 0 → G) ∧ ((1 : Int32) = 0 → B) := ⟨fun _ => h, fun z => absurd z (by decide)⟩
theorem wb0 {G B : Prop} (h : B) : (¬ (0 : Int32) = 0 → G) ∧ ((0 : Int32) = 0 → B) := ⟨fun z => absurd rfl z, fun _ => h⟩
theorem wc1 {G B : Prop} (h : G) : ((1 : Int32) = 0 → B) ∧ (¬ (1 : Int32) = 0 → G) := ⟨fun z => absurd z (by decide), fun _ => h⟩
theorem wc0 {G B : Prop} (h : B) : ((0 : Int32) = 0 → B) ∧ (¬ (0 : Int32) = 0 → G) := ⟨fun _ => h, fun z => absurd rfl z⟩
theorem and255 (y : Int32) : ∃ k, k < 256 ∧ y &&& 255 = nI k := by
  refine ⟨(y &&& 255).toBitVec.toNat, ?_, ?_⟩
  · rw [Int32.toBitVec_and, BitVec.toNat_and]
    exact Nat.lt_of_le_of_lt Nat.and_le_right (by decide)
  · apply Int32.toBitVec_inj.mp
    show _ = BitVec.ofNat 32 _
    rw [BitVec.ofNat_toNat, BitVec.setWidth_eq]
/-- octet k of a word of eight -/
def ocw (v : Int64) (k : Nat) : Int64 := (v.toUInt64 >>> ((((56 : Int32) - ((8 : Int32) * nI k))).toInt64.toUInt64 &&& Int64.toUInt64 63)).toInt64
def oc (v : Int64) (k : Nat) : Nat := ((ocw v k).toInt32 &&& 255).toNatClampNeg
theorem oc_x (v : Int64) (k : Nat) : (ocw v k).toInt32 &&& 255 = nI (oc v k) ∧ oc v k < 256 := by
  obtain ⟨q, h1, h2⟩ := and255 (ocw v k).toInt32
  unfold oc
  rw [h2, nI_clamp (by omega)]
  exact ⟨rfl, h1⟩
theorem oc_m (v : Int64) (k : Nat) : (ocw v k &&& 255).toInt32 = nI (oc v k) := by
  rw [← (oc_x v k).1, Int64.toInt32_and]
  rfl
def xCode (x : In) (v : Int64) (m : Nat) : In := (jn x + m, fun j => if j < jn x then jo x j else if j < jn x + m then oc v (j - jn x) else 0, jh x, jd x, jc x, jk x, jb x, jr x)
def yCode (x : In) (v : Int64) (a : Int32) : In := if inR a 1 9 ∧ jn x + a.toNatClampNeg ≤ 200 then xCode x v a.toNatClampNeg else x
def rCode (x : In) (a : Int32) : Int32 := if inR a 1 9 then (if jn x + a.toNatClampNeg ≤ 200 then nI (jn x + a.toNatClampNeg) else -2) else -1
def yChange (x : In) (a b : Int32) : In := if inR a 0 (jn x) ∧ inR b 0 256 then (jn x, fun j => if j = a.toNatClampNeg then b.toNatClampNeg else jo x j, jh x, jd x, jc x, jk x, jb x, jr x) else x
def rChange (x : In) (a b : Int32) : Int32 := if inR a 0 (jn x) ∧ inR b 0 256 then nI (jo x a.toNatClampNeg) else -1
def yClear (x : In) : In := (0, fun _ => 0, 0, jd x, jc x, jk x, jb x, jr x)
abbrev hC (a b c d : Int32) : Prop := inR d 0 256 ∧ inR a 0 201 ∧ inR b 0 201 ∧ inR c 0 201
def yHandler (x : In) (a b c d : Int32) : In := if hC a b c d ∧ jh x < 4 then (jn x, jo x, jh x + 1, fun h q => if h = jh x then (if q = 0 then a else if q = 1 then b else if q = 2 then c else d).toNatClampNeg else jd x h q, jc x, jk x, jb x, jr x) else x
def rHandler (x : In) (a b c d : Int32) : Int32 := if hC a b c d then (if jh x < 4 then nI (jh x + 1) else -2) else -1
def yMark (x : In) (a : Int32) (b : Bool) : In := if inR a 1 256 then (jn x, jo x, jh x, jd x, jc x, fun c => if c = a.toNatClampNeg then b else jk x c, jb x, jr x) else x
def rMark (a : Int32) : Int32 := if inR a 1 256 then 1 else 0
def yCost (x : In) (a b : Int32) : In := if inR a 0 201 ∧ inR b 0 100 then (jn x, jo x, jh x, jd x, fun j => if j = a.toNatClampNeg then b.toNatClampNeg else jc x j, jk x, jb x, jr x) else x
def rCost (x : In) (a b : Int32) : Int32 := if inR a 0 201 ∧ inR b 0 100 then nI (jc x a.toNatClampNeg) else -1
def ySet (x : In) (a b : Int32) : In := if inR a 0 65531 ∧ inR b 4 32768 then (jn x, jo x, jh x, jd x, jc x, jk x, a.toNatClampNeg, b.toNatClampNeg) else x
def rSet (a b : Int32) : Int32 := if inR a 0 65531 ∧ inR b 4 32768 then 1 else 0
section XO
variable {s : St} {x : In} {P : Int32 → St → Prop} {a b c d : Int32}
theorem X_change (h : IX s x) (k : ∀ s', KI s s' → IX s' (yChange x a b) → P (rChange x a b) s') : x_Desk_change s a b P := by
  obtain ⟨⟨h1, h2, h3, h4, h5⟩, hr⟩ := h
  unfold yChange rChange at k
  have bad : ¬ (inR a 0 (jn x) ∧ inR b 0 256) → P (-1) s := fun c => by
    rw [if_neg c, if_neg c] at k
    exact k s Keep.rf ⟨⟨h1, h2, h3, h4, h5⟩, hr⟩
  unfold x_Desk_change
  rw [h2]
  refine wrA (l := 0) (u := jn x) (by omega) (by omega) (fun c1 => X_isOctet (fun c2 => wb1 ?_) (fun c2 => wb0 (bad (fun z => c2 z.2)))) (fun c1 => bad (fun z => c1 z.1))
  rw [if_pos ⟨c1, c2⟩, if_pos ⟨c1, c2⟩] at k
  obtain ⟨p, -, p2, rfl⟩ := inR_nI c1
  obtain ⟨q, -, q2, rfl⟩ := inR_nI c2
  rw [nI_clamp (by omega), nI_clamp (by omega)] at k
  refine ⟨vp_in_nI (by omega) (by omega), ?_⟩
  intro v hv
  rw [nI_clamp (by omega), h3 p p2] at hv
  subst hv
  refine ⟨vp_in_nI (by omega) (by omega), ?_⟩
  rintro s9 rfl
  rw [nI_clamp (by omega)]
  refine k _ (Keep.rf.arr (by decide) (by decide)) ⟨⟨h1, h2, fun j hj => ?_, fun j hj => ?_, fun j => ?_⟩, hr⟩
  · show _ = nI (if j = p then q else jo x j)
    by_cases e : j = p
    · rw [e, su_at, if_pos rfl]
    · rw [su_ne _ _ _ _ _ e, if_neg e]
      exact h3 j hj
  · show (if j = p then q else jo x j) = 0
    have hj' : jn x ≤ j := hj
    rw [if_neg (by omega)]
    exact h4 j hj
  · show (if j = p then q else jo x j) < 256
    split
    · omega
    · exact h5 j
theorem X_clear (h : IX s x) (k : ∀ s', KI s s' → IX s' (yClear x) → P (nI (jn x)) s') : x_Desk_clear s P := by
  obtain ⟨⟨h1, h2, h3, h4, h5⟩, ⟨g1, g2, g3⟩, hr⟩ := h
  unfold x_Desk_clear
  intro v hv
  rw [h2] at hv
  subst hv
  rintro s2 rfl s3 rfl
  exact k _ ((Keep.rf.scal (by decide)).scal (by decide)) ⟨⟨by show 0 ≤ 200; omega, rfl, fun j hj => absurd hj (Nat.not_lt_zero j), fun _ _ => rfl, fun _ => by show 0 < 256; omega⟩, ⟨by show 0 ≤ 4; omega, rfl, fun q hq => absurd hq (Nat.not_lt_zero q)⟩, hr⟩
theorem X_mark {m : Bool} (h : IX s x) (k : ∀ s', KI s s' → IX s' (yMark x a m) → P (rMark a) s') : x_Desk_mark s a (bI m) P := by
  have h' := h
  obtain ⟨h1, h2, h3, h4, hr⟩ := h
  unfold yMark rMark at k
  have bad : ¬ inR a 1 256 → P 0 s := fun c => by
    rw [if_neg c, if_neg c] at k
    exact k s Keep.rf h'
  unfold x_Desk_mark
  refine wrD (l := 1) (u := 255) (by omega) (by omega) (fun c1 => ?_) (fun c1 => ⟨rfl, bad c1⟩)
  rw [if_pos c1, if_pos c1] at k
  obtain ⟨p, -, p2, rfl⟩ := inR_nI c1
  rw [nI_clamp (by omega)] at k
  refine ⟨vp_in_nI (by omega) (by omega), ?_⟩
  rintro s9 rfl
  rw [nI_clamp (by omega), bI_nar]
  refine ⟨rfl, k _ (Keep.rf.arr (by decide) (by decide)) ⟨h1, h2, h3, fun j hj => ?_, hr⟩⟩
  show _ = bI (if j = p then m else jk x j)
  by_cases e : j = p
  · rw [e, su_at, if_pos rfl]
  · rw [su_ne _ _ _ _ _ e, if_neg e]
    exact h4 j hj
theorem X_cost (h : IX s x) (k : ∀ s', KI s s' → IX s' (yCost x a b) → P (rCost x a b) s') : x_Desk_cost s a b P := by
  have h' := h
  obtain ⟨h1, h2, ⟨h3, h3'⟩, h4, h5, h6, h7⟩ := h
  unfold yCost rCost at k
  have bad : ¬ (inR a 0 201 ∧ inR b 0 100) → P (-1) s := fun c => by
    rw [if_neg c, if_neg c] at k
    exact k s Keep.rf h'
  unfold x_Desk_cost
  refine wrB (l := 0) (u := 200) (by omega) (by omega) (fun c1 => wrD (l := 0) (u := 99) (by omega) (by omega) (fun c2 => ?_) (fun c2 => bad (fun z => c2 z.2))) (fun c1 => bad (fun z => c1 z.1))
  rw [if_pos ⟨c1, c2⟩, if_pos ⟨c1, c2⟩] at k
  obtain ⟨p, -, p2, rfl⟩ := inR_nI c1
  obtain ⟨q, -, q2, rfl⟩ := inR_nI c2
  rw [nI_clamp (by omega), nI_clamp (by omega)] at k
  refine ⟨vp_in_nI (by omega) (by omega), ?_⟩
  intro v hv
  rw [nI_clamp (by omega), h3 p (by omega)] at hv
  subst hv
  refine ⟨vp_in_nI (by omega) (by omega), ?_⟩
  rintro s9 rfl
  rw [nI_clamp (by omega)]
  have hle : ∀ j, (if j = p then q else jc x j) ≤ 99 := fun j => by
    split
    · omega
    · exact h3' j
  refine k _ (Keep.rf.arr (by decide) (by decide)) ⟨h1, h2, ⟨fun j hj => ?_, hle⟩, h4, h5, h6, hle, h7.2⟩
  show _ = nI (if j = p then q else jc x j)
  by_cases e : j = p
  · rw [e, su_at, if_pos rfl]
  · rw [su_ne _ _ _ _ _ e, if_neg e]
    exact h3 j hj
theorem X_set (h : IX s x) (k : ∀ s', KI s s' → IX s' (ySet x a b) → P (rSet a b) s') : x_Desk_set s a b P := by
  have h' := h
  obtain ⟨h1, h2, h3, h4, h5, h6, h7⟩ := h
  unfold ySet rSet at k
  have bad : ¬ (inR a 0 65531 ∧ inR b 4 32768) → P 0 s := fun c => by
    rw [if_neg c, if_neg c] at k
    exact k s Keep.rf h'
  unfold x_Desk_set
  refine wrB (l := 0) (u := 65530) (by omega) (by omega) (fun c1 => wrD (l := 4) (u := 32767) (by omega) (by omega) (fun c2 => ?_) (fun c2 => ⟨rfl, bad (fun z => c2 z.2)⟩)) (fun c1 => ⟨rfl, bad (fun z => c1 z.1)⟩)
  rw [if_pos ⟨c1, c2⟩, if_pos ⟨c1, c2⟩] at k
  obtain ⟨p, -, p2, rfl⟩ := inR_nI c1
  obtain ⟨q, q1, q2, rfl⟩ := inR_nI c2
  rw [nI_clamp (by omega), nI_clamp (by omega)] at k
  rintro s5 rfl s6 rfl
  exact ⟨rfl, k _ ((Keep.rf.scal (by decide)).scal (by decide)) ⟨h1, h2, h3, h4, rfl, rfl, h7.1, by show p ≤ 65530; omega, q1, by show q ≤ 32767; omega⟩⟩
theorem X_handler (h : IX s x) (k : ∀ s', KI s s' → IX s' (yHandler x a b c d) → P (rHandler x a b c d) s') : x_Desk_handler s a b c d P := by
  have h' := h
  obtain ⟨h1, ⟨g1, g2, g3⟩, h3, hr⟩ := h
  unfold yHandler rHandler at k
  have bad : ¬ hC a b c d → P (-1) s := fun c => by
    rw [if_neg (fun z => c z.1), if_neg c] at k
    exact k s Keep.rf h'
  unfold x_Desk_handler
  refine X_isOctet (fun c1 => wc1 (X_isPlace (fun c2 => wc1 (X_isPlace (fun c3 => wc1 (X_isPlace (fun c4 => wb1 ?_) (fun c4 => wb0 (bad (fun z => c4 z.2.2.2))))) (fun c3 => wc0 (bad (fun z => c3 z.2.2.1))))) (fun c2 => wc0 (bad (fun z => c2 z.2.1))))) (fun c1 => wc0 (bad (fun z => c1 z.1)))
  have hc : hC a b c d := ⟨c1, c2, c3, c4⟩
  rw [if_pos hc] at k
  rw [g2]
  refine wplt (jh x) 4 rfl rfl (by omega) (by omega) (fun e => ?_) (fun e => ?_)
  · rw [if_pos ⟨hc, e⟩, if_pos e] at k
    unfold x_Source_appendHandler
    rw [g2]
    refine wple 4 (jh x) rfl rfl (by omega) (by omega) (fun e2' => absurd e2' (by omega)) (fun e2' => ?_)
    rintro v rfl
    rw [show nI (jh x) * (4 : Int32) = nI (4 * jh x) by rw [show nI (jh x) * (4 : Int32) = nI (jh x * 4) from pk_mul _ 4, Nat.mul_comm], show nI (4 * jh x) + 0 = nI (4 * jh x) from nI_add _ 0, show nI (4 * jh x) + 1 = nI (4 * jh x + 1) from nI_add _ 1, show nI (4 * jh x) + 2 = nI (4 * jh x + 2) from nI_add _ 2, show nI (4 * jh x) + 3 = nI (4 * jh x + 3) from nI_add _ 3, nI_clamp (by omega), nI_clamp (by omega), nI_clamp (by omega), nI_clamp (by omega)]
    refine ⟨vp_in_nI (by omega) (by omega), ?_⟩
    rintro s4 rfl
    refine ⟨vp_in_nI (by omega) (by omega), ?_⟩
    rintro s6 rfl
    refine ⟨vp_in_nI (by omega) (by omega), ?_⟩
    rintro s8 rfl
    refine ⟨vp_in_nI (by omega) (by omega), ?_⟩
    rintro s10 rfl s11 rfl
    obtain ⟨p1, -, p2, rfl⟩ := inR_nI c1
    obtain ⟨q1, -, q2, rfl⟩ := inR_nI c2
    obtain ⟨r1, -, r2, rfl⟩ := inR_nI c3
    obtain ⟨w1, -, w2, rfl⟩ := inR_nI c4
    have e15 : su (su (su (su (su s 1 (4 * jh x) (nI q1)) 1 (4 * jh x + 1) (nI r1)) 1 (4 * jh x + 2) (nI w1)) 1 (4 * jh x + 3) (nI p1)) 15 2 (su (su (su (su s 1 (4 * jh x) (nI q1)) 1 (4 * jh x + 1) (nI r1)) 1 (4 * jh x + 2) (nI w1)) 1 (4 * jh x + 3) (nI p1) 15 2 + 1) 15 2 = nI (jh x + 1) := by
      rw [su_at, su_row _ _ _ _ _ (by decide), su_row _ _ _ _ _ (by decide), su_row _ _ _ _ _ (by decide), su_row _ _ _ _ _ (by decide), g2]
      exact nI_1 _
    rw [e15]
    refine k _ (((((Keep.rf.arr (by decide) (by decide)).arr (by decide) (by decide)).arr (by decide) (by decide)).arr (by decide) (by decide)).scal (by decide)) ⟨h1, ⟨by show jh x + 1 ≤ 4; omega, e15, fun hh hlt => ?_⟩, h3, hr⟩
    have hlt' : hh < jh x + 1 := hlt
    have hd' : ∀ q, jd (jn x, jo x, jh x + 1, fun h q => if h = jh x then (if q = 0 then nI q1 else if q = 1 then nI r1 else if q = 2 then nI w1 else nI p1).toNatClampNeg else jd x h q, jc x, jk x, jb x, jr x) hh q = if hh = jh x then (if q = 0 then nI q1 else if q = 1 then nI r1 else if q = 2 then nI w1 else nI p1).toNatClampNeg else jd x hh q := fun q => rfl
    simp only [hd']
    by_cases e3 : hh = jh x
    · subst e3
      simp only [if_pos]
      refine ⟨fun q hq => ?_, fun q hq => ?_, ?_⟩
      · rw [su_row _ _ _ _ _ (by decide)]
        rcases (show q = 0 ∨ q = 1 ∨ q = 2 ∨ q = 3 by omega) with rfl | rfl | rfl | rfl
        · rw [su_ne _ _ _ _ _ (by omega), su_ne _ _ _ _ _ (by omega), su_ne _ _ _ _ _ (by omega), Nat.add_zero, su_at, if_pos rfl, nI_clamp (by omega)]
        · rw [su_ne _ _ _ _ _ (by omega), su_ne _ _ _ _ _ (by omega), su_at, if_neg (by omega), if_pos rfl, nI_clamp (by omega)]
        · rw [su_ne _ _ _ _ _ (by omega), su_at, if_neg (by omega), if_neg (by omega), if_pos rfl, nI_clamp (by omega)]
        · rw [su_at, if_neg (by omega), if_neg (by omega), if_neg (by omega), nI_clamp (by omega)]
      · rcases (show q = 0 ∨ q = 1 ∨ q = 2 by omega) with rfl | rfl | rfl
        · rw [if_pos rfl, nI_clamp (by omega)]; omega
        · rw [if_neg (by omega), if_pos rfl, nI_clamp (by omega)]; omega
        · rw [if_neg (by omega), if_neg (by omega), if_pos rfl, nI_clamp (by omega)]; omega
      · rw [if_neg (by omega), if_neg (by omega), if_neg (by omega), nI_clamp (by omega)]; omega
    · simp only [if_neg e3]
      obtain ⟨u1, u2⟩ := g3 hh (by omega)
      refine ⟨fun q hq => ?_, u2⟩
      rw [su_row _ _ _ _ _ (by decide), su_ne _ _ _ _ _ (by omega), su_ne _ _ _ _ _ (by omega), su_ne _ _ _ _ _ (by omega), su_ne _ _ _ _ _ (by omega)]
      exact u1 q hq
  · rw [if_neg (fun z => e z.2), if_neg e] at k
    exact k s Keep.rf h'
theorem X_code {v : Int64} (h : IX s x) (k : ∀ s', KI s s' → IX s' (yCode x v a) → P (rCode x a) s') : x_Desk_code s v a P := by
  have h' := h
  obtain ⟨⟨h1, h2, h3, h4, h5⟩, hr⟩ := h
  unfold yCode rCode at k
  have bad : ¬ inR a 1 9 → P (-1) s := fun c => by
    rw [if_neg (fun z => c z.1), if_neg c] at k
    exact k s Keep.rf h'
  unfold x_Desk_code
  refine wrD (l := 1) (u := 8) (by omega) (by omega) (fun c1 => ?_) bad
  rw [if_pos c1] at k
  obtain ⟨m, m1, m2, rfl⟩ := inR_nI c1
  rw [nI_clamp (by omega)] at k
  rw [h2, nI_add]
  refine wple (jn x + m) 200 rfl rfl (by omega) (by omega) (fun e => ?_) (fun e => ?_)
  · rw [if_pos ⟨c1, e⟩, if_pos e] at k
    unfold x_Desk_code_34
    refine itr_go (fun q => ∃ i, i ≤ m ∧ q.2.1 = v ∧ q.2.2.1 = nI m ∧ q.2.2.2 = nI i ∧ Keep 15 [0] [1] s q.1 ∧ q.1 15 1 = nI (jn x + i) ∧ (∀ j, j < jn x → q.1 0 j = nI (jo x j)) ∧ ∀ j, j < i → q.1 0 (jn x + j) = nI (oc v j)) (fun q => 201 - q.2.2.2.toNatClampNeg) _ ⟨0, by omega, rfl, rfl, rfl, Keep.rf, h2, h3, fun j hj => absurd hj (by omega)⟩ ?_
    rintro K ⟨s', x1, x3, x4⟩ ⟨i, g1, g2, g3, g4, g5, g6, g7, g8⟩ hK
    dsimp only at g2 g3 g4 g5 g6 g7 g8 hK ⊢
    subst g2 g3 g4
    unfold x_Desk_code_34F
    refine wple m i rfl rfl (by omega) (by omega) (fun e2' => ?_) (fun e2' => ?_)
    · have : i = m := by omega
      subst this
      rw [g6]
      obtain ⟨b, c, d, u, f, g⟩ := hr
      have hr' : HX s' (jh x) (jd x) ∧ KX s' (jc x) ∧ MX s' (jk x) ∧ s' 15 3 = nI (jb x) ∧ s' 15 4 = nI (jr x) ∧ okIn x := ⟨⟨b.1, by rw [g5.2 2 (by decide)]; exact b.2.1, fun h hh => by rw [g5.1 1 (by decide) (by decide)]; exact b.2.2 h hh⟩, ⟨fun j hj => by rw [g5.1 2 (by decide) (by decide)]; exact c.1 j hj, c.2⟩, fun q hq => by rw [g5.1 3 (by decide) (by decide)]; exact d q hq, by rw [g5.2 3 (by decide)]; exact u, by rw [g5.2 4 (by decide)]; exact f, g⟩
      refine k s' (g5.mono (by decide) (by decide)) ⟨⟨by show jn x + i ≤ 200; omega, g6, fun j hj => ?_, fun j hj => ?_, fun j => ?_⟩, hr'⟩
      · have hj' : j < jn x + i := hj
        show _ = nI (if j < jn x then jo x j else if j < jn x + i then oc x1 (j - jn x) else 0)
        by_cases e3 : j < jn x
        · rw [if_pos e3]
          exact g7 j e3
        · rw [if_neg e3, if_pos hj', ← g8 (j - jn x) (by omega), show jn x + (j - jn x) = j by omega]
      · have hj' : jn x + i ≤ j := hj
        show (if j < jn x then jo x j else if j < jn x + i then oc x1 (j - jn x) else 0) = 0
        rw [if_neg (by omega), if_neg (by omega)]
      · show (if j < jn x then jo x j else if j < jn x + i then oc x1 (j - jn x) else 0) < 256
        split
        · exact h5 j
        · split
          · exact (oc_x x1 _).2
          · omega
    · unfold x_Source_append
      rw [g6]
      refine wple 200 (jn x + i) rfl rfl (by omega) (by omega) (fun e3 => absurd e3 (by omega)) (fun e3 => ?_)
      rintro s2 rfl
      refine ⟨vp_in_nI (by omega) (by omega), ?_⟩
      have hoc := (oc_x x1 i).1
      unfold ocw at hoc
      rw [hoc, nI_clamp (by omega), nI_1]
      rintro s4 rfl v7 rfl
      refine hK _ ⟨i + 1, by omega, rfl, rfl, nI_1 i, (g5.scal (by decide)).arr (by decide) (by decide), ?_, fun j hj => ?_, fun j hj => ?_⟩ ?_
      · dsimp only
        rw [su_row _ _ _ _ _ (by decide), su_at]
        rfl
      · dsimp only
        rw [su_ne _ _ _ _ _ (by omega), su_row _ _ _ _ _ (by decide)]
        exact g7 j hj
      · dsimp only
        by_cases e4' : j = i
        · rw [e4', su_at]
        · rw [su_ne _ _ _ _ _ (by omega), su_row _ _ _ _ _ (by decide)]
          exact g8 j (by omega)
      · show 201 - (nI i + 1).toNatClampNeg < 201 - (nI i).toNatClampNeg
        rw [nI_1, nI_clamp (by omega), nI_clamp (by omega)]
        omega
  · rw [if_neg (fun z => e z.2), if_neg e] at k
    exact k s Keep.rf h'
end XO
section MO
variable {t : St} {x : In} {P : Int32 → St → Prop} {a b c d : Int32}
theorem M_change' (h : IM t x) (k : ∀ t', KJ t t' → IM t' (yChange x a b) → P (rChange x a b) t') : x_Model_change t a b P := by
  have h' := h
  obtain ⟨h1, h2, h3, h4, h5, hr⟩ := h
  unfold yChange rChange at k
  have bad : ¬ (inR a 0 (jn x) ∧ inR b 0 256) → P (-1) t := fun c => by
    rw [if_neg c, if_neg c] at k
    exact k t Keep.rf h'
  unfold x_Model_change
  rw [h1]
  refine M_rA (u := jn x) (by omega) (fun c1 => wc1 (M_rB (l := 0) (u := 255) (by omega) (by omega) (fun c2 => wb1 ?_) (fun c2 => wb0 (bad (fun z => c2 z.2))))) (fun c1 => wc0 (bad (fun z => c1 z.1)))
  rw [if_pos ⟨c1, c2⟩, if_pos ⟨c1, c2⟩] at k
  obtain ⟨p, -, p2, rfl⟩ := inR_nI c1
  obtain ⟨q, -, q2, rfl⟩ := inR_nI c2
  rw [nI_clamp (by omega), nI_clamp (by omega)] at k
  refine ⟨vp_in_nI (by omega) (by omega), ?_⟩
  intro v hv
  rw [nI_clamp (by omega), h2 p p2] at hv
  subst hv
  refine ⟨vp_in_nI (by omega) (by omega), ?_⟩
  rintro s9 rfl
  rw [nI_clamp (by omega)]
  refine k _ (Keep.rf.arr (by decide) (by decide)) ⟨h1, fun j hj => ?_, h3, fun j hj => ?_, fun j => ?_, hr⟩
  · show _ = nI (if j = p then q else jo x j)
    by_cases e : j = p
    · rw [e, su_at, if_pos rfl]
    · rw [su_ne _ _ _ _ _ e, if_neg e]
      exact h2 j hj
  · show (if j = p then q else jo x j) = 0
    have hj' : jn x ≤ j := hj
    rw [if_neg (by omega)]
    exact h4 j hj
  · show (if j = p then q else jo x j) < 256
    split
    · omega
    · exact h5 j
theorem M_clear (h : IM t x) (k : ∀ t', KJ t t' → IM t' (yClear x) → P (nI (jn x)) t') : x_Model_clear t P := by
  obtain ⟨h1, h2, h3, h4, h5, ⟨g1, g2, g3⟩, hr⟩ := h
  unfold x_Model_clear
  intro v hv
  rw [h1] at hv
  subst hv
  rintro s2 rfl s3 rfl
  exact k _ ((Keep.rf.scal (by decide)).scal (by decide)) ⟨rfl, fun j hj => absurd hj (Nat.not_lt_zero j), by show 0 ≤ 200; omega, fun _ _ => rfl, fun _ => by show 0 < 256; omega, ⟨by show 0 ≤ 4; omega, rfl, fun q hq => absurd hq (Nat.not_lt_zero q)⟩, hr⟩
theorem M_mark {m : Bool} (h : IM t x) (k : ∀ t', KJ t t' → IM t' (yMark x a m) → P (rMark a) t') : x_Model_mark t a (bI m) P := by
  have h' := h
  obtain ⟨h1, h2, h3, h4, h5, h6, h7, h8, hr⟩ := h
  unfold yMark rMark at k
  have bad : ¬ inR a 1 256 → P 0 t := fun c => by
    rw [if_neg c, if_neg c] at k
    exact k t Keep.rf h'
  unfold x_Model_mark
  refine M_rB (l := 1) (u := 255) (by omega) (by omega) (fun c1 => wb1 ?_) (fun c1 => wb0 ⟨rfl, bad c1⟩)
  rw [if_pos c1, if_pos c1] at k
  obtain ⟨p, -, p2, rfl⟩ := inR_nI c1
  rw [nI_clamp (by omega)] at k
  refine ⟨vp_in_nI (by omega) (by omega), ?_⟩
  rintro s9 rfl
  rw [nI_clamp (by omega), bI_nar]
  refine ⟨rfl, k _ (Keep.rf.arr (by decide) (by decide)) ⟨h1, h2, h3, h4, h5, h6, h7, fun j hj => ?_, hr⟩⟩
  show _ = bI (if j = p then m else jk x j)
  by_cases e : j = p
  · rw [e, su_at, if_pos rfl]
  · rw [su_ne _ _ _ _ _ e, if_neg e]
    exact h8 j hj
theorem M_cost (h : IM t x) (k : ∀ t', KJ t t' → IM t' (yCost x a b) → P (rCost x a b) t') : x_Model_cost t a b P := by
  have h' := h
  obtain ⟨h1, h2, h3, h4, h5, h6, ⟨h7, h7'⟩, h8, h9, h10, h11⟩ := h
  unfold yCost rCost at k
  have bad : ¬ (inR a 0 201 ∧ inR b 0 100) → P (-1) t := fun c => by
    rw [if_neg c, if_neg c] at k
    exact k t Keep.rf h'
  unfold x_Model_cost
  refine M_rB (l := 0) (u := 200) (by omega) (by omega) (fun c1 => wc1 (M_rB (l := 0) (u := 99) (by omega) (by omega) (fun c2 => wb1 ?_) (fun c2 => wb0 (bad (fun z => c2 z.2))))) (fun c1 => wc0 (bad (fun z => c1 z.1)))
  rw [if_pos ⟨c1, c2⟩, if_pos ⟨c1, c2⟩] at k
  obtain ⟨p, -, p2, rfl⟩ := inR_nI c1
  obtain ⟨q, -, q2, rfl⟩ := inR_nI c2
  rw [nI_clamp (by omega), nI_clamp (by omega)] at k
  refine ⟨vp_in_nI (by omega) (by omega), ?_⟩
  intro v hv
  rw [nI_clamp (by omega), h7 p (by omega)] at hv
  subst hv
  refine ⟨vp_in_nI (by omega) (by omega), ?_⟩
  rintro s9 rfl
  rw [nI_clamp (by omega)]
  have hle : ∀ j, (if j = p then q else jc x j) ≤ 99 := fun j => by
    split
    · omega
    · exact h7' j
  refine k _ (Keep.rf.arr (by decide) (by decide)) ⟨h1, h2, h3, h4, h5, h6, ⟨fun j hj => ?_, hle⟩, h8, h9, h10, hle, h11.2⟩
  show _ = nI (if j = p then q else jc x j)
  by_cases e : j = p
  · rw [e, su_at, if_pos rfl]
  · rw [su_ne _ _ _ _ _ e, if_neg e]
    exact h7 j hj
theorem M_set (h : IM t x) (k : ∀ t', KJ t t' → IM t' (ySet x a b) → P (rSet a b) t') : x_Model_set t a b P := by
  have h' := h
  obtain ⟨h1, h2, h3, h4, h5, h6, h7, h8, h9, h10, h11⟩ := h
  unfold ySet rSet at k
  have bad : ¬ (inR a 0 65531 ∧ inR b 4 32768) → P 0 t := fun c => by
    rw [if_neg c, if_neg c] at k
    exact k t Keep.rf h'
  unfold x_Model_set
  refine M_rB (l := 0) (u := 65530) (by omega) (by omega) (fun c1 => wc1 (M_rB (l := 4) (u := 32767) (by omega) (by omega) (fun c2 => wb1 ?_) (fun c2 => wb0 ⟨rfl, bad (fun z => c2 z.2)⟩))) (fun c1 => wc0 ⟨rfl, bad (fun z => c1 z.1)⟩)
  rw [if_pos ⟨c1, c2⟩, if_pos ⟨c1, c2⟩] at k
  obtain ⟨p, -, p2, rfl⟩ := inR_nI c1
  obtain ⟨q, q1, q2, rfl⟩ := inR_nI c2
  rw [nI_clamp (by omega), nI_clamp (by omega)] at k
  rintro s5 rfl s6 rfl
  exact ⟨rfl, k _ ((Keep.rf.scal (by decide)).scal (by decide)) ⟨h1, h2, h3, h4, h5, h6, h7, h8, rfl, rfl, h11.1, by show p ≤ 65530; omega, q1, by show q ≤ 32767; omega⟩⟩
theorem M_handler (h : IM t x) (k : ∀ t', KJ t t' → IM t' (yHandler x a b c d) → P (rHandler x a b c d) t') : x_Model_handler t a b c d P := by
  have h' := h
  obtain ⟨h1, h2, h3, h4, h5, ⟨g1, g2, g3⟩, hr⟩ := h
  unfold yHandler rHandler at k
  have bad : ¬ hC a b c d → P (-1) t := fun c => by
    rw [if_neg (fun z => c z.1), if_neg c] at k
    exact k t Keep.rf h'
  unfold x_Model_handler
  refine M_rB (l := 0) (u := 255) (by omega) (by omega) (fun c1 => wc1 (M_rB (l := 0) (u := 200) (by omega) (by omega) (fun c2 => wc1 (M_rB (l := 0) (u := 200) (by omega) (by omega) (fun c3 => wc1 (M_rB (l := 0) (u := 200) (by omega) (by omega) (fun c4 => wb1 ?_) (fun c4 => wb0 (bad (fun z => c4 z.2.2.2))))) (fun c3 => wc0 (bad (fun z => c3 z.2.2.1))))) (fun c2 => wc0 (bad (fun z => c2 z.2.1))))) (fun c1 => wc0 (bad (fun z => c1 z.1)))
  have hc : hC a b c d := ⟨c1, c2, c3, c4⟩
  rw [if_pos hc] at k
  rw [g2]
  refine wpeqn (jh x) 4 rfl rfl (by omega) (by omega) (fun e => ?_) (fun e => ?_)
  · have e' : jh x < 4 := by omega
    rw [if_pos ⟨hc, e'⟩, if_pos e'] at k
    refine ⟨vp_in_nI (by omega) (by omega), ?_⟩
    rintro s15 rfl
    rw [nI_clamp (by omega), su_row _ _ _ _ _ (by decide), g2]
    refine ⟨vp_in_nI (by omega) (by omega), ?_⟩
    rintro s17 rfl
    rw [nI_clamp (by omega), su_row _ _ _ _ _ (by decide), su_row _ _ _ _ _ (by decide), g2]
    refine ⟨vp_in_nI (by omega) (by omega), ?_⟩
    rintro s19 rfl
    rw [nI_clamp (by omega), su_row _ _ _ _ _ (by decide), su_row _ _ _ _ _ (by decide), su_row _ _ _ _ _ (by decide), g2]
    refine ⟨vp_in_nI (by omega) (by omega), ?_⟩
    rintro s21 rfl s22 rfl
    rw [nI_clamp (by omega)]
    obtain ⟨p1, -, p2, rfl⟩ := inR_nI c1
    obtain ⟨q1, -, q2, rfl⟩ := inR_nI c2
    obtain ⟨r1, -, r2, rfl⟩ := inR_nI c3
    obtain ⟨w1, -, w2, rfl⟩ := inR_nI c4
    have e19 : su (su (su (su (su t 1 (jh x) (nI q1)) 2 (jh x) (nI r1)) 3 (jh x) (nI w1)) 4 (jh x) (nI p1)) 19 1 (su (su (su (su t 1 (jh x) (nI q1)) 2 (jh x) (nI r1)) 3 (jh x) (nI w1)) 4 (jh x) (nI p1) 19 1 + 1) 19 1 = nI (jh x + 1) := by
      rw [su_at, su_row _ _ _ _ _ (by decide), su_row _ _ _ _ _ (by decide), su_row _ _ _ _ _ (by decide), su_row _ _ _ _ _ (by decide), g2]
      exact nI_1 _
    rw [e19]
    refine k _ (((((Keep.rf.arr (by decide) (by decide)).arr (by decide) (by decide)).arr (by decide) (by decide)).arr (by decide) (by decide)).scal (by decide)) ⟨h1, h2, h3, h4, h5, ⟨by show jh x + 1 ≤ 4; omega, e19, fun hh hlt => ?_⟩, hr⟩
    have hlt' : hh < jh x + 1 := hlt
    have hd' : ∀ q, jd (jn x, jo x, jh x + 1, fun h q => if h = jh x then (if q = 0 then nI q1 else if q = 1 then nI r1 else if q = 2 then nI w1 else nI p1).toNatClampNeg else jd x h q, jc x, jk x, jb x, jr x) hh q = if hh = jh x then (if q = 0 then nI q1 else if q = 1 then nI r1 else if q = 2 then nI w1 else nI p1).toNatClampNeg else jd x hh q := fun q => rfl
    simp only [hd']
    by_cases e3 : hh = jh x
    · subst e3
      simp only [if_pos]
      refine ⟨?_, ?_, ?_, ?_, fun q hq => ?_, ?_⟩
      · rw [su_row _ _ _ _ _ (by decide), su_row _ _ _ _ _ (by decide), su_row _ _ _ _ _ (by decide), su_row _ _ _ _ _ (by decide), su_at, nI_clamp (by omega)]
      · rw [su_row _ _ _ _ _ (by decide), su_row _ _ _ _ _ (by decide), su_row _ _ _ _ _ (by decide), su_at, if_neg (by omega), nI_clamp (by omega)]
      · rw [su_row _ _ _ _ _ (by decide), su_row _ _ _ _ _ (by decide), su_at, if_neg (by omega), if_neg (by omega), nI_clamp (by omega)]
      · rw [su_row _ _ _ _ _ (by decide), su_at, if_neg (by omega), if_neg (by omega), if_neg (by omega), nI_clamp (by omega)]
      · rcases (show q = 0 ∨ q = 1 ∨ q = 2 by omega) with rfl | rfl | rfl
        · rw [if_pos rfl, nI_clamp (by omega)]; omega
        · rw [if_neg (by omega), if_pos rfl, nI_clamp (by omega)]; omega
        · rw [if_neg (by omega), if_neg (by omega), if_pos rfl, nI_clamp (by omega)]; omega
      · rw [if_neg (by omega), if_neg (by omega), if_neg (by omega), nI_clamp (by omega)]; omega
    · simp only [if_neg e3]
      simp only [su_get]
      simp [e3]
      exact g3 hh (by omega)
  · rw [if_neg (fun z => absurd z.2 (by omega)), if_neg (by omega)] at k
    exact k t Keep.rf h'
theorem M_code {v : Int64} (h : IM t x) (k : ∀ t', KJ t t' → IM t' (yCode x v a) → P (rCode x a) t') : x_Model_code t v a P := by
  have h' := h
  obtain ⟨h1, h2, h3, h4, h5, hr⟩ := h
  unfold yCode rCode at k
  have bad : ¬ inR a 1 9 → P (-1) t := fun c => by
    rw [if_neg (fun z => c z.1), if_neg c] at k
    exact k t Keep.rf h'
  unfold x_Model_code
  refine M_rB (l := 1) (u := 8) (by omega) (by omega) (fun c1 => wb1 ?_) (fun c1 => wb0 (bad c1))
  rw [if_pos c1] at k
  obtain ⟨m, m1, m2, rfl⟩ := inR_nI c1
  rw [nI_clamp (by omega)] at k
  rw [h1, nI_add]
  refine wple (jn x + m) 200 rfl rfl (by omega) (by omega) (fun e => ?_) (fun e => ?_)
  · rw [if_pos ⟨c1, e⟩, if_pos e] at k
    unfold x_Model_code_30
    refine itr_go (fun q => ∃ i, i ≤ m ∧ q.2.1 = v ∧ q.2.2.1 = nI m ∧ q.2.2.2 = nI i ∧ Keep 19 [0] [] t q.1 ∧ (∀ j, j < jn x → q.1 0 j = nI (jo x j)) ∧ ∀ j, j < i → q.1 0 (jn x + j) = nI (oc v j)) (fun q => 201 - q.2.2.2.toNatClampNeg) _ ⟨0, by omega, rfl, rfl, rfl, Keep.rf, h2, fun j hj => absurd hj (by omega)⟩ ?_
    rintro K ⟨s', x1, x3, x4⟩ ⟨i, g1, g2, g3, g4, g5, g7, g8⟩ hK
    dsimp only at g2 g3 g4 g5 g7 g8 hK ⊢
    subst g2 g3 g4
    unfold x_Model_code_30F
    rw [g5.2 0 (by decide), h1]
    refine wple m i rfl rfl (by omega) (by omega) (fun e2' => ?_) (fun e2' => ?_)
    · have : i = m := by omega
      subst this
      rintro s6 rfl
      rw [su_at, nI_add]
      obtain ⟨b, c, d, u, f, g⟩ := hr
      have q6 : Keep 19 [0] [0] t (su s' 19 0 (nI (jn x + i))) := (g5.mono (by decide) (by decide)).scal (by decide)
      have e6 : su s' 19 0 (nI (jn x + i)) 19 0 = nI (jn x + i) := su_at _ _ _ _
      have r6 : su s' 19 0 (nI (jn x + i)) 0 = s' 0 := su_row _ _ _ _ _ (by decide)
      generalize su s' 19 0 (nI (jn x + i)) = s6 at q6 e6 r6 ⊢
      have hr' : HM s6 (jh x) (jd x) ∧ KM s6 (jc x) ∧ MM s6 (jk x) ∧ s6 19 2 = nI (jb x) ∧ s6 19 3 = nI (jr x) ∧ okIn x := ⟨b.keep (q6.1 1 (by decide) (by decide)) (q6.1 2 (by decide) (by decide)) (q6.1 3 (by decide) (by decide)) (q6.1 4 (by decide) (by decide)) (q6.2 1 (by decide)), ⟨fun j hj => by rw [q6.1 5 (by decide) (by decide)]; exact c.1 j hj, c.2⟩, fun q hq => by rw [q6.1 6 (by decide) (by decide)]; exact d q hq, by rw [q6.2 2 (by decide)]; exact u, by rw [q6.2 3 (by decide)]; exact f, g⟩
      refine k s6 (q6.mono (by decide) (by decide)) ⟨e6, fun j hj => ?_, by show jn x + i ≤ 200; omega, fun j hj => ?_, fun j => ?_, hr'⟩
      · have hj' : j < jn x + i := hj
        show _ = nI (if j < jn x then jo x j else if j < jn x + i then oc x1 (j - jn x) else 0)
        rw [r6]
        by_cases e3 : j < jn x
        · rw [if_pos e3]
          exact g7 j e3
        · rw [if_neg e3, if_pos hj', ← g8 (j - jn x) (by omega), show jn x + (j - jn x) = j by omega]
      · have hj' : jn x + i ≤ j := hj
        show (if j < jn x then jo x j else if j < jn x + i then oc x1 (j - jn x) else 0) = 0
        rw [if_neg (by omega), if_neg (by omega)]
      · show (if j < jn x then jo x j else if j < jn x + i then oc x1 (j - jn x) else 0) < 256
        split
        · exact h5 j
        · split
          · exact (oc_x x1 _).2
          · omega
    · rw [nI_add]
      refine ⟨vp_in_nI (by omega) (by omega), ?_⟩
      have hoc := oc_m x1 i
      unfold ocw at hoc
      rw [hoc, nI_clamp (by omega)]
      rintro s4 rfl v7 rfl
      refine hK _ ⟨i + 1, by omega, rfl, rfl, nI_1 i, g5.arr (by decide) (by decide), fun j hj => ?_, fun j hj => ?_⟩ ?_
      · dsimp only
        rw [su_ne _ _ _ _ _ (by omega)]
        exact g7 j hj
      · dsimp only
        by_cases e4' : j = i
        · rw [e4', su_at]
        · rw [su_ne _ _ _ _ _ (by omega)]
          exact g8 j (by omega)
      · show 201 - (nI i + 1).toNatClampNeg < 201 - (nI i).toNatClampNeg
        rw [nI_1, nI_clamp (by omega), nI_clamp (by omega)]
        omega
  · rw [if_neg (fun z => e z.2), if_neg e] at k
    exact k t Keep.rf h'
end MO
