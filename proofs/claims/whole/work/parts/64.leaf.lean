/-! PURE. Opcodes: what class and reference know of an opcode alone, by its number k < 256. -/
def kEx (k : Nat) : Bool := decide (k ≤ 200) && !(k == 168) && !(k == 169)
def kSJ (k : Nat) : Bool := (decide (153 ≤ k) && decide (k ≤ 167)) || k == 198 || k == 199
def kSw (k : Nat) : Bool := k == 170 || k == 171
def kRet (k : Nat) : Bool := decide (172 ≤ k) && decide (k ≤ 177)
def kArr (k : Nat) : Bool := k == 188 || k == 189
def kLoc (k : Nat) : Bool := (decide (21 ≤ k) && decide (k ≤ 25)) || (decide (54 ≤ k) && decide (k ≤ 58))
def kEnd (k : Nat) : Bool := kSJ k || kSw k || kRet k || k == 191 || k == 200
def kPl (k : Nat) : Nat := if k = 16 ∨ k = 18 ∨ k = 188 ∨ kLoc k = true then 2 else if k = 17 ∨ k = 19 ∨ k = 20 ∨ k = 132 ∨ k = 187 ∨ k = 189 ∨ k = 192 ∨ k = 193 ∨ (178 ≤ k ∧ k ≤ 184) ∨ kSJ k = true then 3 else if k = 197 then 4 else if k = 185 ∨ k = 186 ∨ k = 200 then 5 else 1
def kOpp (k : Nat) : Nat := if 197 < k then 397 - k else if k % 2 = 1 then k + 1 else k - 1
-- values of the class's functions, as they branch
def vx_exists (a : Int32) : Int32 := if a < 0 then 0 else if 200 < a then 0 else if a = 168 then 0 else if a = 169 then 0 else 1
def vx_isSwitch (a : Int32) : Int32 := if a = 170 then 1 else if a = 171 then 1 else 0
def vx_isLocal (a : Int32) : Int32 := if a < 21 then (if a < 54 then 0 else if 58 < a then 0 else 1) else if a ≤ 25 then 1 else (if a < 54 then 0 else if 58 < a then 0 else 1)
def vx_isShortJump (a : Int32) : Int32 := if a < 153 then (if a = 198 then 1 else if a = 199 then 1 else 0) else if a ≤ 167 then 1 else (if a = 198 then 1 else if a = 199 then 1 else 0)
def vx_isReturn (a : Int32) : Int32 := if a < 172 then 0 else if 177 < a then 0 else 1
def vx_makesArray (a : Int32) : Int32 := if a = 188 then 1 else if a = 189 then 1 else 0
def vx_opposite (a : Int32) : Int32 := if 167 ≤ a then a ^^^ 1 else ((a - 153) ^^^ 1) + 153
def vx_pushLength (a : Int32) : Int32 := if 5 < a then (if 127 < a then 3 else 2) else 1
def vm_in (a b c : Int32) : Int32 := if a < b then 0 else if c < a then 0 else 1
def vm_isTable (a : Int32) : Int32 := if a = 170 then 1 else if a = 171 then 1 else 0
def vm_opposite (a : Int32) : Int32 := if a ≤ 197 then (if a - a / 2 * 2 = 1 then a + 1 else a - 1) else 397 - a
def vm_weigh (a : Int32) : Int32 := if 6 ≤ a then (if 128 ≤ a then 3 else 2) else 1
section LEAF
variable {s : St} {a b c : Int32} {Post : Int32 → St → Prop}
theorem X_exists : x_Opcodes_exists s a Post ↔ Post (vx_exists a) s := by
  simp only [x_Opcodes_exists, vx_exists, wp_if, wp_ifn, post_ite (P := Post), nar0, nar1, true_and]
theorem X_isSwitch : x_Opcodes_isSwitch s a Post ↔ Post (vx_isSwitch a) s := by
  simp only [x_Opcodes_isSwitch, x_Opcodes_isSwitch_14, vx_isSwitch, wp_if, wp_ifn, post_ite (P := Post), nar0, nar1, true_and]
theorem X_isLocal : x_Opcodes_isLocal s a Post ↔ Post (vx_isLocal a) s := by
  simp only [x_Opcodes_isLocal, x_Opcodes_isLocal_12, x_Opcodes_isLocal_24, vx_isLocal, wp_if, wp_ifn, post_ite (P := Post), nar0, nar1, true_and]
theorem X_isShortJump : x_Opcodes_isShortJump s a Post ↔ Post (vx_isShortJump a) s := by
  simp only [x_Opcodes_isShortJump, x_Opcodes_isShortJump_14, x_Opcodes_isShortJump_28, vx_isShortJump, wp_if, wp_ifn, post_ite (P := Post), nar0, nar1, true_and]
theorem X_isReturn : x_Opcodes_isReturn s a Post ↔ Post (vx_isReturn a) s := by
  simp only [x_Opcodes_isReturn, vx_isReturn, wp_if, wp_ifn, post_ite (P := Post), nar0, nar1, true_and]
theorem X_makesArray : x_Opcodes_makesArray s a Post ↔ Post (vx_makesArray a) s := by
  simp only [x_Opcodes_makesArray, x_Opcodes_makesArray_14, vx_makesArray, wp_if, wp_ifn, post_ite (P := Post), nar0, nar1, true_and]
theorem X_opposite : x_Opcodes_opposite s a Post ↔ Post (vx_opposite a) s := by
  simp only [x_Opcodes_opposite, vx_opposite, wp_if, wp_ifn, post_ite (P := Post)]
theorem X_pushLength : x_Layout_pushLength s a Post ↔ Post (vx_pushLength a) s := by
  simp only [x_Layout_pushLength, vx_pushLength, wp_if, wp_ifn, post_ite (P := Post)]
theorem M_in : x_Model_in s a b c Post ↔ Post (vm_in a b c) s := by
  simp only [x_Model_in, vm_in, wp_if, wp_ifn, post_ite (P := Post), nar0, nar1, true_and]
theorem M_isTable : x_Model_isTable s a Post ↔ Post (vm_isTable a) s := by
  simp only [x_Model_isTable, x_Model_isTable_14, vm_isTable, wp_if, wp_ifn, post_ite (P := Post), nar0, nar1, true_and]
theorem M_opposite : x_Model_opposite s a Post ↔ Post (vm_opposite a) s := by
  simp only [x_Model_opposite, vm_opposite, wp_if, wp_ifn, post_ite (P := Post)]
theorem M_weigh : x_Model_weigh s a Post ↔ Post (vm_weigh a) s := by
  simp only [x_Model_weigh, vm_weigh, wp_if, wp_ifn, post_ite (P := Post)]
end LEAF
theorem kx_exists : ∀ k, k < 256 → vx_exists (nI k) = bI (kEx k) := all_of (by decide +kernel)
theorem kx_isSwitch : ∀ k, k < 256 → vx_isSwitch (nI k) = bI (kSw k) := all_of (by decide +kernel)
theorem kx_isLocal : ∀ k, k < 256 → vx_isLocal (nI k) = bI (kLoc k) := all_of (by decide +kernel)
theorem kx_isShortJump : ∀ k, k < 256 → vx_isShortJump (nI k) = bI (kSJ k) := all_of (by decide +kernel)
theorem kx_isReturn : ∀ k, k < 256 → vx_isReturn (nI k) = bI (kRet k) := all_of (by decide +kernel)
theorem kx_makesArray : ∀ k, k < 256 → vx_makesArray (nI k) = bI (kArr k) := all_of (by decide +kernel)
theorem km_isTable : ∀ k, k < 256 → vm_isTable (nI k) = bI (kSw k) := all_of (by decide +kernel)
theorem kx_opposite : ∀ k, k < 256 → kSJ k = true → k ≠ 167 → vx_opposite (nI k) = nI (kOpp k) := all_of (P := fun k => kSJ k = true → k ≠ 167 → vx_opposite (nI k) = nI (kOpp k)) (by decide +kernel)
theorem km_opposite : ∀ k, k < 256 → kSJ k = true → k ≠ 167 → vm_opposite (nI k) = nI (kOpp k) := all_of (P := fun k => kSJ k = true → k ≠ 167 → vm_opposite (nI k) = nI (kOpp k)) (by decide +kernel)
theorem km_in {k l h : Nat} (hk : k < 2 ^ 31) (hl : l < 2 ^ 31) (hh : h < 2 ^ 31) : vm_in (nI k) (nI l) (nI h) = bI (decide (l ≤ k) && decide (k ≤ h)) := by
  unfold vm_in
  simp only [nI_ltI hk hl, nI_ltI hh hk]
  by_cases h1 : k < l
  · simp [h1, bI, Nat.not_le.mpr h1]
  · by_cases h2 : h < k
    · simp [h1, h2, bI, Nat.not_le.mpr h2]
    · simp [h1, h2, bI, Nat.not_lt.mp h1, Nat.not_lt.mp h2]
theorem k_push {w : Nat} (h : w < 2 ^ 31) : vx_pushLength (nI w) = nI (if w ≤ 5 then 1 else if w ≤ 127 then 2 else 3) := by
  unfold vx_pushLength
  rw [show (5 : Int32) = nI 5 from rfl, show (127 : Int32) = nI 127 from rfl]
  simp only [nI_ltI (show 5 < 2 ^ 31 by omega) h, nI_ltI (show 127 < 2 ^ 31 by omega) h]
  by_cases h1 : w ≤ 5
  · simp [h1, Nat.not_lt.mpr h1]; rfl
  · by_cases h2 : w ≤ 127
    · simp [h1, h2, Nat.not_lt.mpr h2, Nat.not_le.mp h1]; rfl
    · simp [h1, h2, Nat.not_le.mp h2, Nat.not_le.mp h1]; rfl
theorem k_weigh {w : Nat} (h : w < 2 ^ 31) : vm_weigh (nI w) = nI (if w ≤ 5 then 1 else if w ≤ 127 then 2 else 3) := by
  unfold vm_weigh
  rw [show (6 : Int32) = nI 6 from rfl, show (128 : Int32) = nI 128 from rfl]
  simp only [nI_leI (show 6 < 2 ^ 31 by omega) h, nI_leI (show 128 < 2 ^ 31 by omega) h]
  by_cases h1 : w ≤ 5
  · simp [h1, show ¬ 6 ≤ w by omega]; rfl
  · by_cases h2 : w ≤ 127
    · simp [h1, h2, show 6 ≤ w by omega, show ¬ 128 ≤ w by omega]; rfl
    · simp [h1, h2, show 6 ≤ w by omega, show 128 ≤ w by omega]; rfl
