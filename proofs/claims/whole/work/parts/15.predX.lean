def wX (ad : Nat → Nat) (ca : Nat → ClassId) (s : St) : va_W := [
  (ad 0, .inr (0, [.ref (ad 1), .ref (ad 4), .ref (ad 7), .ref (ad 17), .int (s 15 0)])),
  (ad 1, .inr (1, [.ref (ad 2), .ref (ad 3), .int (s 15 1), .int (s 15 2)])),
  (ad 2, .inl (ca 0, 200, .inl (s 0))),
  (ad 3, .inl (ca 1, 16, .inl (s 1))),
  (ad 4, .inr (2, [.ref (ad 5), .ref (ad 6), .int (s 15 3), .int (s 15 4)])),
  (ad 5, .inl (ca 2, 201, .inl (s 2))),
  (ad 6, .inl (ca 3, 256, .inl (s 3))),
  (ad 7, .inr (3, [.ref (ad 1), .ref (ad 4), .ref (ad 8), .ref (ad 9), .ref (ad 10), .ref (ad 11), .ref (ad 12), .ref (ad 13), .ref (ad 14), .ref (ad 15), .ref (ad 16), .int (s 15 5), .int (s 15 6), .int (s 15 7), .int (s 15 8), .int (s 15 9)])),
  (ad 8, .inl (ca 4, 200, .inl (s 4))),
  (ad 9, .inl (ca 5, 201, .inl (s 5))),
  (ad 10, .inl (ca 6, 201, .inl (s 6))),
  (ad 11, .inl (ca 7, 201, .inl (s 7))),
  (ad 12, .inl (ca 8, 201, .inl (s 8))),
  (ad 13, .inl (ca 9, 201, .inl (s 9))),
  (ad 14, .inl (ca 10, 201, .inl (s 10))),
  (ad 15, .inl (ca 11, 201, .inl (s 11))),
  (ad 16, .inl (ca 12, 201, .inl (s 12))),
  (ad 17, .inr (4, [.ref (ad 1), .ref (ad 4), .ref (ad 7), .ref (ad 18), .ref (ad 19), .int (s 15 10), .int (s 15 11), .int (s 15 12), .int (s 15 13)])),
  (ad 18, .inl (ca 13, 1200, .inl (s 13))),
  (ad 19, .inl (ca 14, 16, .inl (s 14)))]
def tyX (ca : Nat → ClassId) : List (ClassId × FieldType) := [(ca 0, .int), (ca 1, .int), (ca 2, .int), (ca 3, .boolean), (ca 4, .int), (ca 5, .int), (ca 6, .int), (ca 7, .int), (ca 8, .boolean), (ca 9, .int), (ca 10, .int), (ca 11, .int), (ca 12, .boolean), (ca 13, .int), (ca 14, .int)]
def x_Source_append (s : St) (a1 : Int32) (Post : St → Prop) : Prop :=
  ((200 : Int32) ≤ (s 15 1) → Post s) ∧ (¬ (200 : Int32) ≤ (s 15 1) → ∀ s2 : St, s2 = su s 15 1 ((s 15 1) + (1 : Int32)) → vp_in (s 15 1) 200 ∧ ∀ s4 : St, s4 = su s2 0 ((s 15 1)).toNatClampNeg a1 → Post s4)
def x_Desk_code_34F (Post : Int32 → St → Prop) (K34 : St → Int64 → Int32 → Int32 → Prop) (s : St) (x1 : Int64) (x3 : Int32) (x4 : Int32) : Prop :=
  (x3 ≤ x4 → Post (s 15 1) s) ∧ (¬ x3 ≤ x4 → x_Source_append s ((((x1).toUInt64 >>> ((((56 : Int32) - ((8 : Int32) * x4))).toInt64.toUInt64 &&& Int64.toUInt64 63)).toInt64).toInt32 &&& (255 : Int32)) (fun s6 => ∀ v7 : Int32, v7 = x4 + 1 → K34 s6 x1 x3 v7))
def x_Desk_code_34 (Post : Int32 → St → Prop) (n : Nat) (s : St) (x1 : Int64) (x3 : Int32) (x4 : Int32) : Prop :=
  itr (α := St × Int64 × Int32 × Int32) (fun K a => x_Desk_code_34F Post (fun s x1 x3 x4 => K (s, x1, x3, x4)) a.1 a.2.1 a.2.2.1 a.2.2.2) n (s, x1, x3, x4)
def x_Desk_code (s : St) (a1 : Int64) (a3 : Int32) (Post : Int32 → St → Prop) : Prop :=
  (a3 < (1 : Int32) → Post (-1 : Int32) s) ∧ (¬ a3 < (1 : Int32) → (a3 ≤ (8 : Int32) → (((s 15 1) + a3) ≤ (200 : Int32) → ∃ n : Nat, x_Desk_code_34  Post n s a1 a3 (0 : Int32)) ∧ (¬ ((s 15 1) + a3) ≤ (200 : Int32) → Post (-2 : Int32) s)) ∧ (¬ a3 ≤ (8 : Int32) → Post (-1 : Int32) s))
def x_Desk_isOctet (s : St) (a0 : Int32) (Post : Int32 → St → Prop) : Prop :=
  (a0 < 0 → narrow .boolean (.int (0 : Int32)) = .int (0 : Int32) ∧ Post (0 : Int32) s) ∧ (¬ a0 < 0 → ((255 : Int32) < a0 → narrow .boolean (.int (0 : Int32)) = .int (0 : Int32) ∧ Post (0 : Int32) s) ∧ (¬ (255 : Int32) < a0 → narrow .boolean (.int (1 : Int32)) = .int (1 : Int32) ∧ Post (1 : Int32) s))
def x_Desk_change (s : St) (a1 : Int32) (a2 : Int32) (Post : Int32 → St → Prop) : Prop :=
  (a1 < 0 → Post (-1 : Int32) s) ∧ (¬ a1 < 0 → ((s 15 1) ≤ a1 → Post (-1 : Int32) s) ∧ (¬ (s 15 1) ≤ a1 → x_Desk_isOctet s a2 (fun r3 s4 => (¬ r3 = 0 → vp_in a1 200 ∧ ∀ v7 : Int32, v7 = (s4 0 (a1).toNatClampNeg) → vp_in a1 200 ∧ ∀ s9 : St, s9 = su s4 0 (a1).toNatClampNeg a2 → Post v7 s9) ∧ (r3 = 0 → Post (-1 : Int32) s4))))
def x_Desk_clear (s : St) (Post : Int32 → St → Prop) : Prop :=
  ∀ v1 : Int32, v1 = (s 15 1) → ∀ s2 : St, s2 = su s 15 1 (0 : Int32) → ∀ s3 : St, s3 = su s2 15 2 (0 : Int32) → Post v1 s3
def x_Desk_isPlace (s : St) (a0 : Int32) (Post : Int32 → St → Prop) : Prop :=
  (a0 < 0 → narrow .boolean (.int (0 : Int32)) = .int (0 : Int32) ∧ Post (0 : Int32) s) ∧ (¬ a0 < 0 → ((200 : Int32) < a0 → narrow .boolean (.int (0 : Int32)) = .int (0 : Int32) ∧ Post (0 : Int32) s) ∧ (¬ (200 : Int32) < a0 → narrow .boolean (.int (1 : Int32)) = .int (1 : Int32) ∧ Post (1 : Int32) s))
def x_Source_appendHandler (s : St) (a1 : Int32) (a2 : Int32) (a3 : Int32) (a4 : Int32) (Post : St → Prop) : Prop :=
  ((4 : Int32) ≤ (s 15 2) → Post s) ∧ (¬ (4 : Int32) ≤ (s 15 2) → ∀ v2 : Int32, v2 = ((s 15 2) * (4 : Int32)) → vp_in (v2 + (0 : Int32)) 16 ∧ ∀ s4 : St, s4 = su s 1 ((v2 + (0 : Int32))).toNatClampNeg a1 → vp_in (v2 + (1 : Int32)) 16 ∧ ∀ s6 : St, s6 = su s4 1 ((v2 + (1 : Int32))).toNatClampNeg a2 → vp_in (v2 + (2 : Int32)) 16 ∧ ∀ s8 : St, s8 = su s6 1 ((v2 + (2 : Int32))).toNatClampNeg a3 → vp_in (v2 + (3 : Int32)) 16 ∧ ∀ s10 : St, s10 = su s8 1 ((v2 + (3 : Int32))).toNatClampNeg a4 → ∀ s11 : St, s11 = su s10 15 2 ((s10 15 2) + (1 : Int32)) → Post s11)
def x_Desk_handler (s : St) (a1 : Int32) (a2 : Int32) (a3 : Int32) (a4 : Int32) (Post : Int32 → St → Prop) : Prop :=
  x_Desk_isOctet s a4 (fun r1 s2 => (r1 = 0 → Post (-1 : Int32) s2) ∧ (¬ r1 = 0 → x_Desk_isPlace s2 a1 (fun r4 s5 => (r4 = 0 → Post (-1 : Int32) s5) ∧ (¬ r4 = 0 → x_Desk_isPlace s5 a2 (fun r7 s8 => (r7 = 0 → Post (-1 : Int32) s8) ∧ (¬ r7 = 0 → x_Desk_isPlace s8 a3 (fun r10 s11 => (¬ r10 = 0 → ((s11 15 2) < (4 : Int32) → x_Source_appendHandler s11 a1 a2 a3 a4 (fun s15 => Post (s15 15 2) s15)) ∧ (¬ (s11 15 2) < (4 : Int32) → Post (-2 : Int32) s11)) ∧ (r10 = 0 → Post (-1 : Int32) s11))))))))
def x_Desk_mark (s : St) (a1 : Int32) (a2 : Int32) (Post : Int32 → St → Prop) : Prop :=
  (a1 < (1 : Int32) → narrow .boolean (.int (0 : Int32)) = .int (0 : Int32) ∧ Post (0 : Int32) s) ∧ (¬ a1 < (1 : Int32) → (a1 ≤ (255 : Int32) → vp_in a1 256 ∧ ∀ s4 : St, s4 = su s 3 (a1).toNatClampNeg (vp_nar .boolean a2) → narrow .boolean (.int (1 : Int32)) = .int (1 : Int32) ∧ Post (1 : Int32) s4) ∧ (¬ a1 ≤ (255 : Int32) → narrow .boolean (.int (0 : Int32)) = .int (0 : Int32) ∧ Post (0 : Int32) s))
def x_Desk_cost (s : St) (a1 : Int32) (a2 : Int32) (Post : Int32 → St → Prop) : Prop :=
  (a1 < 0 → Post (-1 : Int32) s) ∧ (¬ a1 < 0 → ((200 : Int32) < a1 → Post (-1 : Int32) s) ∧ (¬ (200 : Int32) < a1 → (a2 < 0 → Post (-1 : Int32) s) ∧ (¬ a2 < 0 → (a2 ≤ (99 : Int32) → vp_in a1 201 ∧ ∀ v6 : Int32, v6 = (s 2 (a1).toNatClampNeg) → vp_in a1 201 ∧ ∀ s8 : St, s8 = su s 2 (a1).toNatClampNeg a2 → Post v6 s8) ∧ (¬ a2 ≤ (99 : Int32) → Post (-1 : Int32) s))))
def x_Desk_set (s : St) (a1 : Int32) (a2 : Int32) (Post : Int32 → St → Prop) : Prop :=
  (a1 < 0 → narrow .boolean (.int (0 : Int32)) = .int (0 : Int32) ∧ Post (0 : Int32) s) ∧ (¬ a1 < 0 → ((65530 : Int32) < a1 → narrow .boolean (.int (0 : Int32)) = .int (0 : Int32) ∧ Post (0 : Int32) s) ∧ (¬ (65530 : Int32) < a1 → (a2 < (4 : Int32) → narrow .boolean (.int (0 : Int32)) = .int (0 : Int32) ∧ Post (0 : Int32) s) ∧ (¬ a2 < (4 : Int32) → (a2 ≤ (32767 : Int32) → ∀ s5 : St, s5 = su s 15 3 a1 → ∀ s6 : St, s6 = su s5 15 4 a2 → narrow .boolean (.int (1 : Int32)) = .int (1 : Int32) ∧ Post (1 : Int32) s6) ∧ (¬ a2 ≤ (32767 : Int32) → narrow .boolean (.int (0 : Int32)) = .int (0 : Int32) ∧ Post (0 : Int32) s))))
def x_Output_forget (s : St) (Post : St → Prop) : Prop :=
  ∀ s1 : St, s1 = su s 15 10 (0 : Int32) → ∀ s2 : St, s2 = su s1 15 11 (0 : Int32) → ∀ s3 : St, s3 = su s2 15 12 (0 : Int32) → ∀ s4 : St, s4 = su s3 15 13 (0 : Int32) → Post s4
def x_Arrays_fill_9_5F (Post : St → Prop) (K5 : St → Int32 → Int32 → Int32 → Prop) (s : St) (x1 : Int32) (x2 : Int32) (x3 : Int32) : Prop :=
  (x3 ≤ x2 → Post s) ∧ (¬ x3 ≤ x2 → vp_in x2 201 ∧ ∀ s3 : St, s3 = su s 5 (x2).toNatClampNeg x1 → ∀ v4 : Int32, v4 = x2 + 1 → K5 s3 x1 v4 x3)
def x_Arrays_fill_9_5 (Post : St → Prop) (n : Nat) (s : St) (x1 : Int32) (x2 : Int32) (x3 : Int32) : Prop :=
  itr (α := St × Int32 × Int32 × Int32) (fun K a => x_Arrays_fill_9_5F Post (fun s x1 x2 x3 => K (s, x1, x2, x3)) a.1 a.2.1 a.2.2.1 a.2.2.2) n (s, x1, x2, x3)
def x_Arrays_fill_9 (s : St) (a1 : Int32) (Post : St → Prop) : Prop :=
  ∃ n : Nat, x_Arrays_fill_9_5  Post n s a1 (0 : Int32) (201 : Int32)
def x_Arrays_fill_11_5F (Post : St → Prop) (K5 : St → Int32 → Int32 → Int32 → Prop) (s : St) (x1 : Int32) (x2 : Int32) (x3 : Int32) : Prop :=
  (x3 ≤ x2 → Post s) ∧ (¬ x3 ≤ x2 → vp_in x2 201 ∧ ∀ s3 : St, s3 = su s 7 (x2).toNatClampNeg x1 → ∀ v4 : Int32, v4 = x2 + 1 → K5 s3 x1 v4 x3)
def x_Arrays_fill_11_5 (Post : St → Prop) (n : Nat) (s : St) (x1 : Int32) (x2 : Int32) (x3 : Int32) : Prop :=
  itr (α := St × Int32 × Int32 × Int32) (fun K a => x_Arrays_fill_11_5F Post (fun s x1 x2 x3 => K (s, x1, x2, x3)) a.1 a.2.1 a.2.2.1 a.2.2.2) n (s, x1, x2, x3)
def x_Arrays_fill_11 (s : St) (a1 : Int32) (Post : St → Prop) : Prop :=
  ∃ n : Nat, x_Arrays_fill_11_5  Post n s a1 (0 : Int32) (201 : Int32)
def x_Layout_forget_18F (Post : St → Prop) (K18 : St → Int32 → Prop) (s : St) (x1 : Int32) : Prop :=
  ((200 : Int32) < x1 → ∀ s6 : St, s6 = su s 15 5 (0 : Int32) → ∀ s7 : St, s7 = su s6 15 6 (0 : Int32) → ∀ s8 : St, s8 = su s7 15 7 (0 : Int32) → ∀ s9 : St, s9 = su s8 15 8 (0 : Int32) → ∀ s10 : St, s10 = su s9 15 9 (0 : Int32) → Post s10) ∧ (¬ (200 : Int32) < x1 → vp_in x1 201 ∧ ∀ s12 : St, s12 = su s 8 (x1).toNatClampNeg (vp_nar .boolean (0 : Int32)) → vp_in x1 201 ∧ ∀ s14 : St, s14 = su s12 12 (x1).toNatClampNeg (vp_nar .boolean (0 : Int32)) → ∀ v15 : Int32, v15 = x1 + 1 → K18 s14 v15)
def x_Layout_forget_18 (Post : St → Prop) (n : Nat) (s : St) (x1 : Int32) : Prop :=
  itr (α := St × Int32) (fun K a => x_Layout_forget_18F Post (fun s x1 => K (s, x1)) a.1 a.2) n (s, x1)
def x_Layout_forget (s : St) (Post : St → Prop) : Prop :=
  x_Arrays_fill_9 s (0 : Int32) (fun s2 => x_Arrays_fill_11 s2 (-1 : Int32) (fun s4 => ∃ n : Nat, x_Layout_forget_18  Post n s4 (0 : Int32)))
def x_Source_u1 (s : St) (a1 : Int32) (Post : Int32 → St → Prop) : Prop :=
  (a1 < 0 → Post (0 : Int32) s) ∧ (¬ a1 < 0 → ((s 15 1) ≤ a1 → Post (0 : Int32) s) ∧ (¬ (s 15 1) ≤ a1 → vp_in a1 200 ∧ Post (s 0 (a1).toNatClampNeg) s))
def x_Opcodes_exists (s : St) (a0 : Int32) (Post : Int32 → St → Prop) : Prop :=
  (a0 < 0 → narrow .boolean (.int (0 : Int32)) = .int (0 : Int32) ∧ Post (0 : Int32) s) ∧ (¬ a0 < 0 → ((200 : Int32) < a0 → narrow .boolean (.int (0 : Int32)) = .int (0 : Int32) ∧ Post (0 : Int32) s) ∧ (¬ (200 : Int32) < a0 → (a0 = (168 : Int32) → narrow .boolean (.int (0 : Int32)) = .int (0 : Int32) ∧ Post (0 : Int32) s) ∧ (¬ a0 = (168 : Int32) → (a0 = (169 : Int32) → narrow .boolean (.int (0 : Int32)) = .int (0 : Int32) ∧ Post (0 : Int32) s) ∧ (¬ a0 = (169 : Int32) → narrow .boolean (.int (1 : Int32)) = .int (1 : Int32) ∧ Post (1 : Int32) s))))
def x_Opcodes_isSwitch_14 (Post : Int32 → St → Prop) (s : St) : Prop :=
  narrow .boolean (.int (1 : Int32)) = .int (1 : Int32) ∧ Post (1 : Int32) s
def x_Opcodes_isSwitch (s : St) (a0 : Int32) (Post : Int32 → St → Prop) : Prop :=
  (a0 = (170 : Int32) → x_Opcodes_isSwitch_14  Post s) ∧ (¬ a0 = (170 : Int32) → (¬ a0 = (171 : Int32) → narrow .boolean (.int (0 : Int32)) = .int (0 : Int32) ∧ Post (0 : Int32) s) ∧ (a0 = (171 : Int32) → x_Opcodes_isSwitch_14  Post s))
def x_Opcodes_isLocal_24 (Post : Int32 → St → Prop) (s : St) : Prop :=
  narrow .boolean (.int (1 : Int32)) = .int (1 : Int32) ∧ Post (1 : Int32) s
def x_Opcodes_isLocal_12 (Post : Int32 → St → Prop) (s : St) (x0 : Int32) : Prop :=
  (x0 < (54 : Int32) → narrow .boolean (.int (0 : Int32)) = .int (0 : Int32) ∧ Post (0 : Int32) s) ∧ (¬ x0 < (54 : Int32) → ((58 : Int32) < x0 → narrow .boolean (.int (0 : Int32)) = .int (0 : Int32) ∧ Post (0 : Int32) s) ∧ (¬ (58 : Int32) < x0 → x_Opcodes_isLocal_24  Post s))
def x_Opcodes_isLocal (s : St) (a0 : Int32) (Post : Int32 → St → Prop) : Prop :=
  (a0 < (21 : Int32) → x_Opcodes_isLocal_12  Post s a0) ∧ (¬ a0 < (21 : Int32) → (a0 ≤ (25 : Int32) → x_Opcodes_isLocal_24  Post s) ∧ (¬ a0 ≤ (25 : Int32) → x_Opcodes_isLocal_12  Post s a0))
def x_Opcodes_isShortJump_28 (Post : Int32 → St → Prop) (s : St) : Prop :=
  narrow .boolean (.int (1 : Int32)) = .int (1 : Int32) ∧ Post (1 : Int32) s
def x_Opcodes_isShortJump_14 (Post : Int32 → St → Prop) (s : St) (x0 : Int32) : Prop :=
  (x0 = (198 : Int32) → x_Opcodes_isShortJump_28  Post s) ∧ (¬ x0 = (198 : Int32) → (¬ x0 = (199 : Int32) → narrow .boolean (.int (0 : Int32)) = .int (0 : Int32) ∧ Post (0 : Int32) s) ∧ (x0 = (199 : Int32) → x_Opcodes_isShortJump_28  Post s))
def x_Opcodes_isShortJump (s : St) (a0 : Int32) (Post : Int32 → St → Prop) : Prop :=
  (a0 < (153 : Int32) → x_Opcodes_isShortJump_14  Post s a0) ∧ (¬ a0 < (153 : Int32) → (a0 ≤ (167 : Int32) → x_Opcodes_isShortJump_28  Post s) ∧ (¬ a0 ≤ (167 : Int32) → x_Opcodes_isShortJump_14  Post s a0))
def x_Opcodes_operands_170 (Post : Int32 → St → Prop) (s : St) : Prop :=
  Post (2 : Int32) s
def x_Opcodes_operands (s : St) (a0 : Int32) (Post : Int32 → St → Prop) : Prop :=
  (a0 = 16 → Post (1 : Int32) s) ∧ (a0 = 17 → Post (2 : Int32) s) ∧ (a0 = 18 → Post (1 : Int32) s) ∧ (a0 = 19 → Post (2 : Int32) s) ∧ (a0 = 20 → Post (2 : Int32) s) ∧ (a0 = 132 → Post (2 : Int32) s) ∧ (a0 = 185 → Post (4 : Int32) s) ∧ (a0 = 186 → Post (4 : Int32) s) ∧ (a0 = 187 → Post (2 : Int32) s) ∧ (a0 = 188 → Post (1 : Int32) s) ∧ (a0 = 189 → Post (2 : Int32) s) ∧ (a0 = 192 → Post (2 : Int32) s) ∧ (a0 = 193 → Post (2 : Int32) s) ∧ (a0 = 197 → Post (3 : Int32) s) ∧ (a0 = 200 → Post (4 : Int32) s) ∧ (¬ a0 = 16 → ¬ a0 = 17 → ¬ a0 = 18 → ¬ a0 = 19 → ¬ a0 = 20 → ¬ a0 = 132 → ¬ a0 = 185 → ¬ a0 = 186 → ¬ a0 = 187 → ¬ a0 = 188 → ¬ a0 = 189 → ¬ a0 = 192 → ¬ a0 = 193 → ¬ a0 = 197 → ¬ a0 = 200 → x_Opcodes_isLocal s a0 (fun r16 s17 => (r16 = 0 → x_Opcodes_isShortJump s17 a0 (fun r19 s20 => (¬ r19 = 0 → x_Opcodes_operands_170  Post s20) ∧ (r19 = 0 → (a0 < (178 : Int32) → Post (0 : Int32) s20) ∧ (¬ a0 < (178 : Int32) → ((184 : Int32) < a0 → Post (0 : Int32) s20) ∧ (¬ (184 : Int32) < a0 → x_Opcodes_operands_170  Post s20))))) ∧ (¬ r16 = 0 → Post (1 : Int32) s17)))
def x_Source_wordsFrom (s : St) (a0 : Int32) (Post : Int32 → St → Prop) : Prop :=
  Post ((a0 + (4 : Int32)) &&& (-4 : Int32)) s
def x_Source_s4 (s : St) (a1 : Int32) (Post : Int32 → St → Prop) : Prop :=
  x_Source_u1 s a1 (fun r1 s2 => x_Source_u1 s2 (a1 + (1 : Int32)) (fun r3 s4 => x_Source_u1 s4 (a1 + (2 : Int32)) (fun r5 s6 => x_Source_u1 s6 (a1 + (3 : Int32)) (fun r7 s8 => Post ((((r1 <<< ((24 : Int32) &&& 31)) ||| (r3 <<< ((16 : Int32) &&& 31))) ||| (r5 <<< ((8 : Int32) &&& 31))) ||| r7) s8))))
def x_Source_switchLength_110 (Post : Int32 → St → Prop) (s : St) (x1 : Int32) (x3 : Int32) (y0 : Int32) : Prop :=
  Post ((x3 - x1) + y0) s
def x_Source_switchLength_69 (Post : Int32 → St → Prop) (s : St) (x1 : Int32) (x3 : Int32) (x4 : Int32) (x5 : Int64) (y0 : Int32) (y1 : Int64) : Prop :=
  ((lg_cmp y1 (y0).toInt64) < 0 → Post (0 : Int32) s) ∧ (¬ (lg_cmp y1 (y0).toInt64) < 0 → ((lg_cmp x5 (20 : Int64)) ≤ 0 → (x4 = 0 → x_Source_switchLength_110  Post s x1 x3 ((8 : Int32) + ((8 : Int32) * (x5).toInt32))) ∧ (¬ x4 = 0 → x_Source_switchLength_110  Post s x1 x3 ((12 : Int32) + ((4 : Int32) * (x5).toInt32)))) ∧ (¬ (lg_cmp x5 (20 : Int64)) ≤ 0 → Post (0 : Int32) s))
def x_Source_switchLength_55 (Post : Int32 → St → Prop) (s : St) (x1 : Int32) (x3 : Int32) (x4 : Int32) (y0 : Int64) : Prop :=
  (x4 = 0 → x_Source_switchLength_69  Post s x1 x3 x4 y0 (0 : Int32) y0) ∧ (¬ x4 = 0 → x_Source_switchLength_69  Post s x1 x3 x4 y0 (1 : Int32) y0)
def x_Source_switchLength_17 (Post : Int32 → St → Prop) (s : St) (x1 : Int32) (x3 : Int32) (y0 : Int32) : Prop :=
  (y0 = 0 → x_Source_s4 s (x3 + (4 : Int32)) (fun r5 s6 => x_Source_switchLength_55  Post s6 x1 x3 y0 (r5).toInt64)) ∧ (¬ y0 = 0 → x_Source_s4 s (x3 + (8 : Int32)) (fun r7 s8 => x_Source_s4 s8 (x3 + (4 : Int32)) (fun r9 s10 => x_Source_switchLength_55  Post s10 x1 x3 y0 (((r7).toInt64 - (r9).toInt64) + (1 : Int64)))))
def x_Source_switchLength (s : St) (a1 : Int32) (a2 : Int32) (Post : Int32 → St → Prop) : Prop :=
  x_Source_wordsFrom s a1 (fun r1 s2 => (¬ a2 = (170 : Int32) → x_Source_switchLength_17  Post s2 a1 r1 (0 : Int32)) ∧ (a2 = (170 : Int32) → x_Source_switchLength_17  Post s2 a1 r1 (1 : Int32)))
def x_Source_wideLength (s : St) (a1 : Int32) (Post : Int32 → St → Prop) : Prop :=
  (¬ a1 = (132 : Int32) → x_Opcodes_isLocal s a1 (fun r2 s3 => (r2 = 0 → Post (0 : Int32) s3) ∧ (¬ r2 = 0 → Post (4 : Int32) s3))) ∧ (a1 = (132 : Int32) → Post (6 : Int32) s)
def x_Source_lengthAt_64 (Post : Int32 → St → Prop) (s : St) (x1 : Int32) (x3 : Int32) : Prop :=
  ((s 15 1) < (x1 + x3) → Post (0 : Int32) s) ∧ (¬ (s 15 1) < (x1 + x3) → Post x3 s)
def x_Source_lengthAt (s : St) (a1 : Int32) (Post : Int32 → St → Prop) : Prop :=
  x_Source_u1 s a1 (fun r1 s2 => x_Opcodes_exists s2 r1 (fun r3 s4 => (¬ r3 = 0 → (¬ r1 = (196 : Int32) → x_Opcodes_isSwitch s4 r1 (fun r7 s8 => (r7 = 0 → x_Opcodes_operands s8 r1 (fun r10 s11 => ∀ v12 : Int32, v12 = ((1 : Int32) + r10) → x_Source_lengthAt_64  Post s11 a1 v12)) ∧ (¬ r7 = 0 → x_Source_switchLength s8 a1 r1 (fun r13 s14 => x_Source_lengthAt_64  Post s14 a1 r13)))) ∧ (r1 = (196 : Int32) → x_Source_u1 s4 (a1 + (1 : Int32)) (fun r15 s16 => x_Source_wideLength s16 r15 (fun r17 s18 => x_Source_lengthAt_64  Post s18 a1 r17)))) ∧ (r3 = 0 → x_Source_lengthAt_64  Post s4 a1 (0 : Int32))))
def x_Layout_readInstructions_73 (K4 : St → Int32 → Int32 → Prop) (Post : Int32 → St → Prop) (s : St) (x2 : Int32) (x3 : Int32) (y0 : Int32) (y1 : Int32) : Prop :=
  vp_in y1 201 ∧ ∀ s13 : St, s13 = su s 12 (y1).toNatClampNeg (vp_nar .boolean y0) → vp_in x2 200 ∧ ∀ s15 : St, s15 = su s13 4 (x2).toNatClampNeg x3 → ∀ s16 : St, s16 = su s15 15 5 (x2 + (1 : Int32)) → vp_in x3 201 ∧ ∀ v18 : Int32, v18 = (x3 + (s16 5 (x3).toNatClampNeg)) → ∀ v19 : Int32, v19 = x2 + 1 → K4 s16 v18 v19
def x_Layout_readInstructions_103 (Post : Int32 → St → Prop) (s : St) : Prop :=
  ((s 15 5) ≤ 0 → narrow .boolean (.int (0 : Int32)) = .int (0 : Int32) ∧ Post (0 : Int32) s) ∧ (¬ (s 15 5) ≤ 0 → narrow .boolean (.int (1 : Int32)) = .int (1 : Int32) ∧ Post (1 : Int32) s)
def x_Layout_readInstructions_4F (Post : Int32 → St → Prop) (K4 : St → Int32 → Int32 → Prop) (s : St) (x1 : Int32) (x2 : Int32) : Prop :=
  ((200 : Int32) ≤ x2 → x_Layout_readInstructions_103  Post s) ∧ (¬ (200 : Int32) ≤ x2 → ((s 15 1) ≤ x1 → x_Layout_readInstructions_103  Post s) ∧ (¬ (s 15 1) ≤ x1 → x_Source_lengthAt s x1 (fun r3 s4 => vp_in x1 201 ∧ ∀ s6 : St, s6 = su s4 5 (x1).toNatClampNeg r3 → vp_in x1 201 ∧ (¬ (s6 5 (x1).toNatClampNeg) = 0 → x_Source_u1 s6 x1 (fun r9 s10 => (¬ r9 = (200 : Int32) → x_Layout_readInstructions_73 K4 Post s10 x2 x1 (0 : Int32) x1) ∧ (r9 = (200 : Int32) → x_Layout_readInstructions_73 K4 Post s10 x2 x1 (1 : Int32) x1))) ∧ ((s6 5 (x1).toNatClampNeg) = 0 → narrow .boolean (.int (0 : Int32)) = .int (0 : Int32) ∧ Post (0 : Int32) s6))))
def x_Layout_readInstructions_4 (Post : Int32 → St → Prop) (n : Nat) (s : St) (x1 : Int32) (x2 : Int32) : Prop :=
  itr (α := St × Int32 × Int32) (fun K a => x_Layout_readInstructions_4F Post (fun s x1 x2 => K (s, x1, x2)) a.1 a.2.1 a.2.2) n (s, x1, x2)
def x_Layout_readInstructions (s : St) (Post : Int32 → St → Prop) : Prop :=
  ∃ n : Nat, x_Layout_readInstructions_4  Post n s (0 : Int32) (0 : Int32)
def x_Layout_wordsOf (s : St) (a1 : Int32) (Post : Int32 → St → Prop) : Prop :=
  vp_in a1 201 ∧ x_Source_wordsFrom s a1 (fun r2 s3 => Post (((a1 + (s 5 (a1).toNatClampNeg)) - r2) / (4 : Int32)) s3)
def x_Opcodes_isGoalWord_23 (Post : Int32 → St → Prop) (s : St) : Prop :=
  narrow .boolean (.int (1 : Int32)) = .int (1 : Int32) ∧ Post (1 : Int32) s
def x_Opcodes_isGoalWord (s : St) (a0 : Int32) (a1 : Int32) (Post : Int32 → St → Prop) : Prop :=
  (a1 = 0 → x_Opcodes_isGoalWord_23  Post s) ∧ (¬ a1 = 0 → (a1 < (3 : Int32) → narrow .boolean (.int (0 : Int32)) = .int (0 : Int32) ∧ Post (0 : Int32) s) ∧ (¬ a1 < (3 : Int32) → (a0 = (170 : Int32) → x_Opcodes_isGoalWord_23  Post s) ∧ (¬ a0 = (170 : Int32) → (¬ (a1 - a1 / (2 : Int32) * (2 : Int32)) = (1 : Int32) → narrow .boolean (.int (0 : Int32)) = .int (0 : Int32) ∧ Post (0 : Int32) s) ∧ ((a1 - a1 / (2 : Int32) * (2 : Int32)) = (1 : Int32) → x_Opcodes_isGoalWord_23  Post s))))
def x_Source_wordGoal (s : St) (a1 : Int32) (a2 : Int32) (Post : Int32 → St → Prop) : Prop :=
  x_Source_wordsFrom s a1 (fun r1 s2 => x_Source_s4 s2 (r1 + ((4 : Int32) * a2)) (fun r3 s4 => Post (a1 + r3) s4))
def x_Layout_begins (s : St) (a1 : Int32) (Post : Int32 → St → Prop) : Prop :=
  (a1 < 0 → narrow .boolean (.int (0 : Int32)) = .int (0 : Int32) ∧ Post (0 : Int32) s) ∧ (¬ a1 < 0 → ((200 : Int32) < a1 → narrow .boolean (.int (0 : Int32)) = .int (0 : Int32) ∧ Post (0 : Int32) s) ∧ (¬ (200 : Int32) < a1 → vp_in a1 201 ∧ ((s 5 (a1).toNatClampNeg) ≤ 0 → narrow .boolean (.int (0 : Int32)) = .int (0 : Int32) ∧ Post (0 : Int32) s) ∧ (¬ (s 5 (a1).toNatClampNeg) ≤ 0 → narrow .boolean (.int (1 : Int32)) = .int (1 : Int32) ∧ Post (1 : Int32) s)))
def x_Layout_beginBlock (s : St) (a1 : Int32) (Post : Int32 → St → Prop) : Prop :=
  x_Layout_begins s a1 (fun r1 s2 => (¬ r1 = 0 → vp_in a1 201 ∧ ∀ s5 : St, s5 = su s2 7 (a1).toNatClampNeg (0 : Int32) → narrow .boolean (.int (1 : Int32)) = .int (1 : Int32) ∧ Post (1 : Int32) s5) ∧ (r1 = 0 → narrow .boolean (.int (0 : Int32)) = .int (0 : Int32) ∧ Post (0 : Int32) s2))
def x_Layout_readWordGoals_43 (K9 : St → Int32 → Int32 → Int32 → Int32 → Prop) (Post : Int32 → St → Prop) (s : St) (x1 : Int32) (x2 : Int32) (x3 : Int32) (x4 : Int32) : Prop :=
  ∀ v12 : Int32, v12 = x4 + 1 → K9 s x1 x2 x3 v12
def x_Layout_readWordGoals_9F (Post : Int32 → St → Prop) (K9 : St → Int32 → Int32 → Int32 → Int32 → Prop) (s : St) (x1 : Int32) (x2 : Int32) (x3 : Int32) (x4 : Int32) : Prop :=
  (x3 ≤ x4 → narrow .boolean (.int (1 : Int32)) = .int (1 : Int32) ∧ Post (1 : Int32) s) ∧ (¬ x3 ≤ x4 → x_Opcodes_isGoalWord s x2 x4 (fun r4 s5 => (r4 = 0 → x_Layout_readWordGoals_43 K9 Post s5 x1 x2 x3 x4) ∧ (¬ r4 = 0 → x_Source_wordGoal s5 x1 x4 (fun r7 s8 => x_Layout_beginBlock s8 r7 (fun r9 s10 => (¬ r9 = 0 → x_Layout_readWordGoals_43 K9 Post s10 x1 x2 x3 x4) ∧ (r9 = 0 → narrow .boolean (.int (0 : Int32)) = .int (0 : Int32) ∧ Post (0 : Int32) s10))))))
def x_Layout_readWordGoals_9 (Post : Int32 → St → Prop) (n : Nat) (s : St) (x1 : Int32) (x2 : Int32) (x3 : Int32) (x4 : Int32) : Prop :=
  itr (α := St × Int32 × Int32 × Int32 × Int32) (fun K a => x_Layout_readWordGoals_9F Post (fun s x1 x2 x3 x4 => K (s, x1, x2, x3, x4)) a.1 a.2.1 a.2.2.1 a.2.2.2.1 a.2.2.2.2) n (s, x1, x2, x3, x4)
def x_Layout_readWordGoals (s : St) (a1 : Int32) (a2 : Int32) (Post : Int32 → St → Prop) : Prop :=
  x_Layout_wordsOf s a1 (fun r1 s2 => ∃ n : Nat, x_Layout_readWordGoals_9  Post n s2 a1 a2 r1 (0 : Int32))
def x_Source_s2 (s : St) (a1 : Int32) (Post : Int32 → St → Prop) : Prop :=
  x_Source_u1 s a1 (fun r1 s2 => x_Source_u1 s2 (a1 + (1 : Int32)) (fun r3 s4 => Post (((r1 <<< ((8 : Int32) &&& 31)) ||| r3)).toInt16.toInt32 s4))
def x_Source_jumpGoal (s : St) (a1 : Int32) (Post : Int32 → St → Prop) : Prop :=
  x_Source_u1 s a1 (fun r1 s2 => (¬ r1 = (200 : Int32) → x_Source_s2 s2 (a1 + (1 : Int32)) (fun r4 s5 => Post (a1 + r4) s5)) ∧ (r1 = (200 : Int32) → x_Source_s4 s2 (a1 + (1 : Int32)) (fun r6 s7 => Post (a1 + r6) s7)))
def x_Layout_readGoals_75 (K2 : St → Int32 → Prop) (Post : Int32 → St → Prop) (s : St) (x1 : Int32) (x4 : Int32) : Prop :=
  (¬ x4 = 0 → ∀ v16 : Int32, v16 = x1 + 1 → K2 s v16) ∧ (x4 = 0 → narrow .boolean (.int (0 : Int32)) = .int (0 : Int32) ∧ Post (0 : Int32) s)
def x_Layout_readGoals_61 (K2 : St → Int32 → Prop) (Post : Int32 → St → Prop) (s : St) (x1 : Int32) (x2 : Int32) : Prop :=
  x_Source_jumpGoal s x2 (fun r17 s18 => x_Layout_beginBlock s18 r17 (fun r19 s20 => x_Layout_readGoals_75 K2 Post s20 x1 r19))
def x_Layout_readGoals_2F (Post : Int32 → St → Prop) (K2 : St → Int32 → Prop) (s : St) (x1 : Int32) : Prop :=
  ((s 15 5) ≤ x1 → narrow .boolean (.int (1 : Int32)) = .int (1 : Int32) ∧ Post (1 : Int32) s) ∧ (¬ (s 15 5) ≤ x1 → vp_in x1 200 ∧ ∀ v3 : Int32, v3 = (s 4 (x1).toNatClampNeg) → x_Source_u1 s v3 (fun r4 s5 => x_Opcodes_isSwitch s5 r4 (fun r6 s7 => (r6 = 0 → x_Opcodes_isShortJump s7 r4 (fun r9 s10 => (¬ r9 = 0 → x_Layout_readGoals_61 K2 Post s10 x1 v3) ∧ (r9 = 0 → (¬ r4 = (200 : Int32) → x_Layout_readGoals_75 K2 Post s10 x1 (1 : Int32)) ∧ (r4 = (200 : Int32) → x_Layout_readGoals_61 K2 Post s10 x1 v3)))) ∧ (¬ r6 = 0 → x_Layout_readWordGoals s7 v3 r4 (fun r13 s14 => x_Layout_readGoals_75 K2 Post s14 x1 r13)))))
def x_Layout_readGoals_2 (Post : Int32 → St → Prop) (n : Nat) (s : St) (x1 : Int32) : Prop :=
  itr (α := St × Int32) (fun K a => x_Layout_readGoals_2F Post (fun s x1 => K (s, x1)) a.1 a.2) n (s, x1)
def x_Layout_readGoals (s : St) (Post : Int32 → St → Prop) : Prop :=
  ∃ n : Nat, x_Layout_readGoals_2  Post n s (0 : Int32)
def x_Source_part (s : St) (a1 : Int32) (a2 : Int32) (Post : Int32 → St → Prop) : Prop :=
  vp_in ((a1 * (4 : Int32)) + a2) 16 ∧ Post (s 1 (((a1 * (4 : Int32)) + a2)).toNatClampNeg) s
def x_Tariff_isDangerous_13 (Post : Int32 → St → Prop) (s : St) : Prop :=
  narrow .boolean (.int (1 : Int32)) = .int (1 : Int32) ∧ Post (1 : Int32) s
def x_Tariff_isDangerous (s : St) (a1 : Int32) (Post : Int32 → St → Prop) : Prop :=
  (a1 = 0 → x_Tariff_isDangerous_13  Post s) ∧ (¬ a1 = 0 → vp_in a1 256 ∧ ((s 3 (a1).toNatClampNeg) = 0 → narrow .boolean (.int (0 : Int32)) = .int (0 : Int32) ∧ Post (0 : Int32) s) ∧ (¬ (s 3 (a1).toNatClampNeg) = 0 → x_Tariff_isDangerous_13  Post s))
def x_Layout_readHandlers_126 (K2 : St → Int32 → Prop) (Post : Int32 → St → Prop) (s : St) (x1 : Int32) : Prop :=
  ∀ v27 : Int32, v27 = x1 + 1 → K2 s v27
def x_Layout_readHandlers_68 (K2 : St → Int32 → Prop) (Post : Int32 → St → Prop) (s : St) (x1 : Int32) (x2 : Int32) (x3 : Int32) (x4 : Int32) (y0 : Int32) : Prop :=
  x_Layout_begins s x2 (fun r12 s13 => (r12 = 0 → narrow .boolean (.int (0 : Int32)) = .int (0 : Int32) ∧ Post (0 : Int32) s13) ∧ (¬ r12 = 0 → (y0 = 0 → narrow .boolean (.int (0 : Int32)) = .int (0 : Int32) ∧ Post (0 : Int32) s13) ∧ (¬ y0 = 0 → (x3 ≤ x2 → narrow .boolean (.int (0 : Int32)) = .int (0 : Int32) ∧ Post (0 : Int32) s13) ∧ (¬ x3 ≤ x2 → x_Layout_beginBlock s13 x4 (fun r17 s18 => (¬ r17 = 0 → x_Source_part s18 x1 (3 : Int32) (fun r20 s21 => x_Tariff_isDangerous s21 r20 (fun r22 s23 => (r22 = 0 → x_Layout_readHandlers_126 K2 Post s23 x1) ∧ (¬ r22 = 0 → vp_in x4 201 ∧ ∀ s26 : St, s26 = su s23 8 (x4).toNatClampNeg (vp_nar .boolean (1 : Int32)) → x_Layout_readHandlers_126 K2 Post s26 x1)))) ∧ (r17 = 0 → narrow .boolean (.int (0 : Int32)) = .int (0 : Int32) ∧ Post (0 : Int32) s18))))))
def x_Layout_readHandlers_63 (K2 : St → Int32 → Prop) (Post : Int32 → St → Prop) (s : St) (x1 : Int32) (x2 : Int32) (x3 : Int32) (x4 : Int32) : Prop :=
  x_Layout_readHandlers_68 K2 Post s x1 x2 x3 x4 (1 : Int32)
def x_Layout_readHandlers_2F (Post : Int32 → St → Prop) (K2 : St → Int32 → Prop) (s : St) (x1 : Int32) : Prop :=
  ((s 15 2) ≤ x1 → narrow .boolean (.int (1 : Int32)) = .int (1 : Int32) ∧ Post (1 : Int32) s) ∧ (¬ (s 15 2) ≤ x1 → x_Source_part s x1 (0 : Int32) (fun r2 s3 => x_Source_part s3 x1 (1 : Int32) (fun r4 s5 => x_Source_part s5 x1 (2 : Int32) (fun r6 s7 => x_Layout_begins s7 r4 (fun r8 s9 => (¬ r8 = 0 → x_Layout_readHandlers_63 K2 Post s9 x1 r2 r4 r6) ∧ (r8 = 0 → (¬ r4 = (s9 15 1) → x_Layout_readHandlers_68 K2 Post s9 x1 r2 r4 r6 (0 : Int32)) ∧ (r4 = (s9 15 1) → x_Layout_readHandlers_63 K2 Post s9 x1 r2 r4 r6)))))))
def x_Layout_readHandlers_2 (Post : Int32 → St → Prop) (n : Nat) (s : St) (x1 : Int32) : Prop :=
  itr (α := St × Int32) (fun K a => x_Layout_readHandlers_2F Post (fun s x1 => K (s, x1)) a.1 a.2) n (s, x1)
def x_Layout_readHandlers (s : St) (Post : Int32 → St → Prop) : Prop :=
  ∃ n : Nat, x_Layout_readHandlers_2  Post n s (0 : Int32)
def x_Opcodes_isReturn (s : St) (a0 : Int32) (Post : Int32 → St → Prop) : Prop :=
  (a0 < (172 : Int32) → narrow .boolean (.int (0 : Int32)) = .int (0 : Int32) ∧ Post (0 : Int32) s) ∧ (¬ a0 < (172 : Int32) → ((177 : Int32) < a0 → narrow .boolean (.int (0 : Int32)) = .int (0 : Int32) ∧ Post (0 : Int32) s) ∧ (¬ (177 : Int32) < a0 → narrow .boolean (.int (1 : Int32)) = .int (1 : Int32) ∧ Post (1 : Int32) s))
def x_Opcodes_endsBlock_35 (Post : Int32 → St → Prop) (s : St) : Prop :=
  narrow .boolean (.int (1 : Int32)) = .int (1 : Int32) ∧ Post (1 : Int32) s
def x_Opcodes_endsBlock (s : St) (a0 : Int32) (Post : Int32 → St → Prop) : Prop :=
  x_Opcodes_isShortJump s a0 (fun r1 s2 => (¬ r1 = 0 → x_Opcodes_endsBlock_35  Post s2) ∧ (r1 = 0 → x_Opcodes_isSwitch s2 a0 (fun r4 s5 => (¬ r4 = 0 → x_Opcodes_endsBlock_35  Post s5) ∧ (r4 = 0 → x_Opcodes_isReturn s5 a0 (fun r7 s8 => (¬ r7 = 0 → x_Opcodes_endsBlock_35  Post s8) ∧ (r7 = 0 → (a0 = (191 : Int32) → x_Opcodes_endsBlock_35  Post s8) ∧ (¬ a0 = (191 : Int32) → (¬ a0 = (200 : Int32) → narrow .boolean (.int (0 : Int32)) = .int (0 : Int32) ∧ Post (0 : Int32) s8) ∧ (a0 = (200 : Int32) → x_Opcodes_endsBlock_35  Post s8))))))))
def x_Layout_sumBlocks_99 (K6 : St → Int32 → Int32 → Int32 → Prop) (Post : St → Prop) (s : St) (x1 : Int32) (x3 : Int32) (x5 : Int32) (y0 : Int32) : Prop :=
  vp_in y0 201 ∧ ∀ v13 : Int32, v13 = (s 2 (y0).toNatClampNeg) → vp_in x1 201 ∧ vp_in x1 201 ∧ ∀ s16 : St, s16 = su s 7 (x1).toNatClampNeg ((s 7 (x1).toNatClampNeg) + v13) → ∀ s17 : St, s17 = su s16 15 9 ((s16 15 9) + v13) → x_Opcodes_endsBlock s17 x5 (fun r18 s19 => ∀ v20 : Int32, v20 = x3 + 1 → K6 s19 x1 r18 v20)
def x_Layout_sumBlocks_68 (K6 : St → Int32 → Int32 → Int32 → Prop) (Post : St → Prop) (s : St) (x1 : Int32) (x3 : Int32) (x4 : Int32) (x5 : Int32) : Prop :=
  (¬ x5 = (196 : Int32) → x_Layout_sumBlocks_99 K6 Post s x1 x3 x5 x5) ∧ (x5 = (196 : Int32) → x_Source_u1 s (x4 + (1 : Int32)) (fun r10 s11 => x_Layout_sumBlocks_99 K6 Post s11 x1 x3 x5 r10))
def x_Layout_sumBlocks_47 (K6 : St → Int32 → Int32 → Int32 → Prop) (Post : St → Prop) (s : St) (x3 : Int32) (x4 : Int32) (x5 : Int32) : Prop :=
  vp_in x4 201 ∧ ∀ s22 : St, s22 = su s 7 (x4).toNatClampNeg (0 : Int32) → ∀ s23 : St, s23 = su s22 15 6 ((s22 15 6) + (1 : Int32)) → x_Layout_sumBlocks_68 K6 Post s23 x4 x3 x4 x5
def x_Layout_sumBlocks_6F (Post : St → Prop) (K6 : St → Int32 → Int32 → Int32 → Prop) (s : St) (x1 : Int32) (x2 : Int32) (x3 : Int32) : Prop :=
  ((s 15 5) ≤ x3 → Post s) ∧ (¬ (s 15 5) ≤ x3 → vp_in x3 200 ∧ ∀ v3 : Int32, v3 = (s 4 (x3).toNatClampNeg) → x_Source_u1 s v3 (fun r4 s5 => (¬ x2 = 0 → x_Layout_sumBlocks_47 K6 Post s5 x3 v3 r4) ∧ (x2 = 0 → vp_in v3 201 ∧ ((s5 7 (v3).toNatClampNeg) < 0 → x_Layout_sumBlocks_68 K6 Post s5 x1 x3 v3 r4) ∧ (¬ (s5 7 (v3).toNatClampNeg) < 0 → x_Layout_sumBlocks_47 K6 Post s5 x3 v3 r4))))
def x_Layout_sumBlocks_6 (Post : St → Prop) (n : Nat) (s : St) (x1 : Int32) (x2 : Int32) (x3 : Int32) : Prop :=
  itr (α := St × Int32 × Int32 × Int32) (fun K a => x_Layout_sumBlocks_6F Post (fun s x1 x2 x3 => K (s, x1, x2, x3)) a.1 a.2.1 a.2.2.1 a.2.2.2) n (s, x1, x2, x3)
def x_Layout_sumBlocks (s : St) (Post : St → Prop) : Prop :=
  ∃ n : Nat, x_Layout_sumBlocks_6  Post n s (0 : Int32) (1 : Int32) (0 : Int32)
def x_Layout_pushLength (s : St) (a0 : Int32) (Post : Int32 → St → Prop) : Prop :=
  ((5 : Int32) < a0 → ((127 : Int32) < a0 → Post (3 : Int32) s) ∧ (¬ (127 : Int32) < a0 → Post (2 : Int32) s)) ∧ (¬ (5 : Int32) < a0 → Post (1 : Int32) s)
def x_Opcodes_makesArray_14 (Post : Int32 → St → Prop) (s : St) : Prop :=
  narrow .boolean (.int (1 : Int32)) = .int (1 : Int32) ∧ Post (1 : Int32) s
def x_Opcodes_makesArray (s : St) (a0 : Int32) (Post : Int32 → St → Prop) : Prop :=
  (a0 = (188 : Int32) → x_Opcodes_makesArray_14  Post s) ∧ (¬ a0 = (188 : Int32) → (¬ a0 = (189 : Int32) → narrow .boolean (.int (0 : Int32)) = .int (0 : Int32) ∧ Post (0 : Int32) s) ∧ (a0 = (189 : Int32) → x_Opcodes_makesArray_14  Post s))
def x_Layout_measureLeads_105 (K2 : St → Int32 → Prop) (Post : St → Prop) (s : St) (x1 : Int32) (y0 : Int32) (y1 : Int32) (y2 : Int32) : Prop :=
  vp_in y2 201 ∧ ∀ s21 : St, s21 = su s 9 (y2).toNatClampNeg (y1 + y0) → ∀ v22 : Int32, v22 = x1 + 1 → K2 s21 v22
def x_Layout_measureLeads_92 (K2 : St → Int32 → Prop) (Post : St → Prop) (s : St) (x1 : Int32) (x3 : Int32) (y0 : Int32) (y1 : Int32) (y2 : Int32) : Prop :=
  x_Opcodes_makesArray s x3 (fun r17 s18 => (r17 = 0 → x_Layout_measureLeads_105 K2 Post s18 x1 (0 : Int32) (y1 + y0) y2) ∧ (¬ r17 = 0 → x_Layout_measureLeads_105 K2 Post s18 x1 (4 : Int32) (y1 + y0) y2))
def x_Layout_measureLeads_79 (K2 : St → Int32 → Prop) (Post : St → Prop) (s : St) (x1 : Int32) (x3 : Int32) (y0 : Int32) (y1 : Int32) (y2 : Int32) : Prop :=
  x_Opcodes_isReturn s x3 (fun r14 s15 => (r14 = 0 → x_Layout_measureLeads_92 K2 Post s15 x1 x3 (0 : Int32) (y1 + y0) y2) ∧ (¬ r14 = 0 → x_Layout_measureLeads_92 K2 Post s15 x1 x3 (3 : Int32) (y1 + y0) y2))
def x_Layout_measureLeads_54 (K2 : St → Int32 → Prop) (Post : St → Prop) (s : St) (x1 : Int32) (x2 : Int32) (x3 : Int32) (y0 : Int32) (y1 : Int32) (y2 : Int32) : Prop :=
  vp_in x2 201 ∧ ((s 7 (x2).toNatClampNeg) ≤ 0 → x_Layout_measureLeads_79 K2 Post s x1 x3 (0 : Int32) (y1 + y0) y2) ∧ (¬ (s 7 (x2).toNatClampNeg) ≤ 0 → vp_in x2 201 ∧ x_Layout_pushLength s (s 7 (x2).toNatClampNeg) (fun r12 s13 => x_Layout_measureLeads_79 K2 Post s13 x1 x3 (r12 + (3 : Int32)) (y1 + y0) y2))
def x_Layout_measureLeads_40 (K2 : St → Int32 → Prop) (Post : St → Prop) (s : St) (x1 : Int32) (x2 : Int32) (x3 : Int32) (y0 : Int32) (y1 : Int32) : Prop :=
  vp_in x2 201 ∧ ((s 8 (x2).toNatClampNeg) = 0 → x_Layout_measureLeads_54 K2 Post s x1 x2 x3 (0 : Int32) y0 y1) ∧ (¬ (s 8 (x2).toNatClampNeg) = 0 → x_Layout_measureLeads_54 K2 Post s x1 x2 x3 (4 : Int32) y0 y1)
def x_Layout_measureLeads_2F (Post : St → Prop) (K2 : St → Int32 → Prop) (s : St) (x1 : Int32) : Prop :=
  ((s 15 5) ≤ x1 → Post s) ∧ (¬ (s 15 5) ≤ x1 → vp_in x1 200 ∧ ∀ v3 : Int32, v3 = (s 4 (x1).toNatClampNeg) → x_Source_u1 s v3 (fun r4 s5 => (¬ v3 = 0 → x_Layout_measureLeads_40 K2 Post s5 x1 v3 r4 (0 : Int32) v3) ∧ (v3 = 0 → x_Layout_measureLeads_40 K2 Post s5 x1 v3 r4 (3 : Int32) v3)))
def x_Layout_measureLeads_2 (Post : St → Prop) (n : Nat) (s : St) (x1 : Int32) : Prop :=
  itr (α := St × Int32) (fun K a => x_Layout_measureLeads_2F Post (fun s x1 => K (s, x1)) a.1 a.2) n (s, x1)
def x_Layout_measureLeads (s : St) (Post : St → Prop) : Prop :=
  ∃ n : Nat, x_Layout_measureLeads_2  Post n s (0 : Int32)
def x_Layout_lengthAtSpot_64 (Post : Int32 → St → Prop) (s : St) : Prop :=
  Post (5 : Int32) s
def x_Layout_lengthAtSpot (s : St) (a1 : Int32) (Post : Int32 → St → Prop) : Prop :=
  x_Source_u1 s a1 (fun r1 s2 => x_Opcodes_isSwitch s2 r1 (fun r3 s4 => (r3 = 0 → vp_in a1 201 ∧ ((s4 12 (a1).toNatClampNeg) = 0 → vp_in a1 201 ∧ Post (s4 5 (a1).toNatClampNeg) s4) ∧ (¬ (s4 12 (a1).toNatClampNeg) = 0 → (r1 = (167 : Int32) → x_Layout_lengthAtSpot_64  Post s4) ∧ (¬ r1 = (167 : Int32) → (¬ r1 = (200 : Int32) → Post (8 : Int32) s4) ∧ (r1 = (200 : Int32) → x_Layout_lengthAtSpot_64  Post s4)))) ∧ (¬ r3 = 0 → vp_in a1 201 ∧ x_Source_wordsFrom s4 (s4 11 (a1).toNatClampNeg) (fun r12 s13 => vp_in a1 201 ∧ x_Layout_wordsOf s13 a1 (fun r15 s16 => Post ((r12 - (s13 11 (a1).toNatClampNeg)) + ((4 : Int32) * r15)) s16)))))
def x_Layout_givePlaces_34 (K4 : St → Int32 → Int32 → Prop) (Post : St → Prop) (s : St) (x1 : Int32) (x2 : Int32) (x3 : Int32) (y0 : Int32) (y1 : Int32) (y2 : Int32) : Prop :=
  vp_in y2 201 ∧ ∀ s8 : St, s8 = su s 10 (y2).toNatClampNeg (y1 + y0) → vp_in x3 201 ∧ vp_in x3 201 ∧ ∀ s11 : St, s11 = su s8 11 (x3).toNatClampNeg (x1 + (s8 9 (x3).toNatClampNeg)) → x_Layout_lengthAtSpot s11 x3 (fun r12 s13 => vp_in x3 201 ∧ ∀ s15 : St, s15 = su s13 6 (x3).toNatClampNeg r12 → vp_in x3 201 ∧ vp_in x3 201 ∧ ∀ v18 : Int32, v18 = ((s15 11 (x3).toNatClampNeg) + (s15 6 (x3).toNatClampNeg)) → ∀ v19 : Int32, v19 = x2 + 1 → K4 s15 v18 v19)
def x_Layout_givePlaces_4F (Post : St → Prop) (K4 : St → Int32 → Int32 → Prop) (s : St) (x1 : Int32) (x2 : Int32) : Prop :=
  ((s 15 5) ≤ x2 → vp_in (s 15 1) 201 ∧ ∀ s3 : St, s3 = su s 10 ((s 15 1)).toNatClampNeg x1 → Post s3) ∧ (¬ (s 15 5) ≤ x2 → vp_in x2 200 ∧ ∀ v5 : Int32, v5 = (s 4 (x2).toNatClampNeg) → (¬ v5 = 0 → x_Layout_givePlaces_34 K4 Post s x1 x2 v5 (0 : Int32) x1 v5) ∧ (v5 = 0 → x_Layout_givePlaces_34 K4 Post s x1 x2 v5 (3 : Int32) x1 v5))
def x_Layout_givePlaces_4 (Post : St → Prop) (n : Nat) (s : St) (x1 : Int32) (x2 : Int32) : Prop :=
  itr (α := St × Int32 × Int32) (fun K a => x_Layout_givePlaces_4F Post (fun s x1 x2 => K (s, x1, x2)) a.1 a.2.1 a.2.2) n (s, x1, x2)
def x_Layout_givePlaces (s : St) (Post : St → Prop) : Prop :=
  ∃ n : Nat, x_Layout_givePlaces_4  Post n s (0 : Int32) (0 : Int32)
def x_Layout_stretchJumps_109 (K7 : St → Int32 → Int32 → Prop) (Post : Int32 → St → Prop) (s : St) (x1 : Int32) (x2 : Int32) : Prop :=
  ∀ v23 : Int32, v23 = x2 + 1 → K7 s x1 v23
def x_Layout_stretchJumps_92 (K7 : St → Int32 → Int32 → Prop) (Post : Int32 → St → Prop) (s : St) (x1 : Int32) (x2 : Int32) (x3 : Int32) : Prop :=
  vp_in x3 201 ∧ ∀ s21 : St, s21 = su s 12 (x3).toNatClampNeg (vp_nar .boolean (1 : Int32)) → ∀ s22 : St, s22 = su s21 15 8 ((s21 15 8) + (1 : Int32)) → x_Layout_stretchJumps_109 K7 Post s22 x1 x2
def x_Layout_stretchJumps_7F (Post : Int32 → St → Prop) (K7 : St → Int32 → Int32 → Prop) (s : St) (x1 : Int32) (x2 : Int32) : Prop :=
  ((s 15 5) ≤ x2 → ((s 15 8) ≤ x1 → narrow .boolean (.int (0 : Int32)) = .int (0 : Int32) ∧ Post (0 : Int32) s) ∧ (¬ (s 15 8) ≤ x1 → narrow .boolean (.int (1 : Int32)) = .int (1 : Int32) ∧ Post (1 : Int32) s)) ∧ (¬ (s 15 5) ≤ x2 → vp_in x2 200 ∧ ∀ v5 : Int32, v5 = (s 4 (x2).toNatClampNeg) → vp_in v5 201 ∧ (¬ (s 12 (v5).toNatClampNeg) = 0 → x_Layout_stretchJumps_109 K7 Post s x1 x2) ∧ ((s 12 (v5).toNatClampNeg) = 0 → x_Source_u1 s v5 (fun r8 s9 => x_Opcodes_isShortJump s9 r8 (fun r10 s11 => (r10 = 0 → x_Layout_stretchJumps_109 K7 Post s11 x1 x2) ∧ (¬ r10 = 0 → x_Source_jumpGoal s11 v5 (fun r13 s14 => vp_in r13 201 ∧ vp_in v5 201 ∧ ∀ v17 : Int32, v17 = ((s14 10 (r13).toNatClampNeg) - (s14 11 (v5).toNatClampNeg)) → (v17 < (-(s14 15 4)) → x_Layout_stretchJumps_92 K7 Post s14 x1 x2 v5) ∧ (¬ v17 < (-(s14 15 4)) → (v17 ≤ (s14 15 4) → x_Layout_stretchJumps_109 K7 Post s14 x1 x2) ∧ (¬ v17 ≤ (s14 15 4) → x_Layout_stretchJumps_92 K7 Post s14 x1 x2 v5))))))))
def x_Layout_stretchJumps_7 (Post : Int32 → St → Prop) (n : Nat) (s : St) (x1 : Int32) (x2 : Int32) : Prop :=
  itr (α := St × Int32 × Int32) (fun K a => x_Layout_stretchJumps_7F Post (fun s x1 x2 => K (s, x1, x2)) a.1 a.2.1 a.2.2) n (s, x1, x2)
def x_Layout_stretchJumps (s : St) (Post : Int32 → St → Prop) : Prop :=
  ∀ v1 : Int32, v1 = (s 15 8) → ∃ n : Nat, x_Layout_stretchJumps_7  Post n s v1 (0 : Int32)
def x_Layout_settle_2F (Post : St → Prop) (K2 : St → Int32 → Prop) (s : St) (x1 : Int32) : Prop :=
  (x1 = 0 → Post s) ∧ (¬ x1 = 0 → ((200 : Int32) < (s 15 7) → Post s) ∧ (¬ (200 : Int32) < (s 15 7) → ∀ s3 : St, s3 = su s 15 7 ((s 15 7) + (1 : Int32)) → x_Layout_givePlaces s3 (fun s5 => x_Layout_stretchJumps s5 (fun r6 s7 => K2 s7 r6))))
def x_Layout_settle_2 (Post : St → Prop) (n : Nat) (s : St) (x1 : Int32) : Prop :=
  itr (α := St × Int32) (fun K a => x_Layout_settle_2F Post (fun s x1 => K (s, x1)) a.1 a.2) n (s, x1)
def x_Layout_settle (s : St) (Post : St → Prop) : Prop :=
  ∃ n : Nat, x_Layout_settle_2  Post n s (1 : Int32)
def x_Layout_make_63 (Post : Int32 → St → Prop) (s : St) (x1 : Int32) : Prop :=
  (x1 = 0 → Post x1 s) ∧ (¬ x1 = 0 → x_Layout_forget s (fun s22 => Post x1 s22))
def x_Layout_make_62 (Post : Int32 → St → Prop) (s : St) (y0 : Int32) : Prop :=
  x_Layout_make_63  Post s y0
def x_Layout_make (s : St) (Post : Int32 → St → Prop) : Prop :=
  x_Layout_forget s (fun s2 => x_Layout_readInstructions s2 (fun r3 s4 => (r3 = 0 → x_Layout_make_63  Post s4 (1 : Int32)) ∧ (¬ r3 = 0 → x_Layout_readGoals s4 (fun r6 s7 => (r6 = 0 → x_Layout_make_63  Post s7 (1 : Int32)) ∧ (¬ r6 = 0 → x_Layout_readHandlers s7 (fun r9 s10 => (r9 = 0 → x_Layout_make_63  Post s10 (1 : Int32)) ∧ (¬ r9 = 0 → x_Layout_sumBlocks s10 (fun s13 => x_Layout_measureLeads s13 (fun s15 => x_Layout_settle s15 (fun s17 => vp_in (s17 15 1) 201 ∧ ((s17 10 ((s17 15 1)).toNatClampNeg) ≤ (1200 : Int32) → x_Layout_make_62  Post s17 (0 : Int32)) ∧ (¬ (s17 10 ((s17 15 1)).toNatClampNeg) ≤ (1200 : Int32) → x_Layout_make_62  Post s17 (2 : Int32))))))))))))
def x_Output_writeGuards_19F (K2 : St → Int32 → Prop) (Post : St → Prop) (K19 : St → Int32 → Int32 → Int32 → Prop) (s : St) (x1 : Int32) (x2 : Int32) (x3 : Int32) : Prop :=
  ((2 : Int32) < x3 → x_Source_part s x1 (3 : Int32) (fun r5 s6 => vp_in (x2 + (3 : Int32)) 16 ∧ ∀ s8 : St, s8 = su s6 14 ((x2 + (3 : Int32))).toNatClampNeg r5 → ∀ v9 : Int32, v9 = x1 + 1 → K2 s8 v9)) ∧ (¬ (2 : Int32) < x3 → x_Source_part s x1 x3 (fun r10 s11 => vp_in r10 201 ∧ vp_in (x2 + x3) 16 ∧ ∀ s14 : St, s14 = su s11 14 ((x2 + x3)).toNatClampNeg (s11 10 (r10).toNatClampNeg) → ∀ v15 : Int32, v15 = x3 + 1 → K19 s14 x1 x2 v15))
def x_Output_writeGuards_19 (K2 : St → Int32 → Prop) (Post : St → Prop) (n : Nat) (s : St) (x1 : Int32) (x2 : Int32) (x3 : Int32) : Prop :=
  itr (α := St × Int32 × Int32 × Int32) (fun K a => x_Output_writeGuards_19F K2 Post (fun s x1 x2 x3 => K (s, x1, x2, x3)) a.1 a.2.1 a.2.2.1 a.2.2.2) n (s, x1, x2, x3)
def x_Output_writeGuards_2F (Post : St → Prop) (K2 : St → Int32 → Prop) (s : St) (x1 : Int32) : Prop :=
  ((s 15 2) ≤ x1 → ∀ s2 : St, s2 = su s 15 11 (s 15 2) → Post s2) ∧ (¬ (s 15 2) ≤ x1 → ∀ v3 : Int32, v3 = (x1 * (4 : Int32)) → ∃ n : Nat, x_Output_writeGuards_19 K2 Post n s x1 v3 (0 : Int32))
def x_Output_writeGuards_2 (Post : St → Prop) (n : Nat) (s : St) (x1 : Int32) : Prop :=
  itr (α := St × Int32) (fun K a => x_Output_writeGuards_2F Post (fun s x1 => K (s, x1)) a.1 a.2) n (s, x1)
def x_Output_writeGuards (s : St) (Post : St → Prop) : Prop :=
  ∃ n : Nat, x_Output_writeGuards_2  Post n s (0 : Int32)
def x_Output_put1 (s : St) (a1 : Int32) (Post : St → Prop) : Prop :=
  ((1200 : Int32) ≤ (s 15 10) → Post s) ∧ (¬ (1200 : Int32) ≤ (s 15 10) → ∀ s2 : St, s2 = su s 15 10 ((s 15 10) + (1 : Int32)) → vp_in (s 15 10) 1200 ∧ ∀ s4 : St, s4 = su s2 13 ((s 15 10)).toNatClampNeg (a1 &&& (255 : Int32)) → Post s4)
def x_Output_put2 (s : St) (a1 : Int32) (Post : St → Prop) : Prop :=
  x_Output_put1 s (a1 >>> ((8 : Int32) &&& 31)) (fun s2 => x_Output_put1 s2 a1 (fun s4 => Post s4))
def x_Output_putCall (s : St) (a1 : Int32) (Post : St → Prop) : Prop :=
  x_Output_put1 s (184 : Int32) (fun s2 => x_Output_put2 s2 ((s2 15 3) + a1) (fun s4 => ∀ s5 : St, s5 = su s4 15 12 ((s4 15 12) + (1 : Int32)) → Post s5))
def x_Output_putDuplicate (s : St) (Post : St → Prop) : Prop :=
  x_Output_put1 s (89 : Int32) (fun s2 => ∀ s3 : St, s3 = su s2 15 13 ((s2 15 13) + (1 : Int32)) → Post s3)
def x_Output_putCost_46 (Post : St → Prop) (s : St) : Prop :=
  ∀ s13 : St, s13 = su s 15 13 ((s 15 13) + (1 : Int32)) → Post s13
def x_Output_putCost (s : St) (a1 : Int32) (Post : St → Prop) : Prop :=
  ((5 : Int32) < a1 → ((127 : Int32) < a1 → x_Output_put1 s (17 : Int32) (fun s4 => x_Output_put2 s4 a1 (fun s6 => x_Output_putCost_46  Post s6))) ∧ (¬ (127 : Int32) < a1 → x_Output_put1 s (16 : Int32) (fun s8 => x_Output_put1 s8 a1 (fun s10 => x_Output_putCost_46  Post s10)))) ∧ (¬ (5 : Int32) < a1 → x_Output_put1 s ((3 : Int32) + a1) (fun s12 => x_Output_putCost_46  Post s12))
def x_Output_writeLead_81 (Post : St → Prop) (s : St) (x2 : Int32) : Prop :=
  x_Opcodes_makesArray s x2 (fun r24 s25 => (r24 = 0 → Post s25) ∧ (¬ r24 = 0 → x_Output_putDuplicate s25 (fun s28 => x_Output_putCall s28 (1 : Int32) (fun s30 => Post s30))))
def x_Output_writeLead_69 (Post : St → Prop) (s : St) (x2 : Int32) : Prop :=
  x_Opcodes_isReturn s x2 (fun r19 s20 => (r19 = 0 → x_Output_writeLead_81  Post s20 x2) ∧ (¬ r19 = 0 → x_Output_putCall s20 (3 : Int32) (fun s23 => x_Output_writeLead_81  Post s23 x2)))
def x_Output_writeLead_39 (Post : St → Prop) (s : St) (x1 : Int32) (x2 : Int32) : Prop :=
  vp_in x1 201 ∧ ((s 7 (x1).toNatClampNeg) ≤ 0 → x_Output_writeLead_69  Post s x2) ∧ (¬ (s 7 (x1).toNatClampNeg) ≤ 0 → vp_in x1 201 ∧ x_Output_putCost s (s 7 (x1).toNatClampNeg) (fun s16 => x_Output_putCall s16 (0 : Int32) (fun s18 => x_Output_writeLead_69  Post s18 x2)))
def x_Output_writeLead_18 (Post : St → Prop) (s : St) (x1 : Int32) (x2 : Int32) : Prop :=
  vp_in x1 201 ∧ ((s 8 (x1).toNatClampNeg) = 0 → x_Output_writeLead_39  Post s x1 x2) ∧ (¬ (s 8 (x1).toNatClampNeg) = 0 → x_Output_putDuplicate s (fun s9 => x_Output_putCall s9 (4 : Int32) (fun s11 => x_Output_writeLead_39  Post s11 x1 x2)))
def x_Output_writeLead (s : St) (a1 : Int32) (Post : St → Prop) : Prop :=
  x_Source_u1 s a1 (fun r1 s2 => (¬ a1 = 0 → x_Output_writeLead_18  Post s2 a1 r1) ∧ (a1 = 0 → x_Output_putCall s2 (2 : Int32) (fun s5 => x_Output_writeLead_18  Post s5 a1 r1)))
def x_Opcodes_opposite (s : St) (a0 : Int32) (Post : Int32 → St → Prop) : Prop :=
  ((167 : Int32) ≤ a0 → Post (a0 ^^^ (1 : Int32)) s) ∧ (¬ (167 : Int32) ≤ a0 → Post (((a0 - (153 : Int32)) ^^^ (1 : Int32)) + (153 : Int32)) s)
def x_Output_put4 (s : St) (a1 : Int32) (Post : St → Prop) : Prop :=
  x_Output_put2 s (a1 >>> ((16 : Int32) &&& 31)) (fun s2 => x_Output_put2 s2 a1 (fun s4 => Post s4))
def x_Output_writeFarJump_28 (Post : St → Prop) (s : St) (x1 : Int32) : Prop :=
  ∀ v9 : Int32, v9 = (s 15 10) → x_Output_put1 s (200 : Int32) (fun s11 => x_Source_jumpGoal s11 x1 (fun r12 s13 => vp_in r12 201 ∧ x_Output_put4 s13 ((s13 10 (r12).toNatClampNeg) - v9) (fun s16 => Post s16)))
def x_Output_writeFarJump (s : St) (a1 : Int32) (a2 : Int32) (Post : St → Prop) : Prop :=
  (a2 = (167 : Int32) → x_Output_writeFarJump_28  Post s a1) ∧ (¬ a2 = (167 : Int32) → (a2 = (200 : Int32) → x_Output_writeFarJump_28  Post s a1) ∧ (¬ a2 = (200 : Int32) → x_Opcodes_opposite s a2 (fun r3 s4 => x_Output_put1 s4 r3 (fun s6 => x_Output_put2 s6 (8 : Int32) (fun s8 => x_Output_writeFarJump_28  Post s8 a1)))))
def x_Output_writeSwitch_134 (K63 : St → Int32 → Int32 → Int32 → Int32 → Prop) (Post : St → Prop) (s : St) (x1 : Int32) (x2 : Int32) (x4 : Int32) (x5 : Int32) : Prop :=
  ∀ v30 : Int32, v30 = x5 + 1 → K63 s x1 x2 x4 v30
def x_Output_writeSwitch_63F (Post : St → Prop) (K63 : St → Int32 → Int32 → Int32 → Int32 → Prop) (s : St) (x1 : Int32) (x2 : Int32) (x4 : Int32) (x5 : Int32) : Prop :=
  (x4 ≤ x5 → Post s) ∧ (¬ x4 ≤ x5 → x_Opcodes_isGoalWord s x2 x5 (fun r15 s16 => (r15 = 0 → x_Source_wordsFrom s16 x1 (fun r18 s19 => x_Source_s4 s19 (r18 + ((4 : Int32) * x5)) (fun r20 s21 => x_Output_put4 s21 r20 (fun s23 => x_Output_writeSwitch_134 K63 Post s23 x1 x2 x4 x5)))) ∧ (¬ r15 = 0 → x_Source_wordGoal s16 x1 x5 (fun r24 s25 => vp_in r24 201 ∧ vp_in x1 201 ∧ x_Output_put4 s25 ((s25 10 (r24).toNatClampNeg) - (s25 11 (x1).toNatClampNeg)) (fun s29 => x_Output_writeSwitch_134 K63 Post s29 x1 x2 x4 x5)))))
def x_Output_writeSwitch_63 (Post : St → Prop) (n : Nat) (s : St) (x1 : Int32) (x2 : Int32) (x4 : Int32) (x5 : Int32) : Prop :=
  itr (α := St × Int32 × Int32 × Int32 × Int32) (fun K a => x_Output_writeSwitch_63F Post (fun s x1 x2 x4 x5 => K (s, x1, x2, x4, x5)) a.1 a.2.1 a.2.2.1 a.2.2.2.1 a.2.2.2.2) n (s, x1, x2, x4, x5)
def x_Output_writeSwitch_33F (Post : St → Prop) (K33 : St → Int32 → Int32 → Int32 → Int32 → Prop) (s : St) (x1 : Int32) (x2 : Int32) (x3 : Int32) (x4 : Int32) : Prop :=
  (x3 ≤ x4 → x_Layout_wordsOf s x1 (fun r9 s10 => ∃ n : Nat, x_Output_writeSwitch_63  Post n s10 x1 x2 r9 (0 : Int32))) ∧ (¬ x3 ≤ x4 → x_Output_put1 s (0 : Int32) (fun s12 => ∀ v13 : Int32, v13 = x4 + 1 → K33 s12 x1 x2 x3 v13))
def x_Output_writeSwitch_33 (Post : St → Prop) (n : Nat) (s : St) (x1 : Int32) (x2 : Int32) (x3 : Int32) (x4 : Int32) : Prop :=
  itr (α := St × Int32 × Int32 × Int32 × Int32) (fun K a => x_Output_writeSwitch_33F Post (fun s x1 x2 x3 x4 => K (s, x1, x2, x3, x4)) a.1 a.2.1 a.2.2.1 a.2.2.2.1 a.2.2.2.2) n (s, x1, x2, x3, x4)
def x_Output_writeSwitch (s : St) (a1 : Int32) (a2 : Int32) (Post : St → Prop) : Prop :=
  x_Output_put1 s a2 (fun s2 => vp_in a1 201 ∧ x_Source_wordsFrom s2 (s2 11 (a1).toNatClampNeg) (fun r4 s5 => vp_in a1 201 ∧ ∀ v7 : Int32, v7 = ((r4 - (s5 11 (a1).toNatClampNeg)) - (1 : Int32)) → ∃ n : Nat, x_Output_writeSwitch_33  Post n s5 a1 a2 v7 (0 : Int32)))
def x_Output_writeInstruction_93F (Post : St → Prop) (K93 : St → Int32 → Int32 → Prop) (s : St) (x1 : Int32) (x3 : Int32) : Prop :=
  vp_in x1 201 ∧ ((s 5 (x1).toNatClampNeg) ≤ x3 → Post s) ∧ (¬ (s 5 (x1).toNatClampNeg) ≤ x3 → x_Source_u1 s (x1 + x3) (fun r25 s26 => x_Output_put1 s26 r25 (fun s28 => ∀ v29 : Int32, v29 = x3 + 1 → K93 s28 x1 v29)))
def x_Output_writeInstruction_93 (Post : St → Prop) (n : Nat) (s : St) (x1 : Int32) (x3 : Int32) : Prop :=
  itr (α := St × Int32 × Int32) (fun K a => x_Output_writeInstruction_93F Post (fun s x1 x3 => K (s, x1, x3)) a.1 a.2.1 a.2.2) n (s, x1, x3)
def x_Output_writeInstruction (s : St) (a1 : Int32) (Post : St → Prop) : Prop :=
  x_Source_u1 s a1 (fun r1 s2 => x_Opcodes_isSwitch s2 r1 (fun r3 s4 => (r3 = 0 → vp_in a1 201 ∧ ((s4 12 (a1).toNatClampNeg) = 0 → x_Opcodes_isShortJump s4 r1 (fun r8 s9 => (r8 = 0 → ∃ n : Nat, x_Output_writeInstruction_93  Post n s9 a1 (0 : Int32)) ∧ (¬ r8 = 0 → x_Output_put1 s9 r1 (fun s12 => x_Source_jumpGoal s12 a1 (fun r13 s14 => vp_in r13 201 ∧ vp_in a1 201 ∧ x_Output_put2 s14 ((s14 10 (r13).toNatClampNeg) - (s14 11 (a1).toNatClampNeg)) (fun s18 => Post s18)))))) ∧ (¬ (s4 12 (a1).toNatClampNeg) = 0 → x_Output_writeFarJump s4 a1 r1 (fun s20 => Post s20))) ∧ (¬ r3 = 0 → x_Output_writeSwitch s4 a1 r1 (fun s22 => Post s22))))
def x_Output_write_2F (Post : St → Prop) (K2 : St → Int32 → Prop) (s : St) (x1 : Int32) : Prop :=
  ((s 15 5) ≤ x1 → x_Output_writeGuards s (fun s3 => Post s3)) ∧ (¬ (s 15 5) ≤ x1 → vp_in x1 200 ∧ ∀ v5 : Int32, v5 = (s 4 (x1).toNatClampNeg) → x_Output_writeLead s v5 (fun s7 => x_Output_writeInstruction s7 v5 (fun s9 => ∀ v10 : Int32, v10 = x1 + 1 → K2 s9 v10)))
def x_Output_write_2 (Post : St → Prop) (n : Nat) (s : St) (x1 : Int32) : Prop :=
  itr (α := St × Int32) (fun K a => x_Output_write_2F Post (fun s x1 => K (s, x1)) a.1 a.2) n (s, x1)
def x_Output_write (s : St) (Post : St → Prop) : Prop :=
  ∃ n : Nat, x_Output_write_2  Post n s (0 : Int32)
def x_Desk_rewrite (s : St) (Post : Int32 → St → Prop) : Prop :=
  x_Output_forget s (fun s2 => x_Layout_make s2 (fun r3 s4 => (¬ r3 = 0 → Post r3 s4) ∧ (r3 = 0 → x_Output_write s4 (fun s7 => ∀ s8 : St, s8 = su s7 15 0 ((s7 15 0) + (1 : Int32)) → Post r3 s8))))
def x_Desk_octet (s : St) (a1 : Int32) (Post : Int32 → St → Prop) : Prop :=
  (a1 < 0 → Post (-1 : Int32) s) ∧ (¬ a1 < 0 → ((s 15 10) ≤ a1 → Post (-1 : Int32) s) ∧ (¬ (s 15 10) ≤ a1 → vp_in a1 1200 ∧ Post (s 13 (a1).toNatClampNeg) s))
def x_Desk_moved (s : St) (a1 : Int32) (a2 : Int32) (Post : Int32 → St → Prop) : Prop :=
  x_Layout_begins s a1 (fun r1 s2 => (¬ r1 = 0 → (a2 = 0 → vp_in a1 201 ∧ Post (s2 10 (a1).toNatClampNeg) s2) ∧ (a2 = 1 → vp_in a1 201 ∧ Post (s2 11 (a1).toNatClampNeg) s2) ∧ (a2 = 2 → vp_in a1 201 ∧ vp_in a1 201 ∧ Post ((s2 9 (a1).toNatClampNeg) + (s2 6 (a1).toNatClampNeg)) s2) ∧ (a2 = 3 → vp_in a1 201 ∧ Post (s2 7 (a1).toNatClampNeg) s2) ∧ (a2 = 4 → vp_in a1 201 ∧ ((s2 12 (a1).toNatClampNeg) = 0 → Post (0 : Int32) s2) ∧ (¬ (s2 12 (a1).toNatClampNeg) = 0 → Post (1 : Int32) s2)) ∧ (¬ a2 = 0 → ¬ a2 = 1 → ¬ a2 = 2 → ¬ a2 = 3 → ¬ a2 = 4 → Post (-1 : Int32) s2)) ∧ (r1 = 0 → Post (-1 : Int32) s2))
def x_Desk_back_2F (Post : Int32 → St → Prop) (K2 : St → Int32 → Int32 → Prop) (s : St) (x1 : Int32) (x2 : Int32) : Prop :=
  ((s 15 5) ≤ x2 → Post (-1 : Int32) s) ∧ (¬ (s 15 5) ≤ x2 → vp_in x2 200 ∧ ∀ v3 : Int32, v3 = (s 4 (x2).toNatClampNeg) → vp_in v3 201 ∧ (¬ (s 11 (v3).toNatClampNeg) = x1 → ∀ v6 : Int32, v6 = x2 + 1 → K2 s x1 v6) ∧ ((s 11 (v3).toNatClampNeg) = x1 → Post v3 s))
def x_Desk_back_2 (Post : Int32 → St → Prop) (n : Nat) (s : St) (x1 : Int32) (x2 : Int32) : Prop :=
  itr (α := St × Int32 × Int32) (fun K a => x_Desk_back_2F Post (fun s x1 x2 => K (s, x1, x2)) a.1 a.2.1 a.2.2) n (s, x1, x2)
def x_Desk_back (s : St) (a1 : Int32) (Post : Int32 → St → Prop) : Prop :=
  ∃ n : Nat, x_Desk_back_2  Post n s a1 (0 : Int32)
def x_Desk_guard (s : St) (a1 : Int32) (a2 : Int32) (Post : Int32 → St → Prop) : Prop :=
  (a1 < 0 → Post (-1 : Int32) s) ∧ (¬ a1 < 0 → ((s 15 11) ≤ a1 → Post (-1 : Int32) s) ∧ (¬ (s 15 11) ≤ a1 → (a2 < 0 → Post (-1 : Int32) s) ∧ (¬ a2 < 0 → (a2 < (4 : Int32) → vp_in ((a1 * (4 : Int32)) + a2) 16 ∧ Post (s 14 (((a1 * (4 : Int32)) + a2)).toNatClampNeg) s) ∧ (¬ a2 < (4 : Int32) → Post (-1 : Int32) s))))
def x_Desk_about (s : St) (a1 : Int32) (Post : Int32 → St → Prop) : Prop :=
  (a1 = 0 → Post (s 15 10) s) ∧ (a1 = 1 → Post (s 15 5) s) ∧ (a1 = 2 → Post (s 15 6) s) ∧ (a1 = 3 → Post (s 15 7) s) ∧ (a1 = 4 → Post (s 15 8) s) ∧ (a1 = 5 → Post (s 15 9) s) ∧ (a1 = 6 → Post (s 15 12) s) ∧ (a1 = 7 → Post (s 15 13) s) ∧ (¬ a1 = 0 → ¬ a1 = 1 → ¬ a1 = 2 → ¬ a1 = 3 → ¬ a1 = 4 → ¬ a1 = 5 → ¬ a1 = 6 → ¬ a1 = 7 → Post (-1 : Int32) s)
def x_Desk_count (s : St) (a1 : Int32) (Post : Int32 → St → Prop) : Prop :=
  (a1 = 0 → Post (s 15 1) s) ∧ (a1 = 1 → Post (s 15 2) s) ∧ (a1 = 2 → Post (s 15 0) s) ∧ (¬ a1 = 0 → ¬ a1 = 1 → ¬ a1 = 2 → Post (-1 : Int32) s)
