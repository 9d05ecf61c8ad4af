def wM (ad : Nat → Nat) (ca : Nat → ClassId) (s : St) : va_W := [
  (ad 0, .inr (5, [.ref (ad 1), .ref (ad 2), .ref (ad 3), .ref (ad 4), .ref (ad 5), .ref (ad 6), .ref (ad 7), .int (s 19 0), .int (s 19 1), .int (s 19 2), .int (s 19 3), .int (s 19 4), .ref (ad 8), .ref (ad 9), .ref (ad 10), .ref (ad 11), .ref (ad 12), .ref (ad 13), .ref (ad 14), .ref (ad 15), .ref (ad 16), .ref (ad 17), .ref (ad 18), .ref (ad 19), .int (s 19 5), .int (s 19 6), .int (s 19 7), .int (s 19 8), .int (s 19 9), .int (s 19 10), .int (s 19 11), .int (s 19 12), .int (s 19 13), .int (s 19 14), .int (s 19 15), .int (s 19 16)])),
  (ad 1, .inl (ca 0, 200, .inl (s 0))),
  (ad 2, .inl (ca 1, 4, .inl (s 1))),
  (ad 3, .inl (ca 2, 4, .inl (s 2))),
  (ad 4, .inl (ca 3, 4, .inl (s 3))),
  (ad 5, .inl (ca 4, 4, .inl (s 4))),
  (ad 6, .inl (ca 5, 201, .inl (s 5))),
  (ad 7, .inl (ca 6, 256, .inl (s 6))),
  (ad 8, .inl (ca 7, 201, .inl (s 7))),
  (ad 9, .inl (ca 8, 201, .inl (s 8))),
  (ad 10, .inl (ca 9, 200, .inl (s 9))),
  (ad 11, .inl (ca 10, 201, .inl (s 10))),
  (ad 12, .inl (ca 11, 201, .inl (s 11))),
  (ad 13, .inl (ca 12, 201, .inl (s 12))),
  (ad 14, .inl (ca 13, 201, .inl (s 13))),
  (ad 15, .inl (ca 14, 1300, .inl (s 14))),
  (ad 16, .inl (ca 15, 4, .inl (s 15))),
  (ad 17, .inl (ca 16, 4, .inl (s 16))),
  (ad 18, .inl (ca 17, 4, .inl (s 17))),
  (ad 19, .inl (ca 18, 4, .inl (s 18)))]
def tyM (ca : Nat → ClassId) : List (ClassId × FieldType) := [(ca 0, .int), (ca 1, .int), (ca 2, .int), (ca 3, .int), (ca 4, .int), (ca 5, .int), (ca 6, .boolean), (ca 7, .boolean), (ca 8, .boolean), (ca 9, .int), (ca 10, .int), (ca 11, .int), (ca 12, .int), (ca 13, .int), (ca 14, .int), (ca 15, .int), (ca 16, .int), (ca 17, .int), (ca 18, .int)]
def x_Model_in (s : St) (a0 : Int32) (a1 : Int32) (a2 : Int32) (Post : Int32 → St → Prop) : Prop :=
  (a0 < a1 → narrow .boolean (.int (0 : Int32)) = .int (0 : Int32) ∧ Post (0 : Int32) s) ∧ (¬ a0 < a1 → (a2 < a0 → narrow .boolean (.int (0 : Int32)) = .int (0 : Int32) ∧ Post (0 : Int32) s) ∧ (¬ a2 < a0 → narrow .boolean (.int (1 : Int32)) = .int (1 : Int32) ∧ Post (1 : Int32) s))
def x_Model_code_30F (Post : Int32 → St → Prop) (K30 : St → Int64 → Int32 → Int32 → Prop) (s : St) (x1 : Int64) (x3 : Int32) (x4 : Int32) : Prop :=
  (x3 ≤ x4 → ∀ s6 : St, s6 = su s 19 0 ((s 19 0) + x3) → Post (s6 19 0) s6) ∧ (¬ x3 ≤ x4 → vp_in ((s 19 0) + x4) 200 ∧ ∀ s8 : St, s8 = su s 0 (((s 19 0) + x4)).toNatClampNeg ((((x1).toUInt64 >>> ((((56 : Int32) - ((8 : Int32) * x4))).toInt64.toUInt64 &&& Int64.toUInt64 63)).toInt64 &&& (255 : Int64))).toInt32 → ∀ v9 : Int32, v9 = x4 + 1 → K30 s8 x1 x3 v9)
def x_Model_code_30 (Post : Int32 → St → Prop) (n : Nat) (s : St) (x1 : Int64) (x3 : Int32) (x4 : Int32) : Prop :=
  itr (α := St × Int64 × Int32 × Int32) (fun K a => x_Model_code_30F Post (fun s x1 x3 x4 => K (s, x1, x3, x4)) a.1 a.2.1 a.2.2.1 a.2.2.2) n (s, x1, x3, x4)
def x_Model_code (s : St) (a1 : Int64) (a3 : Int32) (Post : Int32 → St → Prop) : Prop :=
  x_Model_in s a3 (1 : Int32) (8 : Int32) (fun r1 s2 => (¬ r1 = 0 → (((s2 19 0) + a3) ≤ (200 : Int32) → ∃ n : Nat, x_Model_code_30  Post n s2 a1 a3 (0 : Int32)) ∧ (¬ ((s2 19 0) + a3) ≤ (200 : Int32) → Post (-2 : Int32) s2)) ∧ (r1 = 0 → Post (-1 : Int32) s2))
def x_Model_change (s : St) (a1 : Int32) (a2 : Int32) (Post : Int32 → St → Prop) : Prop :=
  x_Model_in s a1 (0 : Int32) ((s 19 0) - (1 : Int32)) (fun r1 s2 => (r1 = 0 → Post (-1 : Int32) s2) ∧ (¬ r1 = 0 → x_Model_in s2 a2 (0 : Int32) (255 : Int32) (fun r4 s5 => (¬ r4 = 0 → vp_in a1 200 ∧ ∀ v8 : Int32, v8 = (s5 0 (a1).toNatClampNeg) → vp_in a1 200 ∧ ∀ s10 : St, s10 = su s5 0 (a1).toNatClampNeg a2 → Post v8 s10) ∧ (r4 = 0 → Post (-1 : Int32) s5))))
def x_Model_clear (s : St) (Post : Int32 → St → Prop) : Prop :=
  ∀ v1 : Int32, v1 = (s 19 0) → ∀ s2 : St, s2 = su s 19 0 (0 : Int32) → ∀ s3 : St, s3 = su s2 19 1 (0 : Int32) → Post v1 s3
def x_Model_handler (s : St) (a1 : Int32) (a2 : Int32) (a3 : Int32) (a4 : Int32) (Post : Int32 → St → Prop) : Prop :=
  x_Model_in s a4 (0 : Int32) (255 : Int32) (fun r1 s2 => (r1 = 0 → Post (-1 : Int32) s2) ∧ (¬ r1 = 0 → x_Model_in s2 a1 (0 : Int32) (200 : Int32) (fun r4 s5 => (r4 = 0 → Post (-1 : Int32) s5) ∧ (¬ r4 = 0 → x_Model_in s5 a2 (0 : Int32) (200 : Int32) (fun r7 s8 => (r7 = 0 → Post (-1 : Int32) s8) ∧ (¬ r7 = 0 → x_Model_in s8 a3 (0 : Int32) (200 : Int32) (fun r10 s11 => (¬ r10 = 0 → (¬ (s11 19 1) = (4 : Int32) → vp_in (s11 19 1) 4 ∧ ∀ s15 : St, s15 = su s11 1 ((s11 19 1)).toNatClampNeg a1 → vp_in (s15 19 1) 4 ∧ ∀ s17 : St, s17 = su s15 2 ((s15 19 1)).toNatClampNeg a2 → vp_in (s17 19 1) 4 ∧ ∀ s19 : St, s19 = su s17 3 ((s17 19 1)).toNatClampNeg a3 → vp_in (s19 19 1) 4 ∧ ∀ s21 : St, s21 = su s19 4 ((s19 19 1)).toNatClampNeg a4 → ∀ s22 : St, s22 = su s21 19 1 ((s21 19 1) + (1 : Int32)) → Post (s22 19 1) s22) ∧ ((s11 19 1) = (4 : Int32) → Post (-2 : Int32) s11)) ∧ (r10 = 0 → Post (-1 : Int32) s11))))))))
def x_Model_mark (s : St) (a1 : Int32) (a2 : Int32) (Post : Int32 → St → Prop) : Prop :=
  x_Model_in s a1 (1 : Int32) (255 : Int32) (fun r1 s2 => (¬ r1 = 0 → vp_in a1 256 ∧ ∀ s5 : St, s5 = su s2 6 (a1).toNatClampNeg (vp_nar .boolean a2) → narrow .boolean (.int (1 : Int32)) = .int (1 : Int32) ∧ Post (1 : Int32) s5) ∧ (r1 = 0 → narrow .boolean (.int (0 : Int32)) = .int (0 : Int32) ∧ Post (0 : Int32) s2))
def x_Model_cost (s : St) (a1 : Int32) (a2 : Int32) (Post : Int32 → St → Prop) : Prop :=
  x_Model_in s a1 (0 : Int32) (200 : Int32) (fun r1 s2 => (r1 = 0 → Post (-1 : Int32) s2) ∧ (¬ r1 = 0 → x_Model_in s2 a2 (0 : Int32) (99 : Int32) (fun r4 s5 => (¬ r4 = 0 → vp_in a1 201 ∧ ∀ v8 : Int32, v8 = (s5 5 (a1).toNatClampNeg) → vp_in a1 201 ∧ ∀ s10 : St, s10 = su s5 5 (a1).toNatClampNeg a2 → Post v8 s10) ∧ (r4 = 0 → Post (-1 : Int32) s5))))
def x_Model_set (s : St) (a1 : Int32) (a2 : Int32) (Post : Int32 → St → Prop) : Prop :=
  x_Model_in s a1 (0 : Int32) (65530 : Int32) (fun r1 s2 => (r1 = 0 → narrow .boolean (.int (0 : Int32)) = .int (0 : Int32) ∧ Post (0 : Int32) s2) ∧ (¬ r1 = 0 → x_Model_in s2 a2 (4 : Int32) (32767 : Int32) (fun r4 s5 => (¬ r4 = 0 → ∀ s7 : St, s7 = su s5 19 2 a1 → ∀ s8 : St, s8 = su s7 19 3 a2 → narrow .boolean (.int (1 : Int32)) = .int (1 : Int32) ∧ Post (1 : Int32) s8) ∧ (r4 = 0 → narrow .boolean (.int (0 : Int32)) = .int (0 : Int32) ∧ Post (0 : Int32) s5))))
def x_Model_s4 (s : St) (a1 : Int32) (Post : Int32 → St → Prop) : Prop :=
  vp_in a1 200 ∧ vp_in (a1 + (1 : Int32)) 200 ∧ vp_in (a1 + (2 : Int32)) 200 ∧ vp_in (a1 + (3 : Int32)) 200 ∧ Post (((((s 9 (a1).toNatClampNeg) <<< ((24 : Int32) &&& 31)) ||| ((s 9 ((a1 + (1 : Int32))).toNatClampNeg) <<< ((16 : Int32) &&& 31))) ||| ((s 9 ((a1 + (2 : Int32))).toNatClampNeg) <<< ((8 : Int32) &&& 31))) ||| (s 9 ((a1 + (3 : Int32))).toNatClampNeg)) s
def x_Model_isJump_26 (Post : Int32 → St → Prop) (s : St) : Prop :=
  narrow .boolean (.int (1 : Int32)) = .int (1 : Int32) ∧ Post (1 : Int32) s
def x_Model_isJump (s : St) (a0 : Int32) (Post : Int32 → St → Prop) : Prop :=
  x_Model_in s a0 (153 : Int32) (167 : Int32) (fun r1 s2 => (¬ r1 = 0 → x_Model_isJump_26  Post s2) ∧ (r1 = 0 → x_Model_in s2 a0 (198 : Int32) (200 : Int32) (fun r4 s5 => (r4 = 0 → narrow .boolean (.int (0 : Int32)) = .int (0 : Int32) ∧ Post (0 : Int32) s5) ∧ (¬ r4 = 0 → x_Model_isJump_26  Post s5))))
def x_Model_isTable_14 (Post : Int32 → St → Prop) (s : St) : Prop :=
  narrow .boolean (.int (1 : Int32)) = .int (1 : Int32) ∧ Post (1 : Int32) s
def x_Model_isTable (s : St) (a0 : Int32) (Post : Int32 → St → Prop) : Prop :=
  (a0 = (170 : Int32) → x_Model_isTable_14  Post s) ∧ (¬ a0 = (170 : Int32) → (¬ a0 = (171 : Int32) → narrow .boolean (.int (0 : Int32)) = .int (0 : Int32) ∧ Post (0 : Int32) s) ∧ (a0 = (171 : Int32) → x_Model_isTable_14  Post s))
def x_Model_plain_170 (Post : Int32 → St → Prop) (s : St) : Prop :=
  Post (5 : Int32) s
def x_Model_plain (s : St) (a0 : Int32) (Post : Int32 → St → Prop) : Prop :=
  (a0 = (16 : Int32) → Post (2 : Int32) s) ∧ (¬ a0 = (16 : Int32) → (a0 = (18 : Int32) → Post (2 : Int32) s) ∧ (¬ a0 = (18 : Int32) → x_Model_in s a0 (21 : Int32) (25 : Int32) (fun r3 s4 => (¬ r3 = 0 → Post (2 : Int32) s4) ∧ (r3 = 0 → x_Model_in s4 a0 (54 : Int32) (58 : Int32) (fun r6 s7 => (¬ r6 = 0 → Post (2 : Int32) s7) ∧ (r6 = 0 → (¬ a0 = (188 : Int32) → (a0 = (17 : Int32) → Post (3 : Int32) s7) ∧ (¬ a0 = (17 : Int32) → (a0 = (19 : Int32) → Post (3 : Int32) s7) ∧ (¬ a0 = (19 : Int32) → (a0 = (20 : Int32) → Post (3 : Int32) s7) ∧ (¬ a0 = (20 : Int32) → (a0 = (132 : Int32) → Post (3 : Int32) s7) ∧ (¬ a0 = (132 : Int32) → x_Model_in s7 a0 (153 : Int32) (167 : Int32) (fun r14 s15 => (¬ r14 = 0 → Post (3 : Int32) s15) ∧ (r14 = 0 → x_Model_in s15 a0 (178 : Int32) (184 : Int32) (fun r17 s18 => (¬ r17 = 0 → Post (3 : Int32) s18) ∧ (r17 = 0 → (a0 = (187 : Int32) → Post (3 : Int32) s18) ∧ (¬ a0 = (187 : Int32) → (a0 = (189 : Int32) → Post (3 : Int32) s18) ∧ (¬ a0 = (189 : Int32) → (a0 = (192 : Int32) → Post (3 : Int32) s18) ∧ (¬ a0 = (192 : Int32) → (a0 = (193 : Int32) → Post (3 : Int32) s18) ∧ (¬ a0 = (193 : Int32) → (a0 = (198 : Int32) → Post (3 : Int32) s18) ∧ (¬ a0 = (198 : Int32) → (¬ a0 = (199 : Int32) → (¬ a0 = (197 : Int32) → (a0 = (185 : Int32) → x_Model_plain_170  Post s18) ∧ (¬ a0 = (185 : Int32) → (a0 = (186 : Int32) → x_Model_plain_170  Post s18) ∧ (¬ a0 = (186 : Int32) → (¬ a0 = (200 : Int32) → Post (1 : Int32) s18) ∧ (a0 = (200 : Int32) → x_Model_plain_170  Post s18)))) ∧ (a0 = (197 : Int32) → Post (4 : Int32) s18)) ∧ (a0 = (199 : Int32) → Post (3 : Int32) s18))))))))))))))) ∧ (a0 = (188 : Int32) → Post (2 : Int32) s7)))))))
def x_Model_length_244 (Post : Int32 → St → Prop) (s : St) (x1 : Int32) (x3 : Int32) : Prop :=
  ((x1 + x3) ≤ (s 19 5) → Post x3 s) ∧ (¬ (x1 + x3) ≤ (s 19 5) → Post (0 : Int32) s)
def x_Model_length_108 (Post : Int32 → St → Prop) (s : St) (x1 : Int32) (y0 : Int32) : Prop :=
  x_Model_length_244  Post s x1 y0
def x_Model_length_90 (Post : Int32 → St → Prop) (s : St) (x1 : Int32) : Prop :=
  x_Model_length_108  Post s x1 (4 : Int32)
def x_Model_length_64 (Post : Int32 → St → Prop) (s : St) (x1 : Int32) (y0 : Int32) : Prop :=
  x_Model_in s y0 (21 : Int32) (25 : Int32) (fun r15 s16 => (¬ r15 = 0 → x_Model_length_90  Post s16 x1) ∧ (r15 = 0 → x_Model_in s16 y0 (54 : Int32) (58 : Int32) (fun r18 s19 => (r18 = 0 → (¬ y0 = (132 : Int32) → x_Model_length_108  Post s19 x1 (0 : Int32)) ∧ (y0 = (132 : Int32) → x_Model_length_108  Post s19 x1 (6 : Int32))) ∧ (¬ r18 = 0 → x_Model_length_90  Post s19 x1))))
def x_Model_length_238 (Post : Int32 → St → Prop) (s : St) (x1 : Int32) (x5 : Int64) (y0 : Int32) (y1 : Int32) : Prop :=
  ∀ v35 : Int32, v35 = (y1 + (y0 * (x5).toInt32)) → x_Model_length_244  Post s x1 v35
def x_Model_length_207 (Post : Int32 → St → Prop) (s : St) (x1 : Int32) (x2 : Int32) (x4 : Int32) (x5 : Int64) (y0 : Int32) (y1 : Int64) : Prop :=
  ((lg_cmp y1 (y0).toInt64) < 0 → Post (0 : Int32) s) ∧ (¬ (lg_cmp y1 (y0).toInt64) < 0 → ((lg_cmp x5 (20 : Int64)) ≤ 0 → (¬ x2 = (170 : Int32) → x_Model_length_238  Post s x1 x5 (8 : Int32) x4) ∧ (x2 = (170 : Int32) → x_Model_length_238  Post s x1 x5 (4 : Int32) x4)) ∧ (¬ (lg_cmp x5 (20 : Int64)) ≤ 0 → Post (0 : Int32) s))
def x_Model_length_193 (Post : Int32 → St → Prop) (s : St) (x1 : Int32) (x2 : Int32) (x4 : Int32) (x5 : Int64) : Prop :=
  (¬ x2 = (170 : Int32) → x_Model_length_207  Post s x1 x2 x4 x5 (0 : Int32) x5) ∧ (x2 = (170 : Int32) → x_Model_length_207  Post s x1 x2 x4 x5 (1 : Int32) x5)
def x_Model_length_138 (Post : Int32 → St → Prop) (s : St) (x1 : Int32) (x2 : Int32) (y0 : Int32) (y1 : Int32) : Prop :=
  ∀ v22 : Int32, v22 = (y1 + y0) → ((x1 + v22) ≤ (s 19 5) → x_Model_s4 s ((x1 + v22) - (4 : Int32)) (fun r24 s25 => ∀ v26 : Int64, v26 = (r24).toInt64 → (¬ x2 = (170 : Int32) → x_Model_length_193  Post s25 x1 x2 v22 v26) ∧ (x2 = (170 : Int32) → x_Model_s4 s25 ((x1 + v22) - (8 : Int32)) (fun r28 s29 => ∀ v30 : Int64, v30 = ((v26 - (r28).toInt64) + (1 : Int64)) → x_Model_length_193  Post s29 x1 x2 v22 v30)))) ∧ (¬ (x1 + v22) ≤ (s 19 5) → Post (0 : Int32) s)
def x_Model_length (s : St) (a1 : Int32) (Post : Int32 → St → Prop) : Prop :=
  vp_in a1 200 ∧ ∀ v2 : Int32, v2 = (s 9 (a1).toNatClampNeg) → x_Model_plain s v2 (fun r3 s4 => ((200 : Int32) < v2 → Post (0 : Int32) s4) ∧ (¬ (200 : Int32) < v2 → (v2 = (168 : Int32) → Post (0 : Int32) s4) ∧ (¬ v2 = (168 : Int32) → (¬ v2 = (169 : Int32) → (¬ v2 = (196 : Int32) → x_Model_isTable s4 v2 (fun r9 s10 => (r9 = 0 → x_Model_length_244  Post s10 a1 r3) ∧ (¬ r9 = 0 → (¬ v2 = (170 : Int32) → x_Model_length_138  Post s10 a1 v2 (8 : Int32) ((4 : Int32) - (a1 - a1 / (4 : Int32) * (4 : Int32)))) ∧ (v2 = (170 : Int32) → x_Model_length_138  Post s10 a1 v2 (12 : Int32) ((4 : Int32) - (a1 - a1 / (4 : Int32) * (4 : Int32))))))) ∧ (v2 = (196 : Int32) → ((s4 19 5) ≤ (a1 + (1 : Int32)) → x_Model_length_64  Post s4 a1 (0 : Int32)) ∧ (¬ (s4 19 5) ≤ (a1 + (1 : Int32)) → vp_in (a1 + (1 : Int32)) 200 ∧ x_Model_length_64  Post s4 a1 (s4 9 ((a1 + (1 : Int32))).toNatClampNeg)))) ∧ (v2 = (169 : Int32) → Post (0 : Int32) s4))))
def x_Model_goals_26 (Post : Int32 → St → Prop) (s : St) (x1 : Int32) (x2 : Int32) (y0 : Int32) (y1 : Int32) : Prop :=
  ∀ v4 : Int32, v4 = (y1 + y0) → x_Model_isTable s x2 (fun r5 s6 => (¬ r5 = 0 → x_Model_length s6 x1 (fun r8 s9 => (¬ x2 = (170 : Int32) → Post ((1 : Int32) + ((r8 - v4) / (8 : Int32))) s9) ∧ (x2 = (170 : Int32) → Post ((1 : Int32) + ((r8 - v4) / (4 : Int32))) s9))) ∧ (r5 = 0 → x_Model_isJump s6 x2 (fun r11 s12 => (r11 = 0 → Post (0 : Int32) s12) ∧ (¬ r11 = 0 → Post (1 : Int32) s12))))
def x_Model_goals (s : St) (a1 : Int32) (Post : Int32 → St → Prop) : Prop :=
  vp_in a1 200 ∧ ∀ v2 : Int32, v2 = (s 9 (a1).toNatClampNeg) → (¬ v2 = (170 : Int32) → x_Model_goals_26  Post s a1 v2 (8 : Int32) ((4 : Int32) - (a1 - a1 / (4 : Int32) * (4 : Int32)))) ∧ (v2 = (170 : Int32) → x_Model_goals_26  Post s a1 v2 (12 : Int32) ((4 : Int32) - (a1 - a1 / (4 : Int32) * (4 : Int32))))
def x_Model_placeOfGoal (s : St) (a1 : Int32) (a2 : Int32) (Post : Int32 → St → Prop) : Prop :=
  vp_in a1 200 ∧ ∀ v2 : Int32, v2 = (s 9 (a1).toNatClampNeg) → ∀ v3 : Int32, v3 = ((a1 + (4 : Int32)) - (a1 - a1 / (4 : Int32) * (4 : Int32))) → (¬ a2 = 0 → (¬ v2 = (170 : Int32) → Post ((v3 + (4 : Int32)) + ((8 : Int32) * a2)) s) ∧ (v2 = (170 : Int32) → Post ((v3 + (8 : Int32)) + ((4 : Int32) * a2)) s)) ∧ (a2 = 0 → Post v3 s)
def x_Model_goal (s : St) (a1 : Int32) (a2 : Int32) (Post : Int32 → St → Prop) : Prop :=
  vp_in a1 200 ∧ ∀ v2 : Int32, v2 = (s 9 (a1).toNatClampNeg) → x_Model_isTable s v2 (fun r3 s4 => (r3 = 0 → (¬ v2 = (200 : Int32) → vp_in (a1 + (1 : Int32)) 200 ∧ vp_in (a1 + (2 : Int32)) 200 ∧ Post (a1 + ((((s4 9 ((a1 + (1 : Int32))).toNatClampNeg) <<< ((8 : Int32) &&& 31)) ||| (s4 9 ((a1 + (2 : Int32))).toNatClampNeg))).toInt16.toInt32) s4) ∧ (v2 = (200 : Int32) → x_Model_s4 s4 (a1 + (1 : Int32)) (fun r9 s10 => Post (a1 + r9) s10))) ∧ (¬ r3 = 0 → x_Model_placeOfGoal s4 a1 a2 (fun r11 s12 => x_Model_s4 s12 r11 (fun r13 s14 => Post (a1 + r13) s14))))
def x_Model_begins (s : St) (a1 : Int32) (Post : Int32 → St → Prop) : Prop :=
  x_Model_in s a1 (0 : Int32) ((s 19 5) - (1 : Int32)) (fun r1 s2 => (r1 = 0 → narrow .boolean (.int (0 : Int32)) = .int (0 : Int32) ∧ Post (0 : Int32) s2) ∧ (¬ r1 = 0 → vp_in a1 201 ∧ ((s2 7 (a1).toNatClampNeg) = 0 → narrow .boolean (.int (0 : Int32)) = .int (0 : Int32) ∧ Post (0 : Int32) s2) ∧ (¬ (s2 7 (a1).toNatClampNeg) = 0 → narrow .boolean (.int (1 : Int32)) = .int (1 : Int32) ∧ Post (1 : Int32) s2)))
def x_Model_isFormed_98F (K69 : St → Int32 → Prop) (Post : Int32 → St → Prop) (K98 : St → Int32 → Int32 → Int32 → Prop) (s : St) (x1 : Int32) (x2 : Int32) (x3 : Int32) : Prop :=
  (x2 ≤ x3 → ∀ v19 : Int32, v19 = x1 + 1 → K69 s v19) ∧ (¬ x2 ≤ x3 → x_Model_goal s x1 x3 (fun r20 s21 => x_Model_begins s21 r20 (fun r22 s23 => (¬ r22 = 0 → ∀ v25 : Int32, v25 = x3 + 1 → K98 s23 x1 x2 v25) ∧ (r22 = 0 → narrow .boolean (.int (0 : Int32)) = .int (0 : Int32) ∧ Post (0 : Int32) s23))))
def x_Model_isFormed_98 (K69 : St → Int32 → Prop) (Post : Int32 → St → Prop) (n : Nat) (s : St) (x1 : Int32) (x2 : Int32) (x3 : Int32) : Prop :=
  itr (α := St × Int32 × Int32 × Int32) (fun K a => x_Model_isFormed_98F K69 Post (fun s x1 x2 x3 => K (s, x1, x2, x3)) a.1 a.2.1 a.2.2.1 a.2.2.2) n (s, x1, x2, x3)
def x_Model_isFormed_95 (K69 : St → Int32 → Prop) (Post : Int32 → St → Prop) (s : St) (x1 : Int32) (y0 : Int32) : Prop :=
  ∃ n : Nat, x_Model_isFormed_98 K69 Post n s x1 y0 (0 : Int32)
def x_Model_isFormed_196 (K136 : St → Int32 → Prop) (Post : Int32 → St → Prop) (s : St) (x1 : Int32) : Prop :=
  vp_in x1 4 ∧ vp_in x1 4 ∧ ((s 1 (x1).toNatClampNeg) < (s 2 (x1).toNatClampNeg) → ∀ v44 : Int32, v44 = x1 + 1 → K136 s v44) ∧ (¬ (s 1 (x1).toNatClampNeg) < (s 2 (x1).toNatClampNeg) → narrow .boolean (.int (0 : Int32)) = .int (0 : Int32) ∧ Post (0 : Int32) s)
def x_Model_isFormed_136F (Post : Int32 → St → Prop) (K136 : St → Int32 → Prop) (s : St) (x1 : Int32) : Prop :=
  ((s 19 1) ≤ x1 → narrow .boolean (.int (1 : Int32)) = .int (1 : Int32) ∧ Post (1 : Int32) s) ∧ (¬ (s 19 1) ≤ x1 → vp_in x1 4 ∧ x_Model_begins s (s 1 (x1).toNatClampNeg) (fun r28 s29 => (r28 = 0 → narrow .boolean (.int (0 : Int32)) = .int (0 : Int32) ∧ Post (0 : Int32) s29) ∧ (¬ r28 = 0 → vp_in x1 4 ∧ x_Model_begins s29 (s29 3 (x1).toNatClampNeg) (fun r32 s33 => (r32 = 0 → narrow .boolean (.int (0 : Int32)) = .int (0 : Int32) ∧ Post (0 : Int32) s33) ∧ (¬ r32 = 0 → vp_in x1 4 ∧ x_Model_begins s33 (s33 2 (x1).toNatClampNeg) (fun r36 s37 => (¬ r36 = 0 → x_Model_isFormed_196 K136 Post s37 x1) ∧ (r36 = 0 → vp_in x1 4 ∧ (¬ (s37 2 (x1).toNatClampNeg) = (s37 19 5) → narrow .boolean (.int (0 : Int32)) = .int (0 : Int32) ∧ Post (0 : Int32) s37) ∧ ((s37 2 (x1).toNatClampNeg) = (s37 19 5) → x_Model_isFormed_196 K136 Post s37 x1))))))))
def x_Model_isFormed_136 (Post : Int32 → St → Prop) (n : Nat) (s : St) (x1 : Int32) : Prop :=
  itr (α := St × Int32) (fun K a => x_Model_isFormed_136F Post (fun s x1 => K (s, x1)) a.1 a.2) n (s, x1)
def x_Model_isFormed_69F (Post : Int32 → St → Prop) (K69 : St → Int32 → Prop) (s : St) (x1 : Int32) : Prop :=
  ((s 19 5) ≤ x1 → ∃ n : Nat, x_Model_isFormed_136  Post n s (0 : Int32)) ∧ (¬ (s 19 5) ≤ x1 → vp_in x1 201 ∧ ((s 7 (x1).toNatClampNeg) = 0 → x_Model_isFormed_95 K69 Post s x1 (0 : Int32)) ∧ (¬ (s 7 (x1).toNatClampNeg) = 0 → x_Model_goals s x1 (fun r16 s17 => x_Model_isFormed_95 K69 Post s17 x1 r16)))
def x_Model_isFormed_69 (Post : Int32 → St → Prop) (n : Nat) (s : St) (x1 : Int32) : Prop :=
  itr (α := St × Int32) (fun K a => x_Model_isFormed_69F Post (fun s x1 => K (s, x1)) a.1 a.2) n (s, x1)
def x_Model_isFormed_33F (Post : Int32 → St → Prop) (K33 : St → Int32 → Prop) (s : St) (x1 : Int32) : Prop :=
  ((s 19 5) ≤ x1 → ∃ n : Nat, x_Model_isFormed_69  Post n s (0 : Int32)) ∧ (¬ (s 19 5) ≤ x1 → x_Model_length s x1 (fun r7 s8 => (¬ r7 = 0 → vp_in x1 201 ∧ ∀ s11 : St, s11 = su s8 7 (x1).toNatClampNeg (vp_nar .boolean (1 : Int32)) → ∀ v12 : Int32, v12 = (x1 + r7) → K33 s11 v12) ∧ (r7 = 0 → narrow .boolean (.int (0 : Int32)) = .int (0 : Int32) ∧ Post (0 : Int32) s8)))
def x_Model_isFormed_33 (Post : Int32 → St → Prop) (n : Nat) (s : St) (x1 : Int32) : Prop :=
  itr (α := St × Int32) (fun K a => x_Model_isFormed_33F Post (fun s x1 => K (s, x1)) a.1 a.2) n (s, x1)
def x_Model_isFormed_11F (Post : Int32 → St → Prop) (K11 : St → Int32 → Prop) (s : St) (x1 : Int32) : Prop :=
  ((200 : Int32) < x1 → ∃ n : Nat, x_Model_isFormed_33  Post n s (0 : Int32)) ∧ (¬ (200 : Int32) < x1 → vp_in x1 201 ∧ ∀ s4 : St, s4 = su s 7 (x1).toNatClampNeg (vp_nar .boolean (0 : Int32)) → ∀ v5 : Int32, v5 = x1 + 1 → K11 s4 v5)
def x_Model_isFormed_11 (Post : Int32 → St → Prop) (n : Nat) (s : St) (x1 : Int32) : Prop :=
  itr (α := St × Int32) (fun K a => x_Model_isFormed_11F Post (fun s x1 => K (s, x1)) a.1 a.2) n (s, x1)
def x_Model_isFormed (s : St) (Post : Int32 → St → Prop) : Prop :=
  (¬ (s 19 5) = 0 → ∃ n : Nat, x_Model_isFormed_11  Post n s (0 : Int32)) ∧ ((s 19 5) = 0 → narrow .boolean (.int (0 : Int32)) = .int (0 : Int32) ∧ Post (0 : Int32) s)
def x_Model_looks_45 (K2 : St → Int32 → Int32 → Prop) (Post : Int32 → St → Prop) (s : St) (x1 : Int32) (x2 : Int32) : Prop :=
  ∀ v9 : Int32, v9 = x2 + 1 → K2 s x1 v9
def x_Model_looks_2F (Post : Int32 → St → Prop) (K2 : St → Int32 → Int32 → Prop) (s : St) (x1 : Int32) (x2 : Int32) : Prop :=
  ((s 19 1) ≤ x2 → narrow .boolean (.int (0 : Int32)) = .int (0 : Int32) ∧ Post (0 : Int32) s) ∧ (¬ (s 19 1) ≤ x2 → vp_in x2 4 ∧ (¬ (s 3 (x2).toNatClampNeg) = x1 → x_Model_looks_45 K2 Post s x1 x2) ∧ ((s 3 (x2).toNatClampNeg) = x1 → vp_in x2 4 ∧ ((s 4 (x2).toNatClampNeg) = 0 → narrow .boolean (.int (1 : Int32)) = .int (1 : Int32) ∧ Post (1 : Int32) s) ∧ (¬ (s 4 (x2).toNatClampNeg) = 0 → vp_in x2 4 ∧ vp_in (s 4 (x2).toNatClampNeg) 256 ∧ ((s 6 ((s 4 (x2).toNatClampNeg)).toNatClampNeg) = 0 → x_Model_looks_45 K2 Post s x1 x2) ∧ (¬ (s 6 ((s 4 (x2).toNatClampNeg)).toNatClampNeg) = 0 → narrow .boolean (.int (1 : Int32)) = .int (1 : Int32) ∧ Post (1 : Int32) s))))
def x_Model_looks_2 (Post : Int32 → St → Prop) (n : Nat) (s : St) (x1 : Int32) (x2 : Int32) : Prop :=
  itr (α := St × Int32 × Int32) (fun K a => x_Model_looks_2F Post (fun s x1 x2 => K (s, x1, x2)) a.1 a.2.1 a.2.2) n (s, x1, x2)
def x_Model_looks (s : St) (a1 : Int32) (Post : Int32 → St → Prop) : Prop :=
  ∃ n : Nat, x_Model_looks_2  Post n s a1 (0 : Int32)
def x_Model_ends_46 (Post : Int32 → St → Prop) (s : St) : Prop :=
  narrow .boolean (.int (1 : Int32)) = .int (1 : Int32) ∧ Post (1 : Int32) s
def x_Model_ends (s : St) (a0 : Int32) (Post : Int32 → St → Prop) : Prop :=
  x_Model_in s a0 (153 : Int32) (167 : Int32) (fun r1 s2 => (¬ r1 = 0 → x_Model_ends_46  Post s2) ∧ (r1 = 0 → x_Model_in s2 a0 (170 : Int32) (177 : Int32) (fun r4 s5 => (¬ r4 = 0 → x_Model_ends_46  Post s5) ∧ (r4 = 0 → (a0 = (191 : Int32) → x_Model_ends_46  Post s5) ∧ (¬ a0 = (191 : Int32) → x_Model_in s5 a0 (198 : Int32) (200 : Int32) (fun r8 s9 => (r8 = 0 → narrow .boolean (.int (0 : Int32)) = .int (0 : Int32) ∧ Post (0 : Int32) s9) ∧ (¬ r8 = 0 → x_Model_ends_46  Post s9)))))))
def x_Model_findBlocks_126 (K31 : St → Int32 → Prop) (Post : St → Prop) (s : St) (x1 : Int32) : Prop :=
  ∀ v14 : Int32, v14 = x1 + 1 → K31 s v14
def x_Model_findBlocks_66F (K31 : St → Int32 → Prop) (Post : St → Prop) (K66 : St → Int32 → Int32 → Int32 → Int32 → Prop) (s : St) (x1 : Int32) (x2 : Int32) (x3 : Int32) (x4 : Int32) : Prop :=
  (x3 ≤ x4 → vp_in x1 200 ∧ x_Model_ends s (s 9 (x1).toNatClampNeg) (fun r17 s18 => (r17 = 0 → x_Model_findBlocks_126 K31 Post s18 x1) ∧ (¬ r17 = 0 → ((s18 19 5) ≤ (x1 + x2) → x_Model_findBlocks_126 K31 Post s18 x1) ∧ (¬ (s18 19 5) ≤ (x1 + x2) → vp_in (x1 + x2) 201 ∧ ∀ s22 : St, s22 = su s18 13 ((x1 + x2)).toNatClampNeg (0 : Int32) → x_Model_findBlocks_126 K31 Post s22 x1)))) ∧ (¬ x3 ≤ x4 → x_Model_goal s x1 x4 (fun r23 s24 => vp_in r23 201 ∧ ∀ s26 : St, s26 = su s24 13 (r23).toNatClampNeg (0 : Int32) → ∀ v27 : Int32, v27 = x4 + 1 → K66 s26 x1 x2 x3 v27))
def x_Model_findBlocks_66 (K31 : St → Int32 → Prop) (Post : St → Prop) (n : Nat) (s : St) (x1 : Int32) (x2 : Int32) (x3 : Int32) (x4 : Int32) : Prop :=
  itr (α := St × Int32 × Int32 × Int32 × Int32) (fun K a => x_Model_findBlocks_66F K31 Post (fun s x1 x2 x3 x4 => K (s, x1, x2, x3, x4)) a.1 a.2.1 a.2.2.1 a.2.2.2.1 a.2.2.2.2) n (s, x1, x2, x3, x4)
def x_Model_findBlocks_238 (K164 : St → Int32 → Int32 → Prop) (Post : St → Prop) (s : St) (x1 : Int32) (x2 : Int32) : Prop :=
  ∀ v38 : Int32, v38 = x2 + 1 → K164 s x1 v38
def x_Model_findBlocks_235 (K164 : St → Int32 → Int32 → Prop) (Post : St → Prop) (s : St) (x1 : Int32) (x2 : Int32) (y0 : Int32) (y2 : Int32) (y3 : Int32) : Prop :=
  vp_in y0 201 ∧ vp_in y3 201 ∧ ∀ s46 : St, s46 = su s 13 (y3).toNatClampNeg (y2 + (s 5 (y0).toNatClampNeg)) → x_Model_findBlocks_238 K164 Post s46 x1 x2
def x_Model_findBlocks_195 (K164 : St → Int32 → Int32 → Prop) (Post : St → Prop) (s : St) (x1 : Int32) (x2 : Int32) : Prop :=
  vp_in x1 201 ∧ vp_in x2 200 ∧ (¬ (s 9 (x2).toNatClampNeg) = (196 : Int32) → vp_in x2 200 ∧ x_Model_findBlocks_235 K164 Post s x1 x2 (s 9 (x2).toNatClampNeg) (s 13 (x1).toNatClampNeg) x1) ∧ ((s 9 (x2).toNatClampNeg) = (196 : Int32) → vp_in (x2 + (1 : Int32)) 200 ∧ x_Model_findBlocks_235 K164 Post s x1 x2 (s 9 ((x2 + (1 : Int32))).toNatClampNeg) (s 13 (x1).toNatClampNeg) x1)
def x_Model_findBlocks_164F (Post : St → Prop) (K164 : St → Int32 → Int32 → Prop) (s : St) (x1 : Int32) (x2 : Int32) : Prop :=
  ((s 19 5) ≤ x2 → Post s) ∧ (¬ (s 19 5) ≤ x2 → vp_in x2 201 ∧ (¬ (s 7 (x2).toNatClampNeg) = 0 → vp_in x2 201 ∧ ((s 13 (x2).toNatClampNeg) < 0 → x_Model_findBlocks_195 K164 Post s x1 x2) ∧ (¬ (s 13 (x2).toNatClampNeg) < 0 → x_Model_findBlocks_195 K164 Post s x2 x2)) ∧ ((s 7 (x2).toNatClampNeg) = 0 → x_Model_findBlocks_238 K164 Post s x1 x2))
def x_Model_findBlocks_164 (Post : St → Prop) (n : Nat) (s : St) (x1 : Int32) (x2 : Int32) : Prop :=
  itr (α := St × Int32 × Int32) (fun K a => x_Model_findBlocks_164F Post (fun s x1 x2 => K (s, x1, x2)) a.1 a.2.1 a.2.2) n (s, x1, x2)
def x_Model_findBlocks_134F (Post : St → Prop) (K134 : St → Int32 → Prop) (s : St) (x1 : Int32) : Prop :=
  ((s 19 1) ≤ x1 → ∃ n : Nat, x_Model_findBlocks_164  Post n s (0 : Int32) (0 : Int32)) ∧ (¬ (s 19 1) ≤ x1 → vp_in x1 4 ∧ vp_in (s 3 (x1).toNatClampNeg) 201 ∧ ∀ s31 : St, s31 = su s 13 ((s 3 (x1).toNatClampNeg)).toNatClampNeg (0 : Int32) → ∀ v32 : Int32, v32 = x1 + 1 → K134 s31 v32)
def x_Model_findBlocks_134 (Post : St → Prop) (n : Nat) (s : St) (x1 : Int32) : Prop :=
  itr (α := St × Int32) (fun K a => x_Model_findBlocks_134F Post (fun s x1 => K (s, x1)) a.1 a.2) n (s, x1)
def x_Model_findBlocks_31F (Post : St → Prop) (K31 : St → Int32 → Prop) (s : St) (x1 : Int32) : Prop :=
  ((s 19 5) ≤ x1 → ∃ n : Nat, x_Model_findBlocks_134  Post n s (0 : Int32)) ∧ (¬ (s 19 5) ≤ x1 → vp_in x1 201 ∧ (¬ (s 7 (x1).toNatClampNeg) = 0 → x_Model_length s x1 (fun r10 s11 => x_Model_goals s11 x1 (fun r12 s13 => ∃ n : Nat, x_Model_findBlocks_66 K31 Post n s13 x1 r10 r12 (0 : Int32)))) ∧ ((s 7 (x1).toNatClampNeg) = 0 → x_Model_findBlocks_126 K31 Post s x1))
def x_Model_findBlocks_31 (Post : St → Prop) (n : Nat) (s : St) (x1 : Int32) : Prop :=
  itr (α := St × Int32) (fun K a => x_Model_findBlocks_31F Post (fun s x1 => K (s, x1)) a.1 a.2) n (s, x1)
def x_Model_findBlocks_2F (Post : St → Prop) (K2 : St → Int32 → Prop) (s : St) (x1 : Int32) : Prop :=
  ((200 : Int32) < x1 → vp_in (0 : Int32) 201 ∧ ∀ s3 : St, s3 = su s 13 ((0 : Int32)).toNatClampNeg (0 : Int32) → ∃ n : Nat, x_Model_findBlocks_31  Post n s3 (0 : Int32)) ∧ (¬ (200 : Int32) < x1 → vp_in x1 201 ∧ ∀ s5 : St, s5 = su s 13 (x1).toNatClampNeg (-1 : Int32) → ∀ v6 : Int32, v6 = x1 + 1 → K2 s5 v6)
def x_Model_findBlocks_2 (Post : St → Prop) (n : Nat) (s : St) (x1 : Int32) : Prop :=
  itr (α := St × Int32) (fun K a => x_Model_findBlocks_2F Post (fun s x1 => K (s, x1)) a.1 a.2) n (s, x1)
def x_Model_findBlocks (s : St) (Post : St → Prop) : Prop :=
  ∃ n : Nat, x_Model_findBlocks_2  Post n s (0 : Int32)
def x_Model_weigh (s : St) (a0 : Int32) (Post : Int32 → St → Prop) : Prop :=
  ((6 : Int32) ≤ a0 → ((128 : Int32) ≤ a0 → Post (3 : Int32) s) ∧ (¬ (128 : Int32) ≤ a0 → Post (2 : Int32) s)) ∧ (¬ (6 : Int32) ≤ a0 → Post (1 : Int32) s)
def x_Model_front (s : St) (a1 : Int32) (Post : Int32 → St → Prop) : Prop :=
  vp_in a1 201 ∧ (¬ a1 = 0 → Post ((s 10 (a1).toNatClampNeg) + (0 : Int32)) s) ∧ (a1 = 0 → Post ((s 10 (a1).toNatClampNeg) + (3 : Int32)) s)
def x_Model_opcodeAt (s : St) (a1 : Int32) (Post : Int32 → St → Prop) : Prop :=
  vp_in a1 201 ∧ vp_in a1 201 ∧ Post ((s 10 (a1).toNatClampNeg) + (s 11 (a1).toNatClampNeg)) s
def x_Model_layOut_210 (K4 : St → Int32 → Int32 → Prop) (Post : St → Prop) (s : St) (x1 : Int32) (x2 : Int32) : Prop :=
  ∀ v14 : Int32, v14 = x2 + 1 → K4 s x1 v14
def x_Model_layOut_186 (K4 : St → Int32 → Int32 → Prop) (Post : St → Prop) (s : St) (x1 : Int32) (x2 : Int32) (x4 : Int32) : Prop :=
  vp_in x2 201 ∧ vp_in x2 201 ∧ ∀ s41 : St, s41 = su s 12 (x2).toNatClampNeg ((s 11 (x2).toNatClampNeg) + x4) → vp_in x2 201 ∧ ∀ v43 : Int32, v43 = (x1 + (s41 12 (x2).toNatClampNeg)) → x_Model_layOut_210 K4 Post s41 v43 x2
def x_Model_layOut_184 (K4 : St → Int32 → Int32 → Prop) (Post : St → Prop) (s : St) (x1 : Int32) (x2 : Int32) (y0 : Int32) : Prop :=
  x_Model_layOut_186 K4 Post s x1 x2 y0
def x_Model_layOut_134 (K4 : St → Int32 → Int32 → Prop) (Post : St → Prop) (s : St) (x1 : Int32) (x2 : Int32) (x3 : Int32) (x4 : Int32) (y0 : Int32) (y1 : Int32) (y2 : Int32) : Prop :=
  vp_in y2 201 ∧ ∀ s29 : St, s29 = su s 11 (y2).toNatClampNeg (y1 + y0) → x_Model_isTable s29 x3 (fun r30 s31 => (r30 = 0 → vp_in x2 201 ∧ ((s31 8 (x2).toNatClampNeg) = 0 → x_Model_layOut_186 K4 Post s31 x1 x2 x4) ∧ (¬ (s31 8 (x2).toNatClampNeg) = 0 → (¬ x3 = (167 : Int32) → x_Model_layOut_184 K4 Post s31 x1 x2 (8 : Int32)) ∧ (x3 = (167 : Int32) → x_Model_layOut_184 K4 Post s31 x1 x2 (5 : Int32)))) ∧ (¬ r30 = 0 → x_Model_opcodeAt s31 x2 (fun r36 s37 => ∀ v38 : Int32, v38 = (x4 + ((x2 - x2 / (4 : Int32) * (4 : Int32)) - (r36 - r36 / (4 : Int32) * (4 : Int32)))) → x_Model_layOut_186 K4 Post s37 x1 x2 v38)))
def x_Model_layOut_129 (K4 : St → Int32 → Int32 → Prop) (Post : St → Prop) (s : St) (x1 : Int32) (x2 : Int32) (x3 : Int32) (x4 : Int32) (y0 : Int32) (y1 : Int32) : Prop :=
  x_Model_layOut_134 K4 Post s x1 x2 x3 x4 (4 : Int32) y0 y1
def x_Model_layOut_97 (K4 : St → Int32 → Int32 → Prop) (Post : St → Prop) (s : St) (x1 : Int32) (x2 : Int32) (x3 : Int32) (x4 : Int32) (y0 : Int32) (y1 : Int32) (y2 : Int32) : Prop :=
  x_Model_in s x3 (172 : Int32) (177 : Int32) (fun r23 s24 => (r23 = 0 → (x3 = (188 : Int32) → x_Model_layOut_129 K4 Post s24 x1 x2 x3 x4 (y1 + y0) y2) ∧ (¬ x3 = (188 : Int32) → (¬ x3 = (189 : Int32) → x_Model_layOut_134 K4 Post s24 x1 x2 x3 x4 (0 : Int32) (y1 + y0) y2) ∧ (x3 = (189 : Int32) → x_Model_layOut_129 K4 Post s24 x1 x2 x3 x4 (y1 + y0) y2))) ∧ (¬ r23 = 0 → x_Model_layOut_134 K4 Post s24 x1 x2 x3 x4 (3 : Int32) (y1 + y0) y2))
def x_Model_layOut_72 (K4 : St → Int32 → Int32 → Prop) (Post : St → Prop) (s : St) (x1 : Int32) (x2 : Int32) (x3 : Int32) (x4 : Int32) (y0 : Int32) (y1 : Int32) (y2 : Int32) : Prop :=
  vp_in x2 201 ∧ ((s 13 (x2).toNatClampNeg) ≤ 0 → x_Model_layOut_97 K4 Post s x1 x2 x3 x4 (0 : Int32) (y1 + y0) y2) ∧ (¬ (s 13 (x2).toNatClampNeg) ≤ 0 → vp_in x2 201 ∧ x_Model_weigh s (s 13 (x2).toNatClampNeg) (fun r21 s22 => x_Model_layOut_97 K4 Post s22 x1 x2 x3 x4 (r21 + (3 : Int32)) (y1 + y0) y2))
def x_Model_layOut_59 (K4 : St → Int32 → Int32 → Prop) (Post : St → Prop) (s : St) (x1 : Int32) (x2 : Int32) (x3 : Int32) (x4 : Int32) (y0 : Int32) (y1 : Int32) : Prop :=
  x_Model_looks s x2 (fun r15 s16 => (r15 = 0 → x_Model_layOut_72 K4 Post s16 x1 x2 x3 x4 (0 : Int32) y0 y1) ∧ (¬ r15 = 0 → x_Model_layOut_72 K4 Post s16 x1 x2 x3 x4 (4 : Int32) y0 y1))
def x_Model_layOut_4F (Post : St → Prop) (K4 : St → Int32 → Int32 → Prop) (s : St) (x1 : Int32) (x2 : Int32) : Prop :=
  ((s 19 5) ≤ x2 → vp_in (s 19 5) 201 ∧ ∀ s3 : St, s3 = su s 10 ((s 19 5)).toNatClampNeg x1 → ∀ s4 : St, s4 = su s3 19 6 x1 → Post s4) ∧ (¬ (s 19 5) ≤ x2 → vp_in x2 201 ∧ (¬ (s 7 (x2).toNatClampNeg) = 0 → vp_in x2 200 ∧ ∀ v8 : Int32, v8 = (s 9 (x2).toNatClampNeg) → x_Model_length s x2 (fun r9 s10 => vp_in x2 201 ∧ ∀ s12 : St, s12 = su s10 10 (x2).toNatClampNeg x1 → (¬ x2 = 0 → x_Model_layOut_59 K4 Post s12 x1 x2 v8 r9 (0 : Int32) x2) ∧ (x2 = 0 → x_Model_layOut_59 K4 Post s12 x1 x2 v8 r9 (3 : Int32) x2))) ∧ ((s 7 (x2).toNatClampNeg) = 0 → x_Model_layOut_210 K4 Post s x1 x2))
def x_Model_layOut_4 (Post : St → Prop) (n : Nat) (s : St) (x1 : Int32) (x2 : Int32) : Prop :=
  itr (α := St × Int32 × Int32) (fun K a => x_Model_layOut_4F Post (fun s x1 x2 => K (s, x1, x2)) a.1 a.2.1 a.2.2) n (s, x1, x2)
def x_Model_layOut (s : St) (Post : St → Prop) : Prop :=
  ∃ n : Nat, x_Model_layOut_4  Post n s (0 : Int32) (0 : Int32)
def x_Model_put_4F (Post : St → Prop) (K4 : St → Int32 → Int32 → Prop) (s : St) (x1 : Int32) (x3 : Int32) : Prop :=
  (x3 < 0 → Post s) ∧ (¬ x3 < 0 → vp_in (s 19 15) 1300 ∧ ∀ s4 : St, s4 = su s 14 ((s 19 15)).toNatClampNeg ((x1 >>> (((8 : Int32) * x3) &&& 31)) &&& (255 : Int32)) → ∀ s5 : St, s5 = su s4 19 15 ((s4 19 15) + (1 : Int32)) → ∀ v6 : Int32, v6 = x3 + (-1) → K4 s5 x1 v6)
def x_Model_put_4 (Post : St → Prop) (n : Nat) (s : St) (x1 : Int32) (x3 : Int32) : Prop :=
  itr (α := St × Int32 × Int32) (fun K a => x_Model_put_4F Post (fun s x1 x3 => K (s, x1, x3)) a.1 a.2.1 a.2.2) n (s, x1, x3)
def x_Model_put (s : St) (a1 : Int32) (a2 : Int32) (Post : St → Prop) : Prop :=
  ∀ v1 : Int32, v1 = (a2 - (1 : Int32)) → ∃ n : Nat, x_Model_put_4  Post n s a1 v1
def x_Model_call (s : St) (a1 : Int32) (Post : St → Prop) : Prop :=
  x_Model_put s (184 : Int32) (1 : Int32) (fun s2 => x_Model_put s2 ((s2 19 2) + a1) (2 : Int32) (fun s4 => ∀ s5 : St, s5 = su s4 19 13 ((s4 19 13) + (1 : Int32)) → Post s5))
def x_Model_twice (s : St) (a1 : Int32) (Post : St → Prop) : Prop :=
  x_Model_put s (89 : Int32) (1 : Int32) (fun s2 => ∀ s3 : St, s3 = su s2 19 14 ((s2 19 14) + (1 : Int32)) → x_Model_call s3 a1 (fun s5 => Post s5))
def x_Model_table_124 (K92 : St → Int32 → Int32 → Int32 → Int32 → Int32 → Prop) (Post : St → Prop) (s : St) (x1 : Int32) (x2 : Int32) (x4 : Int32) (x7 : Int32) (x8 : Int32) : Prop :=
  x_Model_goal s x1 x8 (fun r31 s32 => x_Model_front s32 r31 (fun r33 s34 => x_Model_put s34 (r33 - x4) (4 : Int32) (fun s36 => ∀ v37 : Int32, v37 = x8 + 1 → K92 s36 x1 x2 x4 x7 v37)))
def x_Model_table_92F (Post : St → Prop) (K92 : St → Int32 → Int32 → Int32 → Int32 → Int32 → Prop) (s : St) (x1 : Int32) (x2 : Int32) (x4 : Int32) (x7 : Int32) (x8 : Int32) : Prop :=
  (x7 ≤ x8 → Post s) ∧ (¬ x7 ≤ x8 → (¬ x2 = (171 : Int32) → x_Model_table_124 K92 Post s x1 x2 x4 x7 x8) ∧ (x2 = (171 : Int32) → x_Model_placeOfGoal s x1 x8 (fun r25 s26 => x_Model_s4 s26 (r25 - (4 : Int32)) (fun r27 s28 => x_Model_put s28 r27 (4 : Int32) (fun s30 => x_Model_table_124 K92 Post s30 x1 x2 x4 x7 x8)))))
def x_Model_table_92 (Post : St → Prop) (n : Nat) (s : St) (x1 : Int32) (x2 : Int32) (x4 : Int32) (x7 : Int32) (x8 : Int32) : Prop :=
  itr (α := St × Int32 × Int32 × Int32 × Int32 × Int32) (fun K a => x_Model_table_92F Post (fun s x1 x2 x4 x7 x8 => K (s, x1, x2, x4, x7, x8)) a.1 a.2.1 a.2.2.1 a.2.2.2.1 a.2.2.2.2.1 a.2.2.2.2.2) n (s, x1, x2, x4, x7, x8)
def x_Model_table_89 (Post : St → Prop) (s : St) (x1 : Int32) (x2 : Int32) (x4 : Int32) (x7 : Int32) : Prop :=
  ∃ n : Nat, x_Model_table_92  Post n s x1 x2 x4 x7 (1 : Int32)
def x_Model_table (s : St) (a1 : Int32) (a2 : Int32) (a3 : Int32) (a4 : Int32) (Post : St → Prop) : Prop :=
  ∀ v1 : Int32, v1 = ((a1 + (4 : Int32)) - (a1 - a1 / (4 : Int32) * (4 : Int32))) → x_Model_goal s a1 (0 : Int32) (fun r2 s3 => x_Model_goals s3 a1 (fun r4 s5 => x_Model_put s5 a2 (1 : Int32) (fun s7 => x_Model_put s7 (0 : Int32) ((3 : Int32) - (a4 - a4 / (4 : Int32) * (4 : Int32))) (fun s9 => x_Model_front s9 r2 (fun r10 s11 => x_Model_put s11 (r10 - a4) (4 : Int32) (fun s13 => x_Model_s4 s13 (v1 + (4 : Int32)) (fun r14 s15 => x_Model_put s15 r14 (4 : Int32) (fun s17 => (¬ a2 = (170 : Int32) → x_Model_table_89  Post s17 a1 a2 a4 r4) ∧ (a2 = (170 : Int32) → x_Model_s4 s17 (v1 + (8 : Int32)) (fun r19 s20 => x_Model_put s20 r19 (4 : Int32) (fun s22 => x_Model_table_89  Post s22 a1 a2 a4 r4)))))))))))
def x_Model_opposite (s : St) (a0 : Int32) (Post : Int32 → St → Prop) : Prop :=
  (a0 ≤ (197 : Int32) → (¬ (a0 - a0 / (2 : Int32) * (2 : Int32)) = (1 : Int32) → Post (a0 - (1 : Int32)) s) ∧ ((a0 - a0 / (2 : Int32) * (2 : Int32)) = (1 : Int32) → Post (a0 + (1 : Int32)) s)) ∧ (¬ a0 ≤ (197 : Int32) → Post ((397 : Int32) - a0) s)
def x_Model_instruction_39F (Post : St → Prop) (K39 : St → Int32 → Int32 → Int32 → Prop) (s : St) (x1 : Int32) (x3 : Int32) (x5 : Int32) : Prop :=
  (x3 ≤ x5 → Post s) ∧ (¬ x3 ≤ x5 → vp_in (x1 + x5) 200 ∧ x_Model_put s (s 9 ((x1 + x5)).toNatClampNeg) (1 : Int32) (fun s23 => ∀ v24 : Int32, v24 = x5 + 1 → K39 s23 x1 x3 v24))
def x_Model_instruction_39 (Post : St → Prop) (n : Nat) (s : St) (x1 : Int32) (x3 : Int32) (x5 : Int32) : Prop :=
  itr (α := St × Int32 × Int32 × Int32) (fun K a => x_Model_instruction_39F Post (fun s x1 x3 x5 => K (s, x1, x3, x5)) a.1 a.2.1 a.2.2.1 a.2.2.2) n (s, x1, x3, x5)
def x_Model_instruction_190 (Post : St → Prop) (s : St) (x1 : Int32) : Prop :=
  vp_in x1 201 ∧ ((s 8 (x1).toNatClampNeg) = 0 → Post s) ∧ (¬ (s 8 (x1).toNatClampNeg) = 0 → ∀ s43 : St, s43 = su s 19 11 ((s 19 11) + (1 : Int32)) → Post s43)
def x_Model_instruction_105 (Post : St → Prop) (s : St) (x1 : Int32) (x4 : Int32) (x6 : Int32) : Prop :=
  x_Model_put s (200 : Int32) (1 : Int32) (fun s45 => x_Model_put s45 (x6 - x4) (4 : Int32) (fun s47 => x_Model_instruction_190  Post s47 x1))
def x_Model_instruction_126 (Post : St → Prop) (s : St) (x1 : Int32) (x2 : Int32) (x4 : Int32) (x6 : Int32) : Prop :=
  vp_in x1 201 ∧ ((s 8 (x1).toNatClampNeg) = 0 → x_Model_put s x2 (1 : Int32) (fun s28 => x_Model_put s28 (x6 - x4) (2 : Int32) (fun s30 => x_Model_instruction_190  Post s30 x1))) ∧ (¬ (s 8 (x1).toNatClampNeg) = 0 → x_Model_opposite s x2 (fun r31 s32 => x_Model_put s32 r31 (1 : Int32) (fun s34 => x_Model_put s34 (8 : Int32) (2 : Int32) (fun s36 => x_Model_put s36 (200 : Int32) (1 : Int32) (fun s38 => x_Model_put s38 ((x6 - x4) - (3 : Int32)) (4 : Int32) (fun s40 => x_Model_instruction_190  Post s40 x1))))))
def x_Model_instruction (s : St) (a1 : Int32) (a2 : Int32) (Post : St → Prop) : Prop :=
  x_Model_length s a1 (fun r1 s2 => ∀ v3 : Int32, v3 = (s2 19 15) → x_Model_isTable s2 a2 (fun r4 s5 => (r4 = 0 → x_Model_isJump s5 a2 (fun r7 s8 => (¬ r7 = 0 → x_Model_goal s8 a1 (0 : Int32) (fun r10 s11 => x_Model_front s11 r10 (fun r12 s13 => (a2 = (200 : Int32) → x_Model_instruction_105  Post s13 a1 v3 r12) ∧ (¬ a2 = (200 : Int32) → vp_in a1 201 ∧ ((s13 8 (a1).toNatClampNeg) = 0 → x_Model_instruction_126  Post s13 a1 a2 v3 r12) ∧ (¬ (s13 8 (a1).toNatClampNeg) = 0 → (¬ a2 = (167 : Int32) → x_Model_instruction_126  Post s13 a1 a2 v3 r12) ∧ (a2 = (167 : Int32) → x_Model_instruction_105  Post s13 a1 v3 r12)))))) ∧ (r7 = 0 → ∃ n : Nat, x_Model_instruction_39  Post n s8 a1 r1 (0 : Int32)))) ∧ (¬ r4 = 0 → x_Model_table s5 a1 a2 r1 v3 (fun s19 => Post s19))))
def x_Model_write_242 (K37 : St → Int32 → Prop) (Post : St → Prop) (s : St) (x1 : Int32) : Prop :=
  ∀ v20 : Int32, v20 = x1 + 1 → K37 s v20
def x_Model_write_236 (K37 : St → Int32 → Prop) (Post : St → Prop) (s : St) (x1 : Int32) (x2 : Int32) : Prop :=
  x_Model_instruction s x1 x2 (fun s50 => x_Model_write_242 K37 Post s50 x1)
def x_Model_write_231 (K37 : St → Int32 → Prop) (Post : St → Prop) (s : St) (x1 : Int32) (x2 : Int32) : Prop :=
  x_Model_twice s (1 : Int32) (fun s52 => x_Model_write_236 K37 Post s52 x1 x2)
def x_Model_write_217 (K37 : St → Int32 → Prop) (Post : St → Prop) (s : St) (x1 : Int32) (x2 : Int32) : Prop :=
  (x2 = (188 : Int32) → x_Model_write_231 K37 Post s x1 x2) ∧ (¬ x2 = (188 : Int32) → (¬ x2 = (189 : Int32) → x_Model_write_236 K37 Post s x1 x2) ∧ (x2 = (189 : Int32) → x_Model_write_231 K37 Post s x1 x2))
def x_Model_write_199 (K37 : St → Int32 → Prop) (Post : St → Prop) (s : St) (x1 : Int32) (x2 : Int32) : Prop :=
  x_Model_in s x2 (172 : Int32) (177 : Int32) (fun r42 s43 => (r42 = 0 → x_Model_write_217 K37 Post s43 x1 x2) ∧ (¬ r42 = 0 → x_Model_call s43 (3 : Int32) (fun s46 => x_Model_write_217 K37 Post s46 x1 x2)))
def x_Model_write_184 (K37 : St → Int32 → Prop) (Post : St → Prop) (s : St) (x1 : Int32) (x2 : Int32) : Prop :=
  ∀ s34 : St, s34 = su s 19 14 ((s 19 14) + (1 : Int32)) → x_Model_call s34 (0 : Int32) (fun s36 => x_Model_write_199 K37 Post s36 x1 x2)
def x_Model_write_181 (K37 : St → Int32 → Prop) (Post : St → Prop) (s : St) (x1 : Int32) (x2 : Int32) (y0 : Int32) (y1 : Int32) : Prop :=
  x_Model_put s y1 y0 (fun s41 => x_Model_write_184 K37 Post s41 x1 x2)
def x_Model_write_163 (K37 : St → Int32 → Prop) (Post : St → Prop) (s : St) (x1 : Int32) (x2 : Int32) (x3 : Int32) (y0 : Int32) : Prop :=
  x_Model_put s y0 (1 : Int32) (fun s38 => ((128 : Int32) ≤ x3 → x_Model_write_181 K37 Post s38 x1 x2 (2 : Int32) x3) ∧ (¬ (128 : Int32) ≤ x3 → x_Model_write_181 K37 Post s38 x1 x2 (1 : Int32) x3))
def x_Model_write_127 (K37 : St → Int32 → Prop) (Post : St → Prop) (s : St) (x1 : Int32) (x2 : Int32) (x3 : Int32) : Prop :=
  (x3 ≤ 0 → x_Model_write_199 K37 Post s x1 x2) ∧ (¬ x3 ≤ 0 → ((6 : Int32) ≤ x3 → ((128 : Int32) ≤ x3 → x_Model_write_163 K37 Post s x1 x2 x3 (17 : Int32)) ∧ (¬ (128 : Int32) ≤ x3 → x_Model_write_163 K37 Post s x1 x2 x3 (16 : Int32))) ∧ (¬ (6 : Int32) ≤ x3 → x_Model_put s ((3 : Int32) + x3) (1 : Int32) (fun s33 => x_Model_write_184 K37 Post s33 x1 x2)))
def x_Model_write_114 (K37 : St → Int32 → Prop) (Post : St → Prop) (s : St) (x1 : Int32) (x2 : Int32) (x3 : Int32) : Prop :=
  x_Model_looks s x1 (fun r24 s25 => (r24 = 0 → x_Model_write_127 K37 Post s25 x1 x2 x3) ∧ (¬ r24 = 0 → x_Model_twice s25 (4 : Int32) (fun s28 => x_Model_write_127 K37 Post s28 x1 x2 x3)))
def x_Model_write_105 (K37 : St → Int32 → Prop) (Post : St → Prop) (s : St) (x1 : Int32) (x2 : Int32) (x3 : Int32) : Prop :=
  (¬ x1 = 0 → x_Model_write_114 K37 Post s x1 x2 x3) ∧ (x1 = 0 → x_Model_call s (2 : Int32) (fun s23 => x_Model_write_114 K37 Post s23 x1 x2 x3))
def x_Model_write_317 (K258 : St → Int32 → Prop) (Post : St → Prop) (s : St) (x1 : Int32) (y0 : Int32) (y1 : Int32) : Prop :=
  vp_in y1 4 ∧ ∀ s65 : St, s65 = su s 16 (y1).toNatClampNeg y0 → vp_in x1 4 ∧ x_Model_front s65 (s65 3 (x1).toNatClampNeg) (fun r67 s68 => vp_in x1 4 ∧ ∀ s70 : St, s70 = su s68 17 (x1).toNatClampNeg r67 → vp_in x1 4 ∧ vp_in x1 4 ∧ ∀ s73 : St, s73 = su s70 18 (x1).toNatClampNeg (s70 4 (x1).toNatClampNeg) → ∀ v74 : Int32, v74 = x1 + 1 → K258 s73 v74)
def x_Model_write_258F (Post : St → Prop) (K258 : St → Int32 → Prop) (s : St) (x1 : Int32) : Prop :=
  ((s 19 1) ≤ x1 → Post s) ∧ (¬ (s 19 1) ≤ x1 → vp_in x1 4 ∧ x_Model_front s (s 1 (x1).toNatClampNeg) (fun r55 s56 => vp_in x1 4 ∧ ∀ s58 : St, s58 = su s56 15 (x1).toNatClampNeg r55 → vp_in x1 4 ∧ (¬ (s58 2 (x1).toNatClampNeg) = (s58 19 5) → vp_in x1 4 ∧ x_Model_front s58 (s58 2 (x1).toNatClampNeg) (fun r62 s63 => x_Model_write_317 K258 Post s63 x1 r62 x1)) ∧ ((s58 2 (x1).toNatClampNeg) = (s58 19 5) → x_Model_write_317 K258 Post s58 x1 (s58 19 6) x1)))
def x_Model_write_258 (Post : St → Prop) (n : Nat) (s : St) (x1 : Int32) : Prop :=
  itr (α := St × Int32) (fun K a => x_Model_write_258F Post (fun s x1 => K (s, x1)) a.1 a.2) n (s, x1)
def x_Model_write_37F (Post : St → Prop) (K37 : St → Int32 → Prop) (s : St) (x1 : Int32) : Prop :=
  ((s 19 5) ≤ x1 → ∀ s9 : St, s9 = su s 19 7 (s 19 1) → ∃ n : Nat, x_Model_write_258  Post n s9 (0 : Int32)) ∧ (¬ (s 19 5) ≤ x1 → vp_in x1 201 ∧ (¬ (s 7 (x1).toNatClampNeg) = 0 → vp_in x1 200 ∧ ∀ v13 : Int32, v13 = (s 9 (x1).toNatClampNeg) → vp_in x1 201 ∧ ∀ v15 : Int32, v15 = (s 13 (x1).toNatClampNeg) → ∀ s16 : St, s16 = su s 19 9 ((s 19 9) + (1 : Int32)) → (v15 < 0 → x_Model_write_105 K37 Post s16 x1 v13 v15) ∧ (¬ v15 < 0 → ∀ s18 : St, s18 = su s16 19 10 ((s16 19 10) + (1 : Int32)) → ∀ s19 : St, s19 = su s18 19 12 ((s18 19 12) + v15) → x_Model_write_105 K37 Post s19 x1 v13 v15)) ∧ ((s 7 (x1).toNatClampNeg) = 0 → x_Model_write_242 K37 Post s x1))
def x_Model_write_37 (Post : St → Prop) (n : Nat) (s : St) (x1 : Int32) : Prop :=
  itr (α := St × Int32) (fun K a => x_Model_write_37F Post (fun s x1 => K (s, x1)) a.1 a.2) n (s, x1)
def x_Model_write (s : St) (Post : St → Prop) : Prop :=
  ∀ s1 : St, s1 = su s 19 15 (0 : Int32) → ∀ s2 : St, s2 = su s1 19 9 (0 : Int32) → ∀ s3 : St, s3 = su s2 19 10 (0 : Int32) → ∀ s4 : St, s4 = su s3 19 11 (0 : Int32) → ∀ s5 : St, s5 = su s4 19 12 (0 : Int32) → ∀ s6 : St, s6 = su s5 19 13 (0 : Int32) → ∀ s7 : St, s7 = su s6 19 14 (0 : Int32) → ∃ n : Nat, x_Model_write_37  Post n s7 (0 : Int32)
def x_Model_rewrite_211 (K85 : St → Int32 → Prop) (K107 : St → Int32 → Int32 → Prop) (Post : Int32 → St → Prop) (s : St) (x2 : Int32) (x3 : Int32) : Prop :=
  ∀ v50 : Int32, v50 = x3 + 1 → K107 s x2 v50
def x_Model_rewrite_107F (K85 : St → Int32 → Prop) (Post : Int32 → St → Prop) (K107 : St → Int32 → Int32 → Prop) (s : St) (x2 : Int32) (x3 : Int32) : Prop :=
  ((s 19 5) ≤ x3 → K85 s x2) ∧ (¬ (s 19 5) ≤ x3 → vp_in x3 201 ∧ ((s 7 (x3).toNatClampNeg) = 0 → x_Model_rewrite_211 K85 K107 Post s x2 x3) ∧ (¬ (s 7 (x3).toNatClampNeg) = 0 → vp_in x3 200 ∧ x_Model_isJump s (s 9 (x3).toNatClampNeg) (fun r31 s32 => (r31 = 0 → x_Model_rewrite_211 K85 K107 Post s32 x2 x3) ∧ (¬ r31 = 0 → vp_in x3 200 ∧ ((s32 9 (x3).toNatClampNeg) = (200 : Int32) → x_Model_rewrite_211 K85 K107 Post s32 x2 x3) ∧ (¬ (s32 9 (x3).toNatClampNeg) = (200 : Int32) → vp_in x3 201 ∧ ((s32 8 (x3).toNatClampNeg) = 0 → x_Model_goal s32 x3 (0 : Int32) (fun r38 s39 => x_Model_front s39 r38 (fun r40 s41 => x_Model_opcodeAt s41 x3 (fun r42 s43 => ∀ v44 : Int32, v44 = (r40 - r42) → x_Model_in s43 v44 (-(s43 19 3)) (s43 19 3) (fun r45 s46 => (r45 = 0 → vp_in x3 201 ∧ ∀ s49 : St, s49 = su s46 8 (x3).toNatClampNeg (vp_nar .boolean (1 : Int32)) → x_Model_rewrite_211 K85 K107 Post s49 (1 : Int32) x3) ∧ (¬ r45 = 0 → x_Model_rewrite_211 K85 K107 Post s46 x2 x3)))))) ∧ (¬ (s32 8 (x3).toNatClampNeg) = 0 → x_Model_rewrite_211 K85 K107 Post s32 x2 x3))))))
def x_Model_rewrite_107 (K85 : St → Int32 → Prop) (Post : Int32 → St → Prop) (n : Nat) (s : St) (x2 : Int32) (x3 : Int32) : Prop :=
  itr (α := St × Int32 × Int32) (fun K a => x_Model_rewrite_107F K85 Post (fun s x2 x3 => K (s, x2, x3)) a.1 a.2.1 a.2.2) n (s, x2, x3)
def x_Model_rewrite_85F (Post : Int32 → St → Prop) (K85 : St → Int32 → Prop) (s : St) (x2 : Int32) : Prop :=
  (x2 = 0 → ((s 19 6) ≤ (1200 : Int32) → x_Model_write s (fun s21 => ∀ s22 : St, s22 = su s21 19 16 (1 : Int32) → ∀ s23 : St, s23 = su s22 19 4 ((s22 19 4) + (1 : Int32)) → Post (0 : Int32) s23)) ∧ (¬ (s 19 6) ≤ (1200 : Int32) → Post (2 : Int32) s)) ∧ (¬ x2 = 0 → x_Model_layOut s (fun s25 => ∀ s26 : St, s26 = su s25 19 8 ((s25 19 8) + (1 : Int32)) → ∃ n : Nat, x_Model_rewrite_107 K85 Post n s26 (0 : Int32) (0 : Int32)))
def x_Model_rewrite_85 (Post : Int32 → St → Prop) (n : Nat) (s : St) (x2 : Int32) : Prop :=
  itr (α := St × Int32) (fun K a => x_Model_rewrite_85F Post (fun s x2 => K (s, x2)) a.1 a.2) n (s, x2)
def x_Model_rewrite_43F (Post : Int32 → St → Prop) (K43 : St → Int32 → Prop) (s : St) (x1 : Int32) : Prop :=
  ((200 : Int32) < x1 → x_Model_isFormed s (fun r9 s10 => (¬ r9 = 0 → x_Model_findBlocks s10 (fun s13 => ∀ s14 : St, s14 = su s13 19 8 (0 : Int32) → ∃ n : Nat, x_Model_rewrite_85  Post n s14 (1 : Int32))) ∧ (r9 = 0 → Post (1 : Int32) s10))) ∧ (¬ (200 : Int32) < x1 → vp_in x1 201 ∧ ∀ s16 : St, s16 = su s 8 (x1).toNatClampNeg (vp_nar .boolean (0 : Int32)) → ∀ v17 : Int32, v17 = x1 + 1 → K43 s16 v17)
def x_Model_rewrite_43 (Post : Int32 → St → Prop) (n : Nat) (s : St) (x1 : Int32) : Prop :=
  itr (α := St × Int32) (fun K a => x_Model_rewrite_43F Post (fun s x1 => K (s, x1)) a.1 a.2) n (s, x1)
def x_Model_rewrite_2F (Post : Int32 → St → Prop) (K2 : St → Int32 → Prop) (s : St) (x1 : Int32) : Prop :=
  ((s 19 0) ≤ x1 → ∀ s2 : St, s2 = su s 19 5 (s 19 0) → ∀ s3 : St, s3 = su s2 19 16 (0 : Int32) → ∃ n : Nat, x_Model_rewrite_43  Post n s3 (0 : Int32)) ∧ (¬ (s 19 0) ≤ x1 → vp_in x1 200 ∧ vp_in x1 200 ∧ ∀ s6 : St, s6 = su s 9 (x1).toNatClampNeg (s 0 (x1).toNatClampNeg) → ∀ v7 : Int32, v7 = x1 + 1 → K2 s6 v7)
def x_Model_rewrite_2 (Post : Int32 → St → Prop) (n : Nat) (s : St) (x1 : Int32) : Prop :=
  itr (α := St × Int32) (fun K a => x_Model_rewrite_2F Post (fun s x1 => K (s, x1)) a.1 a.2) n (s, x1)
def x_Model_rewrite (s : St) (Post : Int32 → St → Prop) : Prop :=
  ∃ n : Nat, x_Model_rewrite_2  Post n s (0 : Int32)
def x_Model_octet (s : St) (a1 : Int32) (Post : Int32 → St → Prop) : Prop :=
  ((s 19 16) = 0 → Post (-1 : Int32) s) ∧ (¬ (s 19 16) = 0 → x_Model_in s a1 (0 : Int32) ((s 19 6) - (1 : Int32)) (fun r2 s3 => (r2 = 0 → Post (-1 : Int32) s3) ∧ (¬ r2 = 0 → vp_in a1 1300 ∧ Post (s3 14 (a1).toNatClampNeg) s3)))
def x_Model_moved_99 (Post : Int32 → St → Prop) (s : St) : Prop :=
  Post (1 : Int32) s
def x_Model_moved (s : St) (a1 : Int32) (a2 : Int32) (Post : Int32 → St → Prop) : Prop :=
  ((s 19 16) = 0 → Post (-1 : Int32) s) ∧ (¬ (s 19 16) = 0 → x_Model_begins s a1 (fun r2 s3 => (¬ r2 = 0 → (a2 = 0 → x_Model_front s3 a1 (fun r6 s7 => Post r6 s7)) ∧ (a2 = 1 → x_Model_opcodeAt s3 a1 (fun r9 s10 => Post r9 s10)) ∧ (a2 = 2 → vp_in a1 201 ∧ Post (s3 12 (a1).toNatClampNeg) s3) ∧ (a2 = 3 → vp_in a1 201 ∧ Post (s3 13 (a1).toNatClampNeg) s3) ∧ (a2 = 4 → vp_in a1 201 ∧ (¬ (s3 8 (a1).toNatClampNeg) = 0 → x_Model_moved_99  Post s3) ∧ ((s3 8 (a1).toNatClampNeg) = 0 → vp_in a1 200 ∧ (¬ (s3 9 (a1).toNatClampNeg) = (200 : Int32) → Post (0 : Int32) s3) ∧ ((s3 9 (a1).toNatClampNeg) = (200 : Int32) → x_Model_moved_99  Post s3))) ∧ (¬ a2 = 0 → ¬ a2 = 1 → ¬ a2 = 2 → ¬ a2 = 3 → ¬ a2 = 4 → Post (-1 : Int32) s3)) ∧ (r2 = 0 → Post (-1 : Int32) s3)))
def x_Model_back_37 (K2 : St → Int32 → Int32 → Prop) (Post : Int32 → St → Prop) (s : St) (x1 : Int32) (x2 : Int32) : Prop :=
  ∀ v8 : Int32, v8 = x2 + 1 → K2 s x1 v8
def x_Model_back_2F (Post : Int32 → St → Prop) (K2 : St → Int32 → Int32 → Prop) (s : St) (x1 : Int32) (x2 : Int32) : Prop :=
  ((s 19 5) ≤ x2 → Post (-1 : Int32) s) ∧ (¬ (s 19 5) ≤ x2 → ((s 19 16) = 0 → Post (-1 : Int32) s) ∧ (¬ (s 19 16) = 0 → vp_in x2 201 ∧ ((s 7 (x2).toNatClampNeg) = 0 → x_Model_back_37 K2 Post s x1 x2) ∧ (¬ (s 7 (x2).toNatClampNeg) = 0 → x_Model_opcodeAt s x2 (fun r5 s6 => (¬ r5 = x1 → x_Model_back_37 K2 Post s6 x1 x2) ∧ (r5 = x1 → Post x2 s6)))))
def x_Model_back_2 (Post : Int32 → St → Prop) (n : Nat) (s : St) (x1 : Int32) (x2 : Int32) : Prop :=
  itr (α := St × Int32 × Int32) (fun K a => x_Model_back_2F Post (fun s x1 x2 => K (s, x1, x2)) a.1 a.2.1 a.2.2) n (s, x1, x2)
def x_Model_back (s : St) (a1 : Int32) (Post : Int32 → St → Prop) : Prop :=
  ∃ n : Nat, x_Model_back_2  Post n s a1 (0 : Int32)
def x_Model_guard (s : St) (a1 : Int32) (a2 : Int32) (Post : Int32 → St → Prop) : Prop :=
  ((s 19 16) = 0 → Post (-1 : Int32) s) ∧ (¬ (s 19 16) = 0 → x_Model_in s a1 (0 : Int32) ((s 19 7) - (1 : Int32)) (fun r2 s3 => (¬ r2 = 0 → (a2 = 0 → vp_in a1 4 ∧ Post (s3 15 (a1).toNatClampNeg) s3) ∧ (a2 = 1 → vp_in a1 4 ∧ Post (s3 16 (a1).toNatClampNeg) s3) ∧ (a2 = 2 → vp_in a1 4 ∧ Post (s3 17 (a1).toNatClampNeg) s3) ∧ (a2 = 3 → vp_in a1 4 ∧ Post (s3 18 (a1).toNatClampNeg) s3) ∧ (¬ a2 = 0 → ¬ a2 = 1 → ¬ a2 = 2 → ¬ a2 = 3 → Post (-1 : Int32) s3)) ∧ (r2 = 0 → Post (-1 : Int32) s3)))
def x_Model_about (s : St) (a1 : Int32) (Post : Int32 → St → Prop) : Prop :=
  x_Model_in s a1 (0 : Int32) (7 : Int32) (fun r1 s2 => (¬ r1 = 0 → (¬ (s2 19 16) = 0 → (a1 = 0 → Post (s2 19 6) s2) ∧ (a1 = 1 → Post (s2 19 9) s2) ∧ (a1 = 2 → Post (s2 19 10) s2) ∧ (a1 = 3 → Post (s2 19 8) s2) ∧ (a1 = 4 → Post (s2 19 11) s2) ∧ (a1 = 5 → Post (s2 19 12) s2) ∧ (a1 = 6 → Post (s2 19 13) s2) ∧ (¬ a1 = 0 → ¬ a1 = 1 → ¬ a1 = 2 → ¬ a1 = 3 → ¬ a1 = 4 → ¬ a1 = 5 → ¬ a1 = 6 → Post (s2 19 14) s2)) ∧ ((s2 19 16) = 0 → Post (0 : Int32) s2)) ∧ (r1 = 0 → Post (-1 : Int32) s2))
def x_Model_count (s : St) (a1 : Int32) (Post : Int32 → St → Prop) : Prop :=
  (¬ a1 = 0 → (¬ a1 = (1 : Int32) → (¬ a1 = (2 : Int32) → Post (-1 : Int32) s) ∧ (a1 = (2 : Int32) → Post (s 19 4) s)) ∧ (a1 = (1 : Int32) → Post (s 19 1) s)) ∧ (a1 = 0 → Post (s 19 0) s)
