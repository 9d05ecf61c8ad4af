set_option maxHeartbeats 4000000 in
set_option maxRecDepth 100000 in
theorem c_Model_opposite (l : Launch) (D : va_G) (ad : Nat → Nat) (ca : Nat → ClassId) (sz : Nat) (s : St) (a0 : Int32) (Post : Int32 → St → Prop) (hm : x_Model_opposite s a0 Post) : CtI l y_Model_opposite w_Model_opposite { frames := 0, cells := 0, slots := 0, locals := 0 } D vwCl (tyM ca) (wM ad ca) sz [.int a0] s Post := by
  refine ct_i (cc := prog_8_method_32_code) (maxL := 1) (ret := (some .int)) (by decide) rfl (Nat.le_of_ble_eq_true rfl) ?_
  intro p e s0 m args below meth c A hx hb hr hts hown hlocks hml hK hA
  have hown : s0.vm.findClass R_Model = some m.cls := hown
  intro H locs ls hP hD hS hl
  have hl : lv_has ls 1 [(0, .int a0)] := hl
  unfold x_Model_opposite at hm
  refine lv_iload_n hx hb d_Model_opposite_0 rfl (lv_at hl 0 rfl) ?_
  refine lv_sipush (v := 197) hx hb d_Model_opposite_1 (by decide) ?_
  refine lv_icmp_le (tgt := 15) hx hb d_Model_opposite_4 (by decide) (fun c1 => ?_) (fun c1 => ?_)
  · replace hm := hm.1 c1
    refine lv_iload_n hx hb d_Model_opposite_15 rfl (lv_at hl 0 rfl) ?_
    refine lv_iconst (v := 2) hx hb d_Model_opposite_16 (by decide) ?_
    refine lv_irem hx hb d_Model_opposite_17 (by decide) ?_
    refine lv_iconst (v := 1) hx hb d_Model_opposite_18 (by decide) ?_
    refine lv_icmp_ne (tgt := 28) hx hb d_Model_opposite_19 (by decide) (fun c2 => ?_) (fun c2 => ?_)
    · replace hm := hm.1 c2
      refine lv_iload_n hx hb d_Model_opposite_28 rfl (lv_at hl 0 rfl) ?_
      refine lv_iconst (v := 1) hx hb d_Model_opposite_29 (by decide) ?_
      refine lv_isub hx hb d_Model_opposite_30 ?_
      exact rt_i hx hb hr hlocks hK hP hD hS d_Model_opposite_31 hm
    · replace hm := hm.2 c2
      refine lv_iload_n hx hb d_Model_opposite_22 rfl (lv_at hl 0 rfl) ?_
      refine lv_iconst (v := 1) hx hb d_Model_opposite_23 (by decide) ?_
      refine lv_iadd hx hb d_Model_opposite_24 ?_
      refine lv_goto (tgt := 31) hx hb d_Model_opposite_25 (by decide) ?_
      exact rt_i hx hb hr hlocks hK hP hD hS d_Model_opposite_31 hm
  · replace hm := hm.2 c1
    refine lv_sipush (v := 397) hx hb d_Model_opposite_7 (by decide) ?_
    refine lv_iload_n hx hb d_Model_opposite_10 rfl (lv_at hl 0 rfl) ?_
    refine lv_isub hx hb d_Model_opposite_11 ?_
    refine lv_goto (tgt := 31) hx hb d_Model_opposite_12 (by decide) ?_
    exact rt_i hx hb hr hlocks hK hP hD hS d_Model_opposite_31 hm
set_option maxHeartbeats 4000000 in
set_option maxRecDepth 100000 in
theorem c_Model_instruction (l : Launch) (D : va_G) (ad : Nat → Nat) (ca : Nat → ClassId) (sz : Nat) (s : St) (a1 : Int32) (a2 : Int32) (Post : St → Prop) (hm : x_Model_instruction s a1 a2 Post) : CtV l y_Model_instruction w_Model_instruction { frames := 5, cells := 0, slots := 0, locals := 119 } D vwCl (tyM ca) (wM ad ca) sz [.ref (ad 0), .int a1, .int a2] s Post := by
  refine ct_v (cc := prog_8_method_33_code) (maxL := 7) (ret := none) (by decide) rfl (Nat.le_of_ble_eq_true rfl) ?_
  intro p e s0 m args below meth c A hx hb hr hts hown hlocks hml hK hA
  have hown : s0.vm.findClass R_Model = some m.cls := hown
  have B39 : ∀ (n : Nat) (s : St) (x1 : Int32) (x3 : Int32) (x5 : Int32), x_Model_instruction_39  Post n s x1 x3 x5 → Bk D vwCl (wM ad ca) A p l e { frames := 5, cells := 0, slots := 0, locals := 119 } s0 m args below meth c (MQ below (va_Qv Post (atG D vwCl (tyM ca) (wM ad ca) A) A) args s0 0 0 A) 7 39 s [(0, .ref (ad 0)), (1, .int x1), (3, .int x3), (5, .int x5)] [] := by
    intro  n39
    induction n39 with
    | zero => intro s x1 x3 x5 hm; exact hm.elim
    | succ n39 hK39 =>
      intro s x1 x3 x5 hm H locs ls hP hD hS hl
      have hm : x_Model_instruction_39F  Post (fun s x1 x3 x5 => x_Model_instruction_39  Post n39 s x1 x3 x5) s x1 x3 x5 := hm
      unfold x_Model_instruction_39F at hm
      refine lv_iload hx hb d_Model_instruction_39 (lv_at hl 3 rfl) ?_
      refine lv_iload_n hx hb d_Model_instruction_41 rfl (lv_at hl 2 rfl) ?_
      refine lv_icmp_ge (tgt := 65) hx hb d_Model_instruction_42 (by decide) (fun c20 => ?_) (fun c20 => ?_)
      · replace hm := hm.1 c20
        exact rt_v hx hb hr hlocks hK hP hD hS d_Model_instruction_65 hm
      · replace hm := hm.2 c20
        refine lv_aload_n hx hb d_Model_instruction_45 rfl (lv_at hl 0 rfl) ?_
        refine lv_aload_n hx hb d_Model_instruction_46 rfl (lv_at hl 0 rfl) ?_
        refine va_get (D := D) (ci := 5) (v := .ref (ad 10)) (C := R_Model) (T := T_Model) (N := 36) hx hb hts in_Model hown hK hP 0 rfl rfl 14 (by decide) (hts _ wd505) (fun _ h9 => h9) rfl d_Model_instruction_47 ?_
        refine lv_iload_n hx hb d_Model_instruction_50 rfl (lv_at hl 1 rfl) ?_
        refine lv_iload hx hb d_Model_instruction_51 (lv_at hl 3 rfl) ?_
        refine lv_iadd hx hb d_Model_instruction_53 ?_
        obtain ⟨h21, hm⟩ := hm
        refine va_iald hx hb hK hP 10 9 rfl rfl h21 d_Model_instruction_54 ?_
        refine lv_iconst (v := 1) hx hb d_Model_instruction_55 (by decide) ?_
        refine cg_Vv (b := (ad 0)) (As := [.int (s 9 ((x1 + x5)).toNatClampNeg), .int (1 : Int32)]) (rest := []) ⟨hx, hb, hml, hown, hts⟩ hK hP hD hS hA (c_Model_put l D ad ca H.size s (s 9 ((x1 + x5)).toNatClampNeg) (1 : Int32) _ hm) (cwA 2 hts wd712 wd7 wd709 wd711 ws39 (by decide +kernel) ⟨Nat.le_of_ble_eq_true rfl, Nat.le_of_ble_eq_true rfl⟩) (va_recv hK hP (ci := 5) (q0 := 0) rfl rfl) rfl hl rfl (Nat.le_of_ble_eq_true rfl) d_Model_instruction_56 (fun s23 hm => ?_)
        intro H locs ls hP hD hS hl
        obtain ⟨v24, ev24⟩ : ∃ y : Int32, y = x5 + 1 := ⟨_, rfl⟩
        replace hm := hm v24 ev24
        refine lv_iinc (v := v24) (lv' := [(5, .int v24), (0, .ref (ad 0)), (1, .int x1), (3, .int x3)]) hx hb d_Model_instruction_59 hl (k := 3) rfl (by rw [ev24]; rfl) (by decide) rfl (fun ls hl => ?_)
        refine lv_goto (tgt := 39) hx hb d_Model_instruction_62 (by decide) ?_
        exact hK39 s23 x1 x3 v24 hm H locs ls hP hD hS (lv_sub hl [1, 2, 3, 0] rfl)
  have B190 : ∀ (s : St) (x1 : Int32), x_Model_instruction_190  Post s x1 → Bk D vwCl (wM ad ca) A p l e { frames := 5, cells := 0, slots := 0, locals := 119 } s0 m args below meth c (MQ below (va_Qv Post (atG D vwCl (tyM ca) (wM ad ca) A) A) args s0 0 0 A) 7 190 s [(0, .ref (ad 0)), (1, .int x1)] [] := by
    intro  s x1 hm H locs ls hP hD hS hl
    unfold x_Model_instruction_190 at hm
    refine lv_aload_n hx hb d_Model_instruction_190 rfl (lv_at hl 0 rfl) ?_
    refine va_get (D := D) (ci := 5) (v := .ref (ad 9)) (C := R_Model) (T := T_Model) (N := 36) hx hb hts in_Model hown hK hP 0 rfl rfl 13 (by decide) (hts _ wd504) (fun _ h9 => h9) rfl d_Model_instruction_191 ?_
    refine lv_iload_n hx hb d_Model_instruction_194 rfl (lv_at hl 1 rfl) ?_
    obtain ⟨h41, hm⟩ := hm
    refine va_zald hx hb hK hP 9 8 rfl rfl h41 d_Model_instruction_195 ?_
    refine lv_if_eq (tgt := 209) hx hb d_Model_instruction_196 (by decide) (fun c42 => ?_) (fun c42 => ?_)
    · replace hm := hm.1 c42
      exact rt_v hx hb hr hlocks hK hP hD hS d_Model_instruction_209 hm
    · replace hm := hm.2 c42
      refine lv_aload_n hx hb d_Model_instruction_199 rfl (lv_at hl 0 rfl) ?_
      refine lv_dup hx hb d_Model_instruction_200 rfl ?_
      refine va_get (D := D) (ci := 5) (v := .int (s 19 11)) (C := R_Model) (T := T_Model) (N := 36) hx hb hts in_Model hown hK hP 0 rfl rfl 30 (by decide) (hts _ wd521) (fun _ h9 => h9) rfl d_Model_instruction_201 ?_
      refine lv_iconst (v := 1) hx hb d_Model_instruction_204 (by decide) ?_
      refine lv_iadd hx hb d_Model_instruction_205 ?_
      refine va_put (D := D) (ci := 5) (v := .int ((s 19 11) + (1 : Int32))) (ty := .int) (C := R_Model) (T := T_Model) (N := 36) hx hb hts in_Model t_Model to_Model no_Model hown hK hP hD hS 0 rfl rfl 30 (by decide) (hts _ wd521) (fun _ h9 => h9) rfl (by decide +kernel) rfl rfl (Nat.le_of_ble_eq_true rfl) d_Model_instruction_206 (fun H locs hP hD hS => ?_)
      have hP : va_P D vwCl (wM ad ca (su s 19 11 ((s 19 11) + (1 : Int32)))) H := hP
      have hD : va_D A (wM ad ca (su s 19 11 ((s 19 11) + (1 : Int32)))) := hD
      obtain ⟨s43, es43⟩ : ∃ z : St, z = su s 19 11 ((s 19 11) + (1 : Int32)) := ⟨_, rfl⟩
      rw [← es43] at hP hD
      replace hm := hm s43 es43
      exact rt_v hx hb hr hlocks hK hP hD hS d_Model_instruction_209 hm
  have B105 : ∀ (s : St) (x1 : Int32) (x4 : Int32) (x6 : Int32), x_Model_instruction_105  Post s x1 x4 x6 → Bk D vwCl (wM ad ca) A p l e { frames := 5, cells := 0, slots := 0, locals := 119 } s0 m args below meth c (MQ below (va_Qv Post (atG D vwCl (tyM ca) (wM ad ca) A) A) args s0 0 0 A) 7 105 s [(0, .ref (ad 0)), (1, .int x1), (4, .int x4), (6, .int x6)] [] := by
    intro  s x1 x4 x6 hm H locs ls hP hD hS hl
    unfold x_Model_instruction_105 at hm
    refine lv_aload_n hx hb d_Model_instruction_105 rfl (lv_at hl 0 rfl) ?_
    refine lv_sipush (v := 200) hx hb d_Model_instruction_106 (by decide) ?_
    refine lv_iconst (v := 1) hx hb d_Model_instruction_109 (by decide) ?_
    refine cg_Vv (b := (ad 0)) (As := [.int (200 : Int32), .int (1 : Int32)]) (rest := []) ⟨hx, hb, hml, hown, hts⟩ hK hP hD hS hA (c_Model_put l D ad ca H.size s (200 : Int32) (1 : Int32) _ hm) (cwA 2 hts wd712 wd7 wd709 wd711 ws39 (by decide +kernel) ⟨Nat.le_of_ble_eq_true rfl, Nat.le_of_ble_eq_true rfl⟩) (va_recv hK hP (ci := 5) (q0 := 0) rfl rfl) rfl hl rfl (Nat.le_of_ble_eq_true rfl) d_Model_instruction_110 (fun s45 hm => ?_)
    intro H locs ls hP hD hS hl
    refine lv_aload_n hx hb d_Model_instruction_113 rfl (lv_at hl 0 rfl) ?_
    refine lv_iload hx hb d_Model_instruction_114 (lv_at hl 3 rfl) ?_
    refine lv_iload hx hb d_Model_instruction_116 (lv_at hl 2 rfl) ?_
    refine lv_isub hx hb d_Model_instruction_118 ?_
    refine lv_iconst (v := 4) hx hb d_Model_instruction_119 (by decide) ?_
    refine cg_Vv (b := (ad 0)) (As := [.int (x6 - x4), .int (4 : Int32)]) (rest := []) ⟨hx, hb, hml, hown, hts⟩ hK hP hD hS hA (c_Model_put l D ad ca H.size s45 (x6 - x4) (4 : Int32) _ hm) (cwA 2 hts wd712 wd7 wd709 wd711 ws39 (by decide +kernel) ⟨Nat.le_of_ble_eq_true rfl, Nat.le_of_ble_eq_true rfl⟩) (va_recv hK hP (ci := 5) (q0 := 0) rfl rfl) rfl hl rfl (Nat.le_of_ble_eq_true rfl) d_Model_instruction_120 (fun s47 hm => ?_)
    intro H locs ls hP hD hS hl
    refine lv_goto (tgt := 190) hx hb d_Model_instruction_123 (by decide) ?_
    exact B190  s47 x1 hm H locs ls hP hD hS (lv_sub hl [0, 1] rfl)
  have B126 : ∀ (s : St) (x1 : Int32) (x2 : Int32) (x4 : Int32) (x6 : Int32), x_Model_instruction_126  Post s x1 x2 x4 x6 → Bk D vwCl (wM ad ca) A p l e { frames := 5, cells := 0, slots := 0, locals := 119 } s0 m args below meth c (MQ below (va_Qv Post (atG D vwCl (tyM ca) (wM ad ca) A) A) args s0 0 0 A) 7 126 s [(0, .ref (ad 0)), (1, .int x1), (2, .int x2), (4, .int x4), (6, .int x6)] [] := by
    intro  s x1 x2 x4 x6 hm H locs ls hP hD hS hl
    unfold x_Model_instruction_126 at hm
    refine lv_aload_n hx hb d_Model_instruction_126 rfl (lv_at hl 0 rfl) ?_
    refine va_get (D := D) (ci := 5) (v := .ref (ad 9)) (C := R_Model) (T := T_Model) (N := 36) hx hb hts in_Model hown hK hP 0 rfl rfl 13 (by decide) (hts _ wd504) (fun _ h9 => h9) rfl d_Model_instruction_127 ?_
    refine lv_iload_n hx hb d_Model_instruction_130 rfl (lv_at hl 1 rfl) ?_
    obtain ⟨h25, hm⟩ := hm
    refine va_zald hx hb hK hP 9 8 rfl rfl h25 d_Model_instruction_131 ?_
    refine lv_if_eq (tgt := 174) hx hb d_Model_instruction_132 (by decide) (fun c26 => ?_) (fun c26 => ?_)
    · replace hm := hm.1 c26
      refine lv_aload_n hx hb d_Model_instruction_174 rfl (lv_at hl 0 rfl) ?_
      refine lv_iload_n hx hb d_Model_instruction_175 rfl (lv_at hl 2 rfl) ?_
      refine lv_iconst (v := 1) hx hb d_Model_instruction_176 (by decide) ?_
      refine cg_Vv (b := (ad 0)) (As := [.int x2, .int (1 : Int32)]) (rest := []) ⟨hx, hb, hml, hown, hts⟩ hK hP hD hS hA (c_Model_put l D ad ca H.size s x2 (1 : Int32) _ hm) (cwA 2 hts wd712 wd7 wd709 wd711 ws39 (by decide +kernel) ⟨Nat.le_of_ble_eq_true rfl, Nat.le_of_ble_eq_true rfl⟩) (va_recv hK hP (ci := 5) (q0 := 0) rfl rfl) rfl hl rfl (Nat.le_of_ble_eq_true rfl) d_Model_instruction_177 (fun s28 hm => ?_)
      intro H locs ls hP hD hS hl
      refine lv_aload_n hx hb d_Model_instruction_180 rfl (lv_at hl 0 rfl) ?_
      refine lv_iload hx hb d_Model_instruction_181 (lv_at hl 4 rfl) ?_
      refine lv_iload hx hb d_Model_instruction_183 (lv_at hl 3 rfl) ?_
      refine lv_isub hx hb d_Model_instruction_185 ?_
      refine lv_iconst (v := 2) hx hb d_Model_instruction_186 (by decide) ?_
      refine cg_Vv (b := (ad 0)) (As := [.int (x6 - x4), .int (2 : Int32)]) (rest := []) ⟨hx, hb, hml, hown, hts⟩ hK hP hD hS hA (c_Model_put l D ad ca H.size s28 (x6 - x4) (2 : Int32) _ hm) (cwA 2 hts wd712 wd7 wd709 wd711 ws39 (by decide +kernel) ⟨Nat.le_of_ble_eq_true rfl, Nat.le_of_ble_eq_true rfl⟩) (va_recv hK hP (ci := 5) (q0 := 0) rfl rfl) rfl hl rfl (Nat.le_of_ble_eq_true rfl) d_Model_instruction_187 (fun s30 hm => ?_)
      intro H locs ls hP hD hS hl
      exact B190  s30 x1 hm H locs ls hP hD hS (lv_sub hl [0, 1] rfl)
    · replace hm := hm.2 c26
      refine lv_aload_n hx hb d_Model_instruction_135 rfl (lv_at hl 0 rfl) ?_
      refine lv_iload_n hx hb d_Model_instruction_136 rfl (lv_at hl 2 rfl) ?_
      refine cg_Si (As := [.int x2]) (rest := [.ref (ad 0)]) ⟨hx, hb, hml, hown, hts⟩ hK hP hD hS hA (c_Model_opposite l D ad ca H.size s x2 _ hm) (cwB 1 hts wd727 wd7 wd725 wd726 (by decide +kernel) ⟨Nat.le_of_ble_eq_true rfl, Nat.le_of_ble_eq_true rfl⟩) rfl hl rfl (Nat.le_of_ble_eq_true rfl) d_Model_instruction_137 (fun r31 s32 hm => ?_)
      intro H locs ls hP hD hS hl
      refine lv_iconst (v := 1) hx hb d_Model_instruction_140 (by decide) ?_
      refine cg_Vv (b := (ad 0)) (As := [.int r31, .int (1 : Int32)]) (rest := []) ⟨hx, hb, hml, hown, hts⟩ hK hP hD hS hA (c_Model_put l D ad ca H.size s32 r31 (1 : Int32) _ hm) (cwA 2 hts wd712 wd7 wd709 wd711 ws39 (by decide +kernel) ⟨Nat.le_of_ble_eq_true rfl, Nat.le_of_ble_eq_true rfl⟩) (va_recv hK hP (ci := 5) (q0 := 0) rfl rfl) rfl hl rfl (Nat.le_of_ble_eq_true rfl) d_Model_instruction_141 (fun s34 hm => ?_)
      intro H locs ls hP hD hS hl
      refine lv_aload_n hx hb d_Model_instruction_144 rfl (lv_at hl 0 rfl) ?_
      refine lv_bipush (v := 8) hx hb d_Model_instruction_145 (by decide) ?_
      refine lv_iconst (v := 2) hx hb d_Model_instruction_147 (by decide) ?_
      refine cg_Vv (b := (ad 0)) (As := [.int (8 : Int32), .int (2 : Int32)]) (rest := []) ⟨hx, hb, hml, hown, hts⟩ hK hP hD hS hA (c_Model_put l D ad ca H.size s34 (8 : Int32) (2 : Int32) _ hm) (cwA 2 hts wd712 wd7 wd709 wd711 ws39 (by decide +kernel) ⟨Nat.le_of_ble_eq_true rfl, Nat.le_of_ble_eq_true rfl⟩) (va_recv hK hP (ci := 5) (q0 := 0) rfl rfl) rfl hl rfl (Nat.le_of_ble_eq_true rfl) d_Model_instruction_148 (fun s36 hm => ?_)
      intro H locs ls hP hD hS hl
      refine lv_aload_n hx hb d_Model_instruction_151 rfl (lv_at hl 0 rfl) ?_
      refine lv_sipush (v := 200) hx hb d_Model_instruction_152 (by decide) ?_
      refine lv_iconst (v := 1) hx hb d_Model_instruction_155 (by decide) ?_
      refine cg_Vv (b := (ad 0)) (As := [.int (200 : Int32), .int (1 : Int32)]) (rest := []) ⟨hx, hb, hml, hown, hts⟩ hK hP hD hS hA (c_Model_put l D ad ca H.size s36 (200 : Int32) (1 : Int32) _ hm) (cwA 2 hts wd712 wd7 wd709 wd711 ws39 (by decide +kernel) ⟨Nat.le_of_ble_eq_true rfl, Nat.le_of_ble_eq_true rfl⟩) (va_recv hK hP (ci := 5) (q0 := 0) rfl rfl) rfl hl rfl (Nat.le_of_ble_eq_true rfl) d_Model_instruction_156 (fun s38 hm => ?_)
      intro H locs ls hP hD hS hl
      refine lv_aload_n hx hb d_Model_instruction_159 rfl (lv_at hl 0 rfl) ?_
      refine lv_iload hx hb d_Model_instruction_160 (lv_at hl 4 rfl) ?_
      refine lv_iload hx hb d_Model_instruction_162 (lv_at hl 3 rfl) ?_
      refine lv_isub hx hb d_Model_instruction_164 ?_
      refine lv_iconst (v := 3) hx hb d_Model_instruction_165 (by decide) ?_
      refine lv_isub hx hb d_Model_instruction_166 ?_
      refine lv_iconst (v := 4) hx hb d_Model_instruction_167 (by decide) ?_
      refine cg_Vv (b := (ad 0)) (As := [.int ((x6 - x4) - (3 : Int32)), .int (4 : Int32)]) (rest := []) ⟨hx, hb, hml, hown, hts⟩ hK hP hD hS hA (c_Model_put l D ad ca H.size s38 ((x6 - x4) - (3 : Int32)) (4 : Int32) _ hm) (cwA 2 hts wd712 wd7 wd709 wd711 ws39 (by decide +kernel) ⟨Nat.le_of_ble_eq_true rfl, Nat.le_of_ble_eq_true rfl⟩) (va_recv hK hP (ci := 5) (q0 := 0) rfl rfl) rfl hl rfl (Nat.le_of_ble_eq_true rfl) d_Model_instruction_168 (fun s40 hm => ?_)
      intro H locs ls hP hD hS hl
      refine lv_goto (tgt := 190) hx hb d_Model_instruction_171 (by decide) ?_
      exact B190  s40 x1 hm H locs ls hP hD hS (lv_sub hl [0, 1] rfl)
  intro H locs ls hP hD hS hl
  have hl : lv_has ls 7 [(0, .ref (ad 0)), (1, .int a1), (2, .int a2)] := hl
  unfold x_Model_instruction at hm
  refine lv_aload_n hx hb d_Model_instruction_0 rfl (lv_at hl 0 rfl) ?_
  refine lv_iload_n hx hb d_Model_instruction_1 rfl (lv_at hl 1 rfl) ?_
  refine cg_Vi (b := (ad 0)) (As := [.int a1]) (rest := []) ⟨hx, hb, hml, hown, hts⟩ hK hP hD hS hA (c_Model_length l D ad ca H.size s a1 _ hm) (cwA 1 hts wd644 wd7 wd641 wd643 ws26 (by decide +kernel) ⟨Nat.le_of_ble_eq_true rfl, Nat.le_of_ble_eq_true rfl⟩) (va_recv hK hP (ci := 5) (q0 := 0) rfl rfl) rfl hl rfl (Nat.le_of_ble_eq_true rfl) d_Model_instruction_2 (fun r1 s2 hm => ?_)
  intro H locs ls hP hD hS hl
  refine lv_istore_n (lv' := [(3, .int r1), (0, .ref (ad 0)), (1, .int a1), (2, .int a2)]) hx hb d_Model_instruction_5 rfl hl (by decide) rfl (fun ls hl => ?_)
  refine lv_aload_n hx hb d_Model_instruction_6 rfl (lv_at hl 1 rfl) ?_
  refine va_get (D := D) (ci := 5) (v := .int (s2 19 15)) (C := R_Model) (T := T_Model) (N := 36) hx hb hts in_Model hown hK hP 0 rfl rfl 34 (by decide) (hts _ wd525) (fun _ h9 => h9) rfl d_Model_instruction_7 ?_
  refine lv_topi (fun v3 ev3 => ?_)
  replace hm := hm v3 ev3
  refine lv_istore (lv' := [(4, .int v3), (3, .int r1), (0, .ref (ad 0)), (1, .int a1), (2, .int a2)]) hx hb d_Model_instruction_10 hl (by decide) rfl (fun ls hl => ?_)
  refine lv_iload_n hx hb d_Model_instruction_12 rfl (lv_at hl 4 rfl) ?_
  refine cg_Si (As := [.int a2]) (rest := []) ⟨hx, hb, hml, hown, hts⟩ hK hP hD hS hA (c_Model_isTable l D ad ca H.size s2 a2 _ hm) (cwB 1 hts wd650 wd7 wd648 wd649 (by decide +kernel) ⟨Nat.le_of_ble_eq_true rfl, Nat.le_of_ble_eq_true rfl⟩) rfl hl rfl (Nat.le_of_ble_eq_true rfl) d_Model_instruction_13 (fun r4 s5 hm => ?_)
  intro H locs ls hP hD hS hl
  refine lv_if_eq (tgt := 29) hx hb d_Model_instruction_16 (by decide) (fun c6 => ?_) (fun c6 => ?_)
  · replace hm := hm.1 c6
    refine lv_iload_n hx hb d_Model_instruction_29 rfl (lv_at hl 4 rfl) ?_
    refine cg_Si (As := [.int a2]) (rest := []) ⟨hx, hb, hml, hown, hts⟩ hK hP hD hS hA (c_Model_isJump l D ad ca H.size s5 a2 _ hm) (cwB 1 hts wd662 wd7 wd660 wd661 (by decide +kernel) ⟨Nat.le_of_ble_eq_true rfl, Nat.le_of_ble_eq_true rfl⟩) rfl hl rfl (Nat.le_of_ble_eq_true rfl) d_Model_instruction_30 (fun r7 s8 hm => ?_)
    intro H locs ls hP hD hS hl
    refine lv_if_ne (tgt := 66) hx hb d_Model_instruction_33 (by decide) (fun c9 => ?_) (fun c9 => ?_)
    · replace hm := hm.1 c9
      refine lv_aload_n hx hb d_Model_instruction_66 rfl (lv_at hl 2 rfl) ?_
      refine lv_iload_n hx hb d_Model_instruction_67 rfl (lv_at hl 3 rfl) ?_
      refine lv_iconst (v := 0) hx hb d_Model_instruction_68 (by decide) ?_
      refine cg_Vi (b := (ad 0)) (As := [.int a1, .int (0 : Int32)]) (rest := []) ⟨hx, hb, hml, hown, hts⟩ hK hP hD hS hA (c_Model_goal l D ad ca H.size s8 a1 (0 : Int32) _ hm) (cwA 2 hts wd666 wd7 wd663 wd665 ws29 (by decide +kernel) ⟨Nat.le_of_ble_eq_true rfl, Nat.le_of_ble_eq_true rfl⟩) (va_recv hK hP (ci := 5) (q0 := 0) rfl rfl) rfl hl rfl (Nat.le_of_ble_eq_true rfl) d_Model_instruction_69 (fun r10 s11 hm => ?_)
      intro H locs ls hP hD hS hl
      refine lv_istore (lv' := [(5, .int r10), (4, .int v3), (3, .int r1), (0, .ref (ad 0)), (1, .int a1), (2, .int a2)]) hx hb d_Model_instruction_72 hl (by decide) rfl (fun ls hl => ?_)
      refine lv_aload_n hx hb d_Model_instruction_74 rfl (lv_at hl 3 rfl) ?_
      refine lv_iload hx hb d_Model_instruction_75 (lv_at hl 0 rfl) ?_
      refine cg_Vi (b := (ad 0)) (As := [.int r10]) (rest := []) ⟨hx, hb, hml, hown, hts⟩ hK hP hD hS hA (c_Model_front l D ad ca H.size s11 r10 _ hm) (cwA 1 hts wd700 wd7 wd697 wd699 ws36 (by decide +kernel) ⟨Nat.le_of_ble_eq_true rfl, Nat.le_of_ble_eq_true rfl⟩) (va_recv hK hP (ci := 5) (q0 := 0) rfl rfl) rfl hl rfl (Nat.le_of_ble_eq_true rfl) d_Model_instruction_77 (fun r12 s13 hm => ?_)
      intro H locs ls hP hD hS hl
      refine lv_istore (lv' := [(6, .int r12), (5, .int r10), (4, .int v3), (3, .int r1), (0, .ref (ad 0)), (1, .int a1), (2, .int a2)]) hx hb d_Model_instruction_80 hl (by decide) rfl (fun ls hl => ?_)
      refine lv_iload_n hx hb d_Model_instruction_82 rfl (lv_at hl 6 rfl) ?_
      refine lv_sipush (v := 200) hx hb d_Model_instruction_83 (by decide) ?_
      refine lv_icmp_eq (tgt := 105) hx hb d_Model_instruction_86 (by decide) (fun c14 => ?_) (fun c14 => ?_)
      · replace hm := hm.1 c14
        exact B105  s13 a1 v3 r12 hm H locs ls hP hD hS (lv_sub hl [4, 5, 2, 0] rfl)
      · replace hm := hm.2 c14
        refine lv_aload_n hx hb d_Model_instruction_89 rfl (lv_at hl 4 rfl) ?_
        refine va_get (D := D) (ci := 5) (v := .ref (ad 9)) (C := R_Model) (T := T_Model) (N := 36) hx hb hts in_Model hown hK hP 0 rfl rfl 13 (by decide) (hts _ wd504) (fun _ h9 => h9) rfl d_Model_instruction_90 ?_
        refine lv_iload_n hx hb d_Model_instruction_93 rfl (lv_at hl 5 rfl) ?_
        obtain ⟨h15, hm⟩ := hm
        refine va_zald hx hb hK hP 9 8 rfl rfl h15 d_Model_instruction_94 ?_
        refine lv_if_eq (tgt := 126) hx hb d_Model_instruction_95 (by decide) (fun c16 => ?_) (fun c16 => ?_)
        · replace hm := hm.1 c16
          exact B126  s13 a1 a2 v3 r12 hm H locs ls hP hD hS (lv_sub hl [4, 5, 6, 2, 0] rfl)
        · replace hm := hm.2 c16
          refine lv_iload_n hx hb d_Model_instruction_98 rfl (lv_at hl 6 rfl) ?_
          refine lv_sipush (v := 167) hx hb d_Model_instruction_99 (by decide) ?_
          refine lv_icmp_ne (tgt := 126) hx hb d_Model_instruction_102 (by decide) (fun c17 => ?_) (fun c17 => ?_)
          · replace hm := hm.1 c17
            exact B126  s13 a1 a2 v3 r12 hm H locs ls hP hD hS (lv_sub hl [4, 5, 6, 2, 0] rfl)
          · replace hm := hm.2 c17
            exact B105  s13 a1 v3 r12 hm H locs ls hP hD hS (lv_sub hl [4, 5, 2, 0] rfl)
    · replace hm := hm.2 c9
      refine lv_iconst (v := 0) hx hb d_Model_instruction_36 (by decide) ?_
      refine lv_istore (lv' := [(5, .int (0 : Int32)), (4, .int v3), (3, .int r1), (0, .ref (ad 0)), (1, .int a1), (2, .int a2)]) hx hb d_Model_instruction_37 hl (by decide) rfl (fun ls hl => ?_)
      obtain ⟨n39, hm⟩ := hm
      exact B39  n39 s8 a1 r1 (0 : Int32) hm H locs ls hP hD hS (lv_sub hl [3, 4, 2, 0] rfl)
  · replace hm := hm.2 c6
    refine lv_aload_n hx hb d_Model_instruction_19 rfl (lv_at hl 2 rfl) ?_
    refine lv_iload_n hx hb d_Model_instruction_20 rfl (lv_at hl 3 rfl) ?_
    refine lv_iload_n hx hb d_Model_instruction_21 rfl (lv_at hl 4 rfl) ?_
    refine lv_iload_n hx hb d_Model_instruction_22 rfl (lv_at hl 1 rfl) ?_
    refine lv_iload hx hb d_Model_instruction_23 (lv_at hl 0 rfl) ?_
    refine cg_Vv (b := (ad 0)) (As := [.int a1, .int a2, .int r1, .int v3]) (rest := []) ⟨hx, hb, hml, hown, hts⟩ hK hP hD hS hA (c_Model_table l D ad ca H.size s5 a1 a2 r1 v3 _ hm) (cwA 4 hts wd724 wd7 wd721 wd723 ws42 (by decide +kernel) ⟨Nat.le_of_ble_eq_true rfl, Nat.le_of_ble_eq_true rfl⟩) (va_recv hK hP (ci := 5) (q0 := 0) rfl rfl) rfl hl rfl (Nat.le_of_ble_eq_true rfl) d_Model_instruction_25 (fun s19 hm => ?_)
    intro H locs ls hP hD hS hl
    exact rt_v hx hb hr hlocks hK hP hD hS d_Model_instruction_28 hm
set_option maxHeartbeats 4000000 in
set_option maxRecDepth 100000 in
theorem c_Model_write (l : Launch) (D : va_G) (ad : Nat → Nat) (ca : Nat → ClassId) (sz : Nat) (s : St) (Post : St → Prop) (hm : x_Model_write s  Post) : CtV l y_Model_write w_Model_write { frames := 6, cells := 0, slots := 0, locals := 145 } D vwCl (tyM ca) (wM ad ca) sz [.ref (ad 0)] s Post := by
  refine ct_v (cc := prog_8_method_31_code) (maxL := 4) (ret := none) (by decide) rfl (Nat.le_of_ble_eq_true rfl) ?_
  intro p e s0 m args below meth c A hx hb hr hts hown hlocks hml hK hA
  have hown : s0.vm.findClass R_Model = some m.cls := hown
  have B242 : ∀ (K37 : St → Int32 → Prop) (hK37 : ∀ (s : St) (x1 : Int32), K37 s x1 → Bk D vwCl (wM ad ca) A p l e { frames := 6, cells := 0, slots := 0, locals := 145 } s0 m args below meth c (MQ below (va_Qv Post (atG D vwCl (tyM ca) (wM ad ca) A) A) args s0 0 0 A) 4 37 s [(0, .ref (ad 0)), (1, .int x1)] []) (s : St) (x1 : Int32), x_Model_write_242 K37 Post s x1 → Bk D vwCl (wM ad ca) A p l e { frames := 6, cells := 0, slots := 0, locals := 145 } s0 m args below meth c (MQ below (va_Qv Post (atG D vwCl (tyM ca) (wM ad ca) A) A) args s0 0 0 A) 4 242 s [(0, .ref (ad 0)), (1, .int x1)] [] := by
    intro K37 hK37 s x1 hm H locs ls hP hD hS hl
    unfold x_Model_write_242 at hm
    obtain ⟨v20, ev20⟩ : ∃ y : Int32, y = x1 + 1 := ⟨_, rfl⟩
    replace hm := hm v20 ev20
    refine lv_iinc (v := v20) (lv' := [(1, .int v20), (0, .ref (ad 0))]) hx hb d_Model_write_242 hl (k := 1) rfl (by rw [ev20]; rfl) (by decide) rfl (fun ls hl => ?_)
    refine lv_goto (tgt := 37) hx hb d_Model_write_245 (by decide) ?_
    exact hK37 s v20 hm H locs ls hP hD hS (lv_sub hl [1, 0] rfl)
  have B236 : ∀ (K37 : St → Int32 → Prop) (hK37 : ∀ (s : St) (x1 : Int32), K37 s x1 → Bk D vwCl (wM ad ca) A p l e { frames := 6, cells := 0, slots := 0, locals := 145 } s0 m args below meth c (MQ below (va_Qv Post (atG D vwCl (tyM ca) (wM ad ca) A) A) args s0 0 0 A) 4 37 s [(0, .ref (ad 0)), (1, .int x1)] []) (s : St) (x1 : Int32) (x2 : Int32), x_Model_write_236 K37 Post s x1 x2 → Bk D vwCl (wM ad ca) A p l e { frames := 6, cells := 0, slots := 0, locals := 145 } s0 m args below meth c (MQ below (va_Qv Post (atG D vwCl (tyM ca) (wM ad ca) A) A) args s0 0 0 A) 4 236 s [(0, .ref (ad 0)), (1, .int x1), (2, .int x2)] [] := by
    intro K37 hK37 s x1 x2 hm H locs ls hP hD hS hl
    unfold x_Model_write_236 at hm
    refine lv_aload_n hx hb d_Model_write_236 rfl (lv_at hl 0 rfl) ?_
    refine lv_iload_n hx hb d_Model_write_237 rfl (lv_at hl 1 rfl) ?_
    refine lv_iload_n hx hb d_Model_write_238 rfl (lv_at hl 2 rfl) ?_
    refine cg_Vv (b := (ad 0)) (As := [.int x1, .int x2]) (rest := []) ⟨hx, hb, hml, hown, hts⟩ hK hP hD hS hA (c_Model_instruction l D ad ca H.size s x1 x2 _ hm) (cwA 2 hts wd720 wd7 wd717 wd719 ws41 (by decide +kernel) ⟨Nat.le_of_ble_eq_true rfl, Nat.le_of_ble_eq_true rfl⟩) (va_recv hK hP (ci := 5) (q0 := 0) rfl rfl) rfl hl rfl (Nat.le_of_ble_eq_true rfl) d_Model_write_239 (fun s50 hm => ?_)
    intro H locs ls hP hD hS hl
    exact B242 K37 hK37 s50 x1 hm H locs ls hP hD hS (lv_sub hl [0, 1] rfl)
  have B231 : ∀ (K37 : St → Int32 → Prop) (hK37 : ∀ (s : St) (x1 : Int32), K37 s x1 → Bk D vwCl (wM ad ca) A p l e { frames := 6, cells := 0, slots := 0, locals := 145 } s0 m args below meth c (MQ below (va_Qv Post (atG D vwCl (tyM ca) (wM ad ca) A) A) args s0 0 0 A) 4 37 s [(0, .ref (ad 0)), (1, .int x1)] []) (s : St) (x1 : Int32) (x2 : Int32), x_Model_write_231 K37 Post s x1 x2 → Bk D vwCl (wM ad ca) A p l e { frames := 6, cells := 0, slots := 0, locals := 145 } s0 m args below meth c (MQ below (va_Qv Post (atG D vwCl (tyM ca) (wM ad ca) A) A) args s0 0 0 A) 4 231 s [(0, .ref (ad 0)), (1, .int x1), (2, .int x2)] [] := by
    intro K37 hK37 s x1 x2 hm H locs ls hP hD hS hl
    unfold x_Model_write_231 at hm
    refine lv_aload_n hx hb d_Model_write_231 rfl (lv_at hl 0 rfl) ?_
    refine lv_iconst (v := 1) hx hb d_Model_write_232 (by decide) ?_
    refine cg_Vv (b := (ad 0)) (As := [.int (1 : Int32)]) (rest := []) ⟨hx, hb, hml, hown, hts⟩ hK hP hD hS hA (c_Model_twice l D ad ca H.size s (1 : Int32) _ hm) (cwA 1 hts wd716 wd7 wd713 wd715 ws40 (by decide +kernel) ⟨Nat.le_of_ble_eq_true rfl, Nat.le_of_ble_eq_true rfl⟩) (va_recv hK hP (ci := 5) (q0 := 0) rfl rfl) rfl hl rfl (Nat.le_of_ble_eq_true rfl) d_Model_write_233 (fun s52 hm => ?_)
    intro H locs ls hP hD hS hl
    exact B236 K37 hK37 s52 x1 x2 hm H locs ls hP hD hS (lv_sub hl [0, 1, 2] rfl)
  have B217 : ∀ (K37 : St → Int32 → Prop) (hK37 : ∀ (s : St) (x1 : Int32), K37 s x1 → Bk D vwCl (wM ad ca) A p l e { frames := 6, cells := 0, slots := 0, locals := 145 } s0 m args below meth c (MQ below (va_Qv Post (atG D vwCl (tyM ca) (wM ad ca) A) A) args s0 0 0 A) 4 37 s [(0, .ref (ad 0)), (1, .int x1)] []) (s : St) (x1 : Int32) (x2 : Int32), x_Model_write_217 K37 Post s x1 x2 → Bk D vwCl (wM ad ca) A p l e { frames := 6, cells := 0, slots := 0, locals := 145 } s0 m args below meth c (MQ below (va_Qv Post (atG D vwCl (tyM ca) (wM ad ca) A) A) args s0 0 0 A) 4 217 s [(0, .ref (ad 0)), (1, .int x1), (2, .int x2)] [] := by
    intro K37 hK37 s x1 x2 hm H locs ls hP hD hS hl
    unfold x_Model_write_217 at hm
    refine lv_iload_n hx hb d_Model_write_217 rfl (lv_at hl 2 rfl) ?_
    refine lv_sipush (v := 188) hx hb d_Model_write_218 (by decide) ?_
    refine lv_icmp_eq (tgt := 231) hx hb d_Model_write_221 (by decide) (fun c47 => ?_) (fun c47 => ?_)
    · replace hm := hm.1 c47
      exact B231 K37 hK37 s x1 x2 hm H locs ls hP hD hS (lv_sub hl [0, 1, 2] rfl)
    · replace hm := hm.2 c47
      refine lv_iload_n hx hb d_Model_write_224 rfl (lv_at hl 2 rfl) ?_
      refine lv_sipush (v := 189) hx hb d_Model_write_225 (by decide) ?_
      refine lv_icmp_ne (tgt := 236) hx hb d_Model_write_228 (by decide) (fun c48 => ?_) (fun c48 => ?_)
      · replace hm := hm.1 c48
        exact B236 K37 hK37 s x1 x2 hm H locs ls hP hD hS (lv_sub hl [0, 1, 2] rfl)
      · replace hm := hm.2 c48
        exact B231 K37 hK37 s x1 x2 hm H locs ls hP hD hS (lv_sub hl [0, 1, 2] rfl)
  have B199 : ∀ (K37 : St → Int32 → Prop) (hK37 : ∀ (s : St) (x1 : Int32), K37 s x1 → Bk D vwCl (wM ad ca) A p l e { frames := 6, cells := 0, slots := 0, locals := 145 } s0 m args below meth c (MQ below (va_Qv Post (atG D vwCl (tyM ca) (wM ad ca) A) A) args s0 0 0 A) 4 37 s [(0, .ref (ad 0)), (1, .int x1)] []) (s : St) (x1 : Int32) (x2 : Int32), x_Model_write_199 K37 Post s x1 x2 → Bk D vwCl (wM ad ca) A p l e { frames := 6, cells := 0, slots := 0, locals := 145 } s0 m args below meth c (MQ below (va_Qv Post (atG D vwCl (tyM ca) (wM ad ca) A) A) args s0 0 0 A) 4 199 s [(0, .ref (ad 0)), (1, .int x1), (2, .int x2)] [] := by
    intro K37 hK37 s x1 x2 hm H locs ls hP hD hS hl
    unfold x_Model_write_199 at hm
    refine lv_iload_n hx hb d_Model_write_199 rfl (lv_at hl 2 rfl) ?_
    refine lv_sipush (v := 172) hx hb d_Model_write_200 (by decide) ?_
    refine lv_sipush (v := 177) hx hb d_Model_write_203 (by decide) ?_
    refine cg_Si (As := [.int x2, .int (172 : Int32), .int (177 : Int32)]) (rest := []) ⟨hx, hb, hml, hown, hts⟩ hK hP hD hS hA (c_Model_in l D ad ca H.size s x2 (172 : Int32) (177 : Int32) _ hm) (cwB 3 hts wd606 wd7 wd604 wd605 (by decide +kernel) ⟨Nat.le_of_ble_eq_true rfl, Nat.le_of_ble_eq_true rfl⟩) rfl hl rfl (Nat.le_of_ble_eq_true rfl) d_Model_write_206 (fun r42 s43 hm => ?_)
    intro H locs ls hP hD hS hl
    refine lv_if_eq (tgt := 217) hx hb d_Model_write_209 (by decide) (fun c44 => ?_) (fun c44 => ?_)
    · replace hm := hm.1 c44
      exact B217 K37 hK37 s43 x1 x2 hm H locs ls hP hD hS (lv_sub hl [0, 1, 2] rfl)
    · replace hm := hm.2 c44
      refine lv_aload_n hx hb d_Model_write_212 rfl (lv_at hl 0 rfl) ?_
      refine lv_iconst (v := 3) hx hb d_Model_write_213 (by decide) ?_
      refine cg_Vv (b := (ad 0)) (As := [.int (3 : Int32)]) (rest := []) ⟨hx, hb, hml, hown, hts⟩ hK hP hD hS hA (c_Model_call l D ad ca H.size s43 (3 : Int32) _ hm) (cwA 1 hts wd708 wd7 wd705 wd707 ws38 (by decide +kernel) ⟨Nat.le_of_ble_eq_true rfl, Nat.le_of_ble_eq_true rfl⟩) (va_recv hK hP (ci := 5) (q0 := 0) rfl rfl) rfl hl rfl (Nat.le_of_ble_eq_true rfl) d_Model_write_214 (fun s46 hm => ?_)
      intro H locs ls hP hD hS hl
      exact B217 K37 hK37 s46 x1 x2 hm H locs ls hP hD hS (lv_sub hl [0, 1, 2] rfl)
  have B184 : ∀ (K37 : St → Int32 → Prop) (hK37 : ∀ (s : St) (x1 : Int32), K37 s x1 → Bk D vwCl (wM ad ca) A p l e { frames := 6, cells := 0, slots := 0, locals := 145 } s0 m args below meth c (MQ below (va_Qv Post (atG D vwCl (tyM ca) (wM ad ca) A) A) args s0 0 0 A) 4 37 s [(0, .ref (ad 0)), (1, .int x1)] []) (s : St) (x1 : Int32) (x2 : Int32), x_Model_write_184 K37 Post s x1 x2 → Bk D vwCl (wM ad ca) A p l e { frames := 6, cells := 0, slots := 0, locals := 145 } s0 m args below meth c (MQ below (va_Qv Post (atG D vwCl (tyM ca) (wM ad ca) A) A) args s0 0 0 A) 4 184 s [(0, .ref (ad 0)), (1, .int x1), (2, .int x2)] [] := by
    intro K37 hK37 s x1 x2 hm H locs ls hP hD hS hl
    unfold x_Model_write_184 at hm
    refine lv_aload_n hx hb d_Model_write_184 rfl (lv_at hl 0 rfl) ?_
    refine lv_dup hx hb d_Model_write_185 rfl ?_
    refine va_get (D := D) (ci := 5) (v := .int (s 19 14)) (C := R_Model) (T := T_Model) (N := 36) hx hb hts in_Model hown hK hP 0 rfl rfl 33 (by decide) (hts _ wd524) (fun _ h9 => h9) rfl d_Model_write_186 ?_
    refine lv_iconst (v := 1) hx hb d_Model_write_189 (by decide) ?_
    refine lv_iadd hx hb d_Model_write_190 ?_
    refine va_put (D := D) (ci := 5) (v := .int ((s 19 14) + (1 : Int32))) (ty := .int) (C := R_Model) (T := T_Model) (N := 36) hx hb hts in_Model t_Model to_Model no_Model hown hK hP hD hS 0 rfl rfl 33 (by decide) (hts _ wd524) (fun _ h9 => h9) rfl (by decide +kernel) rfl rfl (Nat.le_of_ble_eq_true rfl) d_Model_write_191 (fun H locs hP hD hS => ?_)
    have hP : va_P D vwCl (wM ad ca (su s 19 14 ((s 19 14) + (1 : Int32)))) H := hP
    have hD : va_D A (wM ad ca (su s 19 14 ((s 19 14) + (1 : Int32)))) := hD
    obtain ⟨s34, es34⟩ : ∃ z : St, z = su s 19 14 ((s 19 14) + (1 : Int32)) := ⟨_, rfl⟩
    rw [← es34] at hP hD
    replace hm := hm s34 es34
    refine lv_aload_n hx hb d_Model_write_194 rfl (lv_at hl 0 rfl) ?_
    refine lv_iconst (v := 0) hx hb d_Model_write_195 (by decide) ?_
    refine cg_Vv (b := (ad 0)) (As := [.int (0 : Int32)]) (rest := []) ⟨hx, hb, hml, hown, hts⟩ hK hP hD hS hA (c_Model_call l D ad ca H.size s34 (0 : Int32) _ hm) (cwA 1 hts wd708 wd7 wd705 wd707 ws38 (by decide +kernel) ⟨Nat.le_of_ble_eq_true rfl, Nat.le_of_ble_eq_true rfl⟩) (va_recv hK hP (ci := 5) (q0 := 0) rfl rfl) rfl hl rfl (Nat.le_of_ble_eq_true rfl) d_Model_write_196 (fun s36 hm => ?_)
    intro H locs ls hP hD hS hl
    exact B199 K37 hK37 s36 x1 x2 hm H locs ls hP hD hS (lv_sub hl [0, 1, 2] rfl)
  have B181 : ∀ (K37 : St → Int32 → Prop) (hK37 : ∀ (s : St) (x1 : Int32), K37 s x1 → Bk D vwCl (wM ad ca) A p l e { frames := 6, cells := 0, slots := 0, locals := 145 } s0 m args below meth c (MQ below (va_Qv Post (atG D vwCl (tyM ca) (wM ad ca) A) A) args s0 0 0 A) 4 37 s [(0, .ref (ad 0)), (1, .int x1)] []) (s : St) (x1 : Int32) (x2 : Int32) (y0 : Int32) (y1 : Int32), x_Model_write_181 K37 Post s x1 x2 y0 y1 → Bk D vwCl (wM ad ca) A p l e { frames := 6, cells := 0, slots := 0, locals := 145 } s0 m args below meth c (MQ below (va_Qv Post (atG D vwCl (tyM ca) (wM ad ca) A) A) args s0 0 0 A) 4 181 s [(0, .ref (ad 0)), (1, .int x1), (2, .int x2)] [.int y0, .int y1, .ref (ad 0)] := by
    intro K37 hK37 s x1 x2 y0 y1 hm H locs ls hP hD hS hl
    unfold x_Model_write_181 at hm
    refine cg_Vv (b := (ad 0)) (As := [.int y1, .int y0]) (rest := []) ⟨hx, hb, hml, hown, hts⟩ hK hP hD hS hA (c_Model_put l D ad ca H.size s y1 y0 _ hm) (cwA 2 hts wd712 wd7 wd709 wd711 ws39 (by decide +kernel) ⟨Nat.le_of_ble_eq_true rfl, Nat.le_of_ble_eq_true rfl⟩) (va_recv hK hP (ci := 5) (q0 := 0) rfl rfl) rfl hl rfl (Nat.le_of_ble_eq_true rfl) d_Model_write_181 (fun s41 hm => ?_)
    intro H locs ls hP hD hS hl
    exact B184 K37 hK37 s41 x1 x2 hm H locs ls hP hD hS (lv_sub hl [0, 1, 2] rfl)
  have B163 : ∀ (K37 : St → Int32 → Prop) (hK37 : ∀ (s : St) (x1 : Int32), K37 s x1 → Bk D vwCl (wM ad ca) A p l e { frames := 6, cells := 0, slots := 0, locals := 145 } s0 m args below meth c (MQ below (va_Qv Post (atG D vwCl (tyM ca) (wM ad ca) A) A) args s0 0 0 A) 4 37 s [(0, .ref (ad 0)), (1, .int x1)] []) (s : St) (x1 : Int32) (x2 : Int32) (x3 : Int32) (y0 : Int32), x_Model_write_163 K37 Post s x1 x2 x3 y0 → Bk D vwCl (wM ad ca) A p l e { frames := 6, cells := 0, slots := 0, locals := 145 } s0 m args below meth c (MQ below (va_Qv Post (atG D vwCl (tyM ca) (wM ad ca) A) A) args s0 0 0 A) 4 163 s [(0, .ref (ad 0)), (1, .int x1), (2, .int x2), (3, .int x3)] [.int y0, .ref (ad 0)] := by
    intro K37 hK37 s x1 x2 x3 y0 hm H locs ls hP hD hS hl
    unfold x_Model_write_163 at hm
    refine lv_iconst (v := 1) hx hb d_Model_write_163 (by decide) ?_
    refine cg_Vv (b := (ad 0)) (As := [.int y0, .int (1 : Int32)]) (rest := []) ⟨hx, hb, hml, hown, hts⟩ hK hP hD hS hA (c_Model_put l D ad ca H.size s y0 (1 : Int32) _ hm) (cwA 2 hts wd712 wd7 wd709 wd711 ws39 (by decide +kernel) ⟨Nat.le_of_ble_eq_true rfl, Nat.le_of_ble_eq_true rfl⟩) (va_recv hK hP (ci := 5) (q0 := 0) rfl rfl) rfl hl rfl (Nat.le_of_ble_eq_true rfl) d_Model_write_164 (fun s38 hm => ?_)
    intro H locs ls hP hD hS hl
    refine lv_aload_n hx hb d_Model_write_167 rfl (lv_at hl 0 rfl) ?_
    refine lv_iload_n hx hb d_Model_write_168 rfl (lv_at hl 3 rfl) ?_
    refine lv_iload_n hx hb d_Model_write_169 rfl (lv_at hl 3 rfl) ?_
    refine lv_sipush (v := 128) hx hb d_Model_write_170 (by decide) ?_
    refine lv_icmp_ge (tgt := 180) hx hb d_Model_write_173 (by decide) (fun c39 => ?_) (fun c39 => ?_)
    · replace hm := hm.1 c39
      refine lv_iconst (v := 2) hx hb d_Model_write_180 (by decide) ?_
      exact B181 K37 hK37 s38 x1 x2 (2 : Int32) x3 hm H locs ls hP hD hS (lv_sub hl [0, 1, 2] rfl)
    · replace hm := hm.2 c39
      refine lv_iconst (v := 1) hx hb d_Model_write_176 (by decide) ?_
      refine lv_goto (tgt := 181) hx hb d_Model_write_177 (by decide) ?_
      exact B181 K37 hK37 s38 x1 x2 (1 : Int32) x3 hm H locs ls hP hD hS (lv_sub hl [0, 1, 2] rfl)
  have B127 : ∀ (K37 : St → Int32 → Prop) (hK37 : ∀ (s : St) (x1 : Int32), K37 s x1 → Bk D vwCl (wM ad ca) A p l e { frames := 6, cells := 0, slots := 0, locals := 145 } s0 m args below meth c (MQ below (va_Qv Post (atG D vwCl (tyM ca) (wM ad ca) A) A) args s0 0 0 A) 4 37 s [(0, .ref (ad 0)), (1, .int x1)] []) (s : St) (x1 : Int32) (x2 : Int32) (x3 : Int32), x_Model_write_127 K37 Post s x1 x2 x3 → Bk D vwCl (wM ad ca) A p l e { frames := 6, cells := 0, slots := 0, locals := 145 } s0 m args below meth c (MQ below (va_Qv Post (atG D vwCl (tyM ca) (wM ad ca) A) A) args s0 0 0 A) 4 127 s [(0, .ref (ad 0)), (1, .int x1), (2, .int x2), (3, .int x3)] [] := by
    intro K37 hK37 s x1 x2 x3 hm H locs ls hP hD hS hl
    unfold x_Model_write_127 at hm
    refine lv_iload_n hx hb d_Model_write_127 rfl (lv_at hl 3 rfl) ?_
    refine lv_if_le (tgt := 199) hx hb d_Model_write_128 (by decide) (fun c29 => ?_) (fun c29 => ?_)
    · replace hm := hm.1 c29
      exact B199 K37 hK37 s x1 x2 hm H locs ls hP hD hS (lv_sub hl [0, 1, 2] rfl)
    · replace hm := hm.2 c29
      refine lv_iload_n hx hb d_Model_write_131 rfl (lv_at hl 3 rfl) ?_
      refine lv_bipush (v := 6) hx hb d_Model_write_132 (by decide) ?_
      refine lv_icmp_ge (tgt := 148) hx hb d_Model_write_134 (by decide) (fun c30 => ?_) (fun c30 => ?_)
      · replace hm := hm.1 c30
        refine lv_aload_n hx hb d_Model_write_148 rfl (lv_at hl 0 rfl) ?_
        refine lv_iload_n hx hb d_Model_write_149 rfl (lv_at hl 3 rfl) ?_
        refine lv_sipush (v := 128) hx hb d_Model_write_150 (by decide) ?_
        refine lv_icmp_ge (tgt := 161) hx hb d_Model_write_153 (by decide) (fun c31 => ?_) (fun c31 => ?_)
        · replace hm := hm.1 c31
          refine lv_bipush (v := 17) hx hb d_Model_write_161 (by decide) ?_
          exact B163 K37 hK37 s x1 x2 x3 (17 : Int32) hm H locs ls hP hD hS (lv_sub hl [0, 1, 2, 3] rfl)
        · replace hm := hm.2 c31
          refine lv_bipush (v := 16) hx hb d_Model_write_156 (by decide) ?_
          refine lv_goto (tgt := 163) hx hb d_Model_write_158 (by decide) ?_
          exact B163 K37 hK37 s x1 x2 x3 (16 : Int32) hm H locs ls hP hD hS (lv_sub hl [0, 1, 2, 3] rfl)
      · replace hm := hm.2 c30
        refine lv_aload_n hx hb d_Model_write_137 rfl (lv_at hl 0 rfl) ?_
        refine lv_iconst (v := 3) hx hb d_Model_write_138 (by decide) ?_
        refine lv_iload_n hx hb d_Model_write_139 rfl (lv_at hl 3 rfl) ?_
        refine lv_iadd hx hb d_Model_write_140 ?_
        refine lv_iconst (v := 1) hx hb d_Model_write_141 (by decide) ?_
        refine cg_Vv (b := (ad 0)) (As := [.int ((3 : Int32) + x3), .int (1 : Int32)]) (rest := []) ⟨hx, hb, hml, hown, hts⟩ hK hP hD hS hA (c_Model_put l D ad ca H.size s ((3 : Int32) + x3) (1 : Int32) _ hm) (cwA 2 hts wd712 wd7 wd709 wd711 ws39 (by decide +kernel) ⟨Nat.le_of_ble_eq_true rfl, Nat.le_of_ble_eq_true rfl⟩) (va_recv hK hP (ci := 5) (q0 := 0) rfl rfl) rfl hl rfl (Nat.le_of_ble_eq_true rfl) d_Model_write_142 (fun s33 hm => ?_)
        intro H locs ls hP hD hS hl
        refine lv_goto (tgt := 184) hx hb d_Model_write_145 (by decide) ?_
        exact B184 K37 hK37 s33 x1 x2 hm H locs ls hP hD hS (lv_sub hl [0, 1, 2] rfl)
  have B114 : ∀ (K37 : St → Int32 → Prop) (hK37 : ∀ (s : St) (x1 : Int32), K37 s x1 → Bk D vwCl (wM ad ca) A p l e { frames := 6, cells := 0, slots := 0, locals := 145 } s0 m args below meth c (MQ below (va_Qv Post (atG D vwCl (tyM ca) (wM ad ca) A) A) args s0 0 0 A) 4 37 s [(0, .ref (ad 0)), (1, .int x1)] []) (s : St) (x1 : Int32) (x2 : Int32) (x3 : Int32), x_Model_write_114 K37 Post s x1 x2 x3 → Bk D vwCl (wM ad ca) A p l e { frames := 6, cells := 0, slots := 0, locals := 145 } s0 m args below meth c (MQ below (va_Qv Post (atG D vwCl (tyM ca) (wM ad ca) A) A) args s0 0 0 A) 4 114 s [(0, .ref (ad 0)), (1, .int x1), (2, .int x2), (3, .int x3)] [] := by
    intro K37 hK37 s x1 x2 x3 hm H locs ls hP hD hS hl
    unfold x_Model_write_114 at hm
    refine lv_aload_n hx hb d_Model_write_114 rfl (lv_at hl 0 rfl) ?_
    refine lv_iload_n hx hb d_Model_write_115 rfl (lv_at hl 1 rfl) ?_
    refine cg_Vi (b := (ad 0)) (As := [.int x1]) (rest := []) ⟨hx, hb, hml, hown, hts⟩ hK hP hD hS hA (c_Model_looks l D ad ca H.size s x1 _ hm) (cwA 1 hts wd689 wd7 wd686 wd688 ws34 (by decide +kernel) ⟨Nat.le_of_ble_eq_true rfl, Nat.le_of_ble_eq_true rfl⟩) (va_recv hK hP (ci := 5) (q0 := 0) rfl rfl) rfl hl rfl (Nat.le_of_ble_eq_true rfl) d_Model_write_116 (fun r24 s25 hm => ?_)
    intro H locs ls hP hD hS hl
    refine lv_if_eq (tgt := 127) hx hb d_Model_write_119 (by decide) (fun c26 => ?_) (fun c26 => ?_)
    · replace hm := hm.1 c26
      exact B127 K37 hK37 s25 x1 x2 x3 hm H locs ls hP hD hS (lv_sub hl [0, 1, 2, 3] rfl)
    · replace hm := hm.2 c26
      refine lv_aload_n hx hb d_Model_write_122 rfl (lv_at hl 0 rfl) ?_
      refine lv_iconst (v := 4) hx hb d_Model_write_123 (by decide) ?_
      refine cg_Vv (b := (ad 0)) (As := [.int (4 : Int32)]) (rest := []) ⟨hx, hb, hml, hown, hts⟩ hK hP hD hS hA (c_Model_twice l D ad ca H.size s25 (4 : Int32) _ hm) (cwA 1 hts wd716 wd7 wd713 wd715 ws40 (by decide +kernel) ⟨Nat.le_of_ble_eq_true rfl, Nat.le_of_ble_eq_true rfl⟩) (va_recv hK hP (ci := 5) (q0 := 0) rfl rfl) rfl hl rfl (Nat.le_of_ble_eq_true rfl) d_Model_write_124 (fun s28 hm => ?_)
      intro H locs ls hP hD hS hl
      exact B127 K37 hK37 s28 x1 x2 x3 hm H locs ls hP hD hS (lv_sub hl [0, 1, 2, 3] rfl)
  have B105 : ∀ (K37 : St → Int32 → Prop) (hK37 : ∀ (s : St) (x1 : Int32), K37 s x1 → Bk D vwCl (wM ad ca) A p l e { frames := 6, cells := 0, slots := 0, locals := 145 } s0 m args below meth c (MQ below (va_Qv Post (atG D vwCl (tyM ca) (wM ad ca) A) A) args s0 0 0 A) 4 37 s [(0, .ref (ad 0)), (1, .int x1)] []) (s : St) (x1 : Int32) (x2 : Int32) (x3 : Int32), x_Model_write_105 K37 Post s x1 x2 x3 → Bk D vwCl (wM ad ca) A p l e { frames := 6, cells := 0, slots := 0, locals := 145 } s0 m args below meth c (MQ below (va_Qv Post (atG D vwCl (tyM ca) (wM ad ca) A) A) args s0 0 0 A) 4 105 s [(0, .ref (ad 0)), (1, .int x1), (2, .int x2), (3, .int x3)] [] := by
    intro K37 hK37 s x1 x2 x3 hm H locs ls hP hD hS hl
    unfold x_Model_write_105 at hm
    refine lv_iload_n hx hb d_Model_write_105 rfl (lv_at hl 1 rfl) ?_
    refine lv_if_ne (tgt := 114) hx hb d_Model_write_106 (by decide) (fun c21 => ?_) (fun c21 => ?_)
    · replace hm := hm.1 c21
      exact B114 K37 hK37 s x1 x2 x3 hm H locs ls hP hD hS (lv_sub hl [0, 1, 2, 3] rfl)
    · replace hm := hm.2 c21
      refine lv_aload_n hx hb d_Model_write_109 rfl (lv_at hl 0 rfl) ?_
      refine lv_iconst (v := 2) hx hb d_Model_write_110 (by decide) ?_
      refine cg_Vv (b := (ad 0)) (As := [.int (2 : Int32)]) (rest := []) ⟨hx, hb, hml, hown, hts⟩ hK hP hD hS hA (c_Model_call l D ad ca H.size s (2 : Int32) _ hm) (cwA 1 hts wd708 wd7 wd705 wd707 ws38 (by decide +kernel) ⟨Nat.le_of_ble_eq_true rfl, Nat.le_of_ble_eq_true rfl⟩) (va_recv hK hP (ci := 5) (q0 := 0) rfl rfl) rfl hl rfl (Nat.le_of_ble_eq_true rfl) d_Model_write_111 (fun s23 hm => ?_)
      intro H locs ls hP hD hS hl
      exact B114 K37 hK37 s23 x1 x2 x3 hm H locs ls hP hD hS (lv_sub hl [0, 1, 2, 3] rfl)
  have B317 : ∀ (K258 : St → Int32 → Prop) (hK258 : ∀ (s : St) (x1 : Int32), K258 s x1 → Bk D vwCl (wM ad ca) A p l e { frames := 6, cells := 0, slots := 0, locals := 145 } s0 m args below meth c (MQ below (va_Qv Post (atG D vwCl (tyM ca) (wM ad ca) A) A) args s0 0 0 A) 4 258 s [(0, .ref (ad 0)), (1, .int x1)] []) (s : St) (x1 : Int32) (y0 : Int32) (y1 : Int32), x_Model_write_317 K258 Post s x1 y0 y1 → Bk D vwCl (wM ad ca) A p l e { frames := 6, cells := 0, slots := 0, locals := 145 } s0 m args below meth c (MQ below (va_Qv Post (atG D vwCl (tyM ca) (wM ad ca) A) A) args s0 0 0 A) 4 317 s [(0, .ref (ad 0)), (1, .int x1)] [.int y0, .int y1, .ref (ad 17)] := by
    intro K258 hK258 s x1 y0 y1 hm H locs ls hP hD hS hl
    unfold x_Model_write_317 at hm
    obtain ⟨h64, hm⟩ := hm
    refine va_iast hx hb hK hP hD hS 17 16 rfl rfl h64 d_Model_write_317 (fun H locs hP hD hS => ?_)
    have hP : va_P D vwCl (wM ad ca (su s 16 (y1).toNatClampNeg y0)) H := hP
    have hD : va_D A (wM ad ca (su s 16 (y1).toNatClampNeg y0)) := hD
    obtain ⟨s65, es65⟩ : ∃ z : St, z = su s 16 (y1).toNatClampNeg y0 := ⟨_, rfl⟩
    rw [← es65] at hP hD
    replace hm := hm s65 es65
    refine lv_aload_n hx hb d_Model_write_318 rfl (lv_at hl 0 rfl) ?_
    refine va_get (D := D) (ci := 5) (v := .ref (ad 18)) (C := R_Model) (T := T_Model) (N := 36) hx hb hts in_Model hown hK hP 0 rfl rfl 22 (by decide) (hts _ wd513) (fun _ h9 => h9) rfl d_Model_write_319 ?_
    refine lv_iload_n hx hb d_Model_write_322 rfl (lv_at hl 1 rfl) ?_
    refine lv_aload_n hx hb d_Model_write_323 rfl (lv_at hl 0 rfl) ?_
    refine lv_aload_n hx hb d_Model_write_324 rfl (lv_at hl 0 rfl) ?_
    refine va_get (D := D) (ci := 5) (v := .ref (ad 4)) (C := R_Model) (T := T_Model) (N := 36) hx hb hts in_Model hown hK hP 0 rfl rfl 3 (by decide) (hts _ wd494) (fun _ h9 => h9) rfl d_Model_write_325 ?_
    refine lv_iload_n hx hb d_Model_write_328 rfl (lv_at hl 1 rfl) ?_
    obtain ⟨h66, hm⟩ := hm
    refine va_iald hx hb hK hP 4 3 rfl rfl h66 d_Model_write_329 ?_
    refine cg_Vi (b := (ad 0)) (As := [.int (s65 3 (x1).toNatClampNeg)]) (rest := [.int x1, .ref (ad 18)]) ⟨hx, hb, hml, hown, hts⟩ hK hP hD hS hA (c_Model_front l D ad ca H.size s65 (s65 3 (x1).toNatClampNeg) _ hm) (cwA 1 hts wd700 wd7 wd697 wd699 ws36 (by decide +kernel) ⟨Nat.le_of_ble_eq_true rfl, Nat.le_of_ble_eq_true rfl⟩) (va_recv hK hP (ci := 5) (q0 := 0) rfl rfl) rfl hl rfl (Nat.le_of_ble_eq_true rfl) d_Model_write_330 (fun r67 s68 hm => ?_)
    intro H locs ls hP hD hS hl
    obtain ⟨h69, hm⟩ := hm
    refine va_iast hx hb hK hP hD hS 18 17 rfl rfl h69 d_Model_write_333 (fun H locs hP hD hS => ?_)
    have hP : va_P D vwCl (wM ad ca (su s68 17 (x1).toNatClampNeg r67)) H := hP
    have hD : va_D A (wM ad ca (su s68 17 (x1).toNatClampNeg r67)) := hD
    obtain ⟨s70, es70⟩ : ∃ z : St, z = su s68 17 (x1).toNatClampNeg r67 := ⟨_, rfl⟩
    rw [← es70] at hP hD
    replace hm := hm s70 es70
    refine lv_aload_n hx hb d_Model_write_334 rfl (lv_at hl 0 rfl) ?_
    refine va_get (D := D) (ci := 5) (v := .ref (ad 19)) (C := R_Model) (T := T_Model) (N := 36) hx hb hts in_Model hown hK hP 0 rfl rfl 23 (by decide) (hts _ wd514) (fun _ h9 => h9) rfl d_Model_write_335 ?_
    refine lv_iload_n hx hb d_Model_write_338 rfl (lv_at hl 1 rfl) ?_
    refine lv_aload_n hx hb d_Model_write_339 rfl (lv_at hl 0 rfl) ?_
    refine va_get (D := D) (ci := 5) (v := .ref (ad 5)) (C := R_Model) (T := T_Model) (N := 36) hx hb hts in_Model hown hK hP 0 rfl rfl 4 (by decide) (hts _ wd495) (fun _ h9 => h9) rfl d_Model_write_340 ?_
    refine lv_iload_n hx hb d_Model_write_343 rfl (lv_at hl 1 rfl) ?_
    obtain ⟨h71, hm⟩ := hm
    refine va_iald hx hb hK hP 5 4 rfl rfl h71 d_Model_write_344 ?_
    obtain ⟨h72, hm⟩ := hm
    refine va_iast hx hb hK hP hD hS 19 18 rfl rfl h72 d_Model_write_345 (fun H locs hP hD hS => ?_)
    have hP : va_P D vwCl (wM ad ca (su s70 18 (x1).toNatClampNeg (s70 4 (x1).toNatClampNeg))) H := hP
    have hD : va_D A (wM ad ca (su s70 18 (x1).toNatClampNeg (s70 4 (x1).toNatClampNeg))) := hD
    obtain ⟨s73, es73⟩ : ∃ z : St, z = su s70 18 (x1).toNatClampNeg (s70 4 (x1).toNatClampNeg) := ⟨_, rfl⟩
    rw [← es73] at hP hD
    replace hm := hm s73 es73
    obtain ⟨v74, ev74⟩ : ∃ y : Int32, y = x1 + 1 := ⟨_, rfl⟩
    replace hm := hm v74 ev74
    refine lv_iinc (v := v74) (lv' := [(1, .int v74), (0, .ref (ad 0))]) hx hb d_Model_write_346 hl (k := 1) rfl (by rw [ev74]; rfl) (by decide) rfl (fun ls hl => ?_)
    refine lv_goto (tgt := 258) hx hb d_Model_write_349 (by decide) ?_
    exact hK258 s73 v74 hm H locs ls hP hD hS (lv_sub hl [1, 0] rfl)
  have B258 : ∀ (n : Nat) (s : St) (x1 : Int32), x_Model_write_258  Post n s x1 → Bk D vwCl (wM ad ca) A p l e { frames := 6, cells := 0, slots := 0, locals := 145 } s0 m args below meth c (MQ below (va_Qv Post (atG D vwCl (tyM ca) (wM ad ca) A) A) args s0 0 0 A) 4 258 s [(0, .ref (ad 0)), (1, .int x1)] [] := by
    intro  n258
    induction n258 with
    | zero => intro s x1 hm; exact hm.elim
    | succ n258 hK258 =>
      intro s x1 hm H locs ls hP hD hS hl
      have hm : x_Model_write_258F  Post (fun s x1 => x_Model_write_258  Post n258 s x1) s x1 := hm
      unfold x_Model_write_258F at hm
      refine lv_iload_n hx hb d_Model_write_258 rfl (lv_at hl 1 rfl) ?_
      refine lv_aload_n hx hb d_Model_write_259 rfl (lv_at hl 0 rfl) ?_
      refine va_get (D := D) (ci := 5) (v := .int (s 19 1)) (C := R_Model) (T := T_Model) (N := 36) hx hb hts in_Model hown hK hP 0 rfl rfl 8 (by decide) (hts _ wd499) (fun _ h9 => h9) rfl d_Model_write_260 ?_
      refine lv_icmp_ge (tgt := 352) hx hb d_Model_write_263 (by decide) (fun c53 => ?_) (fun c53 => ?_)
      · replace hm := hm.1 c53
        exact rt_v hx hb hr hlocks hK hP hD hS d_Model_write_352 hm
      · replace hm := hm.2 c53
        refine lv_aload_n hx hb d_Model_write_266 rfl (lv_at hl 0 rfl) ?_
        refine va_get (D := D) (ci := 5) (v := .ref (ad 16)) (C := R_Model) (T := T_Model) (N := 36) hx hb hts in_Model hown hK hP 0 rfl rfl 20 (by decide) (hts _ wd511) (fun _ h9 => h9) rfl d_Model_write_267 ?_
        refine lv_iload_n hx hb d_Model_write_270 rfl (lv_at hl 1 rfl) ?_
        refine lv_aload_n hx hb d_Model_write_271 rfl (lv_at hl 0 rfl) ?_
        refine lv_aload_n hx hb d_Model_write_272 rfl (lv_at hl 0 rfl) ?_
        refine va_get (D := D) (ci := 5) (v := .ref (ad 2)) (C := R_Model) (T := T_Model) (N := 36) hx hb hts in_Model hown hK hP 0 rfl rfl 1 (by decide) (hts _ wd492) (fun _ h9 => h9) rfl d_Model_write_273 ?_
        refine lv_iload_n hx hb d_Model_write_276 rfl (lv_at hl 1 rfl) ?_
        obtain ⟨h54, hm⟩ := hm
        refine va_iald hx hb hK hP 2 1 rfl rfl h54 d_Model_write_277 ?_
        refine cg_Vi (b := (ad 0)) (As := [.int (s 1 (x1).toNatClampNeg)]) (rest := [.int x1, .ref (ad 16)]) ⟨hx, hb, hml, hown, hts⟩ hK hP hD hS hA (c_Model_front l D ad ca H.size s (s 1 (x1).toNatClampNeg) _ hm) (cwA 1 hts wd700 wd7 wd697 wd699 ws36 (by decide +kernel) ⟨Nat.le_of_ble_eq_true rfl, Nat.le_of_ble_eq_true rfl⟩) (va_recv hK hP (ci := 5) (q0 := 0) rfl rfl) rfl hl rfl (Nat.le_of_ble_eq_true rfl) d_Model_write_278 (fun r55 s56 hm => ?_)
        intro H locs ls hP hD hS hl
        obtain ⟨h57, hm⟩ := hm
        refine va_iast hx hb hK hP hD hS 16 15 rfl rfl h57 d_Model_write_281 (fun H locs hP hD hS => ?_)
        have hP : va_P D vwCl (wM ad ca (su s56 15 (x1).toNatClampNeg r55)) H := hP
        have hD : va_D A (wM ad ca (su s56 15 (x1).toNatClampNeg r55)) := hD
        obtain ⟨s58, es58⟩ : ∃ z : St, z = su s56 15 (x1).toNatClampNeg r55 := ⟨_, rfl⟩
        rw [← es58] at hP hD
        replace hm := hm s58 es58
        refine lv_aload_n hx hb d_Model_write_282 rfl (lv_at hl 0 rfl) ?_
        refine va_get (D := D) (ci := 5) (v := .ref (ad 17)) (C := R_Model) (T := T_Model) (N := 36) hx hb hts in_Model hown hK hP 0 rfl rfl 21 (by decide) (hts _ wd512) (fun _ h9 => h9) rfl d_Model_write_283 ?_
        refine lv_iload_n hx hb d_Model_write_286 rfl (lv_at hl 1 rfl) ?_
        refine lv_aload_n hx hb d_Model_write_287 rfl (lv_at hl 0 rfl) ?_
        refine va_get (D := D) (ci := 5) (v := .ref (ad 3)) (C := R_Model) (T := T_Model) (N := 36) hx hb hts in_Model hown hK hP 0 rfl rfl 2 (by decide) (hts _ wd493) (fun _ h9 => h9) rfl d_Model_write_288 ?_
        refine lv_iload_n hx hb d_Model_write_291 rfl (lv_at hl 1 rfl) ?_
        obtain ⟨h59, hm⟩ := hm
        refine va_iald hx hb hK hP 3 2 rfl rfl h59 d_Model_write_292 ?_
        refine lv_aload_n hx hb d_Model_write_293 rfl (lv_at hl 0 rfl) ?_
        refine va_get (D := D) (ci := 5) (v := .int (s58 19 5)) (C := R_Model) (T := T_Model) (N := 36) hx hb hts in_Model hown hK hP 0 rfl rfl 24 (by decide) (hts _ wd515) (fun _ h9 => h9) rfl d_Model_write_294 ?_
        refine lv_icmp_ne (tgt := 307) hx hb d_Model_write_297 (by decide) (fun c60 => ?_) (fun c60 => ?_)
        · replace hm := hm.1 c60
          refine lv_aload_n hx hb d_Model_write_307 rfl (lv_at hl 0 rfl) ?_
          refine lv_aload_n hx hb d_Model_write_308 rfl (lv_at hl 0 rfl) ?_
          refine va_get (D := D) (ci := 5) (v := .ref (ad 3)) (C := R_Model) (T := T_Model) (N := 36) hx hb hts in_Model hown hK hP 0 rfl rfl 2 (by decide) (hts _ wd493) (fun _ h9 => h9) rfl d_Model_write_309 ?_
          refine lv_iload_n hx hb d_Model_write_312 rfl (lv_at hl 1 rfl) ?_
          obtain ⟨h61, hm⟩ := hm
          refine va_iald hx hb hK hP 3 2 rfl rfl h61 d_Model_write_313 ?_
          refine cg_Vi (b := (ad 0)) (As := [.int (s58 2 (x1).toNatClampNeg)]) (rest := [.int x1, .ref (ad 17)]) ⟨hx, hb, hml, hown, hts⟩ hK hP hD hS hA (c_Model_front l D ad ca H.size s58 (s58 2 (x1).toNatClampNeg) _ hm) (cwA 1 hts wd700 wd7 wd697 wd699 ws36 (by decide +kernel) ⟨Nat.le_of_ble_eq_true rfl, Nat.le_of_ble_eq_true rfl⟩) (va_recv hK hP (ci := 5) (q0 := 0) rfl rfl) rfl hl rfl (Nat.le_of_ble_eq_true rfl) d_Model_write_314 (fun r62 s63 hm => ?_)
          intro H locs ls hP hD hS hl
          exact B317 (fun s x1 => x_Model_write_258  Post n258 s x1) hK258 s63 x1 r62 x1 hm H locs ls hP hD hS (lv_sub hl [0, 1] rfl)
        · replace hm := hm.2 c60
          refine lv_aload_n hx hb d_Model_write_300 rfl (lv_at hl 0 rfl) ?_
          refine va_get (D := D) (ci := 5) (v := .int (s58 19 6)) (C := R_Model) (T := T_Model) (N := 36) hx hb hts in_Model hown hK hP 0 rfl rfl 25 (by decide) (hts _ wd516) (fun _ h9 => h9) rfl d_Model_write_301 ?_
          refine lv_goto (tgt := 317) hx hb d_Model_write_304 (by decide) ?_
          exact B317 (fun s x1 => x_Model_write_258  Post n258 s x1) hK258 s58 x1 (s58 19 6) x1 hm H locs ls hP hD hS (lv_sub hl [0, 1] rfl)
  have B37 : ∀ (n : Nat) (s : St) (x1 : Int32), x_Model_write_37  Post n s x1 → Bk D vwCl (wM ad ca) A p l e { frames := 6, cells := 0, slots := 0, locals := 145 } s0 m args below meth c (MQ below (va_Qv Post (atG D vwCl (tyM ca) (wM ad ca) A) A) args s0 0 0 A) 4 37 s [(0, .ref (ad 0)), (1, .int x1)] [] := by
    intro  n37
    induction n37 with
    | zero => intro s x1 hm; exact hm.elim
    | succ n37 hK37 =>
      intro s x1 hm H locs ls hP hD hS hl
      have hm : x_Model_write_37F  Post (fun s x1 => x_Model_write_37  Post n37 s x1) s x1 := hm
      unfold x_Model_write_37F at hm
      refine lv_iload_n hx hb d_Model_write_37 rfl (lv_at hl 1 rfl) ?_
      refine lv_aload_n hx hb d_Model_write_38 rfl (lv_at hl 0 rfl) ?_
      refine va_get (D := D) (ci := 5) (v := .int (s 19 5)) (C := R_Model) (T := T_Model) (N := 36) hx hb hts in_Model hown hK hP 0 rfl rfl 24 (by decide) (hts _ wd515) (fun _ h9 => h9) rfl d_Model_write_39 ?_
      refine lv_icmp_ge (tgt := 248) hx hb d_Model_write_42 (by decide) (fun c8 => ?_) (fun c8 => ?_)
      · replace hm := hm.1 c8
        refine lv_aload_n hx hb d_Model_write_248 rfl (lv_at hl 0 rfl) ?_
        refine lv_aload_n hx hb d_Model_write_249 rfl (lv_at hl 0 rfl) ?_
        refine va_get (D := D) (ci := 5) (v := .int (s 19 1)) (C := R_Model) (T := T_Model) (N := 36) hx hb hts in_Model hown hK hP 0 rfl rfl 8 (by decide) (hts _ wd499) (fun _ h9 => h9) rfl d_Model_write_250 ?_
        refine va_put (D := D) (ci := 5) (v := .int (s 19 1)) (ty := .int) (C := R_Model) (T := T_Model) (N := 36) hx hb hts in_Model t_Model to_Model no_Model hown hK hP hD hS 0 rfl rfl 26 (by decide) (hts _ wd517) (fun _ h9 => h9) rfl (by decide +kernel) rfl rfl (Nat.le_of_ble_eq_true rfl) d_Model_write_253 (fun H locs hP hD hS => ?_)
        have hP : va_P D vwCl (wM ad ca (su s 19 7 (s 19 1))) H := hP
        have hD : va_D A (wM ad ca (su s 19 7 (s 19 1))) := hD
        obtain ⟨s9, es9⟩ : ∃ z : St, z = su s 19 7 (s 19 1) := ⟨_, rfl⟩
        rw [← es9] at hP hD
        replace hm := hm s9 es9
        refine lv_iconst (v := 0) hx hb d_Model_write_256 (by decide) ?_
        refine lv_istore_n (lv' := [(1, .int (0 : Int32)), (0, .ref (ad 0))]) hx hb d_Model_write_257 rfl hl (by decide) rfl (fun ls hl => ?_)
        obtain ⟨n258, hm⟩ := hm
        exact B258  n258 s9 (0 : Int32) hm H locs ls hP hD hS (lv_sub hl [1, 0] rfl)
      · replace hm := hm.2 c8
        refine lv_aload_n hx hb d_Model_write_45 rfl (lv_at hl 0 rfl) ?_
        refine va_get (D := D) (ci := 5) (v := .ref (ad 8)) (C := R_Model) (T := T_Model) (N := 36) hx hb hts in_Model hown hK hP 0 rfl rfl 12 (by decide) (hts _ wd503) (fun _ h9 => h9) rfl d_Model_write_46 ?_
        refine lv_iload_n hx hb d_Model_write_49 rfl (lv_at hl 1 rfl) ?_
        obtain ⟨h10, hm⟩ := hm
        refine va_zald hx hb hK hP 8 7 rfl rfl h10 d_Model_write_50 ?_
        refine lv_if_ne (tgt := 57) hx hb d_Model_write_51 (by decide) (fun c11 => ?_) (fun c11 => ?_)
        · replace hm := hm.1 c11
          refine lv_aload_n hx hb d_Model_write_57 rfl (lv_at hl 0 rfl) ?_
          refine va_get (D := D) (ci := 5) (v := .ref (ad 10)) (C := R_Model) (T := T_Model) (N := 36) hx hb hts in_Model hown hK hP 0 rfl rfl 14 (by decide) (hts _ wd505) (fun _ h9 => h9) rfl d_Model_write_58 ?_
          refine lv_iload_n hx hb d_Model_write_61 rfl (lv_at hl 1 rfl) ?_
          obtain ⟨h12, hm⟩ := hm
          refine va_iald hx hb hK hP 10 9 rfl rfl h12 d_Model_write_62 ?_
          refine lv_topi (fun v13 ev13 => ?_)
          replace hm := hm v13 ev13
          refine lv_istore_n (lv' := [(2, .int v13), (0, .ref (ad 0)), (1, .int x1)]) hx hb d_Model_write_63 rfl hl (by decide) rfl (fun ls hl => ?_)
          refine lv_aload_n hx hb d_Model_write_64 rfl (lv_at hl 1 rfl) ?_
          refine va_get (D := D) (ci := 5) (v := .ref (ad 14)) (C := R_Model) (T := T_Model) (N := 36) hx hb hts in_Model hown hK hP 0 rfl rfl 18 (by decide) (hts _ wd509) (fun _ h9 => h9) rfl d_Model_write_65 ?_
          refine lv_iload_n hx hb d_Model_write_68 rfl (lv_at hl 2 rfl) ?_
          obtain ⟨h14, hm⟩ := hm
          refine va_iald hx hb hK hP 14 13 rfl rfl h14 d_Model_write_69 ?_
          refine lv_topi (fun v15 ev15 => ?_)
          replace hm := hm v15 ev15
          refine lv_istore_n (lv' := [(3, .int v15), (2, .int v13), (0, .ref (ad 0)), (1, .int x1)]) hx hb d_Model_write_70 rfl hl (by decide) rfl (fun ls hl => ?_)
          refine lv_aload_n hx hb d_Model_write_71 rfl (lv_at hl 2 rfl) ?_
          refine lv_dup hx hb d_Model_write_72 rfl ?_
          refine va_get (D := D) (ci := 5) (v := .int (s 19 9)) (C := R_Model) (T := T_Model) (N := 36) hx hb hts in_Model hown hK hP 0 rfl rfl 28 (by decide) (hts _ wd519) (fun _ h9 => h9) rfl d_Model_write_73 ?_
          refine lv_iconst (v := 1) hx hb d_Model_write_76 (by decide) ?_
          refine lv_iadd hx hb d_Model_write_77 ?_
          refine va_put (D := D) (ci := 5) (v := .int ((s 19 9) + (1 : Int32))) (ty := .int) (C := R_Model) (T := T_Model) (N := 36) hx hb hts in_Model t_Model to_Model no_Model hown hK hP hD hS 0 rfl rfl 28 (by decide) (hts _ wd519) (fun _ h9 => h9) rfl (by decide +kernel) rfl rfl (Nat.le_of_ble_eq_true rfl) d_Model_write_78 (fun H locs hP hD hS => ?_)
          have hP : va_P D vwCl (wM ad ca (su s 19 9 ((s 19 9) + (1 : Int32)))) H := hP
          have hD : va_D A (wM ad ca (su s 19 9 ((s 19 9) + (1 : Int32)))) := hD
          obtain ⟨s16, es16⟩ : ∃ z : St, z = su s 19 9 ((s 19 9) + (1 : Int32)) := ⟨_, rfl⟩
          rw [← es16] at hP hD
          replace hm := hm s16 es16
          refine lv_iload_n hx hb d_Model_write_81 rfl (lv_at hl 0 rfl) ?_
          refine lv_if_lt (tgt := 105) hx hb d_Model_write_82 (by decide) (fun c17 => ?_) (fun c17 => ?_)
          · replace hm := hm.1 c17
            exact B105 (fun s x1 => x_Model_write_37  Post n37 s x1) hK37 s16 x1 v13 v15 hm H locs ls hP hD hS (lv_sub hl [2, 3, 1, 0] rfl)
          · replace hm := hm.2 c17
            refine lv_aload_n hx hb d_Model_write_85 rfl (lv_at hl 2 rfl) ?_
            refine lv_dup hx hb d_Model_write_86 rfl ?_
            refine va_get (D := D) (ci := 5) (v := .int (s16 19 10)) (C := R_Model) (T := T_Model) (N := 36) hx hb hts in_Model hown hK hP 0 rfl rfl 29 (by decide) (hts _ wd520) (fun _ h9 => h9) rfl d_Model_write_87 ?_
            refine lv_iconst (v := 1) hx hb d_Model_write_90 (by decide) ?_
            refine lv_iadd hx hb d_Model_write_91 ?_
            refine va_put (D := D) (ci := 5) (v := .int ((s16 19 10) + (1 : Int32))) (ty := .int) (C := R_Model) (T := T_Model) (N := 36) hx hb hts in_Model t_Model to_Model no_Model hown hK hP hD hS 0 rfl rfl 29 (by decide) (hts _ wd520) (fun _ h9 => h9) rfl (by decide +kernel) rfl rfl (Nat.le_of_ble_eq_true rfl) d_Model_write_92 (fun H locs hP hD hS => ?_)
            have hP : va_P D vwCl (wM ad ca (su s16 19 10 ((s16 19 10) + (1 : Int32)))) H := hP
            have hD : va_D A (wM ad ca (su s16 19 10 ((s16 19 10) + (1 : Int32)))) := hD
            obtain ⟨s18, es18⟩ : ∃ z : St, z = su s16 19 10 ((s16 19 10) + (1 : Int32)) := ⟨_, rfl⟩
            rw [← es18] at hP hD
            replace hm := hm s18 es18
            refine lv_aload_n hx hb d_Model_write_95 rfl (lv_at hl 2 rfl) ?_
            refine lv_dup hx hb d_Model_write_96 rfl ?_
            refine va_get (D := D) (ci := 5) (v := .int (s18 19 12)) (C := R_Model) (T := T_Model) (N := 36) hx hb hts in_Model hown hK hP 0 rfl rfl 31 (by decide) (hts _ wd522) (fun _ h9 => h9) rfl d_Model_write_97 ?_
            refine lv_iload_n hx hb d_Model_write_100 rfl (lv_at hl 0 rfl) ?_
            refine lv_iadd hx hb d_Model_write_101 ?_
            refine va_put (D := D) (ci := 5) (v := .int ((s18 19 12) + v15)) (ty := .int) (C := R_Model) (T := T_Model) (N := 36) hx hb hts in_Model t_Model to_Model no_Model hown hK hP hD hS 0 rfl rfl 31 (by decide) (hts _ wd522) (fun _ h9 => h9) rfl (by decide +kernel) rfl rfl (Nat.le_of_ble_eq_true rfl) d_Model_write_102 (fun H locs hP hD hS => ?_)
            have hP : va_P D vwCl (wM ad ca (su s18 19 12 ((s18 19 12) + v15))) H := hP
            have hD : va_D A (wM ad ca (su s18 19 12 ((s18 19 12) + v15))) := hD
            obtain ⟨s19, es19⟩ : ∃ z : St, z = su s18 19 12 ((s18 19 12) + v15) := ⟨_, rfl⟩
            rw [← es19] at hP hD
            replace hm := hm s19 es19
            exact B105 (fun s x1 => x_Model_write_37  Post n37 s x1) hK37 s19 x1 v13 v15 hm H locs ls hP hD hS (lv_sub hl [2, 3, 1, 0] rfl)
        · replace hm := hm.2 c11
          refine lv_goto (tgt := 242) hx hb d_Model_write_54 (by decide) ?_
          exact B242 (fun s x1 => x_Model_write_37  Post n37 s x1) hK37 s x1 hm H locs ls hP hD hS (lv_sub hl [0, 1] rfl)
  intro H locs ls hP hD hS hl
  have hl : lv_has ls 4 [(0, .ref (ad 0))] := hl
  unfold x_Model_write at hm
  refine lv_aload_n hx hb d_Model_write_0 rfl (lv_at hl 0 rfl) ?_
  refine lv_iconst (v := 0) hx hb d_Model_write_1 (by decide) ?_
  refine va_put (D := D) (ci := 5) (v := .int (0 : Int32)) (ty := .int) (C := R_Model) (T := T_Model) (N := 36) hx hb hts in_Model t_Model to_Model no_Model hown hK hP hD hS 0 rfl rfl 34 (by decide) (hts _ wd525) (fun _ h9 => h9) rfl (by decide +kernel) rfl rfl (Nat.le_of_ble_eq_true rfl) d_Model_write_2 (fun H locs hP hD hS => ?_)
  have hP : va_P D vwCl (wM ad ca (su s 19 15 (0 : Int32))) H := hP
  have hD : va_D A (wM ad ca (su s 19 15 (0 : Int32))) := hD
  obtain ⟨s1, es1⟩ : ∃ z : St, z = su s 19 15 (0 : Int32) := ⟨_, rfl⟩
  rw [← es1] at hP hD
  replace hm := hm s1 es1
  refine lv_aload_n hx hb d_Model_write_5 rfl (lv_at hl 0 rfl) ?_
  refine lv_iconst (v := 0) hx hb d_Model_write_6 (by decide) ?_
  refine va_put (D := D) (ci := 5) (v := .int (0 : Int32)) (ty := .int) (C := R_Model) (T := T_Model) (N := 36) hx hb hts in_Model t_Model to_Model no_Model hown hK hP hD hS 0 rfl rfl 28 (by decide) (hts _ wd519) (fun _ h9 => h9) rfl (by decide +kernel) rfl rfl (Nat.le_of_ble_eq_true rfl) d_Model_write_7 (fun H locs hP hD hS => ?_)
  have hP : va_P D vwCl (wM ad ca (su s1 19 9 (0 : Int32))) H := hP
  have hD : va_D A (wM ad ca (su s1 19 9 (0 : Int32))) := hD
  obtain ⟨s2, es2⟩ : ∃ z : St, z = su s1 19 9 (0 : Int32) := ⟨_, rfl⟩
  rw [← es2] at hP hD
  replace hm := hm s2 es2
  refine lv_aload_n hx hb d_Model_write_10 rfl (lv_at hl 0 rfl) ?_
  refine lv_iconst (v := 0) hx hb d_Model_write_11 (by decide) ?_
  refine va_put (D := D) (ci := 5) (v := .int (0 : Int32)) (ty := .int) (C := R_Model) (T := T_Model) (N := 36) hx hb hts in_Model t_Model to_Model no_Model hown hK hP hD hS 0 rfl rfl 29 (by decide) (hts _ wd520) (fun _ h9 => h9) rfl (by decide +kernel) rfl rfl (Nat.le_of_ble_eq_true rfl) d_Model_write_12 (fun H locs hP hD hS => ?_)
  have hP : va_P D vwCl (wM ad ca (su s2 19 10 (0 : Int32))) H := hP
  have hD : va_D A (wM ad ca (su s2 19 10 (0 : Int32))) := hD
  obtain ⟨s3, es3⟩ : ∃ z : St, z = su s2 19 10 (0 : Int32) := ⟨_, rfl⟩
  rw [← es3] at hP hD
  replace hm := hm s3 es3
  refine lv_aload_n hx hb d_Model_write_15 rfl (lv_at hl 0 rfl) ?_
  refine lv_iconst (v := 0) hx hb d_Model_write_16 (by decide) ?_
  refine va_put (D := D) (ci := 5) (v := .int (0 : Int32)) (ty := .int) (C := R_Model) (T := T_Model) (N := 36) hx hb hts in_Model t_Model to_Model no_Model hown hK hP hD hS 0 rfl rfl 30 (by decide) (hts _ wd521) (fun _ h9 => h9) rfl (by decide +kernel) rfl rfl (Nat.le_of_ble_eq_true rfl) d_Model_write_17 (fun H locs hP hD hS => ?_)
  have hP : va_P D vwCl (wM ad ca (su s3 19 11 (0 : Int32))) H := hP
  have hD : va_D A (wM ad ca (su s3 19 11 (0 : Int32))) := hD
  obtain ⟨s4, es4⟩ : ∃ z : St, z = su s3 19 11 (0 : Int32) := ⟨_, rfl⟩
  rw [← es4] at hP hD
  replace hm := hm s4 es4
  refine lv_aload_n hx hb d_Model_write_20 rfl (lv_at hl 0 rfl) ?_
  refine lv_iconst (v := 0) hx hb d_Model_write_21 (by decide) ?_
  refine va_put (D := D) (ci := 5) (v := .int (0 : Int32)) (ty := .int) (C := R_Model) (T := T_Model) (N := 36) hx hb hts in_Model t_Model to_Model no_Model hown hK hP hD hS 0 rfl rfl 31 (by decide) (hts _ wd522) (fun _ h9 => h9) rfl (by decide +kernel) rfl rfl (Nat.le_of_ble_eq_true rfl) d_Model_write_22 (fun H locs hP hD hS => ?_)
  have hP : va_P D vwCl (wM ad ca (su s4 19 12 (0 : Int32))) H := hP
  have hD : va_D A (wM ad ca (su s4 19 12 (0 : Int32))) := hD
  obtain ⟨s5, es5⟩ : ∃ z : St, z = su s4 19 12 (0 : Int32) := ⟨_, rfl⟩
  rw [← es5] at hP hD
  replace hm := hm s5 es5
  refine lv_aload_n hx hb d_Model_write_25 rfl (lv_at hl 0 rfl) ?_
  refine lv_iconst (v := 0) hx hb d_Model_write_26 (by decide) ?_
  refine va_put (D := D) (ci := 5) (v := .int (0 : Int32)) (ty := .int) (C := R_Model) (T := T_Model) (N := 36) hx hb hts in_Model t_Model to_Model no_Model hown hK hP hD hS 0 rfl rfl 32 (by decide) (hts _ wd523) (fun _ h9 => h9) rfl (by decide +kernel) rfl rfl (Nat.le_of_ble_eq_true rfl) d_Model_write_27 (fun H locs hP hD hS => ?_)
  have hP : va_P D vwCl (wM ad ca (su s5 19 13 (0 : Int32))) H := hP
  have hD : va_D A (wM ad ca (su s5 19 13 (0 : Int32))) := hD
  obtain ⟨s6, es6⟩ : ∃ z : St, z = su s5 19 13 (0 : Int32) := ⟨_, rfl⟩
  rw [← es6] at hP hD
  replace hm := hm s6 es6
  refine lv_aload_n hx hb d_Model_write_30 rfl (lv_at hl 0 rfl) ?_
  refine lv_iconst (v := 0) hx hb d_Model_write_31 (by decide) ?_
  refine va_put (D := D) (ci := 5) (v := .int (0 : Int32)) (ty := .int) (C := R_Model) (T := T_Model) (N := 36) hx hb hts in_Model t_Model to_Model no_Model hown hK hP hD hS 0 rfl rfl 33 (by decide) (hts _ wd524) (fun _ h9 => h9) rfl (by decide +kernel) rfl rfl (Nat.le_of_ble_eq_true rfl) d_Model_write_32 (fun H locs hP hD hS => ?_)
  have hP : va_P D vwCl (wM ad ca (su s6 19 14 (0 : Int32))) H := hP
  have hD : va_D A (wM ad ca (su s6 19 14 (0 : Int32))) := hD
  obtain ⟨s7, es7⟩ : ∃ z : St, z = su s6 19 14 (0 : Int32) := ⟨_, rfl⟩
  rw [← es7] at hP hD
  replace hm := hm s7 es7
  refine lv_iconst (v := 0) hx hb d_Model_write_35 (by decide) ?_
  refine lv_istore_n (lv' := [(1, .int (0 : Int32)), (0, .ref (ad 0))]) hx hb d_Model_write_36 rfl hl (by decide) rfl (fun ls hl => ?_)
  obtain ⟨n37, hm⟩ := hm
  exact B37  n37 s7 (0 : Int32) hm H locs ls hP hD hS (lv_sub hl [1, 0] rfl)
set_option maxHeartbeats 4000000 in
set_option maxRecDepth 100000 in
theorem c_Model_rewrite (l : Launch) (D : va_G) (ad : Nat → Nat) (ca : Nat → ClassId) (sz : Nat) (s : St) (Post : Int32 → St → Prop) (hm : x_Model_rewrite s  Post) : CtI l y_Model_rewrite w_Model_rewrite { frames := 7, cells := 0, slots := 0, locals := 168 } D vwCl (tyM ca) (wM ad ca) sz [.ref (ad 0)] s Post := by
  refine ct_i (cc := prog_8_method_27_code) (maxL := 6) (ret := (some .int)) (by decide) rfl (Nat.le_of_ble_eq_true rfl) ?_
  intro p e s0 m args below meth c A hx hb hr hts hown hlocks hml hK hA
  have hown : s0.vm.findClass R_Model = some m.cls := hown
  have B211 : ∀ (K85 : St → Int32 → Prop) (hK85 : ∀ (s : St) (x2 : Int32), K85 s x2 → Bk D vwCl (wM ad ca) A p l e { frames := 7, cells := 0, slots := 0, locals := 168 } s0 m args below meth c (MQ below (va_Qi Post (atG D vwCl (tyM ca) (wM ad ca) A) A) args s0 0 0 A) 6 85 s [(0, .ref (ad 0)), (2, .int x2)] []) (K107 : St → Int32 → Int32 → Prop) (hK107 : ∀ (s : St) (x2 : Int32) (x3 : Int32), K107 s x2 x3 → Bk D vwCl (wM ad ca) A p l e { frames := 7, cells := 0, slots := 0, locals := 168 } s0 m args below meth c (MQ below (va_Qi Post (atG D vwCl (tyM ca) (wM ad ca) A) A) args s0 0 0 A) 6 107 s [(0, .ref (ad 0)), (2, .int x2), (3, .int x3)] []) (s : St) (x2 : Int32) (x3 : Int32), x_Model_rewrite_211 K85 K107 Post s x2 x3 → Bk D vwCl (wM ad ca) A p l e { frames := 7, cells := 0, slots := 0, locals := 168 } s0 m args below meth c (MQ below (va_Qi Post (atG D vwCl (tyM ca) (wM ad ca) A) A) args s0 0 0 A) 6 211 s [(0, .ref (ad 0)), (2, .int x2), (3, .int x3)] [] := by
    intro K85 hK85 K107 hK107 s x2 x3 hm H locs ls hP hD hS hl
    unfold x_Model_rewrite_211 at hm
    obtain ⟨v50, ev50⟩ : ∃ y : Int32, y = x3 + 1 := ⟨_, rfl⟩
    replace hm := hm v50 ev50
    refine lv_iinc (v := v50) (lv' := [(3, .int v50), (0, .ref (ad 0)), (2, .int x2)]) hx hb d_Model_rewrite_211 hl (k := 2) rfl (by rw [ev50]; rfl) (by decide) rfl (fun ls hl => ?_)
    refine lv_goto (tgt := 107) hx hb d_Model_rewrite_214 (by decide) ?_
    exact hK107 s x2 v50 hm H locs ls hP hD hS (lv_sub hl [1, 2, 0] rfl)
  have B107 : ∀ (K85 : St → Int32 → Prop) (hK85 : ∀ (s : St) (x2 : Int32), K85 s x2 → Bk D vwCl (wM ad ca) A p l e { frames := 7, cells := 0, slots := 0, locals := 168 } s0 m args below meth c (MQ below (va_Qi Post (atG D vwCl (tyM ca) (wM ad ca) A) A) args s0 0 0 A) 6 85 s [(0, .ref (ad 0)), (2, .int x2)] []) (n : Nat) (s : St) (x2 : Int32) (x3 : Int32), x_Model_rewrite_107 K85 Post n s x2 x3 → Bk D vwCl (wM ad ca) A p l e { frames := 7, cells := 0, slots := 0, locals := 168 } s0 m args below meth c (MQ below (va_Qi Post (atG D vwCl (tyM ca) (wM ad ca) A) A) args s0 0 0 A) 6 107 s [(0, .ref (ad 0)), (2, .int x2), (3, .int x3)] [] := by
    intro K85 hK85 n107
    induction n107 with
    | zero => intro s x2 x3 hm; exact hm.elim
    | succ n107 hK107 =>
      intro s x2 x3 hm H locs ls hP hD hS hl
      have hm : x_Model_rewrite_107F K85 Post (fun s x2 x3 => x_Model_rewrite_107 K85 Post n107 s x2 x3) s x2 x3 := hm
      unfold x_Model_rewrite_107F at hm
      refine lv_iload_n hx hb d_Model_rewrite_107 rfl (lv_at hl 2 rfl) ?_
      refine lv_aload_n hx hb d_Model_rewrite_108 rfl (lv_at hl 0 rfl) ?_
      refine va_get (D := D) (ci := 5) (v := .int (s 19 5)) (C := R_Model) (T := T_Model) (N := 36) hx hb hts in_Model hown hK hP 0 rfl rfl 24 (by decide) (hts _ wd515) (fun _ h9 => h9) rfl d_Model_rewrite_109 ?_
      refine lv_icmp_ge (tgt := 217) hx hb d_Model_rewrite_112 (by decide) (fun c27 => ?_) (fun c27 => ?_)
      · replace hm := hm.1 c27
        refine lv_goto (tgt := 85) hx hb d_Model_rewrite_217 (by decide) ?_
        exact hK85 s x2 hm H locs ls hP hD hS (lv_sub hl [0, 1] rfl)
      · replace hm := hm.2 c27
        refine lv_aload_n hx hb d_Model_rewrite_115 rfl (lv_at hl 0 rfl) ?_
        refine va_get (D := D) (ci := 5) (v := .ref (ad 8)) (C := R_Model) (T := T_Model) (N := 36) hx hb hts in_Model hown hK hP 0 rfl rfl 12 (by decide) (hts _ wd503) (fun _ h9 => h9) rfl d_Model_rewrite_116 ?_
        refine lv_iload_n hx hb d_Model_rewrite_119 rfl (lv_at hl 2 rfl) ?_
        obtain ⟨h28, hm⟩ := hm
        refine va_zald hx hb hK hP 8 7 rfl rfl h28 d_Model_rewrite_120 ?_
        refine lv_if_eq (tgt := 211) hx hb d_Model_rewrite_121 (by decide) (fun c29 => ?_) (fun c29 => ?_)
        · replace hm := hm.1 c29
          exact B211 K85 hK85 (fun s x2 x3 => x_Model_rewrite_107 K85 Post n107 s x2 x3) hK107 s x2 x3 hm H locs ls hP hD hS (lv_sub hl [0, 1, 2] rfl)
        · replace hm := hm.2 c29
          refine lv_aload_n hx hb d_Model_rewrite_124 rfl (lv_at hl 0 rfl) ?_
          refine va_get (D := D) (ci := 5) (v := .ref (ad 10)) (C := R_Model) (T := T_Model) (N := 36) hx hb hts in_Model hown hK hP 0 rfl rfl 14 (by decide) (hts _ wd505) (fun _ h9 => h9) rfl d_Model_rewrite_125 ?_
          refine lv_iload_n hx hb d_Model_rewrite_128 rfl (lv_at hl 2 rfl) ?_
          obtain ⟨h30, hm⟩ := hm
          refine va_iald hx hb hK hP 10 9 rfl rfl h30 d_Model_rewrite_129 ?_
          refine cg_Si (As := [.int (s 9 (x3).toNatClampNeg)]) (rest := []) ⟨hx, hb, hml, hown, hts⟩ hK hP hD hS hA (c_Model_isJump l D ad ca H.size s (s 9 (x3).toNatClampNeg) _ hm) (cwB 1 hts wd662 wd7 wd660 wd661 (by decide +kernel) ⟨Nat.le_of_ble_eq_true rfl, Nat.le_of_ble_eq_true rfl⟩) rfl hl rfl (Nat.le_of_ble_eq_true rfl) d_Model_rewrite_130 (fun r31 s32 hm => ?_)
          intro H locs ls hP hD hS hl
          refine lv_if_eq (tgt := 211) hx hb d_Model_rewrite_133 (by decide) (fun c33 => ?_) (fun c33 => ?_)
          · replace hm := hm.1 c33
            exact B211 K85 hK85 (fun s x2 x3 => x_Model_rewrite_107 K85 Post n107 s x2 x3) hK107 s32 x2 x3 hm H locs ls hP hD hS (lv_sub hl [0, 1, 2] rfl)
          · replace hm := hm.2 c33
            refine lv_aload_n hx hb d_Model_rewrite_136 rfl (lv_at hl 0 rfl) ?_
            refine va_get (D := D) (ci := 5) (v := .ref (ad 10)) (C := R_Model) (T := T_Model) (N := 36) hx hb hts in_Model hown hK hP 0 rfl rfl 14 (by decide) (hts _ wd505) (fun _ h9 => h9) rfl d_Model_rewrite_137 ?_
            refine lv_iload_n hx hb d_Model_rewrite_140 rfl (lv_at hl 2 rfl) ?_
            obtain ⟨h34, hm⟩ := hm
            refine va_iald hx hb hK hP 10 9 rfl rfl h34 d_Model_rewrite_141 ?_
            refine lv_sipush (v := 200) hx hb d_Model_rewrite_142 (by decide) ?_
            refine lv_icmp_eq (tgt := 211) hx hb d_Model_rewrite_145 (by decide) (fun c35 => ?_) (fun c35 => ?_)
            · replace hm := hm.1 c35
              exact B211 K85 hK85 (fun s x2 x3 => x_Model_rewrite_107 K85 Post n107 s x2 x3) hK107 s32 x2 x3 hm H locs ls hP hD hS (lv_sub hl [0, 1, 2] rfl)
            · replace hm := hm.2 c35
              refine lv_aload_n hx hb d_Model_rewrite_148 rfl (lv_at hl 0 rfl) ?_
              refine va_get (D := D) (ci := 5) (v := .ref (ad 9)) (C := R_Model) (T := T_Model) (N := 36) hx hb hts in_Model hown hK hP 0 rfl rfl 13 (by decide) (hts _ wd504) (fun _ h9 => h9) rfl d_Model_rewrite_149 ?_
              refine lv_iload_n hx hb d_Model_rewrite_152 rfl (lv_at hl 2 rfl) ?_
              obtain ⟨h36, hm⟩ := hm
              refine va_zald hx hb hK hP 9 8 rfl rfl h36 d_Model_rewrite_153 ?_
              refine lv_if_eq (tgt := 160) hx hb d_Model_rewrite_154 (by decide) (fun c37 => ?_) (fun c37 => ?_)
              · replace hm := hm.1 c37
                refine lv_aload_n hx hb d_Model_rewrite_160 rfl (lv_at hl 0 rfl) ?_
                refine lv_iload_n hx hb d_Model_rewrite_161 rfl (lv_at hl 2 rfl) ?_
                refine lv_iconst (v := 0) hx hb d_Model_rewrite_162 (by decide) ?_
                refine cg_Vi (b := (ad 0)) (As := [.int x3, .int (0 : Int32)]) (rest := []) ⟨hx, hb, hml, hown, hts⟩ hK hP hD hS hA (c_Model_goal l D ad ca H.size s32 x3 (0 : Int32) _ hm) (cwA 2 hts wd666 wd7 wd663 wd665 ws29 (by decide +kernel) ⟨Nat.le_of_ble_eq_true rfl, Nat.le_of_ble_eq_true rfl⟩) (va_recv hK hP (ci := 5) (q0 := 0) rfl rfl) rfl hl rfl (Nat.le_of_ble_eq_true rfl) d_Model_rewrite_163 (fun r38 s39 hm => ?_)
                intro H locs ls hP hD hS hl
                refine lv_istore (lv' := [(4, .int r38), (0, .ref (ad 0)), (2, .int x2), (3, .int x3)]) hx hb d_Model_rewrite_166 hl (by decide) rfl (fun ls hl => ?_)
                refine lv_aload_n hx hb d_Model_rewrite_168 rfl (lv_at hl 1 rfl) ?_
                refine lv_iload hx hb d_Model_rewrite_169 (lv_at hl 0 rfl) ?_
                refine cg_Vi (b := (ad 0)) (As := [.int r38]) (rest := []) ⟨hx, hb, hml, hown, hts⟩ hK hP hD hS hA (c_Model_front l D ad ca H.size s39 r38 _ hm) (cwA 1 hts wd700 wd7 wd697 wd699 ws36 (by decide +kernel) ⟨Nat.le_of_ble_eq_true rfl, Nat.le_of_ble_eq_true rfl⟩) (va_recv hK hP (ci := 5) (q0 := 0) rfl rfl) rfl hl rfl (Nat.le_of_ble_eq_true rfl) d_Model_rewrite_171 (fun r40 s41 hm => ?_)
                intro H locs ls hP hD hS hl
                refine lv_aload_n hx hb d_Model_rewrite_174 rfl (lv_at hl 1 rfl) ?_
                refine lv_iload_n hx hb d_Model_rewrite_175 rfl (lv_at hl 3 rfl) ?_
                refine cg_Vi (b := (ad 0)) (As := [.int x3]) (rest := [.int r40]) ⟨hx, hb, hml, hown, hts⟩ hK hP hD hS hA (c_Model_opcodeAt l D ad ca H.size s41 x3 _ hm) (cwA 1 hts wd696 wd7 wd693 wd695 ws35 (by decide +kernel) ⟨Nat.le_of_ble_eq_true rfl, Nat.le_of_ble_eq_true rfl⟩) (va_recv hK hP (ci := 5) (q0 := 0) rfl rfl) rfl hl rfl (Nat.le_of_ble_eq_true rfl) d_Model_rewrite_176 (fun r42 s43 hm => ?_)
                intro H locs ls hP hD hS hl
                refine lv_isub hx hb d_Model_rewrite_179 ?_
                refine lv_topi (fun v44 ev44 => ?_)
                replace hm := hm v44 ev44
                refine lv_istore (lv' := [(5, .int v44), (4, .int r38), (0, .ref (ad 0)), (2, .int x2), (3, .int x3)]) hx hb d_Model_rewrite_180 hl (by decide) rfl (fun ls hl => ?_)
                refine lv_iload hx hb d_Model_rewrite_182 (lv_at hl 0 rfl) ?_
                refine lv_aload_n hx hb d_Model_rewrite_184 rfl (lv_at hl 2 rfl) ?_
                refine va_get (D := D) (ci := 5) (v := .int (s43 19 3)) (C := R_Model) (T := T_Model) (N := 36) hx hb hts in_Model hown hK hP 0 rfl rfl 10 (by decide) (hts _ wd501) (fun _ h9 => h9) rfl d_Model_rewrite_185 ?_
                refine lv_ineg hx hb d_Model_rewrite_188 ?_
                refine lv_aload_n hx hb d_Model_rewrite_189 rfl (lv_at hl 2 rfl) ?_
                refine va_get (D := D) (ci := 5) (v := .int (s43 19 3)) (C := R_Model) (T := T_Model) (N := 36) hx hb hts in_Model hown hK hP 0 rfl rfl 10 (by decide) (hts _ wd501) (fun _ h9 => h9) rfl d_Model_rewrite_190 ?_
                refine cg_Si (As := [.int v44, .int (-(s43 19 3)), .int (s43 19 3)]) (rest := []) ⟨hx, hb, hml, hown, hts⟩ hK hP hD hS hA (c_Model_in l D ad ca H.size s43 v44 (-(s43 19 3)) (s43 19 3) _ hm) (cwB 3 hts wd606 wd7 wd604 wd605 (by decide +kernel) ⟨Nat.le_of_ble_eq_true rfl, Nat.le_of_ble_eq_true rfl⟩) rfl hl rfl (Nat.le_of_ble_eq_true rfl) d_Model_rewrite_193 (fun r45 s46 hm => ?_)
                intro H locs ls hP hD hS hl
                refine lv_if_eq (tgt := 202) hx hb d_Model_rewrite_196 (by decide) (fun c47 => ?_) (fun c47 => ?_)
                · replace hm := hm.1 c47
                  refine lv_aload_n hx hb d_Model_rewrite_202 rfl (lv_at hl 2 rfl) ?_
                  refine va_get (D := D) (ci := 5) (v := .ref (ad 9)) (C := R_Model) (T := T_Model) (N := 36) hx hb hts in_Model hown hK hP 0 rfl rfl 13 (by decide) (hts _ wd504) (fun _ h9 => h9) rfl d_Model_rewrite_203 ?_
                  refine lv_iload_n hx hb d_Model_rewrite_206 rfl (lv_at hl 4 rfl) ?_
                  refine lv_iconst (v := 1) hx hb d_Model_rewrite_207 (by decide) ?_
                  obtain ⟨h48, hm⟩ := hm
                  refine va_zast hx hb hK hP hD hS 9 8 rfl rfl h48 d_Model_rewrite_208 (fun H locs hP hD hS => ?_)
                  have hP : va_P D vwCl (wM ad ca (su s46 8 (x3).toNatClampNeg (vp_nar .boolean (1 : Int32)))) H := hP
                  have hD : va_D A (wM ad ca (su s46 8 (x3).toNatClampNeg (vp_nar .boolean (1 : Int32)))) := hD
                  obtain ⟨s49, es49⟩ : ∃ z : St, z = su s46 8 (x3).toNatClampNeg (vp_nar .boolean (1 : Int32)) := ⟨_, rfl⟩
                  rw [← es49] at hP hD
                  replace hm := hm s49 es49
                  refine lv_iconst (v := 1) hx hb d_Model_rewrite_209 (by decide) ?_
                  refine lv_istore_n (lv' := [(2, .int (1 : Int32)), (5, .int v44), (4, .int r38), (0, .ref (ad 0)), (3, .int x3)]) hx hb d_Model_rewrite_210 rfl hl (by decide) rfl (fun ls hl => ?_)
                  exact B211 K85 hK85 (fun s x2 x3 => x_Model_rewrite_107 K85 Post n107 s x2 x3) hK107 s49 (1 : Int32) x3 hm H locs ls hP hD hS (lv_sub hl [3, 0, 4] rfl)
                · replace hm := hm.2 c47
                  refine lv_goto (tgt := 211) hx hb d_Model_rewrite_199 (by decide) ?_
                  exact B211 K85 hK85 (fun s x2 x3 => x_Model_rewrite_107 K85 Post n107 s x2 x3) hK107 s46 x2 x3 hm H locs ls hP hD hS (lv_sub hl [2, 3, 4] rfl)
              · replace hm := hm.2 c37
                refine lv_goto (tgt := 211) hx hb d_Model_rewrite_157 (by decide) ?_
                exact B211 K85 hK85 (fun s x2 x3 => x_Model_rewrite_107 K85 Post n107 s x2 x3) hK107 s32 x2 x3 hm H locs ls hP hD hS (lv_sub hl [0, 1, 2] rfl)
  have B85 : ∀ (n : Nat) (s : St) (x2 : Int32), x_Model_rewrite_85  Post n s x2 → Bk D vwCl (wM ad ca) A p l e { frames := 7, cells := 0, slots := 0, locals := 168 } s0 m args below meth c (MQ below (va_Qi Post (atG D vwCl (tyM ca) (wM ad ca) A) A) args s0 0 0 A) 6 85 s [(0, .ref (ad 0)), (2, .int x2)] [] := by
    intro  n85
    induction n85 with
    | zero => intro s x2 hm; exact hm.elim
    | succ n85 hK85 =>
      intro s x2 hm H locs ls hP hD hS hl
      have hm : x_Model_rewrite_85F  Post (fun s x2 => x_Model_rewrite_85  Post n85 s x2) s x2 := hm
      unfold x_Model_rewrite_85F at hm
      refine lv_iload_n hx hb d_Model_rewrite_85 rfl (lv_at hl 1 rfl) ?_
      refine lv_if_eq (tgt := 220) hx hb d_Model_rewrite_86 (by decide) (fun c18 => ?_) (fun c18 => ?_)
      · replace hm := hm.1 c18
        refine lv_aload_n hx hb d_Model_rewrite_220 rfl (lv_at hl 0 rfl) ?_
        refine va_get (D := D) (ci := 5) (v := .int (s 19 6)) (C := R_Model) (T := T_Model) (N := 36) hx hb hts in_Model hown hK hP 0 rfl rfl 25 (by decide) (hts _ wd516) (fun _ h9 => h9) rfl d_Model_rewrite_221 ?_
        refine lv_sipush (v := 1200) hx hb d_Model_rewrite_224 (by decide) ?_
        refine lv_icmp_le (tgt := 232) hx hb d_Model_rewrite_227 (by decide) (fun c19 => ?_) (fun c19 => ?_)
        · replace hm := hm.1 c19
          refine lv_aload_n hx hb d_Model_rewrite_232 rfl (lv_at hl 0 rfl) ?_
          refine cg_Vv (b := (ad 0)) (As := []) (rest := []) ⟨hx, hb, hml, hown, hts⟩ hK hP hD hS hA (c_Model_write l D ad ca H.size s _ hm) (cwA 0 hts wd704 wd7 wd701 wd703 ws37 (by decide +kernel) ⟨Nat.le_of_ble_eq_true rfl, Nat.le_of_ble_eq_true rfl⟩) (va_recv hK hP (ci := 5) (q0 := 0) rfl rfl) rfl hl rfl (Nat.le_of_ble_eq_true rfl) d_Model_rewrite_233 (fun s21 hm => ?_)
          intro H locs ls hP hD hS hl
          refine lv_aload_n hx hb d_Model_rewrite_236 rfl (lv_at hl 0 rfl) ?_
          refine lv_iconst (v := 1) hx hb d_Model_rewrite_237 (by decide) ?_
          refine va_put (D := D) (ci := 5) (v := .int (1 : Int32)) (ty := .boolean) (C := R_Model) (T := T_Model) (N := 36) hx hb hts in_Model t_Model to_Model no_Model hown hK hP hD hS 0 rfl rfl 35 (by decide) (hts _ wd526) (fun _ h9 => h9) rfl (by decide +kernel) rfl rfl (Nat.le_of_ble_eq_true rfl) d_Model_rewrite_238 (fun H locs hP hD hS => ?_)
          have hP : va_P D vwCl (wM ad ca (su s21 19 16 (1 : Int32))) H := hP
          have hD : va_D A (wM ad ca (su s21 19 16 (1 : Int32))) := hD
          obtain ⟨s22, es22⟩ : ∃ z : St, z = su s21 19 16 (1 : Int32) := ⟨_, rfl⟩
          rw [← es22] at hP hD
          replace hm := hm s22 es22
          refine lv_aload_n hx hb d_Model_rewrite_241 rfl (lv_at hl 0 rfl) ?_
          refine lv_dup hx hb d_Model_rewrite_242 rfl ?_
          refine va_get (D := D) (ci := 5) (v := .int (s22 19 4)) (C := R_Model) (T := T_Model) (N := 36) hx hb hts in_Model hown hK hP 0 rfl rfl 11 (by decide) (hts _ wd502) (fun _ h9 => h9) rfl d_Model_rewrite_243 ?_
          refine lv_iconst (v := 1) hx hb d_Model_rewrite_246 (by decide) ?_
          refine lv_iadd hx hb d_Model_rewrite_247 ?_
          refine va_put (D := D) (ci := 5) (v := .int ((s22 19 4) + (1 : Int32))) (ty := .int) (C := R_Model) (T := T_Model) (N := 36) hx hb hts in_Model t_Model to_Model no_Model hown hK hP hD hS 0 rfl rfl 11 (by decide) (hts _ wd502) (fun _ h9 => h9) rfl (by decide +kernel) rfl rfl (Nat.le_of_ble_eq_true rfl) d_Model_rewrite_248 (fun H locs hP hD hS => ?_)
          have hP : va_P D vwCl (wM ad ca (su s22 19 4 ((s22 19 4) + (1 : Int32)))) H := hP
          have hD : va_D A (wM ad ca (su s22 19 4 ((s22 19 4) + (1 : Int32)))) := hD
          obtain ⟨s23, es23⟩ : ∃ z : St, z = su s22 19 4 ((s22 19 4) + (1 : Int32)) := ⟨_, rfl⟩
          rw [← es23] at hP hD
          replace hm := hm s23 es23
          refine lv_iconst (v := 0) hx hb d_Model_rewrite_251 (by decide) ?_
          exact rt_i hx hb hr hlocks hK hP hD hS d_Model_rewrite_252 hm
        · replace hm := hm.2 c19
          refine lv_iconst (v := 2) hx hb d_Model_rewrite_230 (by decide) ?_
          exact rt_i hx hb hr hlocks hK hP hD hS d_Model_rewrite_231 hm
      · replace hm := hm.2 c18
        refine lv_iconst (v := 0) hx hb d_Model_rewrite_89 (by decide) ?_
        refine lv_istore_n (lv' := [(2, .int (0 : Int32)), (0, .ref (ad 0))]) hx hb d_Model_rewrite_90 rfl hl (by decide) rfl (fun ls hl => ?_)
        refine lv_aload_n hx hb d_Model_rewrite_91 rfl (lv_at hl 1 rfl) ?_
        refine cg_Vv (b := (ad 0)) (As := []) (rest := []) ⟨hx, hb, hml, hown, hts⟩ hK hP hD hS hA (c_Model_layOut l D ad ca H.size s _ hm) (cwA 0 hts wd685 wd7 wd682 wd684 ws33 (by decide +kernel) ⟨Nat.le_of_ble_eq_true rfl, Nat.le_of_ble_eq_true rfl⟩) (va_recv hK hP (ci := 5) (q0 := 0) rfl rfl) rfl hl rfl (Nat.le_of_ble_eq_true rfl) d_Model_rewrite_92 (fun s25 hm => ?_)
        intro H locs ls hP hD hS hl
        refine lv_aload_n hx hb d_Model_rewrite_95 rfl (lv_at hl 1 rfl) ?_
        refine lv_dup hx hb d_Model_rewrite_96 rfl ?_
        refine va_get (D := D) (ci := 5) (v := .int (s25 19 8)) (C := R_Model) (T := T_Model) (N := 36) hx hb hts in_Model hown hK hP 0 rfl rfl 27 (by decide) (hts _ wd518) (fun _ h9 => h9) rfl d_Model_rewrite_97 ?_
        refine lv_iconst (v := 1) hx hb d_Model_rewrite_100 (by decide) ?_
        refine lv_iadd hx hb d_Model_rewrite_101 ?_
        refine va_put (D := D) (ci := 5) (v := .int ((s25 19 8) + (1 : Int32))) (ty := .int) (C := R_Model) (T := T_Model) (N := 36) hx hb hts in_Model t_Model to_Model no_Model hown hK hP hD hS 0 rfl rfl 27 (by decide) (hts _ wd518) (fun _ h9 => h9) rfl (by decide +kernel) rfl rfl (Nat.le_of_ble_eq_true rfl) d_Model_rewrite_102 (fun H locs hP hD hS => ?_)
        have hP : va_P D vwCl (wM ad ca (su s25 19 8 ((s25 19 8) + (1 : Int32)))) H := hP
        have hD : va_D A (wM ad ca (su s25 19 8 ((s25 19 8) + (1 : Int32)))) := hD
        obtain ⟨s26, es26⟩ : ∃ z : St, z = su s25 19 8 ((s25 19 8) + (1 : Int32)) := ⟨_, rfl⟩
        rw [← es26] at hP hD
        replace hm := hm s26 es26
        refine lv_iconst (v := 0) hx hb d_Model_rewrite_105 (by decide) ?_
        refine lv_istore_n (lv' := [(3, .int (0 : Int32)), (2, .int (0 : Int32)), (0, .ref (ad 0))]) hx hb d_Model_rewrite_106 rfl hl (by decide) rfl (fun ls hl => ?_)
        obtain ⟨n107, hm⟩ := hm
        exact B107 (fun s x2 => x_Model_rewrite_85  Post n85 s x2) hK85 n107 s26 (0 : Int32) (0 : Int32) hm H locs ls hP hD hS (lv_sub hl [2, 1, 0] rfl)
  have B43 : ∀ (n : Nat) (s : St) (x1 : Int32), x_Model_rewrite_43  Post n s x1 → Bk D vwCl (wM ad ca) A p l e { frames := 7, cells := 0, slots := 0, locals := 168 } s0 m args below meth c (MQ below (va_Qi Post (atG D vwCl (tyM ca) (wM ad ca) A) A) args s0 0 0 A) 6 43 s [(0, .ref (ad 0)), (1, .int x1)] [] := by
    intro  n43
    induction n43 with
    | zero => intro s x1 hm; exact hm.elim
    | succ n43 hK43 =>
      intro s x1 hm H locs ls hP hD hS hl
      have hm : x_Model_rewrite_43F  Post (fun s x1 => x_Model_rewrite_43  Post n43 s x1) s x1 := hm
      unfold x_Model_rewrite_43F at hm
      refine lv_iload_n hx hb d_Model_rewrite_43 rfl (lv_at hl 1 rfl) ?_
      refine lv_sipush (v := 200) hx hb d_Model_rewrite_44 (by decide) ?_
      refine lv_icmp_gt (tgt := 63) hx hb d_Model_rewrite_47 (by decide) (fun c8 => ?_) (fun c8 => ?_)
      · replace hm := hm.1 c8
        refine lv_aload_n hx hb d_Model_rewrite_63 rfl (lv_at hl 0 rfl) ?_
        refine cg_Vi (b := (ad 0)) (As := []) (rest := []) ⟨hx, hb, hml, hown, hts⟩ hK hP hD hS hA (c_Model_isFormed l D ad ca H.size s _ hm) (cwA 0 hts wd640 wd7 wd637 wd639 ws25 (by decide +kernel) ⟨Nat.le_of_ble_eq_true rfl, Nat.le_of_ble_eq_true rfl⟩) (va_recv hK hP (ci := 5) (q0 := 0) rfl rfl) rfl hl rfl (Nat.le_of_ble_eq_true rfl) d_Model_rewrite_64 (fun r9 s10 hm => ?_)
        intro H locs ls hP hD hS hl
        refine lv_istore_n (lv' := [(1, .int r9), (0, .ref (ad 0))]) hx hb d_Model_rewrite_67 rfl hl (by decide) rfl (fun ls hl => ?_)
        refine lv_iload_n hx hb d_Model_rewrite_68 rfl (lv_at hl 0 rfl) ?_
        refine lv_if_ne (tgt := 74) hx hb d_Model_rewrite_69 (by decide) (fun c11 => ?_) (fun c11 => ?_)
        · replace hm := hm.1 c11
          refine lv_aload_n hx hb d_Model_rewrite_74 rfl (lv_at hl 1 rfl) ?_
          refine cg_Vv (b := (ad 0)) (As := []) (rest := []) ⟨hx, hb, hml, hown, hts⟩ hK hP hD hS hA (c_Model_findBlocks l D ad ca H.size s10 _ hm) (cwA 0 hts wd678 wd7 wd675 wd677 ws32 (by decide +kernel) ⟨Nat.le_of_ble_eq_true rfl, Nat.le_of_ble_eq_true rfl⟩) (va_recv hK hP (ci := 5) (q0 := 0) rfl rfl) rfl hl rfl (Nat.le_of_ble_eq_true rfl) d_Model_rewrite_75 (fun s13 hm => ?_)
          intro H locs ls hP hD hS hl
          refine lv_aload_n hx hb d_Model_rewrite_78 rfl (lv_at hl 1 rfl) ?_
          refine lv_iconst (v := 0) hx hb d_Model_rewrite_79 (by decide) ?_
          refine va_put (D := D) (ci := 5) (v := .int (0 : Int32)) (ty := .int) (C := R_Model) (T := T_Model) (N := 36) hx hb hts in_Model t_Model to_Model no_Model hown hK hP hD hS 0 rfl rfl 27 (by decide) (hts _ wd518) (fun _ h9 => h9) rfl (by decide +kernel) rfl rfl (Nat.le_of_ble_eq_true rfl) d_Model_rewrite_80 (fun H locs hP hD hS => ?_)
          have hP : va_P D vwCl (wM ad ca (su s13 19 8 (0 : Int32))) H := hP
          have hD : va_D A (wM ad ca (su s13 19 8 (0 : Int32))) := hD
          obtain ⟨s14, es14⟩ : ∃ z : St, z = su s13 19 8 (0 : Int32) := ⟨_, rfl⟩
          rw [← es14] at hP hD
          replace hm := hm s14 es14
          refine lv_iconst (v := 1) hx hb d_Model_rewrite_83 (by decide) ?_
          refine lv_istore_n (lv' := [(2, .int (1 : Int32)), (1, .int r9), (0, .ref (ad 0))]) hx hb d_Model_rewrite_84 rfl hl (by decide) rfl (fun ls hl => ?_)
          obtain ⟨n85, hm⟩ := hm
          exact B85  n85 s14 (1 : Int32) hm H locs ls hP hD hS (lv_sub hl [2, 0] rfl)
        · replace hm := hm.2 c11
          refine lv_iconst (v := 1) hx hb d_Model_rewrite_72 (by decide) ?_
          exact rt_i hx hb hr hlocks hK hP hD hS d_Model_rewrite_73 hm
      · replace hm := hm.2 c8
        refine lv_aload_n hx hb d_Model_rewrite_50 rfl (lv_at hl 0 rfl) ?_
        refine va_get (D := D) (ci := 5) (v := .ref (ad 9)) (C := R_Model) (T := T_Model) (N := 36) hx hb hts in_Model hown hK hP 0 rfl rfl 13 (by decide) (hts _ wd504) (fun _ h9 => h9) rfl d_Model_rewrite_51 ?_
        refine lv_iload_n hx hb d_Model_rewrite_54 rfl (lv_at hl 1 rfl) ?_
        refine lv_iconst (v := 0) hx hb d_Model_rewrite_55 (by decide) ?_
        obtain ⟨h15, hm⟩ := hm
        refine va_zast hx hb hK hP hD hS 9 8 rfl rfl h15 d_Model_rewrite_56 (fun H locs hP hD hS => ?_)
        have hP : va_P D vwCl (wM ad ca (su s 8 (x1).toNatClampNeg (vp_nar .boolean (0 : Int32)))) H := hP
        have hD : va_D A (wM ad ca (su s 8 (x1).toNatClampNeg (vp_nar .boolean (0 : Int32)))) := hD
        obtain ⟨s16, es16⟩ : ∃ z : St, z = su s 8 (x1).toNatClampNeg (vp_nar .boolean (0 : Int32)) := ⟨_, rfl⟩
        rw [← es16] at hP hD
        replace hm := hm s16 es16
        obtain ⟨v17, ev17⟩ : ∃ y : Int32, y = x1 + 1 := ⟨_, rfl⟩
        replace hm := hm v17 ev17
        refine lv_iinc (v := v17) (lv' := [(1, .int v17), (0, .ref (ad 0))]) hx hb d_Model_rewrite_57 hl (k := 1) rfl (by rw [ev17]; rfl) (by decide) rfl (fun ls hl => ?_)
        refine lv_goto (tgt := 43) hx hb d_Model_rewrite_60 (by decide) ?_
        exact hK43 s16 v17 hm H locs ls hP hD hS (lv_sub hl [1, 0] rfl)
  have B2 : ∀ (n : Nat) (s : St) (x1 : Int32), x_Model_rewrite_2  Post n s x1 → Bk D vwCl (wM ad ca) A p l e { frames := 7, cells := 0, slots := 0, locals := 168 } s0 m args below meth c (MQ below (va_Qi Post (atG D vwCl (tyM ca) (wM ad ca) A) A) args s0 0 0 A) 6 2 s [(0, .ref (ad 0)), (1, .int x1)] [] := by
    intro  n2
    induction n2 with
    | zero => intro s x1 hm; exact hm.elim
    | succ n2 hK2 =>
      intro s x1 hm H locs ls hP hD hS hl
      have hm : x_Model_rewrite_2F  Post (fun s x1 => x_Model_rewrite_2  Post n2 s x1) s x1 := hm
      unfold x_Model_rewrite_2F at hm
      refine lv_iload_n hx hb d_Model_rewrite_2 rfl (lv_at hl 1 rfl) ?_
      refine lv_aload_n hx hb d_Model_rewrite_3 rfl (lv_at hl 0 rfl) ?_
      refine va_get (D := D) (ci := 5) (v := .int (s 19 0)) (C := R_Model) (T := T_Model) (N := 36) hx hb hts in_Model hown hK hP 0 rfl rfl 7 (by decide) (hts _ wd498) (fun _ h9 => h9) rfl d_Model_rewrite_4 ?_
      refine lv_icmp_ge (tgt := 28) hx hb d_Model_rewrite_7 (by decide) (fun c1 => ?_) (fun c1 => ?_)
      · replace hm := hm.1 c1
        refine lv_aload_n hx hb d_Model_rewrite_28 rfl (lv_at hl 0 rfl) ?_
        refine lv_aload_n hx hb d_Model_rewrite_29 rfl (lv_at hl 0 rfl) ?_
        refine va_get (D := D) (ci := 5) (v := .int (s 19 0)) (C := R_Model) (T := T_Model) (N := 36) hx hb hts in_Model hown hK hP 0 rfl rfl 7 (by decide) (hts _ wd498) (fun _ h9 => h9) rfl d_Model_rewrite_30 ?_
        refine va_put (D := D) (ci := 5) (v := .int (s 19 0)) (ty := .int) (C := R_Model) (T := T_Model) (N := 36) hx hb hts in_Model t_Model to_Model no_Model hown hK hP hD hS 0 rfl rfl 24 (by decide) (hts _ wd515) (fun _ h9 => h9) rfl (by decide +kernel) rfl rfl (Nat.le_of_ble_eq_true rfl) d_Model_rewrite_33 (fun H locs hP hD hS => ?_)
        have hP : va_P D vwCl (wM ad ca (su s 19 5 (s 19 0))) H := hP
        have hD : va_D A (wM ad ca (su s 19 5 (s 19 0))) := hD
        obtain ⟨s2, es2⟩ : ∃ z : St, z = su s 19 5 (s 19 0) := ⟨_, rfl⟩
        rw [← es2] at hP hD
        replace hm := hm s2 es2
        refine lv_aload_n hx hb d_Model_rewrite_36 rfl (lv_at hl 0 rfl) ?_
        refine lv_iconst (v := 0) hx hb d_Model_rewrite_37 (by decide) ?_
        refine va_put (D := D) (ci := 5) (v := .int (0 : Int32)) (ty := .boolean) (C := R_Model) (T := T_Model) (N := 36) hx hb hts in_Model t_Model to_Model no_Model hown hK hP hD hS 0 rfl rfl 35 (by decide) (hts _ wd526) (fun _ h9 => h9) rfl (by decide +kernel) rfl rfl (Nat.le_of_ble_eq_true rfl) d_Model_rewrite_38 (fun H locs hP hD hS => ?_)
        have hP : va_P D vwCl (wM ad ca (su s2 19 16 (0 : Int32))) H := hP
        have hD : va_D A (wM ad ca (su s2 19 16 (0 : Int32))) := hD
        obtain ⟨s3, es3⟩ : ∃ z : St, z = su s2 19 16 (0 : Int32) := ⟨_, rfl⟩
        rw [← es3] at hP hD
        replace hm := hm s3 es3
        refine lv_iconst (v := 0) hx hb d_Model_rewrite_41 (by decide) ?_
        refine lv_istore_n (lv' := [(1, .int (0 : Int32)), (0, .ref (ad 0))]) hx hb d_Model_rewrite_42 rfl hl (by decide) rfl (fun ls hl => ?_)
        obtain ⟨n43, hm⟩ := hm
        exact B43  n43 s3 (0 : Int32) hm H locs ls hP hD hS (lv_sub hl [1, 0] rfl)
      · replace hm := hm.2 c1
        refine lv_aload_n hx hb d_Model_rewrite_10 rfl (lv_at hl 0 rfl) ?_
        refine va_get (D := D) (ci := 5) (v := .ref (ad 10)) (C := R_Model) (T := T_Model) (N := 36) hx hb hts in_Model hown hK hP 0 rfl rfl 14 (by decide) (hts _ wd505) (fun _ h9 => h9) rfl d_Model_rewrite_11 ?_
        refine lv_iload_n hx hb d_Model_rewrite_14 rfl (lv_at hl 1 rfl) ?_
        refine lv_aload_n hx hb d_Model_rewrite_15 rfl (lv_at hl 0 rfl) ?_
        refine va_get (D := D) (ci := 5) (v := .ref (ad 1)) (C := R_Model) (T := T_Model) (N := 36) hx hb hts in_Model hown hK hP 0 rfl rfl 0 (by decide) (hts _ wd491) (fun _ h9 => h9) rfl d_Model_rewrite_16 ?_
        refine lv_iload_n hx hb d_Model_rewrite_19 rfl (lv_at hl 1 rfl) ?_
        obtain ⟨h4, hm⟩ := hm
        refine va_iald hx hb hK hP 1 0 rfl rfl h4 d_Model_rewrite_20 ?_
        obtain ⟨h5, hm⟩ := hm
        refine va_iast hx hb hK hP hD hS 10 9 rfl rfl h5 d_Model_rewrite_21 (fun H locs hP hD hS => ?_)
        have hP : va_P D vwCl (wM ad ca (su s 9 (x1).toNatClampNeg (s 0 (x1).toNatClampNeg))) H := hP
        have hD : va_D A (wM ad ca (su s 9 (x1).toNatClampNeg (s 0 (x1).toNatClampNeg))) := hD
        obtain ⟨s6, es6⟩ : ∃ z : St, z = su s 9 (x1).toNatClampNeg (s 0 (x1).toNatClampNeg) := ⟨_, rfl⟩
        rw [← es6] at hP hD
        replace hm := hm s6 es6
        obtain ⟨v7, ev7⟩ : ∃ y : Int32, y = x1 + 1 := ⟨_, rfl⟩
        replace hm := hm v7 ev7
        refine lv_iinc (v := v7) (lv' := [(1, .int v7), (0, .ref (ad 0))]) hx hb d_Model_rewrite_22 hl (k := 1) rfl (by rw [ev7]; rfl) (by decide) rfl (fun ls hl => ?_)
        refine lv_goto (tgt := 2) hx hb d_Model_rewrite_25 (by decide) ?_
        exact hK2 s6 v7 hm H locs ls hP hD hS (lv_sub hl [1, 0] rfl)
  intro H locs ls hP hD hS hl
  have hl : lv_has ls 6 [(0, .ref (ad 0))] := hl
  unfold x_Model_rewrite at hm
  refine lv_iconst (v := 0) hx hb d_Model_rewrite_0 (by decide) ?_
  refine lv_istore_n (lv' := [(1, .int (0 : Int32)), (0, .ref (ad 0))]) hx hb d_Model_rewrite_1 rfl hl (by decide) rfl (fun ls hl => ?_)
  obtain ⟨n2, hm⟩ := hm
  exact B2  n2 s (0 : Int32) hm H locs ls hP hD hS (lv_sub hl [1, 0] rfl)
set_option maxHeartbeats 4000000 in
set_option maxRecDepth 100000 in
theorem c_Model_octet (l : Launch) (D : va_G) (ad : Nat → Nat) (ca : Nat → ClassId) (sz : Nat) (s : St) (a1 : Int32) (Post : Int32 → St → Prop) (hm : x_Model_octet s a1 Post) : CtI l y_Model_octet w_Model_octet { frames := 1, cells := 0, slots := 0, locals := 22 } D vwCl (tyM ca) (wM ad ca) sz [.ref (ad 0), .int a1] s Post := by
  refine ct_i (cc := prog_8_method_35_code) (maxL := 2) (ret := (some .int)) (by decide) rfl (Nat.le_of_ble_eq_true rfl) ?_
  intro p e s0 m args below meth c A hx hb hr hts hown hlocks hml hK hA
  have hown : s0.vm.findClass R_Model = some m.cls := hown
  intro H locs ls hP hD hS hl
  have hl : lv_has ls 2 [(0, .ref (ad 0)), (1, .int a1)] := hl
  unfold x_Model_octet at hm
  refine lv_aload_n hx hb d_Model_octet_0 rfl (lv_at hl 0 rfl) ?_
  refine va_get (D := D) (ci := 5) (v := .int (s 19 16)) (C := R_Model) (T := T_Model) (N := 36) hx hb hts in_Model hown hK hP 0 rfl rfl 35 (by decide) (hts _ wd526) (fun _ h9 => h9) rfl d_Model_octet_1 ?_
  refine lv_if_eq (tgt := 30) hx hb d_Model_octet_4 (by decide) (fun c1 => ?_) (fun c1 => ?_)
  · replace hm := hm.1 c1
    refine lv_iconst (v := -1) hx hb d_Model_octet_30 (by decide) ?_
    exact rt_i hx hb hr hlocks hK hP hD hS d_Model_octet_31 hm
  · replace hm := hm.2 c1
    refine lv_iload_n hx hb d_Model_octet_7 rfl (lv_at hl 1 rfl) ?_
    refine lv_iconst (v := 0) hx hb d_Model_octet_8 (by decide) ?_
    refine lv_aload_n hx hb d_Model_octet_9 rfl (lv_at hl 0 rfl) ?_
    refine va_get (D := D) (ci := 5) (v := .int (s 19 6)) (C := R_Model) (T := T_Model) (N := 36) hx hb hts in_Model hown hK hP 0 rfl rfl 25 (by decide) (hts _ wd516) (fun _ h9 => h9) rfl d_Model_octet_10 ?_
    refine lv_iconst (v := 1) hx hb d_Model_octet_13 (by decide) ?_
    refine lv_isub hx hb d_Model_octet_14 ?_
    refine cg_Si (As := [.int a1, .int (0 : Int32), .int ((s 19 6) - (1 : Int32))]) (rest := []) ⟨hx, hb, hml, hown, hts⟩ hK hP hD hS hA (c_Model_in l D ad ca H.size s a1 (0 : Int32) ((s 19 6) - (1 : Int32)) _ hm) (cwB 3 hts wd606 wd7 wd604 wd605 (by decide +kernel) ⟨Nat.le_of_ble_eq_true rfl, Nat.le_of_ble_eq_true rfl⟩) rfl hl rfl (Nat.le_of_ble_eq_true rfl) d_Model_octet_15 (fun r2 s3 hm => ?_)
    intro H locs ls hP hD hS hl
    refine lv_if_eq (tgt := 30) hx hb d_Model_octet_18 (by decide) (fun c4 => ?_) (fun c4 => ?_)
    · replace hm := hm.1 c4
      refine lv_iconst (v := -1) hx hb d_Model_octet_30 (by decide) ?_
      exact rt_i hx hb hr hlocks hK hP hD hS d_Model_octet_31 hm
    · replace hm := hm.2 c4
      refine lv_aload_n hx hb d_Model_octet_21 rfl (lv_at hl 0 rfl) ?_
      refine va_get (D := D) (ci := 5) (v := .ref (ad 15)) (C := R_Model) (T := T_Model) (N := 36) hx hb hts in_Model hown hK hP 0 rfl rfl 19 (by decide) (hts _ wd510) (fun _ h9 => h9) rfl d_Model_octet_22 ?_
      refine lv_iload_n hx hb d_Model_octet_25 rfl (lv_at hl 1 rfl) ?_
      obtain ⟨h5, hm⟩ := hm
      refine va_iald hx hb hK hP 15 14 rfl rfl h5 d_Model_octet_26 ?_
      refine lv_goto (tgt := 31) hx hb d_Model_octet_27 (by decide) ?_
      exact rt_i hx hb hr hlocks hK hP hD hS d_Model_octet_31 hm
set_option maxHeartbeats 4000000 in
set_option maxRecDepth 100000 in
theorem c_Model_moved (l : Launch) (D : va_G) (ad : Nat → Nat) (ca : Nat → ClassId) (sz : Nat) (s : St) (a1 : Int32) (a2 : Int32) (Post : Int32 → St → Prop) (hm : x_Model_moved s a1 a2 Post) : CtI l y_Model_moved w_Model_moved { frames := 2, cells := 0, slots := 0, locals := 43 } D vwCl (tyM ca) (wM ad ca) sz [.ref (ad 0), .int a1, .int a2] s Post := by
  refine ct_i (cc := prog_8_method_36_code) (maxL := 3) (ret := (some .int)) (by decide) rfl (Nat.le_of_ble_eq_true rfl) ?_
  intro p e s0 m args below meth c A hx hb hr hts hown hlocks hml hK hA
  have hown : s0.vm.findClass R_Model = some m.cls := hown
  have B99 : ∀ (s : St), x_Model_moved_99  Post s → Bk D vwCl (wM ad ca) A p l e { frames := 2, cells := 0, slots := 0, locals := 43 } s0 m args below meth c (MQ below (va_Qi Post (atG D vwCl (tyM ca) (wM ad ca) A) A) args s0 0 0 A) 3 99 s [] [] := by
    intro  s hm H locs ls hP hD hS hl
    unfold x_Model_moved_99 at hm
    refine lv_iconst (v := 1) hx hb d_Model_moved_99 (by decide) ?_
    refine lv_goto (tgt := 104) hx hb d_Model_moved_100 (by decide) ?_
    exact rt_i hx hb hr hlocks hK hP hD hS d_Model_moved_104 hm
  intro H locs ls hP hD hS hl
  have hl : lv_has ls 3 [(0, .ref (ad 0)), (1, .int a1), (2, .int a2)] := hl
  unfold x_Model_moved at hm
  refine lv_aload_n hx hb d_Model_moved_0 rfl (lv_at hl 0 rfl) ?_
  refine va_get (D := D) (ci := 5) (v := .int (s 19 16)) (C := R_Model) (T := T_Model) (N := 36) hx hb hts in_Model hown hK hP 0 rfl rfl 35 (by decide) (hts _ wd526) (fun _ h9 => h9) rfl d_Model_moved_1 ?_
  refine lv_if_eq (tgt := 15) hx hb d_Model_moved_4 (by decide) (fun c1 => ?_) (fun c1 => ?_)
  · replace hm := hm.1 c1
    refine lv_iconst (v := -1) hx hb d_Model_moved_15 (by decide) ?_
    exact rt_i hx hb hr hlocks hK hP hD hS d_Model_moved_16 hm
  · replace hm := hm.2 c1
    refine lv_aload_n hx hb d_Model_moved_7 rfl (lv_at hl 0 rfl) ?_
    refine lv_iload_n hx hb d_Model_moved_8 rfl (lv_at hl 1 rfl) ?_
    refine cg_Vi (b := (ad 0)) (As := [.int a1]) (rest := []) ⟨hx, hb, hml, hown, hts⟩ hK hP hD hS hA (c_Model_begins l D ad ca H.size s a1 _ hm) (cwA 1 hts wd674 wd7 wd671 wd673 ws31 (by decide +kernel) ⟨Nat.le_of_ble_eq_true rfl, Nat.le_of_ble_eq_true rfl⟩) (va_recv hK hP (ci := 5) (q0 := 0) rfl rfl) rfl hl rfl (Nat.le_of_ble_eq_true rfl) d_Model_moved_9 (fun r2 s3 hm => ?_)
    intro H locs ls hP hD hS hl
    refine lv_if_ne (tgt := 17) hx hb d_Model_moved_12 (by decide) (fun c4 => ?_) (fun c4 => ?_)
    · replace hm := hm.1 c4
      refine lv_iload_n hx hb d_Model_moved_17 rfl (lv_at hl 2 rfl) ?_
      by_cases c5 : a2 = 0
      · replace hm := hm.1 c5
        refine lv_tableIn (off := 34) (tgt := 52) hx hb d_Model_moved_18 (by rw [c5]; decide) (by rw [c5]; decide) (by rw [c5]; rfl) (by decide) ?_
        refine lv_aload_n hx hb d_Model_moved_52 rfl (lv_at hl 0 rfl) ?_
        refine lv_iload_n hx hb d_Model_moved_53 rfl (lv_at hl 1 rfl) ?_
        refine cg_Vi (b := (ad 0)) (As := [.int a1]) (rest := []) ⟨hx, hb, hml, hown, hts⟩ hK hP hD hS hA (c_Model_front l D ad ca H.size s3 a1 _ hm) (cwA 1 hts wd700 wd7 wd697 wd699 ws36 (by decide +kernel) ⟨Nat.le_of_ble_eq_true rfl, Nat.le_of_ble_eq_true rfl⟩) (va_recv hK hP (ci := 5) (q0 := 0) rfl rfl) rfl hl rfl (Nat.le_of_ble_eq_true rfl) d_Model_moved_54 (fun r6 s7 hm => ?_)
        intro H locs ls hP hD hS hl
        exact rt_i hx hb hr hlocks hK hP hD hS d_Model_moved_57 hm
      by_cases c8 : a2 = 1
      · replace hm := hm.2.1 c8
        refine lv_tableIn (off := 40) (tgt := 58) hx hb d_Model_moved_18 (by rw [c8]; decide) (by rw [c8]; decide) (by rw [c8]; rfl) (by decide) ?_
        refine lv_aload_n hx hb d_Model_moved_58 rfl (lv_at hl 0 rfl) ?_
        refine lv_iload_n hx hb d_Model_moved_59 rfl (lv_at hl 1 rfl) ?_
        refine cg_Vi (b := (ad 0)) (As := [.int a1]) (rest := []) ⟨hx, hb, hml, hown, hts⟩ hK hP hD hS hA (c_Model_opcodeAt l D ad ca H.size s3 a1 _ hm) (cwA 1 hts wd696 wd7 wd693 wd695 ws35 (by decide +kernel) ⟨Nat.le_of_ble_eq_true rfl, Nat.le_of_ble_eq_true rfl⟩) (va_recv hK hP (ci := 5) (q0 := 0) rfl rfl) rfl hl rfl (Nat.le_of_ble_eq_true rfl) d_Model_moved_60 (fun r9 s10 hm => ?_)
        intro H locs ls hP hD hS hl
        exact rt_i hx hb hr hlocks hK hP hD hS d_Model_moved_63 hm
      by_cases c11 : a2 = 2
      · replace hm := hm.2.2.1 c11
        refine lv_tableIn (off := 46) (tgt := 64) hx hb d_Model_moved_18 (by rw [c11]; decide) (by rw [c11]; decide) (by rw [c11]; rfl) (by decide) ?_
        refine lv_aload_n hx hb d_Model_moved_64 rfl (lv_at hl 0 rfl) ?_
        refine va_get (D := D) (ci := 5) (v := .ref (ad 13)) (C := R_Model) (T := T_Model) (N := 36) hx hb hts in_Model hown hK hP 0 rfl rfl 17 (by decide) (hts _ wd508) (fun _ h9 => h9) rfl d_Model_moved_65 ?_
        refine lv_iload_n hx hb d_Model_moved_68 rfl (lv_at hl 1 rfl) ?_
        obtain ⟨h12, hm⟩ := hm
        refine va_iald hx hb hK hP 13 12 rfl rfl h12 d_Model_moved_69 ?_
        exact rt_i hx hb hr hlocks hK hP hD hS d_Model_moved_70 hm
      by_cases c13 : a2 = 3
      · replace hm := hm.2.2.2.1 c13
        refine lv_tableIn (off := 53) (tgt := 71) hx hb d_Model_moved_18 (by rw [c13]; decide) (by rw [c13]; decide) (by rw [c13]; rfl) (by decide) ?_
        refine lv_aload_n hx hb d_Model_moved_71 rfl (lv_at hl 0 rfl) ?_
        refine va_get (D := D) (ci := 5) (v := .ref (ad 14)) (C := R_Model) (T := T_Model) (N := 36) hx hb hts in_Model hown hK hP 0 rfl rfl 18 (by decide) (hts _ wd509) (fun _ h9 => h9) rfl d_Model_moved_72 ?_
        refine lv_iload_n hx hb d_Model_moved_75 rfl (lv_at hl 1 rfl) ?_
        obtain ⟨h14, hm⟩ := hm
        refine va_iald hx hb hK hP 14 13 rfl rfl h14 d_Model_moved_76 ?_
        exact rt_i hx hb hr hlocks hK hP hD hS d_Model_moved_77 hm
      by_cases c15 : a2 = 4
      · replace hm := hm.2.2.2.2.1 c15
        refine lv_tableIn (off := 60) (tgt := 78) hx hb d_Model_moved_18 (by rw [c15]; decide) (by rw [c15]; decide) (by rw [c15]; rfl) (by decide) ?_
        refine lv_aload_n hx hb d_Model_moved_78 rfl (lv_at hl 0 rfl) ?_
        refine va_get (D := D) (ci := 5) (v := .ref (ad 9)) (C := R_Model) (T := T_Model) (N := 36) hx hb hts in_Model hown hK hP 0 rfl rfl 13 (by decide) (hts _ wd504) (fun _ h9 => h9) rfl d_Model_moved_79 ?_
        refine lv_iload_n hx hb d_Model_moved_82 rfl (lv_at hl 1 rfl) ?_
        obtain ⟨h16, hm⟩ := hm
        refine va_zald hx hb hK hP 9 8 rfl rfl h16 d_Model_moved_83 ?_
        refine lv_if_ne (tgt := 99) hx hb d_Model_moved_84 (by decide) (fun c17 => ?_) (fun c17 => ?_)
        · replace hm := hm.1 c17
          exact B99  s3 hm H locs ls hP hD hS (lv_sub hl [] rfl)
        · replace hm := hm.2 c17
          refine lv_aload_n hx hb d_Model_moved_87 rfl (lv_at hl 0 rfl) ?_
          refine va_get (D := D) (ci := 5) (v := .ref (ad 10)) (C := R_Model) (T := T_Model) (N := 36) hx hb hts in_Model hown hK hP 0 rfl rfl 14 (by decide) (hts _ wd505) (fun _ h9 => h9) rfl d_Model_moved_88 ?_
          refine lv_iload_n hx hb d_Model_moved_91 rfl (lv_at hl 1 rfl) ?_
          obtain ⟨h18, hm⟩ := hm
          refine va_iald hx hb hK hP 10 9 rfl rfl h18 d_Model_moved_92 ?_
          refine lv_sipush (v := 200) hx hb d_Model_moved_93 (by decide) ?_
          refine lv_icmp_ne (tgt := 103) hx hb d_Model_moved_96 (by decide) (fun c19 => ?_) (fun c19 => ?_)
          · replace hm := hm.1 c19
            refine lv_iconst (v := 0) hx hb d_Model_moved_103 (by decide) ?_
            exact rt_i hx hb hr hlocks hK hP hD hS d_Model_moved_104 hm
          · replace hm := hm.2 c19
            exact B99  s3 hm H locs ls hP hD hS (lv_sub hl [] rfl)
      replace hm := hm.2.2.2.2.2 c5 c8 c11 c13 c15
      refine lv_tableOut (tgt := 105) hx hb d_Model_moved_18 (by have hc5 := lv_neT c5 (a := 0) rfl; have hc8 := lv_neT c8 (a := 1) rfl; have hc11 := lv_neT c11 (a := 2) rfl; have hc13 := lv_neT c13 (a := 3) rfl; have hc15 := lv_neT c15 (a := 4) rfl; omega) (by decide) ?_
      refine lv_iconst (v := -1) hx hb d_Model_moved_105 (by decide) ?_
      exact rt_i hx hb hr hlocks hK hP hD hS d_Model_moved_106 hm
    · replace hm := hm.2 c4
      refine lv_iconst (v := -1) hx hb d_Model_moved_15 (by decide) ?_
      exact rt_i hx hb hr hlocks hK hP hD hS d_Model_moved_16 hm
set_option maxHeartbeats 4000000 in
set_option maxRecDepth 100000 in
theorem c_Model_back (l : Launch) (D : va_G) (ad : Nat → Nat) (ca : Nat → ClassId) (sz : Nat) (s : St) (a1 : Int32) (Post : Int32 → St → Prop) (hm : x_Model_back s a1 Post) : CtI l y_Model_back w_Model_back { frames := 1, cells := 0, slots := 0, locals := 21 } D vwCl (tyM ca) (wM ad ca) sz [.ref (ad 0), .int a1] s Post := by
  refine ct_i (cc := prog_8_method_37_code) (maxL := 3) (ret := (some .int)) (by decide) rfl (Nat.le_of_ble_eq_true rfl) ?_
  intro p e s0 m args below meth c A hx hb hr hts hown hlocks hml hK hA
  have hown : s0.vm.findClass R_Model = some m.cls := hown
  have B37 : ∀ (K2 : St → Int32 → Int32 → Prop) (hK2 : ∀ (s : St) (x1 : Int32) (x2 : Int32), K2 s x1 x2 → Bk D vwCl (wM ad ca) A p l e { frames := 1, cells := 0, slots := 0, locals := 21 } s0 m args below meth c (MQ below (va_Qi Post (atG D vwCl (tyM ca) (wM ad ca) A) A) args s0 0 0 A) 3 2 s [(0, .ref (ad 0)), (1, .int x1), (2, .int x2)] []) (s : St) (x1 : Int32) (x2 : Int32), x_Model_back_37 K2 Post s x1 x2 → Bk D vwCl (wM ad ca) A p l e { frames := 1, cells := 0, slots := 0, locals := 21 } s0 m args below meth c (MQ below (va_Qi Post (atG D vwCl (tyM ca) (wM ad ca) A) A) args s0 0 0 A) 3 37 s [(0, .ref (ad 0)), (1, .int x1), (2, .int x2)] [] := by
    intro K2 hK2 s x1 x2 hm H locs ls hP hD hS hl
    unfold x_Model_back_37 at hm
    obtain ⟨v8, ev8⟩ : ∃ y : Int32, y = x2 + 1 := ⟨_, rfl⟩
    replace hm := hm v8 ev8
    refine lv_iinc (v := v8) (lv' := [(2, .int v8), (0, .ref (ad 0)), (1, .int x1)]) hx hb d_Model_back_37 hl (k := 2) rfl (by rw [ev8]; rfl) (by decide) rfl (fun ls hl => ?_)
    refine lv_goto (tgt := 2) hx hb d_Model_back_40 (by decide) ?_
    exact hK2 s x1 v8 hm H locs ls hP hD hS (lv_sub hl [1, 2, 0] rfl)
  have B2 : ∀ (n : Nat) (s : St) (x1 : Int32) (x2 : Int32), x_Model_back_2  Post n s x1 x2 → Bk D vwCl (wM ad ca) A p l e { frames := 1, cells := 0, slots := 0, locals := 21 } s0 m args below meth c (MQ below (va_Qi Post (atG D vwCl (tyM ca) (wM ad ca) A) A) args s0 0 0 A) 3 2 s [(0, .ref (ad 0)), (1, .int x1), (2, .int x2)] [] := by
    intro  n2
    induction n2 with
    | zero => intro s x1 x2 hm; exact hm.elim
    | succ n2 hK2 =>
      intro s x1 x2 hm H locs ls hP hD hS hl
      have hm : x_Model_back_2F  Post (fun s x1 x2 => x_Model_back_2  Post n2 s x1 x2) s x1 x2 := hm
      unfold x_Model_back_2F at hm
      refine lv_iload_n hx hb d_Model_back_2 rfl (lv_at hl 2 rfl) ?_
      refine lv_aload_n hx hb d_Model_back_3 rfl (lv_at hl 0 rfl) ?_
      refine va_get (D := D) (ci := 5) (v := .int (s 19 5)) (C := R_Model) (T := T_Model) (N := 36) hx hb hts in_Model hown hK hP 0 rfl rfl 24 (by decide) (hts _ wd515) (fun _ h9 => h9) rfl d_Model_back_4 ?_
      refine lv_icmp_ge (tgt := 43) hx hb d_Model_back_7 (by decide) (fun c1 => ?_) (fun c1 => ?_)
      · replace hm := hm.1 c1
        refine lv_iconst (v := -1) hx hb d_Model_back_43 (by decide) ?_
        exact rt_i hx hb hr hlocks hK hP hD hS d_Model_back_44 hm
      · replace hm := hm.2 c1
        refine lv_aload_n hx hb d_Model_back_10 rfl (lv_at hl 0 rfl) ?_
        refine va_get (D := D) (ci := 5) (v := .int (s 19 16)) (C := R_Model) (T := T_Model) (N := 36) hx hb hts in_Model hown hK hP 0 rfl rfl 35 (by decide) (hts _ wd526) (fun _ h9 => h9) rfl d_Model_back_11 ?_
        refine lv_if_eq (tgt := 43) hx hb d_Model_back_14 (by decide) (fun c2 => ?_) (fun c2 => ?_)
        · replace hm := hm.1 c2
          refine lv_iconst (v := -1) hx hb d_Model_back_43 (by decide) ?_
          exact rt_i hx hb hr hlocks hK hP hD hS d_Model_back_44 hm
        · replace hm := hm.2 c2
          refine lv_aload_n hx hb d_Model_back_17 rfl (lv_at hl 0 rfl) ?_
          refine va_get (D := D) (ci := 5) (v := .ref (ad 8)) (C := R_Model) (T := T_Model) (N := 36) hx hb hts in_Model hown hK hP 0 rfl rfl 12 (by decide) (hts _ wd503) (fun _ h9 => h9) rfl d_Model_back_18 ?_
          refine lv_iload_n hx hb d_Model_back_21 rfl (lv_at hl 2 rfl) ?_
          obtain ⟨h3, hm⟩ := hm
          refine va_zald hx hb hK hP 8 7 rfl rfl h3 d_Model_back_22 ?_
          refine lv_if_eq (tgt := 37) hx hb d_Model_back_23 (by decide) (fun c4 => ?_) (fun c4 => ?_)
          · replace hm := hm.1 c4
            exact B37 (fun s x1 x2 => x_Model_back_2  Post n2 s x1 x2) hK2 s x1 x2 hm H locs ls hP hD hS (lv_sub hl [0, 1, 2] rfl)
          · replace hm := hm.2 c4
            refine lv_aload_n hx hb d_Model_back_26 rfl (lv_at hl 0 rfl) ?_
            refine lv_iload_n hx hb d_Model_back_27 rfl (lv_at hl 2 rfl) ?_
            refine cg_Vi (b := (ad 0)) (As := [.int x2]) (rest := []) ⟨hx, hb, hml, hown, hts⟩ hK hP hD hS hA (c_Model_opcodeAt l D ad ca H.size s x2 _ hm) (cwA 1 hts wd696 wd7 wd693 wd695 ws35 (by decide +kernel) ⟨Nat.le_of_ble_eq_true rfl, Nat.le_of_ble_eq_true rfl⟩) (va_recv hK hP (ci := 5) (q0 := 0) rfl rfl) rfl hl rfl (Nat.le_of_ble_eq_true rfl) d_Model_back_28 (fun r5 s6 hm => ?_)
            intro H locs ls hP hD hS hl
            refine lv_iload_n hx hb d_Model_back_31 rfl (lv_at hl 1 rfl) ?_
            refine lv_icmp_ne (tgt := 37) hx hb d_Model_back_32 (by decide) (fun c7 => ?_) (fun c7 => ?_)
            · replace hm := hm.1 c7
              exact B37 (fun s x1 x2 => x_Model_back_2  Post n2 s x1 x2) hK2 s6 x1 x2 hm H locs ls hP hD hS (lv_sub hl [0, 1, 2] rfl)
            · replace hm := hm.2 c7
              refine lv_iload_n hx hb d_Model_back_35 rfl (lv_at hl 2 rfl) ?_
              exact rt_i hx hb hr hlocks hK hP hD hS d_Model_back_36 hm
  intro H locs ls hP hD hS hl
  have hl : lv_has ls 3 [(0, .ref (ad 0)), (1, .int a1)] := hl
  unfold x_Model_back at hm
  refine lv_iconst (v := 0) hx hb d_Model_back_0 (by decide) ?_
  refine lv_istore_n (lv' := [(2, .int (0 : Int32)), (0, .ref (ad 0)), (1, .int a1)]) hx hb d_Model_back_1 rfl hl (by decide) rfl (fun ls hl => ?_)
  obtain ⟨n2, hm⟩ := hm
  exact B2  n2 s a1 (0 : Int32) hm H locs ls hP hD hS (lv_sub hl [1, 2, 0] rfl)
set_option maxHeartbeats 4000000 in
set_option maxRecDepth 100000 in
theorem c_Model_guard (l : Launch) (D : va_G) (ad : Nat → Nat) (ca : Nat → ClassId) (sz : Nat) (s : St) (a1 : Int32) (a2 : Int32) (Post : Int32 → St → Prop) (hm : x_Model_guard s a1 a2 Post) : CtI l y_Model_guard w_Model_guard { frames := 1, cells := 0, slots := 0, locals := 22 } D vwCl (tyM ca) (wM ad ca) sz [.ref (ad 0), .int a1, .int a2] s Post := by
  refine ct_i (cc := prog_8_method_38_code) (maxL := 3) (ret := (some .int)) (by decide) rfl (Nat.le_of_ble_eq_true rfl) ?_
  intro p e s0 m args below meth c A hx hb hr hts hown hlocks hml hK hA
  have hown : s0.vm.findClass R_Model = some m.cls := hown
  intro H locs ls hP hD hS hl
  have hl : lv_has ls 3 [(0, .ref (ad 0)), (1, .int a1), (2, .int a2)] := hl
  unfold x_Model_guard at hm
  refine lv_aload_n hx hb d_Model_guard_0 rfl (lv_at hl 0 rfl) ?_
  refine va_get (D := D) (ci := 5) (v := .int (s 19 16)) (C := R_Model) (T := T_Model) (N := 36) hx hb hts in_Model hown hK hP 0 rfl rfl 35 (by decide) (hts _ wd526) (fun _ h9 => h9) rfl d_Model_guard_1 ?_
  refine lv_if_eq (tgt := 21) hx hb d_Model_guard_4 (by decide) (fun c1 => ?_) (fun c1 => ?_)
  · replace hm := hm.1 c1
    refine lv_iconst (v := -1) hx hb d_Model_guard_21 (by decide) ?_
    exact rt_i hx hb hr hlocks hK hP hD hS d_Model_guard_22 hm
  · replace hm := hm.2 c1
    refine lv_iload_n hx hb d_Model_guard_7 rfl (lv_at hl 1 rfl) ?_
    refine lv_iconst (v := 0) hx hb d_Model_guard_8 (by decide) ?_
    refine lv_aload_n hx hb d_Model_guard_9 rfl (lv_at hl 0 rfl) ?_
    refine va_get (D := D) (ci := 5) (v := .int (s 19 7)) (C := R_Model) (T := T_Model) (N := 36) hx hb hts in_Model hown hK hP 0 rfl rfl 26 (by decide) (hts _ wd517) (fun _ h9 => h9) rfl d_Model_guard_10 ?_
    refine lv_iconst (v := 1) hx hb d_Model_guard_13 (by decide) ?_
    refine lv_isub hx hb d_Model_guard_14 ?_
    refine cg_Si (As := [.int a1, .int (0 : Int32), .int ((s 19 7) - (1 : Int32))]) (rest := []) ⟨hx, hb, hml, hown, hts⟩ hK hP hD hS hA (c_Model_in l D ad ca H.size s a1 (0 : Int32) ((s 19 7) - (1 : Int32)) _ hm) (cwB 3 hts wd606 wd7 wd604 wd605 (by decide +kernel) ⟨Nat.le_of_ble_eq_true rfl, Nat.le_of_ble_eq_true rfl⟩) rfl hl rfl (Nat.le_of_ble_eq_true rfl) d_Model_guard_15 (fun r2 s3 hm => ?_)
    intro H locs ls hP hD hS hl
    refine lv_if_ne (tgt := 23) hx hb d_Model_guard_18 (by decide) (fun c4 => ?_) (fun c4 => ?_)
    · replace hm := hm.1 c4
      refine lv_iload_n hx hb d_Model_guard_23 rfl (lv_at hl 2 rfl) ?_
      by_cases c5 : a2 = 0
      · replace hm := hm.1 c5
        refine lv_tableIn (off := 32) (tgt := 56) hx hb d_Model_guard_24 (by rw [c5]; decide) (by rw [c5]; decide) (by rw [c5]; rfl) (by decide) ?_
        refine lv_aload_n hx hb d_Model_guard_56 rfl (lv_at hl 0 rfl) ?_
        refine va_get (D := D) (ci := 5) (v := .ref (ad 16)) (C := R_Model) (T := T_Model) (N := 36) hx hb hts in_Model hown hK hP 0 rfl rfl 20 (by decide) (hts _ wd511) (fun _ h9 => h9) rfl d_Model_guard_57 ?_
        refine lv_iload_n hx hb d_Model_guard_60 rfl (lv_at hl 1 rfl) ?_
        obtain ⟨h6, hm⟩ := hm
        refine va_iald hx hb hK hP 16 15 rfl rfl h6 d_Model_guard_61 ?_
        exact rt_i hx hb hr hlocks hK hP hD hS d_Model_guard_62 hm
      by_cases c7 : a2 = 1
      · replace hm := hm.2.1 c7
        refine lv_tableIn (off := 39) (tgt := 63) hx hb d_Model_guard_24 (by rw [c7]; decide) (by rw [c7]; decide) (by rw [c7]; rfl) (by decide) ?_
        refine lv_aload_n hx hb d_Model_guard_63 rfl (lv_at hl 0 rfl) ?_
        refine va_get (D := D) (ci := 5) (v := .ref (ad 17)) (C := R_Model) (T := T_Model) (N := 36) hx hb hts in_Model hown hK hP 0 rfl rfl 21 (by decide) (hts _ wd512) (fun _ h9 => h9) rfl d_Model_guard_64 ?_
        refine lv_iload_n hx hb d_Model_guard_67 rfl (lv_at hl 1 rfl) ?_
        obtain ⟨h8, hm⟩ := hm
        refine va_iald hx hb hK hP 17 16 rfl rfl h8 d_Model_guard_68 ?_
        exact rt_i hx hb hr hlocks hK hP hD hS d_Model_guard_69 hm
      by_cases c9 : a2 = 2
      · replace hm := hm.2.2.1 c9
        refine lv_tableIn (off := 46) (tgt := 70) hx hb d_Model_guard_24 (by rw [c9]; decide) (by rw [c9]; decide) (by rw [c9]; rfl) (by decide) ?_
        refine lv_aload_n hx hb d_Model_guard_70 rfl (lv_at hl 0 rfl) ?_
        refine va_get (D := D) (ci := 5) (v := .ref (ad 18)) (C := R_Model) (T := T_Model) (N := 36) hx hb hts in_Model hown hK hP 0 rfl rfl 22 (by decide) (hts _ wd513) (fun _ h9 => h9) rfl d_Model_guard_71 ?_
        refine lv_iload_n hx hb d_Model_guard_74 rfl (lv_at hl 1 rfl) ?_
        obtain ⟨h10, hm⟩ := hm
        refine va_iald hx hb hK hP 18 17 rfl rfl h10 d_Model_guard_75 ?_
        exact rt_i hx hb hr hlocks hK hP hD hS d_Model_guard_76 hm
      by_cases c11 : a2 = 3
      · replace hm := hm.2.2.2.1 c11
        refine lv_tableIn (off := 53) (tgt := 77) hx hb d_Model_guard_24 (by rw [c11]; decide) (by rw [c11]; decide) (by rw [c11]; rfl) (by decide) ?_
        refine lv_aload_n hx hb d_Model_guard_77 rfl (lv_at hl 0 rfl) ?_
        refine va_get (D := D) (ci := 5) (v := .ref (ad 19)) (C := R_Model) (T := T_Model) (N := 36) hx hb hts in_Model hown hK hP 0 rfl rfl 23 (by decide) (hts _ wd514) (fun _ h9 => h9) rfl d_Model_guard_78 ?_
        refine lv_iload_n hx hb d_Model_guard_81 rfl (lv_at hl 1 rfl) ?_
        obtain ⟨h12, hm⟩ := hm
        refine va_iald hx hb hK hP 19 18 rfl rfl h12 d_Model_guard_82 ?_
        exact rt_i hx hb hr hlocks hK hP hD hS d_Model_guard_83 hm
      replace hm := hm.2.2.2.2 c5 c7 c9 c11
      refine lv_tableOut (tgt := 84) hx hb d_Model_guard_24 (by have hc5 := lv_neT c5 (a := 0) rfl; have hc7 := lv_neT c7 (a := 1) rfl; have hc9 := lv_neT c9 (a := 2) rfl; have hc11 := lv_neT c11 (a := 3) rfl; omega) (by decide) ?_
      refine lv_iconst (v := -1) hx hb d_Model_guard_84 (by decide) ?_
      exact rt_i hx hb hr hlocks hK hP hD hS d_Model_guard_85 hm
    · replace hm := hm.2 c4
      refine lv_iconst (v := -1) hx hb d_Model_guard_21 (by decide) ?_
      exact rt_i hx hb hr hlocks hK hP hD hS d_Model_guard_22 hm
