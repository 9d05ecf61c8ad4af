set_option maxHeartbeats 4000000 in
set_option maxRecDepth 100000 in
theorem c_Layout_readInstructions (l : Launch) (D : va_G) (ad : Nat → Nat) (ca : Nat → ClassId) (sz : Nat) (s : St) (Post : Int32 → St → Prop) (hm : x_Layout_readInstructions s  Post) : CtI l y_Layout_readInstructions w_Layout_readInstructions { frames := 4, cells := 0, slots := 0, locals := 92 } D vwCl (tyX ca) (wX ad ca) sz [.ref (ad 7)] s Post := by
  refine ct_i (cc := prog_2_method_5_code) (maxL := 4) (ret := (some .boolean)) (by decide) rfl (Nat.le_of_ble_eq_true rfl) ?_
  intro p e s0 m args below meth c A hx hb hr hts hown hlocks hml hK hA
  have hown : s0.vm.findClass R_Layout = some m.cls := hown
  have B73 : ∀ (K4 : St → Int32 → Int32 → Prop) (hK4 : ∀ (s : St) (x1 : Int32) (x2 : Int32), K4 s x1 x2 → Bk D vwCl (wX ad ca) A p l e { frames := 4, cells := 0, slots := 0, locals := 92 } s0 m args below meth c (MQ below (va_Qi Post (atG D vwCl (tyX ca) (wX ad ca) A) A) args s0 0 0 A) 4 4 s [(0, .ref (ad 7)), (1, .int x1), (2, .int x2)] []) (s : St) (x2 : Int32) (x3 : Int32) (y0 : Int32) (y1 : Int32), x_Layout_readInstructions_73 K4 Post s x2 x3 y0 y1 → Bk D vwCl (wX ad ca) A p l e { frames := 4, cells := 0, slots := 0, locals := 92 } s0 m args below meth c (MQ below (va_Qi Post (atG D vwCl (tyX ca) (wX ad ca) A) A) args s0 0 0 A) 4 73 s [(0, .ref (ad 7)), (2, .int x2), (3, .int x3)] [.int y0, .int y1, .ref (ad 16)] := by
    intro K4 hK4 s x2 x3 y0 y1 hm H locs ls hP hD hS hl
    unfold x_Layout_readInstructions_73 at hm
    obtain ⟨h12, hm⟩ := hm
    refine va_zast hx hb hK hP hD hS 16 12 rfl rfl h12 d_Layout_readInstructions_73 (fun H locs hP hD hS => ?_)
    have hP : va_P D vwCl (wX ad ca (su s 12 (y1).toNatClampNeg (vp_nar .boolean y0))) H := hP
    have hD : va_D A (wX ad ca (su s 12 (y1).toNatClampNeg (vp_nar .boolean y0))) := hD
    obtain ⟨s13, es13⟩ : ∃ z : St, z = su s 12 (y1).toNatClampNeg (vp_nar .boolean y0) := ⟨_, rfl⟩
    rw [← es13] at hP hD
    replace hm := hm s13 es13
    refine lv_aload_n hx hb d_Layout_readInstructions_74 rfl (lv_at hl 0 rfl) ?_
    refine va_get (D := D) (ci := 3) (v := .ref (ad 8)) (C := R_Layout) (T := T_Layout) (N := 16) hx hb hts in_Layout hown hK hP 7 rfl rfl 2 (by decide) (hts _ wd81) (fun _ h9 => h9) rfl d_Layout_readInstructions_75 ?_
    refine lv_iload_n hx hb d_Layout_readInstructions_78 rfl (lv_at hl 1 rfl) ?_
    refine lv_iload_n hx hb d_Layout_readInstructions_79 rfl (lv_at hl 2 rfl) ?_
    obtain ⟨h14, hm⟩ := hm
    refine va_iast hx hb hK hP hD hS 8 4 rfl rfl h14 d_Layout_readInstructions_80 (fun H locs hP hD hS => ?_)
    have hP : va_P D vwCl (wX ad ca (su s13 4 (x2).toNatClampNeg x3)) H := hP
    have hD : va_D A (wX ad ca (su s13 4 (x2).toNatClampNeg x3)) := hD
    obtain ⟨s15, es15⟩ : ∃ z : St, z = su s13 4 (x2).toNatClampNeg x3 := ⟨_, rfl⟩
    rw [← es15] at hP hD
    replace hm := hm s15 es15
    refine lv_aload_n hx hb d_Layout_readInstructions_81 rfl (lv_at hl 0 rfl) ?_
    refine lv_iload_n hx hb d_Layout_readInstructions_82 rfl (lv_at hl 1 rfl) ?_
    refine lv_iconst (v := 1) hx hb d_Layout_readInstructions_83 (by decide) ?_
    refine lv_iadd hx hb d_Layout_readInstructions_84 ?_
    refine va_put (D := D) (ci := 3) (v := .int (x2 + (1 : Int32))) (ty := .int) (C := R_Layout) (T := T_Layout) (N := 16) hx hb hts in_Layout t_Layout to_Layout no_Layout hown hK hP hD hS 7 rfl rfl 11 (by decide) (hts _ wd105) (fun _ h9 => h9) rfl (by decide +kernel) rfl rfl (Nat.le_of_ble_eq_true rfl) d_Layout_readInstructions_85 (fun H locs hP hD hS => ?_)
    have hP : va_P D vwCl (wX ad ca (su s15 15 5 (x2 + (1 : Int32)))) H := hP
    have hD : va_D A (wX ad ca (su s15 15 5 (x2 + (1 : Int32)))) := hD
    obtain ⟨s16, es16⟩ : ∃ z : St, z = su s15 15 5 (x2 + (1 : Int32)) := ⟨_, rfl⟩
    rw [← es16] at hP hD
    replace hm := hm s16 es16
    refine lv_iload_n hx hb d_Layout_readInstructions_88 rfl (lv_at hl 2 rfl) ?_
    refine lv_aload_n hx hb d_Layout_readInstructions_89 rfl (lv_at hl 0 rfl) ?_
    refine va_get (D := D) (ci := 3) (v := .ref (ad 9)) (C := R_Layout) (T := T_Layout) (N := 16) hx hb hts in_Layout hown hK hP 7 rfl rfl 3 (by decide) (hts _ wd84) (fun _ h9 => h9) rfl d_Layout_readInstructions_90 ?_
    refine lv_iload_n hx hb d_Layout_readInstructions_93 rfl (lv_at hl 2 rfl) ?_
    obtain ⟨h17, hm⟩ := hm
    refine va_iald hx hb hK hP 9 5 rfl rfl h17 d_Layout_readInstructions_94 ?_
    refine lv_iadd hx hb d_Layout_readInstructions_95 ?_
    refine lv_topi (fun v18 ev18 => ?_)
    replace hm := hm v18 ev18
    refine lv_istore_n (lv' := [(1, .int v18), (0, .ref (ad 7)), (2, .int x2), (3, .int x3)]) hx hb d_Layout_readInstructions_96 rfl hl (by decide) rfl (fun ls hl => ?_)
    obtain ⟨v19, ev19⟩ : ∃ y : Int32, y = x2 + 1 := ⟨_, rfl⟩
    replace hm := hm v19 ev19
    refine lv_iinc (v := v19) (lv' := [(2, .int v19), (1, .int v18), (0, .ref (ad 7)), (3, .int x3)]) hx hb d_Layout_readInstructions_97 hl (k := 2) rfl (by rw [ev19]; rfl) (by decide) rfl (fun ls hl => ?_)
    refine lv_goto (tgt := 4) hx hb d_Layout_readInstructions_100 (by decide) ?_
    exact hK4 s16 v18 v19 hm H locs ls hP hD hS (lv_sub hl [2, 1, 0] rfl)
  have B103 : ∀ (s : St), x_Layout_readInstructions_103  Post s → Bk D vwCl (wX ad ca) A p l e { frames := 4, cells := 0, slots := 0, locals := 92 } s0 m args below meth c (MQ below (va_Qi Post (atG D vwCl (tyX ca) (wX ad ca) A) A) args s0 0 0 A) 4 103 s [(0, .ref (ad 7))] [] := by
    intro  s hm H locs ls hP hD hS hl
    unfold x_Layout_readInstructions_103 at hm
    refine lv_aload_n hx hb d_Layout_readInstructions_103 rfl (lv_at hl 0 rfl) ?_
    refine va_get (D := D) (ci := 3) (v := .int (s 15 5)) (C := R_Layout) (T := T_Layout) (N := 16) hx hb hts in_Layout hown hK hP 7 rfl rfl 11 (by decide) (hts _ wd105) (fun _ h9 => h9) rfl d_Layout_readInstructions_104 ?_
    refine lv_if_le (tgt := 114) hx hb d_Layout_readInstructions_107 (by decide) (fun c20 => ?_) (fun c20 => ?_)
    · replace hm := hm.1 c20
      refine lv_iconst (v := 0) hx hb d_Layout_readInstructions_114 (by decide) ?_
      exact rt_z hx hb hr hm.1 hlocks hK hP hD hS d_Layout_readInstructions_115 hm.2
    · replace hm := hm.2 c20
      refine lv_iconst (v := 1) hx hb d_Layout_readInstructions_110 (by decide) ?_
      refine lv_goto (tgt := 115) hx hb d_Layout_readInstructions_111 (by decide) ?_
      exact rt_z hx hb hr hm.1 hlocks hK hP hD hS d_Layout_readInstructions_115 hm.2
  have B4 : ∀ (n : Nat) (s : St) (x1 : Int32) (x2 : Int32), x_Layout_readInstructions_4  Post n s x1 x2 → Bk D vwCl (wX ad ca) A p l e { frames := 4, cells := 0, slots := 0, locals := 92 } s0 m args below meth c (MQ below (va_Qi Post (atG D vwCl (tyX ca) (wX ad ca) A) A) args s0 0 0 A) 4 4 s [(0, .ref (ad 7)), (1, .int x1), (2, .int x2)] [] := by
    intro  n4
    induction n4 with
    | zero => intro s x1 x2 hm; exact hm.elim
    | succ n4 hK4 =>
      intro s x1 x2 hm H locs ls hP hD hS hl
      have hm : x_Layout_readInstructions_4F  Post (fun s x1 x2 => x_Layout_readInstructions_4  Post n4 s x1 x2) s x1 x2 := hm
      unfold x_Layout_readInstructions_4F at hm
      refine lv_iload_n hx hb d_Layout_readInstructions_4 rfl (lv_at hl 2 rfl) ?_
      refine lv_sipush (v := 200) hx hb d_Layout_readInstructions_5 (by decide) ?_
      refine lv_icmp_ge (tgt := 103) hx hb d_Layout_readInstructions_8 (by decide) (fun c1 => ?_) (fun c1 => ?_)
      · replace hm := hm.1 c1
        exact B103  s hm H locs ls hP hD hS (lv_sub hl [0] rfl)
      · replace hm := hm.2 c1
        refine lv_iload_n hx hb d_Layout_readInstructions_11 rfl (lv_at hl 1 rfl) ?_
        refine lv_aload_n hx hb d_Layout_readInstructions_12 rfl (lv_at hl 0 rfl) ?_
        refine va_get (D := D) (ci := 3) (v := .ref (ad 1)) (C := R_Layout) (T := T_Layout) (N := 16) hx hb hts in_Layout hown hK hP 7 rfl rfl 0 (by decide) (hts _ wd79) (fun _ h9 => h9) rfl d_Layout_readInstructions_13 ?_
        refine va_get (D := D) (ci := 1) (v := .int (s 15 1)) (C := R_Source) (T := T_Source) (N := 4) hx hb hts in_Source hown hK hP 1 rfl rfl 2 (by decide) (hts _ wd28) (fun _ h9 => h9) rfl d_Layout_readInstructions_16 ?_
        refine lv_icmp_ge (tgt := 103) hx hb d_Layout_readInstructions_19 (by decide) (fun c2 => ?_) (fun c2 => ?_)
        · replace hm := hm.1 c2
          exact B103  s hm H locs ls hP hD hS (lv_sub hl [0] rfl)
        · replace hm := hm.2 c2
          refine lv_iload_n hx hb d_Layout_readInstructions_22 rfl (lv_at hl 1 rfl) ?_
          refine lv_istore_n (lv' := [(3, .int x1), (0, .ref (ad 7)), (1, .int x1), (2, .int x2)]) hx hb d_Layout_readInstructions_23 rfl hl (by decide) rfl (fun ls hl => ?_)
          refine lv_aload_n hx hb d_Layout_readInstructions_24 rfl (lv_at hl 1 rfl) ?_
          refine va_get (D := D) (ci := 3) (v := .ref (ad 9)) (C := R_Layout) (T := T_Layout) (N := 16) hx hb hts in_Layout hown hK hP 7 rfl rfl 3 (by decide) (hts _ wd84) (fun _ h9 => h9) rfl d_Layout_readInstructions_25 ?_
          refine lv_iload_n hx hb d_Layout_readInstructions_28 rfl (lv_at hl 0 rfl) ?_
          refine lv_aload_n hx hb d_Layout_readInstructions_29 rfl (lv_at hl 1 rfl) ?_
          refine va_get (D := D) (ci := 3) (v := .ref (ad 1)) (C := R_Layout) (T := T_Layout) (N := 16) hx hb hts in_Layout hown hK hP 7 rfl rfl 0 (by decide) (hts _ wd79) (fun _ h9 => h9) rfl d_Layout_readInstructions_30 ?_
          refine lv_iload_n hx hb d_Layout_readInstructions_33 rfl (lv_at hl 0 rfl) ?_
          refine cg_Vi (b := (ad 1)) (As := [.int x1]) (rest := [.int x1, .ref (ad 9)]) ⟨hx, hb, hml, hown, hts⟩ hK hP hD hS hA (c_Source_lengthAt l D ad ca H.size s x1 _ hm) (cwA 1 hts wd271 wd2 wd268 wd269 wd270 (by decide +kernel) ⟨Nat.le_of_ble_eq_true rfl, Nat.le_of_ble_eq_true rfl⟩) (va_recv hK hP (ci := 1) (q0 := 1) rfl rfl) rfl hl rfl (Nat.le_of_ble_eq_true rfl) d_Layout_readInstructions_34 (fun r3 s4 hm => ?_)
          intro H locs ls hP hD hS hl
          obtain ⟨h5, hm⟩ := hm
          refine va_iast hx hb hK hP hD hS 9 5 rfl rfl h5 d_Layout_readInstructions_37 (fun H locs hP hD hS => ?_)
          have hP : va_P D vwCl (wX ad ca (su s4 5 (x1).toNatClampNeg r3)) H := hP
          have hD : va_D A (wX ad ca (su s4 5 (x1).toNatClampNeg r3)) := hD
          obtain ⟨s6, es6⟩ : ∃ z : St, z = su s4 5 (x1).toNatClampNeg r3 := ⟨_, rfl⟩
          rw [← es6] at hP hD
          replace hm := hm s6 es6
          refine lv_aload_n hx hb d_Layout_readInstructions_38 rfl (lv_at hl 1 rfl) ?_
          refine va_get (D := D) (ci := 3) (v := .ref (ad 9)) (C := R_Layout) (T := T_Layout) (N := 16) hx hb hts in_Layout hown hK hP 7 rfl rfl 3 (by decide) (hts _ wd84) (fun _ h9 => h9) rfl d_Layout_readInstructions_39 ?_
          refine lv_iload_n hx hb d_Layout_readInstructions_42 rfl (lv_at hl 0 rfl) ?_
          obtain ⟨h7, hm⟩ := hm
          refine va_iald hx hb hK hP 9 5 rfl rfl h7 d_Layout_readInstructions_43 ?_
          refine lv_if_ne (tgt := 49) hx hb d_Layout_readInstructions_44 (by decide) (fun c8 => ?_) (fun c8 => ?_)
          · replace hm := hm.1 c8
            refine lv_aload_n hx hb d_Layout_readInstructions_49 rfl (lv_at hl 1 rfl) ?_
            refine va_get (D := D) (ci := 3) (v := .ref (ad 16)) (C := R_Layout) (T := T_Layout) (N := 16) hx hb hts in_Layout hown hK hP 7 rfl rfl 10 (by decide) (hts _ wd101) (fun _ h9 => h9) rfl d_Layout_readInstructions_50 ?_
            refine lv_iload_n hx hb d_Layout_readInstructions_53 rfl (lv_at hl 0 rfl) ?_
            refine lv_aload_n hx hb d_Layout_readInstructions_54 rfl (lv_at hl 1 rfl) ?_
            refine va_get (D := D) (ci := 3) (v := .ref (ad 1)) (C := R_Layout) (T := T_Layout) (N := 16) hx hb hts in_Layout hown hK hP 7 rfl rfl 0 (by decide) (hts _ wd79) (fun _ h9 => h9) rfl d_Layout_readInstructions_55 ?_
            refine lv_iload_n hx hb d_Layout_readInstructions_58 rfl (lv_at hl 0 rfl) ?_
            refine cg_Vi (b := (ad 1)) (As := [.int x1]) (rest := [.int x1, .ref (ad 16)]) ⟨hx, hb, hml, hown, hts⟩ hK hP hD hS hA (c_Source_u1 l D ad ca H.size s6 x1 _ hm) (cwA 1 hts wd275 wd2 wd308 wd273 wd274 (by decide +kernel) ⟨Nat.le_of_ble_eq_true rfl, Nat.le_of_ble_eq_true rfl⟩) (va_recv hK hP (ci := 1) (q0 := 1) rfl rfl) rfl hl rfl (Nat.le_of_ble_eq_true rfl) d_Layout_readInstructions_59 (fun r9 s10 hm => ?_)
            intro H locs ls hP hD hS hl
            refine lv_sipush (v := 200) hx hb d_Layout_readInstructions_62 (by decide) ?_
            refine lv_icmp_ne (tgt := 72) hx hb d_Layout_readInstructions_65 (by decide) (fun c11 => ?_) (fun c11 => ?_)
            · replace hm := hm.1 c11
              refine lv_iconst (v := 0) hx hb d_Layout_readInstructions_72 (by decide) ?_
              exact B73 (fun s x1 x2 => x_Layout_readInstructions_4  Post n4 s x1 x2) hK4 s10 x2 x1 (0 : Int32) x1 hm H locs ls hP hD hS (lv_sub hl [1, 3, 0] rfl)
            · replace hm := hm.2 c11
              refine lv_iconst (v := 1) hx hb d_Layout_readInstructions_68 (by decide) ?_
              refine lv_goto (tgt := 73) hx hb d_Layout_readInstructions_69 (by decide) ?_
              exact B73 (fun s x1 x2 => x_Layout_readInstructions_4  Post n4 s x1 x2) hK4 s10 x2 x1 (1 : Int32) x1 hm H locs ls hP hD hS (lv_sub hl [1, 3, 0] rfl)
          · replace hm := hm.2 c8
            refine lv_iconst (v := 0) hx hb d_Layout_readInstructions_47 (by decide) ?_
            exact rt_z hx hb hr hm.1 hlocks hK hP hD hS d_Layout_readInstructions_48 hm.2
  intro H locs ls hP hD hS hl
  have hl : lv_has ls 4 [(0, .ref (ad 7))] := hl
  unfold x_Layout_readInstructions at hm
  refine lv_iconst (v := 0) hx hb d_Layout_readInstructions_0 (by decide) ?_
  refine lv_istore_n (lv' := [(1, .int (0 : Int32)), (0, .ref (ad 7))]) hx hb d_Layout_readInstructions_1 rfl hl (by decide) rfl (fun ls hl => ?_)
  refine lv_iconst (v := 0) hx hb d_Layout_readInstructions_2 (by decide) ?_
  refine lv_istore_n (lv' := [(2, .int (0 : Int32)), (1, .int (0 : Int32)), (0, .ref (ad 7))]) hx hb d_Layout_readInstructions_3 rfl hl (by decide) rfl (fun ls hl => ?_)
  obtain ⟨n4, hm⟩ := hm
  exact B4  n4 s (0 : Int32) (0 : Int32) hm H locs ls hP hD hS (lv_sub hl [2, 1, 0] rfl)
set_option maxHeartbeats 4000000 in
set_option maxRecDepth 100000 in
theorem c_Layout_wordsOf (l : Launch) (D : va_G) (ad : Nat → Nat) (ca : Nat → ClassId) (sz : Nat) (s : St) (a1 : Int32) (Post : Int32 → St → Prop) (hm : x_Layout_wordsOf s a1 Post) : CtI l y_Layout_wordsOf w_Layout_wordsOf { frames := 1, cells := 0, slots := 0, locals := 20 } D vwCl (tyX ca) (wX ad ca) sz [.ref (ad 7), .int a1] s Post := by
  refine ct_i (cc := prog_2_method_8_code) (maxL := 2) (ret := (some .int)) (by decide) rfl (Nat.le_of_ble_eq_true rfl) ?_
  intro p e s0 m args below meth c A hx hb hr hts hown hlocks hml hK hA
  have hown : s0.vm.findClass R_Layout = some m.cls := hown
  intro H locs ls hP hD hS hl
  have hl : lv_has ls 2 [(0, .ref (ad 7)), (1, .int a1)] := hl
  unfold x_Layout_wordsOf at hm
  refine lv_iload_n hx hb d_Layout_wordsOf_0 rfl (lv_at hl 1 rfl) ?_
  refine lv_aload_n hx hb d_Layout_wordsOf_1 rfl (lv_at hl 0 rfl) ?_
  refine va_get (D := D) (ci := 3) (v := .ref (ad 9)) (C := R_Layout) (T := T_Layout) (N := 16) hx hb hts in_Layout hown hK hP 7 rfl rfl 3 (by decide) (hts _ wd84) (fun _ h9 => h9) rfl d_Layout_wordsOf_2 ?_
  refine lv_iload_n hx hb d_Layout_wordsOf_5 rfl (lv_at hl 1 rfl) ?_
  obtain ⟨h1, hm⟩ := hm
  refine va_iald hx hb hK hP 9 5 rfl rfl h1 d_Layout_wordsOf_6 ?_
  refine lv_iadd hx hb d_Layout_wordsOf_7 ?_
  refine lv_iload_n hx hb d_Layout_wordsOf_8 rfl (lv_at hl 1 rfl) ?_
  refine cg_Si (As := [.int a1]) (rest := [.int (a1 + (s 5 (a1).toNatClampNeg))]) ⟨hx, hb, hml, hown, hts⟩ hK hP hD hS hA (c_Source_wordsFrom l D ad ca H.size s a1 _ hm) (cwB 1 hts wd295 wd2 wd322 wd294 (by decide +kernel) ⟨Nat.le_of_ble_eq_true rfl, Nat.le_of_ble_eq_true rfl⟩) rfl hl rfl (Nat.le_of_ble_eq_true rfl) d_Layout_wordsOf_9 (fun r2 s3 hm => ?_)
  intro H locs ls hP hD hS hl
  refine lv_isub hx hb d_Layout_wordsOf_12 ?_
  refine lv_iconst (v := 4) hx hb d_Layout_wordsOf_13 (by decide) ?_
  refine lv_idiv hx hb d_Layout_wordsOf_14 (by decide) ?_
  exact rt_i hx hb hr hlocks hK hP hD hS d_Layout_wordsOf_15 hm
set_option maxHeartbeats 4000000 in
set_option maxRecDepth 100000 in
theorem c_Opcodes_isGoalWord (l : Launch) (D : va_G) (ad : Nat → Nat) (ca : Nat → ClassId) (sz : Nat) (s : St) (a0 : Int32) (a1 : Int32) (Post : Int32 → St → Prop) (hm : x_Opcodes_isGoalWord s a0 a1 Post) : CtI l y_Opcodes_isGoalWord w_Opcodes_isGoalWord { frames := 0, cells := 0, slots := 0, locals := 0 } D vwCl (tyX ca) (wX ad ca) sz [.int a0, .int a1] s Post := by
  refine ct_i (cc := prog_3_method_11_code) (maxL := 2) (ret := (some .boolean)) (by decide) rfl (Nat.le_of_ble_eq_true rfl) ?_
  intro p e s0 m args below meth c A hx hb hr hts hown hlocks hml hK hA
  have hown : s0.vm.findClass R_Opcodes = some m.cls := hown
  have B23 : ∀ (s : St), x_Opcodes_isGoalWord_23  Post s → Bk D vwCl (wX ad ca) A p l e { frames := 0, cells := 0, slots := 0, locals := 0 } s0 m args below meth c (MQ below (va_Qi Post (atG D vwCl (tyX ca) (wX ad ca) A) A) args s0 0 0 A) 2 23 s [] [] := by
    intro  s hm H locs ls hP hD hS hl
    unfold x_Opcodes_isGoalWord_23 at hm
    refine lv_iconst (v := 1) hx hb d_Opcodes_isGoalWord_23 (by decide) ?_
    refine lv_goto (tgt := 28) hx hb d_Opcodes_isGoalWord_24 (by decide) ?_
    exact rt_z hx hb hr hm.1 hlocks hK hP hD hS d_Opcodes_isGoalWord_28 hm.2
  intro H locs ls hP hD hS hl
  have hl : lv_has ls 2 [(0, .int a0), (1, .int a1)] := hl
  unfold x_Opcodes_isGoalWord at hm
  refine lv_iload_n hx hb d_Opcodes_isGoalWord_0 rfl (lv_at hl 1 rfl) ?_
  refine lv_if_eq (tgt := 23) hx hb d_Opcodes_isGoalWord_1 (by decide) (fun c1 => ?_) (fun c1 => ?_)
  · replace hm := hm.1 c1
    exact B23  s hm H locs ls hP hD hS (lv_sub hl [] rfl)
  · replace hm := hm.2 c1
    refine lv_iload_n hx hb d_Opcodes_isGoalWord_4 rfl (lv_at hl 1 rfl) ?_
    refine lv_iconst (v := 3) hx hb d_Opcodes_isGoalWord_5 (by decide) ?_
    refine lv_icmp_lt (tgt := 27) hx hb d_Opcodes_isGoalWord_6 (by decide) (fun c2 => ?_) (fun c2 => ?_)
    · replace hm := hm.1 c2
      refine lv_iconst (v := 0) hx hb d_Opcodes_isGoalWord_27 (by decide) ?_
      exact rt_z hx hb hr hm.1 hlocks hK hP hD hS d_Opcodes_isGoalWord_28 hm.2
    · replace hm := hm.2 c2
      refine lv_iload_n hx hb d_Opcodes_isGoalWord_9 rfl (lv_at hl 0 rfl) ?_
      refine lv_sipush (v := 170) hx hb d_Opcodes_isGoalWord_10 (by decide) ?_
      refine lv_icmp_eq (tgt := 23) hx hb d_Opcodes_isGoalWord_13 (by decide) (fun c3 => ?_) (fun c3 => ?_)
      · replace hm := hm.1 c3
        exact B23  s hm H locs ls hP hD hS (lv_sub hl [] rfl)
      · replace hm := hm.2 c3
        refine lv_iload_n hx hb d_Opcodes_isGoalWord_16 rfl (lv_at hl 1 rfl) ?_
        refine lv_iconst (v := 2) hx hb d_Opcodes_isGoalWord_17 (by decide) ?_
        refine lv_irem hx hb d_Opcodes_isGoalWord_18 (by decide) ?_
        refine lv_iconst (v := 1) hx hb d_Opcodes_isGoalWord_19 (by decide) ?_
        refine lv_icmp_ne (tgt := 27) hx hb d_Opcodes_isGoalWord_20 (by decide) (fun c4 => ?_) (fun c4 => ?_)
        · replace hm := hm.1 c4
          refine lv_iconst (v := 0) hx hb d_Opcodes_isGoalWord_27 (by decide) ?_
          exact rt_z hx hb hr hm.1 hlocks hK hP hD hS d_Opcodes_isGoalWord_28 hm.2
        · replace hm := hm.2 c4
          exact B23  s hm H locs ls hP hD hS (lv_sub hl [] rfl)
set_option maxHeartbeats 4000000 in
set_option maxRecDepth 100000 in
theorem c_Source_wordGoal (l : Launch) (D : va_G) (ad : Nat → Nat) (ca : Nat → ClassId) (sz : Nat) (s : St) (a1 : Int32) (a2 : Int32) (Post : Int32 → St → Prop) (hm : x_Source_wordGoal s a1 a2 Post) : CtI l y_Source_wordGoal w_Source_wordGoal { frames := 2, cells := 0, slots := 0, locals := 42 } D vwCl (tyX ca) (wX ad ca) sz [.ref (ad 1), .int a1, .int a2] s Post := by
  refine ct_i (cc := prog_5_method_13_code) (maxL := 3) (ret := (some .int)) (by decide) rfl (Nat.le_of_ble_eq_true rfl) ?_
  intro p e s0 m args below meth c A hx hb hr hts hown hlocks hml hK hA
  have hown : s0.vm.findClass R_Source = some m.cls := hown
  intro H locs ls hP hD hS hl
  have hl : lv_has ls 3 [(0, .ref (ad 1)), (1, .int a1), (2, .int a2)] := hl
  unfold x_Source_wordGoal at hm
  refine lv_iload_n hx hb d_Source_wordGoal_0 rfl (lv_at hl 1 rfl) ?_
  refine lv_aload_n hx hb d_Source_wordGoal_1 rfl (lv_at hl 0 rfl) ?_
  refine lv_iload_n hx hb d_Source_wordGoal_2 rfl (lv_at hl 1 rfl) ?_
  refine cg_Si (As := [.int a1]) (rest := [.ref (ad 1), .int a1]) ⟨hx, hb, hml, hown, hts⟩ hK hP hD hS hA (c_Source_wordsFrom l D ad ca H.size s a1 _ hm) (cwB 1 hts wd295 wd2 wd293 wd294 (by decide +kernel) ⟨Nat.le_of_ble_eq_true rfl, Nat.le_of_ble_eq_true rfl⟩) rfl hl rfl (Nat.le_of_ble_eq_true rfl) d_Source_wordGoal_3 (fun r1 s2 hm => ?_)
  intro H locs ls hP hD hS hl
  refine lv_iconst (v := 4) hx hb d_Source_wordGoal_6 (by decide) ?_
  refine lv_iload_n hx hb d_Source_wordGoal_7 rfl (lv_at hl 2 rfl) ?_
  refine lv_imul hx hb d_Source_wordGoal_8 ?_
  refine lv_iadd hx hb d_Source_wordGoal_9 ?_
  refine cg_Vi (b := (ad 1)) (As := [.int (r1 + ((4 : Int32) * a2))]) (rest := [.int a1]) ⟨hx, hb, hml, hown, hts⟩ hK hP hD hS hA (c_Source_s4 l D ad ca H.size s2 (r1 + ((4 : Int32) * a2)) _ hm) (cwA 1 hts wd299 wd2 wd296 wd297 wd298 (by decide +kernel) ⟨Nat.le_of_ble_eq_true rfl, Nat.le_of_ble_eq_true rfl⟩) (va_recv hK hP (ci := 1) (q0 := 1) rfl rfl) rfl hl rfl (Nat.le_of_ble_eq_true rfl) d_Source_wordGoal_10 (fun r3 s4 hm => ?_)
  intro H locs ls hP hD hS hl
  refine lv_iadd hx hb d_Source_wordGoal_13 ?_
  exact rt_i hx hb hr hlocks hK hP hD hS d_Source_wordGoal_14 hm
set_option maxHeartbeats 4000000 in
set_option maxRecDepth 100000 in
theorem c_Layout_begins (l : Launch) (D : va_G) (ad : Nat → Nat) (ca : Nat → ClassId) (sz : Nat) (s : St) (a1 : Int32) (Post : Int32 → St → Prop) (hm : x_Layout_begins s a1 Post) : CtI l y_Layout_begins w_Layout_begins { frames := 0, cells := 0, slots := 0, locals := 0 } D vwCl (tyX ca) (wX ad ca) sz [.ref (ad 7), .int a1] s Post := by
  refine ct_i (cc := prog_2_method_2_code) (maxL := 2) (ret := (some .boolean)) (by decide) rfl (Nat.le_of_ble_eq_true rfl) ?_
  intro p e s0 m args below meth c A hx hb hr hts hown hlocks hml hK hA
  have hown : s0.vm.findClass R_Layout = some m.cls := hown
  intro H locs ls hP hD hS hl
  have hl : lv_has ls 2 [(0, .ref (ad 7)), (1, .int a1)] := hl
  unfold x_Layout_begins at hm
  refine lv_iload_n hx hb d_Layout_begins_0 rfl (lv_at hl 1 rfl) ?_
  refine lv_if_lt (tgt := 24) hx hb d_Layout_begins_1 (by decide) (fun c1 => ?_) (fun c1 => ?_)
  · replace hm := hm.1 c1
    refine lv_iconst (v := 0) hx hb d_Layout_begins_24 (by decide) ?_
    exact rt_z hx hb hr hm.1 hlocks hK hP hD hS d_Layout_begins_25 hm.2
  · replace hm := hm.2 c1
    refine lv_iload_n hx hb d_Layout_begins_4 rfl (lv_at hl 1 rfl) ?_
    refine lv_sipush (v := 200) hx hb d_Layout_begins_5 (by decide) ?_
    refine lv_icmp_gt (tgt := 24) hx hb d_Layout_begins_8 (by decide) (fun c2 => ?_) (fun c2 => ?_)
    · replace hm := hm.1 c2
      refine lv_iconst (v := 0) hx hb d_Layout_begins_24 (by decide) ?_
      exact rt_z hx hb hr hm.1 hlocks hK hP hD hS d_Layout_begins_25 hm.2
    · replace hm := hm.2 c2
      refine lv_aload_n hx hb d_Layout_begins_11 rfl (lv_at hl 0 rfl) ?_
      refine va_get (D := D) (ci := 3) (v := .ref (ad 9)) (C := R_Layout) (T := T_Layout) (N := 16) hx hb hts in_Layout hown hK hP 7 rfl rfl 3 (by decide) (hts _ wd84) (fun _ h9 => h9) rfl d_Layout_begins_12 ?_
      refine lv_iload_n hx hb d_Layout_begins_15 rfl (lv_at hl 1 rfl) ?_
      obtain ⟨h3, hm⟩ := hm
      refine va_iald hx hb hK hP 9 5 rfl rfl h3 d_Layout_begins_16 ?_
      refine lv_if_le (tgt := 24) hx hb d_Layout_begins_17 (by decide) (fun c4 => ?_) (fun c4 => ?_)
      · replace hm := hm.1 c4
        refine lv_iconst (v := 0) hx hb d_Layout_begins_24 (by decide) ?_
        exact rt_z hx hb hr hm.1 hlocks hK hP hD hS d_Layout_begins_25 hm.2
      · replace hm := hm.2 c4
        refine lv_iconst (v := 1) hx hb d_Layout_begins_20 (by decide) ?_
        refine lv_goto (tgt := 25) hx hb d_Layout_begins_21 (by decide) ?_
        exact rt_z hx hb hr hm.1 hlocks hK hP hD hS d_Layout_begins_25 hm.2
set_option maxHeartbeats 4000000 in
set_option maxRecDepth 100000 in
theorem c_Layout_beginBlock (l : Launch) (D : va_G) (ad : Nat → Nat) (ca : Nat → ClassId) (sz : Nat) (s : St) (a1 : Int32) (Post : Int32 → St → Prop) (hm : x_Layout_beginBlock s a1 Post) : CtI l y_Layout_beginBlock w_Layout_beginBlock { frames := 1, cells := 0, slots := 0, locals := 21 } D vwCl (tyX ca) (wX ad ca) sz [.ref (ad 7), .int a1] s Post := by
  refine ct_i (cc := prog_2_method_9_code) (maxL := 2) (ret := (some .boolean)) (by decide) rfl (Nat.le_of_ble_eq_true rfl) ?_
  intro p e s0 m args below meth c A hx hb hr hts hown hlocks hml hK hA
  have hown : s0.vm.findClass R_Layout = some m.cls := hown
  intro H locs ls hP hD hS hl
  have hl : lv_has ls 2 [(0, .ref (ad 7)), (1, .int a1)] := hl
  unfold x_Layout_beginBlock at hm
  refine lv_aload_n hx hb d_Layout_beginBlock_0 rfl (lv_at hl 0 rfl) ?_
  refine lv_iload_n hx hb d_Layout_beginBlock_1 rfl (lv_at hl 1 rfl) ?_
  refine cg_Vi (b := (ad 7)) (As := [.int a1]) (rest := []) ⟨hx, hb, hml, hown, hts⟩ hK hP hD hS hA (c_Layout_begins l D ad ca H.size s a1 _ hm) (cwA 1 hts wd337 wd5 wd334 wd335 wd336 (by decide +kernel) ⟨Nat.le_of_ble_eq_true rfl, Nat.le_of_ble_eq_true rfl⟩) (va_recv hK hP (ci := 3) (q0 := 7) rfl rfl) rfl hl rfl (Nat.le_of_ble_eq_true rfl) d_Layout_beginBlock_2 (fun r1 s2 hm => ?_)
  intro H locs ls hP hD hS hl
  refine lv_if_ne (tgt := 10) hx hb d_Layout_beginBlock_5 (by decide) (fun c3 => ?_) (fun c3 => ?_)
  · replace hm := hm.1 c3
    refine lv_aload_n hx hb d_Layout_beginBlock_10 rfl (lv_at hl 0 rfl) ?_
    refine va_get (D := D) (ci := 3) (v := .ref (ad 11)) (C := R_Layout) (T := T_Layout) (N := 16) hx hb hts in_Layout hown hK hP 7 rfl rfl 5 (by decide) (hts _ wd88) (fun _ h9 => h9) rfl d_Layout_beginBlock_11 ?_
    refine lv_iload_n hx hb d_Layout_beginBlock_14 rfl (lv_at hl 1 rfl) ?_
    refine lv_iconst (v := 0) hx hb d_Layout_beginBlock_15 (by decide) ?_
    obtain ⟨h4, hm⟩ := hm
    refine va_iast hx hb hK hP hD hS 11 7 rfl rfl h4 d_Layout_beginBlock_16 (fun H locs hP hD hS => ?_)
    have hP : va_P D vwCl (wX ad ca (su s2 7 (a1).toNatClampNeg (0 : Int32))) H := hP
    have hD : va_D A (wX ad ca (su s2 7 (a1).toNatClampNeg (0 : Int32))) := hD
    obtain ⟨s5, es5⟩ : ∃ z : St, z = su s2 7 (a1).toNatClampNeg (0 : Int32) := ⟨_, rfl⟩
    rw [← es5] at hP hD
    replace hm := hm s5 es5
    refine lv_iconst (v := 1) hx hb d_Layout_beginBlock_17 (by decide) ?_
    exact rt_z hx hb hr hm.1 hlocks hK hP hD hS d_Layout_beginBlock_18 hm.2
  · replace hm := hm.2 c3
    refine lv_iconst (v := 0) hx hb d_Layout_beginBlock_8 (by decide) ?_
    exact rt_z hx hb hr hm.1 hlocks hK hP hD hS d_Layout_beginBlock_9 hm.2
set_option maxHeartbeats 4000000 in
set_option maxRecDepth 100000 in
theorem c_Layout_readWordGoals (l : Launch) (D : va_G) (ad : Nat → Nat) (ca : Nat → ClassId) (sz : Nat) (s : St) (a1 : Int32) (a2 : Int32) (Post : Int32 → St → Prop) (hm : x_Layout_readWordGoals s a1 a2 Post) : CtI l y_Layout_readWordGoals w_Layout_readWordGoals { frames := 3, cells := 0, slots := 0, locals := 64 } D vwCl (tyX ca) (wX ad ca) sz [.ref (ad 7), .int a1, .int a2] s Post := by
  refine ct_i (cc := prog_2_method_7_code) (maxL := 5) (ret := (some .boolean)) (by decide) rfl (Nat.le_of_ble_eq_true rfl) ?_
  intro p e s0 m args below meth c A hx hb hr hts hown hlocks hml hK hA
  have hown : s0.vm.findClass R_Layout = some m.cls := hown
  have B43 : ∀ (K9 : St → Int32 → Int32 → Int32 → Int32 → Prop) (hK9 : ∀ (s : St) (x1 : Int32) (x2 : Int32) (x3 : Int32) (x4 : Int32), K9 s x1 x2 x3 x4 → Bk D vwCl (wX ad ca) A p l e { frames := 3, cells := 0, slots := 0, locals := 64 } s0 m args below meth c (MQ below (va_Qi Post (atG D vwCl (tyX ca) (wX ad ca) A) A) args s0 0 0 A) 5 9 s [(0, .ref (ad 7)), (1, .int x1), (2, .int x2), (3, .int x3), (4, .int x4)] []) (s : St) (x1 : Int32) (x2 : Int32) (x3 : Int32) (x4 : Int32), x_Layout_readWordGoals_43 K9 Post s x1 x2 x3 x4 → Bk D vwCl (wX ad ca) A p l e { frames := 3, cells := 0, slots := 0, locals := 64 } s0 m args below meth c (MQ below (va_Qi Post (atG D vwCl (tyX ca) (wX ad ca) A) A) args s0 0 0 A) 5 43 s [(0, .ref (ad 7)), (1, .int x1), (2, .int x2), (3, .int x3), (4, .int x4)] [] := by
    intro K9 hK9 s x1 x2 x3 x4 hm H locs ls hP hD hS hl
    unfold x_Layout_readWordGoals_43 at hm
    obtain ⟨v12, ev12⟩ : ∃ y : Int32, y = x4 + 1 := ⟨_, rfl⟩
    replace hm := hm v12 ev12
    refine lv_iinc (v := v12) (lv' := [(4, .int v12), (0, .ref (ad 7)), (1, .int x1), (2, .int x2), (3, .int x3)]) hx hb d_Layout_readWordGoals_43 hl (k := 4) rfl (by rw [ev12]; rfl) (by decide) rfl (fun ls hl => ?_)
    refine lv_goto (tgt := 9) hx hb d_Layout_readWordGoals_46 (by decide) ?_
    exact hK9 s x1 x2 x3 v12 hm H locs ls hP hD hS (lv_sub hl [1, 2, 3, 4, 0] rfl)
  have B9 : ∀ (n : Nat) (s : St) (x1 : Int32) (x2 : Int32) (x3 : Int32) (x4 : Int32), x_Layout_readWordGoals_9  Post n s x1 x2 x3 x4 → Bk D vwCl (wX ad ca) A p l e { frames := 3, cells := 0, slots := 0, locals := 64 } s0 m args below meth c (MQ below (va_Qi Post (atG D vwCl (tyX ca) (wX ad ca) A) A) args s0 0 0 A) 5 9 s [(0, .ref (ad 7)), (1, .int x1), (2, .int x2), (3, .int x3), (4, .int x4)] [] := by
    intro  n9
    induction n9 with
    | zero => intro s x1 x2 x3 x4 hm; exact hm.elim
    | succ n9 hK9 =>
      intro s x1 x2 x3 x4 hm H locs ls hP hD hS hl
      have hm : x_Layout_readWordGoals_9F  Post (fun s x1 x2 x3 x4 => x_Layout_readWordGoals_9  Post n9 s x1 x2 x3 x4) s x1 x2 x3 x4 := hm
      unfold x_Layout_readWordGoals_9F at hm
      refine lv_iload hx hb d_Layout_readWordGoals_9 (lv_at hl 4 rfl) ?_
      refine lv_iload_n hx hb d_Layout_readWordGoals_11 rfl (lv_at hl 3 rfl) ?_
      refine lv_icmp_ge (tgt := 49) hx hb d_Layout_readWordGoals_12 (by decide) (fun c3 => ?_) (fun c3 => ?_)
      · replace hm := hm.1 c3
        refine lv_iconst (v := 1) hx hb d_Layout_readWordGoals_49 (by decide) ?_
        exact rt_z hx hb hr hm.1 hlocks hK hP hD hS d_Layout_readWordGoals_50 hm.2
      · replace hm := hm.2 c3
        refine lv_iload_n hx hb d_Layout_readWordGoals_15 rfl (lv_at hl 2 rfl) ?_
        refine lv_iload hx hb d_Layout_readWordGoals_16 (lv_at hl 4 rfl) ?_
        refine cg_Si (As := [.int x2, .int x4]) (rest := []) ⟨hx, hb, hml, hown, hts⟩ hK hP hD hS hA (c_Opcodes_isGoalWord l D ad ca H.size s x2 x4 _ hm) (cwB 2 hts wd325 wd8 wd323 wd324 (by decide +kernel) ⟨Nat.le_of_ble_eq_true rfl, Nat.le_of_ble_eq_true rfl⟩) rfl hl rfl (Nat.le_of_ble_eq_true rfl) d_Layout_readWordGoals_18 (fun r4 s5 hm => ?_)
        intro H locs ls hP hD hS hl
        refine lv_if_eq (tgt := 43) hx hb d_Layout_readWordGoals_21 (by decide) (fun c6 => ?_) (fun c6 => ?_)
        · replace hm := hm.1 c6
          exact B43 (fun s x1 x2 x3 x4 => x_Layout_readWordGoals_9  Post n9 s x1 x2 x3 x4) hK9 s5 x1 x2 x3 x4 hm H locs ls hP hD hS (lv_sub hl [0, 1, 2, 3, 4] rfl)
        · replace hm := hm.2 c6
          refine lv_aload_n hx hb d_Layout_readWordGoals_24 rfl (lv_at hl 0 rfl) ?_
          refine lv_aload_n hx hb d_Layout_readWordGoals_25 rfl (lv_at hl 0 rfl) ?_
          refine va_get (D := D) (ci := 3) (v := .ref (ad 1)) (C := R_Layout) (T := T_Layout) (N := 16) hx hb hts in_Layout hown hK hP 7 rfl rfl 0 (by decide) (hts _ wd79) (fun _ h9 => h9) rfl d_Layout_readWordGoals_26 ?_
          refine lv_iload_n hx hb d_Layout_readWordGoals_29 rfl (lv_at hl 1 rfl) ?_
          refine lv_iload hx hb d_Layout_readWordGoals_30 (lv_at hl 4 rfl) ?_
          refine cg_Vi (b := (ad 1)) (As := [.int x1, .int x4]) (rest := [.ref (ad 7)]) ⟨hx, hb, hml, hown, hts⟩ hK hP hD hS hA (c_Source_wordGoal l D ad ca H.size s5 x1 x4 _ hm) (cwA 2 hts wd329 wd2 wd326 wd327 wd328 (by decide +kernel) ⟨Nat.le_of_ble_eq_true rfl, Nat.le_of_ble_eq_true rfl⟩) (va_recv hK hP (ci := 1) (q0 := 1) rfl rfl) rfl hl rfl (Nat.le_of_ble_eq_true rfl) d_Layout_readWordGoals_32 (fun r7 s8 hm => ?_)
          intro H locs ls hP hD hS hl
          refine cg_Vi (b := (ad 7)) (As := [.int r7]) (rest := []) ⟨hx, hb, hml, hown, hts⟩ hK hP hD hS hA (c_Layout_beginBlock l D ad ca H.size s8 r7 _ hm) (cwA 1 hts wd333 wd5 wd330 wd332 ws6 (by decide +kernel) ⟨Nat.le_of_ble_eq_true rfl, Nat.le_of_ble_eq_true rfl⟩) (va_recv hK hP (ci := 3) (q0 := 7) rfl rfl) rfl hl rfl (Nat.le_of_ble_eq_true rfl) d_Layout_readWordGoals_35 (fun r9 s10 hm => ?_)
          intro H locs ls hP hD hS hl
          refine lv_if_ne (tgt := 43) hx hb d_Layout_readWordGoals_38 (by decide) (fun c11 => ?_) (fun c11 => ?_)
          · replace hm := hm.1 c11
            exact B43 (fun s x1 x2 x3 x4 => x_Layout_readWordGoals_9  Post n9 s x1 x2 x3 x4) hK9 s10 x1 x2 x3 x4 hm H locs ls hP hD hS (lv_sub hl [0, 1, 2, 3, 4] rfl)
          · replace hm := hm.2 c11
            refine lv_iconst (v := 0) hx hb d_Layout_readWordGoals_41 (by decide) ?_
            exact rt_z hx hb hr hm.1 hlocks hK hP hD hS d_Layout_readWordGoals_42 hm.2
  intro H locs ls hP hD hS hl
  have hl : lv_has ls 5 [(0, .ref (ad 7)), (1, .int a1), (2, .int a2)] := hl
  unfold x_Layout_readWordGoals at hm
  refine lv_aload_n hx hb d_Layout_readWordGoals_0 rfl (lv_at hl 0 rfl) ?_
  refine lv_iload_n hx hb d_Layout_readWordGoals_1 rfl (lv_at hl 1 rfl) ?_
  refine cg_Vi (b := (ad 7)) (As := [.int a1]) (rest := []) ⟨hx, hb, hml, hown, hts⟩ hK hP hD hS hA (c_Layout_wordsOf l D ad ca H.size s a1 _ hm) (cwA 1 hts wd321 wd5 wd318 wd319 wd320 (by decide +kernel) ⟨Nat.le_of_ble_eq_true rfl, Nat.le_of_ble_eq_true rfl⟩) (va_recv hK hP (ci := 3) (q0 := 7) rfl rfl) rfl hl rfl (Nat.le_of_ble_eq_true rfl) d_Layout_readWordGoals_2 (fun r1 s2 hm => ?_)
  intro H locs ls hP hD hS hl
  refine lv_istore_n (lv' := [(3, .int r1), (0, .ref (ad 7)), (1, .int a1), (2, .int a2)]) hx hb d_Layout_readWordGoals_5 rfl hl (by decide) rfl (fun ls hl => ?_)
  refine lv_iconst (v := 0) hx hb d_Layout_readWordGoals_6 (by decide) ?_
  refine lv_istore (lv' := [(4, .int (0 : Int32)), (3, .int r1), (0, .ref (ad 7)), (1, .int a1), (2, .int a2)]) hx hb d_Layout_readWordGoals_7 hl (by decide) rfl (fun ls hl => ?_)
  obtain ⟨n9, hm⟩ := hm
  exact B9  n9 s2 a1 a2 r1 (0 : Int32) hm H locs ls hP hD hS (lv_sub hl [2, 3, 4, 1, 0] rfl)
set_option maxHeartbeats 4000000 in
set_option maxRecDepth 100000 in
theorem c_Source_s2 (l : Launch) (D : va_G) (ad : Nat → Nat) (ca : Nat → ClassId) (sz : Nat) (s : St) (a1 : Int32) (Post : Int32 → St → Prop) (hm : x_Source_s2 s a1 Post) : CtI l y_Source_s2 w_Source_s2 { frames := 1, cells := 0, slots := 0, locals := 21 } D vwCl (tyX ca) (wX ad ca) sz [.ref (ad 1), .int a1] s Post := by
  refine ct_i (cc := prog_5_method_6_code) (maxL := 2) (ret := (some .int)) (by decide) rfl (Nat.le_of_ble_eq_true rfl) ?_
  intro p e s0 m args below meth c A hx hb hr hts hown hlocks hml hK hA
  have hown : s0.vm.findClass R_Source = some m.cls := hown
  intro H locs ls hP hD hS hl
  have hl : lv_has ls 2 [(0, .ref (ad 1)), (1, .int a1)] := hl
  unfold x_Source_s2 at hm
  refine lv_aload_n hx hb d_Source_s2_0 rfl (lv_at hl 0 rfl) ?_
  refine lv_iload_n hx hb d_Source_s2_1 rfl (lv_at hl 1 rfl) ?_
  refine cg_Vi (b := (ad 1)) (As := [.int a1]) (rest := []) ⟨hx, hb, hml, hown, hts⟩ hK hP hD hS hA (c_Source_u1 l D ad ca H.size s a1 _ hm) (cwA 1 hts wd275 wd2 wd272 wd273 wd274 (by decide +kernel) ⟨Nat.le_of_ble_eq_true rfl, Nat.le_of_ble_eq_true rfl⟩) (va_recv hK hP (ci := 1) (q0 := 1) rfl rfl) rfl hl rfl (Nat.le_of_ble_eq_true rfl) d_Source_s2_2 (fun r1 s2 hm => ?_)
  intro H locs ls hP hD hS hl
  refine lv_bipush (v := 8) hx hb d_Source_s2_5 (by decide) ?_
  refine lv_ishl hx hb d_Source_s2_7 ?_
  refine lv_aload_n hx hb d_Source_s2_8 rfl (lv_at hl 0 rfl) ?_
  refine lv_iload_n hx hb d_Source_s2_9 rfl (lv_at hl 1 rfl) ?_
  refine lv_iconst (v := 1) hx hb d_Source_s2_10 (by decide) ?_
  refine lv_iadd hx hb d_Source_s2_11 ?_
  refine cg_Vi (b := (ad 1)) (As := [.int (a1 + (1 : Int32))]) (rest := [.int (r1 <<< ((8 : Int32) &&& 31))]) ⟨hx, hb, hml, hown, hts⟩ hK hP hD hS hA (c_Source_u1 l D ad ca H.size s2 (a1 + (1 : Int32)) _ hm) (cwA 1 hts wd275 wd2 wd272 wd273 wd274 (by decide +kernel) ⟨Nat.le_of_ble_eq_true rfl, Nat.le_of_ble_eq_true rfl⟩) (va_recv hK hP (ci := 1) (q0 := 1) rfl rfl) rfl hl rfl (Nat.le_of_ble_eq_true rfl) d_Source_s2_12 (fun r3 s4 hm => ?_)
  intro H locs ls hP hD hS hl
  refine lv_ior hx hb d_Source_s2_15 ?_
  refine lv_i2s (v := (((r1 <<< ((8 : Int32) &&& 31)) ||| r3)).toInt16.toInt32) hx hb d_Source_s2_16 rfl ?_
  exact rt_i hx hb hr hlocks hK hP hD hS d_Source_s2_17 hm
set_option maxHeartbeats 4000000 in
set_option maxRecDepth 100000 in
theorem c_Source_jumpGoal (l : Launch) (D : va_G) (ad : Nat → Nat) (ca : Nat → ClassId) (sz : Nat) (s : St) (a1 : Int32) (Post : Int32 → St → Prop) (hm : x_Source_jumpGoal s a1 Post) : CtI l y_Source_jumpGoal w_Source_jumpGoal { frames := 2, cells := 0, slots := 0, locals := 42 } D vwCl (tyX ca) (wX ad ca) sz [.ref (ad 1), .int a1] s Post := by
  refine ct_i (cc := prog_5_method_12_code) (maxL := 2) (ret := (some .int)) (by decide) rfl (Nat.le_of_ble_eq_true rfl) ?_
  intro p e s0 m args below meth c A hx hb hr hts hown hlocks hml hK hA
  have hown : s0.vm.findClass R_Source = some m.cls := hown
  intro H locs ls hP hD hS hl
  have hl : lv_has ls 2 [(0, .ref (ad 1)), (1, .int a1)] := hl
  unfold x_Source_jumpGoal at hm
  refine lv_iload_n hx hb d_Source_jumpGoal_0 rfl (lv_at hl 1 rfl) ?_
  refine lv_aload_n hx hb d_Source_jumpGoal_1 rfl (lv_at hl 0 rfl) ?_
  refine lv_iload_n hx hb d_Source_jumpGoal_2 rfl (lv_at hl 1 rfl) ?_
  refine cg_Vi (b := (ad 1)) (As := [.int a1]) (rest := [.int a1]) ⟨hx, hb, hml, hown, hts⟩ hK hP hD hS hA (c_Source_u1 l D ad ca H.size s a1 _ hm) (cwA 1 hts wd275 wd2 wd272 wd273 wd274 (by decide +kernel) ⟨Nat.le_of_ble_eq_true rfl, Nat.le_of_ble_eq_true rfl⟩) (va_recv hK hP (ci := 1) (q0 := 1) rfl rfl) rfl hl rfl (Nat.le_of_ble_eq_true rfl) d_Source_jumpGoal_3 (fun r1 s2 hm => ?_)
  intro H locs ls hP hD hS hl
  refine lv_sipush (v := 200) hx hb d_Source_jumpGoal_6 (by decide) ?_
  refine lv_icmp_ne (tgt := 22) hx hb d_Source_jumpGoal_9 (by decide) (fun c3 => ?_) (fun c3 => ?_)
  · replace hm := hm.1 c3
    refine lv_aload_n hx hb d_Source_jumpGoal_22 rfl (lv_at hl 0 rfl) ?_
    refine lv_iload_n hx hb d_Source_jumpGoal_23 rfl (lv_at hl 1 rfl) ?_
    refine lv_iconst (v := 1) hx hb d_Source_jumpGoal_24 (by decide) ?_
    refine lv_iadd hx hb d_Source_jumpGoal_25 ?_
    refine cg_Vi (b := (ad 1)) (As := [.int (a1 + (1 : Int32))]) (rest := [.int a1]) ⟨hx, hb, hml, hown, hts⟩ hK hP hD hS hA (c_Source_s2 l D ad ca H.size s2 (a1 + (1 : Int32)) _ hm) (cwA 1 hts wd346 wd2 wd343 wd344 wd345 (by decide +kernel) ⟨Nat.le_of_ble_eq_true rfl, Nat.le_of_ble_eq_true rfl⟩) (va_recv hK hP (ci := 1) (q0 := 1) rfl rfl) rfl hl rfl (Nat.le_of_ble_eq_true rfl) d_Source_jumpGoal_26 (fun r4 s5 hm => ?_)
    intro H locs ls hP hD hS hl
    refine lv_iadd hx hb d_Source_jumpGoal_29 ?_
    exact rt_i hx hb hr hlocks hK hP hD hS d_Source_jumpGoal_30 hm
  · replace hm := hm.2 c3
    refine lv_aload_n hx hb d_Source_jumpGoal_12 rfl (lv_at hl 0 rfl) ?_
    refine lv_iload_n hx hb d_Source_jumpGoal_13 rfl (lv_at hl 1 rfl) ?_
    refine lv_iconst (v := 1) hx hb d_Source_jumpGoal_14 (by decide) ?_
    refine lv_iadd hx hb d_Source_jumpGoal_15 ?_
    refine cg_Vi (b := (ad 1)) (As := [.int (a1 + (1 : Int32))]) (rest := [.int a1]) ⟨hx, hb, hml, hown, hts⟩ hK hP hD hS hA (c_Source_s4 l D ad ca H.size s2 (a1 + (1 : Int32)) _ hm) (cwA 1 hts wd299 wd2 wd296 wd297 wd298 (by decide +kernel) ⟨Nat.le_of_ble_eq_true rfl, Nat.le_of_ble_eq_true rfl⟩) (va_recv hK hP (ci := 1) (q0 := 1) rfl rfl) rfl hl rfl (Nat.le_of_ble_eq_true rfl) d_Source_jumpGoal_16 (fun r6 s7 hm => ?_)
    intro H locs ls hP hD hS hl
    refine lv_goto (tgt := 29) hx hb d_Source_jumpGoal_19 (by decide) ?_
    refine lv_iadd hx hb d_Source_jumpGoal_29 ?_
    exact rt_i hx hb hr hlocks hK hP hD hS d_Source_jumpGoal_30 hm
set_option maxHeartbeats 4000000 in
set_option maxRecDepth 100000 in
theorem c_Layout_readGoals (l : Launch) (D : va_G) (ad : Nat → Nat) (ca : Nat → ClassId) (sz : Nat) (s : St) (Post : Int32 → St → Prop) (hm : x_Layout_readGoals s  Post) : CtI l y_Layout_readGoals w_Layout_readGoals { frames := 4, cells := 0, slots := 0, locals := 88 } D vwCl (tyX ca) (wX ad ca) sz [.ref (ad 7)] s Post := by
  refine ct_i (cc := prog_2_method_6_code) (maxL := 5) (ret := (some .boolean)) (by decide) rfl (Nat.le_of_ble_eq_true rfl) ?_
  intro p e s0 m args below meth c A hx hb hr hts hown hlocks hml hK hA
  have hown : s0.vm.findClass R_Layout = some m.cls := hown
  have B75 : ∀ (K2 : St → Int32 → Prop) (hK2 : ∀ (s : St) (x1 : Int32), K2 s x1 → Bk D vwCl (wX ad ca) A p l e { frames := 4, cells := 0, slots := 0, locals := 88 } s0 m args below meth c (MQ below (va_Qi Post (atG D vwCl (tyX ca) (wX ad ca) A) A) args s0 0 0 A) 5 2 s [(0, .ref (ad 7)), (1, .int x1)] []) (s : St) (x1 : Int32) (x4 : Int32), x_Layout_readGoals_75 K2 Post s x1 x4 → Bk D vwCl (wX ad ca) A p l e { frames := 4, cells := 0, slots := 0, locals := 88 } s0 m args below meth c (MQ below (va_Qi Post (atG D vwCl (tyX ca) (wX ad ca) A) A) args s0 0 0 A) 5 75 s [(0, .ref (ad 7)), (1, .int x1), (4, .int x4)] [] := by
    intro K2 hK2 s x1 x4 hm H locs ls hP hD hS hl
    unfold x_Layout_readGoals_75 at hm
    refine lv_iload hx hb d_Layout_readGoals_75 (lv_at hl 2 rfl) ?_
    refine lv_if_ne (tgt := 82) hx hb d_Layout_readGoals_77 (by decide) (fun c15 => ?_) (fun c15 => ?_)
    · replace hm := hm.1 c15
      obtain ⟨v16, ev16⟩ : ∃ y : Int32, y = x1 + 1 := ⟨_, rfl⟩
      replace hm := hm v16 ev16
      refine lv_iinc (v := v16) (lv' := [(1, .int v16), (0, .ref (ad 7)), (4, .int x4)]) hx hb d_Layout_readGoals_82 hl (k := 1) rfl (by rw [ev16]; rfl) (by decide) rfl (fun ls hl => ?_)
      refine lv_goto (tgt := 2) hx hb d_Layout_readGoals_85 (by decide) ?_
      exact hK2 s v16 hm H locs ls hP hD hS (lv_sub hl [1, 0] rfl)
    · replace hm := hm.2 c15
      refine lv_iconst (v := 0) hx hb d_Layout_readGoals_80 (by decide) ?_
      exact rt_z hx hb hr hm.1 hlocks hK hP hD hS d_Layout_readGoals_81 hm.2
  have B61 : ∀ (K2 : St → Int32 → Prop) (hK2 : ∀ (s : St) (x1 : Int32), K2 s x1 → Bk D vwCl (wX ad ca) A p l e { frames := 4, cells := 0, slots := 0, locals := 88 } s0 m args below meth c (MQ below (va_Qi Post (atG D vwCl (tyX ca) (wX ad ca) A) A) args s0 0 0 A) 5 2 s [(0, .ref (ad 7)), (1, .int x1)] []) (s : St) (x1 : Int32) (x2 : Int32), x_Layout_readGoals_61 K2 Post s x1 x2 → Bk D vwCl (wX ad ca) A p l e { frames := 4, cells := 0, slots := 0, locals := 88 } s0 m args below meth c (MQ below (va_Qi Post (atG D vwCl (tyX ca) (wX ad ca) A) A) args s0 0 0 A) 5 61 s [(0, .ref (ad 7)), (1, .int x1), (2, .int x2)] [] := by
    intro K2 hK2 s x1 x2 hm H locs ls hP hD hS hl
    unfold x_Layout_readGoals_61 at hm
    refine lv_aload_n hx hb d_Layout_readGoals_61 rfl (lv_at hl 0 rfl) ?_
    refine lv_aload_n hx hb d_Layout_readGoals_62 rfl (lv_at hl 0 rfl) ?_
    refine va_get (D := D) (ci := 3) (v := .ref (ad 1)) (C := R_Layout) (T := T_Layout) (N := 16) hx hb hts in_Layout hown hK hP 7 rfl rfl 0 (by decide) (hts _ wd79) (fun _ h9 => h9) rfl d_Layout_readGoals_63 ?_
    refine lv_iload_n hx hb d_Layout_readGoals_66 rfl (lv_at hl 2 rfl) ?_
    refine cg_Vi (b := (ad 1)) (As := [.int x2]) (rest := [.ref (ad 7)]) ⟨hx, hb, hml, hown, hts⟩ hK hP hD hS hA (c_Source_jumpGoal l D ad ca H.size s x2 _ hm) (cwA 1 hts wd342 wd2 wd339 wd340 wd341 (by decide +kernel) ⟨Nat.le_of_ble_eq_true rfl, Nat.le_of_ble_eq_true rfl⟩) (va_recv hK hP (ci := 1) (q0 := 1) rfl rfl) rfl hl rfl (Nat.le_of_ble_eq_true rfl) d_Layout_readGoals_67 (fun r17 s18 hm => ?_)
    intro H locs ls hP hD hS hl
    refine cg_Vi (b := (ad 7)) (As := [.int r17]) (rest := []) ⟨hx, hb, hml, hown, hts⟩ hK hP hD hS hA (c_Layout_beginBlock l D ad ca H.size s18 r17 _ hm) (cwA 1 hts wd333 wd5 wd330 wd332 ws6 (by decide +kernel) ⟨Nat.le_of_ble_eq_true rfl, Nat.le_of_ble_eq_true rfl⟩) (va_recv hK hP (ci := 3) (q0 := 7) rfl rfl) rfl hl rfl (Nat.le_of_ble_eq_true rfl) d_Layout_readGoals_70 (fun r19 s20 hm => ?_)
    intro H locs ls hP hD hS hl
    refine lv_istore (lv' := [(4, .int r19), (0, .ref (ad 7)), (1, .int x1), (2, .int x2)]) hx hb d_Layout_readGoals_73 hl (by decide) rfl (fun ls hl => ?_)
    exact B75 K2 hK2 s20 x1 r19 hm H locs ls hP hD hS (lv_sub hl [1, 2, 0] rfl)
  have B2 : ∀ (n : Nat) (s : St) (x1 : Int32), x_Layout_readGoals_2  Post n s x1 → Bk D vwCl (wX ad ca) A p l e { frames := 4, cells := 0, slots := 0, locals := 88 } s0 m args below meth c (MQ below (va_Qi Post (atG D vwCl (tyX ca) (wX ad ca) A) A) args s0 0 0 A) 5 2 s [(0, .ref (ad 7)), (1, .int x1)] [] := by
    intro  n2
    induction n2 with
    | zero => intro s x1 hm; exact hm.elim
    | succ n2 hK2 =>
      intro s x1 hm H locs ls hP hD hS hl
      have hm : x_Layout_readGoals_2F  Post (fun s x1 => x_Layout_readGoals_2  Post n2 s x1) s x1 := hm
      unfold x_Layout_readGoals_2F at hm
      refine lv_iload_n hx hb d_Layout_readGoals_2 rfl (lv_at hl 1 rfl) ?_
      refine lv_aload_n hx hb d_Layout_readGoals_3 rfl (lv_at hl 0 rfl) ?_
      refine va_get (D := D) (ci := 3) (v := .int (s 15 5)) (C := R_Layout) (T := T_Layout) (N := 16) hx hb hts in_Layout hown hK hP 7 rfl rfl 11 (by decide) (hts _ wd105) (fun _ h9 => h9) rfl d_Layout_readGoals_4 ?_
      refine lv_icmp_ge (tgt := 88) hx hb d_Layout_readGoals_7 (by decide) (fun c1 => ?_) (fun c1 => ?_)
      · replace hm := hm.1 c1
        refine lv_iconst (v := 1) hx hb d_Layout_readGoals_88 (by decide) ?_
        exact rt_z hx hb hr hm.1 hlocks hK hP hD hS d_Layout_readGoals_89 hm.2
      · replace hm := hm.2 c1
        refine lv_aload_n hx hb d_Layout_readGoals_10 rfl (lv_at hl 0 rfl) ?_
        refine va_get (D := D) (ci := 3) (v := .ref (ad 8)) (C := R_Layout) (T := T_Layout) (N := 16) hx hb hts in_Layout hown hK hP 7 rfl rfl 2 (by decide) (hts _ wd81) (fun _ h9 => h9) rfl d_Layout_readGoals_11 ?_
        refine lv_iload_n hx hb d_Layout_readGoals_14 rfl (lv_at hl 1 rfl) ?_
        obtain ⟨h2, hm⟩ := hm
        refine va_iald hx hb hK hP 8 4 rfl rfl h2 d_Layout_readGoals_15 ?_
        refine lv_topi (fun v3 ev3 => ?_)
        replace hm := hm v3 ev3
        refine lv_istore_n (lv' := [(2, .int v3), (0, .ref (ad 7)), (1, .int x1)]) hx hb d_Layout_readGoals_16 rfl hl (by decide) rfl (fun ls hl => ?_)
        refine lv_aload_n hx hb d_Layout_readGoals_17 rfl (lv_at hl 1 rfl) ?_
        refine va_get (D := D) (ci := 3) (v := .ref (ad 1)) (C := R_Layout) (T := T_Layout) (N := 16) hx hb hts in_Layout hown hK hP 7 rfl rfl 0 (by decide) (hts _ wd79) (fun _ h9 => h9) rfl d_Layout_readGoals_18 ?_
        refine lv_iload_n hx hb d_Layout_readGoals_21 rfl (lv_at hl 0 rfl) ?_
        refine cg_Vi (b := (ad 1)) (As := [.int v3]) (rest := []) ⟨hx, hb, hml, hown, hts⟩ hK hP hD hS hA (c_Source_u1 l D ad ca H.size s v3 _ hm) (cwA 1 hts wd275 wd2 wd308 wd273 wd274 (by decide +kernel) ⟨Nat.le_of_ble_eq_true rfl, Nat.le_of_ble_eq_true rfl⟩) (va_recv hK hP (ci := 1) (q0 := 1) rfl rfl) rfl hl rfl (Nat.le_of_ble_eq_true rfl) d_Layout_readGoals_22 (fun r4 s5 hm => ?_)
        intro H locs ls hP hD hS hl
        refine lv_istore_n (lv' := [(3, .int r4), (2, .int v3), (0, .ref (ad 7)), (1, .int x1)]) hx hb d_Layout_readGoals_25 rfl hl (by decide) rfl (fun ls hl => ?_)
        refine lv_iconst (v := 1) hx hb d_Layout_readGoals_26 (by decide) ?_
        refine lv_istore (lv' := [(4, .int (1 : Int32)), (3, .int r4), (2, .int v3), (0, .ref (ad 7)), (1, .int x1)]) hx hb d_Layout_readGoals_27 hl (by decide) rfl (fun ls hl => ?_)
        refine lv_iload_n hx hb d_Layout_readGoals_29 rfl (lv_at hl 1 rfl) ?_
        refine cg_Si (As := [.int r4]) (rest := []) ⟨hx, hb, hml, hown, hts⟩ hK hP hD hS hA (c_Opcodes_isSwitch l D ad ca H.size s5 r4 _ hm) (cwB 1 hts wd288 wd8 wd313 wd287 (by decide +kernel) ⟨Nat.le_of_ble_eq_true rfl, Nat.le_of_ble_eq_true rfl⟩) rfl hl rfl (Nat.le_of_ble_eq_true rfl) d_Layout_readGoals_30 (fun r6 s7 hm => ?_)
        intro H locs ls hP hD hS hl
        refine lv_if_eq (tgt := 47) hx hb d_Layout_readGoals_33 (by decide) (fun c8 => ?_) (fun c8 => ?_)
        · replace hm := hm.1 c8
          refine lv_iload_n hx hb d_Layout_readGoals_47 rfl (lv_at hl 1 rfl) ?_
          refine cg_Si (As := [.int r4]) (rest := []) ⟨hx, hb, hml, hown, hts⟩ hK hP hD hS hA (c_Opcodes_isShortJump l D ad ca H.size s7 r4 _ hm) (cwB 1 hts wd307 wd8 wd338 wd306 (by decide +kernel) ⟨Nat.le_of_ble_eq_true rfl, Nat.le_of_ble_eq_true rfl⟩) rfl hl rfl (Nat.le_of_ble_eq_true rfl) d_Layout_readGoals_48 (fun r9 s10 hm => ?_)
          intro H locs ls hP hD hS hl
          refine lv_if_ne (tgt := 61) hx hb d_Layout_readGoals_51 (by decide) (fun c11 => ?_) (fun c11 => ?_)
          · replace hm := hm.1 c11
            exact B61 (fun s x1 => x_Layout_readGoals_2  Post n2 s x1) hK2 s10 x1 v3 hm H locs ls hP hD hS (lv_sub hl [3, 4, 2] rfl)
          · replace hm := hm.2 c11
            refine lv_iload_n hx hb d_Layout_readGoals_54 rfl (lv_at hl 1 rfl) ?_
            refine lv_sipush (v := 200) hx hb d_Layout_readGoals_55 (by decide) ?_
            refine lv_icmp_ne (tgt := 75) hx hb d_Layout_readGoals_58 (by decide) (fun c12 => ?_) (fun c12 => ?_)
            · replace hm := hm.1 c12
              exact B75 (fun s x1 => x_Layout_readGoals_2  Post n2 s x1) hK2 s10 x1 (1 : Int32) hm H locs ls hP hD hS (lv_sub hl [3, 4, 0] rfl)
            · replace hm := hm.2 c12
              exact B61 (fun s x1 => x_Layout_readGoals_2  Post n2 s x1) hK2 s10 x1 v3 hm H locs ls hP hD hS (lv_sub hl [3, 4, 2] rfl)
        · replace hm := hm.2 c8
          refine lv_aload_n hx hb d_Layout_readGoals_36 rfl (lv_at hl 3 rfl) ?_
          refine lv_iload_n hx hb d_Layout_readGoals_37 rfl (lv_at hl 2 rfl) ?_
          refine lv_iload_n hx hb d_Layout_readGoals_38 rfl (lv_at hl 1 rfl) ?_
          refine cg_Vi (b := (ad 7)) (As := [.int v3, .int r4]) (rest := []) ⟨hx, hb, hml, hown, hts⟩ hK hP hD hS hA (c_Layout_readWordGoals l D ad ca H.size s7 v3 r4 _ hm) (cwA 2 hts wd317 wd5 wd314 wd316 ws5 (by decide +kernel) ⟨Nat.le_of_ble_eq_true rfl, Nat.le_of_ble_eq_true rfl⟩) (va_recv hK hP (ci := 3) (q0 := 7) rfl rfl) rfl hl rfl (Nat.le_of_ble_eq_true rfl) d_Layout_readGoals_39 (fun r13 s14 hm => ?_)
          intro H locs ls hP hD hS hl
          refine lv_istore (lv' := [(4, .int r13), (3, .int r4), (2, .int v3), (0, .ref (ad 7)), (1, .int x1)]) hx hb d_Layout_readGoals_42 hl (by decide) rfl (fun ls hl => ?_)
          refine lv_goto (tgt := 75) hx hb d_Layout_readGoals_44 (by decide) ?_
          exact B75 (fun s x1 => x_Layout_readGoals_2  Post n2 s x1) hK2 s14 x1 r13 hm H locs ls hP hD hS (lv_sub hl [3, 4, 0] rfl)
  intro H locs ls hP hD hS hl
  have hl : lv_has ls 5 [(0, .ref (ad 7))] := hl
  unfold x_Layout_readGoals at hm
  refine lv_iconst (v := 0) hx hb d_Layout_readGoals_0 (by decide) ?_
  refine lv_istore_n (lv' := [(1, .int (0 : Int32)), (0, .ref (ad 7))]) hx hb d_Layout_readGoals_1 rfl hl (by decide) rfl (fun ls hl => ?_)
  obtain ⟨n2, hm⟩ := hm
  exact B2  n2 s (0 : Int32) hm H locs ls hP hD hS (lv_sub hl [1, 0] rfl)
set_option maxHeartbeats 4000000 in
set_option maxRecDepth 100000 in
theorem c_Source_part (l : Launch) (D : va_G) (ad : Nat → Nat) (ca : Nat → ClassId) (sz : Nat) (s : St) (a1 : Int32) (a2 : Int32) (Post : Int32 → St → Prop) (hm : x_Source_part s a1 a2 Post) : CtI l y_Source_part w_Source_part { frames := 0, cells := 0, slots := 0, locals := 0 } D vwCl (tyX ca) (wX ad ca) sz [.ref (ad 1), .int a1, .int a2] s Post := by
  refine ct_i (cc := prog_5_method_4_code) (maxL := 3) (ret := (some .int)) (by decide) rfl (Nat.le_of_ble_eq_true rfl) ?_
  intro p e s0 m args below meth c A hx hb hr hts hown hlocks hml hK hA
  have hown : s0.vm.findClass R_Source = some m.cls := hown
  intro H locs ls hP hD hS hl
  have hl : lv_has ls 3 [(0, .ref (ad 1)), (1, .int a1), (2, .int a2)] := hl
  unfold x_Source_part at hm
  refine lv_aload_n hx hb d_Source_part_0 rfl (lv_at hl 0 rfl) ?_
  refine va_get (D := D) (ci := 1) (v := .ref (ad 3)) (C := R_Source) (T := T_Source) (N := 4) hx hb hts in_Source hown hK hP 1 rfl rfl 1 (by decide) (hts _ wd25) (fun _ h9 => h9) rfl d_Source_part_1 ?_
  refine lv_iload_n hx hb d_Source_part_4 rfl (lv_at hl 1 rfl) ?_
  refine lv_iconst (v := 4) hx hb d_Source_part_5 (by decide) ?_
  refine lv_imul hx hb d_Source_part_6 ?_
  refine lv_iload_n hx hb d_Source_part_7 rfl (lv_at hl 2 rfl) ?_
  refine lv_iadd hx hb d_Source_part_8 ?_
  obtain ⟨h1, hm⟩ := hm
  refine va_iald hx hb hK hP 3 1 rfl rfl h1 d_Source_part_9 ?_
  exact rt_i hx hb hr hlocks hK hP hD hS d_Source_part_10 hm
set_option maxHeartbeats 4000000 in
set_option maxRecDepth 100000 in
theorem c_Tariff_isDangerous (l : Launch) (D : va_G) (ad : Nat → Nat) (ca : Nat → ClassId) (sz : Nat) (s : St) (a1 : Int32) (Post : Int32 → St → Prop) (hm : x_Tariff_isDangerous s a1 Post) : CtI l y_Tariff_isDangerous w_Tariff_isDangerous { frames := 0, cells := 0, slots := 0, locals := 0 } D vwCl (tyX ca) (wX ad ca) sz [.ref (ad 4), .int a1] s Post := by
  refine ct_i (cc := prog_6_method_2_code) (maxL := 2) (ret := (some .boolean)) (by decide) rfl (Nat.le_of_ble_eq_true rfl) ?_
  intro p e s0 m args below meth c A hx hb hr hts hown hlocks hml hK hA
  have hown : s0.vm.findClass R_Tariff = some m.cls := hown
  have B13 : ∀ (s : St), x_Tariff_isDangerous_13  Post s → Bk D vwCl (wX ad ca) A p l e { frames := 0, cells := 0, slots := 0, locals := 0 } s0 m args below meth c (MQ below (va_Qi Post (atG D vwCl (tyX ca) (wX ad ca) A) A) args s0 0 0 A) 2 13 s [] [] := by
    intro  s hm H locs ls hP hD hS hl
    unfold x_Tariff_isDangerous_13 at hm
    refine lv_iconst (v := 1) hx hb d_Tariff_isDangerous_13 (by decide) ?_
    refine lv_goto (tgt := 18) hx hb d_Tariff_isDangerous_14 (by decide) ?_
    exact rt_z hx hb hr hm.1 hlocks hK hP hD hS d_Tariff_isDangerous_18 hm.2
  intro H locs ls hP hD hS hl
  have hl : lv_has ls 2 [(0, .ref (ad 4)), (1, .int a1)] := hl
  unfold x_Tariff_isDangerous at hm
  refine lv_iload_n hx hb d_Tariff_isDangerous_0 rfl (lv_at hl 1 rfl) ?_
  refine lv_if_eq (tgt := 13) hx hb d_Tariff_isDangerous_1 (by decide) (fun c1 => ?_) (fun c1 => ?_)
  · replace hm := hm.1 c1
    exact B13  s hm H locs ls hP hD hS (lv_sub hl [] rfl)
  · replace hm := hm.2 c1
    refine lv_aload_n hx hb d_Tariff_isDangerous_4 rfl (lv_at hl 0 rfl) ?_
    refine va_get (D := D) (ci := 2) (v := .ref (ad 6)) (C := R_Tariff) (T := T_Tariff) (N := 4) hx hb hts in_Tariff hown hK hP 4 rfl rfl 1 (by decide) (hts _ wd55) (fun _ h9 => h9) rfl d_Tariff_isDangerous_5 ?_
    refine lv_iload_n hx hb d_Tariff_isDangerous_8 rfl (lv_at hl 1 rfl) ?_
    obtain ⟨h2, hm⟩ := hm
    refine va_zald hx hb hK hP 6 3 rfl rfl h2 d_Tariff_isDangerous_9 ?_
    refine lv_if_eq (tgt := 17) hx hb d_Tariff_isDangerous_10 (by decide) (fun c3 => ?_) (fun c3 => ?_)
    · replace hm := hm.1 c3
      refine lv_iconst (v := 0) hx hb d_Tariff_isDangerous_17 (by decide) ?_
      exact rt_z hx hb hr hm.1 hlocks hK hP hD hS d_Tariff_isDangerous_18 hm.2
    · replace hm := hm.2 c3
      exact B13  s hm H locs ls hP hD hS (lv_sub hl [] rfl)
set_option maxHeartbeats 4000000 in
set_option maxRecDepth 100000 in
theorem c_Layout_readHandlers (l : Launch) (D : va_G) (ad : Nat → Nat) (ca : Nat → ClassId) (sz : Nat) (s : St) (Post : Int32 → St → Prop) (hm : x_Layout_readHandlers s  Post) : CtI l y_Layout_readHandlers w_Layout_readHandlers { frames := 2, cells := 0, slots := 0, locals := 42 } D vwCl (tyX ca) (wX ad ca) sz [.ref (ad 7)] s Post := by
  refine ct_i (cc := prog_2_method_10_code) (maxL := 6) (ret := (some .boolean)) (by decide) rfl (Nat.le_of_ble_eq_true rfl) ?_
  intro p e s0 m args below meth c A hx hb hr hts hown hlocks hml hK hA
  have hown : s0.vm.findClass R_Layout = some m.cls := hown
  have B126 : ∀ (K2 : St → Int32 → Prop) (hK2 : ∀ (s : St) (x1 : Int32), K2 s x1 → Bk D vwCl (wX ad ca) A p l e { frames := 2, cells := 0, slots := 0, locals := 42 } s0 m args below meth c (MQ below (va_Qi Post (atG D vwCl (tyX ca) (wX ad ca) A) A) args s0 0 0 A) 6 2 s [(0, .ref (ad 7)), (1, .int x1)] []) (s : St) (x1 : Int32), x_Layout_readHandlers_126 K2 Post s x1 → Bk D vwCl (wX ad ca) A p l e { frames := 2, cells := 0, slots := 0, locals := 42 } s0 m args below meth c (MQ below (va_Qi Post (atG D vwCl (tyX ca) (wX ad ca) A) A) args s0 0 0 A) 6 126 s [(0, .ref (ad 7)), (1, .int x1)] [] := by
    intro K2 hK2 s x1 hm H locs ls hP hD hS hl
    unfold x_Layout_readHandlers_126 at hm
    obtain ⟨v27, ev27⟩ : ∃ y : Int32, y = x1 + 1 := ⟨_, rfl⟩
    replace hm := hm v27 ev27
    refine lv_iinc (v := v27) (lv' := [(1, .int v27), (0, .ref (ad 7))]) hx hb d_Layout_readHandlers_126 hl (k := 1) rfl (by rw [ev27]; rfl) (by decide) rfl (fun ls hl => ?_)
    refine lv_goto (tgt := 2) hx hb d_Layout_readHandlers_129 (by decide) ?_
    exact hK2 s v27 hm H locs ls hP hD hS (lv_sub hl [1, 0] rfl)
  have B68 : ∀ (K2 : St → Int32 → Prop) (hK2 : ∀ (s : St) (x1 : Int32), K2 s x1 → Bk D vwCl (wX ad ca) A p l e { frames := 2, cells := 0, slots := 0, locals := 42 } s0 m args below meth c (MQ below (va_Qi Post (atG D vwCl (tyX ca) (wX ad ca) A) A) args s0 0 0 A) 6 2 s [(0, .ref (ad 7)), (1, .int x1)] []) (s : St) (x1 : Int32) (x2 : Int32) (x3 : Int32) (x4 : Int32) (y0 : Int32), x_Layout_readHandlers_68 K2 Post s x1 x2 x3 x4 y0 → Bk D vwCl (wX ad ca) A p l e { frames := 2, cells := 0, slots := 0, locals := 42 } s0 m args below meth c (MQ below (va_Qi Post (atG D vwCl (tyX ca) (wX ad ca) A) A) args s0 0 0 A) 6 68 s [(0, .ref (ad 7)), (1, .int x1), (2, .int x2), (3, .int x3), (4, .int x4)] [.int y0] := by
    intro K2 hK2 s x1 x2 x3 x4 y0 hm H locs ls hP hD hS hl
    unfold x_Layout_readHandlers_68 at hm
    refine lv_istore (lv' := [(5, .int y0), (0, .ref (ad 7)), (1, .int x1), (2, .int x2), (3, .int x3), (4, .int x4)]) hx hb d_Layout_readHandlers_68 hl (by decide) rfl (fun ls hl => ?_)
    refine lv_aload_n hx hb d_Layout_readHandlers_70 rfl (lv_at hl 1 rfl) ?_
    refine lv_iload_n hx hb d_Layout_readHandlers_71 rfl (lv_at hl 3 rfl) ?_
    refine cg_Vi (b := (ad 7)) (As := [.int x2]) (rest := []) ⟨hx, hb, hml, hown, hts⟩ hK hP hD hS hA (c_Layout_begins l D ad ca H.size s x2 _ hm) (cwA 1 hts wd337 wd5 wd334 wd335 wd336 (by decide +kernel) ⟨Nat.le_of_ble_eq_true rfl, Nat.le_of_ble_eq_true rfl⟩) (va_recv hK hP (ci := 3) (q0 := 7) rfl rfl) rfl hl rfl (Nat.le_of_ble_eq_true rfl) d_Layout_readHandlers_72 (fun r12 s13 hm => ?_)
    intro H locs ls hP hD hS hl
    refine lv_if_eq (tgt := 97) hx hb d_Layout_readHandlers_75 (by decide) (fun c14 => ?_) (fun c14 => ?_)
    · replace hm := hm.1 c14
      refine lv_iconst (v := 0) hx hb d_Layout_readHandlers_97 (by decide) ?_
      exact rt_z hx hb hr hm.1 hlocks hK hP hD hS d_Layout_readHandlers_98 hm.2
    · replace hm := hm.2 c14
      refine lv_iload hx hb d_Layout_readHandlers_78 (lv_at hl 0 rfl) ?_
      refine lv_if_eq (tgt := 97) hx hb d_Layout_readHandlers_80 (by decide) (fun c15 => ?_) (fun c15 => ?_)
      · replace hm := hm.1 c15
        refine lv_iconst (v := 0) hx hb d_Layout_readHandlers_97 (by decide) ?_
        exact rt_z hx hb hr hm.1 hlocks hK hP hD hS d_Layout_readHandlers_98 hm.2
      · replace hm := hm.2 c15
        refine lv_iload_n hx hb d_Layout_readHandlers_83 rfl (lv_at hl 3 rfl) ?_
        refine lv_iload_n hx hb d_Layout_readHandlers_84 rfl (lv_at hl 4 rfl) ?_
        refine lv_icmp_ge (tgt := 97) hx hb d_Layout_readHandlers_85 (by decide) (fun c16 => ?_) (fun c16 => ?_)
        · replace hm := hm.1 c16
          refine lv_iconst (v := 0) hx hb d_Layout_readHandlers_97 (by decide) ?_
          exact rt_z hx hb hr hm.1 hlocks hK hP hD hS d_Layout_readHandlers_98 hm.2
        · replace hm := hm.2 c16
          refine lv_aload_n hx hb d_Layout_readHandlers_88 rfl (lv_at hl 1 rfl) ?_
          refine lv_iload hx hb d_Layout_readHandlers_89 (lv_at hl 5 rfl) ?_
          refine cg_Vi (b := (ad 7)) (As := [.int x4]) (rest := []) ⟨hx, hb, hml, hown, hts⟩ hK hP hD hS hA (c_Layout_beginBlock l D ad ca H.size s13 x4 _ hm) (cwA 1 hts wd333 wd5 wd330 wd332 ws6 (by decide +kernel) ⟨Nat.le_of_ble_eq_true rfl, Nat.le_of_ble_eq_true rfl⟩) (va_recv hK hP (ci := 3) (q0 := 7) rfl rfl) rfl hl rfl (Nat.le_of_ble_eq_true rfl) d_Layout_readHandlers_91 (fun r17 s18 hm => ?_)
          intro H locs ls hP hD hS hl
          refine lv_if_ne (tgt := 99) hx hb d_Layout_readHandlers_94 (by decide) (fun c19 => ?_) (fun c19 => ?_)
          · replace hm := hm.1 c19
            refine lv_aload_n hx hb d_Layout_readHandlers_99 rfl (lv_at hl 1 rfl) ?_
            refine va_get (D := D) (ci := 3) (v := .ref (ad 4)) (C := R_Layout) (T := T_Layout) (N := 16) hx hb hts in_Layout hown hK hP 7 rfl rfl 1 (by decide) (hts _ wd80) (fun _ h9 => h9) rfl d_Layout_readHandlers_100 ?_
            refine lv_aload_n hx hb d_Layout_readHandlers_103 rfl (lv_at hl 1 rfl) ?_
            refine va_get (D := D) (ci := 3) (v := .ref (ad 1)) (C := R_Layout) (T := T_Layout) (N := 16) hx hb hts in_Layout hown hK hP 7 rfl rfl 0 (by decide) (hts _ wd79) (fun _ h9 => h9) rfl d_Layout_readHandlers_104 ?_
            refine lv_iload_n hx hb d_Layout_readHandlers_107 rfl (lv_at hl 2 rfl) ?_
            refine lv_iconst (v := 3) hx hb d_Layout_readHandlers_108 (by decide) ?_
            refine cg_Vi (b := (ad 1)) (As := [.int x1, .int (3 : Int32)]) (rest := [.ref (ad 4)]) ⟨hx, hb, hml, hown, hts⟩ hK hP hD hS hA (c_Source_part l D ad ca H.size s18 x1 (3 : Int32) _ hm) (cwA 2 hts wd354 wd2 wd351 wd352 wd353 (by decide +kernel) ⟨Nat.le_of_ble_eq_true rfl, Nat.le_of_ble_eq_true rfl⟩) (va_recv hK hP (ci := 1) (q0 := 1) rfl rfl) rfl hl rfl (Nat.le_of_ble_eq_true rfl) d_Layout_readHandlers_109 (fun r20 s21 hm => ?_)
            intro H locs ls hP hD hS hl
            refine cg_Vi (b := (ad 4)) (As := [.int r20]) (rest := []) ⟨hx, hb, hml, hown, hts⟩ hK hP hD hS hA (c_Tariff_isDangerous l D ad ca H.size s21 r20 _ hm) (cwA 1 hts wd358 wd3 wd355 wd356 wd357 (by decide +kernel) ⟨Nat.le_of_ble_eq_true rfl, Nat.le_of_ble_eq_true rfl⟩) (va_recv hK hP (ci := 2) (q0 := 4) rfl rfl) rfl hl rfl (Nat.le_of_ble_eq_true rfl) d_Layout_readHandlers_112 (fun r22 s23 hm => ?_)
            intro H locs ls hP hD hS hl
            refine lv_if_eq (tgt := 126) hx hb d_Layout_readHandlers_115 (by decide) (fun c24 => ?_) (fun c24 => ?_)
            · replace hm := hm.1 c24
              exact B126 K2 hK2 s23 x1 hm H locs ls hP hD hS (lv_sub hl [1, 2] rfl)
            · replace hm := hm.2 c24
              refine lv_aload_n hx hb d_Layout_readHandlers_118 rfl (lv_at hl 1 rfl) ?_
              refine va_get (D := D) (ci := 3) (v := .ref (ad 12)) (C := R_Layout) (T := T_Layout) (N := 16) hx hb hts in_Layout hown hK hP 7 rfl rfl 6 (by decide) (hts _ wd91) (fun _ h9 => h9) rfl d_Layout_readHandlers_119 ?_
              refine lv_iload hx hb d_Layout_readHandlers_122 (lv_at hl 5 rfl) ?_
              refine lv_iconst (v := 1) hx hb d_Layout_readHandlers_124 (by decide) ?_
              obtain ⟨h25, hm⟩ := hm
              refine va_zast hx hb hK hP hD hS 12 8 rfl rfl h25 d_Layout_readHandlers_125 (fun H locs hP hD hS => ?_)
              have hP : va_P D vwCl (wX ad ca (su s23 8 (x4).toNatClampNeg (vp_nar .boolean (1 : Int32)))) H := hP
              have hD : va_D A (wX ad ca (su s23 8 (x4).toNatClampNeg (vp_nar .boolean (1 : Int32)))) := hD
              obtain ⟨s26, es26⟩ : ∃ z : St, z = su s23 8 (x4).toNatClampNeg (vp_nar .boolean (1 : Int32)) := ⟨_, rfl⟩
              rw [← es26] at hP hD
              replace hm := hm s26 es26
              exact B126 K2 hK2 s26 x1 hm H locs ls hP hD hS (lv_sub hl [1, 2] rfl)
          · replace hm := hm.2 c19
            refine lv_iconst (v := 0) hx hb d_Layout_readHandlers_97 (by decide) ?_
            exact rt_z hx hb hr hm.1 hlocks hK hP hD hS d_Layout_readHandlers_98 hm.2
  have B63 : ∀ (K2 : St → Int32 → Prop) (hK2 : ∀ (s : St) (x1 : Int32), K2 s x1 → Bk D vwCl (wX ad ca) A p l e { frames := 2, cells := 0, slots := 0, locals := 42 } s0 m args below meth c (MQ below (va_Qi Post (atG D vwCl (tyX ca) (wX ad ca) A) A) args s0 0 0 A) 6 2 s [(0, .ref (ad 7)), (1, .int x1)] []) (s : St) (x1 : Int32) (x2 : Int32) (x3 : Int32) (x4 : Int32), x_Layout_readHandlers_63 K2 Post s x1 x2 x3 x4 → Bk D vwCl (wX ad ca) A p l e { frames := 2, cells := 0, slots := 0, locals := 42 } s0 m args below meth c (MQ below (va_Qi Post (atG D vwCl (tyX ca) (wX ad ca) A) A) args s0 0 0 A) 6 63 s [(0, .ref (ad 7)), (1, .int x1), (2, .int x2), (3, .int x3), (4, .int x4)] [] := by
    intro K2 hK2 s x1 x2 x3 x4 hm H locs ls hP hD hS hl
    unfold x_Layout_readHandlers_63 at hm
    refine lv_iconst (v := 1) hx hb d_Layout_readHandlers_63 (by decide) ?_
    refine lv_goto (tgt := 68) hx hb d_Layout_readHandlers_64 (by decide) ?_
    exact B68 K2 hK2 s x1 x2 x3 x4 (1 : Int32) hm H locs ls hP hD hS (lv_sub hl [0, 1, 2, 3, 4] rfl)
  have B2 : ∀ (n : Nat) (s : St) (x1 : Int32), x_Layout_readHandlers_2  Post n s x1 → Bk D vwCl (wX ad ca) A p l e { frames := 2, cells := 0, slots := 0, locals := 42 } s0 m args below meth c (MQ below (va_Qi Post (atG D vwCl (tyX ca) (wX ad ca) A) A) args s0 0 0 A) 6 2 s [(0, .ref (ad 7)), (1, .int x1)] [] := by
    intro  n2
    induction n2 with
    | zero => intro s x1 hm; exact hm.elim
    | succ n2 hK2 =>
      intro s x1 hm H locs ls hP hD hS hl
      have hm : x_Layout_readHandlers_2F  Post (fun s x1 => x_Layout_readHandlers_2  Post n2 s x1) s x1 := hm
      unfold x_Layout_readHandlers_2F at hm
      refine lv_iload_n hx hb d_Layout_readHandlers_2 rfl (lv_at hl 1 rfl) ?_
      refine lv_aload_n hx hb d_Layout_readHandlers_3 rfl (lv_at hl 0 rfl) ?_
      refine va_get (D := D) (ci := 3) (v := .ref (ad 1)) (C := R_Layout) (T := T_Layout) (N := 16) hx hb hts in_Layout hown hK hP 7 rfl rfl 0 (by decide) (hts _ wd79) (fun _ h9 => h9) rfl d_Layout_readHandlers_4 ?_
      refine va_get (D := D) (ci := 1) (v := .int (s 15 2)) (C := R_Source) (T := T_Source) (N := 4) hx hb hts in_Source hown hK hP 1 rfl rfl 3 (by decide) (hts _ wd32) (fun _ h9 => h9) rfl d_Layout_readHandlers_7 ?_
      refine lv_icmp_ge (tgt := 132) hx hb d_Layout_readHandlers_10 (by decide) (fun c1 => ?_) (fun c1 => ?_)
      · replace hm := hm.1 c1
        refine lv_iconst (v := 1) hx hb d_Layout_readHandlers_132 (by decide) ?_
        exact rt_z hx hb hr hm.1 hlocks hK hP hD hS d_Layout_readHandlers_133 hm.2
      · replace hm := hm.2 c1
        refine lv_aload_n hx hb d_Layout_readHandlers_13 rfl (lv_at hl 0 rfl) ?_
        refine va_get (D := D) (ci := 3) (v := .ref (ad 1)) (C := R_Layout) (T := T_Layout) (N := 16) hx hb hts in_Layout hown hK hP 7 rfl rfl 0 (by decide) (hts _ wd79) (fun _ h9 => h9) rfl d_Layout_readHandlers_14 ?_
        refine lv_iload_n hx hb d_Layout_readHandlers_17 rfl (lv_at hl 1 rfl) ?_
        refine lv_iconst (v := 0) hx hb d_Layout_readHandlers_18 (by decide) ?_
        refine cg_Vi (b := (ad 1)) (As := [.int x1, .int (0 : Int32)]) (rest := []) ⟨hx, hb, hml, hown, hts⟩ hK hP hD hS hA (c_Source_part l D ad ca H.size s x1 (0 : Int32) _ hm) (cwA 2 hts wd354 wd2 wd351 wd352 wd353 (by decide +kernel) ⟨Nat.le_of_ble_eq_true rfl, Nat.le_of_ble_eq_true rfl⟩) (va_recv hK hP (ci := 1) (q0 := 1) rfl rfl) rfl hl rfl (Nat.le_of_ble_eq_true rfl) d_Layout_readHandlers_19 (fun r2 s3 hm => ?_)
        intro H locs ls hP hD hS hl
        refine lv_istore_n (lv' := [(2, .int r2), (0, .ref (ad 7)), (1, .int x1)]) hx hb d_Layout_readHandlers_22 rfl hl (by decide) rfl (fun ls hl => ?_)
        refine lv_aload_n hx hb d_Layout_readHandlers_23 rfl (lv_at hl 1 rfl) ?_
        refine va_get (D := D) (ci := 3) (v := .ref (ad 1)) (C := R_Layout) (T := T_Layout) (N := 16) hx hb hts in_Layout hown hK hP 7 rfl rfl 0 (by decide) (hts _ wd79) (fun _ h9 => h9) rfl d_Layout_readHandlers_24 ?_
        refine lv_iload_n hx hb d_Layout_readHandlers_27 rfl (lv_at hl 2 rfl) ?_
        refine lv_iconst (v := 1) hx hb d_Layout_readHandlers_28 (by decide) ?_
        refine cg_Vi (b := (ad 1)) (As := [.int x1, .int (1 : Int32)]) (rest := []) ⟨hx, hb, hml, hown, hts⟩ hK hP hD hS hA (c_Source_part l D ad ca H.size s3 x1 (1 : Int32) _ hm) (cwA 2 hts wd354 wd2 wd351 wd352 wd353 (by decide +kernel) ⟨Nat.le_of_ble_eq_true rfl, Nat.le_of_ble_eq_true rfl⟩) (va_recv hK hP (ci := 1) (q0 := 1) rfl rfl) rfl hl rfl (Nat.le_of_ble_eq_true rfl) d_Layout_readHandlers_29 (fun r4 s5 hm => ?_)
        intro H locs ls hP hD hS hl
        refine lv_istore_n (lv' := [(3, .int r4), (2, .int r2), (0, .ref (ad 7)), (1, .int x1)]) hx hb d_Layout_readHandlers_32 rfl hl (by decide) rfl (fun ls hl => ?_)
        refine lv_aload_n hx hb d_Layout_readHandlers_33 rfl (lv_at hl 2 rfl) ?_
        refine va_get (D := D) (ci := 3) (v := .ref (ad 1)) (C := R_Layout) (T := T_Layout) (N := 16) hx hb hts in_Layout hown hK hP 7 rfl rfl 0 (by decide) (hts _ wd79) (fun _ h9 => h9) rfl d_Layout_readHandlers_34 ?_
        refine lv_iload_n hx hb d_Layout_readHandlers_37 rfl (lv_at hl 3 rfl) ?_
        refine lv_iconst (v := 2) hx hb d_Layout_readHandlers_38 (by decide) ?_
        refine cg_Vi (b := (ad 1)) (As := [.int x1, .int (2 : Int32)]) (rest := []) ⟨hx, hb, hml, hown, hts⟩ hK hP hD hS hA (c_Source_part l D ad ca H.size s5 x1 (2 : Int32) _ hm) (cwA 2 hts wd354 wd2 wd351 wd352 wd353 (by decide +kernel) ⟨Nat.le_of_ble_eq_true rfl, Nat.le_of_ble_eq_true rfl⟩) (va_recv hK hP (ci := 1) (q0 := 1) rfl rfl) rfl hl rfl (Nat.le_of_ble_eq_true rfl) d_Layout_readHandlers_39 (fun r6 s7 hm => ?_)
        intro H locs ls hP hD hS hl
        refine lv_istore (lv' := [(4, .int r6), (3, .int r4), (2, .int r2), (0, .ref (ad 7)), (1, .int x1)]) hx hb d_Layout_readHandlers_42 hl (by decide) rfl (fun ls hl => ?_)
        refine lv_aload_n hx hb d_Layout_readHandlers_44 rfl (lv_at hl 3 rfl) ?_
        refine lv_iload_n hx hb d_Layout_readHandlers_45 rfl (lv_at hl 1 rfl) ?_
        refine cg_Vi (b := (ad 7)) (As := [.int r4]) (rest := []) ⟨hx, hb, hml, hown, hts⟩ hK hP hD hS hA (c_Layout_begins l D ad ca H.size s7 r4 _ hm) (cwA 1 hts wd337 wd5 wd334 wd335 wd336 (by decide +kernel) ⟨Nat.le_of_ble_eq_true rfl, Nat.le_of_ble_eq_true rfl⟩) (va_recv hK hP (ci := 3) (q0 := 7) rfl rfl) rfl hl rfl (Nat.le_of_ble_eq_true rfl) d_Layout_readHandlers_46 (fun r8 s9 hm => ?_)
        intro H locs ls hP hD hS hl
        refine lv_if_ne (tgt := 63) hx hb d_Layout_readHandlers_49 (by decide) (fun c10 => ?_) (fun c10 => ?_)
        · replace hm := hm.1 c10
          exact B63 (fun s x1 => x_Layout_readHandlers_2  Post n2 s x1) hK2 s9 x1 r2 r4 r6 hm H locs ls hP hD hS (lv_sub hl [3, 4, 2, 1, 0] rfl)
        · replace hm := hm.2 c10
          refine lv_iload_n hx hb d_Layout_readHandlers_52 rfl (lv_at hl 1 rfl) ?_
          refine lv_aload_n hx hb d_Layout_readHandlers_53 rfl (lv_at hl 3 rfl) ?_
          refine va_get (D := D) (ci := 3) (v := .ref (ad 1)) (C := R_Layout) (T := T_Layout) (N := 16) hx hb hts in_Layout hown hK hP 7 rfl rfl 0 (by decide) (hts _ wd79) (fun _ h9 => h9) rfl d_Layout_readHandlers_54 ?_
          refine va_get (D := D) (ci := 1) (v := .int (s9 15 1)) (C := R_Source) (T := T_Source) (N := 4) hx hb hts in_Source hown hK hP 1 rfl rfl 2 (by decide) (hts _ wd28) (fun _ h9 => h9) rfl d_Layout_readHandlers_57 ?_
          refine lv_icmp_ne (tgt := 67) hx hb d_Layout_readHandlers_60 (by decide) (fun c11 => ?_) (fun c11 => ?_)
          · replace hm := hm.1 c11
            refine lv_iconst (v := 0) hx hb d_Layout_readHandlers_67 (by decide) ?_
            exact B68 (fun s x1 => x_Layout_readHandlers_2  Post n2 s x1) hK2 s9 x1 r2 r4 r6 (0 : Int32) hm H locs ls hP hD hS (lv_sub hl [3, 4, 2, 1, 0] rfl)
          · replace hm := hm.2 c11
            exact B63 (fun s x1 => x_Layout_readHandlers_2  Post n2 s x1) hK2 s9 x1 r2 r4 r6 hm H locs ls hP hD hS (lv_sub hl [3, 4, 2, 1, 0] rfl)
  intro H locs ls hP hD hS hl
  have hl : lv_has ls 6 [(0, .ref (ad 7))] := hl
  unfold x_Layout_readHandlers at hm
  refine lv_iconst (v := 0) hx hb d_Layout_readHandlers_0 (by decide) ?_
  refine lv_istore_n (lv' := [(1, .int (0 : Int32)), (0, .ref (ad 7))]) hx hb d_Layout_readHandlers_1 rfl hl (by decide) rfl (fun ls hl => ?_)
  obtain ⟨n2, hm⟩ := hm
  exact B2  n2 s (0 : Int32) hm H locs ls hP hD hS (lv_sub hl [1, 0] rfl)
set_option maxHeartbeats 4000000 in
set_option maxRecDepth 100000 in
theorem c_Opcodes_isReturn (l : Launch) (D : va_G) (ad : Nat → Nat) (ca : Nat → ClassId) (sz : Nat) (s : St) (a0 : Int32) (Post : Int32 → St → Prop) (hm : x_Opcodes_isReturn s a0 Post) : CtI l y_Opcodes_isReturn w_Opcodes_isReturn { frames := 0, cells := 0, slots := 0, locals := 0 } D vwCl (tyX ca) (wX ad ca) sz [.int a0] s Post := by
  refine ct_i (cc := prog_3_method_5_code) (maxL := 1) (ret := (some .boolean)) (by decide) rfl (Nat.le_of_ble_eq_true rfl) ?_
  intro p e s0 m args below meth c A hx hb hr hts hown hlocks hml hK hA
  have hown : s0.vm.findClass R_Opcodes = some m.cls := hown
  intro H locs ls hP hD hS hl
  have hl : lv_has ls 1 [(0, .int a0)] := hl
  unfold x_Opcodes_isReturn at hm
  refine lv_iload_n hx hb d_Opcodes_isReturn_0 rfl (lv_at hl 0 rfl) ?_
  refine lv_sipush (v := 172) hx hb d_Opcodes_isReturn_1 (by decide) ?_
  refine lv_icmp_lt (tgt := 18) hx hb d_Opcodes_isReturn_4 (by decide) (fun c1 => ?_) (fun c1 => ?_)
  · replace hm := hm.1 c1
    refine lv_iconst (v := 0) hx hb d_Opcodes_isReturn_18 (by decide) ?_
    exact rt_z hx hb hr hm.1 hlocks hK hP hD hS d_Opcodes_isReturn_19 hm.2
  · replace hm := hm.2 c1
    refine lv_iload_n hx hb d_Opcodes_isReturn_7 rfl (lv_at hl 0 rfl) ?_
    refine lv_sipush (v := 177) hx hb d_Opcodes_isReturn_8 (by decide) ?_
    refine lv_icmp_gt (tgt := 18) hx hb d_Opcodes_isReturn_11 (by decide) (fun c2 => ?_) (fun c2 => ?_)
    · replace hm := hm.1 c2
      refine lv_iconst (v := 0) hx hb d_Opcodes_isReturn_18 (by decide) ?_
      exact rt_z hx hb hr hm.1 hlocks hK hP hD hS d_Opcodes_isReturn_19 hm.2
    · replace hm := hm.2 c2
      refine lv_iconst (v := 1) hx hb d_Opcodes_isReturn_14 (by decide) ?_
      refine lv_goto (tgt := 19) hx hb d_Opcodes_isReturn_15 (by decide) ?_
      exact rt_z hx hb hr hm.1 hlocks hK hP hD hS d_Opcodes_isReturn_19 hm.2
set_option maxHeartbeats 4000000 in
set_option maxRecDepth 100000 in
theorem c_Opcodes_endsBlock (l : Launch) (D : va_G) (ad : Nat → Nat) (ca : Nat → ClassId) (sz : Nat) (s : St) (a0 : Int32) (Post : Int32 → St → Prop) (hm : x_Opcodes_endsBlock s a0 Post) : CtI l y_Opcodes_endsBlock w_Opcodes_endsBlock { frames := 1, cells := 0, slots := 0, locals := 20 } D vwCl (tyX ca) (wX ad ca) sz [.int a0] s Post := by
  refine ct_i (cc := prog_3_method_7_code) (maxL := 1) (ret := (some .boolean)) (by decide) rfl (Nat.le_of_ble_eq_true rfl) ?_
  intro p e s0 m args below meth c A hx hb hr hts hown hlocks hml hK hA
  have hown : s0.vm.findClass R_Opcodes = some m.cls := hown
  have B35 : ∀ (s : St), x_Opcodes_endsBlock_35  Post s → Bk D vwCl (wX ad ca) A p l e { frames := 1, cells := 0, slots := 0, locals := 20 } s0 m args below meth c (MQ below (va_Qi Post (atG D vwCl (tyX ca) (wX ad ca) A) A) args s0 0 0 A) 1 35 s [] [] := by
    intro  s hm H locs ls hP hD hS hl
    unfold x_Opcodes_endsBlock_35 at hm
    refine lv_iconst (v := 1) hx hb d_Opcodes_endsBlock_35 (by decide) ?_
    refine lv_goto (tgt := 40) hx hb d_Opcodes_endsBlock_36 (by decide) ?_
    exact rt_z hx hb hr hm.1 hlocks hK hP hD hS d_Opcodes_endsBlock_40 hm.2
  intro H locs ls hP hD hS hl
  have hl : lv_has ls 1 [(0, .int a0)] := hl
  unfold x_Opcodes_endsBlock at hm
  refine lv_iload_n hx hb d_Opcodes_endsBlock_0 rfl (lv_at hl 0 rfl) ?_
  refine cg_Si (As := [.int a0]) (rest := []) ⟨hx, hb, hml, hown, hts⟩ hK hP hD hS hA (c_Opcodes_isShortJump l D ad ca H.size s a0 _ hm) (cwB 1 hts wd307 wd8 wd305 wd306 (by decide +kernel) ⟨Nat.le_of_ble_eq_true rfl, Nat.le_of_ble_eq_true rfl⟩) rfl hl rfl (Nat.le_of_ble_eq_true rfl) d_Opcodes_endsBlock_1 (fun r1 s2 hm => ?_)
  intro H locs ls hP hD hS hl
  refine lv_if_ne (tgt := 35) hx hb d_Opcodes_endsBlock_4 (by decide) (fun c3 => ?_) (fun c3 => ?_)
  · replace hm := hm.1 c3
    exact B35  s2 hm H locs ls hP hD hS (lv_sub hl [] rfl)
  · replace hm := hm.2 c3
    refine lv_iload_n hx hb d_Opcodes_endsBlock_7 rfl (lv_at hl 0 rfl) ?_
    refine cg_Si (As := [.int a0]) (rest := []) ⟨hx, hb, hml, hown, hts⟩ hK hP hD hS hA (c_Opcodes_isSwitch l D ad ca H.size s2 a0 _ hm) (cwB 1 hts wd288 wd8 wd366 wd287 (by decide +kernel) ⟨Nat.le_of_ble_eq_true rfl, Nat.le_of_ble_eq_true rfl⟩) rfl hl rfl (Nat.le_of_ble_eq_true rfl) d_Opcodes_endsBlock_8 (fun r4 s5 hm => ?_)
    intro H locs ls hP hD hS hl
    refine lv_if_ne (tgt := 35) hx hb d_Opcodes_endsBlock_11 (by decide) (fun c6 => ?_) (fun c6 => ?_)
    · replace hm := hm.1 c6
      exact B35  s5 hm H locs ls hP hD hS (lv_sub hl [] rfl)
    · replace hm := hm.2 c6
      refine lv_iload_n hx hb d_Opcodes_endsBlock_14 rfl (lv_at hl 0 rfl) ?_
      refine cg_Si (As := [.int a0]) (rest := []) ⟨hx, hb, hml, hown, hts⟩ hK hP hD hS hA (c_Opcodes_isReturn l D ad ca H.size s5 a0 _ hm) (cwB 1 hts wd369 wd8 wd367 wd368 (by decide +kernel) ⟨Nat.le_of_ble_eq_true rfl, Nat.le_of_ble_eq_true rfl⟩) rfl hl rfl (Nat.le_of_ble_eq_true rfl) d_Opcodes_endsBlock_15 (fun r7 s8 hm => ?_)
      intro H locs ls hP hD hS hl
      refine lv_if_ne (tgt := 35) hx hb d_Opcodes_endsBlock_18 (by decide) (fun c9 => ?_) (fun c9 => ?_)
      · replace hm := hm.1 c9
        exact B35  s8 hm H locs ls hP hD hS (lv_sub hl [] rfl)
      · replace hm := hm.2 c9
        refine lv_iload_n hx hb d_Opcodes_endsBlock_21 rfl (lv_at hl 0 rfl) ?_
        refine lv_sipush (v := 191) hx hb d_Opcodes_endsBlock_22 (by decide) ?_
        refine lv_icmp_eq (tgt := 35) hx hb d_Opcodes_endsBlock_25 (by decide) (fun c10 => ?_) (fun c10 => ?_)
        · replace hm := hm.1 c10
          exact B35  s8 hm H locs ls hP hD hS (lv_sub hl [] rfl)
        · replace hm := hm.2 c10
          refine lv_iload_n hx hb d_Opcodes_endsBlock_28 rfl (lv_at hl 0 rfl) ?_
          refine lv_sipush (v := 200) hx hb d_Opcodes_endsBlock_29 (by decide) ?_
          refine lv_icmp_ne (tgt := 39) hx hb d_Opcodes_endsBlock_32 (by decide) (fun c11 => ?_) (fun c11 => ?_)
          · replace hm := hm.1 c11
            refine lv_iconst (v := 0) hx hb d_Opcodes_endsBlock_39 (by decide) ?_
            exact rt_z hx hb hr hm.1 hlocks hK hP hD hS d_Opcodes_endsBlock_40 hm.2
          · replace hm := hm.2 c11
            exact B35  s8 hm H locs ls hP hD hS (lv_sub hl [] rfl)
set_option maxHeartbeats 4000000 in
set_option maxRecDepth 100000 in
theorem c_Layout_sumBlocks (l : Launch) (D : va_G) (ad : Nat → Nat) (ca : Nat → ClassId) (sz : Nat) (s : St) (Post : St → Prop) (hm : x_Layout_sumBlocks s  Post) : CtV l y_Layout_sumBlocks w_Layout_sumBlocks { frames := 2, cells := 0, slots := 0, locals := 40 } D vwCl (tyX ca) (wX ad ca) sz [.ref (ad 7)] s Post := by
  refine ct_v (cc := prog_2_method_11_code) (maxL := 7) (ret := none) (by decide) rfl (Nat.le_of_ble_eq_true rfl) ?_
  intro p e s0 m args below meth c A hx hb hr hts hown hlocks hml hK hA
  have hown : s0.vm.findClass R_Layout = some m.cls := hown
  have B99 : ∀ (K6 : St → Int32 → Int32 → Int32 → Prop) (hK6 : ∀ (s : St) (x1 : Int32) (x2 : Int32) (x3 : Int32), K6 s x1 x2 x3 → Bk D vwCl (wX ad ca) A p l e { frames := 2, cells := 0, slots := 0, locals := 40 } s0 m args below meth c (MQ below (va_Qv Post (atG D vwCl (tyX ca) (wX ad ca) A) A) args s0 0 0 A) 7 6 s [(0, .ref (ad 7)), (1, .int x1), (2, .int x2), (3, .int x3)] []) (s : St) (x1 : Int32) (x3 : Int32) (x5 : Int32) (y0 : Int32), x_Layout_sumBlocks_99 K6 Post s x1 x3 x5 y0 → Bk D vwCl (wX ad ca) A p l e { frames := 2, cells := 0, slots := 0, locals := 40 } s0 m args below meth c (MQ below (va_Qv Post (atG D vwCl (tyX ca) (wX ad ca) A) A) args s0 0 0 A) 7 99 s [(0, .ref (ad 7)), (1, .int x1), (3, .int x3), (5, .int x5)] [.int y0, .ref (ad 5)] := by
    intro K6 hK6 s x1 x3 x5 y0 hm H locs ls hP hD hS hl
    unfold x_Layout_sumBlocks_99 at hm
    obtain ⟨h12, hm⟩ := hm
    refine va_iald hx hb hK hP 5 2 rfl rfl h12 d_Layout_sumBlocks_99 ?_
    refine lv_topi (fun v13 ev13 => ?_)
    replace hm := hm v13 ev13
    refine lv_istore (lv' := [(6, .int v13), (0, .ref (ad 7)), (1, .int x1), (3, .int x3), (5, .int x5)]) hx hb d_Layout_sumBlocks_100 hl (by decide) rfl (fun ls hl => ?_)
    refine lv_aload_n hx hb d_Layout_sumBlocks_102 rfl (lv_at hl 1 rfl) ?_
    refine va_get (D := D) (ci := 3) (v := .ref (ad 11)) (C := R_Layout) (T := T_Layout) (N := 16) hx hb hts in_Layout hown hK hP 7 rfl rfl 5 (by decide) (hts _ wd88) (fun _ h9 => h9) rfl d_Layout_sumBlocks_103 ?_
    refine lv_iload_n hx hb d_Layout_sumBlocks_106 rfl (lv_at hl 2 rfl) ?_
    refine lv_dup2_11 hx hb d_Layout_sumBlocks_107 rfl rfl ?_
    obtain ⟨h14, hm⟩ := hm
    refine va_iald hx hb hK hP 11 7 rfl rfl h14 d_Layout_sumBlocks_108 ?_
    refine lv_iload hx hb d_Layout_sumBlocks_109 (lv_at hl 0 rfl) ?_
    refine lv_iadd hx hb d_Layout_sumBlocks_111 ?_
    obtain ⟨h15, hm⟩ := hm
    refine va_iast hx hb hK hP hD hS 11 7 rfl rfl h15 d_Layout_sumBlocks_112 (fun H locs hP hD hS => ?_)
    have hP : va_P D vwCl (wX ad ca (su s 7 (x1).toNatClampNeg ((s 7 (x1).toNatClampNeg) + v13))) H := hP
    have hD : va_D A (wX ad ca (su s 7 (x1).toNatClampNeg ((s 7 (x1).toNatClampNeg) + v13))) := hD
    obtain ⟨s16, es16⟩ : ∃ z : St, z = su s 7 (x1).toNatClampNeg ((s 7 (x1).toNatClampNeg) + v13) := ⟨_, rfl⟩
    rw [← es16] at hP hD
    replace hm := hm s16 es16
    refine lv_aload_n hx hb d_Layout_sumBlocks_113 rfl (lv_at hl 1 rfl) ?_
    refine lv_dup hx hb d_Layout_sumBlocks_114 rfl ?_
    refine va_get (D := D) (ci := 3) (v := .int (s16 15 9)) (C := R_Layout) (T := T_Layout) (N := 16) hx hb hts in_Layout hown hK hP 7 rfl rfl 15 (by decide) (hts _ wd113) (fun _ h9 => h9) rfl d_Layout_sumBlocks_115 ?_
    refine lv_iload hx hb d_Layout_sumBlocks_118 (lv_at hl 0 rfl) ?_
    refine lv_iadd hx hb d_Layout_sumBlocks_120 ?_
    refine va_put (D := D) (ci := 3) (v := .int ((s16 15 9) + v13)) (ty := .int) (C := R_Layout) (T := T_Layout) (N := 16) hx hb hts in_Layout t_Layout to_Layout no_Layout hown hK hP hD hS 7 rfl rfl 15 (by decide) (hts _ wd113) (fun _ h9 => h9) rfl (by decide +kernel) rfl rfl (Nat.le_of_ble_eq_true rfl) d_Layout_sumBlocks_121 (fun H locs hP hD hS => ?_)
    have hP : va_P D vwCl (wX ad ca (su s16 15 9 ((s16 15 9) + v13))) H := hP
    have hD : va_D A (wX ad ca (su s16 15 9 ((s16 15 9) + v13))) := hD
    obtain ⟨s17, es17⟩ : ∃ z : St, z = su s16 15 9 ((s16 15 9) + v13) := ⟨_, rfl⟩
    rw [← es17] at hP hD
    replace hm := hm s17 es17
    refine lv_iload hx hb d_Layout_sumBlocks_124 (lv_at hl 4 rfl) ?_
    refine cg_Si (As := [.int x5]) (rest := []) ⟨hx, hb, hml, hown, hts⟩ hK hP hD hS hA (c_Opcodes_endsBlock l D ad ca H.size s17 x5 _ hm) (cwB 1 hts wd365 wd8 wd363 wd364 (by decide +kernel) ⟨Nat.le_of_ble_eq_true rfl, Nat.le_of_ble_eq_true rfl⟩) rfl hl rfl (Nat.le_of_ble_eq_true rfl) d_Layout_sumBlocks_126 (fun r18 s19 hm => ?_)
    intro H locs ls hP hD hS hl
    refine lv_istore_n (lv' := [(2, .int r18), (6, .int v13), (0, .ref (ad 7)), (1, .int x1), (3, .int x3), (5, .int x5)]) hx hb d_Layout_sumBlocks_129 rfl hl (by decide) rfl (fun ls hl => ?_)
    obtain ⟨v20, ev20⟩ : ∃ y : Int32, y = x3 + 1 := ⟨_, rfl⟩
    replace hm := hm v20 ev20
    refine lv_iinc (v := v20) (lv' := [(3, .int v20), (2, .int r18), (6, .int v13), (0, .ref (ad 7)), (1, .int x1), (5, .int x5)]) hx hb d_Layout_sumBlocks_130 hl (k := 4) rfl (by rw [ev20]; rfl) (by decide) rfl (fun ls hl => ?_)
    refine lv_goto (tgt := 6) hx hb d_Layout_sumBlocks_133 (by decide) ?_
    exact hK6 s19 x1 r18 v20 hm H locs ls hP hD hS (lv_sub hl [3, 4, 1, 0] rfl)
  have B68 : ∀ (K6 : St → Int32 → Int32 → Int32 → Prop) (hK6 : ∀ (s : St) (x1 : Int32) (x2 : Int32) (x3 : Int32), K6 s x1 x2 x3 → Bk D vwCl (wX ad ca) A p l e { frames := 2, cells := 0, slots := 0, locals := 40 } s0 m args below meth c (MQ below (va_Qv Post (atG D vwCl (tyX ca) (wX ad ca) A) A) args s0 0 0 A) 7 6 s [(0, .ref (ad 7)), (1, .int x1), (2, .int x2), (3, .int x3)] []) (s : St) (x1 : Int32) (x3 : Int32) (x4 : Int32) (x5 : Int32), x_Layout_sumBlocks_68 K6 Post s x1 x3 x4 x5 → Bk D vwCl (wX ad ca) A p l e { frames := 2, cells := 0, slots := 0, locals := 40 } s0 m args below meth c (MQ below (va_Qv Post (atG D vwCl (tyX ca) (wX ad ca) A) A) args s0 0 0 A) 7 68 s [(0, .ref (ad 7)), (1, .int x1), (3, .int x3), (4, .int x4), (5, .int x5)] [] := by
    intro K6 hK6 s x1 x3 x4 x5 hm H locs ls hP hD hS hl
    unfold x_Layout_sumBlocks_68 at hm
    refine lv_aload_n hx hb d_Layout_sumBlocks_68 rfl (lv_at hl 0 rfl) ?_
    refine va_get (D := D) (ci := 3) (v := .ref (ad 4)) (C := R_Layout) (T := T_Layout) (N := 16) hx hb hts in_Layout hown hK hP 7 rfl rfl 1 (by decide) (hts _ wd80) (fun _ h9 => h9) rfl d_Layout_sumBlocks_69 ?_
    refine va_get (D := D) (ci := 2) (v := .ref (ad 5)) (C := R_Tariff) (T := T_Tariff) (N := 4) hx hb hts in_Tariff hown hK hP 4 rfl rfl 0 (by decide) (hts _ wd54) (fun _ h9 => h9) rfl d_Layout_sumBlocks_72 ?_
    refine lv_iload hx hb d_Layout_sumBlocks_75 (lv_at hl 4 rfl) ?_
    refine lv_sipush (v := 196) hx hb d_Layout_sumBlocks_77 (by decide) ?_
    refine lv_icmp_ne (tgt := 97) hx hb d_Layout_sumBlocks_80 (by decide) (fun c9 => ?_) (fun c9 => ?_)
    · replace hm := hm.1 c9
      refine lv_iload hx hb d_Layout_sumBlocks_97 (lv_at hl 4 rfl) ?_
      exact B99 K6 hK6 s x1 x3 x5 x5 hm H locs ls hP hD hS (lv_sub hl [0, 1, 2, 4] rfl)
    · replace hm := hm.2 c9
      refine lv_aload_n hx hb d_Layout_sumBlocks_83 rfl (lv_at hl 0 rfl) ?_
      refine va_get (D := D) (ci := 3) (v := .ref (ad 1)) (C := R_Layout) (T := T_Layout) (N := 16) hx hb hts in_Layout hown hK hP 7 rfl rfl 0 (by decide) (hts _ wd79) (fun _ h9 => h9) rfl d_Layout_sumBlocks_84 ?_
      refine lv_iload hx hb d_Layout_sumBlocks_87 (lv_at hl 3 rfl) ?_
      refine lv_iconst (v := 1) hx hb d_Layout_sumBlocks_89 (by decide) ?_
      refine lv_iadd hx hb d_Layout_sumBlocks_90 ?_
      refine cg_Vi (b := (ad 1)) (As := [.int (x4 + (1 : Int32))]) (rest := [.ref (ad 5)]) ⟨hx, hb, hml, hown, hts⟩ hK hP hD hS hA (c_Source_u1 l D ad ca H.size s (x4 + (1 : Int32)) _ hm) (cwA 1 hts wd275 wd2 wd308 wd273 wd274 (by decide +kernel) ⟨Nat.le_of_ble_eq_true rfl, Nat.le_of_ble_eq_true rfl⟩) (va_recv hK hP (ci := 1) (q0 := 1) rfl rfl) rfl hl rfl (Nat.le_of_ble_eq_true rfl) d_Layout_sumBlocks_91 (fun r10 s11 hm => ?_)
      intro H locs ls hP hD hS hl
      refine lv_goto (tgt := 99) hx hb d_Layout_sumBlocks_94 (by decide) ?_
      exact B99 K6 hK6 s11 x1 x3 x5 r10 hm H locs ls hP hD hS (lv_sub hl [0, 1, 2, 4] rfl)
  have B47 : ∀ (K6 : St → Int32 → Int32 → Int32 → Prop) (hK6 : ∀ (s : St) (x1 : Int32) (x2 : Int32) (x3 : Int32), K6 s x1 x2 x3 → Bk D vwCl (wX ad ca) A p l e { frames := 2, cells := 0, slots := 0, locals := 40 } s0 m args below meth c (MQ below (va_Qv Post (atG D vwCl (tyX ca) (wX ad ca) A) A) args s0 0 0 A) 7 6 s [(0, .ref (ad 7)), (1, .int x1), (2, .int x2), (3, .int x3)] []) (s : St) (x3 : Int32) (x4 : Int32) (x5 : Int32), x_Layout_sumBlocks_47 K6 Post s x3 x4 x5 → Bk D vwCl (wX ad ca) A p l e { frames := 2, cells := 0, slots := 0, locals := 40 } s0 m args below meth c (MQ below (va_Qv Post (atG D vwCl (tyX ca) (wX ad ca) A) A) args s0 0 0 A) 7 47 s [(0, .ref (ad 7)), (3, .int x3), (4, .int x4), (5, .int x5)] [] := by
    intro K6 hK6 s x3 x4 x5 hm H locs ls hP hD hS hl
    unfold x_Layout_sumBlocks_47 at hm
    refine lv_iload hx hb d_Layout_sumBlocks_47 (lv_at hl 2 rfl) ?_
    refine lv_istore_n (lv' := [(1, .int x4), (0, .ref (ad 7)), (3, .int x3), (4, .int x4), (5, .int x5)]) hx hb d_Layout_sumBlocks_49 rfl hl (by decide) rfl (fun ls hl => ?_)
    refine lv_aload_n hx hb d_Layout_sumBlocks_50 rfl (lv_at hl 1 rfl) ?_
    refine va_get (D := D) (ci := 3) (v := .ref (ad 11)) (C := R_Layout) (T := T_Layout) (N := 16) hx hb hts in_Layout hown hK hP 7 rfl rfl 5 (by decide) (hts _ wd88) (fun _ h9 => h9) rfl d_Layout_sumBlocks_51 ?_
    refine lv_iload hx hb d_Layout_sumBlocks_54 (lv_at hl 3 rfl) ?_
    refine lv_iconst (v := 0) hx hb d_Layout_sumBlocks_56 (by decide) ?_
    obtain ⟨h21, hm⟩ := hm
    refine va_iast hx hb hK hP hD hS 11 7 rfl rfl h21 d_Layout_sumBlocks_57 (fun H locs hP hD hS => ?_)
    have hP : va_P D vwCl (wX ad ca (su s 7 (x4).toNatClampNeg (0 : Int32))) H := hP
    have hD : va_D A (wX ad ca (su s 7 (x4).toNatClampNeg (0 : Int32))) := hD
    obtain ⟨s22, es22⟩ : ∃ z : St, z = su s 7 (x4).toNatClampNeg (0 : Int32) := ⟨_, rfl⟩
    rw [← es22] at hP hD
    replace hm := hm s22 es22
    refine lv_aload_n hx hb d_Layout_sumBlocks_58 rfl (lv_at hl 1 rfl) ?_
    refine lv_dup hx hb d_Layout_sumBlocks_59 rfl ?_
    refine va_get (D := D) (ci := 3) (v := .int (s22 15 6)) (C := R_Layout) (T := T_Layout) (N := 16) hx hb hts in_Layout hown hK hP 7 rfl rfl 12 (by decide) (hts _ wd107) (fun _ h9 => h9) rfl d_Layout_sumBlocks_60 ?_
    refine lv_iconst (v := 1) hx hb d_Layout_sumBlocks_63 (by decide) ?_
    refine lv_iadd hx hb d_Layout_sumBlocks_64 ?_
    refine va_put (D := D) (ci := 3) (v := .int ((s22 15 6) + (1 : Int32))) (ty := .int) (C := R_Layout) (T := T_Layout) (N := 16) hx hb hts in_Layout t_Layout to_Layout no_Layout hown hK hP hD hS 7 rfl rfl 12 (by decide) (hts _ wd107) (fun _ h9 => h9) rfl (by decide +kernel) rfl rfl (Nat.le_of_ble_eq_true rfl) d_Layout_sumBlocks_65 (fun H locs hP hD hS => ?_)
    have hP : va_P D vwCl (wX ad ca (su s22 15 6 ((s22 15 6) + (1 : Int32)))) H := hP
    have hD : va_D A (wX ad ca (su s22 15 6 ((s22 15 6) + (1 : Int32)))) := hD
    obtain ⟨s23, es23⟩ : ∃ z : St, z = su s22 15 6 ((s22 15 6) + (1 : Int32)) := ⟨_, rfl⟩
    rw [← es23] at hP hD
    replace hm := hm s23 es23
    exact B68 K6 hK6 s23 x4 x3 x4 x5 hm H locs ls hP hD hS (lv_sub hl [1, 0, 2, 3, 4] rfl)
  have B6 : ∀ (n : Nat) (s : St) (x1 : Int32) (x2 : Int32) (x3 : Int32), x_Layout_sumBlocks_6  Post n s x1 x2 x3 → Bk D vwCl (wX ad ca) A p l e { frames := 2, cells := 0, slots := 0, locals := 40 } s0 m args below meth c (MQ below (va_Qv Post (atG D vwCl (tyX ca) (wX ad ca) A) A) args s0 0 0 A) 7 6 s [(0, .ref (ad 7)), (1, .int x1), (2, .int x2), (3, .int x3)] [] := by
    intro  n6
    induction n6 with
    | zero => intro s x1 x2 x3 hm; exact hm.elim
    | succ n6 hK6 =>
      intro s x1 x2 x3 hm H locs ls hP hD hS hl
      have hm : x_Layout_sumBlocks_6F  Post (fun s x1 x2 x3 => x_Layout_sumBlocks_6  Post n6 s x1 x2 x3) s x1 x2 x3 := hm
      unfold x_Layout_sumBlocks_6F at hm
      refine lv_iload_n hx hb d_Layout_sumBlocks_6 rfl (lv_at hl 3 rfl) ?_
      refine lv_aload_n hx hb d_Layout_sumBlocks_7 rfl (lv_at hl 0 rfl) ?_
      refine va_get (D := D) (ci := 3) (v := .int (s 15 5)) (C := R_Layout) (T := T_Layout) (N := 16) hx hb hts in_Layout hown hK hP 7 rfl rfl 11 (by decide) (hts _ wd105) (fun _ h9 => h9) rfl d_Layout_sumBlocks_8 ?_
      refine lv_icmp_ge (tgt := 136) hx hb d_Layout_sumBlocks_11 (by decide) (fun c1 => ?_) (fun c1 => ?_)
      · replace hm := hm.1 c1
        exact rt_v hx hb hr hlocks hK hP hD hS d_Layout_sumBlocks_136 hm
      · replace hm := hm.2 c1
        refine lv_aload_n hx hb d_Layout_sumBlocks_14 rfl (lv_at hl 0 rfl) ?_
        refine va_get (D := D) (ci := 3) (v := .ref (ad 8)) (C := R_Layout) (T := T_Layout) (N := 16) hx hb hts in_Layout hown hK hP 7 rfl rfl 2 (by decide) (hts _ wd81) (fun _ h9 => h9) rfl d_Layout_sumBlocks_15 ?_
        refine lv_iload_n hx hb d_Layout_sumBlocks_18 rfl (lv_at hl 3 rfl) ?_
        obtain ⟨h2, hm⟩ := hm
        refine va_iald hx hb hK hP 8 4 rfl rfl h2 d_Layout_sumBlocks_19 ?_
        refine lv_topi (fun v3 ev3 => ?_)
        replace hm := hm v3 ev3
        refine lv_istore (lv' := [(4, .int v3), (0, .ref (ad 7)), (1, .int x1), (2, .int x2), (3, .int x3)]) hx hb d_Layout_sumBlocks_20 hl (by decide) rfl (fun ls hl => ?_)
        refine lv_aload_n hx hb d_Layout_sumBlocks_22 rfl (lv_at hl 1 rfl) ?_
        refine va_get (D := D) (ci := 3) (v := .ref (ad 1)) (C := R_Layout) (T := T_Layout) (N := 16) hx hb hts in_Layout hown hK hP 7 rfl rfl 0 (by decide) (hts _ wd79) (fun _ h9 => h9) rfl d_Layout_sumBlocks_23 ?_
        refine lv_iload hx hb d_Layout_sumBlocks_26 (lv_at hl 0 rfl) ?_
        refine cg_Vi (b := (ad 1)) (As := [.int v3]) (rest := []) ⟨hx, hb, hml, hown, hts⟩ hK hP hD hS hA (c_Source_u1 l D ad ca H.size s v3 _ hm) (cwA 1 hts wd275 wd2 wd308 wd273 wd274 (by decide +kernel) ⟨Nat.le_of_ble_eq_true rfl, Nat.le_of_ble_eq_true rfl⟩) (va_recv hK hP (ci := 1) (q0 := 1) rfl rfl) rfl hl rfl (Nat.le_of_ble_eq_true rfl) d_Layout_sumBlocks_28 (fun r4 s5 hm => ?_)
        intro H locs ls hP hD hS hl
        refine lv_istore (lv' := [(5, .int r4), (4, .int v3), (0, .ref (ad 7)), (1, .int x1), (2, .int x2), (3, .int x3)]) hx hb d_Layout_sumBlocks_31 hl (by decide) rfl (fun ls hl => ?_)
        refine lv_iload_n hx hb d_Layout_sumBlocks_33 rfl (lv_at hl 4 rfl) ?_
        refine lv_if_ne (tgt := 47) hx hb d_Layout_sumBlocks_34 (by decide) (fun c6 => ?_) (fun c6 => ?_)
        · replace hm := hm.1 c6
          exact B47 (fun s x1 x2 x3 => x_Layout_sumBlocks_6  Post n6 s x1 x2 x3) hK6 s5 x3 v3 r4 hm H locs ls hP hD hS (lv_sub hl [2, 5, 1, 0] rfl)
        · replace hm := hm.2 c6
          refine lv_aload_n hx hb d_Layout_sumBlocks_37 rfl (lv_at hl 2 rfl) ?_
          refine va_get (D := D) (ci := 3) (v := .ref (ad 11)) (C := R_Layout) (T := T_Layout) (N := 16) hx hb hts in_Layout hown hK hP 7 rfl rfl 5 (by decide) (hts _ wd88) (fun _ h9 => h9) rfl d_Layout_sumBlocks_38 ?_
          refine lv_iload hx hb d_Layout_sumBlocks_41 (lv_at hl 1 rfl) ?_
          obtain ⟨h7, hm⟩ := hm
          refine va_iald hx hb hK hP 11 7 rfl rfl h7 d_Layout_sumBlocks_43 ?_
          refine lv_if_lt (tgt := 68) hx hb d_Layout_sumBlocks_44 (by decide) (fun c8 => ?_) (fun c8 => ?_)
          · replace hm := hm.1 c8
            exact B68 (fun s x1 x2 x3 => x_Layout_sumBlocks_6  Post n6 s x1 x2 x3) hK6 s5 x1 x3 v3 r4 hm H locs ls hP hD hS (lv_sub hl [2, 3, 5, 1, 0] rfl)
          · replace hm := hm.2 c8
            exact B47 (fun s x1 x2 x3 => x_Layout_sumBlocks_6  Post n6 s x1 x2 x3) hK6 s5 x3 v3 r4 hm H locs ls hP hD hS (lv_sub hl [2, 5, 1, 0] rfl)
  intro H locs ls hP hD hS hl
  have hl : lv_has ls 7 [(0, .ref (ad 7))] := hl
  unfold x_Layout_sumBlocks at hm
  refine lv_iconst (v := 0) hx hb d_Layout_sumBlocks_0 (by decide) ?_
  refine lv_istore_n (lv' := [(1, .int (0 : Int32)), (0, .ref (ad 7))]) hx hb d_Layout_sumBlocks_1 rfl hl (by decide) rfl (fun ls hl => ?_)
  refine lv_iconst (v := 1) hx hb d_Layout_sumBlocks_2 (by decide) ?_
  refine lv_istore_n (lv' := [(2, .int (1 : Int32)), (1, .int (0 : Int32)), (0, .ref (ad 7))]) hx hb d_Layout_sumBlocks_3 rfl hl (by decide) rfl (fun ls hl => ?_)
  refine lv_iconst (v := 0) hx hb d_Layout_sumBlocks_4 (by decide) ?_
  refine lv_istore_n (lv' := [(3, .int (0 : Int32)), (2, .int (1 : Int32)), (1, .int (0 : Int32)), (0, .ref (ad 7))]) hx hb d_Layout_sumBlocks_5 rfl hl (by decide) rfl (fun ls hl => ?_)
  obtain ⟨n6, hm⟩ := hm
  exact B6  n6 s (0 : Int32) (1 : Int32) (0 : Int32) hm H locs ls hP hD hS (lv_sub hl [3, 2, 1, 0] rfl)
set_option maxHeartbeats 4000000 in
set_option maxRecDepth 100000 in
theorem c_Layout_pushLength (l : Launch) (D : va_G) (ad : Nat → Nat) (ca : Nat → ClassId) (sz : Nat) (s : St) (a0 : Int32) (Post : Int32 → St → Prop) (hm : x_Layout_pushLength s a0 Post) : CtI l y_Layout_pushLength w_Layout_pushLength { frames := 0, cells := 0, slots := 0, locals := 0 } D vwCl (tyX ca) (wX ad ca) sz [.int a0] s Post := by
  refine ct_i (cc := prog_2_method_13_code) (maxL := 1) (ret := (some .int)) (by decide) rfl (Nat.le_of_ble_eq_true rfl) ?_
  intro p e s0 m args below meth c A hx hb hr hts hown hlocks hml hK hA
  have hown : s0.vm.findClass R_Layout = some m.cls := hown
  intro H locs ls hP hD hS hl
  have hl : lv_has ls 1 [(0, .int a0)] := hl
  unfold x_Layout_pushLength at hm
  refine lv_iload_n hx hb d_Layout_pushLength_0 rfl (lv_at hl 0 rfl) ?_
  refine lv_iconst (v := 5) hx hb d_Layout_pushLength_1 (by decide) ?_
  refine lv_icmp_gt (tgt := 7) hx hb d_Layout_pushLength_2 (by decide) (fun c1 => ?_) (fun c1 => ?_)
  · replace hm := hm.1 c1
    refine lv_iload_n hx hb d_Layout_pushLength_7 rfl (lv_at hl 0 rfl) ?_
    refine lv_bipush (v := 127) hx hb d_Layout_pushLength_8 (by decide) ?_
    refine lv_icmp_gt (tgt := 17) hx hb d_Layout_pushLength_10 (by decide) (fun c2 => ?_) (fun c2 => ?_)
    · replace hm := hm.1 c2
      refine lv_iconst (v := 3) hx hb d_Layout_pushLength_17 (by decide) ?_
      exact rt_i hx hb hr hlocks hK hP hD hS d_Layout_pushLength_18 hm
    · replace hm := hm.2 c2
      refine lv_iconst (v := 2) hx hb d_Layout_pushLength_13 (by decide) ?_
      refine lv_goto (tgt := 18) hx hb d_Layout_pushLength_14 (by decide) ?_
      exact rt_i hx hb hr hlocks hK hP hD hS d_Layout_pushLength_18 hm
  · replace hm := hm.2 c1
    refine lv_iconst (v := 1) hx hb d_Layout_pushLength_5 (by decide) ?_
    exact rt_i hx hb hr hlocks hK hP hD hS d_Layout_pushLength_6 hm
set_option maxHeartbeats 4000000 in
set_option maxRecDepth 100000 in
theorem c_Opcodes_makesArray (l : Launch) (D : va_G) (ad : Nat → Nat) (ca : Nat → ClassId) (sz : Nat) (s : St) (a0 : Int32) (Post : Int32 → St → Prop) (hm : x_Opcodes_makesArray s a0 Post) : CtI l y_Opcodes_makesArray w_Opcodes_makesArray { frames := 0, cells := 0, slots := 0, locals := 0 } D vwCl (tyX ca) (wX ad ca) sz [.int a0] s Post := by
  refine ct_i (cc := prog_3_method_6_code) (maxL := 1) (ret := (some .boolean)) (by decide) rfl (Nat.le_of_ble_eq_true rfl) ?_
  intro p e s0 m args below meth c A hx hb hr hts hown hlocks hml hK hA
  have hown : s0.vm.findClass R_Opcodes = some m.cls := hown
  have B14 : ∀ (s : St), x_Opcodes_makesArray_14  Post s → Bk D vwCl (wX ad ca) A p l e { frames := 0, cells := 0, slots := 0, locals := 0 } s0 m args below meth c (MQ below (va_Qi Post (atG D vwCl (tyX ca) (wX ad ca) A) A) args s0 0 0 A) 1 14 s [] [] := by
    intro  s hm H locs ls hP hD hS hl
    unfold x_Opcodes_makesArray_14 at hm
    refine lv_iconst (v := 1) hx hb d_Opcodes_makesArray_14 (by decide) ?_
    refine lv_goto (tgt := 19) hx hb d_Opcodes_makesArray_15 (by decide) ?_
    exact rt_z hx hb hr hm.1 hlocks hK hP hD hS d_Opcodes_makesArray_19 hm.2
  intro H locs ls hP hD hS hl
  have hl : lv_has ls 1 [(0, .int a0)] := hl
  unfold x_Opcodes_makesArray at hm
  refine lv_iload_n hx hb d_Opcodes_makesArray_0 rfl (lv_at hl 0 rfl) ?_
  refine lv_sipush (v := 188) hx hb d_Opcodes_makesArray_1 (by decide) ?_
  refine lv_icmp_eq (tgt := 14) hx hb d_Opcodes_makesArray_4 (by decide) (fun c1 => ?_) (fun c1 => ?_)
  · replace hm := hm.1 c1
    exact B14  s hm H locs ls hP hD hS (lv_sub hl [] rfl)
  · replace hm := hm.2 c1
    refine lv_iload_n hx hb d_Opcodes_makesArray_7 rfl (lv_at hl 0 rfl) ?_
    refine lv_sipush (v := 189) hx hb d_Opcodes_makesArray_8 (by decide) ?_
    refine lv_icmp_ne (tgt := 18) hx hb d_Opcodes_makesArray_11 (by decide) (fun c2 => ?_) (fun c2 => ?_)
    · replace hm := hm.1 c2
      refine lv_iconst (v := 0) hx hb d_Opcodes_makesArray_18 (by decide) ?_
      exact rt_z hx hb hr hm.1 hlocks hK hP hD hS d_Opcodes_makesArray_19 hm.2
    · replace hm := hm.2 c2
      exact B14  s hm H locs ls hP hD hS (lv_sub hl [] rfl)
set_option maxHeartbeats 4000000 in
set_option maxRecDepth 100000 in
theorem c_Layout_measureLeads (l : Launch) (D : va_G) (ad : Nat → Nat) (ca : Nat → ClassId) (sz : Nat) (s : St) (Post : St → Prop) (hm : x_Layout_measureLeads s  Post) : CtV l y_Layout_measureLeads w_Layout_measureLeads { frames := 1, cells := 0, slots := 0, locals := 21 } D vwCl (tyX ca) (wX ad ca) sz [.ref (ad 7)] s Post := by
  refine ct_v (cc := prog_2_method_12_code) (maxL := 4) (ret := none) (by decide) rfl (Nat.le_of_ble_eq_true rfl) ?_
  intro p e s0 m args below meth c A hx hb hr hts hown hlocks hml hK hA
  have hown : s0.vm.findClass R_Layout = some m.cls := hown
  have B105 : ∀ (K2 : St → Int32 → Prop) (hK2 : ∀ (s : St) (x1 : Int32), K2 s x1 → Bk D vwCl (wX ad ca) A p l e { frames := 1, cells := 0, slots := 0, locals := 21 } s0 m args below meth c (MQ below (va_Qv Post (atG D vwCl (tyX ca) (wX ad ca) A) A) args s0 0 0 A) 4 2 s [(0, .ref (ad 7)), (1, .int x1)] []) (s : St) (x1 : Int32) (y0 : Int32) (y1 : Int32) (y2 : Int32), x_Layout_measureLeads_105 K2 Post s x1 y0 y1 y2 → Bk D vwCl (wX ad ca) A p l e { frames := 1, cells := 0, slots := 0, locals := 21 } s0 m args below meth c (MQ below (va_Qv Post (atG D vwCl (tyX ca) (wX ad ca) A) A) args s0 0 0 A) 4 105 s [(0, .ref (ad 7)), (1, .int x1)] [.int y0, .int y1, .int y2, .ref (ad 13)] := by
    intro K2 hK2 s x1 y0 y1 y2 hm H locs ls hP hD hS hl
    unfold x_Layout_measureLeads_105 at hm
    refine lv_iadd hx hb d_Layout_measureLeads_105 ?_
    obtain ⟨h20, hm⟩ := hm
    refine va_iast hx hb hK hP hD hS 13 9 rfl rfl h20 d_Layout_measureLeads_106 (fun H locs hP hD hS => ?_)
    have hP : va_P D vwCl (wX ad ca (su s 9 (y2).toNatClampNeg (y1 + y0))) H := hP
    have hD : va_D A (wX ad ca (su s 9 (y2).toNatClampNeg (y1 + y0))) := hD
    obtain ⟨s21, es21⟩ : ∃ z : St, z = su s 9 (y2).toNatClampNeg (y1 + y0) := ⟨_, rfl⟩
    rw [← es21] at hP hD
    replace hm := hm s21 es21
    obtain ⟨v22, ev22⟩ : ∃ y : Int32, y = x1 + 1 := ⟨_, rfl⟩
    replace hm := hm v22 ev22
    refine lv_iinc (v := v22) (lv' := [(1, .int v22), (0, .ref (ad 7))]) hx hb d_Layout_measureLeads_107 hl (k := 1) rfl (by rw [ev22]; rfl) (by decide) rfl (fun ls hl => ?_)
    refine lv_goto (tgt := 2) hx hb d_Layout_measureLeads_110 (by decide) ?_
    exact hK2 s21 v22 hm H locs ls hP hD hS (lv_sub hl [1, 0] rfl)
  have B92 : ∀ (K2 : St → Int32 → Prop) (hK2 : ∀ (s : St) (x1 : Int32), K2 s x1 → Bk D vwCl (wX ad ca) A p l e { frames := 1, cells := 0, slots := 0, locals := 21 } s0 m args below meth c (MQ below (va_Qv Post (atG D vwCl (tyX ca) (wX ad ca) A) A) args s0 0 0 A) 4 2 s [(0, .ref (ad 7)), (1, .int x1)] []) (s : St) (x1 : Int32) (x3 : Int32) (y0 : Int32) (y1 : Int32) (y2 : Int32), x_Layout_measureLeads_92 K2 Post s x1 x3 y0 y1 y2 → Bk D vwCl (wX ad ca) A p l e { frames := 1, cells := 0, slots := 0, locals := 21 } s0 m args below meth c (MQ below (va_Qv Post (atG D vwCl (tyX ca) (wX ad ca) A) A) args s0 0 0 A) 4 92 s [(0, .ref (ad 7)), (1, .int x1), (3, .int x3)] [.int y0, .int y1, .int y2, .ref (ad 13)] := by
    intro K2 hK2 s x1 x3 y0 y1 y2 hm H locs ls hP hD hS hl
    unfold x_Layout_measureLeads_92 at hm
    refine lv_iadd hx hb d_Layout_measureLeads_92 ?_
    refine lv_iload_n hx hb d_Layout_measureLeads_93 rfl (lv_at hl 2 rfl) ?_
    refine cg_Si (As := [.int x3]) (rest := [.int (y1 + y0), .int y2, .ref (ad 13)]) ⟨hx, hb, hml, hown, hts⟩ hK hP hD hS hA (c_Opcodes_makesArray l D ad ca H.size s x3 _ hm) (cwB 1 hts wd380 wd8 wd378 wd379 (by decide +kernel) ⟨Nat.le_of_ble_eq_true rfl, Nat.le_of_ble_eq_true rfl⟩) rfl hl rfl (Nat.le_of_ble_eq_true rfl) d_Layout_measureLeads_94 (fun r17 s18 hm => ?_)
    intro H locs ls hP hD hS hl
    refine lv_if_eq (tgt := 104) hx hb d_Layout_measureLeads_97 (by decide) (fun c19 => ?_) (fun c19 => ?_)
    · replace hm := hm.1 c19
      refine lv_iconst (v := 0) hx hb d_Layout_measureLeads_104 (by decide) ?_
      exact B105 K2 hK2 s18 x1 (0 : Int32) (y1 + y0) y2 hm H locs ls hP hD hS (lv_sub hl [0, 1] rfl)
    · replace hm := hm.2 c19
      refine lv_iconst (v := 4) hx hb d_Layout_measureLeads_100 (by decide) ?_
      refine lv_goto (tgt := 105) hx hb d_Layout_measureLeads_101 (by decide) ?_
      exact B105 K2 hK2 s18 x1 (4 : Int32) (y1 + y0) y2 hm H locs ls hP hD hS (lv_sub hl [0, 1] rfl)
  have B79 : ∀ (K2 : St → Int32 → Prop) (hK2 : ∀ (s : St) (x1 : Int32), K2 s x1 → Bk D vwCl (wX ad ca) A p l e { frames := 1, cells := 0, slots := 0, locals := 21 } s0 m args below meth c (MQ below (va_Qv Post (atG D vwCl (tyX ca) (wX ad ca) A) A) args s0 0 0 A) 4 2 s [(0, .ref (ad 7)), (1, .int x1)] []) (s : St) (x1 : Int32) (x3 : Int32) (y0 : Int32) (y1 : Int32) (y2 : Int32), x_Layout_measureLeads_79 K2 Post s x1 x3 y0 y1 y2 → Bk D vwCl (wX ad ca) A p l e { frames := 1, cells := 0, slots := 0, locals := 21 } s0 m args below meth c (MQ below (va_Qv Post (atG D vwCl (tyX ca) (wX ad ca) A) A) args s0 0 0 A) 4 79 s [(0, .ref (ad 7)), (1, .int x1), (3, .int x3)] [.int y0, .int y1, .int y2, .ref (ad 13)] := by
    intro K2 hK2 s x1 x3 y0 y1 y2 hm H locs ls hP hD hS hl
    unfold x_Layout_measureLeads_79 at hm
    refine lv_iadd hx hb d_Layout_measureLeads_79 ?_
    refine lv_iload_n hx hb d_Layout_measureLeads_80 rfl (lv_at hl 2 rfl) ?_
    refine cg_Si (As := [.int x3]) (rest := [.int (y1 + y0), .int y2, .ref (ad 13)]) ⟨hx, hb, hml, hown, hts⟩ hK hP hD hS hA (c_Opcodes_isReturn l D ad ca H.size s x3 _ hm) (cwB 1 hts wd369 wd8 wd377 wd368 (by decide +kernel) ⟨Nat.le_of_ble_eq_true rfl, Nat.le_of_ble_eq_true rfl⟩) rfl hl rfl (Nat.le_of_ble_eq_true rfl) d_Layout_measureLeads_81 (fun r14 s15 hm => ?_)
    intro H locs ls hP hD hS hl
    refine lv_if_eq (tgt := 91) hx hb d_Layout_measureLeads_84 (by decide) (fun c16 => ?_) (fun c16 => ?_)
    · replace hm := hm.1 c16
      refine lv_iconst (v := 0) hx hb d_Layout_measureLeads_91 (by decide) ?_
      exact B92 K2 hK2 s15 x1 x3 (0 : Int32) (y1 + y0) y2 hm H locs ls hP hD hS (lv_sub hl [0, 1, 2] rfl)
    · replace hm := hm.2 c16
      refine lv_iconst (v := 3) hx hb d_Layout_measureLeads_87 (by decide) ?_
      refine lv_goto (tgt := 92) hx hb d_Layout_measureLeads_88 (by decide) ?_
      exact B92 K2 hK2 s15 x1 x3 (3 : Int32) (y1 + y0) y2 hm H locs ls hP hD hS (lv_sub hl [0, 1, 2] rfl)
  have B54 : ∀ (K2 : St → Int32 → Prop) (hK2 : ∀ (s : St) (x1 : Int32), K2 s x1 → Bk D vwCl (wX ad ca) A p l e { frames := 1, cells := 0, slots := 0, locals := 21 } s0 m args below meth c (MQ below (va_Qv Post (atG D vwCl (tyX ca) (wX ad ca) A) A) args s0 0 0 A) 4 2 s [(0, .ref (ad 7)), (1, .int x1)] []) (s : St) (x1 : Int32) (x2 : Int32) (x3 : Int32) (y0 : Int32) (y1 : Int32) (y2 : Int32), x_Layout_measureLeads_54 K2 Post s x1 x2 x3 y0 y1 y2 → Bk D vwCl (wX ad ca) A p l e { frames := 1, cells := 0, slots := 0, locals := 21 } s0 m args below meth c (MQ below (va_Qv Post (atG D vwCl (tyX ca) (wX ad ca) A) A) args s0 0 0 A) 4 54 s [(0, .ref (ad 7)), (1, .int x1), (2, .int x2), (3, .int x3)] [.int y0, .int y1, .int y2, .ref (ad 13)] := by
    intro K2 hK2 s x1 x2 x3 y0 y1 y2 hm H locs ls hP hD hS hl
    unfold x_Layout_measureLeads_54 at hm
    refine lv_iadd hx hb d_Layout_measureLeads_54 ?_
    refine lv_aload_n hx hb d_Layout_measureLeads_55 rfl (lv_at hl 0 rfl) ?_
    refine va_get (D := D) (ci := 3) (v := .ref (ad 11)) (C := R_Layout) (T := T_Layout) (N := 16) hx hb hts in_Layout hown hK hP 7 rfl rfl 5 (by decide) (hts _ wd88) (fun _ h9 => h9) rfl d_Layout_measureLeads_56 ?_
    refine lv_iload_n hx hb d_Layout_measureLeads_59 rfl (lv_at hl 2 rfl) ?_
    obtain ⟨h9, hm⟩ := hm
    refine va_iald hx hb hK hP 11 7 rfl rfl h9 d_Layout_measureLeads_60 ?_
    refine lv_if_le (tgt := 78) hx hb d_Layout_measureLeads_61 (by decide) (fun c10 => ?_) (fun c10 => ?_)
    · replace hm := hm.1 c10
      refine lv_iconst (v := 0) hx hb d_Layout_measureLeads_78 (by decide) ?_
      exact B79 K2 hK2 s x1 x3 (0 : Int32) (y1 + y0) y2 hm H locs ls hP hD hS (lv_sub hl [0, 1, 3] rfl)
    · replace hm := hm.2 c10
      refine lv_aload_n hx hb d_Layout_measureLeads_64 rfl (lv_at hl 0 rfl) ?_
      refine va_get (D := D) (ci := 3) (v := .ref (ad 11)) (C := R_Layout) (T := T_Layout) (N := 16) hx hb hts in_Layout hown hK hP 7 rfl rfl 5 (by decide) (hts _ wd88) (fun _ h9 => h9) rfl d_Layout_measureLeads_65 ?_
      refine lv_iload_n hx hb d_Layout_measureLeads_68 rfl (lv_at hl 2 rfl) ?_
      obtain ⟨h11, hm⟩ := hm
      refine va_iald hx hb hK hP 11 7 rfl rfl h11 d_Layout_measureLeads_69 ?_
      refine cg_Si (As := [.int (s 7 (x2).toNatClampNeg)]) (rest := [.int (y1 + y0), .int y2, .ref (ad 13)]) ⟨hx, hb, hml, hown, hts⟩ hK hP hD hS hA (c_Layout_pushLength l D ad ca H.size s (s 7 (x2).toNatClampNeg) _ hm) (cwB 1 hts wd376 wd5 wd374 wd375 (by decide +kernel) ⟨Nat.le_of_ble_eq_true rfl, Nat.le_of_ble_eq_true rfl⟩) rfl hl rfl (Nat.le_of_ble_eq_true rfl) d_Layout_measureLeads_70 (fun r12 s13 hm => ?_)
      intro H locs ls hP hD hS hl
      refine lv_iconst (v := 3) hx hb d_Layout_measureLeads_73 (by decide) ?_
      refine lv_iadd hx hb d_Layout_measureLeads_74 ?_
      refine lv_goto (tgt := 79) hx hb d_Layout_measureLeads_75 (by decide) ?_
      exact B79 K2 hK2 s13 x1 x3 (r12 + (3 : Int32)) (y1 + y0) y2 hm H locs ls hP hD hS (lv_sub hl [0, 1, 3] rfl)
  have B40 : ∀ (K2 : St → Int32 → Prop) (hK2 : ∀ (s : St) (x1 : Int32), K2 s x1 → Bk D vwCl (wX ad ca) A p l e { frames := 1, cells := 0, slots := 0, locals := 21 } s0 m args below meth c (MQ below (va_Qv Post (atG D vwCl (tyX ca) (wX ad ca) A) A) args s0 0 0 A) 4 2 s [(0, .ref (ad 7)), (1, .int x1)] []) (s : St) (x1 : Int32) (x2 : Int32) (x3 : Int32) (y0 : Int32) (y1 : Int32), x_Layout_measureLeads_40 K2 Post s x1 x2 x3 y0 y1 → Bk D vwCl (wX ad ca) A p l e { frames := 1, cells := 0, slots := 0, locals := 21 } s0 m args below meth c (MQ below (va_Qv Post (atG D vwCl (tyX ca) (wX ad ca) A) A) args s0 0 0 A) 4 40 s [(0, .ref (ad 7)), (1, .int x1), (2, .int x2), (3, .int x3)] [.int y0, .int y1, .ref (ad 13)] := by
    intro K2 hK2 s x1 x2 x3 y0 y1 hm H locs ls hP hD hS hl
    unfold x_Layout_measureLeads_40 at hm
    refine lv_aload_n hx hb d_Layout_measureLeads_40 rfl (lv_at hl 0 rfl) ?_
    refine va_get (D := D) (ci := 3) (v := .ref (ad 12)) (C := R_Layout) (T := T_Layout) (N := 16) hx hb hts in_Layout hown hK hP 7 rfl rfl 6 (by decide) (hts _ wd91) (fun _ h9 => h9) rfl d_Layout_measureLeads_41 ?_
    refine lv_iload_n hx hb d_Layout_measureLeads_44 rfl (lv_at hl 2 rfl) ?_
    obtain ⟨h7, hm⟩ := hm
    refine va_zald hx hb hK hP 12 8 rfl rfl h7 d_Layout_measureLeads_45 ?_
    refine lv_if_eq (tgt := 53) hx hb d_Layout_measureLeads_46 (by decide) (fun c8 => ?_) (fun c8 => ?_)
    · replace hm := hm.1 c8
      refine lv_iconst (v := 0) hx hb d_Layout_measureLeads_53 (by decide) ?_
      exact B54 K2 hK2 s x1 x2 x3 (0 : Int32) y0 y1 hm H locs ls hP hD hS (lv_sub hl [0, 1, 2, 3] rfl)
    · replace hm := hm.2 c8
      refine lv_iconst (v := 4) hx hb d_Layout_measureLeads_49 (by decide) ?_
      refine lv_goto (tgt := 54) hx hb d_Layout_measureLeads_50 (by decide) ?_
      exact B54 K2 hK2 s x1 x2 x3 (4 : Int32) y0 y1 hm H locs ls hP hD hS (lv_sub hl [0, 1, 2, 3] rfl)
  have B2 : ∀ (n : Nat) (s : St) (x1 : Int32), x_Layout_measureLeads_2  Post n s x1 → Bk D vwCl (wX ad ca) A p l e { frames := 1, cells := 0, slots := 0, locals := 21 } s0 m args below meth c (MQ below (va_Qv Post (atG D vwCl (tyX ca) (wX ad ca) A) A) args s0 0 0 A) 4 2 s [(0, .ref (ad 7)), (1, .int x1)] [] := by
    intro  n2
    induction n2 with
    | zero => intro s x1 hm; exact hm.elim
    | succ n2 hK2 =>
      intro s x1 hm H locs ls hP hD hS hl
      have hm : x_Layout_measureLeads_2F  Post (fun s x1 => x_Layout_measureLeads_2  Post n2 s x1) s x1 := hm
      unfold x_Layout_measureLeads_2F at hm
      refine lv_iload_n hx hb d_Layout_measureLeads_2 rfl (lv_at hl 1 rfl) ?_
      refine lv_aload_n hx hb d_Layout_measureLeads_3 rfl (lv_at hl 0 rfl) ?_
      refine va_get (D := D) (ci := 3) (v := .int (s 15 5)) (C := R_Layout) (T := T_Layout) (N := 16) hx hb hts in_Layout hown hK hP 7 rfl rfl 11 (by decide) (hts _ wd105) (fun _ h9 => h9) rfl d_Layout_measureLeads_4 ?_
      refine lv_icmp_ge (tgt := 113) hx hb d_Layout_measureLeads_7 (by decide) (fun c1 => ?_) (fun c1 => ?_)
      · replace hm := hm.1 c1
        exact rt_v hx hb hr hlocks hK hP hD hS d_Layout_measureLeads_113 hm
      · replace hm := hm.2 c1
        refine lv_aload_n hx hb d_Layout_measureLeads_10 rfl (lv_at hl 0 rfl) ?_
        refine va_get (D := D) (ci := 3) (v := .ref (ad 8)) (C := R_Layout) (T := T_Layout) (N := 16) hx hb hts in_Layout hown hK hP 7 rfl rfl 2 (by decide) (hts _ wd81) (fun _ h9 => h9) rfl d_Layout_measureLeads_11 ?_
        refine lv_iload_n hx hb d_Layout_measureLeads_14 rfl (lv_at hl 1 rfl) ?_
        obtain ⟨h2, hm⟩ := hm
        refine va_iald hx hb hK hP 8 4 rfl rfl h2 d_Layout_measureLeads_15 ?_
        refine lv_topi (fun v3 ev3 => ?_)
        replace hm := hm v3 ev3
        refine lv_istore_n (lv' := [(2, .int v3), (0, .ref (ad 7)), (1, .int x1)]) hx hb d_Layout_measureLeads_16 rfl hl (by decide) rfl (fun ls hl => ?_)
        refine lv_aload_n hx hb d_Layout_measureLeads_17 rfl (lv_at hl 1 rfl) ?_
        refine va_get (D := D) (ci := 3) (v := .ref (ad 1)) (C := R_Layout) (T := T_Layout) (N := 16) hx hb hts in_Layout hown hK hP 7 rfl rfl 0 (by decide) (hts _ wd79) (fun _ h9 => h9) rfl d_Layout_measureLeads_18 ?_
        refine lv_iload_n hx hb d_Layout_measureLeads_21 rfl (lv_at hl 0 rfl) ?_
        refine cg_Vi (b := (ad 1)) (As := [.int v3]) (rest := []) ⟨hx, hb, hml, hown, hts⟩ hK hP hD hS hA (c_Source_u1 l D ad ca H.size s v3 _ hm) (cwA 1 hts wd275 wd2 wd308 wd273 wd274 (by decide +kernel) ⟨Nat.le_of_ble_eq_true rfl, Nat.le_of_ble_eq_true rfl⟩) (va_recv hK hP (ci := 1) (q0 := 1) rfl rfl) rfl hl rfl (Nat.le_of_ble_eq_true rfl) d_Layout_measureLeads_22 (fun r4 s5 hm => ?_)
        intro H locs ls hP hD hS hl
        refine lv_istore_n (lv' := [(3, .int r4), (2, .int v3), (0, .ref (ad 7)), (1, .int x1)]) hx hb d_Layout_measureLeads_25 rfl hl (by decide) rfl (fun ls hl => ?_)
        refine lv_aload_n hx hb d_Layout_measureLeads_26 rfl (lv_at hl 2 rfl) ?_
        refine va_get (D := D) (ci := 3) (v := .ref (ad 13)) (C := R_Layout) (T := T_Layout) (N := 16) hx hb hts in_Layout hown hK hP 7 rfl rfl 7 (by decide) (hts _ wd93) (fun _ h9 => h9) rfl d_Layout_measureLeads_27 ?_
        refine lv_iload_n hx hb d_Layout_measureLeads_30 rfl (lv_at hl 1 rfl) ?_
        refine lv_iload_n hx hb d_Layout_measureLeads_31 rfl (lv_at hl 1 rfl) ?_
        refine lv_if_ne (tgt := 39) hx hb d_Layout_measureLeads_32 (by decide) (fun c6 => ?_) (fun c6 => ?_)
        · replace hm := hm.1 c6
          refine lv_iconst (v := 0) hx hb d_Layout_measureLeads_39 (by decide) ?_
          exact B40 (fun s x1 => x_Layout_measureLeads_2  Post n2 s x1) hK2 s5 x1 v3 r4 (0 : Int32) v3 hm H locs ls hP hD hS (lv_sub hl [2, 3, 1, 0] rfl)
        · replace hm := hm.2 c6
          refine lv_iconst (v := 3) hx hb d_Layout_measureLeads_35 (by decide) ?_
          refine lv_goto (tgt := 40) hx hb d_Layout_measureLeads_36 (by decide) ?_
          exact B40 (fun s x1 => x_Layout_measureLeads_2  Post n2 s x1) hK2 s5 x1 v3 r4 (3 : Int32) v3 hm H locs ls hP hD hS (lv_sub hl [2, 3, 1, 0] rfl)
  intro H locs ls hP hD hS hl
  have hl : lv_has ls 4 [(0, .ref (ad 7))] := hl
  unfold x_Layout_measureLeads at hm
  refine lv_iconst (v := 0) hx hb d_Layout_measureLeads_0 (by decide) ?_
  refine lv_istore_n (lv' := [(1, .int (0 : Int32)), (0, .ref (ad 7))]) hx hb d_Layout_measureLeads_1 rfl hl (by decide) rfl (fun ls hl => ?_)
  obtain ⟨n2, hm⟩ := hm
  exact B2  n2 s (0 : Int32) hm H locs ls hP hD hS (lv_sub hl [1, 0] rfl)
set_option maxHeartbeats 4000000 in
set_option maxRecDepth 100000 in
theorem c_Layout_lengthAtSpot (l : Launch) (D : va_G) (ad : Nat → Nat) (ca : Nat → ClassId) (sz : Nat) (s : St) (a1 : Int32) (Post : Int32 → St → Prop) (hm : x_Layout_lengthAtSpot s a1 Post) : CtI l y_Layout_lengthAtSpot w_Layout_lengthAtSpot { frames := 2, cells := 0, slots := 0, locals := 41 } D vwCl (tyX ca) (wX ad ca) sz [.ref (ad 7), .int a1] s Post := by
  refine ct_i (cc := prog_2_method_16_code) (maxL := 3) (ret := (some .int)) (by decide) rfl (Nat.le_of_ble_eq_true rfl) ?_
  intro p e s0 m args below meth c A hx hb hr hts hown hlocks hml hK hA
  have hown : s0.vm.findClass R_Layout = some m.cls := hown
  have B64 : ∀ (s : St), x_Layout_lengthAtSpot_64  Post s → Bk D vwCl (wX ad ca) A p l e { frames := 2, cells := 0, slots := 0, locals := 41 } s0 m args below meth c (MQ below (va_Qi Post (atG D vwCl (tyX ca) (wX ad ca) A) A) args s0 0 0 A) 3 64 s [] [] := by
    intro  s hm H locs ls hP hD hS hl
    unfold x_Layout_lengthAtSpot_64 at hm
    refine lv_iconst (v := 5) hx hb d_Layout_lengthAtSpot_64 (by decide) ?_
    refine lv_goto (tgt := 70) hx hb d_Layout_lengthAtSpot_65 (by decide) ?_
    exact rt_i hx hb hr hlocks hK hP hD hS d_Layout_lengthAtSpot_70 hm
  intro H locs ls hP hD hS hl
  have hl : lv_has ls 3 [(0, .ref (ad 7)), (1, .int a1)] := hl
  unfold x_Layout_lengthAtSpot at hm
  refine lv_aload_n hx hb d_Layout_lengthAtSpot_0 rfl (lv_at hl 0 rfl) ?_
  refine va_get (D := D) (ci := 3) (v := .ref (ad 1)) (C := R_Layout) (T := T_Layout) (N := 16) hx hb hts in_Layout hown hK hP 7 rfl rfl 0 (by decide) (hts _ wd79) (fun _ h9 => h9) rfl d_Layout_lengthAtSpot_1 ?_
  refine lv_iload_n hx hb d_Layout_lengthAtSpot_4 rfl (lv_at hl 1 rfl) ?_
  refine cg_Vi (b := (ad 1)) (As := [.int a1]) (rest := []) ⟨hx, hb, hml, hown, hts⟩ hK hP hD hS hA (c_Source_u1 l D ad ca H.size s a1 _ hm) (cwA 1 hts wd275 wd2 wd308 wd273 wd274 (by decide +kernel) ⟨Nat.le_of_ble_eq_true rfl, Nat.le_of_ble_eq_true rfl⟩) (va_recv hK hP (ci := 1) (q0 := 1) rfl rfl) rfl hl rfl (Nat.le_of_ble_eq_true rfl) d_Layout_lengthAtSpot_5 (fun r1 s2 hm => ?_)
  intro H locs ls hP hD hS hl
  refine lv_istore_n (lv' := [(2, .int r1), (0, .ref (ad 7)), (1, .int a1)]) hx hb d_Layout_lengthAtSpot_8 rfl hl (by decide) rfl (fun ls hl => ?_)
  refine lv_iload_n hx hb d_Layout_lengthAtSpot_9 rfl (lv_at hl 0 rfl) ?_
  refine cg_Si (As := [.int r1]) (rest := []) ⟨hx, hb, hml, hown, hts⟩ hK hP hD hS hA (c_Opcodes_isSwitch l D ad ca H.size s2 r1 _ hm) (cwB 1 hts wd288 wd8 wd313 wd287 (by decide +kernel) ⟨Nat.le_of_ble_eq_true rfl, Nat.le_of_ble_eq_true rfl⟩) rfl hl rfl (Nat.le_of_ble_eq_true rfl) d_Layout_lengthAtSpot_10 (fun r3 s4 hm => ?_)
  intro H locs ls hP hD hS hl
  refine lv_if_eq (tgt := 41) hx hb d_Layout_lengthAtSpot_13 (by decide) (fun c5 => ?_) (fun c5 => ?_)
  · replace hm := hm.1 c5
    refine lv_aload_n hx hb d_Layout_lengthAtSpot_41 rfl (lv_at hl 1 rfl) ?_
    refine va_get (D := D) (ci := 3) (v := .ref (ad 16)) (C := R_Layout) (T := T_Layout) (N := 16) hx hb hts in_Layout hown hK hP 7 rfl rfl 10 (by decide) (hts _ wd101) (fun _ h9 => h9) rfl d_Layout_lengthAtSpot_42 ?_
    refine lv_iload_n hx hb d_Layout_lengthAtSpot_45 rfl (lv_at hl 2 rfl) ?_
    obtain ⟨h6, hm⟩ := hm
    refine va_zald hx hb hK hP 16 12 rfl rfl h6 d_Layout_lengthAtSpot_46 ?_
    refine lv_if_eq (tgt := 71) hx hb d_Layout_lengthAtSpot_47 (by decide) (fun c7 => ?_) (fun c7 => ?_)
    · replace hm := hm.1 c7
      refine lv_aload_n hx hb d_Layout_lengthAtSpot_71 rfl (lv_at hl 1 rfl) ?_
      refine va_get (D := D) (ci := 3) (v := .ref (ad 9)) (C := R_Layout) (T := T_Layout) (N := 16) hx hb hts in_Layout hown hK hP 7 rfl rfl 3 (by decide) (hts _ wd84) (fun _ h9 => h9) rfl d_Layout_lengthAtSpot_72 ?_
      refine lv_iload_n hx hb d_Layout_lengthAtSpot_75 rfl (lv_at hl 2 rfl) ?_
      obtain ⟨h8, hm⟩ := hm
      refine va_iald hx hb hK hP 9 5 rfl rfl h8 d_Layout_lengthAtSpot_76 ?_
      exact rt_i hx hb hr hlocks hK hP hD hS d_Layout_lengthAtSpot_77 hm
    · replace hm := hm.2 c7
      refine lv_iload_n hx hb d_Layout_lengthAtSpot_50 rfl (lv_at hl 0 rfl) ?_
      refine lv_sipush (v := 167) hx hb d_Layout_lengthAtSpot_51 (by decide) ?_
      refine lv_icmp_eq (tgt := 64) hx hb d_Layout_lengthAtSpot_54 (by decide) (fun c9 => ?_) (fun c9 => ?_)
      · replace hm := hm.1 c9
        exact B64  s4 hm H locs ls hP hD hS (lv_sub hl [] rfl)
      · replace hm := hm.2 c9
        refine lv_iload_n hx hb d_Layout_lengthAtSpot_57 rfl (lv_at hl 0 rfl) ?_
        refine lv_sipush (v := 200) hx hb d_Layout_lengthAtSpot_58 (by decide) ?_
        refine lv_icmp_ne (tgt := 68) hx hb d_Layout_lengthAtSpot_61 (by decide) (fun c10 => ?_) (fun c10 => ?_)
        · replace hm := hm.1 c10
          refine lv_bipush (v := 8) hx hb d_Layout_lengthAtSpot_68 (by decide) ?_
          exact rt_i hx hb hr hlocks hK hP hD hS d_Layout_lengthAtSpot_70 hm
        · replace hm := hm.2 c10
          exact B64  s4 hm H locs ls hP hD hS (lv_sub hl [] rfl)
  · replace hm := hm.2 c5
    refine lv_aload_n hx hb d_Layout_lengthAtSpot_16 rfl (lv_at hl 1 rfl) ?_
    refine va_get (D := D) (ci := 3) (v := .ref (ad 15)) (C := R_Layout) (T := T_Layout) (N := 16) hx hb hts in_Layout hown hK hP 7 rfl rfl 9 (by decide) (hts _ wd98) (fun _ h9 => h9) rfl d_Layout_lengthAtSpot_17 ?_
    refine lv_iload_n hx hb d_Layout_lengthAtSpot_20 rfl (lv_at hl 2 rfl) ?_
    obtain ⟨h11, hm⟩ := hm
    refine va_iald hx hb hK hP 15 11 rfl rfl h11 d_Layout_lengthAtSpot_21 ?_
    refine cg_Si (As := [.int (s4 11 (a1).toNatClampNeg)]) (rest := []) ⟨hx, hb, hml, hown, hts⟩ hK hP hD hS hA (c_Source_wordsFrom l D ad ca H.size s4 (s4 11 (a1).toNatClampNeg) _ hm) (cwB 1 hts wd295 wd2 wd322 wd294 (by decide +kernel) ⟨Nat.le_of_ble_eq_true rfl, Nat.le_of_ble_eq_true rfl⟩) rfl hl rfl (Nat.le_of_ble_eq_true rfl) d_Layout_lengthAtSpot_22 (fun r12 s13 hm => ?_)
    intro H locs ls hP hD hS hl
    refine lv_aload_n hx hb d_Layout_lengthAtSpot_25 rfl (lv_at hl 1 rfl) ?_
    refine va_get (D := D) (ci := 3) (v := .ref (ad 15)) (C := R_Layout) (T := T_Layout) (N := 16) hx hb hts in_Layout hown hK hP 7 rfl rfl 9 (by decide) (hts _ wd98) (fun _ h9 => h9) rfl d_Layout_lengthAtSpot_26 ?_
    refine lv_iload_n hx hb d_Layout_lengthAtSpot_29 rfl (lv_at hl 2 rfl) ?_
    obtain ⟨h14, hm⟩ := hm
    refine va_iald hx hb hK hP 15 11 rfl rfl h14 d_Layout_lengthAtSpot_30 ?_
    refine lv_isub hx hb d_Layout_lengthAtSpot_31 ?_
    refine lv_iconst (v := 4) hx hb d_Layout_lengthAtSpot_32 (by decide) ?_
    refine lv_aload_n hx hb d_Layout_lengthAtSpot_33 rfl (lv_at hl 1 rfl) ?_
    refine lv_iload_n hx hb d_Layout_lengthAtSpot_34 rfl (lv_at hl 2 rfl) ?_
    refine cg_Vi (b := (ad 7)) (As := [.int a1]) (rest := [.int (4 : Int32), .int (r12 - (s13 11 (a1).toNatClampNeg))]) ⟨hx, hb, hml, hown, hts⟩ hK hP hD hS hA (c_Layout_wordsOf l D ad ca H.size s13 a1 _ hm) (cwA 1 hts wd321 wd5 wd318 wd319 wd320 (by decide +kernel) ⟨Nat.le_of_ble_eq_true rfl, Nat.le_of_ble_eq_true rfl⟩) (va_recv hK hP (ci := 3) (q0 := 7) rfl rfl) rfl hl rfl (Nat.le_of_ble_eq_true rfl) d_Layout_lengthAtSpot_35 (fun r15 s16 hm => ?_)
    intro H locs ls hP hD hS hl
    refine lv_imul hx hb d_Layout_lengthAtSpot_38 ?_
    refine lv_iadd hx hb d_Layout_lengthAtSpot_39 ?_
    exact rt_i hx hb hr hlocks hK hP hD hS d_Layout_lengthAtSpot_40 hm
