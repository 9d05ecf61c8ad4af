set_option maxHeartbeats 4000000 in
set_option maxRecDepth 100000 in
theorem c_Model_in (l : Launch) (D : va_G) (ad : Nat → Nat) (ca : Nat → ClassId) (sz : Nat) (s : St) (a0 : Int32) (a1 : Int32) (a2 : Int32) (Post : Int32 → St → Prop) (hm : x_Model_in s a0 a1 a2 Post) : CtI l y_Model_in w_Model_in { frames := 0, cells := 0, slots := 0, locals := 0 } D vwCl (tyM ca) (wM ad ca) sz [.int a0, .int a1, .int a2] s Post := by
  refine ct_i (cc := prog_8_method_2_code) (maxL := 3) (ret := (some .boolean)) (by decide) rfl (Nat.le_of_ble_eq_true rfl) ?_
  intro p e s0 m args below meth c A hx hb hr hts hown hlocks hml hK hA
  have hown : s0.vm.findClass R_Model = some m.cls := hown
  intro H locs ls hP hD hS hl
  have hl : lv_has ls 3 [(0, .int a0), (1, .int a1), (2, .int a2)] := hl
  unfold x_Model_in at hm
  refine lv_iload_n hx hb d_Model_in_0 rfl (lv_at hl 0 rfl) ?_
  refine lv_iload_n hx hb d_Model_in_1 rfl (lv_at hl 1 rfl) ?_
  refine lv_icmp_lt (tgt := 14) hx hb d_Model_in_2 (by decide) (fun c1 => ?_) (fun c1 => ?_)
  · replace hm := hm.1 c1
    refine lv_iconst (v := 0) hx hb d_Model_in_14 (by decide) ?_
    exact rt_z hx hb hr hm.1 hlocks hK hP hD hS d_Model_in_15 hm.2
  · replace hm := hm.2 c1
    refine lv_iload_n hx hb d_Model_in_5 rfl (lv_at hl 0 rfl) ?_
    refine lv_iload_n hx hb d_Model_in_6 rfl (lv_at hl 2 rfl) ?_
    refine lv_icmp_gt (tgt := 14) hx hb d_Model_in_7 (by decide) (fun c2 => ?_) (fun c2 => ?_)
    · replace hm := hm.1 c2
      refine lv_iconst (v := 0) hx hb d_Model_in_14 (by decide) ?_
      exact rt_z hx hb hr hm.1 hlocks hK hP hD hS d_Model_in_15 hm.2
    · replace hm := hm.2 c2
      refine lv_iconst (v := 1) hx hb d_Model_in_10 (by decide) ?_
      refine lv_goto (tgt := 15) hx hb d_Model_in_11 (by decide) ?_
      exact rt_z hx hb hr hm.1 hlocks hK hP hD hS d_Model_in_15 hm.2
set_option maxHeartbeats 4000000 in
set_option maxRecDepth 100000 in
theorem c_Model_code (l : Launch) (D : va_G) (ad : Nat → Nat) (ca : Nat → ClassId) (sz : Nat) (s : St) (a1 : Int64) (a3 : Int32) (Post : Int32 → St → Prop) (hm : x_Model_code s a1 a3 Post) : CtI l y_Model_code w_Model_code { frames := 1, cells := 0, slots := 0, locals := 22 } D vwCl (tyM ca) (wM ad ca) sz [.ref (ad 0), .long a1, .int a3] s Post := by
  refine ct_i (cc := prog_8_method_3_code) (maxL := 5) (ret := (some .int)) (by decide) rfl (Nat.le_of_ble_eq_true rfl) ?_
  intro p e s0 m args below meth c A hx hb hr hts hown hlocks hml hK hA
  have hown : s0.vm.findClass R_Model = some m.cls := hown
  have B30 : ∀ (n : Nat) (s : St) (x1 : Int64) (x3 : Int32) (x4 : Int32), x_Model_code_30  Post n s x1 x3 x4 → Bk D vwCl (wM ad ca) A p l e { frames := 1, cells := 0, slots := 0, locals := 22 } s0 m args below meth c (MQ below (va_Qi Post (atG D vwCl (tyM ca) (wM ad ca) A) A) args s0 0 0 A) 5 30 s [(0, .ref (ad 0)), (1, .long x1), (3, .int x3), (4, .int x4)] [] := by
    intro  n30
    induction n30 with
    | zero => intro s x1 x3 x4 hm; exact hm.elim
    | succ n30 hK30 =>
      intro s x1 x3 x4 hm H locs ls hP hD hS hl
      have hm : x_Model_code_30F  Post (fun s x1 x3 x4 => x_Model_code_30  Post n30 s x1 x3 x4) s x1 x3 x4 := hm
      unfold x_Model_code_30F at hm
      refine lv_iload hx hb d_Model_code_30 (lv_at hl 3 rfl) ?_
      refine lv_iload_n hx hb d_Model_code_32 rfl (lv_at hl 2 rfl) ?_
      refine lv_icmp_ge (tgt := 69) hx hb d_Model_code_33 (by decide) (fun c5 => ?_) (fun c5 => ?_)
      · replace hm := hm.1 c5
        refine lv_aload_n hx hb d_Model_code_69 rfl (lv_at hl 0 rfl) ?_
        refine lv_dup hx hb d_Model_code_70 rfl ?_
        refine va_get (D := D) (ci := 5) (v := .int (s 19 0)) (C := R_Model) (T := T_Model) (N := 36) hx hb hts in_Model hown hK hP 0 rfl rfl 7 (by decide) (hts _ wd498) (fun _ h9 => h9) rfl d_Model_code_71 ?_
        refine lv_iload_n hx hb d_Model_code_74 rfl (lv_at hl 2 rfl) ?_
        refine lv_iadd hx hb d_Model_code_75 ?_
        refine va_put (D := D) (ci := 5) (v := .int ((s 19 0) + x3)) (ty := .int) (C := R_Model) (T := T_Model) (N := 36) hx hb hts in_Model t_Model to_Model no_Model hown hK hP hD hS 0 rfl rfl 7 (by decide) (hts _ wd498) (fun _ h9 => h9) rfl (by decide +kernel) rfl rfl (Nat.le_of_ble_eq_true rfl) d_Model_code_76 (fun H locs hP hD hS => ?_)
        have hP : va_P D vwCl (wM ad ca (su s 19 0 ((s 19 0) + x3))) H := hP
        have hD : va_D A (wM ad ca (su s 19 0 ((s 19 0) + x3))) := hD
        obtain ⟨s6, es6⟩ : ∃ z : St, z = su s 19 0 ((s 19 0) + x3) := ⟨_, rfl⟩
        rw [← es6] at hP hD
        replace hm := hm s6 es6
        refine lv_aload_n hx hb d_Model_code_79 rfl (lv_at hl 0 rfl) ?_
        refine va_get (D := D) (ci := 5) (v := .int (s6 19 0)) (C := R_Model) (T := T_Model) (N := 36) hx hb hts in_Model hown hK hP 0 rfl rfl 7 (by decide) (hts _ wd498) (fun _ h9 => h9) rfl d_Model_code_80 ?_
        exact rt_i hx hb hr hlocks hK hP hD hS d_Model_code_83 hm
      · replace hm := hm.2 c5
        refine lv_aload_n hx hb d_Model_code_36 rfl (lv_at hl 0 rfl) ?_
        refine va_get (D := D) (ci := 5) (v := .ref (ad 1)) (C := R_Model) (T := T_Model) (N := 36) hx hb hts in_Model hown hK hP 0 rfl rfl 0 (by decide) (hts _ wd491) (fun _ h9 => h9) rfl d_Model_code_37 ?_
        refine lv_aload_n hx hb d_Model_code_40 rfl (lv_at hl 0 rfl) ?_
        refine va_get (D := D) (ci := 5) (v := .int (s 19 0)) (C := R_Model) (T := T_Model) (N := 36) hx hb hts in_Model hown hK hP 0 rfl rfl 7 (by decide) (hts _ wd498) (fun _ h9 => h9) rfl d_Model_code_41 ?_
        refine lv_iload hx hb d_Model_code_44 (lv_at hl 3 rfl) ?_
        refine lv_iadd hx hb d_Model_code_46 ?_
        refine lv_lload_n hx hb d_Model_code_47 rfl (lv_at hl 1 rfl) ?_
        refine lv_bipush (v := 56) hx hb d_Model_code_48 (by decide) ?_
        refine lv_bipush (v := 8) hx hb d_Model_code_50 (by decide) ?_
        refine lv_iload hx hb d_Model_code_52 (lv_at hl 3 rfl) ?_
        refine lv_imul hx hb d_Model_code_54 ?_
        refine lv_isub hx hb d_Model_code_55 ?_
        refine lv_lushr (v := ((x1).toUInt64 >>> ((((56 : Int32) - ((8 : Int32) * x4))).toInt64.toUInt64 &&& Int64.toUInt64 63)).toInt64) hx hb d_Model_code_56 rfl ?_
        refine lv_ldc2 (v := 255) hx hb hown (hts _ wd607) d_Model_code_57 ?_
        refine lv_land hx hb d_Model_code_60 ?_
        refine lv_l2i (v := ((((x1).toUInt64 >>> ((((56 : Int32) - ((8 : Int32) * x4))).toInt64.toUInt64 &&& Int64.toUInt64 63)).toInt64 &&& (255 : Int64))).toInt32) hx hb d_Model_code_61 rfl ?_
        obtain ⟨h7, hm⟩ := hm
        refine va_iast hx hb hK hP hD hS 1 0 rfl rfl h7 d_Model_code_62 (fun H locs hP hD hS => ?_)
        have hP : va_P D vwCl (wM ad ca (su s 0 (((s 19 0) + x4)).toNatClampNeg ((((x1).toUInt64 >>> ((((56 : Int32) - ((8 : Int32) * x4))).toInt64.toUInt64 &&& Int64.toUInt64 63)).toInt64 &&& (255 : Int64))).toInt32)) H := hP
        have hD : va_D A (wM ad ca (su s 0 (((s 19 0) + x4)).toNatClampNeg ((((x1).toUInt64 >>> ((((56 : Int32) - ((8 : Int32) * x4))).toInt64.toUInt64 &&& Int64.toUInt64 63)).toInt64 &&& (255 : Int64))).toInt32)) := hD
        obtain ⟨s8, es8⟩ : ∃ z : St, z = su s 0 (((s 19 0) + x4)).toNatClampNeg ((((x1).toUInt64 >>> ((((56 : Int32) - ((8 : Int32) * x4))).toInt64.toUInt64 &&& Int64.toUInt64 63)).toInt64 &&& (255 : Int64))).toInt32 := ⟨_, rfl⟩
        rw [← es8] at hP hD
        replace hm := hm s8 es8
        obtain ⟨v9, ev9⟩ : ∃ y : Int32, y = x4 + 1 := ⟨_, rfl⟩
        replace hm := hm v9 ev9
        refine lv_iinc (v := v9) (lv' := [(4, .int v9), (0, .ref (ad 0)), (1, .long x1), (3, .int x3)]) hx hb d_Model_code_63 hl (k := 3) rfl (by rw [ev9]; rfl) (by decide) rfl (fun ls hl => ?_)
        refine lv_goto (tgt := 30) hx hb d_Model_code_66 (by decide) ?_
        exact hK30 s8 x1 x3 v9 hm H locs ls hP hD hS (lv_sub hl [1, 2, 3, 0] rfl)
  intro H locs ls hP hD hS hl
  have hl : lv_has ls 5 [(0, .ref (ad 0)), (1, .long a1), (3, .int a3)] := hl
  unfold x_Model_code at hm
  refine lv_iload_n hx hb d_Model_code_0 rfl (lv_at hl 2 rfl) ?_
  refine lv_iconst (v := 1) hx hb d_Model_code_1 (by decide) ?_
  refine lv_bipush (v := 8) hx hb d_Model_code_2 (by decide) ?_
  refine cg_Si (As := [.int a3, .int (1 : Int32), .int (8 : Int32)]) (rest := []) ⟨hx, hb, hml, hown, hts⟩ hK hP hD hS hA (c_Model_in l D ad ca H.size s a3 (1 : Int32) (8 : Int32) _ hm) (cwB 3 hts wd606 wd7 wd604 wd605 (by decide +kernel) ⟨Nat.le_of_ble_eq_true rfl, Nat.le_of_ble_eq_true rfl⟩) rfl hl rfl (Nat.le_of_ble_eq_true rfl) d_Model_code_4 (fun r1 s2 hm => ?_)
  intro H locs ls hP hD hS hl
  refine lv_if_ne (tgt := 12) hx hb d_Model_code_7 (by decide) (fun c3 => ?_) (fun c3 => ?_)
  · replace hm := hm.1 c3
    refine lv_aload_n hx hb d_Model_code_12 rfl (lv_at hl 0 rfl) ?_
    refine va_get (D := D) (ci := 5) (v := .int (s2 19 0)) (C := R_Model) (T := T_Model) (N := 36) hx hb hts in_Model hown hK hP 0 rfl rfl 7 (by decide) (hts _ wd498) (fun _ h9 => h9) rfl d_Model_code_13 ?_
    refine lv_iload_n hx hb d_Model_code_16 rfl (lv_at hl 2 rfl) ?_
    refine lv_iadd hx hb d_Model_code_17 ?_
    refine lv_sipush (v := 200) hx hb d_Model_code_18 (by decide) ?_
    refine lv_icmp_le (tgt := 27) hx hb d_Model_code_21 (by decide) (fun c4 => ?_) (fun c4 => ?_)
    · replace hm := hm.1 c4
      refine lv_iconst (v := 0) hx hb d_Model_code_27 (by decide) ?_
      refine lv_istore (lv' := [(4, .int (0 : Int32)), (0, .ref (ad 0)), (1, .long a1), (3, .int a3)]) hx hb d_Model_code_28 hl (by decide) rfl (fun ls hl => ?_)
      obtain ⟨n30, hm⟩ := hm
      exact B30  n30 s2 a1 a3 (0 : Int32) hm H locs ls hP hD hS (lv_sub hl [1, 2, 3, 0] rfl)
    · replace hm := hm.2 c4
      refine lv_bipush (v := -2) hx hb d_Model_code_24 (by decide) ?_
      exact rt_i hx hb hr hlocks hK hP hD hS d_Model_code_26 hm
  · replace hm := hm.2 c3
    refine lv_iconst (v := -1) hx hb d_Model_code_10 (by decide) ?_
    exact rt_i hx hb hr hlocks hK hP hD hS d_Model_code_11 hm
set_option maxHeartbeats 4000000 in
set_option maxRecDepth 100000 in
theorem c_Model_change (l : Launch) (D : va_G) (ad : Nat → Nat) (ca : Nat → ClassId) (sz : Nat) (s : St) (a1 : Int32) (a2 : Int32) (Post : Int32 → St → Prop) (hm : x_Model_change s a1 a2 Post) : CtI l y_Model_change w_Model_change { frames := 1, cells := 0, slots := 0, locals := 22 } D vwCl (tyM ca) (wM ad ca) sz [.ref (ad 0), .int a1, .int a2] s Post := by
  refine ct_i (cc := prog_8_method_4_code) (maxL := 4) (ret := (some .int)) (by decide) rfl (Nat.le_of_ble_eq_true rfl) ?_
  intro p e s0 m args below meth c A hx hb hr hts hown hlocks hml hK hA
  have hown : s0.vm.findClass R_Model = some m.cls := hown
  intro H locs ls hP hD hS hl
  have hl : lv_has ls 4 [(0, .ref (ad 0)), (1, .int a1), (2, .int a2)] := hl
  unfold x_Model_change at hm
  refine lv_iload_n hx hb d_Model_change_0 rfl (lv_at hl 1 rfl) ?_
  refine lv_iconst (v := 0) hx hb d_Model_change_1 (by decide) ?_
  refine lv_aload_n hx hb d_Model_change_2 rfl (lv_at hl 0 rfl) ?_
  refine va_get (D := D) (ci := 5) (v := .int (s 19 0)) (C := R_Model) (T := T_Model) (N := 36) hx hb hts in_Model hown hK hP 0 rfl rfl 7 (by decide) (hts _ wd498) (fun _ h9 => h9) rfl d_Model_change_3 ?_
  refine lv_iconst (v := 1) hx hb d_Model_change_6 (by decide) ?_
  refine lv_isub hx hb d_Model_change_7 ?_
  refine cg_Si (As := [.int a1, .int (0 : Int32), .int ((s 19 0) - (1 : Int32))]) (rest := []) ⟨hx, hb, hml, hown, hts⟩ hK hP hD hS hA (c_Model_in l D ad ca H.size s a1 (0 : Int32) ((s 19 0) - (1 : Int32)) _ hm) (cwB 3 hts wd606 wd7 wd604 wd605 (by decide +kernel) ⟨Nat.le_of_ble_eq_true rfl, Nat.le_of_ble_eq_true rfl⟩) rfl hl rfl (Nat.le_of_ble_eq_true rfl) d_Model_change_8 (fun r1 s2 hm => ?_)
  intro H locs ls hP hD hS hl
  refine lv_if_eq (tgt := 25) hx hb d_Model_change_11 (by decide) (fun c3 => ?_) (fun c3 => ?_)
  · replace hm := hm.1 c3
    refine lv_iconst (v := -1) hx hb d_Model_change_25 (by decide) ?_
    exact rt_i hx hb hr hlocks hK hP hD hS d_Model_change_26 hm
  · replace hm := hm.2 c3
    refine lv_iload_n hx hb d_Model_change_14 rfl (lv_at hl 2 rfl) ?_
    refine lv_iconst (v := 0) hx hb d_Model_change_15 (by decide) ?_
    refine lv_sipush (v := 255) hx hb d_Model_change_16 (by decide) ?_
    refine cg_Si (As := [.int a2, .int (0 : Int32), .int (255 : Int32)]) (rest := []) ⟨hx, hb, hml, hown, hts⟩ hK hP hD hS hA (c_Model_in l D ad ca H.size s2 a2 (0 : Int32) (255 : Int32) _ hm) (cwB 3 hts wd606 wd7 wd604 wd605 (by decide +kernel) ⟨Nat.le_of_ble_eq_true rfl, Nat.le_of_ble_eq_true rfl⟩) rfl hl rfl (Nat.le_of_ble_eq_true rfl) d_Model_change_19 (fun r4 s5 hm => ?_)
    intro H locs ls hP hD hS hl
    refine lv_if_ne (tgt := 27) hx hb d_Model_change_22 (by decide) (fun c6 => ?_) (fun c6 => ?_)
    · replace hm := hm.1 c6
      refine lv_aload_n hx hb d_Model_change_27 rfl (lv_at hl 0 rfl) ?_
      refine va_get (D := D) (ci := 5) (v := .ref (ad 1)) (C := R_Model) (T := T_Model) (N := 36) hx hb hts in_Model hown hK hP 0 rfl rfl 0 (by decide) (hts _ wd491) (fun _ h9 => h9) rfl d_Model_change_28 ?_
      refine lv_iload_n hx hb d_Model_change_31 rfl (lv_at hl 1 rfl) ?_
      obtain ⟨h7, hm⟩ := hm
      refine va_iald hx hb hK hP 1 0 rfl rfl h7 d_Model_change_32 ?_
      refine lv_topi (fun v8 ev8 => ?_)
      replace hm := hm v8 ev8
      refine lv_istore_n (lv' := [(3, .int v8), (0, .ref (ad 0)), (1, .int a1), (2, .int a2)]) hx hb d_Model_change_33 rfl hl (by decide) rfl (fun ls hl => ?_)
      refine lv_aload_n hx hb d_Model_change_34 rfl (lv_at hl 1 rfl) ?_
      refine va_get (D := D) (ci := 5) (v := .ref (ad 1)) (C := R_Model) (T := T_Model) (N := 36) hx hb hts in_Model hown hK hP 0 rfl rfl 0 (by decide) (hts _ wd491) (fun _ h9 => h9) rfl d_Model_change_35 ?_
      refine lv_iload_n hx hb d_Model_change_38 rfl (lv_at hl 2 rfl) ?_
      refine lv_iload_n hx hb d_Model_change_39 rfl (lv_at hl 3 rfl) ?_
      obtain ⟨h9, hm⟩ := hm
      refine va_iast hx hb hK hP hD hS 1 0 rfl rfl h9 d_Model_change_40 (fun H locs hP hD hS => ?_)
      have hP : va_P D vwCl (wM ad ca (su s5 0 (a1).toNatClampNeg a2)) H := hP
      have hD : va_D A (wM ad ca (su s5 0 (a1).toNatClampNeg a2)) := hD
      obtain ⟨s10, es10⟩ : ∃ z : St, z = su s5 0 (a1).toNatClampNeg a2 := ⟨_, rfl⟩
      rw [← es10] at hP hD
      replace hm := hm s10 es10
      refine lv_iload_n hx hb d_Model_change_41 rfl (lv_at hl 0 rfl) ?_
      exact rt_i hx hb hr hlocks hK hP hD hS d_Model_change_42 hm
    · replace hm := hm.2 c6
      refine lv_iconst (v := -1) hx hb d_Model_change_25 (by decide) ?_
      exact rt_i hx hb hr hlocks hK hP hD hS d_Model_change_26 hm
set_option maxHeartbeats 4000000 in
set_option maxRecDepth 100000 in
theorem c_Model_clear (l : Launch) (D : va_G) (ad : Nat → Nat) (ca : Nat → ClassId) (sz : Nat) (s : St) (Post : Int32 → St → Prop) (hm : x_Model_clear s  Post) : CtI l y_Model_clear w_Model_clear { frames := 0, cells := 0, slots := 0, locals := 0 } D vwCl (tyM ca) (wM ad ca) sz [.ref (ad 0)] s Post := by
  refine ct_i (cc := prog_8_method_5_code) (maxL := 2) (ret := (some .int)) (by decide) rfl (Nat.le_of_ble_eq_true rfl) ?_
  intro p e s0 m args below meth c A hx hb hr hts hown hlocks hml hK hA
  have hown : s0.vm.findClass R_Model = some m.cls := hown
  intro H locs ls hP hD hS hl
  have hl : lv_has ls 2 [(0, .ref (ad 0))] := hl
  unfold x_Model_clear at hm
  refine lv_aload_n hx hb d_Model_clear_0 rfl (lv_at hl 0 rfl) ?_
  refine va_get (D := D) (ci := 5) (v := .int (s 19 0)) (C := R_Model) (T := T_Model) (N := 36) hx hb hts in_Model hown hK hP 0 rfl rfl 7 (by decide) (hts _ wd498) (fun _ h9 => h9) rfl d_Model_clear_1 ?_
  refine lv_topi (fun v1 ev1 => ?_)
  replace hm := hm v1 ev1
  refine lv_istore_n (lv' := [(1, .int v1), (0, .ref (ad 0))]) hx hb d_Model_clear_4 rfl hl (by decide) rfl (fun ls hl => ?_)
  refine lv_aload_n hx hb d_Model_clear_5 rfl (lv_at hl 1 rfl) ?_
  refine lv_iconst (v := 0) hx hb d_Model_clear_6 (by decide) ?_
  refine va_put (D := D) (ci := 5) (v := .int (0 : Int32)) (ty := .int) (C := R_Model) (T := T_Model) (N := 36) hx hb hts in_Model t_Model to_Model no_Model hown hK hP hD hS 0 rfl rfl 7 (by decide) (hts _ wd498) (fun _ h9 => h9) rfl (by decide +kernel) rfl rfl (Nat.le_of_ble_eq_true rfl) d_Model_clear_7 (fun H locs hP hD hS => ?_)
  have hP : va_P D vwCl (wM ad ca (su s 19 0 (0 : Int32))) H := hP
  have hD : va_D A (wM ad ca (su s 19 0 (0 : Int32))) := hD
  obtain ⟨s2, es2⟩ : ∃ z : St, z = su s 19 0 (0 : Int32) := ⟨_, rfl⟩
  rw [← es2] at hP hD
  replace hm := hm s2 es2
  refine lv_aload_n hx hb d_Model_clear_10 rfl (lv_at hl 1 rfl) ?_
  refine lv_iconst (v := 0) hx hb d_Model_clear_11 (by decide) ?_
  refine va_put (D := D) (ci := 5) (v := .int (0 : Int32)) (ty := .int) (C := R_Model) (T := T_Model) (N := 36) hx hb hts in_Model t_Model to_Model no_Model hown hK hP hD hS 0 rfl rfl 8 (by decide) (hts _ wd499) (fun _ h9 => h9) rfl (by decide +kernel) rfl rfl (Nat.le_of_ble_eq_true rfl) d_Model_clear_12 (fun H locs hP hD hS => ?_)
  have hP : va_P D vwCl (wM ad ca (su s2 19 1 (0 : Int32))) H := hP
  have hD : va_D A (wM ad ca (su s2 19 1 (0 : Int32))) := hD
  obtain ⟨s3, es3⟩ : ∃ z : St, z = su s2 19 1 (0 : Int32) := ⟨_, rfl⟩
  rw [← es3] at hP hD
  replace hm := hm s3 es3
  refine lv_iload_n hx hb d_Model_clear_15 rfl (lv_at hl 0 rfl) ?_
  exact rt_i hx hb hr hlocks hK hP hD hS d_Model_clear_16 hm
set_option maxHeartbeats 4000000 in
set_option maxRecDepth 100000 in
theorem c_Model_handler (l : Launch) (D : va_G) (ad : Nat → Nat) (ca : Nat → ClassId) (sz : Nat) (s : St) (a1 : Int32) (a2 : Int32) (a3 : Int32) (a4 : Int32) (Post : Int32 → St → Prop) (hm : x_Model_handler s a1 a2 a3 a4 Post) : CtI l y_Model_handler w_Model_handler { frames := 1, cells := 0, slots := 0, locals := 22 } D vwCl (tyM ca) (wM ad ca) sz [.ref (ad 0), .int a1, .int a2, .int a3, .int a4] s Post := by
  refine ct_i (cc := prog_8_method_6_code) (maxL := 5) (ret := (some .int)) (by decide) rfl (Nat.le_of_ble_eq_true rfl) ?_
  intro p e s0 m args below meth c A hx hb hr hts hown hlocks hml hK hA
  have hown : s0.vm.findClass R_Model = some m.cls := hown
  intro H locs ls hP hD hS hl
  have hl : lv_has ls 5 [(0, .ref (ad 0)), (1, .int a1), (2, .int a2), (3, .int a3), (4, .int a4)] := hl
  unfold x_Model_handler at hm
  refine lv_iload hx hb d_Model_handler_0 (lv_at hl 4 rfl) ?_
  refine lv_iconst (v := 0) hx hb d_Model_handler_2 (by decide) ?_
  refine lv_sipush (v := 255) hx hb d_Model_handler_3 (by decide) ?_
  refine cg_Si (As := [.int a4, .int (0 : Int32), .int (255 : Int32)]) (rest := []) ⟨hx, hb, hml, hown, hts⟩ hK hP hD hS hA (c_Model_in l D ad ca H.size s a4 (0 : Int32) (255 : Int32) _ hm) (cwB 3 hts wd606 wd7 wd604 wd605 (by decide +kernel) ⟨Nat.le_of_ble_eq_true rfl, Nat.le_of_ble_eq_true rfl⟩) rfl hl rfl (Nat.le_of_ble_eq_true rfl) d_Model_handler_6 (fun r1 s2 hm => ?_)
  intro H locs ls hP hD hS hl
  refine lv_if_eq (tgt := 45) hx hb d_Model_handler_9 (by decide) (fun c3 => ?_) (fun c3 => ?_)
  · replace hm := hm.1 c3
    refine lv_iconst (v := -1) hx hb d_Model_handler_45 (by decide) ?_
    exact rt_i hx hb hr hlocks hK hP hD hS d_Model_handler_46 hm
  · replace hm := hm.2 c3
    refine lv_iload_n hx hb d_Model_handler_12 rfl (lv_at hl 1 rfl) ?_
    refine lv_iconst (v := 0) hx hb d_Model_handler_13 (by decide) ?_
    refine lv_sipush (v := 200) hx hb d_Model_handler_14 (by decide) ?_
    refine cg_Si (As := [.int a1, .int (0 : Int32), .int (200 : Int32)]) (rest := []) ⟨hx, hb, hml, hown, hts⟩ hK hP hD hS hA (c_Model_in l D ad ca H.size s2 a1 (0 : Int32) (200 : Int32) _ hm) (cwB 3 hts wd606 wd7 wd604 wd605 (by decide +kernel) ⟨Nat.le_of_ble_eq_true rfl, Nat.le_of_ble_eq_true rfl⟩) rfl hl rfl (Nat.le_of_ble_eq_true rfl) d_Model_handler_17 (fun r4 s5 hm => ?_)
    intro H locs ls hP hD hS hl
    refine lv_if_eq (tgt := 45) hx hb d_Model_handler_20 (by decide) (fun c6 => ?_) (fun c6 => ?_)
    · replace hm := hm.1 c6
      refine lv_iconst (v := -1) hx hb d_Model_handler_45 (by decide) ?_
      exact rt_i hx hb hr hlocks hK hP hD hS d_Model_handler_46 hm
    · replace hm := hm.2 c6
      refine lv_iload_n hx hb d_Model_handler_23 rfl (lv_at hl 2 rfl) ?_
      refine lv_iconst (v := 0) hx hb d_Model_handler_24 (by decide) ?_
      refine lv_sipush (v := 200) hx hb d_Model_handler_25 (by decide) ?_
      refine cg_Si (As := [.int a2, .int (0 : Int32), .int (200 : Int32)]) (rest := []) ⟨hx, hb, hml, hown, hts⟩ hK hP hD hS hA (c_Model_in l D ad ca H.size s5 a2 (0 : Int32) (200 : Int32) _ hm) (cwB 3 hts wd606 wd7 wd604 wd605 (by decide +kernel) ⟨Nat.le_of_ble_eq_true rfl, Nat.le_of_ble_eq_true rfl⟩) rfl hl rfl (Nat.le_of_ble_eq_true rfl) d_Model_handler_28 (fun r7 s8 hm => ?_)
      intro H locs ls hP hD hS hl
      refine lv_if_eq (tgt := 45) hx hb d_Model_handler_31 (by decide) (fun c9 => ?_) (fun c9 => ?_)
      · replace hm := hm.1 c9
        refine lv_iconst (v := -1) hx hb d_Model_handler_45 (by decide) ?_
        exact rt_i hx hb hr hlocks hK hP hD hS d_Model_handler_46 hm
      · replace hm := hm.2 c9
        refine lv_iload_n hx hb d_Model_handler_34 rfl (lv_at hl 3 rfl) ?_
        refine lv_iconst (v := 0) hx hb d_Model_handler_35 (by decide) ?_
        refine lv_sipush (v := 200) hx hb d_Model_handler_36 (by decide) ?_
        refine cg_Si (As := [.int a3, .int (0 : Int32), .int (200 : Int32)]) (rest := []) ⟨hx, hb, hml, hown, hts⟩ hK hP hD hS hA (c_Model_in l D ad ca H.size s8 a3 (0 : Int32) (200 : Int32) _ hm) (cwB 3 hts wd606 wd7 wd604 wd605 (by decide +kernel) ⟨Nat.le_of_ble_eq_true rfl, Nat.le_of_ble_eq_true rfl⟩) rfl hl rfl (Nat.le_of_ble_eq_true rfl) d_Model_handler_39 (fun r10 s11 hm => ?_)
        intro H locs ls hP hD hS hl
        refine lv_if_ne (tgt := 47) hx hb d_Model_handler_42 (by decide) (fun c12 => ?_) (fun c12 => ?_)
        · replace hm := hm.1 c12
          refine lv_aload_n hx hb d_Model_handler_47 rfl (lv_at hl 0 rfl) ?_
          refine va_get (D := D) (ci := 5) (v := .int (s11 19 1)) (C := R_Model) (T := T_Model) (N := 36) hx hb hts in_Model hown hK hP 0 rfl rfl 8 (by decide) (hts _ wd499) (fun _ h9 => h9) rfl d_Model_handler_48 ?_
          refine lv_iconst (v := 4) hx hb d_Model_handler_51 (by decide) ?_
          refine lv_icmp_ne (tgt := 58) hx hb d_Model_handler_52 (by decide) (fun c13 => ?_) (fun c13 => ?_)
          · replace hm := hm.1 c13
            refine lv_aload_n hx hb d_Model_handler_58 rfl (lv_at hl 0 rfl) ?_
            refine va_get (D := D) (ci := 5) (v := .ref (ad 2)) (C := R_Model) (T := T_Model) (N := 36) hx hb hts in_Model hown hK hP 0 rfl rfl 1 (by decide) (hts _ wd492) (fun _ h9 => h9) rfl d_Model_handler_59 ?_
            refine lv_aload_n hx hb d_Model_handler_62 rfl (lv_at hl 0 rfl) ?_
            refine va_get (D := D) (ci := 5) (v := .int (s11 19 1)) (C := R_Model) (T := T_Model) (N := 36) hx hb hts in_Model hown hK hP 0 rfl rfl 8 (by decide) (hts _ wd499) (fun _ h9 => h9) rfl d_Model_handler_63 ?_
            refine lv_iload_n hx hb d_Model_handler_66 rfl (lv_at hl 1 rfl) ?_
            obtain ⟨h14, hm⟩ := hm
            refine va_iast hx hb hK hP hD hS 2 1 rfl rfl h14 d_Model_handler_67 (fun H locs hP hD hS => ?_)
            have hP : va_P D vwCl (wM ad ca (su s11 1 ((s11 19 1)).toNatClampNeg a1)) H := hP
            have hD : va_D A (wM ad ca (su s11 1 ((s11 19 1)).toNatClampNeg a1)) := hD
            obtain ⟨s15, es15⟩ : ∃ z : St, z = su s11 1 ((s11 19 1)).toNatClampNeg a1 := ⟨_, rfl⟩
            rw [← es15] at hP hD
            replace hm := hm s15 es15
            refine lv_aload_n hx hb d_Model_handler_68 rfl (lv_at hl 0 rfl) ?_
            refine va_get (D := D) (ci := 5) (v := .ref (ad 3)) (C := R_Model) (T := T_Model) (N := 36) hx hb hts in_Model hown hK hP 0 rfl rfl 2 (by decide) (hts _ wd493) (fun _ h9 => h9) rfl d_Model_handler_69 ?_
            refine lv_aload_n hx hb d_Model_handler_72 rfl (lv_at hl 0 rfl) ?_
            refine va_get (D := D) (ci := 5) (v := .int (s15 19 1)) (C := R_Model) (T := T_Model) (N := 36) hx hb hts in_Model hown hK hP 0 rfl rfl 8 (by decide) (hts _ wd499) (fun _ h9 => h9) rfl d_Model_handler_73 ?_
            refine lv_iload_n hx hb d_Model_handler_76 rfl (lv_at hl 2 rfl) ?_
            obtain ⟨h16, hm⟩ := hm
            refine va_iast hx hb hK hP hD hS 3 2 rfl rfl h16 d_Model_handler_77 (fun H locs hP hD hS => ?_)
            have hP : va_P D vwCl (wM ad ca (su s15 2 ((s15 19 1)).toNatClampNeg a2)) H := hP
            have hD : va_D A (wM ad ca (su s15 2 ((s15 19 1)).toNatClampNeg a2)) := hD
            obtain ⟨s17, es17⟩ : ∃ z : St, z = su s15 2 ((s15 19 1)).toNatClampNeg a2 := ⟨_, rfl⟩
            rw [← es17] at hP hD
            replace hm := hm s17 es17
            refine lv_aload_n hx hb d_Model_handler_78 rfl (lv_at hl 0 rfl) ?_
            refine va_get (D := D) (ci := 5) (v := .ref (ad 4)) (C := R_Model) (T := T_Model) (N := 36) hx hb hts in_Model hown hK hP 0 rfl rfl 3 (by decide) (hts _ wd494) (fun _ h9 => h9) rfl d_Model_handler_79 ?_
            refine lv_aload_n hx hb d_Model_handler_82 rfl (lv_at hl 0 rfl) ?_
            refine va_get (D := D) (ci := 5) (v := .int (s17 19 1)) (C := R_Model) (T := T_Model) (N := 36) hx hb hts in_Model hown hK hP 0 rfl rfl 8 (by decide) (hts _ wd499) (fun _ h9 => h9) rfl d_Model_handler_83 ?_
            refine lv_iload_n hx hb d_Model_handler_86 rfl (lv_at hl 3 rfl) ?_
            obtain ⟨h18, hm⟩ := hm
            refine va_iast hx hb hK hP hD hS 4 3 rfl rfl h18 d_Model_handler_87 (fun H locs hP hD hS => ?_)
            have hP : va_P D vwCl (wM ad ca (su s17 3 ((s17 19 1)).toNatClampNeg a3)) H := hP
            have hD : va_D A (wM ad ca (su s17 3 ((s17 19 1)).toNatClampNeg a3)) := hD
            obtain ⟨s19, es19⟩ : ∃ z : St, z = su s17 3 ((s17 19 1)).toNatClampNeg a3 := ⟨_, rfl⟩
            rw [← es19] at hP hD
            replace hm := hm s19 es19
            refine lv_aload_n hx hb d_Model_handler_88 rfl (lv_at hl 0 rfl) ?_
            refine va_get (D := D) (ci := 5) (v := .ref (ad 5)) (C := R_Model) (T := T_Model) (N := 36) hx hb hts in_Model hown hK hP 0 rfl rfl 4 (by decide) (hts _ wd495) (fun _ h9 => h9) rfl d_Model_handler_89 ?_
            refine lv_aload_n hx hb d_Model_handler_92 rfl (lv_at hl 0 rfl) ?_
            refine va_get (D := D) (ci := 5) (v := .int (s19 19 1)) (C := R_Model) (T := T_Model) (N := 36) hx hb hts in_Model hown hK hP 0 rfl rfl 8 (by decide) (hts _ wd499) (fun _ h9 => h9) rfl d_Model_handler_93 ?_
            refine lv_iload hx hb d_Model_handler_96 (lv_at hl 4 rfl) ?_
            obtain ⟨h20, hm⟩ := hm
            refine va_iast hx hb hK hP hD hS 5 4 rfl rfl h20 d_Model_handler_98 (fun H locs hP hD hS => ?_)
            have hP : va_P D vwCl (wM ad ca (su s19 4 ((s19 19 1)).toNatClampNeg a4)) H := hP
            have hD : va_D A (wM ad ca (su s19 4 ((s19 19 1)).toNatClampNeg a4)) := hD
            obtain ⟨s21, es21⟩ : ∃ z : St, z = su s19 4 ((s19 19 1)).toNatClampNeg a4 := ⟨_, rfl⟩
            rw [← es21] at hP hD
            replace hm := hm s21 es21
            refine lv_aload_n hx hb d_Model_handler_99 rfl (lv_at hl 0 rfl) ?_
            refine lv_dup hx hb d_Model_handler_100 rfl ?_
            refine va_get (D := D) (ci := 5) (v := .int (s21 19 1)) (C := R_Model) (T := T_Model) (N := 36) hx hb hts in_Model hown hK hP 0 rfl rfl 8 (by decide) (hts _ wd499) (fun _ h9 => h9) rfl d_Model_handler_101 ?_
            refine lv_iconst (v := 1) hx hb d_Model_handler_104 (by decide) ?_
            refine lv_iadd hx hb d_Model_handler_105 ?_
            refine va_put (D := D) (ci := 5) (v := .int ((s21 19 1) + (1 : Int32))) (ty := .int) (C := R_Model) (T := T_Model) (N := 36) hx hb hts in_Model t_Model to_Model no_Model hown hK hP hD hS 0 rfl rfl 8 (by decide) (hts _ wd499) (fun _ h9 => h9) rfl (by decide +kernel) rfl rfl (Nat.le_of_ble_eq_true rfl) d_Model_handler_106 (fun H locs hP hD hS => ?_)
            have hP : va_P D vwCl (wM ad ca (su s21 19 1 ((s21 19 1) + (1 : Int32)))) H := hP
            have hD : va_D A (wM ad ca (su s21 19 1 ((s21 19 1) + (1 : Int32)))) := hD
            obtain ⟨s22, es22⟩ : ∃ z : St, z = su s21 19 1 ((s21 19 1) + (1 : Int32)) := ⟨_, rfl⟩
            rw [← es22] at hP hD
            replace hm := hm s22 es22
            refine lv_aload_n hx hb d_Model_handler_109 rfl (lv_at hl 0 rfl) ?_
            refine va_get (D := D) (ci := 5) (v := .int (s22 19 1)) (C := R_Model) (T := T_Model) (N := 36) hx hb hts in_Model hown hK hP 0 rfl rfl 8 (by decide) (hts _ wd499) (fun _ h9 => h9) rfl d_Model_handler_110 ?_
            exact rt_i hx hb hr hlocks hK hP hD hS d_Model_handler_113 hm
          · replace hm := hm.2 c13
            refine lv_bipush (v := -2) hx hb d_Model_handler_55 (by decide) ?_
            exact rt_i hx hb hr hlocks hK hP hD hS d_Model_handler_57 hm
        · replace hm := hm.2 c12
          refine lv_iconst (v := -1) hx hb d_Model_handler_45 (by decide) ?_
          exact rt_i hx hb hr hlocks hK hP hD hS d_Model_handler_46 hm
set_option maxHeartbeats 4000000 in
set_option maxRecDepth 100000 in
theorem c_Model_mark (l : Launch) (D : va_G) (ad : Nat → Nat) (ca : Nat → ClassId) (sz : Nat) (s : St) (a1 : Int32) (a2 : Int32) (Post : Int32 → St → Prop) (hm : x_Model_mark s a1 a2 Post) : CtI l y_Model_mark w_Model_mark { frames := 1, cells := 0, slots := 0, locals := 22 } D vwCl (tyM ca) (wM ad ca) sz [.ref (ad 0), .int a1, .int a2] s Post := by
  refine ct_i (cc := prog_8_method_7_code) (maxL := 3) (ret := (some .boolean)) (by decide) rfl (Nat.le_of_ble_eq_true rfl) ?_
  intro p e s0 m args below meth c A hx hb hr hts hown hlocks hml hK hA
  have hown : s0.vm.findClass R_Model = some m.cls := hown
  intro H locs ls hP hD hS hl
  have hl : lv_has ls 3 [(0, .ref (ad 0)), (1, .int a1), (2, .int a2)] := hl
  unfold x_Model_mark at hm
  refine lv_iload_n hx hb d_Model_mark_0 rfl (lv_at hl 1 rfl) ?_
  refine lv_iconst (v := 1) hx hb d_Model_mark_1 (by decide) ?_
  refine lv_sipush (v := 255) hx hb d_Model_mark_2 (by decide) ?_
  refine cg_Si (As := [.int a1, .int (1 : Int32), .int (255 : Int32)]) (rest := []) ⟨hx, hb, hml, hown, hts⟩ hK hP hD hS hA (c_Model_in l D ad ca H.size s a1 (1 : Int32) (255 : Int32) _ hm) (cwB 3 hts wd606 wd7 wd604 wd605 (by decide +kernel) ⟨Nat.le_of_ble_eq_true rfl, Nat.le_of_ble_eq_true rfl⟩) rfl hl rfl (Nat.le_of_ble_eq_true rfl) d_Model_mark_5 (fun r1 s2 hm => ?_)
  intro H locs ls hP hD hS hl
  refine lv_if_ne (tgt := 13) hx hb d_Model_mark_8 (by decide) (fun c3 => ?_) (fun c3 => ?_)
  · replace hm := hm.1 c3
    refine lv_aload_n hx hb d_Model_mark_13 rfl (lv_at hl 0 rfl) ?_
    refine va_get (D := D) (ci := 5) (v := .ref (ad 7)) (C := R_Model) (T := T_Model) (N := 36) hx hb hts in_Model hown hK hP 0 rfl rfl 6 (by decide) (hts _ wd497) (fun _ h9 => h9) rfl d_Model_mark_14 ?_
    refine lv_iload_n hx hb d_Model_mark_17 rfl (lv_at hl 1 rfl) ?_
    refine lv_iload_n hx hb d_Model_mark_18 rfl (lv_at hl 2 rfl) ?_
    obtain ⟨h4, hm⟩ := hm
    refine va_zast hx hb hK hP hD hS 7 6 rfl rfl h4 d_Model_mark_19 (fun H locs hP hD hS => ?_)
    have hP : va_P D vwCl (wM ad ca (su s2 6 (a1).toNatClampNeg (vp_nar .boolean a2))) H := hP
    have hD : va_D A (wM ad ca (su s2 6 (a1).toNatClampNeg (vp_nar .boolean a2))) := hD
    obtain ⟨s5, es5⟩ : ∃ z : St, z = su s2 6 (a1).toNatClampNeg (vp_nar .boolean a2) := ⟨_, rfl⟩
    rw [← es5] at hP hD
    replace hm := hm s5 es5
    refine lv_iconst (v := 1) hx hb d_Model_mark_20 (by decide) ?_
    exact rt_z hx hb hr hm.1 hlocks hK hP hD hS d_Model_mark_21 hm.2
  · replace hm := hm.2 c3
    refine lv_iconst (v := 0) hx hb d_Model_mark_11 (by decide) ?_
    exact rt_z hx hb hr hm.1 hlocks hK hP hD hS d_Model_mark_12 hm.2
set_option maxHeartbeats 4000000 in
set_option maxRecDepth 100000 in
theorem c_Model_cost (l : Launch) (D : va_G) (ad : Nat → Nat) (ca : Nat → ClassId) (sz : Nat) (s : St) (a1 : Int32) (a2 : Int32) (Post : Int32 → St → Prop) (hm : x_Model_cost s a1 a2 Post) : CtI l y_Model_cost w_Model_cost { frames := 1, cells := 0, slots := 0, locals := 22 } D vwCl (tyM ca) (wM ad ca) sz [.ref (ad 0), .int a1, .int a2] s Post := by
  refine ct_i (cc := prog_8_method_8_code) (maxL := 4) (ret := (some .int)) (by decide) rfl (Nat.le_of_ble_eq_true rfl) ?_
  intro p e s0 m args below meth c A hx hb hr hts hown hlocks hml hK hA
  have hown : s0.vm.findClass R_Model = some m.cls := hown
  intro H locs ls hP hD hS hl
  have hl : lv_has ls 4 [(0, .ref (ad 0)), (1, .int a1), (2, .int a2)] := hl
  unfold x_Model_cost at hm
  refine lv_iload_n hx hb d_Model_cost_0 rfl (lv_at hl 1 rfl) ?_
  refine lv_iconst (v := 0) hx hb d_Model_cost_1 (by decide) ?_
  refine lv_sipush (v := 200) hx hb d_Model_cost_2 (by decide) ?_
  refine cg_Si (As := [.int a1, .int (0 : Int32), .int (200 : Int32)]) (rest := []) ⟨hx, hb, hml, hown, hts⟩ hK hP hD hS hA (c_Model_in l D ad ca H.size s a1 (0 : Int32) (200 : Int32) _ hm) (cwB 3 hts wd606 wd7 wd604 wd605 (by decide +kernel) ⟨Nat.le_of_ble_eq_true rfl, Nat.le_of_ble_eq_true rfl⟩) rfl hl rfl (Nat.le_of_ble_eq_true rfl) d_Model_cost_5 (fun r1 s2 hm => ?_)
  intro H locs ls hP hD hS hl
  refine lv_if_eq (tgt := 21) hx hb d_Model_cost_8 (by decide) (fun c3 => ?_) (fun c3 => ?_)
  · replace hm := hm.1 c3
    refine lv_iconst (v := -1) hx hb d_Model_cost_21 (by decide) ?_
    exact rt_i hx hb hr hlocks hK hP hD hS d_Model_cost_22 hm
  · replace hm := hm.2 c3
    refine lv_iload_n hx hb d_Model_cost_11 rfl (lv_at hl 2 rfl) ?_
    refine lv_iconst (v := 0) hx hb d_Model_cost_12 (by decide) ?_
    refine lv_bipush (v := 99) hx hb d_Model_cost_13 (by decide) ?_
    refine cg_Si (As := [.int a2, .int (0 : Int32), .int (99 : Int32)]) (rest := []) ⟨hx, hb, hml, hown, hts⟩ hK hP hD hS hA (c_Model_in l D ad ca H.size s2 a2 (0 : Int32) (99 : Int32) _ hm) (cwB 3 hts wd606 wd7 wd604 wd605 (by decide +kernel) ⟨Nat.le_of_ble_eq_true rfl, Nat.le_of_ble_eq_true rfl⟩) rfl hl rfl (Nat.le_of_ble_eq_true rfl) d_Model_cost_15 (fun r4 s5 hm => ?_)
    intro H locs ls hP hD hS hl
    refine lv_if_ne (tgt := 23) hx hb d_Model_cost_18 (by decide) (fun c6 => ?_) (fun c6 => ?_)
    · replace hm := hm.1 c6
      refine lv_aload_n hx hb d_Model_cost_23 rfl (lv_at hl 0 rfl) ?_
      refine va_get (D := D) (ci := 5) (v := .ref (ad 6)) (C := R_Model) (T := T_Model) (N := 36) hx hb hts in_Model hown hK hP 0 rfl rfl 5 (by decide) (hts _ wd496) (fun _ h9 => h9) rfl d_Model_cost_24 ?_
      refine lv_iload_n hx hb d_Model_cost_27 rfl (lv_at hl 1 rfl) ?_
      obtain ⟨h7, hm⟩ := hm
      refine va_iald hx hb hK hP 6 5 rfl rfl h7 d_Model_cost_28 ?_
      refine lv_topi (fun v8 ev8 => ?_)
      replace hm := hm v8 ev8
      refine lv_istore_n (lv' := [(3, .int v8), (0, .ref (ad 0)), (1, .int a1), (2, .int a2)]) hx hb d_Model_cost_29 rfl hl (by decide) rfl (fun ls hl => ?_)
      refine lv_aload_n hx hb d_Model_cost_30 rfl (lv_at hl 1 rfl) ?_
      refine va_get (D := D) (ci := 5) (v := .ref (ad 6)) (C := R_Model) (T := T_Model) (N := 36) hx hb hts in_Model hown hK hP 0 rfl rfl 5 (by decide) (hts _ wd496) (fun _ h9 => h9) rfl d_Model_cost_31 ?_
      refine lv_iload_n hx hb d_Model_cost_34 rfl (lv_at hl 2 rfl) ?_
      refine lv_iload_n hx hb d_Model_cost_35 rfl (lv_at hl 3 rfl) ?_
      obtain ⟨h9, hm⟩ := hm
      refine va_iast hx hb hK hP hD hS 6 5 rfl rfl h9 d_Model_cost_36 (fun H locs hP hD hS => ?_)
      have hP : va_P D vwCl (wM ad ca (su s5 5 (a1).toNatClampNeg a2)) H := hP
      have hD : va_D A (wM ad ca (su s5 5 (a1).toNatClampNeg a2)) := hD
      obtain ⟨s10, es10⟩ : ∃ z : St, z = su s5 5 (a1).toNatClampNeg a2 := ⟨_, rfl⟩
      rw [← es10] at hP hD
      replace hm := hm s10 es10
      refine lv_iload_n hx hb d_Model_cost_37 rfl (lv_at hl 0 rfl) ?_
      exact rt_i hx hb hr hlocks hK hP hD hS d_Model_cost_38 hm
    · replace hm := hm.2 c6
      refine lv_iconst (v := -1) hx hb d_Model_cost_21 (by decide) ?_
      exact rt_i hx hb hr hlocks hK hP hD hS d_Model_cost_22 hm
set_option maxHeartbeats 4000000 in
set_option maxRecDepth 100000 in
theorem c_Model_set (l : Launch) (D : va_G) (ad : Nat → Nat) (ca : Nat → ClassId) (sz : Nat) (s : St) (a1 : Int32) (a2 : Int32) (Post : Int32 → St → Prop) (hm : x_Model_set s a1 a2 Post) : CtI l y_Model_set w_Model_set { frames := 1, cells := 0, slots := 0, locals := 22 } D vwCl (tyM ca) (wM ad ca) sz [.ref (ad 0), .int a1, .int a2] s Post := by
  refine ct_i (cc := prog_8_method_9_code) (maxL := 3) (ret := (some .boolean)) (by decide) rfl (Nat.le_of_ble_eq_true rfl) ?_
  intro p e s0 m args below meth c A hx hb hr hts hown hlocks hml hK hA
  have hown : s0.vm.findClass R_Model = some m.cls := hown
  intro H locs ls hP hD hS hl
  have hl : lv_has ls 3 [(0, .ref (ad 0)), (1, .int a1), (2, .int a2)] := hl
  unfold x_Model_set at hm
  refine lv_iload_n hx hb d_Model_set_0 rfl (lv_at hl 1 rfl) ?_
  refine lv_iconst (v := 0) hx hb d_Model_set_1 (by decide) ?_
  refine lv_ldc (v := 65530) hx hb hown (hts _ wd632) d_Model_set_2 ?_
  refine cg_Si (As := [.int a1, .int (0 : Int32), .int (65530 : Int32)]) (rest := []) ⟨hx, hb, hml, hown, hts⟩ hK hP hD hS hA (c_Model_in l D ad ca H.size s a1 (0 : Int32) (65530 : Int32) _ hm) (cwB 3 hts wd606 wd7 wd604 wd605 (by decide +kernel) ⟨Nat.le_of_ble_eq_true rfl, Nat.le_of_ble_eq_true rfl⟩) rfl hl rfl (Nat.le_of_ble_eq_true rfl) d_Model_set_4 (fun r1 s2 hm => ?_)
  intro H locs ls hP hD hS hl
  refine lv_if_eq (tgt := 21) hx hb d_Model_set_7 (by decide) (fun c3 => ?_) (fun c3 => ?_)
  · replace hm := hm.1 c3
    refine lv_iconst (v := 0) hx hb d_Model_set_21 (by decide) ?_
    exact rt_z hx hb hr hm.1 hlocks hK hP hD hS d_Model_set_22 hm.2
  · replace hm := hm.2 c3
    refine lv_iload_n hx hb d_Model_set_10 rfl (lv_at hl 2 rfl) ?_
    refine lv_iconst (v := 4) hx hb d_Model_set_11 (by decide) ?_
    refine lv_sipush (v := 32767) hx hb d_Model_set_12 (by decide) ?_
    refine cg_Si (As := [.int a2, .int (4 : Int32), .int (32767 : Int32)]) (rest := []) ⟨hx, hb, hml, hown, hts⟩ hK hP hD hS hA (c_Model_in l D ad ca H.size s2 a2 (4 : Int32) (32767 : Int32) _ hm) (cwB 3 hts wd606 wd7 wd604 wd605 (by decide +kernel) ⟨Nat.le_of_ble_eq_true rfl, Nat.le_of_ble_eq_true rfl⟩) rfl hl rfl (Nat.le_of_ble_eq_true rfl) d_Model_set_15 (fun r4 s5 hm => ?_)
    intro H locs ls hP hD hS hl
    refine lv_if_ne (tgt := 23) hx hb d_Model_set_18 (by decide) (fun c6 => ?_) (fun c6 => ?_)
    · replace hm := hm.1 c6
      refine lv_aload_n hx hb d_Model_set_23 rfl (lv_at hl 0 rfl) ?_
      refine lv_iload_n hx hb d_Model_set_24 rfl (lv_at hl 1 rfl) ?_
      refine va_put (D := D) (ci := 5) (v := .int a1) (ty := .int) (C := R_Model) (T := T_Model) (N := 36) hx hb hts in_Model t_Model to_Model no_Model hown hK hP hD hS 0 rfl rfl 9 (by decide) (hts _ wd500) (fun _ h9 => h9) rfl (by decide +kernel) rfl rfl (Nat.le_of_ble_eq_true rfl) d_Model_set_25 (fun H locs hP hD hS => ?_)
      have hP : va_P D vwCl (wM ad ca (su s5 19 2 a1)) H := hP
      have hD : va_D A (wM ad ca (su s5 19 2 a1)) := hD
      obtain ⟨s7, es7⟩ : ∃ z : St, z = su s5 19 2 a1 := ⟨_, rfl⟩
      rw [← es7] at hP hD
      replace hm := hm s7 es7
      refine lv_aload_n hx hb d_Model_set_28 rfl (lv_at hl 0 rfl) ?_
      refine lv_iload_n hx hb d_Model_set_29 rfl (lv_at hl 2 rfl) ?_
      refine va_put (D := D) (ci := 5) (v := .int a2) (ty := .int) (C := R_Model) (T := T_Model) (N := 36) hx hb hts in_Model t_Model to_Model no_Model hown hK hP hD hS 0 rfl rfl 10 (by decide) (hts _ wd501) (fun _ h9 => h9) rfl (by decide +kernel) rfl rfl (Nat.le_of_ble_eq_true rfl) d_Model_set_30 (fun H locs hP hD hS => ?_)
      have hP : va_P D vwCl (wM ad ca (su s7 19 3 a2)) H := hP
      have hD : va_D A (wM ad ca (su s7 19 3 a2)) := hD
      obtain ⟨s8, es8⟩ : ∃ z : St, z = su s7 19 3 a2 := ⟨_, rfl⟩
      rw [← es8] at hP hD
      replace hm := hm s8 es8
      refine lv_iconst (v := 1) hx hb d_Model_set_33 (by decide) ?_
      exact rt_z hx hb hr hm.1 hlocks hK hP hD hS d_Model_set_34 hm.2
    · replace hm := hm.2 c6
      refine lv_iconst (v := 0) hx hb d_Model_set_21 (by decide) ?_
      exact rt_z hx hb hr hm.1 hlocks hK hP hD hS d_Model_set_22 hm.2
set_option maxHeartbeats 4000000 in
set_option maxRecDepth 100000 in
theorem c_Model_s4 (l : Launch) (D : va_G) (ad : Nat → Nat) (ca : Nat → ClassId) (sz : Nat) (s : St) (a1 : Int32) (Post : Int32 → St → Prop) (hm : x_Model_s4 s a1 Post) : CtI l y_Model_s4 w_Model_s4 { frames := 0, cells := 0, slots := 0, locals := 0 } D vwCl (tyM ca) (wM ad ca) sz [.ref (ad 0), .int a1] s Post := by
  refine ct_i (cc := prog_8_method_10_code) (maxL := 2) (ret := (some .int)) (by decide) rfl (Nat.le_of_ble_eq_true rfl) ?_
  intro p e s0 m args below meth c A hx hb hr hts hown hlocks hml hK hA
  have hown : s0.vm.findClass R_Model = some m.cls := hown
  intro H locs ls hP hD hS hl
  have hl : lv_has ls 2 [(0, .ref (ad 0)), (1, .int a1)] := hl
  unfold x_Model_s4 at hm
  refine lv_aload_n hx hb d_Model_s4_0 rfl (lv_at hl 0 rfl) ?_
  refine va_get (D := D) (ci := 5) (v := .ref (ad 10)) (C := R_Model) (T := T_Model) (N := 36) hx hb hts in_Model hown hK hP 0 rfl rfl 14 (by decide) (hts _ wd505) (fun _ h9 => h9) rfl d_Model_s4_1 ?_
  refine lv_iload_n hx hb d_Model_s4_4 rfl (lv_at hl 1 rfl) ?_
  obtain ⟨h1, hm⟩ := hm
  refine va_iald hx hb hK hP 10 9 rfl rfl h1 d_Model_s4_5 ?_
  refine lv_bipush (v := 24) hx hb d_Model_s4_6 (by decide) ?_
  refine lv_ishl hx hb d_Model_s4_8 ?_
  refine lv_aload_n hx hb d_Model_s4_9 rfl (lv_at hl 0 rfl) ?_
  refine va_get (D := D) (ci := 5) (v := .ref (ad 10)) (C := R_Model) (T := T_Model) (N := 36) hx hb hts in_Model hown hK hP 0 rfl rfl 14 (by decide) (hts _ wd505) (fun _ h9 => h9) rfl d_Model_s4_10 ?_
  refine lv_iload_n hx hb d_Model_s4_13 rfl (lv_at hl 1 rfl) ?_
  refine lv_iconst (v := 1) hx hb d_Model_s4_14 (by decide) ?_
  refine lv_iadd hx hb d_Model_s4_15 ?_
  obtain ⟨h2, hm⟩ := hm
  refine va_iald hx hb hK hP 10 9 rfl rfl h2 d_Model_s4_16 ?_
  refine lv_bipush (v := 16) hx hb d_Model_s4_17 (by decide) ?_
  refine lv_ishl hx hb d_Model_s4_19 ?_
  refine lv_ior hx hb d_Model_s4_20 ?_
  refine lv_aload_n hx hb d_Model_s4_21 rfl (lv_at hl 0 rfl) ?_
  refine va_get (D := D) (ci := 5) (v := .ref (ad 10)) (C := R_Model) (T := T_Model) (N := 36) hx hb hts in_Model hown hK hP 0 rfl rfl 14 (by decide) (hts _ wd505) (fun _ h9 => h9) rfl d_Model_s4_22 ?_
  refine lv_iload_n hx hb d_Model_s4_25 rfl (lv_at hl 1 rfl) ?_
  refine lv_iconst (v := 2) hx hb d_Model_s4_26 (by decide) ?_
  refine lv_iadd hx hb d_Model_s4_27 ?_
  obtain ⟨h3, hm⟩ := hm
  refine va_iald hx hb hK hP 10 9 rfl rfl h3 d_Model_s4_28 ?_
  refine lv_bipush (v := 8) hx hb d_Model_s4_29 (by decide) ?_
  refine lv_ishl hx hb d_Model_s4_31 ?_
  refine lv_ior hx hb d_Model_s4_32 ?_
  refine lv_aload_n hx hb d_Model_s4_33 rfl (lv_at hl 0 rfl) ?_
  refine va_get (D := D) (ci := 5) (v := .ref (ad 10)) (C := R_Model) (T := T_Model) (N := 36) hx hb hts in_Model hown hK hP 0 rfl rfl 14 (by decide) (hts _ wd505) (fun _ h9 => h9) rfl d_Model_s4_34 ?_
  refine lv_iload_n hx hb d_Model_s4_37 rfl (lv_at hl 1 rfl) ?_
  refine lv_iconst (v := 3) hx hb d_Model_s4_38 (by decide) ?_
  refine lv_iadd hx hb d_Model_s4_39 ?_
  obtain ⟨h4, hm⟩ := hm
  refine va_iald hx hb hK hP 10 9 rfl rfl h4 d_Model_s4_40 ?_
  refine lv_ior hx hb d_Model_s4_41 ?_
  exact rt_i hx hb hr hlocks hK hP hD hS d_Model_s4_42 hm
set_option maxHeartbeats 4000000 in
set_option maxRecDepth 100000 in
theorem c_Model_isJump (l : Launch) (D : va_G) (ad : Nat → Nat) (ca : Nat → ClassId) (sz : Nat) (s : St) (a0 : Int32) (Post : Int32 → St → Prop) (hm : x_Model_isJump s a0 Post) : CtI l y_Model_isJump w_Model_isJump { frames := 1, cells := 0, slots := 0, locals := 22 } D vwCl (tyM ca) (wM ad ca) sz [.int a0] s Post := by
  refine ct_i (cc := prog_8_method_11_code) (maxL := 1) (ret := (some .boolean)) (by decide) rfl (Nat.le_of_ble_eq_true rfl) ?_
  intro p e s0 m args below meth c A hx hb hr hts hown hlocks hml hK hA
  have hown : s0.vm.findClass R_Model = some m.cls := hown
  have B26 : ∀ (s : St), x_Model_isJump_26  Post s → Bk D vwCl (wM ad ca) A p l e { frames := 1, cells := 0, slots := 0, locals := 22 } s0 m args below meth c (MQ below (va_Qi Post (atG D vwCl (tyM ca) (wM ad ca) A) A) args s0 0 0 A) 1 26 s [] [] := by
    intro  s hm H locs ls hP hD hS hl
    unfold x_Model_isJump_26 at hm
    refine lv_iconst (v := 1) hx hb d_Model_isJump_26 (by decide) ?_
    refine lv_goto (tgt := 31) hx hb d_Model_isJump_27 (by decide) ?_
    exact rt_z hx hb hr hm.1 hlocks hK hP hD hS d_Model_isJump_31 hm.2
  intro H locs ls hP hD hS hl
  have hl : lv_has ls 1 [(0, .int a0)] := hl
  unfold x_Model_isJump at hm
  refine lv_iload_n hx hb d_Model_isJump_0 rfl (lv_at hl 0 rfl) ?_
  refine lv_sipush (v := 153) hx hb d_Model_isJump_1 (by decide) ?_
  refine lv_sipush (v := 167) hx hb d_Model_isJump_4 (by decide) ?_
  refine cg_Si (As := [.int a0, .int (153 : Int32), .int (167 : Int32)]) (rest := []) ⟨hx, hb, hml, hown, hts⟩ hK hP hD hS hA (c_Model_in l D ad ca H.size s a0 (153 : Int32) (167 : Int32) _ hm) (cwB 3 hts wd606 wd7 wd604 wd605 (by decide +kernel) ⟨Nat.le_of_ble_eq_true rfl, Nat.le_of_ble_eq_true rfl⟩) rfl hl rfl (Nat.le_of_ble_eq_true rfl) d_Model_isJump_7 (fun r1 s2 hm => ?_)
  intro H locs ls hP hD hS hl
  refine lv_if_ne (tgt := 26) hx hb d_Model_isJump_10 (by decide) (fun c3 => ?_) (fun c3 => ?_)
  · replace hm := hm.1 c3
    exact B26  s2 hm H locs ls hP hD hS (lv_sub hl [] rfl)
  · replace hm := hm.2 c3
    refine lv_iload_n hx hb d_Model_isJump_13 rfl (lv_at hl 0 rfl) ?_
    refine lv_sipush (v := 198) hx hb d_Model_isJump_14 (by decide) ?_
    refine lv_sipush (v := 200) hx hb d_Model_isJump_17 (by decide) ?_
    refine cg_Si (As := [.int a0, .int (198 : Int32), .int (200 : Int32)]) (rest := []) ⟨hx, hb, hml, hown, hts⟩ hK hP hD hS hA (c_Model_in l D ad ca H.size s2 a0 (198 : Int32) (200 : Int32) _ hm) (cwB 3 hts wd606 wd7 wd604 wd605 (by decide +kernel) ⟨Nat.le_of_ble_eq_true rfl, Nat.le_of_ble_eq_true rfl⟩) rfl hl rfl (Nat.le_of_ble_eq_true rfl) d_Model_isJump_20 (fun r4 s5 hm => ?_)
    intro H locs ls hP hD hS hl
    refine lv_if_eq (tgt := 30) hx hb d_Model_isJump_23 (by decide) (fun c6 => ?_) (fun c6 => ?_)
    · replace hm := hm.1 c6
      refine lv_iconst (v := 0) hx hb d_Model_isJump_30 (by decide) ?_
      exact rt_z hx hb hr hm.1 hlocks hK hP hD hS d_Model_isJump_31 hm.2
    · replace hm := hm.2 c6
      exact B26  s5 hm H locs ls hP hD hS (lv_sub hl [] rfl)
set_option maxHeartbeats 4000000 in
set_option maxRecDepth 100000 in
theorem c_Model_isTable (l : Launch) (D : va_G) (ad : Nat → Nat) (ca : Nat → ClassId) (sz : Nat) (s : St) (a0 : Int32) (Post : Int32 → St → Prop) (hm : x_Model_isTable s a0 Post) : CtI l y_Model_isTable w_Model_isTable { frames := 0, cells := 0, slots := 0, locals := 0 } D vwCl (tyM ca) (wM ad ca) sz [.int a0] s Post := by
  refine ct_i (cc := prog_8_method_12_code) (maxL := 1) (ret := (some .boolean)) (by decide) rfl (Nat.le_of_ble_eq_true rfl) ?_
  intro p e s0 m args below meth c A hx hb hr hts hown hlocks hml hK hA
  have hown : s0.vm.findClass R_Model = some m.cls := hown
  have B14 : ∀ (s : St), x_Model_isTable_14  Post s → Bk D vwCl (wM ad ca) A p l e { frames := 0, cells := 0, slots := 0, locals := 0 } s0 m args below meth c (MQ below (va_Qi Post (atG D vwCl (tyM ca) (wM ad ca) A) A) args s0 0 0 A) 1 14 s [] [] := by
    intro  s hm H locs ls hP hD hS hl
    unfold x_Model_isTable_14 at hm
    refine lv_iconst (v := 1) hx hb d_Model_isTable_14 (by decide) ?_
    refine lv_goto (tgt := 19) hx hb d_Model_isTable_15 (by decide) ?_
    exact rt_z hx hb hr hm.1 hlocks hK hP hD hS d_Model_isTable_19 hm.2
  intro H locs ls hP hD hS hl
  have hl : lv_has ls 1 [(0, .int a0)] := hl
  unfold x_Model_isTable at hm
  refine lv_iload_n hx hb d_Model_isTable_0 rfl (lv_at hl 0 rfl) ?_
  refine lv_sipush (v := 170) hx hb d_Model_isTable_1 (by decide) ?_
  refine lv_icmp_eq (tgt := 14) hx hb d_Model_isTable_4 (by decide) (fun c1 => ?_) (fun c1 => ?_)
  · replace hm := hm.1 c1
    exact B14  s hm H locs ls hP hD hS (lv_sub hl [] rfl)
  · replace hm := hm.2 c1
    refine lv_iload_n hx hb d_Model_isTable_7 rfl (lv_at hl 0 rfl) ?_
    refine lv_sipush (v := 171) hx hb d_Model_isTable_8 (by decide) ?_
    refine lv_icmp_ne (tgt := 18) hx hb d_Model_isTable_11 (by decide) (fun c2 => ?_) (fun c2 => ?_)
    · replace hm := hm.1 c2
      refine lv_iconst (v := 0) hx hb d_Model_isTable_18 (by decide) ?_
      exact rt_z hx hb hr hm.1 hlocks hK hP hD hS d_Model_isTable_19 hm.2
    · replace hm := hm.2 c2
      exact B14  s hm H locs ls hP hD hS (lv_sub hl [] rfl)
set_option maxHeartbeats 4000000 in
set_option maxRecDepth 100000 in
theorem c_Model_plain (l : Launch) (D : va_G) (ad : Nat → Nat) (ca : Nat → ClassId) (sz : Nat) (s : St) (a0 : Int32) (Post : Int32 → St → Prop) (hm : x_Model_plain s a0 Post) : CtI l y_Model_plain w_Model_plain { frames := 1, cells := 0, slots := 0, locals := 22 } D vwCl (tyM ca) (wM ad ca) sz [.int a0] s Post := by
  refine ct_i (cc := prog_8_method_13_code) (maxL := 1) (ret := (some .int)) (by decide) rfl (Nat.le_of_ble_eq_true rfl) ?_
  intro p e s0 m args below meth c A hx hb hr hts hown hlocks hml hK hA
  have hown : s0.vm.findClass R_Model = some m.cls := hown
  have B170 : ∀ (s : St), x_Model_plain_170  Post s → Bk D vwCl (wM ad ca) A p l e { frames := 1, cells := 0, slots := 0, locals := 22 } s0 m args below meth c (MQ below (va_Qi Post (atG D vwCl (tyM ca) (wM ad ca) A) A) args s0 0 0 A) 1 170 s [] [] := by
    intro  s hm H locs ls hP hD hS hl
    unfold x_Model_plain_170 at hm
    refine lv_iconst (v := 5) hx hb d_Model_plain_170 (by decide) ?_
    refine lv_goto (tgt := 175) hx hb d_Model_plain_171 (by decide) ?_
    exact rt_i hx hb hr hlocks hK hP hD hS d_Model_plain_175 hm
  intro H locs ls hP hD hS hl
  have hl : lv_has ls 1 [(0, .int a0)] := hl
  unfold x_Model_plain at hm
  refine lv_iload_n hx hb d_Model_plain_0 rfl (lv_at hl 0 rfl) ?_
  refine lv_bipush (v := 16) hx hb d_Model_plain_1 (by decide) ?_
  refine lv_icmp_eq (tgt := 41) hx hb d_Model_plain_3 (by decide) (fun c1 => ?_) (fun c1 => ?_)
  · replace hm := hm.1 c1
    refine lv_iconst (v := 2) hx hb d_Model_plain_41 (by decide) ?_
    exact rt_i hx hb hr hlocks hK hP hD hS d_Model_plain_42 hm
  · replace hm := hm.2 c1
    refine lv_iload_n hx hb d_Model_plain_6 rfl (lv_at hl 0 rfl) ?_
    refine lv_bipush (v := 18) hx hb d_Model_plain_7 (by decide) ?_
    refine lv_icmp_eq (tgt := 41) hx hb d_Model_plain_9 (by decide) (fun c2 => ?_) (fun c2 => ?_)
    · replace hm := hm.1 c2
      refine lv_iconst (v := 2) hx hb d_Model_plain_41 (by decide) ?_
      exact rt_i hx hb hr hlocks hK hP hD hS d_Model_plain_42 hm
    · replace hm := hm.2 c2
      refine lv_iload_n hx hb d_Model_plain_12 rfl (lv_at hl 0 rfl) ?_
      refine lv_bipush (v := 21) hx hb d_Model_plain_13 (by decide) ?_
      refine lv_bipush (v := 25) hx hb d_Model_plain_15 (by decide) ?_
      refine cg_Si (As := [.int a0, .int (21 : Int32), .int (25 : Int32)]) (rest := []) ⟨hx, hb, hml, hown, hts⟩ hK hP hD hS hA (c_Model_in l D ad ca H.size s a0 (21 : Int32) (25 : Int32) _ hm) (cwB 3 hts wd606 wd7 wd604 wd605 (by decide +kernel) ⟨Nat.le_of_ble_eq_true rfl, Nat.le_of_ble_eq_true rfl⟩) rfl hl rfl (Nat.le_of_ble_eq_true rfl) d_Model_plain_17 (fun r3 s4 hm => ?_)
      intro H locs ls hP hD hS hl
      refine lv_if_ne (tgt := 41) hx hb d_Model_plain_20 (by decide) (fun c5 => ?_) (fun c5 => ?_)
      · replace hm := hm.1 c5
        refine lv_iconst (v := 2) hx hb d_Model_plain_41 (by decide) ?_
        exact rt_i hx hb hr hlocks hK hP hD hS d_Model_plain_42 hm
      · replace hm := hm.2 c5
        refine lv_iload_n hx hb d_Model_plain_23 rfl (lv_at hl 0 rfl) ?_
        refine lv_bipush (v := 54) hx hb d_Model_plain_24 (by decide) ?_
        refine lv_bipush (v := 58) hx hb d_Model_plain_26 (by decide) ?_
        refine cg_Si (As := [.int a0, .int (54 : Int32), .int (58 : Int32)]) (rest := []) ⟨hx, hb, hml, hown, hts⟩ hK hP hD hS hA (c_Model_in l D ad ca H.size s4 a0 (54 : Int32) (58 : Int32) _ hm) (cwB 3 hts wd606 wd7 wd604 wd605 (by decide +kernel) ⟨Nat.le_of_ble_eq_true rfl, Nat.le_of_ble_eq_true rfl⟩) rfl hl rfl (Nat.le_of_ble_eq_true rfl) d_Model_plain_28 (fun r6 s7 hm => ?_)
        intro H locs ls hP hD hS hl
        refine lv_if_ne (tgt := 41) hx hb d_Model_plain_31 (by decide) (fun c8 => ?_) (fun c8 => ?_)
        · replace hm := hm.1 c8
          refine lv_iconst (v := 2) hx hb d_Model_plain_41 (by decide) ?_
          exact rt_i hx hb hr hlocks hK hP hD hS d_Model_plain_42 hm
        · replace hm := hm.2 c8
          refine lv_iload_n hx hb d_Model_plain_34 rfl (lv_at hl 0 rfl) ?_
          refine lv_sipush (v := 188) hx hb d_Model_plain_35 (by decide) ?_
          refine lv_icmp_ne (tgt := 43) hx hb d_Model_plain_38 (by decide) (fun c9 => ?_) (fun c9 => ?_)
          · replace hm := hm.1 c9
            refine lv_iload_n hx hb d_Model_plain_43 rfl (lv_at hl 0 rfl) ?_
            refine lv_bipush (v := 17) hx hb d_Model_plain_44 (by decide) ?_
            refine lv_icmp_eq (tgt := 136) hx hb d_Model_plain_46 (by decide) (fun c10 => ?_) (fun c10 => ?_)
            · replace hm := hm.1 c10
              refine lv_iconst (v := 3) hx hb d_Model_plain_136 (by decide) ?_
              exact rt_i hx hb hr hlocks hK hP hD hS d_Model_plain_137 hm
            · replace hm := hm.2 c10
              refine lv_iload_n hx hb d_Model_plain_49 rfl (lv_at hl 0 rfl) ?_
              refine lv_bipush (v := 19) hx hb d_Model_plain_50 (by decide) ?_
              refine lv_icmp_eq (tgt := 136) hx hb d_Model_plain_52 (by decide) (fun c11 => ?_) (fun c11 => ?_)
              · replace hm := hm.1 c11
                refine lv_iconst (v := 3) hx hb d_Model_plain_136 (by decide) ?_
                exact rt_i hx hb hr hlocks hK hP hD hS d_Model_plain_137 hm
              · replace hm := hm.2 c11
                refine lv_iload_n hx hb d_Model_plain_55 rfl (lv_at hl 0 rfl) ?_
                refine lv_bipush (v := 20) hx hb d_Model_plain_56 (by decide) ?_
                refine lv_icmp_eq (tgt := 136) hx hb d_Model_plain_58 (by decide) (fun c12 => ?_) (fun c12 => ?_)
                · replace hm := hm.1 c12
                  refine lv_iconst (v := 3) hx hb d_Model_plain_136 (by decide) ?_
                  exact rt_i hx hb hr hlocks hK hP hD hS d_Model_plain_137 hm
                · replace hm := hm.2 c12
                  refine lv_iload_n hx hb d_Model_plain_61 rfl (lv_at hl 0 rfl) ?_
                  refine lv_sipush (v := 132) hx hb d_Model_plain_62 (by decide) ?_
                  refine lv_icmp_eq (tgt := 136) hx hb d_Model_plain_65 (by decide) (fun c13 => ?_) (fun c13 => ?_)
                  · replace hm := hm.1 c13
                    refine lv_iconst (v := 3) hx hb d_Model_plain_136 (by decide) ?_
                    exact rt_i hx hb hr hlocks hK hP hD hS d_Model_plain_137 hm
                  · replace hm := hm.2 c13
                    refine lv_iload_n hx hb d_Model_plain_68 rfl (lv_at hl 0 rfl) ?_
                    refine lv_sipush (v := 153) hx hb d_Model_plain_69 (by decide) ?_
                    refine lv_sipush (v := 167) hx hb d_Model_plain_72 (by decide) ?_
                    refine cg_Si (As := [.int a0, .int (153 : Int32), .int (167 : Int32)]) (rest := []) ⟨hx, hb, hml, hown, hts⟩ hK hP hD hS hA (c_Model_in l D ad ca H.size s7 a0 (153 : Int32) (167 : Int32) _ hm) (cwB 3 hts wd606 wd7 wd604 wd605 (by decide +kernel) ⟨Nat.le_of_ble_eq_true rfl, Nat.le_of_ble_eq_true rfl⟩) rfl hl rfl (Nat.le_of_ble_eq_true rfl) d_Model_plain_75 (fun r14 s15 hm => ?_)
                    intro H locs ls hP hD hS hl
                    refine lv_if_ne (tgt := 136) hx hb d_Model_plain_78 (by decide) (fun c16 => ?_) (fun c16 => ?_)
                    · replace hm := hm.1 c16
                      refine lv_iconst (v := 3) hx hb d_Model_plain_136 (by decide) ?_
                      exact rt_i hx hb hr hlocks hK hP hD hS d_Model_plain_137 hm
                    · replace hm := hm.2 c16
                      refine lv_iload_n hx hb d_Model_plain_81 rfl (lv_at hl 0 rfl) ?_
                      refine lv_sipush (v := 178) hx hb d_Model_plain_82 (by decide) ?_
                      refine lv_sipush (v := 184) hx hb d_Model_plain_85 (by decide) ?_
                      refine cg_Si (As := [.int a0, .int (178 : Int32), .int (184 : Int32)]) (rest := []) ⟨hx, hb, hml, hown, hts⟩ hK hP hD hS hA (c_Model_in l D ad ca H.size s15 a0 (178 : Int32) (184 : Int32) _ hm) (cwB 3 hts wd606 wd7 wd604 wd605 (by decide +kernel) ⟨Nat.le_of_ble_eq_true rfl, Nat.le_of_ble_eq_true rfl⟩) rfl hl rfl (Nat.le_of_ble_eq_true rfl) d_Model_plain_88 (fun r17 s18 hm => ?_)
                      intro H locs ls hP hD hS hl
                      refine lv_if_ne (tgt := 136) hx hb d_Model_plain_91 (by decide) (fun c19 => ?_) (fun c19 => ?_)
                      · replace hm := hm.1 c19
                        refine lv_iconst (v := 3) hx hb d_Model_plain_136 (by decide) ?_
                        exact rt_i hx hb hr hlocks hK hP hD hS d_Model_plain_137 hm
                      · replace hm := hm.2 c19
                        refine lv_iload_n hx hb d_Model_plain_94 rfl (lv_at hl 0 rfl) ?_
                        refine lv_sipush (v := 187) hx hb d_Model_plain_95 (by decide) ?_
                        refine lv_icmp_eq (tgt := 136) hx hb d_Model_plain_98 (by decide) (fun c20 => ?_) (fun c20 => ?_)
                        · replace hm := hm.1 c20
                          refine lv_iconst (v := 3) hx hb d_Model_plain_136 (by decide) ?_
                          exact rt_i hx hb hr hlocks hK hP hD hS d_Model_plain_137 hm
                        · replace hm := hm.2 c20
                          refine lv_iload_n hx hb d_Model_plain_101 rfl (lv_at hl 0 rfl) ?_
                          refine lv_sipush (v := 189) hx hb d_Model_plain_102 (by decide) ?_
                          refine lv_icmp_eq (tgt := 136) hx hb d_Model_plain_105 (by decide) (fun c21 => ?_) (fun c21 => ?_)
                          · replace hm := hm.1 c21
                            refine lv_iconst (v := 3) hx hb d_Model_plain_136 (by decide) ?_
                            exact rt_i hx hb hr hlocks hK hP hD hS d_Model_plain_137 hm
                          · replace hm := hm.2 c21
                            refine lv_iload_n hx hb d_Model_plain_108 rfl (lv_at hl 0 rfl) ?_
                            refine lv_sipush (v := 192) hx hb d_Model_plain_109 (by decide) ?_
                            refine lv_icmp_eq (tgt := 136) hx hb d_Model_plain_112 (by decide) (fun c22 => ?_) (fun c22 => ?_)
                            · replace hm := hm.1 c22
                              refine lv_iconst (v := 3) hx hb d_Model_plain_136 (by decide) ?_
                              exact rt_i hx hb hr hlocks hK hP hD hS d_Model_plain_137 hm
                            · replace hm := hm.2 c22
                              refine lv_iload_n hx hb d_Model_plain_115 rfl (lv_at hl 0 rfl) ?_
                              refine lv_sipush (v := 193) hx hb d_Model_plain_116 (by decide) ?_
                              refine lv_icmp_eq (tgt := 136) hx hb d_Model_plain_119 (by decide) (fun c23 => ?_) (fun c23 => ?_)
                              · replace hm := hm.1 c23
                                refine lv_iconst (v := 3) hx hb d_Model_plain_136 (by decide) ?_
                                exact rt_i hx hb hr hlocks hK hP hD hS d_Model_plain_137 hm
                              · replace hm := hm.2 c23
                                refine lv_iload_n hx hb d_Model_plain_122 rfl (lv_at hl 0 rfl) ?_
                                refine lv_sipush (v := 198) hx hb d_Model_plain_123 (by decide) ?_
                                refine lv_icmp_eq (tgt := 136) hx hb d_Model_plain_126 (by decide) (fun c24 => ?_) (fun c24 => ?_)
                                · replace hm := hm.1 c24
                                  refine lv_iconst (v := 3) hx hb d_Model_plain_136 (by decide) ?_
                                  exact rt_i hx hb hr hlocks hK hP hD hS d_Model_plain_137 hm
                                · replace hm := hm.2 c24
                                  refine lv_iload_n hx hb d_Model_plain_129 rfl (lv_at hl 0 rfl) ?_
                                  refine lv_sipush (v := 199) hx hb d_Model_plain_130 (by decide) ?_
                                  refine lv_icmp_ne (tgt := 138) hx hb d_Model_plain_133 (by decide) (fun c25 => ?_) (fun c25 => ?_)
                                  · replace hm := hm.1 c25
                                    refine lv_iload_n hx hb d_Model_plain_138 rfl (lv_at hl 0 rfl) ?_
                                    refine lv_sipush (v := 197) hx hb d_Model_plain_139 (by decide) ?_
                                    refine lv_icmp_ne (tgt := 149) hx hb d_Model_plain_142 (by decide) (fun c26 => ?_) (fun c26 => ?_)
                                    · replace hm := hm.1 c26
                                      refine lv_iload_n hx hb d_Model_plain_149 rfl (lv_at hl 0 rfl) ?_
                                      refine lv_sipush (v := 185) hx hb d_Model_plain_150 (by decide) ?_
                                      refine lv_icmp_eq (tgt := 170) hx hb d_Model_plain_153 (by decide) (fun c27 => ?_) (fun c27 => ?_)
                                      · replace hm := hm.1 c27
                                        exact B170  s18 hm H locs ls hP hD hS (lv_sub hl [] rfl)
                                      · replace hm := hm.2 c27
                                        refine lv_iload_n hx hb d_Model_plain_156 rfl (lv_at hl 0 rfl) ?_
                                        refine lv_sipush (v := 186) hx hb d_Model_plain_157 (by decide) ?_
                                        refine lv_icmp_eq (tgt := 170) hx hb d_Model_plain_160 (by decide) (fun c28 => ?_) (fun c28 => ?_)
                                        · replace hm := hm.1 c28
                                          exact B170  s18 hm H locs ls hP hD hS (lv_sub hl [] rfl)
                                        · replace hm := hm.2 c28
                                          refine lv_iload_n hx hb d_Model_plain_163 rfl (lv_at hl 0 rfl) ?_
                                          refine lv_sipush (v := 200) hx hb d_Model_plain_164 (by decide) ?_
                                          refine lv_icmp_ne (tgt := 174) hx hb d_Model_plain_167 (by decide) (fun c29 => ?_) (fun c29 => ?_)
                                          · replace hm := hm.1 c29
                                            refine lv_iconst (v := 1) hx hb d_Model_plain_174 (by decide) ?_
                                            exact rt_i hx hb hr hlocks hK hP hD hS d_Model_plain_175 hm
                                          · replace hm := hm.2 c29
                                            exact B170  s18 hm H locs ls hP hD hS (lv_sub hl [] rfl)
                                    · replace hm := hm.2 c26
                                      refine lv_iconst (v := 4) hx hb d_Model_plain_145 (by decide) ?_
                                      refine lv_goto (tgt := 175) hx hb d_Model_plain_146 (by decide) ?_
                                      exact rt_i hx hb hr hlocks hK hP hD hS d_Model_plain_175 hm
                                  · replace hm := hm.2 c25
                                    refine lv_iconst (v := 3) hx hb d_Model_plain_136 (by decide) ?_
                                    exact rt_i hx hb hr hlocks hK hP hD hS d_Model_plain_137 hm
          · replace hm := hm.2 c9
            refine lv_iconst (v := 2) hx hb d_Model_plain_41 (by decide) ?_
            exact rt_i hx hb hr hlocks hK hP hD hS d_Model_plain_42 hm
set_option maxHeartbeats 4000000 in
set_option maxRecDepth 100000 in
theorem c_Model_length (l : Launch) (D : va_G) (ad : Nat → Nat) (ca : Nat → ClassId) (sz : Nat) (s : St) (a1 : Int32) (Post : Int32 → St → Prop) (hm : x_Model_length s a1 Post) : CtI l y_Model_length w_Model_length { frames := 2, cells := 0, slots := 0, locals := 42 } D vwCl (tyM ca) (wM ad ca) sz [.ref (ad 0), .int a1] s Post := by
  refine ct_i (cc := prog_8_method_14_code) (maxL := 7) (ret := (some .int)) (by decide) rfl (Nat.le_of_ble_eq_true rfl) ?_
  intro p e s0 m args below meth c A hx hb hr hts hown hlocks hml hK hA
  have hown : s0.vm.findClass R_Model = some m.cls := hown
  have B244 : ∀ (s : St) (x1 : Int32) (x3 : Int32), x_Model_length_244  Post s x1 x3 → Bk D vwCl (wM ad ca) A p l e { frames := 2, cells := 0, slots := 0, locals := 42 } s0 m args below meth c (MQ below (va_Qi Post (atG D vwCl (tyM ca) (wM ad ca) A) A) args s0 0 0 A) 7 244 s [(0, .ref (ad 0)), (1, .int x1), (3, .int x3)] [] := by
    intro  s x1 x3 hm H locs ls hP hD hS hl
    unfold x_Model_length_244 at hm
    refine lv_iload_n hx hb d_Model_length_244 rfl (lv_at hl 1 rfl) ?_
    refine lv_iload_n hx hb d_Model_length_245 rfl (lv_at hl 2 rfl) ?_
    refine lv_iadd hx hb d_Model_length_246 ?_
    refine lv_aload_n hx hb d_Model_length_247 rfl (lv_at hl 0 rfl) ?_
    refine va_get (D := D) (ci := 5) (v := .int (s 19 5)) (C := R_Model) (T := T_Model) (N := 36) hx hb hts in_Model hown hK hP 0 rfl rfl 24 (by decide) (hts _ wd515) (fun _ h9 => h9) rfl d_Model_length_248 ?_
    refine lv_icmp_le (tgt := 258) hx hb d_Model_length_251 (by decide) (fun c36 => ?_) (fun c36 => ?_)
    · replace hm := hm.1 c36
      refine lv_iload_n hx hb d_Model_length_258 rfl (lv_at hl 2 rfl) ?_
      exact rt_i hx hb hr hlocks hK hP hD hS d_Model_length_259 hm
    · replace hm := hm.2 c36
      refine lv_iconst (v := 0) hx hb d_Model_length_254 (by decide) ?_
      refine lv_goto (tgt := 259) hx hb d_Model_length_255 (by decide) ?_
      exact rt_i hx hb hr hlocks hK hP hD hS d_Model_length_259 hm
  have B108 : ∀ (s : St) (x1 : Int32) (y0 : Int32), x_Model_length_108  Post s x1 y0 → Bk D vwCl (wM ad ca) A p l e { frames := 2, cells := 0, slots := 0, locals := 42 } s0 m args below meth c (MQ below (va_Qi Post (atG D vwCl (tyM ca) (wM ad ca) A) A) args s0 0 0 A) 7 108 s [(0, .ref (ad 0)), (1, .int x1)] [.int y0] := by
    intro  s x1 y0 hm H locs ls hP hD hS hl
    unfold x_Model_length_108 at hm
    refine lv_istore_n (lv' := [(3, .int y0), (0, .ref (ad 0)), (1, .int x1)]) hx hb d_Model_length_108 rfl hl (by decide) rfl (fun ls hl => ?_)
    refine lv_goto (tgt := 244) hx hb d_Model_length_109 (by decide) ?_
    exact B244  s x1 y0 hm H locs ls hP hD hS (lv_sub hl [1, 2, 0] rfl)
  have B90 : ∀ (s : St) (x1 : Int32), x_Model_length_90  Post s x1 → Bk D vwCl (wM ad ca) A p l e { frames := 2, cells := 0, slots := 0, locals := 42 } s0 m args below meth c (MQ below (va_Qi Post (atG D vwCl (tyM ca) (wM ad ca) A) A) args s0 0 0 A) 7 90 s [(0, .ref (ad 0)), (1, .int x1)] [] := by
    intro  s x1 hm H locs ls hP hD hS hl
    unfold x_Model_length_90 at hm
    refine lv_iconst (v := 4) hx hb d_Model_length_90 (by decide) ?_
    refine lv_goto (tgt := 108) hx hb d_Model_length_91 (by decide) ?_
    exact B108  s x1 (4 : Int32) hm H locs ls hP hD hS (lv_sub hl [0, 1] rfl)
  have B64 : ∀ (s : St) (x1 : Int32) (y0 : Int32), x_Model_length_64  Post s x1 y0 → Bk D vwCl (wM ad ca) A p l e { frames := 2, cells := 0, slots := 0, locals := 42 } s0 m args below meth c (MQ below (va_Qi Post (atG D vwCl (tyM ca) (wM ad ca) A) A) args s0 0 0 A) 7 64 s [(0, .ref (ad 0)), (1, .int x1)] [.int y0] := by
    intro  s x1 y0 hm H locs ls hP hD hS hl
    unfold x_Model_length_64 at hm
    refine lv_istore (lv' := [(4, .int y0), (0, .ref (ad 0)), (1, .int x1)]) hx hb d_Model_length_64 hl (by decide) rfl (fun ls hl => ?_)
    refine lv_iload hx hb d_Model_length_66 (lv_at hl 0 rfl) ?_
    refine lv_bipush (v := 21) hx hb d_Model_length_68 (by decide) ?_
    refine lv_bipush (v := 25) hx hb d_Model_length_70 (by decide) ?_
    refine cg_Si (As := [.int y0, .int (21 : Int32), .int (25 : Int32)]) (rest := []) ⟨hx, hb, hml, hown, hts⟩ hK hP hD hS hA (c_Model_in l D ad ca H.size s y0 (21 : Int32) (25 : Int32) _ hm) (cwB 3 hts wd606 wd7 wd604 wd605 (by decide +kernel) ⟨Nat.le_of_ble_eq_true rfl, Nat.le_of_ble_eq_true rfl⟩) rfl hl rfl (Nat.le_of_ble_eq_true rfl) d_Model_length_72 (fun r15 s16 hm => ?_)
    intro H locs ls hP hD hS hl
    refine lv_if_ne (tgt := 90) hx hb d_Model_length_75 (by decide) (fun c17 => ?_) (fun c17 => ?_)
    · replace hm := hm.1 c17
      exact B90  s16 x1 hm H locs ls hP hD hS (lv_sub hl [1, 2] rfl)
    · replace hm := hm.2 c17
      refine lv_iload hx hb d_Model_length_78 (lv_at hl 0 rfl) ?_
      refine lv_bipush (v := 54) hx hb d_Model_length_80 (by decide) ?_
      refine lv_bipush (v := 58) hx hb d_Model_length_82 (by decide) ?_
      refine cg_Si (As := [.int y0, .int (54 : Int32), .int (58 : Int32)]) (rest := []) ⟨hx, hb, hml, hown, hts⟩ hK hP hD hS hA (c_Model_in l D ad ca H.size s16 y0 (54 : Int32) (58 : Int32) _ hm) (cwB 3 hts wd606 wd7 wd604 wd605 (by decide +kernel) ⟨Nat.le_of_ble_eq_true rfl, Nat.le_of_ble_eq_true rfl⟩) rfl hl rfl (Nat.le_of_ble_eq_true rfl) d_Model_length_84 (fun r18 s19 hm => ?_)
      intro H locs ls hP hD hS hl
      refine lv_if_eq (tgt := 94) hx hb d_Model_length_87 (by decide) (fun c20 => ?_) (fun c20 => ?_)
      · replace hm := hm.1 c20
        refine lv_iload hx hb d_Model_length_94 (lv_at hl 0 rfl) ?_
        refine lv_sipush (v := 132) hx hb d_Model_length_96 (by decide) ?_
        refine lv_icmp_ne (tgt := 107) hx hb d_Model_length_99 (by decide) (fun c21 => ?_) (fun c21 => ?_)
        · replace hm := hm.1 c21
          refine lv_iconst (v := 0) hx hb d_Model_length_107 (by decide) ?_
          exact B108  s19 x1 (0 : Int32) hm H locs ls hP hD hS (lv_sub hl [1, 2] rfl)
        · replace hm := hm.2 c21
          refine lv_bipush (v := 6) hx hb d_Model_length_102 (by decide) ?_
          refine lv_goto (tgt := 108) hx hb d_Model_length_104 (by decide) ?_
          exact B108  s19 x1 (6 : Int32) hm H locs ls hP hD hS (lv_sub hl [1, 2] rfl)
      · replace hm := hm.2 c20
        exact B90  s19 x1 hm H locs ls hP hD hS (lv_sub hl [1, 2] rfl)
  have B238 : ∀ (s : St) (x1 : Int32) (x5 : Int64) (y0 : Int32) (y1 : Int32), x_Model_length_238  Post s x1 x5 y0 y1 → Bk D vwCl (wM ad ca) A p l e { frames := 2, cells := 0, slots := 0, locals := 42 } s0 m args below meth c (MQ below (va_Qi Post (atG D vwCl (tyM ca) (wM ad ca) A) A) args s0 0 0 A) 7 238 s [(0, .ref (ad 0)), (1, .int x1), (5, .long x5)] [.int y0, .int y1] := by
    intro  s x1 x5 y0 y1 hm H locs ls hP hD hS hl
    unfold x_Model_length_238 at hm
    refine lv_lload hx hb d_Model_length_238 (lv_at hl 2 rfl) ?_
    refine lv_l2i (v := (x5).toInt32) hx hb d_Model_length_240 rfl ?_
    refine lv_imul hx hb d_Model_length_241 ?_
    refine lv_iadd hx hb d_Model_length_242 ?_
    refine lv_topi (fun v35 ev35 => ?_)
    replace hm := hm v35 ev35
    refine lv_istore_n (lv' := [(3, .int v35), (0, .ref (ad 0)), (1, .int x1), (5, .long x5)]) hx hb d_Model_length_243 rfl hl (by decide) rfl (fun ls hl => ?_)
    exact B244  s x1 v35 hm H locs ls hP hD hS (lv_sub hl [1, 2, 0] rfl)
  have B207 : ∀ (s : St) (x1 : Int32) (x2 : Int32) (x4 : Int32) (x5 : Int64) (y0 : Int32) (y1 : Int64), x_Model_length_207  Post s x1 x2 x4 x5 y0 y1 → Bk D vwCl (wM ad ca) A p l e { frames := 2, cells := 0, slots := 0, locals := 42 } s0 m args below meth c (MQ below (va_Qi Post (atG D vwCl (tyM ca) (wM ad ca) A) A) args s0 0 0 A) 7 207 s [(0, .ref (ad 0)), (1, .int x1), (2, .int x2), (4, .int x4), (5, .long x5)] [.int y0, .long y1] := by
    intro  s x1 x2 x4 x5 y0 y1 hm H locs ls hP hD hS hl
    unfold x_Model_length_207 at hm
    refine lv_i2l (v := (y0).toInt64) hx hb d_Model_length_207 rfl ?_
    refine W.lcmp hx hb d_Model_length_208 ?_
    refine lv_if_lt (tgt := 221) hx hb d_Model_length_209 (by decide) (fun c32 => ?_) (fun c32 => ?_)
    · replace hm := hm.1 c32
      refine lv_iconst (v := 0) hx hb d_Model_length_221 (by decide) ?_
      exact rt_i hx hb hr hlocks hK hP hD hS d_Model_length_222 hm
    · replace hm := hm.2 c32
      refine lv_lload hx hb d_Model_length_212 (lv_at hl 4 rfl) ?_
      refine lv_ldc2 (v := 20) hx hb hown (hts _ wd655) d_Model_length_214 ?_
      refine W.lcmp hx hb d_Model_length_217 ?_
      refine lv_if_le (tgt := 223) hx hb d_Model_length_218 (by decide) (fun c33 => ?_) (fun c33 => ?_)
      · replace hm := hm.1 c33
        refine lv_iload hx hb d_Model_length_223 (lv_at hl 3 rfl) ?_
        refine lv_iload_n hx hb d_Model_length_225 rfl (lv_at hl 2 rfl) ?_
        refine lv_sipush (v := 170) hx hb d_Model_length_226 (by decide) ?_
        refine lv_icmp_ne (tgt := 236) hx hb d_Model_length_229 (by decide) (fun c34 => ?_) (fun c34 => ?_)
        · replace hm := hm.1 c34
          refine lv_bipush (v := 8) hx hb d_Model_length_236 (by decide) ?_
          exact B238  s x1 x5 (8 : Int32) x4 hm H locs ls hP hD hS (lv_sub hl [0, 1, 4] rfl)
        · replace hm := hm.2 c34
          refine lv_iconst (v := 4) hx hb d_Model_length_232 (by decide) ?_
          refine lv_goto (tgt := 238) hx hb d_Model_length_233 (by decide) ?_
          exact B238  s x1 x5 (4 : Int32) x4 hm H locs ls hP hD hS (lv_sub hl [0, 1, 4] rfl)
      · replace hm := hm.2 c33
        refine lv_iconst (v := 0) hx hb d_Model_length_221 (by decide) ?_
        exact rt_i hx hb hr hlocks hK hP hD hS d_Model_length_222 hm
  have B193 : ∀ (s : St) (x1 : Int32) (x2 : Int32) (x4 : Int32) (x5 : Int64), x_Model_length_193  Post s x1 x2 x4 x5 → Bk D vwCl (wM ad ca) A p l e { frames := 2, cells := 0, slots := 0, locals := 42 } s0 m args below meth c (MQ below (va_Qi Post (atG D vwCl (tyM ca) (wM ad ca) A) A) args s0 0 0 A) 7 193 s [(0, .ref (ad 0)), (1, .int x1), (2, .int x2), (4, .int x4), (5, .long x5)] [] := by
    intro  s x1 x2 x4 x5 hm H locs ls hP hD hS hl
    unfold x_Model_length_193 at hm
    refine lv_lload hx hb d_Model_length_193 (lv_at hl 4 rfl) ?_
    refine lv_iload_n hx hb d_Model_length_195 rfl (lv_at hl 2 rfl) ?_
    refine lv_sipush (v := 170) hx hb d_Model_length_196 (by decide) ?_
    refine lv_icmp_ne (tgt := 206) hx hb d_Model_length_199 (by decide) (fun c31 => ?_) (fun c31 => ?_)
    · replace hm := hm.1 c31
      refine lv_iconst (v := 0) hx hb d_Model_length_206 (by decide) ?_
      exact B207  s x1 x2 x4 x5 (0 : Int32) x5 hm H locs ls hP hD hS (lv_sub hl [0, 1, 2, 3, 4] rfl)
    · replace hm := hm.2 c31
      refine lv_iconst (v := 1) hx hb d_Model_length_202 (by decide) ?_
      refine lv_goto (tgt := 207) hx hb d_Model_length_203 (by decide) ?_
      exact B207  s x1 x2 x4 x5 (1 : Int32) x5 hm H locs ls hP hD hS (lv_sub hl [0, 1, 2, 3, 4] rfl)
  have B138 : ∀ (s : St) (x1 : Int32) (x2 : Int32) (y0 : Int32) (y1 : Int32), x_Model_length_138  Post s x1 x2 y0 y1 → Bk D vwCl (wM ad ca) A p l e { frames := 2, cells := 0, slots := 0, locals := 42 } s0 m args below meth c (MQ below (va_Qi Post (atG D vwCl (tyM ca) (wM ad ca) A) A) args s0 0 0 A) 7 138 s [(0, .ref (ad 0)), (1, .int x1), (2, .int x2)] [.int y0, .int y1] := by
    intro  s x1 x2 y0 y1 hm H locs ls hP hD hS hl
    unfold x_Model_length_138 at hm
    refine lv_iadd hx hb d_Model_length_138 ?_
    refine lv_topi (fun v22 ev22 => ?_)
    replace hm := hm v22 ev22
    refine lv_istore (lv' := [(4, .int v22), (0, .ref (ad 0)), (1, .int x1), (2, .int x2)]) hx hb d_Model_length_139 hl (by decide) rfl (fun ls hl => ?_)
    refine lv_iload_n hx hb d_Model_length_141 rfl (lv_at hl 2 rfl) ?_
    refine lv_iload hx hb d_Model_length_142 (lv_at hl 0 rfl) ?_
    refine lv_iadd hx hb d_Model_length_144 ?_
    refine lv_aload_n hx hb d_Model_length_145 rfl (lv_at hl 1 rfl) ?_
    refine va_get (D := D) (ci := 5) (v := .int (s 19 5)) (C := R_Model) (T := T_Model) (N := 36) hx hb hts in_Model hown hK hP 0 rfl rfl 24 (by decide) (hts _ wd515) (fun _ h9 => h9) rfl d_Model_length_146 ?_
    refine lv_icmp_le (tgt := 154) hx hb d_Model_length_149 (by decide) (fun c23 => ?_) (fun c23 => ?_)
    · replace hm := hm.1 c23
      refine lv_aload_n hx hb d_Model_length_154 rfl (lv_at hl 1 rfl) ?_
      refine lv_iload_n hx hb d_Model_length_155 rfl (lv_at hl 2 rfl) ?_
      refine lv_iload hx hb d_Model_length_156 (lv_at hl 0 rfl) ?_
      refine lv_iadd hx hb d_Model_length_158 ?_
      refine lv_iconst (v := 4) hx hb d_Model_length_159 (by decide) ?_
      refine lv_isub hx hb d_Model_length_160 ?_
      refine cg_Vi (b := (ad 0)) (As := [.int ((x1 + v22) - (4 : Int32))]) (rest := []) ⟨hx, hb, hml, hown, hts⟩ hK hP hD hS hA (c_Model_s4 l D ad ca H.size s ((x1 + v22) - (4 : Int32)) _ hm) (cwA 1 hts wd654 wd7 wd651 wd653 ws27 (by decide +kernel) ⟨Nat.le_of_ble_eq_true rfl, Nat.le_of_ble_eq_true rfl⟩) (va_recv hK hP (ci := 5) (q0 := 0) rfl rfl) rfl hl rfl (Nat.le_of_ble_eq_true rfl) d_Model_length_161 (fun r24 s25 hm => ?_)
      intro H locs ls hP hD hS hl
      refine lv_i2l (v := (r24).toInt64) hx hb d_Model_length_164 rfl ?_
      refine lv_topl (fun v26 ev26 => ?_)
      replace hm := hm v26 ev26
      refine lv_lstore (lv' := [(5, .long v26), (4, .int v22), (0, .ref (ad 0)), (1, .int x1), (2, .int x2)]) hx hb d_Model_length_165 hl (by decide) rfl (fun ls hl => ?_)
      refine lv_iload_n hx hb d_Model_length_167 rfl (lv_at hl 4 rfl) ?_
      refine lv_sipush (v := 170) hx hb d_Model_length_168 (by decide) ?_
      refine lv_icmp_ne (tgt := 193) hx hb d_Model_length_171 (by decide) (fun c27 => ?_) (fun c27 => ?_)
      · replace hm := hm.1 c27
        exact B193  s25 x1 x2 v22 v26 hm H locs ls hP hD hS (lv_sub hl [2, 3, 4, 1, 0] rfl)
      · replace hm := hm.2 c27
        refine lv_lload hx hb d_Model_length_174 (lv_at hl 0 rfl) ?_
        refine lv_aload_n hx hb d_Model_length_176 rfl (lv_at hl 2 rfl) ?_
        refine lv_iload_n hx hb d_Model_length_177 rfl (lv_at hl 3 rfl) ?_
        refine lv_iload hx hb d_Model_length_178 (lv_at hl 1 rfl) ?_
        refine lv_iadd hx hb d_Model_length_180 ?_
        refine lv_bipush (v := 8) hx hb d_Model_length_181 (by decide) ?_
        refine lv_isub hx hb d_Model_length_183 ?_
        refine cg_Vi (b := (ad 0)) (As := [.int ((x1 + v22) - (8 : Int32))]) (rest := [.long v26]) ⟨hx, hb, hml, hown, hts⟩ hK hP hD hS hA (c_Model_s4 l D ad ca H.size s25 ((x1 + v22) - (8 : Int32)) _ hm) (cwA 1 hts wd654 wd7 wd651 wd653 ws27 (by decide +kernel) ⟨Nat.le_of_ble_eq_true rfl, Nat.le_of_ble_eq_true rfl⟩) (va_recv hK hP (ci := 5) (q0 := 0) rfl rfl) rfl hl rfl (Nat.le_of_ble_eq_true rfl) d_Model_length_184 (fun r28 s29 hm => ?_)
        intro H locs ls hP hD hS hl
        refine lv_i2l (v := (r28).toInt64) hx hb d_Model_length_187 rfl ?_
        refine lv_lsub hx hb d_Model_length_188 ?_
        refine lv_lconst (v := 1) hx hb d_Model_length_189 (by decide) ?_
        refine lv_ladd hx hb d_Model_length_190 ?_
        refine lv_topl (fun v30 ev30 => ?_)
        replace hm := hm v30 ev30
        refine lv_lstore (lv' := [(5, .long v30), (4, .int v22), (0, .ref (ad 0)), (1, .int x1), (2, .int x2)]) hx hb d_Model_length_191 hl (by decide) rfl (fun ls hl => ?_)
        exact B193  s29 x1 x2 v22 v30 hm H locs ls hP hD hS (lv_sub hl [2, 3, 4, 1, 0] rfl)
    · replace hm := hm.2 c23
      refine lv_iconst (v := 0) hx hb d_Model_length_152 (by decide) ?_
      exact rt_i hx hb hr hlocks hK hP hD hS d_Model_length_153 hm
  intro H locs ls hP hD hS hl
  have hl : lv_has ls 7 [(0, .ref (ad 0)), (1, .int a1)] := hl
  unfold x_Model_length at hm
  refine lv_aload_n hx hb d_Model_length_0 rfl (lv_at hl 0 rfl) ?_
  refine va_get (D := D) (ci := 5) (v := .ref (ad 10)) (C := R_Model) (T := T_Model) (N := 36) hx hb hts in_Model hown hK hP 0 rfl rfl 14 (by decide) (hts _ wd505) (fun _ h9 => h9) rfl d_Model_length_1 ?_
  refine lv_iload_n hx hb d_Model_length_4 rfl (lv_at hl 1 rfl) ?_
  obtain ⟨h1, hm⟩ := hm
  refine va_iald hx hb hK hP 10 9 rfl rfl h1 d_Model_length_5 ?_
  refine lv_topi (fun v2 ev2 => ?_)
  replace hm := hm v2 ev2
  refine lv_istore_n (lv' := [(2, .int v2), (0, .ref (ad 0)), (1, .int a1)]) hx hb d_Model_length_6 rfl hl (by decide) rfl (fun ls hl => ?_)
  refine lv_iload_n hx hb d_Model_length_7 rfl (lv_at hl 0 rfl) ?_
  refine cg_Si (As := [.int v2]) (rest := []) ⟨hx, hb, hml, hown, hts⟩ hK hP hD hS hA (c_Model_plain l D ad ca H.size s v2 _ hm) (cwB 1 hts wd647 wd7 wd645 wd646 (by decide +kernel) ⟨Nat.le_of_ble_eq_true rfl, Nat.le_of_ble_eq_true rfl⟩) rfl hl rfl (Nat.le_of_ble_eq_true rfl) d_Model_length_8 (fun r3 s4 hm => ?_)
  intro H locs ls hP hD hS hl
  refine lv_istore_n (lv' := [(3, .int r3), (2, .int v2), (0, .ref (ad 0)), (1, .int a1)]) hx hb d_Model_length_11 rfl hl (by decide) rfl (fun ls hl => ?_)
  refine lv_iload_n hx hb d_Model_length_12 rfl (lv_at hl 1 rfl) ?_
  refine lv_sipush (v := 200) hx hb d_Model_length_13 (by decide) ?_
  refine lv_icmp_gt (tgt := 33) hx hb d_Model_length_16 (by decide) (fun c5 => ?_) (fun c5 => ?_)
  · replace hm := hm.1 c5
    refine lv_iconst (v := 0) hx hb d_Model_length_33 (by decide) ?_
    exact rt_i hx hb hr hlocks hK hP hD hS d_Model_length_34 hm
  · replace hm := hm.2 c5
    refine lv_iload_n hx hb d_Model_length_19 rfl (lv_at hl 1 rfl) ?_
    refine lv_sipush (v := 168) hx hb d_Model_length_20 (by decide) ?_
    refine lv_icmp_eq (tgt := 33) hx hb d_Model_length_23 (by decide) (fun c6 => ?_) (fun c6 => ?_)
    · replace hm := hm.1 c6
      refine lv_iconst (v := 0) hx hb d_Model_length_33 (by decide) ?_
      exact rt_i hx hb hr hlocks hK hP hD hS d_Model_length_34 hm
    · replace hm := hm.2 c6
      refine lv_iload_n hx hb d_Model_length_26 rfl (lv_at hl 1 rfl) ?_
      refine lv_sipush (v := 169) hx hb d_Model_length_27 (by decide) ?_
      refine lv_icmp_ne (tgt := 35) hx hb d_Model_length_30 (by decide) (fun c7 => ?_) (fun c7 => ?_)
      · replace hm := hm.1 c7
        refine lv_iload_n hx hb d_Model_length_35 rfl (lv_at hl 1 rfl) ?_
        refine lv_sipush (v := 196) hx hb d_Model_length_36 (by decide) ?_
        refine lv_icmp_ne (tgt := 112) hx hb d_Model_length_39 (by decide) (fun c8 => ?_) (fun c8 => ?_)
        · replace hm := hm.1 c8
          refine lv_iload_n hx hb d_Model_length_112 rfl (lv_at hl 1 rfl) ?_
          refine cg_Si (As := [.int v2]) (rest := []) ⟨hx, hb, hml, hown, hts⟩ hK hP hD hS hA (c_Model_isTable l D ad ca H.size s4 v2 _ hm) (cwB 1 hts wd650 wd7 wd648 wd649 (by decide +kernel) ⟨Nat.le_of_ble_eq_true rfl, Nat.le_of_ble_eq_true rfl⟩) rfl hl rfl (Nat.le_of_ble_eq_true rfl) d_Model_length_113 (fun r9 s10 hm => ?_)
          intro H locs ls hP hD hS hl
          refine lv_if_eq (tgt := 244) hx hb d_Model_length_116 (by decide) (fun c11 => ?_) (fun c11 => ?_)
          · replace hm := hm.1 c11
            exact B244  s10 a1 r3 hm H locs ls hP hD hS (lv_sub hl [2, 3, 0] rfl)
          · replace hm := hm.2 c11
            refine lv_iconst (v := 4) hx hb d_Model_length_119 (by decide) ?_
            refine lv_iload_n hx hb d_Model_length_120 rfl (lv_at hl 3 rfl) ?_
            refine lv_iconst (v := 4) hx hb d_Model_length_121 (by decide) ?_
            refine lv_irem hx hb d_Model_length_122 (by decide) ?_
            refine lv_isub hx hb d_Model_length_123 ?_
            refine lv_iload_n hx hb d_Model_length_124 rfl (lv_at hl 1 rfl) ?_
            refine lv_sipush (v := 170) hx hb d_Model_length_125 (by decide) ?_
            refine lv_icmp_ne (tgt := 136) hx hb d_Model_length_128 (by decide) (fun c12 => ?_) (fun c12 => ?_)
            · replace hm := hm.1 c12
              refine lv_bipush (v := 8) hx hb d_Model_length_136 (by decide) ?_
              exact B138  s10 a1 v2 (8 : Int32) ((4 : Int32) - (a1 - a1 / (4 : Int32) * (4 : Int32))) hm H locs ls hP hD hS (lv_sub hl [2, 3, 1] rfl)
            · replace hm := hm.2 c12
              refine lv_bipush (v := 12) hx hb d_Model_length_131 (by decide) ?_
              refine lv_goto (tgt := 138) hx hb d_Model_length_133 (by decide) ?_
              exact B138  s10 a1 v2 (12 : Int32) ((4 : Int32) - (a1 - a1 / (4 : Int32) * (4 : Int32))) hm H locs ls hP hD hS (lv_sub hl [2, 3, 1] rfl)
        · replace hm := hm.2 c8
          refine lv_iload_n hx hb d_Model_length_42 rfl (lv_at hl 3 rfl) ?_
          refine lv_iconst (v := 1) hx hb d_Model_length_43 (by decide) ?_
          refine lv_iadd hx hb d_Model_length_44 ?_
          refine lv_aload_n hx hb d_Model_length_45 rfl (lv_at hl 2 rfl) ?_
          refine va_get (D := D) (ci := 5) (v := .int (s4 19 5)) (C := R_Model) (T := T_Model) (N := 36) hx hb hts in_Model hown hK hP 0 rfl rfl 24 (by decide) (hts _ wd515) (fun _ h9 => h9) rfl d_Model_length_46 ?_
          refine lv_icmp_ge (tgt := 63) hx hb d_Model_length_49 (by decide) (fun c13 => ?_) (fun c13 => ?_)
          · replace hm := hm.1 c13
            refine lv_iconst (v := 0) hx hb d_Model_length_63 (by decide) ?_
            exact B64  s4 a1 (0 : Int32) hm H locs ls hP hD hS (lv_sub hl [2, 3] rfl)
          · replace hm := hm.2 c13
            refine lv_aload_n hx hb d_Model_length_52 rfl (lv_at hl 2 rfl) ?_
            refine va_get (D := D) (ci := 5) (v := .ref (ad 10)) (C := R_Model) (T := T_Model) (N := 36) hx hb hts in_Model hown hK hP 0 rfl rfl 14 (by decide) (hts _ wd505) (fun _ h9 => h9) rfl d_Model_length_53 ?_
            refine lv_iload_n hx hb d_Model_length_56 rfl (lv_at hl 3 rfl) ?_
            refine lv_iconst (v := 1) hx hb d_Model_length_57 (by decide) ?_
            refine lv_iadd hx hb d_Model_length_58 ?_
            obtain ⟨h14, hm⟩ := hm
            refine va_iald hx hb hK hP 10 9 rfl rfl h14 d_Model_length_59 ?_
            refine lv_goto (tgt := 64) hx hb d_Model_length_60 (by decide) ?_
            exact B64  s4 a1 (s4 9 ((a1 + (1 : Int32))).toNatClampNeg) hm H locs ls hP hD hS (lv_sub hl [2, 3] rfl)
      · replace hm := hm.2 c7
        refine lv_iconst (v := 0) hx hb d_Model_length_33 (by decide) ?_
        exact rt_i hx hb hr hlocks hK hP hD hS d_Model_length_34 hm
set_option maxHeartbeats 4000000 in
set_option maxRecDepth 100000 in
theorem c_Model_goals (l : Launch) (D : va_G) (ad : Nat → Nat) (ca : Nat → ClassId) (sz : Nat) (s : St) (a1 : Int32) (Post : Int32 → St → Prop) (hm : x_Model_goals s a1 Post) : CtI l y_Model_goals w_Model_goals { frames := 3, cells := 0, slots := 0, locals := 68 } D vwCl (tyM ca) (wM ad ca) sz [.ref (ad 0), .int a1] s Post := by
  refine ct_i (cc := prog_8_method_15_code) (maxL := 4) (ret := (some .int)) (by decide) rfl (Nat.le_of_ble_eq_true rfl) ?_
  intro p e s0 m args below meth c A hx hb hr hts hown hlocks hml hK hA
  have hown : s0.vm.findClass R_Model = some m.cls := hown
  have B26 : ∀ (s : St) (x1 : Int32) (x2 : Int32) (y0 : Int32) (y1 : Int32), x_Model_goals_26  Post s x1 x2 y0 y1 → Bk D vwCl (wM ad ca) A p l e { frames := 3, cells := 0, slots := 0, locals := 68 } s0 m args below meth c (MQ below (va_Qi Post (atG D vwCl (tyM ca) (wM ad ca) A) A) args s0 0 0 A) 4 26 s [(0, .ref (ad 0)), (1, .int x1), (2, .int x2)] [.int y0, .int y1] := by
    intro  s x1 x2 y0 y1 hm H locs ls hP hD hS hl
    unfold x_Model_goals_26 at hm
    refine lv_iadd hx hb d_Model_goals_26 ?_
    refine lv_topi (fun v4 ev4 => ?_)
    replace hm := hm v4 ev4
    refine lv_istore_n (lv' := [(3, .int v4), (0, .ref (ad 0)), (1, .int x1), (2, .int x2)]) hx hb d_Model_goals_27 rfl hl (by decide) rfl (fun ls hl => ?_)
    refine lv_iload_n hx hb d_Model_goals_28 rfl (lv_at hl 3 rfl) ?_
    refine cg_Si (As := [.int x2]) (rest := []) ⟨hx, hb, hml, hown, hts⟩ hK hP hD hS hA (c_Model_isTable l D ad ca H.size s x2 _ hm) (cwB 1 hts wd650 wd7 wd648 wd649 (by decide +kernel) ⟨Nat.le_of_ble_eq_true rfl, Nat.le_of_ble_eq_true rfl⟩) rfl hl rfl (Nat.le_of_ble_eq_true rfl) d_Model_goals_29 (fun r5 s6 hm => ?_)
    intro H locs ls hP hD hS hl
    refine lv_if_ne (tgt := 48) hx hb d_Model_goals_32 (by decide) (fun c7 => ?_) (fun c7 => ?_)
    · replace hm := hm.1 c7
      refine lv_iconst (v := 1) hx hb d_Model_goals_48 (by decide) ?_
      refine lv_aload_n hx hb d_Model_goals_49 rfl (lv_at hl 1 rfl) ?_
      refine lv_iload_n hx hb d_Model_goals_50 rfl (lv_at hl 2 rfl) ?_
      refine cg_Vi (b := (ad 0)) (As := [.int x1]) (rest := [.int (1 : Int32)]) ⟨hx, hb, hml, hown, hts⟩ hK hP hD hS hA (c_Model_length l D ad ca H.size s6 x1 _ hm) (cwA 1 hts wd644 wd7 wd641 wd643 ws26 (by decide +kernel) ⟨Nat.le_of_ble_eq_true rfl, Nat.le_of_ble_eq_true rfl⟩) (va_recv hK hP (ci := 5) (q0 := 0) rfl rfl) rfl hl rfl (Nat.le_of_ble_eq_true rfl) d_Model_goals_51 (fun r8 s9 hm => ?_)
      intro H locs ls hP hD hS hl
      refine lv_iload_n hx hb d_Model_goals_54 rfl (lv_at hl 0 rfl) ?_
      refine lv_isub hx hb d_Model_goals_55 ?_
      refine lv_iload_n hx hb d_Model_goals_56 rfl (lv_at hl 3 rfl) ?_
      refine lv_sipush (v := 170) hx hb d_Model_goals_57 (by decide) ?_
      refine lv_icmp_ne (tgt := 67) hx hb d_Model_goals_60 (by decide) (fun c10 => ?_) (fun c10 => ?_)
      · replace hm := hm.1 c10
        refine lv_bipush (v := 8) hx hb d_Model_goals_67 (by decide) ?_
        refine lv_idiv hx hb d_Model_goals_69 (by decide) ?_
        refine lv_iadd hx hb d_Model_goals_70 ?_
        exact rt_i hx hb hr hlocks hK hP hD hS d_Model_goals_71 hm
      · replace hm := hm.2 c10
        refine lv_iconst (v := 4) hx hb d_Model_goals_63 (by decide) ?_
        refine lv_goto (tgt := 69) hx hb d_Model_goals_64 (by decide) ?_
        refine lv_idiv hx hb d_Model_goals_69 (by decide) ?_
        refine lv_iadd hx hb d_Model_goals_70 ?_
        exact rt_i hx hb hr hlocks hK hP hD hS d_Model_goals_71 hm
    · replace hm := hm.2 c7
      refine lv_iload_n hx hb d_Model_goals_35 rfl (lv_at hl 3 rfl) ?_
      refine cg_Si (As := [.int x2]) (rest := []) ⟨hx, hb, hml, hown, hts⟩ hK hP hD hS hA (c_Model_isJump l D ad ca H.size s6 x2 _ hm) (cwB 1 hts wd662 wd7 wd660 wd661 (by decide +kernel) ⟨Nat.le_of_ble_eq_true rfl, Nat.le_of_ble_eq_true rfl⟩) rfl hl rfl (Nat.le_of_ble_eq_true rfl) d_Model_goals_36 (fun r11 s12 hm => ?_)
      intro H locs ls hP hD hS hl
      refine lv_if_eq (tgt := 46) hx hb d_Model_goals_39 (by decide) (fun c13 => ?_) (fun c13 => ?_)
      · replace hm := hm.1 c13
        refine lv_iconst (v := 0) hx hb d_Model_goals_46 (by decide) ?_
        exact rt_i hx hb hr hlocks hK hP hD hS d_Model_goals_47 hm
      · replace hm := hm.2 c13
        refine lv_iconst (v := 1) hx hb d_Model_goals_42 (by decide) ?_
        refine lv_goto (tgt := 47) hx hb d_Model_goals_43 (by decide) ?_
        exact rt_i hx hb hr hlocks hK hP hD hS d_Model_goals_47 hm
  intro H locs ls hP hD hS hl
  have hl : lv_has ls 4 [(0, .ref (ad 0)), (1, .int a1)] := hl
  unfold x_Model_goals at hm
  refine lv_aload_n hx hb d_Model_goals_0 rfl (lv_at hl 0 rfl) ?_
  refine va_get (D := D) (ci := 5) (v := .ref (ad 10)) (C := R_Model) (T := T_Model) (N := 36) hx hb hts in_Model hown hK hP 0 rfl rfl 14 (by decide) (hts _ wd505) (fun _ h9 => h9) rfl d_Model_goals_1 ?_
  refine lv_iload_n hx hb d_Model_goals_4 rfl (lv_at hl 1 rfl) ?_
  obtain ⟨h1, hm⟩ := hm
  refine va_iald hx hb hK hP 10 9 rfl rfl h1 d_Model_goals_5 ?_
  refine lv_topi (fun v2 ev2 => ?_)
  replace hm := hm v2 ev2
  refine lv_istore_n (lv' := [(2, .int v2), (0, .ref (ad 0)), (1, .int a1)]) hx hb d_Model_goals_6 rfl hl (by decide) rfl (fun ls hl => ?_)
  refine lv_iconst (v := 4) hx hb d_Model_goals_7 (by decide) ?_
  refine lv_iload_n hx hb d_Model_goals_8 rfl (lv_at hl 2 rfl) ?_
  refine lv_iconst (v := 4) hx hb d_Model_goals_9 (by decide) ?_
  refine lv_irem hx hb d_Model_goals_10 (by decide) ?_
  refine lv_isub hx hb d_Model_goals_11 ?_
  refine lv_iload_n hx hb d_Model_goals_12 rfl (lv_at hl 0 rfl) ?_
  refine lv_sipush (v := 170) hx hb d_Model_goals_13 (by decide) ?_
  refine lv_icmp_ne (tgt := 24) hx hb d_Model_goals_16 (by decide) (fun c3 => ?_) (fun c3 => ?_)
  · replace hm := hm.1 c3
    refine lv_bipush (v := 8) hx hb d_Model_goals_24 (by decide) ?_
    exact B26  s a1 v2 (8 : Int32) ((4 : Int32) - (a1 - a1 / (4 : Int32) * (4 : Int32))) hm H locs ls hP hD hS (lv_sub hl [1, 2, 0] rfl)
  · replace hm := hm.2 c3
    refine lv_bipush (v := 12) hx hb d_Model_goals_19 (by decide) ?_
    refine lv_goto (tgt := 26) hx hb d_Model_goals_21 (by decide) ?_
    exact B26  s a1 v2 (12 : Int32) ((4 : Int32) - (a1 - a1 / (4 : Int32) * (4 : Int32))) hm H locs ls hP hD hS (lv_sub hl [1, 2, 0] rfl)
set_option maxHeartbeats 4000000 in
set_option maxRecDepth 100000 in
theorem c_Model_placeOfGoal (l : Launch) (D : va_G) (ad : Nat → Nat) (ca : Nat → ClassId) (sz : Nat) (s : St) (a1 : Int32) (a2 : Int32) (Post : Int32 → St → Prop) (hm : x_Model_placeOfGoal s a1 a2 Post) : CtI l y_Model_placeOfGoal w_Model_placeOfGoal { frames := 0, cells := 0, slots := 0, locals := 0 } D vwCl (tyM ca) (wM ad ca) sz [.ref (ad 0), .int a1, .int a2] s Post := by
  refine ct_i (cc := prog_8_method_16_code) (maxL := 5) (ret := (some .int)) (by decide) rfl (Nat.le_of_ble_eq_true rfl) ?_
  intro p e s0 m args below meth c A hx hb hr hts hown hlocks hml hK hA
  have hown : s0.vm.findClass R_Model = some m.cls := hown
  intro H locs ls hP hD hS hl
  have hl : lv_has ls 5 [(0, .ref (ad 0)), (1, .int a1), (2, .int a2)] := hl
  unfold x_Model_placeOfGoal at hm
  refine lv_aload_n hx hb d_Model_placeOfGoal_0 rfl (lv_at hl 0 rfl) ?_
  refine va_get (D := D) (ci := 5) (v := .ref (ad 10)) (C := R_Model) (T := T_Model) (N := 36) hx hb hts in_Model hown hK hP 0 rfl rfl 14 (by decide) (hts _ wd505) (fun _ h9 => h9) rfl d_Model_placeOfGoal_1 ?_
  refine lv_iload_n hx hb d_Model_placeOfGoal_4 rfl (lv_at hl 1 rfl) ?_
  obtain ⟨h1, hm⟩ := hm
  refine va_iald hx hb hK hP 10 9 rfl rfl h1 d_Model_placeOfGoal_5 ?_
  refine lv_topi (fun v2 ev2 => ?_)
  replace hm := hm v2 ev2
  refine lv_istore_n (lv' := [(3, .int v2), (0, .ref (ad 0)), (1, .int a1), (2, .int a2)]) hx hb d_Model_placeOfGoal_6 rfl hl (by decide) rfl (fun ls hl => ?_)
  refine lv_iload_n hx hb d_Model_placeOfGoal_7 rfl (lv_at hl 2 rfl) ?_
  refine lv_iconst (v := 4) hx hb d_Model_placeOfGoal_8 (by decide) ?_
  refine lv_iadd hx hb d_Model_placeOfGoal_9 ?_
  refine lv_iload_n hx hb d_Model_placeOfGoal_10 rfl (lv_at hl 2 rfl) ?_
  refine lv_iconst (v := 4) hx hb d_Model_placeOfGoal_11 (by decide) ?_
  refine lv_irem hx hb d_Model_placeOfGoal_12 (by decide) ?_
  refine lv_isub hx hb d_Model_placeOfGoal_13 ?_
  refine lv_topi (fun v3 ev3 => ?_)
  replace hm := hm v3 ev3
  refine lv_istore (lv' := [(4, .int v3), (3, .int v2), (0, .ref (ad 0)), (1, .int a1), (2, .int a2)]) hx hb d_Model_placeOfGoal_14 hl (by decide) rfl (fun ls hl => ?_)
  refine lv_iload_n hx hb d_Model_placeOfGoal_16 rfl (lv_at hl 4 rfl) ?_
  refine lv_if_ne (tgt := 25) hx hb d_Model_placeOfGoal_17 (by decide) (fun c4 => ?_) (fun c4 => ?_)
  · replace hm := hm.1 c4
    refine lv_iload_n hx hb d_Model_placeOfGoal_25 rfl (lv_at hl 1 rfl) ?_
    refine lv_sipush (v := 170) hx hb d_Model_placeOfGoal_26 (by decide) ?_
    refine lv_icmp_ne (tgt := 44) hx hb d_Model_placeOfGoal_29 (by decide) (fun c5 => ?_) (fun c5 => ?_)
    · replace hm := hm.1 c5
      refine lv_iload hx hb d_Model_placeOfGoal_44 (lv_at hl 0 rfl) ?_
      refine lv_iconst (v := 4) hx hb d_Model_placeOfGoal_46 (by decide) ?_
      refine lv_iadd hx hb d_Model_placeOfGoal_47 ?_
      refine lv_bipush (v := 8) hx hb d_Model_placeOfGoal_48 (by decide) ?_
      refine lv_iload_n hx hb d_Model_placeOfGoal_50 rfl (lv_at hl 4 rfl) ?_
      refine lv_imul hx hb d_Model_placeOfGoal_51 ?_
      refine lv_iadd hx hb d_Model_placeOfGoal_52 ?_
      exact rt_i hx hb hr hlocks hK hP hD hS d_Model_placeOfGoal_53 hm
    · replace hm := hm.2 c5
      refine lv_iload hx hb d_Model_placeOfGoal_32 (lv_at hl 0 rfl) ?_
      refine lv_bipush (v := 8) hx hb d_Model_placeOfGoal_34 (by decide) ?_
      refine lv_iadd hx hb d_Model_placeOfGoal_36 ?_
      refine lv_iconst (v := 4) hx hb d_Model_placeOfGoal_37 (by decide) ?_
      refine lv_iload_n hx hb d_Model_placeOfGoal_38 rfl (lv_at hl 4 rfl) ?_
      refine lv_imul hx hb d_Model_placeOfGoal_39 ?_
      refine lv_iadd hx hb d_Model_placeOfGoal_40 ?_
      refine lv_goto (tgt := 53) hx hb d_Model_placeOfGoal_41 (by decide) ?_
      exact rt_i hx hb hr hlocks hK hP hD hS d_Model_placeOfGoal_53 hm
  · replace hm := hm.2 c4
    refine lv_iload hx hb d_Model_placeOfGoal_20 (lv_at hl 0 rfl) ?_
    refine lv_goto (tgt := 53) hx hb d_Model_placeOfGoal_22 (by decide) ?_
    exact rt_i hx hb hr hlocks hK hP hD hS d_Model_placeOfGoal_53 hm
set_option maxHeartbeats 4000000 in
set_option maxRecDepth 100000 in
theorem c_Model_goal (l : Launch) (D : va_G) (ad : Nat → Nat) (ca : Nat → ClassId) (sz : Nat) (s : St) (a1 : Int32) (a2 : Int32) (Post : Int32 → St → Prop) (hm : x_Model_goal s a1 a2 Post) : CtI l y_Model_goal w_Model_goal { frames := 1, cells := 0, slots := 0, locals := 24 } D vwCl (tyM ca) (wM ad ca) sz [.ref (ad 0), .int a1, .int a2] s Post := by
  refine ct_i (cc := prog_8_method_17_code) (maxL := 4) (ret := (some .int)) (by decide) rfl (Nat.le_of_ble_eq_true rfl) ?_
  intro p e s0 m args below meth c A hx hb hr hts hown hlocks hml hK hA
  have hown : s0.vm.findClass R_Model = some m.cls := hown
  intro H locs ls hP hD hS hl
  have hl : lv_has ls 4 [(0, .ref (ad 0)), (1, .int a1), (2, .int a2)] := hl
  unfold x_Model_goal at hm
  refine lv_aload_n hx hb d_Model_goal_0 rfl (lv_at hl 0 rfl) ?_
  refine va_get (D := D) (ci := 5) (v := .ref (ad 10)) (C := R_Model) (T := T_Model) (N := 36) hx hb hts in_Model hown hK hP 0 rfl rfl 14 (by decide) (hts _ wd505) (fun _ h9 => h9) rfl d_Model_goal_1 ?_
  refine lv_iload_n hx hb d_Model_goal_4 rfl (lv_at hl 1 rfl) ?_
  obtain ⟨h1, hm⟩ := hm
  refine va_iald hx hb hK hP 10 9 rfl rfl h1 d_Model_goal_5 ?_
  refine lv_topi (fun v2 ev2 => ?_)
  replace hm := hm v2 ev2
  refine lv_istore_n (lv' := [(3, .int v2), (0, .ref (ad 0)), (1, .int a1), (2, .int a2)]) hx hb d_Model_goal_6 rfl hl (by decide) rfl (fun ls hl => ?_)
  refine lv_iload_n hx hb d_Model_goal_7 rfl (lv_at hl 0 rfl) ?_
  refine cg_Si (As := [.int v2]) (rest := []) ⟨hx, hb, hml, hown, hts⟩ hK hP hD hS hA (c_Model_isTable l D ad ca H.size s v2 _ hm) (cwB 1 hts wd650 wd7 wd648 wd649 (by decide +kernel) ⟨Nat.le_of_ble_eq_true rfl, Nat.le_of_ble_eq_true rfl⟩) rfl hl rfl (Nat.le_of_ble_eq_true rfl) d_Model_goal_8 (fun r3 s4 hm => ?_)
  intro H locs ls hP hD hS hl
  refine lv_if_eq (tgt := 27) hx hb d_Model_goal_11 (by decide) (fun c5 => ?_) (fun c5 => ?_)
  · replace hm := hm.1 c5
    refine lv_iload_n hx hb d_Model_goal_27 rfl (lv_at hl 2 rfl) ?_
    refine lv_iload_n hx hb d_Model_goal_28 rfl (lv_at hl 0 rfl) ?_
    refine lv_sipush (v := 200) hx hb d_Model_goal_29 (by decide) ?_
    refine lv_icmp_ne (tgt := 45) hx hb d_Model_goal_32 (by decide) (fun c6 => ?_) (fun c6 => ?_)
    · replace hm := hm.1 c6
      refine lv_aload_n hx hb d_Model_goal_45 rfl (lv_at hl 1 rfl) ?_
      refine va_get (D := D) (ci := 5) (v := .ref (ad 10)) (C := R_Model) (T := T_Model) (N := 36) hx hb hts in_Model hown hK hP 0 rfl rfl 14 (by decide) (hts _ wd505) (fun _ h9 => h9) rfl d_Model_goal_46 ?_
      refine lv_iload_n hx hb d_Model_goal_49 rfl (lv_at hl 2 rfl) ?_
      refine lv_iconst (v := 1) hx hb d_Model_goal_50 (by decide) ?_
      refine lv_iadd hx hb d_Model_goal_51 ?_
      obtain ⟨h7, hm⟩ := hm
      refine va_iald hx hb hK hP 10 9 rfl rfl h7 d_Model_goal_52 ?_
      refine lv_bipush (v := 8) hx hb d_Model_goal_53 (by decide) ?_
      refine lv_ishl hx hb d_Model_goal_55 ?_
      refine lv_aload_n hx hb d_Model_goal_56 rfl (lv_at hl 1 rfl) ?_
      refine va_get (D := D) (ci := 5) (v := .ref (ad 10)) (C := R_Model) (T := T_Model) (N := 36) hx hb hts in_Model hown hK hP 0 rfl rfl 14 (by decide) (hts _ wd505) (fun _ h9 => h9) rfl d_Model_goal_57 ?_
      refine lv_iload_n hx hb d_Model_goal_60 rfl (lv_at hl 2 rfl) ?_
      refine lv_iconst (v := 2) hx hb d_Model_goal_61 (by decide) ?_
      refine lv_iadd hx hb d_Model_goal_62 ?_
      obtain ⟨h8, hm⟩ := hm
      refine va_iald hx hb hK hP 10 9 rfl rfl h8 d_Model_goal_63 ?_
      refine lv_ior hx hb d_Model_goal_64 ?_
      refine lv_i2s (v := ((((s4 9 ((a1 + (1 : Int32))).toNatClampNeg) <<< ((8 : Int32) &&& 31)) ||| (s4 9 ((a1 + (2 : Int32))).toNatClampNeg))).toInt16.toInt32) hx hb d_Model_goal_65 rfl ?_
      refine lv_iadd hx hb d_Model_goal_66 ?_
      exact rt_i hx hb hr hlocks hK hP hD hS d_Model_goal_67 hm
    · replace hm := hm.2 c6
      refine lv_aload_n hx hb d_Model_goal_35 rfl (lv_at hl 1 rfl) ?_
      refine lv_iload_n hx hb d_Model_goal_36 rfl (lv_at hl 2 rfl) ?_
      refine lv_iconst (v := 1) hx hb d_Model_goal_37 (by decide) ?_
      refine lv_iadd hx hb d_Model_goal_38 ?_
      refine cg_Vi (b := (ad 0)) (As := [.int (a1 + (1 : Int32))]) (rest := [.int a1]) ⟨hx, hb, hml, hown, hts⟩ hK hP hD hS hA (c_Model_s4 l D ad ca H.size s4 (a1 + (1 : Int32)) _ hm) (cwA 1 hts wd654 wd7 wd651 wd653 ws27 (by decide +kernel) ⟨Nat.le_of_ble_eq_true rfl, Nat.le_of_ble_eq_true rfl⟩) (va_recv hK hP (ci := 5) (q0 := 0) rfl rfl) rfl hl rfl (Nat.le_of_ble_eq_true rfl) d_Model_goal_39 (fun r9 s10 hm => ?_)
      intro H locs ls hP hD hS hl
      refine lv_goto (tgt := 66) hx hb d_Model_goal_42 (by decide) ?_
      refine lv_iadd hx hb d_Model_goal_66 ?_
      exact rt_i hx hb hr hlocks hK hP hD hS d_Model_goal_67 hm
  · replace hm := hm.2 c5
    refine lv_iload_n hx hb d_Model_goal_14 rfl (lv_at hl 2 rfl) ?_
    refine lv_aload_n hx hb d_Model_goal_15 rfl (lv_at hl 1 rfl) ?_
    refine lv_aload_n hx hb d_Model_goal_16 rfl (lv_at hl 1 rfl) ?_
    refine lv_iload_n hx hb d_Model_goal_17 rfl (lv_at hl 2 rfl) ?_
    refine lv_iload_n hx hb d_Model_goal_18 rfl (lv_at hl 3 rfl) ?_
    refine cg_Vi (b := (ad 0)) (As := [.int a1, .int a2]) (rest := [.ref (ad 0), .int a1]) ⟨hx, hb, hml, hown, hts⟩ hK hP hD hS hA (c_Model_placeOfGoal l D ad ca H.size s4 a1 a2 _ hm) (cwA 2 hts wd670 wd7 wd667 wd669 ws30 (by decide +kernel) ⟨Nat.le_of_ble_eq_true rfl, Nat.le_of_ble_eq_true rfl⟩) (va_recv hK hP (ci := 5) (q0 := 0) rfl rfl) rfl hl rfl (Nat.le_of_ble_eq_true rfl) d_Model_goal_19 (fun r11 s12 hm => ?_)
    intro H locs ls hP hD hS hl
    refine cg_Vi (b := (ad 0)) (As := [.int r11]) (rest := [.int a1]) ⟨hx, hb, hml, hown, hts⟩ hK hP hD hS hA (c_Model_s4 l D ad ca H.size s12 r11 _ hm) (cwA 1 hts wd654 wd7 wd651 wd653 ws27 (by decide +kernel) ⟨Nat.le_of_ble_eq_true rfl, Nat.le_of_ble_eq_true rfl⟩) (va_recv hK hP (ci := 5) (q0 := 0) rfl rfl) rfl hl rfl (Nat.le_of_ble_eq_true rfl) d_Model_goal_22 (fun r13 s14 hm => ?_)
    intro H locs ls hP hD hS hl
    refine lv_iadd hx hb d_Model_goal_25 ?_
    exact rt_i hx hb hr hlocks hK hP hD hS d_Model_goal_26 hm
set_option maxHeartbeats 4000000 in
set_option maxRecDepth 100000 in
theorem c_Model_begins (l : Launch) (D : va_G) (ad : Nat → Nat) (ca : Nat → ClassId) (sz : Nat) (s : St) (a1 : Int32) (Post : Int32 → St → Prop) (hm : x_Model_begins s a1 Post) : CtI l y_Model_begins w_Model_begins { frames := 1, cells := 0, slots := 0, locals := 22 } D vwCl (tyM ca) (wM ad ca) sz [.ref (ad 0), .int a1] s Post := by
  refine ct_i (cc := prog_8_method_18_code) (maxL := 2) (ret := (some .boolean)) (by decide) rfl (Nat.le_of_ble_eq_true rfl) ?_
  intro p e s0 m args below meth c A hx hb hr hts hown hlocks hml hK hA
  have hown : s0.vm.findClass R_Model = some m.cls := hown
  intro H locs ls hP hD hS hl
  have hl : lv_has ls 2 [(0, .ref (ad 0)), (1, .int a1)] := hl
  unfold x_Model_begins at hm
  refine lv_iload_n hx hb d_Model_begins_0 rfl (lv_at hl 1 rfl) ?_
  refine lv_iconst (v := 0) hx hb d_Model_begins_1 (by decide) ?_
  refine lv_aload_n hx hb d_Model_begins_2 rfl (lv_at hl 0 rfl) ?_
  refine va_get (D := D) (ci := 5) (v := .int (s 19 5)) (C := R_Model) (T := T_Model) (N := 36) hx hb hts in_Model hown hK hP 0 rfl rfl 24 (by decide) (hts _ wd515) (fun _ h9 => h9) rfl d_Model_begins_3 ?_
  refine lv_iconst (v := 1) hx hb d_Model_begins_6 (by decide) ?_
  refine lv_isub hx hb d_Model_begins_7 ?_
  refine cg_Si (As := [.int a1, .int (0 : Int32), .int ((s 19 5) - (1 : Int32))]) (rest := []) ⟨hx, hb, hml, hown, hts⟩ hK hP hD hS hA (c_Model_in l D ad ca H.size s a1 (0 : Int32) ((s 19 5) - (1 : Int32)) _ hm) (cwB 3 hts wd606 wd7 wd604 wd605 (by decide +kernel) ⟨Nat.le_of_ble_eq_true rfl, Nat.le_of_ble_eq_true rfl⟩) rfl hl rfl (Nat.le_of_ble_eq_true rfl) d_Model_begins_8 (fun r1 s2 hm => ?_)
  intro H locs ls hP hD hS hl
  refine lv_if_eq (tgt := 27) hx hb d_Model_begins_11 (by decide) (fun c3 => ?_) (fun c3 => ?_)
  · replace hm := hm.1 c3
    refine lv_iconst (v := 0) hx hb d_Model_begins_27 (by decide) ?_
    exact rt_z hx hb hr hm.1 hlocks hK hP hD hS d_Model_begins_28 hm.2
  · replace hm := hm.2 c3
    refine lv_aload_n hx hb d_Model_begins_14 rfl (lv_at hl 0 rfl) ?_
    refine va_get (D := D) (ci := 5) (v := .ref (ad 8)) (C := R_Model) (T := T_Model) (N := 36) hx hb hts in_Model hown hK hP 0 rfl rfl 12 (by decide) (hts _ wd503) (fun _ h9 => h9) rfl d_Model_begins_15 ?_
    refine lv_iload_n hx hb d_Model_begins_18 rfl (lv_at hl 1 rfl) ?_
    obtain ⟨h4, hm⟩ := hm
    refine va_zald hx hb hK hP 8 7 rfl rfl h4 d_Model_begins_19 ?_
    refine lv_if_eq (tgt := 27) hx hb d_Model_begins_20 (by decide) (fun c5 => ?_) (fun c5 => ?_)
    · replace hm := hm.1 c5
      refine lv_iconst (v := 0) hx hb d_Model_begins_27 (by decide) ?_
      exact rt_z hx hb hr hm.1 hlocks hK hP hD hS d_Model_begins_28 hm.2
    · replace hm := hm.2 c5
      refine lv_iconst (v := 1) hx hb d_Model_begins_23 (by decide) ?_
      refine lv_goto (tgt := 28) hx hb d_Model_begins_24 (by decide) ?_
      exact rt_z hx hb hr hm.1 hlocks hK hP hD hS d_Model_begins_28 hm.2
