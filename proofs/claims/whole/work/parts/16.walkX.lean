set_option maxHeartbeats 4000000 in
set_option maxRecDepth 100000 in
theorem c_Source_append (l : Launch) (D : va_G) (ad : Nat → Nat) (ca : Nat → ClassId) (sz : Nat) (s : St) (a1 : Int32) (Post : St → Prop) (hm : x_Source_append s a1 Post) : CtV l y_Source_append w_Source_append { frames := 0, cells := 0, slots := 0, locals := 0 } D vwCl (tyX ca) (wX ad ca) sz [.ref (ad 1), .int a1] s Post := by
  refine ct_v (cc := prog_5_method_2_code) (maxL := 2) (ret := none) (by decide) rfl (Nat.le_of_ble_eq_true rfl) ?_
  intro p e s0 m args below meth c A hx hb hr hts hown hlocks hml hK hA
  have hown : s0.vm.findClass R_Source = some m.cls := hown
  intro H locs ls hP hD hS hl
  have hl : lv_has ls 2 [(0, .ref (ad 1)), (1, .int a1)] := hl
  unfold x_Source_append at hm
  refine lv_aload_n hx hb d_Source_append_0 rfl (lv_at hl 0 rfl) ?_
  refine va_get (D := D) (ci := 1) (v := .int (s 15 1)) (C := R_Source) (T := T_Source) (N := 4) hx hb hts in_Source hown hK hP 1 rfl rfl 2 (by decide) (hts _ wd26) (fun _ h9 => h9) rfl d_Source_append_1 ?_
  refine lv_sipush (v := 200) hx hb d_Source_append_4 (by decide) ?_
  refine lv_icmp_ge (tgt := 27) hx hb d_Source_append_7 (by decide) (fun c1 => ?_) (fun c1 => ?_)
  · replace hm := hm.1 c1
    exact rt_v hx hb hr hlocks hK hP hD hS d_Source_append_27 hm
  · replace hm := hm.2 c1
    refine lv_aload_n hx hb d_Source_append_10 rfl (lv_at hl 0 rfl) ?_
    refine va_get (D := D) (ci := 1) (v := .ref (ad 2)) (C := R_Source) (T := T_Source) (N := 4) hx hb hts in_Source hown hK hP 1 rfl rfl 0 (by decide) (hts _ wd23) (fun _ h9 => h9) rfl d_Source_append_11 ?_
    refine lv_aload_n hx hb d_Source_append_14 rfl (lv_at hl 0 rfl) ?_
    refine lv_dup hx hb d_Source_append_15 rfl ?_
    refine va_get (D := D) (ci := 1) (v := .int (s 15 1)) (C := R_Source) (T := T_Source) (N := 4) hx hb hts in_Source hown hK hP 1 rfl rfl 2 (by decide) (hts _ wd26) (fun _ h9 => h9) rfl d_Source_append_16 ?_
    refine lv_dup_x1 hx hb d_Source_append_19 rfl rfl ?_
    refine lv_iconst (v := 1) hx hb d_Source_append_20 (by decide) ?_
    refine lv_iadd hx hb d_Source_append_21 ?_
    refine va_put (D := D) (ci := 1) (v := .int ((s 15 1) + (1 : Int32))) (ty := .int) (C := R_Source) (T := T_Source) (N := 4) hx hb hts in_Source t_Source to_Source no_Source hown hK hP hD hS 1 rfl rfl 2 (by decide) (hts _ wd26) (fun _ h9 => h9) rfl (by decide +kernel) rfl rfl (Nat.le_of_ble_eq_true rfl) d_Source_append_22 (fun H locs hP hD hS => ?_)
    have hP : va_P D vwCl (wX ad ca (su s 15 1 ((s 15 1) + (1 : Int32)))) H := hP
    have hD : va_D A (wX ad ca (su s 15 1 ((s 15 1) + (1 : Int32)))) := hD
    obtain ⟨s2, es2⟩ : ∃ z : St, z = su s 15 1 ((s 15 1) + (1 : Int32)) := ⟨_, rfl⟩
    rw [← es2] at hP hD
    replace hm := hm s2 es2
    refine lv_iload_n hx hb d_Source_append_25 rfl (lv_at hl 1 rfl) ?_
    obtain ⟨h3, hm⟩ := hm
    refine va_iast hx hb hK hP hD hS 2 0 rfl rfl h3 d_Source_append_26 (fun H locs hP hD hS => ?_)
    have hP : va_P D vwCl (wX ad ca (su s2 0 ((s 15 1)).toNatClampNeg a1)) H := hP
    have hD : va_D A (wX ad ca (su s2 0 ((s 15 1)).toNatClampNeg a1)) := hD
    obtain ⟨s4, es4⟩ : ∃ z : St, z = su s2 0 ((s 15 1)).toNatClampNeg a1 := ⟨_, rfl⟩
    rw [← es4] at hP hD
    replace hm := hm s4 es4
    exact rt_v hx hb hr hlocks hK hP hD hS d_Source_append_27 hm
set_option maxHeartbeats 4000000 in
set_option maxRecDepth 100000 in
theorem c_Desk_code (l : Launch) (D : va_G) (ad : Nat → Nat) (ca : Nat → ClassId) (sz : Nat) (s : St) (a1 : Int64) (a3 : Int32) (Post : Int32 → St → Prop) (hm : x_Desk_code s a1 a3 Post) : CtI l y_Desk_code w_Desk_code { frames := 1, cells := 0, slots := 0, locals := 21 } D vwCl (tyX ca) (wX ad ca) sz [.ref (ad 0), .long a1, .int a3] s Post := by
  refine ct_i (cc := prog_1_method_2_code) (maxL := 5) (ret := (some .int)) (by decide) rfl (Nat.le_of_ble_eq_true rfl) ?_
  intro p e s0 m args below meth c A hx hb hr hts hown hlocks hml hK hA
  have hown : s0.vm.findClass R_Desk = some m.cls := hown
  have B34 : ∀ (n : Nat) (s : St) (x1 : Int64) (x3 : Int32) (x4 : Int32), x_Desk_code_34  Post n s x1 x3 x4 → Bk D vwCl (wX ad ca) A p l e { frames := 1, cells := 0, slots := 0, locals := 21 } s0 m args below meth c (MQ below (va_Qi Post (atG D vwCl (tyX ca) (wX ad ca) A) A) args s0 0 0 A) 5 34 s [(0, .ref (ad 0)), (1, .long x1), (3, .int x3), (4, .int x4)] [] := by
    intro  n34
    induction n34 with
    | zero => intro s x1 x3 x4 hm; exact hm.elim
    | succ n34 hK34 =>
      intro s x1 x3 x4 hm H locs ls hP hD hS hl
      have hm : x_Desk_code_34F  Post (fun s x1 x3 x4 => x_Desk_code_34  Post n34 s x1 x3 x4) s x1 x3 x4 := hm
      unfold x_Desk_code_34F at hm
      refine lv_iload hx hb d_Desk_code_34 (lv_at hl 3 rfl) ?_
      refine lv_iload_n hx hb d_Desk_code_36 rfl (lv_at hl 2 rfl) ?_
      refine lv_icmp_ge (tgt := 68) hx hb d_Desk_code_37 (by decide) (fun c4 => ?_) (fun c4 => ?_)
      · replace hm := hm.1 c4
        refine lv_aload_n hx hb d_Desk_code_68 rfl (lv_at hl 0 rfl) ?_
        refine va_get (D := D) (ci := 0) (v := .ref (ad 1)) (C := R_Desk) (T := T_Desk) (N := 5) hx hb hts in_Desk hown hK hP 0 rfl rfl 0 (by decide) (hts _ wd188) (fun _ h9 => h9) rfl d_Desk_code_69 ?_
        refine va_get (D := D) (ci := 1) (v := .int (s 15 1)) (C := R_Source) (T := T_Source) (N := 4) hx hb hts in_Source hown hK hP 1 rfl rfl 2 (by decide) (hts _ wd27) (fun _ h9 => h9) rfl d_Desk_code_72 ?_
        exact rt_i hx hb hr hlocks hK hP hD hS d_Desk_code_75 hm
      · replace hm := hm.2 c4
        refine lv_aload_n hx hb d_Desk_code_40 rfl (lv_at hl 0 rfl) ?_
        refine va_get (D := D) (ci := 0) (v := .ref (ad 1)) (C := R_Desk) (T := T_Desk) (N := 5) hx hb hts in_Desk hown hK hP 0 rfl rfl 0 (by decide) (hts _ wd188) (fun _ h9 => h9) rfl d_Desk_code_41 ?_
        refine lv_lload_n hx hb d_Desk_code_44 rfl (lv_at hl 1 rfl) ?_
        refine lv_bipush (v := 56) hx hb d_Desk_code_45 (by decide) ?_
        refine lv_bipush (v := 8) hx hb d_Desk_code_47 (by decide) ?_
        refine lv_iload hx hb d_Desk_code_49 (lv_at hl 3 rfl) ?_
        refine lv_imul hx hb d_Desk_code_51 ?_
        refine lv_isub hx hb d_Desk_code_52 ?_
        refine lv_lushr (v := ((x1).toUInt64 >>> ((((56 : Int32) - ((8 : Int32) * x4))).toInt64.toUInt64 &&& Int64.toUInt64 63)).toInt64) hx hb d_Desk_code_53 rfl ?_
        refine lv_l2i (v := (((x1).toUInt64 >>> ((((56 : Int32) - ((8 : Int32) * x4))).toInt64.toUInt64 &&& Int64.toUInt64 63)).toInt64).toInt32) hx hb d_Desk_code_54 rfl ?_
        refine lv_sipush (v := 255) hx hb d_Desk_code_55 (by decide) ?_
        refine lv_iand hx hb d_Desk_code_58 ?_
        refine cg_Vv (b := (ad 1)) (As := [.int ((((x1).toUInt64 >>> ((((56 : Int32) - ((8 : Int32) * x4))).toInt64.toUInt64 &&& Int64.toUInt64 63)).toInt64).toInt32 &&& (255 : Int32))]) (rest := []) ⟨hx, hb, hml, hown, hts⟩ hK hP hD hS hA (c_Source_append l D ad ca H.size s ((((x1).toUInt64 >>> ((((56 : Int32) - ((8 : Int32) * x4))).toInt64.toUInt64 &&& Int64.toUInt64 63)).toInt64).toInt32 &&& (255 : Int32)) _ hm) (cwA 1 hts wd211 wd2 wd208 wd209 wd210 (by decide +kernel) ⟨Nat.le_of_ble_eq_true rfl, Nat.le_of_ble_eq_true rfl⟩) (va_recv hK hP (ci := 1) (q0 := 1) rfl rfl) rfl hl rfl (Nat.le_of_ble_eq_true rfl) d_Desk_code_59 (fun s6 hm => ?_)
        intro H locs ls hP hD hS hl
        obtain ⟨v7, ev7⟩ : ∃ y : Int32, y = x4 + 1 := ⟨_, rfl⟩
        replace hm := hm v7 ev7
        refine lv_iinc (v := v7) (lv' := [(4, .int v7), (0, .ref (ad 0)), (1, .long x1), (3, .int x3)]) hx hb d_Desk_code_62 hl (k := 3) rfl (by rw [ev7]; rfl) (by decide) rfl (fun ls hl => ?_)
        refine lv_goto (tgt := 34) hx hb d_Desk_code_65 (by decide) ?_
        exact hK34 s6 x1 x3 v7 hm H locs ls hP hD hS (lv_sub hl [1, 2, 3, 0] rfl)
  intro H locs ls hP hD hS hl
  have hl : lv_has ls 5 [(0, .ref (ad 0)), (1, .long a1), (3, .int a3)] := hl
  unfold x_Desk_code at hm
  refine lv_iload_n hx hb d_Desk_code_0 rfl (lv_at hl 2 rfl) ?_
  refine lv_iconst (v := 1) hx hb d_Desk_code_1 (by decide) ?_
  refine lv_icmp_lt (tgt := 11) hx hb d_Desk_code_2 (by decide) (fun c1 => ?_) (fun c1 => ?_)
  · replace hm := hm.1 c1
    refine lv_iconst (v := -1) hx hb d_Desk_code_11 (by decide) ?_
    exact rt_i hx hb hr hlocks hK hP hD hS d_Desk_code_12 hm
  · replace hm := hm.2 c1
    refine lv_iload_n hx hb d_Desk_code_5 rfl (lv_at hl 2 rfl) ?_
    refine lv_bipush (v := 8) hx hb d_Desk_code_6 (by decide) ?_
    refine lv_icmp_le (tgt := 13) hx hb d_Desk_code_8 (by decide) (fun c2 => ?_) (fun c2 => ?_)
    · replace hm := hm.1 c2
      refine lv_aload_n hx hb d_Desk_code_13 rfl (lv_at hl 0 rfl) ?_
      refine va_get (D := D) (ci := 0) (v := .ref (ad 1)) (C := R_Desk) (T := T_Desk) (N := 5) hx hb hts in_Desk hown hK hP 0 rfl rfl 0 (by decide) (hts _ wd188) (fun _ h9 => h9) rfl d_Desk_code_14 ?_
      refine va_get (D := D) (ci := 1) (v := .int (s 15 1)) (C := R_Source) (T := T_Source) (N := 4) hx hb hts in_Source hown hK hP 1 rfl rfl 2 (by decide) (hts _ wd27) (fun _ h9 => h9) rfl d_Desk_code_17 ?_
      refine lv_iload_n hx hb d_Desk_code_20 rfl (lv_at hl 2 rfl) ?_
      refine lv_iadd hx hb d_Desk_code_21 ?_
      refine lv_sipush (v := 200) hx hb d_Desk_code_22 (by decide) ?_
      refine lv_icmp_le (tgt := 31) hx hb d_Desk_code_25 (by decide) (fun c3 => ?_) (fun c3 => ?_)
      · replace hm := hm.1 c3
        refine lv_iconst (v := 0) hx hb d_Desk_code_31 (by decide) ?_
        refine lv_istore (lv' := [(4, .int (0 : Int32)), (0, .ref (ad 0)), (1, .long a1), (3, .int a3)]) hx hb d_Desk_code_32 hl (by decide) rfl (fun ls hl => ?_)
        obtain ⟨n34, hm⟩ := hm
        exact B34  n34 s a1 a3 (0 : Int32) hm H locs ls hP hD hS (lv_sub hl [1, 2, 3, 0] rfl)
      · replace hm := hm.2 c3
        refine lv_bipush (v := -2) hx hb d_Desk_code_28 (by decide) ?_
        exact rt_i hx hb hr hlocks hK hP hD hS d_Desk_code_30 hm
    · replace hm := hm.2 c2
      refine lv_iconst (v := -1) hx hb d_Desk_code_11 (by decide) ?_
      exact rt_i hx hb hr hlocks hK hP hD hS d_Desk_code_12 hm
set_option maxHeartbeats 4000000 in
set_option maxRecDepth 100000 in
theorem c_Desk_isOctet (l : Launch) (D : va_G) (ad : Nat → Nat) (ca : Nat → ClassId) (sz : Nat) (s : St) (a0 : Int32) (Post : Int32 → St → Prop) (hm : x_Desk_isOctet s a0 Post) : CtI l y_Desk_isOctet w_Desk_isOctet { frames := 0, cells := 0, slots := 0, locals := 0 } D vwCl (tyX ca) (wX ad ca) sz [.int a0] s Post := by
  refine ct_i (cc := prog_1_method_16_code) (maxL := 1) (ret := (some .boolean)) (by decide) rfl (Nat.le_of_ble_eq_true rfl) ?_
  intro p e s0 m args below meth c A hx hb hr hts hown hlocks hml hK hA
  have hown : s0.vm.findClass R_Desk = some m.cls := hown
  intro H locs ls hP hD hS hl
  have hl : lv_has ls 1 [(0, .int a0)] := hl
  unfold x_Desk_isOctet at hm
  refine lv_iload_n hx hb d_Desk_isOctet_0 rfl (lv_at hl 0 rfl) ?_
  refine lv_if_lt (tgt := 15) hx hb d_Desk_isOctet_1 (by decide) (fun c1 => ?_) (fun c1 => ?_)
  · replace hm := hm.1 c1
    refine lv_iconst (v := 0) hx hb d_Desk_isOctet_15 (by decide) ?_
    exact rt_z hx hb hr hm.1 hlocks hK hP hD hS d_Desk_isOctet_16 hm.2
  · replace hm := hm.2 c1
    refine lv_iload_n hx hb d_Desk_isOctet_4 rfl (lv_at hl 0 rfl) ?_
    refine lv_sipush (v := 255) hx hb d_Desk_isOctet_5 (by decide) ?_
    refine lv_icmp_gt (tgt := 15) hx hb d_Desk_isOctet_8 (by decide) (fun c2 => ?_) (fun c2 => ?_)
    · replace hm := hm.1 c2
      refine lv_iconst (v := 0) hx hb d_Desk_isOctet_15 (by decide) ?_
      exact rt_z hx hb hr hm.1 hlocks hK hP hD hS d_Desk_isOctet_16 hm.2
    · replace hm := hm.2 c2
      refine lv_iconst (v := 1) hx hb d_Desk_isOctet_11 (by decide) ?_
      refine lv_goto (tgt := 16) hx hb d_Desk_isOctet_12 (by decide) ?_
      exact rt_z hx hb hr hm.1 hlocks hK hP hD hS d_Desk_isOctet_16 hm.2
set_option maxHeartbeats 4000000 in
set_option maxRecDepth 100000 in
theorem c_Desk_change (l : Launch) (D : va_G) (ad : Nat → Nat) (ca : Nat → ClassId) (sz : Nat) (s : St) (a1 : Int32) (a2 : Int32) (Post : Int32 → St → Prop) (hm : x_Desk_change s a1 a2 Post) : CtI l y_Desk_change w_Desk_change { frames := 1, cells := 0, slots := 0, locals := 20 } D vwCl (tyX ca) (wX ad ca) sz [.ref (ad 0), .int a1, .int a2] s Post := by
  refine ct_i (cc := prog_1_method_3_code) (maxL := 4) (ret := (some .int)) (by decide) rfl (Nat.le_of_ble_eq_true rfl) ?_
  intro p e s0 m args below meth c A hx hb hr hts hown hlocks hml hK hA
  have hown : s0.vm.findClass R_Desk = some m.cls := hown
  intro H locs ls hP hD hS hl
  have hl : lv_has ls 4 [(0, .ref (ad 0)), (1, .int a1), (2, .int a2)] := hl
  unfold x_Desk_change at hm
  refine lv_iload_n hx hb d_Desk_change_0 rfl (lv_at hl 1 rfl) ?_
  refine lv_if_lt (tgt := 22) hx hb d_Desk_change_1 (by decide) (fun c1 => ?_) (fun c1 => ?_)
  · replace hm := hm.1 c1
    refine lv_iconst (v := -1) hx hb d_Desk_change_22 (by decide) ?_
    exact rt_i hx hb hr hlocks hK hP hD hS d_Desk_change_23 hm
  · replace hm := hm.2 c1
    refine lv_iload_n hx hb d_Desk_change_4 rfl (lv_at hl 1 rfl) ?_
    refine lv_aload_n hx hb d_Desk_change_5 rfl (lv_at hl 0 rfl) ?_
    refine va_get (D := D) (ci := 0) (v := .ref (ad 1)) (C := R_Desk) (T := T_Desk) (N := 5) hx hb hts in_Desk hown hK hP 0 rfl rfl 0 (by decide) (hts _ wd188) (fun _ h9 => h9) rfl d_Desk_change_6 ?_
    refine va_get (D := D) (ci := 1) (v := .int (s 15 1)) (C := R_Source) (T := T_Source) (N := 4) hx hb hts in_Source hown hK hP 1 rfl rfl 2 (by decide) (hts _ wd27) (fun _ h9 => h9) rfl d_Desk_change_9 ?_
    refine lv_icmp_ge (tgt := 22) hx hb d_Desk_change_12 (by decide) (fun c2 => ?_) (fun c2 => ?_)
    · replace hm := hm.1 c2
      refine lv_iconst (v := -1) hx hb d_Desk_change_22 (by decide) ?_
      exact rt_i hx hb hr hlocks hK hP hD hS d_Desk_change_23 hm
    · replace hm := hm.2 c2
      refine lv_iload_n hx hb d_Desk_change_15 rfl (lv_at hl 2 rfl) ?_
      refine cg_Si (As := [.int a2]) (rest := []) ⟨hx, hb, hml, hown, hts⟩ hK hP hD hS hA (c_Desk_isOctet l D ad ca H.size s a2 _ hm) (cwB 1 hts wd218 wd1 wd216 wd217 (by decide +kernel) ⟨Nat.le_of_ble_eq_true rfl, Nat.le_of_ble_eq_true rfl⟩) rfl hl rfl (Nat.le_of_ble_eq_true rfl) d_Desk_change_16 (fun r3 s4 hm => ?_)
      intro H locs ls hP hD hS hl
      refine lv_if_ne (tgt := 24) hx hb d_Desk_change_19 (by decide) (fun c5 => ?_) (fun c5 => ?_)
      · replace hm := hm.1 c5
        refine lv_aload_n hx hb d_Desk_change_24 rfl (lv_at hl 0 rfl) ?_
        refine va_get (D := D) (ci := 0) (v := .ref (ad 1)) (C := R_Desk) (T := T_Desk) (N := 5) hx hb hts in_Desk hown hK hP 0 rfl rfl 0 (by decide) (hts _ wd188) (fun _ h9 => h9) rfl d_Desk_change_25 ?_
        refine va_get (D := D) (ci := 1) (v := .ref (ad 2)) (C := R_Source) (T := T_Source) (N := 4) hx hb hts in_Source hown hK hP 1 rfl rfl 0 (by decide) (hts _ wd24) (fun _ h9 => h9) rfl d_Desk_change_28 ?_
        refine lv_iload_n hx hb d_Desk_change_31 rfl (lv_at hl 1 rfl) ?_
        obtain ⟨h6, hm⟩ := hm
        refine va_iald hx hb hK hP 2 0 rfl rfl h6 d_Desk_change_32 ?_
        refine lv_topi (fun v7 ev7 => ?_)
        replace hm := hm v7 ev7
        refine lv_istore_n (lv' := [(3, .int v7), (0, .ref (ad 0)), (1, .int a1), (2, .int a2)]) hx hb d_Desk_change_33 rfl hl (by decide) rfl (fun ls hl => ?_)
        refine lv_aload_n hx hb d_Desk_change_34 rfl (lv_at hl 1 rfl) ?_
        refine va_get (D := D) (ci := 0) (v := .ref (ad 1)) (C := R_Desk) (T := T_Desk) (N := 5) hx hb hts in_Desk hown hK hP 0 rfl rfl 0 (by decide) (hts _ wd188) (fun _ h9 => h9) rfl d_Desk_change_35 ?_
        refine va_get (D := D) (ci := 1) (v := .ref (ad 2)) (C := R_Source) (T := T_Source) (N := 4) hx hb hts in_Source hown hK hP 1 rfl rfl 0 (by decide) (hts _ wd24) (fun _ h9 => h9) rfl d_Desk_change_38 ?_
        refine lv_iload_n hx hb d_Desk_change_41 rfl (lv_at hl 2 rfl) ?_
        refine lv_iload_n hx hb d_Desk_change_42 rfl (lv_at hl 3 rfl) ?_
        obtain ⟨h8, hm⟩ := hm
        refine va_iast hx hb hK hP hD hS 2 0 rfl rfl h8 d_Desk_change_43 (fun H locs hP hD hS => ?_)
        have hP : va_P D vwCl (wX ad ca (su s4 0 (a1).toNatClampNeg a2)) H := hP
        have hD : va_D A (wX ad ca (su s4 0 (a1).toNatClampNeg a2)) := hD
        obtain ⟨s9, es9⟩ : ∃ z : St, z = su s4 0 (a1).toNatClampNeg a2 := ⟨_, rfl⟩
        rw [← es9] at hP hD
        replace hm := hm s9 es9
        refine lv_iload_n hx hb d_Desk_change_44 rfl (lv_at hl 0 rfl) ?_
        exact rt_i hx hb hr hlocks hK hP hD hS d_Desk_change_45 hm
      · replace hm := hm.2 c5
        refine lv_iconst (v := -1) hx hb d_Desk_change_22 (by decide) ?_
        exact rt_i hx hb hr hlocks hK hP hD hS d_Desk_change_23 hm
set_option maxHeartbeats 4000000 in
set_option maxRecDepth 100000 in
theorem c_Desk_clear (l : Launch) (D : va_G) (ad : Nat → Nat) (ca : Nat → ClassId) (sz : Nat) (s : St) (Post : Int32 → St → Prop) (hm : x_Desk_clear s  Post) : CtI l y_Desk_clear w_Desk_clear { frames := 0, cells := 0, slots := 0, locals := 0 } D vwCl (tyX ca) (wX ad ca) sz [.ref (ad 0)] s Post := by
  refine ct_i (cc := prog_1_method_4_code) (maxL := 2) (ret := (some .int)) (by decide) rfl (Nat.le_of_ble_eq_true rfl) ?_
  intro p e s0 m args below meth c A hx hb hr hts hown hlocks hml hK hA
  have hown : s0.vm.findClass R_Desk = some m.cls := hown
  intro H locs ls hP hD hS hl
  have hl : lv_has ls 2 [(0, .ref (ad 0))] := hl
  unfold x_Desk_clear at hm
  refine lv_aload_n hx hb d_Desk_clear_0 rfl (lv_at hl 0 rfl) ?_
  refine va_get (D := D) (ci := 0) (v := .ref (ad 1)) (C := R_Desk) (T := T_Desk) (N := 5) hx hb hts in_Desk hown hK hP 0 rfl rfl 0 (by decide) (hts _ wd188) (fun _ h9 => h9) rfl d_Desk_clear_1 ?_
  refine va_get (D := D) (ci := 1) (v := .int (s 15 1)) (C := R_Source) (T := T_Source) (N := 4) hx hb hts in_Source hown hK hP 1 rfl rfl 2 (by decide) (hts _ wd27) (fun _ h9 => h9) rfl d_Desk_clear_4 ?_
  refine lv_topi (fun v1 ev1 => ?_)
  replace hm := hm v1 ev1
  refine lv_istore_n (lv' := [(1, .int v1), (0, .ref (ad 0))]) hx hb d_Desk_clear_7 rfl hl (by decide) rfl (fun ls hl => ?_)
  refine lv_aload_n hx hb d_Desk_clear_8 rfl (lv_at hl 1 rfl) ?_
  refine va_get (D := D) (ci := 0) (v := .ref (ad 1)) (C := R_Desk) (T := T_Desk) (N := 5) hx hb hts in_Desk hown hK hP 0 rfl rfl 0 (by decide) (hts _ wd188) (fun _ h9 => h9) rfl d_Desk_clear_9 ?_
  refine lv_iconst (v := 0) hx hb d_Desk_clear_12 (by decide) ?_
  refine va_put (D := D) (ci := 1) (v := .int (0 : Int32)) (ty := .int) (C := R_Source) (T := T_Source) (N := 4) hx hb hts in_Source t_Source to_Source no_Source hown hK hP hD hS 1 rfl rfl 2 (by decide) (hts _ wd27) (fun _ h9 => h9) rfl (by decide +kernel) rfl rfl (Nat.le_of_ble_eq_true rfl) d_Desk_clear_13 (fun H locs hP hD hS => ?_)
  have hP : va_P D vwCl (wX ad ca (su s 15 1 (0 : Int32))) H := hP
  have hD : va_D A (wX ad ca (su s 15 1 (0 : Int32))) := hD
  obtain ⟨s2, es2⟩ : ∃ z : St, z = su s 15 1 (0 : Int32) := ⟨_, rfl⟩
  rw [← es2] at hP hD
  replace hm := hm s2 es2
  refine lv_aload_n hx hb d_Desk_clear_16 rfl (lv_at hl 1 rfl) ?_
  refine va_get (D := D) (ci := 0) (v := .ref (ad 1)) (C := R_Desk) (T := T_Desk) (N := 5) hx hb hts in_Desk hown hK hP 0 rfl rfl 0 (by decide) (hts _ wd188) (fun _ h9 => h9) rfl d_Desk_clear_17 ?_
  refine lv_iconst (v := 0) hx hb d_Desk_clear_20 (by decide) ?_
  refine va_put (D := D) (ci := 1) (v := .int (0 : Int32)) (ty := .int) (C := R_Source) (T := T_Source) (N := 4) hx hb hts in_Source t_Source to_Source no_Source hown hK hP hD hS 1 rfl rfl 3 (by decide) (hts _ wd30) (fun _ h9 => h9) rfl (by decide +kernel) rfl rfl (Nat.le_of_ble_eq_true rfl) d_Desk_clear_21 (fun H locs hP hD hS => ?_)
  have hP : va_P D vwCl (wX ad ca (su s2 15 2 (0 : Int32))) H := hP
  have hD : va_D A (wX ad ca (su s2 15 2 (0 : Int32))) := hD
  obtain ⟨s3, es3⟩ : ∃ z : St, z = su s2 15 2 (0 : Int32) := ⟨_, rfl⟩
  rw [← es3] at hP hD
  replace hm := hm s3 es3
  refine lv_iload_n hx hb d_Desk_clear_24 rfl (lv_at hl 0 rfl) ?_
  exact rt_i hx hb hr hlocks hK hP hD hS d_Desk_clear_25 hm
set_option maxHeartbeats 4000000 in
set_option maxRecDepth 100000 in
theorem c_Desk_isPlace (l : Launch) (D : va_G) (ad : Nat → Nat) (ca : Nat → ClassId) (sz : Nat) (s : St) (a0 : Int32) (Post : Int32 → St → Prop) (hm : x_Desk_isPlace s a0 Post) : CtI l y_Desk_isPlace w_Desk_isPlace { frames := 0, cells := 0, slots := 0, locals := 0 } D vwCl (tyX ca) (wX ad ca) sz [.int a0] s Post := by
  refine ct_i (cc := prog_1_method_17_code) (maxL := 1) (ret := (some .boolean)) (by decide) rfl (Nat.le_of_ble_eq_true rfl) ?_
  intro p e s0 m args below meth c A hx hb hr hts hown hlocks hml hK hA
  have hown : s0.vm.findClass R_Desk = some m.cls := hown
  intro H locs ls hP hD hS hl
  have hl : lv_has ls 1 [(0, .int a0)] := hl
  unfold x_Desk_isPlace at hm
  refine lv_iload_n hx hb d_Desk_isPlace_0 rfl (lv_at hl 0 rfl) ?_
  refine lv_if_lt (tgt := 15) hx hb d_Desk_isPlace_1 (by decide) (fun c1 => ?_) (fun c1 => ?_)
  · replace hm := hm.1 c1
    refine lv_iconst (v := 0) hx hb d_Desk_isPlace_15 (by decide) ?_
    exact rt_z hx hb hr hm.1 hlocks hK hP hD hS d_Desk_isPlace_16 hm.2
  · replace hm := hm.2 c1
    refine lv_iload_n hx hb d_Desk_isPlace_4 rfl (lv_at hl 0 rfl) ?_
    refine lv_sipush (v := 200) hx hb d_Desk_isPlace_5 (by decide) ?_
    refine lv_icmp_gt (tgt := 15) hx hb d_Desk_isPlace_8 (by decide) (fun c2 => ?_) (fun c2 => ?_)
    · replace hm := hm.1 c2
      refine lv_iconst (v := 0) hx hb d_Desk_isPlace_15 (by decide) ?_
      exact rt_z hx hb hr hm.1 hlocks hK hP hD hS d_Desk_isPlace_16 hm.2
    · replace hm := hm.2 c2
      refine lv_iconst (v := 1) hx hb d_Desk_isPlace_11 (by decide) ?_
      refine lv_goto (tgt := 16) hx hb d_Desk_isPlace_12 (by decide) ?_
      exact rt_z hx hb hr hm.1 hlocks hK hP hD hS d_Desk_isPlace_16 hm.2
set_option maxHeartbeats 4000000 in
set_option maxRecDepth 100000 in
theorem c_Source_appendHandler (l : Launch) (D : va_G) (ad : Nat → Nat) (ca : Nat → ClassId) (sz : Nat) (s : St) (a1 : Int32) (a2 : Int32) (a3 : Int32) (a4 : Int32) (Post : St → Prop) (hm : x_Source_appendHandler s a1 a2 a3 a4 Post) : CtV l y_Source_appendHandler w_Source_appendHandler { frames := 0, cells := 0, slots := 0, locals := 0 } D vwCl (tyX ca) (wX ad ca) sz [.ref (ad 1), .int a1, .int a2, .int a3, .int a4] s Post := by
  refine ct_v (cc := prog_5_method_3_code) (maxL := 6) (ret := none) (by decide) rfl (Nat.le_of_ble_eq_true rfl) ?_
  intro p e s0 m args below meth c A hx hb hr hts hown hlocks hml hK hA
  have hown : s0.vm.findClass R_Source = some m.cls := hown
  intro H locs ls hP hD hS hl
  have hl : lv_has ls 6 [(0, .ref (ad 1)), (1, .int a1), (2, .int a2), (3, .int a3), (4, .int a4)] := hl
  unfold x_Source_appendHandler at hm
  refine lv_aload_n hx hb d_Source_appendHandler_0 rfl (lv_at hl 0 rfl) ?_
  refine va_get (D := D) (ci := 1) (v := .int (s 15 2)) (C := R_Source) (T := T_Source) (N := 4) hx hb hts in_Source hown hK hP 1 rfl rfl 3 (by decide) (hts _ wd29) (fun _ h9 => h9) rfl d_Source_appendHandler_1 ?_
  refine lv_iconst (v := 4) hx hb d_Source_appendHandler_4 (by decide) ?_
  refine lv_icmp_ge (tgt := 67) hx hb d_Source_appendHandler_5 (by decide) (fun c1 => ?_) (fun c1 => ?_)
  · replace hm := hm.1 c1
    exact rt_v hx hb hr hlocks hK hP hD hS d_Source_appendHandler_67 hm
  · replace hm := hm.2 c1
    refine lv_aload_n hx hb d_Source_appendHandler_8 rfl (lv_at hl 0 rfl) ?_
    refine va_get (D := D) (ci := 1) (v := .int (s 15 2)) (C := R_Source) (T := T_Source) (N := 4) hx hb hts in_Source hown hK hP 1 rfl rfl 3 (by decide) (hts _ wd29) (fun _ h9 => h9) rfl d_Source_appendHandler_9 ?_
    refine lv_iconst (v := 4) hx hb d_Source_appendHandler_12 (by decide) ?_
    refine lv_imul hx hb d_Source_appendHandler_13 ?_
    refine lv_topi (fun v2 ev2 => ?_)
    replace hm := hm v2 ev2
    refine lv_istore (lv' := [(5, .int v2), (0, .ref (ad 1)), (1, .int a1), (2, .int a2), (3, .int a3), (4, .int a4)]) hx hb d_Source_appendHandler_14 hl (by decide) rfl (fun ls hl => ?_)
    refine lv_aload_n hx hb d_Source_appendHandler_16 rfl (lv_at hl 1 rfl) ?_
    refine va_get (D := D) (ci := 1) (v := .ref (ad 3)) (C := R_Source) (T := T_Source) (N := 4) hx hb hts in_Source hown hK hP 1 rfl rfl 1 (by decide) (hts _ wd25) (fun _ h9 => h9) rfl d_Source_appendHandler_17 ?_
    refine lv_iload hx hb d_Source_appendHandler_20 (lv_at hl 0 rfl) ?_
    refine lv_iconst (v := 0) hx hb d_Source_appendHandler_22 (by decide) ?_
    refine lv_iadd hx hb d_Source_appendHandler_23 ?_
    refine lv_iload_n hx hb d_Source_appendHandler_24 rfl (lv_at hl 2 rfl) ?_
    obtain ⟨h3, hm⟩ := hm
    refine va_iast hx hb hK hP hD hS 3 1 rfl rfl h3 d_Source_appendHandler_25 (fun H locs hP hD hS => ?_)
    have hP : va_P D vwCl (wX ad ca (su s 1 ((v2 + (0 : Int32))).toNatClampNeg a1)) H := hP
    have hD : va_D A (wX ad ca (su s 1 ((v2 + (0 : Int32))).toNatClampNeg a1)) := hD
    obtain ⟨s4, es4⟩ : ∃ z : St, z = su s 1 ((v2 + (0 : Int32))).toNatClampNeg a1 := ⟨_, rfl⟩
    rw [← es4] at hP hD
    replace hm := hm s4 es4
    refine lv_aload_n hx hb d_Source_appendHandler_26 rfl (lv_at hl 1 rfl) ?_
    refine va_get (D := D) (ci := 1) (v := .ref (ad 3)) (C := R_Source) (T := T_Source) (N := 4) hx hb hts in_Source hown hK hP 1 rfl rfl 1 (by decide) (hts _ wd25) (fun _ h9 => h9) rfl d_Source_appendHandler_27 ?_
    refine lv_iload hx hb d_Source_appendHandler_30 (lv_at hl 0 rfl) ?_
    refine lv_iconst (v := 1) hx hb d_Source_appendHandler_32 (by decide) ?_
    refine lv_iadd hx hb d_Source_appendHandler_33 ?_
    refine lv_iload_n hx hb d_Source_appendHandler_34 rfl (lv_at hl 3 rfl) ?_
    obtain ⟨h5, hm⟩ := hm
    refine va_iast hx hb hK hP hD hS 3 1 rfl rfl h5 d_Source_appendHandler_35 (fun H locs hP hD hS => ?_)
    have hP : va_P D vwCl (wX ad ca (su s4 1 ((v2 + (1 : Int32))).toNatClampNeg a2)) H := hP
    have hD : va_D A (wX ad ca (su s4 1 ((v2 + (1 : Int32))).toNatClampNeg a2)) := hD
    obtain ⟨s6, es6⟩ : ∃ z : St, z = su s4 1 ((v2 + (1 : Int32))).toNatClampNeg a2 := ⟨_, rfl⟩
    rw [← es6] at hP hD
    replace hm := hm s6 es6
    refine lv_aload_n hx hb d_Source_appendHandler_36 rfl (lv_at hl 1 rfl) ?_
    refine va_get (D := D) (ci := 1) (v := .ref (ad 3)) (C := R_Source) (T := T_Source) (N := 4) hx hb hts in_Source hown hK hP 1 rfl rfl 1 (by decide) (hts _ wd25) (fun _ h9 => h9) rfl d_Source_appendHandler_37 ?_
    refine lv_iload hx hb d_Source_appendHandler_40 (lv_at hl 0 rfl) ?_
    refine lv_iconst (v := 2) hx hb d_Source_appendHandler_42 (by decide) ?_
    refine lv_iadd hx hb d_Source_appendHandler_43 ?_
    refine lv_iload_n hx hb d_Source_appendHandler_44 rfl (lv_at hl 4 rfl) ?_
    obtain ⟨h7, hm⟩ := hm
    refine va_iast hx hb hK hP hD hS 3 1 rfl rfl h7 d_Source_appendHandler_45 (fun H locs hP hD hS => ?_)
    have hP : va_P D vwCl (wX ad ca (su s6 1 ((v2 + (2 : Int32))).toNatClampNeg a3)) H := hP
    have hD : va_D A (wX ad ca (su s6 1 ((v2 + (2 : Int32))).toNatClampNeg a3)) := hD
    obtain ⟨s8, es8⟩ : ∃ z : St, z = su s6 1 ((v2 + (2 : Int32))).toNatClampNeg a3 := ⟨_, rfl⟩
    rw [← es8] at hP hD
    replace hm := hm s8 es8
    refine lv_aload_n hx hb d_Source_appendHandler_46 rfl (lv_at hl 1 rfl) ?_
    refine va_get (D := D) (ci := 1) (v := .ref (ad 3)) (C := R_Source) (T := T_Source) (N := 4) hx hb hts in_Source hown hK hP 1 rfl rfl 1 (by decide) (hts _ wd25) (fun _ h9 => h9) rfl d_Source_appendHandler_47 ?_
    refine lv_iload hx hb d_Source_appendHandler_50 (lv_at hl 0 rfl) ?_
    refine lv_iconst (v := 3) hx hb d_Source_appendHandler_52 (by decide) ?_
    refine lv_iadd hx hb d_Source_appendHandler_53 ?_
    refine lv_iload hx hb d_Source_appendHandler_54 (lv_at hl 5 rfl) ?_
    obtain ⟨h9, hm⟩ := hm
    refine va_iast hx hb hK hP hD hS 3 1 rfl rfl h9 d_Source_appendHandler_56 (fun H locs hP hD hS => ?_)
    have hP : va_P D vwCl (wX ad ca (su s8 1 ((v2 + (3 : Int32))).toNatClampNeg a4)) H := hP
    have hD : va_D A (wX ad ca (su s8 1 ((v2 + (3 : Int32))).toNatClampNeg a4)) := hD
    obtain ⟨s10, es10⟩ : ∃ z : St, z = su s8 1 ((v2 + (3 : Int32))).toNatClampNeg a4 := ⟨_, rfl⟩
    rw [← es10] at hP hD
    replace hm := hm s10 es10
    refine lv_aload_n hx hb d_Source_appendHandler_57 rfl (lv_at hl 1 rfl) ?_
    refine lv_dup hx hb d_Source_appendHandler_58 rfl ?_
    refine va_get (D := D) (ci := 1) (v := .int (s10 15 2)) (C := R_Source) (T := T_Source) (N := 4) hx hb hts in_Source hown hK hP 1 rfl rfl 3 (by decide) (hts _ wd29) (fun _ h9 => h9) rfl d_Source_appendHandler_59 ?_
    refine lv_iconst (v := 1) hx hb d_Source_appendHandler_62 (by decide) ?_
    refine lv_iadd hx hb d_Source_appendHandler_63 ?_
    refine va_put (D := D) (ci := 1) (v := .int ((s10 15 2) + (1 : Int32))) (ty := .int) (C := R_Source) (T := T_Source) (N := 4) hx hb hts in_Source t_Source to_Source no_Source hown hK hP hD hS 1 rfl rfl 3 (by decide) (hts _ wd29) (fun _ h9 => h9) rfl (by decide +kernel) rfl rfl (Nat.le_of_ble_eq_true rfl) d_Source_appendHandler_64 (fun H locs hP hD hS => ?_)
    have hP : va_P D vwCl (wX ad ca (su s10 15 2 ((s10 15 2) + (1 : Int32)))) H := hP
    have hD : va_D A (wX ad ca (su s10 15 2 ((s10 15 2) + (1 : Int32)))) := hD
    obtain ⟨s11, es11⟩ : ∃ z : St, z = su s10 15 2 ((s10 15 2) + (1 : Int32)) := ⟨_, rfl⟩
    rw [← es11] at hP hD
    replace hm := hm s11 es11
    exact rt_v hx hb hr hlocks hK hP hD hS d_Source_appendHandler_67 hm
set_option maxHeartbeats 4000000 in
set_option maxRecDepth 100000 in
theorem c_Desk_handler (l : Launch) (D : va_G) (ad : Nat → Nat) (ca : Nat → ClassId) (sz : Nat) (s : St) (a1 : Int32) (a2 : Int32) (a3 : Int32) (a4 : Int32) (Post : Int32 → St → Prop) (hm : x_Desk_handler s a1 a2 a3 a4 Post) : CtI l y_Desk_handler w_Desk_handler { frames := 1, cells := 0, slots := 0, locals := 25 } D vwCl (tyX ca) (wX ad ca) sz [.ref (ad 0), .int a1, .int a2, .int a3, .int a4] s Post := by
  refine ct_i (cc := prog_1_method_5_code) (maxL := 5) (ret := (some .int)) (by decide) rfl (Nat.le_of_ble_eq_true rfl) ?_
  intro p e s0 m args below meth c A hx hb hr hts hown hlocks hml hK hA
  have hown : s0.vm.findClass R_Desk = some m.cls := hown
  intro H locs ls hP hD hS hl
  have hl : lv_has ls 5 [(0, .ref (ad 0)), (1, .int a1), (2, .int a2), (3, .int a3), (4, .int a4)] := hl
  unfold x_Desk_handler at hm
  refine lv_iload hx hb d_Desk_handler_0 (lv_at hl 4 rfl) ?_
  refine cg_Si (As := [.int a4]) (rest := []) ⟨hx, hb, hml, hown, hts⟩ hK hP hD hS hA (c_Desk_isOctet l D ad ca H.size s a4 _ hm) (cwB 1 hts wd218 wd1 wd216 wd217 (by decide +kernel) ⟨Nat.le_of_ble_eq_true rfl, Nat.le_of_ble_eq_true rfl⟩) rfl hl rfl (Nat.le_of_ble_eq_true rfl) d_Desk_handler_2 (fun r1 s2 hm => ?_)
  intro H locs ls hP hD hS hl
  refine lv_if_eq (tgt := 29) hx hb d_Desk_handler_5 (by decide) (fun c3 => ?_) (fun c3 => ?_)
  · replace hm := hm.1 c3
    refine lv_iconst (v := -1) hx hb d_Desk_handler_29 (by decide) ?_
    exact rt_i hx hb hr hlocks hK hP hD hS d_Desk_handler_30 hm
  · replace hm := hm.2 c3
    refine lv_iload_n hx hb d_Desk_handler_8 rfl (lv_at hl 1 rfl) ?_
    refine cg_Si (As := [.int a1]) (rest := []) ⟨hx, hb, hml, hown, hts⟩ hK hP hD hS hA (c_Desk_isPlace l D ad ca H.size s2 a1 _ hm) (cwB 1 hts wd229 wd1 wd227 wd228 (by decide +kernel) ⟨Nat.le_of_ble_eq_true rfl, Nat.le_of_ble_eq_true rfl⟩) rfl hl rfl (Nat.le_of_ble_eq_true rfl) d_Desk_handler_9 (fun r4 s5 hm => ?_)
    intro H locs ls hP hD hS hl
    refine lv_if_eq (tgt := 29) hx hb d_Desk_handler_12 (by decide) (fun c6 => ?_) (fun c6 => ?_)
    · replace hm := hm.1 c6
      refine lv_iconst (v := -1) hx hb d_Desk_handler_29 (by decide) ?_
      exact rt_i hx hb hr hlocks hK hP hD hS d_Desk_handler_30 hm
    · replace hm := hm.2 c6
      refine lv_iload_n hx hb d_Desk_handler_15 rfl (lv_at hl 2 rfl) ?_
      refine cg_Si (As := [.int a2]) (rest := []) ⟨hx, hb, hml, hown, hts⟩ hK hP hD hS hA (c_Desk_isPlace l D ad ca H.size s5 a2 _ hm) (cwB 1 hts wd229 wd1 wd227 wd228 (by decide +kernel) ⟨Nat.le_of_ble_eq_true rfl, Nat.le_of_ble_eq_true rfl⟩) rfl hl rfl (Nat.le_of_ble_eq_true rfl) d_Desk_handler_16 (fun r7 s8 hm => ?_)
      intro H locs ls hP hD hS hl
      refine lv_if_eq (tgt := 29) hx hb d_Desk_handler_19 (by decide) (fun c9 => ?_) (fun c9 => ?_)
      · replace hm := hm.1 c9
        refine lv_iconst (v := -1) hx hb d_Desk_handler_29 (by decide) ?_
        exact rt_i hx hb hr hlocks hK hP hD hS d_Desk_handler_30 hm
      · replace hm := hm.2 c9
        refine lv_iload_n hx hb d_Desk_handler_22 rfl (lv_at hl 3 rfl) ?_
        refine cg_Si (As := [.int a3]) (rest := []) ⟨hx, hb, hml, hown, hts⟩ hK hP hD hS hA (c_Desk_isPlace l D ad ca H.size s8 a3 _ hm) (cwB 1 hts wd229 wd1 wd227 wd228 (by decide +kernel) ⟨Nat.le_of_ble_eq_true rfl, Nat.le_of_ble_eq_true rfl⟩) rfl hl rfl (Nat.le_of_ble_eq_true rfl) d_Desk_handler_23 (fun r10 s11 hm => ?_)
        intro H locs ls hP hD hS hl
        refine lv_if_ne (tgt := 31) hx hb d_Desk_handler_26 (by decide) (fun c12 => ?_) (fun c12 => ?_)
        · replace hm := hm.1 c12
          refine lv_aload_n hx hb d_Desk_handler_31 rfl (lv_at hl 0 rfl) ?_
          refine va_get (D := D) (ci := 0) (v := .ref (ad 1)) (C := R_Desk) (T := T_Desk) (N := 5) hx hb hts in_Desk hown hK hP 0 rfl rfl 0 (by decide) (hts _ wd188) (fun _ h9 => h9) rfl d_Desk_handler_32 ?_
          refine va_get (D := D) (ci := 1) (v := .int (s11 15 2)) (C := R_Source) (T := T_Source) (N := 4) hx hb hts in_Source hown hK hP 1 rfl rfl 3 (by decide) (hts _ wd30) (fun _ h9 => h9) rfl d_Desk_handler_35 ?_
          refine lv_iconst (v := 4) hx hb d_Desk_handler_38 (by decide) ?_
          refine lv_icmp_lt (tgt := 45) hx hb d_Desk_handler_39 (by decide) (fun c13 => ?_) (fun c13 => ?_)
          · replace hm := hm.1 c13
            refine lv_aload_n hx hb d_Desk_handler_45 rfl (lv_at hl 0 rfl) ?_
            refine va_get (D := D) (ci := 0) (v := .ref (ad 1)) (C := R_Desk) (T := T_Desk) (N := 5) hx hb hts in_Desk hown hK hP 0 rfl rfl 0 (by decide) (hts _ wd188) (fun _ h9 => h9) rfl d_Desk_handler_46 ?_
            refine lv_iload_n hx hb d_Desk_handler_49 rfl (lv_at hl 1 rfl) ?_
            refine lv_iload_n hx hb d_Desk_handler_50 rfl (lv_at hl 2 rfl) ?_
            refine lv_iload_n hx hb d_Desk_handler_51 rfl (lv_at hl 3 rfl) ?_
            refine lv_iload hx hb d_Desk_handler_52 (lv_at hl 4 rfl) ?_
            refine cg_Vv (b := (ad 1)) (As := [.int a1, .int a2, .int a3, .int a4]) (rest := []) ⟨hx, hb, hml, hown, hts⟩ hK hP hD hS hA (c_Source_appendHandler l D ad ca H.size s11 a1 a2 a3 a4 _ hm) (cwA 4 hts wd233 wd2 wd230 wd231 wd232 (by decide +kernel) ⟨Nat.le_of_ble_eq_true rfl, Nat.le_of_ble_eq_true rfl⟩) (va_recv hK hP (ci := 1) (q0 := 1) rfl rfl) rfl hl rfl (Nat.le_of_ble_eq_true rfl) d_Desk_handler_54 (fun s15 hm => ?_)
            intro H locs ls hP hD hS hl
            refine lv_aload_n hx hb d_Desk_handler_57 rfl (lv_at hl 0 rfl) ?_
            refine va_get (D := D) (ci := 0) (v := .ref (ad 1)) (C := R_Desk) (T := T_Desk) (N := 5) hx hb hts in_Desk hown hK hP 0 rfl rfl 0 (by decide) (hts _ wd188) (fun _ h9 => h9) rfl d_Desk_handler_58 ?_
            refine va_get (D := D) (ci := 1) (v := .int (s15 15 2)) (C := R_Source) (T := T_Source) (N := 4) hx hb hts in_Source hown hK hP 1 rfl rfl 3 (by decide) (hts _ wd30) (fun _ h9 => h9) rfl d_Desk_handler_61 ?_
            exact rt_i hx hb hr hlocks hK hP hD hS d_Desk_handler_64 hm
          · replace hm := hm.2 c13
            refine lv_bipush (v := -2) hx hb d_Desk_handler_42 (by decide) ?_
            exact rt_i hx hb hr hlocks hK hP hD hS d_Desk_handler_44 hm
        · replace hm := hm.2 c12
          refine lv_iconst (v := -1) hx hb d_Desk_handler_29 (by decide) ?_
          exact rt_i hx hb hr hlocks hK hP hD hS d_Desk_handler_30 hm
set_option maxHeartbeats 4000000 in
set_option maxRecDepth 100000 in
theorem c_Desk_mark (l : Launch) (D : va_G) (ad : Nat → Nat) (ca : Nat → ClassId) (sz : Nat) (s : St) (a1 : Int32) (a2 : Int32) (Post : Int32 → St → Prop) (hm : x_Desk_mark s a1 a2 Post) : CtI l y_Desk_mark w_Desk_mark { frames := 0, cells := 0, slots := 0, locals := 0 } D vwCl (tyX ca) (wX ad ca) sz [.ref (ad 0), .int a1, .int a2] s Post := by
  refine ct_i (cc := prog_1_method_6_code) (maxL := 3) (ret := (some .boolean)) (by decide) rfl (Nat.le_of_ble_eq_true rfl) ?_
  intro p e s0 m args below meth c A hx hb hr hts hown hlocks hml hK hA
  have hown : s0.vm.findClass R_Desk = some m.cls := hown
  intro H locs ls hP hD hS hl
  have hl : lv_has ls 3 [(0, .ref (ad 0)), (1, .int a1), (2, .int a2)] := hl
  unfold x_Desk_mark at hm
  refine lv_iload_n hx hb d_Desk_mark_0 rfl (lv_at hl 1 rfl) ?_
  refine lv_iconst (v := 1) hx hb d_Desk_mark_1 (by decide) ?_
  refine lv_icmp_lt (tgt := 12) hx hb d_Desk_mark_2 (by decide) (fun c1 => ?_) (fun c1 => ?_)
  · replace hm := hm.1 c1
    refine lv_iconst (v := 0) hx hb d_Desk_mark_12 (by decide) ?_
    exact rt_z hx hb hr hm.1 hlocks hK hP hD hS d_Desk_mark_13 hm.2
  · replace hm := hm.2 c1
    refine lv_iload_n hx hb d_Desk_mark_5 rfl (lv_at hl 1 rfl) ?_
    refine lv_sipush (v := 255) hx hb d_Desk_mark_6 (by decide) ?_
    refine lv_icmp_le (tgt := 14) hx hb d_Desk_mark_9 (by decide) (fun c2 => ?_) (fun c2 => ?_)
    · replace hm := hm.1 c2
      refine lv_aload_n hx hb d_Desk_mark_14 rfl (lv_at hl 0 rfl) ?_
      refine va_get (D := D) (ci := 0) (v := .ref (ad 4)) (C := R_Desk) (T := T_Desk) (N := 5) hx hb hts in_Desk hown hK hP 0 rfl rfl 1 (by decide) (hts _ wd189) (fun _ h9 => h9) rfl d_Desk_mark_15 ?_
      refine va_get (D := D) (ci := 2) (v := .ref (ad 6)) (C := R_Tariff) (T := T_Tariff) (N := 4) hx hb hts in_Tariff hown hK hP 4 rfl rfl 1 (by decide) (hts _ wd56) (fun _ h9 => h9) rfl d_Desk_mark_18 ?_
      refine lv_iload_n hx hb d_Desk_mark_21 rfl (lv_at hl 1 rfl) ?_
      refine lv_iload_n hx hb d_Desk_mark_22 rfl (lv_at hl 2 rfl) ?_
      obtain ⟨h3, hm⟩ := hm
      refine va_zast hx hb hK hP hD hS 6 3 rfl rfl h3 d_Desk_mark_23 (fun H locs hP hD hS => ?_)
      have hP : va_P D vwCl (wX ad ca (su s 3 (a1).toNatClampNeg (vp_nar .boolean a2))) H := hP
      have hD : va_D A (wX ad ca (su s 3 (a1).toNatClampNeg (vp_nar .boolean a2))) := hD
      obtain ⟨s4, es4⟩ : ∃ z : St, z = su s 3 (a1).toNatClampNeg (vp_nar .boolean a2) := ⟨_, rfl⟩
      rw [← es4] at hP hD
      replace hm := hm s4 es4
      refine lv_iconst (v := 1) hx hb d_Desk_mark_24 (by decide) ?_
      exact rt_z hx hb hr hm.1 hlocks hK hP hD hS d_Desk_mark_25 hm.2
    · replace hm := hm.2 c2
      refine lv_iconst (v := 0) hx hb d_Desk_mark_12 (by decide) ?_
      exact rt_z hx hb hr hm.1 hlocks hK hP hD hS d_Desk_mark_13 hm.2
set_option maxHeartbeats 4000000 in
set_option maxRecDepth 100000 in
theorem c_Desk_cost (l : Launch) (D : va_G) (ad : Nat → Nat) (ca : Nat → ClassId) (sz : Nat) (s : St) (a1 : Int32) (a2 : Int32) (Post : Int32 → St → Prop) (hm : x_Desk_cost s a1 a2 Post) : CtI l y_Desk_cost w_Desk_cost { frames := 0, cells := 0, slots := 0, locals := 0 } D vwCl (tyX ca) (wX ad ca) sz [.ref (ad 0), .int a1, .int a2] s Post := by
  refine ct_i (cc := prog_1_method_7_code) (maxL := 4) (ret := (some .int)) (by decide) rfl (Nat.le_of_ble_eq_true rfl) ?_
  intro p e s0 m args below meth c A hx hb hr hts hown hlocks hml hK hA
  have hown : s0.vm.findClass R_Desk = some m.cls := hown
  intro H locs ls hP hD hS hl
  have hl : lv_has ls 4 [(0, .ref (ad 0)), (1, .int a1), (2, .int a2)] := hl
  unfold x_Desk_cost at hm
  refine lv_iload_n hx hb d_Desk_cost_0 rfl (lv_at hl 1 rfl) ?_
  refine lv_if_lt (tgt := 21) hx hb d_Desk_cost_1 (by decide) (fun c1 => ?_) (fun c1 => ?_)
  · replace hm := hm.1 c1
    refine lv_iconst (v := -1) hx hb d_Desk_cost_21 (by decide) ?_
    exact rt_i hx hb hr hlocks hK hP hD hS d_Desk_cost_22 hm
  · replace hm := hm.2 c1
    refine lv_iload_n hx hb d_Desk_cost_4 rfl (lv_at hl 1 rfl) ?_
    refine lv_sipush (v := 200) hx hb d_Desk_cost_5 (by decide) ?_
    refine lv_icmp_gt (tgt := 21) hx hb d_Desk_cost_8 (by decide) (fun c2 => ?_) (fun c2 => ?_)
    · replace hm := hm.1 c2
      refine lv_iconst (v := -1) hx hb d_Desk_cost_21 (by decide) ?_
      exact rt_i hx hb hr hlocks hK hP hD hS d_Desk_cost_22 hm
    · replace hm := hm.2 c2
      refine lv_iload_n hx hb d_Desk_cost_11 rfl (lv_at hl 2 rfl) ?_
      refine lv_if_lt (tgt := 21) hx hb d_Desk_cost_12 (by decide) (fun c3 => ?_) (fun c3 => ?_)
      · replace hm := hm.1 c3
        refine lv_iconst (v := -1) hx hb d_Desk_cost_21 (by decide) ?_
        exact rt_i hx hb hr hlocks hK hP hD hS d_Desk_cost_22 hm
      · replace hm := hm.2 c3
        refine lv_iload_n hx hb d_Desk_cost_15 rfl (lv_at hl 2 rfl) ?_
        refine lv_bipush (v := 99) hx hb d_Desk_cost_16 (by decide) ?_
        refine lv_icmp_le (tgt := 23) hx hb d_Desk_cost_18 (by decide) (fun c4 => ?_) (fun c4 => ?_)
        · replace hm := hm.1 c4
          refine lv_aload_n hx hb d_Desk_cost_23 rfl (lv_at hl 0 rfl) ?_
          refine va_get (D := D) (ci := 0) (v := .ref (ad 4)) (C := R_Desk) (T := T_Desk) (N := 5) hx hb hts in_Desk hown hK hP 0 rfl rfl 1 (by decide) (hts _ wd189) (fun _ h9 => h9) rfl d_Desk_cost_24 ?_
          refine va_get (D := D) (ci := 2) (v := .ref (ad 5)) (C := R_Tariff) (T := T_Tariff) (N := 4) hx hb hts in_Tariff hown hK hP 4 rfl rfl 0 (by decide) (hts _ wd53) (fun _ h9 => h9) rfl d_Desk_cost_27 ?_
          refine lv_iload_n hx hb d_Desk_cost_30 rfl (lv_at hl 1 rfl) ?_
          obtain ⟨h5, hm⟩ := hm
          refine va_iald hx hb hK hP 5 2 rfl rfl h5 d_Desk_cost_31 ?_
          refine lv_topi (fun v6 ev6 => ?_)
          replace hm := hm v6 ev6
          refine lv_istore_n (lv' := [(3, .int v6), (0, .ref (ad 0)), (1, .int a1), (2, .int a2)]) hx hb d_Desk_cost_32 rfl hl (by decide) rfl (fun ls hl => ?_)
          refine lv_aload_n hx hb d_Desk_cost_33 rfl (lv_at hl 1 rfl) ?_
          refine va_get (D := D) (ci := 0) (v := .ref (ad 4)) (C := R_Desk) (T := T_Desk) (N := 5) hx hb hts in_Desk hown hK hP 0 rfl rfl 1 (by decide) (hts _ wd189) (fun _ h9 => h9) rfl d_Desk_cost_34 ?_
          refine va_get (D := D) (ci := 2) (v := .ref (ad 5)) (C := R_Tariff) (T := T_Tariff) (N := 4) hx hb hts in_Tariff hown hK hP 4 rfl rfl 0 (by decide) (hts _ wd53) (fun _ h9 => h9) rfl d_Desk_cost_37 ?_
          refine lv_iload_n hx hb d_Desk_cost_40 rfl (lv_at hl 2 rfl) ?_
          refine lv_iload_n hx hb d_Desk_cost_41 rfl (lv_at hl 3 rfl) ?_
          obtain ⟨h7, hm⟩ := hm
          refine va_iast hx hb hK hP hD hS 5 2 rfl rfl h7 d_Desk_cost_42 (fun H locs hP hD hS => ?_)
          have hP : va_P D vwCl (wX ad ca (su s 2 (a1).toNatClampNeg a2)) H := hP
          have hD : va_D A (wX ad ca (su s 2 (a1).toNatClampNeg a2)) := hD
          obtain ⟨s8, es8⟩ : ∃ z : St, z = su s 2 (a1).toNatClampNeg a2 := ⟨_, rfl⟩
          rw [← es8] at hP hD
          replace hm := hm s8 es8
          refine lv_iload_n hx hb d_Desk_cost_43 rfl (lv_at hl 0 rfl) ?_
          exact rt_i hx hb hr hlocks hK hP hD hS d_Desk_cost_44 hm
        · replace hm := hm.2 c4
          refine lv_iconst (v := -1) hx hb d_Desk_cost_21 (by decide) ?_
          exact rt_i hx hb hr hlocks hK hP hD hS d_Desk_cost_22 hm
set_option maxHeartbeats 4000000 in
set_option maxRecDepth 100000 in
theorem c_Desk_set (l : Launch) (D : va_G) (ad : Nat → Nat) (ca : Nat → ClassId) (sz : Nat) (s : St) (a1 : Int32) (a2 : Int32) (Post : Int32 → St → Prop) (hm : x_Desk_set s a1 a2 Post) : CtI l y_Desk_set w_Desk_set { frames := 0, cells := 0, slots := 0, locals := 0 } D vwCl (tyX ca) (wX ad ca) sz [.ref (ad 0), .int a1, .int a2] s Post := by
  refine ct_i (cc := prog_1_method_8_code) (maxL := 3) (ret := (some .boolean)) (by decide) rfl (Nat.le_of_ble_eq_true rfl) ?_
  intro p e s0 m args below meth c A hx hb hr hts hown hlocks hml hK hA
  have hown : s0.vm.findClass R_Desk = some m.cls := hown
  intro H locs ls hP hD hS hl
  have hl : lv_has ls 3 [(0, .ref (ad 0)), (1, .int a1), (2, .int a2)] := hl
  unfold x_Desk_set at hm
  refine lv_iload_n hx hb d_Desk_set_0 rfl (lv_at hl 1 rfl) ?_
  refine lv_if_lt (tgt := 22) hx hb d_Desk_set_1 (by decide) (fun c1 => ?_) (fun c1 => ?_)
  · replace hm := hm.1 c1
    refine lv_iconst (v := 0) hx hb d_Desk_set_22 (by decide) ?_
    exact rt_z hx hb hr hm.1 hlocks hK hP hD hS d_Desk_set_23 hm.2
  · replace hm := hm.2 c1
    refine lv_iload_n hx hb d_Desk_set_4 rfl (lv_at hl 1 rfl) ?_
    refine lv_ldc (v := 65530) hx hb hown (hts _ wd246) d_Desk_set_5 ?_
    refine lv_icmp_gt (tgt := 22) hx hb d_Desk_set_7 (by decide) (fun c2 => ?_) (fun c2 => ?_)
    · replace hm := hm.1 c2
      refine lv_iconst (v := 0) hx hb d_Desk_set_22 (by decide) ?_
      exact rt_z hx hb hr hm.1 hlocks hK hP hD hS d_Desk_set_23 hm.2
    · replace hm := hm.2 c2
      refine lv_iload_n hx hb d_Desk_set_10 rfl (lv_at hl 2 rfl) ?_
      refine lv_iconst (v := 4) hx hb d_Desk_set_11 (by decide) ?_
      refine lv_icmp_lt (tgt := 22) hx hb d_Desk_set_12 (by decide) (fun c3 => ?_) (fun c3 => ?_)
      · replace hm := hm.1 c3
        refine lv_iconst (v := 0) hx hb d_Desk_set_22 (by decide) ?_
        exact rt_z hx hb hr hm.1 hlocks hK hP hD hS d_Desk_set_23 hm.2
      · replace hm := hm.2 c3
        refine lv_iload_n hx hb d_Desk_set_15 rfl (lv_at hl 2 rfl) ?_
        refine lv_sipush (v := 32767) hx hb d_Desk_set_16 (by decide) ?_
        refine lv_icmp_le (tgt := 24) hx hb d_Desk_set_19 (by decide) (fun c4 => ?_) (fun c4 => ?_)
        · replace hm := hm.1 c4
          refine lv_aload_n hx hb d_Desk_set_24 rfl (lv_at hl 0 rfl) ?_
          refine va_get (D := D) (ci := 0) (v := .ref (ad 4)) (C := R_Desk) (T := T_Desk) (N := 5) hx hb hts in_Desk hown hK hP 0 rfl rfl 1 (by decide) (hts _ wd189) (fun _ h9 => h9) rfl d_Desk_set_25 ?_
          refine lv_iload_n hx hb d_Desk_set_28 rfl (lv_at hl 1 rfl) ?_
          refine va_put (D := D) (ci := 2) (v := .int a1) (ty := .int) (C := R_Tariff) (T := T_Tariff) (N := 4) hx hb hts in_Tariff t_Tariff to_Tariff no_Tariff hown hK hP hD hS 4 rfl rfl 2 (by decide) (hts _ wd58) (fun _ h9 => h9) rfl (by decide +kernel) rfl rfl (Nat.le_of_ble_eq_true rfl) d_Desk_set_29 (fun H locs hP hD hS => ?_)
          have hP : va_P D vwCl (wX ad ca (su s 15 3 a1)) H := hP
          have hD : va_D A (wX ad ca (su s 15 3 a1)) := hD
          obtain ⟨s5, es5⟩ : ∃ z : St, z = su s 15 3 a1 := ⟨_, rfl⟩
          rw [← es5] at hP hD
          replace hm := hm s5 es5
          refine lv_aload_n hx hb d_Desk_set_32 rfl (lv_at hl 0 rfl) ?_
          refine va_get (D := D) (ci := 0) (v := .ref (ad 4)) (C := R_Desk) (T := T_Desk) (N := 5) hx hb hts in_Desk hown hK hP 0 rfl rfl 1 (by decide) (hts _ wd189) (fun _ h9 => h9) rfl d_Desk_set_33 ?_
          refine lv_iload_n hx hb d_Desk_set_36 rfl (lv_at hl 2 rfl) ?_
          refine va_put (D := D) (ci := 2) (v := .int a2) (ty := .int) (C := R_Tariff) (T := T_Tariff) (N := 4) hx hb hts in_Tariff t_Tariff to_Tariff no_Tariff hown hK hP hD hS 4 rfl rfl 3 (by decide) (hts _ wd61) (fun _ h9 => h9) rfl (by decide +kernel) rfl rfl (Nat.le_of_ble_eq_true rfl) d_Desk_set_37 (fun H locs hP hD hS => ?_)
          have hP : va_P D vwCl (wX ad ca (su s5 15 4 a2)) H := hP
          have hD : va_D A (wX ad ca (su s5 15 4 a2)) := hD
          obtain ⟨s6, es6⟩ : ∃ z : St, z = su s5 15 4 a2 := ⟨_, rfl⟩
          rw [← es6] at hP hD
          replace hm := hm s6 es6
          refine lv_iconst (v := 1) hx hb d_Desk_set_40 (by decide) ?_
          exact rt_z hx hb hr hm.1 hlocks hK hP hD hS d_Desk_set_41 hm.2
        · replace hm := hm.2 c4
          refine lv_iconst (v := 0) hx hb d_Desk_set_22 (by decide) ?_
          exact rt_z hx hb hr hm.1 hlocks hK hP hD hS d_Desk_set_23 hm.2
set_option maxHeartbeats 4000000 in
set_option maxRecDepth 100000 in
theorem c_Output_forget (l : Launch) (D : va_G) (ad : Nat → Nat) (ca : Nat → ClassId) (sz : Nat) (s : St) (Post : St → Prop) (hm : x_Output_forget s  Post) : CtV l y_Output_forget w_Output_forget { frames := 0, cells := 0, slots := 0, locals := 0 } D vwCl (tyX ca) (wX ad ca) sz [.ref (ad 17)] s Post := by
  refine ct_v (cc := prog_4_method_2_code) (maxL := 1) (ret := none) (by decide) rfl (Nat.le_of_ble_eq_true rfl) ?_
  intro p e s0 m args below meth c A hx hb hr hts hown hlocks hml hK hA
  have hown : s0.vm.findClass R_Output = some m.cls := hown
  intro H locs ls hP hD hS hl
  have hl : lv_has ls 1 [(0, .ref (ad 17))] := hl
  unfold x_Output_forget at hm
  refine lv_aload_n hx hb d_Output_forget_0 rfl (lv_at hl 0 rfl) ?_
  refine lv_iconst (v := 0) hx hb d_Output_forget_1 (by decide) ?_
  refine va_put (D := D) (ci := 4) (v := .int (0 : Int32)) (ty := .int) (C := R_Output) (T := T_Output) (N := 9) hx hb hts in_Output t_Output to_Output no_Output hown hK hP hD hS 17 rfl rfl 5 (by decide) (hts _ wd161) (fun _ h9 => h9) rfl (by decide +kernel) rfl rfl (Nat.le_of_ble_eq_true rfl) d_Output_forget_2 (fun H locs hP hD hS => ?_)
  have hP : va_P D vwCl (wX ad ca (su s 15 10 (0 : Int32))) H := hP
  have hD : va_D A (wX ad ca (su s 15 10 (0 : Int32))) := hD
  obtain ⟨s1, es1⟩ : ∃ z : St, z = su s 15 10 (0 : Int32) := ⟨_, rfl⟩
  rw [← es1] at hP hD
  replace hm := hm s1 es1
  refine lv_aload_n hx hb d_Output_forget_5 rfl (lv_at hl 0 rfl) ?_
  refine lv_iconst (v := 0) hx hb d_Output_forget_6 (by decide) ?_
  refine va_put (D := D) (ci := 4) (v := .int (0 : Int32)) (ty := .int) (C := R_Output) (T := T_Output) (N := 9) hx hb hts in_Output t_Output to_Output no_Output hown hK hP hD hS 17 rfl rfl 6 (by decide) (hts _ wd163) (fun _ h9 => h9) rfl (by decide +kernel) rfl rfl (Nat.le_of_ble_eq_true rfl) d_Output_forget_7 (fun H locs hP hD hS => ?_)
  have hP : va_P D vwCl (wX ad ca (su s1 15 11 (0 : Int32))) H := hP
  have hD : va_D A (wX ad ca (su s1 15 11 (0 : Int32))) := hD
  obtain ⟨s2, es2⟩ : ∃ z : St, z = su s1 15 11 (0 : Int32) := ⟨_, rfl⟩
  rw [← es2] at hP hD
  replace hm := hm s2 es2
  refine lv_aload_n hx hb d_Output_forget_10 rfl (lv_at hl 0 rfl) ?_
  refine lv_iconst (v := 0) hx hb d_Output_forget_11 (by decide) ?_
  refine va_put (D := D) (ci := 4) (v := .int (0 : Int32)) (ty := .int) (C := R_Output) (T := T_Output) (N := 9) hx hb hts in_Output t_Output to_Output no_Output hown hK hP hD hS 17 rfl rfl 7 (by decide) (hts _ wd165) (fun _ h9 => h9) rfl (by decide +kernel) rfl rfl (Nat.le_of_ble_eq_true rfl) d_Output_forget_12 (fun H locs hP hD hS => ?_)
  have hP : va_P D vwCl (wX ad ca (su s2 15 12 (0 : Int32))) H := hP
  have hD : va_D A (wX ad ca (su s2 15 12 (0 : Int32))) := hD
  obtain ⟨s3, es3⟩ : ∃ z : St, z = su s2 15 12 (0 : Int32) := ⟨_, rfl⟩
  rw [← es3] at hP hD
  replace hm := hm s3 es3
  refine lv_aload_n hx hb d_Output_forget_15 rfl (lv_at hl 0 rfl) ?_
  refine lv_iconst (v := 0) hx hb d_Output_forget_16 (by decide) ?_
  refine va_put (D := D) (ci := 4) (v := .int (0 : Int32)) (ty := .int) (C := R_Output) (T := T_Output) (N := 9) hx hb hts in_Output t_Output to_Output no_Output hown hK hP hD hS 17 rfl rfl 8 (by decide) (hts _ wd167) (fun _ h9 => h9) rfl (by decide +kernel) rfl rfl (Nat.le_of_ble_eq_true rfl) d_Output_forget_17 (fun H locs hP hD hS => ?_)
  have hP : va_P D vwCl (wX ad ca (su s3 15 13 (0 : Int32))) H := hP
  have hD : va_D A (wX ad ca (su s3 15 13 (0 : Int32))) := hD
  obtain ⟨s4, es4⟩ : ∃ z : St, z = su s3 15 13 (0 : Int32) := ⟨_, rfl⟩
  rw [← es4] at hP hD
  replace hm := hm s4 es4
  exact rt_v hx hb hr hlocks hK hP hD hS d_Output_forget_20 hm
set_option maxHeartbeats 4000000 in
set_option maxRecDepth 100000 in
theorem c_Arrays_fill_9 (l : Launch) (D : va_G) (ad : Nat → Nat) (ca : Nat → ClassId) (sz : Nat) (s : St) (a1 : Int32) (Post : St → Prop) (hm : x_Arrays_fill_9 s a1 Post) : CtV l y_Arrays_fill w_Arrays_fill { frames := 0, cells := 0, slots := 0, locals := 0 } D vwCl (tyX ca) (wX ad ca) sz [.ref (ad 9), .int a1] s Post := by
  refine ct_v (cc := prog_9_method_103_code) (maxL := 4) (ret := none) (by decide) rfl (Nat.le_of_ble_eq_true rfl) ?_
  intro p e s0 m args below meth c A hx hb hr hts hown hlocks hml hK hA
  have hown : s0.vm.findClass R_Arrays = some m.cls := hown
  have B5 : ∀ (n : Nat) (s : St) (x1 : Int32) (x2 : Int32) (x3 : Int32), x_Arrays_fill_9_5  Post n s x1 x2 x3 → Bk D vwCl (wX ad ca) A p l e { frames := 0, cells := 0, slots := 0, locals := 0 } s0 m args below meth c (MQ below (va_Qv Post (atG D vwCl (tyX ca) (wX ad ca) A) A) args s0 0 0 A) 4 5 s [(0, .ref (ad 9)), (1, .int x1), (2, .int x2), (3, .int x3)] [] := by
    intro  n5
    induction n5 with
    | zero => intro s x1 x2 x3 hm; exact hm.elim
    | succ n5 hK5 =>
      intro s x1 x2 x3 hm H locs ls hP hD hS hl
      have hm : x_Arrays_fill_9_5F  Post (fun s x1 x2 x3 => x_Arrays_fill_9_5  Post n5 s x1 x2 x3) s x1 x2 x3 := hm
      unfold x_Arrays_fill_9_5F at hm
      refine lv_iload_n hx hb d_Arrays_fill_5 rfl (lv_at hl 2 rfl) ?_
      refine lv_iload_n hx hb d_Arrays_fill_6 rfl (lv_at hl 3 rfl) ?_
      refine lv_icmp_ge (tgt := 20) hx hb d_Arrays_fill_7 (by decide) (fun c1 => ?_) (fun c1 => ?_)
      · replace hm := hm.1 c1
        exact rt_v hx hb hr hlocks hK hP hD hS d_Arrays_fill_20 hm
      · replace hm := hm.2 c1
        refine lv_aload_n hx hb d_Arrays_fill_10 rfl (lv_at hl 0 rfl) ?_
        refine lv_iload_n hx hb d_Arrays_fill_11 rfl (lv_at hl 2 rfl) ?_
        refine lv_iload_n hx hb d_Arrays_fill_12 rfl (lv_at hl 1 rfl) ?_
        obtain ⟨h2, hm⟩ := hm
        refine va_iast hx hb hK hP hD hS 9 5 rfl rfl h2 d_Arrays_fill_13 (fun H locs hP hD hS => ?_)
        have hP : va_P D vwCl (wX ad ca (su s 5 (x2).toNatClampNeg x1)) H := hP
        have hD : va_D A (wX ad ca (su s 5 (x2).toNatClampNeg x1)) := hD
        obtain ⟨s3, es3⟩ : ∃ z : St, z = su s 5 (x2).toNatClampNeg x1 := ⟨_, rfl⟩
        rw [← es3] at hP hD
        replace hm := hm s3 es3
        obtain ⟨v4, ev4⟩ : ∃ y : Int32, y = x2 + 1 := ⟨_, rfl⟩
        replace hm := hm v4 ev4
        refine lv_iinc (v := v4) (lv' := [(2, .int v4), (0, .ref (ad 9)), (1, .int x1), (3, .int x3)]) hx hb d_Arrays_fill_14 hl (k := 2) rfl (by rw [ev4]; rfl) (by decide) rfl (fun ls hl => ?_)
        refine lv_goto (tgt := 5) hx hb d_Arrays_fill_17 (by decide) ?_
        exact hK5 s3 x1 v4 x3 hm H locs ls hP hD hS (lv_sub hl [1, 2, 0, 3] rfl)
  intro H locs ls hP hD hS hl
  have hl : lv_has ls 4 [(0, .ref (ad 9)), (1, .int a1)] := hl
  unfold x_Arrays_fill_9 at hm
  refine lv_iconst (v := 0) hx hb d_Arrays_fill_0 (by decide) ?_
  refine lv_istore_n (lv' := [(2, .int (0 : Int32)), (0, .ref (ad 9)), (1, .int a1)]) hx hb d_Arrays_fill_1 rfl hl (by decide) rfl (fun ls hl => ?_)
  refine lv_aload_n hx hb d_Arrays_fill_2 rfl (lv_at hl 1 rfl) ?_
  refine va_alen (v := 201) hx hb hK hP 9 5 rfl rfl rfl d_Arrays_fill_3 ?_
  refine lv_istore_n (lv' := [(3, .int (201 : Int32)), (2, .int (0 : Int32)), (0, .ref (ad 9)), (1, .int a1)]) hx hb d_Arrays_fill_4 rfl hl (by decide) rfl (fun ls hl => ?_)
  obtain ⟨n5, hm⟩ := hm
  exact B5  n5 s a1 (0 : Int32) (201 : Int32) hm H locs ls hP hD hS (lv_sub hl [2, 3, 1, 0] rfl)
set_option maxHeartbeats 4000000 in
set_option maxRecDepth 100000 in
theorem c_Arrays_fill_11 (l : Launch) (D : va_G) (ad : Nat → Nat) (ca : Nat → ClassId) (sz : Nat) (s : St) (a1 : Int32) (Post : St → Prop) (hm : x_Arrays_fill_11 s a1 Post) : CtV l y_Arrays_fill w_Arrays_fill { frames := 0, cells := 0, slots := 0, locals := 0 } D vwCl (tyX ca) (wX ad ca) sz [.ref (ad 11), .int a1] s Post := by
  refine ct_v (cc := prog_9_method_103_code) (maxL := 4) (ret := none) (by decide) rfl (Nat.le_of_ble_eq_true rfl) ?_
  intro p e s0 m args below meth c A hx hb hr hts hown hlocks hml hK hA
  have hown : s0.vm.findClass R_Arrays = some m.cls := hown
  have B5 : ∀ (n : Nat) (s : St) (x1 : Int32) (x2 : Int32) (x3 : Int32), x_Arrays_fill_11_5  Post n s x1 x2 x3 → Bk D vwCl (wX ad ca) A p l e { frames := 0, cells := 0, slots := 0, locals := 0 } s0 m args below meth c (MQ below (va_Qv Post (atG D vwCl (tyX ca) (wX ad ca) A) A) args s0 0 0 A) 4 5 s [(0, .ref (ad 11)), (1, .int x1), (2, .int x2), (3, .int x3)] [] := by
    intro  n5
    induction n5 with
    | zero => intro s x1 x2 x3 hm; exact hm.elim
    | succ n5 hK5 =>
      intro s x1 x2 x3 hm H locs ls hP hD hS hl
      have hm : x_Arrays_fill_11_5F  Post (fun s x1 x2 x3 => x_Arrays_fill_11_5  Post n5 s x1 x2 x3) s x1 x2 x3 := hm
      unfold x_Arrays_fill_11_5F at hm
      refine lv_iload_n hx hb d_Arrays_fill_5 rfl (lv_at hl 2 rfl) ?_
      refine lv_iload_n hx hb d_Arrays_fill_6 rfl (lv_at hl 3 rfl) ?_
      refine lv_icmp_ge (tgt := 20) hx hb d_Arrays_fill_7 (by decide) (fun c1 => ?_) (fun c1 => ?_)
      · replace hm := hm.1 c1
        exact rt_v hx hb hr hlocks hK hP hD hS d_Arrays_fill_20 hm
      · replace hm := hm.2 c1
        refine lv_aload_n hx hb d_Arrays_fill_10 rfl (lv_at hl 0 rfl) ?_
        refine lv_iload_n hx hb d_Arrays_fill_11 rfl (lv_at hl 2 rfl) ?_
        refine lv_iload_n hx hb d_Arrays_fill_12 rfl (lv_at hl 1 rfl) ?_
        obtain ⟨h2, hm⟩ := hm
        refine va_iast hx hb hK hP hD hS 11 7 rfl rfl h2 d_Arrays_fill_13 (fun H locs hP hD hS => ?_)
        have hP : va_P D vwCl (wX ad ca (su s 7 (x2).toNatClampNeg x1)) H := hP
        have hD : va_D A (wX ad ca (su s 7 (x2).toNatClampNeg x1)) := hD
        obtain ⟨s3, es3⟩ : ∃ z : St, z = su s 7 (x2).toNatClampNeg x1 := ⟨_, rfl⟩
        rw [← es3] at hP hD
        replace hm := hm s3 es3
        obtain ⟨v4, ev4⟩ : ∃ y : Int32, y = x2 + 1 := ⟨_, rfl⟩
        replace hm := hm v4 ev4
        refine lv_iinc (v := v4) (lv' := [(2, .int v4), (0, .ref (ad 11)), (1, .int x1), (3, .int x3)]) hx hb d_Arrays_fill_14 hl (k := 2) rfl (by rw [ev4]; rfl) (by decide) rfl (fun ls hl => ?_)
        refine lv_goto (tgt := 5) hx hb d_Arrays_fill_17 (by decide) ?_
        exact hK5 s3 x1 v4 x3 hm H locs ls hP hD hS (lv_sub hl [1, 2, 0, 3] rfl)
  intro H locs ls hP hD hS hl
  have hl : lv_has ls 4 [(0, .ref (ad 11)), (1, .int a1)] := hl
  unfold x_Arrays_fill_11 at hm
  refine lv_iconst (v := 0) hx hb d_Arrays_fill_0 (by decide) ?_
  refine lv_istore_n (lv' := [(2, .int (0 : Int32)), (0, .ref (ad 11)), (1, .int a1)]) hx hb d_Arrays_fill_1 rfl hl (by decide) rfl (fun ls hl => ?_)
  refine lv_aload_n hx hb d_Arrays_fill_2 rfl (lv_at hl 1 rfl) ?_
  refine va_alen (v := 201) hx hb hK hP 11 7 rfl rfl rfl d_Arrays_fill_3 ?_
  refine lv_istore_n (lv' := [(3, .int (201 : Int32)), (2, .int (0 : Int32)), (0, .ref (ad 11)), (1, .int a1)]) hx hb d_Arrays_fill_4 rfl hl (by decide) rfl (fun ls hl => ?_)
  obtain ⟨n5, hm⟩ := hm
  exact B5  n5 s a1 (0 : Int32) (201 : Int32) hm H locs ls hP hD hS (lv_sub hl [2, 3, 1, 0] rfl)
set_option maxHeartbeats 4000000 in
set_option maxRecDepth 100000 in
theorem c_Layout_forget (l : Launch) (D : va_G) (ad : Nat → Nat) (ca : Nat → ClassId) (sz : Nat) (s : St) (Post : St → Prop) (hm : x_Layout_forget s  Post) : CtV l y_Layout_forget w_Layout_forget { frames := 1, cells := 0, slots := 0, locals := 23 } D vwCl (tyX ca) (wX ad ca) sz [.ref (ad 7)] s Post := by
  refine ct_v (cc := prog_2_method_4_code) (maxL := 2) (ret := none) (by decide) rfl (Nat.le_of_ble_eq_true rfl) ?_
  intro p e s0 m args below meth c A hx hb hr hts hown hlocks hml hK hA
  have hown : s0.vm.findClass R_Layout = some m.cls := hown
  have B18 : ∀ (n : Nat) (s : St) (x1 : Int32), x_Layout_forget_18  Post n s x1 → Bk D vwCl (wX ad ca) A p l e { frames := 1, cells := 0, slots := 0, locals := 23 } s0 m args below meth c (MQ below (va_Qv Post (atG D vwCl (tyX ca) (wX ad ca) A) A) args s0 0 0 A) 2 18 s [(0, .ref (ad 7)), (1, .int x1)] [] := by
    intro  n18
    induction n18 with
    | zero => intro s x1 hm; exact hm.elim
    | succ n18 hK18 =>
      intro s x1 hm H locs ls hP hD hS hl
      have hm : x_Layout_forget_18F  Post (fun s x1 => x_Layout_forget_18  Post n18 s x1) s x1 := hm
      unfold x_Layout_forget_18F at hm
      refine lv_iload_n hx hb d_Layout_forget_18 rfl (lv_at hl 1 rfl) ?_
      refine lv_sipush (v := 200) hx hb d_Layout_forget_19 (by decide) ?_
      refine lv_icmp_gt (tgt := 45) hx hb d_Layout_forget_22 (by decide) (fun c5 => ?_) (fun c5 => ?_)
      · replace hm := hm.1 c5
        refine lv_aload_n hx hb d_Layout_forget_45 rfl (lv_at hl 0 rfl) ?_
        refine lv_iconst (v := 0) hx hb d_Layout_forget_46 (by decide) ?_
        refine va_put (D := D) (ci := 3) (v := .int (0 : Int32)) (ty := .int) (C := R_Layout) (T := T_Layout) (N := 16) hx hb hts in_Layout t_Layout to_Layout no_Layout hown hK hP hD hS 7 rfl rfl 11 (by decide) (hts _ wd105) (fun _ h9 => h9) rfl (by decide +kernel) rfl rfl (Nat.le_of_ble_eq_true rfl) d_Layout_forget_47 (fun H locs hP hD hS => ?_)
        have hP : va_P D vwCl (wX ad ca (su s 15 5 (0 : Int32))) H := hP
        have hD : va_D A (wX ad ca (su s 15 5 (0 : Int32))) := hD
        obtain ⟨s6, es6⟩ : ∃ z : St, z = su s 15 5 (0 : Int32) := ⟨_, rfl⟩
        rw [← es6] at hP hD
        replace hm := hm s6 es6
        refine lv_aload_n hx hb d_Layout_forget_50 rfl (lv_at hl 0 rfl) ?_
        refine lv_iconst (v := 0) hx hb d_Layout_forget_51 (by decide) ?_
        refine va_put (D := D) (ci := 3) (v := .int (0 : Int32)) (ty := .int) (C := R_Layout) (T := T_Layout) (N := 16) hx hb hts in_Layout t_Layout to_Layout no_Layout hown hK hP hD hS 7 rfl rfl 12 (by decide) (hts _ wd107) (fun _ h9 => h9) rfl (by decide +kernel) rfl rfl (Nat.le_of_ble_eq_true rfl) d_Layout_forget_52 (fun H locs hP hD hS => ?_)
        have hP : va_P D vwCl (wX ad ca (su s6 15 6 (0 : Int32))) H := hP
        have hD : va_D A (wX ad ca (su s6 15 6 (0 : Int32))) := hD
        obtain ⟨s7, es7⟩ : ∃ z : St, z = su s6 15 6 (0 : Int32) := ⟨_, rfl⟩
        rw [← es7] at hP hD
        replace hm := hm s7 es7
        refine lv_aload_n hx hb d_Layout_forget_55 rfl (lv_at hl 0 rfl) ?_
        refine lv_iconst (v := 0) hx hb d_Layout_forget_56 (by decide) ?_
        refine va_put (D := D) (ci := 3) (v := .int (0 : Int32)) (ty := .int) (C := R_Layout) (T := T_Layout) (N := 16) hx hb hts in_Layout t_Layout to_Layout no_Layout hown hK hP hD hS 7 rfl rfl 13 (by decide) (hts _ wd109) (fun _ h9 => h9) rfl (by decide +kernel) rfl rfl (Nat.le_of_ble_eq_true rfl) d_Layout_forget_57 (fun H locs hP hD hS => ?_)
        have hP : va_P D vwCl (wX ad ca (su s7 15 7 (0 : Int32))) H := hP
        have hD : va_D A (wX ad ca (su s7 15 7 (0 : Int32))) := hD
        obtain ⟨s8, es8⟩ : ∃ z : St, z = su s7 15 7 (0 : Int32) := ⟨_, rfl⟩
        rw [← es8] at hP hD
        replace hm := hm s8 es8
        refine lv_aload_n hx hb d_Layout_forget_60 rfl (lv_at hl 0 rfl) ?_
        refine lv_iconst (v := 0) hx hb d_Layout_forget_61 (by decide) ?_
        refine va_put (D := D) (ci := 3) (v := .int (0 : Int32)) (ty := .int) (C := R_Layout) (T := T_Layout) (N := 16) hx hb hts in_Layout t_Layout to_Layout no_Layout hown hK hP hD hS 7 rfl rfl 14 (by decide) (hts _ wd111) (fun _ h9 => h9) rfl (by decide +kernel) rfl rfl (Nat.le_of_ble_eq_true rfl) d_Layout_forget_62 (fun H locs hP hD hS => ?_)
        have hP : va_P D vwCl (wX ad ca (su s8 15 8 (0 : Int32))) H := hP
        have hD : va_D A (wX ad ca (su s8 15 8 (0 : Int32))) := hD
        obtain ⟨s9, es9⟩ : ∃ z : St, z = su s8 15 8 (0 : Int32) := ⟨_, rfl⟩
        rw [← es9] at hP hD
        replace hm := hm s9 es9
        refine lv_aload_n hx hb d_Layout_forget_65 rfl (lv_at hl 0 rfl) ?_
        refine lv_iconst (v := 0) hx hb d_Layout_forget_66 (by decide) ?_
        refine va_put (D := D) (ci := 3) (v := .int (0 : Int32)) (ty := .int) (C := R_Layout) (T := T_Layout) (N := 16) hx hb hts in_Layout t_Layout to_Layout no_Layout hown hK hP hD hS 7 rfl rfl 15 (by decide) (hts _ wd113) (fun _ h9 => h9) rfl (by decide +kernel) rfl rfl (Nat.le_of_ble_eq_true rfl) d_Layout_forget_67 (fun H locs hP hD hS => ?_)
        have hP : va_P D vwCl (wX ad ca (su s9 15 9 (0 : Int32))) H := hP
        have hD : va_D A (wX ad ca (su s9 15 9 (0 : Int32))) := hD
        obtain ⟨s10, es10⟩ : ∃ z : St, z = su s9 15 9 (0 : Int32) := ⟨_, rfl⟩
        rw [← es10] at hP hD
        replace hm := hm s10 es10
        exact rt_v hx hb hr hlocks hK hP hD hS d_Layout_forget_70 hm
      · replace hm := hm.2 c5
        refine lv_aload_n hx hb d_Layout_forget_25 rfl (lv_at hl 0 rfl) ?_
        refine va_get (D := D) (ci := 3) (v := .ref (ad 12)) (C := R_Layout) (T := T_Layout) (N := 16) hx hb hts in_Layout hown hK hP 7 rfl rfl 6 (by decide) (hts _ wd91) (fun _ h9 => h9) rfl d_Layout_forget_26 ?_
        refine lv_iload_n hx hb d_Layout_forget_29 rfl (lv_at hl 1 rfl) ?_
        refine lv_iconst (v := 0) hx hb d_Layout_forget_30 (by decide) ?_
        obtain ⟨h11, hm⟩ := hm
        refine va_zast hx hb hK hP hD hS 12 8 rfl rfl h11 d_Layout_forget_31 (fun H locs hP hD hS => ?_)
        have hP : va_P D vwCl (wX ad ca (su s 8 (x1).toNatClampNeg (vp_nar .boolean (0 : Int32)))) H := hP
        have hD : va_D A (wX ad ca (su s 8 (x1).toNatClampNeg (vp_nar .boolean (0 : Int32)))) := hD
        obtain ⟨s12, es12⟩ : ∃ z : St, z = su s 8 (x1).toNatClampNeg (vp_nar .boolean (0 : Int32)) := ⟨_, rfl⟩
        rw [← es12] at hP hD
        replace hm := hm s12 es12
        refine lv_aload_n hx hb d_Layout_forget_32 rfl (lv_at hl 0 rfl) ?_
        refine va_get (D := D) (ci := 3) (v := .ref (ad 16)) (C := R_Layout) (T := T_Layout) (N := 16) hx hb hts in_Layout hown hK hP 7 rfl rfl 10 (by decide) (hts _ wd101) (fun _ h9 => h9) rfl d_Layout_forget_33 ?_
        refine lv_iload_n hx hb d_Layout_forget_36 rfl (lv_at hl 1 rfl) ?_
        refine lv_iconst (v := 0) hx hb d_Layout_forget_37 (by decide) ?_
        obtain ⟨h13, hm⟩ := hm
        refine va_zast hx hb hK hP hD hS 16 12 rfl rfl h13 d_Layout_forget_38 (fun H locs hP hD hS => ?_)
        have hP : va_P D vwCl (wX ad ca (su s12 12 (x1).toNatClampNeg (vp_nar .boolean (0 : Int32)))) H := hP
        have hD : va_D A (wX ad ca (su s12 12 (x1).toNatClampNeg (vp_nar .boolean (0 : Int32)))) := hD
        obtain ⟨s14, es14⟩ : ∃ z : St, z = su s12 12 (x1).toNatClampNeg (vp_nar .boolean (0 : Int32)) := ⟨_, rfl⟩
        rw [← es14] at hP hD
        replace hm := hm s14 es14
        obtain ⟨v15, ev15⟩ : ∃ y : Int32, y = x1 + 1 := ⟨_, rfl⟩
        replace hm := hm v15 ev15
        refine lv_iinc (v := v15) (lv' := [(1, .int v15), (0, .ref (ad 7))]) hx hb d_Layout_forget_39 hl (k := 1) rfl (by rw [ev15]; rfl) (by decide) rfl (fun ls hl => ?_)
        refine lv_goto (tgt := 18) hx hb d_Layout_forget_42 (by decide) ?_
        exact hK18 s14 v15 hm H locs ls hP hD hS (lv_sub hl [1, 0] rfl)
  intro H locs ls hP hD hS hl
  have hl : lv_has ls 2 [(0, .ref (ad 7))] := hl
  unfold x_Layout_forget at hm
  refine lv_aload_n hx hb d_Layout_forget_0 rfl (lv_at hl 0 rfl) ?_
  refine va_get (D := D) (ci := 3) (v := .ref (ad 9)) (C := R_Layout) (T := T_Layout) (N := 16) hx hb hts in_Layout hown hK hP 7 rfl rfl 3 (by decide) (hts _ wd84) (fun _ h9 => h9) rfl d_Layout_forget_1 ?_
  refine lv_iconst (v := 0) hx hb d_Layout_forget_4 (by decide) ?_
  refine cg_Sv (As := [.ref (ad 9), .int (0 : Int32)]) (rest := []) ⟨hx, hb, hml, hown, hts⟩ hK hP hD hS hA (c_Arrays_fill_9 l D ad ca H.size s (0 : Int32) _ hm) (cwB 2 hts wd51 wd4 wd263 wd50 (by decide +kernel) ⟨Nat.le_of_ble_eq_true rfl, Nat.le_of_ble_eq_true rfl⟩) rfl hl rfl (Nat.le_of_ble_eq_true rfl) d_Layout_forget_5 (fun s2 hm => ?_)
  intro H locs ls hP hD hS hl
  refine lv_aload_n hx hb d_Layout_forget_8 rfl (lv_at hl 0 rfl) ?_
  refine va_get (D := D) (ci := 3) (v := .ref (ad 11)) (C := R_Layout) (T := T_Layout) (N := 16) hx hb hts in_Layout hown hK hP 7 rfl rfl 5 (by decide) (hts _ wd88) (fun _ h9 => h9) rfl d_Layout_forget_9 ?_
  refine lv_iconst (v := -1) hx hb d_Layout_forget_12 (by decide) ?_
  refine cg_Sv (As := [.ref (ad 11), .int (-1 : Int32)]) (rest := []) ⟨hx, hb, hml, hown, hts⟩ hK hP hD hS hA (c_Arrays_fill_11 l D ad ca H.size s2 (-1 : Int32) _ hm) (cwB 2 hts wd51 wd4 wd263 wd50 (by decide +kernel) ⟨Nat.le_of_ble_eq_true rfl, Nat.le_of_ble_eq_true rfl⟩) rfl hl rfl (Nat.le_of_ble_eq_true rfl) d_Layout_forget_13 (fun s4 hm => ?_)
  intro H locs ls hP hD hS hl
  refine lv_iconst (v := 0) hx hb d_Layout_forget_16 (by decide) ?_
  refine lv_istore_n (lv' := [(1, .int (0 : Int32)), (0, .ref (ad 7))]) hx hb d_Layout_forget_17 rfl hl (by decide) rfl (fun ls hl => ?_)
  obtain ⟨n18, hm⟩ := hm
  exact B18  n18 s4 (0 : Int32) hm H locs ls hP hD hS (lv_sub hl [1, 0] rfl)
set_option maxHeartbeats 4000000 in
set_option maxRecDepth 100000 in
theorem c_Source_u1 (l : Launch) (D : va_G) (ad : Nat → Nat) (ca : Nat → ClassId) (sz : Nat) (s : St) (a1 : Int32) (Post : Int32 → St → Prop) (hm : x_Source_u1 s a1 Post) : CtI l y_Source_u1 w_Source_u1 { frames := 0, cells := 0, slots := 0, locals := 0 } D vwCl (tyX ca) (wX ad ca) sz [.ref (ad 1), .int a1] s Post := by
  refine ct_i (cc := prog_5_method_5_code) (maxL := 2) (ret := (some .int)) (by decide) rfl (Nat.le_of_ble_eq_true rfl) ?_
  intro p e s0 m args below meth c A hx hb hr hts hown hlocks hml hK hA
  have hown : s0.vm.findClass R_Source = some m.cls := hown
  intro H locs ls hP hD hS hl
  have hl : lv_has ls 2 [(0, .ref (ad 1)), (1, .int a1)] := hl
  unfold x_Source_u1 at hm
  refine lv_iload_n hx hb d_Source_u1_0 rfl (lv_at hl 1 rfl) ?_
  refine lv_if_lt (tgt := 21) hx hb d_Source_u1_1 (by decide) (fun c1 => ?_) (fun c1 => ?_)
  · replace hm := hm.1 c1
    refine lv_iconst (v := 0) hx hb d_Source_u1_21 (by decide) ?_
    exact rt_i hx hb hr hlocks hK hP hD hS d_Source_u1_22 hm
  · replace hm := hm.2 c1
    refine lv_iload_n hx hb d_Source_u1_4 rfl (lv_at hl 1 rfl) ?_
    refine lv_aload_n hx hb d_Source_u1_5 rfl (lv_at hl 0 rfl) ?_
    refine va_get (D := D) (ci := 1) (v := .int (s 15 1)) (C := R_Source) (T := T_Source) (N := 4) hx hb hts in_Source hown hK hP 1 rfl rfl 2 (by decide) (hts _ wd26) (fun _ h9 => h9) rfl d_Source_u1_6 ?_
    refine lv_icmp_ge (tgt := 21) hx hb d_Source_u1_9 (by decide) (fun c2 => ?_) (fun c2 => ?_)
    · replace hm := hm.1 c2
      refine lv_iconst (v := 0) hx hb d_Source_u1_21 (by decide) ?_
      exact rt_i hx hb hr hlocks hK hP hD hS d_Source_u1_22 hm
    · replace hm := hm.2 c2
      refine lv_aload_n hx hb d_Source_u1_12 rfl (lv_at hl 0 rfl) ?_
      refine va_get (D := D) (ci := 1) (v := .ref (ad 2)) (C := R_Source) (T := T_Source) (N := 4) hx hb hts in_Source hown hK hP 1 rfl rfl 0 (by decide) (hts _ wd23) (fun _ h9 => h9) rfl d_Source_u1_13 ?_
      refine lv_iload_n hx hb d_Source_u1_16 rfl (lv_at hl 1 rfl) ?_
      obtain ⟨h3, hm⟩ := hm
      refine va_iald hx hb hK hP 2 0 rfl rfl h3 d_Source_u1_17 ?_
      refine lv_goto (tgt := 22) hx hb d_Source_u1_18 (by decide) ?_
      exact rt_i hx hb hr hlocks hK hP hD hS d_Source_u1_22 hm
set_option maxHeartbeats 4000000 in
set_option maxRecDepth 100000 in
theorem c_Opcodes_exists (l : Launch) (D : va_G) (ad : Nat → Nat) (ca : Nat → ClassId) (sz : Nat) (s : St) (a0 : Int32) (Post : Int32 → St → Prop) (hm : x_Opcodes_exists s a0 Post) : CtI l y_Opcodes_exists w_Opcodes_exists { frames := 0, cells := 0, slots := 0, locals := 0 } D vwCl (tyX ca) (wX ad ca) sz [.int a0] s Post := by
  refine ct_i (cc := prog_3_method_2_code) (maxL := 1) (ret := (some .boolean)) (by decide) rfl (Nat.le_of_ble_eq_true rfl) ?_
  intro p e s0 m args below meth c A hx hb hr hts hown hlocks hml hK hA
  have hown : s0.vm.findClass R_Opcodes = some m.cls := hown
  intro H locs ls hP hD hS hl
  have hl : lv_has ls 1 [(0, .int a0)] := hl
  unfold x_Opcodes_exists at hm
  refine lv_iload_n hx hb d_Opcodes_exists_0 rfl (lv_at hl 0 rfl) ?_
  refine lv_if_lt (tgt := 29) hx hb d_Opcodes_exists_1 (by decide) (fun c1 => ?_) (fun c1 => ?_)
  · replace hm := hm.1 c1
    refine lv_iconst (v := 0) hx hb d_Opcodes_exists_29 (by decide) ?_
    exact rt_z hx hb hr hm.1 hlocks hK hP hD hS d_Opcodes_exists_30 hm.2
  · replace hm := hm.2 c1
    refine lv_iload_n hx hb d_Opcodes_exists_4 rfl (lv_at hl 0 rfl) ?_
    refine lv_sipush (v := 200) hx hb d_Opcodes_exists_5 (by decide) ?_
    refine lv_icmp_gt (tgt := 29) hx hb d_Opcodes_exists_8 (by decide) (fun c2 => ?_) (fun c2 => ?_)
    · replace hm := hm.1 c2
      refine lv_iconst (v := 0) hx hb d_Opcodes_exists_29 (by decide) ?_
      exact rt_z hx hb hr hm.1 hlocks hK hP hD hS d_Opcodes_exists_30 hm.2
    · replace hm := hm.2 c2
      refine lv_iload_n hx hb d_Opcodes_exists_11 rfl (lv_at hl 0 rfl) ?_
      refine lv_sipush (v := 168) hx hb d_Opcodes_exists_12 (by decide) ?_
      refine lv_icmp_eq (tgt := 29) hx hb d_Opcodes_exists_15 (by decide) (fun c3 => ?_) (fun c3 => ?_)
      · replace hm := hm.1 c3
        refine lv_iconst (v := 0) hx hb d_Opcodes_exists_29 (by decide) ?_
        exact rt_z hx hb hr hm.1 hlocks hK hP hD hS d_Opcodes_exists_30 hm.2
      · replace hm := hm.2 c3
        refine lv_iload_n hx hb d_Opcodes_exists_18 rfl (lv_at hl 0 rfl) ?_
        refine lv_sipush (v := 169) hx hb d_Opcodes_exists_19 (by decide) ?_
        refine lv_icmp_eq (tgt := 29) hx hb d_Opcodes_exists_22 (by decide) (fun c4 => ?_) (fun c4 => ?_)
        · replace hm := hm.1 c4
          refine lv_iconst (v := 0) hx hb d_Opcodes_exists_29 (by decide) ?_
          exact rt_z hx hb hr hm.1 hlocks hK hP hD hS d_Opcodes_exists_30 hm.2
        · replace hm := hm.2 c4
          refine lv_iconst (v := 1) hx hb d_Opcodes_exists_25 (by decide) ?_
          refine lv_goto (tgt := 30) hx hb d_Opcodes_exists_26 (by decide) ?_
          exact rt_z hx hb hr hm.1 hlocks hK hP hD hS d_Opcodes_exists_30 hm.2
set_option maxHeartbeats 4000000 in
set_option maxRecDepth 100000 in
theorem c_Opcodes_isSwitch (l : Launch) (D : va_G) (ad : Nat → Nat) (ca : Nat → ClassId) (sz : Nat) (s : St) (a0 : Int32) (Post : Int32 → St → Prop) (hm : x_Opcodes_isSwitch s a0 Post) : CtI l y_Opcodes_isSwitch w_Opcodes_isSwitch { frames := 0, cells := 0, slots := 0, locals := 0 } D vwCl (tyX ca) (wX ad ca) sz [.int a0] s Post := by
  refine ct_i (cc := prog_3_method_4_code) (maxL := 1) (ret := (some .boolean)) (by decide) rfl (Nat.le_of_ble_eq_true rfl) ?_
  intro p e s0 m args below meth c A hx hb hr hts hown hlocks hml hK hA
  have hown : s0.vm.findClass R_Opcodes = some m.cls := hown
  have B14 : ∀ (s : St), x_Opcodes_isSwitch_14  Post s → Bk D vwCl (wX ad ca) A p l e { frames := 0, cells := 0, slots := 0, locals := 0 } s0 m args below meth c (MQ below (va_Qi Post (atG D vwCl (tyX ca) (wX ad ca) A) A) args s0 0 0 A) 1 14 s [] [] := by
    intro  s hm H locs ls hP hD hS hl
    unfold x_Opcodes_isSwitch_14 at hm
    refine lv_iconst (v := 1) hx hb d_Opcodes_isSwitch_14 (by decide) ?_
    refine lv_goto (tgt := 19) hx hb d_Opcodes_isSwitch_15 (by decide) ?_
    exact rt_z hx hb hr hm.1 hlocks hK hP hD hS d_Opcodes_isSwitch_19 hm.2
  intro H locs ls hP hD hS hl
  have hl : lv_has ls 1 [(0, .int a0)] := hl
  unfold x_Opcodes_isSwitch at hm
  refine lv_iload_n hx hb d_Opcodes_isSwitch_0 rfl (lv_at hl 0 rfl) ?_
  refine lv_sipush (v := 170) hx hb d_Opcodes_isSwitch_1 (by decide) ?_
  refine lv_icmp_eq (tgt := 14) hx hb d_Opcodes_isSwitch_4 (by decide) (fun c1 => ?_) (fun c1 => ?_)
  · replace hm := hm.1 c1
    exact B14  s hm H locs ls hP hD hS (lv_sub hl [] rfl)
  · replace hm := hm.2 c1
    refine lv_iload_n hx hb d_Opcodes_isSwitch_7 rfl (lv_at hl 0 rfl) ?_
    refine lv_sipush (v := 171) hx hb d_Opcodes_isSwitch_8 (by decide) ?_
    refine lv_icmp_ne (tgt := 18) hx hb d_Opcodes_isSwitch_11 (by decide) (fun c2 => ?_) (fun c2 => ?_)
    · replace hm := hm.1 c2
      refine lv_iconst (v := 0) hx hb d_Opcodes_isSwitch_18 (by decide) ?_
      exact rt_z hx hb hr hm.1 hlocks hK hP hD hS d_Opcodes_isSwitch_19 hm.2
    · replace hm := hm.2 c2
      exact B14  s hm H locs ls hP hD hS (lv_sub hl [] rfl)
set_option maxHeartbeats 4000000 in
set_option maxRecDepth 100000 in
theorem c_Opcodes_isLocal (l : Launch) (D : va_G) (ad : Nat → Nat) (ca : Nat → ClassId) (sz : Nat) (s : St) (a0 : Int32) (Post : Int32 → St → Prop) (hm : x_Opcodes_isLocal s a0 Post) : CtI l y_Opcodes_isLocal w_Opcodes_isLocal { frames := 0, cells := 0, slots := 0, locals := 0 } D vwCl (tyX ca) (wX ad ca) sz [.int a0] s Post := by
  refine ct_i (cc := prog_3_method_8_code) (maxL := 1) (ret := (some .boolean)) (by decide) rfl (Nat.le_of_ble_eq_true rfl) ?_
  intro p e s0 m args below meth c A hx hb hr hts hown hlocks hml hK hA
  have hown : s0.vm.findClass R_Opcodes = some m.cls := hown
  have B24 : ∀ (s : St), x_Opcodes_isLocal_24  Post s → Bk D vwCl (wX ad ca) A p l e { frames := 0, cells := 0, slots := 0, locals := 0 } s0 m args below meth c (MQ below (va_Qi Post (atG D vwCl (tyX ca) (wX ad ca) A) A) args s0 0 0 A) 1 24 s [] [] := by
    intro  s hm H locs ls hP hD hS hl
    unfold x_Opcodes_isLocal_24 at hm
    refine lv_iconst (v := 1) hx hb d_Opcodes_isLocal_24 (by decide) ?_
    refine lv_goto (tgt := 29) hx hb d_Opcodes_isLocal_25 (by decide) ?_
    exact rt_z hx hb hr hm.1 hlocks hK hP hD hS d_Opcodes_isLocal_29 hm.2
  have B12 : ∀ (s : St) (x0 : Int32), x_Opcodes_isLocal_12  Post s x0 → Bk D vwCl (wX ad ca) A p l e { frames := 0, cells := 0, slots := 0, locals := 0 } s0 m args below meth c (MQ below (va_Qi Post (atG D vwCl (tyX ca) (wX ad ca) A) A) args s0 0 0 A) 1 12 s [(0, .int x0)] [] := by
    intro  s x0 hm H locs ls hP hD hS hl
    unfold x_Opcodes_isLocal_12 at hm
    refine lv_iload_n hx hb d_Opcodes_isLocal_12 rfl (lv_at hl 0 rfl) ?_
    refine lv_bipush (v := 54) hx hb d_Opcodes_isLocal_13 (by decide) ?_
    refine lv_icmp_lt (tgt := 28) hx hb d_Opcodes_isLocal_15 (by decide) (fun c3 => ?_) (fun c3 => ?_)
    · replace hm := hm.1 c3
      refine lv_iconst (v := 0) hx hb d_Opcodes_isLocal_28 (by decide) ?_
      exact rt_z hx hb hr hm.1 hlocks hK hP hD hS d_Opcodes_isLocal_29 hm.2
    · replace hm := hm.2 c3
      refine lv_iload_n hx hb d_Opcodes_isLocal_18 rfl (lv_at hl 0 rfl) ?_
      refine lv_bipush (v := 58) hx hb d_Opcodes_isLocal_19 (by decide) ?_
      refine lv_icmp_gt (tgt := 28) hx hb d_Opcodes_isLocal_21 (by decide) (fun c4 => ?_) (fun c4 => ?_)
      · replace hm := hm.1 c4
        refine lv_iconst (v := 0) hx hb d_Opcodes_isLocal_28 (by decide) ?_
        exact rt_z hx hb hr hm.1 hlocks hK hP hD hS d_Opcodes_isLocal_29 hm.2
      · replace hm := hm.2 c4
        exact B24  s hm H locs ls hP hD hS (lv_sub hl [] rfl)
  intro H locs ls hP hD hS hl
  have hl : lv_has ls 1 [(0, .int a0)] := hl
  unfold x_Opcodes_isLocal at hm
  refine lv_iload_n hx hb d_Opcodes_isLocal_0 rfl (lv_at hl 0 rfl) ?_
  refine lv_bipush (v := 21) hx hb d_Opcodes_isLocal_1 (by decide) ?_
  refine lv_icmp_lt (tgt := 12) hx hb d_Opcodes_isLocal_3 (by decide) (fun c1 => ?_) (fun c1 => ?_)
  · replace hm := hm.1 c1
    exact B12  s a0 hm H locs ls hP hD hS (lv_sub hl [0] rfl)
  · replace hm := hm.2 c1
    refine lv_iload_n hx hb d_Opcodes_isLocal_6 rfl (lv_at hl 0 rfl) ?_
    refine lv_bipush (v := 25) hx hb d_Opcodes_isLocal_7 (by decide) ?_
    refine lv_icmp_le (tgt := 24) hx hb d_Opcodes_isLocal_9 (by decide) (fun c2 => ?_) (fun c2 => ?_)
    · replace hm := hm.1 c2
      exact B24  s hm H locs ls hP hD hS (lv_sub hl [] rfl)
    · replace hm := hm.2 c2
      exact B12  s a0 hm H locs ls hP hD hS (lv_sub hl [0] rfl)
set_option maxHeartbeats 4000000 in
set_option maxRecDepth 100000 in
theorem c_Opcodes_isShortJump (l : Launch) (D : va_G) (ad : Nat → Nat) (ca : Nat → ClassId) (sz : Nat) (s : St) (a0 : Int32) (Post : Int32 → St → Prop) (hm : x_Opcodes_isShortJump s a0 Post) : CtI l y_Opcodes_isShortJump w_Opcodes_isShortJump { frames := 0, cells := 0, slots := 0, locals := 0 } D vwCl (tyX ca) (wX ad ca) sz [.int a0] s Post := by
  refine ct_i (cc := prog_3_method_3_code) (maxL := 1) (ret := (some .boolean)) (by decide) rfl (Nat.le_of_ble_eq_true rfl) ?_
  intro p e s0 m args below meth c A hx hb hr hts hown hlocks hml hK hA
  have hown : s0.vm.findClass R_Opcodes = some m.cls := hown
  have B28 : ∀ (s : St), x_Opcodes_isShortJump_28  Post s → Bk D vwCl (wX ad ca) A p l e { frames := 0, cells := 0, slots := 0, locals := 0 } s0 m args below meth c (MQ below (va_Qi Post (atG D vwCl (tyX ca) (wX ad ca) A) A) args s0 0 0 A) 1 28 s [] [] := by
    intro  s hm H locs ls hP hD hS hl
    unfold x_Opcodes_isShortJump_28 at hm
    refine lv_iconst (v := 1) hx hb d_Opcodes_isShortJump_28 (by decide) ?_
    refine lv_goto (tgt := 33) hx hb d_Opcodes_isShortJump_29 (by decide) ?_
    exact rt_z hx hb hr hm.1 hlocks hK hP hD hS d_Opcodes_isShortJump_33 hm.2
  have B14 : ∀ (s : St) (x0 : Int32), x_Opcodes_isShortJump_14  Post s x0 → Bk D vwCl (wX ad ca) A p l e { frames := 0, cells := 0, slots := 0, locals := 0 } s0 m args below meth c (MQ below (va_Qi Post (atG D vwCl (tyX ca) (wX ad ca) A) A) args s0 0 0 A) 1 14 s [(0, .int x0)] [] := by
    intro  s x0 hm H locs ls hP hD hS hl
    unfold x_Opcodes_isShortJump_14 at hm
    refine lv_iload_n hx hb d_Opcodes_isShortJump_14 rfl (lv_at hl 0 rfl) ?_
    refine lv_sipush (v := 198) hx hb d_Opcodes_isShortJump_15 (by decide) ?_
    refine lv_icmp_eq (tgt := 28) hx hb d_Opcodes_isShortJump_18 (by decide) (fun c3 => ?_) (fun c3 => ?_)
    · replace hm := hm.1 c3
      exact B28  s hm H locs ls hP hD hS (lv_sub hl [] rfl)
    · replace hm := hm.2 c3
      refine lv_iload_n hx hb d_Opcodes_isShortJump_21 rfl (lv_at hl 0 rfl) ?_
      refine lv_sipush (v := 199) hx hb d_Opcodes_isShortJump_22 (by decide) ?_
      refine lv_icmp_ne (tgt := 32) hx hb d_Opcodes_isShortJump_25 (by decide) (fun c4 => ?_) (fun c4 => ?_)
      · replace hm := hm.1 c4
        refine lv_iconst (v := 0) hx hb d_Opcodes_isShortJump_32 (by decide) ?_
        exact rt_z hx hb hr hm.1 hlocks hK hP hD hS d_Opcodes_isShortJump_33 hm.2
      · replace hm := hm.2 c4
        exact B28  s hm H locs ls hP hD hS (lv_sub hl [] rfl)
  intro H locs ls hP hD hS hl
  have hl : lv_has ls 1 [(0, .int a0)] := hl
  unfold x_Opcodes_isShortJump at hm
  refine lv_iload_n hx hb d_Opcodes_isShortJump_0 rfl (lv_at hl 0 rfl) ?_
  refine lv_sipush (v := 153) hx hb d_Opcodes_isShortJump_1 (by decide) ?_
  refine lv_icmp_lt (tgt := 14) hx hb d_Opcodes_isShortJump_4 (by decide) (fun c1 => ?_) (fun c1 => ?_)
  · replace hm := hm.1 c1
    exact B14  s a0 hm H locs ls hP hD hS (lv_sub hl [0] rfl)
  · replace hm := hm.2 c1
    refine lv_iload_n hx hb d_Opcodes_isShortJump_7 rfl (lv_at hl 0 rfl) ?_
    refine lv_sipush (v := 167) hx hb d_Opcodes_isShortJump_8 (by decide) ?_
    refine lv_icmp_le (tgt := 28) hx hb d_Opcodes_isShortJump_11 (by decide) (fun c2 => ?_) (fun c2 => ?_)
    · replace hm := hm.1 c2
      exact B28  s hm H locs ls hP hD hS (lv_sub hl [] rfl)
    · replace hm := hm.2 c2
      exact B14  s a0 hm H locs ls hP hD hS (lv_sub hl [0] rfl)
set_option maxHeartbeats 4000000 in
set_option maxRecDepth 100000 in
theorem c_Opcodes_operands (l : Launch) (D : va_G) (ad : Nat → Nat) (ca : Nat → ClassId) (sz : Nat) (s : St) (a0 : Int32) (Post : Int32 → St → Prop) (hm : x_Opcodes_operands s a0 Post) : CtI l y_Opcodes_operands w_Opcodes_operands { frames := 1, cells := 0, slots := 0, locals := 20 } D vwCl (tyX ca) (wX ad ca) sz [.int a0] s Post := by
  refine ct_i (cc := prog_3_method_9_code) (maxL := 1) (ret := (some .int)) (by decide) rfl (Nat.le_of_ble_eq_true rfl) ?_
  intro p e s0 m args below meth c A hx hb hr hts hown hlocks hml hK hA
  have hown : s0.vm.findClass R_Opcodes = some m.cls := hown
  have B170 : ∀ (s : St), x_Opcodes_operands_170  Post s → Bk D vwCl (wX ad ca) A p l e { frames := 1, cells := 0, slots := 0, locals := 20 } s0 m args below meth c (MQ below (va_Qi Post (atG D vwCl (tyX ca) (wX ad ca) A) A) args s0 0 0 A) 1 170 s [] [] := by
    intro  s hm H locs ls hP hD hS hl
    unfold x_Opcodes_operands_170 at hm
    refine lv_iconst (v := 2) hx hb d_Opcodes_operands_170 (by decide) ?_
    refine lv_goto (tgt := 175) hx hb d_Opcodes_operands_171 (by decide) ?_
    exact rt_i hx hb hr hlocks hK hP hD hS d_Opcodes_operands_175 hm
  intro H locs ls hP hD hS hl
  have hl : lv_has ls 1 [(0, .int a0)] := hl
  unfold x_Opcodes_operands at hm
  refine lv_iload_n hx hb d_Opcodes_operands_0 rfl (lv_at hl 0 rfl) ?_
  by_cases c1 : a0 = 16
  · replace hm := hm.1 c1
    refine lv_lookup (off := 131) (tgt := 132) hx hb d_Opcodes_operands_1 (by decide) (by rw [c1]; rfl) (by decide) ?_
    refine lv_iconst (v := 1) hx hb d_Opcodes_operands_132 (by decide) ?_
    exact rt_i hx hb hr hlocks hK hP hD hS d_Opcodes_operands_133 hm
  by_cases c2 : a0 = 17
  · replace hm := hm.2.1 c2
    refine lv_lookup (off := 133) (tgt := 134) hx hb d_Opcodes_operands_1 (by decide) (by rw [c2]; rfl) (by decide) ?_
    refine lv_iconst (v := 2) hx hb d_Opcodes_operands_134 (by decide) ?_
    exact rt_i hx hb hr hlocks hK hP hD hS d_Opcodes_operands_135 hm
  by_cases c3 : a0 = 18
  · replace hm := hm.2.2.1 c3
    refine lv_lookup (off := 131) (tgt := 132) hx hb d_Opcodes_operands_1 (by decide) (by rw [c3]; rfl) (by decide) ?_
    refine lv_iconst (v := 1) hx hb d_Opcodes_operands_132 (by decide) ?_
    exact rt_i hx hb hr hlocks hK hP hD hS d_Opcodes_operands_133 hm
  by_cases c4 : a0 = 19
  · replace hm := hm.2.2.2.1 c4
    refine lv_lookup (off := 133) (tgt := 134) hx hb d_Opcodes_operands_1 (by decide) (by rw [c4]; rfl) (by decide) ?_
    refine lv_iconst (v := 2) hx hb d_Opcodes_operands_134 (by decide) ?_
    exact rt_i hx hb hr hlocks hK hP hD hS d_Opcodes_operands_135 hm
  by_cases c5 : a0 = 20
  · replace hm := hm.2.2.2.2.1 c5
    refine lv_lookup (off := 133) (tgt := 134) hx hb d_Opcodes_operands_1 (by decide) (by rw [c5]; rfl) (by decide) ?_
    refine lv_iconst (v := 2) hx hb d_Opcodes_operands_134 (by decide) ?_
    exact rt_i hx hb hr hlocks hK hP hD hS d_Opcodes_operands_135 hm
  by_cases c6 : a0 = 132
  · replace hm := hm.2.2.2.2.2.1 c6
    refine lv_lookup (off := 133) (tgt := 134) hx hb d_Opcodes_operands_1 (by decide) (by rw [c6]; rfl) (by decide) ?_
    refine lv_iconst (v := 2) hx hb d_Opcodes_operands_134 (by decide) ?_
    exact rt_i hx hb hr hlocks hK hP hD hS d_Opcodes_operands_135 hm
  by_cases c7 : a0 = 185
  · replace hm := hm.2.2.2.2.2.2.1 c7
    refine lv_lookup (off := 137) (tgt := 138) hx hb d_Opcodes_operands_1 (by decide) (by rw [c7]; rfl) (by decide) ?_
    refine lv_iconst (v := 4) hx hb d_Opcodes_operands_138 (by decide) ?_
    exact rt_i hx hb hr hlocks hK hP hD hS d_Opcodes_operands_139 hm
  by_cases c8 : a0 = 186
  · replace hm := hm.2.2.2.2.2.2.2.1 c8
    refine lv_lookup (off := 137) (tgt := 138) hx hb d_Opcodes_operands_1 (by decide) (by rw [c8]; rfl) (by decide) ?_
    refine lv_iconst (v := 4) hx hb d_Opcodes_operands_138 (by decide) ?_
    exact rt_i hx hb hr hlocks hK hP hD hS d_Opcodes_operands_139 hm
  by_cases c9 : a0 = 187
  · replace hm := hm.2.2.2.2.2.2.2.2.1 c9
    refine lv_lookup (off := 133) (tgt := 134) hx hb d_Opcodes_operands_1 (by decide) (by rw [c9]; rfl) (by decide) ?_
    refine lv_iconst (v := 2) hx hb d_Opcodes_operands_134 (by decide) ?_
    exact rt_i hx hb hr hlocks hK hP hD hS d_Opcodes_operands_135 hm
  by_cases c10 : a0 = 188
  · replace hm := hm.2.2.2.2.2.2.2.2.2.1 c10
    refine lv_lookup (off := 131) (tgt := 132) hx hb d_Opcodes_operands_1 (by decide) (by rw [c10]; rfl) (by decide) ?_
    refine lv_iconst (v := 1) hx hb d_Opcodes_operands_132 (by decide) ?_
    exact rt_i hx hb hr hlocks hK hP hD hS d_Opcodes_operands_133 hm
  by_cases c11 : a0 = 189
  · replace hm := hm.2.2.2.2.2.2.2.2.2.2.1 c11
    refine lv_lookup (off := 133) (tgt := 134) hx hb d_Opcodes_operands_1 (by decide) (by rw [c11]; rfl) (by decide) ?_
    refine lv_iconst (v := 2) hx hb d_Opcodes_operands_134 (by decide) ?_
    exact rt_i hx hb hr hlocks hK hP hD hS d_Opcodes_operands_135 hm
  by_cases c12 : a0 = 192
  · replace hm := hm.2.2.2.2.2.2.2.2.2.2.2.1 c12
    refine lv_lookup (off := 133) (tgt := 134) hx hb d_Opcodes_operands_1 (by decide) (by rw [c12]; rfl) (by decide) ?_
    refine lv_iconst (v := 2) hx hb d_Opcodes_operands_134 (by decide) ?_
    exact rt_i hx hb hr hlocks hK hP hD hS d_Opcodes_operands_135 hm
  by_cases c13 : a0 = 193
  · replace hm := hm.2.2.2.2.2.2.2.2.2.2.2.2.1 c13
    refine lv_lookup (off := 133) (tgt := 134) hx hb d_Opcodes_operands_1 (by decide) (by rw [c13]; rfl) (by decide) ?_
    refine lv_iconst (v := 2) hx hb d_Opcodes_operands_134 (by decide) ?_
    exact rt_i hx hb hr hlocks hK hP hD hS d_Opcodes_operands_135 hm
  by_cases c14 : a0 = 197
  · replace hm := hm.2.2.2.2.2.2.2.2.2.2.2.2.2.1 c14
    refine lv_lookup (off := 135) (tgt := 136) hx hb d_Opcodes_operands_1 (by decide) (by rw [c14]; rfl) (by decide) ?_
    refine lv_iconst (v := 3) hx hb d_Opcodes_operands_136 (by decide) ?_
    exact rt_i hx hb hr hlocks hK hP hD hS d_Opcodes_operands_137 hm
  by_cases c15 : a0 = 200
  · replace hm := hm.2.2.2.2.2.2.2.2.2.2.2.2.2.2.1 c15
    refine lv_lookup (off := 137) (tgt := 138) hx hb d_Opcodes_operands_1 (by decide) (by rw [c15]; rfl) (by decide) ?_
    refine lv_iconst (v := 4) hx hb d_Opcodes_operands_138 (by decide) ?_
    exact rt_i hx hb hr hlocks hK hP hD hS d_Opcodes_operands_139 hm
  replace hm := hm.2.2.2.2.2.2.2.2.2.2.2.2.2.2.2 c1 c2 c3 c4 c5 c6 c7 c8 c9 c10 c11 c12 c13 c14 c15
  refine lv_lookup (off := 139) (tgt := 140) hx hb d_Opcodes_operands_1 (by decide) (by show Op.lookupswitch.offset [(16, 131), (17, 133), (18, 131), (19, 133), (20, 133), (132, 133), (185, 137), (186, 137), (187, 133), (188, 131), (189, 133), (192, 133), (193, 133), (197, 135), (200, 137)] 139 (a0).toInt = _; rw [lv_osw (a := 16) c1 rfl, lv_osw (a := 17) c2 rfl, lv_osw (a := 18) c3 rfl, lv_osw (a := 19) c4 rfl, lv_osw (a := 20) c5 rfl, lv_osw (a := 132) c6 rfl, lv_osw (a := 185) c7 rfl, lv_osw (a := 186) c8 rfl, lv_osw (a := 187) c9 rfl, lv_osw (a := 188) c10 rfl, lv_osw (a := 189) c11 rfl, lv_osw (a := 192) c12 rfl, lv_osw (a := 193) c13 rfl, lv_osw (a := 197) c14 rfl, lv_osw (a := 200) c15 rfl]; rfl) (by decide) ?_
  refine lv_iload_n hx hb d_Opcodes_operands_140 rfl (lv_at hl 0 rfl) ?_
  refine cg_Si (As := [.int a0]) (rest := []) ⟨hx, hb, hml, hown, hts⟩ hK hP hD hS hA (c_Opcodes_isLocal l D ad ca H.size s a0 _ hm) (cwB 1 hts wd285 wd8 wd304 wd284 (by decide +kernel) ⟨Nat.le_of_ble_eq_true rfl, Nat.le_of_ble_eq_true rfl⟩) rfl hl rfl (Nat.le_of_ble_eq_true rfl) d_Opcodes_operands_141 (fun r16 s17 hm => ?_)
  intro H locs ls hP hD hS hl
  refine lv_if_eq (tgt := 149) hx hb d_Opcodes_operands_144 (by decide) (fun c18 => ?_) (fun c18 => ?_)
  · replace hm := hm.1 c18
    refine lv_iload_n hx hb d_Opcodes_operands_149 rfl (lv_at hl 0 rfl) ?_
    refine cg_Si (As := [.int a0]) (rest := []) ⟨hx, hb, hml, hown, hts⟩ hK hP hD hS hA (c_Opcodes_isShortJump l D ad ca H.size s17 a0 _ hm) (cwB 1 hts wd307 wd8 wd305 wd306 (by decide +kernel) ⟨Nat.le_of_ble_eq_true rfl, Nat.le_of_ble_eq_true rfl⟩) rfl hl rfl (Nat.le_of_ble_eq_true rfl) d_Opcodes_operands_150 (fun r19 s20 hm => ?_)
    intro H locs ls hP hD hS hl
    refine lv_if_ne (tgt := 170) hx hb d_Opcodes_operands_153 (by decide) (fun c21 => ?_) (fun c21 => ?_)
    · replace hm := hm.1 c21
      exact B170  s20 hm H locs ls hP hD hS (lv_sub hl [] rfl)
    · replace hm := hm.2 c21
      refine lv_iload_n hx hb d_Opcodes_operands_156 rfl (lv_at hl 0 rfl) ?_
      refine lv_sipush (v := 178) hx hb d_Opcodes_operands_157 (by decide) ?_
      refine lv_icmp_lt (tgt := 174) hx hb d_Opcodes_operands_160 (by decide) (fun c22 => ?_) (fun c22 => ?_)
      · replace hm := hm.1 c22
        refine lv_iconst (v := 0) hx hb d_Opcodes_operands_174 (by decide) ?_
        exact rt_i hx hb hr hlocks hK hP hD hS d_Opcodes_operands_175 hm
      · replace hm := hm.2 c22
        refine lv_iload_n hx hb d_Opcodes_operands_163 rfl (lv_at hl 0 rfl) ?_
        refine lv_sipush (v := 184) hx hb d_Opcodes_operands_164 (by decide) ?_
        refine lv_icmp_gt (tgt := 174) hx hb d_Opcodes_operands_167 (by decide) (fun c23 => ?_) (fun c23 => ?_)
        · replace hm := hm.1 c23
          refine lv_iconst (v := 0) hx hb d_Opcodes_operands_174 (by decide) ?_
          exact rt_i hx hb hr hlocks hK hP hD hS d_Opcodes_operands_175 hm
        · replace hm := hm.2 c23
          exact B170  s20 hm H locs ls hP hD hS (lv_sub hl [] rfl)
  · replace hm := hm.2 c18
    refine lv_iconst (v := 1) hx hb d_Opcodes_operands_147 (by decide) ?_
    exact rt_i hx hb hr hlocks hK hP hD hS d_Opcodes_operands_148 hm
set_option maxHeartbeats 4000000 in
set_option maxRecDepth 100000 in
theorem c_Source_wordsFrom (l : Launch) (D : va_G) (ad : Nat → Nat) (ca : Nat → ClassId) (sz : Nat) (s : St) (a0 : Int32) (Post : Int32 → St → Prop) (hm : x_Source_wordsFrom s a0 Post) : CtI l y_Source_wordsFrom w_Source_wordsFrom { frames := 0, cells := 0, slots := 0, locals := 0 } D vwCl (tyX ca) (wX ad ca) sz [.int a0] s Post := by
  refine ct_i (cc := prog_5_method_11_code) (maxL := 1) (ret := (some .int)) (by decide) rfl (Nat.le_of_ble_eq_true rfl) ?_
  intro p e s0 m args below meth c A hx hb hr hts hown hlocks hml hK hA
  have hown : s0.vm.findClass R_Source = some m.cls := hown
  intro H locs ls hP hD hS hl
  have hl : lv_has ls 1 [(0, .int a0)] := hl
  unfold x_Source_wordsFrom at hm
  refine lv_iload_n hx hb d_Source_wordsFrom_0 rfl (lv_at hl 0 rfl) ?_
  refine lv_iconst (v := 4) hx hb d_Source_wordsFrom_1 (by decide) ?_
  refine lv_iadd hx hb d_Source_wordsFrom_2 ?_
  refine lv_bipush (v := -4) hx hb d_Source_wordsFrom_3 (by decide) ?_
  refine lv_iand hx hb d_Source_wordsFrom_5 ?_
  exact rt_i hx hb hr hlocks hK hP hD hS d_Source_wordsFrom_6 hm
set_option maxHeartbeats 4000000 in
set_option maxRecDepth 100000 in
theorem c_Source_s4 (l : Launch) (D : va_G) (ad : Nat → Nat) (ca : Nat → ClassId) (sz : Nat) (s : St) (a1 : Int32) (Post : Int32 → St → Prop) (hm : x_Source_s4 s a1 Post) : CtI l y_Source_s4 w_Source_s4 { frames := 1, cells := 0, slots := 0, locals := 21 } D vwCl (tyX ca) (wX ad ca) sz [.ref (ad 1), .int a1] s Post := by
  refine ct_i (cc := prog_5_method_7_code) (maxL := 2) (ret := (some .int)) (by decide) rfl (Nat.le_of_ble_eq_true rfl) ?_
  intro p e s0 m args below meth c A hx hb hr hts hown hlocks hml hK hA
  have hown : s0.vm.findClass R_Source = some m.cls := hown
  intro H locs ls hP hD hS hl
  have hl : lv_has ls 2 [(0, .ref (ad 1)), (1, .int a1)] := hl
  unfold x_Source_s4 at hm
  refine lv_aload_n hx hb d_Source_s4_0 rfl (lv_at hl 0 rfl) ?_
  refine lv_iload_n hx hb d_Source_s4_1 rfl (lv_at hl 1 rfl) ?_
  refine cg_Vi (b := (ad 1)) (As := [.int a1]) (rest := []) ⟨hx, hb, hml, hown, hts⟩ hK hP hD hS hA (c_Source_u1 l D ad ca H.size s a1 _ hm) (cwA 1 hts wd275 wd2 wd272 wd273 wd274 (by decide +kernel) ⟨Nat.le_of_ble_eq_true rfl, Nat.le_of_ble_eq_true rfl⟩) (va_recv hK hP (ci := 1) (q0 := 1) rfl rfl) rfl hl rfl (Nat.le_of_ble_eq_true rfl) d_Source_s4_2 (fun r1 s2 hm => ?_)
  intro H locs ls hP hD hS hl
  refine lv_bipush (v := 24) hx hb d_Source_s4_5 (by decide) ?_
  refine lv_ishl hx hb d_Source_s4_7 ?_
  refine lv_aload_n hx hb d_Source_s4_8 rfl (lv_at hl 0 rfl) ?_
  refine lv_iload_n hx hb d_Source_s4_9 rfl (lv_at hl 1 rfl) ?_
  refine lv_iconst (v := 1) hx hb d_Source_s4_10 (by decide) ?_
  refine lv_iadd hx hb d_Source_s4_11 ?_
  refine cg_Vi (b := (ad 1)) (As := [.int (a1 + (1 : Int32))]) (rest := [.int (r1 <<< ((24 : Int32) &&& 31))]) ⟨hx, hb, hml, hown, hts⟩ hK hP hD hS hA (c_Source_u1 l D ad ca H.size s2 (a1 + (1 : Int32)) _ hm) (cwA 1 hts wd275 wd2 wd272 wd273 wd274 (by decide +kernel) ⟨Nat.le_of_ble_eq_true rfl, Nat.le_of_ble_eq_true rfl⟩) (va_recv hK hP (ci := 1) (q0 := 1) rfl rfl) rfl hl rfl (Nat.le_of_ble_eq_true rfl) d_Source_s4_12 (fun r3 s4 hm => ?_)
  intro H locs ls hP hD hS hl
  refine lv_bipush (v := 16) hx hb d_Source_s4_15 (by decide) ?_
  refine lv_ishl hx hb d_Source_s4_17 ?_
  refine lv_ior hx hb d_Source_s4_18 ?_
  refine lv_aload_n hx hb d_Source_s4_19 rfl (lv_at hl 0 rfl) ?_
  refine lv_iload_n hx hb d_Source_s4_20 rfl (lv_at hl 1 rfl) ?_
  refine lv_iconst (v := 2) hx hb d_Source_s4_21 (by decide) ?_
  refine lv_iadd hx hb d_Source_s4_22 ?_
  refine cg_Vi (b := (ad 1)) (As := [.int (a1 + (2 : Int32))]) (rest := [.int ((r1 <<< ((24 : Int32) &&& 31)) ||| (r3 <<< ((16 : Int32) &&& 31)))]) ⟨hx, hb, hml, hown, hts⟩ hK hP hD hS hA (c_Source_u1 l D ad ca H.size s4 (a1 + (2 : Int32)) _ hm) (cwA 1 hts wd275 wd2 wd272 wd273 wd274 (by decide +kernel) ⟨Nat.le_of_ble_eq_true rfl, Nat.le_of_ble_eq_true rfl⟩) (va_recv hK hP (ci := 1) (q0 := 1) rfl rfl) rfl hl rfl (Nat.le_of_ble_eq_true rfl) d_Source_s4_23 (fun r5 s6 hm => ?_)
  intro H locs ls hP hD hS hl
  refine lv_bipush (v := 8) hx hb d_Source_s4_26 (by decide) ?_
  refine lv_ishl hx hb d_Source_s4_28 ?_
  refine lv_ior hx hb d_Source_s4_29 ?_
  refine lv_aload_n hx hb d_Source_s4_30 rfl (lv_at hl 0 rfl) ?_
  refine lv_iload_n hx hb d_Source_s4_31 rfl (lv_at hl 1 rfl) ?_
  refine lv_iconst (v := 3) hx hb d_Source_s4_32 (by decide) ?_
  refine lv_iadd hx hb d_Source_s4_33 ?_
  refine cg_Vi (b := (ad 1)) (As := [.int (a1 + (3 : Int32))]) (rest := [.int (((r1 <<< ((24 : Int32) &&& 31)) ||| (r3 <<< ((16 : Int32) &&& 31))) ||| (r5 <<< ((8 : Int32) &&& 31)))]) ⟨hx, hb, hml, hown, hts⟩ hK hP hD hS hA (c_Source_u1 l D ad ca H.size s6 (a1 + (3 : Int32)) _ hm) (cwA 1 hts wd275 wd2 wd272 wd273 wd274 (by decide +kernel) ⟨Nat.le_of_ble_eq_true rfl, Nat.le_of_ble_eq_true rfl⟩) (va_recv hK hP (ci := 1) (q0 := 1) rfl rfl) rfl hl rfl (Nat.le_of_ble_eq_true rfl) d_Source_s4_34 (fun r7 s8 hm => ?_)
  intro H locs ls hP hD hS hl
  refine lv_ior hx hb d_Source_s4_37 ?_
  exact rt_i hx hb hr hlocks hK hP hD hS d_Source_s4_38 hm
set_option maxHeartbeats 4000000 in
set_option maxRecDepth 100000 in
theorem c_Source_switchLength (l : Launch) (D : va_G) (ad : Nat → Nat) (ca : Nat → ClassId) (sz : Nat) (s : St) (a1 : Int32) (a2 : Int32) (Post : Int32 → St → Prop) (hm : x_Source_switchLength s a1 a2 Post) : CtI l y_Source_switchLength w_Source_switchLength { frames := 2, cells := 0, slots := 0, locals := 42 } D vwCl (tyX ca) (wX ad ca) sz [.ref (ad 1), .int a1, .int a2] s Post := by
  refine ct_i (cc := prog_5_method_10_code) (maxL := 8) (ret := (some .int)) (by decide) rfl (Nat.le_of_ble_eq_true rfl) ?_
  intro p e s0 m args below meth c A hx hb hr hts hown hlocks hml hK hA
  have hown : s0.vm.findClass R_Source = some m.cls := hown
  have B110 : ∀ (s : St) (x1 : Int32) (x3 : Int32) (y0 : Int32), x_Source_switchLength_110  Post s x1 x3 y0 → Bk D vwCl (wX ad ca) A p l e { frames := 2, cells := 0, slots := 0, locals := 42 } s0 m args below meth c (MQ below (va_Qi Post (atG D vwCl (tyX ca) (wX ad ca) A) A) args s0 0 0 A) 8 110 s [(1, .int x1), (3, .int x3)] [.int y0] := by
    intro  s x1 x3 y0 hm H locs ls hP hD hS hl
    unfold x_Source_switchLength_110 at hm
    refine lv_istore (lv' := [(7, .int y0), (1, .int x1), (3, .int x3)]) hx hb d_Source_switchLength_110 hl (by decide) rfl (fun ls hl => ?_)
    refine lv_iload_n hx hb d_Source_switchLength_112 rfl (lv_at hl 2 rfl) ?_
    refine lv_iload_n hx hb d_Source_switchLength_113 rfl (lv_at hl 1 rfl) ?_
    refine lv_isub hx hb d_Source_switchLength_114 ?_
    refine lv_iload hx hb d_Source_switchLength_115 (lv_at hl 0 rfl) ?_
    refine lv_iadd hx hb d_Source_switchLength_117 ?_
    exact rt_i hx hb hr hlocks hK hP hD hS d_Source_switchLength_118 hm
  have B69 : ∀ (s : St) (x1 : Int32) (x3 : Int32) (x4 : Int32) (x5 : Int64) (y0 : Int32) (y1 : Int64), x_Source_switchLength_69  Post s x1 x3 x4 x5 y0 y1 → Bk D vwCl (wX ad ca) A p l e { frames := 2, cells := 0, slots := 0, locals := 42 } s0 m args below meth c (MQ below (va_Qi Post (atG D vwCl (tyX ca) (wX ad ca) A) A) args s0 0 0 A) 8 69 s [(1, .int x1), (3, .int x3), (4, .int x4), (5, .long x5)] [.int y0, .long y1] := by
    intro  s x1 x3 x4 x5 y0 y1 hm H locs ls hP hD hS hl
    unfold x_Source_switchLength_69 at hm
    refine lv_i2l (v := (y0).toInt64) hx hb d_Source_switchLength_69 rfl ?_
    refine W.lcmp hx hb d_Source_switchLength_70 ?_
    refine lv_if_lt (tgt := 83) hx hb d_Source_switchLength_71 (by decide) (fun c12 => ?_) (fun c12 => ?_)
    · replace hm := hm.1 c12
      refine lv_iconst (v := 0) hx hb d_Source_switchLength_83 (by decide) ?_
      exact rt_i hx hb hr hlocks hK hP hD hS d_Source_switchLength_84 hm
    · replace hm := hm.2 c12
      refine lv_lload hx hb d_Source_switchLength_74 (lv_at hl 3 rfl) ?_
      refine lv_ldc2 (v := 20) hx hb hown (hts _ wd300) d_Source_switchLength_76 ?_
      refine W.lcmp hx hb d_Source_switchLength_79 ?_
      refine lv_if_le (tgt := 85) hx hb d_Source_switchLength_80 (by decide) (fun c13 => ?_) (fun c13 => ?_)
      · replace hm := hm.1 c13
        refine lv_iload hx hb d_Source_switchLength_85 (lv_at hl 2 rfl) ?_
        refine lv_if_eq (tgt := 101) hx hb d_Source_switchLength_87 (by decide) (fun c14 => ?_) (fun c14 => ?_)
        · replace hm := hm.1 c14
          refine lv_bipush (v := 8) hx hb d_Source_switchLength_101 (by decide) ?_
          refine lv_bipush (v := 8) hx hb d_Source_switchLength_103 (by decide) ?_
          refine lv_lload hx hb d_Source_switchLength_105 (lv_at hl 3 rfl) ?_
          refine lv_l2i (v := (x5).toInt32) hx hb d_Source_switchLength_107 rfl ?_
          refine lv_imul hx hb d_Source_switchLength_108 ?_
          refine lv_iadd hx hb d_Source_switchLength_109 ?_
          exact B110  s x1 x3 ((8 : Int32) + ((8 : Int32) * (x5).toInt32)) hm H locs ls hP hD hS (lv_sub hl [0, 1] rfl)
        · replace hm := hm.2 c14
          refine lv_bipush (v := 12) hx hb d_Source_switchLength_90 (by decide) ?_
          refine lv_iconst (v := 4) hx hb d_Source_switchLength_92 (by decide) ?_
          refine lv_lload hx hb d_Source_switchLength_93 (lv_at hl 3 rfl) ?_
          refine lv_l2i (v := (x5).toInt32) hx hb d_Source_switchLength_95 rfl ?_
          refine lv_imul hx hb d_Source_switchLength_96 ?_
          refine lv_iadd hx hb d_Source_switchLength_97 ?_
          refine lv_goto (tgt := 110) hx hb d_Source_switchLength_98 (by decide) ?_
          exact B110  s x1 x3 ((12 : Int32) + ((4 : Int32) * (x5).toInt32)) hm H locs ls hP hD hS (lv_sub hl [0, 1] rfl)
      · replace hm := hm.2 c13
        refine lv_iconst (v := 0) hx hb d_Source_switchLength_83 (by decide) ?_
        exact rt_i hx hb hr hlocks hK hP hD hS d_Source_switchLength_84 hm
  have B55 : ∀ (s : St) (x1 : Int32) (x3 : Int32) (x4 : Int32) (y0 : Int64), x_Source_switchLength_55  Post s x1 x3 x4 y0 → Bk D vwCl (wX ad ca) A p l e { frames := 2, cells := 0, slots := 0, locals := 42 } s0 m args below meth c (MQ below (va_Qi Post (atG D vwCl (tyX ca) (wX ad ca) A) A) args s0 0 0 A) 8 55 s [(1, .int x1), (3, .int x3), (4, .int x4)] [.long y0] := by
    intro  s x1 x3 x4 y0 hm H locs ls hP hD hS hl
    unfold x_Source_switchLength_55 at hm
    refine lv_lstore (lv' := [(5, .long y0), (1, .int x1), (3, .int x3), (4, .int x4)]) hx hb d_Source_switchLength_55 hl (by decide) rfl (fun ls hl => ?_)
    refine lv_lload hx hb d_Source_switchLength_57 (lv_at hl 0 rfl) ?_
    refine lv_iload hx hb d_Source_switchLength_59 (lv_at hl 3 rfl) ?_
    refine lv_if_eq (tgt := 68) hx hb d_Source_switchLength_61 (by decide) (fun c11 => ?_) (fun c11 => ?_)
    · replace hm := hm.1 c11
      refine lv_iconst (v := 0) hx hb d_Source_switchLength_68 (by decide) ?_
      exact B69  s x1 x3 x4 y0 (0 : Int32) y0 hm H locs ls hP hD hS (lv_sub hl [1, 2, 3, 0] rfl)
    · replace hm := hm.2 c11
      refine lv_iconst (v := 1) hx hb d_Source_switchLength_64 (by decide) ?_
      refine lv_goto (tgt := 69) hx hb d_Source_switchLength_65 (by decide) ?_
      exact B69  s x1 x3 x4 y0 (1 : Int32) y0 hm H locs ls hP hD hS (lv_sub hl [1, 2, 3, 0] rfl)
  have B17 : ∀ (s : St) (x1 : Int32) (x3 : Int32) (y0 : Int32), x_Source_switchLength_17  Post s x1 x3 y0 → Bk D vwCl (wX ad ca) A p l e { frames := 2, cells := 0, slots := 0, locals := 42 } s0 m args below meth c (MQ below (va_Qi Post (atG D vwCl (tyX ca) (wX ad ca) A) A) args s0 0 0 A) 8 17 s [(0, .ref (ad 1)), (1, .int x1), (3, .int x3)] [.int y0] := by
    intro  s x1 x3 y0 hm H locs ls hP hD hS hl
    unfold x_Source_switchLength_17 at hm
    refine lv_istore (lv' := [(4, .int y0), (0, .ref (ad 1)), (1, .int x1), (3, .int x3)]) hx hb d_Source_switchLength_17 hl (by decide) rfl (fun ls hl => ?_)
    refine lv_iload hx hb d_Source_switchLength_19 (lv_at hl 0 rfl) ?_
    refine lv_if_eq (tgt := 47) hx hb d_Source_switchLength_21 (by decide) (fun c4 => ?_) (fun c4 => ?_)
    · replace hm := hm.1 c4
      refine lv_aload_n hx hb d_Source_switchLength_47 rfl (lv_at hl 1 rfl) ?_
      refine lv_iload_n hx hb d_Source_switchLength_48 rfl (lv_at hl 3 rfl) ?_
      refine lv_iconst (v := 4) hx hb d_Source_switchLength_49 (by decide) ?_
      refine lv_iadd hx hb d_Source_switchLength_50 ?_
      refine cg_Vi (b := (ad 1)) (As := [.int (x3 + (4 : Int32))]) (rest := []) ⟨hx, hb, hml, hown, hts⟩ hK hP hD hS hA (c_Source_s4 l D ad ca H.size s (x3 + (4 : Int32)) _ hm) (cwA 1 hts wd299 wd2 wd296 wd297 wd298 (by decide +kernel) ⟨Nat.le_of_ble_eq_true rfl, Nat.le_of_ble_eq_true rfl⟩) (va_recv hK hP (ci := 1) (q0 := 1) rfl rfl) rfl hl rfl (Nat.le_of_ble_eq_true rfl) d_Source_switchLength_51 (fun r5 s6 hm => ?_)
      intro H locs ls hP hD hS hl
      refine lv_i2l (v := (r5).toInt64) hx hb d_Source_switchLength_54 rfl ?_
      exact B55  s6 x1 x3 y0 (r5).toInt64 hm H locs ls hP hD hS (lv_sub hl [2, 3, 0] rfl)
    · replace hm := hm.2 c4
      refine lv_aload_n hx hb d_Source_switchLength_24 rfl (lv_at hl 1 rfl) ?_
      refine lv_iload_n hx hb d_Source_switchLength_25 rfl (lv_at hl 3 rfl) ?_
      refine lv_bipush (v := 8) hx hb d_Source_switchLength_26 (by decide) ?_
      refine lv_iadd hx hb d_Source_switchLength_28 ?_
      refine cg_Vi (b := (ad 1)) (As := [.int (x3 + (8 : Int32))]) (rest := []) ⟨hx, hb, hml, hown, hts⟩ hK hP hD hS hA (c_Source_s4 l D ad ca H.size s (x3 + (8 : Int32)) _ hm) (cwA 1 hts wd299 wd2 wd296 wd297 wd298 (by decide +kernel) ⟨Nat.le_of_ble_eq_true rfl, Nat.le_of_ble_eq_true rfl⟩) (va_recv hK hP (ci := 1) (q0 := 1) rfl rfl) rfl hl rfl (Nat.le_of_ble_eq_true rfl) d_Source_switchLength_29 (fun r7 s8 hm => ?_)
      intro H locs ls hP hD hS hl
      refine lv_i2l (v := (r7).toInt64) hx hb d_Source_switchLength_32 rfl ?_
      refine lv_aload_n hx hb d_Source_switchLength_33 rfl (lv_at hl 1 rfl) ?_
      refine lv_iload_n hx hb d_Source_switchLength_34 rfl (lv_at hl 3 rfl) ?_
      refine lv_iconst (v := 4) hx hb d_Source_switchLength_35 (by decide) ?_
      refine lv_iadd hx hb d_Source_switchLength_36 ?_
      refine cg_Vi (b := (ad 1)) (As := [.int (x3 + (4 : Int32))]) (rest := [.long (r7).toInt64]) ⟨hx, hb, hml, hown, hts⟩ hK hP hD hS hA (c_Source_s4 l D ad ca H.size s8 (x3 + (4 : Int32)) _ hm) (cwA 1 hts wd299 wd2 wd296 wd297 wd298 (by decide +kernel) ⟨Nat.le_of_ble_eq_true rfl, Nat.le_of_ble_eq_true rfl⟩) (va_recv hK hP (ci := 1) (q0 := 1) rfl rfl) rfl hl rfl (Nat.le_of_ble_eq_true rfl) d_Source_switchLength_37 (fun r9 s10 hm => ?_)
      intro H locs ls hP hD hS hl
      refine lv_i2l (v := (r9).toInt64) hx hb d_Source_switchLength_40 rfl ?_
      refine lv_lsub hx hb d_Source_switchLength_41 ?_
      refine lv_lconst (v := 1) hx hb d_Source_switchLength_42 (by decide) ?_
      refine lv_ladd hx hb d_Source_switchLength_43 ?_
      refine lv_goto (tgt := 55) hx hb d_Source_switchLength_44 (by decide) ?_
      exact B55  s10 x1 x3 y0 (((r7).toInt64 - (r9).toInt64) + (1 : Int64)) hm H locs ls hP hD hS (lv_sub hl [2, 3, 0] rfl)
  intro H locs ls hP hD hS hl
  have hl : lv_has ls 8 [(0, .ref (ad 1)), (1, .int a1), (2, .int a2)] := hl
  unfold x_Source_switchLength at hm
  refine lv_iload_n hx hb d_Source_switchLength_0 rfl (lv_at hl 1 rfl) ?_
  refine cg_Si (As := [.int a1]) (rest := []) ⟨hx, hb, hml, hown, hts⟩ hK hP hD hS hA (c_Source_wordsFrom l D ad ca H.size s a1 _ hm) (cwB 1 hts wd295 wd2 wd293 wd294 (by decide +kernel) ⟨Nat.le_of_ble_eq_true rfl, Nat.le_of_ble_eq_true rfl⟩) rfl hl rfl (Nat.le_of_ble_eq_true rfl) d_Source_switchLength_1 (fun r1 s2 hm => ?_)
  intro H locs ls hP hD hS hl
  refine lv_istore_n (lv' := [(3, .int r1), (0, .ref (ad 1)), (1, .int a1), (2, .int a2)]) hx hb d_Source_switchLength_4 rfl hl (by decide) rfl (fun ls hl => ?_)
  refine lv_iload_n hx hb d_Source_switchLength_5 rfl (lv_at hl 3 rfl) ?_
  refine lv_sipush (v := 170) hx hb d_Source_switchLength_6 (by decide) ?_
  refine lv_icmp_ne (tgt := 16) hx hb d_Source_switchLength_9 (by decide) (fun c3 => ?_) (fun c3 => ?_)
  · replace hm := hm.1 c3
    refine lv_iconst (v := 0) hx hb d_Source_switchLength_16 (by decide) ?_
    exact B17  s2 a1 r1 (0 : Int32) hm H locs ls hP hD hS (lv_sub hl [1, 2, 0] rfl)
  · replace hm := hm.2 c3
    refine lv_iconst (v := 1) hx hb d_Source_switchLength_12 (by decide) ?_
    refine lv_goto (tgt := 17) hx hb d_Source_switchLength_13 (by decide) ?_
    exact B17  s2 a1 r1 (1 : Int32) hm H locs ls hP hD hS (lv_sub hl [1, 2, 0] rfl)
set_option maxHeartbeats 4000000 in
set_option maxRecDepth 100000 in
theorem c_Source_wideLength (l : Launch) (D : va_G) (ad : Nat → Nat) (ca : Nat → ClassId) (sz : Nat) (s : St) (a1 : Int32) (Post : Int32 → St → Prop) (hm : x_Source_wideLength s a1 Post) : CtI l y_Source_wideLength w_Source_wideLength { frames := 1, cells := 0, slots := 0, locals := 20 } D vwCl (tyX ca) (wX ad ca) sz [.ref (ad 1), .int a1] s Post := by
  refine ct_i (cc := prog_5_method_9_code) (maxL := 2) (ret := (some .int)) (by decide) rfl (Nat.le_of_ble_eq_true rfl) ?_
  intro p e s0 m args below meth c A hx hb hr hts hown hlocks hml hK hA
  have hown : s0.vm.findClass R_Source = some m.cls := hown
  intro H locs ls hP hD hS hl
  have hl : lv_has ls 2 [(0, .ref (ad 1)), (1, .int a1)] := hl
  unfold x_Source_wideLength at hm
  refine lv_iload_n hx hb d_Source_wideLength_0 rfl (lv_at hl 1 rfl) ?_
  refine lv_sipush (v := 132) hx hb d_Source_wideLength_1 (by decide) ?_
  refine lv_icmp_ne (tgt := 10) hx hb d_Source_wideLength_4 (by decide) (fun c1 => ?_) (fun c1 => ?_)
  · replace hm := hm.1 c1
    refine lv_iload_n hx hb d_Source_wideLength_10 rfl (lv_at hl 1 rfl) ?_
    refine cg_Si (As := [.int a1]) (rest := []) ⟨hx, hb, hml, hown, hts⟩ hK hP hD hS hA (c_Opcodes_isLocal l D ad ca H.size s a1 _ hm) (cwB 1 hts wd285 wd8 wd283 wd284 (by decide +kernel) ⟨Nat.le_of_ble_eq_true rfl, Nat.le_of_ble_eq_true rfl⟩) rfl hl rfl (Nat.le_of_ble_eq_true rfl) d_Source_wideLength_11 (fun r2 s3 hm => ?_)
    intro H locs ls hP hD hS hl
    refine lv_if_eq (tgt := 21) hx hb d_Source_wideLength_14 (by decide) (fun c4 => ?_) (fun c4 => ?_)
    · replace hm := hm.1 c4
      refine lv_iconst (v := 0) hx hb d_Source_wideLength_21 (by decide) ?_
      exact rt_i hx hb hr hlocks hK hP hD hS d_Source_wideLength_22 hm
    · replace hm := hm.2 c4
      refine lv_iconst (v := 4) hx hb d_Source_wideLength_17 (by decide) ?_
      refine lv_goto (tgt := 22) hx hb d_Source_wideLength_18 (by decide) ?_
      exact rt_i hx hb hr hlocks hK hP hD hS d_Source_wideLength_22 hm
  · replace hm := hm.2 c1
    refine lv_bipush (v := 6) hx hb d_Source_wideLength_7 (by decide) ?_
    exact rt_i hx hb hr hlocks hK hP hD hS d_Source_wideLength_9 hm
set_option maxHeartbeats 4000000 in
set_option maxRecDepth 100000 in
theorem c_Source_lengthAt (l : Launch) (D : va_G) (ad : Nat → Nat) (ca : Nat → ClassId) (sz : Nat) (s : St) (a1 : Int32) (Post : Int32 → St → Prop) (hm : x_Source_lengthAt s a1 Post) : CtI l y_Source_lengthAt w_Source_lengthAt { frames := 3, cells := 0, slots := 0, locals := 69 } D vwCl (tyX ca) (wX ad ca) sz [.ref (ad 1), .int a1] s Post := by
  refine ct_i (cc := prog_5_method_8_code) (maxL := 4) (ret := (some .int)) (by decide) rfl (Nat.le_of_ble_eq_true rfl) ?_
  intro p e s0 m args below meth c A hx hb hr hts hown hlocks hml hK hA
  have hown : s0.vm.findClass R_Source = some m.cls := hown
  have B64 : ∀ (s : St) (x1 : Int32) (x3 : Int32), x_Source_lengthAt_64  Post s x1 x3 → Bk D vwCl (wX ad ca) A p l e { frames := 3, cells := 0, slots := 0, locals := 69 } s0 m args below meth c (MQ below (va_Qi Post (atG D vwCl (tyX ca) (wX ad ca) A) A) args s0 0 0 A) 4 64 s [(0, .ref (ad 1)), (1, .int x1), (3, .int x3)] [] := by
    intro  s x1 x3 hm H locs ls hP hD hS hl
    unfold x_Source_lengthAt_64 at hm
    refine lv_iload_n hx hb d_Source_lengthAt_64 rfl (lv_at hl 1 rfl) ?_
    refine lv_iload_n hx hb d_Source_lengthAt_65 rfl (lv_at hl 2 rfl) ?_
    refine lv_iadd hx hb d_Source_lengthAt_66 ?_
    refine lv_aload_n hx hb d_Source_lengthAt_67 rfl (lv_at hl 0 rfl) ?_
    refine va_get (D := D) (ci := 1) (v := .int (s 15 1)) (C := R_Source) (T := T_Source) (N := 4) hx hb hts in_Source hown hK hP 1 rfl rfl 2 (by decide) (hts _ wd26) (fun _ h9 => h9) rfl d_Source_lengthAt_68 ?_
    refine lv_icmp_gt (tgt := 78) hx hb d_Source_lengthAt_71 (by decide) (fun c19 => ?_) (fun c19 => ?_)
    · replace hm := hm.1 c19
      refine lv_iconst (v := 0) hx hb d_Source_lengthAt_78 (by decide) ?_
      exact rt_i hx hb hr hlocks hK hP hD hS d_Source_lengthAt_79 hm
    · replace hm := hm.2 c19
      refine lv_iload_n hx hb d_Source_lengthAt_74 rfl (lv_at hl 2 rfl) ?_
      refine lv_goto (tgt := 79) hx hb d_Source_lengthAt_75 (by decide) ?_
      exact rt_i hx hb hr hlocks hK hP hD hS d_Source_lengthAt_79 hm
  intro H locs ls hP hD hS hl
  have hl : lv_has ls 4 [(0, .ref (ad 1)), (1, .int a1)] := hl
  unfold x_Source_lengthAt at hm
  refine lv_aload_n hx hb d_Source_lengthAt_0 rfl (lv_at hl 0 rfl) ?_
  refine lv_iload_n hx hb d_Source_lengthAt_1 rfl (lv_at hl 1 rfl) ?_
  refine cg_Vi (b := (ad 1)) (As := [.int a1]) (rest := []) ⟨hx, hb, hml, hown, hts⟩ hK hP hD hS hA (c_Source_u1 l D ad ca H.size s a1 _ hm) (cwA 1 hts wd275 wd2 wd272 wd273 wd274 (by decide +kernel) ⟨Nat.le_of_ble_eq_true rfl, Nat.le_of_ble_eq_true rfl⟩) (va_recv hK hP (ci := 1) (q0 := 1) rfl rfl) rfl hl rfl (Nat.le_of_ble_eq_true rfl) d_Source_lengthAt_2 (fun r1 s2 hm => ?_)
  intro H locs ls hP hD hS hl
  refine lv_istore_n (lv' := [(2, .int r1), (0, .ref (ad 1)), (1, .int a1)]) hx hb d_Source_lengthAt_5 rfl hl (by decide) rfl (fun ls hl => ?_)
  refine lv_iload_n hx hb d_Source_lengthAt_6 rfl (lv_at hl 0 rfl) ?_
  refine cg_Si (As := [.int r1]) (rest := []) ⟨hx, hb, hml, hown, hts⟩ hK hP hD hS hA (c_Opcodes_exists l D ad ca H.size s2 r1 _ hm) (cwB 1 hts wd278 wd8 wd276 wd277 (by decide +kernel) ⟨Nat.le_of_ble_eq_true rfl, Nat.le_of_ble_eq_true rfl⟩) rfl hl rfl (Nat.le_of_ble_eq_true rfl) d_Source_lengthAt_7 (fun r3 s4 hm => ?_)
  intro H locs ls hP hD hS hl
  refine lv_if_ne (tgt := 18) hx hb d_Source_lengthAt_10 (by decide) (fun c5 => ?_) (fun c5 => ?_)
  · replace hm := hm.1 c5
    refine lv_iload_n hx hb d_Source_lengthAt_18 rfl (lv_at hl 0 rfl) ?_
    refine lv_sipush (v := 196) hx hb d_Source_lengthAt_19 (by decide) ?_
    refine lv_icmp_ne (tgt := 40) hx hb d_Source_lengthAt_22 (by decide) (fun c6 => ?_) (fun c6 => ?_)
    · replace hm := hm.1 c6
      refine lv_iload_n hx hb d_Source_lengthAt_40 rfl (lv_at hl 0 rfl) ?_
      refine cg_Si (As := [.int r1]) (rest := []) ⟨hx, hb, hml, hown, hts⟩ hK hP hD hS hA (c_Opcodes_isSwitch l D ad ca H.size s4 r1 _ hm) (cwB 1 hts wd288 wd8 wd286 wd287 (by decide +kernel) ⟨Nat.le_of_ble_eq_true rfl, Nat.le_of_ble_eq_true rfl⟩) rfl hl rfl (Nat.le_of_ble_eq_true rfl) d_Source_lengthAt_41 (fun r7 s8 hm => ?_)
      intro H locs ls hP hD hS hl
      refine lv_if_eq (tgt := 57) hx hb d_Source_lengthAt_44 (by decide) (fun c9 => ?_) (fun c9 => ?_)
      · replace hm := hm.1 c9
        refine lv_iconst (v := 1) hx hb d_Source_lengthAt_57 (by decide) ?_
        refine lv_iload_n hx hb d_Source_lengthAt_58 rfl (lv_at hl 0 rfl) ?_
        refine cg_Si (As := [.int r1]) (rest := [.int (1 : Int32)]) ⟨hx, hb, hml, hown, hts⟩ hK hP hD hS hA (c_Opcodes_operands l D ad ca H.size s8 r1 _ hm) (cwB 1 hts wd303 wd8 wd301 wd302 (by decide +kernel) ⟨Nat.le_of_ble_eq_true rfl, Nat.le_of_ble_eq_true rfl⟩) rfl hl rfl (Nat.le_of_ble_eq_true rfl) d_Source_lengthAt_59 (fun r10 s11 hm => ?_)
        intro H locs ls hP hD hS hl
        refine lv_iadd hx hb d_Source_lengthAt_62 ?_
        refine lv_topi (fun v12 ev12 => ?_)
        replace hm := hm v12 ev12
        refine lv_istore_n (lv' := [(3, .int v12), (2, .int r1), (0, .ref (ad 1)), (1, .int a1)]) hx hb d_Source_lengthAt_63 rfl hl (by decide) rfl (fun ls hl => ?_)
        exact B64  s11 a1 v12 hm H locs ls hP hD hS (lv_sub hl [2, 3, 0] rfl)
      · replace hm := hm.2 c9
        refine lv_aload_n hx hb d_Source_lengthAt_47 rfl (lv_at hl 1 rfl) ?_
        refine lv_iload_n hx hb d_Source_lengthAt_48 rfl (lv_at hl 2 rfl) ?_
        refine lv_iload_n hx hb d_Source_lengthAt_49 rfl (lv_at hl 0 rfl) ?_
        refine cg_Vi (b := (ad 1)) (As := [.int a1, .int r1]) (rest := []) ⟨hx, hb, hml, hown, hts⟩ hK hP hD hS hA (c_Source_switchLength l D ad ca H.size s8 a1 r1 _ hm) (cwA 2 hts wd292 wd2 wd289 wd291 ws3 (by decide +kernel) ⟨Nat.le_of_ble_eq_true rfl, Nat.le_of_ble_eq_true rfl⟩) (va_recv hK hP (ci := 1) (q0 := 1) rfl rfl) rfl hl rfl (Nat.le_of_ble_eq_true rfl) d_Source_lengthAt_50 (fun r13 s14 hm => ?_)
        intro H locs ls hP hD hS hl
        refine lv_istore_n (lv' := [(3, .int r13), (2, .int r1), (0, .ref (ad 1)), (1, .int a1)]) hx hb d_Source_lengthAt_53 rfl hl (by decide) rfl (fun ls hl => ?_)
        refine lv_goto (tgt := 64) hx hb d_Source_lengthAt_54 (by decide) ?_
        exact B64  s14 a1 r13 hm H locs ls hP hD hS (lv_sub hl [2, 3, 0] rfl)
    · replace hm := hm.2 c6
      refine lv_aload_n hx hb d_Source_lengthAt_25 rfl (lv_at hl 1 rfl) ?_
      refine lv_aload_n hx hb d_Source_lengthAt_26 rfl (lv_at hl 1 rfl) ?_
      refine lv_iload_n hx hb d_Source_lengthAt_27 rfl (lv_at hl 2 rfl) ?_
      refine lv_iconst (v := 1) hx hb d_Source_lengthAt_28 (by decide) ?_
      refine lv_iadd hx hb d_Source_lengthAt_29 ?_
      refine cg_Vi (b := (ad 1)) (As := [.int (a1 + (1 : Int32))]) (rest := [.ref (ad 1)]) ⟨hx, hb, hml, hown, hts⟩ hK hP hD hS hA (c_Source_u1 l D ad ca H.size s4 (a1 + (1 : Int32)) _ hm) (cwA 1 hts wd275 wd2 wd272 wd273 wd274 (by decide +kernel) ⟨Nat.le_of_ble_eq_true rfl, Nat.le_of_ble_eq_true rfl⟩) (va_recv hK hP (ci := 1) (q0 := 1) rfl rfl) rfl hl rfl (Nat.le_of_ble_eq_true rfl) d_Source_lengthAt_30 (fun r15 s16 hm => ?_)
      intro H locs ls hP hD hS hl
      refine cg_Vi (b := (ad 1)) (As := [.int r15]) (rest := []) ⟨hx, hb, hml, hown, hts⟩ hK hP hD hS hA (c_Source_wideLength l D ad ca H.size s16 r15 _ hm) (cwA 1 hts wd282 wd2 wd279 wd281 ws2 (by decide +kernel) ⟨Nat.le_of_ble_eq_true rfl, Nat.le_of_ble_eq_true rfl⟩) (va_recv hK hP (ci := 1) (q0 := 1) rfl rfl) rfl hl rfl (Nat.le_of_ble_eq_true rfl) d_Source_lengthAt_33 (fun r17 s18 hm => ?_)
      intro H locs ls hP hD hS hl
      refine lv_istore_n (lv' := [(3, .int r17), (2, .int r1), (0, .ref (ad 1)), (1, .int a1)]) hx hb d_Source_lengthAt_36 rfl hl (by decide) rfl (fun ls hl => ?_)
      refine lv_goto (tgt := 64) hx hb d_Source_lengthAt_37 (by decide) ?_
      exact B64  s18 a1 r17 hm H locs ls hP hD hS (lv_sub hl [2, 3, 0] rfl)
  · replace hm := hm.2 c5
    refine lv_iconst (v := 0) hx hb d_Source_lengthAt_13 (by decide) ?_
    refine lv_istore_n (lv' := [(3, .int (0 : Int32)), (2, .int r1), (0, .ref (ad 1)), (1, .int a1)]) hx hb d_Source_lengthAt_14 rfl hl (by decide) rfl (fun ls hl => ?_)
    refine lv_goto (tgt := 64) hx hb d_Source_lengthAt_15 (by decide) ?_
    exact B64  s4 a1 (0 : Int32) hm H locs ls hP hD hS (lv_sub hl [2, 3, 0] rfl)
