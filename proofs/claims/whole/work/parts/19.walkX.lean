set_option maxHeartbeats 4000000 in
set_option maxRecDepth 100000 in
theorem c_Desk_rewrite (l : Launch) (D : va_G) (ad : Nat → Nat) (ca : Nat → ClassId) (sz : Nat) (s : St) (Post : Int32 → St → Prop) (hm : x_Desk_rewrite s  Post) : CtI l y_Desk_rewrite w_Desk_rewrite { frames := 6, cells := 0, slots := 0, locals := 136 } D vwCl (tyX ca) (wX ad ca) sz [.ref (ad 0)] s Post := by
  refine ct_i (cc := prog_1_method_9_code) (maxL := 2) (ret := (some .int)) (by decide) rfl (Nat.le_of_ble_eq_true rfl) ?_
  intro p e s0 m args below meth c A hx hb hr hts hown hlocks hml hK hA
  have hown : s0.vm.findClass R_Desk = some m.cls := hown
  intro H locs ls hP hD hS hl
  have hl : lv_has ls 2 [(0, .ref (ad 0))] := hl
  unfold x_Desk_rewrite at hm
  refine lv_aload_n hx hb d_Desk_rewrite_0 rfl (lv_at hl 0 rfl) ?_
  refine va_get (D := D) (ci := 0) (v := .ref (ad 17)) (C := R_Desk) (T := T_Desk) (N := 5) hx hb hts in_Desk hown hK hP 0 rfl rfl 3 (by decide) (hts _ wd191) (fun _ h9 => h9) rfl d_Desk_rewrite_1 ?_
  refine cg_Vv (b := (ad 17)) (As := []) (rest := []) ⟨hx, hb, hml, hown, hts⟩ hK hP hD hS hA (c_Output_forget l D ad ca H.size s _ hm) (cwA 0 hts wd254 wd6 wd251 wd252 wd253 (by decide +kernel) ⟨Nat.le_of_ble_eq_true rfl, Nat.le_of_ble_eq_true rfl⟩) (va_recv hK hP (ci := 4) (q0 := 17) rfl rfl) rfl hl rfl (Nat.le_of_ble_eq_true rfl) d_Desk_rewrite_4 (fun s2 hm => ?_)
  intro H locs ls hP hD hS hl
  refine lv_aload_n hx hb d_Desk_rewrite_7 rfl (lv_at hl 0 rfl) ?_
  refine va_get (D := D) (ci := 0) (v := .ref (ad 7)) (C := R_Desk) (T := T_Desk) (N := 5) hx hb hts in_Desk hown hK hP 0 rfl rfl 2 (by decide) (hts _ wd190) (fun _ h9 => h9) rfl d_Desk_rewrite_8 ?_
  refine cg_Vi (b := (ad 7)) (As := []) (rest := []) ⟨hx, hb, hml, hown, hts⟩ hK hP hD hS hA (c_Layout_make l D ad ca H.size s2 _ hm) (cwA 0 hts wd258 wd5 wd255 wd256 wd257 (by decide +kernel) ⟨Nat.le_of_ble_eq_true rfl, Nat.le_of_ble_eq_true rfl⟩) (va_recv hK hP (ci := 3) (q0 := 7) rfl rfl) rfl hl rfl (Nat.le_of_ble_eq_true rfl) d_Desk_rewrite_11 (fun r3 s4 hm => ?_)
  intro H locs ls hP hD hS hl
  refine lv_istore_n (lv' := [(1, .int r3), (0, .ref (ad 0))]) hx hb d_Desk_rewrite_14 rfl hl (by decide) rfl (fun ls hl => ?_)
  refine lv_iload_n hx hb d_Desk_rewrite_15 rfl (lv_at hl 0 rfl) ?_
  refine lv_if_ne (tgt := 36) hx hb d_Desk_rewrite_16 (by decide) (fun c5 => ?_) (fun c5 => ?_)
  · replace hm := hm.1 c5
    refine lv_iload_n hx hb d_Desk_rewrite_36 rfl (lv_at hl 0 rfl) ?_
    exact rt_i hx hb hr hlocks hK hP hD hS d_Desk_rewrite_37 hm
  · replace hm := hm.2 c5
    refine lv_aload_n hx hb d_Desk_rewrite_19 rfl (lv_at hl 1 rfl) ?_
    refine va_get (D := D) (ci := 0) (v := .ref (ad 17)) (C := R_Desk) (T := T_Desk) (N := 5) hx hb hts in_Desk hown hK hP 0 rfl rfl 3 (by decide) (hts _ wd191) (fun _ h9 => h9) rfl d_Desk_rewrite_20 ?_
    refine cg_Vv (b := (ad 17)) (As := []) (rest := []) ⟨hx, hb, hml, hown, hts⟩ hK hP hD hS hA (c_Output_write l D ad ca H.size s4 _ hm) (cwA 0 hts wd400 wd6 wd397 wd398 wd399 (by decide +kernel) ⟨Nat.le_of_ble_eq_true rfl, Nat.le_of_ble_eq_true rfl⟩) (va_recv hK hP (ci := 4) (q0 := 17) rfl rfl) rfl hl rfl (Nat.le_of_ble_eq_true rfl) d_Desk_rewrite_23 (fun s7 hm => ?_)
    intro H locs ls hP hD hS hl
    refine lv_aload_n hx hb d_Desk_rewrite_26 rfl (lv_at hl 1 rfl) ?_
    refine lv_dup hx hb d_Desk_rewrite_27 rfl ?_
    refine va_get (D := D) (ci := 0) (v := .int (s7 15 0)) (C := R_Desk) (T := T_Desk) (N := 5) hx hb hts in_Desk hown hK hP 0 rfl rfl 4 (by decide) (hts _ wd192) (fun _ h9 => h9) rfl d_Desk_rewrite_28 ?_
    refine lv_iconst (v := 1) hx hb d_Desk_rewrite_31 (by decide) ?_
    refine lv_iadd hx hb d_Desk_rewrite_32 ?_
    refine va_put (D := D) (ci := 0) (v := .int ((s7 15 0) + (1 : Int32))) (ty := .int) (C := R_Desk) (T := T_Desk) (N := 5) hx hb hts in_Desk t_Desk to_Desk no_Desk hown hK hP hD hS 0 rfl rfl 4 (by decide) (hts _ wd192) (fun _ h9 => h9) rfl (by decide +kernel) rfl rfl (Nat.le_of_ble_eq_true rfl) d_Desk_rewrite_33 (fun H locs hP hD hS => ?_)
    have hP : va_P D vwCl (wX ad ca (su s7 15 0 ((s7 15 0) + (1 : Int32)))) H := hP
    have hD : va_D A (wX ad ca (su s7 15 0 ((s7 15 0) + (1 : Int32)))) := hD
    obtain ⟨s8, es8⟩ : ∃ z : St, z = su s7 15 0 ((s7 15 0) + (1 : Int32)) := ⟨_, rfl⟩
    rw [← es8] at hP hD
    replace hm := hm s8 es8
    refine lv_iload_n hx hb d_Desk_rewrite_36 rfl (lv_at hl 0 rfl) ?_
    exact rt_i hx hb hr hlocks hK hP hD hS d_Desk_rewrite_37 hm
set_option maxHeartbeats 4000000 in
set_option maxRecDepth 100000 in
theorem c_Desk_octet (l : Launch) (D : va_G) (ad : Nat → Nat) (ca : Nat → ClassId) (sz : Nat) (s : St) (a1 : Int32) (Post : Int32 → St → Prop) (hm : x_Desk_octet s a1 Post) : CtI l y_Desk_octet w_Desk_octet { frames := 0, cells := 0, slots := 0, locals := 0 } D vwCl (tyX ca) (wX ad ca) sz [.ref (ad 0), .int a1] s Post := by
  refine ct_i (cc := prog_1_method_10_code) (maxL := 2) (ret := (some .int)) (by decide) rfl (Nat.le_of_ble_eq_true rfl) ?_
  intro p e s0 m args below meth c A hx hb hr hts hown hlocks hml hK hA
  have hown : s0.vm.findClass R_Desk = some m.cls := hown
  intro H locs ls hP hD hS hl
  have hl : lv_has ls 2 [(0, .ref (ad 0)), (1, .int a1)] := hl
  unfold x_Desk_octet at hm
  refine lv_iload_n hx hb d_Desk_octet_0 rfl (lv_at hl 1 rfl) ?_
  refine lv_if_lt (tgt := 27) hx hb d_Desk_octet_1 (by decide) (fun c1 => ?_) (fun c1 => ?_)
  · replace hm := hm.1 c1
    refine lv_iconst (v := -1) hx hb d_Desk_octet_27 (by decide) ?_
    exact rt_i hx hb hr hlocks hK hP hD hS d_Desk_octet_28 hm
  · replace hm := hm.2 c1
    refine lv_iload_n hx hb d_Desk_octet_4 rfl (lv_at hl 1 rfl) ?_
    refine lv_aload_n hx hb d_Desk_octet_5 rfl (lv_at hl 0 rfl) ?_
    refine va_get (D := D) (ci := 0) (v := .ref (ad 17)) (C := R_Desk) (T := T_Desk) (N := 5) hx hb hts in_Desk hown hK hP 0 rfl rfl 3 (by decide) (hts _ wd191) (fun _ h9 => h9) rfl d_Desk_octet_6 ?_
    refine va_get (D := D) (ci := 4) (v := .int (s 15 10)) (C := R_Output) (T := T_Output) (N := 9) hx hb hts in_Output hown hK hP 17 rfl rfl 5 (by decide) (hts _ wd162) (fun _ h9 => h9) rfl d_Desk_octet_9 ?_
    refine lv_icmp_ge (tgt := 27) hx hb d_Desk_octet_12 (by decide) (fun c2 => ?_) (fun c2 => ?_)
    · replace hm := hm.1 c2
      refine lv_iconst (v := -1) hx hb d_Desk_octet_27 (by decide) ?_
      exact rt_i hx hb hr hlocks hK hP hD hS d_Desk_octet_28 hm
    · replace hm := hm.2 c2
      refine lv_aload_n hx hb d_Desk_octet_15 rfl (lv_at hl 0 rfl) ?_
      refine va_get (D := D) (ci := 0) (v := .ref (ad 17)) (C := R_Desk) (T := T_Desk) (N := 5) hx hb hts in_Desk hown hK hP 0 rfl rfl 3 (by decide) (hts _ wd191) (fun _ h9 => h9) rfl d_Desk_octet_16 ?_
      refine va_get (D := D) (ci := 4) (v := .ref (ad 18)) (C := R_Output) (T := T_Output) (N := 9) hx hb hts in_Output hown hK hP 17 rfl rfl 3 (by decide) (hts _ wd158) (fun _ h9 => h9) rfl d_Desk_octet_19 ?_
      refine lv_iload_n hx hb d_Desk_octet_22 rfl (lv_at hl 1 rfl) ?_
      obtain ⟨h3, hm⟩ := hm
      refine va_iald hx hb hK hP 18 13 rfl rfl h3 d_Desk_octet_23 ?_
      refine lv_goto (tgt := 28) hx hb d_Desk_octet_24 (by decide) ?_
      exact rt_i hx hb hr hlocks hK hP hD hS d_Desk_octet_28 hm
set_option maxHeartbeats 4000000 in
set_option maxRecDepth 100000 in
theorem c_Desk_moved (l : Launch) (D : va_G) (ad : Nat → Nat) (ca : Nat → ClassId) (sz : Nat) (s : St) (a1 : Int32) (a2 : Int32) (Post : Int32 → St → Prop) (hm : x_Desk_moved s a1 a2 Post) : CtI l y_Desk_moved w_Desk_moved { frames := 1, cells := 0, slots := 0, locals := 21 } D vwCl (tyX ca) (wX ad ca) sz [.ref (ad 0), .int a1, .int a2] s Post := by
  refine ct_i (cc := prog_1_method_11_code) (maxL := 3) (ret := (some .int)) (by decide) rfl (Nat.le_of_ble_eq_true rfl) ?_
  intro p e s0 m args below meth c A hx hb hr hts hown hlocks hml hK hA
  have hown : s0.vm.findClass R_Desk = some m.cls := hown
  intro H locs ls hP hD hS hl
  have hl : lv_has ls 3 [(0, .ref (ad 0)), (1, .int a1), (2, .int a2)] := hl
  unfold x_Desk_moved at hm
  refine lv_aload_n hx hb d_Desk_moved_0 rfl (lv_at hl 0 rfl) ?_
  refine va_get (D := D) (ci := 0) (v := .ref (ad 7)) (C := R_Desk) (T := T_Desk) (N := 5) hx hb hts in_Desk hown hK hP 0 rfl rfl 2 (by decide) (hts _ wd190) (fun _ h9 => h9) rfl d_Desk_moved_1 ?_
  refine lv_iload_n hx hb d_Desk_moved_4 rfl (lv_at hl 1 rfl) ?_
  refine cg_Vi (b := (ad 7)) (As := [.int a1]) (rest := []) ⟨hx, hb, hml, hown, hts⟩ hK hP hD hS hA (c_Layout_begins l D ad ca H.size s a1 _ hm) (cwA 1 hts wd337 wd5 wd468 wd335 wd336 (by decide +kernel) ⟨Nat.le_of_ble_eq_true rfl, Nat.le_of_ble_eq_true rfl⟩) (va_recv hK hP (ci := 3) (q0 := 7) rfl rfl) rfl hl rfl (Nat.le_of_ble_eq_true rfl) d_Desk_moved_5 (fun r1 s2 hm => ?_)
  intro H locs ls hP hD hS hl
  refine lv_if_ne (tgt := 13) hx hb d_Desk_moved_8 (by decide) (fun c3 => ?_) (fun c3 => ?_)
  · replace hm := hm.1 c3
    refine lv_iload_n hx hb d_Desk_moved_13 rfl (lv_at hl 2 rfl) ?_
    by_cases c4 : a2 = 0
    · replace hm := hm.1 c4
      refine lv_tableIn (off := 34) (tgt := 48) hx hb d_Desk_moved_14 (by rw [c4]; decide) (by rw [c4]; decide) (by rw [c4]; rfl) (by decide) ?_
      refine lv_aload_n hx hb d_Desk_moved_48 rfl (lv_at hl 0 rfl) ?_
      refine va_get (D := D) (ci := 0) (v := .ref (ad 7)) (C := R_Desk) (T := T_Desk) (N := 5) hx hb hts in_Desk hown hK hP 0 rfl rfl 2 (by decide) (hts _ wd190) (fun _ h9 => h9) rfl d_Desk_moved_49 ?_
      refine va_get (D := D) (ci := 3) (v := .ref (ad 14)) (C := R_Layout) (T := T_Layout) (N := 16) hx hb hts in_Layout hown hK hP 7 rfl rfl 8 (by decide) (hts _ wd97) (fun _ h9 => h9) rfl d_Desk_moved_52 ?_
      refine lv_iload_n hx hb d_Desk_moved_55 rfl (lv_at hl 1 rfl) ?_
      obtain ⟨h5, hm⟩ := hm
      refine va_iald hx hb hK hP 14 10 rfl rfl h5 d_Desk_moved_56 ?_
      exact rt_i hx hb hr hlocks hK hP hD hS d_Desk_moved_57 hm
    by_cases c6 : a2 = 1
    · replace hm := hm.2.1 c6
      refine lv_tableIn (off := 44) (tgt := 58) hx hb d_Desk_moved_14 (by rw [c6]; decide) (by rw [c6]; decide) (by rw [c6]; rfl) (by decide) ?_
      refine lv_aload_n hx hb d_Desk_moved_58 rfl (lv_at hl 0 rfl) ?_
      refine va_get (D := D) (ci := 0) (v := .ref (ad 7)) (C := R_Desk) (T := T_Desk) (N := 5) hx hb hts in_Desk hown hK hP 0 rfl rfl 2 (by decide) (hts _ wd190) (fun _ h9 => h9) rfl d_Desk_moved_59 ?_
      refine va_get (D := D) (ci := 3) (v := .ref (ad 15)) (C := R_Layout) (T := T_Layout) (N := 16) hx hb hts in_Layout hown hK hP 7 rfl rfl 9 (by decide) (hts _ wd100) (fun _ h9 => h9) rfl d_Desk_moved_62 ?_
      refine lv_iload_n hx hb d_Desk_moved_65 rfl (lv_at hl 1 rfl) ?_
      obtain ⟨h7, hm⟩ := hm
      refine va_iald hx hb hK hP 15 11 rfl rfl h7 d_Desk_moved_66 ?_
      exact rt_i hx hb hr hlocks hK hP hD hS d_Desk_moved_67 hm
    by_cases c8 : a2 = 2
    · replace hm := hm.2.2.1 c8
      refine lv_tableIn (off := 54) (tgt := 68) hx hb d_Desk_moved_14 (by rw [c8]; decide) (by rw [c8]; decide) (by rw [c8]; rfl) (by decide) ?_
      refine lv_aload_n hx hb d_Desk_moved_68 rfl (lv_at hl 0 rfl) ?_
      refine va_get (D := D) (ci := 0) (v := .ref (ad 7)) (C := R_Desk) (T := T_Desk) (N := 5) hx hb hts in_Desk hown hK hP 0 rfl rfl 2 (by decide) (hts _ wd190) (fun _ h9 => h9) rfl d_Desk_moved_69 ?_
      refine va_get (D := D) (ci := 3) (v := .ref (ad 13)) (C := R_Layout) (T := T_Layout) (N := 16) hx hb hts in_Layout hown hK hP 7 rfl rfl 7 (by decide) (hts _ wd94) (fun _ h9 => h9) rfl d_Desk_moved_72 ?_
      refine lv_iload_n hx hb d_Desk_moved_75 rfl (lv_at hl 1 rfl) ?_
      obtain ⟨h9, hm⟩ := hm
      refine va_iald hx hb hK hP 13 9 rfl rfl h9 d_Desk_moved_76 ?_
      refine lv_aload_n hx hb d_Desk_moved_77 rfl (lv_at hl 0 rfl) ?_
      refine va_get (D := D) (ci := 0) (v := .ref (ad 7)) (C := R_Desk) (T := T_Desk) (N := 5) hx hb hts in_Desk hown hK hP 0 rfl rfl 2 (by decide) (hts _ wd190) (fun _ h9 => h9) rfl d_Desk_moved_78 ?_
      refine va_get (D := D) (ci := 3) (v := .ref (ad 10)) (C := R_Layout) (T := T_Layout) (N := 16) hx hb hts in_Layout hown hK hP 7 rfl rfl 4 (by decide) (hts _ wd87) (fun _ h9 => h9) rfl d_Desk_moved_81 ?_
      refine lv_iload_n hx hb d_Desk_moved_84 rfl (lv_at hl 1 rfl) ?_
      obtain ⟨h10, hm⟩ := hm
      refine va_iald hx hb hK hP 10 6 rfl rfl h10 d_Desk_moved_85 ?_
      refine lv_iadd hx hb d_Desk_moved_86 ?_
      exact rt_i hx hb hr hlocks hK hP hD hS d_Desk_moved_87 hm
    by_cases c11 : a2 = 3
    · replace hm := hm.2.2.2.1 c11
      refine lv_tableIn (off := 74) (tgt := 88) hx hb d_Desk_moved_14 (by rw [c11]; decide) (by rw [c11]; decide) (by rw [c11]; rfl) (by decide) ?_
      refine lv_aload_n hx hb d_Desk_moved_88 rfl (lv_at hl 0 rfl) ?_
      refine va_get (D := D) (ci := 0) (v := .ref (ad 7)) (C := R_Desk) (T := T_Desk) (N := 5) hx hb hts in_Desk hown hK hP 0 rfl rfl 2 (by decide) (hts _ wd190) (fun _ h9 => h9) rfl d_Desk_moved_89 ?_
      refine va_get (D := D) (ci := 3) (v := .ref (ad 11)) (C := R_Layout) (T := T_Layout) (N := 16) hx hb hts in_Layout hown hK hP 7 rfl rfl 5 (by decide) (hts _ wd90) (fun _ h9 => h9) rfl d_Desk_moved_92 ?_
      refine lv_iload_n hx hb d_Desk_moved_95 rfl (lv_at hl 1 rfl) ?_
      obtain ⟨h12, hm⟩ := hm
      refine va_iald hx hb hK hP 11 7 rfl rfl h12 d_Desk_moved_96 ?_
      exact rt_i hx hb hr hlocks hK hP hD hS d_Desk_moved_97 hm
    by_cases c13 : a2 = 4
    · replace hm := hm.2.2.2.2.1 c13
      refine lv_tableIn (off := 84) (tgt := 98) hx hb d_Desk_moved_14 (by rw [c13]; decide) (by rw [c13]; decide) (by rw [c13]; rfl) (by decide) ?_
      refine lv_aload_n hx hb d_Desk_moved_98 rfl (lv_at hl 0 rfl) ?_
      refine va_get (D := D) (ci := 0) (v := .ref (ad 7)) (C := R_Desk) (T := T_Desk) (N := 5) hx hb hts in_Desk hown hK hP 0 rfl rfl 2 (by decide) (hts _ wd190) (fun _ h9 => h9) rfl d_Desk_moved_99 ?_
      refine va_get (D := D) (ci := 3) (v := .ref (ad 16)) (C := R_Layout) (T := T_Layout) (N := 16) hx hb hts in_Layout hown hK hP 7 rfl rfl 10 (by decide) (hts _ wd103) (fun _ h9 => h9) rfl d_Desk_moved_102 ?_
      refine lv_iload_n hx hb d_Desk_moved_105 rfl (lv_at hl 1 rfl) ?_
      obtain ⟨h14, hm⟩ := hm
      refine va_zald hx hb hK hP 16 12 rfl rfl h14 d_Desk_moved_106 ?_
      refine lv_if_eq (tgt := 114) hx hb d_Desk_moved_107 (by decide) (fun c15 => ?_) (fun c15 => ?_)
      · replace hm := hm.1 c15
        refine lv_iconst (v := 0) hx hb d_Desk_moved_114 (by decide) ?_
        exact rt_i hx hb hr hlocks hK hP hD hS d_Desk_moved_115 hm
      · replace hm := hm.2 c15
        refine lv_iconst (v := 1) hx hb d_Desk_moved_110 (by decide) ?_
        refine lv_goto (tgt := 115) hx hb d_Desk_moved_111 (by decide) ?_
        exact rt_i hx hb hr hlocks hK hP hD hS d_Desk_moved_115 hm
    replace hm := hm.2.2.2.2.2 c4 c6 c8 c11 c13
    refine lv_tableOut (tgt := 116) hx hb d_Desk_moved_14 (by have hc4 := lv_neT c4 (a := 0) rfl; have hc6 := lv_neT c6 (a := 1) rfl; have hc8 := lv_neT c8 (a := 2) rfl; have hc11 := lv_neT c11 (a := 3) rfl; have hc13 := lv_neT c13 (a := 4) rfl; omega) (by decide) ?_
    refine lv_iconst (v := -1) hx hb d_Desk_moved_116 (by decide) ?_
    exact rt_i hx hb hr hlocks hK hP hD hS d_Desk_moved_117 hm
  · replace hm := hm.2 c3
    refine lv_iconst (v := -1) hx hb d_Desk_moved_11 (by decide) ?_
    exact rt_i hx hb hr hlocks hK hP hD hS d_Desk_moved_12 hm
set_option maxHeartbeats 4000000 in
set_option maxRecDepth 100000 in
theorem c_Desk_back (l : Launch) (D : va_G) (ad : Nat → Nat) (ca : Nat → ClassId) (sz : Nat) (s : St) (a1 : Int32) (Post : Int32 → St → Prop) (hm : x_Desk_back s a1 Post) : CtI l y_Desk_back w_Desk_back { frames := 0, cells := 0, slots := 0, locals := 0 } D vwCl (tyX ca) (wX ad ca) sz [.ref (ad 0), .int a1] s Post := by
  refine ct_i (cc := prog_1_method_12_code) (maxL := 4) (ret := (some .int)) (by decide) rfl (Nat.le_of_ble_eq_true rfl) ?_
  intro p e s0 m args below meth c A hx hb hr hts hown hlocks hml hK hA
  have hown : s0.vm.findClass R_Desk = some m.cls := hown
  have B2 : ∀ (n : Nat) (s : St) (x1 : Int32) (x2 : Int32), x_Desk_back_2  Post n s x1 x2 → Bk D vwCl (wX ad ca) A p l e { frames := 0, cells := 0, slots := 0, locals := 0 } s0 m args below meth c (MQ below (va_Qi Post (atG D vwCl (tyX ca) (wX ad ca) A) A) args s0 0 0 A) 4 2 s [(0, .ref (ad 0)), (1, .int x1), (2, .int x2)] [] := by
    intro  n2
    induction n2 with
    | zero => intro s x1 x2 hm; exact hm.elim
    | succ n2 hK2 =>
      intro s x1 x2 hm H locs ls hP hD hS hl
      have hm : x_Desk_back_2F  Post (fun s x1 x2 => x_Desk_back_2  Post n2 s x1 x2) s x1 x2 := hm
      unfold x_Desk_back_2F at hm
      refine lv_iload_n hx hb d_Desk_back_2 rfl (lv_at hl 2 rfl) ?_
      refine lv_aload_n hx hb d_Desk_back_3 rfl (lv_at hl 0 rfl) ?_
      refine va_get (D := D) (ci := 0) (v := .ref (ad 7)) (C := R_Desk) (T := T_Desk) (N := 5) hx hb hts in_Desk hown hK hP 0 rfl rfl 2 (by decide) (hts _ wd190) (fun _ h9 => h9) rfl d_Desk_back_4 ?_
      refine va_get (D := D) (ci := 3) (v := .int (s 15 5)) (C := R_Layout) (T := T_Layout) (N := 16) hx hb hts in_Layout hown hK hP 7 rfl rfl 11 (by decide) (hts _ wd106) (fun _ h9 => h9) rfl d_Desk_back_7 ?_
      refine lv_icmp_ge (tgt := 44) hx hb d_Desk_back_10 (by decide) (fun c1 => ?_) (fun c1 => ?_)
      · replace hm := hm.1 c1
        refine lv_iconst (v := -1) hx hb d_Desk_back_44 (by decide) ?_
        exact rt_i hx hb hr hlocks hK hP hD hS d_Desk_back_45 hm
      · replace hm := hm.2 c1
        refine lv_aload_n hx hb d_Desk_back_13 rfl (lv_at hl 0 rfl) ?_
        refine va_get (D := D) (ci := 0) (v := .ref (ad 7)) (C := R_Desk) (T := T_Desk) (N := 5) hx hb hts in_Desk hown hK hP 0 rfl rfl 2 (by decide) (hts _ wd190) (fun _ h9 => h9) rfl d_Desk_back_14 ?_
        refine va_get (D := D) (ci := 3) (v := .ref (ad 8)) (C := R_Layout) (T := T_Layout) (N := 16) hx hb hts in_Layout hown hK hP 7 rfl rfl 2 (by decide) (hts _ wd83) (fun _ h9 => h9) rfl d_Desk_back_17 ?_
        refine lv_iload_n hx hb d_Desk_back_20 rfl (lv_at hl 2 rfl) ?_
        obtain ⟨h2, hm⟩ := hm
        refine va_iald hx hb hK hP 8 4 rfl rfl h2 d_Desk_back_21 ?_
        refine lv_topi (fun v3 ev3 => ?_)
        replace hm := hm v3 ev3
        refine lv_istore_n (lv' := [(3, .int v3), (0, .ref (ad 0)), (1, .int x1), (2, .int x2)]) hx hb d_Desk_back_22 rfl hl (by decide) rfl (fun ls hl => ?_)
        refine lv_aload_n hx hb d_Desk_back_23 rfl (lv_at hl 1 rfl) ?_
        refine va_get (D := D) (ci := 0) (v := .ref (ad 7)) (C := R_Desk) (T := T_Desk) (N := 5) hx hb hts in_Desk hown hK hP 0 rfl rfl 2 (by decide) (hts _ wd190) (fun _ h9 => h9) rfl d_Desk_back_24 ?_
        refine va_get (D := D) (ci := 3) (v := .ref (ad 15)) (C := R_Layout) (T := T_Layout) (N := 16) hx hb hts in_Layout hown hK hP 7 rfl rfl 9 (by decide) (hts _ wd100) (fun _ h9 => h9) rfl d_Desk_back_27 ?_
        refine lv_iload_n hx hb d_Desk_back_30 rfl (lv_at hl 0 rfl) ?_
        obtain ⟨h4, hm⟩ := hm
        refine va_iald hx hb hK hP 15 11 rfl rfl h4 d_Desk_back_31 ?_
        refine lv_iload_n hx hb d_Desk_back_32 rfl (lv_at hl 2 rfl) ?_
        refine lv_icmp_ne (tgt := 38) hx hb d_Desk_back_33 (by decide) (fun c5 => ?_) (fun c5 => ?_)
        · replace hm := hm.1 c5
          obtain ⟨v6, ev6⟩ : ∃ y : Int32, y = x2 + 1 := ⟨_, rfl⟩
          replace hm := hm v6 ev6
          refine lv_iinc (v := v6) (lv' := [(2, .int v6), (3, .int v3), (0, .ref (ad 0)), (1, .int x1)]) hx hb d_Desk_back_38 hl (k := 3) rfl (by rw [ev6]; rfl) (by decide) rfl (fun ls hl => ?_)
          refine lv_goto (tgt := 2) hx hb d_Desk_back_41 (by decide) ?_
          exact hK2 s x1 v6 hm H locs ls hP hD hS (lv_sub hl [2, 3, 0] rfl)
        · replace hm := hm.2 c5
          refine lv_iload_n hx hb d_Desk_back_36 rfl (lv_at hl 0 rfl) ?_
          exact rt_i hx hb hr hlocks hK hP hD hS d_Desk_back_37 hm
  intro H locs ls hP hD hS hl
  have hl : lv_has ls 4 [(0, .ref (ad 0)), (1, .int a1)] := hl
  unfold x_Desk_back at hm
  refine lv_iconst (v := 0) hx hb d_Desk_back_0 (by decide) ?_
  refine lv_istore_n (lv' := [(2, .int (0 : Int32)), (0, .ref (ad 0)), (1, .int a1)]) hx hb d_Desk_back_1 rfl hl (by decide) rfl (fun ls hl => ?_)
  obtain ⟨n2, hm⟩ := hm
  exact B2  n2 s a1 (0 : Int32) hm H locs ls hP hD hS (lv_sub hl [1, 2, 0] rfl)
set_option maxHeartbeats 4000000 in
set_option maxRecDepth 100000 in
theorem c_Desk_guard (l : Launch) (D : va_G) (ad : Nat → Nat) (ca : Nat → ClassId) (sz : Nat) (s : St) (a1 : Int32) (a2 : Int32) (Post : Int32 → St → Prop) (hm : x_Desk_guard s a1 a2 Post) : CtI l y_Desk_guard w_Desk_guard { frames := 0, cells := 0, slots := 0, locals := 0 } D vwCl (tyX ca) (wX ad ca) sz [.ref (ad 0), .int a1, .int a2] s Post := by
  refine ct_i (cc := prog_1_method_13_code) (maxL := 3) (ret := (some .int)) (by decide) rfl (Nat.le_of_ble_eq_true rfl) ?_
  intro p e s0 m args below meth c A hx hb hr hts hown hlocks hml hK hA
  have hown : s0.vm.findClass R_Desk = some m.cls := hown
  intro H locs ls hP hD hS hl
  have hl : lv_has ls 3 [(0, .ref (ad 0)), (1, .int a1), (2, .int a2)] := hl
  unfold x_Desk_guard at hm
  refine lv_iload_n hx hb d_Desk_guard_0 rfl (lv_at hl 1 rfl) ?_
  refine lv_if_lt (tgt := 24) hx hb d_Desk_guard_1 (by decide) (fun c1 => ?_) (fun c1 => ?_)
  · replace hm := hm.1 c1
    refine lv_iconst (v := -1) hx hb d_Desk_guard_24 (by decide) ?_
    exact rt_i hx hb hr hlocks hK hP hD hS d_Desk_guard_25 hm
  · replace hm := hm.2 c1
    refine lv_iload_n hx hb d_Desk_guard_4 rfl (lv_at hl 1 rfl) ?_
    refine lv_aload_n hx hb d_Desk_guard_5 rfl (lv_at hl 0 rfl) ?_
    refine va_get (D := D) (ci := 0) (v := .ref (ad 17)) (C := R_Desk) (T := T_Desk) (N := 5) hx hb hts in_Desk hown hK hP 0 rfl rfl 3 (by decide) (hts _ wd191) (fun _ h9 => h9) rfl d_Desk_guard_6 ?_
    refine va_get (D := D) (ci := 4) (v := .int (s 15 11)) (C := R_Output) (T := T_Output) (N := 9) hx hb hts in_Output hown hK hP 17 rfl rfl 6 (by decide) (hts _ wd164) (fun _ h9 => h9) rfl d_Desk_guard_9 ?_
    refine lv_icmp_ge (tgt := 24) hx hb d_Desk_guard_12 (by decide) (fun c2 => ?_) (fun c2 => ?_)
    · replace hm := hm.1 c2
      refine lv_iconst (v := -1) hx hb d_Desk_guard_24 (by decide) ?_
      exact rt_i hx hb hr hlocks hK hP hD hS d_Desk_guard_25 hm
    · replace hm := hm.2 c2
      refine lv_iload_n hx hb d_Desk_guard_15 rfl (lv_at hl 2 rfl) ?_
      refine lv_if_lt (tgt := 24) hx hb d_Desk_guard_16 (by decide) (fun c3 => ?_) (fun c3 => ?_)
      · replace hm := hm.1 c3
        refine lv_iconst (v := -1) hx hb d_Desk_guard_24 (by decide) ?_
        exact rt_i hx hb hr hlocks hK hP hD hS d_Desk_guard_25 hm
      · replace hm := hm.2 c3
        refine lv_iload_n hx hb d_Desk_guard_19 rfl (lv_at hl 2 rfl) ?_
        refine lv_iconst (v := 4) hx hb d_Desk_guard_20 (by decide) ?_
        refine lv_icmp_lt (tgt := 26) hx hb d_Desk_guard_21 (by decide) (fun c4 => ?_) (fun c4 => ?_)
        · replace hm := hm.1 c4
          refine lv_aload_n hx hb d_Desk_guard_26 rfl (lv_at hl 0 rfl) ?_
          refine va_get (D := D) (ci := 0) (v := .ref (ad 17)) (C := R_Desk) (T := T_Desk) (N := 5) hx hb hts in_Desk hown hK hP 0 rfl rfl 3 (by decide) (hts _ wd191) (fun _ h9 => h9) rfl d_Desk_guard_27 ?_
          refine va_get (D := D) (ci := 4) (v := .ref (ad 19)) (C := R_Output) (T := T_Output) (N := 9) hx hb hts in_Output hown hK hP 17 rfl rfl 4 (by decide) (hts _ wd160) (fun _ h9 => h9) rfl d_Desk_guard_30 ?_
          refine lv_iload_n hx hb d_Desk_guard_33 rfl (lv_at hl 1 rfl) ?_
          refine lv_iconst (v := 4) hx hb d_Desk_guard_34 (by decide) ?_
          refine lv_imul hx hb d_Desk_guard_35 ?_
          refine lv_iload_n hx hb d_Desk_guard_36 rfl (lv_at hl 2 rfl) ?_
          refine lv_iadd hx hb d_Desk_guard_37 ?_
          obtain ⟨h5, hm⟩ := hm
          refine va_iald hx hb hK hP 19 14 rfl rfl h5 d_Desk_guard_38 ?_
          exact rt_i hx hb hr hlocks hK hP hD hS d_Desk_guard_39 hm
        · replace hm := hm.2 c4
          refine lv_iconst (v := -1) hx hb d_Desk_guard_24 (by decide) ?_
          exact rt_i hx hb hr hlocks hK hP hD hS d_Desk_guard_25 hm
set_option maxHeartbeats 4000000 in
set_option maxRecDepth 100000 in
theorem c_Desk_about (l : Launch) (D : va_G) (ad : Nat → Nat) (ca : Nat → ClassId) (sz : Nat) (s : St) (a1 : Int32) (Post : Int32 → St → Prop) (hm : x_Desk_about s a1 Post) : CtI l y_Desk_about w_Desk_about { frames := 0, cells := 0, slots := 0, locals := 0 } D vwCl (tyX ca) (wX ad ca) sz [.ref (ad 0), .int a1] s Post := by
  refine ct_i (cc := prog_1_method_14_code) (maxL := 2) (ret := (some .int)) (by decide) rfl (Nat.le_of_ble_eq_true rfl) ?_
  intro p e s0 m args below meth c A hx hb hr hts hown hlocks hml hK hA
  have hown : s0.vm.findClass R_Desk = some m.cls := hown
  intro H locs ls hP hD hS hl
  have hl : lv_has ls 2 [(0, .ref (ad 0)), (1, .int a1)] := hl
  unfold x_Desk_about at hm
  refine lv_iload_n hx hb d_Desk_about_0 rfl (lv_at hl 1 rfl) ?_
  by_cases c1 : a1 = 0
  · replace hm := hm.1 c1
    refine lv_tableIn (off := 47) (tgt := 48) hx hb d_Desk_about_1 (by rw [c1]; decide) (by rw [c1]; decide) (by rw [c1]; rfl) (by decide) ?_
    refine lv_aload_n hx hb d_Desk_about_48 rfl (lv_at hl 0 rfl) ?_
    refine va_get (D := D) (ci := 0) (v := .ref (ad 17)) (C := R_Desk) (T := T_Desk) (N := 5) hx hb hts in_Desk hown hK hP 0 rfl rfl 3 (by decide) (hts _ wd191) (fun _ h9 => h9) rfl d_Desk_about_49 ?_
    refine va_get (D := D) (ci := 4) (v := .int (s 15 10)) (C := R_Output) (T := T_Output) (N := 9) hx hb hts in_Output hown hK hP 17 rfl rfl 5 (by decide) (hts _ wd162) (fun _ h9 => h9) rfl d_Desk_about_52 ?_
    exact rt_i hx hb hr hlocks hK hP hD hS d_Desk_about_55 hm
  by_cases c2 : a1 = 1
  · replace hm := hm.2.1 c2
    refine lv_tableIn (off := 55) (tgt := 56) hx hb d_Desk_about_1 (by rw [c2]; decide) (by rw [c2]; decide) (by rw [c2]; rfl) (by decide) ?_
    refine lv_aload_n hx hb d_Desk_about_56 rfl (lv_at hl 0 rfl) ?_
    refine va_get (D := D) (ci := 0) (v := .ref (ad 7)) (C := R_Desk) (T := T_Desk) (N := 5) hx hb hts in_Desk hown hK hP 0 rfl rfl 2 (by decide) (hts _ wd190) (fun _ h9 => h9) rfl d_Desk_about_57 ?_
    refine va_get (D := D) (ci := 3) (v := .int (s 15 5)) (C := R_Layout) (T := T_Layout) (N := 16) hx hb hts in_Layout hown hK hP 7 rfl rfl 11 (by decide) (hts _ wd106) (fun _ h9 => h9) rfl d_Desk_about_60 ?_
    exact rt_i hx hb hr hlocks hK hP hD hS d_Desk_about_63 hm
  by_cases c3 : a1 = 2
  · replace hm := hm.2.2.1 c3
    refine lv_tableIn (off := 63) (tgt := 64) hx hb d_Desk_about_1 (by rw [c3]; decide) (by rw [c3]; decide) (by rw [c3]; rfl) (by decide) ?_
    refine lv_aload_n hx hb d_Desk_about_64 rfl (lv_at hl 0 rfl) ?_
    refine va_get (D := D) (ci := 0) (v := .ref (ad 7)) (C := R_Desk) (T := T_Desk) (N := 5) hx hb hts in_Desk hown hK hP 0 rfl rfl 2 (by decide) (hts _ wd190) (fun _ h9 => h9) rfl d_Desk_about_65 ?_
    refine va_get (D := D) (ci := 3) (v := .int (s 15 6)) (C := R_Layout) (T := T_Layout) (N := 16) hx hb hts in_Layout hown hK hP 7 rfl rfl 12 (by decide) (hts _ wd108) (fun _ h9 => h9) rfl d_Desk_about_68 ?_
    exact rt_i hx hb hr hlocks hK hP hD hS d_Desk_about_71 hm
  by_cases c4 : a1 = 3
  · replace hm := hm.2.2.2.1 c4
    refine lv_tableIn (off := 71) (tgt := 72) hx hb d_Desk_about_1 (by rw [c4]; decide) (by rw [c4]; decide) (by rw [c4]; rfl) (by decide) ?_
    refine lv_aload_n hx hb d_Desk_about_72 rfl (lv_at hl 0 rfl) ?_
    refine va_get (D := D) (ci := 0) (v := .ref (ad 7)) (C := R_Desk) (T := T_Desk) (N := 5) hx hb hts in_Desk hown hK hP 0 rfl rfl 2 (by decide) (hts _ wd190) (fun _ h9 => h9) rfl d_Desk_about_73 ?_
    refine va_get (D := D) (ci := 3) (v := .int (s 15 7)) (C := R_Layout) (T := T_Layout) (N := 16) hx hb hts in_Layout hown hK hP 7 rfl rfl 13 (by decide) (hts _ wd110) (fun _ h9 => h9) rfl d_Desk_about_76 ?_
    exact rt_i hx hb hr hlocks hK hP hD hS d_Desk_about_79 hm
  by_cases c5 : a1 = 4
  · replace hm := hm.2.2.2.2.1 c5
    refine lv_tableIn (off := 79) (tgt := 80) hx hb d_Desk_about_1 (by rw [c5]; decide) (by rw [c5]; decide) (by rw [c5]; rfl) (by decide) ?_
    refine lv_aload_n hx hb d_Desk_about_80 rfl (lv_at hl 0 rfl) ?_
    refine va_get (D := D) (ci := 0) (v := .ref (ad 7)) (C := R_Desk) (T := T_Desk) (N := 5) hx hb hts in_Desk hown hK hP 0 rfl rfl 2 (by decide) (hts _ wd190) (fun _ h9 => h9) rfl d_Desk_about_81 ?_
    refine va_get (D := D) (ci := 3) (v := .int (s 15 8)) (C := R_Layout) (T := T_Layout) (N := 16) hx hb hts in_Layout hown hK hP 7 rfl rfl 14 (by decide) (hts _ wd112) (fun _ h9 => h9) rfl d_Desk_about_84 ?_
    exact rt_i hx hb hr hlocks hK hP hD hS d_Desk_about_87 hm
  by_cases c6 : a1 = 5
  · replace hm := hm.2.2.2.2.2.1 c6
    refine lv_tableIn (off := 87) (tgt := 88) hx hb d_Desk_about_1 (by rw [c6]; decide) (by rw [c6]; decide) (by rw [c6]; rfl) (by decide) ?_
    refine lv_aload_n hx hb d_Desk_about_88 rfl (lv_at hl 0 rfl) ?_
    refine va_get (D := D) (ci := 0) (v := .ref (ad 7)) (C := R_Desk) (T := T_Desk) (N := 5) hx hb hts in_Desk hown hK hP 0 rfl rfl 2 (by decide) (hts _ wd190) (fun _ h9 => h9) rfl d_Desk_about_89 ?_
    refine va_get (D := D) (ci := 3) (v := .int (s 15 9)) (C := R_Layout) (T := T_Layout) (N := 16) hx hb hts in_Layout hown hK hP 7 rfl rfl 15 (by decide) (hts _ wd114) (fun _ h9 => h9) rfl d_Desk_about_92 ?_
    exact rt_i hx hb hr hlocks hK hP hD hS d_Desk_about_95 hm
  by_cases c7 : a1 = 6
  · replace hm := hm.2.2.2.2.2.2.1 c7
    refine lv_tableIn (off := 95) (tgt := 96) hx hb d_Desk_about_1 (by rw [c7]; decide) (by rw [c7]; decide) (by rw [c7]; rfl) (by decide) ?_
    refine lv_aload_n hx hb d_Desk_about_96 rfl (lv_at hl 0 rfl) ?_
    refine va_get (D := D) (ci := 0) (v := .ref (ad 17)) (C := R_Desk) (T := T_Desk) (N := 5) hx hb hts in_Desk hown hK hP 0 rfl rfl 3 (by decide) (hts _ wd191) (fun _ h9 => h9) rfl d_Desk_about_97 ?_
    refine va_get (D := D) (ci := 4) (v := .int (s 15 12)) (C := R_Output) (T := T_Output) (N := 9) hx hb hts in_Output hown hK hP 17 rfl rfl 7 (by decide) (hts _ wd166) (fun _ h9 => h9) rfl d_Desk_about_100 ?_
    exact rt_i hx hb hr hlocks hK hP hD hS d_Desk_about_103 hm
  by_cases c8 : a1 = 7
  · replace hm := hm.2.2.2.2.2.2.2.1 c8
    refine lv_tableIn (off := 103) (tgt := 104) hx hb d_Desk_about_1 (by rw [c8]; decide) (by rw [c8]; decide) (by rw [c8]; rfl) (by decide) ?_
    refine lv_aload_n hx hb d_Desk_about_104 rfl (lv_at hl 0 rfl) ?_
    refine va_get (D := D) (ci := 0) (v := .ref (ad 17)) (C := R_Desk) (T := T_Desk) (N := 5) hx hb hts in_Desk hown hK hP 0 rfl rfl 3 (by decide) (hts _ wd191) (fun _ h9 => h9) rfl d_Desk_about_105 ?_
    refine va_get (D := D) (ci := 4) (v := .int (s 15 13)) (C := R_Output) (T := T_Output) (N := 9) hx hb hts in_Output hown hK hP 17 rfl rfl 8 (by decide) (hts _ wd168) (fun _ h9 => h9) rfl d_Desk_about_108 ?_
    exact rt_i hx hb hr hlocks hK hP hD hS d_Desk_about_111 hm
  replace hm := hm.2.2.2.2.2.2.2.2 c1 c2 c3 c4 c5 c6 c7 c8
  refine lv_tableOut (tgt := 112) hx hb d_Desk_about_1 (by have hc1 := lv_neT c1 (a := 0) rfl; have hc2 := lv_neT c2 (a := 1) rfl; have hc3 := lv_neT c3 (a := 2) rfl; have hc4 := lv_neT c4 (a := 3) rfl; have hc5 := lv_neT c5 (a := 4) rfl; have hc6 := lv_neT c6 (a := 5) rfl; have hc7 := lv_neT c7 (a := 6) rfl; have hc8 := lv_neT c8 (a := 7) rfl; omega) (by decide) ?_
  refine lv_iconst (v := -1) hx hb d_Desk_about_112 (by decide) ?_
  exact rt_i hx hb hr hlocks hK hP hD hS d_Desk_about_113 hm
set_option maxHeartbeats 4000000 in
set_option maxRecDepth 100000 in
theorem c_Desk_count (l : Launch) (D : va_G) (ad : Nat → Nat) (ca : Nat → ClassId) (sz : Nat) (s : St) (a1 : Int32) (Post : Int32 → St → Prop) (hm : x_Desk_count s a1 Post) : CtI l y_Desk_count w_Desk_count { frames := 0, cells := 0, slots := 0, locals := 0 } D vwCl (tyX ca) (wX ad ca) sz [.ref (ad 0), .int a1] s Post := by
  refine ct_i (cc := prog_1_method_15_code) (maxL := 2) (ret := (some .int)) (by decide) rfl (Nat.le_of_ble_eq_true rfl) ?_
  intro p e s0 m args below meth c A hx hb hr hts hown hlocks hml hK hA
  have hown : s0.vm.findClass R_Desk = some m.cls := hown
  intro H locs ls hP hD hS hl
  have hl : lv_has ls 2 [(0, .ref (ad 0)), (1, .int a1)] := hl
  unfold x_Desk_count at hm
  refine lv_iload_n hx hb d_Desk_count_0 rfl (lv_at hl 1 rfl) ?_
  by_cases c1 : a1 = 0
  · replace hm := hm.1 c1
    refine lv_tableIn (off := 27) (tgt := 28) hx hb d_Desk_count_1 (by rw [c1]; decide) (by rw [c1]; decide) (by rw [c1]; rfl) (by decide) ?_
    refine lv_aload_n hx hb d_Desk_count_28 rfl (lv_at hl 0 rfl) ?_
    refine va_get (D := D) (ci := 0) (v := .ref (ad 1)) (C := R_Desk) (T := T_Desk) (N := 5) hx hb hts in_Desk hown hK hP 0 rfl rfl 0 (by decide) (hts _ wd188) (fun _ h9 => h9) rfl d_Desk_count_29 ?_
    refine va_get (D := D) (ci := 1) (v := .int (s 15 1)) (C := R_Source) (T := T_Source) (N := 4) hx hb hts in_Source hown hK hP 1 rfl rfl 2 (by decide) (hts _ wd27) (fun _ h9 => h9) rfl d_Desk_count_32 ?_
    exact rt_i hx hb hr hlocks hK hP hD hS d_Desk_count_35 hm
  by_cases c2 : a1 = 1
  · replace hm := hm.2.1 c2
    refine lv_tableIn (off := 35) (tgt := 36) hx hb d_Desk_count_1 (by rw [c2]; decide) (by rw [c2]; decide) (by rw [c2]; rfl) (by decide) ?_
    refine lv_aload_n hx hb d_Desk_count_36 rfl (lv_at hl 0 rfl) ?_
    refine va_get (D := D) (ci := 0) (v := .ref (ad 1)) (C := R_Desk) (T := T_Desk) (N := 5) hx hb hts in_Desk hown hK hP 0 rfl rfl 0 (by decide) (hts _ wd188) (fun _ h9 => h9) rfl d_Desk_count_37 ?_
    refine va_get (D := D) (ci := 1) (v := .int (s 15 2)) (C := R_Source) (T := T_Source) (N := 4) hx hb hts in_Source hown hK hP 1 rfl rfl 3 (by decide) (hts _ wd30) (fun _ h9 => h9) rfl d_Desk_count_40 ?_
    exact rt_i hx hb hr hlocks hK hP hD hS d_Desk_count_43 hm
  by_cases c3 : a1 = 2
  · replace hm := hm.2.2.1 c3
    refine lv_tableIn (off := 43) (tgt := 44) hx hb d_Desk_count_1 (by rw [c3]; decide) (by rw [c3]; decide) (by rw [c3]; rfl) (by decide) ?_
    refine lv_aload_n hx hb d_Desk_count_44 rfl (lv_at hl 0 rfl) ?_
    refine va_get (D := D) (ci := 0) (v := .int (s 15 0)) (C := R_Desk) (T := T_Desk) (N := 5) hx hb hts in_Desk hown hK hP 0 rfl rfl 4 (by decide) (hts _ wd192) (fun _ h9 => h9) rfl d_Desk_count_45 ?_
    exact rt_i hx hb hr hlocks hK hP hD hS d_Desk_count_48 hm
  replace hm := hm.2.2.2 c1 c2 c3
  refine lv_tableOut (tgt := 49) hx hb d_Desk_count_1 (by have hc1 := lv_neT c1 (a := 0) rfl; have hc2 := lv_neT c2 (a := 1) rfl; have hc3 := lv_neT c3 (a := 2) rfl; omega) (by decide) ?_
  refine lv_iconst (v := -1) hx hb d_Desk_count_49 (by decide) ?_
  exact rt_i hx hb hr hlocks hK hP hD hS d_Desk_count_50 hm
