set_option maxHeartbeats 4000000 in
set_option maxRecDepth 100000 in
theorem c_Model_about (l : Launch) (D : va_G) (ad : Nat → Nat) (ca : Nat → ClassId) (sz : Nat) (s : St) (a1 : Int32) (Post : Int32 → St → Prop) (hm : x_Model_about s a1 Post) : CtI l y_Model_about w_Model_about { frames := 1, cells := 0, slots := 0, locals := 22 } D vwCl (tyM ca) (wM ad ca) sz [.ref (ad 0), .int a1] s Post := by
  refine ct_i (cc := prog_8_method_39_code) (maxL := 2) (ret := (some .int)) (by decide) rfl (Nat.le_of_ble_eq_true rfl) ?_
  intro p e s0 m args below meth c A hx hb hr hts hown hlocks hml hK hA
  have hown : s0.vm.findClass R_Model = some m.cls := hown
  intro H locs ls hP hD hS hl
  have hl : lv_has ls 2 [(0, .ref (ad 0)), (1, .int a1)] := hl
  unfold x_Model_about at hm
  refine lv_iload_n hx hb d_Model_about_0 rfl (lv_at hl 1 rfl) ?_
  refine lv_iconst (v := 0) hx hb d_Model_about_1 (by decide) ?_
  refine lv_bipush (v := 7) hx hb d_Model_about_2 (by decide) ?_
  refine cg_Si (As := [.int a1, .int (0 : Int32), .int (7 : Int32)]) (rest := []) ⟨hx, hb, hml, hown, hts⟩ hK hP hD hS hA (c_Model_in l D ad ca H.size s a1 (0 : Int32) (7 : Int32) _ hm) (cwB 3 hts wd606 wd7 wd604 wd605 (by decide +kernel) ⟨Nat.le_of_ble_eq_true rfl, Nat.le_of_ble_eq_true rfl⟩) rfl hl rfl (Nat.le_of_ble_eq_true rfl) d_Model_about_4 (fun r1 s2 hm => ?_)
  intro H locs ls hP hD hS hl
  refine lv_if_ne (tgt := 12) hx hb d_Model_about_7 (by decide) (fun c3 => ?_) (fun c3 => ?_)
  · replace hm := hm.1 c3
    refine lv_aload_n hx hb d_Model_about_12 rfl (lv_at hl 0 rfl) ?_
    refine va_get (D := D) (ci := 5) (v := .int (s2 19 16)) (C := R_Model) (T := T_Model) (N := 36) hx hb hts in_Model hown hK hP 0 rfl rfl 35 (by decide) (hts _ wd526) (fun _ h9 => h9) rfl d_Model_about_13 ?_
    refine lv_if_ne (tgt := 21) hx hb d_Model_about_16 (by decide) (fun c4 => ?_) (fun c4 => ?_)
    · replace hm := hm.1 c4
      refine lv_iload_n hx hb d_Model_about_21 rfl (lv_at hl 1 rfl) ?_
      by_cases c5 : a1 = 0
      · replace hm := hm.1 c5
        refine lv_tableIn (off := 42) (tgt := 64) hx hb d_Model_about_22 (by rw [c5]; decide) (by rw [c5]; decide) (by rw [c5]; rfl) (by decide) ?_
        refine lv_aload_n hx hb d_Model_about_64 rfl (lv_at hl 0 rfl) ?_
        refine va_get (D := D) (ci := 5) (v := .int (s2 19 6)) (C := R_Model) (T := T_Model) (N := 36) hx hb hts in_Model hown hK hP 0 rfl rfl 25 (by decide) (hts _ wd516) (fun _ h9 => h9) rfl d_Model_about_65 ?_
        exact rt_i hx hb hr hlocks hK hP hD hS d_Model_about_68 hm
      by_cases c6 : a1 = 1
      · replace hm := hm.2.1 c6
        refine lv_tableIn (off := 47) (tgt := 69) hx hb d_Model_about_22 (by rw [c6]; decide) (by rw [c6]; decide) (by rw [c6]; rfl) (by decide) ?_
        refine lv_aload_n hx hb d_Model_about_69 rfl (lv_at hl 0 rfl) ?_
        refine va_get (D := D) (ci := 5) (v := .int (s2 19 9)) (C := R_Model) (T := T_Model) (N := 36) hx hb hts in_Model hown hK hP 0 rfl rfl 28 (by decide) (hts _ wd519) (fun _ h9 => h9) rfl d_Model_about_70 ?_
        exact rt_i hx hb hr hlocks hK hP hD hS d_Model_about_73 hm
      by_cases c7 : a1 = 2
      · replace hm := hm.2.2.1 c7
        refine lv_tableIn (off := 52) (tgt := 74) hx hb d_Model_about_22 (by rw [c7]; decide) (by rw [c7]; decide) (by rw [c7]; rfl) (by decide) ?_
        refine lv_aload_n hx hb d_Model_about_74 rfl (lv_at hl 0 rfl) ?_
        refine va_get (D := D) (ci := 5) (v := .int (s2 19 10)) (C := R_Model) (T := T_Model) (N := 36) hx hb hts in_Model hown hK hP 0 rfl rfl 29 (by decide) (hts _ wd520) (fun _ h9 => h9) rfl d_Model_about_75 ?_
        exact rt_i hx hb hr hlocks hK hP hD hS d_Model_about_78 hm
      by_cases c8 : a1 = 3
      · replace hm := hm.2.2.2.1 c8
        refine lv_tableIn (off := 57) (tgt := 79) hx hb d_Model_about_22 (by rw [c8]; decide) (by rw [c8]; decide) (by rw [c8]; rfl) (by decide) ?_
        refine lv_aload_n hx hb d_Model_about_79 rfl (lv_at hl 0 rfl) ?_
        refine va_get (D := D) (ci := 5) (v := .int (s2 19 8)) (C := R_Model) (T := T_Model) (N := 36) hx hb hts in_Model hown hK hP 0 rfl rfl 27 (by decide) (hts _ wd518) (fun _ h9 => h9) rfl d_Model_about_80 ?_
        exact rt_i hx hb hr hlocks hK hP hD hS d_Model_about_83 hm
      by_cases c9 : a1 = 4
      · replace hm := hm.2.2.2.2.1 c9
        refine lv_tableIn (off := 62) (tgt := 84) hx hb d_Model_about_22 (by rw [c9]; decide) (by rw [c9]; decide) (by rw [c9]; rfl) (by decide) ?_
        refine lv_aload_n hx hb d_Model_about_84 rfl (lv_at hl 0 rfl) ?_
        refine va_get (D := D) (ci := 5) (v := .int (s2 19 11)) (C := R_Model) (T := T_Model) (N := 36) hx hb hts in_Model hown hK hP 0 rfl rfl 30 (by decide) (hts _ wd521) (fun _ h9 => h9) rfl d_Model_about_85 ?_
        exact rt_i hx hb hr hlocks hK hP hD hS d_Model_about_88 hm
      by_cases c10 : a1 = 5
      · replace hm := hm.2.2.2.2.2.1 c10
        refine lv_tableIn (off := 67) (tgt := 89) hx hb d_Model_about_22 (by rw [c10]; decide) (by rw [c10]; decide) (by rw [c10]; rfl) (by decide) ?_
        refine lv_aload_n hx hb d_Model_about_89 rfl (lv_at hl 0 rfl) ?_
        refine va_get (D := D) (ci := 5) (v := .int (s2 19 12)) (C := R_Model) (T := T_Model) (N := 36) hx hb hts in_Model hown hK hP 0 rfl rfl 31 (by decide) (hts _ wd522) (fun _ h9 => h9) rfl d_Model_about_90 ?_
        exact rt_i hx hb hr hlocks hK hP hD hS d_Model_about_93 hm
      by_cases c11 : a1 = 6
      · replace hm := hm.2.2.2.2.2.2.1 c11
        refine lv_tableIn (off := 72) (tgt := 94) hx hb d_Model_about_22 (by rw [c11]; decide) (by rw [c11]; decide) (by rw [c11]; rfl) (by decide) ?_
        refine lv_aload_n hx hb d_Model_about_94 rfl (lv_at hl 0 rfl) ?_
        refine va_get (D := D) (ci := 5) (v := .int (s2 19 13)) (C := R_Model) (T := T_Model) (N := 36) hx hb hts in_Model hown hK hP 0 rfl rfl 32 (by decide) (hts _ wd523) (fun _ h9 => h9) rfl d_Model_about_95 ?_
        exact rt_i hx hb hr hlocks hK hP hD hS d_Model_about_98 hm
      replace hm := hm.2.2.2.2.2.2.2 c5 c6 c7 c8 c9 c10 c11
      refine lv_tableOut (tgt := 99) hx hb d_Model_about_22 (by have hc5 := lv_neT c5 (a := 0) rfl; have hc6 := lv_neT c6 (a := 1) rfl; have hc7 := lv_neT c7 (a := 2) rfl; have hc8 := lv_neT c8 (a := 3) rfl; have hc9 := lv_neT c9 (a := 4) rfl; have hc10 := lv_neT c10 (a := 5) rfl; have hc11 := lv_neT c11 (a := 6) rfl; omega) (by decide) ?_
      refine lv_aload_n hx hb d_Model_about_99 rfl (lv_at hl 0 rfl) ?_
      refine va_get (D := D) (ci := 5) (v := .int (s2 19 14)) (C := R_Model) (T := T_Model) (N := 36) hx hb hts in_Model hown hK hP 0 rfl rfl 33 (by decide) (hts _ wd524) (fun _ h9 => h9) rfl d_Model_about_100 ?_
      exact rt_i hx hb hr hlocks hK hP hD hS d_Model_about_103 hm
    · replace hm := hm.2 c4
      refine lv_iconst (v := 0) hx hb d_Model_about_19 (by decide) ?_
      exact rt_i hx hb hr hlocks hK hP hD hS d_Model_about_20 hm
  · replace hm := hm.2 c3
    refine lv_iconst (v := -1) hx hb d_Model_about_10 (by decide) ?_
    exact rt_i hx hb hr hlocks hK hP hD hS d_Model_about_11 hm
set_option maxHeartbeats 4000000 in
set_option maxRecDepth 100000 in
theorem c_Model_count (l : Launch) (D : va_G) (ad : Nat → Nat) (ca : Nat → ClassId) (sz : Nat) (s : St) (a1 : Int32) (Post : Int32 → St → Prop) (hm : x_Model_count s a1 Post) : CtI l y_Model_count w_Model_count { frames := 0, cells := 0, slots := 0, locals := 0 } D vwCl (tyM ca) (wM ad ca) sz [.ref (ad 0), .int a1] s Post := by
  refine ct_i (cc := prog_8_method_40_code) (maxL := 2) (ret := (some .int)) (by decide) rfl (Nat.le_of_ble_eq_true rfl) ?_
  intro p e s0 m args below meth c A hx hb hr hts hown hlocks hml hK hA
  have hown : s0.vm.findClass R_Model = some m.cls := hown
  intro H locs ls hP hD hS hl
  have hl : lv_has ls 2 [(0, .ref (ad 0)), (1, .int a1)] := hl
  unfold x_Model_count at hm
  refine lv_iload_n hx hb d_Model_count_0 rfl (lv_at hl 1 rfl) ?_
  refine lv_if_ne (tgt := 11) hx hb d_Model_count_1 (by decide) (fun c1 => ?_) (fun c1 => ?_)
  · replace hm := hm.1 c1
    refine lv_iload_n hx hb d_Model_count_11 rfl (lv_at hl 1 rfl) ?_
    refine lv_iconst (v := 1) hx hb d_Model_count_12 (by decide) ?_
    refine lv_icmp_ne (tgt := 23) hx hb d_Model_count_13 (by decide) (fun c2 => ?_) (fun c2 => ?_)
    · replace hm := hm.1 c2
      refine lv_iload_n hx hb d_Model_count_23 rfl (lv_at hl 1 rfl) ?_
      refine lv_iconst (v := 2) hx hb d_Model_count_24 (by decide) ?_
      refine lv_icmp_ne (tgt := 35) hx hb d_Model_count_25 (by decide) (fun c3 => ?_) (fun c3 => ?_)
      · replace hm := hm.1 c3
        refine lv_iconst (v := -1) hx hb d_Model_count_35 (by decide) ?_
        exact rt_i hx hb hr hlocks hK hP hD hS d_Model_count_36 hm
      · replace hm := hm.2 c3
        refine lv_aload_n hx hb d_Model_count_28 rfl (lv_at hl 0 rfl) ?_
        refine va_get (D := D) (ci := 5) (v := .int (s 19 4)) (C := R_Model) (T := T_Model) (N := 36) hx hb hts in_Model hown hK hP 0 rfl rfl 11 (by decide) (hts _ wd502) (fun _ h9 => h9) rfl d_Model_count_29 ?_
        refine lv_goto (tgt := 36) hx hb d_Model_count_32 (by decide) ?_
        exact rt_i hx hb hr hlocks hK hP hD hS d_Model_count_36 hm
    · replace hm := hm.2 c2
      refine lv_aload_n hx hb d_Model_count_16 rfl (lv_at hl 0 rfl) ?_
      refine va_get (D := D) (ci := 5) (v := .int (s 19 1)) (C := R_Model) (T := T_Model) (N := 36) hx hb hts in_Model hown hK hP 0 rfl rfl 8 (by decide) (hts _ wd499) (fun _ h9 => h9) rfl d_Model_count_17 ?_
      refine lv_goto (tgt := 36) hx hb d_Model_count_20 (by decide) ?_
      exact rt_i hx hb hr hlocks hK hP hD hS d_Model_count_36 hm
  · replace hm := hm.2 c1
    refine lv_aload_n hx hb d_Model_count_4 rfl (lv_at hl 0 rfl) ?_
    refine va_get (D := D) (ci := 5) (v := .int (s 19 0)) (C := R_Model) (T := T_Model) (N := 36) hx hb hts in_Model hown hK hP 0 rfl rfl 7 (by decide) (hts _ wd498) (fun _ h9 => h9) rfl d_Model_count_5 ?_
    refine lv_goto (tgt := 36) hx hb d_Model_count_8 (by decide) ?_
    exact rt_i hx hb hr hlocks hK hP hD hS d_Model_count_36 hm
