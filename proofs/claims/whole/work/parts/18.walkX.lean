set_option maxHeartbeats 4000000 in
set_option maxRecDepth 100000 in
theorem c_Layout_givePlaces (l : Launch) (D : va_G) (ad : Nat → Nat) (ca : Nat → ClassId) (sz : Nat) (s : St) (Post : St → Prop) (hm : x_Layout_givePlaces s  Post) : CtV l y_Layout_givePlaces w_Layout_givePlaces { frames := 3, cells := 0, slots := 0, locals := 63 } D vwCl (tyX ca) (wX ad ca) sz [.ref (ad 7)] s Post := by
  refine ct_v (cc := prog_2_method_15_code) (maxL := 4) (ret := none) (by decide) rfl (Nat.le_of_ble_eq_true rfl) ?_
  intro p e s0 m args below meth c A hx hb hr hts hown hlocks hml hK hA
  have hown : s0.vm.findClass R_Layout = some m.cls := hown
  have B34 : ∀ (K4 : St → Int32 → Int32 → Prop) (hK4 : ∀ (s : St) (x1 : Int32) (x2 : Int32), K4 s x1 x2 → Bk D vwCl (wX ad ca) A p l e { frames := 3, cells := 0, slots := 0, locals := 63 } s0 m args below meth c (MQ below (va_Qv Post (atG D vwCl (tyX ca) (wX ad ca) A) A) args s0 0 0 A) 4 4 s [(0, .ref (ad 7)), (1, .int x1), (2, .int x2)] []) (s : St) (x1 : Int32) (x2 : Int32) (x3 : Int32) (y0 : Int32) (y1 : Int32) (y2 : Int32), x_Layout_givePlaces_34 K4 Post s x1 x2 x3 y0 y1 y2 → Bk D vwCl (wX ad ca) A p l e { frames := 3, cells := 0, slots := 0, locals := 63 } s0 m args below meth c (MQ below (va_Qv Post (atG D vwCl (tyX ca) (wX ad ca) A) A) args s0 0 0 A) 4 34 s [(0, .ref (ad 7)), (1, .int x1), (2, .int x2), (3, .int x3)] [.int y0, .int y1, .int y2, .ref (ad 14)] := by
    intro K4 hK4 s x1 x2 x3 y0 y1 y2 hm H locs ls hP hD hS hl
    unfold x_Layout_givePlaces_34 at hm
    refine lv_iadd hx hb d_Layout_givePlaces_34 ?_
    obtain ⟨h7, hm⟩ := hm
    refine va_iast hx hb hK hP hD hS 14 10 rfl rfl h7 d_Layout_givePlaces_35 (fun H locs hP hD hS => ?_)
    have hP : va_P D vwCl (wX ad ca (su s 10 (y2).toNatClampNeg (y1 + y0))) H := hP
    have hD : va_D A (wX ad ca (su s 10 (y2).toNatClampNeg (y1 + y0))) := hD
    obtain ⟨s8, es8⟩ : ∃ z : St, z = su s 10 (y2).toNatClampNeg (y1 + y0) := ⟨_, rfl⟩
    rw [← es8] at hP hD
    replace hm := hm s8 es8
    refine lv_aload_n hx hb d_Layout_givePlaces_36 rfl (lv_at hl 0 rfl) ?_
    refine va_get (D := D) (ci := 3) (v := .ref (ad 15)) (C := R_Layout) (T := T_Layout) (N := 16) hx hb hts in_Layout hown hK hP 7 rfl rfl 9 (by decide) (hts _ wd98) (fun _ h9 => h9) rfl d_Layout_givePlaces_37 ?_
    refine lv_iload_n hx hb d_Layout_givePlaces_40 rfl (lv_at hl 3 rfl) ?_
    refine lv_iload_n hx hb d_Layout_givePlaces_41 rfl (lv_at hl 1 rfl) ?_
    refine lv_aload_n hx hb d_Layout_givePlaces_42 rfl (lv_at hl 0 rfl) ?_
    refine va_get (D := D) (ci := 3) (v := .ref (ad 13)) (C := R_Layout) (T := T_Layout) (N := 16) hx hb hts in_Layout hown hK hP 7 rfl rfl 7 (by decide) (hts _ wd93) (fun _ h9 => h9) rfl d_Layout_givePlaces_43 ?_
    refine lv_iload_n hx hb d_Layout_givePlaces_46 rfl (lv_at hl 3 rfl) ?_
    obtain ⟨h9, hm⟩ := hm
    refine va_iald hx hb hK hP 13 9 rfl rfl h9 d_Layout_givePlaces_47 ?_
    refine lv_iadd hx hb d_Layout_givePlaces_48 ?_
    obtain ⟨h10, hm⟩ := hm
    refine va_iast hx hb hK hP hD hS 15 11 rfl rfl h10 d_Layout_givePlaces_49 (fun H locs hP hD hS => ?_)
    have hP : va_P D vwCl (wX ad ca (su s8 11 (x3).toNatClampNeg (x1 + (s8 9 (x3).toNatClampNeg)))) H := hP
    have hD : va_D A (wX ad ca (su s8 11 (x3).toNatClampNeg (x1 + (s8 9 (x3).toNatClampNeg)))) := hD
    obtain ⟨s11, es11⟩ : ∃ z : St, z = su s8 11 (x3).toNatClampNeg (x1 + (s8 9 (x3).toNatClampNeg)) := ⟨_, rfl⟩
    rw [← es11] at hP hD
    replace hm := hm s11 es11
    refine lv_aload_n hx hb d_Layout_givePlaces_50 rfl (lv_at hl 0 rfl) ?_
    refine va_get (D := D) (ci := 3) (v := .ref (ad 10)) (C := R_Layout) (T := T_Layout) (N := 16) hx hb hts in_Layout hown hK hP 7 rfl rfl 4 (by decide) (hts _ wd86) (fun _ h9 => h9) rfl d_Layout_givePlaces_51 ?_
    refine lv_iload_n hx hb d_Layout_givePlaces_54 rfl (lv_at hl 3 rfl) ?_
    refine lv_aload_n hx hb d_Layout_givePlaces_55 rfl (lv_at hl 0 rfl) ?_
    refine lv_iload_n hx hb d_Layout_givePlaces_56 rfl (lv_at hl 3 rfl) ?_
    refine cg_Vi (b := (ad 7)) (As := [.int x3]) (rest := [.int x3, .ref (ad 10)]) ⟨hx, hb, hml, hown, hts⟩ hK hP hD hS hA (c_Layout_lengthAtSpot l D ad ca H.size s11 x3 _ hm) (cwA 1 hts wd392 wd5 wd389 wd391 ws12 (by decide +kernel) ⟨Nat.le_of_ble_eq_true rfl, Nat.le_of_ble_eq_true rfl⟩) (va_recv hK hP (ci := 3) (q0 := 7) rfl rfl) rfl hl rfl (Nat.le_of_ble_eq_true rfl) d_Layout_givePlaces_57 (fun r12 s13 hm => ?_)
    intro H locs ls hP hD hS hl
    obtain ⟨h14, hm⟩ := hm
    refine va_iast hx hb hK hP hD hS 10 6 rfl rfl h14 d_Layout_givePlaces_60 (fun H locs hP hD hS => ?_)
    have hP : va_P D vwCl (wX ad ca (su s13 6 (x3).toNatClampNeg r12)) H := hP
    have hD : va_D A (wX ad ca (su s13 6 (x3).toNatClampNeg r12)) := hD
    obtain ⟨s15, es15⟩ : ∃ z : St, z = su s13 6 (x3).toNatClampNeg r12 := ⟨_, rfl⟩
    rw [← es15] at hP hD
    replace hm := hm s15 es15
    refine lv_aload_n hx hb d_Layout_givePlaces_61 rfl (lv_at hl 0 rfl) ?_
    refine va_get (D := D) (ci := 3) (v := .ref (ad 15)) (C := R_Layout) (T := T_Layout) (N := 16) hx hb hts in_Layout hown hK hP 7 rfl rfl 9 (by decide) (hts _ wd98) (fun _ h9 => h9) rfl d_Layout_givePlaces_62 ?_
    refine lv_iload_n hx hb d_Layout_givePlaces_65 rfl (lv_at hl 3 rfl) ?_
    obtain ⟨h16, hm⟩ := hm
    refine va_iald hx hb hK hP 15 11 rfl rfl h16 d_Layout_givePlaces_66 ?_
    refine lv_aload_n hx hb d_Layout_givePlaces_67 rfl (lv_at hl 0 rfl) ?_
    refine va_get (D := D) (ci := 3) (v := .ref (ad 10)) (C := R_Layout) (T := T_Layout) (N := 16) hx hb hts in_Layout hown hK hP 7 rfl rfl 4 (by decide) (hts _ wd86) (fun _ h9 => h9) rfl d_Layout_givePlaces_68 ?_
    refine lv_iload_n hx hb d_Layout_givePlaces_71 rfl (lv_at hl 3 rfl) ?_
    obtain ⟨h17, hm⟩ := hm
    refine va_iald hx hb hK hP 10 6 rfl rfl h17 d_Layout_givePlaces_72 ?_
    refine lv_iadd hx hb d_Layout_givePlaces_73 ?_
    refine lv_topi (fun v18 ev18 => ?_)
    replace hm := hm v18 ev18
    refine lv_istore_n (lv' := [(1, .int v18), (0, .ref (ad 7)), (2, .int x2), (3, .int x3)]) hx hb d_Layout_givePlaces_74 rfl hl (by decide) rfl (fun ls hl => ?_)
    obtain ⟨v19, ev19⟩ : ∃ y : Int32, y = x2 + 1 := ⟨_, rfl⟩
    replace hm := hm v19 ev19
    refine lv_iinc (v := v19) (lv' := [(2, .int v19), (1, .int v18), (0, .ref (ad 7)), (3, .int x3)]) hx hb d_Layout_givePlaces_75 hl (k := 2) rfl (by rw [ev19]; rfl) (by decide) rfl (fun ls hl => ?_)
    refine lv_goto (tgt := 4) hx hb d_Layout_givePlaces_78 (by decide) ?_
    exact hK4 s15 v18 v19 hm H locs ls hP hD hS (lv_sub hl [2, 1, 0] rfl)
  have B4 : ∀ (n : Nat) (s : St) (x1 : Int32) (x2 : Int32), x_Layout_givePlaces_4  Post n s x1 x2 → Bk D vwCl (wX ad ca) A p l e { frames := 3, cells := 0, slots := 0, locals := 63 } s0 m args below meth c (MQ below (va_Qv Post (atG D vwCl (tyX ca) (wX ad ca) A) A) args s0 0 0 A) 4 4 s [(0, .ref (ad 7)), (1, .int x1), (2, .int x2)] [] := by
    intro  n4
    induction n4 with
    | zero => intro s x1 x2 hm; exact hm.elim
    | succ n4 hK4 =>
      intro s x1 x2 hm H locs ls hP hD hS hl
      have hm : x_Layout_givePlaces_4F  Post (fun s x1 x2 => x_Layout_givePlaces_4  Post n4 s x1 x2) s x1 x2 := hm
      unfold x_Layout_givePlaces_4F at hm
      refine lv_iload_n hx hb d_Layout_givePlaces_4 rfl (lv_at hl 2 rfl) ?_
      refine lv_aload_n hx hb d_Layout_givePlaces_5 rfl (lv_at hl 0 rfl) ?_
      refine va_get (D := D) (ci := 3) (v := .int (s 15 5)) (C := R_Layout) (T := T_Layout) (N := 16) hx hb hts in_Layout hown hK hP 7 rfl rfl 11 (by decide) (hts _ wd105) (fun _ h9 => h9) rfl d_Layout_givePlaces_6 ?_
      refine lv_icmp_ge (tgt := 81) hx hb d_Layout_givePlaces_9 (by decide) (fun c1 => ?_) (fun c1 => ?_)
      · replace hm := hm.1 c1
        refine lv_aload_n hx hb d_Layout_givePlaces_81 rfl (lv_at hl 0 rfl) ?_
        refine va_get (D := D) (ci := 3) (v := .ref (ad 14)) (C := R_Layout) (T := T_Layout) (N := 16) hx hb hts in_Layout hown hK hP 7 rfl rfl 8 (by decide) (hts _ wd95) (fun _ h9 => h9) rfl d_Layout_givePlaces_82 ?_
        refine lv_aload_n hx hb d_Layout_givePlaces_85 rfl (lv_at hl 0 rfl) ?_
        refine va_get (D := D) (ci := 3) (v := .ref (ad 1)) (C := R_Layout) (T := T_Layout) (N := 16) hx hb hts in_Layout hown hK hP 7 rfl rfl 0 (by decide) (hts _ wd79) (fun _ h9 => h9) rfl d_Layout_givePlaces_86 ?_
        refine va_get (D := D) (ci := 1) (v := .int (s 15 1)) (C := R_Source) (T := T_Source) (N := 4) hx hb hts in_Source hown hK hP 1 rfl rfl 2 (by decide) (hts _ wd28) (fun _ h9 => h9) rfl d_Layout_givePlaces_89 ?_
        refine lv_iload_n hx hb d_Layout_givePlaces_92 rfl (lv_at hl 1 rfl) ?_
        obtain ⟨h2, hm⟩ := hm
        refine va_iast hx hb hK hP hD hS 14 10 rfl rfl h2 d_Layout_givePlaces_93 (fun H locs hP hD hS => ?_)
        have hP : va_P D vwCl (wX ad ca (su s 10 ((s 15 1)).toNatClampNeg x1)) H := hP
        have hD : va_D A (wX ad ca (su s 10 ((s 15 1)).toNatClampNeg x1)) := hD
        obtain ⟨s3, es3⟩ : ∃ z : St, z = su s 10 ((s 15 1)).toNatClampNeg x1 := ⟨_, rfl⟩
        rw [← es3] at hP hD
        replace hm := hm s3 es3
        exact rt_v hx hb hr hlocks hK hP hD hS d_Layout_givePlaces_94 hm
      · replace hm := hm.2 c1
        refine lv_aload_n hx hb d_Layout_givePlaces_12 rfl (lv_at hl 0 rfl) ?_
        refine va_get (D := D) (ci := 3) (v := .ref (ad 8)) (C := R_Layout) (T := T_Layout) (N := 16) hx hb hts in_Layout hown hK hP 7 rfl rfl 2 (by decide) (hts _ wd81) (fun _ h9 => h9) rfl d_Layout_givePlaces_13 ?_
        refine lv_iload_n hx hb d_Layout_givePlaces_16 rfl (lv_at hl 2 rfl) ?_
        obtain ⟨h4, hm⟩ := hm
        refine va_iald hx hb hK hP 8 4 rfl rfl h4 d_Layout_givePlaces_17 ?_
        refine lv_topi (fun v5 ev5 => ?_)
        replace hm := hm v5 ev5
        refine lv_istore_n (lv' := [(3, .int v5), (0, .ref (ad 7)), (1, .int x1), (2, .int x2)]) hx hb d_Layout_givePlaces_18 rfl hl (by decide) rfl (fun ls hl => ?_)
        refine lv_aload_n hx hb d_Layout_givePlaces_19 rfl (lv_at hl 1 rfl) ?_
        refine va_get (D := D) (ci := 3) (v := .ref (ad 14)) (C := R_Layout) (T := T_Layout) (N := 16) hx hb hts in_Layout hown hK hP 7 rfl rfl 8 (by decide) (hts _ wd95) (fun _ h9 => h9) rfl d_Layout_givePlaces_20 ?_
        refine lv_iload_n hx hb d_Layout_givePlaces_23 rfl (lv_at hl 0 rfl) ?_
        refine lv_iload_n hx hb d_Layout_givePlaces_24 rfl (lv_at hl 2 rfl) ?_
        refine lv_iload_n hx hb d_Layout_givePlaces_25 rfl (lv_at hl 0 rfl) ?_
        refine lv_if_ne (tgt := 33) hx hb d_Layout_givePlaces_26 (by decide) (fun c6 => ?_) (fun c6 => ?_)
        · replace hm := hm.1 c6
          refine lv_iconst (v := 0) hx hb d_Layout_givePlaces_33 (by decide) ?_
          exact B34 (fun s x1 x2 => x_Layout_givePlaces_4  Post n4 s x1 x2) hK4 s x1 x2 v5 (0 : Int32) x1 v5 hm H locs ls hP hD hS (lv_sub hl [1, 2, 3, 0] rfl)
        · replace hm := hm.2 c6
          refine lv_iconst (v := 3) hx hb d_Layout_givePlaces_29 (by decide) ?_
          refine lv_goto (tgt := 34) hx hb d_Layout_givePlaces_30 (by decide) ?_
          exact B34 (fun s x1 x2 => x_Layout_givePlaces_4  Post n4 s x1 x2) hK4 s x1 x2 v5 (3 : Int32) x1 v5 hm H locs ls hP hD hS (lv_sub hl [1, 2, 3, 0] rfl)
  intro H locs ls hP hD hS hl
  have hl : lv_has ls 4 [(0, .ref (ad 7))] := hl
  unfold x_Layout_givePlaces at hm
  refine lv_iconst (v := 0) hx hb d_Layout_givePlaces_0 (by decide) ?_
  refine lv_istore_n (lv' := [(1, .int (0 : Int32)), (0, .ref (ad 7))]) hx hb d_Layout_givePlaces_1 rfl hl (by decide) rfl (fun ls hl => ?_)
  refine lv_iconst (v := 0) hx hb d_Layout_givePlaces_2 (by decide) ?_
  refine lv_istore_n (lv' := [(2, .int (0 : Int32)), (1, .int (0 : Int32)), (0, .ref (ad 7))]) hx hb d_Layout_givePlaces_3 rfl hl (by decide) rfl (fun ls hl => ?_)
  obtain ⟨n4, hm⟩ := hm
  exact B4  n4 s (0 : Int32) (0 : Int32) hm H locs ls hP hD hS (lv_sub hl [2, 1, 0] rfl)
set_option maxHeartbeats 4000000 in
set_option maxRecDepth 100000 in
theorem c_Layout_stretchJumps (l : Launch) (D : va_G) (ad : Nat → Nat) (ca : Nat → ClassId) (sz : Nat) (s : St) (Post : Int32 → St → Prop) (hm : x_Layout_stretchJumps s  Post) : CtI l y_Layout_stretchJumps w_Layout_stretchJumps { frames := 3, cells := 0, slots := 0, locals := 63 } D vwCl (tyX ca) (wX ad ca) sz [.ref (ad 7)] s Post := by
  refine ct_i (cc := prog_2_method_17_code) (maxL := 5) (ret := (some .boolean)) (by decide) rfl (Nat.le_of_ble_eq_true rfl) ?_
  intro p e s0 m args below meth c A hx hb hr hts hown hlocks hml hK hA
  have hown : s0.vm.findClass R_Layout = some m.cls := hown
  have B109 : ∀ (K7 : St → Int32 → Int32 → Prop) (hK7 : ∀ (s : St) (x1 : Int32) (x2 : Int32), K7 s x1 x2 → Bk D vwCl (wX ad ca) A p l e { frames := 3, cells := 0, slots := 0, locals := 63 } s0 m args below meth c (MQ below (va_Qi Post (atG D vwCl (tyX ca) (wX ad ca) A) A) args s0 0 0 A) 5 7 s [(0, .ref (ad 7)), (1, .int x1), (2, .int x2)] []) (s : St) (x1 : Int32) (x2 : Int32), x_Layout_stretchJumps_109 K7 Post s x1 x2 → Bk D vwCl (wX ad ca) A p l e { frames := 3, cells := 0, slots := 0, locals := 63 } s0 m args below meth c (MQ below (va_Qi Post (atG D vwCl (tyX ca) (wX ad ca) A) A) args s0 0 0 A) 5 109 s [(0, .ref (ad 7)), (1, .int x1), (2, .int x2)] [] := by
    intro K7 hK7 s x1 x2 hm H locs ls hP hD hS hl
    unfold x_Layout_stretchJumps_109 at hm
    obtain ⟨v23, ev23⟩ : ∃ y : Int32, y = x2 + 1 := ⟨_, rfl⟩
    replace hm := hm v23 ev23
    refine lv_iinc (v := v23) (lv' := [(2, .int v23), (0, .ref (ad 7)), (1, .int x1)]) hx hb d_Layout_stretchJumps_109 hl (k := 2) rfl (by rw [ev23]; rfl) (by decide) rfl (fun ls hl => ?_)
    refine lv_goto (tgt := 7) hx hb d_Layout_stretchJumps_112 (by decide) ?_
    exact hK7 s x1 v23 hm H locs ls hP hD hS (lv_sub hl [1, 2, 0] rfl)
  have B92 : ∀ (K7 : St → Int32 → Int32 → Prop) (hK7 : ∀ (s : St) (x1 : Int32) (x2 : Int32), K7 s x1 x2 → Bk D vwCl (wX ad ca) A p l e { frames := 3, cells := 0, slots := 0, locals := 63 } s0 m args below meth c (MQ below (va_Qi Post (atG D vwCl (tyX ca) (wX ad ca) A) A) args s0 0 0 A) 5 7 s [(0, .ref (ad 7)), (1, .int x1), (2, .int x2)] []) (s : St) (x1 : Int32) (x2 : Int32) (x3 : Int32), x_Layout_stretchJumps_92 K7 Post s x1 x2 x3 → Bk D vwCl (wX ad ca) A p l e { frames := 3, cells := 0, slots := 0, locals := 63 } s0 m args below meth c (MQ below (va_Qi Post (atG D vwCl (tyX ca) (wX ad ca) A) A) args s0 0 0 A) 5 92 s [(0, .ref (ad 7)), (1, .int x1), (2, .int x2), (3, .int x3)] [] := by
    intro K7 hK7 s x1 x2 x3 hm H locs ls hP hD hS hl
    unfold x_Layout_stretchJumps_92 at hm
    refine lv_aload_n hx hb d_Layout_stretchJumps_92 rfl (lv_at hl 0 rfl) ?_
    refine va_get (D := D) (ci := 3) (v := .ref (ad 16)) (C := R_Layout) (T := T_Layout) (N := 16) hx hb hts in_Layout hown hK hP 7 rfl rfl 10 (by decide) (hts _ wd101) (fun _ h9 => h9) rfl d_Layout_stretchJumps_93 ?_
    refine lv_iload_n hx hb d_Layout_stretchJumps_96 rfl (lv_at hl 3 rfl) ?_
    refine lv_iconst (v := 1) hx hb d_Layout_stretchJumps_97 (by decide) ?_
    obtain ⟨h20, hm⟩ := hm
    refine va_zast hx hb hK hP hD hS 16 12 rfl rfl h20 d_Layout_stretchJumps_98 (fun H locs hP hD hS => ?_)
    have hP : va_P D vwCl (wX ad ca (su s 12 (x3).toNatClampNeg (vp_nar .boolean (1 : Int32)))) H := hP
    have hD : va_D A (wX ad ca (su s 12 (x3).toNatClampNeg (vp_nar .boolean (1 : Int32)))) := hD
    obtain ⟨s21, es21⟩ : ∃ z : St, z = su s 12 (x3).toNatClampNeg (vp_nar .boolean (1 : Int32)) := ⟨_, rfl⟩
    rw [← es21] at hP hD
    replace hm := hm s21 es21
    refine lv_aload_n hx hb d_Layout_stretchJumps_99 rfl (lv_at hl 0 rfl) ?_
    refine lv_dup hx hb d_Layout_stretchJumps_100 rfl ?_
    refine va_get (D := D) (ci := 3) (v := .int (s21 15 8)) (C := R_Layout) (T := T_Layout) (N := 16) hx hb hts in_Layout hown hK hP 7 rfl rfl 14 (by decide) (hts _ wd111) (fun _ h9 => h9) rfl d_Layout_stretchJumps_101 ?_
    refine lv_iconst (v := 1) hx hb d_Layout_stretchJumps_104 (by decide) ?_
    refine lv_iadd hx hb d_Layout_stretchJumps_105 ?_
    refine va_put (D := D) (ci := 3) (v := .int ((s21 15 8) + (1 : Int32))) (ty := .int) (C := R_Layout) (T := T_Layout) (N := 16) hx hb hts in_Layout t_Layout to_Layout no_Layout hown hK hP hD hS 7 rfl rfl 14 (by decide) (hts _ wd111) (fun _ h9 => h9) rfl (by decide +kernel) rfl rfl (Nat.le_of_ble_eq_true rfl) d_Layout_stretchJumps_106 (fun H locs hP hD hS => ?_)
    have hP : va_P D vwCl (wX ad ca (su s21 15 8 ((s21 15 8) + (1 : Int32)))) H := hP
    have hD : va_D A (wX ad ca (su s21 15 8 ((s21 15 8) + (1 : Int32)))) := hD
    obtain ⟨s22, es22⟩ : ∃ z : St, z = su s21 15 8 ((s21 15 8) + (1 : Int32)) := ⟨_, rfl⟩
    rw [← es22] at hP hD
    replace hm := hm s22 es22
    exact B109 K7 hK7 s22 x1 x2 hm H locs ls hP hD hS (lv_sub hl [0, 1, 2] rfl)
  have B7 : ∀ (n : Nat) (s : St) (x1 : Int32) (x2 : Int32), x_Layout_stretchJumps_7  Post n s x1 x2 → Bk D vwCl (wX ad ca) A p l e { frames := 3, cells := 0, slots := 0, locals := 63 } s0 m args below meth c (MQ below (va_Qi Post (atG D vwCl (tyX ca) (wX ad ca) A) A) args s0 0 0 A) 5 7 s [(0, .ref (ad 7)), (1, .int x1), (2, .int x2)] [] := by
    intro  n7
    induction n7 with
    | zero => intro s x1 x2 hm; exact hm.elim
    | succ n7 hK7 =>
      intro s x1 x2 hm H locs ls hP hD hS hl
      have hm : x_Layout_stretchJumps_7F  Post (fun s x1 x2 => x_Layout_stretchJumps_7  Post n7 s x1 x2) s x1 x2 := hm
      unfold x_Layout_stretchJumps_7F at hm
      refine lv_iload_n hx hb d_Layout_stretchJumps_7 rfl (lv_at hl 2 rfl) ?_
      refine lv_aload_n hx hb d_Layout_stretchJumps_8 rfl (lv_at hl 0 rfl) ?_
      refine va_get (D := D) (ci := 3) (v := .int (s 15 5)) (C := R_Layout) (T := T_Layout) (N := 16) hx hb hts in_Layout hown hK hP 7 rfl rfl 11 (by decide) (hts _ wd105) (fun _ h9 => h9) rfl d_Layout_stretchJumps_9 ?_
      refine lv_icmp_ge (tgt := 115) hx hb d_Layout_stretchJumps_12 (by decide) (fun c2 => ?_) (fun c2 => ?_)
      · replace hm := hm.1 c2
        refine lv_aload_n hx hb d_Layout_stretchJumps_115 rfl (lv_at hl 0 rfl) ?_
        refine va_get (D := D) (ci := 3) (v := .int (s 15 8)) (C := R_Layout) (T := T_Layout) (N := 16) hx hb hts in_Layout hown hK hP 7 rfl rfl 14 (by decide) (hts _ wd111) (fun _ h9 => h9) rfl d_Layout_stretchJumps_116 ?_
        refine lv_iload_n hx hb d_Layout_stretchJumps_119 rfl (lv_at hl 1 rfl) ?_
        refine lv_icmp_le (tgt := 127) hx hb d_Layout_stretchJumps_120 (by decide) (fun c3 => ?_) (fun c3 => ?_)
        · replace hm := hm.1 c3
          refine lv_iconst (v := 0) hx hb d_Layout_stretchJumps_127 (by decide) ?_
          exact rt_z hx hb hr hm.1 hlocks hK hP hD hS d_Layout_stretchJumps_128 hm.2
        · replace hm := hm.2 c3
          refine lv_iconst (v := 1) hx hb d_Layout_stretchJumps_123 (by decide) ?_
          refine lv_goto (tgt := 128) hx hb d_Layout_stretchJumps_124 (by decide) ?_
          exact rt_z hx hb hr hm.1 hlocks hK hP hD hS d_Layout_stretchJumps_128 hm.2
      · replace hm := hm.2 c2
        refine lv_aload_n hx hb d_Layout_stretchJumps_15 rfl (lv_at hl 0 rfl) ?_
        refine va_get (D := D) (ci := 3) (v := .ref (ad 8)) (C := R_Layout) (T := T_Layout) (N := 16) hx hb hts in_Layout hown hK hP 7 rfl rfl 2 (by decide) (hts _ wd81) (fun _ h9 => h9) rfl d_Layout_stretchJumps_16 ?_
        refine lv_iload_n hx hb d_Layout_stretchJumps_19 rfl (lv_at hl 2 rfl) ?_
        obtain ⟨h4, hm⟩ := hm
        refine va_iald hx hb hK hP 8 4 rfl rfl h4 d_Layout_stretchJumps_20 ?_
        refine lv_topi (fun v5 ev5 => ?_)
        replace hm := hm v5 ev5
        refine lv_istore_n (lv' := [(3, .int v5), (0, .ref (ad 7)), (1, .int x1), (2, .int x2)]) hx hb d_Layout_stretchJumps_21 rfl hl (by decide) rfl (fun ls hl => ?_)
        refine lv_aload_n hx hb d_Layout_stretchJumps_22 rfl (lv_at hl 1 rfl) ?_
        refine va_get (D := D) (ci := 3) (v := .ref (ad 16)) (C := R_Layout) (T := T_Layout) (N := 16) hx hb hts in_Layout hown hK hP 7 rfl rfl 10 (by decide) (hts _ wd101) (fun _ h9 => h9) rfl d_Layout_stretchJumps_23 ?_
        refine lv_iload_n hx hb d_Layout_stretchJumps_26 rfl (lv_at hl 0 rfl) ?_
        obtain ⟨h6, hm⟩ := hm
        refine va_zald hx hb hK hP 16 12 rfl rfl h6 d_Layout_stretchJumps_27 ?_
        refine lv_if_ne (tgt := 109) hx hb d_Layout_stretchJumps_28 (by decide) (fun c7 => ?_) (fun c7 => ?_)
        · replace hm := hm.1 c7
          exact B109 (fun s x1 x2 => x_Layout_stretchJumps_7  Post n7 s x1 x2) hK7 s x1 x2 hm H locs ls hP hD hS (lv_sub hl [1, 2, 3] rfl)
        · replace hm := hm.2 c7
          refine lv_aload_n hx hb d_Layout_stretchJumps_31 rfl (lv_at hl 1 rfl) ?_
          refine va_get (D := D) (ci := 3) (v := .ref (ad 1)) (C := R_Layout) (T := T_Layout) (N := 16) hx hb hts in_Layout hown hK hP 7 rfl rfl 0 (by decide) (hts _ wd79) (fun _ h9 => h9) rfl d_Layout_stretchJumps_32 ?_
          refine lv_iload_n hx hb d_Layout_stretchJumps_35 rfl (lv_at hl 0 rfl) ?_
          refine cg_Vi (b := (ad 1)) (As := [.int v5]) (rest := []) ⟨hx, hb, hml, hown, hts⟩ hK hP hD hS hA (c_Source_u1 l D ad ca H.size s v5 _ hm) (cwA 1 hts wd275 wd2 wd308 wd273 wd274 (by decide +kernel) ⟨Nat.le_of_ble_eq_true rfl, Nat.le_of_ble_eq_true rfl⟩) (va_recv hK hP (ci := 1) (q0 := 1) rfl rfl) rfl hl rfl (Nat.le_of_ble_eq_true rfl) d_Layout_stretchJumps_36 (fun r8 s9 hm => ?_)
          intro H locs ls hP hD hS hl
          refine cg_Si (As := [.int r8]) (rest := []) ⟨hx, hb, hml, hown, hts⟩ hK hP hD hS hA (c_Opcodes_isShortJump l D ad ca H.size s9 r8 _ hm) (cwB 1 hts wd307 wd8 wd338 wd306 (by decide +kernel) ⟨Nat.le_of_ble_eq_true rfl, Nat.le_of_ble_eq_true rfl⟩) rfl hl rfl (Nat.le_of_ble_eq_true rfl) d_Layout_stretchJumps_39 (fun r10 s11 hm => ?_)
          intro H locs ls hP hD hS hl
          refine lv_if_eq (tgt := 109) hx hb d_Layout_stretchJumps_42 (by decide) (fun c12 => ?_) (fun c12 => ?_)
          · replace hm := hm.1 c12
            exact B109 (fun s x1 x2 => x_Layout_stretchJumps_7  Post n7 s x1 x2) hK7 s11 x1 x2 hm H locs ls hP hD hS (lv_sub hl [1, 2, 3] rfl)
          · replace hm := hm.2 c12
            refine lv_aload_n hx hb d_Layout_stretchJumps_45 rfl (lv_at hl 1 rfl) ?_
            refine va_get (D := D) (ci := 3) (v := .ref (ad 14)) (C := R_Layout) (T := T_Layout) (N := 16) hx hb hts in_Layout hown hK hP 7 rfl rfl 8 (by decide) (hts _ wd95) (fun _ h9 => h9) rfl d_Layout_stretchJumps_46 ?_
            refine lv_aload_n hx hb d_Layout_stretchJumps_49 rfl (lv_at hl 1 rfl) ?_
            refine va_get (D := D) (ci := 3) (v := .ref (ad 1)) (C := R_Layout) (T := T_Layout) (N := 16) hx hb hts in_Layout hown hK hP 7 rfl rfl 0 (by decide) (hts _ wd79) (fun _ h9 => h9) rfl d_Layout_stretchJumps_50 ?_
            refine lv_iload_n hx hb d_Layout_stretchJumps_53 rfl (lv_at hl 0 rfl) ?_
            refine cg_Vi (b := (ad 1)) (As := [.int v5]) (rest := [.ref (ad 14)]) ⟨hx, hb, hml, hown, hts⟩ hK hP hD hS hA (c_Source_jumpGoal l D ad ca H.size s11 v5 _ hm) (cwA 1 hts wd342 wd2 wd339 wd340 wd341 (by decide +kernel) ⟨Nat.le_of_ble_eq_true rfl, Nat.le_of_ble_eq_true rfl⟩) (va_recv hK hP (ci := 1) (q0 := 1) rfl rfl) rfl hl rfl (Nat.le_of_ble_eq_true rfl) d_Layout_stretchJumps_54 (fun r13 s14 hm => ?_)
            intro H locs ls hP hD hS hl
            obtain ⟨h15, hm⟩ := hm
            refine va_iald hx hb hK hP 14 10 rfl rfl h15 d_Layout_stretchJumps_57 ?_
            refine lv_aload_n hx hb d_Layout_stretchJumps_58 rfl (lv_at hl 1 rfl) ?_
            refine va_get (D := D) (ci := 3) (v := .ref (ad 15)) (C := R_Layout) (T := T_Layout) (N := 16) hx hb hts in_Layout hown hK hP 7 rfl rfl 9 (by decide) (hts _ wd98) (fun _ h9 => h9) rfl d_Layout_stretchJumps_59 ?_
            refine lv_iload_n hx hb d_Layout_stretchJumps_62 rfl (lv_at hl 0 rfl) ?_
            obtain ⟨h16, hm⟩ := hm
            refine va_iald hx hb hK hP 15 11 rfl rfl h16 d_Layout_stretchJumps_63 ?_
            refine lv_isub hx hb d_Layout_stretchJumps_64 ?_
            refine lv_topi (fun v17 ev17 => ?_)
            replace hm := hm v17 ev17
            refine lv_istore (lv' := [(4, .int v17), (3, .int v5), (0, .ref (ad 7)), (1, .int x1), (2, .int x2)]) hx hb d_Layout_stretchJumps_65 hl (by decide) rfl (fun ls hl => ?_)
            refine lv_iload hx hb d_Layout_stretchJumps_67 (lv_at hl 0 rfl) ?_
            refine lv_aload_n hx hb d_Layout_stretchJumps_69 rfl (lv_at hl 2 rfl) ?_
            refine va_get (D := D) (ci := 3) (v := .ref (ad 4)) (C := R_Layout) (T := T_Layout) (N := 16) hx hb hts in_Layout hown hK hP 7 rfl rfl 1 (by decide) (hts _ wd80) (fun _ h9 => h9) rfl d_Layout_stretchJumps_70 ?_
            refine va_get (D := D) (ci := 2) (v := .int (s14 15 4)) (C := R_Tariff) (T := T_Tariff) (N := 4) hx hb hts in_Tariff hown hK hP 4 rfl rfl 3 (by decide) (hts _ wd62) (fun _ h9 => h9) rfl d_Layout_stretchJumps_73 ?_
            refine lv_ineg hx hb d_Layout_stretchJumps_76 ?_
            refine lv_icmp_lt (tgt := 92) hx hb d_Layout_stretchJumps_77 (by decide) (fun c18 => ?_) (fun c18 => ?_)
            · replace hm := hm.1 c18
              exact B92 (fun s x1 x2 => x_Layout_stretchJumps_7  Post n7 s x1 x2) hK7 s14 x1 x2 v5 hm H locs ls hP hD hS (lv_sub hl [2, 3, 4, 1] rfl)
            · replace hm := hm.2 c18
              refine lv_iload hx hb d_Layout_stretchJumps_80 (lv_at hl 0 rfl) ?_
              refine lv_aload_n hx hb d_Layout_stretchJumps_82 rfl (lv_at hl 2 rfl) ?_
              refine va_get (D := D) (ci := 3) (v := .ref (ad 4)) (C := R_Layout) (T := T_Layout) (N := 16) hx hb hts in_Layout hown hK hP 7 rfl rfl 1 (by decide) (hts _ wd80) (fun _ h9 => h9) rfl d_Layout_stretchJumps_83 ?_
              refine va_get (D := D) (ci := 2) (v := .int (s14 15 4)) (C := R_Tariff) (T := T_Tariff) (N := 4) hx hb hts in_Tariff hown hK hP 4 rfl rfl 3 (by decide) (hts _ wd62) (fun _ h9 => h9) rfl d_Layout_stretchJumps_86 ?_
              refine lv_icmp_le (tgt := 109) hx hb d_Layout_stretchJumps_89 (by decide) (fun c19 => ?_) (fun c19 => ?_)
              · replace hm := hm.1 c19
                exact B109 (fun s x1 x2 => x_Layout_stretchJumps_7  Post n7 s x1 x2) hK7 s14 x1 x2 hm H locs ls hP hD hS (lv_sub hl [2, 3, 4] rfl)
              · replace hm := hm.2 c19
                exact B92 (fun s x1 x2 => x_Layout_stretchJumps_7  Post n7 s x1 x2) hK7 s14 x1 x2 v5 hm H locs ls hP hD hS (lv_sub hl [2, 3, 4, 1] rfl)
  intro H locs ls hP hD hS hl
  have hl : lv_has ls 5 [(0, .ref (ad 7))] := hl
  unfold x_Layout_stretchJumps at hm
  refine lv_aload_n hx hb d_Layout_stretchJumps_0 rfl (lv_at hl 0 rfl) ?_
  refine va_get (D := D) (ci := 3) (v := .int (s 15 8)) (C := R_Layout) (T := T_Layout) (N := 16) hx hb hts in_Layout hown hK hP 7 rfl rfl 14 (by decide) (hts _ wd111) (fun _ h9 => h9) rfl d_Layout_stretchJumps_1 ?_
  refine lv_topi (fun v1 ev1 => ?_)
  replace hm := hm v1 ev1
  refine lv_istore_n (lv' := [(1, .int v1), (0, .ref (ad 7))]) hx hb d_Layout_stretchJumps_4 rfl hl (by decide) rfl (fun ls hl => ?_)
  refine lv_iconst (v := 0) hx hb d_Layout_stretchJumps_5 (by decide) ?_
  refine lv_istore_n (lv' := [(2, .int (0 : Int32)), (1, .int v1), (0, .ref (ad 7))]) hx hb d_Layout_stretchJumps_6 rfl hl (by decide) rfl (fun ls hl => ?_)
  obtain ⟨n7, hm⟩ := hm
  exact B7  n7 s v1 (0 : Int32) hm H locs ls hP hD hS (lv_sub hl [2, 1, 0] rfl)
set_option maxHeartbeats 4000000 in
set_option maxRecDepth 100000 in
theorem c_Layout_settle (l : Launch) (D : va_G) (ad : Nat → Nat) (ca : Nat → ClassId) (sz : Nat) (s : St) (Post : St → Prop) (hm : x_Layout_settle s  Post) : CtV l y_Layout_settle w_Layout_settle { frames := 4, cells := 0, slots := 0, locals := 87 } D vwCl (tyX ca) (wX ad ca) sz [.ref (ad 7)] s Post := by
  refine ct_v (cc := prog_2_method_14_code) (maxL := 2) (ret := none) (by decide) rfl (Nat.le_of_ble_eq_true rfl) ?_
  intro p e s0 m args below meth c A hx hb hr hts hown hlocks hml hK hA
  have hown : s0.vm.findClass R_Layout = some m.cls := hown
  have B2 : ∀ (n : Nat) (s : St) (x1 : Int32), x_Layout_settle_2  Post n s x1 → Bk D vwCl (wX ad ca) A p l e { frames := 4, cells := 0, slots := 0, locals := 87 } s0 m args below meth c (MQ below (va_Qv Post (atG D vwCl (tyX ca) (wX ad ca) A) A) args s0 0 0 A) 2 2 s [(0, .ref (ad 7)), (1, .int x1)] [] := by
    intro  n2
    induction n2 with
    | zero => intro s x1 hm; exact hm.elim
    | succ n2 hK2 =>
      intro s x1 hm H locs ls hP hD hS hl
      have hm : x_Layout_settle_2F  Post (fun s x1 => x_Layout_settle_2  Post n2 s x1) s x1 := hm
      unfold x_Layout_settle_2F at hm
      refine lv_iload_n hx hb d_Layout_settle_2 rfl (lv_at hl 1 rfl) ?_
      refine lv_if_eq (tgt := 38) hx hb d_Layout_settle_3 (by decide) (fun c1 => ?_) (fun c1 => ?_)
      · replace hm := hm.1 c1
        exact rt_v hx hb hr hlocks hK hP hD hS d_Layout_settle_38 hm
      · replace hm := hm.2 c1
        refine lv_aload_n hx hb d_Layout_settle_6 rfl (lv_at hl 0 rfl) ?_
        refine va_get (D := D) (ci := 3) (v := .int (s 15 7)) (C := R_Layout) (T := T_Layout) (N := 16) hx hb hts in_Layout hown hK hP 7 rfl rfl 13 (by decide) (hts _ wd109) (fun _ h9 => h9) rfl d_Layout_settle_7 ?_
        refine lv_sipush (v := 200) hx hb d_Layout_settle_10 (by decide) ?_
        refine lv_icmp_gt (tgt := 38) hx hb d_Layout_settle_13 (by decide) (fun c2 => ?_) (fun c2 => ?_)
        · replace hm := hm.1 c2
          exact rt_v hx hb hr hlocks hK hP hD hS d_Layout_settle_38 hm
        · replace hm := hm.2 c2
          refine lv_aload_n hx hb d_Layout_settle_16 rfl (lv_at hl 0 rfl) ?_
          refine lv_dup hx hb d_Layout_settle_17 rfl ?_
          refine va_get (D := D) (ci := 3) (v := .int (s 15 7)) (C := R_Layout) (T := T_Layout) (N := 16) hx hb hts in_Layout hown hK hP 7 rfl rfl 13 (by decide) (hts _ wd109) (fun _ h9 => h9) rfl d_Layout_settle_18 ?_
          refine lv_iconst (v := 1) hx hb d_Layout_settle_21 (by decide) ?_
          refine lv_iadd hx hb d_Layout_settle_22 ?_
          refine va_put (D := D) (ci := 3) (v := .int ((s 15 7) + (1 : Int32))) (ty := .int) (C := R_Layout) (T := T_Layout) (N := 16) hx hb hts in_Layout t_Layout to_Layout no_Layout hown hK hP hD hS 7 rfl rfl 13 (by decide) (hts _ wd109) (fun _ h9 => h9) rfl (by decide +kernel) rfl rfl (Nat.le_of_ble_eq_true rfl) d_Layout_settle_23 (fun H locs hP hD hS => ?_)
          have hP : va_P D vwCl (wX ad ca (su s 15 7 ((s 15 7) + (1 : Int32)))) H := hP
          have hD : va_D A (wX ad ca (su s 15 7 ((s 15 7) + (1 : Int32)))) := hD
          obtain ⟨s3, es3⟩ : ∃ z : St, z = su s 15 7 ((s 15 7) + (1 : Int32)) := ⟨_, rfl⟩
          rw [← es3] at hP hD
          replace hm := hm s3 es3
          refine lv_aload_n hx hb d_Layout_settle_26 rfl (lv_at hl 0 rfl) ?_
          refine cg_Vv (b := (ad 7)) (As := []) (rest := []) ⟨hx, hb, hml, hown, hts⟩ hK hP hD hS hA (c_Layout_givePlaces l D ad ca H.size s3 _ hm) (cwA 0 hts wd388 wd5 wd385 wd387 ws11 (by decide +kernel) ⟨Nat.le_of_ble_eq_true rfl, Nat.le_of_ble_eq_true rfl⟩) (va_recv hK hP (ci := 3) (q0 := 7) rfl rfl) rfl hl rfl (Nat.le_of_ble_eq_true rfl) d_Layout_settle_27 (fun s5 hm => ?_)
          intro H locs ls hP hD hS hl
          refine lv_aload_n hx hb d_Layout_settle_30 rfl (lv_at hl 0 rfl) ?_
          refine cg_Vi (b := (ad 7)) (As := []) (rest := []) ⟨hx, hb, hml, hown, hts⟩ hK hP hD hS hA (c_Layout_stretchJumps l D ad ca H.size s5 _ hm) (cwA 0 hts wd396 wd5 wd393 wd395 ws13 (by decide +kernel) ⟨Nat.le_of_ble_eq_true rfl, Nat.le_of_ble_eq_true rfl⟩) (va_recv hK hP (ci := 3) (q0 := 7) rfl rfl) rfl hl rfl (Nat.le_of_ble_eq_true rfl) d_Layout_settle_31 (fun r6 s7 hm => ?_)
          intro H locs ls hP hD hS hl
          refine lv_istore_n (lv' := [(1, .int r6), (0, .ref (ad 7))]) hx hb d_Layout_settle_34 rfl hl (by decide) rfl (fun ls hl => ?_)
          refine lv_goto (tgt := 2) hx hb d_Layout_settle_35 (by decide) ?_
          exact hK2 s7 r6 hm H locs ls hP hD hS (lv_sub hl [1, 0] rfl)
  intro H locs ls hP hD hS hl
  have hl : lv_has ls 2 [(0, .ref (ad 7))] := hl
  unfold x_Layout_settle at hm
  refine lv_iconst (v := 1) hx hb d_Layout_settle_0 (by decide) ?_
  refine lv_istore_n (lv' := [(1, .int (1 : Int32)), (0, .ref (ad 7))]) hx hb d_Layout_settle_1 rfl hl (by decide) rfl (fun ls hl => ?_)
  obtain ⟨n2, hm⟩ := hm
  exact B2  n2 s (1 : Int32) hm H locs ls hP hD hS (lv_sub hl [1, 0] rfl)
set_option maxHeartbeats 4000000 in
set_option maxRecDepth 100000 in
theorem c_Layout_make (l : Launch) (D : va_G) (ad : Nat → Nat) (ca : Nat → ClassId) (sz : Nat) (s : St) (Post : Int32 → St → Prop) (hm : x_Layout_make s  Post) : CtI l y_Layout_make w_Layout_make { frames := 5, cells := 0, slots := 0, locals := 115 } D vwCl (tyX ca) (wX ad ca) sz [.ref (ad 7)] s Post := by
  refine ct_i (cc := prog_2_method_3_code) (maxL := 2) (ret := (some .int)) (by decide) rfl (Nat.le_of_ble_eq_true rfl) ?_
  intro p e s0 m args below meth c A hx hb hr hts hown hlocks hml hK hA
  have hown : s0.vm.findClass R_Layout = some m.cls := hown
  have B63 : ∀ (s : St) (x1 : Int32), x_Layout_make_63  Post s x1 → Bk D vwCl (wX ad ca) A p l e { frames := 5, cells := 0, slots := 0, locals := 115 } s0 m args below meth c (MQ below (va_Qi Post (atG D vwCl (tyX ca) (wX ad ca) A) A) args s0 0 0 A) 2 63 s [(0, .ref (ad 7)), (1, .int x1)] [] := by
    intro  s x1 hm H locs ls hP hD hS hl
    unfold x_Layout_make_63 at hm
    refine lv_iload_n hx hb d_Layout_make_63 rfl (lv_at hl 1 rfl) ?_
    refine lv_if_eq (tgt := 71) hx hb d_Layout_make_64 (by decide) (fun c20 => ?_) (fun c20 => ?_)
    · replace hm := hm.1 c20
      refine lv_iload_n hx hb d_Layout_make_71 rfl (lv_at hl 1 rfl) ?_
      exact rt_i hx hb hr hlocks hK hP hD hS d_Layout_make_72 hm
    · replace hm := hm.2 c20
      refine lv_aload_n hx hb d_Layout_make_67 rfl (lv_at hl 0 rfl) ?_
      refine cg_Vv (b := (ad 7)) (As := []) (rest := []) ⟨hx, hb, hml, hown, hts⟩ hK hP hD hS hA (c_Layout_forget l D ad ca H.size s _ hm) (cwA 0 hts wd262 wd5 wd259 wd261 ws0 (by decide +kernel) ⟨Nat.le_of_ble_eq_true rfl, Nat.le_of_ble_eq_true rfl⟩) (va_recv hK hP (ci := 3) (q0 := 7) rfl rfl) rfl hl rfl (Nat.le_of_ble_eq_true rfl) d_Layout_make_68 (fun s22 hm => ?_)
      intro H locs ls hP hD hS hl
      refine lv_iload_n hx hb d_Layout_make_71 rfl (lv_at hl 1 rfl) ?_
      exact rt_i hx hb hr hlocks hK hP hD hS d_Layout_make_72 hm
  have B62 : ∀ (s : St) (y0 : Int32), x_Layout_make_62  Post s y0 → Bk D vwCl (wX ad ca) A p l e { frames := 5, cells := 0, slots := 0, locals := 115 } s0 m args below meth c (MQ below (va_Qi Post (atG D vwCl (tyX ca) (wX ad ca) A) A) args s0 0 0 A) 2 62 s [(0, .ref (ad 7))] [.int y0] := by
    intro  s y0 hm H locs ls hP hD hS hl
    unfold x_Layout_make_62 at hm
    refine lv_istore_n (lv' := [(1, .int y0), (0, .ref (ad 7))]) hx hb d_Layout_make_62 rfl hl (by decide) rfl (fun ls hl => ?_)
    exact B63  s y0 hm H locs ls hP hD hS (lv_sub hl [1, 0] rfl)
  intro H locs ls hP hD hS hl
  have hl : lv_has ls 2 [(0, .ref (ad 7))] := hl
  unfold x_Layout_make at hm
  refine lv_aload_n hx hb d_Layout_make_0 rfl (lv_at hl 0 rfl) ?_
  refine cg_Vv (b := (ad 7)) (As := []) (rest := []) ⟨hx, hb, hml, hown, hts⟩ hK hP hD hS hA (c_Layout_forget l D ad ca H.size s _ hm) (cwA 0 hts wd262 wd5 wd259 wd261 ws0 (by decide +kernel) ⟨Nat.le_of_ble_eq_true rfl, Nat.le_of_ble_eq_true rfl⟩) (va_recv hK hP (ci := 3) (q0 := 7) rfl rfl) rfl hl rfl (Nat.le_of_ble_eq_true rfl) d_Layout_make_1 (fun s2 hm => ?_)
  intro H locs ls hP hD hS hl
  refine lv_iconst (v := 1) hx hb d_Layout_make_4 (by decide) ?_
  refine lv_istore_n (lv' := [(1, .int (1 : Int32)), (0, .ref (ad 7))]) hx hb d_Layout_make_5 rfl hl (by decide) rfl (fun ls hl => ?_)
  refine lv_aload_n hx hb d_Layout_make_6 rfl (lv_at hl 1 rfl) ?_
  refine cg_Vi (b := (ad 7)) (As := []) (rest := []) ⟨hx, hb, hml, hown, hts⟩ hK hP hD hS hA (c_Layout_readInstructions l D ad ca H.size s2 _ hm) (cwA 0 hts wd267 wd5 wd264 wd266 ws1 (by decide +kernel) ⟨Nat.le_of_ble_eq_true rfl, Nat.le_of_ble_eq_true rfl⟩) (va_recv hK hP (ci := 3) (q0 := 7) rfl rfl) rfl hl rfl (Nat.le_of_ble_eq_true rfl) d_Layout_make_7 (fun r3 s4 hm => ?_)
  intro H locs ls hP hD hS hl
  refine lv_if_eq (tgt := 63) hx hb d_Layout_make_10 (by decide) (fun c5 => ?_) (fun c5 => ?_)
  · replace hm := hm.1 c5
    exact B63  s4 (1 : Int32) hm H locs ls hP hD hS (lv_sub hl [1, 0] rfl)
  · replace hm := hm.2 c5
    refine lv_aload_n hx hb d_Layout_make_13 rfl (lv_at hl 1 rfl) ?_
    refine cg_Vi (b := (ad 7)) (As := []) (rest := []) ⟨hx, hb, hml, hown, hts⟩ hK hP hD hS hA (c_Layout_readGoals l D ad ca H.size s4 _ hm) (cwA 0 hts wd312 wd5 wd309 wd311 ws4 (by decide +kernel) ⟨Nat.le_of_ble_eq_true rfl, Nat.le_of_ble_eq_true rfl⟩) (va_recv hK hP (ci := 3) (q0 := 7) rfl rfl) rfl hl rfl (Nat.le_of_ble_eq_true rfl) d_Layout_make_14 (fun r6 s7 hm => ?_)
    intro H locs ls hP hD hS hl
    refine lv_if_eq (tgt := 63) hx hb d_Layout_make_17 (by decide) (fun c8 => ?_) (fun c8 => ?_)
    · replace hm := hm.1 c8
      exact B63  s7 (1 : Int32) hm H locs ls hP hD hS (lv_sub hl [1, 0] rfl)
    · replace hm := hm.2 c8
      refine lv_aload_n hx hb d_Layout_make_20 rfl (lv_at hl 1 rfl) ?_
      refine cg_Vi (b := (ad 7)) (As := []) (rest := []) ⟨hx, hb, hml, hown, hts⟩ hK hP hD hS hA (c_Layout_readHandlers l D ad ca H.size s7 _ hm) (cwA 0 hts wd350 wd5 wd347 wd349 ws7 (by decide +kernel) ⟨Nat.le_of_ble_eq_true rfl, Nat.le_of_ble_eq_true rfl⟩) (va_recv hK hP (ci := 3) (q0 := 7) rfl rfl) rfl hl rfl (Nat.le_of_ble_eq_true rfl) d_Layout_make_21 (fun r9 s10 hm => ?_)
      intro H locs ls hP hD hS hl
      refine lv_if_eq (tgt := 63) hx hb d_Layout_make_24 (by decide) (fun c11 => ?_) (fun c11 => ?_)
      · replace hm := hm.1 c11
        exact B63  s10 (1 : Int32) hm H locs ls hP hD hS (lv_sub hl [1, 0] rfl)
      · replace hm := hm.2 c11
        refine lv_aload_n hx hb d_Layout_make_27 rfl (lv_at hl 1 rfl) ?_
        refine cg_Vv (b := (ad 7)) (As := []) (rest := []) ⟨hx, hb, hml, hown, hts⟩ hK hP hD hS hA (c_Layout_sumBlocks l D ad ca H.size s10 _ hm) (cwA 0 hts wd362 wd5 wd359 wd361 ws8 (by decide +kernel) ⟨Nat.le_of_ble_eq_true rfl, Nat.le_of_ble_eq_true rfl⟩) (va_recv hK hP (ci := 3) (q0 := 7) rfl rfl) rfl hl rfl (Nat.le_of_ble_eq_true rfl) d_Layout_make_28 (fun s13 hm => ?_)
        intro H locs ls hP hD hS hl
        refine lv_aload_n hx hb d_Layout_make_31 rfl (lv_at hl 1 rfl) ?_
        refine cg_Vv (b := (ad 7)) (As := []) (rest := []) ⟨hx, hb, hml, hown, hts⟩ hK hP hD hS hA (c_Layout_measureLeads l D ad ca H.size s13 _ hm) (cwA 0 hts wd373 wd5 wd370 wd372 ws9 (by decide +kernel) ⟨Nat.le_of_ble_eq_true rfl, Nat.le_of_ble_eq_true rfl⟩) (va_recv hK hP (ci := 3) (q0 := 7) rfl rfl) rfl hl rfl (Nat.le_of_ble_eq_true rfl) d_Layout_make_32 (fun s15 hm => ?_)
        intro H locs ls hP hD hS hl
        refine lv_aload_n hx hb d_Layout_make_35 rfl (lv_at hl 1 rfl) ?_
        refine cg_Vv (b := (ad 7)) (As := []) (rest := []) ⟨hx, hb, hml, hown, hts⟩ hK hP hD hS hA (c_Layout_settle l D ad ca H.size s15 _ hm) (cwA 0 hts wd384 wd5 wd381 wd383 ws10 (by decide +kernel) ⟨Nat.le_of_ble_eq_true rfl, Nat.le_of_ble_eq_true rfl⟩) (va_recv hK hP (ci := 3) (q0 := 7) rfl rfl) rfl hl rfl (Nat.le_of_ble_eq_true rfl) d_Layout_make_36 (fun s17 hm => ?_)
        intro H locs ls hP hD hS hl
        refine lv_aload_n hx hb d_Layout_make_39 rfl (lv_at hl 1 rfl) ?_
        refine va_get (D := D) (ci := 3) (v := .ref (ad 14)) (C := R_Layout) (T := T_Layout) (N := 16) hx hb hts in_Layout hown hK hP 7 rfl rfl 8 (by decide) (hts _ wd95) (fun _ h9 => h9) rfl d_Layout_make_40 ?_
        refine lv_aload_n hx hb d_Layout_make_43 rfl (lv_at hl 1 rfl) ?_
        refine va_get (D := D) (ci := 3) (v := .ref (ad 1)) (C := R_Layout) (T := T_Layout) (N := 16) hx hb hts in_Layout hown hK hP 7 rfl rfl 0 (by decide) (hts _ wd79) (fun _ h9 => h9) rfl d_Layout_make_44 ?_
        refine va_get (D := D) (ci := 1) (v := .int (s17 15 1)) (C := R_Source) (T := T_Source) (N := 4) hx hb hts in_Source hown hK hP 1 rfl rfl 2 (by decide) (hts _ wd28) (fun _ h9 => h9) rfl d_Layout_make_47 ?_
        obtain ⟨h18, hm⟩ := hm
        refine va_iald hx hb hK hP 14 10 rfl rfl h18 d_Layout_make_50 ?_
        refine lv_sipush (v := 1200) hx hb d_Layout_make_51 (by decide) ?_
        refine lv_icmp_le (tgt := 61) hx hb d_Layout_make_54 (by decide) (fun c19 => ?_) (fun c19 => ?_)
        · replace hm := hm.1 c19
          refine lv_iconst (v := 0) hx hb d_Layout_make_61 (by decide) ?_
          exact B62  s17 (0 : Int32) hm H locs ls hP hD hS (lv_sub hl [1] rfl)
        · replace hm := hm.2 c19
          refine lv_iconst (v := 2) hx hb d_Layout_make_57 (by decide) ?_
          refine lv_goto (tgt := 62) hx hb d_Layout_make_58 (by decide) ?_
          exact B62  s17 (2 : Int32) hm H locs ls hP hD hS (lv_sub hl [1] rfl)
set_option maxHeartbeats 4000000 in
set_option maxRecDepth 100000 in
theorem c_Output_writeGuards (l : Launch) (D : va_G) (ad : Nat → Nat) (ca : Nat → ClassId) (sz : Nat) (s : St) (Post : St → Prop) (hm : x_Output_writeGuards s  Post) : CtV l y_Output_writeGuards w_Output_writeGuards { frames := 1, cells := 0, slots := 0, locals := 22 } D vwCl (tyX ca) (wX ad ca) sz [.ref (ad 17)] s Post := by
  refine ct_v (cc := prog_4_method_8_code) (maxL := 4) (ret := none) (by decide) rfl (Nat.le_of_ble_eq_true rfl) ?_
  intro p e s0 m args below meth c A hx hb hr hts hown hlocks hml hK hA
  have hown : s0.vm.findClass R_Output = some m.cls := hown
  have B19 : ∀ (K2 : St → Int32 → Prop) (hK2 : ∀ (s : St) (x1 : Int32), K2 s x1 → Bk D vwCl (wX ad ca) A p l e { frames := 1, cells := 0, slots := 0, locals := 22 } s0 m args below meth c (MQ below (va_Qv Post (atG D vwCl (tyX ca) (wX ad ca) A) A) args s0 0 0 A) 4 2 s [(0, .ref (ad 17)), (1, .int x1)] []) (n : Nat) (s : St) (x1 : Int32) (x2 : Int32) (x3 : Int32), x_Output_writeGuards_19 K2 Post n s x1 x2 x3 → Bk D vwCl (wX ad ca) A p l e { frames := 1, cells := 0, slots := 0, locals := 22 } s0 m args below meth c (MQ below (va_Qv Post (atG D vwCl (tyX ca) (wX ad ca) A) A) args s0 0 0 A) 4 19 s [(0, .ref (ad 17)), (1, .int x1), (2, .int x2), (3, .int x3)] [] := by
    intro K2 hK2 n19
    induction n19 with
    | zero => intro s x1 x2 x3 hm; exact hm.elim
    | succ n19 hK19 =>
      intro s x1 x2 x3 hm H locs ls hP hD hS hl
      have hm : x_Output_writeGuards_19F K2 Post (fun s x1 x2 x3 => x_Output_writeGuards_19 K2 Post n19 s x1 x2 x3) s x1 x2 x3 := hm
      unfold x_Output_writeGuards_19F at hm
      refine lv_iload_n hx hb d_Output_writeGuards_19 rfl (lv_at hl 3 rfl) ?_
      refine lv_iconst (v := 2) hx hb d_Output_writeGuards_20 (by decide) ?_
      refine lv_icmp_gt (tgt := 55) hx hb d_Output_writeGuards_21 (by decide) (fun c4 => ?_) (fun c4 => ?_)
      · replace hm := hm.1 c4
        refine lv_aload_n hx hb d_Output_writeGuards_55 rfl (lv_at hl 0 rfl) ?_
        refine va_get (D := D) (ci := 4) (v := .ref (ad 19)) (C := R_Output) (T := T_Output) (N := 9) hx hb hts in_Output hown hK hP 17 rfl rfl 4 (by decide) (hts _ wd159) (fun _ h9 => h9) rfl d_Output_writeGuards_56 ?_
        refine lv_iload_n hx hb d_Output_writeGuards_59 rfl (lv_at hl 2 rfl) ?_
        refine lv_iconst (v := 3) hx hb d_Output_writeGuards_60 (by decide) ?_
        refine lv_iadd hx hb d_Output_writeGuards_61 ?_
        refine lv_aload_n hx hb d_Output_writeGuards_62 rfl (lv_at hl 0 rfl) ?_
        refine va_get (D := D) (ci := 4) (v := .ref (ad 1)) (C := R_Output) (T := T_Output) (N := 9) hx hb hts in_Output hown hK hP 17 rfl rfl 0 (by decide) (hts _ wd154) (fun _ h9 => h9) rfl d_Output_writeGuards_63 ?_
        refine lv_iload_n hx hb d_Output_writeGuards_66 rfl (lv_at hl 1 rfl) ?_
        refine lv_iconst (v := 3) hx hb d_Output_writeGuards_67 (by decide) ?_
        refine cg_Vi (b := (ad 1)) (As := [.int x1, .int (3 : Int32)]) (rest := [.int (x2 + (3 : Int32)), .ref (ad 19)]) ⟨hx, hb, hml, hown, hts⟩ hK hP hD hS hA (c_Source_part l D ad ca H.size s x1 (3 : Int32) _ hm) (cwA 2 hts wd354 wd2 wd459 wd352 wd353 (by decide +kernel) ⟨Nat.le_of_ble_eq_true rfl, Nat.le_of_ble_eq_true rfl⟩) (va_recv hK hP (ci := 1) (q0 := 1) rfl rfl) rfl hl rfl (Nat.le_of_ble_eq_true rfl) d_Output_writeGuards_68 (fun r5 s6 hm => ?_)
        intro H locs ls hP hD hS hl
        obtain ⟨h7, hm⟩ := hm
        refine va_iast hx hb hK hP hD hS 19 14 rfl rfl h7 d_Output_writeGuards_71 (fun H locs hP hD hS => ?_)
        have hP : va_P D vwCl (wX ad ca (su s6 14 ((x2 + (3 : Int32))).toNatClampNeg r5)) H := hP
        have hD : va_D A (wX ad ca (su s6 14 ((x2 + (3 : Int32))).toNatClampNeg r5)) := hD
        obtain ⟨s8, es8⟩ : ∃ z : St, z = su s6 14 ((x2 + (3 : Int32))).toNatClampNeg r5 := ⟨_, rfl⟩
        rw [← es8] at hP hD
        replace hm := hm s8 es8
        obtain ⟨v9, ev9⟩ : ∃ y : Int32, y = x1 + 1 := ⟨_, rfl⟩
        replace hm := hm v9 ev9
        refine lv_iinc (v := v9) (lv' := [(1, .int v9), (0, .ref (ad 17)), (2, .int x2), (3, .int x3)]) hx hb d_Output_writeGuards_72 hl (k := 1) rfl (by rw [ev9]; rfl) (by decide) rfl (fun ls hl => ?_)
        refine lv_goto (tgt := 2) hx hb d_Output_writeGuards_75 (by decide) ?_
        exact hK2 s8 v9 hm H locs ls hP hD hS (lv_sub hl [1, 0] rfl)
      · replace hm := hm.2 c4
        refine lv_aload_n hx hb d_Output_writeGuards_24 rfl (lv_at hl 0 rfl) ?_
        refine va_get (D := D) (ci := 4) (v := .ref (ad 19)) (C := R_Output) (T := T_Output) (N := 9) hx hb hts in_Output hown hK hP 17 rfl rfl 4 (by decide) (hts _ wd159) (fun _ h9 => h9) rfl d_Output_writeGuards_25 ?_
        refine lv_iload_n hx hb d_Output_writeGuards_28 rfl (lv_at hl 2 rfl) ?_
        refine lv_iload_n hx hb d_Output_writeGuards_29 rfl (lv_at hl 3 rfl) ?_
        refine lv_iadd hx hb d_Output_writeGuards_30 ?_
        refine lv_aload_n hx hb d_Output_writeGuards_31 rfl (lv_at hl 0 rfl) ?_
        refine va_get (D := D) (ci := 4) (v := .ref (ad 7)) (C := R_Output) (T := T_Output) (N := 9) hx hb hts in_Output hown hK hP 17 rfl rfl 2 (by decide) (hts _ wd156) (fun _ h9 => h9) rfl d_Output_writeGuards_32 ?_
        refine va_get (D := D) (ci := 3) (v := .ref (ad 14)) (C := R_Layout) (T := T_Layout) (N := 16) hx hb hts in_Layout hown hK hP 7 rfl rfl 8 (by decide) (hts _ wd96) (fun _ h9 => h9) rfl d_Output_writeGuards_35 ?_
        refine lv_aload_n hx hb d_Output_writeGuards_38 rfl (lv_at hl 0 rfl) ?_
        refine va_get (D := D) (ci := 4) (v := .ref (ad 1)) (C := R_Output) (T := T_Output) (N := 9) hx hb hts in_Output hown hK hP 17 rfl rfl 0 (by decide) (hts _ wd154) (fun _ h9 => h9) rfl d_Output_writeGuards_39 ?_
        refine lv_iload_n hx hb d_Output_writeGuards_42 rfl (lv_at hl 1 rfl) ?_
        refine lv_iload_n hx hb d_Output_writeGuards_43 rfl (lv_at hl 3 rfl) ?_
        refine cg_Vi (b := (ad 1)) (As := [.int x1, .int x3]) (rest := [.ref (ad 14), .int (x2 + x3), .ref (ad 19)]) ⟨hx, hb, hml, hown, hts⟩ hK hP hD hS hA (c_Source_part l D ad ca H.size s x1 x3 _ hm) (cwA 2 hts wd354 wd2 wd459 wd352 wd353 (by decide +kernel) ⟨Nat.le_of_ble_eq_true rfl, Nat.le_of_ble_eq_true rfl⟩) (va_recv hK hP (ci := 1) (q0 := 1) rfl rfl) rfl hl rfl (Nat.le_of_ble_eq_true rfl) d_Output_writeGuards_44 (fun r10 s11 hm => ?_)
        intro H locs ls hP hD hS hl
        obtain ⟨h12, hm⟩ := hm
        refine va_iald hx hb hK hP 14 10 rfl rfl h12 d_Output_writeGuards_47 ?_
        obtain ⟨h13, hm⟩ := hm
        refine va_iast hx hb hK hP hD hS 19 14 rfl rfl h13 d_Output_writeGuards_48 (fun H locs hP hD hS => ?_)
        have hP : va_P D vwCl (wX ad ca (su s11 14 ((x2 + x3)).toNatClampNeg (s11 10 (r10).toNatClampNeg))) H := hP
        have hD : va_D A (wX ad ca (su s11 14 ((x2 + x3)).toNatClampNeg (s11 10 (r10).toNatClampNeg))) := hD
        obtain ⟨s14, es14⟩ : ∃ z : St, z = su s11 14 ((x2 + x3)).toNatClampNeg (s11 10 (r10).toNatClampNeg) := ⟨_, rfl⟩
        rw [← es14] at hP hD
        replace hm := hm s14 es14
        obtain ⟨v15, ev15⟩ : ∃ y : Int32, y = x3 + 1 := ⟨_, rfl⟩
        replace hm := hm v15 ev15
        refine lv_iinc (v := v15) (lv' := [(3, .int v15), (0, .ref (ad 17)), (1, .int x1), (2, .int x2)]) hx hb d_Output_writeGuards_49 hl (k := 3) rfl (by rw [ev15]; rfl) (by decide) rfl (fun ls hl => ?_)
        refine lv_goto (tgt := 19) hx hb d_Output_writeGuards_52 (by decide) ?_
        exact hK19 s14 x1 x2 v15 hm H locs ls hP hD hS (lv_sub hl [1, 2, 3, 0] rfl)
  have B2 : ∀ (n : Nat) (s : St) (x1 : Int32), x_Output_writeGuards_2  Post n s x1 → Bk D vwCl (wX ad ca) A p l e { frames := 1, cells := 0, slots := 0, locals := 22 } s0 m args below meth c (MQ below (va_Qv Post (atG D vwCl (tyX ca) (wX ad ca) A) A) args s0 0 0 A) 4 2 s [(0, .ref (ad 17)), (1, .int x1)] [] := by
    intro  n2
    induction n2 with
    | zero => intro s x1 hm; exact hm.elim
    | succ n2 hK2 =>
      intro s x1 hm H locs ls hP hD hS hl
      have hm : x_Output_writeGuards_2F  Post (fun s x1 => x_Output_writeGuards_2  Post n2 s x1) s x1 := hm
      unfold x_Output_writeGuards_2F at hm
      refine lv_iload_n hx hb d_Output_writeGuards_2 rfl (lv_at hl 1 rfl) ?_
      refine lv_aload_n hx hb d_Output_writeGuards_3 rfl (lv_at hl 0 rfl) ?_
      refine va_get (D := D) (ci := 4) (v := .ref (ad 1)) (C := R_Output) (T := T_Output) (N := 9) hx hb hts in_Output hown hK hP 17 rfl rfl 0 (by decide) (hts _ wd154) (fun _ h9 => h9) rfl d_Output_writeGuards_4 ?_
      refine va_get (D := D) (ci := 1) (v := .int (s 15 2)) (C := R_Source) (T := T_Source) (N := 4) hx hb hts in_Source hown hK hP 1 rfl rfl 3 (by decide) (hts _ wd31) (fun _ h9 => h9) rfl d_Output_writeGuards_7 ?_
      refine lv_icmp_ge (tgt := 78) hx hb d_Output_writeGuards_10 (by decide) (fun c1 => ?_) (fun c1 => ?_)
      · replace hm := hm.1 c1
        refine lv_aload_n hx hb d_Output_writeGuards_78 rfl (lv_at hl 0 rfl) ?_
        refine lv_aload_n hx hb d_Output_writeGuards_79 rfl (lv_at hl 0 rfl) ?_
        refine va_get (D := D) (ci := 4) (v := .ref (ad 1)) (C := R_Output) (T := T_Output) (N := 9) hx hb hts in_Output hown hK hP 17 rfl rfl 0 (by decide) (hts _ wd154) (fun _ h9 => h9) rfl d_Output_writeGuards_80 ?_
        refine va_get (D := D) (ci := 1) (v := .int (s 15 2)) (C := R_Source) (T := T_Source) (N := 4) hx hb hts in_Source hown hK hP 1 rfl rfl 3 (by decide) (hts _ wd31) (fun _ h9 => h9) rfl d_Output_writeGuards_83 ?_
        refine va_put (D := D) (ci := 4) (v := .int (s 15 2)) (ty := .int) (C := R_Output) (T := T_Output) (N := 9) hx hb hts in_Output t_Output to_Output no_Output hown hK hP hD hS 17 rfl rfl 6 (by decide) (hts _ wd163) (fun _ h9 => h9) rfl (by decide +kernel) rfl rfl (Nat.le_of_ble_eq_true rfl) d_Output_writeGuards_86 (fun H locs hP hD hS => ?_)
        have hP : va_P D vwCl (wX ad ca (su s 15 11 (s 15 2))) H := hP
        have hD : va_D A (wX ad ca (su s 15 11 (s 15 2))) := hD
        obtain ⟨s2, es2⟩ : ∃ z : St, z = su s 15 11 (s 15 2) := ⟨_, rfl⟩
        rw [← es2] at hP hD
        replace hm := hm s2 es2
        exact rt_v hx hb hr hlocks hK hP hD hS d_Output_writeGuards_89 hm
      · replace hm := hm.2 c1
        refine lv_iload_n hx hb d_Output_writeGuards_13 rfl (lv_at hl 1 rfl) ?_
        refine lv_iconst (v := 4) hx hb d_Output_writeGuards_14 (by decide) ?_
        refine lv_imul hx hb d_Output_writeGuards_15 ?_
        refine lv_topi (fun v3 ev3 => ?_)
        replace hm := hm v3 ev3
        refine lv_istore_n (lv' := [(2, .int v3), (0, .ref (ad 17)), (1, .int x1)]) hx hb d_Output_writeGuards_16 rfl hl (by decide) rfl (fun ls hl => ?_)
        refine lv_iconst (v := 0) hx hb d_Output_writeGuards_17 (by decide) ?_
        refine lv_istore_n (lv' := [(3, .int (0 : Int32)), (2, .int v3), (0, .ref (ad 17)), (1, .int x1)]) hx hb d_Output_writeGuards_18 rfl hl (by decide) rfl (fun ls hl => ?_)
        obtain ⟨n19, hm⟩ := hm
        exact B19 (fun s x1 => x_Output_writeGuards_2  Post n2 s x1) hK2 n19 s x1 v3 (0 : Int32) hm H locs ls hP hD hS (lv_sub hl [2, 3, 1, 0] rfl)
  intro H locs ls hP hD hS hl
  have hl : lv_has ls 4 [(0, .ref (ad 17))] := hl
  unfold x_Output_writeGuards at hm
  refine lv_iconst (v := 0) hx hb d_Output_writeGuards_0 (by decide) ?_
  refine lv_istore_n (lv' := [(1, .int (0 : Int32)), (0, .ref (ad 17))]) hx hb d_Output_writeGuards_1 rfl hl (by decide) rfl (fun ls hl => ?_)
  obtain ⟨n2, hm⟩ := hm
  exact B2  n2 s (0 : Int32) hm H locs ls hP hD hS (lv_sub hl [1, 0] rfl)
set_option maxHeartbeats 4000000 in
set_option maxRecDepth 100000 in
theorem c_Output_put1 (l : Launch) (D : va_G) (ad : Nat → Nat) (ca : Nat → ClassId) (sz : Nat) (s : St) (a1 : Int32) (Post : St → Prop) (hm : x_Output_put1 s a1 Post) : CtV l y_Output_put1 w_Output_put1 { frames := 0, cells := 0, slots := 0, locals := 0 } D vwCl (tyX ca) (wX ad ca) sz [.ref (ad 17), .int a1] s Post := by
  refine ct_v (cc := prog_4_method_12_code) (maxL := 2) (ret := none) (by decide) rfl (Nat.le_of_ble_eq_true rfl) ?_
  intro p e s0 m args below meth c A hx hb hr hts hown hlocks hml hK hA
  have hown : s0.vm.findClass R_Output = some m.cls := hown
  intro H locs ls hP hD hS hl
  have hl : lv_has ls 2 [(0, .ref (ad 17)), (1, .int a1)] := hl
  unfold x_Output_put1 at hm
  refine lv_aload_n hx hb d_Output_put1_0 rfl (lv_at hl 0 rfl) ?_
  refine va_get (D := D) (ci := 4) (v := .int (s 15 10)) (C := R_Output) (T := T_Output) (N := 9) hx hb hts in_Output hown hK hP 17 rfl rfl 5 (by decide) (hts _ wd161) (fun _ h9 => h9) rfl d_Output_put1_1 ?_
  refine lv_sipush (v := 1200) hx hb d_Output_put1_4 (by decide) ?_
  refine lv_icmp_ge (tgt := 31) hx hb d_Output_put1_7 (by decide) (fun c1 => ?_) (fun c1 => ?_)
  · replace hm := hm.1 c1
    exact rt_v hx hb hr hlocks hK hP hD hS d_Output_put1_31 hm
  · replace hm := hm.2 c1
    refine lv_aload_n hx hb d_Output_put1_10 rfl (lv_at hl 0 rfl) ?_
    refine va_get (D := D) (ci := 4) (v := .ref (ad 18)) (C := R_Output) (T := T_Output) (N := 9) hx hb hts in_Output hown hK hP 17 rfl rfl 3 (by decide) (hts _ wd157) (fun _ h9 => h9) rfl d_Output_put1_11 ?_
    refine lv_aload_n hx hb d_Output_put1_14 rfl (lv_at hl 0 rfl) ?_
    refine lv_dup hx hb d_Output_put1_15 rfl ?_
    refine va_get (D := D) (ci := 4) (v := .int (s 15 10)) (C := R_Output) (T := T_Output) (N := 9) hx hb hts in_Output hown hK hP 17 rfl rfl 5 (by decide) (hts _ wd161) (fun _ h9 => h9) rfl d_Output_put1_16 ?_
    refine lv_dup_x1 hx hb d_Output_put1_19 rfl rfl ?_
    refine lv_iconst (v := 1) hx hb d_Output_put1_20 (by decide) ?_
    refine lv_iadd hx hb d_Output_put1_21 ?_
    refine va_put (D := D) (ci := 4) (v := .int ((s 15 10) + (1 : Int32))) (ty := .int) (C := R_Output) (T := T_Output) (N := 9) hx hb hts in_Output t_Output to_Output no_Output hown hK hP hD hS 17 rfl rfl 5 (by decide) (hts _ wd161) (fun _ h9 => h9) rfl (by decide +kernel) rfl rfl (Nat.le_of_ble_eq_true rfl) d_Output_put1_22 (fun H locs hP hD hS => ?_)
    have hP : va_P D vwCl (wX ad ca (su s 15 10 ((s 15 10) + (1 : Int32)))) H := hP
    have hD : va_D A (wX ad ca (su s 15 10 ((s 15 10) + (1 : Int32)))) := hD
    obtain ⟨s2, es2⟩ : ∃ z : St, z = su s 15 10 ((s 15 10) + (1 : Int32)) := ⟨_, rfl⟩
    rw [← es2] at hP hD
    replace hm := hm s2 es2
    refine lv_iload_n hx hb d_Output_put1_25 rfl (lv_at hl 1 rfl) ?_
    refine lv_sipush (v := 255) hx hb d_Output_put1_26 (by decide) ?_
    refine lv_iand hx hb d_Output_put1_29 ?_
    obtain ⟨h3, hm⟩ := hm
    refine va_iast hx hb hK hP hD hS 18 13 rfl rfl h3 d_Output_put1_30 (fun H locs hP hD hS => ?_)
    have hP : va_P D vwCl (wX ad ca (su s2 13 ((s 15 10)).toNatClampNeg (a1 &&& (255 : Int32)))) H := hP
    have hD : va_D A (wX ad ca (su s2 13 ((s 15 10)).toNatClampNeg (a1 &&& (255 : Int32)))) := hD
    obtain ⟨s4, es4⟩ : ∃ z : St, z = su s2 13 ((s 15 10)).toNatClampNeg (a1 &&& (255 : Int32)) := ⟨_, rfl⟩
    rw [← es4] at hP hD
    replace hm := hm s4 es4
    exact rt_v hx hb hr hlocks hK hP hD hS d_Output_put1_31 hm
set_option maxHeartbeats 4000000 in
set_option maxRecDepth 100000 in
theorem c_Output_put2 (l : Launch) (D : va_G) (ad : Nat → Nat) (ca : Nat → ClassId) (sz : Nat) (s : St) (a1 : Int32) (Post : St → Prop) (hm : x_Output_put2 s a1 Post) : CtV l y_Output_put2 w_Output_put2 { frames := 1, cells := 0, slots := 0, locals := 21 } D vwCl (tyX ca) (wX ad ca) sz [.ref (ad 17), .int a1] s Post := by
  refine ct_v (cc := prog_4_method_13_code) (maxL := 2) (ret := none) (by decide) rfl (Nat.le_of_ble_eq_true rfl) ?_
  intro p e s0 m args below meth c A hx hb hr hts hown hlocks hml hK hA
  have hown : s0.vm.findClass R_Output = some m.cls := hown
  intro H locs ls hP hD hS hl
  have hl : lv_has ls 2 [(0, .ref (ad 17)), (1, .int a1)] := hl
  unfold x_Output_put2 at hm
  refine lv_aload_n hx hb d_Output_put2_0 rfl (lv_at hl 0 rfl) ?_
  refine lv_iload_n hx hb d_Output_put2_1 rfl (lv_at hl 1 rfl) ?_
  refine lv_bipush (v := 8) hx hb d_Output_put2_2 (by decide) ?_
  refine lv_ishr hx hb d_Output_put2_4 ?_
  refine cg_Vv (b := (ad 17)) (As := [.int (a1 >>> ((8 : Int32) &&& 31))]) (rest := []) ⟨hx, hb, hml, hown, hts⟩ hK hP hD hS hA (c_Output_put1 l D ad ca H.size s (a1 >>> ((8 : Int32) &&& 31)) _ hm) (cwA 1 hts wd413 wd6 wd410 wd412 ws16 (by decide +kernel) ⟨Nat.le_of_ble_eq_true rfl, Nat.le_of_ble_eq_true rfl⟩) (va_recv hK hP (ci := 4) (q0 := 17) rfl rfl) rfl hl rfl (Nat.le_of_ble_eq_true rfl) d_Output_put2_5 (fun s2 hm => ?_)
  intro H locs ls hP hD hS hl
  refine lv_aload_n hx hb d_Output_put2_8 rfl (lv_at hl 0 rfl) ?_
  refine lv_iload_n hx hb d_Output_put2_9 rfl (lv_at hl 1 rfl) ?_
  refine cg_Vv (b := (ad 17)) (As := [.int a1]) (rest := []) ⟨hx, hb, hml, hown, hts⟩ hK hP hD hS hA (c_Output_put1 l D ad ca H.size s2 a1 _ hm) (cwA 1 hts wd413 wd6 wd410 wd412 ws16 (by decide +kernel) ⟨Nat.le_of_ble_eq_true rfl, Nat.le_of_ble_eq_true rfl⟩) (va_recv hK hP (ci := 4) (q0 := 17) rfl rfl) rfl hl rfl (Nat.le_of_ble_eq_true rfl) d_Output_put2_10 (fun s4 hm => ?_)
  intro H locs ls hP hD hS hl
  exact rt_v hx hb hr hlocks hK hP hD hS d_Output_put2_13 hm
set_option maxHeartbeats 4000000 in
set_option maxRecDepth 100000 in
theorem c_Output_putCall (l : Launch) (D : va_G) (ad : Nat → Nat) (ca : Nat → ClassId) (sz : Nat) (s : St) (a1 : Int32) (Post : St → Prop) (hm : x_Output_putCall s a1 Post) : CtV l y_Output_putCall w_Output_putCall { frames := 2, cells := 0, slots := 0, locals := 42 } D vwCl (tyX ca) (wX ad ca) sz [.ref (ad 17), .int a1] s Post := by
  refine ct_v (cc := prog_4_method_9_code) (maxL := 2) (ret := none) (by decide) rfl (Nat.le_of_ble_eq_true rfl) ?_
  intro p e s0 m args below meth c A hx hb hr hts hown hlocks hml hK hA
  have hown : s0.vm.findClass R_Output = some m.cls := hown
  intro H locs ls hP hD hS hl
  have hl : lv_has ls 2 [(0, .ref (ad 17)), (1, .int a1)] := hl
  unfold x_Output_putCall at hm
  refine lv_aload_n hx hb d_Output_putCall_0 rfl (lv_at hl 0 rfl) ?_
  refine lv_sipush (v := 184) hx hb d_Output_putCall_1 (by decide) ?_
  refine cg_Vv (b := (ad 17)) (As := [.int (184 : Int32)]) (rest := []) ⟨hx, hb, hml, hown, hts⟩ hK hP hD hS hA (c_Output_put1 l D ad ca H.size s (184 : Int32) _ hm) (cwA 1 hts wd413 wd6 wd410 wd412 ws16 (by decide +kernel) ⟨Nat.le_of_ble_eq_true rfl, Nat.le_of_ble_eq_true rfl⟩) (va_recv hK hP (ci := 4) (q0 := 17) rfl rfl) rfl hl rfl (Nat.le_of_ble_eq_true rfl) d_Output_putCall_4 (fun s2 hm => ?_)
  intro H locs ls hP hD hS hl
  refine lv_aload_n hx hb d_Output_putCall_7 rfl (lv_at hl 0 rfl) ?_
  refine lv_aload_n hx hb d_Output_putCall_8 rfl (lv_at hl 0 rfl) ?_
  refine va_get (D := D) (ci := 4) (v := .ref (ad 4)) (C := R_Output) (T := T_Output) (N := 9) hx hb hts in_Output hown hK hP 17 rfl rfl 1 (by decide) (hts _ wd155) (fun _ h9 => h9) rfl d_Output_putCall_9 ?_
  refine va_get (D := D) (ci := 2) (v := .int (s2 15 3)) (C := R_Tariff) (T := T_Tariff) (N := 4) hx hb hts in_Tariff hown hK hP 4 rfl rfl 2 (by decide) (hts _ wd59) (fun _ h9 => h9) rfl d_Output_putCall_12 ?_
  refine lv_iload_n hx hb d_Output_putCall_15 rfl (lv_at hl 1 rfl) ?_
  refine lv_iadd hx hb d_Output_putCall_16 ?_
  refine cg_Vv (b := (ad 17)) (As := [.int ((s2 15 3) + a1)]) (rest := []) ⟨hx, hb, hml, hown, hts⟩ hK hP hD hS hA (c_Output_put2 l D ad ca H.size s2 ((s2 15 3) + a1) _ hm) (cwA 1 hts wd417 wd6 wd414 wd416 ws17 (by decide +kernel) ⟨Nat.le_of_ble_eq_true rfl, Nat.le_of_ble_eq_true rfl⟩) (va_recv hK hP (ci := 4) (q0 := 17) rfl rfl) rfl hl rfl (Nat.le_of_ble_eq_true rfl) d_Output_putCall_17 (fun s4 hm => ?_)
  intro H locs ls hP hD hS hl
  refine lv_aload_n hx hb d_Output_putCall_20 rfl (lv_at hl 0 rfl) ?_
  refine lv_dup hx hb d_Output_putCall_21 rfl ?_
  refine va_get (D := D) (ci := 4) (v := .int (s4 15 12)) (C := R_Output) (T := T_Output) (N := 9) hx hb hts in_Output hown hK hP 17 rfl rfl 7 (by decide) (hts _ wd165) (fun _ h9 => h9) rfl d_Output_putCall_22 ?_
  refine lv_iconst (v := 1) hx hb d_Output_putCall_25 (by decide) ?_
  refine lv_iadd hx hb d_Output_putCall_26 ?_
  refine va_put (D := D) (ci := 4) (v := .int ((s4 15 12) + (1 : Int32))) (ty := .int) (C := R_Output) (T := T_Output) (N := 9) hx hb hts in_Output t_Output to_Output no_Output hown hK hP hD hS 17 rfl rfl 7 (by decide) (hts _ wd165) (fun _ h9 => h9) rfl (by decide +kernel) rfl rfl (Nat.le_of_ble_eq_true rfl) d_Output_putCall_27 (fun H locs hP hD hS => ?_)
  have hP : va_P D vwCl (wX ad ca (su s4 15 12 ((s4 15 12) + (1 : Int32)))) H := hP
  have hD : va_D A (wX ad ca (su s4 15 12 ((s4 15 12) + (1 : Int32)))) := hD
  obtain ⟨s5, es5⟩ : ∃ z : St, z = su s4 15 12 ((s4 15 12) + (1 : Int32)) := ⟨_, rfl⟩
  rw [← es5] at hP hD
  replace hm := hm s5 es5
  exact rt_v hx hb hr hlocks hK hP hD hS d_Output_putCall_30 hm
set_option maxHeartbeats 4000000 in
set_option maxRecDepth 100000 in
theorem c_Output_putDuplicate (l : Launch) (D : va_G) (ad : Nat → Nat) (ca : Nat → ClassId) (sz : Nat) (s : St) (Post : St → Prop) (hm : x_Output_putDuplicate s  Post) : CtV l y_Output_putDuplicate w_Output_putDuplicate { frames := 1, cells := 0, slots := 0, locals := 21 } D vwCl (tyX ca) (wX ad ca) sz [.ref (ad 17)] s Post := by
  refine ct_v (cc := prog_4_method_10_code) (maxL := 1) (ret := none) (by decide) rfl (Nat.le_of_ble_eq_true rfl) ?_
  intro p e s0 m args below meth c A hx hb hr hts hown hlocks hml hK hA
  have hown : s0.vm.findClass R_Output = some m.cls := hown
  intro H locs ls hP hD hS hl
  have hl : lv_has ls 1 [(0, .ref (ad 17))] := hl
  unfold x_Output_putDuplicate at hm
  refine lv_aload_n hx hb d_Output_putDuplicate_0 rfl (lv_at hl 0 rfl) ?_
  refine lv_bipush (v := 89) hx hb d_Output_putDuplicate_1 (by decide) ?_
  refine cg_Vv (b := (ad 17)) (As := [.int (89 : Int32)]) (rest := []) ⟨hx, hb, hml, hown, hts⟩ hK hP hD hS hA (c_Output_put1 l D ad ca H.size s (89 : Int32) _ hm) (cwA 1 hts wd413 wd6 wd410 wd412 ws16 (by decide +kernel) ⟨Nat.le_of_ble_eq_true rfl, Nat.le_of_ble_eq_true rfl⟩) (va_recv hK hP (ci := 4) (q0 := 17) rfl rfl) rfl hl rfl (Nat.le_of_ble_eq_true rfl) d_Output_putDuplicate_3 (fun s2 hm => ?_)
  intro H locs ls hP hD hS hl
  refine lv_aload_n hx hb d_Output_putDuplicate_6 rfl (lv_at hl 0 rfl) ?_
  refine lv_dup hx hb d_Output_putDuplicate_7 rfl ?_
  refine va_get (D := D) (ci := 4) (v := .int (s2 15 13)) (C := R_Output) (T := T_Output) (N := 9) hx hb hts in_Output hown hK hP 17 rfl rfl 8 (by decide) (hts _ wd167) (fun _ h9 => h9) rfl d_Output_putDuplicate_8 ?_
  refine lv_iconst (v := 1) hx hb d_Output_putDuplicate_11 (by decide) ?_
  refine lv_iadd hx hb d_Output_putDuplicate_12 ?_
  refine va_put (D := D) (ci := 4) (v := .int ((s2 15 13) + (1 : Int32))) (ty := .int) (C := R_Output) (T := T_Output) (N := 9) hx hb hts in_Output t_Output to_Output no_Output hown hK hP hD hS 17 rfl rfl 8 (by decide) (hts _ wd167) (fun _ h9 => h9) rfl (by decide +kernel) rfl rfl (Nat.le_of_ble_eq_true rfl) d_Output_putDuplicate_13 (fun H locs hP hD hS => ?_)
  have hP : va_P D vwCl (wX ad ca (su s2 15 13 ((s2 15 13) + (1 : Int32)))) H := hP
  have hD : va_D A (wX ad ca (su s2 15 13 ((s2 15 13) + (1 : Int32)))) := hD
  obtain ⟨s3, es3⟩ : ∃ z : St, z = su s2 15 13 ((s2 15 13) + (1 : Int32)) := ⟨_, rfl⟩
  rw [← es3] at hP hD
  replace hm := hm s3 es3
  exact rt_v hx hb hr hlocks hK hP hD hS d_Output_putDuplicate_16 hm
set_option maxHeartbeats 4000000 in
set_option maxRecDepth 100000 in
theorem c_Output_putCost (l : Launch) (D : va_G) (ad : Nat → Nat) (ca : Nat → ClassId) (sz : Nat) (s : St) (a1 : Int32) (Post : St → Prop) (hm : x_Output_putCost s a1 Post) : CtV l y_Output_putCost w_Output_putCost { frames := 2, cells := 0, slots := 0, locals := 42 } D vwCl (tyX ca) (wX ad ca) sz [.ref (ad 17), .int a1] s Post := by
  refine ct_v (cc := prog_4_method_11_code) (maxL := 2) (ret := none) (by decide) rfl (Nat.le_of_ble_eq_true rfl) ?_
  intro p e s0 m args below meth c A hx hb hr hts hown hlocks hml hK hA
  have hown : s0.vm.findClass R_Output = some m.cls := hown
  have B46 : ∀ (s : St), x_Output_putCost_46  Post s → Bk D vwCl (wX ad ca) A p l e { frames := 2, cells := 0, slots := 0, locals := 42 } s0 m args below meth c (MQ below (va_Qv Post (atG D vwCl (tyX ca) (wX ad ca) A) A) args s0 0 0 A) 2 46 s [(0, .ref (ad 17))] [] := by
    intro  s hm H locs ls hP hD hS hl
    unfold x_Output_putCost_46 at hm
    refine lv_aload_n hx hb d_Output_putCost_46 rfl (lv_at hl 0 rfl) ?_
    refine lv_dup hx hb d_Output_putCost_47 rfl ?_
    refine va_get (D := D) (ci := 4) (v := .int (s 15 13)) (C := R_Output) (T := T_Output) (N := 9) hx hb hts in_Output hown hK hP 17 rfl rfl 8 (by decide) (hts _ wd167) (fun _ h9 => h9) rfl d_Output_putCost_48 ?_
    refine lv_iconst (v := 1) hx hb d_Output_putCost_51 (by decide) ?_
    refine lv_iadd hx hb d_Output_putCost_52 ?_
    refine va_put (D := D) (ci := 4) (v := .int ((s 15 13) + (1 : Int32))) (ty := .int) (C := R_Output) (T := T_Output) (N := 9) hx hb hts in_Output t_Output to_Output no_Output hown hK hP hD hS 17 rfl rfl 8 (by decide) (hts _ wd167) (fun _ h9 => h9) rfl (by decide +kernel) rfl rfl (Nat.le_of_ble_eq_true rfl) d_Output_putCost_53 (fun H locs hP hD hS => ?_)
    have hP : va_P D vwCl (wX ad ca (su s 15 13 ((s 15 13) + (1 : Int32)))) H := hP
    have hD : va_D A (wX ad ca (su s 15 13 ((s 15 13) + (1 : Int32)))) := hD
    obtain ⟨s13, es13⟩ : ∃ z : St, z = su s 15 13 ((s 15 13) + (1 : Int32)) := ⟨_, rfl⟩
    rw [← es13] at hP hD
    replace hm := hm s13 es13
    exact rt_v hx hb hr hlocks hK hP hD hS d_Output_putCost_56 hm
  intro H locs ls hP hD hS hl
  have hl : lv_has ls 2 [(0, .ref (ad 17)), (1, .int a1)] := hl
  unfold x_Output_putCost at hm
  refine lv_iload_n hx hb d_Output_putCost_0 rfl (lv_at hl 1 rfl) ?_
  refine lv_iconst (v := 5) hx hb d_Output_putCost_1 (by decide) ?_
  refine lv_icmp_gt (tgt := 15) hx hb d_Output_putCost_2 (by decide) (fun c1 => ?_) (fun c1 => ?_)
  · replace hm := hm.1 c1
    refine lv_iload_n hx hb d_Output_putCost_15 rfl (lv_at hl 1 rfl) ?_
    refine lv_bipush (v := 127) hx hb d_Output_putCost_16 (by decide) ?_
    refine lv_icmp_gt (tgt := 35) hx hb d_Output_putCost_18 (by decide) (fun c2 => ?_) (fun c2 => ?_)
    · replace hm := hm.1 c2
      refine lv_aload_n hx hb d_Output_putCost_35 rfl (lv_at hl 0 rfl) ?_
      refine lv_bipush (v := 17) hx hb d_Output_putCost_36 (by decide) ?_
      refine cg_Vv (b := (ad 17)) (As := [.int (17 : Int32)]) (rest := []) ⟨hx, hb, hml, hown, hts⟩ hK hP hD hS hA (c_Output_put1 l D ad ca H.size s (17 : Int32) _ hm) (cwA 1 hts wd413 wd6 wd410 wd412 ws16 (by decide +kernel) ⟨Nat.le_of_ble_eq_true rfl, Nat.le_of_ble_eq_true rfl⟩) (va_recv hK hP (ci := 4) (q0 := 17) rfl rfl) rfl hl rfl (Nat.le_of_ble_eq_true rfl) d_Output_putCost_38 (fun s4 hm => ?_)
      intro H locs ls hP hD hS hl
      refine lv_aload_n hx hb d_Output_putCost_41 rfl (lv_at hl 0 rfl) ?_
      refine lv_iload_n hx hb d_Output_putCost_42 rfl (lv_at hl 1 rfl) ?_
      refine cg_Vv (b := (ad 17)) (As := [.int a1]) (rest := []) ⟨hx, hb, hml, hown, hts⟩ hK hP hD hS hA (c_Output_put2 l D ad ca H.size s4 a1 _ hm) (cwA 1 hts wd417 wd6 wd414 wd416 ws17 (by decide +kernel) ⟨Nat.le_of_ble_eq_true rfl, Nat.le_of_ble_eq_true rfl⟩) (va_recv hK hP (ci := 4) (q0 := 17) rfl rfl) rfl hl rfl (Nat.le_of_ble_eq_true rfl) d_Output_putCost_43 (fun s6 hm => ?_)
      intro H locs ls hP hD hS hl
      exact B46  s6 hm H locs ls hP hD hS (lv_sub hl [0] rfl)
    · replace hm := hm.2 c2
      refine lv_aload_n hx hb d_Output_putCost_21 rfl (lv_at hl 0 rfl) ?_
      refine lv_bipush (v := 16) hx hb d_Output_putCost_22 (by decide) ?_
      refine cg_Vv (b := (ad 17)) (As := [.int (16 : Int32)]) (rest := []) ⟨hx, hb, hml, hown, hts⟩ hK hP hD hS hA (c_Output_put1 l D ad ca H.size s (16 : Int32) _ hm) (cwA 1 hts wd413 wd6 wd410 wd412 ws16 (by decide +kernel) ⟨Nat.le_of_ble_eq_true rfl, Nat.le_of_ble_eq_true rfl⟩) (va_recv hK hP (ci := 4) (q0 := 17) rfl rfl) rfl hl rfl (Nat.le_of_ble_eq_true rfl) d_Output_putCost_24 (fun s8 hm => ?_)
      intro H locs ls hP hD hS hl
      refine lv_aload_n hx hb d_Output_putCost_27 rfl (lv_at hl 0 rfl) ?_
      refine lv_iload_n hx hb d_Output_putCost_28 rfl (lv_at hl 1 rfl) ?_
      refine cg_Vv (b := (ad 17)) (As := [.int a1]) (rest := []) ⟨hx, hb, hml, hown, hts⟩ hK hP hD hS hA (c_Output_put1 l D ad ca H.size s8 a1 _ hm) (cwA 1 hts wd413 wd6 wd410 wd412 ws16 (by decide +kernel) ⟨Nat.le_of_ble_eq_true rfl, Nat.le_of_ble_eq_true rfl⟩) (va_recv hK hP (ci := 4) (q0 := 17) rfl rfl) rfl hl rfl (Nat.le_of_ble_eq_true rfl) d_Output_putCost_29 (fun s10 hm => ?_)
      intro H locs ls hP hD hS hl
      refine lv_goto (tgt := 46) hx hb d_Output_putCost_32 (by decide) ?_
      exact B46  s10 hm H locs ls hP hD hS (lv_sub hl [0] rfl)
  · replace hm := hm.2 c1
    refine lv_aload_n hx hb d_Output_putCost_5 rfl (lv_at hl 0 rfl) ?_
    refine lv_iconst (v := 3) hx hb d_Output_putCost_6 (by decide) ?_
    refine lv_iload_n hx hb d_Output_putCost_7 rfl (lv_at hl 1 rfl) ?_
    refine lv_iadd hx hb d_Output_putCost_8 ?_
    refine cg_Vv (b := (ad 17)) (As := [.int ((3 : Int32) + a1)]) (rest := []) ⟨hx, hb, hml, hown, hts⟩ hK hP hD hS hA (c_Output_put1 l D ad ca H.size s ((3 : Int32) + a1) _ hm) (cwA 1 hts wd413 wd6 wd410 wd412 ws16 (by decide +kernel) ⟨Nat.le_of_ble_eq_true rfl, Nat.le_of_ble_eq_true rfl⟩) (va_recv hK hP (ci := 4) (q0 := 17) rfl rfl) rfl hl rfl (Nat.le_of_ble_eq_true rfl) d_Output_putCost_9 (fun s12 hm => ?_)
    intro H locs ls hP hD hS hl
    refine lv_goto (tgt := 46) hx hb d_Output_putCost_12 (by decide) ?_
    exact B46  s12 hm H locs ls hP hD hS (lv_sub hl [0] rfl)
set_option maxHeartbeats 4000000 in
set_option maxRecDepth 100000 in
theorem c_Output_writeLead (l : Launch) (D : va_G) (ad : Nat → Nat) (ca : Nat → ClassId) (sz : Nat) (s : St) (a1 : Int32) (Post : St → Prop) (hm : x_Output_writeLead s a1 Post) : CtV l y_Output_writeLead w_Output_writeLead { frames := 3, cells := 0, slots := 0, locals := 63 } D vwCl (tyX ca) (wX ad ca) sz [.ref (ad 17), .int a1] s Post := by
  refine ct_v (cc := prog_4_method_4_code) (maxL := 3) (ret := none) (by decide) rfl (Nat.le_of_ble_eq_true rfl) ?_
  intro p e s0 m args below meth c A hx hb hr hts hown hlocks hml hK hA
  have hown : s0.vm.findClass R_Output = some m.cls := hown
  have B81 : ∀ (s : St) (x2 : Int32), x_Output_writeLead_81  Post s x2 → Bk D vwCl (wX ad ca) A p l e { frames := 3, cells := 0, slots := 0, locals := 63 } s0 m args below meth c (MQ below (va_Qv Post (atG D vwCl (tyX ca) (wX ad ca) A) A) args s0 0 0 A) 3 81 s [(0, .ref (ad 17)), (2, .int x2)] [] := by
    intro  s x2 hm H locs ls hP hD hS hl
    unfold x_Output_writeLead_81 at hm
    refine lv_iload_n hx hb d_Output_writeLead_81 rfl (lv_at hl 1 rfl) ?_
    refine cg_Si (As := [.int x2]) (rest := []) ⟨hx, hb, hml, hown, hts⟩ hK hP hD hS hA (c_Opcodes_makesArray l D ad ca H.size s x2 _ hm) (cwB 1 hts wd380 wd8 wd427 wd379 (by decide +kernel) ⟨Nat.le_of_ble_eq_true rfl, Nat.le_of_ble_eq_true rfl⟩) rfl hl rfl (Nat.le_of_ble_eq_true rfl) d_Output_writeLead_82 (fun r24 s25 hm => ?_)
    intro H locs ls hP hD hS hl
    refine lv_if_eq (tgt := 97) hx hb d_Output_writeLead_85 (by decide) (fun c26 => ?_) (fun c26 => ?_)
    · replace hm := hm.1 c26
      exact rt_v hx hb hr hlocks hK hP hD hS d_Output_writeLead_97 hm
    · replace hm := hm.2 c26
      refine lv_aload_n hx hb d_Output_writeLead_88 rfl (lv_at hl 0 rfl) ?_
      refine cg_Vv (b := (ad 17)) (As := []) (rest := []) ⟨hx, hb, hml, hown, hts⟩ hK hP hD hS hA (c_Output_putDuplicate l D ad ca H.size s25 _ hm) (cwA 0 hts wd421 wd6 wd418 wd420 ws18 (by decide +kernel) ⟨Nat.le_of_ble_eq_true rfl, Nat.le_of_ble_eq_true rfl⟩) (va_recv hK hP (ci := 4) (q0 := 17) rfl rfl) rfl hl rfl (Nat.le_of_ble_eq_true rfl) d_Output_writeLead_89 (fun s28 hm => ?_)
      intro H locs ls hP hD hS hl
      refine lv_aload_n hx hb d_Output_writeLead_92 rfl (lv_at hl 0 rfl) ?_
      refine lv_iconst (v := 1) hx hb d_Output_writeLead_93 (by decide) ?_
      refine cg_Vv (b := (ad 17)) (As := [.int (1 : Int32)]) (rest := []) ⟨hx, hb, hml, hown, hts⟩ hK hP hD hS hA (c_Output_putCall l D ad ca H.size s28 (1 : Int32) _ hm) (cwA 1 hts wd409 wd6 wd406 wd408 ws15 (by decide +kernel) ⟨Nat.le_of_ble_eq_true rfl, Nat.le_of_ble_eq_true rfl⟩) (va_recv hK hP (ci := 4) (q0 := 17) rfl rfl) rfl hl rfl (Nat.le_of_ble_eq_true rfl) d_Output_writeLead_94 (fun s30 hm => ?_)
      intro H locs ls hP hD hS hl
      exact rt_v hx hb hr hlocks hK hP hD hS d_Output_writeLead_97 hm
  have B69 : ∀ (s : St) (x2 : Int32), x_Output_writeLead_69  Post s x2 → Bk D vwCl (wX ad ca) A p l e { frames := 3, cells := 0, slots := 0, locals := 63 } s0 m args below meth c (MQ below (va_Qv Post (atG D vwCl (tyX ca) (wX ad ca) A) A) args s0 0 0 A) 3 69 s [(0, .ref (ad 17)), (2, .int x2)] [] := by
    intro  s x2 hm H locs ls hP hD hS hl
    unfold x_Output_writeLead_69 at hm
    refine lv_iload_n hx hb d_Output_writeLead_69 rfl (lv_at hl 1 rfl) ?_
    refine cg_Si (As := [.int x2]) (rest := []) ⟨hx, hb, hml, hown, hts⟩ hK hP hD hS hA (c_Opcodes_isReturn l D ad ca H.size s x2 _ hm) (cwB 1 hts wd369 wd8 wd426 wd368 (by decide +kernel) ⟨Nat.le_of_ble_eq_true rfl, Nat.le_of_ble_eq_true rfl⟩) rfl hl rfl (Nat.le_of_ble_eq_true rfl) d_Output_writeLead_70 (fun r19 s20 hm => ?_)
    intro H locs ls hP hD hS hl
    refine lv_if_eq (tgt := 81) hx hb d_Output_writeLead_73 (by decide) (fun c21 => ?_) (fun c21 => ?_)
    · replace hm := hm.1 c21
      exact B81  s20 x2 hm H locs ls hP hD hS (lv_sub hl [0, 1] rfl)
    · replace hm := hm.2 c21
      refine lv_aload_n hx hb d_Output_writeLead_76 rfl (lv_at hl 0 rfl) ?_
      refine lv_iconst (v := 3) hx hb d_Output_writeLead_77 (by decide) ?_
      refine cg_Vv (b := (ad 17)) (As := [.int (3 : Int32)]) (rest := []) ⟨hx, hb, hml, hown, hts⟩ hK hP hD hS hA (c_Output_putCall l D ad ca H.size s20 (3 : Int32) _ hm) (cwA 1 hts wd409 wd6 wd406 wd408 ws15 (by decide +kernel) ⟨Nat.le_of_ble_eq_true rfl, Nat.le_of_ble_eq_true rfl⟩) (va_recv hK hP (ci := 4) (q0 := 17) rfl rfl) rfl hl rfl (Nat.le_of_ble_eq_true rfl) d_Output_writeLead_78 (fun s23 hm => ?_)
      intro H locs ls hP hD hS hl
      exact B81  s23 x2 hm H locs ls hP hD hS (lv_sub hl [0, 1] rfl)
  have B39 : ∀ (s : St) (x1 : Int32) (x2 : Int32), x_Output_writeLead_39  Post s x1 x2 → Bk D vwCl (wX ad ca) A p l e { frames := 3, cells := 0, slots := 0, locals := 63 } s0 m args below meth c (MQ below (va_Qv Post (atG D vwCl (tyX ca) (wX ad ca) A) A) args s0 0 0 A) 3 39 s [(0, .ref (ad 17)), (1, .int x1), (2, .int x2)] [] := by
    intro  s x1 x2 hm H locs ls hP hD hS hl
    unfold x_Output_writeLead_39 at hm
    refine lv_aload_n hx hb d_Output_writeLead_39 rfl (lv_at hl 0 rfl) ?_
    refine va_get (D := D) (ci := 4) (v := .ref (ad 7)) (C := R_Output) (T := T_Output) (N := 9) hx hb hts in_Output hown hK hP 17 rfl rfl 2 (by decide) (hts _ wd156) (fun _ h9 => h9) rfl d_Output_writeLead_40 ?_
    refine va_get (D := D) (ci := 3) (v := .ref (ad 11)) (C := R_Layout) (T := T_Layout) (N := 16) hx hb hts in_Layout hown hK hP 7 rfl rfl 5 (by decide) (hts _ wd89) (fun _ h9 => h9) rfl d_Output_writeLead_43 ?_
    refine lv_iload_n hx hb d_Output_writeLead_46 rfl (lv_at hl 1 rfl) ?_
    obtain ⟨h12, hm⟩ := hm
    refine va_iald hx hb hK hP 11 7 rfl rfl h12 d_Output_writeLead_47 ?_
    refine lv_if_le (tgt := 69) hx hb d_Output_writeLead_48 (by decide) (fun c13 => ?_) (fun c13 => ?_)
    · replace hm := hm.1 c13
      exact B69  s x2 hm H locs ls hP hD hS (lv_sub hl [0, 2] rfl)
    · replace hm := hm.2 c13
      refine lv_aload_n hx hb d_Output_writeLead_51 rfl (lv_at hl 0 rfl) ?_
      refine lv_aload_n hx hb d_Output_writeLead_52 rfl (lv_at hl 0 rfl) ?_
      refine va_get (D := D) (ci := 4) (v := .ref (ad 7)) (C := R_Output) (T := T_Output) (N := 9) hx hb hts in_Output hown hK hP 17 rfl rfl 2 (by decide) (hts _ wd156) (fun _ h9 => h9) rfl d_Output_writeLead_53 ?_
      refine va_get (D := D) (ci := 3) (v := .ref (ad 11)) (C := R_Layout) (T := T_Layout) (N := 16) hx hb hts in_Layout hown hK hP 7 rfl rfl 5 (by decide) (hts _ wd89) (fun _ h9 => h9) rfl d_Output_writeLead_56 ?_
      refine lv_iload_n hx hb d_Output_writeLead_59 rfl (lv_at hl 1 rfl) ?_
      obtain ⟨h14, hm⟩ := hm
      refine va_iald hx hb hK hP 11 7 rfl rfl h14 d_Output_writeLead_60 ?_
      refine cg_Vv (b := (ad 17)) (As := [.int (s 7 (x1).toNatClampNeg)]) (rest := []) ⟨hx, hb, hml, hown, hts⟩ hK hP hD hS hA (c_Output_putCost l D ad ca H.size s (s 7 (x1).toNatClampNeg) _ hm) (cwA 1 hts wd425 wd6 wd422 wd424 ws19 (by decide +kernel) ⟨Nat.le_of_ble_eq_true rfl, Nat.le_of_ble_eq_true rfl⟩) (va_recv hK hP (ci := 4) (q0 := 17) rfl rfl) rfl hl rfl (Nat.le_of_ble_eq_true rfl) d_Output_writeLead_61 (fun s16 hm => ?_)
      intro H locs ls hP hD hS hl
      refine lv_aload_n hx hb d_Output_writeLead_64 rfl (lv_at hl 0 rfl) ?_
      refine lv_iconst (v := 0) hx hb d_Output_writeLead_65 (by decide) ?_
      refine cg_Vv (b := (ad 17)) (As := [.int (0 : Int32)]) (rest := []) ⟨hx, hb, hml, hown, hts⟩ hK hP hD hS hA (c_Output_putCall l D ad ca H.size s16 (0 : Int32) _ hm) (cwA 1 hts wd409 wd6 wd406 wd408 ws15 (by decide +kernel) ⟨Nat.le_of_ble_eq_true rfl, Nat.le_of_ble_eq_true rfl⟩) (va_recv hK hP (ci := 4) (q0 := 17) rfl rfl) rfl hl rfl (Nat.le_of_ble_eq_true rfl) d_Output_writeLead_66 (fun s18 hm => ?_)
      intro H locs ls hP hD hS hl
      exact B69  s18 x2 hm H locs ls hP hD hS (lv_sub hl [0, 2] rfl)
  have B18 : ∀ (s : St) (x1 : Int32) (x2 : Int32), x_Output_writeLead_18  Post s x1 x2 → Bk D vwCl (wX ad ca) A p l e { frames := 3, cells := 0, slots := 0, locals := 63 } s0 m args below meth c (MQ below (va_Qv Post (atG D vwCl (tyX ca) (wX ad ca) A) A) args s0 0 0 A) 3 18 s [(0, .ref (ad 17)), (1, .int x1), (2, .int x2)] [] := by
    intro  s x1 x2 hm H locs ls hP hD hS hl
    unfold x_Output_writeLead_18 at hm
    refine lv_aload_n hx hb d_Output_writeLead_18 rfl (lv_at hl 0 rfl) ?_
    refine va_get (D := D) (ci := 4) (v := .ref (ad 7)) (C := R_Output) (T := T_Output) (N := 9) hx hb hts in_Output hown hK hP 17 rfl rfl 2 (by decide) (hts _ wd156) (fun _ h9 => h9) rfl d_Output_writeLead_19 ?_
    refine va_get (D := D) (ci := 3) (v := .ref (ad 12)) (C := R_Layout) (T := T_Layout) (N := 16) hx hb hts in_Layout hown hK hP 7 rfl rfl 6 (by decide) (hts _ wd92) (fun _ h9 => h9) rfl d_Output_writeLead_22 ?_
    refine lv_iload_n hx hb d_Output_writeLead_25 rfl (lv_at hl 1 rfl) ?_
    obtain ⟨h6, hm⟩ := hm
    refine va_zald hx hb hK hP 12 8 rfl rfl h6 d_Output_writeLead_26 ?_
    refine lv_if_eq (tgt := 39) hx hb d_Output_writeLead_27 (by decide) (fun c7 => ?_) (fun c7 => ?_)
    · replace hm := hm.1 c7
      exact B39  s x1 x2 hm H locs ls hP hD hS (lv_sub hl [0, 1, 2] rfl)
    · replace hm := hm.2 c7
      refine lv_aload_n hx hb d_Output_writeLead_30 rfl (lv_at hl 0 rfl) ?_
      refine cg_Vv (b := (ad 17)) (As := []) (rest := []) ⟨hx, hb, hml, hown, hts⟩ hK hP hD hS hA (c_Output_putDuplicate l D ad ca H.size s _ hm) (cwA 0 hts wd421 wd6 wd418 wd420 ws18 (by decide +kernel) ⟨Nat.le_of_ble_eq_true rfl, Nat.le_of_ble_eq_true rfl⟩) (va_recv hK hP (ci := 4) (q0 := 17) rfl rfl) rfl hl rfl (Nat.le_of_ble_eq_true rfl) d_Output_writeLead_31 (fun s9 hm => ?_)
      intro H locs ls hP hD hS hl
      refine lv_aload_n hx hb d_Output_writeLead_34 rfl (lv_at hl 0 rfl) ?_
      refine lv_iconst (v := 4) hx hb d_Output_writeLead_35 (by decide) ?_
      refine cg_Vv (b := (ad 17)) (As := [.int (4 : Int32)]) (rest := []) ⟨hx, hb, hml, hown, hts⟩ hK hP hD hS hA (c_Output_putCall l D ad ca H.size s9 (4 : Int32) _ hm) (cwA 1 hts wd409 wd6 wd406 wd408 ws15 (by decide +kernel) ⟨Nat.le_of_ble_eq_true rfl, Nat.le_of_ble_eq_true rfl⟩) (va_recv hK hP (ci := 4) (q0 := 17) rfl rfl) rfl hl rfl (Nat.le_of_ble_eq_true rfl) d_Output_writeLead_36 (fun s11 hm => ?_)
      intro H locs ls hP hD hS hl
      exact B39  s11 x1 x2 hm H locs ls hP hD hS (lv_sub hl [0, 1, 2] rfl)
  intro H locs ls hP hD hS hl
  have hl : lv_has ls 3 [(0, .ref (ad 17)), (1, .int a1)] := hl
  unfold x_Output_writeLead at hm
  refine lv_aload_n hx hb d_Output_writeLead_0 rfl (lv_at hl 0 rfl) ?_
  refine va_get (D := D) (ci := 4) (v := .ref (ad 1)) (C := R_Output) (T := T_Output) (N := 9) hx hb hts in_Output hown hK hP 17 rfl rfl 0 (by decide) (hts _ wd154) (fun _ h9 => h9) rfl d_Output_writeLead_1 ?_
  refine lv_iload_n hx hb d_Output_writeLead_4 rfl (lv_at hl 1 rfl) ?_
  refine cg_Vi (b := (ad 1)) (As := [.int a1]) (rest := []) ⟨hx, hb, hml, hown, hts⟩ hK hP hD hS hA (c_Source_u1 l D ad ca H.size s a1 _ hm) (cwA 1 hts wd275 wd2 wd405 wd273 wd274 (by decide +kernel) ⟨Nat.le_of_ble_eq_true rfl, Nat.le_of_ble_eq_true rfl⟩) (va_recv hK hP (ci := 1) (q0 := 1) rfl rfl) rfl hl rfl (Nat.le_of_ble_eq_true rfl) d_Output_writeLead_5 (fun r1 s2 hm => ?_)
  intro H locs ls hP hD hS hl
  refine lv_istore_n (lv' := [(2, .int r1), (0, .ref (ad 17)), (1, .int a1)]) hx hb d_Output_writeLead_8 rfl hl (by decide) rfl (fun ls hl => ?_)
  refine lv_iload_n hx hb d_Output_writeLead_9 rfl (lv_at hl 2 rfl) ?_
  refine lv_if_ne (tgt := 18) hx hb d_Output_writeLead_10 (by decide) (fun c3 => ?_) (fun c3 => ?_)
  · replace hm := hm.1 c3
    exact B18  s2 a1 r1 hm H locs ls hP hD hS (lv_sub hl [1, 2, 0] rfl)
  · replace hm := hm.2 c3
    refine lv_aload_n hx hb d_Output_writeLead_13 rfl (lv_at hl 1 rfl) ?_
    refine lv_iconst (v := 2) hx hb d_Output_writeLead_14 (by decide) ?_
    refine cg_Vv (b := (ad 17)) (As := [.int (2 : Int32)]) (rest := []) ⟨hx, hb, hml, hown, hts⟩ hK hP hD hS hA (c_Output_putCall l D ad ca H.size s2 (2 : Int32) _ hm) (cwA 1 hts wd409 wd6 wd406 wd408 ws15 (by decide +kernel) ⟨Nat.le_of_ble_eq_true rfl, Nat.le_of_ble_eq_true rfl⟩) (va_recv hK hP (ci := 4) (q0 := 17) rfl rfl) rfl hl rfl (Nat.le_of_ble_eq_true rfl) d_Output_writeLead_15 (fun s5 hm => ?_)
    intro H locs ls hP hD hS hl
    exact B18  s5 a1 r1 hm H locs ls hP hD hS (lv_sub hl [1, 2, 0] rfl)
set_option maxHeartbeats 4000000 in
set_option maxRecDepth 100000 in
theorem c_Opcodes_opposite (l : Launch) (D : va_G) (ad : Nat → Nat) (ca : Nat → ClassId) (sz : Nat) (s : St) (a0 : Int32) (Post : Int32 → St → Prop) (hm : x_Opcodes_opposite s a0 Post) : CtI l y_Opcodes_opposite w_Opcodes_opposite { frames := 0, cells := 0, slots := 0, locals := 0 } D vwCl (tyX ca) (wX ad ca) sz [.int a0] s Post := by
  refine ct_i (cc := prog_3_method_10_code) (maxL := 1) (ret := (some .int)) (by decide) rfl (Nat.le_of_ble_eq_true rfl) ?_
  intro p e s0 m args below meth c A hx hb hr hts hown hlocks hml hK hA
  have hown : s0.vm.findClass R_Opcodes = some m.cls := hown
  intro H locs ls hP hD hS hl
  have hl : lv_has ls 1 [(0, .int a0)] := hl
  unfold x_Opcodes_opposite at hm
  refine lv_iload_n hx hb d_Opcodes_opposite_0 rfl (lv_at hl 0 rfl) ?_
  refine lv_sipush (v := 167) hx hb d_Opcodes_opposite_1 (by decide) ?_
  refine lv_icmp_ge (tgt := 21) hx hb d_Opcodes_opposite_4 (by decide) (fun c1 => ?_) (fun c1 => ?_)
  · replace hm := hm.1 c1
    refine lv_iload_n hx hb d_Opcodes_opposite_21 rfl (lv_at hl 0 rfl) ?_
    refine lv_iconst (v := 1) hx hb d_Opcodes_opposite_22 (by decide) ?_
    refine lv_ixor hx hb d_Opcodes_opposite_23 ?_
    exact rt_i hx hb hr hlocks hK hP hD hS d_Opcodes_opposite_24 hm
  · replace hm := hm.2 c1
    refine lv_iload_n hx hb d_Opcodes_opposite_7 rfl (lv_at hl 0 rfl) ?_
    refine lv_sipush (v := 153) hx hb d_Opcodes_opposite_8 (by decide) ?_
    refine lv_isub hx hb d_Opcodes_opposite_11 ?_
    refine lv_iconst (v := 1) hx hb d_Opcodes_opposite_12 (by decide) ?_
    refine lv_ixor hx hb d_Opcodes_opposite_13 ?_
    refine lv_sipush (v := 153) hx hb d_Opcodes_opposite_14 (by decide) ?_
    refine lv_iadd hx hb d_Opcodes_opposite_17 ?_
    refine lv_goto (tgt := 24) hx hb d_Opcodes_opposite_18 (by decide) ?_
    exact rt_i hx hb hr hlocks hK hP hD hS d_Opcodes_opposite_24 hm
set_option maxHeartbeats 4000000 in
set_option maxRecDepth 100000 in
theorem c_Output_put4 (l : Launch) (D : va_G) (ad : Nat → Nat) (ca : Nat → ClassId) (sz : Nat) (s : St) (a1 : Int32) (Post : St → Prop) (hm : x_Output_put4 s a1 Post) : CtV l y_Output_put4 w_Output_put4 { frames := 2, cells := 0, slots := 0, locals := 42 } D vwCl (tyX ca) (wX ad ca) sz [.ref (ad 17), .int a1] s Post := by
  refine ct_v (cc := prog_4_method_14_code) (maxL := 2) (ret := none) (by decide) rfl (Nat.le_of_ble_eq_true rfl) ?_
  intro p e s0 m args below meth c A hx hb hr hts hown hlocks hml hK hA
  have hown : s0.vm.findClass R_Output = some m.cls := hown
  intro H locs ls hP hD hS hl
  have hl : lv_has ls 2 [(0, .ref (ad 17)), (1, .int a1)] := hl
  unfold x_Output_put4 at hm
  refine lv_aload_n hx hb d_Output_put4_0 rfl (lv_at hl 0 rfl) ?_
  refine lv_iload_n hx hb d_Output_put4_1 rfl (lv_at hl 1 rfl) ?_
  refine lv_bipush (v := 16) hx hb d_Output_put4_2 (by decide) ?_
  refine lv_ishr hx hb d_Output_put4_4 ?_
  refine cg_Vv (b := (ad 17)) (As := [.int (a1 >>> ((16 : Int32) &&& 31))]) (rest := []) ⟨hx, hb, hml, hown, hts⟩ hK hP hD hS hA (c_Output_put2 l D ad ca H.size s (a1 >>> ((16 : Int32) &&& 31)) _ hm) (cwA 1 hts wd417 wd6 wd414 wd416 ws17 (by decide +kernel) ⟨Nat.le_of_ble_eq_true rfl, Nat.le_of_ble_eq_true rfl⟩) (va_recv hK hP (ci := 4) (q0 := 17) rfl rfl) rfl hl rfl (Nat.le_of_ble_eq_true rfl) d_Output_put4_5 (fun s2 hm => ?_)
  intro H locs ls hP hD hS hl
  refine lv_aload_n hx hb d_Output_put4_8 rfl (lv_at hl 0 rfl) ?_
  refine lv_iload_n hx hb d_Output_put4_9 rfl (lv_at hl 1 rfl) ?_
  refine cg_Vv (b := (ad 17)) (As := [.int a1]) (rest := []) ⟨hx, hb, hml, hown, hts⟩ hK hP hD hS hA (c_Output_put2 l D ad ca H.size s2 a1 _ hm) (cwA 1 hts wd417 wd6 wd414 wd416 ws17 (by decide +kernel) ⟨Nat.le_of_ble_eq_true rfl, Nat.le_of_ble_eq_true rfl⟩) (va_recv hK hP (ci := 4) (q0 := 17) rfl rfl) rfl hl rfl (Nat.le_of_ble_eq_true rfl) d_Output_put4_10 (fun s4 hm => ?_)
  intro H locs ls hP hD hS hl
  exact rt_v hx hb hr hlocks hK hP hD hS d_Output_put4_13 hm
set_option maxHeartbeats 4000000 in
set_option maxRecDepth 100000 in
theorem c_Output_writeFarJump (l : Launch) (D : va_G) (ad : Nat → Nat) (ca : Nat → ClassId) (sz : Nat) (s : St) (a1 : Int32) (a2 : Int32) (Post : St → Prop) (hm : x_Output_writeFarJump s a1 a2 Post) : CtV l y_Output_writeFarJump w_Output_writeFarJump { frames := 3, cells := 0, slots := 0, locals := 63 } D vwCl (tyX ca) (wX ad ca) sz [.ref (ad 17), .int a1, .int a2] s Post := by
  refine ct_v (cc := prog_4_method_6_code) (maxL := 4) (ret := none) (by decide) rfl (Nat.le_of_ble_eq_true rfl) ?_
  intro p e s0 m args below meth c A hx hb hr hts hown hlocks hml hK hA
  have hown : s0.vm.findClass R_Output = some m.cls := hown
  have B28 : ∀ (s : St) (x1 : Int32), x_Output_writeFarJump_28  Post s x1 → Bk D vwCl (wX ad ca) A p l e { frames := 3, cells := 0, slots := 0, locals := 63 } s0 m args below meth c (MQ below (va_Qv Post (atG D vwCl (tyX ca) (wX ad ca) A) A) args s0 0 0 A) 4 28 s [(0, .ref (ad 17)), (1, .int x1)] [] := by
    intro  s x1 hm H locs ls hP hD hS hl
    unfold x_Output_writeFarJump_28 at hm
    refine lv_aload_n hx hb d_Output_writeFarJump_28 rfl (lv_at hl 0 rfl) ?_
    refine va_get (D := D) (ci := 4) (v := .int (s 15 10)) (C := R_Output) (T := T_Output) (N := 9) hx hb hts in_Output hown hK hP 17 rfl rfl 5 (by decide) (hts _ wd161) (fun _ h9 => h9) rfl d_Output_writeFarJump_29 ?_
    refine lv_topi (fun v9 ev9 => ?_)
    replace hm := hm v9 ev9
    refine lv_istore_n (lv' := [(3, .int v9), (0, .ref (ad 17)), (1, .int x1)]) hx hb d_Output_writeFarJump_32 rfl hl (by decide) rfl (fun ls hl => ?_)
    refine lv_aload_n hx hb d_Output_writeFarJump_33 rfl (lv_at hl 1 rfl) ?_
    refine lv_sipush (v := 200) hx hb d_Output_writeFarJump_34 (by decide) ?_
    refine cg_Vv (b := (ad 17)) (As := [.int (200 : Int32)]) (rest := []) ⟨hx, hb, hml, hown, hts⟩ hK hP hD hS hA (c_Output_put1 l D ad ca H.size s (200 : Int32) _ hm) (cwA 1 hts wd413 wd6 wd410 wd412 ws16 (by decide +kernel) ⟨Nat.le_of_ble_eq_true rfl, Nat.le_of_ble_eq_true rfl⟩) (va_recv hK hP (ci := 4) (q0 := 17) rfl rfl) rfl hl rfl (Nat.le_of_ble_eq_true rfl) d_Output_writeFarJump_37 (fun s11 hm => ?_)
    intro H locs ls hP hD hS hl
    refine lv_aload_n hx hb d_Output_writeFarJump_40 rfl (lv_at hl 1 rfl) ?_
    refine lv_aload_n hx hb d_Output_writeFarJump_41 rfl (lv_at hl 1 rfl) ?_
    refine va_get (D := D) (ci := 4) (v := .ref (ad 7)) (C := R_Output) (T := T_Output) (N := 9) hx hb hts in_Output hown hK hP 17 rfl rfl 2 (by decide) (hts _ wd156) (fun _ h9 => h9) rfl d_Output_writeFarJump_42 ?_
    refine va_get (D := D) (ci := 3) (v := .ref (ad 14)) (C := R_Layout) (T := T_Layout) (N := 16) hx hb hts in_Layout hown hK hP 7 rfl rfl 8 (by decide) (hts _ wd96) (fun _ h9 => h9) rfl d_Output_writeFarJump_45 ?_
    refine lv_aload_n hx hb d_Output_writeFarJump_48 rfl (lv_at hl 1 rfl) ?_
    refine va_get (D := D) (ci := 4) (v := .ref (ad 1)) (C := R_Output) (T := T_Output) (N := 9) hx hb hts in_Output hown hK hP 17 rfl rfl 0 (by decide) (hts _ wd154) (fun _ h9 => h9) rfl d_Output_writeFarJump_49 ?_
    refine lv_iload_n hx hb d_Output_writeFarJump_52 rfl (lv_at hl 2 rfl) ?_
    refine cg_Vi (b := (ad 1)) (As := [.int x1]) (rest := [.ref (ad 14), .ref (ad 17)]) ⟨hx, hb, hml, hown, hts⟩ hK hP hD hS hA (c_Source_jumpGoal l D ad ca H.size s11 x1 _ hm) (cwA 1 hts wd342 wd2 wd453 wd340 wd341 (by decide +kernel) ⟨Nat.le_of_ble_eq_true rfl, Nat.le_of_ble_eq_true rfl⟩) (va_recv hK hP (ci := 1) (q0 := 1) rfl rfl) rfl hl rfl (Nat.le_of_ble_eq_true rfl) d_Output_writeFarJump_53 (fun r12 s13 hm => ?_)
    intro H locs ls hP hD hS hl
    obtain ⟨h14, hm⟩ := hm
    refine va_iald hx hb hK hP 14 10 rfl rfl h14 d_Output_writeFarJump_56 ?_
    refine lv_iload_n hx hb d_Output_writeFarJump_57 rfl (lv_at hl 0 rfl) ?_
    refine lv_isub hx hb d_Output_writeFarJump_58 ?_
    refine cg_Vv (b := (ad 17)) (As := [.int ((s13 10 (r12).toNatClampNeg) - v9)]) (rest := []) ⟨hx, hb, hml, hown, hts⟩ hK hP hD hS hA (c_Output_put4 l D ad ca H.size s13 ((s13 10 (r12).toNatClampNeg) - v9) _ hm) (cwA 1 hts wd444 wd6 wd441 wd443 ws22 (by decide +kernel) ⟨Nat.le_of_ble_eq_true rfl, Nat.le_of_ble_eq_true rfl⟩) (va_recv hK hP (ci := 4) (q0 := 17) rfl rfl) rfl hl rfl (Nat.le_of_ble_eq_true rfl) d_Output_writeFarJump_59 (fun s16 hm => ?_)
    intro H locs ls hP hD hS hl
    exact rt_v hx hb hr hlocks hK hP hD hS d_Output_writeFarJump_62 hm
  intro H locs ls hP hD hS hl
  have hl : lv_has ls 4 [(0, .ref (ad 17)), (1, .int a1), (2, .int a2)] := hl
  unfold x_Output_writeFarJump at hm
  refine lv_iload_n hx hb d_Output_writeFarJump_0 rfl (lv_at hl 2 rfl) ?_
  refine lv_sipush (v := 167) hx hb d_Output_writeFarJump_1 (by decide) ?_
  refine lv_icmp_eq (tgt := 28) hx hb d_Output_writeFarJump_4 (by decide) (fun c1 => ?_) (fun c1 => ?_)
  · replace hm := hm.1 c1
    exact B28  s a1 hm H locs ls hP hD hS (lv_sub hl [0, 1] rfl)
  · replace hm := hm.2 c1
    refine lv_iload_n hx hb d_Output_writeFarJump_7 rfl (lv_at hl 2 rfl) ?_
    refine lv_sipush (v := 200) hx hb d_Output_writeFarJump_8 (by decide) ?_
    refine lv_icmp_eq (tgt := 28) hx hb d_Output_writeFarJump_11 (by decide) (fun c2 => ?_) (fun c2 => ?_)
    · replace hm := hm.1 c2
      exact B28  s a1 hm H locs ls hP hD hS (lv_sub hl [0, 1] rfl)
    · replace hm := hm.2 c2
      refine lv_aload_n hx hb d_Output_writeFarJump_14 rfl (lv_at hl 0 rfl) ?_
      refine lv_iload_n hx hb d_Output_writeFarJump_15 rfl (lv_at hl 2 rfl) ?_
      refine cg_Si (As := [.int a2]) (rest := [.ref (ad 17)]) ⟨hx, hb, hml, hown, hts⟩ hK hP hD hS hA (c_Opcodes_opposite l D ad ca H.size s a2 _ hm) (cwB 1 hts wd452 wd8 wd450 wd451 (by decide +kernel) ⟨Nat.le_of_ble_eq_true rfl, Nat.le_of_ble_eq_true rfl⟩) rfl hl rfl (Nat.le_of_ble_eq_true rfl) d_Output_writeFarJump_16 (fun r3 s4 hm => ?_)
      intro H locs ls hP hD hS hl
      refine cg_Vv (b := (ad 17)) (As := [.int r3]) (rest := []) ⟨hx, hb, hml, hown, hts⟩ hK hP hD hS hA (c_Output_put1 l D ad ca H.size s4 r3 _ hm) (cwA 1 hts wd413 wd6 wd410 wd412 ws16 (by decide +kernel) ⟨Nat.le_of_ble_eq_true rfl, Nat.le_of_ble_eq_true rfl⟩) (va_recv hK hP (ci := 4) (q0 := 17) rfl rfl) rfl hl rfl (Nat.le_of_ble_eq_true rfl) d_Output_writeFarJump_19 (fun s6 hm => ?_)
      intro H locs ls hP hD hS hl
      refine lv_aload_n hx hb d_Output_writeFarJump_22 rfl (lv_at hl 0 rfl) ?_
      refine lv_bipush (v := 8) hx hb d_Output_writeFarJump_23 (by decide) ?_
      refine cg_Vv (b := (ad 17)) (As := [.int (8 : Int32)]) (rest := []) ⟨hx, hb, hml, hown, hts⟩ hK hP hD hS hA (c_Output_put2 l D ad ca H.size s6 (8 : Int32) _ hm) (cwA 1 hts wd417 wd6 wd414 wd416 ws17 (by decide +kernel) ⟨Nat.le_of_ble_eq_true rfl, Nat.le_of_ble_eq_true rfl⟩) (va_recv hK hP (ci := 4) (q0 := 17) rfl rfl) rfl hl rfl (Nat.le_of_ble_eq_true rfl) d_Output_writeFarJump_25 (fun s8 hm => ?_)
      intro H locs ls hP hD hS hl
      exact B28  s8 a1 hm H locs ls hP hD hS (lv_sub hl [0, 1] rfl)
set_option maxHeartbeats 4000000 in
set_option maxRecDepth 100000 in
theorem c_Output_writeSwitch (l : Launch) (D : va_G) (ad : Nat → Nat) (ca : Nat → ClassId) (sz : Nat) (s : St) (a1 : Int32) (a2 : Int32) (Post : St → Prop) (hm : x_Output_writeSwitch s a1 a2 Post) : CtV l y_Output_writeSwitch w_Output_writeSwitch { frames := 3, cells := 0, slots := 0, locals := 64 } D vwCl (tyX ca) (wX ad ca) sz [.ref (ad 17), .int a1, .int a2] s Post := by
  refine ct_v (cc := prog_4_method_7_code) (maxL := 6) (ret := none) (by decide) rfl (Nat.le_of_ble_eq_true rfl) ?_
  intro p e s0 m args below meth c A hx hb hr hts hown hlocks hml hK hA
  have hown : s0.vm.findClass R_Output = some m.cls := hown
  have B134 : ∀ (K63 : St → Int32 → Int32 → Int32 → Int32 → Prop) (hK63 : ∀ (s : St) (x1 : Int32) (x2 : Int32) (x4 : Int32) (x5 : Int32), K63 s x1 x2 x4 x5 → Bk D vwCl (wX ad ca) A p l e { frames := 3, cells := 0, slots := 0, locals := 64 } s0 m args below meth c (MQ below (va_Qv Post (atG D vwCl (tyX ca) (wX ad ca) A) A) args s0 0 0 A) 6 63 s [(0, .ref (ad 17)), (1, .int x1), (2, .int x2), (4, .int x4), (5, .int x5)] []) (s : St) (x1 : Int32) (x2 : Int32) (x4 : Int32) (x5 : Int32), x_Output_writeSwitch_134 K63 Post s x1 x2 x4 x5 → Bk D vwCl (wX ad ca) A p l e { frames := 3, cells := 0, slots := 0, locals := 64 } s0 m args below meth c (MQ below (va_Qv Post (atG D vwCl (tyX ca) (wX ad ca) A) A) args s0 0 0 A) 6 134 s [(0, .ref (ad 17)), (1, .int x1), (2, .int x2), (4, .int x4), (5, .int x5)] [] := by
    intro K63 hK63 s x1 x2 x4 x5 hm H locs ls hP hD hS hl
    unfold x_Output_writeSwitch_134 at hm
    obtain ⟨v30, ev30⟩ : ∃ y : Int32, y = x5 + 1 := ⟨_, rfl⟩
    replace hm := hm v30 ev30
    refine lv_iinc (v := v30) (lv' := [(5, .int v30), (0, .ref (ad 17)), (1, .int x1), (2, .int x2), (4, .int x4)]) hx hb d_Output_writeSwitch_134 hl (k := 4) rfl (by rw [ev30]; rfl) (by decide) rfl (fun ls hl => ?_)
    refine lv_goto (tgt := 63) hx hb d_Output_writeSwitch_137 (by decide) ?_
    exact hK63 s x1 x2 x4 v30 hm H locs ls hP hD hS (lv_sub hl [1, 2, 3, 4, 0] rfl)
  have B63 : ∀ (n : Nat) (s : St) (x1 : Int32) (x2 : Int32) (x4 : Int32) (x5 : Int32), x_Output_writeSwitch_63  Post n s x1 x2 x4 x5 → Bk D vwCl (wX ad ca) A p l e { frames := 3, cells := 0, slots := 0, locals := 64 } s0 m args below meth c (MQ below (va_Qv Post (atG D vwCl (tyX ca) (wX ad ca) A) A) args s0 0 0 A) 6 63 s [(0, .ref (ad 17)), (1, .int x1), (2, .int x2), (4, .int x4), (5, .int x5)] [] := by
    intro  n63
    induction n63 with
    | zero => intro s x1 x2 x4 x5 hm; exact hm.elim
    | succ n63 hK63 =>
      intro s x1 x2 x4 x5 hm H locs ls hP hD hS hl
      have hm : x_Output_writeSwitch_63F  Post (fun s x1 x2 x4 x5 => x_Output_writeSwitch_63  Post n63 s x1 x2 x4 x5) s x1 x2 x4 x5 := hm
      unfold x_Output_writeSwitch_63F at hm
      refine lv_iload hx hb d_Output_writeSwitch_63 (lv_at hl 4 rfl) ?_
      refine lv_iload hx hb d_Output_writeSwitch_65 (lv_at hl 3 rfl) ?_
      refine lv_icmp_ge (tgt := 140) hx hb d_Output_writeSwitch_67 (by decide) (fun c14 => ?_) (fun c14 => ?_)
      · replace hm := hm.1 c14
        exact rt_v hx hb hr hlocks hK hP hD hS d_Output_writeSwitch_140 hm
      · replace hm := hm.2 c14
        refine lv_iload_n hx hb d_Output_writeSwitch_70 rfl (lv_at hl 2 rfl) ?_
        refine lv_iload hx hb d_Output_writeSwitch_71 (lv_at hl 4 rfl) ?_
        refine cg_Si (As := [.int x2, .int x5]) (rest := []) ⟨hx, hb, hml, hown, hts⟩ hK hP hD hS hA (c_Opcodes_isGoalWord l D ad ca H.size s x2 x5 _ hm) (cwB 2 hts wd325 wd8 wd439 wd324 (by decide +kernel) ⟨Nat.le_of_ble_eq_true rfl, Nat.le_of_ble_eq_true rfl⟩) rfl hl rfl (Nat.le_of_ble_eq_true rfl) d_Output_writeSwitch_73 (fun r15 s16 hm => ?_)
        intro H locs ls hP hD hS hl
        refine lv_if_eq (tgt := 114) hx hb d_Output_writeSwitch_76 (by decide) (fun c17 => ?_) (fun c17 => ?_)
        · replace hm := hm.1 c17
          refine lv_aload_n hx hb d_Output_writeSwitch_114 rfl (lv_at hl 0 rfl) ?_
          refine lv_aload_n hx hb d_Output_writeSwitch_115 rfl (lv_at hl 0 rfl) ?_
          refine va_get (D := D) (ci := 4) (v := .ref (ad 1)) (C := R_Output) (T := T_Output) (N := 9) hx hb hts in_Output hown hK hP 17 rfl rfl 0 (by decide) (hts _ wd154) (fun _ h9 => h9) rfl d_Output_writeSwitch_116 ?_
          refine lv_iload_n hx hb d_Output_writeSwitch_119 rfl (lv_at hl 1 rfl) ?_
          refine cg_Si (As := [.int x1]) (rest := [.ref (ad 1), .ref (ad 17)]) ⟨hx, hb, hml, hown, hts⟩ hK hP hD hS hA (c_Source_wordsFrom l D ad ca H.size s16 x1 _ hm) (cwB 1 hts wd295 wd2 wd437 wd294 (by decide +kernel) ⟨Nat.le_of_ble_eq_true rfl, Nat.le_of_ble_eq_true rfl⟩) rfl hl rfl (Nat.le_of_ble_eq_true rfl) d_Output_writeSwitch_120 (fun r18 s19 hm => ?_)
          intro H locs ls hP hD hS hl
          refine lv_iconst (v := 4) hx hb d_Output_writeSwitch_123 (by decide) ?_
          refine lv_iload hx hb d_Output_writeSwitch_124 (lv_at hl 4 rfl) ?_
          refine lv_imul hx hb d_Output_writeSwitch_126 ?_
          refine lv_iadd hx hb d_Output_writeSwitch_127 ?_
          refine cg_Vi (b := (ad 1)) (As := [.int (r18 + ((4 : Int32) * x5))]) (rest := [.ref (ad 17)]) ⟨hx, hb, hml, hown, hts⟩ hK hP hD hS hA (c_Source_s4 l D ad ca H.size s19 (r18 + ((4 : Int32) * x5)) _ hm) (cwA 1 hts wd299 wd2 wd445 wd297 wd298 (by decide +kernel) ⟨Nat.le_of_ble_eq_true rfl, Nat.le_of_ble_eq_true rfl⟩) (va_recv hK hP (ci := 1) (q0 := 1) rfl rfl) rfl hl rfl (Nat.le_of_ble_eq_true rfl) d_Output_writeSwitch_128 (fun r20 s21 hm => ?_)
          intro H locs ls hP hD hS hl
          refine cg_Vv (b := (ad 17)) (As := [.int r20]) (rest := []) ⟨hx, hb, hml, hown, hts⟩ hK hP hD hS hA (c_Output_put4 l D ad ca H.size s21 r20 _ hm) (cwA 1 hts wd444 wd6 wd441 wd443 ws22 (by decide +kernel) ⟨Nat.le_of_ble_eq_true rfl, Nat.le_of_ble_eq_true rfl⟩) (va_recv hK hP (ci := 4) (q0 := 17) rfl rfl) rfl hl rfl (Nat.le_of_ble_eq_true rfl) d_Output_writeSwitch_131 (fun s23 hm => ?_)
          intro H locs ls hP hD hS hl
          exact B134 (fun s x1 x2 x4 x5 => x_Output_writeSwitch_63  Post n63 s x1 x2 x4 x5) hK63 s23 x1 x2 x4 x5 hm H locs ls hP hD hS (lv_sub hl [0, 1, 2, 3, 4] rfl)
        · replace hm := hm.2 c17
          refine lv_aload_n hx hb d_Output_writeSwitch_79 rfl (lv_at hl 0 rfl) ?_
          refine lv_aload_n hx hb d_Output_writeSwitch_80 rfl (lv_at hl 0 rfl) ?_
          refine va_get (D := D) (ci := 4) (v := .ref (ad 7)) (C := R_Output) (T := T_Output) (N := 9) hx hb hts in_Output hown hK hP 17 rfl rfl 2 (by decide) (hts _ wd156) (fun _ h9 => h9) rfl d_Output_writeSwitch_81 ?_
          refine va_get (D := D) (ci := 3) (v := .ref (ad 14)) (C := R_Layout) (T := T_Layout) (N := 16) hx hb hts in_Layout hown hK hP 7 rfl rfl 8 (by decide) (hts _ wd96) (fun _ h9 => h9) rfl d_Output_writeSwitch_84 ?_
          refine lv_aload_n hx hb d_Output_writeSwitch_87 rfl (lv_at hl 0 rfl) ?_
          refine va_get (D := D) (ci := 4) (v := .ref (ad 1)) (C := R_Output) (T := T_Output) (N := 9) hx hb hts in_Output hown hK hP 17 rfl rfl 0 (by decide) (hts _ wd154) (fun _ h9 => h9) rfl d_Output_writeSwitch_88 ?_
          refine lv_iload_n hx hb d_Output_writeSwitch_91 rfl (lv_at hl 1 rfl) ?_
          refine lv_iload hx hb d_Output_writeSwitch_92 (lv_at hl 4 rfl) ?_
          refine cg_Vi (b := (ad 1)) (As := [.int x1, .int x5]) (rest := [.ref (ad 14), .ref (ad 17)]) ⟨hx, hb, hml, hown, hts⟩ hK hP hD hS hA (c_Source_wordGoal l D ad ca H.size s16 x1 x5 _ hm) (cwA 2 hts wd329 wd2 wd440 wd327 wd328 (by decide +kernel) ⟨Nat.le_of_ble_eq_true rfl, Nat.le_of_ble_eq_true rfl⟩) (va_recv hK hP (ci := 1) (q0 := 1) rfl rfl) rfl hl rfl (Nat.le_of_ble_eq_true rfl) d_Output_writeSwitch_94 (fun r24 s25 hm => ?_)
          intro H locs ls hP hD hS hl
          obtain ⟨h26, hm⟩ := hm
          refine va_iald hx hb hK hP 14 10 rfl rfl h26 d_Output_writeSwitch_97 ?_
          refine lv_aload_n hx hb d_Output_writeSwitch_98 rfl (lv_at hl 0 rfl) ?_
          refine va_get (D := D) (ci := 4) (v := .ref (ad 7)) (C := R_Output) (T := T_Output) (N := 9) hx hb hts in_Output hown hK hP 17 rfl rfl 2 (by decide) (hts _ wd156) (fun _ h9 => h9) rfl d_Output_writeSwitch_99 ?_
          refine va_get (D := D) (ci := 3) (v := .ref (ad 15)) (C := R_Layout) (T := T_Layout) (N := 16) hx hb hts in_Layout hown hK hP 7 rfl rfl 9 (by decide) (hts _ wd99) (fun _ h9 => h9) rfl d_Output_writeSwitch_102 ?_
          refine lv_iload_n hx hb d_Output_writeSwitch_105 rfl (lv_at hl 1 rfl) ?_
          obtain ⟨h27, hm⟩ := hm
          refine va_iald hx hb hK hP 15 11 rfl rfl h27 d_Output_writeSwitch_106 ?_
          refine lv_isub hx hb d_Output_writeSwitch_107 ?_
          refine cg_Vv (b := (ad 17)) (As := [.int ((s25 10 (r24).toNatClampNeg) - (s25 11 (x1).toNatClampNeg))]) (rest := []) ⟨hx, hb, hml, hown, hts⟩ hK hP hD hS hA (c_Output_put4 l D ad ca H.size s25 ((s25 10 (r24).toNatClampNeg) - (s25 11 (x1).toNatClampNeg)) _ hm) (cwA 1 hts wd444 wd6 wd441 wd443 ws22 (by decide +kernel) ⟨Nat.le_of_ble_eq_true rfl, Nat.le_of_ble_eq_true rfl⟩) (va_recv hK hP (ci := 4) (q0 := 17) rfl rfl) rfl hl rfl (Nat.le_of_ble_eq_true rfl) d_Output_writeSwitch_108 (fun s29 hm => ?_)
          intro H locs ls hP hD hS hl
          refine lv_goto (tgt := 134) hx hb d_Output_writeSwitch_111 (by decide) ?_
          exact B134 (fun s x1 x2 x4 x5 => x_Output_writeSwitch_63  Post n63 s x1 x2 x4 x5) hK63 s29 x1 x2 x4 x5 hm H locs ls hP hD hS (lv_sub hl [0, 1, 2, 3, 4] rfl)
  have B33 : ∀ (n : Nat) (s : St) (x1 : Int32) (x2 : Int32) (x3 : Int32) (x4 : Int32), x_Output_writeSwitch_33  Post n s x1 x2 x3 x4 → Bk D vwCl (wX ad ca) A p l e { frames := 3, cells := 0, slots := 0, locals := 64 } s0 m args below meth c (MQ below (va_Qv Post (atG D vwCl (tyX ca) (wX ad ca) A) A) args s0 0 0 A) 6 33 s [(0, .ref (ad 17)), (1, .int x1), (2, .int x2), (3, .int x3), (4, .int x4)] [] := by
    intro  n33
    induction n33 with
    | zero => intro s x1 x2 x3 x4 hm; exact hm.elim
    | succ n33 hK33 =>
      intro s x1 x2 x3 x4 hm H locs ls hP hD hS hl
      have hm : x_Output_writeSwitch_33F  Post (fun s x1 x2 x3 x4 => x_Output_writeSwitch_33  Post n33 s x1 x2 x3 x4) s x1 x2 x3 x4 := hm
      unfold x_Output_writeSwitch_33F at hm
      refine lv_iload hx hb d_Output_writeSwitch_33 (lv_at hl 4 rfl) ?_
      refine lv_iload_n hx hb d_Output_writeSwitch_35 rfl (lv_at hl 3 rfl) ?_
      refine lv_icmp_ge (tgt := 50) hx hb d_Output_writeSwitch_36 (by decide) (fun c8 => ?_) (fun c8 => ?_)
      · replace hm := hm.1 c8
        refine lv_aload_n hx hb d_Output_writeSwitch_50 rfl (lv_at hl 0 rfl) ?_
        refine va_get (D := D) (ci := 4) (v := .ref (ad 7)) (C := R_Output) (T := T_Output) (N := 9) hx hb hts in_Output hown hK hP 17 rfl rfl 2 (by decide) (hts _ wd156) (fun _ h9 => h9) rfl d_Output_writeSwitch_51 ?_
        refine lv_iload_n hx hb d_Output_writeSwitch_54 rfl (lv_at hl 1 rfl) ?_
        refine cg_Vi (b := (ad 7)) (As := [.int x1]) (rest := []) ⟨hx, hb, hml, hown, hts⟩ hK hP hD hS hA (c_Layout_wordsOf l D ad ca H.size s x1 _ hm) (cwA 1 hts wd321 wd5 wd438 wd319 wd320 (by decide +kernel) ⟨Nat.le_of_ble_eq_true rfl, Nat.le_of_ble_eq_true rfl⟩) (va_recv hK hP (ci := 3) (q0 := 7) rfl rfl) rfl hl rfl (Nat.le_of_ble_eq_true rfl) d_Output_writeSwitch_55 (fun r9 s10 hm => ?_)
        intro H locs ls hP hD hS hl
        refine lv_istore (lv' := [(4, .int r9), (0, .ref (ad 17)), (1, .int x1), (2, .int x2), (3, .int x3)]) hx hb d_Output_writeSwitch_58 hl (by decide) rfl (fun ls hl => ?_)
        refine lv_iconst (v := 0) hx hb d_Output_writeSwitch_60 (by decide) ?_
        refine lv_istore (lv' := [(5, .int (0 : Int32)), (4, .int r9), (0, .ref (ad 17)), (1, .int x1), (2, .int x2), (3, .int x3)]) hx hb d_Output_writeSwitch_61 hl (by decide) rfl (fun ls hl => ?_)
        obtain ⟨n63, hm⟩ := hm
        exact B63  n63 s10 x1 x2 r9 (0 : Int32) hm H locs ls hP hD hS (lv_sub hl [2, 3, 4, 1, 0] rfl)
      · replace hm := hm.2 c8
        refine lv_aload_n hx hb d_Output_writeSwitch_39 rfl (lv_at hl 0 rfl) ?_
        refine lv_iconst (v := 0) hx hb d_Output_writeSwitch_40 (by decide) ?_
        refine cg_Vv (b := (ad 17)) (As := [.int (0 : Int32)]) (rest := []) ⟨hx, hb, hml, hown, hts⟩ hK hP hD hS hA (c_Output_put1 l D ad ca H.size s (0 : Int32) _ hm) (cwA 1 hts wd413 wd6 wd410 wd412 ws16 (by decide +kernel) ⟨Nat.le_of_ble_eq_true rfl, Nat.le_of_ble_eq_true rfl⟩) (va_recv hK hP (ci := 4) (q0 := 17) rfl rfl) rfl hl rfl (Nat.le_of_ble_eq_true rfl) d_Output_writeSwitch_41 (fun s12 hm => ?_)
        intro H locs ls hP hD hS hl
        obtain ⟨v13, ev13⟩ : ∃ y : Int32, y = x4 + 1 := ⟨_, rfl⟩
        replace hm := hm v13 ev13
        refine lv_iinc (v := v13) (lv' := [(4, .int v13), (0, .ref (ad 17)), (1, .int x1), (2, .int x2), (3, .int x3)]) hx hb d_Output_writeSwitch_44 hl (k := 4) rfl (by rw [ev13]; rfl) (by decide) rfl (fun ls hl => ?_)
        refine lv_goto (tgt := 33) hx hb d_Output_writeSwitch_47 (by decide) ?_
        exact hK33 s12 x1 x2 x3 v13 hm H locs ls hP hD hS (lv_sub hl [1, 2, 3, 4, 0] rfl)
  intro H locs ls hP hD hS hl
  have hl : lv_has ls 6 [(0, .ref (ad 17)), (1, .int a1), (2, .int a2)] := hl
  unfold x_Output_writeSwitch at hm
  refine lv_aload_n hx hb d_Output_writeSwitch_0 rfl (lv_at hl 0 rfl) ?_
  refine lv_iload_n hx hb d_Output_writeSwitch_1 rfl (lv_at hl 2 rfl) ?_
  refine cg_Vv (b := (ad 17)) (As := [.int a2]) (rest := []) ⟨hx, hb, hml, hown, hts⟩ hK hP hD hS hA (c_Output_put1 l D ad ca H.size s a2 _ hm) (cwA 1 hts wd413 wd6 wd410 wd412 ws16 (by decide +kernel) ⟨Nat.le_of_ble_eq_true rfl, Nat.le_of_ble_eq_true rfl⟩) (va_recv hK hP (ci := 4) (q0 := 17) rfl rfl) rfl hl rfl (Nat.le_of_ble_eq_true rfl) d_Output_writeSwitch_2 (fun s2 hm => ?_)
  intro H locs ls hP hD hS hl
  refine lv_aload_n hx hb d_Output_writeSwitch_5 rfl (lv_at hl 0 rfl) ?_
  refine va_get (D := D) (ci := 4) (v := .ref (ad 7)) (C := R_Output) (T := T_Output) (N := 9) hx hb hts in_Output hown hK hP 17 rfl rfl 2 (by decide) (hts _ wd156) (fun _ h9 => h9) rfl d_Output_writeSwitch_6 ?_
  refine va_get (D := D) (ci := 3) (v := .ref (ad 15)) (C := R_Layout) (T := T_Layout) (N := 16) hx hb hts in_Layout hown hK hP 7 rfl rfl 9 (by decide) (hts _ wd99) (fun _ h9 => h9) rfl d_Output_writeSwitch_9 ?_
  refine lv_iload_n hx hb d_Output_writeSwitch_12 rfl (lv_at hl 1 rfl) ?_
  obtain ⟨h3, hm⟩ := hm
  refine va_iald hx hb hK hP 15 11 rfl rfl h3 d_Output_writeSwitch_13 ?_
  refine cg_Si (As := [.int (s2 11 (a1).toNatClampNeg)]) (rest := []) ⟨hx, hb, hml, hown, hts⟩ hK hP hD hS hA (c_Source_wordsFrom l D ad ca H.size s2 (s2 11 (a1).toNatClampNeg) _ hm) (cwB 1 hts wd295 wd2 wd437 wd294 (by decide +kernel) ⟨Nat.le_of_ble_eq_true rfl, Nat.le_of_ble_eq_true rfl⟩) rfl hl rfl (Nat.le_of_ble_eq_true rfl) d_Output_writeSwitch_14 (fun r4 s5 hm => ?_)
  intro H locs ls hP hD hS hl
  refine lv_aload_n hx hb d_Output_writeSwitch_17 rfl (lv_at hl 0 rfl) ?_
  refine va_get (D := D) (ci := 4) (v := .ref (ad 7)) (C := R_Output) (T := T_Output) (N := 9) hx hb hts in_Output hown hK hP 17 rfl rfl 2 (by decide) (hts _ wd156) (fun _ h9 => h9) rfl d_Output_writeSwitch_18 ?_
  refine va_get (D := D) (ci := 3) (v := .ref (ad 15)) (C := R_Layout) (T := T_Layout) (N := 16) hx hb hts in_Layout hown hK hP 7 rfl rfl 9 (by decide) (hts _ wd99) (fun _ h9 => h9) rfl d_Output_writeSwitch_21 ?_
  refine lv_iload_n hx hb d_Output_writeSwitch_24 rfl (lv_at hl 1 rfl) ?_
  obtain ⟨h6, hm⟩ := hm
  refine va_iald hx hb hK hP 15 11 rfl rfl h6 d_Output_writeSwitch_25 ?_
  refine lv_isub hx hb d_Output_writeSwitch_26 ?_
  refine lv_iconst (v := 1) hx hb d_Output_writeSwitch_27 (by decide) ?_
  refine lv_isub hx hb d_Output_writeSwitch_28 ?_
  refine lv_topi (fun v7 ev7 => ?_)
  replace hm := hm v7 ev7
  refine lv_istore_n (lv' := [(3, .int v7), (0, .ref (ad 17)), (1, .int a1), (2, .int a2)]) hx hb d_Output_writeSwitch_29 rfl hl (by decide) rfl (fun ls hl => ?_)
  refine lv_iconst (v := 0) hx hb d_Output_writeSwitch_30 (by decide) ?_
  refine lv_istore (lv' := [(4, .int (0 : Int32)), (3, .int v7), (0, .ref (ad 17)), (1, .int a1), (2, .int a2)]) hx hb d_Output_writeSwitch_31 hl (by decide) rfl (fun ls hl => ?_)
  obtain ⟨n33, hm⟩ := hm
  exact B33  n33 s5 a1 a2 v7 (0 : Int32) hm H locs ls hP hD hS (lv_sub hl [2, 3, 4, 1, 0] rfl)
set_option maxHeartbeats 4000000 in
set_option maxRecDepth 100000 in
theorem c_Output_writeInstruction (l : Launch) (D : va_G) (ad : Nat → Nat) (ca : Nat → ClassId) (sz : Nat) (s : St) (a1 : Int32) (Post : St → Prop) (hm : x_Output_writeInstruction s a1 Post) : CtV l y_Output_writeInstruction w_Output_writeInstruction { frames := 4, cells := 0, slots := 0, locals := 89 } D vwCl (tyX ca) (wX ad ca) sz [.ref (ad 17), .int a1] s Post := by
  refine ct_v (cc := prog_4_method_5_code) (maxL := 4) (ret := none) (by decide) rfl (Nat.le_of_ble_eq_true rfl) ?_
  intro p e s0 m args below meth c A hx hb hr hts hown hlocks hml hK hA
  have hown : s0.vm.findClass R_Output = some m.cls := hown
  have B93 : ∀ (n : Nat) (s : St) (x1 : Int32) (x3 : Int32), x_Output_writeInstruction_93  Post n s x1 x3 → Bk D vwCl (wX ad ca) A p l e { frames := 4, cells := 0, slots := 0, locals := 89 } s0 m args below meth c (MQ below (va_Qv Post (atG D vwCl (tyX ca) (wX ad ca) A) A) args s0 0 0 A) 4 93 s [(0, .ref (ad 17)), (1, .int x1), (3, .int x3)] [] := by
    intro  n93
    induction n93 with
    | zero => intro s x1 x3 hm; exact hm.elim
    | succ n93 hK93 =>
      intro s x1 x3 hm H locs ls hP hD hS hl
      have hm : x_Output_writeInstruction_93F  Post (fun s x1 x3 => x_Output_writeInstruction_93  Post n93 s x1 x3) s x1 x3 := hm
      unfold x_Output_writeInstruction_93F at hm
      refine lv_iload_n hx hb d_Output_writeInstruction_93 rfl (lv_at hl 2 rfl) ?_
      refine lv_aload_n hx hb d_Output_writeInstruction_94 rfl (lv_at hl 0 rfl) ?_
      refine va_get (D := D) (ci := 4) (v := .ref (ad 7)) (C := R_Output) (T := T_Output) (N := 9) hx hb hts in_Output hown hK hP 17 rfl rfl 2 (by decide) (hts _ wd156) (fun _ h9 => h9) rfl d_Output_writeInstruction_95 ?_
      refine va_get (D := D) (ci := 3) (v := .ref (ad 9)) (C := R_Layout) (T := T_Layout) (N := 16) hx hb hts in_Layout hown hK hP 7 rfl rfl 3 (by decide) (hts _ wd85) (fun _ h9 => h9) rfl d_Output_writeInstruction_98 ?_
      refine lv_iload_n hx hb d_Output_writeInstruction_101 rfl (lv_at hl 1 rfl) ?_
      obtain ⟨h23, hm⟩ := hm
      refine va_iald hx hb hK hP 9 5 rfl rfl h23 d_Output_writeInstruction_102 ?_
      refine lv_icmp_ge (tgt := 126) hx hb d_Output_writeInstruction_103 (by decide) (fun c24 => ?_) (fun c24 => ?_)
      · replace hm := hm.1 c24
        exact rt_v hx hb hr hlocks hK hP hD hS d_Output_writeInstruction_126 hm
      · replace hm := hm.2 c24
        refine lv_aload_n hx hb d_Output_writeInstruction_106 rfl (lv_at hl 0 rfl) ?_
        refine lv_aload_n hx hb d_Output_writeInstruction_107 rfl (lv_at hl 0 rfl) ?_
        refine va_get (D := D) (ci := 4) (v := .ref (ad 1)) (C := R_Output) (T := T_Output) (N := 9) hx hb hts in_Output hown hK hP 17 rfl rfl 0 (by decide) (hts _ wd154) (fun _ h9 => h9) rfl d_Output_writeInstruction_108 ?_
        refine lv_iload_n hx hb d_Output_writeInstruction_111 rfl (lv_at hl 1 rfl) ?_
        refine lv_iload_n hx hb d_Output_writeInstruction_112 rfl (lv_at hl 2 rfl) ?_
        refine lv_iadd hx hb d_Output_writeInstruction_113 ?_
        refine cg_Vi (b := (ad 1)) (As := [.int (x1 + x3)]) (rest := [.ref (ad 17)]) ⟨hx, hb, hml, hown, hts⟩ hK hP hD hS hA (c_Source_u1 l D ad ca H.size s (x1 + x3) _ hm) (cwA 1 hts wd275 wd2 wd405 wd273 wd274 (by decide +kernel) ⟨Nat.le_of_ble_eq_true rfl, Nat.le_of_ble_eq_true rfl⟩) (va_recv hK hP (ci := 1) (q0 := 1) rfl rfl) rfl hl rfl (Nat.le_of_ble_eq_true rfl) d_Output_writeInstruction_114 (fun r25 s26 hm => ?_)
        intro H locs ls hP hD hS hl
        refine cg_Vv (b := (ad 17)) (As := [.int r25]) (rest := []) ⟨hx, hb, hml, hown, hts⟩ hK hP hD hS hA (c_Output_put1 l D ad ca H.size s26 r25 _ hm) (cwA 1 hts wd413 wd6 wd410 wd412 ws16 (by decide +kernel) ⟨Nat.le_of_ble_eq_true rfl, Nat.le_of_ble_eq_true rfl⟩) (va_recv hK hP (ci := 4) (q0 := 17) rfl rfl) rfl hl rfl (Nat.le_of_ble_eq_true rfl) d_Output_writeInstruction_117 (fun s28 hm => ?_)
        intro H locs ls hP hD hS hl
        obtain ⟨v29, ev29⟩ : ∃ y : Int32, y = x3 + 1 := ⟨_, rfl⟩
        replace hm := hm v29 ev29
        refine lv_iinc (v := v29) (lv' := [(3, .int v29), (0, .ref (ad 17)), (1, .int x1)]) hx hb d_Output_writeInstruction_120 hl (k := 2) rfl (by rw [ev29]; rfl) (by decide) rfl (fun ls hl => ?_)
        refine lv_goto (tgt := 93) hx hb d_Output_writeInstruction_123 (by decide) ?_
        exact hK93 s28 x1 v29 hm H locs ls hP hD hS (lv_sub hl [1, 2, 0] rfl)
  intro H locs ls hP hD hS hl
  have hl : lv_has ls 4 [(0, .ref (ad 17)), (1, .int a1)] := hl
  unfold x_Output_writeInstruction at hm
  refine lv_aload_n hx hb d_Output_writeInstruction_0 rfl (lv_at hl 0 rfl) ?_
  refine va_get (D := D) (ci := 4) (v := .ref (ad 1)) (C := R_Output) (T := T_Output) (N := 9) hx hb hts in_Output hown hK hP 17 rfl rfl 0 (by decide) (hts _ wd154) (fun _ h9 => h9) rfl d_Output_writeInstruction_1 ?_
  refine lv_iload_n hx hb d_Output_writeInstruction_4 rfl (lv_at hl 1 rfl) ?_
  refine cg_Vi (b := (ad 1)) (As := [.int a1]) (rest := []) ⟨hx, hb, hml, hown, hts⟩ hK hP hD hS hA (c_Source_u1 l D ad ca H.size s a1 _ hm) (cwA 1 hts wd275 wd2 wd405 wd273 wd274 (by decide +kernel) ⟨Nat.le_of_ble_eq_true rfl, Nat.le_of_ble_eq_true rfl⟩) (va_recv hK hP (ci := 1) (q0 := 1) rfl rfl) rfl hl rfl (Nat.le_of_ble_eq_true rfl) d_Output_writeInstruction_5 (fun r1 s2 hm => ?_)
  intro H locs ls hP hD hS hl
  refine lv_istore_n (lv' := [(2, .int r1), (0, .ref (ad 17)), (1, .int a1)]) hx hb d_Output_writeInstruction_8 rfl hl (by decide) rfl (fun ls hl => ?_)
  refine lv_iload_n hx hb d_Output_writeInstruction_9 rfl (lv_at hl 0 rfl) ?_
  refine cg_Si (As := [.int r1]) (rest := []) ⟨hx, hb, hml, hown, hts⟩ hK hP hD hS hA (c_Opcodes_isSwitch l D ad ca H.size s2 r1 _ hm) (cwB 1 hts wd288 wd8 wd432 wd287 (by decide +kernel) ⟨Nat.le_of_ble_eq_true rfl, Nat.le_of_ble_eq_true rfl⟩) rfl hl rfl (Nat.le_of_ble_eq_true rfl) d_Output_writeInstruction_10 (fun r3 s4 hm => ?_)
  intro H locs ls hP hD hS hl
  refine lv_if_eq (tgt := 25) hx hb d_Output_writeInstruction_13 (by decide) (fun c5 => ?_) (fun c5 => ?_)
  · replace hm := hm.1 c5
    refine lv_aload_n hx hb d_Output_writeInstruction_25 rfl (lv_at hl 1 rfl) ?_
    refine va_get (D := D) (ci := 4) (v := .ref (ad 7)) (C := R_Output) (T := T_Output) (N := 9) hx hb hts in_Output hown hK hP 17 rfl rfl 2 (by decide) (hts _ wd156) (fun _ h9 => h9) rfl d_Output_writeInstruction_26 ?_
    refine va_get (D := D) (ci := 3) (v := .ref (ad 16)) (C := R_Layout) (T := T_Layout) (N := 16) hx hb hts in_Layout hown hK hP 7 rfl rfl 10 (by decide) (hts _ wd102) (fun _ h9 => h9) rfl d_Output_writeInstruction_29 ?_
    refine lv_iload_n hx hb d_Output_writeInstruction_32 rfl (lv_at hl 2 rfl) ?_
    obtain ⟨h6, hm⟩ := hm
    refine va_zald hx hb hK hP 16 12 rfl rfl h6 d_Output_writeInstruction_33 ?_
    refine lv_if_eq (tgt := 46) hx hb d_Output_writeInstruction_34 (by decide) (fun c7 => ?_) (fun c7 => ?_)
    · replace hm := hm.1 c7
      refine lv_iload_n hx hb d_Output_writeInstruction_46 rfl (lv_at hl 0 rfl) ?_
      refine cg_Si (As := [.int r1]) (rest := []) ⟨hx, hb, hml, hown, hts⟩ hK hP hD hS hA (c_Opcodes_isShortJump l D ad ca H.size s4 r1 _ hm) (cwB 1 hts wd307 wd8 wd454 wd306 (by decide +kernel) ⟨Nat.le_of_ble_eq_true rfl, Nat.le_of_ble_eq_true rfl⟩) rfl hl rfl (Nat.le_of_ble_eq_true rfl) d_Output_writeInstruction_47 (fun r8 s9 hm => ?_)
      intro H locs ls hP hD hS hl
      refine lv_if_eq (tgt := 91) hx hb d_Output_writeInstruction_50 (by decide) (fun c10 => ?_) (fun c10 => ?_)
      · replace hm := hm.1 c10
        refine lv_iconst (v := 0) hx hb d_Output_writeInstruction_91 (by decide) ?_
        refine lv_istore_n (lv' := [(3, .int (0 : Int32)), (2, .int r1), (0, .ref (ad 17)), (1, .int a1)]) hx hb d_Output_writeInstruction_92 rfl hl (by decide) rfl (fun ls hl => ?_)
        obtain ⟨n93, hm⟩ := hm
        exact B93  n93 s9 a1 (0 : Int32) hm H locs ls hP hD hS (lv_sub hl [2, 3, 0] rfl)
      · replace hm := hm.2 c10
        refine lv_aload_n hx hb d_Output_writeInstruction_53 rfl (lv_at hl 1 rfl) ?_
        refine lv_iload_n hx hb d_Output_writeInstruction_54 rfl (lv_at hl 0 rfl) ?_
        refine cg_Vv (b := (ad 17)) (As := [.int r1]) (rest := []) ⟨hx, hb, hml, hown, hts⟩ hK hP hD hS hA (c_Output_put1 l D ad ca H.size s9 r1 _ hm) (cwA 1 hts wd413 wd6 wd410 wd412 ws16 (by decide +kernel) ⟨Nat.le_of_ble_eq_true rfl, Nat.le_of_ble_eq_true rfl⟩) (va_recv hK hP (ci := 4) (q0 := 17) rfl rfl) rfl hl rfl (Nat.le_of_ble_eq_true rfl) d_Output_writeInstruction_55 (fun s12 hm => ?_)
        intro H locs ls hP hD hS hl
        refine lv_aload_n hx hb d_Output_writeInstruction_58 rfl (lv_at hl 1 rfl) ?_
        refine lv_aload_n hx hb d_Output_writeInstruction_59 rfl (lv_at hl 1 rfl) ?_
        refine va_get (D := D) (ci := 4) (v := .ref (ad 7)) (C := R_Output) (T := T_Output) (N := 9) hx hb hts in_Output hown hK hP 17 rfl rfl 2 (by decide) (hts _ wd156) (fun _ h9 => h9) rfl d_Output_writeInstruction_60 ?_
        refine va_get (D := D) (ci := 3) (v := .ref (ad 14)) (C := R_Layout) (T := T_Layout) (N := 16) hx hb hts in_Layout hown hK hP 7 rfl rfl 8 (by decide) (hts _ wd96) (fun _ h9 => h9) rfl d_Output_writeInstruction_63 ?_
        refine lv_aload_n hx hb d_Output_writeInstruction_66 rfl (lv_at hl 1 rfl) ?_
        refine va_get (D := D) (ci := 4) (v := .ref (ad 1)) (C := R_Output) (T := T_Output) (N := 9) hx hb hts in_Output hown hK hP 17 rfl rfl 0 (by decide) (hts _ wd154) (fun _ h9 => h9) rfl d_Output_writeInstruction_67 ?_
        refine lv_iload_n hx hb d_Output_writeInstruction_70 rfl (lv_at hl 2 rfl) ?_
        refine cg_Vi (b := (ad 1)) (As := [.int a1]) (rest := [.ref (ad 14), .ref (ad 17)]) ⟨hx, hb, hml, hown, hts⟩ hK hP hD hS hA (c_Source_jumpGoal l D ad ca H.size s12 a1 _ hm) (cwA 1 hts wd342 wd2 wd453 wd340 wd341 (by decide +kernel) ⟨Nat.le_of_ble_eq_true rfl, Nat.le_of_ble_eq_true rfl⟩) (va_recv hK hP (ci := 1) (q0 := 1) rfl rfl) rfl hl rfl (Nat.le_of_ble_eq_true rfl) d_Output_writeInstruction_71 (fun r13 s14 hm => ?_)
        intro H locs ls hP hD hS hl
        obtain ⟨h15, hm⟩ := hm
        refine va_iald hx hb hK hP 14 10 rfl rfl h15 d_Output_writeInstruction_74 ?_
        refine lv_aload_n hx hb d_Output_writeInstruction_75 rfl (lv_at hl 1 rfl) ?_
        refine va_get (D := D) (ci := 4) (v := .ref (ad 7)) (C := R_Output) (T := T_Output) (N := 9) hx hb hts in_Output hown hK hP 17 rfl rfl 2 (by decide) (hts _ wd156) (fun _ h9 => h9) rfl d_Output_writeInstruction_76 ?_
        refine va_get (D := D) (ci := 3) (v := .ref (ad 15)) (C := R_Layout) (T := T_Layout) (N := 16) hx hb hts in_Layout hown hK hP 7 rfl rfl 9 (by decide) (hts _ wd99) (fun _ h9 => h9) rfl d_Output_writeInstruction_79 ?_
        refine lv_iload_n hx hb d_Output_writeInstruction_82 rfl (lv_at hl 2 rfl) ?_
        obtain ⟨h16, hm⟩ := hm
        refine va_iald hx hb hK hP 15 11 rfl rfl h16 d_Output_writeInstruction_83 ?_
        refine lv_isub hx hb d_Output_writeInstruction_84 ?_
        refine cg_Vv (b := (ad 17)) (As := [.int ((s14 10 (r13).toNatClampNeg) - (s14 11 (a1).toNatClampNeg))]) (rest := []) ⟨hx, hb, hml, hown, hts⟩ hK hP hD hS hA (c_Output_put2 l D ad ca H.size s14 ((s14 10 (r13).toNatClampNeg) - (s14 11 (a1).toNatClampNeg)) _ hm) (cwA 1 hts wd417 wd6 wd414 wd416 ws17 (by decide +kernel) ⟨Nat.le_of_ble_eq_true rfl, Nat.le_of_ble_eq_true rfl⟩) (va_recv hK hP (ci := 4) (q0 := 17) rfl rfl) rfl hl rfl (Nat.le_of_ble_eq_true rfl) d_Output_writeInstruction_85 (fun s18 hm => ?_)
        intro H locs ls hP hD hS hl
        refine lv_goto (tgt := 126) hx hb d_Output_writeInstruction_88 (by decide) ?_
        exact rt_v hx hb hr hlocks hK hP hD hS d_Output_writeInstruction_126 hm
    · replace hm := hm.2 c7
      refine lv_aload_n hx hb d_Output_writeInstruction_37 rfl (lv_at hl 1 rfl) ?_
      refine lv_iload_n hx hb d_Output_writeInstruction_38 rfl (lv_at hl 2 rfl) ?_
      refine lv_iload_n hx hb d_Output_writeInstruction_39 rfl (lv_at hl 0 rfl) ?_
      refine cg_Vv (b := (ad 17)) (As := [.int a1, .int r1]) (rest := []) ⟨hx, hb, hml, hown, hts⟩ hK hP hD hS hA (c_Output_writeFarJump l D ad ca H.size s4 a1 r1 _ hm) (cwA 2 hts wd449 wd6 wd446 wd448 ws23 (by decide +kernel) ⟨Nat.le_of_ble_eq_true rfl, Nat.le_of_ble_eq_true rfl⟩) (va_recv hK hP (ci := 4) (q0 := 17) rfl rfl) rfl hl rfl (Nat.le_of_ble_eq_true rfl) d_Output_writeInstruction_40 (fun s20 hm => ?_)
      intro H locs ls hP hD hS hl
      refine lv_goto (tgt := 126) hx hb d_Output_writeInstruction_43 (by decide) ?_
      exact rt_v hx hb hr hlocks hK hP hD hS d_Output_writeInstruction_126 hm
  · replace hm := hm.2 c5
    refine lv_aload_n hx hb d_Output_writeInstruction_16 rfl (lv_at hl 1 rfl) ?_
    refine lv_iload_n hx hb d_Output_writeInstruction_17 rfl (lv_at hl 2 rfl) ?_
    refine lv_iload_n hx hb d_Output_writeInstruction_18 rfl (lv_at hl 0 rfl) ?_
    refine cg_Vv (b := (ad 17)) (As := [.int a1, .int r1]) (rest := []) ⟨hx, hb, hml, hown, hts⟩ hK hP hD hS hA (c_Output_writeSwitch l D ad ca H.size s4 a1 r1 _ hm) (cwA 2 hts wd436 wd6 wd433 wd435 ws21 (by decide +kernel) ⟨Nat.le_of_ble_eq_true rfl, Nat.le_of_ble_eq_true rfl⟩) (va_recv hK hP (ci := 4) (q0 := 17) rfl rfl) rfl hl rfl (Nat.le_of_ble_eq_true rfl) d_Output_writeInstruction_19 (fun s22 hm => ?_)
    intro H locs ls hP hD hS hl
    refine lv_goto (tgt := 126) hx hb d_Output_writeInstruction_22 (by decide) ?_
    exact rt_v hx hb hr hlocks hK hP hD hS d_Output_writeInstruction_126 hm
set_option maxHeartbeats 4000000 in
set_option maxRecDepth 100000 in
theorem c_Output_write (l : Launch) (D : va_G) (ad : Nat → Nat) (ca : Nat → ClassId) (sz : Nat) (s : St) (Post : St → Prop) (hm : x_Output_write s  Post) : CtV l y_Output_write w_Output_write { frames := 5, cells := 0, slots := 0, locals := 112 } D vwCl (tyX ca) (wX ad ca) sz [.ref (ad 17)] s Post := by
  refine ct_v (cc := prog_4_method_3_code) (maxL := 3) (ret := none) (by decide) rfl (Nat.le_of_ble_eq_true rfl) ?_
  intro p e s0 m args below meth c A hx hb hr hts hown hlocks hml hK hA
  have hown : s0.vm.findClass R_Output = some m.cls := hown
  have B2 : ∀ (n : Nat) (s : St) (x1 : Int32), x_Output_write_2  Post n s x1 → Bk D vwCl (wX ad ca) A p l e { frames := 5, cells := 0, slots := 0, locals := 112 } s0 m args below meth c (MQ below (va_Qv Post (atG D vwCl (tyX ca) (wX ad ca) A) A) args s0 0 0 A) 3 2 s [(0, .ref (ad 17)), (1, .int x1)] [] := by
    intro  n2
    induction n2 with
    | zero => intro s x1 hm; exact hm.elim
    | succ n2 hK2 =>
      intro s x1 hm H locs ls hP hD hS hl
      have hm : x_Output_write_2F  Post (fun s x1 => x_Output_write_2  Post n2 s x1) s x1 := hm
      unfold x_Output_write_2F at hm
      refine lv_iload_n hx hb d_Output_write_2 rfl (lv_at hl 1 rfl) ?_
      refine lv_aload_n hx hb d_Output_write_3 rfl (lv_at hl 0 rfl) ?_
      refine va_get (D := D) (ci := 4) (v := .ref (ad 7)) (C := R_Output) (T := T_Output) (N := 9) hx hb hts in_Output hown hK hP 17 rfl rfl 2 (by decide) (hts _ wd156) (fun _ h9 => h9) rfl d_Output_write_4 ?_
      refine va_get (D := D) (ci := 3) (v := .int (s 15 5)) (C := R_Layout) (T := T_Layout) (N := 16) hx hb hts in_Layout hown hK hP 7 rfl rfl 11 (by decide) (hts _ wd104) (fun _ h9 => h9) rfl d_Output_write_7 ?_
      refine lv_icmp_ge (tgt := 39) hx hb d_Output_write_10 (by decide) (fun c1 => ?_) (fun c1 => ?_)
      · replace hm := hm.1 c1
        refine lv_aload_n hx hb d_Output_write_39 rfl (lv_at hl 0 rfl) ?_
        refine cg_Vv (b := (ad 17)) (As := []) (rest := []) ⟨hx, hb, hml, hown, hts⟩ hK hP hD hS hA (c_Output_writeGuards l D ad ca H.size s _ hm) (cwA 0 hts wd458 wd6 wd455 wd457 ws24 (by decide +kernel) ⟨Nat.le_of_ble_eq_true rfl, Nat.le_of_ble_eq_true rfl⟩) (va_recv hK hP (ci := 4) (q0 := 17) rfl rfl) rfl hl rfl (Nat.le_of_ble_eq_true rfl) d_Output_write_40 (fun s3 hm => ?_)
        intro H locs ls hP hD hS hl
        exact rt_v hx hb hr hlocks hK hP hD hS d_Output_write_43 hm
      · replace hm := hm.2 c1
        refine lv_aload_n hx hb d_Output_write_13 rfl (lv_at hl 0 rfl) ?_
        refine va_get (D := D) (ci := 4) (v := .ref (ad 7)) (C := R_Output) (T := T_Output) (N := 9) hx hb hts in_Output hown hK hP 17 rfl rfl 2 (by decide) (hts _ wd156) (fun _ h9 => h9) rfl d_Output_write_14 ?_
        refine va_get (D := D) (ci := 3) (v := .ref (ad 8)) (C := R_Layout) (T := T_Layout) (N := 16) hx hb hts in_Layout hown hK hP 7 rfl rfl 2 (by decide) (hts _ wd82) (fun _ h9 => h9) rfl d_Output_write_17 ?_
        refine lv_iload_n hx hb d_Output_write_20 rfl (lv_at hl 1 rfl) ?_
        obtain ⟨h4, hm⟩ := hm
        refine va_iald hx hb hK hP 8 4 rfl rfl h4 d_Output_write_21 ?_
        refine lv_topi (fun v5 ev5 => ?_)
        replace hm := hm v5 ev5
        refine lv_istore_n (lv' := [(2, .int v5), (0, .ref (ad 17)), (1, .int x1)]) hx hb d_Output_write_22 rfl hl (by decide) rfl (fun ls hl => ?_)
        refine lv_aload_n hx hb d_Output_write_23 rfl (lv_at hl 1 rfl) ?_
        refine lv_iload_n hx hb d_Output_write_24 rfl (lv_at hl 0 rfl) ?_
        refine cg_Vv (b := (ad 17)) (As := [.int v5]) (rest := []) ⟨hx, hb, hml, hown, hts⟩ hK hP hD hS hA (c_Output_writeLead l D ad ca H.size s v5 _ hm) (cwA 1 hts wd404 wd6 wd401 wd403 ws14 (by decide +kernel) ⟨Nat.le_of_ble_eq_true rfl, Nat.le_of_ble_eq_true rfl⟩) (va_recv hK hP (ci := 4) (q0 := 17) rfl rfl) rfl hl rfl (Nat.le_of_ble_eq_true rfl) d_Output_write_25 (fun s7 hm => ?_)
        intro H locs ls hP hD hS hl
        refine lv_aload_n hx hb d_Output_write_28 rfl (lv_at hl 1 rfl) ?_
        refine lv_iload_n hx hb d_Output_write_29 rfl (lv_at hl 0 rfl) ?_
        refine cg_Vv (b := (ad 17)) (As := [.int v5]) (rest := []) ⟨hx, hb, hml, hown, hts⟩ hK hP hD hS hA (c_Output_writeInstruction l D ad ca H.size s7 v5 _ hm) (cwA 1 hts wd431 wd6 wd428 wd430 ws20 (by decide +kernel) ⟨Nat.le_of_ble_eq_true rfl, Nat.le_of_ble_eq_true rfl⟩) (va_recv hK hP (ci := 4) (q0 := 17) rfl rfl) rfl hl rfl (Nat.le_of_ble_eq_true rfl) d_Output_write_30 (fun s9 hm => ?_)
        intro H locs ls hP hD hS hl
        obtain ⟨v10, ev10⟩ : ∃ y : Int32, y = x1 + 1 := ⟨_, rfl⟩
        replace hm := hm v10 ev10
        refine lv_iinc (v := v10) (lv' := [(1, .int v10), (2, .int v5), (0, .ref (ad 17))]) hx hb d_Output_write_33 hl (k := 2) rfl (by rw [ev10]; rfl) (by decide) rfl (fun ls hl => ?_)
        refine lv_goto (tgt := 2) hx hb d_Output_write_36 (by decide) ?_
        exact hK2 s9 v10 hm H locs ls hP hD hS (lv_sub hl [2, 0] rfl)
  intro H locs ls hP hD hS hl
  have hl : lv_has ls 3 [(0, .ref (ad 17))] := hl
  unfold x_Output_write at hm
  refine lv_iconst (v := 0) hx hb d_Output_write_0 (by decide) ?_
  refine lv_istore_n (lv' := [(1, .int (0 : Int32)), (0, .ref (ad 17))]) hx hb d_Output_write_1 rfl hl (by decide) rfl (fun ls hl => ?_)
  obtain ⟨n2, hm⟩ := hm
  exact B2  n2 s (0 : Int32) hm H locs ls hP hD hS (lv_sub hl [1, 0] rfl)
