def x_Source_append (s : St) (a1 : Int32) (Post : St → Prop) : Prop :=
  ((200 : Int32) ≤ (s 15 1) → Post s) ∧ (¬ (200 : Int32) ≤ (s 15 1) → ∀ s2 : St, s2 = su s 15 1 ((s 15 1) + (1 : Int32)) → vp_in (s 15 1) 200 ∧ ∀ s4 : St, s4 = su s2 0 ((s 15 1)).toNatClampNeg a1 → Post s4)
set_option maxHeartbeats 4000000 in
set_option maxRecDepth 100000 in
theorem c_Source_append (l : Launch) (D : va_G) (ad : Nat → Nat) (ca : Nat → ClassId) (sz : Nat) (s : St) (a1 : Int32) (Post : St → Prop) (hm : x_Source_append s a1 Post) : CtV l y_Source_append w_Source_append { frames := 0, cells := 0, slots := 0, locals := 0 } D vwCl (tyX ca) (wX ad ca) sz [.ref (ad 1), .int a1] s Post := by
  refine ct_v (cc := prog_5_method_2_code) (maxL := 2) (ret := none) (by decide) rfl (Nat.le_of_ble_eq_true rfl) ?_
  intro p e s0 m args below meth c A hx hb hr hts hown hlocks hml hK hA
  have hown : s0.vm.findClass R_Source = some m.cls := hown
  intro H locs ls hP hD hS hl
  have hl : lv_has ls 2 [(0, .ref (ad 1)), (1, .int a1)] := hl
  unfold x_Source_append at hm
  refine lv_aload_n hx hb d_Source_append_0 rfl (lv_at hl 0 rfl) ?_
  refine va_get (D := D) (ci := 1) (v := .int (s 15 1)) (C := R_Source) (T := T_Source) (N := 4) hx hb hts in_Source hown hK hP 1 rfl rfl 2 (by decide) (hts _ wd26) (fun _ h9 => h9) rfl d_Source_append_1 ?_
  refine lv_sipush (v := 200) hx hb d_Source_append_4 (by decide) ?_
  refine lv_icmp_ge (tgt := 27) hx hb d_Source_append_7 (by decide) (fun c1 => ?_) (fun c1 => ?_)
  · replace hm := hm.1 c1
    exact rt_v hx hb hr hlocks hK hP hD hS d_Source_append_27 hm
  · replace hm := hm.2 c1
    refine lv_aload_n hx hb d_Source_append_10 rfl (lv_at hl 0 rfl) ?_
    refine va_get (D := D) (ci := 1) (v := .ref (ad 2)) (C := R_Source) (T := T_Source) (N := 4) hx hb hts in_Source hown hK hP 1 rfl rfl 0 (by decide) (hts _ wd23) (fun _ h9 => h9) rfl d_Source_append_11 ?_
    refine lv_aload_n hx hb d_Source_append_14 rfl (lv_at hl 0 rfl) ?_
    refine lv_dup hx hb d_Source_append_15 rfl ?_
    refine va_get (D := D) (ci := 1) (v := .int (s 15 1)) (C := R_Source) (T := T_Source) (N := 4) hx hb hts in_Source hown hK hP 1 rfl rfl 2 (by decide) (hts _ wd26) (fun _ h9 => h9) rfl d_Source_append_16 ?_
    refine lv_dup_x1 hx hb d_Source_append_19 rfl rfl ?_
    refine lv_iconst (v := 1) hx hb d_Source_append_20 (by decide) ?_
    refine lv_iadd hx hb d_Source_append_21 ?_
    refine va_put (D := D) (ci := 1) (v := .int ((s 15 1) + (1 : Int32))) (ty := .int) (C := R_Source) (T := T_Source) (N := 4) hx hb hts in_Source t_Source to_Source no_Source hown hK hP hD hS 1 rfl rfl 2 (by decide) (hts _ wd26) (fun _ h9 => h9) rfl (by decide +kernel) rfl rfl (Nat.le_of_ble_eq_true rfl) d_Source_append_22 (fun H locs hP hD hS => ?_)
    have hP : va_P D vwCl (wX ad ca (su s 15 1 ((s 15 1) + (1 : Int32)))) H := hP
    have hD : va_D A (wX ad ca (su s 15 1 ((s 15 1) + (1 : Int32)))) := hD
    obtain ⟨s2, es2⟩ : ∃ z : St, z = su s 15 1 ((s 15 1) + (1 : Int32)) := ⟨_, rfl⟩
    rw [← es2] at hP hD
    replace hm := hm s2 es2
    refine lv_iload_n hx hb d_Source_append_25 rfl (lv_at hl 1 rfl) ?_
    obtain ⟨h3, hm⟩ := hm
    refine va_iast hx hb hK hP hD hS 2 0 rfl rfl h3 d_Source_append_26 (fun H locs hP hD hS => ?_)
    have hP : va_P D vwCl (wX ad ca (su s2 0 ((s 15 1)).toNatClampNeg a1)) H := hP
    have hD : va_D A (wX ad ca (su s2 0 ((s 15 1)).toNatClampNeg a1)) := hD
    obtain ⟨s4, es4⟩ : ∃ z : St, z = su s2 0 ((s 15 1)).toNatClampNeg a1 := ⟨_, rfl⟩
    rw [← es4] at hP hD
    replace hm := hm s4 es4
    exact rt_v hx hb hr hlocks hK hP hD hS d_Source_append_27 hm
def x_Source_u1 (s : St) (a1 : Int32) (Post : Int32 → St → Prop) : Prop :=
  (a1 < 0 → Post (0 : Int32) s) ∧ (¬ a1 < 0 → ((s 15 1) ≤ a1 → Post (0 : Int32) s) ∧ (¬ (s 15 1) ≤ a1 → vp_in a1 200 ∧ Post (s 0 (a1).toNatClampNeg) s))
set_option maxHeartbeats 4000000 in
set_option maxRecDepth 100000 in
theorem c_Source_u1 (l : Launch) (D : va_G) (ad : Nat → Nat) (ca : Nat → ClassId) (sz : Nat) (s : St) (a1 : Int32) (Post : Int32 → St → Prop) (hm : x_Source_u1 s a1 Post) : CtI l y_Source_u1 w_Source_u1 { frames := 0, cells := 0, slots := 0, locals := 0 } D vwCl (tyX ca) (wX ad ca) sz [.ref (ad 1), .int a1] s Post := by
  refine ct_i (cc := prog_5_method_5_code) (maxL := 2) (ret := (some .int)) (by decide) rfl (Nat.le_of_ble_eq_true rfl) ?_
  intro p e s0 m args below meth c A hx hb hr hts hown hlocks hml hK hA
  have hown : s0.vm.findClass R_Source = some m.cls := hown
  intro H locs ls hP hD hS hl
  have hl : lv_has ls 2 [(0, .ref (ad 1)), (1, .int a1)] := hl
  unfold x_Source_u1 at hm
  refine lv_iload_n hx hb d_Source_u1_0 rfl (lv_at hl 1 rfl) ?_
  refine lv_if_lt (tgt := 21) hx hb d_Source_u1_1 (by decide) (fun c1 => ?_) (fun c1 => ?_)
  · replace hm := hm.1 c1
    refine lv_iconst (v := 0) hx hb d_Source_u1_21 (by decide) ?_
    exact rt_i hx hb hr hlocks hK hP hD hS d_Source_u1_22 hm
  · replace hm := hm.2 c1
    refine lv_iload_n hx hb d_Source_u1_4 rfl (lv_at hl 1 rfl) ?_
    refine lv_aload_n hx hb d_Source_u1_5 rfl (lv_at hl 0 rfl) ?_
    refine va_get (D := D) (ci := 1) (v := .int (s 15 1)) (C := R_Source) (T := T_Source) (N := 4) hx hb hts in_Source hown hK hP 1 rfl rfl 2 (by decide) (hts _ wd26) (fun _ h9 => h9) rfl d_Source_u1_6 ?_
    refine lv_icmp_ge (tgt := 21) hx hb d_Source_u1_9 (by decide) (fun c2 => ?_) (fun c2 => ?_)
    · replace hm := hm.1 c2
      refine lv_iconst (v := 0) hx hb d_Source_u1_21 (by decide) ?_
      exact rt_i hx hb hr hlocks hK hP hD hS d_Source_u1_22 hm
    · replace hm := hm.2 c2
      refine lv_aload_n hx hb d_Source_u1_12 rfl (lv_at hl 0 rfl) ?_
      refine va_get (D := D) (ci := 1) (v := .ref (ad 2)) (C := R_Source) (T := T_Source) (N := 4) hx hb hts in_Source hown hK hP 1 rfl rfl 0 (by decide) (hts _ wd23) (fun _ h9 => h9) rfl d_Source_u1_13 ?_
      refine lv_iload_n hx hb d_Source_u1_16 rfl (lv_at hl 1 rfl) ?_
      obtain ⟨h3, hm⟩ := hm
      refine va_iald hx hb hK hP 2 0 rfl rfl h3 d_Source_u1_17 ?_
      refine lv_goto (tgt := 22) hx hb d_Source_u1_18 (by decide) ?_
      exact rt_i hx hb hr hlocks hK hP hD hS d_Source_u1_22 hm
def x_Source_s2 (s : St) (a1 : Int32) (Post : Int32 → St → Prop) : Prop :=
  x_Source_u1 s a1 (fun r1 s2 => x_Source_u1 s2 (a1 + (1 : Int32)) (fun r3 s4 => Post (((r1 <<< ((8 : Int32) &&& 31)) ||| r3)).toInt16.toInt32 s4))
set_option maxHeartbeats 4000000 in
set_option maxRecDepth 100000 in
theorem c_Source_s2 (l : Launch) (D : va_G) (ad : Nat → Nat) (ca : Nat → ClassId) (sz : Nat) (s : St) (a1 : Int32) (Post : Int32 → St → Prop) (hm : x_Source_s2 s a1 Post) : CtI l y_Source_s2 w_Source_s2 { frames := 1, cells := 0, slots := 0, locals := 21 } D vwCl (tyX ca) (wX ad ca) sz [.ref (ad 1), .int a1] s Post := by
  refine ct_i (cc := prog_5_method_6_code) (maxL := 2) (ret := (some .int)) (by decide) rfl (Nat.le_of_ble_eq_true rfl) ?_
  intro p e s0 m args below meth c A hx hb hr hts hown hlocks hml hK hA
  have hown : s0.vm.findClass R_Source = some m.cls := hown
  intro H locs ls hP hD hS hl
  have hl : lv_has ls 2 [(0, .ref (ad 1)), (1, .int a1)] := hl
  unfold x_Source_s2 at hm
  refine lv_aload_n hx hb d_Source_s2_0 rfl (lv_at hl 0 rfl) ?_
  refine lv_iload_n hx hb d_Source_s2_1 rfl (lv_at hl 1 rfl) ?_
  refine cg_Vi (b := (ad 1)) (As := [.int a1]) (rest := []) ⟨hx, hb, hml, hown, hts⟩ hK hP hD hS hA (c_Source_u1 l D ad ca H.size s a1 _ hm) (cwA 1 hts wd275 wd2 wd272 wd273 wd274 (by decide +kernel) ⟨Nat.le_of_ble_eq_true rfl, Nat.le_of_ble_eq_true rfl⟩) (va_recv hK hP (ci := 1) (q0 := 1) rfl rfl) rfl hl rfl (Nat.le_of_ble_eq_true rfl) d_Source_s2_2 (fun r1 s2 hm => ?_)
  intro H locs ls hP hD hS hl
  refine lv_bipush (v := 8) hx hb d_Source_s2_5 (by decide) ?_
  refine lv_ishl hx hb d_Source_s2_7 ?_
  refine lv_aload_n hx hb d_Source_s2_8 rfl (lv_at hl 0 rfl) ?_
  refine lv_iload_n hx hb d_Source_s2_9 rfl (lv_at hl 1 rfl) ?_
  refine lv_iconst (v := 1) hx hb d_Source_s2_10 (by decide) ?_
  refine lv_iadd hx hb d_Source_s2_11 ?_
  refine cg_Vi (b := (ad 1)) (As := [.int (a1 + (1 : Int32))]) (rest := [.int (r1 <<< ((8 : Int32) &&& 31))]) ⟨hx, hb, hml, hown, hts⟩ hK hP hD hS hA (c_Source_u1 l D ad ca H.size s2 (a1 + (1 : Int32)) _ hm) (cwA 1 hts wd275 wd2 wd272 wd273 wd274 (by decide +kernel) ⟨Nat.le_of_ble_eq_true rfl, Nat.le_of_ble_eq_true rfl⟩) (va_recv hK hP (ci := 1) (q0 := 1) rfl rfl) rfl hl rfl (Nat.le_of_ble_eq_true rfl) d_Source_s2_12 (fun r3 s4 hm => ?_)
  intro H locs ls hP hD hS hl
  refine lv_ior hx hb d_Source_s2_15 ?_
  refine lv_i2s (v := (((r1 <<< ((8 : Int32) &&& 31)) ||| r3)).toInt16.toInt32) hx hb d_Source_s2_16 rfl ?_
  exact rt_i hx hb hr hlocks hK hP hD hS d_Source_s2_17 hm
def x_Source_part (s : St) (a1 : Int32) (a2 : Int32) (Post : Int32 → St → Prop) : Prop :=
  vp_in ((a1 * (4 : Int32)) + a2) 16 ∧ Post (s 1 (((a1 * (4 : Int32)) + a2)).toNatClampNeg) s
set_option maxHeartbeats 4000000 in
set_option maxRecDepth 100000 in
theorem c_Source_part (l : Launch) (D : va_G) (ad : Nat → Nat) (ca : Nat → ClassId) (sz : Nat) (s : St) (a1 : Int32) (a2 : Int32) (Post : Int32 → St → Prop) (hm : x_Source_part s a1 a2 Post) : CtI l y_Source_part w_Source_part { frames := 0, cells := 0, slots := 0, locals := 0 } D vwCl (tyX ca) (wX ad ca) sz [.ref (ad 1), .int a1, .int a2] s Post := by
  refine ct_i (cc := prog_5_method_4_code) (maxL := 3) (ret := (some .int)) (by decide) rfl (Nat.le_of_ble_eq_true rfl) ?_
  intro p e s0 m args below meth c A hx hb hr hts hown hlocks hml hK hA
  have hown : s0.vm.findClass R_Source = some m.cls := hown
  intro H locs ls hP hD hS hl
  have hl : lv_has ls 3 [(0, .ref (ad 1)), (1, .int a1), (2, .int a2)] := hl
  unfold x_Source_part at hm
  refine lv_aload_n hx hb d_Source_part_0 rfl (lv_at hl 0 rfl) ?_
  refine va_get (D := D) (ci := 1) (v := .ref (ad 3)) (C := R_Source) (T := T_Source) (N := 4) hx hb hts in_Source hown hK hP 1 rfl rfl 1 (by decide) (hts _ wd25) (fun _ h9 => h9) rfl d_Source_part_1 ?_
  refine lv_iload_n hx hb d_Source_part_4 rfl (lv_at hl 1 rfl) ?_
  refine lv_iconst (v := 4) hx hb d_Source_part_5 (by decide) ?_
  refine lv_imul hx hb d_Source_part_6 ?_
  refine lv_iload_n hx hb d_Source_part_7 rfl (lv_at hl 2 rfl) ?_
  refine lv_iadd hx hb d_Source_part_8 ?_
  obtain ⟨h1, hm⟩ := hm
  refine va_iald hx hb hK hP 3 1 rfl rfl h1 d_Source_part_9 ?_
  exact rt_i hx hb hr hlocks hK hP hD hS d_Source_part_10 hm
