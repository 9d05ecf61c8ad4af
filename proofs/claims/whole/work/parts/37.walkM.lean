set_option maxHeartbeats 4000000 in
set_option maxRecDepth 100000 in
theorem c_Model_isFormed (l : Launch) (D : va_G) (ad : Nat → Nat) (ca : Nat → ClassId) (sz : Nat) (s : St) (Post : Int32 → St → Prop) (hm : x_Model_isFormed s  Post) : CtI l y_Model_isFormed w_Model_isFormed { frames := 4, cells := 0, slots := 0, locals := 91 } D vwCl (tyM ca) (wM ad ca) sz [.ref (ad 0)] s Post := by
  refine ct_i (cc := prog_8_method_19_code) (maxL := 5) (ret := (some .boolean)) (by decide) rfl (Nat.le_of_ble_eq_true rfl) ?_
  intro p e s0 m args below meth c A hx hb hr hts hown hlocks hml hK hA
  have hown : s0.vm.findClass R_Model = some m.cls := hown
  have B98 : ∀ (K69 : St → Int32 → Prop) (hK69 : ∀ (s : St) (x1 : Int32), K69 s x1 → Bk D vwCl (wM ad ca) A p l e { frames := 4, cells := 0, slots := 0, locals := 91 } s0 m args below meth c (MQ below (va_Qi Post (atG D vwCl (tyM ca) (wM ad ca) A) A) args s0 0 0 A) 5 69 s [(0, .ref (ad 0)), (1, .int x1)] []) (n : Nat) (s : St) (x1 : Int32) (x2 : Int32) (x3 : Int32), x_Model_isFormed_98 K69 Post n s x1 x2 x3 → Bk D vwCl (wM ad ca) A p l e { frames := 4, cells := 0, slots := 0, locals := 91 } s0 m args below meth c (MQ below (va_Qi Post (atG D vwCl (tyM ca) (wM ad ca) A) A) args s0 0 0 A) 5 98 s [(0, .ref (ad 0)), (1, .int x1), (2, .int x2), (3, .int x3)] [] := by
    intro K69 hK69 n98
    induction n98 with
    | zero => intro s x1 x2 x3 hm; exact hm.elim
    | succ n98 hK98 =>
      intro s x1 x2 x3 hm H locs ls hP hD hS hl
      have hm : x_Model_isFormed_98F K69 Post (fun s x1 x2 x3 => x_Model_isFormed_98 K69 Post n98 s x1 x2 x3) s x1 x2 x3 := hm
      unfold x_Model_isFormed_98F at hm
      refine lv_iload_n hx hb d_Model_isFormed_98 rfl (lv_at hl 3 rfl) ?_
      refine lv_iload_n hx hb d_Model_isFormed_99 rfl (lv_at hl 2 rfl) ?_
      refine lv_icmp_ge (tgt := 128) hx hb d_Model_isFormed_100 (by decide) (fun c18 => ?_) (fun c18 => ?_)
      · replace hm := hm.1 c18
        obtain ⟨v19, ev19⟩ : ∃ y : Int32, y = x1 + 1 := ⟨_, rfl⟩
        replace hm := hm v19 ev19
        refine lv_iinc (v := v19) (lv' := [(1, .int v19), (0, .ref (ad 0)), (2, .int x2), (3, .int x3)]) hx hb d_Model_isFormed_128 hl (k := 1) rfl (by rw [ev19]; rfl) (by decide) rfl (fun ls hl => ?_)
        refine lv_goto (tgt := 69) hx hb d_Model_isFormed_131 (by decide) ?_
        exact hK69 s v19 hm H locs ls hP hD hS (lv_sub hl [1, 0] rfl)
      · replace hm := hm.2 c18
        refine lv_aload_n hx hb d_Model_isFormed_103 rfl (lv_at hl 0 rfl) ?_
        refine lv_iload_n hx hb d_Model_isFormed_104 rfl (lv_at hl 1 rfl) ?_
        refine lv_iload_n hx hb d_Model_isFormed_105 rfl (lv_at hl 3 rfl) ?_
        refine cg_Vi (b := (ad 0)) (As := [.int x1, .int x3]) (rest := []) ⟨hx, hb, hml, hown, hts⟩ hK hP hD hS hA (c_Model_goal l D ad ca H.size s x1 x3 _ hm) (cwA 2 hts wd666 wd7 wd663 wd665 ws29 (by decide +kernel) ⟨Nat.le_of_ble_eq_true rfl, Nat.le_of_ble_eq_true rfl⟩) (va_recv hK hP (ci := 5) (q0 := 0) rfl rfl) rfl hl rfl (Nat.le_of_ble_eq_true rfl) d_Model_isFormed_106 (fun r20 s21 hm => ?_)
        intro H locs ls hP hD hS hl
        refine lv_istore (lv' := [(4, .int r20), (0, .ref (ad 0)), (1, .int x1), (2, .int x2), (3, .int x3)]) hx hb d_Model_isFormed_109 hl (by decide) rfl (fun ls hl => ?_)
        refine lv_aload_n hx hb d_Model_isFormed_111 rfl (lv_at hl 1 rfl) ?_
        refine lv_iload hx hb d_Model_isFormed_112 (lv_at hl 0 rfl) ?_
        refine cg_Vi (b := (ad 0)) (As := [.int r20]) (rest := []) ⟨hx, hb, hml, hown, hts⟩ hK hP hD hS hA (c_Model_begins l D ad ca H.size s21 r20 _ hm) (cwA 1 hts wd674 wd7 wd671 wd673 ws31 (by decide +kernel) ⟨Nat.le_of_ble_eq_true rfl, Nat.le_of_ble_eq_true rfl⟩) (va_recv hK hP (ci := 5) (q0 := 0) rfl rfl) rfl hl rfl (Nat.le_of_ble_eq_true rfl) d_Model_isFormed_114 (fun r22 s23 hm => ?_)
        intro H locs ls hP hD hS hl
        refine lv_if_ne (tgt := 122) hx hb d_Model_isFormed_117 (by decide) (fun c24 => ?_) (fun c24 => ?_)
        · replace hm := hm.1 c24
          obtain ⟨v25, ev25⟩ : ∃ y : Int32, y = x3 + 1 := ⟨_, rfl⟩
          replace hm := hm v25 ev25
          refine lv_iinc (v := v25) (lv' := [(3, .int v25), (4, .int r20), (0, .ref (ad 0)), (1, .int x1), (2, .int x2)]) hx hb d_Model_isFormed_122 hl (k := 4) rfl (by rw [ev25]; rfl) (by decide) rfl (fun ls hl => ?_)
          refine lv_goto (tgt := 98) hx hb d_Model_isFormed_125 (by decide) ?_
          exact hK98 s23 x1 x2 v25 hm H locs ls hP hD hS (lv_sub hl [2, 3, 4, 0] rfl)
        · replace hm := hm.2 c24
          refine lv_iconst (v := 0) hx hb d_Model_isFormed_120 (by decide) ?_
          exact rt_z hx hb hr hm.1 hlocks hK hP hD hS d_Model_isFormed_121 hm.2
  have B95 : ∀ (K69 : St → Int32 → Prop) (hK69 : ∀ (s : St) (x1 : Int32), K69 s x1 → Bk D vwCl (wM ad ca) A p l e { frames := 4, cells := 0, slots := 0, locals := 91 } s0 m args below meth c (MQ below (va_Qi Post (atG D vwCl (tyM ca) (wM ad ca) A) A) args s0 0 0 A) 5 69 s [(0, .ref (ad 0)), (1, .int x1)] []) (s : St) (x1 : Int32) (y0 : Int32), x_Model_isFormed_95 K69 Post s x1 y0 → Bk D vwCl (wM ad ca) A p l e { frames := 4, cells := 0, slots := 0, locals := 91 } s0 m args below meth c (MQ below (va_Qi Post (atG D vwCl (tyM ca) (wM ad ca) A) A) args s0 0 0 A) 5 95 s [(0, .ref (ad 0)), (1, .int x1)] [.int y0] := by
    intro K69 hK69 s x1 y0 hm H locs ls hP hD hS hl
    unfold x_Model_isFormed_95 at hm
    refine lv_istore_n (lv' := [(2, .int y0), (0, .ref (ad 0)), (1, .int x1)]) hx hb d_Model_isFormed_95 rfl hl (by decide) rfl (fun ls hl => ?_)
    refine lv_iconst (v := 0) hx hb d_Model_isFormed_96 (by decide) ?_
    refine lv_istore_n (lv' := [(3, .int (0 : Int32)), (2, .int y0), (0, .ref (ad 0)), (1, .int x1)]) hx hb d_Model_isFormed_97 rfl hl (by decide) rfl (fun ls hl => ?_)
    obtain ⟨n98, hm⟩ := hm
    exact B98 K69 hK69 n98 s x1 y0 (0 : Int32) hm H locs ls hP hD hS (lv_sub hl [2, 3, 1, 0] rfl)
  have B196 : ∀ (K136 : St → Int32 → Prop) (hK136 : ∀ (s : St) (x1 : Int32), K136 s x1 → Bk D vwCl (wM ad ca) A p l e { frames := 4, cells := 0, slots := 0, locals := 91 } s0 m args below meth c (MQ below (va_Qi Post (atG D vwCl (tyM ca) (wM ad ca) A) A) args s0 0 0 A) 5 136 s [(0, .ref (ad 0)), (1, .int x1)] []) (s : St) (x1 : Int32), x_Model_isFormed_196 K136 Post s x1 → Bk D vwCl (wM ad ca) A p l e { frames := 4, cells := 0, slots := 0, locals := 91 } s0 m args below meth c (MQ below (va_Qi Post (atG D vwCl (tyM ca) (wM ad ca) A) A) args s0 0 0 A) 5 196 s [(0, .ref (ad 0)), (1, .int x1)] [] := by
    intro K136 hK136 s x1 hm H locs ls hP hD hS hl
    unfold x_Model_isFormed_196 at hm
    refine lv_aload_n hx hb d_Model_isFormed_196 rfl (lv_at hl 0 rfl) ?_
    refine va_get (D := D) (ci := 5) (v := .ref (ad 2)) (C := R_Model) (T := T_Model) (N := 36) hx hb hts in_Model hown hK hP 0 rfl rfl 1 (by decide) (hts _ wd492) (fun _ h9 => h9) rfl d_Model_isFormed_197 ?_
    refine lv_iload_n hx hb d_Model_isFormed_200 rfl (lv_at hl 1 rfl) ?_
    obtain ⟨h41, hm⟩ := hm
    refine va_iald hx hb hK hP 2 1 rfl rfl h41 d_Model_isFormed_201 ?_
    refine lv_aload_n hx hb d_Model_isFormed_202 rfl (lv_at hl 0 rfl) ?_
    refine va_get (D := D) (ci := 5) (v := .ref (ad 3)) (C := R_Model) (T := T_Model) (N := 36) hx hb hts in_Model hown hK hP 0 rfl rfl 2 (by decide) (hts _ wd493) (fun _ h9 => h9) rfl d_Model_isFormed_203 ?_
    refine lv_iload_n hx hb d_Model_isFormed_206 rfl (lv_at hl 1 rfl) ?_
    obtain ⟨h42, hm⟩ := hm
    refine va_iald hx hb hK hP 3 2 rfl rfl h42 d_Model_isFormed_207 ?_
    refine lv_icmp_lt (tgt := 213) hx hb d_Model_isFormed_208 (by decide) (fun c43 => ?_) (fun c43 => ?_)
    · replace hm := hm.1 c43
      obtain ⟨v44, ev44⟩ : ∃ y : Int32, y = x1 + 1 := ⟨_, rfl⟩
      replace hm := hm v44 ev44
      refine lv_iinc (v := v44) (lv' := [(1, .int v44), (0, .ref (ad 0))]) hx hb d_Model_isFormed_213 hl (k := 1) rfl (by rw [ev44]; rfl) (by decide) rfl (fun ls hl => ?_)
      refine lv_goto (tgt := 136) hx hb d_Model_isFormed_216 (by decide) ?_
      exact hK136 s v44 hm H locs ls hP hD hS (lv_sub hl [1, 0] rfl)
    · replace hm := hm.2 c43
      refine lv_iconst (v := 0) hx hb d_Model_isFormed_211 (by decide) ?_
      exact rt_z hx hb hr hm.1 hlocks hK hP hD hS d_Model_isFormed_212 hm.2
  have B136 : ∀ (n : Nat) (s : St) (x1 : Int32), x_Model_isFormed_136  Post n s x1 → Bk D vwCl (wM ad ca) A p l e { frames := 4, cells := 0, slots := 0, locals := 91 } s0 m args below meth c (MQ below (va_Qi Post (atG D vwCl (tyM ca) (wM ad ca) A) A) args s0 0 0 A) 5 136 s [(0, .ref (ad 0)), (1, .int x1)] [] := by
    intro  n136
    induction n136 with
    | zero => intro s x1 hm; exact hm.elim
    | succ n136 hK136 =>
      intro s x1 hm H locs ls hP hD hS hl
      have hm : x_Model_isFormed_136F  Post (fun s x1 => x_Model_isFormed_136  Post n136 s x1) s x1 := hm
      unfold x_Model_isFormed_136F at hm
      refine lv_iload_n hx hb d_Model_isFormed_136 rfl (lv_at hl 1 rfl) ?_
      refine lv_aload_n hx hb d_Model_isFormed_137 rfl (lv_at hl 0 rfl) ?_
      refine va_get (D := D) (ci := 5) (v := .int (s 19 1)) (C := R_Model) (T := T_Model) (N := 36) hx hb hts in_Model hown hK hP 0 rfl rfl 8 (by decide) (hts _ wd499) (fun _ h9 => h9) rfl d_Model_isFormed_138 ?_
      refine lv_icmp_ge (tgt := 219) hx hb d_Model_isFormed_141 (by decide) (fun c26 => ?_) (fun c26 => ?_)
      · replace hm := hm.1 c26
        refine lv_iconst (v := 1) hx hb d_Model_isFormed_219 (by decide) ?_
        exact rt_z hx hb hr hm.1 hlocks hK hP hD hS d_Model_isFormed_220 hm.2
      · replace hm := hm.2 c26
        refine lv_aload_n hx hb d_Model_isFormed_144 rfl (lv_at hl 0 rfl) ?_
        refine lv_aload_n hx hb d_Model_isFormed_145 rfl (lv_at hl 0 rfl) ?_
        refine va_get (D := D) (ci := 5) (v := .ref (ad 2)) (C := R_Model) (T := T_Model) (N := 36) hx hb hts in_Model hown hK hP 0 rfl rfl 1 (by decide) (hts _ wd492) (fun _ h9 => h9) rfl d_Model_isFormed_146 ?_
        refine lv_iload_n hx hb d_Model_isFormed_149 rfl (lv_at hl 1 rfl) ?_
        obtain ⟨h27, hm⟩ := hm
        refine va_iald hx hb hK hP 2 1 rfl rfl h27 d_Model_isFormed_150 ?_
        refine cg_Vi (b := (ad 0)) (As := [.int (s 1 (x1).toNatClampNeg)]) (rest := []) ⟨hx, hb, hml, hown, hts⟩ hK hP hD hS hA (c_Model_begins l D ad ca H.size s (s 1 (x1).toNatClampNeg) _ hm) (cwA 1 hts wd674 wd7 wd671 wd673 ws31 (by decide +kernel) ⟨Nat.le_of_ble_eq_true rfl, Nat.le_of_ble_eq_true rfl⟩) (va_recv hK hP (ci := 5) (q0 := 0) rfl rfl) rfl hl rfl (Nat.le_of_ble_eq_true rfl) d_Model_isFormed_151 (fun r28 s29 hm => ?_)
        intro H locs ls hP hD hS hl
        refine lv_if_eq (tgt := 211) hx hb d_Model_isFormed_154 (by decide) (fun c30 => ?_) (fun c30 => ?_)
        · replace hm := hm.1 c30
          refine lv_iconst (v := 0) hx hb d_Model_isFormed_211 (by decide) ?_
          exact rt_z hx hb hr hm.1 hlocks hK hP hD hS d_Model_isFormed_212 hm.2
        · replace hm := hm.2 c30
          refine lv_aload_n hx hb d_Model_isFormed_157 rfl (lv_at hl 0 rfl) ?_
          refine lv_aload_n hx hb d_Model_isFormed_158 rfl (lv_at hl 0 rfl) ?_
          refine va_get (D := D) (ci := 5) (v := .ref (ad 4)) (C := R_Model) (T := T_Model) (N := 36) hx hb hts in_Model hown hK hP 0 rfl rfl 3 (by decide) (hts _ wd494) (fun _ h9 => h9) rfl d_Model_isFormed_159 ?_
          refine lv_iload_n hx hb d_Model_isFormed_162 rfl (lv_at hl 1 rfl) ?_
          obtain ⟨h31, hm⟩ := hm
          refine va_iald hx hb hK hP 4 3 rfl rfl h31 d_Model_isFormed_163 ?_
          refine cg_Vi (b := (ad 0)) (As := [.int (s29 3 (x1).toNatClampNeg)]) (rest := []) ⟨hx, hb, hml, hown, hts⟩ hK hP hD hS hA (c_Model_begins l D ad ca H.size s29 (s29 3 (x1).toNatClampNeg) _ hm) (cwA 1 hts wd674 wd7 wd671 wd673 ws31 (by decide +kernel) ⟨Nat.le_of_ble_eq_true rfl, Nat.le_of_ble_eq_true rfl⟩) (va_recv hK hP (ci := 5) (q0 := 0) rfl rfl) rfl hl rfl (Nat.le_of_ble_eq_true rfl) d_Model_isFormed_164 (fun r32 s33 hm => ?_)
          intro H locs ls hP hD hS hl
          refine lv_if_eq (tgt := 211) hx hb d_Model_isFormed_167 (by decide) (fun c34 => ?_) (fun c34 => ?_)
          · replace hm := hm.1 c34
            refine lv_iconst (v := 0) hx hb d_Model_isFormed_211 (by decide) ?_
            exact rt_z hx hb hr hm.1 hlocks hK hP hD hS d_Model_isFormed_212 hm.2
          · replace hm := hm.2 c34
            refine lv_aload_n hx hb d_Model_isFormed_170 rfl (lv_at hl 0 rfl) ?_
            refine lv_aload_n hx hb d_Model_isFormed_171 rfl (lv_at hl 0 rfl) ?_
            refine va_get (D := D) (ci := 5) (v := .ref (ad 3)) (C := R_Model) (T := T_Model) (N := 36) hx hb hts in_Model hown hK hP 0 rfl rfl 2 (by decide) (hts _ wd493) (fun _ h9 => h9) rfl d_Model_isFormed_172 ?_
            refine lv_iload_n hx hb d_Model_isFormed_175 rfl (lv_at hl 1 rfl) ?_
            obtain ⟨h35, hm⟩ := hm
            refine va_iald hx hb hK hP 3 2 rfl rfl h35 d_Model_isFormed_176 ?_
            refine cg_Vi (b := (ad 0)) (As := [.int (s33 2 (x1).toNatClampNeg)]) (rest := []) ⟨hx, hb, hml, hown, hts⟩ hK hP hD hS hA (c_Model_begins l D ad ca H.size s33 (s33 2 (x1).toNatClampNeg) _ hm) (cwA 1 hts wd674 wd7 wd671 wd673 ws31 (by decide +kernel) ⟨Nat.le_of_ble_eq_true rfl, Nat.le_of_ble_eq_true rfl⟩) (va_recv hK hP (ci := 5) (q0 := 0) rfl rfl) rfl hl rfl (Nat.le_of_ble_eq_true rfl) d_Model_isFormed_177 (fun r36 s37 hm => ?_)
            intro H locs ls hP hD hS hl
            refine lv_if_ne (tgt := 196) hx hb d_Model_isFormed_180 (by decide) (fun c38 => ?_) (fun c38 => ?_)
            · replace hm := hm.1 c38
              exact B196 (fun s x1 => x_Model_isFormed_136  Post n136 s x1) hK136 s37 x1 hm H locs ls hP hD hS (lv_sub hl [0, 1] rfl)
            · replace hm := hm.2 c38
              refine lv_aload_n hx hb d_Model_isFormed_183 rfl (lv_at hl 0 rfl) ?_
              refine va_get (D := D) (ci := 5) (v := .ref (ad 3)) (C := R_Model) (T := T_Model) (N := 36) hx hb hts in_Model hown hK hP 0 rfl rfl 2 (by decide) (hts _ wd493) (fun _ h9 => h9) rfl d_Model_isFormed_184 ?_
              refine lv_iload_n hx hb d_Model_isFormed_187 rfl (lv_at hl 1 rfl) ?_
              obtain ⟨h39, hm⟩ := hm
              refine va_iald hx hb hK hP 3 2 rfl rfl h39 d_Model_isFormed_188 ?_
              refine lv_aload_n hx hb d_Model_isFormed_189 rfl (lv_at hl 0 rfl) ?_
              refine va_get (D := D) (ci := 5) (v := .int (s37 19 5)) (C := R_Model) (T := T_Model) (N := 36) hx hb hts in_Model hown hK hP 0 rfl rfl 24 (by decide) (hts _ wd515) (fun _ h9 => h9) rfl d_Model_isFormed_190 ?_
              refine lv_icmp_ne (tgt := 211) hx hb d_Model_isFormed_193 (by decide) (fun c40 => ?_) (fun c40 => ?_)
              · replace hm := hm.1 c40
                refine lv_iconst (v := 0) hx hb d_Model_isFormed_211 (by decide) ?_
                exact rt_z hx hb hr hm.1 hlocks hK hP hD hS d_Model_isFormed_212 hm.2
              · replace hm := hm.2 c40
                exact B196 (fun s x1 => x_Model_isFormed_136  Post n136 s x1) hK136 s37 x1 hm H locs ls hP hD hS (lv_sub hl [0, 1] rfl)
  have B69 : ∀ (n : Nat) (s : St) (x1 : Int32), x_Model_isFormed_69  Post n s x1 → Bk D vwCl (wM ad ca) A p l e { frames := 4, cells := 0, slots := 0, locals := 91 } s0 m args below meth c (MQ below (va_Qi Post (atG D vwCl (tyM ca) (wM ad ca) A) A) args s0 0 0 A) 5 69 s [(0, .ref (ad 0)), (1, .int x1)] [] := by
    intro  n69
    induction n69 with
    | zero => intro s x1 hm; exact hm.elim
    | succ n69 hK69 =>
      intro s x1 hm H locs ls hP hD hS hl
      have hm : x_Model_isFormed_69F  Post (fun s x1 => x_Model_isFormed_69  Post n69 s x1) s x1 := hm
      unfold x_Model_isFormed_69F at hm
      refine lv_iload_n hx hb d_Model_isFormed_69 rfl (lv_at hl 1 rfl) ?_
      refine lv_aload_n hx hb d_Model_isFormed_70 rfl (lv_at hl 0 rfl) ?_
      refine va_get (D := D) (ci := 5) (v := .int (s 19 5)) (C := R_Model) (T := T_Model) (N := 36) hx hb hts in_Model hown hK hP 0 rfl rfl 24 (by decide) (hts _ wd515) (fun _ h9 => h9) rfl d_Model_isFormed_71 ?_
      refine lv_icmp_ge (tgt := 134) hx hb d_Model_isFormed_74 (by decide) (fun c13 => ?_) (fun c13 => ?_)
      · replace hm := hm.1 c13
        refine lv_iconst (v := 0) hx hb d_Model_isFormed_134 (by decide) ?_
        refine lv_istore_n (lv' := [(1, .int (0 : Int32)), (0, .ref (ad 0))]) hx hb d_Model_isFormed_135 rfl hl (by decide) rfl (fun ls hl => ?_)
        obtain ⟨n136, hm⟩ := hm
        exact B136  n136 s (0 : Int32) hm H locs ls hP hD hS (lv_sub hl [1, 0] rfl)
      · replace hm := hm.2 c13
        refine lv_aload_n hx hb d_Model_isFormed_77 rfl (lv_at hl 0 rfl) ?_
        refine va_get (D := D) (ci := 5) (v := .ref (ad 8)) (C := R_Model) (T := T_Model) (N := 36) hx hb hts in_Model hown hK hP 0 rfl rfl 12 (by decide) (hts _ wd503) (fun _ h9 => h9) rfl d_Model_isFormed_78 ?_
        refine lv_iload_n hx hb d_Model_isFormed_81 rfl (lv_at hl 1 rfl) ?_
        obtain ⟨h14, hm⟩ := hm
        refine va_zald hx hb hK hP 8 7 rfl rfl h14 d_Model_isFormed_82 ?_
        refine lv_if_eq (tgt := 94) hx hb d_Model_isFormed_83 (by decide) (fun c15 => ?_) (fun c15 => ?_)
        · replace hm := hm.1 c15
          refine lv_iconst (v := 0) hx hb d_Model_isFormed_94 (by decide) ?_
          exact B95 (fun s x1 => x_Model_isFormed_69  Post n69 s x1) hK69 s x1 (0 : Int32) hm H locs ls hP hD hS (lv_sub hl [0, 1] rfl)
        · replace hm := hm.2 c15
          refine lv_aload_n hx hb d_Model_isFormed_86 rfl (lv_at hl 0 rfl) ?_
          refine lv_iload_n hx hb d_Model_isFormed_87 rfl (lv_at hl 1 rfl) ?_
          refine cg_Vi (b := (ad 0)) (As := [.int x1]) (rest := []) ⟨hx, hb, hml, hown, hts⟩ hK hP hD hS hA (c_Model_goals l D ad ca H.size s x1 _ hm) (cwA 1 hts wd659 wd7 wd656 wd658 ws28 (by decide +kernel) ⟨Nat.le_of_ble_eq_true rfl, Nat.le_of_ble_eq_true rfl⟩) (va_recv hK hP (ci := 5) (q0 := 0) rfl rfl) rfl hl rfl (Nat.le_of_ble_eq_true rfl) d_Model_isFormed_88 (fun r16 s17 hm => ?_)
          intro H locs ls hP hD hS hl
          refine lv_goto (tgt := 95) hx hb d_Model_isFormed_91 (by decide) ?_
          exact B95 (fun s x1 => x_Model_isFormed_69  Post n69 s x1) hK69 s17 x1 r16 hm H locs ls hP hD hS (lv_sub hl [0, 1] rfl)
  have B33 : ∀ (n : Nat) (s : St) (x1 : Int32), x_Model_isFormed_33  Post n s x1 → Bk D vwCl (wM ad ca) A p l e { frames := 4, cells := 0, slots := 0, locals := 91 } s0 m args below meth c (MQ below (va_Qi Post (atG D vwCl (tyM ca) (wM ad ca) A) A) args s0 0 0 A) 5 33 s [(0, .ref (ad 0)), (1, .int x1)] [] := by
    intro  n33
    induction n33 with
    | zero => intro s x1 hm; exact hm.elim
    | succ n33 hK33 =>
      intro s x1 hm H locs ls hP hD hS hl
      have hm : x_Model_isFormed_33F  Post (fun s x1 => x_Model_isFormed_33  Post n33 s x1) s x1 := hm
      unfold x_Model_isFormed_33F at hm
      refine lv_iload_n hx hb d_Model_isFormed_33 rfl (lv_at hl 1 rfl) ?_
      refine lv_aload_n hx hb d_Model_isFormed_34 rfl (lv_at hl 0 rfl) ?_
      refine va_get (D := D) (ci := 5) (v := .int (s 19 5)) (C := R_Model) (T := T_Model) (N := 36) hx hb hts in_Model hown hK hP 0 rfl rfl 24 (by decide) (hts _ wd515) (fun _ h9 => h9) rfl d_Model_isFormed_35 ?_
      refine lv_icmp_ge (tgt := 67) hx hb d_Model_isFormed_38 (by decide) (fun c6 => ?_) (fun c6 => ?_)
      · replace hm := hm.1 c6
        refine lv_iconst (v := 0) hx hb d_Model_isFormed_67 (by decide) ?_
        refine lv_istore_n (lv' := [(1, .int (0 : Int32)), (0, .ref (ad 0))]) hx hb d_Model_isFormed_68 rfl hl (by decide) rfl (fun ls hl => ?_)
        obtain ⟨n69, hm⟩ := hm
        exact B69  n69 s (0 : Int32) hm H locs ls hP hD hS (lv_sub hl [1, 0] rfl)
      · replace hm := hm.2 c6
        refine lv_aload_n hx hb d_Model_isFormed_41 rfl (lv_at hl 0 rfl) ?_
        refine lv_iload_n hx hb d_Model_isFormed_42 rfl (lv_at hl 1 rfl) ?_
        refine cg_Vi (b := (ad 0)) (As := [.int x1]) (rest := []) ⟨hx, hb, hml, hown, hts⟩ hK hP hD hS hA (c_Model_length l D ad ca H.size s x1 _ hm) (cwA 1 hts wd644 wd7 wd641 wd643 ws26 (by decide +kernel) ⟨Nat.le_of_ble_eq_true rfl, Nat.le_of_ble_eq_true rfl⟩) (va_recv hK hP (ci := 5) (q0 := 0) rfl rfl) rfl hl rfl (Nat.le_of_ble_eq_true rfl) d_Model_isFormed_43 (fun r7 s8 hm => ?_)
        intro H locs ls hP hD hS hl
        refine lv_istore_n (lv' := [(2, .int r7), (0, .ref (ad 0)), (1, .int x1)]) hx hb d_Model_isFormed_46 rfl hl (by decide) rfl (fun ls hl => ?_)
        refine lv_iload_n hx hb d_Model_isFormed_47 rfl (lv_at hl 0 rfl) ?_
        refine lv_if_ne (tgt := 53) hx hb d_Model_isFormed_48 (by decide) (fun c9 => ?_) (fun c9 => ?_)
        · replace hm := hm.1 c9
          refine lv_aload_n hx hb d_Model_isFormed_53 rfl (lv_at hl 1 rfl) ?_
          refine va_get (D := D) (ci := 5) (v := .ref (ad 8)) (C := R_Model) (T := T_Model) (N := 36) hx hb hts in_Model hown hK hP 0 rfl rfl 12 (by decide) (hts _ wd503) (fun _ h9 => h9) rfl d_Model_isFormed_54 ?_
          refine lv_iload_n hx hb d_Model_isFormed_57 rfl (lv_at hl 2 rfl) ?_
          refine lv_iconst (v := 1) hx hb d_Model_isFormed_58 (by decide) ?_
          obtain ⟨h10, hm⟩ := hm
          refine va_zast hx hb hK hP hD hS 8 7 rfl rfl h10 d_Model_isFormed_59 (fun H locs hP hD hS => ?_)
          have hP : va_P D vwCl (wM ad ca (su s8 7 (x1).toNatClampNeg (vp_nar .boolean (1 : Int32)))) H := hP
          have hD : va_D A (wM ad ca (su s8 7 (x1).toNatClampNeg (vp_nar .boolean (1 : Int32)))) := hD
          obtain ⟨s11, es11⟩ : ∃ z : St, z = su s8 7 (x1).toNatClampNeg (vp_nar .boolean (1 : Int32)) := ⟨_, rfl⟩
          rw [← es11] at hP hD
          replace hm := hm s11 es11
          refine lv_iload_n hx hb d_Model_isFormed_60 rfl (lv_at hl 2 rfl) ?_
          refine lv_iload_n hx hb d_Model_isFormed_61 rfl (lv_at hl 0 rfl) ?_
          refine lv_iadd hx hb d_Model_isFormed_62 ?_
          refine lv_topi (fun v12 ev12 => ?_)
          replace hm := hm v12 ev12
          refine lv_istore_n (lv' := [(1, .int v12), (2, .int r7), (0, .ref (ad 0))]) hx hb d_Model_isFormed_63 rfl hl (by decide) rfl (fun ls hl => ?_)
          refine lv_goto (tgt := 33) hx hb d_Model_isFormed_64 (by decide) ?_
          exact hK33 s11 v12 hm H locs ls hP hD hS (lv_sub hl [2, 0] rfl)
        · replace hm := hm.2 c9
          refine lv_iconst (v := 0) hx hb d_Model_isFormed_51 (by decide) ?_
          exact rt_z hx hb hr hm.1 hlocks hK hP hD hS d_Model_isFormed_52 hm.2
  have B11 : ∀ (n : Nat) (s : St) (x1 : Int32), x_Model_isFormed_11  Post n s x1 → Bk D vwCl (wM ad ca) A p l e { frames := 4, cells := 0, slots := 0, locals := 91 } s0 m args below meth c (MQ below (va_Qi Post (atG D vwCl (tyM ca) (wM ad ca) A) A) args s0 0 0 A) 5 11 s [(0, .ref (ad 0)), (1, .int x1)] [] := by
    intro  n11
    induction n11 with
    | zero => intro s x1 hm; exact hm.elim
    | succ n11 hK11 =>
      intro s x1 hm H locs ls hP hD hS hl
      have hm : x_Model_isFormed_11F  Post (fun s x1 => x_Model_isFormed_11  Post n11 s x1) s x1 := hm
      unfold x_Model_isFormed_11F at hm
      refine lv_iload_n hx hb d_Model_isFormed_11 rfl (lv_at hl 1 rfl) ?_
      refine lv_sipush (v := 200) hx hb d_Model_isFormed_12 (by decide) ?_
      refine lv_icmp_gt (tgt := 31) hx hb d_Model_isFormed_15 (by decide) (fun c2 => ?_) (fun c2 => ?_)
      · replace hm := hm.1 c2
        refine lv_iconst (v := 0) hx hb d_Model_isFormed_31 (by decide) ?_
        refine lv_istore_n (lv' := [(1, .int (0 : Int32)), (0, .ref (ad 0))]) hx hb d_Model_isFormed_32 rfl hl (by decide) rfl (fun ls hl => ?_)
        obtain ⟨n33, hm⟩ := hm
        exact B33  n33 s (0 : Int32) hm H locs ls hP hD hS (lv_sub hl [1, 0] rfl)
      · replace hm := hm.2 c2
        refine lv_aload_n hx hb d_Model_isFormed_18 rfl (lv_at hl 0 rfl) ?_
        refine va_get (D := D) (ci := 5) (v := .ref (ad 8)) (C := R_Model) (T := T_Model) (N := 36) hx hb hts in_Model hown hK hP 0 rfl rfl 12 (by decide) (hts _ wd503) (fun _ h9 => h9) rfl d_Model_isFormed_19 ?_
        refine lv_iload_n hx hb d_Model_isFormed_22 rfl (lv_at hl 1 rfl) ?_
        refine lv_iconst (v := 0) hx hb d_Model_isFormed_23 (by decide) ?_
        obtain ⟨h3, hm⟩ := hm
        refine va_zast hx hb hK hP hD hS 8 7 rfl rfl h3 d_Model_isFormed_24 (fun H locs hP hD hS => ?_)
        have hP : va_P D vwCl (wM ad ca (su s 7 (x1).toNatClampNeg (vp_nar .boolean (0 : Int32)))) H := hP
        have hD : va_D A (wM ad ca (su s 7 (x1).toNatClampNeg (vp_nar .boolean (0 : Int32)))) := hD
        obtain ⟨s4, es4⟩ : ∃ z : St, z = su s 7 (x1).toNatClampNeg (vp_nar .boolean (0 : Int32)) := ⟨_, rfl⟩
        rw [← es4] at hP hD
        replace hm := hm s4 es4
        obtain ⟨v5, ev5⟩ : ∃ y : Int32, y = x1 + 1 := ⟨_, rfl⟩
        replace hm := hm v5 ev5
        refine lv_iinc (v := v5) (lv' := [(1, .int v5), (0, .ref (ad 0))]) hx hb d_Model_isFormed_25 hl (k := 1) rfl (by rw [ev5]; rfl) (by decide) rfl (fun ls hl => ?_)
        refine lv_goto (tgt := 11) hx hb d_Model_isFormed_28 (by decide) ?_
        exact hK11 s4 v5 hm H locs ls hP hD hS (lv_sub hl [1, 0] rfl)
  intro H locs ls hP hD hS hl
  have hl : lv_has ls 5 [(0, .ref (ad 0))] := hl
  unfold x_Model_isFormed at hm
  refine lv_aload_n hx hb d_Model_isFormed_0 rfl (lv_at hl 0 rfl) ?_
  refine va_get (D := D) (ci := 5) (v := .int (s 19 5)) (C := R_Model) (T := T_Model) (N := 36) hx hb hts in_Model hown hK hP 0 rfl rfl 24 (by decide) (hts _ wd515) (fun _ h9 => h9) rfl d_Model_isFormed_1 ?_
  refine lv_if_ne (tgt := 9) hx hb d_Model_isFormed_4 (by decide) (fun c1 => ?_) (fun c1 => ?_)
  · replace hm := hm.1 c1
    refine lv_iconst (v := 0) hx hb d_Model_isFormed_9 (by decide) ?_
    refine lv_istore_n (lv' := [(1, .int (0 : Int32)), (0, .ref (ad 0))]) hx hb d_Model_isFormed_10 rfl hl (by decide) rfl (fun ls hl => ?_)
    obtain ⟨n11, hm⟩ := hm
    exact B11  n11 s (0 : Int32) hm H locs ls hP hD hS (lv_sub hl [1, 0] rfl)
  · replace hm := hm.2 c1
    refine lv_iconst (v := 0) hx hb d_Model_isFormed_7 (by decide) ?_
    exact rt_z hx hb hr hm.1 hlocks hK hP hD hS d_Model_isFormed_8 hm.2
set_option maxHeartbeats 4000000 in
set_option maxRecDepth 100000 in
theorem c_Model_looks (l : Launch) (D : va_G) (ad : Nat → Nat) (ca : Nat → ClassId) (sz : Nat) (s : St) (a1 : Int32) (Post : Int32 → St → Prop) (hm : x_Model_looks s a1 Post) : CtI l y_Model_looks w_Model_looks { frames := 0, cells := 0, slots := 0, locals := 0 } D vwCl (tyM ca) (wM ad ca) sz [.ref (ad 0), .int a1] s Post := by
  refine ct_i (cc := prog_8_method_20_code) (maxL := 3) (ret := (some .boolean)) (by decide) rfl (Nat.le_of_ble_eq_true rfl) ?_
  intro p e s0 m args below meth c A hx hb hr hts hown hlocks hml hK hA
  have hown : s0.vm.findClass R_Model = some m.cls := hown
  have B45 : ∀ (K2 : St → Int32 → Int32 → Prop) (hK2 : ∀ (s : St) (x1 : Int32) (x2 : Int32), K2 s x1 x2 → Bk D vwCl (wM ad ca) A p l e { frames := 0, cells := 0, slots := 0, locals := 0 } s0 m args below meth c (MQ below (va_Qi Post (atG D vwCl (tyM ca) (wM ad ca) A) A) args s0 0 0 A) 3 2 s [(0, .ref (ad 0)), (1, .int x1), (2, .int x2)] []) (s : St) (x1 : Int32) (x2 : Int32), x_Model_looks_45 K2 Post s x1 x2 → Bk D vwCl (wM ad ca) A p l e { frames := 0, cells := 0, slots := 0, locals := 0 } s0 m args below meth c (MQ below (va_Qi Post (atG D vwCl (tyM ca) (wM ad ca) A) A) args s0 0 0 A) 3 45 s [(0, .ref (ad 0)), (1, .int x1), (2, .int x2)] [] := by
    intro K2 hK2 s x1 x2 hm H locs ls hP hD hS hl
    unfold x_Model_looks_45 at hm
    obtain ⟨v9, ev9⟩ : ∃ y : Int32, y = x2 + 1 := ⟨_, rfl⟩
    replace hm := hm v9 ev9
    refine lv_iinc (v := v9) (lv' := [(2, .int v9), (0, .ref (ad 0)), (1, .int x1)]) hx hb d_Model_looks_45 hl (k := 2) rfl (by rw [ev9]; rfl) (by decide) rfl (fun ls hl => ?_)
    refine lv_goto (tgt := 2) hx hb d_Model_looks_48 (by decide) ?_
    exact hK2 s x1 v9 hm H locs ls hP hD hS (lv_sub hl [1, 2, 0] rfl)
  have B2 : ∀ (n : Nat) (s : St) (x1 : Int32) (x2 : Int32), x_Model_looks_2  Post n s x1 x2 → Bk D vwCl (wM ad ca) A p l e { frames := 0, cells := 0, slots := 0, locals := 0 } s0 m args below meth c (MQ below (va_Qi Post (atG D vwCl (tyM ca) (wM ad ca) A) A) args s0 0 0 A) 3 2 s [(0, .ref (ad 0)), (1, .int x1), (2, .int x2)] [] := by
    intro  n2
    induction n2 with
    | zero => intro s x1 x2 hm; exact hm.elim
    | succ n2 hK2 =>
      intro s x1 x2 hm H locs ls hP hD hS hl
      have hm : x_Model_looks_2F  Post (fun s x1 x2 => x_Model_looks_2  Post n2 s x1 x2) s x1 x2 := hm
      unfold x_Model_looks_2F at hm
      refine lv_iload_n hx hb d_Model_looks_2 rfl (lv_at hl 2 rfl) ?_
      refine lv_aload_n hx hb d_Model_looks_3 rfl (lv_at hl 0 rfl) ?_
      refine va_get (D := D) (ci := 5) (v := .int (s 19 1)) (C := R_Model) (T := T_Model) (N := 36) hx hb hts in_Model hown hK hP 0 rfl rfl 8 (by decide) (hts _ wd499) (fun _ h9 => h9) rfl d_Model_looks_4 ?_
      refine lv_icmp_ge (tgt := 51) hx hb d_Model_looks_7 (by decide) (fun c1 => ?_) (fun c1 => ?_)
      · replace hm := hm.1 c1
        refine lv_iconst (v := 0) hx hb d_Model_looks_51 (by decide) ?_
        exact rt_z hx hb hr hm.1 hlocks hK hP hD hS d_Model_looks_52 hm.2
      · replace hm := hm.2 c1
        refine lv_aload_n hx hb d_Model_looks_10 rfl (lv_at hl 0 rfl) ?_
        refine va_get (D := D) (ci := 5) (v := .ref (ad 4)) (C := R_Model) (T := T_Model) (N := 36) hx hb hts in_Model hown hK hP 0 rfl rfl 3 (by decide) (hts _ wd494) (fun _ h9 => h9) rfl d_Model_looks_11 ?_
        refine lv_iload_n hx hb d_Model_looks_14 rfl (lv_at hl 2 rfl) ?_
        obtain ⟨h2, hm⟩ := hm
        refine va_iald hx hb hK hP 4 3 rfl rfl h2 d_Model_looks_15 ?_
        refine lv_iload_n hx hb d_Model_looks_16 rfl (lv_at hl 1 rfl) ?_
        refine lv_icmp_ne (tgt := 45) hx hb d_Model_looks_17 (by decide) (fun c3 => ?_) (fun c3 => ?_)
        · replace hm := hm.1 c3
          exact B45 (fun s x1 x2 => x_Model_looks_2  Post n2 s x1 x2) hK2 s x1 x2 hm H locs ls hP hD hS (lv_sub hl [0, 1, 2] rfl)
        · replace hm := hm.2 c3
          refine lv_aload_n hx hb d_Model_looks_20 rfl (lv_at hl 0 rfl) ?_
          refine va_get (D := D) (ci := 5) (v := .ref (ad 5)) (C := R_Model) (T := T_Model) (N := 36) hx hb hts in_Model hown hK hP 0 rfl rfl 4 (by decide) (hts _ wd495) (fun _ h9 => h9) rfl d_Model_looks_21 ?_
          refine lv_iload_n hx hb d_Model_looks_24 rfl (lv_at hl 2 rfl) ?_
          obtain ⟨h4, hm⟩ := hm
          refine va_iald hx hb hK hP 5 4 rfl rfl h4 d_Model_looks_25 ?_
          refine lv_if_eq (tgt := 43) hx hb d_Model_looks_26 (by decide) (fun c5 => ?_) (fun c5 => ?_)
          · replace hm := hm.1 c5
            refine lv_iconst (v := 1) hx hb d_Model_looks_43 (by decide) ?_
            exact rt_z hx hb hr hm.1 hlocks hK hP hD hS d_Model_looks_44 hm.2
          · replace hm := hm.2 c5
            refine lv_aload_n hx hb d_Model_looks_29 rfl (lv_at hl 0 rfl) ?_
            refine va_get (D := D) (ci := 5) (v := .ref (ad 7)) (C := R_Model) (T := T_Model) (N := 36) hx hb hts in_Model hown hK hP 0 rfl rfl 6 (by decide) (hts _ wd497) (fun _ h9 => h9) rfl d_Model_looks_30 ?_
            refine lv_aload_n hx hb d_Model_looks_33 rfl (lv_at hl 0 rfl) ?_
            refine va_get (D := D) (ci := 5) (v := .ref (ad 5)) (C := R_Model) (T := T_Model) (N := 36) hx hb hts in_Model hown hK hP 0 rfl rfl 4 (by decide) (hts _ wd495) (fun _ h9 => h9) rfl d_Model_looks_34 ?_
            refine lv_iload_n hx hb d_Model_looks_37 rfl (lv_at hl 2 rfl) ?_
            obtain ⟨h6, hm⟩ := hm
            refine va_iald hx hb hK hP 5 4 rfl rfl h6 d_Model_looks_38 ?_
            obtain ⟨h7, hm⟩ := hm
            refine va_zald hx hb hK hP 7 6 rfl rfl h7 d_Model_looks_39 ?_
            refine lv_if_eq (tgt := 45) hx hb d_Model_looks_40 (by decide) (fun c8 => ?_) (fun c8 => ?_)
            · replace hm := hm.1 c8
              exact B45 (fun s x1 x2 => x_Model_looks_2  Post n2 s x1 x2) hK2 s x1 x2 hm H locs ls hP hD hS (lv_sub hl [0, 1, 2] rfl)
            · replace hm := hm.2 c8
              refine lv_iconst (v := 1) hx hb d_Model_looks_43 (by decide) ?_
              exact rt_z hx hb hr hm.1 hlocks hK hP hD hS d_Model_looks_44 hm.2
  intro H locs ls hP hD hS hl
  have hl : lv_has ls 3 [(0, .ref (ad 0)), (1, .int a1)] := hl
  unfold x_Model_looks at hm
  refine lv_iconst (v := 0) hx hb d_Model_looks_0 (by decide) ?_
  refine lv_istore_n (lv' := [(2, .int (0 : Int32)), (0, .ref (ad 0)), (1, .int a1)]) hx hb d_Model_looks_1 rfl hl (by decide) rfl (fun ls hl => ?_)
  obtain ⟨n2, hm⟩ := hm
  exact B2  n2 s a1 (0 : Int32) hm H locs ls hP hD hS (lv_sub hl [1, 2, 0] rfl)
set_option maxHeartbeats 4000000 in
set_option maxRecDepth 100000 in
theorem c_Model_ends (l : Launch) (D : va_G) (ad : Nat → Nat) (ca : Nat → ClassId) (sz : Nat) (s : St) (a0 : Int32) (Post : Int32 → St → Prop) (hm : x_Model_ends s a0 Post) : CtI l y_Model_ends w_Model_ends { frames := 1, cells := 0, slots := 0, locals := 22 } D vwCl (tyM ca) (wM ad ca) sz [.int a0] s Post := by
  refine ct_i (cc := prog_8_method_21_code) (maxL := 1) (ret := (some .boolean)) (by decide) rfl (Nat.le_of_ble_eq_true rfl) ?_
  intro p e s0 m args below meth c A hx hb hr hts hown hlocks hml hK hA
  have hown : s0.vm.findClass R_Model = some m.cls := hown
  have B46 : ∀ (s : St), x_Model_ends_46  Post s → Bk D vwCl (wM ad ca) A p l e { frames := 1, cells := 0, slots := 0, locals := 22 } s0 m args below meth c (MQ below (va_Qi Post (atG D vwCl (tyM ca) (wM ad ca) A) A) args s0 0 0 A) 1 46 s [] [] := by
    intro  s hm H locs ls hP hD hS hl
    unfold x_Model_ends_46 at hm
    refine lv_iconst (v := 1) hx hb d_Model_ends_46 (by decide) ?_
    refine lv_goto (tgt := 51) hx hb d_Model_ends_47 (by decide) ?_
    exact rt_z hx hb hr hm.1 hlocks hK hP hD hS d_Model_ends_51 hm.2
  intro H locs ls hP hD hS hl
  have hl : lv_has ls 1 [(0, .int a0)] := hl
  unfold x_Model_ends at hm
  refine lv_iload_n hx hb d_Model_ends_0 rfl (lv_at hl 0 rfl) ?_
  refine lv_sipush (v := 153) hx hb d_Model_ends_1 (by decide) ?_
  refine lv_sipush (v := 167) hx hb d_Model_ends_4 (by decide) ?_
  refine cg_Si (As := [.int a0, .int (153 : Int32), .int (167 : Int32)]) (rest := []) ⟨hx, hb, hml, hown, hts⟩ hK hP hD hS hA (c_Model_in l D ad ca H.size s a0 (153 : Int32) (167 : Int32) _ hm) (cwB 3 hts wd606 wd7 wd604 wd605 (by decide +kernel) ⟨Nat.le_of_ble_eq_true rfl, Nat.le_of_ble_eq_true rfl⟩) rfl hl rfl (Nat.le_of_ble_eq_true rfl) d_Model_ends_7 (fun r1 s2 hm => ?_)
  intro H locs ls hP hD hS hl
  refine lv_if_ne (tgt := 46) hx hb d_Model_ends_10 (by decide) (fun c3 => ?_) (fun c3 => ?_)
  · replace hm := hm.1 c3
    exact B46  s2 hm H locs ls hP hD hS (lv_sub hl [] rfl)
  · replace hm := hm.2 c3
    refine lv_iload_n hx hb d_Model_ends_13 rfl (lv_at hl 0 rfl) ?_
    refine lv_sipush (v := 170) hx hb d_Model_ends_14 (by decide) ?_
    refine lv_sipush (v := 177) hx hb d_Model_ends_17 (by decide) ?_
    refine cg_Si (As := [.int a0, .int (170 : Int32), .int (177 : Int32)]) (rest := []) ⟨hx, hb, hml, hown, hts⟩ hK hP hD hS hA (c_Model_in l D ad ca H.size s2 a0 (170 : Int32) (177 : Int32) _ hm) (cwB 3 hts wd606 wd7 wd604 wd605 (by decide +kernel) ⟨Nat.le_of_ble_eq_true rfl, Nat.le_of_ble_eq_true rfl⟩) rfl hl rfl (Nat.le_of_ble_eq_true rfl) d_Model_ends_20 (fun r4 s5 hm => ?_)
    intro H locs ls hP hD hS hl
    refine lv_if_ne (tgt := 46) hx hb d_Model_ends_23 (by decide) (fun c6 => ?_) (fun c6 => ?_)
    · replace hm := hm.1 c6
      exact B46  s5 hm H locs ls hP hD hS (lv_sub hl [] rfl)
    · replace hm := hm.2 c6
      refine lv_iload_n hx hb d_Model_ends_26 rfl (lv_at hl 0 rfl) ?_
      refine lv_sipush (v := 191) hx hb d_Model_ends_27 (by decide) ?_
      refine lv_icmp_eq (tgt := 46) hx hb d_Model_ends_30 (by decide) (fun c7 => ?_) (fun c7 => ?_)
      · replace hm := hm.1 c7
        exact B46  s5 hm H locs ls hP hD hS (lv_sub hl [] rfl)
      · replace hm := hm.2 c7
        refine lv_iload_n hx hb d_Model_ends_33 rfl (lv_at hl 0 rfl) ?_
        refine lv_sipush (v := 198) hx hb d_Model_ends_34 (by decide) ?_
        refine lv_sipush (v := 200) hx hb d_Model_ends_37 (by decide) ?_
        refine cg_Si (As := [.int a0, .int (198 : Int32), .int (200 : Int32)]) (rest := []) ⟨hx, hb, hml, hown, hts⟩ hK hP hD hS hA (c_Model_in l D ad ca H.size s5 a0 (198 : Int32) (200 : Int32) _ hm) (cwB 3 hts wd606 wd7 wd604 wd605 (by decide +kernel) ⟨Nat.le_of_ble_eq_true rfl, Nat.le_of_ble_eq_true rfl⟩) rfl hl rfl (Nat.le_of_ble_eq_true rfl) d_Model_ends_40 (fun r8 s9 hm => ?_)
        intro H locs ls hP hD hS hl
        refine lv_if_eq (tgt := 50) hx hb d_Model_ends_43 (by decide) (fun c10 => ?_) (fun c10 => ?_)
        · replace hm := hm.1 c10
          refine lv_iconst (v := 0) hx hb d_Model_ends_50 (by decide) ?_
          exact rt_z hx hb hr hm.1 hlocks hK hP hD hS d_Model_ends_51 hm.2
        · replace hm := hm.2 c10
          exact B46  s9 hm H locs ls hP hD hS (lv_sub hl [] rfl)
set_option maxHeartbeats 4000000 in
set_option maxRecDepth 100000 in
theorem c_Model_findBlocks (l : Launch) (D : va_G) (ad : Nat → Nat) (ca : Nat → ClassId) (sz : Nat) (s : St) (Post : St → Prop) (hm : x_Model_findBlocks s  Post) : CtV l y_Model_findBlocks w_Model_findBlocks { frames := 4, cells := 0, slots := 0, locals := 91 } D vwCl (tyM ca) (wM ad ca) sz [.ref (ad 0)] s Post := by
  refine ct_v (cc := prog_8_method_22_code) (maxL := 6) (ret := none) (by decide) rfl (Nat.le_of_ble_eq_true rfl) ?_
  intro p e s0 m args below meth c A hx hb hr hts hown hlocks hml hK hA
  have hown : s0.vm.findClass R_Model = some m.cls := hown
  have B126 : ∀ (K31 : St → Int32 → Prop) (hK31 : ∀ (s : St) (x1 : Int32), K31 s x1 → Bk D vwCl (wM ad ca) A p l e { frames := 4, cells := 0, slots := 0, locals := 91 } s0 m args below meth c (MQ below (va_Qv Post (atG D vwCl (tyM ca) (wM ad ca) A) A) args s0 0 0 A) 6 31 s [(0, .ref (ad 0)), (1, .int x1)] []) (s : St) (x1 : Int32), x_Model_findBlocks_126 K31 Post s x1 → Bk D vwCl (wM ad ca) A p l e { frames := 4, cells := 0, slots := 0, locals := 91 } s0 m args below meth c (MQ below (va_Qv Post (atG D vwCl (tyM ca) (wM ad ca) A) A) args s0 0 0 A) 6 126 s [(0, .ref (ad 0)), (1, .int x1)] [] := by
    intro K31 hK31 s x1 hm H locs ls hP hD hS hl
    unfold x_Model_findBlocks_126 at hm
    obtain ⟨v14, ev14⟩ : ∃ y : Int32, y = x1 + 1 := ⟨_, rfl⟩
    replace hm := hm v14 ev14
    refine lv_iinc (v := v14) (lv' := [(1, .int v14), (0, .ref (ad 0))]) hx hb d_Model_findBlocks_126 hl (k := 1) rfl (by rw [ev14]; rfl) (by decide) rfl (fun ls hl => ?_)
    refine lv_goto (tgt := 31) hx hb d_Model_findBlocks_129 (by decide) ?_
    exact hK31 s v14 hm H locs ls hP hD hS (lv_sub hl [1, 0] rfl)
  have B66 : ∀ (K31 : St → Int32 → Prop) (hK31 : ∀ (s : St) (x1 : Int32), K31 s x1 → Bk D vwCl (wM ad ca) A p l e { frames := 4, cells := 0, slots := 0, locals := 91 } s0 m args below meth c (MQ below (va_Qv Post (atG D vwCl (tyM ca) (wM ad ca) A) A) args s0 0 0 A) 6 31 s [(0, .ref (ad 0)), (1, .int x1)] []) (n : Nat) (s : St) (x1 : Int32) (x2 : Int32) (x3 : Int32) (x4 : Int32), x_Model_findBlocks_66 K31 Post n s x1 x2 x3 x4 → Bk D vwCl (wM ad ca) A p l e { frames := 4, cells := 0, slots := 0, locals := 91 } s0 m args below meth c (MQ below (va_Qv Post (atG D vwCl (tyM ca) (wM ad ca) A) A) args s0 0 0 A) 6 66 s [(0, .ref (ad 0)), (1, .int x1), (2, .int x2), (3, .int x3), (4, .int x4)] [] := by
    intro K31 hK31 n66
    induction n66 with
    | zero => intro s x1 x2 x3 x4 hm; exact hm.elim
    | succ n66 hK66 =>
      intro s x1 x2 x3 x4 hm H locs ls hP hD hS hl
      have hm : x_Model_findBlocks_66F K31 Post (fun s x1 x2 x3 x4 => x_Model_findBlocks_66 K31 Post n66 s x1 x2 x3 x4) s x1 x2 x3 x4 := hm
      unfold x_Model_findBlocks_66F at hm
      refine lv_iload hx hb d_Model_findBlocks_66 (lv_at hl 4 rfl) ?_
      refine lv_iload_n hx hb d_Model_findBlocks_68 rfl (lv_at hl 3 rfl) ?_
      refine lv_icmp_ge (tgt := 95) hx hb d_Model_findBlocks_69 (by decide) (fun c15 => ?_) (fun c15 => ?_)
      · replace hm := hm.1 c15
        refine lv_aload_n hx hb d_Model_findBlocks_95 rfl (lv_at hl 0 rfl) ?_
        refine va_get (D := D) (ci := 5) (v := .ref (ad 10)) (C := R_Model) (T := T_Model) (N := 36) hx hb hts in_Model hown hK hP 0 rfl rfl 14 (by decide) (hts _ wd505) (fun _ h9 => h9) rfl d_Model_findBlocks_96 ?_
        refine lv_iload_n hx hb d_Model_findBlocks_99 rfl (lv_at hl 1 rfl) ?_
        obtain ⟨h16, hm⟩ := hm
        refine va_iald hx hb hK hP 10 9 rfl rfl h16 d_Model_findBlocks_100 ?_
        refine cg_Si (As := [.int (s 9 (x1).toNatClampNeg)]) (rest := []) ⟨hx, hb, hml, hown, hts⟩ hK hP hD hS hA (c_Model_ends l D ad ca H.size s (s 9 (x1).toNatClampNeg) _ hm) (cwB 1 hts wd681 wd7 wd679 wd680 (by decide +kernel) ⟨Nat.le_of_ble_eq_true rfl, Nat.le_of_ble_eq_true rfl⟩) rfl hl rfl (Nat.le_of_ble_eq_true rfl) d_Model_findBlocks_101 (fun r17 s18 hm => ?_)
        intro H locs ls hP hD hS hl
        refine lv_if_eq (tgt := 126) hx hb d_Model_findBlocks_104 (by decide) (fun c19 => ?_) (fun c19 => ?_)
        · replace hm := hm.1 c19
          exact B126 K31 hK31 s18 x1 hm H locs ls hP hD hS (lv_sub hl [0, 1] rfl)
        · replace hm := hm.2 c19
          refine lv_iload_n hx hb d_Model_findBlocks_107 rfl (lv_at hl 1 rfl) ?_
          refine lv_iload_n hx hb d_Model_findBlocks_108 rfl (lv_at hl 2 rfl) ?_
          refine lv_iadd hx hb d_Model_findBlocks_109 ?_
          refine lv_aload_n hx hb d_Model_findBlocks_110 rfl (lv_at hl 0 rfl) ?_
          refine va_get (D := D) (ci := 5) (v := .int (s18 19 5)) (C := R_Model) (T := T_Model) (N := 36) hx hb hts in_Model hown hK hP 0 rfl rfl 24 (by decide) (hts _ wd515) (fun _ h9 => h9) rfl d_Model_findBlocks_111 ?_
          refine lv_icmp_ge (tgt := 126) hx hb d_Model_findBlocks_114 (by decide) (fun c20 => ?_) (fun c20 => ?_)
          · replace hm := hm.1 c20
            exact B126 K31 hK31 s18 x1 hm H locs ls hP hD hS (lv_sub hl [0, 1] rfl)
          · replace hm := hm.2 c20
            refine lv_aload_n hx hb d_Model_findBlocks_117 rfl (lv_at hl 0 rfl) ?_
            refine va_get (D := D) (ci := 5) (v := .ref (ad 14)) (C := R_Model) (T := T_Model) (N := 36) hx hb hts in_Model hown hK hP 0 rfl rfl 18 (by decide) (hts _ wd509) (fun _ h9 => h9) rfl d_Model_findBlocks_118 ?_
            refine lv_iload_n hx hb d_Model_findBlocks_121 rfl (lv_at hl 1 rfl) ?_
            refine lv_iload_n hx hb d_Model_findBlocks_122 rfl (lv_at hl 2 rfl) ?_
            refine lv_iadd hx hb d_Model_findBlocks_123 ?_
            refine lv_iconst (v := 0) hx hb d_Model_findBlocks_124 (by decide) ?_
            obtain ⟨h21, hm⟩ := hm
            refine va_iast hx hb hK hP hD hS 14 13 rfl rfl h21 d_Model_findBlocks_125 (fun H locs hP hD hS => ?_)
            have hP : va_P D vwCl (wM ad ca (su s18 13 ((x1 + x2)).toNatClampNeg (0 : Int32))) H := hP
            have hD : va_D A (wM ad ca (su s18 13 ((x1 + x2)).toNatClampNeg (0 : Int32))) := hD
            obtain ⟨s22, es22⟩ : ∃ z : St, z = su s18 13 ((x1 + x2)).toNatClampNeg (0 : Int32) := ⟨_, rfl⟩
            rw [← es22] at hP hD
            replace hm := hm s22 es22
            exact B126 K31 hK31 s22 x1 hm H locs ls hP hD hS (lv_sub hl [0, 1] rfl)
      · replace hm := hm.2 c15
        refine lv_aload_n hx hb d_Model_findBlocks_72 rfl (lv_at hl 0 rfl) ?_
        refine lv_iload_n hx hb d_Model_findBlocks_73 rfl (lv_at hl 1 rfl) ?_
        refine lv_iload hx hb d_Model_findBlocks_74 (lv_at hl 4 rfl) ?_
        refine cg_Vi (b := (ad 0)) (As := [.int x1, .int x4]) (rest := []) ⟨hx, hb, hml, hown, hts⟩ hK hP hD hS hA (c_Model_goal l D ad ca H.size s x1 x4 _ hm) (cwA 2 hts wd666 wd7 wd663 wd665 ws29 (by decide +kernel) ⟨Nat.le_of_ble_eq_true rfl, Nat.le_of_ble_eq_true rfl⟩) (va_recv hK hP (ci := 5) (q0 := 0) rfl rfl) rfl hl rfl (Nat.le_of_ble_eq_true rfl) d_Model_findBlocks_76 (fun r23 s24 hm => ?_)
        intro H locs ls hP hD hS hl
        refine lv_istore (lv' := [(5, .int r23), (0, .ref (ad 0)), (1, .int x1), (2, .int x2), (3, .int x3), (4, .int x4)]) hx hb d_Model_findBlocks_79 hl (by decide) rfl (fun ls hl => ?_)
        refine lv_aload_n hx hb d_Model_findBlocks_81 rfl (lv_at hl 1 rfl) ?_
        refine va_get (D := D) (ci := 5) (v := .ref (ad 14)) (C := R_Model) (T := T_Model) (N := 36) hx hb hts in_Model hown hK hP 0 rfl rfl 18 (by decide) (hts _ wd509) (fun _ h9 => h9) rfl d_Model_findBlocks_82 ?_
        refine lv_iload hx hb d_Model_findBlocks_85 (lv_at hl 0 rfl) ?_
        refine lv_iconst (v := 0) hx hb d_Model_findBlocks_87 (by decide) ?_
        obtain ⟨h25, hm⟩ := hm
        refine va_iast hx hb hK hP hD hS 14 13 rfl rfl h25 d_Model_findBlocks_88 (fun H locs hP hD hS => ?_)
        have hP : va_P D vwCl (wM ad ca (su s24 13 (r23).toNatClampNeg (0 : Int32))) H := hP
        have hD : va_D A (wM ad ca (su s24 13 (r23).toNatClampNeg (0 : Int32))) := hD
        obtain ⟨s26, es26⟩ : ∃ z : St, z = su s24 13 (r23).toNatClampNeg (0 : Int32) := ⟨_, rfl⟩
        rw [← es26] at hP hD
        replace hm := hm s26 es26
        obtain ⟨v27, ev27⟩ : ∃ y : Int32, y = x4 + 1 := ⟨_, rfl⟩
        replace hm := hm v27 ev27
        refine lv_iinc (v := v27) (lv' := [(4, .int v27), (5, .int r23), (0, .ref (ad 0)), (1, .int x1), (2, .int x2), (3, .int x3)]) hx hb d_Model_findBlocks_89 hl (k := 5) rfl (by rw [ev27]; rfl) (by decide) rfl (fun ls hl => ?_)
        refine lv_goto (tgt := 66) hx hb d_Model_findBlocks_92 (by decide) ?_
        exact hK66 s26 x1 x2 x3 v27 hm H locs ls hP hD hS (lv_sub hl [2, 3, 4, 5, 0] rfl)
  have B238 : ∀ (K164 : St → Int32 → Int32 → Prop) (hK164 : ∀ (s : St) (x1 : Int32) (x2 : Int32), K164 s x1 x2 → Bk D vwCl (wM ad ca) A p l e { frames := 4, cells := 0, slots := 0, locals := 91 } s0 m args below meth c (MQ below (va_Qv Post (atG D vwCl (tyM ca) (wM ad ca) A) A) args s0 0 0 A) 6 164 s [(0, .ref (ad 0)), (1, .int x1), (2, .int x2)] []) (s : St) (x1 : Int32) (x2 : Int32), x_Model_findBlocks_238 K164 Post s x1 x2 → Bk D vwCl (wM ad ca) A p l e { frames := 4, cells := 0, slots := 0, locals := 91 } s0 m args below meth c (MQ below (va_Qv Post (atG D vwCl (tyM ca) (wM ad ca) A) A) args s0 0 0 A) 6 238 s [(0, .ref (ad 0)), (1, .int x1), (2, .int x2)] [] := by
    intro K164 hK164 s x1 x2 hm H locs ls hP hD hS hl
    unfold x_Model_findBlocks_238 at hm
    obtain ⟨v38, ev38⟩ : ∃ y : Int32, y = x2 + 1 := ⟨_, rfl⟩
    replace hm := hm v38 ev38
    refine lv_iinc (v := v38) (lv' := [(2, .int v38), (0, .ref (ad 0)), (1, .int x1)]) hx hb d_Model_findBlocks_238 hl (k := 2) rfl (by rw [ev38]; rfl) (by decide) rfl (fun ls hl => ?_)
    refine lv_goto (tgt := 164) hx hb d_Model_findBlocks_241 (by decide) ?_
    exact hK164 s x1 v38 hm H locs ls hP hD hS (lv_sub hl [1, 2, 0] rfl)
  have B235 : ∀ (K164 : St → Int32 → Int32 → Prop) (hK164 : ∀ (s : St) (x1 : Int32) (x2 : Int32), K164 s x1 x2 → Bk D vwCl (wM ad ca) A p l e { frames := 4, cells := 0, slots := 0, locals := 91 } s0 m args below meth c (MQ below (va_Qv Post (atG D vwCl (tyM ca) (wM ad ca) A) A) args s0 0 0 A) 6 164 s [(0, .ref (ad 0)), (1, .int x1), (2, .int x2)] []) (s : St) (x1 : Int32) (x2 : Int32) (y0 : Int32) (y2 : Int32) (y3 : Int32), x_Model_findBlocks_235 K164 Post s x1 x2 y0 y2 y3 → Bk D vwCl (wM ad ca) A p l e { frames := 4, cells := 0, slots := 0, locals := 91 } s0 m args below meth c (MQ below (va_Qv Post (atG D vwCl (tyM ca) (wM ad ca) A) A) args s0 0 0 A) 6 235 s [(0, .ref (ad 0)), (1, .int x1), (2, .int x2)] [.int y0, .ref (ad 6), .int y2, .int y3, .ref (ad 14)] := by
    intro K164 hK164 s x1 x2 y0 y2 y3 hm H locs ls hP hD hS hl
    unfold x_Model_findBlocks_235 at hm
    obtain ⟨h44, hm⟩ := hm
    refine va_iald hx hb hK hP 6 5 rfl rfl h44 d_Model_findBlocks_235 ?_
    refine lv_iadd hx hb d_Model_findBlocks_236 ?_
    obtain ⟨h45, hm⟩ := hm
    refine va_iast hx hb hK hP hD hS 14 13 rfl rfl h45 d_Model_findBlocks_237 (fun H locs hP hD hS => ?_)
    have hP : va_P D vwCl (wM ad ca (su s 13 (y3).toNatClampNeg (y2 + (s 5 (y0).toNatClampNeg)))) H := hP
    have hD : va_D A (wM ad ca (su s 13 (y3).toNatClampNeg (y2 + (s 5 (y0).toNatClampNeg)))) := hD
    obtain ⟨s46, es46⟩ : ∃ z : St, z = su s 13 (y3).toNatClampNeg (y2 + (s 5 (y0).toNatClampNeg)) := ⟨_, rfl⟩
    rw [← es46] at hP hD
    replace hm := hm s46 es46
    exact B238 K164 hK164 s46 x1 x2 hm H locs ls hP hD hS (lv_sub hl [0, 1, 2] rfl)
  have B195 : ∀ (K164 : St → Int32 → Int32 → Prop) (hK164 : ∀ (s : St) (x1 : Int32) (x2 : Int32), K164 s x1 x2 → Bk D vwCl (wM ad ca) A p l e { frames := 4, cells := 0, slots := 0, locals := 91 } s0 m args below meth c (MQ below (va_Qv Post (atG D vwCl (tyM ca) (wM ad ca) A) A) args s0 0 0 A) 6 164 s [(0, .ref (ad 0)), (1, .int x1), (2, .int x2)] []) (s : St) (x1 : Int32) (x2 : Int32), x_Model_findBlocks_195 K164 Post s x1 x2 → Bk D vwCl (wM ad ca) A p l e { frames := 4, cells := 0, slots := 0, locals := 91 } s0 m args below meth c (MQ below (va_Qv Post (atG D vwCl (tyM ca) (wM ad ca) A) A) args s0 0 0 A) 6 195 s [(0, .ref (ad 0)), (1, .int x1), (2, .int x2)] [] := by
    intro K164 hK164 s x1 x2 hm H locs ls hP hD hS hl
    unfold x_Model_findBlocks_195 at hm
    refine lv_aload_n hx hb d_Model_findBlocks_195 rfl (lv_at hl 0 rfl) ?_
    refine va_get (D := D) (ci := 5) (v := .ref (ad 14)) (C := R_Model) (T := T_Model) (N := 36) hx hb hts in_Model hown hK hP 0 rfl rfl 18 (by decide) (hts _ wd509) (fun _ h9 => h9) rfl d_Model_findBlocks_196 ?_
    refine lv_iload_n hx hb d_Model_findBlocks_199 rfl (lv_at hl 1 rfl) ?_
    refine lv_dup2_11 hx hb d_Model_findBlocks_200 rfl rfl ?_
    obtain ⟨h39, hm⟩ := hm
    refine va_iald hx hb hK hP 14 13 rfl rfl h39 d_Model_findBlocks_201 ?_
    refine lv_aload_n hx hb d_Model_findBlocks_202 rfl (lv_at hl 0 rfl) ?_
    refine va_get (D := D) (ci := 5) (v := .ref (ad 6)) (C := R_Model) (T := T_Model) (N := 36) hx hb hts in_Model hown hK hP 0 rfl rfl 5 (by decide) (hts _ wd496) (fun _ h9 => h9) rfl d_Model_findBlocks_203 ?_
    refine lv_aload_n hx hb d_Model_findBlocks_206 rfl (lv_at hl 0 rfl) ?_
    refine va_get (D := D) (ci := 5) (v := .ref (ad 10)) (C := R_Model) (T := T_Model) (N := 36) hx hb hts in_Model hown hK hP 0 rfl rfl 14 (by decide) (hts _ wd505) (fun _ h9 => h9) rfl d_Model_findBlocks_207 ?_
    refine lv_iload_n hx hb d_Model_findBlocks_210 rfl (lv_at hl 2 rfl) ?_
    obtain ⟨h40, hm⟩ := hm
    refine va_iald hx hb hK hP 10 9 rfl rfl h40 d_Model_findBlocks_211 ?_
    refine lv_sipush (v := 196) hx hb d_Model_findBlocks_212 (by decide) ?_
    refine lv_icmp_ne (tgt := 229) hx hb d_Model_findBlocks_215 (by decide) (fun c41 => ?_) (fun c41 => ?_)
    · replace hm := hm.1 c41
      refine lv_aload_n hx hb d_Model_findBlocks_229 rfl (lv_at hl 0 rfl) ?_
      refine va_get (D := D) (ci := 5) (v := .ref (ad 10)) (C := R_Model) (T := T_Model) (N := 36) hx hb hts in_Model hown hK hP 0 rfl rfl 14 (by decide) (hts _ wd505) (fun _ h9 => h9) rfl d_Model_findBlocks_230 ?_
      refine lv_iload_n hx hb d_Model_findBlocks_233 rfl (lv_at hl 2 rfl) ?_
      obtain ⟨h42, hm⟩ := hm
      refine va_iald hx hb hK hP 10 9 rfl rfl h42 d_Model_findBlocks_234 ?_
      exact B235 K164 hK164 s x1 x2 (s 9 (x2).toNatClampNeg) (s 13 (x1).toNatClampNeg) x1 hm H locs ls hP hD hS (lv_sub hl [0, 1, 2] rfl)
    · replace hm := hm.2 c41
      refine lv_aload_n hx hb d_Model_findBlocks_218 rfl (lv_at hl 0 rfl) ?_
      refine va_get (D := D) (ci := 5) (v := .ref (ad 10)) (C := R_Model) (T := T_Model) (N := 36) hx hb hts in_Model hown hK hP 0 rfl rfl 14 (by decide) (hts _ wd505) (fun _ h9 => h9) rfl d_Model_findBlocks_219 ?_
      refine lv_iload_n hx hb d_Model_findBlocks_222 rfl (lv_at hl 2 rfl) ?_
      refine lv_iconst (v := 1) hx hb d_Model_findBlocks_223 (by decide) ?_
      refine lv_iadd hx hb d_Model_findBlocks_224 ?_
      obtain ⟨h43, hm⟩ := hm
      refine va_iald hx hb hK hP 10 9 rfl rfl h43 d_Model_findBlocks_225 ?_
      refine lv_goto (tgt := 235) hx hb d_Model_findBlocks_226 (by decide) ?_
      exact B235 K164 hK164 s x1 x2 (s 9 ((x2 + (1 : Int32))).toNatClampNeg) (s 13 (x1).toNatClampNeg) x1 hm H locs ls hP hD hS (lv_sub hl [0, 1, 2] rfl)
  have B164 : ∀ (n : Nat) (s : St) (x1 : Int32) (x2 : Int32), x_Model_findBlocks_164  Post n s x1 x2 → Bk D vwCl (wM ad ca) A p l e { frames := 4, cells := 0, slots := 0, locals := 91 } s0 m args below meth c (MQ below (va_Qv Post (atG D vwCl (tyM ca) (wM ad ca) A) A) args s0 0 0 A) 6 164 s [(0, .ref (ad 0)), (1, .int x1), (2, .int x2)] [] := by
    intro  n164
    induction n164 with
    | zero => intro s x1 x2 hm; exact hm.elim
    | succ n164 hK164 =>
      intro s x1 x2 hm H locs ls hP hD hS hl
      have hm : x_Model_findBlocks_164F  Post (fun s x1 x2 => x_Model_findBlocks_164  Post n164 s x1 x2) s x1 x2 := hm
      unfold x_Model_findBlocks_164F at hm
      refine lv_iload_n hx hb d_Model_findBlocks_164 rfl (lv_at hl 2 rfl) ?_
      refine lv_aload_n hx hb d_Model_findBlocks_165 rfl (lv_at hl 0 rfl) ?_
      refine va_get (D := D) (ci := 5) (v := .int (s 19 5)) (C := R_Model) (T := T_Model) (N := 36) hx hb hts in_Model hown hK hP 0 rfl rfl 24 (by decide) (hts _ wd515) (fun _ h9 => h9) rfl d_Model_findBlocks_166 ?_
      refine lv_icmp_ge (tgt := 244) hx hb d_Model_findBlocks_169 (by decide) (fun c33 => ?_) (fun c33 => ?_)
      · replace hm := hm.1 c33
        exact rt_v hx hb hr hlocks hK hP hD hS d_Model_findBlocks_244 hm
      · replace hm := hm.2 c33
        refine lv_aload_n hx hb d_Model_findBlocks_172 rfl (lv_at hl 0 rfl) ?_
        refine va_get (D := D) (ci := 5) (v := .ref (ad 8)) (C := R_Model) (T := T_Model) (N := 36) hx hb hts in_Model hown hK hP 0 rfl rfl 12 (by decide) (hts _ wd503) (fun _ h9 => h9) rfl d_Model_findBlocks_173 ?_
        refine lv_iload_n hx hb d_Model_findBlocks_176 rfl (lv_at hl 2 rfl) ?_
        obtain ⟨h34, hm⟩ := hm
        refine va_zald hx hb hK hP 8 7 rfl rfl h34 d_Model_findBlocks_177 ?_
        refine lv_if_ne (tgt := 184) hx hb d_Model_findBlocks_178 (by decide) (fun c35 => ?_) (fun c35 => ?_)
        · replace hm := hm.1 c35
          refine lv_aload_n hx hb d_Model_findBlocks_184 rfl (lv_at hl 0 rfl) ?_
          refine va_get (D := D) (ci := 5) (v := .ref (ad 14)) (C := R_Model) (T := T_Model) (N := 36) hx hb hts in_Model hown hK hP 0 rfl rfl 18 (by decide) (hts _ wd509) (fun _ h9 => h9) rfl d_Model_findBlocks_185 ?_
          refine lv_iload_n hx hb d_Model_findBlocks_188 rfl (lv_at hl 2 rfl) ?_
          obtain ⟨h36, hm⟩ := hm
          refine va_iald hx hb hK hP 14 13 rfl rfl h36 d_Model_findBlocks_189 ?_
          refine lv_if_lt (tgt := 195) hx hb d_Model_findBlocks_190 (by decide) (fun c37 => ?_) (fun c37 => ?_)
          · replace hm := hm.1 c37
            exact B195 (fun s x1 x2 => x_Model_findBlocks_164  Post n164 s x1 x2) hK164 s x1 x2 hm H locs ls hP hD hS (lv_sub hl [0, 1, 2] rfl)
          · replace hm := hm.2 c37
            refine lv_iload_n hx hb d_Model_findBlocks_193 rfl (lv_at hl 2 rfl) ?_
            refine lv_istore_n (lv' := [(1, .int x2), (0, .ref (ad 0)), (2, .int x2)]) hx hb d_Model_findBlocks_194 rfl hl (by decide) rfl (fun ls hl => ?_)
            exact B195 (fun s x1 x2 => x_Model_findBlocks_164  Post n164 s x1 x2) hK164 s x2 x2 hm H locs ls hP hD hS (lv_sub hl [1, 0, 2] rfl)
        · replace hm := hm.2 c35
          refine lv_goto (tgt := 238) hx hb d_Model_findBlocks_181 (by decide) ?_
          exact B238 (fun s x1 x2 => x_Model_findBlocks_164  Post n164 s x1 x2) hK164 s x1 x2 hm H locs ls hP hD hS (lv_sub hl [0, 1, 2] rfl)
  have B134 : ∀ (n : Nat) (s : St) (x1 : Int32), x_Model_findBlocks_134  Post n s x1 → Bk D vwCl (wM ad ca) A p l e { frames := 4, cells := 0, slots := 0, locals := 91 } s0 m args below meth c (MQ below (va_Qv Post (atG D vwCl (tyM ca) (wM ad ca) A) A) args s0 0 0 A) 6 134 s [(0, .ref (ad 0)), (1, .int x1)] [] := by
    intro  n134
    induction n134 with
    | zero => intro s x1 hm; exact hm.elim
    | succ n134 hK134 =>
      intro s x1 hm H locs ls hP hD hS hl
      have hm : x_Model_findBlocks_134F  Post (fun s x1 => x_Model_findBlocks_134  Post n134 s x1) s x1 := hm
      unfold x_Model_findBlocks_134F at hm
      refine lv_iload_n hx hb d_Model_findBlocks_134 rfl (lv_at hl 1 rfl) ?_
      refine lv_aload_n hx hb d_Model_findBlocks_135 rfl (lv_at hl 0 rfl) ?_
      refine va_get (D := D) (ci := 5) (v := .int (s 19 1)) (C := R_Model) (T := T_Model) (N := 36) hx hb hts in_Model hown hK hP 0 rfl rfl 8 (by decide) (hts _ wd499) (fun _ h9 => h9) rfl d_Model_findBlocks_136 ?_
      refine lv_icmp_ge (tgt := 160) hx hb d_Model_findBlocks_139 (by decide) (fun c28 => ?_) (fun c28 => ?_)
      · replace hm := hm.1 c28
        refine lv_iconst (v := 0) hx hb d_Model_findBlocks_160 (by decide) ?_
        refine lv_istore_n (lv' := [(1, .int (0 : Int32)), (0, .ref (ad 0))]) hx hb d_Model_findBlocks_161 rfl hl (by decide) rfl (fun ls hl => ?_)
        refine lv_iconst (v := 0) hx hb d_Model_findBlocks_162 (by decide) ?_
        refine lv_istore_n (lv' := [(2, .int (0 : Int32)), (1, .int (0 : Int32)), (0, .ref (ad 0))]) hx hb d_Model_findBlocks_163 rfl hl (by decide) rfl (fun ls hl => ?_)
        obtain ⟨n164, hm⟩ := hm
        exact B164  n164 s (0 : Int32) (0 : Int32) hm H locs ls hP hD hS (lv_sub hl [2, 1, 0] rfl)
      · replace hm := hm.2 c28
        refine lv_aload_n hx hb d_Model_findBlocks_142 rfl (lv_at hl 0 rfl) ?_
        refine va_get (D := D) (ci := 5) (v := .ref (ad 14)) (C := R_Model) (T := T_Model) (N := 36) hx hb hts in_Model hown hK hP 0 rfl rfl 18 (by decide) (hts _ wd509) (fun _ h9 => h9) rfl d_Model_findBlocks_143 ?_
        refine lv_aload_n hx hb d_Model_findBlocks_146 rfl (lv_at hl 0 rfl) ?_
        refine va_get (D := D) (ci := 5) (v := .ref (ad 4)) (C := R_Model) (T := T_Model) (N := 36) hx hb hts in_Model hown hK hP 0 rfl rfl 3 (by decide) (hts _ wd494) (fun _ h9 => h9) rfl d_Model_findBlocks_147 ?_
        refine lv_iload_n hx hb d_Model_findBlocks_150 rfl (lv_at hl 1 rfl) ?_
        obtain ⟨h29, hm⟩ := hm
        refine va_iald hx hb hK hP 4 3 rfl rfl h29 d_Model_findBlocks_151 ?_
        refine lv_iconst (v := 0) hx hb d_Model_findBlocks_152 (by decide) ?_
        obtain ⟨h30, hm⟩ := hm
        refine va_iast hx hb hK hP hD hS 14 13 rfl rfl h30 d_Model_findBlocks_153 (fun H locs hP hD hS => ?_)
        have hP : va_P D vwCl (wM ad ca (su s 13 ((s 3 (x1).toNatClampNeg)).toNatClampNeg (0 : Int32))) H := hP
        have hD : va_D A (wM ad ca (su s 13 ((s 3 (x1).toNatClampNeg)).toNatClampNeg (0 : Int32))) := hD
        obtain ⟨s31, es31⟩ : ∃ z : St, z = su s 13 ((s 3 (x1).toNatClampNeg)).toNatClampNeg (0 : Int32) := ⟨_, rfl⟩
        rw [← es31] at hP hD
        replace hm := hm s31 es31
        obtain ⟨v32, ev32⟩ : ∃ y : Int32, y = x1 + 1 := ⟨_, rfl⟩
        replace hm := hm v32 ev32
        refine lv_iinc (v := v32) (lv' := [(1, .int v32), (0, .ref (ad 0))]) hx hb d_Model_findBlocks_154 hl (k := 1) rfl (by rw [ev32]; rfl) (by decide) rfl (fun ls hl => ?_)
        refine lv_goto (tgt := 134) hx hb d_Model_findBlocks_157 (by decide) ?_
        exact hK134 s31 v32 hm H locs ls hP hD hS (lv_sub hl [1, 0] rfl)
  have B31 : ∀ (n : Nat) (s : St) (x1 : Int32), x_Model_findBlocks_31  Post n s x1 → Bk D vwCl (wM ad ca) A p l e { frames := 4, cells := 0, slots := 0, locals := 91 } s0 m args below meth c (MQ below (va_Qv Post (atG D vwCl (tyM ca) (wM ad ca) A) A) args s0 0 0 A) 6 31 s [(0, .ref (ad 0)), (1, .int x1)] [] := by
    intro  n31
    induction n31 with
    | zero => intro s x1 hm; exact hm.elim
    | succ n31 hK31 =>
      intro s x1 hm H locs ls hP hD hS hl
      have hm : x_Model_findBlocks_31F  Post (fun s x1 => x_Model_findBlocks_31  Post n31 s x1) s x1 := hm
      unfold x_Model_findBlocks_31F at hm
      refine lv_iload_n hx hb d_Model_findBlocks_31 rfl (lv_at hl 1 rfl) ?_
      refine lv_aload_n hx hb d_Model_findBlocks_32 rfl (lv_at hl 0 rfl) ?_
      refine va_get (D := D) (ci := 5) (v := .int (s 19 5)) (C := R_Model) (T := T_Model) (N := 36) hx hb hts in_Model hown hK hP 0 rfl rfl 24 (by decide) (hts _ wd515) (fun _ h9 => h9) rfl d_Model_findBlocks_33 ?_
      refine lv_icmp_ge (tgt := 132) hx hb d_Model_findBlocks_36 (by decide) (fun c7 => ?_) (fun c7 => ?_)
      · replace hm := hm.1 c7
        refine lv_iconst (v := 0) hx hb d_Model_findBlocks_132 (by decide) ?_
        refine lv_istore_n (lv' := [(1, .int (0 : Int32)), (0, .ref (ad 0))]) hx hb d_Model_findBlocks_133 rfl hl (by decide) rfl (fun ls hl => ?_)
        obtain ⟨n134, hm⟩ := hm
        exact B134  n134 s (0 : Int32) hm H locs ls hP hD hS (lv_sub hl [1, 0] rfl)
      · replace hm := hm.2 c7
        refine lv_aload_n hx hb d_Model_findBlocks_39 rfl (lv_at hl 0 rfl) ?_
        refine va_get (D := D) (ci := 5) (v := .ref (ad 8)) (C := R_Model) (T := T_Model) (N := 36) hx hb hts in_Model hown hK hP 0 rfl rfl 12 (by decide) (hts _ wd503) (fun _ h9 => h9) rfl d_Model_findBlocks_40 ?_
        refine lv_iload_n hx hb d_Model_findBlocks_43 rfl (lv_at hl 1 rfl) ?_
        obtain ⟨h8, hm⟩ := hm
        refine va_zald hx hb hK hP 8 7 rfl rfl h8 d_Model_findBlocks_44 ?_
        refine lv_if_ne (tgt := 51) hx hb d_Model_findBlocks_45 (by decide) (fun c9 => ?_) (fun c9 => ?_)
        · replace hm := hm.1 c9
          refine lv_aload_n hx hb d_Model_findBlocks_51 rfl (lv_at hl 0 rfl) ?_
          refine lv_iload_n hx hb d_Model_findBlocks_52 rfl (lv_at hl 1 rfl) ?_
          refine cg_Vi (b := (ad 0)) (As := [.int x1]) (rest := []) ⟨hx, hb, hml, hown, hts⟩ hK hP hD hS hA (c_Model_length l D ad ca H.size s x1 _ hm) (cwA 1 hts wd644 wd7 wd641 wd643 ws26 (by decide +kernel) ⟨Nat.le_of_ble_eq_true rfl, Nat.le_of_ble_eq_true rfl⟩) (va_recv hK hP (ci := 5) (q0 := 0) rfl rfl) rfl hl rfl (Nat.le_of_ble_eq_true rfl) d_Model_findBlocks_53 (fun r10 s11 hm => ?_)
          intro H locs ls hP hD hS hl
          refine lv_istore_n (lv' := [(2, .int r10), (0, .ref (ad 0)), (1, .int x1)]) hx hb d_Model_findBlocks_56 rfl hl (by decide) rfl (fun ls hl => ?_)
          refine lv_aload_n hx hb d_Model_findBlocks_57 rfl (lv_at hl 1 rfl) ?_
          refine lv_iload_n hx hb d_Model_findBlocks_58 rfl (lv_at hl 2 rfl) ?_
          refine cg_Vi (b := (ad 0)) (As := [.int x1]) (rest := []) ⟨hx, hb, hml, hown, hts⟩ hK hP hD hS hA (c_Model_goals l D ad ca H.size s11 x1 _ hm) (cwA 1 hts wd659 wd7 wd656 wd658 ws28 (by decide +kernel) ⟨Nat.le_of_ble_eq_true rfl, Nat.le_of_ble_eq_true rfl⟩) (va_recv hK hP (ci := 5) (q0 := 0) rfl rfl) rfl hl rfl (Nat.le_of_ble_eq_true rfl) d_Model_findBlocks_59 (fun r12 s13 hm => ?_)
          intro H locs ls hP hD hS hl
          refine lv_istore_n (lv' := [(3, .int r12), (2, .int r10), (0, .ref (ad 0)), (1, .int x1)]) hx hb d_Model_findBlocks_62 rfl hl (by decide) rfl (fun ls hl => ?_)
          refine lv_iconst (v := 0) hx hb d_Model_findBlocks_63 (by decide) ?_
          refine lv_istore (lv' := [(4, .int (0 : Int32)), (3, .int r12), (2, .int r10), (0, .ref (ad 0)), (1, .int x1)]) hx hb d_Model_findBlocks_64 hl (by decide) rfl (fun ls hl => ?_)
          obtain ⟨n66, hm⟩ := hm
          exact B66 (fun s x1 => x_Model_findBlocks_31  Post n31 s x1) hK31 n66 s13 x1 r10 r12 (0 : Int32) hm H locs ls hP hD hS (lv_sub hl [3, 4, 2, 1, 0] rfl)
        · replace hm := hm.2 c9
          refine lv_goto (tgt := 126) hx hb d_Model_findBlocks_48 (by decide) ?_
          exact B126 (fun s x1 => x_Model_findBlocks_31  Post n31 s x1) hK31 s x1 hm H locs ls hP hD hS (lv_sub hl [0, 1] rfl)
  have B2 : ∀ (n : Nat) (s : St) (x1 : Int32), x_Model_findBlocks_2  Post n s x1 → Bk D vwCl (wM ad ca) A p l e { frames := 4, cells := 0, slots := 0, locals := 91 } s0 m args below meth c (MQ below (va_Qv Post (atG D vwCl (tyM ca) (wM ad ca) A) A) args s0 0 0 A) 6 2 s [(0, .ref (ad 0)), (1, .int x1)] [] := by
    intro  n2
    induction n2 with
    | zero => intro s x1 hm; exact hm.elim
    | succ n2 hK2 =>
      intro s x1 hm H locs ls hP hD hS hl
      have hm : x_Model_findBlocks_2F  Post (fun s x1 => x_Model_findBlocks_2  Post n2 s x1) s x1 := hm
      unfold x_Model_findBlocks_2F at hm
      refine lv_iload_n hx hb d_Model_findBlocks_2 rfl (lv_at hl 1 rfl) ?_
      refine lv_sipush (v := 200) hx hb d_Model_findBlocks_3 (by decide) ?_
      refine lv_icmp_gt (tgt := 22) hx hb d_Model_findBlocks_6 (by decide) (fun c1 => ?_) (fun c1 => ?_)
      · replace hm := hm.1 c1
        refine lv_aload_n hx hb d_Model_findBlocks_22 rfl (lv_at hl 0 rfl) ?_
        refine va_get (D := D) (ci := 5) (v := .ref (ad 14)) (C := R_Model) (T := T_Model) (N := 36) hx hb hts in_Model hown hK hP 0 rfl rfl 18 (by decide) (hts _ wd509) (fun _ h9 => h9) rfl d_Model_findBlocks_23 ?_
        refine lv_iconst (v := 0) hx hb d_Model_findBlocks_26 (by decide) ?_
        refine lv_iconst (v := 0) hx hb d_Model_findBlocks_27 (by decide) ?_
        obtain ⟨h2, hm⟩ := hm
        refine va_iast hx hb hK hP hD hS 14 13 rfl rfl h2 d_Model_findBlocks_28 (fun H locs hP hD hS => ?_)
        have hP : va_P D vwCl (wM ad ca (su s 13 ((0 : Int32)).toNatClampNeg (0 : Int32))) H := hP
        have hD : va_D A (wM ad ca (su s 13 ((0 : Int32)).toNatClampNeg (0 : Int32))) := hD
        obtain ⟨s3, es3⟩ : ∃ z : St, z = su s 13 ((0 : Int32)).toNatClampNeg (0 : Int32) := ⟨_, rfl⟩
        rw [← es3] at hP hD
        replace hm := hm s3 es3
        refine lv_iconst (v := 0) hx hb d_Model_findBlocks_29 (by decide) ?_
        refine lv_istore_n (lv' := [(1, .int (0 : Int32)), (0, .ref (ad 0))]) hx hb d_Model_findBlocks_30 rfl hl (by decide) rfl (fun ls hl => ?_)
        obtain ⟨n31, hm⟩ := hm
        exact B31  n31 s3 (0 : Int32) hm H locs ls hP hD hS (lv_sub hl [1, 0] rfl)
      · replace hm := hm.2 c1
        refine lv_aload_n hx hb d_Model_findBlocks_9 rfl (lv_at hl 0 rfl) ?_
        refine va_get (D := D) (ci := 5) (v := .ref (ad 14)) (C := R_Model) (T := T_Model) (N := 36) hx hb hts in_Model hown hK hP 0 rfl rfl 18 (by decide) (hts _ wd509) (fun _ h9 => h9) rfl d_Model_findBlocks_10 ?_
        refine lv_iload_n hx hb d_Model_findBlocks_13 rfl (lv_at hl 1 rfl) ?_
        refine lv_iconst (v := -1) hx hb d_Model_findBlocks_14 (by decide) ?_
        obtain ⟨h4, hm⟩ := hm
        refine va_iast hx hb hK hP hD hS 14 13 rfl rfl h4 d_Model_findBlocks_15 (fun H locs hP hD hS => ?_)
        have hP : va_P D vwCl (wM ad ca (su s 13 (x1).toNatClampNeg (-1 : Int32))) H := hP
        have hD : va_D A (wM ad ca (su s 13 (x1).toNatClampNeg (-1 : Int32))) := hD
        obtain ⟨s5, es5⟩ : ∃ z : St, z = su s 13 (x1).toNatClampNeg (-1 : Int32) := ⟨_, rfl⟩
        rw [← es5] at hP hD
        replace hm := hm s5 es5
        obtain ⟨v6, ev6⟩ : ∃ y : Int32, y = x1 + 1 := ⟨_, rfl⟩
        replace hm := hm v6 ev6
        refine lv_iinc (v := v6) (lv' := [(1, .int v6), (0, .ref (ad 0))]) hx hb d_Model_findBlocks_16 hl (k := 1) rfl (by rw [ev6]; rfl) (by decide) rfl (fun ls hl => ?_)
        refine lv_goto (tgt := 2) hx hb d_Model_findBlocks_19 (by decide) ?_
        exact hK2 s5 v6 hm H locs ls hP hD hS (lv_sub hl [1, 0] rfl)
  intro H locs ls hP hD hS hl
  have hl : lv_has ls 6 [(0, .ref (ad 0))] := hl
  unfold x_Model_findBlocks at hm
  refine lv_iconst (v := 0) hx hb d_Model_findBlocks_0 (by decide) ?_
  refine lv_istore_n (lv' := [(1, .int (0 : Int32)), (0, .ref (ad 0))]) hx hb d_Model_findBlocks_1 rfl hl (by decide) rfl (fun ls hl => ?_)
  obtain ⟨n2, hm⟩ := hm
  exact B2  n2 s (0 : Int32) hm H locs ls hP hD hS (lv_sub hl [1, 0] rfl)
set_option maxHeartbeats 4000000 in
set_option maxRecDepth 100000 in
theorem c_Model_weigh (l : Launch) (D : va_G) (ad : Nat → Nat) (ca : Nat → ClassId) (sz : Nat) (s : St) (a0 : Int32) (Post : Int32 → St → Prop) (hm : x_Model_weigh s a0 Post) : CtI l y_Model_weigh w_Model_weigh { frames := 0, cells := 0, slots := 0, locals := 0 } D vwCl (tyM ca) (wM ad ca) sz [.int a0] s Post := by
  refine ct_i (cc := prog_8_method_23_code) (maxL := 1) (ret := (some .int)) (by decide) rfl (Nat.le_of_ble_eq_true rfl) ?_
  intro p e s0 m args below meth c A hx hb hr hts hown hlocks hml hK hA
  have hown : s0.vm.findClass R_Model = some m.cls := hown
  intro H locs ls hP hD hS hl
  have hl : lv_has ls 1 [(0, .int a0)] := hl
  unfold x_Model_weigh at hm
  refine lv_iload_n hx hb d_Model_weigh_0 rfl (lv_at hl 0 rfl) ?_
  refine lv_bipush (v := 6) hx hb d_Model_weigh_1 (by decide) ?_
  refine lv_icmp_ge (tgt := 10) hx hb d_Model_weigh_3 (by decide) (fun c1 => ?_) (fun c1 => ?_)
  · replace hm := hm.1 c1
    refine lv_iload_n hx hb d_Model_weigh_10 rfl (lv_at hl 0 rfl) ?_
    refine lv_sipush (v := 128) hx hb d_Model_weigh_11 (by decide) ?_
    refine lv_icmp_ge (tgt := 21) hx hb d_Model_weigh_14 (by decide) (fun c2 => ?_) (fun c2 => ?_)
    · replace hm := hm.1 c2
      refine lv_iconst (v := 3) hx hb d_Model_weigh_21 (by decide) ?_
      exact rt_i hx hb hr hlocks hK hP hD hS d_Model_weigh_22 hm
    · replace hm := hm.2 c2
      refine lv_iconst (v := 2) hx hb d_Model_weigh_17 (by decide) ?_
      refine lv_goto (tgt := 22) hx hb d_Model_weigh_18 (by decide) ?_
      exact rt_i hx hb hr hlocks hK hP hD hS d_Model_weigh_22 hm
  · replace hm := hm.2 c1
    refine lv_iconst (v := 1) hx hb d_Model_weigh_6 (by decide) ?_
    refine lv_goto (tgt := 22) hx hb d_Model_weigh_7 (by decide) ?_
    exact rt_i hx hb hr hlocks hK hP hD hS d_Model_weigh_22 hm
set_option maxHeartbeats 4000000 in
set_option maxRecDepth 100000 in
theorem c_Model_front (l : Launch) (D : va_G) (ad : Nat → Nat) (ca : Nat → ClassId) (sz : Nat) (s : St) (a1 : Int32) (Post : Int32 → St → Prop) (hm : x_Model_front s a1 Post) : CtI l y_Model_front w_Model_front { frames := 0, cells := 0, slots := 0, locals := 0 } D vwCl (tyM ca) (wM ad ca) sz [.ref (ad 0), .int a1] s Post := by
  refine ct_i (cc := prog_8_method_24_code) (maxL := 2) (ret := (some .int)) (by decide) rfl (Nat.le_of_ble_eq_true rfl) ?_
  intro p e s0 m args below meth c A hx hb hr hts hown hlocks hml hK hA
  have hown : s0.vm.findClass R_Model = some m.cls := hown
  intro H locs ls hP hD hS hl
  have hl : lv_has ls 2 [(0, .ref (ad 0)), (1, .int a1)] := hl
  unfold x_Model_front at hm
  refine lv_aload_n hx hb d_Model_front_0 rfl (lv_at hl 0 rfl) ?_
  refine va_get (D := D) (ci := 5) (v := .ref (ad 11)) (C := R_Model) (T := T_Model) (N := 36) hx hb hts in_Model hown hK hP 0 rfl rfl 15 (by decide) (hts _ wd506) (fun _ h9 => h9) rfl d_Model_front_1 ?_
  refine lv_iload_n hx hb d_Model_front_4 rfl (lv_at hl 1 rfl) ?_
  obtain ⟨h1, hm⟩ := hm
  refine va_iald hx hb hK hP 11 10 rfl rfl h1 d_Model_front_5 ?_
  refine lv_iload_n hx hb d_Model_front_6 rfl (lv_at hl 1 rfl) ?_
  refine lv_if_ne (tgt := 14) hx hb d_Model_front_7 (by decide) (fun c2 => ?_) (fun c2 => ?_)
  · replace hm := hm.1 c2
    refine lv_iconst (v := 0) hx hb d_Model_front_14 (by decide) ?_
    refine lv_iadd hx hb d_Model_front_15 ?_
    exact rt_i hx hb hr hlocks hK hP hD hS d_Model_front_16 hm
  · replace hm := hm.2 c2
    refine lv_iconst (v := 3) hx hb d_Model_front_10 (by decide) ?_
    refine lv_goto (tgt := 15) hx hb d_Model_front_11 (by decide) ?_
    refine lv_iadd hx hb d_Model_front_15 ?_
    exact rt_i hx hb hr hlocks hK hP hD hS d_Model_front_16 hm
set_option maxHeartbeats 4000000 in
set_option maxRecDepth 100000 in
theorem c_Model_opcodeAt (l : Launch) (D : va_G) (ad : Nat → Nat) (ca : Nat → ClassId) (sz : Nat) (s : St) (a1 : Int32) (Post : Int32 → St → Prop) (hm : x_Model_opcodeAt s a1 Post) : CtI l y_Model_opcodeAt w_Model_opcodeAt { frames := 0, cells := 0, slots := 0, locals := 0 } D vwCl (tyM ca) (wM ad ca) sz [.ref (ad 0), .int a1] s Post := by
  refine ct_i (cc := prog_8_method_25_code) (maxL := 2) (ret := (some .int)) (by decide) rfl (Nat.le_of_ble_eq_true rfl) ?_
  intro p e s0 m args below meth c A hx hb hr hts hown hlocks hml hK hA
  have hown : s0.vm.findClass R_Model = some m.cls := hown
  intro H locs ls hP hD hS hl
  have hl : lv_has ls 2 [(0, .ref (ad 0)), (1, .int a1)] := hl
  unfold x_Model_opcodeAt at hm
  refine lv_aload_n hx hb d_Model_opcodeAt_0 rfl (lv_at hl 0 rfl) ?_
  refine va_get (D := D) (ci := 5) (v := .ref (ad 11)) (C := R_Model) (T := T_Model) (N := 36) hx hb hts in_Model hown hK hP 0 rfl rfl 15 (by decide) (hts _ wd506) (fun _ h9 => h9) rfl d_Model_opcodeAt_1 ?_
  refine lv_iload_n hx hb d_Model_opcodeAt_4 rfl (lv_at hl 1 rfl) ?_
  obtain ⟨h1, hm⟩ := hm
  refine va_iald hx hb hK hP 11 10 rfl rfl h1 d_Model_opcodeAt_5 ?_
  refine lv_aload_n hx hb d_Model_opcodeAt_6 rfl (lv_at hl 0 rfl) ?_
  refine va_get (D := D) (ci := 5) (v := .ref (ad 12)) (C := R_Model) (T := T_Model) (N := 36) hx hb hts in_Model hown hK hP 0 rfl rfl 16 (by decide) (hts _ wd507) (fun _ h9 => h9) rfl d_Model_opcodeAt_7 ?_
  refine lv_iload_n hx hb d_Model_opcodeAt_10 rfl (lv_at hl 1 rfl) ?_
  obtain ⟨h2, hm⟩ := hm
  refine va_iald hx hb hK hP 12 11 rfl rfl h2 d_Model_opcodeAt_11 ?_
  refine lv_iadd hx hb d_Model_opcodeAt_12 ?_
  exact rt_i hx hb hr hlocks hK hP hD hS d_Model_opcodeAt_13 hm
set_option maxHeartbeats 4000000 in
set_option maxRecDepth 100000 in
theorem c_Model_layOut (l : Launch) (D : va_G) (ad : Nat → Nat) (ca : Nat → ClassId) (sz : Nat) (s : St) (Post : St → Prop) (hm : x_Model_layOut s  Post) : CtV l y_Model_layOut w_Model_layOut { frames := 3, cells := 0, slots := 0, locals := 68 } D vwCl (tyM ca) (wM ad ca) sz [.ref (ad 0)] s Post := by
  refine ct_v (cc := prog_8_method_26_code) (maxL := 5) (ret := none) (by decide) rfl (Nat.le_of_ble_eq_true rfl) ?_
  intro p e s0 m args below meth c A hx hb hr hts hown hlocks hml hK hA
  have hown : s0.vm.findClass R_Model = some m.cls := hown
  have B210 : ∀ (K4 : St → Int32 → Int32 → Prop) (hK4 : ∀ (s : St) (x1 : Int32) (x2 : Int32), K4 s x1 x2 → Bk D vwCl (wM ad ca) A p l e { frames := 3, cells := 0, slots := 0, locals := 68 } s0 m args below meth c (MQ below (va_Qv Post (atG D vwCl (tyM ca) (wM ad ca) A) A) args s0 0 0 A) 5 4 s [(0, .ref (ad 0)), (1, .int x1), (2, .int x2)] []) (s : St) (x1 : Int32) (x2 : Int32), x_Model_layOut_210 K4 Post s x1 x2 → Bk D vwCl (wM ad ca) A p l e { frames := 3, cells := 0, slots := 0, locals := 68 } s0 m args below meth c (MQ below (va_Qv Post (atG D vwCl (tyM ca) (wM ad ca) A) A) args s0 0 0 A) 5 210 s [(0, .ref (ad 0)), (1, .int x1), (2, .int x2)] [] := by
    intro K4 hK4 s x1 x2 hm H locs ls hP hD hS hl
    unfold x_Model_layOut_210 at hm
    obtain ⟨v14, ev14⟩ : ∃ y : Int32, y = x2 + 1 := ⟨_, rfl⟩
    replace hm := hm v14 ev14
    refine lv_iinc (v := v14) (lv' := [(2, .int v14), (0, .ref (ad 0)), (1, .int x1)]) hx hb d_Model_layOut_210 hl (k := 2) rfl (by rw [ev14]; rfl) (by decide) rfl (fun ls hl => ?_)
    refine lv_goto (tgt := 4) hx hb d_Model_layOut_213 (by decide) ?_
    exact hK4 s x1 v14 hm H locs ls hP hD hS (lv_sub hl [1, 2, 0] rfl)
  have B186 : ∀ (K4 : St → Int32 → Int32 → Prop) (hK4 : ∀ (s : St) (x1 : Int32) (x2 : Int32), K4 s x1 x2 → Bk D vwCl (wM ad ca) A p l e { frames := 3, cells := 0, slots := 0, locals := 68 } s0 m args below meth c (MQ below (va_Qv Post (atG D vwCl (tyM ca) (wM ad ca) A) A) args s0 0 0 A) 5 4 s [(0, .ref (ad 0)), (1, .int x1), (2, .int x2)] []) (s : St) (x1 : Int32) (x2 : Int32) (x4 : Int32), x_Model_layOut_186 K4 Post s x1 x2 x4 → Bk D vwCl (wM ad ca) A p l e { frames := 3, cells := 0, slots := 0, locals := 68 } s0 m args below meth c (MQ below (va_Qv Post (atG D vwCl (tyM ca) (wM ad ca) A) A) args s0 0 0 A) 5 186 s [(0, .ref (ad 0)), (1, .int x1), (2, .int x2), (4, .int x4)] [] := by
    intro K4 hK4 s x1 x2 x4 hm H locs ls hP hD hS hl
    unfold x_Model_layOut_186 at hm
    refine lv_aload_n hx hb d_Model_layOut_186 rfl (lv_at hl 0 rfl) ?_
    refine va_get (D := D) (ci := 5) (v := .ref (ad 13)) (C := R_Model) (T := T_Model) (N := 36) hx hb hts in_Model hown hK hP 0 rfl rfl 17 (by decide) (hts _ wd508) (fun _ h9 => h9) rfl d_Model_layOut_187 ?_
    refine lv_iload_n hx hb d_Model_layOut_190 rfl (lv_at hl 2 rfl) ?_
    refine lv_aload_n hx hb d_Model_layOut_191 rfl (lv_at hl 0 rfl) ?_
    refine va_get (D := D) (ci := 5) (v := .ref (ad 12)) (C := R_Model) (T := T_Model) (N := 36) hx hb hts in_Model hown hK hP 0 rfl rfl 16 (by decide) (hts _ wd507) (fun _ h9 => h9) rfl d_Model_layOut_192 ?_
    refine lv_iload_n hx hb d_Model_layOut_195 rfl (lv_at hl 2 rfl) ?_
    obtain ⟨h39, hm⟩ := hm
    refine va_iald hx hb hK hP 12 11 rfl rfl h39 d_Model_layOut_196 ?_
    refine lv_iload hx hb d_Model_layOut_197 (lv_at hl 3 rfl) ?_
    refine lv_iadd hx hb d_Model_layOut_199 ?_
    obtain ⟨h40, hm⟩ := hm
    refine va_iast hx hb hK hP hD hS 13 12 rfl rfl h40 d_Model_layOut_200 (fun H locs hP hD hS => ?_)
    have hP : va_P D vwCl (wM ad ca (su s 12 (x2).toNatClampNeg ((s 11 (x2).toNatClampNeg) + x4))) H := hP
    have hD : va_D A (wM ad ca (su s 12 (x2).toNatClampNeg ((s 11 (x2).toNatClampNeg) + x4))) := hD
    obtain ⟨s41, es41⟩ : ∃ z : St, z = su s 12 (x2).toNatClampNeg ((s 11 (x2).toNatClampNeg) + x4) := ⟨_, rfl⟩
    rw [← es41] at hP hD
    replace hm := hm s41 es41
    refine lv_iload_n hx hb d_Model_layOut_201 rfl (lv_at hl 1 rfl) ?_
    refine lv_aload_n hx hb d_Model_layOut_202 rfl (lv_at hl 0 rfl) ?_
    refine va_get (D := D) (ci := 5) (v := .ref (ad 13)) (C := R_Model) (T := T_Model) (N := 36) hx hb hts in_Model hown hK hP 0 rfl rfl 17 (by decide) (hts _ wd508) (fun _ h9 => h9) rfl d_Model_layOut_203 ?_
    refine lv_iload_n hx hb d_Model_layOut_206 rfl (lv_at hl 2 rfl) ?_
    obtain ⟨h42, hm⟩ := hm
    refine va_iald hx hb hK hP 13 12 rfl rfl h42 d_Model_layOut_207 ?_
    refine lv_iadd hx hb d_Model_layOut_208 ?_
    refine lv_topi (fun v43 ev43 => ?_)
    replace hm := hm v43 ev43
    refine lv_istore_n (lv' := [(1, .int v43), (0, .ref (ad 0)), (2, .int x2), (4, .int x4)]) hx hb d_Model_layOut_209 rfl hl (by decide) rfl (fun ls hl => ?_)
    exact B210 K4 hK4 s41 v43 x2 hm H locs ls hP hD hS (lv_sub hl [1, 0, 2] rfl)
  have B184 : ∀ (K4 : St → Int32 → Int32 → Prop) (hK4 : ∀ (s : St) (x1 : Int32) (x2 : Int32), K4 s x1 x2 → Bk D vwCl (wM ad ca) A p l e { frames := 3, cells := 0, slots := 0, locals := 68 } s0 m args below meth c (MQ below (va_Qv Post (atG D vwCl (tyM ca) (wM ad ca) A) A) args s0 0 0 A) 5 4 s [(0, .ref (ad 0)), (1, .int x1), (2, .int x2)] []) (s : St) (x1 : Int32) (x2 : Int32) (y0 : Int32), x_Model_layOut_184 K4 Post s x1 x2 y0 → Bk D vwCl (wM ad ca) A p l e { frames := 3, cells := 0, slots := 0, locals := 68 } s0 m args below meth c (MQ below (va_Qv Post (atG D vwCl (tyM ca) (wM ad ca) A) A) args s0 0 0 A) 5 184 s [(0, .ref (ad 0)), (1, .int x1), (2, .int x2)] [.int y0] := by
    intro K4 hK4 s x1 x2 y0 hm H locs ls hP hD hS hl
    unfold x_Model_layOut_184 at hm
    refine lv_istore (lv' := [(4, .int y0), (0, .ref (ad 0)), (1, .int x1), (2, .int x2)]) hx hb d_Model_layOut_184 hl (by decide) rfl (fun ls hl => ?_)
    exact B186 K4 hK4 s x1 x2 y0 hm H locs ls hP hD hS (lv_sub hl [1, 2, 3, 0] rfl)
  have B134 : ∀ (K4 : St → Int32 → Int32 → Prop) (hK4 : ∀ (s : St) (x1 : Int32) (x2 : Int32), K4 s x1 x2 → Bk D vwCl (wM ad ca) A p l e { frames := 3, cells := 0, slots := 0, locals := 68 } s0 m args below meth c (MQ below (va_Qv Post (atG D vwCl (tyM ca) (wM ad ca) A) A) args s0 0 0 A) 5 4 s [(0, .ref (ad 0)), (1, .int x1), (2, .int x2)] []) (s : St) (x1 : Int32) (x2 : Int32) (x3 : Int32) (x4 : Int32) (y0 : Int32) (y1 : Int32) (y2 : Int32), x_Model_layOut_134 K4 Post s x1 x2 x3 x4 y0 y1 y2 → Bk D vwCl (wM ad ca) A p l e { frames := 3, cells := 0, slots := 0, locals := 68 } s0 m args below meth c (MQ below (va_Qv Post (atG D vwCl (tyM ca) (wM ad ca) A) A) args s0 0 0 A) 5 134 s [(0, .ref (ad 0)), (1, .int x1), (2, .int x2), (3, .int x3), (4, .int x4)] [.int y0, .int y1, .int y2, .ref (ad 12)] := by
    intro K4 hK4 s x1 x2 x3 x4 y0 y1 y2 hm H locs ls hP hD hS hl
    unfold x_Model_layOut_134 at hm
    refine lv_iadd hx hb d_Model_layOut_134 ?_
    obtain ⟨h28, hm⟩ := hm
    refine va_iast hx hb hK hP hD hS 12 11 rfl rfl h28 d_Model_layOut_135 (fun H locs hP hD hS => ?_)
    have hP : va_P D vwCl (wM ad ca (su s 11 (y2).toNatClampNeg (y1 + y0))) H := hP
    have hD : va_D A (wM ad ca (su s 11 (y2).toNatClampNeg (y1 + y0))) := hD
    obtain ⟨s29, es29⟩ : ∃ z : St, z = su s 11 (y2).toNatClampNeg (y1 + y0) := ⟨_, rfl⟩
    rw [← es29] at hP hD
    replace hm := hm s29 es29
    refine lv_iload_n hx hb d_Model_layOut_136 rfl (lv_at hl 3 rfl) ?_
    refine cg_Si (As := [.int x3]) (rest := []) ⟨hx, hb, hml, hown, hts⟩ hK hP hD hS hA (c_Model_isTable l D ad ca H.size s29 x3 _ hm) (cwB 1 hts wd650 wd7 wd648 wd649 (by decide +kernel) ⟨Nat.le_of_ble_eq_true rfl, Nat.le_of_ble_eq_true rfl⟩) rfl hl rfl (Nat.le_of_ble_eq_true rfl) d_Model_layOut_137 (fun r30 s31 hm => ?_)
    intro H locs ls hP hD hS hl
    refine lv_if_eq (tgt := 162) hx hb d_Model_layOut_140 (by decide) (fun c32 => ?_) (fun c32 => ?_)
    · replace hm := hm.1 c32
      refine lv_aload_n hx hb d_Model_layOut_162 rfl (lv_at hl 0 rfl) ?_
      refine va_get (D := D) (ci := 5) (v := .ref (ad 9)) (C := R_Model) (T := T_Model) (N := 36) hx hb hts in_Model hown hK hP 0 rfl rfl 13 (by decide) (hts _ wd504) (fun _ h9 => h9) rfl d_Model_layOut_163 ?_
      refine lv_iload_n hx hb d_Model_layOut_166 rfl (lv_at hl 2 rfl) ?_
      obtain ⟨h33, hm⟩ := hm
      refine va_zald hx hb hK hP 9 8 rfl rfl h33 d_Model_layOut_167 ?_
      refine lv_if_eq (tgt := 186) hx hb d_Model_layOut_168 (by decide) (fun c34 => ?_) (fun c34 => ?_)
      · replace hm := hm.1 c34
        exact B186 K4 hK4 s31 x1 x2 x4 hm H locs ls hP hD hS (lv_sub hl [0, 1, 2, 4] rfl)
      · replace hm := hm.2 c34
        refine lv_iload_n hx hb d_Model_layOut_171 rfl (lv_at hl 3 rfl) ?_
        refine lv_sipush (v := 167) hx hb d_Model_layOut_172 (by decide) ?_
        refine lv_icmp_ne (tgt := 182) hx hb d_Model_layOut_175 (by decide) (fun c35 => ?_) (fun c35 => ?_)
        · replace hm := hm.1 c35
          refine lv_bipush (v := 8) hx hb d_Model_layOut_182 (by decide) ?_
          exact B184 K4 hK4 s31 x1 x2 (8 : Int32) hm H locs ls hP hD hS (lv_sub hl [0, 1, 2] rfl)
        · replace hm := hm.2 c35
          refine lv_iconst (v := 5) hx hb d_Model_layOut_178 (by decide) ?_
          refine lv_goto (tgt := 184) hx hb d_Model_layOut_179 (by decide) ?_
          exact B184 K4 hK4 s31 x1 x2 (5 : Int32) hm H locs ls hP hD hS (lv_sub hl [0, 1, 2] rfl)
    · replace hm := hm.2 c32
      refine lv_iload hx hb d_Model_layOut_143 (lv_at hl 4 rfl) ?_
      refine lv_iload_n hx hb d_Model_layOut_145 rfl (lv_at hl 2 rfl) ?_
      refine lv_iconst (v := 4) hx hb d_Model_layOut_146 (by decide) ?_
      refine lv_irem hx hb d_Model_layOut_147 (by decide) ?_
      refine lv_aload_n hx hb d_Model_layOut_148 rfl (lv_at hl 0 rfl) ?_
      refine lv_iload_n hx hb d_Model_layOut_149 rfl (lv_at hl 2 rfl) ?_
      refine cg_Vi (b := (ad 0)) (As := [.int x2]) (rest := [.int (x2 - x2 / (4 : Int32) * (4 : Int32)), .int x4]) ⟨hx, hb, hml, hown, hts⟩ hK hP hD hS hA (c_Model_opcodeAt l D ad ca H.size s31 x2 _ hm) (cwA 1 hts wd696 wd7 wd693 wd695 ws35 (by decide +kernel) ⟨Nat.le_of_ble_eq_true rfl, Nat.le_of_ble_eq_true rfl⟩) (va_recv hK hP (ci := 5) (q0 := 0) rfl rfl) rfl hl rfl (Nat.le_of_ble_eq_true rfl) d_Model_layOut_150 (fun r36 s37 hm => ?_)
      intro H locs ls hP hD hS hl
      refine lv_iconst (v := 4) hx hb d_Model_layOut_153 (by decide) ?_
      refine lv_irem hx hb d_Model_layOut_154 (by decide) ?_
      refine lv_isub hx hb d_Model_layOut_155 ?_
      refine lv_iadd hx hb d_Model_layOut_156 ?_
      refine lv_topi (fun v38 ev38 => ?_)
      replace hm := hm v38 ev38
      refine lv_istore (lv' := [(4, .int v38), (0, .ref (ad 0)), (1, .int x1), (2, .int x2), (3, .int x3)]) hx hb d_Model_layOut_157 hl (by decide) rfl (fun ls hl => ?_)
      refine lv_goto (tgt := 186) hx hb d_Model_layOut_159 (by decide) ?_
      exact B186 K4 hK4 s37 x1 x2 v38 hm H locs ls hP hD hS (lv_sub hl [1, 2, 3, 0] rfl)
  have B129 : ∀ (K4 : St → Int32 → Int32 → Prop) (hK4 : ∀ (s : St) (x1 : Int32) (x2 : Int32), K4 s x1 x2 → Bk D vwCl (wM ad ca) A p l e { frames := 3, cells := 0, slots := 0, locals := 68 } s0 m args below meth c (MQ below (va_Qv Post (atG D vwCl (tyM ca) (wM ad ca) A) A) args s0 0 0 A) 5 4 s [(0, .ref (ad 0)), (1, .int x1), (2, .int x2)] []) (s : St) (x1 : Int32) (x2 : Int32) (x3 : Int32) (x4 : Int32) (y0 : Int32) (y1 : Int32), x_Model_layOut_129 K4 Post s x1 x2 x3 x4 y0 y1 → Bk D vwCl (wM ad ca) A p l e { frames := 3, cells := 0, slots := 0, locals := 68 } s0 m args below meth c (MQ below (va_Qv Post (atG D vwCl (tyM ca) (wM ad ca) A) A) args s0 0 0 A) 5 129 s [(0, .ref (ad 0)), (1, .int x1), (2, .int x2), (3, .int x3), (4, .int x4)] [.int y0, .int y1, .ref (ad 12)] := by
    intro K4 hK4 s x1 x2 x3 x4 y0 y1 hm H locs ls hP hD hS hl
    unfold x_Model_layOut_129 at hm
    refine lv_iconst (v := 4) hx hb d_Model_layOut_129 (by decide) ?_
    refine lv_goto (tgt := 134) hx hb d_Model_layOut_130 (by decide) ?_
    exact B134 K4 hK4 s x1 x2 x3 x4 (4 : Int32) y0 y1 hm H locs ls hP hD hS (lv_sub hl [0, 1, 2, 3, 4] rfl)
  have B97 : ∀ (K4 : St → Int32 → Int32 → Prop) (hK4 : ∀ (s : St) (x1 : Int32) (x2 : Int32), K4 s x1 x2 → Bk D vwCl (wM ad ca) A p l e { frames := 3, cells := 0, slots := 0, locals := 68 } s0 m args below meth c (MQ below (va_Qv Post (atG D vwCl (tyM ca) (wM ad ca) A) A) args s0 0 0 A) 5 4 s [(0, .ref (ad 0)), (1, .int x1), (2, .int x2)] []) (s : St) (x1 : Int32) (x2 : Int32) (x3 : Int32) (x4 : Int32) (y0 : Int32) (y1 : Int32) (y2 : Int32), x_Model_layOut_97 K4 Post s x1 x2 x3 x4 y0 y1 y2 → Bk D vwCl (wM ad ca) A p l e { frames := 3, cells := 0, slots := 0, locals := 68 } s0 m args below meth c (MQ below (va_Qv Post (atG D vwCl (tyM ca) (wM ad ca) A) A) args s0 0 0 A) 5 97 s [(0, .ref (ad 0)), (1, .int x1), (2, .int x2), (3, .int x3), (4, .int x4)] [.int y0, .int y1, .int y2, .ref (ad 12)] := by
    intro K4 hK4 s x1 x2 x3 x4 y0 y1 y2 hm H locs ls hP hD hS hl
    unfold x_Model_layOut_97 at hm
    refine lv_iadd hx hb d_Model_layOut_97 ?_
    refine lv_iload_n hx hb d_Model_layOut_98 rfl (lv_at hl 3 rfl) ?_
    refine lv_sipush (v := 172) hx hb d_Model_layOut_99 (by decide) ?_
    refine lv_sipush (v := 177) hx hb d_Model_layOut_102 (by decide) ?_
    refine cg_Si (As := [.int x3, .int (172 : Int32), .int (177 : Int32)]) (rest := [.int (y1 + y0), .int y2, .ref (ad 12)]) ⟨hx, hb, hml, hown, hts⟩ hK hP hD hS hA (c_Model_in l D ad ca H.size s x3 (172 : Int32) (177 : Int32) _ hm) (cwB 3 hts wd606 wd7 wd604 wd605 (by decide +kernel) ⟨Nat.le_of_ble_eq_true rfl, Nat.le_of_ble_eq_true rfl⟩) rfl hl rfl (Nat.le_of_ble_eq_true rfl) d_Model_layOut_105 (fun r23 s24 hm => ?_)
    intro H locs ls hP hD hS hl
    refine lv_if_eq (tgt := 115) hx hb d_Model_layOut_108 (by decide) (fun c25 => ?_) (fun c25 => ?_)
    · replace hm := hm.1 c25
      refine lv_iload_n hx hb d_Model_layOut_115 rfl (lv_at hl 3 rfl) ?_
      refine lv_sipush (v := 188) hx hb d_Model_layOut_116 (by decide) ?_
      refine lv_icmp_eq (tgt := 129) hx hb d_Model_layOut_119 (by decide) (fun c26 => ?_) (fun c26 => ?_)
      · replace hm := hm.1 c26
        exact B129 K4 hK4 s24 x1 x2 x3 x4 (y1 + y0) y2 hm H locs ls hP hD hS (lv_sub hl [0, 1, 2, 3, 4] rfl)
      · replace hm := hm.2 c26
        refine lv_iload_n hx hb d_Model_layOut_122 rfl (lv_at hl 3 rfl) ?_
        refine lv_sipush (v := 189) hx hb d_Model_layOut_123 (by decide) ?_
        refine lv_icmp_ne (tgt := 133) hx hb d_Model_layOut_126 (by decide) (fun c27 => ?_) (fun c27 => ?_)
        · replace hm := hm.1 c27
          refine lv_iconst (v := 0) hx hb d_Model_layOut_133 (by decide) ?_
          exact B134 K4 hK4 s24 x1 x2 x3 x4 (0 : Int32) (y1 + y0) y2 hm H locs ls hP hD hS (lv_sub hl [0, 1, 2, 3, 4] rfl)
        · replace hm := hm.2 c27
          exact B129 K4 hK4 s24 x1 x2 x3 x4 (y1 + y0) y2 hm H locs ls hP hD hS (lv_sub hl [0, 1, 2, 3, 4] rfl)
    · replace hm := hm.2 c25
      refine lv_iconst (v := 3) hx hb d_Model_layOut_111 (by decide) ?_
      refine lv_goto (tgt := 134) hx hb d_Model_layOut_112 (by decide) ?_
      exact B134 K4 hK4 s24 x1 x2 x3 x4 (3 : Int32) (y1 + y0) y2 hm H locs ls hP hD hS (lv_sub hl [0, 1, 2, 3, 4] rfl)
  have B72 : ∀ (K4 : St → Int32 → Int32 → Prop) (hK4 : ∀ (s : St) (x1 : Int32) (x2 : Int32), K4 s x1 x2 → Bk D vwCl (wM ad ca) A p l e { frames := 3, cells := 0, slots := 0, locals := 68 } s0 m args below meth c (MQ below (va_Qv Post (atG D vwCl (tyM ca) (wM ad ca) A) A) args s0 0 0 A) 5 4 s [(0, .ref (ad 0)), (1, .int x1), (2, .int x2)] []) (s : St) (x1 : Int32) (x2 : Int32) (x3 : Int32) (x4 : Int32) (y0 : Int32) (y1 : Int32) (y2 : Int32), x_Model_layOut_72 K4 Post s x1 x2 x3 x4 y0 y1 y2 → Bk D vwCl (wM ad ca) A p l e { frames := 3, cells := 0, slots := 0, locals := 68 } s0 m args below meth c (MQ below (va_Qv Post (atG D vwCl (tyM ca) (wM ad ca) A) A) args s0 0 0 A) 5 72 s [(0, .ref (ad 0)), (1, .int x1), (2, .int x2), (3, .int x3), (4, .int x4)] [.int y0, .int y1, .int y2, .ref (ad 12)] := by
    intro K4 hK4 s x1 x2 x3 x4 y0 y1 y2 hm H locs ls hP hD hS hl
    unfold x_Model_layOut_72 at hm
    refine lv_iadd hx hb d_Model_layOut_72 ?_
    refine lv_aload_n hx hb d_Model_layOut_73 rfl (lv_at hl 0 rfl) ?_
    refine va_get (D := D) (ci := 5) (v := .ref (ad 14)) (C := R_Model) (T := T_Model) (N := 36) hx hb hts in_Model hown hK hP 0 rfl rfl 18 (by decide) (hts _ wd509) (fun _ h9 => h9) rfl d_Model_layOut_74 ?_
    refine lv_iload_n hx hb d_Model_layOut_77 rfl (lv_at hl 2 rfl) ?_
    obtain ⟨h18, hm⟩ := hm
    refine va_iald hx hb hK hP 14 13 rfl rfl h18 d_Model_layOut_78 ?_
    refine lv_if_le (tgt := 96) hx hb d_Model_layOut_79 (by decide) (fun c19 => ?_) (fun c19 => ?_)
    · replace hm := hm.1 c19
      refine lv_iconst (v := 0) hx hb d_Model_layOut_96 (by decide) ?_
      exact B97 K4 hK4 s x1 x2 x3 x4 (0 : Int32) (y1 + y0) y2 hm H locs ls hP hD hS (lv_sub hl [0, 1, 2, 3, 4] rfl)
    · replace hm := hm.2 c19
      refine lv_aload_n hx hb d_Model_layOut_82 rfl (lv_at hl 0 rfl) ?_
      refine va_get (D := D) (ci := 5) (v := .ref (ad 14)) (C := R_Model) (T := T_Model) (N := 36) hx hb hts in_Model hown hK hP 0 rfl rfl 18 (by decide) (hts _ wd509) (fun _ h9 => h9) rfl d_Model_layOut_83 ?_
      refine lv_iload_n hx hb d_Model_layOut_86 rfl (lv_at hl 2 rfl) ?_
      obtain ⟨h20, hm⟩ := hm
      refine va_iald hx hb hK hP 14 13 rfl rfl h20 d_Model_layOut_87 ?_
      refine cg_Si (As := [.int (s 13 (x2).toNatClampNeg)]) (rest := [.int (y1 + y0), .int y2, .ref (ad 12)]) ⟨hx, hb, hml, hown, hts⟩ hK hP hD hS hA (c_Model_weigh l D ad ca H.size s (s 13 (x2).toNatClampNeg) _ hm) (cwB 1 hts wd692 wd7 wd690 wd691 (by decide +kernel) ⟨Nat.le_of_ble_eq_true rfl, Nat.le_of_ble_eq_true rfl⟩) rfl hl rfl (Nat.le_of_ble_eq_true rfl) d_Model_layOut_88 (fun r21 s22 hm => ?_)
      intro H locs ls hP hD hS hl
      refine lv_iconst (v := 3) hx hb d_Model_layOut_91 (by decide) ?_
      refine lv_iadd hx hb d_Model_layOut_92 ?_
      refine lv_goto (tgt := 97) hx hb d_Model_layOut_93 (by decide) ?_
      exact B97 K4 hK4 s22 x1 x2 x3 x4 (r21 + (3 : Int32)) (y1 + y0) y2 hm H locs ls hP hD hS (lv_sub hl [0, 1, 2, 3, 4] rfl)
  have B59 : ∀ (K4 : St → Int32 → Int32 → Prop) (hK4 : ∀ (s : St) (x1 : Int32) (x2 : Int32), K4 s x1 x2 → Bk D vwCl (wM ad ca) A p l e { frames := 3, cells := 0, slots := 0, locals := 68 } s0 m args below meth c (MQ below (va_Qv Post (atG D vwCl (tyM ca) (wM ad ca) A) A) args s0 0 0 A) 5 4 s [(0, .ref (ad 0)), (1, .int x1), (2, .int x2)] []) (s : St) (x1 : Int32) (x2 : Int32) (x3 : Int32) (x4 : Int32) (y0 : Int32) (y1 : Int32), x_Model_layOut_59 K4 Post s x1 x2 x3 x4 y0 y1 → Bk D vwCl (wM ad ca) A p l e { frames := 3, cells := 0, slots := 0, locals := 68 } s0 m args below meth c (MQ below (va_Qv Post (atG D vwCl (tyM ca) (wM ad ca) A) A) args s0 0 0 A) 5 59 s [(0, .ref (ad 0)), (1, .int x1), (2, .int x2), (3, .int x3), (4, .int x4)] [.int y0, .int y1, .ref (ad 12)] := by
    intro K4 hK4 s x1 x2 x3 x4 y0 y1 hm H locs ls hP hD hS hl
    unfold x_Model_layOut_59 at hm
    refine lv_aload_n hx hb d_Model_layOut_59 rfl (lv_at hl 0 rfl) ?_
    refine lv_iload_n hx hb d_Model_layOut_60 rfl (lv_at hl 2 rfl) ?_
    refine cg_Vi (b := (ad 0)) (As := [.int x2]) (rest := [.int y0, .int y1, .ref (ad 12)]) ⟨hx, hb, hml, hown, hts⟩ hK hP hD hS hA (c_Model_looks l D ad ca H.size s x2 _ hm) (cwA 1 hts wd689 wd7 wd686 wd688 ws34 (by decide +kernel) ⟨Nat.le_of_ble_eq_true rfl, Nat.le_of_ble_eq_true rfl⟩) (va_recv hK hP (ci := 5) (q0 := 0) rfl rfl) rfl hl rfl (Nat.le_of_ble_eq_true rfl) d_Model_layOut_61 (fun r15 s16 hm => ?_)
    intro H locs ls hP hD hS hl
    refine lv_if_eq (tgt := 71) hx hb d_Model_layOut_64 (by decide) (fun c17 => ?_) (fun c17 => ?_)
    · replace hm := hm.1 c17
      refine lv_iconst (v := 0) hx hb d_Model_layOut_71 (by decide) ?_
      exact B72 K4 hK4 s16 x1 x2 x3 x4 (0 : Int32) y0 y1 hm H locs ls hP hD hS (lv_sub hl [0, 1, 2, 3, 4] rfl)
    · replace hm := hm.2 c17
      refine lv_iconst (v := 4) hx hb d_Model_layOut_67 (by decide) ?_
      refine lv_goto (tgt := 72) hx hb d_Model_layOut_68 (by decide) ?_
      exact B72 K4 hK4 s16 x1 x2 x3 x4 (4 : Int32) y0 y1 hm H locs ls hP hD hS (lv_sub hl [0, 1, 2, 3, 4] rfl)
  have B4 : ∀ (n : Nat) (s : St) (x1 : Int32) (x2 : Int32), x_Model_layOut_4  Post n s x1 x2 → Bk D vwCl (wM ad ca) A p l e { frames := 3, cells := 0, slots := 0, locals := 68 } s0 m args below meth c (MQ below (va_Qv Post (atG D vwCl (tyM ca) (wM ad ca) A) A) args s0 0 0 A) 5 4 s [(0, .ref (ad 0)), (1, .int x1), (2, .int x2)] [] := by
    intro  n4
    induction n4 with
    | zero => intro s x1 x2 hm; exact hm.elim
    | succ n4 hK4 =>
      intro s x1 x2 hm H locs ls hP hD hS hl
      have hm : x_Model_layOut_4F  Post (fun s x1 x2 => x_Model_layOut_4  Post n4 s x1 x2) s x1 x2 := hm
      unfold x_Model_layOut_4F at hm
      refine lv_iload_n hx hb d_Model_layOut_4 rfl (lv_at hl 2 rfl) ?_
      refine lv_aload_n hx hb d_Model_layOut_5 rfl (lv_at hl 0 rfl) ?_
      refine va_get (D := D) (ci := 5) (v := .int (s 19 5)) (C := R_Model) (T := T_Model) (N := 36) hx hb hts in_Model hown hK hP 0 rfl rfl 24 (by decide) (hts _ wd515) (fun _ h9 => h9) rfl d_Model_layOut_6 ?_
      refine lv_icmp_ge (tgt := 216) hx hb d_Model_layOut_9 (by decide) (fun c1 => ?_) (fun c1 => ?_)
      · replace hm := hm.1 c1
        refine lv_aload_n hx hb d_Model_layOut_216 rfl (lv_at hl 0 rfl) ?_
        refine va_get (D := D) (ci := 5) (v := .ref (ad 11)) (C := R_Model) (T := T_Model) (N := 36) hx hb hts in_Model hown hK hP 0 rfl rfl 15 (by decide) (hts _ wd506) (fun _ h9 => h9) rfl d_Model_layOut_217 ?_
        refine lv_aload_n hx hb d_Model_layOut_220 rfl (lv_at hl 0 rfl) ?_
        refine va_get (D := D) (ci := 5) (v := .int (s 19 5)) (C := R_Model) (T := T_Model) (N := 36) hx hb hts in_Model hown hK hP 0 rfl rfl 24 (by decide) (hts _ wd515) (fun _ h9 => h9) rfl d_Model_layOut_221 ?_
        refine lv_iload_n hx hb d_Model_layOut_224 rfl (lv_at hl 1 rfl) ?_
        obtain ⟨h2, hm⟩ := hm
        refine va_iast hx hb hK hP hD hS 11 10 rfl rfl h2 d_Model_layOut_225 (fun H locs hP hD hS => ?_)
        have hP : va_P D vwCl (wM ad ca (su s 10 ((s 19 5)).toNatClampNeg x1)) H := hP
        have hD : va_D A (wM ad ca (su s 10 ((s 19 5)).toNatClampNeg x1)) := hD
        obtain ⟨s3, es3⟩ : ∃ z : St, z = su s 10 ((s 19 5)).toNatClampNeg x1 := ⟨_, rfl⟩
        rw [← es3] at hP hD
        replace hm := hm s3 es3
        refine lv_aload_n hx hb d_Model_layOut_226 rfl (lv_at hl 0 rfl) ?_
        refine lv_iload_n hx hb d_Model_layOut_227 rfl (lv_at hl 1 rfl) ?_
        refine va_put (D := D) (ci := 5) (v := .int x1) (ty := .int) (C := R_Model) (T := T_Model) (N := 36) hx hb hts in_Model t_Model to_Model no_Model hown hK hP hD hS 0 rfl rfl 25 (by decide) (hts _ wd516) (fun _ h9 => h9) rfl (by decide +kernel) rfl rfl (Nat.le_of_ble_eq_true rfl) d_Model_layOut_228 (fun H locs hP hD hS => ?_)
        have hP : va_P D vwCl (wM ad ca (su s3 19 6 x1)) H := hP
        have hD : va_D A (wM ad ca (su s3 19 6 x1)) := hD
        obtain ⟨s4, es4⟩ : ∃ z : St, z = su s3 19 6 x1 := ⟨_, rfl⟩
        rw [← es4] at hP hD
        replace hm := hm s4 es4
        exact rt_v hx hb hr hlocks hK hP hD hS d_Model_layOut_231 hm
      · replace hm := hm.2 c1
        refine lv_aload_n hx hb d_Model_layOut_12 rfl (lv_at hl 0 rfl) ?_
        refine va_get (D := D) (ci := 5) (v := .ref (ad 8)) (C := R_Model) (T := T_Model) (N := 36) hx hb hts in_Model hown hK hP 0 rfl rfl 12 (by decide) (hts _ wd503) (fun _ h9 => h9) rfl d_Model_layOut_13 ?_
        refine lv_iload_n hx hb d_Model_layOut_16 rfl (lv_at hl 2 rfl) ?_
        obtain ⟨h5, hm⟩ := hm
        refine va_zald hx hb hK hP 8 7 rfl rfl h5 d_Model_layOut_17 ?_
        refine lv_if_ne (tgt := 24) hx hb d_Model_layOut_18 (by decide) (fun c6 => ?_) (fun c6 => ?_)
        · replace hm := hm.1 c6
          refine lv_aload_n hx hb d_Model_layOut_24 rfl (lv_at hl 0 rfl) ?_
          refine va_get (D := D) (ci := 5) (v := .ref (ad 10)) (C := R_Model) (T := T_Model) (N := 36) hx hb hts in_Model hown hK hP 0 rfl rfl 14 (by decide) (hts _ wd505) (fun _ h9 => h9) rfl d_Model_layOut_25 ?_
          refine lv_iload_n hx hb d_Model_layOut_28 rfl (lv_at hl 2 rfl) ?_
          obtain ⟨h7, hm⟩ := hm
          refine va_iald hx hb hK hP 10 9 rfl rfl h7 d_Model_layOut_29 ?_
          refine lv_topi (fun v8 ev8 => ?_)
          replace hm := hm v8 ev8
          refine lv_istore_n (lv' := [(3, .int v8), (0, .ref (ad 0)), (1, .int x1), (2, .int x2)]) hx hb d_Model_layOut_30 rfl hl (by decide) rfl (fun ls hl => ?_)
          refine lv_aload_n hx hb d_Model_layOut_31 rfl (lv_at hl 1 rfl) ?_
          refine lv_iload_n hx hb d_Model_layOut_32 rfl (lv_at hl 3 rfl) ?_
          refine cg_Vi (b := (ad 0)) (As := [.int x2]) (rest := []) ⟨hx, hb, hml, hown, hts⟩ hK hP hD hS hA (c_Model_length l D ad ca H.size s x2 _ hm) (cwA 1 hts wd644 wd7 wd641 wd643 ws26 (by decide +kernel) ⟨Nat.le_of_ble_eq_true rfl, Nat.le_of_ble_eq_true rfl⟩) (va_recv hK hP (ci := 5) (q0 := 0) rfl rfl) rfl hl rfl (Nat.le_of_ble_eq_true rfl) d_Model_layOut_33 (fun r9 s10 hm => ?_)
          intro H locs ls hP hD hS hl
          refine lv_istore (lv' := [(4, .int r9), (3, .int v8), (0, .ref (ad 0)), (1, .int x1), (2, .int x2)]) hx hb d_Model_layOut_36 hl (by decide) rfl (fun ls hl => ?_)
          refine lv_aload_n hx hb d_Model_layOut_38 rfl (lv_at hl 2 rfl) ?_
          refine va_get (D := D) (ci := 5) (v := .ref (ad 11)) (C := R_Model) (T := T_Model) (N := 36) hx hb hts in_Model hown hK hP 0 rfl rfl 15 (by decide) (hts _ wd506) (fun _ h9 => h9) rfl d_Model_layOut_39 ?_
          refine lv_iload_n hx hb d_Model_layOut_42 rfl (lv_at hl 4 rfl) ?_
          refine lv_iload_n hx hb d_Model_layOut_43 rfl (lv_at hl 3 rfl) ?_
          obtain ⟨h11, hm⟩ := hm
          refine va_iast hx hb hK hP hD hS 11 10 rfl rfl h11 d_Model_layOut_44 (fun H locs hP hD hS => ?_)
          have hP : va_P D vwCl (wM ad ca (su s10 10 (x2).toNatClampNeg x1)) H := hP
          have hD : va_D A (wM ad ca (su s10 10 (x2).toNatClampNeg x1)) := hD
          obtain ⟨s12, es12⟩ : ∃ z : St, z = su s10 10 (x2).toNatClampNeg x1 := ⟨_, rfl⟩
          rw [← es12] at hP hD
          replace hm := hm s12 es12
          refine lv_aload_n hx hb d_Model_layOut_45 rfl (lv_at hl 2 rfl) ?_
          refine va_get (D := D) (ci := 5) (v := .ref (ad 12)) (C := R_Model) (T := T_Model) (N := 36) hx hb hts in_Model hown hK hP 0 rfl rfl 16 (by decide) (hts _ wd507) (fun _ h9 => h9) rfl d_Model_layOut_46 ?_
          refine lv_iload_n hx hb d_Model_layOut_49 rfl (lv_at hl 4 rfl) ?_
          refine lv_iload_n hx hb d_Model_layOut_50 rfl (lv_at hl 4 rfl) ?_
          refine lv_if_ne (tgt := 58) hx hb d_Model_layOut_51 (by decide) (fun c13 => ?_) (fun c13 => ?_)
          · replace hm := hm.1 c13
            refine lv_iconst (v := 0) hx hb d_Model_layOut_58 (by decide) ?_
            exact B59 (fun s x1 x2 => x_Model_layOut_4  Post n4 s x1 x2) hK4 s12 x1 x2 v8 r9 (0 : Int32) x2 hm H locs ls hP hD hS (lv_sub hl [2, 3, 4, 1, 0] rfl)
          · replace hm := hm.2 c13
            refine lv_iconst (v := 3) hx hb d_Model_layOut_54 (by decide) ?_
            refine lv_goto (tgt := 59) hx hb d_Model_layOut_55 (by decide) ?_
            exact B59 (fun s x1 x2 => x_Model_layOut_4  Post n4 s x1 x2) hK4 s12 x1 x2 v8 r9 (3 : Int32) x2 hm H locs ls hP hD hS (lv_sub hl [2, 3, 4, 1, 0] rfl)
        · replace hm := hm.2 c6
          refine lv_goto (tgt := 210) hx hb d_Model_layOut_21 (by decide) ?_
          exact B210 (fun s x1 x2 => x_Model_layOut_4  Post n4 s x1 x2) hK4 s x1 x2 hm H locs ls hP hD hS (lv_sub hl [0, 1, 2] rfl)
  intro H locs ls hP hD hS hl
  have hl : lv_has ls 5 [(0, .ref (ad 0))] := hl
  unfold x_Model_layOut at hm
  refine lv_iconst (v := 0) hx hb d_Model_layOut_0 (by decide) ?_
  refine lv_istore_n (lv' := [(1, .int (0 : Int32)), (0, .ref (ad 0))]) hx hb d_Model_layOut_1 rfl hl (by decide) rfl (fun ls hl => ?_)
  refine lv_iconst (v := 0) hx hb d_Model_layOut_2 (by decide) ?_
  refine lv_istore_n (lv' := [(2, .int (0 : Int32)), (1, .int (0 : Int32)), (0, .ref (ad 0))]) hx hb d_Model_layOut_3 rfl hl (by decide) rfl (fun ls hl => ?_)
  obtain ⟨n4, hm⟩ := hm
  exact B4  n4 s (0 : Int32) (0 : Int32) hm H locs ls hP hD hS (lv_sub hl [2, 1, 0] rfl)
set_option maxHeartbeats 4000000 in
set_option maxRecDepth 100000 in
theorem c_Model_put (l : Launch) (D : va_G) (ad : Nat → Nat) (ca : Nat → ClassId) (sz : Nat) (s : St) (a1 : Int32) (a2 : Int32) (Post : St → Prop) (hm : x_Model_put s a1 a2 Post) : CtV l y_Model_put w_Model_put { frames := 0, cells := 0, slots := 0, locals := 0 } D vwCl (tyM ca) (wM ad ca) sz [.ref (ad 0), .int a1, .int a2] s Post := by
  refine ct_v (cc := prog_8_method_28_code) (maxL := 4) (ret := none) (by decide) rfl (Nat.le_of_ble_eq_true rfl) ?_
  intro p e s0 m args below meth c A hx hb hr hts hown hlocks hml hK hA
  have hown : s0.vm.findClass R_Model = some m.cls := hown
  have B4 : ∀ (n : Nat) (s : St) (x1 : Int32) (x3 : Int32), x_Model_put_4  Post n s x1 x3 → Bk D vwCl (wM ad ca) A p l e { frames := 0, cells := 0, slots := 0, locals := 0 } s0 m args below meth c (MQ below (va_Qv Post (atG D vwCl (tyM ca) (wM ad ca) A) A) args s0 0 0 A) 4 4 s [(0, .ref (ad 0)), (1, .int x1), (3, .int x3)] [] := by
    intro  n4
    induction n4 with
    | zero => intro s x1 x3 hm; exact hm.elim
    | succ n4 hK4 =>
      intro s x1 x3 hm H locs ls hP hD hS hl
      have hm : x_Model_put_4F  Post (fun s x1 x3 => x_Model_put_4  Post n4 s x1 x3) s x1 x3 := hm
      unfold x_Model_put_4F at hm
      refine lv_iload_n hx hb d_Model_put_4 rfl (lv_at hl 2 rfl) ?_
      refine lv_if_lt (tgt := 43) hx hb d_Model_put_5 (by decide) (fun c2 => ?_) (fun c2 => ?_)
      · replace hm := hm.1 c2
        exact rt_v hx hb hr hlocks hK hP hD hS d_Model_put_43 hm
      · replace hm := hm.2 c2
        refine lv_aload_n hx hb d_Model_put_8 rfl (lv_at hl 0 rfl) ?_
        refine va_get (D := D) (ci := 5) (v := .ref (ad 15)) (C := R_Model) (T := T_Model) (N := 36) hx hb hts in_Model hown hK hP 0 rfl rfl 19 (by decide) (hts _ wd510) (fun _ h9 => h9) rfl d_Model_put_9 ?_
        refine lv_aload_n hx hb d_Model_put_12 rfl (lv_at hl 0 rfl) ?_
        refine va_get (D := D) (ci := 5) (v := .int (s 19 15)) (C := R_Model) (T := T_Model) (N := 36) hx hb hts in_Model hown hK hP 0 rfl rfl 34 (by decide) (hts _ wd525) (fun _ h9 => h9) rfl d_Model_put_13 ?_
        refine lv_iload_n hx hb d_Model_put_16 rfl (lv_at hl 1 rfl) ?_
        refine lv_bipush (v := 8) hx hb d_Model_put_17 (by decide) ?_
        refine lv_iload_n hx hb d_Model_put_19 rfl (lv_at hl 2 rfl) ?_
        refine lv_imul hx hb d_Model_put_20 ?_
        refine lv_ishr hx hb d_Model_put_21 ?_
        refine lv_sipush (v := 255) hx hb d_Model_put_22 (by decide) ?_
        refine lv_iand hx hb d_Model_put_25 ?_
        obtain ⟨h3, hm⟩ := hm
        refine va_iast hx hb hK hP hD hS 15 14 rfl rfl h3 d_Model_put_26 (fun H locs hP hD hS => ?_)
        have hP : va_P D vwCl (wM ad ca (su s 14 ((s 19 15)).toNatClampNeg ((x1 >>> (((8 : Int32) * x3) &&& 31)) &&& (255 : Int32)))) H := hP
        have hD : va_D A (wM ad ca (su s 14 ((s 19 15)).toNatClampNeg ((x1 >>> (((8 : Int32) * x3) &&& 31)) &&& (255 : Int32)))) := hD
        obtain ⟨s4, es4⟩ : ∃ z : St, z = su s 14 ((s 19 15)).toNatClampNeg ((x1 >>> (((8 : Int32) * x3) &&& 31)) &&& (255 : Int32)) := ⟨_, rfl⟩
        rw [← es4] at hP hD
        replace hm := hm s4 es4
        refine lv_aload_n hx hb d_Model_put_27 rfl (lv_at hl 0 rfl) ?_
        refine lv_dup hx hb d_Model_put_28 rfl ?_
        refine va_get (D := D) (ci := 5) (v := .int (s4 19 15)) (C := R_Model) (T := T_Model) (N := 36) hx hb hts in_Model hown hK hP 0 rfl rfl 34 (by decide) (hts _ wd525) (fun _ h9 => h9) rfl d_Model_put_29 ?_
        refine lv_iconst (v := 1) hx hb d_Model_put_32 (by decide) ?_
        refine lv_iadd hx hb d_Model_put_33 ?_
        refine va_put (D := D) (ci := 5) (v := .int ((s4 19 15) + (1 : Int32))) (ty := .int) (C := R_Model) (T := T_Model) (N := 36) hx hb hts in_Model t_Model to_Model no_Model hown hK hP hD hS 0 rfl rfl 34 (by decide) (hts _ wd525) (fun _ h9 => h9) rfl (by decide +kernel) rfl rfl (Nat.le_of_ble_eq_true rfl) d_Model_put_34 (fun H locs hP hD hS => ?_)
        have hP : va_P D vwCl (wM ad ca (su s4 19 15 ((s4 19 15) + (1 : Int32)))) H := hP
        have hD : va_D A (wM ad ca (su s4 19 15 ((s4 19 15) + (1 : Int32)))) := hD
        obtain ⟨s5, es5⟩ : ∃ z : St, z = su s4 19 15 ((s4 19 15) + (1 : Int32)) := ⟨_, rfl⟩
        rw [← es5] at hP hD
        replace hm := hm s5 es5
        obtain ⟨v6, ev6⟩ : ∃ y : Int32, y = x3 + (-1) := ⟨_, rfl⟩
        replace hm := hm v6 ev6
        refine lv_iinc (v := v6) (lv' := [(3, .int v6), (0, .ref (ad 0)), (1, .int x1)]) hx hb d_Model_put_37 hl (k := 2) rfl (by rw [ev6]; rfl) (by decide) rfl (fun ls hl => ?_)
        refine lv_goto (tgt := 4) hx hb d_Model_put_40 (by decide) ?_
        exact hK4 s5 x1 v6 hm H locs ls hP hD hS (lv_sub hl [1, 2, 0] rfl)
  intro H locs ls hP hD hS hl
  have hl : lv_has ls 4 [(0, .ref (ad 0)), (1, .int a1), (2, .int a2)] := hl
  unfold x_Model_put at hm
  refine lv_iload_n hx hb d_Model_put_0 rfl (lv_at hl 2 rfl) ?_
  refine lv_iconst (v := 1) hx hb d_Model_put_1 (by decide) ?_
  refine lv_isub hx hb d_Model_put_2 ?_
  refine lv_topi (fun v1 ev1 => ?_)
  replace hm := hm v1 ev1
  refine lv_istore_n (lv' := [(3, .int v1), (0, .ref (ad 0)), (1, .int a1), (2, .int a2)]) hx hb d_Model_put_3 rfl hl (by decide) rfl (fun ls hl => ?_)
  obtain ⟨n4, hm⟩ := hm
  exact B4  n4 s a1 v1 hm H locs ls hP hD hS (lv_sub hl [1, 2, 0] rfl)
set_option maxHeartbeats 4000000 in
set_option maxRecDepth 100000 in
theorem c_Model_call (l : Launch) (D : va_G) (ad : Nat → Nat) (ca : Nat → ClassId) (sz : Nat) (s : St) (a1 : Int32) (Post : St → Prop) (hm : x_Model_call s a1 Post) : CtV l y_Model_call w_Model_call { frames := 1, cells := 0, slots := 0, locals := 23 } D vwCl (tyM ca) (wM ad ca) sz [.ref (ad 0), .int a1] s Post := by
  refine ct_v (cc := prog_8_method_29_code) (maxL := 2) (ret := none) (by decide) rfl (Nat.le_of_ble_eq_true rfl) ?_
  intro p e s0 m args below meth c A hx hb hr hts hown hlocks hml hK hA
  have hown : s0.vm.findClass R_Model = some m.cls := hown
  intro H locs ls hP hD hS hl
  have hl : lv_has ls 2 [(0, .ref (ad 0)), (1, .int a1)] := hl
  unfold x_Model_call at hm
  refine lv_aload_n hx hb d_Model_call_0 rfl (lv_at hl 0 rfl) ?_
  refine lv_sipush (v := 184) hx hb d_Model_call_1 (by decide) ?_
  refine lv_iconst (v := 1) hx hb d_Model_call_4 (by decide) ?_
  refine cg_Vv (b := (ad 0)) (As := [.int (184 : Int32), .int (1 : Int32)]) (rest := []) ⟨hx, hb, hml, hown, hts⟩ hK hP hD hS hA (c_Model_put l D ad ca H.size s (184 : Int32) (1 : Int32) _ hm) (cwA 2 hts wd712 wd7 wd709 wd711 ws39 (by decide +kernel) ⟨Nat.le_of_ble_eq_true rfl, Nat.le_of_ble_eq_true rfl⟩) (va_recv hK hP (ci := 5) (q0 := 0) rfl rfl) rfl hl rfl (Nat.le_of_ble_eq_true rfl) d_Model_call_5 (fun s2 hm => ?_)
  intro H locs ls hP hD hS hl
  refine lv_aload_n hx hb d_Model_call_8 rfl (lv_at hl 0 rfl) ?_
  refine lv_aload_n hx hb d_Model_call_9 rfl (lv_at hl 0 rfl) ?_
  refine va_get (D := D) (ci := 5) (v := .int (s2 19 2)) (C := R_Model) (T := T_Model) (N := 36) hx hb hts in_Model hown hK hP 0 rfl rfl 9 (by decide) (hts _ wd500) (fun _ h9 => h9) rfl d_Model_call_10 ?_
  refine lv_iload_n hx hb d_Model_call_13 rfl (lv_at hl 1 rfl) ?_
  refine lv_iadd hx hb d_Model_call_14 ?_
  refine lv_iconst (v := 2) hx hb d_Model_call_15 (by decide) ?_
  refine cg_Vv (b := (ad 0)) (As := [.int ((s2 19 2) + a1), .int (2 : Int32)]) (rest := []) ⟨hx, hb, hml, hown, hts⟩ hK hP hD hS hA (c_Model_put l D ad ca H.size s2 ((s2 19 2) + a1) (2 : Int32) _ hm) (cwA 2 hts wd712 wd7 wd709 wd711 ws39 (by decide +kernel) ⟨Nat.le_of_ble_eq_true rfl, Nat.le_of_ble_eq_true rfl⟩) (va_recv hK hP (ci := 5) (q0 := 0) rfl rfl) rfl hl rfl (Nat.le_of_ble_eq_true rfl) d_Model_call_16 (fun s4 hm => ?_)
  intro H locs ls hP hD hS hl
  refine lv_aload_n hx hb d_Model_call_19 rfl (lv_at hl 0 rfl) ?_
  refine lv_dup hx hb d_Model_call_20 rfl ?_
  refine va_get (D := D) (ci := 5) (v := .int (s4 19 13)) (C := R_Model) (T := T_Model) (N := 36) hx hb hts in_Model hown hK hP 0 rfl rfl 32 (by decide) (hts _ wd523) (fun _ h9 => h9) rfl d_Model_call_21 ?_
  refine lv_iconst (v := 1) hx hb d_Model_call_24 (by decide) ?_
  refine lv_iadd hx hb d_Model_call_25 ?_
  refine va_put (D := D) (ci := 5) (v := .int ((s4 19 13) + (1 : Int32))) (ty := .int) (C := R_Model) (T := T_Model) (N := 36) hx hb hts in_Model t_Model to_Model no_Model hown hK hP hD hS 0 rfl rfl 32 (by decide) (hts _ wd523) (fun _ h9 => h9) rfl (by decide +kernel) rfl rfl (Nat.le_of_ble_eq_true rfl) d_Model_call_26 (fun H locs hP hD hS => ?_)
  have hP : va_P D vwCl (wM ad ca (su s4 19 13 ((s4 19 13) + (1 : Int32)))) H := hP
  have hD : va_D A (wM ad ca (su s4 19 13 ((s4 19 13) + (1 : Int32)))) := hD
  obtain ⟨s5, es5⟩ : ∃ z : St, z = su s4 19 13 ((s4 19 13) + (1 : Int32)) := ⟨_, rfl⟩
  rw [← es5] at hP hD
  replace hm := hm s5 es5
  exact rt_v hx hb hr hlocks hK hP hD hS d_Model_call_29 hm
set_option maxHeartbeats 4000000 in
set_option maxRecDepth 100000 in
theorem c_Model_twice (l : Launch) (D : va_G) (ad : Nat → Nat) (ca : Nat → ClassId) (sz : Nat) (s : St) (a1 : Int32) (Post : St → Prop) (hm : x_Model_twice s a1 Post) : CtV l y_Model_twice w_Model_twice { frames := 2, cells := 0, slots := 0, locals := 44 } D vwCl (tyM ca) (wM ad ca) sz [.ref (ad 0), .int a1] s Post := by
  refine ct_v (cc := prog_8_method_30_code) (maxL := 2) (ret := none) (by decide) rfl (Nat.le_of_ble_eq_true rfl) ?_
  intro p e s0 m args below meth c A hx hb hr hts hown hlocks hml hK hA
  have hown : s0.vm.findClass R_Model = some m.cls := hown
  intro H locs ls hP hD hS hl
  have hl : lv_has ls 2 [(0, .ref (ad 0)), (1, .int a1)] := hl
  unfold x_Model_twice at hm
  refine lv_aload_n hx hb d_Model_twice_0 rfl (lv_at hl 0 rfl) ?_
  refine lv_bipush (v := 89) hx hb d_Model_twice_1 (by decide) ?_
  refine lv_iconst (v := 1) hx hb d_Model_twice_3 (by decide) ?_
  refine cg_Vv (b := (ad 0)) (As := [.int (89 : Int32), .int (1 : Int32)]) (rest := []) ⟨hx, hb, hml, hown, hts⟩ hK hP hD hS hA (c_Model_put l D ad ca H.size s (89 : Int32) (1 : Int32) _ hm) (cwA 2 hts wd712 wd7 wd709 wd711 ws39 (by decide +kernel) ⟨Nat.le_of_ble_eq_true rfl, Nat.le_of_ble_eq_true rfl⟩) (va_recv hK hP (ci := 5) (q0 := 0) rfl rfl) rfl hl rfl (Nat.le_of_ble_eq_true rfl) d_Model_twice_4 (fun s2 hm => ?_)
  intro H locs ls hP hD hS hl
  refine lv_aload_n hx hb d_Model_twice_7 rfl (lv_at hl 0 rfl) ?_
  refine lv_dup hx hb d_Model_twice_8 rfl ?_
  refine va_get (D := D) (ci := 5) (v := .int (s2 19 14)) (C := R_Model) (T := T_Model) (N := 36) hx hb hts in_Model hown hK hP 0 rfl rfl 33 (by decide) (hts _ wd524) (fun _ h9 => h9) rfl d_Model_twice_9 ?_
  refine lv_iconst (v := 1) hx hb d_Model_twice_12 (by decide) ?_
  refine lv_iadd hx hb d_Model_twice_13 ?_
  refine va_put (D := D) (ci := 5) (v := .int ((s2 19 14) + (1 : Int32))) (ty := .int) (C := R_Model) (T := T_Model) (N := 36) hx hb hts in_Model t_Model to_Model no_Model hown hK hP hD hS 0 rfl rfl 33 (by decide) (hts _ wd524) (fun _ h9 => h9) rfl (by decide +kernel) rfl rfl (Nat.le_of_ble_eq_true rfl) d_Model_twice_14 (fun H locs hP hD hS => ?_)
  have hP : va_P D vwCl (wM ad ca (su s2 19 14 ((s2 19 14) + (1 : Int32)))) H := hP
  have hD : va_D A (wM ad ca (su s2 19 14 ((s2 19 14) + (1 : Int32)))) := hD
  obtain ⟨s3, es3⟩ : ∃ z : St, z = su s2 19 14 ((s2 19 14) + (1 : Int32)) := ⟨_, rfl⟩
  rw [← es3] at hP hD
  replace hm := hm s3 es3
  refine lv_aload_n hx hb d_Model_twice_17 rfl (lv_at hl 0 rfl) ?_
  refine lv_iload_n hx hb d_Model_twice_18 rfl (lv_at hl 1 rfl) ?_
  refine cg_Vv (b := (ad 0)) (As := [.int a1]) (rest := []) ⟨hx, hb, hml, hown, hts⟩ hK hP hD hS hA (c_Model_call l D ad ca H.size s3 a1 _ hm) (cwA 1 hts wd708 wd7 wd705 wd707 ws38 (by decide +kernel) ⟨Nat.le_of_ble_eq_true rfl, Nat.le_of_ble_eq_true rfl⟩) (va_recv hK hP (ci := 5) (q0 := 0) rfl rfl) rfl hl rfl (Nat.le_of_ble_eq_true rfl) d_Model_twice_19 (fun s5 hm => ?_)
  intro H locs ls hP hD hS hl
  exact rt_v hx hb hr hlocks hK hP hD hS d_Model_twice_22 hm
set_option maxHeartbeats 4000000 in
set_option maxRecDepth 100000 in
theorem c_Model_table (l : Launch) (D : va_G) (ad : Nat → Nat) (ca : Nat → ClassId) (sz : Nat) (s : St) (a1 : Int32) (a2 : Int32) (a3 : Int32) (a4 : Int32) (Post : St → Prop) (hm : x_Model_table s a1 a2 a3 a4 Post) : CtV l y_Model_table w_Model_table { frames := 4, cells := 0, slots := 0, locals := 91 } D vwCl (tyM ca) (wM ad ca) sz [.ref (ad 0), .int a1, .int a2, .int a3, .int a4] s Post := by
  refine ct_v (cc := prog_8_method_34_code) (maxL := 9) (ret := none) (by decide) rfl (Nat.le_of_ble_eq_true rfl) ?_
  intro p e s0 m args below meth c A hx hb hr hts hown hlocks hml hK hA
  have hown : s0.vm.findClass R_Model = some m.cls := hown
  have B124 : ∀ (K92 : St → Int32 → Int32 → Int32 → Int32 → Int32 → Prop) (hK92 : ∀ (s : St) (x1 : Int32) (x2 : Int32) (x4 : Int32) (x7 : Int32) (x8 : Int32), K92 s x1 x2 x4 x7 x8 → Bk D vwCl (wM ad ca) A p l e { frames := 4, cells := 0, slots := 0, locals := 91 } s0 m args below meth c (MQ below (va_Qv Post (atG D vwCl (tyM ca) (wM ad ca) A) A) args s0 0 0 A) 9 92 s [(0, .ref (ad 0)), (1, .int x1), (2, .int x2), (4, .int x4), (7, .int x7), (8, .int x8)] []) (s : St) (x1 : Int32) (x2 : Int32) (x4 : Int32) (x7 : Int32) (x8 : Int32), x_Model_table_124 K92 Post s x1 x2 x4 x7 x8 → Bk D vwCl (wM ad ca) A p l e { frames := 4, cells := 0, slots := 0, locals := 91 } s0 m args below meth c (MQ below (va_Qv Post (atG D vwCl (tyM ca) (wM ad ca) A) A) args s0 0 0 A) 9 124 s [(0, .ref (ad 0)), (1, .int x1), (2, .int x2), (4, .int x4), (7, .int x7), (8, .int x8)] [] := by
    intro K92 hK92 s x1 x2 x4 x7 x8 hm H locs ls hP hD hS hl
    unfold x_Model_table_124 at hm
    refine lv_aload_n hx hb d_Model_table_124 rfl (lv_at hl 0 rfl) ?_
    refine lv_iload_n hx hb d_Model_table_125 rfl (lv_at hl 1 rfl) ?_
    refine lv_iload hx hb d_Model_table_126 (lv_at hl 5 rfl) ?_
    refine cg_Vi (b := (ad 0)) (As := [.int x1, .int x8]) (rest := []) ⟨hx, hb, hml, hown, hts⟩ hK hP hD hS hA (c_Model_goal l D ad ca H.size s x1 x8 _ hm) (cwA 2 hts wd666 wd7 wd663 wd665 ws29 (by decide +kernel) ⟨Nat.le_of_ble_eq_true rfl, Nat.le_of_ble_eq_true rfl⟩) (va_recv hK hP (ci := 5) (q0 := 0) rfl rfl) rfl hl rfl (Nat.le_of_ble_eq_true rfl) d_Model_table_128 (fun r31 s32 hm => ?_)
    intro H locs ls hP hD hS hl
    refine lv_istore (lv' := [(6, .int r31), (0, .ref (ad 0)), (1, .int x1), (2, .int x2), (4, .int x4), (7, .int x7), (8, .int x8)]) hx hb d_Model_table_131 hl (by decide) rfl (fun ls hl => ?_)
    refine lv_aload_n hx hb d_Model_table_133 rfl (lv_at hl 1 rfl) ?_
    refine lv_aload_n hx hb d_Model_table_134 rfl (lv_at hl 1 rfl) ?_
    refine lv_iload hx hb d_Model_table_135 (lv_at hl 0 rfl) ?_
    refine cg_Vi (b := (ad 0)) (As := [.int r31]) (rest := [.ref (ad 0)]) ⟨hx, hb, hml, hown, hts⟩ hK hP hD hS hA (c_Model_front l D ad ca H.size s32 r31 _ hm) (cwA 1 hts wd700 wd7 wd697 wd699 ws36 (by decide +kernel) ⟨Nat.le_of_ble_eq_true rfl, Nat.le_of_ble_eq_true rfl⟩) (va_recv hK hP (ci := 5) (q0 := 0) rfl rfl) rfl hl rfl (Nat.le_of_ble_eq_true rfl) d_Model_table_137 (fun r33 s34 hm => ?_)
    intro H locs ls hP hD hS hl
    refine lv_iload hx hb d_Model_table_140 (lv_at hl 4 rfl) ?_
    refine lv_isub hx hb d_Model_table_142 ?_
    refine lv_iconst (v := 4) hx hb d_Model_table_143 (by decide) ?_
    refine cg_Vv (b := (ad 0)) (As := [.int (r33 - x4), .int (4 : Int32)]) (rest := []) ⟨hx, hb, hml, hown, hts⟩ hK hP hD hS hA (c_Model_put l D ad ca H.size s34 (r33 - x4) (4 : Int32) _ hm) (cwA 2 hts wd712 wd7 wd709 wd711 ws39 (by decide +kernel) ⟨Nat.le_of_ble_eq_true rfl, Nat.le_of_ble_eq_true rfl⟩) (va_recv hK hP (ci := 5) (q0 := 0) rfl rfl) rfl hl rfl (Nat.le_of_ble_eq_true rfl) d_Model_table_144 (fun s36 hm => ?_)
    intro H locs ls hP hD hS hl
    obtain ⟨v37, ev37⟩ : ∃ y : Int32, y = x8 + 1 := ⟨_, rfl⟩
    replace hm := hm v37 ev37
    refine lv_iinc (v := v37) (lv' := [(8, .int v37), (6, .int r31), (0, .ref (ad 0)), (1, .int x1), (2, .int x2), (4, .int x4), (7, .int x7)]) hx hb d_Model_table_147 hl (k := 6) rfl (by rw [ev37]; rfl) (by decide) rfl (fun ls hl => ?_)
    refine lv_goto (tgt := 92) hx hb d_Model_table_150 (by decide) ?_
    exact hK92 s36 x1 x2 x4 x7 v37 hm H locs ls hP hD hS (lv_sub hl [2, 3, 4, 5, 6, 0] rfl)
  have B92 : ∀ (n : Nat) (s : St) (x1 : Int32) (x2 : Int32) (x4 : Int32) (x7 : Int32) (x8 : Int32), x_Model_table_92  Post n s x1 x2 x4 x7 x8 → Bk D vwCl (wM ad ca) A p l e { frames := 4, cells := 0, slots := 0, locals := 91 } s0 m args below meth c (MQ below (va_Qv Post (atG D vwCl (tyM ca) (wM ad ca) A) A) args s0 0 0 A) 9 92 s [(0, .ref (ad 0)), (1, .int x1), (2, .int x2), (4, .int x4), (7, .int x7), (8, .int x8)] [] := by
    intro  n92
    induction n92 with
    | zero => intro s x1 x2 x4 x7 x8 hm; exact hm.elim
    | succ n92 hK92 =>
      intro s x1 x2 x4 x7 x8 hm H locs ls hP hD hS hl
      have hm : x_Model_table_92F  Post (fun s x1 x2 x4 x7 x8 => x_Model_table_92  Post n92 s x1 x2 x4 x7 x8) s x1 x2 x4 x7 x8 := hm
      unfold x_Model_table_92F at hm
      refine lv_iload hx hb d_Model_table_92 (lv_at hl 5 rfl) ?_
      refine lv_iload hx hb d_Model_table_94 (lv_at hl 4 rfl) ?_
      refine lv_icmp_ge (tgt := 153) hx hb d_Model_table_96 (by decide) (fun c23 => ?_) (fun c23 => ?_)
      · replace hm := hm.1 c23
        exact rt_v hx hb hr hlocks hK hP hD hS d_Model_table_153 hm
      · replace hm := hm.2 c23
        refine lv_iload_n hx hb d_Model_table_99 rfl (lv_at hl 2 rfl) ?_
        refine lv_sipush (v := 171) hx hb d_Model_table_100 (by decide) ?_
        refine lv_icmp_ne (tgt := 124) hx hb d_Model_table_103 (by decide) (fun c24 => ?_) (fun c24 => ?_)
        · replace hm := hm.1 c24
          exact B124 (fun s x1 x2 x4 x7 x8 => x_Model_table_92  Post n92 s x1 x2 x4 x7 x8) hK92 s x1 x2 x4 x7 x8 hm H locs ls hP hD hS (lv_sub hl [0, 1, 2, 3, 4, 5] rfl)
        · replace hm := hm.2 c24
          refine lv_aload_n hx hb d_Model_table_106 rfl (lv_at hl 0 rfl) ?_
          refine lv_aload_n hx hb d_Model_table_107 rfl (lv_at hl 0 rfl) ?_
          refine lv_aload_n hx hb d_Model_table_108 rfl (lv_at hl 0 rfl) ?_
          refine lv_iload_n hx hb d_Model_table_109 rfl (lv_at hl 1 rfl) ?_
          refine lv_iload hx hb d_Model_table_110 (lv_at hl 5 rfl) ?_
          refine cg_Vi (b := (ad 0)) (As := [.int x1, .int x8]) (rest := [.ref (ad 0), .ref (ad 0)]) ⟨hx, hb, hml, hown, hts⟩ hK hP hD hS hA (c_Model_placeOfGoal l D ad ca H.size s x1 x8 _ hm) (cwA 2 hts wd670 wd7 wd667 wd669 ws30 (by decide +kernel) ⟨Nat.le_of_ble_eq_true rfl, Nat.le_of_ble_eq_true rfl⟩) (va_recv hK hP (ci := 5) (q0 := 0) rfl rfl) rfl hl rfl (Nat.le_of_ble_eq_true rfl) d_Model_table_112 (fun r25 s26 hm => ?_)
          intro H locs ls hP hD hS hl
          refine lv_iconst (v := 4) hx hb d_Model_table_115 (by decide) ?_
          refine lv_isub hx hb d_Model_table_116 ?_
          refine cg_Vi (b := (ad 0)) (As := [.int (r25 - (4 : Int32))]) (rest := [.ref (ad 0)]) ⟨hx, hb, hml, hown, hts⟩ hK hP hD hS hA (c_Model_s4 l D ad ca H.size s26 (r25 - (4 : Int32)) _ hm) (cwA 1 hts wd654 wd7 wd651 wd653 ws27 (by decide +kernel) ⟨Nat.le_of_ble_eq_true rfl, Nat.le_of_ble_eq_true rfl⟩) (va_recv hK hP (ci := 5) (q0 := 0) rfl rfl) rfl hl rfl (Nat.le_of_ble_eq_true rfl) d_Model_table_117 (fun r27 s28 hm => ?_)
          intro H locs ls hP hD hS hl
          refine lv_iconst (v := 4) hx hb d_Model_table_120 (by decide) ?_
          refine cg_Vv (b := (ad 0)) (As := [.int r27, .int (4 : Int32)]) (rest := []) ⟨hx, hb, hml, hown, hts⟩ hK hP hD hS hA (c_Model_put l D ad ca H.size s28 r27 (4 : Int32) _ hm) (cwA 2 hts wd712 wd7 wd709 wd711 ws39 (by decide +kernel) ⟨Nat.le_of_ble_eq_true rfl, Nat.le_of_ble_eq_true rfl⟩) (va_recv hK hP (ci := 5) (q0 := 0) rfl rfl) rfl hl rfl (Nat.le_of_ble_eq_true rfl) d_Model_table_121 (fun s30 hm => ?_)
          intro H locs ls hP hD hS hl
          exact B124 (fun s x1 x2 x4 x7 x8 => x_Model_table_92  Post n92 s x1 x2 x4 x7 x8) hK92 s30 x1 x2 x4 x7 x8 hm H locs ls hP hD hS (lv_sub hl [0, 1, 2, 3, 4, 5] rfl)
  have B89 : ∀ (s : St) (x1 : Int32) (x2 : Int32) (x4 : Int32) (x7 : Int32), x_Model_table_89  Post s x1 x2 x4 x7 → Bk D vwCl (wM ad ca) A p l e { frames := 4, cells := 0, slots := 0, locals := 91 } s0 m args below meth c (MQ below (va_Qv Post (atG D vwCl (tyM ca) (wM ad ca) A) A) args s0 0 0 A) 9 89 s [(0, .ref (ad 0)), (1, .int x1), (2, .int x2), (4, .int x4), (7, .int x7)] [] := by
    intro  s x1 x2 x4 x7 hm H locs ls hP hD hS hl
    unfold x_Model_table_89 at hm
    refine lv_iconst (v := 1) hx hb d_Model_table_89 (by decide) ?_
    refine lv_istore (lv' := [(8, .int (1 : Int32)), (0, .ref (ad 0)), (1, .int x1), (2, .int x2), (4, .int x4), (7, .int x7)]) hx hb d_Model_table_90 hl (by decide) rfl (fun ls hl => ?_)
    obtain ⟨n92, hm⟩ := hm
    exact B92  n92 s x1 x2 x4 x7 (1 : Int32) hm H locs ls hP hD hS (lv_sub hl [1, 2, 3, 4, 5, 0] rfl)
  intro H locs ls hP hD hS hl
  have hl : lv_has ls 9 [(0, .ref (ad 0)), (1, .int a1), (2, .int a2), (3, .int a3), (4, .int a4)] := hl
  unfold x_Model_table at hm
  refine lv_iload_n hx hb d_Model_table_0 rfl (lv_at hl 1 rfl) ?_
  refine lv_iconst (v := 4) hx hb d_Model_table_1 (by decide) ?_
  refine lv_iadd hx hb d_Model_table_2 ?_
  refine lv_iload_n hx hb d_Model_table_3 rfl (lv_at hl 1 rfl) ?_
  refine lv_iconst (v := 4) hx hb d_Model_table_4 (by decide) ?_
  refine lv_irem hx hb d_Model_table_5 (by decide) ?_
  refine lv_isub hx hb d_Model_table_6 ?_
  refine lv_topi (fun v1 ev1 => ?_)
  replace hm := hm v1 ev1
  refine lv_istore (lv' := [(5, .int v1), (0, .ref (ad 0)), (1, .int a1), (2, .int a2), (3, .int a3), (4, .int a4)]) hx hb d_Model_table_7 hl (by decide) rfl (fun ls hl => ?_)
  refine lv_aload_n hx hb d_Model_table_9 rfl (lv_at hl 1 rfl) ?_
  refine lv_iload_n hx hb d_Model_table_10 rfl (lv_at hl 2 rfl) ?_
  refine lv_iconst (v := 0) hx hb d_Model_table_11 (by decide) ?_
  refine cg_Vi (b := (ad 0)) (As := [.int a1, .int (0 : Int32)]) (rest := []) ⟨hx, hb, hml, hown, hts⟩ hK hP hD hS hA (c_Model_goal l D ad ca H.size s a1 (0 : Int32) _ hm) (cwA 2 hts wd666 wd7 wd663 wd665 ws29 (by decide +kernel) ⟨Nat.le_of_ble_eq_true rfl, Nat.le_of_ble_eq_true rfl⟩) (va_recv hK hP (ci := 5) (q0 := 0) rfl rfl) rfl hl rfl (Nat.le_of_ble_eq_true rfl) d_Model_table_12 (fun r2 s3 hm => ?_)
  intro H locs ls hP hD hS hl
  refine lv_istore (lv' := [(6, .int r2), (5, .int v1), (0, .ref (ad 0)), (1, .int a1), (2, .int a2), (3, .int a3), (4, .int a4)]) hx hb d_Model_table_15 hl (by decide) rfl (fun ls hl => ?_)
  refine lv_aload_n hx hb d_Model_table_17 rfl (lv_at hl 2 rfl) ?_
  refine lv_iload_n hx hb d_Model_table_18 rfl (lv_at hl 3 rfl) ?_
  refine cg_Vi (b := (ad 0)) (As := [.int a1]) (rest := []) ⟨hx, hb, hml, hown, hts⟩ hK hP hD hS hA (c_Model_goals l D ad ca H.size s3 a1 _ hm) (cwA 1 hts wd659 wd7 wd656 wd658 ws28 (by decide +kernel) ⟨Nat.le_of_ble_eq_true rfl, Nat.le_of_ble_eq_true rfl⟩) (va_recv hK hP (ci := 5) (q0 := 0) rfl rfl) rfl hl rfl (Nat.le_of_ble_eq_true rfl) d_Model_table_19 (fun r4 s5 hm => ?_)
  intro H locs ls hP hD hS hl
  refine lv_istore (lv' := [(7, .int r4), (6, .int r2), (5, .int v1), (0, .ref (ad 0)), (1, .int a1), (2, .int a2), (3, .int a3), (4, .int a4)]) hx hb d_Model_table_22 hl (by decide) rfl (fun ls hl => ?_)
  refine lv_aload_n hx hb d_Model_table_24 rfl (lv_at hl 3 rfl) ?_
  refine lv_iload_n hx hb d_Model_table_25 rfl (lv_at hl 5 rfl) ?_
  refine lv_iconst (v := 1) hx hb d_Model_table_26 (by decide) ?_
  refine cg_Vv (b := (ad 0)) (As := [.int a2, .int (1 : Int32)]) (rest := []) ⟨hx, hb, hml, hown, hts⟩ hK hP hD hS hA (c_Model_put l D ad ca H.size s5 a2 (1 : Int32) _ hm) (cwA 2 hts wd712 wd7 wd709 wd711 ws39 (by decide +kernel) ⟨Nat.le_of_ble_eq_true rfl, Nat.le_of_ble_eq_true rfl⟩) (va_recv hK hP (ci := 5) (q0 := 0) rfl rfl) rfl hl rfl (Nat.le_of_ble_eq_true rfl) d_Model_table_27 (fun s7 hm => ?_)
  intro H locs ls hP hD hS hl
  refine lv_aload_n hx hb d_Model_table_30 rfl (lv_at hl 3 rfl) ?_
  refine lv_iconst (v := 0) hx hb d_Model_table_31 (by decide) ?_
  refine lv_iconst (v := 3) hx hb d_Model_table_32 (by decide) ?_
  refine lv_iload hx hb d_Model_table_33 (lv_at hl 7 rfl) ?_
  refine lv_iconst (v := 4) hx hb d_Model_table_35 (by decide) ?_
  refine lv_irem hx hb d_Model_table_36 (by decide) ?_
  refine lv_isub hx hb d_Model_table_37 ?_
  refine cg_Vv (b := (ad 0)) (As := [.int (0 : Int32), .int ((3 : Int32) - (a4 - a4 / (4 : Int32) * (4 : Int32)))]) (rest := []) ⟨hx, hb, hml, hown, hts⟩ hK hP hD hS hA (c_Model_put l D ad ca H.size s7 (0 : Int32) ((3 : Int32) - (a4 - a4 / (4 : Int32) * (4 : Int32))) _ hm) (cwA 2 hts wd712 wd7 wd709 wd711 ws39 (by decide +kernel) ⟨Nat.le_of_ble_eq_true rfl, Nat.le_of_ble_eq_true rfl⟩) (va_recv hK hP (ci := 5) (q0 := 0) rfl rfl) rfl hl rfl (Nat.le_of_ble_eq_true rfl) d_Model_table_38 (fun s9 hm => ?_)
  intro H locs ls hP hD hS hl
  refine lv_aload_n hx hb d_Model_table_41 rfl (lv_at hl 3 rfl) ?_
  refine lv_aload_n hx hb d_Model_table_42 rfl (lv_at hl 3 rfl) ?_
  refine lv_iload hx hb d_Model_table_43 (lv_at hl 1 rfl) ?_
  refine cg_Vi (b := (ad 0)) (As := [.int r2]) (rest := [.ref (ad 0)]) ⟨hx, hb, hml, hown, hts⟩ hK hP hD hS hA (c_Model_front l D ad ca H.size s9 r2 _ hm) (cwA 1 hts wd700 wd7 wd697 wd699 ws36 (by decide +kernel) ⟨Nat.le_of_ble_eq_true rfl, Nat.le_of_ble_eq_true rfl⟩) (va_recv hK hP (ci := 5) (q0 := 0) rfl rfl) rfl hl rfl (Nat.le_of_ble_eq_true rfl) d_Model_table_45 (fun r10 s11 hm => ?_)
  intro H locs ls hP hD hS hl
  refine lv_iload hx hb d_Model_table_48 (lv_at hl 7 rfl) ?_
  refine lv_isub hx hb d_Model_table_50 ?_
  refine lv_iconst (v := 4) hx hb d_Model_table_51 (by decide) ?_
  refine cg_Vv (b := (ad 0)) (As := [.int (r10 - a4), .int (4 : Int32)]) (rest := []) ⟨hx, hb, hml, hown, hts⟩ hK hP hD hS hA (c_Model_put l D ad ca H.size s11 (r10 - a4) (4 : Int32) _ hm) (cwA 2 hts wd712 wd7 wd709 wd711 ws39 (by decide +kernel) ⟨Nat.le_of_ble_eq_true rfl, Nat.le_of_ble_eq_true rfl⟩) (va_recv hK hP (ci := 5) (q0 := 0) rfl rfl) rfl hl rfl (Nat.le_of_ble_eq_true rfl) d_Model_table_52 (fun s13 hm => ?_)
  intro H locs ls hP hD hS hl
  refine lv_aload_n hx hb d_Model_table_55 rfl (lv_at hl 3 rfl) ?_
  refine lv_aload_n hx hb d_Model_table_56 rfl (lv_at hl 3 rfl) ?_
  refine lv_iload hx hb d_Model_table_57 (lv_at hl 2 rfl) ?_
  refine lv_iconst (v := 4) hx hb d_Model_table_59 (by decide) ?_
  refine lv_iadd hx hb d_Model_table_60 ?_
  refine cg_Vi (b := (ad 0)) (As := [.int (v1 + (4 : Int32))]) (rest := [.ref (ad 0)]) ⟨hx, hb, hml, hown, hts⟩ hK hP hD hS hA (c_Model_s4 l D ad ca H.size s13 (v1 + (4 : Int32)) _ hm) (cwA 1 hts wd654 wd7 wd651 wd653 ws27 (by decide +kernel) ⟨Nat.le_of_ble_eq_true rfl, Nat.le_of_ble_eq_true rfl⟩) (va_recv hK hP (ci := 5) (q0 := 0) rfl rfl) rfl hl rfl (Nat.le_of_ble_eq_true rfl) d_Model_table_61 (fun r14 s15 hm => ?_)
  intro H locs ls hP hD hS hl
  refine lv_iconst (v := 4) hx hb d_Model_table_64 (by decide) ?_
  refine cg_Vv (b := (ad 0)) (As := [.int r14, .int (4 : Int32)]) (rest := []) ⟨hx, hb, hml, hown, hts⟩ hK hP hD hS hA (c_Model_put l D ad ca H.size s15 r14 (4 : Int32) _ hm) (cwA 2 hts wd712 wd7 wd709 wd711 ws39 (by decide +kernel) ⟨Nat.le_of_ble_eq_true rfl, Nat.le_of_ble_eq_true rfl⟩) (va_recv hK hP (ci := 5) (q0 := 0) rfl rfl) rfl hl rfl (Nat.le_of_ble_eq_true rfl) d_Model_table_65 (fun s17 hm => ?_)
  intro H locs ls hP hD hS hl
  refine lv_iload_n hx hb d_Model_table_68 rfl (lv_at hl 5 rfl) ?_
  refine lv_sipush (v := 170) hx hb d_Model_table_69 (by decide) ?_
  refine lv_icmp_ne (tgt := 89) hx hb d_Model_table_72 (by decide) (fun c18 => ?_) (fun c18 => ?_)
  · replace hm := hm.1 c18
    exact B89  s17 a1 a2 a4 r4 hm H locs ls hP hD hS (lv_sub hl [3, 4, 5, 7, 0] rfl)
  · replace hm := hm.2 c18
    refine lv_aload_n hx hb d_Model_table_75 rfl (lv_at hl 3 rfl) ?_
    refine lv_aload_n hx hb d_Model_table_76 rfl (lv_at hl 3 rfl) ?_
    refine lv_iload hx hb d_Model_table_77 (lv_at hl 2 rfl) ?_
    refine lv_bipush (v := 8) hx hb d_Model_table_79 (by decide) ?_
    refine lv_iadd hx hb d_Model_table_81 ?_
    refine cg_Vi (b := (ad 0)) (As := [.int (v1 + (8 : Int32))]) (rest := [.ref (ad 0)]) ⟨hx, hb, hml, hown, hts⟩ hK hP hD hS hA (c_Model_s4 l D ad ca H.size s17 (v1 + (8 : Int32)) _ hm) (cwA 1 hts wd654 wd7 wd651 wd653 ws27 (by decide +kernel) ⟨Nat.le_of_ble_eq_true rfl, Nat.le_of_ble_eq_true rfl⟩) (va_recv hK hP (ci := 5) (q0 := 0) rfl rfl) rfl hl rfl (Nat.le_of_ble_eq_true rfl) d_Model_table_82 (fun r19 s20 hm => ?_)
    intro H locs ls hP hD hS hl
    refine lv_iconst (v := 4) hx hb d_Model_table_85 (by decide) ?_
    refine cg_Vv (b := (ad 0)) (As := [.int r19, .int (4 : Int32)]) (rest := []) ⟨hx, hb, hml, hown, hts⟩ hK hP hD hS hA (c_Model_put l D ad ca H.size s20 r19 (4 : Int32) _ hm) (cwA 2 hts wd712 wd7 wd709 wd711 ws39 (by decide +kernel) ⟨Nat.le_of_ble_eq_true rfl, Nat.le_of_ble_eq_true rfl⟩) (va_recv hK hP (ci := 5) (q0 := 0) rfl rfl) rfl hl rfl (Nat.le_of_ble_eq_true rfl) d_Model_table_86 (fun s22 hm => ?_)
    intro H locs ls hP hD hS hl
    exact B89  s22 a1 a2 a4 r4 hm H locs ls hP hD hS (lv_sub hl [3, 4, 5, 7, 0] rfl)
