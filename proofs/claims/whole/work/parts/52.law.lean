def x_Law_552 (L : Nat) (xs : Nat → Int32) (K18 : St × St → Int32 → Prop) (s : St × St) (x3 : Int32) : Prop :=
  ∀ v135 : Int32, v135 = x3 + 5 → K18 s v135
def x_Law_307 (L : Nat) (xs : Nat → Int32) (K18 : St × St → Int32 → Prop) (s : St × St) (x3 : Int32) (y0 : Int32) (y1 : Int32) (y3 : Int32) : Prop :=
  x_Model_mark s.2 y1 y0 (fun r132 s133 => (y3 = r132 → x_Law_552 L xs K18 (s.1, s133) x3) ∧ (¬ y3 = r132 → False))
def x_Law_285 (L : Nat) (xs : Nat → Int32) (K18 : St × St → Int32 → Prop) (s : St × St) (x3 : Int32) (y0 : Int32) (y1 : Int32) : Prop :=
  x_Desk_mark s.1 y1 y0 (fun r127 s128 => vp_in (x3 + (1 : Int32)) L ∧ vp_in (x3 + (2 : Int32)) L ∧ ((xs ((x3 + (2 : Int32))).toNatClampNeg) = 0 → x_Law_307 L xs K18 (s128, s.2) x3 (0 : Int32) (xs ((x3 + (1 : Int32))).toNatClampNeg) r127) ∧ (¬ (xs ((x3 + (2 : Int32))).toNatClampNeg) = 0 → x_Law_307 L xs K18 (s128, s.2) x3 (1 : Int32) (xs ((x3 + (1 : Int32))).toNatClampNeg) r127))
def x_Law_18F (L : Nat) (xs : Nat → Int32) (K18 : St × St → Int32 → Prop) (s : St × St) (x3 : Int32) : Prop :=
  (((Int32.ofNat L) - (5 : Int32)) < x3 → True) ∧ (¬ ((Int32.ofNat L) - (5 : Int32)) < x3 → vp_in x3 L ∧ (((xs (x3).toNatClampNeg) &&& (15 : Int32)) = 0 → vp_in (x3 + (1 : Int32)) L ∧ vp_in (x3 + (2 : Int32)) L ∧ vp_in (x3 + (3 : Int32)) L ∧ x_Desk_code s.1 ((((xs ((x3 + (1 : Int32))).toNatClampNeg)).toInt64 <<< (((32 : Int32)).toInt64 &&& 63)) ||| (((xs ((x3 + (2 : Int32))).toNatClampNeg)).toInt64 &&& (4294967295 : Int64))) (xs ((x3 + (3 : Int32))).toNatClampNeg) (fun r7 s8 => vp_in (x3 + (1 : Int32)) L ∧ vp_in (x3 + (2 : Int32)) L ∧ vp_in (x3 + (3 : Int32)) L ∧ x_Model_code s.2 ((((xs ((x3 + (1 : Int32))).toNatClampNeg)).toInt64 <<< (((32 : Int32)).toInt64 &&& 63)) ||| (((xs ((x3 + (2 : Int32))).toNatClampNeg)).toInt64 &&& (4294967295 : Int64))) (xs ((x3 + (3 : Int32))).toNatClampNeg) (fun r12 s13 => (r7 = r12 → x_Law_552 L xs K18 (s8, s13) x3) ∧ (¬ r7 = r12 → False)))) ∧ (((xs (x3).toNatClampNeg) &&& (15 : Int32)) = 1 → vp_in (x3 + (1 : Int32)) L ∧ vp_in (x3 + (2 : Int32)) L ∧ x_Desk_change s.1 (xs ((x3 + (1 : Int32))).toNatClampNeg) (xs ((x3 + (2 : Int32))).toNatClampNeg) (fun r18 s19 => vp_in (x3 + (1 : Int32)) L ∧ vp_in (x3 + (2 : Int32)) L ∧ x_Model_change s.2 (xs ((x3 + (1 : Int32))).toNatClampNeg) (xs ((x3 + (2 : Int32))).toNatClampNeg) (fun r22 s23 => (r18 = r22 → x_Law_552 L xs K18 (s19, s23) x3) ∧ (¬ r18 = r22 → False)))) ∧ (((xs (x3).toNatClampNeg) &&& (15 : Int32)) = 2 → x_Desk_clear s.1 (fun r26 s27 => x_Model_clear s.2 (fun r28 s29 => (r26 = r28 → x_Law_552 L xs K18 (s27, s29) x3) ∧ (¬ r26 = r28 → False)))) ∧ (((xs (x3).toNatClampNeg) &&& (15 : Int32)) = 3 → vp_in (x3 + (1 : Int32)) L ∧ vp_in (x3 + (2 : Int32)) L ∧ vp_in (x3 + (3 : Int32)) L ∧ vp_in (x3 + (4 : Int32)) L ∧ x_Desk_handler s.1 (xs ((x3 + (1 : Int32))).toNatClampNeg) (xs ((x3 + (2 : Int32))).toNatClampNeg) (xs ((x3 + (3 : Int32))).toNatClampNeg) (xs ((x3 + (4 : Int32))).toNatClampNeg) (fun r36 s37 => vp_in (x3 + (1 : Int32)) L ∧ vp_in (x3 + (2 : Int32)) L ∧ vp_in (x3 + (3 : Int32)) L ∧ vp_in (x3 + (4 : Int32)) L ∧ x_Model_handler s.2 (xs ((x3 + (1 : Int32))).toNatClampNeg) (xs ((x3 + (2 : Int32))).toNatClampNeg) (xs ((x3 + (3 : Int32))).toNatClampNeg) (xs ((x3 + (4 : Int32))).toNatClampNeg) (fun r42 s43 => (r36 = r42 → x_Law_552 L xs K18 (s37, s43) x3) ∧ (¬ r36 = r42 → False)))) ∧ (((xs (x3).toNatClampNeg) &&& (15 : Int32)) = 4 → vp_in (x3 + (1 : Int32)) L ∧ vp_in (x3 + (2 : Int32)) L ∧ ((xs ((x3 + (2 : Int32))).toNatClampNeg) = 0 → x_Law_285 L xs K18 s x3 (0 : Int32) (xs ((x3 + (1 : Int32))).toNatClampNeg)) ∧ (¬ (xs ((x3 + (2 : Int32))).toNatClampNeg) = 0 → x_Law_285 L xs K18 s x3 (1 : Int32) (xs ((x3 + (1 : Int32))).toNatClampNeg))) ∧ (((xs (x3).toNatClampNeg) &&& (15 : Int32)) = 5 → vp_in (x3 + (1 : Int32)) L ∧ vp_in (x3 + (2 : Int32)) L ∧ x_Desk_cost s.1 (xs ((x3 + (1 : Int32))).toNatClampNeg) (xs ((x3 + (2 : Int32))).toNatClampNeg) (fun r52 s53 => vp_in (x3 + (1 : Int32)) L ∧ vp_in (x3 + (2 : Int32)) L ∧ x_Model_cost s.2 (xs ((x3 + (1 : Int32))).toNatClampNeg) (xs ((x3 + (2 : Int32))).toNatClampNeg) (fun r56 s57 => (r52 = r56 → x_Law_552 L xs K18 (s53, s57) x3) ∧ (¬ r52 = r56 → False)))) ∧ (((xs (x3).toNatClampNeg) &&& (15 : Int32)) = 6 → vp_in (x3 + (1 : Int32)) L ∧ vp_in (x3 + (2 : Int32)) L ∧ x_Desk_set s.1 (xs ((x3 + (1 : Int32))).toNatClampNeg) (xs ((x3 + (2 : Int32))).toNatClampNeg) (fun r62 s63 => vp_in (x3 + (1 : Int32)) L ∧ vp_in (x3 + (2 : Int32)) L ∧ x_Model_set s.2 (xs ((x3 + (1 : Int32))).toNatClampNeg) (xs ((x3 + (2 : Int32))).toNatClampNeg) (fun r66 s67 => (r62 = r66 → x_Law_552 L xs K18 (s63, s67) x3) ∧ (¬ r62 = r66 → False)))) ∧ (((xs (x3).toNatClampNeg) &&& (15 : Int32)) = 7 → x_Desk_rewrite s.1 (fun r70 s71 => x_Model_rewrite s.2 (fun r72 s73 => (r70 = r72 → x_Law_552 L xs K18 (s71, s73) x3) ∧ (¬ r70 = r72 → False)))) ∧ (((xs (x3).toNatClampNeg) &&& (15 : Int32)) = 8 → vp_in (x3 + (1 : Int32)) L ∧ x_Desk_octet s.1 (xs ((x3 + (1 : Int32))).toNatClampNeg) (fun r77 s78 => vp_in (x3 + (1 : Int32)) L ∧ x_Model_octet s.2 (xs ((x3 + (1 : Int32))).toNatClampNeg) (fun r80 s81 => (r77 = r80 → x_Law_552 L xs K18 (s78, s81) x3) ∧ (¬ r77 = r80 → False)))) ∧ (((xs (x3).toNatClampNeg) &&& (15 : Int32)) = 9 → vp_in (x3 + (1 : Int32)) L ∧ vp_in (x3 + (2 : Int32)) L ∧ x_Desk_moved s.1 (xs ((x3 + (1 : Int32))).toNatClampNeg) (xs ((x3 + (2 : Int32))).toNatClampNeg) (fun r86 s87 => vp_in (x3 + (1 : Int32)) L ∧ vp_in (x3 + (2 : Int32)) L ∧ x_Model_moved s.2 (xs ((x3 + (1 : Int32))).toNatClampNeg) (xs ((x3 + (2 : Int32))).toNatClampNeg) (fun r90 s91 => (r86 = r90 → x_Law_552 L xs K18 (s87, s91) x3) ∧ (¬ r86 = r90 → False)))) ∧ (((xs (x3).toNatClampNeg) &&& (15 : Int32)) = 10 → vp_in (x3 + (1 : Int32)) L ∧ x_Desk_back s.1 (xs ((x3 + (1 : Int32))).toNatClampNeg) (fun r95 s96 => vp_in (x3 + (1 : Int32)) L ∧ x_Model_back s.2 (xs ((x3 + (1 : Int32))).toNatClampNeg) (fun r98 s99 => (r95 = r98 → x_Law_552 L xs K18 (s96, s99) x3) ∧ (¬ r95 = r98 → False)))) ∧ (((xs (x3).toNatClampNeg) &&& (15 : Int32)) = 11 → vp_in (x3 + (1 : Int32)) L ∧ vp_in (x3 + (2 : Int32)) L ∧ x_Desk_guard s.1 (xs ((x3 + (1 : Int32))).toNatClampNeg) (xs ((x3 + (2 : Int32))).toNatClampNeg) (fun r104 s105 => vp_in (x3 + (1 : Int32)) L ∧ vp_in (x3 + (2 : Int32)) L ∧ x_Model_guard s.2 (xs ((x3 + (1 : Int32))).toNatClampNeg) (xs ((x3 + (2 : Int32))).toNatClampNeg) (fun r108 s109 => (r104 = r108 → x_Law_552 L xs K18 (s105, s109) x3) ∧ (¬ r104 = r108 → False)))) ∧ (((xs (x3).toNatClampNeg) &&& (15 : Int32)) = 12 → vp_in (x3 + (1 : Int32)) L ∧ x_Desk_about s.1 (xs ((x3 + (1 : Int32))).toNatClampNeg) (fun r113 s114 => vp_in (x3 + (1 : Int32)) L ∧ x_Model_about s.2 (xs ((x3 + (1 : Int32))).toNatClampNeg) (fun r116 s117 => (r113 = r116 → x_Law_552 L xs K18 (s114, s117) x3) ∧ (¬ r113 = r116 → False)))) ∧ (((xs (x3).toNatClampNeg) &&& (15 : Int32)) = 13 → vp_in (x3 + (1 : Int32)) L ∧ x_Desk_count s.1 (xs ((x3 + (1 : Int32))).toNatClampNeg) (fun r121 s122 => vp_in (x3 + (1 : Int32)) L ∧ x_Model_count s.2 (xs ((x3 + (1 : Int32))).toNatClampNeg) (fun r124 s125 => (r121 = r124 → x_Law_552 L xs K18 (s122, s125) x3) ∧ (¬ r121 = r124 → False)))) ∧ (¬ ((xs (x3).toNatClampNeg) &&& (15 : Int32)) = 0 → ¬ ((xs (x3).toNatClampNeg) &&& (15 : Int32)) = 1 → ¬ ((xs (x3).toNatClampNeg) &&& (15 : Int32)) = 2 → ¬ ((xs (x3).toNatClampNeg) &&& (15 : Int32)) = 3 → ¬ ((xs (x3).toNatClampNeg) &&& (15 : Int32)) = 4 → ¬ ((xs (x3).toNatClampNeg) &&& (15 : Int32)) = 5 → ¬ ((xs (x3).toNatClampNeg) &&& (15 : Int32)) = 6 → ¬ ((xs (x3).toNatClampNeg) &&& (15 : Int32)) = 7 → ¬ ((xs (x3).toNatClampNeg) &&& (15 : Int32)) = 8 → ¬ ((xs (x3).toNatClampNeg) &&& (15 : Int32)) = 9 → ¬ ((xs (x3).toNatClampNeg) &&& (15 : Int32)) = 10 → ¬ ((xs (x3).toNatClampNeg) &&& (15 : Int32)) = 11 → ¬ ((xs (x3).toNatClampNeg) &&& (15 : Int32)) = 12 → ¬ ((xs (x3).toNatClampNeg) &&& (15 : Int32)) = 13 → x_Law_552 L xs K18 s x3))
def x_Law_18 (L : Nat) (xs : Nat → Int32) (n : Nat) (s : St × St) (x3 : Int32) : Prop :=
  itr (α := (St × St) × Int32) (fun K a => x_Law_18F L xs (fun s x3 => K (s, x3)) a.1 a.2) n (s, x3)
set_option maxHeartbeats 4000000 in
set_option maxRecDepth 100000 in
theorem law_loop {p : Program} {l : Launch} {e : Env} {s0 : State} {m : MethodId} {below : List Frame} {meth : Method} {c : Code} {D : va_G} {aX aM : Nat → Nat} {cX cM : Nat → ClassId} {b L : Nat} {xs : Nat → Int32} (C0 : lw_At p s0 m meth c b L xs) (hKX : va_K D vwCl (tyX cX) s0) (hKM : va_K D vwCl (tyM cM) s0) : ∀ (n : Nat) (s : St × St) (x3 : Int32), x_Law_18 L xs n s x3 → BkL D vwCl (fun u : St × St => wX aX cX u.1 ++ wM aM cM u.2) (fun q : Nat => s0.heap.size ≤ q) p l e room_1 s0 m #[Value.ref b] below meth c (lw_Z below #[Value.ref b] s0) 4 18 s [(0, .ref b), (1, .ref (aX 0)), (2, .ref (aM 0)), (3, .int x3)] [] := by
  obtain ⟨hx, hb, hr, hml, hown, hts0, hX, hbl, hlocks, hgv⟩ := C0
  have hts : ∀ w ∈ tb, w.before #[Value.ref b] s0 = true := fun w h => hts0 w (List.mem_filter.mp h).1
  have hA : ∀ q : Nat, s0.heap.size ≤ q → (fun q : Nat => s0.heap.size ≤ q) q := fun _ h => h
  have hbA : ¬ (fun q : Nat => s0.heap.size ≤ q) b := Nat.not_le.mpr hbl
  have B552 : ∀ (K18 : St × St → Int32 → Prop) (hK18 : ∀ (s : St × St) (x3 : Int32), K18 s x3 → BkL D vwCl (fun u : St × St => wX aX cX u.1 ++ wM aM cM u.2) (fun q : Nat => s0.heap.size ≤ q) p l e room_1 s0 m #[Value.ref b] below meth c (lw_Z below #[Value.ref b] s0) 4 18 s [(0, .ref b), (1, .ref (aX 0)), (2, .ref (aM 0)), (3, .int x3)] []) (s : St × St) (x3 : Int32), x_Law_552 L xs K18 s x3 → BkL D vwCl (fun u : St × St => wX aX cX u.1 ++ wM aM cM u.2) (fun q : Nat => s0.heap.size ≤ q) p l e room_1 s0 m #[Value.ref b] below meth c (lw_Z below #[Value.ref b] s0) 4 552 s [(0, .ref b), (1, .ref (aX 0)), (2, .ref (aM 0)), (3, .int x3)] [] := by
    intro K18 hK18 s x3 hm H locs ls hP hD hS hl
    unfold x_Law_552 at hm
    obtain ⟨v135, ev135⟩ : ∃ y : Int32, y = x3 + 5 := ⟨_, rfl⟩
    replace hm := hm v135 ev135
    refine lv_iinc (v := v135) (lv' := [(3, .int v135), (0, .ref b), (1, .ref (aX 0)), (2, .ref (aM 0))]) hx hb d_Law_law_552 hl (k := 3) rfl (by rw [ev135]; rfl) (by decide) rfl (fun ls hl => ?_)
    refine lv_goto (tgt := 18) hx hb d_Law_law_555 (by decide) ?_
    exact hK18 s v135 hm H locs ls hP hD hS (lv_sub hl [1, 2, 3, 0] rfl)
  have B307 : ∀ (K18 : St × St → Int32 → Prop) (hK18 : ∀ (s : St × St) (x3 : Int32), K18 s x3 → BkL D vwCl (fun u : St × St => wX aX cX u.1 ++ wM aM cM u.2) (fun q : Nat => s0.heap.size ≤ q) p l e room_1 s0 m #[Value.ref b] below meth c (lw_Z below #[Value.ref b] s0) 4 18 s [(0, .ref b), (1, .ref (aX 0)), (2, .ref (aM 0)), (3, .int x3)] []) (s : St × St) (x3 : Int32) (y0 : Int32) (y1 : Int32) (y3 : Int32), x_Law_307 L xs K18 s x3 y0 y1 y3 → BkL D vwCl (fun u : St × St => wX aX cX u.1 ++ wM aM cM u.2) (fun q : Nat => s0.heap.size ≤ q) p l e room_1 s0 m #[Value.ref b] below meth c (lw_Z below #[Value.ref b] s0) 4 307 s [(0, .ref b), (1, .ref (aX 0)), (2, .ref (aM 0)), (3, .int x3)] [.int y0, .int y1, .ref (aM 0), .int y3] := by
    intro K18 hK18 s x3 y0 y1 y3 hm H locs ls hP hD hS hl
    unfold x_Law_307 at hm
    refine lc_M (w := wM aM cM) (v := wX aX cX s.1) (b := (aM 0)) (As := [.int y1, .int y0]) (rest := [.int y3]) ⟨hx, hb, hml, hown, hts⟩ hKM hP hD hS hA (c_Model_mark l D aM cM H.size s.2 y1 y0 _ hm) (cwA 2 hts wd623 wd7 wd620 wd621 wd622 (by decide +kernel) ⟨Nat.le_of_ble_eq_true rfl, Nat.le_of_ble_eq_true rfl⟩) (va_recv hKM hP (ci := 5) (q0 := 20) rfl rfl) rfl hl rfl (Nat.le_of_ble_eq_true rfl) d_Law_law_307 ⟨Nat.le_of_ble_eq_true rfl, Nat.le_of_ble_eq_true rfl⟩ (fun r132 s133 hm => ?_)
    intro H locs ls hP hD hS hl
    refine lv_icmp_eq (tgt := 552) hx hb d_Law_law_310 (by decide) (fun c134 => ?_) (fun c134 => ?_)
    · replace hm := hm.1 c134
      exact B552 K18 hK18 (s.1, s133) x3 hm H locs ls hP hD hS (lv_sub hl [0, 1, 2, 3] rfl)
    · replace hm := hm.2 c134
      refine lv_iconst (v := 0) hx hb d_Law_law_313 (by decide) ?_
      exact False.elim hm
  have B285 : ∀ (K18 : St × St → Int32 → Prop) (hK18 : ∀ (s : St × St) (x3 : Int32), K18 s x3 → BkL D vwCl (fun u : St × St => wX aX cX u.1 ++ wM aM cM u.2) (fun q : Nat => s0.heap.size ≤ q) p l e room_1 s0 m #[Value.ref b] below meth c (lw_Z below #[Value.ref b] s0) 4 18 s [(0, .ref b), (1, .ref (aX 0)), (2, .ref (aM 0)), (3, .int x3)] []) (s : St × St) (x3 : Int32) (y0 : Int32) (y1 : Int32), x_Law_285 L xs K18 s x3 y0 y1 → BkL D vwCl (fun u : St × St => wX aX cX u.1 ++ wM aM cM u.2) (fun q : Nat => s0.heap.size ≤ q) p l e room_1 s0 m #[Value.ref b] below meth c (lw_Z below #[Value.ref b] s0) 4 285 s [(0, .ref b), (1, .ref (aX 0)), (2, .ref (aM 0)), (3, .int x3)] [.int y0, .int y1, .ref (aX 0)] := by
    intro K18 hK18 s x3 y0 y1 hm H locs ls hP hD hS hl
    unfold x_Law_285 at hm
    refine lc_X (w := wX aX cX) (v := wM aM cM s.2) (b := (aX 0)) (As := [.int y1, .int y0]) (rest := []) ⟨hx, hb, hml, hown, hts⟩ hKX hP hD hS hA (c_Desk_mark l D aX cX H.size s.1 y1 y0 _ hm) (cwA 2 hts wd237 wd1 wd234 wd235 wd236 (by decide +kernel) ⟨Nat.le_of_ble_eq_true rfl, Nat.le_of_ble_eq_true rfl⟩) (va_recv hKX hP (ci := 0) (q0 := 0) rfl rfl) rfl hl rfl (Nat.le_of_ble_eq_true rfl) d_Law_law_285 ⟨Nat.le_of_ble_eq_true rfl, Nat.le_of_ble_eq_true rfl⟩ (fun r127 s128 hm => ?_)
    intro H locs ls hP hD hS hl
    refine lv_aload_n hx hb d_Law_law_288 rfl (lv_at hl 2 rfl) ?_
    refine lv_aload_n hx hb d_Law_law_289 rfl (lv_at hl 0 rfl) ?_
    refine lv_iload_n hx hb d_Law_law_290 rfl (lv_at hl 3 rfl) ?_
    refine lv_iconst (v := 1) hx hb d_Law_law_291 (by decide) ?_
    refine lv_iadd hx hb d_Law_law_292 ?_
    obtain ⟨h129, hm⟩ := hm
    refine va_sld hx hb hX hbl hbA hS h129 d_Law_law_293 ?_
    refine lv_aload_n hx hb d_Law_law_294 rfl (lv_at hl 0 rfl) ?_
    refine lv_iload_n hx hb d_Law_law_295 rfl (lv_at hl 3 rfl) ?_
    refine lv_iconst (v := 2) hx hb d_Law_law_296 (by decide) ?_
    refine lv_iadd hx hb d_Law_law_297 ?_
    obtain ⟨h130, hm⟩ := hm
    refine va_sld hx hb hX hbl hbA hS h130 d_Law_law_298 ?_
    refine lv_if_eq (tgt := 306) hx hb d_Law_law_299 (by decide) (fun c131 => ?_) (fun c131 => ?_)
    · replace hm := hm.1 c131
      refine lv_iconst (v := 0) hx hb d_Law_law_306 (by decide) ?_
      exact B307 K18 hK18 (s128, s.2) x3 (0 : Int32) (xs ((x3 + (1 : Int32))).toNatClampNeg) r127 hm H locs ls hP hD hS (lv_sub hl [0, 1, 2, 3] rfl)
    · replace hm := hm.2 c131
      refine lv_iconst (v := 1) hx hb d_Law_law_302 (by decide) ?_
      refine lv_goto (tgt := 307) hx hb d_Law_law_303 (by decide) ?_
      exact B307 K18 hK18 (s128, s.2) x3 (1 : Int32) (xs ((x3 + (1 : Int32))).toNatClampNeg) r127 hm H locs ls hP hD hS (lv_sub hl [0, 1, 2, 3] rfl)
  intro n18
  induction n18 with
  | zero => intro s x3 hm; exact False.elim hm
  | succ n18 hK18 =>
    intro s x3 hm H locs ls hP hD hS hl
    have hm : x_Law_18F L xs (fun s x3 => x_Law_18 L xs n18 s x3) s x3 := hm
    unfold x_Law_18F at hm
    refine lv_iload_n hx hb d_Law_law_18 rfl (lv_at hl 3 rfl) ?_
    refine lv_aload_n hx hb d_Law_law_19 rfl (lv_at hl 0 rfl) ?_
    refine va_slen hx hb hX hbl hbA hS d_Law_law_20 ?_
    refine lv_iconst (v := 5) hx hb d_Law_law_21 (by decide) ?_
    refine lv_isub hx hb d_Law_law_22 ?_
    refine lv_icmp_gt (tgt := 558) hx hb d_Law_law_23 (by decide) (fun c1 => ?_) (fun c1 => ?_)
    · replace hm := hm.1 c1
      refine lv_iconst (v := 1) hx hb d_Law_law_558 (by decide) ?_
      refine va_forget (fun q hq => hS.2.2 q hq) ?_
      exact lw_ret hx hb hr hlocks d_Law_law_559
    · replace hm := hm.2 c1
      refine lv_aload_n hx hb d_Law_law_26 rfl (lv_at hl 0 rfl) ?_
      refine lv_iload_n hx hb d_Law_law_27 rfl (lv_at hl 3 rfl) ?_
      obtain ⟨h2, hm⟩ := hm
      refine va_sld hx hb hX hbl hbA hS h2 d_Law_law_28 ?_
      refine lv_bipush (v := 15) hx hb d_Law_law_29 (by decide) ?_
      refine lv_iand hx hb d_Law_law_31 ?_
      by_cases c3 : ((xs (x3).toNatClampNeg) &&& (15 : Int32)) = 0
      · replace hm := hm.1 c3
        refine lv_tableIn (off := 72) (tgt := 104) hx hb d_Law_law_32 (by rw [c3]; decide) (by rw [c3]; decide) (by rw [c3]; rfl) (by decide) ?_
        refine lv_aload_n hx hb d_Law_law_104 rfl (lv_at hl 1 rfl) ?_
        refine lv_aload_n hx hb d_Law_law_105 rfl (lv_at hl 0 rfl) ?_
        refine lv_iload_n hx hb d_Law_law_106 rfl (lv_at hl 3 rfl) ?_
        refine lv_iconst (v := 1) hx hb d_Law_law_107 (by decide) ?_
        refine lv_iadd hx hb d_Law_law_108 ?_
        obtain ⟨h4, hm⟩ := hm
        refine va_sld hx hb hX hbl hbA hS h4 d_Law_law_109 ?_
        refine lv_i2l (v := ((xs ((x3 + (1 : Int32))).toNatClampNeg)).toInt64) hx hb d_Law_law_110 rfl ?_
        refine lv_bipush (v := 32) hx hb d_Law_law_111 (by decide) ?_
        refine lv_lshl (v := (((xs ((x3 + (1 : Int32))).toNatClampNeg)).toInt64 <<< (((32 : Int32)).toInt64 &&& 63))) hx hb d_Law_law_113 rfl ?_
        refine lv_aload_n hx hb d_Law_law_114 rfl (lv_at hl 0 rfl) ?_
        refine lv_iload_n hx hb d_Law_law_115 rfl (lv_at hl 3 rfl) ?_
        refine lv_iconst (v := 2) hx hb d_Law_law_116 (by decide) ?_
        refine lv_iadd hx hb d_Law_law_117 ?_
        obtain ⟨h5, hm⟩ := hm
        refine va_sld hx hb hX hbl hbA hS h5 d_Law_law_118 ?_
        refine lv_i2l (v := ((xs ((x3 + (2 : Int32))).toNatClampNeg)).toInt64) hx hb d_Law_law_119 rfl ?_
        refine lv_ldc2 (v := 4294967295) hx hb hown (hts _ wd752) d_Law_law_120 ?_
        refine lv_land hx hb d_Law_law_123 ?_
        refine lv_lor hx hb d_Law_law_124 ?_
        refine lv_aload_n hx hb d_Law_law_125 rfl (lv_at hl 0 rfl) ?_
        refine lv_iload_n hx hb d_Law_law_126 rfl (lv_at hl 3 rfl) ?_
        refine lv_iconst (v := 3) hx hb d_Law_law_127 (by decide) ?_
        refine lv_iadd hx hb d_Law_law_128 ?_
        obtain ⟨h6, hm⟩ := hm
        refine va_sld hx hb hX hbl hbA hS h6 d_Law_law_129 ?_
        refine lc_X (w := wX aX cX) (v := wM aM cM s.2) (b := (aX 0)) (As := [.long ((((xs ((x3 + (1 : Int32))).toNatClampNeg)).toInt64 <<< (((32 : Int32)).toInt64 &&& 63)) ||| (((xs ((x3 + (2 : Int32))).toNatClampNeg)).toInt64 &&& (4294967295 : Int64))), .int (xs ((x3 + (3 : Int32))).toNatClampNeg)]) (rest := []) ⟨hx, hb, hml, hown, hts⟩ hKX hP hD hS hA (c_Desk_code l D aX cX H.size s.1 ((((xs ((x3 + (1 : Int32))).toNatClampNeg)).toInt64 <<< (((32 : Int32)).toInt64 &&& 63)) ||| (((xs ((x3 + (2 : Int32))).toNatClampNeg)).toInt64 &&& (4294967295 : Int64))) (xs ((x3 + (3 : Int32))).toNatClampNeg) _ hm) (cwA 2 hts wd207 wd1 wd204 wd205 wd206 (by decide +kernel) ⟨Nat.le_of_ble_eq_true rfl, Nat.le_of_ble_eq_true rfl⟩) (va_recv hKX hP (ci := 0) (q0 := 0) rfl rfl) rfl hl rfl (Nat.le_of_ble_eq_true rfl) d_Law_law_130 ⟨Nat.le_of_ble_eq_true rfl, Nat.le_of_ble_eq_true rfl⟩ (fun r7 s8 hm => ?_)
        intro H locs ls hP hD hS hl
        refine lv_aload_n hx hb d_Law_law_133 rfl (lv_at hl 2 rfl) ?_
        refine lv_aload_n hx hb d_Law_law_134 rfl (lv_at hl 0 rfl) ?_
        refine lv_iload_n hx hb d_Law_law_135 rfl (lv_at hl 3 rfl) ?_
        refine lv_iconst (v := 1) hx hb d_Law_law_136 (by decide) ?_
        refine lv_iadd hx hb d_Law_law_137 ?_
        obtain ⟨h9, hm⟩ := hm
        refine va_sld hx hb hX hbl hbA hS h9 d_Law_law_138 ?_
        refine lv_i2l (v := ((xs ((x3 + (1 : Int32))).toNatClampNeg)).toInt64) hx hb d_Law_law_139 rfl ?_
        refine lv_bipush (v := 32) hx hb d_Law_law_140 (by decide) ?_
        refine lv_lshl (v := (((xs ((x3 + (1 : Int32))).toNatClampNeg)).toInt64 <<< (((32 : Int32)).toInt64 &&& 63))) hx hb d_Law_law_142 rfl ?_
        refine lv_aload_n hx hb d_Law_law_143 rfl (lv_at hl 0 rfl) ?_
        refine lv_iload_n hx hb d_Law_law_144 rfl (lv_at hl 3 rfl) ?_
        refine lv_iconst (v := 2) hx hb d_Law_law_145 (by decide) ?_
        refine lv_iadd hx hb d_Law_law_146 ?_
        obtain ⟨h10, hm⟩ := hm
        refine va_sld hx hb hX hbl hbA hS h10 d_Law_law_147 ?_
        refine lv_i2l (v := ((xs ((x3 + (2 : Int32))).toNatClampNeg)).toInt64) hx hb d_Law_law_148 rfl ?_
        refine lv_ldc2 (v := 4294967295) hx hb hown (hts _ wd752) d_Law_law_149 ?_
        refine lv_land hx hb d_Law_law_152 ?_
        refine lv_lor hx hb d_Law_law_153 ?_
        refine lv_aload_n hx hb d_Law_law_154 rfl (lv_at hl 0 rfl) ?_
        refine lv_iload_n hx hb d_Law_law_155 rfl (lv_at hl 3 rfl) ?_
        refine lv_iconst (v := 3) hx hb d_Law_law_156 (by decide) ?_
        refine lv_iadd hx hb d_Law_law_157 ?_
        obtain ⟨h11, hm⟩ := hm
        refine va_sld hx hb hX hbl hbA hS h11 d_Law_law_158 ?_
        refine lc_M (w := wM aM cM) (v := wX aX cX s8) (b := (aM 0)) (As := [.long ((((xs ((x3 + (1 : Int32))).toNatClampNeg)).toInt64 <<< (((32 : Int32)).toInt64 &&& 63)) ||| (((xs ((x3 + (2 : Int32))).toNatClampNeg)).toInt64 &&& (4294967295 : Int64))), .int (xs ((x3 + (3 : Int32))).toNatClampNeg)]) (rest := [.int r7]) ⟨hx, hb, hml, hown, hts⟩ hKM hP hD hS hA (c_Model_code l D aM cM H.size s.2 ((((xs ((x3 + (1 : Int32))).toNatClampNeg)).toInt64 <<< (((32 : Int32)).toInt64 &&& 63)) ||| (((xs ((x3 + (2 : Int32))).toNatClampNeg)).toInt64 &&& (4294967295 : Int64))) (xs ((x3 + (3 : Int32))).toNatClampNeg) _ hm) (cwA 2 hts wd603 wd7 wd600 wd601 wd602 (by decide +kernel) ⟨Nat.le_of_ble_eq_true rfl, Nat.le_of_ble_eq_true rfl⟩) (va_recv hKM hP (ci := 5) (q0 := 20) rfl rfl) rfl hl rfl (Nat.le_of_ble_eq_true rfl) d_Law_law_159 ⟨Nat.le_of_ble_eq_true rfl, Nat.le_of_ble_eq_true rfl⟩ (fun r12 s13 hm => ?_)
        intro H locs ls hP hD hS hl
        refine lv_icmp_eq (tgt := 552) hx hb d_Law_law_162 (by decide) (fun c14 => ?_) (fun c14 => ?_)
        · replace hm := hm.1 c14
          exact B552 (fun s x3 => x_Law_18 L xs n18 s x3) hK18 (s8, s13) x3 hm H locs ls hP hD hS (lv_sub hl [0, 1, 2, 3] rfl)
        · replace hm := hm.2 c14
          refine lv_iconst (v := 0) hx hb d_Law_law_165 (by decide) ?_
          exact False.elim hm
      by_cases c15 : ((xs (x3).toNatClampNeg) &&& (15 : Int32)) = 1
      · replace hm := hm.2.1 c15
        refine lv_tableIn (off := 135) (tgt := 167) hx hb d_Law_law_32 (by rw [c15]; decide) (by rw [c15]; decide) (by rw [c15]; rfl) (by decide) ?_
        refine lv_aload_n hx hb d_Law_law_167 rfl (lv_at hl 1 rfl) ?_
        refine lv_aload_n hx hb d_Law_law_168 rfl (lv_at hl 0 rfl) ?_
        refine lv_iload_n hx hb d_Law_law_169 rfl (lv_at hl 3 rfl) ?_
        refine lv_iconst (v := 1) hx hb d_Law_law_170 (by decide) ?_
        refine lv_iadd hx hb d_Law_law_171 ?_
        obtain ⟨h16, hm⟩ := hm
        refine va_sld hx hb hX hbl hbA hS h16 d_Law_law_172 ?_
        refine lv_aload_n hx hb d_Law_law_173 rfl (lv_at hl 0 rfl) ?_
        refine lv_iload_n hx hb d_Law_law_174 rfl (lv_at hl 3 rfl) ?_
        refine lv_iconst (v := 2) hx hb d_Law_law_175 (by decide) ?_
        refine lv_iadd hx hb d_Law_law_176 ?_
        obtain ⟨h17, hm⟩ := hm
        refine va_sld hx hb hX hbl hbA hS h17 d_Law_law_177 ?_
        refine lc_X (w := wX aX cX) (v := wM aM cM s.2) (b := (aX 0)) (As := [.int (xs ((x3 + (1 : Int32))).toNatClampNeg), .int (xs ((x3 + (2 : Int32))).toNatClampNeg)]) (rest := []) ⟨hx, hb, hml, hown, hts⟩ hKX hP hD hS hA (c_Desk_change l D aX cX H.size s.1 (xs ((x3 + (1 : Int32))).toNatClampNeg) (xs ((x3 + (2 : Int32))).toNatClampNeg) _ hm) (cwA 2 hts wd215 wd1 wd212 wd213 wd214 (by decide +kernel) ⟨Nat.le_of_ble_eq_true rfl, Nat.le_of_ble_eq_true rfl⟩) (va_recv hKX hP (ci := 0) (q0 := 0) rfl rfl) rfl hl rfl (Nat.le_of_ble_eq_true rfl) d_Law_law_178 ⟨Nat.le_of_ble_eq_true rfl, Nat.le_of_ble_eq_true rfl⟩ (fun r18 s19 hm => ?_)
        intro H locs ls hP hD hS hl
        refine lv_aload_n hx hb d_Law_law_181 rfl (lv_at hl 2 rfl) ?_
        refine lv_aload_n hx hb d_Law_law_182 rfl (lv_at hl 0 rfl) ?_
        refine lv_iload_n hx hb d_Law_law_183 rfl (lv_at hl 3 rfl) ?_
        refine lv_iconst (v := 1) hx hb d_Law_law_184 (by decide) ?_
        refine lv_iadd hx hb d_Law_law_185 ?_
        obtain ⟨h20, hm⟩ := hm
        refine va_sld hx hb hX hbl hbA hS h20 d_Law_law_186 ?_
        refine lv_aload_n hx hb d_Law_law_187 rfl (lv_at hl 0 rfl) ?_
        refine lv_iload_n hx hb d_Law_law_188 rfl (lv_at hl 3 rfl) ?_
        refine lv_iconst (v := 2) hx hb d_Law_law_189 (by decide) ?_
        refine lv_iadd hx hb d_Law_law_190 ?_
        obtain ⟨h21, hm⟩ := hm
        refine va_sld hx hb hX hbl hbA hS h21 d_Law_law_191 ?_
        refine lc_M (w := wM aM cM) (v := wX aX cX s19) (b := (aM 0)) (As := [.int (xs ((x3 + (1 : Int32))).toNatClampNeg), .int (xs ((x3 + (2 : Int32))).toNatClampNeg)]) (rest := [.int r18]) ⟨hx, hb, hml, hown, hts⟩ hKM hP hD hS hA (c_Model_change l D aM cM H.size s.2 (xs ((x3 + (1 : Int32))).toNatClampNeg) (xs ((x3 + (2 : Int32))).toNatClampNeg) _ hm) (cwA 2 hts wd611 wd7 wd608 wd609 wd610 (by decide +kernel) ⟨Nat.le_of_ble_eq_true rfl, Nat.le_of_ble_eq_true rfl⟩) (va_recv hKM hP (ci := 5) (q0 := 20) rfl rfl) rfl hl rfl (Nat.le_of_ble_eq_true rfl) d_Law_law_192 ⟨Nat.le_of_ble_eq_true rfl, Nat.le_of_ble_eq_true rfl⟩ (fun r22 s23 hm => ?_)
        intro H locs ls hP hD hS hl
        refine lv_icmp_eq (tgt := 552) hx hb d_Law_law_195 (by decide) (fun c24 => ?_) (fun c24 => ?_)
        · replace hm := hm.1 c24
          exact B552 (fun s x3 => x_Law_18 L xs n18 s x3) hK18 (s19, s23) x3 hm H locs ls hP hD hS (lv_sub hl [0, 1, 2, 3] rfl)
        · replace hm := hm.2 c24
          refine lv_iconst (v := 0) hx hb d_Law_law_198 (by decide) ?_
          exact False.elim hm
      by_cases c25 : ((xs (x3).toNatClampNeg) &&& (15 : Int32)) = 2
      · replace hm := hm.2.2.1 c25
        refine lv_tableIn (off := 168) (tgt := 200) hx hb d_Law_law_32 (by rw [c25]; decide) (by rw [c25]; decide) (by rw [c25]; rfl) (by decide) ?_
        refine lv_aload_n hx hb d_Law_law_200 rfl (lv_at hl 1 rfl) ?_
        refine lc_X (w := wX aX cX) (v := wM aM cM s.2) (b := (aX 0)) (As := []) (rest := []) ⟨hx, hb, hml, hown, hts⟩ hKX hP hD hS hA (c_Desk_clear l D aX cX H.size s.1 _ hm) (cwA 0 hts wd222 wd1 wd219 wd220 wd221 (by decide +kernel) ⟨Nat.le_of_ble_eq_true rfl, Nat.le_of_ble_eq_true rfl⟩) (va_recv hKX hP (ci := 0) (q0 := 0) rfl rfl) rfl hl rfl (Nat.le_of_ble_eq_true rfl) d_Law_law_201 ⟨Nat.le_of_ble_eq_true rfl, Nat.le_of_ble_eq_true rfl⟩ (fun r26 s27 hm => ?_)
        intro H locs ls hP hD hS hl
        refine lv_aload_n hx hb d_Law_law_204 rfl (lv_at hl 2 rfl) ?_
        refine lc_M (w := wM aM cM) (v := wX aX cX s27) (b := (aM 0)) (As := []) (rest := [.int r26]) ⟨hx, hb, hml, hown, hts⟩ hKM hP hD hS hA (c_Model_clear l D aM cM H.size s.2 _ hm) (cwA 0 hts wd615 wd7 wd612 wd613 wd614 (by decide +kernel) ⟨Nat.le_of_ble_eq_true rfl, Nat.le_of_ble_eq_true rfl⟩) (va_recv hKM hP (ci := 5) (q0 := 20) rfl rfl) rfl hl rfl (Nat.le_of_ble_eq_true rfl) d_Law_law_205 ⟨Nat.le_of_ble_eq_true rfl, Nat.le_of_ble_eq_true rfl⟩ (fun r28 s29 hm => ?_)
        intro H locs ls hP hD hS hl
        refine lv_icmp_eq (tgt := 552) hx hb d_Law_law_208 (by decide) (fun c30 => ?_) (fun c30 => ?_)
        · replace hm := hm.1 c30
          exact B552 (fun s x3 => x_Law_18 L xs n18 s x3) hK18 (s27, s29) x3 hm H locs ls hP hD hS (lv_sub hl [0, 1, 2, 3] rfl)
        · replace hm := hm.2 c30
          refine lv_iconst (v := 0) hx hb d_Law_law_211 (by decide) ?_
          exact False.elim hm
      by_cases c31 : ((xs (x3).toNatClampNeg) &&& (15 : Int32)) = 3
      · replace hm := hm.2.2.2.1 c31
        refine lv_tableIn (off := 181) (tgt := 213) hx hb d_Law_law_32 (by rw [c31]; decide) (by rw [c31]; decide) (by rw [c31]; rfl) (by decide) ?_
        refine lv_aload_n hx hb d_Law_law_213 rfl (lv_at hl 1 rfl) ?_
        refine lv_aload_n hx hb d_Law_law_214 rfl (lv_at hl 0 rfl) ?_
        refine lv_iload_n hx hb d_Law_law_215 rfl (lv_at hl 3 rfl) ?_
        refine lv_iconst (v := 1) hx hb d_Law_law_216 (by decide) ?_
        refine lv_iadd hx hb d_Law_law_217 ?_
        obtain ⟨h32, hm⟩ := hm
        refine va_sld hx hb hX hbl hbA hS h32 d_Law_law_218 ?_
        refine lv_aload_n hx hb d_Law_law_219 rfl (lv_at hl 0 rfl) ?_
        refine lv_iload_n hx hb d_Law_law_220 rfl (lv_at hl 3 rfl) ?_
        refine lv_iconst (v := 2) hx hb d_Law_law_221 (by decide) ?_
        refine lv_iadd hx hb d_Law_law_222 ?_
        obtain ⟨h33, hm⟩ := hm
        refine va_sld hx hb hX hbl hbA hS h33 d_Law_law_223 ?_
        refine lv_aload_n hx hb d_Law_law_224 rfl (lv_at hl 0 rfl) ?_
        refine lv_iload_n hx hb d_Law_law_225 rfl (lv_at hl 3 rfl) ?_
        refine lv_iconst (v := 3) hx hb d_Law_law_226 (by decide) ?_
        refine lv_iadd hx hb d_Law_law_227 ?_
        obtain ⟨h34, hm⟩ := hm
        refine va_sld hx hb hX hbl hbA hS h34 d_Law_law_228 ?_
        refine lv_aload_n hx hb d_Law_law_229 rfl (lv_at hl 0 rfl) ?_
        refine lv_iload_n hx hb d_Law_law_230 rfl (lv_at hl 3 rfl) ?_
        refine lv_iconst (v := 4) hx hb d_Law_law_231 (by decide) ?_
        refine lv_iadd hx hb d_Law_law_232 ?_
        obtain ⟨h35, hm⟩ := hm
        refine va_sld hx hb hX hbl hbA hS h35 d_Law_law_233 ?_
        refine lc_X (w := wX aX cX) (v := wM aM cM s.2) (b := (aX 0)) (As := [.int (xs ((x3 + (1 : Int32))).toNatClampNeg), .int (xs ((x3 + (2 : Int32))).toNatClampNeg), .int (xs ((x3 + (3 : Int32))).toNatClampNeg), .int (xs ((x3 + (4 : Int32))).toNatClampNeg)]) (rest := []) ⟨hx, hb, hml, hown, hts⟩ hKX hP hD hS hA (c_Desk_handler l D aX cX H.size s.1 (xs ((x3 + (1 : Int32))).toNatClampNeg) (xs ((x3 + (2 : Int32))).toNatClampNeg) (xs ((x3 + (3 : Int32))).toNatClampNeg) (xs ((x3 + (4 : Int32))).toNatClampNeg) _ hm) (cwA 4 hts wd226 wd1 wd223 wd224 wd225 (by decide +kernel) ⟨Nat.le_of_ble_eq_true rfl, Nat.le_of_ble_eq_true rfl⟩) (va_recv hKX hP (ci := 0) (q0 := 0) rfl rfl) rfl hl rfl (Nat.le_of_ble_eq_true rfl) d_Law_law_234 ⟨Nat.le_of_ble_eq_true rfl, Nat.le_of_ble_eq_true rfl⟩ (fun r36 s37 hm => ?_)
        intro H locs ls hP hD hS hl
        refine lv_aload_n hx hb d_Law_law_237 rfl (lv_at hl 2 rfl) ?_
        refine lv_aload_n hx hb d_Law_law_238 rfl (lv_at hl 0 rfl) ?_
        refine lv_iload_n hx hb d_Law_law_239 rfl (lv_at hl 3 rfl) ?_
        refine lv_iconst (v := 1) hx hb d_Law_law_240 (by decide) ?_
        refine lv_iadd hx hb d_Law_law_241 ?_
        obtain ⟨h38, hm⟩ := hm
        refine va_sld hx hb hX hbl hbA hS h38 d_Law_law_242 ?_
        refine lv_aload_n hx hb d_Law_law_243 rfl (lv_at hl 0 rfl) ?_
        refine lv_iload_n hx hb d_Law_law_244 rfl (lv_at hl 3 rfl) ?_
        refine lv_iconst (v := 2) hx hb d_Law_law_245 (by decide) ?_
        refine lv_iadd hx hb d_Law_law_246 ?_
        obtain ⟨h39, hm⟩ := hm
        refine va_sld hx hb hX hbl hbA hS h39 d_Law_law_247 ?_
        refine lv_aload_n hx hb d_Law_law_248 rfl (lv_at hl 0 rfl) ?_
        refine lv_iload_n hx hb d_Law_law_249 rfl (lv_at hl 3 rfl) ?_
        refine lv_iconst (v := 3) hx hb d_Law_law_250 (by decide) ?_
        refine lv_iadd hx hb d_Law_law_251 ?_
        obtain ⟨h40, hm⟩ := hm
        refine va_sld hx hb hX hbl hbA hS h40 d_Law_law_252 ?_
        refine lv_aload_n hx hb d_Law_law_253 rfl (lv_at hl 0 rfl) ?_
        refine lv_iload_n hx hb d_Law_law_254 rfl (lv_at hl 3 rfl) ?_
        refine lv_iconst (v := 4) hx hb d_Law_law_255 (by decide) ?_
        refine lv_iadd hx hb d_Law_law_256 ?_
        obtain ⟨h41, hm⟩ := hm
        refine va_sld hx hb hX hbl hbA hS h41 d_Law_law_257 ?_
        refine lc_M (w := wM aM cM) (v := wX aX cX s37) (b := (aM 0)) (As := [.int (xs ((x3 + (1 : Int32))).toNatClampNeg), .int (xs ((x3 + (2 : Int32))).toNatClampNeg), .int (xs ((x3 + (3 : Int32))).toNatClampNeg), .int (xs ((x3 + (4 : Int32))).toNatClampNeg)]) (rest := [.int r36]) ⟨hx, hb, hml, hown, hts⟩ hKM hP hD hS hA (c_Model_handler l D aM cM H.size s.2 (xs ((x3 + (1 : Int32))).toNatClampNeg) (xs ((x3 + (2 : Int32))).toNatClampNeg) (xs ((x3 + (3 : Int32))).toNatClampNeg) (xs ((x3 + (4 : Int32))).toNatClampNeg) _ hm) (cwA 4 hts wd619 wd7 wd616 wd617 wd618 (by decide +kernel) ⟨Nat.le_of_ble_eq_true rfl, Nat.le_of_ble_eq_true rfl⟩) (va_recv hKM hP (ci := 5) (q0 := 20) rfl rfl) rfl hl rfl (Nat.le_of_ble_eq_true rfl) d_Law_law_258 ⟨Nat.le_of_ble_eq_true rfl, Nat.le_of_ble_eq_true rfl⟩ (fun r42 s43 hm => ?_)
        intro H locs ls hP hD hS hl
        refine lv_icmp_eq (tgt := 552) hx hb d_Law_law_261 (by decide) (fun c44 => ?_) (fun c44 => ?_)
        · replace hm := hm.1 c44
          exact B552 (fun s x3 => x_Law_18 L xs n18 s x3) hK18 (s37, s43) x3 hm H locs ls hP hD hS (lv_sub hl [0, 1, 2, 3] rfl)
        · replace hm := hm.2 c44
          refine lv_iconst (v := 0) hx hb d_Law_law_264 (by decide) ?_
          exact False.elim hm
      by_cases c45 : ((xs (x3).toNatClampNeg) &&& (15 : Int32)) = 4
      · replace hm := hm.2.2.2.2.1 c45
        refine lv_tableIn (off := 234) (tgt := 266) hx hb d_Law_law_32 (by rw [c45]; decide) (by rw [c45]; decide) (by rw [c45]; rfl) (by decide) ?_
        refine lv_aload_n hx hb d_Law_law_266 rfl (lv_at hl 1 rfl) ?_
        refine lv_aload_n hx hb d_Law_law_267 rfl (lv_at hl 0 rfl) ?_
        refine lv_iload_n hx hb d_Law_law_268 rfl (lv_at hl 3 rfl) ?_
        refine lv_iconst (v := 1) hx hb d_Law_law_269 (by decide) ?_
        refine lv_iadd hx hb d_Law_law_270 ?_
        obtain ⟨h46, hm⟩ := hm
        refine va_sld hx hb hX hbl hbA hS h46 d_Law_law_271 ?_
        refine lv_aload_n hx hb d_Law_law_272 rfl (lv_at hl 0 rfl) ?_
        refine lv_iload_n hx hb d_Law_law_273 rfl (lv_at hl 3 rfl) ?_
        refine lv_iconst (v := 2) hx hb d_Law_law_274 (by decide) ?_
        refine lv_iadd hx hb d_Law_law_275 ?_
        obtain ⟨h47, hm⟩ := hm
        refine va_sld hx hb hX hbl hbA hS h47 d_Law_law_276 ?_
        refine lv_if_eq (tgt := 284) hx hb d_Law_law_277 (by decide) (fun c48 => ?_) (fun c48 => ?_)
        · replace hm := hm.1 c48
          refine lv_iconst (v := 0) hx hb d_Law_law_284 (by decide) ?_
          exact B285 (fun s x3 => x_Law_18 L xs n18 s x3) hK18 s x3 (0 : Int32) (xs ((x3 + (1 : Int32))).toNatClampNeg) hm H locs ls hP hD hS (lv_sub hl [0, 1, 2, 3] rfl)
        · replace hm := hm.2 c48
          refine lv_iconst (v := 1) hx hb d_Law_law_280 (by decide) ?_
          refine lv_goto (tgt := 285) hx hb d_Law_law_281 (by decide) ?_
          exact B285 (fun s x3 => x_Law_18 L xs n18 s x3) hK18 s x3 (1 : Int32) (xs ((x3 + (1 : Int32))).toNatClampNeg) hm H locs ls hP hD hS (lv_sub hl [0, 1, 2, 3] rfl)
      by_cases c49 : ((xs (x3).toNatClampNeg) &&& (15 : Int32)) = 5
      · replace hm := hm.2.2.2.2.2.1 c49
        refine lv_tableIn (off := 283) (tgt := 315) hx hb d_Law_law_32 (by rw [c49]; decide) (by rw [c49]; decide) (by rw [c49]; rfl) (by decide) ?_
        refine lv_aload_n hx hb d_Law_law_315 rfl (lv_at hl 1 rfl) ?_
        refine lv_aload_n hx hb d_Law_law_316 rfl (lv_at hl 0 rfl) ?_
        refine lv_iload_n hx hb d_Law_law_317 rfl (lv_at hl 3 rfl) ?_
        refine lv_iconst (v := 1) hx hb d_Law_law_318 (by decide) ?_
        refine lv_iadd hx hb d_Law_law_319 ?_
        obtain ⟨h50, hm⟩ := hm
        refine va_sld hx hb hX hbl hbA hS h50 d_Law_law_320 ?_
        refine lv_aload_n hx hb d_Law_law_321 rfl (lv_at hl 0 rfl) ?_
        refine lv_iload_n hx hb d_Law_law_322 rfl (lv_at hl 3 rfl) ?_
        refine lv_iconst (v := 2) hx hb d_Law_law_323 (by decide) ?_
        refine lv_iadd hx hb d_Law_law_324 ?_
        obtain ⟨h51, hm⟩ := hm
        refine va_sld hx hb hX hbl hbA hS h51 d_Law_law_325 ?_
        refine lc_X (w := wX aX cX) (v := wM aM cM s.2) (b := (aX 0)) (As := [.int (xs ((x3 + (1 : Int32))).toNatClampNeg), .int (xs ((x3 + (2 : Int32))).toNatClampNeg)]) (rest := []) ⟨hx, hb, hml, hown, hts⟩ hKX hP hD hS hA (c_Desk_cost l D aX cX H.size s.1 (xs ((x3 + (1 : Int32))).toNatClampNeg) (xs ((x3 + (2 : Int32))).toNatClampNeg) _ hm) (cwA 2 hts wd241 wd1 wd238 wd239 wd240 (by decide +kernel) ⟨Nat.le_of_ble_eq_true rfl, Nat.le_of_ble_eq_true rfl⟩) (va_recv hKX hP (ci := 0) (q0 := 0) rfl rfl) rfl hl rfl (Nat.le_of_ble_eq_true rfl) d_Law_law_326 ⟨Nat.le_of_ble_eq_true rfl, Nat.le_of_ble_eq_true rfl⟩ (fun r52 s53 hm => ?_)
        intro H locs ls hP hD hS hl
        refine lv_aload_n hx hb d_Law_law_329 rfl (lv_at hl 2 rfl) ?_
        refine lv_aload_n hx hb d_Law_law_330 rfl (lv_at hl 0 rfl) ?_
        refine lv_iload_n hx hb d_Law_law_331 rfl (lv_at hl 3 rfl) ?_
        refine lv_iconst (v := 1) hx hb d_Law_law_332 (by decide) ?_
        refine lv_iadd hx hb d_Law_law_333 ?_
        obtain ⟨h54, hm⟩ := hm
        refine va_sld hx hb hX hbl hbA hS h54 d_Law_law_334 ?_
        refine lv_aload_n hx hb d_Law_law_335 rfl (lv_at hl 0 rfl) ?_
        refine lv_iload_n hx hb d_Law_law_336 rfl (lv_at hl 3 rfl) ?_
        refine lv_iconst (v := 2) hx hb d_Law_law_337 (by decide) ?_
        refine lv_iadd hx hb d_Law_law_338 ?_
        obtain ⟨h55, hm⟩ := hm
        refine va_sld hx hb hX hbl hbA hS h55 d_Law_law_339 ?_
        refine lc_M (w := wM aM cM) (v := wX aX cX s53) (b := (aM 0)) (As := [.int (xs ((x3 + (1 : Int32))).toNatClampNeg), .int (xs ((x3 + (2 : Int32))).toNatClampNeg)]) (rest := [.int r52]) ⟨hx, hb, hml, hown, hts⟩ hKM hP hD hS hA (c_Model_cost l D aM cM H.size s.2 (xs ((x3 + (1 : Int32))).toNatClampNeg) (xs ((x3 + (2 : Int32))).toNatClampNeg) _ hm) (cwA 2 hts wd627 wd7 wd624 wd625 wd626 (by decide +kernel) ⟨Nat.le_of_ble_eq_true rfl, Nat.le_of_ble_eq_true rfl⟩) (va_recv hKM hP (ci := 5) (q0 := 20) rfl rfl) rfl hl rfl (Nat.le_of_ble_eq_true rfl) d_Law_law_340 ⟨Nat.le_of_ble_eq_true rfl, Nat.le_of_ble_eq_true rfl⟩ (fun r56 s57 hm => ?_)
        intro H locs ls hP hD hS hl
        refine lv_icmp_eq (tgt := 552) hx hb d_Law_law_343 (by decide) (fun c58 => ?_) (fun c58 => ?_)
        · replace hm := hm.1 c58
          exact B552 (fun s x3 => x_Law_18 L xs n18 s x3) hK18 (s53, s57) x3 hm H locs ls hP hD hS (lv_sub hl [0, 1, 2, 3] rfl)
        · replace hm := hm.2 c58
          refine lv_iconst (v := 0) hx hb d_Law_law_346 (by decide) ?_
          exact False.elim hm
      by_cases c59 : ((xs (x3).toNatClampNeg) &&& (15 : Int32)) = 6
      · replace hm := hm.2.2.2.2.2.2.1 c59
        refine lv_tableIn (off := 316) (tgt := 348) hx hb d_Law_law_32 (by rw [c59]; decide) (by rw [c59]; decide) (by rw [c59]; rfl) (by decide) ?_
        refine lv_aload_n hx hb d_Law_law_348 rfl (lv_at hl 1 rfl) ?_
        refine lv_aload_n hx hb d_Law_law_349 rfl (lv_at hl 0 rfl) ?_
        refine lv_iload_n hx hb d_Law_law_350 rfl (lv_at hl 3 rfl) ?_
        refine lv_iconst (v := 1) hx hb d_Law_law_351 (by decide) ?_
        refine lv_iadd hx hb d_Law_law_352 ?_
        obtain ⟨h60, hm⟩ := hm
        refine va_sld hx hb hX hbl hbA hS h60 d_Law_law_353 ?_
        refine lv_aload_n hx hb d_Law_law_354 rfl (lv_at hl 0 rfl) ?_
        refine lv_iload_n hx hb d_Law_law_355 rfl (lv_at hl 3 rfl) ?_
        refine lv_iconst (v := 2) hx hb d_Law_law_356 (by decide) ?_
        refine lv_iadd hx hb d_Law_law_357 ?_
        obtain ⟨h61, hm⟩ := hm
        refine va_sld hx hb hX hbl hbA hS h61 d_Law_law_358 ?_
        refine lc_X (w := wX aX cX) (v := wM aM cM s.2) (b := (aX 0)) (As := [.int (xs ((x3 + (1 : Int32))).toNatClampNeg), .int (xs ((x3 + (2 : Int32))).toNatClampNeg)]) (rest := []) ⟨hx, hb, hml, hown, hts⟩ hKX hP hD hS hA (c_Desk_set l D aX cX H.size s.1 (xs ((x3 + (1 : Int32))).toNatClampNeg) (xs ((x3 + (2 : Int32))).toNatClampNeg) _ hm) (cwA 2 hts wd245 wd1 wd242 wd243 wd244 (by decide +kernel) ⟨Nat.le_of_ble_eq_true rfl, Nat.le_of_ble_eq_true rfl⟩) (va_recv hKX hP (ci := 0) (q0 := 0) rfl rfl) rfl hl rfl (Nat.le_of_ble_eq_true rfl) d_Law_law_359 ⟨Nat.le_of_ble_eq_true rfl, Nat.le_of_ble_eq_true rfl⟩ (fun r62 s63 hm => ?_)
        intro H locs ls hP hD hS hl
        refine lv_aload_n hx hb d_Law_law_362 rfl (lv_at hl 2 rfl) ?_
        refine lv_aload_n hx hb d_Law_law_363 rfl (lv_at hl 0 rfl) ?_
        refine lv_iload_n hx hb d_Law_law_364 rfl (lv_at hl 3 rfl) ?_
        refine lv_iconst (v := 1) hx hb d_Law_law_365 (by decide) ?_
        refine lv_iadd hx hb d_Law_law_366 ?_
        obtain ⟨h64, hm⟩ := hm
        refine va_sld hx hb hX hbl hbA hS h64 d_Law_law_367 ?_
        refine lv_aload_n hx hb d_Law_law_368 rfl (lv_at hl 0 rfl) ?_
        refine lv_iload_n hx hb d_Law_law_369 rfl (lv_at hl 3 rfl) ?_
        refine lv_iconst (v := 2) hx hb d_Law_law_370 (by decide) ?_
        refine lv_iadd hx hb d_Law_law_371 ?_
        obtain ⟨h65, hm⟩ := hm
        refine va_sld hx hb hX hbl hbA hS h65 d_Law_law_372 ?_
        refine lc_M (w := wM aM cM) (v := wX aX cX s63) (b := (aM 0)) (As := [.int (xs ((x3 + (1 : Int32))).toNatClampNeg), .int (xs ((x3 + (2 : Int32))).toNatClampNeg)]) (rest := [.int r62]) ⟨hx, hb, hml, hown, hts⟩ hKM hP hD hS hA (c_Model_set l D aM cM H.size s.2 (xs ((x3 + (1 : Int32))).toNatClampNeg) (xs ((x3 + (2 : Int32))).toNatClampNeg) _ hm) (cwA 2 hts wd631 wd7 wd628 wd629 wd630 (by decide +kernel) ⟨Nat.le_of_ble_eq_true rfl, Nat.le_of_ble_eq_true rfl⟩) (va_recv hKM hP (ci := 5) (q0 := 20) rfl rfl) rfl hl rfl (Nat.le_of_ble_eq_true rfl) d_Law_law_373 ⟨Nat.le_of_ble_eq_true rfl, Nat.le_of_ble_eq_true rfl⟩ (fun r66 s67 hm => ?_)
        intro H locs ls hP hD hS hl
        refine lv_icmp_eq (tgt := 552) hx hb d_Law_law_376 (by decide) (fun c68 => ?_) (fun c68 => ?_)
        · replace hm := hm.1 c68
          exact B552 (fun s x3 => x_Law_18 L xs n18 s x3) hK18 (s63, s67) x3 hm H locs ls hP hD hS (lv_sub hl [0, 1, 2, 3] rfl)
        · replace hm := hm.2 c68
          refine lv_iconst (v := 0) hx hb d_Law_law_379 (by decide) ?_
          exact False.elim hm
      by_cases c69 : ((xs (x3).toNatClampNeg) &&& (15 : Int32)) = 7
      · replace hm := hm.2.2.2.2.2.2.2.1 c69
        refine lv_tableIn (off := 349) (tgt := 381) hx hb d_Law_law_32 (by rw [c69]; decide) (by rw [c69]; decide) (by rw [c69]; rfl) (by decide) ?_
        refine lv_aload_n hx hb d_Law_law_381 rfl (lv_at hl 1 rfl) ?_
        refine lc_X (w := wX aX cX) (v := wM aM cM s.2) (b := (aX 0)) (As := []) (rest := []) ⟨hx, hb, hml, hown, hts⟩ hKX hP hD hS hA (c_Desk_rewrite l D aX cX H.size s.1 _ hm) (cwA 0 hts wd250 wd1 wd247 wd248 wd249 (by decide +kernel) ⟨Nat.le_of_ble_eq_true rfl, Nat.le_of_ble_eq_true rfl⟩) (va_recv hKX hP (ci := 0) (q0 := 0) rfl rfl) rfl hl rfl (Nat.le_of_ble_eq_true rfl) d_Law_law_382 ⟨Nat.le_of_ble_eq_true rfl, Nat.le_of_ble_eq_true rfl⟩ (fun r70 s71 hm => ?_)
        intro H locs ls hP hD hS hl
        refine lv_aload_n hx hb d_Law_law_385 rfl (lv_at hl 2 rfl) ?_
        refine lc_M (w := wM aM cM) (v := wX aX cX s71) (b := (aM 0)) (As := []) (rest := [.int r70]) ⟨hx, hb, hml, hown, hts⟩ hKM hP hD hS hA (c_Model_rewrite l D aM cM H.size s.2 _ hm) (cwA 0 hts wd636 wd7 wd633 wd634 wd635 (by decide +kernel) ⟨Nat.le_of_ble_eq_true rfl, Nat.le_of_ble_eq_true rfl⟩) (va_recv hKM hP (ci := 5) (q0 := 20) rfl rfl) rfl hl rfl (Nat.le_of_ble_eq_true rfl) d_Law_law_386 ⟨Nat.le_of_ble_eq_true rfl, Nat.le_of_ble_eq_true rfl⟩ (fun r72 s73 hm => ?_)
        intro H locs ls hP hD hS hl
        refine lv_icmp_eq (tgt := 552) hx hb d_Law_law_389 (by decide) (fun c74 => ?_) (fun c74 => ?_)
        · replace hm := hm.1 c74
          exact B552 (fun s x3 => x_Law_18 L xs n18 s x3) hK18 (s71, s73) x3 hm H locs ls hP hD hS (lv_sub hl [0, 1, 2, 3] rfl)
        · replace hm := hm.2 c74
          refine lv_iconst (v := 0) hx hb d_Law_law_392 (by decide) ?_
          exact False.elim hm
      by_cases c75 : ((xs (x3).toNatClampNeg) &&& (15 : Int32)) = 8
      · replace hm := hm.2.2.2.2.2.2.2.2.1 c75
        refine lv_tableIn (off := 362) (tgt := 394) hx hb d_Law_law_32 (by rw [c75]; decide) (by rw [c75]; decide) (by rw [c75]; rfl) (by decide) ?_
        refine lv_aload_n hx hb d_Law_law_394 rfl (lv_at hl 1 rfl) ?_
        refine lv_aload_n hx hb d_Law_law_395 rfl (lv_at hl 0 rfl) ?_
        refine lv_iload_n hx hb d_Law_law_396 rfl (lv_at hl 3 rfl) ?_
        refine lv_iconst (v := 1) hx hb d_Law_law_397 (by decide) ?_
        refine lv_iadd hx hb d_Law_law_398 ?_
        obtain ⟨h76, hm⟩ := hm
        refine va_sld hx hb hX hbl hbA hS h76 d_Law_law_399 ?_
        refine lc_X (w := wX aX cX) (v := wM aM cM s.2) (b := (aX 0)) (As := [.int (xs ((x3 + (1 : Int32))).toNatClampNeg)]) (rest := []) ⟨hx, hb, hml, hown, hts⟩ hKX hP hD hS hA (c_Desk_octet l D aX cX H.size s.1 (xs ((x3 + (1 : Int32))).toNatClampNeg) _ hm) (cwA 1 hts wd463 wd1 wd460 wd461 wd462 (by decide +kernel) ⟨Nat.le_of_ble_eq_true rfl, Nat.le_of_ble_eq_true rfl⟩) (va_recv hKX hP (ci := 0) (q0 := 0) rfl rfl) rfl hl rfl (Nat.le_of_ble_eq_true rfl) d_Law_law_400 ⟨Nat.le_of_ble_eq_true rfl, Nat.le_of_ble_eq_true rfl⟩ (fun r77 s78 hm => ?_)
        intro H locs ls hP hD hS hl
        refine lv_aload_n hx hb d_Law_law_403 rfl (lv_at hl 2 rfl) ?_
        refine lv_aload_n hx hb d_Law_law_404 rfl (lv_at hl 0 rfl) ?_
        refine lv_iload_n hx hb d_Law_law_405 rfl (lv_at hl 3 rfl) ?_
        refine lv_iconst (v := 1) hx hb d_Law_law_406 (by decide) ?_
        refine lv_iadd hx hb d_Law_law_407 ?_
        obtain ⟨h79, hm⟩ := hm
        refine va_sld hx hb hX hbl hbA hS h79 d_Law_law_408 ?_
        refine lc_M (w := wM aM cM) (v := wX aX cX s78) (b := (aM 0)) (As := [.int (xs ((x3 + (1 : Int32))).toNatClampNeg)]) (rest := [.int r77]) ⟨hx, hb, hml, hown, hts⟩ hKM hP hD hS hA (c_Model_octet l D aM cM H.size s.2 (xs ((x3 + (1 : Int32))).toNatClampNeg) _ hm) (cwA 1 hts wd731 wd7 wd728 wd729 wd730 (by decide +kernel) ⟨Nat.le_of_ble_eq_true rfl, Nat.le_of_ble_eq_true rfl⟩) (va_recv hKM hP (ci := 5) (q0 := 20) rfl rfl) rfl hl rfl (Nat.le_of_ble_eq_true rfl) d_Law_law_409 ⟨Nat.le_of_ble_eq_true rfl, Nat.le_of_ble_eq_true rfl⟩ (fun r80 s81 hm => ?_)
        intro H locs ls hP hD hS hl
        refine lv_icmp_eq (tgt := 552) hx hb d_Law_law_412 (by decide) (fun c82 => ?_) (fun c82 => ?_)
        · replace hm := hm.1 c82
          exact B552 (fun s x3 => x_Law_18 L xs n18 s x3) hK18 (s78, s81) x3 hm H locs ls hP hD hS (lv_sub hl [0, 1, 2, 3] rfl)
        · replace hm := hm.2 c82
          refine lv_iconst (v := 0) hx hb d_Law_law_415 (by decide) ?_
          exact False.elim hm
      by_cases c83 : ((xs (x3).toNatClampNeg) &&& (15 : Int32)) = 9
      · replace hm := hm.2.2.2.2.2.2.2.2.2.1 c83
        refine lv_tableIn (off := 385) (tgt := 417) hx hb d_Law_law_32 (by rw [c83]; decide) (by rw [c83]; decide) (by rw [c83]; rfl) (by decide) ?_
        refine lv_aload_n hx hb d_Law_law_417 rfl (lv_at hl 1 rfl) ?_
        refine lv_aload_n hx hb d_Law_law_418 rfl (lv_at hl 0 rfl) ?_
        refine lv_iload_n hx hb d_Law_law_419 rfl (lv_at hl 3 rfl) ?_
        refine lv_iconst (v := 1) hx hb d_Law_law_420 (by decide) ?_
        refine lv_iadd hx hb d_Law_law_421 ?_
        obtain ⟨h84, hm⟩ := hm
        refine va_sld hx hb hX hbl hbA hS h84 d_Law_law_422 ?_
        refine lv_aload_n hx hb d_Law_law_423 rfl (lv_at hl 0 rfl) ?_
        refine lv_iload_n hx hb d_Law_law_424 rfl (lv_at hl 3 rfl) ?_
        refine lv_iconst (v := 2) hx hb d_Law_law_425 (by decide) ?_
        refine lv_iadd hx hb d_Law_law_426 ?_
        obtain ⟨h85, hm⟩ := hm
        refine va_sld hx hb hX hbl hbA hS h85 d_Law_law_427 ?_
        refine lc_X (w := wX aX cX) (v := wM aM cM s.2) (b := (aX 0)) (As := [.int (xs ((x3 + (1 : Int32))).toNatClampNeg), .int (xs ((x3 + (2 : Int32))).toNatClampNeg)]) (rest := []) ⟨hx, hb, hml, hown, hts⟩ hKX hP hD hS hA (c_Desk_moved l D aX cX H.size s.1 (xs ((x3 + (1 : Int32))).toNatClampNeg) (xs ((x3 + (2 : Int32))).toNatClampNeg) _ hm) (cwA 2 hts wd467 wd1 wd464 wd465 wd466 (by decide +kernel) ⟨Nat.le_of_ble_eq_true rfl, Nat.le_of_ble_eq_true rfl⟩) (va_recv hKX hP (ci := 0) (q0 := 0) rfl rfl) rfl hl rfl (Nat.le_of_ble_eq_true rfl) d_Law_law_428 ⟨Nat.le_of_ble_eq_true rfl, Nat.le_of_ble_eq_true rfl⟩ (fun r86 s87 hm => ?_)
        intro H locs ls hP hD hS hl
        refine lv_aload_n hx hb d_Law_law_431 rfl (lv_at hl 2 rfl) ?_
        refine lv_aload_n hx hb d_Law_law_432 rfl (lv_at hl 0 rfl) ?_
        refine lv_iload_n hx hb d_Law_law_433 rfl (lv_at hl 3 rfl) ?_
        refine lv_iconst (v := 1) hx hb d_Law_law_434 (by decide) ?_
        refine lv_iadd hx hb d_Law_law_435 ?_
        obtain ⟨h88, hm⟩ := hm
        refine va_sld hx hb hX hbl hbA hS h88 d_Law_law_436 ?_
        refine lv_aload_n hx hb d_Law_law_437 rfl (lv_at hl 0 rfl) ?_
        refine lv_iload_n hx hb d_Law_law_438 rfl (lv_at hl 3 rfl) ?_
        refine lv_iconst (v := 2) hx hb d_Law_law_439 (by decide) ?_
        refine lv_iadd hx hb d_Law_law_440 ?_
        obtain ⟨h89, hm⟩ := hm
        refine va_sld hx hb hX hbl hbA hS h89 d_Law_law_441 ?_
        refine lc_M (w := wM aM cM) (v := wX aX cX s87) (b := (aM 0)) (As := [.int (xs ((x3 + (1 : Int32))).toNatClampNeg), .int (xs ((x3 + (2 : Int32))).toNatClampNeg)]) (rest := [.int r86]) ⟨hx, hb, hml, hown, hts⟩ hKM hP hD hS hA (c_Model_moved l D aM cM H.size s.2 (xs ((x3 + (1 : Int32))).toNatClampNeg) (xs ((x3 + (2 : Int32))).toNatClampNeg) _ hm) (cwA 2 hts wd735 wd7 wd732 wd733 wd734 (by decide +kernel) ⟨Nat.le_of_ble_eq_true rfl, Nat.le_of_ble_eq_true rfl⟩) (va_recv hKM hP (ci := 5) (q0 := 20) rfl rfl) rfl hl rfl (Nat.le_of_ble_eq_true rfl) d_Law_law_442 ⟨Nat.le_of_ble_eq_true rfl, Nat.le_of_ble_eq_true rfl⟩ (fun r90 s91 hm => ?_)
        intro H locs ls hP hD hS hl
        refine lv_icmp_eq (tgt := 552) hx hb d_Law_law_445 (by decide) (fun c92 => ?_) (fun c92 => ?_)
        · replace hm := hm.1 c92
          exact B552 (fun s x3 => x_Law_18 L xs n18 s x3) hK18 (s87, s91) x3 hm H locs ls hP hD hS (lv_sub hl [0, 1, 2, 3] rfl)
        · replace hm := hm.2 c92
          refine lv_iconst (v := 0) hx hb d_Law_law_448 (by decide) ?_
          exact False.elim hm
      by_cases c93 : ((xs (x3).toNatClampNeg) &&& (15 : Int32)) = 10
      · replace hm := hm.2.2.2.2.2.2.2.2.2.2.1 c93
        refine lv_tableIn (off := 418) (tgt := 450) hx hb d_Law_law_32 (by rw [c93]; decide) (by rw [c93]; decide) (by rw [c93]; rfl) (by decide) ?_
        refine lv_aload_n hx hb d_Law_law_450 rfl (lv_at hl 1 rfl) ?_
        refine lv_aload_n hx hb d_Law_law_451 rfl (lv_at hl 0 rfl) ?_
        refine lv_iload_n hx hb d_Law_law_452 rfl (lv_at hl 3 rfl) ?_
        refine lv_iconst (v := 1) hx hb d_Law_law_453 (by decide) ?_
        refine lv_iadd hx hb d_Law_law_454 ?_
        obtain ⟨h94, hm⟩ := hm
        refine va_sld hx hb hX hbl hbA hS h94 d_Law_law_455 ?_
        refine lc_X (w := wX aX cX) (v := wM aM cM s.2) (b := (aX 0)) (As := [.int (xs ((x3 + (1 : Int32))).toNatClampNeg)]) (rest := []) ⟨hx, hb, hml, hown, hts⟩ hKX hP hD hS hA (c_Desk_back l D aX cX H.size s.1 (xs ((x3 + (1 : Int32))).toNatClampNeg) _ hm) (cwA 1 hts wd472 wd1 wd469 wd470 wd471 (by decide +kernel) ⟨Nat.le_of_ble_eq_true rfl, Nat.le_of_ble_eq_true rfl⟩) (va_recv hKX hP (ci := 0) (q0 := 0) rfl rfl) rfl hl rfl (Nat.le_of_ble_eq_true rfl) d_Law_law_456 ⟨Nat.le_of_ble_eq_true rfl, Nat.le_of_ble_eq_true rfl⟩ (fun r95 s96 hm => ?_)
        intro H locs ls hP hD hS hl
        refine lv_aload_n hx hb d_Law_law_459 rfl (lv_at hl 2 rfl) ?_
        refine lv_aload_n hx hb d_Law_law_460 rfl (lv_at hl 0 rfl) ?_
        refine lv_iload_n hx hb d_Law_law_461 rfl (lv_at hl 3 rfl) ?_
        refine lv_iconst (v := 1) hx hb d_Law_law_462 (by decide) ?_
        refine lv_iadd hx hb d_Law_law_463 ?_
        obtain ⟨h97, hm⟩ := hm
        refine va_sld hx hb hX hbl hbA hS h97 d_Law_law_464 ?_
        refine lc_M (w := wM aM cM) (v := wX aX cX s96) (b := (aM 0)) (As := [.int (xs ((x3 + (1 : Int32))).toNatClampNeg)]) (rest := [.int r95]) ⟨hx, hb, hml, hown, hts⟩ hKM hP hD hS hA (c_Model_back l D aM cM H.size s.2 (xs ((x3 + (1 : Int32))).toNatClampNeg) _ hm) (cwA 1 hts wd739 wd7 wd736 wd737 wd738 (by decide +kernel) ⟨Nat.le_of_ble_eq_true rfl, Nat.le_of_ble_eq_true rfl⟩) (va_recv hKM hP (ci := 5) (q0 := 20) rfl rfl) rfl hl rfl (Nat.le_of_ble_eq_true rfl) d_Law_law_465 ⟨Nat.le_of_ble_eq_true rfl, Nat.le_of_ble_eq_true rfl⟩ (fun r98 s99 hm => ?_)
        intro H locs ls hP hD hS hl
        refine lv_icmp_eq (tgt := 552) hx hb d_Law_law_468 (by decide) (fun c100 => ?_) (fun c100 => ?_)
        · replace hm := hm.1 c100
          exact B552 (fun s x3 => x_Law_18 L xs n18 s x3) hK18 (s96, s99) x3 hm H locs ls hP hD hS (lv_sub hl [0, 1, 2, 3] rfl)
        · replace hm := hm.2 c100
          refine lv_iconst (v := 0) hx hb d_Law_law_471 (by decide) ?_
          exact False.elim hm
      by_cases c101 : ((xs (x3).toNatClampNeg) &&& (15 : Int32)) = 11
      · replace hm := hm.2.2.2.2.2.2.2.2.2.2.2.1 c101
        refine lv_tableIn (off := 441) (tgt := 473) hx hb d_Law_law_32 (by rw [c101]; decide) (by rw [c101]; decide) (by rw [c101]; rfl) (by decide) ?_
        refine lv_aload_n hx hb d_Law_law_473 rfl (lv_at hl 1 rfl) ?_
        refine lv_aload_n hx hb d_Law_law_474 rfl (lv_at hl 0 rfl) ?_
        refine lv_iload_n hx hb d_Law_law_475 rfl (lv_at hl 3 rfl) ?_
        refine lv_iconst (v := 1) hx hb d_Law_law_476 (by decide) ?_
        refine lv_iadd hx hb d_Law_law_477 ?_
        obtain ⟨h102, hm⟩ := hm
        refine va_sld hx hb hX hbl hbA hS h102 d_Law_law_478 ?_
        refine lv_aload_n hx hb d_Law_law_479 rfl (lv_at hl 0 rfl) ?_
        refine lv_iload_n hx hb d_Law_law_480 rfl (lv_at hl 3 rfl) ?_
        refine lv_iconst (v := 2) hx hb d_Law_law_481 (by decide) ?_
        refine lv_iadd hx hb d_Law_law_482 ?_
        obtain ⟨h103, hm⟩ := hm
        refine va_sld hx hb hX hbl hbA hS h103 d_Law_law_483 ?_
        refine lc_X (w := wX aX cX) (v := wM aM cM s.2) (b := (aX 0)) (As := [.int (xs ((x3 + (1 : Int32))).toNatClampNeg), .int (xs ((x3 + (2 : Int32))).toNatClampNeg)]) (rest := []) ⟨hx, hb, hml, hown, hts⟩ hKX hP hD hS hA (c_Desk_guard l D aX cX H.size s.1 (xs ((x3 + (1 : Int32))).toNatClampNeg) (xs ((x3 + (2 : Int32))).toNatClampNeg) _ hm) (cwA 2 hts wd476 wd1 wd473 wd474 wd475 (by decide +kernel) ⟨Nat.le_of_ble_eq_true rfl, Nat.le_of_ble_eq_true rfl⟩) (va_recv hKX hP (ci := 0) (q0 := 0) rfl rfl) rfl hl rfl (Nat.le_of_ble_eq_true rfl) d_Law_law_484 ⟨Nat.le_of_ble_eq_true rfl, Nat.le_of_ble_eq_true rfl⟩ (fun r104 s105 hm => ?_)
        intro H locs ls hP hD hS hl
        refine lv_aload_n hx hb d_Law_law_487 rfl (lv_at hl 2 rfl) ?_
        refine lv_aload_n hx hb d_Law_law_488 rfl (lv_at hl 0 rfl) ?_
        refine lv_iload_n hx hb d_Law_law_489 rfl (lv_at hl 3 rfl) ?_
        refine lv_iconst (v := 1) hx hb d_Law_law_490 (by decide) ?_
        refine lv_iadd hx hb d_Law_law_491 ?_
        obtain ⟨h106, hm⟩ := hm
        refine va_sld hx hb hX hbl hbA hS h106 d_Law_law_492 ?_
        refine lv_aload_n hx hb d_Law_law_493 rfl (lv_at hl 0 rfl) ?_
        refine lv_iload_n hx hb d_Law_law_494 rfl (lv_at hl 3 rfl) ?_
        refine lv_iconst (v := 2) hx hb d_Law_law_495 (by decide) ?_
        refine lv_iadd hx hb d_Law_law_496 ?_
        obtain ⟨h107, hm⟩ := hm
        refine va_sld hx hb hX hbl hbA hS h107 d_Law_law_497 ?_
        refine lc_M (w := wM aM cM) (v := wX aX cX s105) (b := (aM 0)) (As := [.int (xs ((x3 + (1 : Int32))).toNatClampNeg), .int (xs ((x3 + (2 : Int32))).toNatClampNeg)]) (rest := [.int r104]) ⟨hx, hb, hml, hown, hts⟩ hKM hP hD hS hA (c_Model_guard l D aM cM H.size s.2 (xs ((x3 + (1 : Int32))).toNatClampNeg) (xs ((x3 + (2 : Int32))).toNatClampNeg) _ hm) (cwA 2 hts wd743 wd7 wd740 wd741 wd742 (by decide +kernel) ⟨Nat.le_of_ble_eq_true rfl, Nat.le_of_ble_eq_true rfl⟩) (va_recv hKM hP (ci := 5) (q0 := 20) rfl rfl) rfl hl rfl (Nat.le_of_ble_eq_true rfl) d_Law_law_498 ⟨Nat.le_of_ble_eq_true rfl, Nat.le_of_ble_eq_true rfl⟩ (fun r108 s109 hm => ?_)
        intro H locs ls hP hD hS hl
        refine lv_icmp_eq (tgt := 552) hx hb d_Law_law_501 (by decide) (fun c110 => ?_) (fun c110 => ?_)
        · replace hm := hm.1 c110
          exact B552 (fun s x3 => x_Law_18 L xs n18 s x3) hK18 (s105, s109) x3 hm H locs ls hP hD hS (lv_sub hl [0, 1, 2, 3] rfl)
        · replace hm := hm.2 c110
          refine lv_iconst (v := 0) hx hb d_Law_law_504 (by decide) ?_
          exact False.elim hm
      by_cases c111 : ((xs (x3).toNatClampNeg) &&& (15 : Int32)) = 12
      · replace hm := hm.2.2.2.2.2.2.2.2.2.2.2.2.1 c111
        refine lv_tableIn (off := 474) (tgt := 506) hx hb d_Law_law_32 (by rw [c111]; decide) (by rw [c111]; decide) (by rw [c111]; rfl) (by decide) ?_
        refine lv_aload_n hx hb d_Law_law_506 rfl (lv_at hl 1 rfl) ?_
        refine lv_aload_n hx hb d_Law_law_507 rfl (lv_at hl 0 rfl) ?_
        refine lv_iload_n hx hb d_Law_law_508 rfl (lv_at hl 3 rfl) ?_
        refine lv_iconst (v := 1) hx hb d_Law_law_509 (by decide) ?_
        refine lv_iadd hx hb d_Law_law_510 ?_
        obtain ⟨h112, hm⟩ := hm
        refine va_sld hx hb hX hbl hbA hS h112 d_Law_law_511 ?_
        refine lc_X (w := wX aX cX) (v := wM aM cM s.2) (b := (aX 0)) (As := [.int (xs ((x3 + (1 : Int32))).toNatClampNeg)]) (rest := []) ⟨hx, hb, hml, hown, hts⟩ hKX hP hD hS hA (c_Desk_about l D aX cX H.size s.1 (xs ((x3 + (1 : Int32))).toNatClampNeg) _ hm) (cwA 1 hts wd480 wd1 wd477 wd478 wd479 (by decide +kernel) ⟨Nat.le_of_ble_eq_true rfl, Nat.le_of_ble_eq_true rfl⟩) (va_recv hKX hP (ci := 0) (q0 := 0) rfl rfl) rfl hl rfl (Nat.le_of_ble_eq_true rfl) d_Law_law_512 ⟨Nat.le_of_ble_eq_true rfl, Nat.le_of_ble_eq_true rfl⟩ (fun r113 s114 hm => ?_)
        intro H locs ls hP hD hS hl
        refine lv_aload_n hx hb d_Law_law_515 rfl (lv_at hl 2 rfl) ?_
        refine lv_aload_n hx hb d_Law_law_516 rfl (lv_at hl 0 rfl) ?_
        refine lv_iload_n hx hb d_Law_law_517 rfl (lv_at hl 3 rfl) ?_
        refine lv_iconst (v := 1) hx hb d_Law_law_518 (by decide) ?_
        refine lv_iadd hx hb d_Law_law_519 ?_
        obtain ⟨h115, hm⟩ := hm
        refine va_sld hx hb hX hbl hbA hS h115 d_Law_law_520 ?_
        refine lc_M (w := wM aM cM) (v := wX aX cX s114) (b := (aM 0)) (As := [.int (xs ((x3 + (1 : Int32))).toNatClampNeg)]) (rest := [.int r113]) ⟨hx, hb, hml, hown, hts⟩ hKM hP hD hS hA (c_Model_about l D aM cM H.size s.2 (xs ((x3 + (1 : Int32))).toNatClampNeg) _ hm) (cwA 1 hts wd747 wd7 wd744 wd745 wd746 (by decide +kernel) ⟨Nat.le_of_ble_eq_true rfl, Nat.le_of_ble_eq_true rfl⟩) (va_recv hKM hP (ci := 5) (q0 := 20) rfl rfl) rfl hl rfl (Nat.le_of_ble_eq_true rfl) d_Law_law_521 ⟨Nat.le_of_ble_eq_true rfl, Nat.le_of_ble_eq_true rfl⟩ (fun r116 s117 hm => ?_)
        intro H locs ls hP hD hS hl
        refine lv_icmp_eq (tgt := 552) hx hb d_Law_law_524 (by decide) (fun c118 => ?_) (fun c118 => ?_)
        · replace hm := hm.1 c118
          exact B552 (fun s x3 => x_Law_18 L xs n18 s x3) hK18 (s114, s117) x3 hm H locs ls hP hD hS (lv_sub hl [0, 1, 2, 3] rfl)
        · replace hm := hm.2 c118
          refine lv_iconst (v := 0) hx hb d_Law_law_527 (by decide) ?_
          exact False.elim hm
      by_cases c119 : ((xs (x3).toNatClampNeg) &&& (15 : Int32)) = 13
      · replace hm := hm.2.2.2.2.2.2.2.2.2.2.2.2.2.1 c119
        refine lv_tableIn (off := 497) (tgt := 529) hx hb d_Law_law_32 (by rw [c119]; decide) (by rw [c119]; decide) (by rw [c119]; rfl) (by decide) ?_
        refine lv_aload_n hx hb d_Law_law_529 rfl (lv_at hl 1 rfl) ?_
        refine lv_aload_n hx hb d_Law_law_530 rfl (lv_at hl 0 rfl) ?_
        refine lv_iload_n hx hb d_Law_law_531 rfl (lv_at hl 3 rfl) ?_
        refine lv_iconst (v := 1) hx hb d_Law_law_532 (by decide) ?_
        refine lv_iadd hx hb d_Law_law_533 ?_
        obtain ⟨h120, hm⟩ := hm
        refine va_sld hx hb hX hbl hbA hS h120 d_Law_law_534 ?_
        refine lc_X (w := wX aX cX) (v := wM aM cM s.2) (b := (aX 0)) (As := [.int (xs ((x3 + (1 : Int32))).toNatClampNeg)]) (rest := []) ⟨hx, hb, hml, hown, hts⟩ hKX hP hD hS hA (c_Desk_count l D aX cX H.size s.1 (xs ((x3 + (1 : Int32))).toNatClampNeg) _ hm) (cwA 1 hts wd484 wd1 wd481 wd482 wd483 (by decide +kernel) ⟨Nat.le_of_ble_eq_true rfl, Nat.le_of_ble_eq_true rfl⟩) (va_recv hKX hP (ci := 0) (q0 := 0) rfl rfl) rfl hl rfl (Nat.le_of_ble_eq_true rfl) d_Law_law_535 ⟨Nat.le_of_ble_eq_true rfl, Nat.le_of_ble_eq_true rfl⟩ (fun r121 s122 hm => ?_)
        intro H locs ls hP hD hS hl
        refine lv_aload_n hx hb d_Law_law_538 rfl (lv_at hl 2 rfl) ?_
        refine lv_aload_n hx hb d_Law_law_539 rfl (lv_at hl 0 rfl) ?_
        refine lv_iload_n hx hb d_Law_law_540 rfl (lv_at hl 3 rfl) ?_
        refine lv_iconst (v := 1) hx hb d_Law_law_541 (by decide) ?_
        refine lv_iadd hx hb d_Law_law_542 ?_
        obtain ⟨h123, hm⟩ := hm
        refine va_sld hx hb hX hbl hbA hS h123 d_Law_law_543 ?_
        refine lc_M (w := wM aM cM) (v := wX aX cX s122) (b := (aM 0)) (As := [.int (xs ((x3 + (1 : Int32))).toNatClampNeg)]) (rest := [.int r121]) ⟨hx, hb, hml, hown, hts⟩ hKM hP hD hS hA (c_Model_count l D aM cM H.size s.2 (xs ((x3 + (1 : Int32))).toNatClampNeg) _ hm) (cwA 1 hts wd751 wd7 wd748 wd749 wd750 (by decide +kernel) ⟨Nat.le_of_ble_eq_true rfl, Nat.le_of_ble_eq_true rfl⟩) (va_recv hKM hP (ci := 5) (q0 := 20) rfl rfl) rfl hl rfl (Nat.le_of_ble_eq_true rfl) d_Law_law_544 ⟨Nat.le_of_ble_eq_true rfl, Nat.le_of_ble_eq_true rfl⟩ (fun r124 s125 hm => ?_)
        intro H locs ls hP hD hS hl
        refine lv_icmp_eq (tgt := 552) hx hb d_Law_law_547 (by decide) (fun c126 => ?_) (fun c126 => ?_)
        · replace hm := hm.1 c126
          exact B552 (fun s x3 => x_Law_18 L xs n18 s x3) hK18 (s122, s125) x3 hm H locs ls hP hD hS (lv_sub hl [0, 1, 2, 3] rfl)
        · replace hm := hm.2 c126
          refine lv_iconst (v := 0) hx hb d_Law_law_550 (by decide) ?_
          exact False.elim hm
      replace hm := hm.2.2.2.2.2.2.2.2.2.2.2.2.2.2 c3 c15 c25 c31 c45 c49 c59 c69 c75 c83 c93 c101 c111 c119
      refine lv_tableOut (tgt := 552) hx hb d_Law_law_32 (by have hc3 := lv_neT c3 (a := 0) rfl; have hc15 := lv_neT c15 (a := 1) rfl; have hc25 := lv_neT c25 (a := 2) rfl; have hc31 := lv_neT c31 (a := 3) rfl; have hc45 := lv_neT c45 (a := 4) rfl; have hc49 := lv_neT c49 (a := 5) rfl; have hc59 := lv_neT c59 (a := 6) rfl; have hc69 := lv_neT c69 (a := 7) rfl; have hc75 := lv_neT c75 (a := 8) rfl; have hc83 := lv_neT c83 (a := 9) rfl; have hc93 := lv_neT c93 (a := 10) rfl; have hc101 := lv_neT c101 (a := 11) rfl; have hc111 := lv_neT c111 (a := 12) rfl; have hc119 := lv_neT c119 (a := 13) rfl; omega) (by decide) ?_
      exact B552 (fun s x3 => x_Law_18 L xs n18 s x3) hK18 s x3 hm H locs ls hP hD hS (lv_sub hl [0, 1, 2, 3] rfl)
