-- ===== end of PART A; then your names; then what follows =====
/-! THE CLAIM OUT OF ONE WALK OF THE LAW'S BODY. Your part is whole_start (and what it stands on); all else here is the same for every law, but numbers. -/
def R_law : String := "MeterDeskLaw"
def lw_P (b : Addr) (xs : List Int32) (args : Array Value) (s : State) : Prop := args = #[.ref b] ∧ s.IntsAt b xs ∧ xs.length ≤ 2560 ∧ (Jvm.Cond.and given_1 narrow_1).before args s = true
def lw_Q (_ : Array Value) (s : State) (o : Outcome) (t : State) : Prop := o = .returned (some (.int 1)) ∧ Framed s o t [] 40 7166
def lw_Z (below : List Frame) (a : Array Value) (s : State) : State → Prop := fun t => ∃ o, t.status = .running ∧ Ended t below o ∧ lw_Q a s o t
/-- the law's own end, with 1 on the stack, nothing written that was there before, its room as the claim has it -/
theorem lw_ret {p : Program} {l : Launch} {e : Env} {s : State} {m : MethodId} {below : List Frame} {meth : Method} {c : Code} {b : Nat} (hx : p.tables.exec = Jvm.exec) (hb : c.code = code) (hr : meth.sig.returnType = ret) (hlocks : meth.locks = false) {pc : Nat} {H : Heap} {ls : Array Slot} (hdg : decode code pc = .ok (.ireturn, 1)) : W p l e room_1 s m #[Value.ref b] below meth c H [] 40 7166 (lw_Z below #[Value.ref b] s) (F0 m pc ls [.int 1]) := by
  intro T hT X
  obtain ⟨fs, hret, hrun, hended, hW, hframe⟩ := X.leave (v := some (.int 1)) (hlocks := hlocks) (fun h => by rw [hr] at h; cases h)
  have hmeth' : T.vm.method? m = some meth := X.method'
  refine ⟨T.setFrames fs, ?_, .returned (some (.int 1)), hrun, hended, rfl, ⟨_, rfl⟩, hW, hframe⟩
  jvm_step X.here [X.here.top, hx, hb, hdg, hmeth', hr, ret, narrow_b1]
  (try refine ⟨rfl, ?_⟩); (try refine ⟨rfl, ?_⟩)
  first | (intro acts; rw [hret _ acts rfl rfl rfl]) | rw [hret _ _ rfl rfl rfl]
  exact Steps.refl _
/-- what holds at the law's entry: the machine, the code, the tables' words (any of lw_tbl by 'hts w (by decide +kernel)'), the script of L ints xs at the cell b, what the Statement gives of the start (any of its parts by flat_of_before) -/
def lw_At (p : Program) (s : State) (m : MethodId) (meth : Method) (c : Code) (b L : Nat) (xs : Nat → Int32) : Prop :=
  p.tables.exec = Jvm.exec ∧ c.code = code ∧ meth.sig.returnType = ret ∧ c.maxLocals = 4 ∧ s.vm.findClass R_law = some m.cls ∧ (∀ w ∈ lw_tbl, w.before #[Value.ref b] s = true) ∧ va_X b L xs s s.heap ∧ b < s.heap.size ∧ meth.locks = false ∧ (Jvm.Cond.and given_1 narrow_1).before #[Value.ref b] s = true
/-! Two worlds side by side: the law's calls. -/
theorem fr_L {D : va_G} {cl : List vw_C} {a a' b : va_W} {A0 : Nat → Prop} {H H1 : Heap} (hP : va_P D cl (a ++ b) H) (hD : va_D A0 (a ++ b)) (hk : ∀ q : Nat, q < H.size → ¬ va_A a H.size q → H1[q]? = H[q]?) (hF : ∀ q, va_A a H.size q → A0 q) (hP1 : va_P D cl a' H1) (hD1 : va_D (va_A a H.size) a') : va_P D cl (a' ++ b) H1 ∧ va_D A0 (a' ++ b) := by
  have hb : ∀ (k : Nat) (q : Nat × va_E), b[k]? = some q → (a ++ b)[a.length + k]? = some q := fun k q h => by
    rw [List.getElem?_append_right (by omega)]
    rw [show a.length + k - a.length = k by omega]
    exact h
  have apart : ∀ (k : Nat) (q : Nat × va_E), b[k]? = some q → q.1 < H.size ∧ ¬ va_A a H.size q.1 := by
    intro k q hq
    have hl := (hP _ q (hb k q hq)).lt
    refine ⟨hl, fun h => ?_⟩
    rcases h with ⟨k2, e, h⟩ | h
    · have h2 : (a ++ b)[k2]? = some (q.1, e) := by
        rw [List.getElem?_append_left (List.getElem?_eq_some_iff.mp h).1]
        exact h
      have := hD.1 _ _ q (q.1, e) (hb k q hq) h2 rfl
      have h3 := (List.getElem?_eq_some_iff.mp h).1
      omega
    · omega
  refine ⟨va_P.app hP1 (fun k q hq => ?_), va_D.app (hD1.weaken (fun k q _ h => hF q.1 h)) ⟨fun i j x y hx hy hxy => ?_, fun k q hk2 => hD.2 _ q (hb k q hk2)⟩ (fun i j x y hx hy hxy => ?_)⟩
  · obtain ⟨g1, g2⟩ := apart k q hq
    exact (hP _ q (hb k q hq)).kept (hk q.1 g1 g2)
  · have := hD.1 _ _ x y (hb i x hx) (hb j y hy) hxy
    omega
  · exact (apart j y hy).2 (by rw [← hxy]; exact hD1.2 i x hx)
theorem fr_R {D : va_G} {cl : List vw_C} {a b b' : va_W} {A0 : Nat → Prop} {H H1 : Heap} (hP : va_P D cl (a ++ b) H) (hD : va_D A0 (a ++ b)) (hk : ∀ q : Nat, q < H.size → ¬ va_A b H.size q → H1[q]? = H[q]?) (hF : ∀ q, va_A b H.size q → A0 q) (hP1 : va_P D cl b' H1) (hD1 : va_D (va_A b H.size) b') : va_P D cl (a ++ b') H1 ∧ va_D A0 (a ++ b') := by
  have ha : ∀ (k : Nat) (q : Nat × va_E), a[k]? = some q → (a ++ b)[k]? = some q := fun k q h => by
    rw [List.getElem?_append_left (List.getElem?_eq_some_iff.mp h).1]
    exact h
  have apart : ∀ (k : Nat) (q : Nat × va_E), a[k]? = some q → q.1 < H.size ∧ ¬ va_A b H.size q.1 := by
    intro k q hq
    have hl := (hP _ q (ha k q hq)).lt
    refine ⟨hl, fun h => ?_⟩
    rcases h with ⟨k2, e, h⟩ | h
    · have h2 : (a ++ b)[a.length + k2]? = some (q.1, e) := by
        rw [List.getElem?_append_right (by omega)]
        rw [show a.length + k2 - a.length = k2 by omega]
        exact h
      have := hD.1 _ _ q (q.1, e) (ha k q hq) h2 rfl
      have h3 := (List.getElem?_eq_some_iff.mp hq).1
      omega
    · omega
  refine ⟨va_P.app (fun k q hq => ?_) hP1, va_D.app ⟨fun i j x y hx hy hxy => ?_, fun k q hk2 => hD.2 _ q (ha k q hk2)⟩ (hD1.weaken (fun k q _ h => hF q.1 h)) (fun i j x y hx hy hxy => ?_)⟩
  · obtain ⟨g1, g2⟩ := apart k q hq
    exact (hP _ q (ha k q hq)).kept (hk q.1 g1 g2)
  · exact hD.1 _ _ x y (ha i x hx) (ha j y hy) hxy
  · exact (apart i x hx).2 (by rw [hxy]; exact hD1.2 j y hy)
theorem fr_PL {D : va_G} {cl : List vw_C} {a b : va_W} {H : Heap} (hP : va_P D cl (a ++ b) H) : va_P D cl a H := fun k q h => hP k q (by rw [List.getElem?_append_left (List.getElem?_eq_some_iff.mp h).1]; exact h)
theorem fr_PR {D : va_G} {cl : List vw_C} {a b : va_W} {H : Heap} (hP : va_P D cl (a ++ b) H) : va_P D cl b H := fun k q h => hP (a.length + k) q (by rw [List.getElem?_append_right (by omega), show a.length + k - a.length = k by omega]; exact h)
theorem fr_DL {a b : va_W} {A : Nat → Prop} (hD : va_D A (a ++ b)) : va_D A a := ⟨fun i j x y hx hy h => hD.1 i j x y (by rw [List.getElem?_append_left (List.getElem?_eq_some_iff.mp hx).1]; exact hx) (by rw [List.getElem?_append_left (List.getElem?_eq_some_iff.mp hy).1]; exact hy) h, fun k q h => hD.2 k q (by rw [List.getElem?_append_left (List.getElem?_eq_some_iff.mp h).1]; exact h)⟩
theorem fr_DR {a b : va_W} {A : Nat → Prop} (hD : va_D A (a ++ b)) : va_D A b := ⟨fun i j x y hx hy h => by
    have := hD.1 (a.length + i) (a.length + j) x y (by rw [List.getElem?_append_right (by omega), show a.length + i - a.length = i by omega]; exact hx) (by rw [List.getElem?_append_right (by omega), show a.length + j - a.length = j by omega]; exact hy) h
    omega, fun k q h => hD.2 (a.length + k) q (by rw [List.getElem?_append_right (by omega), show a.length + k - a.length = k by omega]; exact h)⟩
def BkL (D : va_G) (cl : List vw_C) {σ : Type} (w : σ → va_W) (A : Nat → Prop) (p : Program) (l : Launch) (e : Env) (R : Room) (s0 : State) (m : MethodId) (args : Array Value) (below : List Frame) (meth : Method) (c : Code) (Q : State → Prop) (nL pc : Nat) (u : σ) (lvl : List (Nat × Value)) (stk : List Value) : Prop :=
  ∀ (H : Heap) (locs : List Loc) (ls : Array Slot), va_P D cl (w u) H → va_D A (w u) → va_S A s0.heap H locs → lv_has ls nL lvl → W p l e R s0 m args below meth c H locs 40 7166 Q (F0 m pc ls stk)
section KL
variable {p : Program} {l : Launch} {e : Env} {R : Room} {s0 : State} {m : MethodId} {args : Array Value} {below : List Frame} {meth : Method} {c : Code} {H : Heap} {locs : List Loc} {Q : State → Prop} {pc nL maxL n index sz k1 k2 : Nat} {ls : Array Slot} {lvl : List (Nat × Value)} {stk As rest av : List Value} {cc bytes : ByteArray} {own C : String} {Ts ws ws' : List Cond} {y : MethodName} {ret : Option FieldType} {rm : Room} {D : va_G} {cl : List vw_C} {tys : List (ClassId × FieldType)} {σ : Type} {w : σ → va_W} {v : va_W} {A : Nat → Prop} {u : σ} {b : Nat}
theorem lc_X {Post : Int32 → σ → Prop} (S : CallFix p m c cc nL s0 args Ts own) (hK : va_K D cl tys s0) (hP : va_P D cl (w u ++ v) H) (hD : va_D A (w u ++ v)) (hS : va_S A s0.heap H locs) (hA : ∀ q, s0.heap.size ≤ q → A q)
    (hM : CtI l y ws rm D cl tys w H.size (.ref b :: As) u Post) (cw : CallW R s0 args own C index y bytes maxL ret ws rm 0 0 n)
    (hrec : ∃ cellB : Cell, H[b]? = some cellB ∧ cellB.vm.isStatics = false ∧ s0.vm.findClass C = some cellB.cls)
    (hn : As.length = n) (hl : lv_has ls nL lvl) (hstack : stk = As.reverse ++ .ref b :: rest) (hroom : (rest.map fun v => v.category).sum ≤ 8) (hdg : decode cc pc = .ok (.invokevirtual index, 3)) (hf : k1 + 0 ≤ R.cells ∧ k2 + 0 ≤ R.slots)
    (kk : ∀ (r : Int32) (u' : σ), Post r u' → ∀ (H : Heap) (locs : List Loc) (ls : Array Slot), va_P D cl (w u' ++ v) H → va_D A (w u' ++ v) → va_S A s0.heap H locs → lv_has ls nL lvl → W p l e R s0 m args below meth c H locs k1 k2 Q (F0 m (pc + 3) ls (.int r :: rest))) :
    W p l e R s0 m args below meth c H locs k1 k2 Q (F0 m pc ls stk) := by
  subst hstack
  have hFc := cg_free (w := w) (u := u) (fr_DL hD) hS hA
  refine va_calli (va_runV (As := As) (rest := rest) S hM cw ⟨cg_blind _ _ _, hrec, cg_pre _ hK (fr_PL hP) (fr_DL hD)⟩ rfl hn hl.1 rfl (lv_room hroom) hdg hf) hS (fun q _ h => hFc q h) hFc ?_
  intro r u' t H1 locs1 ht hvm hm hB hz1 hk1 hS1
  obtain ⟨hP1, hK1, hD1⟩ := hB
  rw [ht] at hP1
  obtain ⟨g1, g2⟩ := fr_L hP hD hk1 hFc hP1 hD1
  exact kk r u' hm H1 locs1 ls g1 g2 hS1 hl
theorem lc_M {Post : Int32 → σ → Prop} (S : CallFix p m c cc nL s0 args Ts own) (hK : va_K D cl tys s0) (hP : va_P D cl (v ++ w u) H) (hD : va_D A (v ++ w u)) (hS : va_S A s0.heap H locs) (hA : ∀ q, s0.heap.size ≤ q → A q)
    (hM : CtI l y ws rm D cl tys w H.size (.ref b :: As) u Post) (cw : CallW R s0 args own C index y bytes maxL ret ws rm 0 0 n)
    (hrec : ∃ cellB : Cell, H[b]? = some cellB ∧ cellB.vm.isStatics = false ∧ s0.vm.findClass C = some cellB.cls)
    (hn : As.length = n) (hl : lv_has ls nL lvl) (hstack : stk = As.reverse ++ .ref b :: rest) (hroom : (rest.map fun v => v.category).sum ≤ 8) (hdg : decode cc pc = .ok (.invokevirtual index, 3)) (hf : k1 + 0 ≤ R.cells ∧ k2 + 0 ≤ R.slots)
    (kk : ∀ (r : Int32) (u' : σ), Post r u' → ∀ (H : Heap) (locs : List Loc) (ls : Array Slot), va_P D cl (v ++ w u') H → va_D A (v ++ w u') → va_S A s0.heap H locs → lv_has ls nL lvl → W p l e R s0 m args below meth c H locs k1 k2 Q (F0 m (pc + 3) ls (.int r :: rest))) :
    W p l e R s0 m args below meth c H locs k1 k2 Q (F0 m pc ls stk) := by
  subst hstack
  have hFc := cg_free (w := w) (u := u) (fr_DR hD) hS hA
  refine va_calli (va_runV (As := As) (rest := rest) S hM cw ⟨cg_blind _ _ _, hrec, cg_pre _ hK (fr_PR hP) (fr_DR hD)⟩ rfl hn hl.1 rfl (lv_room hroom) hdg hf) hS (fun q _ h => hFc q h) hFc ?_
  intro r u' t H1 locs1 ht hvm hm hB hz1 hk1 hS1
  obtain ⟨hP1, hK1, hD1⟩ := hB
  rw [ht] at hP1
  obtain ⟨g1, g2⟩ := fr_R hP hD hk1 hFc hP1 hD1
  exact kk r u' hm H1 locs1 ls g1 g2 hS1 hl
end KL
