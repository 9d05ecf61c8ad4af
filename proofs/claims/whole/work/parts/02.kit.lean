/-! States, worlds, contracts by a weakest-precondition predicate: rows that hold for every world. -/
/-- a state: numbers by row and place -/
abbrev St : Type := Nat → Nat → Int32
def su (s : St) (r k : Nat) (x : Int32) : St := fun q => if q = r then upd (s r) k x else s q
/-- a loop's predicate, by the number of turns that are left -/
def itr {α : Type} (F : (α → Prop) → α → Prop) : Nat → α → Prop
  | 0, _ => False
  | n + 1, a => F (itr F n) a
theorem itr_ind {α : Type} (F : (α → Prop) → α → Prop) (I : α → Prop) (μ : α → Nat) (hs : ∀ (K : α → Prop) (a : α), I a → (∀ b, I b → μ b < μ a → K b) → F K a) : ∀ (n : Nat) (a : α), I a → μ a < n → itr F n a := by
  intro n
  induction n with
  | zero => intro a _ h; omega
  | succ n ih =>
    intro a ha h
    exact hs (itr F n) a ha (fun b hb hlt => ih b hb (by omega))
def preG (D : va_G) (cl : List vw_C) (tys : List (ClassId × FieldType)) {σ : Type} (w : σ → va_W) (sz : Nat) (u : σ) (U : State) : Prop := U.heap.size = sz ∧ va_P D cl (w u) U.heap ∧ va_K D cl tys U ∧ va_D (fun _ => True) (w u)
def atG (D : va_G) (cl : List vw_C) (tys : List (ClassId × FieldType)) {σ : Type} (w : σ → va_W) (A : Nat → Prop) (u : σ) (t : State) : Prop := va_P D cl (w u) t.heap ∧ va_K D cl tys t ∧ va_D A (w u)
def CtI (l : Launch) (y : MethodName) (ws : List Cond) (rm : Room) (D : va_G) (cl : List vw_C) (tys : List (ClassId × FieldType)) {σ : Type} (w : σ → va_W) (sz : Nat) (av : List Value) (u : σ) (Post : Int32 → σ → Prop) : Prop :=
  Met l y ws rm (va_Pc av (preG D cl tys w sz u)) (va_Qi Post (atG D cl tys w (va_A (w u) sz)) (va_A (w u) sz)) 0 0 (va_A (w u) sz)
def CtV (l : Launch) (y : MethodName) (ws : List Cond) (rm : Room) (D : va_G) (cl : List vw_C) (tys : List (ClassId × FieldType)) {σ : Type} (w : σ → va_W) (sz : Nat) (av : List Value) (u : σ) (Post : σ → Prop) : Prop :=
  Met l y ws rm (va_Pc av (preG D cl tys w sz u)) (va_Qv Post (atG D cl tys w (va_A (w u) sz)) (va_A (w u) sz)) 0 0 (va_A (w u) sz)
/-- the machine at pc, in any heap that holds the world of u -/
def Bk (D : va_G) (cl : List vw_C) {σ : Type} (w : σ → va_W) (A : Nat → Prop) (p : Program) (l : Launch) (e : Env) (R : Room) (s0 : State) (m : MethodId) (args : Array Value) (below : List Frame) (meth : Method) (c : Code) (Q : State → Prop) (nL pc : Nat) (u : σ) (lvl : List (Nat × Value)) (stk : List Value) : Prop :=
  ∀ (H : Heap) (locs : List Loc) (ls : Array Slot), va_P D cl (w u) H → va_D A (w u) → va_S A s0.heap H locs → lv_has ls nL lvl → W p l e R s0 m args below meth c H locs 0 0 Q (F0 m pc ls stk)
section KG
variable {p : Program} {l : Launch} {e : Env} {R : Room} {s0 : State} {m : MethodId} {args : Array Value} {below : List Frame} {meth : Method} {c : Code} {H : Heap} {locs : List Loc} {Q : State → Prop} {pc nL maxL n index sz : Nat} {ls : Array Slot} {lvl : List (Nat × Value)} {stk As rest av : List Value} {cc bytes : ByteArray} {own C : String} {Ts ws ws' : List Cond} {y : MethodName} {ret : Option FieldType} {rm : Room} {D : va_G} {cl : List vw_C} {tys : List (ClassId × FieldType)} {σ : Type} {w : σ → va_W} {A : Nat → Prop} {u : σ} {b : Nat}
theorem ct_i {Post : Int32 → σ → Prop} (hy : plainName y.cls = true) (hw : ws = Cond.code y cc maxL ret :: ws') (hn : (lg_sl av).length ≤ maxL)
    (body : ∀ (p : Program) (e : Env) (s0 : State) (m : MethodId) (args : Array Value) (below : List Frame) (meth : Method) (c : Code) (A : Nat → Prop), p.tables.exec = Jvm.exec → c.code = cc → meth.sig.returnType = ret → (∀ w ∈ ws', w.before args s0 = true) → s0.vm.findClass y.cls = some m.cls → meth.locks = false → c.maxLocals = maxL → va_K D cl tys s0 → (∀ q, s0.heap.size ≤ q → A q) →
      Bk D cl w A p l e rm s0 m args below meth c (MQ below (va_Qi Post (atG D cl tys w A) A) args s0 0 0 A) maxL 0 u (lv_args 0 av) []) : CtI l y ws rm D cl tys w sz av u Post := by
  refine Met.ofW (cc := cc) (maxL := maxL) (ret := ret) hy hw ?_
  intro p e s m args below meth c s₁ B hml hv
  obtain ⟨rfl, hsz, hP, hK, hD0⟩ := hv
  subst hsz
  rw [lg_entry_eq]
  exact body p e s m _ below meth c (va_A (w u) s.heap.size) B.exec B.bytes B.returns (fun w h => atoms_spec (ws := ws) B.pre w (by rw [hw]; exact List.mem_cons_of_mem _ h)) (findClass_of_methodNamed B.named) B.notSynchronized hml hK (fun q h => Or.inr h) s.heap [] _ hP (hD0.self (sz := s.heap.size)) va_S.rf (lv_entry av hn)
theorem ct_v {Post : σ → Prop} (hy : plainName y.cls = true) (hw : ws = Cond.code y cc maxL ret :: ws') (hn : (lg_sl av).length ≤ maxL)
    (body : ∀ (p : Program) (e : Env) (s0 : State) (m : MethodId) (args : Array Value) (below : List Frame) (meth : Method) (c : Code) (A : Nat → Prop), p.tables.exec = Jvm.exec → c.code = cc → meth.sig.returnType = ret → (∀ w ∈ ws', w.before args s0 = true) → s0.vm.findClass y.cls = some m.cls → meth.locks = false → c.maxLocals = maxL → va_K D cl tys s0 → (∀ q, s0.heap.size ≤ q → A q) →
      Bk D cl w A p l e rm s0 m args below meth c (MQ below (va_Qv Post (atG D cl tys w A) A) args s0 0 0 A) maxL 0 u (lv_args 0 av) []) : CtV l y ws rm D cl tys w sz av u Post := by
  refine Met.ofW (cc := cc) (maxL := maxL) (ret := ret) hy hw ?_
  intro p e s m args below meth c s₁ B hml hv
  obtain ⟨rfl, hsz, hP, hK, hD0⟩ := hv
  subst hsz
  rw [lg_entry_eq]
  exact body p e s m _ below meth c (va_A (w u) s.heap.size) B.exec B.bytes B.returns (fun w h => atoms_spec (ws := ws) B.pre w (by rw [hw]; exact List.mem_cons_of_mem _ h)) (findClass_of_methodNamed B.named) B.notSynchronized hml hK (fun q h => Or.inr h) s.heap [] _ hP (hD0.self (sz := s.heap.size)) va_S.rf (lv_entry av hn)
theorem rt_i {Post : Int32 → σ → Prop} {v : Int32} (hx : p.tables.exec = Jvm.exec) (hb : c.code = cc) (hr : meth.sig.returnType = some .int) (hlocks : meth.locks = false) (hK : va_K D cl tys s0) (hP : va_P D cl (w u) H) (hD : va_D A (w u)) (hS : va_S A s0.heap H locs) (hdg : decode cc pc = .ok (.ireturn, 1)) (hm : Post v u) :
    W p l e R s0 m args below meth c H locs 0 0 (MQ below (va_Qi Post (atG D cl tys w A) A) args s0 0 0 A) (F0 m pc ls [.int v]) :=
  W.iret (v := v) hx hb hr (fun t ht hW => ⟨⟨v, u, rfl, hm, by rw [ht]; exact hP, va_K.moved hW.alike hK, hD⟩, hS.F ht⟩) hS.2.2 hdg hlocks
theorem rt_z {Post : Int32 → σ → Prop} {v : Int32} {ty : FieldType} (hx : p.tables.exec = Jvm.exec) (hb : c.code = cc) (hr : meth.sig.returnType = some ty) (hn : narrow ty (.int v) = .int v) (hlocks : meth.locks = false) (hK : va_K D cl tys s0) (hP : va_P D cl (w u) H) (hD : va_D A (w u)) (hS : va_S A s0.heap H locs) (hdg : decode cc pc = .ok (.ireturn, 1)) (hm : Post v u) :
    W p l e R s0 m args below meth c H locs 0 0 (MQ below (va_Qi Post (atG D cl tys w A) A) args s0 0 0 A) (F0 m pc ls [.int v]) :=
  W.zret (v := v) hx hb hr hn (fun t ht hW => ⟨⟨v, u, rfl, hm, by rw [ht]; exact hP, va_K.moved hW.alike hK, hD⟩, hS.F ht⟩) hS.2.2 hdg hlocks
theorem rt_v {Post : σ → Prop} (hx : p.tables.exec = Jvm.exec) (hb : c.code = cc) (hr : meth.sig.returnType = none) (hlocks : meth.locks = false) (hK : va_K D cl tys s0) (hP : va_P D cl (w u) H) (hD : va_D A (w u)) (hS : va_S A s0.heap H locs) (hdg : decode cc pc = .ok (.return_, 1)) (hm : Post u) :
    W p l e R s0 m args below meth c H locs 0 0 (MQ below (va_Qv Post (atG D cl tys w A) A) args s0 0 0 A) (F0 m pc ls []) :=
  W.vret hx hb hr (fun t ht hW => ⟨⟨u, rfl, hm, by rw [ht]; exact hP, va_K.moved hW.alike hK, hD⟩, hS.F ht⟩) hS.2.2 hdg hlocks
theorem cg_free (hD : va_D A (w u)) (hS : va_S A s0.heap H locs) (hA : ∀ q, s0.heap.size ≤ q → A q) : ∀ q, va_A (w u) H.size q → A q := by
  intro q h
  rcases h with ⟨k, e, h⟩ | h
  · exact hD.2 k (q, e) h
  · exact hA q (Nat.le_trans hS.1 h)
theorem cg_blind (av : List Value) (sz : Nat) (u : σ) : FrameBlind (va_Pc av (preG D cl tys w sz u)) := by
  intro a U g mk q
  obtain ⟨q0, q1, qP, qK, qD⟩ := q
  exact ⟨q0, q1, qP, va_K.moved (u := U) (U := U.calling g mk a) (Vm.Alike.refl U.vm) qK, qD⟩
theorem cg_pre (av : List Value) (hK : va_K D cl tys s0) (hP : va_P D cl (w u) H) (hD : va_D A (w u)) : ∀ U : State, U.heap = H → s0.WarmedH U.vm → va_Pc av (preG D cl tys w H.size u) av.toArray U := by
  intro U hU hW
  exact ⟨rfl, by rw [hU], by rw [hU]; exact hP, va_K.moved hW.alike hK, hD.weaken (fun _ _ _ _ => trivial)⟩
theorem cg_Vi {Post : Int32 → σ → Prop} (S : CallFix p m c cc nL s0 args Ts own) (hK : va_K D cl tys s0) (hP : va_P D cl (w u) H) (hD : va_D A (w u)) (hS : va_S A s0.heap H locs) (hA : ∀ q, s0.heap.size ≤ q → A q)
    (hM : CtI l y ws rm D cl tys w H.size (.ref b :: As) u Post) (cw : CallW R s0 args own C index y bytes maxL ret ws rm 0 0 n)
    (hrec : ∃ cellB : Cell, H[b]? = some cellB ∧ cellB.vm.isStatics = false ∧ s0.vm.findClass C = some cellB.cls)
    (hn : As.length = n) (hl : lv_has ls nL lvl) (hstack : stk = As.reverse ++ .ref b :: rest) (hroom : (rest.map fun v => v.category).sum ≤ 8) (hdg : decode cc pc = .ok (.invokevirtual index, 3))
    (kk : ∀ (r : Int32) (u' : σ), Post r u' → Bk D cl w A p l e R s0 m args below meth c Q nL (pc + 3) u' lvl (.int r :: rest)) :
    W p l e R s0 m args below meth c H locs 0 0 Q (F0 m pc ls stk) := by
  subst hstack
  have hFc := cg_free (w := w) (u := u) hD hS hA
  refine va_calli (va_runV (As := As) (rest := rest) S hM cw ⟨cg_blind _ _ _, hrec, cg_pre _ hK hP hD⟩ rfl hn hl.1 rfl (lv_room hroom) hdg ⟨Nat.zero_le _, Nat.zero_le _⟩) hS (fun q _ h => hFc q h) hFc ?_
  intro r u' t H1 locs1 ht hvm hm hB hz1 hk1 hS1
  obtain ⟨hP1, hK1, hD1⟩ := hB
  rw [ht] at hP1
  exact kk r u' hm H1 locs1 ls hP1 (hD1.weaken (fun k q _ h => hFc q.1 h)) hS1 hl
theorem cg_Vv {Post : σ → Prop} (S : CallFix p m c cc nL s0 args Ts own) (hK : va_K D cl tys s0) (hP : va_P D cl (w u) H) (hD : va_D A (w u)) (hS : va_S A s0.heap H locs) (hA : ∀ q, s0.heap.size ≤ q → A q)
    (hM : CtV l y ws rm D cl tys w H.size (.ref b :: As) u Post) (cw : CallW R s0 args own C index y bytes maxL ret ws rm 0 0 n)
    (hrec : ∃ cellB : Cell, H[b]? = some cellB ∧ cellB.vm.isStatics = false ∧ s0.vm.findClass C = some cellB.cls)
    (hn : As.length = n) (hl : lv_has ls nL lvl) (hstack : stk = As.reverse ++ .ref b :: rest) (hroom : (rest.map fun v => v.category).sum ≤ 8) (hdg : decode cc pc = .ok (.invokevirtual index, 3))
    (kk : ∀ (u' : σ), Post u' → Bk D cl w A p l e R s0 m args below meth c Q nL (pc + 3) u' lvl rest) :
    W p l e R s0 m args below meth c H locs 0 0 Q (F0 m pc ls stk) := by
  subst hstack
  have hFc := cg_free (w := w) (u := u) hD hS hA
  refine va_callv (va_runV (As := As) (rest := rest) S hM cw ⟨cg_blind _ _ _, hrec, cg_pre _ hK hP hD⟩ rfl hn hl.1 rfl (lv_room hroom) hdg ⟨Nat.zero_le _, Nat.zero_le _⟩) hS (fun q _ h => hFc q h) hFc ?_
  intro u' t H1 locs1 ht hvm hm hB hz1 hk1 hS1
  obtain ⟨hP1, hK1, hD1⟩ := hB
  rw [ht] at hP1
  exact kk u' hm H1 locs1 ls hP1 (hD1.weaken (fun k q _ h => hFc q.1 h)) hS1 hl
theorem cg_Si {Post : Int32 → σ → Prop} (S : CallFix p m c cc nL s0 args Ts own) (hK : va_K D cl tys s0) (hP : va_P D cl (w u) H) (hD : va_D A (w u)) (hS : va_S A s0.heap H locs) (hA : ∀ q, s0.heap.size ≤ q → A q)
    (hM : CtI l y ws rm D cl tys w H.size As u Post) (cw : CallB R s0 args own index y bytes maxL ret ws rm 0 0 n ∧ (Cond.static y).before args s0 = true)
    (hn : As.length = n) (hl : lv_has ls nL lvl) (hstack : stk = As.reverse ++ rest) (hroom : (rest.map fun v => v.category).sum ≤ 8) (hdg : decode cc pc = .ok (.invokestatic index, 3))
    (kk : ∀ (r : Int32) (u' : σ), Post r u' → Bk D cl w A p l e R s0 m args below meth c Q nL (pc + 3) u' lvl (.int r :: rest)) :
    W p l e R s0 m args below meth c H locs 0 0 Q (F0 m pc ls stk) := by
  subst hstack
  have hFc := cg_free (w := w) (u := u) hD hS hA
  refine va_calli (va_runS (As := As) (rest := rest) S hM cw ⟨cg_blind _ _ _, cg_pre _ hK hP hD⟩ rfl hn hl.1 rfl (lv_room hroom) hdg ⟨Nat.zero_le _, Nat.zero_le _⟩) hS (fun q _ h => hFc q h) hFc ?_
  intro r u' t H1 locs1 ht hvm hm hB hz1 hk1 hS1
  obtain ⟨hP1, hK1, hD1⟩ := hB
  rw [ht] at hP1
  exact kk r u' hm H1 locs1 ls hP1 (hD1.weaken (fun k q _ h => hFc q.1 h)) hS1 hl
theorem cg_Sv {Post : σ → Prop} (S : CallFix p m c cc nL s0 args Ts own) (hK : va_K D cl tys s0) (hP : va_P D cl (w u) H) (hD : va_D A (w u)) (hS : va_S A s0.heap H locs) (hA : ∀ q, s0.heap.size ≤ q → A q)
    (hM : CtV l y ws rm D cl tys w H.size As u Post) (cw : CallB R s0 args own index y bytes maxL ret ws rm 0 0 n ∧ (Cond.static y).before args s0 = true)
    (hn : As.length = n) (hl : lv_has ls nL lvl) (hstack : stk = As.reverse ++ rest) (hroom : (rest.map fun v => v.category).sum ≤ 8) (hdg : decode cc pc = .ok (.invokestatic index, 3))
    (kk : ∀ (u' : σ), Post u' → Bk D cl w A p l e R s0 m args below meth c Q nL (pc + 3) u' lvl rest) :
    W p l e R s0 m args below meth c H locs 0 0 Q (F0 m pc ls stk) := by
  subst hstack
  have hFc := cg_free (w := w) (u := u) hD hS hA
  refine va_callv (va_runS (As := As) (rest := rest) S hM cw ⟨cg_blind _ _ _, cg_pre _ hK hP hD⟩ rfl hn hl.1 rfl (lv_room hroom) hdg ⟨Nat.zero_le _, Nat.zero_le _⟩) hS (fun q _ h => hFc q h) hFc ?_
  intro u' t H1 locs1 ht hvm hm hB hz1 hk1 hS1
  obtain ⟨hP1, hK1, hD1⟩ := hB
  rw [ht] at hP1
  exact kk u' hm H1 locs1 ls hP1 (hD1.weaken (fun k q _ h => hFc q.1 h)) hS1 hl
end KG
theorem good_tb : GoodIn tb tb := fun w h => ⟨h, good_of_word (List.mem_filter.mp h).2⟩
theorem good_cons {y : MethodName} {bytes : ByteArray} {maxL : Nat} {ret : Option FieldType} (h : Cond.code y bytes maxL ret ∈ tb) : GoodIn tb (Cond.code y bytes maxL ret :: tb) := by
  intro w hw
  rcases List.mem_cons.mp hw with e | e
  · rw [e]; exact good_tb _ h
  · exact good_tb _ e
section KW
variable {R : Room} {s : State} {args : Array Value} {own : String} {index : Nat} {y : MethodName} {bytes : ByteArray} {maxL : Nat} {ret : Option FieldType} {f lo : Nat}
/-- a call's words, of an instance method: all out of the one table -/
theorem cwA (n : Nat) (ht : ∀ w ∈ tb, w.before args s = true) (hc : Cond.code y bytes maxL ret ∈ tb) (hini : Cond.initialized y.cls ∈ tb) (hl : Cond.methodLink own index y ∈ tb) (hin : Cond.instanceMethod y ∈ tb) (hs : Cond.selects y.cls y y ∈ tb)
    (hd : y.cls ≠ "java/lang/invoke/MethodHandle" ∧ y.cls ≠ "java/lang/invoke/VarHandle" ∧ (parseMethodDescriptor y.desc).map (fun d => d.parameters.length) = some n) (hR : f + 1 ≤ R.frames ∧ 8 + (maxL + 11) + lo ≤ R.locals) :
    CallW R s args own y.cls index y bytes maxL ret (Cond.code y bytes maxL ret :: tb) { frames := f, cells := 0, slots := 0, locals := lo } 0 0 n :=
  ⟨callB_of n ht (good_cons hc) rfl rfl rfl (ht _ hini) (ht _ hl) hd hR, ht _ hin, ht _ hs⟩
/-- the same of a static method -/
theorem cwB (n : Nat) (ht : ∀ w ∈ tb, w.before args s = true) (hc : Cond.code y bytes maxL ret ∈ tb) (hini : Cond.initialized y.cls ∈ tb) (hl : Cond.methodLink own index y ∈ tb) (hst : Cond.static y ∈ tb)
    (hd : y.cls ≠ "java/lang/invoke/MethodHandle" ∧ y.cls ≠ "java/lang/invoke/VarHandle" ∧ (parseMethodDescriptor y.desc).map (fun d => d.parameters.length) = some n) (hR : f + 1 ≤ R.frames ∧ 8 + (maxL + 11) + lo ≤ R.locals) :
    CallB R s args own index y bytes maxL ret (Cond.code y bytes maxL ret :: tb) { frames := f, cells := 0, slots := 0, locals := lo } 0 0 n ∧ (Cond.static y).before args s = true :=
  ⟨callB_of n ht (good_cons hc) rfl rfl rfl (ht _ hini) (ht _ hl) hd hR, ht _ hst⟩
end KW
