/-! PURE. The reference writes. -/
def pb (v : Int32) (k : Nat) : Int32 := (v >>> (((8 : Int32) * nI k) &&& 31)) &&& 255
def eP (v : Int32) : Nat → List Int32
  | 0 => []
  | k + 1 => pb v k :: eP v k
theorem eP_len (v : Int32) : ∀ n, (eP v n).length = n
  | 0 => rfl
  | n + 1 => by
    unfold eP
    rw [List.length_cons, eP_len v n]
theorem shr0 (v : Int32) : v >>> ((8 * nI 0) &&& 31) = v := by
  rw [show ((8 : Int32) * nI 0) &&& 31 = 0 by decide]
  apply Int32.toInt_inj.mp
  rw [pk_shr v 0 0 (by decide)]
  simp
theorem eP_1 (v : Int32) : eP v 1 = e1 v := by
  show [pb v 0] = [v &&& 255]
  unfold pb
  rw [shr0]
theorem eP_2 (v : Int32) : eP v 2 = e2 v := by
  show [pb v 1, pb v 0] = [(v >>> ((8 : Int32) &&& 31)) &&& 255, v &&& 255]
  unfold pb
  rw [shr0, show ((8 : Int32) * nI 1) &&& 31 = (8 : Int32) &&& 31 by decide]
theorem eP_4 (v : Int32) : eP v 4 = e4 v := by
  show [pb v 3, pb v 2, pb v 1, pb v 0] = [((v >>> ((16 : Int32) &&& 31)) >>> ((8 : Int32) &&& 31)) &&& 255, (v >>> ((16 : Int32) &&& 31)) &&& 255, (v >>> ((8 : Int32) &&& 31)) &&& 255, v &&& 255]
  have h : v >>> (((8 : Int32) * nI 3) &&& 31) = (v >>> ((16 : Int32) &&& 31)) >>> ((8 : Int32) &&& 31) := by
    apply Int32.toInt_inj.mp
    rw [pk_shr v _ 24 (by decide), pk_shr _ _ 8 (by decide), pk_shr v _ 16 (by decide), ← Int.shiftRight_add]
  unfold pb
  rw [shr0, h, show ((8 : Int32) * nI 1) &&& 31 = (8 : Int32) &&& 31 by decide, show ((8 : Int32) * nI 2) &&& 31 = (16 : Int32) &&& 31 by decide]
theorem pb_0 (k : Nat) : pb 0 k = 0 := by
  unfold pb
  rw [Int32.zero_shiftRight]
  rfl
theorem eP_0 : ∀ n, eP 0 n = eZ n
  | 0 => rfl
  | n + 1 => by
    have key : ∀ m, e1 0 ++ eZ m = eZ m ++ e1 0 := by
      intro m
      induction m with
      | zero => rfl
      | succ m ih =>
        unfold eZ
        rw [← List.append_assoc, ih]
    show pb 0 n :: eP 0 n = eZ n ++ e1 0
    rw [pb_0, eP_0 n, ← key]
    rfl
def OutM (t : St) (l : List Int32) : Prop := t 19 15 = nI l.length ∧ ∀ k, k < l.length → t 14 k = l.getD k 0
def WM (t : St) (l : List Int32) (ca pu fa : Nat) : Prop := OutM t l ∧ t 19 13 = nI ca ∧ t 19 14 = nI pu ∧ t 19 11 = nI fa
abbrev KV (s t : St) : Prop := Keep 19 [14] [11, 13, 14, 15] s t
theorem KV.tr {a b c : St} (h : KV a b) (g : KV b c) : KV a c := Keep.tr h g
section MP
variable {t : St} {Post : St → Prop} {l : List Int32} {ca pu fa : Nat} {v : Int32}
theorem M_put {n : Nat} (h : WM t l ca pu fa) (hl : l.length + n ≤ 1200) (k : ∀ t', KV t t' → WM t' (l ++ eP v n) ca pu fa → Post t') : x_Model_put t v (nI n) Post := by
  unfold x_Model_put
  rintro v1 rfl
  unfold x_Model_put_4
  refine itr_go (fun a => ∃ (r : Nat) (l' : List Int32), r ≤ n ∧ a.2.1 = v ∧ a.2.2 = nI r - 1 ∧ KV t a.1 ∧ WM a.1 l' ca pu fa ∧ l' ++ eP v r = l ++ eP v n) (fun a => (a.2.2 + 1).toNatClampNeg) _ ⟨n, l, Nat.le_refl n, rfl, rfl, Keep.rf, h, rfl⟩ ?_
  rintro K ⟨t1, x1, x3⟩ ⟨r, l', g1, g2, g3, g4, g5, g6⟩ hK
  dsimp only at g2 g3 g4 g5 hK ⊢
  subst g2 g3
  have hlen := congrArg List.length g6
  rw [List.length_append, List.length_append, eP_len, eP_len] at hlen
  unfold x_Model_put_4F
  rcases Nat.eq_zero_or_pos r with z | z
  · subst z
    rw [show eP x1 0 = [] from rfl, List.append_nil] at g6
    subst g6
    exact ⟨fun _ => k t1 g4 g5, fun q => absurd (show nI 0 - 1 < 0 by decide) q⟩
  · obtain ⟨q, rfl⟩ : ∃ q, r = q + 1 := ⟨r - 1, by omega⟩
    have hx3 : nI (q + 1) - 1 = nI q := pk_sub (a := q + 1) (b := 1) (by omega)
    rw [hx3] at hK ⊢
    refine ⟨fun y => absurd y (nI_pos (by omega)), fun _ => ?_⟩
    obtain ⟨⟨o1, o2⟩, o3, o4, o5⟩ := g5
    rw [o1]
    refine ⟨vp_in_nI (by omega) (by omega), ?_⟩
    rintro s4 rfl s5 rfl v6 rfl
    rw [nI_clamp (by omega)]
    refine hK _ ⟨q, l' ++ [pb x1 q], by omega, rfl, ?_, (g4.arr (by decide) (by decide)).scal (by decide), ⟨⟨?_, fun j hj => ?_⟩, o3, o4, o5⟩, ?_⟩ ?_
    · show nI q + (-1) = nI q - 1
      rw [Int32.sub_eq_add_neg]
    · dsimp only
      rw [su_at, su_row _ _ _ _ _ (by decide), o1, List.length_append]
      exact nI_1 _
    · dsimp only
      rw [List.length_append] at hj
      rw [su_row _ _ _ _ _ (by decide)]
      by_cases e : j = l'.length
      · rw [e, su_at]
        simp [pb]
      · have hj' : j < l'.length := by simp at hj; omega
        rw [su_ne _ _ _ _ _ e, o2 j hj']
        simp [List.getD_eq_getElem?_getD, List.getElem?_append_left hj']
    · rw [List.append_assoc]
      exact g6
    · dsimp only
      rw [show nI q + (-1) + 1 = nI q by rw [← Int32.sub_eq_add_neg, Int32.sub_add_cancel], nI_1, nI_clamp (by omega), nI_clamp (by omega)]
      omega
theorem M_put1 (h : WM t l ca pu fa) (hl : l.length + 1 ≤ 1200) (k : ∀ t', KV t t' → WM t' (l ++ e1 v) ca pu fa → Post t') : x_Model_put t v 1 Post := M_put (n := 1) h hl (fun t' a1 a2 => k t' a1 (by rw [← eP_1]; exact a2))
theorem M_put2 (h : WM t l ca pu fa) (hl : l.length + 2 ≤ 1200) (k : ∀ t', KV t t' → WM t' (l ++ e2 v) ca pu fa → Post t') : x_Model_put t v 2 Post := M_put (n := 2) h hl (fun t' a1 a2 => k t' a1 (by rw [← eP_2]; exact a2))
theorem M_put4 (h : WM t l ca pu fa) (hl : l.length + 4 ≤ 1200) (k : ∀ t', KV t t' → WM t' (l ++ e4 v) ca pu fa → Post t') : x_Model_put t v 4 Post := M_put (n := 4) h hl (fun t' a1 a2 => k t' a1 (by rw [← eP_4]; exact a2))
theorem M_call {b w : Nat} (h : WM t l ca pu fa) (hb : t 19 2 = nI b) (hl : l.length + 3 ≤ 1200) (k : ∀ t', KV t t' → WM t' (l ++ eCall b w) (ca + 1) pu fa → Post t') : x_Model_call t (nI w) Post := by
  unfold x_Model_call
  refine M_put1 h (by omega) (fun s2 a1 a2 => ?_)
  rw [a1.2 2 (by decide), hb, nI_add]
  refine M_put2 a2 (by rw [List.length_append, e1_len]; omega) (fun s4 b1 b2 => ?_)
  rintro s5 rfl
  rw [List.append_assoc] at b2
  obtain ⟨⟨c1, c2⟩, c3, c4, c5⟩ := b2
  refine k _ ((a1.tr b1).scal (by decide)) ⟨⟨c1, c2⟩, ?_, c4, c5⟩
  rw [su_at, c3]
  exact nI_1 _
theorem M_push (h : WM t l ca pu fa) (k : ∀ t', KV t t' → WM t' l ca (pu + 1) fa → Post t') : ∀ s3 : St, s3 = su t 19 14 ((t 19 14) + (1 : Int32)) → Post s3 := by
  rintro s3 rfl
  obtain ⟨⟨c1, c2⟩, c3, c4, c5⟩ := h
  refine k _ (Keep.rf.scal (by decide)) ⟨⟨c1, c2⟩, c3, ?_, c5⟩
  rw [su_at, c4]
  exact nI_1 _
theorem M_twice {b w : Nat} (h : WM t l ca pu fa) (hb : t 19 2 = nI b) (hl : l.length + 4 ≤ 1200) (k : ∀ t', KV t t' → WM t' (l ++ (e1 89 ++ eCall b w)) (ca + 1) (pu + 1) fa → Post t') : x_Model_twice t (nI w) Post := by
  unfold x_Model_twice
  refine M_put1 h (by omega) (fun s2 a1 a2 => M_push a2 (fun s3 b1 b2 => M_call (b := b) b2 (by rw [b1.2 2 (by decide), a1.2 2 (by decide)]; exact hb) (by rw [List.length_append, e1_len]; omega) (fun s4 c1 c2 => k s4 ((a1.tr b1).tr c1) ?_)))
  rw [List.append_assoc] at c2
  exact c2
end MP
