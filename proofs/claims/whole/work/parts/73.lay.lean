/-! PURE. Where all stands: leads, new lengths, places, far jumps, rounds. -/
def wgt (w : Nat) : Nat := if w ≤ 5 then 1 else if w ≤ 127 then 2 else 3
/-- what stands in front of the instruction at p: lo a look, b a block begins, of cost w -/
def ldf (o : Nat → Nat) (lo b : Bool) (w p : Nat) : Nat := (if p = 0 then 3 else 0) + (if lo = true then 4 else 0) + (if b = true ∧ 0 < w then wgt w + 3 else 0) + (if kRet (o p) = true then 3 else 0) + (if kArr (o p) = true then 4 else 0)
theorem ldf_le (o : Nat → Nat) (lo b : Bool) (w p : Nat) : ldf o lo b w p ≤ 20 := by
  have hw : wgt w ≤ 3 := by
    unfold wgt
    split
    · omega
    · split <;> omega
  unfold ldf
  split <;> split <;> split <;> split <;> split <;> omega
def nlf (n : Nat) (o : Nat → Nat) (fr : Nat → Bool) (p sp : Nat) : Nat := if kSw (o p) = true then wf sp - sp + 4 * nw o p else if o p = 200 then 5 else if fr p = true then (if o p = 167 then 5 else 8) else ln n o p
def ps (n : Nat) (o : Nat → Nat) (ld : Nat → Nat) (fr : Nat → Bool) : Nat → Nat
  | 0 => 0
  | i + 1 => ps n o ld fr i + ld i + nlf n o fr (pl n o i) (ps n o ld fr i + ld i)
def spI (n : Nat) (o : Nat → Nat) (ld : Nat → Nat) (fr : Nat → Bool) (i : Nat) : Nat := ps n o ld fr i + ld i
def frI (n : Nat) (o : Nat → Nat) (ld : Nat → Nat) (fr : Nat → Bool) (i : Nat) : Nat := ps n o ld fr i + (if pl n o i = 0 then 3 else 0)
/-- which instruction begins at q -/
def ix (n : Nat) (o : Nat → Nat) (q : Nat) : Nat → Nat
  | 0 => 0
  | m + 1 => if pl n o m = q then m else ix n o q m
def dst (n : Nat) (o : Nat → Nat) (N : Nat) (ld : Nat → Nat) (fr : Nat → Bool) (i : Nat) : Int := (frI n o ld fr (ix n o (goal o (pl n o i) 0).toNatClampNeg N) : Int) - (spI n o ld fr i : Int)
def out (n : Nat) (o : Nat → Nat) (N : Nat) (ld : Nat → Nat) (rc : Nat) (fr : Nat → Bool) (i : Nat) : Bool := kSJ (o (pl n o i)) && !fr (pl n o i) && (decide (dst n o N ld fr i < -(rc : Int)) || decide ((rc : Int) < dst n o N ld fr i))
/-- the far jumps behind a round -/
def nxF (n : Nat) (o : Nat → Nat) (N : Nat) (ld : Nat → Nat) (rc : Nat) (fr : Nat → Bool) : Nat → Bool := fun q => fr q || (stB n o N q && out n o N ld rc fr (ix n o q N))
def frs (n : Nat) (o : Nat → Nat) (N : Nat) (ld : Nat → Nat) (rc : Nat) : Nat → Nat → Bool
  | 0 => fun _ => false
  | r + 1 => nxF n o N ld rc (frs n o N ld rc r)
def cntF (n : Nat) (o : Nat → Nat) (fr : Nat → Bool) : Nat → Nat
  | 0 => 0
  | m + 1 => cntF n o fr m + (if fr (pl n o m) = true then 1 else 0)
/-- R rounds made a jump far, the next made none -/
def isR (n : Nat) (o : Nat → Nat) (N : Nat) (ld : Nat → Nat) (rc R : Nat) : Prop := (∀ r, r < R → ∃ i, i < N ∧ out n o N ld rc (frs n o N ld rc r) i = true) ∧ ∀ i, i < N → out n o N ld rc (frs n o N ld rc R) i = false
section LY
variable {n : Nat} {o : Nat → Nat} {N : Nat} {ld : Nat → Nat} {fr : Nat → Bool} {rc : Nat}
theorem isR.uniq {R S : Nat} (h : isR n o N ld rc R) (g : isR n o N ld rc S) : R = S := by
  rcases Nat.lt_trichotomy R S with q | q | q
  · obtain ⟨i, h1, h2⟩ := g.1 R q
    rw [h.2 i h1] at h2
    cases h2
  · exact q
  · obtain ⟨i, h1, h2⟩ := h.1 S q
    rw [g.2 i h1] at h2
    cases h2
theorem ix_pl (hc : Cmp n o N) {k : Nat} (hk : k < N) : ∀ m, k < m → m ≤ N → ix n o (pl n o k) m = k
  | 0, h, _ => by omega
  | m + 1, h, hm => by
    unfold ix
    by_cases e : k = m
    · rw [e, if_pos rfl]
    · rw [if_neg (fun q => e (hc.inj hk (by omega) q.symm))]
      exact ix_pl hc hk m (by omega) (by omega)
theorem nw_le {p : Nat} (h : swm o p ≤ 20) : nw o p ≤ 42 := by
  unfold nw
  split <;> omega
theorem nlf_le (hc : Cmp n o N) {i : Nat} (hi : i < N) (sp : Nat) : nlf n o fr (pl n o i) sp ≤ 172 := by
  have h1 := wf_gt sp
  have h2 := ln_le n o (pl n o i)
  unfold nlf
  split
  · rename_i e
    obtain ⟨-, -, -, -, h3, -⟩ := sw_ok e (hc.2 i hi)
    omega
  · split
    · omega
    · split
      · split <;> omega
      · omega
theorem ps_le (hc : Cmp n o N) (hld : ∀ i, ld i ≤ 20) : ∀ i, i ≤ N → ps n o ld fr i ≤ 192 * i
  | 0, _ => Nat.zero_le _
  | i + 1, h => by
    have h1 := ps_le hc hld i (by omega)
    have h2 := hld i
    have h3 := nlf_le (fr := fr) hc (show i < N by omega) (ps n o ld fr i + ld i)
    unfold ps
    omega
theorem ps_mono : ∀ i, ps n o ld fr i ≤ ps n o ld fr (i + 1) := fun i => by
  show _ ≤ ps n o ld fr i + ld i + _
  omega
theorem ps_mono2 {i : Nat} : ∀ j, i ≤ j → ps n o ld fr i ≤ ps n o ld fr j
  | 0, h => by rw [show i = 0 by omega]; exact Nat.le_refl _
  | j + 1, h => by
    rcases Nat.lt_or_ge j i with q | q
    · rw [show i = j + 1 by omega]; exact Nat.le_refl _
    · exact Nat.le_trans (ps_mono2 j q) (ps_mono j)
theorem cntF_le : ∀ m, cntF n o fr m ≤ m
  | 0 => Nat.le_refl 0
  | m + 1 => by
    have := cntF_le m
    unfold cntF
    split <;> omega
theorem nxF_pl (hc : Cmp n o N) {i : Nat} (hi : i < N) : nxF n o N ld rc fr (pl n o i) = (fr (pl n o i) || out n o N ld rc fr i) := by
  unfold nxF
  rw [ix_pl hc hi N hi (Nat.le_refl N), stB_iff.mpr ⟨i, hi, rfl⟩, Bool.true_and]
theorem cntF_mono (hc : Cmp n o N) : ∀ m, m ≤ N → cntF n o fr m ≤ cntF n o (nxF n o N ld rc fr) m
  | 0, _ => Nat.le_refl 0
  | m + 1, h => by
    have h1 := cntF_mono hc m (by omega)
    unfold cntF
    rw [nxF_pl hc (by omega)]
    by_cases e : fr (pl n o m) = true
    · rw [if_pos e, if_pos (by rw [e]; rfl)]
      omega
    · rw [if_neg e]
      split <;> omega
theorem cntF_lt (hc : Cmp n o N) {i : Nat} (ho : out n o N ld rc fr i = true) : ∀ m, m ≤ N → i < m → cntF n o fr m < cntF n o (nxF n o N ld rc fr) m
  | 0, _, h => by omega
  | m + 1, h, hi => by
    have h1 := cntF_mono (fr := fr) (ld := ld) (rc := rc) hc m (by omega)
    unfold cntF
    rw [nxF_pl hc (by omega)]
    by_cases e : i = m
    · subst e
      have hf : fr (pl n o i) = false := by
        unfold out at ho
        cases q : fr (pl n o i)
        · rfl
        · rw [q] at ho
          simp at ho
      rw [hf, ho]
      simp
      omega
    · have h2 := cntF_lt hc ho m (by omega) (by omega)
      by_cases e : fr (pl n o m) = true
      · rw [if_pos e, if_pos (by rw [e]; rfl)]
        omega
      · rw [if_neg e]
        split <;> omega
end LY
