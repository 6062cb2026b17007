/-! the reference's public methods, as functions -/
abbrev rReg (x : Int) : Prop := 0 ≤ x ∧ x < 10
theorem up_up (A : rS) (k i : Nat) (v w : Int) : up (up A k i v) k i w = up A k i w := by
  funext k' i'
  unfold up
  split <;> rfl
def rMove (A : rS) (a b : Int) : rS := if rReg a ∧ rReg b then up (up A 0 0 0) 14 a.toNat (A 14 b.toNat) else up A 0 0 1
def rDrop (A : rS) (a : Int) : rS := if rReg a then up (up A 0 0 0) 14 a.toNat (-1) else up A 0 0 1
def rDropV (A : rS) (a : Int) : Int := if rReg a then bZ (A 14 a.toNat ≠ -1) else 0
def rTagOf (A : rS) (x : Int) : Int := if x = -1 then 0 else A 10 x.toNat
/-- what hasField leaves in 'thrown' -/
def rHF (A : rS) (a b r i : Int) : Int := if rReg a ∧ rReg b then (if A 14 r.toNat = -1 then 2 else if 0 ≤ i ∧ i < A 9 (A 14 r.toNat).toNat - 2 then 0 else 1) else 1
def rRead (A : rS) (t f i : Int) : rS := if rHF A t f f i = 0 then up (up A 0 0 0) 14 t.toNat (A 11 (21 * A 14 f.toNat + i).toNat) else up A 0 0 (rHF A t f f i)
def rReadV (A : rS) (t f i : Int) : Int := if rHF A t f f i = 0 then rTagOf A (A 11 (21 * A 14 f.toNat + i).toNat) else 0
/-- before a field is written -/
def rPrep (A : rS) (o before : Int) : rS := if A 18 0 = 1 then rSee A before else if A 18 0 = 2 ∧ rToMove A o = 1 then rCarry A o else A
def rWrite (A : rS) (r i f : Int) : rS := if rHF A r f r i = 0 then up (rPrep (up A 0 0 0) (A 14 r.toNat) (A 11 (21 * A 14 r.toNat + i).toNat)) 11 (21 * A 14 r.toNat + i).toNat (A 14 f.toNat) else up A 0 0 (rHF A r f r i)
def rWriteV (A : rS) (r i f : Int) : Int := if rHF A r f r i = 0 then rTagOf A (A 11 (21 * A 14 r.toNat + i).toNat) else 0
def rTagT (A : rS) (r : Int) : Int := if rReg r then (if A 14 r.toNat = -1 then 2 else 0) else 1
def rTagV (A : rS) (r : Int) : Int := if rTagT A r = 0 then A 10 (A 14 r.toNat).toNat else 0
def rSameV (A : rS) (a b : Int) : Int := if rReg a ∧ rReg b then bZ (A 14 a.toNat = A 14 b.toNat) else 0
def rWhereV (A : rS) (r : Int) : Int := if rReg r then rPlace A (A 14 r.toNat) else 0
def rRegionV (A : rS) (i w : Int) : Int := if 0 ≤ i ∧ i < A 1 0 then (if w = 0 then A 3 i.toNat else if w = 1 then A 4 i.toNat else if w = 2 then rSeenIn A i else -1) else 0
def rCountV (A : rS) (w : Int) : Int := if w = 0 then A 20 0 else if w = 1 then A 21 0 else if w = 2 then (if A 18 0 = 1 then A 17 0 - A 16 0 else 0) else -1
theorem rHF_b (A : rS) (a b r i : Int) : 0 ≤ rHF A a b r i ∧ rHF A a b r i ≤ 2 := by unfold rHF; repeat' split <;> omega
theorem rHF_0 {A : rS} {a b r i : Int} (h : rHF A a b r i = 0) : rReg a ∧ rReg b ∧ A 14 r.toNat ≠ -1 ∧ 0 ≤ i ∧ i < A 9 (A 14 r.toNat).toNat - 2 := by
  unfold rHF at h
  split at h
  · split at h
    · omega
    · split at h
      · rename_i h1 h2 h3
        exact ⟨h1.1, h1.2, h2, h3⟩
      · omega
  · omega
theorem rTagOf_u {A : rS} {k i : Nat} {v x : Int} (h : k ≠ 10) : rTagOf (up A k i v) x = rTagOf A x := by unfold rTagOf; rw [up_k _ _ (Ne.symm h)]
theorem rPlace_u {A : rS} {k i : Nat} {v x : Int} (h : k ≠ 7) (h' : k ≠ 8) : rPlace (up A k i v) x = rPlace A x := by unfold rPlace; rw [up_k _ _ (Ne.symm h), up_k _ _ (Ne.symm h')]
theorem rSi_u {A : rS} {i : Nat} {v r : Int} : ∀ (f : Nat) (x n : Int), rSi (up A 0 i v) r f x n = rSi A r f x n := by
  intro f
  induction f with
  | zero => intro x n; rfl
  | succ f ih =>
    intro x n
    rw [rSi, rSi, ih]
    simp [up_k]
theorem rSeenIn_u {A : rS} {i : Nat} {v r : Int} : rSeenIn (up A 0 i v) r = rSeenIn A r := rSi_u 700 0 0
/-- components that a function leaves alone -/
theorem rSee_k {A : rS} {x : Int} {k i : Nat} (h1 : k ≠ 12) (h2 : k ≠ 15) (h3 : k ≠ 17) : rSee A x k i = A k i := by
  unfold rSee
  split
  · rfl
  · split
    · rw [up_k _ _ h3, up_k _ _ h2, up_k _ _ h1]
    · rfl
theorem rInto_k {A : rS} {o t : Int} {k i : Nat} (h1 : k ≠ 7) (h2 : k ≠ 8) (h3 : k ≠ 4) (h4 : k ≠ 20) : rInto A o t k i = A k i := by
  unfold rInto
  rw [up_k _ _ h4, up_k _ _ h3, up_k _ _ h2, up_k _ _ h1]
theorem rCarry_k {A : rS} {o : Int} {k i : Nat} (h1 : k ≠ 7) (h2 : k ≠ 8) (h3 : k ≠ 4) (h4 : k ≠ 20) (h5 : k ≠ 13) (h6 : k ≠ 5) (h7 : k ≠ 21) (h8 : k ≠ 3) : rCarry A o k i = A k i := by
  unfold rCarry
  split
  · split
    · rw [up_k _ _ h7, up_k _ _ h6, up_k _ _ h5]
    · rw [rInto_k h1 h2 h3 h4, up_k _ _ h3, up_k _ _ h8]
      split
      · rfl
      · rw [up_k _ _ h8]
  · rw [rInto_k h1 h2 h3 h4]
theorem rInto_I {A : rS} {o t : Int} (hI : RI A) (ht : 0 ≤ t ∧ t < 16) (hu : A 4 t.toNat + A 9 o.toNat ≤ 128) : RI (rInto A o t) := by
  have h4 := hI.b4 t.toNat
  have h9 := hI.b9 o.toNat
  unfold rInto
  exact (((hI.u7 _ (by omega)).u8 _ (by omega)).u4 _ (by omega)).u20 _
theorem rCarry_I {A : rS} {o : Int} (hI : RI A) : RI (rCarry A o) := by
  have h2 := rWith_b hI 2
  have h0 := rWith_b hI 0
  have h9 := hI.b9 o.toNat
  unfold rCarry
  split
  · split
    · exact ((hI.u13 _ (by omega)).u5 _ (by omega)).u21 _
    · refine rInto_I (((?_ : RI _).u3 _ (by omega)).u4 _ (by omega)) (by omega) ?_
      · split
        · exact hI
        · exact hI.u3 _ (by omega)
      · rw [up_s, up_k _ _ (by decide), up_k _ _ (by decide)]
        split
        · omega
        · rw [up_k _ _ (by decide)]; omega
  · exact rInto_I hI (by omega) (by omega)
theorem rTagOf_see {A : rS} {x y : Int} : rTagOf (rSee A y) x = rTagOf A x := by unfold rTagOf; rw [rSee_k (by decide) (by decide) (by decide)]
theorem rTagOf_carry {A : rS} {x y : Int} : rTagOf (rCarry A y) x = rTagOf A x := by unfold rTagOf; rw [rCarry_k (by decide) (by decide) (by decide) (by decide) (by decide) (by decide) (by decide) (by decide)]
