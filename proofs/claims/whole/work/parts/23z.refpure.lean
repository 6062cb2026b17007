/-! what the reference's functions keep -/
theorem rSee_I {A : rS} {x : Int} (hI : RI A) (hx : -1 ≤ x ∧ x < 620) (h17 : A 17 0 < 620) : RI (rSee A x) := by
  unfold rSee
  have q := hI.b17 0
  split
  · exact hI
  · split
    · exact ((hI.u12 _ (by omega)).u15 _ (by omega)).u17 _ (by omega)
    · exact hI
theorem rSee_17 (A : rS) (x : Int) : rSee A x 17 0 ≤ A 17 0 + 1 ∧ A 17 0 ≤ rSee A x 17 0 := by
  unfold rSee
  split
  · omega
  · split
    · simp [up]; omega
    · omega
theorem up_s (A : rS) (k i : Nat) (v : Int) : up A k i v k i = v := by simp [up]
theorem up_k (A : rS) {k k' i : Nat} {v : Int} (i' : Nat) (h : k' ≠ k) : up A k i v k' i' = A k' i' := by simp [up, h]
theorem up_i (A : rS) {k k' i i' : Nat} {v : Int} (h : i' ≠ i) : up A k i v k' i' = A k' i' := by simp [up, h]
theorem rWs_b {A : rS} (st : Int) : ∀ (f : Nat) (x : Int), 0 ≤ x → -1 ≤ rWs A st f x ∧ (rWs A st f x ≠ -1 → 0 ≤ rWs A st f x ∧ rWs A st f x < A 1 0 ∧ A 3 (rWs A st f x).toNat = st) := by
  intro f
  induction f with
  | zero => intro x hx; simp [rWs]
  | succ f ih =>
    intro x hx
    rw [rWs]
    split
    · simp
    · split
      · refine ⟨by omega, fun _ => ⟨hx, by omega, by assumption⟩⟩
      · exact ih (x + 1) (by omega)
theorem rWith_b {A : rS} (hI : RI A) (st : Int) : -1 ≤ rWith A st ∧ rWith A st < 16 := by
  have h := rWs_b (A := A) st 20 0 (Int.le_refl 0)
  have h1 := hI.b1 0
  unfold rWith
  by_cases e : rWs A st 20 0 = -1
  · omega
  · have := h.2 e
    omega
theorem rSi_b {A : rS} (hI : RI A) (r : Int) : ∀ (f : Nat) (x n : Int), n ≤ rSi A r f x n ∧ rSi A r f x n ≤ n + 22 * f := by
  intro f
  induction f with
  | zero => intro x n; simp [rSi]
  | succ f ih =>
    intro x n
    rw [rSi]
    have h9 := hI.b9 x.toNat
    split
    · omega
    · split
      · omega
      · generalize hg : (if A 7 x.toNat = r ∧ A 12 x.toNat ≠ 0 then n + A 9 x.toNat else n) = w
        have hw : n ≤ w ∧ w ≤ n + 22 := by rw [← hg]; split <;> omega
        have h1 := ih (x + 1) w
        omega
theorem rSeenIn_b {A : rS} (hI : RI A) (r : Int) : 0 ≤ rSeenIn A r ∧ rSeenIn A r ≤ 15400 := by
  have h := rSi_b hI r 700 0 0
  unfold rSeenIn
  omega
theorem rToMove_b (A : rS) (x : Int) : rToMove A x = 0 ∨ rToMove A x = 1 := bZ_or _
theorem rPlace_b {A : rS} (hI : RI A) (x : Int) : -1 ≤ rPlace A x ∧ rPlace A x ≤ 2048 := by
  have h7 := hI.b7 x.toNat
  have h8 := hI.b8 x.toNat
  unfold rPlace
  split <;> omega
