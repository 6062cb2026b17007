/-! the invariant of the reference's state -/
def nn (A : rS) : Nat := (A 6 0).toNat
theorem pig : ∀ (n m : Nat) (f : Nat → Nat), (∀ i, i < m → f i < n) → (∀ i j, i < m → j < m → f i = f j → i = j) → m ≤ n := by
  intro n
  induction n with
  | zero =>
    intro m f h _
    cases m with
    | zero => omega
    | succ m => exact absurd (h 0 (by omega)) (by omega)
  | succ n ih =>
    intro m f h hj
    cases m with
    | zero => omega
    | succ m =>
      have h1 : m ≤ n := by
        refine ih m (fun i => if f i = n then f m else f i) (fun i hi => ?_) (fun i j hi hjm e => ?_)
        · show (if f i = n then f m else f i) < n
          have h2 := h m (by omega)
          have h3 := h i (by omega)
          split
          · rename_i e
            have : f m ≠ n := fun q => by
              have := hj i m (by omega) (by omega) (by omega)
              omega
            omega
          · omega
        · have e : (if f i = n then f m else f i) = (if f j = n then f m else f j) := e
          split at e <;> split at e
          · exact hj i j (by omega) (by omega) (by omega)
          · have := hj m j (by omega) (by omega) e
            omega
          · have := hj i m (by omega) (by omega) e
            omega
          · exact hj i j (by omega) (by omega) e
      omega
/-- the numbers in the arrays name objects and regions -/
def Vd (A : rS) : Prop := RI A ∧ (∀ o, o < nn A → 2 ≤ A 9 o ∧ A 7 o < A 1 0) ∧ (∀ o i : Nat, o < nn A → (i : Int) < A 9 o - 2 → A 11 (21 * o + i) < A 6 0) ∧ (∀ k : Nat, k < 10 → A 14 k < A 6 0) ∧ A 6 0 ≤ 512
/-- the row of those that wait -/
def Rw (A : rS) : Prop := A 16 0 ≤ A 17 0 ∧ (∀ i : Nat, (i : Int) < A 17 0 → A 15 i < A 6 0 ∧ A 12 (A 15 i).toNat = 1) ∧ (∀ i j : Nat, (i : Int) < A 17 0 → (j : Int) < A 17 0 → A 15 i = A 15 j → i = j)
theorem Rw.le {A : rS} (h : Rw A) (hV : Vd A) : A 17 0 ≤ A 6 0 := by
  have h6 := hV.1.b6 0
  have h17 := hV.1.b17 0
  have h1 := pig (nn A) (A 17 0).toNat (fun i => (A 15 i).toNat) (fun i hi => by
    have := (h.2.1 i (by omega)).1
    have := hV.1.b15 i
    show (A 15 i).toNat < (A 6 0).toNat
    omega) (fun i j hi hj e => h.2.2 i j (by omega) (by omega) (by
      have := hV.1.b15 i
      have := hV.1.b15 j
      have e : (A 15 i).toNat = (A 15 j).toNat := e
      omega))
  unfold nn at h1
  omega
/-- the regions -/
def Sg (A : rS) : Prop := (∀ r : Nat, A 3 r = 0 → A 4 r = 0) ∧ (∀ r q : Nat, (r : Int) < A 1 0 → (q : Int) < A 1 0 → A 3 r = 1 → A 3 q = 1 → r = q) ∧ (∀ r q : Nat, (r : Int) < A 1 0 → (q : Int) < A 1 0 → A 3 r = 2 → A 3 q = 2 → r = q)
/-- the phases -/
def Ph (A : rS) : Prop := (A 18 0 ≠ 1 → A 16 0 = A 17 0) ∧ (A 18 0 = 3 → A 19 0 < A 1 0) ∧ (A 18 0 ≤ 1 → ∀ r : Nat, (r : Int) < A 1 0 → A 3 r ≠ 2 ∧ A 3 r ≠ 4) ∧ (A 18 0 = 1 → ∀ o, o < nn A → A 13 o = 0)
  ∧ (2 ≤ A 18 0 → ∀ o, o < nn A → A 13 o = 1 → A 3 (A 7 o).toNat = 4 → A 5 (A 7 o).toNat = 1) ∧ (A 18 0 = 3 → ∀ o, o < nn A → A 12 o = 1 → A 3 (A 7 o).toNat = 4 → A 13 o = 1)
/-- the objects that stand in a region -/
def Pl (A : rS) (P : Nat → Prop) : Prop := (∀ o, P o → o < nn A ∧ A 3 (A 7 o).toNat ≠ 0 ∧ A 8 o + A 9 o ≤ A 4 (A 7 o).toNat) ∧ (∀ o, o < nn A → A 12 o = 1 → P o) ∧ (∀ o q, P o → P q → A 7 o = A 7 q → A 8 o = A 8 q → o = q)
/-- the good objects -/
def Gd (A : rS) (P G : Nat → Prop) : Prop := (∀ o, G o → P o) ∧ (∀ k : Nat, k < 10 → 0 ≤ A 14 k → G (A 14 k).toNat) ∧ (∀ o i : Nat, G o → (i : Int) < A 9 o - 2 → 0 ≤ A 11 (21 * o + i) → G (A 11 (21 * o + i)).toNat)
def gry (A : rS) (x : Nat) : Prop := ∃ i : Nat, A 16 0 ≤ i ∧ (i : Int) < A 17 0 ∧ A 15 i = x
def clo (A : rS) (T : Nat → Prop) : Prop := ∀ x, T x → (A 12 x = 0 ∨ gry A x) → ∀ i : Nat, (i : Int) < A 9 x - 2 → 0 ≤ A 11 (21 * x + i) → T (A 11 (21 * x + i)).toNat
def RG (A : rS) (E : Nat → Prop) (o : Nat) : Prop := ∀ T : Nat → Prop, (∀ x, gry A x → T x) → (∀ x, E x → T x) → clo A T → T o
def TC (A : rS) (G E : Nat → Prop) : Prop := ∀ o, G o → A 12 o = 1 ∨ RG A E o
def Tr (A : rS) (G : Nat → Prop) : Prop := (A 18 0 = 1 → (∀ o, o < nn A → A 12 o = 1 → G o) ∧ TC A G (fun _ => False)) ∧ (2 ≤ A 18 0 → ∀ o, G o → A 12 o = 1)
def KK (A : rS) (P G : Nat → Prop) : Prop := Vd A ∧ Rw A ∧ Sg A ∧ Ph A ∧ Pl A P ∧ Gd A P G ∧ Tr A G
/-! seeing an object -/
theorem rSee_e {A : rS} {x : Int} (h : x ≠ -1) (h12 : A 12 x.toNat = 0) : rSee A x = up (up (up A 12 x.toNat 1) 15 (A 17 0).toNat x) 17 0 (A 17 0 + 1) := by unfold rSee; rw [if_neg h, if_pos h12]
theorem rSee_n {A : rS} {x : Int} (h : x = -1 ∨ A 12 x.toNat ≠ 0) : rSee A x = A := by
  unfold rSee
  rcases h with h | h
  · rw [if_pos h]
  · rw [if_neg h]; split <;> rfl
/-- the two ways of rSee -/
theorem rSee_c {A : rS} (x : Int) : (x ≠ -1 ∧ A 12 x.toNat = 0) ∨ (x = -1 ∨ A 12 x.toNat ≠ 0) := by
  by_cases h : x = -1
  · exact Or.inr (Or.inl h)
  · by_cases h' : A 12 x.toNat = 0
    · exact Or.inl ⟨h, h'⟩
    · exact Or.inr (Or.inr h')
theorem see12 {A : rS} {x : Int} (h : x ≠ -1) (h12 : A 12 x.toNat = 0) (o : Nat) : rSee A x 12 o = if o = x.toNat then 1 else A 12 o := by
  rw [rSee_e h h12, up_k _ _ (by decide), up_k _ _ (by decide)]
  simp [up]
theorem see15 {A : rS} {x : Int} (h : x ≠ -1) (h12 : A 12 x.toNat = 0) (i : Nat) : rSee A x 15 i = if i = (A 17 0).toNat then x else A 15 i := by
  rw [rSee_e h h12, up_k _ _ (by decide)]
  simp [up]
theorem see17 {A : rS} {x : Int} (h : x ≠ -1) (h12 : A 12 x.toNat = 0) : rSee A x 17 0 = A 17 0 + 1 := by
  rw [rSee_e h h12, up_s]
theorem see_k {A : rS} {x : Int} (k i : Nat) (h1 : k ≠ 12) (h2 : k ≠ 15) (h3 : k ≠ 17) : rSee A x k i = A k i := rSee_k h1 h2 h3
theorem see_nn {A : rS} {x : Int} : nn (rSee A x) = nn A := by unfold nn; rw [see_k 6 0 (by decide) (by decide) (by decide)]
theorem see_mono {A : rS} {x : Int} {o : Nat} (h : A 12 o = 1) : rSee A x 12 o = 1 := by
  rcases rSee_c (A := A) x with ⟨h1, h2⟩ | h1
  · rw [see12 h1 h2]; split <;> first | rfl | exact h
  · rw [rSee_n h1]; exact h
theorem see_it {A : rS} (hI : RI A) {x : Int} (h : x ≠ -1) : rSee A x 12 x.toNat = 1 := by
  rcases rSee_c (A := A) x with ⟨h1, h2⟩ | h1
  · rw [see12 h1 h2, if_pos rfl]
  · rw [rSee_n h1]
    have := hI.b12 x.toNat
    rcases h1 with h1 | h1
    · exact absurd h1 h
    · omega
theorem see_Vd {A : rS} {x : Int} (hV : Vd A) (hR : Rw A) (hx : -1 ≤ x ∧ x < A 6 0) : Vd (rSee A x) := by
  have h6 := hV.1.b6 0
  have hle := hR.le hV
  have h5 := hV.2.2.2.2
  refine ⟨rSee_I hV.1 (by omega) (by omega), ?_, ?_, ?_, ?_⟩
  · intro o ho
    rw [see_nn] at ho
    rw [see_k 9 o (by decide) (by decide) (by decide), see_k 7 o (by decide) (by decide) (by decide), see_k 1 0 (by decide) (by decide) (by decide)]
    exact hV.2.1 o ho
  · intro o i ho hi
    rw [see_nn] at ho
    rw [see_k 9 o (by decide) (by decide) (by decide)] at hi
    rw [see_k 11 _ (by decide) (by decide) (by decide), see_k 6 0 (by decide) (by decide) (by decide)]
    exact hV.2.2.1 o i ho hi
  · intro k hk
    rw [see_k 14 _ (by decide) (by decide) (by decide), see_k 6 0 (by decide) (by decide) (by decide)]
    exact hV.2.2.2.1 k hk
  · rw [see_k 6 0 (by decide) (by decide) (by decide)]; exact h5
theorem see_Rw {A : rS} {x : Int} (hV : Vd A) (hR : Rw A) (hx : -1 ≤ x ∧ x < A 6 0) : Rw (rSee A x) := by
  rcases rSee_c (A := A) x with ⟨h1, h2⟩ | h1
  · have h17 := hV.1.b17 0
    refine ⟨?_, ?_, ?_⟩
    · rw [see17 h1 h2, see_k 16 0 (by decide) (by decide) (by decide)]
      have := hR.1
      omega
    · intro i hi
      rw [see17 h1 h2] at hi
      rw [see15 h1 h2, see_k 6 0 (by decide) (by decide) (by decide)]
      split
      · exact ⟨hx.2, see_it hV.1 h1⟩
      · have := hR.2.1 i (by omega)
        exact ⟨this.1, see_mono this.2⟩
    · intro i j hi hj
      rw [see17 h1 h2] at hi hj
      rw [see15 h1 h2, see15 h1 h2]
      have key : ∀ i : Nat, (i : Int) < A 17 0 → A 15 i ≠ x := fun i hi e => by
        have := (hR.2.1 i hi).2
        rw [e, h2] at this
        omega
      split <;> split
      · omega
      · intro e; exact absurd e.symm (key j (by omega))
      · intro e; exact absurd e (key i (by omega))
      · exact hR.2.2 i j (by omega) (by omega)
  · rw [rSee_n h1]; exact hR
theorem see_gry {A : rS} (hI : RI A) {x : Int} (h : x ≠ -1) (h12 : A 12 x.toNat = 0) (hx : 0 ≤ x) (h16 : A 16 0 ≤ A 17 0) (y : Nat) : gry (rSee A x) y ↔ gry A y ∨ y = x.toNat := by
  have h17 := hI.b17 0
  unfold gry
  rw [see17 h h12, see_k 16 0 (by decide) (by decide) (by decide)]
  constructor
  · rintro ⟨i, i1, i2, i3⟩
    rw [see15 h h12] at i3
    split at i3
    · right; omega
    · left; exact ⟨i, i1, by omega, i3⟩
  · rintro (⟨i, i1, i2, i3⟩ | rfl)
    · refine ⟨i, i1, by omega, ?_⟩
      rw [see15 h h12, if_neg (by omega)]
      exact i3
    · refine ⟨(A 17 0).toNat, by omega, by omega, ?_⟩
      rw [see15 h h12, if_pos rfl]
      omega
theorem see_TC {A : rS} (hI : RI A) {x : Int} {G E : Nat → Prop} (hx : 0 ≤ x) (h16 : A 16 0 ≤ A 17 0) (h : TC A G (fun y => E y ∨ y = x.toNat)) : TC (rSee A x) G E := by
  have hx1 : x ≠ -1 := by omega
  rcases rSee_c (A := A) x with ⟨h1, h2⟩ | h1
  · intro o ho
    rcases h o ho with h3 | h3
    · exact Or.inl (see_mono h3)
    · right
      intro T t1 t2 t3
      refine h3 T (fun y hy => t1 y ((see_gry hI h1 h2 hx h16 y).mpr (Or.inl hy))) (fun y hy => ?_) (fun y hy hn i hi hf => ?_)
      · rcases hy with hy | rfl
        · exact t2 y hy
        · exact t1 _ ((see_gry hI h1 h2 hx h16 _).mpr (Or.inr rfl))
      · have t4 := t3 y hy (by
          rcases hn with hn | hn
          · by_cases e : y = x.toNat
            · exact Or.inr ((see_gry hI h1 h2 hx h16 y).mpr (Or.inr e))
            · left
              rw [see12 h1 h2, if_neg e]
              exact hn
          · exact Or.inr ((see_gry hI h1 h2 hx h16 y).mpr (Or.inl hn))) i
        rw [see_k 9 y (by decide) (by decide) (by decide), see_k 11 _ (by decide) (by decide) (by decide)] at t4
        exact t4 hi hf
  · rw [rSee_n h1]
    have h12 : A 12 x.toNat = 1 := by
      have := hI.b12 x.toNat
      rcases h1 with h1 | h1 <;> omega
    intro o ho
    rcases h o ho with h3 | h3
    · exact Or.inl h3
    · by_cases e : o = x.toNat
      · left; rw [e]; exact h12
      · right
        intro T t1 t2 t3
        have h4 := h3 (fun y => T y ∨ y = x.toNat) (fun y hy => Or.inl (t1 y hy)) (fun y hy => by
          rcases hy with hy | hy
          · exact Or.inl (t2 y hy)
          · exact Or.inr hy) (fun y hy hn i hi hf => by
            have hy : T y := by
              rcases hy with hy | rfl
              · exact hy
              · rcases hn with hn | hn
                · omega
                · exact t1 _ hn
            exact Or.inl (t3 y hy hn i hi hf))
        rcases h4 with h4 | h4
        · exact h4
        · exact absurd h4 e
