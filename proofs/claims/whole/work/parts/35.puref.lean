/-! which object is moved; the ends of phases -/
theorem toMove_iff {A : rS} {x : Int} : rToMove A x = 1 ↔ A 12 x.toNat ≠ 0 ∧ A 13 x.toNat = 0 ∧ A 3 (A 7 x.toNat).toNat = 4 := by
  unfold rToMove
  constructor
  · intro h
    by_cases w : A 12 x.toNat ≠ 0 ∧ A 13 x.toNat = 0 ∧ A 3 (A 7 x.toNat).toNat = 4
    · exact w
    · rw [bZ_f w] at h; omega
  · intro h; exact bZ_t h
theorem rBest_spec {A : rS} : ∀ (f : Nat) (x b : Int), 0 ≤ x → A 6 0 < (f : Int) + x → -1 ≤ b →
    (rBest A f x b = b ∨ (x ≤ rBest A f x b ∧ rBest A f x b < A 6 0 ∧ rToMove A (rBest A f x b) = 1)) ∧ (b ≠ -1 → rBest A f x b ≠ -1 ∧ rPlace A (rBest A f x b) ≤ rPlace A b) ∧ (∀ o : Int, x ≤ o → o < A 6 0 → rToMove A o = 1 → rBest A f x b ≠ -1 ∧ rPlace A (rBest A f x b) ≤ rPlace A o) := by
  intro f
  induction f with
  | zero =>
    intro x b hx hf hb
    exact ⟨Or.inl rfl, fun h => ⟨h, Int.le_refl _⟩, fun o h1 h2 => by omega⟩
  | succ f ih =>
    intro x b hx hf hb
    rw [rBest]
    split
    · exact ⟨Or.inl rfl, fun h => ⟨h, Int.le_refl _⟩, fun o h1 h2 => by omega⟩
    · rename_i hn
      by_cases w : rToMove A x = 1 ∧ (b = -1 ∨ rPlace A x < rPlace A b)
      · rw [if_pos w]
        obtain ⟨i1, i2, i3⟩ := ih (x + 1) x (by omega) (by omega) (by omega)
        have i2' := i2 (by omega)
        refine ⟨?_, fun h => ⟨i2'.1, ?_⟩, fun o h1 h2 h3 => ?_⟩
        · rcases i1 with q | q
          · right; rw [q]; exact ⟨Int.le_refl _, by omega, w.1⟩
          · right; exact ⟨by omega, q.2⟩
        · rcases w.2 with q | q
          · exact absurd q h
          · omega
        · by_cases e : o = x
          · rw [e]; exact i2'
          · exact i3 o (by omega) h2 h3
      · rw [if_neg w]
        obtain ⟨i1, i2, i3⟩ := ih (x + 1) b (by omega) (by omega) hb
        refine ⟨?_, i2, fun o h1 h2 h3 => ?_⟩
        · rcases i1 with q | q
          · exact Or.inl q
          · right; exact ⟨by omega, q.2⟩
        · by_cases e : o = x
          · rw [e] at h3 ⊢
            have wb : b ≠ -1 := fun q => w ⟨h3, Or.inl q⟩
            have := i2 wb
            exact ⟨this.1, by
              have : ¬ rPlace A x < rPlace A b := fun q => w ⟨h3, Or.inr q⟩
              omega⟩
          · exact i3 o (by omega) h2 h3
theorem rBst_none {A : rS} (hI : RI A) (h : rBst A = -1) (o : Int) (ho : 0 ≤ o ∧ o < A 6 0) : rToMove A o ≠ 1 := by
  have h6 := hI.b6 0
  intro q
  exact ((rBest_spec (A := A) 700 0 (-1) (by omega) (by omega) (by omega)).2.2 o ho.1 ho.2 q).1 h
theorem rBst_some {A : rS} (hI : RI A) (h : rBst A ≠ -1) : 0 ≤ rBst A ∧ rBst A < A 6 0 ∧ rToMove A (rBst A) = 1 ∧ ∀ o : Int, 0 ≤ o → o < A 6 0 → rToMove A o = 1 → rPlace A (rBst A) ≤ rPlace A o := by
  have h6 := hI.b6 0
  obtain ⟨i1, -, i3⟩ := rBest_spec (A := A) 700 0 (-1) (by omega) (by omega) (by omega)
  rcases i1 with q | q
  · exact absurd q h
  · exact ⟨q.1, q.2.1, q.2.2, fun o h1 h2 h3 => (i3 o h1 h2 h3).2⟩
theorem moveEnd_KK {A : rS} {P G : Nat → Prop} (h : KK A P G) (h18 : A 18 0 = 2) (hb : rBst A = -1) : KK (up (up A 18 0 3) 19 0 0) P G := by
  obtain ⟨hV, hR, hS, ⟨p1, p2, p3, p4, p5, p6⟩, hP, hg, ⟨t1, t2⟩⟩ := h
  have b1 := hV.1.b1 0
  have b6 := hV.1.b6 0
  have hI : RI (up (up A 18 0 3) 19 0 0) := (hV.1.u18 0 (by omega)).u19 0 (by omega)
  refine ⟨⟨hI, hV.2⟩, hR, hS, ⟨fun _ => p1 (by omega), fun _ => ?_, fun q => ?_, fun q => ?_, fun _ => p5 (by omega), fun _ o ho h12 h3 => ?_⟩, hP, hg, ⟨fun q => ?_, fun _ => t2 (by omega)⟩⟩
  · rw [up_s]; show (0 : Int) < A 1 0; omega
  · have : (up (up A 18 0 3) 19 0 0) 18 0 = 3 := rfl
    omega
  · have : (up (up A 18 0 3) 19 0 0) 18 0 = 3 := rfl
    omega
  · have ho : o < nn A := ho
    have h12 : A 12 o = 1 := h12
    have h3 : A 3 (A 7 o).toNat = 4 := h3
    show A 13 o = 1
    unfold nn at ho
    have b13 := hV.1.b13 o
    have := rBst_none hV.1 hb (o : Int) (by omega)
    rw [ne_eq, toMove_iff] at this
    simp only [Int.toNat_natCast] at this
    by_cases w : A 13 o = 0
    · exact absurd ⟨by omega, w, h3⟩ this
    · omega
  · have : (up (up A 18 0 3) 19 0 0) 18 0 = 3 := rfl
    omega
theorem moveOne_KK {A : rS} {P G : Nat → Prop} (h : KK A P G) (h18 : A 18 0 = 2) : KK (rMoveOne A) P G := by
  unfold rMoveOne
  split
  · rename_i hb; exact moveEnd_KK h h18 hb
  · rename_i hb
    obtain ⟨b1, b2, b3, -⟩ := rBst_some h.1.1 hb
    have b12 := h.1.1.b12 (rBst A).toNat
    exact carry_KK h h18 ⟨b1, b2⟩ (by have := (toMove_iff.mp b3).1; omega)
/-- what a region is behind a cycle -/
def fin3 (s f : Int) : Int := if s = 4 then (if f = 0 then 0 else 3) else if s = 2 then 3 else s
theorem end_k {A : rS} {x : Int} (k i : Nat) (h3 : k ≠ 3) (h4 : k ≠ 4) : rEnd2 (rEnd1 A x) x k i = A k i := by
  unfold rEnd2 rEnd1
  rw [up_k _ _ h3]
  split
  · rw [up_k _ _ h4, up_k _ _ h3]
  · rfl
theorem end_3 {A : rS} {x : Int} (i : Nat) : rEnd2 (rEnd1 A x) x 3 i = if i = x.toNat then fin3 (A 3 i) (A 5 i) else A 3 i := by
  unfold rEnd2 rEnd1 fin3
  by_cases e : i = x.toNat
  · subst e
    rw [if_pos rfl, up_s]
    by_cases c1 : A 3 x.toNat = 4 ∧ A 5 x.toNat = 0
    · rw [if_pos c1, up_k _ _ (by decide), up_s, if_pos c1.1, if_pos c1.2]
      rfl
    · rw [if_neg c1]
      by_cases c4 : A 3 x.toNat = 4
      · rw [if_pos (Or.inl c4), if_pos c4, if_neg (fun q => c1 ⟨c4, q⟩)]
      · rw [if_neg (c := A 3 x.toNat = 4) c4]
        by_cases c2 : A 3 x.toNat = 2
        · rw [if_pos (Or.inr c2), if_pos c2]
        · rw [if_neg (fun q => q.elim c4 c2), if_neg c2]
  · rw [if_neg (c := i = x.toNat) e, up_i _ e]
    split
    · rw [up_k _ _ (by decide), up_i _ e]
    · rfl
theorem end_4 {A : rS} {x : Int} (i : Nat) : rEnd2 (rEnd1 A x) x 4 i = if i = x.toNat ∧ A 3 i = 4 ∧ A 5 i = 0 then 0 else A 4 i := by
  unfold rEnd2 rEnd1
  rw [up_k _ _ (by decide)]
  by_cases e : i = x.toNat
  · subst e
    by_cases c1 : A 3 x.toNat = 4 ∧ A 5 x.toNat = 0
    · rw [if_pos c1, if_pos ⟨rfl, c1⟩, up_s]
    · rw [if_neg c1, if_neg (fun q => c1 q.2)]
  · rw [if_neg (c := i = x.toNat ∧ A 3 i = 4 ∧ A 5 i = 0) (fun q => e q.1)]
    split
    · rw [up_i _ e, up_k _ _ (by decide)]
    · rfl
theorem rEnd_k : ∀ (f : Nat) (x : Int) (A : rS) (k i : Nat), k ≠ 3 → k ≠ 4 → rEnd f x A k i = A k i := by
  intro f
  induction f with
  | zero => intro x A k i _ _; rfl
  | succ f ih =>
    intro x A k i h3 h4
    rw [rEnd]
    split
    · rfl
    · rw [ih _ _ _ _ h3 h4, end_k k i h3 h4]
theorem rEnd_3 : ∀ (f : Nat) (x : Int) (A : rS), 0 ≤ x → A 1 0 < (f : Int) + x → ∀ i : Nat, rEnd f x A 3 i = if x ≤ i ∧ (i : Int) < A 1 0 then fin3 (A 3 i) (A 5 i) else A 3 i := by
  intro f
  induction f with
  | zero =>
    intro x A hx hf i
    rw [if_neg (by omega)]
    rfl
  | succ f ih =>
    intro x A hx hf i
    rw [rEnd]
    split
    · rw [if_neg (by omega)]
    · have e1 : rEnd2 (rEnd1 A x) x 1 0 = A 1 0 := end_k 1 0 (by decide) (by decide)
      rw [ih (x + 1) _ (by omega) (by rw [e1]; omega), e1, end_3, end_k 5 i (by decide) (by decide)]
      by_cases e : i = x.toNat
      · rw [if_neg (by omega), if_pos e, if_pos (by omega)]
      · rw [if_neg (c := i = x.toNat) e]
        by_cases c : x ≤ i ∧ (i : Int) < A 1 0
        · rw [if_pos (by omega), if_pos c]
        · rw [if_neg (by omega), if_neg c]
theorem rEnd_4 : ∀ (f : Nat) (x : Int) (A : rS), 0 ≤ x → A 1 0 < (f : Int) + x → ∀ i : Nat, rEnd f x A 4 i = if (x ≤ i ∧ (i : Int) < A 1 0) ∧ A 3 i = 4 ∧ A 5 i = 0 then 0 else A 4 i := by
  intro f
  induction f with
  | zero =>
    intro x A hx hf i
    rw [if_neg (by omega)]
    rfl
  | succ f ih =>
    intro x A hx hf i
    rw [rEnd]
    split
    · rw [if_neg (by omega)]
    · have e1 : rEnd2 (rEnd1 A x) x 1 0 = A 1 0 := end_k 1 0 (by decide) (by decide)
      rw [ih (x + 1) _ (by omega) (by rw [e1]; omega), e1, end_4, end_3, end_k 5 i (by decide) (by decide)]
      by_cases e : i = x.toNat
      · rw [if_neg (c := (x + 1 ≤ (i : Int) ∧ (i : Int) < A 1 0) ∧ _) (by omega)]
        by_cases c : A 3 i = 4 ∧ A 5 i = 0
        · rw [if_pos ⟨e, c⟩, if_pos ⟨by omega, c⟩]
        · rw [if_neg (fun q => c q.2), if_neg (fun q => c q.2)]
      · rw [if_neg (c := i = x.toNat) e, if_neg (c := i = x.toNat ∧ _) (fun q => e q.1)]
        by_cases c : (x ≤ i ∧ (i : Int) < A 1 0) ∧ A 3 i = 4 ∧ A 5 i = 0
        · rw [if_pos ⟨by omega, c.2⟩, if_pos c]
        · rw [if_neg (fun q => c ⟨by omega, q.2⟩), if_neg c]
