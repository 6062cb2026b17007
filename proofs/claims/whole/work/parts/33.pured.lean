/-! a unit of moving -/
theorem rWs_none {A : rS} {st : Int} : ∀ (f : Nat) (x : Int), 0 ≤ x → A 1 0 < (f : Int) + x → rWs A st f x = -1 → ∀ r : Nat, x ≤ r → (r : Int) < A 1 0 → A 3 r ≠ st := by
  intro f
  induction f with
  | zero => intro x hx hf _ r h1 h2; omega
  | succ f ih =>
    intro x hx hf h r h1 h2
    rw [rWs] at h
    split at h
    · omega
    · split at h
      · omega
      · rename_i hn hs
        by_cases e : (r : Int) = x
        · have : r = x.toNat := by omega
          rw [this]; exact hs
        · exact ih (x + 1) (by omega) (by omega) h r (by omega) h2
theorem rWith_none {A : rS} (hI : RI A) {st : Int} (h : rWith A st = -1) (r : Nat) (hr : (r : Int) < A 1 0) : A 3 r ≠ st := by
  have h1 := hI.b1 0
  exact rWs_none 20 0 (by omega) (by omega) h r (by omega) hr
theorem rWith_some {A : rS} {st : Int} (h : rWith A st ≠ -1) : 0 ≤ rWith A st ∧ rWith A st < A 1 0 ∧ A 3 (rWith A st).toNat = st := (rWs_b (A := A) st 20 0 (Int.le_refl 0)).2 h
theorem rWs_least {A : rS} {st : Int} : ∀ (f : Nat) (x : Int), 0 ≤ x → rWs A st f x ≠ -1 → ∀ r : Nat, x ≤ r → (r : Int) < rWs A st f x → A 3 r ≠ st := by
  intro f
  induction f with
  | zero => intro x hx h; exact absurd rfl h
  | succ f ih =>
    intro x hx h r h1 h2
    rw [rWs] at h h2
    split at h
    · exact absurd rfl h
    · rename_i hn
      rw [if_neg hn] at h2
      split at h
      · rename_i hs
        rw [if_pos hs] at h2
        omega
      · rename_i hs
        rw [if_neg hs] at h2
        by_cases e : (r : Int) = x
        · have : r = x.toNat := by omega
          rw [this]; exact hs
        · exact ih (x + 1) (by omega) h r (by omega) h2
theorem into_e {A : rS} {o t : Int} (k i : Nat) (h1 : k ≠ 7) (h2 : k ≠ 8) (h3 : k ≠ 4) (h4 : k ≠ 20) : rInto A o t k i = A k i := rInto_k h1 h2 h3 h4
theorem into7 {A : rS} {o t : Int} (i : Nat) : rInto A o t 7 i = if i = o.toNat then t else A 7 i := by
  unfold rInto
  rw [up_k _ _ (by decide), up_k _ _ (by decide), up_k _ _ (by decide)]
  simp [up]
theorem into8 {A : rS} {o t : Int} (i : Nat) : rInto A o t 8 i = if i = o.toNat then A 4 t.toNat else A 8 i := by
  unfold rInto
  rw [up_k _ _ (by decide), up_k _ _ (by decide)]
  simp [up]
theorem into4 {A : rS} {o t : Int} (i : Nat) : rInto A o t 4 i = if i = t.toNat then A 4 t.toNat + A 9 o.toNat else A 4 i := by
  unfold rInto
  rw [up_k _ _ (by decide)]
  simp [up]
theorem into_KK {A : rS} {P G : Nat → Prop} {o t : Int} (h : KK A P G) (h18 : A 18 0 = 2) (ho : 0 ≤ o ∧ o < A 6 0) (hP : P o.toNat) (ht : 0 ≤ t ∧ t < A 1 0) (h3 : A 3 t.toNat = 2) (hu : A 4 t.toNat + A 9 o.toNat ≤ 128) : KK (rInto A o t) P G := by
  obtain ⟨hV, hR, ⟨s1, s2, s3⟩, ⟨p1, p2, p3, p4, p5, p6⟩, ⟨q1, q2, q3⟩, hg, ⟨t1, t2⟩⟩ := h
  have b1 := hV.1.b1 0
  have b6 := hV.1.b6 0
  have bo := hV.2.1 o.toNat (by unfold nn; omega)
  have e := @into_e A o t
  have e1 := e 1 0 (by decide) (by decide) (by decide) (by decide)
  have e6 := e 6 0 (by decide) (by decide) (by decide) (by decide)
  have e18 := e 18 0 (by decide) (by decide) (by decide) (by decide)
  have e9 : ∀ i, rInto A o t 9 i = A 9 i := fun i => e 9 i (by decide) (by decide) (by decide) (by decide)
  have e11 : ∀ i, rInto A o t 11 i = A 11 i := fun i => e 11 i (by decide) (by decide) (by decide) (by decide)
  have e12 : ∀ i, rInto A o t 12 i = A 12 i := fun i => e 12 i (by decide) (by decide) (by decide) (by decide)
  have e13 : ∀ i, rInto A o t 13 i = A 13 i := fun i => e 13 i (by decide) (by decide) (by decide) (by decide)
  have e14 : ∀ i, rInto A o t 14 i = A 14 i := fun i => e 14 i (by decide) (by decide) (by decide) (by decide)
  have e15 : ∀ i, rInto A o t 15 i = A 15 i := fun i => e 15 i (by decide) (by decide) (by decide) (by decide)
  have e16 := e 16 0 (by decide) (by decide) (by decide) (by decide)
  have e17 := e 17 0 (by decide) (by decide) (by decide) (by decide)
  have e19 := e 19 0 (by decide) (by decide) (by decide) (by decide)
  have e3 : ∀ i, rInto A o t 3 i = A 3 i := fun i => e 3 i (by decide) (by decide) (by decide) (by decide)
  have e5 : ∀ i, rInto A o t 5 i = A 5 i := fun i => e 5 i (by decide) (by decide) (by decide) (by decide)
  have en : nn (rInto A o t) = nn A := by unfold nn; rw [e6]
  have h4 := hV.1.b4 t.toNat
  refine ⟨⟨rInto_I hV.1 (by omega) hu, ?_, ?_, ?_, ?_⟩, ?_, ⟨?_, ?_, ?_⟩, ⟨?_, ?_, ?_, ?_, ?_, ?_⟩, ⟨?_, ?_, ?_⟩, ⟨hg.1, ?_, ?_⟩, ⟨?_, ?_⟩⟩
  · intro q hq
    rw [en] at hq
    rw [e9, into7, e1]
    have := hV.2.1 q hq
    split <;> omega
  · intro q i hq
    rw [en] at hq
    rw [e9, e11, e6]
    exact hV.2.2.1 q i hq
  · intro k
    rw [e14, e6]
    exact hV.2.2.2.1 k
  · rw [e6]; exact hV.2.2.2.2
  · refine ⟨by rw [e16, e17]; exact hR.1, fun i => ?_, fun i j => ?_⟩
    · rw [e17, e15, e12, e6]; exact hR.2.1 i
    · rw [e17, e15, e15]; exact hR.2.2 i j
  · intro r
    rw [e3, into4]
    intro q
    split
    · rename_i w; rw [w] at q; omega
    · exact s1 r q
  · intro r q; rw [e1, e3, e3]; exact s2 r q
  · intro r q; rw [e1, e3, e3]; exact s3 r q
  · rw [e18, e16, e17]; exact p1
  · intro q; rw [e18] at q; omega
  · intro q; rw [e18] at q; omega
  · intro q; rw [e18] at q; omega
  · intro _ q hq h13
    rw [en] at hq
    rw [e13] at h13
    rw [into7, e3, e5]
    split
    · intro w; omega
    · exact p5 (by omega) q hq h13
  · intro q; rw [e18] at q; omega
  · intro q hq
    obtain ⟨a1, a2, a3⟩ := q1 q hq
    rw [en, into7, e3, into8, e9, into4]
    refine ⟨a1, ?_, ?_⟩
    · split
      · omega
      · exact a2
    · by_cases w : q = o.toNat
      · rw [if_pos w, if_pos w, if_pos rfl, w]; omega
      · rw [if_neg w, if_neg w]
        split
        · rename_i w2
          rw [w2] at a3
          omega
        · exact a3
  · intro q hq
    rw [en] at hq
    rw [e12]
    exact q2 q hq
  · intro a b ha hb
    rw [into7, into7, into8, into8]
    have ka := q1 a ha
    have kb := q1 b hb
    have va := hV.2.1 a ka.1
    have vb := hV.2.1 b kb.1
    by_cases wa : a = o.toNat <;> by_cases wb : b = o.toNat
    · intro _ _; omega
    · rw [if_pos wa, if_neg wb, if_pos wa, if_neg wb]
      intro m1 m2
      rw [← m1] at kb
      omega
    · rw [if_neg wa, if_pos wb, if_neg wa, if_pos wb]
      intro m1 m2
      rw [m1] at ka
      omega
    · rw [if_neg wa, if_neg wb, if_neg wa, if_neg wb]
      exact q3 a b ha hb
  · intro k; rw [e14]; exact hg.2.1 k
  · intro a i; rw [e9, e11]; exact hg.2.2 a i
  · intro q; rw [e18] at q; omega
  · intro _ a ha; rw [e12]; exact t2 (by omega) a ha
