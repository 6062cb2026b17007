/-- a free region becomes the target -/
theorem tgt_KK {A : rS} {P G : Nat → Prop} {f : Int} (h : KK A P G) (h18 : A 18 0 = 2) (hf : 0 ≤ f ∧ f < A 1 0) (h0 : A 3 f.toNat = 0) :
    KK (up (up (if rWith A 2 = -1 then A else up A 3 (rWith A 2).toNat 3) 3 f.toNat 2) 4 f.toNat 0) P G ∧ (up (up (if rWith A 2 = -1 then A else up A 3 (rWith A 2).toNat 3) 3 f.toNat 2) 4 f.toNat 0) 3 f.toNat = 2 ∧ (up (up (if rWith A 2 = -1 then A else up A 3 (rWith A 2).toNat 3) 3 f.toNat 2) 4 f.toNat 0) 4 f.toNat = 0 := by
  obtain ⟨hV, hR, ⟨s1, s2, s3⟩, ⟨p1, p2, p3, p4, p5, p6⟩, ⟨q1, q2, q3⟩, hg, ⟨t1, t2⟩⟩ := h
  have b1 := hV.1.b1 0
  have b2 := rWith_b hV.1 2
  generalize hA1 : (if rWith A 2 = -1 then A else up A 3 (rWith A 2).toNat 3) = A1
  have c1 : ∀ k i, k ≠ 3 → A1 k i = A k i := fun k i hk => by rw [← hA1]; split <;> first | rfl | exact up_k _ _ hk
  have I1 : RI A1 := by rw [← hA1]; split <;> first | exact hV.1 | exact hV.1.u3 _ (by omega)
  have c3 : ∀ r : Nat, (r : Int) < A 1 0 → (A1 3 r = A 3 r ∧ A 3 r ≠ 2) ∨ (A 3 r = 2 ∧ A1 3 r = 3) := fun r hr => by
    rw [← hA1]
    by_cases w : rWith A 2 = -1
    · rw [if_pos w]
      exact Or.inl ⟨rfl, rWith_none hV.1 w r hr⟩
    · rw [if_neg w]
      have hw := rWith_some w
      by_cases er : r = (rWith A 2).toNat
      · right
        rw [er, up_s]
        exact ⟨hw.2.2, rfl⟩
      · left
        rw [up_i _ er]
        exact ⟨rfl, fun q => er (s3 r (rWith A 2).toNat hr (by omega) q hw.2.2)⟩
  have c3' : ∀ r : Nat, A1 3 r = A 3 r ∨ (A 3 r = 2 ∧ A1 3 r = 3) := fun r => by
    rw [← hA1]
    by_cases w : rWith A 2 = -1
    · rw [if_pos w]; exact Or.inl rfl
    · rw [if_neg w]
      have hw := rWith_some w
      by_cases er : r = (rWith A 2).toNat
      · right; rw [er, up_s]; exact ⟨hw.2.2, rfl⟩
      · left; rw [up_i _ er]
  generalize hB : up (up A1 3 f.toNat 2) 4 f.toNat 0 = B
  have e : ∀ k i, k ≠ 3 → k ≠ 4 → B k i = A k i := fun k i k3 k4 => by rw [← hB, up_k _ _ k4, up_k _ _ k3, c1 k i k3]
  have e3 : ∀ r, B 3 r = if r = f.toNat then 2 else A1 3 r := fun r => by rw [← hB, up_k _ _ (by decide)]; simp [up]
  have e4 : ∀ r, B 4 r = A 4 r := fun r => by
    rw [← hB]
    by_cases er : r = f.toNat
    · rw [er, up_s, s1 _ h0]
    · rw [up_i _ er, up_k _ _ (by decide), c1 _ _ (by decide)]
  have en : nn B = nn A := by unfold nn; rw [e 6 0 (by decide) (by decide)]
  have e18 := e 18 0 (by decide) (by decide)
  have e1 := e 1 0 (by decide) (by decide)
  have e6 := e 6 0 (by decide) (by decide)
  have B4 : B 4 f.toNat = 0 := by rw [e4, s1 _ h0]
  refine ⟨⟨⟨?_, ?_, ?_, ?_, ?_⟩, ?_, ⟨?_, ?_, ?_⟩, ⟨?_, ?_, ?_, ?_, ?_, ?_⟩, ⟨?_, ?_, ?_⟩, ⟨hg.1, ?_, ?_⟩, ⟨?_, ?_⟩⟩, by rw [e3, if_pos rfl], B4⟩
  · rw [← hB]; exact (I1.u3 _ (by omega)).u4 _ (by omega)
  · intro o ho
    rw [en] at ho
    rw [e 9 _ (by decide) (by decide), e 7 _ (by decide) (by decide), e1]; exact hV.2.1 o ho
  · intro o i ho
    rw [en] at ho
    rw [e 9 _ (by decide) (by decide), e 11 _ (by decide) (by decide), e6]; exact hV.2.2.1 o i ho
  · intro k; rw [e 14 _ (by decide) (by decide), e6]; exact hV.2.2.2.1 k
  · rw [e6]; exact hV.2.2.2.2
  · refine ⟨by rw [e 16 _ (by decide) (by decide), e 17 _ (by decide) (by decide)]; exact hR.1, fun i => ?_, fun i j => ?_⟩
    · rw [e 17 _ (by decide) (by decide), e 15 _ (by decide) (by decide), e 12 _ (by decide) (by decide), e6]; exact hR.2.1 i
    · rw [e 17 _ (by decide) (by decide), e 15 _ (by decide) (by decide), e 15 _ (by decide) (by decide)]; exact hR.2.2 i j
  · intro r
    rw [e3, e4]
    split
    · intro q; omega
    · intro q
      exact s1 r (by rcases c3' r with w | w <;> omega)
  · intro r q hr hq
    rw [e1] at hr hq
    rw [e3, e3]
    split <;> split
    · intro w; omega
    · intro w; omega
    · intro _ w; omega
    · intro w1 w2
      exact s2 r q hr hq (by rcases c3 r hr with w | w <;> omega) (by rcases c3 q hq with w | w <;> omega)
  · intro r q hr hq
    rw [e1] at hr hq
    rw [e3, e3]
    split <;> split
    · intro _ _; omega
    · intro _ w2
      rcases c3 q hq with w | w <;> omega
    · intro w1 _
      rcases c3 r hr with w | w <;> omega
    · intro w1 _
      rcases c3 r hr with w | w <;> omega
  · rw [e18, e 16 _ (by decide) (by decide), e 17 _ (by decide) (by decide)]; exact p1
  · intro q; rw [e18] at q; omega
  · intro q; rw [e18] at q; omega
  · intro q; rw [e18] at q; omega
  · intro _ o ho h13
    rw [en] at ho
    rw [e 13 _ (by decide) (by decide)] at h13
    rw [e 7 _ (by decide) (by decide), e3, e 5 _ (by decide) (by decide)]
    split
    · intro w; omega
    · intro w
      exact p5 (by omega) o ho h13 (by rcases c3' (A 7 o).toNat with v | v <;> omega)
  · intro q; rw [e18] at q; omega
  · intro o ho
    obtain ⟨a1, a2, a3⟩ := q1 o ho
    rw [en, e 7 _ (by decide) (by decide), e3, e 8 _ (by decide) (by decide), e 9 _ (by decide) (by decide), e4]
    refine ⟨a1, ?_, a3⟩
    split
    · omega
    · rcases c3' (A 7 o).toNat with v | v <;> omega
  · intro o ho
    rw [en] at ho
    rw [e 12 _ (by decide) (by decide)]; exact q2 o ho
  · intro a b; rw [e 7 _ (by decide) (by decide), e 7 _ (by decide) (by decide), e 8 _ (by decide) (by decide), e 8 _ (by decide) (by decide)]; exact q3 a b
  · intro k; rw [e 14 _ (by decide) (by decide)]; exact hg.2.1 k
  · intro a i; rw [e 9 _ (by decide) (by decide), e 11 _ (by decide) (by decide)]; exact hg.2.2 a i
  · intro q; rw [e18] at q; omega
  · intro _ a ha; rw [e 12 _ (by decide) (by decide)]; exact t2 (by omega) a ha
/-- an object fails -/
theorem fail_KK {A : rS} {P G : Nat → Prop} {o : Int} (h : KK A P G) (h18 : A 18 0 = 2) : KK (up (up (up A 13 o.toNat 1) 5 (A 7 o.toNat).toNat 1) 21 0 (A 21 0 + 1)) P G := by
  obtain ⟨hV, hR, ⟨s1, s2, s3⟩, ⟨p1, p2, p3, p4, p5, p6⟩, ⟨q1, q2, q3⟩, hg, ⟨t1, t2⟩⟩ := h
  have I1 : RI (up (up (up A 13 o.toNat 1) 5 (A 7 o.toNat).toNat 1) 21 0 (A 21 0 + 1)) := ((hV.1.u13 _ (by omega)).u5 _ (by omega)).u21 _
  generalize hB : up (up (up A 13 o.toNat 1) 5 (A 7 o.toNat).toNat 1) 21 0 (A 21 0 + 1) = B at I1 ⊢
  have e : ∀ k i, k ≠ 13 → k ≠ 5 → k ≠ 21 → B k i = A k i := fun k i k1 k2 k3 => by rw [← hB, up_k _ _ k3, up_k _ _ k2, up_k _ _ k1]
  have e5 : ∀ r, B 5 r = if r = (A 7 o.toNat).toNat then 1 else A 5 r := fun r => by rw [← hB, up_k _ _ (by decide)]; simp [up]
  have e13 : ∀ i, B 13 i = if i = o.toNat then 1 else A 13 i := fun i => by rw [← hB, up_k _ _ (by decide), up_k _ _ (by decide)]; simp [up]
  have e18 := e 18 0 (by decide) (by decide) (by decide)
  have e1 := e 1 0 (by decide) (by decide) (by decide)
  have e6 := e 6 0 (by decide) (by decide) (by decide)
  have en : nn B = nn A := by unfold nn; rw [e6]
  refine ⟨⟨I1, ?_, ?_, ?_, ?_⟩, ?_, ⟨?_, ?_, ?_⟩, ⟨?_, ?_, ?_, ?_, ?_, ?_⟩, ⟨?_, ?_, ?_⟩, ⟨hg.1, ?_, ?_⟩, ⟨?_, ?_⟩⟩
  · intro q hq
    rw [en] at hq
    rw [e 9 _ (by decide) (by decide) (by decide), e 7 _ (by decide) (by decide) (by decide), e1]; exact hV.2.1 q hq
  · intro q i hq
    rw [en] at hq
    rw [e 9 _ (by decide) (by decide) (by decide), e 11 _ (by decide) (by decide) (by decide), e6]; exact hV.2.2.1 q i hq
  · intro k; rw [e 14 _ (by decide) (by decide) (by decide), e6]; exact hV.2.2.2.1 k
  · rw [e6]; exact hV.2.2.2.2
  · refine ⟨by rw [e 16 _ (by decide) (by decide) (by decide), e 17 _ (by decide) (by decide) (by decide)]; exact hR.1, fun i => ?_, fun i j => ?_⟩
    · rw [e 17 _ (by decide) (by decide) (by decide), e 15 _ (by decide) (by decide) (by decide), e 12 _ (by decide) (by decide) (by decide), e6]; exact hR.2.1 i
    · rw [e 17 _ (by decide) (by decide) (by decide), e 15 _ (by decide) (by decide) (by decide), e 15 _ (by decide) (by decide) (by decide)]; exact hR.2.2 i j
  · intro r; rw [e 3 _ (by decide) (by decide) (by decide), e 4 _ (by decide) (by decide) (by decide)]; exact s1 r
  · intro r q; rw [e1, e 3 _ (by decide) (by decide) (by decide), e 3 _ (by decide) (by decide) (by decide)]; exact s2 r q
  · intro r q; rw [e1, e 3 _ (by decide) (by decide) (by decide), e 3 _ (by decide) (by decide) (by decide)]; exact s3 r q
  · rw [e18, e 16 _ (by decide) (by decide) (by decide), e 17 _ (by decide) (by decide) (by decide)]; exact p1
  · intro q; rw [e18] at q; omega
  · intro q; rw [e18] at q; omega
  · intro q; rw [e18] at q; omega
  · intro _ q hq h13
    rw [en] at hq
    rw [e13] at h13
    rw [e 7 _ (by decide) (by decide) (by decide), e 3 _ (by decide) (by decide) (by decide), e5]
    intro w
    split
    · rfl
    · rename_i w2
      by_cases w3 : q = o.toNat
      · rw [w3] at w2; exact absurd rfl w2
      · rw [if_neg w3] at h13
        exact p5 (by omega) q hq h13 w
  · intro q; rw [e18] at q; omega
  · intro q hq
    rw [en, e 7 _ (by decide) (by decide) (by decide), e 3 _ (by decide) (by decide) (by decide), e 8 _ (by decide) (by decide) (by decide), e 9 _ (by decide) (by decide) (by decide), e 4 _ (by decide) (by decide) (by decide)]; exact q1 q hq
  · intro q hq
    rw [en] at hq
    rw [e 12 _ (by decide) (by decide) (by decide)]; exact q2 q hq
  · intro a b; rw [e 7 _ (by decide) (by decide) (by decide), e 7 _ (by decide) (by decide) (by decide), e 8 _ (by decide) (by decide) (by decide), e 8 _ (by decide) (by decide) (by decide)]; exact q3 a b
  · intro k; rw [e 14 _ (by decide) (by decide) (by decide)]; exact hg.2.1 k
  · intro a i; rw [e 9 _ (by decide) (by decide) (by decide), e 11 _ (by decide) (by decide) (by decide)]; exact hg.2.2 a i
  · intro q; rw [e18] at q; omega
  · intro _ a ha; rw [e 12 _ (by decide) (by decide) (by decide)]; exact t2 (by omega) a ha
theorem carry_KK {A : rS} {P G : Nat → Prop} {o : Int} (h : KK A P G) (h18 : A 18 0 = 2) (ho : 0 ≤ o ∧ o < A 6 0) (hs : A 12 o.toNat = 1) : KK (rCarry A o) P G := by
  have hV := h.1
  have b1 := hV.1.b1 0
  have b6 := hV.1.b6 0
  have b9 := hV.1.b9 o.toNat
  have hP : P o.toNat := h.2.2.2.2.1.2.1 o.toNat (by unfold nn; omega) hs
  unfold rCarry
  split
  · split
    · exact fail_KK h h18
    · rename_i w
      have hw := rWith_some w
      obtain ⟨k1, k2, k3⟩ := tgt_KK h h18 ⟨hw.1, hw.2.1⟩ hw.2.2
      have e : ∀ k i, k ≠ 3 → k ≠ 4 → (up (up (if rWith A 2 = -1 then A else up A 3 (rWith A 2).toNat 3) 3 (rWith A 0).toNat 2) 4 (rWith A 0).toNat 0) k i = A k i := fun k i k3 k4 => by
        rw [up_k _ _ k4, up_k _ _ k3]
        split
        · rfl
        · exact up_k _ _ k3
      refine into_KK k1 ?_ ?_ hP ?_ k2 ?_
      · rw [e _ _ (by decide) (by decide)]; exact h18
      · rw [e _ _ (by decide) (by decide)]; exact ho
      · rw [e _ _ (by decide) (by decide)]; exact ⟨hw.1, hw.2.1⟩
      · rw [k3, e _ _ (by decide) (by decide)]; omega
  · rename_i w
    have w1 : rWith A 2 ≠ -1 := fun q => w (Or.inl q)
    have hw := rWith_some w1
    exact into_KK h h18 ho hP ⟨hw.1, hw.2.1⟩ hw.2.2 (by omega)
