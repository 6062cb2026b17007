/-! a unit of marking -/
theorem KM.of {A : rS} {P G : Nat → Prop} (h : KK A P G) (h18 : A 18 0 = 1) : KM A P G (fun _ => False) := ⟨h.1, h.2.1, h.2.2.1, h.2.2.2.2.1, h.2.2.2.2.2.1, (h.2.2.2.2.2.2.1 h18).1, (h.2.2.2.2.2.2.1 h18).2⟩
/-- what marking leaves alone -/
theorem seeF_k {o : Int} : ∀ (f : Nat) (x : Int) (A : rS) (k i : Nat), k ≠ 12 → k ≠ 15 → k ≠ 17 → rSeeF o f x A k i = A k i := by
  intro f
  induction f with
  | zero => intro x A k i _ _ _; rfl
  | succ f ih =>
    intro x A k i h1 h2 h3
    rw [rSeeF]
    split
    · rfl
    · rw [ih _ _ k i h1 h2 h3, see_k k i h1 h2 h3]
theorem mark1_k {A : rS} (k i : Nat) (h0 : k ≠ 16) (h1 : k ≠ 12) (h2 : k ≠ 15) (h3 : k ≠ 17) : rSeeF (A 15 (A 16 0).toNat) 30 0 (up A 16 0 (A 16 0 + 1)) k i = A k i := by rw [seeF_k _ _ _ _ _ h1 h2 h3, up_k _ _ h0]
theorem mark1_KK {A : rS} {P G : Nat → Prop} (h : KK A P G) (h18 : A 18 0 = 1) (hr : A 16 0 < A 17 0) : KK (rMark A) P G := by
  have hm : rMark A = rSeeF (A 15 (A 16 0).toNat) 30 0 (up A 16 0 (A 16 0 + 1)) := by unfold rMark; rw [if_neg (by omega)]
  rw [hm]
  obtain ⟨h1, h2, h3⟩ := pop_KM (KM.of h h18) hr
  obtain ⟨hV, hR, hS, hP, hg, hs, ht⟩ := seeF_KM h2 h3 30 0 _ (by omega) (by omega) h1
  obtain ⟨-, -, -, ⟨-, p2, p3, p4, p5, p6⟩, -, -, -⟩ := h
  have e18 : rSeeF (A 15 (A 16 0).toNat) 30 0 (up A 16 0 (A 16 0 + 1)) 18 0 = 1 := by rw [mark1_k _ _ (by decide) (by decide) (by decide) (by decide)]; exact h18
  refine ⟨hV, hR, hS, ⟨?_, ?_, ?_, ?_, ?_, ?_⟩, hP, hg, ⟨fun _ => ⟨hs, ht⟩, ?_⟩⟩
  · intro q; exact absurd e18 q
  · intro q; rw [e18] at q; omega
  · intro _ r
    rw [mark1_k _ _ (by decide) (by decide) (by decide) (by decide), mark1_k _ _ (by decide) (by decide) (by decide) (by decide)]
    exact p3 (by omega) r
  · intro _ o ho
    unfold nn at ho
    rw [mark1_k _ _ (by decide) (by decide) (by decide) (by decide)] at ho
    rw [mark1_k _ _ (by decide) (by decide) (by decide) (by decide)]
    exact p4 h18 o ho
  · intro q; rw [e18] at q; omega
  · intro q; rw [e18] at q; omega
  · intro q; rw [e18] at q; omega
/-- the set -/
def Ch (A B : rS) : Prop := (∀ k i, k ≠ 3 → k ≠ 5 → B k i = A k i) ∧ (∀ r, B 3 r = A 3 r ∨ (A 3 r = 3 ∧ B 3 r = 4)) ∧ RI B
theorem choose_Ch : ∀ (f : Nat) (x : Int) (A : rS), RI A → Ch A (rChoose f x A) := by
  intro f
  induction f with
  | zero => intro x A h; exact ⟨fun _ _ _ _ => rfl, fun _ => Or.inl rfl, h⟩
  | succ f ih =>
    intro x A h
    rw [rChoose]
    split
    · exact ⟨fun _ _ _ _ => rfl, fun _ => Or.inl rfl, h⟩
    · generalize hv : (if A 3 x.toNat = 3 ∧ A 2 0 < A 4 x.toNat - rSeenIn (up A 5 x.toNat 0) x then (4 : Int) else A 3 x.toNat) = v
      have h3 := h.b3 x.toNat
      have hv1 : v = A 3 x.toNat ∨ (A 3 x.toNat = 3 ∧ v = 4) := by
        rw [← hv]
        split
        · rename_i q; exact Or.inr ⟨q.1, rfl⟩
        · exact Or.inl rfl
      obtain ⟨i1, i2, i3⟩ := ih (x + 1) (up (up A 5 x.toNat 0) 3 x.toNat v) ((h.u5 _ (by omega)).u3 _ (by omega))
      refine ⟨fun k i k3 k5 => ?_, fun r => ?_, i3⟩
      · rw [i1 k i k3 k5, up_k _ _ k3, up_k _ _ k5]
      · rcases i2 r with q | q
        · rw [q]
          by_cases er : r = x.toNat
          · subst er
            rw [up_s]
            exact hv1
          · rw [up_i _ er, up_k _ _ (by decide)]
            exact Or.inl rfl
        · by_cases er : r = x.toNat
          · subst er
            rw [up_s] at q
            rcases hv1 with q1 | q1
            · exact Or.inr ⟨by rw [← q1]; exact q.1, q.2⟩
            · omega
          · rw [up_i _ er, up_k _ _ (by decide)] at q
            exact Or.inr q
theorem mark2_KK {A : rS} {P G : Nat → Prop} (h : KK A P G) (h18 : A 18 0 = 1) (hr : A 17 0 ≤ A 16 0) : KK (rMark A) P G := by
  have hm : rMark A = up (rChoose 20 0 A) 18 0 2 := by unfold rMark; rw [if_pos hr]
  rw [hm]
  obtain ⟨hV, hR, ⟨s1, s2, s3⟩, ⟨p1, p2, p3, p4, p5, p6⟩, ⟨q1, q2, q3⟩, hg, ⟨t1, t2⟩⟩ := h
  obtain ⟨c1, c2, c3⟩ := choose_Ch 20 0 A hV.1
  generalize rChoose 20 0 A = B at c1 c2 c3
  have e : ∀ k i, k ≠ 3 → k ≠ 5 → k ≠ 18 → up B 18 0 2 k i = A k i := fun k i k3 k5 k8 => by rw [up_k _ _ k8, c1 k i k3 k5]
  have e3 : ∀ r, up B 18 0 2 3 r = B 3 r := fun r => up_k _ _ (by decide)
  have en : nn (up B 18 0 2) = nn A := by unfold nn; rw [e 6 0 (by decide) (by decide) (by decide)]
  have gs : ∀ o, G o → A 12 o = 1 := fun o ho => by
    rcases (t1 h18).2 o ho with q | q
    · exact q
    · exact (q (fun _ => False) (fun x hx => by obtain ⟨i, i1, i2, -⟩ := hx; omega) (fun _ q => q) (fun _ q => q.elim)).elim
  have hph := p3 (by omega)
  have h16 := hR.1
  refine ⟨⟨c3.u18 0 (by omega), ?_, ?_, ?_, ?_⟩, ?_, ⟨?_, ?_, ?_⟩, ⟨?_, ?_, ?_, ?_, ?_, ?_⟩, ⟨?_, ?_, ?_⟩, ⟨hg.1, ?_, ?_⟩, ⟨?_, ?_⟩⟩
  · intro o ho
    rw [en] at ho
    rw [e 9 o (by decide) (by decide) (by decide), e 7 o (by decide) (by decide) (by decide), e 1 0 (by decide) (by decide) (by decide)]
    exact hV.2.1 o ho
  · intro o i ho
    rw [en] at ho
    rw [e 9 o (by decide) (by decide) (by decide), e 11 _ (by decide) (by decide) (by decide), e 6 0 (by decide) (by decide) (by decide)]
    exact hV.2.2.1 o i ho
  · intro k
    rw [e 14 _ (by decide) (by decide) (by decide), e 6 0 (by decide) (by decide) (by decide)]
    exact hV.2.2.2.1 k
  · rw [e 6 0 (by decide) (by decide) (by decide)]; exact hV.2.2.2.2
  · refine ⟨?_, ?_, ?_⟩
    · rw [e 16 0 (by decide) (by decide) (by decide), e 17 0 (by decide) (by decide) (by decide)]; exact h16
    · intro i
      rw [e 17 0 (by decide) (by decide) (by decide), e 15 i (by decide) (by decide) (by decide), e 12 _ (by decide) (by decide) (by decide), e 6 0 (by decide) (by decide) (by decide)]
      exact hR.2.1 i
    · intro i j
      rw [e 17 0 (by decide) (by decide) (by decide), e 15 i (by decide) (by decide) (by decide), e 15 j (by decide) (by decide) (by decide)]
      exact hR.2.2 i j
  · intro r
    rw [e3, e 4 r (by decide) (by decide) (by decide)]
    intro q
    exact s1 r (by rcases c2 r with w | w <;> omega)
  · intro r q hr' hq
    rw [e 1 0 (by decide) (by decide) (by decide)] at hr' hq
    rw [e3, e3]
    intro a b
    exact s2 r q hr' hq (by rcases c2 r with w | w <;> omega) (by rcases c2 q with w | w <;> omega)
  · intro r q hr' hq
    rw [e 1 0 (by decide) (by decide) (by decide)] at hr' hq
    rw [e3, e3]
    intro a b
    exact s3 r q hr' hq (by rcases c2 r with w | w <;> omega) (by rcases c2 q with w | w <;> omega)
  · intro _
    rw [e 16 0 (by decide) (by decide) (by decide), e 17 0 (by decide) (by decide) (by decide)]; omega
  · intro q; rw [up_s] at q; omega
  · intro q; rw [up_s] at q; omega
  · intro q; rw [up_s] at q; omega
  · intro _ o ho h13
    rw [en] at ho
    rw [e 13 o (by decide) (by decide) (by decide)] at h13
    have := p4 h18 o ho
    omega
  · intro q; rw [up_s] at q; omega
  · intro o ho
    rw [en, e 7 o (by decide) (by decide) (by decide), e3, e 8 o (by decide) (by decide) (by decide), e 9 o (by decide) (by decide) (by decide), e 4 _ (by decide) (by decide) (by decide)]
    obtain ⟨a, b, c⟩ := q1 o ho
    exact ⟨a, by rcases c2 (A 7 o).toNat with w | w <;> omega, c⟩
  · intro o ho
    rw [en] at ho
    rw [e 12 o (by decide) (by decide) (by decide)]
    exact q2 o ho
  · intro o q
    rw [e 7 o (by decide) (by decide) (by decide), e 7 q (by decide) (by decide) (by decide), e 8 o (by decide) (by decide) (by decide), e 8 q (by decide) (by decide) (by decide)]
    exact q3 o q
  · intro k
    rw [e 14 _ (by decide) (by decide) (by decide)]
    exact hg.2.1 k
  · intro o i
    rw [e 9 o (by decide) (by decide) (by decide), e 11 _ (by decide) (by decide) (by decide)]
    exact hg.2.2 o i
  · intro q; rw [up_s] at q; omega
  · intro _ o ho
    rw [e 12 o (by decide) (by decide) (by decide)]
    exact gs o ho
