/-! a unit of updating; a cycle begins -/
/-- the objects that stand behind a cycle -/
def pEnd (A : rS) (P : Nat → Prop) : Nat → Prop := fun o => P o ∧ ¬ (A 3 (A 7 o).toNat = 4 ∧ A 5 (A 7 o).toNat = 0)
/-- .. behind a unit -/
def pUnit (A : rS) (P : Nat → Prop) : Nat → Prop := fun o => P o ∧ ¬ (A 18 0 = 3 ∧ A 1 0 ≤ A 19 0 + 1 ∧ A 3 (A 7 o).toNat = 4 ∧ A 5 (A 7 o).toNat = 0)
theorem RI_of {A B : rS} (h : RI A) (h' : ∀ k i, k < 20 → B k i = A k i ∨ (slo k ≤ B k i ∧ B k i ≤ shi k)) : RI B := fun k i hk => by
  rcases h' k i hk with e | e
  · rw [e]; exact h k i hk
  · exact e
theorem fin3_b {s f : Int} (hs : 0 ≤ s ∧ s ≤ 4) : 0 ≤ fin3 s f ∧ fin3 s f ≤ 4 := by unfold fin3; repeat' split <;> omega
theorem update_KK {A : rS} {P G : Nat → Prop} (h : KK A P G) (h18 : A 18 0 = 3) : KK (rUpdate A) (pUnit A P) G := by
  obtain ⟨hV, hR, ⟨s1, s2, s3⟩, ⟨p1, p2, p3, p4, p5, p6⟩, ⟨q1, q2, q3⟩, hg, ⟨t1, t2⟩⟩ := h
  have b1 := hV.1.b1 0
  have b19 := hV.1.b19 0
  have n19 := p2 h18
  unfold rUpdate
  split
  · rename_i hn
    have eP : pUnit A P = P := by
      funext o
      exact propext ⟨fun q => q.1, fun q => ⟨q, fun w => by omega⟩⟩
    rw [eP]
    have e : ∀ k i, k ≠ 19 → up A 19 0 (A 19 0 + 1) k i = A k i := fun k i hk => up_k _ _ hk
    refine ⟨⟨hV.1.u19 0 (by omega), hV.2⟩, hR, ⟨s1, s2, s3⟩, ⟨p1, fun _ => ?_, p3, p4, p5, p6⟩, ⟨q1, q2, q3⟩, hg, ⟨t1, t2⟩⟩
    rw [up_s]
    exact hn
  · rename_i hn
    have eP : pUnit A P = pEnd A P := by
      funext o
      exact propext ⟨fun q => ⟨q.1, fun w => q.2 ⟨h18, by omega, w⟩⟩, fun q => ⟨q.1, fun w => q.2 w.2.2⟩⟩
    rw [eP]
    generalize hB : up (rEnd 20 0 (up A 19 0 (A 19 0 + 1))) 18 0 0 = B
    have f1 : (up A 19 0 (A 19 0 + 1)) 1 0 = A 1 0 := rfl
    have e : ∀ k i, k ≠ 3 → k ≠ 4 → k ≠ 18 → k ≠ 19 → B k i = A k i := fun k i k3 k4 k8 k9 => by rw [← hB, up_k _ _ k8, rEnd_k _ _ _ _ _ k3 k4, up_k _ _ k9]
    have e3 : ∀ r : Nat, (r : Int) < A 1 0 → B 3 r = fin3 (A 3 r) (A 5 r) := fun r hr => by
      rw [← hB, up_k _ _ (by decide), rEnd_3 _ _ _ (by omega) (by rw [f1]; omega), f1, if_pos ⟨by omega, hr⟩]
      rfl
    have e3' : ∀ r : Nat, B 3 r = fin3 (A 3 r) (A 5 r) ∨ B 3 r = A 3 r := fun r => by
      rw [← hB, up_k _ _ (by decide), rEnd_3 _ _ _ (by omega) (by rw [f1]; omega), f1]
      split
      · exact Or.inl rfl
      · exact Or.inr rfl
    have e4 : ∀ r : Nat, B 4 r = if ((0 : Int) ≤ r ∧ (r : Int) < A 1 0) ∧ A 3 r = 4 ∧ A 5 r = 0 then 0 else A 4 r := fun r => by
      rw [← hB, up_k _ _ (by decide), rEnd_4 _ _ _ (by omega) (by rw [f1]; omega), f1]
      rfl
    have e18 : B 18 0 = 0 := by rw [← hB, up_s]
    have e19 : B 19 0 = A 19 0 + 1 := by rw [← hB, up_k _ _ (by decide), rEnd_k _ _ _ _ _ (by decide) (by decide), up_s]
    have e19' : ∀ i, B 19 i = A 19 i ∨ B 19 i = A 19 0 + 1 := fun i => by
      rw [← hB, up_k _ _ (by decide), rEnd_k _ _ _ _ _ (by decide) (by decide)]
      unfold up
      split
      · exact Or.inr rfl
      · exact Or.inl rfl
    have e18' : ∀ i, B 18 i = A 18 i ∨ B 18 i = 0 := fun i => by
      rw [← hB]
      unfold up
      split
      · exact Or.inr rfl
      · rw [rEnd_k _ _ _ _ _ (by decide) (by decide)]
        exact Or.inl rfl
    have e1 := e 1 0 (by decide) (by decide) (by decide) (by decide)
    have e6 := e 6 0 (by decide) (by decide) (by decide) (by decide)
    have en : nn B = nn A := by unfold nn; rw [e6]
    have hI : RI B := by
      refine RI_of hV.1 (fun k i hk => ?_)
      by_cases k3 : k = 3
      · subst k3
        rcases e3' i with w | w
        · right; rw [w]; exact fin3_b (hV.1.b3 i)
        · exact Or.inl w
      · by_cases k4 : k = 4
        · subst k4
          rw [e4]
          split
          · exact Or.inr (by decide)
          · exact Or.inl rfl
        · by_cases k8 : k = 18
          · subst k8
            rcases e18' i with w | w
            · exact Or.inl w
            · right; rw [w]; decide
          · by_cases k9 : k = 19
            · subst k9
              rcases e19' i with w | w
              · exact Or.inl w
              · right; rw [w]; show (0 : Int) ≤ _ ∧ _ ≤ (16 : Int); omega
            · exact Or.inl (e k i k3 k4 k8 k9)
    have hm : ∀ o, o < nn A → (A 7 o).toNat < 16 ∧ ((A 7 o).toNat : Int) < A 1 0 := fun o ho => by
      have := hV.2.1 o ho
      have := hV.1.b7 o
      omega
    have keep : ∀ o, o < nn A → A 12 o = 1 → P o → pEnd A P o := fun o ho h12 hp => ⟨hp, fun w => by
      have h13 := p6 h18 o ho h12 w.1
      have h5 := p5 (by omega) o ho h13 w.1
      omega⟩
    refine ⟨⟨hI, ?_, ?_, ?_, ?_⟩, ?_, ⟨?_, ?_, ?_⟩, ⟨?_, ?_, ?_, ?_, ?_, ?_⟩, ⟨?_, ?_, ?_⟩, ⟨?_, ?_, ?_⟩, ⟨?_, ?_⟩⟩
    · intro o ho
      rw [en] at ho
      rw [e 9 _ (by decide) (by decide) (by decide) (by decide), e 7 _ (by decide) (by decide) (by decide) (by decide), e1]; exact hV.2.1 o ho
    · intro o i ho
      rw [en] at ho
      rw [e 9 _ (by decide) (by decide) (by decide) (by decide), e 11 _ (by decide) (by decide) (by decide) (by decide), e6]; exact hV.2.2.1 o i ho
    · intro k; rw [e 14 _ (by decide) (by decide) (by decide) (by decide), e6]; exact hV.2.2.2.1 k
    · rw [e6]; exact hV.2.2.2.2
    · refine ⟨by rw [e 16 _ (by decide) (by decide) (by decide) (by decide), e 17 _ (by decide) (by decide) (by decide) (by decide)]; exact hR.1, fun i => ?_, fun i j => ?_⟩
      · rw [e 17 _ (by decide) (by decide) (by decide) (by decide), e 15 _ (by decide) (by decide) (by decide) (by decide), e 12 _ (by decide) (by decide) (by decide) (by decide), e6]; exact hR.2.1 i
      · rw [e 17 _ (by decide) (by decide) (by decide) (by decide), e 15 _ (by decide) (by decide) (by decide) (by decide), e 15 _ (by decide) (by decide) (by decide) (by decide)]; exact hR.2.2 i j
    · intro r hr
      rw [e4]
      split
      · rfl
      · rename_i w
        by_cases rl : (r : Int) < A 1 0
        · rw [e3 r rl] at hr
          unfold fin3 at hr
          split at hr
          · split at hr
            · rename_i w1 w2
              exact absurd ⟨⟨by omega, rl⟩, w1, w2⟩ w
            · omega
          · split at hr
            · omega
            · exact s1 r hr
        · have e9 : B 3 r = A 3 r := by
            rw [← hB, up_k _ _ (by decide), rEnd_3 _ _ _ (by omega) (by rw [f1]; omega), f1, if_neg (by omega)]
            rfl
          rw [e9] at hr
          exact s1 r hr
    · intro r q hr hq
      rw [e1] at hr hq
      rw [e3 r hr, e3 q hq]
      intro w1 w2
      have k : ∀ s f : Int, fin3 s f = 1 → s = 1 := fun s f => by unfold fin3; repeat' split <;> omega
      exact s2 r q hr hq (k _ _ w1) (k _ _ w2)
    · intro r q hr hq
      rw [e1] at hr hq
      rw [e3 r hr, e3 q hq]
      intro w1
      have k : ∀ s f : Int, fin3 s f ≠ 2 := fun s f => by unfold fin3; repeat' split <;> omega
      exact absurd w1 (k _ _)
    · intro _
      rw [e 16 _ (by decide) (by decide) (by decide) (by decide), e 17 _ (by decide) (by decide) (by decide) (by decide)]; exact p1 (by omega)
    · intro q; rw [e18] at q; omega
    · intro _ r hr
      rw [e1] at hr
      rw [e3 r hr]
      unfold fin3
      repeat' split <;> omega
    · intro q; rw [e18] at q; omega
    · intro q; rw [e18] at q; omega
    · intro q; rw [e18] at q; omega
    · rintro o ⟨ho, hw⟩
      obtain ⟨a1, a2, a3⟩ := q1 o ho
      obtain ⟨m1, m2⟩ := hm o a1
      rw [en, e 7 _ (by decide) (by decide) (by decide) (by decide), e3 _ m2, e 8 _ (by decide) (by decide) (by decide) (by decide), e 9 _ (by decide) (by decide) (by decide) (by decide), e4, if_neg (fun w => hw w.2)]
      refine ⟨a1, ?_, a3⟩
      unfold fin3
      split
      · rename_i w; rw [if_neg (fun w2 => hw ⟨w, w2⟩)]; omega
      · split <;> omega
    · intro o ho h12
      rw [en] at ho
      rw [e 12 _ (by decide) (by decide) (by decide) (by decide)] at h12
      exact keep o ho h12 (q2 o ho h12)
    · rintro a b ⟨ha, -⟩ ⟨hb, -⟩
      rw [e 7 _ (by decide) (by decide) (by decide) (by decide), e 7 _ (by decide) (by decide) (by decide) (by decide), e 8 _ (by decide) (by decide) (by decide) (by decide), e 8 _ (by decide) (by decide) (by decide) (by decide)]; exact q3 a b ha hb
    · intro o ho
      have hp := hg.1 o ho
      exact keep o (q1 o hp).1 (t2 (by omega) o ho) hp
    · intro k; rw [e 14 _ (by decide) (by decide) (by decide) (by decide)]; exact hg.2.1 k
    · intro a i; rw [e 9 _ (by decide) (by decide) (by decide) (by decide), e 11 _ (by decide) (by decide) (by decide) (by decide)]; exact hg.2.2 a i
    · intro q; rw [e18] at q; omega
    · intro q; rw [e18] at q; omega
theorem unit_KK {A : rS} {P G : Nat → Prop} (h : KK A P G) : KK (rUnit A) (pUnit A P) G := by
  have b18 := h.1.1.b18 0
  have h16 := h.2.1.1
  have eP : A 18 0 ≠ 3 → pUnit A P = P := fun q => by
    funext o
    exact propext ⟨fun w => w.1, fun w => ⟨w, fun v => q v.1⟩⟩
  unfold rUnit
  split
  · rename_i w
    rw [eP (by omega)]
    by_cases hr : A 16 0 < A 17 0
    · exact mark1_KK h w hr
    · exact mark2_KK h w (by omega)
  · split
    · rename_i w; rw [eP (by omega)]; exact moveOne_KK h w
    · split
      · rename_i w; exact update_KK h w
      · rw [eP (by assumption)]; exact h
