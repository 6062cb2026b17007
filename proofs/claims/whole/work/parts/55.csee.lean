/-! the class relation, when the state changes in other components -/
def cR (v0 : Option Value) (A' : rS) (P' : Nat → Prop) (cy' : Int) (μ : mM) (z : Nat) : Option Value → mM → Nat → Prop := fun v μ' z' => v = v0 ∧ z' = z ∧ CR A' P' cy' μ' ∧ cfr μ μ'
theorem rWs_cg {A B : rS} {st : Int} (h1 : B 1 0 = A 1 0) (h3 : ∀ r, B 3 r = A 3 r) : ∀ (f : Nat) (x : Int), rWs B st f x = rWs A st f x := by
  intro f
  induction f with
  | zero => intro x; rfl
  | succ f ih => intro x; rw [rWs, rWs, h1, h3, ih]
theorem rWith_cg {A B : rS} {st : Int} (h1 : B 1 0 = A 1 0) (h3 : ∀ r, B 3 r = A 3 r) : rWith B st = rWith A st := rWs_cg h1 h3 20 0
section CG
variable {A B : rS} {P : Nat → Prop} {cy : Int} {μ : mM}
theorem C1.cg (h : C1 A μ) (h1 : B 1 0 = A 1 0) (h6 : B 6 0 = A 6 0) (h9 : ∀ o, B 9 o = A 9 o) (h10 : ∀ o, B 10 o = A 10 o) : C1 B μ := by
  unfold C1 RN nn at *
  simp only [h1, h6, h9, h10]
  exact h
theorem C2.cg (h : C2 A cy μ) (h2 : B 2 0 = A 2 0) (h18 : B 18 0 = A 18 0) (h19 : B 19 0 = A 19 0) (h20 : B 20 0 = A 20 0) (h21 : B 21 0 = A 21 0) : C2 B cy μ := by
  unfold C2 at *
  rw [h2, h18, h19, h20, h21]
  exact h
theorem C3.cg (h : C3 A μ) (h14 : ∀ k, B 14 k = A 14 k) : C3 B μ := fun k hk => by rw [h14]; exact h k hk
theorem C4.cg (h : C4 A μ) (h1 : B 1 0 = A 1 0) (h3 : ∀ r, B 3 r = A 3 r) : C4 B μ := by
  unfold C4 at *
  rw [rWith_cg h1 h3, rWith_cg h1 h3]
  exact h
theorem C5.cg (h : C5 A μ) (h6 : B 6 0 = A 6 0) (h15 : ∀ i, B 15 i = A 15 i) (h16 : B 16 0 = A 16 0) (h17 : B 17 0 = A 17 0) : C5 B μ := by
  unfold C5 nn at *
  simp only [h6, h15, h16, h17]
  exact h
theorem C7.cg (h : C7 A P μ) (h1 : B 1 0 = A 1 0) (h7 : ∀ o, B 7 o = A 7 o) (h8 : ∀ o, B 8 o = A 8 o) : C7 B P μ := by
  unfold C7 RN at *
  simp only [h1, h7, h8]
  exact h
theorem C8.cg (h : C8 A cy μ) (h6 : B 6 0 = A 6 0) (h7 : ∀ o, B 7 o = A 7 o) (h8 : ∀ o, B 8 o = A 8 o) (h9 : ∀ o, B 9 o = A 9 o) (h11 : ∀ o, B 11 o = A 11 o) (h12 : ∀ o, B 12 o = A 12 o) (h13 : ∀ o, B 13 o = A 13 o) : C8 B cy μ := by
  unfold C8 nn at *
  simp only [h6, h7, h8, h9, h11, h12, h13]
  exact h
/-- where no region is in the set, nobody has to be moved -/
theorem C6.cg4 (h : C6 A μ) (h1 : B 1 0 = A 1 0) (h3 : ∀ r, B 3 r = A 3 r) (h4 : ∀ r, B 4 r = A 4 r) (hn : ∀ r : Nat, r < RN A → A 3 r ≠ 4) : C6 B μ := fun r hr => by
  have hr : r < RN A := by unfold RN at *; rw [h1] at hr; exact hr
  obtain ⟨x1, x2, ⟨q, x3, x3a, x3b⟩, p, x4, x5, x6, x7⟩ := h r hr
  exact ⟨by rw [h3]; exact x1, by rw [h4]; exact x2, ⟨q, x3, x3a, fun w => absurd (by rw [← h3]; exact w) (hn r hr)⟩, p, x4, x5, x6, fun w => absurd (by rw [← h3]; exact w) (hn r hr)⟩
theorem C6.cg (h : C6 A μ) (h1 : B 1 0 = A 1 0) (h3 : ∀ r, B 3 r = A 3 r) (h4 : ∀ r, B 4 r = A 4 r) (h5 : ∀ r, B 5 r = A 5 r) (h6 : B 6 0 = A 6 0) (h7 : ∀ o, B 7 o = A 7 o) (h8 : ∀ o, B 8 o = A 8 o) (h12 : ∀ o, B 12 o = A 12 o) (h13 : ∀ o, B 13 o = A 13 o) : C6 B μ := by
  have ht : ∀ o : Nat, rToMove B (o : Int) = rToMove A (o : Int) := fun o => by unfold rToMove; rw [h12, h13, h7, h3]
  unfold C6 nn RN at *
  simp only [h1, h3, h4, h5, h6, h7, h8, ht]
  exact h
end CG
/-- an object is seen: what stays -/
theorem see_CR0 {A : rS} {P : Nat → Prop} {cy : Int} {μ μ' : mM} {o : Nat} (hc : CR A P cy μ) (ho : o < nn A) (h12 : A 12 o = 0) (h34 : ∀ r : Nat, r < RN A → A 3 r ≠ 4) (h1 : C1 A μ') (h2 : C2 A cy μ') (h3 : C3 A μ') (h4 : C4 A μ') (h5 : C5 (rSee A o) μ') (h6 : C6 A μ') (h7 : C7 A P μ')
    (h8 : ∀ q, q < nn A → mq μ' (aOb q) 2 = mq μ (aOb q) 2 ∧ mi μ' (aOb q) 3 = mi μ (aOb q) 3 ∧ mi μ' (aOb q) 5 = mi μ (aOb q) 5 ∧ (∀ i, mq μ' (aFd q) i = mq μ (aFd q) i) ∧ mi μ' (aOb q) 4 = if q = o then iv cy else mi μ (aOb q) 4) : CR (rSee A o) P cy μ' := by
  obtain ⟨-, -, -, -, -, -, -, k8, c0, c1⟩ := hc
  have e : ∀ k i, k ≠ 12 → k ≠ 15 → k ≠ 17 → rSee A o k i = A k i := fun k i => see_k k i
  have e12 : ∀ q, rSee A o 12 q = if q = o then 1 else A 12 q := fun q => by rw [see12 (by omega) (by simpa using h12)]; simp
  refine ⟨h1.cg (e 1 0 (by decide) (by decide) (by decide)) (e 6 0 (by decide) (by decide) (by decide)) (fun q => e 9 q (by decide) (by decide) (by decide)) (fun q => e 10 q (by decide) (by decide) (by decide)), h2.cg (e 2 0 (by decide) (by decide) (by decide)) (e 18 0 (by decide) (by decide) (by decide)) (e 19 0 (by decide) (by decide) (by decide)) (e 20 0 (by decide) (by decide) (by decide)) (e 21 0 (by decide) (by decide) (by decide)), h3.cg (fun q => e 14 q (by decide) (by decide) (by decide)), h4.cg (e 1 0 (by decide) (by decide) (by decide)) (fun q => e 3 q (by decide) (by decide) (by decide)), h5, h6.cg4 (e 1 0 (by decide) (by decide) (by decide)) (fun q => e 3 q (by decide) (by decide) (by decide)) (fun q => e 4 q (by decide) (by decide) (by decide)) h34, h7.cg (e 1 0 (by decide) (by decide) (by decide)) (fun q => e 7 q (by decide) (by decide) (by decide)) (fun q => e 8 q (by decide) (by decide) (by decide)), fun q hq => ?_, c0, c1⟩
  rw [see_nn] at hq
  obtain ⟨x1, x2, x3, x4, x5⟩ := h8 q hq
  obtain ⟨y1, y2, ⟨sv, y3, y3a, y3b, y3c⟩, ⟨fv, y4, y4b⟩, y5⟩ := k8 q hq
  rw [e 7 q (by decide) (by decide) (by decide), e 8 q (by decide) (by decide) (by decide), e 13 q (by decide) (by decide) (by decide), e 9 q (by decide) (by decide) (by decide), x1, x2, x3, x5, e12]
  refine ⟨y1, y2, ?_, ⟨fv, y4, y4b⟩, fun i hi => ?_⟩
  · by_cases w : q = o
    · rw [if_pos w, if_pos w]
      exact ⟨cy, rfl, by omega, by omega, ⟨fun _ => rfl, fun _ => rfl⟩⟩
    · rw [if_neg w, if_neg w]
      exact ⟨sv, y3, y3a, y3b, y3c⟩
  · rw [x4, e 11 _ (by decide) (by decide) (by decide)]
    exact y5 i hi
theorem see15N {A : rS} {o : Nat} (h12 : A 12 o = 0) (i : Nat) : rSee A (o : Int) 15 i = if i = (A 17 0).toNat then (o : Int) else A 15 i := see15 (by omega) (by simpa using h12) i
theorem see17N {A : rS} {o : Nat} (h12 : A 12 o = 0) : rSee A (o : Int) 17 0 = A 17 0 + 1 := see17 (by omega) (by simpa using h12)
theorem see_CRn {A : rS} {P : Nat → Prop} {cy : Int} {μ : mM} {o : Nat} (hI : RI A) (hR : Rw A) (hc : CR A P cy μ) (ho : o < nn A) (h12 : A 12 o = 0) (h34 : ∀ r : Nat, r < RN A → A 3 r ≠ 4) (he : ¬ A 16 0 < A 17 0) :
    CR (rSee A o) P cy (setI (setQ (setQ (setI μ (aOb o) 4 (iv cy)) 3 0 (some (aOb o))) 3 1 (some (aOb o))) 3 2 (iv (A 17 0 - A 16 0 + 1))) := by
  obtain ⟨h1, h2, h3, h4, ⟨c1, c2, c3, c4, c5⟩, h6, h7, h8, -, -⟩ := id hc
  have b17 := hI.b17 0
  have b16 := hI.b16 0
  have r1 := hR.1
  refine see_CR0 hc ho h12 h34 ?_ ?_ ?_ ?_ ?_ ?_ ?_ ?_
  · exact (((h1.I (fun r q => absurd q.symm (aRg_ne_aOb r o)) (fun _ _ => by decide)).Q (by decide) (by decide) (by decide) (by decide) (fun r q => absurd q.symm (aRg_f (by decide))) (fun r q => absurd q.symm (aOb_f (by decide)))).Q (by decide) (by decide) (by decide) (by decide) (fun r q => absurd q.symm (aRg_f (by decide))) (fun r q => absurd q.symm (aOb_f (by decide)))).I (fun r q => absurd q.symm (aRg_f (by decide))) (fun r q => absurd q.symm (aOb_f (by decide)))
  · exact C2.I (C2.Q (C2.Q (h2.I (aOb_f (by decide))))) (by decide)
  · exact C3.I (C3.Q (C3.Q (C3.I h3) (by decide)) (by decide))
  · exact C4.I (C4.Q (C4.Q (C4.I h4) (by decide)) (by decide))
  · have e16 : rSee A (o : Int) 16 0 = A 16 0 := see_k 16 0 (by decide) (by decide) (by decide)
    refine ⟨?_, ?_, ?_, ?_, ?_⟩
    · rw [mq_I, mq_ne (by omega), mq_eq, e16, see17N h12, if_pos (by omega), see15N h12, if_pos (by omega)]
      simp
    · rw [mq_I, mq_eq, e16, see17N h12, if_pos (by omega), see15N h12, if_pos (by omega)]
      simp
    · rw [mi_eq, e16, see17N h12, show A 17 0 - A 16 0 + 1 = A 17 0 + 1 - A 16 0 by omega]
    · intro i i1 i2
      rw [e16] at i1
      rw [see17N h12] at i2
      omega
    · intro q hq _
      rw [see_nn] at hq
      rw [mq_I, mq_ne (fun w => aOb_f (by decide) w.1), mq_ne (fun w => aOb_f (by decide) w.1), mq_I]
      exact c5 q hq (fun i i1 i2 => by omega)
  · exact C6.I (C6.Q (C6.Q (h6.I (fun r q => aRg_ne_aOb r o q.symm)))) (fun r q => aRg_f (by decide) q.symm)
  · exact C7.I (C7.Q (C7.Q (C7.I h7) (fun r q => aSt_f (by decide) q.symm)) (fun r q => aSt_f (by decide) q.symm))
  · intro q hq
    refine ⟨?_, ?_, ?_, fun i => ?_, ?_⟩
    · rw [mq_I, mq_ne (fun w => aOb_f (by decide) w.1), mq_ne (fun w => aOb_f (by decide) w.1), mq_I]
    · rw [mi_ne (fun w => aOb_f (by decide) w.1), mi_Q, mi_Q, mi_ne (fun w => absurd w.2 (by decide))]
    · rw [mi_ne (fun w => aOb_f (by decide) w.1), mi_Q, mi_Q, mi_ne (fun w => absurd w.2 (by decide))]
    · rw [mq_I, mq_ne (fun w => aFd_f (by decide) w.1), mq_ne (fun w => aFd_f (by decide) w.1), mq_I]
    · rw [mi_ne (fun w => aOb_f (by decide) w.1), mi_Q, mi_Q, mi_I]
      by_cases w : q = o
      · rw [if_pos ⟨by rw [w], rfl⟩, if_pos w]
      · rw [if_neg (fun v => w (aOb_inj v.1)), if_neg w]
theorem see_CRs {A : rS} {P : Nat → Prop} {cy : Int} {μ : mM} {o : Nat} (hI : RI A) (hR : Rw A) (hc : CR A P cy μ) (ho : o < nn A) (h12 : A 12 o = 0) (h34 : ∀ r : Nat, r < RN A → A 3 r ≠ 4) (he : A 16 0 < A 17 0) :
    CR (rSee A o) P cy (setI (setQ (setQ (setI μ (aOb o) 4 (iv cy)) (aOb (A 15 (A 17 0 - 1).toNat).toNat) 6 (some (aOb o))) 3 1 (some (aOb o))) 3 2 (iv (A 17 0 - A 16 0 + 1))) := by
  obtain ⟨h1, h2, h3, h4, ⟨c1, c2, c3, c4, c5⟩, h6, h7, h8, -, -⟩ := id hc
  have b17 := hI.b17 0
  have b16 := hI.b16 0
  have b15 := hI.b15 (A 17 0 - 1).toNat
  refine see_CR0 hc ho h12 h34 ?_ ?_ ?_ ?_ ?_ ?_ ?_ ?_
  · exact (((h1.I (fun r q => absurd q.symm (aRg_ne_aOb r o)) (fun _ _ => by decide)).Q (aOb_f (by decide)) (aOb_f (by decide)) (fun q => absurd q (aOb_f (by decide))) (aOb_f (by decide)) (fun r q => absurd q.symm (aRg_ne_aOb _ _)) (fun r q => by decide)).Q (by decide) (by decide) (by decide) (by decide) (fun r q => absurd q.symm (aRg_f (by decide))) (fun r q => absurd q.symm (aOb_f (by decide)))).I (fun r q => absurd q.symm (aRg_f (by decide))) (fun r q => absurd q.symm (aOb_f (by decide)))
  · exact C2.I (C2.Q (C2.Q (h2.I (aOb_f (by decide))))) (by decide)
  · exact C3.I (C3.Q (C3.Q (C3.I h3) (aOb_f (by decide))) (by decide))
  · exact C4.I (C4.Q (C4.Q (C4.I h4) (aOb_f (by decide))) (by decide))
  · have e16 : rSee A (o : Int) 16 0 = A 16 0 := see_k 16 0 (by decide) (by decide) (by decide)
    refine ⟨?_, ?_, ?_, ?_, ?_⟩
    · rw [mq_I, mq_ne (by omega), mq_ne (fun w => aOb_f (by decide) w.1.symm), mq_I, e16, see17N h12, if_pos (by omega), see15N h12, if_neg (by omega), c1, if_pos he]
    · rw [mq_I, mq_eq, e16, see17N h12, if_pos (by omega), see15N h12, if_pos (by omega)]
      simp
    · rw [mi_eq, e16, see17N h12, show A 17 0 - A 16 0 + 1 = A 17 0 + 1 - A 16 0 by omega]
    · intro i i1 i2
      rw [e16] at i1
      rw [see17N h12] at i2
      rw [mq_I, mq_ne (fun w => aOb_f (by decide) w.1), see15N h12, if_neg (by omega), see15N h12]
      have b15i := hI.b15 i
      by_cases w : (i : Int) + 1 = A 17 0
      · have ei : i = (A 17 0 - 1).toNat := by omega
        rw [if_pos (by omega), ei, mq_eq]
        simp
      · rw [if_neg (by omega), mq_ne (fun v => ?_), mq_I]
        · exact c4 i i1 (by omega)
        · have e1 := aOb_inj v.1
          have e2 := hR.2.2 i (A 17 0 - 1).toNat (by omega) (by omega) (by omega)
          omega
    · intro q hq hn
      rw [see_nn] at hq
      have hn' : ∀ i : Nat, A 16 0 ≤ i → (i : Int) < A 17 0 → A 15 i ≠ q := fun i i1 i2 => by
        have := hn i (by rw [e16]; exact i1) (by rw [see17N h12]; omega)
        rw [see15N h12, if_neg (by omega)] at this
        exact this
      rw [mq_I, mq_ne (fun w => aOb_f (by decide) w.1), mq_ne (fun v => ?_), mq_I]
      · exact c5 q hq (fun i i1 i2 => hn' i i1 (by omega))
      · have e1 := aOb_inj v.1
        exact hn' (A 17 0 - 1).toNat (by omega) (by omega) (by omega)
  · exact C6.I (C6.Q (C6.Q (h6.I (fun r q => aRg_ne_aOb r o q.symm)))) (fun r q => aRg_f (by decide) q.symm)
  · exact C7.I (C7.Q (C7.Q (C7.I h7) (fun r q => aOb_ne_aSt _ r q)) (fun r q => aSt_f (by decide) q.symm))
  · intro q hq
    refine ⟨?_, ?_, ?_, fun i => ?_, ?_⟩
    · rw [mq_I, mq_ne (fun w => aOb_f (by decide) w.1), mq_ne (fun w => absurd w.2 (by decide)), mq_I]
    · rw [mi_ne (fun w => aOb_f (by decide) w.1), mi_Q, mi_Q, mi_ne (fun w => absurd w.2 (by decide))]
    · rw [mi_ne (fun w => aOb_f (by decide) w.1), mi_Q, mi_Q, mi_ne (fun w => absurd w.2 (by decide))]
    · rw [mq_I, mq_ne (fun w => aFd_f (by decide) w.1), mq_ne (fun w => aOb_ne_aFd _ _ w.1.symm), mq_I]
    · rw [mi_ne (fun w => aOb_f (by decide) w.1), mi_Q, mi_Q, mi_I]
      by_cases w : q = o
      · rw [if_pos ⟨by rw [w], rfl⟩, if_pos w]
      · rw [if_neg (fun v => w (aOb_inj v.1)), if_neg w]
