/-! the class relation when a cycle begins, and when the first that waits is taken -/
theorem start_CR {A : rS} {P G : Nat → Prop} {cy : Int} {μ : mM} (hc : CR A P cy μ) (hK : KK A P G) (h18 : A 18 0 = 0) (hcy : cy < 2000) : CR (rSt0 A) P (cy + 1) (setI (setI μ 1 3 (iv 1)) 1 4 (iv (cy + 1))) := by
  obtain ⟨h1, ⟨d1, d2, d3, d4, d5, d6⟩, h3, h4, ⟨c1, c2, c3, c4, c5⟩, h6, h7, h8, k0, k1⟩ := id hc
  have b6 := hK.1.1.b6 0
  have hrr := hK.2.2.2.1.1 (by omega)
  have h34 : ∀ r : Nat, r < RN A → A 3 r ≠ 4 := fun r hr => (hK.2.2.2.1.2.2.1 (by omega) r (by unfold RN at hr; omega)).2
  have e : ∀ k i, k ≠ 12 → k ≠ 13 → k ≠ 16 → k ≠ 17 → k ≠ 18 → rSt0 A k i = A k i := fun k i k1 k2 k3 k4 k5 => by unfold rSt0; rw [up_k _ _ k5, up_k _ _ k4, up_k _ _ k3, rClr_k _ _ _ _ _ k1 k2]
  have e12 : ∀ o, o < nn A → rSt0 A 12 o = 0 := fun o ho => by
    unfold nn at ho
    unfold rSt0
    rw [up_k _ _ (by decide), up_k _ _ (by decide), up_k _ _ (by decide), rClr_z 700 0 A 12 (Or.inl rfl) (by omega) (by omega), if_pos (by omega)]
  have e13 : ∀ o, o < nn A → rSt0 A 13 o = 0 := fun o ho => by
    unfold nn at ho
    unfold rSt0
    rw [up_k _ _ (by decide), up_k _ _ (by decide), up_k _ _ (by decide), rClr_z 700 0 A 13 (Or.inr rfl) (by omega) (by omega), if_pos (by omega)]
  have e16 : rSt0 A 16 0 = 0 := by unfold rSt0; rw [up_k _ _ (by decide), up_k _ _ (by decide), up_s]
  have e17 : rSt0 A 17 0 = 0 := by unfold rSt0; rw [up_k _ _ (by decide), up_s]
  have e18 : rSt0 A 18 0 = 1 := by unfold rSt0; rw [up_s]
  have e1 := e 1 0 (by decide) (by decide) (by decide) (by decide) (by decide)
  have e6 := e 6 0 (by decide) (by decide) (by decide) (by decide) (by decide)
  have e3 : ∀ r, rSt0 A 3 r = A 3 r := fun r => e 3 r (by decide) (by decide) (by decide) (by decide) (by decide)
  have en : nn (rSt0 A) = nn A := by unfold nn; rw [e6]
  refine ⟨?_, ⟨?_, ?_, ?_, ?_, ?_, ?_⟩, ?_, ?_, ⟨?_, ?_, ?_, ?_, ?_⟩, ?_, ?_, fun o ho => ?_, by omega, by omega⟩
  · exact ((h1.I (fun r q => absurd q.symm (aRg_f (by decide))) (fun r q => absurd q.symm (aOb_f (by decide)))).I (fun r q => absurd q.symm (aRg_f (by decide))) (fun r q => absurd q.symm (aOb_f (by decide)))).cg e1 e6 (fun o => e 9 o (by decide) (by decide) (by decide) (by decide) (by decide)) (fun o => e 10 o (by decide) (by decide) (by decide) (by decide) (by decide))
  · rw [mi_ne (by omega), mi_ne (by omega), e 2 0 (by decide) (by decide) (by decide) (by decide) (by decide)]; exact d1
  · rw [mi_ne (by omega), mi_eq, e18]
  · rw [mi_eq]
  · rw [mi_ne (by omega), mi_ne (by omega), e 19 0 (by decide) (by decide) (by decide) (by decide) (by decide)]; exact d4
  · rw [mi_ne (by omega), mi_ne (by omega), e 20 0 (by decide) (by decide) (by decide) (by decide) (by decide)]; exact d5
  · rw [mi_ne (by omega), mi_ne (by omega), e 21 0 (by decide) (by decide) (by decide) (by decide) (by decide)]; exact d6
  · exact C3.cg (C3.I (C3.I h3)) (fun k => e 14 k (by decide) (by decide) (by decide) (by decide) (by decide))
  · exact C4.cg (C4.I (C4.I h4)) e1 e3
  · rw [mq_I, mq_I, c1, if_neg (by omega), if_neg (by omega)]
  · rw [mq_I, mq_I, c2, if_neg (by omega), if_neg (by omega)]
  · rw [mi_ne (by omega), mi_ne (by omega), c3, e16, e17, hrr]; simp
  · intro i i1 i2; rw [e16] at i1; rw [e17] at i2; omega
  · intro o ho _
    rw [en] at ho
    rw [mq_I, mq_I]
    exact c5 o ho (fun i i1 i2 => by omega)
  · exact C6.cg4 (C6.I (C6.I h6 (fun r q => aRg_f (by decide) q.symm)) (fun r q => aRg_f (by decide) q.symm)) e1 e3 (fun r => e 4 r (by decide) (by decide) (by decide) (by decide) (by decide)) h34
  · exact C7.cg (C7.I (C7.I h7)) e1 (fun o => e 7 o (by decide) (by decide) (by decide) (by decide) (by decide)) (fun o => e 8 o (by decide) (by decide) (by decide) (by decide) (by decide))
  · rw [en] at ho
    obtain ⟨y1, y2, ⟨sv, y3, y3a, y3b, y3c⟩, ⟨fv, y4, y4a, y4b, y4c⟩, y5⟩ := h8 o ho
    rw [mq_I, mq_I, mi_ne (fun w => aOb_f (by decide) w.1), mi_ne (fun w => aOb_f (by decide) w.1), mi_ne (fun w => aOb_f (by decide) w.1), mi_ne (fun w => aOb_f (by decide) w.1), mi_ne (fun w => aOb_f (by decide) w.1), mi_ne (fun w => aOb_f (by decide) w.1), e 7 o (by decide) (by decide) (by decide) (by decide) (by decide), e 8 o (by decide) (by decide) (by decide) (by decide) (by decide), e 9 o (by decide) (by decide) (by decide) (by decide) (by decide), e12 o ho, e13 o ho]
    refine ⟨y1, y2, ⟨sv, y3, y3a, by omega, by omega⟩, ⟨fv, y4, y4a, by omega, by omega⟩, fun i hi => ?_⟩
    rw [mq_I, mq_I, e 11 _ (by decide) (by decide) (by decide) (by decide) (by decide)]
    exact y5 i hi
/-- a change of the row alone -/
theorem row_CR {A B : rS} {P : Nat → Prop} {cy : Int} {μ μ' : mM} (hc : CR A P cy μ) (he : ∀ k i, k ≠ 15 → k ≠ 16 → k ≠ 17 → B k i = A k i) (h5 : C5 B μ') (hs : ∀ a, sh μ' a = sh μ a) (hi : ∀ a k, a ≠ 3 → mi μ' a k = mi μ a k) (hq : ∀ a k, a ≠ 3 → (∀ o, a = aOb o → k ≠ 6) → mq μ' a k = mq μ a k) : CR B P cy μ' := by
  obtain ⟨h1, h2, h3, h4, -, h6, h7, h8, k0, k1⟩ := hc
  have hir : ∀ r k, mi μ' (aRg r) k = mi μ (aRg r) k := fun r k => hi _ k (aRg_f (by decide))
  have hio : ∀ r k, mi μ' (aOb r) k = mi μ (aOb r) k := fun r k => hi _ k (aOb_f (by decide))
  have hi1 : ∀ k, mi μ' 1 k = mi μ 1 k := fun k => hi 1 k (by decide)
  have hqf : ∀ a k, a < 6 → a ≠ 3 → mq μ' a k = mq μ a k := fun a k ha h3 => hq a k h3 (fun o e => absurd e.symm (aOb_f ha))
  have hqr : ∀ r k, mq μ' (aRg r) k = mq μ (aRg r) k := fun r k => hq _ k (aRg_f (by decide)) (fun o e => absurd e (aRg_ne_aOb _ _))
  have hqs : ∀ r k, mq μ' (aSt r) k = mq μ (aSt r) k := fun r k => hq _ k (aSt_f (by decide)) (fun o e => absurd e.symm (aOb_ne_aSt _ _))
  have hqd : ∀ r k, mq μ' (aFd r) k = mq μ (aFd r) k := fun r k => hq _ k (aFd_f (by decide)) (fun o e => absurd e.symm (aOb_ne_aFd _ _))
  have hqo : ∀ r k, k ≠ 6 → mq μ' (aOb r) k = mq μ (aOb r) k := fun r k hk => hq _ k (aOb_f (by decide)) (fun _ _ => hk)
  have e : ∀ k i, k ≠ 15 → k ≠ 16 → k ≠ 17 → B k i = A k i := he
  have e1 := e 1 0 (by decide) (by decide) (by decide)
  have e6 := e 6 0 (by decide) (by decide) (by decide)
  refine ⟨C1.cg (A := A) ?_ e1 e6 (fun o => e 9 o (by decide) (by decide) (by decide)) (fun o => e 10 o (by decide) (by decide) (by decide)), C2.cg (A := A) ?_ (e 2 0 (by decide) (by decide) (by decide)) (e 18 0 (by decide) (by decide) (by decide)) (e 19 0 (by decide) (by decide) (by decide)) (e 20 0 (by decide) (by decide) (by decide)) (e 21 0 (by decide) (by decide) (by decide)), C3.cg (A := A) ?_ (fun q => e 14 q (by decide) (by decide) (by decide)), C4.cg (A := A) ?_ e1 (fun q => e 3 q (by decide) (by decide) (by decide)), h5, C6.cg (A := A) ?_ e1 (fun q => e 3 q (by decide) (by decide) (by decide)) (fun q => e 4 q (by decide) (by decide) (by decide)) (fun q => e 5 q (by decide) (by decide) (by decide)) e6 (fun q => e 7 q (by decide) (by decide) (by decide)) (fun q => e 8 q (by decide) (by decide) (by decide)) (fun q => e 12 q (by decide) (by decide) (by decide)) (fun q => e 13 q (by decide) (by decide) (by decide)), C7.cg (A := A) ?_ e1 (fun q => e 7 q (by decide) (by decide) (by decide)) (fun q => e 8 q (by decide) (by decide) (by decide)), C8.cg (A := A) ?_ e6 (fun q => e 7 q (by decide) (by decide) (by decide)) (fun q => e 8 q (by decide) (by decide) (by decide)) (fun q => e 9 q (by decide) (by decide) (by decide)) (fun q => e 11 q (by decide) (by decide) (by decide)) (fun q => e 12 q (by decide) (by decide) (by decide)) (fun q => e 13 q (by decide) (by decide) (by decide)), k0, k1⟩
  · unfold C1 at *
    simp only [hs, hqf 0 0 (by decide) (by decide), hqf 0 1 (by decide) (by decide), hqf 1 0 (by decide) (by decide), hqf 1 2 (by decide) (by decide), hqf 2 0 (by decide) (by decide), hqf 2 1 (by decide) (by decide), hqr, hir, hio, hqo _ 1 (by decide), hqf 5 _ (by decide) (by decide)]
    exact h1
  · unfold C2 at *
    simp only [hi1]
    exact h2
  · intro k hk; rw [hqf 4 k (by decide) (by decide)]; exact h3 k hk
  · unfold C4 at *; rw [hqf 2 2 (by decide) (by decide), hqf 2 3 (by decide) (by decide)]; exact h4
  · unfold C6 at *; simp only [hir]; exact h6
  · unfold C7 at *; simp only [hqs]; exact h7
  · unfold C8 at *; simp only [hio, hqd, hqo _ 2 (by decide)]; exact h8
theorem pop_CRl {A : rS} {P : Nat → Prop} {cy : Int} {μ : mM} (hI : RI A) (hc : CR A P cy μ) (he : A 16 0 + 1 = A 17 0) : CR (up A 16 0 (A 16 0 + 1)) P cy (setI (setQ (setQ (setQ μ 3 0 none) 3 1 none) (aOb (A 15 (A 16 0).toNat).toNat) 6 none) 3 2 (iv (A 17 0 - A 16 0 - 1))) := by
  obtain ⟨c1, c2, c3, c4, c5⟩ := hc.2.2.2.2.1
  refine row_CR hc (fun k i _ h _ => up_k _ _ h) ⟨?_, ?_, ?_, ?_, ?_⟩ (fun _ => rfl) (fun a k ha => ?_) (fun a k ha hk => ?_)
  · rw [mq_I, mq_ne (fun w => aOb_f (by decide) w.1.symm), mq_ne (by omega), mq_eq, up_s, up_k _ _ (by decide), if_neg (by omega)]
  · rw [mq_I, mq_ne (fun w => aOb_f (by decide) w.1.symm), mq_eq, up_s, up_k _ _ (by decide), if_neg (by omega)]
  · rw [mi_eq, up_s, up_k _ _ (by decide)]; congr 1; omega
  · intro i i1 i2
    rw [up_s] at i1
    rw [up_k _ _ (by decide)] at i2
    omega
  · intro o ho _
    have ho : o < nn A := ho
    rw [mq_I]
    by_cases w : o = (A 15 (A 16 0).toNat).toNat
    · rw [w, mq_eq]
    · rw [mq_ne (fun v => w (aOb_inj v.1)), mq_ne (fun v => aOb_f (by decide) v.1), mq_ne (fun v => aOb_f (by decide) v.1)]
      have b15 := hI.b15 (A 16 0).toNat
      have b16 := hI.b16 0
      exact c5 o ho (fun i i1 i2 => by omega)
  · rw [mi_ne (fun v => ha v.1), mi_Q, mi_Q, mi_Q]
  · rw [mq_I, mq_ne (fun v => hk _ v.1 v.2), mq_ne (fun v => ha v.1), mq_ne (fun v => ha v.1)]
theorem pop_CRm {A : rS} {P : Nat → Prop} {cy : Int} {μ : mM} (hI : RI A) (hR : Rw A) (hc : CR A P cy μ) (he : A 16 0 + 1 < A 17 0) : CR (up A 16 0 (A 16 0 + 1)) P cy (setI (setQ (setQ μ 3 0 (some (aOb (A 15 ((A 16 0).toNat + 1)).toNat))) (aOb (A 15 (A 16 0).toNat).toNat) 6 none) 3 2 (iv (A 17 0 - A 16 0 - 1))) := by
  obtain ⟨c1, c2, c3, c4, c5⟩ := hc.2.2.2.2.1
  have b16 := hI.b16 0
  have b15 := hI.b15 (A 16 0).toNat
  refine row_CR hc (fun k i _ h _ => up_k _ _ h) ⟨?_, ?_, ?_, ?_, ?_⟩ (fun _ => rfl) (fun a k ha => ?_) (fun a k ha hk => ?_)
  · rw [mq_I, mq_ne (fun w => aOb_f (by decide) w.1.symm), mq_eq, up_s, up_k _ _ (by decide), if_pos (by omega), up_k _ _ (by decide), show (A 16 0 + 1).toNat = (A 16 0).toNat + 1 by omega]
  · rw [mq_I, mq_ne (fun w => aOb_f (by decide) w.1.symm), mq_ne (by omega), c2, up_s, up_k _ _ (by decide), if_pos (by omega), if_pos (by omega), up_k _ _ (by decide)]
  · rw [mi_eq, up_s, up_k _ _ (by decide)]; congr 1; omega
  · intro i i1 i2
    rw [up_s] at i1
    rw [up_k _ _ (by decide)] at i2
    rw [up_k _ _ (by decide), up_k _ _ (by decide), mq_I, mq_ne (fun v => ?_), mq_ne (fun v => aOb_f (by decide) v.1)]
    · exact c4 i (by omega) i2
    · have e1 := aOb_inj v.1
      have b15i := hI.b15 i
      have e2 := hR.2.2 i (A 16 0).toNat (by omega) (by omega) (by omega)
      omega
  · intro o ho hn
    have ho : o < nn A := ho
    rw [mq_I]
    by_cases w : o = (A 15 (A 16 0).toNat).toNat
    · rw [w, mq_eq]
    · rw [mq_ne (fun v => w (aOb_inj v.1)), mq_ne (fun v => aOb_f (by decide) v.1)]
      refine c5 o ho (fun i i1 i2 q => ?_)
      by_cases v : (i : Int) = A 16 0
      · have ei : i = (A 16 0).toNat := by omega
        rw [ei] at q
        exact w (by omega)
      · exact hn i (by rw [up_s]; omega) (by rw [up_k _ _ (by decide)]; exact i2) q
  · rw [mi_ne (fun v => ha v.1), mi_Q, mi_Q]
  · rw [mq_I, mq_ne (fun v => hk _ v.1 v.2), mq_ne (fun v => ha v.1)]
