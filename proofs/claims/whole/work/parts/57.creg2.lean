/-! regions become closed, free, active, target -/
theorem up3_3 {A : rS} {x : Nat} {v : Int} (r : Nat) : up A 3 x v 3 r = if r = x then v else A 3 r := by simp [up]
theorem kind_CR {A : rS} {P : Nat → Prop} {cy v : Int} {μ μ' : mM} {x : Nat} (hc : CR A P cy μ) (hv : v ≠ 4) (hs : ∀ a, sh μ' a = sh μ a) (hi : ∀ a k, mi μ' a k = if a = aRg x ∧ k = 2 then iv v else mi μ a k) (hq : ∀ a k, (a = 2 → k < 2) → mq μ' a k = mq μ a k) (h4 : C4 (up A 3 x v) μ') : CR (up A 3 x v) P cy μ' := by
  have e : ∀ k i, k ≠ 3 → up A 3 x v k i = A k i := fun k i h => up_k _ _ h
  have h1 : ∀ k, mi μ' 1 k = mi μ 1 k := fun k => by rw [hi, if_neg (fun w => aRg_f (by decide) w.1.symm)]
  have hqs : ∀ r k, mq μ' (aSt r) k = mq μ (aSt r) k := fun r k => hq _ k (fun w => absurd w (aSt_f (by decide)))
  refine reg_CR hc (fun k i k3 _ _ _ _ => e k i k3) ?_ h4 ?_ ?_ hs (fun a k _ h2 => ?_) (fun a k h2 _ => hq a k h2)
  · have h2 := hc.2.1
    unfold C2 at *
    simp only [h1, e 2 _ (by decide), e 18 _ (by decide), e 19 _ (by decide), e 20 _ (by decide), e 21 _ (by decide)]
    exact h2
  · refine C6.at (x := x) hc.2.2.2.2.2.1 (e 1 0 (by decide)) (e 6 0 (by decide)) (fun r w => by rw [up3_3, if_neg w]) (fun r _ => e 4 r (by decide)) (fun r w => e 5 r (by decide)) (fun o => e 7 o (by decide)) (fun o => e 8 o (by decide)) (fun o => e 12 o (by decide)) (fun o => e 13 o (by decide)) (fun r k w => by rw [hi, if_neg (fun q => w (aRg_inj q.1))]) (fun hx => ?_)
    obtain ⟨a, b, ⟨q, c1, c2, c3⟩, p, d1, d2, d3, d4⟩ := hc.2.2.2.2.2.1 x hx
    have e3 : up A 3 x v 3 x = v := up_s _ _ _ _
    rw [e3]
    refine ⟨?_, ?_, ⟨q, ?_, c2, fun w => absurd w hv⟩, p, ?_, d2, d3, fun w => absurd w hv⟩
    · rw [hi, if_pos ⟨rfl, rfl⟩]
    · rw [hi, if_neg (by omega), e 4 _ (by decide)]; exact b
    · rw [hi, if_neg (by omega)]; exact c1
    · rw [hi, if_neg (by omega)]; exact d1
  · refine C7.cg (A := A) ?_ (e 1 0 (by decide)) (fun o => e 7 o (by decide)) (fun o => e 8 o (by decide))
    have h7 := hc.2.2.2.2.2.2.1
    unfold C7 at *
    simp only [hqs]
    exact h7
  · rw [hi, if_neg (fun w => by have := h2 x w.1; omega)]
theorem free_CR {A : rS} {P : Nat → Prop} {cy : Int} {μ μ' : mM} {x : Nat} (hI : RI A) (hc : CR A P cy μ) (h4x : A 3 x = 4) (hs : ∀ a, sh μ' a = sh μ a) (hi : ∀ a k, mi μ' a k = if a = aRg x ∧ (k = 2 ∨ k = 3) then iv 0 else mi μ a k) (hq : ∀ a k, mq μ' a k = if a = aSt x ∧ (k : Int) < A 4 x then none else mq μ a k) (hP : ∀ o, P o → A 7 o = x → A 8 o < A 4 x) : CR (up (up A 3 x 0) 4 x 0) (fun o => P o ∧ A 7 o ≠ x) cy μ' := by
  have e : ∀ k i, k ≠ 3 → k ≠ 4 → up (up A 3 x 0) 4 x 0 k i = A k i := fun k i h h' => by rw [up_k _ _ h', up_k _ _ h]
  have e3 : ∀ r, up (up A 3 x 0) 4 x 0 3 r = if r = x then 0 else A 3 r := fun r => by rw [up_k _ _ (by decide), up3_3]
  have e4 : ∀ r, up (up A 3 x 0) 4 x 0 4 r = if r = x then 0 else A 4 r := fun r => by simp [up]
  have h1 : ∀ k, mi μ' 1 k = mi μ 1 k := fun k => by rw [hi, if_neg (fun w => aRg_f (by decide) w.1.symm)]
  refine reg_CR hc (fun k i k3 k4 _ _ _ => e k i k3 k4) ?_ ?_ ?_ ⟨?_, ?_⟩ hs (fun a k _ h2 => ?_) (fun a k _ h2 => ?_)
  · have h2 := hc.2.1
    unfold C2 at *
    simp only [h1, e 2 _ (by decide) (by decide), e 18 _ (by decide) (by decide), e 19 _ (by decide) (by decide), e 20 _ (by decide) (by decide), e 21 _ (by decide) (by decide)]
    exact h2
  · have h4 := hc.2.2.2.1
    have k1 : ∀ st : Int, st ≠ 0 → st ≠ 4 → rWith (up (up A 3 x 0) 4 x 0) st = rWith A st := fun st n3 n4 => rWith_cg3 (e 1 0 (by decide) (by decide)) (fun r _ => by
      rw [e3]
      by_cases w : r = x
      · rw [if_pos w, w, h4x]; omega
      · rw [if_neg w])
    unfold C4 at *
    rw [k1 1 (by decide) (by decide), k1 2 (by decide) (by decide), hq, hq, if_neg (fun w => aSt_f (by decide) w.1.symm), if_neg (fun w => aSt_f (by decide) w.1.symm)]
    exact h4
  · refine C6.at (x := x) hc.2.2.2.2.2.1 (e 1 0 (by decide) (by decide)) (e 6 0 (by decide) (by decide)) (fun r w => by rw [e3, if_neg w]) (fun r w => by rw [e4, if_neg w]) (fun r w => e 5 r (by decide) (by decide)) (fun o => e 7 o (by decide) (by decide)) (fun o => e 8 o (by decide) (by decide)) (fun o => e 12 o (by decide) (by decide)) (fun o => e 13 o (by decide) (by decide)) (fun r k w => by rw [hi, if_neg (fun q => w (aRg_inj q.1))]) (fun hx => ?_)
    obtain ⟨a, b, ⟨q, c1, c2, c3⟩, p, d1, d2, d3, d4⟩ := hc.2.2.2.2.2.1 x hx
    rw [e3, e4, if_pos rfl, if_pos rfl]
    refine ⟨?_, ?_, ⟨q, ?_, c2, fun w => absurd w (by decide)⟩, p, ?_, d2, d3, fun w => absurd w (by decide)⟩
    · rw [hi, if_pos ⟨rfl, Or.inl rfl⟩]
    · rw [hi, if_pos ⟨rfl, Or.inr rfl⟩]
    · rw [hi, if_neg (by omega)]; exact c1
    · rw [hi, if_neg (by omega)]; exact d1
  · intro r k b hr hk hb
    unfold RN at hr
    rw [e 1 0 (by decide) (by decide)] at hr
    rw [hq] at hb
    by_cases w : aSt r = aSt x ∧ (k : Int) < A 4 x
    · rw [if_pos w] at hb; cases hb
    · rw [if_neg w] at hb
      obtain ⟨o, q1, q2, q3, q4⟩ := hc.2.2.2.2.2.2.1.1 r k b hr hk hb
      refine ⟨o, q1, ⟨q2, fun w2 => ?_⟩, by rw [e 7 _ (by decide) (by decide)]; exact q3, by rw [e 8 _ (by decide) (by decide)]; exact q4⟩
      have := hP o q2 w2
      exact w ⟨by rw [show r = x by omega], by omega⟩
  · intro o ho
    have b7 := hI.b7 o
    rw [e 7 _ (by decide) (by decide), e 8 _ (by decide) (by decide), hq, if_neg (fun w => ho.2 (by have := aSt_inj w.1; omega))]
    exact hc.2.2.2.2.2.2.1.2 o ho.1
  · rw [hi, if_neg (fun w => by have := h2 x w.1; omega)]
  · rw [hq, if_neg (fun w => h2 x w.1)]
theorem nu_CR {A : rS} {P : Nat → Prop} {cy v : Int} {μ : mM} (hc : CR A P cy μ) : CR (up A 19 0 v) P cy (setI μ 1 5 (iv v)) := by
  have e : ∀ k i, k ≠ 19 → up A 19 0 v k i = A k i := fun k i h => up_k _ _ h
  refine reg_CR hc (fun k i _ _ _ _ k18 => e k i k18) ?_ (C4.cg (C4.I hc.2.2.2.1) (e 1 0 (by decide)) (fun r => e 3 r (by decide))) (C6.cg (A := A) (C6.I hc.2.2.2.2.2.1 (fun r q => aRg_f (by decide) q.symm)) (e 1 0 (by decide)) (fun r => e 3 r (by decide)) (fun r => e 4 r (by decide)) (fun r => e 5 r (by decide)) (e 6 0 (by decide)) (fun r => e 7 r (by decide)) (fun r => e 8 r (by decide)) (fun r => e 12 r (by decide)) (fun r => e 13 r (by decide))) (C7.cg (C7.I hc.2.2.2.2.2.2.1) (e 1 0 (by decide)) (fun o => e 7 o (by decide)) (fun o => e 8 o (by decide))) (fun _ => rfl) (fun a k h1 h2 => mi_ne (fun w => h1 w.1)) (fun _ _ _ _ => rfl)
  obtain ⟨a1, a2, a3, a4, a5, a6⟩ := hc.2.1
  refine ⟨?_, ?_, ?_, ?_, ?_, ?_⟩
  · rw [mi_ne (by omega), e 2 0 (by decide)]; exact a1
  · rw [mi_ne (by omega), e 18 0 (by decide)]; exact a2
  · rw [mi_ne (by omega)]; exact a3
  · rw [mi_eq, up_s]
  · rw [mi_ne (by omega), e 20 0 (by decide)]; exact a5
  · rw [mi_ne (by omega), e 21 0 (by decide)]; exact a6
/-! the end of a cycle, region by region -/
def cEn (A : rS) (i : Int) : rS := fun k r => if k = 3 then (if (r : Int) < i ∧ A 3 r = 4 then (if A 5 r = 0 then 0 else 3) else A 3 r) else if k = 4 then (if (r : Int) < i ∧ A 3 r = 4 ∧ A 5 r = 0 then 0 else A 4 r) else A k r
def pEn (A : rS) (P : Nat → Prop) (i : Int) : Nat → Prop := fun o => P o ∧ ¬ (A 7 o < i ∧ A 3 (A 7 o).toNat = 4 ∧ A 5 (A 7 o).toNat = 0)
theorem cEn_3 {A : rS} {i : Int} (r : Nat) : cEn A i 3 r = if (r : Int) < i ∧ A 3 r = 4 then (if A 5 r = 0 then 0 else 3) else A 3 r := rfl
theorem cEn_4 {A : rS} {i : Int} (r : Nat) : cEn A i 4 r = if (r : Int) < i ∧ A 3 r = 4 ∧ A 5 r = 0 then 0 else A 4 r := rfl
theorem cEn_k {A : rS} {i : Int} (k r : Nat) (h3 : k ≠ 3) (h4 : k ≠ 4) : cEn A i k r = A k r := by unfold cEn; rw [if_neg h3, if_neg h4]
theorem cEn_0 (A : rS) : cEn A 0 = A := by
  funext k r
  by_cases k3 : k = 3
  · subst k3; rw [cEn_3, if_neg (by omega)]
  · by_cases k4 : k = 4
    · subst k4; rw [cEn_4, if_neg (by omega)]
    · rw [cEn_k _ _ k3 k4]
theorem cEn_ne {A : rS} {x : Nat} (k r : Nat) (h : r ≠ x ∨ A 3 x ≠ 4) : cEn A ((x : Int) + 1) k r = cEn A x k r := by
  by_cases k3 : k = 3
  · subst k3
    rw [cEn_3, cEn_3]
    by_cases w : (r : Int) < x ∧ A 3 r = 4
    · rw [if_pos w, if_pos ⟨by omega, w.2⟩]
    · rw [if_neg w, if_neg (fun v => w ⟨?_, v.2⟩)]
      rcases h with h | h
      · omega
      · have := v.1
        have : r ≠ x := fun e => h (by rw [← e]; exact v.2)
        omega
  · by_cases k4 : k = 4
    · subst k4
      rw [cEn_4, cEn_4]
      by_cases w : (r : Int) < x ∧ A 3 r = 4 ∧ A 5 r = 0
      · rw [if_pos w, if_pos ⟨by omega, w.2⟩]
      · rw [if_neg w, if_neg (fun v => w ⟨?_, v.2⟩)]
        rcases h with h | h
        · omega
        · have := v.1
          have : r ≠ x := fun e => h (by rw [← e]; exact v.2.1)
          omega
    · rw [cEn_k _ _ k3 k4, cEn_k _ _ k3 k4]
theorem pEn_0 {A : rS} (hI : RI A) (P : Nat → Prop) : pEn A P 0 = P := by
  funext o
  have := hI.b7 o
  exact propext ⟨fun h => h.1, fun h => ⟨h, fun w => by omega⟩⟩
theorem cEn_n {A : rS} {x : Nat} (h : A 3 x ≠ 4) : cEn A ((x : Int) + 1) = cEn A x := by
  funext k r
  exact cEn_ne k r (Or.inr h)
theorem pEn_n {A : rS} (hI : RI A) {P : Nat → Prop} {x : Nat} (h : ¬ (A 3 x = 4 ∧ A 5 x = 0)) : pEn A P ((x : Int) + 1) = pEn A P x := by
  funext o
  have b7 := hI.b7 o
  refine propext ⟨fun w => ⟨w.1, fun v => w.2 ⟨by omega, v.2⟩⟩, fun w => ⟨w.1, fun v => w.2 ⟨?_, v.2⟩⟩⟩
  by_cases e : A 7 o = x
  · rw [e] at v
    simp only [Int.toNat_natCast] at v
    exact absurd v.2 h
  · omega
theorem cEn_f {A : rS} {x : Nat} (h : A 3 x = 4) (h5 : A 5 x ≠ 0) : cEn A ((x : Int) + 1) = up (cEn A x) 3 x 3 := by
  funext k r
  by_cases e : r = x
  · subst e
    by_cases k3 : k = 3
    · subst k3; rw [up_s, cEn_3, if_pos ⟨by omega, h⟩, if_neg h5]
    · rw [up_k _ _ k3]
      by_cases k4 : k = 4
      · subst k4; rw [cEn_4, cEn_4, if_neg (fun w => h5 w.2.2), if_neg (fun w => h5 w.2.2)]
      · rw [cEn_k _ _ k3 k4, cEn_k _ _ k3 k4]
  · rw [up_i _ e]
    exact cEn_ne k r (Or.inl e)
theorem cEn_e {A : rS} {x : Nat} (h : A 3 x = 4) (h5 : A 5 x = 0) : cEn A ((x : Int) + 1) = up (up (cEn A x) 3 x 0) 4 x 0 := by
  funext k r
  by_cases e : r = x
  · subst e
    by_cases k4 : k = 4
    · subst k4; rw [up_s, cEn_4, if_pos ⟨by omega, h, h5⟩]
    · rw [up_k _ _ k4]
      by_cases k3 : k = 3
      · subst k3; rw [up_s, cEn_3, if_pos ⟨by omega, h⟩, if_pos h5]
      · rw [up_k _ _ k3, cEn_k _ _ k3 k4, cEn_k _ _ k3 k4]
  · rw [up_i _ e, up_i _ e]
    exact cEn_ne k r (Or.inl e)
theorem pEn_e {A : rS} (hI : RI A) {P : Nat → Prop} {x : Nat} (h : A 3 x = 4) (h5 : A 5 x = 0) : pEn A P ((x : Int) + 1) = fun o => pEn A P x o ∧ cEn A x 7 o ≠ x := by
  funext o
  have b7 := hI.b7 o
  rw [cEn_k _ _ (by decide) (by decide)]
  refine propext ⟨fun w => ⟨⟨w.1, fun v => w.2 ⟨by omega, v.2⟩⟩, fun e => w.2 ⟨by omega, ?_⟩⟩, fun w => ⟨w.1.1, fun v => ?_⟩⟩
  · rw [e]; simp only [Int.toNat_natCast]; exact ⟨h, h5⟩
  · have := w.2
    exact w.1.2 ⟨by omega, v.2⟩
theorem cEn_I {A : rS} (hI : RI A) (i : Int) : RI (cEn A i) := by
  refine RI_of hI (fun k r hk => ?_)
  by_cases k3 : k = 3
  · subst k3
    rw [cEn_3]
    split
    · right; split <;> decide
    · exact Or.inl rfl
  · by_cases k4 : k = 4
    · subst k4
      rw [cEn_4]
      split
      · right; decide
      · exact Or.inl rfl
    · exact Or.inl (cEn_k _ _ k3 k4)
/-- the whole end: the target is closed behind them -/
theorem cEn_end {A : rS} (hI : RI A) (hS : Sg A) : rEnd 20 0 A = if rWith (cEn A (A 1 0)) 2 = -1 then cEn A (A 1 0) else up (cEn A (A 1 0)) 3 (rWith (cEn A (A 1 0)) 2).toNat 3 := by
  have b1 := hI.b1 0
  have e1 : cEn A (A 1 0) 1 0 = A 1 0 := cEn_k _ _ (by decide) (by decide)
  have e2 : ∀ r : Nat, cEn A (A 1 0) 3 r = 2 ↔ A 3 r = 2 := fun r => by
    rw [cEn_3]
    split
    · split <;> omega
    · exact Iff.rfl
  have k34 : ∀ k r, k ≠ 3 → rEnd 20 0 A k r = cEn A (A 1 0) k r := fun k r k3 => by
    by_cases k4 : k = 4
    · subst k4
      rw [rEnd_4 20 0 A (by omega) (by omega), cEn_4]
      by_cases w : (r : Int) < A 1 0 ∧ A 3 r = 4 ∧ A 5 r = 0
      · rw [if_pos w, if_pos ⟨⟨by omega, w.1⟩, w.2⟩]
      · rw [if_neg w, if_neg (fun v => w ⟨v.1.2, v.2⟩)]
    · rw [rEnd_k _ _ _ _ _ k3 k4, cEn_k _ _ k3 k4]
  have k3 : ∀ r : Nat, rEnd 20 0 A 3 r = if (r : Int) < A 1 0 ∧ A 3 r = 2 then 3 else cEn A (A 1 0) 3 r := fun r => by
    rw [rEnd_3 20 0 A (by omega) (by omega), cEn_3]
    unfold fin3
    by_cases w : (r : Int) < A 1 0
    · rw [if_pos ⟨by omega, w⟩]
      by_cases v : A 3 r = 4
      · rw [if_pos v, if_neg (fun q : (r : Int) < A 1 0 ∧ A 3 r = 2 => by omega), if_pos (c := (r : Int) < A 1 0 ∧ A 3 r = 4) ⟨w, v⟩]
      · rw [if_neg v]
        by_cases u : A 3 r = 2
        · rw [if_pos u, if_pos ⟨w, u⟩]
        · rw [if_neg u, if_neg (fun q => u q.2), if_neg (fun q => v q.2)]
    · rw [if_neg (fun q => w q.2), if_neg (fun q => w q.1), if_neg (fun q => w q.1)]
  funext k r
  by_cases hk : k = 3
  · subst hk
    rw [k3]
    by_cases w : rWith (cEn A (A 1 0)) 2 = -1
    · rw [if_pos w, if_neg (fun v => rWith_none (cEn_I hI _) w r (by rw [e1]; exact v.1) ((e2 r).mpr v.2))]
    · have hw := rWith_some w
      rw [e1] at hw
      rw [if_neg w, up3_3]
      by_cases v : r = (rWith (cEn A (A 1 0)) 2).toNat
      · rw [if_pos v, if_pos ⟨by omega, (e2 r).mp (by rw [v]; exact hw.2.2)⟩]
      · rw [if_neg v, if_neg (fun q => v (hS.2.2 r (rWith (cEn A (A 1 0)) 2).toNat q.1 (by omega) q.2 ((e2 _).mp hw.2.2)))]
  · rw [k34 k r hk]
    split
    · rfl
    · rw [up_k _ _ hk]
theorem pEn_p {A : rS} {P G : Nat → Prop} (hK : KK A P G) (h18 : A 18 0 = 3) (h19 : A 1 0 ≤ A 19 0 + 1) {v : Int} : pEn (up A 19 0 v) P (A 1 0) = pUnit A P := by
  funext o
  show (P o ∧ ¬ (A 7 o < A 1 0 ∧ A 3 (A 7 o).toNat = 4 ∧ A 5 (A 7 o).toNat = 0)) = (P o ∧ ¬ (A 18 0 = 3 ∧ A 1 0 ≤ A 19 0 + 1 ∧ A 3 (A 7 o).toNat = 4 ∧ A 5 (A 7 o).toNat = 0))
  refine propext ⟨fun w => ⟨w.1, fun q => w.2 ⟨?_, q.2.2⟩⟩, fun w => ⟨w.1, fun q => w.2 ⟨h18, h19, q.2⟩⟩⟩
  exact (hK.1.2.1 o (hK.2.2.2.2.1.1 o w.1).1).2
theorem pUnit_n {A : rS} {P : Nat → Prop} (h : ¬ (A 18 0 = 3 ∧ A 1 0 ≤ A 19 0 + 1)) : pUnit A P = P := by
  funext o
  exact propext ⟨fun w => w.1, fun w => ⟨w, fun q => h ⟨q.1, q.2.1⟩⟩⟩
/-- the places of a region are emptied up to i -/
def clr (μ μ1 : mM) (q : Nat) (i : Int) : Prop := (∀ a, sh μ1 a = sh μ a) ∧ (∀ a k, mi μ1 a k = mi μ a k) ∧ (∀ a k, mj μ1 a k = mj μ a k) ∧ ∀ a k, mq μ1 a k = if a = q ∧ (k : Int) < i then none else mq μ a k
theorem clr.rf (μ : mM) (q : Nat) : clr μ μ q 0 := ⟨fun _ => rfl, fun _ _ => rfl, fun _ _ => rfl, fun a k => by rw [if_neg (by omega)]⟩
theorem clr.st {μ μ1 : mM} {q : Nat} {i : Int} (h : clr μ μ1 q i) (hi : 0 ≤ i) : clr μ (setQ μ1 q i.toNat none) q (i + 1) := by
  refine ⟨h.1, h.2.1, h.2.2.1, fun a k => ?_⟩
  rw [mq_Q]
  by_cases e : a = q ∧ k = i.toNat
  · rw [if_pos e, if_pos ⟨e.1, by omega⟩]
  · rw [if_neg e, h.2.2.2]
    by_cases w : a = q ∧ (k : Int) < i
    · rw [if_pos w, if_pos ⟨w.1, by omega⟩]
    · rw [if_neg w, if_neg (fun v => w ⟨v.1, by have := fun u => e ⟨v.1, u⟩; omega⟩)]
def lvP (r q : Nat) (u : Int) (μ : mM) (z : Nat) : Option Value → mM → Nat → Prop := fun v μ' z' => v = none ∧ z' = z ∧ ∃ μ1, clr μ μ1 q u ∧ μ' = setI (setI μ1 r 2 (iv 0)) r 3 (iv 0)
theorem clr_CR {A : rS} {P : Nat → Prop} {cy : Int} {μ μ1 : mM} {x : Nat} (hI : RI A) (hc : CR A P cy μ) (h4x : A 3 x = 4) (h : clr μ μ1 (aSt x) (A 4 x)) (hP : ∀ o, P o → A 7 o = x → A 8 o < A 4 x) : CR (up (up A 3 x 0) 4 x 0) (fun o => P o ∧ A 7 o ≠ x) cy (setI (setI μ1 (aRg x) 2 (iv 0)) (aRg x) 3 (iv 0)) := by
  refine free_CR hI hc h4x h.1 (fun a k => ?_) (fun a k => h.2.2.2 a k) hP
  rw [mi_I, mi_I, h.2.1]
  by_cases e3 : a = aRg x ∧ k = 3
  · rw [if_pos e3, if_pos ⟨e3.1, Or.inr e3.2⟩]
  · rw [if_neg e3]
    by_cases e2 : a = aRg x ∧ k = 2
    · rw [if_pos e2, if_pos ⟨e2.1, Or.inl e2.2⟩]
    · rw [if_neg e2, if_neg (fun w => w.2.elim (fun v => e2 ⟨w.1, v⟩) (fun v => e3 ⟨w.1, v⟩))]
theorem cl3_CR {A : rS} {P : Nat → Prop} {cy : Int} {μ : mM} {x : Nat} (hc : CR A P cy μ) (h4x : A 3 x = 4) : CR (up A 3 x 3) P cy (setI μ (aRg x) 2 (iv 3)) := by
  refine kind_CR hc (by decide) (fun _ => rfl) (fun a k => mi_I _ _ _ _ _ _) (fun _ _ _ => rfl) ?_
  have h4 := hc.2.2.2.1
  have k1 : ∀ st : Int, st ≠ 3 → st ≠ 4 → rWith (up A 3 x 3) st = rWith A st := fun st n3 n4 => rWith_cg3 (up_k _ _ (by decide)) (fun r _ => by
    rw [up3_3]
    by_cases w : r = x
    · rw [if_pos w, w, h4x]; omega
    · rw [if_neg w])
  unfold C4 at *
  rw [k1 1 (by decide) (by decide), k1 2 (by decide) (by decide)]
  exact h4
/-- the target is closed -/
theorem ct_CR {A : rS} {P : Nat → Prop} {cy : Int} {μ : mM} (hS : ∀ r q : Nat, (r : Int) < A 1 0 → (q : Int) < A 1 0 → A 3 r = 2 → A 3 q = 2 → r = q) (hc : CR A P cy μ) (ht : rWith A 2 ≠ -1) : CR (up A 3 (rWith A 2).toNat 3) P cy (setQ (setI μ (aRg (rWith A 2).toNat) 2 (iv 3)) 2 3 none) := by
  have hw := rWith_some ht
  refine kind_CR hc (by decide) (fun _ => rfl) (fun a k => mi_I _ _ _ _ _ _) (fun a k h => by rw [mq_ne (fun w => by have := h w.1; omega)]; rfl) ?_
  have h4 := hc.2.2.2.1
  have k1 : rWith (up A 3 (rWith A 2).toNat 3) 1 = rWith A 1 := rWith_cg3 (up_k _ _ (by decide)) (fun r _ => by
    rw [up3_3]
    by_cases w : r = (rWith A 2).toNat
    · rw [if_pos w, w, hw.2.2]; omega
    · rw [if_neg w])
  have k2 : rWith (up A 3 (rWith A 2).toNat 3) 2 = -1 := rWith_isn (fun q hq => by
    rw [up_k _ _ (by decide)] at hq
    rw [up3_3]
    by_cases w : q = (rWith A 2).toNat
    · rw [if_pos w]; decide
    · rw [if_neg w]
      intro v
      exact w (hS q (rWith A 2).toNat hq (by omega) v hw.2.2))
  unfold C4 at *
  rw [k1, k2, mq_ne (by omega), mq_eq]
  exact ⟨h4.1, rfl⟩
