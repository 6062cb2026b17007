/-! the class relation, when regions change -/
theorem rWs_cg3 {A B : rS} {st : Int} (h1 : B 1 0 = A 1 0) (h3 : ∀ r : Nat, (r : Int) < A 1 0 → (B 3 r = st ↔ A 3 r = st)) : ∀ (f : Nat) (x : Int), 0 ≤ x → rWs B st f x = rWs A st f x := by
  intro f
  induction f with
  | zero => intro x _; rfl
  | succ f ih =>
    intro x hx
    rw [rWs, rWs, h1, ih (x + 1) (by omega)]
    by_cases w : A 1 0 ≤ x
    · rw [if_pos w, if_pos w]
    · rw [if_neg w, if_neg w]
      have := h3 x.toNat (by omega)
      by_cases v : A 3 x.toNat = st
      · rw [if_pos v, if_pos (this.mpr v)]
      · rw [if_neg v, if_neg (fun q => v (this.mp q))]
theorem rWith_cg3 {A B : rS} {st : Int} (h1 : B 1 0 = A 1 0) (h3 : ∀ r : Nat, (r : Int) < A 1 0 → (B 3 r = st ↔ A 3 r = st)) : rWith B st = rWith A st := rWs_cg3 h1 h3 20 0 (Int.le_refl 0)
theorem rWith_is {A : rS} (hI : RI A) {st : Int} {x : Nat} (hx : (x : Int) < A 1 0) (h3 : A 3 x = st) (hu : ∀ q : Nat, (q : Int) < A 1 0 → A 3 q = st → q = x) : rWith A st = (x : Int) := by
  by_cases e : rWith A st = -1
  · exact absurd h3 (rWith_none hI e x hx)
  · have := rWith_some e
    have := hu (rWith A st).toNat (by omega) this.2.2
    omega
theorem rWith_isn {A : rS} {st : Int} (h : ∀ q : Nat, (q : Int) < A 1 0 → A 3 q ≠ st) : rWith A st = -1 := by
  by_cases e : rWith A st = -1
  · exact e
  · have := rWith_some e
    exact absurd this.2.2 (h _ (by omega))
theorem reg_CR {A B : rS} {P P' : Nat → Prop} {cy : Int} {μ μ' : mM} (hc : CR A P cy μ) (he : ∀ k i, k ≠ 3 → k ≠ 4 → k ≠ 5 → k ≠ 18 → k ≠ 19 → B k i = A k i) (h2 : C2 B cy μ') (h4 : C4 B μ') (h6 : C6 B μ') (h7 : C7 B P' μ') (hs : ∀ a, sh μ' a = sh μ a) (hi : ∀ a k, a ≠ 1 → (∀ r, a = aRg r → k = 0) → mi μ' a k = mi μ a k) (hq : ∀ a k, (a = 2 → k < 2) → (∀ r, a ≠ aSt r) → mq μ' a k = mq μ a k) : CR B P' cy μ' := by
  obtain ⟨h1, -, h3, -, h5, -, -, h8, k0, k1⟩ := hc
  have hir : ∀ r, mi μ' (aRg r) 0 = mi μ (aRg r) 0 := fun r => hi _ 0 (aRg_f (by decide)) (fun _ _ => rfl)
  have hio : ∀ r k, mi μ' (aOb r) k = mi μ (aOb r) k := fun r k => hi _ k (aOb_f (by decide)) (fun r q => absurd q.symm (aRg_ne_aOb _ _))
  have hi3 : ∀ k, mi μ' 3 k = mi μ 3 k := fun k => hi 3 k (by decide) (fun r q => absurd q.symm (aRg_f (by decide)))
  have hqf : ∀ a k, a < 6 → a ≠ 2 → mq μ' a k = mq μ a k := fun a k ha h3 => hq a k (fun q => absurd q h3) (fun r q => aSt_f ha q.symm)
  have hq2 : ∀ k, k < 2 → mq μ' 2 k = mq μ 2 k := fun k hk => hq 2 k (fun _ => hk) (fun r q => aSt_f (by decide) q.symm)
  have hqr : ∀ r k, mq μ' (aRg r) k = mq μ (aRg r) k := fun r k => hq _ k (fun q => absurd q (aRg_f (by decide))) (fun q => aRg_ne_aSt _ _)
  have hqd : ∀ r k, mq μ' (aFd r) k = mq μ (aFd r) k := fun r k => hq _ k (fun q => absurd q (aFd_f (by decide))) (fun q w => aSt_ne_aFd _ _ w.symm)
  have hqo : ∀ r k, mq μ' (aOb r) k = mq μ (aOb r) k := fun r k => hq _ k (fun q => absurd q (aOb_f (by decide))) (fun q => aOb_ne_aSt _ _)
  have e1 := he 1 0 (by decide) (by decide) (by decide) (by decide) (by decide)
  have e6 := he 6 0 (by decide) (by decide) (by decide) (by decide) (by decide)
  refine ⟨C1.cg (A := A) ?_ e1 e6 (fun o => he 9 o (by decide) (by decide) (by decide) (by decide) (by decide)) (fun o => he 10 o (by decide) (by decide) (by decide) (by decide) (by decide)), h2, C3.cg (A := A) ?_ (fun q => he 14 q (by decide) (by decide) (by decide) (by decide) (by decide)), h4, C5.cg (A := A) ?_ e6 (fun q => he 15 q (by decide) (by decide) (by decide) (by decide) (by decide)) (he 16 0 (by decide) (by decide) (by decide) (by decide) (by decide)) (he 17 0 (by decide) (by decide) (by decide) (by decide) (by decide)), h6, h7, C8.cg (A := A) ?_ e6 (fun q => he 7 q (by decide) (by decide) (by decide) (by decide) (by decide)) (fun q => he 8 q (by decide) (by decide) (by decide) (by decide) (by decide)) (fun q => he 9 q (by decide) (by decide) (by decide) (by decide) (by decide)) (fun q => he 11 q (by decide) (by decide) (by decide) (by decide) (by decide)) (fun q => he 12 q (by decide) (by decide) (by decide) (by decide) (by decide)) (fun q => he 13 q (by decide) (by decide) (by decide) (by decide) (by decide)), k0, k1⟩
  · unfold C1 at *
    simp only [hs, hqf 0 0 (by decide) (by decide), hqf 0 1 (by decide) (by decide), hqf 1 0 (by decide) (by decide), hqf 1 2 (by decide) (by decide), hq2 0 (by decide), hq2 1 (by decide), hqr, hir, hio, hqo, hqf 5 _ (by decide) (by decide)]
    exact h1
  · intro k hk; rw [hqf 4 k (by decide) (by decide)]; exact h3 k hk
  · unfold C5 at *; simp only [hqf 3 _ (by decide) (by decide), hi3, hqo]; exact h5
  · unfold C8 at *; simp only [hio, hqd, hqo]; exact h8
/-- one region's kind, used, passed, keepsFailed -/
theorem C6.at {A B : rS} {μ μ' : mM} {x : Nat} (h : C6 A μ) (h1 : B 1 0 = A 1 0) (h6 : B 6 0 = A 6 0) (h3 : ∀ r, r ≠ x → B 3 r = A 3 r) (h4 : ∀ r, r ≠ x → B 4 r = A 4 r) (h5 : ∀ r, r ≠ x → B 5 r = A 5 r) (h7 : ∀ o, B 7 o = A 7 o) (h8 : ∀ o, B 8 o = A 8 o) (h12 : ∀ o, B 12 o = A 12 o) (h13 : ∀ o, B 13 o = A 13 o) (hi : ∀ r k, r ≠ x → mi μ' (aRg r) k = mi μ (aRg r) k)
    (hx : x < RN A → mi μ' (aRg x) 2 = iv (B 3 x) ∧ mi μ' (aRg x) 3 = iv (B 4 x) ∧ (∃ q : Int, mi μ' (aRg x) 5 = iv q ∧ (q = 0 ∨ q = 1) ∧ (B 3 x = 4 → q = B 5 x)) ∧ ∃ p : Int, mi μ' (aRg x) 4 = iv p ∧ 0 ≤ p ∧ p ≤ 128 ∧ (B 3 x = 4 → ∀ o, o < nn A → rToMove B (o : Int) = 1 → A 7 o = x → p ≤ A 8 o)) : C6 B μ' := by
  intro r hr
  have hr : r < RN A := by unfold RN at *; rw [h1] at hr; exact hr
  by_cases e : r = x
  · rw [e] at hr ⊢
    obtain ⟨a, b, c, p, d1, d2, d3, d4⟩ := hx hr
    refine ⟨a, b, c, p, d1, d2, d3, fun w o ho => ?_⟩
    unfold nn at ho
    rw [h6] at ho
    rw [h7, h8]
    exact d4 w o ho
  · obtain ⟨a, b, ⟨q, c1, c2, c3⟩, p, d1, d2, d3, d4⟩ := h r hr
    rw [hi r 2 e, hi r 3 e, hi r 4 e, hi r 5 e, h3 r e, h4 r e, h5 r e]
    refine ⟨a, b, ⟨q, c1, c2, c3⟩, p, d1, d2, d3, fun w o ho ht => ?_⟩
    unfold nn at ho
    rw [h6] at ho
    rw [h7, h8]
    intro e7
    refine d4 w o ho ?_ e7
    rw [toMoveN] at ht ⊢
    rw [h12, h13, h7, e7] at ht
    rw [e7]
    simp only [Int.toNat_natCast] at ht ⊢
    rw [h3 r e] at ht
    exact ht
theorem rSi_u5 {A : rS} {i : Nat} {v r : Int} : ∀ (f : Nat) (x n : Int), rSi (up A 5 i v) r f x n = rSi A r f x n := by
  intro f
  induction f with
  | zero => intro x n; rfl
  | succ f ih =>
    intro x n
    rw [rSi, rSi, ih]
    simp [up_k]
theorem rSeenIn_u5 {A : rS} {i : Nat} {v r : Int} : rSeenIn (up A 5 i v) r = rSeenIn A r := rSi_u5 700 0 0
/-! choosing the set: one region -/
def chS (A : rS) (x : Int) : rS := up (up A 5 x.toNat 0) 3 x.toNat (if A 3 x.toNat = 3 ∧ A 2 0 < A 4 x.toNat - rSeenIn (up A 5 x.toNat 0) x then 4 else A 3 x.toNat)
theorem choose_s {A : rS} {f : Nat} {x : Int} (h : ¬ A 1 0 ≤ x) : rChoose (f + 1) x A = rChoose f (x + 1) (chS A x) := by rw [rChoose, if_neg h]; rfl
theorem chS_n {A : rS} {x : Int} (h : ¬ (A 3 x.toNat = 3 ∧ A 2 0 < A 4 x.toNat - rSeenIn A x)) : chS A x = up (up A 5 x.toNat 0) 3 x.toNat (A 3 x.toNat) := by unfold chS; rw [rSeenIn_u5, if_neg h]
theorem chS_s {A : rS} {x : Int} (h : A 3 x.toNat = 3 ∧ A 2 0 < A 4 x.toNat - rSeenIn A x) : chS A x = up (up A 5 x.toNat 0) 3 x.toNat 4 := by unfold chS; rw [rSeenIn_u5, if_pos h]
theorem ch_3 {A : rS} {x : Nat} {v : Int} (r : Nat) : up (up A 5 x 0) 3 x v 3 r = if r = x then v else A 3 r := by simp [up]
theorem ch_5 {A : rS} {x : Nat} {v : Int} (r : Nat) : up (up A 5 x 0) 3 x v 5 r = if r = x then 0 else A 5 r := by simp [up]
theorem ch_k {A : rS} {x : Nat} {v : Int} (k r : Nat) (h3 : k ≠ 3) (h5 : k ≠ 5) : up (up A 5 x 0) 3 x v k r = A k r := by rw [up_k _ _ h3, up_k _ _ h5]
theorem ch_VSP {A : rS} {P : Nat → Prop} {x : Nat} {v : Int} (h : Vd A ∧ Sg A ∧ Pl A P) (hv : v = A 3 x ∨ (A 3 x = 3 ∧ v = 4)) : Vd (up (up A 5 x 0) 3 x v) ∧ Sg (up (up A 5 x 0) 3 x v) ∧ Pl (up (up A 5 x 0) 3 x v) P := by
  obtain ⟨hV, ⟨s1, s2, s3⟩, q1, q2, q3⟩ := h
  have b3 := hV.1.b3 x
  have k3 : ∀ r, up (up A 5 x 0) 3 x v 3 r = A 3 r ∨ (A 3 r = 3 ∧ up (up A 5 x 0) 3 x v 3 r = 4) := fun r => by
    rw [ch_3]
    by_cases e : r = x
    · rw [if_pos e, e]; exact hv
    · rw [if_neg e]; exact Or.inl rfl
  generalize hB : up (up A 5 x 0) 3 x v = B at k3
  have e : ∀ k i, k ≠ 3 → k ≠ 5 → B k i = A k i := fun k i h h' => by rw [← hB]; exact ch_k k i h h'
  have hI : RI B := by rw [← hB]; exact (hV.1.u5 _ (by omega)).u3 _ (by omega)
  have e1 := e 1 0 (by decide) (by decide)
  have e6 := e 6 0 (by decide) (by decide)
  have en : nn B = nn A := by unfold nn; rw [e6]
  refine ⟨⟨hI, ?_, ?_, ?_, ?_⟩, ⟨?_, ?_, ?_⟩, ?_, ?_, ?_⟩
  · intro o ho; rw [en] at ho; rw [e 9 _ (by decide) (by decide), e 7 _ (by decide) (by decide), e1]; exact hV.2.1 o ho
  · intro o i ho; rw [en] at ho; rw [e 9 _ (by decide) (by decide), e 11 _ (by decide) (by decide), e6]; exact hV.2.2.1 o i ho
  · intro k; rw [e 14 _ (by decide) (by decide), e6]; exact hV.2.2.2.1 k
  · rw [e6]; exact hV.2.2.2.2
  · intro r hr; rw [e 4 _ (by decide) (by decide)]; have := k3 r; exact s1 r (by omega)
  · intro r q; rw [e1]; intro a b c d; have := k3 r; have := k3 q; exact s2 r q a b (by omega) (by omega)
  · intro r q; rw [e1]; intro a b c d; have := k3 r; have := k3 q; exact s3 r q a b (by omega) (by omega)
  · intro o ho
    obtain ⟨a, b, c⟩ := q1 o ho
    rw [en, e 7 _ (by decide) (by decide), e 8 _ (by decide) (by decide), e 9 _ (by decide) (by decide), e 4 _ (by decide) (by decide)]
    refine ⟨a, ?_, c⟩
    have := k3 (A 7 o).toNat
    omega
  · intro o ho; rw [en] at ho; rw [e 12 _ (by decide) (by decide)]; exact q2 o ho
  · intro o q; rw [e 7 _ (by decide) (by decide), e 7 _ (by decide) (by decide), e 8 _ (by decide) (by decide), e 8 _ (by decide) (by decide)]; exact q3 o q
theorem chS_CRn {A : rS} {P : Nat → Prop} {cy : Int} {μ : mM} {x : Nat} (hc : CR A P cy μ) (h4 : A 3 x ≠ 4) : CR (up (up A 5 x 0) 3 x (A 3 x)) P cy μ := by
  have e3 : ∀ r, up (up A 5 x 0) 3 x (A 3 x) 3 r = A 3 r := fun r => by rw [ch_3]; split <;> first | rfl | (rename_i e; rw [e])
  have e : ∀ k i, k ≠ 3 → k ≠ 5 → up (up A 5 x 0) 3 x (A 3 x) k i = A k i := fun k i h h' => ch_k k i h h'
  refine reg_CR hc (fun k i k3 k4 k5 k18 k19 => e k i k3 k5) (C2.cg hc.2.1 (e 2 0 (by decide) (by decide)) (e 18 0 (by decide) (by decide)) (e 19 0 (by decide) (by decide)) (e 20 0 (by decide) (by decide)) (e 21 0 (by decide) (by decide))) (C4.cg hc.2.2.2.1 (e 1 0 (by decide) (by decide)) e3) ?_ (C7.cg hc.2.2.2.2.2.2.1 (e 1 0 (by decide) (by decide)) (fun o => e 7 o (by decide) (by decide)) (fun o => e 8 o (by decide) (by decide))) (fun _ => rfl) (fun _ _ _ _ => rfl) (fun _ _ _ _ => rfl)
  refine C6.at (x := x) hc.2.2.2.2.2.1 (e 1 0 (by decide) (by decide)) (e 6 0 (by decide) (by decide)) (fun r _ => e3 r) (fun r _ => e 4 r (by decide) (by decide)) (fun r w => by rw [ch_5, if_neg w]) (fun o => e 7 o (by decide) (by decide)) (fun o => e 8 o (by decide) (by decide)) (fun o => e 12 o (by decide) (by decide)) (fun o => e 13 o (by decide) (by decide)) (fun _ _ _ => rfl) (fun hx => ?_)
  obtain ⟨a, b, ⟨q, c1, c2, c3⟩, p, d1, d2, d3, d4⟩ := hc.2.2.2.2.2.1 x hx
  rw [e3, e 4 _ (by decide) (by decide)]
  exact ⟨a, b, ⟨q, c1, c2, fun w => absurd w h4⟩, p, d1, d2, d3, fun w => absurd w h4⟩
theorem chS_CRs {A : rS} {P : Nat → Prop} {cy : Int} {μ : mM} {x : Nat} (hI : RI A) (hc : CR A P cy μ) (h3 : A 3 x = 3) : CR (up (up A 5 x 0) 3 x 4) P cy (setI (setI (setI μ (aRg x) 2 (iv 4)) (aRg x) 4 (iv 0)) (aRg x) 5 (iv 0)) := by
  have e : ∀ k i, k ≠ 3 → k ≠ 5 → up (up A 5 x 0) 3 x 4 k i = A k i := fun k i h h' => ch_k k i h h'
  have hi : ∀ a k, a ≠ aRg x → mi (setI (setI (setI μ (aRg x) 2 (iv 4)) (aRg x) 4 (iv 0)) (aRg x) 5 (iv 0)) a k = mi μ a k := fun a k h => by rw [mi_ne (fun w => h w.1), mi_ne (fun w => h w.1), mi_ne (fun w => h w.1)]
  have h1 : ∀ k, mi (setI (setI (setI μ (aRg x) 2 (iv 4)) (aRg x) 4 (iv 0)) (aRg x) 5 (iv 0)) 1 k = mi μ 1 k := fun k => hi 1 k (fun w => aRg_f (by decide) w.symm)
  refine reg_CR hc (fun k i k3 k4 k5 k18 k19 => e k i k3 k5) ?_ ?_ ?_ (C7.cg (C7.I (C7.I (C7.I hc.2.2.2.2.2.2.1))) (e 1 0 (by decide) (by decide)) (fun o => e 7 o (by decide) (by decide)) (fun o => e 8 o (by decide) (by decide))) (fun _ => rfl) (fun a k h1 h2 => ?_) (fun _ _ _ _ => rfl)
  · have h2 := hc.2.1
    unfold C2 at *
    simp only [h1, e 2 _ (by decide) (by decide), e 18 _ (by decide) (by decide), e 19 _ (by decide) (by decide), e 20 _ (by decide) (by decide), e 21 _ (by decide) (by decide)]
    exact h2
  · have h4 := hc.2.2.2.1
    have k1 : ∀ st : Int, st ≠ 3 → st ≠ 4 → rWith (up (up A 5 x 0) 3 x 4) st = rWith A st := fun st n3 n4 => rWith_cg3 (e 1 0 (by decide) (by decide)) (fun r _ => by
      rw [ch_3]
      by_cases w : r = x
      · rw [if_pos w, w, h3]; omega
      · rw [if_neg w])
    unfold C4 at *
    rw [k1 1 (by decide) (by decide), k1 2 (by decide) (by decide)]
    exact h4
  · refine C6.at (x := x) hc.2.2.2.2.2.1 (e 1 0 (by decide) (by decide)) (e 6 0 (by decide) (by decide)) (fun r w => by rw [ch_3, if_neg w]) (fun r _ => e 4 r (by decide) (by decide)) (fun r w => by rw [ch_5, if_neg w]) (fun o => e 7 o (by decide) (by decide)) (fun o => e 8 o (by decide) (by decide)) (fun o => e 12 o (by decide) (by decide)) (fun o => e 13 o (by decide) (by decide)) (fun r k w => hi _ k (fun q => w (aRg_inj q))) (fun hx => ?_)
    obtain ⟨a, b, -⟩ := hc.2.2.2.2.2.1 x hx
    refine ⟨?_, ?_, ⟨0, ?_, Or.inl rfl, fun _ => ?_⟩, 0, ?_, by omega, by omega, fun _ o _ _ _ => (hI.b8 o).1⟩
    · rw [mi_ne (by omega), mi_ne (by omega), mi_eq, ch_3, if_pos rfl]
    · rw [mi_ne (by omega), mi_ne (by omega), mi_ne (by omega), e 4 _ (by decide) (by decide)]; exact b
    · rw [mi_eq]
    · rw [ch_5, if_pos rfl]
    · rw [mi_ne (by omega), mi_eq]
  · by_cases w : a = aRg x
    · rw [h2 x w, mi_ne (by omega), mi_ne (by omega), mi_ne (by omega)]
    · exact hi a k w
theorem ph_CR {A : rS} {P : Nat → Prop} {cy v : Int} {μ : mM} (hc : CR A P cy μ) : CR (up A 18 0 v) P cy (setI μ 1 3 (iv v)) := by
  have e : ∀ k i, k ≠ 18 → up A 18 0 v k i = A k i := fun k i h => up_k _ _ h
  refine reg_CR hc (fun k i _ _ _ k18 _ => e k i k18) ?_ (C4.cg (C4.I hc.2.2.2.1) (e 1 0 (by decide)) (fun r => e 3 r (by decide))) (C6.cg (A := A) (C6.I hc.2.2.2.2.2.1 (fun r q => aRg_f (by decide) q.symm)) (e 1 0 (by decide)) (fun r => e 3 r (by decide)) (fun r => e 4 r (by decide)) (fun r => e 5 r (by decide)) (e 6 0 (by decide)) (fun r => e 7 r (by decide)) (fun r => e 8 r (by decide)) (fun r => e 12 r (by decide)) (fun r => e 13 r (by decide))) (C7.cg (C7.I hc.2.2.2.2.2.2.1) (e 1 0 (by decide)) (fun o => e 7 o (by decide)) (fun o => e 8 o (by decide))) (fun _ => rfl) (fun a k h1 h2 => mi_ne (fun w => h1 w.1)) (fun _ _ _ _ => rfl)
  obtain ⟨a1, a2, a3, a4, a5, a6⟩ := hc.2.1
  refine ⟨?_, ?_, ?_, ?_, ?_, ?_⟩
  · rw [mi_ne (by omega), e 2 0 (by decide)]; exact a1
  · rw [mi_eq, up_s]
  · rw [mi_ne (by omega)]; exact a3
  · rw [mi_ne (by omega), e 19 0 (by decide)]; exact a4
  · rw [mi_ne (by omega), e 20 0 (by decide)]; exact a5
  · rw [mi_ne (by omega), e 21 0 (by decide)]; exact a6
theorem st0_34 {A : rS} {P G : Nat → Prop} (hK : KK A P G) (h18 : A 18 0 = 0) : ∀ r : Nat, r < RN (rSt0 A) → rSt0 A 3 r ≠ 4 := by
  have e : ∀ k i, k ≠ 12 → k ≠ 13 → k ≠ 16 → k ≠ 17 → k ≠ 18 → rSt0 A k i = A k i := fun k i k1 k2 k3 k4 k5 => by unfold rSt0; rw [up_k _ _ k5, up_k _ _ k4, up_k _ _ k3, rClr_k _ _ _ _ _ k1 k2]
  intro r hr
  unfold RN at hr
  rw [e 1 0 (by decide) (by decide) (by decide) (by decide) (by decide)] at hr
  rw [e 3 r (by decide) (by decide) (by decide) (by decide) (by decide)]
  exact (hK.2.2.2.1.2.2.1 (by omega) r (by omega)).2
theorem KK.n4 {A : rS} {P G : Nat → Prop} (hK : KK A P G) (h18 : A 18 0 ≤ 1) : ∀ r : Nat, r < RN A → A 3 r ≠ 4 := fun r hr => (hK.2.2.2.1.2.2.1 h18 r (by unfold RN at hr; omega)).2
