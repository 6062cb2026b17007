/-! the active region, the target, an object that moves -/
theorem up_self {A : rS} {k i : Nat} {v : Int} (h : A k i = v) : up A k i v = A := by
  funext k' i'
  unfold up
  split
  · rename_i e; rw [e.1, e.2, h]
  · rfl
/-- the active region is closed -/
theorem ca_CR {A : rS} {P Gs : Nat → Prop} {cy : Int} {μ : mM} (hK : KK A P Gs) (hc : CR A P cy μ) (ht : rWith A 1 ≠ -1) : CR (up A 3 (rWith A 1).toNat 3) P cy (setQ (setI μ (aRg (rWith A 1).toNat) 2 (iv 3)) 2 2 none) := by
  have hw := rWith_some ht
  refine kind_CR hc (by decide) (fun _ => rfl) (fun a k => mi_I _ _ _ _ _ _) (fun a k h => by rw [mq_ne (fun w => by have := h w.1; omega)]; rfl) ?_
  have h4 := hc.2.2.2.1
  have k1 : rWith (up A 3 (rWith A 1).toNat 3) 2 = rWith A 2 := rWith_cg3 (up_k _ _ (by decide)) (fun r _ => by
    rw [up3_3]
    by_cases w : r = (rWith A 1).toNat
    · rw [if_pos w, w, hw.2.2]; omega
    · rw [if_neg w])
  have k2 : rWith (up A 3 (rWith A 1).toNat 3) 1 = -1 := rWith_isn (fun q hq => by
    rw [up_k _ _ (by decide)] at hq
    rw [up3_3]
    by_cases w : q = (rWith A 1).toNat
    · rw [if_pos w]; decide
    · rw [if_neg w]
      intro v
      exact w (hK.2.2.1.2.1 q (rWith A 1).toNat hq (by omega) v hw.2.2))
  unfold C4 at *
  rw [k1, k2, mq_eq, mq_ne (by omega)]
  exact ⟨rfl, h4.2⟩
/-- a free region gets a kind of which there is none: the region with this kind -/
theorem new_w {B : rS} (hI : RI B) {st : Int} (h0 : st ≠ 0) (hn : rWith B st = -1) (hf : rWith B 0 ≠ -1) : rWith (up B 3 (rWith B 0).toNat st) st = rWith B 0 := by
  have hw := rWith_some hf
  have b3 := hI.b3 (rWith B 0).toNat
  by_cases e : rWith (up B 3 (rWith B 0).toNat st) st = -1
  · exfalso
    have hb : ∀ f : Nat, ∀ x : Int, 0 ≤ x → B 1 0 < (f : Int) + x → x ≤ rWith B 0 → rWs (up B 3 (rWith B 0).toNat st) st f x ≠ -1 := by
      intro f
      induction f with
      | zero => intro x h1 h2 h3; omega
      | succ f ih =>
        intro x h1 h2 h3
        rw [rWs, up_k _ _ (by decide), if_neg (by omega), up3_3]
        by_cases w : x.toNat = (rWith B 0).toNat
        · rw [if_pos w, if_pos rfl]; omega
        · rw [if_neg w]
          split
          · omega
          · exact ih (x + 1) (by omega) (by omega) (by omega)
    have b1 := hI.b1 0
    exact hb 20 0 (by omega) (by omega) (by omega) e
  · have h2 := rWith_some e
    rw [up_k _ _ (by decide), up3_3] at h2
    by_cases w : (rWith (up B 3 (rWith B 0).toNat st) st).toNat = (rWith B 0).toNat
    · omega
    · rw [if_neg w] at h2
      exact absurd h2.2.2 (rWith_none hI hn _ (by omega))
theorem new_o {B : rS} {st s2 : Int} (h0 : s2 ≠ 0) (h1 : s2 ≠ st) (hf : rWith B 0 ≠ -1) : rWith (up B 3 (rWith B 0).toNat st) s2 = rWith B s2 := by
  have hw := rWith_some hf
  refine rWith_cg3 (up_k _ _ (by decide)) (fun r _ => ?_)
  rw [up3_3]
  by_cases w : r = (rWith B 0).toNat
  · rw [if_pos w, w, hw.2.2]; omega
  · rw [if_neg w]
theorem act_CR {B : rS} {P : Nat → Prop} {cy : Int} {μ : mM} (hI : RI B) (hc : CR B P cy μ) (hn : rWith B 1 = -1) (hf : rWith B 0 ≠ -1) : CR (up B 3 (rWith B 0).toNat 1) P cy (setI (setQ μ 2 2 (some (aRg (rWith B 0).toNat))) (aRg (rWith B 0).toNat) 2 (iv 1)) := by
  refine kind_CR hc (by decide) (fun _ => rfl) (fun a k => by rw [mi_I, mi_Q]) (fun a k h => by rw [mq_I, mq_ne (fun w => by have := h w.1; omega)]) ?_
  have h4 := hc.2.2.2.1
  unfold C4 at *
  rw [new_w hI (by decide) hn hf, new_o (by decide) (by decide) hf, mq_I, mq_I, mq_eq, mq_ne (by omega), rref_s hf]
  exact ⟨rfl, h4.2⟩
theorem tg_CR {B : rS} {P : Nat → Prop} {cy : Int} {μ : mM} (hI : RI B) (h40 : B 4 (rWith B 0).toNat = 0) (hc : CR B P cy μ) (hn : rWith B 2 = -1) (hf : rWith B 0 ≠ -1) : CR (up (up B 3 (rWith B 0).toNat 2) 4 (rWith B 0).toNat 0) P cy (setQ (setI μ (aRg (rWith B 0).toNat) 2 (iv 2)) 2 3 (some (aRg (rWith B 0).toNat))) := by
  rw [up_self (A := up B 3 (rWith B 0).toNat 2) (by rw [up_k _ _ (by decide)]; exact h40)]
  refine kind_CR hc (by decide) (fun _ => rfl) (fun a k => by rw [mi_Q, mi_I]) (fun a k h => by rw [mq_ne (fun w => by have := h w.1; omega), mq_I]) ?_
  have h4 := hc.2.2.2.1
  unfold C4 at *
  rw [new_w hI (by decide) hn hf, new_o (by decide) (by decide) hf, mq_eq, mq_ne (by omega), mq_I, rref_s hf]
  exact ⟨h4.1, rfl⟩
/-- the target with room: the state and the region -/
def rTgV (A : rS) (n : Int) : Int := if rWith A 2 ≠ -1 ∧ A 4 (rWith A 2).toNat + n ≤ 128 then rWith A 2 else rWith A 0
def rTg (A : rS) (n : Int) : rS := if rWith A 2 ≠ -1 ∧ A 4 (rWith A 2).toNat + n ≤ 128 then A else if rWith A 0 = -1 then A else up (up (if rWith A 2 = -1 then A else up A 3 (rWith A 2).toNat 3) 3 (rWith A 0).toNat 2) 4 (rWith A 0).toNat 0
theorem tg_k {A : rS} {n : Int} (k i : Nat) (h3 : k ≠ 3) (h4 : k ≠ 4) : rTg A n k i = A k i := by
  unfold rTg
  repeat' split
  all_goals first | rfl | (rw [up_k _ _ h4, up_k _ _ h3]; done) | (rw [up_k _ _ h4, up_k _ _ h3, up_k _ _ h3])
theorem carry_f {A : rS} {o : Int} (h : rTgV A (A 9 o.toNat) = -1) : rTg A (A 9 o.toNat) = A ∧ rCarry A o = up (up (up A 13 o.toNat 1) 5 (A 7 o.toNat).toNat 1) 21 0 (A 21 0 + 1) := by
  unfold rTgV at h
  unfold rTg rCarry
  by_cases w : rWith A 2 ≠ -1 ∧ A 4 (rWith A 2).toNat + A 9 o.toNat ≤ 128
  · rw [if_pos w] at h
    exact absurd h w.1
  · rw [if_neg w] at h
    rw [if_neg w, if_pos h, if_pos (show rWith A 2 = -1 ∨ 128 < A 4 (rWith A 2).toNat + A 9 o.toNat by omega), if_pos h]
    exact ⟨rfl, rfl⟩
theorem carry_t {A : rS} {o : Int} (h : rTgV A (A 9 o.toNat) ≠ -1) : rCarry A o = rInto (rTg A (A 9 o.toNat)) o (rTgV A (A 9 o.toNat)) := by
  unfold rTgV at *
  unfold rTg rCarry
  by_cases w : rWith A 2 ≠ -1 ∧ A 4 (rWith A 2).toNat + A 9 o.toNat ≤ 128
  · rw [if_pos w, if_pos w, if_neg (fun v => v.elim w.1 (fun q => by omega))]
  · rw [if_neg w] at h
    rw [if_neg w, if_neg w, if_neg h, if_pos (show rWith A 2 = -1 ∨ 128 < A 4 (rWith A 2).toNat + A 9 o.toNat by omega), if_neg h]
/-- what is known of the target with room -/
theorem tg_KK {A : rS} {P G : Nat → Prop} {n : Int} (hK : KK A P G) (h18 : A 18 0 = 2) (hn : 0 ≤ n ∧ n ≤ 22) : KK (rTg A n) P G ∧ (rTgV A n ≠ -1 → 0 ≤ rTgV A n ∧ rTgV A n < A 1 0 ∧ rTg A n 3 (rTgV A n).toNat = 2 ∧ rTg A n 4 (rTgV A n).toNat + n ≤ 128) ∧ (∀ r : Nat, A 3 r = 4 → rTg A n 3 r = 4) := by
  unfold rTgV rTg
  by_cases w : rWith A 2 ≠ -1 ∧ A 4 (rWith A 2).toNat + n ≤ 128
  · rw [if_pos w, if_pos w]
    have := rWith_some w.1
    exact ⟨hK, fun _ => ⟨this.1, this.2.1, this.2.2, w.2⟩, fun _ h => h⟩
  · rw [if_neg w, if_neg w]
    by_cases v : rWith A 0 = -1
    · rw [if_pos v]
      exact ⟨hK, fun q => absurd v q, fun _ h => h⟩
    · rw [if_neg v]
      have hw := rWith_some v
      obtain ⟨t1, t2, t3⟩ := tgt_KK hK h18 ⟨hw.1, hw.2.1⟩ hw.2.2
      refine ⟨t1, fun _ => ⟨hw.1, hw.2.1, t2, by rw [t3]; omega⟩, fun r hr => ?_⟩
      rw [up_k _ _ (by decide), up3_3, if_neg (fun e => by rw [e, hw.2.2] at hr; omega)]
      by_cases u : rWith A 2 = -1
      · rw [if_pos u]; exact hr
      · have hw2 := rWith_some u
        rw [if_neg u, up3_3, if_neg (fun e => by rw [e, hw2.2.2] at hr; omega)]
        exact hr
/-- an object fails -/
theorem fail_CR {A : rS} {P : Nat → Prop} {cy : Int} {μ : mM} {o : Nat} (hI : RI A) (hc : CR A P cy μ) (ho : o < nn A) : CR (up (up (up A 13 o 1) 5 (A 7 o).toNat 1) 21 0 (A 21 0 + 1)) P cy (setI (setI (setI μ (aOb o) 5 (iv cy)) (aRg (A 7 o).toNat) 5 (iv 1)) 1 7 (iv (A 21 0 + 1))) := by
  obtain ⟨h1, ⟨d1, d2, d3, d4, d5, d6⟩, h3, h4, h5, h6, h7, h8, k0, k1⟩ := hc
  have e : ∀ k i, k ≠ 13 → k ≠ 5 → k ≠ 21 → up (up (up A 13 o 1) 5 (A 7 o).toNat 1) 21 0 (A 21 0 + 1) k i = A k i := fun k i a b c => by rw [up_k _ _ c, up_k _ _ b, up_k _ _ a]
  have e13 : ∀ i, up (up (up A 13 o 1) 5 (A 7 o).toNat 1) 21 0 (A 21 0 + 1) 13 i = if i = o then 1 else A 13 i := fun i => by rw [up_k _ _ (by decide), up_k _ _ (by decide)]; simp [up]
  have e5 : ∀ i, up (up (up A 13 o 1) 5 (A 7 o).toNat 1) 21 0 (A 21 0 + 1) 5 i = if i = (A 7 o).toNat then 1 else A 5 i := fun i => by rw [up_k _ _ (by decide)]; simp [up]
  have e21 : up (up (up A 13 o 1) 5 (A 7 o).toNat 1) 21 0 (A 21 0 + 1) 21 0 = A 21 0 + 1 := up_s _ _ _ _
  generalize up (up (up A 13 o 1) 5 (A 7 o).toNat 1) 21 0 (A 21 0 + 1) = B at e e13 e5 e21 ⊢
  have e1 := e 1 0 (by decide) (by decide) (by decide)
  have e6 := e 6 0 (by decide) (by decide) (by decide)
  have en : nn B = nn A := by unfold nn; rw [e6]
  have er : RN B = RN A := by unfold RN; rw [e1]
  refine ⟨?_, ⟨?_, ?_, ?_, ?_, ?_, ?_⟩, C3.cg (C3.I (C3.I (C3.I h3))) (fun k => e 14 k (by decide) (by decide) (by decide)), C4.cg (C4.I (C4.I (C4.I h4))) e1 (fun r => e 3 r (by decide) (by decide) (by decide)), C5.cg (C5.I (C5.I (C5.I h5 (aOb_f (by decide))) (aRg_f (by decide))) (by decide)) e6 (fun i => e 15 i (by decide) (by decide) (by decide)) (e 16 0 (by decide) (by decide) (by decide)) (e 17 0 (by decide) (by decide) (by decide)), fun r hr => ?_, C7.cg (C7.I (C7.I (C7.I h7))) e1 (fun q => e 7 q (by decide) (by decide) (by decide)) (fun q => e 8 q (by decide) (by decide) (by decide)), fun q hq => ?_, k0, k1⟩
  · exact C1.cg (((h1.I (fun r q => absurd q.symm (aRg_ne_aOb r o)) (fun _ _ => by decide)).I (fun _ _ => by decide) (fun q w => absurd w (aRg_ne_aOb _ _))).I (fun r q => absurd q.symm (aRg_f (by decide))) (fun r q => absurd q.symm (aOb_f (by decide)))) e1 e6 (fun q => e 9 q (by decide) (by decide) (by decide)) (fun q => e 10 q (by decide) (by decide) (by decide))
  · rw [mi_ne (by omega), mi_ne (fun w => aRg_f (by decide) w.1.symm), mi_ne (fun w => aOb_f (by decide) w.1.symm), e 2 0 (by decide) (by decide) (by decide)]; exact d1
  · rw [mi_ne (by omega), mi_ne (fun w => aRg_f (by decide) w.1.symm), mi_ne (fun w => aOb_f (by decide) w.1.symm), e 18 0 (by decide) (by decide) (by decide)]; exact d2
  · rw [mi_ne (by omega), mi_ne (fun w => aRg_f (by decide) w.1.symm), mi_ne (fun w => aOb_f (by decide) w.1.symm)]; exact d3
  · rw [mi_ne (by omega), mi_ne (fun w => aRg_f (by decide) w.1.symm), mi_ne (fun w => aOb_f (by decide) w.1.symm), e 19 0 (by decide) (by decide) (by decide)]; exact d4
  · rw [mi_ne (by omega), mi_ne (fun w => aRg_f (by decide) w.1.symm), mi_ne (fun w => aOb_f (by decide) w.1.symm), e 20 0 (by decide) (by decide) (by decide)]; exact d5
  · rw [mi_eq, e21]
  · rw [er] at hr
    obtain ⟨a, b, ⟨q, c1, c2, c3⟩, p, p1, p2, p3, p4⟩ := h6 r hr
    have hm : ∀ k, mi (setI (setI (setI μ (aOb o) 5 (iv cy)) (aRg (A 7 o).toNat) 5 (iv 1)) 1 7 (iv (A 21 0 + 1))) (aRg r) k = if r = (A 7 o).toNat ∧ k = 5 then iv 1 else mi μ (aRg r) k := fun k => by
      rw [mi_ne (fun w => aRg_f (by decide) w.1), mi_I]
      by_cases w : r = (A 7 o).toNat ∧ k = 5
      · rw [if_pos w, if_pos ⟨by rw [w.1], w.2⟩]
      · rw [if_neg w, if_neg (fun v => w ⟨aRg_inj v.1, v.2⟩), mi_ne (fun v => aRg_ne_aOb _ _ v.1)]
    rw [hm, hm, hm, hm, if_neg (by omega), if_neg (by omega), if_neg (c := _ ∧ 4 = 5) (by omega), e 3 _ (by decide) (by decide) (by decide), e 4 _ (by decide) (by decide) (by decide), e5]
    refine ⟨a, b, ?_, p, p1, p2, p3, fun w x hx hm x7 => ?_⟩
    · by_cases w : r = (A 7 o).toNat
      · exact ⟨1, by rw [if_pos ⟨w, rfl⟩], Or.inr rfl, fun _ => by rw [if_pos w]⟩
      · exact ⟨q, by rw [if_neg (fun v => w v.1)]; exact c1, c2, fun v => by rw [if_neg w]; exact c3 v⟩
    · rw [en] at hx
      rw [e 7 _ (by decide) (by decide) (by decide)] at x7
      rw [e 8 _ (by decide) (by decide) (by decide)]
      refine p4 w x hx ?_ x7
      rw [toMoveN, e 12 _ (by decide) (by decide) (by decide), e13, e 7 _ (by decide) (by decide) (by decide), e 3 _ (by decide) (by decide) (by decide)] at hm
      rw [toMoveN]
      refine ⟨hm.1, ?_, hm.2.2⟩
      have := hm.2.1
      split at this
      · omega
      · exact this
  · rw [en] at hq
    obtain ⟨y1, y2, ⟨sv, y3, y3a, y3b, y3c⟩, ⟨fv, y4, y4a, y4b, y4c⟩, y5⟩ := h8 q hq
    have hm : ∀ k, mi (setI (setI (setI μ (aOb o) 5 (iv cy)) (aRg (A 7 o).toNat) 5 (iv 1)) 1 7 (iv (A 21 0 + 1))) (aOb q) k = if q = o ∧ k = 5 then iv cy else mi μ (aOb q) k := fun k => by
      rw [mi_ne (fun w => aOb_f (by decide) w.1), mi_ne (fun w => aRg_ne_aOb _ _ w.1.symm), mi_I]
      by_cases w : q = o ∧ k = 5
      · rw [if_pos w, if_pos ⟨by rw [w.1], w.2⟩]
      · rw [if_neg w, if_neg (fun v => w ⟨aOb_inj v.1, v.2⟩)]
    rw [hm, hm, hm, if_neg (by omega), if_neg (c := _ ∧ 4 = 5) (by omega), e 7 _ (by decide) (by decide) (by decide), e 8 _ (by decide) (by decide) (by decide), e 9 _ (by decide) (by decide) (by decide), e 12 _ (by decide) (by decide) (by decide), e13]
    refine ⟨y1, y2, ⟨sv, y3, y3a, y3b, y3c⟩, ?_, fun i hi => ?_⟩
    · by_cases w : q = o
      · exact ⟨cy, by rw [if_pos ⟨w, rfl⟩], by omega, by omega, by rw [if_pos w]; exact ⟨fun _ => rfl, fun _ => rfl⟩⟩
      · exact ⟨fv, by rw [if_neg (fun v => w v.1)]; exact y4, y4a, y4b, by rw [if_neg w]; exact y4c⟩
    · rw [mq_I, mq_I, mq_I, e 11 _ (by decide) (by decide) (by decide)]; exact y5 i hi
/-- an object comes into the target -/
theorem into_CR {A : rS} {P Gs : Nat → Prop} {cy : Int} {μ : mM} {o t : Nat} (hK : KK A P Gs) (hc : CR A P cy μ) (hP : P o) (ht : (t : Int) < A 1 0) (h3 : A 3 t = 2) (h4o : A 3 (A 7 o).toNat = 4) (hu : A 4 t + A 9 o ≤ 128) :
    CR (rInto A (o : Int) (t : Int)) P cy (setI (setI (setQ (setI (setQ (setQ μ (aSt (A 7 o).toNat) (A 8 o).toNat none) (aOb o) 2 (some (aRg t))) (aOb o) 3 (iv (A 4 t))) (aSt t) (A 4 t).toNat (some (aOb o))) (aRg t) 3 (iv (A 4 t + A 9 o))) 1 6 (iv (A 20 0 + 1))) := by
  obtain ⟨h1, ⟨d1, d2, d3, d4, d5, d6⟩, h3', h4, h5, h6, h7, h8, k0, k1⟩ := hc
  have hV := hK.1
  obtain ⟨q1, q2, q3⟩ := hK.2.2.2.2.1
  obtain ⟨o1, o2, o3⟩ := q1 o hP
  have o9 := (hV.2.1 o o1).1
  have o7 := (hV.2.1 o o1).2
  have b7 := hV.1.b7 o
  have b8 := hV.1.b8 o
  have b4 := hV.1.b4 t
  have hfe : (A 7 o).toNat ≠ t := fun w => by rw [w, h3] at h4o; omega
  have e : ∀ k i, k ≠ 7 → k ≠ 8 → k ≠ 4 → k ≠ 20 → rInto A (o : Int) (t : Int) k i = A k i := fun k i a b c d => rInto_k a b c d
  have e7 : ∀ i, rInto A (o : Int) (t : Int) 7 i = if i = o then (t : Int) else A 7 i := fun i => into7 i
  have e8 : ∀ i, rInto A (o : Int) (t : Int) 8 i = if i = o then A 4 t else A 8 i := fun i => into8 i
  have e4 : ∀ i, rInto A (o : Int) (t : Int) 4 i = if i = t then A 4 t + A 9 o else A 4 i := fun i => into4 i
  have e20 : rInto A (o : Int) (t : Int) 20 0 = A 20 0 + 1 := by unfold rInto; rw [up_s]
  generalize rInto A (o : Int) (t : Int) = B at e e7 e8 e4 e20 ⊢
  have e1 := e 1 0 (by decide) (by decide) (by decide) (by decide)
  have e6 := e 6 0 (by decide) (by decide) (by decide) (by decide)
  have en : nn B = nn A := by unfold nn; rw [e6]
  have er : RN B = RN A := by unfold RN; rw [e1]
  generalize hμ : setI (setI (setQ (setI (setQ (setQ μ (aSt (A 7 o).toNat) (A 8 o).toNat none) (aOb o) 2 (some (aRg t))) (aOb o) 3 (iv (A 4 t))) (aSt t) (A 4 t).toNat (some (aOb o))) (aRg t) 3 (iv (A 4 t + A 9 o))) 1 6 (iv (A 20 0 + 1)) = μ'
  have hs : ∀ a, sh μ' a = sh μ a := fun a => by rw [← hμ]; rfl
  have mi1 : ∀ k, mi μ' 1 k = if k = 6 then iv (A 20 0 + 1) else mi μ 1 k := fun k => by
    rw [← hμ, mi_I]
    by_cases w : k = 6
    · rw [if_pos ⟨rfl, w⟩, if_pos w]
    · rw [if_neg (fun v => w v.2), if_neg w, mi_ne (fun w => aRg_f (by decide) w.1.symm), mi_Q, mi_ne (fun w => aOb_f (by decide) w.1.symm), mi_Q, mi_Q]
  have mi3 : ∀ k, mi μ' 3 k = mi μ 3 k := fun k => by rw [← hμ, mi_ne (by omega), mi_ne (fun w => aRg_f (by decide) w.1.symm), mi_Q, mi_ne (fun w => aOb_f (by decide) w.1.symm), mi_Q, mi_Q]
  have mir : ∀ r k, mi μ' (aRg r) k = if r = t ∧ k = 3 then iv (A 4 t + A 9 o) else mi μ (aRg r) k := fun r k => by
    rw [← hμ, mi_ne (fun w => aRg_f (by decide) w.1), mi_I]
    by_cases w : r = t ∧ k = 3
    · rw [if_pos w, if_pos ⟨by rw [w.1], w.2⟩]
    · rw [if_neg w, if_neg (fun v => w ⟨aRg_inj v.1, v.2⟩), mi_Q, mi_ne (fun w => aRg_ne_aOb _ _ w.1), mi_Q, mi_Q]
  have mio : ∀ q k, mi μ' (aOb q) k = if q = o ∧ k = 3 then iv (A 4 t) else mi μ (aOb q) k := fun q k => by
    rw [← hμ, mi_ne (fun w => aOb_f (by decide) w.1), mi_ne (fun w => aRg_ne_aOb _ _ w.1.symm), mi_Q, mi_I]
    by_cases w : q = o ∧ k = 3
    · rw [if_pos w, if_pos ⟨by rw [w.1], w.2⟩]
    · rw [if_neg w, if_neg (fun v => w ⟨aOb_inj v.1, v.2⟩), mi_Q, mi_Q]
  have mqf : ∀ a k, a < 6 → mq μ' a k = mq μ a k := fun a k ha => by rw [← hμ, mq_I, mq_I, mq_ne (fun w => aSt_f ha w.1.symm), mq_I, mq_ne (fun w => aOb_f ha w.1.symm), mq_ne (fun w => aSt_f ha w.1.symm)]
  have mqr : ∀ r k, mq μ' (aRg r) k = mq μ (aRg r) k := fun r k => by rw [← hμ, mq_I, mq_I, mq_ne (fun w => aRg_ne_aSt _ _ w.1), mq_I, mq_ne (fun w => aRg_ne_aOb _ _ w.1), mq_ne (fun w => aRg_ne_aSt _ _ w.1)]
  have mqd : ∀ r k, mq μ' (aFd r) k = mq μ (aFd r) k := fun r k => by rw [← hμ, mq_I, mq_I, mq_ne (fun w => aSt_ne_aFd _ _ w.1.symm), mq_I, mq_ne (fun w => aOb_ne_aFd _ _ w.1.symm), mq_ne (fun w => aSt_ne_aFd _ _ w.1.symm)]
  have mqo : ∀ q k, mq μ' (aOb q) k = if q = o ∧ k = 2 then some (aRg t) else mq μ (aOb q) k := fun q k => by
    rw [← hμ, mq_I, mq_I, mq_ne (fun w => aOb_ne_aSt _ _ w.1), mq_I, mq_Q]
    by_cases w : q = o ∧ k = 2
    · rw [if_pos w, if_pos ⟨by rw [w.1], w.2⟩]
    · rw [if_neg w, if_neg (fun v => w ⟨aOb_inj v.1, v.2⟩), mq_ne (fun w => aOb_ne_aSt _ _ w.1)]
  have mqs : ∀ r k, mq μ' (aSt r) k = if r = t ∧ k = (A 4 t).toNat then some (aOb o) else if r = (A 7 o).toNat ∧ k = (A 8 o).toNat then none else mq μ (aSt r) k := fun r k => by
    rw [← hμ, mq_I, mq_I, mq_Q]
    by_cases w : r = t ∧ k = (A 4 t).toNat
    · rw [if_pos w, if_pos ⟨by rw [w.1], w.2⟩]
    · rw [if_neg w, if_neg (fun v => w ⟨aSt_inj v.1, v.2⟩), mq_I, mq_ne (fun w => aOb_ne_aSt _ _ w.1.symm), mq_Q]
      by_cases v : r = (A 7 o).toNat ∧ k = (A 8 o).toNat
      · rw [if_pos v, if_pos ⟨by rw [v.1], v.2⟩]
      · rw [if_neg v, if_neg (fun u => v ⟨aSt_inj u.1, u.2⟩)]
  clear hμ
  refine ⟨C1.cg (A := A) ?_ e1 e6 (fun q => e 9 q (by decide) (by decide) (by decide) (by decide)) (fun q => e 10 q (by decide) (by decide) (by decide) (by decide)), ⟨?_, ?_, ?_, ?_, ?_, ?_⟩, C3.cg (A := A) ?_ (fun k => e 14 k (by decide) (by decide) (by decide) (by decide)), C4.cg (A := A) ?_ e1 (fun r => e 3 r (by decide) (by decide) (by decide) (by decide)), C5.cg (A := A) ?_ e6 (fun i => e 15 i (by decide) (by decide) (by decide) (by decide)) (e 16 0 (by decide) (by decide) (by decide) (by decide)) (e 17 0 (by decide) (by decide) (by decide) (by decide)), fun r hr => ?_, ⟨fun r k b hr hk hb => ?_, fun q hq => ?_⟩, fun q hq => ?_, k0, k1⟩
  · have er0 : ∀ r, mi μ' (aRg r) 0 = mi μ (aRg r) 0 := fun r => by rw [mir, if_neg (by omega)]
    have eo0 : ∀ r, mi μ' (aOb r) 0 = mi μ (aOb r) 0 := fun r => by rw [mio, if_neg (by omega)]
    have eo1 : ∀ r, mq μ' (aOb r) 1 = mq μ (aOb r) 1 := fun r => by rw [mqo, if_neg (by omega)]
    unfold C1 at *
    simp only [hs, mqf 0 _ (by decide), mqf 1 _ (by decide), mqf 2 _ (by decide), mqf 5 _ (by decide), mqr, er0, eo0, eo1]
    exact h1
  · rw [mi1, if_neg (by decide), e 2 0 (by decide) (by decide) (by decide) (by decide)]; exact d1
  · rw [mi1, if_neg (by decide), e 18 0 (by decide) (by decide) (by decide) (by decide)]; exact d2
  · rw [mi1, if_neg (by decide)]; exact d3
  · rw [mi1, if_neg (by decide), e 19 0 (by decide) (by decide) (by decide) (by decide)]; exact d4
  · rw [mi1, if_pos rfl, e20]
  · rw [mi1, if_neg (by decide), e 21 0 (by decide) (by decide) (by decide) (by decide)]; exact d6
  · intro k hk; rw [mqf 4 k (by decide)]; exact h3' k hk
  · unfold C4 at *; rw [mqf 2 2 (by decide), mqf 2 3 (by decide)]; exact h4
  · have eo6 : ∀ r, mq μ' (aOb r) 6 = mq μ (aOb r) 6 := fun r => by rw [mqo, if_neg (by omega)]
    unfold C5 at *
    simp only [mqf 3 _ (by decide), mi3, eo6]
    exact h5
  · rw [er] at hr
    obtain ⟨a, b, ⟨q, c1, c2, c3⟩, p, p1, p2, p3, p4⟩ := h6 r hr
    rw [mir, mir, mir, mir, if_neg (by omega), if_neg (c := _ ∧ 5 = 3) (by omega), if_neg (c := _ ∧ 4 = 3) (by omega), e 3 _ (by decide) (by decide) (by decide) (by decide), e 5 _ (by decide) (by decide) (by decide) (by decide), e4]
    refine ⟨a, ?_, ⟨q, c1, c2, c3⟩, p, p1, p2, p3, fun w x hx hm x7 => ?_⟩
    · by_cases w : r = t
      · rw [if_pos ⟨w, rfl⟩, if_pos w]
      · rw [if_neg (fun v => w v.1), if_neg w]; exact b
    · rw [en] at hx
      by_cases v : x = o
      · exfalso
        rw [e7, if_pos v] at x7
        have : r = t := by omega
        rw [this, h3] at w
        omega
      · rw [e7, if_neg v] at x7
        rw [e8, if_neg v]
        refine p4 w x hx ?_ x7
        rw [toMoveN, e 12 _ (by decide) (by decide) (by decide) (by decide), e 13 _ (by decide) (by decide) (by decide) (by decide), e7, if_neg v, e 3 _ (by decide) (by decide) (by decide) (by decide)] at hm
        rw [toMoveN]
        exact hm
  · rw [er] at hr
    rw [mqs] at hb
    by_cases w : r = t ∧ k = (A 4 t).toNat
    · rw [if_pos w] at hb
      cases hb
      exact ⟨o, rfl, hP, by rw [e7, if_pos rfl, w.1], by rw [e8, if_pos rfl, w.2]; omega⟩
    · rw [if_neg w] at hb
      by_cases v : r = (A 7 o).toNat ∧ k = (A 8 o).toNat
      · rw [if_pos v] at hb; cases hb
      · rw [if_neg v] at hb
        obtain ⟨x, x1, x2, x3, x4⟩ := h7.1 r k b hr hk hb
        have hne : x ≠ o := fun u => v (by rw [u] at x3 x4; exact ⟨by omega, by omega⟩)
        exact ⟨x, x1, x2, by rw [e7, if_neg hne]; exact x3, by rw [e8, if_neg hne]; exact x4⟩
  · by_cases w : q = o
    · subst w
      rw [e7, if_pos rfl, e8, if_pos rfl, mqs, if_pos ⟨by omega, rfl⟩]
    · have x7 := hV.1.b7 q
      have x8 := hV.1.b8 q
      obtain ⟨y1, y2, y3⟩ := q1 q hq
      have y9 := (hV.2.1 q y1).1
      rw [e7, if_neg w, e8, if_neg w, mqs, if_neg (fun v => by rw [v.1] at y3; omega), if_neg (fun v => w (q3 q o hq hP (by omega) (by omega)))]
      exact h7.2 q hq
  · rw [en] at hq
    obtain ⟨y1, y2, y3, y4, y5⟩ := h8 q hq
    rw [mqo, mio, mio, mio, if_neg (c := _ ∧ 4 = 3) (by omega), if_neg (c := _ ∧ 5 = 3) (by omega), e7, e8, e 9 _ (by decide) (by decide) (by decide) (by decide), e 12 _ (by decide) (by decide) (by decide) (by decide), e 13 _ (by decide) (by decide) (by decide) (by decide)]
    refine ⟨?_, ?_, y3, y4, fun i hi => ?_⟩
    · by_cases w : q = o
      · rw [if_pos ⟨w, rfl⟩, if_pos w]; simp
      · rw [if_neg (fun v => w v.1), if_neg w]; exact y1
    · by_cases w : q = o
      · rw [if_pos ⟨w, rfl⟩, if_pos w]
      · rw [if_neg (fun v => w v.1), if_neg w]; exact y2
    · rw [mqd, e 11 _ (by decide) (by decide) (by decide) (by decide)]; exact y5 i hi
/-- moving has gone past some words -/
theorem psd_CR {A : rS} {P : Nat → Prop} {cy p : Int} {μ : mM} {x : Nat} (hc : CR A P cy μ) (h0 : 0 ≤ p ∧ p ≤ 128) (hp : ∀ o, o < nn A → rToMove A (o : Int) = 1 → A 7 o = x → p ≤ A 8 o) : CR A P cy (setI μ (aRg x) 4 (iv p)) := by
  refine reg_CR hc (fun k i _ _ _ _ _ => rfl) (C2.I hc.2.1 (aRg_f (by decide))) (C4.I hc.2.2.2.1) ?_ (C7.I hc.2.2.2.2.2.2.1) (fun _ => rfl) (fun a k _ h2 => ?_) (fun _ _ _ _ => rfl)
  · refine C6.at (x := x) hc.2.2.2.2.2.1 rfl rfl (fun r w => rfl) (fun r w => rfl) (fun r w => rfl) (fun o => rfl) (fun o => rfl) (fun o => rfl) (fun o => rfl) (fun r k w => by rw [mi_ne (fun q => w (aRg_inj q.1))]) (fun hx => ?_)
    obtain ⟨a, b, ⟨q, c1, c2, c3⟩, p', d1, d2, d3, d4⟩ := hc.2.2.2.2.2.1 x hx
    refine ⟨?_, ?_, ⟨q, ?_, c2, c3⟩, p, ?_, h0.1, h0.2, fun _ => hp⟩
    · rw [mi_ne (by omega)]; exact a
    · rw [mi_ne (by omega)]; exact b
    · rw [mi_ne (by omega)]; exact c1
    · rw [mi_eq]
  · rw [mi_ne (fun w => by have := h2 x w.1; omega)]
/-- who has to be moved first -/
theorem bst_is {A : rS} {P G : Nat → Prop} (hK : KK A P G) {o : Nat} (ho : o < nn A) (hm : rToMove A (o : Int) = 1) (hmin : ∀ q, q < nn A → rToMove A (q : Int) = 1 → A 7 o ≤ A 7 q ∧ (A 7 q = A 7 o → A 8 o ≤ A 8 q)) : rBst A = (o : Int) := by
  have hI := hK.1.1
  have hV := hK.1
  have b6 := hI.b6 0
  by_cases e : rBst A = -1
  · exact absurd hm (rBst_none hI e (o : Int) (by unfold nn at ho; omega))
  · obtain ⟨s1, s2, s3, s4⟩ := rBst_some hI e
    obtain ⟨q, hq⟩ : ∃ q : Nat, rBst A = (q : Int) := ⟨(rBst A).toNat, by omega⟩
    rw [hq] at s2 s3 s4 ⊢
    have hqn : q < nn A := by unfold nn; omega
    have m := s4 (o : Int) (by omega) (by unfold nn at ho; omega) hm
    obtain ⟨m1, m2⟩ := hmin q hqn s3
    unfold rPlace at m
    rw [if_neg (by omega), if_neg (by omega)] at m
    simp only [Int.toNat_natCast] at m
    have st : ∀ x, x < nn A → rToMove A (x : Int) = 1 → P x ∧ 0 ≤ A 8 x ∧ A 8 x < 128 := fun x hx hmx => by
      have b12 := hI.b12 x
      have b8 := hI.b8 x
      have b4 := hI.b4 (A 7 x).toNat
      have hP := hK.2.2.2.2.1.2.1 x hx (by have := (toMoveN.mp hmx).1; omega)
      have p := (hK.2.2.2.2.1.1 x hP).2.2
      have v9 := (hV.2.1 x hx).1
      exact ⟨hP, by omega, by omega⟩
    obtain ⟨po, o1, o2⟩ := st o ho hm
    obtain ⟨pq, q1, q2⟩ := st q hqn s3
    by_cases e7 : A 7 q = A 7 o
    · have := m2 e7
      have := hK.2.2.2.2.1.2.2 q o pq po e7 (by omega)
      rw [this]
    · omega
theorem bst_no {A : rS} (hI : RI A) (h : ∀ o, o < nn A → rToMove A (o : Int) ≠ 1) : rBst A = -1 := by
  by_cases e : rBst A = -1
  · exact e
  · obtain ⟨s1, s2, s3, s4⟩ := rBst_some hI e
    have := h (rBst A).toNat (by unfold nn; omega)
    rw [Int.toNat_of_nonneg s1] at this
    exact absurd s3 this
theorem clr.fr {μ μ1 μ2 : mM} {x : Nat} {i : Int} (h : cfr μ μ1) (hc : clr μ1 μ2 (aSt x) i) : cfr μ μ2 := ⟨fun a => by rw [hc.1]; exact h.1 a, fun a k => by rw [hc.2.2.1]; exact h.2.1 a k, fun a k n => ⟨by rw [hc.2.2.2, if_neg (fun w => n (by rw [w.1]; exact cad_s x))]; exact (h.2.2 a k n).1, by rw [hc.2.1]; exact (h.2.2 a k n).2⟩⟩
