/-! the class relation over the public calls -/
theorem z_CR {A : rS} {P : Nat → Prop} {cy : Int} {μ : mM} (v : Int) : CR (up A 0 0 v) P cy μ ↔ CR A P cy μ := by
  have e : ∀ (A : rS) (v : Int) k i, k ≠ 0 → up A 0 0 v k i = A k i := fun A v k i h => up_k _ _ h
  have hm : ∀ o, rToMove (up A 0 0 v) o = rToMove A o := fun o => by unfold rToMove; rw [e _ _ 12 _ (by decide), e _ _ 13 _ (by decide), e _ _ 7 _ (by decide), e _ _ 3 _ (by decide)]
  have hw : ∀ st, rWith (up A 0 0 v) st = rWith A st := fun st => rWith_cg (e _ _ 1 0 (by decide)) (fun r => e _ _ 3 r (by decide))
  unfold CR C1 C2 C3 C4 C5 C6 C7 C8 RN nn
  simp only [hm, hw, e _ _ 1 _ (by decide), e _ _ 2 _ (by decide), e _ _ 3 _ (by decide), e _ _ 4 _ (by decide), e _ _ 5 _ (by decide), e _ _ 6 _ (by decide), e _ _ 7 _ (by decide), e _ _ 8 _ (by decide), e _ _ 9 _ (by decide), e _ _ 10 _ (by decide), e _ _ 11 _ (by decide), e _ _ 12 _ (by decide), e _ _ 13 _ (by decide), e _ _ 14 _ (by decide), e _ _ 15 _ (by decide), e _ _ 16 _ (by decide), e _ _ 17 _ (by decide), e _ _ 18 _ (by decide), e _ _ 19 _ (by decide), e _ _ 20 _ (by decide), e _ _ 21 _ (by decide)]
theorem r14_CR {A : rS} {P : Nat → Prop} {cy v : Int} {μ : mM} {k : Nat} (hc : CR A P cy μ) : CR (up A 14 k v) P cy (setQ μ 4 k (oref v)) := by
  obtain ⟨h1, h2, h3, h4, h5, h6, h7, h8, k0, k1⟩ := hc
  have e : ∀ k' i, k' ≠ 14 → up A 14 k v k' i = A k' i := fun k' i h => up_k _ _ h
  refine ⟨C1.cg (A := A) (h1.Q (by decide) (by decide) (fun q => absurd q (by decide)) (by decide) (fun r q => absurd q.symm (aRg_f (by decide))) (fun r q => absurd q.symm (aOb_f (by decide)))) (e 1 0 (by decide)) (e 6 0 (by decide)) (fun o => e 9 o (by decide)) (fun o => e 10 o (by decide)), C2.cg (A := A) (C2.Q h2) (e 2 0 (by decide)) (e 18 0 (by decide)) (e 19 0 (by decide)) (e 20 0 (by decide)) (e 21 0 (by decide)), fun j hj => ?_, C4.cg (A := A) (h4.Q (by decide)) (e 1 0 (by decide)) (fun r => e 3 r (by decide)), C5.cg (A := A) (h5.Q (by decide) (fun o q => absurd q.symm (aOb_f (by decide)))) (e 6 0 (by decide)) (fun i => e 15 i (by decide)) (e 16 0 (by decide)) (e 17 0 (by decide)), C6.cg (A := A) (C6.Q h6) (e 1 0 (by decide)) (fun r => e 3 r (by decide)) (fun r => e 4 r (by decide)) (fun r => e 5 r (by decide)) (e 6 0 (by decide)) (fun r => e 7 r (by decide)) (fun r => e 8 r (by decide)) (fun r => e 12 r (by decide)) (fun r => e 13 r (by decide)), C7.cg (A := A) (h7.Q (fun r q => aSt_f (by decide) q.symm)) (e 1 0 (by decide)) (fun o => e 7 o (by decide)) (fun o => e 8 o (by decide)), C8.cg (A := A) (h8.Q (fun o q => absurd q.symm (aOb_f (by decide))) (fun o q => aFd_f (by decide) q.symm)) (e 6 0 (by decide)) (fun o => e 7 o (by decide)) (fun o => e 8 o (by decide)) (fun o => e 9 o (by decide)) (fun o => e 11 o (by decide)) (fun o => e 12 o (by decide)) (fun o => e 13 o (by decide)), k0, k1⟩
  by_cases w : j = k
  · rw [w, mq_eq, up_s]
  · rw [mq_ne (fun q => w q.2), up_i _ w]; exact h3 j hj
theorem f11_CR {A : rS} {P : Nat → Prop} {cy v : Int} {μ : mM} {o i : Nat} (hI : RI A) (hc : CR A P cy μ) (hi : i < 21) : CR (up A 11 (21 * o + i) v) P cy (setQ μ (aFd o) i (oref v)) := by
  obtain ⟨h1, h2, h3, h4, h5, h6, h7, h8, k0, k1⟩ := hc
  have e : ∀ k' j, k' ≠ 11 → up A 11 (21 * o + i) v k' j = A k' j := fun k' j h => up_k _ _ h
  refine ⟨C1.cg (A := A) (h1.Q (aFd_f (by decide)) (aFd_f (by decide)) (fun q => absurd q (aFd_f (by decide))) (aFd_f (by decide)) (fun r q => absurd q.symm (aRg_ne_aFd _ _)) (fun r q => absurd q.symm (aOb_ne_aFd _ _))) (e 1 0 (by decide)) (e 6 0 (by decide)) (fun o => e 9 o (by decide)) (fun o => e 10 o (by decide)), C2.cg (A := A) (C2.Q h2) (e 2 0 (by decide)) (e 18 0 (by decide)) (e 19 0 (by decide)) (e 20 0 (by decide)) (e 21 0 (by decide)), C3.cg (A := A) (h3.Q (aFd_f (by decide))) (fun k => e 14 k (by decide)), C4.cg (A := A) (h4.Q (aFd_f (by decide))) (e 1 0 (by decide)) (fun r => e 3 r (by decide)), C5.cg (A := A) (h5.Q (aFd_f (by decide)) (fun o q => absurd q.symm (aOb_ne_aFd _ _))) (e 6 0 (by decide)) (fun i => e 15 i (by decide)) (e 16 0 (by decide)) (e 17 0 (by decide)), C6.cg (A := A) (C6.Q h6) (e 1 0 (by decide)) (fun r => e 3 r (by decide)) (fun r => e 4 r (by decide)) (fun r => e 5 r (by decide)) (e 6 0 (by decide)) (fun r => e 7 r (by decide)) (fun r => e 8 r (by decide)) (fun r => e 12 r (by decide)) (fun r => e 13 r (by decide)), C7.cg (A := A) (h7.Q (fun r q => aSt_ne_aFd _ _ q.symm)) (e 1 0 (by decide)) (fun o => e 7 o (by decide)) (fun o => e 8 o (by decide)), fun q hq => ?_, k0, k1⟩
  obtain ⟨y1, y2, y3, y4, y5⟩ := h8 q hq
  rw [e 7 _ (by decide), e 8 _ (by decide), e 9 _ (by decide), e 12 _ (by decide), e 13 _ (by decide)]
  refine ⟨by rw [mq_ne (fun w => aOb_ne_aFd _ _ w.1)]; exact y1, y2, y3, y4, fun j hj => ?_⟩
  have b9 := hI.b9 q
  by_cases w : q = o ∧ j = i
  · rw [w.1, w.2, mq_eq, up_s]
  · rw [mq_ne (fun u => w ⟨aFd_inj u.1, u.2⟩), up_i _ (fun u => w (by omega))]
    exact y5 j hj
/-- a new object -/
theorem new_CR {B : rS} {P Gs : Nat → Prop} {cy r c t : Int} {μ μ' : mM} (hK : KK B P Gs) (hc : CR B P cy μ) (hr : rReg r) (hcc : 0 ≤ c ∧ c ≤ 20) (hw : rWith B 1 ≠ -1)
    (hu : B 4 (rWith B 1).toNat + (c + 2) ≤ 128) (hs : ∀ a, a ≠ aOb (nn B) → a ≠ aFd (nn B) → sh μ' a = sh μ a) (hs1 : sh μ' (aOb (nn B)) = some (.inl 1)) (hs2 : sh μ' (aFd (nn B)) = some (.inr (3, c.toNat)))
    (hi : ∀ a k, a ≠ aOb (nn B) → a ≠ aFd (nn B) → mi μ' a k = if a = aRg (rWith B 1).toNat ∧ k = 3 then iv (B 4 (rWith B 1).toNat + (c + 2)) else mi μ a k)
    (i0 : mi μ' (aOb (nn B)) 0 = iv t) (i3 : mi μ' (aOb (nn B)) 3 = iv (B 4 (rWith B 1).toNat)) (i4 : mi μ' (aOb (nn B)) 4 = iv (if B 18 0 = 0 then -1 else cy)) (i5 : mi μ' (aOb (nn B)) 5 = iv (-1))
    (hq : ∀ a k, a ≠ aOb (nn B) → a ≠ aFd (nn B) → mq μ' a k = if a = aSt (rWith B 1).toNat ∧ k = (B 4 (rWith B 1).toNat).toNat ∨ a = 4 ∧ k = r.toNat then some (aOb (nn B)) else mq μ a k)
    (q1 : mq μ' (aOb (nn B)) 1 = some (aFd (nn B))) (q2 : mq μ' (aOb (nn B)) 2 = some (aRg (rWith B 1).toNat)) (q6 : mq μ' (aOb (nn B)) 6 = none) (qf : ∀ k, mq μ' (aFd (nn B)) k = none) :
    CR (rPut B r c t) (fun o => P o ∨ o = nn B) cy μ' := by
  obtain ⟨e, ei, e4, e6, n7, n8, n9, n10, e11, n12, n13, e14⟩ := put_e (r := r) (c := c) (t := t) hK.1.1 hcc
  have hwb := rWith_some hw
  have hV := hK.1
  obtain ⟨pl1, pl2, pl3⟩ := hK.2.2.2.2.1
  have b18 := hV.1.b18 0
  have b6 := hV.1.b6 0
  have b4w := hV.1.b4 (rWith B 1).toNat
  have b1 := hV.1.b1 0
  have en : ((nn B : Nat) : Int) = B 6 0 := by unfold nn; omega
  have e1 : rPut B r c t 1 0 = B 1 0 := e 1 0 (by decide) (by decide) (by decide) (by decide) (by decide) (by decide) (by decide) (by decide) (by decide) (by decide)
  have e2 : rPut B r c t 2 0 = B 2 0 := e 2 0 (by decide) (by decide) (by decide) (by decide) (by decide) (by decide) (by decide) (by decide) (by decide) (by decide)
  have e18 : rPut B r c t 18 0 = B 18 0 := e 18 0 (by decide) (by decide) (by decide) (by decide) (by decide) (by decide) (by decide) (by decide) (by decide) (by decide)
  have e16 : rPut B r c t 16 0 = B 16 0 := e 16 0 (by decide) (by decide) (by decide) (by decide) (by decide) (by decide) (by decide) (by decide) (by decide) (by decide)
  have e17 : rPut B r c t 17 0 = B 17 0 := e 17 0 (by decide) (by decide) (by decide) (by decide) (by decide) (by decide) (by decide) (by decide) (by decide) (by decide)
  have e19 : rPut B r c t 19 0 = B 19 0 := e 19 0 (by decide) (by decide) (by decide) (by decide) (by decide) (by decide) (by decide) (by decide) (by decide) (by decide)
  have e20 : rPut B r c t 20 0 = B 20 0 := e 20 0 (by decide) (by decide) (by decide) (by decide) (by decide) (by decide) (by decide) (by decide) (by decide) (by decide)
  have e21 : rPut B r c t 21 0 = B 21 0 := e 21 0 (by decide) (by decide) (by decide) (by decide) (by decide) (by decide) (by decide) (by decide) (by decide) (by decide)
  have e3 : ∀ i, rPut B r c t 3 i = B 3 i := fun i => e 3 i (by decide) (by decide) (by decide) (by decide) (by decide) (by decide) (by decide) (by decide) (by decide) (by decide)
  have e5 : ∀ i, rPut B r c t 5 i = B 5 i := fun i => e 5 i (by decide) (by decide) (by decide) (by decide) (by decide) (by decide) (by decide) (by decide) (by decide) (by decide)
  have e15 : ∀ i, rPut B r c t 15 i = B 15 i := fun i => e 15 i (by decide) (by decide) (by decide) (by decide) (by decide) (by decide) (by decide) (by decide) (by decide) (by decide)
  have o7 : ∀ o, o ≠ nn B → rPut B r c t 7 o = B 7 o := fun o ho => ei 7 o (by decide) (by decide) (by decide) (by decide) ho
  have o8 : ∀ o, o ≠ nn B → rPut B r c t 8 o = B 8 o := fun o ho => ei 8 o (by decide) (by decide) (by decide) (by decide) ho
  have o9 : ∀ o, o ≠ nn B → rPut B r c t 9 o = B 9 o := fun o ho => ei 9 o (by decide) (by decide) (by decide) (by decide) ho
  have o10 : ∀ o, o ≠ nn B → rPut B r c t 10 o = B 10 o := fun o ho => ei 10 o (by decide) (by decide) (by decide) (by decide) ho
  have o12 : ∀ o, o ≠ nn B → rPut B r c t 12 o = B 12 o := fun o ho => ei 12 o (by decide) (by decide) (by decide) (by decide) ho
  have o13 : ∀ o, o ≠ nn B → rPut B r c t 13 o = B 13 o := fun o ho => ei 13 o (by decide) (by decide) (by decide) (by decide) ho
  have o11 : ∀ o j : Nat, o < nn B → j < 21 → rPut B r c t 11 (21 * o + j) = B 11 (21 * o + j) := fun o j ho hj => by rw [e11, if_neg (by omega)]
  have m11 : ∀ j : Nat, (j : Int) < c → rPut B r c t 11 (21 * nn B + j) = -1 := fun j hj => by rw [e11, if_pos (by omega)]
  generalize rPut B r c t = C at *
  have enC : nn C = nn B + 1 := by unfold nn; rw [e6]; omega
  have erC : RN C = RN B := by unfold RN; rw [e1]
  obtain ⟨h1, ⟨d1, d2, d3, d4, d5, d6⟩, h3, h4, ⟨c1, c2, c3, c4, c5⟩, h6, h7, h8, k0, k1⟩ := hc
  -- frames of the memory
  have sf : ∀ a, a < 6 → sh μ' a = sh μ a := fun a ha => hs a (fun w => aOb_f ha w.symm) (fun w => aFd_f ha w.symm)
  have sr : ∀ q, sh μ' (aRg q) = sh μ (aRg q) := fun q => hs _ (aRg_ne_aOb _ _) (aRg_ne_aFd _ _)
  have ss : ∀ q, sh μ' (aSt q) = sh μ (aSt q) := fun q => hs _ (fun w => aOb_ne_aSt _ _ w.symm) (aSt_ne_aFd _ _)
  have so : ∀ q, q ≠ nn B → sh μ' (aOb q) = sh μ (aOb q) := fun q w => hs _ (fun v => w (aOb_inj v)) (aOb_ne_aFd _ _)
  have sd : ∀ q, q ≠ nn B → sh μ' (aFd q) = sh μ (aFd q) := fun q w => hs _ (fun v => aOb_ne_aFd _ _ v.symm) (fun v => w (aFd_inj v))
  have mf : ∀ a k, a < 6 → mi μ' a k = mi μ a k := fun a k ha => by rw [hi a k (fun w => aOb_f ha w.symm) (fun w => aFd_f ha w.symm), if_neg (fun w => aRg_f ha w.1.symm)]
  have mr : ∀ q k, mi μ' (aRg q) k = if q = (rWith B 1).toNat ∧ k = 3 then iv (B 4 (rWith B 1).toNat + (c + 2)) else mi μ (aRg q) k := fun q k => by
    rw [hi _ k (aRg_ne_aOb _ _) (aRg_ne_aFd _ _)]
    by_cases w : q = (rWith B 1).toNat ∧ k = 3
    · rw [if_pos w, if_pos ⟨by rw [w.1], w.2⟩]
    · rw [if_neg w, if_neg (fun v => w ⟨aRg_inj v.1, v.2⟩)]
  have mo : ∀ q k, q ≠ nn B → mi μ' (aOb q) k = mi μ (aOb q) k := fun q k w => by rw [hi _ k (fun v => w (aOb_inj v)) (aOb_ne_aFd _ _), if_neg (fun v => aRg_ne_aOb _ _ v.1.symm)]
  have qff : ∀ a k, a < 6 → a ≠ 4 → mq μ' a k = mq μ a k := fun a k ha h4 => by rw [hq a k (fun w => aOb_f ha w.symm) (fun w => aFd_f ha w.symm), if_neg (fun w => w.elim (fun v => aSt_f ha v.1.symm) (fun v => h4 v.1))]
  have qr : ∀ q k, mq μ' (aRg q) k = mq μ (aRg q) k := fun q k => by rw [hq _ k (aRg_ne_aOb _ _) (aRg_ne_aFd _ _), if_neg (fun w => w.elim (fun v => aRg_ne_aSt _ _ v.1) (fun v => aRg_f (by decide) v.1))]
  have qo : ∀ q k, q ≠ nn B → mq μ' (aOb q) k = mq μ (aOb q) k := fun q k w => by rw [hq _ k (fun v => w (aOb_inj v)) (aOb_ne_aFd _ _), if_neg (fun w => w.elim (fun v => aOb_ne_aSt _ _ v.1) (fun v => aOb_f (by decide) v.1))]
  have qd : ∀ q k, q ≠ nn B → mq μ' (aFd q) k = mq μ (aFd q) k := fun q k w => by rw [hq _ k (fun v => aOb_ne_aFd _ _ v.symm) (fun v => w (aFd_inj v)), if_neg (fun w => w.elim (fun v => aSt_ne_aFd _ _ v.1.symm) (fun v => aFd_f (by decide) v.1))]
  have qs : ∀ q k, mq μ' (aSt q) k = if q = (rWith B 1).toNat ∧ k = (B 4 (rWith B 1).toNat).toNat then some (aOb (nn B)) else mq μ (aSt q) k := fun q k => by
    rw [hq _ k (fun v => aOb_ne_aSt _ _ v.symm) (aSt_ne_aFd _ _)]
    by_cases w : q = (rWith B 1).toNat ∧ k = (B 4 (rWith B 1).toNat).toNat
    · rw [if_pos w, if_pos (Or.inl ⟨by rw [w.1], w.2⟩)]
    · rw [if_neg w, if_neg (fun v => v.elim (fun u => w ⟨aSt_inj u.1, u.2⟩) (fun u => aSt_f (by decide) u.1))]
  have hlt : ∀ o, o < nn C → o ≠ nn B → o < nn B := fun o a b => by omega
  refine ⟨?_, ⟨?_, ?_, ?_, ?_, ?_, ?_⟩, fun k hk => ?_, ?_, ⟨?_, ?_, ?_, fun i a1 a2 => ?_, fun o ho hn => ?_⟩, fun q hq' => ?_, ⟨fun q k b hr' hk hb => ?_, fun o ho => ?_⟩, fun o ho => ?_, k0, k1⟩
  · obtain ⟨x1, x2, x3, x4, x5, x6⟩ := h1
    rw [C1, erC, sf 0 (by decide), sf 1 (by decide), sf 2 (by decide), sf 3 (by decide), sf 4 (by decide), sf 5 (by decide), qff 0 0 (by decide) (by decide), qff 0 1 (by decide) (by decide), qff 1 0 (by decide) (by decide), qff 1 2 (by decide) (by decide), qff 2 0 (by decide) (by decide), qff 2 1 (by decide) (by decide)]
    refine ⟨x1, x2, x3, x4, fun q hq' => ?_, fun o ho => ?_⟩
    · rw [qff 5 q (by decide) (by decide), sr, qr, ss, mr, if_neg (by omega)]; exact x5 q hq'
    · by_cases w : o = nn B
      · rw [w, n9, n10, hs1, q1, hs2, i0]
        exact ⟨rfl, rfl, by rw [show (c + 2 - 2).toNat = c.toNat by congr 1; omega], rfl⟩
      · rw [o9 o w, o10 o w, so o w, qo o 1 w, sd o w, mo o 0 w]
        exact x6 o (hlt o ho w)
  · rw [mf 1 1 (by decide), e2]; exact d1
  · rw [mf 1 3 (by decide), e18]; exact d2
  · rw [mf 1 4 (by decide)]; exact d3
  · rw [mf 1 5 (by decide), e19]; exact d4
  · rw [mf 1 6 (by decide), e20]; exact d5
  · rw [mf 1 7 (by decide), e21]; exact d6
  · rw [hq 4 k (fun w => aOb_f (by decide) w.symm) (fun w => aFd_f (by decide) w.symm), e14]
    by_cases w : k = r.toNat
    · rw [if_pos (Or.inr ⟨rfl, w⟩), if_pos w, oref_s (by omega)]; rfl
    · rw [if_neg (fun v => v.elim (fun u => aSt_f (by decide) u.1.symm) (fun u => w u.2)), if_neg w]; exact h3 k hk
  · unfold C4 at *
    rw [rWith_cg e1 e3, rWith_cg e1 e3, qff 2 2 (by decide) (by decide), qff 2 3 (by decide) (by decide)]
    exact h4
  · rw [qff 3 0 (by decide) (by decide), e16, e17, e15]; exact c1
  · rw [qff 3 1 (by decide) (by decide), e16, e17, e15]; exact c2
  · rw [mf 3 2 (by decide), e16, e17]; exact c3
  · rw [e16] at a1
    rw [e17] at a2
    have := (hK.2.1.2.1 i (by omega)).1
    have b15 := hV.1.b15 i
    rw [e15, e15, qo _ 6 (by omega)]
    exact c4 i a1 a2
  · by_cases w : o = nn B
    · rw [w]; exact q6
    · rw [qo o 6 w]
      refine c5 o (hlt o ho w) (fun i a1 a2 => ?_)
      have := hn i (by rw [e16]; exact a1) (by rw [e17]; exact a2)
      rw [e15] at this
      exact this
  · rw [erC] at hq'
    obtain ⟨a, b, ⟨x, y1, y2, y3⟩, p, p1, p2, p3, p4⟩ := h6 q hq'
    rw [mr, mr, mr, mr, if_neg (by omega), if_neg (c := _ ∧ 5 = 3) (by omega), if_neg (c := _ ∧ 4 = 3) (by omega), e3, e5, e4]
    refine ⟨a, ?_, ⟨x, y1, y2, y3⟩, p, p1, p2, p3, fun w o ho hm o7' => ?_⟩
    · by_cases w : q = (rWith B 1).toNat
      · rw [if_pos ⟨w, rfl⟩, if_pos w]
      · rw [if_neg (fun v => w v.1), if_neg w]; exact b
    · by_cases v : o = nn B
      · exfalso
        rw [v, n7] at o7'
        rw [← show (rWith B 1).toNat = q by omega, hwb.2.2] at w
        omega
      · rw [o7 o v] at o7'
        rw [o8 o v]
        refine p4 w o (hlt o ho v) ?_ o7'
        rw [toMoveN, o12 o v, o13 o v, o7 o v, e3] at hm
        rw [toMoveN]
        exact hm
  · rw [erC] at hr'
    rw [qs] at hb
    by_cases w : q = (rWith B 1).toNat ∧ k = (B 4 (rWith B 1).toNat).toNat
    · rw [if_pos w] at hb
      cases hb
      exact ⟨nn B, rfl, Or.inr rfl, by rw [n7]; omega, by rw [n8]; omega⟩
    · rw [if_neg w] at hb
      obtain ⟨o, y1, y2, y3, y4⟩ := h7.1 q k b hr' hk hb
      have hne : o ≠ nn B := by have := (pl1 o y2).1; omega
      exact ⟨o, y1, Or.inl y2, by rw [o7 o hne]; exact y3, by rw [o8 o hne]; exact y4⟩
  · by_cases w : o = nn B
    · rw [w, n7, n8, qs, if_pos ⟨rfl, rfl⟩]
    · rcases ho with ho | ho
      · have x7 := hV.1.b7 o
        have x8 := hV.1.b8 o
        obtain ⟨y1, y2, y3⟩ := pl1 o ho
        have y9 := (hV.2.1 o y1).1
        rw [o7 o w, o8 o w, qs, if_neg (fun v => by rw [v.1] at y3; omega)]
        exact h7.2 o ho
      · exact absurd ho w
  · by_cases w : o = nn B
    · rw [w, q2, i3, i4, i5, n7, n8, n9, n12, n13]
      refine ⟨rfl, rfl, ⟨_, rfl, ?_, ?_, ?_⟩, ⟨-1, rfl, by omega, by omega, by omega⟩, fun i hi' => ?_⟩
      · split <;> omega
      · split <;> omega
      · by_cases v : B 18 0 = 0
        · rw [if_pos v, bZ_f (by omega)]; omega
        · rw [if_neg v, bZ_t (by omega)]; omega
      · rw [qf, m11 i (by omega)]; rfl
    · obtain ⟨y1, y2, y3, y4, y5⟩ := h8 o (hlt o ho w)
      rw [qo o 2 w, mo o 3 w, mo o 4 w, mo o 5 w, o7 o w, o8 o w, o9 o w, o12 o w, o13 o w]
      refine ⟨y1, y2, y3, y4, fun i hi' => ?_⟩
      have := hV.1.b9 o
      rw [qd o i w, o11 o i (hlt o ho w) (by omega)]
      exact y5 i hi'
/-- what a call of the class leaves alone -/
def wfr (μ μ' : mM) : Prop := (∀ a, ¬ cad a → sh μ' a = sh μ a) ∧ (∀ a k, ¬ cad a → a ≠ 7 → mj μ' a k = mj μ a k) ∧ (∀ a k, ¬ cad a → mq μ' a k = mq μ a k ∧ mi μ' a k = mi μ a k)
theorem wfr.rf (μ : mM) : wfr μ μ := ⟨fun _ _ => rfl, fun _ _ _ _ => rfl, fun _ _ _ => ⟨rfl, rfl⟩⟩
theorem wfr.tr {μ μ1 μ2 : mM} (h : wfr μ μ1) (h' : wfr μ1 μ2) : wfr μ μ2 := ⟨fun a n => (h'.1 a n).trans (h.1 a n), fun a k n n7 => (h'.2.1 a k n n7).trans (h.2.1 a k n n7), fun a k n => ⟨(h'.2.2 a k n).1.trans (h.2.2 a k n).1, (h'.2.2 a k n).2.trans (h.2.2 a k n).2⟩⟩
theorem cfr.w {μ μ1 : mM} (h : cfr μ μ1) : wfr μ μ1 := ⟨fun a _ => h.1 a, fun a k _ _ => h.2.1 a k, h.2.2⟩
theorem wfr.I {μ μ1 : mM} (h : wfr μ μ1) {a : Nat} (ha : cad a) (k : Nat) (v : Int32) : wfr μ (setI μ1 a k v) := ⟨h.1, h.2.1, fun b j n => ⟨(h.2.2 b j n).1, by rw [mi_I, if_neg (fun q => n (by rw [q.1]; exact ha))]; exact (h.2.2 b j n).2⟩⟩
theorem wfr.Q {μ μ1 : mM} (h : wfr μ μ1) {a : Nat} (ha : cad a) (k : Nat) (v : Option Nat) : wfr μ (setQ μ1 a k v) := ⟨h.1, h.2.1, fun b j n => ⟨by rw [mq_Q, if_neg (fun q => n (by rw [q.1]; exact ha))]; exact (h.2.2 b j n).1, (h.2.2 b j n).2⟩⟩
theorem wfr.N {μ μ1 : mM} (h : wfr μ μ1) {a : Nat} (ha : cad a) (x : mS) : wfr μ (newC μ1 a x) := ⟨fun b n => by rw [sh_N, if_neg (fun q => n (by rw [q]; exact ha))]; exact h.1 b n, fun b j n n7 => by rw [mj_N, if_neg (fun q => n (by rw [q]; exact ha))]; exact h.2.1 b j n n7, fun b j n => ⟨by rw [mq_N, if_neg (fun q => n (by rw [q]; exact ha))]; exact (h.2.2 b j n).1, by rw [mi_N, if_neg (fun q => n (by rw [q]; exact ha))]; exact (h.2.2 b j n).2⟩⟩
theorem wfr.J {μ μ1 : mM} (h : wfr μ μ1) (k : Nat) (v : Int64) : wfr μ (setJ μ1 7 k v) := ⟨h.1, fun b j n n7 => by rw [mj_J, if_neg (fun q => n7 q.1)]; exact h.2.1 b j n n7, h.2.2⟩
theorem n6 : ¬ cad 6 := by
  rintro (h | ⟨r, h⟩ | ⟨r, h⟩ | ⟨r, h⟩ | ⟨r, h⟩)
  · omega
  · unfold aRg at h; omega
  · unfold aSt at h; omega
  · unfold aOb at h; omega
  · unfold aFd at h; omega
theorem n7 : ¬ cad 7 := by
  rintro (h | ⟨r, h⟩ | ⟨r, h⟩ | ⟨r, h⟩ | ⟨r, h⟩)
  · omega
  · unfold aRg at h; omega
  · unfold aSt at h; omega
  · unfold aOb at h; omega
  · unfold aFd at h; omega
theorem n13 : ¬ cad 13 := by
  rintro (h | ⟨r, h⟩ | ⟨r, h⟩ | ⟨r, h⟩ | ⟨r, h⟩)
  · omega
  · unfold aRg at h; omega
  · unfold aSt at h; omega
  · unfold aOb at h; omega
  · unfold aFd at h; omega
theorem nk {k : Nat} : ¬ cad (aK k) := by
  rintro (h | ⟨r, h⟩ | ⟨r, h⟩ | ⟨r, h⟩ | ⟨r, h⟩)
  · unfold aK at h; omega
  · unfold aRg aK at h; omega
  · unfold aSt aK at h; omega
  · unfold aOb aK at h; omega
  · unfold aFd aK at h; omega
theorem RR_w {A : rS} {μ μ' : mM} (h : RR A μ) (hf : wfr μ μ') : RR A μ' := by
  refine ⟨by rw [hf.1 6 n6]; exact h.1, fun k hk => by rw [(hf.2.2 6 k n6).2]; exact h.s k hk, fun k hk => ⟨by rw [(hf.2.2 6 k n6).1]; exact h.q k hk, by rw [hf.1 _ nk]; exact h.h k hk, fun i hi => by rw [(hf.2.2 _ i nk).2]; exact h.a k hk hi⟩⟩
