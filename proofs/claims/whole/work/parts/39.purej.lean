/-! runs of units, a new object: functions and what they keep -/
theorem KK_0 {A : rS} {P G : Nat → Prop} {v : Int} (h : KK A P G) (hv : 0 ≤ v ∧ v ≤ 2) : KK (up A 0 0 v) P G := ⟨⟨h.1.1.u0 0 hv, h.1.2⟩, h.2⟩
theorem KK_17 {A : rS} {P G : Nat → Prop} (h : KK A P G) : A 17 0 < 590 := by have := h.2.1.le h.1; have := h.1.2.2.2.2; omega
theorem KK_19 {A : rS} {P G : Nat → Prop} (h : KK A P G) (h18 : A 18 0 = 3) : A 19 0 < 16 := by have := h.2.2.2.1.2.1 h18; have := h.1.1.b1 0; omega
theorem run_0 {B : rS} (h : B 18 0 ≤ 0) : ∀ f : Nat, rRun f B = B := by
  intro f
  cases f with
  | zero => rfl
  | succ f => rw [rRun, if_pos h]
theorem run_s {B : rS} {f : Nat} (hf : 0 < f) (h : ¬ B 18 0 ≤ 0) : rRun f B = rRun (f - 1) (rUnit B) := by
  cases f with
  | zero => omega
  | succ f => rw [rRun, if_neg h]; rfl
def rBegin (A : rS) : rS := if A 18 0 ≤ 0 then rStart (up A 0 0 0) else up A 0 0 0
def rBeginV (A : rS) : Int := bZ (A 18 0 ≤ 0)
def rWork (A : rS) (n : Int) : rS := if 0 ≤ n ∧ n ≤ 10000 then rRun n.toNat (up A 0 0 0) else up A 0 0 1
def rWorkV (A : rS) (n : Int) : Int := if 0 ≤ n ∧ n ≤ 10000 then rRun n.toNat (up A 0 0 0) 18 0 else 0
def rFr (A : rS) : Nat → Int → Int → Int
  | 0, _, n => n
  | f + 1, x, n => if A 1 0 ≤ x then n else rFr A f (x + 1) (if A 3 x.toNat = 0 then n + 1 else n)
def rFree (A : rS) : Int := rFr A 20 0 0
def rCollect (A : rS) : rS := rWhole (up A 0 0 0)
/-- the fields of a new object -/
def rFld (o c : Int) : Nat → Int → rS → rS
  | 0, _, A => A
  | f + 1, x, A => if c ≤ x then A else rFld o c f (x + 1) (up A 11 (21 * o + x).toNat (-1))
def rPut1 (B : rS) (c t : Int) : rS := up (up (up (up (up (up B 6 0 (B 6 0 + 1)) 7 (B 6 0).toNat (rWith B 1)) 8 (B 6 0).toNat (B 4 (rWith B 1).toNat)) 9 (B 6 0).toNat (c + 2)) 4 (rWith B 1).toNat (B 4 (rWith B 1).toNat + (c + 2))) 10 (B 6 0).toNat t
def rPut (B : rS) (r c t : Int) : rS := up (up (up (rFld (B 6 0) c 30 0 (rPut1 B c t)) 12 (B 6 0).toNat (bZ (0 < B 18 0))) 13 (B 6 0).toNat 0) 14 r.toNat (B 6 0)
abbrev rAllocOk (r c : Int) : Prop := rReg r ∧ 0 ≤ c ∧ c ≤ 20
/-- the state in which room was looked for the last time -/
def rAl1 (A : rS) (c : Int) : rS := if rHasV (up A 0 0 0) (c + 2) = 1 then rHas (up A 0 0 0) (c + 2) else rHas (rWhole (rHas (up A 0 0 0) (c + 2))) (c + 2)
def rAlV (A : rS) (c : Int) : Int := if rHasV (up A 0 0 0) (c + 2) = 1 then 1 else rHasV (rWhole (rHas (up A 0 0 0) (c + 2))) (c + 2)
def rAlloc (A : rS) (r c t : Int) : rS := if rAllocOk r c then (if rAlV A c = 1 then rPut (rAl1 A c) r c t else rAl1 A c) else up A 0 0 (if rReg r then 2 else 1)
def rAllocV (A : rS) (r c t : Int) : Int := if rAllocOk r c then (if rAlV A c = 1 then rPlace (rPut (rAl1 A c) r c t) (rAl1 A c 6 0) else -1) else 0
theorem rHasV_b (A : rS) (n : Int) : rHasV A n = 0 ∨ rHasV A n = 1 := by unfold rHasV; repeat' split <;> omega
theorem rFr_b {A : rS} : ∀ (f : Nat) (x n : Int), n ≤ rFr A f x n ∧ rFr A f x n ≤ n + f := by
  intro f
  induction f with
  | zero => intro x n; simp [rFr]
  | succ f ih =>
    intro x n
    rw [rFr]
    split
    · omega
    · generalize hg : (if A 3 x.toNat = 0 then n + 1 else n) = w
      have hw : n ≤ w ∧ w ≤ n + 1 := by rw [← hg]; split <;> omega
      have h1 := ih (x + 1) w
      omega
/-- the state of a region that is free, active or closed becomes another such one -/
theorem st_KK {A : rS} {P G : Nat → Prop} {r : Nat} {v : Int} (h : KK A P G) (hr : (r : Int) < A 1 0) (ho : A 3 r = 0 ∨ A 3 r = 1) (hv : v = 3 ∨ (v = 1 ∧ ∀ q : Nat, (q : Int) < A 1 0 → A 3 q ≠ 1)) (hv3 : v = 3 → A 3 r = 1) : KK (up A 3 r v) P G := by
  obtain ⟨hV, hR, ⟨s1, s2, s3⟩, ⟨p1, p2, p3, p4, p5, p6⟩, ⟨q1, q2, q3⟩, hg, ht⟩ := h
  have e : ∀ k i, k ≠ 3 → up A 3 r v k i = A k i := fun k i hk => up_k _ _ hk
  have e3 : ∀ i, up A 3 r v 3 i = if i = r then v else A 3 i := fun i => by simp [up]
  refine ⟨⟨hV.1.u3 _ (by omega), hV.2⟩, hR, ⟨?_, ?_, ?_⟩, ⟨p1, p2, ?_, p4, ?_, ?_⟩, ⟨?_, q2, q3⟩, hg, ht⟩
  · intro i
    rw [e3, e _ _ (by decide)]
    split
    · intro w; omega
    · exact s1 i
  · intro a b ha hb
    rw [e3, e3]
    rw [e _ _ (by decide)] at ha hb
    split <;> split
    · intro _ _; omega
    · intro w1 w2
      rcases hv with w | w
      · omega
      · exact absurd w2 (w.2 b hb)
    · intro w1 w2
      rcases hv with w | w
      · omega
      · exact absurd w1 (w.2 a ha)
    · exact s2 a b ha hb
  · intro a b ha hb
    rw [e3, e3]
    rw [e _ _ (by decide)] at ha hb
    split <;> split
    · intro _ _; omega
    · intro w1; omega
    · intro _ w1; omega
    · exact s3 a b ha hb
  · intro w a ha
    rw [e3]
    rw [e _ _ (by decide)] at ha w
    split
    · omega
    · exact p3 w a ha
  · intro w o hn h13
    rw [e 7 _ (by decide), e3, e 5 _ (by decide)]
    split
    · intro w1; omega
    · exact p5 w o hn h13
  · intro w o hn h12
    rw [e 7 _ (by decide), e3, e 13 _ (by decide)]
    split
    · intro w1; omega
    · exact p6 w o hn h12
  · intro o hp
    obtain ⟨a1, a2, a3⟩ := q1 o hp
    refine ⟨a1, ?_, a3⟩
    rw [e 7 _ (by decide), e3]
    split
    · omega
    · exact a2
theorem has1_KK {A : rS} {P G : Nat → Prop} {n : Int} (h : KK A P G) (hn : ¬ (rWith A 1 ≠ -1 ∧ A 4 (rWith A 1).toNat + n ≤ 128)) : KK (rHas1 A n) P G ∧ ∀ q : Nat, (q : Int) < rHas1 A n 1 0 → rHas1 A n 3 q ≠ 1 := by
  unfold rHas1
  split
  · rename_i w
    have hw := rWith_some w.1
    refine ⟨st_KK h (by omega) (Or.inr hw.2.2) (Or.inl rfl) (fun _ => hw.2.2), fun q hq => ?_⟩
    rw [up_k _ _ (by decide)] at hq
    by_cases e : q = (rWith A 1).toNat
    · rw [e, up_s]; decide
    · rw [up_i _ e]
      intro w2
      exact e (h.2.2.1.2.1 q (rWith A 1).toNat hq (by omega) w2 hw.2.2)
  · rename_i w
    refine ⟨h, fun q hq => ?_⟩
    by_cases e : rWith A 1 = -1
    · exact rWith_none h.1.1 e q hq
    · exact absurd (⟨e, by omega⟩ : rWith A 1 ≠ -1 ∧ _) (fun w2 => hn ⟨e, by have := fun w3 => w ⟨e, w3⟩; omega⟩)
theorem has_KK {A : rS} {P G : Nat → Prop} {n : Int} (h : KK A P G) : KK (rHas A n) P G := by
  unfold rHas
  split
  · exact h
  · rename_i hn
    obtain ⟨h1, h2⟩ := has1_KK h hn
    unfold rHas2
    split
    · exact h1
    · rename_i w
      have hw := rWith_some w
      exact st_KK h1 (by omega) (Or.inl hw.2.2) (Or.inr ⟨rfl, h2⟩) (fun q => absurd q (by decide))
theorem has_k {A : rS} {n : Int} (k i : Nat) (hk : k ≠ 3) : rHas A n k i = A k i := by
  unfold rHas rHas2 rHas1
  repeat' split
  all_goals first | rfl | (rw [up_k _ _ hk]; done) | (rw [up_k _ _ hk, up_k _ _ hk])
theorem has_act {A : rS} {P G : Nat → Prop} {n : Int} (h : KK A P G) (hn : n ≤ 22) (hv : rHasV A n = 1) : rWith (rHas A n) 1 ≠ -1 ∧ rHas A n 4 (rWith (rHas A n) 1).toNat + n ≤ 128 := by
  unfold rHasV at hv
  unfold rHas
  by_cases w : rWith A 1 ≠ -1 ∧ A 4 (rWith A 1).toNat + n ≤ 128
  · rw [if_pos w]; exact w
  · rw [if_neg w] at hv ⊢
    obtain ⟨h1, h2⟩ := has1_KK h w
    unfold rHas2
    by_cases w2 : rWith (rHas1 A n) 0 = -1
    · rw [if_pos w2] at hv; omega
    · rw [if_neg w2]
      have hw := rWith_some w2
      have hB := st_KK h1 (r := (rWith (rHas1 A n) 0).toNat) (v := 1) (by omega) (Or.inl hw.2.2) (Or.inr ⟨rfl, h2⟩) (fun q => absurd q (by decide))
      have k1 : rWith (up (rHas1 A n) 3 (rWith (rHas1 A n) 0).toNat 1) 1 ≠ -1 := fun q => rWith_none hB.1.1 q (rWith (rHas1 A n) 0).toNat (by rw [up_k _ _ (by decide)]; omega) (up_s _ _ _ _)
      refine ⟨k1, ?_⟩
      have k2 := rWith_some k1
      generalize rWith (up (rHas1 A n) 3 (rWith (rHas1 A n) 0).toNat 1) 1 = y at k2 ⊢
      rw [up_k _ _ (by decide)] at k2 ⊢
      by_cases e : y.toNat = (rWith (rHas1 A n) 0).toNat
      · rw [e, h1.2.2.1.1 _ hw.2.2]; omega
      · rw [up_i _ e] at k2
        exact absurd k2.2.2 (h2 y.toNat (by omega))
/-! what units never touch -/
abbrev fixk (k : Nat) : Prop := k = 0 ∨ k = 1 ∨ k = 2 ∨ k = 6 ∨ k = 9 ∨ k = 10 ∨ k = 11 ∨ k = 14
theorem choose_k : ∀ (f : Nat) (x : Int) (A : rS) (k i : Nat), k ≠ 3 → k ≠ 5 → rChoose f x A k i = A k i := by
  intro f
  induction f with
  | zero => intro x A k i _ _; rfl
  | succ f ih =>
    intro x A k i h3 h5
    rw [rChoose]
    split
    · rfl
    · rw [ih _ _ _ _ h3 h5, up_k _ _ h3, up_k _ _ h5]
theorem unit_fix {A : rS} {k : Nat} (i : Nat) (hk : fixk k) : rUnit A k i = A k i := by
  unfold fixk at hk
  unfold rUnit
  split
  · unfold rMark
    split
    · rw [up_k _ _ (by omega), choose_k _ _ _ _ _ (by omega) (by omega)]
    · exact mark1_k k i (by omega) (by omega) (by omega) (by omega)
  · split
    · unfold rMoveOne
      split
      · rw [up_k _ _ (by omega), up_k _ _ (by omega)]
      · exact rCarry_k (by omega) (by omega) (by omega) (by omega) (by omega) (by omega) (by omega) (by omega)
    · split
      · unfold rUpdate
        split
        · rw [up_k _ _ (by omega)]
        · rw [up_k _ _ (by omega), rEnd_k _ _ _ _ _ (by omega) (by omega), up_k _ _ (by omega)]
      · rfl
theorem run_fix {k : Nat} (i : Nat) (hk : fixk k) : ∀ (f : Nat) (A : rS), rRun f A k i = A k i := by
  intro f
  induction f with
  | zero => intro A; rfl
  | succ f ih =>
    intro A
    rw [rRun]
    split
    · rfl
    · rw [ih, unit_fix i hk]
theorem start_fix {A : rS} {k : Nat} (i : Nat) (hk : fixk k) : rStart A k i = A k i := by
  unfold fixk at hk
  exact start_e k i (by omega) (by omega) (by omega) (by omega) (by omega) (by omega)
theorem whole_fix {A : rS} {k : Nat} (i : Nat) (hk : fixk k) : rWhole A k i = A k i := by
  unfold rWhole rFin
  rw [run_fix i hk, start_fix i hk, run_fix i hk]
theorem al1_6 {A : rS} {c : Int} : rAl1 A c 6 0 = A 6 0 := by
  unfold rAl1
  split
  · rw [has_k _ _ (by decide), up_k _ _ (by decide)]
  · rw [has_k _ _ (by decide), whole_fix 0 (by decide), has_k _ _ (by decide), up_k _ _ (by decide)]
