/-! the state in which a cycle looks at its registers -/
theorem start_KM {A : rS} {P G : Nat → Prop} (h : KK A P G) : KM (up (up (rClr 700 0 A) 16 0 0) 17 0 0) P (rch A) (GE (up (up (rClr 700 0 A) 16 0 0) 17 0 0) 0) := by
  obtain ⟨hV, hR, ⟨s1, s2, s3⟩, ⟨p1, p2, p3, p4, p5, p6⟩, ⟨q1, q2, q3⟩, hg, ⟨t1, t2⟩⟩ := h
  have b6 := hV.1.b6 0
  have hle := hR.le hV
  generalize hB : up (up (rClr 700 0 A) 16 0 0) 17 0 0 = B
  have e : ∀ k i, k ≠ 12 → k ≠ 13 → k ≠ 16 → k ≠ 17 → B k i = A k i := fun k i k1 k2 k3 k4 => by rw [← hB, up_k _ _ k4, up_k _ _ k3, rClr_k _ _ _ _ _ k1 k2]
  have e12 : ∀ o, o < nn A → B 12 o = 0 := fun o ho => by
    unfold nn at ho
    rw [← hB, up_k _ _ (by decide), up_k _ _ (by decide), rClr_z 700 0 A 12 (Or.inl rfl) (by omega) (by omega), if_pos (by omega)]
  have e13 : ∀ o, o < nn A → B 13 o = 0 := fun o ho => by
    unfold nn at ho
    rw [← hB, up_k _ _ (by decide), up_k _ _ (by decide), rClr_z 700 0 A 13 (Or.inr rfl) (by omega) (by omega), if_pos (by omega)]
  have e16 : B 16 0 = 0 := by rw [← hB, up_k _ _ (by decide), up_s]
  have e17 : B 17 0 = 0 := by rw [← hB, up_s]
  have e1 := e 1 0 (by decide) (by decide) (by decide) (by decide)
  have e6 := e 6 0 (by decide) (by decide) (by decide) (by decide)
  have en : nn B = nn A := by unfold nn; rw [e6]
  have hI : RI B := by
    have h1 : RI (rClr 700 0 A) := by
      refine RI_of hV.1 (fun k i hk => ?_)
      by_cases w : k = 12 ∨ k = 13
      · rw [rClr_z 700 0 A k w (by omega) (by omega)]
        split
        · right; rcases w with rfl | rfl <;> decide
        · exact Or.inl rfl
      · exact Or.inl (rClr_k _ _ _ _ _ (fun q => w (Or.inl q)) (fun q => w (Or.inr q)))
    rw [← hB]
    exact (h1.u16 0 (by omega)).u17 0 (by omega)
  have sub : ∀ o, rch A o → G o := fun o ho => ho G hg.2.1 (fun x i hx hi hf => hg.2.2 x i hx hi hf)
  have rregs : ∀ k : Nat, k < 10 → 0 ≤ A 14 k → rch A (A 14 k).toNat := fun k hk h0 T c1 c2 => c1 k hk h0
  have rcl : ∀ o i : Nat, rch A o → (i : Int) < A 9 o - 2 → 0 ≤ A 11 (21 * o + i) → rch A (A 11 (21 * o + i)).toNat := fun o i ho hi hf T c1 c2 => c2 o i (ho T c1 c2) hi hf
  have hM : KM B P (rch A) (GE B 0) := by
    refine ⟨⟨hI, ?_, ?_, ?_, ?_⟩, ⟨?_, ?_, ?_⟩, ⟨?_, ?_, ?_⟩, ⟨?_, ?_, ?_⟩, ⟨?_, ?_, ?_⟩, ?_, ?_⟩
    · intro o ho
      rw [en] at ho
      rw [e 9 _ (by decide) (by decide) (by decide) (by decide), e 7 _ (by decide) (by decide) (by decide) (by decide), e1]; exact hV.2.1 o ho
    · intro o i ho
      rw [en] at ho
      rw [e 9 _ (by decide) (by decide) (by decide) (by decide), e 11 _ (by decide) (by decide) (by decide) (by decide), e6]; exact hV.2.2.1 o i ho
    · intro k; rw [e 14 _ (by decide) (by decide) (by decide) (by decide), e6]; exact hV.2.2.2.1 k
    · rw [e6]; exact hV.2.2.2.2
    · rw [e16, e17]; omega
    · intro i hi; rw [e17] at hi; omega
    · intro i j hi; rw [e17] at hi; omega
    · intro r; rw [e 3 _ (by decide) (by decide) (by decide) (by decide), e 4 _ (by decide) (by decide) (by decide) (by decide)]; exact s1 r
    · intro r q; rw [e1, e 3 _ (by decide) (by decide) (by decide) (by decide), e 3 _ (by decide) (by decide) (by decide) (by decide)]; exact s2 r q
    · intro r q; rw [e1, e 3 _ (by decide) (by decide) (by decide) (by decide), e 3 _ (by decide) (by decide) (by decide) (by decide)]; exact s3 r q
    · intro o ho
      rw [en, e 7 _ (by decide) (by decide) (by decide) (by decide), e 3 _ (by decide) (by decide) (by decide) (by decide), e 8 _ (by decide) (by decide) (by decide) (by decide), e 9 _ (by decide) (by decide) (by decide) (by decide), e 4 _ (by decide) (by decide) (by decide) (by decide)]; exact q1 o ho
    · intro o ho h12
      rw [en] at ho
      rw [e12 o ho] at h12
      omega
    · intro a b; rw [e 7 _ (by decide) (by decide) (by decide) (by decide), e 7 _ (by decide) (by decide) (by decide) (by decide), e 8 _ (by decide) (by decide) (by decide) (by decide), e 8 _ (by decide) (by decide) (by decide) (by decide)]; exact q3 a b
    · intro o ho; exact hg.1 o (sub o ho)
    · intro k; rw [e 14 _ (by decide) (by decide) (by decide) (by decide)]; exact rregs k
    · intro o i; rw [e 9 _ (by decide) (by decide) (by decide) (by decide), e 11 _ (by decide) (by decide) (by decide) (by decide)]; exact rcl o i
    · intro o ho h12
      rw [en] at ho
      rw [e12 o ho] at h12
      omega
    · intro o ho
      right
      intro T c1 c2 c3
      refine (ho (fun x => T x ∧ G x) (fun k hk h0 => ⟨c2 _ ⟨k, by omega, hk, ?_, ?_⟩, hg.2.1 k hk h0⟩) (fun x i hx hi hf => ⟨?_, hg.2.2 x i hx.2 hi hf⟩)).1
      · rw [e 14 _ (by decide) (by decide) (by decide) (by decide)]; exact h0
      · rw [e 14 _ (by decide) (by decide) (by decide) (by decide)]
      · have c4 := c3 x hx.1 (Or.inl (e12 x (q1 x (hg.1 x hx.2)).1)) i
        rw [e 9 _ (by decide) (by decide) (by decide) (by decide), e 11 _ (by decide) (by decide) (by decide) (by decide)] at c4
        exact c4 hi hf
  exact hM
theorem KM_18 {A : rS} {P G E : Nat → Prop} {v : Int} (h : KM A P G E) (hv : 0 ≤ v ∧ v ≤ 3) : KM (up A 18 0 v) P G E := ⟨⟨h.1.1.u18 0 hv, h.1.2⟩, h.2⟩
theorem up_18 (A : rS) (k i : Nat) (v w : Int) (hk : k ≠ 18) : up (up A 18 0 v) k i w = up (up A k i w) 18 0 v := by
  funext k' i'
  unfold up
  by_cases e1 : k' = k ∧ i' = i
  · rw [if_pos e1, if_neg (fun q => hk (by omega)), if_pos e1]
  · rw [if_neg e1, if_neg e1]
theorem see_18 (A : rS) (x v : Int) : rSee (up A 18 0 v) x = up (rSee A x) 18 0 v := by
  unfold rSee
  rw [up_k _ _ (by decide), up_k _ _ (by decide)]
  split
  · rfl
  · split
    · rw [up_18 _ _ _ _ _ (by decide), up_18 _ _ _ _ _ (by decide), up_18 _ _ _ _ _ (by decide)]
    · rfl
theorem seeR_18 (v : Int) : ∀ (f : Nat) (x : Int) (A : rS), rSeeR f x (up A 18 0 v) = up (rSeeR f x A) 18 0 v := by
  intro f
  induction f with
  | zero => intro x A; rfl
  | succ f ih =>
    intro x A
    rw [rSeeR, rSeeR]
    split
    · rfl
    · rw [up_k _ _ (by decide), see_18, ih]
/-- the state behind the first steps of a beginning cycle -/
def rSt0 (A : rS) : rS := up (up (up (rClr 700 0 A) 16 0 0) 17 0 0) 18 0 1
theorem start_eq (A : rS) : rStart A = rSeeR 20 0 (rSt0 A) := by
  unfold rSt0
  rw [seeR_18]
  rfl
theorem st0_KM {A : rS} {P G : Nat → Prop} (h : KK A P G) : KM (rSt0 A) P (rch A) (GE (rSt0 A) 0) := KM_18 (start_KM h) (by omega)
theorem seeR_step {P G : Nat → Prop} {x : Int} {A : rS} (hx : 0 ≤ x ∧ x < 10) (h : KM A P G (GE A x)) : KM (rSee A (A 14 x.toNat)) P G (GE (rSee A (A 14 x.toNat)) (x + 1)) := by
  have hV := h.1
  have h14 := hV.1.b14 x.toNat
  have e : GE (rSee A (A 14 x.toNat)) (x + 1) = GE A (x + 1) := by
    funext y
    unfold GE
    congr
    funext j
    rw [see_k 14 _ (by decide) (by decide) (by decide)]
  rw [e]
  refine see_KM h14.1 (fun h0 => h.2.2.2.2.1.2.1 x.toNat (by omega) h0) ?_
  obtain ⟨hV, hR, hS, hP, hg, hs, ht⟩ := h
  refine ⟨hV, hR, hS, hP, hg, hs, ht.mono (fun y hy => ?_)⟩
  obtain ⟨j, j1, j2, j3, j4⟩ := hy
  by_cases e : (j : Int) = x
  · right
    have ej : j = x.toNat := by omega
    rw [ej] at j3 j4
    exact ⟨j3, j4⟩
  · left
    exact ⟨j, by omega, j2, j3, j4⟩
theorem seeF_step {P G : Nat → Prop} {o x : Int} {A : rS} (ho : 0 ≤ o) (hG : G o.toNat) (hx : 0 ≤ x ∧ x < A 9 o.toNat - 2) (h : KM A P G (FE A o.toNat x)) : KM (rSee A (A 11 (21 * o + x).toNat)) P G (FE (rSee A (A 11 (21 * o + x).toNat)) o.toNat (x + 1)) := by
  have hV := h.1
  have ex : (21 * o + x).toNat = 21 * o.toNat + x.toNat := by omega
  have h11 := hV.1.b11 (21 * o + x).toNat
  have e : FE (rSee A (A 11 (21 * o + x).toNat)) o.toNat (x + 1) = FE A o.toNat (x + 1) := by
    funext y
    unfold FE
    rw [see_k 9 _ (by decide) (by decide) (by decide)]
    congr
    funext j
    rw [see_k 11 _ (by decide) (by decide) (by decide)]
  rw [e]
  refine see_KM h11.1 (fun h0 => ?_) ?_
  · rw [ex] at h0 ⊢
    exact h.2.2.2.2.1.2.2 o.toNat x.toNat hG (by omega) h0
  · obtain ⟨hV, hR, hS, hP, hg, hs, ht⟩ := h
    refine ⟨hV, hR, hS, hP, hg, hs, ht.mono (fun y hy => ?_)⟩
    obtain ⟨j, j1, j2, j3, j4⟩ := hy
    by_cases e : (j : Int) = x
    · right
      have ej : 21 * o.toNat + j = (21 * o + x).toNat := by omega
      rw [ej] at j3 j4
      exact ⟨j3, j4⟩
    · left
      exact ⟨j, by omega, j2, j3, j4⟩
