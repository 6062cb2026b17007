/-! a cycle begins -/
theorem rClr_k : ∀ (f : Nat) (x : Int) (A : rS) (k i : Nat), k ≠ 12 → k ≠ 13 → rClr f x A k i = A k i := by
  intro f
  induction f with
  | zero => intro x A k i _ _; rfl
  | succ f ih =>
    intro x A k i h3 h4
    rw [rClr]
    split
    · rfl
    · rw [ih _ _ _ _ h3 h4, up_k _ _ h4, up_k _ _ h3]
theorem rClr_z : ∀ (f : Nat) (x : Int) (A : rS) (k : Nat), (k = 12 ∨ k = 13) → 0 ≤ x → A 6 0 < (f : Int) + x → ∀ i : Nat, rClr f x A k i = if x ≤ i ∧ (i : Int) < A 6 0 then 0 else A k i := by
  intro f
  induction f with
  | zero =>
    intro x A k hk hx hf i
    rw [if_neg (by omega)]
    rfl
  | succ f ih =>
    intro x A k hk hx hf i
    rw [rClr]
    split
    · rw [if_neg (by omega)]
    · have e6 : (up (up A 12 x.toNat 0) 13 x.toNat 0) 6 0 = A 6 0 := rfl
      rw [ih (x + 1) _ k hk (by omega) (by rw [e6]; omega), e6]
      by_cases e : i = x.toNat
      · rw [if_neg (by omega), if_pos (by omega)]
        rcases hk with rfl | rfl
        · rw [up_k _ _ (by decide), e, up_s]
        · rw [e, up_s]
      · rw [up_i _ e, up_i _ e]
        by_cases c : x ≤ i ∧ (i : Int) < A 6 0
        · rw [if_pos (by omega), if_pos c]
        · rw [if_neg (by omega), if_neg c]
/-- the registers from k on -/
def GE (A : rS) (k : Int) : Nat → Prop := fun y => ∃ j : Nat, k ≤ j ∧ j < 10 ∧ 0 ≤ A 14 j ∧ y = (A 14 j).toNat
theorem seeR_KM {P G : Nat → Prop} : ∀ (f : Nat) (x : Int) (A : rS), 0 ≤ x → (f : Int) + x = 20 → KM A P G (GE A x) → KM (rSeeR f x A) P G (fun _ => False) := by
  intro f
  induction f with
  | zero =>
    intro x A hx hf h
    obtain ⟨hV, hR, hS, hP, hg, hs, ht⟩ := h
    exact ⟨hV, hR, hS, hP, hg, hs, ht.mono (fun y hy => by obtain ⟨j, j1, j2, -⟩ := hy; omega)⟩
  | succ f ih =>
    intro x A hx hf h
    have hV := h.1
    rw [rSeeR]
    split
    · obtain ⟨hV, hR, hS, hP, hg, hs, ht⟩ := h
      exact ⟨hV, hR, hS, hP, hg, hs, ht.mono (fun y hy => by obtain ⟨j, j1, j2, -⟩ := hy; omega)⟩
    · rename_i hn
      have h14 := hV.1.b14 x.toNat
      have key : KM (rSee A (A 14 x.toNat)) P G (GE A (x + 1)) := by
        refine see_KM h14.1 (fun h0 => ?_) ?_
        · exact h.2.2.2.2.1.2.1 x.toNat (by omega) h0
        · obtain ⟨hV, hR, hS, hP, hg, hs, ht⟩ := h
          refine ⟨hV, hR, hS, hP, hg, hs, ht.mono (fun y hy => ?_)⟩
          obtain ⟨j, j1, j2, j3, j4⟩ := hy
          by_cases e : (j : Int) = x
          · right
            have ej : j = x.toNat := by omega
            rw [ej] at j3 j4
            exact ⟨j3, j4⟩
          · left
            exact ⟨j, by omega, j2, j3, j4⟩
      refine ih (x + 1) _ (by omega) (by omega) ?_
      have e : GE (rSee A (A 14 x.toNat)) (x + 1) = GE A (x + 1) := by
        funext y
        unfold GE
        congr
        funext j
        rw [see_k 14 _ (by decide) (by decide) (by decide)]
      rw [e]
      exact key
theorem seeR_k : ∀ (f : Nat) (x : Int) (A : rS) (k i : Nat), k ≠ 12 → k ≠ 15 → k ≠ 17 → rSeeR f x A k i = A k i := by
  intro f
  induction f with
  | zero => intro x A k i _ _ _; rfl
  | succ f ih =>
    intro x A k i h1 h2 h3
    rw [rSeeR]
    split
    · rfl
    · rw [ih _ _ k i h1 h2 h3, see_k k i h1 h2 h3]
/-- what registers reach -/
def rch (A : rS) : Nat → Prop := fun o => ∀ T : Nat → Prop, (∀ k : Nat, k < 10 → 0 ≤ A 14 k → T (A 14 k).toNat) → (∀ x i : Nat, T x → (i : Int) < A 9 x - 2 → 0 ≤ A 11 (21 * x + i) → T (A 11 (21 * x + i)).toNat) → T o
theorem start_e {A : rS} (k i : Nat) (h1 : k ≠ 12) (h2 : k ≠ 13) (h3 : k ≠ 15) (h4 : k ≠ 16) (h5 : k ≠ 17) (h6 : k ≠ 18) : rStart A k i = A k i := by
  unfold rStart
  rw [up_k _ _ h6, seeR_k _ _ _ _ _ h1 h3 h5, up_k _ _ h5, up_k _ _ h4, rClr_k _ _ _ _ _ h1 h2]
theorem start_KK {A : rS} {P G : Nat → Prop} (h : KK A P G) (h18 : A 18 0 = 0) : KK (rStart A) P (rch A) := by
  obtain ⟨hV, hR, ⟨s1, s2, s3⟩, ⟨p1, p2, p3, p4, p5, p6⟩, ⟨q1, q2, q3⟩, hg, ⟨t1, t2⟩⟩ := h
  have b6 := hV.1.b6 0
  have hle := hR.le hV
  generalize hB : up (up (rClr 700 0 A) 16 0 0) 17 0 0 = B
  have e : ∀ k i, k ≠ 12 → k ≠ 13 → k ≠ 16 → k ≠ 17 → B k i = A k i := fun k i k1 k2 k3 k4 => by rw [← hB, up_k _ _ k4, up_k _ _ k3, rClr_k _ _ _ _ _ k1 k2]
  have e12 : ∀ o, o < nn A → B 12 o = 0 := fun o ho => by
    unfold nn at ho
    rw [← hB, up_k _ _ (by decide), up_k _ _ (by decide), rClr_z 700 0 A 12 (Or.inl rfl) (by omega) (by omega), if_pos (by omega)]
  have e13 : ∀ o, o < nn A → B 13 o = 0 := fun o ho => by
    unfold nn at ho
    rw [← hB, up_k _ _ (by decide), up_k _ _ (by decide), rClr_z 700 0 A 13 (Or.inr rfl) (by omega) (by omega), if_pos (by omega)]
  have e16 : B 16 0 = 0 := by rw [← hB, up_k _ _ (by decide), up_s]
  have e17 : B 17 0 = 0 := by rw [← hB, up_s]
  have e1 := e 1 0 (by decide) (by decide) (by decide) (by decide)
  have e6 := e 6 0 (by decide) (by decide) (by decide) (by decide)
  have en : nn B = nn A := by unfold nn; rw [e6]
  have hI : RI B := by
    have h1 : RI (rClr 700 0 A) := by
      refine RI_of hV.1 (fun k i hk => ?_)
      by_cases w : k = 12 ∨ k = 13
      · rw [rClr_z 700 0 A k w (by omega) (by omega)]
        split
        · right; rcases w with rfl | rfl <;> decide
        · exact Or.inl rfl
      · exact Or.inl (rClr_k _ _ _ _ _ (fun q => w (Or.inl q)) (fun q => w (Or.inr q)))
    rw [← hB]
    exact (h1.u16 0 (by omega)).u17 0 (by omega)
  have sub : ∀ o, rch A o → G o := fun o ho => ho G hg.2.1 (fun x i hx hi hf => hg.2.2 x i hx hi hf)
  have rregs : ∀ k : Nat, k < 10 → 0 ≤ A 14 k → rch A (A 14 k).toNat := fun k hk h0 T c1 c2 => c1 k hk h0
  have rcl : ∀ o i : Nat, rch A o → (i : Int) < A 9 o - 2 → 0 ≤ A 11 (21 * o + i) → rch A (A 11 (21 * o + i)).toNat := fun o i ho hi hf T c1 c2 => c2 o i (ho T c1 c2) hi hf
  have hM : KM B P (rch A) (GE B 0) := by
    refine ⟨⟨hI, ?_, ?_, ?_, ?_⟩, ⟨?_, ?_, ?_⟩, ⟨?_, ?_, ?_⟩, ⟨?_, ?_, ?_⟩, ⟨?_, ?_, ?_⟩, ?_, ?_⟩
    · intro o ho
      rw [en] at ho
      rw [e 9 _ (by decide) (by decide) (by decide) (by decide), e 7 _ (by decide) (by decide) (by decide) (by decide), e1]; exact hV.2.1 o ho
    · intro o i ho
      rw [en] at ho
      rw [e 9 _ (by decide) (by decide) (by decide) (by decide), e 11 _ (by decide) (by decide) (by decide) (by decide), e6]; exact hV.2.2.1 o i ho
    · intro k; rw [e 14 _ (by decide) (by decide) (by decide) (by decide), e6]; exact hV.2.2.2.1 k
    · rw [e6]; exact hV.2.2.2.2
    · rw [e16, e17]; omega
    · intro i hi; rw [e17] at hi; omega
    · intro i j hi; rw [e17] at hi; omega
    · intro r; rw [e 3 _ (by decide) (by decide) (by decide) (by decide), e 4 _ (by decide) (by decide) (by decide) (by decide)]; exact s1 r
    · intro r q; rw [e1, e 3 _ (by decide) (by decide) (by decide) (by decide), e 3 _ (by decide) (by decide) (by decide) (by decide)]; exact s2 r q
    · intro r q; rw [e1, e 3 _ (by decide) (by decide) (by decide) (by decide), e 3 _ (by decide) (by decide) (by decide) (by decide)]; exact s3 r q
    · intro o ho
      rw [en, e 7 _ (by decide) (by decide) (by decide) (by decide), e 3 _ (by decide) (by decide) (by decide) (by decide), e 8 _ (by decide) (by decide) (by decide) (by decide), e 9 _ (by decide) (by decide) (by decide) (by decide), e 4 _ (by decide) (by decide) (by decide) (by decide)]; exact q1 o ho
    · intro o ho h12
      rw [en] at ho
      rw [e12 o ho] at h12
      omega
    · intro a b; rw [e 7 _ (by decide) (by decide) (by decide) (by decide), e 7 _ (by decide) (by decide) (by decide) (by decide), e 8 _ (by decide) (by decide) (by decide) (by decide), e 8 _ (by decide) (by decide) (by decide) (by decide)]; exact q3 a b
    · intro o ho; exact hg.1 o (sub o ho)
    · intro k; rw [e 14 _ (by decide) (by decide) (by decide) (by decide)]; exact rregs k
    · intro o i; rw [e 9 _ (by decide) (by decide) (by decide) (by decide), e 11 _ (by decide) (by decide) (by decide) (by decide)]; exact rcl o i
    · intro o ho h12
      rw [en] at ho
      rw [e12 o ho] at h12
      omega
    · intro o ho
      right
      intro T c1 c2 c3
      refine (ho (fun x => T x ∧ G x) (fun k hk h0 => ⟨c2 _ ⟨k, by omega, hk, ?_, ?_⟩, hg.2.1 k hk h0⟩) (fun x i hx hi hf => ⟨?_, hg.2.2 x i hx.2 hi hf⟩)).1
      · rw [e 14 _ (by decide) (by decide) (by decide) (by decide)]; exact h0
      · rw [e 14 _ (by decide) (by decide) (by decide) (by decide)]
      · have c4 := c3 x hx.1 (Or.inl (e12 x (q1 x (hg.1 x hx.2)).1)) i
        rw [e 9 _ (by decide) (by decide) (by decide) (by decide), e 11 _ (by decide) (by decide) (by decide) (by decide)] at c4
        exact c4 hi hf
  have hS : rStart A = up (rSeeR 20 0 B) 18 0 1 := by rw [← hB]; rfl
  rw [hS]
  obtain ⟨hV', hR', hS', hP', hg', hs', ht'⟩ := seeR_KM 20 0 B (by omega) (by omega) hM
  have k : ∀ k i, k ≠ 12 → k ≠ 15 → k ≠ 17 → rSeeR 20 0 B k i = B k i := fun k i => seeR_k 20 0 B k i
  have k18 : (up (rSeeR 20 0 B) 18 0 1) 18 0 = 1 := up_s _ _ _ _
  refine ⟨⟨hV'.1.u18 0 (by omega), hV'.2⟩, hR', hS', ⟨?_, ?_, ?_, ?_, ?_, ?_⟩, hP', hg', ⟨fun _ => ⟨hs', ht'⟩, ?_⟩⟩
  · intro q; exact absurd k18 q
  · intro q; rw [k18] at q; omega
  · intro _ r hr
    rw [up_k _ _ (by decide), k 3 r (by decide) (by decide) (by decide), e 3 _ (by decide) (by decide) (by decide) (by decide)]
    rw [up_k _ _ (by decide), k 1 0 (by decide) (by decide) (by decide), e1] at hr
    exact p3 (by omega) r hr
  · intro _ o ho
    have ho : o < nn (rSeeR 20 0 B) := ho
    unfold nn at ho
    rw [k 6 0 (by decide) (by decide) (by decide), e6] at ho
    rw [up_k _ _ (by decide), k 13 o (by decide) (by decide) (by decide)]
    exact e13 o ho
  · intro q; rw [k18] at q; omega
  · intro q; rw [k18] at q; omega
  · intro q; rw [k18] at q; omega
