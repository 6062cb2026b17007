/-! marking -/
def KM (A : rS) (P G E : Nat → Prop) : Prop := Vd A ∧ Rw A ∧ Sg A ∧ Pl A P ∧ Gd A P G ∧ (∀ o, o < nn A → A 12 o = 1 → G o) ∧ TC A G E
theorem TC.mono {A : rS} {G E E' : Nat → Prop} (h : TC A G E) (he : ∀ x, E x → E' x) : TC A G E' := fun o ho => (h o ho).imp id (fun q T t1 t2 t3 => q T t1 (fun x hx => t2 x (he x hx)) t3)
theorem see_KM {A : rS} {P G E : Nat → Prop} {x : Int} (hx : -1 ≤ x) (hG : 0 ≤ x → G x.toNat) (h : KM A P G (fun y => E y ∨ (0 ≤ x ∧ y = x.toNat))) : KM (rSee A x) P G E := by
  obtain ⟨hV, hR, hS, hP, hg, hs, ht⟩ := h
  rcases (show x < 0 ∨ 0 ≤ x by omega) with h0 | h0
  · have : x = -1 := by omega
    rw [rSee_n (Or.inl this)]
    exact ⟨hV, hR, hS, hP, hg, hs, ht.mono (fun y hy => hy.elim id (fun q => absurd q.1 (by omega)))⟩
  · have gx := hG h0
    have px := hg.1 _ gx
    have xn := (hP.1 _ px).1
    have h6 := hV.1.b6 0
    have xl : x < A 6 0 := by unfold nn at xn; omega
    have e : ∀ k i, k ≠ 12 → k ≠ 15 → k ≠ 17 → rSee A x k i = A k i := fun k i => see_k k i
    have e12 : ∀ o, rSee A x 12 o = 1 → A 12 o = 1 ∨ o = x.toNat := fun o ho => by
      rcases rSee_c (A := A) x with ⟨h1, h2⟩ | h1
      · rw [see12 h1 h2] at ho
        split at ho
        · right; assumption
        · left; exact ho
      · rw [rSee_n h1] at ho
        exact Or.inl ho
    refine ⟨see_Vd hV hR ⟨hx, xl⟩, see_Rw hV hR ⟨hx, xl⟩, ?_, ?_, ?_, ?_, ?_⟩
    · obtain ⟨s1, s2, s3⟩ := hS
      refine ⟨fun r => ?_, fun r q => ?_, fun r q => ?_⟩
      · rw [e 3 r (by decide) (by decide) (by decide), e 4 r (by decide) (by decide) (by decide)]; exact s1 r
      · rw [e 3 r (by decide) (by decide) (by decide), e 3 q (by decide) (by decide) (by decide), e 1 0 (by decide) (by decide) (by decide)]; exact s2 r q
      · rw [e 3 r (by decide) (by decide) (by decide), e 3 q (by decide) (by decide) (by decide), e 1 0 (by decide) (by decide) (by decide)]; exact s3 r q
    · obtain ⟨p1, p2, p3⟩ := hP
      refine ⟨fun o ho => ?_, fun o ho h12 => ?_, fun o q ho hq => ?_⟩
      · rw [see_nn, e 7 o (by decide) (by decide) (by decide), e 3 _ (by decide) (by decide) (by decide), e 8 _ (by decide) (by decide) (by decide), e 9 _ (by decide) (by decide) (by decide), e 4 _ (by decide) (by decide) (by decide)]; exact p1 o ho
      · rw [see_nn] at ho
        rcases e12 o h12 with h3 | rfl
        · exact p2 o ho h3
        · exact px
      · rw [e 7 o (by decide) (by decide) (by decide), e 7 q (by decide) (by decide) (by decide), e 8 _ (by decide) (by decide) (by decide), e 8 _ (by decide) (by decide) (by decide)]; exact p3 o q ho hq
    · obtain ⟨g1, g2, g3⟩ := hg
      refine ⟨g1, fun k hk => ?_, fun o i ho => ?_⟩
      · rw [e 14 _ (by decide) (by decide) (by decide)]; exact g2 k hk
      · rw [e 9 _ (by decide) (by decide) (by decide), e 11 _ (by decide) (by decide) (by decide)]; exact g3 o i ho
    · intro o ho h12
      rw [see_nn] at ho
      rcases e12 o h12 with h3 | rfl
      · exact hs o ho h3
      · exact gx
    · exact see_TC hV.1 h0 hR.1 (ht.mono (fun y hy => hy.imp id (fun q => q.2)))
/-- the fields of o from i on -/
def FE (A : rS) (o : Nat) (i : Int) : Nat → Prop := fun y => ∃ j : Nat, i ≤ j ∧ (j : Int) < A 9 o - 2 ∧ 0 ≤ A 11 (21 * o + j) ∧ y = (A 11 (21 * o + j)).toNat
theorem seeF_KM {P G : Nat → Prop} {o : Int} (ho : 0 ≤ o) (hG : G o.toNat) : ∀ (f : Nat) (x : Int) (A : rS), 0 ≤ x → (f : Int) + x = 30 → KM A P G (FE A o.toNat x) → KM (rSeeF o f x A) P G (fun _ => False) := by
  intro f
  induction f with
  | zero =>
    intro x A hx hf h
    obtain ⟨hV, hR, hS, hP, hg, hs, ht⟩ := h
    have h9 := hV.1.b9 o.toNat
    exact ⟨hV, hR, hS, hP, hg, hs, ht.mono (fun y hy => by obtain ⟨j, j1, j2, -⟩ := hy; omega)⟩
  | succ f ih =>
    intro x A hx hf h
    have hV := h.1
    rw [rSeeF]
    split
    · obtain ⟨hV, hR, hS, hP, hg, hs, ht⟩ := h
      exact ⟨hV, hR, hS, hP, hg, hs, ht.mono (fun y hy => by obtain ⟨j, j1, j2, -⟩ := hy; omega)⟩
    · rename_i hn
      have ex : (21 * o + x).toNat = 21 * o.toNat + x.toNat := by omega
      have h11 := hV.1.b11 (21 * o + x).toNat
      have key : KM (rSee A (A 11 (21 * o + x).toNat)) P G (FE A o.toNat (x + 1)) := by
        refine see_KM h11.1 (fun h0 => ?_) ?_
        · rw [ex] at h0 ⊢
          exact h.2.2.2.2.1.2.2 o.toNat x.toNat hG (by omega) h0
        · obtain ⟨hV, hR, hS, hP, hg, hs, ht⟩ := h
          refine ⟨hV, hR, hS, hP, hg, hs, ht.mono (fun y hy => ?_)⟩
          obtain ⟨j, j1, j2, j3, j4⟩ := hy
          by_cases e : (j : Int) = x
          · right
            have ej : 21 * o.toNat + j = (21 * o + x).toNat := by omega
            rw [ej] at j3 j4
            exact ⟨j3, j4⟩
          · left
            exact ⟨j, by omega, j2, j3, j4⟩
      refine ih (x + 1) _ (by omega) (by omega) ?_
      have e : FE (rSee A (A 11 (21 * o + x).toNat)) o.toNat (x + 1) = FE A o.toNat (x + 1) := by
        funext y
        unfold FE
        rw [see_k 9 _ (by decide) (by decide) (by decide)]
        congr
        funext j
        rw [see_k 11 _ (by decide) (by decide) (by decide)]
      rw [e]
      exact key
/-- the first one that waits is taken out -/
theorem pop_KM {A : rS} {P G : Nat → Prop} (h : KM A P G (fun _ => False)) (hr : A 16 0 < A 17 0) : KM (up A 16 0 (A 16 0 + 1)) P G (FE (up A 16 0 (A 16 0 + 1)) (A 15 (A 16 0).toNat).toNat 0) ∧ 0 ≤ A 15 (A 16 0).toNat ∧ G (A 15 (A 16 0).toNat).toNat := by
  obtain ⟨hV, hR, hS, hP, hg, hs, ht⟩ := h
  have h16 := hV.1.b16 0
  have h17 := hV.1.b17 0
  have h15 := hV.1.b15 (A 16 0).toNat
  have h6 := hV.1.b6 0
  have hrow := hR.2.1 (A 16 0).toNat (by omega)
  have hle := hR.le hV
  have e : ∀ k i, k ≠ 16 → up A 16 0 (A 16 0 + 1) k i = A k i := fun k i hk => up_k A i hk
  have en : nn (up A 16 0 (A 16 0 + 1)) = nn A := by unfold nn; rw [e 6 0 (by decide)]
  refine ⟨⟨⟨hV.1.u16 0 (by omega), ?_⟩, ?_, hS, ?_, hg, ?_, ?_⟩, h15.1, hs _ (by unfold nn; omega) hrow.2⟩
  · exact hV.2
  · refine ⟨?_, hR.2⟩
    rw [up_s, e 17 0 (by decide)]
    omega
  · exact hP
  · exact hs
  · intro o ho
    rcases ht o ho with h1 | h1
    · exact Or.inl h1
    · by_cases eo : o = (A 15 (A 16 0).toNat).toNat
      · left
        show A 12 o = 1
        rw [eo]; exact hrow.2
      · right
        intro T t1 t2 t3
        have gold : ∀ x, gry A x → gry (up A 16 0 (A 16 0 + 1)) x ∨ x = (A 15 (A 16 0).toNat).toNat := by
          rintro x ⟨i, i1, i2, i3⟩
          by_cases ei : (i : Int) = A 16 0
          · right
            have : i = (A 16 0).toNat := by omega
            rw [this] at i3
            omega
          · left
            refine ⟨i, ?_, i2, i3⟩
            rw [up_s]
            omega
        have h2 := h1 (fun y => T y ∨ y = (A 15 (A 16 0).toNat).toNat) (fun x hx => (gold x hx).imp (t1 x) id) (fun _ q => q.elim) (fun x hx hn i hi hf => ?_)
        · exact h2.resolve_right eo
        · left
          by_cases ex : x = (A 15 (A 16 0).toNat).toNat
          · refine t2 _ ⟨i, by omega, ?_, ?_, ?_⟩
            · rw [e 9 _ (by decide), ← ex]; exact hi
            · rw [e 11 _ (by decide), ← ex]; exact hf
            · rw [e 11 _ (by decide), ← ex]
          · have hx : T x := hx.resolve_right ex
            refine t3 x hx ?_ i hi hf
            rcases hn with hn | hn
            · exact Or.inl hn
            · exact Or.inr ((gold x hn).resolve_right ex)
