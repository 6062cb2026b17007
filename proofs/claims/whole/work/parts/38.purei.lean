/-! units come to an end -/
def cmv (A : rS) : Nat → Int
  | 0 => 0
  | m + 1 => cmv A m + (if rToMove A (m : Int) = 1 then 1 else 0)
theorem cmv_b (A : rS) : ∀ m : Nat, 0 ≤ cmv A m ∧ cmv A m ≤ m := by
  intro m
  induction m with
  | zero => simp [cmv]
  | succ m ih =>
    rw [cmv]
    split <;> omega
theorem cmv_le {A B : rS} : ∀ m : Nat, (∀ o : Nat, o < m → rToMove B (o : Int) = 1 → rToMove A (o : Int) = 1) → cmv B m ≤ cmv A m := by
  intro m
  induction m with
  | zero => intro _; exact Int.le_refl _
  | succ m ih =>
    intro h
    have h1 := ih (fun o ho => h o (by omega))
    have h2 := h m (by omega)
    rw [cmv, cmv]
    by_cases w : rToMove B (m : Int) = 1
    · rw [if_pos w, if_pos (h2 w)]; omega
    · rw [if_neg w]; split <;> omega
theorem cmv_lt {A B : rS} (o0 : Nat) (ha : rToMove A (o0 : Int) = 1) (hb : rToMove B (o0 : Int) ≠ 1) : ∀ m : Nat, o0 < m → (∀ o : Nat, o < m → rToMove B (o : Int) = 1 → rToMove A (o : Int) = 1) → cmv B m + 1 ≤ cmv A m := by
  intro m
  induction m with
  | zero => intro h; omega
  | succ m ih =>
    intro ho h
    rw [cmv, cmv]
    by_cases e : o0 = m
    · subst e
      rw [if_neg hb, if_pos ha]
      have := cmv_le (A := A) (B := B) o0 (fun o ho => h o (by omega))
      omega
    · have h1 := ih (by omega) (fun o ho => h o (by omega))
      have h2 := h m (by omega)
      by_cases w : rToMove B (m : Int) = 1
      · rw [if_pos w, if_pos (h2 w)]; omega
      · rw [if_neg w]; split <;> omega
/-- who is moved has no longer to be moved, and nobody else has now -/
theorem carry_toMove {A : rS} {o : Int} (hI : RI A) (ho : 0 ≤ o) (q : Nat) (h : rToMove (rCarry A o) (q : Int) = 1) : rToMove A (q : Int) = 1 ∧ (q : Int) ≠ o := by
  rw [toMove_iff] at h ⊢
  simp only [Int.toNat_natCast] at h ⊢
  obtain ⟨h1, h2, h3⟩ := h
  rw [rCarry_k (k := 12) (by decide) (by decide) (by decide) (by decide) (by decide) (by decide) (by decide) (by decide)] at h1
  unfold rCarry at h2 h3
  have b2 := rWith_b hI 2
  have b0 := rWith_b hI 0
  split at h2
  · rename_i c1
    rw [if_pos c1] at h3
    split at h2
    · rename_i c2
      rw [if_pos c2] at h3
      rw [up_k _ _ (by decide), up_k _ _ (by decide)] at h2
      rw [up_k _ _ (by decide), up_k _ _ (by decide), up_k _ _ (by decide), up_k _ _ (by decide), up_k _ _ (by decide), up_k _ _ (by decide)] at h3
      by_cases e : q = o.toNat
      · rw [e, up_s] at h2; omega
      · rw [up_i _ e] at h2
        exact ⟨⟨h1, h2, h3⟩, by omega⟩
    · rename_i c2
      rw [if_neg c2] at h3
      have hw := rWith_some c2
      rw [rInto_k (by decide) (by decide) (by decide) (by decide), up_k _ _ (by decide), up_k _ _ (by decide)] at h2
      have h2 : A 13 q = 0 := by
        split at h2
        · exact h2
        · rw [up_k _ _ (by decide)] at h2; exact h2
      rw [into7, rInto_k (by decide) (by decide) (by decide) (by decide), up_k _ _ (by decide)] at h3
      by_cases e : q = o.toNat
      · rw [if_pos e, up_s] at h3; omega
      · have h7 : (up (up (if rWith A 2 = -1 then A else up A 3 (rWith A 2).toNat 3) 3 (rWith A 0).toNat 2) 4 (rWith A 0).toNat 0) 7 q = A 7 q := by
          rw [up_k _ _ (by decide), up_k _ _ (by decide)]
          split
          · rfl
          · rw [up_k _ _ (by decide)]
        rw [if_neg e, h7] at h3
        refine ⟨⟨h1, h2, ?_⟩, by omega⟩
        by_cases e2 : (A 7 q).toNat = (rWith A 0).toNat
        · rw [e2, up_s] at h3; omega
        · rw [up_i _ e2] at h3
          split at h3
          · exact h3
          · by_cases e3 : (A 7 q).toNat = (rWith A 2).toNat
            · rw [e3, up_s] at h3; omega
            · rw [up_i _ e3] at h3; exact h3
  · rename_i c1
    rw [if_neg c1] at h3
    have c2 : rWith A 2 ≠ -1 := fun w => c1 (Or.inl w)
    have hw := rWith_some c2
    rw [rInto_k (by decide) (by decide) (by decide) (by decide)] at h2
    rw [into7, rInto_k (by decide) (by decide) (by decide) (by decide)] at h3
    by_cases e : q = o.toNat
    · rw [if_pos e] at h3; omega
    · rw [if_neg e] at h3
      exact ⟨⟨h1, h2, h3⟩, by omega⟩
def ms (A : rS) : Int := if A 18 0 = 1 then 2 * A 6 0 - A 16 0 + A 1 0 + 4 else if A 18 0 = 2 then cmv A (nn A) + A 1 0 + 2 else if A 18 0 = 3 then A 1 0 - A 19 0 else 0
theorem ms_b {A : rS} {P G : Nat → Prop} (h : KK A P G) : 0 ≤ ms A ∧ ms A ≤ 1100 ∧ (A 18 0 ≠ 0 → 1 ≤ ms A) := by
  have hV := h.1
  have b1 := hV.1.b1 0
  have b6 := hV.1.b6 0
  have b16 := hV.1.b16 0
  have b18 := hV.1.b18 0
  have b19 := hV.1.b19 0
  have b5 := hV.2.2.2.2
  have hle := h.2.1.le hV
  have h16 := h.2.1.1
  have hn := h.2.2.2.1.2.1
  have hc := cmv_b A (nn A)
  have hnn : ((nn A : Nat) : Int) = A 6 0 := by unfold nn; omega
  unfold ms
  split
  · omega
  · split
    · omega
    · split
      · rename_i w; have := hn w; omega
      · omega
theorem unit_ms {A : rS} {P G : Nat → Prop} (h : KK A P G) (h0 : A 18 0 ≠ 0) : ms (rUnit A) < ms A := by
  have hV := h.1
  have b1 := hV.1.b1 0
  have b6 := hV.1.b6 0
  have b16 := hV.1.b16 0
  have b18 := hV.1.b18 0
  have hle := h.2.1.le hV
  have h16 := h.2.1.1
  unfold rUnit
  split
  · rename_i w
    have hA : ms A = 2 * A 6 0 - A 16 0 + A 1 0 + 4 := by unfold ms; rw [if_pos w]
    rw [hA]
    by_cases hr : A 17 0 ≤ A 16 0
    · have hm : rMark A = up (rChoose 20 0 A) 18 0 2 := by unfold rMark; rw [if_pos hr]
      obtain ⟨c1, -, -⟩ := choose_Ch 20 0 A hV.1
      have hm2 : ms (rMark A) = cmv (rMark A) (nn (rMark A)) + rMark A 1 0 + 2 := by
        unfold ms
        rw [if_neg (by rw [hm, up_s]; omega), if_pos (by rw [hm, up_s])]
      have hc := cmv_b (rMark A) (nn (rMark A))
      have e1 : rMark A 1 0 = A 1 0 := by rw [hm, up_k _ _ (by decide), c1 _ _ (by decide) (by decide)]
      have e6 : nn (rMark A) = nn A := by unfold nn; rw [hm, up_k _ _ (by decide), c1 _ _ (by decide) (by decide)]
      rw [hm2, e1]
      rw [e6] at hc ⊢
      unfold nn at hc ⊢
      omega
    · have hm : rMark A = rSeeF (A 15 (A 16 0).toNat) 30 0 (up A 16 0 (A 16 0 + 1)) := by unfold rMark; rw [if_neg hr]
      unfold ms
      rw [hm, if_pos (by rw [mark1_k _ _ (by decide) (by decide) (by decide) (by decide)]; exact w), mark1_k _ _ (by decide) (by decide) (by decide) (by decide), mark1_k 1 0 (by decide) (by decide) (by decide) (by decide), seeF_k _ _ _ _ _ (by decide) (by decide) (by decide), up_s]
      omega
  · rename_i w1
    split
    · rename_i w
      have hA : ms A = cmv A (nn A) + A 1 0 + 2 := by unfold ms; rw [if_neg w1, if_pos w]
      have hc := cmv_b A (nn A)
      rw [hA]
      unfold rMoveOne
      split
      · unfold ms
        rw [if_neg (by show ¬ ((3 : Int) = 1); omega), if_neg (by show ¬ ((3 : Int) = 2); omega), if_pos (by rfl), up_s]
        show A 1 0 - 0 < _
        omega
      · rename_i hb
        obtain ⟨c1, c2, c3, -⟩ := rBst_some hV.1 hb
        have e18 : rCarry A (rBst A) 18 0 = A 18 0 := rCarry_k (by decide) (by decide) (by decide) (by decide) (by decide) (by decide) (by decide) (by decide)
        have e1 : rCarry A (rBst A) 1 0 = A 1 0 := rCarry_k (by decide) (by decide) (by decide) (by decide) (by decide) (by decide) (by decide) (by decide)
        have e6 : nn (rCarry A (rBst A)) = nn A := by unfold nn; rw [rCarry_k (by decide) (by decide) (by decide) (by decide) (by decide) (by decide) (by decide) (by decide)]
        have eo : (((rBst A).toNat : Nat) : Int) = rBst A := by omega
        have hlt := cmv_lt (A := A) (B := rCarry A (rBst A)) (rBst A).toNat (by rw [eo]; exact c3) (fun q => (carry_toMove hV.1 c1 _ q).2 eo) (nn A) (by unfold nn; omega) (fun o _ q => (carry_toMove hV.1 c1 o q).1)
        unfold ms
        rw [e18, if_neg w1, if_pos w, e6, e1]
        omega
    · rename_i w2
      split
      · rename_i w
        have hn := h.2.2.2.1.2.1 w
        have hA : ms A = A 1 0 - A 19 0 := by unfold ms; rw [if_neg w1, if_neg w2, if_pos w]
        rw [hA]
        unfold rUpdate
        split
        · unfold ms
          rw [if_neg (by show ¬ (A 18 0 = 1); omega), if_neg (by show ¬ (A 18 0 = 2); omega), if_pos (by show A 18 0 = 3; omega), up_s]
          show A 1 0 - _ < _
          omega
        · unfold ms
          rw [up_s, if_neg (by decide), if_neg (by decide), if_neg (by decide)]
          omega
      · omega
def rRun : Nat → rS → rS
  | 0, A => A
  | f + 1, A => if A 18 0 ≤ 0 then A else rRun f (rUnit A)
def pRun : Nat → rS → (Nat → Prop) → Nat → Prop
  | 0, _, P => P
  | f + 1, A, P => if A 18 0 ≤ 0 then P else pRun f (rUnit A) (pUnit A P)
theorem run_KK : ∀ (f : Nat) {A : rS} {P G : Nat → Prop}, KK A P G → KK (rRun f A) (pRun f A P) G := by
  intro f
  induction f with
  | zero => intro A P G h; exact h
  | succ f ih =>
    intro A P G h
    rw [rRun, pRun]
    split
    · exact h
    · exact ih (unit_KK h)
theorem run_end : ∀ (f : Nat) {A : rS} {P G : Nat → Prop}, KK A P G → ms A ≤ f → rRun f A 18 0 = 0 := by
  intro f
  induction f with
  | zero =>
    intro A P G h hm
    have b18 := h.1.1.b18 0
    have := (ms_b h).2.2
    rw [rRun]
    by_cases w : A 18 0 = 0
    · exact w
    · have := this w; omega
  | succ f ih =>
    intro A P G h hm
    have b18 := h.1.1.b18 0
    rw [rRun]
    split
    · omega
    · have := unit_ms h (by omega)
      exact ih (unit_KK h) (by omega)
theorem run_stab : ∀ (f f' : Nat) {A : rS} {P G : Nat → Prop}, KK A P G → ms A ≤ f → f ≤ f' → rRun f' A = rRun f A ∧ pRun f' A P = pRun f A P := by
  intro f
  induction f with
  | zero =>
    intro f' A P G h hm hf
    have b18 := h.1.1.b18 0
    have := (ms_b h).2.2
    have w : A 18 0 ≤ 0 := by
      by_cases w : A 18 0 = 0
      · omega
      · have := this w; omega
    cases f' with
    | zero => exact ⟨rfl, rfl⟩
    | succ f' =>
      have e1 : rRun (f' + 1) A = A := by rw [rRun, if_pos w]
      have e2 : pRun (f' + 1) A P = P := by rw [pRun, if_pos w]
      exact ⟨e1, e2⟩
  | succ f ih =>
    intro f' A P G h hm hf
    cases f' with
    | zero => omega
    | succ f' =>
      rw [rRun, pRun, rRun, pRun]
      by_cases w : A 18 0 ≤ 0
      · rw [if_pos w, if_pos w, if_pos w, if_pos w]; exact ⟨rfl, rfl⟩
      · rw [if_neg w, if_neg w, if_neg w, if_neg w]
        have b18 := h.1.1.b18 0
        have := unit_ms h (by omega)
        exact ih f' (unit_KK h) (by omega) (by omega)
def rFin (A : rS) : rS := rRun 1100 A
def pFin (A : rS) (P : Nat → Prop) : Nat → Prop := pRun 1100 A P
theorem fin_KK {A : rS} {P G : Nat → Prop} (h : KK A P G) : KK (rFin A) (pFin A P) G ∧ rFin A 18 0 = 0 := ⟨run_KK 1100 h, run_end 1100 h (ms_b h).2.1⟩
/-- a whole collection -/
def rWhole (A : rS) : rS := rFin (rStart (rFin A))
def pWhole (A : rS) (P : Nat → Prop) : Nat → Prop := pFin (rStart (rFin A)) (pFin A P)
theorem whole_KK {A : rS} {P G : Nat → Prop} (h : KK A P G) : KK (rWhole A) (pWhole A P) (rch (rFin A)) ∧ rWhole A 18 0 = 0 := by
  obtain ⟨h1, h2⟩ := fin_KK h
  exact fin_KK (start_KK h1 h2)
