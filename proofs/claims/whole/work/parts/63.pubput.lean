/-! a new object: the invariant -/
theorem put_KK {B : rS} {P G : Nat → Prop} {r c t : Int} (h : KK B P G) (hr : rReg r) (hc : 0 ≤ c ∧ c ≤ 20) (ht : -2147483648 ≤ t ∧ t ≤ 2147483647) (h6 : B 6 0 < 512) (hw : rWith B 1 ≠ -1) (hu : B 4 (rWith B 1).toNat + (c + 2) ≤ 128) : KK (rPut B r c t) (fun o => P o ∨ o = nn B) (fun o => G o ∨ o = nn B) := by
  obtain ⟨e, ei, e4, e6, n7, n8, n9, n10, e11, n12, n13, e14⟩ := put_e (r := r) (c := c) (t := t) h.1.1 hc
  have hwb := rWith_some hw
  obtain ⟨hV, hR, ⟨s1, s2, s3⟩, ⟨p1, p2, p3, p4, p5, p6⟩, ⟨q1, q2, q3⟩, ⟨g1, g2, g3⟩, ⟨t1, t2⟩⟩ := h
  have b1 := hV.1.b1 0
  have b6 := hV.1.b6 0
  have b18 := hV.1.b18 0
  have b4w := hV.1.b4 (rWith B 1).toNat
  have hle := hR.le hV
  have en : ((nn B : Nat) : Int) = B 6 0 := by unfold nn; omega
  have hI : RI (rPut B r c t) := by
    refine RI_of hV.1 (fun k i hk => ?_)
    by_cases k4 : k = 4
    · subst k4
      rw [e4]
      split
      · right; show (0 : Int) ≤ _ ∧ _ ≤ (128 : Int); omega
      · exact Or.inl rfl
    by_cases k6 : k = 6
    · subst k6
      by_cases i0 : i = 0
      · subst i0; right; rw [e6]; show (0 : Int) ≤ _ ∧ _ ≤ (620 : Int); omega
      · left
        unfold rPut
        rw [up_k _ _ (by decide), up_k _ _ (by decide), up_k _ _ (by decide), rFld_k _ _ _ _ _ (by decide), rPut1, up_k _ _ (by decide), up_k _ _ (by decide), up_k _ _ (by decide), up_k _ _ (by decide), up_k _ _ (by decide), up_i _ i0]
    by_cases k11 : k = 11
    · subst k11
      rw [e11]
      split
      · right; show (-1 : Int) ≤ -1 ∧ (-1 : Int) ≤ 619; omega
      · exact Or.inl rfl
    by_cases k14 : k = 14
    · subst k14
      rw [e14]
      split
      · right; show (-1 : Int) ≤ _ ∧ _ ≤ (619 : Int); omega
      · exact Or.inl rfl
    by_cases i0 : i = nn B
    · subst i0
      by_cases k7 : k = 7
      · subst k7; right; rw [n7]; show (0 : Int) ≤ _ ∧ _ ≤ (15 : Int); omega
      by_cases k8 : k = 8
      · subst k8; right; rw [n8]; show (0 : Int) ≤ _ ∧ _ ≤ (128 : Int); omega
      by_cases k9 : k = 9
      · subst k9; right; rw [n9]; show (0 : Int) ≤ _ ∧ _ ≤ (22 : Int); omega
      by_cases k10 : k = 10
      · subst k10; right; rw [n10]; show (-2147483648 : Int) ≤ _ ∧ _ ≤ (2147483647 : Int); omega
      by_cases k12 : k = 12
      · subst k12; right; rw [n12]; show (0 : Int) ≤ _ ∧ _ ≤ (1 : Int); rcases bZ_or (0 < B 18 0) with w | w <;> omega
      by_cases k13 : k = 13
      · subst k13; right; rw [n13]; show (0 : Int) ≤ 0 ∧ (0 : Int) ≤ 1; omega
      exact Or.inl (e k _ k4 k6 k7 k8 k9 k10 k11 k12 k13 k14)
    · exact Or.inl (ei k i k4 k6 k11 k14 i0)
  have e1 : rPut B r c t 1 0 = B 1 0 := e 1 0 (by decide) (by decide) (by decide) (by decide) (by decide) (by decide) (by decide) (by decide) (by decide) (by decide)
  have e18 : rPut B r c t 18 0 = B 18 0 := e 18 0 (by decide) (by decide) (by decide) (by decide) (by decide) (by decide) (by decide) (by decide) (by decide) (by decide)
  have e16 : rPut B r c t 16 0 = B 16 0 := e 16 0 (by decide) (by decide) (by decide) (by decide) (by decide) (by decide) (by decide) (by decide) (by decide) (by decide)
  have e17 : rPut B r c t 17 0 = B 17 0 := e 17 0 (by decide) (by decide) (by decide) (by decide) (by decide) (by decide) (by decide) (by decide) (by decide) (by decide)
  have e19 : rPut B r c t 19 0 = B 19 0 := e 19 0 (by decide) (by decide) (by decide) (by decide) (by decide) (by decide) (by decide) (by decide) (by decide) (by decide)
  have e3 : ∀ i, rPut B r c t 3 i = B 3 i := fun i => e 3 i (by decide) (by decide) (by decide) (by decide) (by decide) (by decide) (by decide) (by decide) (by decide) (by decide)
  have e5 : ∀ i, rPut B r c t 5 i = B 5 i := fun i => e 5 i (by decide) (by decide) (by decide) (by decide) (by decide) (by decide) (by decide) (by decide) (by decide) (by decide)
  have e15 : ∀ i, rPut B r c t 15 i = B 15 i := fun i => e 15 i (by decide) (by decide) (by decide) (by decide) (by decide) (by decide) (by decide) (by decide) (by decide) (by decide)
  have o7 : ∀ o, o ≠ nn B → rPut B r c t 7 o = B 7 o := fun o ho => ei 7 o (by decide) (by decide) (by decide) (by decide) ho
  have o8 : ∀ o, o ≠ nn B → rPut B r c t 8 o = B 8 o := fun o ho => ei 8 o (by decide) (by decide) (by decide) (by decide) ho
  have o9 : ∀ o, o ≠ nn B → rPut B r c t 9 o = B 9 o := fun o ho => ei 9 o (by decide) (by decide) (by decide) (by decide) ho
  have o12 : ∀ o, o ≠ nn B → rPut B r c t 12 o = B 12 o := fun o ho => ei 12 o (by decide) (by decide) (by decide) (by decide) ho
  have o13 : ∀ o, o ≠ nn B → rPut B r c t 13 o = B 13 o := fun o ho => ei 13 o (by decide) (by decide) (by decide) (by decide) ho
  have o11 : ∀ o j : Nat, o < nn B → j < 21 → rPut B r c t 11 (21 * o + j) = B 11 (21 * o + j) := fun o j ho hj => by rw [e11, if_neg (by omega)]
  have m11 : ∀ j : Nat, (j : Int) < c → rPut B r c t 11 (21 * nn B + j) = -1 := fun j hj => by rw [e11, if_pos (by omega)]
  generalize rPut B r c t = C at *
  have enC : nn C = nn B + 1 := by unfold nn; rw [e6]; omega
  have hlt : ∀ o, o < nn C → o ≠ nn B → o < nn B := fun o a b => by omega
  have u4 : ∀ i, B 4 i ≤ C 4 i := fun i => by rw [e4]; split <;> first | omega | (rename_i q; rw [q]; omega)
  have b9 := fun x => hV.1.b9 x
  have gr : ∀ x, gry C x ↔ gry B x := fun x => by unfold gry; rw [e16, e17]; simp only [e15]
  have grn : ∀ x, gry B x → x < nn B := fun x hx => by
    obtain ⟨i, i1, i2, i3⟩ := hx
    have := (hR.2.1 i i2).1
    omega
  refine ⟨⟨hI, fun o ho => ?_, fun o i ho hi => ?_, fun k hk => ?_, by rw [e6]; omega⟩, ⟨by rw [e16, e17]; exact hR.1, fun i hi => ?_, fun i j hi hj => ?_⟩, ⟨fun q hq => ?_, fun a b ha hb => ?_, fun a b ha hb => ?_⟩, ⟨fun w => ?_, fun w => ?_, fun w q hq => ?_, fun w o ho => ?_, fun w o ho w13 => ?_, fun w o ho w12 => ?_⟩, ⟨fun o ho => ?_, fun o ho w => ?_, fun o q ho hq => ?_⟩, ⟨fun o ho => ?_, fun k hk w => ?_, fun o i ho hi w => ?_⟩, ⟨fun w => ⟨fun o ho w12 => ?_, fun o ho => ?_⟩, fun w o ho => ?_⟩⟩
  · by_cases w : o = nn B
    · rw [w, n9, n7, e1]; omega
    · rw [o9 o w, o7 o w, e1]; exact hV.2.1 o (hlt o ho w)
  · by_cases w : o = nn B
    · rw [w] at hi ⊢
      rw [n9] at hi
      rw [m11 i (by omega), e6]; omega
    · rw [o9 o w] at hi
      have := b9 o
      have := hV.2.2.1 o i (hlt o ho w) hi
      rw [o11 o i (hlt o ho w) (by omega), e6]; omega
  · have := hV.2.2.2.1 k hk
    rw [e14, e6]
    split <;> omega
  · rw [e17] at hi
    have q := hR.2.1 i hi
    have b15 := hV.1.b15 i
    rw [e15, e6, o12 _ (by omega)]
    exact ⟨by omega, q.2⟩
  · rw [e17] at hi hj
    rw [e15, e15]
    exact hR.2.2 i j hi hj
  · rw [e3] at hq
    rw [e4, if_neg (fun w => by rw [w, hwb.2.2] at hq; omega)]
    exact s1 q hq
  · rw [e1] at ha hb
    rw [e3, e3]
    exact s2 a b ha hb
  · rw [e1] at ha hb
    rw [e3, e3]
    exact s3 a b ha hb
  · rw [e16, e17]; rw [e18] at w; exact p1 w
  · rw [e19, e1]; rw [e18] at w; exact p2 w
  · rw [e18] at w; rw [e1] at hq; rw [e3]; exact p3 w q hq
  · rw [e18] at w
    by_cases v : o = nn B
    · rw [v, n13]
    · rw [o13 o v]; exact p4 w o (hlt o ho v)
  · rw [e18] at w
    by_cases v : o = nn B
    · rw [v, n13] at w13; omega
    · rw [o13 o v] at w13
      rw [o7 o v, e3, e5]
      exact p5 w o (hlt o ho v) w13
  · rw [e18] at w
    by_cases v : o = nn B
    · rw [v, n7, e3, hwb.2.2]; intro q; omega
    · rw [o12 o v] at w12
      rw [o7 o v, e3, o13 o v]
      exact p6 w o (hlt o ho v) w12
  · by_cases v : o = nn B
    · rw [v, enC, n7, n8, n9, e3, hwb.2.2, e4, if_pos rfl]
      exact ⟨by omega, by omega, by omega⟩
    · rcases ho with ho | ho
      · obtain ⟨a, b, d⟩ := q1 o ho
        have := u4 (B 7 o).toNat
        rw [enC, o7 o v, o8 o v, o9 o v, e3]
        exact ⟨by omega, b, by omega⟩
      · exact absurd ho v
  · by_cases v : o = nn B
    · exact Or.inr v
    · rw [o12 o v] at w
      exact Or.inl (q2 o (hlt o ho v) w)
  · have hn : ∀ x, P x → B 7 x = rWith B 1 → B 8 x < B 4 (rWith B 1).toNat := fun x hx w => by
      obtain ⟨a, b, d⟩ := q1 x hx
      have := (hV.2.1 x a).1
      rw [w] at d
      omega
    have hx : ∀ x, P x → x ≠ nn B := fun x hx => by have := (q1 x hx).1; omega
    rcases ho with ho | ho <;> rcases hq with hq | hq
    · rw [o7 o (hx o ho), o7 q (hx q hq), o8 o (hx o ho), o8 q (hx q hq)]; exact q3 o q ho hq
    · rw [hq, o7 o (hx o ho), o8 o (hx o ho), n7, n8]
      intro w1 w2
      have := hn o ho w1
      omega
    · rw [ho, o7 q (hx q hq), o8 q (hx q hq), n7, n8]
      intro w1 w2
      have := hn q hq w1.symm
      omega
    · intro _ _; omega
  · rcases ho with ho | ho
    · exact Or.inl (g1 o ho)
    · exact Or.inr ho
  · rw [e14] at w ⊢
    split
    · exact Or.inr (by omega)
    · rename_i v
      rw [if_neg v] at w
      exact Or.inl (g2 k hk w)
  · by_cases v : o = nn B
    · rw [v] at hi w
      rw [n9] at hi
      rw [m11 i (by omega)] at w
      omega
    · rcases ho with ho | ho
      · have hon := (q1 o (g1 o ho)).1
        have := b9 o
        rw [o9 o v] at hi
        rw [o11 o i hon (by omega)] at w ⊢
        exact Or.inl (g3 o i ho hi w)
      · exact absurd ho v
  · rw [e18] at w
    by_cases v : o = nn B
    · exact Or.inr v
    · rw [o12 o v] at w12
      exact Or.inl ((t1 w).1 o (hlt o ho v) w12)
  · rw [e18] at w
    by_cases v : o = nn B
    · left; rw [v, n12, bZ_t (by omega)]
    · rcases ho with ho | ho
      · rcases (t1 w).2 o ho with h3 | h3
        · left; rw [o12 o v]; exact h3
        · right
          intro T c1 c2 c3
          refine (h3 (fun x => T x ∧ x < nn B) (fun x hx => ⟨c1 x ((gr x).mpr hx), grn x hx⟩) (fun x hx => hx.elim) (fun x hx hn i hi hf => ?_)).1
          have hxn : x ≠ nn B := by have := hx.2; omega
          have := b9 x
          have c4 := c3 x hx.1 (by rw [o12 x hxn, gr]; exact hn) i
          rw [o9 x hxn, o11 x i hx.2 (by omega)] at c4
          have := hV.2.2.1 x i hx.2 hi
          exact ⟨c4 hi hf, by unfold nn; omega⟩
      · exact absurd ho v
  · rw [e18] at w
    by_cases v : o = nn B
    · rw [v, n12, bZ_t (by omega)]
    · rcases ho with ho | ho
      · rw [o12 o v]; exact t2 w o ho
      · exact absurd ho v
/-- with an active region, room was found -/
theorem has_v {A : rS} {P G : Nat → Prop} {n : Int} (h : KK A P G) (hn : n ≤ 22) : rHasV A n = 1 ↔ rWith (rHas A n) 1 ≠ -1 := by
  constructor
  · intro w; exact (has_act h hn w).1
  · intro w
    rcases rHasV_b A n with v | v
    · exfalso
      unfold rHasV at v
      by_cases u : rWith A 1 ≠ -1 ∧ A 4 (rWith A 1).toNat + n ≤ 128
      · rw [if_pos u] at v; omega
      · rw [if_neg u] at v
        by_cases u2 : rWith (rHas1 A n) 0 = -1
        · have e : rHas A n = rHas1 A n := by unfold rHas; rw [if_neg u]; unfold rHas2; rw [if_pos u2]
          rw [e] at w
          exact w (rWith_isn (has1_KK h u).2)
        · rw [if_neg u2] at v; omega
    · exact v
