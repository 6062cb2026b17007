/-! the invariant over the public calls -/
theorem reg_KK {A : rS} {P G : Nat → Prop} {k : Nat} {v : Int} (h : KK A P G) (hv : -1 ≤ v ∧ v < A 6 0) (hG : 0 ≤ v → G v.toNat) : KK (up A 14 k v) P G := by
  obtain ⟨hV, hR, hS, hP, hPl, ⟨g1, g2, g3⟩, hT⟩ := h
  have b6 := hV.1.b6 0
  have h5 := hV.2.2.2.2
  refine ⟨⟨hV.1.u14 _ (by omega), hV.2.1, hV.2.2.1, fun j hj => ?_, h5⟩, hR, hS, hP, hPl, ⟨g1, fun j hj => ?_, g3⟩, hT⟩
  · show up A 14 k v 14 j < A 6 0
    by_cases e : j = k
    · rw [e, up_s]; exact hv.2
    · rw [up_i _ e]; exact hV.2.2.2.1 j hj
  · show 0 ≤ up A 14 k v 14 j → G (up A 14 k v 14 j).toNat
    by_cases e : j = k
    · rw [e, up_s]; exact hG
    · rw [up_i _ e]; exact g2 j hj
theorem move_KK {A : rS} {P G : Nat → Prop} {a b : Int} (h : KK A P G) : KK (rMove A a b) P G := by
  unfold rMove
  split
  · rename_i w
    have b14 := h.1.1.b14 b.toNat
    have v14 := h.1.2.2.2.1 b.toNat (by omega)
    exact reg_KK (KK_0 h (by omega)) ⟨b14.1, v14⟩ (fun q => h.2.2.2.2.2.1.2.1 b.toNat (by omega) q)
  · exact KK_0 h (by omega)
theorem drop_KK {A : rS} {P G : Nat → Prop} {a : Int} (h : KK A P G) : KK (rDrop A a) P G := by
  have b6 := h.1.1.b6 0
  unfold rDrop
  split
  · exact reg_KK (KK_0 h (by omega)) ⟨by omega, by show (-1 : Int) < A 6 0; omega⟩ (fun q => by omega)
  · exact KK_0 h (by omega)
/-- the object in a register, and its fields -/
theorem reg_ob {A : rS} {P G : Nat → Prop} {k : Int} (h : KK A P G) (hk : rReg k) (hn : A 14 k.toNat ≠ -1) : ∃ o : Nat, A 14 k.toNat = (o : Int) ∧ o < nn A ∧ G o := by
  have b14 := h.1.1.b14 k.toNat
  have v14 := h.1.2.2.2.1 k.toNat (by omega)
  have g := h.2.2.2.2.2.1.2.1 k.toNat (by omega) (by omega)
  exact ⟨(A 14 k.toNat).toNat, by omega, by unfold nn; omega, g⟩
theorem fld_ob {A : rS} {P G : Nat → Prop} {o i : Nat} (h : KK A P G) (ho : o < nn A) (hG : G o) (hi : (i : Int) < A 9 o - 2) : -1 ≤ A 11 (21 * o + i) ∧ A 11 (21 * o + i) < A 6 0 ∧ (0 ≤ A 11 (21 * o + i) → G (A 11 (21 * o + i)).toNat) := ⟨(h.1.1.b11 _).1, h.1.2.2.1 o i ho hi, h.2.2.2.2.2.1.2.2 o i hG hi⟩
theorem read_KK {A : rS} {P G : Nat → Prop} {t f i : Int} (h : KK A P G) : KK (rRead A t f i) P G := by
  unfold rRead
  split
  · rename_i w
    obtain ⟨w1, w2, w3, w4, w5⟩ := rHF_0 w
    obtain ⟨o, o1, o2, o3⟩ := reg_ob h w2 w3
    rw [o1] at w5 ⊢
    simp only [Int.toNat_natCast] at w5
    have q := fld_ob (i := i.toNat) h o2 o3 (by omega)
    rw [show (21 * (o : Int) + i).toNat = 21 * o + i.toNat by omega]
    exact reg_KK (KK_0 h (by omega)) ⟨q.1, q.2.1⟩ q.2.2
  · exact KK_0 h (rHF_b A t f f i)
theorem prep_KK {A : rS} {P G : Nat → Prop} {o : Nat} {b : Int} (h : KK A P G) (ho : o < nn A) (hG : G o) (hb : -1 ≤ b ∧ b < A 6 0) (hbG : 0 ≤ b → G b.toNat) : KK (rPrep A (o : Int) b) P G ∧ (A 18 0 = 1 → 0 ≤ b → rPrep A (o : Int) b 12 b.toNat = 1) ∧ (∀ k i, k ≠ 12 → k ≠ 15 → k ≠ 17 → k ≠ 7 → k ≠ 8 → k ≠ 4 → k ≠ 20 → k ≠ 13 → k ≠ 5 → k ≠ 21 → k ≠ 3 → rPrep A (o : Int) b k i = A k i) := by
  have ho' : (o : Int) < A 6 0 := by unfold nn at ho; omega
  unfold rPrep
  split
  · rename_i h18
    have hM := KM.of h h18
    have hM2 : KM (rSee A b) P G (fun _ => False) := see_KM hb.1 hbG (by
      obtain ⟨a1, a2, a3, a4, a5, a6, a7⟩ := hM
      exact ⟨a1, a2, a3, a4, a5, a6, a7.mono (fun _ q => q.elim)⟩)
    refine ⟨?_, fun _ h0 => see_it h.1.1 (by omega), fun k i k1 k2 k3 _ _ _ _ _ _ _ _ => see_k k i k1 k2 k3⟩
    obtain ⟨hV, hR, hS, ⟨p1, p2, p3, p4, p5, p6⟩, hPl, hg, hT⟩ := h
    obtain ⟨a1, a2, a3, a4, a5, a6, a7⟩ := hM2
    have e18 : rSee A b 18 0 = 1 := by rw [see_k 18 0 (by decide) (by decide) (by decide)]; exact h18
    refine ⟨a1, a2, a3, ⟨fun q => absurd e18 q, fun q => by omega, fun q r hr => ?_, fun q o ho => ?_, fun q => by omega, fun q => by omega⟩, a4, a5, ⟨fun _ => ⟨a6, a7⟩, fun q => by omega⟩⟩
    · rw [see_k 1 0 (by decide) (by decide) (by decide)] at hr
      rw [see_k 3 _ (by decide) (by decide) (by decide)]
      exact p3 (by omega) r hr
    · rw [see_nn] at ho
      rw [see_k 13 _ (by decide) (by decide) (by decide)]
      exact p4 h18 o ho
  · rename_i h18
    split
    · rename_i w
      have h12 := h.2.2.2.2.2.2.2 (by omega) o hG
      refine ⟨carry_KK h w.1 ⟨by omega, ho'⟩ (by simpa using h12), fun q => by omega, fun k i _ _ _ k4 k5 k6 k7 k8 k9 k10 k11 => rCarry_k k4 k5 k6 k7 k8 k9 k10 k11⟩
    · exact ⟨h, fun q => by omega, fun _ _ _ _ _ _ _ _ _ _ _ _ _ => rfl⟩
theorem fset_KK {A : rS} {P G : Nat → Prop} {o i : Nat} {v : Int} (h : KK A P G) (ho : o < nn A) (hi : i < 21) (hv : -1 ≤ v ∧ v < A 6 0) (hG : 0 ≤ v → G v.toNat) (hb : A 18 0 = 1 → 0 ≤ A 11 (21 * o + i) → A 12 (A 11 (21 * o + i)).toNat = 1) : KK (up A 11 (21 * o + i) v) P G := by
  obtain ⟨hV, hR, hS, hP, hPl, ⟨g1, g2, g3⟩, ⟨t1, t2⟩⟩ := h
  have b6 := hV.1.b6 0
  have h5 := hV.2.2.2.2
  have b9 := fun x => hV.1.b9 x
  have key : ∀ x j : Nat, (j : Int) < A 9 x - 2 → (21 * x + j = 21 * o + i ↔ x = o ∧ j = i) := fun x j hj => by
    have := b9 x
    constructor
    · intro q; omega
    · rintro ⟨rfl, rfl⟩; rfl
  refine ⟨⟨hV.1.u11 _ (by omega), hV.2.1, fun x j hx hj => ?_, hV.2.2.2.1, h5⟩, hR, hS, hP, hPl, ⟨g1, g2, fun x j hx hj => ?_⟩, ⟨fun h18 => ⟨(t1 h18).1, ?_⟩, t2⟩⟩
  · show up A 11 (21 * o + i) v 11 (21 * x + j) < A 6 0
    by_cases e : 21 * x + j = 21 * o + i
    · rw [e, up_s]; exact hv.2
    · rw [up_i _ e]; exact hV.2.2.1 x j hx hj
  · show 0 ≤ up A 11 (21 * o + i) v 11 (21 * x + j) → G (up A 11 (21 * o + i) v 11 (21 * x + j)).toNat
    by_cases e : 21 * x + j = 21 * o + i
    · rw [e, up_s]; exact hG
    · rw [up_i _ e]; exact g3 x j hx hj
  · intro x hx
    rcases (t1 h18).2 x hx with h3 | h3
    · exact Or.inl h3
    · by_cases hs : A 12 x = 1
      · exact Or.inl hs
      · right
        intro T c1 c2 c3
        have h4 := h3 (fun y => T y ∨ A 12 y = 1) (fun y hy => Or.inl (c1 y hy)) (fun y hy => hy.elim) (fun y hy hn j hj hf => ?_)
        · rcases h4 with h4 | h4
          · exact h4
          · exact absurd h4 hs
        · have hy : T y := by
            rcases hy with hy | hy
            · exact hy
            · rcases hn with hn | hn
              · omega
              · exact c1 _ hn
          by_cases e : 21 * y + j = 21 * o + i
          · right
            rw [e] at hf ⊢
            exact hb h18 hf
          · left
            have c4 := c3 y hy hn j hj
            rw [up_i _ e] at c4
            exact c4 hf
theorem write_KK {A : rS} {P G : Nat → Prop} {r i f : Int} (h : KK A P G) : KK (rWrite A r i f) P G := by
  unfold rWrite
  split
  · rename_i w
    obtain ⟨w1, w2, w3, w4, w5⟩ := rHF_0 w
    obtain ⟨o, o1, o2, o3⟩ := reg_ob h w1 w3
    rw [o1] at w5 ⊢
    simp only [Int.toNat_natCast] at w5
    have q := fld_ob (i := i.toNat) h o2 o3 (by omega)
    have b9 := h.1.1.b9 o
    rw [show (21 * (o : Int) + i).toNat = 21 * o + i.toNat by omega]
    obtain ⟨k1, k2, k3⟩ := prep_KK (b := A 11 (21 * o + i.toNat)) (KK_0 (v := 0) h (by omega)) o2 o3 ⟨q.1, q.2.1⟩ q.2.2
    have b14 := h.1.1.b14 f.toNat
    have v14 := h.1.2.2.2.1 f.toNat (by omega)
    have e6 : rPrep (up A 0 0 0) (o : Int) (A 11 (21 * o + i.toNat)) 6 0 = A 6 0 := by rw [k3 6 0 (by decide) (by decide) (by decide) (by decide) (by decide) (by decide) (by decide) (by decide) (by decide) (by decide) (by decide)]; rfl
    have e11 : ∀ j, rPrep (up A 0 0 0) (o : Int) (A 11 (21 * o + i.toNat)) 11 j = A 11 j := fun j => by rw [k3 11 j (by decide) (by decide) (by decide) (by decide) (by decide) (by decide) (by decide) (by decide) (by decide) (by decide) (by decide)]; rfl
    have e18 : rPrep (up A 0 0 0) (o : Int) (A 11 (21 * o + i.toNat)) 18 0 = A 18 0 := by rw [k3 18 0 (by decide) (by decide) (by decide) (by decide) (by decide) (by decide) (by decide) (by decide) (by decide) (by decide) (by decide)]; rfl
    refine fset_KK k1 (by unfold nn at *; rw [e6]; exact o2) (by omega) (by rw [e6]; exact ⟨b14.1, v14⟩) (fun q0 => h.2.2.2.2.2.1.2.1 f.toNat (by omega) q0) (fun h18 h0 => ?_)
    rw [e18] at h18
    rw [e11] at h0 ⊢
    exact k2 h18 h0
  · exact KK_0 h (rHF_b A r f r i)
theorem rFld_k {o c : Int} : ∀ (f : Nat) (x : Int) (A : rS) (k i : Nat), k ≠ 11 → rFld o c f x A k i = A k i := by
  intro f
  induction f with
  | zero => intro x A k i _; rfl
  | succ f ih =>
    intro x A k i hk
    rw [rFld]
    split
    · rfl
    · rw [ih _ _ _ _ hk, up_k _ _ hk]
theorem rFld_11 {o : Nat} {c : Int} : ∀ (f : Nat) (x : Int) (A : rS), 0 ≤ x → c < (f : Int) + x → ∀ j : Nat, rFld (o : Int) c f x A 11 j = if 21 * (o : Int) + x ≤ j ∧ (j : Int) < 21 * o + c then -1 else A 11 j := by
  intro f
  induction f with
  | zero => intro x A hx hf j; rw [rFld, if_neg (by omega)]
  | succ f ih =>
    intro x A hx hf j
    rw [rFld]
    by_cases w : c ≤ x
    · rw [if_pos w, if_neg (by omega)]
    · rw [if_neg w, ih (x + 1) _ (by omega) (by omega)]
      by_cases e : (j : Int) = 21 * o + x
      · rw [if_neg (by omega), if_pos (by omega), show j = (21 * (o : Int) + x).toNat by omega, up_s]
      · rw [up_i _ (by omega)]
        by_cases v : 21 * (o : Int) + x ≤ j ∧ (j : Int) < 21 * o + c
        · rw [if_pos v, if_pos (by omega)]
        · rw [if_neg v, if_neg (by omega)]
/-- a new object, place by place -/
theorem put_e {B : rS} (hI : RI B) {r c t : Int} (hc : 0 ≤ c ∧ c ≤ 20) :
    (∀ k i, k ≠ 4 → k ≠ 6 → k ≠ 7 → k ≠ 8 → k ≠ 9 → k ≠ 10 → k ≠ 11 → k ≠ 12 → k ≠ 13 → k ≠ 14 → rPut B r c t k i = B k i) ∧ (∀ k i, k ≠ 4 → k ≠ 6 → k ≠ 11 → k ≠ 14 → i ≠ nn B → rPut B r c t k i = B k i)
    ∧ (∀ i, rPut B r c t 4 i = if i = (rWith B 1).toNat then B 4 (rWith B 1).toNat + (c + 2) else B 4 i) ∧ rPut B r c t 6 0 = B 6 0 + 1 ∧ rPut B r c t 7 (nn B) = rWith B 1 ∧ rPut B r c t 8 (nn B) = B 4 (rWith B 1).toNat ∧ rPut B r c t 9 (nn B) = c + 2 ∧ rPut B r c t 10 (nn B) = t
    ∧ (∀ j : Nat, rPut B r c t 11 j = if 21 * (nn B : Int) ≤ j ∧ (j : Int) < 21 * nn B + c then -1 else B 11 j) ∧ rPut B r c t 12 (nn B) = bZ (0 < B 18 0) ∧ rPut B r c t 13 (nn B) = 0 ∧ (∀ k, rPut B r c t 14 k = if k = r.toNat then B 6 0 else B 14 k) := by
  have b6 := hI.b6 0
  have en : ((nn B : Nat) : Int) = B 6 0 := by unfold nn; omega
  have en2 : (B 6 0).toNat = nn B := rfl
  unfold rPut
  rw [← en]
  simp only [Int.toNat_natCast]
  refine ⟨fun k i h4 h6 h7 h8 h9 h10 h11 h12 h13 h14 => ?_, fun k i h4 h6 h11 h14 hi => ?_, fun i => ?_, ?_, ?_, ?_, ?_, ?_, fun j => ?_, ?_, ?_, fun k => ?_⟩
  · rw [up_k _ _ h14, up_k _ _ h13, up_k _ _ h12, rFld_k _ _ _ _ _ h11, rPut1, up_k _ _ h10, up_k _ _ h4, up_k _ _ h9, up_k _ _ h8, up_k _ _ h7, up_k _ _ h6]
  · rw [up_k _ _ h14, up_i _ hi, up_i _ hi, rFld_k _ _ _ _ _ h11, rPut1, en2, up_i _ hi, up_k _ _ h4, up_i _ hi, up_i _ hi, up_i _ hi, up_k _ _ h6]
  · rw [up_k _ _ (by decide), up_k _ _ (by decide), up_k _ _ (by decide), rFld_k _ _ _ _ _ (by decide), rPut1, up_k _ _ (by decide)]
    by_cases e : i = (rWith B 1).toNat
    · rw [if_pos e, e, up_s]
    · rw [if_neg e, up_i _ e, up_k _ _ (by decide), up_k _ _ (by decide), up_k _ _ (by decide), up_k _ _ (by decide)]
  · rw [up_k _ _ (by decide), up_k _ _ (by decide), up_k _ _ (by decide), rFld_k _ _ _ _ _ (by decide), rPut1, up_k _ _ (by decide), up_k _ _ (by decide), up_k _ _ (by decide), up_k _ _ (by decide), up_k _ _ (by decide), up_s, en]
  · rw [up_k _ _ (by decide), up_k _ _ (by decide), up_k _ _ (by decide), rFld_k _ _ _ _ _ (by decide), rPut1, en2, up_k _ _ (by decide), up_k _ _ (by decide), up_k _ _ (by decide), up_k _ _ (by decide), up_s]
  · rw [up_k _ _ (by decide), up_k _ _ (by decide), up_k _ _ (by decide), rFld_k _ _ _ _ _ (by decide), rPut1, en2, up_k _ _ (by decide), up_k _ _ (by decide), up_k _ _ (by decide), up_s]
  · rw [up_k _ _ (by decide), up_k _ _ (by decide), up_k _ _ (by decide), rFld_k _ _ _ _ _ (by decide), rPut1, en2, up_k _ _ (by decide), up_k _ _ (by decide), up_s]
  · rw [up_k _ _ (by decide), up_k _ _ (by decide), up_k _ _ (by decide), rFld_k _ _ _ _ _ (by decide), rPut1, en2, up_s]
  · rw [up_k _ _ (by decide), up_k _ _ (by decide), up_k _ _ (by decide), rFld_11 30 0 _ (by omega) (by omega)]
    have e0 : rPut1 B c t 11 j = B 11 j := by rw [rPut1, up_k _ _ (by decide), up_k _ _ (by decide), up_k _ _ (by decide), up_k _ _ (by decide), up_k _ _ (by decide), up_k _ _ (by decide)]
    rw [e0]
    by_cases w : 21 * ((nn B : Nat) : Int) ≤ j ∧ (j : Int) < 21 * nn B + c
    · rw [if_pos (by omega), if_pos w]
    · rw [if_neg (by omega), if_neg w]
  · rw [up_k _ _ (by decide), up_k _ _ (by decide), up_s]
  · rw [up_k _ _ (by decide), up_s]
  · by_cases e : k = r.toNat
    · rw [if_pos e, e, up_s]
    · rw [if_neg e, up_i _ e, up_k _ _ (by decide), up_k _ _ (by decide), rFld_k _ _ _ _ _ (by decide), rPut1, up_k _ _ (by decide), up_k _ _ (by decide), up_k _ _ (by decide), up_k _ _ (by decide), up_k _ _ (by decide), up_k _ _ (by decide)]
