/-! the class's memory against the reference's state -/
def aRg (r : Nat) : Nat := 16 * r + 8
def aSt (r : Nat) : Nat := 16 * r + 9
def aOb (o : Nat) : Nat := 16 * o + 10
def aFd (o : Nat) : Nat := 16 * o + 11
def RN (A : rS) : Nat := (A 1 0).toNat
def oref (x : Int) : Option Nat := if x = -1 then none else some (aOb x.toNat)
def rref (x : Int) : Option Nat := if x = -1 then none else some (aRg x.toNat)
theorem oref_n : oref (-1) = none := rfl
theorem oref_s {x : Int} (h : x ≠ -1) : oref x = some (aOb x.toNat) := if_neg h
theorem rref_n : rref (-1) = none := rfl
theorem rref_s {x : Int} (h : x ≠ -1) : rref x = some (aRg x.toNat) := if_neg h
/-- what stands still: the fixed cells, regions, objects -/
def C1 (A : rS) (μ : mM) : Prop :=
  (sh μ 0 = some (.inl 5) ∧ mq μ 0 0 = some 1 ∧ mq μ 0 1 = some 2) ∧ (sh μ 1 = some (.inl 0) ∧ mq μ 1 0 = some 2 ∧ mq μ 1 2 = some 3) ∧ (sh μ 2 = some (.inl 2) ∧ mq μ 2 0 = some 4 ∧ mq μ 2 1 = some 5) ∧ (sh μ 3 = some (.inl 4) ∧ sh μ 4 = some (.inr (3, 10)) ∧ sh μ 5 = some (.inr (4, RN A)))
  ∧ (∀ r, r < RN A → mq μ 5 r = some (aRg r) ∧ sh μ (aRg r) = some (.inl 3) ∧ mq μ (aRg r) 1 = some (aSt r) ∧ sh μ (aSt r) = some (.inr (3, 128)) ∧ mi μ (aRg r) 0 = iv r)
  ∧ (∀ o, o < nn A → sh μ (aOb o) = some (.inl 1) ∧ mq μ (aOb o) 1 = some (aFd o) ∧ sh μ (aFd o) = some (.inr (3, (A 9 o - 2).toNat)) ∧ mi μ (aOb o) 0 = iv (A 10 o))
def C2 (A : rS) (cy : Int) (μ : mM) : Prop := mi μ 1 1 = iv (A 2 0) ∧ mi μ 1 3 = iv (A 18 0) ∧ mi μ 1 4 = iv cy ∧ mi μ 1 5 = iv (A 19 0) ∧ mi μ 1 6 = iv (A 20 0) ∧ mi μ 1 7 = iv (A 21 0)
def C3 (A : rS) (μ : mM) : Prop := ∀ k : Nat, k < 10 → mq μ 4 k = oref (A 14 k)
def C4 (A : rS) (μ : mM) : Prop := mq μ 2 2 = rref (rWith A 1) ∧ mq μ 2 3 = rref (rWith A 2)
/-- the row: first, last, size, and the chain -/
def C5 (A : rS) (μ : mM) : Prop := mq μ 3 0 = (if A 16 0 < A 17 0 then some (aOb (A 15 (A 16 0).toNat).toNat) else none) ∧ mq μ 3 1 = (if A 16 0 < A 17 0 then some (aOb (A 15 (A 17 0 - 1).toNat).toNat) else none) ∧ mi μ 3 2 = iv (A 17 0 - A 16 0)
  ∧ (∀ i : Nat, A 16 0 ≤ i → (i : Int) + 1 < A 17 0 → mq μ (aOb (A 15 i).toNat) 6 = some (aOb (A 15 (i + 1)).toNat)) ∧ (∀ o, o < nn A → (∀ i : Nat, A 16 0 ≤ i → (i : Int) + 1 < A 17 0 → A 15 i ≠ o) → mq μ (aOb o) 6 = none)
/-- the regions -/
def C6 (A : rS) (μ : mM) : Prop := ∀ r, r < RN A → mi μ (aRg r) 2 = iv (A 3 r) ∧ mi μ (aRg r) 3 = iv (A 4 r) ∧ (∃ q : Int, mi μ (aRg r) 5 = iv q ∧ (q = 0 ∨ q = 1) ∧ (A 3 r = 4 → q = A 5 r)) ∧ ∃ p : Int, mi μ (aRg r) 4 = iv p ∧ 0 ≤ p ∧ p ≤ 128 ∧ (A 3 r = 4 → ∀ o, o < nn A → rToMove A (o : Int) = 1 → A 7 o = r → p ≤ A 8 o)
/-- who begins where -/
def C7 (A : rS) (P : Nat → Prop) (μ : mM) : Prop := (∀ r k b : Nat, r < RN A → k < 128 → mq μ (aSt r) k = some b → ∃ o, b = aOb o ∧ P o ∧ A 7 o = r ∧ A 8 o = k) ∧ (∀ o, P o → mq μ (aSt (A 7 o).toNat) (A 8 o).toNat = some (aOb o))
def C8 (A : rS) (cy : Int) (μ : mM) : Prop := ∀ o, o < nn A → mq μ (aOb o) 2 = some (aRg (A 7 o).toNat) ∧ mi μ (aOb o) 3 = iv (A 8 o) ∧ (∃ v : Int, mi μ (aOb o) 4 = iv v ∧ -1 ≤ v ∧ v ≤ cy ∧ (v = cy ↔ A 12 o = 1)) ∧ (∃ v : Int, mi μ (aOb o) 5 = iv v ∧ -1 ≤ v ∧ v ≤ cy ∧ (v = cy ↔ A 13 o = 1))
  ∧ ∀ i : Nat, (i : Int) < A 9 o - 2 → mq μ (aFd o) i = oref (A 11 (21 * o + i))
def CR (A : rS) (P : Nat → Prop) (cy : Int) (μ : mM) : Prop := C1 A μ ∧ C2 A cy μ ∧ C3 A μ ∧ C4 A μ ∧ C5 A μ ∧ C6 A μ ∧ C7 A P μ ∧ C8 A cy μ ∧ 0 ≤ cy ∧ cy ≤ 2000
/-- the class's own addresses -/
def cad (a : Nat) : Prop := a < 6 ∨ (∃ r, a = aRg r) ∨ (∃ r, a = aSt r) ∨ (∃ o, a = aOb o) ∨ ∃ o, a = aFd o
/-- nothing but the class's cells has changed -/
def cfr (μ μ' : mM) : Prop := (∀ a, sh μ' a = sh μ a) ∧ (∀ a k, mj μ' a k = mj μ a k) ∧ (∀ a k, ¬ cad a → mq μ' a k = mq μ a k ∧ mi μ' a k = mi μ a k)
theorem cfr.rf (μ : mM) : cfr μ μ := ⟨fun _ => rfl, fun _ _ => rfl, fun _ _ _ => ⟨rfl, rfl⟩⟩
theorem cfr.tr {μ μ1 μ2 : mM} (h : cfr μ μ1) (h' : cfr μ1 μ2) : cfr μ μ2 := ⟨fun a => (h'.1 a).trans (h.1 a), fun a k => (h'.2.1 a k).trans (h.2.1 a k), fun a k n => ⟨(h'.2.2 a k n).1.trans (h.2.2 a k n).1, (h'.2.2 a k n).2.trans (h.2.2 a k n).2⟩⟩
theorem cfr.I {μ μ1 : mM} (h : cfr μ μ1) {a : Nat} (ha : cad a) (k : Nat) (v : Int32) : cfr μ (setI μ1 a k v) := ⟨h.1, h.2.1, fun b j n => ⟨(h.2.2 b j n).1, by rw [mi_I, if_neg (fun q => n (by rw [q.1]; exact ha))]; exact (h.2.2 b j n).2⟩⟩
theorem cfr.Q {μ μ1 : mM} (h : cfr μ μ1) {a : Nat} (ha : cad a) (k : Nat) (v : Option Nat) : cfr μ (setQ μ1 a k v) := ⟨h.1, h.2.1, fun b j n => ⟨by rw [mq_Q, if_neg (fun q => n (by rw [q.1]; exact ha))]; exact (h.2.2 b j n).1, (h.2.2 b j n).2⟩⟩
theorem cad_f {a : Nat} (h : a < 6) : cad a := Or.inl h
theorem cad_r (r : Nat) : cad (aRg r) := Or.inr (Or.inl ⟨r, rfl⟩)
theorem cad_s (r : Nat) : cad (aSt r) := Or.inr (Or.inr (Or.inl ⟨r, rfl⟩))
theorem cad_o (o : Nat) : cad (aOb o) := Or.inr (Or.inr (Or.inr (Or.inl ⟨o, rfl⟩)))
theorem cad_d (o : Nat) : cad (aFd o) := Or.inr (Or.inr (Or.inr (Or.inr ⟨o, rfl⟩)))
/-- the reference doesn't see it -/
theorem RR_c {A : rS} {μ μ' : mM} (h : RR A μ) (hf : cfr μ μ') : RR A μ' := by
  have n6 : ¬ cad 6 := by
    rintro (h | ⟨r, h⟩ | ⟨r, h⟩ | ⟨r, h⟩ | ⟨r, h⟩)
    · omega
    · unfold aRg at h; omega
    · unfold aSt at h; omega
    · unfold aOb at h; omega
    · unfold aFd at h; omega
  have nk : ∀ k, ¬ cad (aK k) := by
    rintro k (h | ⟨r, h⟩ | ⟨r, h⟩ | ⟨r, h⟩ | ⟨r, h⟩)
    · unfold aK at h; omega
    · unfold aRg aK at h; omega
    · unfold aSt aK at h; omega
    · unfold aOb aK at h; omega
    · unfold aFd aK at h; omega
  refine ⟨by rw [hf.1]; exact h.1, fun k hk => by rw [(hf.2.2 6 k n6).2]; exact h.s k hk, fun k hk => ⟨by rw [(hf.2.2 6 k n6).1]; exact h.q k hk, by rw [hf.1]; exact h.h k hk, fun i hi => by rw [(hf.2.2 _ i (nk k)).2]; exact h.a k hk hi⟩⟩
/-- and the class doesn't see the reference's changes -/
theorem CR_r {A : rS} {P : Nat → Prop} {cy : Int} {μ μ' : mM} (h : CR A P cy μ) (hf : rfr μ μ') : CR A P cy μ' := by
  have hs := hf.1
  have hq := hf.2.1
  have hi : ∀ a k, cad a → mi μ' a k = mi μ a k := fun a k ha => hf.2.2.2 a k (by
    rintro (h6 | ⟨j, hj⟩)
    · subst h6
      rcases ha with h | ⟨r, h⟩ | ⟨r, h⟩ | ⟨r, h⟩ | ⟨r, h⟩
      · omega
      · unfold aRg at h; omega
      · unfold aSt at h; omega
      · unfold aOb at h; omega
      · unfold aFd at h; omega
    · subst hj
      rcases ha with h | ⟨r, h⟩ | ⟨r, h⟩ | ⟨r, h⟩ | ⟨r, h⟩
      · unfold aK at h; omega
      · unfold aRg aK at h; omega
      · unfold aSt aK at h; omega
      · unfold aOb aK at h; omega
      · unfold aFd aK at h; omega)
  have hi1 : ∀ k, mi μ' 1 k = mi μ 1 k := fun k => hi 1 k (cad_f (by decide))
  have hi3 : ∀ k, mi μ' 3 k = mi μ 3 k := fun k => hi 3 k (cad_f (by decide))
  have hir : ∀ r k, mi μ' (aRg r) k = mi μ (aRg r) k := fun r k => hi _ k (cad_r r)
  have hio : ∀ r k, mi μ' (aOb r) k = mi μ (aOb r) k := fun r k => hi _ k (cad_o r)
  unfold CR C1 C2 C3 C4 C5 C6 C7 C8 at h ⊢
  simp only [hs, hq, hi1, hi3, hir, hio]
  exact h
