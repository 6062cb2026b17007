/-! the public calls: what they say and what they rest on -/
def yP (ok : Prop) (Ps : Option Value → mM → Nat → Prop) : Option Value → mM → Nat → Prop := fun v μ' z' => ok ∧ Ps v μ' z'
def xP (c1 : Prop) (E2 : String) (c2 : Prop) (μ : mM) (z : Nat) : String → mM → Nat → Prop := fun E μ' z' => (E = XI ∧ c1 ∨ E = E2 ∧ c2) ∧ μ' = μ ∧ z ≤ z'
def xOk (ik ic : Nat) (cls : String) : Prop := Cond.classLink RX5 ik cls ∈ AW ∧ Cond.initialized cls ∈ AW ∧ (∀ w ∈ (vx_atS RX5 ic cls XN).filter goodWord, w ∈ AW) ∧ (∀ w ∈ (vx_atS RX5 ic cls XN).filter (fun w => !goodWord w), w ∈ [Cond.declares (Bundle.initS "java/lang/RuntimeException"), Cond.declares (Bundle.initS "java/lang/Exception"), Cond.declares (Bundle.initS Bundle.tN), Cond.castable cls cls]) ∧ ∀ w ∈ Cond.classLink RX5 ik cls :: Cond.initialized cls :: vx_atS RX5 ic cls XN, vx_ot w = true
theorem x_wI : xOk 110 114 XI := ⟨by decide +kernel, by decide +kernel, by decide +kernel, by decide +kernel, by decide +kernel⟩
theorem x_wA : xOk 31 35 XA := ⟨by decide +kernel, by decide +kernel, by decide +kernel, by decide +kernel, by decide +kernel⟩
theorem x_wT : xOk 156 160 XT := ⟨by decide +kernel, by decide +kernel, by decide +kernel, by decide +kernel, by decide +kernel⟩
theorem mv_CR {A : rS} {P : Nat → Prop} {cy a b : Int} {μ : mM} {w : Option Nat} (hc : CR A P cy μ) (ha : rReg a) (hb : rReg b) (hw : oref (A 14 b.toNat) = w) : CR (rMove A a b) P cy (setQ μ 4 a.toNat w) := by
  unfold rMove
  rw [if_pos ⟨ha, hb⟩, ← hw]
  exact r14_CR ((z_CR 0).mpr hc)
theorem dr_CR {A : rS} {P : Nat → Prop} {cy a : Int} {μ : mM} (hc : CR A P cy μ) (ha : rReg a) : CR (rDrop A a) P cy (setQ μ 4 a.toNat none) := by
  unfold rDrop
  rw [if_pos ha]
  exact r14_CR (v := -1) ((z_CR 0).mpr hc)
theorem rHF_is {A : rS} {a b r i : Int} {o : Nat} (ha : rReg a) (hb : rReg b) (ho : A 14 r.toNat = (o : Int)) (hi : 0 ≤ i ∧ i < A 9 o - 2) : rHF A a b r i = 0 := by
  unfold rHF
  rw [if_pos ⟨ha, hb⟩, if_neg (by omega), ho]
  simp only [Int.toNat_natCast]
  rw [if_pos hi]
theorem rd_CR {A : rS} {P : Nat → Prop} {cy t f i : Int} {μ : mM} {o : Nat} {w : Option Nat} (hc : CR A P cy μ) (ht : rReg t) (hf : rReg f) (ho : A 14 f.toNat = (o : Int)) (hi : 0 ≤ i ∧ i < A 9 o - 2) (hw : oref (A 11 (21 * o + i.toNat)) = w) : CR (rRead A t f i) P cy (setQ μ 4 t.toNat w) ∧ rReadV A t f i = rTagOf A (A 11 (21 * o + i.toNat)) := by
  have h0 := rHF_is ht hf ho hi
  have ei : (21 * (o : Int) + i).toNat = 21 * o + i.toNat := by omega
  unfold rRead rReadV
  rw [if_pos h0, if_pos h0, ho, ei, ← hw]
  exact ⟨r14_CR ((z_CR 0).mpr hc), rfl⟩
theorem prep_0 {A : rS} {o b v : Int} : rPrep (up A 0 0 v) o b = up (rPrep A o b) 0 0 v := by
  have e : ∀ k i, k ≠ 0 → up A 0 0 v k i = A k i := fun k i h => up_k _ _ h
  have sw : ∀ (C : rS) (k i : Nat) (w : Int), k ≠ 0 → up (up C 0 0 v) k i w = up (up C k i w) 0 0 v := fun C k i w hk => by
    funext k' i'
    unfold up
    by_cases e1 : k' = k ∧ i' = i
    · rw [if_pos e1, if_neg (fun q => hk (by omega)), if_pos e1]
    · rw [if_neg e1, if_neg e1]
  have ew : ∀ st, rWith (up A 0 0 v) st = rWith A st := fun st => rWith_cg (e 1 0 (by decide)) (fun r => e 3 r (by decide))
  have em : ∀ x, rToMove (up A 0 0 v) x = rToMove A x := fun x => by unfold rToMove; rw [e 12 _ (by decide), e 13 _ (by decide), e 7 _ (by decide), e 3 _ (by decide)]
  unfold rPrep
  rw [e 18 0 (by decide), em]
  split
  · unfold rSee
    rw [e 12 _ (by decide), e 17 _ (by decide)]
    split
    · rfl
    · split
      · rw [sw _ 12 _ _ (by decide), sw _ 15 _ _ (by decide), sw _ 17 _ _ (by decide)]
      · rfl
  · split
    · have hi : ∀ (C : rS) (t : Int), rInto (up C 0 0 v) o t = up (rInto C o t) 0 0 v := fun C t => by
        have e' : ∀ k i, k ≠ 0 → up C 0 0 v k i = C k i := fun k i h => up_k _ _ h
        unfold rInto
        rw [e' 4 _ (by decide), e' 9 _ (by decide), e' 20 _ (by decide), sw _ 7 _ _ (by decide), sw _ 8 _ _ (by decide), sw _ 4 _ _ (by decide), sw _ 20 _ _ (by decide)]
      unfold rCarry
      rw [ew, ew, e 4 _ (by decide), e 9 _ (by decide), e 7 _ (by decide), e 21 _ (by decide), hi]
      split
      · split
        · rw [sw _ 13 _ _ (by decide), sw _ 5 _ _ (by decide), sw _ 21 _ _ (by decide)]
        · rw [← hi]
          congr 1
          split
          · rw [sw _ 3 _ _ (by decide), sw _ 4 _ _ (by decide)]
          · rw [sw _ 3 _ _ (by decide), sw _ 3 _ _ (by decide), sw _ 4 _ _ (by decide)]
      · rfl
    · rfl
theorem wr_CR {A : rS} {P : Nat → Prop} {cy r i f : Int} {μ : mM} {o : Nat} {w : Option Nat} (hI : RI (rPrep A (o : Int) (A 11 (21 * o + i.toNat)))) (h9 : A 9 o ≤ 22) (hc : CR (rPrep A (o : Int) (A 11 (21 * o + i.toNat))) P cy μ) (hr : rReg r) (hf : rReg f) (ho : A 14 r.toNat = (o : Int)) (hi : 0 ≤ i ∧ i < A 9 o - 2) (hw : oref (A 14 f.toNat) = w) : CR (rWrite A r i f) P cy (setQ μ (aFd o) i.toNat w) ∧ rWriteV A r i f = rTagOf A (A 11 (21 * o + i.toNat)) := by
  have h0 := rHF_is (b := f) hr hf ho hi
  have ei : (21 * (o : Int) + i).toNat = 21 * o + i.toNat := by omega
  unfold rWrite rWriteV
  rw [if_pos h0, if_pos h0, ho, ei, ← hw, prep_0]
  exact ⟨f11_CR (hI.u0 0 (by omega)) ((z_CR 0).mpr hc) (by omega), rfl⟩
/-- two registers hold one object -/
theorem same_iff {G : mG} {ρ : Nat → Nat} {D : Nat → Prop} {H0 H : Heap} {locs : List Loc} {A : rS} {P : Nat → Prop} {cy : Int} {μ : mM} {z : Nat} (X : mX G ρ D H0 μ z H locs) (hc : CR A P cy μ) {x y : Int} (hx : -1 ≤ x ∧ x < A 6 0) (hy : -1 ≤ y ∧ y < A 6 0) : (oref x).map ρ = (oref y).map ρ ↔ x = y := by
  constructor
  · intro h
    by_cases ex : x = -1
    · by_cases ey : y = -1
      · omega
      · rw [ex, oref_n, oref_s ey] at h; cases h
    · by_cases ey : y = -1
      · rw [ey, oref_n, oref_s ex] at h; cases h
      · rw [oref_s ex, oref_s ey] at h
        have h1 := Option.some.inj h
        have q1 := (hc.1.2.2.2.2.2 x.toNat (by unfold nn; omega)).1
        have q2 := (hc.1.2.2.2.2.2 y.toNat (by unfold nn; omega)).1
        have := aOb_inj (X.1.2.1 _ _ _ _ q1 q2 h1)
        omega
  · intro h; rw [h]
