/-! bounds of the reference's state (printed by wip/tools/ref1.py), its rows -/
def slo (k : Nat) : Int := match k with
  | 0 => 0
  | 1 => 3
  | 2 => 0
  | 3 => 0
  | 4 => 0
  | 5 => 0
  | 6 => 0
  | 7 => 0
  | 8 => 0
  | 9 => 0
  | 10 => (-2147483648)
  | 11 => (-1)
  | 12 => 0
  | 13 => 0
  | 14 => (-1)
  | 15 => 0
  | 16 => 0
  | 17 => 0
  | 18 => 0
  | 19 => 0
  | _ => 0
def shi (k : Nat) : Int := match k with
  | 0 => 2
  | 1 => 16
  | 2 => 128
  | 3 => 4
  | 4 => 128
  | 5 => 1
  | 6 => 620
  | 7 => 15
  | 8 => 128
  | 9 => 22
  | 10 => 2147483647
  | 11 => 619
  | 12 => 1
  | 13 => 1
  | 14 => 619
  | 15 => 619
  | 16 => 620
  | 17 => 620
  | 18 => 3
  | 19 => 16
  | _ => 0
def RI (A : rS) : Prop := ∀ k i, k < 20 → slo k ≤ A k i ∧ A k i ≤ shi k
theorem RI.upd {A : rS} (h : RI A) (k i : Nat) (v : Int) (hv : k < 20 → slo k ≤ v ∧ v ≤ shi k) : RI (up A k i v) := by
  intro k' i' hk
  show slo k' ≤ (if k' = k ∧ i' = i then v else A k' i') ∧ (if k' = k ∧ i' = i then v else A k' i') ≤ shi k'
  by_cases e : k' = k ∧ i' = i
  · rw [if_pos e, e.1]
    exact hv (by rw [← e.1]; exact hk)
  · rw [if_neg e]
    exact h k' i' hk
theorem RI.b0 {A : rS} (h : RI A) (i : Nat) : (0 : Int) ≤ A 0 i ∧ A 0 i ≤ 2 := h 0 i (by decide)
theorem RI.u0 {A : rS} (h : RI A) (i : Nat) {v : Int} (hv : (0 : Int) ≤ v ∧ v ≤ 2) : RI (up A 0 i v) := h.upd 0 i v (fun _ => hv)
theorem RI.b1 {A : rS} (h : RI A) (i : Nat) : (3 : Int) ≤ A 1 i ∧ A 1 i ≤ 16 := h 1 i (by decide)
theorem RI.u1 {A : rS} (h : RI A) (i : Nat) {v : Int} (hv : (3 : Int) ≤ v ∧ v ≤ 16) : RI (up A 1 i v) := h.upd 1 i v (fun _ => hv)
theorem RI.b2 {A : rS} (h : RI A) (i : Nat) : (0 : Int) ≤ A 2 i ∧ A 2 i ≤ 128 := h 2 i (by decide)
theorem RI.u2 {A : rS} (h : RI A) (i : Nat) {v : Int} (hv : (0 : Int) ≤ v ∧ v ≤ 128) : RI (up A 2 i v) := h.upd 2 i v (fun _ => hv)
theorem RI.b3 {A : rS} (h : RI A) (i : Nat) : (0 : Int) ≤ A 3 i ∧ A 3 i ≤ 4 := h 3 i (by decide)
theorem RI.u3 {A : rS} (h : RI A) (i : Nat) {v : Int} (hv : (0 : Int) ≤ v ∧ v ≤ 4) : RI (up A 3 i v) := h.upd 3 i v (fun _ => hv)
theorem RI.b4 {A : rS} (h : RI A) (i : Nat) : (0 : Int) ≤ A 4 i ∧ A 4 i ≤ 128 := h 4 i (by decide)
theorem RI.u4 {A : rS} (h : RI A) (i : Nat) {v : Int} (hv : (0 : Int) ≤ v ∧ v ≤ 128) : RI (up A 4 i v) := h.upd 4 i v (fun _ => hv)
theorem RI.b5 {A : rS} (h : RI A) (i : Nat) : (0 : Int) ≤ A 5 i ∧ A 5 i ≤ 1 := h 5 i (by decide)
theorem RI.u5 {A : rS} (h : RI A) (i : Nat) {v : Int} (hv : (0 : Int) ≤ v ∧ v ≤ 1) : RI (up A 5 i v) := h.upd 5 i v (fun _ => hv)
theorem RI.b6 {A : rS} (h : RI A) (i : Nat) : (0 : Int) ≤ A 6 i ∧ A 6 i ≤ 620 := h 6 i (by decide)
theorem RI.u6 {A : rS} (h : RI A) (i : Nat) {v : Int} (hv : (0 : Int) ≤ v ∧ v ≤ 620) : RI (up A 6 i v) := h.upd 6 i v (fun _ => hv)
theorem RI.b7 {A : rS} (h : RI A) (i : Nat) : (0 : Int) ≤ A 7 i ∧ A 7 i ≤ 15 := h 7 i (by decide)
theorem RI.u7 {A : rS} (h : RI A) (i : Nat) {v : Int} (hv : (0 : Int) ≤ v ∧ v ≤ 15) : RI (up A 7 i v) := h.upd 7 i v (fun _ => hv)
theorem RI.b8 {A : rS} (h : RI A) (i : Nat) : (0 : Int) ≤ A 8 i ∧ A 8 i ≤ 128 := h 8 i (by decide)
theorem RI.u8 {A : rS} (h : RI A) (i : Nat) {v : Int} (hv : (0 : Int) ≤ v ∧ v ≤ 128) : RI (up A 8 i v) := h.upd 8 i v (fun _ => hv)
theorem RI.b9 {A : rS} (h : RI A) (i : Nat) : (0 : Int) ≤ A 9 i ∧ A 9 i ≤ 22 := h 9 i (by decide)
theorem RI.u9 {A : rS} (h : RI A) (i : Nat) {v : Int} (hv : (0 : Int) ≤ v ∧ v ≤ 22) : RI (up A 9 i v) := h.upd 9 i v (fun _ => hv)
theorem RI.b10 {A : rS} (h : RI A) (i : Nat) : (-2147483648 : Int) ≤ A 10 i ∧ A 10 i ≤ 2147483647 := h 10 i (by decide)
theorem RI.u10 {A : rS} (h : RI A) (i : Nat) {v : Int} (hv : (-2147483648 : Int) ≤ v ∧ v ≤ 2147483647) : RI (up A 10 i v) := h.upd 10 i v (fun _ => hv)
theorem RI.b11 {A : rS} (h : RI A) (i : Nat) : (-1 : Int) ≤ A 11 i ∧ A 11 i ≤ 619 := h 11 i (by decide)
theorem RI.u11 {A : rS} (h : RI A) (i : Nat) {v : Int} (hv : (-1 : Int) ≤ v ∧ v ≤ 619) : RI (up A 11 i v) := h.upd 11 i v (fun _ => hv)
theorem RI.b12 {A : rS} (h : RI A) (i : Nat) : (0 : Int) ≤ A 12 i ∧ A 12 i ≤ 1 := h 12 i (by decide)
theorem RI.u12 {A : rS} (h : RI A) (i : Nat) {v : Int} (hv : (0 : Int) ≤ v ∧ v ≤ 1) : RI (up A 12 i v) := h.upd 12 i v (fun _ => hv)
theorem RI.b13 {A : rS} (h : RI A) (i : Nat) : (0 : Int) ≤ A 13 i ∧ A 13 i ≤ 1 := h 13 i (by decide)
theorem RI.u13 {A : rS} (h : RI A) (i : Nat) {v : Int} (hv : (0 : Int) ≤ v ∧ v ≤ 1) : RI (up A 13 i v) := h.upd 13 i v (fun _ => hv)
theorem RI.b14 {A : rS} (h : RI A) (i : Nat) : (-1 : Int) ≤ A 14 i ∧ A 14 i ≤ 619 := h 14 i (by decide)
theorem RI.u14 {A : rS} (h : RI A) (i : Nat) {v : Int} (hv : (-1 : Int) ≤ v ∧ v ≤ 619) : RI (up A 14 i v) := h.upd 14 i v (fun _ => hv)
theorem RI.b15 {A : rS} (h : RI A) (i : Nat) : (0 : Int) ≤ A 15 i ∧ A 15 i ≤ 619 := h 15 i (by decide)
theorem RI.u15 {A : rS} (h : RI A) (i : Nat) {v : Int} (hv : (0 : Int) ≤ v ∧ v ≤ 619) : RI (up A 15 i v) := h.upd 15 i v (fun _ => hv)
theorem RI.b16 {A : rS} (h : RI A) (i : Nat) : (0 : Int) ≤ A 16 i ∧ A 16 i ≤ 620 := h 16 i (by decide)
theorem RI.u16 {A : rS} (h : RI A) (i : Nat) {v : Int} (hv : (0 : Int) ≤ v ∧ v ≤ 620) : RI (up A 16 i v) := h.upd 16 i v (fun _ => hv)
theorem RI.b17 {A : rS} (h : RI A) (i : Nat) : (0 : Int) ≤ A 17 i ∧ A 17 i ≤ 620 := h 17 i (by decide)
theorem RI.u17 {A : rS} (h : RI A) (i : Nat) {v : Int} (hv : (0 : Int) ≤ v ∧ v ≤ 620) : RI (up A 17 i v) := h.upd 17 i v (fun _ => hv)
theorem RI.b18 {A : rS} (h : RI A) (i : Nat) : (0 : Int) ≤ A 18 i ∧ A 18 i ≤ 3 := h 18 i (by decide)
theorem RI.u18 {A : rS} (h : RI A) (i : Nat) {v : Int} (hv : (0 : Int) ≤ v ∧ v ≤ 3) : RI (up A 18 i v) := h.upd 18 i v (fun _ => hv)
theorem RI.b19 {A : rS} (h : RI A) (i : Nat) : (0 : Int) ≤ A 19 i ∧ A 19 i ≤ 16 := h 19 i (by decide)
theorem RI.u19 {A : rS} (h : RI A) (i : Nat) {v : Int} (hv : (0 : Int) ≤ v ∧ v ≤ 16) : RI (up A 19 i v) := h.upd 19 i v (fun _ => hv)
theorem RI.u20 {A : rS} (h : RI A) (i : Nat) {v : Int} : RI (up A 20 i v) := h.upd 20 i v (fun h => absurd h (by decide))
theorem RI.u21 {A : rS} (h : RI A) (i : Nat) {v : Int} : RI (up A 21 i v) := h.upd 21 i v (fun h => absurd h (by decide))
section RW
variable {p : Program} {l : Launch} {e : Env} {R : Room} {s : State} {m : MethodId} {args : Array Value} {below : List Frame} {meth : Method} {c : Code} {H : Heap} {locs : List Loc} {cells slots : Nat} {Q : State → Prop}
variable {cc : ByteArray} {pc nL : Nat} {ls : Array Slot} {rest : List Value} {G : mG} {ρ : Nat → Nat} {D : Nat → Prop} {H0 : Heap} {μ : mM} {z : Nat} {own : String} {A : rS}
theorem r_gets (C : mC G p c cc nL s m args own) (X : mX G ρ D H0 μ z H locs) (hR : RR A μ) {k idx : Nat} {w : Int} (F : mF own idx 6 k) (hk : rar k = false) (hr : mrf 6 k = false) (hw : A k 0 = w) (hd : decode cc pc = .ok (.getfield idx, 3))
    (kk : W p l e R s m args below meth c H locs cells slots Q (F0 m (pc + 3) ls (.int (iv w) :: rest))) : W p l e R s m args below meth c H locs cells slots Q (F0 m pc ls (.ref (ρ 6) :: rest)) := m_geti C X F hR.1 hr (hw ▸ hR.s k hk) hd kk
theorem r_geta (C : mC G p c cc nL s m args own) (X : mX G ρ D H0 μ z H locs) (hR : RR A μ) {k idx : Nat} (F : mF own idx 6 k) (hk : rar k = true) (hr : mrf 6 k = true) (hd : decode cc pc = .ok (.getfield idx, 3))
    (kk : W p l e R s m args below meth c H locs cells slots Q (F0 m (pc + 3) ls (.ref (ρ (aK k)) :: rest))) : W p l e R s m args below meth c H locs cells slots Q (F0 m pc ls (.ref (ρ 6) :: rest)) := m_getr C X F hR.1 hr (hR.q k hk) hd kk
theorem r_puts (C : mC G p c cc nL s m args own) (X : mX G ρ D H0 μ z H locs) (hR : RR A μ) {k idx : Nat} {v : Int} (F : mFw own idx 6 k) (hk : rar k = false) (ht : mty 6 k = .int) (hd : decode cc pc = .ok (.putfield idx, 3))
    (kk : ∀ (H' : Heap) (locs' : List Loc), mX G ρ D H0 (setI μ 6 k (iv v)) z H' locs' → RR (up A k 0 v) (setI μ 6 k (iv v)) → W p l e R s m args below meth c H' locs' cells slots Q (F0 m (pc + 3) ls rest)) : W p l e R s m args below meth c H locs cells slots Q (F0 m pc ls (.int (iv v) :: .ref (ρ 6) :: rest)) :=
  m_puti C X F hR.1 ht hd (fun H' locs' X' => kk H' locs' X' (hR.setS k hk v))
theorem r_iald (C : mC G p c cc nL s m args own) (X : mX G ρ D H0 μ z H locs) (hR : RR A μ) (k : Nat) (hk : rar k = true) (h0 : rkd k = 0) {x w : Int} (h1 : 0 ≤ x) (h2 : x < rln k) (hw : A k x.toNat = w) (hd : decode cc pc = .ok (.iaload, 1))
    (kk : W p l e R s m args below meth c H locs cells slots Q (F0 m (pc + 1) ls (.int (iv w) :: rest))) : W p l e R s m args below meth c H locs cells slots Q (F0 m pc ls (.int (iv x) :: .ref (ρ (aK k)) :: rest)) := by
  have hh := hR.h k hk
  rw [h0] at hh
  exact m_iald C X hh (iv_nat h1) (by omega) (by unfold rln; split <;> decide) (hw ▸ hR.a k hk (by omega)) hd kk
theorem r_zald (C : mC G p c cc nL s m args own) (X : mX G ρ D H0 μ z H locs) (hR : RR A μ) (k : Nat) (hk : rar k = true) (h0 : rkd k = 1) {x w : Int} (h1 : 0 ≤ x) (h2 : x < rln k) (hw : A k x.toNat = w) (hd : decode cc pc = .ok (.baload, 1))
    (kk : W p l e R s m args below meth c H locs cells slots Q (F0 m (pc + 1) ls (.int (iv w) :: rest))) : W p l e R s m args below meth c H locs cells slots Q (F0 m pc ls (.int (iv x) :: .ref (ρ (aK k)) :: rest)) := by
  have hh := hR.h k hk
  rw [h0] at hh
  exact m_zald C X hh (iv_nat h1) (by omega) (by unfold rln; split <;> decide) (hw ▸ hR.a k hk (by omega)) hd kk
theorem r_iast (C : mC G p c cc nL s m args own) (X : mX G ρ D H0 μ z H locs) (hR : RR A μ) (k : Nat) (hk : rar k = true) (h0 : rkd k = 0) {x v : Int} (h1 : 0 ≤ x) (h2 : x < rln k) (hd : decode cc pc = .ok (.iastore, 1))
    (kk : ∀ (H' : Heap) (locs' : List Loc), mX G ρ D H0 (setI μ (aK k) x.toNat (iv v)) z H' locs' → RR (up A k x.toNat v) (setI μ (aK k) x.toNat (iv v)) → W p l e R s m args below meth c H' locs' cells slots Q (F0 m (pc + 1) ls rest)) : W p l e R s m args below meth c H locs cells slots Q (F0 m pc ls (.int (iv v) :: .int (iv x) :: .ref (ρ (aK k)) :: rest)) := by
  have hh := hR.h k hk
  rw [h0] at hh
  exact m_iast C X hh (iv_nat h1) (by omega) (by unfold rln; split <;> decide) hd (fun H' locs' X' => kk H' locs' X' (hR.setA k hk _ v))
theorem r_zast (C : mC G p c cc nL s m args own) (X : mX G ρ D H0 μ z H locs) (hR : RR A μ) (k : Nat) (hk : rar k = true) (h0 : rkd k = 1) {x v : Int} (h1 : 0 ≤ x) (h2 : x < rln k) (hv : v = 0 ∨ v = 1) (hd : decode cc pc = .ok (.bastore, 1))
    (kk : ∀ (H' : Heap) (locs' : List Loc), mX G ρ D H0 (setI μ (aK k) x.toNat (iv v)) z H' locs' → RR (up A k x.toNat v) (setI μ (aK k) x.toNat (iv v)) → W p l e R s m args below meth c H' locs' cells slots Q (F0 m (pc + 1) ls rest)) : W p l e R s m args below meth c H locs cells slots Q (F0 m pc ls (.int (iv v) :: .int (iv x) :: .ref (ρ (aK k)) :: rest)) := by
  have hh := hR.h k hk
  rw [h0] at hh
  exact m_zast C X hh (iv_nat h1) (by omega) (by unfold rln; split <;> decide) (by rcases hv with rfl | rfl <;> decide) hd (fun H' locs' X' => kk H' locs' X' (hR.setA k hk _ v))
end RW
