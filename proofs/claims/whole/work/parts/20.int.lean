/-! ints as integers: iv x, and what the machine does with them -/
def iv (x : Int) : Int32 := Int32.ofInt x
abbrev rng (x : Int) : Prop := -2147483648 ≤ x ∧ x < 2147483648
theorem iv_toInt {x : Int} (h : rng x) : (iv x).toInt = x := by
  obtain ⟨h1, h2⟩ := h
  exact Int32.toInt_ofInt_of_le (by omega) (by omega)
theorem iv_of (x : Int32) : x = iv x.toInt := (Int32.ofInt_toInt x).symm
theorem iv_rng (x : Int32) : rng x.toInt := ⟨Int32.le_toInt x, Int32.toInt_lt x⟩
theorem iv_add (x y : Int) : iv x + iv y = iv (x + y) := (Int32.ofInt_add x y).symm
theorem iv_sub (x y : Int) : iv x - iv y = iv (x - y) := (Int32.ofInt_sub x y).symm
theorem iv_mul (x y : Int) : iv x * iv y = iv (x * y) := (Int32.ofInt_mul x y).symm
theorem iv_lt {x y : Int} (hx : rng x) (hy : rng y) : iv x < iv y ↔ x < y := by rw [Int32.lt_iff_toInt_lt, iv_toInt hx, iv_toInt hy]
theorem iv_le {x y : Int} (hx : rng x) (hy : rng y) : iv x ≤ iv y ↔ x ≤ y := by rw [Int32.le_iff_toInt_le, iv_toInt hx, iv_toInt hy]
theorem iv_eq {x y : Int} (hx : rng x) (hy : rng y) : iv x = iv y ↔ x = y := by rw [← Int32.toInt_inj, iv_toInt hx, iv_toInt hy]
theorem iv_nI (n : Nat) : nI n = iv (n : Int) := Int32.ofInt_eq_ofNat.symm
theorem iv_nat {x : Int} (h : 0 ≤ x) : iv x = nI x.toNat := by rw [iv_nI, Int.toNat_of_nonneg h]
theorem iv_inj {x : Int} {v : Int32} (h : v = iv x) (hx : rng x) : v.toInt = x := by rw [h, iv_toInt hx]
section MI
variable {p : Program} {l : Launch} {e : Env} {R : Room} {s : State} {m : MethodId} {args : Array Value} {below : List Frame} {meth : Method} {c : Code} {H : Heap} {locs : List Loc} {cells slots : Nat} {Q : State → Prop}
variable {cc : ByteArray} {pc nL : Nat} {ls : Array Slot} {rest : List Value} {L : List (Option Value)}
theorem m_iadd {x y : Int} (hx : p.tables.exec = Jvm.exec) (hb : c.code = cc) (hd : decode cc pc = .ok (.iadd, 1)) (kk : W p l e R s m args below meth c H locs cells slots Q (F0 m (pc + 1) ls (.int (iv (x + y)) :: rest))) : W p l e R s m args below meth c H locs cells slots Q (F0 m pc ls (.int (iv y) :: .int (iv x) :: rest)) := lv_iadd hx hb hd (by rw [iv_add]; exact kk)
theorem m_isub {x y : Int} (hx : p.tables.exec = Jvm.exec) (hb : c.code = cc) (hd : decode cc pc = .ok (.isub, 1)) (kk : W p l e R s m args below meth c H locs cells slots Q (F0 m (pc + 1) ls (.int (iv (x - y)) :: rest))) : W p l e R s m args below meth c H locs cells slots Q (F0 m pc ls (.int (iv y) :: .int (iv x) :: rest)) := lv_isub hx hb hd (by rw [iv_sub]; exact kk)
theorem m_imul {x y : Int} (hx : p.tables.exec = Jvm.exec) (hb : c.code = cc) (hd : decode cc pc = .ok (.imul, 1)) (kk : W p l e R s m args below meth c H locs cells slots Q (F0 m (pc + 1) ls (.int (iv (x * y)) :: rest))) : W p l e R s m args below meth c H locs cells slots Q (F0 m pc ls (.int (iv y) :: .int (iv x) :: rest)) := lv_imul hx hb hd (by rw [iv_mul]; exact kk)
theorem m_iincv (hx : p.tables.exec = Jvm.exec) (hb : c.code = cc) (hL : lq ls L) {i : Nat} {n x : Int} (hd : decode cc pc = .ok (.iinc i n, 3)) (h : L[i]? = some (some (.int (iv x))))
    (kk : ∀ ls' : Array Slot, lq ls' (L.set i (some (.int (iv (x + n))))) → W p l e R s m args below meth c H locs cells slots Q (F0 m (pc + 3) ls' rest)) : W p l e R s m args below meth c H locs cells slots Q (F0 m pc ls rest) := m_iinc hx hb hL hd h (iv_add x n) kk
theorem m_if_eq (hx : p.tables.exec = Jvm.exec) (hb : c.code = cc) {x : Int} {off : Int} {tgt : Nat} (hd : decode cc pc = .ok (.ifCond .eq off, 3)) (ht : (pc : Int) + off = (tgt : Int)) (rx : rng x)
    (kt : x = 0 → W p l e R s m args below meth c H locs cells slots Q (F0 m tgt ls rest)) (kf : x ≠ 0 → W p l e R s m args below meth c H locs cells slots Q (F0 m (pc + 3) ls rest)) : W p l e R s m args below meth c H locs cells slots Q (F0 m pc ls (.int (iv x) :: rest)) :=
  lv_if_eq hx hb hd ht (fun h => kt ((iv_eq (y := 0) rx (by decide)).mp h)) (fun h => kf (fun q => h ((iv_eq (y := 0) rx (by decide)).mpr q)))
theorem m_if_ne (hx : p.tables.exec = Jvm.exec) (hb : c.code = cc) {x : Int} {off : Int} {tgt : Nat} (hd : decode cc pc = .ok (.ifCond .ne off, 3)) (ht : (pc : Int) + off = (tgt : Int)) (rx : rng x)
    (kt : x ≠ 0 → W p l e R s m args below meth c H locs cells slots Q (F0 m tgt ls rest)) (kf : x = 0 → W p l e R s m args below meth c H locs cells slots Q (F0 m (pc + 3) ls rest)) : W p l e R s m args below meth c H locs cells slots Q (F0 m pc ls (.int (iv x) :: rest)) :=
  lv_if_ne hx hb hd ht (fun h => kt (fun q => h ((iv_eq (y := 0) rx (by decide)).mpr q))) (fun h => kf ((iv_eq (y := 0) rx (by decide)).mp h))
theorem m_if_lt (hx : p.tables.exec = Jvm.exec) (hb : c.code = cc) {x : Int} {off : Int} {tgt : Nat} (hd : decode cc pc = .ok (.ifCond .lt off, 3)) (ht : (pc : Int) + off = (tgt : Int)) (rx : rng x)
    (kt : x < 0 → W p l e R s m args below meth c H locs cells slots Q (F0 m tgt ls rest)) (kf : ¬ x < 0 → W p l e R s m args below meth c H locs cells slots Q (F0 m (pc + 3) ls rest)) : W p l e R s m args below meth c H locs cells slots Q (F0 m pc ls (.int (iv x) :: rest)) :=
  lv_if_lt hx hb hd ht (fun h => kt ((iv_lt (y := 0) rx (by decide)).mp h)) (fun h => kf (fun q => h ((iv_lt (y := 0) rx (by decide)).mpr q)))
theorem m_if_ge (hx : p.tables.exec = Jvm.exec) (hb : c.code = cc) {x : Int} {off : Int} {tgt : Nat} (hd : decode cc pc = .ok (.ifCond .ge off, 3)) (ht : (pc : Int) + off = (tgt : Int)) (rx : rng x)
    (kt : 0 ≤ x → W p l e R s m args below meth c H locs cells slots Q (F0 m tgt ls rest)) (kf : ¬ 0 ≤ x → W p l e R s m args below meth c H locs cells slots Q (F0 m (pc + 3) ls rest)) : W p l e R s m args below meth c H locs cells slots Q (F0 m pc ls (.int (iv x) :: rest)) :=
  lv_if_ge hx hb hd ht (fun h => kt ((iv_le (x := 0) (by decide) rx).mp h)) (fun h => kf (fun q => h ((iv_le (x := 0) (by decide) rx).mpr q)))
theorem m_if_le (hx : p.tables.exec = Jvm.exec) (hb : c.code = cc) {x : Int} {off : Int} {tgt : Nat} (hd : decode cc pc = .ok (.ifCond .le off, 3)) (ht : (pc : Int) + off = (tgt : Int)) (rx : rng x)
    (kt : x ≤ 0 → W p l e R s m args below meth c H locs cells slots Q (F0 m tgt ls rest)) (kf : ¬ x ≤ 0 → W p l e R s m args below meth c H locs cells slots Q (F0 m (pc + 3) ls rest)) : W p l e R s m args below meth c H locs cells slots Q (F0 m pc ls (.int (iv x) :: rest)) :=
  lv_if_le hx hb hd ht (fun h => kt ((iv_le (y := 0) rx (by decide)).mp h)) (fun h => kf (fun q => h ((iv_le (y := 0) rx (by decide)).mpr q)))
theorem m_icmp_eq (hx : p.tables.exec = Jvm.exec) (hb : c.code = cc) {x y : Int} {off : Int} {tgt : Nat} (hd : decode cc pc = .ok (.if_icmp .eq off, 3)) (ht : (pc : Int) + off = (tgt : Int)) (rx : rng x) (ry : rng y)
    (kt : x = y → W p l e R s m args below meth c H locs cells slots Q (F0 m tgt ls rest)) (kf : x ≠ y → W p l e R s m args below meth c H locs cells slots Q (F0 m (pc + 3) ls rest)) : W p l e R s m args below meth c H locs cells slots Q (F0 m pc ls (.int (iv y) :: .int (iv x) :: rest)) :=
  lv_icmp_eq hx hb hd ht (fun h => kt ((iv_eq rx ry).mp h)) (fun h => kf (fun q => h ((iv_eq rx ry).mpr q)))
theorem m_icmp_ne (hx : p.tables.exec = Jvm.exec) (hb : c.code = cc) {x y : Int} {off : Int} {tgt : Nat} (hd : decode cc pc = .ok (.if_icmp .ne off, 3)) (ht : (pc : Int) + off = (tgt : Int)) (rx : rng x) (ry : rng y)
    (kt : x ≠ y → W p l e R s m args below meth c H locs cells slots Q (F0 m tgt ls rest)) (kf : x = y → W p l e R s m args below meth c H locs cells slots Q (F0 m (pc + 3) ls rest)) : W p l e R s m args below meth c H locs cells slots Q (F0 m pc ls (.int (iv y) :: .int (iv x) :: rest)) :=
  lv_icmp_ne hx hb hd ht (fun h => kt (fun q => h ((iv_eq rx ry).mpr q))) (fun h => kf ((iv_eq rx ry).mp h))
theorem m_icmp_lt (hx : p.tables.exec = Jvm.exec) (hb : c.code = cc) {x y : Int} {off : Int} {tgt : Nat} (hd : decode cc pc = .ok (.if_icmp .lt off, 3)) (ht : (pc : Int) + off = (tgt : Int)) (rx : rng x) (ry : rng y)
    (kt : x < y → W p l e R s m args below meth c H locs cells slots Q (F0 m tgt ls rest)) (kf : ¬ x < y → W p l e R s m args below meth c H locs cells slots Q (F0 m (pc + 3) ls rest)) : W p l e R s m args below meth c H locs cells slots Q (F0 m pc ls (.int (iv y) :: .int (iv x) :: rest)) :=
  lv_icmp_lt hx hb hd ht (fun h => kt ((iv_lt rx ry).mp h)) (fun h => kf (fun q => h ((iv_lt rx ry).mpr q)))
theorem m_icmp_ge (hx : p.tables.exec = Jvm.exec) (hb : c.code = cc) {x y : Int} {off : Int} {tgt : Nat} (hd : decode cc pc = .ok (.if_icmp .ge off, 3)) (ht : (pc : Int) + off = (tgt : Int)) (rx : rng x) (ry : rng y)
    (kt : y ≤ x → W p l e R s m args below meth c H locs cells slots Q (F0 m tgt ls rest)) (kf : ¬ y ≤ x → W p l e R s m args below meth c H locs cells slots Q (F0 m (pc + 3) ls rest)) : W p l e R s m args below meth c H locs cells slots Q (F0 m pc ls (.int (iv y) :: .int (iv x) :: rest)) :=
  lv_icmp_ge hx hb hd ht (fun h => kt ((iv_le ry rx).mp h)) (fun h => kf (fun q => h ((iv_le ry rx).mpr q)))
theorem m_icmp_gt (hx : p.tables.exec = Jvm.exec) (hb : c.code = cc) {x y : Int} {off : Int} {tgt : Nat} (hd : decode cc pc = .ok (.if_icmp .gt off, 3)) (ht : (pc : Int) + off = (tgt : Int)) (rx : rng x) (ry : rng y)
    (kt : y < x → W p l e R s m args below meth c H locs cells slots Q (F0 m tgt ls rest)) (kf : ¬ y < x → W p l e R s m args below meth c H locs cells slots Q (F0 m (pc + 3) ls rest)) : W p l e R s m args below meth c H locs cells slots Q (F0 m pc ls (.int (iv y) :: .int (iv x) :: rest)) :=
  lv_icmp_gt hx hb hd ht (fun h => kt ((iv_lt ry rx).mp h)) (fun h => kf (fun q => h ((iv_lt ry rx).mpr q)))
theorem m_icmp_le (hx : p.tables.exec = Jvm.exec) (hb : c.code = cc) {x y : Int} {off : Int} {tgt : Nat} (hd : decode cc pc = .ok (.if_icmp .le off, 3)) (ht : (pc : Int) + off = (tgt : Int)) (rx : rng x) (ry : rng y)
    (kt : x ≤ y → W p l e R s m args below meth c H locs cells slots Q (F0 m tgt ls rest)) (kf : ¬ x ≤ y → W p l e R s m args below meth c H locs cells slots Q (F0 m (pc + 3) ls rest)) : W p l e R s m args below meth c H locs cells slots Q (F0 m pc ls (.int (iv y) :: .int (iv x) :: rest)) :=
  lv_icmp_le hx hb hd ht (fun h => kt ((iv_le rx ry).mp h)) (fun h => kf (fun q => h ((iv_le rx ry).mpr q)))
end MI
/-! the reference's state: component k (its field's number), place i -/
abbrev rS : Type := Nat → Nat → Int
def up (A : rS) (k i : Nat) (v : Int) : rS := fun k' i' => if k' = k ∧ i' = i then v else A k' i'
/-- is it an array, of what kind and length -/
def rar (k : Nat) : Bool := match k with
  | 3 => true
  | 4 => true
  | 5 => true
  | 7 => true
  | 8 => true
  | 9 => true
  | 10 => true
  | 11 => true
  | 12 => true
  | 13 => true
  | 14 => true
  | 15 => true
  | _ => false
def rkd (k : Nat) : Nat := match k with
  | 5 => 1
  | 12 => 1
  | 13 => 1
  | _ => 0
def rln (k : Nat) : Nat := match k with
  | 3 => 16
  | 4 => 16
  | 5 => 16
  | 11 => 13020
  | 14 => 10
  | _ => 620
def aK (k : Nat) : Nat := 16 * k + 12
def RR (A : rS) (μ : mM) : Prop := sh μ 6 = some (.inl 6) ∧ (∀ k, rar k = false → mi μ 6 k = iv (A k 0)) ∧ (∀ k, rar k = true → mq μ 6 k = some (aK k) ∧ sh μ (aK k) = some (.inr (rkd k, rln k)) ∧ ∀ i, i < rln k → mi μ (aK k) i = iv (A k i))
theorem RR.s {A : rS} {μ : mM} (h : RR A μ) (k : Nat) (hk : rar k = false) : mi μ 6 k = iv (A k 0) := h.2.1 k hk
theorem RR.q {A : rS} {μ : mM} (h : RR A μ) (k : Nat) (hk : rar k = true) : mq μ 6 k = some (aK k) := (h.2.2 k hk).1
theorem RR.h {A : rS} {μ : mM} (h : RR A μ) (k : Nat) (hk : rar k = true) : sh μ (aK k) = some (.inr (rkd k, rln k)) := (h.2.2 k hk).2.1
theorem RR.a {A : rS} {μ : mM} (h : RR A μ) (k : Nat) (hk : rar k = true) {i : Nat} (hi : i < rln k) : mi μ (aK k) i = iv (A k i) := (h.2.2 k hk).2.2 i hi
theorem RR.setS {A : rS} {μ : mM} (h : RR A μ) (k : Nat) (hk : rar k = false) (v : Int) : RR (up A k 0 v) (setI μ 6 k (iv v)) := by
  refine ⟨h.1, fun j hj => ?_, fun j hj => ⟨h.q j hj, h.h j hj, fun i hi => ?_⟩⟩
  · rw [mi_I]
    unfold up
    by_cases e : j = k
    · simp [e]
    · simp [e, h.s j hj]
  · rw [mi_I, if_neg (by unfold aK; omega), h.a j hj hi]
    unfold up
    rw [if_neg (fun q => by rw [q.1, hk] at hj; cases hj)]
theorem RR.setA {A : rS} {μ : mM} (h : RR A μ) (k : Nat) (hk : rar k = true) (i : Nat) (v : Int) : RR (up A k i v) (setI μ (aK k) i (iv v)) := by
  refine ⟨h.1, fun j hj => ?_, fun j hj => ⟨h.q j hj, h.h j hj, fun i' hi => ?_⟩⟩
  · rw [mi_I, if_neg (by unfold aK; omega), h.s j hj]
    unfold up
    rw [if_neg (fun q => by rw [q.1, hk] at hj; cases hj)]
  · rw [mi_I]
    unfold up
    by_cases e : j = k ∧ i' = i
    · rw [if_pos (by unfold aK; omega), if_pos e]
    · rw [if_neg (by unfold aK; omega), if_neg e, h.a j hj hi]
