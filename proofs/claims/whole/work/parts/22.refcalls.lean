/-! contracts of the reference's methods: from the state A to the state A', nothing else is touched -/
def rad (a : Nat) : Prop := a = 6 ∨ ∃ k, a = aK k
def rfr (μ μ' : mM) : Prop := (∀ a, sh μ' a = sh μ a) ∧ (∀ a k, mq μ' a k = mq μ a k) ∧ (∀ a k, mj μ' a k = mj μ a k) ∧ ∀ a k, ¬ rad a → mi μ' a k = mi μ a k
theorem rfr.rf (μ : mM) : rfr μ μ := ⟨fun _ => rfl, fun _ _ => rfl, fun _ _ => rfl, fun _ _ _ => rfl⟩
theorem rfr.tr {μ μ1 μ2 : mM} (h : rfr μ μ1) (h' : rfr μ1 μ2) : rfr μ μ2 := ⟨fun a => (h'.1 a).trans (h.1 a), fun a k => (h'.2.1 a k).trans (h.2.1 a k), fun a k => (h'.2.2.1 a k).trans (h.2.2.1 a k), fun a k n => (h'.2.2.2 a k n).trans (h.2.2.2 a k n)⟩
theorem rfr.s {μ μ1 : mM} (h : rfr μ μ1) (k : Nat) (v : Int32) : rfr μ (setI μ1 6 k v) := ⟨h.1, h.2.1, h.2.2.1, fun a j n => by rw [mi_I, if_neg (fun q => n (Or.inl q.1))]; exact h.2.2.2 a j n⟩
theorem rfr.a {μ μ1 : mM} (h : rfr μ μ1) (k i : Nat) (v : Int32) : rfr μ (setI μ1 (aK k) i v) := ⟨h.1, h.2.1, h.2.2.1, fun a j n => by rw [mi_I, if_neg (fun q => n (Or.inr ⟨k, q.1⟩))]; exact h.2.2.2 a j n⟩
abbrev rm (fr lo mc ms : Nat) : Room := { frames := fr, cells := mc, slots := ms, locals := lo }
abbrev wQ (G : mG) (ρ : Nat → Nat) (μ : mM) (z : Nat) (Post : Option Value → mM → Nat → Prop) (below : List Frame) (args : Array Value) (s : State) (mc ms : Nat) : State → Prop := MQ below (mQc G ρ μ z Post) args s mc ms (mA ρ μ z)
def rP (v0 : Option Value) (A' : rS) (μ : mM) (z : Nat) : Option Value → mM → Nat → Prop := fun v μ' z' => v = v0 ∧ z' = z ∧ RR A' μ' ∧ rfr μ μ'
abbrev MR (G : mG) (l : Launch) (y : MethodName) (cy : ByteArray) (ny : Nat) (ret : Option FieldType) (fr lo z : Nat) (ρ : Nat → Nat) (As : List Value) (μ : mM) (v0 : Option Value) (A' : rS) : Prop := MC G l y cy ny ret fr lo 0 0 z ρ As μ (rP v0 A' μ z)
section RC
variable {p : Program} {l : Launch} {e : Env} {R : Room} {s : State} {m : MethodId} {args : Array Value} {below : List Frame} {meth : Method} {c : Code} {H : Heap} {locs : List Loc} {cells slots : Nat} {Q : State → Prop}
variable {cc : ByteArray} {pc nL : Nat} {ls : Array Slot} {rest st0 : List Value} {G : mG} {ρ : Nat → Nat} {D : Nat → Prop} {H0 : Heap} {μ μ0 : mM} {z z0 : Nat} {own : String} {A A' : rS}
variable {y : MethodName} {cy : ByteArray} {ny n fr lo idx : Nat} {ret : Option FieldType} {As : List Value} {v0 : Option Value}
theorem r_vret (C : mC G p c cc nL s m args own) (X : mX G ρ (mA ρ μ0 z) s.heap μ z H locs) (hR : RR A μ) (hf : rfr μ0 μ) (hr : meth.sig.returnType = none) (hlk : meth.locks = false) (he : A = A') (hd : decode cc pc = .ok (.return_, 1)) : W p l e R s m args below meth c H locs cells slots (MQ below (mQc G ρ μ0 z (rP none A' μ0 z)) args s cells slots (mA ρ μ0 z)) (F0 m pc ls []) := m_vret C X hr hlk ⟨rfl, rfl, he ▸ hR, hf⟩ hd
theorem r_iret (C : mC G p c cc nL s m args own) (X : mX G ρ (mA ρ μ0 z) s.heap μ z H locs) (hR : RR A μ) (hf : rfr μ0 μ) {v w : Int} (hr : meth.sig.returnType = some .int) (hlk : meth.locks = false) (he : A = A') (hv : v = w) (hd : decode cc pc = .ok (.ireturn, 1)) : W p l e R s m args below meth c H locs cells slots (MQ below (mQc G ρ μ0 z (rP (some (.int (iv w))) A' μ0 z)) args s cells slots (mA ρ μ0 z)) (F0 m pc ls [.int (iv v)]) := m_iret C X hr hlk ⟨by rw [hv], rfl, he ▸ hR, hf⟩ hd
theorem r_zret (C : mC G p c cc nL s m args own) (X : mX G ρ (mA ρ μ0 z) s.heap μ z H locs) (hR : RR A μ) (hf : rfr μ0 μ) {v w : Int} (hr : meth.sig.returnType = some .boolean) (hlk : meth.locks = false) (he : A = A') (hv : v = w) (h01 : v = 0 ∨ v = 1) (hd : decode cc pc = .ok (.ireturn, 1)) : W p l e R s m args below meth c H locs cells slots (MQ below (mQc G ρ μ0 z (rP (some (.int (iv w))) A' μ0 z)) args s cells slots (mA ρ μ0 z)) (F0 m pc ls [.int (iv v)]) := m_zret C X hr hlk (by rcases h01 with rfl | rfl <;> decide) ⟨by rw [hv], rfl, he ▸ hR, hf⟩ hd
theorem r_call (C : mC G p c cc nL s m args own) (X : mX G ρ D H0 μ z H locs) (hR : RR A μ) (hf : rfr μ0 μ) (hM : MR G l y cy ny ret fr lo z ρ (.ref (ρ 6) :: As) μ v0 A') (F : mV own idx y cy ny ret n 6) (hn : As.length = n) (hRm : fr + 1 ≤ R.frames ∧ 8 + (ny + 11) + lo ≤ R.locals) (hC : cells ≤ R.cells ∧ slots ≤ R.slots) (hls : ls.size = nL)
    (hst : st0 = As.reverse ++ .ref (ρ 6) :: rest) (hrest : (rest.map fun v => v.category).sum ≤ 8) (hd : decode cc pc = .ok (.invokevirtual idx, 3))
    (kk : ∀ (μ' : mM) (H' : Heap) (locs' : List Loc), mX G ρ D H0 μ' z H' locs' → RR A' μ' → rfr μ0 μ' → W p l e R s m args below meth c H' locs' cells slots Q (F0 m (pc + 3) ls (v0.toList ++ rest))) : W p l e R s m args below meth c H locs cells slots Q (F0 m pc ls st0) :=
  m_callV C X hM F hR.1 hn hRm hC hls hst hrest hd (fun v μ' z' H' locs' hp X' => by obtain ⟨rfl, rfl, h1, h2⟩ := hp; exact kk μ' H' locs' X' h1 (hf.tr h2))
theorem r_callS (C : mC G p c cc nL s m args own) (X : mX G ρ D H0 μ z H locs) (hR : RR A μ) (hf : rfr μ0 μ) (hM : MR G l y cy ny ret fr lo z ρ As μ v0 A') (F : mVs own idx y cy ny ret n) (hn : As.length = n) (hRm : fr + 1 ≤ R.frames ∧ 8 + (ny + 11) + lo ≤ R.locals) (hC : cells ≤ R.cells ∧ slots ≤ R.slots) (hls : ls.size = nL)
    (hst : st0 = As.reverse ++ rest) (hrest : (rest.map fun v => v.category).sum ≤ 8) (hd : decode cc pc = .ok (.invokestatic idx, 3))
    (kk : ∀ (μ' : mM) (H' : Heap) (locs' : List Loc), mX G ρ D H0 μ' z H' locs' → RR A' μ' → rfr μ0 μ' → W p l e R s m args below meth c H' locs' cells slots Q (F0 m (pc + 3) ls (v0.toList ++ rest))) : W p l e R s m args below meth c H locs cells slots Q (F0 m pc ls st0) :=
  m_callS C X hM F hn hRm hC hls hst hrest hd (fun v μ' z' H' locs' hp X' => by obtain ⟨rfl, rfl, h1, h2⟩ := hp; exact kk μ' H' locs' X' h1 (hf.tr h2))
end RC
/-! the reference's methods, as functions -/
def bZ (P : Prop) [Decidable P] : Int := if P then 1 else 0
theorem bZ_or (P : Prop) [Decidable P] : bZ P = 0 ∨ bZ P = 1 := by unfold bZ; split <;> simp
theorem bZ_t {P : Prop} [Decidable P] (h : P) : bZ P = 1 := if_pos h
theorem bZ_f {P : Prop} [Decidable P] (h : ¬ P) : bZ P = 0 := if_neg h
def rThr (one two : Int) : Int := if one = 0 then 1 else if two = 0 then 2 else 0
def rGood (A : rS) (one two : Int) : rS := up A 0 0 (rThr one two)
def rIsReg (k : Int) : Int := bZ (0 ≤ k ∧ k < 10)
def rPlace (A : rS) (x : Int) : Int := if x = -1 then -1 else 128 * A 7 x.toNat + A 8 x.toNat
/-- the first region from x on that has a state -/
def rWs (A : rS) (st : Int) : Nat → Int → Int
  | 0, _ => -1
  | f + 1, x => if A 1 0 ≤ x then -1 else if A 3 x.toNat = st then x else rWs A st f (x + 1)
def rWith (A : rS) (st : Int) : Int := rWs A st 20 0
def rSi (A : rS) (r : Int) : Nat → Int → Int → Int
  | 0, _, n => n
  | f + 1, x, n => if A 6 0 ≤ x then n else if A 3 r.toNat = 0 then n else rSi A r f (x + 1) (if A 7 x.toNat = r ∧ A 12 x.toNat ≠ 0 then n + A 9 x.toNat else n)
def rSeenIn (A : rS) (r : Int) : Int := rSi A r 700 0 0
def rSee (A : rS) (x : Int) : rS := if x = -1 then A else if A 12 x.toNat = 0 then up (up (up A 12 x.toNat 1) 15 (A 17 0).toNat x) 17 0 (A 17 0 + 1) else A
def rClr : Nat → Int → rS → rS
  | 0, _, A => A
  | f + 1, x, A => if A 6 0 ≤ x then A else rClr f (x + 1) (up (up A 12 x.toNat 0) 13 x.toNat 0)
def rSeeR : Nat → Int → rS → rS
  | 0, _, A => A
  | f + 1, x, A => if 10 ≤ x then A else rSeeR f (x + 1) (rSee A (A 14 x.toNat))
def rStart (A : rS) : rS := up (rSeeR 20 0 (up (up (rClr 700 0 A) 16 0 0) 17 0 0)) 18 0 1
def rSeeF (o : Int) : Nat → Int → rS → rS
  | 0, _, A => A
  | f + 1, x, A => if A 9 o.toNat - 2 ≤ x then A else rSeeF o f (x + 1) (rSee A (A 11 (21 * o + x).toNat))
def rChoose : Nat → Int → rS → rS
  | 0, _, A => A
  | f + 1, x, A => if A 1 0 ≤ x then A else rChoose f (x + 1) (up (up A 5 x.toNat 0) 3 x.toNat (if A 3 x.toNat = 3 ∧ A 2 0 < A 4 x.toNat - rSeenIn (up A 5 x.toNat 0) x then 4 else A 3 x.toNat))
def rMark (A : rS) : rS := if A 17 0 ≤ A 16 0 then up (rChoose 20 0 A) 18 0 2 else rSeeF (A 15 (A 16 0).toNat) 30 0 (up A 16 0 (A 16 0 + 1))
def rToMove (A : rS) (o : Int) : Int := bZ (A 12 o.toNat ≠ 0 ∧ A 13 o.toNat = 0 ∧ A 3 (A 7 o.toNat).toNat = 4)
/-- into the region t -/
def rInto (A : rS) (o t : Int) : rS := up (up (up (up A 7 o.toNat t) 8 o.toNat (A 4 t.toNat)) 4 t.toNat (A 4 t.toNat + A 9 o.toNat)) 20 0 (A 20 0 + 1)
def rCarry (A : rS) (o : Int) : rS :=
  if rWith A 2 = -1 ∨ 128 < A 4 (rWith A 2).toNat + A 9 o.toNat then
    (if rWith A 0 = -1 then up (up (up A 13 o.toNat 1) 5 (A 7 o.toNat).toNat 1) 21 0 (A 21 0 + 1)
     else rInto (up (up (if rWith A 2 = -1 then A else up A 3 (rWith A 2).toNat 3) 3 (rWith A 0).toNat 2) 4 (rWith A 0).toNat 0) o (rWith A 0))
  else rInto A o (rWith A 2)
def rBest (A : rS) : Nat → Int → Int → Int
  | 0, _, b => b
  | f + 1, x, b => if A 6 0 ≤ x then b else rBest A f (x + 1) (if rToMove A x = 1 ∧ (b = -1 ∨ rPlace A x < rPlace A b) then x else b)
def rBst (A : rS) : Int := rBest A 700 0 (-1)
def rMoveOne (A : rS) : rS := if rBst A = -1 then up (up A 18 0 3) 19 0 0 else rCarry A (rBst A)
def rEnd1 (A : rS) (x : Int) : rS := if A 3 x.toNat = 4 ∧ A 5 x.toNat = 0 then up (up A 3 x.toNat 0) 4 x.toNat 0 else A
def rEnd2 (A : rS) (x : Int) : rS := up A 3 x.toNat (if A 3 x.toNat = 4 ∨ A 3 x.toNat = 2 then 3 else A 3 x.toNat)
def rEnd : Nat → Int → rS → rS
  | 0, _, A => A
  | f + 1, x, A => if A 1 0 ≤ x then A else rEnd f (x + 1) (rEnd2 (rEnd1 A x) x)
def rUpdate (A : rS) : rS := if A 19 0 + 1 < A 1 0 then up A 19 0 (A 19 0 + 1) else up (rEnd 20 0 (up A 19 0 (A 19 0 + 1))) 18 0 0
def rHas1 (A : rS) (n : Int) : rS := if rWith A 1 ≠ -1 ∧ 128 < A 4 (rWith A 1).toNat + n then up A 3 (rWith A 1).toNat 3 else A
def rHasB (A : rS) (n : Int) : Prop := rWith A 1 ≠ -1 ∧ A 4 (rWith A 1).toNat + n ≤ 128
/-- a region with room is active: the state, and the answer -/
def rHas2 (A : rS) : rS := if rWith A 0 = -1 then A else up A 3 (rWith A 0).toNat 1
def rHas (A : rS) (n : Int) : rS := if rWith A 1 ≠ -1 ∧ A 4 (rWith A 1).toNat + n ≤ 128 then A else rHas2 (rHas1 A n)
def rHasV (A : rS) (n : Int) : Int := if rWith A 1 ≠ -1 ∧ A 4 (rWith A 1).toNat + n ≤ 128 then 1 else if rWith (rHas1 A n) 0 = -1 then 0 else 1
def rUnit (A : rS) : rS := if A 18 0 = 1 then rMark A else if A 18 0 = 2 then rMoveOne A else if A 18 0 = 3 then rUpdate A else A
theorem MR.of {G : mG} {l : Launch} {y : MethodName} {cy : ByteArray} {ny : Nat} {ret : Option FieldType} {fr lo z : Nat} {ρ : Nat → Nat} {As : List Value} {μ0 : mM} {v0 : Option Value} {A A' : rS} (hR : RR A μ0)
    (hy : plainName y.cls = true) (hc : ∀ v ∈ As, v.category = 1) (hn : (lg_sl As).length ≤ ny) (hn2 : As.length ≤ ny)
    (body : ∀ (p : Program) (e : Env) (s : State) (m : MethodId) (args : Array Value) (below : List Frame) (meth : Method) (c : Code) (ls : Array Slot) (H : Heap) (locs : List Loc) (μ : mM), mC G p c cy ny s m args y.cls → p.tables.exec = Jvm.exec → c.code = cy → meth.sig.returnType = ret → meth.locks = false →
      mX G ρ (mA ρ μ0 z) s.heap μ z H locs → RR A μ → rfr μ0 μ → lq ls (As.map some ++ List.replicate (ny - As.length) none) →
      W p l e (rm fr lo 0 0) s m args below meth c H locs 0 0 (wQ G ρ μ0 z (rP v0 A' μ0 z) below args s 0 0) (F0 m 0 ls [])) : MR G l y cy ny ret fr lo z ρ As μ0 v0 A' :=
  MC.of hy hc hn hn2 (fun p e s m args below meth c ls C hr hlk _ X hL => body p e s m args below meth c ls s.heap [] μ0 C C.1 C.2.1 hr hlk X hR (rfr.rf μ0) hL)
theorem vcat_r {a : Nat} : (Value.ref a).category = 1 := rfl
theorem lq_none {ls : Array Slot} {L : List (Option Value)} (i : Nat) (h : lq ls L) : lq ls (L.set i none) := by
  refine ⟨by rw [List.length_set]; exact h.1, h.2.1, fun j v hj => ?_⟩
  rw [List.getElem?_set] at hj
  split at hj
  · split at hj <;> cases hj
  · exact h.2.2 j v hj
