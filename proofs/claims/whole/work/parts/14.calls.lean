/-! new cells; contracts over the memory; calls; ends -/
theorem mfl_new (ci : Nat) (h : ci < 7) : ∀ j, j < mar ci → defaultValue (mty ci j) = vp_V (mfl ci (fun _ => 0) (fun _ => none)) j := by
  intro j hj
  have h1 : vp_V (mfl ci (fun _ => 0) (fun _ => none)) j = if mrf ci j = true then va_rf none else .int 0 := by
    unfold vp_V
    rw [List.getD_eq_getElem?_getD, mfl_get hj]
    rfl
  rw [h1]
  clear h1
  match ci, h with
  | 0, _ => revert hj; revert j; decide +kernel
  | 1, _ => revert hj; revert j; decide +kernel
  | 2, _ => revert hj; revert j; decide +kernel
  | 3, _ => revert hj; revert j; decide +kernel
  | 4, _ => revert hj; revert j; decide +kernel
  | 5, _ => revert hj; revert j; decide +kernel
  | 6, _ => revert hj; revert j; decide +kernel
  | n + 7, h => omega
/-- the words of a class that is made -/
def mNw (own : String) (idx ci : Nat) : Prop := ∃ r : vw_C, mcl[ci]? = some r ∧ Cond.classLink own idx r.1 ∈ AW ∧ Cond.instantiable r.1 r.2.2 ∈ AW ∧ Cond.initialized r.1 ∈ AW
section MN
variable {p : Program} {l : Launch} {e : Env} {R : Room} {s : State} {m : MethodId} {args : Array Value} {below : List Frame} {meth : Method} {c : Code} {H : Heap} {locs : List Loc} {cells slots : Nat} {Q : State → Prop}
variable {cc : ByteArray} {pc nL : Nat} {ls : Array Slot} {rest : List Value} {G : mG} {ρ : Nat → Nat} {A : Nat → Prop} {H0 : Heap} {μ : mM} {z : Nat} {own : String} {a n : Nat}
theorem m_new (C : mC G p c cc nL s m args own) (X : mX G ρ A H0 μ z H locs) {ci idx : Nat} (F : mNw own idx ci) (ha : sh μ a = none) (hz : ρ a = z) (hcells : cells + 1 ≤ R.cells) (hslots : slots + mar ci ≤ R.slots) (hd : decode cc pc = .ok (.new idx, 3))
    (kk : ∀ H' : Heap, mX G ρ A H0 (newC μ a (.inl ci)) (z + 1) H' locs → W p l e R s m args below meth c H' locs (cells + 1) (slots + mar ci) Q (F0 m (pc + 3) ls (.ref (ρ a) :: rest))) : W p l e R s m args below meth c H locs cells slots Q (F0 m pc ls rest) := by
  obtain ⟨hx, hb, -, hown, hts, hK, hO1, hO3⟩ := C
  obtain ⟨r, hr, w1, w2, w3⟩ := F
  obtain ⟨hci, hN, hin, hty, hnm⟩ := mcl_all hr
  have hKn := hK.1 ci _ hr
  have hzH : H.size = z := X.2.2.2.2
  refine W.newcK hx hb hown (hts _ w1) (hts _ w2) (hts _ w3) rfl hd hcells (by rw [hN]; exact hslots) hKn.2.1 rfl fun H1 kC hkC e1 z1 o1 => ?_
  have hnew : va_at G.1 mcl (ρ a, mrd G ρ (newC μ a (.inl ci)) a (.inl ci)) H1 := by
    show ∃ r : vw_C, mcl[ci]? = some r ∧ t_OB (ρ a) (G.1.1 ci) r.2.2 (G.1.2 ci) H1 (vp_V (mfl ci (mi (newC μ a (.inl ci)) a) (fun k => (mq (newC μ a (.inl ci)) a k).map ρ)))
    have e2 : mi (newC μ a (.inl ci)) a = fun _ => 0 := by funext j; rw [mi_N, if_pos rfl]
    have e3 : (fun k => (mq (newC μ a (.inl ci)) a k).map ρ) = fun _ => none := by funext j; rw [mq_N, if_pos rfl]; rfl
    rw [e2, e3, hz, ← hzH]
    exact ⟨r, hr, (u_born (mty ci) hts hin hKn hkC e1 hty).to (by rw [hN]; exact mfl_new ci hci)⟩
  have k1 := kk H1 (X.new ha hz hnew z1 (fun q hq => o1 q hq))
  rw [hz, ← hzH] at k1
  rw [hN]
  exact k1
theorem m_newarr (C : mC G p c cc nL s m args own) (X : mX G ρ A H0 μ z H locs) {t : Nat} {atype : ArrayType} (ht : t < 3) (hat : newarray.typeOf atype = mat t) (hw : Cond.arrayClass (mat t) ∈ AW) {j : Int32} (hj : j = nI n) (hn : n < 2 ^ 20) (ha : sh μ a = none) (hz : ρ a = z) (hcells : cells + 1 ≤ R.cells) (hslots : slots + n ≤ R.slots) (hd : decode cc pc = .ok (.newarray atype, 2))
    (kk : ∀ H' : Heap, mX G ρ A H0 (newC μ a (.inr (t, n))) (z + 1) H' locs → W p l e R s m args below meth c H' locs (cells + 1) (slots + n) Q (F0 m (pc + 2) ls (.ref (ρ a) :: rest))) : W p l e R s m args below meth c H locs cells slots Q (F0 m pc ls (.int j :: rest)) := by
  obtain ⟨hx, hb, -, hown, hts, hK, hO1, hO3⟩ := C
  subst hj
  have hzH : H.size = z := X.2.2.2.2
  have hcb : componentBytes (mat t) ≤ 8 := by
    match t, ht with
    | 0, _ => decide +kernel
    | 1, _ => decide +kernel
    | 2, _ => decide +kernel
    | k + 3, h => omega
  refine va_newaK (N := n) hx hb (by rw [hat]; exact hts _ hw) rfl hd rfl (nI_pos (by omega)) (nI_clamp (by omega)) (by rw [hat]; exact Nat.le_trans (Nat.mul_le_mul_left n hcb) (by omega)) hcells hslots rfl fun H1 cA e1 z1 o1 hAr hNm => ?_
  have hcA : cA = G.2 t := by
    have h2 := (hK.2 t _ (mtys_at G (by omega))).2
    rw [hat] at hNm
    match t, ht with
    | 0, _ => exact Option.some.inj (hNm.symm.trans h2)
    | 1, _ => exact Option.some.inj (hNm.symm.trans h2)
    | 2, _ => exact Option.some.inj (hNm.symm.trans h2)
    | k + 3, h => omega
  have hnew : va_at G.1 mcl (ρ a, mrd G ρ (newC μ a (.inr (t, n))) a (.inr (t, n))) H1 := by
    have e2 : mi (newC μ a (.inr (t, n))) a = fun _ => 0 := by funext j; rw [mi_N, if_pos rfl]
    have e3 : mj (newC μ a (.inr (t, n))) a = fun _ => 0 := by funext j; rw [mj_N, if_pos rfl]
    show H1[ρ a]? = some (vp_cell (G.2 t) (n, if t < 2 then .inl (mi (newC μ a (.inr (t, n))) a) else if t = 2 then .inr (.inl (mj (newC μ a (.inr (t, n))) a)) else .inr (.inr (.inr (.inr (fun k => (mq (newC μ a (.inr (t, n))) a k).map ρ))))))
    rw [e2, e3, hz, ← hzH, e1, hcA, hat]
    match t, ht with
    | 0, _ => rfl
    | 1, _ => rfl
    | 2, _ => rfl
    | k + 3, h => omega
  have k1 := kk H1 (X.new ha hz hnew z1 (fun q hq => o1 q hq))
  rw [hz, ← hzH] at k1
  exact k1
theorem m_anew (C : mC G p c cc nL s m args own) (X : mX G ρ A H0 μ z H locs) {t idx : Nat} {C1 : String} (ht : t = 3 ∧ C1 = RX1 ∨ t = 4 ∧ C1 = RX3) (hw1 : Cond.classLink own idx C1 ∈ AW) {j : Int32} (hj : j = nI n) (hn : n < 2 ^ 20) (ha : sh μ a = none) (hz : ρ a = z) (hcells : cells + 1 ≤ R.cells) (hslots : slots + n ≤ R.slots) (hd : decode cc pc = .ok (.anewarray idx, 3))
    (kk : ∀ H' : Heap, mX G ρ A H0 (newC μ a (.inr (t, n))) (z + 1) H' locs → W p l e R s m args below meth c H' locs (cells + 1) (slots + n) Q (F0 m (pc + 3) ls (.ref (ρ a) :: rest))) : W p l e R s m args below meth c H locs cells slots Q (F0 m pc ls (.int j :: rest)) := by
  obtain ⟨hx, hb, -, hown, hts, hK, hO1, hO3⟩ := C
  subst hj
  have hzH : H.size = z := X.2.2.2.2
  have hcl : (nI n).toNatClampNeg = n := nI_clamp (by omega)
  have hAO : va_AO C1 s := by rcases ht with ⟨-, rfl⟩ | ⟨-, rfl⟩ <;> assumption
  refine W.anew hx hb hown (hts _ hw1) (va_AO.use hAO) rfl hd rfl (nI_pos (by omega)) (by rw [hcl]; omega) hcells (by rw [hcl]; exact hslots) fun cA kA comp f1 f2 f3 f4 => ?_
  rw [hcl]
  generalize hH1 : H.push ({ cls := cA, slots := Array.replicate n .null, vm := .none } : Cell) = H1
  have z1 : H1.size = H.size + 1 := by rw [← hH1, Array.size_push]
  have e1 : H1[H.size]? = some (arrV cA n (fun _ => .null)) := by rw [← hH1, Array.getElem?_push_size, ← arrV_new]
  have o1 : ∀ q : Nat, q < H.size → H1[q]? = H[q]? := fun q hq => by rw [← hH1, Array.getElem?_push, if_neg (Nat.ne_of_lt hq)]
  have hcA : cA = G.2 t := by
    rcases ht with ⟨rfl, rfl⟩ | ⟨rfl, rfl⟩
    · obtain ⟨_, _, _, _, _, h4⟩ := (hK.2 3 _ (mtys_at G (by decide))).2
      exact Option.some.inj (f1.symm.trans h4)
    · obtain ⟨_, _, _, _, _, h4⟩ := (hK.2 4 _ (mtys_at G (by decide))).2
      exact Option.some.inj (f1.symm.trans h4)
  have hnew : va_at G.1 mcl (ρ a, mrd G ρ (newC μ a (.inr (t, n))) a (.inr (t, n))) H1 := by
    have e3 : (fun k => (mq (newC μ a (.inr (t, n))) a k).map ρ) = fun _ => none := by funext j; rw [mq_N, if_pos rfl]; rfl
    show H1[ρ a]? = some (vp_cell (G.2 t) (n, if t < 2 then .inl (mi (newC μ a (.inr (t, n))) a) else if t = 2 then .inr (.inl (mj (newC μ a (.inr (t, n))) a)) else .inr (.inr (.inr (.inr (fun k => (mq (newC μ a (.inr (t, n))) a k).map ρ))))))
    rw [e3, hz, ← hzH, e1, hcA]
    rcases ht with ⟨rfl, rfl⟩ | ⟨rfl, rfl⟩ <;> rfl
  have k1 := kk H1 (X.new ha hz hnew z1 (fun q hq => o1 q hq))
  rw [hz, ← hzH] at k1
  exact k1
/-- a final field, in a constructor -/
theorem m_putF (C : mC G p c cc nL s m args own) (X : mX G ρ A H0 μ z H locs) (hin2 : meth.name = "<init>") {ci k idx : Nat} {v : Value} {μ' : mM} (F : mFf own idx ci k) (ha : sh μ a = some (.inl ci)) (hn : narrow (mty ci k) v = v) (hf : fits (mty ci k) v = true) (hsh : ∀ b, sh μ' b = sh μ b) (hsame : ∀ b y, b ≠ a → mrd G ρ μ' b y = mrd G ρ μ b y)
    (hcl : ∀ b y k d, sh μ b = some y → mq μ' b k = some d → ∃ y', sh μ d = some y' ∧ mtg y k y') (hset : k < mar ci → (mfl ci (mi μ a) (fun k => (mq μ a k).map ρ)).set k v = mfl ci (mi μ' a) (fun k => (mq μ' a k).map ρ)) (hd : decode cc pc = .ok (.putfield idx, 3))
    (kk : ∀ (H' : Heap) (locs' : List Loc), mX G ρ A H0 μ' z H' locs' → W p l e R s m args below meth c H' locs' cells slots Q (F0 m (pc + 3) ls rest)) : W p l e R s m args below meth c H locs cells slots Q (F0 m pc ls (v :: .ref (ρ a) :: rest)) := by
  obtain ⟨hx, hb, -, hown, hts, hK, hO1, hO3⟩ := C
  obtain ⟨r, hr, hk, hl, hfin, hdecl⟩ := F
  obtain ⟨-, hN, hin, hty, hnm⟩ := mcl_all hr
  have hap := va_apart (own := own) hts hin (mty ci) hty hnm hK hr
  obtain ⟨r', hr', cell, q1, q2, q3, q4⟩ := X.1.1 a _ ha
  have er : r' = r := Option.some.inj (hr'.symm.trans hr)
  subst er
  obtain ⟨hS, hfc, kC, hkC, hkind⟩ := hK.1 ci _ hr
  obtain ⟨cf, kf, fi, f, hi, hsl⟩ := hS k hk
  have hlay := hts _ (hin _ (u_in_lay hk))
  unfold u_lay at hlay
  rw [if_pos hfin] at hlay
  have hst := (u_facts hfc hkC (u_lays hts hin hk) hi).1
  have hcf : m.cls = cf := by
    obtain ⟨_, _, c', _, _, _, -, -, hf', -, -, -, hown2, -⟩ := Cond.laysFinal_spec hlay
    have e1 : c' = cf := by have := hi.symm.trans hf'; simp at this; exact this.1.symm
    rw [hdecl] at hown2
    rw [← e1]; exact Option.some.inj (hown.symm.trans hown2)
  have h6 := u_fits hfc hkC hkind (Or.inr hlay) hi (hty k hk) hn hf
  have hk' : k < mar ci := by rw [← hN]; exact hk
  refine W.putFinK hx hb hown (hts _ hl) hi hst hcf hin2 (by rw [q2]; exact h6) q1 q3 (by rw [hsl]; exact k2_hasslot (q4 k hk)) rfl rfl hd fun H' e1 e2 e3 => ?_
  rw [hsl] at e1 ⊢
  have hnew : va_at G.1 mcl (ρ a, mrd G ρ μ' a (.inl ci)) H' := by
    show ∃ r : vw_C, mcl[ci]? = some r ∧ t_OB (ρ a) (G.1.1 ci) r.2.2 (G.1.2 ci) H' (vp_V (mfl ci (mi μ' a) (fun k => (mq μ' a k).map ρ)))
    rw [← hset hk']
    exact ⟨_, hr, t_OB.to (V := updV (vp_V _) k v) ⟨_, e1, q2, q3, t_set q4 hap hk v⟩ (fun j _ => vp_updV_set (by rw [mfl_len]; exact hk') v j)⟩
  exact kk H' _ (X.put ha hsh (mP_upd X.1 ha hsh hsame hcl hnew e3) e2 e3)
theorem m_putFi (C : mC G p c cc nL s m args own) (X : mX G ρ A H0 μ z H locs) (hin2 : meth.name = "<init>") {ci k idx : Nat} {v : Int32} (F : mFf own idx ci k) (ha : sh μ a = some (.inl ci)) (ht : mty ci k = .int) (hd : decode cc pc = .ok (.putfield idx, 3))
    (kk : ∀ (H' : Heap) (locs' : List Loc), mX G ρ A H0 (setI μ a k v) z H' locs' → W p l e R s m args below meth c H' locs' cells slots Q (F0 m (pc + 3) ls rest)) : W p l e R s m args below meth c H locs cells slots Q (F0 m pc ls (.int v :: .ref (ρ a) :: rest)) := by
  have hrf : mrf ci k = false := by unfold mrf; rw [ht]
  refine m_putF (μ' := setI μ a k v) C X hin2 F ha (by rw [ht]; rfl) (by rw [ht]; rfl) (fun _ => rfl) (fun b y h => mrd_I h) X.1.2.2 (fun hk => fl_set ?_ ?_) hd kk
  · simp [hrf, mi_I]
  · intro j hj
    simp [mi_I, hj, mq_I]
theorem m_putFq (C : mC G p c cc nL s m args own) (X : mX G ρ A H0 μ z H locs) (hin2 : meth.name = "<init>") {ci k idx : Nat} {v : Option Nat} (F : mFf own idx ci k) (ha : sh μ a = some (.inl ci)) (hr : mrf ci k = true) (hj : mty ci k ≠ .int ∧ mty ci k ≠ .boolean ∧ mty ci k ≠ .byte ∧ mty ci k ≠ .char ∧ mty ci k ≠ .short ∧ mty ci k ≠ .long ∧ mty ci k ≠ .float ∧ mty ci k ≠ .double) (hv : ∀ d, v = some d → ∃ y', sh μ d = some y' ∧ mtg (.inl ci) k y') (hd : decode cc pc = .ok (.putfield idx, 3))
    (kk : ∀ (H' : Heap) (locs' : List Loc), mX G ρ A H0 (setQ μ a k v) z H' locs' → W p l e R s m args below meth c H' locs' cells slots Q (F0 m (pc + 3) ls rest)) : W p l e R s m args below meth c H locs cells slots Q (F0 m pc ls (va_rf (v.map ρ) :: .ref (ρ a) :: rest)) := by
  have h2 := mrf_n hr hj (v.map ρ)
  refine m_putF (μ' := setQ μ a k v) C X hin2 F ha h2.1 h2.2 (fun _ => rfl) (fun b y h => mrd_Q h) (mcl_Q X.1.2.2 ha hv) (fun hk => fl_set ?_ ?_) hd kk
  · simp [hr, mq_Q]
  · intro j hj
    simp [mi_Q, hj, mq_Q]
end MN
/-- what a method's end says: the answer v, the memory μ', the heap's size z' -/
def mQc (G : mG) (ρ : Nat → Nat) (μ : mM) (z : Nat) (Post : Option Value → mM → Nat → Prop) : Array Value → State → Outcome → State → Prop := fun _ st o t =>
  (∃ v μ', o = .returned v ∧ Post v μ' t.heap.size ∧ mP G ρ μ' t.heap ∧ ∀ a x, sh μ' a = some x → mA ρ μ z (ρ a)) ∧ va_F (mA ρ μ z) st t
def mPc (G : mG) (ρ : Nat → Nat) (μ : mM) (z : Nat) (As : List Value) : Array Value → State → Prop := va_Pc As (fun U => U.heap.size = z ∧ mP G ρ μ U.heap ∧ mK G U)
/-- a method's contract over the memory -/
def MC (G : mG) (l : Launch) (y : MethodName) (cy : ByteArray) (ny : Nat) (ret : Option FieldType) (fr lo mc ms z : Nat) (ρ : Nat → Nat) (As : List Value) (μ : mM) (Post : Option Value → mM → Nat → Prop) : Prop :=
  Met l y (Cond.code y cy ny ret :: AW) { frames := fr, cells := mc, slots := ms, locals := lo } (mPc G ρ μ z As) (mQc G ρ μ z Post) mc ms (mA ρ μ z)
theorem MC.of {G : mG} {l : Launch} {y : MethodName} {cy : ByteArray} {ny : Nat} {ret : Option FieldType} {fr lo mc ms z : Nat} {ρ : Nat → Nat} {As : List Value} {μ : mM} {Post : Option Value → mM → Nat → Prop}
    (hy : plainName y.cls = true) (hc : ∀ v ∈ As, v.category = 1) (hn : (lg_sl As).length ≤ ny) (hn2 : As.length ≤ ny)
    (body : ∀ (p : Program) (e : Env) (s : State) (m : MethodId) (args : Array Value) (below : List Frame) (meth : Method) (c : Code) (ls : Array Slot), mC G p c cy ny s m args y.cls → meth.sig.returnType = ret → meth.locks = false → meth.name = y.name →
      mX G ρ (mA ρ μ z) s.heap μ z s.heap [] → lq ls (As.map some ++ List.replicate (ny - As.length) none) →
      W p l e { frames := fr, cells := mc, slots := ms, locals := lo } s m args below meth c s.heap [] 0 0 (MQ below (mQc G ρ μ z Post) args s mc ms (mA ρ μ z)) (F0 m 0 ls [])) : MC G l y cy ny ret fr lo mc ms z ρ As μ Post := by
  refine Met.ofW (cc := cy) (maxL := ny) (ret := ret) hy rfl ?_
  intro p e s m args below meth c s₁ B hml hv
  obtain ⟨rfl, hsz, hP, hK⟩ := hv
  have hts := atoms_spec (ws := Cond.code y cy ny ret :: AW) B.pre
  rw [lg_entry_eq]
  exact body p e s m _ below meth c _ ⟨B.exec, B.bytes, hml, findClass_of_methodNamed B.named, fun w hw => hts w (List.mem_cons_of_mem _ hw), hK⟩ B.returns B.notSynchronized (name_of_methodNamed B.named B.method).1
    ⟨hP, va_S.rf, fun a x h => Or.inl ⟨a, x, h, rfl⟩, fun q h => Or.inr (by rw [← hsz]; exact h), hsz⟩ (lq_entry hn hc hn2)
theorem mPc_blind {G : mG} {ρ : Nat → Nat} {μ : mM} {z : Nat} {As : List Value} : FrameBlind (mPc G ρ μ z As) := fun a U g mk q => by
  obtain ⟨q0, q1, qP, qK⟩ := q
  exact ⟨q0, q1, qP, mK.moved (u := U) (U := U.calling g mk a) (Vm.Alike.refl U.vm) qK⟩
/-- the words of a call -/
def mV (own : String) (idx : Nat) (y : MethodName) (cy : ByteArray) (ny : Nat) (ret : Option FieldType) (n ci : Nat) : Prop :=
  (∃ r : vw_C, mcl[ci]? = some r ∧ r.1 = y.cls) ∧ Cond.methodLink own idx y ∈ AW ∧ Cond.instanceMethod y ∈ AW ∧ Cond.selects y.cls y y ∈ AW ∧ Cond.initialized y.cls ∈ AW ∧ Cond.code y cy ny ret ∈ AW ∧ (y.cls ≠ "java/lang/invoke/MethodHandle" ∧ y.cls ≠ "java/lang/invoke/VarHandle" ∧ (parseMethodDescriptor y.desc).map (fun d => d.parameters.length) = some n)
def mVs (own : String) (idx : Nat) (y : MethodName) (cy : ByteArray) (ny : Nat) (ret : Option FieldType) (n : Nat) : Prop :=
  Cond.methodLink own idx y ∈ AW ∧ Cond.static y ∈ AW ∧ Cond.initialized y.cls ∈ AW ∧ Cond.code y cy ny ret ∈ AW ∧ (y.cls ≠ "java/lang/invoke/MethodHandle" ∧ y.cls ≠ "java/lang/invoke/VarHandle" ∧ (parseMethodDescriptor y.desc).map (fun d => d.parameters.length) = some n)
def mVi (own : String) (idx : Nat) (y : MethodName) (cy : ByteArray) (ny : Nat) (n : Nat) : Prop :=
  Cond.methodLink own idx y ∈ AW ∧ Cond.instanceMethod y ∈ AW ∧ Cond.initialized y.cls ∈ AW ∧ Cond.code y cy ny none ∈ AW ∧ y.name = "<init>" ∧ (y.cls ≠ "java/lang/invoke/MethodHandle" ∧ y.cls ≠ "java/lang/invoke/VarHandle" ∧ (parseMethodDescriptor y.desc).map (fun d => d.parameters.length) = some n)
section MCL
variable {p : Program} {l : Launch} {e : Env} {R : Room} {s : State} {m : MethodId} {args : Array Value} {below : List Frame} {meth : Method} {c : Code} {H : Heap} {locs : List Loc} {cells slots : Nat} {Q : State → Prop}
variable {cc : ByteArray} {pc nL : Nat} {ls : Array Slot} {rest st0 : List Value} {G : mG} {ρ : Nat → Nat} {A : Nat → Prop} {H0 : Heap} {μ : mM} {z : Nat} {own : String}
variable {y : MethodName} {cy : ByteArray} {ny n fr lo mc ms idx ci b : Nat} {ret : Option FieldType} {As : List Value} {Post : Option Value → mM → Nat → Prop}
theorem m_after {a : Array Value} (X : mX G ρ A H0 μ z H locs) (hr : va_Run p l e R s m args below meth c H locs cells slots mc ms (F0 m pc ls st0) rest (mQc G ρ μ z Post a) (mA ρ μ z))
    (kk : ∀ (v : Option Value) (μ' : mM) (z' : Nat) (H' : Heap) (locs' : List Loc), Post v μ' z' → mX G ρ A H0 μ' z' H' locs' → W p l e R s m args below meth c H' locs' (cells + mc) (slots + ms) Q (F0 m (pc + 3) ls (v.toList ++ rest))) : W p l e R s m args below meth c H locs cells slots Q (F0 m pc ls st0) := by
  have hA : ∀ q, mA ρ μ z q → A q := by
    intro q hq
    rcases hq with ⟨a, x, h1, h2⟩ | h
    · rw [← h2]; exact X.2.2.1 a x h1
    · exact X.2.2.2.1 q (Nat.le_trans X.2.1.1 (by rw [X.2.2.2.2]; exact h))
  intro T hT XX
  obtain ⟨v, st₀, t, T', L, h0, X', hL, e1, e2, ⟨⟨v', μ', hv, hp, hP', hd'⟩, hz, hk⟩, st⟩ := hr T hT XX
  cases hv
  rw [h0] at hz hk
  obtain ⟨t2, a1, b1⟩ := kk v μ' T'.heap.size T'.heap (locs ++ L) (by rw [e1]; exact hp) ⟨by rw [e1]; exact hP', ⟨Nat.le_trans X.2.1.1 (by rw [e1]; exact hz), fun q h1 h2 => by rw [e1, hk q (Nat.lt_of_lt_of_le h1 X.2.1.1) (fun w => h2 (hA q w))]; exact X.2.1.2.1 q h1 h2, fun q hq => by
      rcases List.mem_append.mp hq with h | h
      · exact X.2.1.2.2 q h
      · exact hA _ (hL q h)⟩, fun a x h => hA _ (hd' a x h), X.2.2.2.1, rfl⟩ T' rfl X'
  exact ⟨t2, st t2 a1, b1⟩
theorem m_callV (C : mC G p c cc nL s m args own) (X : mX G ρ A H0 μ z H locs) (hM : MC G l y cy ny ret fr lo mc ms z ρ (.ref (ρ b) :: As) μ Post) (F : mV own idx y cy ny ret n ci) (hb : sh μ b = some (.inl ci)) (hn : As.length = n) (hR : fr + 1 ≤ R.frames ∧ 8 + (ny + 11) + lo ≤ R.locals) (hC : cells + mc ≤ R.cells ∧ slots + ms ≤ R.slots) (hls : ls.size = nL)
    (hst : st0 = As.reverse ++ .ref (ρ b) :: rest) (hrest : (rest.map fun v => v.category).sum ≤ 8) (hd : decode cc pc = .ok (.invokevirtual idx, 3))
    (kk : ∀ (v : Option Value) (μ' : mM) (z' : Nat) (H' : Heap) (locs' : List Loc), Post v μ' z' → mX G ρ A H0 μ' z' H' locs' → W p l e R s m args below meth c H' locs' (cells + mc) (slots + ms) Q (F0 m (pc + 3) ls (v.toList ++ rest))) : W p l e R s m args below meth c H locs cells slots Q (F0 m pc ls st0) := by
  obtain ⟨⟨r, hr, hry⟩, w1, w2, w3, w4, w5, hdd⟩ := F
  have hts := C.2.2.2.2.1
  obtain ⟨r', hr', cellV, g1, g2, g3, -⟩ := X.1.1 b _ hb
  have hcls := (C.2.2.2.2.2.1.1 ci r hr).2.1
  exact m_after X (va_runV (C := y.cls) (b := ρ b) (As := As) (bytes := cy) (maxL := ny) (ret := ret) (n := n) (rm := { frames := fr, cells := mc, slots := ms, locals := lo }) ⟨C.1, C.2.1, C.2.2.1, C.2.2.2.1, hts⟩ hM ⟨callB_of n hts (aw_goodIn (fun _ h => h) w5) rfl rfl rfl (hts _ w4) (hts _ w1) hdd hR, hts _ w2, hts _ w3⟩
    ⟨mPc_blind, ⟨cellV, g1, by rw [g3]; rfl, by rw [g2, ← hry]; exact hcls⟩, fun U hU hW => ⟨rfl, by rw [hU]; exact X.2.2.2.2, by rw [hU]; exact X.1, mK.moved hW.alike C.2.2.2.2.2⟩⟩ rfl hn hls hst (lv_room hrest) hd hC) kk
theorem m_callS (C : mC G p c cc nL s m args own) (X : mX G ρ A H0 μ z H locs) (hM : MC G l y cy ny ret fr lo mc ms z ρ As μ Post) (F : mVs own idx y cy ny ret n) (hn : As.length = n) (hR : fr + 1 ≤ R.frames ∧ 8 + (ny + 11) + lo ≤ R.locals) (hC : cells + mc ≤ R.cells ∧ slots + ms ≤ R.slots) (hls : ls.size = nL)
    (hst : st0 = As.reverse ++ rest) (hrest : (rest.map fun v => v.category).sum ≤ 8) (hd : decode cc pc = .ok (.invokestatic idx, 3))
    (kk : ∀ (v : Option Value) (μ' : mM) (z' : Nat) (H' : Heap) (locs' : List Loc), Post v μ' z' → mX G ρ A H0 μ' z' H' locs' → W p l e R s m args below meth c H' locs' (cells + mc) (slots + ms) Q (F0 m (pc + 3) ls (v.toList ++ rest))) : W p l e R s m args below meth c H locs cells slots Q (F0 m pc ls st0) := by
  obtain ⟨w1, w2, w4, w5, hdd⟩ := F
  have hts := C.2.2.2.2.1
  exact m_after X (va_runS (As := As) (bytes := cy) (maxL := ny) (ret := ret) (n := n) (rm := { frames := fr, cells := mc, slots := ms, locals := lo }) ⟨C.1, C.2.1, C.2.2.1, C.2.2.2.1, hts⟩ hM ⟨callB_of n hts (aw_goodIn (fun _ h => h) w5) rfl rfl rfl (hts _ w4) (hts _ w1) hdd hR, hts _ w2⟩
    ⟨mPc_blind, fun U hU hW => ⟨rfl, by rw [hU]; exact X.2.2.2.2, by rw [hU]; exact X.1, mK.moved hW.alike C.2.2.2.2.2⟩⟩ rfl hn hls hst (lv_room hrest) hd hC) kk
theorem m_callI (C : mC G p c cc nL s m args own) (X : mX G ρ A H0 μ z H locs) (hM : MC G l y cy ny none fr lo mc ms z ρ (.ref (ρ b) :: As) μ Post) (F : mVi own idx y cy ny n) (hn : As.length = n) (hR : fr + 1 ≤ R.frames ∧ 8 + (ny + 11) + lo ≤ R.locals) (hC : cells + mc ≤ R.cells ∧ slots + ms ≤ R.slots) (hls : ls.size = nL)
    (hst : st0 = As.reverse ++ .ref (ρ b) :: rest) (hrest : (rest.map fun v => v.category).sum ≤ 8) (hd : decode cc pc = .ok (.invokespecial idx, 3))
    (kk : ∀ (v : Option Value) (μ' : mM) (z' : Nat) (H' : Heap) (locs' : List Loc), Post v μ' z' → mX G ρ A H0 μ' z' H' locs' → W p l e R s m args below meth c H' locs' (cells + mc) (slots + ms) Q (F0 m (pc + 3) ls (v.toList ++ rest))) : W p l e R s m args below meth c H locs cells slots Q (F0 m pc ls st0) := by
  obtain ⟨w1, w2, w4, w5, hnm, hdd⟩ := F
  have hts := C.2.2.2.2.1
  exact m_after X (va_runI (b := ρ b) (As := As) (bytes := cy) (maxL := ny) (n := n) (rm := { frames := fr, cells := mc, slots := ms, locals := lo }) ⟨C.1, C.2.1, C.2.2.1, C.2.2.2.1, hts⟩ hM ⟨callB_of n hts (aw_goodIn (fun _ h => h) w5) rfl rfl rfl (hts _ w4) (hts _ w1) hdd hR, hnm, hts _ w2⟩
    ⟨mPc_blind, fun U hU hW => ⟨rfl, by rw [hU]; exact X.2.2.2.2, by rw [hU]; exact X.1, mK.moved hW.alike C.2.2.2.2.2⟩⟩ rfl hn hls hst (lv_room hrest) hd hC) kk
variable {μ0 : mM} {z0 : Nat}
theorem m_vret (C : mC G p c cc nL s m args own) (X : mX G ρ (mA ρ μ0 z0) s.heap μ z H locs) (hr : meth.sig.returnType = none) (hlk : meth.locks = false) (hp : Post none μ z) (hd : decode cc pc = .ok (.return_, 1)) : W p l e R s m args below meth c H locs cells slots (MQ below (mQc G ρ μ0 z0 Post) args s cells slots (mA ρ μ0 z0)) (F0 m pc ls []) :=
  W.vret C.1 C.2.1 hr (fun t ht _ => ⟨⟨none, μ, rfl, by rw [ht, X.2.2.2.2]; exact hp, by rw [ht]; exact X.1, X.2.2.1⟩, X.2.1.F ht⟩) (fun q hq => X.2.1.2.2 q hq) hd hlk
theorem m_iret (C : mC G p c cc nL s m args own) (X : mX G ρ (mA ρ μ0 z0) s.heap μ z H locs) {v : Int32} (hr : meth.sig.returnType = some .int) (hlk : meth.locks = false) (hp : Post (some (.int v)) μ z) (hd : decode cc pc = .ok (.ireturn, 1)) : W p l e R s m args below meth c H locs cells slots (MQ below (mQc G ρ μ0 z0 Post) args s cells slots (mA ρ μ0 z0)) (F0 m pc ls [.int v]) :=
  W.iret C.1 C.2.1 hr (fun t ht _ => ⟨⟨_, μ, rfl, by rw [ht, X.2.2.2.2]; exact hp, by rw [ht]; exact X.1, X.2.2.1⟩, X.2.1.F ht⟩) (fun q hq => X.2.1.2.2 q hq) hd hlk
theorem m_zret (C : mC G p c cc nL s m args own) (X : mX G ρ (mA ρ μ0 z0) s.heap μ z H locs) {v : Int32} (hr : meth.sig.returnType = some .boolean) (hlk : meth.locks = false) (hv : v = 0 ∨ v = 1) (hp : Post (some (.int v)) μ z) (hd : decode cc pc = .ok (.ireturn, 1)) : W p l e R s m args below meth c H locs cells slots (MQ below (mQc G ρ μ0 z0 Post) args s cells slots (mA ρ μ0 z0)) (F0 m pc ls [.int v]) :=
  W.zret C.1 C.2.1 hr (by rcases hv with rfl | rfl <;> decide +kernel) (fun t ht _ => ⟨⟨_, μ, rfl, by rw [ht, X.2.2.2.2]; exact hp, by rw [ht]; exact X.1, X.2.2.1⟩, X.2.1.F ht⟩) (fun q hq => X.2.1.2.2 q hq) hd hlk
theorem m_aret (C : mC G p c cc nL s m args own) (X : mX G ρ (mA ρ μ0 z0) s.heap μ z H locs) {v : Option Nat} {n1 : String} (hr : meth.sig.returnType = some (.object n1)) (hlk : meth.locks = false) (hp : Post (some (va_rf v)) μ z) (hd : decode cc pc = .ok (.areturn, 1)) : W p l e R s m args below meth c H locs cells slots (MQ below (mQc G ρ μ0 z0 Post) args s cells slots (mA ρ μ0 z0)) (F0 m pc ls [va_rf v]) :=
  W.aret C.1 C.2.1 hr (Or.inl ⟨_, rfl⟩) (va_rf_or v) (fun t ht _ => ⟨⟨_, μ, rfl, by rw [ht, X.2.2.2.2]; exact hp, by rw [ht]; exact X.1, X.2.2.1⟩, X.2.1.F ht⟩) (fun q hq => X.2.1.2.2 q hq) hd hlk
theorem m_oinit (C : mC G p c cc nL s m args own) {a : Addr} (w1 : Cond.methodLink own idx objectInit ∈ AW) (hls : ls.size = nL) (hrest : (rest.map fun v => v.category).sum ≤ 8) (hR : 1 ≤ R.frames ∧ 20 ≤ R.locals) (hd : decode cc pc = .ok (.invokespecial idx, 3))
    (kk : W p l e R s m args below meth c H locs cells slots Q (F0 m (pc + 3) ls rest)) : W p l e R s m args below meth c H locs cells slots Q (F0 m pc ls (.ref a :: rest)) := by
  have hts := C.2.2.2.2.1
  have h2 : Cond.instanceMethod objectInit ∈ AW := by decide +kernel
  have h3 : Cond.code objectInit ⟨#[0xb1]⟩ 1 none ∈ AW := by decide +kernel
  exact W.objInit C.1 C.2.1 C.2.2.2.1 (hts _ w1) (hts _ h2) (hts _ h3) rfl (hls.trans C.2.2.1.symm) rfl hd hR.1 (by show 2 * 0 + _ + 12 ≤ _; omega) kk
end MCL
