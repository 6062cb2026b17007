/-! methods that throw: contracts, calls, ends -/
abbrev XI : String := "java/lang/IndexOutOfBoundsException"
abbrev XA : String := "java/lang/IllegalArgumentException"
abbrev XT : String := "java/lang/IllegalStateException"
abbrev XN : List String := ["java/lang/RuntimeException", "java/lang/Exception"]
/-- the texts of the class -/
def xtx (k : Nat) : String := match k with
  | 33 => "an object has 0 to 20 fields"
  | 97 => "a call works 0 to 10000 units"
  | 112 => "no such region"
  | 152 => "no such register"
  | 154 => "no such field"
  | _ => "the register holds nothing"
def xks : List Nat := [33, 97, 112, 152, 154, 158]
/-- what a throw rests on, beside the good words -/
def xW (U : State) : Prop := ((va_Nw (.declares (Bundle.initS "java/lang/RuntimeException")) U ∧ va_Nw (.declares (Bundle.initS "java/lang/Exception")) U ∧ va_Nw (.declares (Bundle.initS Bundle.tN)) U) ∧ va_Nw (.castable XI XI) U ∧ va_Nw (.castable XA XA) U ∧ va_Nw (.castable XT XT) U) ∧ (va_Nc XA XI U ∧ va_Nc XT XI U) ∧ ∀ k, k ∈ xks → ∃ sa, vk_R RX5 k (xtx k) sa U
theorem xW.warm {s U : State} (hW : s.WarmedH U.vm) (h : xW s) : xW U := by
  obtain ⟨⟨⟨d1, d2, d3⟩, c1, c2, c3⟩, ⟨n1, n2⟩, st⟩ := h
  exact ⟨⟨⟨d1.warmD hW, d2.warmD hW, d3.warmD hW⟩, c1.warmC hW, c2.warmC hW, c3.warmC hW⟩, ⟨n1.moved hW.alike, n2.moved hW.alike⟩, fun k hk => by obtain ⟨sa, h⟩ := st k hk; exact ⟨sa, h.warm hW⟩⟩
theorem xW.same {u U : State} (hv : u.vm = U.vm) (h : xW u) : xW U := by
  obtain ⟨⟨⟨d1, d2, d3⟩, c1, c2, c3⟩, ⟨n1, n2⟩, st⟩ := h
  have ha : u.vm.Alike U.vm := by rw [hv]; exact Vm.Alike.refl _
  exact ⟨⟨⟨d1.same rfl hv, d2.same rfl hv, d3.same rfl hv⟩, c1.same rfl hv, c2.same rfl hv, c3.same rfl hv⟩, ⟨n1.moved ha, n2.moved ha⟩, fun k hk => by obtain ⟨sa, h⟩ := st k hk; exact ⟨sa, vk_R.same hv.symm h⟩⟩
/-- the two statics of Throwable lie outside of A -/
def XZ (A : Nat → Prop) (U : State) (H : Heap) : Prop := vx_Zq Bundle.tN "UNASSIGNED_STACK" Bundle.steD A U H ∧ vx_Zq Bundle.tN "SUPPRESSED_SENTINEL" Bundle.listD A U H
theorem mX.sub {G : mG} {ρ : Nat → Nat} {A : Nat → Prop} {H0 : Heap} {μ : mM} {z : Nat} {H : Heap} {locs : List Loc} (X : mX G ρ A H0 μ z H locs) : ∀ q, mA ρ μ z q → A q := by
  intro q hq
  rcases hq with ⟨a, x, h1, h2⟩ | h
  · rw [← h2]; exact X.2.2.1 a x h1
  · exact X.2.2.2.1 q (Nat.le_trans X.2.1.1 (by rw [X.2.2.2.2]; exact h))
theorem XZ.step {G : mG} {ρ : Nat → Nat} {A : Nat → Prop} {s U : State} {μ : mM} {z : Nat} {H : Heap} {locs : List Loc} (X : mX G ρ A s.heap μ z H locs) (h : XZ A s s.heap) (hvm : s.vm.Alike U.vm) (hU : U.heap = H) : XZ (mA ρ μ z) U U.heap := by
  rw [hU]
  exact ⟨((h.1.kept X.2.1.2.1).moved hvm).narrow X.sub, ((h.2.kept X.2.1.2.1).moved hvm).narrow X.sub⟩
def mPx (G : mG) (ρ : Nat → Nat) (μ : mM) (z : Nat) (As : List Value) : Array Value → State → Prop := va_Pc As (fun U => U.heap.size = z ∧ mP G ρ μ U.heap ∧ mK G U ∧ xW U ∧ XZ (mA ρ μ z) U U.heap)
theorem mPx_blind {G : mG} {ρ : Nat → Nat} {μ : mM} {z : Nat} {As : List Value} : FrameBlind (mPx G ρ μ z As) := fun a U g mk q => by
  obtain ⟨q0, q1, qP, qK, qW, qZ⟩ := q
  exact ⟨q0, q1, qP, mK.moved (u := U) (U := U.calling g mk a) (Vm.Alike.refl U.vm) qK, xW.same (u := U) rfl qW, ⟨vx_Zq.moved (u := U) (Vm.Alike.refl U.vm) qZ.1, vx_Zq.moved (u := U) (Vm.Alike.refl U.vm) qZ.2⟩⟩
/-- where a method has thrown -/
def mXC (G : mG) (ρ : Nat → Nat) (μ : mM) (z : Nat) (PX : String → mM → Nat → Prop) : String → State → State → Prop := fun E st t =>
  (∃ μ', PX E μ' t.heap.size ∧ mP G ρ μ' t.heap ∧ ∀ a x, sh μ' a = some x → mA ρ μ z (ρ a)) ∧ va_F (mA ρ μ z) st t
/-- a method that may throw -/
def MX (w0 : Cond) (G : mG) (l : Launch) (y : MethodName) (fr lo mc ms z : Nat) (ρ : Nat → Nat) (As : List Value) (μ : mM) (Post : Option Value → mM → Nat → Prop) (PX : String → mM → Nat → Prop) : Prop :=
  vx_Met l y (w0 :: AW) { frames := fr, cells := mc, slots := ms, locals := lo } (mPx G ρ μ z As) (mQc G ρ μ z Post) (mXC G ρ μ z PX) mc ms (mA ρ μ z)
/-- the end of a body that may throw -/
abbrev xQ (G : mG) (ρ : Nat → Nat) (μ : mM) (z : Nat) (Post : Option Value → mM → Nat → Prop) (PX : String → mM → Nat → Prop) (below : List Frame) (args : Array Value) (s : State) (mc ms : Nat) : State → Prop := vx_MQ below (mQc G ρ μ z Post) (mXC G ρ μ z PX) args s mc ms (mA ρ μ z)
theorem MX.of {G : mG} {l : Launch} {y : MethodName} {cy : ByteArray} {ny : Nat} {ret : Option FieldType} {fr lo mc ms z : Nat} {ρ : Nat → Nat} {As : List Value} {μ : mM} {Post : Option Value → mM → Nat → Prop} {PX : String → mM → Nat → Prop}
    (hy : plainName y.cls = true) (hc : ∀ v ∈ As, v.category = 1) (hn : (lg_sl As).length ≤ ny) (hn2 : As.length ≤ ny)
    (body : ∀ (p : Program) (e : Env) (s : State) (m : MethodId) (args : Array Value) (below : List Frame) (meth : Method) (c : Code) (ls : Array Slot) (H : Heap) (locs : List Loc), mC G p c cy ny s m args y.cls → p.tables.exec = Jvm.exec → c.code = cy → meth.sig.returnType = ret → meth.locks = false → (∀ x ∈ c.exceptionTable.toList, False) → xW s → XZ (mA ρ μ z) s s.heap →
      mX G ρ (mA ρ μ z) s.heap μ z H locs → lq ls (As.map some ++ List.replicate (ny - As.length) none) →
      W p l e (rm fr lo mc ms) s m args below meth c H locs 0 0 (xQ G ρ μ z Post PX below args s mc ms) (F0 m 0 ls [])) : MX (Cond.code y cy ny ret) G l y fr lo mc ms z ρ As μ Post PX := by
  refine vx_ofW (cc := cy) (maxL := ny) (ret := ret) hy rfl ?_
  intro p e s m args below meth c s₁ B hml hxt hv
  obtain ⟨rfl, hsz, hP, hK, hxW, hxZ⟩ := hv
  have hts := atoms_spec (ws := Cond.code y cy ny ret :: AW) B.pre
  rw [lg_entry_eq]
  exact body p e s m _ below meth c _ s.heap [] ⟨B.exec, B.bytes, hml, findClass_of_methodNamed B.named, fun w hw => hts w (List.mem_cons_of_mem _ hw), hK⟩ B.exec B.bytes B.returns B.notSynchronized hxt hxW hxZ
    ⟨hP, va_S.rf, fun a x h => Or.inl ⟨a, x, h, rfl⟩, fun q h => Or.inr (by rw [← hsz]; exact h), hsz⟩ (lq_entry hn hc hn2)
theorem MX.ofH {G : mG} {l : Launch} {y : MethodName} {cy : ByteArray} {ny : Nat} {ret : Option FieldType} {hh : List (Nat × Nat × Nat × Nat)} {fr lo mc ms z : Nat} {ρ : Nat → Nat} {As : List Value} {μ : mM} {Post : Option Value → mM → Nat → Prop} {PX : String → mM → Nat → Prop}
    (hy : plainName y.cls = true) (hc : ∀ v ∈ As, v.category = 1) (hn : (lg_sl As).length ≤ ny) (hn2 : As.length ≤ ny)
    (body : ∀ (p : Program) (e : Env) (s : State) (m : MethodId) (args : Array Value) (below : List Frame) (meth : Method) (c : Code) (ls : Array Slot) (H : Heap) (locs : List Loc), mC G p c cy ny s m args y.cls → p.tables.exec = Jvm.exec → c.code = cy → meth.sig.returnType = ret → meth.locks = false → c.exceptionTable.toList = tableOf hh → xW s → XZ (mA ρ μ z) s s.heap →
      mX G ρ (mA ρ μ z) s.heap μ z H locs → lq ls (As.map some ++ List.replicate (ny - As.length) none) →
      W p l e (rm fr lo mc ms) s m args below meth c H locs 0 0 (xQ G ρ μ z Post PX below args s mc ms) (F0 m 0 ls [])) : MX (Cond.codeWith y cy ny ret hh) G l y fr lo mc ms z ρ As μ Post PX := by
  refine vx_ofWH (cc := cy) (maxL := ny) (ret := ret) (hh := hh) hy rfl ?_
  intro p e s m args below meth c s₁ B hml hv
  obtain ⟨rfl, hsz, hP, hK, hxW, hxZ⟩ := hv
  have hts := atoms_spec (ws := Cond.codeWith y cy ny ret hh :: AW) B.pre
  rw [lg_entry_eq]
  exact body p e s m _ below meth c _ s.heap [] ⟨B.exec, B.bytes, hml, findClass_of_methodNamed B.named, fun w hw => hts w (List.mem_cons_of_mem _ hw), hK⟩ B.exec B.bytes B.returns B.notSynchronized (vx_table (x := y) B (hts _ List.mem_cons_self)) hxW hxZ
    ⟨hP, va_S.rf, fun a x h => Or.inl ⟨a, x, h, rfl⟩, fun q h => Or.inr (by rw [← hsz]; exact h), hsz⟩ (lq_entry hn hc hn2)
section XC
variable {p : Program} {l : Launch} {e : Env} {R : Room} {s : State} {m : MethodId} {args : Array Value} {below : List Frame} {meth : Method} {c : Code} {H : Heap} {locs : List Loc} {cells slots : Nat} {Q : State → Prop}
variable {cc : ByteArray} {pc nL : Nat} {ls : Array Slot} {rest st0 : List Value} {G : mG} {ρ : Nat → Nat} {A : Nat → Prop} {H0 : Heap} {μ : mM} {z : Nat} {own : String}
variable {y : MethodName} {cy : ByteArray} {ny n fr lo mc ms idx ci b : Nat} {ret : Option FieldType} {As : List Value} {Post : Option Value → mM → Nat → Prop} {PX : String → mM → Nat → Prop}
theorem x_after {a : Array Value} (X : mX G ρ A H0 μ z H locs) (hr : vx_Run p l e R s m args below meth c H locs cells slots mc ms (F0 m pc ls st0) rest (mQc G ρ μ z Post a) (mXC G ρ μ z PX) (mA ρ μ z))
    (kx : ∀ (E : String) (ce : Cell) (q : Addr) (μ' : mM) (z' : Nat) (H' : Heap) (locs' : List Loc), PX E μ' z' → mX G ρ A H0 μ' z' H' locs' → H'[q]? = some ce → ce.vm = .none → s.vm.findClass E = some ce.cls → vx_W p l e R s m args below meth c H' locs' (cells + mc) (slots + ms) Q (F0 m pc ls rest) q)
    (kk : ∀ (v : Option Value) (μ' : mM) (z' : Nat) (H' : Heap) (locs' : List Loc), Post v μ' z' → mX G ρ A H0 μ' z' H' locs' → W p l e R s m args below meth c H' locs' (cells + mc) (slots + ms) Q (F0 m (pc + 3) ls (v.toList ++ rest))) : W p l e R s m args below meth c H locs cells slots Q (F0 m pc ls st0) := by
  have hA := X.sub
  intro T hT XX
  rcases hr T hT XX with ⟨v, st₀, t, T', L, h0, X', hL, e1, e2, ⟨⟨v', μ', hv, hp, hP', hd'⟩, hz, hk⟩, st⟩ | ⟨q, st₀, t, T', L, E, ce, h0, X', hL, e1, e2, ⟨⟨μ', hp, hP', hd'⟩, hz, hk⟩, hce, hcv, hcl, st⟩
  · cases hv
    rw [h0] at hz hk
    obtain ⟨t2, a1, b1⟩ := kk v μ' T'.heap.size T'.heap (locs ++ L) (by rw [e1]; exact hp) ⟨by rw [e1]; exact hP', ⟨Nat.le_trans X.2.1.1 (by rw [e1]; exact hz), fun q h1 h2 => by rw [e1, hk q (Nat.lt_of_lt_of_le h1 X.2.1.1) (fun w => h2 (hA q w))]; exact X.2.1.2.1 q h1 h2, fun q hq => by
        rcases List.mem_append.mp hq with h | h
        · exact X.2.1.2.2 q h
        · exact hA _ (hL q h)⟩, fun a x h => hA _ (hd' a x h), X.2.2.2.1, rfl⟩ T' rfl X'
    exact ⟨t2, st t2 a1, b1⟩
  · rw [h0] at hz hk
    obtain ⟨t2, a1, b1⟩ := kx E ce q μ' T'.heap.size T'.heap (locs ++ L) (by rw [e1]; exact hp) ⟨by rw [e1]; exact hP', ⟨Nat.le_trans X.2.1.1 (by rw [e1]; exact hz), fun q h1 h2 => by rw [e1, hk q (Nat.lt_of_lt_of_le h1 X.2.1.1) (fun w => h2 (hA q w))]; exact X.2.1.2.1 q h1 h2, fun q hq => by
        rcases List.mem_append.mp hq with h | h
        · exact X.2.1.2.2 q h
        · exact hA _ (hL q h)⟩, fun a x h => hA _ (hd' a x h), X.2.2.2.1, rfl⟩ (by rw [e1]; exact hce) hcv hcl T' rfl X'
    exact ⟨t2, st.trans a1, b1⟩
theorem x_callV (C : mC G p c cc nL s m args own) (hxW : xW s) (hxZ : XZ A s s.heap) (X : mX G ρ A s.heap μ z H locs) (hM : MX (Cond.code y cy ny ret) G l y fr lo mc ms z ρ (.ref (ρ b) :: As) μ Post PX) (F : mV own idx y cy ny ret n ci) (hb : sh μ b = some (.inl ci)) (hn : As.length = n) (hR : fr + 1 ≤ R.frames ∧ 8 + (ny + 11) + lo ≤ R.locals) (hC : cells + mc ≤ R.cells ∧ slots + ms ≤ R.slots) (hls : ls.size = nL)
    (hst : st0 = As.reverse ++ .ref (ρ b) :: rest) (hrest : (rest.map fun v => v.category).sum ≤ 8) (hd : decode cc pc = .ok (.invokevirtual idx, 3))
    (kx : ∀ (E : String) (ce : Cell) (q : Addr) (μ' : mM) (z' : Nat) (H' : Heap) (locs' : List Loc), PX E μ' z' → mX G ρ A s.heap μ' z' H' locs' → H'[q]? = some ce → ce.vm = .none → s.vm.findClass E = some ce.cls → vx_W p l e R s m args below meth c H' locs' (cells + mc) (slots + ms) Q (F0 m pc ls rest) q)
    (kk : ∀ (v : Option Value) (μ' : mM) (z' : Nat) (H' : Heap) (locs' : List Loc), Post v μ' z' → mX G ρ A s.heap μ' z' H' locs' → W p l e R s m args below meth c H' locs' (cells + mc) (slots + ms) Q (F0 m (pc + 3) ls (v.toList ++ rest))) : W p l e R s m args below meth c H locs cells slots Q (F0 m pc ls st0) := by
  obtain ⟨⟨r, hr, hry⟩, w1, w2, w3, w4, w5, hdd⟩ := F
  have hts := C.2.2.2.2.1
  obtain ⟨r', hr', cellV, g1, g2, g3, -⟩ := X.1.1 b _ hb
  have hcls := (C.2.2.2.2.2.1.1 ci r hr).2.1
  exact x_after X (vx_runV (C := y.cls) (b := ρ b) (As := As) (bytes := cy) (maxL := ny) (ret := ret) (n := n) (rm := { frames := fr, cells := mc, slots := ms, locals := lo }) ⟨C.1, C.2.1, C.2.2.1, C.2.2.2.1, hts⟩ hM ⟨callB_of n hts (aw_goodIn (fun _ h => h) w5) rfl rfl rfl (hts _ w4) (hts _ w1) hdd hR, hts _ w2, hts _ w3⟩
    ⟨mPx_blind, ⟨cellV, g1, by rw [g3]; rfl, by rw [g2, ← hry]; exact hcls⟩, fun U hU hW => ⟨rfl, by rw [hU]; exact X.2.2.2.2, by rw [hU]; exact X.1, mK.moved hW.alike C.2.2.2.2.2, hxW.warm hW, XZ.step X hxZ hW.alike hU⟩⟩ rfl hn hls hst (lv_room hrest) hd hC) kx kk
theorem x_callS (C : mC G p c cc nL s m args own) (hxW : xW s) (hxZ : XZ A s s.heap) (X : mX G ρ A s.heap μ z H locs) (hM : MX (Cond.code y cy ny ret) G l y fr lo mc ms z ρ As μ Post PX) (F : mVs own idx y cy ny ret n) (hn : As.length = n) (hR : fr + 1 ≤ R.frames ∧ 8 + (ny + 11) + lo ≤ R.locals) (hC : cells + mc ≤ R.cells ∧ slots + ms ≤ R.slots) (hls : ls.size = nL)
    (hst : st0 = As.reverse ++ rest) (hrest : (rest.map fun v => v.category).sum ≤ 8) (hd : decode cc pc = .ok (.invokestatic idx, 3))
    (kx : ∀ (E : String) (ce : Cell) (q : Addr) (μ' : mM) (z' : Nat) (H' : Heap) (locs' : List Loc), PX E μ' z' → mX G ρ A s.heap μ' z' H' locs' → H'[q]? = some ce → ce.vm = .none → s.vm.findClass E = some ce.cls → vx_W p l e R s m args below meth c H' locs' (cells + mc) (slots + ms) Q (F0 m pc ls rest) q)
    (kk : ∀ (v : Option Value) (μ' : mM) (z' : Nat) (H' : Heap) (locs' : List Loc), Post v μ' z' → mX G ρ A s.heap μ' z' H' locs' → W p l e R s m args below meth c H' locs' (cells + mc) (slots + ms) Q (F0 m (pc + 3) ls (v.toList ++ rest))) : W p l e R s m args below meth c H locs cells slots Q (F0 m pc ls st0) := by
  obtain ⟨w1, w2, w4, w5, hdd⟩ := F
  have hts := C.2.2.2.2.1
  exact x_after X (vx_runS (As := As) (bytes := cy) (maxL := ny) (ret := ret) (n := n) (rm := { frames := fr, cells := mc, slots := ms, locals := lo }) ⟨C.1, C.2.1, C.2.2.1, C.2.2.2.1, hts⟩ hM ⟨callB_of n hts (aw_goodIn (fun _ h => h) w5) rfl rfl rfl (hts _ w4) (hts _ w1) hdd hR, hts _ w2⟩
    ⟨mPx_blind, fun U hU hW => ⟨rfl, by rw [hU]; exact X.2.2.2.2, by rw [hU]; exact X.1, mK.moved hW.alike C.2.2.2.2.2, hxW.warm hW, XZ.step X hxZ hW.alike hU⟩⟩ rfl hn hls hst (lv_room hrest) hd hC) kx kk
/-- the words of a static call of a method with handlers -/
def mVh (own : String) (idx : Nat) (y : MethodName) (cy : ByteArray) (ny : Nat) (ret : Option FieldType) (hh : List (Nat × Nat × Nat × Nat)) (n : Nat) : Prop :=
  Cond.methodLink own idx y ∈ AW ∧ Cond.static y ∈ AW ∧ Cond.initialized y.cls ∈ AW ∧ Cond.codeWith y cy ny ret hh ∈ AW ∧ (y.cls ≠ "java/lang/invoke/MethodHandle" ∧ y.cls ≠ "java/lang/invoke/VarHandle" ∧ (parseMethodDescriptor y.desc).map (fun d => d.parameters.length) = some n)
theorem x_callH {hh : List (Nat × Nat × Nat × Nat)} (C : mC G p c cc nL s m args own) (hxW : xW s) (hxZ : XZ A s s.heap) (X : mX G ρ A s.heap μ z H locs) (hM : MX (Cond.codeWith y cy ny ret hh) G l y fr lo mc ms z ρ As μ Post (fun _ _ _ => False)) (F : mVh own idx y cy ny ret hh n) (hn : As.length = n) (hR : fr + 1 ≤ R.frames ∧ 8 + (ny + 11) + lo ≤ R.locals) (hC : cells + mc ≤ R.cells ∧ slots + ms ≤ R.slots) (hls : ls.size = nL)
    (hst : st0 = As.reverse ++ rest) (hrest : (rest.map fun v => v.category).sum ≤ 8) (hd : decode cc pc = .ok (.invokestatic idx, 3))
    (kk : ∀ (v : Option Value) (μ' : mM) (z' : Nat) (H' : Heap) (locs' : List Loc), Post v μ' z' → mX G ρ A s.heap μ' z' H' locs' → W p l e R s m args below meth c H' locs' (cells + mc) (slots + ms) Q (F0 m (pc + 3) ls (v.toList ++ rest))) : W p l e R s m args below meth c H locs cells slots Q (F0 m pc ls st0) := by
  obtain ⟨w1, w2, w4, w5, hdd⟩ := F
  have hts := C.2.2.2.2.1
  have hG : GoodIn AW (va_wsS own idx y (Cond.codeWith y cy ny ret hh :: AW)) := fun w h => by
    unfold va_wsS at h
    rcases List.mem_append.mp h with h | h
    · have hw : w ∈ AW := by
        rcases List.mem_cons.mp h with e | h
        · rw [e]; exact w1
        rcases List.mem_cons.mp h with e | h
        · rw [e]; exact w2
        rcases List.mem_cons.mp h with e | h
        · rw [e]; exact w4
        cases h
      exact ⟨hw, good_of_word (aw_good hw)⟩
    · exact aw_goodIn (fun _ h => h) w5 w h
  exact x_after X (vx_runSX (hh := hh) (As := As) (bytes := cy) (maxL := ny) (ret := ret) (n := n) (rm := { frames := fr, cells := mc, slots := ms, locals := lo }) ⟨C.1, C.2.1, C.2.2.1, C.2.2.2.1, hts⟩ hM (vx_cwSW n hts hG rfl rfl rfl hdd hR)
    ⟨mPx_blind, fun U hU hW => ⟨rfl, by rw [hU]; exact X.2.2.2.2, by rw [hU]; exact X.1, mK.moved hW.alike C.2.2.2.2.2, hxW.warm hW, XZ.step X hxZ hW.alike hU⟩⟩ rfl hn hls hst (lv_room hrest) hd hC) (fun _ _ _ _ _ _ _ h => h.elim) kk
variable {μ0 : mM} {z0 : Nat}
/-- it returns -/
theorem x_ret {g : JFrame} (h1 : cells ≤ mc) (h2 : slots ≤ ms) (k : W p l e R s m args below meth c H locs mc ms (MQ below (mQc G ρ μ0 z0 Post) args s mc ms (mA ρ μ0 z0)) g) : W p l e R s m args below meth c H locs cells slots (xQ G ρ μ0 z0 Post PX below args s mc ms) g := W_widen h1 h2 (vx_ret k)
/-- it goes on to the caller -/
theorem x_out {E : String} {ce : Cell} {q : Addr} (hxt : ∀ x ∈ c.exceptionTable.toList, False) (hlk : meth.locks = false) (X : mX G ρ (mA ρ μ0 z0) s.heap μ z H locs) (hce : H[q]? = some ce) (hcv : ce.vm = .none) (hcl : s.vm.findClass E = some ce.cls) (hp : PX E μ z) (h1 : cells ≤ mc) (h2 : slots ≤ ms) :
    vx_W p l e R s m args below meth c H locs cells slots (xQ G ρ μ0 z0 Post PX below args s mc ms) (F0 m pc ls rest) q :=
  vx_out (fun x h => (hxt x h).elim) hlk hce hcv hcl (fun t ht _ => ⟨⟨μ, by rw [ht, X.2.2.2.2]; exact hp, by rw [ht]; exact X.1, X.2.2.1⟩, X.2.1.F ht⟩) (fun q hq => X.2.1.2.2 q hq) h1 h2
/-- a throw of a new exception -/
theorem x_throw {cls : String} {ik is ic : Nat} (C : mC G p c cc nL s m args RX5) (hl : l.stackTraces = false) (hxt : ∀ x ∈ c.exceptionTable.toList, False) (hlk : meth.locks = false) (hxW : xW s) (hxZ : XZ (mA ρ μ0 z0) s s.heap) (X : mX G ρ (mA ρ μ0 z0) s.heap μ z H locs) (hfit : Bundle.fit cls = true)
    (w1 : Cond.classLink RX5 ik cls ∈ AW) (w2 : Cond.initialized cls ∈ AW) (w3 : ∀ w ∈ (vx_atS RX5 ic cls XN).filter goodWord, w ∈ AW) (hk : is ∈ xks) (hcs : va_Nw (.castable cls cls) s)
    (hng : ∀ w ∈ (vx_atS RX5 ic cls XN).filter (fun w => !goodWord w), w ∈ [Cond.declares (Bundle.initS "java/lang/RuntimeException"), Cond.declares (Bundle.initS "java/lang/Exception"), Cond.declares (Bundle.initS Bundle.tN), Cond.castable cls cls])
    (hgood : ∀ w ∈ Cond.classLink RX5 ik cls :: Cond.initialized cls :: vx_atS RX5 ic cls XN, vx_ot w = true) (hls : ls.size = nL)
    (d0 : decode cc pc = .ok (.new ik, 3)) (d3 : decode cc (pc + 3) = .ok (.dup, 1)) (d4 : decode cc (pc + 4) = .ok (.ldc is, 2)) (d6 : decode cc (pc + 6) = .ok (.invokespecial ic, 3)) (d9 : decode cc (pc + 9) = .ok (.athrow, 1))
    (hRf : 5 < R.frames) (hrest : (rest.map fun v => v.category).sum ≤ 8) (hRl : 90 ≤ R.locals) (hRc : cells + 1 ≤ R.cells) (hRs : slots + 6 ≤ R.slots) (hp : ∀ z', z ≤ z' → PX cls μ z') (h1 : cells + 1 ≤ mc) (h2 : slots + 6 ≤ ms) :
    W p l e R s m args below meth c H locs cells slots (xQ G ρ μ0 z0 Post PX below args s mc ms) (F0 m pc ls rest) := by
  obtain ⟨hx, hb, hml, hown, hts, -⟩ := C
  obtain ⟨⟨⟨d_1, d_2, d_3⟩, -⟩, -, hstr⟩ := id hxW
  obtain ⟨sa, hsa⟩ := hstr is hk
  refine vx_throwS (names := XN) hx hb hl hown hfit (by decide +kernel) (hts _ w1) (hts _ w2) hsa (vx_hat (fun w hw => hts _ (w3 w hw)) hng (vx_c (d_1.use rfl) (vx_c (d_2.use rfl) (vx_c (d_3.use rfl) (vx_c (hcs.use rfl) vx_n))))) hgood hxZ.1 hxZ.2 X.2.1 (hls.trans hml.symm) d0 d3 d4 d6 d9 (fun x h => (hxt x h).elim) (by simpa using hRf) (by show _ + (13 * 3 + 43) ≤ _; omega) hRc hRs hlk ?_ (fun q hq => X.2.1.2.2 q hq) h1 h2
  intro t ha hz ho
  refine ⟨⟨μ, hp _ (by rw [← X.2.2.2.2]; exact hz), ?_, X.2.2.1⟩, Nat.le_trans X.2.1.1 hz, fun q hq hA => ?_⟩
  · refine ⟨fun a x h => ?_, X.1.2.1, X.1.2.2⟩
    have q := X.1.1 a x h
    exact q.kept (ho _ q.lt)
  · rw [ho q (Nat.lt_of_lt_of_le hq X.2.1.1)]
    exact X.2.1.2.1 q hq hA
end XC
