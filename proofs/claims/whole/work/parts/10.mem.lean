/-! the memory of this proof: cells have names (abstract addresses) that a map ρ sends to places of the heap; the contents are four functions -/
/-- all words that stay good -/
def AW : List Cond := lw_tbl.filter goodWord
theorem aw_of {w : Cond} (i : Nat) (h : lw_tbl[i]? = some w) (g : goodWord w = true) : w ∈ AW := List.mem_filter.mpr ⟨List.mem_of_getElem? h, g⟩
theorem aw_tbl {w : Cond} (h : w ∈ AW) : w ∈ lw_tbl := (List.mem_filter.mp h).1
theorem aw_good {w : Cond} (h : w ∈ AW) : goodWord w = true := (List.mem_filter.mp h).2
theorem aw_goodIn {big : List Cond} {c : Cond} (hb : ∀ w ∈ AW, w ∈ big) (hc : c ∈ AW) : GoodIn big (c :: AW) := fun w h => by
  rcases List.mem_cons.mp h with e | h
  · rw [e]; exact ⟨hb c hc, good_of_word (aw_good hc)⟩
  · exact ⟨hb w h, good_of_word (aw_good h)⟩
abbrev mcl : List vw_C := [(RX0, TX0, 8), (RX1, TX1, 7), (RX2, TX2, 4), (RX3, TX3, 6), (RX4, TX4, 3), (RX5, TX5, 2), (RX6, TX6, 22)]
def mty (ci : Nat) : Nat → FieldType := match ci with
  | 0 => tyX0
  | 1 => tyX1
  | 2 => tyX2
  | 3 => tyX3
  | 4 => tyX4
  | 5 => tyX5
  | _ => tyX6
def mar (ci : Nat) : Nat := match ci with
  | 0 => 8
  | 1 => 7
  | 2 => 4
  | 3 => 6
  | 4 => 3
  | 5 => 2
  | _ => 22
def mrf (ci k : Nat) : Bool := match mty ci k with
  | .int => false
  | .boolean => false
  | _ => true
/-- the type of an array's places, by the array's kind -/
def mat (t : Nat) : FieldType := match t with
  | 0 => .int
  | 1 => .boolean
  | 2 => .long
  | 3 => .object RX1
  | _ => .object RX3
/-- an object of a class; an array of a kind and a length -/
abbrev mS : Type := Nat ⊕ (Nat × Nat)
abbrev mM : Type := (Nat → Option mS) × (Nat → Nat → Int32) × (Nat → Nat → Option Nat) × (Nat → Nat → Int64)
abbrev mG : Type := va_G × (Nat → ClassId)
def sh (μ : mM) (a : Nat) : Option mS := μ.1 a
def mi (μ : mM) (a k : Nat) : Int32 := μ.2.1 a k
def mq (μ : mM) (a k : Nat) : Option Nat := μ.2.2.1 a k
def mj (μ : mM) (a k : Nat) : Int64 := μ.2.2.2 a k
def setI (μ : mM) (a k : Nat) (v : Int32) : mM := (μ.1, fun b j => if b = a ∧ j = k then v else μ.2.1 b j, μ.2.2)
def setQ (μ : mM) (a k : Nat) (v : Option Nat) : mM := (μ.1, μ.2.1, fun b j => if b = a ∧ j = k then v else μ.2.2.1 b j, μ.2.2.2)
def setJ (μ : mM) (a k : Nat) (v : Int64) : mM := (μ.1, μ.2.1, μ.2.2.1, fun b j => if b = a ∧ j = k then v else μ.2.2.2 b j)
def newC (μ : mM) (a : Nat) (x : mS) : mM := (fun b => if b = a then some x else μ.1 b, fun b j => if b = a then 0 else μ.2.1 b j, fun b j => if b = a then none else μ.2.2.1 b j, fun b j => if b = a then 0 else μ.2.2.2 b j)
theorem sh_I (μ : mM) (a k : Nat) (v : Int32) (b : Nat) : sh (setI μ a k v) b = sh μ b := rfl
theorem sh_Q (μ : mM) (a k : Nat) (v : Option Nat) (b : Nat) : sh (setQ μ a k v) b = sh μ b := rfl
theorem sh_J (μ : mM) (a k : Nat) (v : Int64) (b : Nat) : sh (setJ μ a k v) b = sh μ b := rfl
theorem sh_N (μ : mM) (a : Nat) (x : mS) (b : Nat) : sh (newC μ a x) b = if b = a then some x else sh μ b := rfl
theorem mi_I (μ : mM) (a k : Nat) (v : Int32) (b j : Nat) : mi (setI μ a k v) b j = if b = a ∧ j = k then v else mi μ b j := rfl
theorem mi_Q (μ : mM) (a k : Nat) (v : Option Nat) (b j : Nat) : mi (setQ μ a k v) b j = mi μ b j := rfl
theorem mi_J (μ : mM) (a k : Nat) (v : Int64) (b j : Nat) : mi (setJ μ a k v) b j = mi μ b j := rfl
theorem mi_N (μ : mM) (a : Nat) (x : mS) (b j : Nat) : mi (newC μ a x) b j = if b = a then 0 else mi μ b j := rfl
theorem mq_I (μ : mM) (a k : Nat) (v : Int32) (b j : Nat) : mq (setI μ a k v) b j = mq μ b j := rfl
theorem mq_Q (μ : mM) (a k : Nat) (v : Option Nat) (b j : Nat) : mq (setQ μ a k v) b j = if b = a ∧ j = k then v else mq μ b j := rfl
theorem mq_J (μ : mM) (a k : Nat) (v : Int64) (b j : Nat) : mq (setJ μ a k v) b j = mq μ b j := rfl
theorem mq_N (μ : mM) (a : Nat) (x : mS) (b j : Nat) : mq (newC μ a x) b j = if b = a then none else mq μ b j := rfl
theorem mj_I (μ : mM) (a k : Nat) (v : Int32) (b j : Nat) : mj (setI μ a k v) b j = mj μ b j := rfl
theorem mj_Q (μ : mM) (a k : Nat) (v : Option Nat) (b j : Nat) : mj (setQ μ a k v) b j = mj μ b j := rfl
theorem mj_J (μ : mM) (a k : Nat) (v : Int64) (b j : Nat) : mj (setJ μ a k v) b j = if b = a ∧ j = k then v else mj μ b j := rfl
theorem mj_N (μ : mM) (a : Nat) (x : mS) (b j : Nat) : mj (newC μ a x) b j = if b = a then 0 else mj μ b j := rfl
/-- an object's fields, as the kit has them -/
def mfl (ci : Nat) (I : Nat → Int32) (Q : Nat → Option Nat) : List Value := (List.range (mar ci)).map (fun k => if mrf ci k = true then va_rf (Q k) else .int (I k))
def mrd (G : mG) (ρ : Nat → Nat) (μ : mM) (a : Nat) (x : mS) : va_E := match x with
  | .inl ci => .inr (ci, mfl ci (mi μ a) (fun k => (mq μ a k).map ρ))
  | .inr (t, n) => .inl (G.2 t, n, if t < 2 then .inl (mi μ a) else if t = 2 then .inr (.inl (mj μ a)) else .inr (.inr (.inr (.inr (fun k => (mq μ a k).map ρ)))))
/-- what a reference's place points to: an object of a class, an array of a kind -/
def mtk (ci k : Nat) : Option (Nat ⊕ Nat) := match ci, k with
  | 0, 0 => some (.inl 2)
  | 0, 2 => some (.inl 4)
  | 1, 1 => some (.inr 3)
  | 1, 2 => some (.inl 3)
  | 1, 6 => some (.inl 1)
  | 2, 0 => some (.inr 3)
  | 2, 1 => some (.inr 4)
  | 2, 2 => some (.inl 3)
  | 2, 3 => some (.inl 3)
  | 3, 1 => some (.inr 3)
  | 4, 0 => some (.inl 1)
  | 4, 1 => some (.inl 1)
  | 5, 0 => some (.inl 0)
  | 5, 1 => some (.inl 2)
  | 6, 5 => some (.inr 1)
  | 6, 12 => some (.inr 1)
  | 6, 13 => some (.inr 1)
  | 6, _ => some (.inr 0)
  | _, _ => none
def mtg (x : mS) (k : Nat) (y : mS) : Prop := match x with
  | .inl ci => (match mtk ci k with
    | some (.inl c) => y = .inl c
    | some (.inr t) => ∃ n, y = .inr (t, n)
    | none => True)
  | .inr (t, _) => (t = 3 → y = .inl 1) ∧ (t = 4 → y = .inl 3)
/-- the heap holds the memory μ, its cells at the places ρ -/
def mP (G : mG) (ρ : Nat → Nat) (μ : mM) (H : Heap) : Prop :=
  (∀ a x, sh μ a = some x → va_at G.1 mcl (ρ a, mrd G ρ μ a x) H) ∧ (∀ a b x y, sh μ a = some x → sh μ b = some y → ρ a = ρ b → a = b) ∧ (∀ a x k b, sh μ a = some x → mq μ a k = some b → ∃ y, sh μ b = some y ∧ mtg x k y)
def mtys (G : mG) : List (ClassId × FieldType) := [(G.2 0, mat 0), (G.2 1, mat 1), (G.2 2, mat 2), (G.2 3, mat 3), (G.2 4, mat 4)]
def mK (G : mG) (U : State) : Prop := va_K G.1 mcl (mtys G) U ∧ va_AO RX1 U ∧ va_AO RX3 U
theorem mK.moved {G : mG} {u U : State} (hvm : u.vm.Alike U.vm) (h : mK G u) : mK G U := ⟨va_K.moved hvm h.1, h.2.1.moved hvm, h.2.2.moved hvm⟩
/-- the cells that a method may write -/
def mA (ρ : Nat → Nat) (μ : mM) (z : Nat) : Nat → Prop := fun q => (∃ a x, sh μ a = some x ∧ ρ a = q) ∨ z ≤ q
/-- where a method stands -/
def mX (G : mG) (ρ : Nat → Nat) (A : Nat → Prop) (H0 : Heap) (μ : mM) (z : Nat) (H : Heap) (locs : List Loc) : Prop :=
  mP G ρ μ H ∧ va_S A H0 H locs ∧ (∀ a x, sh μ a = some x → A (ρ a)) ∧ (∀ q, H0.size ≤ q → A q) ∧ H.size = z
/-- what a method rests on -/
def mC (G : mG) (p : Program) (c : Code) (cc : ByteArray) (nL : Nat) (s : State) (m : MethodId) (args : Array Value) (own : String) : Prop :=
  p.tables.exec = Jvm.exec ∧ c.code = cc ∧ c.maxLocals = nL ∧ s.vm.findClass own = some m.cls ∧ (∀ w ∈ AW, w.before args s = true) ∧ mK G s
/-- the locals -/
def lq (ls : Array Slot) (L : List (Option Value)) : Prop := ls.size = L.length ∧ lv_wf ls ∧ ∀ (i : Nat) (v : Value), L[i]? = some (some v) → ls[i]? = some (.val v) ∧ v.category = 1
theorem mcw0 : ∀ w ∈ u_ws RX0 TX0 8, w ∈ AW := by decide +kernel
theorem mcw1 : ∀ w ∈ u_ws RX1 TX1 7, w ∈ AW := by decide +kernel
theorem mcw2 : ∀ w ∈ u_ws RX2 TX2 4, w ∈ AW := by decide +kernel
theorem mcw3 : ∀ w ∈ u_ws RX3 TX3 6, w ∈ AW := by decide +kernel
theorem mcw4 : ∀ w ∈ u_ws RX4 TX4 3, w ∈ AW := by decide +kernel
theorem mcw5 : ∀ w ∈ u_ws RX5 TX5 2, w ∈ AW := by decide +kernel
theorem mcw6 : ∀ w ∈ u_ws RX6 TX6 22, w ∈ AW := by decide +kernel
/-- a class of the list, with all that the kit asks of it -/
theorem mcl_all {ci : Nat} {r : vw_C} (h : mcl[ci]? = some r) : ci < 7 ∧ r.2.2 = mar ci ∧ (∀ w ∈ u_ws r.1 r.2.1 r.2.2, w ∈ AW) ∧ (∀ k, k < r.2.2 → parseFieldDescriptor (r.2.1 k).2.2.1 = some (mty ci k)) ∧ (∀ a, a < r.2.2 → ∀ b, b < r.2.2 → a ≠ b → (r.2.1 a).2.1 ≠ (r.2.1 b).2.1) := by
  match ci, h with
  | 0, h => cases h; exact ⟨by decide, rfl, mcw0, tyX0_ok, nmX0⟩
  | 1, h => cases h; exact ⟨by decide, rfl, mcw1, tyX1_ok, nmX1⟩
  | 2, h => cases h; exact ⟨by decide, rfl, mcw2, tyX2_ok, nmX2⟩
  | 3, h => cases h; exact ⟨by decide, rfl, mcw3, tyX3_ok, nmX3⟩
  | 4, h => cases h; exact ⟨by decide, rfl, mcw4, tyX4_ok, nmX4⟩
  | 5, h => cases h; exact ⟨by decide, rfl, mcw5, tyX5_ok, nmX5⟩
  | 6, h => cases h; exact ⟨by decide, rfl, mcw6, tyX6_ok, nmX6⟩
  | k + 7, h => simp [mcl] at h
