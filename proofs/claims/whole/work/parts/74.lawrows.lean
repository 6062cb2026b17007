/-! rows of the law: the script, long values, another renaming -/
def sx (xs : Nat → Int32) (i : Int) : Int := (xs i.toNat).toInt
theorem sx_rg (xs : Nat → Int32) (i : Int) : rng (sx xs i) := ⟨Int32.le_toInt _, Int32.toInt_lt _⟩
theorem sx_rng (xs : Nat → Int32) (i : Int) : -2147483648 ≤ sx xs i ∧ sx xs i ≤ 2147483647 := by have := sx_rg xs i; omega
theorem iv_sx (xs : Nat → Int32) (i : Int) : iv (sx xs i) = xs i.toNat := Int32.ofInt_toInt _
section LR
variable {p : Program} {l : Launch} {e : Env} {R : Room} {s : State} {m : MethodId} {args : Array Value} {below : List Frame} {meth : Method} {c : Code} {H : Heap} {locs : List Loc} {cells slots : Nat} {Q : State → Prop}
variable {cc : ByteArray} {pc : Nat} {ls : Array Slot} {rest : List Value} {A : Nat → Prop} {H0 : Heap}
theorem l_sld (hx : p.tables.exec = Jvm.exec) (hb : c.code = cc) {b L : Nat} {xs : Nat → Int32} (hX : va_X b L xs s H0) (hbl : b < H0.size) (hbA : ¬ A b) (hS : va_S A H0 H locs) (hL : L ≤ 2050) {i : Int} (h0 : 0 ≤ i) (h1 : i < (L : Int)) (hd : decode cc pc = .ok (.iaload, 1))
    (kk : W p l e R s m args below meth c H locs cells slots Q (F0 m (pc + 1) ls (.int (iv (sx xs i)) :: rest))) : W p l e R s m args below meth c H locs cells slots Q (F0 m pc ls (.int (iv i) :: .ref b :: rest)) := by
  have e1 : iv i = nI i.toNat := iv_nat h0
  refine va_sld hx hb hX hbl hbA hS (by rw [e1]; exact vp_in_nI (by omega) (by omega)) hd ?_
  rw [e1, nI_clamp (by omega), ← iv_sx xs i]
  exact kk
theorem l_slen (hx : p.tables.exec = Jvm.exec) (hb : c.code = cc) {b L : Nat} {xs : Nat → Int32} (hX : va_X b L xs s H0) (hbl : b < H0.size) (hbA : ¬ A b) (hS : va_S A H0 H locs) (hd : decode cc pc = .ok (.arraylength, 1))
    (kk : W p l e R s m args below meth c H locs cells slots Q (F0 m (pc + 1) ls (.int (iv (L : Int)) :: rest))) : W p l e R s m args below meth c H locs cells slots Q (F0 m pc ls (.ref b :: rest)) := by
  refine va_slen hx hb hX hbl hbA hS hd ?_
  have e1 : Int32.ofNat L = iv (L : Int) := iv_nI L
  rw [e1]
  exact kk
theorem l_lcmp (hexec : p.tables.exec = Jvm.exec) (hb : c.code = cc) {x : Int64} (hdg : decode cc pc = .ok (.lcmp, 1))
    (k : W p l e R s m args below meth c H locs cells slots Q (F0 m (pc + 1) ls (.int 0 :: rest))) : W p l e R s m args below meth c H locs cells slots Q (F0 m pc ls (.long x :: .long x :: rest)) := by
  intro T hT X
  obtain ⟨t, a, b⟩ := k T hT X
  refine ⟨t, ?_, b⟩
  have hn : ¬ x > x := fun h => absurd h (by simp)
  jvm_step X.here [X.here.top, hexec, hb, hdg, hn]
  exact a
end LR
/-- another renaming, the same where something lies -/
theorem mX.cong {G : mG} {ρ ρ' : Nat → Nat} {A : Nat → Prop} {H0 : Heap} {μ : mM} {z : Nat} {H : Heap} {locs : List Loc} (h : ∀ a x, sh μ a = some x → ρ' a = ρ a) (X : mX G ρ A H0 μ z H locs) : mX G ρ' A H0 μ z H locs := by
  obtain ⟨⟨h1, h2, h3⟩, hS, hA, hf, hsz⟩ := X
  have hm : ∀ a x, sh μ a = some x → (fun k => (mq μ a k).map ρ') = fun k => (mq μ a k).map ρ := fun a x ha => by
    funext k
    cases hq : mq μ a k with
    | none => rfl
    | some d =>
      obtain ⟨y, hy, -⟩ := h3 a x k d ha hq
      simp only [Option.map_some, h d y hy]
  refine ⟨⟨fun a x ha => ?_, fun a b x y ha hb hab => h2 a b x y ha hb (by rw [← h a x ha, ← h b y hb]; exact hab), h3⟩, hS, fun a x ha => by rw [h a x ha]; exact hA a x ha, hf, hsz⟩
  have e1 : mrd G ρ' μ a x = mrd G ρ μ a x := by
    unfold mrd
    cases x with
    | inl ci => simp only [hm a _ ha]
    | inr q => simp only [hm a _ ha]
  rw [e1, h a x ha]
  exact h1 a x ha
/-- the law's reading of the script's first places -/
abbrev scr (b L : Nat) (xs : Nat → Int32) (U : State) : Prop := va_X b L xs U U.heap
theorem k_L_cell {G : mG} {l : Launch} {z : Nat} {ρ : Nat → Nat} {μ : mM} {b L : Nat} {xs : Nat → Int32} {j : Int} (hL0 : L ≤ 2050) (hj : 0 ≤ j ∧ j ≤ 1) (hbz : b < z) (hbA : ¬ mA ρ μ z b) : ME (scr b L xs) G l yL_cell cL_cell 2 (some .int) 0 0 0 0 z ρ [.ref b, .int (iv j)] μ (cP (some (.int (iv (if j < (L : Int) then sx xs j else 0)))) μ z) := by
  refine ME.of (by decide) (by simp [Value.category]) (Nat.le_of_ble_eq_true rfl) (Nat.le_of_ble_eq_true rfl) ?_
  intro p e s m args below meth c' ls hC hr hlk hnm hE X hL
  have hx := hC.1
  have hb := hC.2.1
  have hbl : b < s.heap.size := by rw [X.2.2.2.2]; exact hbz
  refine m_iload_n hx hb hL dL_cell_0 rfl ?_
  refine m_aload_n hx hb hL dL_cell_1 rfl ?_
  refine l_slen hx hb hE hbl hbA X.2.1 dL_cell_2 ?_
  refine m_icmp_ge (tgt := 12) hx hb dL_cell_3 (by decide) (by omega) (by omega) (fun c3 => ?_) (fun c3 => ?_)
  · refine lv_iconst (v := iv 0) hx hb dL_cell_12 rfl ?_
    exact m_iret hC X hr hlk ⟨by rw [if_neg (by omega)], rfl, rfl⟩ dL_cell_13
  · refine m_aload_n hx hb hL dL_cell_6 rfl ?_
    refine m_iload_n hx hb hL dL_cell_7 rfl ?_
    refine l_sld hx hb hE hbl hbA X.2.1 hL0 (by omega) (by omega) dL_cell_8 ?_
    refine lv_goto (tgt := 13) hx hb dL_cell_9 (by decide) ?_
    exact m_iret hC X hr hlk ⟨by rw [if_pos (by omega)], rfl, rfl⟩ dL_cell_13
/-! how many objects there are behind a call -/
theorem mv_6 {A : rS} {a b : Int} : rMove A a b 6 0 = A 6 0 := by
  unfold rMove
  split
  · rw [up_k _ _ (by decide), up_k _ _ (by decide)]
  · rw [up_k _ _ (by decide)]
theorem dr_6 {A : rS} {a : Int} : rDrop A a 6 0 = A 6 0 := by
  unfold rDrop
  split
  · rw [up_k _ _ (by decide), up_k _ _ (by decide)]
  · rw [up_k _ _ (by decide)]
theorem rd_6 {A : rS} {t f i : Int} : rRead A t f i 6 0 = A 6 0 := by
  unfold rRead
  split
  · rw [up_k _ _ (by decide), up_k _ _ (by decide)]
  · rw [up_k _ _ (by decide)]
theorem wr_6 {A : rS} {r i f : Int} : rWrite A r i f 6 0 = A 6 0 := by
  unfold rWrite
  split
  · rw [up_k _ _ (by decide), prep_6, up_k _ _ (by decide)]
  · rw [up_k _ _ (by decide)]
theorem wk_6 {A : rS} {n : Int} : rWork A n 6 0 = A 6 0 := by
  unfold rWork
  split
  · rw [run_fix 0 (by decide), up_k _ _ (by decide)]
  · rw [up_k _ _ (by decide)]
theorem bg_6 {A : rS} : rBegin A 6 0 = A 6 0 := by
  unfold rBegin
  split
  · rw [start_fix 0 (by decide), up_k _ _ (by decide)]
  · rw [up_k _ _ (by decide)]
theorem co_6 {A : rS} : rCollect A 6 0 = A 6 0 := by
  unfold rCollect
  rw [whole_fix 0 (by decide), up_k _ _ (by decide)]
theorem al_6 {A : rS} {P G : Nat → Prop} {r c t : Int} (hK : KK A P G) : rAlloc A r c t 6 0 ≤ A 6 0 + 1 := by
  by_cases h : rAllocOk r c
  · rcases h6_0 (r := r) (t := t) (al1_RI hK h.2) with h | h <;> omega
  · unfold rAlloc
    rw [if_neg h, up_k _ _ (by decide)]
    omega
theorem bg_KK {A : rS} {P G : Nat → Prop} (hK : KK A P G) : ∃ G', KK (rBegin A) P G' := by
  have hK0 := KK_0 (v := 0) hK (by omega)
  have b18 := hK.1.1.b18 0
  unfold rBegin
  split
  · exact ⟨_, start_KK hK0 (by rw [up_k _ _ (by decide)]; omega)⟩
  · exact ⟨_, hK0⟩
/-- where the law stands before a call -/
def LV (G : mG) (s : State) (ρ : Nat → Nat) (n : Nat) (μ : mM) (z : Nat) (H : Heap) (locs : List Loc) : Prop := ∃ (A : rS) (P Gs : Nat → Prop) (cy : Int), mX G ρ (fun q => s.heap.size ≤ q) s.heap μ z H locs ∧ RR A μ ∧ CR A P cy μ ∧ KK A P Gs ∧ NS A μ ∧ sh μ 7 = some (.inr (2, 1)) ∧ A 6 0 ≤ n ∧ cy ≤ n
/-- what the law rests on -/
def LC (G : mG) (p : Program) (l : Launch) (c : Code) (s : State) (m : MethodId) (args : Array Value) (b L : Nat) (xs : Nat → Int32) : Prop := l.stackTraces = false ∧ mC G p c cL_law 7 s m args RL ∧ xW s ∧ XZ (fun q => s.heap.size ≤ q) s s.heap ∧ va_X b L xs s s.heap ∧ b < s.heap.size ∧ L ≤ 2050
