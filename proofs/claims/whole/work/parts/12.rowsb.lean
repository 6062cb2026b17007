theorem lq_has {ls : Array Slot} {L : List (Option Value)} (h : lq ls L) : lv_has ls L.length ((List.range L.length).filterMap (fun i => match L[i]? with | some (some v) => some (i, v) | _ => none)) := by
  refine ⟨h.1, h.2.1, fun q hq => ?_⟩
  obtain ⟨i, -, hi⟩ := List.mem_filterMap.mp hq
  cases hL : L[i]? with
  | none => rw [hL] at hi; cases hi
  | some x =>
    rw [hL] at hi
    cases x with
    | none => cases hi
    | some v => cases hi; exact (h.2.2 i v hL).1
theorem lq_store {ls : Array Slot} {L : List (Option Value)} {i : Nat} {v : Value} (h : lq ls L) (hi : i < L.length) (hc : v.category = 1) : ∃ ls', storeLocals ls i v = some ls' ∧ lq ls' (L.set i (some v)) := by
  obtain ⟨ls', e1, h1, h2, h3⟩ := lv_store1 (v := v) (lq_has h) hi hc
  refine ⟨ls', e1, by rw [List.length_set]; exact h1, h2, fun j w hj => ?_⟩
  rw [List.getElem?_set] at hj
  by_cases e : i = j
  · subst e
    rw [if_pos rfl, if_pos hi] at hj
    cases hj
    exact ⟨h3 (i, v) List.mem_cons_self, hc⟩
  · rw [if_neg e] at hj
    obtain ⟨-, hc1⟩ := h.2.2 j w hj
    refine ⟨h3 (j, w) (List.mem_cons_of_mem _ (List.mem_filter.mpr ⟨List.mem_filterMap.mpr ⟨j, List.mem_range.mpr (List.getElem?_eq_some_iff.mp hj).1, by simp [hj]⟩, ?_⟩)), hc1⟩
    simp [hc1, Ne.symm e]
theorem lq_entry {As : List Value} {n : Nat} (h : (lg_sl As).length ≤ n) (hc : ∀ v ∈ As, v.category = 1) (hn : As.length ≤ n) : lq ((lg_sl As ++ List.replicate (n - (lg_sl As).length) Slot.unset).toArray) (As.map some ++ List.replicate (n - As.length) none) := by
  obtain ⟨h1, h2, h3⟩ := lv_entry As h
  refine ⟨by rw [h1]; simp; omega, h2, fun i v hi => ?_⟩
  have key : ∀ (As : List Value) (k i : Nat) (v : Value), (∀ v ∈ As, v.category = 1) → As[i]? = some v → (k + i, v) ∈ lv_args k As := by
    intro As
    induction As with
    | nil => intro k i v _ hi; simp at hi
    | cons w As ih =>
      intro k i v hc hi
      have hw : w.category = 1 := hc w List.mem_cons_self
      cases i with
      | zero => cases hi; unfold lv_args; exact List.mem_cons_self
      | succ i =>
        have := ih (k + w.category) i v (fun v h => hc v (List.mem_cons_of_mem _ h)) (by simpa using hi)
        unfold lv_args
        rw [hw] at this
        rw [show k + (i + 1) = k + 1 + i by omega]
        exact List.mem_cons_of_mem _ (by first | exact this | (rw [hw]; exact this))
  have hA : As[i]? = some v := by
    rw [List.getElem?_append] at hi
    split at hi
    · rw [List.getElem?_map] at hi
      cases hq : As[i]? with
      | none => rw [hq] at hi; cases hi
      | some w => rw [hq] at hi; cases hi; rfl
    · rw [List.getElem?_replicate] at hi
      split at hi <;> cases hi
  have h4 := h3 _ (key As 0 i v hc hA)
  rw [Nat.zero_add] at h4
  exact ⟨h4, hc v (List.mem_of_getElem? hA)⟩
theorem va_rf_cat (x : Option Nat) : (va_rf x).category = 1 := by cases x <;> rfl
section ML
variable {p : Program} {l : Launch} {e : Env} {R : Room} {s : State} {m : MethodId} {args : Array Value} {below : List Frame} {meth : Method} {c : Code} {H : Heap} {locs : List Loc} {cells slots : Nat} {Q : State → Prop}
variable {cc : ByteArray} {pc nL : Nat} {ls : Array Slot} {rest : List Value} {L : List (Option Value)}
theorem m_iload_n (hx : p.tables.exec = Jvm.exec) (hb : c.code = cc) (hL : lq ls L) {k : Fin 4} {x : Int32} (hd : decode cc pc = .ok (.iload_n k, 1)) (h : L[(k : Nat)]? = some (some (.int x)))
    (kk : W p l e R s m args below meth c H locs cells slots Q (F0 m (pc + 1) ls (.int x :: rest))) : W p l e R s m args below meth c H locs cells slots Q (F0 m pc ls rest) := lv_iload_n hx hb hd rfl (hL.2.2 _ _ h).1 kk
theorem m_iload (hx : p.tables.exec = Jvm.exec) (hb : c.code = cc) (hL : lq ls L) {i : Nat} {x : Int32} (hd : decode cc pc = .ok (.iload i, 2)) (h : L[i]? = some (some (.int x)))
    (kk : W p l e R s m args below meth c H locs cells slots Q (F0 m (pc + 2) ls (.int x :: rest))) : W p l e R s m args below meth c H locs cells slots Q (F0 m pc ls rest) := lv_iload hx hb hd (hL.2.2 _ _ h).1 kk
theorem m_aload_n (hx : p.tables.exec = Jvm.exec) (hb : c.code = cc) (hL : lq ls L) {k : Fin 4} {x : Nat} (hd : decode cc pc = .ok (.aload_n k, 1)) (h : L[(k : Nat)]? = some (some (.ref x)))
    (kk : W p l e R s m args below meth c H locs cells slots Q (F0 m (pc + 1) ls (.ref x :: rest))) : W p l e R s m args below meth c H locs cells slots Q (F0 m pc ls rest) := lv_aload_n hx hb hd rfl (hL.2.2 _ _ h).1 kk
theorem m_aload (hx : p.tables.exec = Jvm.exec) (hb : c.code = cc) (hL : lq ls L) {i : Nat} {x : Nat} (hd : decode cc pc = .ok (.aload i, 2)) (h : L[i]? = some (some (.ref x)))
    (kk : W p l e R s m args below meth c H locs cells slots Q (F0 m (pc + 2) ls (.ref x :: rest))) : W p l e R s m args below meth c H locs cells slots Q (F0 m pc ls rest) := lv_aload hx hb hd (hL.2.2 _ _ h).1 kk
theorem m_aload_nq (hx : p.tables.exec = Jvm.exec) (hb : c.code = cc) (hL : lq ls L) {k : Fin 4} {x : Option Nat} (hd : decode cc pc = .ok (.aload_n k, 1)) (h : L[(k : Nat)]? = some (some (va_rf x)))
    (kk : W p l e R s m args below meth c H locs cells slots Q (F0 m (pc + 1) ls (va_rf x :: rest))) : W p l e R s m args below meth c H locs cells slots Q (F0 m pc ls rest) := by
  cases x with
  | none => exact lv_aload_nN hx hb hd rfl (hL.2.2 _ _ h).1 kk
  | some x => exact lv_aload_n hx hb hd rfl (hL.2.2 _ _ h).1 kk
theorem m_aloadq (hx : p.tables.exec = Jvm.exec) (hb : c.code = cc) (hL : lq ls L) {i : Nat} {x : Option Nat} (hd : decode cc pc = .ok (.aload i, 2)) (h : L[i]? = some (some (va_rf x)))
    (kk : W p l e R s m args below meth c H locs cells slots Q (F0 m (pc + 2) ls (va_rf x :: rest))) : W p l e R s m args below meth c H locs cells slots Q (F0 m pc ls rest) := by
  cases x with
  | none => exact lv_aloadN hx hb hd (hL.2.2 _ _ h).1 kk
  | some x => exact lv_aload hx hb hd (hL.2.2 _ _ h).1 kk
theorem m_istore_n (hx : p.tables.exec = Jvm.exec) (hb : c.code = cc) (hL : lq ls L) {k : Fin 4} {x : Int32} (hd : decode cc pc = .ok (.istore_n k, 1)) (hi : (k : Nat) < L.length)
    (kk : ∀ ls' : Array Slot, lq ls' (L.set k (some (.int x))) → W p l e R s m args below meth c H locs cells slots Q (F0 m (pc + 1) ls' rest)) : W p l e R s m args below meth c H locs cells slots Q (F0 m pc ls (.int x :: rest)) := by
  obtain ⟨ls', e', h'⟩ := lq_store (v := .int x) hL hi rfl
  intro T hT X
  obtain ⟨t, a, b⟩ := kk ls' h' T hT X
  refine ⟨t, ?_, b⟩
  jvm_step X.here [X.here.top, ↓top_set X.here.top, hx, hb, hd, e']
  exact a
theorem m_istore (hx : p.tables.exec = Jvm.exec) (hb : c.code = cc) (hL : lq ls L) {i : Nat} {x : Int32} (hd : decode cc pc = .ok (.istore i, 2)) (hi : i < L.length)
    (kk : ∀ ls' : Array Slot, lq ls' (L.set i (some (.int x))) → W p l e R s m args below meth c H locs cells slots Q (F0 m (pc + 2) ls' rest)) : W p l e R s m args below meth c H locs cells slots Q (F0 m pc ls (.int x :: rest)) := by
  obtain ⟨ls', e', h'⟩ := lq_store (v := .int x) hL hi rfl
  intro T hT X
  obtain ⟨t, a, b⟩ := kk ls' h' T hT X
  refine ⟨t, ?_, b⟩
  jvm_step X.here [X.here.top, ↓top_set X.here.top, hx, hb, hd, e']
  exact a
theorem m_astore_n (hx : p.tables.exec = Jvm.exec) (hb : c.code = cc) (hL : lq ls L) {k : Fin 4} {x : Option Nat} (hd : decode cc pc = .ok (.astore_n k, 1)) (hi : (k : Nat) < L.length)
    (kk : ∀ ls' : Array Slot, lq ls' (L.set k (some (va_rf x))) → W p l e R s m args below meth c H locs cells slots Q (F0 m (pc + 1) ls' rest)) : W p l e R s m args below meth c H locs cells slots Q (F0 m pc ls (va_rf x :: rest)) := by
  obtain ⟨ls', e', h'⟩ := lq_store (v := va_rf x) hL hi (va_rf_cat x)
  intro T hT X
  obtain ⟨t, a, b⟩ := kk ls' h' T hT X
  refine ⟨t, ?_, b⟩
  cases x <;> (jvm_step X.here [X.here.top, ↓top_set X.here.top, hx, hb, hd, e', va_rf, Value.isRef]; exact ⟨ls', e', a⟩)
theorem m_astore (hx : p.tables.exec = Jvm.exec) (hb : c.code = cc) (hL : lq ls L) {i : Nat} {x : Option Nat} (hd : decode cc pc = .ok (.astore i, 2)) (hi : i < L.length)
    (kk : ∀ ls' : Array Slot, lq ls' (L.set i (some (va_rf x))) → W p l e R s m args below meth c H locs cells slots Q (F0 m (pc + 2) ls' rest)) : W p l e R s m args below meth c H locs cells slots Q (F0 m pc ls (va_rf x :: rest)) := by
  obtain ⟨ls', e', h'⟩ := lq_store (v := va_rf x) hL hi (va_rf_cat x)
  intro T hT X
  obtain ⟨t, a, b⟩ := kk ls' h' T hT X
  refine ⟨t, ?_, b⟩
  cases x <;> (jvm_step X.here [X.here.top, ↓top_set X.here.top, hx, hb, hd, e', va_rf, Value.isRef]; exact ⟨ls', e', a⟩)
theorem m_iinc (hx : p.tables.exec = Jvm.exec) (hb : c.code = cc) (hL : lq ls L) {i : Nat} {n : Int} {x v : Int32} (hd : decode cc pc = .ok (.iinc i n, 3)) (h : L[i]? = some (some (.int x))) (hv : x + Int32.ofInt n = v)
    (kk : ∀ ls' : Array Slot, lq ls' (L.set i (some (.int v))) → W p l e R s m args below meth c H locs cells slots Q (F0 m (pc + 3) ls' rest)) : W p l e R s m args below meth c H locs cells slots Q (F0 m pc ls rest) := by
  have hi : i < L.length := (List.getElem?_eq_some_iff.mp h).1
  have hl := (hL.2.2 _ _ h).1
  obtain ⟨ls', e', h'⟩ := lq_store (v := .int v) hL hi rfl
  subst hv
  intro T hT X
  obtain ⟨t, a, b⟩ := kk ls' h' T hT X
  refine ⟨t, ?_, b⟩
  jvm_step X.here [X.here.top, ↓top_set X.here.top, hx, hb, hd, hl, e']
  exact a
/-- null or not -/
theorem m_ifnull (hx : p.tables.exec = Jvm.exec) (hb : c.code = cc) {x : Option Nat} {off : Int} {tgt : Nat} (hd : decode cc pc = .ok (.ifnull off, 3)) (ht : (pc : Int) + off = (tgt : Int))
    (kt : x = none → W p l e R s m args below meth c H locs cells slots Q (F0 m tgt ls rest)) (kf : ∀ a, x = some a → W p l e R s m args below meth c H locs cells slots Q (F0 m (pc + 3) ls rest)) : W p l e R s m args below meth c H locs cells slots Q (F0 m pc ls (va_rf x :: rest)) := by
  cases x with
  | none => exact lv_ifnullN hx hb hd ht (kt rfl)
  | some a => exact lv_ifnull hx hb hd (kf a rfl)
theorem m_ifnonnull (hx : p.tables.exec = Jvm.exec) (hb : c.code = cc) {x : Option Nat} {off : Int} {tgt : Nat} (hd : decode cc pc = .ok (.ifnonnull off, 3)) (ht : (pc : Int) + off = (tgt : Int))
    (kt : ∀ a, x = some a → W p l e R s m args below meth c H locs cells slots Q (F0 m tgt ls rest)) (kf : x = none → W p l e R s m args below meth c H locs cells slots Q (F0 m (pc + 3) ls rest)) : W p l e R s m args below meth c H locs cells slots Q (F0 m pc ls (va_rf x :: rest)) := by
  cases x with
  | none => exact lv_ifnonnullN hx hb hd (kf rfl)
  | some a => exact lv_ifnonnull hx hb hd ht (kt a rfl)
end ML
