/-! arrays, new cells -/
theorem mtys_at (G : mG) {t : Nat} (h : t < 5) : (mtys G)[t]? = some (G.2 t, mat t) := by
  match t, h with
  | 0, _ => rfl
  | 1, _ => rfl
  | 2, _ => rfl
  | 3, _ => rfl
  | 4, _ => rfl
  | n + 5, h => omega
/-- what stays where a cell is made -/
theorem mX.new {G : mG} {ρ : Nat → Nat} {A : Nat → Prop} {H0 : Heap} {μ : mM} {z : Nat} {H H' : Heap} {locs : List Loc} {a : Nat} {x : mS} (X : mX G ρ A H0 μ z H locs) (ha : sh μ a = none) (hz : ρ a = z) (hnew : va_at G.1 mcl (ρ a, mrd G ρ (newC μ a x) a x) H') (z1 : H'.size = H.size + 1) (hoff : ∀ q : Nat, q < H.size → H'[q]? = H[q]?) : mX G ρ A H0 (newC μ a x) (z + 1) H' locs := by
  obtain ⟨⟨h1, h2, h3⟩, hS, hA, hf, hsz⟩ := X
  have hlt : ∀ b y, sh μ b = some y → ρ b < H.size := fun b y hb => (h1 b y hb).lt
  have hne : ∀ b y, sh μ b = some y → b ≠ a := fun b y hb e => by rw [e, ha] at hb; cases hb
  refine ⟨⟨fun b y hb => ?_, fun b d y y' hb hd hbd => ?_, fun b y k d hb hk => ?_⟩, ⟨Nat.le_trans hS.1 (by omega), fun q q1 q2 => by rw [hoff q (Nat.lt_of_lt_of_le q1 hS.1)]; exact hS.2.1 q q1 q2, hS.2.2⟩, fun b y hb => ?_, hf, by omega⟩
  · rw [sh_N] at hb
    by_cases e : b = a
    · subst e
      rw [if_pos rfl] at hb
      cases hb
      exact hnew
    · rw [if_neg e] at hb
      have e1 : mrd G ρ (newC μ a x) b y = mrd G ρ μ b y := by
        have e1 : mi (newC μ a x) b = mi μ b := by funext j; rw [mi_N, if_neg e]
        have e2 : mq (newC μ a x) b = mq μ b := by funext j; rw [mq_N, if_neg e]
        have e3 : mj (newC μ a x) b = mj μ b := by funext j; rw [mj_N, if_neg e]
        unfold mrd; rw [e1, e2, e3]
      rw [e1]
      exact (h1 b y hb).kept (hoff _ (hlt b y hb))
  · rw [sh_N] at hb hd
    by_cases e : b = a <;> by_cases e' : d = a
    · rw [e, e']
    · rw [if_neg e'] at hd
      have := hlt d y' hd
      rw [e, hz] at hbd
      omega
    · rw [if_neg e] at hb
      have := hlt b y hb
      rw [e', hz] at hbd
      omega
    · rw [if_neg e] at hb
      rw [if_neg e'] at hd
      exact h2 b d y y' hb hd hbd
  · rw [sh_N] at hb
    rw [mq_N] at hk
    by_cases e : b = a
    · rw [if_pos e] at hk; cases hk
    · rw [if_neg e] at hb hk
      obtain ⟨y', hy, ht⟩ := h3 b y k d hb hk
      exact ⟨y', by rw [sh_N, if_neg (hne d y' hy)]; exact hy, ht⟩
  · rw [sh_N] at hb
    by_cases e : b = a
    · rw [e, hz]
      exact hf z (by rw [← hsz]; exact hS.1)
    · rw [if_neg e] at hb
      exact hA b y hb
section MA
variable {p : Program} {l : Launch} {e : Env} {R : Room} {s : State} {m : MethodId} {args : Array Value} {below : List Frame} {meth : Method} {c : Code} {H : Heap} {locs : List Loc} {cells slots : Nat} {Q : State → Prop}
variable {cc : ByteArray} {pc nL : Nat} {ls : Array Slot} {rest : List Value} {G : mG} {ρ : Nat → Nat} {A : Nat → Prop} {H0 : Heap} {μ : mM} {z : Nat} {own : String} {a n : Nat}
theorem m_alen (C : mC G p c cc nL s m args own) (X : mX G ρ A H0 μ z H locs) {t : Nat} (ha : sh μ a = some (.inr (t, n))) (ht : t < 5) (hd : decode cc pc = .ok (.arraylength, 1))
    (kk : W p l e R s m args below meth c H locs cells slots Q (F0 m (pc + 1) ls (.int (nI n) :: rest))) : W p l e R s m args below meth c H locs cells slots Q (F0 m pc ls (.ref (ρ a) :: rest)) := by
  obtain ⟨hx, hb, -, hown, hts, hK, hO1, hO3⟩ := C
  have hP : va_P G.1 mcl [(ρ a, mrd G ρ μ a (.inr (t, n)))] H := fun i q h => by
    match i, h with
    | 0, h => cases h; exact X.1.1 a _ ha
    | k + 1, h => simp at h
  exact va_alen hx hb hK hP 0 t rfl (mtys_at G ht) rfl hd kk
theorem m_iald (C : mC G p c cc nL s m args own) (X : mX G ρ A H0 μ z H locs) (ha : sh μ a = some (.inr (0, n))) {i : Nat} {j v : Int32} (hj : j = nI i) (hi : i < n) (hn : n < 2 ^ 31) (hv : mi μ a i = v) (hd : decode cc pc = .ok (.iaload, 1))
    (kk : W p l e R s m args below meth c H locs cells slots Q (F0 m (pc + 1) ls (.int v :: rest))) : W p l e R s m args below meth c H locs cells slots Q (F0 m pc ls (.int j :: .ref (ρ a) :: rest)) := by
  obtain ⟨hx, hb, -, hown, hts, hK, hO1, hO3⟩ := C
  subst hj; subst hv
  have hP : va_P G.1 mcl [(ρ a, mrd G ρ μ a (.inr (0, n)))] H := fun i q h => by
    match i, h with
    | 0, h => cases h; exact X.1.1 a _ ha
    | k + 1, h => simp at h
  refine va_iald (n := n) (f := mi μ a) hx hb hK hP 0 0 rfl (mtys_at G (by decide)) (vp_in_nI hi hn) hd ?_
  rw [nI_clamp (by omega)]
  exact kk
theorem m_zald (C : mC G p c cc nL s m args own) (X : mX G ρ A H0 μ z H locs) (ha : sh μ a = some (.inr (1, n))) {i : Nat} {j v : Int32} (hj : j = nI i) (hi : i < n) (hn : n < 2 ^ 31) (hv : mi μ a i = v) (hd : decode cc pc = .ok (.baload, 1))
    (kk : W p l e R s m args below meth c H locs cells slots Q (F0 m (pc + 1) ls (.int v :: rest))) : W p l e R s m args below meth c H locs cells slots Q (F0 m pc ls (.int j :: .ref (ρ a) :: rest)) := by
  obtain ⟨hx, hb, -, hown, hts, hK, hO1, hO3⟩ := C
  subst hj; subst hv
  have hP : va_P G.1 mcl [(ρ a, mrd G ρ μ a (.inr (1, n)))] H := fun i q h => by
    match i, h with
    | 0, h => cases h; exact X.1.1 a _ ha
    | k + 1, h => simp at h
  refine va_zald (n := n) (f := mi μ a) hx hb hK hP 0 1 rfl (mtys_at G (by decide)) (vp_in_nI hi hn) hd ?_
  rw [nI_clamp (by omega)]
  exact kk
theorem m_lald (C : mC G p c cc nL s m args own) (X : mX G ρ A H0 μ z H locs) (ha : sh μ a = some (.inr (2, n))) {i : Nat} {j : Int32} {v : Int64} (hj : j = nI i) (hi : i < n) (hn : n < 2 ^ 31) (hv : mj μ a i = v) (hd : decode cc pc = .ok (.laload, 1))
    (kk : W p l e R s m args below meth c H locs cells slots Q (F0 m (pc + 1) ls (.long v :: rest))) : W p l e R s m args below meth c H locs cells slots Q (F0 m pc ls (.int j :: .ref (ρ a) :: rest)) := by
  obtain ⟨hx, hb, -, hown, hts, hK, hO1, hO3⟩ := C
  subst hj; subst hv
  have hP : va_P G.1 mcl [(ρ a, mrd G ρ μ a (.inr (2, n)))] H := fun i q h => by
    match i, h with
    | 0, h => cases h; exact X.1.1 a _ ha
    | k + 1, h => simp at h
  refine va_lald (n := n) (f := mj μ a) hx hb hK hP 0 2 rfl (mtys_at G (by decide)) (vp_in_nI hi hn) hd ?_
  rw [nI_clamp (by omega)]
  exact kk
theorem m_aald (C : mC G p c cc nL s m args own) (X : mX G ρ A H0 μ z H locs) {t : Nat} (ha : sh μ a = some (.inr (t, n))) (ht : t = 3 ∨ t = 4) {i : Nat} {j : Int32} {v : Option Nat} (hj : j = nI i) (hi : i < n) (hn : n < 2 ^ 31) (hv : mq μ a i = v) (hd : decode cc pc = .ok (.aaload, 1))
    (kk : W p l e R s m args below meth c H locs cells slots Q (F0 m (pc + 1) ls (va_rf (v.map ρ) :: rest))) : W p l e R s m args below meth c H locs cells slots Q (F0 m pc ls (.int j :: .ref (ρ a) :: rest)) := by
  obtain ⟨hx, hb, -, hown, hts, hK, hO1, hO3⟩ := C
  subst hj; subst hv
  have hP : va_P G.1 mcl [(ρ a, mrd G ρ μ a (.inr (t, n)))] H := fun i q h => by
    match i, h with
    | 0, h => cases h; exact X.1.1 a _ ha
    | k + 1, h => simp at h
  rcases ht with rfl | rfl
  · refine va_aldq (n := n) (f := fun k => (mq μ a k).map ρ) (C := RX1) hx hb hK hP 0 3 rfl (mtys_at G (by decide)) (vp_in_nI hi hn) hd ?_
    rw [nI_clamp (by omega)]
    exact kk
  · refine va_aldq (n := n) (f := fun k => (mq μ a k).map ρ) (C := RX3) hx hb hK hP 0 4 rfl (mtys_at G (by decide)) (vp_in_nI hi hn) hd ?_
    rw [nI_clamp (by omega)]
    exact kk
/-- the cell of an int array, one place changed -/
theorem m_iast (C : mC G p c cc nL s m args own) (X : mX G ρ A H0 μ z H locs) (ha : sh μ a = some (.inr (0, n))) {i : Nat} {j v : Int32} (hj : j = nI i) (hi : i < n) (hn : n < 2 ^ 31) (hd : decode cc pc = .ok (.iastore, 1))
    (kk : ∀ (H' : Heap) (locs' : List Loc), mX G ρ A H0 (setI μ a i v) z H' locs' → W p l e R s m args below meth c H' locs' cells slots Q (F0 m (pc + 1) ls rest)) : W p l e R s m args below meth c H locs cells slots Q (F0 m pc ls (.int v :: .int j :: .ref (ρ a) :: rest)) := by
  obtain ⟨hx, hb, -, hown, hts, hK, hO1, hO3⟩ := C
  subst hj
  have h0 : H[ρ a]? = some (vp_cell (G.2 0) (n, .inl (mi μ a))) := X.1.1 a _ ha
  refine W.iast hx hb h0 ((hK.2 0 _ (mtys_at G (by decide))).1 n (fun j => .int (mi μ a j))) (fun q => by cases q) (by show ¬ (nI i < 0 ∨ (arrV _ _ _).slots.size ≤ _); rw [arrV_size]; exact vp_in_nI hi hn) rfl rfl hd fun H1 e1 e2 e3 => ?_
  rw [nI_clamp (by omega)] at e1 ⊢
  have hnew : va_at G.1 mcl (ρ a, mrd G ρ (setI μ a i v) a (.inr (0, n))) H1 := by
    show H1[ρ a]? = some (vp_cell (G.2 0) (n, .inl (mi (setI μ a i v) a)))
    rw [e1, vp_cell_i, vp_cell_i, arrV_store]
    congr 2
    funext q
    by_cases hq : q = i
    · subst hq; simp [updV, mi_I]
    · simp [updV, hq, mi_I]
  exact kk H1 _ (X.put ha (fun _ => rfl) (mP_upd X.1 ha (fun _ => rfl) (fun b y h => mrd_I h) X.1.2.2 hnew e3) e2 e3)
theorem m_zast (C : mC G p c cc nL s m args own) (X : mX G ρ A H0 μ z H locs) (ha : sh μ a = some (.inr (1, n))) {i : Nat} {j v : Int32} (hj : j = nI i) (hi : i < n) (hn : n < 2 ^ 31) (hv : v = 0 ∨ v = 1) (hd : decode cc pc = .ok (.bastore, 1))
    (kk : ∀ (H' : Heap) (locs' : List Loc), mX G ρ A H0 (setI μ a i v) z H' locs' → W p l e R s m args below meth c H' locs' cells slots Q (F0 m (pc + 1) ls rest)) : W p l e R s m args below meth c H locs cells slots Q (F0 m pc ls (.int v :: .int j :: .ref (ρ a) :: rest)) := by
  obtain ⟨hx, hb, -, hown, hts, hK, hO1, hO3⟩ := C
  subst hj
  have h0 : H[ρ a]? = some (vp_cell (G.2 1) (n, .inl (mi μ a))) := X.1.1 a _ ha
  refine W.zast hx hb h0 ((hK.2 1 _ (mtys_at G (by decide))).1 n (fun j => .int (mi μ a j))) (fun q => by cases q) (by show ¬ (nI i < 0 ∨ (arrV _ _ _).slots.size ≤ _); rw [arrV_size]; exact vp_in_nI hi hn) rfl rfl hd fun H1 e1 e2 e3 => ?_
  rw [nI_clamp (by omega)] at e1 ⊢
  have hna : narrow .boolean (.int v) = .int v := by rcases hv with rfl | rfl <;> decide +kernel
  have hnew : va_at G.1 mcl (ρ a, mrd G ρ (setI μ a i v) a (.inr (1, n))) H1 := by
    show H1[ρ a]? = some (vp_cell (G.2 1) (n, .inl (mi (setI μ a i v) a)))
    rw [e1, hna, vp_cell_i, vp_cell_i, arrV_store]
    congr 2
    funext q
    by_cases hq : q = i
    · subst hq; simp [updV, mi_I]
    · simp [updV, hq, mi_I]
  exact kk H1 _ (X.put ha (fun _ => rfl) (mP_upd X.1 ha (fun _ => rfl) (fun b y h => mrd_I h) X.1.2.2 hnew e3) e2 e3)
theorem m_last (C : mC G p c cc nL s m args own) (X : mX G ρ A H0 μ z H locs) (ha : sh μ a = some (.inr (2, n))) {i : Nat} {j : Int32} {v : Int64} (hj : j = nI i) (hi : i < n) (hn : n < 2 ^ 31) (hd : decode cc pc = .ok (.lastore, 1))
    (kk : ∀ (H' : Heap) (locs' : List Loc), mX G ρ A H0 (setJ μ a i v) z H' locs' → W p l e R s m args below meth c H' locs' cells slots Q (F0 m (pc + 1) ls rest)) : W p l e R s m args below meth c H locs cells slots Q (F0 m pc ls (.long v :: .int j :: .ref (ρ a) :: rest)) := by
  obtain ⟨hx, hb, -, hown, hts, hK, hO1, hO3⟩ := C
  subst hj
  have h0 : H[ρ a]? = some (vp_cell (G.2 2) (n, .inr (.inl (mj μ a)))) := X.1.1 a _ ha
  refine W.last hx hb h0 ((hK.2 2 _ (mtys_at G (by decide))).1 n (fun j => .long (mj μ a j))) (fun q => by cases q) (by show ¬ (nI i < 0 ∨ (arrV _ _ _).slots.size ≤ _); rw [arrV_size]; exact vp_in_nI hi hn) rfl rfl hd fun H1 e1 e2 e3 => ?_
  rw [nI_clamp (by omega)] at e1 ⊢
  have hnew : va_at G.1 mcl (ρ a, mrd G ρ (setJ μ a i v) a (.inr (2, n))) H1 := by
    show H1[ρ a]? = some (vp_cell (G.2 2) (n, .inr (.inl (mj (setJ μ a i v) a))))
    rw [e1, vp_cell_l, vp_cell_l, arrV_store]
    congr 2
    funext q
    by_cases hq : q = i
    · subst hq; simp [updV, mj_J]
    · simp [updV, hq, mj_J]
  exact kk H1 _ (X.put ha (fun _ => rfl) (mP_upd X.1 ha (fun _ => rfl) (fun b y h => mrd_J h) X.1.2.2 hnew e3) e2 e3)
/-- an array of references: t = 3 holds objects of class 1, t = 4 of class 3 -/
theorem m_aast (C : mC G p c cc nL s m args own) (X : mX G ρ A H0 μ z H locs) {t ci : Nat} (ha : sh μ a = some (.inr (t, n))) (ht : (t = 3 ∧ ci = 1) ∨ (t = 4 ∧ ci = 3)) {i : Nat} {j : Int32} {v : Option Nat} (hj : j = nI i) (hi : i < n) (hn : n < 2 ^ 31) (hv : ∀ b, v = some b → sh μ b = some (.inl ci)) (hd : decode cc pc = .ok (.aastore, 1))
    (kk : ∀ (H' : Heap) (locs' : List Loc), mX G ρ A H0 (setQ μ a i v) z H' locs' → W p l e R s m args below meth c H' locs' cells slots Q (F0 m (pc + 1) ls rest)) : W p l e R s m args below meth c H locs cells slots Q (F0 m pc ls (va_rf (v.map ρ) :: .int j :: .ref (ρ a) :: rest)) := by
  obtain ⟨hx, hb, -, hown, hts, hK, hO1, hO3⟩ := C
  subst hj
  have hlt : (nI i).toNatClampNeg < n := by rw [nI_clamp (by omega)]; exact hi
  have hin : vp_in (nI i) n := vp_in_nI hi hn
  have h0' : ¬ (nI i) < 0 := fun q => hin (Or.inl q)
  have h3 : 3 ≤ t ∧ t < 5 := by rcases ht with ⟨rfl, -⟩ | ⟨rfl, -⟩ <;> decide
  have h0 : H[ρ a]? = some (vp_cell (G.2 t) (n, .inr (.inr (.inr (.inr (fun k => (mq μ a k).map ρ)))))) := by
    have := X.1.1 a _ ha
    rcases ht with ⟨rfl, -⟩ | ⟨rfl, -⟩ <;> exact this
  have fin : ∀ (H1 : Heap), H1[ρ a]? = some ((vp_cell (G.2 t) (n, .inr (.inr (.inr (.inr (fun k => (mq μ a k).map ρ)))))).setSlot (nI i).toNatClampNeg (va_rf (v.map ρ))) → H1.size = H.size → (∀ q, q ≠ ρ a → H1[q]? = H[q]?) → W p l e R s m args below meth c H1 (locs ++ [⟨ρ a, (nI i).toNatClampNeg⟩]) cells slots Q (F0 m (pc + 1) ls rest) := by
    intro H1 e1 e2 e3
    rw [nI_clamp (by omega)] at e1 ⊢
    have hnew : va_at G.1 mcl (ρ a, mrd G ρ (setQ μ a i v) a (.inr (t, n))) H1 := by
      have : H1[ρ a]? = some (vp_cell (G.2 t) (n, .inr (.inr (.inr (.inr (fun k => (mq (setQ μ a i v) a k).map ρ)))))) := by
        rw [e1, vp_cell_q, vp_cell_q, arrV_store]
        congr 2
        funext q
        by_cases hq : q = i
        · subst hq; simp [updV, mq_Q]
        · simp [updV, hq, mq_Q]
      rcases ht with ⟨rfl, -⟩ | ⟨rfl, -⟩ <;> exact this
    exact kk H1 _ (X.put ha (fun _ => rfl) (mP_upd X.1 ha (fun _ => rfl) (fun b y h => mrd_Q h) (mcl_Q X.1.2.2 ha (fun d hd => ⟨_, hv d hd, by rcases ht with ⟨rfl, rfl⟩ | ⟨rfl, rfl⟩ <;> exact ⟨fun h => by first | rfl | omega, fun h => by first | rfl | omega⟩⟩)) hnew e3) e2 e3)
  have hT := hK.2 t _ (mtys_at G h3.2)
  cases v with
  | none =>
    rcases ht with ⟨rfl, -⟩ | ⟨rfl, -⟩
    · exact va_WaastN (C := RX1) hx hb h0 (hT.1 n (fun j => va_rf ((mq μ a j).map ρ))) (fun h => by cases h) (by show ¬ (nI i < 0 ∨ (arrV _ _ _).slots.size ≤ _); rw [arrV_size]; exact hin) rfl rfl hd (fun H1 e1 e2 e3 => fin H1 e1 e2 e3)
    · exact va_WaastN (C := RX3) hx hb h0 (hT.1 n (fun j => va_rf ((mq μ a j).map ρ))) (fun h => by cases h) (by show ¬ (nI i < 0 ∨ (arrV _ _ _).slots.size ≤ _); rw [arrV_size]; exact hin) rfl rfl hd (fun H1 e1 e2 e3 => fin H1 e1 e2 e3)
  | some b =>
    obtain ⟨r', hr', cellV, g1, g2, g3, -⟩ := X.1.1 b _ (hv b rfl)
    rcases ht with ⟨rfl, rfl⟩ | ⟨rfl, rfl⟩
    · have hcls := (hK.1 1 (RX1, TX1, 7) rfl).2
      obtain ⟨kA, comp, k1, k2, k3, -⟩ := hT.2
      have hcomp : comp = G.1.1 1 := Option.some.inj (k3.symm.trans hcls.1)
      subst hcomp
      obtain ⟨kC, hkC, -⟩ := hcls.2
      exact W.aast hx hb h0 (fun q h => by cases h) (fun h => by cases h) k1 k2 rfl hkC ⟨h0', by show _ < (arrV _ _ _).slots.size; rw [arrV_size]; exact hlt⟩ g1 (fun q h => by rw [g3] at h; cases h) (by rw [g2]; exact hkC) (by rw [g2]; exact va_assign hcls) rfl rfl hd (fun H1 e1 e2 e3 => fin H1 e1 e2 e3)
    · have hcls := (hK.1 3 (RX3, TX3, 6) rfl).2
      obtain ⟨kA, comp, k1, k2, k3, -⟩ := hT.2
      have hcomp : comp = G.1.1 3 := Option.some.inj (k3.symm.trans hcls.1)
      subst hcomp
      obtain ⟨kC, hkC, -⟩ := hcls.2
      exact W.aast hx hb h0 (fun q h => by cases h) (fun h => by cases h) k1 k2 rfl hkC ⟨h0', by show _ < (arrV _ _ _).slots.size; rw [arrV_size]; exact hlt⟩ g1 (fun q h => by rw [g3] at h; cases h) (by rw [g2]; exact hkC) (by rw [g2]; exact va_assign hcls) rfl rfl hd (fun H1 e1 e2 e3 => fin H1 e1 e2 e3)
end MA
