theorem fl_set {N k : Nat} {f g : Nat → Value} {v : Value} (h : g k = v) (h' : ∀ j, j ≠ k → g j = f j) : ((List.range N).map f).set k v = (List.range N).map g := by
  apply List.ext_getElem?
  intro i
  by_cases hi : i = k
  · subst hi
    by_cases hN : i < N
    · simp [List.getElem?_set, hN, h]
    · simp [List.getElem?_set, hN]
  · by_cases hN : i < N
    · simp [List.getElem?_set, Ne.symm hi, hN, h' i hi]
    · simp [List.getElem?_set, Ne.symm hi, hN]
theorem fl_get {N k : Nat} {f : Nat → Value} (h : k < N) : ((List.range N).map f)[k]? = some (f k) := by simp [h]
theorem mfl_get {ci k : Nat} {I : Nat → Int32} {Q : Nat → Option Nat} (h : k < mar ci) : (mfl ci I Q)[k]? = some (if mrf ci k = true then va_rf (Q k) else .int (I k)) := fl_get h
theorem mfl_len (ci : Nat) (I : Nat → Int32) (Q : Nat → Option Nat) : (mfl ci I Q).length = mar ci := by simp [mfl]
/-- one cell changes -/
theorem mP_upd {G : mG} {ρ : Nat → Nat} {μ μ' : mM} {H H' : Heap} {a : Nat} {x : mS} (hP : mP G ρ μ H) (ha : sh μ a = some x) (hsh : ∀ b, sh μ' b = sh μ b) (hsame : ∀ b y, b ≠ a → mrd G ρ μ' b y = mrd G ρ μ b y)
    (hcl : ∀ b y k d, sh μ b = some y → mq μ' b k = some d → ∃ y', sh μ d = some y' ∧ mtg y k y') (hnew : va_at G.1 mcl (ρ a, mrd G ρ μ' a x) H') (hoff : ∀ q : Nat, q ≠ ρ a → H'[q]? = H[q]?) : mP G ρ μ' H' := by
  obtain ⟨h1, h2, h3⟩ := hP
  refine ⟨fun b y hb => ?_, fun b d y y' hb hd => ?_, fun b y k d hb hk => ?_⟩
  · rw [hsh] at hb
    by_cases e : b = a
    · subst e
      cases ha.symm.trans hb
      exact hnew
    · rw [hsame b y e]
      exact (h1 b y hb).kept (hoff _ (fun q => e (h2 b a y x hb ha q)))
  · rw [hsh] at hb hd
    exact h2 b d y y' hb hd
  · rw [hsh] at hb
    obtain ⟨y', hy, ht⟩ := hcl b y k d hb hk
    exact ⟨y', by rw [hsh]; exact hy, ht⟩
theorem mrd_I {G : mG} {ρ : Nat → Nat} {μ : mM} {a k b : Nat} {v : Int32} {y : mS} (h : b ≠ a) : mrd G ρ (setI μ a k v) b y = mrd G ρ μ b y := by
  have e1 : mi (setI μ a k v) b = mi μ b := by funext j; rw [mi_I, if_neg (fun q => h q.1)]
  have e2 : mq (setI μ a k v) b = mq μ b := rfl
  have e3 : mj (setI μ a k v) b = mj μ b := rfl
  unfold mrd; rw [e1, e2, e3]
theorem mrd_Q {G : mG} {ρ : Nat → Nat} {μ : mM} {a k b : Nat} {v : Option Nat} {y : mS} (h : b ≠ a) : mrd G ρ (setQ μ a k v) b y = mrd G ρ μ b y := by
  have e1 : mi (setQ μ a k v) b = mi μ b := rfl
  have e2 : mq (setQ μ a k v) b = mq μ b := by funext j; rw [mq_Q, if_neg (fun q => h q.1)]
  have e3 : mj (setQ μ a k v) b = mj μ b := rfl
  unfold mrd; rw [e1, e2, e3]
theorem mrd_J {G : mG} {ρ : Nat → Nat} {μ : mM} {a k b : Nat} {v : Int64} {y : mS} (h : b ≠ a) : mrd G ρ (setJ μ a k v) b y = mrd G ρ μ b y := by
  have e1 : mi (setJ μ a k v) b = mi μ b := rfl
  have e2 : mq (setJ μ a k v) b = mq μ b := rfl
  have e3 : mj (setJ μ a k v) b = mj μ b := by funext j; rw [mj_J, if_neg (fun q => h q.1)]
  unfold mrd; rw [e1, e2, e3]
theorem mcl_Q {μ : mM} {a k : Nat} {x : mS} {v : Option Nat} (h : ∀ b y k d, sh μ b = some y → mq μ b k = some d → ∃ y', sh μ d = some y' ∧ mtg y k y') (ha : sh μ a = some x) (hv : ∀ d, v = some d → ∃ y', sh μ d = some y' ∧ mtg x k y') : ∀ b y k' d, sh μ b = some y → mq (setQ μ a k v) b k' = some d → ∃ y', sh μ d = some y' ∧ mtg y k' y' := by
  intro b y k' d hb hk
  rw [mq_Q] at hk
  split at hk
  · rename_i e
    obtain ⟨rfl, rfl⟩ := e
    cases ha.symm.trans hb
    exact hv d hk
  · exact h b y k' d hb hk
theorem mX.put {G : mG} {ρ : Nat → Nat} {A : Nat → Prop} {H0 : Heap} {μ μ' : mM} {z : Nat} {H H' : Heap} {locs : List Loc} {a k : Nat} {x : mS} (X : mX G ρ A H0 μ z H locs) (ha : sh μ a = some x) (hsh : ∀ b, sh μ' b = sh μ b) (hP' : mP G ρ μ' H') (z1 : H'.size = H.size) (hoff : ∀ q : Nat, q ≠ ρ a → H'[q]? = H[q]?) : mX G ρ A H0 μ' z H' (locs ++ [⟨ρ a, k⟩]) :=
  ⟨hP', X.2.1.put z1 hoff (X.2.2.1 a x ha), fun b y hb => X.2.2.1 b y (by rw [← hsh]; exact hb), X.2.2.2.1, by rw [z1]; exact X.2.2.2.2⟩
/-- a field by its place in the constant pool of a class -/
def mF (own : String) (idx ci k : Nat) : Prop := ∃ r : vw_C, mcl[ci]? = some r ∧ k < r.2.2 ∧ Cond.fieldLink own idx (r.2.1 k).1 (r.2.1 k).2.1 (r.2.1 k).2.2.1 ∈ AW
/-- .. and it may be written -/
def mFw (own : String) (idx ci k : Nat) : Prop := ∃ r : vw_C, mcl[ci]? = some r ∧ k < r.2.2 ∧ Cond.fieldLink own idx (r.2.1 k).1 (r.2.1 k).2.1 (r.2.1 k).2.2.1 ∈ AW ∧ (r.2.1 k).2.2.2 = false
/-- .. a final one, written in a constructor -/
def mFf (own : String) (idx ci k : Nat) : Prop := ∃ r : vw_C, mcl[ci]? = some r ∧ k < r.2.2 ∧ Cond.fieldLink own idx (r.2.1 k).1 (r.2.1 k).2.1 (r.2.1 k).2.2.1 ∈ AW ∧ (r.2.1 k).2.2.2 = true ∧ (r.2.1 k).1 = own
/-- where a reference leads -/
theorem mX.tc {G : mG} {ρ : Nat → Nat} {A : Nat → Prop} {H0 : Heap} {μ : mM} {z : Nat} {H : Heap} {locs : List Loc} (X : mX G ρ A H0 μ z H locs) {a ci k b : Nat} (c : Nat) (ha : sh μ a = some (.inl ci)) (hq : mq μ a k = some b) (ht : mtk ci k = some (.inl c)) : sh μ b = some (.inl c) := by
  obtain ⟨y, hy, h⟩ := X.1.2.2 a _ k b ha hq
  unfold mtg at h
  simp only [ht] at h
  rw [hy, h]
theorem mX.ta {G : mG} {ρ : Nat → Nat} {A : Nat → Prop} {H0 : Heap} {μ : mM} {z : Nat} {H : Heap} {locs : List Loc} (X : mX G ρ A H0 μ z H locs) {a ci k b : Nat} (t : Nat) (ha : sh μ a = some (.inl ci)) (hq : mq μ a k = some b) (ht : mtk ci k = some (.inr t)) : ∃ n, sh μ b = some (.inr (t, n)) := by
  obtain ⟨y, hy, h⟩ := X.1.2.2 a _ k b ha hq
  unfold mtg at h
  simp only [ht] at h
  obtain ⟨n, rfl⟩ := h
  exact ⟨n, hy⟩
theorem mX.to {G : mG} {ρ : Nat → Nat} {A : Nat → Prop} {H0 : Heap} {μ : mM} {z : Nat} {H : Heap} {locs : List Loc} (X : mX G ρ A H0 μ z H locs) {a n k b : Nat} (ha : sh μ a = some (.inr (3, n))) (hq : mq μ a k = some b) : sh μ b = some (.inl 1) := by
  obtain ⟨y, hy, h⟩ := X.1.2.2 a _ k b ha hq
  rw [hy, h.1 rfl]
theorem mX.tr {G : mG} {ρ : Nat → Nat} {A : Nat → Prop} {H0 : Heap} {μ : mM} {z : Nat} {H : Heap} {locs : List Loc} (X : mX G ρ A H0 μ z H locs) {a n k b : Nat} (ha : sh μ a = some (.inr (4, n))) (hq : mq μ a k = some b) : sh μ b = some (.inl 3) := by
  obtain ⟨y, hy, h⟩ := X.1.2.2 a _ k b ha hq
  rw [hy, h.2 rfl]
section MR
variable {p : Program} {l : Launch} {e : Env} {R : Room} {s : State} {m : MethodId} {args : Array Value} {below : List Frame} {meth : Method} {c : Code} {H : Heap} {locs : List Loc} {cells slots : Nat} {Q : State → Prop}
variable {cc : ByteArray} {pc nL : Nat} {ls : Array Slot} {rest : List Value} {G : mG} {ρ : Nat → Nat} {A : Nat → Prop} {H0 : Heap} {μ : mM} {z : Nat} {own : String}
theorem m_get (C : mC G p c cc nL s m args own) (X : mX G ρ A H0 μ z H locs) {a ci k idx : Nat} (F : mF own idx ci k) (ha : sh μ a = some (.inl ci)) (hd : decode cc pc = .ok (.getfield idx, 3))
    (kk : W p l e R s m args below meth c H locs cells slots Q (F0 m (pc + 3) ls ((if mrf ci k = true then va_rf ((mq μ a k).map ρ) else .int (mi μ a k)) :: rest))) : W p l e R s m args below meth c H locs cells slots Q (F0 m pc ls (.ref (ρ a) :: rest)) := by
  obtain ⟨hx, hb, -, hown, hts, hK, hO1, hO3⟩ := C
  obtain ⟨r, hr, hk, hl⟩ := F
  obtain ⟨-, hN, hin, -, -⟩ := mcl_all hr
  have hP : va_P G.1 mcl [(ρ a, mrd G ρ μ a (.inl ci))] H := fun i q h => by
    match i, h with
    | 0, h => cases h; exact X.1.1 a _ ha
    | n + 1, h => simp at h
  refine va_get (C := r.1) (T := r.2.1) (N := r.2.2) (ci := ci) hx hb hts hin hown hK hP 0 rfl hr k hk (hts _ hl) (fun _ h => h) (mfl_get (by rw [← hN]; exact hk)) hd kk
theorem m_geti (C : mC G p c cc nL s m args own) (X : mX G ρ A H0 μ z H locs) {a ci k idx : Nat} {v : Int32} (F : mF own idx ci k) (ha : sh μ a = some (.inl ci)) (hr : mrf ci k = false) (hv : mi μ a k = v) (hd : decode cc pc = .ok (.getfield idx, 3))
    (kk : W p l e R s m args below meth c H locs cells slots Q (F0 m (pc + 3) ls (.int v :: rest))) : W p l e R s m args below meth c H locs cells slots Q (F0 m pc ls (.ref (ρ a) :: rest)) :=
  m_get C X F ha hd (by rw [hr, hv]; exact kk)
theorem m_getq (C : mC G p c cc nL s m args own) (X : mX G ρ A H0 μ z H locs) {a ci k idx : Nat} {v : Option Nat} (F : mF own idx ci k) (ha : sh μ a = some (.inl ci)) (hr : mrf ci k = true) (hv : mq μ a k = v) (hd : decode cc pc = .ok (.getfield idx, 3))
    (kk : W p l e R s m args below meth c H locs cells slots Q (F0 m (pc + 3) ls (va_rf (v.map ρ) :: rest))) : W p l e R s m args below meth c H locs cells slots Q (F0 m pc ls (.ref (ρ a) :: rest)) :=
  m_get C X F ha hd (by rw [hr, hv]; exact kk)
theorem m_getr (C : mC G p c cc nL s m args own) (X : mX G ρ A H0 μ z H locs) {a ci k idx b : Nat} (F : mF own idx ci k) (ha : sh μ a = some (.inl ci)) (hr : mrf ci k = true) (hv : mq μ a k = some b) (hd : decode cc pc = .ok (.getfield idx, 3))
    (kk : W p l e R s m args below meth c H locs cells slots Q (F0 m (pc + 3) ls (.ref (ρ b) :: rest))) : W p l e R s m args below meth c H locs cells slots Q (F0 m pc ls (.ref (ρ a) :: rest)) :=
  m_get C X F ha hd (by rw [hr, hv]; exact kk)
/-- putfield, of any kind -/
theorem m_put (C : mC G p c cc nL s m args own) (X : mX G ρ A H0 μ z H locs) {a ci k idx : Nat} {v : Value} {μ' : mM} (F : mFw own idx ci k) (ha : sh μ a = some (.inl ci)) (hn : narrow (mty ci k) v = v) (hf : fits (mty ci k) v = true) (hsh : ∀ b, sh μ' b = sh μ b) (hsame : ∀ b y, b ≠ a → mrd G ρ μ' b y = mrd G ρ μ b y)
    (hcl : ∀ b y k d, sh μ b = some y → mq μ' b k = some d → ∃ y', sh μ d = some y' ∧ mtg y k y') (hset : k < mar ci → (mfl ci (mi μ a) (fun k => (mq μ a k).map ρ)).set k v = mfl ci (mi μ' a) (fun k => (mq μ' a k).map ρ)) (hd : decode cc pc = .ok (.putfield idx, 3))
    (kk : ∀ (H' : Heap) (locs' : List Loc), mX G ρ A H0 μ' z H' locs' → W p l e R s m args below meth c H' locs' cells slots Q (F0 m (pc + 3) ls rest)) : W p l e R s m args below meth c H locs cells slots Q (F0 m pc ls (v :: .ref (ρ a) :: rest)) := by
  obtain ⟨hx, hb, -, hown, hts, hK, hO1, hO3⟩ := C
  obtain ⟨r, hr, hk, hl, hfin⟩ := F
  obtain ⟨-, hN, hin, hty, hnm⟩ := mcl_all hr
  have hap := va_apart (own := own) hts hin (mty ci) hty hnm hK hr
  obtain ⟨r', hr', cell, q1, q2, q3, q4⟩ := X.1.1 a _ ha
  have er : r' = r := Option.some.inj (hr'.symm.trans hr)
  subst er
  obtain ⟨hS, hfc, kC, hkC, hkind⟩ := hK.1 ci _ hr
  obtain ⟨cf, kf, fi, f, hi, hsl⟩ := hS k hk
  have hlay := hts _ (hin _ (u_in_lay hk))
  unfold u_lay at hlay
  rw [if_neg (by rw [hfin]; decide)] at hlay
  have hst := (u_facts hfc hkC (u_lays hts hin hk) hi).1
  have h6 := u_store hfc hkC hkind hlay hi (hty k hk) hn hf
  have hk' : k < mar ci := by rw [← hN]; exact hk
  refine W.putK hx hb (f := f) ⟨hown, hts _ hl, ⟨_, _, _, hi⟩, hst⟩ (by rw [q2]; exact h6) q1 q3 (by rw [hsl]; exact k2_hasslot (q4 k hk)) rfl rfl hd fun H' e1 e2 e3 => ?_
  rw [hsl] at e1 ⊢
  have hnew : va_at G.1 mcl (ρ a, mrd G ρ μ' a (.inl ci)) H' := by
    show ∃ r : vw_C, mcl[ci]? = some r ∧ t_OB (ρ a) (G.1.1 ci) r.2.2 (G.1.2 ci) H' (vp_V (mfl ci (mi μ' a) (fun k => (mq μ' a k).map ρ)))
    rw [← hset hk']
    exact ⟨_, hr, t_OB.to (V := updV (vp_V _) k v) ⟨_, e1, q2, q3, t_set q4 hap hk v⟩ (fun j _ => vp_updV_set (by rw [mfl_len]; exact hk') v j)⟩
  exact kk H' _ (X.put ha hsh (mP_upd X.1 ha hsh hsame hcl hnew e3) e2 e3)
theorem m_puti (C : mC G p c cc nL s m args own) (X : mX G ρ A H0 μ z H locs) {a ci k idx : Nat} {v : Int32} (F : mFw own idx ci k) (ha : sh μ a = some (.inl ci)) (ht : mty ci k = .int) (hd : decode cc pc = .ok (.putfield idx, 3))
    (kk : ∀ (H' : Heap) (locs' : List Loc), mX G ρ A H0 (setI μ a k v) z H' locs' → W p l e R s m args below meth c H' locs' cells slots Q (F0 m (pc + 3) ls rest)) : W p l e R s m args below meth c H locs cells slots Q (F0 m pc ls (.int v :: .ref (ρ a) :: rest)) := by
  have hrf : mrf ci k = false := by unfold mrf; rw [ht]
  refine m_put (μ' := setI μ a k v) C X F ha (by rw [ht]; rfl) (by rw [ht]; rfl) (fun _ => rfl) (fun b y h => mrd_I h) X.1.2.2 (fun hk => fl_set ?_ ?_) hd kk
  · simp [hrf, mi_I]
  · intro j hj
    simp [mi_I, hj, mq_I]
theorem m_putz (C : mC G p c cc nL s m args own) (X : mX G ρ A H0 μ z H locs) {a ci k idx : Nat} {v : Int32} (F : mFw own idx ci k) (ha : sh μ a = some (.inl ci)) (ht : mty ci k = .boolean) (hv : v = 0 ∨ v = 1) (hd : decode cc pc = .ok (.putfield idx, 3))
    (kk : ∀ (H' : Heap) (locs' : List Loc), mX G ρ A H0 (setI μ a k v) z H' locs' → W p l e R s m args below meth c H' locs' cells slots Q (F0 m (pc + 3) ls rest)) : W p l e R s m args below meth c H locs cells slots Q (F0 m pc ls (.int v :: .ref (ρ a) :: rest)) := by
  have hrf : mrf ci k = false := by unfold mrf; rw [ht]
  refine m_put (μ' := setI μ a k v) C X F ha (by rw [ht]; rcases hv with rfl | rfl <;> decide +kernel) (by rw [ht]; rcases hv with rfl | rfl <;> decide +kernel) (fun _ => rfl) (fun b y h => mrd_I h) X.1.2.2 (fun hk => fl_set ?_ ?_) hd kk
  · simp [hrf, mi_I]
  · intro j hj
    simp [mi_I, hj, mq_I]
theorem mrf_n {ci k : Nat} (hr : mrf ci k = true) (hj : mty ci k ≠ .int ∧ mty ci k ≠ .boolean ∧ mty ci k ≠ .byte ∧ mty ci k ≠ .char ∧ mty ci k ≠ .short ∧ mty ci k ≠ .long ∧ mty ci k ≠ .float ∧ mty ci k ≠ .double) (x : Option Nat) : narrow (mty ci k) (va_rf x) = va_rf x ∧ fits (mty ci k) (va_rf x) = true := by
  revert hj
  cases mty ci k <;> cases x <;> simp [narrow, fits, va_rf]
theorem m_putq (C : mC G p c cc nL s m args own) (X : mX G ρ A H0 μ z H locs) {a ci k idx : Nat} {v : Option Nat} (F : mFw own idx ci k) (ha : sh μ a = some (.inl ci)) (hr : mrf ci k = true) (hj : mty ci k ≠ .int ∧ mty ci k ≠ .boolean ∧ mty ci k ≠ .byte ∧ mty ci k ≠ .char ∧ mty ci k ≠ .short ∧ mty ci k ≠ .long ∧ mty ci k ≠ .float ∧ mty ci k ≠ .double) (hv : ∀ d, v = some d → ∃ y', sh μ d = some y' ∧ mtg (.inl ci) k y') (hd : decode cc pc = .ok (.putfield idx, 3))
    (kk : ∀ (H' : Heap) (locs' : List Loc), mX G ρ A H0 (setQ μ a k v) z H' locs' → W p l e R s m args below meth c H' locs' cells slots Q (F0 m (pc + 3) ls rest)) : W p l e R s m args below meth c H locs cells slots Q (F0 m pc ls (va_rf (v.map ρ) :: .ref (ρ a) :: rest)) := by
  have h2 := mrf_n hr hj (v.map ρ)
  refine m_put (μ' := setQ μ a k v) C X F ha h2.1 h2.2 (fun _ => rfl) (fun b y h => mrd_Q h) (mcl_Q X.1.2.2 ha hv) (fun hk => fl_set ?_ ?_) hd kk
  · simp [hr, mq_Q]
  · intro j hj
    simp [mi_Q, hj, mq_Q]
end MR
