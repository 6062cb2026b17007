/-! constructors of the class -/
def clp (lo hi x : Int) : Int := if x < lo then lo else if hi < x then hi else x
theorem w_min : Cond.methodLink RX5 143 Lib.Math.min.name ∈ AW ∧ Cond.static Lib.Math.min.name ∈ AW ∧ Cond.initialized "java/lang/Math" ∈ AW ∧ Cond.code Lib.Math.min.name Lib.Math.min.code 2 (some .int) ∈ AW := ⟨by decide +kernel, by decide +kernel, by decide +kernel, by decide +kernel⟩
theorem w_max : Cond.methodLink RX5 149 Lib.Math.max.name ∈ AW ∧ Cond.static Lib.Math.max.name ∈ AW ∧ Cond.initialized "java/lang/Math" ∈ AW ∧ Cond.code Lib.Math.max.name Lib.Math.max.code 2 (some .int) ∈ AW := ⟨by decide +kernel, by decide +kernel, by decide +kernel, by decide +kernel⟩
theorem iv_if {a b u v : Int} (ha : rng a) (hb : rng b) : (if iv a < iv b then iv u else iv v) = iv (if a < b then u else v) := by
  by_cases h : a < b
  · rw [if_pos h, if_pos ((iv_lt ha hb).mpr h)]
  · rw [if_neg h, if_neg (fun q => h ((iv_lt ha hb).mp q))]
theorem k_X5_within {G : mG} {l : Launch} {z : Nat} {ρ : Nat → Nat} {μ : mM} {x lo hi : Int} (hx0 : rng x) (hl0 : rng lo) (hh0 : rng hi) (hlh : lo ≤ hi) : MZ G l yX5_within cX5_within 3 (some .int) 1 21 z ρ [.int (iv x), .int (iv lo), .int (iv hi)] μ (cP (some (.int (iv (clp lo hi x)))) μ z) := by
  refine MZ.of (by decide) (by simp [Value.category]) (Nat.le_of_ble_eq_true rfl) (Nat.le_of_ble_eq_true rfl) ?_
  intro p e s m args below meth c ls H locs hC hx hb hr hlk X hL
  have e1 : (if lo < (if x < hi then x else hi) then (if x < hi then x else hi) else lo) = clp lo hi x := by
    unfold clp
    repeat' split
    all_goals omega
  have r1 : rng (if x < hi then x else hi) := by split <;> omega
  refine m_iload_n hx hb hL dX5_within_0 rfl ?_
  refine m_iload_n hx hb hL dX5_within_1 rfl ?_
  refine m_iload_n hx hb hL dX5_within_2 rfl ?_
  have hts := hC.2.2.2.2.1
  refine va_mmin hx hb (hC.2.2.1.trans hL.1.symm) hC.2.2.2.1 (hts _ w_min.1) (hts _ w_min.2.1) (hts _ w_min.2.2.1) (hts _ w_min.2.2.2) (by decide) (Nat.le_of_ble_eq_true rfl) (by decide) (by decide) dX5_within_3 ?_
  rw [iv_if hx0 hh0]
  refine va_mmax hx hb (hC.2.2.1.trans hL.1.symm) hC.2.2.2.1 (hts _ w_max.1) (hts _ w_max.2.1) (hts _ w_max.2.2.1) (hts _ w_max.2.2.2) (by decide) (Nat.le_of_ble_eq_true rfl) (by decide) (by decide) dX5_within_6 ?_
  rw [iv_if hl0 r1]
  exact m_iret hC X hr hlk ⟨by rw [e1], rfl, rfl⟩ dX5_within_9
theorem k_X4_init {G : mG} {l : Launch} {z : Nat} {ρ : Nat → Nat} {μ : mM} {a : Nat} : MC G l yX4_init cX4_init 1 none 1 20 0 0 z ρ [.ref (ρ a)] μ (cP none μ z) := by
  refine MC.of (by decide) (by simp [Value.category]) (Nat.le_of_ble_eq_true rfl) (Nat.le_of_ble_eq_true rfl) ?_
  intro p e s m args below meth c' ls hC hr hlk hnm X hL
  have hx := hC.1
  have hb := hC.2.1
  refine m_aload_n hx hb hL dX4_init_0 rfl ?_
  refine m_oinit hC OX4_1 hL.1 (Nat.le_of_ble_eq_true rfl) ⟨by decide, by decide⟩ dX4_init_1 ?_
  exact m_vret hC X hr hlk ⟨rfl, rfl, rfl⟩ dX4_init_4
/-- a region, when it is made -/
def rg0 (μ : mM) (o f : Nat) (x : Int) : mM := setI (setQ (newC (setI μ o 0 (iv x)) f (.inr (3, 128))) o 1 (some f)) o 2 (iv 0)
theorem rg0_sh (μ : mM) (o f : Nat) (x : Int) (a : Nat) : sh (rg0 μ o f x) a = if a = f then some (.inr (3, 128)) else sh μ a := rfl
theorem k_X3_init {G : mG} {l : Launch} {z : Nat} {ρ : Nat → Nat} {μ : mM} {o f : Nat} {x : Int} (ho : sh μ o = some (.inl 3)) (hf : sh μ f = none) (hz : ρ f = z) : MC G l yX3_init cX3_init 2 none 1 20 1 128 z ρ [.ref (ρ o), .int (iv x)] μ (fun v μ' z' => v = none ∧ μ' = rg0 μ o f x ∧ z' = z + 1) := by
  have nof : o ≠ f := fun e => by rw [e, hf] at ho; cases ho
  refine MC.of (by decide) (by simp [Value.category]) (Nat.le_of_ble_eq_true rfl) (Nat.le_of_ble_eq_true rfl) ?_
  intro p e s m args below meth c' ls hC hr hlk hnm X hL
  have hx := hC.1
  have hb := hC.2.1
  refine m_aload_n hx hb hL dX3_init_0 rfl ?_
  refine m_oinit hC OX3_3 hL.1 (Nat.le_of_ble_eq_true rfl) ⟨by decide, by decide⟩ dX3_init_1 ?_
  refine m_aload_n hx hb hL dX3_init_4 rfl ?_
  refine m_iload_n hx hb hL dX3_init_5 rfl ?_
  refine m_putFi (v := iv x) hC X hnm FfX3_9 ho rfl dX3_init_6 (fun H locs X => ?_)
  refine m_aload_n hx hb hL dX3_init_9 rfl ?_
  refine lv_sipush (v := iv 128) hx hb dX3_init_10 (by decide +kernel) ?_
  refine m_anew (a := f) (n := 128) hC X (Or.inl ⟨rfl, rfl⟩) KX3_15 (by decide +kernel) (by decide) hf hz (by decide) (by decide) dX3_init_13 (fun H X => ?_)
  refine m_putFq (v := some f) hC X hnm FfX3_17 (by rw [sh_N, if_neg nof]; exact ho) rfl (by decide) (fun d hd => by cases hd; exact ⟨_, by rw [sh_N, if_pos rfl], ⟨_, rfl⟩⟩) dX3_init_16 (fun H locs X => ?_)
  refine m_aload_n hx hb hL dX3_init_19 rfl ?_
  refine lv_iconst (v := iv 0) hx hb dX3_init_20 rfl ?_
  refine c_puti (x := 0) hC X FwX3_21 (by rw [sh_Q, sh_N, if_neg nof]; exact ho) rfl dX3_init_21 (fun H locs X => ?_)
  exact m_vret hC X hr hlk ⟨rfl, rfl, rfl⟩ dX3_init_24
/-- the memory when i of n regions are made -/
def G2 (i n : Nat) (μ μ' : mM) : Prop :=
  (sh μ' 4 = some (.inr (3, 10)) ∧ (∀ k, mq μ' 4 k = none) ∧ sh μ' 5 = some (.inr (4, n)) ∧ mq μ' 2 0 = some 4 ∧ mq μ' 2 1 = some 5)
  ∧ (∀ r, r < i → mq μ' 5 r = some (aRg r) ∧ sh μ' (aRg r) = some (.inl 3) ∧ mq μ' (aRg r) 1 = some (aSt r) ∧ sh μ' (aSt r) = some (.inr (3, 128)) ∧ mi μ' (aRg r) 0 = iv r ∧ (∀ k, k ≠ 0 → mi μ' (aRg r) k = iv 0) ∧ ∀ k, mq μ' (aSt r) k = none)
  ∧ (∀ r, i ≤ r → sh μ' (aRg r) = none ∧ sh μ' (aSt r) = none)
  ∧ (∀ a, a ≠ 4 → a ≠ 5 → (∀ r, a ≠ aRg r) → (∀ r, a ≠ aSt r) → sh μ' a = sh μ a ∧ (∀ k, mi μ' a k = mi μ a k) ∧ ∀ k, ¬ (a = 2 ∧ k < 2) → mq μ' a k = mq μ a k)
def rg1 (ν : mM) (i : Nat) : mM := setQ (rg0 (newC ν (aRg i) (.inl 3)) (aRg i) (aSt i) (i : Int)) 5 i (some (aRg i))
theorem rg1_sh (ν : mM) (i a : Nat) : sh (rg1 ν i) a = if a = aSt i then some (.inr (3, 128)) else if a = aRg i then some (.inl 3) else sh ν a := rfl
theorem rg1_mi (ν : mM) (i a k : Nat) (ha : a ≠ aRg i) (hs : a ≠ aSt i) : mi (rg1 ν i) a k = mi ν a k := by
  unfold rg1 rg0
  rw [mi_Q, mi_ne (fun q => ha q.1), mi_Q, mi_N, if_neg hs, mi_ne (fun q => ha q.1), mi_N, if_neg ha]
theorem rg1_mq (ν : mM) (i a k : Nat) (ha : a ≠ aRg i) (hs : a ≠ aSt i) (h5 : ¬ (a = 5 ∧ k = i)) : mq (rg1 ν i) a k = mq ν a k := by
  unfold rg1 rg0
  rw [mq_ne h5, mq_I, mq_ne (fun q => ha q.1), mq_N, if_neg hs, mq_I, mq_N, if_neg ha]
theorem G2_0 {n : Nat} {μ : mM} (h2 : sh μ 2 = some (.inl 2)) (hrg : ∀ r, sh μ (aRg r) = none ∧ sh μ (aSt r) = none) : G2 0 n μ (setQ (newC (setQ (newC μ 4 (.inr (3, 10))) 2 0 (some 4)) 5 (.inr (4, n))) 2 1 (some 5)) := by
  refine ⟨⟨rfl, fun k => rfl, rfl, rfl, rfl⟩, fun r h => absurd h (by omega), fun r _ => ?_, fun a h4 h5 _ _ => ⟨?_, fun k => ?_, fun k hk => ?_⟩⟩
  · have n4 : aRg r ≠ 4 := aRg_f (by decide)
    have n5 : aRg r ≠ 5 := aRg_f (by decide)
    have m4 : aSt r ≠ 4 := aSt_f (by decide)
    have m5 : aSt r ≠ 5 := aSt_f (by decide)
    exact ⟨by rw [sh_Q, sh_N, if_neg n5, sh_Q, sh_N, if_neg n4]; exact (hrg r).1, by rw [sh_Q, sh_N, if_neg m5, sh_Q, sh_N, if_neg m4]; exact (hrg r).2⟩
  · rw [sh_Q, sh_N, if_neg h5, sh_Q, sh_N, if_neg h4]
  · rw [mi_Q, mi_N, if_neg h5, mi_Q, mi_N, if_neg h4]
  · rw [mq_ne (fun q => hk (by omega)), mq_N, if_neg h5, mq_ne (fun q => hk (by omega)), mq_N, if_neg h4]
theorem G2_s {i n : Nat} {μ ν : mM} (h : G2 i n μ ν) : G2 (i + 1) n μ (rg1 ν i) := by
  obtain ⟨⟨a1, a2, a3, a4, a5⟩, b, c, d⟩ := h
  have f : ∀ k, k < 6 → k ≠ aRg i ∧ k ≠ aSt i := fun k hk => ⟨fun q => aRg_f hk q.symm, fun q => aSt_f hk q.symm⟩
  refine ⟨⟨?_, fun k => ?_, ?_, ?_, ?_⟩, fun r hr => ?_, fun r hr => ?_, fun a h4 h5 hg hs => ⟨?_, fun k => ?_, fun k hk => ?_⟩⟩
  · rw [rg1_sh, if_neg (f 4 (by decide)).2, if_neg (f 4 (by decide)).1]; exact a1
  · rw [rg1_mq _ _ _ _ (f 4 (by decide)).1 (f 4 (by decide)).2 (by omega)]; exact a2 k
  · rw [rg1_sh, if_neg (f 5 (by decide)).2, if_neg (f 5 (by decide)).1]; exact a3
  · rw [rg1_mq _ _ _ _ (f 2 (by decide)).1 (f 2 (by decide)).2 (by omega)]; exact a4
  · rw [rg1_mq _ _ _ _ (f 2 (by decide)).1 (f 2 (by decide)).2 (by omega)]; exact a5
  · by_cases e : r = i
    · subst e
      have n1 : aRg r ≠ aSt r := aRg_ne_aSt r r
      have n5 : aRg r ≠ 5 := aRg_f (by decide)
      have m5 : aSt r ≠ 5 := aSt_f (by decide)
      refine ⟨?_, ?_, ?_, ?_, ?_, fun k hk => ?_, fun k => ?_⟩
      · unfold rg1; rw [mq_eq]
      · rw [rg1_sh, if_neg n1, if_pos rfl]
      · unfold rg1 rg0; rw [mq_ne (fun q => n5 q.1), mq_I, mq_eq]
      · rw [rg1_sh, if_pos rfl]
      · unfold rg1 rg0; rw [mi_Q, mi_ne (by omega), mi_Q, mi_N, if_neg n1, mi_I, if_pos ⟨rfl, rfl⟩]
      · unfold rg1 rg0
        rw [mi_Q, mi_I]
        by_cases e2 : k = 2
        · rw [if_pos ⟨rfl, e2⟩]
        · rw [if_neg (fun q => e2 q.2), mi_Q, mi_N, if_neg n1, mi_ne (fun q => hk q.2), mi_N, if_pos rfl]; rfl
      · unfold rg1 rg0; rw [mq_ne (fun q => m5 q.1), mq_I, mq_ne (fun q => n1 q.1.symm), mq_N, if_pos rfl]
    · obtain ⟨x1, x2, x3, x4, x5, x6, x7⟩ := b r (by omega)
      have n1 : aRg r ≠ aRg i := fun q => e (aRg_inj q)
      have n2 : aRg r ≠ aSt i := aRg_ne_aSt r i
      have n3 : aSt r ≠ aRg i := fun q => aRg_ne_aSt i r q.symm
      have n4 : aSt r ≠ aSt i := fun q => e (aSt_inj q)
      have n5 : aRg r ≠ 5 := aRg_f (by decide)
      have m5 : aSt r ≠ 5 := aSt_f (by decide)
      refine ⟨?_, ?_, ?_, ?_, ?_, fun k hk => ?_, fun k => ?_⟩
      · rw [rg1_mq _ _ _ _ (f 5 (by decide)).1 (f 5 (by decide)).2 (by omega)]; exact x1
      · rw [rg1_sh, if_neg n2, if_neg n1]; exact x2
      · rw [rg1_mq _ _ _ _ n1 n2 (fun q => n5 q.1)]; exact x3
      · rw [rg1_sh, if_neg n4, if_neg n3]; exact x4
      · rw [rg1_mi _ _ _ _ n1 n2]; exact x5
      · rw [rg1_mi _ _ _ _ n1 n2]; exact x6 k hk
      · rw [rg1_mq _ _ _ _ n3 n4 (fun q => m5 q.1)]; exact x7 k
  · obtain ⟨x1, x2⟩ := c r (by omega)
    have n1 : aRg r ≠ aRg i := fun q => absurd (aRg_inj q) (by omega)
    have n2 : aRg r ≠ aSt i := aRg_ne_aSt r i
    have n3 : aSt r ≠ aRg i := fun q => aRg_ne_aSt i r q.symm
    have n4 : aSt r ≠ aSt i := fun q => absurd (aSt_inj q) (by omega)
    exact ⟨by rw [rg1_sh, if_neg n2, if_neg n1]; exact x1, by rw [rg1_sh, if_neg n4, if_neg n3]; exact x2⟩
  · rw [rg1_sh, if_neg (hs i), if_neg (hg i)]; exact (d a h4 h5 hg hs).1
  · rw [rg1_mi _ _ _ _ (hg i) (hs i)]; exact (d a h4 h5 hg hs).2.1 k
  · rw [rg1_mq _ _ _ _ (hg i) (hs i) (fun q => h5 q.1)]; exact (d a h4 h5 hg hs).2.2 k hk
set_option maxHeartbeats 4000000 in
theorem k_X2_init {G : mG} {l : Launch} {z : Nat} {ρ : Nat → Nat} {μ : mM} {n : Nat} (hn : 3 ≤ n ∧ n ≤ 16) (h2 : sh μ 2 = some (.inl 2)) (h4 : sh μ 4 = none) (h5 : sh μ 5 = none) (hrg : ∀ r, sh μ (aRg r) = none ∧ sh μ (aSt r) = none) (z4 : ρ 4 = z) (z5 : ρ 5 = z + 1) (zr : ∀ r, r < n → ρ (aRg r) = z + 2 + 2 * r ∧ ρ (aSt r) = z + 3 + 2 * r) :
    MC G l yX2_init cX2_init 3 none 2 41 34 2170 z ρ [.ref (ρ 2), .int (iv (n : Int))] μ (fun v μ' z' => v = none ∧ G2 n n μ μ' ∧ z' = z + 2 + 2 * n) := by
  refine MC.of (by decide) (by simp [Value.category]) (Nat.le_of_ble_eq_true rfl) (Nat.le_of_ble_eq_true rfl) ?_
  intro p e s m args below meth c' ls hC hr hlk hnm X hL
  have hx := hC.1
  have hb := hC.2.1
  have lp : ∀ (f i : Nat) (ν : mM) (H : Heap) (locs : List Loc) (ls : Array Slot), n - i ≤ f → i ≤ n → G2 i n μ ν → mX G ρ (mA ρ μ z) s.heap ν (z + 2 + 2 * i) H locs → lq ls [some (.ref (ρ 2)), some (.int (iv (n : Int))), some (.int (iv (i : Int)))] →
      W p l e (rm 2 41 34 2170) s m args below meth c' H locs (2 + 2 * i) (10 + n + 134 * i) (wQ G ρ μ z (fun v μ' z' => v = none ∧ G2 n n μ μ' ∧ z' = z + 2 + 2 * n) below args s 34 2170) (F0 m 23 ls []) := by
    intro f
    induction f with
    | zero =>
      intro i ν H locs ls hf hi hG X hL
      have ei : i = n := by omega
      subst ei
      refine m_iload_n hx hb hL dX2_init_23 rfl ?_
      refine m_iload_n hx hb hL dX2_init_24 rfl ?_
      refine m_icmp_ge (tgt := 48) hx hb dX2_init_25 (by decide) (by omega) (by omega) (fun c25 => ?_) (fun c25 => absurd c25 (by omega))
      refine W_widen (k := 34) (n := 2170) (by omega) (by omega) ?_
      exact m_vret hC X hr hlk ⟨rfl, hG, rfl⟩ dX2_init_48
    | succ f ih =>
      intro i ν H locs ls hf hi hG X hL
      refine m_iload_n hx hb hL dX2_init_23 rfl ?_
      refine m_iload_n hx hb hL dX2_init_24 rfl ?_
      refine m_icmp_ge (tgt := 48) hx hb dX2_init_25 (by decide) (by omega) (by omega) (fun c25 => ?_) (fun c25 => ?_)
      · have ei : i = n := by omega
        subst ei
        refine W_widen (k := 34) (n := 2170) (by omega) (by omega) ?_
        exact m_vret hC X hr hlk ⟨rfl, hG, rfl⟩ dX2_init_48
      · have hin : i < n := by omega
        obtain ⟨⟨a1, a2, a3, a4, a5⟩, b, cc, d⟩ := id hG
        have d2 := (d 2 (by decide) (by decide) (fun r q => aRg_f (by decide) q.symm) (fun r q => aSt_f (by decide) q.symm)).1
        have zi := zr i hin
        refine m_aload_n hx hb hL dX2_init_28 rfl ?_
        refine m_getr (b := 5) hC X FX2_19 (d2.trans h2) rfl a5 dX2_init_29 ?_
        refine m_iload_n hx hb hL dX2_init_32 rfl ?_
        refine m_new (a := aRg i) hC X NX2_17 (cc i (Nat.le_refl _)).1 zi.1 (by show 2 + 2 * i + 1 ≤ 34; omega) (by show 10 + n + 134 * i + 6 ≤ 2170; omega) dX2_init_33 (fun H X => ?_)
        refine lv_dup hx hb dX2_init_36 rfl ?_
        refine m_iload_n hx hb hL dX2_init_37 rfl ?_
        refine m_callI (b := aRg i) hC X (k_X3_init (o := aRg i) (f := aSt i) (x := (i : Int)) (by rw [sh_N, if_pos rfl]) (by rw [sh_N, if_neg (fun q => aRg_ne_aSt _ _ q.symm)]; exact (cc i (Nat.le_refl _)).2) (zi.2.trans (by omega))) VX2_23 rfl ⟨by decide, by decide⟩ ⟨by show 2 + 2 * i + 1 + 1 ≤ 34; omega, by show 10 + n + 134 * i + 6 + 128 ≤ 2170; omega⟩ hL.1 rfl (Nat.le_of_ble_eq_true rfl) dX2_init_38 (fun v38 μ38 z38 H locs hp X => ?_)
        obtain ⟨rfl, hm_, hz_⟩ := hp
        have hm_ := hm_.symm
        have hz_ := hz_.symm
        subst hm_
        subst hz_
        refine m_aast (v := some (aRg i)) (i := i) (n := n) hC X (t := 4) (ci := 3) (by rw [rg0_sh, if_neg (fun q => aSt_f (by decide) q.symm), sh_N, if_neg (fun q => aRg_f (by decide) q.symm)]; exact a3) (Or.inr ⟨rfl, rfl⟩) (by rw [iv_nI]) hin (by omega) (fun b' h => by cases h; rw [rg0_sh, if_neg (aRg_ne_aSt _ _), sh_N, if_pos rfl]) dX2_init_41 (fun H locs X => ?_)
        refine m_iincv hx hb hL dX2_init_42 rfl (fun ls hL => ?_)
        refine lv_goto (tgt := 23) hx hb dX2_init_45 (by decide) ?_
        refine W_widen (k := 2 + 2 * (i + 1)) (n := 10 + n + 134 * (i + 1)) (by show 2 + 2 * i + 1 + 1 ≤ _; omega) (by show 10 + n + 134 * i + 6 + 128 ≤ _; omega) ?_
        exact ih (i + 1) (rg1 ν i) _ _ ls (by omega) (by omega) (G2_s hG) (by rw [show z + 2 + 2 * (i + 1) = z + 2 + 2 * i + 1 + 1 by omega]; exact X) (by rw [show ((i + 1 : Nat) : Int) = (i : Int) + 1 by omega]; exact hL)
  refine m_aload_n hx hb hL dX2_init_0 rfl ?_
  refine m_oinit hC OX2_3 hL.1 (Nat.le_of_ble_eq_true rfl) ⟨by decide, by decide⟩ dX2_init_1 ?_
  refine m_aload_n hx hb hL dX2_init_4 rfl ?_
  refine lv_bipush (v := iv 10) hx hb dX2_init_5 (by decide +kernel) ?_
  refine m_anew (a := 4) (n := 10) hC X (Or.inl ⟨rfl, rfl⟩) KX2_9 (by decide +kernel) (by decide) h4 z4 (by decide) (by decide) dX2_init_7 (fun H X => ?_)
  refine m_putFq (v := some 4) hC X hnm FfX2_11 (by rw [sh_N, if_neg (by decide)]; exact h2) rfl (by decide) (fun d hd => by cases hd; exact ⟨_, by rw [sh_N, if_pos rfl], ⟨_, rfl⟩⟩) dX2_init_10 (fun H locs X => ?_)
  refine m_aload_n hx hb hL dX2_init_13 rfl ?_
  refine m_iload_n hx hb hL dX2_init_14 rfl ?_
  refine m_anew (a := 5) (n := n) hC X (Or.inr ⟨rfl, rfl⟩) KX2_17 (by rw [iv_nI]) (by omega) (by rw [sh_Q, sh_N, if_neg (by decide)]; exact h5) z5 (by decide) (by show 0 + 10 + n ≤ 2170; omega) dX2_init_15 (fun H X => ?_)
  refine m_putFq (v := some 5) hC X hnm FfX2_19 (by rw [sh_N, if_neg (by decide), sh_Q, sh_N, if_neg (by decide)]; exact h2) rfl (by decide) (fun d hd => by cases hd; exact ⟨_, by rw [sh_N, if_pos rfl], ⟨_, rfl⟩⟩) dX2_init_18 (fun H locs X => ?_)
  refine lv_iconst (v := iv 0) hx hb dX2_init_21 rfl ?_
  refine m_istore_n hx hb hL dX2_init_22 (Nat.le_of_ble_eq_true rfl) (fun ls hL => ?_)
  refine W_widen (k := 2 + 2 * 0) (n := 10 + n + 134 * 0) (by decide) (by show 0 + 10 + n ≤ _; omega) ?_
  exact lp n 0 _ _ _ ls (by omega) (by omega) (G2_0 h2 hrg) X hL
/-! contracts that rest on more -/
def ME (E : State → Prop) (G : mG) (l : Launch) (y : MethodName) (cy : ByteArray) (ny : Nat) (ret : Option FieldType) (fr lo mc ms z : Nat) (ρ : Nat → Nat) (As : List Value) (μ : mM) (Post : Option Value → mM → Nat → Prop) : Prop :=
  Met l y (Cond.code y cy ny ret :: AW) { frames := fr, cells := mc, slots := ms, locals := lo } (va_Pc As (fun U => U.heap.size = z ∧ mP G ρ μ U.heap ∧ mK G U ∧ E U)) (mQc G ρ μ z Post) mc ms (mA ρ μ z)
theorem ME.of {E : State → Prop} {G : mG} {l : Launch} {y : MethodName} {cy : ByteArray} {ny : Nat} {ret : Option FieldType} {fr lo mc ms z : Nat} {ρ : Nat → Nat} {As : List Value} {μ : mM} {Post : Option Value → mM → Nat → Prop}
    (hy : plainName y.cls = true) (hc : ∀ v ∈ As, v.category = 1) (hn : (lg_sl As).length ≤ ny) (hn2 : As.length ≤ ny)
    (body : ∀ (p : Program) (e : Env) (s : State) (m : MethodId) (args : Array Value) (below : List Frame) (meth : Method) (c : Code) (ls : Array Slot), mC G p c cy ny s m args y.cls → meth.sig.returnType = ret → meth.locks = false → meth.name = y.name → E s →
      mX G ρ (mA ρ μ z) s.heap μ z s.heap [] → lq ls (As.map some ++ List.replicate (ny - As.length) none) →
      W p l e { frames := fr, cells := mc, slots := ms, locals := lo } s m args below meth c s.heap [] 0 0 (MQ below (mQc G ρ μ z Post) args s mc ms (mA ρ μ z)) (F0 m 0 ls [])) : ME E G l y cy ny ret fr lo mc ms z ρ As μ Post := by
  refine Met.ofW (cc := cy) (maxL := ny) (ret := ret) hy rfl ?_
  intro p e s m args below meth c s₁ B hml hv
  obtain ⟨rfl, hsz, hP, hK, hE⟩ := hv
  have hts := atoms_spec (ws := Cond.code y cy ny ret :: AW) B.pre
  rw [lg_entry_eq]
  exact body p e s m _ below meth c _ ⟨B.exec, B.bytes, hml, findClass_of_methodNamed B.named, fun w hw => hts w (List.mem_cons_of_mem _ hw), hK⟩ B.returns B.notSynchronized (name_of_methodNamed B.named B.method).1 hE
    ⟨hP, va_S.rf, fun a x h => Or.inl ⟨a, x, h, rfl⟩, fun q h => Or.inr (by rw [← hsz]; exact h), hsz⟩ (lq_entry hn hc hn2)
theorem ME_blind {E : State → Prop} {G : mG} {ρ : Nat → Nat} {μ : mM} {z : Nat} {As : List Value} (hE : ∀ (U : State) g mk a, E U → E (U.calling g mk a)) : FrameBlind (va_Pc As (fun U => U.heap.size = z ∧ mP G ρ μ U.heap ∧ mK G U ∧ E U)) := fun a U g mk q => by
  obtain ⟨q0, q1, qP, qK, qE⟩ := q
  exact ⟨q0, q1, qP, mK.moved (u := U) (U := U.calling g mk a) (Vm.Alike.refl U.vm) qK, hE U g mk a qE⟩
section MEC
variable {p : Program} {l : Launch} {e : Env} {R : Room} {s : State} {m : MethodId} {args : Array Value} {below : List Frame} {meth : Method} {c : Code} {H : Heap} {locs : List Loc} {cells slots : Nat} {Q : State → Prop}
variable {cc : ByteArray} {pc nL : Nat} {ls : Array Slot} {rest st0 : List Value} {G : mG} {ρ : Nat → Nat} {A : Nat → Prop} {H0 : Heap} {μ : mM} {z : Nat} {own : String} {E : State → Prop}
variable {y : MethodName} {cy : ByteArray} {ny n fr lo mc ms idx ci b : Nat} {ret : Option FieldType} {As : List Value} {Post : Option Value → mM → Nat → Prop}
theorem e_callS (C : mC G p c cc nL s m args own) (hEb : ∀ (U : State) g mk a, E U → E (U.calling g mk a)) (hE : ∀ U : State, U.heap = H → s.WarmedH U.vm → E U) (X : mX G ρ A H0 μ z H locs) (hM : ME E G l y cy ny ret fr lo mc ms z ρ As μ Post) (F : mVs own idx y cy ny ret n) (hn : As.length = n) (hR : fr + 1 ≤ R.frames ∧ 8 + (ny + 11) + lo ≤ R.locals) (hC : cells + mc ≤ R.cells ∧ slots + ms ≤ R.slots) (hls : ls.size = nL)
    (hst : st0 = As.reverse ++ rest) (hrest : (rest.map fun v => v.category).sum ≤ 8) (hd : decode cc pc = .ok (.invokestatic idx, 3))
    (kk : ∀ (v : Option Value) (μ' : mM) (z' : Nat) (H' : Heap) (locs' : List Loc), Post v μ' z' → mX G ρ A H0 μ' z' H' locs' → W p l e R s m args below meth c H' locs' (cells + mc) (slots + ms) Q (F0 m (pc + 3) ls (v.toList ++ rest))) : W p l e R s m args below meth c H locs cells slots Q (F0 m pc ls st0) := by
  obtain ⟨w1, w2, w4, w5, hdd⟩ := F
  have hts := C.2.2.2.2.1
  exact m_after X (va_runS (As := As) (bytes := cy) (maxL := ny) (ret := ret) (n := n) (rm := { frames := fr, cells := mc, slots := ms, locals := lo }) ⟨C.1, C.2.1, C.2.2.1, C.2.2.2.1, hts⟩ hM ⟨callB_of n hts (aw_goodIn (fun _ h => h) w5) rfl rfl rfl (hts _ w4) (hts _ w1) hdd hR, hts _ w2⟩
    ⟨ME_blind hEb, fun U hU hW => ⟨rfl, by rw [hU]; exact X.2.2.2.2, by rw [hU]; exact X.1, mK.moved hW.alike C.2.2.2.2.2, hE U hU hW⟩⟩ rfl hn hls hst (lv_room hrest) hd hC) kk
theorem e_callI (C : mC G p c cc nL s m args own) (hEb : ∀ (U : State) g mk a, E U → E (U.calling g mk a)) (hE : ∀ U : State, U.heap = H → s.WarmedH U.vm → E U) (X : mX G ρ A H0 μ z H locs) (hM : ME E G l y cy ny none fr lo mc ms z ρ (.ref (ρ b) :: As) μ Post) (F : mVi own idx y cy ny n) (hn : As.length = n) (hR : fr + 1 ≤ R.frames ∧ 8 + (ny + 11) + lo ≤ R.locals) (hC : cells + mc ≤ R.cells ∧ slots + ms ≤ R.slots) (hls : ls.size = nL)
    (hst : st0 = As.reverse ++ .ref (ρ b) :: rest) (hrest : (rest.map fun v => v.category).sum ≤ 8) (hd : decode cc pc = .ok (.invokespecial idx, 3))
    (kk : ∀ (v : Option Value) (μ' : mM) (z' : Nat) (H' : Heap) (locs' : List Loc), Post v μ' z' → mX G ρ A H0 μ' z' H' locs' → W p l e R s m args below meth c H' locs' (cells + mc) (slots + ms) Q (F0 m (pc + 3) ls (v.toList ++ rest))) : W p l e R s m args below meth c H locs cells slots Q (F0 m pc ls st0) := by
  obtain ⟨w1, w2, w4, w5, hnm, hdd⟩ := F
  have hts := C.2.2.2.2.1
  exact m_after X (va_runI (b := ρ b) (As := As) (bytes := cy) (maxL := ny) (n := n) (rm := { frames := fr, cells := mc, slots := ms, locals := lo }) ⟨C.1, C.2.1, C.2.2.1, C.2.2.2.1, hts⟩ hM ⟨callB_of n hts (aw_goodIn (fun _ h => h) w5) rfl rfl rfl (hts _ w4) (hts _ w1) hdd hR, hnm, hts _ w2⟩
    ⟨ME_blind hEb, fun U hU hW => ⟨rfl, by rw [hU]; exact X.2.2.2.2, by rw [hU]; exact X.1, mK.moved hW.alike C.2.2.2.2.2, hE U hU hW⟩⟩ rfl hn hls hst (lv_room hrest) hd hC) kk
/-- a constructor of a nest's mate -/
theorem m_callIN {host : String} (C : mC G p c cc nL s m args own) (hN : va_Nw (.methodLinkNest own idx y host) s) (X : mX G ρ A H0 μ z H locs) (hM : MC G l y cy ny none fr lo mc ms z ρ (.ref (ρ b) :: As) μ Post) (w2 : Cond.instanceMethod y ∈ AW) (w4 : Cond.initialized y.cls ∈ AW) (w5 : Cond.code y cy ny none ∈ AW) (hnm : y.name = "<init>") (hdd : y.cls ≠ "java/lang/invoke/MethodHandle" ∧ y.cls ≠ "java/lang/invoke/VarHandle" ∧ (parseMethodDescriptor y.desc).map (fun d => d.parameters.length) = some n) (hn : As.length = n) (hR : fr + 1 ≤ R.frames ∧ 8 + (ny + 11) + lo ≤ R.locals) (hC : cells + mc ≤ R.cells ∧ slots + ms ≤ R.slots) (hls : ls.size = nL)
    (hst : st0 = As.reverse ++ .ref (ρ b) :: rest) (hrest : (rest.map fun v => v.category).sum ≤ 8) (hd : decode cc pc = .ok (.invokespecial idx, 3))
    (kk : ∀ (v : Option Value) (μ' : mM) (z' : Nat) (H' : Heap) (locs' : List Loc), Post v μ' z' → mX G ρ A H0 μ' z' H' locs' → W p l e R s m args below meth c H' locs' (cells + mc) (slots + ms) Q (F0 m (pc + 3) ls (v.toList ++ rest))) : W p l e R s m args below meth c H locs cells slots Q (F0 m pc ls st0) := by
  have hts := C.2.2.2.2.1
  exact m_after X (va_runIN (b := ρ b) (As := As) (bytes := cy) (maxL := ny) (n := n) (rm := { frames := fr, cells := mc, slots := ms, locals := lo }) ⟨C.1, C.2.1, C.2.2.1, C.2.2.2.1, hts⟩ hM ⟨va_cnB (ws' := AW) n hts (aw_goodIn (fun _ h => h) w5) rfl rfl rfl hN (hts _ w4) hdd hR, hnm, hts _ w2⟩
    ⟨mPc_blind, fun U hU hW => ⟨rfl, by rw [hU]; exact X.2.2.2.2, by rw [hU]; exact X.1, mK.moved hW.alike C.2.2.2.2.2⟩⟩ rfl hn hls hst (lv_room hrest) hd hC) kk
end MEC
abbrev nst (U : State) : Prop := va_Nw (.methodLinkNest RX0 26 yX4_init "ForwardHeap") U
theorem nst_b (U : State) (g : JFrame) (mk : MethodId) (a : Array Value) (h : nst U) : nst (U.calling g mk a) := va_Nw.same rfl (u := U) rfl h
theorem w_X4 : Cond.instanceMethod yX4_init ∈ AW ∧ Cond.initialized yX4_init.cls ∈ AW ∧ Cond.code yX4_init cX4_init 1 none ∈ AW := ⟨by decide +kernel, by decide +kernel, by decide +kernel⟩
/-- the collector, when it is made -/
def co0 (ν : mM) (th : Int) : mM := setQ (newC (setI (setQ ν 1 0 (some 2)) 1 1 (iv th)) 3 (.inl 4)) 1 2 (some 3)
set_option maxHeartbeats 4000000 in
theorem k_X0_init {G : mG} {l : Launch} {z : Nat} {ρ : Nat → Nat} {μ : mM} {n : Nat} {th : Int} (hn : 3 ≤ n ∧ n ≤ 16) (h1 : sh μ 1 = some (.inl 0)) (h2 : sh μ 2 = none) (h3 : sh μ 3 = none) (h4 : sh μ 4 = none) (h5 : sh μ 5 = none) (hrg : ∀ r, sh μ (aRg r) = none ∧ sh μ (aSt r) = none) (z2 : ρ 2 = z) (z4 : ρ 4 = z + 1) (z5 : ρ 5 = z + 2) (zr : ∀ r, r < n → ρ (aRg r) = z + 3 + 2 * r ∧ ρ (aSt r) = z + 4 + 2 * r) (z3 : ρ 3 = z + 3 + 2 * n) :
    ME nst G l yX0_init cX0_init 3 none 3 63 36 2177 z ρ [.ref (ρ 1), .int (iv (n : Int)), .int (iv th)] μ (fun v μ' z' => v = none ∧ (∃ ν, G2 n n (newC μ 2 (.inl 2)) ν ∧ μ' = co0 ν th) ∧ z' = z + 4 + 2 * n) := by
  refine ME.of (by decide) (by simp [Value.category]) (Nat.le_of_ble_eq_true rfl) (Nat.le_of_ble_eq_true rfl) ?_
  intro p e s m args below meth c' ls hC hr hlk hnm hN X hL
  have hx := hC.1
  have hb := hC.2.1
  refine m_aload_n hx hb hL dX0_init_0 rfl ?_
  refine m_oinit hC OX0_3 hL.1 (Nat.le_of_ble_eq_true rfl) ⟨by decide, by decide⟩ dX0_init_1 ?_
  refine m_aload_n hx hb hL dX0_init_4 rfl ?_
  refine m_new (a := 2) hC X NX0_9 h2 z2 (by decide) (by decide) dX0_init_5 (fun H X => ?_)
  refine lv_dup hx hb dX0_init_8 rfl ?_
  refine m_iload_n hx hb hL dX0_init_9 rfl ?_
  refine m_callI (b := 2) hC X (k_X2_init hn (by rw [sh_N, if_pos rfl]) (by rw [sh_N, if_neg (by decide)]; exact h4) (by rw [sh_N, if_neg (by decide)]; exact h5) (fun r => ⟨by rw [sh_N, if_neg (aRg_f (by decide))]; exact (hrg r).1, by rw [sh_N, if_neg (aSt_f (by decide))]; exact (hrg r).2⟩) z4 z5 (fun r h => ⟨(zr r h).1.trans (by omega), (zr r h).2.trans (by omega)⟩)) VX0_11 rfl ⟨by decide, by decide⟩ ⟨by decide, by decide⟩ hL.1 rfl (Nat.le_of_ble_eq_true rfl) dX0_init_10 (fun v10 ν z10 H locs hp X => ?_)
  obtain ⟨rfl, hG, hz_⟩ := hp
  have hz_ := hz_.symm
  subst hz_
  obtain ⟨a, b, cc, d⟩ := id hG
  have d1 := d 1 (by decide) (by decide) (fun r q => aRg_f (by decide) q.symm) (fun r q => aSt_f (by decide) q.symm)
  have d2 := d 2 (by decide) (by decide) (fun r q => aRg_f (by decide) q.symm) (fun r q => aSt_f (by decide) q.symm)
  have d3 := d 3 (by decide) (by decide) (fun r q => aRg_f (by decide) q.symm) (fun r q => aSt_f (by decide) q.symm)
  have e1 : sh ν 1 = some (.inl 0) := by rw [d1.1, sh_N, if_neg (by decide)]; exact h1
  have e2 : sh ν 2 = some (.inl 2) := by rw [d2.1, sh_N, if_pos rfl]
  have e3 : sh ν 3 = none := by rw [d3.1, sh_N, if_neg (by decide)]; exact h3
  refine m_putFq (v := some 2) hC X hnm FfX0_14 e1 rfl (by decide) (fun d hd => by cases hd; exact ⟨_, e2, rfl⟩) dX0_init_13 (fun H locs X => ?_)
  refine m_aload_n hx hb hL dX0_init_16 rfl ?_
  refine m_iload_n hx hb hL dX0_init_17 rfl ?_
  refine m_putFi (v := iv th) hC X hnm FfX0_20 e1 rfl dX0_init_18 (fun H locs X => ?_)
  refine m_aload_n hx hb hL dX0_init_21 rfl ?_
  refine m_new (a := 3) hC X NX0_24 e3 (z3.trans (by omega)) (by decide) (by decide) dX0_init_22 (fun H X => ?_)
  refine lv_dup hx hb dX0_init_25 rfl ?_
  refine m_callIN (b := 3) hC hN X (k_X4_init (a := 3)) w_X4.1 w_X4.2.1 w_X4.2.2 rfl (by decide +kernel) rfl ⟨by decide, by decide⟩ ⟨by decide, by decide⟩ hL.1 rfl (Nat.le_of_ble_eq_true rfl) dX0_init_26 (fun v26 μ26 z26 H locs hp X => ?_)
  obtain ⟨rfl, hm_, hz_⟩ := hp
  have hm_ := hm_.symm
  have hz_ := hz_.symm
  subst hm_
  subst hz_
  refine m_putFq (v := some 3) hC X hnm FfX0_27 (by rw [sh_N, if_neg (by decide)]; exact e1) rfl (by decide) (fun d hd => by cases hd; exact ⟨_, by rw [sh_N, if_pos rfl], rfl⟩) dX0_init_29 (fun H locs X => ?_)
  exact m_vret hC X hr hlk ⟨rfl, ⟨ν, hG, rfl⟩, by omega⟩ dX0_init_32
set_option maxHeartbeats 4000000 in
theorem k_X5_init {G : mG} {l : Launch} {z : Nat} {ρ : Nat → Nat} {μ : mM} {n : Nat} {x t : Int} (hx0 : rng x) (ht0 : rng t) (hn : clp 3 16 x = (n : Int)) (h0 : sh μ 0 = some (.inl 5)) (h1 : sh μ 1 = none) (h2 : sh μ 2 = none) (h3 : sh μ 3 = none) (h4 : sh μ 4 = none) (h5 : sh μ 5 = none) (hrg : ∀ r, sh μ (aRg r) = none ∧ sh μ (aSt r) = none) (z1 : ρ 1 = z) (z2 : ρ 2 = z + 1) (z4 : ρ 4 = z + 2) (z5 : ρ 5 = z + 3) (zr : ∀ r, r < n → ρ (aRg r) = z + 4 + 2 * r ∧ ρ (aSt r) = z + 5 + 2 * r) (z3 : ρ 3 = z + 4 + 2 * n) :
    ME nst G l yX5_init cX5_init 3 none 4 85 37 2185 z ρ [.ref (ρ 0), .int (iv x), .int (iv t)] μ (fun v μ' z' => v = none ∧ (∃ ν, G2 n n (newC (newC μ 1 (.inl 0)) 2 (.inl 2)) ν ∧ μ' = setQ (setQ (co0 ν (clp 0 128 t)) 0 0 (some 1)) 0 1 (some 2)) ∧ z' = z + 5 + 2 * n) := by
  have hnb : 3 ≤ n ∧ n ≤ 16 := by unfold clp at hn; split at hn <;> (try split at hn) <;> omega
  refine ME.of (by decide) (by simp [Value.category]) (Nat.le_of_ble_eq_true rfl) (Nat.le_of_ble_eq_true rfl) ?_
  intro p e s m args below meth c' ls hC hr hlk hnm hN X hL
  have hx := hC.1
  have hb := hC.2.1
  refine m_aload_n hx hb hL dX5_init_0 rfl ?_
  refine m_oinit hC OX5_1 hL.1 (Nat.le_of_ble_eq_true rfl) ⟨by decide, by decide⟩ dX5_init_1 ?_
  refine m_aload_n hx hb hL dX5_init_4 rfl ?_
  refine m_new (a := 1) hC X NX5_7 h1 z1 (by decide) (by decide) dX5_init_5 (fun H X => ?_)
  refine lv_dup hx hb dX5_init_8 rfl ?_
  refine m_iload_n hx hb hL dX5_init_9 rfl ?_
  refine lv_iconst (v := iv 3) hx hb dX5_init_10 rfl ?_
  refine lv_bipush (v := iv 16) hx hb dX5_init_11 (by decide +kernel) ?_
  refine m_callS hC X (k_X5_within (x := x) (lo := 3) (hi := 16) hx0 (by omega) (by omega) (by omega)) VX5_11 rfl ⟨by decide, by decide⟩ ⟨by decide, by decide⟩ hL.1 rfl (Nat.le_of_ble_eq_true rfl) dX5_init_13 (fun v13 μ13 z13 H locs hp X => ?_)
  obtain ⟨rfl, hm_, hz_⟩ := hp
  have hm_ := hm_.symm
  have hz_ := hz_.symm
  subst hm_
  subst hz_
  rw [hn]
  refine m_iload_n hx hb hL dX5_init_16 rfl ?_
  refine lv_iconst (v := iv 0) hx hb dX5_init_17 rfl ?_
  refine lv_sipush (v := iv 128) hx hb dX5_init_18 (by decide +kernel) ?_
  refine m_callS hC X (k_X5_within (x := t) (lo := 0) (hi := 128) ht0 (by omega) (by omega) (by omega)) VX5_11 rfl ⟨by decide, by decide⟩ ⟨by decide, by decide⟩ hL.1 rfl (Nat.le_of_ble_eq_true rfl) dX5_init_21 (fun v21 μ21 z21 H locs hp X => ?_)
  obtain ⟨rfl, hm_, hz_⟩ := hp
  have hm_ := hm_.symm
  have hz_ := hz_.symm
  subst hm_
  subst hz_
  have nn1 : ∀ a, a ≠ 1 → sh (newC μ 1 (.inl 0)) a = sh μ a := fun a h => by rw [sh_N, if_neg h]
  refine e_callI (b := 1) hC nst_b (fun U _ hW => hN.warmM hW) X (k_X0_init (th := clp 0 128 t) hnb (by rw [sh_N, if_pos rfl]) (by rw [nn1 2 (by decide)]; exact h2) (by rw [nn1 3 (by decide)]; exact h3) (by rw [nn1 4 (by decide)]; exact h4) (by rw [nn1 5 (by decide)]; exact h5) (fun r => ⟨by rw [nn1 _ (aRg_f (by decide))]; exact (hrg r).1, by rw [nn1 _ (aSt_f (by decide))]; exact (hrg r).2⟩) z2 z4 z5 (fun r h => ⟨(zr r h).1.trans (by omega), (zr r h).2.trans (by omega)⟩) (z3.trans (by omega))) VX5_15 rfl ⟨by decide, by decide⟩ ⟨by decide, by decide⟩ hL.1 rfl (Nat.le_of_ble_eq_true rfl) dX5_init_24 (fun v24 μ24 z24 H locs hp X => ?_)
  obtain ⟨rfl, ⟨ν, hG, hm_⟩, hz_⟩ := hp
  have hm_ := hm_.symm
  have hz_ := hz_.symm
  subst hm_
  subst hz_
  obtain ⟨a, b, cc, d⟩ := id hG
  have d0 := d 0 (by decide) (by decide) (fun r q => aRg_f (by decide) q.symm) (fun r q => aSt_f (by decide) q.symm)
  have d1 := d 1 (by decide) (by decide) (fun r q => aRg_f (by decide) q.symm) (fun r q => aSt_f (by decide) q.symm)
  have d2 := d 2 (by decide) (by decide) (fun r q => aRg_f (by decide) q.symm) (fun r q => aSt_f (by decide) q.symm)
  have e0 : sh (co0 ν (clp 0 128 t)) 0 = some (.inl 5) := by unfold co0; rw [sh_Q, sh_N, if_neg (by decide), sh_I, sh_Q, d0.1, sh_N, if_neg (by decide), sh_N, if_neg (by decide)]; exact h0
  have e1 : sh (co0 ν (clp 0 128 t)) 1 = some (.inl 0) := by unfold co0; rw [sh_Q, sh_N, if_neg (by decide), sh_I, sh_Q, d1.1, sh_N, if_neg (by decide), sh_N, if_pos rfl]
  have e2 : sh (co0 ν (clp 0 128 t)) 2 = some (.inl 2) := by unfold co0; rw [sh_Q, sh_N, if_neg (by decide), sh_I, sh_Q, d2.1, sh_N, if_pos rfl]
  have q10 : mq (co0 ν (clp 0 128 t)) 1 0 = some 2 := by unfold co0; rw [mq_ne (by decide), mq_N, if_neg (by decide), mq_I, mq_eq]
  refine m_putFq (v := some 1) hC X hnm FfX5_18 e0 rfl (by decide) (fun d hd => by cases hd; exact ⟨_, e1, rfl⟩) dX5_init_27 (fun H locs X => ?_)
  refine m_aload_n hx hb hL dX5_init_30 rfl ?_
  refine m_aload_n hx hb hL dX5_init_31 rfl ?_
  refine m_getr (b := 1) hC X FX5_18 e0 rfl (by rw [mq_eq]) dX5_init_32 ?_
  refine m_getr (b := 2) hC X FX5_22 e1 rfl (by rw [mq_ne (by decide)]; exact q10) dX5_init_35 ?_
  refine m_putFq (v := some 2) hC X hnm FfX5_26 e0 rfl (by decide) (fun d hd => by cases hd; exact ⟨_, e2, rfl⟩) dX5_init_38 (fun H locs X => ?_)
  exact m_vret hC X hr hlk ⟨rfl, ⟨ν, hG, rfl⟩, by omega⟩ dX5_init_41
