/-! a new object: its constructor, and the memory behind it -/
set_option maxHeartbeats 4000000 in
theorem k_X1_init {G : mG} {l : Launch} {z : Nat} {ρ : Nat → Nat} {μ : mM} {o f r : Nat} {c t : Int} (ho : sh μ o = some (.inl 1)) (hf : sh μ f = none) (hz : ρ f = z) (h3 : sh μ r = some (.inl 3)) (hc0 : 0 ≤ c ∧ c ≤ 20) :
    MC G l yX1_init cX1_init 4 none 1 20 1 20 z ρ [.ref (ρ o), .ref (ρ r), .int (iv c), .int (iv t)] μ (fun v μ' z' => v = none ∧ μ' = setI (setI (setQ (newC (setI (setQ μ o 2 (some r)) o 0 (iv t)) f (.inr (3, c.toNat))) o 1 (some f)) o 4 (iv (-1))) o 5 (iv (-1)) ∧ z' = z + 1) := by
  have nof : o ≠ f := fun e => by rw [e, hf] at ho; cases ho
  refine MC.of (by decide) (by simp [Value.category]) (Nat.le_of_ble_eq_true rfl) (Nat.le_of_ble_eq_true rfl) ?_
  intro p e s m args below meth c' ls hC hr hlk hnm X hL
  have hx := hC.1
  have hb := hC.2.1
  refine m_aload_n hx hb hL dX1_init_0 rfl ?_
  refine m_oinit hC OX1_3 hL.1 (Nat.le_of_ble_eq_true rfl) ⟨by decide, by decide⟩ dX1_init_1 ?_
  refine m_aload_n hx hb hL dX1_init_4 rfl ?_
  refine m_aload_n hx hb hL dX1_init_5 rfl ?_
  refine c_putr (b := r) hC X FwX1_9 ho rfl (by decide) h3 rfl dX1_init_6 (fun H locs X => ?_)
  refine m_aload_n hx hb hL dX1_init_9 rfl ?_
  refine m_iload_n hx hb hL dX1_init_10 rfl ?_
  refine m_putFi (v := iv t) hC X hnm FfX1_15 ho rfl dX1_init_11 (fun H locs X => ?_)
  refine m_aload_n hx hb hL dX1_init_14 rfl ?_
  refine m_iload_n hx hb hL dX1_init_15 rfl ?_
  refine m_anew (a := f) (n := c.toNat) hC X (Or.inl ⟨rfl, rfl⟩) KX1_10 (iv_nat hc0.1) (by omega) hf hz (by decide) (by show 0 + c.toNat ≤ 20; omega) dX1_init_16 (fun H X => ?_)
  refine m_putFq (v := some f) hC X hnm FfX1_19 (by rw [sh_N, if_neg nof]; exact ho) rfl (by decide) (fun d hd => by cases hd; exact ⟨_, by rw [sh_N, if_pos rfl], ⟨_, rfl⟩⟩) dX1_init_19 (fun H locs X => ?_)
  refine m_aload_n hx hb hL dX1_init_22 rfl ?_
  refine lv_iconst (v := iv (-1)) hx hb dX1_init_23 rfl ?_
  refine c_puti (x := -1) hC X FwX1_23 (by rw [sh_Q, sh_N, if_neg nof]; exact ho) rfl dX1_init_24 (fun H locs X => ?_)
  refine m_aload_n hx hb hL dX1_init_27 rfl ?_
  refine lv_iconst (v := iv (-1)) hx hb dX1_init_28 rfl ?_
  refine c_puti (x := -1) hC X FwX1_26 (by rw [sh_I, sh_Q, sh_N, if_neg nof]; exact ho) rfl dX1_init_29 (fun H locs X => ?_)
  refine W_widen (k := 1) (n := 20) (by decide) (by show 0 + c.toNat ≤ 20; omega) ?_
  exact m_vret hC X hr hlk ⟨rfl, rfl, rfl⟩ dX1_init_32
/-- the places of objects that aren't made yet -/
def NS (A : rS) (μ : mM) : Prop := ∀ o, nn A ≤ o → sh μ (aOb o) = none ∧ sh μ (aFd o) = none
theorem NS.fr {A B : rS} {μ μ' : mM} (h : NS A μ) (hs : ∀ a, sh μ' a = sh μ a) (h6 : B 6 0 = A 6 0) : NS B μ' := fun o ho => by
  have ho : nn A ≤ o := by unfold nn at *; rw [h6] at ho; exact ho
  rw [hs, hs]; exact h o ho
/-- the memory when the object is made and stands in its region and its register -/
def alM (μ : mM) (n w : Nat) (u c t ph cy : Int) : mM :=
  (fun (ν : mM) => (fun (κ : mM) => if ph = 0 then κ else setI κ (aOb n) 4 (iv cy)) (setI (setQ (setI (setQ ν (aOb n) 2 (some (aRg w))) (aOb n) 3 (iv u)) (aSt w) (u : Int).toNat (some (aOb n))) (aRg w) 3 (iv (u + (((c.toNat : Nat) : Int) + 2)))))
    (setI (setI (setQ (newC (setI (setQ (newC μ (aOb n) (.inl 1)) (aOb n) 2 (some (aRg w))) (aOb n) 0 (iv t)) (aFd n) (.inr (3, c.toNat))) (aOb n) 1 (some (aFd n))) (aOb n) 4 (iv (-1))) (aOb n) 5 (iv (-1)))
section AL
variable {μ : mM} {n w : Nat} {u c t ph cy : Int}
theorem al_sh (a : Nat) : sh (alM μ n w u c t ph cy) a = if a = aFd n then some (.inr (3, c.toNat)) else if a = aOb n then some (.inl 1) else sh μ a := by
  unfold alM
  dsimp only
  split <;> rfl
theorem al_mq (a k : Nat) : mq (alM μ n w u c t ph cy) a k = if a = aSt w ∧ k = (u : Int).toNat then some (aOb n) else if a = aOb n ∧ k = 2 then some (aRg w) else if a = aOb n ∧ k = 1 then some (aFd n) else if a = aFd n then none else if a = aOb n then none else mq μ a k := by
  have h : ∀ (κ : mM) (P : Prop) [Decidable P] (b j : Nat) (v : Int32), mq (if P then κ else setI κ b j v) a k = mq κ a k := fun κ P _ b j v => by split <;> rfl
  unfold alM
  dsimp only
  rw [h]
  simp only [mq_I, mq_Q, mq_N]
  by_cases e1 : a = aSt w ∧ k = (u : Int).toNat
  · rw [if_pos e1, if_pos e1]
  · rw [if_neg e1, if_neg e1]
    by_cases e2 : a = aOb n ∧ k = 2
    · rw [if_pos e2, if_pos e2]
    · simp only [if_neg e2]
theorem al_mi (a k : Nat) (ha : a ≠ aOb n) (hf : a ≠ aFd n) : mi (alM μ n w u c t ph cy) a k = if a = aRg w ∧ k = 3 then iv (u + (((c.toNat : Nat) : Int) + 2)) else mi μ a k := by
  have h : ∀ (κ : mM) (P : Prop) [Decidable P] (j : Nat) (v : Int32), mi (if P then κ else setI κ (aOb n) j v) a k = mi κ a k := fun κ P _ j v => by
    split
    · rfl
    · rw [mi_ne (fun q => ha q.1)]
  unfold alM
  dsimp only
  rw [h, mi_I]
  by_cases e1 : a = aRg w ∧ k = 3
  · rw [if_pos e1, if_pos e1]
  · rw [if_neg e1, if_neg e1, mi_Q, mi_ne (fun q => ha q.1), mi_Q, mi_ne (fun q => ha q.1), mi_ne (fun q => ha q.1), mi_Q, mi_N, if_neg hf, mi_ne (fun q => ha q.1), mi_Q, mi_N, if_neg ha]
theorem al_mo (k : Nat) : mi (alM μ n w u c t ph cy) (aOb n) k = if k = 4 ∧ ph ≠ 0 then iv cy else if k = 3 then iv u else if k = 5 then iv (-1) else if k = 4 then iv (-1) else if k = 0 then iv t else 0 := by
  have h : ∀ (κ : mM) (P : Prop) [Decidable P] (j : Nat) (v : Int32), mi (if P then κ else setI κ (aOb n) j v) (aOb n) k = if k = j ∧ ¬ P then v else mi κ (aOb n) k := fun κ P _ j v => by
    by_cases q : P
    · rw [if_pos q, if_neg (fun w => w.2 q)]
    · rw [if_neg q, mi_I]
      by_cases q2 : k = j
      · rw [if_pos ⟨rfl, q2⟩, if_pos ⟨q2, q⟩]
      · rw [if_neg (fun w => q2 w.2), if_neg (fun w => q2 w.1)]
  have nf : aOb n ≠ aFd n := aOb_ne_aFd _ _
  have nr : aOb n ≠ aRg w := fun q => aRg_ne_aOb _ _ q.symm
  unfold alM
  dsimp only
  rw [h]
  by_cases e1 : k = 4 ∧ ph ≠ 0
  · rw [if_pos e1, if_pos e1]
  · rw [if_neg e1, if_neg e1, mi_ne (fun q => nr q.1), mi_Q, mi_I]
    by_cases e2 : k = 3
    · rw [if_pos ⟨rfl, e2⟩, if_pos e2]
    · rw [if_neg (fun q => e2 q.2), if_neg e2, mi_Q, mi_I]
      by_cases e3 : k = 5
      · rw [if_pos ⟨rfl, e3⟩, if_pos e3]
      · rw [if_neg (fun q => e3 q.2), if_neg e3, mi_I]
        by_cases e4 : k = 4
        · rw [if_pos ⟨rfl, e4⟩, if_pos e4]
        · rw [if_neg (fun q => e4 q.2), if_neg e4, mi_Q, mi_N, if_neg nf, mi_I]
          by_cases e5 : k = 0
          · rw [if_pos ⟨rfl, e5⟩, if_pos e5]
          · rw [if_neg (fun q => e5 q.2), if_neg e5, mi_Q, mi_N, if_pos rfl]
theorem al_w (μ0 : mM) (h : wfr μ0 μ) : wfr μ0 (alM μ n w u c t ph cy) := by
  unfold alM
  dsimp only
  have h1 : wfr μ0 (setI (setI (setQ (newC (setI (setQ (newC μ (aOb n) (.inl 1)) (aOb n) 2 (some (aRg w))) (aOb n) 0 (iv t)) (aFd n) (.inr (3, c.toNat))) (aOb n) 1 (some (aFd n))) (aOb n) 4 (iv (-1))) (aOb n) 5 (iv (-1))) := (((((((h.N (cad_o n) _).Q (cad_o n) _ _).I (cad_o n) _ _).N (cad_d n) _).Q (cad_o n) _ _).I (cad_o n) _ _).I (cad_o n) _ _)
  have h2 := (((h1.Q (cad_o n) 2 (some (aRg w))).I (cad_o n) 3 (iv u)).Q (cad_s w) (u : Int).toNat (some (aOb n))).I (cad_r w) 3 (iv (u + (((c.toNat : Nat) : Int) + 2)))
  split
  · exact h2
  · exact h2.I (cad_o n) _ _
end AL
theorem al_CR {B : rS} {P Gs : Nat → Prop} {cy r c t : Int} {μ : mM} (hK : KK B P Gs) (hc : CR B P cy μ) (hr : rReg r) (hcc : 0 ≤ c ∧ c ≤ 20) (hw : rWith B 1 ≠ -1) (hu : B 4 (rWith B 1).toNat + (c + 2) ≤ 128) :
    CR (rPut B r c t) (fun o => P o ∨ o = nn B) cy (setQ (alM μ (nn B) (rWith B 1).toNat (B 4 (rWith B 1).toNat) c t (B 18 0) cy) 4 r.toNat (some (aOb (nn B)))) := by
  have ec : ((c.toNat : Nat) : Int) = c := by omega
  have f4 : ∀ x, aOb x ≠ 4 := fun x => aOb_f (by decide)
  have d4 : ∀ x, aFd x ≠ 4 := fun x => aFd_f (by decide)
  have nf : aOb (nn B) ≠ aFd (nn B) := aOb_ne_aFd _ _
  refine new_CR hK hc hr hcc hw hu (fun a h1 h2 => ?_) ?_ ?_ (fun a k h1 h2 => ?_) ?_ ?_ ?_ ?_ (fun a k h1 h2 => ?_) ?_ ?_ ?_ (fun k => ?_)
  · rw [sh_Q, al_sh, if_neg h2, if_neg h1]
  · rw [sh_Q, al_sh, if_neg nf, if_pos rfl]
  · rw [sh_Q, al_sh, if_pos rfl]
  · rw [mi_Q, al_mi a k h1 h2, ec]
  · rw [mi_Q, al_mo, if_neg (by omega), if_neg (by decide), if_neg (by decide), if_neg (by decide), if_pos rfl]
  · rw [mi_Q, al_mo, if_neg (by omega), if_pos rfl]
  · rw [mi_Q, al_mo]
    by_cases v : B 18 0 = 0
    · rw [if_neg (fun q => q.2 v), if_neg (by decide), if_neg (by decide), if_pos rfl, if_pos v]
    · rw [if_pos ⟨rfl, v⟩, if_neg v]
  · rw [mi_Q, al_mo, if_neg (by omega), if_neg (by decide), if_pos rfl]
  · rw [mq_Q, al_mq]
    by_cases e1 : a = 4 ∧ k = r.toNat
    · rw [if_pos e1, if_pos (Or.inr e1)]
    · rw [if_neg e1]
      by_cases e2 : a = aSt (rWith B 1).toNat ∧ k = (B 4 (rWith B 1).toNat).toNat
      · rw [if_pos e2, if_pos (Or.inl e2)]
      · rw [if_neg e2, if_neg (fun q => h1 q.1), if_neg (fun q => h1 q.1), if_neg h2, if_neg h1, if_neg (fun q => q.elim e2 e1)]
  · rw [mq_ne (fun q => f4 _ q.1), al_mq, if_neg (fun q => aOb_ne_aSt _ _ q.1), if_neg (by omega), if_pos ⟨rfl, rfl⟩]
  · rw [mq_ne (fun q => f4 _ q.1), al_mq, if_neg (fun q => aOb_ne_aSt _ _ q.1), if_pos ⟨rfl, rfl⟩]
  · rw [mq_ne (fun q => f4 _ q.1), al_mq, if_neg (fun q => aOb_ne_aSt _ _ q.1), if_neg (by omega), if_neg (by omega), if_neg nf, if_pos rfl]
  · rw [mq_ne (fun q => d4 _ q.1), al_mq, if_neg (fun q => aSt_ne_aFd _ _ q.1.symm), if_neg (fun q => nf q.1.symm), if_neg (fun q => nf q.1.symm), if_pos rfl]
theorem al_NS {B : rS} {μ : mM} {r c t u ph cy : Int} {w : Nat} (hI : RI B) (hcc : 0 ≤ c ∧ c ≤ 20) (h : NS B μ) : NS (rPut B r c t) (setQ (alM μ (nn B) w u c t ph cy) 4 r.toNat (some (aOb (nn B)))) := by
  obtain ⟨-, -, -, e6, -⟩ := put_e (r := r) (c := c) (t := t) hI hcc
  have b6 := hI.b6 0
  intro o ho
  have ho : nn B < o := by unfold nn at *; rw [e6] at ho; omega
  have q := h o (by omega)
  rw [sh_Q, sh_Q, al_sh, al_sh, if_neg (aOb_ne_aFd _ _), if_neg (fun e => by have := aOb_inj e; omega), if_neg (fun e => by have := aFd_inj e; omega), if_neg (fun e => aOb_ne_aFd _ _ e.symm)]
  exact q
