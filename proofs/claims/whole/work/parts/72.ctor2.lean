/-! the reference's constructor (printed by wip/tools/cls11.py) -/
def r0v (k : Nat) : Int := if k = 14 then -1 else 0
def RQ (j : Nat) (μ : mM) : Prop := sh μ 6 = some (.inl 6) ∧ (∀ k, mi μ 6 k = iv 0) ∧ (∀ k, rar k = true → k < j → mq μ 6 k = some (aK k) ∧ sh μ (aK k) = some (.inr (rkd k, rln k)) ∧ ∀ i, i < rln k → mi μ (aK k) i = iv (r0v k)) ∧ ∀ k, j ≤ k → sh μ (aK k) = none
/-- nothing but the reference's cells has changed -/
def rof (μ μ' : mM) : Prop := ∀ a, ¬ rad a → sh μ' a = sh μ a ∧ (∀ k, mi μ' a k = mi μ a k) ∧ ∀ k, mq μ' a k = mq μ a k
theorem rof.rf (μ : mM) : rof μ μ := fun _ _ => ⟨rfl, fun _ => rfl, fun _ => rfl⟩
theorem rof.I {μ ν : mM} (h : rof μ ν) {a : Nat} (ha : rad a) (k : Nat) (v : Int32) : rof μ (setI ν a k v) := fun b n => ⟨(h b n).1, fun j => by rw [mi_ne (fun q => n (by rw [q.1]; exact ha))]; exact (h b n).2.1 j, (h b n).2.2⟩
theorem rof.Q {μ ν : mM} (h : rof μ ν) {a : Nat} (ha : rad a) (k : Nat) (v : Option Nat) : rof μ (setQ ν a k v) := fun b n => ⟨(h b n).1, (h b n).2.1, fun j => by rw [mq_ne (fun q => n (by rw [q.1]; exact ha))]; exact (h b n).2.2 j⟩
theorem rof.N {μ ν : mM} (h : rof μ ν) {a : Nat} (ha : rad a) (x : mS) : rof μ (newC ν a x) := fun b n => ⟨by rw [sh_N, if_neg (fun q => n (by rw [q]; exact ha))]; exact (h b n).1, fun j => by rw [mi_N, if_neg (fun q => n (by rw [q]; exact ha))]; exact (h b n).2.1 j, fun j => by rw [mq_N, if_neg (fun q => n (by rw [q]; exact ha))]; exact (h b n).2.2 j⟩
theorem rad_6 : rad 6 := Or.inl rfl
theorem rad_k (k : Nat) : rad (aK k) := Or.inr ⟨k, rfl⟩
theorem aK_6 (k : Nat) : 6 ≠ aK k := by unfold aK; omega
theorem aK_inj {k j : Nat} (h : aK k = aK j) : k = j := by unfold aK at h; omega
theorem RQ_g {j : Nat} {μ ν : mM} (h : RQ j μ) (hs : ∀ a, sh ν a = if a = aK j then some (.inr (rkd j, rln j)) else sh μ a) (hi : ∀ a k, a ≠ aK j → mi ν a k = mi μ a k) (hv : ∀ i, i < rln j → mi ν (aK j) i = iv (r0v j)) (hq : ∀ k, mq ν 6 k = if k = j then some (aK j) else mq μ 6 k) : RQ (j + 1) ν := by
  obtain ⟨h1, h2, h3, h4⟩ := h
  refine ⟨by rw [hs, if_neg (aK_6 j)]; exact h1, fun k => by rw [hi _ _ (aK_6 j)]; exact h2 k, fun k hk hkj => ?_, fun k hk => ?_⟩
  · by_cases e : k = j
    · subst e
      exact ⟨by rw [hq, if_pos rfl], by rw [hs, if_pos rfl], hv⟩
    · obtain ⟨x1, x2, x3⟩ := h3 k hk (by omega)
      have ne : aK k ≠ aK j := fun q => e (aK_inj q)
      exact ⟨by rw [hq, if_neg e]; exact x1, by rw [hs, if_neg ne]; exact x2, fun i hi' => by rw [hi _ _ ne]; exact x3 i hi'⟩
  · have ne : aK k ≠ aK j := fun q => absurd (aK_inj q) (by omega)
    rw [hs, if_neg ne]; exact h4 k (by omega)
theorem mq_6 (ν : mM) (j b k : Nat) : mq (setQ ν 6 j (some b)) 6 k = if k = j then some b else mq ν 6 k := by
  by_cases e : k = j
  · rw [e, mq_eq, if_pos rfl]
  · rw [mq_ne (fun q => e q.2), if_neg e]
theorem RQ_s {j : Nat} {μ : mM} (h : RQ j μ) (h14 : r0v j = 0) : RQ (j + 1) (setQ (newC μ (aK j) (.inr (rkd j, rln j))) 6 j (some (aK j))) := by
  refine RQ_g h (fun a => rfl) (fun a k n => by rw [mi_Q, mi_N, if_neg n]) (fun i _ => by rw [mi_Q, mi_N, if_pos rfl, h14]; rfl) (fun k => ?_)
  by_cases e : k = j
  · rw [e, mq_eq, if_pos rfl]
  · rw [mq_ne (fun q => e q.2), mq_N, if_neg (aK_6 j), if_neg e]
theorem RQ_k {j : Nat} {μ : mM} (h : RQ j μ) (hj : rar j = false) : RQ (j + 1) μ := ⟨h.1, h.2.1, fun k hk hkj => h.2.2.1 k hk (by
  by_cases e : k = j
  · rw [e, hj] at hk; cases hk
  · omega), fun k hk => h.2.2.2 k (by omega)⟩
/-- the first state -/
def A0 (n th : Int) : rS := fun k _ => if k = 1 then n else if k = 2 then th else r0v k
theorem RQ_RR {μ : mM} {n th : Int} (h : RQ 16 μ) : RR (A0 n th) (setI (setI μ 6 1 (iv n)) 6 2 (iv th)) := by
  obtain ⟨h1, h2, h3, h4⟩ := h
  refine ⟨h1, fun k hk => ?_, fun k hk => ?_⟩
  · rw [mi_I]
    by_cases e2 : k = 2
    · rw [if_pos ⟨rfl, e2⟩, e2]; rfl
    · rw [if_neg (fun q => e2 q.2), mi_I]
      by_cases e1 : k = 1
      · rw [if_pos ⟨rfl, e1⟩, e1]; rfl
      · rw [if_neg (fun q => e1 q.2), h2 k]
        have n14 : k ≠ 14 := fun q => by rw [q] at hk; cases hk
        unfold A0 r0v
        rw [if_neg e1, if_neg e2, if_neg n14]
  · have k16 : k < 16 := Nat.lt_of_not_le (fun q => by
      have : rar k = false := by
        unfold rar
        split <;> first | omega | rfl
      rw [this] at hk; cases hk)
    obtain ⟨x1, x2, x3⟩ := h3 k hk k16
    have n1 : k ≠ 1 := fun q => by rw [q] at hk; cases hk
    have n2 : k ≠ 2 := fun q => by rw [q] at hk; cases hk
    refine ⟨x1, x2, fun i hi => ?_⟩
    rw [mi_ne (fun q => aK_6 k q.1.symm), mi_ne (fun q => aK_6 k q.1.symm), x3 i hi]
    unfold A0
    rw [if_neg n1, if_neg n2]
set_option maxHeartbeats 4000000 in
theorem k_X6_init {G : mG} {l : Launch} {z : Nat} {ρ : Nat → Nat} {μ : mM} {x t : Int} (hx0 : rng x) (ht0 : rng t) (h6 : sh μ 6 = some (.inl 6)) (hi6 : ∀ k, mi μ 6 k = iv 0) (hk : ∀ k, sh μ (aK k) = none) (hz : ρ (aK 3) = z ∧ ρ (aK 4) = z + 1 ∧ ρ (aK 5) = z + 2 ∧ ρ (aK 7) = z + 3 ∧ ρ (aK 8) = z + 4 ∧ ρ (aK 9) = z + 5 ∧ ρ (aK 10) = z + 6 ∧ ρ (aK 11) = z + 7 ∧ ρ (aK 12) = z + 8 ∧ ρ (aK 13) = z + 9 ∧ ρ (aK 14) = z + 10 ∧ ρ (aK 15) = z + 11) :
    MC G l yX6_init cX6_init 3 none 1 20 12 17418 z ρ [.ref (ρ 6), .int (iv x), .int (iv t)] μ (fun v μ' z' => v = none ∧ RR (A0 (clp 3 16 x) (clp 0 128 t)) μ' ∧ rof μ μ' ∧ z' = z + 12) := by
  refine MC.of (by decide) (by simp [Value.category]) (Nat.le_of_ble_eq_true rfl) (Nat.le_of_ble_eq_true rfl) ?_
  intro p e s m args below meth c' ls hC hr hlk hnm X hL
  have hx := hC.1
  have hb := hC.2.1
  obtain ⟨z3, z4, z5, z7, z8, z9, z10, z11, z12, z13, z14, z15⟩ := hz
  have hR : RQ 3 μ := ⟨h6, hi6, fun k hk hk3 => absurd hk (by match k, hk3 with | 0, _ => decide | 1, _ => decide | 2, _ => decide | n + 3, h => omega), fun k _ => hk k⟩
  have hF := rof.rf μ
  refine m_aload_n hx hb hL dX6_init_0 rfl ?_
  refine m_oinit hC OX6_1 hL.1 (Nat.le_of_ble_eq_true rfl) ⟨by decide, by decide⟩ dX6_init_1 ?_
  refine m_aload_n hx hb hL dX6_init_4 rfl ?_
  refine lv_bipush (v := iv 16) hx hb dX6_init_5 (by decide +kernel) ?_
  refine m_newarr (a := aK 3) (t := 0) (n := 16) hC X (by decide) rfl AC_int (by decide +kernel) (by decide) (hR.2.2.2 3 (Nat.le_refl _)) z3 (by decide) (by decide) dX6_init_7 (fun H X => ?_)
  refine m_putFq (v := some (aK 3)) hC X hnm FfX6_7 (by show sh (newC μ (aK 3) (.inr (0, 16))) 6 = _; rw [sh_N, if_neg (aK_6 3)]; exact hR.1) rfl (by decide) (fun d hd => by cases hd; exact ⟨.inr (0, 16), by show sh (newC μ (aK 3) (.inr (0, 16))) (aK 3) = _; rw [sh_N, if_pos rfl], ⟨_, rfl⟩⟩) dX6_init_9 (fun H locs X => ?_)
  have hR : RQ 4 (setQ (newC μ (aK 3) (.inr (0, 16))) 6 3 (some (aK 3))) := RQ_s hR (by rfl)
  have hF : rof μ (setQ (newC μ (aK 3) (.inr (0, 16))) 6 3 (some (aK 3))) := (hF.N (rad_k 3) _).Q rad_6 _ _
  obtain ⟨ν4, e4⟩ : ∃ ν, ν = setQ (newC μ (aK 3) (.inr (0, 16))) 6 3 (some (aK 3)) := ⟨_, rfl⟩
  rw [← e4] at X hR hF
  clear e4
  refine m_aload_n hx hb hL dX6_init_12 rfl ?_
  refine lv_bipush (v := iv 16) hx hb dX6_init_13 (by decide +kernel) ?_
  refine m_newarr (a := aK 4) (t := 0) (n := 16) hC X (by decide) rfl AC_int (by decide +kernel) (by decide) (hR.2.2.2 4 (Nat.le_refl _)) z4 (by decide) (by decide) dX6_init_15 (fun H X => ?_)
  refine m_putFq (v := some (aK 4)) hC X hnm FfX6_13 (by show sh (newC ν4 (aK 4) (.inr (0, 16))) 6 = _; rw [sh_N, if_neg (aK_6 4)]; exact hR.1) rfl (by decide) (fun d hd => by cases hd; exact ⟨.inr (0, 16), by show sh (newC ν4 (aK 4) (.inr (0, 16))) (aK 4) = _; rw [sh_N, if_pos rfl], ⟨_, rfl⟩⟩) dX6_init_17 (fun H locs X => ?_)
  have hR : RQ 5 (setQ (newC ν4 (aK 4) (.inr (0, 16))) 6 4 (some (aK 4))) := RQ_s hR (by rfl)
  have hF : rof μ (setQ (newC ν4 (aK 4) (.inr (0, 16))) 6 4 (some (aK 4))) := (hF.N (rad_k 4) _).Q rad_6 _ _
  obtain ⟨ν5, e5⟩ : ∃ ν, ν = setQ (newC ν4 (aK 4) (.inr (0, 16))) 6 4 (some (aK 4)) := ⟨_, rfl⟩
  rw [← e5] at X hR hF
  clear e5
  refine m_aload_n hx hb hL dX6_init_20 rfl ?_
  refine lv_bipush (v := iv 16) hx hb dX6_init_21 (by decide +kernel) ?_
  refine m_newarr (a := aK 5) (t := 1) (n := 16) hC X (by decide) rfl AC_boolean (by decide +kernel) (by decide) (hR.2.2.2 5 (Nat.le_refl _)) z5 (by decide) (by decide) dX6_init_23 (fun H X => ?_)
  refine m_putFq (v := some (aK 5)) hC X hnm FfX6_16 (by show sh (newC ν5 (aK 5) (.inr (1, 16))) 6 = _; rw [sh_N, if_neg (aK_6 5)]; exact hR.1) rfl (by decide) (fun d hd => by cases hd; exact ⟨.inr (1, 16), by show sh (newC ν5 (aK 5) (.inr (1, 16))) (aK 5) = _; rw [sh_N, if_pos rfl], ⟨_, rfl⟩⟩) dX6_init_25 (fun H locs X => ?_)
  have hR : RQ 6 (setQ (newC ν5 (aK 5) (.inr (1, 16))) 6 5 (some (aK 5))) := RQ_s hR (by rfl)
  have hF : rof μ (setQ (newC ν5 (aK 5) (.inr (1, 16))) 6 5 (some (aK 5))) := (hF.N (rad_k 5) _).Q rad_6 _ _
  obtain ⟨ν6, e6⟩ : ∃ ν, ν = setQ (newC ν5 (aK 5) (.inr (1, 16))) 6 5 (some (aK 5)) := ⟨_, rfl⟩
  rw [← e6] at X hR hF
  clear e6
  have hR := RQ_k hR (by rfl)
  refine m_aload_n hx hb hL dX6_init_28 rfl ?_
  refine lv_sipush (v := iv 620) hx hb dX6_init_29 (by decide +kernel) ?_
  refine m_newarr (a := aK 7) (t := 0) (n := 620) hC X (by decide) rfl AC_int (by decide +kernel) (by decide) (hR.2.2.2 7 (Nat.le_refl _)) z7 (by decide) (by decide) dX6_init_32 (fun H X => ?_)
  refine m_putFq (v := some (aK 7)) hC X hnm FfX6_20 (by show sh (newC ν6 (aK 7) (.inr (0, 620))) 6 = _; rw [sh_N, if_neg (aK_6 7)]; exact hR.1) rfl (by decide) (fun d hd => by cases hd; exact ⟨.inr (0, 620), by show sh (newC ν6 (aK 7) (.inr (0, 620))) (aK 7) = _; rw [sh_N, if_pos rfl], ⟨_, rfl⟩⟩) dX6_init_34 (fun H locs X => ?_)
  have hR : RQ 8 (setQ (newC ν6 (aK 7) (.inr (0, 620))) 6 7 (some (aK 7))) := RQ_s hR (by rfl)
  have hF : rof μ (setQ (newC ν6 (aK 7) (.inr (0, 620))) 6 7 (some (aK 7))) := (hF.N (rad_k 7) _).Q rad_6 _ _
  obtain ⟨ν8, e8⟩ : ∃ ν, ν = setQ (newC ν6 (aK 7) (.inr (0, 620))) 6 7 (some (aK 7)) := ⟨_, rfl⟩
  rw [← e8] at X hR hF
  clear e8
  refine m_aload_n hx hb hL dX6_init_37 rfl ?_
  refine lv_sipush (v := iv 620) hx hb dX6_init_38 (by decide +kernel) ?_
  refine m_newarr (a := aK 8) (t := 0) (n := 620) hC X (by decide) rfl AC_int (by decide +kernel) (by decide) (hR.2.2.2 8 (Nat.le_refl _)) z8 (by decide) (by decide) dX6_init_41 (fun H X => ?_)
  refine m_putFq (v := some (aK 8)) hC X hnm FfX6_23 (by show sh (newC ν8 (aK 8) (.inr (0, 620))) 6 = _; rw [sh_N, if_neg (aK_6 8)]; exact hR.1) rfl (by decide) (fun d hd => by cases hd; exact ⟨.inr (0, 620), by show sh (newC ν8 (aK 8) (.inr (0, 620))) (aK 8) = _; rw [sh_N, if_pos rfl], ⟨_, rfl⟩⟩) dX6_init_43 (fun H locs X => ?_)
  have hR : RQ 9 (setQ (newC ν8 (aK 8) (.inr (0, 620))) 6 8 (some (aK 8))) := RQ_s hR (by rfl)
  have hF : rof μ (setQ (newC ν8 (aK 8) (.inr (0, 620))) 6 8 (some (aK 8))) := (hF.N (rad_k 8) _).Q rad_6 _ _
  obtain ⟨ν9, e9⟩ : ∃ ν, ν = setQ (newC ν8 (aK 8) (.inr (0, 620))) 6 8 (some (aK 8)) := ⟨_, rfl⟩
  rw [← e9] at X hR hF
  clear e9
  refine m_aload_n hx hb hL dX6_init_46 rfl ?_
  refine lv_sipush (v := iv 620) hx hb dX6_init_47 (by decide +kernel) ?_
  refine m_newarr (a := aK 9) (t := 0) (n := 620) hC X (by decide) rfl AC_int (by decide +kernel) (by decide) (hR.2.2.2 9 (Nat.le_refl _)) z9 (by decide) (by decide) dX6_init_50 (fun H X => ?_)
  refine m_putFq (v := some (aK 9)) hC X hnm FfX6_26 (by show sh (newC ν9 (aK 9) (.inr (0, 620))) 6 = _; rw [sh_N, if_neg (aK_6 9)]; exact hR.1) rfl (by decide) (fun d hd => by cases hd; exact ⟨.inr (0, 620), by show sh (newC ν9 (aK 9) (.inr (0, 620))) (aK 9) = _; rw [sh_N, if_pos rfl], ⟨_, rfl⟩⟩) dX6_init_52 (fun H locs X => ?_)
  have hR : RQ 10 (setQ (newC ν9 (aK 9) (.inr (0, 620))) 6 9 (some (aK 9))) := RQ_s hR (by rfl)
  have hF : rof μ (setQ (newC ν9 (aK 9) (.inr (0, 620))) 6 9 (some (aK 9))) := (hF.N (rad_k 9) _).Q rad_6 _ _
  obtain ⟨ν10, e10⟩ : ∃ ν, ν = setQ (newC ν9 (aK 9) (.inr (0, 620))) 6 9 (some (aK 9)) := ⟨_, rfl⟩
  rw [← e10] at X hR hF
  clear e10
  refine m_aload_n hx hb hL dX6_init_55 rfl ?_
  refine lv_sipush (v := iv 620) hx hb dX6_init_56 (by decide +kernel) ?_
  refine m_newarr (a := aK 10) (t := 0) (n := 620) hC X (by decide) rfl AC_int (by decide +kernel) (by decide) (hR.2.2.2 10 (Nat.le_refl _)) z10 (by decide) (by decide) dX6_init_59 (fun H X => ?_)
  refine m_putFq (v := some (aK 10)) hC X hnm FfX6_29 (by show sh (newC ν10 (aK 10) (.inr (0, 620))) 6 = _; rw [sh_N, if_neg (aK_6 10)]; exact hR.1) rfl (by decide) (fun d hd => by cases hd; exact ⟨.inr (0, 620), by show sh (newC ν10 (aK 10) (.inr (0, 620))) (aK 10) = _; rw [sh_N, if_pos rfl], ⟨_, rfl⟩⟩) dX6_init_61 (fun H locs X => ?_)
  have hR : RQ 11 (setQ (newC ν10 (aK 10) (.inr (0, 620))) 6 10 (some (aK 10))) := RQ_s hR (by rfl)
  have hF : rof μ (setQ (newC ν10 (aK 10) (.inr (0, 620))) 6 10 (some (aK 10))) := (hF.N (rad_k 10) _).Q rad_6 _ _
  obtain ⟨ν11, e11⟩ : ∃ ν, ν = setQ (newC ν10 (aK 10) (.inr (0, 620))) 6 10 (some (aK 10)) := ⟨_, rfl⟩
  rw [← e11] at X hR hF
  clear e11
  refine m_aload_n hx hb hL dX6_init_64 rfl ?_
  refine lv_sipush (v := iv 13020) hx hb dX6_init_65 (by decide +kernel) ?_
  refine m_newarr (a := aK 11) (t := 0) (n := 13020) hC X (by decide) rfl AC_int (by decide +kernel) (by decide) (hR.2.2.2 11 (Nat.le_refl _)) z11 (by decide) (by decide) dX6_init_68 (fun H X => ?_)
  refine m_putFq (v := some (aK 11)) hC X hnm FfX6_32 (by show sh (newC ν11 (aK 11) (.inr (0, 13020))) 6 = _; rw [sh_N, if_neg (aK_6 11)]; exact hR.1) rfl (by decide) (fun d hd => by cases hd; exact ⟨.inr (0, 13020), by show sh (newC ν11 (aK 11) (.inr (0, 13020))) (aK 11) = _; rw [sh_N, if_pos rfl], ⟨_, rfl⟩⟩) dX6_init_70 (fun H locs X => ?_)
  have hR : RQ 12 (setQ (newC ν11 (aK 11) (.inr (0, 13020))) 6 11 (some (aK 11))) := RQ_s hR (by rfl)
  have hF : rof μ (setQ (newC ν11 (aK 11) (.inr (0, 13020))) 6 11 (some (aK 11))) := (hF.N (rad_k 11) _).Q rad_6 _ _
  obtain ⟨ν12, e12⟩ : ∃ ν, ν = setQ (newC ν11 (aK 11) (.inr (0, 13020))) 6 11 (some (aK 11)) := ⟨_, rfl⟩
  rw [← e12] at X hR hF
  clear e12
  refine m_aload_n hx hb hL dX6_init_73 rfl ?_
  refine lv_sipush (v := iv 620) hx hb dX6_init_74 (by decide +kernel) ?_
  refine m_newarr (a := aK 12) (t := 1) (n := 620) hC X (by decide) rfl AC_boolean (by decide +kernel) (by decide) (hR.2.2.2 12 (Nat.le_refl _)) z12 (by decide) (by decide) dX6_init_77 (fun H X => ?_)
  refine m_putFq (v := some (aK 12)) hC X hnm FfX6_35 (by show sh (newC ν12 (aK 12) (.inr (1, 620))) 6 = _; rw [sh_N, if_neg (aK_6 12)]; exact hR.1) rfl (by decide) (fun d hd => by cases hd; exact ⟨.inr (1, 620), by show sh (newC ν12 (aK 12) (.inr (1, 620))) (aK 12) = _; rw [sh_N, if_pos rfl], ⟨_, rfl⟩⟩) dX6_init_79 (fun H locs X => ?_)
  have hR : RQ 13 (setQ (newC ν12 (aK 12) (.inr (1, 620))) 6 12 (some (aK 12))) := RQ_s hR (by rfl)
  have hF : rof μ (setQ (newC ν12 (aK 12) (.inr (1, 620))) 6 12 (some (aK 12))) := (hF.N (rad_k 12) _).Q rad_6 _ _
  obtain ⟨ν13, e13⟩ : ∃ ν, ν = setQ (newC ν12 (aK 12) (.inr (1, 620))) 6 12 (some (aK 12)) := ⟨_, rfl⟩
  rw [← e13] at X hR hF
  clear e13
  refine m_aload_n hx hb hL dX6_init_82 rfl ?_
  refine lv_sipush (v := iv 620) hx hb dX6_init_83 (by decide +kernel) ?_
  refine m_newarr (a := aK 13) (t := 1) (n := 620) hC X (by decide) rfl AC_boolean (by decide +kernel) (by decide) (hR.2.2.2 13 (Nat.le_refl _)) z13 (by decide) (by decide) dX6_init_86 (fun H X => ?_)
  refine m_putFq (v := some (aK 13)) hC X hnm FfX6_38 (by show sh (newC ν13 (aK 13) (.inr (1, 620))) 6 = _; rw [sh_N, if_neg (aK_6 13)]; exact hR.1) rfl (by decide) (fun d hd => by cases hd; exact ⟨.inr (1, 620), by show sh (newC ν13 (aK 13) (.inr (1, 620))) (aK 13) = _; rw [sh_N, if_pos rfl], ⟨_, rfl⟩⟩) dX6_init_88 (fun H locs X => ?_)
  have hR : RQ 14 (setQ (newC ν13 (aK 13) (.inr (1, 620))) 6 13 (some (aK 13))) := RQ_s hR (by rfl)
  have hF : rof μ (setQ (newC ν13 (aK 13) (.inr (1, 620))) 6 13 (some (aK 13))) := (hF.N (rad_k 13) _).Q rad_6 _ _
  obtain ⟨ν14, e14⟩ : ∃ ν, ν = setQ (newC ν13 (aK 13) (.inr (1, 620))) 6 13 (some (aK 13)) := ⟨_, rfl⟩
  rw [← e14] at X hR hF
  clear e14
  refine m_aload_n hx hb hL dX6_init_91 rfl ?_
  refine lv_bipush (v := iv 10) hx hb dX6_init_92 (by decide +kernel) ?_
  refine m_newarr (a := aK 14) (t := 0) (n := 10) hC X (by decide) rfl AC_int (by decide +kernel) (by decide) (hR.2.2.2 14 (Nat.le_refl _)) z14 (by decide) (by decide) dX6_init_94 (fun H X => ?_)
  refine lv_dup hx hb dX6_init_96 rfl ?_
  refine lv_iconst (v := iv 0) hx hb dX6_init_97 rfl ?_
  refine lv_iconst (v := iv (-1)) hx hb dX6_init_98 rfl ?_
  refine m_iast (n := 10) (i := 0) hC X (by show sh (newC ν14 (aK 14) (.inr (0, 10))) (aK 14) = _; rw [sh_N, if_pos rfl]) (by decide +kernel) (by decide) (by decide) dX6_init_99 (fun H locs X => ?_)
  refine lv_dup hx hb dX6_init_100 rfl ?_
  refine lv_iconst (v := iv 1) hx hb dX6_init_101 rfl ?_
  refine lv_iconst (v := iv (-1)) hx hb dX6_init_102 rfl ?_
  refine m_iast (n := 10) (i := 1) hC X (by show sh (newC ν14 (aK 14) (.inr (0, 10))) (aK 14) = _; rw [sh_N, if_pos rfl]) (by decide +kernel) (by decide) (by decide) dX6_init_103 (fun H locs X => ?_)
  refine lv_dup hx hb dX6_init_104 rfl ?_
  refine lv_iconst (v := iv 2) hx hb dX6_init_105 rfl ?_
  refine lv_iconst (v := iv (-1)) hx hb dX6_init_106 rfl ?_
  refine m_iast (n := 10) (i := 2) hC X (by show sh (newC ν14 (aK 14) (.inr (0, 10))) (aK 14) = _; rw [sh_N, if_pos rfl]) (by decide +kernel) (by decide) (by decide) dX6_init_107 (fun H locs X => ?_)
  refine lv_dup hx hb dX6_init_108 rfl ?_
  refine lv_iconst (v := iv 3) hx hb dX6_init_109 rfl ?_
  refine lv_iconst (v := iv (-1)) hx hb dX6_init_110 rfl ?_
  refine m_iast (n := 10) (i := 3) hC X (by show sh (newC ν14 (aK 14) (.inr (0, 10))) (aK 14) = _; rw [sh_N, if_pos rfl]) (by decide +kernel) (by decide) (by decide) dX6_init_111 (fun H locs X => ?_)
  refine lv_dup hx hb dX6_init_112 rfl ?_
  refine lv_iconst (v := iv 4) hx hb dX6_init_113 rfl ?_
  refine lv_iconst (v := iv (-1)) hx hb dX6_init_114 rfl ?_
  refine m_iast (n := 10) (i := 4) hC X (by show sh (newC ν14 (aK 14) (.inr (0, 10))) (aK 14) = _; rw [sh_N, if_pos rfl]) (by decide +kernel) (by decide) (by decide) dX6_init_115 (fun H locs X => ?_)
  refine lv_dup hx hb dX6_init_116 rfl ?_
  refine lv_iconst (v := iv 5) hx hb dX6_init_117 rfl ?_
  refine lv_iconst (v := iv (-1)) hx hb dX6_init_118 rfl ?_
  refine m_iast (n := 10) (i := 5) hC X (by show sh (newC ν14 (aK 14) (.inr (0, 10))) (aK 14) = _; rw [sh_N, if_pos rfl]) (by decide +kernel) (by decide) (by decide) dX6_init_119 (fun H locs X => ?_)
  refine lv_dup hx hb dX6_init_120 rfl ?_
  refine lv_bipush (v := iv 6) hx hb dX6_init_121 (by decide +kernel) ?_
  refine lv_iconst (v := iv (-1)) hx hb dX6_init_123 rfl ?_
  refine m_iast (n := 10) (i := 6) hC X (by show sh (newC ν14 (aK 14) (.inr (0, 10))) (aK 14) = _; rw [sh_N, if_pos rfl]) (by decide +kernel) (by decide) (by decide) dX6_init_124 (fun H locs X => ?_)
  refine lv_dup hx hb dX6_init_125 rfl ?_
  refine lv_bipush (v := iv 7) hx hb dX6_init_126 (by decide +kernel) ?_
  refine lv_iconst (v := iv (-1)) hx hb dX6_init_128 rfl ?_
  refine m_iast (n := 10) (i := 7) hC X (by show sh (newC ν14 (aK 14) (.inr (0, 10))) (aK 14) = _; rw [sh_N, if_pos rfl]) (by decide +kernel) (by decide) (by decide) dX6_init_129 (fun H locs X => ?_)
  refine lv_dup hx hb dX6_init_130 rfl ?_
  refine lv_bipush (v := iv 8) hx hb dX6_init_131 (by decide +kernel) ?_
  refine lv_iconst (v := iv (-1)) hx hb dX6_init_133 rfl ?_
  refine m_iast (n := 10) (i := 8) hC X (by show sh (newC ν14 (aK 14) (.inr (0, 10))) (aK 14) = _; rw [sh_N, if_pos rfl]) (by decide +kernel) (by decide) (by decide) dX6_init_134 (fun H locs X => ?_)
  refine lv_dup hx hb dX6_init_135 rfl ?_
  refine lv_bipush (v := iv 9) hx hb dX6_init_136 (by decide +kernel) ?_
  refine lv_iconst (v := iv (-1)) hx hb dX6_init_138 rfl ?_
  refine m_iast (n := 10) (i := 9) hC X (by show sh (newC ν14 (aK 14) (.inr (0, 10))) (aK 14) = _; rw [sh_N, if_pos rfl]) (by decide +kernel) (by decide) (by decide) dX6_init_139 (fun H locs X => ?_)
  refine m_putFq (v := some (aK 14)) hC X hnm FfX6_41 (by show sh (newC ν14 (aK 14) (.inr (0, 10))) 6 = _; rw [sh_N, if_neg (aK_6 14)]; exact hR.1) rfl (by decide) (fun d hd => by cases hd; exact ⟨.inr (0, 10), by show sh (newC ν14 (aK 14) (.inr (0, 10))) (aK 14) = _; rw [sh_N, if_pos rfl], ⟨_, rfl⟩⟩) dX6_init_140 (fun H locs X => ?_)
  have hR : RQ 15 (setQ (setI (setI (setI (setI (setI (setI (setI (setI (setI (setI (newC ν14 (aK 14) (.inr (0, 10))) (aK 14) 0 (iv (-1))) (aK 14) 1 (iv (-1))) (aK 14) 2 (iv (-1))) (aK 14) 3 (iv (-1))) (aK 14) 4 (iv (-1))) (aK 14) 5 (iv (-1))) (aK 14) 6 (iv (-1))) (aK 14) 7 (iv (-1))) (aK 14) 8 (iv (-1))) (aK 14) 9 (iv (-1))) 6 14 (some (aK 14))) := RQ_g hR (fun a => rfl) (fun a k n => by rw [mi_Q, mi_ne (fun q => n q.1), mi_ne (fun q => n q.1), mi_ne (fun q => n q.1), mi_ne (fun q => n q.1), mi_ne (fun q => n q.1), mi_ne (fun q => n q.1), mi_ne (fun q => n q.1), mi_ne (fun q => n q.1), mi_ne (fun q => n q.1), mi_ne (fun q => n q.1), mi_N, if_neg n]) (fun i hi => by have hi : i < 10 := hi; rw [mi_Q]; match i, hi with | 0, _ => rfl | 1, _ => rfl | 2, _ => rfl | 3, _ => rfl | 4, _ => rfl | 5, _ => rfl | 6, _ => rfl | 7, _ => rfl | 8, _ => rfl | 9, _ => rfl | n + 10, h => omega) (fun k => by rw [mq_6, mq_I, mq_I, mq_I, mq_I, mq_I, mq_I, mq_I, mq_I, mq_I, mq_I, mq_N, if_neg (aK_6 14)])
  have hF : rof μ (setQ (setI (setI (setI (setI (setI (setI (setI (setI (setI (setI (newC ν14 (aK 14) (.inr (0, 10))) (aK 14) 0 (iv (-1))) (aK 14) 1 (iv (-1))) (aK 14) 2 (iv (-1))) (aK 14) 3 (iv (-1))) (aK 14) 4 (iv (-1))) (aK 14) 5 (iv (-1))) (aK 14) 6 (iv (-1))) (aK 14) 7 (iv (-1))) (aK 14) 8 (iv (-1))) (aK 14) 9 (iv (-1))) 6 14 (some (aK 14))) := (((((((((((hF.N (rad_k 14) _).I (rad_k 14) _ _).I (rad_k 14) _ _).I (rad_k 14) _ _).I (rad_k 14) _ _).I (rad_k 14) _ _).I (rad_k 14) _ _).I (rad_k 14) _ _).I (rad_k 14) _ _).I (rad_k 14) _ _).I (rad_k 14) _ _).Q rad_6 _ _
  obtain ⟨ν15, e15⟩ : ∃ ν, ν = setQ (setI (setI (setI (setI (setI (setI (setI (setI (setI (setI (newC ν14 (aK 14) (.inr (0, 10))) (aK 14) 0 (iv (-1))) (aK 14) 1 (iv (-1))) (aK 14) 2 (iv (-1))) (aK 14) 3 (iv (-1))) (aK 14) 4 (iv (-1))) (aK 14) 5 (iv (-1))) (aK 14) 6 (iv (-1))) (aK 14) 7 (iv (-1))) (aK 14) 8 (iv (-1))) (aK 14) 9 (iv (-1))) 6 14 (some (aK 14)) := ⟨_, rfl⟩
  rw [← e15] at X hR hF
  clear e15
  refine m_aload_n hx hb hL dX6_init_143 rfl ?_
  refine lv_sipush (v := iv 620) hx hb dX6_init_144 (by decide +kernel) ?_
  refine m_newarr (a := aK 15) (t := 0) (n := 620) hC X (by decide) rfl AC_int (by decide +kernel) (by decide) (hR.2.2.2 15 (Nat.le_refl _)) z15 (by decide) (by decide) dX6_init_147 (fun H X => ?_)
  refine m_putFq (v := some (aK 15)) hC X hnm FfX6_44 (by show sh (newC ν15 (aK 15) (.inr (0, 620))) 6 = _; rw [sh_N, if_neg (aK_6 15)]; exact hR.1) rfl (by decide) (fun d hd => by cases hd; exact ⟨.inr (0, 620), by show sh (newC ν15 (aK 15) (.inr (0, 620))) (aK 15) = _; rw [sh_N, if_pos rfl], ⟨_, rfl⟩⟩) dX6_init_149 (fun H locs X => ?_)
  have hR : RQ 16 (setQ (newC ν15 (aK 15) (.inr (0, 620))) 6 15 (some (aK 15))) := RQ_s hR (by rfl)
  have hF : rof μ (setQ (newC ν15 (aK 15) (.inr (0, 620))) 6 15 (some (aK 15))) := (hF.N (rad_k 15) _).Q rad_6 _ _
  obtain ⟨ν16, e16⟩ : ∃ ν, ν = setQ (newC ν15 (aK 15) (.inr (0, 620))) 6 15 (some (aK 15)) := ⟨_, rfl⟩
  rw [← e16] at X hR hF
  clear e16
  have j2 : ∀ (w : Int) (H : Heap) (locs : List Loc), clp 0 128 t = w → mX G ρ (mA ρ μ z) s.heap (setI ν16 6 1 (iv (clp 3 16 x))) (z + 12) H locs → W p l e (rm 1 20 12 17418) s m args below meth c' H locs 12 17418 (wQ G ρ μ z (fun v μ' z' => v = none ∧ RR (A0 (clp 3 16 x) (clp 0 128 t)) μ' ∧ rof μ μ' ∧ z' = z + 12) below args s 12 17418) (F0 m 200 ls [.int (iv w), .ref (ρ 6)]) := by
    intro w H locs hw X
    subst hw
    refine m_putFi (v := iv (clp 0 128 t)) hC X hnm FfX6_51 hR.1 rfl dX6_init_200 (fun H locs X => ?_)
    exact m_vret hC X hr hlk ⟨rfl, RQ_RR hR, (hF.I rad_6 _ _).I rad_6 _ _, rfl⟩ dX6_init_203
  have j1 : ∀ (w : Int) (H : Heap) (locs : List Loc), clp 3 16 x = w → mX G ρ (mA ρ μ z) s.heap ν16 (z + 12) H locs → W p l e (rm 1 20 12 17418) s m args below meth c' H locs 12 17418 (wQ G ρ μ z (fun v μ' z' => v = none ∧ RR (A0 (clp 3 16 x) (clp 0 128 t)) μ' ∧ rof μ μ' ∧ z' = z + 12) below args s 12 17418) (F0 m 174 ls [.int (iv w), .ref (ρ 6)]) := by
    intro w H locs hw X
    subst hw
    refine m_putFi (v := iv (clp 3 16 x)) hC X hnm FfX6_47 hR.1 rfl dX6_init_174 (fun H locs X => ?_)
    refine m_aload_n hx hb hL dX6_init_177 rfl ?_
    refine m_iload_n hx hb hL dX6_init_178 rfl ?_
    refine m_if_ge (tgt := 186) hx hb dX6_init_179 (by decide) (by omega) (fun c1 => ?_) (fun c1 => ?_)
    · refine m_iload_n hx hb hL dX6_init_186 rfl ?_
      refine lv_sipush (v := iv 128) hx hb dX6_init_187 (by decide +kernel) ?_
      refine m_icmp_le (tgt := 199) hx hb dX6_init_190 (by decide) (by omega) (by omega) (fun c2 => ?_) (fun c2 => ?_)
      · refine m_iload_n hx hb hL dX6_init_199 rfl ?_
        have ec : clp 0 128 t = t := by unfold clp; rw [if_neg (by omega), if_neg (by omega)]
        exact j2 _ _ _ ec X
      · refine lv_sipush (v := iv 128) hx hb dX6_init_193 (by decide +kernel) ?_
        refine lv_goto (tgt := 200) hx hb dX6_init_196 (by decide) ?_
        have ec : clp 0 128 t = 128 := by unfold clp; rw [if_neg (by omega), if_pos (by omega)]
        exact j2 _ _ _ ec X
    · refine lv_iconst (v := iv 0) hx hb dX6_init_182 rfl ?_
      refine lv_goto (tgt := 200) hx hb dX6_init_183 (by decide) ?_
      have ec : clp 0 128 t = 0 := by unfold clp; rw [if_pos (by omega)]
      exact j2 _ _ _ ec X
  refine m_aload_n hx hb hL dX6_init_152 rfl ?_
  refine m_iload_n hx hb hL dX6_init_153 rfl ?_
  refine lv_iconst (v := iv 3) hx hb dX6_init_154 rfl ?_
  refine m_icmp_ge (tgt := 162) hx hb dX6_init_155 (by decide) (by omega) (by omega) (fun c1 => ?_) (fun c1 => ?_)
  · refine m_iload_n hx hb hL dX6_init_162 rfl ?_
    refine lv_bipush (v := iv 16) hx hb dX6_init_163 (by decide +kernel) ?_
    refine m_icmp_le (tgt := 173) hx hb dX6_init_165 (by decide) (by omega) (by omega) (fun c2 => ?_) (fun c2 => ?_)
    · refine m_iload_n hx hb hL dX6_init_173 rfl ?_
      have ec : clp 3 16 x = x := by unfold clp; rw [if_neg (by omega), if_neg (by omega)]
      exact j1 _ _ _ ec X
    · refine lv_bipush (v := iv 16) hx hb dX6_init_168 (by decide +kernel) ?_
      refine lv_goto (tgt := 174) hx hb dX6_init_170 (by decide) ?_
      have ec : clp 3 16 x = 16 := by unfold clp; rw [if_neg (by omega), if_pos (by omega)]
      exact j1 _ _ _ ec X
  · refine lv_iconst (v := iv 3) hx hb dX6_init_158 rfl ?_
    refine lv_goto (tgt := 174) hx hb dX6_init_159 (by decide) ?_
    have ec : clp 3 16 x = 3 := by unfold clp; rw [if_pos (by omega)]
    exact j1 _ _ _ ec X
