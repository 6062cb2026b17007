/-! the reference's leaves (printed by wip/tools/ref2.py) -/
set_option maxHeartbeats 4000000 in
theorem k_X6_thrown {G : mG} {l : Launch} {z : Nat} {ρ : Nat → Nat} {μ0 : mM} {A : rS} (hR : RR A μ0) (hI : RI A) : MR G l yX6_thrown cX6_thrown 1 (some .int) 0 0 z ρ [.ref (ρ 6)] μ0 (some (.int (iv (A 0 0)))) A := by
  refine MR.of hR (by decide) (by simp [Value.category]) (Nat.le_of_ble_eq_true rfl) (Nat.le_of_ble_eq_true rfl) ?_
  intro p e s m args below meth c ls H locs μ hC hx hb hr hlk X hR hf hL
  refine m_aload_n hx hb hL dX6_thrown_0 rfl ?_
  refine r_gets (w := (A 0 0)) hC X hR FX6_54 rfl rfl rfl dX6_thrown_1 ?_
  have q1 : (0 : Int) ≤ (A 0 0) ∧ (A 0 0) ≤ 2 := hI.b0 0
  exact r_iret hC X hR hf hr hlk rfl rfl dX6_thrown_4

set_option maxHeartbeats 4000000 in
theorem k_X6_good {G : mG} {l : Launch} {z : Nat} {ρ : Nat → Nat} {μ0 : mM} {A : rS} {x : Int} {y : Int} (hR : RR A μ0) (hI : RI A) (hx1 : x = 0 ∨ x = 1) (hy1 : y = 0 ∨ y = 1) : MR G l yX6_good cX6_good 3 (some .boolean) 0 0 z ρ [.ref (ρ 6), .int (iv x), .int (iv y)] μ0 (some (.int (iv (bZ (rThr x y = 0))))) (rGood A x y) := by
  refine MR.of hR (by decide) (by simp [Value.category]) (Nat.le_of_ble_eq_true rfl) (Nat.le_of_ble_eq_true rfl) ?_
  intro p e s m args below meth c ls H locs μ hC hx hb hr hlk X hR hf hL
  refine m_aload_n hx hb hL dX6_good_0 rfl ?_
  refine m_iload_n hx hb hL dX6_good_1 rfl ?_
  refine m_if_ne (tgt := 9) hx hb dX6_good_2 (by decide) (by omega) (fun c2 => ?_) (fun c2 => ?_)
  · refine m_iload_n hx hb hL dX6_good_9 rfl ?_
    refine m_if_ne (tgt := 17) hx hb dX6_good_10 (by decide) (by omega) (fun c10 => ?_) (fun c10 => ?_)
    · refine lv_iconst (v := iv 0) hx hb dX6_good_17 rfl ?_
      refine r_puts (v := 0) hC X hR FwX6_54 rfl rfl dX6_good_18 (fun H locs X hR => ?_)
      have hf := hf.s 0 (iv 0)
      have hI := hI.u0 0 (v := 0) ⟨by omega, by omega⟩
      refine m_aload_n hx hb hL dX6_good_21 rfl ?_
      refine r_gets (w := 0) hC X hR FX6_54 rfl rfl rfl dX6_good_22 ?_
      refine m_if_ne (tgt := 32) hx hb dX6_good_25 (by decide) (by omega) (fun c25 => absurd c25 (by omega)) (fun c25 => ?_)
      refine lv_iconst (v := iv 1) hx hb dX6_good_28 rfl ?_
      refine lv_goto (tgt := 33) hx hb dX6_good_29 (by decide) ?_
      exact r_zret hC X hR hf hr hlk (by simp [rGood, rThr, c2, c10]) (by simp [rThr, bZ, c2, c10]) (by omega) dX6_good_33
    · refine lv_iconst (v := iv 2) hx hb dX6_good_13 rfl ?_
      refine lv_goto (tgt := 18) hx hb dX6_good_14 (by decide) ?_
      refine r_puts (v := 2) hC X hR FwX6_54 rfl rfl dX6_good_18 (fun H locs X hR => ?_)
      have hf := hf.s 0 (iv 2)
      have hI := hI.u0 0 (v := 2) ⟨by omega, by omega⟩
      refine m_aload_n hx hb hL dX6_good_21 rfl ?_
      refine r_gets (w := 2) hC X hR FX6_54 rfl rfl rfl dX6_good_22 ?_
      refine m_if_ne (tgt := 32) hx hb dX6_good_25 (by decide) (by omega) (fun c25 => ?_) (fun c25 => absurd c25 (by omega))
      refine lv_iconst (v := iv 0) hx hb dX6_good_32 rfl ?_
      exact r_zret hC X hR hf hr hlk (by simp [rGood, rThr, c2, c10]) (by simp [rThr, bZ, c2, c10]) (by omega) dX6_good_33
  · refine lv_iconst (v := iv 1) hx hb dX6_good_5 rfl ?_
    refine lv_goto (tgt := 18) hx hb dX6_good_6 (by decide) ?_
    refine r_puts (v := 1) hC X hR FwX6_54 rfl rfl dX6_good_18 (fun H locs X hR => ?_)
    have hf := hf.s 0 (iv 1)
    have hI := hI.u0 0 (v := 1) ⟨by omega, by omega⟩
    refine m_aload_n hx hb hL dX6_good_21 rfl ?_
    refine r_gets (w := 1) hC X hR FX6_54 rfl rfl rfl dX6_good_22 ?_
    refine m_if_ne (tgt := 32) hx hb dX6_good_25 (by decide) (by omega) (fun c25 => ?_) (fun c25 => absurd c25 (by omega))
    refine lv_iconst (v := iv 0) hx hb dX6_good_32 rfl ?_
    exact r_zret hC X hR hf hr hlk (by simp [rGood, rThr, c2]) (by simp [rThr, bZ, c2]) (by omega) dX6_good_33

set_option maxHeartbeats 4000000 in
theorem k_X6_isRegister {G : mG} {l : Launch} {z : Nat} {ρ : Nat → Nat} {μ0 : mM} {A : rS} {x : Int} (hR : RR A μ0) (hI : RI A) (hx1 : rng x) : MR G l yX6_isRegister cX6_isRegister 1 (some .boolean) 0 0 z ρ [.int (iv x)] μ0 (some (.int (iv (rIsReg x)))) A := by
  refine MR.of hR (by decide) (by simp [Value.category]) (Nat.le_of_ble_eq_true rfl) (Nat.le_of_ble_eq_true rfl) ?_
  intro p e s m args below meth c ls H locs μ hC hx hb hr hlk X hR hf hL
  refine m_iload_n hx hb hL dX6_isRegister_0 rfl ?_
  refine m_if_lt (tgt := 14) hx hb dX6_isRegister_1 (by decide) (by omega) (fun c1 => ?_) (fun c1 => ?_)
  · refine lv_iconst (v := iv 0) hx hb dX6_isRegister_14 rfl ?_
    exact r_zret hC X hR hf hr hlk rfl (by unfold rIsReg; first | (rw [bZ_t (by omega)]) | (rw [bZ_f (by omega)])) (by omega) dX6_isRegister_15
  · refine m_iload_n hx hb hL dX6_isRegister_4 rfl ?_
    refine lv_bipush (v := iv 10) hx hb dX6_isRegister_5 (by decide +kernel) ?_
    refine m_icmp_ge (tgt := 14) hx hb dX6_isRegister_7 (by decide) (by omega) (by omega) (fun c7 => ?_) (fun c7 => ?_)
    · refine lv_iconst (v := iv 0) hx hb dX6_isRegister_14 rfl ?_
      exact r_zret hC X hR hf hr hlk rfl (by unfold rIsReg; first | (rw [bZ_t (by omega)]) | (rw [bZ_f (by omega)])) (by omega) dX6_isRegister_15
    · refine lv_iconst (v := iv 1) hx hb dX6_isRegister_10 rfl ?_
      refine lv_goto (tgt := 15) hx hb dX6_isRegister_11 (by decide) ?_
      exact r_zret hC X hR hf hr hlk rfl (by unfold rIsReg; first | (rw [bZ_t (by omega)]) | (rw [bZ_f (by omega)])) (by omega) dX6_isRegister_15

set_option maxHeartbeats 4000000 in
theorem k_X6_place {G : mG} {l : Launch} {z : Nat} {ρ : Nat → Nat} {μ0 : mM} {A : rS} {x : Int} (hR : RR A μ0) (hI : RI A) (hx1 : -1 ≤ x ∧ x < 620) : MR G l yX6_place cX6_place 2 (some .int) 0 0 z ρ [.ref (ρ 6), .int (iv x)] μ0 (some (.int (iv (rPlace A x)))) A := by
  refine MR.of hR (by decide) (by simp [Value.category]) (Nat.le_of_ble_eq_true rfl) (Nat.le_of_ble_eq_true rfl) ?_
  intro p e s m args below meth c ls H locs μ hC hx hb hr hlk X hR hf hL
  refine m_iload_n hx hb hL dX6_place_0 rfl ?_
  refine lv_iconst (v := iv (-1)) hx hb dX6_place_1 rfl ?_
  refine m_icmp_ne (tgt := 9) hx hb dX6_place_2 (by decide) (by omega) (by omega) (fun c2 => ?_) (fun c2 => ?_)
  · refine lv_sipush (v := iv 128) hx hb dX6_place_9 (by decide +kernel) ?_
    refine m_aload_n hx hb hL dX6_place_12 rfl ?_
    refine r_geta hC X hR FX6_20 rfl rfl dX6_place_13 ?_
    refine m_iload_n hx hb hL dX6_place_16 rfl ?_
    refine r_iald (x := x) (w := (A 7 (x : Int).toNat)) hC X hR 7 rfl rfl (by omega) (by change _ < ((620 : Nat) : Int); omega) rfl dX6_place_17 ?_
    have q1 : (0 : Int) ≤ (A 7 (x : Int).toNat) ∧ (A 7 (x : Int).toNat) ≤ 15 := hI.b7 (x : Int).toNat
    refine m_imul hx hb dX6_place_18 ?_
    refine m_aload_n hx hb hL dX6_place_19 rfl ?_
    refine r_geta hC X hR FX6_23 rfl rfl dX6_place_20 ?_
    refine m_iload_n hx hb hL dX6_place_23 rfl ?_
    refine r_iald (x := x) (w := (A 8 (x : Int).toNat)) hC X hR 8 rfl rfl (by omega) (by change _ < ((620 : Nat) : Int); omega) rfl dX6_place_24 ?_
    have q2 : (0 : Int) ≤ (A 8 (x : Int).toNat) ∧ (A 8 (x : Int).toNat) ≤ 128 := hI.b8 (x : Int).toNat
    refine m_iadd hx hb dX6_place_25 ?_
    exact r_iret hC X hR hf hr hlk rfl (by simp [rPlace, c2]) dX6_place_26
  · refine lv_iconst (v := iv (-1)) hx hb dX6_place_5 rfl ?_
    refine lv_goto (tgt := 26) hx hb dX6_place_6 (by decide) ?_
    exact r_iret hC X hR hf hr hlk rfl (by simp [rPlace, c2]) dX6_place_26

set_option maxHeartbeats 4000000 in
theorem k_X6_isToMove {G : mG} {l : Launch} {z : Nat} {ρ : Nat → Nat} {μ0 : mM} {A : rS} {x : Int} (hR : RR A μ0) (hI : RI A) (hx1 : 0 ≤ x ∧ x < 620) : MR G l yX6_isToMove cX6_isToMove 2 (some .boolean) 0 0 z ρ [.ref (ρ 6), .int (iv x)] μ0 (some (.int (iv (rToMove A x)))) A := by
  refine MR.of hR (by decide) (by simp [Value.category]) (Nat.le_of_ble_eq_true rfl) (Nat.le_of_ble_eq_true rfl) ?_
  intro p e s m args below meth c ls H locs μ hC hx hb hr hlk X hR hf hL
  refine m_aload_n hx hb hL dX6_isToMove_0 rfl ?_
  refine r_geta hC X hR FX6_35 rfl rfl dX6_isToMove_1 ?_
  refine m_iload_n hx hb hL dX6_isToMove_4 rfl ?_
  refine r_zald (x := x) (w := (A 12 (x : Int).toNat)) hC X hR 12 rfl rfl (by omega) (by change _ < ((620 : Nat) : Int); omega) rfl dX6_isToMove_5 ?_
  have q1 : (0 : Int) ≤ (A 12 (x : Int).toNat) ∧ (A 12 (x : Int).toNat) ≤ 1 := hI.b12 (x : Int).toNat
  refine m_if_eq (tgt := 37) hx hb dX6_isToMove_6 (by decide) (by omega) (fun c6 => ?_) (fun c6 => ?_)
  · refine lv_iconst (v := iv 0) hx hb dX6_isToMove_37 rfl ?_
    exact r_zret hC X hR hf hr hlk rfl (by simp [rToMove, bZ, c6]) (by omega) dX6_isToMove_38
  · refine m_aload_n hx hb hL dX6_isToMove_9 rfl ?_
    refine r_geta hC X hR FX6_38 rfl rfl dX6_isToMove_10 ?_
    refine m_iload_n hx hb hL dX6_isToMove_13 rfl ?_
    refine r_zald (x := x) (w := (A 13 (x : Int).toNat)) hC X hR 13 rfl rfl (by omega) (by change _ < ((620 : Nat) : Int); omega) rfl dX6_isToMove_14 ?_
    have q2 : (0 : Int) ≤ (A 13 (x : Int).toNat) ∧ (A 13 (x : Int).toNat) ≤ 1 := hI.b13 (x : Int).toNat
    refine m_if_ne (tgt := 37) hx hb dX6_isToMove_15 (by decide) (by omega) (fun c15 => ?_) (fun c15 => ?_)
    · refine lv_iconst (v := iv 0) hx hb dX6_isToMove_37 rfl ?_
      exact r_zret hC X hR hf hr hlk rfl (by simp [rToMove, bZ, c6, c15]) (by omega) dX6_isToMove_38
    · refine m_aload_n hx hb hL dX6_isToMove_18 rfl ?_
      refine r_geta hC X hR FX6_7 rfl rfl dX6_isToMove_19 ?_
      refine m_aload_n hx hb hL dX6_isToMove_22 rfl ?_
      refine r_geta hC X hR FX6_20 rfl rfl dX6_isToMove_23 ?_
      refine m_iload_n hx hb hL dX6_isToMove_26 rfl ?_
      refine r_iald (x := x) (w := (A 7 (x : Int).toNat)) hC X hR 7 rfl rfl (by omega) (by change _ < ((620 : Nat) : Int); omega) rfl dX6_isToMove_27 ?_
      have q3 : (0 : Int) ≤ (A 7 (x : Int).toNat) ∧ (A 7 (x : Int).toNat) ≤ 15 := hI.b7 (x : Int).toNat
      refine r_iald (x := (A 7 (x : Int).toNat)) (w := (A 3 ((A 7 (x : Int).toNat) : Int).toNat)) hC X hR 3 rfl rfl (by omega) (by change _ < ((16 : Nat) : Int); omega) rfl dX6_isToMove_28 ?_
      have q4 : (0 : Int) ≤ (A 3 ((A 7 (x : Int).toNat) : Int).toNat) ∧ (A 3 ((A 7 (x : Int).toNat) : Int).toNat) ≤ 4 := hI.b3 ((A 7 (x : Int).toNat) : Int).toNat
      refine lv_iconst (v := iv 4) hx hb dX6_isToMove_29 rfl ?_
      refine m_icmp_ne (tgt := 37) hx hb dX6_isToMove_30 (by decide) (by omega) (by omega) (fun c30 => ?_) (fun c30 => ?_)
      · refine lv_iconst (v := iv 0) hx hb dX6_isToMove_37 rfl ?_
        exact r_zret hC X hR hf hr hlk rfl (by simp [rToMove, bZ, c6, c15, c30]) (by omega) dX6_isToMove_38
      · refine lv_iconst (v := iv 1) hx hb dX6_isToMove_33 rfl ?_
        refine lv_goto (tgt := 38) hx hb dX6_isToMove_34 (by decide) ?_
        exact r_zret hC X hR hf hr hlk rfl (by simp [rToMove, bZ, c6, c15, c30]) (by omega) dX6_isToMove_38

set_option maxHeartbeats 4000000 in
theorem k_X6_see {G : mG} {l : Launch} {z : Nat} {ρ : Nat → Nat} {μ0 : mM} {A : rS} {x : Int} (hR : RR A μ0) (hI : RI A) (hx1 : -1 ≤ x ∧ x < 620) (hx2 : x ≠ -1 → A 12 x.toNat = 0 → A 17 0 < 620) : MR G l yX6_see cX6_see 2 none 0 0 z ρ [.ref (ρ 6), .int (iv x)] μ0 none (rSee A x) := by
  refine MR.of hR (by decide) (by simp [Value.category]) (Nat.le_of_ble_eq_true rfl) (Nat.le_of_ble_eq_true rfl) ?_
  intro p e s m args below meth c ls H locs μ hC hx hb hr hlk X hR hf hL
  refine m_iload_n hx hb hL dX6_see_0 rfl ?_
  refine lv_iconst (v := iv (-1)) hx hb dX6_see_1 rfl ?_
  refine m_icmp_eq (tgt := 41) hx hb dX6_see_2 (by decide) (by omega) (by omega) (fun c2 => ?_) (fun c2 => ?_)
  · exact r_vret hC X hR hf hr hlk (by simp [rSee, c2]) dX6_see_41
  · refine m_aload_n hx hb hL dX6_see_5 rfl ?_
    refine r_geta hC X hR FX6_35 rfl rfl dX6_see_6 ?_
    refine m_iload_n hx hb hL dX6_see_9 rfl ?_
    refine r_zald (x := x) (w := (A 12 (x : Int).toNat)) hC X hR 12 rfl rfl (by omega) (by change _ < ((620 : Nat) : Int); omega) rfl dX6_see_10 ?_
    have q1 : (0 : Int) ≤ (A 12 (x : Int).toNat) ∧ (A 12 (x : Int).toNat) ≤ 1 := hI.b12 (x : Int).toNat
    refine m_if_ne (tgt := 41) hx hb dX6_see_11 (by decide) (by omega) (fun c11 => ?_) (fun c11 => ?_)
    · exact r_vret hC X hR hf hr hlk (by simp [rSee, c2, c11]) dX6_see_41
    · have q0 := hx2 c2 c11
      have q00 := hI.b17 0
      refine m_aload_n hx hb hL dX6_see_14 rfl ?_
      refine r_geta hC X hR FX6_35 rfl rfl dX6_see_15 ?_
      refine m_iload_n hx hb hL dX6_see_18 rfl ?_
      refine lv_iconst (v := iv 1) hx hb dX6_see_19 rfl ?_
      refine r_zast (x := x) (v := 1) hC X hR 12 rfl rfl (by omega) (by change _ < ((620 : Nat) : Int); omega) (by omega) dX6_see_20 (fun H locs X hR => ?_)
      have hf := hf.a 12 (x : Int).toNat (iv 1)
      have hI := hI.u12 (x : Int).toNat (v := 1) ⟨by omega, by omega⟩
      refine m_aload_n hx hb hL dX6_see_21 rfl ?_
      refine r_geta hC X hR FX6_44 rfl rfl dX6_see_22 ?_
      refine m_aload_n hx hb hL dX6_see_25 rfl ?_
      refine r_gets (w := (A 17 0)) hC X hR FX6_60 rfl rfl rfl dX6_see_26 ?_
      have q2 : (0 : Int) ≤ (A 17 0) ∧ (A 17 0) ≤ 620 := hI.b17 0
      refine m_iload_n hx hb hL dX6_see_29 rfl ?_
      refine r_iast (x := (A 17 0)) (v := x) hC X hR 15 rfl rfl (by omega) (by change _ < ((620 : Nat) : Int); omega) dX6_see_30 (fun H locs X hR => ?_)
      have hf := hf.a 15 ((A 17 0) : Int).toNat (iv x)
      have hI := hI.u15 ((A 17 0) : Int).toNat (v := x) ⟨by omega, by omega⟩
      refine m_aload_n hx hb hL dX6_see_31 rfl ?_
      refine lv_dup hx hb dX6_see_32 rfl ?_
      refine r_gets (w := (A 17 0)) hC X hR FX6_60 rfl rfl rfl dX6_see_33 ?_
      have q3 : (0 : Int) ≤ (A 17 0) ∧ (A 17 0) ≤ 620 := hI.b17 0
      refine lv_iconst (v := iv 1) hx hb dX6_see_36 rfl ?_
      refine m_iadd hx hb dX6_see_37 ?_
      refine r_puts (v := ((A 17 0) + 1)) hC X hR FwX6_60 rfl rfl dX6_see_38 (fun H locs X hR => ?_)
      have hf := hf.s 17 (iv ((A 17 0) + 1))
      have hI := hI.u17 0 (v := ((A 17 0) + 1)) ⟨by omega, by omega⟩
      exact r_vret hC X hR hf hr hlk (by simp [rSee, c2, c11]) dX6_see_41

