/-! the reference's public methods (printed by wip/tools/ref4.py) -/
set_option maxHeartbeats 4000000 in
theorem k_X6_move {G : mG} {l : Launch} {z : Nat} {ρ : Nat → Nat} {μ0 : mM} {A : rS} {x : Int} {y : Int} (hR : RR A μ0) (hI : RI A) (hx1 : rng x) (hy1 : rng y) : MR G l yX6_move cX6_move 3 none 1 22 z ρ [.ref (ρ 6), .int (iv x), .int (iv y)] μ0 none (rMove A x y) := by
  refine MR.of hR (by decide) (by simp [Value.category]) (Nat.le_of_ble_eq_true rfl) (Nat.le_of_ble_eq_true rfl) ?_
  intro p e s m args below meth c ls H locs μ hC hx hb hr hlk X hR hf hL
  refine m_aload_n hx hb hL dX6_move_0 rfl ?_
  refine m_iload_n hx hb hL dX6_move_1 rfl ?_
  refine r_callS hC X hR hf (k_X6_isRegister (x := x) hR hI (by omega)) VX6_117 rfl ⟨by decide, by decide⟩ ⟨by decide, by decide⟩ hL.1 rfl (Nat.le_of_ble_eq_true rfl) dX6_move_2 (fun μ H locs X hR hf => ?_)
  by_cases g2 : rReg x
  · rw [show rIsReg x = 1 from bZ_t g2]
    refine m_if_eq (tgt := 19) hx hb dX6_move_5 (by decide) (by omega) (fun c5 => absurd c5 (by omega)) (fun c5 => ?_)
    refine m_iload_n hx hb hL dX6_move_8 rfl ?_
    refine r_callS hC X hR hf (k_X6_isRegister (x := y) hR hI (by omega)) VX6_117 rfl ⟨by decide, by decide⟩ ⟨by decide, by decide⟩ hL.1 rfl (Nat.le_of_ble_eq_true rfl) dX6_move_9 (fun μ H locs X hR hf => ?_)
    by_cases g9 : rReg y
    · rw [show rIsReg y = 1 from bZ_t g9]
      refine m_if_eq (tgt := 19) hx hb dX6_move_12 (by decide) (by omega) (fun c12 => absurd c12 (by omega)) (fun c12 => ?_)
      refine lv_iconst (v := iv 1) hx hb dX6_move_15 rfl ?_
      refine lv_goto (tgt := 20) hx hb dX6_move_16 (by decide) ?_
      refine lv_iconst (v := iv 1) hx hb dX6_move_20 rfl ?_
      refine r_call hC X hR hf (k_X6_good (x := 1) (y := 1) hR hI (by omega) (by omega)) VX6_120 rfl ⟨by decide, by decide⟩ ⟨by decide, by decide⟩ hL.1 rfl (Nat.le_of_ble_eq_true rfl) dX6_move_21 (fun μ H locs X hR hf => ?_)
      have hR : RR (up A 0 0 0) μ := hR
      have hI : RI (up A 0 0 0) := hI.u0 0 (v := 0) ⟨by omega, by omega⟩
      rw [show bZ (rThr 1 1 = 0) = 1 by decide]
      refine m_if_eq (tgt := 39) hx hb dX6_move_24 (by decide) (by omega) (fun c24 => absurd c24 (by omega)) (fun c24 => ?_)
      refine m_aload_n hx hb hL dX6_move_27 rfl ?_
      refine r_geta hC X hR FX6_41 rfl rfl dX6_move_28 ?_
      refine m_iload_n hx hb hL dX6_move_31 rfl ?_
      refine m_aload_n hx hb hL dX6_move_32 rfl ?_
      refine r_geta hC X hR FX6_41 rfl rfl dX6_move_33 ?_
      refine m_iload_n hx hb hL dX6_move_36 rfl ?_
      refine r_iald (x := y) (w := (A 14 (y : Int).toNat)) hC X hR 14 rfl rfl (by omega) (by change _ < ((10 : Nat) : Int); omega) rfl dX6_move_37 ?_
      have q1 : (-1 : Int) ≤ (A 14 (y : Int).toNat) ∧ (A 14 (y : Int).toNat) ≤ 619 := hI.b14 (y : Int).toNat
      refine r_iast (x := x) (v := (A 14 (y : Int).toNat)) hC X hR 14 rfl rfl (by omega) (by change _ < ((10 : Nat) : Int); omega) dX6_move_38 (fun H locs X hR => ?_)
      have hf := hf.a 14 (x : Int).toNat (iv (A 14 (y : Int).toNat))
      have hI := hI.u14 (x : Int).toNat (v := (A 14 (y : Int).toNat)) ⟨by omega, by omega⟩
      exact r_vret hC X hR hf hr hlk (by simp [rMove, up_up, up_s, up_k, g2, g9]) dX6_move_39
    · rw [show rIsReg y = 0 from bZ_f g9]
      refine m_if_eq (tgt := 19) hx hb dX6_move_12 (by decide) (by omega) (fun c12 => ?_) (fun c12 => absurd c12 (by omega))
      refine lv_iconst (v := iv 0) hx hb dX6_move_19 rfl ?_
      refine lv_iconst (v := iv 1) hx hb dX6_move_20 rfl ?_
      refine r_call hC X hR hf (k_X6_good (x := 0) (y := 1) hR hI (by omega) (by omega)) VX6_120 rfl ⟨by decide, by decide⟩ ⟨by decide, by decide⟩ hL.1 rfl (Nat.le_of_ble_eq_true rfl) dX6_move_21 (fun μ H locs X hR hf => ?_)
      have hR : RR (up A 0 0 1) μ := hR
      have hI : RI (up A 0 0 1) := hI.u0 0 (v := 1) ⟨by omega, by omega⟩
      rw [show bZ (rThr 0 1 = 0) = 0 by decide]
      refine m_if_eq (tgt := 39) hx hb dX6_move_24 (by decide) (by omega) (fun c24 => ?_) (fun c24 => absurd c24 (by omega))
      exact r_vret hC X hR hf hr hlk (by simp [rMove, up_up, up_s, up_k, g2, g9]) dX6_move_39
  · rw [show rIsReg x = 0 from bZ_f g2]
    refine m_if_eq (tgt := 19) hx hb dX6_move_5 (by decide) (by omega) (fun c5 => ?_) (fun c5 => absurd c5 (by omega))
    refine lv_iconst (v := iv 0) hx hb dX6_move_19 rfl ?_
    refine lv_iconst (v := iv 1) hx hb dX6_move_20 rfl ?_
    refine r_call hC X hR hf (k_X6_good (x := 0) (y := 1) hR hI (by omega) (by omega)) VX6_120 rfl ⟨by decide, by decide⟩ ⟨by decide, by decide⟩ hL.1 rfl (Nat.le_of_ble_eq_true rfl) dX6_move_21 (fun μ H locs X hR hf => ?_)
    have hR : RR (up A 0 0 1) μ := hR
    have hI : RI (up A 0 0 1) := hI.u0 0 (v := 1) ⟨by omega, by omega⟩
    rw [show bZ (rThr 0 1 = 0) = 0 by decide]
    refine m_if_eq (tgt := 39) hx hb dX6_move_24 (by decide) (by omega) (fun c24 => ?_) (fun c24 => absurd c24 (by omega))
    exact r_vret hC X hR hf hr hlk (by simp [rMove, up_up, up_s, up_k, g2]) dX6_move_39

set_option maxHeartbeats 4000000 in
theorem k_X6_drop {G : mG} {l : Launch} {z : Nat} {ρ : Nat → Nat} {μ0 : mM} {A : rS} {x : Int} (hR : RR A μ0) (hI : RI A) (hx1 : rng x) : MR G l yX6_drop cX6_drop 3 (some .boolean) 1 22 z ρ [.ref (ρ 6), .int (iv x)] μ0 (some (.int (iv (rDropV A x)))) (rDrop A x) := by
  refine MR.of hR (by decide) (by simp [Value.category]) (Nat.le_of_ble_eq_true rfl) (Nat.le_of_ble_eq_true rfl) ?_
  intro p e s m args below meth c ls H locs μ hC hx hb hr hlk X hR hf hL
  refine m_aload_n hx hb hL dX6_drop_0 rfl ?_
  refine m_iload_n hx hb hL dX6_drop_1 rfl ?_
  refine r_callS hC X hR hf (k_X6_isRegister (x := x) hR hI (by omega)) VX6_117 rfl ⟨by decide, by decide⟩ ⟨by decide, by decide⟩ hL.1 rfl (Nat.le_of_ble_eq_true rfl) dX6_drop_2 (fun μ H locs X hR hf => ?_)
  by_cases g2 : rReg x
  · rw [show rIsReg x = 1 from bZ_t g2]
    refine lv_iconst (v := iv 1) hx hb dX6_drop_5 rfl ?_
    refine r_call hC X hR hf (k_X6_good (x := 1) (y := 1) hR hI (by omega) (by omega)) VX6_120 rfl ⟨by decide, by decide⟩ ⟨by decide, by decide⟩ hL.1 rfl (Nat.le_of_ble_eq_true rfl) dX6_drop_6 (fun μ H locs X hR hf => ?_)
    have hR : RR (up A 0 0 0) μ := hR
    have hI : RI (up A 0 0 0) := hI.u0 0 (v := 0) ⟨by omega, by omega⟩
    rw [show bZ (rThr 1 1 = 0) = 1 by decide]
    refine m_if_ne (tgt := 14) hx hb dX6_drop_9 (by decide) (by omega) (fun c9 => ?_) (fun c9 => absurd c9 (by omega))
    refine m_aload_n hx hb hL dX6_drop_14 rfl ?_
    refine r_geta hC X hR FX6_41 rfl rfl dX6_drop_15 ?_
    refine m_iload_n hx hb hL dX6_drop_18 rfl ?_
    refine r_iald (x := x) (w := (A 14 (x : Int).toNat)) hC X hR 14 rfl rfl (by omega) (by change _ < ((10 : Nat) : Int); omega) rfl dX6_drop_19 ?_
    have q1 : (-1 : Int) ≤ (A 14 (x : Int).toNat) ∧ (A 14 (x : Int).toNat) ≤ 619 := hI.b14 (x : Int).toNat
    refine lv_iconst (v := iv (-1)) hx hb dX6_drop_20 rfl ?_
    refine m_icmp_eq (tgt := 28) hx hb dX6_drop_21 (by decide) (by omega) (by omega) (fun c21 => ?_) (fun c21 => ?_)
    · refine lv_iconst (v := iv 0) hx hb dX6_drop_28 rfl ?_
      refine m_istore_n hx hb hL dX6_drop_29 (Nat.le_of_ble_eq_true rfl) (fun ls hL => ?_)
      refine m_aload_n hx hb hL dX6_drop_30 rfl ?_
      refine r_geta hC X hR FX6_41 rfl rfl dX6_drop_31 ?_
      refine m_iload_n hx hb hL dX6_drop_34 rfl ?_
      refine lv_iconst (v := iv (-1)) hx hb dX6_drop_35 rfl ?_
      refine r_iast (x := x) (v := (-1)) hC X hR 14 rfl rfl (by omega) (by change _ < ((10 : Nat) : Int); omega) dX6_drop_36 (fun H locs X hR => ?_)
      have hf := hf.a 14 (x : Int).toNat (iv (-1))
      have hI := hI.u14 (x : Int).toNat (v := (-1)) ⟨by omega, by omega⟩
      refine m_iload_n hx hb hL dX6_drop_37 rfl ?_
      exact r_zret hC X hR hf hr hlk (by simp [rDrop, up_up, up_s, up_k, g2, c21]) (by simp [rDropV, bZ, up_up, up_s, up_k, g2, c21]) (by omega) dX6_drop_38
    · refine lv_iconst (v := iv 1) hx hb dX6_drop_24 rfl ?_
      refine lv_goto (tgt := 29) hx hb dX6_drop_25 (by decide) ?_
      refine m_istore_n hx hb hL dX6_drop_29 (Nat.le_of_ble_eq_true rfl) (fun ls hL => ?_)
      refine m_aload_n hx hb hL dX6_drop_30 rfl ?_
      refine r_geta hC X hR FX6_41 rfl rfl dX6_drop_31 ?_
      refine m_iload_n hx hb hL dX6_drop_34 rfl ?_
      refine lv_iconst (v := iv (-1)) hx hb dX6_drop_35 rfl ?_
      refine r_iast (x := x) (v := (-1)) hC X hR 14 rfl rfl (by omega) (by change _ < ((10 : Nat) : Int); omega) dX6_drop_36 (fun H locs X hR => ?_)
      have hf := hf.a 14 (x : Int).toNat (iv (-1))
      have hI := hI.u14 (x : Int).toNat (v := (-1)) ⟨by omega, by omega⟩
      refine m_iload_n hx hb hL dX6_drop_37 rfl ?_
      exact r_zret hC X hR hf hr hlk (by simp [rDrop, up_up, up_s, up_k, g2, c21]) (by simp [rDropV, bZ, up_up, up_s, up_k, g2, c21]) (by omega) dX6_drop_38
  · rw [show rIsReg x = 0 from bZ_f g2]
    refine lv_iconst (v := iv 1) hx hb dX6_drop_5 rfl ?_
    refine r_call hC X hR hf (k_X6_good (x := 0) (y := 1) hR hI (by omega) (by omega)) VX6_120 rfl ⟨by decide, by decide⟩ ⟨by decide, by decide⟩ hL.1 rfl (Nat.le_of_ble_eq_true rfl) dX6_drop_6 (fun μ H locs X hR hf => ?_)
    have hR : RR (up A 0 0 1) μ := hR
    have hI : RI (up A 0 0 1) := hI.u0 0 (v := 1) ⟨by omega, by omega⟩
    rw [show bZ (rThr 0 1 = 0) = 0 by decide]
    refine m_if_ne (tgt := 14) hx hb dX6_drop_9 (by decide) (by omega) (fun c9 => absurd c9 (by omega)) (fun c9 => ?_)
    refine lv_iconst (v := iv 0) hx hb dX6_drop_12 rfl ?_
    exact r_zret hC X hR hf hr hlk (by simp [rDrop, up_up, up_s, up_k, g2]) (by simp [rDropV, bZ, up_up, up_s, up_k, g2]) (by omega) dX6_drop_13

set_option maxHeartbeats 4000000 in
theorem k_X6_tagOf {G : mG} {l : Launch} {z : Nat} {ρ : Nat → Nat} {μ0 : mM} {A : rS} {x : Int} (hR : RR A μ0) (hI : RI A) (hx1 : -1 ≤ x ∧ x < 620) : MR G l yX6_tagOf cX6_tagOf 2 (some .int) 0 0 z ρ [.ref (ρ 6), .int (iv x)] μ0 (some (.int (iv (rTagOf A x)))) A := by
  refine MR.of hR (by decide) (by simp [Value.category]) (Nat.le_of_ble_eq_true rfl) (Nat.le_of_ble_eq_true rfl) ?_
  intro p e s m args below meth c ls H locs μ hC hx hb hr hlk X hR hf hL
  refine m_iload_n hx hb hL dX6_tagOf_0 rfl ?_
  refine lv_iconst (v := iv (-1)) hx hb dX6_tagOf_1 rfl ?_
  refine m_icmp_ne (tgt := 9) hx hb dX6_tagOf_2 (by decide) (by omega) (by omega) (fun c2 => ?_) (fun c2 => ?_)
  · refine m_aload_n hx hb hL dX6_tagOf_9 rfl ?_
    refine r_geta hC X hR FX6_29 rfl rfl dX6_tagOf_10 ?_
    refine m_iload_n hx hb hL dX6_tagOf_13 rfl ?_
    refine r_iald (x := x) (w := (A 10 (x : Int).toNat)) hC X hR 10 rfl rfl (by omega) (by change _ < ((620 : Nat) : Int); omega) rfl dX6_tagOf_14 ?_
    have q1 : (-2147483648 : Int) ≤ (A 10 (x : Int).toNat) ∧ (A 10 (x : Int).toNat) ≤ 2147483647 := hI.b10 (x : Int).toNat
    exact r_iret hC X hR hf hr hlk rfl (by simp [rTagOf, up_up, up_s, up_k, c2]) dX6_tagOf_15
  · refine lv_iconst (v := iv 0) hx hb dX6_tagOf_5 rfl ?_
    refine lv_goto (tgt := 15) hx hb dX6_tagOf_6 (by decide) ?_
    exact r_iret hC X hR hf hr hlk rfl (by simp [rTagOf, up_up, up_s, up_k, c2]) dX6_tagOf_15

set_option maxHeartbeats 4000000 in
theorem k_X6_hasField {G : mG} {l : Launch} {z : Nat} {ρ : Nat → Nat} {μ0 : mM} {A : rS} {a : Int} {b : Int} {r : Int} {i : Int} (hR : RR A μ0) (hI : RI A) (ha1 : rng a) (hb1 : rng b) (hr1 : r = a ∨ r = b) (hi1 : rng i) : MR G l yX6_hasField cX6_hasField 5 (some .boolean) 1 22 z ρ [.ref (ρ 6), .int (iv a), .int (iv b), .int (iv r), .int (iv i)] μ0 (some (.int (iv (bZ (rHF A a b r i = 0))))) (up A 0 0 (rHF A a b r i)) := by
  refine MR.of hR (by decide) (by simp [Value.category]) (Nat.le_of_ble_eq_true rfl) (Nat.le_of_ble_eq_true rfl) ?_
  intro p e s m args below meth c ls H locs μ hC hx hb hr hlk X hR hf hL
  refine m_aload_n hx hb hL dX6_hasField_0 rfl ?_
  refine m_iload_n hx hb hL dX6_hasField_1 rfl ?_
  refine r_callS hC X hR hf (k_X6_isRegister (x := a) hR hI (by omega)) VX6_117 rfl ⟨by decide, by decide⟩ ⟨by decide, by decide⟩ hL.1 rfl (Nat.le_of_ble_eq_true rfl) dX6_hasField_2 (fun μ H locs X hR hf => ?_)
  by_cases g2 : rReg a
  · rw [show rIsReg a = 1 from bZ_t g2]
    refine m_if_eq (tgt := 19) hx hb dX6_hasField_5 (by decide) (by omega) (fun c5 => absurd c5 (by omega)) (fun c5 => ?_)
    refine m_iload_n hx hb hL dX6_hasField_8 rfl ?_
    refine r_callS hC X hR hf (k_X6_isRegister (x := b) hR hI (by omega)) VX6_117 rfl ⟨by decide, by decide⟩ ⟨by decide, by decide⟩ hL.1 rfl (Nat.le_of_ble_eq_true rfl) dX6_hasField_9 (fun μ H locs X hR hf => ?_)
    by_cases g9 : rReg b
    · rw [show rIsReg b = 1 from bZ_t g9]
      refine m_if_eq (tgt := 19) hx hb dX6_hasField_12 (by decide) (by omega) (fun c12 => absurd c12 (by omega)) (fun c12 => ?_)
      refine lv_iconst (v := iv 1) hx hb dX6_hasField_15 rfl ?_
      refine lv_goto (tgt := 20) hx hb dX6_hasField_16 (by decide) ?_
      refine lv_iconst (v := iv 1) hx hb dX6_hasField_20 rfl ?_
      refine r_call hC X hR hf (k_X6_good (x := 1) (y := 1) hR hI (by omega) (by omega)) VX6_120 rfl ⟨by decide, by decide⟩ ⟨by decide, by decide⟩ hL.1 rfl (Nat.le_of_ble_eq_true rfl) dX6_hasField_21 (fun μ H locs X hR hf => ?_)
      have hR : RR (up A 0 0 0) μ := hR
      have hI : RI (up A 0 0 0) := hI.u0 0 (v := 0) ⟨by omega, by omega⟩
      rw [show bZ (rThr 1 1 = 0) = 1 by decide]
      refine m_if_eq (tgt := 50) hx hb dX6_hasField_24 (by decide) (by omega) (fun c24 => absurd c24 (by omega)) (fun c24 => ?_)
      refine m_aload_n hx hb hL dX6_hasField_27 rfl ?_
      refine lv_iconst (v := iv 1) hx hb dX6_hasField_28 rfl ?_
      refine m_aload_n hx hb hL dX6_hasField_29 rfl ?_
      refine r_geta hC X hR FX6_41 rfl rfl dX6_hasField_30 ?_
      refine m_iload_n hx hb hL dX6_hasField_33 rfl ?_
      refine r_iald (x := r) (w := (A 14 (r : Int).toNat)) hC X hR 14 rfl rfl (by omega) (by change _ < ((10 : Nat) : Int); omega) rfl dX6_hasField_34 ?_
      have q1 : (-1 : Int) ≤ (A 14 (r : Int).toNat) ∧ (A 14 (r : Int).toNat) ≤ 619 := hI.b14 (r : Int).toNat
      refine lv_iconst (v := iv (-1)) hx hb dX6_hasField_35 rfl ?_
      refine m_icmp_eq (tgt := 43) hx hb dX6_hasField_36 (by decide) (by omega) (by omega) (fun c36 => ?_) (fun c36 => ?_)
      · refine lv_iconst (v := iv 0) hx hb dX6_hasField_43 rfl ?_
        refine r_call hC X hR hf (k_X6_good (x := 1) (y := 0) hR hI (by omega) (by omega)) VX6_120 rfl ⟨by decide, by decide⟩ ⟨by decide, by decide⟩ hL.1 rfl (Nat.le_of_ble_eq_true rfl) dX6_hasField_44 (fun μ H locs X hR hf => ?_)
        have hR : RR (up (up A 0 0 0) 0 0 2) μ := hR
        have hI : RI (up (up A 0 0 0) 0 0 2) := hI.u0 0 (v := 2) ⟨by omega, by omega⟩
        rw [show bZ (rThr 1 0 = 0) = 0 by decide]
        refine m_if_ne (tgt := 52) hx hb dX6_hasField_47 (by decide) (by omega) (fun c47 => absurd c47 (by omega)) (fun c47 => ?_)
        refine lv_iconst (v := iv 0) hx hb dX6_hasField_50 rfl ?_
        exact r_zret hC X hR hf hr hlk (by rw [(show rHF A a b r i = 2 by (unfold rHF; (first | rw [if_pos (by omega)] | rw [if_neg (by omega)]); (try (first | rw [if_pos (by omega)] | rw [if_neg (by omega)])); (try (first | rw [if_pos (by omega)] | rw [if_neg (by omega)]))))]; (try simp [up_up])) (by rw [(show rHF A a b r i = 2 by (unfold rHF; (first | rw [if_pos (by omega)] | rw [if_neg (by omega)]); (try (first | rw [if_pos (by omega)] | rw [if_neg (by omega)])); (try (first | rw [if_pos (by omega)] | rw [if_neg (by omega)]))))]; decide) (by omega) dX6_hasField_51
      · refine lv_iconst (v := iv 1) hx hb dX6_hasField_39 rfl ?_
        refine lv_goto (tgt := 44) hx hb dX6_hasField_40 (by decide) ?_
        refine r_call hC X hR hf (k_X6_good (x := 1) (y := 1) hR hI (by omega) (by omega)) VX6_120 rfl ⟨by decide, by decide⟩ ⟨by decide, by decide⟩ hL.1 rfl (Nat.le_of_ble_eq_true rfl) dX6_hasField_44 (fun μ H locs X hR hf => ?_)
        have hR : RR (up (up A 0 0 0) 0 0 0) μ := hR
        have hI : RI (up (up A 0 0 0) 0 0 0) := hI.u0 0 (v := 0) ⟨by omega, by omega⟩
        rw [show bZ (rThr 1 1 = 0) = 1 by decide]
        refine m_if_ne (tgt := 52) hx hb dX6_hasField_47 (by decide) (by omega) (fun c47 => ?_) (fun c47 => absurd c47 (by omega))
        refine m_aload_n hx hb hL dX6_hasField_52 rfl ?_
        refine m_iload hx hb hL dX6_hasField_53 rfl ?_
        refine m_if_lt (tgt := 80) hx hb dX6_hasField_55 (by decide) (by omega) (fun c55 => ?_) (fun c55 => ?_)
        · refine lv_iconst (v := iv 0) hx hb dX6_hasField_80 rfl ?_
          refine lv_iconst (v := iv 1) hx hb dX6_hasField_81 rfl ?_
          refine r_call hC X hR hf (k_X6_good (x := 0) (y := 1) hR hI (by omega) (by omega)) VX6_120 rfl ⟨by decide, by decide⟩ ⟨by decide, by decide⟩ hL.1 rfl (Nat.le_of_ble_eq_true rfl) dX6_hasField_82 (fun μ H locs X hR hf => ?_)
          have hR : RR (up (up (up A 0 0 0) 0 0 0) 0 0 1) μ := hR
          have hI : RI (up (up (up A 0 0 0) 0 0 0) 0 0 1) := hI.u0 0 (v := 1) ⟨by omega, by omega⟩
          rw [show bZ (rThr 0 1 = 0) = 0 by decide]
          exact r_zret hC X hR hf hr hlk (by rw [(show rHF A a b r i = 1 by (unfold rHF; (first | rw [if_pos (by omega)] | rw [if_neg (by omega)]); (try (first | rw [if_pos (by omega)] | rw [if_neg (by omega)])); (try (first | rw [if_pos (by omega)] | rw [if_neg (by omega)]))))]; (try simp [up_up])) (by rw [(show rHF A a b r i = 1 by (unfold rHF; (first | rw [if_pos (by omega)] | rw [if_neg (by omega)]); (try (first | rw [if_pos (by omega)] | rw [if_neg (by omega)])); (try (first | rw [if_pos (by omega)] | rw [if_neg (by omega)]))))]; decide) (by omega) dX6_hasField_85
        · refine m_iload hx hb hL dX6_hasField_58 rfl ?_
          refine m_aload_n hx hb hL dX6_hasField_60 rfl ?_
          refine r_geta hC X hR FX6_26 rfl rfl dX6_hasField_61 ?_
          refine m_aload_n hx hb hL dX6_hasField_64 rfl ?_
          refine r_geta hC X hR FX6_41 rfl rfl dX6_hasField_65 ?_
          refine m_iload_n hx hb hL dX6_hasField_68 rfl ?_
          refine r_iald (x := r) (w := (A 14 (r : Int).toNat)) hC X hR 14 rfl rfl (by omega) (by change _ < ((10 : Nat) : Int); omega) rfl dX6_hasField_69 ?_
          have q2 : (-1 : Int) ≤ (A 14 (r : Int).toNat) ∧ (A 14 (r : Int).toNat) ≤ 619 := hI.b14 (r : Int).toNat
          refine r_iald (x := (A 14 (r : Int).toNat)) (w := (A 9 ((A 14 (r : Int).toNat) : Int).toNat)) hC X hR 9 rfl rfl (by omega) (by change _ < ((620 : Nat) : Int); omega) rfl dX6_hasField_70 ?_
          have q3 : (0 : Int) ≤ (A 9 ((A 14 (r : Int).toNat) : Int).toNat) ∧ (A 9 ((A 14 (r : Int).toNat) : Int).toNat) ≤ 22 := hI.b9 ((A 14 (r : Int).toNat) : Int).toNat
          refine lv_iconst (v := iv 2) hx hb dX6_hasField_71 rfl ?_
          refine m_isub hx hb dX6_hasField_72 ?_
          refine m_icmp_ge (tgt := 80) hx hb dX6_hasField_73 (by decide) (by omega) (by omega) (fun c73 => ?_) (fun c73 => ?_)
          · refine lv_iconst (v := iv 0) hx hb dX6_hasField_80 rfl ?_
            refine lv_iconst (v := iv 1) hx hb dX6_hasField_81 rfl ?_
            refine r_call hC X hR hf (k_X6_good (x := 0) (y := 1) hR hI (by omega) (by omega)) VX6_120 rfl ⟨by decide, by decide⟩ ⟨by decide, by decide⟩ hL.1 rfl (Nat.le_of_ble_eq_true rfl) dX6_hasField_82 (fun μ H locs X hR hf => ?_)
            have hR : RR (up (up (up A 0 0 0) 0 0 0) 0 0 1) μ := hR
            have hI : RI (up (up (up A 0 0 0) 0 0 0) 0 0 1) := hI.u0 0 (v := 1) ⟨by omega, by omega⟩
            rw [show bZ (rThr 0 1 = 0) = 0 by decide]
            exact r_zret hC X hR hf hr hlk (by rw [(show rHF A a b r i = 1 by (unfold rHF; (first | rw [if_pos (by omega)] | rw [if_neg (by omega)]); (try (first | rw [if_pos (by omega)] | rw [if_neg (by omega)])); (try (first | rw [if_pos (by omega)] | rw [if_neg (by omega)]))))]; (try simp [up_up])) (by rw [(show rHF A a b r i = 1 by (unfold rHF; (first | rw [if_pos (by omega)] | rw [if_neg (by omega)]); (try (first | rw [if_pos (by omega)] | rw [if_neg (by omega)])); (try (first | rw [if_pos (by omega)] | rw [if_neg (by omega)]))))]; decide) (by omega) dX6_hasField_85
          · refine lv_iconst (v := iv 1) hx hb dX6_hasField_76 rfl ?_
            refine lv_goto (tgt := 81) hx hb dX6_hasField_77 (by decide) ?_
            refine lv_iconst (v := iv 1) hx hb dX6_hasField_81 rfl ?_
            refine r_call hC X hR hf (k_X6_good (x := 1) (y := 1) hR hI (by omega) (by omega)) VX6_120 rfl ⟨by decide, by decide⟩ ⟨by decide, by decide⟩ hL.1 rfl (Nat.le_of_ble_eq_true rfl) dX6_hasField_82 (fun μ H locs X hR hf => ?_)
            have hR : RR (up (up (up A 0 0 0) 0 0 0) 0 0 0) μ := hR
            have hI : RI (up (up (up A 0 0 0) 0 0 0) 0 0 0) := hI.u0 0 (v := 0) ⟨by omega, by omega⟩
            rw [show bZ (rThr 1 1 = 0) = 1 by decide]
            exact r_zret hC X hR hf hr hlk (by rw [(show rHF A a b r i = 0 by (unfold rHF; (first | rw [if_pos (by omega)] | rw [if_neg (by omega)]); (try (first | rw [if_pos (by omega)] | rw [if_neg (by omega)])); (try (first | rw [if_pos (by omega)] | rw [if_neg (by omega)]))))]; (try simp [up_up])) (by rw [(show rHF A a b r i = 0 by (unfold rHF; (first | rw [if_pos (by omega)] | rw [if_neg (by omega)]); (try (first | rw [if_pos (by omega)] | rw [if_neg (by omega)])); (try (first | rw [if_pos (by omega)] | rw [if_neg (by omega)]))))]; decide) (by omega) dX6_hasField_85
    · rw [show rIsReg b = 0 from bZ_f g9]
      refine m_if_eq (tgt := 19) hx hb dX6_hasField_12 (by decide) (by omega) (fun c12 => ?_) (fun c12 => absurd c12 (by omega))
      refine lv_iconst (v := iv 0) hx hb dX6_hasField_19 rfl ?_
      refine lv_iconst (v := iv 1) hx hb dX6_hasField_20 rfl ?_
      refine r_call hC X hR hf (k_X6_good (x := 0) (y := 1) hR hI (by omega) (by omega)) VX6_120 rfl ⟨by decide, by decide⟩ ⟨by decide, by decide⟩ hL.1 rfl (Nat.le_of_ble_eq_true rfl) dX6_hasField_21 (fun μ H locs X hR hf => ?_)
      have hR : RR (up A 0 0 1) μ := hR
      have hI : RI (up A 0 0 1) := hI.u0 0 (v := 1) ⟨by omega, by omega⟩
      rw [show bZ (rThr 0 1 = 0) = 0 by decide]
      refine m_if_eq (tgt := 50) hx hb dX6_hasField_24 (by decide) (by omega) (fun c24 => ?_) (fun c24 => absurd c24 (by omega))
      refine lv_iconst (v := iv 0) hx hb dX6_hasField_50 rfl ?_
      exact r_zret hC X hR hf hr hlk (by rw [(show rHF A a b r i = 1 by (unfold rHF; (first | rw [if_pos (by omega)] | rw [if_neg (by omega)]); (try (first | rw [if_pos (by omega)] | rw [if_neg (by omega)])); (try (first | rw [if_pos (by omega)] | rw [if_neg (by omega)]))))]; (try simp [up_up])) (by rw [(show rHF A a b r i = 1 by (unfold rHF; (first | rw [if_pos (by omega)] | rw [if_neg (by omega)]); (try (first | rw [if_pos (by omega)] | rw [if_neg (by omega)])); (try (first | rw [if_pos (by omega)] | rw [if_neg (by omega)]))))]; decide) (by omega) dX6_hasField_51
  · rw [show rIsReg a = 0 from bZ_f g2]
    refine m_if_eq (tgt := 19) hx hb dX6_hasField_5 (by decide) (by omega) (fun c5 => ?_) (fun c5 => absurd c5 (by omega))
    refine lv_iconst (v := iv 0) hx hb dX6_hasField_19 rfl ?_
    refine lv_iconst (v := iv 1) hx hb dX6_hasField_20 rfl ?_
    refine r_call hC X hR hf (k_X6_good (x := 0) (y := 1) hR hI (by omega) (by omega)) VX6_120 rfl ⟨by decide, by decide⟩ ⟨by decide, by decide⟩ hL.1 rfl (Nat.le_of_ble_eq_true rfl) dX6_hasField_21 (fun μ H locs X hR hf => ?_)
    have hR : RR (up A 0 0 1) μ := hR
    have hI : RI (up A 0 0 1) := hI.u0 0 (v := 1) ⟨by omega, by omega⟩
    rw [show bZ (rThr 0 1 = 0) = 0 by decide]
    refine m_if_eq (tgt := 50) hx hb dX6_hasField_24 (by decide) (by omega) (fun c24 => ?_) (fun c24 => absurd c24 (by omega))
    refine lv_iconst (v := iv 0) hx hb dX6_hasField_50 rfl ?_
    exact r_zret hC X hR hf hr hlk (by rw [(show rHF A a b r i = 1 by (unfold rHF; (first | rw [if_pos (by omega)] | rw [if_neg (by omega)]); (try (first | rw [if_pos (by omega)] | rw [if_neg (by omega)])); (try (first | rw [if_pos (by omega)] | rw [if_neg (by omega)]))))]; (try simp [up_up])) (by rw [(show rHF A a b r i = 1 by (unfold rHF; (first | rw [if_pos (by omega)] | rw [if_neg (by omega)]); (try (first | rw [if_pos (by omega)] | rw [if_neg (by omega)])); (try (first | rw [if_pos (by omega)] | rw [if_neg (by omega)]))))]; decide) (by omega) dX6_hasField_51

set_option maxHeartbeats 4000000 in
theorem k_X6_read {G : mG} {l : Launch} {z : Nat} {ρ : Nat → Nat} {μ0 : mM} {A : rS} {x : Int} {y : Int} {i : Int} (hR : RR A μ0) (hI : RI A) (hx1 : rng x) (hy1 : rng y) (hi1 : rng i) : MR G l yX6_read cX6_read 4 (some .int) 2 46 z ρ [.ref (ρ 6), .int (iv x), .int (iv y), .int (iv i)] μ0 (some (.int (iv (rReadV A x y i)))) (rRead A x y i) := by
  refine MR.of hR (by decide) (by simp [Value.category]) (Nat.le_of_ble_eq_true rfl) (Nat.le_of_ble_eq_true rfl) ?_
  intro p e s m args below meth c ls H locs μ hC hx hb hr hlk X hR hf hL
  refine m_aload_n hx hb hL dX6_read_0 rfl ?_
  refine m_iload_n hx hb hL dX6_read_1 rfl ?_
  refine m_iload_n hx hb hL dX6_read_2 rfl ?_
  refine m_iload_n hx hb hL dX6_read_3 rfl ?_
  refine m_iload_n hx hb hL dX6_read_4 rfl ?_
  refine r_call hC X hR hf (k_X6_hasField (a := x) (b := y) (r := y) (i := i) hR hI (by omega) (by omega) (by omega) (by omega)) VX6_130 rfl ⟨by decide, by decide⟩ ⟨by decide, by decide⟩ hL.1 rfl (Nat.le_of_ble_eq_true rfl) dX6_read_5 (fun μ H locs X hR hf => ?_)
  have q5 := rHF_b A x y y i
  have hI := hI.u0 0 (v := (rHF A x y y i)) ⟨by omega, by omega⟩
  by_cases g5 : (rHF A x y y i) = 0
  · rw [bZ_t g5]
    rw [g5] at hR hI
    obtain ⟨k1, k2, k3, k4⟩ := rHF_0 g5
    have k5 : (0 : Int) ≤ A 9 (A 14 (y : Int).toNat).toNat ∧ A 9 (A 14 (y : Int).toNat).toNat ≤ 22 := hI.b9 (A 14 (y : Int).toNat).toNat
    refine m_if_ne (tgt := 13) hx hb dX6_read_8 (by decide) (by omega) (fun c8 => ?_) (fun c8 => absurd c8 (by omega))
    refine m_aload_n hx hb hL dX6_read_13 rfl ?_
    refine r_geta hC X hR FX6_41 rfl rfl dX6_read_14 ?_
    refine m_iload_n hx hb hL dX6_read_17 rfl ?_
    refine m_aload_n hx hb hL dX6_read_18 rfl ?_
    refine r_geta hC X hR FX6_32 rfl rfl dX6_read_19 ?_
    refine lv_bipush (v := iv 21) hx hb dX6_read_22 (by decide +kernel) ?_
    refine m_aload_n hx hb hL dX6_read_24 rfl ?_
    refine r_geta hC X hR FX6_41 rfl rfl dX6_read_25 ?_
    refine m_iload_n hx hb hL dX6_read_28 rfl ?_
    refine r_iald (x := y) (w := (A 14 (y : Int).toNat)) hC X hR 14 rfl rfl (by omega) (by change _ < ((10 : Nat) : Int); omega) rfl dX6_read_29 ?_
    have q1 : (-1 : Int) ≤ (A 14 (y : Int).toNat) ∧ (A 14 (y : Int).toNat) ≤ 619 := hI.b14 (y : Int).toNat
    refine m_imul hx hb dX6_read_30 ?_
    refine m_iload_n hx hb hL dX6_read_31 rfl ?_
    refine m_iadd hx hb dX6_read_32 ?_
    refine r_iald (x := ((21 * (A 14 (y : Int).toNat)) + i)) (w := (A 11 (((21 * (A 14 (y : Int).toNat)) + i) : Int).toNat)) hC X hR 11 rfl rfl (by omega) (by change _ < ((13020 : Nat) : Int); omega) rfl dX6_read_33 ?_
    have q2 : (-1 : Int) ≤ (A 11 (((21 * (A 14 (y : Int).toNat)) + i) : Int).toNat) ∧ (A 11 (((21 * (A 14 (y : Int).toNat)) + i) : Int).toNat) ≤ 619 := hI.b11 (((21 * (A 14 (y : Int).toNat)) + i) : Int).toNat
    refine r_iast (x := x) (v := (A 11 (((21 * (A 14 (y : Int).toNat)) + i) : Int).toNat)) hC X hR 14 rfl rfl (by omega) (by change _ < ((10 : Nat) : Int); omega) dX6_read_34 (fun H locs X hR => ?_)
    have hf := hf.a 14 (x : Int).toNat (iv (A 11 (((21 * (A 14 (y : Int).toNat)) + i) : Int).toNat))
    have hI := hI.u14 (x : Int).toNat (v := (A 11 (((21 * (A 14 (y : Int).toNat)) + i) : Int).toNat)) ⟨by omega, by omega⟩
    refine m_aload_n hx hb hL dX6_read_35 rfl ?_
    refine m_aload_n hx hb hL dX6_read_36 rfl ?_
    refine r_geta hC X hR FX6_41 rfl rfl dX6_read_37 ?_
    refine m_iload_n hx hb hL dX6_read_40 rfl ?_
    refine r_iald (x := x) (w := (A 11 (((21 * (A 14 (y : Int).toNat)) + i) : Int).toNat)) hC X hR 14 rfl rfl (by omega) (by change _ < ((10 : Nat) : Int); omega) (by simp [up]) dX6_read_41 ?_
    refine r_call hC X hR hf (k_X6_tagOf (x := (A 11 (((21 * (A 14 (y : Int).toNat)) + i) : Int).toNat)) hR hI (by omega)) VX6_134 rfl ⟨by decide, by decide⟩ ⟨by decide, by decide⟩ hL.1 rfl (Nat.le_of_ble_eq_true rfl) dX6_read_42 (fun μ H locs X hR hf => ?_)
    exact r_iret hC X hR hf hr hlk (by unfold rRead; simp [up_up, up_s, up_k, g5]) (by unfold rReadV; simp [up_up, up_s, up_k, rTagOf_u, g5]) dX6_read_45
  · rw [bZ_f g5]
    refine m_if_ne (tgt := 13) hx hb dX6_read_8 (by decide) (by omega) (fun c8 => absurd c8 (by omega)) (fun c8 => ?_)
    refine lv_iconst (v := iv 0) hx hb dX6_read_11 rfl ?_
    exact r_iret hC X hR hf hr hlk (by unfold rRead; simp [up_up, up_s, up_k, g5]) (by unfold rReadV; simp [up_up, up_s, up_k, rTagOf_u, g5]) dX6_read_12

set_option maxHeartbeats 4000000 in
theorem k_X6_tag {G : mG} {l : Launch} {z : Nat} {ρ : Nat → Nat} {μ0 : mM} {A : rS} {x : Int} (hR : RR A μ0) (hI : RI A) (hx1 : rng x) : MR G l yX6_tag cX6_tag 2 (some .int) 1 22 z ρ [.ref (ρ 6), .int (iv x)] μ0 (some (.int (iv (rTagV A x)))) (up A 0 0 (rTagT A x)) := by
  refine MR.of hR (by decide) (by simp [Value.category]) (Nat.le_of_ble_eq_true rfl) (Nat.le_of_ble_eq_true rfl) ?_
  intro p e s m args below meth c ls H locs μ hC hx hb hr hlk X hR hf hL
  refine m_aload_n hx hb hL dX6_tag_0 rfl ?_
  refine m_iload_n hx hb hL dX6_tag_1 rfl ?_
  refine r_callS hC X hR hf (k_X6_isRegister (x := x) hR hI (by omega)) VX6_117 rfl ⟨by decide, by decide⟩ ⟨by decide, by decide⟩ hL.1 rfl (Nat.le_of_ble_eq_true rfl) dX6_tag_2 (fun μ H locs X hR hf => ?_)
  by_cases g2 : rReg x
  · rw [show rIsReg x = 1 from bZ_t g2]
    refine m_iload_n hx hb hL dX6_tag_5 rfl ?_
    refine r_callS hC X hR hf (k_X6_isRegister (x := x) hR hI (by omega)) VX6_117 rfl ⟨by decide, by decide⟩ ⟨by decide, by decide⟩ hL.1 rfl (Nat.le_of_ble_eq_true rfl) dX6_tag_6 (fun μ H locs X hR hf => ?_)
    rw [show rIsReg x = 1 from bZ_t g2]
    refine m_if_eq (tgt := 22) hx hb dX6_tag_9 (by decide) (by omega) (fun c9 => absurd c9 (by omega)) (fun c9 => ?_)
    refine m_aload_n hx hb hL dX6_tag_12 rfl ?_
    refine r_geta hC X hR FX6_41 rfl rfl dX6_tag_13 ?_
    refine m_iload_n hx hb hL dX6_tag_16 rfl ?_
    refine r_iald (x := x) (w := (A 14 (x : Int).toNat)) hC X hR 14 rfl rfl (by omega) (by change _ < ((10 : Nat) : Int); omega) rfl dX6_tag_17 ?_
    have q1 : (-1 : Int) ≤ (A 14 (x : Int).toNat) ∧ (A 14 (x : Int).toNat) ≤ 619 := hI.b14 (x : Int).toNat
    refine lv_iconst (v := iv (-1)) hx hb dX6_tag_18 rfl ?_
    refine m_icmp_eq (tgt := 26) hx hb dX6_tag_19 (by decide) (by omega) (by omega) (fun c19 => ?_) (fun c19 => ?_)
    · refine lv_iconst (v := iv 0) hx hb dX6_tag_26 rfl ?_
      refine r_call hC X hR hf (k_X6_good (x := 1) (y := 0) hR hI (by omega) (by omega)) VX6_120 rfl ⟨by decide, by decide⟩ ⟨by decide, by decide⟩ hL.1 rfl (Nat.le_of_ble_eq_true rfl) dX6_tag_27 (fun μ H locs X hR hf => ?_)
      have hR : RR (up A 0 0 2) μ := hR
      have hI : RI (up A 0 0 2) := hI.u0 0 (v := 2) ⟨by omega, by omega⟩
      rw [show bZ (rThr 1 0 = 0) = 0 by decide]
      refine m_if_eq (tgt := 47) hx hb dX6_tag_30 (by decide) (by omega) (fun c30 => ?_) (fun c30 => absurd c30 (by omega))
      refine lv_iconst (v := iv 0) hx hb dX6_tag_47 rfl ?_
      exact r_iret hC X hR hf hr hlk (by rw [(show rTagT A x = 2 by (unfold rTagT; (first | rw [if_pos (by omega)] | rw [if_neg (by omega)]); (try (first | rw [if_pos (by omega)] | rw [if_neg (by omega)]))))]) (by unfold rTagV; rw [(show rTagT A x = 2 by (unfold rTagT; (first | rw [if_pos (by omega)] | rw [if_neg (by omega)]); (try (first | rw [if_pos (by omega)] | rw [if_neg (by omega)]))))]; simp) dX6_tag_48
    · refine lv_iconst (v := iv 1) hx hb dX6_tag_22 rfl ?_
      refine lv_goto (tgt := 27) hx hb dX6_tag_23 (by decide) ?_
      refine r_call hC X hR hf (k_X6_good (x := 1) (y := 1) hR hI (by omega) (by omega)) VX6_120 rfl ⟨by decide, by decide⟩ ⟨by decide, by decide⟩ hL.1 rfl (Nat.le_of_ble_eq_true rfl) dX6_tag_27 (fun μ H locs X hR hf => ?_)
      have hR : RR (up A 0 0 0) μ := hR
      have hI : RI (up A 0 0 0) := hI.u0 0 (v := 0) ⟨by omega, by omega⟩
      rw [show bZ (rThr 1 1 = 0) = 1 by decide]
      refine m_if_eq (tgt := 47) hx hb dX6_tag_30 (by decide) (by omega) (fun c30 => absurd c30 (by omega)) (fun c30 => ?_)
      refine m_aload_n hx hb hL dX6_tag_33 rfl ?_
      refine r_geta hC X hR FX6_29 rfl rfl dX6_tag_34 ?_
      refine m_aload_n hx hb hL dX6_tag_37 rfl ?_
      refine r_geta hC X hR FX6_41 rfl rfl dX6_tag_38 ?_
      refine m_iload_n hx hb hL dX6_tag_41 rfl ?_
      refine r_iald (x := x) (w := (A 14 (x : Int).toNat)) hC X hR 14 rfl rfl (by omega) (by change _ < ((10 : Nat) : Int); omega) rfl dX6_tag_42 ?_
      have q2 : (-1 : Int) ≤ (A 14 (x : Int).toNat) ∧ (A 14 (x : Int).toNat) ≤ 619 := hI.b14 (x : Int).toNat
      refine r_iald (x := (A 14 (x : Int).toNat)) (w := (A 10 ((A 14 (x : Int).toNat) : Int).toNat)) hC X hR 10 rfl rfl (by omega) (by change _ < ((620 : Nat) : Int); omega) rfl dX6_tag_43 ?_
      have q3 : (-2147483648 : Int) ≤ (A 10 ((A 14 (x : Int).toNat) : Int).toNat) ∧ (A 10 ((A 14 (x : Int).toNat) : Int).toNat) ≤ 2147483647 := hI.b10 ((A 14 (x : Int).toNat) : Int).toNat
      refine lv_goto (tgt := 48) hx hb dX6_tag_44 (by decide) ?_
      exact r_iret hC X hR hf hr hlk (by rw [(show rTagT A x = 0 by (unfold rTagT; (first | rw [if_pos (by omega)] | rw [if_neg (by omega)]); (try (first | rw [if_pos (by omega)] | rw [if_neg (by omega)]))))]) (by unfold rTagV; rw [(show rTagT A x = 0 by (unfold rTagT; (first | rw [if_pos (by omega)] | rw [if_neg (by omega)]); (try (first | rw [if_pos (by omega)] | rw [if_neg (by omega)]))))]; simp) dX6_tag_48
  · rw [show rIsReg x = 0 from bZ_f g2]
    refine m_iload_n hx hb hL dX6_tag_5 rfl ?_
    refine r_callS hC X hR hf (k_X6_isRegister (x := x) hR hI (by omega)) VX6_117 rfl ⟨by decide, by decide⟩ ⟨by decide, by decide⟩ hL.1 rfl (Nat.le_of_ble_eq_true rfl) dX6_tag_6 (fun μ H locs X hR hf => ?_)
    rw [show rIsReg x = 0 from bZ_f g2]
    refine m_if_eq (tgt := 22) hx hb dX6_tag_9 (by decide) (by omega) (fun c9 => ?_) (fun c9 => absurd c9 (by omega))
    refine lv_iconst (v := iv 1) hx hb dX6_tag_22 rfl ?_
    refine lv_goto (tgt := 27) hx hb dX6_tag_23 (by decide) ?_
    refine r_call hC X hR hf (k_X6_good (x := 0) (y := 1) hR hI (by omega) (by omega)) VX6_120 rfl ⟨by decide, by decide⟩ ⟨by decide, by decide⟩ hL.1 rfl (Nat.le_of_ble_eq_true rfl) dX6_tag_27 (fun μ H locs X hR hf => ?_)
    have hR : RR (up A 0 0 1) μ := hR
    have hI : RI (up A 0 0 1) := hI.u0 0 (v := 1) ⟨by omega, by omega⟩
    rw [show bZ (rThr 0 1 = 0) = 0 by decide]
    refine m_if_eq (tgt := 47) hx hb dX6_tag_30 (by decide) (by omega) (fun c30 => ?_) (fun c30 => absurd c30 (by omega))
    refine lv_iconst (v := iv 0) hx hb dX6_tag_47 rfl ?_
    exact r_iret hC X hR hf hr hlk (by rw [(show rTagT A x = 1 by (unfold rTagT; (first | rw [if_pos (by omega)] | rw [if_neg (by omega)]); (try (first | rw [if_pos (by omega)] | rw [if_neg (by omega)]))))]) (by unfold rTagV; rw [(show rTagT A x = 1 by (unfold rTagT; (first | rw [if_pos (by omega)] | rw [if_neg (by omega)]); (try (first | rw [if_pos (by omega)] | rw [if_neg (by omega)]))))]; simp) dX6_tag_48

set_option maxHeartbeats 4000000 in
theorem k_X6_same {G : mG} {l : Launch} {z : Nat} {ρ : Nat → Nat} {μ0 : mM} {A : rS} {x : Int} {y : Int} (hR : RR A μ0) (hI : RI A) (hx1 : rng x) (hy1 : rng y) : MR G l yX6_same cX6_same 3 (some .boolean) 1 22 z ρ [.ref (ρ 6), .int (iv x), .int (iv y)] μ0 (some (.int (iv (rSameV A x y)))) (up A 0 0 (if rReg x ∧ rReg y then 0 else 1)) := by
  refine MR.of hR (by decide) (by simp [Value.category]) (Nat.le_of_ble_eq_true rfl) (Nat.le_of_ble_eq_true rfl) ?_
  intro p e s m args below meth c ls H locs μ hC hx hb hr hlk X hR hf hL
  refine m_aload_n hx hb hL dX6_same_0 rfl ?_
  refine m_iload_n hx hb hL dX6_same_1 rfl ?_
  refine r_callS hC X hR hf (k_X6_isRegister (x := x) hR hI (by omega)) VX6_117 rfl ⟨by decide, by decide⟩ ⟨by decide, by decide⟩ hL.1 rfl (Nat.le_of_ble_eq_true rfl) dX6_same_2 (fun μ H locs X hR hf => ?_)
  by_cases g2 : rReg x
  · rw [show rIsReg x = 1 from bZ_t g2]
    refine m_if_eq (tgt := 19) hx hb dX6_same_5 (by decide) (by omega) (fun c5 => absurd c5 (by omega)) (fun c5 => ?_)
    refine m_iload_n hx hb hL dX6_same_8 rfl ?_
    refine r_callS hC X hR hf (k_X6_isRegister (x := y) hR hI (by omega)) VX6_117 rfl ⟨by decide, by decide⟩ ⟨by decide, by decide⟩ hL.1 rfl (Nat.le_of_ble_eq_true rfl) dX6_same_9 (fun μ H locs X hR hf => ?_)
    by_cases g9 : rReg y
    · rw [show rIsReg y = 1 from bZ_t g9]
      refine m_if_eq (tgt := 19) hx hb dX6_same_12 (by decide) (by omega) (fun c12 => absurd c12 (by omega)) (fun c12 => ?_)
      refine lv_iconst (v := iv 1) hx hb dX6_same_15 rfl ?_
      refine lv_goto (tgt := 20) hx hb dX6_same_16 (by decide) ?_
      refine lv_iconst (v := iv 1) hx hb dX6_same_20 rfl ?_
      refine r_call hC X hR hf (k_X6_good (x := 1) (y := 1) hR hI (by omega) (by omega)) VX6_120 rfl ⟨by decide, by decide⟩ ⟨by decide, by decide⟩ hL.1 rfl (Nat.le_of_ble_eq_true rfl) dX6_same_21 (fun μ H locs X hR hf => ?_)
      have hR : RR (up A 0 0 0) μ := hR
      have hI : RI (up A 0 0 0) := hI.u0 0 (v := 0) ⟨by omega, by omega⟩
      rw [show bZ (rThr 1 1 = 0) = 1 by decide]
      refine m_if_eq (tgt := 46) hx hb dX6_same_24 (by decide) (by omega) (fun c24 => absurd c24 (by omega)) (fun c24 => ?_)
      refine m_aload_n hx hb hL dX6_same_27 rfl ?_
      refine r_geta hC X hR FX6_41 rfl rfl dX6_same_28 ?_
      refine m_iload_n hx hb hL dX6_same_31 rfl ?_
      refine r_iald (x := x) (w := (A 14 (x : Int).toNat)) hC X hR 14 rfl rfl (by omega) (by change _ < ((10 : Nat) : Int); omega) rfl dX6_same_32 ?_
      have q1 : (-1 : Int) ≤ (A 14 (x : Int).toNat) ∧ (A 14 (x : Int).toNat) ≤ 619 := hI.b14 (x : Int).toNat
      refine m_aload_n hx hb hL dX6_same_33 rfl ?_
      refine r_geta hC X hR FX6_41 rfl rfl dX6_same_34 ?_
      refine m_iload_n hx hb hL dX6_same_37 rfl ?_
      refine r_iald (x := y) (w := (A 14 (y : Int).toNat)) hC X hR 14 rfl rfl (by omega) (by change _ < ((10 : Nat) : Int); omega) rfl dX6_same_38 ?_
      have q2 : (-1 : Int) ≤ (A 14 (y : Int).toNat) ∧ (A 14 (y : Int).toNat) ≤ 619 := hI.b14 (y : Int).toNat
      refine m_icmp_ne (tgt := 46) hx hb dX6_same_39 (by decide) (by omega) (by omega) (fun c39 => ?_) (fun c39 => ?_)
      · refine lv_iconst (v := iv 0) hx hb dX6_same_46 rfl ?_
        exact r_zret hC X hR hf hr hlk (by (first | rw [if_pos (by omega)] | rw [if_neg (by omega)])) (by simp [rSameV, bZ, up_up, up_s, up_k, g2, g9, c39]) (by omega) dX6_same_47
      · refine lv_iconst (v := iv 1) hx hb dX6_same_42 rfl ?_
        refine lv_goto (tgt := 47) hx hb dX6_same_43 (by decide) ?_
        exact r_zret hC X hR hf hr hlk (by (first | rw [if_pos (by omega)] | rw [if_neg (by omega)])) (by simp [rSameV, bZ, up_up, up_s, up_k, g2, g9, c39]) (by omega) dX6_same_47
    · rw [show rIsReg y = 0 from bZ_f g9]
      refine m_if_eq (tgt := 19) hx hb dX6_same_12 (by decide) (by omega) (fun c12 => ?_) (fun c12 => absurd c12 (by omega))
      refine lv_iconst (v := iv 0) hx hb dX6_same_19 rfl ?_
      refine lv_iconst (v := iv 1) hx hb dX6_same_20 rfl ?_
      refine r_call hC X hR hf (k_X6_good (x := 0) (y := 1) hR hI (by omega) (by omega)) VX6_120 rfl ⟨by decide, by decide⟩ ⟨by decide, by decide⟩ hL.1 rfl (Nat.le_of_ble_eq_true rfl) dX6_same_21 (fun μ H locs X hR hf => ?_)
      have hR : RR (up A 0 0 1) μ := hR
      have hI : RI (up A 0 0 1) := hI.u0 0 (v := 1) ⟨by omega, by omega⟩
      rw [show bZ (rThr 0 1 = 0) = 0 by decide]
      refine m_if_eq (tgt := 46) hx hb dX6_same_24 (by decide) (by omega) (fun c24 => ?_) (fun c24 => absurd c24 (by omega))
      refine lv_iconst (v := iv 0) hx hb dX6_same_46 rfl ?_
      exact r_zret hC X hR hf hr hlk (by (first | rw [if_pos (by omega)] | rw [if_neg (by omega)])) (by simp [rSameV, bZ, up_up, up_s, up_k, g2, g9]) (by omega) dX6_same_47
  · rw [show rIsReg x = 0 from bZ_f g2]
    refine m_if_eq (tgt := 19) hx hb dX6_same_5 (by decide) (by omega) (fun c5 => ?_) (fun c5 => absurd c5 (by omega))
    refine lv_iconst (v := iv 0) hx hb dX6_same_19 rfl ?_
    refine lv_iconst (v := iv 1) hx hb dX6_same_20 rfl ?_
    refine r_call hC X hR hf (k_X6_good (x := 0) (y := 1) hR hI (by omega) (by omega)) VX6_120 rfl ⟨by decide, by decide⟩ ⟨by decide, by decide⟩ hL.1 rfl (Nat.le_of_ble_eq_true rfl) dX6_same_21 (fun μ H locs X hR hf => ?_)
    have hR : RR (up A 0 0 1) μ := hR
    have hI : RI (up A 0 0 1) := hI.u0 0 (v := 1) ⟨by omega, by omega⟩
    rw [show bZ (rThr 0 1 = 0) = 0 by decide]
    refine m_if_eq (tgt := 46) hx hb dX6_same_24 (by decide) (by omega) (fun c24 => ?_) (fun c24 => absurd c24 (by omega))
    refine lv_iconst (v := iv 0) hx hb dX6_same_46 rfl ?_
    exact r_zret hC X hR hf hr hlk (by (first | rw [if_pos (by omega)] | rw [if_neg (by omega)])) (by simp [rSameV, bZ, up_up, up_s, up_k, g2]) (by omega) dX6_same_47

set_option maxHeartbeats 4000000 in
theorem k_X6_where {G : mG} {l : Launch} {z : Nat} {ρ : Nat → Nat} {μ0 : mM} {A : rS} {x : Int} (hR : RR A μ0) (hI : RI A) (hx1 : rng x) : MR G l yX6_where cX6_where 2 (some .int) 1 22 z ρ [.ref (ρ 6), .int (iv x)] μ0 (some (.int (iv (rWhereV A x)))) (up A 0 0 (if rReg x then 0 else 1)) := by
  refine MR.of hR (by decide) (by simp [Value.category]) (Nat.le_of_ble_eq_true rfl) (Nat.le_of_ble_eq_true rfl) ?_
  intro p e s m args below meth c ls H locs μ hC hx hb hr hlk X hR hf hL
  refine m_aload_n hx hb hL dX6_where_0 rfl ?_
  refine m_iload_n hx hb hL dX6_where_1 rfl ?_
  refine r_callS hC X hR hf (k_X6_isRegister (x := x) hR hI (by omega)) VX6_117 rfl ⟨by decide, by decide⟩ ⟨by decide, by decide⟩ hL.1 rfl (Nat.le_of_ble_eq_true rfl) dX6_where_2 (fun μ H locs X hR hf => ?_)
  by_cases g2 : rReg x
  · rw [show rIsReg x = 1 from bZ_t g2]
    refine lv_iconst (v := iv 1) hx hb dX6_where_5 rfl ?_
    refine r_call hC X hR hf (k_X6_good (x := 1) (y := 1) hR hI (by omega) (by omega)) VX6_120 rfl ⟨by decide, by decide⟩ ⟨by decide, by decide⟩ hL.1 rfl (Nat.le_of_ble_eq_true rfl) dX6_where_6 (fun μ H locs X hR hf => ?_)
    have hR : RR (up A 0 0 0) μ := hR
    have hI : RI (up A 0 0 0) := hI.u0 0 (v := 0) ⟨by omega, by omega⟩
    rw [show bZ (rThr 1 1 = 0) = 1 by decide]
    refine m_if_eq (tgt := 25) hx hb dX6_where_9 (by decide) (by omega) (fun c9 => absurd c9 (by omega)) (fun c9 => ?_)
    refine m_aload_n hx hb hL dX6_where_12 rfl ?_
    refine m_aload_n hx hb hL dX6_where_13 rfl ?_
    refine r_geta hC X hR FX6_41 rfl rfl dX6_where_14 ?_
    refine m_iload_n hx hb hL dX6_where_17 rfl ?_
    refine r_iald (x := x) (w := (A 14 (x : Int).toNat)) hC X hR 14 rfl rfl (by omega) (by change _ < ((10 : Nat) : Int); omega) rfl dX6_where_18 ?_
    have q1 : (-1 : Int) ≤ (A 14 (x : Int).toNat) ∧ (A 14 (x : Int).toNat) ≤ 619 := hI.b14 (x : Int).toNat
    refine r_call hC X hR hf (k_X6_place (x := (A 14 (x : Int).toNat)) hR hI (by omega)) VX6_90 rfl ⟨by decide, by decide⟩ ⟨by decide, by decide⟩ hL.1 rfl (Nat.le_of_ble_eq_true rfl) dX6_where_19 (fun μ H locs X hR hf => ?_)
    have hq19 := rPlace_b hI ((A 14 (x : Int).toNat))
    refine lv_goto (tgt := 26) hx hb dX6_where_22 (by decide) ?_
    exact r_iret hC X hR hf hr hlk (by (first | rw [if_pos (by omega)] | rw [if_neg (by omega)])) (by simp [rWhereV, rPlace_u, up_up, up_s, up_k, g2]) dX6_where_26
  · rw [show rIsReg x = 0 from bZ_f g2]
    refine lv_iconst (v := iv 1) hx hb dX6_where_5 rfl ?_
    refine r_call hC X hR hf (k_X6_good (x := 0) (y := 1) hR hI (by omega) (by omega)) VX6_120 rfl ⟨by decide, by decide⟩ ⟨by decide, by decide⟩ hL.1 rfl (Nat.le_of_ble_eq_true rfl) dX6_where_6 (fun μ H locs X hR hf => ?_)
    have hR : RR (up A 0 0 1) μ := hR
    have hI : RI (up A 0 0 1) := hI.u0 0 (v := 1) ⟨by omega, by omega⟩
    rw [show bZ (rThr 0 1 = 0) = 0 by decide]
    refine m_if_eq (tgt := 25) hx hb dX6_where_9 (by decide) (by omega) (fun c9 => ?_) (fun c9 => absurd c9 (by omega))
    refine lv_iconst (v := iv 0) hx hb dX6_where_25 rfl ?_
    exact r_iret hC X hR hf hr hlk (by (first | rw [if_pos (by omega)] | rw [if_neg (by omega)])) (by simp [rWhereV, rPlace_u, up_up, up_s, up_k, g2]) dX6_where_26

set_option maxHeartbeats 4000000 in
theorem k_X6_region {G : mG} {l : Launch} {z : Nat} {ρ : Nat → Nat} {μ0 : mM} {A : rS} {x : Int} {y : Int} (hR : RR A μ0) (hI : RI A) (hx1 : rng x) (hy1 : rng y) : MR G l yX6_region cX6_region 3 (some .int) 1 23 z ρ [.ref (ρ 6), .int (iv x), .int (iv y)] μ0 (some (.int (iv (rRegionV A x y)))) (up A 0 0 (if 0 ≤ x ∧ x < A 1 0 then 0 else 1)) := by
  refine MR.of hR (by decide) (by simp [Value.category]) (Nat.le_of_ble_eq_true rfl) (Nat.le_of_ble_eq_true rfl) ?_
  intro p e s m args below meth c ls H locs μ hC hx hb hr hlk X hR hf hL
  refine m_aload_n hx hb hL dX6_region_0 rfl ?_
  refine m_iload_n hx hb hL dX6_region_1 rfl ?_
  refine m_if_lt (tgt := 17) hx hb dX6_region_2 (by decide) (by omega) (fun c2 => ?_) (fun c2 => ?_)
  · refine lv_iconst (v := iv 0) hx hb dX6_region_17 rfl ?_
    refine lv_iconst (v := iv 1) hx hb dX6_region_18 rfl ?_
    refine r_call hC X hR hf (k_X6_good (x := 0) (y := 1) hR hI (by omega) (by omega)) VX6_120 rfl ⟨by decide, by decide⟩ ⟨by decide, by decide⟩ hL.1 rfl (Nat.le_of_ble_eq_true rfl) dX6_region_19 (fun μ H locs X hR hf => ?_)
    have hR : RR (up A 0 0 1) μ := hR
    have hI : RI (up A 0 0 1) := hI.u0 0 (v := 1) ⟨by omega, by omega⟩
    rw [show bZ (rThr 0 1 = 0) = 0 by decide]
    refine m_if_ne (tgt := 27) hx hb dX6_region_22 (by decide) (by omega) (fun c22 => absurd c22 (by omega)) (fun c22 => ?_)
    refine lv_iconst (v := iv 0) hx hb dX6_region_25 rfl ?_
    exact r_iret hC X hR hf hr hlk (by (first | rw [if_pos (by omega)] | rw [if_neg (by omega)])) (by unfold rRegionV; (first | rw [if_pos (by omega)] | rw [if_neg (by omega)]); (try (first | rw [if_pos (by omega)] | rw [if_neg (by omega)])); (try (first | rw [if_pos (by omega)] | rw [if_neg (by omega)])); (try (first | rw [if_pos (by omega)] | rw [if_neg (by omega)])); (try rw [rSeenIn_u])) dX6_region_26
  · refine m_iload_n hx hb hL dX6_region_5 rfl ?_
    refine m_aload_n hx hb hL dX6_region_6 rfl ?_
    refine r_gets (w := (A 1 0)) hC X hR FX6_47 rfl rfl rfl dX6_region_7 ?_
    have q1 : (3 : Int) ≤ (A 1 0) ∧ (A 1 0) ≤ 16 := hI.b1 0
    refine m_icmp_ge (tgt := 17) hx hb dX6_region_10 (by decide) (by omega) (by omega) (fun c10 => ?_) (fun c10 => ?_)
    · refine lv_iconst (v := iv 0) hx hb dX6_region_17 rfl ?_
      refine lv_iconst (v := iv 1) hx hb dX6_region_18 rfl ?_
      refine r_call hC X hR hf (k_X6_good (x := 0) (y := 1) hR hI (by omega) (by omega)) VX6_120 rfl ⟨by decide, by decide⟩ ⟨by decide, by decide⟩ hL.1 rfl (Nat.le_of_ble_eq_true rfl) dX6_region_19 (fun μ H locs X hR hf => ?_)
      have hR : RR (up A 0 0 1) μ := hR
      have hI : RI (up A 0 0 1) := hI.u0 0 (v := 1) ⟨by omega, by omega⟩
      rw [show bZ (rThr 0 1 = 0) = 0 by decide]
      refine m_if_ne (tgt := 27) hx hb dX6_region_22 (by decide) (by omega) (fun c22 => absurd c22 (by omega)) (fun c22 => ?_)
      refine lv_iconst (v := iv 0) hx hb dX6_region_25 rfl ?_
      exact r_iret hC X hR hf hr hlk (by (first | rw [if_pos (by omega)] | rw [if_neg (by omega)])) (by unfold rRegionV; (first | rw [if_pos (by omega)] | rw [if_neg (by omega)]); (try (first | rw [if_pos (by omega)] | rw [if_neg (by omega)])); (try (first | rw [if_pos (by omega)] | rw [if_neg (by omega)])); (try (first | rw [if_pos (by omega)] | rw [if_neg (by omega)])); (try rw [rSeenIn_u])) dX6_region_26
    · refine lv_iconst (v := iv 1) hx hb dX6_region_13 rfl ?_
      refine lv_goto (tgt := 18) hx hb dX6_region_14 (by decide) ?_
      refine lv_iconst (v := iv 1) hx hb dX6_region_18 rfl ?_
      refine r_call hC X hR hf (k_X6_good (x := 1) (y := 1) hR hI (by omega) (by omega)) VX6_120 rfl ⟨by decide, by decide⟩ ⟨by decide, by decide⟩ hL.1 rfl (Nat.le_of_ble_eq_true rfl) dX6_region_19 (fun μ H locs X hR hf => ?_)
      have hR : RR (up A 0 0 0) μ := hR
      have hI : RI (up A 0 0 0) := hI.u0 0 (v := 0) ⟨by omega, by omega⟩
      rw [show bZ (rThr 1 1 = 0) = 1 by decide]
      refine m_if_ne (tgt := 27) hx hb dX6_region_22 (by decide) (by omega) (fun c22 => ?_) (fun c22 => absurd c22 (by omega))
      refine m_iload_n hx hb hL dX6_region_27 rfl ?_
      refine m_if_ne (tgt := 40) hx hb dX6_region_28 (by decide) (by omega) (fun c28 => ?_) (fun c28 => ?_)
      · refine m_iload_n hx hb hL dX6_region_40 rfl ?_
        refine lv_iconst (v := iv 1) hx hb dX6_region_41 rfl ?_
        refine m_icmp_ne (tgt := 54) hx hb dX6_region_42 (by decide) (by omega) (by omega) (fun c42 => ?_) (fun c42 => ?_)
        · refine m_iload_n hx hb hL dX6_region_54 rfl ?_
          refine lv_iconst (v := iv 2) hx hb dX6_region_55 rfl ?_
          refine m_icmp_ne (tgt := 67) hx hb dX6_region_56 (by decide) (by omega) (by omega) (fun c56 => ?_) (fun c56 => ?_)
          · refine lv_iconst (v := iv (-1)) hx hb dX6_region_67 rfl ?_
            exact r_iret hC X hR hf hr hlk (by (first | rw [if_pos (by omega)] | rw [if_neg (by omega)])) (by unfold rRegionV; (first | rw [if_pos (by omega)] | rw [if_neg (by omega)]); (try (first | rw [if_pos (by omega)] | rw [if_neg (by omega)])); (try (first | rw [if_pos (by omega)] | rw [if_neg (by omega)])); (try (first | rw [if_pos (by omega)] | rw [if_neg (by omega)])); (try rw [rSeenIn_u])) dX6_region_68
          · refine m_aload_n hx hb hL dX6_region_59 rfl ?_
            refine m_iload_n hx hb hL dX6_region_60 rfl ?_
            refine r_call hC X hR hf (k_X6_seenIn (x := x) hR hI (by omega)) VX6_73 rfl ⟨by decide, by decide⟩ ⟨by decide, by decide⟩ hL.1 rfl (Nat.le_of_ble_eq_true rfl) dX6_region_61 (fun μ H locs X hR hf => ?_)
            have hq61 := rSeenIn_b hI x
            refine lv_goto (tgt := 68) hx hb dX6_region_64 (by decide) ?_
            exact r_iret hC X hR hf hr hlk (by (first | rw [if_pos (by omega)] | rw [if_neg (by omega)])) (by unfold rRegionV; (first | rw [if_pos (by omega)] | rw [if_neg (by omega)]); (try (first | rw [if_pos (by omega)] | rw [if_neg (by omega)])); (try (first | rw [if_pos (by omega)] | rw [if_neg (by omega)])); (try (first | rw [if_pos (by omega)] | rw [if_neg (by omega)])); (try rw [rSeenIn_u])) dX6_region_68
        · refine m_aload_n hx hb hL dX6_region_45 rfl ?_
          refine r_geta hC X hR FX6_13 rfl rfl dX6_region_46 ?_
          refine m_iload_n hx hb hL dX6_region_49 rfl ?_
          refine r_iald (x := x) (w := (A 4 (x : Int).toNat)) hC X hR 4 rfl rfl (by omega) (by change _ < ((16 : Nat) : Int); omega) rfl dX6_region_50 ?_
          have q2 : (0 : Int) ≤ (A 4 (x : Int).toNat) ∧ (A 4 (x : Int).toNat) ≤ 128 := hI.b4 (x : Int).toNat
          refine lv_goto (tgt := 68) hx hb dX6_region_51 (by decide) ?_
          exact r_iret hC X hR hf hr hlk (by (first | rw [if_pos (by omega)] | rw [if_neg (by omega)])) (by unfold rRegionV; (first | rw [if_pos (by omega)] | rw [if_neg (by omega)]); (try (first | rw [if_pos (by omega)] | rw [if_neg (by omega)])); (try (first | rw [if_pos (by omega)] | rw [if_neg (by omega)])); (try (first | rw [if_pos (by omega)] | rw [if_neg (by omega)])); (try rw [rSeenIn_u])) dX6_region_68
      · refine m_aload_n hx hb hL dX6_region_31 rfl ?_
        refine r_geta hC X hR FX6_7 rfl rfl dX6_region_32 ?_
        refine m_iload_n hx hb hL dX6_region_35 rfl ?_
        refine r_iald (x := x) (w := (A 3 (x : Int).toNat)) hC X hR 3 rfl rfl (by omega) (by change _ < ((16 : Nat) : Int); omega) rfl dX6_region_36 ?_
        have q3 : (0 : Int) ≤ (A 3 (x : Int).toNat) ∧ (A 3 (x : Int).toNat) ≤ 4 := hI.b3 (x : Int).toNat
        refine lv_goto (tgt := 68) hx hb dX6_region_37 (by decide) ?_
        exact r_iret hC X hR hf hr hlk (by (first | rw [if_pos (by omega)] | rw [if_neg (by omega)])) (by unfold rRegionV; (first | rw [if_pos (by omega)] | rw [if_neg (by omega)]); (try (first | rw [if_pos (by omega)] | rw [if_neg (by omega)])); (try (first | rw [if_pos (by omega)] | rw [if_neg (by omega)])); (try (first | rw [if_pos (by omega)] | rw [if_neg (by omega)])); (try rw [rSeenIn_u])) dX6_region_68

set_option maxHeartbeats 4000000 in
theorem k_X6_count {G : mG} {l : Launch} {z : Nat} {ρ : Nat → Nat} {μ0 : mM} {A : rS} {x : Int} (hR : RR A μ0) (hI : RI A) (hx1 : rng x) : MR G l yX6_count cX6_count 2 (some .int) 0 0 z ρ [.ref (ρ 6), .int (iv x)] μ0 (some (.int (iv (rCountV A x)))) (up A 0 0 0) := by
  refine MR.of hR (by decide) (by simp [Value.category]) (Nat.le_of_ble_eq_true rfl) (Nat.le_of_ble_eq_true rfl) ?_
  intro p e s m args below meth c ls H locs μ hC hx hb hr hlk X hR hf hL
  refine m_aload_n hx hb hL dX6_count_0 rfl ?_
  refine lv_iconst (v := iv 0) hx hb dX6_count_1 rfl ?_
  refine r_puts (v := 0) hC X hR FwX6_54 rfl rfl dX6_count_2 (fun H locs X hR => ?_)
  have hf := hf.s 0 (iv 0)
  have hI := hI.u0 0 (v := 0) ⟨by omega, by omega⟩
  refine m_iload_n hx hb hL dX6_count_5 rfl ?_
  refine m_if_ne (tgt := 16) hx hb dX6_count_6 (by decide) (by omega) (fun c6 => ?_) (fun c6 => ?_)
  · refine m_iload_n hx hb hL dX6_count_16 rfl ?_
    refine lv_iconst (v := iv 1) hx hb dX6_count_17 rfl ?_
    refine m_icmp_ne (tgt := 28) hx hb dX6_count_18 (by decide) (by omega) (by omega) (fun c18 => ?_) (fun c18 => ?_)
    · refine m_iload_n hx hb hL dX6_count_28 rfl ?_
      refine lv_iconst (v := iv 2) hx hb dX6_count_29 rfl ?_
      refine m_icmp_ne (tgt := 57) hx hb dX6_count_30 (by decide) (by omega) (by omega) (fun c30 => ?_) (fun c30 => ?_)
      · refine lv_iconst (v := iv (-1)) hx hb dX6_count_57 rfl ?_
        exact r_iret hC X hR hf hr hlk rfl (by simp [rCountV, up_up, up_s, up_k, c6, c18, c30]) dX6_count_58
      · refine m_aload_n hx hb hL dX6_count_33 rfl ?_
        refine r_gets (w := (A 18 0)) hC X hR FX6_70 rfl rfl rfl dX6_count_34 ?_
        have q1 : (0 : Int) ≤ (A 18 0) ∧ (A 18 0) ≤ 3 := hI.b18 0
        refine lv_iconst (v := iv 1) hx hb dX6_count_37 rfl ?_
        refine m_icmp_ne (tgt := 53) hx hb dX6_count_38 (by decide) (by omega) (by omega) (fun c38 => ?_) (fun c38 => ?_)
        · refine lv_iconst (v := iv 0) hx hb dX6_count_53 rfl ?_
          refine lv_goto (tgt := 58) hx hb dX6_count_54 (by decide) ?_
          exact r_iret hC X hR hf hr hlk rfl (by simp [rCountV, up_up, up_s, up_k, c6, c18, c30, c38]) dX6_count_58
        · refine m_aload_n hx hb hL dX6_count_41 rfl ?_
          refine r_gets (w := (A 17 0)) hC X hR FX6_60 rfl rfl rfl dX6_count_42 ?_
          have q2 : (0 : Int) ≤ (A 17 0) ∧ (A 17 0) ≤ 620 := hI.b17 0
          refine m_aload_n hx hb hL dX6_count_45 rfl ?_
          refine r_gets (w := (A 16 0)) hC X hR FX6_63 rfl rfl rfl dX6_count_46 ?_
          have q3 : (0 : Int) ≤ (A 16 0) ∧ (A 16 0) ≤ 620 := hI.b16 0
          refine m_isub hx hb dX6_count_49 ?_
          refine lv_goto (tgt := 58) hx hb dX6_count_50 (by decide) ?_
          exact r_iret hC X hR hf hr hlk rfl (by simp [rCountV, up_up, up_s, up_k, c6, c18, c30, c38]) dX6_count_58
    · refine m_aload_n hx hb hL dX6_count_21 rfl ?_
      refine r_gets (w := (A 21 0)) hC X hR FX6_80 rfl rfl rfl dX6_count_22 ?_
      refine lv_goto (tgt := 58) hx hb dX6_count_25 (by decide) ?_
      exact r_iret hC X hR hf hr hlk rfl (by simp [rCountV, up_up, up_s, up_k, c6, c18]) dX6_count_58
  · refine m_aload_n hx hb hL dX6_count_9 rfl ?_
    refine r_gets (w := (A 20 0)) hC X hR FX6_83 rfl rfl rfl dX6_count_10 ?_
    refine lv_goto (tgt := 58) hx hb dX6_count_13 (by decide) ?_
    exact r_iret hC X hR hf hr hlk rfl (by simp [rCountV, up_up, up_s, up_k, c6]) dX6_count_58

set_option maxHeartbeats 4000000 in
theorem k_X6_write {G : mG} {l : Launch} {z : Nat} {ρ : Nat → Nat} {μ0 : mM} {A : rS} {x : Int} {i : Int} {y : Int} (hR : RR A μ0) (hI : RI A) (hx1 : rng x) (hi1 : rng i) (hy1 : rng y) (h17 : A 17 0 < 620) : MR G l yX6_write cX6_write 6 (some .int) 2 46 z ρ [.ref (ρ 6), .int (iv x), .int (iv i), .int (iv y)] μ0 (some (.int (iv (rWriteV A x i y)))) (rWrite A x i y) := by
  refine MR.of hR (by decide) (by simp [Value.category]) (Nat.le_of_ble_eq_true rfl) (Nat.le_of_ble_eq_true rfl) ?_
  intro p e s m args below meth c ls H locs μ hC hx hb hr hlk X hR hf hL
  refine m_aload_n hx hb hL dX6_write_0 rfl ?_
  refine m_iload_n hx hb hL dX6_write_1 rfl ?_
  refine m_iload_n hx hb hL dX6_write_2 rfl ?_
  refine m_iload_n hx hb hL dX6_write_3 rfl ?_
  refine m_iload_n hx hb hL dX6_write_4 rfl ?_
  refine r_call hC X hR hf (k_X6_hasField (a := x) (b := y) (r := x) (i := i) hR hI (by omega) (by omega) (by omega) (by omega)) VX6_130 rfl ⟨by decide, by decide⟩ ⟨by decide, by decide⟩ hL.1 rfl (Nat.le_of_ble_eq_true rfl) dX6_write_5 (fun μ H locs X hR hf => ?_)
  have q5 := rHF_b A x y x i
  have hI := hI.u0 0 (v := (rHF A x y x i)) ⟨by omega, by omega⟩
  by_cases g5 : (rHF A x y x i) = 0
  · rw [bZ_t g5]
    rw [g5] at hR hI
    obtain ⟨k1, k2, k3, k4⟩ := rHF_0 g5
    have k5 : (0 : Int) ≤ A 9 (A 14 (x : Int).toNat).toNat ∧ A 9 (A 14 (x : Int).toNat).toNat ≤ 22 := hI.b9 (A 14 (x : Int).toNat).toNat
    refine m_if_ne (tgt := 13) hx hb dX6_write_8 (by decide) (by omega) (fun c8 => ?_) (fun c8 => absurd c8 (by omega))
    refine m_aload_n hx hb hL dX6_write_13 rfl ?_
    refine r_geta hC X hR FX6_41 rfl rfl dX6_write_14 ?_
    refine m_iload_n hx hb hL dX6_write_17 rfl ?_
    refine r_iald (x := x) (w := (A 14 (x : Int).toNat)) hC X hR 14 rfl rfl (by omega) (by change _ < ((10 : Nat) : Int); omega) rfl dX6_write_18 ?_
    have q1 : (-1 : Int) ≤ (A 14 (x : Int).toNat) ∧ (A 14 (x : Int).toNat) ≤ 619 := hI.b14 (x : Int).toNat
    refine m_istore hx hb hL dX6_write_19 (Nat.le_of_ble_eq_true rfl) (fun ls hL => ?_)
    refine m_aload_n hx hb hL dX6_write_21 rfl ?_
    refine r_geta hC X hR FX6_32 rfl rfl dX6_write_22 ?_
    refine lv_bipush (v := iv 21) hx hb dX6_write_25 (by decide +kernel) ?_
    refine m_iload hx hb hL dX6_write_27 rfl ?_
    refine m_imul hx hb dX6_write_29 ?_
    refine m_iload_n hx hb hL dX6_write_30 rfl ?_
    refine m_iadd hx hb dX6_write_31 ?_
    refine r_iald (x := ((21 * (A 14 (x : Int).toNat)) + i)) (w := (A 11 (((21 * (A 14 (x : Int).toNat)) + i) : Int).toNat)) hC X hR 11 rfl rfl (by omega) (by change _ < ((13020 : Nat) : Int); omega) rfl dX6_write_32 ?_
    have q2 : (-1 : Int) ≤ (A 11 (((21 * (A 14 (x : Int).toNat)) + i) : Int).toNat) ∧ (A 11 (((21 * (A 14 (x : Int).toNat)) + i) : Int).toNat) ≤ 619 := hI.b11 (((21 * (A 14 (x : Int).toNat)) + i) : Int).toNat
    refine m_istore hx hb hL dX6_write_33 (Nat.le_of_ble_eq_true rfl) (fun ls hL => ?_)
    refine m_aload_n hx hb hL dX6_write_35 rfl ?_
    refine r_gets (w := (A 18 0)) hC X hR FX6_70 rfl rfl rfl dX6_write_36 ?_
    have q3 : (0 : Int) ≤ (A 18 0) ∧ (A 18 0) ≤ 3 := hI.b18 0
    refine lv_iconst (v := iv 1) hx hb dX6_write_39 rfl ?_
    refine m_icmp_ne (tgt := 49) hx hb dX6_write_40 (by decide) (by omega) (by omega) (fun c40 => ?_) (fun c40 => ?_)
    · refine m_aload_n hx hb hL dX6_write_49 rfl ?_
      refine r_gets (w := (A 18 0)) hC X hR FX6_70 rfl rfl rfl dX6_write_50 ?_
      have q4 : (0 : Int) ≤ (A 18 0) ∧ (A 18 0) ≤ 3 := hI.b18 0
      refine lv_iconst (v := iv 2) hx hb dX6_write_53 rfl ?_
      refine m_icmp_ne (tgt := 72) hx hb dX6_write_54 (by decide) (by omega) (by omega) (fun c54 => ?_) (fun c54 => ?_)
      · refine m_aload_n hx hb hL dX6_write_72 rfl ?_
        refine r_geta hC X hR FX6_32 rfl rfl dX6_write_73 ?_
        refine lv_bipush (v := iv 21) hx hb dX6_write_76 (by decide +kernel) ?_
        refine m_iload hx hb hL dX6_write_78 rfl ?_
        refine m_imul hx hb dX6_write_80 ?_
        refine m_iload_n hx hb hL dX6_write_81 rfl ?_
        refine m_iadd hx hb dX6_write_82 ?_
        refine m_aload_n hx hb hL dX6_write_83 rfl ?_
        refine r_geta hC X hR FX6_41 rfl rfl dX6_write_84 ?_
        refine m_iload_n hx hb hL dX6_write_87 rfl ?_
        refine r_iald (x := y) (w := (A 14 (y : Int).toNat)) hC X hR 14 rfl rfl (by omega) (by change _ < ((10 : Nat) : Int); omega) rfl dX6_write_88 ?_
        have q5 : (-1 : Int) ≤ (A 14 (y : Int).toNat) ∧ (A 14 (y : Int).toNat) ≤ 619 := hI.b14 (y : Int).toNat
        refine r_iast (x := ((21 * (A 14 (x : Int).toNat)) + i)) (v := (A 14 (y : Int).toNat)) hC X hR 11 rfl rfl (by omega) (by change _ < ((13020 : Nat) : Int); omega) dX6_write_89 (fun H locs X hR => ?_)
        have hf := hf.a 11 (((21 * (A 14 (x : Int).toNat)) + i) : Int).toNat (iv (A 14 (y : Int).toNat))
        have hI := hI.u11 (((21 * (A 14 (x : Int).toNat)) + i) : Int).toNat (v := (A 14 (y : Int).toNat)) ⟨by omega, by omega⟩
        refine m_aload_n hx hb hL dX6_write_90 rfl ?_
        refine m_iload hx hb hL dX6_write_91 rfl ?_
        refine r_call hC X hR hf (k_X6_tagOf (x := (A 11 (((21 * (A 14 (x : Int).toNat)) + i) : Int).toNat)) hR hI (by omega)) VX6_134 rfl ⟨by decide, by decide⟩ ⟨by decide, by decide⟩ hL.1 rfl (Nat.le_of_ble_eq_true rfl) dX6_write_93 (fun μ H locs X hR hf => ?_)
        exact r_iret hC X hR hf hr hlk (by first | (exfalso; omega) | (unfold rWrite; (first | rw [if_pos (by omega)] | rw [if_neg (by omega)]); (try (unfold rPrep; rw [show (up A 0 0 0) 18 0 = A 18 0 from rfl]; (try (first | rw [if_pos (by omega)] | rw [if_neg (by omega)])); (try (first | rw [if_pos (by omega)] | rw [if_neg (by omega)])))))) (by first | (exfalso; omega) | (unfold rWriteV; (first | rw [if_pos (by omega)] | rw [if_neg (by omega)]); (try simp [rTagOf_u, rTagOf_see, rTagOf_carry]))) dX6_write_96
      · refine m_aload_n hx hb hL dX6_write_57 rfl ?_
        refine m_iload hx hb hL dX6_write_58 rfl ?_
        refine r_call hC X hR hf (k_X6_isToMove (x := (A 14 (x : Int).toNat)) hR hI (by omega)) VX6_86 rfl ⟨by decide, by decide⟩ ⟨by decide, by decide⟩ hL.1 rfl (Nat.le_of_ble_eq_true rfl) dX6_write_60 (fun μ H locs X hR hf => ?_)
        have hq60 := rToMove_b (up A 0 0 0) ((A 14 (x : Int).toNat))
        refine m_if_eq (tgt := 72) hx hb dX6_write_63 (by decide) (by omega) (fun c63 => ?_) (fun c63 => ?_)
        · refine m_aload_n hx hb hL dX6_write_72 rfl ?_
          refine r_geta hC X hR FX6_32 rfl rfl dX6_write_73 ?_
          refine lv_bipush (v := iv 21) hx hb dX6_write_76 (by decide +kernel) ?_
          refine m_iload hx hb hL dX6_write_78 rfl ?_
          refine m_imul hx hb dX6_write_80 ?_
          refine m_iload_n hx hb hL dX6_write_81 rfl ?_
          refine m_iadd hx hb dX6_write_82 ?_
          refine m_aload_n hx hb hL dX6_write_83 rfl ?_
          refine r_geta hC X hR FX6_41 rfl rfl dX6_write_84 ?_
          refine m_iload_n hx hb hL dX6_write_87 rfl ?_
          refine r_iald (x := y) (w := (A 14 (y : Int).toNat)) hC X hR 14 rfl rfl (by omega) (by change _ < ((10 : Nat) : Int); omega) rfl dX6_write_88 ?_
          have q6 : (-1 : Int) ≤ (A 14 (y : Int).toNat) ∧ (A 14 (y : Int).toNat) ≤ 619 := hI.b14 (y : Int).toNat
          refine r_iast (x := ((21 * (A 14 (x : Int).toNat)) + i)) (v := (A 14 (y : Int).toNat)) hC X hR 11 rfl rfl (by omega) (by change _ < ((13020 : Nat) : Int); omega) dX6_write_89 (fun H locs X hR => ?_)
          have hf := hf.a 11 (((21 * (A 14 (x : Int).toNat)) + i) : Int).toNat (iv (A 14 (y : Int).toNat))
          have hI := hI.u11 (((21 * (A 14 (x : Int).toNat)) + i) : Int).toNat (v := (A 14 (y : Int).toNat)) ⟨by omega, by omega⟩
          refine m_aload_n hx hb hL dX6_write_90 rfl ?_
          refine m_iload hx hb hL dX6_write_91 rfl ?_
          refine r_call hC X hR hf (k_X6_tagOf (x := (A 11 (((21 * (A 14 (x : Int).toNat)) + i) : Int).toNat)) hR hI (by omega)) VX6_134 rfl ⟨by decide, by decide⟩ ⟨by decide, by decide⟩ hL.1 rfl (Nat.le_of_ble_eq_true rfl) dX6_write_93 (fun μ H locs X hR hf => ?_)
          exact r_iret hC X hR hf hr hlk (by first | (exfalso; omega) | (unfold rWrite; (first | rw [if_pos (by omega)] | rw [if_neg (by omega)]); (try (unfold rPrep; rw [show (up A 0 0 0) 18 0 = A 18 0 from rfl]; (try (first | rw [if_pos (by omega)] | rw [if_neg (by omega)])); (try (first | rw [if_pos (by omega)] | rw [if_neg (by omega)])))))) (by first | (exfalso; omega) | (unfold rWriteV; (first | rw [if_pos (by omega)] | rw [if_neg (by omega)]); (try simp [rTagOf_u, rTagOf_see, rTagOf_carry]))) dX6_write_96
        · refine m_aload_n hx hb hL dX6_write_66 rfl ?_
          refine m_iload hx hb hL dX6_write_67 rfl ?_
          refine r_call hC X hR hf (k_X6_carry (x := (A 14 (x : Int).toNat)) hR hI (by omega)) VX6_93 rfl ⟨by decide, by decide⟩ ⟨by decide, by decide⟩ hL.1 rfl (Nat.le_of_ble_eq_true rfl) dX6_write_69 (fun μ H locs X hR hf => ?_)
          have hI := rCarry_I hI (o := (A 14 (x : Int).toNat))
          refine m_aload_n hx hb hL dX6_write_72 rfl ?_
          refine r_geta hC X hR FX6_32 rfl rfl dX6_write_73 ?_
          refine lv_bipush (v := iv 21) hx hb dX6_write_76 (by decide +kernel) ?_
          refine m_iload hx hb hL dX6_write_78 rfl ?_
          refine m_imul hx hb dX6_write_80 ?_
          refine m_iload_n hx hb hL dX6_write_81 rfl ?_
          refine m_iadd hx hb dX6_write_82 ?_
          refine m_aload_n hx hb hL dX6_write_83 rfl ?_
          refine r_geta hC X hR FX6_41 rfl rfl dX6_write_84 ?_
          refine m_iload_n hx hb hL dX6_write_87 rfl ?_
          refine r_iald (x := y) (w := (A 14 (y : Int).toNat)) hC X hR 14 rfl rfl (by omega) (by change _ < ((10 : Nat) : Int); omega) (rCarry_k (by decide) (by decide) (by decide) (by decide) (by decide) (by decide) (by decide) (by decide)) dX6_write_88 ?_
          have q7 : (-1 : Int) ≤ (A 14 (y : Int).toNat) ∧ (A 14 (y : Int).toNat) ≤ 619 := by have hz := hI.b14 (y : Int).toNat; have he : (rCarry (up A 0 0 0) (A 14 (x : Int).toNat)) 14 (y : Int).toNat = (A 14 (y : Int).toNat) := (rCarry_k (by decide) (by decide) (by decide) (by decide) (by decide) (by decide) (by decide) (by decide)); rw [he] at hz; exact hz
          refine r_iast (x := ((21 * (A 14 (x : Int).toNat)) + i)) (v := (A 14 (y : Int).toNat)) hC X hR 11 rfl rfl (by omega) (by change _ < ((13020 : Nat) : Int); omega) dX6_write_89 (fun H locs X hR => ?_)
          have hf := hf.a 11 (((21 * (A 14 (x : Int).toNat)) + i) : Int).toNat (iv (A 14 (y : Int).toNat))
          have hI := hI.u11 (((21 * (A 14 (x : Int).toNat)) + i) : Int).toNat (v := (A 14 (y : Int).toNat)) ⟨by omega, by omega⟩
          refine m_aload_n hx hb hL dX6_write_90 rfl ?_
          refine m_iload hx hb hL dX6_write_91 rfl ?_
          refine r_call hC X hR hf (k_X6_tagOf (x := (A 11 (((21 * (A 14 (x : Int).toNat)) + i) : Int).toNat)) hR hI (by omega)) VX6_134 rfl ⟨by decide, by decide⟩ ⟨by decide, by decide⟩ hL.1 rfl (Nat.le_of_ble_eq_true rfl) dX6_write_93 (fun μ H locs X hR hf => ?_)
          exact r_iret hC X hR hf hr hlk (by first | (exfalso; omega) | (unfold rWrite; (first | rw [if_pos (by omega)] | rw [if_neg (by omega)]); (try (unfold rPrep; rw [show (up A 0 0 0) 18 0 = A 18 0 from rfl]; (try (first | rw [if_pos (by omega)] | rw [if_neg (by omega)])); (try (first | rw [if_pos (by omega)] | rw [if_neg (by omega)])))))) (by first | (exfalso; omega) | (unfold rWriteV; (first | rw [if_pos (by omega)] | rw [if_neg (by omega)]); (try simp [rTagOf_u, rTagOf_see, rTagOf_carry]))) dX6_write_96
    · refine m_aload_n hx hb hL dX6_write_43 rfl ?_
      refine m_iload hx hb hL dX6_write_44 rfl ?_
      refine r_call hC X hR hf (k_X6_see (x := (A 11 (((21 * (A 14 (x : Int).toNat)) + i) : Int).toNat)) hR hI (by omega) (fun _ _ => h17)) VX6_66 rfl ⟨by decide, by decide⟩ ⟨by decide, by decide⟩ hL.1 rfl (Nat.le_of_ble_eq_true rfl) dX6_write_46 (fun μ H locs X hR hf => ?_)
      have hI := rSee_I hI (x := (A 11 (((21 * (A 14 (x : Int).toNat)) + i) : Int).toNat)) (by omega) h17
      refine m_aload_n hx hb hL dX6_write_49 rfl ?_
      refine r_gets (w := (A 18 0)) hC X hR FX6_70 rfl rfl (rSee_k (by decide) (by decide) (by decide)) dX6_write_50 ?_
      have q8 : (0 : Int) ≤ (A 18 0) ∧ (A 18 0) ≤ 3 := by have hz := hI.b18 0; have he : (rSee (up A 0 0 0) (A 11 (((21 * (A 14 (x : Int).toNat)) + i) : Int).toNat)) 18 0 = (A 18 0) := (rSee_k (by decide) (by decide) (by decide)); rw [he] at hz; exact hz
      refine lv_iconst (v := iv 2) hx hb dX6_write_53 rfl ?_
      refine m_icmp_ne (tgt := 72) hx hb dX6_write_54 (by decide) (by omega) (by omega) (fun c54 => ?_) (fun c54 => ?_)
      · refine m_aload_n hx hb hL dX6_write_72 rfl ?_
        refine r_geta hC X hR FX6_32 rfl rfl dX6_write_73 ?_
        refine lv_bipush (v := iv 21) hx hb dX6_write_76 (by decide +kernel) ?_
        refine m_iload hx hb hL dX6_write_78 rfl ?_
        refine m_imul hx hb dX6_write_80 ?_
        refine m_iload_n hx hb hL dX6_write_81 rfl ?_
        refine m_iadd hx hb dX6_write_82 ?_
        refine m_aload_n hx hb hL dX6_write_83 rfl ?_
        refine r_geta hC X hR FX6_41 rfl rfl dX6_write_84 ?_
        refine m_iload_n hx hb hL dX6_write_87 rfl ?_
        refine r_iald (x := y) (w := (A 14 (y : Int).toNat)) hC X hR 14 rfl rfl (by omega) (by change _ < ((10 : Nat) : Int); omega) (rSee_k (by decide) (by decide) (by decide)) dX6_write_88 ?_
        have q9 : (-1 : Int) ≤ (A 14 (y : Int).toNat) ∧ (A 14 (y : Int).toNat) ≤ 619 := by have hz := hI.b14 (y : Int).toNat; have he : (rSee (up A 0 0 0) (A 11 (((21 * (A 14 (x : Int).toNat)) + i) : Int).toNat)) 14 (y : Int).toNat = (A 14 (y : Int).toNat) := (rSee_k (by decide) (by decide) (by decide)); rw [he] at hz; exact hz
        refine r_iast (x := ((21 * (A 14 (x : Int).toNat)) + i)) (v := (A 14 (y : Int).toNat)) hC X hR 11 rfl rfl (by omega) (by change _ < ((13020 : Nat) : Int); omega) dX6_write_89 (fun H locs X hR => ?_)
        have hf := hf.a 11 (((21 * (A 14 (x : Int).toNat)) + i) : Int).toNat (iv (A 14 (y : Int).toNat))
        have hI := hI.u11 (((21 * (A 14 (x : Int).toNat)) + i) : Int).toNat (v := (A 14 (y : Int).toNat)) ⟨by omega, by omega⟩
        refine m_aload_n hx hb hL dX6_write_90 rfl ?_
        refine m_iload hx hb hL dX6_write_91 rfl ?_
        refine r_call hC X hR hf (k_X6_tagOf (x := (A 11 (((21 * (A 14 (x : Int).toNat)) + i) : Int).toNat)) hR hI (by omega)) VX6_134 rfl ⟨by decide, by decide⟩ ⟨by decide, by decide⟩ hL.1 rfl (Nat.le_of_ble_eq_true rfl) dX6_write_93 (fun μ H locs X hR hf => ?_)
        exact r_iret hC X hR hf hr hlk (by first | (exfalso; omega) | (unfold rWrite; (first | rw [if_pos (by omega)] | rw [if_neg (by omega)]); (try (unfold rPrep; rw [show (up A 0 0 0) 18 0 = A 18 0 from rfl]; (try (first | rw [if_pos (by omega)] | rw [if_neg (by omega)])); (try (first | rw [if_pos (by omega)] | rw [if_neg (by omega)])))))) (by first | (exfalso; omega) | (unfold rWriteV; (first | rw [if_pos (by omega)] | rw [if_neg (by omega)]); (try simp [rTagOf_u, rTagOf_see, rTagOf_carry]))) dX6_write_96
      · refine m_aload_n hx hb hL dX6_write_57 rfl ?_
        refine m_iload hx hb hL dX6_write_58 rfl ?_
        refine r_call hC X hR hf (k_X6_isToMove (x := (A 14 (x : Int).toNat)) hR hI (by omega)) VX6_86 rfl ⟨by decide, by decide⟩ ⟨by decide, by decide⟩ hL.1 rfl (Nat.le_of_ble_eq_true rfl) dX6_write_60 (fun μ H locs X hR hf => ?_)
        have hq60 := rToMove_b (rSee (up A 0 0 0) (A 11 (((21 * (A 14 (x : Int).toNat)) + i) : Int).toNat)) ((A 14 (x : Int).toNat))
        refine m_if_eq (tgt := 72) hx hb dX6_write_63 (by decide) (by omega) (fun c63 => ?_) (fun c63 => ?_)
        · refine m_aload_n hx hb hL dX6_write_72 rfl ?_
          refine r_geta hC X hR FX6_32 rfl rfl dX6_write_73 ?_
          refine lv_bipush (v := iv 21) hx hb dX6_write_76 (by decide +kernel) ?_
          refine m_iload hx hb hL dX6_write_78 rfl ?_
          refine m_imul hx hb dX6_write_80 ?_
          refine m_iload_n hx hb hL dX6_write_81 rfl ?_
          refine m_iadd hx hb dX6_write_82 ?_
          refine m_aload_n hx hb hL dX6_write_83 rfl ?_
          refine r_geta hC X hR FX6_41 rfl rfl dX6_write_84 ?_
          refine m_iload_n hx hb hL dX6_write_87 rfl ?_
          refine r_iald (x := y) (w := (A 14 (y : Int).toNat)) hC X hR 14 rfl rfl (by omega) (by change _ < ((10 : Nat) : Int); omega) (rSee_k (by decide) (by decide) (by decide)) dX6_write_88 ?_
          have q10 : (-1 : Int) ≤ (A 14 (y : Int).toNat) ∧ (A 14 (y : Int).toNat) ≤ 619 := by have hz := hI.b14 (y : Int).toNat; have he : (rSee (up A 0 0 0) (A 11 (((21 * (A 14 (x : Int).toNat)) + i) : Int).toNat)) 14 (y : Int).toNat = (A 14 (y : Int).toNat) := (rSee_k (by decide) (by decide) (by decide)); rw [he] at hz; exact hz
          refine r_iast (x := ((21 * (A 14 (x : Int).toNat)) + i)) (v := (A 14 (y : Int).toNat)) hC X hR 11 rfl rfl (by omega) (by change _ < ((13020 : Nat) : Int); omega) dX6_write_89 (fun H locs X hR => ?_)
          have hf := hf.a 11 (((21 * (A 14 (x : Int).toNat)) + i) : Int).toNat (iv (A 14 (y : Int).toNat))
          have hI := hI.u11 (((21 * (A 14 (x : Int).toNat)) + i) : Int).toNat (v := (A 14 (y : Int).toNat)) ⟨by omega, by omega⟩
          refine m_aload_n hx hb hL dX6_write_90 rfl ?_
          refine m_iload hx hb hL dX6_write_91 rfl ?_
          refine r_call hC X hR hf (k_X6_tagOf (x := (A 11 (((21 * (A 14 (x : Int).toNat)) + i) : Int).toNat)) hR hI (by omega)) VX6_134 rfl ⟨by decide, by decide⟩ ⟨by decide, by decide⟩ hL.1 rfl (Nat.le_of_ble_eq_true rfl) dX6_write_93 (fun μ H locs X hR hf => ?_)
          exact r_iret hC X hR hf hr hlk (by first | (exfalso; omega) | (unfold rWrite; (first | rw [if_pos (by omega)] | rw [if_neg (by omega)]); (try (unfold rPrep; rw [show (up A 0 0 0) 18 0 = A 18 0 from rfl]; (try (first | rw [if_pos (by omega)] | rw [if_neg (by omega)])); (try (first | rw [if_pos (by omega)] | rw [if_neg (by omega)])))))) (by first | (exfalso; omega) | (unfold rWriteV; (first | rw [if_pos (by omega)] | rw [if_neg (by omega)]); (try simp [rTagOf_u, rTagOf_see, rTagOf_carry]))) dX6_write_96
        · refine m_aload_n hx hb hL dX6_write_66 rfl ?_
          refine m_iload hx hb hL dX6_write_67 rfl ?_
          refine r_call hC X hR hf (k_X6_carry (x := (A 14 (x : Int).toNat)) hR hI (by omega)) VX6_93 rfl ⟨by decide, by decide⟩ ⟨by decide, by decide⟩ hL.1 rfl (Nat.le_of_ble_eq_true rfl) dX6_write_69 (fun μ H locs X hR hf => ?_)
          have hI := rCarry_I hI (o := (A 14 (x : Int).toNat))
          refine m_aload_n hx hb hL dX6_write_72 rfl ?_
          refine r_geta hC X hR FX6_32 rfl rfl dX6_write_73 ?_
          refine lv_bipush (v := iv 21) hx hb dX6_write_76 (by decide +kernel) ?_
          refine m_iload hx hb hL dX6_write_78 rfl ?_
          refine m_imul hx hb dX6_write_80 ?_
          refine m_iload_n hx hb hL dX6_write_81 rfl ?_
          refine m_iadd hx hb dX6_write_82 ?_
          refine m_aload_n hx hb hL dX6_write_83 rfl ?_
          refine r_geta hC X hR FX6_41 rfl rfl dX6_write_84 ?_
          refine m_iload_n hx hb hL dX6_write_87 rfl ?_
          refine r_iald (x := y) (w := (A 14 (y : Int).toNat)) hC X hR 14 rfl rfl (by omega) (by change _ < ((10 : Nat) : Int); omega) (Eq.trans (rCarry_k (by decide) (by decide) (by decide) (by decide) (by decide) (by decide) (by decide) (by decide)) (rSee_k (by decide) (by decide) (by decide))) dX6_write_88 ?_
          have q11 : (-1 : Int) ≤ (A 14 (y : Int).toNat) ∧ (A 14 (y : Int).toNat) ≤ 619 := by have hz := hI.b14 (y : Int).toNat; have he : (rCarry (rSee (up A 0 0 0) (A 11 (((21 * (A 14 (x : Int).toNat)) + i) : Int).toNat)) (A 14 (x : Int).toNat)) 14 (y : Int).toNat = (A 14 (y : Int).toNat) := (Eq.trans (rCarry_k (by decide) (by decide) (by decide) (by decide) (by decide) (by decide) (by decide) (by decide)) (rSee_k (by decide) (by decide) (by decide))); rw [he] at hz; exact hz
          refine r_iast (x := ((21 * (A 14 (x : Int).toNat)) + i)) (v := (A 14 (y : Int).toNat)) hC X hR 11 rfl rfl (by omega) (by change _ < ((13020 : Nat) : Int); omega) dX6_write_89 (fun H locs X hR => ?_)
          have hf := hf.a 11 (((21 * (A 14 (x : Int).toNat)) + i) : Int).toNat (iv (A 14 (y : Int).toNat))
          have hI := hI.u11 (((21 * (A 14 (x : Int).toNat)) + i) : Int).toNat (v := (A 14 (y : Int).toNat)) ⟨by omega, by omega⟩
          refine m_aload_n hx hb hL dX6_write_90 rfl ?_
          refine m_iload hx hb hL dX6_write_91 rfl ?_
          refine r_call hC X hR hf (k_X6_tagOf (x := (A 11 (((21 * (A 14 (x : Int).toNat)) + i) : Int).toNat)) hR hI (by omega)) VX6_134 rfl ⟨by decide, by decide⟩ ⟨by decide, by decide⟩ hL.1 rfl (Nat.le_of_ble_eq_true rfl) dX6_write_93 (fun μ H locs X hR hf => ?_)
          exact r_iret hC X hR hf hr hlk (by first | (exfalso; omega) | (unfold rWrite; (first | rw [if_pos (by omega)] | rw [if_neg (by omega)]); (try (unfold rPrep; rw [show (up A 0 0 0) 18 0 = A 18 0 from rfl]; (try (first | rw [if_pos (by omega)] | rw [if_neg (by omega)])); (try (first | rw [if_pos (by omega)] | rw [if_neg (by omega)])))))) (by first | (exfalso; omega) | (unfold rWriteV; (first | rw [if_pos (by omega)] | rw [if_neg (by omega)]); (try simp [rTagOf_u, rTagOf_see, rTagOf_carry]))) dX6_write_96
  · rw [bZ_f g5]
    refine m_if_ne (tgt := 13) hx hb dX6_write_8 (by decide) (by omega) (fun c8 => absurd c8 (by omega)) (fun c8 => ?_)
    refine lv_iconst (v := iv 0) hx hb dX6_write_11 rfl ?_
    exact r_iret hC X hR hf hr hlk (by first | (exfalso; omega) | (unfold rWrite; (first | rw [if_pos (by omega)] | rw [if_neg (by omega)]); (try (unfold rPrep; rw [show (up A 0 0 0) 18 0 = A 18 0 from rfl]; (try (first | rw [if_pos (by omega)] | rw [if_neg (by omega)])); (try (first | rw [if_pos (by omega)] | rw [if_neg (by omega)])))))) (by first | (exfalso; omega) | (unfold rWriteV; (first | rw [if_pos (by omega)] | rw [if_neg (by omega)]); (try simp [rTagOf_u, rTagOf_see, rTagOf_carry]))) dX6_write_12

