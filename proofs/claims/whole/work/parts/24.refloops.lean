/-! the reference's methods with loops and calls (printed by wip/tools/ref3.py) -/
set_option maxHeartbeats 4000000 in
theorem k_X6_withState {G : mG} {l : Launch} {z : Nat} {ρ : Nat → Nat} {μ0 : mM} {A : rS} {x : Int} (hR : RR A μ0) (hI : RI A) (hx1 : rng x) : MR G l yX6_withState cX6_withState 3 (some .int) 0 0 z ρ [.ref (ρ 6), .int (iv x)] μ0 (some (.int (iv (rWith A x)))) A := by
  refine MR.of hR (by decide) (by simp [Value.category]) (Nat.le_of_ble_eq_true rfl) (Nat.le_of_ble_eq_true rfl) ?_
  intro p e s m args below meth c ls H locs μ hC hx hb hr hlk X hR hf hL
  have q0 := hI.b1 0
  refine lv_iconst (v := iv 0) hx hb dX6_withState_0 rfl ?_
  refine m_istore_n hx hb hL dX6_withState_1 (Nat.le_of_ble_eq_true rfl) (fun ls hL => ?_)
  have lp : ∀ (f : Nat) (r : Int) (ls : Array Slot), 0 ≤ r ∧ r ≤ A 1 0 → (f : Int) + r = 20 → rWith A x = rWs A x f r → lq ls [some (.ref (ρ 6)), some (.int (iv x)), some (.int (iv r))] → W p l e (rm 0 0 0 0) s m args below meth c H locs 0 0 (wQ G ρ μ0 z (rP (some (.int (iv (rWith A x)))) A μ0 z) below args s 0 0) (F0 m 2 ls []) := by
    intro f
    induction f with
    | zero =>
      intro r ls h0 hf1 hv hL
      have := hI.b1 0; omega
    | succ f ih =>
      intro r ls h0 hf1 hv hL
      refine m_iload_n hx hb hL dX6_withState_2 rfl ?_
      refine m_aload_n hx hb hL dX6_withState_3 rfl ?_
      refine r_gets (w := (A 1 0)) hC X hR FX6_47 rfl rfl rfl dX6_withState_4 ?_
      have q1 : (3 : Int) ≤ (A 1 0) ∧ (A 1 0) ≤ 16 := hI.b1 0
      refine m_icmp_ge (tgt := 26) hx hb dX6_withState_7 (by decide) (by omega) (by omega) (fun c7 => ?_) (fun c7 => ?_)
      · refine m_iload_n hx hb hL dX6_withState_26 rfl ?_
        refine m_aload_n hx hb hL dX6_withState_27 rfl ?_
        refine r_gets (w := (A 1 0)) hC X hR FX6_47 rfl rfl rfl dX6_withState_28 ?_
        have q2 : (3 : Int) ≤ (A 1 0) ∧ (A 1 0) ≤ 16 := hI.b1 0
        refine m_icmp_ge (tgt := 38) hx hb dX6_withState_31 (by decide) (by omega) (by omega) (fun c31 => ?_) (fun c31 => ?_)
        · refine lv_iconst (v := iv (-1)) hx hb dX6_withState_38 rfl ?_
          exact r_iret hC X hR hf hr hlk rfl (by first | (exfalso; omega) | (rw [hv]; simp [rWs, c7, c31])) dX6_withState_39
        · refine m_iload_n hx hb hL dX6_withState_34 rfl ?_
          refine lv_goto (tgt := 39) hx hb dX6_withState_35 (by decide) ?_
          exact r_iret hC X hR hf hr hlk rfl (by first | (exfalso; omega) | (rw [hv]; simp [rWs, c7, c31])) dX6_withState_39
      · refine m_aload_n hx hb hL dX6_withState_10 rfl ?_
        refine r_geta hC X hR FX6_7 rfl rfl dX6_withState_11 ?_
        refine m_iload_n hx hb hL dX6_withState_14 rfl ?_
        refine r_iald (x := r) (w := (A 3 (r : Int).toNat)) hC X hR 3 rfl rfl (by omega) (by change _ < ((16 : Nat) : Int); omega) rfl dX6_withState_15 ?_
        have q3 : (0 : Int) ≤ (A 3 (r : Int).toNat) ∧ (A 3 (r : Int).toNat) ≤ 4 := hI.b3 (r : Int).toNat
        refine m_iload_n hx hb hL dX6_withState_16 rfl ?_
        refine m_icmp_eq (tgt := 26) hx hb dX6_withState_17 (by decide) (by omega) (by omega) (fun c17 => ?_) (fun c17 => ?_)
        · refine m_iload_n hx hb hL dX6_withState_26 rfl ?_
          refine m_aload_n hx hb hL dX6_withState_27 rfl ?_
          refine r_gets (w := (A 1 0)) hC X hR FX6_47 rfl rfl rfl dX6_withState_28 ?_
          have q4 : (3 : Int) ≤ (A 1 0) ∧ (A 1 0) ≤ 16 := hI.b1 0
          refine m_icmp_ge (tgt := 38) hx hb dX6_withState_31 (by decide) (by omega) (by omega) (fun c31 => ?_) (fun c31 => ?_)
          · refine lv_iconst (v := iv (-1)) hx hb dX6_withState_38 rfl ?_
            exact r_iret hC X hR hf hr hlk rfl (by first | (exfalso; omega) | (rw [hv]; simp [rWs, c7, c17, c31])) dX6_withState_39
          · refine m_iload_n hx hb hL dX6_withState_34 rfl ?_
            refine lv_goto (tgt := 39) hx hb dX6_withState_35 (by decide) ?_
            exact r_iret hC X hR hf hr hlk rfl (by first | (exfalso; omega) | (rw [hv]; simp [rWs, c7, c17, c31])) dX6_withState_39
        · refine m_iincv hx hb hL dX6_withState_20 rfl (fun ls hL => ?_)
          refine lv_goto (tgt := 2) hx hb dX6_withState_23 (by decide) ?_
          exact ih (r + 1) ls ⟨by omega, by omega⟩ (by omega) (by rw [hv]; simp [rWs, c7, c17]) hL
  exact lp 20 0 ls ⟨by omega, by omega⟩ (by omega) rfl hL

set_option maxHeartbeats 4000000 in
theorem k_X6_seenIn {G : mG} {l : Launch} {z : Nat} {ρ : Nat → Nat} {μ0 : mM} {A : rS} {x : Int} (hR : RR A μ0) (hI : RI A) (hx1 : 0 ≤ x ∧ x < 16) : MR G l yX6_seenIn cX6_seenIn 4 (some .int) 0 0 z ρ [.ref (ρ 6), .int (iv x)] μ0 (some (.int (iv (rSeenIn A x)))) A := by
  refine MR.of hR (by decide) (by simp [Value.category]) (Nat.le_of_ble_eq_true rfl) (Nat.le_of_ble_eq_true rfl) ?_
  intro p e s m args below meth c ls H locs μ hC hx hb hr hlk X hR hf hL
  have q0 := hI.b6 0
  refine lv_iconst (v := iv 0) hx hb dX6_seenIn_0 rfl ?_
  refine m_istore_n hx hb hL dX6_seenIn_1 (Nat.le_of_ble_eq_true rfl) (fun ls hL => ?_)
  refine lv_iconst (v := iv 0) hx hb dX6_seenIn_2 rfl ?_
  refine m_istore_n hx hb hL dX6_seenIn_3 (Nat.le_of_ble_eq_true rfl) (fun ls hL => ?_)
  have lp : ∀ (f : Nat) (n o : Int) (ls : Array Slot), 0 ≤ o ∧ o ≤ A 6 0 → 0 ≤ n ∧ n ≤ 22 * o → (f : Int) + o = 700 → rSeenIn A x = rSi A x f o n → lq ls [some (.ref (ρ 6)), some (.int (iv x)), some (.int (iv n)), some (.int (iv o))] → W p l e (rm 0 0 0 0) s m args below meth c H locs 0 0 (wQ G ρ μ0 z (rP (some (.int (iv (rSeenIn A x)))) A μ0 z) below args s 0 0) (F0 m 4 ls []) := by
    intro f
    induction f with
    | zero =>
      intro n o ls h0 hn hf1 hv hL
      have := hI.b6 0; omega
    | succ f ih =>
      intro n o ls h0 hn hf1 hv hL
      refine m_iload_n hx hb hL dX6_seenIn_4 rfl ?_
      refine m_aload_n hx hb hL dX6_seenIn_5 rfl ?_
      refine r_gets (w := (A 6 0)) hC X hR FX6_57 rfl rfl rfl dX6_seenIn_6 ?_
      have q1 : (0 : Int) ≤ (A 6 0) ∧ (A 6 0) ≤ 620 := hI.b6 0
      refine m_icmp_ge (tgt := 59) hx hb dX6_seenIn_9 (by decide) (by omega) (by omega) (fun c9 => ?_) (fun c9 => ?_)
      · refine m_iload_n hx hb hL dX6_seenIn_59 rfl ?_
        exact r_iret hC X hR hf hr hlk rfl (by rw [hv]; simp [rSi, c9]) dX6_seenIn_60
      · refine m_aload_n hx hb hL dX6_seenIn_12 rfl ?_
        refine r_geta hC X hR FX6_7 rfl rfl dX6_seenIn_13 ?_
        refine m_iload_n hx hb hL dX6_seenIn_16 rfl ?_
        refine r_iald (x := x) (w := (A 3 (x : Int).toNat)) hC X hR 3 rfl rfl (by omega) (by change _ < ((16 : Nat) : Int); omega) rfl dX6_seenIn_17 ?_
        have q2 : (0 : Int) ≤ (A 3 (x : Int).toNat) ∧ (A 3 (x : Int).toNat) ≤ 4 := hI.b3 (x : Int).toNat
        refine m_if_eq (tgt := 59) hx hb dX6_seenIn_18 (by decide) (by omega) (fun c18 => ?_) (fun c18 => ?_)
        · refine m_iload_n hx hb hL dX6_seenIn_59 rfl ?_
          exact r_iret hC X hR hf hr hlk rfl (by rw [hv]; simp [rSi, c9, c18]) dX6_seenIn_60
        · refine m_aload_n hx hb hL dX6_seenIn_21 rfl ?_
          refine r_geta hC X hR FX6_20 rfl rfl dX6_seenIn_22 ?_
          refine m_iload_n hx hb hL dX6_seenIn_25 rfl ?_
          refine r_iald (x := o) (w := (A 7 (o : Int).toNat)) hC X hR 7 rfl rfl (by omega) (by change _ < ((620 : Nat) : Int); omega) rfl dX6_seenIn_26 ?_
          have q3 : (0 : Int) ≤ (A 7 (o : Int).toNat) ∧ (A 7 (o : Int).toNat) ≤ 15 := hI.b7 (o : Int).toNat
          refine m_iload_n hx hb hL dX6_seenIn_27 rfl ?_
          refine m_icmp_ne (tgt := 51) hx hb dX6_seenIn_28 (by decide) (by omega) (by omega) (fun c28 => ?_) (fun c28 => ?_)
          · refine m_iload_n hx hb hL dX6_seenIn_51 rfl ?_
            refine m_istore_n hx hb hL dX6_seenIn_52 (Nat.le_of_ble_eq_true rfl) (fun ls hL => ?_)
            refine m_iincv hx hb hL dX6_seenIn_53 rfl (fun ls hL => ?_)
            refine lv_goto (tgt := 4) hx hb dX6_seenIn_56 (by decide) ?_
            exact ih n (o + 1) ls ⟨by omega, by omega⟩ ⟨by omega, by omega⟩ (by omega) (by rw [hv]; simp [rSi, c9, c18, c28]) hL
          · refine m_aload_n hx hb hL dX6_seenIn_31 rfl ?_
            refine r_geta hC X hR FX6_35 rfl rfl dX6_seenIn_32 ?_
            refine m_iload_n hx hb hL dX6_seenIn_35 rfl ?_
            refine r_zald (x := o) (w := (A 12 (o : Int).toNat)) hC X hR 12 rfl rfl (by omega) (by change _ < ((620 : Nat) : Int); omega) rfl dX6_seenIn_36 ?_
            have q4 : (0 : Int) ≤ (A 12 (o : Int).toNat) ∧ (A 12 (o : Int).toNat) ≤ 1 := hI.b12 (o : Int).toNat
            refine m_if_eq (tgt := 51) hx hb dX6_seenIn_37 (by decide) (by omega) (fun c37 => ?_) (fun c37 => ?_)
            · refine m_iload_n hx hb hL dX6_seenIn_51 rfl ?_
              refine m_istore_n hx hb hL dX6_seenIn_52 (Nat.le_of_ble_eq_true rfl) (fun ls hL => ?_)
              refine m_iincv hx hb hL dX6_seenIn_53 rfl (fun ls hL => ?_)
              refine lv_goto (tgt := 4) hx hb dX6_seenIn_56 (by decide) ?_
              exact ih n (o + 1) ls ⟨by omega, by omega⟩ ⟨by omega, by omega⟩ (by omega) (by rw [hv]; simp [rSi, c9, c18, c28, c37]) hL
            · refine m_iload_n hx hb hL dX6_seenIn_40 rfl ?_
              refine m_aload_n hx hb hL dX6_seenIn_41 rfl ?_
              refine r_geta hC X hR FX6_26 rfl rfl dX6_seenIn_42 ?_
              refine m_iload_n hx hb hL dX6_seenIn_45 rfl ?_
              refine r_iald (x := o) (w := (A 9 (o : Int).toNat)) hC X hR 9 rfl rfl (by omega) (by change _ < ((620 : Nat) : Int); omega) rfl dX6_seenIn_46 ?_
              have q5 : (0 : Int) ≤ (A 9 (o : Int).toNat) ∧ (A 9 (o : Int).toNat) ≤ 22 := hI.b9 (o : Int).toNat
              refine m_iadd hx hb dX6_seenIn_47 ?_
              refine lv_goto (tgt := 52) hx hb dX6_seenIn_48 (by decide) ?_
              refine m_istore_n hx hb hL dX6_seenIn_52 (Nat.le_of_ble_eq_true rfl) (fun ls hL => ?_)
              refine m_iincv hx hb hL dX6_seenIn_53 rfl (fun ls hL => ?_)
              refine lv_goto (tgt := 4) hx hb dX6_seenIn_56 (by decide) ?_
              exact ih (n + (A 9 (o : Int).toNat)) (o + 1) ls ⟨by omega, by omega⟩ ⟨by omega, by omega⟩ (by omega) (by rw [hv]; simp [rSi, c9, c18, c28, c37]) hL
  exact lp 700 0 0 ls ⟨by omega, by omega⟩ ⟨by omega, by omega⟩ (by omega) rfl hL

set_option maxHeartbeats 4000000 in
theorem k_X6_start {G : mG} {l : Launch} {z : Nat} {ρ : Nat → Nat} {μ0 : mM} {A : rS} (hR : RR A μ0) (hI : RI A) : MR G l yX6_start cX6_start 2 none 1 21 z ρ [.ref (ρ 6)] μ0 none (rStart A) := by
  refine MR.of hR (by decide) (by simp [Value.category]) (Nat.le_of_ble_eq_true rfl) (Nat.le_of_ble_eq_true rfl) ?_
  intro p e s m args below meth c ls H locs μ hC hx hb hr hlk X hR hf hL
  have q0 := hI.b6 0
  refine lv_iconst (v := iv 0) hx hb dX6_start_0 rfl ?_
  refine m_istore_n hx hb hL dX6_start_1 (Nat.le_of_ble_eq_true rfl) (fun ls hL => ?_)
  have lp : ∀ (f : Nat) (o : Int) (B : rS) (H : Heap) (locs : List Loc) (μ : mM) (ls : Array Slot), 0 ≤ o ∧ o ≤ B 6 0 → (f : Int) + o = 700 → rStart A = up (rSeeR 20 0 (up (up (rClr f o B) 16 0 0) 17 0 0)) 18 0 1 → RI B → mX G ρ (mA ρ μ0 z) s.heap μ z H locs → RR B μ → rfr μ0 μ → lq ls [some (.ref (ρ 6)), some (.int (iv o))] → W p l e (rm 1 21 0 0) s m args below meth c H locs 0 0 (wQ G ρ μ0 z (rP none (rStart A) μ0 z) below args s 0 0) (F0 m 2 ls []) := by
    intro f
    induction f with
    | zero =>
      intro o B H locs μ ls h0 hf1 hv hI X hR hf hL
      have := hI.b6 0; omega
    | succ f ih =>
      intro o B H locs μ ls h0 hf1 hv hI X hR hf hL
      refine m_iload_n hx hb hL dX6_start_2 rfl ?_
      refine m_aload_n hx hb hL dX6_start_3 rfl ?_
      refine r_gets (w := (B 6 0)) hC X hR FX6_57 rfl rfl rfl dX6_start_4 ?_
      have q1 : (0 : Int) ≤ (B 6 0) ∧ (B 6 0) ≤ 620 := hI.b6 0
      refine m_icmp_ge (tgt := 30) hx hb dX6_start_7 (by decide) (by omega) (by omega) (fun c7 => ?_) (fun c7 => ?_)
      · refine m_aload_n hx hb hL dX6_start_30 rfl ?_
        refine lv_iconst (v := iv 0) hx hb dX6_start_31 rfl ?_
        refine r_puts (v := 0) hC X hR FwX6_63 rfl rfl dX6_start_32 (fun H locs X hR => ?_)
        have hf := hf.s 16 (iv 0)
        have hI := hI.u16 0 (v := 0) ⟨by omega, by omega⟩
        refine m_aload_n hx hb hL dX6_start_35 rfl ?_
        refine lv_iconst (v := iv 0) hx hb dX6_start_36 rfl ?_
        refine r_puts (v := 0) hC X hR FwX6_60 rfl rfl dX6_start_37 (fun H locs X hR => ?_)
        have hf := hf.s 17 (iv 0)
        have hI := hI.u17 0 (v := 0) ⟨by omega, by omega⟩
        refine lv_iconst (v := iv 0) hx hb dX6_start_40 rfl ?_
        refine m_istore_n hx hb hL dX6_start_41 (Nat.le_of_ble_eq_true rfl) (fun ls hL => ?_)
        have lq2 : ∀ (f : Nat) (k : Int) (B : rS) (H : Heap) (locs : List Loc) (μ : mM) (ls : Array Slot), 0 ≤ k ∧ k ≤ 10 → B 17 0 ≤ k → (f : Int) + k = 20 → rStart A = up (rSeeR f k B) 18 0 1 → RI B → mX G ρ (mA ρ μ0 z) s.heap μ z H locs → RR B μ → rfr μ0 μ → lq ls [some (.ref (ρ 6)), some (.int (iv k))] → W p l e (rm 1 21 0 0) s m args below meth c H locs 0 0 (wQ G ρ μ0 z (rP none (rStart A) μ0 z) below args s 0 0) (F0 m 42 ls []) := by
          intro f
          induction f with
          | zero =>
            intro k B H locs μ ls h0 h1 hf1 hv hI X hR hf hL
            omega
          | succ f ih =>
            intro k B H locs μ ls h0 h1 hf1 hv hI X hR hf hL
            have q8 := hI.b17 0
            refine m_iload_n hx hb hL dX6_start_42 rfl ?_
            refine lv_bipush (v := iv 10) hx hb dX6_start_43 (by decide +kernel) ?_
            refine m_icmp_ge (tgt := 64) hx hb dX6_start_45 (by decide) (by omega) (by omega) (fun c45 => ?_) (fun c45 => ?_)
            · refine m_aload_n hx hb hL dX6_start_64 rfl ?_
              refine lv_iconst (v := iv 1) hx hb dX6_start_65 rfl ?_
              refine r_puts (v := 1) hC X hR FwX6_70 rfl rfl dX6_start_66 (fun H locs X hR => ?_)
              have hf := hf.s 18 (iv 1)
              have hI := hI.u18 0 (v := 1) ⟨by omega, by omega⟩
              exact r_vret hC X hR hf hr hlk (by rw [hv]; simp [rSeeR, c45]) dX6_start_69
            · refine m_aload_n hx hb hL dX6_start_48 rfl ?_
              refine m_aload_n hx hb hL dX6_start_49 rfl ?_
              refine r_geta hC X hR FX6_41 rfl rfl dX6_start_50 ?_
              refine m_iload_n hx hb hL dX6_start_53 rfl ?_
              refine r_iald (x := k) (w := (B 14 (k : Int).toNat)) hC X hR 14 rfl rfl (by omega) (by change _ < ((10 : Nat) : Int); omega) rfl dX6_start_54 ?_
              have q2 : (-1 : Int) ≤ (B 14 (k : Int).toNat) ∧ (B 14 (k : Int).toNat) ≤ 619 := hI.b14 (k : Int).toNat
              have hs : (B 14 (k : Int).toNat) ≠ -1 → B 12 ((B 14 (k : Int).toNat) : Int).toNat = 0 → B 17 0 < 620 := fun _ _ => by omega
              have q9 := hI.b14 (k : Int).toNat
              refine r_call hC X hR hf (k_X6_see (x := (B 14 (k : Int).toNat)) hR hI (by omega) hs) VX6_66 rfl ⟨by decide, by decide⟩ ⟨by decide, by decide⟩ hL.1 rfl (Nat.le_of_ble_eq_true rfl) dX6_start_55 (fun μ H locs X hR hf => ?_)
              have hk17 := rSee_17 B ((B 14 (k : Int).toNat))
              have hI := rSee_I hI (x := (B 14 (k : Int).toNat)) (by omega) (by omega)
              refine m_iincv hx hb hL dX6_start_58 rfl (fun ls hL => ?_)
              refine lv_goto (tgt := 42) hx hb dX6_start_61 (by decide) ?_
              exact ih (k + 1) _ _ _ _ ls ⟨by omega, by omega⟩ (by omega) (by omega) (by rw [hv]; simp [rSeeR, c45]) hI X hR hf hL
        exact lq2 20 0 _ _ _ _ ls ⟨by omega, by omega⟩ (Int.le_refl 0) (by omega) (by rw [hv]; simp [rClr, c7]) hI X hR hf hL
      · refine m_aload_n hx hb hL dX6_start_10 rfl ?_
        refine r_geta hC X hR FX6_35 rfl rfl dX6_start_11 ?_
        refine m_iload_n hx hb hL dX6_start_14 rfl ?_
        refine lv_iconst (v := iv 0) hx hb dX6_start_15 rfl ?_
        refine r_zast (x := o) (v := 0) hC X hR 12 rfl rfl (by omega) (by change _ < ((620 : Nat) : Int); omega) (by omega) dX6_start_16 (fun H locs X hR => ?_)
        have hf := hf.a 12 (o : Int).toNat (iv 0)
        have hI := hI.u12 (o : Int).toNat (v := 0) ⟨by omega, by omega⟩
        refine m_aload_n hx hb hL dX6_start_17 rfl ?_
        refine r_geta hC X hR FX6_38 rfl rfl dX6_start_18 ?_
        refine m_iload_n hx hb hL dX6_start_21 rfl ?_
        refine lv_iconst (v := iv 0) hx hb dX6_start_22 rfl ?_
        refine r_zast (x := o) (v := 0) hC X hR 13 rfl rfl (by omega) (by change _ < ((620 : Nat) : Int); omega) (by omega) dX6_start_23 (fun H locs X hR => ?_)
        have hf := hf.a 13 (o : Int).toNat (iv 0)
        have hI := hI.u13 (o : Int).toNat (v := 0) ⟨by omega, by omega⟩
        refine m_iincv hx hb hL dX6_start_24 rfl (fun ls hL => ?_)
        refine lv_goto (tgt := 2) hx hb dX6_start_27 (by decide) ?_
        exact ih (o + 1) _ _ _ _ ls ⟨by omega, by show _ ≤ B 6 0; omega⟩ (by omega) (by rw [hv]; simp [rClr, c7]) hI X hR hf hL
  exact lp 700 0 _ _ _ _ ls ⟨by omega, by omega⟩ (by omega) rfl hI X hR hf hL

set_option maxHeartbeats 4000000 in
theorem k_X6_mark {G : mG} {l : Launch} {z : Nat} {ρ : Nat → Nat} {μ0 : mM} {A : rS} (hR : RR A μ0) (hI : RI A) (h17 : A 17 0 < 590) : MR G l yX6_mark cX6_mark 3 none 1 23 z ρ [.ref (ρ 6)] μ0 none (rMark A) := by
  refine MR.of hR (by decide) (by simp [Value.category]) (Nat.le_of_ble_eq_true rfl) (Nat.le_of_ble_eq_true rfl) ?_
  intro p e s m args below meth c ls H locs μ hC hx hb hr hlk X hR hf hL
  refine m_aload_n hx hb hL dX6_mark_0 rfl ?_
  refine r_gets (w := (A 16 0)) hC X hR FX6_63 rfl rfl rfl dX6_mark_1 ?_
  have q1 : (0 : Int) ≤ (A 16 0) ∧ (A 16 0) ≤ 620 := hI.b16 0
  refine m_aload_n hx hb hL dX6_mark_4 rfl ?_
  refine r_gets (w := (A 17 0)) hC X hR FX6_60 rfl rfl rfl dX6_mark_5 ?_
  have q2 : (0 : Int) ≤ (A 17 0) ∧ (A 17 0) ≤ 620 := hI.b17 0
  refine m_icmp_ge (tgt := 67) hx hb dX6_mark_8 (by decide) (by omega) (by omega) (fun c8 => ?_) (fun c8 => ?_)
  · refine lv_iconst (v := iv 0) hx hb dX6_mark_67 rfl ?_
    refine m_istore_n hx hb hL dX6_mark_68 (Nat.le_of_ble_eq_true rfl) (fun ls hL => ?_)
    have lq2 : ∀ (f : Nat) (r : Int) (B : rS) (H : Heap) (locs : List Loc) (μ : mM) (ls : Array Slot), 0 ≤ r ∧ r ≤ B 1 0 → (f : Int) + r = 20 → rMark A = up (rChoose f r B) 18 0 2 → RI B → mX G ρ (mA ρ μ0 z) s.heap μ z H locs → RR B μ → rfr μ0 μ → lq ls [some (.ref (ρ 6)), some (.int (iv r)), none] → W p l e (rm 1 23 0 0) s m args below meth c H locs 0 0 (wQ G ρ μ0 z (rP none (rMark A) μ0 z) below args s 0 0) (F0 m 69 ls []) := by
      intro f
      induction f with
      | zero =>
        intro r B H locs μ ls h0 hf1 hv hI X hR hf hL
        have := hI.b1 0; omega
      | succ f ih =>
        intro r B H locs μ ls h0 hf1 hv hI X hR hf hL
        have q8 := hI.b1 0
        refine m_iload_n hx hb hL dX6_mark_69 rfl ?_
        refine m_aload_n hx hb hL dX6_mark_70 rfl ?_
        refine r_gets (w := (B 1 0)) hC X hR FX6_47 rfl rfl rfl dX6_mark_71 ?_
        have q3 : (3 : Int) ≤ (B 1 0) ∧ (B 1 0) ≤ 16 := hI.b1 0
        refine m_icmp_ge (tgt := 135) hx hb dX6_mark_74 (by decide) (by omega) (by omega) (fun c74 => ?_) (fun c74 => ?_)
        · refine m_aload_n hx hb hL dX6_mark_135 rfl ?_
          refine lv_iconst (v := iv 2) hx hb dX6_mark_136 rfl ?_
          refine r_puts (v := 2) hC X hR FwX6_70 rfl rfl dX6_mark_137 (fun H locs X hR => ?_)
          have hf := hf.s 18 (iv 2)
          have hI := hI.u18 0 (v := 2) ⟨by omega, by omega⟩
          exact r_vret hC X hR hf hr hlk (by rw [hv, rChoose, if_pos c74]) dX6_mark_140
        · refine m_aload_n hx hb hL dX6_mark_77 rfl ?_
          refine r_geta hC X hR FX6_16 rfl rfl dX6_mark_78 ?_
          refine m_iload_n hx hb hL dX6_mark_81 rfl ?_
          refine lv_iconst (v := iv 0) hx hb dX6_mark_82 rfl ?_
          refine r_zast (x := r) (v := 0) hC X hR 5 rfl rfl (by omega) (by change _ < ((16 : Nat) : Int); omega) (by omega) dX6_mark_83 (fun H locs X hR => ?_)
          have hf := hf.a 5 (r : Int).toNat (iv 0)
          have hI := hI.u5 (r : Int).toNat (v := 0) ⟨by omega, by omega⟩
          refine m_aload_n hx hb hL dX6_mark_84 rfl ?_
          refine r_geta hC X hR FX6_7 rfl rfl dX6_mark_85 ?_
          refine m_iload_n hx hb hL dX6_mark_88 rfl ?_
          refine m_aload_n hx hb hL dX6_mark_89 rfl ?_
          refine r_geta hC X hR FX6_7 rfl rfl dX6_mark_90 ?_
          refine m_iload_n hx hb hL dX6_mark_93 rfl ?_
          refine r_iald (x := r) (w := (B 3 (r : Int).toNat)) hC X hR 3 rfl rfl (by omega) (by change _ < ((16 : Nat) : Int); omega) rfl dX6_mark_94 ?_
          have q4 : (0 : Int) ≤ (B 3 (r : Int).toNat) ∧ (B 3 (r : Int).toNat) ≤ 4 := hI.b3 (r : Int).toNat
          refine lv_iconst (v := iv 3) hx hb dX6_mark_95 rfl ?_
          refine m_icmp_ne (tgt := 122) hx hb dX6_mark_96 (by decide) (by omega) (by omega) (fun c96 => ?_) (fun c96 => ?_)
          · refine m_aload_n hx hb hL dX6_mark_122 rfl ?_
            refine r_geta hC X hR FX6_7 rfl rfl dX6_mark_123 ?_
            refine m_iload_n hx hb hL dX6_mark_126 rfl ?_
            refine r_iald (x := r) (w := (B 3 (r : Int).toNat)) hC X hR 3 rfl rfl (by omega) (by change _ < ((16 : Nat) : Int); omega) rfl dX6_mark_127 ?_
            have q5 : (0 : Int) ≤ (B 3 (r : Int).toNat) ∧ (B 3 (r : Int).toNat) ≤ 4 := hI.b3 (r : Int).toNat
            refine r_iast (x := r) (v := (B 3 (r : Int).toNat)) hC X hR 3 rfl rfl (by omega) (by change _ < ((16 : Nat) : Int); omega) dX6_mark_128 (fun H locs X hR => ?_)
            have hf := hf.a 3 (r : Int).toNat (iv (B 3 (r : Int).toNat))
            have hI := hI.u3 (r : Int).toNat (v := (B 3 (r : Int).toNat)) ⟨by omega, by omega⟩
            refine m_iincv hx hb hL dX6_mark_129 rfl (fun ls hL => ?_)
            refine lv_goto (tgt := 69) hx hb dX6_mark_132 (by decide) ?_
            exact ih (r + 1) _ _ _ _ ls ⟨by omega, by show _ ≤ B 1 0; omega⟩ (by omega) (by rw [hv, rChoose, if_neg c74]; (first | rw [if_pos (by omega)] | rw [if_neg (by omega)])) hI X hR hf hL
          · refine m_aload_n hx hb hL dX6_mark_99 rfl ?_
            refine r_geta hC X hR FX6_13 rfl rfl dX6_mark_100 ?_
            refine m_iload_n hx hb hL dX6_mark_103 rfl ?_
            refine r_iald (x := r) (w := (B 4 (r : Int).toNat)) hC X hR 4 rfl rfl (by omega) (by change _ < ((16 : Nat) : Int); omega) rfl dX6_mark_104 ?_
            have q6 : (0 : Int) ≤ (B 4 (r : Int).toNat) ∧ (B 4 (r : Int).toNat) ≤ 128 := hI.b4 (r : Int).toNat
            refine m_aload_n hx hb hL dX6_mark_105 rfl ?_
            refine m_iload_n hx hb hL dX6_mark_106 rfl ?_
            refine r_call hC X hR hf (k_X6_seenIn (x := r) hR hI (by omega)) VX6_73 rfl ⟨by decide, by decide⟩ ⟨by decide, by decide⟩ hL.1 rfl (Nat.le_of_ble_eq_true rfl) dX6_mark_107 (fun μ H locs X hR hf => ?_)
            have hq107 := rSeenIn_b hI r
            refine m_isub hx hb dX6_mark_110 ?_
            refine m_aload_n hx hb hL dX6_mark_111 rfl ?_
            refine r_gets (w := (B 2 0)) hC X hR FX6_51 rfl rfl rfl dX6_mark_112 ?_
            have q7 : (0 : Int) ≤ (B 2 0) ∧ (B 2 0) ≤ 128 := hI.b2 0
            refine m_icmp_le (tgt := 122) hx hb dX6_mark_115 (by decide) (by omega) (by omega) (fun c115 => ?_) (fun c115 => ?_)
            · refine m_aload_n hx hb hL dX6_mark_122 rfl ?_
              refine r_geta hC X hR FX6_7 rfl rfl dX6_mark_123 ?_
              refine m_iload_n hx hb hL dX6_mark_126 rfl ?_
              refine r_iald (x := r) (w := (B 3 (r : Int).toNat)) hC X hR 3 rfl rfl (by omega) (by change _ < ((16 : Nat) : Int); omega) rfl dX6_mark_127 ?_
              have q8 : (0 : Int) ≤ (B 3 (r : Int).toNat) ∧ (B 3 (r : Int).toNat) ≤ 4 := hI.b3 (r : Int).toNat
              refine r_iast (x := r) (v := (B 3 (r : Int).toNat)) hC X hR 3 rfl rfl (by omega) (by change _ < ((16 : Nat) : Int); omega) dX6_mark_128 (fun H locs X hR => ?_)
              have hf := hf.a 3 (r : Int).toNat (iv (B 3 (r : Int).toNat))
              have hI := hI.u3 (r : Int).toNat (v := (B 3 (r : Int).toNat)) ⟨by omega, by omega⟩
              refine m_iincv hx hb hL dX6_mark_129 rfl (fun ls hL => ?_)
              refine lv_goto (tgt := 69) hx hb dX6_mark_132 (by decide) ?_
              exact ih (r + 1) _ _ _ _ ls ⟨by omega, by show _ ≤ B 1 0; omega⟩ (by omega) (by rw [hv, rChoose, if_neg c74]; (first | rw [if_pos (by omega)] | rw [if_neg (by omega)])) hI X hR hf hL
            · refine lv_iconst (v := iv 4) hx hb dX6_mark_118 rfl ?_
              refine lv_goto (tgt := 128) hx hb dX6_mark_119 (by decide) ?_
              refine r_iast (x := r) (v := 4) hC X hR 3 rfl rfl (by omega) (by change _ < ((16 : Nat) : Int); omega) dX6_mark_128 (fun H locs X hR => ?_)
              have hf := hf.a 3 (r : Int).toNat (iv 4)
              have hI := hI.u3 (r : Int).toNat (v := 4) ⟨by omega, by omega⟩
              refine m_iincv hx hb hL dX6_mark_129 rfl (fun ls hL => ?_)
              refine lv_goto (tgt := 69) hx hb dX6_mark_132 (by decide) ?_
              exact ih (r + 1) _ _ _ _ ls ⟨by omega, by show _ ≤ B 1 0; omega⟩ (by omega) (by rw [hv, rChoose, if_neg c74]; (first | rw [if_pos (by omega)] | rw [if_neg (by omega)])) hI X hR hf hL
    exact lq2 20 0 _ _ _ _ ls ⟨by omega, by have := hI.b1 0; omega⟩ (by omega) (by unfold rMark; rw [if_pos c8]) hI X hR hf hL
  · refine m_aload_n hx hb hL dX6_mark_11 rfl ?_
    refine r_geta hC X hR FX6_44 rfl rfl dX6_mark_12 ?_
    refine m_aload_n hx hb hL dX6_mark_15 rfl ?_
    refine r_gets (w := (A 16 0)) hC X hR FX6_63 rfl rfl rfl dX6_mark_16 ?_
    have q9 : (0 : Int) ≤ (A 16 0) ∧ (A 16 0) ≤ 620 := hI.b16 0
    refine r_iald (x := (A 16 0)) (w := (A 15 ((A 16 0) : Int).toNat)) hC X hR 15 rfl rfl (by omega) (by change _ < ((620 : Nat) : Int); omega) rfl dX6_mark_19 ?_
    have q10 : (0 : Int) ≤ (A 15 ((A 16 0) : Int).toNat) ∧ (A 15 ((A 16 0) : Int).toNat) ≤ 619 := hI.b15 ((A 16 0) : Int).toNat
    refine m_istore_n hx hb hL dX6_mark_20 (Nat.le_of_ble_eq_true rfl) (fun ls hL => ?_)
    refine m_aload_n hx hb hL dX6_mark_21 rfl ?_
    refine lv_dup hx hb dX6_mark_22 rfl ?_
    refine r_gets (w := (A 16 0)) hC X hR FX6_63 rfl rfl rfl dX6_mark_23 ?_
    have q11 : (0 : Int) ≤ (A 16 0) ∧ (A 16 0) ≤ 620 := hI.b16 0
    refine lv_iconst (v := iv 1) hx hb dX6_mark_26 rfl ?_
    refine m_iadd hx hb dX6_mark_27 ?_
    refine r_puts (v := ((A 16 0) + 1)) hC X hR FwX6_63 rfl rfl dX6_mark_28 (fun H locs X hR => ?_)
    have hf := hf.s 16 (iv ((A 16 0) + 1))
    have hI := hI.u16 0 (v := ((A 16 0) + 1)) ⟨by omega, by omega⟩
    refine lv_iconst (v := iv 0) hx hb dX6_mark_31 rfl ?_
    refine m_istore_n hx hb hL dX6_mark_32 (Nat.le_of_ble_eq_true rfl) (fun ls hL => ?_)
    have lp : ∀ (f : Nat) (k : Int) (B : rS) (H : Heap) (locs : List Loc) (μ : mM) (ls : Array Slot), 0 ≤ k ∧ k ≤ 20 → B 17 0 < 590 + k → (f : Int) + k = 30 → rMark A = rSeeF (A 15 (A 16 0 : Int).toNat) f k B → RI B → mX G ρ (mA ρ μ0 z) s.heap μ z H locs → RR B μ → rfr μ0 μ → lq ls [some (.ref (ρ 6)), some (.int (iv (A 15 ((A 16 0) : Int).toNat))), some (.int (iv k))] → W p l e (rm 1 23 0 0) s m args below meth c H locs 0 0 (wQ G ρ μ0 z (rP none (rMark A) μ0 z) below args s 0 0) (F0 m 33 ls []) := by
      intro f
      induction f with
      | zero =>
        intro k B H locs μ ls h0 h1 hf1 hv hI X hR hf hL
        omega
      | succ f ih =>
        intro k B H locs μ ls h0 h1 hf1 hv hI X hR hf hL
        have q8 := hI.b17 0
        refine m_iload_n hx hb hL dX6_mark_33 rfl ?_
        refine m_aload_n hx hb hL dX6_mark_34 rfl ?_
        refine r_geta hC X hR FX6_26 rfl rfl dX6_mark_35 ?_
        refine m_iload_n hx hb hL dX6_mark_38 rfl ?_
        refine r_iald (x := (A 15 ((A 16 0) : Int).toNat)) (w := (B 9 ((A 15 ((A 16 0) : Int).toNat) : Int).toNat)) hC X hR 9 rfl rfl (by omega) (by change _ < ((620 : Nat) : Int); omega) rfl dX6_mark_39 ?_
        have q12 : (0 : Int) ≤ (B 9 ((A 15 ((A 16 0) : Int).toNat) : Int).toNat) ∧ (B 9 ((A 15 ((A 16 0) : Int).toNat) : Int).toNat) ≤ 22 := hI.b9 ((A 15 ((A 16 0) : Int).toNat) : Int).toNat
        refine lv_iconst (v := iv 2) hx hb dX6_mark_40 rfl ?_
        refine m_isub hx hb dX6_mark_41 ?_
        refine m_icmp_ge (tgt := 66) hx hb dX6_mark_42 (by decide) (by omega) (by omega) (fun c42 => ?_) (fun c42 => ?_)
        · exact r_vret hC X hR hf hr hlk (by rw [hv, rSeeF, if_pos c42]) dX6_mark_66
        · refine m_aload_n hx hb hL dX6_mark_45 rfl ?_
          refine m_aload_n hx hb hL dX6_mark_46 rfl ?_
          refine r_geta hC X hR FX6_32 rfl rfl dX6_mark_47 ?_
          refine lv_bipush (v := iv 21) hx hb dX6_mark_50 (by decide +kernel) ?_
          refine m_iload_n hx hb hL dX6_mark_52 rfl ?_
          refine m_imul hx hb dX6_mark_53 ?_
          refine m_iload_n hx hb hL dX6_mark_54 rfl ?_
          refine m_iadd hx hb dX6_mark_55 ?_
          refine r_iald (x := ((21 * (A 15 ((A 16 0) : Int).toNat)) + k)) (w := (B 11 (((21 * (A 15 ((A 16 0) : Int).toNat)) + k) : Int).toNat)) hC X hR 11 rfl rfl (by omega) (by change _ < ((13020 : Nat) : Int); omega) rfl dX6_mark_56 ?_
          have q13 : (-1 : Int) ≤ (B 11 (((21 * (A 15 ((A 16 0) : Int).toNat)) + k) : Int).toNat) ∧ (B 11 (((21 * (A 15 ((A 16 0) : Int).toNat)) + k) : Int).toNat) ≤ 619 := hI.b11 (((21 * (A 15 ((A 16 0) : Int).toNat)) + k) : Int).toNat
          have hs : (B 11 (((21 * (A 15 ((A 16 0) : Int).toNat)) + k) : Int).toNat) ≠ -1 → B 12 ((B 11 (((21 * (A 15 ((A 16 0) : Int).toNat)) + k) : Int).toNat) : Int).toNat = 0 → B 17 0 < 620 := fun _ _ => by omega
          refine r_call hC X hR hf (k_X6_see (x := (B 11 (((21 * (A 15 ((A 16 0) : Int).toNat)) + k) : Int).toNat)) hR hI (by omega) hs) VX6_66 rfl ⟨by decide, by decide⟩ ⟨by decide, by decide⟩ hL.1 rfl (Nat.le_of_ble_eq_true rfl) dX6_mark_57 (fun μ H locs X hR hf => ?_)
          have hk17 := rSee_17 B ((B 11 (((21 * (A 15 ((A 16 0) : Int).toNat)) + k) : Int).toNat))
          have hI := rSee_I hI (x := (B 11 (((21 * (A 15 ((A 16 0) : Int).toNat)) + k) : Int).toNat)) (by omega) (by omega)
          refine m_iincv hx hb hL dX6_mark_60 rfl (fun ls hL => ?_)
          refine lv_goto (tgt := 33) hx hb dX6_mark_63 (by decide) ?_
          exact ih (k + 1) _ _ _ _ ls ⟨by omega, by omega⟩ (by omega) (by omega) (by rw [hv, rSeeF, if_neg c42]) hI X hR hf hL
    exact lp 30 0 _ _ _ _ ls ⟨by omega, by omega⟩ (by show A 17 0 < _; omega) (by omega) (by unfold rMark; rw [if_neg c8]) hI X hR hf hL

set_option maxHeartbeats 4000000 in
theorem k_X6_carry {G : mG} {l : Launch} {z : Nat} {ρ : Nat → Nat} {μ0 : mM} {A : rS} {x : Int} (hR : RR A μ0) (hI : RI A) (hx1 : 0 ≤ x ∧ x < 620) : MR G l yX6_carry cX6_carry 4 none 1 22 z ρ [.ref (ρ 6), .int (iv x)] μ0 none (rCarry A x) := by
  refine MR.of hR (by decide) (by simp [Value.category]) (Nat.le_of_ble_eq_true rfl) (Nat.le_of_ble_eq_true rfl) ?_
  intro p e s m args below meth c ls H locs μ hC hx hb hr hlk X hR hf hL
  refine m_aload_n hx hb hL dX6_carry_0 rfl ?_
  refine lv_iconst (v := iv 2) hx hb dX6_carry_1 rfl ?_
  refine r_call hC X hR hf (k_X6_withState (x := 2) hR hI (by decide)) VX6_77 rfl ⟨by decide, by decide⟩ ⟨by decide, by decide⟩ hL.1 rfl (Nat.le_of_ble_eq_true rfl) dX6_carry_2 (fun μ H locs X hR hf => ?_)
  have hq2 := rWith_b hI (2)
  refine m_istore_n hx hb hL dX6_carry_5 (Nat.le_of_ble_eq_true rfl) (fun ls hL => ?_)
  refine m_iload_n hx hb hL dX6_carry_6 rfl ?_
  refine lv_iconst (v := iv (-1)) hx hb dX6_carry_7 rfl ?_
  refine m_icmp_eq (tgt := 30) hx hb dX6_carry_8 (by decide) (by omega) (by omega) (fun c8 => ?_) (fun c8 => ?_)
  · refine m_aload_n hx hb hL dX6_carry_30 rfl ?_
    refine lv_iconst (v := iv 0) hx hb dX6_carry_31 rfl ?_
    refine r_call hC X hR hf (k_X6_withState (x := 0) hR hI (by decide)) VX6_77 rfl ⟨by decide, by decide⟩ ⟨by decide, by decide⟩ hL.1 rfl (Nat.le_of_ble_eq_true rfl) dX6_carry_32 (fun μ H locs X hR hf => ?_)
    have hq32 := rWith_b hI (0)
    refine m_istore_n hx hb hL dX6_carry_35 (Nat.le_of_ble_eq_true rfl) (fun ls hL => ?_)
    refine m_iload_n hx hb hL dX6_carry_36 rfl ?_
    refine lv_iconst (v := iv (-1)) hx hb dX6_carry_37 rfl ?_
    refine m_icmp_ne (tgt := 71) hx hb dX6_carry_38 (by decide) (by omega) (by omega) (fun c38 => ?_) (fun c38 => ?_)
    · refine m_iload_n hx hb hL dX6_carry_71 rfl ?_
      refine lv_iconst (v := iv (-1)) hx hb dX6_carry_72 rfl ?_
      refine m_icmp_eq (tgt := 83) hx hb dX6_carry_73 (by decide) (by omega) (by omega) (fun c73 => ?_) (fun c73 => ?_)
      · refine m_aload_n hx hb hL dX6_carry_83 rfl ?_
        refine r_geta hC X hR FX6_7 rfl rfl dX6_carry_84 ?_
        refine m_iload_n hx hb hL dX6_carry_87 rfl ?_
        refine lv_iconst (v := iv 2) hx hb dX6_carry_88 rfl ?_
        refine r_iast (x := (rWith A 0)) (v := 2) hC X hR 3 rfl rfl (by omega) (by change _ < ((16 : Nat) : Int); omega) dX6_carry_89 (fun H locs X hR => ?_)
        have hf := hf.a 3 ((rWith A 0) : Int).toNat (iv 2)
        have hI := hI.u3 ((rWith A 0) : Int).toNat (v := 2) ⟨by omega, by omega⟩
        refine m_aload_n hx hb hL dX6_carry_90 rfl ?_
        refine r_geta hC X hR FX6_13 rfl rfl dX6_carry_91 ?_
        refine m_iload_n hx hb hL dX6_carry_94 rfl ?_
        refine lv_iconst (v := iv 0) hx hb dX6_carry_95 rfl ?_
        refine r_iast (x := (rWith A 0)) (v := 0) hC X hR 4 rfl rfl (by omega) (by change _ < ((16 : Nat) : Int); omega) dX6_carry_96 (fun H locs X hR => ?_)
        have hf := hf.a 4 ((rWith A 0) : Int).toNat (iv 0)
        have hI := hI.u4 ((rWith A 0) : Int).toNat (v := 0) ⟨by omega, by omega⟩
        refine m_iload_n hx hb hL dX6_carry_97 rfl ?_
        refine m_istore_n hx hb hL dX6_carry_98 (Nat.le_of_ble_eq_true rfl) (fun ls hL => ?_)
        refine m_aload_n hx hb hL dX6_carry_99 rfl ?_
        refine r_geta hC X hR FX6_20 rfl rfl dX6_carry_100 ?_
        refine m_iload_n hx hb hL dX6_carry_103 rfl ?_
        refine m_iload_n hx hb hL dX6_carry_104 rfl ?_
        refine r_iast (x := x) (v := (rWith A 0)) hC X hR 7 rfl rfl (by omega) (by change _ < ((620 : Nat) : Int); omega) dX6_carry_105 (fun H locs X hR => ?_)
        have hf := hf.a 7 (x : Int).toNat (iv (rWith A 0))
        have hI := hI.u7 (x : Int).toNat (v := (rWith A 0)) ⟨by omega, by omega⟩
        refine m_aload_n hx hb hL dX6_carry_106 rfl ?_
        refine r_geta hC X hR FX6_23 rfl rfl dX6_carry_107 ?_
        refine m_iload_n hx hb hL dX6_carry_110 rfl ?_
        refine m_aload_n hx hb hL dX6_carry_111 rfl ?_
        refine r_geta hC X hR FX6_13 rfl rfl dX6_carry_112 ?_
        refine m_iload_n hx hb hL dX6_carry_115 rfl ?_
        refine r_iald (x := (rWith A 0)) (w := 0) hC X hR 4 rfl rfl (by omega) (by change _ < ((16 : Nat) : Int); omega) (by simp [up]) dX6_carry_116 ?_
        refine r_iast (x := x) (v := 0) hC X hR 8 rfl rfl (by omega) (by change _ < ((620 : Nat) : Int); omega) dX6_carry_117 (fun H locs X hR => ?_)
        have hf := hf.a 8 (x : Int).toNat (iv 0)
        have hI := hI.u8 (x : Int).toNat (v := 0) ⟨by omega, by omega⟩
        refine m_aload_n hx hb hL dX6_carry_118 rfl ?_
        refine r_geta hC X hR FX6_13 rfl rfl dX6_carry_119 ?_
        refine m_iload_n hx hb hL dX6_carry_122 rfl ?_
        refine m_aload_n hx hb hL dX6_carry_123 rfl ?_
        refine r_geta hC X hR FX6_13 rfl rfl dX6_carry_124 ?_
        refine m_iload_n hx hb hL dX6_carry_127 rfl ?_
        refine r_iald (x := (rWith A 0)) (w := 0) hC X hR 4 rfl rfl (by omega) (by change _ < ((16 : Nat) : Int); omega) (by simp [up]) dX6_carry_128 ?_
        refine m_aload_n hx hb hL dX6_carry_129 rfl ?_
        refine r_geta hC X hR FX6_26 rfl rfl dX6_carry_130 ?_
        refine m_iload_n hx hb hL dX6_carry_133 rfl ?_
        refine r_iald (x := x) (w := (A 9 (x : Int).toNat)) hC X hR 9 rfl rfl (by omega) (by change _ < ((620 : Nat) : Int); omega) rfl dX6_carry_134 ?_
        have q1 : (0 : Int) ≤ (A 9 (x : Int).toNat) ∧ (A 9 (x : Int).toNat) ≤ 22 := hI.b9 (x : Int).toNat
        refine m_iadd hx hb dX6_carry_135 ?_
        refine r_iast (x := (rWith A 0)) (v := (0 + (A 9 (x : Int).toNat))) hC X hR 4 rfl rfl (by omega) (by change _ < ((16 : Nat) : Int); omega) dX6_carry_136 (fun H locs X hR => ?_)
        have hf := hf.a 4 ((rWith A 0) : Int).toNat (iv (0 + (A 9 (x : Int).toNat)))
        have hI := hI.u4 ((rWith A 0) : Int).toNat (v := (0 + (A 9 (x : Int).toNat))) ⟨by omega, by omega⟩
        refine m_aload_n hx hb hL dX6_carry_137 rfl ?_
        refine lv_dup hx hb dX6_carry_138 rfl ?_
        refine r_gets (w := (A 20 0)) hC X hR FX6_83 rfl rfl rfl dX6_carry_139 ?_
        refine lv_iconst (v := iv 1) hx hb dX6_carry_142 rfl ?_
        refine m_iadd hx hb dX6_carry_143 ?_
        refine r_puts (v := ((A 20 0) + 1)) hC X hR FwX6_83 rfl rfl dX6_carry_144 (fun H locs X hR => ?_)
        have hf := hf.s 20 (iv ((A 20 0) + 1))
        have hI := hI.u20 0 (v := ((A 20 0) + 1))
        exact r_vret hC X hR hf hr hlk (by first | (exfalso; omega) | (unfold rCarry; (first | rw [if_pos (by omega)] | rw [if_neg (by omega)]); (try (first | rw [if_pos (by omega)] | rw [if_neg (by omega)])); (try (first | rw [if_pos (by omega)] | rw [if_neg (by omega)])); (try simp [rInto, up_s, up_k]))) dX6_carry_147
      · refine m_aload_n hx hb hL dX6_carry_76 rfl ?_
        refine r_geta hC X hR FX6_7 rfl rfl dX6_carry_77 ?_
        refine m_iload_n hx hb hL dX6_carry_80 rfl ?_
        refine lv_iconst (v := iv 3) hx hb dX6_carry_81 rfl ?_
        refine r_iast (x := (rWith A 2)) (v := 3) hC X hR 3 rfl rfl (by omega) (by change _ < ((16 : Nat) : Int); omega) dX6_carry_82 (fun H locs X hR => ?_)
        have hf := hf.a 3 ((rWith A 2) : Int).toNat (iv 3)
        have hI := hI.u3 ((rWith A 2) : Int).toNat (v := 3) ⟨by omega, by omega⟩
        refine m_aload_n hx hb hL dX6_carry_83 rfl ?_
        refine r_geta hC X hR FX6_7 rfl rfl dX6_carry_84 ?_
        refine m_iload_n hx hb hL dX6_carry_87 rfl ?_
        refine lv_iconst (v := iv 2) hx hb dX6_carry_88 rfl ?_
        refine r_iast (x := (rWith A 0)) (v := 2) hC X hR 3 rfl rfl (by omega) (by change _ < ((16 : Nat) : Int); omega) dX6_carry_89 (fun H locs X hR => ?_)
        have hf := hf.a 3 ((rWith A 0) : Int).toNat (iv 2)
        have hI := hI.u3 ((rWith A 0) : Int).toNat (v := 2) ⟨by omega, by omega⟩
        refine m_aload_n hx hb hL dX6_carry_90 rfl ?_
        refine r_geta hC X hR FX6_13 rfl rfl dX6_carry_91 ?_
        refine m_iload_n hx hb hL dX6_carry_94 rfl ?_
        refine lv_iconst (v := iv 0) hx hb dX6_carry_95 rfl ?_
        refine r_iast (x := (rWith A 0)) (v := 0) hC X hR 4 rfl rfl (by omega) (by change _ < ((16 : Nat) : Int); omega) dX6_carry_96 (fun H locs X hR => ?_)
        have hf := hf.a 4 ((rWith A 0) : Int).toNat (iv 0)
        have hI := hI.u4 ((rWith A 0) : Int).toNat (v := 0) ⟨by omega, by omega⟩
        refine m_iload_n hx hb hL dX6_carry_97 rfl ?_
        refine m_istore_n hx hb hL dX6_carry_98 (Nat.le_of_ble_eq_true rfl) (fun ls hL => ?_)
        refine m_aload_n hx hb hL dX6_carry_99 rfl ?_
        refine r_geta hC X hR FX6_20 rfl rfl dX6_carry_100 ?_
        refine m_iload_n hx hb hL dX6_carry_103 rfl ?_
        refine m_iload_n hx hb hL dX6_carry_104 rfl ?_
        refine r_iast (x := x) (v := (rWith A 0)) hC X hR 7 rfl rfl (by omega) (by change _ < ((620 : Nat) : Int); omega) dX6_carry_105 (fun H locs X hR => ?_)
        have hf := hf.a 7 (x : Int).toNat (iv (rWith A 0))
        have hI := hI.u7 (x : Int).toNat (v := (rWith A 0)) ⟨by omega, by omega⟩
        refine m_aload_n hx hb hL dX6_carry_106 rfl ?_
        refine r_geta hC X hR FX6_23 rfl rfl dX6_carry_107 ?_
        refine m_iload_n hx hb hL dX6_carry_110 rfl ?_
        refine m_aload_n hx hb hL dX6_carry_111 rfl ?_
        refine r_geta hC X hR FX6_13 rfl rfl dX6_carry_112 ?_
        refine m_iload_n hx hb hL dX6_carry_115 rfl ?_
        refine r_iald (x := (rWith A 0)) (w := 0) hC X hR 4 rfl rfl (by omega) (by change _ < ((16 : Nat) : Int); omega) (by simp [up]) dX6_carry_116 ?_
        refine r_iast (x := x) (v := 0) hC X hR 8 rfl rfl (by omega) (by change _ < ((620 : Nat) : Int); omega) dX6_carry_117 (fun H locs X hR => ?_)
        have hf := hf.a 8 (x : Int).toNat (iv 0)
        have hI := hI.u8 (x : Int).toNat (v := 0) ⟨by omega, by omega⟩
        refine m_aload_n hx hb hL dX6_carry_118 rfl ?_
        refine r_geta hC X hR FX6_13 rfl rfl dX6_carry_119 ?_
        refine m_iload_n hx hb hL dX6_carry_122 rfl ?_
        refine m_aload_n hx hb hL dX6_carry_123 rfl ?_
        refine r_geta hC X hR FX6_13 rfl rfl dX6_carry_124 ?_
        refine m_iload_n hx hb hL dX6_carry_127 rfl ?_
        refine r_iald (x := (rWith A 0)) (w := 0) hC X hR 4 rfl rfl (by omega) (by change _ < ((16 : Nat) : Int); omega) (by simp [up]) dX6_carry_128 ?_
        refine m_aload_n hx hb hL dX6_carry_129 rfl ?_
        refine r_geta hC X hR FX6_26 rfl rfl dX6_carry_130 ?_
        refine m_iload_n hx hb hL dX6_carry_133 rfl ?_
        refine r_iald (x := x) (w := (A 9 (x : Int).toNat)) hC X hR 9 rfl rfl (by omega) (by change _ < ((620 : Nat) : Int); omega) rfl dX6_carry_134 ?_
        have q2 : (0 : Int) ≤ (A 9 (x : Int).toNat) ∧ (A 9 (x : Int).toNat) ≤ 22 := hI.b9 (x : Int).toNat
        refine m_iadd hx hb dX6_carry_135 ?_
        refine r_iast (x := (rWith A 0)) (v := (0 + (A 9 (x : Int).toNat))) hC X hR 4 rfl rfl (by omega) (by change _ < ((16 : Nat) : Int); omega) dX6_carry_136 (fun H locs X hR => ?_)
        have hf := hf.a 4 ((rWith A 0) : Int).toNat (iv (0 + (A 9 (x : Int).toNat)))
        have hI := hI.u4 ((rWith A 0) : Int).toNat (v := (0 + (A 9 (x : Int).toNat))) ⟨by omega, by omega⟩
        refine m_aload_n hx hb hL dX6_carry_137 rfl ?_
        refine lv_dup hx hb dX6_carry_138 rfl ?_
        refine r_gets (w := (A 20 0)) hC X hR FX6_83 rfl rfl rfl dX6_carry_139 ?_
        refine lv_iconst (v := iv 1) hx hb dX6_carry_142 rfl ?_
        refine m_iadd hx hb dX6_carry_143 ?_
        refine r_puts (v := ((A 20 0) + 1)) hC X hR FwX6_83 rfl rfl dX6_carry_144 (fun H locs X hR => ?_)
        have hf := hf.s 20 (iv ((A 20 0) + 1))
        have hI := hI.u20 0 (v := ((A 20 0) + 1))
        exact r_vret hC X hR hf hr hlk (by first | (exfalso; omega) | (unfold rCarry; (first | rw [if_pos (by omega)] | rw [if_neg (by omega)]); (try (first | rw [if_pos (by omega)] | rw [if_neg (by omega)])); (try (first | rw [if_pos (by omega)] | rw [if_neg (by omega)])); (try simp [rInto, up_s, up_k]))) dX6_carry_147
    · refine m_aload_n hx hb hL dX6_carry_41 rfl ?_
      refine r_geta hC X hR FX6_38 rfl rfl dX6_carry_42 ?_
      refine m_iload_n hx hb hL dX6_carry_45 rfl ?_
      refine lv_iconst (v := iv 1) hx hb dX6_carry_46 rfl ?_
      refine r_zast (x := x) (v := 1) hC X hR 13 rfl rfl (by omega) (by change _ < ((620 : Nat) : Int); omega) (by omega) dX6_carry_47 (fun H locs X hR => ?_)
      have hf := hf.a 13 (x : Int).toNat (iv 1)
      have hI := hI.u13 (x : Int).toNat (v := 1) ⟨by omega, by omega⟩
      refine m_aload_n hx hb hL dX6_carry_48 rfl ?_
      refine r_geta hC X hR FX6_16 rfl rfl dX6_carry_49 ?_
      refine m_aload_n hx hb hL dX6_carry_52 rfl ?_
      refine r_geta hC X hR FX6_20 rfl rfl dX6_carry_53 ?_
      refine m_iload_n hx hb hL dX6_carry_56 rfl ?_
      refine r_iald (x := x) (w := (A 7 (x : Int).toNat)) hC X hR 7 rfl rfl (by omega) (by change _ < ((620 : Nat) : Int); omega) rfl dX6_carry_57 ?_
      have q3 : (0 : Int) ≤ (A 7 (x : Int).toNat) ∧ (A 7 (x : Int).toNat) ≤ 15 := hI.b7 (x : Int).toNat
      refine lv_iconst (v := iv 1) hx hb dX6_carry_58 rfl ?_
      refine r_zast (x := (A 7 (x : Int).toNat)) (v := 1) hC X hR 5 rfl rfl (by omega) (by change _ < ((16 : Nat) : Int); omega) (by omega) dX6_carry_59 (fun H locs X hR => ?_)
      have hf := hf.a 5 ((A 7 (x : Int).toNat) : Int).toNat (iv 1)
      have hI := hI.u5 ((A 7 (x : Int).toNat) : Int).toNat (v := 1) ⟨by omega, by omega⟩
      refine m_aload_n hx hb hL dX6_carry_60 rfl ?_
      refine lv_dup hx hb dX6_carry_61 rfl ?_
      refine r_gets (w := (A 21 0)) hC X hR FX6_80 rfl rfl rfl dX6_carry_62 ?_
      refine lv_iconst (v := iv 1) hx hb dX6_carry_65 rfl ?_
      refine m_iadd hx hb dX6_carry_66 ?_
      refine r_puts (v := ((A 21 0) + 1)) hC X hR FwX6_80 rfl rfl dX6_carry_67 (fun H locs X hR => ?_)
      have hf := hf.s 21 (iv ((A 21 0) + 1))
      have hI := hI.u21 0 (v := ((A 21 0) + 1))
      exact r_vret hC X hR hf hr hlk (by first | (exfalso; omega) | (unfold rCarry; (first | rw [if_pos (by omega)] | rw [if_neg (by omega)]); (try (first | rw [if_pos (by omega)] | rw [if_neg (by omega)])); (try (first | rw [if_pos (by omega)] | rw [if_neg (by omega)])); (try simp [rInto, up_s, up_k]))) dX6_carry_70
  · refine m_aload_n hx hb hL dX6_carry_11 rfl ?_
    refine r_geta hC X hR FX6_13 rfl rfl dX6_carry_12 ?_
    refine m_iload_n hx hb hL dX6_carry_15 rfl ?_
    refine r_iald (x := (rWith A 2)) (w := (A 4 ((rWith A 2) : Int).toNat)) hC X hR 4 rfl rfl (by omega) (by change _ < ((16 : Nat) : Int); omega) rfl dX6_carry_16 ?_
    have q4 : (0 : Int) ≤ (A 4 ((rWith A 2) : Int).toNat) ∧ (A 4 ((rWith A 2) : Int).toNat) ≤ 128 := hI.b4 ((rWith A 2) : Int).toNat
    refine m_aload_n hx hb hL dX6_carry_17 rfl ?_
    refine r_geta hC X hR FX6_26 rfl rfl dX6_carry_18 ?_
    refine m_iload_n hx hb hL dX6_carry_21 rfl ?_
    refine r_iald (x := x) (w := (A 9 (x : Int).toNat)) hC X hR 9 rfl rfl (by omega) (by change _ < ((620 : Nat) : Int); omega) rfl dX6_carry_22 ?_
    have q5 : (0 : Int) ≤ (A 9 (x : Int).toNat) ∧ (A 9 (x : Int).toNat) ≤ 22 := hI.b9 (x : Int).toNat
    refine m_iadd hx hb dX6_carry_23 ?_
    refine lv_sipush (v := iv 128) hx hb dX6_carry_24 (by decide +kernel) ?_
    refine m_icmp_le (tgt := 99) hx hb dX6_carry_27 (by decide) (by omega) (by omega) (fun c27 => ?_) (fun c27 => ?_)
    · refine m_aload_n hx hb hL dX6_carry_99 rfl ?_
      refine r_geta hC X hR FX6_20 rfl rfl dX6_carry_100 ?_
      refine m_iload_n hx hb hL dX6_carry_103 rfl ?_
      refine m_iload_n hx hb hL dX6_carry_104 rfl ?_
      refine r_iast (x := x) (v := (rWith A 2)) hC X hR 7 rfl rfl (by omega) (by change _ < ((620 : Nat) : Int); omega) dX6_carry_105 (fun H locs X hR => ?_)
      have hf := hf.a 7 (x : Int).toNat (iv (rWith A 2))
      have hI := hI.u7 (x : Int).toNat (v := (rWith A 2)) ⟨by omega, by omega⟩
      refine m_aload_n hx hb hL dX6_carry_106 rfl ?_
      refine r_geta hC X hR FX6_23 rfl rfl dX6_carry_107 ?_
      refine m_iload_n hx hb hL dX6_carry_110 rfl ?_
      refine m_aload_n hx hb hL dX6_carry_111 rfl ?_
      refine r_geta hC X hR FX6_13 rfl rfl dX6_carry_112 ?_
      refine m_iload_n hx hb hL dX6_carry_115 rfl ?_
      refine r_iald (x := (rWith A 2)) (w := (A 4 ((rWith A 2) : Int).toNat)) hC X hR 4 rfl rfl (by omega) (by change _ < ((16 : Nat) : Int); omega) rfl dX6_carry_116 ?_
      have q6 : (0 : Int) ≤ (A 4 ((rWith A 2) : Int).toNat) ∧ (A 4 ((rWith A 2) : Int).toNat) ≤ 128 := hI.b4 ((rWith A 2) : Int).toNat
      refine r_iast (x := x) (v := (A 4 ((rWith A 2) : Int).toNat)) hC X hR 8 rfl rfl (by omega) (by change _ < ((620 : Nat) : Int); omega) dX6_carry_117 (fun H locs X hR => ?_)
      have hf := hf.a 8 (x : Int).toNat (iv (A 4 ((rWith A 2) : Int).toNat))
      have hI := hI.u8 (x : Int).toNat (v := (A 4 ((rWith A 2) : Int).toNat)) ⟨by omega, by omega⟩
      refine m_aload_n hx hb hL dX6_carry_118 rfl ?_
      refine r_geta hC X hR FX6_13 rfl rfl dX6_carry_119 ?_
      refine m_iload_n hx hb hL dX6_carry_122 rfl ?_
      refine m_aload_n hx hb hL dX6_carry_123 rfl ?_
      refine r_geta hC X hR FX6_13 rfl rfl dX6_carry_124 ?_
      refine m_iload_n hx hb hL dX6_carry_127 rfl ?_
      refine r_iald (x := (rWith A 2)) (w := (A 4 ((rWith A 2) : Int).toNat)) hC X hR 4 rfl rfl (by omega) (by change _ < ((16 : Nat) : Int); omega) rfl dX6_carry_128 ?_
      have q7 : (0 : Int) ≤ (A 4 ((rWith A 2) : Int).toNat) ∧ (A 4 ((rWith A 2) : Int).toNat) ≤ 128 := hI.b4 ((rWith A 2) : Int).toNat
      refine m_aload_n hx hb hL dX6_carry_129 rfl ?_
      refine r_geta hC X hR FX6_26 rfl rfl dX6_carry_130 ?_
      refine m_iload_n hx hb hL dX6_carry_133 rfl ?_
      refine r_iald (x := x) (w := (A 9 (x : Int).toNat)) hC X hR 9 rfl rfl (by omega) (by change _ < ((620 : Nat) : Int); omega) rfl dX6_carry_134 ?_
      have q8 : (0 : Int) ≤ (A 9 (x : Int).toNat) ∧ (A 9 (x : Int).toNat) ≤ 22 := hI.b9 (x : Int).toNat
      refine m_iadd hx hb dX6_carry_135 ?_
      refine r_iast (x := (rWith A 2)) (v := ((A 4 ((rWith A 2) : Int).toNat) + (A 9 (x : Int).toNat))) hC X hR 4 rfl rfl (by omega) (by change _ < ((16 : Nat) : Int); omega) dX6_carry_136 (fun H locs X hR => ?_)
      have hf := hf.a 4 ((rWith A 2) : Int).toNat (iv ((A 4 ((rWith A 2) : Int).toNat) + (A 9 (x : Int).toNat)))
      have hI := hI.u4 ((rWith A 2) : Int).toNat (v := ((A 4 ((rWith A 2) : Int).toNat) + (A 9 (x : Int).toNat))) ⟨by omega, by omega⟩
      refine m_aload_n hx hb hL dX6_carry_137 rfl ?_
      refine lv_dup hx hb dX6_carry_138 rfl ?_
      refine r_gets (w := (A 20 0)) hC X hR FX6_83 rfl rfl rfl dX6_carry_139 ?_
      refine lv_iconst (v := iv 1) hx hb dX6_carry_142 rfl ?_
      refine m_iadd hx hb dX6_carry_143 ?_
      refine r_puts (v := ((A 20 0) + 1)) hC X hR FwX6_83 rfl rfl dX6_carry_144 (fun H locs X hR => ?_)
      have hf := hf.s 20 (iv ((A 20 0) + 1))
      have hI := hI.u20 0 (v := ((A 20 0) + 1))
      exact r_vret hC X hR hf hr hlk (by first | (exfalso; omega) | (unfold rCarry; (first | rw [if_pos (by omega)] | rw [if_neg (by omega)]); (try (first | rw [if_pos (by omega)] | rw [if_neg (by omega)])); (try (first | rw [if_pos (by omega)] | rw [if_neg (by omega)])); (try simp [rInto, up_s, up_k]))) dX6_carry_147
    · refine m_aload_n hx hb hL dX6_carry_30 rfl ?_
      refine lv_iconst (v := iv 0) hx hb dX6_carry_31 rfl ?_
      refine r_call hC X hR hf (k_X6_withState (x := 0) hR hI (by decide)) VX6_77 rfl ⟨by decide, by decide⟩ ⟨by decide, by decide⟩ hL.1 rfl (Nat.le_of_ble_eq_true rfl) dX6_carry_32 (fun μ H locs X hR hf => ?_)
      have hq32 := rWith_b hI (0)
      refine m_istore_n hx hb hL dX6_carry_35 (Nat.le_of_ble_eq_true rfl) (fun ls hL => ?_)
      refine m_iload_n hx hb hL dX6_carry_36 rfl ?_
      refine lv_iconst (v := iv (-1)) hx hb dX6_carry_37 rfl ?_
      refine m_icmp_ne (tgt := 71) hx hb dX6_carry_38 (by decide) (by omega) (by omega) (fun c38 => ?_) (fun c38 => ?_)
      · refine m_iload_n hx hb hL dX6_carry_71 rfl ?_
        refine lv_iconst (v := iv (-1)) hx hb dX6_carry_72 rfl ?_
        refine m_icmp_eq (tgt := 83) hx hb dX6_carry_73 (by decide) (by omega) (by omega) (fun c73 => ?_) (fun c73 => ?_)
        · refine m_aload_n hx hb hL dX6_carry_83 rfl ?_
          refine r_geta hC X hR FX6_7 rfl rfl dX6_carry_84 ?_
          refine m_iload_n hx hb hL dX6_carry_87 rfl ?_
          refine lv_iconst (v := iv 2) hx hb dX6_carry_88 rfl ?_
          refine r_iast (x := (rWith A 0)) (v := 2) hC X hR 3 rfl rfl (by omega) (by change _ < ((16 : Nat) : Int); omega) dX6_carry_89 (fun H locs X hR => ?_)
          have hf := hf.a 3 ((rWith A 0) : Int).toNat (iv 2)
          have hI := hI.u3 ((rWith A 0) : Int).toNat (v := 2) ⟨by omega, by omega⟩
          refine m_aload_n hx hb hL dX6_carry_90 rfl ?_
          refine r_geta hC X hR FX6_13 rfl rfl dX6_carry_91 ?_
          refine m_iload_n hx hb hL dX6_carry_94 rfl ?_
          refine lv_iconst (v := iv 0) hx hb dX6_carry_95 rfl ?_
          refine r_iast (x := (rWith A 0)) (v := 0) hC X hR 4 rfl rfl (by omega) (by change _ < ((16 : Nat) : Int); omega) dX6_carry_96 (fun H locs X hR => ?_)
          have hf := hf.a 4 ((rWith A 0) : Int).toNat (iv 0)
          have hI := hI.u4 ((rWith A 0) : Int).toNat (v := 0) ⟨by omega, by omega⟩
          refine m_iload_n hx hb hL dX6_carry_97 rfl ?_
          refine m_istore_n hx hb hL dX6_carry_98 (Nat.le_of_ble_eq_true rfl) (fun ls hL => ?_)
          refine m_aload_n hx hb hL dX6_carry_99 rfl ?_
          refine r_geta hC X hR FX6_20 rfl rfl dX6_carry_100 ?_
          refine m_iload_n hx hb hL dX6_carry_103 rfl ?_
          refine m_iload_n hx hb hL dX6_carry_104 rfl ?_
          refine r_iast (x := x) (v := (rWith A 0)) hC X hR 7 rfl rfl (by omega) (by change _ < ((620 : Nat) : Int); omega) dX6_carry_105 (fun H locs X hR => ?_)
          have hf := hf.a 7 (x : Int).toNat (iv (rWith A 0))
          have hI := hI.u7 (x : Int).toNat (v := (rWith A 0)) ⟨by omega, by omega⟩
          refine m_aload_n hx hb hL dX6_carry_106 rfl ?_
          refine r_geta hC X hR FX6_23 rfl rfl dX6_carry_107 ?_
          refine m_iload_n hx hb hL dX6_carry_110 rfl ?_
          refine m_aload_n hx hb hL dX6_carry_111 rfl ?_
          refine r_geta hC X hR FX6_13 rfl rfl dX6_carry_112 ?_
          refine m_iload_n hx hb hL dX6_carry_115 rfl ?_
          refine r_iald (x := (rWith A 0)) (w := 0) hC X hR 4 rfl rfl (by omega) (by change _ < ((16 : Nat) : Int); omega) (by simp [up]) dX6_carry_116 ?_
          refine r_iast (x := x) (v := 0) hC X hR 8 rfl rfl (by omega) (by change _ < ((620 : Nat) : Int); omega) dX6_carry_117 (fun H locs X hR => ?_)
          have hf := hf.a 8 (x : Int).toNat (iv 0)
          have hI := hI.u8 (x : Int).toNat (v := 0) ⟨by omega, by omega⟩
          refine m_aload_n hx hb hL dX6_carry_118 rfl ?_
          refine r_geta hC X hR FX6_13 rfl rfl dX6_carry_119 ?_
          refine m_iload_n hx hb hL dX6_carry_122 rfl ?_
          refine m_aload_n hx hb hL dX6_carry_123 rfl ?_
          refine r_geta hC X hR FX6_13 rfl rfl dX6_carry_124 ?_
          refine m_iload_n hx hb hL dX6_carry_127 rfl ?_
          refine r_iald (x := (rWith A 0)) (w := 0) hC X hR 4 rfl rfl (by omega) (by change _ < ((16 : Nat) : Int); omega) (by simp [up]) dX6_carry_128 ?_
          refine m_aload_n hx hb hL dX6_carry_129 rfl ?_
          refine r_geta hC X hR FX6_26 rfl rfl dX6_carry_130 ?_
          refine m_iload_n hx hb hL dX6_carry_133 rfl ?_
          refine r_iald (x := x) (w := (A 9 (x : Int).toNat)) hC X hR 9 rfl rfl (by omega) (by change _ < ((620 : Nat) : Int); omega) rfl dX6_carry_134 ?_
          have q9 : (0 : Int) ≤ (A 9 (x : Int).toNat) ∧ (A 9 (x : Int).toNat) ≤ 22 := hI.b9 (x : Int).toNat
          refine m_iadd hx hb dX6_carry_135 ?_
          refine r_iast (x := (rWith A 0)) (v := (0 + (A 9 (x : Int).toNat))) hC X hR 4 rfl rfl (by omega) (by change _ < ((16 : Nat) : Int); omega) dX6_carry_136 (fun H locs X hR => ?_)
          have hf := hf.a 4 ((rWith A 0) : Int).toNat (iv (0 + (A 9 (x : Int).toNat)))
          have hI := hI.u4 ((rWith A 0) : Int).toNat (v := (0 + (A 9 (x : Int).toNat))) ⟨by omega, by omega⟩
          refine m_aload_n hx hb hL dX6_carry_137 rfl ?_
          refine lv_dup hx hb dX6_carry_138 rfl ?_
          refine r_gets (w := (A 20 0)) hC X hR FX6_83 rfl rfl rfl dX6_carry_139 ?_
          refine lv_iconst (v := iv 1) hx hb dX6_carry_142 rfl ?_
          refine m_iadd hx hb dX6_carry_143 ?_
          refine r_puts (v := ((A 20 0) + 1)) hC X hR FwX6_83 rfl rfl dX6_carry_144 (fun H locs X hR => ?_)
          have hf := hf.s 20 (iv ((A 20 0) + 1))
          have hI := hI.u20 0 (v := ((A 20 0) + 1))
          exact r_vret hC X hR hf hr hlk (by first | (exfalso; omega) | (unfold rCarry; (first | rw [if_pos (by omega)] | rw [if_neg (by omega)]); (try (first | rw [if_pos (by omega)] | rw [if_neg (by omega)])); (try (first | rw [if_pos (by omega)] | rw [if_neg (by omega)])); (try simp [rInto, up_s, up_k]))) dX6_carry_147
        · refine m_aload_n hx hb hL dX6_carry_76 rfl ?_
          refine r_geta hC X hR FX6_7 rfl rfl dX6_carry_77 ?_
          refine m_iload_n hx hb hL dX6_carry_80 rfl ?_
          refine lv_iconst (v := iv 3) hx hb dX6_carry_81 rfl ?_
          refine r_iast (x := (rWith A 2)) (v := 3) hC X hR 3 rfl rfl (by omega) (by change _ < ((16 : Nat) : Int); omega) dX6_carry_82 (fun H locs X hR => ?_)
          have hf := hf.a 3 ((rWith A 2) : Int).toNat (iv 3)
          have hI := hI.u3 ((rWith A 2) : Int).toNat (v := 3) ⟨by omega, by omega⟩
          refine m_aload_n hx hb hL dX6_carry_83 rfl ?_
          refine r_geta hC X hR FX6_7 rfl rfl dX6_carry_84 ?_
          refine m_iload_n hx hb hL dX6_carry_87 rfl ?_
          refine lv_iconst (v := iv 2) hx hb dX6_carry_88 rfl ?_
          refine r_iast (x := (rWith A 0)) (v := 2) hC X hR 3 rfl rfl (by omega) (by change _ < ((16 : Nat) : Int); omega) dX6_carry_89 (fun H locs X hR => ?_)
          have hf := hf.a 3 ((rWith A 0) : Int).toNat (iv 2)
          have hI := hI.u3 ((rWith A 0) : Int).toNat (v := 2) ⟨by omega, by omega⟩
          refine m_aload_n hx hb hL dX6_carry_90 rfl ?_
          refine r_geta hC X hR FX6_13 rfl rfl dX6_carry_91 ?_
          refine m_iload_n hx hb hL dX6_carry_94 rfl ?_
          refine lv_iconst (v := iv 0) hx hb dX6_carry_95 rfl ?_
          refine r_iast (x := (rWith A 0)) (v := 0) hC X hR 4 rfl rfl (by omega) (by change _ < ((16 : Nat) : Int); omega) dX6_carry_96 (fun H locs X hR => ?_)
          have hf := hf.a 4 ((rWith A 0) : Int).toNat (iv 0)
          have hI := hI.u4 ((rWith A 0) : Int).toNat (v := 0) ⟨by omega, by omega⟩
          refine m_iload_n hx hb hL dX6_carry_97 rfl ?_
          refine m_istore_n hx hb hL dX6_carry_98 (Nat.le_of_ble_eq_true rfl) (fun ls hL => ?_)
          refine m_aload_n hx hb hL dX6_carry_99 rfl ?_
          refine r_geta hC X hR FX6_20 rfl rfl dX6_carry_100 ?_
          refine m_iload_n hx hb hL dX6_carry_103 rfl ?_
          refine m_iload_n hx hb hL dX6_carry_104 rfl ?_
          refine r_iast (x := x) (v := (rWith A 0)) hC X hR 7 rfl rfl (by omega) (by change _ < ((620 : Nat) : Int); omega) dX6_carry_105 (fun H locs X hR => ?_)
          have hf := hf.a 7 (x : Int).toNat (iv (rWith A 0))
          have hI := hI.u7 (x : Int).toNat (v := (rWith A 0)) ⟨by omega, by omega⟩
          refine m_aload_n hx hb hL dX6_carry_106 rfl ?_
          refine r_geta hC X hR FX6_23 rfl rfl dX6_carry_107 ?_
          refine m_iload_n hx hb hL dX6_carry_110 rfl ?_
          refine m_aload_n hx hb hL dX6_carry_111 rfl ?_
          refine r_geta hC X hR FX6_13 rfl rfl dX6_carry_112 ?_
          refine m_iload_n hx hb hL dX6_carry_115 rfl ?_
          refine r_iald (x := (rWith A 0)) (w := 0) hC X hR 4 rfl rfl (by omega) (by change _ < ((16 : Nat) : Int); omega) (by simp [up]) dX6_carry_116 ?_
          refine r_iast (x := x) (v := 0) hC X hR 8 rfl rfl (by omega) (by change _ < ((620 : Nat) : Int); omega) dX6_carry_117 (fun H locs X hR => ?_)
          have hf := hf.a 8 (x : Int).toNat (iv 0)
          have hI := hI.u8 (x : Int).toNat (v := 0) ⟨by omega, by omega⟩
          refine m_aload_n hx hb hL dX6_carry_118 rfl ?_
          refine r_geta hC X hR FX6_13 rfl rfl dX6_carry_119 ?_
          refine m_iload_n hx hb hL dX6_carry_122 rfl ?_
          refine m_aload_n hx hb hL dX6_carry_123 rfl ?_
          refine r_geta hC X hR FX6_13 rfl rfl dX6_carry_124 ?_
          refine m_iload_n hx hb hL dX6_carry_127 rfl ?_
          refine r_iald (x := (rWith A 0)) (w := 0) hC X hR 4 rfl rfl (by omega) (by change _ < ((16 : Nat) : Int); omega) (by simp [up]) dX6_carry_128 ?_
          refine m_aload_n hx hb hL dX6_carry_129 rfl ?_
          refine r_geta hC X hR FX6_26 rfl rfl dX6_carry_130 ?_
          refine m_iload_n hx hb hL dX6_carry_133 rfl ?_
          refine r_iald (x := x) (w := (A 9 (x : Int).toNat)) hC X hR 9 rfl rfl (by omega) (by change _ < ((620 : Nat) : Int); omega) rfl dX6_carry_134 ?_
          have q10 : (0 : Int) ≤ (A 9 (x : Int).toNat) ∧ (A 9 (x : Int).toNat) ≤ 22 := hI.b9 (x : Int).toNat
          refine m_iadd hx hb dX6_carry_135 ?_
          refine r_iast (x := (rWith A 0)) (v := (0 + (A 9 (x : Int).toNat))) hC X hR 4 rfl rfl (by omega) (by change _ < ((16 : Nat) : Int); omega) dX6_carry_136 (fun H locs X hR => ?_)
          have hf := hf.a 4 ((rWith A 0) : Int).toNat (iv (0 + (A 9 (x : Int).toNat)))
          have hI := hI.u4 ((rWith A 0) : Int).toNat (v := (0 + (A 9 (x : Int).toNat))) ⟨by omega, by omega⟩
          refine m_aload_n hx hb hL dX6_carry_137 rfl ?_
          refine lv_dup hx hb dX6_carry_138 rfl ?_
          refine r_gets (w := (A 20 0)) hC X hR FX6_83 rfl rfl rfl dX6_carry_139 ?_
          refine lv_iconst (v := iv 1) hx hb dX6_carry_142 rfl ?_
          refine m_iadd hx hb dX6_carry_143 ?_
          refine r_puts (v := ((A 20 0) + 1)) hC X hR FwX6_83 rfl rfl dX6_carry_144 (fun H locs X hR => ?_)
          have hf := hf.s 20 (iv ((A 20 0) + 1))
          have hI := hI.u20 0 (v := ((A 20 0) + 1))
          exact r_vret hC X hR hf hr hlk (by first | (exfalso; omega) | (unfold rCarry; (first | rw [if_pos (by omega)] | rw [if_neg (by omega)]); (try (first | rw [if_pos (by omega)] | rw [if_neg (by omega)])); (try (first | rw [if_pos (by omega)] | rw [if_neg (by omega)])); (try simp [rInto, up_s, up_k]))) dX6_carry_147
      · refine m_aload_n hx hb hL dX6_carry_41 rfl ?_
        refine r_geta hC X hR FX6_38 rfl rfl dX6_carry_42 ?_
        refine m_iload_n hx hb hL dX6_carry_45 rfl ?_
        refine lv_iconst (v := iv 1) hx hb dX6_carry_46 rfl ?_
        refine r_zast (x := x) (v := 1) hC X hR 13 rfl rfl (by omega) (by change _ < ((620 : Nat) : Int); omega) (by omega) dX6_carry_47 (fun H locs X hR => ?_)
        have hf := hf.a 13 (x : Int).toNat (iv 1)
        have hI := hI.u13 (x : Int).toNat (v := 1) ⟨by omega, by omega⟩
        refine m_aload_n hx hb hL dX6_carry_48 rfl ?_
        refine r_geta hC X hR FX6_16 rfl rfl dX6_carry_49 ?_
        refine m_aload_n hx hb hL dX6_carry_52 rfl ?_
        refine r_geta hC X hR FX6_20 rfl rfl dX6_carry_53 ?_
        refine m_iload_n hx hb hL dX6_carry_56 rfl ?_
        refine r_iald (x := x) (w := (A 7 (x : Int).toNat)) hC X hR 7 rfl rfl (by omega) (by change _ < ((620 : Nat) : Int); omega) rfl dX6_carry_57 ?_
        have q11 : (0 : Int) ≤ (A 7 (x : Int).toNat) ∧ (A 7 (x : Int).toNat) ≤ 15 := hI.b7 (x : Int).toNat
        refine lv_iconst (v := iv 1) hx hb dX6_carry_58 rfl ?_
        refine r_zast (x := (A 7 (x : Int).toNat)) (v := 1) hC X hR 5 rfl rfl (by omega) (by change _ < ((16 : Nat) : Int); omega) (by omega) dX6_carry_59 (fun H locs X hR => ?_)
        have hf := hf.a 5 ((A 7 (x : Int).toNat) : Int).toNat (iv 1)
        have hI := hI.u5 ((A 7 (x : Int).toNat) : Int).toNat (v := 1) ⟨by omega, by omega⟩
        refine m_aload_n hx hb hL dX6_carry_60 rfl ?_
        refine lv_dup hx hb dX6_carry_61 rfl ?_
        refine r_gets (w := (A 21 0)) hC X hR FX6_80 rfl rfl rfl dX6_carry_62 ?_
        refine lv_iconst (v := iv 1) hx hb dX6_carry_65 rfl ?_
        refine m_iadd hx hb dX6_carry_66 ?_
        refine r_puts (v := ((A 21 0) + 1)) hC X hR FwX6_80 rfl rfl dX6_carry_67 (fun H locs X hR => ?_)
        have hf := hf.s 21 (iv ((A 21 0) + 1))
        have hI := hI.u21 0 (v := ((A 21 0) + 1))
        exact r_vret hC X hR hf hr hlk (by first | (exfalso; omega) | (unfold rCarry; (first | rw [if_pos (by omega)] | rw [if_neg (by omega)]); (try (first | rw [if_pos (by omega)] | rw [if_neg (by omega)])); (try (first | rw [if_pos (by omega)] | rw [if_neg (by omega)])); (try simp [rInto, up_s, up_k]))) dX6_carry_70

set_option maxHeartbeats 4000000 in
theorem k_X6_moveOne {G : mG} {l : Launch} {z : Nat} {ρ : Nat → Nat} {μ0 : mM} {A : rS} (hR : RR A μ0) (hI : RI A) : MR G l yX6_moveOne cX6_moveOne 3 none 2 45 z ρ [.ref (ρ 6)] μ0 none (rMoveOne A) := by
  refine MR.of hR (by decide) (by simp [Value.category]) (Nat.le_of_ble_eq_true rfl) (Nat.le_of_ble_eq_true rfl) ?_
  intro p e s m args below meth c ls H locs μ hC hx hb hr hlk X hR hf hL
  have q0 := hI.b6 0
  refine lv_iconst (v := iv (-1)) hx hb dX6_moveOne_0 rfl ?_
  refine m_istore_n hx hb hL dX6_moveOne_1 (Nat.le_of_ble_eq_true rfl) (fun ls hL => ?_)
  refine lv_iconst (v := iv 0) hx hb dX6_moveOne_2 rfl ?_
  refine m_istore_n hx hb hL dX6_moveOne_3 (Nat.le_of_ble_eq_true rfl) (fun ls hL => ?_)
  have lp : ∀ (f : Nat) (b o : Int) (H : Heap) (locs : List Loc) (μ : mM) (ls : Array Slot), 0 ≤ o ∧ o ≤ A 6 0 → -1 ≤ b ∧ b < 620 → (f : Int) + o = 700 → rBst A = rBest A f o b → mX G ρ (mA ρ μ0 z) s.heap μ z H locs → RR A μ → rfr μ0 μ → lq ls [some (.ref (ρ 6)), some (.int (iv b)), some (.int (iv o))] → W p l e (rm 2 45 0 0) s m args below meth c H locs 0 0 (wQ G ρ μ0 z (rP none (rMoveOne A) μ0 z) below args s 0 0) (F0 m 4 ls []) := by
    intro f
    induction f with
    | zero =>
      intro b o H locs μ ls h0 h1 hf1 hv X hR hf hL
      have := hI.b6 0; omega
    | succ f ih =>
      intro b o H locs μ ls h0 h1 hf1 hv X hR hf hL
      refine m_iload_n hx hb hL dX6_moveOne_4 rfl ?_
      refine m_aload_n hx hb hL dX6_moveOne_5 rfl ?_
      refine r_gets (w := (A 6 0)) hC X hR FX6_57 rfl rfl rfl dX6_moveOne_6 ?_
      have q1 : (0 : Int) ≤ (A 6 0) ∧ (A 6 0) ≤ 620 := hI.b6 0
      refine m_icmp_ge (tgt := 50) hx hb dX6_moveOne_9 (by decide) (by omega) (by omega) (fun c9 => ?_) (fun c9 => ?_)
      · have hv : rBst A = b := by rw [hv, rBest, if_pos c9]
        refine m_iload_n hx hb hL dX6_moveOne_50 rfl ?_
        refine lv_iconst (v := iv (-1)) hx hb dX6_moveOne_51 rfl ?_
        refine m_icmp_eq (tgt := 63) hx hb dX6_moveOne_52 (by decide) (by omega) (by omega) (fun c52 => ?_) (fun c52 => ?_)
        · refine m_aload_n hx hb hL dX6_moveOne_63 rfl ?_
          refine lv_iconst (v := iv 3) hx hb dX6_moveOne_64 rfl ?_
          refine r_puts (v := 3) hC X hR FwX6_70 rfl rfl dX6_moveOne_65 (fun H locs X hR => ?_)
          have hf := hf.s 18 (iv 3)
          have hI := hI.u18 0 (v := 3) ⟨by omega, by omega⟩
          refine m_aload_n hx hb hL dX6_moveOne_68 rfl ?_
          refine lv_iconst (v := iv 0) hx hb dX6_moveOne_69 rfl ?_
          refine r_puts (v := 0) hC X hR FwX6_96 rfl rfl dX6_moveOne_70 (fun H locs X hR => ?_)
          have hf := hf.s 19 (iv 0)
          have hI := hI.u19 0 (v := 0) ⟨by omega, by omega⟩
          exact r_vret hC X hR hf hr hlk (by unfold rMoveOne; rw [hv]; (first | rw [if_pos (by omega)] | rw [if_neg (by omega)])) dX6_moveOne_73
        · refine m_aload_n hx hb hL dX6_moveOne_55 rfl ?_
          refine m_iload_n hx hb hL dX6_moveOne_56 rfl ?_
          refine r_call hC X hR hf (k_X6_carry (x := b) hR hI (by omega)) VX6_93 rfl ⟨by decide, by decide⟩ ⟨by decide, by decide⟩ hL.1 rfl (Nat.le_of_ble_eq_true rfl) dX6_moveOne_57 (fun μ H locs X hR hf => ?_)
          refine lv_goto (tgt := 73) hx hb dX6_moveOne_60 (by decide) ?_
          exact r_vret hC X hR hf hr hlk (by unfold rMoveOne; rw [hv]; (first | rw [if_pos (by omega)] | rw [if_neg (by omega)])) dX6_moveOne_73
      · refine m_aload_n hx hb hL dX6_moveOne_12 rfl ?_
        refine m_iload_n hx hb hL dX6_moveOne_13 rfl ?_
        refine r_call hC X hR hf (k_X6_isToMove (x := o) hR hI (by omega)) VX6_86 rfl ⟨by decide, by decide⟩ ⟨by decide, by decide⟩ hL.1 rfl (Nat.le_of_ble_eq_true rfl) dX6_moveOne_14 (fun μ H locs X hR hf => ?_)
        have hq14 := rToMove_b A (o)
        refine m_if_eq (tgt := 42) hx hb dX6_moveOne_17 (by decide) (by omega) (fun c17 => ?_) (fun c17 => ?_)
        · refine m_iload_n hx hb hL dX6_moveOne_42 rfl ?_
          refine m_istore_n hx hb hL dX6_moveOne_43 (Nat.le_of_ble_eq_true rfl) (fun ls hL => ?_)
          refine m_iincv hx hb hL dX6_moveOne_44 rfl (fun ls hL => ?_)
          refine lv_goto (tgt := 4) hx hb dX6_moveOne_47 (by decide) ?_
          exact ih b (o + 1) _ _ _ ls ⟨by omega, by omega⟩ ⟨by omega, by omega⟩ (by omega) (by rw [hv, rBest, if_neg c9]; (first | rw [if_pos (by omega)] | rw [if_neg (by omega)])) X hR hf hL
        · refine m_iload_n hx hb hL dX6_moveOne_20 rfl ?_
          refine lv_iconst (v := iv (-1)) hx hb dX6_moveOne_21 rfl ?_
          refine m_icmp_eq (tgt := 38) hx hb dX6_moveOne_22 (by decide) (by omega) (by omega) (fun c22 => ?_) (fun c22 => ?_)
          · refine m_iload_n hx hb hL dX6_moveOne_38 rfl ?_
            refine lv_goto (tgt := 43) hx hb dX6_moveOne_39 (by decide) ?_
            refine m_istore_n hx hb hL dX6_moveOne_43 (Nat.le_of_ble_eq_true rfl) (fun ls hL => ?_)
            refine m_iincv hx hb hL dX6_moveOne_44 rfl (fun ls hL => ?_)
            refine lv_goto (tgt := 4) hx hb dX6_moveOne_47 (by decide) ?_
            exact ih o (o + 1) _ _ _ ls ⟨by omega, by omega⟩ ⟨by omega, by omega⟩ (by omega) (by rw [hv, rBest, if_neg c9]; (first | rw [if_pos (by omega)] | rw [if_neg (by omega)])) X hR hf hL
          · refine m_aload_n hx hb hL dX6_moveOne_25 rfl ?_
            refine m_iload_n hx hb hL dX6_moveOne_26 rfl ?_
            refine r_call hC X hR hf (k_X6_place (x := o) hR hI (by omega)) VX6_90 rfl ⟨by decide, by decide⟩ ⟨by decide, by decide⟩ hL.1 rfl (Nat.le_of_ble_eq_true rfl) dX6_moveOne_27 (fun μ H locs X hR hf => ?_)
            have hq27 := rPlace_b hI (o)
            refine m_aload_n hx hb hL dX6_moveOne_30 rfl ?_
            refine m_iload_n hx hb hL dX6_moveOne_31 rfl ?_
            refine r_call hC X hR hf (k_X6_place (x := b) hR hI (by omega)) VX6_90 rfl ⟨by decide, by decide⟩ ⟨by decide, by decide⟩ hL.1 rfl (Nat.le_of_ble_eq_true rfl) dX6_moveOne_32 (fun μ H locs X hR hf => ?_)
            have hq32 := rPlace_b hI (b)
            refine m_icmp_ge (tgt := 42) hx hb dX6_moveOne_35 (by decide) (by omega) (by omega) (fun c35 => ?_) (fun c35 => ?_)
            · refine m_iload_n hx hb hL dX6_moveOne_42 rfl ?_
              refine m_istore_n hx hb hL dX6_moveOne_43 (Nat.le_of_ble_eq_true rfl) (fun ls hL => ?_)
              refine m_iincv hx hb hL dX6_moveOne_44 rfl (fun ls hL => ?_)
              refine lv_goto (tgt := 4) hx hb dX6_moveOne_47 (by decide) ?_
              exact ih b (o + 1) _ _ _ ls ⟨by omega, by omega⟩ ⟨by omega, by omega⟩ (by omega) (by rw [hv, rBest, if_neg c9]; (first | rw [if_pos (by omega)] | rw [if_neg (by omega)])) X hR hf hL
            · refine m_iload_n hx hb hL dX6_moveOne_38 rfl ?_
              refine lv_goto (tgt := 43) hx hb dX6_moveOne_39 (by decide) ?_
              refine m_istore_n hx hb hL dX6_moveOne_43 (Nat.le_of_ble_eq_true rfl) (fun ls hL => ?_)
              refine m_iincv hx hb hL dX6_moveOne_44 rfl (fun ls hL => ?_)
              refine lv_goto (tgt := 4) hx hb dX6_moveOne_47 (by decide) ?_
              exact ih o (o + 1) _ _ _ ls ⟨by omega, by omega⟩ ⟨by omega, by omega⟩ (by omega) (by rw [hv, rBest, if_neg c9]; (first | rw [if_pos (by omega)] | rw [if_neg (by omega)])) X hR hf hL
  exact lp 700 (-1) 0 _ _ _ ls ⟨by omega, by omega⟩ ⟨by omega, by omega⟩ (by omega) rfl X hR hf hL

set_option maxHeartbeats 4000000 in
theorem k_X6_update {G : mG} {l : Launch} {z : Nat} {ρ : Nat → Nat} {μ0 : mM} {A : rS} (hR : RR A μ0) (hI : RI A) (h19 : A 19 0 < 16) : MR G l yX6_update cX6_update 2 none 0 0 z ρ [.ref (ρ 6)] μ0 none (rUpdate A) := by
  refine MR.of hR (by decide) (by simp [Value.category]) (Nat.le_of_ble_eq_true rfl) (Nat.le_of_ble_eq_true rfl) ?_
  intro p e s m args below meth c ls H locs μ hC hx hb hr hlk X hR hf hL
  have q0 := hI.b19 0
  have q00 := hI.b1 0
  refine m_aload_n hx hb hL dX6_update_0 rfl ?_
  refine lv_dup hx hb dX6_update_1 rfl ?_
  refine r_gets (w := (A 19 0)) hC X hR FX6_96 rfl rfl rfl dX6_update_2 ?_
  have q1 : (0 : Int) ≤ (A 19 0) ∧ (A 19 0) ≤ 16 := hI.b19 0
  refine lv_iconst (v := iv 1) hx hb dX6_update_5 rfl ?_
  refine m_iadd hx hb dX6_update_6 ?_
  refine r_puts (v := ((A 19 0) + 1)) hC X hR FwX6_96 rfl rfl dX6_update_7 (fun H locs X hR => ?_)
  have hf := hf.s 19 (iv ((A 19 0) + 1))
  have hI := hI.u19 0 (v := ((A 19 0) + 1)) ⟨by omega, by omega⟩
  refine m_aload_n hx hb hL dX6_update_10 rfl ?_
  refine r_gets (w := ((A 19 0) + 1)) hC X hR FX6_96 rfl rfl rfl dX6_update_11 ?_
  have q2 : (0 : Int) ≤ ((A 19 0) + 1) ∧ ((A 19 0) + 1) ≤ 16 := hI.b19 0
  refine m_aload_n hx hb hL dX6_update_14 rfl ?_
  refine r_gets (w := (A 1 0)) hC X hR FX6_47 rfl rfl rfl dX6_update_15 ?_
  have q3 : (3 : Int) ≤ (A 1 0) ∧ (A 1 0) ≤ 16 := hI.b1 0
  refine m_icmp_ge (tgt := 22) hx hb dX6_update_18 (by decide) (by omega) (by omega) (fun c18 => ?_) (fun c18 => ?_)
  · refine lv_iconst (v := iv 0) hx hb dX6_update_22 rfl ?_
    refine m_istore_n hx hb hL dX6_update_23 (Nat.le_of_ble_eq_true rfl) (fun ls hL => ?_)
    have lp : ∀ (f : Nat) (r : Int) (B : rS) (H : Heap) (locs : List Loc) (μ : mM) (ls : Array Slot), 0 ≤ r ∧ r ≤ B 1 0 → (f : Int) + r = 20 → rUpdate A = up (rEnd f r B) 18 0 0 → RI B → mX G ρ (mA ρ μ0 z) s.heap μ z H locs → RR B μ → rfr μ0 μ → lq ls [some (.ref (ρ 6)), some (.int (iv r))] → W p l e (rm 0 0 0 0) s m args below meth c H locs 0 0 (wQ G ρ μ0 z (rP none (rUpdate A) μ0 z) below args s 0 0) (F0 m 24 ls []) := by
      intro f
      induction f with
      | zero =>
        intro r B H locs μ ls h0 hf1 hv hI X hR hf hL
        have := hI.b1 0; omega
      | succ f ih =>
        intro r B H locs μ ls h0 hf1 hv hI X hR hf hL
        have q8 := hI.b1 0
        refine m_iload_n hx hb hL dX6_update_24 rfl ?_
        refine m_aload_n hx hb hL dX6_update_25 rfl ?_
        refine r_gets (w := (B 1 0)) hC X hR FX6_47 rfl rfl rfl dX6_update_26 ?_
        have q4 : (3 : Int) ≤ (B 1 0) ∧ (B 1 0) ≤ 16 := hI.b1 0
        refine m_icmp_ge (tgt := 107) hx hb dX6_update_29 (by decide) (by omega) (by omega) (fun c29 => ?_) (fun c29 => ?_)
        · refine m_aload_n hx hb hL dX6_update_107 rfl ?_
          refine lv_iconst (v := iv 0) hx hb dX6_update_108 rfl ?_
          refine r_puts (v := 0) hC X hR FwX6_70 rfl rfl dX6_update_109 (fun H locs X hR => ?_)
          have hf := hf.s 18 (iv 0)
          have hI := hI.u18 0 (v := 0) ⟨by omega, by omega⟩
          exact r_vret hC X hR hf hr hlk (by rw [hv, rEnd, if_pos c29]) dX6_update_112
        · refine m_aload_n hx hb hL dX6_update_32 rfl ?_
          refine r_geta hC X hR FX6_7 rfl rfl dX6_update_33 ?_
          refine m_iload_n hx hb hL dX6_update_36 rfl ?_
          refine r_iald (x := r) (w := (B 3 (r : Int).toNat)) hC X hR 3 rfl rfl (by omega) (by change _ < ((16 : Nat) : Int); omega) rfl dX6_update_37 ?_
          have q5 : (0 : Int) ≤ (B 3 (r : Int).toNat) ∧ (B 3 (r : Int).toNat) ≤ 4 := hI.b3 (r : Int).toNat
          refine lv_iconst (v := iv 4) hx hb dX6_update_38 rfl ?_
          refine m_icmp_ne (tgt := 65) hx hb dX6_update_39 (by decide) (by omega) (by omega) (fun c39 => ?_) (fun c39 => ?_)
          · refine m_aload_n hx hb hL dX6_update_65 rfl ?_
            refine r_geta hC X hR FX6_7 rfl rfl dX6_update_66 ?_
            refine m_iload_n hx hb hL dX6_update_69 rfl ?_
            refine m_aload_n hx hb hL dX6_update_70 rfl ?_
            refine r_geta hC X hR FX6_7 rfl rfl dX6_update_71 ?_
            refine m_iload_n hx hb hL dX6_update_74 rfl ?_
            refine r_iald (x := r) (w := (B 3 (r : Int).toNat)) hC X hR 3 rfl rfl (by omega) (by change _ < ((16 : Nat) : Int); omega) rfl dX6_update_75 ?_
            have q6 : (0 : Int) ≤ (B 3 (r : Int).toNat) ∧ (B 3 (r : Int).toNat) ≤ 4 := hI.b3 (r : Int).toNat
            refine lv_iconst (v := iv 4) hx hb dX6_update_76 rfl ?_
            refine m_icmp_eq (tgt := 90) hx hb dX6_update_77 (by decide) (by omega) (by omega) (fun c77 => ?_) (fun c77 => ?_)
            · refine lv_iconst (v := iv 3) hx hb dX6_update_90 rfl ?_
              refine lv_goto (tgt := 100) hx hb dX6_update_91 (by decide) ?_
              refine r_iast (x := r) (v := 3) hC X hR 3 rfl rfl (by omega) (by change _ < ((16 : Nat) : Int); omega) dX6_update_100 (fun H locs X hR => ?_)
              have hf := hf.a 3 (r : Int).toNat (iv 3)
              have hI := hI.u3 (r : Int).toNat (v := 3) ⟨by omega, by omega⟩
              refine m_iincv hx hb hL dX6_update_101 rfl (fun ls hL => ?_)
              refine lv_goto (tgt := 24) hx hb dX6_update_104 (by decide) ?_
              exact ih (r + 1) _ _ _ _ ls ⟨by omega, by show _ ≤ B 1 0; omega⟩ (by omega) (by first | (exfalso; omega) | (rw [hv, rEnd, if_neg c29]; unfold rEnd2 rEnd1; simp [up_s, up_k, c39, c77])) hI X hR hf hL
            · refine m_aload_n hx hb hL dX6_update_80 rfl ?_
              refine r_geta hC X hR FX6_7 rfl rfl dX6_update_81 ?_
              refine m_iload_n hx hb hL dX6_update_84 rfl ?_
              refine r_iald (x := r) (w := (B 3 (r : Int).toNat)) hC X hR 3 rfl rfl (by omega) (by change _ < ((16 : Nat) : Int); omega) rfl dX6_update_85 ?_
              have q7 : (0 : Int) ≤ (B 3 (r : Int).toNat) ∧ (B 3 (r : Int).toNat) ≤ 4 := hI.b3 (r : Int).toNat
              refine lv_iconst (v := iv 2) hx hb dX6_update_86 rfl ?_
              refine m_icmp_ne (tgt := 94) hx hb dX6_update_87 (by decide) (by omega) (by omega) (fun c87 => ?_) (fun c87 => ?_)
              · refine m_aload_n hx hb hL dX6_update_94 rfl ?_
                refine r_geta hC X hR FX6_7 rfl rfl dX6_update_95 ?_
                refine m_iload_n hx hb hL dX6_update_98 rfl ?_
                refine r_iald (x := r) (w := (B 3 (r : Int).toNat)) hC X hR 3 rfl rfl (by omega) (by change _ < ((16 : Nat) : Int); omega) rfl dX6_update_99 ?_
                have q8 : (0 : Int) ≤ (B 3 (r : Int).toNat) ∧ (B 3 (r : Int).toNat) ≤ 4 := hI.b3 (r : Int).toNat
                refine r_iast (x := r) (v := (B 3 (r : Int).toNat)) hC X hR 3 rfl rfl (by omega) (by change _ < ((16 : Nat) : Int); omega) dX6_update_100 (fun H locs X hR => ?_)
                have hf := hf.a 3 (r : Int).toNat (iv (B 3 (r : Int).toNat))
                have hI := hI.u3 (r : Int).toNat (v := (B 3 (r : Int).toNat)) ⟨by omega, by omega⟩
                refine m_iincv hx hb hL dX6_update_101 rfl (fun ls hL => ?_)
                refine lv_goto (tgt := 24) hx hb dX6_update_104 (by decide) ?_
                exact ih (r + 1) _ _ _ _ ls ⟨by omega, by show _ ≤ B 1 0; omega⟩ (by omega) (by first | (exfalso; omega) | (rw [hv, rEnd, if_neg c29]; unfold rEnd2 rEnd1; simp [up_s, up_k, c39, c77, c87])) hI X hR hf hL
              · refine lv_iconst (v := iv 3) hx hb dX6_update_90 rfl ?_
                refine lv_goto (tgt := 100) hx hb dX6_update_91 (by decide) ?_
                refine r_iast (x := r) (v := 3) hC X hR 3 rfl rfl (by omega) (by change _ < ((16 : Nat) : Int); omega) dX6_update_100 (fun H locs X hR => ?_)
                have hf := hf.a 3 (r : Int).toNat (iv 3)
                have hI := hI.u3 (r : Int).toNat (v := 3) ⟨by omega, by omega⟩
                refine m_iincv hx hb hL dX6_update_101 rfl (fun ls hL => ?_)
                refine lv_goto (tgt := 24) hx hb dX6_update_104 (by decide) ?_
                exact ih (r + 1) _ _ _ _ ls ⟨by omega, by show _ ≤ B 1 0; omega⟩ (by omega) (by first | (exfalso; omega) | (rw [hv, rEnd, if_neg c29]; unfold rEnd2 rEnd1; simp [up_s, up_k, c39, c77, c87])) hI X hR hf hL
          · refine m_aload_n hx hb hL dX6_update_42 rfl ?_
            refine r_geta hC X hR FX6_16 rfl rfl dX6_update_43 ?_
            refine m_iload_n hx hb hL dX6_update_46 rfl ?_
            refine r_zald (x := r) (w := (B 5 (r : Int).toNat)) hC X hR 5 rfl rfl (by omega) (by change _ < ((16 : Nat) : Int); omega) rfl dX6_update_47 ?_
            have q9 : (0 : Int) ≤ (B 5 (r : Int).toNat) ∧ (B 5 (r : Int).toNat) ≤ 1 := hI.b5 (r : Int).toNat
            refine m_if_ne (tgt := 65) hx hb dX6_update_48 (by decide) (by omega) (fun c48 => ?_) (fun c48 => ?_)
            · refine m_aload_n hx hb hL dX6_update_65 rfl ?_
              refine r_geta hC X hR FX6_7 rfl rfl dX6_update_66 ?_
              refine m_iload_n hx hb hL dX6_update_69 rfl ?_
              refine m_aload_n hx hb hL dX6_update_70 rfl ?_
              refine r_geta hC X hR FX6_7 rfl rfl dX6_update_71 ?_
              refine m_iload_n hx hb hL dX6_update_74 rfl ?_
              refine r_iald (x := r) (w := (B 3 (r : Int).toNat)) hC X hR 3 rfl rfl (by omega) (by change _ < ((16 : Nat) : Int); omega) rfl dX6_update_75 ?_
              have q10 : (0 : Int) ≤ (B 3 (r : Int).toNat) ∧ (B 3 (r : Int).toNat) ≤ 4 := hI.b3 (r : Int).toNat
              refine lv_iconst (v := iv 4) hx hb dX6_update_76 rfl ?_
              refine m_icmp_eq (tgt := 90) hx hb dX6_update_77 (by decide) (by omega) (by omega) (fun c77 => ?_) (fun c77 => ?_)
              · refine lv_iconst (v := iv 3) hx hb dX6_update_90 rfl ?_
                refine lv_goto (tgt := 100) hx hb dX6_update_91 (by decide) ?_
                refine r_iast (x := r) (v := 3) hC X hR 3 rfl rfl (by omega) (by change _ < ((16 : Nat) : Int); omega) dX6_update_100 (fun H locs X hR => ?_)
                have hf := hf.a 3 (r : Int).toNat (iv 3)
                have hI := hI.u3 (r : Int).toNat (v := 3) ⟨by omega, by omega⟩
                refine m_iincv hx hb hL dX6_update_101 rfl (fun ls hL => ?_)
                refine lv_goto (tgt := 24) hx hb dX6_update_104 (by decide) ?_
                exact ih (r + 1) _ _ _ _ ls ⟨by omega, by show _ ≤ B 1 0; omega⟩ (by omega) (by first | (exfalso; omega) | (rw [hv, rEnd, if_neg c29]; unfold rEnd2 rEnd1; simp [up_s, up_k, c39, c48, c77])) hI X hR hf hL
              · refine m_aload_n hx hb hL dX6_update_80 rfl ?_
                refine r_geta hC X hR FX6_7 rfl rfl dX6_update_81 ?_
                refine m_iload_n hx hb hL dX6_update_84 rfl ?_
                refine r_iald (x := r) (w := (B 3 (r : Int).toNat)) hC X hR 3 rfl rfl (by omega) (by change _ < ((16 : Nat) : Int); omega) rfl dX6_update_85 ?_
                have q11 : (0 : Int) ≤ (B 3 (r : Int).toNat) ∧ (B 3 (r : Int).toNat) ≤ 4 := hI.b3 (r : Int).toNat
                refine lv_iconst (v := iv 2) hx hb dX6_update_86 rfl ?_
                refine m_icmp_ne (tgt := 94) hx hb dX6_update_87 (by decide) (by omega) (by omega) (fun c87 => ?_) (fun c87 => ?_)
                · refine m_aload_n hx hb hL dX6_update_94 rfl ?_
                  refine r_geta hC X hR FX6_7 rfl rfl dX6_update_95 ?_
                  refine m_iload_n hx hb hL dX6_update_98 rfl ?_
                  refine r_iald (x := r) (w := (B 3 (r : Int).toNat)) hC X hR 3 rfl rfl (by omega) (by change _ < ((16 : Nat) : Int); omega) rfl dX6_update_99 ?_
                  have q12 : (0 : Int) ≤ (B 3 (r : Int).toNat) ∧ (B 3 (r : Int).toNat) ≤ 4 := hI.b3 (r : Int).toNat
                  refine r_iast (x := r) (v := (B 3 (r : Int).toNat)) hC X hR 3 rfl rfl (by omega) (by change _ < ((16 : Nat) : Int); omega) dX6_update_100 (fun H locs X hR => ?_)
                  have hf := hf.a 3 (r : Int).toNat (iv (B 3 (r : Int).toNat))
                  have hI := hI.u3 (r : Int).toNat (v := (B 3 (r : Int).toNat)) ⟨by omega, by omega⟩
                  refine m_iincv hx hb hL dX6_update_101 rfl (fun ls hL => ?_)
                  refine lv_goto (tgt := 24) hx hb dX6_update_104 (by decide) ?_
                  exact ih (r + 1) _ _ _ _ ls ⟨by omega, by show _ ≤ B 1 0; omega⟩ (by omega) (by first | (exfalso; omega) | (rw [hv, rEnd, if_neg c29]; unfold rEnd2 rEnd1; simp [up_s, up_k, c39, c48, c77, c87])) hI X hR hf hL
                · refine lv_iconst (v := iv 3) hx hb dX6_update_90 rfl ?_
                  refine lv_goto (tgt := 100) hx hb dX6_update_91 (by decide) ?_
                  refine r_iast (x := r) (v := 3) hC X hR 3 rfl rfl (by omega) (by change _ < ((16 : Nat) : Int); omega) dX6_update_100 (fun H locs X hR => ?_)
                  have hf := hf.a 3 (r : Int).toNat (iv 3)
                  have hI := hI.u3 (r : Int).toNat (v := 3) ⟨by omega, by omega⟩
                  refine m_iincv hx hb hL dX6_update_101 rfl (fun ls hL => ?_)
                  refine lv_goto (tgt := 24) hx hb dX6_update_104 (by decide) ?_
                  exact ih (r + 1) _ _ _ _ ls ⟨by omega, by show _ ≤ B 1 0; omega⟩ (by omega) (by first | (exfalso; omega) | (rw [hv, rEnd, if_neg c29]; unfold rEnd2 rEnd1; simp [up_s, up_k, c39, c48, c77, c87])) hI X hR hf hL
            · refine m_aload_n hx hb hL dX6_update_51 rfl ?_
              refine r_geta hC X hR FX6_7 rfl rfl dX6_update_52 ?_
              refine m_iload_n hx hb hL dX6_update_55 rfl ?_
              refine lv_iconst (v := iv 0) hx hb dX6_update_56 rfl ?_
              refine r_iast (x := r) (v := 0) hC X hR 3 rfl rfl (by omega) (by change _ < ((16 : Nat) : Int); omega) dX6_update_57 (fun H locs X hR => ?_)
              have hf := hf.a 3 (r : Int).toNat (iv 0)
              have hI := hI.u3 (r : Int).toNat (v := 0) ⟨by omega, by omega⟩
              refine m_aload_n hx hb hL dX6_update_58 rfl ?_
              refine r_geta hC X hR FX6_13 rfl rfl dX6_update_59 ?_
              refine m_iload_n hx hb hL dX6_update_62 rfl ?_
              refine lv_iconst (v := iv 0) hx hb dX6_update_63 rfl ?_
              refine r_iast (x := r) (v := 0) hC X hR 4 rfl rfl (by omega) (by change _ < ((16 : Nat) : Int); omega) dX6_update_64 (fun H locs X hR => ?_)
              have hf := hf.a 4 (r : Int).toNat (iv 0)
              have hI := hI.u4 (r : Int).toNat (v := 0) ⟨by omega, by omega⟩
              refine m_aload_n hx hb hL dX6_update_65 rfl ?_
              refine r_geta hC X hR FX6_7 rfl rfl dX6_update_66 ?_
              refine m_iload_n hx hb hL dX6_update_69 rfl ?_
              refine m_aload_n hx hb hL dX6_update_70 rfl ?_
              refine r_geta hC X hR FX6_7 rfl rfl dX6_update_71 ?_
              refine m_iload_n hx hb hL dX6_update_74 rfl ?_
              refine r_iald (x := r) (w := 0) hC X hR 3 rfl rfl (by omega) (by change _ < ((16 : Nat) : Int); omega) (by simp [up]) dX6_update_75 ?_
              refine lv_iconst (v := iv 4) hx hb dX6_update_76 rfl ?_
              refine m_icmp_eq (tgt := 90) hx hb dX6_update_77 (by decide) (by omega) (by omega) (fun c77 => absurd c77 (by omega)) (fun c77 => ?_)
              refine m_aload_n hx hb hL dX6_update_80 rfl ?_
              refine r_geta hC X hR FX6_7 rfl rfl dX6_update_81 ?_
              refine m_iload_n hx hb hL dX6_update_84 rfl ?_
              refine r_iald (x := r) (w := 0) hC X hR 3 rfl rfl (by omega) (by change _ < ((16 : Nat) : Int); omega) (by simp [up]) dX6_update_85 ?_
              refine lv_iconst (v := iv 2) hx hb dX6_update_86 rfl ?_
              refine m_icmp_ne (tgt := 94) hx hb dX6_update_87 (by decide) (by omega) (by omega) (fun c87 => ?_) (fun c87 => absurd c87 (by omega))
              refine m_aload_n hx hb hL dX6_update_94 rfl ?_
              refine r_geta hC X hR FX6_7 rfl rfl dX6_update_95 ?_
              refine m_iload_n hx hb hL dX6_update_98 rfl ?_
              refine r_iald (x := r) (w := 0) hC X hR 3 rfl rfl (by omega) (by change _ < ((16 : Nat) : Int); omega) (by simp [up]) dX6_update_99 ?_
              refine r_iast (x := r) (v := 0) hC X hR 3 rfl rfl (by omega) (by change _ < ((16 : Nat) : Int); omega) dX6_update_100 (fun H locs X hR => ?_)
              have hf := hf.a 3 (r : Int).toNat (iv 0)
              have hI := hI.u3 (r : Int).toNat (v := 0) ⟨by omega, by omega⟩
              refine m_iincv hx hb hL dX6_update_101 rfl (fun ls hL => ?_)
              refine lv_goto (tgt := 24) hx hb dX6_update_104 (by decide) ?_
              exact ih (r + 1) _ _ _ _ ls ⟨by omega, by show _ ≤ B 1 0; omega⟩ (by omega) (by first | (exfalso; omega) | (rw [hv, rEnd, if_neg c29]; unfold rEnd2 rEnd1; simp [up_s, up_k, c39, c48])) hI X hR hf hL
    exact lp 20 0 _ _ _ _ ls ⟨by omega, by have := hI.b1 0; omega⟩ (by omega) (by unfold rUpdate; rw [if_neg (by omega)]) hI X hR hf hL
  · exact r_vret hC X hR hf hr hlk (by unfold rUpdate; rw [if_pos (by omega)]) dX6_update_21

set_option maxHeartbeats 4000000 in
theorem k_X6_unit {G : mG} {l : Launch} {z : Nat} {ρ : Nat → Nat} {μ0 : mM} {A : rS} (hR : RR A μ0) (hI : RI A) (h17 : A 17 0 < 590) (h19 : A 18 0 = 3 → A 19 0 < 16) : MR G l yX6_unit cX6_unit 1 none 3 67 z ρ [.ref (ρ 6)] μ0 none (rUnit A) := by
  refine MR.of hR (by decide) (by simp [Value.category]) (Nat.le_of_ble_eq_true rfl) (Nat.le_of_ble_eq_true rfl) ?_
  intro p e s m args below meth c ls H locs μ hC hx hb hr hlk X hR hf hL
  refine m_aload_n hx hb hL dX6_unit_0 rfl ?_
  refine r_gets (w := (A 18 0)) hC X hR FX6_70 rfl rfl rfl dX6_unit_1 ?_
  have q1 : (0 : Int) ≤ (A 18 0) ∧ (A 18 0) ≤ 3 := hI.b18 0
  refine lv_iconst (v := iv 1) hx hb dX6_unit_4 rfl ?_
  refine m_icmp_ne (tgt := 15) hx hb dX6_unit_5 (by decide) (by omega) (by omega) (fun c5 => ?_) (fun c5 => ?_)
  · refine m_aload_n hx hb hL dX6_unit_15 rfl ?_
    refine r_gets (w := (A 18 0)) hC X hR FX6_70 rfl rfl rfl dX6_unit_16 ?_
    have q2 : (0 : Int) ≤ (A 18 0) ∧ (A 18 0) ≤ 3 := hI.b18 0
    refine lv_iconst (v := iv 2) hx hb dX6_unit_19 rfl ?_
    refine m_icmp_ne (tgt := 30) hx hb dX6_unit_20 (by decide) (by omega) (by omega) (fun c20 => ?_) (fun c20 => ?_)
    · refine m_aload_n hx hb hL dX6_unit_30 rfl ?_
      refine r_gets (w := (A 18 0)) hC X hR FX6_70 rfl rfl rfl dX6_unit_31 ?_
      have q3 : (0 : Int) ≤ (A 18 0) ∧ (A 18 0) ≤ 3 := hI.b18 0
      refine lv_iconst (v := iv 3) hx hb dX6_unit_34 rfl ?_
      refine m_icmp_ne (tgt := 42) hx hb dX6_unit_35 (by decide) (by omega) (by omega) (fun c35 => ?_) (fun c35 => ?_)
      · exact r_vret hC X hR hf hr hlk (by unfold rUnit; (first | rw [if_pos (by assumption)] | rw [if_neg (by assumption)]); (try (first | rw [if_pos (by assumption)] | rw [if_neg (by assumption)])); (try (first | rw [if_pos (by assumption)] | rw [if_neg (by assumption)]))) dX6_unit_42
      · refine m_aload_n hx hb hL dX6_unit_38 rfl ?_
        refine r_call hC X hR hf (k_X6_update hR hI (h19 c35)) VX6_105 rfl ⟨by decide, by decide⟩ ⟨by decide, by decide⟩ hL.1 rfl (Nat.le_of_ble_eq_true rfl) dX6_unit_39 (fun μ H locs X hR hf => ?_)
        exact r_vret hC X hR hf hr hlk (by unfold rUnit; (first | rw [if_pos (by assumption)] | rw [if_neg (by assumption)]); (try (first | rw [if_pos (by assumption)] | rw [if_neg (by assumption)])); (try (first | rw [if_pos (by assumption)] | rw [if_neg (by assumption)]))) dX6_unit_42
    · refine m_aload_n hx hb hL dX6_unit_23 rfl ?_
      refine r_call hC X hR hf (k_X6_moveOne hR hI) VX6_102 rfl ⟨by decide, by decide⟩ ⟨by decide, by decide⟩ hL.1 rfl (Nat.le_of_ble_eq_true rfl) dX6_unit_24 (fun μ H locs X hR hf => ?_)
      refine lv_goto (tgt := 42) hx hb dX6_unit_27 (by decide) ?_
      exact r_vret hC X hR hf hr hlk (by unfold rUnit; (first | rw [if_pos (by assumption)] | rw [if_neg (by assumption)]); (try (first | rw [if_pos (by assumption)] | rw [if_neg (by assumption)])); (try (first | rw [if_pos (by assumption)] | rw [if_neg (by assumption)]))) dX6_unit_42
  · refine m_aload_n hx hb hL dX6_unit_8 rfl ?_
    refine r_call hC X hR hf (k_X6_mark hR hI h17) VX6_99 rfl ⟨by decide, by decide⟩ ⟨by decide, by decide⟩ hL.1 rfl (Nat.le_of_ble_eq_true rfl) dX6_unit_9 (fun μ H locs X hR hf => ?_)
    refine lv_goto (tgt := 42) hx hb dX6_unit_12 (by decide) ?_
    exact r_vret hC X hR hf hr hlk (by unfold rUnit; (first | rw [if_pos (by assumption)] | rw [if_neg (by assumption)]); (try (first | rw [if_pos (by assumption)] | rw [if_neg (by assumption)])); (try (first | rw [if_pos (by assumption)] | rw [if_neg (by assumption)]))) dX6_unit_42

set_option maxHeartbeats 4000000 in
theorem k_X6_hasActive {G : mG} {l : Launch} {z : Nat} {ρ : Nat → Nat} {μ0 : mM} {A : rS} {x : Int} (hR : RR A μ0) (hI : RI A) (hx1 : 2 ≤ x ∧ x ≤ 22) : MR G l yX6_hasActive cX6_hasActive 3 (some .boolean) 1 22 z ρ [.ref (ρ 6), .int (iv x)] μ0 (some (.int (iv (rHasV A x)))) (rHas A x) := by
  refine MR.of hR (by decide) (by simp [Value.category]) (Nat.le_of_ble_eq_true rfl) (Nat.le_of_ble_eq_true rfl) ?_
  intro p e s m args below meth c ls H locs μ hC hx hb hr hlk X hR hf hL
  refine m_aload_n hx hb hL dX6_hasActive_0 rfl ?_
  refine lv_iconst (v := iv 1) hx hb dX6_hasActive_1 rfl ?_
  refine r_call hC X hR hf (k_X6_withState (x := 1) hR hI (by decide)) VX6_77 rfl ⟨by decide, by decide⟩ ⟨by decide, by decide⟩ hL.1 rfl (Nat.le_of_ble_eq_true rfl) dX6_hasActive_2 (fun μ H locs X hR hf => ?_)
  have hq2 := rWith_b hI (1)
  refine m_istore_n hx hb hL dX6_hasActive_5 (Nat.le_of_ble_eq_true rfl) (fun ls hL => ?_)
  refine m_iload_n hx hb hL dX6_hasActive_6 rfl ?_
  refine lv_iconst (v := iv (-1)) hx hb dX6_hasActive_7 rfl ?_
  refine m_icmp_eq (tgt := 34) hx hb dX6_hasActive_8 (by decide) (by omega) (by omega) (fun c8 => ?_) (fun c8 => ?_)
  · refine m_iload_n hx hb hL dX6_hasActive_34 rfl ?_
    refine lv_iconst (v := iv (-1)) hx hb dX6_hasActive_35 rfl ?_
    refine m_icmp_ne (tgt := 57) hx hb dX6_hasActive_36 (by decide) (by omega) (by omega) (fun c36 => ?_) (fun c36 => ?_)
    · refine m_iload_n hx hb hL dX6_hasActive_57 rfl ?_
      refine lv_iconst (v := iv (-1)) hx hb dX6_hasActive_58 rfl ?_
      refine m_icmp_eq (tgt := 66) hx hb dX6_hasActive_59 (by decide) (by omega) (by omega) (fun c59 => ?_) (fun c59 => ?_)
      · refine lv_iconst (v := iv 0) hx hb dX6_hasActive_66 rfl ?_
        exact r_zret hC X hR hf hr hlk (by first | (exfalso; omega) | (unfold rHas; (first | rw [if_pos (by omega)] | rw [if_neg (by omega)]); (try ((first | rw [show rHas1 A x = A by unfold rHas1; rw [if_neg (by omega)]] | rw [show rHas1 A x = up A 3 (rWith A 1).toNat 3 by unfold rHas1; rw [if_pos (by omega)]]); unfold rHas2; (first | rw [if_pos (by omega)] | rw [if_neg (by omega)]))))) (by first | (exfalso; omega) | (unfold rHasV; (first | rw [if_pos (by omega)] | rw [if_neg (by omega)]); (try ((first | rw [show rHas1 A x = A by unfold rHas1; rw [if_neg (by omega)]] | rw [show rHas1 A x = up A 3 (rWith A 1).toNat 3 by unfold rHas1; rw [if_pos (by omega)]]); (first | rw [if_pos (by omega)] | rw [if_neg (by omega)]))))) (by omega) dX6_hasActive_67
      · refine lv_iconst (v := iv 1) hx hb dX6_hasActive_62 rfl ?_
        refine lv_goto (tgt := 67) hx hb dX6_hasActive_63 (by decide) ?_
        exact r_zret hC X hR hf hr hlk (by first | (exfalso; omega) | (unfold rHas; (first | rw [if_pos (by omega)] | rw [if_neg (by omega)]); (try ((first | rw [show rHas1 A x = A by unfold rHas1; rw [if_neg (by omega)]] | rw [show rHas1 A x = up A 3 (rWith A 1).toNat 3 by unfold rHas1; rw [if_pos (by omega)]]); unfold rHas2; (first | rw [if_pos (by omega)] | rw [if_neg (by omega)]))))) (by first | (exfalso; omega) | (unfold rHasV; (first | rw [if_pos (by omega)] | rw [if_neg (by omega)]); (try ((first | rw [show rHas1 A x = A by unfold rHas1; rw [if_neg (by omega)]] | rw [show rHas1 A x = up A 3 (rWith A 1).toNat 3 by unfold rHas1; rw [if_pos (by omega)]]); (first | rw [if_pos (by omega)] | rw [if_neg (by omega)]))))) (by omega) dX6_hasActive_67
    · refine m_aload_n hx hb hL dX6_hasActive_39 rfl ?_
      refine lv_iconst (v := iv 0) hx hb dX6_hasActive_40 rfl ?_
      refine r_call hC X hR hf (k_X6_withState (x := 0) hR hI (by decide)) VX6_77 rfl ⟨by decide, by decide⟩ ⟨by decide, by decide⟩ hL.1 rfl (Nat.le_of_ble_eq_true rfl) dX6_hasActive_41 (fun μ H locs X hR hf => ?_)
      have hq41 := rWith_b hI (0)
      refine m_istore_n hx hb hL dX6_hasActive_44 (Nat.le_of_ble_eq_true rfl) (fun ls hL => ?_)
      refine m_iload_n hx hb hL dX6_hasActive_45 rfl ?_
      refine lv_iconst (v := iv (-1)) hx hb dX6_hasActive_46 rfl ?_
      refine m_icmp_eq (tgt := 57) hx hb dX6_hasActive_47 (by decide) (by omega) (by omega) (fun c47 => ?_) (fun c47 => ?_)
      · refine m_iload_n hx hb hL dX6_hasActive_57 rfl ?_
        refine lv_iconst (v := iv (-1)) hx hb dX6_hasActive_58 rfl ?_
        refine m_icmp_eq (tgt := 66) hx hb dX6_hasActive_59 (by decide) (by omega) (by omega) (fun c59 => ?_) (fun c59 => ?_)
        · refine lv_iconst (v := iv 0) hx hb dX6_hasActive_66 rfl ?_
          exact r_zret hC X hR hf hr hlk (by first | (exfalso; omega) | (unfold rHas; (first | rw [if_pos (by omega)] | rw [if_neg (by omega)]); (try ((first | rw [show rHas1 A x = A by unfold rHas1; rw [if_neg (by omega)]] | rw [show rHas1 A x = up A 3 (rWith A 1).toNat 3 by unfold rHas1; rw [if_pos (by omega)]]); unfold rHas2; (first | rw [if_pos (by omega)] | rw [if_neg (by omega)]))))) (by first | (exfalso; omega) | (unfold rHasV; (first | rw [if_pos (by omega)] | rw [if_neg (by omega)]); (try ((first | rw [show rHas1 A x = A by unfold rHas1; rw [if_neg (by omega)]] | rw [show rHas1 A x = up A 3 (rWith A 1).toNat 3 by unfold rHas1; rw [if_pos (by omega)]]); (first | rw [if_pos (by omega)] | rw [if_neg (by omega)]))))) (by omega) dX6_hasActive_67
        · refine lv_iconst (v := iv 1) hx hb dX6_hasActive_62 rfl ?_
          refine lv_goto (tgt := 67) hx hb dX6_hasActive_63 (by decide) ?_
          exact r_zret hC X hR hf hr hlk (by first | (exfalso; omega) | (unfold rHas; (first | rw [if_pos (by omega)] | rw [if_neg (by omega)]); (try ((first | rw [show rHas1 A x = A by unfold rHas1; rw [if_neg (by omega)]] | rw [show rHas1 A x = up A 3 (rWith A 1).toNat 3 by unfold rHas1; rw [if_pos (by omega)]]); unfold rHas2; (first | rw [if_pos (by omega)] | rw [if_neg (by omega)]))))) (by first | (exfalso; omega) | (unfold rHasV; (first | rw [if_pos (by omega)] | rw [if_neg (by omega)]); (try ((first | rw [show rHas1 A x = A by unfold rHas1; rw [if_neg (by omega)]] | rw [show rHas1 A x = up A 3 (rWith A 1).toNat 3 by unfold rHas1; rw [if_pos (by omega)]]); (first | rw [if_pos (by omega)] | rw [if_neg (by omega)]))))) (by omega) dX6_hasActive_67
      · refine m_aload_n hx hb hL dX6_hasActive_50 rfl ?_
        refine r_geta hC X hR FX6_7 rfl rfl dX6_hasActive_51 ?_
        refine m_iload_n hx hb hL dX6_hasActive_54 rfl ?_
        refine lv_iconst (v := iv 1) hx hb dX6_hasActive_55 rfl ?_
        refine r_iast (x := (rWith A 0)) (v := 1) hC X hR 3 rfl rfl (by omega) (by change _ < ((16 : Nat) : Int); omega) dX6_hasActive_56 (fun H locs X hR => ?_)
        have hf := hf.a 3 ((rWith A 0) : Int).toNat (iv 1)
        have hI := hI.u3 ((rWith A 0) : Int).toNat (v := 1) ⟨by omega, by omega⟩
        refine m_iload_n hx hb hL dX6_hasActive_57 rfl ?_
        refine lv_iconst (v := iv (-1)) hx hb dX6_hasActive_58 rfl ?_
        refine m_icmp_eq (tgt := 66) hx hb dX6_hasActive_59 (by decide) (by omega) (by omega) (fun c59 => ?_) (fun c59 => ?_)
        · refine lv_iconst (v := iv 0) hx hb dX6_hasActive_66 rfl ?_
          exact r_zret hC X hR hf hr hlk (by first | (exfalso; omega) | (unfold rHas; (first | rw [if_pos (by omega)] | rw [if_neg (by omega)]); (try ((first | rw [show rHas1 A x = A by unfold rHas1; rw [if_neg (by omega)]] | rw [show rHas1 A x = up A 3 (rWith A 1).toNat 3 by unfold rHas1; rw [if_pos (by omega)]]); unfold rHas2; (first | rw [if_pos (by omega)] | rw [if_neg (by omega)]))))) (by first | (exfalso; omega) | (unfold rHasV; (first | rw [if_pos (by omega)] | rw [if_neg (by omega)]); (try ((first | rw [show rHas1 A x = A by unfold rHas1; rw [if_neg (by omega)]] | rw [show rHas1 A x = up A 3 (rWith A 1).toNat 3 by unfold rHas1; rw [if_pos (by omega)]]); (first | rw [if_pos (by omega)] | rw [if_neg (by omega)]))))) (by omega) dX6_hasActive_67
        · refine lv_iconst (v := iv 1) hx hb dX6_hasActive_62 rfl ?_
          refine lv_goto (tgt := 67) hx hb dX6_hasActive_63 (by decide) ?_
          exact r_zret hC X hR hf hr hlk (by first | (exfalso; omega) | (unfold rHas; (first | rw [if_pos (by omega)] | rw [if_neg (by omega)]); (try ((first | rw [show rHas1 A x = A by unfold rHas1; rw [if_neg (by omega)]] | rw [show rHas1 A x = up A 3 (rWith A 1).toNat 3 by unfold rHas1; rw [if_pos (by omega)]]); unfold rHas2; (first | rw [if_pos (by omega)] | rw [if_neg (by omega)]))))) (by first | (exfalso; omega) | (unfold rHasV; (first | rw [if_pos (by omega)] | rw [if_neg (by omega)]); (try ((first | rw [show rHas1 A x = A by unfold rHas1; rw [if_neg (by omega)]] | rw [show rHas1 A x = up A 3 (rWith A 1).toNat 3 by unfold rHas1; rw [if_pos (by omega)]]); (first | rw [if_pos (by omega)] | rw [if_neg (by omega)]))))) (by omega) dX6_hasActive_67
  · refine m_aload_n hx hb hL dX6_hasActive_11 rfl ?_
    refine r_geta hC X hR FX6_13 rfl rfl dX6_hasActive_12 ?_
    refine m_iload_n hx hb hL dX6_hasActive_15 rfl ?_
    refine r_iald (x := (rWith A 1)) (w := (A 4 ((rWith A 1) : Int).toNat)) hC X hR 4 rfl rfl (by omega) (by change _ < ((16 : Nat) : Int); omega) rfl dX6_hasActive_16 ?_
    have q1 : (0 : Int) ≤ (A 4 ((rWith A 1) : Int).toNat) ∧ (A 4 ((rWith A 1) : Int).toNat) ≤ 128 := hI.b4 ((rWith A 1) : Int).toNat
    refine m_iload_n hx hb hL dX6_hasActive_17 rfl ?_
    refine m_iadd hx hb dX6_hasActive_18 ?_
    refine lv_sipush (v := iv 128) hx hb dX6_hasActive_19 (by decide +kernel) ?_
    refine m_icmp_le (tgt := 34) hx hb dX6_hasActive_22 (by decide) (by omega) (by omega) (fun c22 => ?_) (fun c22 => ?_)
    · refine m_iload_n hx hb hL dX6_hasActive_34 rfl ?_
      refine lv_iconst (v := iv (-1)) hx hb dX6_hasActive_35 rfl ?_
      refine m_icmp_ne (tgt := 57) hx hb dX6_hasActive_36 (by decide) (by omega) (by omega) (fun c36 => ?_) (fun c36 => ?_)
      · refine m_iload_n hx hb hL dX6_hasActive_57 rfl ?_
        refine lv_iconst (v := iv (-1)) hx hb dX6_hasActive_58 rfl ?_
        refine m_icmp_eq (tgt := 66) hx hb dX6_hasActive_59 (by decide) (by omega) (by omega) (fun c59 => ?_) (fun c59 => ?_)
        · refine lv_iconst (v := iv 0) hx hb dX6_hasActive_66 rfl ?_
          exact r_zret hC X hR hf hr hlk (by first | (exfalso; omega) | (unfold rHas; (first | rw [if_pos (by omega)] | rw [if_neg (by omega)]); (try ((first | rw [show rHas1 A x = A by unfold rHas1; rw [if_neg (by omega)]] | rw [show rHas1 A x = up A 3 (rWith A 1).toNat 3 by unfold rHas1; rw [if_pos (by omega)]]); unfold rHas2; (first | rw [if_pos (by omega)] | rw [if_neg (by omega)]))))) (by first | (exfalso; omega) | (unfold rHasV; (first | rw [if_pos (by omega)] | rw [if_neg (by omega)]); (try ((first | rw [show rHas1 A x = A by unfold rHas1; rw [if_neg (by omega)]] | rw [show rHas1 A x = up A 3 (rWith A 1).toNat 3 by unfold rHas1; rw [if_pos (by omega)]]); (first | rw [if_pos (by omega)] | rw [if_neg (by omega)]))))) (by omega) dX6_hasActive_67
        · refine lv_iconst (v := iv 1) hx hb dX6_hasActive_62 rfl ?_
          refine lv_goto (tgt := 67) hx hb dX6_hasActive_63 (by decide) ?_
          exact r_zret hC X hR hf hr hlk (by first | (exfalso; omega) | (unfold rHas; (first | rw [if_pos (by omega)] | rw [if_neg (by omega)]); (try ((first | rw [show rHas1 A x = A by unfold rHas1; rw [if_neg (by omega)]] | rw [show rHas1 A x = up A 3 (rWith A 1).toNat 3 by unfold rHas1; rw [if_pos (by omega)]]); unfold rHas2; (first | rw [if_pos (by omega)] | rw [if_neg (by omega)]))))) (by first | (exfalso; omega) | (unfold rHasV; (first | rw [if_pos (by omega)] | rw [if_neg (by omega)]); (try ((first | rw [show rHas1 A x = A by unfold rHas1; rw [if_neg (by omega)]] | rw [show rHas1 A x = up A 3 (rWith A 1).toNat 3 by unfold rHas1; rw [if_pos (by omega)]]); (first | rw [if_pos (by omega)] | rw [if_neg (by omega)]))))) (by omega) dX6_hasActive_67
      · refine m_aload_n hx hb hL dX6_hasActive_39 rfl ?_
        refine lv_iconst (v := iv 0) hx hb dX6_hasActive_40 rfl ?_
        refine r_call hC X hR hf (k_X6_withState (x := 0) hR hI (by decide)) VX6_77 rfl ⟨by decide, by decide⟩ ⟨by decide, by decide⟩ hL.1 rfl (Nat.le_of_ble_eq_true rfl) dX6_hasActive_41 (fun μ H locs X hR hf => ?_)
        have hq41 := rWith_b hI (0)
        refine m_istore_n hx hb hL dX6_hasActive_44 (Nat.le_of_ble_eq_true rfl) (fun ls hL => ?_)
        refine m_iload_n hx hb hL dX6_hasActive_45 rfl ?_
        refine lv_iconst (v := iv (-1)) hx hb dX6_hasActive_46 rfl ?_
        refine m_icmp_eq (tgt := 57) hx hb dX6_hasActive_47 (by decide) (by omega) (by omega) (fun c47 => ?_) (fun c47 => ?_)
        · refine m_iload_n hx hb hL dX6_hasActive_57 rfl ?_
          refine lv_iconst (v := iv (-1)) hx hb dX6_hasActive_58 rfl ?_
          refine m_icmp_eq (tgt := 66) hx hb dX6_hasActive_59 (by decide) (by omega) (by omega) (fun c59 => ?_) (fun c59 => ?_)
          · refine lv_iconst (v := iv 0) hx hb dX6_hasActive_66 rfl ?_
            exact r_zret hC X hR hf hr hlk (by first | (exfalso; omega) | (unfold rHas; (first | rw [if_pos (by omega)] | rw [if_neg (by omega)]); (try ((first | rw [show rHas1 A x = A by unfold rHas1; rw [if_neg (by omega)]] | rw [show rHas1 A x = up A 3 (rWith A 1).toNat 3 by unfold rHas1; rw [if_pos (by omega)]]); unfold rHas2; (first | rw [if_pos (by omega)] | rw [if_neg (by omega)]))))) (by first | (exfalso; omega) | (unfold rHasV; (first | rw [if_pos (by omega)] | rw [if_neg (by omega)]); (try ((first | rw [show rHas1 A x = A by unfold rHas1; rw [if_neg (by omega)]] | rw [show rHas1 A x = up A 3 (rWith A 1).toNat 3 by unfold rHas1; rw [if_pos (by omega)]]); (first | rw [if_pos (by omega)] | rw [if_neg (by omega)]))))) (by omega) dX6_hasActive_67
          · refine lv_iconst (v := iv 1) hx hb dX6_hasActive_62 rfl ?_
            refine lv_goto (tgt := 67) hx hb dX6_hasActive_63 (by decide) ?_
            exact r_zret hC X hR hf hr hlk (by first | (exfalso; omega) | (unfold rHas; (first | rw [if_pos (by omega)] | rw [if_neg (by omega)]); (try ((first | rw [show rHas1 A x = A by unfold rHas1; rw [if_neg (by omega)]] | rw [show rHas1 A x = up A 3 (rWith A 1).toNat 3 by unfold rHas1; rw [if_pos (by omega)]]); unfold rHas2; (first | rw [if_pos (by omega)] | rw [if_neg (by omega)]))))) (by first | (exfalso; omega) | (unfold rHasV; (first | rw [if_pos (by omega)] | rw [if_neg (by omega)]); (try ((first | rw [show rHas1 A x = A by unfold rHas1; rw [if_neg (by omega)]] | rw [show rHas1 A x = up A 3 (rWith A 1).toNat 3 by unfold rHas1; rw [if_pos (by omega)]]); (first | rw [if_pos (by omega)] | rw [if_neg (by omega)]))))) (by omega) dX6_hasActive_67
        · refine m_aload_n hx hb hL dX6_hasActive_50 rfl ?_
          refine r_geta hC X hR FX6_7 rfl rfl dX6_hasActive_51 ?_
          refine m_iload_n hx hb hL dX6_hasActive_54 rfl ?_
          refine lv_iconst (v := iv 1) hx hb dX6_hasActive_55 rfl ?_
          refine r_iast (x := (rWith A 0)) (v := 1) hC X hR 3 rfl rfl (by omega) (by change _ < ((16 : Nat) : Int); omega) dX6_hasActive_56 (fun H locs X hR => ?_)
          have hf := hf.a 3 ((rWith A 0) : Int).toNat (iv 1)
          have hI := hI.u3 ((rWith A 0) : Int).toNat (v := 1) ⟨by omega, by omega⟩
          refine m_iload_n hx hb hL dX6_hasActive_57 rfl ?_
          refine lv_iconst (v := iv (-1)) hx hb dX6_hasActive_58 rfl ?_
          refine m_icmp_eq (tgt := 66) hx hb dX6_hasActive_59 (by decide) (by omega) (by omega) (fun c59 => ?_) (fun c59 => ?_)
          · refine lv_iconst (v := iv 0) hx hb dX6_hasActive_66 rfl ?_
            exact r_zret hC X hR hf hr hlk (by first | (exfalso; omega) | (unfold rHas; (first | rw [if_pos (by omega)] | rw [if_neg (by omega)]); (try ((first | rw [show rHas1 A x = A by unfold rHas1; rw [if_neg (by omega)]] | rw [show rHas1 A x = up A 3 (rWith A 1).toNat 3 by unfold rHas1; rw [if_pos (by omega)]]); unfold rHas2; (first | rw [if_pos (by omega)] | rw [if_neg (by omega)]))))) (by first | (exfalso; omega) | (unfold rHasV; (first | rw [if_pos (by omega)] | rw [if_neg (by omega)]); (try ((first | rw [show rHas1 A x = A by unfold rHas1; rw [if_neg (by omega)]] | rw [show rHas1 A x = up A 3 (rWith A 1).toNat 3 by unfold rHas1; rw [if_pos (by omega)]]); (first | rw [if_pos (by omega)] | rw [if_neg (by omega)]))))) (by omega) dX6_hasActive_67
          · refine lv_iconst (v := iv 1) hx hb dX6_hasActive_62 rfl ?_
            refine lv_goto (tgt := 67) hx hb dX6_hasActive_63 (by decide) ?_
            exact r_zret hC X hR hf hr hlk (by first | (exfalso; omega) | (unfold rHas; (first | rw [if_pos (by omega)] | rw [if_neg (by omega)]); (try ((first | rw [show rHas1 A x = A by unfold rHas1; rw [if_neg (by omega)]] | rw [show rHas1 A x = up A 3 (rWith A 1).toNat 3 by unfold rHas1; rw [if_pos (by omega)]]); unfold rHas2; (first | rw [if_pos (by omega)] | rw [if_neg (by omega)]))))) (by first | (exfalso; omega) | (unfold rHasV; (first | rw [if_pos (by omega)] | rw [if_neg (by omega)]); (try ((first | rw [show rHas1 A x = A by unfold rHas1; rw [if_neg (by omega)]] | rw [show rHas1 A x = up A 3 (rWith A 1).toNat 3 by unfold rHas1; rw [if_pos (by omega)]]); (first | rw [if_pos (by omega)] | rw [if_neg (by omega)]))))) (by omega) dX6_hasActive_67
    · refine m_aload_n hx hb hL dX6_hasActive_25 rfl ?_
      refine r_geta hC X hR FX6_7 rfl rfl dX6_hasActive_26 ?_
      refine m_iload_n hx hb hL dX6_hasActive_29 rfl ?_
      refine lv_iconst (v := iv 3) hx hb dX6_hasActive_30 rfl ?_
      refine r_iast (x := (rWith A 1)) (v := 3) hC X hR 3 rfl rfl (by omega) (by change _ < ((16 : Nat) : Int); omega) dX6_hasActive_31 (fun H locs X hR => ?_)
      have hf := hf.a 3 ((rWith A 1) : Int).toNat (iv 3)
      have hI := hI.u3 ((rWith A 1) : Int).toNat (v := 3) ⟨by omega, by omega⟩
      refine lv_iconst (v := iv (-1)) hx hb dX6_hasActive_32 rfl ?_
      refine m_istore_n hx hb hL dX6_hasActive_33 (Nat.le_of_ble_eq_true rfl) (fun ls hL => ?_)
      refine m_iload_n hx hb hL dX6_hasActive_34 rfl ?_
      refine lv_iconst (v := iv (-1)) hx hb dX6_hasActive_35 rfl ?_
      refine m_icmp_ne (tgt := 57) hx hb dX6_hasActive_36 (by decide) (by omega) (by omega) (fun c36 => absurd c36 (by omega)) (fun c36 => ?_)
      refine m_aload_n hx hb hL dX6_hasActive_39 rfl ?_
      refine lv_iconst (v := iv 0) hx hb dX6_hasActive_40 rfl ?_
      refine r_call hC X hR hf (k_X6_withState (x := 0) hR hI (by decide)) VX6_77 rfl ⟨by decide, by decide⟩ ⟨by decide, by decide⟩ hL.1 rfl (Nat.le_of_ble_eq_true rfl) dX6_hasActive_41 (fun μ H locs X hR hf => ?_)
      have hq41 := rWith_b hI (0)
      refine m_istore_n hx hb hL dX6_hasActive_44 (Nat.le_of_ble_eq_true rfl) (fun ls hL => ?_)
      refine m_iload_n hx hb hL dX6_hasActive_45 rfl ?_
      refine lv_iconst (v := iv (-1)) hx hb dX6_hasActive_46 rfl ?_
      refine m_icmp_eq (tgt := 57) hx hb dX6_hasActive_47 (by decide) (by omega) (by omega) (fun c47 => ?_) (fun c47 => ?_)
      · refine m_iload_n hx hb hL dX6_hasActive_57 rfl ?_
        refine lv_iconst (v := iv (-1)) hx hb dX6_hasActive_58 rfl ?_
        refine m_icmp_eq (tgt := 66) hx hb dX6_hasActive_59 (by decide) (by omega) (by omega) (fun c59 => ?_) (fun c59 => ?_)
        · refine lv_iconst (v := iv 0) hx hb dX6_hasActive_66 rfl ?_
          exact r_zret hC X hR hf hr hlk (by first | (exfalso; omega) | (unfold rHas; (first | rw [if_pos (by omega)] | rw [if_neg (by omega)]); (try ((first | rw [show rHas1 A x = A by unfold rHas1; rw [if_neg (by omega)]] | rw [show rHas1 A x = up A 3 (rWith A 1).toNat 3 by unfold rHas1; rw [if_pos (by omega)]]); unfold rHas2; (first | rw [if_pos (by omega)] | rw [if_neg (by omega)]))))) (by first | (exfalso; omega) | (unfold rHasV; (first | rw [if_pos (by omega)] | rw [if_neg (by omega)]); (try ((first | rw [show rHas1 A x = A by unfold rHas1; rw [if_neg (by omega)]] | rw [show rHas1 A x = up A 3 (rWith A 1).toNat 3 by unfold rHas1; rw [if_pos (by omega)]]); (first | rw [if_pos (by omega)] | rw [if_neg (by omega)]))))) (by omega) dX6_hasActive_67
        · refine lv_iconst (v := iv 1) hx hb dX6_hasActive_62 rfl ?_
          refine lv_goto (tgt := 67) hx hb dX6_hasActive_63 (by decide) ?_
          exact r_zret hC X hR hf hr hlk (by first | (exfalso; omega) | (unfold rHas; (first | rw [if_pos (by omega)] | rw [if_neg (by omega)]); (try ((first | rw [show rHas1 A x = A by unfold rHas1; rw [if_neg (by omega)]] | rw [show rHas1 A x = up A 3 (rWith A 1).toNat 3 by unfold rHas1; rw [if_pos (by omega)]]); unfold rHas2; (first | rw [if_pos (by omega)] | rw [if_neg (by omega)]))))) (by first | (exfalso; omega) | (unfold rHasV; (first | rw [if_pos (by omega)] | rw [if_neg (by omega)]); (try ((first | rw [show rHas1 A x = A by unfold rHas1; rw [if_neg (by omega)]] | rw [show rHas1 A x = up A 3 (rWith A 1).toNat 3 by unfold rHas1; rw [if_pos (by omega)]]); (first | rw [if_pos (by omega)] | rw [if_neg (by omega)]))))) (by omega) dX6_hasActive_67
      · refine m_aload_n hx hb hL dX6_hasActive_50 rfl ?_
        refine r_geta hC X hR FX6_7 rfl rfl dX6_hasActive_51 ?_
        refine m_iload_n hx hb hL dX6_hasActive_54 rfl ?_
        refine lv_iconst (v := iv 1) hx hb dX6_hasActive_55 rfl ?_
        refine r_iast (x := (rWith (up A 3 ((rWith A 1) : Int).toNat 3) 0)) (v := 1) hC X hR 3 rfl rfl (by omega) (by change _ < ((16 : Nat) : Int); omega) dX6_hasActive_56 (fun H locs X hR => ?_)
        have hf := hf.a 3 ((rWith (up A 3 ((rWith A 1) : Int).toNat 3) 0) : Int).toNat (iv 1)
        have hI := hI.u3 ((rWith (up A 3 ((rWith A 1) : Int).toNat 3) 0) : Int).toNat (v := 1) ⟨by omega, by omega⟩
        refine m_iload_n hx hb hL dX6_hasActive_57 rfl ?_
        refine lv_iconst (v := iv (-1)) hx hb dX6_hasActive_58 rfl ?_
        refine m_icmp_eq (tgt := 66) hx hb dX6_hasActive_59 (by decide) (by omega) (by omega) (fun c59 => ?_) (fun c59 => ?_)
        · refine lv_iconst (v := iv 0) hx hb dX6_hasActive_66 rfl ?_
          exact r_zret hC X hR hf hr hlk (by first | (exfalso; omega) | (unfold rHas; (first | rw [if_pos (by omega)] | rw [if_neg (by omega)]); (try ((first | rw [show rHas1 A x = A by unfold rHas1; rw [if_neg (by omega)]] | rw [show rHas1 A x = up A 3 (rWith A 1).toNat 3 by unfold rHas1; rw [if_pos (by omega)]]); unfold rHas2; (first | rw [if_pos (by omega)] | rw [if_neg (by omega)]))))) (by first | (exfalso; omega) | (unfold rHasV; (first | rw [if_pos (by omega)] | rw [if_neg (by omega)]); (try ((first | rw [show rHas1 A x = A by unfold rHas1; rw [if_neg (by omega)]] | rw [show rHas1 A x = up A 3 (rWith A 1).toNat 3 by unfold rHas1; rw [if_pos (by omega)]]); (first | rw [if_pos (by omega)] | rw [if_neg (by omega)]))))) (by omega) dX6_hasActive_67
        · refine lv_iconst (v := iv 1) hx hb dX6_hasActive_62 rfl ?_
          refine lv_goto (tgt := 67) hx hb dX6_hasActive_63 (by decide) ?_
          exact r_zret hC X hR hf hr hlk (by first | (exfalso; omega) | (unfold rHas; (first | rw [if_pos (by omega)] | rw [if_neg (by omega)]); (try ((first | rw [show rHas1 A x = A by unfold rHas1; rw [if_neg (by omega)]] | rw [show rHas1 A x = up A 3 (rWith A 1).toNat 3 by unfold rHas1; rw [if_pos (by omega)]]); unfold rHas2; (first | rw [if_pos (by omega)] | rw [if_neg (by omega)]))))) (by first | (exfalso; omega) | (unfold rHasV; (first | rw [if_pos (by omega)] | rw [if_neg (by omega)]); (try ((first | rw [show rHas1 A x = A by unfold rHas1; rw [if_neg (by omega)]] | rw [show rHas1 A x = up A 3 (rWith A 1).toNat 3 by unfold rHas1; rw [if_pos (by omega)]]); (first | rw [if_pos (by omega)] | rw [if_neg (by omega)]))))) (by omega) dX6_hasActive_67

