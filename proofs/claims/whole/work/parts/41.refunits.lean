/-! the Model's methods that run units (printed by wip/tools/ref5.py) -/
set_option maxHeartbeats 4000000 in
theorem k_X6_finish {G : mG} {l : Launch} {z : Nat} {ρ : Nat → Nat} {μ0 : mM} {A : rS} {P Gs : Nat → Prop} (hR : RR A μ0) (hI : RI A) (hK : KK A P Gs) : MR G l yX6_finish cX6_finish 1 none 4 87 z ρ [.ref (ρ 6)] μ0 none (rFin A) := by
  refine MR.of hR (by decide) (by simp [Value.category]) (Nat.le_of_ble_eq_true rfl) (Nat.le_of_ble_eq_true rfl) ?_
  intro p e s m args below meth c ls H locs μ hC hx hb hr hlk X hR hf hL
  have lp : ∀ (f : Nat) (B : rS) (H : Heap) (locs : List Loc) (μ : mM) (ls : Array Slot), (∃ P Gs, KK B P Gs) → ms B < f → rFin A = rRun f B → RI B → mX G ρ (mA ρ μ0 z) s.heap μ z H locs → RR B μ → rfr μ0 μ → lq ls [some (.ref (ρ 6))] → W p l e (rm 4 87 0 0) s m args below meth c H locs 0 0 (wQ G ρ μ0 z (rP none (rFin A) μ0 z) below args s 0 0) (F0 m 0 ls []) := by
    intro f
    induction f with
    | zero =>
      intro  B H locs μ ls hk hm hv hI X hR hf hL
      obtain ⟨P, Gs, hk⟩ := hk; have := ms_b hk; omega
    | succ f ih =>
      intro  B H locs μ ls hk hm hv hI X hR hf hL
      obtain ⟨P, Gs, hk⟩ := hk
      refine m_aload_n hx hb hL dX6_finish_0 rfl ?_
      refine r_gets (w := (B 18 0)) hC X hR FX6_70 rfl rfl rfl dX6_finish_1 ?_
      have q1 : (0 : Int) ≤ (B 18 0) ∧ (B 18 0) ≤ 3 := hI.b18 0
      refine m_if_le (tgt := 14) hx hb dX6_finish_4 (by decide) (by omega) (fun c4 => ?_) (fun c4 => ?_)
      · exact r_vret hC X hR hf hr hlk (by rw [hv, run_0 c4]) dX6_finish_14
      · refine m_aload_n hx hb hL dX6_finish_7 rfl ?_
        refine r_call hC X hR hf (k_X6_unit hR hI (KK_17 hk) (KK_19 hk)) VX6_108 rfl ⟨by decide, by decide⟩ ⟨by decide, by decide⟩ hL.1 rfl (Nat.le_of_ble_eq_true rfl) dX6_finish_8 (fun μ H locs X hR hf => ?_)
        have hI := (unit_KK hk).1.1
        refine lv_goto (tgt := 0) hx hb dX6_finish_11 (by decide) ?_
        exact ih  _ _ _ _ ls ⟨_, _, unit_KK hk⟩ (by have := unit_ms hk (by omega); omega) (by rw [hv, rRun, if_neg c4]) hI X hR hf hL
  exact lp 1101  A _ _ _ ls ⟨P, Gs, hK⟩ (by have := ms_b hK; omega) ((run_stab 1100 1101 hK (ms_b hK).2.1 (by decide)).1.symm) hI X hR hf hL

set_option maxHeartbeats 4000000 in
theorem k_X6_whole {G : mG} {l : Launch} {z : Nat} {ρ : Nat → Nat} {μ0 : mM} {A : rS} {P Gs : Nat → Prop} (hR : RR A μ0) (hI : RI A) (hK : KK A P Gs) : MR G l yX6_whole cX6_whole 1 none 5 107 z ρ [.ref (ρ 6)] μ0 none (rWhole A) := by
  refine MR.of hR (by decide) (by simp [Value.category]) (Nat.le_of_ble_eq_true rfl) (Nat.le_of_ble_eq_true rfl) ?_
  intro p e s m args below meth c ls H locs μ hC hx hb hr hlk X hR hf hL
  refine m_aload_n hx hb hL dX6_whole_0 rfl ?_
  refine r_call hC X hR hf (k_X6_finish hR hI hK) VX6_111 rfl ⟨by decide, by decide⟩ ⟨by decide, by decide⟩ hL.1 rfl (Nat.le_of_ble_eq_true rfl) dX6_whole_1 (fun μ H locs X hR hf => ?_)
  obtain ⟨hk1, hp1⟩ := fin_KK hK
  have hI := hk1.1.1
  refine m_aload_n hx hb hL dX6_whole_4 rfl ?_
  refine r_call hC X hR hf (k_X6_start hR hI) VX6_114 rfl ⟨by decide, by decide⟩ ⟨by decide, by decide⟩ hL.1 rfl (Nat.le_of_ble_eq_true rfl) dX6_whole_5 (fun μ H locs X hR hf => ?_)
  have hk5 := start_KK hk1 hp1
  have hI := hk5.1.1
  refine m_aload_n hx hb hL dX6_whole_8 rfl ?_
  refine r_call hC X hR hf (k_X6_finish hR hI hk5) VX6_111 rfl ⟨by decide, by decide⟩ ⟨by decide, by decide⟩ hL.1 rfl (Nat.le_of_ble_eq_true rfl) dX6_whole_9 (fun μ H locs X hR hf => ?_)
  obtain ⟨hk9, hp9⟩ := fin_KK hk5
  have hI := hk9.1.1
  exact r_vret hC X hR hf hr hlk rfl dX6_whole_12

set_option maxHeartbeats 4000000 in
theorem k_X6_begin {G : mG} {l : Launch} {z : Nat} {ρ : Nat → Nat} {μ0 : mM} {A : rS} (hR : RR A μ0) (hI : RI A) : MR G l yX6_begin cX6_begin 1 (some .int) 2 42 z ρ [.ref (ρ 6)] μ0 (some (.int (iv (rBeginV A)))) (rBegin A) := by
  refine MR.of hR (by decide) (by simp [Value.category]) (Nat.le_of_ble_eq_true rfl) (Nat.le_of_ble_eq_true rfl) ?_
  intro p e s m args below meth c ls H locs μ hC hx hb hr hlk X hR hf hL
  refine m_aload_n hx hb hL dX6_begin_0 rfl ?_
  refine lv_iconst (v := iv 0) hx hb dX6_begin_1 rfl ?_
  refine r_puts (v := 0) hC X hR FwX6_54 rfl rfl dX6_begin_2 (fun H locs X hR => ?_)
  have hf := hf.s 0 (iv 0)
  have hI := hI.u0 0 (v := 0) ⟨by omega, by omega⟩
  refine m_aload_n hx hb hL dX6_begin_5 rfl ?_
  refine r_gets (w := (A 18 0)) hC X hR FX6_70 rfl rfl rfl dX6_begin_6 ?_
  have q1 : (0 : Int) ≤ (A 18 0) ∧ (A 18 0) ≤ 3 := hI.b18 0
  refine m_if_le (tgt := 14) hx hb dX6_begin_9 (by decide) (by omega) (fun c9 => ?_) (fun c9 => ?_)
  · refine m_aload_n hx hb hL dX6_begin_14 rfl ?_
    refine r_call hC X hR hf (k_X6_start hR hI) VX6_114 rfl ⟨by decide, by decide⟩ ⟨by decide, by decide⟩ hL.1 rfl (Nat.le_of_ble_eq_true rfl) dX6_begin_15 (fun μ H locs X hR hf => ?_)
    refine lv_iconst (v := iv 1) hx hb dX6_begin_18 rfl ?_
    exact r_iret hC X hR hf hr hlk (by unfold rBegin; (first | rw [if_pos (by omega)] | rw [if_neg (by omega)])) (by unfold rBeginV; first | (rw [bZ_t (by omega)]) | (rw [bZ_f (by omega)])) dX6_begin_19
  · refine lv_iconst (v := iv 0) hx hb dX6_begin_12 rfl ?_
    exact r_iret hC X hR hf hr hlk (by unfold rBegin; (first | rw [if_pos (by omega)] | rw [if_neg (by omega)])) (by unfold rBeginV; first | (rw [bZ_t (by omega)]) | (rw [bZ_f (by omega)])) dX6_begin_13

set_option maxHeartbeats 4000000 in
theorem k_X6_work {G : mG} {l : Launch} {z : Nat} {ρ : Nat → Nat} {μ0 : mM} {A : rS} {x : Int} {P Gs : Nat → Prop} (hR : RR A μ0) (hI : RI A) (hK : KK A P Gs) (hx1 : rng x) : MR G l yX6_work cX6_work 3 (some .int) 4 87 z ρ [.ref (ρ 6), .int (iv x)] μ0 (some (.int (iv (rWorkV A x)))) (rWork A x) := by
  refine MR.of hR (by decide) (by simp [Value.category]) (Nat.le_of_ble_eq_true rfl) (Nat.le_of_ble_eq_true rfl) ?_
  intro p e s m args below meth c ls H locs μ hC hx hb hr hlk X hR hf hL
  refine m_aload_n hx hb hL dX6_work_0 rfl ?_
  refine m_iload_n hx hb hL dX6_work_1 rfl ?_
  refine m_if_lt (tgt := 16) hx hb dX6_work_2 (by decide) (by omega) (fun c2 => ?_) (fun c2 => ?_)
  · refine lv_iconst (v := iv 0) hx hb dX6_work_16 rfl ?_
    refine lv_iconst (v := iv 1) hx hb dX6_work_17 rfl ?_
    refine r_call hC X hR hf (k_X6_good (x := 0) (y := 1) hR hI (by omega) (by omega)) VX6_120 rfl ⟨by decide, by decide⟩ ⟨by decide, by decide⟩ hL.1 rfl (Nat.le_of_ble_eq_true rfl) dX6_work_18 (fun μ H locs X hR hf => ?_)
    have hR : RR (up A 0 0 1) μ := hR
    have hI : RI (up A 0 0 1) := hI.u0 0 (v := 1) ⟨by omega, by omega⟩
    rw [show bZ (rThr 0 1 = 0) = 0 by decide]
    refine m_if_ne (tgt := 26) hx hb dX6_work_21 (by decide) (by omega) (fun c21 => absurd c21 (by omega)) (fun c21 => ?_)
    refine lv_iconst (v := iv 0) hx hb dX6_work_24 rfl ?_
    exact r_iret hC X hR hf hr hlk (by unfold rWork; rw [if_neg (by omega)]) (by unfold rWorkV; rw [if_neg (by omega)]) dX6_work_25
  · refine m_iload_n hx hb hL dX6_work_5 rfl ?_
    refine lv_sipush (v := iv 10000) hx hb dX6_work_6 (by decide +kernel) ?_
    refine m_icmp_gt (tgt := 16) hx hb dX6_work_9 (by decide) (by omega) (by omega) (fun c9 => ?_) (fun c9 => ?_)
    · refine lv_iconst (v := iv 0) hx hb dX6_work_16 rfl ?_
      refine lv_iconst (v := iv 1) hx hb dX6_work_17 rfl ?_
      refine r_call hC X hR hf (k_X6_good (x := 0) (y := 1) hR hI (by omega) (by omega)) VX6_120 rfl ⟨by decide, by decide⟩ ⟨by decide, by decide⟩ hL.1 rfl (Nat.le_of_ble_eq_true rfl) dX6_work_18 (fun μ H locs X hR hf => ?_)
      have hR : RR (up A 0 0 1) μ := hR
      have hI : RI (up A 0 0 1) := hI.u0 0 (v := 1) ⟨by omega, by omega⟩
      rw [show bZ (rThr 0 1 = 0) = 0 by decide]
      refine m_if_ne (tgt := 26) hx hb dX6_work_21 (by decide) (by omega) (fun c21 => absurd c21 (by omega)) (fun c21 => ?_)
      refine lv_iconst (v := iv 0) hx hb dX6_work_24 rfl ?_
      exact r_iret hC X hR hf hr hlk (by unfold rWork; rw [if_neg (by omega)]) (by unfold rWorkV; rw [if_neg (by omega)]) dX6_work_25
    · refine lv_iconst (v := iv 1) hx hb dX6_work_12 rfl ?_
      refine lv_goto (tgt := 17) hx hb dX6_work_13 (by decide) ?_
      refine lv_iconst (v := iv 1) hx hb dX6_work_17 rfl ?_
      refine r_call hC X hR hf (k_X6_good (x := 1) (y := 1) hR hI (by omega) (by omega)) VX6_120 rfl ⟨by decide, by decide⟩ ⟨by decide, by decide⟩ hL.1 rfl (Nat.le_of_ble_eq_true rfl) dX6_work_18 (fun μ H locs X hR hf => ?_)
      have hR : RR (up A 0 0 0) μ := hR
      have hI : RI (up A 0 0 0) := hI.u0 0 (v := 0) ⟨by omega, by omega⟩
      rw [show bZ (rThr 1 1 = 0) = 1 by decide]
      refine m_if_ne (tgt := 26) hx hb dX6_work_21 (by decide) (by omega) (fun c21 => ?_) (fun c21 => absurd c21 (by omega))
      refine lv_iconst (v := iv 0) hx hb dX6_work_26 rfl ?_
      refine m_istore_n hx hb hL dX6_work_27 (Nat.le_of_ble_eq_true rfl) (fun ls hL => ?_)
      have lp : ∀ (f : Nat) (k : Int) (B : rS) (H : Heap) (locs : List Loc) (μ : mM) (ls : Array Slot), (∃ P Gs, KK B P Gs) → 0 ≤ k ∧ k ≤ x → (f : Int) + k = x + 1 → rWork A x = rRun (f - 1) B → RI B → mX G ρ (mA ρ μ0 z) s.heap μ z H locs → RR B μ → rfr μ0 μ → lq ls [some (.ref (ρ 6)), some (.int (iv x)), some (.int (iv k))] → W p l e (rm 4 87 0 0) s m args below meth c H locs 0 0 (wQ G ρ μ0 z (rP (some (.int (iv (rWorkV A x)))) (rWork A x) μ0 z) below args s 0 0) (F0 m 28 ls []) := by
        intro f
        induction f with
        | zero =>
          intro k B H locs μ ls hk h0 hf1 hv hI X hR hf hL
          omega
        | succ f ih =>
          intro k B H locs μ ls hk h0 hf1 hv hI X hR hf hL
          obtain ⟨P, Gs, hk⟩ := hk
          have hv : rWork A x = rRun f B := hv
          refine m_iload_n hx hb hL dX6_work_28 rfl ?_
          refine m_iload_n hx hb hL dX6_work_29 rfl ?_
          refine m_icmp_ge (tgt := 50) hx hb dX6_work_30 (by decide) (by omega) (by omega) (fun c30 => ?_) (fun c30 => ?_)
          · refine m_aload_n hx hb hL dX6_work_50 rfl ?_
            refine r_gets (w := (B 18 0)) hC X hR FX6_70 rfl rfl rfl dX6_work_51 ?_
            have q1 : (0 : Int) ≤ (B 18 0) ∧ (B 18 0) ≤ 3 := hI.b18 0
            exact r_iret hC X hR hf hr hlk (by rw [hv]; first | rw [run_0 (by omega)] | (obtain rfl : f = 0 := (by omega); rfl)) (by unfold rWorkV; rw [if_pos (by omega)]; have hw : rWork A x = rRun x.toNat (up A 0 0 0) := (by unfold rWork; rw [if_pos (by omega)]); rw [← hw, hv]; first | rw [run_0 (by omega)] | (obtain rfl : f = 0 := (by omega); rfl)) dX6_work_54
          · refine m_aload_n hx hb hL dX6_work_33 rfl ?_
            refine r_gets (w := (B 18 0)) hC X hR FX6_70 rfl rfl rfl dX6_work_34 ?_
            have q2 : (0 : Int) ≤ (B 18 0) ∧ (B 18 0) ≤ 3 := hI.b18 0
            refine m_if_le (tgt := 50) hx hb dX6_work_37 (by decide) (by omega) (fun c37 => ?_) (fun c37 => ?_)
            · refine m_aload_n hx hb hL dX6_work_50 rfl ?_
              refine r_gets (w := (B 18 0)) hC X hR FX6_70 rfl rfl rfl dX6_work_51 ?_
              have q3 : (0 : Int) ≤ (B 18 0) ∧ (B 18 0) ≤ 3 := hI.b18 0
              exact r_iret hC X hR hf hr hlk (by rw [hv]; first | rw [run_0 (by omega)] | (obtain rfl : f = 0 := (by omega); rfl)) (by unfold rWorkV; rw [if_pos (by omega)]; have hw : rWork A x = rRun x.toNat (up A 0 0 0) := (by unfold rWork; rw [if_pos (by omega)]); rw [← hw, hv]; first | rw [run_0 (by omega)] | (obtain rfl : f = 0 := (by omega); rfl)) dX6_work_54
            · refine m_aload_n hx hb hL dX6_work_40 rfl ?_
              refine r_call hC X hR hf (k_X6_unit hR hI (KK_17 hk) (KK_19 hk)) VX6_108 rfl ⟨by decide, by decide⟩ ⟨by decide, by decide⟩ hL.1 rfl (Nat.le_of_ble_eq_true rfl) dX6_work_41 (fun μ H locs X hR hf => ?_)
              have hI := (unit_KK hk).1.1
              refine m_iincv hx hb hL dX6_work_44 rfl (fun ls hL => ?_)
              refine lv_goto (tgt := 28) hx hb dX6_work_47 (by decide) ?_
              exact ih (k + 1) _ _ _ _ ls ⟨_, _, unit_KK hk⟩ ⟨by omega, by omega⟩ (by omega) (by rw [hv]; exact run_s (by omega) (by omega)) hI X hR hf hL
      exact lp (x.toNat + 1) 0 (up A 0 0 0) _ _ _ ls ⟨P, Gs, KK_0 hK ⟨by omega, by omega⟩⟩ ⟨by omega, by omega⟩ (by omega) (by unfold rWork; rw [if_pos (by omega)]; rfl) hI X hR hf hL

set_option maxHeartbeats 4000000 in
theorem k_X6_collect {G : mG} {l : Launch} {z : Nat} {ρ : Nat → Nat} {μ0 : mM} {A : rS} {P Gs : Nat → Prop} (hR : RR A μ0) (hI : RI A) (hK : KK A P Gs) : MR G l yX6_collect cX6_collect 3 (some .int) 6 127 z ρ [.ref (ρ 6)] μ0 (some (.int (iv (rFree (rCollect A))))) (rCollect A) := by
  refine MR.of hR (by decide) (by simp [Value.category]) (Nat.le_of_ble_eq_true rfl) (Nat.le_of_ble_eq_true rfl) ?_
  intro p e s m args below meth c ls H locs μ hC hx hb hr hlk X hR hf hL
  refine m_aload_n hx hb hL dX6_collect_0 rfl ?_
  refine lv_iconst (v := iv 0) hx hb dX6_collect_1 rfl ?_
  refine r_puts (v := 0) hC X hR FwX6_54 rfl rfl dX6_collect_2 (fun H locs X hR => ?_)
  have hf := hf.s 0 (iv 0)
  have hI := hI.u0 0 (v := 0) ⟨by omega, by omega⟩
  have hk0 := KK_0 (v := 0) hK ⟨by omega, by omega⟩
  refine m_aload_n hx hb hL dX6_collect_5 rfl ?_
  refine r_call hC X hR hf (k_X6_whole hR hI hk0) VX6_127 rfl ⟨by decide, by decide⟩ ⟨by decide, by decide⟩ hL.1 rfl (Nat.le_of_ble_eq_true rfl) dX6_collect_6 (fun μ H locs X hR hf => ?_)
  obtain ⟨hkw, hpw⟩ := whole_KK hk0
  have hI := hkw.1.1
  refine lv_iconst (v := iv 0) hx hb dX6_collect_9 rfl ?_
  refine m_istore_n hx hb hL dX6_collect_10 (Nat.le_of_ble_eq_true rfl) (fun ls hL => ?_)
  refine lv_iconst (v := iv 0) hx hb dX6_collect_11 rfl ?_
  refine m_istore_n hx hb hL dX6_collect_12 (Nat.le_of_ble_eq_true rfl) (fun ls hL => ?_)
  have lp : ∀ (f : Nat) (n r : Int) (ls : Array Slot), 0 ≤ r ∧ r ≤ rWhole (up A 0 0 0) 1 0 → 0 ≤ n ∧ n ≤ r → (f : Int) + r = 20 → rFree (rCollect A) = rFr (rWhole (up A 0 0 0)) f r n → lq ls [some (.ref (ρ 6)), some (.int (iv n)), some (.int (iv r))] → W p l e (rm 6 127 0 0) s m args below meth c H locs 0 0 (wQ G ρ μ0 z (rP (some (.int (iv (rFree (rCollect A))))) (rCollect A) μ0 z) below args s 0 0) (F0 m 13 ls []) := by
    intro f
    induction f with
    | zero =>
      intro n r ls h0 h1 hf1 hv hL
      have := hI.b1 0; omega
    | succ f ih =>
      intro n r ls h0 h1 hf1 hv hL
      refine m_iload_n hx hb hL dX6_collect_13 rfl ?_
      refine m_aload_n hx hb hL dX6_collect_14 rfl ?_
      refine r_gets (w := ((rWhole (up A 0 0 0)) 1 0)) hC X hR FX6_47 rfl rfl rfl dX6_collect_15 ?_
      have q1 : (3 : Int) ≤ ((rWhole (up A 0 0 0)) 1 0) ∧ ((rWhole (up A 0 0 0)) 1 0) ≤ 16 := hI.b1 0
      refine m_icmp_ge (tgt := 44) hx hb dX6_collect_18 (by decide) (by omega) (by omega) (fun c18 => ?_) (fun c18 => ?_)
      · refine m_iload_n hx hb hL dX6_collect_44 rfl ?_
        exact r_iret hC X hR hf hr hlk rfl (by rw [hv, rFr, if_pos c18]) dX6_collect_45
      · refine m_aload_n hx hb hL dX6_collect_21 rfl ?_
        refine r_geta hC X hR FX6_7 rfl rfl dX6_collect_22 ?_
        refine m_iload_n hx hb hL dX6_collect_25 rfl ?_
        refine r_iald (x := r) (w := ((rWhole (up A 0 0 0)) 3 (r : Int).toNat)) hC X hR 3 rfl rfl (by omega) (by change _ < ((16 : Nat) : Int); omega) rfl dX6_collect_26 ?_
        have q2 : (0 : Int) ≤ ((rWhole (up A 0 0 0)) 3 (r : Int).toNat) ∧ ((rWhole (up A 0 0 0)) 3 (r : Int).toNat) ≤ 4 := hI.b3 (r : Int).toNat
        refine m_if_ne (tgt := 36) hx hb dX6_collect_27 (by decide) (by omega) (fun c27 => ?_) (fun c27 => ?_)
        · refine m_iload_n hx hb hL dX6_collect_36 rfl ?_
          refine m_istore_n hx hb hL dX6_collect_37 (Nat.le_of_ble_eq_true rfl) (fun ls hL => ?_)
          refine m_iincv hx hb hL dX6_collect_38 rfl (fun ls hL => ?_)
          refine lv_goto (tgt := 13) hx hb dX6_collect_41 (by decide) ?_
          exact ih n (r + 1) ls ⟨by omega, by omega⟩ ⟨by omega, by omega⟩ (by omega) (by rw [hv, rFr, if_neg c18]; (first | rw [if_pos (by omega)] | rw [if_neg (by omega)])) hL
        · refine m_iload_n hx hb hL dX6_collect_30 rfl ?_
          refine lv_iconst (v := iv 1) hx hb dX6_collect_31 rfl ?_
          refine m_iadd hx hb dX6_collect_32 ?_
          refine lv_goto (tgt := 37) hx hb dX6_collect_33 (by decide) ?_
          refine m_istore_n hx hb hL dX6_collect_37 (Nat.le_of_ble_eq_true rfl) (fun ls hL => ?_)
          refine m_iincv hx hb hL dX6_collect_38 rfl (fun ls hL => ?_)
          refine lv_goto (tgt := 13) hx hb dX6_collect_41 (by decide) ?_
          exact ih (n + 1) (r + 1) ls ⟨by omega, by omega⟩ ⟨by omega, by omega⟩ (by omega) (by rw [hv, rFr, if_neg c18]; (first | rw [if_pos (by omega)] | rw [if_neg (by omega)])) hL
  exact lp 20 0 0 ls ⟨by omega, by have := hI.b1 0; omega⟩ ⟨by omega, by omega⟩ (by omega) rfl hL

set_option maxHeartbeats 4000000 in
theorem k_X6_alloc {G : mG} {l : Launch} {z : Nat} {ρ : Nat → Nat} {μ0 : mM} {A : rS} {x : Int} {y : Int} {t : Int} {P Gs : Nat → Prop} (hR : RR A μ0) (hI : RI A) (hK : KK A P Gs) (hn512 : A 6 0 < 512) (hx1 : rng x) (hy1 : rng y) (ht1 : rng t) : MR G l yX6_alloc cX6_alloc 7 (some .int) 6 127 z ρ [.ref (ρ 6), .int (iv x), .int (iv y), .int (iv t)] μ0 (some (.int (iv (rAllocV A x y t)))) (rAlloc A x y t) := by
  refine MR.of hR (by decide) (by simp [Value.category]) (Nat.le_of_ble_eq_true rfl) (Nat.le_of_ble_eq_true rfl) ?_
  intro p e s m args below meth c ls H locs μ hC hx hb hr hlk X hR hf hL
  refine m_aload_n hx hb hL dX6_alloc_0 rfl ?_
  refine m_iload_n hx hb hL dX6_alloc_1 rfl ?_
  refine r_callS hC X hR hf (k_X6_isRegister (x := x) hR hI (by omega)) VX6_117 rfl ⟨by decide, by decide⟩ ⟨by decide, by decide⟩ hL.1 rfl (Nat.le_of_ble_eq_true rfl) dX6_alloc_2 (fun μ H locs X hR hf => ?_)
  by_cases g2 : rReg x
  · rw [show rIsReg x = 1 from bZ_t g2]
    refine m_iload_n hx hb hL dX6_alloc_5 rfl ?_
    refine m_if_lt (tgt := 19) hx hb dX6_alloc_6 (by decide) (by omega) (fun c6 => ?_) (fun c6 => ?_)
    · refine lv_iconst (v := iv 0) hx hb dX6_alloc_19 rfl ?_
      refine r_call hC X hR hf (k_X6_good (x := 1) (y := 0) hR hI (by omega) (by omega)) VX6_120 rfl ⟨by decide, by decide⟩ ⟨by decide, by decide⟩ hL.1 rfl (Nat.le_of_ble_eq_true rfl) dX6_alloc_20 (fun μ H locs X hR hf => ?_)
      have hR : RR (up A 0 0 2) μ := hR
      have hI : RI (up A 0 0 2) := hI.u0 0 (v := 2) ⟨by omega, by omega⟩
      rw [show bZ (rThr 1 0 = 0) = 0 by decide]
      refine m_if_ne (tgt := 28) hx hb dX6_alloc_23 (by decide) (by omega) (fun c23 => absurd c23 (by omega)) (fun c23 => ?_)
      refine lv_iconst (v := iv 0) hx hb dX6_alloc_26 rfl ?_
      exact r_iret hC X hR hf hr hlk (by unfold rAlloc; rw [if_neg (by omega)]; (first | rw [if_pos (by omega)] | rw [if_neg (by omega)])) (by unfold rAllocV; rw [if_neg (by omega)]) dX6_alloc_27
    · refine m_iload_n hx hb hL dX6_alloc_9 rfl ?_
      refine lv_bipush (v := iv 20) hx hb dX6_alloc_10 (by decide +kernel) ?_
      refine m_icmp_gt (tgt := 19) hx hb dX6_alloc_12 (by decide) (by omega) (by omega) (fun c12 => ?_) (fun c12 => ?_)
      · refine lv_iconst (v := iv 0) hx hb dX6_alloc_19 rfl ?_
        refine r_call hC X hR hf (k_X6_good (x := 1) (y := 0) hR hI (by omega) (by omega)) VX6_120 rfl ⟨by decide, by decide⟩ ⟨by decide, by decide⟩ hL.1 rfl (Nat.le_of_ble_eq_true rfl) dX6_alloc_20 (fun μ H locs X hR hf => ?_)
        have hR : RR (up A 0 0 2) μ := hR
        have hI : RI (up A 0 0 2) := hI.u0 0 (v := 2) ⟨by omega, by omega⟩
        rw [show bZ (rThr 1 0 = 0) = 0 by decide]
        refine m_if_ne (tgt := 28) hx hb dX6_alloc_23 (by decide) (by omega) (fun c23 => absurd c23 (by omega)) (fun c23 => ?_)
        refine lv_iconst (v := iv 0) hx hb dX6_alloc_26 rfl ?_
        exact r_iret hC X hR hf hr hlk (by unfold rAlloc; rw [if_neg (by omega)]; (first | rw [if_pos (by omega)] | rw [if_neg (by omega)])) (by unfold rAllocV; rw [if_neg (by omega)]) dX6_alloc_27
      · refine lv_iconst (v := iv 1) hx hb dX6_alloc_15 rfl ?_
        refine lv_goto (tgt := 20) hx hb dX6_alloc_16 (by decide) ?_
        refine r_call hC X hR hf (k_X6_good (x := 1) (y := 1) hR hI (by omega) (by omega)) VX6_120 rfl ⟨by decide, by decide⟩ ⟨by decide, by decide⟩ hL.1 rfl (Nat.le_of_ble_eq_true rfl) dX6_alloc_20 (fun μ H locs X hR hf => ?_)
        have hR : RR (up A 0 0 0) μ := hR
        have hI : RI (up A 0 0 0) := hI.u0 0 (v := 0) ⟨by omega, by omega⟩
        rw [show bZ (rThr 1 1 = 0) = 1 by decide]
        refine m_if_ne (tgt := 28) hx hb dX6_alloc_23 (by decide) (by omega) (fun c23 => ?_) (fun c23 => absurd c23 (by omega))
        have J : ∀ (E : rS) (H : Heap) (locs : List Loc) (μ : mM) (ls : Array Slot), E 6 0 < 512 → rWith E 1 ≠ -1 → E 4 (rWith E 1).toNat + (y + 2) ≤ 128 → rAlloc A x y t = rPut E x y t → rAllocV A x y t = rPlace (rPut E x y t) (E 6 0) → RI E → mX G ρ (mA ρ μ0 z) s.heap μ z H locs → RR E μ → rfr μ0 μ → lq ls [some (.ref (ρ 6)), some (.int (iv x)), some (.int (iv y)), some (.int (iv t)), none, none, none] → W p l e (rm 6 127 0 0) s m args below meth c H locs 0 0 (wQ G ρ μ0 z (rP (some (.int (iv (rAllocV A x y t)))) (rAlloc A x y t) μ0 z) below args s 0 0) (F0 m 54 ls []) := by
          intro E H locs μ ls h512 hact1 hact2 hv1 hv2 hI X hR hf hL
          have b1 := hI.b1 0
          have b6 := hI.b6 0
          have hw1 := rWith_some hact1
          refine m_aload_n hx hb hL dX6_alloc_54 rfl ?_
          refine lv_iconst (v := iv 1) hx hb dX6_alloc_55 rfl ?_
          refine r_call hC X hR hf (k_X6_withState (x := 1) hR hI (by decide)) VX6_77 rfl ⟨by decide, by decide⟩ ⟨by decide, by decide⟩ hL.1 rfl (Nat.le_of_ble_eq_true rfl) dX6_alloc_56 (fun μ H locs X hR hf => ?_)
          have hq56 := rWith_b hI (1)
          refine m_istore hx hb hL dX6_alloc_59 (Nat.le_of_ble_eq_true rfl) (fun ls hL => ?_)
          refine m_aload_n hx hb hL dX6_alloc_61 rfl ?_
          refine r_gets (w := (E 6 0)) hC X hR FX6_57 rfl rfl rfl dX6_alloc_62 ?_
          have q1 : (0 : Int) ≤ (E 6 0) ∧ (E 6 0) ≤ 620 := hI.b6 0
          refine m_istore hx hb hL dX6_alloc_65 (Nat.le_of_ble_eq_true rfl) (fun ls hL => ?_)
          refine m_aload_n hx hb hL dX6_alloc_67 rfl ?_
          refine lv_dup hx hb dX6_alloc_68 rfl ?_
          refine r_gets (w := (E 6 0)) hC X hR FX6_57 rfl rfl rfl dX6_alloc_69 ?_
          have q2 : (0 : Int) ≤ (E 6 0) ∧ (E 6 0) ≤ 620 := hI.b6 0
          refine lv_iconst (v := iv 1) hx hb dX6_alloc_72 rfl ?_
          refine m_iadd hx hb dX6_alloc_73 ?_
          refine r_puts (v := ((E 6 0) + 1)) hC X hR FwX6_57 rfl rfl dX6_alloc_74 (fun H locs X hR => ?_)
          have hf := hf.s 6 (iv ((E 6 0) + 1))
          have hI := hI.u6 0 (v := ((E 6 0) + 1)) ⟨by omega, by omega⟩
          refine m_aload_n hx hb hL dX6_alloc_77 rfl ?_
          refine r_geta hC X hR FX6_20 rfl rfl dX6_alloc_78 ?_
          refine m_iload hx hb hL dX6_alloc_81 rfl ?_
          refine m_iload hx hb hL dX6_alloc_83 rfl ?_
          refine r_iast (x := (E 6 0)) (v := (rWith E 1)) hC X hR 7 rfl rfl (by omega) (by change _ < ((620 : Nat) : Int); omega) dX6_alloc_85 (fun H locs X hR => ?_)
          have hf := hf.a 7 ((E 6 0) : Int).toNat (iv (rWith E 1))
          have hI := hI.u7 ((E 6 0) : Int).toNat (v := (rWith E 1)) ⟨by omega, by omega⟩
          refine m_aload_n hx hb hL dX6_alloc_86 rfl ?_
          refine r_geta hC X hR FX6_23 rfl rfl dX6_alloc_87 ?_
          refine m_iload hx hb hL dX6_alloc_90 rfl ?_
          refine m_aload_n hx hb hL dX6_alloc_92 rfl ?_
          refine r_geta hC X hR FX6_13 rfl rfl dX6_alloc_93 ?_
          refine m_iload hx hb hL dX6_alloc_96 rfl ?_
          refine r_iald (x := (rWith E 1)) (w := (E 4 ((rWith E 1) : Int).toNat)) hC X hR 4 rfl rfl (by omega) (by change _ < ((16 : Nat) : Int); omega) rfl dX6_alloc_98 ?_
          have q3 : (0 : Int) ≤ (E 4 ((rWith E 1) : Int).toNat) ∧ (E 4 ((rWith E 1) : Int).toNat) ≤ 128 := hI.b4 ((rWith E 1) : Int).toNat
          refine r_iast (x := (E 6 0)) (v := (E 4 ((rWith E 1) : Int).toNat)) hC X hR 8 rfl rfl (by omega) (by change _ < ((620 : Nat) : Int); omega) dX6_alloc_99 (fun H locs X hR => ?_)
          have hf := hf.a 8 ((E 6 0) : Int).toNat (iv (E 4 ((rWith E 1) : Int).toNat))
          have hI := hI.u8 ((E 6 0) : Int).toNat (v := (E 4 ((rWith E 1) : Int).toNat)) ⟨by omega, by omega⟩
          refine m_aload_n hx hb hL dX6_alloc_100 rfl ?_
          refine r_geta hC X hR FX6_26 rfl rfl dX6_alloc_101 ?_
          refine m_iload hx hb hL dX6_alloc_104 rfl ?_
          refine m_iload_n hx hb hL dX6_alloc_106 rfl ?_
          refine lv_iconst (v := iv 2) hx hb dX6_alloc_107 rfl ?_
          refine m_iadd hx hb dX6_alloc_108 ?_
          refine r_iast (x := (E 6 0)) (v := (y + 2)) hC X hR 9 rfl rfl (by omega) (by change _ < ((620 : Nat) : Int); omega) dX6_alloc_109 (fun H locs X hR => ?_)
          have hf := hf.a 9 ((E 6 0) : Int).toNat (iv (y + 2))
          have hI := hI.u9 ((E 6 0) : Int).toNat (v := (y + 2)) ⟨by omega, by omega⟩
          refine m_aload_n hx hb hL dX6_alloc_110 rfl ?_
          refine r_geta hC X hR FX6_13 rfl rfl dX6_alloc_111 ?_
          refine m_iload hx hb hL dX6_alloc_114 rfl ?_
          refine m_aload_n hx hb hL dX6_alloc_116 rfl ?_
          refine r_geta hC X hR FX6_13 rfl rfl dX6_alloc_117 ?_
          refine m_iload hx hb hL dX6_alloc_120 rfl ?_
          refine r_iald (x := (rWith E 1)) (w := (E 4 ((rWith E 1) : Int).toNat)) hC X hR 4 rfl rfl (by omega) (by change _ < ((16 : Nat) : Int); omega) rfl dX6_alloc_122 ?_
          have q4 : (0 : Int) ≤ (E 4 ((rWith E 1) : Int).toNat) ∧ (E 4 ((rWith E 1) : Int).toNat) ≤ 128 := hI.b4 ((rWith E 1) : Int).toNat
          refine m_aload_n hx hb hL dX6_alloc_123 rfl ?_
          refine r_geta hC X hR FX6_26 rfl rfl dX6_alloc_124 ?_
          refine m_iload hx hb hL dX6_alloc_127 rfl ?_
          refine r_iald (x := (E 6 0)) (w := (y + 2)) hC X hR 9 rfl rfl (by omega) (by change _ < ((620 : Nat) : Int); omega) (by simp [up]) dX6_alloc_129 ?_
          refine m_iadd hx hb dX6_alloc_130 ?_
          refine r_iast (x := (rWith E 1)) (v := ((E 4 ((rWith E 1) : Int).toNat) + (y + 2))) hC X hR 4 rfl rfl (by omega) (by change _ < ((16 : Nat) : Int); omega) dX6_alloc_131 (fun H locs X hR => ?_)
          have hf := hf.a 4 ((rWith E 1) : Int).toNat (iv ((E 4 ((rWith E 1) : Int).toNat) + (y + 2)))
          have hI := hI.u4 ((rWith E 1) : Int).toNat (v := ((E 4 ((rWith E 1) : Int).toNat) + (y + 2))) ⟨by omega, by omega⟩
          refine m_aload_n hx hb hL dX6_alloc_132 rfl ?_
          refine r_geta hC X hR FX6_29 rfl rfl dX6_alloc_133 ?_
          refine m_iload hx hb hL dX6_alloc_136 rfl ?_
          refine m_iload_n hx hb hL dX6_alloc_138 rfl ?_
          refine r_iast (x := (E 6 0)) (v := t) hC X hR 10 rfl rfl (by omega) (by change _ < ((620 : Nat) : Int); omega) dX6_alloc_139 (fun H locs X hR => ?_)
          have hf := hf.a 10 ((E 6 0) : Int).toNat (iv t)
          have hI := hI.u10 ((E 6 0) : Int).toNat (v := t) ⟨by omega, by omega⟩
          refine lv_iconst (v := iv 0) hx hb dX6_alloc_140 rfl ?_
          refine m_istore hx hb hL dX6_alloc_141 (Nat.le_of_ble_eq_true rfl) (fun ls hL => ?_)
          have lpA : ∀ (f : Nat) (k : Int) (B : rS) (H : Heap) (locs : List Loc) (μ : mM) (ls : Array Slot), 0 ≤ k ∧ k ≤ y → B 18 0 = E 18 0 → (f : Int) + k = 30 → rPut E x y t = up (up (up (rFld (E 6 0) y f k B) 12 (E 6 0).toNat (bZ (0 < E 18 0))) 13 (E 6 0).toNat 0) 14 x.toNat (E 6 0) → RI B → mX G ρ (mA ρ μ0 z) s.heap μ z H locs → RR B μ → rfr μ0 μ → lq ls [some (.ref (ρ 6)), some (.int (iv x)), some (.int (iv y)), some (.int (iv t)), some (.int (iv (rWith E 1))), some (.int (iv (E 6 0))), some (.int (iv k))] → W p l e (rm 6 127 0 0) s m args below meth c H locs 0 0 (wQ G ρ μ0 z (rP (some (.int (iv (rAllocV A x y t)))) (rAlloc A x y t) μ0 z) below args s 0 0) (F0 m 143 ls []) := by
            intro f
            induction f with
            | zero =>
              intro k B H locs μ ls h0 h18 hf1 hv hI X hR hf hL
              omega
            | succ f ih =>
              intro k B H locs μ ls h0 h18 hf1 hv hI X hR hf hL
              refine m_iload hx hb hL dX6_alloc_143 rfl ?_
              refine m_iload_n hx hb hL dX6_alloc_145 rfl ?_
              refine m_icmp_ge (tgt := 169) hx hb dX6_alloc_146 (by decide) (by omega) (by omega) (fun c146 => ?_) (fun c146 => ?_)
              · refine m_aload_n hx hb hL dX6_alloc_169 rfl ?_
                refine r_geta hC X hR FX6_35 rfl rfl dX6_alloc_170 ?_
                refine m_iload hx hb hL dX6_alloc_173 rfl ?_
                refine m_aload_n hx hb hL dX6_alloc_175 rfl ?_
                refine r_gets (w := (B 18 0)) hC X hR FX6_70 rfl rfl rfl dX6_alloc_176 ?_
                have q6 : (0 : Int) ≤ (B 18 0) ∧ (B 18 0) ≤ 3 := hI.b18 0
                refine m_if_le (tgt := 186) hx hb dX6_alloc_179 (by decide) (by omega) (fun c179 => ?_) (fun c179 => ?_)
                · refine lv_iconst (v := iv 0) hx hb dX6_alloc_186 rfl ?_
                  refine r_zast (x := (E 6 0)) (v := 0) hC X hR 12 rfl rfl (by omega) (by change _ < ((620 : Nat) : Int); omega) (by omega) dX6_alloc_187 (fun H locs X hR => ?_)
                  have hf := hf.a 12 ((E 6 0) : Int).toNat (iv 0)
                  have hI := hI.u12 ((E 6 0) : Int).toNat (v := 0) ⟨by omega, by omega⟩
                  refine m_aload_n hx hb hL dX6_alloc_188 rfl ?_
                  refine r_geta hC X hR FX6_38 rfl rfl dX6_alloc_189 ?_
                  refine m_iload hx hb hL dX6_alloc_192 rfl ?_
                  refine lv_iconst (v := iv 0) hx hb dX6_alloc_194 rfl ?_
                  refine r_zast (x := (E 6 0)) (v := 0) hC X hR 13 rfl rfl (by omega) (by change _ < ((620 : Nat) : Int); omega) (by omega) dX6_alloc_195 (fun H locs X hR => ?_)
                  have hf := hf.a 13 ((E 6 0) : Int).toNat (iv 0)
                  have hI := hI.u13 ((E 6 0) : Int).toNat (v := 0) ⟨by omega, by omega⟩
                  refine m_aload_n hx hb hL dX6_alloc_196 rfl ?_
                  refine r_geta hC X hR FX6_41 rfl rfl dX6_alloc_197 ?_
                  refine m_iload_n hx hb hL dX6_alloc_200 rfl ?_
                  refine m_iload hx hb hL dX6_alloc_201 rfl ?_
                  refine r_iast (x := x) (v := (E 6 0)) hC X hR 14 rfl rfl (by omega) (by change _ < ((10 : Nat) : Int); omega) dX6_alloc_203 (fun H locs X hR => ?_)
                  have hf := hf.a 14 (x : Int).toNat (iv (E 6 0))
                  have hI := hI.u14 (x : Int).toNat (v := (E 6 0)) ⟨by omega, by omega⟩
                  refine m_aload_n hx hb hL dX6_alloc_204 rfl ?_
                  refine m_iload hx hb hL dX6_alloc_205 rfl ?_
                  refine r_call hC X hR hf (k_X6_place (x := (E 6 0)) hR hI (by omega)) VX6_90 rfl ⟨by decide, by decide⟩ ⟨by decide, by decide⟩ hL.1 rfl (Nat.le_of_ble_eq_true rfl) dX6_alloc_207 (fun μ H locs X hR hf => ?_)
                  have hq207 := rPlace_b hI ((E 6 0))
                  exact r_iret hC X hR hf hr hlk (by rw [hv1, (show rPut E x y t = (up (up (up B 12 ((E 6 0) : Int).toNat 0) 13 ((E 6 0) : Int).toNat 0) 14 (x : Int).toNat (E 6 0)) by (rw [hv, rFld, if_pos c146]; first | rw [bZ_t (by omega)] | rw [bZ_f (by omega)]))]) (by rw [hv2, (show rPut E x y t = (up (up (up B 12 ((E 6 0) : Int).toNat 0) 13 ((E 6 0) : Int).toNat 0) 14 (x : Int).toNat (E 6 0)) by (rw [hv, rFld, if_pos c146]; first | rw [bZ_t (by omega)] | rw [bZ_f (by omega)]))]) dX6_alloc_210
                · refine lv_iconst (v := iv 1) hx hb dX6_alloc_182 rfl ?_
                  refine lv_goto (tgt := 187) hx hb dX6_alloc_183 (by decide) ?_
                  refine r_zast (x := (E 6 0)) (v := 1) hC X hR 12 rfl rfl (by omega) (by change _ < ((620 : Nat) : Int); omega) (by omega) dX6_alloc_187 (fun H locs X hR => ?_)
                  have hf := hf.a 12 ((E 6 0) : Int).toNat (iv 1)
                  have hI := hI.u12 ((E 6 0) : Int).toNat (v := 1) ⟨by omega, by omega⟩
                  refine m_aload_n hx hb hL dX6_alloc_188 rfl ?_
                  refine r_geta hC X hR FX6_38 rfl rfl dX6_alloc_189 ?_
                  refine m_iload hx hb hL dX6_alloc_192 rfl ?_
                  refine lv_iconst (v := iv 0) hx hb dX6_alloc_194 rfl ?_
                  refine r_zast (x := (E 6 0)) (v := 0) hC X hR 13 rfl rfl (by omega) (by change _ < ((620 : Nat) : Int); omega) (by omega) dX6_alloc_195 (fun H locs X hR => ?_)
                  have hf := hf.a 13 ((E 6 0) : Int).toNat (iv 0)
                  have hI := hI.u13 ((E 6 0) : Int).toNat (v := 0) ⟨by omega, by omega⟩
                  refine m_aload_n hx hb hL dX6_alloc_196 rfl ?_
                  refine r_geta hC X hR FX6_41 rfl rfl dX6_alloc_197 ?_
                  refine m_iload_n hx hb hL dX6_alloc_200 rfl ?_
                  refine m_iload hx hb hL dX6_alloc_201 rfl ?_
                  refine r_iast (x := x) (v := (E 6 0)) hC X hR 14 rfl rfl (by omega) (by change _ < ((10 : Nat) : Int); omega) dX6_alloc_203 (fun H locs X hR => ?_)
                  have hf := hf.a 14 (x : Int).toNat (iv (E 6 0))
                  have hI := hI.u14 (x : Int).toNat (v := (E 6 0)) ⟨by omega, by omega⟩
                  refine m_aload_n hx hb hL dX6_alloc_204 rfl ?_
                  refine m_iload hx hb hL dX6_alloc_205 rfl ?_
                  refine r_call hC X hR hf (k_X6_place (x := (E 6 0)) hR hI (by omega)) VX6_90 rfl ⟨by decide, by decide⟩ ⟨by decide, by decide⟩ hL.1 rfl (Nat.le_of_ble_eq_true rfl) dX6_alloc_207 (fun μ H locs X hR hf => ?_)
                  have hq207 := rPlace_b hI ((E 6 0))
                  exact r_iret hC X hR hf hr hlk (by rw [hv1, (show rPut E x y t = (up (up (up B 12 ((E 6 0) : Int).toNat 1) 13 ((E 6 0) : Int).toNat 0) 14 (x : Int).toNat (E 6 0)) by (rw [hv, rFld, if_pos c146]; first | rw [bZ_t (by omega)] | rw [bZ_f (by omega)]))]) (by rw [hv2, (show rPut E x y t = (up (up (up B 12 ((E 6 0) : Int).toNat 1) 13 ((E 6 0) : Int).toNat 0) 14 (x : Int).toNat (E 6 0)) by (rw [hv, rFld, if_pos c146]; first | rw [bZ_t (by omega)] | rw [bZ_f (by omega)]))]) dX6_alloc_210
              · refine m_aload_n hx hb hL dX6_alloc_149 rfl ?_
                refine r_geta hC X hR FX6_32 rfl rfl dX6_alloc_150 ?_
                refine lv_bipush (v := iv 21) hx hb dX6_alloc_153 (by decide +kernel) ?_
                refine m_iload hx hb hL dX6_alloc_155 rfl ?_
                refine m_imul hx hb dX6_alloc_157 ?_
                refine m_iload hx hb hL dX6_alloc_158 rfl ?_
                refine m_iadd hx hb dX6_alloc_160 ?_
                refine lv_iconst (v := iv (-1)) hx hb dX6_alloc_161 rfl ?_
                refine r_iast (x := ((21 * (E 6 0)) + k)) (v := (-1)) hC X hR 11 rfl rfl (by omega) (by change _ < ((13020 : Nat) : Int); omega) dX6_alloc_162 (fun H locs X hR => ?_)
                have hf := hf.a 11 (((21 * (E 6 0)) + k) : Int).toNat (iv (-1))
                have hI := hI.u11 (((21 * (E 6 0)) + k) : Int).toNat (v := (-1)) ⟨by omega, by omega⟩
                refine m_iincv hx hb hL dX6_alloc_163 rfl (fun ls hL => ?_)
                refine lv_goto (tgt := 143) hx hb dX6_alloc_166 (by decide) ?_
                exact ih (k + 1) _ _ _ _ ls ⟨by omega, by omega⟩ (by show B 18 0 = E 18 0; exact h18) (by omega) (by rw [hv, rFld, if_neg c146]) hI X hR hf hL
          exact lpA 30 0 (up (up (up (up (up (up E 6 0 ((E 6 0) + 1)) 7 ((E 6 0) : Int).toNat (rWith E 1)) 8 ((E 6 0) : Int).toNat (E 4 ((rWith E 1) : Int).toNat)) 9 ((E 6 0) : Int).toNat (y + 2)) 4 ((rWith E 1) : Int).toNat ((E 4 ((rWith E 1) : Int).toNat) + (y + 2))) 10 ((E 6 0) : Int).toNat t) _ _ _ ls ⟨by omega, by omega⟩ rfl (by omega) rfl hI X hR hf hL
        have hkc := KK_0 (v := 0) hK ⟨by omega, by omega⟩
        refine m_aload_n hx hb hL dX6_alloc_28 rfl ?_
        refine m_iload_n hx hb hL dX6_alloc_29 rfl ?_
        refine lv_iconst (v := iv 2) hx hb dX6_alloc_30 rfl ?_
        refine m_iadd hx hb dX6_alloc_31 ?_
        refine r_call hC X hR hf (k_X6_hasActive (x := (y + 2)) hR hI (by omega)) VX6_124 rfl ⟨by decide, by decide⟩ ⟨by decide, by decide⟩ hL.1 rfl (Nat.le_of_ble_eq_true rfl) dX6_alloc_32 (fun μ H locs X hR hf => ?_)
        have hact := fun q => has_act (n := (y + 2)) hkc (by omega) q
        have hq32 := rHasV_b (up A 0 0 0) (y + 2)
        have hkc := has_KK (n := (y + 2)) hkc
        have hI := hkc.1.1
        by_cases g32 : rHasV (up A 0 0 0) (y + 2) = 1
        · rw [g32]
          have hact := hact g32
          refine m_if_ne (tgt := 54) hx hb dX6_alloc_35 (by decide) (by omega) (fun c35 => ?_) (fun c35 => absurd c35 (by omega))
          exact J (rHas (up A 0 0 0) (y + 2)) H locs μ ls (by rw [← (show rAl1 A y = (rHas (up A 0 0 0) (y + 2)) by (unfold rAl1; (first | rw [if_pos (by omega)] | rw [if_neg (by omega)]))), al1_6]; exact hn512) hact.1 hact.2 (by unfold rAlloc; rw [if_pos (by omega), (show rAlV A y = 1 by (unfold rAlV; (first | rw [if_pos (by omega)] | rw [if_neg (by omega)]); (try assumption))), if_pos rfl, (show rAl1 A y = (rHas (up A 0 0 0) (y + 2)) by (unfold rAl1; (first | rw [if_pos (by omega)] | rw [if_neg (by omega)])))]) (by unfold rAllocV; rw [if_pos (by omega), (show rAlV A y = 1 by (unfold rAlV; (first | rw [if_pos (by omega)] | rw [if_neg (by omega)]); (try assumption))), if_pos rfl, (show rAl1 A y = (rHas (up A 0 0 0) (y + 2)) by (unfold rAl1; (first | rw [if_pos (by omega)] | rw [if_neg (by omega)])))]) hI X hR hf hL
        · rw [show rHasV (up A 0 0 0) (y + 2) = 0 by omega]
          refine m_if_ne (tgt := 54) hx hb dX6_alloc_35 (by decide) (by omega) (fun c35 => absurd c35 (by omega)) (fun c35 => ?_)
          refine m_aload_n hx hb hL dX6_alloc_38 rfl ?_
          refine r_call hC X hR hf (k_X6_whole hR hI hkc) VX6_127 rfl ⟨by decide, by decide⟩ ⟨by decide, by decide⟩ hL.1 rfl (Nat.le_of_ble_eq_true rfl) dX6_alloc_39 (fun μ H locs X hR hf => ?_)
          obtain ⟨hkc, hpw⟩ := whole_KK hkc
          have hI := hkc.1.1
          refine m_aload_n hx hb hL dX6_alloc_42 rfl ?_
          refine m_iload_n hx hb hL dX6_alloc_43 rfl ?_
          refine lv_iconst (v := iv 2) hx hb dX6_alloc_44 rfl ?_
          refine m_iadd hx hb dX6_alloc_45 ?_
          refine r_call hC X hR hf (k_X6_hasActive (x := (y + 2)) hR hI (by omega)) VX6_124 rfl ⟨by decide, by decide⟩ ⟨by decide, by decide⟩ hL.1 rfl (Nat.le_of_ble_eq_true rfl) dX6_alloc_46 (fun μ H locs X hR hf => ?_)
          have hact := fun q => has_act (n := (y + 2)) hkc (by omega) q
          have hq46 := rHasV_b (rWhole (rHas (up A 0 0 0) (y + 2))) (y + 2)
          have hkc := has_KK (n := (y + 2)) hkc
          have hI := hkc.1.1
          by_cases g46 : rHasV (rWhole (rHas (up A 0 0 0) (y + 2))) (y + 2) = 1
          · rw [g46]
            have hact := hact g46
            refine m_if_ne (tgt := 54) hx hb dX6_alloc_49 (by decide) (by omega) (fun c49 => ?_) (fun c49 => absurd c49 (by omega))
            exact J (rHas (rWhole (rHas (up A 0 0 0) (y + 2))) (y + 2)) H locs μ ls (by rw [← (show rAl1 A y = (rHas (rWhole (rHas (up A 0 0 0) (y + 2))) (y + 2)) by (unfold rAl1; (first | rw [if_pos (by omega)] | rw [if_neg (by omega)]))), al1_6]; exact hn512) hact.1 hact.2 (by unfold rAlloc; rw [if_pos (by omega), (show rAlV A y = 1 by (unfold rAlV; (first | rw [if_pos (by omega)] | rw [if_neg (by omega)]); (try assumption))), if_pos rfl, (show rAl1 A y = (rHas (rWhole (rHas (up A 0 0 0) (y + 2))) (y + 2)) by (unfold rAl1; (first | rw [if_pos (by omega)] | rw [if_neg (by omega)])))]) (by unfold rAllocV; rw [if_pos (by omega), (show rAlV A y = 1 by (unfold rAlV; (first | rw [if_pos (by omega)] | rw [if_neg (by omega)]); (try assumption))), if_pos rfl, (show rAl1 A y = (rHas (rWhole (rHas (up A 0 0 0) (y + 2))) (y + 2)) by (unfold rAl1; (first | rw [if_pos (by omega)] | rw [if_neg (by omega)])))]) hI X hR hf hL
          · rw [show rHasV (rWhole (rHas (up A 0 0 0) (y + 2))) (y + 2) = 0 by omega]
            refine m_if_ne (tgt := 54) hx hb dX6_alloc_49 (by decide) (by omega) (fun c49 => absurd c49 (by omega)) (fun c49 => ?_)
            refine lv_iconst (v := iv (-1)) hx hb dX6_alloc_52 rfl ?_
            exact r_iret hC X hR hf hr hlk (by unfold rAlloc; rw [if_pos (by omega), (show rAlV A y = 0 by (unfold rAlV; (first | rw [if_pos (by omega)] | rw [if_neg (by omega)]); (try omega))), if_neg (by decide), (show rAl1 A y = (rHas (rWhole (rHas (up A 0 0 0) (y + 2))) (y + 2)) by (unfold rAl1; (first | rw [if_pos (by omega)] | rw [if_neg (by omega)])))]) (by unfold rAllocV; rw [if_pos (by omega), (show rAlV A y = 0 by (unfold rAlV; (first | rw [if_pos (by omega)] | rw [if_neg (by omega)]); (try omega))), if_neg (by decide)]) dX6_alloc_53
  · rw [show rIsReg x = 0 from bZ_f g2]
    refine m_iload_n hx hb hL dX6_alloc_5 rfl ?_
    refine m_if_lt (tgt := 19) hx hb dX6_alloc_6 (by decide) (by omega) (fun c6 => ?_) (fun c6 => ?_)
    · refine lv_iconst (v := iv 0) hx hb dX6_alloc_19 rfl ?_
      refine r_call hC X hR hf (k_X6_good (x := 0) (y := 0) hR hI (by omega) (by omega)) VX6_120 rfl ⟨by decide, by decide⟩ ⟨by decide, by decide⟩ hL.1 rfl (Nat.le_of_ble_eq_true rfl) dX6_alloc_20 (fun μ H locs X hR hf => ?_)
      have hR : RR (up A 0 0 1) μ := hR
      have hI : RI (up A 0 0 1) := hI.u0 0 (v := 1) ⟨by omega, by omega⟩
      rw [show bZ (rThr 0 0 = 0) = 0 by decide]
      refine m_if_ne (tgt := 28) hx hb dX6_alloc_23 (by decide) (by omega) (fun c23 => absurd c23 (by omega)) (fun c23 => ?_)
      refine lv_iconst (v := iv 0) hx hb dX6_alloc_26 rfl ?_
      exact r_iret hC X hR hf hr hlk (by unfold rAlloc; rw [if_neg (by omega)]; (first | rw [if_pos (by omega)] | rw [if_neg (by omega)])) (by unfold rAllocV; rw [if_neg (by omega)]) dX6_alloc_27
    · refine m_iload_n hx hb hL dX6_alloc_9 rfl ?_
      refine lv_bipush (v := iv 20) hx hb dX6_alloc_10 (by decide +kernel) ?_
      refine m_icmp_gt (tgt := 19) hx hb dX6_alloc_12 (by decide) (by omega) (by omega) (fun c12 => ?_) (fun c12 => ?_)
      · refine lv_iconst (v := iv 0) hx hb dX6_alloc_19 rfl ?_
        refine r_call hC X hR hf (k_X6_good (x := 0) (y := 0) hR hI (by omega) (by omega)) VX6_120 rfl ⟨by decide, by decide⟩ ⟨by decide, by decide⟩ hL.1 rfl (Nat.le_of_ble_eq_true rfl) dX6_alloc_20 (fun μ H locs X hR hf => ?_)
        have hR : RR (up A 0 0 1) μ := hR
        have hI : RI (up A 0 0 1) := hI.u0 0 (v := 1) ⟨by omega, by omega⟩
        rw [show bZ (rThr 0 0 = 0) = 0 by decide]
        refine m_if_ne (tgt := 28) hx hb dX6_alloc_23 (by decide) (by omega) (fun c23 => absurd c23 (by omega)) (fun c23 => ?_)
        refine lv_iconst (v := iv 0) hx hb dX6_alloc_26 rfl ?_
        exact r_iret hC X hR hf hr hlk (by unfold rAlloc; rw [if_neg (by omega)]; (first | rw [if_pos (by omega)] | rw [if_neg (by omega)])) (by unfold rAllocV; rw [if_neg (by omega)]) dX6_alloc_27
      · refine lv_iconst (v := iv 1) hx hb dX6_alloc_15 rfl ?_
        refine lv_goto (tgt := 20) hx hb dX6_alloc_16 (by decide) ?_
        refine r_call hC X hR hf (k_X6_good (x := 0) (y := 1) hR hI (by omega) (by omega)) VX6_120 rfl ⟨by decide, by decide⟩ ⟨by decide, by decide⟩ hL.1 rfl (Nat.le_of_ble_eq_true rfl) dX6_alloc_20 (fun μ H locs X hR hf => ?_)
        have hR : RR (up A 0 0 1) μ := hR
        have hI : RI (up A 0 0 1) := hI.u0 0 (v := 1) ⟨by omega, by omega⟩
        rw [show bZ (rThr 0 1 = 0) = 0 by decide]
        refine m_if_ne (tgt := 28) hx hb dX6_alloc_23 (by decide) (by omega) (fun c23 => absurd c23 (by omega)) (fun c23 => ?_)
        refine lv_iconst (v := iv 0) hx hb dX6_alloc_26 rfl ?_
        exact r_iret hC X hR hf hr hlk (by unfold rAlloc; rw [if_neg (by omega)]; (first | rw [if_pos (by omega)] | rw [if_neg (by omega)])) (by unfold rAllocV; rw [if_neg (by omega)]) dX6_alloc_27

