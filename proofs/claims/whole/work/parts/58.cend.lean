/-! regions leave the set, a cycle ends (printed by wip/tools/cls4.py) -/
set_option maxHeartbeats 4000000 in
theorem k_X3_leaveSet_k {G : mG} {l : Launch} {z : Nat} {ρ : Nat → Nat} {μ : mM} {r : Nat} (h3 : sh μ r = some (.inl 3)) (hq5 : mi μ r 5 = iv 1) : MZ G l yX3_leaveSet cX3_leaveSet 2 none 0 0 z ρ [.ref (ρ r)] μ (cP none (setI μ r 2 (iv 3)) z) := by
  refine MZ.of (by decide) (by simp [Value.category]) (Nat.le_of_ble_eq_true rfl) (Nat.le_of_ble_eq_true rfl) ?_
  intro p e s m args below meth c ls H locs hC hx hb hr hlk X hL
  refine m_aload_n hx hb hL dX3_leaveSet_0 rfl ?_
  refine c_geti (x := 1) hC X FX3_44 h3 rfl hq5 dX3_leaveSet_1 ?_
  refine m_if_eq (tgt := 13) hx hb dX3_leaveSet_4 (by decide) (by omega) (fun c4 => absurd c4 (by omega)) (fun c4 => ?_)
  refine m_aload_n hx hb hL dX3_leaveSet_7 rfl ?_
  refine lv_iconst (v := iv 3) hx hb dX3_leaveSet_8 rfl ?_
  refine c_puti (x := 3) hC X FwX3_21 h3 rfl dX3_leaveSet_9 (fun H locs X => ?_)
  exact m_vret hC X hr hlk ⟨rfl, rfl, rfl⟩ dX3_leaveSet_12

set_option maxHeartbeats 4000000 in
theorem k_X3_leaveSet_e {G : mG} {l : Launch} {z : Nat} {ρ : Nat → Nat} {μ : mM} {r q : Nat} {u : Int} (h3 : sh μ r = some (.inl 3)) (hq : sh μ q = some (.inr (3, 128))) (hq5 : mi μ r 5 = iv 0) (hu : mi μ r 3 = iv u) (hr1 : mq μ r 1 = some q) (hb0 : 0 ≤ u ∧ u ≤ 128) : MZ G l yX3_leaveSet cX3_leaveSet 2 none 0 0 z ρ [.ref (ρ r)] μ (lvP r q u μ z) := by
  refine MZ.of (by decide) (by simp [Value.category]) (Nat.le_of_ble_eq_true rfl) (Nat.le_of_ble_eq_true rfl) ?_
  intro p e s m args below meth c ls H locs hC hx hb hr hlk X hL
  have nrq : r ≠ q := fun e => by rw [e, hq] at h3; cases h3
  refine m_aload_n hx hb hL dX3_leaveSet_0 rfl ?_
  refine c_geti (x := 0) hC X FX3_44 h3 rfl hq5 dX3_leaveSet_1 ?_
  refine m_if_eq (tgt := 13) hx hb dX3_leaveSet_4 (by decide) (by omega) (fun c4 => ?_) (fun c4 => absurd c4 (by omega))
  refine lv_iconst (v := iv 0) hx hb dX3_leaveSet_13 rfl ?_
  refine m_istore_n hx hb hL dX3_leaveSet_14 (Nat.le_of_ble_eq_true rfl) (fun ls hL => ?_)
  have lp : ∀ (f : Nat) (i : Int) (μ1 : mM) (H : Heap) (locs : List Loc) (ls : Array Slot), clr μ μ1 q i → 0 ≤ i ∧ i ≤ u → (f : Int) + i = 200 → mX G ρ (mA ρ μ z) s.heap μ1 z H locs → lq ls [some (.ref (ρ r)), some (.int (iv i))] → W p l e (rm 0 0 0 0) s m args below meth c H locs 0 0 (wQ G ρ μ z (lvP r q u μ z) below args s 0 0) (F0 m 15 ls []) := by
    intro f
    induction f with
    | zero =>
      intro  i μ1 H locs ls hcl h0 hf1 X hL
      omega
    | succ f ih =>
      intro  i μ1 H locs ls hcl h0 hf1 X hL
      have e3 : sh μ1 r = some (.inl 3) := by rw [hcl.1]; exact h3
      have eqs : sh μ1 q = some (.inr (3, 128)) := by rw [hcl.1]; exact hq
      have eu : mi μ1 r 3 = iv u := by rw [hcl.2.1]; exact hu
      have eq1 : mq μ1 r 1 = some q := by rw [hcl.2.2.2, if_neg (fun w => nrq w.1)]; exact hr1
      refine m_iload_n hx hb hL dX3_leaveSet_15 rfl ?_
      refine m_aload_n hx hb hL dX3_leaveSet_16 rfl ?_
      refine c_geti (x := u) hC X FX3_24 e3 rfl eu dX3_leaveSet_17 ?_
      refine m_icmp_ge (tgt := 36) hx hb dX3_leaveSet_20 (by decide) (by omega) (by omega) (fun c20 => ?_) (fun c20 => ?_)
      · refine m_aload_n hx hb hL dX3_leaveSet_36 rfl ?_
        refine lv_iconst (v := iv 0) hx hb dX3_leaveSet_37 rfl ?_
        refine c_puti (x := 0) hC X FwX3_21 e3 rfl dX3_leaveSet_38 (fun H locs X => ?_)
        refine m_aload_n hx hb hL dX3_leaveSet_41 rfl ?_
        refine lv_iconst (v := iv 0) hx hb dX3_leaveSet_42 rfl ?_
        refine c_puti (x := 0) hC X FwX3_24 e3 rfl dX3_leaveSet_43 (fun H locs X => ?_)
        exact m_vret hC X hr hlk ⟨rfl, rfl, μ1, by rw [show u = i by omega]; exact hcl, rfl⟩ dX3_leaveSet_46
      · refine m_aload_n hx hb hL dX3_leaveSet_23 rfl ?_
        refine m_getr (b := q) hC X FX3_17 e3 rfl eq1 dX3_leaveSet_24 ?_
        refine m_iload_n hx hb hL dX3_leaveSet_27 rfl ?_
        refine lv_null hx hb dX3_leaveSet_28 ?_
        refine c_aastn (x := i) hC X eqs (by omega) (by omega) (by omega) dX3_leaveSet_29 (fun H locs X => ?_)
        refine m_iincv hx hb hL dX3_leaveSet_30 rfl (fun ls hL => ?_)
        refine lv_goto (tgt := 15) hx hb dX3_leaveSet_33 (by decide) ?_
        exact ih (i + 1) _ _ _ ls (hcl.st h0.1) ⟨by omega, by omega⟩ (by omega) X hL
  exact lp 200 0 _ _ _ ls (clr.rf μ q) ⟨by omega, by omega⟩ (by omega) X hL

set_option maxHeartbeats 4000000 in
theorem k_X0_endCycle {G : mG} {l : Launch} {z : Nat} {ρ : Nat → Nat} {μ : mM} {A : rS} {P : Nat → Prop} {cy : Int} (hc : CR A P cy μ) (hV : Vd A) (hS : Sg A) (hPl : Pl A P) : MZ G l yX0_endCycle cX0_endCycle 5 none 1 21 z ρ [.ref (ρ 1)] μ (cR none (up (rEnd 20 0 A) 18 0 0) (pEn A P (A 1 0)) cy μ z) := by
  refine MZ.of (by decide) (by simp [Value.category]) (Nat.le_of_ble_eq_true rfl) (Nat.le_of_ble_eq_true rfl) ?_
  intro p e s m args below meth c ls H locs hC hx hb hr hlk X hL
  obtain ⟨h1, h2, h3, h4, h5, h6, h7, h8, hcy0, hcy1⟩ := id hc
  obtain ⟨⟨f00, f01, f02⟩, ⟨f10, f11, f12⟩, ⟨f20, f21, f22⟩, ⟨f30, f40, f50⟩, frr, foo⟩ := id h1
  obtain ⟨g1, g3, g4, g5, g6, g7⟩ := id h2
  have b1 := hV.1.b1 0
  have hRN : ((RN A : Nat) : Int) = A 1 0 := by unfold RN; omega
  refine m_aload_n hx hb hL dX0_endCycle_0 rfl ?_
  refine m_getr (b := 2) hC X FX0_14 f10 rfl f11 dX0_endCycle_1 ?_
  refine m_getr (b := 5) hC X FX0_86 f20 rfl f22 dX0_endCycle_4 ?_
  refine c_astore_nr hx hb hL dX0_endCycle_7 (Nat.le_of_ble_eq_true rfl) (fun ls hL => ?_)
  refine m_aload_n hx hb hL dX0_endCycle_8 rfl ?_
  refine c_alen hC X f50 (by decide) dX0_endCycle_9 ?_
  refine m_istore_n hx hb hL dX0_endCycle_10 (Nat.le_of_ble_eq_true rfl) (fun ls hL => ?_)
  refine lv_iconst (v := iv 0) hx hb dX0_endCycle_11 rfl ?_
  refine m_istore_n hx hb hL dX0_endCycle_12 (Nat.le_of_ble_eq_true rfl) (fun ls hL => ?_)
  have lp : ∀ (f : Nat) (i : Int) (μ1 : mM) (H : Heap) (locs : List Loc) (ls : Array Slot), CR (cEn A i) (pEn A P i) cy μ1 → 0 ≤ i ∧ i ≤ A 1 0 → (f : Int) + i = 20 → cfr μ μ1 → mX G ρ (mA ρ μ z) s.heap μ1 z H locs → lq ls [some (.ref (ρ 1)), some (.ref (ρ 5)), some (.int (iv ((RN A : Nat) : Int))), some (.int (iv i)), none] → W p l e (rm 1 21 0 0) s m args below meth c H locs 0 0 (wQ G ρ μ z (cR none (up (rEnd 20 0 A) 18 0 0) (pEn A P (A 1 0)) cy μ z) below args s 0 0) (F0 m 13 ls []) := by
    intro f
    induction f with
    | zero =>
      intro  i μ1 H locs ls hc h0 hf1 hfr X hL
      omega
    | succ f ih =>
      intro  i μ1 H locs ls hc h0 hf1 hfr X hL
      obtain ⟨h1, h2, h3, h4, h5, h6, h7, h8, hcy0, hcy1⟩ := id hc
      obtain ⟨⟨f00, f01, f02⟩, ⟨f10, f11, f12⟩, ⟨f20, f21, f22⟩, ⟨f30, f40, f50⟩, frr, foo⟩ := id h1
      obtain ⟨g1, g3, g4, g5, g6, g7⟩ := id h2
      have hei : ((i.toNat : Nat) : Int) = i := by omega
      have f50 : sh μ1 5 = some (.inr (4, RN A)) := f50
      refine m_iload_n hx hb hL dX0_endCycle_13 rfl ?_
      refine m_iload_n hx hb hL dX0_endCycle_14 rfl ?_
      refine m_icmp_ge (tgt := 43) hx hb dX0_endCycle_15 (by decide) (by omega) (by omega) (fun c15 => ?_) (fun c15 => ?_)
      · refine m_aload_n hx hb hL dX0_endCycle_43 rfl ?_
        refine m_getr (b := 2) hC X FX0_14 f10 rfl f11 dX0_endCycle_44 ?_
        have ei : i = A 1 0 := by omega
        subst ei
        by_cases ht : rWith (cEn A (A 1 0)) 2 = -1
        · refine c_callV hC X (k_X2_closeTarget_n f20 (by rw [h4.2, ht]; rfl)) VX0_150 f20 rfl ⟨by decide, by decide⟩ ⟨by decide, by decide⟩ hL.1 rfl (Nat.le_of_ble_eq_true rfl) dX0_endCycle_47 (fun v47 μ47 z47 H locs hp X => ?_)
          obtain ⟨rfl, hm_, hz_⟩ := hp
          have hm_ := hm_.symm
          have hz_ := hz_.symm
          subst hm_
          subst hz_
          refine m_aload_n hx hb hL dX0_endCycle_50 rfl ?_
          refine lv_iconst (v := iv 0) hx hb dX0_endCycle_51 rfl ?_
          refine c_puti (x := 0) hC X FwX0_31 f10 rfl dX0_endCycle_52 (fun H locs X => ?_)
          exact m_vret hC X hr hlk ⟨rfl, rfl, by rw [cEn_end hV.1 hS, if_pos ht]; exact ph_CR hc, hfr.I (cad_f (by decide)) 3 _⟩ dX0_endCycle_55
        · have hw := rWith_some ht
          have hw1 : rWith (cEn A (A 1 0)) 2 < A 1 0 := hw.2.1
          refine c_callV hC X (k_X2_closeTarget_s (t := aRg (rWith (cEn A (A 1 0)) 2).toNat) f20 (frr _ (by show _ < RN A; omega)).2.1 (by rw [h4.2, rref_s ht])) VX0_150 f20 rfl ⟨by decide, by decide⟩ ⟨by decide, by decide⟩ hL.1 rfl (Nat.le_of_ble_eq_true rfl) dX0_endCycle_47 (fun v47 μ47 z47 H locs hp X => ?_)
          obtain ⟨rfl, hm_, hz_⟩ := hp
          have hm_ := hm_.symm
          have hz_ := hz_.symm
          subst hm_
          subst hz_
          refine m_aload_n hx hb hL dX0_endCycle_50 rfl ?_
          refine lv_iconst (v := iv 0) hx hb dX0_endCycle_51 rfl ?_
          refine c_puti (x := 0) hC X FwX0_31 f10 rfl dX0_endCycle_52 (fun H locs X => ?_)
          have hu2 : ∀ r : Nat, cEn A (A 1 0) 3 r = 2 → A 3 r = 2 := fun r h => by
            rw [cEn_3] at h
            split at h
            · split at h <;> omega
            · exact h
          exact m_vret hC X hr hlk ⟨rfl, rfl, by rw [cEn_end hV.1 hS, if_neg ht]; exact ph_CR (ct_CR (fun r q a b c d => hS.2.2 r q a b (hu2 r c) (hu2 q d)) hc ht), ((hfr.I (cad_r _) 2 _).Q (cad_f (by decide)) 3 _).I (cad_f (by decide)) 3 _⟩ dX0_endCycle_55
      · refine m_aload_n hx hb hL dX0_endCycle_18 rfl ?_
        refine m_iload_n hx hb hL dX0_endCycle_19 rfl ?_
        have hrn : i.toNat < RN (cEn A i) := by show i.toNat < RN A; omega
        obtain ⟨r1, r2, r3, r4, r5⟩ := frr i.toNat hrn
        obtain ⟨rk, ru, ⟨rq, re, rea, reb⟩, rp, rd, rda, rdb, rdc⟩ := h6 i.toNat hrn
        have e3x : cEn A i 3 i.toNat = A 3 i.toNat := by rw [cEn_3, if_neg (by omega)]
        have e4x : cEn A i 4 i.toNat = A 4 i.toNat := by rw [cEn_4, if_neg (by omega)]
        rw [e3x] at rk reb
        rw [e4x] at ru
        have reb : A 3 i.toNat = 4 → rq = A 5 i.toNat := reb
        have rkb := hV.1.b3 i.toNat
        have rub := hV.1.b4 i.toNat
        have r5b := hV.1.b5 i.toNat
        refine c_aaldr (x := i) hC X f50 (Or.inr rfl) (by omega) (by omega) (by omega) r1 dX0_endCycle_20 ?_
        refine c_astorer hx hb hL dX0_endCycle_21 (Nat.le_of_ble_eq_true rfl) (fun ls hL => ?_)
        refine m_aload hx hb hL dX0_endCycle_23 rfl ?_
        refine c_geti (x := (A 3 i.toNat)) hC X FX0_90 r2 rfl rk dX0_endCycle_25 ?_
        refine lv_iconst (v := iv 4) hx hb dX0_endCycle_28 rfl ?_
        refine m_icmp_ne (tgt := 37) hx hb dX0_endCycle_29 (by decide) (by omega) (by omega) (fun c29 => ?_) (fun c29 => ?_)
        · refine m_iincv hx hb hL dX0_endCycle_37 rfl (fun ls hL => ?_)
          refine lv_goto (tgt := 13) hx hb dX0_endCycle_40 (by decide) ?_
          exact ih (i + 1) _ _ _ ls (by have hE := cEn_n (A := A) (x := i.toNat) (by omega); have hP := pEn_n hV.1 (P := P) (x := i.toNat) (fun w => by omega); rw [hei] at hE hP; rw [hE, hP]; exact hc) ⟨by omega, by omega⟩ (by omega) hfr X (lq_none 4 hL)
        · refine m_aload hx hb hL dX0_endCycle_32 rfl ?_
          have hrq := reb (by omega)
          by_cases h5x : A 5 i.toNat = 0
          · refine c_callV hC X (k_X3_leaveSet_e (q := aSt i.toNat) r2 r4 (by rw [re, show rq = 0 by omega]) ru r3 rub) VX0_147 r2 rfl ⟨by decide, by decide⟩ ⟨by decide, by decide⟩ hL.1 rfl (Nat.le_of_ble_eq_true rfl) dX0_endCycle_34 (fun v34 μ34 z34 H locs hp X => ?_)
            obtain ⟨rfl, hz_, μc, hcl, hm_⟩ := hp
            have hz_ := hz_.symm
            have hm_ := hm_.symm
            subst hz_
            subst hm_
            have hc2 := clr_CR (x := i.toNat) (cEn_I hV.1 i) hc (by rw [e3x]; omega) (by rw [e4x]; exact hcl) (fun o ho h7 => by have p := (hPl.1 o ho.1).2.2; have q := (hV.2.1 o (hPl.1 o ho.1).1).1; have h7 : A 7 o = ((i.toNat : Nat) : Int) := h7; rw [h7] at p; simp only [Int.toNat_natCast] at p; rw [e4x]; show A 8 o < A 4 i.toNat; omega)
            have hE := cEn_e (A := A) (x := i.toNat) (by omega) h5x
            have hP := pEn_e hV.1 (P := P) (x := i.toNat) (by omega) h5x
            rw [hei] at hE hP hc2
            rw [← hE, ← hP] at hc2
            have hfr2 := ((hcl.fr hfr).I (cad_r i.toNat) 2 (iv 0)).I (cad_r i.toNat) 3 (iv 0)
            refine m_iincv hx hb hL dX0_endCycle_37 rfl (fun ls hL => ?_)
            refine lv_goto (tgt := 13) hx hb dX0_endCycle_40 (by decide) ?_
            exact ih (i + 1) _ _ _ ls hc2 ⟨by omega, by omega⟩ (by omega) hfr2 X (lq_none 4 hL)
          · refine c_callV hC X (k_X3_leaveSet_k r2 (by rw [re, show rq = 1 by omega])) VX0_147 r2 rfl ⟨by decide, by decide⟩ ⟨by decide, by decide⟩ hL.1 rfl (Nat.le_of_ble_eq_true rfl) dX0_endCycle_34 (fun v34 μ34 z34 H locs hp X => ?_)
            obtain ⟨rfl, hm_, hz_⟩ := hp
            have hm_ := hm_.symm
            have hz_ := hz_.symm
            subst hm_
            subst hz_
            have hE := cEn_f (A := A) (x := i.toNat) (by omega) h5x
            have hP := pEn_n hV.1 (P := P) (x := i.toNat) (fun w => h5x w.2)
            rw [hei] at hE hP
            have hc2 := cl3_CR (x := i.toNat) hc (by rw [e3x]; omega)
            rw [← hE, ← hP] at hc2
            have hfr2 := hfr.I (cad_r i.toNat) 2 (iv 3)
            refine m_iincv hx hb hL dX0_endCycle_37 rfl (fun ls hL => ?_)
            refine lv_goto (tgt := 13) hx hb dX0_endCycle_40 (by decide) ?_
            exact ih (i + 1) _ _ _ ls hc2 ⟨by omega, by omega⟩ (by omega) hfr2 X (lq_none 4 hL)
  exact lp 20 0 _ _ _ ls (by rw [cEn_0, pEn_0 hV.1]; exact hc) ⟨by omega, by omega⟩ (by omega) (cfr.rf μ) X hL

set_option maxHeartbeats 4000000 in
theorem k_X0_updateNext {G : mG} {l : Launch} {z : Nat} {ρ : Nat → Nat} {μ : mM} {A : rS} {P Gs : Nat → Prop} {cy : Int} (hc : CR A P cy μ) (hK : KK A P Gs) (h18 : A 18 0 = 3) : MZ G l yX0_updateNext cX0_updateNext 1 none 2 45 z ρ [.ref (ρ 1)] μ (cR none (rUpdate A) (pUnit A P) cy μ z) := by
  refine MZ.of (by decide) (by simp [Value.category]) (Nat.le_of_ble_eq_true rfl) (Nat.le_of_ble_eq_true rfl) ?_
  intro p e s m args below meth c ls H locs hC hx hb hr hlk X hL
  obtain ⟨h1, h2, h3, h4, h5, h6, h7, h8, hcy0, hcy1⟩ := id hc
  obtain ⟨⟨f00, f01, f02⟩, ⟨f10, f11, f12⟩, ⟨f20, f21, f22⟩, ⟨f30, f40, f50⟩, frr, foo⟩ := id h1
  obtain ⟨g1, g3, g4, g5, g6, g7⟩ := id h2
  have b1 := hK.1.1.b1 0
  have b19 := hK.1.1.b19 0
  have h19 := hK.2.2.2.1.2.1 h18
  have hRN : ((RN A : Nat) : Int) = A 1 0 := by unfold RN; omega
  refine m_aload_n hx hb hL dX0_updateNext_0 rfl ?_
  refine lv_dup hx hb dX0_updateNext_1 rfl ?_
  refine c_geti (x := (A 19 0)) hC X FX0_109 f10 rfl g5 dX0_updateNext_2 ?_
  refine lv_iconst (v := iv 1) hx hb dX0_updateNext_5 rfl ?_
  refine m_iadd hx hb dX0_updateNext_6 ?_
  refine c_puti (x := ((A 19 0) + 1)) hC X FwX0_109 f10 rfl dX0_updateNext_7 (fun H locs X => ?_)
  refine m_aload_n hx hb hL dX0_updateNext_10 rfl ?_
  refine c_geti (x := ((A 19 0) + 1)) hC X FX0_109 f10 rfl (by simp [mi_I, mi_Q, mq_I, mq_Q]) dX0_updateNext_11 ?_
  refine m_aload_n hx hb hL dX0_updateNext_14 rfl ?_
  refine m_getr (b := 2) hC X FX0_14 f10 rfl (by rw [mq_I]; exact f11) dX0_updateNext_15 ?_
  refine m_getr (b := 5) hC X FX0_86 f20 rfl (by rw [mq_I]; exact f22) dX0_updateNext_18 ?_
  refine c_alen hC X f50 (by decide) dX0_updateNext_21 ?_
  refine m_icmp_lt (tgt := 29) hx hb dX0_updateNext_22 (by decide) (by omega) (by omega) (fun c22 => ?_) (fun c22 => ?_)
  · exact m_vret hC X hr hlk ⟨rfl, rfl, by unfold rUpdate; rw [if_pos (by omega), pUnit_n (by omega)]; exact nu_CR hc, (cfr.rf μ).I (cad_f (by decide)) 5 _⟩ dX0_updateNext_29
  · refine m_aload_n hx hb hL dX0_updateNext_25 rfl ?_
    refine c_callV hC X (k_X0_endCycle (A := up A 19 0 (A 19 0 + 1)) (P := P) (nu_CR hc) ⟨hK.1.1.u19 0 (by omega), hK.1.2⟩ hK.2.2.1 hK.2.2.2.2.1) VX0_144 f10 rfl ⟨by decide, by decide⟩ ⟨by decide, by decide⟩ hL.1 rfl (Nat.le_of_ble_eq_true rfl) dX0_updateNext_26 (fun v26 μ26 z26 H locs hp X => ?_)
    obtain ⟨rfl, hz_, hc2, hf2⟩ := hp
    have hz_ := hz_.symm
    subst hz_
    exact m_vret hC X hr hlk ⟨rfl, rfl, by unfold rUpdate; rw [if_neg (by omega), ← pEn_p hK h18 (by omega) (v := A 19 0 + 1)]; exact hc2, ((cfr.rf μ).I (cad_f (by decide)) 5 _).tr hf2⟩ dX0_updateNext_29

