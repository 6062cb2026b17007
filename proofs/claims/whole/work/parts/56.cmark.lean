/-! the collector marks (printed by wip/tools/cls3.py) -/
set_option maxHeartbeats 4000000 in
theorem k_X0_see_n {G : mG} {l : Launch} {z : Nat} {ρ : Nat → Nat} {μ : mM} : MZ G l yX0_see cX0_see 2 none 0 0 z ρ [.ref (ρ 1), .null] μ (cP none μ z) := by
  refine MZ.of (by decide) (by simp [Value.category]) (Nat.le_of_ble_eq_true rfl) (Nat.le_of_ble_eq_true rfl) ?_
  intro p e s m args below meth c ls H locs hC hx hb hr hlk X hL
  refine m_aload_nq (x := none) hx hb hL dX0_see_0 rfl ?_
  refine lv_ifnullN (tgt := 31) hx hb dX0_see_1 (by decide) ?_
  exact m_vret hC X hr hlk ⟨rfl, rfl, rfl⟩ dX0_see_31

set_option maxHeartbeats 4000000 in
theorem k_X0_see_s {G : mG} {l : Launch} {z : Nat} {ρ : Nat → Nat} {μ : mM} {A : rS} {P : Nat → Prop} {cy : Int} {o : Nat} (hc : CR A P cy μ) (hI : RI A) (hR : Rw A) (ho : o < nn A) (h34 : ∀ r : Nat, r < RN A → A 3 r ≠ 4) : MZ G l yX0_see cX0_see 2 none 1 21 z ρ [.ref (ρ 1), .ref (ρ (aOb o))] μ (cR none (rSee A (o : Int)) P cy μ z) := by
  refine MZ.of (by decide) (by simp [Value.category]) (Nat.le_of_ble_eq_true rfl) (Nat.le_of_ble_eq_true rfl) ?_
  intro p e s m args below meth c ls H locs hC hx hb hr hlk X hL
  obtain ⟨h1, h2, h3, h4, h5, h6, h7, h8, hcy0, hcy1⟩ := id hc
  obtain ⟨⟨f00, f01, f02⟩, ⟨f10, f11, f12⟩, ⟨f20, f21, f22⟩, ⟨f30, f40, f50⟩, frr, foo⟩ := id h1
  obtain ⟨g1, g3, g4, g5, g6, g7⟩ := id h2
  obtain ⟨o1, o2, o3, o4⟩ := foo o ho
  obtain ⟨oh, oo, ⟨ov, os, osa, osb, osc⟩, ⟨ow, of, ofa, ofb, ofc⟩, oz⟩ := h8 o ho
  refine m_aload_n hx hb hL dX0_see_0 rfl ?_
  refine lv_ifnull hx hb dX0_see_1 ?_
  refine m_aload_n hx hb hL dX0_see_4 rfl ?_
  refine c_geti (x := ov) hC X FX0_61 o1 rfl os dX0_see_5 ?_
  refine m_aload_n hx hb hL dX0_see_8 rfl ?_
  refine c_geti (x := cy) hC X FX0_34 f10 rfl g4 dX0_see_9 ?_
  refine m_icmp_eq (tgt := 31) hx hb dX0_see_12 (by decide) (by omega) (by omega) (fun c12 => ?_) (fun c12 => ?_)
  · exact m_vret hC X hr hlk ⟨rfl, rfl, by rw [rSee_n (Or.inr (by have := osc.mp c12; simp only [Int.toNat_natCast]; omega))]; exact hc, cfr.rf μ⟩ dX0_see_31
  · refine m_aload_n hx hb hL dX0_see_15 rfl ?_
    refine m_aload_n hx hb hL dX0_see_16 rfl ?_
    refine c_geti (x := cy) hC X FX0_34 f10 rfl g4 dX0_see_17 ?_
    refine c_puti (x := cy) hC X FwX0_61 o1 rfl dX0_see_20 (fun H locs X => ?_)
    refine m_aload_n hx hb hL dX0_see_23 rfl ?_
    refine m_getr (b := 3) hC X FX0_27 f10 rfl (by rw [mq_I]; exact f12) dX0_see_24 ?_
    refine m_aload_n hx hb hL dX0_see_27 rfl ?_
    have hb12 := hI.b12 o
    have h12 : A 12 o = 0 := by have := fun q => c12 (osc.mpr q); omega
    have hb17 := hI.b17 0
    have hb16 := hI.b16 0
    by_cases he : A 16 0 < A 17 0
    · have hrow := (hR.2.1 (A 17 0 - 1).toNat (by omega)).1
      have hb15 := hI.b15 (A 17 0 - 1).toNat
      have hob := (foo (A 15 (A 17 0 - 1).toNat).toNat (by unfold nn; omega)).1
      refine c_callV hC X (k_X4_append_s (q := aOb (A 15 (A 17 0 - 1).toNat).toNat) (n := A 17 0 - A 16 0) f30 o1 hob (by rw [mq_I, h5.2.1, if_pos he]) (by rw [mi_ne (fun w => aOb_f (by decide) w.1.symm)]; exact h5.2.2.1)) VX0_73 f30 rfl ⟨by decide, by decide⟩ ⟨by decide, by decide⟩ hL.1 rfl (Nat.le_of_ble_eq_true rfl) dX0_see_28 (fun v28 μ28 z28 H locs hp X => ?_)
      obtain ⟨rfl, hm_, hz_⟩ := hp
      have hm_ := hm_.symm
      have hz_ := hz_.symm
      subst hm_
      subst hz_
      exact m_vret hC X hr hlk ⟨rfl, rfl, see_CRs hI hR hc ho h12 h34 he, ((((cfr.rf μ).I (cad_o o) 4 _).Q (cad_o _) 6 _).Q (cad_f (by decide)) 1 _).I (cad_f (by decide)) 2 _⟩ dX0_see_31
    · refine c_callV hC X (k_X4_append_n (n := A 17 0 - A 16 0) f30 o1 (by rw [mq_I, h5.2.1, if_neg he]) (by rw [mi_ne (fun w => aOb_f (by decide) w.1.symm)]; exact h5.2.2.1)) VX0_73 f30 rfl ⟨by decide, by decide⟩ ⟨by decide, by decide⟩ hL.1 rfl (Nat.le_of_ble_eq_true rfl) dX0_see_28 (fun v28 μ28 z28 H locs hp X => ?_)
      obtain ⟨rfl, hm_, hz_⟩ := hp
      have hm_ := hm_.symm
      have hz_ := hz_.symm
      subst hm_
      subst hz_
      exact m_vret hC X hr hlk ⟨rfl, rfl, see_CRn hI hR hc ho h12 h34 he, ((((cfr.rf μ).I (cad_o o) 4 _).Q (cad_f (by decide)) 0 _).Q (cad_f (by decide)) 1 _).I (cad_f (by decide)) 2 _⟩ dX0_see_31

set_option maxHeartbeats 4000000 in
theorem k_X0_startCycle {G : mG} {l : Launch} {z : Nat} {ρ : Nat → Nat} {μ : mM} {A : rS} {P Gs : Nat → Prop} {cy : Int} (hc : CR A P cy μ) (hK : KK A P Gs) (h18 : A 18 0 = 0) (hcy : cy < 2000) : MZ G l yX0_startCycle cX0_startCycle 5 none 2 42 z ρ [.ref (ρ 1)] μ (cR none (rStart A) P (cy + 1) μ z) := by
  refine MZ.of (by decide) (by simp [Value.category]) (Nat.le_of_ble_eq_true rfl) (Nat.le_of_ble_eq_true rfl) ?_
  intro p e s m args below meth c ls H locs hC hx hb hr hlk X hL
  obtain ⟨h1, h2, h3, h4, h5, h6, h7, h8, hcy0, hcy1⟩ := id hc
  obtain ⟨⟨f00, f01, f02⟩, ⟨f10, f11, f12⟩, ⟨f20, f21, f22⟩, ⟨f30, f40, f50⟩, frr, foo⟩ := id h1
  obtain ⟨g1, g3, g4, g5, g6, g7⟩ := id h2
  refine m_aload_n hx hb hL dX0_startCycle_0 rfl ?_
  refine lv_iconst (v := iv 1) hx hb dX0_startCycle_1 rfl ?_
  refine c_puti (x := 1) hC X FwX0_31 f10 rfl dX0_startCycle_2 (fun H locs X => ?_)
  refine m_aload_n hx hb hL dX0_startCycle_5 rfl ?_
  refine lv_dup hx hb dX0_startCycle_6 rfl ?_
  refine c_geti (x := cy) hC X FX0_34 f10 rfl (by rw [mi_I, if_neg (fun q => absurd q.2 (by decide))]; exact g4) dX0_startCycle_7 ?_
  refine lv_iconst (v := iv 1) hx hb dX0_startCycle_10 rfl ?_
  refine m_iadd hx hb dX0_startCycle_11 ?_
  refine c_puti (x := (cy + 1)) hC X FwX0_34 f10 rfl dX0_startCycle_12 (fun H locs X => ?_)
  refine m_aload_n hx hb hL dX0_startCycle_15 rfl ?_
  refine m_getr (b := 2) hC X FX0_14 f10 rfl (by rw [mq_I, mq_I]; exact f11) dX0_startCycle_16 ?_
  refine m_getr (b := 4) hC X FX0_37 f20 rfl (by rw [mq_I, mq_I]; exact f21) dX0_startCycle_19 ?_
  refine c_astore_nr hx hb hL dX0_startCycle_22 (Nat.le_of_ble_eq_true rfl) (fun ls hL => ?_)
  refine m_aload_n hx hb hL dX0_startCycle_23 rfl ?_
  refine c_alen hC X f40 (by decide) dX0_startCycle_24 ?_
  refine m_istore_n hx hb hL dX0_startCycle_25 (Nat.le_of_ble_eq_true rfl) (fun ls hL => ?_)
  refine lv_iconst (v := iv 0) hx hb dX0_startCycle_26 rfl ?_
  refine m_istore_n hx hb hL dX0_startCycle_27 (Nat.le_of_ble_eq_true rfl) (fun ls hL => ?_)
  have lp : ∀ (f : Nat) (B : rS) (i : Int) (μ1 : mM) (H : Heap) (locs : List Loc) (ls : Array Slot), CR B P (cy + 1) μ1 → KM B P (rch A) (GE B i) → (∀ r : Nat, r < RN B → B 3 r ≠ 4) → 0 ≤ i ∧ i ≤ 10 → (f : Int) + i = 20 → rStart A = rSeeR f i B → cfr μ μ1 → mX G ρ (mA ρ μ z) s.heap μ1 z H locs → lq ls [some (.ref (ρ 1)), some (.ref (ρ 4)), some (.int (iv ((10 : Nat) : Int))), some (.int (iv i)), none] → W p l e (rm 2 42 0 0) s m args below meth c H locs 0 0 (wQ G ρ μ z (cR none (rStart A) P (cy + 1) μ z) below args s 0 0) (F0 m 28 ls []) := by
    intro f
    induction f with
    | zero =>
      intro B i μ1 H locs ls hc hM h34 h0 hf1 hv hfr X hL
      omega
    | succ f ih =>
      intro B i μ1 H locs ls hc hM h34 h0 hf1 hv hfr X hL
      obtain ⟨h1, h2, h3, h4, h5, h6, h7, h8, hcy0, hcy1⟩ := id hc
      obtain ⟨⟨f00, f01, f02⟩, ⟨f10, f11, f12⟩, ⟨f20, f21, f22⟩, ⟨f30, f40, f50⟩, frr, foo⟩ := id h1
      obtain ⟨g1, g3, g4, g5, g6, g7⟩ := id h2
      refine m_iload_n hx hb hL dX0_startCycle_28 rfl ?_
      refine m_iload_n hx hb hL dX0_startCycle_29 rfl ?_
      refine m_icmp_ge (tgt := 50) hx hb dX0_startCycle_30 (by decide) (by omega) (by omega) (fun c30 => ?_) (fun c30 => ?_)
      · exact m_vret hC X hr hlk ⟨rfl, rfl, by rw [hv, rSeeR, if_pos (by omega)]; exact hc, hfr⟩ dX0_startCycle_50
      · refine m_aload_n hx hb hL dX0_startCycle_33 rfl ?_
        refine m_iload_n hx hb hL dX0_startCycle_34 rfl ?_
        have hop := h3 (i : Int).toNat (by omega)
        by_cases hreg : B 14 (i : Int).toNat = -1
        · rw [hreg, oref_n] at hop
          refine c_aaldn (x := i) hC X f40 (Or.inl rfl) (by omega) (by omega) (by omega) hop dX0_startCycle_35 ?_
          refine c_astoren hx hb hL dX0_startCycle_36 (Nat.le_of_ble_eq_true rfl) (fun ls hL => ?_)
          refine m_aload_n hx hb hL dX0_startCycle_38 rfl ?_
          refine m_aloadq (x := none) hx hb hL dX0_startCycle_39 rfl ?_
          refine c_callV hC X (k_X0_see_n) VX0_41 f10 rfl ⟨by decide, by decide⟩ ⟨by decide, by decide⟩ hL.1 rfl (Nat.le_of_ble_eq_true rfl) dX0_startCycle_41 (fun v41 μ41 z41 H locs hp X => ?_)
          obtain ⟨rfl, hm_, hz_⟩ := hp
          have hm_ := hm_.symm
          have hz_ := hz_.symm
          subst hm_
          subst hz_
          refine m_iincv hx hb hL dX0_startCycle_44 rfl (fun ls hL => ?_)
          refine lv_goto (tgt := 28) hx hb dX0_startCycle_47 (by decide) ?_
          exact ih _ (i + 1) _ _ _ ls hc (by have q := seeR_step (x := i) ⟨by omega, by omega⟩ hM; rw [rSee_n (Or.inl hreg)] at q; exact q) h34 ⟨by omega, by omega⟩ (by omega) (by rw [hv, rSeeR, if_neg (by omega), rSee_n (Or.inl hreg)]) hfr X (lq_none 4 hL)
        · rw [oref_s hreg] at hop
          refine c_aaldr (x := i) hC X f40 (Or.inl rfl) (by omega) (by omega) (by omega) hop dX0_startCycle_35 ?_
          refine c_astorer hx hb hL dX0_startCycle_36 (Nat.le_of_ble_eq_true rfl) (fun ls hL => ?_)
          refine m_aload_n hx hb hL dX0_startCycle_38 rfl ?_
          refine m_aload hx hb hL dX0_startCycle_39 rfl ?_
          have hvb := And.intro (hM.1.1.b14 (i : Int).toNat) (hM.1.2.2.2.1 (i : Int).toNat (by omega))
          refine c_callV hC X (k_X0_see_s (o := (B 14 (i : Int).toNat).toNat) hc hM.1.1 hM.2.1 (by unfold nn; omega) h34) VX0_41 f10 rfl ⟨by decide, by decide⟩ ⟨by decide, by decide⟩ hL.1 rfl (Nat.le_of_ble_eq_true rfl) dX0_startCycle_41 (fun v41 μ41 z41 H locs hp X => ?_)
          obtain ⟨rfl, hz_, hc2, hf2⟩ := hp
          have hz_ := hz_.symm
          subst hz_
          rw [show (((B 14 (i : Int).toNat).toNat : Nat) : Int) = B 14 (i : Int).toNat by omega] at hc2
          refine m_iincv hx hb hL dX0_startCycle_44 rfl (fun ls hL => ?_)
          refine lv_goto (tgt := 28) hx hb dX0_startCycle_47 (by decide) ?_
          exact ih _ (i + 1) _ _ _ ls hc2 (seeR_step (x := i) ⟨by omega, by omega⟩ hM) (fun r hr => by rw [see_k 3 r (by decide) (by decide) (by decide)]; exact h34 r (by unfold RN at hr ⊢; rw [see_k 1 0 (by decide) (by decide) (by decide)] at hr; exact hr)) ⟨by omega, by omega⟩ (by omega) (by rw [hv, rSeeR, if_neg (by omega)]) (hfr.tr hf2) X (lq_none 4 hL)
  exact lp 20 (rSt0 A) 0 _ _ _ ls (start_CR hc hK h18 hcy) (st0_KM hK) (st0_34 hK h18) ⟨by omega, by omega⟩ (by omega) (start_eq A) (((cfr.rf μ).I (cad_f (by decide)) 3 _).I (cad_f (by decide)) 4 _) X hL

set_option maxHeartbeats 4000000 in
theorem k_X0_chooseSet {G : mG} {l : Launch} {z : Nat} {ρ : Nat → Nat} {μ : mM} {A : rS} {P Gs : Nat → Prop} {cy : Int} (hc : CR A P cy μ) (hK : KK A P Gs) (h34 : ∀ r : Nat, r < RN A → A 3 r ≠ 4) : MZ G l yX0_chooseSet cX0_chooseSet 5 none 2 44 z ρ [.ref (ρ 1)] μ (cR none (rChoose 20 0 A) P cy μ z) := by
  refine MZ.of (by decide) (by simp [Value.category]) (Nat.le_of_ble_eq_true rfl) (Nat.le_of_ble_eq_true rfl) ?_
  intro p e s m args below meth c ls H locs hC hx hb hr hlk X hL
  obtain ⟨h1, h2, h3, h4, h5, h6, h7, h8, hcy0, hcy1⟩ := id hc
  obtain ⟨⟨f00, f01, f02⟩, ⟨f10, f11, f12⟩, ⟨f20, f21, f22⟩, ⟨f30, f40, f50⟩, frr, foo⟩ := id h1
  obtain ⟨g1, g3, g4, g5, g6, g7⟩ := id h2
  have b1A := hK.1.1.b1 0
  have hRN : ((RN A : Nat) : Int) = A 1 0 := by unfold RN; omega
  refine m_aload_n hx hb hL dX0_chooseSet_0 rfl ?_
  refine m_getr (b := 2) hC X FX0_14 f10 rfl f11 dX0_chooseSet_1 ?_
  refine m_getr (b := 5) hC X FX0_86 f20 rfl f22 dX0_chooseSet_4 ?_
  refine c_astore_nr hx hb hL dX0_chooseSet_7 (Nat.le_of_ble_eq_true rfl) (fun ls hL => ?_)
  refine m_aload_n hx hb hL dX0_chooseSet_8 rfl ?_
  refine c_alen hC X f50 (by decide) dX0_chooseSet_9 ?_
  refine m_istore_n hx hb hL dX0_chooseSet_10 (Nat.le_of_ble_eq_true rfl) (fun ls hL => ?_)
  refine lv_iconst (v := iv 0) hx hb dX0_chooseSet_11 rfl ?_
  refine m_istore_n hx hb hL dX0_chooseSet_12 (Nat.le_of_ble_eq_true rfl) (fun ls hL => ?_)
  have lp : ∀ (f : Nat) (B : rS) (i : Int) (μ1 : mM) (H : Heap) (locs : List Loc) (ls : Array Slot), CR B P cy μ1 → (Vd B ∧ Sg B ∧ Pl B P) → (∀ r : Nat, i ≤ (r : Int) → (r : Int) < A 1 0 → B 3 r ≠ 4) → 0 ≤ i ∧ i ≤ A 1 0 → (f : Int) + i = 20 → rChoose 20 0 A = rChoose f i B → cfr μ μ1 → B 1 0 = A 1 0 → mX G ρ (mA ρ μ z) s.heap μ1 z H locs → lq ls [some (.ref (ρ 1)), some (.ref (ρ 5)), some (.int (iv ((RN A : Nat) : Int))), some (.int (iv i)), none] → W p l e (rm 2 44 0 0) s m args below meth c H locs 0 0 (wQ G ρ μ z (cR none (rChoose 20 0 A) P cy μ z) below args s 0 0) (F0 m 13 ls []) := by
    intro f
    induction f with
    | zero =>
      intro B i μ1 H locs ls hc hS h34 h0 hf1 hv hfr h1A X hL
      omega
    | succ f ih =>
      intro B i μ1 H locs ls hc hS h34 h0 hf1 hv hfr h1A X hL
      obtain ⟨h1, h2, h3, h4, h5, h6, h7, h8, hcy0, hcy1⟩ := id hc
      obtain ⟨⟨f00, f01, f02⟩, ⟨f10, f11, f12⟩, ⟨f20, f21, f22⟩, ⟨f30, f40, f50⟩, frr, foo⟩ := id h1
      obtain ⟨g1, g3, g4, g5, g6, g7⟩ := id h2
      have hei : ((i.toNat : Nat) : Int) = i := by omega
      refine m_iload_n hx hb hL dX0_chooseSet_13 rfl ?_
      refine m_iload_n hx hb hL dX0_chooseSet_14 rfl ?_
      refine m_icmp_ge (tgt := 65) hx hb dX0_chooseSet_15 (by decide) (by omega) (by omega) (fun c15 => ?_) (fun c15 => ?_)
      · exact m_vret hC X hr hlk ⟨rfl, rfl, by rw [hv, rChoose, if_pos (by omega)]; exact hc, hfr⟩ dX0_chooseSet_65
      · refine m_aload_n hx hb hL dX0_chooseSet_18 rfl ?_
        refine m_iload_n hx hb hL dX0_chooseSet_19 rfl ?_
        have b1 := hS.1.1.b1 0
        have hRB : ((RN B : Nat) : Int) = B 1 0 := by unfold RN; omega
        have hrn : i.toNat < RN B := by omega
        obtain ⟨r1, r2, r3, r4, r5⟩ := frr i.toNat hrn
        obtain ⟨rk, ru, ⟨rq, re, rea, reb⟩, rp, rd, rda, rdb, rdc⟩ := h6 i.toNat hrn
        have rkb := hS.1.1.b3 i.toNat
        have rub := hS.1.1.b4 i.toNat
        have rsb := rSeenIn_b hS.1.1 ((i.toNat : Nat) : Int)
        have rtb := hS.1.1.b2 0
        have hn4 := h34 i.toNat (by omega) (by omega)
        refine c_aaldr (x := i) hC X f50 (Or.inr rfl) (by omega) (by omega) (by omega) r1 dX0_chooseSet_20 ?_
        refine c_astorer hx hb hL dX0_chooseSet_21 (Nat.le_of_ble_eq_true rfl) (fun ls hL => ?_)
        refine m_aload hx hb hL dX0_chooseSet_23 rfl ?_
        refine c_geti (x := (B 3 i.toNat)) hC X FX0_90 r2 rfl rk dX0_chooseSet_25 ?_
        refine lv_iconst (v := iv 3) hx hb dX0_chooseSet_28 rfl ?_
        refine m_icmp_ne (tgt := 59) hx hb dX0_chooseSet_29 (by decide) (by omega) (by omega) (fun c29 => ?_) (fun c29 => ?_)
        · refine m_iincv hx hb hL dX0_chooseSet_59 rfl (fun ls hL => ?_)
          refine lv_goto (tgt := 13) hx hb dX0_chooseSet_62 (by decide) ?_
          exact ih _ (i + 1) _ _ _ ls (chS_CRn (x := i.toNat) hc hn4) (ch_VSP hS (Or.inl rfl)) (fun r hr hr2 => by rw [ch_3, if_neg (by omega)]; exact h34 r (by omega) hr2) ⟨by omega, by omega⟩ (by omega) (by rw [hv, choose_s (by omega), chS_n (fun q => by have q2 := q.2; rw [← hei] at q2; simp only [Int.toNat_natCast] at q2; omega)]) hfr (by rw [ch_k 1 0 (by decide) (by decide)]; exact h1A) X (lq_none 4 hL)
        · refine m_aload hx hb hL dX0_chooseSet_32 rfl ?_
          refine c_geti (x := (B 4 i.toNat)) hC X FX0_95 r2 rfl ru dX0_chooseSet_34 ?_
          refine m_aload hx hb hL dX0_chooseSet_37 rfl ?_
          refine m_aload_n hx hb hL dX0_chooseSet_39 rfl ?_
          refine c_geti (x := cy) hC X FX0_34 f10 rfl g4 dX0_chooseSet_40 ?_
          refine c_callV hC X (k_X3_seenWords (r := i.toNat) hc hS.1 hS.2.1 hS.2.2 hrn) VX0_98 r2 rfl ⟨by decide, by decide⟩ ⟨by decide, by decide⟩ hL.1 rfl (Nat.le_of_ble_eq_true rfl) dX0_chooseSet_43 (fun v43 μ43 z43 H locs hp X => ?_)
          obtain ⟨rfl, hm_, hz_⟩ := hp
          have hm_ := hm_.symm
          have hz_ := hz_.symm
          subst hm_
          subst hz_
          refine m_isub hx hb dX0_chooseSet_46 ?_
          refine m_aload_n hx hb hL dX0_chooseSet_47 rfl ?_
          refine c_geti (x := (B 2 0)) hC X FX0_20 f10 rfl g1 dX0_chooseSet_48 ?_
          refine m_icmp_le (tgt := 59) hx hb dX0_chooseSet_51 (by decide) (by omega) (by omega) (fun c51 => ?_) (fun c51 => ?_)
          · refine m_iincv hx hb hL dX0_chooseSet_59 rfl (fun ls hL => ?_)
            refine lv_goto (tgt := 13) hx hb dX0_chooseSet_62 (by decide) ?_
            exact ih _ (i + 1) _ _ _ ls (chS_CRn (x := i.toNat) hc hn4) (ch_VSP hS (Or.inl rfl)) (fun r hr hr2 => by rw [ch_3, if_neg (by omega)]; exact h34 r (by omega) hr2) ⟨by omega, by omega⟩ (by omega) (by rw [hv, choose_s (by omega), chS_n (fun q => by have q2 := q.2; rw [← hei] at q2; simp only [Int.toNat_natCast] at q2; omega)]) hfr (by rw [ch_k 1 0 (by decide) (by decide)]; exact h1A) X (lq_none 4 hL)
          · refine m_aload hx hb hL dX0_chooseSet_54 rfl ?_
            refine c_callV hC X (k_X3_enterSet r2) VX0_102 r2 rfl ⟨by decide, by decide⟩ ⟨by decide, by decide⟩ hL.1 rfl (Nat.le_of_ble_eq_true rfl) dX0_chooseSet_56 (fun v56 μ56 z56 H locs hp X => ?_)
            obtain ⟨rfl, hm_, hz_⟩ := hp
            have hm_ := hm_.symm
            have hz_ := hz_.symm
            subst hm_
            subst hz_
            refine m_iincv hx hb hL dX0_chooseSet_59 rfl (fun ls hL => ?_)
            refine lv_goto (tgt := 13) hx hb dX0_chooseSet_62 (by decide) ?_
            exact ih _ (i + 1) _ _ _ ls (chS_CRs hS.1.1 hc (by omega)) (ch_VSP hS (Or.inr ⟨by omega, rfl⟩)) (fun r hr hr2 => by rw [ch_3, if_neg (by omega)]; exact h34 r (by omega) hr2) ⟨by omega, by omega⟩ (by omega) (by rw [hv, choose_s (by omega), chS_s ⟨by omega, by rw [← hei]; simp only [Int.toNat_natCast]; omega⟩]) (((hfr.I (cad_r _) 2 _).I (cad_r _) 4 _).I (cad_r _) 5 _) (by rw [ch_k 1 0 (by decide) (by decide)]; exact h1A) X (lq_none 4 hL)
  exact lp 20 A 0 _ _ _ ls hc ⟨hK.1, hK.2.2.1, hK.2.2.2.2.1⟩ (fun r _ hr => h34 r (by omega)) ⟨by omega, by omega⟩ (by omega) rfl (cfr.rf μ) rfl X hL

set_option maxHeartbeats 4000000 in
theorem k_X0_markNext {G : mG} {l : Launch} {z : Nat} {ρ : Nat → Nat} {μ : mM} {A : rS} {P Gs : Nat → Prop} {cy : Int} (hc : CR A P cy μ) (hK : KK A P Gs) (h18 : A 18 0 = 1) : MZ G l yX0_markNext cX0_markNext 6 none 3 68 z ρ [.ref (ρ 1)] μ (cR none (rMark A) P cy μ z) := by
  refine MZ.of (by decide) (by simp [Value.category]) (Nat.le_of_ble_eq_true rfl) (Nat.le_of_ble_eq_true rfl) ?_
  intro p e s m args below meth c ls H locs hC hx hb hr hlk X hL
  obtain ⟨h1, h2, h3, h4, h5, h6, h7, h8, hcy0, hcy1⟩ := id hc
  obtain ⟨⟨f00, f01, f02⟩, ⟨f10, f11, f12⟩, ⟨f20, f21, f22⟩, ⟨f30, f40, f50⟩, frr, foo⟩ := id h1
  obtain ⟨g1, g3, g4, g5, g6, g7⟩ := id h2
  refine m_aload_n hx hb hL dX0_markNext_0 rfl ?_
  refine m_getr (b := 3) hC X FX0_27 f10 rfl f12 dX0_markNext_1 ?_
  by_cases he0 : A 16 0 < A 17 0
  · have hM0 := pop_KM (KM.of hK h18) he0
    have b16 := hK.1.1.b16 0
    have b17 := hK.1.1.b17 0
    obtain ⟨oo, hoo⟩ : ∃ oo : Nat, A 15 (A 16 0).toNat = (oo : Int) := ⟨_, (Int.toNat_of_nonneg hM0.2.1).symm⟩
    have hon : oo < nn A := by have := (hK.2.1.2.1 (A 16 0).toNat (by omega)).1; unfold nn; omega
    have heo : (A 15 (A 16 0).toNat).toNat = oo := by omega
    have hob := (foo oo hon).1
    have hfi : mq μ 3 0 = some (aOb oo) := by rw [h5.1, if_pos he0, heo]
    by_cases he1 : A 16 0 + 1 < A 17 0
    · have hx6 := h5.2.2.2.1 (A 16 0).toNat (by omega) (by omega)
      rw [heo] at hx6
      have b15 := hK.1.1.b15 ((A 16 0).toNat + 1)
      have hob2 := (foo (A 15 ((A 16 0).toNat + 1)).toNat (by have := (hK.2.1.2.1 ((A 16 0).toNat + 1) (by omega)).1; unfold nn; omega)).1
      refine c_callV hC X (k_X4_takeFirst_m (o := aOb oo) f30 hob hob2 hfi hx6 h5.2.2.1) VX0_76 f30 rfl ⟨by decide, by decide⟩ ⟨by decide, by decide⟩ hL.1 rfl (Nat.le_of_ble_eq_true rfl) dX0_markNext_4 (fun v4 μ4 z4 H locs hp X => ?_)
      obtain ⟨rfl, hm_, hz_⟩ := hp
      have hz_ := hz_.symm
      subst hz_
      have hfr : cfr μ μ4 := by rw [hm_]; exact ((((cfr.rf μ).Q (cad_f (by decide)) 0 _).Q (cad_o oo) 6 _).I (cad_f (by decide)) 2 _)
      have hc := pop_CRm hK.1.1 hK.2.1 hc he1
      rw [heo, ← hm_] at hc
      obtain ⟨h1, h2, h3, h4, h5, h6, h7, h8, hcy0, hcy1⟩ := id hc
      obtain ⟨⟨f00, f01, f02⟩, ⟨f10, f11, f12⟩, ⟨f20, f21, f22⟩, ⟨f30, f40, f50⟩, frr, foo⟩ := id h1
      obtain ⟨g1, g3, g4, g5, g6, g7⟩ := id h2
      have hM0a := hM0.1
      have hM0g := hM0.2.2
      rw [heo] at hM0a hM0g
      obtain ⟨q1, q2, q3, q4⟩ := foo oo hon
      have q3 : sh μ4 (aFd oo) = some (.inr (3, (A 9 oo - 2).toNat)) := q3
      have ho9 := (hK.1.2.1 oo hon).1
      have hb9 := hK.1.1.b9 oo
      refine c_astore_nr hx hb hL dX0_markNext_7 (Nat.le_of_ble_eq_true rfl) (fun ls hL => ?_)
      refine m_aload_n hx hb hL dX0_markNext_8 rfl ?_
      refine lv_ifnonnull (tgt := 22) hx hb dX0_markNext_9 (by decide) ?_
      refine m_aload_n hx hb hL dX0_markNext_22 rfl ?_
      refine m_getr (b := aFd oo) hC X FX0_83 q1 rfl q2 dX0_markNext_23 ?_
      refine c_astore_nr hx hb hL dX0_markNext_26 (Nat.le_of_ble_eq_true rfl) (fun ls hL => ?_)
      refine m_aload_n hx hb hL dX0_markNext_27 rfl ?_
      refine c_alen hC X q3 (by decide) dX0_markNext_28 ?_
      refine m_istore_n hx hb hL dX0_markNext_29 (Nat.le_of_ble_eq_true rfl) (fun ls hL => ?_)
      refine lv_iconst (v := iv 0) hx hb dX0_markNext_30 rfl ?_
      refine m_istore hx hb hL dX0_markNext_31 (Nat.le_of_ble_eq_true rfl) (fun ls hL => ?_)
      have lp : ∀ (f : Nat) (B : rS) (i : Int) (μ1 : mM) (H : Heap) (locs : List Loc) (ls : Array Slot), CR B P cy μ1 → KM B P Gs (FE B oo i) → (∀ r : Nat, r < RN B → B 3 r ≠ 4) → 0 ≤ i ∧ i ≤ A 9 oo - 2 → (f : Int) + i = 30 → rMark A = rSeeF (oo : Int) f i B → cfr μ μ1 → B 9 oo = A 9 oo ∧ B 6 0 = A 6 0 → mX G ρ (mA ρ μ z) s.heap μ1 z H locs → lq ls [some (.ref (ρ 1)), some (.ref (ρ (aOb oo))), some (.ref (ρ (aFd oo))), some (.int (iv (((A 9 oo - 2).toNat : Nat) : Int))), some (.int (iv i)), none] → W p l e (rm 3 68 0 0) s m args below meth c H locs 0 0 (wQ G ρ μ z (cR none (rMark A) P cy μ z) below args s 0 0) (F0 m 33 ls []) := by
        intro f
        induction f with
        | zero =>
          intro B i μ1 H locs ls hc hM h34 h0 hf1 hv hfr h9 X hL
          omega
        | succ f ih =>
          intro B i μ1 H locs ls hc hM h34 h0 hf1 hv hfr h9 X hL
          obtain ⟨h1, h2, h3, h4, h5, h6, h7, h8, hcy0, hcy1⟩ := id hc
          obtain ⟨⟨f00, f01, f02⟩, ⟨f10, f11, f12⟩, ⟨f20, f21, f22⟩, ⟨f30, f40, f50⟩, frr, foo⟩ := id h1
          obtain ⟨g1, g3, g4, g5, g6, g7⟩ := id h2
          obtain ⟨q1, q2, q3, q4⟩ := foo oo (by unfold nn at *; omega)
          rw [h9.1] at q3
          obtain ⟨-, -, -, -, ofl⟩ := h8 oo (by unfold nn at *; omega)
          refine m_iload hx hb hL dX0_markNext_33 rfl ?_
          refine m_iload_n hx hb hL dX0_markNext_35 rfl ?_
          refine m_icmp_ge (tgt := 57) hx hb dX0_markNext_36 (by decide) (by omega) (by omega) (fun c36 => ?_) (fun c36 => ?_)
          · exact m_vret hC X hr hlk ⟨rfl, rfl, by rw [hv, rSeeF, if_pos (by simp only [Int.toNat_natCast]; omega)]; exact hc, hfr⟩ dX0_markNext_57
          · refine m_aload_n hx hb hL dX0_markNext_39 rfl ?_
            refine m_iload hx hb hL dX0_markNext_40 rfl ?_
            have hop := ofl (i : Int).toNat (by omega)
            by_cases hreg : B 11 (21 * oo + (i : Int).toNat) = -1
            · rw [hreg, oref_n] at hop
              refine c_aaldn (x := i) hC X q3 (Or.inl rfl) (by omega) (by omega) (by omega) hop dX0_markNext_42 ?_
              refine c_astoren hx hb hL dX0_markNext_43 (Nat.le_of_ble_eq_true rfl) (fun ls hL => ?_)
              refine m_aload_n hx hb hL dX0_markNext_45 rfl ?_
              refine m_aloadq (x := none) hx hb hL dX0_markNext_46 rfl ?_
              refine c_callV hC X (k_X0_see_n) VX0_41 f10 rfl ⟨by decide, by decide⟩ ⟨by decide, by decide⟩ hL.1 rfl (Nat.le_of_ble_eq_true rfl) dX0_markNext_48 (fun v48 μ48 z48 H locs hp X => ?_)
              obtain ⟨rfl, hm_, hz_⟩ := hp
              have hm_ := hm_.symm
              have hz_ := hz_.symm
              subst hm_
              subst hz_
              refine m_iincv hx hb hL dX0_markNext_51 rfl (fun ls hL => ?_)
              refine lv_goto (tgt := 33) hx hb dX0_markNext_54 (by decide) ?_
              exact ih _ (i + 1) _ _ _ ls hc (by have q := seeF_step (o := (oo : Int)) (x := i) (by omega) hM0g ⟨by omega, by simp only [Int.toNat_natCast]; omega⟩ hM; rw [(show (21 * (oo : Int) + i).toNat = 21 * oo + i.toNat by omega), rSee_n (Or.inl hreg)] at q; exact q) h34 ⟨by omega, by omega⟩ (by omega) (by rw [hv, rSeeF, if_neg (by simp only [Int.toNat_natCast]; omega), (show (21 * (oo : Int) + i).toNat = 21 * oo + i.toNat by omega), rSee_n (Or.inl hreg)]) hfr h9 X (lq_none 5 hL)
            · rw [oref_s hreg] at hop
              refine c_aaldr (x := i) hC X q3 (Or.inl rfl) (by omega) (by omega) (by omega) hop dX0_markNext_42 ?_
              refine c_astorer hx hb hL dX0_markNext_43 (Nat.le_of_ble_eq_true rfl) (fun ls hL => ?_)
              refine m_aload_n hx hb hL dX0_markNext_45 rfl ?_
              refine m_aload hx hb hL dX0_markNext_46 rfl ?_
              have hvb := And.intro (hM.1.1.b11 (21 * oo + (i : Int).toNat)) (hM.1.2.2.1 oo (i : Int).toNat (by unfold nn at *; omega) (by omega))
              refine c_callV hC X (k_X0_see_s (o := (B 11 (21 * oo + (i : Int).toNat)).toNat) hc hM.1.1 hM.2.1 (by unfold nn; omega) h34) VX0_41 f10 rfl ⟨by decide, by decide⟩ ⟨by decide, by decide⟩ hL.1 rfl (Nat.le_of_ble_eq_true rfl) dX0_markNext_48 (fun v48 μ48 z48 H locs hp X => ?_)
              obtain ⟨rfl, hz_, hc2, hf2⟩ := hp
              have hz_ := hz_.symm
              subst hz_
              rw [show (((B 11 (21 * oo + (i : Int).toNat)).toNat : Nat) : Int) = B 11 (21 * oo + (i : Int).toNat) by omega] at hc2
              refine m_iincv hx hb hL dX0_markNext_51 rfl (fun ls hL => ?_)
              refine lv_goto (tgt := 33) hx hb dX0_markNext_54 (by decide) ?_
              exact ih _ (i + 1) _ _ _ ls hc2 (by have q := seeF_step (o := (oo : Int)) (x := i) (by omega) hM0g ⟨by omega, by simp only [Int.toNat_natCast]; omega⟩ hM; rw [(show (21 * (oo : Int) + i).toNat = 21 * oo + i.toNat by omega)] at q; exact q) (fun r hr => by rw [see_k 3 r (by decide) (by decide) (by decide)]; exact h34 r (by unfold RN at hr ⊢; rw [see_k 1 0 (by decide) (by decide) (by decide)] at hr; exact hr)) ⟨by omega, by omega⟩ (by omega) (by rw [hv, rSeeF, if_neg (by simp only [Int.toNat_natCast]; omega), (show (21 * (oo : Int) + i).toNat = 21 * oo + i.toNat by omega)]) (hfr.tr hf2) (by rw [see_k 9 _ (by decide) (by decide) (by decide), see_k 6 0 (by decide) (by decide) (by decide)]; exact h9) X (lq_none 5 hL)
      exact lp 30 (up A 16 0 (A 16 0 + 1)) 0 _ _ _ ls hc hM0a (hK.n4 (by omega)) ⟨by omega, by omega⟩ (by omega) (by unfold rMark; rw [if_neg (by omega), hoo]) hfr ⟨rfl, rfl⟩ X hL
    · have hx6 := h5.2.2.2.2 oo hon (fun i i1 i2 => by omega)
      refine c_callV hC X (k_X4_takeFirst_l (o := aOb oo) f30 hob hfi hx6 h5.2.2.1) VX0_76 f30 rfl ⟨by decide, by decide⟩ ⟨by decide, by decide⟩ hL.1 rfl (Nat.le_of_ble_eq_true rfl) dX0_markNext_4 (fun v4 μ4 z4 H locs hp X => ?_)
      obtain ⟨rfl, hm_, hz_⟩ := hp
      have hz_ := hz_.symm
      subst hz_
      have hfr : cfr μ μ4 := by rw [hm_]; exact (((((cfr.rf μ).Q (cad_f (by decide)) 0 _).Q (cad_f (by decide)) 1 _).Q (cad_o oo) 6 _).I (cad_f (by decide)) 2 _)
      have hc := pop_CRl hK.1.1 hc (by omega)
      rw [heo, ← hm_] at hc
      obtain ⟨h1, h2, h3, h4, h5, h6, h7, h8, hcy0, hcy1⟩ := id hc
      obtain ⟨⟨f00, f01, f02⟩, ⟨f10, f11, f12⟩, ⟨f20, f21, f22⟩, ⟨f30, f40, f50⟩, frr, foo⟩ := id h1
      obtain ⟨g1, g3, g4, g5, g6, g7⟩ := id h2
      have hM0a := hM0.1
      have hM0g := hM0.2.2
      rw [heo] at hM0a hM0g
      obtain ⟨q1, q2, q3, q4⟩ := foo oo hon
      have q3 : sh μ4 (aFd oo) = some (.inr (3, (A 9 oo - 2).toNat)) := q3
      have ho9 := (hK.1.2.1 oo hon).1
      have hb9 := hK.1.1.b9 oo
      refine c_astore_nr hx hb hL dX0_markNext_7 (Nat.le_of_ble_eq_true rfl) (fun ls hL => ?_)
      refine m_aload_n hx hb hL dX0_markNext_8 rfl ?_
      refine lv_ifnonnull (tgt := 22) hx hb dX0_markNext_9 (by decide) ?_
      refine m_aload_n hx hb hL dX0_markNext_22 rfl ?_
      refine m_getr (b := aFd oo) hC X FX0_83 q1 rfl q2 dX0_markNext_23 ?_
      refine c_astore_nr hx hb hL dX0_markNext_26 (Nat.le_of_ble_eq_true rfl) (fun ls hL => ?_)
      refine m_aload_n hx hb hL dX0_markNext_27 rfl ?_
      refine c_alen hC X q3 (by decide) dX0_markNext_28 ?_
      refine m_istore_n hx hb hL dX0_markNext_29 (Nat.le_of_ble_eq_true rfl) (fun ls hL => ?_)
      refine lv_iconst (v := iv 0) hx hb dX0_markNext_30 rfl ?_
      refine m_istore hx hb hL dX0_markNext_31 (Nat.le_of_ble_eq_true rfl) (fun ls hL => ?_)
      have lp : ∀ (f : Nat) (B : rS) (i : Int) (μ1 : mM) (H : Heap) (locs : List Loc) (ls : Array Slot), CR B P cy μ1 → KM B P Gs (FE B oo i) → (∀ r : Nat, r < RN B → B 3 r ≠ 4) → 0 ≤ i ∧ i ≤ A 9 oo - 2 → (f : Int) + i = 30 → rMark A = rSeeF (oo : Int) f i B → cfr μ μ1 → B 9 oo = A 9 oo ∧ B 6 0 = A 6 0 → mX G ρ (mA ρ μ z) s.heap μ1 z H locs → lq ls [some (.ref (ρ 1)), some (.ref (ρ (aOb oo))), some (.ref (ρ (aFd oo))), some (.int (iv (((A 9 oo - 2).toNat : Nat) : Int))), some (.int (iv i)), none] → W p l e (rm 3 68 0 0) s m args below meth c H locs 0 0 (wQ G ρ μ z (cR none (rMark A) P cy μ z) below args s 0 0) (F0 m 33 ls []) := by
        intro f
        induction f with
        | zero =>
          intro B i μ1 H locs ls hc hM h34 h0 hf1 hv hfr h9 X hL
          omega
        | succ f ih =>
          intro B i μ1 H locs ls hc hM h34 h0 hf1 hv hfr h9 X hL
          obtain ⟨h1, h2, h3, h4, h5, h6, h7, h8, hcy0, hcy1⟩ := id hc
          obtain ⟨⟨f00, f01, f02⟩, ⟨f10, f11, f12⟩, ⟨f20, f21, f22⟩, ⟨f30, f40, f50⟩, frr, foo⟩ := id h1
          obtain ⟨g1, g3, g4, g5, g6, g7⟩ := id h2
          obtain ⟨q1, q2, q3, q4⟩ := foo oo (by unfold nn at *; omega)
          rw [h9.1] at q3
          obtain ⟨-, -, -, -, ofl⟩ := h8 oo (by unfold nn at *; omega)
          refine m_iload hx hb hL dX0_markNext_33 rfl ?_
          refine m_iload_n hx hb hL dX0_markNext_35 rfl ?_
          refine m_icmp_ge (tgt := 57) hx hb dX0_markNext_36 (by decide) (by omega) (by omega) (fun c36 => ?_) (fun c36 => ?_)
          · exact m_vret hC X hr hlk ⟨rfl, rfl, by rw [hv, rSeeF, if_pos (by simp only [Int.toNat_natCast]; omega)]; exact hc, hfr⟩ dX0_markNext_57
          · refine m_aload_n hx hb hL dX0_markNext_39 rfl ?_
            refine m_iload hx hb hL dX0_markNext_40 rfl ?_
            have hop := ofl (i : Int).toNat (by omega)
            by_cases hreg : B 11 (21 * oo + (i : Int).toNat) = -1
            · rw [hreg, oref_n] at hop
              refine c_aaldn (x := i) hC X q3 (Or.inl rfl) (by omega) (by omega) (by omega) hop dX0_markNext_42 ?_
              refine c_astoren hx hb hL dX0_markNext_43 (Nat.le_of_ble_eq_true rfl) (fun ls hL => ?_)
              refine m_aload_n hx hb hL dX0_markNext_45 rfl ?_
              refine m_aloadq (x := none) hx hb hL dX0_markNext_46 rfl ?_
              refine c_callV hC X (k_X0_see_n) VX0_41 f10 rfl ⟨by decide, by decide⟩ ⟨by decide, by decide⟩ hL.1 rfl (Nat.le_of_ble_eq_true rfl) dX0_markNext_48 (fun v48 μ48 z48 H locs hp X => ?_)
              obtain ⟨rfl, hm_, hz_⟩ := hp
              have hm_ := hm_.symm
              have hz_ := hz_.symm
              subst hm_
              subst hz_
              refine m_iincv hx hb hL dX0_markNext_51 rfl (fun ls hL => ?_)
              refine lv_goto (tgt := 33) hx hb dX0_markNext_54 (by decide) ?_
              exact ih _ (i + 1) _ _ _ ls hc (by have q := seeF_step (o := (oo : Int)) (x := i) (by omega) hM0g ⟨by omega, by simp only [Int.toNat_natCast]; omega⟩ hM; rw [(show (21 * (oo : Int) + i).toNat = 21 * oo + i.toNat by omega), rSee_n (Or.inl hreg)] at q; exact q) h34 ⟨by omega, by omega⟩ (by omega) (by rw [hv, rSeeF, if_neg (by simp only [Int.toNat_natCast]; omega), (show (21 * (oo : Int) + i).toNat = 21 * oo + i.toNat by omega), rSee_n (Or.inl hreg)]) hfr h9 X (lq_none 5 hL)
            · rw [oref_s hreg] at hop
              refine c_aaldr (x := i) hC X q3 (Or.inl rfl) (by omega) (by omega) (by omega) hop dX0_markNext_42 ?_
              refine c_astorer hx hb hL dX0_markNext_43 (Nat.le_of_ble_eq_true rfl) (fun ls hL => ?_)
              refine m_aload_n hx hb hL dX0_markNext_45 rfl ?_
              refine m_aload hx hb hL dX0_markNext_46 rfl ?_
              have hvb := And.intro (hM.1.1.b11 (21 * oo + (i : Int).toNat)) (hM.1.2.2.1 oo (i : Int).toNat (by unfold nn at *; omega) (by omega))
              refine c_callV hC X (k_X0_see_s (o := (B 11 (21 * oo + (i : Int).toNat)).toNat) hc hM.1.1 hM.2.1 (by unfold nn; omega) h34) VX0_41 f10 rfl ⟨by decide, by decide⟩ ⟨by decide, by decide⟩ hL.1 rfl (Nat.le_of_ble_eq_true rfl) dX0_markNext_48 (fun v48 μ48 z48 H locs hp X => ?_)
              obtain ⟨rfl, hz_, hc2, hf2⟩ := hp
              have hz_ := hz_.symm
              subst hz_
              rw [show (((B 11 (21 * oo + (i : Int).toNat)).toNat : Nat) : Int) = B 11 (21 * oo + (i : Int).toNat) by omega] at hc2
              refine m_iincv hx hb hL dX0_markNext_51 rfl (fun ls hL => ?_)
              refine lv_goto (tgt := 33) hx hb dX0_markNext_54 (by decide) ?_
              exact ih _ (i + 1) _ _ _ ls hc2 (by have q := seeF_step (o := (oo : Int)) (x := i) (by omega) hM0g ⟨by omega, by simp only [Int.toNat_natCast]; omega⟩ hM; rw [(show (21 * (oo : Int) + i).toNat = 21 * oo + i.toNat by omega)] at q; exact q) (fun r hr => by rw [see_k 3 r (by decide) (by decide) (by decide)]; exact h34 r (by unfold RN at hr ⊢; rw [see_k 1 0 (by decide) (by decide) (by decide)] at hr; exact hr)) ⟨by omega, by omega⟩ (by omega) (by rw [hv, rSeeF, if_neg (by simp only [Int.toNat_natCast]; omega), (show (21 * (oo : Int) + i).toNat = 21 * oo + i.toNat by omega)]) (hfr.tr hf2) (by rw [see_k 9 _ (by decide) (by decide) (by decide), see_k 6 0 (by decide) (by decide) (by decide)]; exact h9) X (lq_none 5 hL)
      exact lp 30 (up A 16 0 (A 16 0 + 1)) 0 _ _ _ ls hc hM0a (hK.n4 (by omega)) ⟨by omega, by omega⟩ (by omega) (by unfold rMark; rw [if_neg (by omega), hoo]) hfr ⟨rfl, rfl⟩ X hL
  · refine c_callV hC X (k_X4_takeFirst_n f30 (by rw [h5.1, if_neg he0])) VX0_76 f30 rfl ⟨by decide, by decide⟩ ⟨by decide, by decide⟩ hL.1 rfl (Nat.le_of_ble_eq_true rfl) dX0_markNext_4 (fun v4 μ4 z4 H locs hp X => ?_)
    obtain ⟨rfl, hm_, hz_⟩ := hp
    have hm_ := hm_.symm
    have hz_ := hz_.symm
    subst hm_
    subst hz_
    refine c_astore_nn hx hb hL dX0_markNext_7 (Nat.le_of_ble_eq_true rfl) (fun ls hL => ?_)
    refine m_aload_nq (x := none) hx hb hL dX0_markNext_8 rfl ?_
    refine lv_ifnonnullN hx hb dX0_markNext_9 ?_
    refine m_aload_n hx hb hL dX0_markNext_12 rfl ?_
    refine c_callV hC X (k_X0_chooseSet hc hK (hK.n4 (by omega))) VX0_80 f10 rfl ⟨by decide, by decide⟩ ⟨by decide, by decide⟩ hL.1 rfl (Nat.le_of_ble_eq_true rfl) dX0_markNext_13 (fun v13 μ13 z13 H locs hp X => ?_)
    obtain ⟨rfl, hz_, hc2, hf2⟩ := hp
    have hz_ := hz_.symm
    subst hz_
    have hc := hc2
    obtain ⟨h1, h2, h3, h4, h5, h6, h7, h8, hcy0, hcy1⟩ := id hc
    obtain ⟨⟨f00, f01, f02⟩, ⟨f10, f11, f12⟩, ⟨f20, f21, f22⟩, ⟨f30, f40, f50⟩, frr, foo⟩ := id h1
    obtain ⟨g1, g3, g4, g5, g6, g7⟩ := id h2
    refine m_aload_n hx hb hL dX0_markNext_16 rfl ?_
    refine lv_iconst (v := iv 2) hx hb dX0_markNext_17 rfl ?_
    refine c_puti (x := 2) hC X FwX0_31 f10 rfl dX0_markNext_18 (fun H locs X => ?_)
    exact m_vret hC X hr hlk ⟨rfl, rfl, by unfold rMark; rw [if_pos (by omega)]; exact ph_CR hc, hf2.I (cad_f (by decide)) 3 _⟩ dX0_markNext_21

