/-! units, a whole collection, what comes before a write (printed by wip/tools/cls6.py) -/
theorem prun_0 {B : rS} {P : Nat → Prop} (h : B 18 0 ≤ 0) : ∀ f : Nat, pRun f B P = P := by
  intro f
  cases f with
  | zero => rfl
  | succ f => rw [pRun, if_pos h]
theorem prun_s {B : rS} {P : Nat → Prop} {f : Nat} (hf : 0 < f) (h : ¬ B 18 0 ≤ 0) : pRun f B P = pRun (f - 1) (rUnit B) (pUnit B P) := by
  cases f with
  | zero => omega
  | succ f => rw [pRun, if_neg h]; rfl

set_option maxHeartbeats 4000000 in
theorem k_X0_runUnits {G : mG} {l : Launch} {z : Nat} {ρ : Nat → Nat} {μ : mM} {A : rS} {P Gs : Nat → Prop} {cy : Int} {n : Int} (hc : CR A P cy μ) (hK : KK A P Gs) (hn : 0 ≤ n ∧ n ≤ 1000000) : MZ G l yX0_runUnits cX0_runUnits 3 none 4 94 z ρ [.ref (ρ 1), .int (iv n)] μ (cR none (rRun n.toNat A) (pRun n.toNat A P) cy μ z) := by
  refine MZ.of (by decide) (by simp [Value.category]) (Nat.le_of_ble_eq_true rfl) (Nat.le_of_ble_eq_true rfl) ?_
  intro p e s m args below meth c ls H locs hC hx hb hr hlk X hL
  obtain ⟨h1, h2, h3, h4, h5, h6, h7, h8, hcy0, hcy1⟩ := id hc
  obtain ⟨⟨f00, f01, f02⟩, ⟨f10, f11, f12⟩, ⟨f20, f21, f22⟩, ⟨f30, f40, f50⟩, frr, foo⟩ := id h1
  obtain ⟨g1, g3, g4, g5, g6, g7⟩ := id h2
  refine lv_iconst (v := iv 0) hx hb dX0_runUnits_0 rfl ?_
  refine m_istore_n hx hb hL dX0_runUnits_1 (Nat.le_of_ble_eq_true rfl) (fun ls hL => ?_)
  have lp : ∀ (f : Nat) (B : rS) (Pb : Nat → Prop) (i : Int) (μ1 : mM) (H : Heap) (locs : List Loc) (ls : Array Slot), CR B Pb cy μ1 → KK B Pb Gs → 0 ≤ i ∧ i ≤ n → (f : Int) + i = n + 1 → rRun n.toNat A = rRun (n - i).toNat B → pRun n.toNat A P = pRun (n - i).toNat B Pb → cfr μ μ1 → mX G ρ (mA ρ μ z) s.heap μ1 z H locs → lq ls [some (.ref (ρ 1)), some (.int (iv n)), some (.int (iv i))] → W p l e (rm 4 94 0 0) s m args below meth c H locs 0 0 (wQ G ρ μ z (cR none (rRun n.toNat A) (pRun n.toNat A P) cy μ z) below args s 0 0) (F0 m 2 ls []) := by
    intro f
    induction f with
    | zero =>
      intro B Pb i μ1 H locs ls hc hKB h0 hf1 hv hw hfr X hL
      omega
    | succ f ih =>
      intro B Pb i μ1 H locs ls hc hKB h0 hf1 hv hw hfr X hL
      obtain ⟨h1, h2, h3, h4, h5, h6, h7, h8, hcy0, hcy1⟩ := id hc
      obtain ⟨⟨f00, f01, f02⟩, ⟨f10, f11, f12⟩, ⟨f20, f21, f22⟩, ⟨f30, f40, f50⟩, frr, foo⟩ := id h1
      obtain ⟨g1, g3, g4, g5, g6, g7⟩ := id h2
      have b18 := hKB.1.1.b18 0
      refine m_iload_n hx hb hL dX0_runUnits_2 rfl ?_
      refine m_iload_n hx hb hL dX0_runUnits_3 rfl ?_
      refine m_icmp_ge (tgt := 68) hx hb dX0_runUnits_4 (by decide) (by omega) (by omega) (fun c4 => ?_) (fun c4 => ?_)
      · have e0 : (n - i).toNat = 0 := by omega
        rw [e0] at hv hw
        exact m_vret hC X hr hlk ⟨rfl, rfl, by rw [hv, hw]; exact hc, hfr⟩ dX0_runUnits_68
      · refine m_aload_n hx hb hL dX0_runUnits_7 rfl ?_
        refine c_geti (x := (B 18 0)) hC X FX0_31 f10 rfl g3 dX0_runUnits_8 ?_
        refine m_if_eq (tgt := 68) hx hb dX0_runUnits_11 (by decide) (by omega) (fun c11 => ?_) (fun c11 => ?_)
        · exact m_vret hC X hr hlk ⟨rfl, rfl, by rw [hv, hw, run_0 (by omega), prun_0 (by omega)]; exact hc, hfr⟩ dX0_runUnits_68
        · refine m_aload_n hx hb hL dX0_runUnits_14 rfl ?_
          refine c_geti (x := (B 18 0)) hC X FX0_31 f10 rfl g3 dX0_runUnits_15 ?_
          rcases (show B 18 0 = 1 ∨ B 18 0 = 2 ∨ B 18 0 = 3 by omega) with h18 | h18 | h18
          · rw [h18]
            refine lv_lookup (x := iv 1) (off := 26) (tgt := 44) hx hb dX0_runUnits_18 (by decide) (by decide +kernel) (by decide) ?_
            refine m_aload_n hx hb hL dX0_runUnits_44 rfl ?_
            refine c_callV hC X (k_X0_markNext hc hKB h18) VX0_52 f10 rfl ⟨by decide, by decide⟩ ⟨by decide, by decide⟩ hL.1 rfl (Nat.le_of_ble_eq_true rfl) dX0_runUnits_45 (fun v45 μ45 z45 H locs hp X => ?_)
            obtain ⟨rfl, hz_, hc2, hf2⟩ := hp
            have hz_ := hz_.symm
            subst hz_
            have hu : rUnit B = rMark B := by unfold rUnit; rw [if_pos h18]
            have hc3 : CR (rUnit B) (pUnit B Pb) cy μ45 := by rw [hu]; rw [pUnit_n (by omega)]; exact hc2
            refine lv_goto (tgt := 62) hx hb dX0_runUnits_48 (by decide) ?_
            refine m_iincv hx hb hL dX0_runUnits_62 rfl (fun ls hL => ?_)
            refine lv_goto (tgt := 2) hx hb dX0_runUnits_65 (by decide) ?_
            exact ih _ _ (i + 1) _ _ _ ls hc3 (unit_KK hKB) ⟨by omega, by omega⟩ (by omega) (by rw [hv, run_s (by omega) (by omega), show (n - i).toNat - 1 = (n - (i + 1)).toNat by omega]) (by rw [hw, prun_s (by omega) (by omega), show (n - i).toNat - 1 = (n - (i + 1)).toNat by omega]) (hfr.tr hf2) X hL
          · rw [h18]
            refine lv_lookup (x := iv 2) (off := 33) (tgt := 51) hx hb dX0_runUnits_18 (by decide) (by decide +kernel) (by decide) ?_
            refine m_aload_n hx hb hL dX0_runUnits_51 rfl ?_
            refine c_callV hC X (k_X0_moveNext hc hKB h18) VX0_55 f10 rfl ⟨by decide, by decide⟩ ⟨by decide, by decide⟩ hL.1 rfl (Nat.le_of_ble_eq_true rfl) dX0_runUnits_52 (fun v52 μ52 z52 H locs hp X => ?_)
            obtain ⟨rfl, hz_, hc2, hf2⟩ := hp
            have hz_ := hz_.symm
            subst hz_
            have hu : rUnit B = rMoveOne B := by unfold rUnit; rw [if_neg (by omega), if_pos h18]
            have hc3 : CR (rUnit B) (pUnit B Pb) cy μ52 := by rw [hu]; rw [pUnit_n (by omega)]; exact hc2
            refine lv_goto (tgt := 62) hx hb dX0_runUnits_55 (by decide) ?_
            refine m_iincv hx hb hL dX0_runUnits_62 rfl (fun ls hL => ?_)
            refine lv_goto (tgt := 2) hx hb dX0_runUnits_65 (by decide) ?_
            exact ih _ _ (i + 1) _ _ _ ls hc3 (unit_KK hKB) ⟨by omega, by omega⟩ (by omega) (by rw [hv, run_s (by omega) (by omega), show (n - i).toNat - 1 = (n - (i + 1)).toNat by omega]) (by rw [hw, prun_s (by omega) (by omega), show (n - i).toNat - 1 = (n - (i + 1)).toNat by omega]) (hfr.tr hf2) X hL
          · rw [h18]
            refine lv_lookup (x := iv 3) (off := 40) (tgt := 58) hx hb dX0_runUnits_18 (by decide) (by decide +kernel) (by decide) ?_
            refine m_aload_n hx hb hL dX0_runUnits_58 rfl ?_
            refine c_callV hC X (k_X0_updateNext hc hKB h18) VX0_58 f10 rfl ⟨by decide, by decide⟩ ⟨by decide, by decide⟩ hL.1 rfl (Nat.le_of_ble_eq_true rfl) dX0_runUnits_59 (fun v59 μ59 z59 H locs hp X => ?_)
            obtain ⟨rfl, hz_, hc2, hf2⟩ := hp
            have hz_ := hz_.symm
            subst hz_
            have hu : rUnit B = rUpdate B := by unfold rUnit; rw [if_neg (by omega), if_neg (by omega), if_pos h18]
            have hc3 : CR (rUnit B) (pUnit B Pb) cy μ59 := by rw [hu]; exact hc2
            refine m_iincv hx hb hL dX0_runUnits_62 rfl (fun ls hL => ?_)
            refine lv_goto (tgt := 2) hx hb dX0_runUnits_65 (by decide) ?_
            exact ih _ _ (i + 1) _ _ _ ls hc3 (unit_KK hKB) ⟨by omega, by omega⟩ (by omega) (by rw [hv, run_s (by omega) (by omega), show (n - i).toNat - 1 = (n - (i + 1)).toNat by omega]) (by rw [hw, prun_s (by omega) (by omega), show (n - i).toNat - 1 = (n - (i + 1)).toNat by omega]) (hfr.tr hf2) X hL
  exact lp (n + 1).toNat A P 0 _ _ _ ls hc hK ⟨by omega, by omega⟩ (by omega) (by simp) (by simp) (cfr.rf μ) X hL

set_option maxHeartbeats 4000000 in
theorem k_X0_collectWhole {G : mG} {l : Launch} {z : Nat} {ρ : Nat → Nat} {μ : mM} {A : rS} {P Gs : Nat → Prop} {cy : Int} (hc : CR A P cy μ) (hK : KK A P Gs) (hcy : cy < 2000) : MZ G l yX0_collectWhole cX0_collectWhole 1 none 5 116 z ρ [.ref (ρ 1)] μ (cR none (rWhole A) (pWhole A P) (cy + 1) μ z) := by
  refine MZ.of (by decide) (by simp [Value.category]) (Nat.le_of_ble_eq_true rfl) (Nat.le_of_ble_eq_true rfl) ?_
  intro p e s m args below meth c ls H locs hC hx hb hr hlk X hL
  obtain ⟨h1, h2, h3, h4, h5, h6, h7, h8, hcy0, hcy1⟩ := id hc
  obtain ⟨⟨f00, f01, f02⟩, ⟨f10, f11, f12⟩, ⟨f20, f21, f22⟩, ⟨f30, f40, f50⟩, frr, foo⟩ := id h1
  obtain ⟨g1, g3, g4, g5, g6, g7⟩ := id h2
  refine m_aload_n hx hb hL dX0_collectWhole_0 rfl ?_
  refine lv_ldc (v := iv 1000000) hx hb hC.2.2.2.1 (hC.2.2.2.2.1 _ COX0_45) dX0_collectWhole_1 ?_
  refine c_callV hC X (k_X0_runUnits (n := 1000000) hc hK (by omega)) VX0_46 f10 rfl ⟨by decide, by decide⟩ ⟨by decide, by decide⟩ hL.1 rfl (Nat.le_of_ble_eq_true rfl) dX0_collectWhole_3 (fun v3 μ3 z3 H locs hp X => ?_)
  obtain ⟨rfl, hz_, hc2, hf2⟩ := hp
  have hz_ := hz_.symm
  subst hz_
  obtain ⟨e1, e2⟩ := run_stab 1100 (1000000 : Int).toNat hK (ms_b hK).2.1 (by decide)
  rw [e1, e2] at hc2
  have hc : CR (rFin A) (pFin A P) cy μ3 := hc2
  obtain ⟨hKF, hF0⟩ := fin_KK hK
  have hfa := hf2
  obtain ⟨h1, h2, h3, h4, h5, h6, h7, h8, hcy0, hcy1⟩ := id hc
  obtain ⟨⟨f00, f01, f02⟩, ⟨f10, f11, f12⟩, ⟨f20, f21, f22⟩, ⟨f30, f40, f50⟩, frr, foo⟩ := id h1
  obtain ⟨g1, g3, g4, g5, g6, g7⟩ := id h2
  refine m_aload_n hx hb hL dX0_collectWhole_6 rfl ?_
  refine c_callV hC X (k_X0_startCycle hc hKF hF0 hcy) VX0_49 f10 rfl ⟨by decide, by decide⟩ ⟨by decide, by decide⟩ hL.1 rfl (Nat.le_of_ble_eq_true rfl) dX0_collectWhole_7 (fun v7 μ7 z7 H locs hp X => ?_)
  obtain ⟨rfl, hz_, hc2, hf2⟩ := hp
  have hz_ := hz_.symm
  subst hz_
  have hc := hc2
  have hKS := start_KK hKF hF0
  have hfb := hfa.tr hf2
  obtain ⟨h1, h2, h3, h4, h5, h6, h7, h8, hcy0, hcy1⟩ := id hc
  obtain ⟨⟨f00, f01, f02⟩, ⟨f10, f11, f12⟩, ⟨f20, f21, f22⟩, ⟨f30, f40, f50⟩, frr, foo⟩ := id h1
  obtain ⟨g1, g3, g4, g5, g6, g7⟩ := id h2
  refine m_aload_n hx hb hL dX0_collectWhole_10 rfl ?_
  refine lv_ldc (v := iv 1000000) hx hb hC.2.2.2.1 (hC.2.2.2.2.1 _ COX0_45) dX0_collectWhole_11 ?_
  refine c_callV hC X (k_X0_runUnits (n := 1000000) hc hKS (by omega)) VX0_46 f10 rfl ⟨by decide, by decide⟩ ⟨by decide, by decide⟩ hL.1 rfl (Nat.le_of_ble_eq_true rfl) dX0_collectWhole_13 (fun v13 μ13 z13 H locs hp X => ?_)
  obtain ⟨rfl, hz_, hc2, hf2⟩ := hp
  have hz_ := hz_.symm
  subst hz_
  obtain ⟨e1, e2⟩ := run_stab 1100 (1000000 : Int).toNat hKS (ms_b hKS).2.1 (by decide)
  rw [e1, e2] at hc2
  exact m_vret hC X hr hlk ⟨rfl, rfl, hc2, hfb.tr hf2⟩ dX0_collectWhole_16

set_option maxHeartbeats 4000000 in
theorem k_X0_prepareWrite_n {G : mG} {l : Launch} {z : Nat} {ρ : Nat → Nat} {μ : mM} {A : rS} {P Gs : Nat → Prop} {cy : Int} {o : Nat} (hc : CR A P cy μ) (hK : KK A P Gs) (ho : o < nn A) (hG : Gs o) : MZ G l yX0_prepareWrite cX0_prepareWrite 3 none 3 69 z ρ [.ref (ρ 1), .ref (ρ (aOb o)), .null] μ (cR none (rPrep A (o : Int) (-1)) P cy μ z) := by
  refine MZ.of (by decide) (by simp [Value.category]) (Nat.le_of_ble_eq_true rfl) (Nat.le_of_ble_eq_true rfl) ?_
  intro p e s m args below meth c ls H locs hC hx hb hr hlk X hL
  obtain ⟨h1, h2, h3, h4, h5, h6, h7, h8, hcy0, hcy1⟩ := id hc
  obtain ⟨⟨f00, f01, f02⟩, ⟨f10, f11, f12⟩, ⟨f20, f21, f22⟩, ⟨f30, f40, f50⟩, frr, foo⟩ := id h1
  obtain ⟨g1, g3, g4, g5, g6, g7⟩ := id h2
  obtain ⟨o1, o2, o3, o4⟩ := foo o ho
  obtain ⟨oh, oo, ⟨ov, os, osa, osb, osc⟩, ⟨ow, of, ofa, ofb, ofc⟩, oz⟩ := h8 o ho
  have ho7 := (hK.1.2.1 o ho).2
  have hb7 := hK.1.1.b7 o
  have b18 := hK.1.1.b18 0
  have hrn : (A 7 o).toNat < RN A := by unfold RN; omega
  obtain ⟨r1, r2, r3, r4, r5⟩ := frr _ hrn
  have rk := (h6 _ hrn).1
  refine m_aload_n hx hb hL dX0_prepareWrite_0 rfl ?_
  refine c_geti (x := (A 18 0)) hC X FX0_31 f10 rfl g3 dX0_prepareWrite_1 ?_
  refine lv_iconst (v := iv 1) hx hb dX0_prepareWrite_4 rfl ?_
  refine m_icmp_ne (tgt := 16) hx hb dX0_prepareWrite_5 (by decide) (by omega) (by omega) (fun c5 => ?_) (fun c5 => ?_)
  · refine m_aload_n hx hb hL dX0_prepareWrite_16 rfl ?_
    refine c_geti (x := (A 18 0)) hC X FX0_31 f10 rfl g3 dX0_prepareWrite_17 ?_
    refine lv_iconst (v := iv 2) hx hb dX0_prepareWrite_20 rfl ?_
    refine m_icmp_ne (tgt := 37) hx hb dX0_prepareWrite_21 (by decide) (by omega) (by omega) (fun c21 => ?_) (fun c21 => ?_)
    · exact m_vret hC X hr hlk ⟨rfl, rfl, by unfold rPrep; rw [if_neg (by omega), if_neg (fun q => by omega)]; exact hc, cfr.rf μ⟩ dX0_prepareWrite_37
    · have h18 : A 18 0 = 2 := by omega
      have h12 := hK.2.2.2.2.2.2.2 (by omega) o hG
      refine m_aload_n hx hb hL dX0_prepareWrite_24 rfl ?_
      refine m_aload_n hx hb hL dX0_prepareWrite_25 rfl ?_
      refine c_callV hC X (k_X0_mayMove (kd := A 3 (A 7 o).toNat) (fl := ow) (cy := cy) f10 o1 r2 oh rk of g4 (hK.1.1.b3 _) (by omega) (by omega)) VX0_66 f10 rfl ⟨by decide, by decide⟩ ⟨by decide, by decide⟩ hL.1 rfl (Nat.le_of_ble_eq_true rfl) dX0_prepareWrite_26 (fun v26 μ26 z26 H locs hp X => ?_)
      obtain ⟨rfl, hm_, hz_⟩ := hp
      have hm_ := hm_.symm
      have hz_ := hz_.symm
      subst hm_
      subst hz_
      by_cases hmm : A 3 (A 7 o).toNat = 4 ∧ ow ≠ cy
      · rw [bZ_t hmm]
        refine m_if_eq (tgt := 37) hx hb dX0_prepareWrite_29 (by decide) (by omega) (fun c29 => absurd c29 (by omega)) (fun c29 => ?_)
        refine m_aload_n hx hb hL dX0_prepareWrite_32 rfl ?_
        refine m_aload_n hx hb hL dX0_prepareWrite_33 rfl ?_
        refine c_callV hC X (k_X0_moveOrFail (o := o) hc hK h18 ho (hK.2.2.2.2.2.1.1 o hG) hmm.1) VX0_70 f10 rfl ⟨by decide, by decide⟩ ⟨by decide, by decide⟩ hL.1 rfl (Nat.le_of_ble_eq_true rfl) dX0_prepareWrite_34 (fun v34 μ34 z34 H locs hp X => ?_)
        obtain ⟨rfl, hz_, hc2, hf2⟩ := hp
        have hz_ := hz_.symm
        subst hz_
        exact m_vret hC X hr hlk ⟨rfl, rfl, by unfold rPrep; rw [if_neg (by omega), if_pos ⟨h18, toMoveN.mpr ⟨by omega, by have := hK.1.1.b13 o; have := fun q => hmm.2 (ofc.mpr q); omega, hmm.1⟩⟩]; exact hc2, hf2⟩ dX0_prepareWrite_37
      · rw [bZ_f hmm]
        refine m_if_eq (tgt := 37) hx hb dX0_prepareWrite_29 (by decide) (by omega) (fun c29 => ?_) (fun c29 => absurd c29 (by omega))
        exact m_vret hC X hr hlk ⟨rfl, rfl, by unfold rPrep; rw [if_neg (by omega), if_neg (fun q => hmm ⟨(toMoveN.mp q.2).2.2, fun w => by have q2 := (toMoveN.mp q.2).2.1; have := ofc.mp w; omega⟩)]; exact hc, cfr.rf μ⟩ dX0_prepareWrite_37
  · refine m_aload_n hx hb hL dX0_prepareWrite_8 rfl ?_
    refine m_aload_nq (x := none) hx hb hL dX0_prepareWrite_9 rfl ?_
    refine c_callV hC X (k_X0_see_n) VX0_41 f10 rfl ⟨by decide, by decide⟩ ⟨by decide, by decide⟩ hL.1 rfl (Nat.le_of_ble_eq_true rfl) dX0_prepareWrite_10 (fun v10 μ10 z10 H locs hp X => ?_)
    obtain ⟨rfl, hm_, hz_⟩ := hp
    have hm_ := hm_.symm
    have hz_ := hz_.symm
    subst hm_
    subst hz_
    refine lv_goto (tgt := 37) hx hb dX0_prepareWrite_13 (by decide) ?_
    exact m_vret hC X hr hlk ⟨rfl, rfl, by unfold rPrep; rw [if_pos (by omega), rSee_n (Or.inl rfl)]; exact hc, cfr.rf μ⟩ dX0_prepareWrite_37

set_option maxHeartbeats 4000000 in
theorem k_X0_prepareWrite_s {G : mG} {l : Launch} {z : Nat} {ρ : Nat → Nat} {μ : mM} {A : rS} {P Gs : Nat → Prop} {cy : Int} {o b : Nat} (hc : CR A P cy μ) (hK : KK A P Gs) (ho : o < nn A) (hG : Gs o) (hbn : b < nn A) : MZ G l yX0_prepareWrite cX0_prepareWrite 3 none 3 69 z ρ [.ref (ρ 1), .ref (ρ (aOb o)), .ref (ρ (aOb b))] μ (cR none (rPrep A (o : Int) (b : Int)) P cy μ z) := by
  refine MZ.of (by decide) (by simp [Value.category]) (Nat.le_of_ble_eq_true rfl) (Nat.le_of_ble_eq_true rfl) ?_
  intro p e s m args below meth c ls H locs hC hx hb hr hlk X hL
  obtain ⟨h1, h2, h3, h4, h5, h6, h7, h8, hcy0, hcy1⟩ := id hc
  obtain ⟨⟨f00, f01, f02⟩, ⟨f10, f11, f12⟩, ⟨f20, f21, f22⟩, ⟨f30, f40, f50⟩, frr, foo⟩ := id h1
  obtain ⟨g1, g3, g4, g5, g6, g7⟩ := id h2
  obtain ⟨o1, o2, o3, o4⟩ := foo o ho
  obtain ⟨oh, oo, ⟨ov, os, osa, osb, osc⟩, ⟨ow, of, ofa, ofb, ofc⟩, oz⟩ := h8 o ho
  have ho7 := (hK.1.2.1 o ho).2
  have hb7 := hK.1.1.b7 o
  have b18 := hK.1.1.b18 0
  have hrn : (A 7 o).toNat < RN A := by unfold RN; omega
  obtain ⟨r1, r2, r3, r4, r5⟩ := frr _ hrn
  have rk := (h6 _ hrn).1
  refine m_aload_n hx hb hL dX0_prepareWrite_0 rfl ?_
  refine c_geti (x := (A 18 0)) hC X FX0_31 f10 rfl g3 dX0_prepareWrite_1 ?_
  refine lv_iconst (v := iv 1) hx hb dX0_prepareWrite_4 rfl ?_
  refine m_icmp_ne (tgt := 16) hx hb dX0_prepareWrite_5 (by decide) (by omega) (by omega) (fun c5 => ?_) (fun c5 => ?_)
  · refine m_aload_n hx hb hL dX0_prepareWrite_16 rfl ?_
    refine c_geti (x := (A 18 0)) hC X FX0_31 f10 rfl g3 dX0_prepareWrite_17 ?_
    refine lv_iconst (v := iv 2) hx hb dX0_prepareWrite_20 rfl ?_
    refine m_icmp_ne (tgt := 37) hx hb dX0_prepareWrite_21 (by decide) (by omega) (by omega) (fun c21 => ?_) (fun c21 => ?_)
    · exact m_vret hC X hr hlk ⟨rfl, rfl, by unfold rPrep; rw [if_neg (by omega), if_neg (fun q => by omega)]; exact hc, cfr.rf μ⟩ dX0_prepareWrite_37
    · have h18 : A 18 0 = 2 := by omega
      have h12 := hK.2.2.2.2.2.2.2 (by omega) o hG
      refine m_aload_n hx hb hL dX0_prepareWrite_24 rfl ?_
      refine m_aload_n hx hb hL dX0_prepareWrite_25 rfl ?_
      refine c_callV hC X (k_X0_mayMove (kd := A 3 (A 7 o).toNat) (fl := ow) (cy := cy) f10 o1 r2 oh rk of g4 (hK.1.1.b3 _) (by omega) (by omega)) VX0_66 f10 rfl ⟨by decide, by decide⟩ ⟨by decide, by decide⟩ hL.1 rfl (Nat.le_of_ble_eq_true rfl) dX0_prepareWrite_26 (fun v26 μ26 z26 H locs hp X => ?_)
      obtain ⟨rfl, hm_, hz_⟩ := hp
      have hm_ := hm_.symm
      have hz_ := hz_.symm
      subst hm_
      subst hz_
      by_cases hmm : A 3 (A 7 o).toNat = 4 ∧ ow ≠ cy
      · rw [bZ_t hmm]
        refine m_if_eq (tgt := 37) hx hb dX0_prepareWrite_29 (by decide) (by omega) (fun c29 => absurd c29 (by omega)) (fun c29 => ?_)
        refine m_aload_n hx hb hL dX0_prepareWrite_32 rfl ?_
        refine m_aload_n hx hb hL dX0_prepareWrite_33 rfl ?_
        refine c_callV hC X (k_X0_moveOrFail (o := o) hc hK h18 ho (hK.2.2.2.2.2.1.1 o hG) hmm.1) VX0_70 f10 rfl ⟨by decide, by decide⟩ ⟨by decide, by decide⟩ hL.1 rfl (Nat.le_of_ble_eq_true rfl) dX0_prepareWrite_34 (fun v34 μ34 z34 H locs hp X => ?_)
        obtain ⟨rfl, hz_, hc2, hf2⟩ := hp
        have hz_ := hz_.symm
        subst hz_
        exact m_vret hC X hr hlk ⟨rfl, rfl, by unfold rPrep; rw [if_neg (by omega), if_pos ⟨h18, toMoveN.mpr ⟨by omega, by have := hK.1.1.b13 o; have := fun q => hmm.2 (ofc.mpr q); omega, hmm.1⟩⟩]; exact hc2, hf2⟩ dX0_prepareWrite_37
      · rw [bZ_f hmm]
        refine m_if_eq (tgt := 37) hx hb dX0_prepareWrite_29 (by decide) (by omega) (fun c29 => ?_) (fun c29 => absurd c29 (by omega))
        exact m_vret hC X hr hlk ⟨rfl, rfl, by unfold rPrep; rw [if_neg (by omega), if_neg (fun q => hmm ⟨(toMoveN.mp q.2).2.2, fun w => by have q2 := (toMoveN.mp q.2).2.1; have := ofc.mp w; omega⟩)]; exact hc, cfr.rf μ⟩ dX0_prepareWrite_37
  · refine m_aload_n hx hb hL dX0_prepareWrite_8 rfl ?_
    refine m_aload_n hx hb hL dX0_prepareWrite_9 rfl ?_
    refine c_callV hC X (k_X0_see_s (o := b) hc hK.1.1 hK.2.1 hbn (hK.n4 (by omega))) VX0_41 f10 rfl ⟨by decide, by decide⟩ ⟨by decide, by decide⟩ hL.1 rfl (Nat.le_of_ble_eq_true rfl) dX0_prepareWrite_10 (fun v10 μ10 z10 H locs hp X => ?_)
    obtain ⟨rfl, hz_, hc2, hf2⟩ := hp
    have hz_ := hz_.symm
    subst hz_
    refine lv_goto (tgt := 37) hx hb dX0_prepareWrite_13 (by decide) ?_
    exact m_vret hC X hr hlk ⟨rfl, rfl, by unfold rPrep; rw [if_pos (by omega)]; exact hc2, hf2⟩ dX0_prepareWrite_37

