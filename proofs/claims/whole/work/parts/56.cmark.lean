/-! the collector marks (printed by wip/tools/cls3.py) -/
set_option maxHeartbeats 4000000 in
theorem k_X0_see_n {G : mG} {l : Launch} {z : Nat} {ρ : Nat → Nat} {μ : mM} : MZ G l yX0_see cX0_see 2 none 0 0 z ρ [.ref (ρ 1), .null] μ (cP none μ z) := by
  refine MZ.of (by decide) (by simp [Value.category]) (Nat.le_of_ble_eq_true rfl) (Nat.le_of_ble_eq_true rfl) ?_
  intro p e s m args below meth c ls H locs hC hx hb hr hlk X hL
  refine m_aload_nq (x := none) hx hb hL dX0_see_0 rfl ?_
  refine lv_ifnullN (tgt := 31) hx hb dX0_see_1 (by decide) ?_
  exact m_vret hC X hr hlk ⟨rfl, rfl, rfl⟩ dX0_see_31

set_option maxHeartbeats 4000000 in
theorem k_X0_see_s {G : mG} {l : Launch} {z : Nat} {ρ : Nat → Nat} {μ : mM} {A : rS} {P : Nat → Prop} {cy : Int} {o : Nat} (hc : CR A P cy μ) (hI : RI A) (hR : Rw A) (ho : o < nn A) (h34 : ∀ r : Nat, r < RN A → A 3 r ≠ 4) : MZ G l yX0_see cX0_see 2 none 1 21 z ρ [.ref (ρ 1), .ref (ρ (aOb o))] μ (cR none (rSee A (o : Int)) P cy μ z) := by
  refine MZ.of (by decide) (by simp [Value.category]) (Nat.le_of_ble_eq_true rfl) (Nat.le_of_ble_eq_true rfl) ?_
  intro p e s m args below meth c ls H locs hC hx hb hr hlk X hL
  obtain ⟨h1, h2, h3, h4, h5, h6, h7, h8, hcy0, hcy1⟩ := id hc
  obtain ⟨⟨f00, f01, f02⟩, ⟨f10, f11, f12⟩, ⟨f20, f21, f22⟩, ⟨f30, f40, f50⟩, frr, foo⟩ := id h1
  obtain ⟨g1, g3, g4, g5, g6, g7⟩ := id h2
  obtain ⟨o1, o2, o3, o4⟩ := foo o ho
  obtain ⟨oh, oo, ⟨ov, os, osa, osb, osc⟩, ⟨ow, of, ofa, ofb, ofc⟩, oz⟩ := h8 o ho
  refine m_aload_n hx hb hL dX0_see_0 rfl ?_
  refine lv_ifnull hx hb dX0_see_1 ?_
  refine m_aload_n hx hb hL dX0_see_4 rfl ?_
  refine c_geti (x := ov) hC X FX0_61 o1 rfl os dX0_see_5 ?_
  refine m_aload_n hx hb hL dX0_see_8 rfl ?_
  refine c_geti (x := cy) hC X FX0_34 f10 rfl g4 dX0_see_9 ?_
  refine m_icmp_eq (tgt := 31) hx hb dX0_see_12 (by decide) (by omega) (by omega) (fun c12 => ?_) (fun c12 => ?_)
  · exact m_vret hC X hr hlk ⟨rfl, rfl, by rw [rSee_n (Or.inr (by have := osc.mp c12; simp only [Int.toNat_natCast]; omega))]; exact hc, cfr.rf μ⟩ dX0_see_31
  · refine m_aload_n hx hb hL dX0_see_15 rfl ?_
    refine m_aload_n hx hb hL dX0_see_16 rfl ?_
    refine c_geti (x := cy) hC X FX0_34 f10 rfl g4 dX0_see_17 ?_
    refine c_puti (x := cy) hC X FwX0_61 o1 rfl dX0_see_20 (fun H locs X => ?_)
    refine m_aload_n hx hb hL dX0_see_23 rfl ?_
    refine m_getr (b := 3) hC X FX0_27 f10 rfl (by rw [mq_I]; exact f12) dX0_see_24 ?_
    refine m_aload_n hx hb hL dX0_see_27 rfl ?_
    have hb12 := hI.b12 o
    have h12 : A 12 o = 0 := by have := fun q => c12 (osc.mpr q); omega
    have hb17 := hI.b17 0
    have hb16 := hI.b16 0
    by_cases he : A 16 0 < A 17 0
    · have hrow := (hR.2.1 (A 17 0 - 1).toNat (by omega)).1
      have hb15 := hI.b15 (A 17 0 - 1).toNat
      have hob := (foo (A 15 (A 17 0 - 1).toNat).toNat (by unfold nn; omega)).1
      refine c_callV hC X (k_X4_append_s (q := aOb (A 15 (A 17 0 - 1).toNat).toNat) (n := A 17 0 - A 16 0) f30 o1 hob (by rw [mq_I, h5.2.1, if_pos he]) (by rw [mi_ne (fun w => aOb_f (by decide) w.1.symm)]; exact h5.2.2.1)) VX0_73 f30 rfl ⟨by decide, by decide⟩ ⟨by decide, by decide⟩ hL.1 rfl (Nat.le_of_ble_eq_true rfl) dX0_see_28 (fun v28 μ28 z28 H locs hp X => ?_)
      obtain ⟨rfl, rfl, rfl⟩ := hp
      exact m_vret hC X hr hlk ⟨rfl, rfl, see_CRs hI hR hc ho h12 h34 he, ((((cfr.rf μ).I (cad_o o) 4 _).Q (cad_o _) 6 _).Q (cad_f (by decide)) 1 _).I (cad_f (by decide)) 2 _⟩ dX0_see_31
    · refine c_callV hC X (k_X4_append_n (n := A 17 0 - A 16 0) f30 o1 (by rw [mq_I, h5.2.1, if_neg he]) (by rw [mi_ne (fun w => aOb_f (by decide) w.1.symm)]; exact h5.2.2.1)) VX0_73 f30 rfl ⟨by decide, by decide⟩ ⟨by decide, by decide⟩ hL.1 rfl (Nat.le_of_ble_eq_true rfl) dX0_see_28 (fun v28 μ28 z28 H locs hp X => ?_)
      obtain ⟨rfl, rfl, rfl⟩ := hp
      exact m_vret hC X hr hlk ⟨rfl, rfl, see_CRn hI hR hc ho h12 h34 he, ((((cfr.rf μ).I (cad_o o) 4 _).Q (cad_f (by decide)) 0 _).Q (cad_f (by decide)) 1 _).I (cad_f (by decide)) 2 _⟩ dX0_see_31

